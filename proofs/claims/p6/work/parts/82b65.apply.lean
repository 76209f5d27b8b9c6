set_option maxRecDepth 100000
section
variable {T : Nat → Option (Nat × Nat × List Nat × Nat × Nat)} {Fv : Int64 → Int64 → Prop} {P : Int64 → Prop} {u v w w1 : MS} {PR N q r n B W Y i h m g x j wb nb cb rk c f i2 h2 m2 g2 x2 j2 wb2 nb2 cb2 rk2 k a U d b e s : Nat} {L L2 : List Nat} {ow kd : Nat → Nat} {t rest : Int64} {gi gl ga ki kl ka kj : List Nat}
theorem beginsc_ok {la : Int} {li : Int32} (M : MIc T Fv P PR q u i h m L 0 0 j wb nb cb rk) (t9 : F u 1109 = 0) (t8 : F u 1108 = 0) (hla : la = 0 ∨ la = 1) : OK (fun w r => (r = 0 ∧ OPQ T Fv P PR q c w) ∨ (r = 1 ∧ FC q [1106, 946] [] [] [13] [] [] [] u w ∧ F w 1106 = F u 1106 + 1 ∧ F u 1106 < F u 1107 ∧ (la = 0 → j + 1 < 60) ∧ w.2 = u.2)) (hm_Ma_begins N u q (I la) li) := by
  have bw := M.1.2.2.2.2.2.2.2
  have st := M.2.2.1
  have hj60 := st.2.1.2
  unfold hm_Ma_begins hb_Ma_begins_0
  have go : F u 1106 < F u 1107 → (la = 0 → j + 1 < 60) → OK (fun w r => (r = 0 ∧ OPQ T Fv P PR q c w) ∨ (r = 1 ∧ FC q [1106, 946] [] [] [13] [] [] [] u w ∧ F w 1106 = F u 1106 + 1 ∧ F u 1106 < F u 1107 ∧ (la = 0 → j + 1 < 60) ∧ w.2 = u.2)) (hb_Ma_begins_57 N () u q) := by
    intro h1 h2
    unfold hb_Ma_begins_57
    refine ok_lt.mpr (ok_lt.mpr (ok_lt.mpr (ok_ck.mpr ⟨by decide, ok_some.mpr (Or.inr ⟨rfl, ?_, ?_, h1, h2, rfl⟩)⟩)))
    · rw [I_F (k := 1106), lit1q, I_add, wi_e, I_of ((wi u 1106 (F u 1106 + 1)).1 (pq q 13) + I 1), wi_e]
      generalize (wi u 1106 (F u 1106 + 1)).1 (pq q 13) + I 1 = y
      rw [I_of ((wi (wi u 1106 (F u 1106 + 1)) (pq q 13) y.toInt).1 946 + I 1), wi_e]
      exact FC.wi_g (FC.wi_q (FC.wi_g FC.rf (by omega) (by simp)) (by omega) (by simp)) (by omega) (by simp)
    · rw [I_F (k := 1106), lit1q, I_add, wi_e, I_of ((wi u 1106 (F u 1106 + 1)).1 (pq q 13) + I 1), wi_e]
      generalize (wi u 1106 (F u 1106 + 1)).1 (pq q 13) + I 1 = y
      rw [I_of ((wi (wi u 1106 (F u 1106 + 1)) (pq q 13) y.toInt).1 946 + I 1), wi_e, F_wi (ti_rng _).1 (ti_rng _).2, if_neg (by decide), F_wi (ti_rng _).1 (ti_rng _).2, if_neg (by unfold pq; omega), F_wi (by omega) (by omega), if_pos rfl]
  rw [I_F (k := 1106), I_F (k := 1107)]
  refine k_lt (FRG1 u _) (FRG1 u _) (fun h1 => ?_) (fun h1 => ?_)
  · rw [lit0q]
    refine k_eq ⟨by omega, by omega⟩ ⟨by decide, by decide⟩ (fun _ => ?_) (fun hn => go h1 (fun z => absurd z hn))
    rw [I_F (k := pq q 21), st.2.1.1, I_lit (n := 60)]
    refine k_lt ⟨by omega, by omega⟩ ⟨by decide, by decide⟩ (fun hc => go h1 (fun _ => ?_)) (fun _ => ?_)
    · have hc : ((j + 1 : Nat) : Int) < 60 := hc
      omega
    · refine ok_bnd.mpr (ok_mono (endsBy_w (N := N) (a := 21) M.1 (by rw [M.2.1]; decide) (by omega)) (fun w3 _ hw3 => ok_ck.mpr ⟨by decide, ok_some.mpr (Or.inl ⟨rfl, Or.inr (Or.inr (Or.inl (END_w M.1 hw3.1 hw3.2 t9 (M21 M))))⟩)⟩))
  · refine ok_lt.mpr (ok_lt.mpr (ok_ck.mpr ⟨by decide, ok_some.mpr (Or.inl ⟨rfl, Or.inr (Or.inr (Or.inr ?_))⟩)⟩))
    rw [lit1q, wi_e, I_of li, wi_e]
    obtain ⟨n, ow, kd, Y, p⟩ := MI_p M
    have f1 : FC q [1108] [] [] [29] [] [] [] u (wi (wi u 1108 1) (pq q 29) li.toInt) := FC.wi_q (FC.wi_g FC.rf (by omega) (by simp)) (by omega) (by simp)
    have p1 : PTQ (wi (wi u 1108 1) (pq q 29) li.toInt) q n ow kd Fv P (nb + m) (wb + h) Y := PTQ_same (PT_g (k := 1108) (by omega) p) (fun k hk => if_neg (pq_inj (by simp at hk; omega))) (fun _ _ => rfl)
    have h9 : F (wi (wi u 1108 1) (pq q 29) li.toInt) (pq q 9) = 0 := by rw [f1.Fq (by omega) (by simp)]; exact M.2.1
    have e8 : F (wi (wi u 1108 1) (pq q 29) li.toInt) 1108 = 1 := by
      rw [F_wi (ti_rng li).1 (ti_rng li).2, if_neg (by unfold pq; omega), F_wi (by decide) (by decide), if_pos rfl]
    generalize wi (wi u 1108 1) (pq q 29) li.toInt = w at f1 p1 h9 e8 ⊢
    have dw : DWc Fv P PR w := DWc_fc M.1.1 f1 M.1.2.2.2.2.2.2.1 (by rw [M.2.1]; decide) (by rw [h9]; decide) (SMQ_up (M.1.1.2 q M.1.2.2.2.2.2.2.1).1 (f1.Fq (by omega) (by simp)) (f1.Fq (by omega) (by simp)) (by rw [f1.Fq (by omega) (by simp)]; exact Int.le_refl _) (by rw [M.2.1]; decide)) ⟨n, ow, kd, _, _, Y, p1⟩ (by simp) (by simp)
    refine ⟨GEN_f M.1 f1 dw (by simp) (by simp) (LNB_k (MI_ln M) f1 (by simp)), ⟨by rw [h9]; decide, fun _ => by rw [e8]; decide⟩, by rw [f1.Fg (by omega) (by simp)]; exact t9, i, h, m, L, 0, j, wb, nb, cb, rk, STc_s st (f1.2.2.2.2.2.2.1 q 30 (by omega) (by simp)) (f1.2.2.2.2.2.2.1 q 37 (by omega) (by simp)) (f1.2.2.2.2.1 q 21 (by omega) (by simp)) (f1.2.2.2.2.1 q 28 (by omega) (by simp)), ⟨M.2.2.2.1.1, by rw [f1.Fg (by omega) (by simp)]; exact M.2.2.2.1.2⟩, Or.inl rfl, ⟨p1.2.2.1.1, p1.2.1.1⟩, fun z => absurd rfl z⟩
theorem fin_call {u1 w2 : MS} (M : MIc T Fv P PR q u i h m L 0 0 j wb nb cb rk) (t9 : F u 1109 = 0) (t8 : F u 1108 = 0) (hf : PHc T u q i 0 rk ≤ c) (f1 : FC q [1106, 946] [] [] [13] [] [] [] u u1) (e1 : F u1 1106 = F u 1106 + 1) (hlt : F u 1106 < F u 1107) (f2 : FC q [] [] [] [26] [] [] [35] u1 w1) (en : ENQ T Fv P q n ow kd Y s e rk2 w1 w) (hrk : rk2 ≤ rk + potc T i 0 (F u (pq q 8)).toNat) (fh : FNc q w w2) (ph : ∀ B W, PTQ w q n ow kd Fv P B W Y → PTQ w2 q n ow kd Fv P (B + k) W Y) (ln2 : LNB w2 q) (te : T e = some (s, k, [], 0, 0)) : OPQ T Fv P PR q c w2 := by
  obtain ⟨f3, e5, j', wb', nb', cb', rk', st', p', hrk', hnb⟩ := en
  have p2 := ph _ _ p'
  have fc : FC q [1105, 1106, 946] [] [] [4, 5, 13, 21, 24, 26, 42, 43, 45] [] [30, 32] [2, 3, 33, 35, 6] u w2 := FC.tr (FC.tr (FC.tr (FC.mo f1 (by simp) (by simp) (by simp) (by simp) (by simp) (by simp) (by simp)) (FC.mo f2 (by simp) (by simp) (by simp) (by simp) (by simp) (by simp) (by simp))) (FC.mo f3 (by simp) (by simp) (by simp) (by simp) (by simp) (by simp) (by simp))) (FC.mo fh (by simp) (by simp) (by simp) (by simp) (by simp) (by simp) (by simp))
  have e06 : F w2 1106 = F u 1106 + 1 := by rw [fh.Fg (by omega) (by simp), f3.Fg (by omega) (by simp), f2.Fg (by omega) (by simp)]; exact e1
  have e07 : F w2 1107 = F u 1107 := fc.Fg (by omega) (by simp)
  have h9 : F w2 (pq q 9) = 0 := by rw [fc.Fq (by omega) (by simp)]; exact M.2.1
  have bw := M.1.2.2.2.2.2.2.2
  have M2 : MIc T Fv P PR q w2 e s k [] 0 0 j' wb' nb' cb' rk' := MI_new M fc (by simp) (by simp) (SMQ_up (M.1.1.2 q M.1.2.2.2.2.2.2.1).1 (fc.Fq (by omega) (by simp)) (fc.Fq (by omega) (by simp)) (by rw [fc.Fq (by omega) (by simp)]; exact Int.le_refl _) (by rw [M.2.1]; decide)) h9 p2 ln2 (STc_s st' (fh.2.2.2.2.2.2.1 q 30 (by omega) (by simp)) (fh.2.2.2.2.2.2.1 q 37 (by omega) (by simp)) (fh.2.2.2.2.1 q 21 (by omega) (by simp)) (fh.2.2.2.2.1 q 28 (by omega) (by simp))) te (by rw [fh.Fg (by omega) (by simp)]; exact e5) ⟨fun _ => by rw [fc.Fg (by omega) (by simp)]; exact M.2.2.2.2.2.1.1 rfl, fun z => absurd rfl z⟩ (fun z => absurd rfl z) (fun z => absurd rfl z) (by rw [e06, e07]; omega)
  refine Or.inl ⟨⟨e, s, k, [], 0, 0, j', wb', nb', cb', rk', M2, ?_⟩, by rw [fc.Fg (by omega) (by simp)]; exact t9, by rw [fc.Fg (by omega) (by simp)]; exact t8⟩
  have pb := pot_le (T := T) (i := e) (x := 0) (t := (F w2 (pq q 8)).toNat) (fun z => absurd rfl z)
  unfold PHc at hf ⊢
  rw [e06, e07]
  rw [show (F u 1107 - F u 1106).toNat = (F u 1107 - (F u 1106 + 1)).toNat + 1 by omega, Nat.add_mul, Nat.one_mul] at hf
  omega
theorem call_okc {la : Int} {fn : Nat} (M : MIc T Fv P PR q u i h m L 0 0 j wb nb cb rk) (t9 : F u 1109 = 0) (t8 : F u 1108 = 0) (hf : PHc T u q i 0 rk ≤ c) (hla : la = 0 ∨ (la = 1 ∧ L = [])) (hfn : ((fn : Nat) : Int) < F u 442) (e2 : A u 23 (i + 2) = ((s : Nat) : Int)) (ea : A u 25 fn = ((s : Nat) : Int)) (hs : s ≤ h) (fl : FLc T L (h - s)) (t2 : T (i + 4) = some (h - s + 1, m, L, 0, 0)) : OK (fun w _ => OPQ T Fv P PR q c w) (hm_Ma_call N u q (I ((fn : Nat) : Int)) (I la)) := by
  obtain ⟨n, ow, kd, Y, p⟩ := MI_p M
  have mb := MI_b M
  have w2b := (M.1.2.2.1 _ _ _ _ _ _ t2).1
  obtain ⟨⟨c1, c1b⟩, c2, -⟩ := M.1.2.2.2.1
  obtain ⟨a, e, k1, k2, k3⟩ := c2 fn hfn
  have ea2 : a = s := by omega
  subst ea2
  have eb := (M.1.2.2.1 _ _ _ _ _ _ k3).1
  unfold hm_Ma_call hb_Ma_call_0 hb_Ma_call_70
  rw [opd3 M (by omega), bnd_so]
  refine ok_bnd.mpr (ok_mono (beginsc_ok (N := N) (c := c) M t9 t8 (hla.imp id (fun z => z.1))) (fun w1 r hw1 => ?_))
  rcases hw1 with ⟨rfl, o⟩ | ⟨rfl, f1, e1, hlt, hj, r1⟩
  · exact ok_br.mpr ⟨fun _ => ok_some.mpr o, fun z => absurd z (by decide)⟩
  refine ok_br.mpr ⟨fun z => absurd z (by decide), fun _ => ?_⟩
  rw [lit0q]
  refine k_lt ⟨by omega, by omega⟩ ⟨by decide, by decide⟩ (fun z => absurd z (by omega)) (fun _ => ?_)
  rw [I_F (k := 442), f1.Fg (by omega) (by simp)]
  refine k_le (FRG1 u _) ⟨by omega, by omega⟩ (fun z => absurd z (by omega)) (fun _ => ?_)
  refine e_in ⟨by omega, by omega⟩ (by decide) ?_
  have a5 : F w1 1105 = ((i : Nat) : Int) := by rw [f1.Fg (by omega) (by simp)]; exact M.2.2.2.1.2
  rw [I_F (k := 1105), a5, I_lit (n := 2), I_add, Co_e (k := i + 2) (by show _ + (2 : Int) = _; omega) (by omega), bnd_so, f1.ag (by omega) (by simp), e2, tnI (n := fn) rfl (by omega), I_A (k := 29), f1.ag (by omega) (by simp), k2, I_F (k := 1105), a5, I_lit (n := 4), I_add, show ((i : Nat) : Int) + (OfNat.ofNat 4 : Int) = ((i + 4 : Nat) : Int) by show _ + (4 : Int) = _; omega]
  have s1 : SCQ u w1 := SCQ_f f1 (by simp) (by simp)
  have wt := WFT_s s1 M.1.2.2.1
  have st1 := STc_s (w := w1) M.2.2.1 (f1.2.2.2.2.2.2.1 q 30 (by omega) (by simp)) (f1.2.2.2.2.2.2.1 q 37 (by omega) (by simp)) (f1.2.2.2.2.1 q 21 (by omega) (by simp)) (f1.2.2.2.2.1 q 28 (by omega) (by simp))
  have p1 : PTQ w1 q n ow kd Fv P (nb + m) (wb + h) Y := PTQ_same p (fun k hk => f1.2.2.2.2.1 q k (by simp at hk; omega) (fun _ => by simp at hk ⊢; omega)) (fun k _ => by rw [r1])
  have ln1 := LNB_k (MI_ln M) f1 (by simp)
  have fin : ∀ {w : MS} {rk2 : Nat}, ENQ T Fv P q n ow kd Y a e rk2 w1 w → rk2 ≤ rk + potc T i 0 (F u (pq q 8)).toNat → OPQ T Fv P PR q c w := fun {w rk2} en hrk => fin_call (k := 0) M t9 t8 hf f1 e1 hlt FC.rf en hrk FNc.rf (fun B W p => p) (LNB_k ln1 en.1 (by simp)) k3
  rcases hla with rfl | ⟨rfl, rfl⟩
  · refine ok_bnd.mpr (ok_mono (enter0_ok (N := N) (rk2 := rk + 32 * cKc T (i + 4) 24000) wt st1 (hj rfl) p1 hs fl t2 eb.2 (Nat.le_refl _)) (fun w _ hw => ok_some.mpr (fin hw ?_)))
    have := pot_x (j := i + 4) (t := (F u (pq q 8)).toNat) M.2.2.2.1.1 mb.1.2 (by omega)
    unfold potc at this ⊢
    rw [if_pos rfl] at this ⊢
    rw [if_pos rfl] at this
    omega
  · exact ok_bnd.mpr (ok_mono (enter1_ok (N := N) (rk2 := rk) wt st1 p1 hs eb.2 (Nat.le_refl _)) (fun w _ hw => ok_some.mpr (fin hw (by omega))))
theorem fun_info {ha hb : Int64} (cd : CDT T u Fv) (hF : Fv ha hb) : ∃ a e k : Nat, T e = some (a, k, [], 0, 0) ∧ (∀ w q, SCQ u w → hm_Co_takes N w (I (va ha)) = some (w, I ((a : Nat) : Int)) ∧ hm_Ma_entryOf N w q (I (va ha)) = some (w, I ((e : Nat) : Int)) ∧ ∃ fn, hm_Ma_functionOf N w (I (va ha)) = some (w, fn)) ∧ ((∃ pl p0 : Nat, va ha = ((pl : Nat) : Int) ∧ ((pl : Nat) : Int) < F u 449 ∧ pl < 400 ∧ A u 32 pl = ((p0 : Nat) : Int) ∧ A u 23 p0 = ((k : Nat) : Int) ∧ p0 + k < 24000 ∧ va hb = ((k : Nat) : Int)) ∨ (F u 449 ≤ va ha ∧ 0 ≤ va ha ∧ k = 0)) := by
  obtain ⟨⟨c1, c1b⟩, c2, ⟨c3, c3b⟩, c4, -, c6⟩ := cd
  rcases c6 ha hb hF with ⟨pl, v1, v2, v3⟩ | ⟨fn, v1, v2, v3⟩
  · obtain ⟨a, e, p0, k, d1, d2, d3, d4, d5, d6, d7⟩ := c4 pl v2
    refine ⟨a, e, k, d6, fun w q s => ⟨?_, ?_, ?_⟩, Or.inl ⟨pl, p0, v1, v2, by omega, d3, d4, d5, by rw [v3, d3, ← d4]; rfl⟩⟩
    · unfold hm_Co_takes hb_Co_takes_0 hb_Co_takes_50
      rw [v1, I_lit (n := 1000000), I_sub, lit0q, decL (by show _ ≤ _ - (1000000 : Int); omega) (by show _ - (1000000 : Int) < _; omega) (by decide) (by decide), decide_eq_true (by show _ - (1000000 : Int) < 0; omega), br_tq, decL (by omega) (by omega) (by decide) (by decide), decide_eq_false (by omega), br_fq, I_F (k := 449), s.F (by simp), decI (by omega) (by omega) (by omega) (by omega), decide_eq_false (by omega), br_fq, (I_inb (by omega) (by omega)).mpr ⟨by omega, by omega⟩, ck_t, tnI (n := pl) rfl (by omega), I_A, s.A (by simp), d1]
    · unfold hm_Ma_entryOf hb_Ma_entryOf_0 hb_Ma_entryOf_62 hm_Ma_functionOf hb_Ma_functionOf_0 hb_Ma_functionOf_14
      rw [v1, I_lit (n := 1000000), decL (by omega) (by omega) (by decide) (by decide), decide_eq_true (by show _ < (1000000 : Int); omega), br_tq, bnd_so, show decide ((-1 : Int32) < 0) = true from by decide, br_tq, lit0q, decL (by omega) (by omega) (by decide) (by decide), decide_eq_false (by omega), br_fq, I_F (k := 449), s.F (by simp), decI (by omega) (by omega) (by omega) (by omega), decide_eq_false (by omega), br_fq, (I_inb (by omega) (by omega)).mpr ⟨by omega, by omega⟩, ck_t, tnI (n := pl) rfl (by omega), I_A, s.A (by simp), d2]
    · unfold hm_Ma_functionOf hb_Ma_functionOf_0 hb_Ma_functionOf_14
      exact br_any ⟨_, rfl⟩ ⟨_, rfl⟩
  · obtain ⟨a, e, d1, d2, d3⟩ := c2 fn v2
    refine ⟨a, e, 0, d3, fun w q s => ⟨?_, ?_, ?_⟩, Or.inr ⟨by omega, by omega, rfl⟩⟩
    · unfold hm_Co_takes hb_Co_takes_0 hb_Co_takes_27
      rw [v1, I_lit (n := 1000000), I_sub, show (1000000 : Int) + ((fn : Nat) : Int) - (OfNat.ofNat 1000000 : Int) = ((fn : Nat) : Int) by show (1000000 : Int) + ((fn : Nat) : Int) - (1000000 : Int) = _; omega, lit0q, decL (by omega) (by omega) (by decide) (by decide), decide_eq_false (by omega), br_fq, I_F (k := 442), s.F (by simp), decI (by omega) (by omega) (by omega) (by omega), decide_eq_false (by omega), br_fq, (I_inb (by omega) (by omega)).mpr ⟨by omega, by omega⟩, ck_t, tnI (n := fn) rfl (by omega), I_A, s.A (by simp), d1]
    · unfold hm_Ma_entryOf hb_Ma_entryOf_0 hb_Ma_entryOf_33 hm_Ma_functionOf hb_Ma_functionOf_0 hb_Ma_functionOf_14
      rw [v1, I_lit (n := 1000000), decL (by omega) (by omega) (by decide) (by decide), decide_eq_false (by show ¬ _ < (1000000 : Int); omega), br_fq, I_sub, show (1000000 : Int) + ((fn : Nat) : Int) - (OfNat.ofNat 1000000 : Int) = ((fn : Nat) : Int) by show (1000000 : Int) + ((fn : Nat) : Int) - (1000000 : Int) = _; omega, bnd_so, lit0q, decL (by omega) (by omega) (by decide) (by decide), decide_eq_false (by omega), br_fq, I_F (k := 442), s.F (by simp), decI (by omega) (by omega) (by omega) (by omega), decide_eq_false (by omega), br_fq, (I_inb (by omega) (by omega)).mpr ⟨by omega, by omega⟩, ck_t, tnI (n := fn) rfl (by omega), I_A, s.A (by simp), d2]
    · unfold hm_Ma_functionOf hb_Ma_functionOf_0 hb_Ma_functionOf_14
      exact br_any ⟨_, rfl⟩ ⟨_, rfl⟩
theorem hold_ok (p : PTQ u r n ow kd Fv P B W Y) (ln : LNB u r) (gt : GT n ow kd P t) (e3 : so t = 3) (hB : B + 40 ≤ 4000) (hk : k ≤ 40) (inf : (∃ pl p0 : Nat, va (u.2.2.2 (pq r 2) (vn t)) = ((pl : Nat) : Int) ∧ ((pl : Nat) : Int) < F u 449 ∧ pl < 400 ∧ A u 32 pl = ((p0 : Nat) : Int) ∧ A u 23 p0 = ((k : Nat) : Int) ∧ p0 + k < 24000 ∧ va (u.2.2.2 (pq r 2) (vn t + 1)) = ((k : Nat) : Int)) ∨ (F u 449 ≤ va (u.2.2.2 (pq r 2) (vn t)) ∧ 0 ≤ va (u.2.2.2 (pq r 2) (vn t)) ∧ k = 0)) (hN : 100 ≤ N) : OK (fun w _ => FNc r u w ∧ PTQ w r n ow kd Fv P (B + k) W Y ∧ LNB w r) (hm_Ma_hold N u q r (pq r 2) t) := by
  obtain ⟨a1, a2, a3, a4, a5⟩ := fun_at p.1.2.2 gt e3
  have pn := p.1.2.1
  unfold hm_Ma_hold hb_Ma_hold_0 hb_Ma_hold_24
  rw [valI, a1]
  refine e_in ⟨by omega, by omega⟩ (by decide) ?_
  rw [tnI (n := vn t) rfl (by omega), valI, lit0q]
  rcases inf with ⟨pl, p0, v1, v2, v2b, v3, v4, v5, v6⟩ | ⟨v1, v2, rfl⟩
  · rw [v1]
    refine k_lt ⟨by omega, by omega⟩ ⟨by decide, by decide⟩ (fun z => absurd z (by omega)) (fun _ => ?_)
    rw [I_F (k := 449)]
    refine k_lt ⟨by omega, by omega⟩ (FRG1 u _) (fun _ => ?_) (fun z => absurd z (by omega))
    refine e_in ⟨by omega, by omega⟩ (by decide) ?_
    rw [tnI (n := pl) rfl (by omega), I_A (k := 32), v3]
    have hv6 : vn (u.2.2.2 (pq r 2) (vn t + 1)) = k := by omega
    have gen : ∀ (K d : Nat) (w : MS), d ≤ k → k - d < K → FNc r u w → PTQ w r n ow kd Fv P (B + d) W Y → LNB w r → w.2.2.2 (pq r 2) = u.2.2.2 (pq r 2) → OK (fun w _ => FNc r u w ∧ PTQ w r n ow kd Fv P (B + k) W Y ∧ LNB w r) (hg_Ma_hold N K w q r (pq r 2) t (I ((p0 : Nat) : Int)) (I ((d : Nat) : Int))) := by
      intro K
      induction K with
      | zero => intro d _ _ hK; omega
      | succ K ih =>
        intro d w hd hK fw pw lw cw
        show OK _ (hb_Ma_hold_40 N (hg_Ma_hold N K) w q r (pq r 2) t (I ((p0 : Nat) : Int)) (I ((d : Nat) : Int)))
        unfold hb_Ma_hold_40
        rw [Co_e (k := p0) rfl (by omega), bnd_so, fw.ag (by omega) (by simp), v4]
        refine k_le ⟨by omega, by omega⟩ ⟨by omega, by omega⟩ (fun hh => ok_some.mpr ⟨fw, by rw [show k = d by omega]; exact pw, lw⟩) (fun hh => ?_)
        rw [lit1q, I_add, I_add, Co_e (k := p0 + 1 + d) (by omega) (by omega), bnd_so, valI, a1, I_lit (n := 2), I_add, I_add]
        refine e_in ⟨by show 0 ≤ _ + (2 : Int) + _; omega, by show _ + (2 : Int) + _ < _; omega⟩ (by decide) ?_
        rw [tnI (n := vn t + 2 + d) (by show _ + (2 : Int) + _ = _; omega) (by omega), cw]
        refine ok_bnd.mpr (ok_mono (bind_t (N := N) pw lw (by omega) (a5 d (by omega))) (fun w3 _ hw3 => ?_))
        obtain ⟨f3, p3, l3, -, c3⟩ := hw3
        rw [I_add, show ((d : Nat) : Int) + 1 = ((d + 1 : Nat) : Int) by omega]
        exact ih (d + 1) w3 (by omega) (by omega) (FNc.tr fw f3) p3 l3 (c3.trans cw)
    rw [show (0 : Int) = ((0 : Nat) : Int) from rfl]
    exact gen N 0 u (by omega) (by omega) FNc.rf p ln rfl
  · refine k_lt (ti_rng _) ⟨by decide, by decide⟩ (fun z => absurd z (by omega)) (fun _ => ?_)
    rw [I_F (k := 449)]
    exact k_lt (ti_rng _) (FRG1 u _) (fun z => absurd z (by omega)) (fun _ => ok_some.mpr ⟨FNc.rf, p, ln⟩)
theorem takeOut_t (p : PTQ u q n ow kd Fv P B W Y) (hs : s + 1 ≤ W) : OK (fun w _ => FC q [] [] [] [26] [] [] [35] u w ∧ PTQ w q n ow kd Fv P B (W - 1) Y) (hm_Fr_takeOut N u q (I ((s : Nat) : Int))) := by
  obtain ⟨⟨p1, p2, p3⟩, ⟨p4, p5⟩, ⟨p6, p7⟩, ⟨p8, p9⟩, ⟨l, a1, a2⟩, ⟨l2, b1, b2⟩, cc⟩ := p
  unfold hm_Fr_takeOut hb_Fr_takeOut_0 hb_Fr_takeOut_39
  rw [I_F (k := pq q 26), p6, lit0q, lit1q, I_sub, I_sub, I_add, lnQ_e b1]
  refine k_lt ⟨by omega, by omega⟩ ⟨by decide, by decide⟩ (fun z => absurd z (by omega)) (fun _ => ?_)
  refine e_cp ⟨by omega, by omega, by omega, by omega, by omega⟩ (by omega) (by omega) (ok_lt.mpr (ok_lt.mpr (ok_some.mpr ?_)))
  rw [tnI (n := s) rfl (by omega), show ((W : Nat) : Int) - ((s : Nat) : Int) - 1 + 1 = ((W - s : Nat) : Int) by omega, show ((W : Nat) : Int) - ((s : Nat) : Int) - 1 = ((W - s - 1 : Nat) : Int) by omega, tnI (n := W - s) rfl (by omega), tnI (n := W - s - 1) rfl (by omega)]
  generalize hg : va_cpy (u.2.2.2 (pq q 35)) (u.2.2.2 (pq q 35)) (W - s) (W - s - 1) s = gg
  have gg1 : ∀ k, k < W - 1 → GT n ow kd P (gg k) := fun k hk => by
    rw [← hg]
    by_cases z : W - s - 1 ≤ k
    · have := cpy_in (f := u.2.2.2 (pq q 35)) (g := u.2.2.2 (pq q 35)) (a := W - s) (c := W - s - 1) (k := s) (j := k - (W - s - 1)) (by omega)
      rw [show W - s - 1 + (k - (W - s - 1)) = k by omega] at this
      rw [this]; exact p7 _ (by omega)
    · rw [cpy_out (by omega)]; exact p7 k (by omega)
  rw [show (upJ u (pq q 35) gg).1 (pq q 26) = I ((W : Nat) : Int) by show u.1 (pq q 26) = _; rw [I_F, p6], I_sub, show ((W : Nat) : Int) - 1 = ((W - 1 : Nat) : Int) by omega, wi_e]
  have f : FC q [] [] [] [26] [] [] [35] u (wi (upJ u (pq q 35) gg) (pq q 26) ((W - 1 : Nat) : Int)) := FC.wi_q (FC.J_q FC.rf (by omega) (by simp)) (by omega) (by simp)
  refine ⟨f, ⟨by rw [f.Fq (by omega) (by simp)]; exact p1, p2, by rw [f.jq (by omega) (by simp)]; exact p3⟩, ⟨by rw [f.Fq (by omega) (by simp)]; exact p4, by rw [f.jq (by omega) (by simp)]; exact p5⟩, ⟨by rw [F_wi (by omega) (by omega), if_pos rfl], fun k hk => ?_⟩, ⟨by rw [f.Fq (by omega) (by simp)]; exact p8, by rw [f.jq (by omega) (by simp)]; exact p9⟩, ⟨l, by rw [f.Fq (by omega) (by simp)]; exact a1, a2⟩, ⟨l2, by rw [f.Fq (by omega) (by simp)]; exact b1, by omega⟩, cc⟩
  show GT n ow kd P ((upJ u (pq q 35) gg).2.2.2 (pq q 35) k)
  rw [upJ_row]; exact gg1 k hk
theorem apply_okc {la : Int} (M : MIc T Fv P PR q u i h m L 0 0 j wb nb cb rk) (t9 : F u 1109 = 0) (t8 : F u 1108 = 0) (hf : PHc T u q i 0 rk ≤ c) (hla : la = 0 ∨ (la = 1 ∧ L = [])) (hs : s + 1 ≤ h) (fl : FLc T L (h - s - 1)) (t2 : T (i + 3) = some (h - s, m, L, 0, 0)) (hN : 100 ≤ N) : OK (fun w _ => OPQ T Fv P PR q c w) (hm_Ma_apply N u q (I ((s : Nat) : Int)) (I la)) := by
  obtain ⟨n, ow, kd, Y, p⟩ := MI_p M
  have mb := MI_b M
  have pn := p.1.2.1
  have w2b := (M.1.2.2.1 _ _ _ _ _ _ t2).1
  have wfh := (M.1.2.2.1 _ _ _ _ _ _ M.2.2.2.1.1).2.1
  obtain ⟨b0, g0⟩ := below_m (N := N) (k := s) M p rfl (by omega)
  have er : ∀ {how ar : Int} {t : Int64}, GT n ow kd P t → (ar = -1 ∨ (0 ≤ ar ∧ ar < 22)) → (how = 1 ∨ how = 2 ∨ how = 3) → OPQ T Fv P PR q c (wl (wi (wi u 1109 how) 1111 ar) 1110 t) := fun gt h1 h2 => ERR_t M t9 t8 hf ⟨n, ow, kd, _, _, Y, p, gt⟩ h2 h1
  unfold hm_Ma_apply hb_Ma_apply_0
  rw [b0, bnd_so, e_tag, bnd_so, I_lit (n := 3)]
  generalize hft : u.2.2.2 (pq q 35) (wb + h - 1 - s) = ft at g0
  have br3 : OK (fun w _ => OPQ T Fv P PR q c w) (bnd (hm_Ma_tell N u q 1 17 ft) (fun u32 _ => some (u32, ()))) := by
    rw [lit1q, I_lit (n := 17), tell_e, bnd_so]
    exact ok_some.mpr (er g0 (Or.inr ⟨by decide, by decide⟩) (Or.inl rfl))
  refine k_eq (so_r _) ⟨by decide, by decide⟩ (fun e3 => ?_) (fun _ => br3)
  have e3 : so ft = 3 := e3
  obtain ⟨a1, a2, a3, a4, a5⟩ := fun_at p.1.2.2 g0 e3
  rw [valI, a1]
  refine e_in ⟨by omega, by omega⟩ (by decide) ?_
  obtain ⟨a, e, k, te, tinf, inf⟩ := fun_info (N := N) M.1.2.2.2.1 a2
  have teb := (M.1.2.2.1 _ _ _ _ _ _ te)
  have srf : SCQ u u := ⟨fun _ _ => rfl, fun _ _ => rfl⟩
  rw [tnI (n := vn ft) rfl (by omega), valI, (tinf u q srf).1, bnd_so]
  have br4 : OK (fun w _ => OPQ T Fv P PR q c w) (bnd (hm_Te_make N u 0 (I ((s : Nat) : Int))) (fun u30 r30 => bnd (hm_Ma_tell N u30 q 1 18 r30) (fun u31 _ => some (u31, ())))) := by
    rw [lit0q, e_make, bnd_so, lit1q, I_lit (n := 18), tell_e, bnd_so]
    exact ok_some.mpr (er (GT_0c M.1.2.1 ⟨by omega, by omega⟩) (Or.inr ⟨by decide, by decide⟩) (Or.inl rfl))
  refine k_eq ⟨by omega, by omega⟩ ⟨by omega, by omega⟩ (fun eas => ?_) (fun _ => br4)
  have eas : a = s := by omega
  subst eas
  rw [opd2 M (by omega), bnd_so]
  refine ok_bnd.mpr (ok_mono (beginsc_ok (N := N) (c := c) M t9 t8 (hla.imp id (fun z => z.1))) (fun w1 r hw1 => ?_))
  rcases hw1 with ⟨rfl, o⟩ | ⟨rfl, f1, e1, hlt, hj, r1⟩
  · exact ok_br.mpr ⟨fun _ => ok_some.mpr o, fun z => absurd z (by decide)⟩
  refine ok_br.mpr ⟨fun z => absurd z (by decide), fun _ => ?_⟩
  have p1 : PTQ w1 q n ow kd Fv P (nb + m) (wb + h) Y := PTQ_same p (fun k hk => f1.2.2.2.2.1 q k (by simp at hk; omega) (fun _ => by simp at hk ⊢; omega)) (fun k _ => by rw [r1])
  refine ok_bnd.mpr (ok_mono (takeOut_t (N := N) (s := a) p1 (by omega)) (fun w2 _ hw2 => ?_))
  obtain ⟨f2, p2⟩ := hw2
  have s1 : SCQ u w1 := SCQ_f f1 (by simp) (by simp)
  have s2 : SCQ w1 w2 := SCQ_f f2 (by simp) (by simp)
  have s12 : SCQ u w2 := ⟨fun k hk => (s2.1 k hk).trans (s1.1 k hk), fun k hk => (s2.2 k hk).trans (s1.2 k hk)⟩
  have wt := WFT_s s12 M.1.2.2.1
  obtain ⟨-, te2, fn, tf⟩ := tinf w2 q s12
  rw [tf, bnd_so, te2, bnd_so]
  have a5' : F w2 1105 = ((i : Nat) : Int) := by rw [f2.Fg (by omega) (by simp), f1.Fg (by omega) (by simp)]; exact M.2.2.2.1.2
  rw [I_F (k := 1105), a5', I_add, show ((i : Nat) : Int) + (OfNat.ofNat 3 : Int) = ((i + 3 : Nat) : Int) by show _ + (3 : Int) = _; omega]
  have st1 := STc_s (w := w1) M.2.2.1 (f1.2.2.2.2.2.2.1 q 30 (by omega) (by simp)) (f1.2.2.2.2.2.2.1 q 37 (by omega) (by simp)) (f1.2.2.2.2.1 q 21 (by omega) (by simp)) (f1.2.2.2.2.1 q 28 (by omega) (by simp))
  have st2 := STc_s (w := w2) st1 (f2.2.2.2.2.2.2.1 q 30 (by omega) (by simp)) (f2.2.2.2.2.2.2.1 q 37 (by omega) (by simp)) (f2.2.2.2.2.1 q 21 (by omega) (by simp)) (f2.2.2.2.2.1 q 28 (by omega) (by simp))
  have ln1 := LNB_k (MI_ln M) f1 (by simp)
  have ln2 := LNB_k ln1 f2 (by simp)
  rw [show wb + h - 1 = wb + (h - 1) by omega] at p2
  have c2 : w2.2.2.2 (pq q 2) = u.2.2.2 (pq q 2) := by rw [f2.jq (by omega) (by simp), r1]
  have fin : ∀ {w : MS} {rk2 : Nat}, ENQ T Fv P q n ow kd Y a e rk2 w2 w → rk2 ≤ rk + potc T i 0 (F u (pq q 8)).toNat → OK (fun w _ => OPQ T Fv P PR q c w) (bnd (hm_Ma_hold N w q q (pq q 2) ft) (fun u29 _ => some (u29, ()))) := fun {w rk2} en hrk => by
    have f3 := en.1
    obtain ⟨j', wb', nb', cb', rk', st', p', hrk', hnb⟩ := en.2.2
    have c3 : w.2.2.2 (pq q 2) = u.2.2.2 (pq q 2) := by rw [f3.jq (by omega) (by simp)]; exact c2
    have s3 : SCQ w2 w := SCQ_f f3 (by simp) (by simp)
    have s13 : SCQ u w := ⟨fun k hk => (s3.1 k hk).trans (s12.1 k hk), fun k hk => (s3.2 k hk).trans (s12.2 k hk)⟩
    refine ok_bnd.mpr (ok_mono (hold_ok (N := N) (q := q) (k := k) p' (LNB_k ln2 f3 (by simp)) g0 e3 (by omega) teb.2.1.2.1 ?_ hN) (fun w4 _ hw4 => ok_some.mpr ?_))
    · rw [c3, s13.F (k := 449) (by simp), s13.A (k := 32) (by simp), s13.A (k := 23) (by simp)]; exact inf
    · obtain ⟨f4, p4, l4⟩ := hw4
      refine fin_call (k := k) M t9 t8 hf f1 e1 hlt f2 en hrk f4 (fun B W pp => ?_) l4 te
      have e1 : B = nb' := by have := pp.2.1.1; have := p'.2.1.1; omega
      have e2 : W = wb' + a := by have := pp.2.2.1.1; have := p'.2.2.1.1; omega
      rw [e1, e2]; exact p4
  rcases hla with rfl | ⟨rfl, rfl⟩
  · refine ok_bnd.mpr (ok_mono (enter0_ok (N := N) (rk2 := rk + 32 * cKc T (i + 3) 24000) wt st2 (hj rfl) p2 (by omega) (by rw [show h - 1 - a = h - a - 1 by omega]; exact fl) (by rw [show h - 1 - a + 1 = h - a by omega]; exact t2) teb.1.2 (Nat.le_refl _)) (fun w _ hw => fin hw ?_))
    have := pot_x (j := i + 3) (t := (F u (pq q 8)).toNat) M.2.2.2.1.1 mb.1.2 (by omega)
    unfold potc at this ⊢
    rw [if_pos rfl] at this ⊢
    rw [if_pos rfl] at this
    omega
  · exact ok_bnd.mpr (ok_mono (enter1_ok (N := N) (rk2 := rk) wt st2 p2 (by omega) teb.1.2 (Nat.le_refl _)) (fun w _ hw => fin hw (by omega)))
end
