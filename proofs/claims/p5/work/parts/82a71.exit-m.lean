section
section
variable {Fv : Int64 → Int64 → Prop} {P P2 : Int64 → Prop} {u v w w2 x y : MS} {PR PR2 N p n n2 opM bnM bxM bx2 ND fr k tp mu CN PN SN UN FN rq q m h mm AN : Nat} {ow kd ow2 kd2 ro rn rh cb pc ct pM pE : Nat → Nat} {T : TY} {C : CY}
theorem DW_24 (d : DW Fv P PR u) (hE : F u 149 = F u 150) (f : FR [] [] [89, 142] [88, 141] u w) (h89 : ∀ q, q ≠ 24 → A w 89 q = A u 89 q) (h88 : ∀ i, i < 12000 → w.2.2.2 88 i = u.2.2.2 88 i) (g : ∃ n ow kd, A w 89 24 = ((n : Nat) : Int) ∧ n ≤ 500 ∧ HP (hp w 24) n ow kd Fv P) : DW Fv P PR w := by
  obtain ⟨⟨d1, d1'⟩, d2, -, d4, ⟨eF, eM, e1, e2, e3, e4, e5⟩, d6⟩ := d
  refine ⟨⟨by rw [FR.F f (by decide)]; exact d1, d1'⟩, fun z hz => ?_, g, by rw [FR.F f (by decide)]; exact d4, ⟨eF, eM, by rw [FR.F f (by decide)]; exact e1, by rw [FR.F f (by decide)]; exact e2, e3, by rw [cE_eq PR (fun p _ => FR.A f (by decide))]; exact e4, fun i h1 h2 => by omega⟩, fun z hz => by rw [FR.A f (by decide)]; exact d6 z hz⟩
  obtain ⟨n, ow, kd, o2, b2, bx, a, x1, x2, x3, x4, x5, x6, x7, x8, x9, x10, x11⟩ := d2 z hz
  exact ⟨n, ow, kd, o2, b2, bx, by rw [h89 z (by omega)]; exact a, rfl, HP_own x2 (Nat.le_refl _) (fun i hi _ => by unfold hp; exact h88 _ (by omega)) (fun _ _ _ => rfl) (fun _ _ _ => rfl) (fun i hi e => ⟨hi, e⟩), x3, x4, by rw [FR.A f (by decide)]; exact x5, by rw [FR.A f (by decide)]; exact x6, by rw [FR.A f (by decide)]; exact x7, fun i hi => by rw [f.2.2.2 91 (by decide)]; exact x8 i hi, fun i hi => by rw [f.2.2.2 93 (by decide)]; exact x9 i hi, fun i hi => by rw [f.2.2.2 107 (by decide)]; exact x10 i hi, fun e => by rw [FR.F f (by decide), d4] at e; omega⟩
theorem copy24 {t : Int64} {f s : Nat} (i : MEI Fv P PR u p n ow kd opM bnM bxM) (hE : F u 149 = F u 150) (z : SZ (hp u p) n ow kd Fv P f t s) (hs : s ≤ 500) (hN : 3000 ≤ N) : OK (fun w r => DW Fv P PR w ∧ FR [] [] [89, 142] [88, 141] u w ∧ ((¬ isH r ∧ P r) ∨ (isH r ∧ GTP Fv P w 24 r))) (fm_M_copy N (wa u 89 24 0) (I p) t (I 24)) := by
  have x4 := MEI_p i
  have hg := i.2.2.2.2.2.2.1
  have n500 : n ≤ 500 := i.2.2.2.2.2.2.2.1
  have f1 : FR [] [] [89, 142] [88, 141] u (wa u 89 24 0) := FR.wa FR.rf (by decide)
  have a89 : ∀ q, A (wa u 89 24 0) 89 q = if q = 24 then 0 else A u 89 q := fun q => A_eq (by omega) (by omega)
  have hp1 : hp (wa u 89 24 0) p = hp u p := rfl
  have j88 : (wa u 89 24 0).2.2.2 88 = u.2.2.2 88 := rfl
  generalize wa u 89 24 0 = v at *
  refine ok_mono (copy_ok (N := N) (fr := p) (to := 24) (n0 := 0) (s := s) (by omega) (by omega) n500 (by omega) (fun e => by omega) (by rw [hp1]; exact hg) (by rw [hp1]; exact z) (by rw [a89, if_pos rfl]; rfl) hN) (fun w2 r hc => ?_)
  obtain ⟨c1, c2, c3, cc, st, src, oo, c4, c5⟩ := hc
  rw [hp1] at c4
  obtain ⟨ow2, kd2, g1, g2, g3, g4, g5⟩ := CPI_end (hD := hp v 24) hg (HP_none (Fv := Fv) (P := P) (h := hp v 24)) c4 (fun z hz => absurd hz (Nat.not_lt_zero z))
  have fu : FR [] [] [89, 142] [88, 141] u w2 := FR.tr f1 c1
  have sz := g4 f r t s c5 z
  have d2 : DW Fv P PR w2 := DW_24 i.1 hE fu (fun q hq => by rw [c2, if_neg hq, a89, if_neg hq]) (fun i hi => by rw [c3 i (by omega), j88]) ⟨0 + s, ow2, kd2, by rw [c2, if_pos rfl], by omega, g1⟩
  refine ⟨d2, fu, ?_⟩
  have gt := SZ_gt sz
  by_cases e : isH r
  · exact Or.inr ⟨e, 0 + s, ow2, kd2, by rw [c2, if_pos rfl], by omega, g1, gt⟩
  · rcases gt with gt | gt
    · exact Or.inl gt
    · exact absurd gt.1 e
theorem exit_ok {z s f : Nat} {t : Int64} (i : MEI Fv P PR u p n ow kd opM bnM bxM) (hPB : PB P PR) (hE : F u 149 = F u 150) (hz : z < PR) (sz : SZ (hp u p) n ow kd Fv P f t s) (hs : s ≤ 500) (hN : 60000 ≤ N) : OK (fun w _ => DW Fv P PR w ∧ EVF u w) (fm_M_exitRun N u (I z) t) := by
  have x4 := MEI_p i
  have pr := i.1.1.2
  have y84 : OK (fun w _ => DW Fv P PR w ∧ EVF u w) (fb_M_exitRun_84 N () u (I z) t) := by
    unfold fb_M_exitRun_84 fb_M_exitRun_111
    rw [show (24 : Int32) = I 24 from rfl]
    refine ok_ck.mpr ⟨inb_at (k := 89) (n := 25) rfl (by omega) (by omega) (by decide), ok_lt.mpr ?_⟩
    rw [I_tn (by omega) (by omega), show (24 : Int).toNat = 24 from rfl, lit0q, wa_e, show (wa u 89 24 0).1 133 = I p from I_F' i.2.2.1]
    refine ok_bnd.mpr (ok_mono (copy24 (N := N) i hE sz hs (by omega)) (fun v r hv => ?_))
    obtain ⟨v1, v2, v3⟩ := hv
    refine ok_bnd.mpr (ok_mono (willEnd_ok (N := N) (p := z) (o := 24) (wr := 0) v1 hz (by omega) (by omega) (by
      rcases v3 with v3 | ⟨v3, v4⟩
      · exact Or.inl v3
      · exact Or.inr ⟨v3, Or.inl rfl, v4⟩)) (fun w _ hw => ok_some.mpr ?_))
    obtain ⟨w1, w2, w3, w4⟩ := hw
    refine ⟨w1, FR.tr (FR.mo v2 (by decide) (by decide) (by decide) (by decide)) (FR.mo w2 (by decide) (by decide) (by decide) (by decide)), fun y => ?_⟩
    by_cases e : y = z
    · rw [e]; exact Or.inr w3
    · rw [w4 y e, FR.A v2 (by decide)]; exact Or.inl rfl
  unfold fm_M_exitRun fb_M_exitRun_0
  refine ok_ck.mpr ⟨inb_at (k := 109) (n := 24) rfl (by omega) (by omega) (by decide), ok_br.mpr ⟨fun _ => ok_some.mpr ⟨i.1, EVF.rf⟩, fun z3 => ?_⟩⟩
  have e3 : A u 109 z ≠ 3 := fun e => by
    have := of_decide_eq_false z3
    rw [I_tn (by omega) (by omega), Int.toNat_natCast, I_A' e] at this
    exact this rfl
  rw [lit1q, show (5 : Int32) = I 5 from rfl, term_e, bnd_so]
  refine ok_br.mpr ⟨fun _ => ?_, fun _ => ok_ck.mpr ⟨inb_at (k := 112) (n := 24) rfl (by omega) (by omega) (by decide), ok_br.mpr ⟨fun _ => ok_br.mpr ⟨fun _ => y84, fun _ => ?_⟩, fun _ => ?_⟩⟩⟩
  · rw [show (6 : Int32) = I 6 from rfl, term_e, bnd_so, lit0q]
    unfold fb_M_exitRun_111
    refine ok_bnd.mpr (ok_mono (willEnd_ok (N := N) (p := z) (o := z) (wr := 0) i.1 hz (by omega) (by omega) (Or.inl ⟨nh_mk (by omega), hPB.1 6 (by omega) (by omega)⟩)) (fun w _ hw => ok_some.mpr ?_))
    obtain ⟨w1, w2, w3, w4⟩ := hw
    refine ⟨w1, FR.mo w2 (by decide) (by decide) (by decide) (by decide), fun y => ?_⟩
    by_cases e : y = z
    · rw [e]; exact Or.inr w3
    · exact Or.inl (w4 y e)
  · rw [show (4 : Int32) = I 4 from rfl, term_e, bnd_so]
    unfold fb_M_exitRun_111
    exact ok_br.mpr ⟨fun _ => ok_some.mpr ⟨i.1, EVF.rf⟩, fun _ => y84⟩
  · rw [show (0 : Int32) = I ((0 : Nat) : Int) from rfl, I_F' i.2.2.1]
    unfold fb_M_exitRun_111
    exact ok_bnd.mpr (ok_mono (message_ok (N := N) (sort := 0) (p := p) (r := 0) (wr := 0) (o := p) i.1 hz hPB (by omega) (fun _ => i.2.1) (by omega) (by omega) (by omega) (fun _ => TM_me i (SZ_gt sz)) hN) (fun w _ hw => ok_some.mpr ⟨hw.1, MSG_evf hw⟩))
theorem il_loop {z : Nat} (h133 : F w 133 = p) (l : LKR w PR p) (hp : p < 24) (hz : z < 24) : ∀ (m k : Nat), (k : Int) ≤ A w 117 p → (A w 117 p).toNat - k < m → (∀ j, j < k → A w 116 (24 * p + j) ≠ z) → OK (fun w2 r => w2 = w ∧ (r = I 1 ∨ (r = I 0 ∧ ¬ inL w p z))) (gg_M_isLinked N m w (I z) (I k)) := by
  intro m
  induction m with
  | zero => intro k _ h; omega
  | succ m ih =>
    intro k hk hm ho
    have l2 := l.2.1
    show OK _ (fb_M_isLinked_2 N (gg_M_isLinked N m) w (I z) (I k))
    unfold fb_M_isLinked_2
    rw [I_F' h133]
    refine ok_ck.mpr ⟨inb_at (k := 117) (n := 24) rfl (by omega) (by omega) (by decide), ?_⟩
    have r6 := A_r w 116 (24 * p + k)
    have r7 := A_r w 117 p
    rw [I_tn (x := (p : Int)) (by omega) (by omega), Int.toNat_natCast, I_A (k := 117), decI r7.1 r7.2 (by omega) (by omega)]
    refine ok_br.mpr ⟨fun y => ok_ck.mpr ⟨rfl, ok_some.mpr ⟨rfl, Or.inr ⟨rfl, fun ⟨j, j1, j2⟩ => ho j (by have := of_decide_eq_true y; omega) j2⟩⟩⟩, fun y => ?_⟩
    have y' := of_decide_eq_false y
    rw [show (24 : Int32) = I 24 from rfl, I_mul, I_add]
    refine ok_ck.mpr ⟨inb_at (k := 116) (n := 576) rfl (by omega) (by omega) (by decide), ?_⟩
    rw [I_tn (x := 24 * (p : Int) + (k : Int)) (by omega) (by omega), show (24 * (p : Int) + (k : Int)).toNat = 24 * p + k from by omega, I_A (k := 116), decE r6.1 r6.2 (by omega) (by omega)]
    refine ok_br.mpr ⟨fun _ => ok_ck.mpr ⟨rfl, ok_some.mpr ⟨rfl, Or.inl rfl⟩⟩, fun y2 => ?_⟩
    rw [lit1q, I_add, show (k : Int) + 1 = ((k + 1 : Nat) : Int) from by omega]
    refine ih (k + 1) (by omega) (by omega) (fun j hj => ?_)
    by_cases e : j = k
    · subst e; exact of_decide_eq_false y2
    · exact ho j (by omega)
theorem isLinked_ok {z : Nat} (h133 : F w 133 = p) (l : LKR w PR p) (hp : p < 24) (hz : z < 24) (hN : 100 ≤ N) : OK (fun w2 r => w2 = w ∧ (r = I 1 ∨ (r = I 0 ∧ ¬ inL w p z))) (fm_M_isLinked N w (I z)) := by
  have l1 := l.1
  have l2 := l.2.1
  unfold fm_M_isLinked fb_M_isLinked_0
  exact il_loop (N := N) h133 l hp hz N 0 (by omega) (by omega) (fun j hj => absurd hj (Nat.not_lt_zero j))
theorem LKR_room {z : Nat} (l : LKR w PR p) (pr : PR ≤ 24) (hz : z < PR) (hne : z ≠ p) (hp : p < PR) (hn : ¬ inL w p z) : A w 117 p < 23 := by
  obtain ⟨l1, l2, l3, l4⟩ := l
  have hz' : ∀ j : Nat, (j : Int) < A w 117 p → A w 116 (24 * p + j) ≠ z := fun j hj e => hn ⟨j, hj, e⟩
  have := pig 24 ((A w 117 p).toNat + 2) (fun j => if j = (A w 117 p).toNat then z else if j = (A w 117 p).toNat + 1 then p else (A w 116 (24 * p + j)).toNat) (fun j hj => by
    by_cases e1 : j = (A w 117 p).toNat
    · simp only [if_pos e1]; omega
    · by_cases e2 : j = (A w 117 p).toNat + 1
      · simp only [if_neg e1, if_pos e2]; omega
      · simp only [if_neg e1, if_neg e2]; have := l3 j (by omega); omega) (fun a b ha hb e => by
    by_cases a1 : a = (A w 117 p).toNat
    · by_cases b1 : b = (A w 117 p).toNat
      · omega
      · by_cases b2 : b = (A w 117 p).toNat + 1
        · simp only [if_pos a1, if_neg b1, if_pos b2] at e; omega
        · simp only [if_pos a1, if_neg b1, if_neg b2] at e; have := l3 b (by omega); have := hz' b (by omega); omega
    · by_cases a2 : a = (A w 117 p).toNat + 1
      · by_cases b1 : b = (A w 117 p).toNat
        · simp only [if_neg a1, if_pos a2, if_pos b1] at e; omega
        · by_cases b2 : b = (A w 117 p).toNat + 1
          · omega
          · simp only [if_neg a1, if_pos a2, if_neg b1, if_neg b2] at e; have := l3 b (by omega); omega
      · by_cases b1 : b = (A w 117 p).toNat
        · simp only [if_neg a1, if_neg a2, if_pos b1] at e; have := l3 a (by omega); have := hz' a (by omega); omega
        · by_cases b2 : b = (A w 117 p).toNat + 1
          · simp only [if_neg a1, if_neg a2, if_neg b1, if_pos b2] at e; have := l3 a (by omega); omega
          · simp only [if_neg a1, if_neg a2, if_neg b1, if_neg b2] at e
            have := l3 a (by omega)
            have := l3 b (by omega)
            exact l4 a b (by omega) (by omega) (by omega))
  omega
theorem LKR_add {z : Nat} (l : LKR w PR p) (hz : z < PR) (hne : z ≠ p) (hn : ¬ inL w p z) (h6 : A w2 116 (24 * p + (A w 117 p).toNat) = z) (h6' : ∀ j : Nat, (j : Int) < A w 117 p → A w2 116 (24 * p + j) = A w 116 (24 * p + j)) (h7 : A w2 117 p = A w 117 p + 1) (h23 : A w 117 p < 23) : LKR w2 PR p ∧ ∀ y, inL w2 p y ↔ (inL w p y ∨ y = z) := by
  obtain ⟨l1, l2, l3, l4⟩ := l
  have cell : ∀ j : Nat, (j : Int) < A w2 117 p → (A w2 116 (24 * p + j) = z ∧ j = (A w 117 p).toNat) ∨ ((j : Int) < A w 117 p ∧ A w2 116 (24 * p + j) = A w 116 (24 * p + j)) := fun j hj => by
    by_cases e : j = (A w 117 p).toNat
    · subst e; exact Or.inl ⟨h6, rfl⟩
    · exact Or.inr ⟨by omega, h6' j (by omega)⟩
  refine ⟨⟨by omega, by omega, fun j hj => ?_, fun j k hj hk e => ?_⟩, fun y => ⟨fun ⟨j, hj, ej⟩ => ?_, fun hy => ?_⟩⟩
  · rcases cell j hj with ⟨c, -⟩ | ⟨c1, c2⟩
    · omega
    · rw [c2]; exact l3 j c1
  · rcases cell j hj with ⟨c, cj⟩ | ⟨c1, c2⟩
    · rcases cell k hk with ⟨d, dk⟩ | ⟨d1, d2⟩
      · omega
      · exact absurd ⟨k, d1, by omega⟩ hn
    · rcases cell k hk with ⟨d, dk⟩ | ⟨d1, d2⟩
      · exact absurd ⟨j, c1, by omega⟩ hn
      · exact l4 j k c1 d1 (by omega)
  · rcases cell j hj with ⟨c, cj⟩ | ⟨c1, c2⟩
    · exact Or.inr (by omega)
    · exact Or.inl ⟨j, c1, by omega⟩
  · rcases hy with ⟨j, j1, j2⟩ | hy
    · exact ⟨j, by omega, by rw [h6' j j1]; exact j2⟩
    · exact ⟨(A w 117 p).toNat, by omega, by rw [h6]; omega⟩
end
end
section
section
variable {Fv : Int64 → Int64 → Prop} {P P2 : Int64 → Prop} {u v w w2 x y : MS} {PR PR2 N p n n2 opM bnM bxM bx2 ND fr k tp mu CN PN SN UN FN rq q m h mm AN : Nat} {ow kd ow2 kd2 ro rn rh cb pc ct pM pE : Nat → Nat} {T : TY} {C : CY}
theorem fin_ev (e : ERX Fv (PQ AN PR) PR T C ND CN p u fr ro rn rh cb pc ct q n ow kd opM bnM bxM mu) (hw : WLD u T ND UN FN PR p) (hT : ∀ q, q < ND → tK T q ≤ 26) (hG : tG T q = 0) (hm : m < ND) (hx : NX T q m h mm) (h98 : A u 98 (60 * p + (fr - 1)) = ((m : Nat) : Int)) (f : FR [121, 150] [] [92, 109] [91, 141] u y) (o : OTF p u y) (h109 : ∀ z, A y 109 z = A u 109 z) (i : MEI Fv (PQ AN PR) PR y p n ow kd (ro (fr - 1) + h) (rn (fr - 1) + rh (fr - 1) + mm) bxM) (d : DW Fv (PQ AN PR) PR v) (ev : EVF y v) : RSW Fv AN T C ND CN UN FN p mu u v := by
  obtain ⟨ev1, ev2⟩ := ev
  obtain ⟨n2, ow2, kd2, bx2, ix⟩ := MEX_of (opM := ro (fr - 1) + h) (bnM := rn (fr - 1) + rh (fr - 1) + mm) d i.2.1 (by rw [FR.F ev1 (by decide)]; exact i.2.2.1) (by rw [FR.A ev1 (by decide)]; exact i.2.2.2.2.2.2.2.2.2.1.1) (by rw [FR.A ev1 (by decide)]; exact i.2.2.2.2.2.2.2.2.2.2.1.1)
  have f2 : FR [121, 136, 138, 140, 150] [139] [89, 90, 92, 108, 109, 135, 142, 145, 146, 147] [88, 91, 93, 107, 134, 137, 141, 148] u v := FR.tr (FR.mo f (by decide) (by decide) (by decide) (by decide)) (FR.mo ev1 (by decide) (by decide) (by decide) (by decide))
  have o2 : OTF p u v := OTF.tr o (OTF_fr ev1 (by decide))
  have h9 : ∀ z, A v 109 z = A u 109 z ∨ A v 109 z = 3 := fun z => by rw [← h109 z]; exact ev2 z
  have p0 := e.2.2.2.2.2.1
  exact finX e hG hm hx f2 (by decide) (by decide) (by decide) h98 (by have := h9 p; omega) ix (WLD_fr hw hT o2 f2 (by decide) (by decide) (fun z _ => h9 z)) (FR.mo f2 (by decide) (by decide) (by decide) (by decide))
theorem fin_lk (e : ERX Fv (PQ AN PR) PR T C ND CN p u fr ro rn rh cb pc ct q n ow kd opM bnM bxM mu) (hw : WLD u T ND UN FN PR p) (hT : ∀ q, q < ND → tK T q ≤ 26) (hG : tG T q = 0) (hm : m < ND) (hx : NX T q m h mm) (h98 : A u 98 (60 * p + (fr - 1)) = ((m : Nat) : Int)) (f : FR [121] [] [92] [91, 141] u y) (o : OTF p u y) (i : MEI Fv (PQ AN PR) PR y p n ow kd (ro (fr - 1) + h) (rn (fr - 1) + rh (fr - 1) + mm) bxM) (fv : FR [125] [] [116, 117, 122, 123, 124] [] y v) (lk : LK v PR) (wt : WTQ v PR) : RSW Fv AN T C ND CN UN FN p mu u v := by
  have f2 : FR [121, 125] [] [92, 116, 117, 122, 123, 124] [91, 141] u v := FR.tr (FR.mo f (by decide) (by decide) (by decide) (by decide)) (FR.mo fv (by decide) (by decide) (by decide) (by decide))
  have o2 : OTF p u v := OTF.tr o (OTF_fr fv (by decide))
  have iv := MEI_fr i fv (by decide) (by decide) (by decide) (by decide) (by decide) (by decide) (by decide) (by decide) (by decide) (by decide) (by decide) (by decide) (by decide) (by decide) (by decide) (by decide) (by decide) (by decide)
  have wv : WLD v T ND UN FN PR p := WLD_otf hw hT o2 (fun k hk j => FR.A f2 (by revert hk; unfold KP; simp; omega)) (fun z _ => Or.inl (FR.A f2 (by decide))) lk wt (by rw [FR.F f2 (by decide)]; exact hw.2.2.1) (fun j => by rw [FR.A f2 (by decide)]; exact hw.2.2.2.1 j) (fun j => by rw [FR.A f2 (by decide)]; exact hw.2.2.2.2.2.1 j)
  exact finX e hG hm hx f2 (by decide) (by decide) (by decide) h98 (Or.inl (by rw [FR.A f2 (by decide)]; exact e.2.2.2.2.2.1)) (MEI_x iv) wv (FR.mo f2 (by decide) (by decide) (by decide) (by decide))
def SZL (h : Nat → Int64) (n : Nat) (ow kd : Nat → Nat) (Fv : Int64 → Int64 → Prop) (P : Int64 → Prop) (t : Int64) : Prop := ∃ f s, SZ h n ow kd Fv P f t s ∧ s ≤ 500
theorem isK92 : isK 92 4 = true := by decide
theorem LK_self (pr : PR ≤ 24) (hp1 : p < PR) (l : LK w PR) (a : RML w p p v) (ka : LKR v PR p) : LK v PR := by
  obtain ⟨a1, a2, a3, a4, a5, a6, a7⟩ := a
  have np : ∀ x, x < PR → ¬ inL w x x := fun x hx ⟨k, k1, k2⟩ => ((l.1 x hx).2.2.1 k k1).2.2 k2
  have eX : ∀ x y, x < PR → x ≠ p → (inL v x y ↔ inL w x y) := fun x y hx h1 => inL_same (l.1 x hx) (a2 x h1) (fun k hk => a3 _ (by omega))
  have eP : ∀ y, y < PR → (inL v p y ↔ inL w p y) := fun y hy => by
    by_cases e : y = p
    · subst e; exact ⟨fun z => absurd z a6, fun z => absurd z (np y hy)⟩
    · exact a7 y e
  refine ⟨fun x hx => ?_, fun x y hx hy z => ?_⟩
  · by_cases e : x = p
    · rw [e]; exact ka
    · exact LKR_same (l.1 x hx) (a2 x e) (fun k hk => a3 _ (by omega))
  · by_cases e1 : x = p
    · subst e1
      have := l.2 x y hx hy ((eP y hy).mp z)
      by_cases e2 : y = x
      · subst e2; exact z
      · exact (eX y x hy e2).mpr this
    · have := l.2 x y hx hy ((eX x y hx e1).mp z)
      by_cases e2 : y = p
      · subst e2; exact (eP x hx).mpr this
      · exact (eX y x hy e2).mpr this
set_option maxRecDepth 100000 in
theorem procR {k : Nat} (e : ERX Fv (PQ AN PR) PR T C ND CN p u fr ro rn rh cb pc ct q n ow kd (ro (fr - 1) + tH T q) (rn (fr - 1) + rh (fr - 1) + tM T q) bxM mu) (hp' : PGM Fv (PQ AN PR) PR T C pM pE ND CN PN SN UN FN u) (hw : WLD u T ND UN FN PR p) (hE : F u 149 = F u 150) (hG : tG T q = 0) (hk : k = 2 ∨ k = 3 ∨ k = 4 ∨ k = 8 ∨ k = 16) (hq : tB T q + npre k ≤ tH T q) (hm : m < ND) (hx : NX T q m (tH T q + 1 - npre k) (tM T q)) (h98 : A u 98 (60 * p + (fr - 1)) = ((m : Nat) : Int)) (hN : 60000 ≤ N) : OK (fun v _ => RSW Fv AN T C ND CN UN FN p mu u v) (fm_M_processRun N u (I k)) := by
  have i := e.1
  have x4 := MEI_p i
  have hH := (hp'.1.2.2.1 q e.2.2.1).1.1
  have hf := e.2.1.1
  have hro := (e.2.1.2.2.1 (fr - 1) (by omega)).2.2.2.2.1
  have hT := PRG_26 hp'.1
  have pr := i.1.1.2
  have hg := i.2.2.2.2.2.2.1
  have n500 : n ≤ 500 := i.2.2.2.2.2.2.2.1
  obtain ⟨lk, wt, -, -, -, -, -⟩ := id hw
  have nk : (k = 8 ∧ npre k = 2) ∨ (k ≠ 8 ∧ npre k = 1) := by rcases hk with z | z | z | z | z <;> subst z <;> decide
  have pid : ∀ z : Nat, z < PR → GT n ow kd (PQ AN PR) (mk 4 z) := fun z hz => Or.inl ⟨nh_mk (by omega), hp'.2.1.2.1 z hz⟩
  have y151 : ∀ (v : MS) (z : Nat) (t : Int64) (b : Int32), z < PR → b = I (npre k : Int) → FR [] [] [] [141] u v → (k = 8 → SZL (hp u p) n ow kd Fv (PQ AN PR) t) → (k = 4 → F u 125 ≠ 200) → OK (fun y _ => RSW Fv AN T C ND CN UN FN p mu u y) (fb_M_processRun_151 N () v (I k) t (I z) 92 (v.1 133) (v.2.2.1 92 (v.1 133).toNatClampNeg) b) := fun v z t b hz hb fv hsz h125 => by
    have iv : MEI Fv (PQ AN PR) PR v p n ow kd (ro (fr - 1) + tH T q) (rn (fr - 1) + rh (fr - 1) + tM T q) bxM := MEI_fr i fv (by decide) (by decide) (by decide) (by decide) (by decide) (by decide) (by decide) (by decide) (by decide) (by decide) (by decide) (by decide) (by decide) (by decide) (by decide) (by decide) (by decide) (by decide)
    unfold fb_M_processRun_151
    rw [isK92, ck_t, I_F' iv.2.2.1]
    refine ok_ck.mpr ⟨inb_at (k := 92) (n := 24) rfl (by omega) (by omega) (by decide), ok_lt.mpr ?_⟩
    rw [I_tn (x := (p : Int)) (by omega) (by omega), Int.toNat_natCast, I_A' iv.2.2.2.2.2.2.2.2.2.1.1, hb, I_sub, show ((ro (fr - 1) + tH T q : Nat) : Int) - (npre k : Int) = ((ro (fr - 1) + (tH T q - npre k) : Nat) : Int) from by omega, wa_e]
    have ix := ops_less iv (k := ro (fr - 1) + (tH T q - npre k)) (by omega)
    have fx : FR [] [] [92] [141] u (wa v 92 p ((ro (fr - 1) + (tH T q - npre k) : Nat) : Int)) := FR.wa (FR.mo fv (by decide) (by decide) (by decide) (by decide)) (by decide)
    have ox : OTF p u (wa v 92 p ((ro (fr - 1) + (tH T q - npre k) : Nat) : Int)) := OTF.tr (OTF_fr fv (by decide)) (OTF_at (FR.wa FR.rf (by decide) : FR [] [] [92] [] v _) (i0 := p) (fun j hj => by rw [A_eq (by omega) (by omega), if_neg hj]) (Or.inl ⟨by decide, rfl⟩))
    generalize wa v 92 p ((ro (fr - 1) + (tH T q - npre k) : Nat) : Int) = x at *
    have ex := ERX_fr e fx (by decide) (by decide) (by decide) ix (by omega) (Nat.le_refl _)
    have x98 : A x 98 (60 * p + (fr - 1)) = ((m : Nat) : Int) := by rw [FR.A fx (by decide)]; exact h98
    have hh : ro (fr - 1) + (tH T q - npre k) + 1 = ro (fr - 1) + (tH T q + 1 - npre k) := by omega
    have pt : ∀ (t : Int64) (w : MS), FR [121] [] [] [] x w → GT n ow kd (PQ AN PR) t → OK (fun y _ => FR [121] [] [92] [91, 141] u y ∧ OTF p u y ∧ MEI Fv (PQ AN PR) PR y p n ow kd (ro (fr - 1) + (tH T q + 1 - npre k)) (rn (fr - 1) + rh (fr - 1) + tM T q) bxM) (fm_M_put N w t) := fun t w fw gt => by
      have iw := MEI_ints ix fw (by decide)
      refine ok_mono (put_ok (N := N) iw gt (by omega)) (fun y _ hy => ?_)
      obtain ⟨y1, y2⟩ := hy
      have fy : FR [] [] [92] [91] w y := by rw [y1]; exact FR.wa (FR.wj FR.rf (by decide)) (by decide)
      refine ⟨FR.tr (FR.mo fx (by decide) (by decide) (by decide) (by decide)) (FR.tr (FR.mo fw (by decide) (by decide) (by decide) (by decide)) (FR.mo fy (by decide) (by decide) (by decide) (by decide))), OTF.tr ox (OTF.tr (OTF_fr fw (by decide)) (OTF_at (k0 := 92) fy (i0 := p) (fun j hj => by rw [y1, A_eq (by omega) (by omega), if_neg hj]; rfl) (Or.inl ⟨by decide, rfl⟩))), by rw [← hh]; exact y2⟩
    rw [show (16 : Int32) = I 16 from rfl, show (4 : Int32) = I 4 from rfl, show (8 : Int32) = I 8 from rfl, show (3 : Int32) = I 3 from rfl, decE (by omega) (by omega) (by omega) (by omega), decE (x := (k : Int)) (y := 4) (by omega) (by omega) (by omega) (by omega), decE (x := (k : Int)) (y := 8) (by omega) (by omega) (by omega) (by omega), decE (x := (k : Int)) (y := 3) (by omega) (by omega) (by omega) (by omega)]
    unfold fb_M_processRun_305 fb_M_processRun_480
    have in9 : inb (I (z : Int)) (ln 109) = true := inb_at (k := 109) (n := 24) rfl (by omega) (by omega) (by decide)
    refine ok_br.mpr ⟨fun _ => ?_, fun _ => ok_br.mpr ⟨fun z4 => ok_lt.mpr ?_, fun _ => ?_⟩⟩
    · 
      have p176 : ∀ x0 : Int32, x0 = 0 ∨ x0 = 1 → OK (fun y _ => RSW Fv AN T C ND CN UN FN p mu u y) (fb_M_processRun_176 N () x x0) := fun x0 h0 => by
        unfold fb_M_processRun_176 fb_M_processRun_480
        have fin : ∀ t, GT n ow kd (PQ AN PR) t → OK (fun y _ => RSW Fv AN T C ND CN UN FN p mu u y) (bnd (fm_M_put N x t) (fun u2 _ => some (u2, ()))) := fun t gt =>
          ok_bnd.mpr (ok_mono (putR (N := N) ex hm hx x98 (by omega) rfl gt (by omega)) (fun y _ hy => ok_some.mpr (RES_via fx ox hy hw hT i.2.1 (by decide) (by decide) (by decide) (by decide) (by decide) (by decide))))
        rcases h0 with h0 | h0
        · rw [h0, truth0, bnd_so]; exact fin _ (GT_atom hp'.2.1 (by omega))
        · rw [h0, truth1, bnd_so]; exact fin _ (GT_atom hp'.2.1 (by omega))
      exact ok_ck.mpr ⟨in9, ok_br.mpr ⟨fun _ => p176 0 (Or.inl rfl), fun _ => p176 1 (Or.inr rfl)⟩⟩
    · 
      have e4 : k = 4 := by have := of_decide_eq_true z4; omega
      have r1 := F_r x 121
      rw [I_F (k := 121), show (2 : Int32) = I 2 from rfl, term_e, bnd_so]
      refine ok_bnd.mpr (ok_mono (pt _ _ (by rw [lit1q, I_add, wi_e]; exact FR.wi FR.rf (by decide)) (Or.inl ⟨nh_mk (by omega), hp'.2.1.2.2.1 _ r1.1 r1.2⟩)) (fun y _ hy => ?_))
      obtain ⟨y1, y2, y3⟩ := hy
      have y125 : F y 125 = F u 125 := FR.F y1 (by decide)
      have wty : WTQ y PR := WT_fr wt y1 (by decide) (by decide) (by decide)
      have lky : LK y PR := LK_fr lk y1 (by decide) (by decide)
      refine ok_ck.mpr ⟨in9, ok_br.mpr ⟨fun _ => ?_, fun _ => ok_br.mpr ⟨fun _ => ok_some.mpr ?_, fun _ => ?_⟩⟩⟩
      · rw [lit1q, term_e, bnd_so, I_F' y3.2.2.1, show (1 : Int) = ((1 : Nat) : Int) from rfl, lit0q]
        refine ok_bnd.mpr (ok_mono (message_ok (N := N) (sort := 1) (p := z) (r := F x 121) (wr := 0) (o := z) y3.1 i.2.1 hp'.2.1 (by omega) (fun _ => hz) r1 (by omega) (by omega) (fun _ => Or.inl ⟨by omega, nh_mk (by omega), hp'.2.1.1 3 (by omega) (by omega)⟩) hN) (fun y' _ hy' => ok_some.mpr ?_))
        exact fin_ev e hw hT hG hm hx h98 (FR.mo y1 (by decide) (by decide) (by decide) (by decide)) y2 (fun z => FR.A y1 (by decide)) y3 hy'.1 (MSG_evf hy')
      · exact fin_lk e hw hT hG hm hx h98 y1 y2 y3 FR.rf lky wty
      · obtain ⟨c, hc⟩ : ∃ c : Nat, F y 125 = c := ⟨(F y 125).toNat, by have := wty.1; omega⟩
        have c200 : c < 200 := by have := wty.2.1; have := h125 e4; omega
        rw [I_F' hc]
        refine ok_ck.mpr ⟨inb_at (k := 122) (n := 4000) rfl (by omega) (by omega) (by decide), ok_lt.mpr ?_⟩
        rw [I_tn (x := (c : Int)) (by omega) (by omega), Int.toNat_natCast, wa_e, show (wa y 122 c (F x 121)).1 125 = I c from I_F' hc, show (wa y 122 c (F x 121)).1 133 = I p from I_F' y3.2.2.1]
        refine ok_ck.mpr ⟨inb_at (k := 123) (n := 4000) rfl (by omega) (by omega) (by decide), ok_lt.mpr ?_⟩
        rw [I_tn (x := (c : Int)) (by omega) (by omega), Int.toNat_natCast, wa_e, show (wa (wa y 122 c (F x 121)) 123 c (p : Int)).1 125 = I c from I_F' hc]
        refine ok_ck.mpr ⟨inb_at (k := 124) (n := 4000) rfl (by omega) (by omega) (by decide), ok_lt.mpr (ok_lt.mpr (ok_some.mpr ?_))⟩
        rw [I_tn (x := (c : Int)) (by omega) (by omega), Int.toNat_natCast, wa_e, show (wa (wa (wa y 122 c (F x 121)) 123 c (p : Int)) 124 c (z : Int)).1 125 = I c from I_F' hc, lit1q, I_add, wi_e]
        have f6 : FR [125] [] [122, 123, 124] [] y (wi (wa (wa (wa y 122 c (F x 121)) 123 c (p : Int)) 124 c (z : Int)) 125 ((c : Int) + 1)) := FR.wi (FR.wa (FR.wa (FR.wa FR.rf (by decide)) (by decide)) (by decide)) (by decide)
        have a3 : ∀ j, A (wi (wa (wa (wa y 122 c (F x 121)) 123 c (p : Int)) 124 c (z : Int)) 125 ((c : Int) + 1)) 123 j = if j = c then (p : Int) else A y 123 j := fun j => by rw [A_wi, A_ne (by decide), A_eq (by omega) (by omega), A_ne (by decide)]
        have a4 : ∀ j, A (wi (wa (wa (wa y 122 c (F x 121)) 123 c (p : Int)) 124 c (z : Int)) 125 ((c : Int) + 1)) 124 j = if j = c then (z : Int) else A y 124 j := fun j => by rw [A_wi, A_eq (by omega) (by omega), A_ne (by decide), A_ne (by decide)]
        have a5 : F (wi (wa (wa (wa y 122 c (F x 121)) 123 c (p : Int)) 124 c (z : Int)) 125 ((c : Int) + 1)) 125 = (c : Int) + 1 := by rw [F_wi (by omega) (by omega), if_pos rfl]
        generalize wi (wa (wa (wa y 122 c (F x 121)) 123 c (p : Int)) 124 c (z : Int)) 125 ((c : Int) + 1) = y5 at *
        have pp := i.2.1
        refine fin_lk e hw hT hG hm hx h98 y1 y2 y3 (FR.mo f6 (by decide) (by decide) (by decide) (by decide)) (LK_fr lky f6 (by decide) (by decide)) ?_
        refine ⟨by omega, by omega, fun j hj => ?_⟩
        rw [a3, a4]
        by_cases ej : j = c
        · rw [if_pos ej, if_pos ej]; omega
        · rw [if_neg ej, if_neg ej]; exact wty.2.2 j (by omega)
    · rw [truth1, bnd_so]
      refine ok_bnd.mpr (ok_mono (pt _ x FR.rf (GT_atom hp'.2.1 (by omega))) (fun y _ hy => ?_))
      obtain ⟨y1, y2, y3⟩ := hy
      have lky : LK y PR := LK_fr lk y1 (by decide) (by decide)
      have wty : WTQ y PR := WT_fr wt y1 (by decide) (by decide) (by decide)
      have hpy : hp y p = hp u p := by unfold hp; rw [y1.2.2.2 88 (by decide)]
      have y133 := y3.2.2.1
      refine ok_br.mpr ⟨fun z8 => ?_, fun _ => ok_br.mpr ⟨fun _ => ?_, fun _ => ?_⟩⟩
      · obtain ⟨f, s, sz, hs⟩ := hsz (by have := of_decide_eq_true z8; omega)
        refine ok_bnd.mpr (ok_mono (exit_ok (N := N) (z := z) y3 hp'.2.1 (by rw [FR.F y1 (by decide), FR.F y1 (by decide)]; exact hE) hz (by rw [hpy]; exact sz) hs hN) (fun y' _ hy' => ok_some.mpr ?_))
        exact fin_ev e hw hT hG hm hx h98 (FR.mo y1 (by decide) (by decide) (by decide) (by decide)) y2 (fun z => FR.A y1 (by decide)) y3 hy'.1 hy'.2
      · rw [I_F' y133]
        refine ok_bnd.mpr (ok_mono (removeLink_ok (N := N) (q := z) x4 (by omega) (lky.1 p i.2.1) (by omega)) (fun a _ ha => ?_))
        obtain ⟨a1, a2⟩ := ha
        rw [I_F' (show F a 133 = p by rw [FR.F a1.1 (by decide)]; exact y133)]
        by_cases ez : z = p
        · subst ez
          have lka := LK_self pr i.2.1 lky a1 a2
          refine ok_bnd.mpr (ok_mono (removeLink_ok (N := N) (q := z) x4 (by omega) a2 (by omega)) (fun b _ hb => ok_some.mpr ?_))
          obtain ⟨b1, b2⟩ := hb
          have fab : FR [] [] [116, 117] [] y b := FR.tr a1.1 b1.1
          exact fin_lk e hw hT hG hm hx h98 y1 y2 y3 (FR.mo fab (by decide) (by decide) (by decide) (by decide)) (LK_self pr i.2.1 lka b1 b2) (WT_fr wty fab (by decide) (by decide) (by decide))
        · have lz : LKR a PR z := LKR_same (lky.1 z hz) (a1.2.1 z ez) (fun k hk => a1.2.2.1 _ (by omega))
          refine ok_bnd.mpr (ok_mono (removeLink_ok (N := N) (q := p) (show z < 24 by omega) (by omega) lz (by omega)) (fun b _ hb => ok_some.mpr ?_))
          obtain ⟨b1, b2⟩ := hb
          have fab : FR [] [] [116, 117] [] y b := FR.tr a1.1 b1.1
          exact fin_lk e hw hT hG hm hx h98 y1 y2 y3 (FR.mo fab (by decide) (by decide) (by decide) (by decide)) (LK_two pr i.2.1 hz (Ne.symm ez) lky a1 a2 b1 b2) (WT_fr wty fab (by decide) (by decide) (by decide))
      · refine ok_ck.mpr ⟨in9, ok_br.mpr ⟨fun z3 => ?_, fun _ => ok_br.mpr ⟨fun _ => ok_some.mpr (fin_lk e hw hT hG hm hx h98 y1 y2 y3 FR.rf lky wty), fun zp => ?_⟩⟩⟩
        · rw [lit1q, term_e, bnd_so, I_F' y133, lit0q]
          refine ok_bnd.mpr (ok_mono (signal_ok (N := N) (q := p) (p := z) (o := z) (wr := 0) y3.1 i.2.1 hz hp'.2.1 (by omega) (by omega) (Or.inl ⟨nh_mk (by omega), hp'.2.1.1 3 (by omega) (by omega)⟩) hN) (fun y' _ hy' => ok_some.mpr ?_))
          exact fin_ev e hw hT hG hm hx h98 (FR.mo y1 (by decide) (by decide) (by decide) (by decide)) y2 (fun z => FR.A y1 (by decide)) y3 hy'.1 hy'.2.1
        · have ne : z ≠ p := fun ez => by
            have := of_decide_eq_false zp
            rw [I_F' y133, ez] at this
            exact this rfl
          refine ok_bnd.mpr (ok_mono (isLinked_ok (N := N) y133 (lky.1 p i.2.1) x4 (by omega) (by omega)) (fun a r ha => ?_))
          obtain ⟨a1, a2⟩ := ha
          subst a1
          refine ok_br.mpr ⟨fun zr => ?_, fun _ => ok_some.mpr (fin_lk e hw hT hG hm hx h98 y1 y2 y3 FR.rf lky wty)⟩
          have nl : ¬ inL a p z := by
            rcases a2 with a2 | a2
            · exfalso; have := of_decide_eq_true zr; rw [a2] at this; exact absurd this (by decide)
            · exact a2.2
          have nl2 : ¬ inL a z p := fun h => nl (lky.2 z p hz i.2.1 h)
          have rp := LKR_room (lky.1 p i.2.1) pr hz ne i.2.1 nl
          have rz := LKR_room (lky.1 z hz) pr i.2.1 (Ne.symm ne) hz nl2
          obtain ⟨c, hc⟩ : ∃ c : Nat, A a 117 p = c := ⟨(A a 117 p).toNat, by have := (lky.1 p i.2.1).1; omega⟩
          obtain ⟨d, hd⟩ : ∃ d : Nat, A a 117 z = d := ⟨(A a 117 z).toNat, by have := (lky.1 z hz).1; omega⟩
          rw [I_F' y133]
          refine ok_ck.mpr ⟨inb_at (k := 117) (n := 24) rfl (by omega) (by omega) (by decide), ?_⟩
          rw [I_tn (x := (p : Int)) (by omega) (by omega), Int.toNat_natCast, I_A' hc, show (24 : Int32) = I 24 from rfl, I_mul, I_add]
          refine ok_ck.mpr ⟨inb_at (k := 116) (n := 576) rfl (by omega) (by omega) (by decide), ok_lt.mpr ?_⟩
          rw [I_tn (x := 24 * (p : Int) + (c : Int)) (by omega) (by omega), show (24 * (p : Int) + (c : Int)).toNat = 24 * p + c from by omega, wa_e, show (wa a 116 (24 * p + c) (z : Int)).1 133 = I p from I_F' y133]
          refine ok_ck.mpr ⟨inb_at (k := 117) (n := 24) rfl (by omega) (by omega) (by decide), ok_ck.mpr ⟨inb_at (k := 117) (n := 24) rfl (by omega) (by omega) (by decide), ok_lt.mpr ?_⟩⟩
          rw [I_tn (x := (p : Int)) (by omega) (by omega), Int.toNat_natCast, show (wa a 116 (24 * p + c) (z : Int)).2.2.1 117 p = I c from I_A' hc, lit1q, I_add, wa_e]
          have fb : FR [] [] [116, 117] [] a (wa (wa a 116 (24 * p + c) (z : Int)) 117 p ((c : Int) + 1)) := FR.wa (FR.wa FR.rf (by decide)) (by decide)
          have b6 : ∀ j, A (wa (wa a 116 (24 * p + c) (z : Int)) 117 p ((c : Int) + 1)) 116 j = if j = 24 * p + c then (z : Int) else A a 116 j := fun j => by rw [A_ne (by decide), A_eq (by omega) (by omega)]
          have b7 : ∀ j, A (wa (wa a 116 (24 * p + c) (z : Int)) 117 p ((c : Int) + 1)) 117 j = if j = p then (c : Int) + 1 else A a 117 j := fun j => by rw [A_eq (by omega) (by omega), A_ne (by decide)]
          generalize wa (wa a 116 (24 * p + c) (z : Int)) 117 p ((c : Int) + 1) = b at *
          have b133 : F b 133 = p := by rw [FR.F fb (by decide)]; exact y133
          have bz : A b 117 z = d := by rw [b7, if_neg ne]; exact hd
          refine ok_ck.mpr ⟨inb_at (k := 117) (n := 24) rfl (by omega) (by omega) (by decide), ?_⟩
          rw [I_tn (x := (z : Int)) (by omega) (by omega), Int.toNat_natCast, I_A' bz, I_mul, I_add]
          refine ok_ck.mpr ⟨inb_at (k := 116) (n := 576) rfl (by omega) (by omega) (by decide), ok_lt.mpr ?_⟩
          rw [I_tn (x := 24 * (z : Int) + (d : Int)) (by omega) (by omega), show (24 * (z : Int) + (d : Int)).toNat = 24 * z + d from by omega, I_F' b133, wa_e]
          refine ok_ck.mpr ⟨inb_at (k := 117) (n := 24) rfl (by omega) (by omega) (by decide), ok_ck.mpr ⟨inb_at (k := 117) (n := 24) rfl (by omega) (by omega) (by decide), ok_lt.mpr (ok_some.mpr ?_)⟩⟩
          rw [show (wa b 116 (24 * z + d) (p : Int)).2.2.1 117 z = I d from I_A' bz, I_add, wa_e]
          have fc : FR [] [] [116, 117] [] a (wa (wa b 116 (24 * z + d) (p : Int)) 117 z ((d : Int) + 1)) := FR.wa (FR.wa fb (by decide)) (by decide)
          have c6 : ∀ j, A (wa (wa b 116 (24 * z + d) (p : Int)) 117 z ((d : Int) + 1)) 116 j = if j = 24 * z + d then (p : Int) else A b 116 j := fun j => by rw [A_ne (by decide), A_eq (by omega) (by omega)]
          have c7 : ∀ j, A (wa (wa b 116 (24 * z + d) (p : Int)) 117 z ((d : Int) + 1)) 117 j = if j = z then (d : Int) + 1 else A b 117 j := fun j => by rw [A_eq (by omega) (by omega), A_ne (by decide)]
          generalize wa (wa b 116 (24 * z + d) (p : Int)) 117 z ((d : Int) + 1) = g at *
          have rowp := LKR_add (w2 := g) (lky.1 p i.2.1) hz ne nl (by rw [hc, Int.toNat_natCast, c6, if_neg (by omega), b6, if_pos rfl]) (fun j hj => by rw [c6, if_neg (by omega), b6, if_neg (by omega)]) (by rw [c7, if_neg (Ne.symm ne), b7, if_pos rfl, hc]) rp
          have rowz := LKR_add (w2 := g) (lky.1 z hz) i.2.1 (Ne.symm ne) nl2 (by rw [hd, Int.toNat_natCast, c6, if_pos rfl]) (fun j hj => by rw [c6, if_neg (by omega), b6, if_neg (by omega)]) (by rw [c7, if_pos rfl, hd]) rz
          have oth : ∀ t, t ≠ p → t ≠ z → A g 117 t = A a 117 t ∧ ∀ j, j < 24 → A g 116 (24 * t + j) = A a 116 (24 * t + j) := fun t t1 t2 => ⟨by rw [c7, if_neg t2, b7, if_neg t1], fun j hj => by rw [c6, if_neg (by omega), b6, if_neg (by omega)]⟩
          have inn : ∀ s t, s < PR → (inL g s t ↔ (inL a s t ∨ (s = p ∧ t = z) ∨ (s = z ∧ t = p))) := fun s t hs => by
            by_cases s1 : s = p
            · subst s1
              rw [rowp.2 t]
              exact ⟨fun h => by rcases h with h | h; exact Or.inl h; exact Or.inr (Or.inl ⟨rfl, h⟩), fun h => by rcases h with h | h | h; exact Or.inl h; exact Or.inr h.2; exact absurd h.1.symm ne⟩
            · by_cases s2 : s = z
              · subst s2
                rw [rowz.2 t]
                exact ⟨fun h => by rcases h with h | h; exact Or.inl h; exact Or.inr (Or.inr ⟨rfl, h⟩), fun h => by rcases h with h | h | h; exact Or.inl h; exact absurd h.1 s1; exact Or.inr h.2⟩
              · rw [inL_same (lky.1 s hs) (oth s s1 s2).1 (oth s s1 s2).2]
                exact ⟨fun h => Or.inl h, fun h => by rcases h with h | h | h; exact h; exact absurd h.1 s1; exact absurd h.1 s2⟩
          refine fin_lk e hw hT hG hm hx h98 y1 y2 y3 (FR.mo fc (by decide) (by decide) (by decide) (by decide)) ⟨fun s hs => ?_, fun s t hs ht hst => ?_⟩ (WT_fr wty fc (by decide) (by decide) (by decide))
          · by_cases s1 : s = p
            · subst s1; exact rowp.1
            · by_cases s2 : s = z
              · subst s2; exact rowz.1
              · exact LKR_same (lky.1 s hs) (oth s s1 s2).1 (oth s s1 s2).2
          · rcases (inn s t hs).mp hst with h | h | h
            · exact (inn t s ht).mpr (Or.inl (lky.2 s t hs ht h))
            · exact (inn t s ht).mpr (Or.inr (Or.inr ⟨h.2, h.1⟩))
            · exact (inn t s ht).mpr (Or.inr (Or.inl ⟨h.2, h.1⟩))
  have bad : ∀ (v : MS) (t t4 : Int64), FR [] [] [] [141] u v → OK (fun y _ => RSW Fv AN T C ND CN UN FN p mu u y) (fb_M_processRun_108 N () v (I k) t t4) := fun v t t4 fv => by
    unfold fb_M_processRun_108 fb_M_processRun_109
    have iv : MEI Fv (PQ AN PR) PR v p n ow kd (ro (fr - 1) + tH T q) (rn (fr - 1) + rh (fr - 1) + tM T q) bxM := MEI_fr i fv (by decide) (by decide) (by decide) (by decide) (by decide) (by decide) (by decide) (by decide) (by decide) (by decide) (by decide) (by decide) (by decide) (by decide) (by decide) (by decide) (by decide) (by decide)
    have ew := ERX_fr e fv (by decide) (by decide) (by decide) iv (by have := e.2.2.2.2.2.2.1; omega) (Nat.le_refl _)
    refine ok_br.mpr ⟨fun _ => ?_, fun z => absurd rfl (of_decide_eq_false z)⟩
    exact ok_bnd.mpr (ok_mono (err_ok (N := N) (a := 11) ew (PGM_fr hp' fv (by decide) (by decide)) (by omega) hN) (fun y _ hy => ok_some.mpr (RES_via fv (OTF_fr fv (by decide)) hy hw hT i.2.1 (by decide) (by decide) (by decide) (by decide) (by decide) (by decide))))
  have good : ∀ (v : MS) (t t4 : Int64), FR [] [] [] [141] u v → so t4 = 4 → GT n ow kd (PQ AN PR) t4 → (k = 8 → SZL (hp u p) n ow kd Fv (PQ AN PR) t) → (k = 4 → F u 125 ≠ 200) → OK (fun y _ => RSW Fv AN T C ND CN UN FN p mu u y) (fb_M_processRun_104 N () v (I k) t t4) := fun v t t4 fv s4 g4 h8 h125 => by
    unfold fb_M_processRun_104 fb_M_processRun_109
    obtain ⟨z, hz, ez⟩ := PQ_pid g4 s4
    refine ok_br.mpr ⟨fun z => absurd (of_decide_eq_true z) (by decide), fun _ => ?_⟩
    rw [valueOf_e, bnd_so, ez, show (8 : Int32) = I 8 from rfl, decE (by omega) (by omega) (by omega) (by omega)]
    have v133 : F v 133 = p := by rw [FR.F fv (by decide)]; exact i.2.2.1
    refine ok_ck.mpr ⟨by rw [I_F' v133]; exact inb_at (k := 92) (n := 24) rfl (by omega) (by omega) (by decide), ok_br.mpr ⟨fun z8 => ?_, fun z8 => ?_⟩⟩
    · have e8 : npre k = 2 := by have := of_decide_eq_true z8; omega
      exact y151 v z t 2 hz (by rw [e8]; rfl) fv h8 h125
    · have e8 : npre k = 1 := by have := of_decide_eq_false z8; omega
      exact y151 v z t 1 hz (by rw [e8]; rfl) fv h8 h125
  have y45 : ∀ (t t4 : Int64), GT n ow kd (PQ AN PR) t4 → (k = 8 → GT n ow kd (PQ AN PR) t) → OK (fun y _ => RSW Fv AN T C ND CN UN FN p mu u y) (fb_M_processRun_45 N () u (I k) t t4) := fun t t4 g4 gt => by
    unfold fb_M_processRun_45 fb_M_processRun_61 fb_M_processRun_83
    have r4 := so_r t4
    rw [sortOf_e, bnd_so, show (4 : Int32) = I 4 from rfl, decE r4.1 r4.2 (by omega) (by omega)]
    refine ok_br.mpr ⟨fun z4 => ok_br.mpr ⟨fun z => absurd (of_decide_eq_true z) (by decide), fun _ => ?_⟩, fun _ => ok_br.mpr ⟨fun _ => bad u t t4 FR.rf, fun z => absurd rfl (of_decide_eq_false z)⟩⟩
    have s4 := of_decide_eq_true z4
    rw [show (8 : Int32) = I 8 from rfl, decE (by omega) (by omega) (by omega) (by omega), decE (by omega) (by omega) (by omega) (by omega)]
    have y83 : (k = 4 → F u 125 ≠ 200) → OK (fun y _ => RSW Fv AN T C ND CN UN FN p mu u y) (br (decide ((k : Int) = 8)) (bnd (fm_M_copySize N u (u.1 133) t) (fun u27 r27 => br (decide (500 < r27)) (fb_M_processRun_108 N () u27 (I k) t t4) (fb_M_processRun_104 N () u27 (I k) t t4))) (fb_M_processRun_104 N () u (I k) t t4)) := fun h125 => by
      refine ok_br.mpr ⟨fun z8 => ?_, fun z8 => good u t t4 FR.rf s4 g4 (fun z => absurd (by omega) (of_decide_eq_false z8)) h125⟩
      have e8 : k = 8 := by have := of_decide_eq_true z8; omega
      obtain ⟨f, s, sz⟩ := HP_sz hg (gt e8)
      rw [I_F' i.2.2.1]
      refine ok_bnd.mpr (ok_mono (copySize_ok (N := N) hg n500 (by omega) sz (by omega)) (fun v r hv => ?_))
      obtain ⟨v1, v2⟩ := hv
      rw [v2, lit500, decL (by omega) (by omega) (by split <;> omega) (by split <;> omega)]
      refine ok_br.mpr ⟨fun _ => bad v t t4 v1, fun zs => good v t t4 v1 s4 g4 (fun _ => ⟨f, s, sz, ?_⟩) h125⟩
      have := of_decide_eq_false zs
      by_cases q5 : s ≤ 500
      · exact q5
      · rw [if_neg q5] at this; omega
    have r125 := F_r u 125
    refine ok_br.mpr ⟨fun _ => ok_br.mpr ⟨fun _ => bad u t t4 FR.rf, fun z => y83 (fun _ h => ?_)⟩, fun z => y83 (fun h => absurd (by omega) (of_decide_eq_false z))⟩
    have := of_decide_eq_false z
    rw [I_F' h] at this
    exact this rfl
  unfold fm_M_processRun fb_M_processRun_0 fb_M_processRun_25
  rw [show (5 : Int32) = I 5 from rfl, show (8 : Int32) = I 8 from rfl, decE (by omega) (by omega) (by omega) (by omega), decide_eq_false (by omega), br_fq, decE (by omega) (by omega) (by omega) (by omega)]
  obtain ⟨t0, g0⟩ := top_ok (N := N) (k := 0) i (by omega)
  refine ok_br.mpr ⟨fun z8 => ?_, fun z8 => ?_⟩
  · have e8 : npre k = 2 := by have := of_decide_eq_true z8; omega
    obtain ⟨t1, g1⟩ := top_ok (N := N) (k := 1) i (by omega)
    rw [show (0 : Int32) = I ((0 : Nat) : Int) from rfl, t0, bnd_so, z8, br_tq, show (1 : Int32) = I ((1 : Nat) : Int) from rfl, t1, bnd_so]
    exact y45 _ _ g1 (fun _ => g0)
  · rw [z8, br_fq, show fm_M_top N u 0 = some (u, u.2.2.2 91 (46000 * p + (ro (fr - 1) + tH T q - 1 - 0))) from t0, bnd_so]
    exact y45 _ _ g0 (fun z => absurd (by omega) (of_decide_eq_false z8))
end
end
section
section
variable {Fv : Int64 → Int64 → Prop} {P P2 : Int64 → Prop} {u v w w2 x y : MS} {PR PR2 N p n n2 opM bnM bxM bx2 ND fr k tp mu CN PN SN UN FN rq q m h mm AN z j : Nat} {ow kd ow2 kd2 ro rn rh cb pc ct pM pE : Nat → Nat} {T : TY} {C : CY}
theorem lg_ge0 {a : Int64} : (0 ≤ lg_cmp a 0) ↔ 0 ≤ a.toInt := by
  have z0 : (0 : Int64).toInt = 0 := rfl
  unfold lg_cmp
  by_cases e : a > 0
  · rw [if_pos e]
    have : (0 : Int64).toInt < a.toInt := Int64.lt_iff_toInt_lt.mp e
    exact ⟨fun _ => by omega, fun _ => by decide⟩
  · rw [if_neg e]
    have e' : ¬ (0 : Int64).toInt < a.toInt := fun z => e (Int64.lt_iff_toInt_lt.mpr z)
    by_cases e2 : a = 0
    · rw [if_pos e2, e2]; exact ⟨fun _ => by decide, fun _ => by decide⟩
    · rw [if_neg e2]
      have : a.toInt ≠ 0 := fun z => e2 (Int64.toInt_inj.mp (z.trans z0.symm))
      exact ⟨fun z => absurd z (by decide), fun z => by omega⟩
theorem lg_lt0 {a : Int64} : (lg_cmp a 0 < 0) ↔ a.toInt < 0 := by
  have := lg_ge0 (a := a)
  constructor
  · intro h
    by_cases e : a.toInt < 0
    · exact e
    · exact absurd (this.mpr (by omega)) (fun q => absurd (Int32.lt_of_lt_of_le h q) (fun r => absurd (Int32.lt_iff_toInt_lt.mp r) (by omega)))
  · intro h
    have n : ¬ 0 ≤ lg_cmp a 0 := fun q => by have := this.mp q; omega
    exact Int32.not_le.mp n
theorem w64_of {x : Int} (h1 : -2147483648 ≤ x) (h2 : x < 2147483648) : (I x).toInt64 = Int64.ofInt x := by
  apply Int64.toInt_inj.mp
  rw [Int32.toInt_toInt64, I_ti h1 h2, Int64.toInt_ofInt_of_le (by omega) (by omega)]
theorem w64_i {x : Int} (h1 : -2147483648 ≤ x) (h2 : x < 2147483648) : (I x).toInt64.toInt = x := by rw [Int32.toInt_toInt64, I_ti h1 h2]
theorem w64_n {x : Int} (h1 : -2147483600 ≤ x) (h2 : x < 2147483600) : (-1 - (I x).toInt64).toInt = -1 - x ∧ (-1 - (-1 - (I x).toInt64)).toInt32 = I x := by
  rw [w64_of (by omega) (by omega), show (-1 : Int64) = Int64.ofInt (-1) from rfl, ← Int64.ofInt_sub, ← Int64.ofInt_sub]
  refine ⟨Int64.toInt_ofInt_of_le (by omega) (by omega), ?_⟩
  rw [show (-1 : Int) - (-1 - x) = x from by omega, ← w64_of (by omega) (by omega), Int32.toInt32_toInt64]
def npS (u : MS) (z : Nat) : MS :=
  wa (wa (wa (wa (wa (wa (wa (wa (wa (wa (wa (wa (wj (wa (wa (wa (wa (wa (wa (wa (wa (wa (wi u 118 ((z : Int) + 1)) 89 z 0) 90 z 0) 92 z 0) 94 z 0) 95 z 1) 106 z 0) 108 z 0) 109 z 5) 110 z 0) 111 z (-1)) 112 z 0) 113 z (-1)) 114 z 0) 115 z 0) 117 z 0) 132 z 0) (96) (60 * z) (-1)) 97 (60 * z) (-1)) 98 (60 * z) 0) 99 (60 * z) 0) 100 (60 * z) 0) 101 (60 * z) 0
theorem newProcess_e (h : F u 118 = z) (hz : z < 24) : fm_M_newProcess N u = some (npS u z, I z) := by
  unfold fm_M_newProcess fb_M_newProcess_0
  rw [I_F' h]
  have i1 : ∀ k n, ln k = n → 24 ≤ n → n < 2147483648 → inb (I (z : Int)) (ln k) = true := fun k n hk h1 h2 => inb_at hk (by omega) (by omega) h2
  have i2 : ∀ k, ln k = 1440 → inb (I (z : Int) * 60) (ln k) = true := fun k hk => by rw [show (60 : Int32) = I 60 from rfl, I_mul]; exact inb_at hk (by omega) (by omega) (by decide)
  have tz : (I (z : Int)).toNatClampNeg = z := by rw [I_tn (by omega) (by omega), Int.toNat_natCast]
  have t60 : (I (z : Int) * 60).toNatClampNeg = 60 * z := by rw [show (60 : Int32) = I 60 from rfl, I_mul, I_tn (by omega) (by omega)]; omega
  have a1 : I (z : Int) + 1 = I ((z : Int) + 1) := by rw [lit1q, I_add]
  simp only [lt_e, i1 89 25 rfl (by decide) (by decide), i1 90 24 rfl (by decide) (by decide), i1 92 24 rfl (by decide) (by decide), i1 94 24 rfl (by decide) (by decide), i1 95 24 rfl (by decide) (by decide), i1 106 24 rfl (by decide) (by decide), i1 108 24 rfl (by decide) (by decide), i1 109 24 rfl (by decide) (by decide), i1 110 24 rfl (by decide) (by decide), i1 111 24 rfl (by decide) (by decide), i1 112 24 rfl (by decide) (by decide), i1 113 24 rfl (by decide) (by decide), i1 114 24 rfl (by decide) (by decide), i1 115 24 rfl (by decide) (by decide), i1 117 24 rfl (by decide) (by decide), i1 132 24 rfl (by decide) (by decide), i2 96 rfl, i2 97 rfl, i2 98 rfl, i2 99 rfl, i2 100 rfl, i2 101 rfl, ck_t, tz, t60, a1]
  rfl
theorem np_fr : FR [118] [] [89, 90, 92, 94, 95, 96, 97, 98, 99, 100, 101, 106, 108, 109, 110, 112, 113, 114, 115, 117, 132] [111] u (npS u z) := by
  unfold npS
  repeat (first | refine FR.wa ?_ (by decide) | refine FR.wj ?_ (by decide) | refine FR.wi ?_ (by decide))
  exact FR.rf
theorem np_row (hk : k ∈ [89, 90, 92, 94, 106, 108, 110, 112, 114, 115, 117, 132]) : A (npS u z) k j = if j = z then 0 else A u k j := by
  simp only [List.mem_cons, List.not_mem_nil, or_false] at hk
  rcases hk with h | h | h | h | h | h | h | h | h | h | h | h <;> subst h <;> (unfold npS; simp only [A_wa (x := 0) (by decide) (by decide), A_wa (x := 1) (by decide) (by decide), A_wa (x := 5) (by decide) (by decide), A_wa (x := -1) (by decide) (by decide), A_wj, A_wi]; simp)
theorem np_95 : A (npS u z) 95 j = if j = z then 1 else A u 95 j := by
  unfold npS; simp only [A_wa (x := 0) (by decide) (by decide), A_wa (x := 1) (by decide) (by decide), A_wa (x := 5) (by decide) (by decide), A_wa (x := -1) (by decide) (by decide), A_wj, A_wi]; simp
theorem np_109 : A (npS u z) 109 j = if j = z then 5 else A u 109 j := by
  unfold npS; simp only [A_wa (x := 0) (by decide) (by decide), A_wa (x := 1) (by decide) (by decide), A_wa (x := 5) (by decide) (by decide), A_wa (x := -1) (by decide) (by decide), A_wj, A_wi]; simp
theorem np_fr0 (hk : k ∈ [98, 99, 100, 101]) : A (npS u z) k j = if j = 60 * z then 0 else A u k j := by
  simp only [List.mem_cons, List.not_mem_nil, or_false] at hk
  rcases hk with h | h | h | h <;> subst h <;> (unfold npS; simp only [A_wa (x := 0) (by decide) (by decide), A_wa (x := 1) (by decide) (by decide), A_wa (x := 5) (by decide) (by decide), A_wa (x := -1) (by decide) (by decide), A_wj, A_wi]; simp)
theorem np_fr1 (hk : k ∈ [96, 97]) : A (npS u z) k j = if j = 60 * z then -1 else A u k j := by
  simp only [List.mem_cons, List.not_mem_nil, or_false] at hk
  rcases hk with h | h <;> subst h <;> (unfold npS; simp only [A_wa (x := 0) (by decide) (by decide), A_wa (x := 1) (by decide) (by decide), A_wa (x := 5) (by decide) (by decide), A_wa (x := -1) (by decide) (by decide), A_wj, A_wi]; simp)
theorem np_118 (hz : z < 24) : F (npS u z) 118 = ((z + 1 : Nat) : Int) := by
  unfold npS; simp only [F_wa, F_wj]; rw [F_wi (by omega) (by omega), if_pos rfl]; omega
theorem np_111 : (npS u z).2.2.2 111 j = if j = z then -1 else u.2.2.2 111 j := by
  unfold npS; simp only [J_wa, J_wj, J_wi, if_true]
theorem np_otf : OTF z u (npS u z) := by
  refine ⟨fun y hy => ?_, fun i hi => ?_, fun i _ => ⟨FR.A np_fr (by decide), FR.A np_fr (by decide), FR.A np_fr (by decide), FR.A np_fr (by decide)⟩, fun i => ?_, fun i hi => ?_, fun y hy => ⟨FR.A np_fr (by decide), ?_, ?_⟩⟩
  · rw [np_row (k := 92) (by decide), np_row (k := 94) (by decide), np_95, np_row (k := 106) (by decide), if_neg hy, if_neg hy, if_neg hy, if_neg hy]; exact ⟨rfl, rfl, rfl, rfl⟩
  · rw [np_fr0 (k := 98) (by decide), np_fr0 (k := 99) (by decide), np_fr0 (k := 100) (by decide), np_fr0 (k := 101) (by decide), if_neg (by omega), if_neg (by omega), if_neg (by omega), if_neg (by omega)]; exact ⟨rfl, rfl, rfl, rfl⟩
  · rw [np_fr1 (k := 97) (by decide)]
    by_cases e : i = 60 * z
    · rw [if_pos e]; exact Or.inr (by omega)
    · rw [if_neg e]; exact Or.inl rfl
  · rw [np_fr1 (k := 96) (by decide), if_neg (by omega)]
  · rw [np_row (k := 110) (by decide), if_neg hy]
  · rw [np_111, if_neg hy]
theorem GT_mo {t : Int64} (hP : ∀ t, P t → P2 t) (g : GT n ow kd P t) : GT n ow kd P2 t := by
  rcases g with ⟨a, b⟩ | g
  · exact Or.inl ⟨a, hP t b⟩
  · exact Or.inr g
theorem HP_mo {h : Nat → Int64} (hP : ∀ t, P t → P2 t) (g : HP h n ow kd Fv P) : HP h n ow kd Fv P2 := fun t ht gt => by
  obtain ⟨f, s, a, b⟩ := g t ht (by
    rcases gt with ⟨a, -⟩ | gt
    · exact absurd ht a
    · exact Or.inr gt)
  exact ⟨f, s, SZ_ext (Nat.le_refl _) (fun _ _ => rfl) (fun _ _ => rfl) (fun _ _ => rfl) (fun _ _ q => q) hP a, b⟩
theorem CX_mo {h : Nat → Int64} (hP : ∀ t, P t → P2 t) (c : CX u p h n ow kd Fv P opM bnM bxM) : CX u p h n ow kd Fv P2 opM bnM bxM := by
  obtain ⟨x1, x2, x3, x4, x5, x6, x7, x8, x9, x10, x11⟩ := c
  exact ⟨x1, HP_mo hP x2, x3, x4, x5, x6, x7, fun i hi => GT_mo hP (x8 i hi), fun i hi => GT_mo hP (x9 i hi), fun i hi => GT_mo hP (x10 i hi), fun e => GT_mo hP (x11 e)⟩
theorem GTP_mo {o : Nat} {t : Int64} (hP : ∀ t, P t → P2 t) (g : GTP Fv P u o t) : GTP Fv P2 u o t := by
  obtain ⟨n, ow, kd, a, b, c, d⟩ := g
  exact ⟨n, ow, kd, a, b, HP_mo hP c, GT_mo hP d⟩
theorem DW_grow (d : DW Fv P PR u) (hP : ∀ t, P t → P2 t) (hz : PR < 24) : DW Fv P2 (PR + 1) (npS u PR) := by
  obtain ⟨⟨d1, d1'⟩, d2, ⟨n4, ow4, kd4, d3a, d3b, d3c⟩, d4, ⟨eF, eM, e1, e2, e3, e4, e5⟩, d6⟩ := d
  have f := np_fr (u := u) (z := PR)
  have h88 : ∀ o, hp (npS u PR) o = hp u o := fun o => by unfold hp; rw [f.2.2.2 88 (by decide)]
  have r89 : ∀ y, y ≠ PR → A (npS u PR) 89 y = A u 89 y := fun y hy => by rw [np_row (k := 89) (by decide), if_neg hy]
  have r109 : ∀ y, y ≠ PR → A (npS u PR) 109 y = A u 109 y := fun y hy => by rw [np_109, if_neg hy]
  refine ⟨⟨np_118 hz, by omega⟩, fun y hy => ?_, ⟨n4, ow4, kd4, by rw [r89 24 (by omega)]; exact d3a, d3b, by rw [h88]; exact HP_mo hP d3c⟩, by rw [FR.F f (by decide)]; exact d4, ⟨eF, eM, by rw [FR.F f (by decide)]; exact e1, by rw [FR.F f (by decide)]; exact e2, e3, ?_, fun i h1 h2 => ?_⟩, fun y hy => ?_⟩
  · by_cases e : y = PR
    · rw [e]
      refine ⟨0, fun _ => 1, fun _ => 0, 0, 0, 0, by rw [np_row (k := 89) (by decide), if_pos rfl]; rfl, rfl, HP_none, by omega, hz, ⟨by rw [np_row (k := 92) (by decide), if_pos rfl]; rfl, by omega⟩, ⟨by rw [np_row (k := 94) (by decide), if_pos rfl]; rfl, by omega⟩, ⟨by rw [np_row (k := 108) (by decide), if_pos rfl]; rfl, by omega⟩, fun i hi => absurd hi (Nat.not_lt_zero i), fun i hi => absurd hi (Nat.not_lt_zero i), fun i hi => absurd hi (Nat.not_lt_zero i), fun e => ?_⟩
      rw [FR.F f (by decide), d4] at e; omega
    · obtain ⟨n, ow, kd, o2, b2, bx, a, c⟩ := PRC_same (w2 := npS u PR) (d2 y (by omega)) (r89 y e) (h88 y) (by rw [np_row (k := 92) (by decide), if_neg e]) (by rw [np_row (k := 94) (by decide), if_neg e]) (by rw [np_row (k := 108) (by decide), if_neg e]) (fun i _ => by rw [f.2.2.2 91 (by decide)]) (fun i _ => by rw [f.2.2.2 93 (by decide)]) (fun i _ => by rw [f.2.2.2 107 (by decide)]) (by rw [FR.F f (by decide), d4]; omega)
      exact ⟨n, ow, kd, o2, b2, bx, a, CX_mo hP c⟩
  · show eM ≤ cE (npS u PR) PR + _
    rw [cE_eq PR (fun p hp => r109 p (by omega))]; omega
  · obtain ⟨q1, q2, q3, q4⟩ := e5 i h1 h2
    rw [FR.A f (by decide), FR.A f (by decide), FR.A f (by decide), f.2.2.2 148 (by decide)]
    refine ⟨⟨q1.1, by omega⟩, q2, q3, ?_⟩
    rcases q4 with ⟨q4, q5⟩ | ⟨q4, q5, q6⟩
    · exact Or.inl ⟨q4, hP _ q5⟩
    · have no : (A u 147 i).toNat ≠ PR := by omega
      refine Or.inr ⟨q4, ?_, GTP_mo hP (GTP_same q6 (r89 _ no) (h88 _))⟩
      rcases q5 with q5 | ⟨q5, q7⟩
      · exact Or.inl q5
      · exact Or.inr ⟨by omega, by rw [r109 _ no]; exact q7⟩
  · by_cases e : y = PR
    · rw [e, np_109, if_pos rfl]; omega
    · rw [r109 y e]; exact d6 y (by omega)
end
end
section
section
variable {Fv : Int64 → Int64 → Prop} {P P2 : Int64 → Prop} {u v w w2 x y : MS} {PR PR2 N p n n2 opM bnM bxM bx2 ND fr k tp mu CN PN SN UN FN rq q m h mm AN z j : Nat} {ow kd ow2 kd2 ro rn rh cb pc ct pM pE : Nat → Nat} {T : TY} {C : CY}
theorem OTF_170 {a : Int} (h1 : -2147483648 ≤ a) (h2 : a < 2147483648) : OTF z u (wa u 170 z a) := by
  have f : FR [] [] [170] [] u (wa u 170 z a) := FR.wa FR.rf (by decide)
  exact ⟨fun y _ => ⟨FR.A f (by decide), FR.A f (by decide), FR.A f (by decide), FR.A f (by decide)⟩, fun i _ => ⟨FR.A f (by decide), FR.A f (by decide), FR.A f (by decide), FR.A f (by decide)⟩, fun i _ => ⟨FR.A f (by decide), FR.A f (by decide), FR.A f (by decide), FR.A f (by decide)⟩, fun i => Or.inl (FR.A f (by decide)), fun i _ => FR.A f (by decide), fun y hy => ⟨by rw [A_eq h1 h2, if_neg hy], FR.A f (by decide), rfl⟩⟩
theorem OTF_96 {a : Int} {i0 : Nat} (h1 : -2147483648 ≤ a) (h2 : a < 2147483648) (h3 : 60 * z ≤ i0 ∧ i0 < 60 * z + 60) : OTF z u (wa u 96 i0 a) := by
  have f : FR [] [] [96] [] u (wa u 96 i0 a) := FR.wa FR.rf (by decide)
  exact ⟨fun y _ => ⟨FR.A f (by decide), FR.A f (by decide), FR.A f (by decide), FR.A f (by decide)⟩, fun i _ => ⟨FR.A f (by decide), FR.A f (by decide), FR.A f (by decide), FR.A f (by decide)⟩, fun i _ => ⟨FR.A f (by decide), FR.A f (by decide), FR.A f (by decide), FR.A f (by decide)⟩, fun i => Or.inl (FR.A f (by decide)), fun i hi => by rw [A_eq h1 h2, if_neg (by omega)], fun y hy => ⟨FR.A f (by decide), FR.A f (by decide), rfl⟩⟩
theorem ERX_grow {as js : List Nat} (e : ERX Fv P PR T C ND CN p u fr ro rn rh cb pc ct q n ow kd opM bnM bxM mu) (hG : tG T q = 0) (hT : ∀ q, q < ND → tK T q ≤ 26) (hz : p ≠ z) (o : OTF z u w) (f : FR [118, 150] [] as js u w) (h23 : 23 ∉ as) (h109 : A w 109 p = 0) (d : DW Fv P2 PR2 w) (hp2 : p < PR2) : ∃ n2 ow2 kd2 bx2, ERX Fv P2 PR2 T C ND CN p w fr ro rn rh cb pc ct q n2 ow2 kd2 opM bnM bx2 mu := by
  obtain ⟨i, h2, h3, h4, h5, h6, h7, h8, h9⟩ := e
  obtain ⟨o1, o2, o3, o4⟩ := o.1 p hz
  obtain ⟨n2, ow2, kd2, bx2, ix⟩ := MEX_of (opM := opM) (bnM := bnM) d hp2 (by rw [FR.F f (by decide)]; exact i.2.2.1) (by rw [o1]; exact i.2.2.2.2.2.2.2.2.2.1.1) (by rw [o2]; exact i.2.2.2.2.2.2.2.2.2.2.1.1)
  refine ⟨n2, ow2, kd2, bx2, MEX_i ix (by omega), FRS_otf h2 hz (hT q h3) o (fun i => FR.A f h23), h3, h4, by rw [o4]; exact h5, h109, h7, h8, ?_⟩
  rcases h9 with ⟨y1, y2, y3⟩ | ⟨y1, c, s, many, hg, hb', mm', r, t1, t2, -⟩
  · refine Or.inl ⟨y1, by rw [FR.F f (by decide)]; exact y2, ?_⟩
    unfold CLG; rw [FR.F f (by decide), FR.F f (by decide)]; exact y3
  · omega
theorem WLD_grow (hw : WLD u T ND UN FN PR p) (hT : ∀ q, q < ND → tK T q ≤ 26) (hpr : PR < 24) (o : OTF PR u w) (hk : ∀ k, k ∈ KP → ∀ i, A w k i = A u k i) (h109 : ∀ y, y ≠ PR → A w 109 y = A u 109 y) (h116 : ∀ i, A w 116 i = A u 116 i) (h117 : ∀ y, A w 117 y = if y = PR then 0 else A u 117 y) (h125 : F w 125 = F u 125) (h123 : ∀ i, A w 123 i = A u 123 i) (h124 : ∀ i, A w 124 i = A u 124 i) (h128 : F w 128 = F u 128) (h127 : ∀ i, A w 127 i = A u 127 i) (h132 : ∀ y, A w 132 y = if y = PR then 0 else A u 132 y) (new : PSX w T ND UN FN PR) : WLD w T ND UN FN (PR + 1) p := by
  obtain ⟨⟨l1, l2⟩, ⟨t1, t2, t3⟩, h3, h4, h5, h6, h7⟩ := hw
  have inn : ∀ a b, a ≠ PR → (inL w a b ↔ inL u a b) := fun a b ha => by
    constructor
    · rintro ⟨k, k1, k2⟩; rw [h117, if_neg ha] at k1; rw [h116] at k2; exact ⟨k, k1, k2⟩
    · rintro ⟨k, k1, k2⟩; exact ⟨k, by rw [h117, if_neg ha]; exact k1, by rw [h116]; exact k2⟩
  have noP : ∀ b, ¬ inL w PR b := fun b ⟨k, k1, k2⟩ => by rw [h117, if_pos rfl] at k1; omega
  refine ⟨⟨fun a ha => ?_, fun a b ha hb hab => ?_⟩, ⟨by rw [h125]; exact t1, by rw [h125]; exact t2, fun i hi => ?_⟩, by rw [h128]; exact h3, fun i => by rw [h127]; exact h4 i, fun i => ?_, fun i => ?_, fun y hy hyp => ?_⟩
  · by_cases e : a = PR
    · subst e
      have z7 : A w 117 a = 0 := by rw [h117, if_pos rfl]
      exact ⟨by omega, by omega, fun k hk' => by omega, fun k j hk' hj => by omega⟩
    · obtain ⟨r1, r2, r3, r4⟩ := l1 a (by omega)
      unfold LKR
      rw [h117, if_neg e]
      refine ⟨r1, r2, fun k hk' => ?_, fun k j hk' hj => ?_⟩
      · rw [h116]; have := r3 k hk'; omega
      · rw [h116, h116]; exact r4 k j hk' hj
  · by_cases e : a = PR
    · subst e; exact absurd hab (noP b)
    · have hab' := (inn a b e).mp hab
      by_cases eb : b = PR
      · subst eb
        obtain ⟨k, k1, k2⟩ := hab'
        have := (l1 a (by omega)).2.2.1 k k1
        omega
      · exact (inn b a eb).mpr (l2 a b (by omega) (by omega) hab')
  · rw [h125] at hi
    rw [h123, h124]
    have := t3 i hi
    omega
  · rcases o.2.2.2.1 i with e | e
    · rw [e]; exact h5 i
    · exact e
  · rw [h132]
    by_cases e : i = PR
    · rw [if_pos e]; omega
    · rw [if_neg e]; exact h6 i
  · by_cases e : y = PR
    · rw [e]; exact new
    · exact PSX_otf (h7 y (by omega) hyp) e hT o hk (Or.inl (h109 y e))
def SPF (u w : MS) : Prop := FR [118, 150] [] [89, 90, 92, 94, 95, 96, 97, 98, 99, 100, 101, 106, 108, 109, 110, 112, 113, 114, 115, 117, 132, 142, 145, 146, 147, 170] [88, 93, 111, 141, 148] u w
def SPR (PR : Nat) (u w : MS) : Prop := SPF u w ∧ OTF PR u w ∧ (∀ y, y ≠ PR → A w 109 y = A u 109 y) ∧ (∀ y, A w 117 y = if y = PR then 0 else A u 117 y) ∧ (∀ y, A w 132 y = if y = PR then 0 else A u 132 y)
theorem SPR.tr {is ls as js : List Nat} (s : SPR PR u v) (f : FR is ls as js v w) (o : OTF PR v w) (h1 : ∀ k, k ∈ is → k ∈ [118, 150]) (h2 : ∀ k, k ∈ ls → k ∈ []) (h3 : ∀ k, k ∈ as → k ∈ [89, 90, 92, 94, 95, 96, 97, 98, 99, 100, 101, 106, 108, 109, 110, 112, 113, 114, 115, 117, 132, 142, 145, 146, 147, 170]) (h4 : ∀ k, k ∈ js → k ∈ [88, 93, 111, 141, 148]) (h117 : 117 ∉ as) (h132 : 132 ∉ as) (h109 : ∀ y, y ≠ PR → A w 109 y = A v 109 y) : SPR PR u w := by
  obtain ⟨s1, s2, s3, s4, s5⟩ := s
  exact ⟨FR.tr s1 (FR.mo f h1 h2 h3 h4), OTF.tr s2 o, fun y hy => by rw [h109 y hy, s3 y hy], fun y => by rw [FR.A f h117]; exact s4 y, fun y => by rw [FR.A f h132]; exact s5 y⟩
theorem SPR_np : SPR PR u (npS u PR) := ⟨FR.mo np_fr (by decide) (by decide) (by decide) (by decide), np_otf, fun y hy => by rw [np_109, if_neg hy], fun y => np_row (by decide), fun y => np_row (by decide)⟩
theorem sp286 {G : MS → Int32 → Int64 → Int32 → Int32 → Option (MS × Unit)} (e : ERX Fv (PQ AN PR) PR T C ND CN p u fr ro rn rh cb pc ct q n ow kd (ro (fr - 1) + tH T q) (rn (fr - 1) + rh (fr - 1) + tM T q) bxM mu) (hAN : 22 ≤ AN) (hw : WLD u T ND UN FN PR p) (hT : ∀ q, q < ND → tK T q ≤ 26) (hH : tH T q ≤ 760) (hG : tG T q = 0) (hq : tB T q + 1 ≤ tH T q) (hm : m < ND) (hx : NX T q m (tH T q) (tM T q)) (h98 : A u 98 (60 * p + (fr - 1)) = ((m : Nat) : Int)) (hpr : PR < 24) (s : SPR PR u w) (d : DW Fv (PQ AN (PR + 1)) (PR + 1) w) (new : PSX w T ND UN FN PR) : OK (fun v _ => RSW Fv AN T C ND CN UN FN p mu u v) (fb_M_spawnRun_286 N G w (I PR)) := by
  have hf := e.2.1.1
  have hro := (e.2.1.2.2.1 (fr - 1) (by omega)).2.2.2.2.1
  have pp := e.1.2.1
  have x4 := MEI_p e.1
  have hne : p ≠ PR := by omega
  obtain ⟨s1, s2, s3, s4, s5⟩ := s
  obtain ⟨n2, ow2, kd2, bx2, ew⟩ := ERX_grow e hG hT hne s2 s1 (by decide) (by rw [s3 p hne]; exact e.2.2.2.2.2.1) d (by omega)
  have ww : WLD w T ND UN FN (PR + 1) p := WLD_grow hw hT hpr s2 (fun k hk i => FR.A s1 (by revert hk; unfold KP; simp; omega)) s3 (fun i => FR.A s1 (by decide)) s4 (FR.F s1 (by decide)) (fun i => FR.A s1 (by decide)) (fun i => FR.A s1 (by decide)) (FR.F s1 (by decide)) (fun i => FR.A s1 (by decide)) s5 new
  have g0 : GFR u w := FR.mo s1 (by decide) (by decide) (by decide) (by decide)
  have w98 : A w 98 (60 * p + (fr - 1)) = ((m : Nat) : Int) := by rw [(s2.2.1 _ (by omega)).1]; exact h98
  rw [show ro (fr - 1) + tH T q = ro (fr - 1) + (tH T q - 1) + 1 from by omega] at ew
  unfold fb_M_spawnRun_286
  refine ok_bnd.mpr (ok_mono (takeE (N := N) ew (by omega)) (fun v r hv => ?_))
  obtain ⟨v1, v2, v3, v4⟩ := hv
  rw [show (4 : Int32) = I 4 from rfl, term_e, bnd_so]
  refine ok_bnd.mpr (ok_mono (putR (N := N) v1 hm hx (by rw [FR.A v3 (by decide)]; exact w98) (by omega) rfl (Or.inl ⟨nh_mk (by omega), (PQ_b hAN (by omega)).2.1 PR (by omega)⟩) (by omega)) (fun y _ hy => ok_some.mpr ?_))
  exact RSW.pre g0 (RES_via v3 v4 hy ww hT (by omega) (by decide) (by decide) (by decide) (by decide) (by decide) (by decide))
end
end
section
section
variable {Fv : Int64 → Int64 → Prop} {P P2 : Int64 → Prop} {u v w w2 x y b : MS} {PR PR2 N p n n2 opM bnM bxM bx2 ND fr k tp mu CN PN SN UN FN rq q m h mm AN z j : Nat} {ow kd ow2 kd2 ro rn rh cb pc ct pM pE : Nat → Nat} {T : TY} {C : CY}
def NEWR (w : MS) (UN FN z h : Nat) : Prop := A w 109 z = 5 ∧ A w 95 z = 1 ∧ A w 92 z = 0 ∧ A w 106 z = 0 ∧ A w 99 (60 * z) = 0 ∧ A w 100 (60 * z) = 0 ∧ h ≤ 40 ∧ A w 101 (60 * z) = h ∧ ((A w 96 (60 * z) = -1 ∧ ∃ x : Nat, x < UN ∧ A w 170 z = x ∧ A w 54 x = h ∧ ∃ c : Nat, A w 53 x = c ∧ A w 41 c = 0) ∨ (h = 0 ∧ ∃ f : Nat, f < FN ∧ A w 96 (60 * z) = f ∧ A w 48 f = 0))
theorem NEWR_fr {is ls as js : List Nat} (r : NEWR u UN FN z h) (f : FR is ls as js u w) (ha : ∀ k, k ∈ [41, 48, 53, 54, 92, 95, 96, 99, 100, 101, 106, 109, 170] → k ∉ as) : NEWR w UN FN z h := by
  obtain ⟨r1, r2, r3, r4, r5, r6, r7, r8, r9⟩ := r
  refine ⟨by rw [FR.A f (ha _ (by decide))]; exact r1, by rw [FR.A f (ha _ (by decide))]; exact r2, by rw [FR.A f (ha _ (by decide))]; exact r3, by rw [FR.A f (ha _ (by decide))]; exact r4, by rw [FR.A f (ha _ (by decide))]; exact r5, by rw [FR.A f (ha _ (by decide))]; exact r6, r7, by rw [FR.A f (ha _ (by decide))]; exact r8, ?_⟩
  rw [FR.A f (ha _ (by decide)), FR.A f (ha _ (by decide))]
  rcases r9 with ⟨q1, x, q2, q3, q4, c, q5, q6⟩ | ⟨q1, g, q2, q3, q4⟩
  · exact Or.inl ⟨q1, x, q2, q3, by rw [FR.A f (ha _ (by decide))]; exact q4, c, by rw [FR.A f (ha _ (by decide))]; exact q5, by rw [FR.A f (ha _ (by decide))]; exact q6⟩
  · exact Or.inr ⟨q1, g, q2, q3, by rw [FR.A f (ha _ (by decide))]; exact q4⟩
theorem NEWR_h (r : NEWR w UN FN z h) (h94 : A w 94 z = h) : PSX w T ND UN FN z := by
  obtain ⟨r1, r2, r3, r4, r5, r6, r7, r8, r9⟩ := r
  exact Or.inr (Or.inr ⟨r1, r2, r3, r4, r5, r6, h, r7, h94, r8, r9⟩)
theorem sp234 {t9 : Int64} {s0 : Nat} (e : ERX Fv (PQ AN PR) PR T C ND CN p u fr ro rn rh cb pc ct q n ow kd (ro (fr - 1) + tH T q) (rn (fr - 1) + rh (fr - 1) + tM T q) bxM mu) (hAN : 22 ≤ AN) (hw : WLD u T ND UN FN PR p) (hT : ∀ q, q < ND → tK T q ≤ 26) (hH : tH T q ≤ 760) (hG : tG T q = 0) (hq : tB T q + 1 ≤ tH T q) (hm : m < ND) (hx : NX T q m (tH T q) (tM T q)) (h98 : A u 98 (60 * p + (fr - 1)) = ((m : Nat) : Int)) (hpr : PR < 24) (s : SPR PR u b) (d : DW Fv (PQ AN (PR + 1)) (PR + 1) b) (h89 : A b 89 PR = ((s0 : Nat) : Int)) (cx : CX b PR (hp b PR) s0 ow2 kd2 Fv (PQ AN (PR + 1)) 0 0 0) (nr : NEWR b UN FN PR h) (g9 : GT s0 ow2 kd2 (PQ AN (PR + 1)) t9) (so9 : so t9 = 3) (hh : vn (hp b PR (vn t9 + 1)) = h) : ∀ k j w M, j + k = h → k < M → FR [] [] [] [93] b w → (∀ i, ¬ (2500 * PR ≤ i ∧ i < 2500 * PR + 2500) → w.2.2.2 93 i = b.2.2.2 93 i) → (∀ i, i < j → w.2.2.2 93 (2500 * PR + i) = hp b PR (vn t9 + (2 + i))) → OK (fun v _ => RSW Fv AN T C ND CN UN FN p mu u v) (gg_M_spawnRun N M w (I PR) t9 (I h) (I j)) := by
  obtain ⟨x1, x2, x3, x4, x5, x6, x7, x8, x9, x10, x11⟩ := id cx
  have h40 : h ≤ 40 := nr.2.2.2.2.2.2.1
  have n5 : A b 109 PR = 5 := nr.1
  have ht : isH t9 := Or.inl so9
  obtain ⟨bk, parts⟩ := HP_bk x2 ht g9
  have bb : blk (hp b PR) t9 = 2 + h := by unfold blk; rw [so9, hh]; rfl
  have pp : prt t9 = 2 := by unfold prt; rw [so9]; rfl
  have bn := bk.2.2.2.1
  have vt : va t9 = (vn t9 : Int) := by have := bk.1; unfold vn; omega
  intro k
  induction k with
  | zero =>
    intro j w M hj hM f out cells
    obtain rfl : j = h := by omega
    obtain ⟨M, rfl⟩ : ∃ M', M = M' + 1 := ⟨M - 1, by omega⟩
    show OK _ (fb_M_spawnRun_234 N (gg_M_spawnRun N M) w (I PR) t9 (I j) (I j))
    unfold fb_M_spawnRun_234
    rw [decI (by omega) (by omega) (by omega) (by omega), decide_eq_true (by omega), br_tq]
    refine ok_ck.mpr ⟨inb_at (k := 94) (n := 24) rfl (by omega) (by omega) (by decide), ok_lt.mpr ?_⟩
    rw [I_tn (x := (PR : Int)) (by omega) (by omega), Int.toNat_natCast, wa_e]
    have f2 : FR [] [] [94] [93] b (wa w 94 PR (j : Int)) := FR.wa (FR.mo f (by decide) (by decide) (by decide) (by decide)) (by decide)
    have a94 : ∀ y, A (wa w 94 PR (j : Int)) 94 y = if y = PR then (j : Int) else A b 94 y := fun y => by rw [A_eq (by omega) (by omega), FR.A f (by decide)]
    have j93 : (wa w 94 PR (j : Int)).2.2.2 93 = w.2.2.2 93 := rfl
    generalize wa w 94 PR (j : Int) = w2 at *
    have hp2 : hp w2 PR = hp b PR := by unfold hp; rw [f2.2.2.2 88 (by decide)]
    have o2 : OTF PR b w2 := OTF_at (k0 := 94) (i0 := PR) f2 (fun y hy => by rw [a94, if_neg hy]) (Or.inl ⟨by decide, rfl⟩)
    have d2 : DW Fv (PQ AN (PR + 1)) (PR + 1) w2 := DW_q d (by omega) (by omega) ⟨s0, ow2, kd2, 0, j, 0, by rw [FR.A f2 (by decide)]; exact h89, rfl, by rw [hp2]; exact x2, x3, x4, by rw [FR.A f2 (by decide)]; exact x5, ⟨by rw [a94, if_pos rfl], by omega⟩, by rw [FR.A f2 (by decide)]; exact x7, fun i hi => absurd hi (Nat.not_lt_zero i), fun i hi => by rw [j93, cells i hi]; exact parts _ (by omega) (by omega), fun i hi => absurd hi (Nat.not_lt_zero i), fun z => by rw [FR.F f2 (by decide), d.2.2.2.1] at z; omega⟩ (FR.mo f2 (by decide) (by decide) (by decide) (by decide)) (by rw [FR.F f2 (by decide)]; exact d.2.2.2.1) (fun y _ => FR.A f2 (by decide)) (fun y _ => FR.A f2 (by decide)) (fun y hy => by rw [a94, if_neg hy]) (fun y _ => FR.A f2 (by decide)) (fun i _ => by rw [f2.2.2.2 88 (by decide)]) (fun i _ => by rw [f2.2.2.2 91 (by decide)]) (fun i hi => by rw [j93]; exact out i hi) (fun i _ => by rw [f2.2.2.2 107 (by decide)])
    exact sp286 (N := N) e hAN hw hT hH hG hq hm hx h98 hpr (SPR.tr s f2 o2 (by decide) (by decide) (by decide) (by decide) (by decide) (by decide) (fun y _ => FR.A f2 (by decide))) d2 (NEWR_h (NEWR_fr nr f2 (by decide)) (by rw [a94, if_pos rfl]))
  | succ k ih =>
    intro j w M hj hM f out cells
    obtain ⟨M, rfl⟩ : ∃ M', M = M' + 1 := ⟨M - 1, by omega⟩
    show OK _ (fb_M_spawnRun_234 N (gg_M_spawnRun N M) w (I PR) t9 (I h) (I j))
    unfold fb_M_spawnRun_234
    have hpw : hp w PR = hp b PR := by unfold hp; rw [f.2.2.2 88 (by decide)]
    rw [decI (by omega) (by omega) (by omega) (by omega), decide_eq_false (by omega), br_fq, valueOf_e, bnd_so, vt, show (2 : Int32) = I 2 from rfl, I_add, I_add, show (vn t9 : Int) + 2 + (j : Int) = ((vn t9 + (2 + j) : Nat) : Int) from by omega, cell_e (by omega) (by omega), bnd_so, show (2500 : Int32) = I 2500 from rfl, I_mul, I_add]
    refine ok_ck.mpr ⟨inb_at (k := 93) (n := 60000) rfl (by omega) (by omega) (by decide), ok_lt.mpr ?_⟩
    rw [I_tn (by omega) (by omega), show ((PR : Int) * 2500 + (j : Int)).toNat = 2500 * PR + j from by omega, wj_e, lit1q, I_add, show (j : Int) + 1 = ((j + 1 : Nat) : Int) from by omega, hpw]
    refine ih (j + 1) _ M (by omega) (by omega) (FR.wj f (by decide)) (fun i hi => by rw [J_wj, if_pos rfl, if_neg (by omega)]; exact out i hi) (fun i hi => ?_)
    rw [J_wj, if_pos rfl]
    by_cases e2 : i = j
    · subst e2; rw [if_pos rfl]
    · rw [if_neg (by omega)]; exact cells i (by omega)
set_option maxRecDepth 100000 in
theorem sp150 {t v3 : Int64} (e : ERX Fv (PQ AN PR) PR T C ND CN p u fr ro rn rh cb pc ct q n ow kd (ro (fr - 1) + tH T q) (rn (fr - 1) + rh (fr - 1) + tM T q) bxM mu) (hAN : 22 ≤ AN) (hw : WLD u T ND UN FN PR p) (hT : ∀ q, q < ND → tK T q ≤ 26) (hH : tH T q ≤ 760) (hG : tG T q = 0) (hq : tB T q + 1 ≤ tH T q) (hm : m < ND) (hx : NX T q m (tH T q) (tM T q)) (h98 : A u 98 (60 * p + (fr - 1)) = ((m : Nat) : Int)) (hpr : PR < 24) (s : SPR PR u b) (d : DW Fv (PQ AN (PR + 1)) (PR + 1) b) (fb : FR [118] [] [89, 90, 92, 94, 95, 96, 97, 98, 99, 100, 101, 106, 108, 109, 110, 112, 113, 114, 115, 117, 132, 170] [111] u b) (b89 : A b 89 PR = 0) (b94 : A b 94 PR = 0) (b92 : A b 92 PR = 0) (b108 : A b 108 PR = 0) (b109 : A b 109 PR = 5) (gt : GT n ow kd (PQ AN PR) t) (so3 : so t = 3) (hv : vn (hp u p (vn t + 1)) = h) (h40 : h ≤ 40) (nr : NEWR b UN FN PR 0 ∧ v3.toInt < 0 ∨ 0 ≤ v3.toInt ∧ ∀ w, SPR PR u w → FR [] [] [89, 101, 142] [88, 141] b w → A w 101 (60 * PR) = h → NEWR w UN FN PR h) (hN : 60000 ≤ N) : OK (fun v _ => RSW Fv AN T C ND CN UN FN p mu u v) (fb_M_spawnRun_150 N (gg_M_spawnRun N N) b t v3 (I PR) (I PR * 60)) := by
  have i := e.1
  have x4 := MEI_p i
  have hg := i.2.2.2.2.2.2.1
  have n500 : n ≤ 500 := i.2.2.2.2.2.2.2.1
  have pp := i.2.1
  have ht : isH t := Or.inl so3
  obtain ⟨f0, sz, z⟩ := HP_sz hg gt
  have hpb : hp b p = hp u p := by unfold hp; rw [fb.2.2.2 88 (by decide)]
  have b133 : F b 133 = p := by rw [FR.F fb (by decide)]; exact i.2.2.1
  have nal : A b 109 PR ≠ 3 := by omega
  unfold fb_M_spawnRun_150
  rw [I_F' b133]
  refine ok_bnd.mpr (ok_mono (copySize_ok (N := N) (Fv := Fv) (P := PQ AN PR) (n := n) (ow := ow) (kd := kd) (f := f0) (s := sz) (by rw [hpb]; exact hg) n500 (by omega) (by rw [hpb]; exact z) (by omega)) (fun v r hv' => ?_))
  obtain ⟨v1, v2⟩ := hv'
  have v133 : F v 133 = p := by rw [FR.F v1 (by decide)]; exact b133
  have dv : DW Fv (PQ AN (PR + 1)) (PR + 1) v := DW_fr d v1 (by decide) (by decide) (by decide) (by decide) (by decide) (by decide) (by decide) (by decide) (by decide) (by decide) (by decide) (by decide) (by decide) (by decide) (by decide) (by decide) (by decide)
  have sv : SPR PR u v := SPR.tr s v1 (OTF_fr v1 (by decide)) (by decide) (by decide) (by decide) (by decide) (by decide) (by decide) (fun y _ => FR.A v1 (by decide))
  rw [v2, lit500, decI (by split <;> omega) (by split <;> omega) (by omega) (by omega)]
  refine ok_br.mpr ⟨fun zs => ?_, fun zs => ?_⟩
  · have s500 : sz ≤ 500 := by
      have := of_decide_eq_true zs
      by_cases q5 : sz ≤ 500
      · exact q5
      · rw [if_neg q5] at this; omega
    rw [I_F' v133]
    have hpv : hp v p = hp u p := by rw [← hpb]; unfold hp; rw [v1.2.2.2 88 (by decide)]
    refine ok_bnd.mpr (ok_mono (copy_ok (N := N) (fr := p) (to := PR) (n0 := 0) (s := sz) (Fv := Fv) (P := PQ AN PR) (by omega) (by omega) n500 (by omega) (fun e => by omega) (by rw [hpv]; exact hg) (by rw [hpv]; exact z) (by rw [FR.A v1 (by decide), b89]; rfl) (by omega)) (fun w9 r9 hc => ?_))
    obtain ⟨c1, c2, c3, cc, st, src, oo, c4, c5⟩ := hc
    rw [hpv] at c4
    obtain ⟨ow2, kd2, g1, g2, g3, g4, g5⟩ := CPI_end (hD := hp v PR) hg (HP_none (Fv := Fv) (P := PQ AN PR) (h := hp v PR)) c4 (fun z hz => absurd hz (Nat.not_lt_zero z))
    have sz9 := g4 f0 r9 t sz c5 z
    have gt9 := SZ_gt sz9
    have hP := PQ_mo (AN := AN) (PR := PR) (PR2 := PR + 1) (by omega)
    obtain ⟨so9, cell1⟩ : so r9 = 3 ∧ hp w9 PR (vn r9 + 1) = hp u p (vn t + 1) := by
      rcases c5 with ⟨c5, -⟩ | ⟨-, e2, e3, e4, e5⟩
      · exact absurd ht c5
      · refine ⟨by omega, ?_⟩
        obtain ⟨q1, q2, q3, q4, q5, q6⟩ := c4.2.2.1 _ e4
        rw [e5] at q2 q6
        have bp : 2 ≤ blk (hp u p) t := blk_2 so3
        have pt : prt t = 2 := by unfold prt; rw [so3]; rfl
        exact (q6 1 (by omega) (fun y => by omega)).1 (by omega)
    have cx9 : CX w9 PR (hp w9 PR) (0 + sz) ow2 kd2 Fv (PQ AN (PR + 1)) 0 0 0 := ⟨rfl, HP_mo hP g1, by omega, hpr, ⟨by rw [FR.A c1 (by decide), FR.A v1 (by decide), b92]; rfl, by omega⟩, ⟨by rw [FR.A c1 (by decide), FR.A v1 (by decide), b94]; rfl, by omega⟩, ⟨by rw [FR.A c1 (by decide), FR.A v1 (by decide), b108]; rfl, by omega⟩, fun i hi => absurd hi (Nat.not_lt_zero i), fun i hi => absurd hi (Nat.not_lt_zero i), fun i hi => absurd hi (Nat.not_lt_zero i), fun z => by rw [FR.F c1 (by decide), dv.2.2.2.1] at z; omega⟩
    have h89 : A w9 89 PR = ((0 + sz : Nat) : Int) := by rw [c2, if_pos rfl]
    have d9 : DW Fv (PQ AN (PR + 1)) (PR + 1) w9 := DW_q dv (by omega) (by rw [FR.A v1 (by decide)]; exact nal) ⟨0 + sz, ow2, kd2, 0, 0, 0, h89, cx9⟩ (FR.mo c1 (by decide) (by decide) (by decide) (by decide)) (by rw [FR.F c1 (by decide)]; exact dv.2.2.2.1) (fun y hy => by rw [c2, if_neg hy]) (fun y _ => FR.A c1 (by decide)) (fun y _ => FR.A c1 (by decide)) (fun y _ => FR.A c1 (by decide)) (fun i hi => c3 i (by omega)) (fun i _ => by rw [c1.2.2.2 91 (by decide)]) (fun i _ => by rw [c1.2.2.2 93 (by decide)]) (fun i _ => by rw [c1.2.2.2 107 (by decide)])
    have s9 : SPR PR u w9 := SPR.tr sv c1 (OTF_fr c1 (by decide)) (by decide) (by decide) (by decide) (by decide) (by decide) (by decide) (fun y _ => FR.A c1 (by decide))
    have fb9 : FR [] [] [89, 101, 142] [88, 141] b w9 := FR.tr (FR.mo v1 (by decide) (by decide) (by decide) (by decide)) (FR.mo c1 (by decide) (by decide) (by decide) (by decide))
    refine ok_br.mpr ⟨fun zl => ?_, fun zl => ?_⟩
    · have nr0 : NEWR b UN FN PR 0 := by
        rcases nr with ⟨nr, -⟩ | ⟨nr, -⟩
        · exact nr
        · have := lg_lt0.mp (of_decide_eq_true zl); omega
      exact sp286 (N := N) e hAN hw hT hH hG hq hm hx h98 hpr s9 d9 (NEWR_h (NEWR_fr (NEWR_fr nr0 v1 (by decide)) c1 (by decide)) (by rw [FR.A c1 (by decide), FR.A v1 (by decide), b94]; rfl))
    · have nr1 : ∀ w, SPR PR u w → FR [] [] [89, 101, 142] [88, 141] b w → A w 101 (60 * PR) = h → NEWR w UN FN PR h := by
        rcases nr with ⟨-, nr⟩ | ⟨-, nr⟩
        · exact absurd (lg_lt0.mpr nr) (of_decide_eq_false zl)
        · exact nr
      have bk := (HP_bk g1 (Or.inl so9) gt9).1
      have vt : va r9 = (vn r9 : Int) := by have := bk.1; unfold vn; omega
      have bn := bk.2.2.2.1
      have b2 : 2 ≤ blk (hp w9 PR) r9 := blk_2 so9
      have hv' : va (hp w9 PR (vn r9 + 1)) = (h : Int) := by
        have := (bk.2.2.1 so9).1
        rw [← hv, ← cell1]; unfold vn at *; omega
      have ci : (hp w9 PR (vn r9 + 1)).toInt32 = I (h : Int) := by
        have : (hp w9 PR (vn r9 + 1)).toInt32.toInt = (h : Int) := hv'
        rw [I_of (hp w9 PR (vn r9 + 1)).toInt32, this]
      rw [valueOf_e, bnd_so, vt, lit1q, I_add, show (vn r9 : Int) + 1 = ((vn r9 + 1 : Nat) : Int) from by omega, cell_e (by omega) (by omega), bnd_so, ci, show (60 : Int32) = I 60 from rfl, I_mul]
      refine ok_ck.mpr ⟨inb_at (k := 101) (n := 1440) rfl (by omega) (by omega) (by decide), ok_lt.mpr ?_⟩
      rw [I_tn (x := (PR : Int) * 60) (by omega) (by omega), show ((PR : Int) * 60).toNat = 60 * PR from by omega, wa_e, show (0 : Int32) = I ((0 : Nat) : Int) from rfl]
      have f10 : FR [] [] [101] [] w9 (wa w9 101 (60 * PR) (h : Int)) := FR.wa FR.rf (by decide)
      have a101 : A (wa w9 101 (60 * PR) (h : Int)) 101 (60 * PR) = h := by rw [A_eq (by omega) (by omega), if_pos rfl]
      have o10 : OTF PR w9 (wa w9 101 (60 * PR) (h : Int)) := OTF_at f10 (i0 := 60 * PR) (fun y hy => by rw [A_eq (by omega) (by omega), if_neg hy]) (Or.inr (Or.inl ⟨by decide, by omega, by omega⟩))
      have hp10 : hp (wa w9 101 (60 * PR) (h : Int)) PR = hp w9 PR := rfl
      generalize wa w9 101 (60 * PR) (h : Int) = w10 at *
      have s10 := SPR.tr s9 f10 o10 (by decide) (by decide) (by decide) (by decide) (by decide) (by decide) (fun y _ => FR.A f10 (by decide))
      have fb10 : FR [] [] [89, 101, 142] [88, 141] b w10 := FR.tr fb9 (FR.mo f10 (by decide) (by decide) (by decide) (by decide))
      obtain ⟨y1, y2, y3, y4, y5, y6, y7, y8, y9, y10, y11⟩ := cx9
      exact sp234 (N := N) e hAN hw hT hH hG hq hm hx h98 hpr s10 (DW_fr d9 f10 (by decide) (by decide) (by decide) (by decide) (by decide) (by decide) (by decide) (by decide) (by decide) (by decide) (by decide) (by decide) (by decide) (by decide) (by decide) (by decide) (by decide)) (by rw [FR.A f10 (by decide)]; exact h89) ⟨rfl, by rw [hp10]; exact y2, y3, y4, by rw [FR.A f10 (by decide)]; exact y5, by rw [FR.A f10 (by decide)]; exact y6, by rw [FR.A f10 (by decide)]; exact y7, fun i hi => absurd hi (Nat.not_lt_zero i), fun i hi => absurd hi (Nat.not_lt_zero i), fun i hi => absurd hi (Nat.not_lt_zero i), fun z => by rw [FR.F f10 (by decide), FR.F c1 (by decide), dv.2.2.2.1] at z; omega⟩ (nr1 w10 s10 fb10 a101) (GT_mo hP gt9) so9 (by rw [hp10, cell1]; exact hv) h 0 w10 N (by omega) (by omega) FR.rf (fun _ _ => rfl) (fun i hi => absurd hi (Nat.not_lt_zero i))
  · rw [lit1q, show (20 : Int32) = I 20 from rfl, term_e, bnd_so, lit0q]
    refine ok_bnd.mpr (ok_mono (willEnd_ok (N := N) (p := PR) (o := PR) (wr := 0) dv (by omega) (by omega) (by omega) (Or.inl ⟨nh_mk (by omega), (PQ_b hAN (by omega)).1 20 (by omega) (by omega)⟩)) (fun w _ hw' => ?_))
    obtain ⟨w1, w2, w3, w4⟩ := hw'
    exact sp286 (N := N) e hAN hw hT hH hG hq hm hx h98 hpr (SPR.tr sv w2 (OTF_fr w2 (by decide)) (by decide) (by decide) (by decide) (by decide) (by decide) (by decide) w4) w1 (Or.inl w3)
end
end
section
section
variable {Fv : Int64 → Int64 → Prop} {P P2 : Int64 → Prop} {u v w w2 x y b : MS} {PR PR2 N p n n2 opM bnM bxM bx2 ND fr k tp mu CN PN SN UN FN rq q m h mm AN z j : Nat} {ow kd ow2 kd2 ro rn rh cb pc ct pM pE : Nat → Nat} {T : TY} {C : CY}
set_option maxRecDepth 100000 in
theorem spawnR (e : ERX Fv (PQ AN PR) PR T C ND CN p u fr ro rn rh cb pc ct q n ow kd (ro (fr - 1) + tH T q) (rn (fr - 1) + rh (fr - 1) + tM T q) bxM mu) (hAN : 22 ≤ AN) (hp' : PGM Fv (PQ AN PR) PR T C pM pE ND CN PN SN UN FN u) (hfv : FVW Fv u UN FN) (hw : WLD u T ND UN FN PR p) (hG : tG T q = 0) (hq : tB T q + 1 ≤ tH T q) (hm : m < ND) (hx : NX T q m (tH T q) (tM T q)) (h98 : A u 98 (60 * p + (fr - 1)) = ((m : Nat) : Int)) (hN : 60000 ≤ N) : OK (fun v _ => RSW Fv AN T C ND CN UN FN p mu u v) (fm_M_spawnRun N u) := by
  have i := e.1
  have x4 := MEI_p i
  have hH := (hp'.1.2.2.1 q e.2.2.1).1.1
  have hf := e.2.1.1
  have hT := PRG_26 hp'.1
  have pr := i.1.1.2
  have hg := i.2.2.2.2.2.2.1
  have n500 : n ≤ 500 := i.2.2.2.2.2.2.2.1
  have fn := hp'.1.1.2.2.2.2.1
  have un := hp'.1.1.2.2.2.1
  have cn := hp'.1.1.2.1
  have bad : OK (fun v _ => RSW Fv AN T C ND CN UN FN p mu u v) (fb_M_spawnRun_91 N (gg_M_spawnRun N N) u) := by
    unfold fb_M_spawnRun_91
    exact ok_bnd.mpr (ok_mono (err_ok (N := N) (a := 11) e hp' (by omega) hN) (fun y _ hy => ok_some.mpr (RES_rsw hy hw hT i.2.1)))
  obtain ⟨t0, g0⟩ := top_ok (N := N) (k := 0) i (by omega)
  generalize u.2.2.2 91 (46000 * p + (ro (fr - 1) + tH T q - 1 - 0)) = t at *
  have rt := so_r t
  unfold fm_M_spawnRun fb_M_spawnRun_0
  rw [show (0 : Int32) = I ((0 : Nat) : Int) from rfl, t0, bnd_so, sortOf_e, bnd_so, show (3 : Int32) = I 3 from rfl, decE rt.1 rt.2 (by omega) (by omega)]
  unfold fb_M_spawnRun_30
  refine ok_br.mpr ⟨fun z3 => ?_, fun z3 => ?_⟩
  · have so3 := of_decide_eq_true z3
    have ht : isH t := Or.inl so3
    obtain ⟨bk, parts⟩ := HP_bk hg ht g0
    have b2 : 2 ≤ blk (hp u p) t := blk_2 so3
    have bn := bk.2.2.2.1
    have vt : va t = (vn t : Int) := by have := bk.1; unfold vn; omega
    obtain ⟨bv, bF⟩ := bk.2.2.1 so3
    have vh : va (hp u p (vn t + 1)) = (vn (hp u p (vn t + 1)) : Int) := by unfold vn at *; omega
    rw [valueOf_e, bnd_so, I_F' i.2.2.1, vt, cell_e (by omega) (by omega), bnd_so, sortOf_e, bnd_so, show (3 : Int32) = I 3 from rfl, decE rt.1 rt.2 (by omega) (by omega), z3, br_tq]
    have base : ∀ (s1 b : MS), s1 = npS u PR → PR < 24 → FR [] [] [96, 170] [] s1 b → OTF PR s1 b → SPR PR u b ∧ DW Fv (PQ AN (PR + 1)) (PR + 1) b ∧ FR [118] [] [89, 90, 92, 94, 95, 96, 97, 98, 99, 100, 101, 106, 108, 109, 110, 112, 113, 114, 115, 117, 132, 170] [111] u b ∧ A b 89 PR = 0 ∧ A b 94 PR = 0 ∧ A b 92 PR = 0 ∧ A b 108 PR = 0 ∧ A b 109 PR = 5 ∧ A b 95 PR = 1 ∧ A b 106 PR = 0 ∧ A b 99 (60 * PR) = 0 ∧ A b 100 (60 * PR) = 0 ∧ A b 101 (60 * PR) = 0 := fun s1 b hs1 hpr fb ob => by
      subst hs1
      refine ⟨SPR.tr SPR_np fb ob (by decide) (by decide) (by decide) (by decide) (by decide) (by decide) (fun y _ => FR.A fb (by decide)), DW_fr (DW_grow i.1 (PQ_mo (by omega)) hpr) fb (by decide) (by decide) (by decide) (by decide) (by decide) (by decide) (by decide) (by decide) (by decide) (by decide) (by decide) (by decide) (by decide) (by decide) (by decide) (by decide) (by decide), FR.tr (FR.mo np_fr (by decide) (by decide) (by decide) (by decide)) (FR.mo fb (by decide) (by decide) (by decide) (by decide)), ?_, ?_, ?_, ?_, ?_, ?_, ?_, ?_, ?_, ?_⟩
      · rw [FR.A fb (by decide), np_row (by decide), if_pos rfl]
      · rw [FR.A fb (by decide), np_row (by decide), if_pos rfl]
      · rw [FR.A fb (by decide), np_row (by decide), if_pos rfl]
      · rw [FR.A fb (by decide), np_row (by decide), if_pos rfl]
      · rw [FR.A fb (by decide), np_109, if_pos rfl]
      · rw [FR.A fb (by decide), np_95, if_pos rfl]
      · rw [FR.A fb (by decide), np_row (by decide), if_pos rfl]
      · rw [FR.A fb (by decide), np_fr0 (by decide), if_pos rfl]
      · rw [FR.A fb (by decide), np_fr0 (by decide), if_pos rfl]
      · rw [FR.A fb (by decide), np_fr0 (by decide), if_pos rfl]
    have kprow : ∀ (w : MS), SPR PR u w → ∀ k, k ∈ KP → ∀ i, A w k i = A u k i := fun w s k hk i => FR.A s.1 (by revert hk; unfold KP; simp; omega)
    have y75a : ∀ (v3 : Int64) (ar : Int32) (x c : Nat), 0 ≤ v3.toInt → x < UN → v3.toInt32 = I x → A u 54 x = (vn (hp u p (vn t + 1)) : Int) → vn (hp u p (vn t + 1)) ≤ 40 → A u 53 x = c → (ar = 0 → A u 41 c = 0) → OK (fun v _ => RSW Fv AN T C ND CN UN FN p mu u v) (fb_M_spawnRun_75 N (gg_M_spawnRun N N) u t v3 ar) := fun v3 ar x c q0 q1 q2 q3 q4 q5 q6 => by
      unfold fb_M_spawnRun_75
      refine ok_br.mpr ⟨fun za => ?_, fun _ => bad⟩
      have za' := q6 (of_decide_eq_true za)
      rw [I_F' i.1.1.1, show (24 : Int32) = I 24 from rfl, decE (by omega) (by omega) (by omega) (by omega)]
      refine ok_br.mpr ⟨fun _ => bad, fun z24 => ?_⟩
      have hpr : PR < 24 := by have := of_decide_eq_false z24; omega
      rw [newProcess_e i.1.1.1 hpr, bnd_so]
      obtain ⟨s1, hs1⟩ : ∃ s1, s1 = npS u PR := ⟨_, rfl⟩
      have s96 : A s1 96 (60 * PR) = -1 := by rw [hs1, np_fr1 (by decide), if_pos rfl]
      rw [← hs1]
      refine ok_ck.mpr ⟨inb_at (k := 170) (n := 24) rfl (by omega) (by omega) (by decide), ok_lt.mpr ?_⟩
      rw [I_tn (x := (PR : Int)) (by omega) (by omega), Int.toNat_natCast, show (-1 : Int32) = I (-1) from rfl, wa_e]
      refine ok_br.mpr ⟨fun _ => ok_ck.mpr ⟨inb_at (k := 170) (n := 24) rfl (by omega) (by omega) (by decide), ok_lt.mpr ?_⟩, fun z => absurd (lg_ge0.mpr q0) (of_decide_eq_false z)⟩
      rw [q2, wa_e]
      have fb : FR [] [] [96, 170] [] s1 (wa (wa s1 170 PR (-1)) 170 PR (x : Int)) := FR.wa (FR.wa FR.rf (by decide)) (by decide)
      have ob : OTF PR s1 (wa (wa s1 170 PR (-1)) 170 PR (x : Int)) := OTF.tr (OTF_170 (by omega) (by omega)) (OTF_170 (by omega) (by omega))
      have b170 : A (wa (wa s1 170 PR (-1)) 170 PR (x : Int)) 170 PR = x := by rw [A_eq (by omega) (by omega), if_pos rfl]
      have b96 : A (wa (wa s1 170 PR (-1)) 170 PR (x : Int)) 96 (60 * PR) = -1 := by rw [A_ne (by decide), A_ne (by decide)]; exact s96
      generalize wa (wa s1 170 PR (-1)) 170 PR (x : Int) = b at *
      obtain ⟨r1, r2, r3, r4, r5, r6, r7, r8, r9, r10, r11, r12, r13⟩ := base s1 b hs1 hpr fb ob
      refine sp150 (N := N) e hAN hw hT hH hG hq hm hx h98 hpr r1 r2 r3 r4 r5 r6 r7 r8 g0 so3 rfl q4 (Or.inr ⟨q0, fun w sw fw h101 => ?_⟩) hN
      have kw := kprow w sw
      exact ⟨by rw [FR.A fw (by decide)]; exact r8, by rw [FR.A fw (by decide)]; exact r9, by rw [FR.A fw (by decide)]; exact r6, by rw [FR.A fw (by decide)]; exact r10, by rw [FR.A fw (by decide)]; exact r11, by rw [FR.A fw (by decide)]; exact r12, q4, h101, Or.inl ⟨by rw [FR.A fw (by decide)]; exact b96, x, q1, by rw [FR.A fw (by decide)]; exact b170, by rw [kw 54 (by decide)]; exact q3, c, by rw [kw 53 (by decide)]; exact q5, by rw [kw 41 (by decide)]; exact za'⟩⟩
    have y75b : ∀ (v3 : Int64) (ar : Int32) (f : Nat), v3.toInt < 0 → f < FN → (-1 - v3).toInt32 = I f → vn (hp u p (vn t + 1)) = 0 → (ar = 0 → A u 48 f = 0) → OK (fun v _ => RSW Fv AN T C ND CN UN FN p mu u v) (fb_M_spawnRun_75 N (gg_M_spawnRun N N) u t v3 ar) := fun v3 ar f q0 q1 q2 q3 q4 => by
      unfold fb_M_spawnRun_75
      refine ok_br.mpr ⟨fun za => ?_, fun _ => bad⟩
      have za' := q4 (of_decide_eq_true za)
      rw [I_F' i.1.1.1, show (24 : Int32) = I 24 from rfl, decE (by omega) (by omega) (by omega) (by omega)]
      refine ok_br.mpr ⟨fun _ => bad, fun z24 => ?_⟩
      have hpr : PR < 24 := by have := of_decide_eq_false z24; omega
      rw [newProcess_e i.1.1.1 hpr, bnd_so]
      obtain ⟨s1, hs1⟩ : ∃ s1, s1 = npS u PR := ⟨_, rfl⟩
      have s96 : A s1 96 (60 * PR) = -1 := by rw [hs1, np_fr1 (by decide), if_pos rfl]
      rw [← hs1]
      refine ok_ck.mpr ⟨inb_at (k := 170) (n := 24) rfl (by omega) (by omega) (by decide), ok_lt.mpr ?_⟩
      refine ok_br.mpr ⟨fun z => absurd (lg_ge0.mp (of_decide_eq_true z)) (by omega), fun _ => ?_⟩
      have e60 : I (PR : Int) * 60 = I ((PR : Int) * 60) := by rw [show (60 : Int32) = I 60 from rfl, I_mul]
      refine ok_ck.mpr ⟨by rw [e60]; exact inb_at (k := 96) (n := 1440) rfl (by omega) (by omega) (by decide), ok_lt.mpr ?_⟩
      rw [q2, I_tn (x := (PR : Int)) (by omega) (by omega), Int.toNat_natCast, show (I (PR : Int) * 60).toNatClampNeg = 60 * PR from by rw [e60, I_tn (by omega) (by omega)]; omega, show (-1 : Int32) = I (-1) from rfl, wa_e (k := 170), wa_e (k := 96)]
      have fb : FR [] [] [96, 170] [] s1 (wa (wa s1 170 PR (-1)) 96 (60 * PR) (f : Int)) := FR.wa (FR.wa FR.rf (by decide)) (by decide)
      have ob : OTF PR s1 (wa (wa s1 170 PR (-1)) 96 (60 * PR) (f : Int)) := OTF.tr (OTF_170 (by omega) (by omega)) (OTF_96 (by omega) (by omega) (by omega))
      have b96 : A (wa (wa s1 170 PR (-1)) 96 (60 * PR) (f : Int)) 96 (60 * PR) = f := by rw [A_eq (by omega) (by omega), if_pos rfl]
      generalize wa (wa s1 170 PR (-1)) 96 (60 * PR) (f : Int) = b at *
      obtain ⟨r1, r2, r3, r4, r5, r6, r7, r8, r9, r10, r11, r12, r13⟩ := base s1 b hs1 hpr fb ob
      have kw := kprow b r1
      exact sp150 (N := N) e hAN hw hT hH hG hq hm hx h98 hpr r1 r2 r3 r4 r5 r6 r7 r8 g0 so3 rfl (by omega) (Or.inl ⟨⟨r8, r9, r6, r10, r11, r12, by omega, r13, Or.inr ⟨rfl, f, q1, b96, by rw [kw 48 (by decide)]; exact za'⟩⟩, q0⟩) hN
    rcases hfv.2.2 _ _ bF with ⟨f, h1, h2, h3⟩ | ⟨x, h1, h2, h3⟩
    · rw [h2]
      have n1 : ¬ (0 : Int) ≤ -1 - (f : Int) := by omega
      have n2 : -1 - (f : Int) < 0 := by omega
      have n3 : vn (hp u p (vn t + 1)) = 0 := by omega
      have in48 : inb (I (f : Int)) (ln 48) = true := inb_at (k := 48) (n := 1000) rfl (by omega) (by omega) (by decide)
      have tf : (I (f : Int)).toNatClampNeg = f := by rw [I_tn (by omega) (by omega), Int.toNat_natCast]
      obtain ⟨w1, w2⟩ := w64_n (x := (f : Int)) (by omega) (by omega)
      refine ok_br.mpr ⟨fun z => absurd (lg_ge0.mp (of_decide_eq_true z)) (by rw [w1]; exact n1), fun _ => ?_⟩
      rw [w2]
      refine ok_ck.mpr ⟨in48, y75b _ _ f (by rw [w1]; exact n2) h1 w2 n3 (fun z => ?_)⟩
      rw [tf] at z
      unfold A; rw [z]; rfl
    · rw [h2]
      obtain ⟨a, hh, r, v1, v2, v3, v4, v5, c, d1, d2, d3, -⟩ := hp'.1.2.2.2.2.2 x h1
      have n1 : (0 : Int) ≤ (x : Int) := by omega
      have n2 : A u 54 x = (vn (hp u p (vn t + 1)) : Int) := by omega
      have n3 : vn (hp u p (vn t + 1)) ≤ 40 := by omega
      have in53 : inb (I (x : Int)) (ln 53) = true := inb_at (k := 53) (n := 1400) rfl (by omega) (by omega) (by decide)
      have in41 : inb (I (c : Int)) (ln 41) = true := inb_at (k := 41) (n := 1400) rfl (by omega) (by omega) (by decide)
      have tx : (I (x : Int)).toNatClampNeg = x := by rw [I_tn (by omega) (by omega), Int.toNat_natCast]
      have tc : (I (c : Int)).toNatClampNeg = c := by rw [I_tn (by omega) (by omega), Int.toNat_natCast]
      have w1 := w64_i (x := (x : Int)) (by omega) (by omega)
      refine ok_br.mpr ⟨fun _ => ?_, fun z => absurd (lg_ge0.mpr (by rw [w1]; exact n1)) (of_decide_eq_false z)⟩
      rw [Int32.toInt32_toInt64]
      refine ok_ck.mpr ⟨in53, ?_⟩
      rw [tx, I_A' d1]
      refine ok_ck.mpr ⟨in41, y75a _ _ x c (by rw [w1]; exact n1) h1 (by rw [Int32.toInt32_toInt64]) n2 n3 d1 (fun z => ?_)⟩
      rw [tc] at z
      unfold A; rw [z]; rfl
  · rw [sortOf_e, bnd_so, show (3 : Int32) = I 3 from rfl, decE rt.1 rt.2 (by omega) (by omega), z3, br_fq]
    unfold fb_M_spawnRun_75
    exact ok_br.mpr ⟨fun z => absurd (of_decide_eq_true z) (by decide), fun _ => bad⟩
end
end
section
section
variable {Fv : Int64 → Int64 → Prop} {P P2 : Int64 → Prop} {u v w w2 x y b : MS} {PR PR2 N p n n2 opM bnM bxM bx2 ND fr k tp mu CN PN SN UN FN rq q m h mm AN z j : Nat} {ow kd ow2 kd2 ro rn rh cb pc ct pM pE : Nat → Nat} {T : TY} {C : CY}
theorem unwR (e : ERX Fv (PQ AN PR) PR T C ND CN p u fr ro rn rh cb pc ct q n ow kd (ro (fr - 1) + tH T q) (rn (fr - 1) + rh (fr - 1) + tM T q) bxM mu) (hp' : PGM Fv (PQ AN PR) PR T C pM pE ND CN PN SN UN FN u) (hw : WLD u T ND UN FN PR p) (hq : tB T q + 1 ≤ tH T q) (hm : m < ND) (hx : NX T q m (tH T q) (tM T q)) (h98 : A u 98 (60 * p + (fr - 1)) = ((m : Nat) : Int)) (hN : 60000 ≤ N) : OK (fun v _ => RSW Fv AN T C ND CN UN FN p mu u v) (fm_M_unwatchRun N u) := by
  have i := e.1
  have x4 := MEI_p i
  have hH := (hp'.1.2.2.1 q e.2.2.1).1.1
  have hf := e.2.1.1
  have hro := (e.2.1.2.2.1 (fr - 1) (by omega)).2.2.2.2.1
  have hT := PRG_26 hp'.1
  have e' := e
  rw [show ro (fr - 1) + tH T q = ro (fr - 1) + (tH T q - 1) + 1 from by omega] at e'
  unfold fm_M_unwatchRun fb_M_unwatchRun_0
  refine ok_bnd.mpr (ok_mono (takeE (N := N) e' (by omega)) (fun v t hv => ?_))
  obtain ⟨v1, gt, v3, v4⟩ := hv
  rw [sortOf_e, bnd_so]
  refine ok_br.mpr ⟨fun _ => ?_, fun _ => ok_bnd.mpr (ok_mono (err_ok (N := N) (a := 11) v1 (PGM_fr hp' v3 (by decide) (by decide)) (by omega) hN) (fun y _ hy => ok_some.mpr (RES_via v3 v4 hy hw hT i.2.1 (by decide) (by decide) (by decide) (by decide) (by decide) (by decide))))⟩
  have wtv : WTQ v PR := WT_fr hw.2.1 v3 (by decide) (by decide) (by decide)
  have lp : ∀ (M j : Nat) (w : MS), FR [125] [] [122, 123, 124] [] v w → WTQ w PR → (j : Int) ≤ F w 125 → (F w 125).toNat - j < M → OK (fun y _ => RSW Fv AN T C ND CN UN FN p mu u y) (gg_M_unwatchRun N M w t (I j)) := by
    intro M
    induction M with
    | zero => intro j w _ _ _ h; omega
    | succ M ih =>
      intro j w fw wt hj hM
      obtain ⟨c, hc⟩ : ∃ c : Nat, F w 125 = c := ⟨(F w 125).toNat, by have := wt.1; omega⟩
      have c200 := wt.2.1
      show OK _ (fb_M_unwatchRun_22 N (gg_M_unwatchRun N M) w t (I j))
      unfold fb_M_unwatchRun_22 fb_M_unwatchRun_64
      rw [I_F' hc, decI (by omega) (by omega) (by omega) (by omega)]
      refine ok_br.mpr ⟨fun _ => ?_, fun zz => ?_⟩
      · rw [truth1, bnd_so]
        have fu : FR [125] [] [92, 122, 123, 124] [] u w := FR.tr (FR.mo v3 (by decide) (by decide) (by decide) (by decide)) (FR.mo fw (by decide) (by decide) (by decide) (by decide))
        have ou : OTF p u w := OTF.tr v4 (OTF_fr fw (by decide))
        have iw := MEI_fr v1.1 fw (by decide) (by decide) (by decide) (by decide) (by decide) (by decide) (by decide) (by decide) (by decide) (by decide) (by decide) (by decide) (by decide) (by decide) (by decide) (by decide) (by decide) (by decide)
        have ew := ERX_fr v1 fw (by decide) (by decide) (by decide) iw (by omega) (Nat.le_refl _)
        have ww : WLD w T ND UN FN PR p := WLD_otf hw hT ou (fun k hk i => FR.A fu (by revert hk; unfold KP; simp; omega)) (fun z _ => Or.inl (FR.A fu (by decide))) (LK_fr hw.1 fu (by decide) (by decide)) wt (by rw [FR.F fu (by decide)]; exact hw.2.2.1) (fun i => by rw [FR.A fu (by decide)]; exact hw.2.2.2.1 i) (fun i => by rw [FR.A fu (by decide)]; exact hw.2.2.2.2.2.1 i)
        exact ok_bnd.mpr (ok_mono (putR (N := N) ew hm hx (by rw [FR.A fu (by decide)]; exact h98) (by omega) rfl (GT_atom hp'.2.1 (by omega)) (by omega)) (fun y _ hy => ok_some.mpr (RSW.pre (FR.mo fu (by decide) (by decide) (by decide) (by decide)) (RES_rsw hy ww hT i.2.1))))
      · have zz' := of_decide_eq_false zz
        have nxt : OK (fun y _ => RSW Fv AN T C ND CN UN FN p mu u y) (gg_M_unwatchRun N M w t (I j + 1)) := by
          rw [lit1q, I_add, show (j : Int) + 1 = ((j + 1 : Nat) : Int) from by omega]
          exact ih (j + 1) w fw wt (by omega) (by omega)
        refine ok_ck.mpr ⟨inb_at (k := 122) (n := 4000) rfl (by omega) (by omega) (by decide), ?_⟩
        rw [valueOf_e, bnd_so]
        refine ok_br.mpr ⟨fun _ => ok_ck.mpr ⟨inb_at (k := 123) (n := 4000) rfl (by omega) (by omega) (by decide), ok_br.mpr ⟨fun _ => ?_, fun _ => nxt⟩⟩, fun _ => nxt⟩
        refine ok_bnd.mpr (ok_mono (removeWatch_ok (N := N) (k := j) wt (by omega) (by omega)) (fun w5 _ h5 => ?_))
        obtain ⟨q1, q2, q3⟩ := h5
        exact ih j w5 (FR.tr fw q1) q3 (by omega) (by omega)
  rw [show (0 : Int32) = I ((0 : Nat) : Int) from rfl]
  have w1 := wtv.1
  have w2 := wtv.2.1
  exact lp N 0 v FR.rf wtv (by omega) (by omega)
theorem npre_v : npre 0 = 0 ∧ npre 1 = 1 ∧ npre 5 = 1 ∧ npre 6 = 1 ∧ npre 7 = 1 ∧ npre 9 = 1 ∧ npre 10 = 1 ∧ npre 11 = 1 ∧ npre 12 = 0 ∧ npre 17 = 0 := by decide
theorem truth_any {a : Int32} : ∃ c : Int, 0 ≤ c ∧ c < 22 ∧ fm_M_truth N u a = some (u, mk 1 c) := by
  by_cases h : a = 0
  · subst h; exact ⟨1, by omega, by omega, rfl⟩
  · refine ⟨0, by omega, by omega, ?_⟩
    unfold fm_M_truth fb_M_truth_0
    rw [decide_eq_false h, br_fq]; rfl
theorem isK112 : isK 112 6 = true := by decide
set_option maxRecDepth 100000 in
theorem preR {k : Nat} (e : ERX Fv (PQ AN PR) PR T C ND CN p u fr ro rn rh cb pc ct q n ow kd (ro (fr - 1) + tH T q) (rn (fr - 1) + rh (fr - 1) + tM T q) bxM mu) (hAN : 22 ≤ AN) (hp' : PGM Fv (PQ AN PR) PR T C pM pE ND CN PN SN UN FN u) (hfv : FVW Fv u UN FN) (hw : WLD u T ND UN FN PR p) (hE : F u 149 = F u 150) (hk : k < 30) (hG : k < 18 → tG T q = 0) (hq : tB T q + npre k ≤ tH T q) (hm : m < ND) (hx : NX T q m (tH T q + 1 - npre k) (tM T q)) (h98 : A u 98 (60 * p + (fr - 1)) = ((m : Nat) : Int)) (hN : 11000000 ≤ N) : OK (fun v _ => RSW Fv AN T C ND CN UN FN p mu u v) (fm_M_predefinedRun N u (I k)) := by
  have i := e.1
  have x4 := MEI_p i
  have hH := (hp'.1.2.2.1 q e.2.2.1).1.1
  have hf := e.2.1.1
  have hro := (e.2.1.2.2.1 (fr - 1) (by omega)).2.2.2.2.1
  have hBq := e.2.2.2.2.2.2.1
  have hT := PRG_26 hp'.1
  obtain ⟨v0, v1, v5, v6, v7, v9, v10, v11, v12, v17⟩ := npre_v
  have up : ∀ (kk : Nat) (kn : Int), npre kk = 1 → kk = k → 0 ≤ kn ∧ kn ≤ 2 → OK (fun v _ => RSW Fv AN T C ND CN UN FN p mu u v) (bnd (fm_M_take N u) (fun u16 r16 => fb_M_predefinedRun_149 N () u16 r16 (I kn))) := fun kk kn n1 ek hkn => by
    subst ek
    have e' := e
    rw [show ro (fr - 1) + tH T q = ro (fr - 1) + (tH T q - 1) + 1 from by omega] at e'
    refine ok_bnd.mpr (ok_mono (takeE (N := N) e' (by omega)) (fun v t hv => ?_))
    obtain ⟨v1, gt, v3, v4⟩ := hv
    unfold fb_M_predefinedRun_149 fb_M_predefinedRun_292
    exact ok_bnd.mpr (ok_mono (ups_ok (N := N) v1 (PGM_fr hp' v3 (by decide) (by decide)) gt hkn (by omega)) (fun y _ hy => ok_some.mpr (RES_via v3 v4 hy hw hT i.2.1 (by decide) (by decide) (by decide) (by decide) (by decide) (by decide))))
  have put0 : ∀ t, npre k = 0 → GT n ow kd (PQ AN PR) t → OK (fun v _ => RES Fv (PQ AN PR) PR T C ND CN p mu u v) (fm_M_put N u t) := fun t n0 gt => by
    rw [n0] at hx
    exact putR (N := N) e hm hx h98 (by omega) rfl gt (by omega)
  unfold fm_M_predefinedRun fb_M_predefinedRun_0
  have dk : ∀ c : Int, 0 ≤ c → c < 100 → decide (I (k : Int) = I c) = decide ((k : Int) = c) := fun c h1 h2 => decE (by omega) (by omega) (by omega) (by omega)
  rw [show (18 : Int32) = I 18 from rfl, decL (by omega) (by omega) (by omega) (by omega)]
  refine ok_br.mpr ⟨fun z18 => ?_, fun z18 => ok_bnd.mpr (ok_mono (testR (N := N) e hp' ⟨by have := of_decide_eq_false z18; omega, hk⟩ hq hm hx h98 (by omega)) (fun y _ hy => ok_some.mpr (RES_rsw hy hw hT i.2.1)))⟩
  have k18 : k < 18 := by have := of_decide_eq_true z18; omega
  have g0 := hG k18
  unfold fb_M_predefinedRun_292
  have pr : (k = 2 ∨ k = 3 ∨ k = 4 ∨ k = 8 ∨ k = 16) → OK (fun v _ => RSW Fv AN T C ND CN UN FN p mu u v) (bnd (fm_M_processRun N u (I k)) (fun u6 _ => some (u6, ()))) := fun h => ok_bnd.mpr (ok_mono (procR (N := N) e hp' hw hE g0 h hq hm hx h98 (by omega)) (fun y _ hy => ok_some.mpr hy))
  have nm : (k = 13 ∨ k = 14 ∨ k = 15) → OK (fun v _ => RSW Fv AN T C ND CN UN FN p mu u v) (bnd (fm_M_nameRun N u (I k)) (fun u6 _ => some (u6, ()))) := fun h => ok_bnd.mpr (ok_mono (nameR (N := N) e hp' hw h hq hm hx h98 (by omega)) (fun y _ hy => ok_some.mpr hy))
  rw [show (0 : Int32) = I 0 from rfl, show (1 : Int32) = I 1 from rfl, show (2 : Int32) = I 2 from rfl, show (3 : Int32) = I 3 from rfl, show (4 : Int32) = I 4 from rfl, show (5 : Int32) = I 5 from rfl, show (6 : Int32) = I 6 from rfl, show (7 : Int32) = I 7 from rfl, show (8 : Int32) = I 8 from rfl, show (9 : Int32) = I 9 from rfl, show (10 : Int32) = I 10 from rfl, show (11 : Int32) = I 11 from rfl, show (12 : Int32) = I 12 from rfl, show (13 : Int32) = I 13 from rfl, show (14 : Int32) = I 14 from rfl, show (15 : Int32) = I 15 from rfl, show (16 : Int32) = I 16 from rfl, show (17 : Int32) = I 17 from rfl]
  rw [dk 0 (by omega) (by omega), dk 1 (by omega) (by omega), dk 2 (by omega) (by omega), dk 3 (by omega) (by omega), dk 4 (by omega) (by omega), dk 5 (by omega) (by omega), dk 6 (by omega) (by omega), dk 7 (by omega) (by omega), dk 8 (by omega) (by omega), dk 9 (by omega) (by omega), dk 10 (by omega) (by omega), dk 11 (by omega) (by omega), dk 12 (by omega) (by omega), dk 13 (by omega) (by omega), dk 14 (by omega) (by omega), dk 15 (by omega) (by omega), dk 16 (by omega) (by omega), dk 17 (by omega) (by omega)]
  refine ok_br.mpr ⟨fun z => ?_, fun z0 => ok_br.mpr ⟨fun z => ?_, fun z1 => ok_br.mpr ⟨fun z => ?_, fun z2 => ok_br.mpr ⟨fun z => ?_, fun z3 => ok_br.mpr ⟨fun z => ?_, fun z4 => ok_br.mpr ⟨fun z => ?_, fun z5 => ok_br.mpr ⟨fun z => ?_, fun z6 => ok_br.mpr ⟨fun z => ?_, fun z7 => ok_br.mpr ⟨fun z => ?_, fun z8 => ok_br.mpr ⟨fun z => ?_, fun z9 => ok_br.mpr ⟨fun z => ?_, fun z10 => ok_br.mpr ⟨fun z => ?_, fun z11 => ok_br.mpr ⟨fun z => ?_, fun z12 => ok_br.mpr ⟨fun z => ?_, fun z13 => ok_br.mpr ⟨fun z => ?_, fun z14 => ok_br.mpr ⟨fun z => ?_, fun z15 => ok_br.mpr ⟨fun z => ?_, fun z16 => ok_br.mpr ⟨fun z => ?_, fun z17 => ?_⟩⟩⟩⟩⟩⟩⟩⟩⟩⟩⟩⟩⟩⟩⟩⟩⟩⟩
  · 
    have ek : k = 0 := by have := of_decide_eq_true z; omega
    rw [I_F' i.2.2.1, term_e, bnd_so]
    exact ok_bnd.mpr (ok_mono (put0 _ (by rw [ek]; exact v0) (Or.inl ⟨nh_mk (by omega), hp'.2.1.2.1 p i.2.1⟩)) (fun y _ hy => ok_some.mpr (RES_rsw hy hw hT i.2.1)))
  · have ek : k = 1 := by have := of_decide_eq_true z; omega
    subst ek
    rw [v1] at hx hq
    exact ok_bnd.mpr (ok_mono (spawnR (N := N) e hAN hp' hfv hw g0 hq hm hx h98 (by omega)) (fun y _ hy => ok_some.mpr hy))
  · exact pr (by have := of_decide_eq_true z; omega)
  · exact pr (by have := of_decide_eq_true z; omega)
  · exact pr (by have := of_decide_eq_true z; omega)
  · have ek : k = 5 := by have := of_decide_eq_true z; omega
    subst ek
    rw [v5] at hx hq
    refine ok_bnd.mpr ?_
    unfold fm_M_processRun fb_M_processRun_0
    rw [br_t_of (decide_eq_true (show I ((5 : Nat) : Int) = 5 from rfl))]
    exact ok_bnd.mpr (ok_mono (unwR (N := N) e hp' hw hq hm hx h98 (by omega)) (fun y _ hy => ok_some.mpr (ok_some.mpr hy)))
  · 
    have ek : k = 6 := by have := of_decide_eq_true z; omega
    have n1 : npre k = 1 := by rw [ek]; exact v6
    have e' := e
    rw [show ro (fr - 1) + tH T q = ro (fr - 1) + (tH T q - 1) + 1 from by omega] at e'
    rw [n1] at hx
    refine ok_bnd.mpr (ok_mono (takeE (N := N) e' (by omega)) (fun v t hv => ?_))
    obtain ⟨a1, gt, a3, a4⟩ := hv
    refine ok_bnd.mpr (ok_mono isTruth_ok (fun x r2 hx' => ?_))
    obtain ⟨x1, -⟩ := hx'
    subst x1
    refine ok_br.mpr ⟨fun _ => ok_bnd.mpr (ok_mono (err_ok (N := N) (a := 11) a1 (PGM_fr hp' a3 (by decide) (by decide)) (by omega) (by omega)) (fun y _ hy => ok_some.mpr (RES_via a3 a4 hy hw hT i.2.1 (by decide) (by decide) (by decide) (by decide) (by decide) (by decide)))), fun _ => ?_⟩
    rw [I_F' a1.1.2.2.1]
    refine ok_ck.mpr ⟨inb_at (k := 112) (n := 24) rfl (by omega) (by omega) (by decide), ?_⟩
    obtain ⟨c, c1, c2, c3⟩ := truth_any (N := N) (u := x) (a := x.2.2.1 112 (I (p : Int)).toNatClampNeg)
    rw [c3, bnd_so]
    refine ok_bnd.mpr (ok_mono (put_ok (N := N) a1.1 (GT_atom hp'.2.1 ⟨c1, c2⟩) (by omega)) (fun y _ hy => ?_))
    obtain ⟨y1, y2⟩ := hy
    have fy : FR [] [] [92] [91] x y := by rw [y1]; exact FR.wa (FR.wj FR.rf (by decide)) (by decide)
    have oy : OTF p x y := OTF_at (k0 := 92) fy (i0 := p) (fun j hj => by rw [y1, A_eq (by omega) (by omega), if_neg hj]; rfl) (Or.inl ⟨by decide, rfl⟩)
    have fin : ∀ a : Int, OK (fun v _ => RSW Fv AN T C ND CN UN FN p mu u v) (some (wa y 112 p a, ())) := fun a => by
      have f2 : FR [] [] [92, 112] [91] u (wa y 112 p a) := FR.wa (FR.tr (FR.mo a3 (by decide) (by decide) (by decide) (by decide)) (FR.mo fy (by decide) (by decide) (by decide) (by decide))) (by decide)
      have f3 : FR [] [] [112] [] y (wa y 112 p a) := FR.wa FR.rf (by decide)
      have i3 := MEI_fr y2 f3 (by decide) (by decide) (by decide) (by decide) (by decide) (by decide) (by decide) (by decide) (by decide) (by decide) (by decide) (by decide) (by decide) (by decide) (by decide) (by decide) (by decide) (by decide)
      have o3 : OTF p u (wa y 112 p a) := OTF.tr a4 (OTF.tr oy (OTF_fr f3 (by decide)))
      exact ok_some.mpr (finX e g0 hm hx f2 (by decide) (by decide) (by decide) h98 (Or.inl (by rw [FR.A f2 (by decide)]; exact e.2.2.2.2.2.1)) (by rw [show ro (fr - 1) + (tH T q + 1 - 1) = ro (fr - 1) + (tH T q - 1) + 1 from by omega]; exact MEI_x i3) (WLD_fr hw hT o3 f2 (by decide) (by decide) (fun z _ => Or.inl (FR.A f2 (by decide)))) (FR.mo f2 (by decide) (by decide) (by decide) (by decide)))
    rw [show fm_M_truth N y (I 1) = some (y, mk 1 0) from truth1, bnd_so]
    unfold fb_M_predefinedRun_251 fb_M_predefinedRun_292
    rw [isK112, ck_t, I_F' y2.2.2.1, inb_at (k := 112) (n := 24) rfl (by omega) (by omega) (by decide), ck_t, ck_t, lt_e, lt_e, I_tn (x := (p : Int)) (by omega) (by omega), Int.toNat_natCast, show vp_nar .boolean (I 1) = I 1 from rfl, show vp_nar .boolean (I 0) = I 0 from rfl, wa_e, wa_e]
    exact ok_br.mpr ⟨fun _ => fin 1, fun _ => fin 0⟩
  · have := up 7 1 v7 (by have := of_decide_eq_true z; omega) (by omega)
    simp only [z, br_tq]
    exact this
  · exact pr (by have := of_decide_eq_true z; omega)
  · have := up 9 2 v9 (by have := of_decide_eq_true z; omega) (by omega)
    simp only [z7, z, br_tq, br_fq]
    exact this
  · have := up 10 0 v10 (by have := of_decide_eq_true z; omega) (by omega)
    simp only [z7, z9, br_fq]
    exact this
  · 
    have ek : k = 11 := by have := of_decide_eq_true z; omega
    have n1 : npre k = 1 := by rw [ek]; exact v11
    have e' := e
    rw [show ro (fr - 1) + tH T q = ro (fr - 1) + (tH T q - 1) + 1 from by omega] at e'
    rw [n1] at hx
    refine ok_bnd.mpr (ok_mono (takeE (N := N) e' (by omega)) (fun v t hv => ?_))
    obtain ⟨a1, gt, a3, a4⟩ := hv
    have hpg := PGM_fr hp' a3 (by decide) (by decide)
    refine ok_bnd.mpr (ok_mono (printRun_ok (N := N) a1.1 hpg.2.2.2.1 hpg.2.2.2.2 PQ_s gt (by rw [FR.F a3 (by decide)]; exact hw.2.2.1) hN) (fun x _ hx' => ?_))
    obtain ⟨b1, b2, b3, b4⟩ := hx'
    have ix := MEI_fr a1.1 b1 (by decide) (by decide) (by decide) (by decide) (by decide) (by decide) (by decide) (by decide) (by decide) (by decide) (by decide) (by decide) (by decide) (by decide) (by decide) (by decide) (by decide) (by decide)
    have ex := ERX_fr a1 b1 (by decide) (by decide) (by decide) ix (by omega) (Nat.le_refl _)
    have fx : FR [128, 144] [] [92, 126, 127, 143] [141] u x := FR.tr (FR.mo a3 (by decide) (by decide) (by decide) (by decide)) (FR.mo b1 (by decide) (by decide) (by decide) (by decide))
    have ox : OTF p u x := OTF.tr a4 (OTF_fr b1 (by decide))
    have wx : WLD x T ND UN FN PR p := WLD_otf hw hT ox (fun k hk i => FR.A fx (by revert hk; unfold KP; simp; omega)) (fun z _ => Or.inl (FR.A fx (by decide))) (LK_fr hw.1 fx (by decide) (by decide)) (WT_fr hw.2.1 fx (by decide) (by decide) (by decide)) ⟨b2, b3⟩ (fun j => by
      rcases b4 j with z | z
      · rw [z, FR.A a3 (by decide)]; exact hw.2.2.2.1 j
      · exact z) (fun j => by rw [FR.A fx (by decide)]; exact hw.2.2.2.2.2.1 j)
    rw [term_e, bnd_so]
    exact ok_bnd.mpr (ok_mono (putR (N := N) ex hm hx (by rw [FR.A fx (by decide)]; exact h98) (by omega) rfl (GT_atom hp'.2.1 (by omega)) (by omega)) (fun y _ hy => ok_some.mpr (RSW.pre (FR.mo fx (by decide) (by decide) (by decide) (by decide)) (RES_rsw hy wx hT i.2.1))))
  · 
    have ek : k = 12 := by have := of_decide_eq_true z; omega
    have n0 : npre k = 0 := by rw [ek]; exact v12
    rw [n0] at hx
    have r1 := F_r u 121
    rw [I_F (k := 121), term_e, bnd_so]
    refine ok_bnd.mpr (ok_mono (put_ok (N := N) i (Or.inl ⟨nh_mk (by omega), hp'.2.1.2.2.1 _ r1.1 r1.2⟩) (by omega)) (fun y _ hy => ok_lt.mpr (ok_some.mpr ?_)))
    obtain ⟨y1, y2⟩ := hy
    have fy : FR [] [] [92] [91] u y := by rw [y1]; exact FR.wa (FR.wj FR.rf (by decide)) (by decide)
    have oy : OTF p u y := OTF_at (k0 := 92) fy (i0 := p) (fun j hj => by rw [y1, A_eq (by omega) (by omega), if_neg hj]; rfl) (Or.inl ⟨by decide, rfl⟩)
    rw [I_F (k := 121), I_add, wi_e]
    have f3 : FR [121] [] [] [] y (wi y 121 (F y 121 + 1)) := FR.wi FR.rf (by decide)
    have f2 : FR [121] [] [92] [91] u (wi y 121 (F y 121 + 1)) := FR.tr (FR.mo fy (by decide) (by decide) (by decide) (by decide)) (FR.mo f3 (by decide) (by decide) (by decide) (by decide))
    have i3 := MEI_ints y2 f3 (by decide)
    have o3 : OTF p u (wi y 121 (F y 121 + 1)) := OTF.tr oy (OTF_fr f3 (by decide))
    exact finX e g0 hm hx f2 (by decide) (by decide) (by decide) h98 (Or.inl (by rw [FR.A f2 (by decide)]; exact e.2.2.2.2.2.1)) (by rw [show ro (fr - 1) + (tH T q + 1 - 0) = ro (fr - 1) + tH T q + 1 from by omega]; exact MEI_x i3) (WLD_fr hw hT o3 f2 (by decide) (by decide) (fun z _ => Or.inl (FR.A f2 (by decide)))) (FR.mo f2 (by decide) (by decide) (by decide) (by decide))
  · exact nm (by have := of_decide_eq_true z; omega)
  · exact nm (by have := of_decide_eq_true z; omega)
  · exact nm (by have := of_decide_eq_true z; omega)
  · exact pr (by have := of_decide_eq_true z; omega)
  · 
    have ek : k = 17 := by have := of_decide_eq_true z; omega
    rw [show fm_M_term N u (I 0) (u.1 120) = some (u, mk 0 (u.1 120).toInt) from term0_e, bnd_so]
    exact ok_bnd.mpr (ok_mono (put0 _ (by rw [ek]; exact v17) (GT_int hp'.2.1)) (fun y _ hy => ok_some.mpr (RES_rsw hy hw hT i.2.1)))
  · have := of_decide_eq_false z0
    have := of_decide_eq_false z1
    have := of_decide_eq_false z2
    have := of_decide_eq_false z3
    have := of_decide_eq_false z4
    have := of_decide_eq_false z5
    have := of_decide_eq_false z6
    have := of_decide_eq_false z7
    have := of_decide_eq_false z8
    have := of_decide_eq_false z9
    have := of_decide_eq_false z10
    have := of_decide_eq_false z11
    have := of_decide_eq_false z12
    have := of_decide_eq_false z13
    have := of_decide_eq_false z14
    have := of_decide_eq_false z15
    have := of_decide_eq_false z16
    have := of_decide_eq_false z17
    omega
end
end
section
section
variable {Fv : Int64 → Int64 → Prop} {P P2 : Int64 → Prop} {u v w w2 x y : MS} {PR PR2 N p n n2 opM bnM bxM bx2 ND fr k tp mu CN PN SN UN FN rq q m h mm AN z j : Nat} {ow kd ow2 kd2 ro rn rh cb pc ct pM pE : Nat → Nat} {T : TY} {C : CY}
theorem op_write {i : Nat} {t : Int64} (m : MEI Fv P PR w p n ow kd opM bnM bxM) (hi : i < opM) (g : GT n ow kd P t) : MEI Fv P PR (wj w 91 (46000 * p + i) t) p n ow kd opM bnM bxM := by
  have m' := m
  obtain ⟨m1, m2, m3, m4, m5, ⟨x1, x2, x3, x4, x5, x6, x7, x8, x9, x10, x11⟩⟩ := m
  have fz : FR [] [] [] [91] w (wj w 91 (46000 * p + i) t) := FR.wj FR.rf (by decide)
  have j91 : ∀ j, (wj w 91 (46000 * p + i) t).2.2.2 91 j = if j = 46000 * p + i then t else w.2.2.2 91 j := fun j => by rw [J_wj, if_pos rfl]
  have hpz : hp (wj w 91 (46000 * p + i) t) p = hp w p := by unfold hp; rw [fz.2.2.2 88 (by decide)]
  exact MEI_upd m' (FR.mo fz (by decide) (by decide) (by decide) (by decide)) m1.2.2.2.1 (fun q _ => FR.A fz (by decide)) (fun q _ => FR.A fz (by decide)) (fun q _ => FR.A fz (by decide)) (fun q _ => FR.A fz (by decide)) (fun j _ => by rw [fz.2.2.2 88 (by decide)]) (fun j hj => by rw [j91, if_neg (by omega)]) (fun j _ => by rw [fz.2.2.2 93 (by decide)]) (fun j _ => by rw [fz.2.2.2 107 (by decide)]) (by rw [FR.A fz (by decide)]; exact m5) ⟨rfl, by rw [hpz]; exact x2, x3, x4, by rw [FR.A fz (by decide)]; exact x5, by rw [FR.A fz (by decide)]; exact x6, by rw [FR.A fz (by decide)]; exact x7, fun j hj => by
    rw [j91]
    by_cases e : j = i
    · subst e; rw [if_pos rfl]; exact g
    · rw [if_neg (by omega)]; exact x8 j hj, fun j hj => by rw [fz.2.2.2 93 (by decide)]; exact x9 j hj, fun j hj => by rw [fz.2.2.2 107 (by decide)]; exact x10 j hj, fun e => by have : F w 140 = p := e; have := m1.2.2.2.1; omega⟩
theorem nm_write {h : Nat} (m : MEI Fv P PR w p n ow kd opM bnM bxM) (f : FR [] [] [94] [93] w w2) (h94 : A w2 94 p = ((bnM + h : Nat) : Int)) (h94' : ∀ y, y ≠ p → A w2 94 y = A w 94 y) (hl : bnM + h ≤ 2500) (out : ∀ i, ¬ (2500 * p + bnM ≤ i ∧ i < 2500 * p + 2500) → w2.2.2.2 93 i = w.2.2.2 93 i) (gs : ∀ i, i < h → GT n ow kd P (w2.2.2.2 93 (2500 * p + (bnM + i)))) : MEI Fv P PR w2 p n ow kd opM (bnM + h) bxM := by
  have m' := m
  obtain ⟨m1, m2, m3, m4, m5, ⟨x1, x2, x3, x4, x5, x6, x7, x8, x9, x10, x11⟩⟩ := m
  have hpz : hp w2 p = hp w p := by unfold hp; rw [f.2.2.2 88 (by decide)]
  have z140 : F w2 140 = -1 := by rw [FR.F f (by decide)]; exact m1.2.2.2.1
  exact MEI_upd m' (FR.mo f (by decide) (by decide) (by decide) (by decide)) z140 (fun q _ => FR.A f (by decide)) (fun q _ => FR.A f (by decide)) h94' (fun q _ => FR.A f (by decide)) (fun j _ => by rw [f.2.2.2 88 (by decide)]) (fun j _ => by rw [f.2.2.2 91 (by decide)]) (fun j hj => out j (by omega)) (fun j _ => by rw [f.2.2.2 107 (by decide)]) (by rw [FR.A f (by decide)]; exact m5) ⟨rfl, by rw [hpz]; exact x2, x3, x4, by rw [FR.A f (by decide)]; exact x5, ⟨h94, hl⟩, by rw [FR.A f (by decide)]; exact x7, fun j hj => by rw [f.2.2.2 91 (by decide)]; exact x8 j hj, fun j hj => by
    by_cases e : j < bnM
    · rw [out _ (by omega)]; exact x9 j e
    · have := gs (j - bnM) (by omega)
      rw [show bnM + (j - bnM) = j from by omega] at this; exact this, fun j hj => by rw [f.2.2.2 107 (by decide)]; exact x10 j hj, fun e => by omega⟩
def FOQ (Fv : Int64 → Int64 → Prop) (P : Int64 → Prop) (PR p n : Nat) (ow kd : Nat → Nat) (bxM fr2 bo b bn h : Nat) (u w : MS) : Prop := MEI Fv P PR w p n ow kd (bo + b) (bn + h) bxM ∧ FR [] [] [92, 94, 95, 96, 97, 99, 100, 101] [91, 93] u w ∧ OTF p u w ∧ A w 95 p = ((fr2 : Nat) : Int) ∧ (∀ i, A w 99 i = if i = 60 * p + (fr2 - 1) then ((bn : Nat) : Int) else A u 99 i) ∧ (∀ i, A w 100 i = if i = 60 * p + (fr2 - 1) then ((bo : Nat) : Int) else A u 100 i) ∧ ∀ i, A w 101 i = if i = 60 * p + (fr2 - 1) then ((h : Nat) : Int) else A u 101 i
theorem fo2 {v7 : Int64} {fr2 bo b bn h i6 : Nat} (h40 : h ≤ 40) (hbn : bn + h ≤ 2500) (hx4 : p < 24) (e6 : i6 = 60 * p + (fr2 - 1)) (hfr : 1 ≤ fr2 ∧ fr2 ≤ 60) (i : MEI Fv P PR x p n ow kd (bo + b) bn bxM) (f : FR [] [] [92, 94, 95, 96, 97, 99, 100, 101] [91, 93] u x) (o : OTF p u x) (h95 : A x 95 p = ((fr2 : Nat) : Int)) (h99 : ∀ i, A x 99 i = if i = i6 then ((bn : Nat) : Int) else A u 99 i) (h100 : ∀ i, A x 100 i = if i = i6 then ((bo : Nat) : Int) else A u 100 i) (h101 : ∀ i, A x 101 i = if i = i6 then ((h : Nat) : Int) else A u 101 i) (g7 : GT n ow kd P v7) (so7 : so v7 = 3) (hh : vn (hp x p (vn v7 + 1)) = h) : ∀ k j w M, j + k = h → k < M → FR [] [] [] [93] x w → (∀ i, ¬ (2500 * p + bn ≤ i ∧ i < 2500 * p + 2500) → w.2.2.2 93 i = x.2.2.2 93 i) → (∀ i, i < j → w.2.2.2 93 (2500 * p + (bn + i)) = hp x p (vn v7 + (2 + i))) → OK (fun y _ => FOQ Fv P PR p n ow kd bxM fr2 bo b bn h u y) ((gg_M_frameOf N M).2 w v7 (I bn) (I i6) (I j)) := by
  have ht : isH v7 := Or.inl so7
  have x3 : n ≤ 500 := i.2.2.2.2.2.2.2.1
  obtain ⟨bk, parts⟩ := HP_bk i.2.2.2.2.2.2.1 ht g7
  have bb : blk (hp x p) v7 = 2 + h := by unfold blk; rw [so7, hh]; rfl
  have pp : prt v7 = 2 := by unfold prt; rw [so7]; rfl
  have bl := bk.2.2.2.1
  have vt : va v7 = (vn v7 : Int) := by have := bk.1; unfold vn; omega
  intro k
  induction k with
  | zero =>
    intro j w M hj hM fw out cells
    obtain rfl : j = h := by omega
    obtain ⟨M, rfl⟩ : ∃ M', M = M' + 1 := ⟨M - 1, by omega⟩
    show OK _ (fb_M_frameOf_285 N (gg_M_frameOf N M) w v7 (I bn) (I i6) (I j))
    unfold fb_M_frameOf_285 fb_M_frameOf_359
    have w101 : A w 101 i6 = ((j : Nat) : Int) := by rw [FR.A fw (by decide), h101, if_pos rfl]
    have w133 : F w 133 = p := by rw [FR.F fw (by decide)]; exact i.2.2.1
    rw [inb_at (k := 101) (n := 1440) rfl (by omega) (by omega) (by decide), ck_t, I_tn (x := (i6 : Int)) (by omega) (by omega), Int.toNat_natCast, I_A' w101, decI (by omega) (by omega) (by omega) (by omega), decide_eq_true (by omega), br_tq, ck_t, I_F' w133]
    refine ok_ck.mpr ⟨inb_at (k := 94) (n := 24) rfl (by omega) (by omega) (by decide), ok_lt.mpr (ok_some.mpr ?_)⟩
    rw [I_tn (x := (p : Int)) (by omega) (by omega), Int.toNat_natCast, I_add, show (bn : Int) + (j : Int) = ((bn + j : Nat) : Int) from by omega, wa_e]
    have f2 : FR [] [] [94] [93] x (wa w 94 p ((bn + j : Nat) : Int)) := FR.wa (FR.mo fw (by decide) (by decide) (by decide) (by decide)) (by decide)
    have a94 : ∀ y, A (wa w 94 p ((bn + j : Nat) : Int)) 94 y = if y = p then ((bn + j : Nat) : Int) else A x 94 y := fun y => by rw [A_eq (by omega) (by omega), FR.A fw (by decide)]
    have j93 : (wa w 94 p ((bn + j : Nat) : Int)).2.2.2 93 = w.2.2.2 93 := rfl
    generalize wa w 94 p ((bn + j : Nat) : Int) = w2 at *
    refine ⟨nm_write i f2 (by rw [a94, if_pos rfl]) (fun y hy => by rw [a94, if_neg hy]) hbn (fun i hi => by rw [j93]; exact out i hi) (fun i hi => by rw [j93, cells i hi]; exact parts _ (by omega) (by omega)), FR.tr f (FR.mo f2 (by decide) (by decide) (by decide) (by decide)), OTF.tr o (OTF_at (k0 := 94) f2 (i0 := p) (fun y hy => by rw [a94, if_neg hy]) (Or.inl ⟨by decide, rfl⟩)), by rw [FR.A f2 (by decide)]; exact h95, fun i => by rw [FR.A f2 (by decide), ← e6]; exact h99 i, fun i => by rw [FR.A f2 (by decide), ← e6]; exact h100 i, fun i => by rw [FR.A f2 (by decide), ← e6]; exact h101 i⟩
  | succ k ih =>
    intro j w M hj hM fw out cells
    obtain ⟨M, rfl⟩ : ∃ M', M = M' + 1 := ⟨M - 1, by omega⟩
    show OK _ (fb_M_frameOf_285 N (gg_M_frameOf N M) w v7 (I bn) (I i6) (I j))
    unfold fb_M_frameOf_285
    have w101 : A w 101 i6 = ((h : Nat) : Int) := by rw [FR.A fw (by decide), h101, if_pos rfl]
    have w133 : F w 133 = p := by rw [FR.F fw (by decide)]; exact i.2.2.1
    have hpw : hp w p = hp x p := by unfold hp; rw [fw.2.2.2 88 (by decide)]
    rw [inb_at (k := 101) (n := 1440) rfl (by omega) (by omega) (by decide), ck_t, I_tn (x := (i6 : Int)) (by omega) (by omega), Int.toNat_natCast, I_A' w101, decI (by omega) (by omega) (by omega) (by omega), decide_eq_false (by omega), br_fq, valueOf_e, bnd_so, I_F' w133, vt, show (2 : Int32) = I 2 from rfl, I_add, I_add, show (vn v7 : Int) + 2 + (j : Int) = ((vn v7 + (2 + j) : Nat) : Int) from by omega, cell_e (by omega) (by omega), bnd_so, show (2500 : Int32) = I 2500 from rfl, I_mul, I_add, I_add]
    refine ok_ck.mpr ⟨inb_at (k := 93) (n := 60000) rfl (by omega) (by omega) (by decide), ok_lt.mpr ?_⟩
    rw [I_tn (by omega) (by omega), show ((p : Int) * 2500 + (bn : Int) + (j : Int)).toNat = 2500 * p + (bn + j) from by omega, wj_e, lit1q, I_add, show (j : Int) + 1 = ((j + 1 : Nat) : Int) from by omega, hpw]
    refine ih (j + 1) _ M (by omega) (by omega) (FR.wj fw (by decide)) (fun i hi => by rw [J_wj, if_pos rfl, if_neg (by omega)]; exact out i hi) (fun i hi => ?_)
    rw [J_wj, if_pos rfl]
    by_cases e2 : i = j
    · subst e2; rw [if_pos rfl]
    · rw [if_neg (by omega)]; exact cells i (by omega)
end
end
section
section
variable {Fv : Int64 → Int64 → Prop} {P P2 : Int64 → Prop} {u v w w2 x y : MS} {PR PR2 N p n n2 opM bnM bxM bx2 ND fr k tp mu CN PN SN UN FN rq q m h mm AN z j : Nat} {ow kd ow2 kd2 ro rn rh cb pc ct pM pE : Nat → Nat} {T : TY} {C : CY}
set_option maxRecDepth 100000 in
theorem fo1 {v7 : Int64} {v1 fl : Int} {fr2 bo b bn h o12 : Nat} (hb6 : b ≤ 6) (hv1 : -1 ≤ v1 ∧ v1 < 1000) (h40 : h ≤ 40) (hbn : bn + h ≤ 2500) (hbn2 : bn ≤ bnM) (ho12 : o12 + b = opM) (hbo : bo ≤ o12) (hfr : 1 ≤ fr2 ∧ fr2 ≤ 60) (f0 : FR [] [] [95] [] u x) (o0 : OTF p u x) (h95 : A x 95 p = ((fr2 : Nat) : Int)) (i0 : MEI Fv P PR x p n ow kd opM bnM bxM) (hfl : (fl = 0 ∧ h = 0) ∨ (fl = 1 ∧ GT n ow kd P v7 ∧ so v7 = 3 ∧ vn (hp x p (vn v7 + 1)) = h)) (hN : 60000 ≤ N) : ∀ k j w M, j + k = b → k + h + 3 ≤ M → FR [] [] [] [91] x w → MEI Fv P PR w p n ow kd opM bnM bxM → OK (fun y _ => FOQ Fv P PR p n ow kd bxM fr2 bo b bn h u y) ((gg_M_frameOf N M).1 w (I v1) (I b) (I fl) v7 (I ((46000 * p : Nat) : Int)) (I bo) (I bn) (I o12) (I j)) := by
  have x4 := MEI_p i0
  have om : opM ≤ 46000 := i0.2.2.2.2.2.2.2.2.2.1.2
  have x3 : n ≤ 500 := i0.2.2.2.2.2.2.2.1
  intro k
  induction k with
  | zero =>
    intro j w M hj hM fw iw
    obtain rfl : j = b := by omega
    obtain ⟨M, rfl⟩ : ∃ M', M = M' + 1 := ⟨M - 1, by omega⟩
    show OK _ (fb_M_frameOf_144 N (gg_M_frameOf N M) w (I v1) (I j) (I fl) v7 (I ((46000 * p : Nat) : Int)) (I bo) (I bn) (I o12) (I j))
    unfold fb_M_frameOf_144
    rw [decI (by omega) (by omega) (by omega) (by omega), decide_eq_true (by omega), br_tq, I_F' iw.2.2.1, inb_at (k := 92) (n := 24) rfl (by omega) (by omega) (by decide), ck_t, lt_e, I_tn (x := (p : Int)) (by omega) (by omega), Int.toNat_natCast, I_add, show (bo : Int) + (j : Int) = ((bo + j : Nat) : Int) from by omega, wa_e (k := 92)]
    have i1 := ops_less iw (k := bo + j) (by omega)
    have f1 : FR [] [] [92] [91] x (wa w 92 p ((bo + j : Nat) : Int)) := FR.wa (FR.mo fw (by decide) (by decide) (by decide) (by decide)) (by decide)
    have o1 : OTF p x (wa w 92 p ((bo + j : Nat) : Int)) := OTF.tr (OTF_fr fw (by decide)) (OTF_at (FR.wa FR.rf (by decide) : FR [] [] [92] [] w _) (i0 := p) (fun y hy => by rw [A_eq (by omega) (by omega), if_neg hy]) (Or.inl ⟨by decide, rfl⟩))
    generalize wa w 92 p ((bo + j : Nat) : Int) = w1 at *
    rw [frame0_x (fr := fr2) i1.2.2.1 x4 (by rw [FR.A f1 (by decide)]; exact h95) hfr, bnd_so]
    obtain ⟨i6, e6⟩ : ∃ i6, i6 = 60 * p + (fr2 - 1) := ⟨_, rfl⟩
    rw [← e6]
    have l6 : i6 < 1440 := by omega
    rw [inb_at (k := 96) (n := 1440) rfl (by omega) (by omega) (by decide), ck_t, lt_e, I_tn (x := (i6 : Int)) (by omega) (by omega), Int.toNat_natCast, wa_e (k := 96), inb_at (k := 97) (n := 1440) rfl (by omega) (by omega) (by decide), ck_t, lt_e, litm1q, wa_e (k := 97), inb_at (k := 100) (n := 1440) rfl (by omega) (by omega) (by decide), ck_t, lt_e, wa_e (k := 100), inb_at (k := 99) (n := 1440) rfl (by omega) (by omega) (by decide), ck_t, lt_e, wa_e (k := 99)]
    have s96 : OTF p w1 (wa w1 96 i6 v1) := by
      have fz : FR [] [] [96] [] w1 (wa w1 96 i6 v1) := FR.wa FR.rf (by decide)
      exact ⟨fun y _ => ⟨FR.A fz (by decide), FR.A fz (by decide), FR.A fz (by decide), FR.A fz (by decide)⟩, fun i _ => ⟨FR.A fz (by decide), FR.A fz (by decide), FR.A fz (by decide), FR.A fz (by decide)⟩, fun i _ => ⟨FR.A fz (by decide), FR.A fz (by decide), FR.A fz (by decide), FR.A fz (by decide)⟩, fun i => Or.inl (FR.A fz (by decide)), fun i hi => by rw [A_eq (by omega) (by omega), if_neg (by omega)], fun y hy => ⟨FR.A fz (by decide), FR.A fz (by decide), rfl⟩⟩
    have f4 : FR [] [] [96, 97, 99, 100] [] w1 (wa (wa (wa (wa w1 96 i6 v1) 97 i6 (-1)) 100 i6 (bo : Int)) 99 i6 (bn : Int)) := FR.wa (FR.wa (FR.wa (FR.wa FR.rf (by decide)) (by decide)) (by decide)) (by decide)
    have o4 : OTF p w1 (wa (wa (wa (wa w1 96 i6 v1) 97 i6 (-1)) 100 i6 (bo : Int)) 99 i6 (bn : Int)) := OTF.tr s96 (OTF.tr (OTF_97 (by omega)) (OTF.tr (OTF_at (FR.wa FR.rf (by decide) : FR [] [] [100] [] _ _) (i0 := i6) (fun y hy => by rw [A_eq (by omega) (by omega), if_neg hy]) (Or.inr (Or.inl ⟨by decide, by omega, by omega⟩))) (OTF_at (FR.wa FR.rf (by decide) : FR [] [] [99] [] _ _) (i0 := i6) (fun y hy => by rw [A_eq (by omega) (by omega), if_neg hy]) (Or.inr (Or.inl ⟨by decide, by omega, by omega⟩)))))
    have a99 : ∀ i, A (wa (wa (wa (wa w1 96 i6 v1) 97 i6 (-1)) 100 i6 (bo : Int)) 99 i6 (bn : Int)) 99 i = if i = i6 then (bn : Int) else A w1 99 i := fun i => by rw [A_eq (by omega) (by omega), A_ne (by decide), A_ne (by decide), A_ne (by decide)]
    have a100 : ∀ i, A (wa (wa (wa (wa w1 96 i6 v1) 97 i6 (-1)) 100 i6 (bo : Int)) 99 i6 (bn : Int)) 100 i = if i = i6 then (bo : Int) else A w1 100 i := fun i => by rw [A_ne (by decide), A_eq (by omega) (by omega), A_ne (by decide), A_ne (by decide)]
    generalize wa (wa (wa (wa w1 96 i6 v1) 97 i6 (-1)) 100 i6 (bo : Int)) 99 i6 (bn : Int) = w4 at *
    have i4 := MEI_fr i1 f4 (by decide) (by decide) (by decide) (by decide) (by decide) (by decide) (by decide) (by decide) (by decide) (by decide) (by decide) (by decide) (by decide) (by decide) (by decide) (by decide) (by decide) (by decide)
    rw [I_F' i4.2.2.1, inb_at (k := 94) (n := 24) rfl (by omega) (by omega) (by decide), ck_t, lt_e, I_tn (x := (p : Int)) (by omega) (by omega), Int.toNat_natCast, wa_e (k := 94), inb_at (k := 101) (n := 1440) rfl (by omega) (by omega) (by decide), ck_t, lt_e, show (0 : Int32) = I 0 from rfl, wa_e (k := 101)]
    have i5 := names_less i4 (k := bn) hbn2
    have f5 : FR [] [] [94, 101] [] w4 (wa (wa w4 94 p (bn : Int)) 101 i6 0) := FR.wa (FR.wa FR.rf (by decide)) (by decide)
    have o5 : OTF p w4 (wa (wa w4 94 p (bn : Int)) 101 i6 0) := OTF.tr (OTF_at (FR.wa FR.rf (by decide) : FR [] [] [94] [] _ _) (i0 := p) (fun y hy => by rw [A_eq (by omega) (by omega), if_neg hy]) (Or.inl ⟨by decide, rfl⟩)) (OTF_at (FR.wa FR.rf (by decide) : FR [] [] [101] [] _ _) (i0 := i6) (fun y hy => by rw [A_eq (by omega) (by omega), if_neg hy]) (Or.inr (Or.inl ⟨by decide, by omega, by omega⟩)))
    have a101 : ∀ i, A (wa (wa w4 94 p (bn : Int)) 101 i6 0) 101 i = if i = i6 then 0 else A w4 101 i := fun i => by rw [A_eq (by omega) (by omega), A_ne (by decide)]
    have i6' : MEI Fv P PR (wa (wa w4 94 p (bn : Int)) 101 i6 0) p n ow kd (bo + j) bn bxM := MEI_fr i5 (FR.wa FR.rf (by decide) : FR [] [] [101] [] _ (wa (wa w4 94 p (bn : Int)) 101 i6 0)) (by decide) (by decide) (by decide) (by decide) (by decide) (by decide) (by decide) (by decide) (by decide) (by decide) (by decide) (by decide) (by decide) (by decide) (by decide) (by decide) (by decide) (by decide)
    generalize wa (wa w4 94 p (bn : Int)) 101 i6 0 = w6 at *
    have f16 : FR [] [] [94, 96, 97, 99, 100, 101] [] w1 w6 := FR.tr (FR.mo f4 (by decide) (by decide) (by decide) (by decide)) (FR.mo f5 (by decide) (by decide) (by decide) (by decide))
    have fx6 : FR [] [] [92, 94, 96, 97, 99, 100, 101] [91] x w6 := FR.tr (FR.mo f1 (by decide) (by decide) (by decide) (by decide)) (FR.mo f16 (by decide) (by decide) (by decide) (by decide))
    have fu6 : FR [] [] [92, 94, 95, 96, 97, 99, 100, 101] [91, 93] u w6 := FR.tr (FR.mo f0 (by decide) (by decide) (by decide) (by decide)) (FR.mo fx6 (by decide) (by decide) (by decide) (by decide))
    have ou6 : OTF p u w6 := OTF.tr o0 (OTF.tr o1 (OTF.tr o4 o5))
    have h95' : A w6 95 p = ((fr2 : Nat) : Int) := by rw [FR.A fx6 (by decide)]; exact h95
    have b99 : ∀ i, A w6 99 i = if i = i6 then ((bn : Nat) : Int) else A u 99 i := fun i => by rw [FR.A f5 (by decide), a99, FR.A f1 (by decide), FR.A f0 (by decide)]
    have b100 : ∀ i, A w6 100 i = if i = i6 then ((bo : Nat) : Int) else A u 100 i := fun i => by rw [FR.A f5 (by decide), a100, FR.A f1 (by decide), FR.A f0 (by decide)]
    have b101 : ∀ i, A w6 101 i = if i = i6 then 0 else A u 101 i := fun i => by rw [a101, FR.A f4 (by decide), FR.A f1 (by decide), FR.A f0 (by decide)]
    have hp6 : hp w6 p = hp x p := by unfold hp; rw [fx6.2.2.2 88 (by decide)]
    rcases hfl with ⟨q1, q2⟩ | ⟨q1, q2, q3, q4⟩
    · subst q1 q2
      refine ok_br.mpr ⟨fun _ => ?_, fun z => absurd rfl (of_decide_eq_false z)⟩
      unfold fb_M_frameOf_359
      exact ok_some.mpr ⟨i6', fu6, ou6, h95', fun i => by rw [b99, e6], fun i => by rw [b100, e6], fun i => by rw [b101, e6]; rfl⟩
    · subst q1
      refine ok_br.mpr ⟨fun z => absurd (of_decide_eq_true z) (by decide), fun _ => ?_⟩
      have ht : isH v7 := Or.inl q3
      obtain ⟨bk, parts⟩ := HP_bk i6'.2.2.2.2.2.2.1 ht q2
      have vt : va v7 = (vn v7 : Int) := by have := bk.1; unfold vn; omega
      have b2 : 2 ≤ blk (hp w6 p) v7 := blk_2 q3
      have bl := bk.2.2.2.1
      have hv' : va (hp w6 p (vn v7 + 1)) = (h : Int) := by
        have := (bk.2.2.1 q3).1
        rw [← q4, ← hp6]; unfold vn at *; omega
      have ci : (hp w6 p (vn v7 + 1)).toInt32 = I (h : Int) := by
        have : (hp w6 p (vn v7 + 1)).toInt32.toInt = (h : Int) := hv'
        rw [I_of (hp w6 p (vn v7 + 1)).toInt32, this]
      rw [valueOf_e, bnd_so, I_F' i6'.2.2.1, vt, lit1q, I_add, show (vn v7 : Int) + 1 = ((vn v7 + 1 : Nat) : Int) from by omega, cell_e (by omega) (by omega), bnd_so, ci]
      refine ok_ck.mpr ⟨rfl, ok_lt.mpr ?_⟩
      rw [wa_e (k := 101), show I 0 = I ((0 : Nat) : Int) from rfl]
      have f7 : FR [] [] [101] [] w6 (wa w6 101 i6 (h : Int)) := FR.wa FR.rf (by decide)
      have o7 : OTF p w6 (wa w6 101 i6 (h : Int)) := OTF_at f7 (i0 := i6) (fun y hy => by rw [A_eq (by omega) (by omega), if_neg hy]) (Or.inr (Or.inl ⟨by decide, by omega, by omega⟩))
      have c101 : ∀ i, A (wa w6 101 i6 (h : Int)) 101 i = if i = i6 then ((h : Nat) : Int) else A u 101 i := fun i => by
        rw [A_eq (by omega) (by omega)]
        by_cases e : i = i6
        · rw [if_pos e, if_pos e]
        · rw [if_neg e, if_neg e, b101, if_neg e]
      have hp7 : hp (wa w6 101 i6 (h : Int)) p = hp w6 p := rfl
      generalize wa w6 101 i6 (h : Int) = w7 at *
      have i7 := MEI_fr i6' f7 (by decide) (by decide) (by decide) (by decide) (by decide) (by decide) (by decide) (by decide) (by decide) (by decide) (by decide) (by decide) (by decide) (by decide) (by decide) (by decide) (by decide) (by decide)
      exact fo2 (N := N) h40 hbn x4 e6 hfr i7 (FR.tr fu6 (FR.mo f7 (by decide) (by decide) (by decide) (by decide))) (OTF.tr ou6 o7) (by rw [FR.A f7 (by decide)]; exact h95') (fun i => by rw [FR.A f7 (by decide)]; exact b99 i) (fun i => by rw [FR.A f7 (by decide)]; exact b100 i) c101 q2 q3 (by rw [hp7, hp6]; exact q4) h 0 w7 M (by omega) (by omega) FR.rf (fun _ _ => rfl) (fun i hi => absurd hi (Nat.not_lt_zero i))
  | succ k ih =>
    intro j w M hj hM fw iw
    obtain ⟨M, rfl⟩ : ∃ M', M = M' + 1 := ⟨M - 1, by omega⟩
    show OK _ (fb_M_frameOf_144 N (gg_M_frameOf N M) w (I v1) (I b) (I fl) v7 (I ((46000 * p : Nat) : Int)) (I bo) (I bn) (I o12) (I j))
    unfold fb_M_frameOf_144
    rw [decI (by omega) (by omega) (by omega) (by omega), decide_eq_false (by omega), br_fq, I_add, I_add, I_add, I_add]
    refine ok_ck.mpr ⟨inb_at (k := 91) (n := 1104000) rfl (by omega) (by omega) (by decide), ok_ck.mpr ⟨inb_at (k := 91) (n := 1104000) rfl (by omega) (by omega) (by decide), ok_lt.mpr ?_⟩⟩
    rw [I_tn (by omega) (by omega), I_tn (by omega) (by omega), show (((46000 * p : Nat) : Int) + (bo : Int) + (j : Int)).toNat = 46000 * p + (bo + j) from by omega, show (((46000 * p : Nat) : Int) + (o12 : Int) + (j : Int)).toNat = 46000 * p + (o12 + j) from by omega, wj_e, lit1q, I_add, show (j : Int) + 1 = ((j + 1 : Nat) : Int) from by omega]
    exact ih (j + 1) _ M (by omega) (by omega) (FR.wj fw (by decide)) (op_write iw (by omega) (iw.2.2.2.2.2.2.2.2.2.2.2.2.1 _ (by omega)))
end
end
section
section
variable {Fv : Int64 → Int64 → Prop} {P P2 : Int64 → Prop} {u v w w2 x y : MS} {PR PR2 N p n n2 opM bnM bxM bx2 ND fr k tp mu CN PN SN UN FN rq q m h mm AN z j : Nat} {ow kd ow2 kd2 ro rn rh cb pc ct pM pE : Nat → Nat} {T : TY} {C : CY}
theorem frameOf_ok {v1 v2 : Int} {tl : Int32} {b g bo bn fr2 : Nat} (i : MEI Fv P PR u p n ow kd opM bnM bxM) (hf : 1 ≤ fr ∧ fr ≤ 60) (h95 : A u 95 p = ((fr : Nat) : Int)) (h166 : F u 166 = ((g : Nat) : Int)) (hg : g ≤ 1) (hb : b ≤ 6) (hbg : b + g ≤ opM) (hv1 : -1 ≤ v1 ∧ v1 < 1000) (hv2 : -1 ≤ v2 ∧ v2 < 2000) (h40 : h ≤ 40) (hbn : bn + h ≤ 2500) (htl : (tl = 0 ∧ fr < 60 ∧ fr2 = fr + 1 ∧ bo = opM - b - g ∧ bn = bnM) ∨ (tl ≠ 0 ∧ fr2 = fr ∧ A u 100 (60 * p + (fr - 1)) = ((bo : Nat) : Int) ∧ bo + b ≤ opM ∧ A u 99 (60 * p + (fr - 1)) = ((bn : Nat) : Int) ∧ bn ≤ bnM)) (hfl : (v2 = -1 ∧ h = 0) ∨ (v2 ≠ -1 ∧ g = 1 ∧ so (u.2.2.2 91 (46000 * p + (opM - 1 - b))) = 3 ∧ vn (hp u p (vn (u.2.2.2 91 (46000 * p + (opM - 1 - b))) + 1)) = h)) (hN : 60000 ≤ N) : OK (fun y _ => FOQ Fv P PR p n ow kd bxM fr2 bo b bn h u y) (fm_M_frameOf N u (I v1) (I v2) (I b) tl) := by
  have x4 := MEI_p i
  have om : opM ≤ 46000 := i.2.2.2.2.2.2.2.2.2.1.2
  have p92 : A u 92 p = ((opM : Nat) : Int) := i.2.2.2.2.2.2.2.2.2.1.1
  have p94 : A u 94 p = ((bnM : Nat) : Int) := i.2.2.2.2.2.2.2.2.2.2.1.1
  have bl : bnM ≤ 2500 := i.2.2.2.2.2.2.2.2.2.2.1.2
  have y46 : ∀ (fl : Int) (v7 : Int64), ((fl = 0 ∧ h = 0) ∨ (fl = 1 ∧ GT n ow kd P v7 ∧ so v7 = 3 ∧ vn (hp u p (vn v7 + 1)) = h)) → OK (fun y _ => FOQ Fv P PR p n ow kd bxM fr2 bo b bn h u y) (fb_M_frameOf_46 N (gg_M_frameOf N N) u (I v1) (I b) tl (I fl) (I g) v7) := fun fl v7 h7 => by
    unfold fb_M_frameOf_46
    rw [I_F' i.2.2.1]
    refine ok_ck.mpr ⟨inb_at (k := 92) (n := 24) rfl (by omega) (by omega) (by decide), ok_lt.mpr (ok_ck.mpr ⟨inb_at (k := 94) (n := 24) rfl (by omega) (by omega) (by decide), ok_lt.mpr ?_⟩)⟩
    rw [I_tn (x := (p : Int)) (by omega) (by omega), Int.toNat_natCast, I_A' p92, I_A' p94, I_sub, I_sub, show (46000 : Int32) = I 46000 from rfl, I_mul, show (p : Int) * 46000 = ((46000 * p : Nat) : Int) from by omega]
    have y128 : ∀ x : MS, FR [] [] [95] [] u x → OTF p u x → A x 95 p = ((fr2 : Nat) : Int) → bo + b ≤ opM → bn ≤ bnM → 1 ≤ fr2 ∧ fr2 ≤ 60 → OK (fun y _ => FOQ Fv P PR p n ow kd bxM fr2 bo b bn h u y) (fb_M_frameOf_128 N (gg_M_frameOf N N) x (I v1) (I b) (I fl) v7 (I ((46000 * p : Nat) : Int)) (I bo) (I bn)) := fun x fx ox hx95 hb1 hb2 hb3 => by
      unfold fb_M_frameOf_128
      have ix := MEI_fr i fx (by decide) (by decide) (by decide) (by decide) (by decide) (by decide) (by decide) (by decide) (by decide) (by decide) (by decide) (by decide) (by decide) (by decide) (by decide) (by decide) (by decide) (by decide)
      have hpx : hp x p = hp u p := by unfold hp; rw [fx.2.2.2 88 (by decide)]
      rw [I_F' ix.2.2.1]
      refine ok_ck.mpr ⟨inb_at (k := 92) (n := 24) rfl (by omega) (by omega) (by decide), ok_lt.mpr ?_⟩
      rw [I_tn (x := (p : Int)) (by omega) (by omega), Int.toNat_natCast, I_A' ix.2.2.2.2.2.2.2.2.2.1.1, I_sub, show (opM : Int) - (b : Int) = ((opM - b : Nat) : Int) from by omega, show (0 : Int32) = I ((0 : Nat) : Int) from rfl]
      exact fo1 (N := N) (o12 := opM - b) hb hv1 h40 hbn hb2 (by omega) (by omega) hb3 fx ox hx95 ix (by rw [hpx]; exact h7) hN b 0 x N (by omega) (by omega) FR.rf ix
    rcases htl with ⟨t1, t2, t3, t4, t5⟩ | ⟨t1, t2, t3, t4, t5, t6⟩
    · refine ok_br.mpr ⟨fun _ => ?_, fun z => absurd t1 (of_decide_eq_false z)⟩
      refine ok_ck.mpr ⟨inb_at (k := 95) (n := 24) rfl (by omega) (by omega) (by decide), ok_ck.mpr ⟨inb_at (k := 95) (n := 24) rfl (by omega) (by omega) (by decide), ok_lt.mpr ?_⟩⟩
      rw [I_A' h95, lit1q, I_add, wa_e, show (opM : Int) - (b : Int) - (g : Int) = ((bo : Nat) : Int) from by omega, ← t5]
      exact y128 _ (FR.wa FR.rf (by decide)) (OTF_at (FR.wa FR.rf (by decide) : FR [] [] [95] [] u _) (i0 := p) (fun y hy => by rw [A_eq (by omega) (by omega), if_neg hy]) (Or.inl ⟨by decide, rfl⟩)) (by rw [A_eq (by omega) (by omega), if_pos rfl]; omega) (by omega) (by omega) (by omega)
    · refine ok_br.mpr ⟨fun z => absurd (of_decide_eq_true z) t1, fun _ => ?_⟩
      rw [frame0_x (fr := fr) i.2.2.1 x4 h95 hf, bnd_so]
      refine ok_ck.mpr ⟨inb_at (k := 100) (n := 1440) rfl (by omega) (by omega) (by decide), ok_lt.mpr ?_⟩
      rw [frame0_x (fr := fr) i.2.2.1 x4 h95 hf, bnd_so]
      refine ok_ck.mpr ⟨inb_at (k := 99) (n := 1440) rfl (by omega) (by omega) (by decide), ok_lt.mpr ?_⟩
      rw [I_tn (x := ((60 * p + (fr - 1) : Nat) : Int)) (by omega) (by omega), Int.toNat_natCast, I_A' t3, I_A' t5]
      exact y128 u FR.rf (OTF_fr (FR.rf : FR [] [] [] [] u u) (by decide)) (by rw [t2]; exact h95) t4 t6 (by omega)
  have y24 : ∀ fl : Int, ((fl = 0 ∧ h = 0) ∨ (fl = 1 ∧ v2 ≠ -1)) → OK (fun y _ => FOQ Fv P PR p n ow kd bxM fr2 bo b bn h u y) (fb_M_frameOf_10 N (gg_M_frameOf N N) u (I v1) (I b) tl (I fl)) := fun fl hfl' => by
    unfold fb_M_frameOf_10 fb_M_frameOf_24
    rw [I_F' h166, show (0 : Int32) = I 0 from rfl, show (1 : Int32) = I 1 from rfl, decE (by omega) (by omega) (by omega) (by omega)]
    refine ok_br.mpr ⟨fun zg => ?_, fun zg => ?_⟩
    · have g0 : g = 0 := by have := of_decide_eq_true zg; omega
      refine ok_br.mpr ⟨fun z => absurd (of_decide_eq_true z) (by decide), fun _ => ?_⟩
      rw [show (6 : Int32) = I 6 from rfl, term_e, bnd_so]
      have := y46 fl (mk 6 0) (by
        rcases hfl' with z | ⟨z1, z2⟩
        · exact Or.inl z
        · rcases hfl with ⟨q, -⟩ | ⟨-, q, -⟩
          · exact absurd q z2
          · omega)
      rw [g0] at this; exact this
    · have g1 : g = 1 := by have := of_decide_eq_false zg; omega
      refine ok_br.mpr ⟨fun _ => ?_, fun z => absurd rfl (of_decide_eq_false z)⟩
      obtain ⟨t1, t2⟩ := top_ok (N := N) (k := b) i (by omega)
      rw [t1, bnd_so]
      have := y46 fl _ (by
        rcases hfl' with z | ⟨z1, z2⟩
        · exact Or.inl z
        · rcases hfl with ⟨q, -⟩ | ⟨-, -, q1, q2⟩
          · exact absurd q z2
          · exact Or.inr ⟨z1, t2, q1, q2⟩)
      rw [g1] at this; exact this
  unfold fm_M_frameOf fb_M_frameOf_0
  rw [litm1q, decE (by omega) (by omega) (by omega) (by omega)]
  refine ok_br.mpr ⟨fun z => y24 0 (Or.inl ⟨rfl, ?_⟩), fun z => y24 1 (Or.inr ⟨rfl, of_decide_eq_false z⟩)⟩
  rcases hfl with ⟨-, q⟩ | ⟨q, -⟩
  · exact q
  · exact absurd (of_decide_eq_true z) q
theorem sR_ext {pc2 : Nat → Nat} : ∀ m, (∀ i, i < m → pc2 i = pc i) → sR T pc2 m = sR T pc m := by
  intro m
  induction m with
  | zero => intro _; rfl
  | succ m ih => intro h; show sR T pc2 m + tR T (pc2 m) = sR T pc m + tR T (pc m); rw [ih (fun i hi => h i (by omega)), h m (by omega)]
theorem sR_le : ∀ m, (∀ i, i < m → tR T (pc i) ≤ 16000) → sR T pc m ≤ 16000 * m := by
  intro m
  induction m with
  | zero => intro _; exact Nat.le_refl _
  | succ m ih => intro h; show sR T pc m + tR T (pc m) ≤ _; have := ih (fun i hi => h i (by omega)); have := h m (by omega); omega
theorem FRS_call {is ls as js : List Nat} {bo bn : Nat} (hF : FRS u T ND p fr ro rn rh cb pc ct k tp) (h60 : fr < 60) (f : FR is ls as js u w) (ha : ∀ k, k ∈ [23, 98, 102, 103, 104, 105] → k ∉ as) (h98 : A u 98 (60 * p + (fr - 1)) = ((q : Nat) : Int)) (hq : q < ND) (hG : tG T q = 0) (hB : tB T q + 1 ≤ tH T q) (hH : tH T q ≤ 760) (hl : rh (fr - 1) = tL T q) (hML : tM T q + tL T q ≤ 40) (hk : tK T q = k) (hk26 : k ≤ 26) (htc : tC T q = tp) (ho : bo + 1 = ro (fr - 1) + tH T q) (hn : bn = rn (fr - 1) + rh (fr - 1) + tM T q) (h40 : h ≤ 40) (h95 : A w 95 p = ((fr + 1 : Nat) : Int)) (h99 : ∀ i, A w 99 i = if i = 60 * p + fr then ((bn : Nat) : Int) else A u 99 i) (h100 : ∀ i, A w 100 i = if i = 60 * p + fr then ((bo : Nat) : Int) else A u 100 i) (h101 : ∀ i, A w 101 i = if i = 60 * p + fr then ((h : Nat) : Int) else A u 101 i) : FRS w T ND p (fr + 1) (fun i => if i = fr then bo else ro i) (fun i => if i = fr then bn else rn i) (fun i => if i = fr then h else rh i) (fun i => if i = fr then cb (fr - 1) + k else cb i) (fun i => if i = fr - 1 then q else pc i) ct 0 0 := by
  obtain ⟨⟨h1, h2, h3⟩, ⟨z1, z2, z3⟩, h5, h6, h7⟩ := hF
  have top := h5 (fr - 1) (by omega)
  refine ⟨⟨by omega, by omega, h95⟩, ⟨by simp only []; rw [if_neg (by omega)]; exact z1, by simp only []; rw [if_neg (by omega)]; exact z2, by simp only []; rw [if_neg (by omega)]; exact z3⟩, fun i hi => ?_, fun i hi => ?_, fun j hj => absurd hj (Nat.not_lt_zero j)⟩
  · simp only []
    by_cases e : i = fr
    · rw [if_pos e, if_pos e, if_pos e, if_pos e, h99, h100, h101, if_pos (by omega), if_pos (by omega), if_pos (by omega)]
      exact ⟨rfl, rfl, rfl, h40, by omega, by omega, by omega⟩
    · rw [if_neg e, if_neg e, if_neg e, if_neg e, h99, h100, h101, if_neg (by omega), if_neg (by omega), if_neg (by omega)]
      exact h5 i (by omega)
  · simp only []
    have cti : ∀ i c0 kk tt a b c, CTI u T ND p ct i c0 kk tt a b c → CTI w T ND p ct i c0 kk tt a b c := fun i c0 kk tt a b c hc => CTI_fr hc f (ha _ (by decide)) (ha _ (by decide)) (ha _ (by decide)) (ha _ (by decide)) (ha _ (by decide))
    by_cases e : i = fr - 1
    · rw [if_pos e, if_pos (show i + 1 = fr by omega), if_pos (show i + 1 = fr by omega), if_pos (show i + 1 = fr by omega), if_neg (show i ≠ fr by omega), if_neg (show i ≠ fr by omega), if_neg (show i ≠ fr by omega), if_neg (show i ≠ fr by omega), FR.A f (ha _ (by decide)), e]
      exact ⟨h98, hq, hG, hB, ho, hl, hn, by rw [hk], by rw [hk, htc]; exact cti _ _ _ _ _ _ _ h7⟩
    · rw [if_neg e, if_neg (show i + 1 ≠ fr by omega), if_neg (show i + 1 ≠ fr by omega), if_neg (show i + 1 ≠ fr by omega), if_neg (show i ≠ fr by omega), if_neg (show i ≠ fr by omega), if_neg (show i ≠ fr by omega), if_neg (show i ≠ fr by omega), FR.A f (ha _ (by decide))]
      obtain ⟨r1, r2, r3, r4, r6, r7, r8, r9, r10⟩ := h6 i (by omega)
      exact ⟨r1, r2, r3, r4, r6, r7, r8, r9, cti _ _ _ _ _ _ _ r10⟩
theorem FRS_tail {is ls as js : List Nat} (hF : FRS u T ND p fr ro rn rh cb pc ct 0 tp) (f : FR is ls as js u w) (ha : ∀ k, k ∈ [23, 102, 103, 104, 105] → k ∉ as) (h98 : ∀ i, i + 1 < fr → A w 98 (60 * p + i) = A u 98 (60 * p + i)) (h40 : h ≤ 40) (h95 : A w 95 p = ((fr : Nat) : Int)) (h99 : ∀ i, A w 99 i = if i = 60 * p + (fr - 1) then ((rn (fr - 1) : Nat) : Int) else A u 99 i) (h100 : ∀ i, A w 100 i = if i = 60 * p + (fr - 1) then ((ro (fr - 1) : Nat) : Int) else A u 100 i) (h101 : ∀ i, A w 101 i = if i = 60 * p + (fr - 1) then ((h : Nat) : Int) else A u 101 i) : FRS w T ND p fr ro rn (fun i => if i = fr - 1 then h else rh i) cb pc ct 0 0 := by
  obtain ⟨⟨h1, h2, h3⟩, z, h5, h6, h7⟩ := hF
  refine ⟨⟨h1, h2, h95⟩, z, fun i hi => ?_, fun i hi => ?_, fun j hj => absurd hj (Nat.not_lt_zero j)⟩
  · simp only []
    have := h5 i hi
    by_cases e : i = fr - 1
    · rw [if_pos e, h99, h100, h101, if_pos (by omega), if_pos (by omega), if_pos (by omega), e]
      rw [e] at this
      exact ⟨rfl, rfl, rfl, h40, this.2.2.2.2⟩
    · rw [if_neg e, h99, h100, h101, if_neg (by omega), if_neg (by omega), if_neg (by omega)]
      exact this
  · simp only []
    obtain ⟨r1, r2, r3, r4, r6, r7, r8, r9, r10⟩ := h6 i hi
    rw [if_neg (show i ≠ fr - 1 by omega), h98 i hi]
    exact ⟨r1, r2, r3, r4, r6, r7, r8, r9, CTI_fr r10 f (ha _ (by decide)) (ha _ (by decide)) (ha _ (by decide)) (ha _ (by decide)) (ha _ (by decide))⟩
end
end
section
section
variable {Fv : Int64 → Int64 → Prop} {P P2 : Int64 → Prop} {u v w w2 x y : MS} {PR PR2 N p n n2 opM bnM bxM bx2 ND fr k tp mu CN PN SN UN FN rq q m h mm AN z j : Nat} {ow kd ow2 kd2 ro rn rh cb pc ct pM pE : Nat → Nat} {T : TY} {C : CY}
theorem RES.le {m2 : Nat} (r : RES Fv P PR T C ND CN p m2 u w) (h : m2 ≤ mu) : RES Fv P PR T C ND CN p mu u w := RES.tr FR.rf (OTF_fr (FR.rf : FR [] [] [] [] u u) (by decide)) (fun _ _ => rfl) r h
theorem CLS_fr {is ls as js : List Nat} {a1 a2 a3 a4 a5 a6 a7 r : Nat} {c : Int} (hc : CLS C u CN a1 a2 a3 a4 a5 a6 a7 r c) (f : FR is ls as js u w) (ha : 41 ∉ as) : CLS C w CN a1 a2 a3 a4 a5 a6 a7 r c := by
  obtain ⟨c', d1, d2, d3, d4⟩ := hc
  exact ⟨c', d1, d2, by rw [FR.A f ha]; exact d3, d4⟩
theorem clausesOf_ok {b c r bn h2 : Nat} (hp : PGM Fv P PR T C pM pE ND CN PN SN UN FN w) (hF : FRS w T ND p fr ro rn rh cb pc ct 0 0) (h106 : A w 106 p = ((cb (fr - 1) : Nat) : Int)) (h109 : A w 109 p = 0) (h152 : F w 152 = 0) (i : MEI Fv P PR w p n ow kd (ro (fr - 1) + b) (rn (fr - 1) + rh (fr - 1)) bxM) (hb : b ≤ 6) (hc : CLS C w CN b b 0 0 (rh (fr - 1)) 0 0 r ((c : Nat) : Int)) (cl : CLG w (sR T pc (fr - 1) + r) 16002 mu) (hE : F w 149 = F w 150 ∧ F w 151 = 0) (hN : 60000 ≤ N) : OK (fun w2 _ => RES Fv P PR T C ND CN p mu w w2) (fm_M_clausesOf N w (I c)) := by
  have x4 := MEI_p i
  have hf := hF.1
  have top := hF.2.2.1 (fr - 1) (by omega)
  unfold fm_M_clausesOf fb_M_clausesOf_0
  rw [frame0_x (fr := fr) i.2.2.1 x4 hf.2.2 ⟨hf.1, hf.2.1⟩, bnd_so]
  refine ok_ck.mpr ⟨inb_at (k := 99) (n := 1440) rfl (by omega) (by omega) (by decide), ok_ck.mpr ⟨inb_at (k := 101) (n := 1440) rfl (by omega) (by omega) (by decide), ?_⟩⟩
  rw [I_tn (x := ((60 * p + (fr - 1) : Nat) : Int)) (by omega) (by omega), Int.toNat_natCast, I_A' top.2.1, I_A' top.2.2.1, I_add, show ((rn (fr - 1) : Nat) : Int) + ((rh (fr - 1) : Nat) : Int) = ((rn (fr - 1) + rh (fr - 1) + 0 : Nat) : Int) from by omega, show (0 : Int32) = I ((0 : Nat) : Int) from rfl]
  exact ok_bnd.mpr (ok_mono (tryFrom_ok (N := N) (mu := mu) (s := 0) (many := b) (hg := b) (hb := 0) (m := 0) (r := r) (b := rn (fr - 1) + rh (fr - 1)) hp hF (by rw [h106]; rfl) h109 h152 i (by omega) ⟨by omega, by rw [if_pos rfl]; omega, fun z => by omega, fun z => by omega, hb, by omega, by omega, by omega⟩ hc (fun z => by omega) cl hE hN) (fun y _ hy => ok_some.mpr hy))
theorem F_ne {k j : Nat} {a : Int} (h : j ≠ k) : F (wi u k a) j = F u j := by
  show (if j = k then I a else u.1 j).toInt = _
  rw [if_neg h]; rfl
theorem CLG_call {s s2 r t : Nat} (cl : CLG u (s + t) 0 mu) (h165 : F u 165 < F u 164) (e165 : F w 165 = F u 165 + 1) (e164 : F w 164 = F u 164) (hs : s2 ≤ 960000) (hr : r < 16000) : CLG w (s2 + r) 16002 (mu - 1) := by
  obtain ⟨c1, c2, c3, c4⟩ := cl
  refine ⟨by omega, by omega, by omega, ?_⟩
  rw [e165, e164]
  omega
set_option maxRecDepth 100000 in
theorem callC {v4 v5 : Int} {b g c r xx ff : Nat} (a : ATQ Fv (PQ AN PR) PR T ND p u fr ro rn rh cb pc ct q n ow kd bxM) (h109 : A u 109 p = 0) (h152 : F u 152 = 0) (cl : CLG u (sR T pc (fr - 1) + tR T q) 0 mu) (hp' : PGM Fv (PQ AN PR) PR T C pM pE ND CN PN SN UN FN u) (hw : WLD u T ND UN FN PR p) (hG : tG T q = 0) (hE : F u 149 = F u 150 ∧ F u 151 = 0) (h166 : F u 166 = ((g : Nat) : Int)) (hg : g ≤ 1) (hb : b ≤ 6) (hq1 : q + 1 < ND) (hB : tB T q + (b + g) ≤ tH T q) (hx : NX T q (q + 1) (tH T q + 1 - (b + g)) (tM T q)) (h30 : A u 30 q ≠ 0 → tK T q = 0) (hcls : CLS C u CN b b 0 0 h 0 0 r ((c : Nat) : Int)) (hc : c < CN) (hr : r < 16000) (hv4 : -1 ≤ v4 ∧ v4 < 1000) (hv5 : -1 ≤ v5 ∧ v5 < 1400) (t5 : v4 = -1 → v5 = xx ∧ A u 53 xx = ((c : Nat) : Int)) (t4 : v4 ≠ -1 → v4 = ff ∧ A u 50 ff = ((c : Nat) : Int)) (h40 : h ≤ 40) (hfl : (v5 = -1 ∧ h = 0) ∨ (v5 ≠ -1 ∧ g = 1 ∧ so (u.2.2.2 91 (46000 * p + (ro (fr - 1) + tH T q - 1 - b))) = 3 ∧ vn (hp u p (vn (u.2.2.2 91 (46000 * p + (ro (fr - 1) + tH T q - 1 - b))) + 1)) = h)) (hN : 60000 ≤ N) : OK (fun y _ => RSW Fv AN T C ND CN UN FN p mu u y) (fb_M_callRun_213 N () u (I q) (I b) (I v4) (I v5)) := by
  obtain ⟨i, hF, a98, a4, a5, a6⟩ := id a
  have x4 := MEI_p i
  have hT := PRG_26 hp'.1
  have nd := hp'.1.1.1
  have cn := hp'.1.1.2.1
  have fn := hp'.1.1.2.2.2.2.1
  have un := hp'.1.1.2.2.2.1
  obtain ⟨nw1, nw2, nw3, nw4, nw5, nw6, nw7, nw8, nw9, nw10, nw11, nw12, nw13, nw14, nw15⟩ := (hp'.1.2.2.1 q a4).1
  clear nw7 nw8
  have hf := hF.1
  have top := hF.2.2.1 (fr - 1) (by omega)
  have cl1 := cl.1
  have cl2 := cl.2.1
  have cl3 := cl.2.2.1
  obtain ⟨n1, n2', n3, n4, n5, n6, n7, n8, n9⟩ := id hx
  have nx6 := (hp'.1.2.2.1 (q + 1) hq1).1.2.2.2.2.2.1
  have nx1 := (hp'.1.2.2.1 (q + 1) hq1).1.1
  have r165 := F_r u 165
  have sRb : sR T pc (fr - 1) ≤ 16000 * (fr - 1) := sR_le (fr - 1) (fun j hj => (hp'.1.2.2.1 _ (hF.2.2.2.1 j (by omega)).2.1).1.2.2.2.2.2.1.2)
  have tail : OK (fun y _ => RSW Fv AN T C ND CN UN FN p mu u y) (fb_M_callRun_285 N () u (I q) (I b) (I v4) (I v5)) ∨ True := Or.inr trivial
  clear tail
  have y285 : F u 165 < F u 164 → (A u 30 q = 0 → fr < 60) → OK (fun y _ => RSW Fv AN T C ND CN UN FN p mu u y) (fb_M_callRun_285 N () u (I q) (I b) (I v4) (I v5)) := fun h165 h60 => by
    unfold fb_M_callRun_285
    refine ok_lt.mpr (ok_lt.mpr ?_)
    rw [I_F (k := 165), lit1q, I_add, wi_e (k := 165), I_F (k := 119), I_add, wi_e (k := 119)]
    have f3 : FR [119, 165] [] [] [] u (wi (wi u 165 (F u 165 + 1)) 119 (F (wi u 165 (F u 165 + 1)) 119 + 1)) := FR.wi (FR.wi FR.rf (by decide)) (by decide)
    have e165 : F (wi (wi u 165 (F u 165 + 1)) 119 (F (wi u 165 (F u 165 + 1)) 119 + 1)) 165 = F u 165 + 1 := by
      rw [F_ne (by decide), F_wi (by omega) (by omega), if_pos rfl]
    generalize wi (wi u 165 (F u 165 + 1)) 119 (F (wi u 165 (F u 165 + 1)) 119 + 1) = w3 at *
    have i3 := MEI_ints i f3 (by decide)
    rw [I_F' i3.2.2.1]
    refine ok_ck.mpr ⟨inb_at (k := 114) (n := 24) rfl (by omega) (by omega) (by decide), ok_ck.mpr ⟨inb_at (k := 114) (n := 24) rfl (by omega) (by omega) (by decide), ok_lt.mpr ?_⟩⟩
    rw [I_tn (x := (p : Int)) (by omega) (by omega), Int.toNat_natCast, I_A (k := 114), I_add, wa_e (k := 114)]
    have f4 : FR [119, 165] [] [114] [] u (wa w3 114 p (A w3 114 p + 1)) := FR.wa (FR.mo f3 (by decide) (by decide) (by decide) (by decide)) (by decide)
    have e165' : F (wa w3 114 p (A w3 114 p + 1)) 165 = F u 165 + 1 := by rw [F_wa]; exact e165
    generalize wa w3 114 p (A w3 114 p + 1) = w4 at *
    have i4 := MEI_fr i f4 (by decide) (by decide) (by decide) (by decide) (by decide) (by decide) (by decide) (by decide) (by decide) (by decide) (by decide) (by decide) (by decide) (by decide) (by decide) (by decide) (by decide) (by decide)
    rw [I_add, show (-(I 1) : Int32) = -1 from rfl, show (q : Int) + 1 = ((q + 1 : Nat) : Int) from by omega, goTo_ok i4 (by rw [FR.A f4 (by decide)]; exact hf.2.2) ⟨hf.1, hf.2.1⟩ (by omega), bnd_so]
    have f5 : FR [119, 165] [] [98, 114] [] u (wa w4 98 (60 * p + (fr - 1)) ((q + 1 : Nat) : Int)) := FR.wa (FR.mo f4 (by decide) (by decide) (by decide) (by decide)) (by decide)
    have f45 : FR [] [] [98] [] w4 (wa w4 98 (60 * p + (fr - 1)) ((q + 1 : Nat) : Int)) := FR.wa FR.rf (by decide)
    have e98 : ∀ j, A (wa w4 98 (60 * p + (fr - 1)) ((q + 1 : Nat) : Int)) 98 j = if j = 60 * p + (fr - 1) then ((q + 1 : Nat) : Int) else A u 98 j := fun j => by rw [A_eq (by omega) (by omega), FR.A f4 (by decide)]
    have e165'' : F (wa w4 98 (60 * p + (fr - 1)) ((q + 1 : Nat) : Int)) 165 = F u 165 + 1 := by rw [F_wa]; exact e165'
    have o5 : OTF p u (wa w4 98 (60 * p + (fr - 1)) ((q + 1 : Nat) : Int)) := OTF.tr (OTF_fr f4 (by decide)) (OTF_at f45 (i0 := 60 * p + (fr - 1)) (fun y hy => by rw [A_eq (by omega) (by omega), if_neg hy]) (Or.inr (Or.inl ⟨by decide, by omega, by omega⟩)))
    have i5 := MEI_fr i4 f45 (by decide) (by decide) (by decide) (by decide) (by decide) (by decide) (by decide) (by decide) (by decide) (by decide) (by decide) (by decide) (by decide) (by decide) (by decide) (by decide) (by decide) (by decide)
    generalize wa w4 98 (60 * p + (fr - 1)) ((q + 1 : Nat) : Int) = w5 at *
    refine ok_ck.mpr ⟨inb_at (k := 30) (n := 16000) rfl (by omega) (by omega) (by decide), ?_⟩
    rw [I_tn (x := (q : Int)) (by omega) (by omega), Int.toNat_natCast]
    have tl5 : w5.2.2.1 30 q = u.2.2.1 30 q := by rw [f5.2.2.1 30 (by decide)]
    have hp5 : hp w5 p = hp u p := by unfold hp; rw [f5.2.2.2 88 (by decide)]
    have j91 : w5.2.2.2 91 = u.2.2.2 91 := f5.2.2.2 91 (by decide)
    rw [tl5]
    have z30 : u.2.2.1 30 q = 0 ↔ A u 30 q = 0 := ⟨fun z => by unfold A; rw [z]; rfl, fun z => by rw [I_A' z]; rfl⟩
    have fin : ∀ (w : MS) (fr2 bo bn : Nat) (ro' rn' rh' cb' pc' : Nat → Nat), FOQ Fv (PQ AN PR) PR p n ow kd bxM fr2 bo b bn h w5 w → FRS w T ND p fr2 ro' rn' rh' cb' pc' ct 0 0 → ro' (fr2 - 1) = bo → rn' (fr2 - 1) = bn → rh' (fr2 - 1) = h → A u 106 p = ((cb' (fr2 - 1) : Nat) : Int) → sR T pc' (fr2 - 1) ≤ 960000 → OK (fun y _ => RSW Fv AN T C ND CN UN FN p mu u y) (br (decide (I v4 = -1)) (ck (inb (I v5) (ln 53)) (fb_M_callRun_364 N () w (w.2.2.1 53 (I v5).toNatClampNeg))) (ck (inb (I v4) (ln 50)) (fb_M_callRun_364 N () w (w.2.2.1 50 (I v4).toNatClampNeg)))) := fun w fr2 bo bn ro' rn' rh' cb' pc' fq hF2 y1 y2 y3 y4 y5 => by
      obtain ⟨q1, q2, q3, q4, q5, q6, q7⟩ := fq
      have fw : FR [119, 165] [] [92, 94, 95, 96, 97, 98, 99, 100, 101, 114] [91, 93] u w := FR.tr (FR.mo f5 (by decide) (by decide) (by decide) (by decide)) (FR.mo q2 (by decide) (by decide) (by decide) (by decide))
      have ow' : OTF p u w := OTF.tr o5 q3
      have go : OK (fun y _ => RSW Fv AN T C ND CN UN FN p mu u y) (fb_M_callRun_364 N () w (I c)) := by
        unfold fb_M_callRun_364
        refine ok_bnd.mpr (ok_mono (clausesOf_ok (N := N) (mu := mu - 1) (b := b) (c := c) (r := r) (bn := 0) (h2 := 0) (fr := fr2) (ro := ro') (rn := rn') (rh := rh') (cb := cb') (pc := pc') (ct := ct) (PGM_fr hp' fw (by decide) (by decide)) hF2 (by rw [FR.A fw (by decide)]; exact y4) (by rw [FR.A fw (by decide)]; exact h109) (by rw [FR.F fw (by decide)]; exact h152) (by rw [y1, y2, y3]; exact q1) hb (by rw [y3]; exact CLS_fr hcls fw (by decide)) ?_ (by rw [FR.F fw (by decide), FR.F fw (by decide), FR.F fw (by decide)]; exact hE) hN) (fun y _ hy => ok_some.mpr (RES_via fw ow' (RES.le hy (Nat.sub_le _ _)) hw hT i.2.1 (by decide) (by decide) (by decide) (by decide) (by decide) (by decide))))
        have w165 : F w 165 = F u 165 + 1 := by rw [FR.F q2 (by decide)]; exact e165''
        have w164 : F w 164 = F u 164 := FR.F fw (by decide)
        exact CLG_call cl h165 w165 w164 y5 hr
      rw [litm1q, decE (by omega) (by omega) (by omega) (by omega)]
      refine ok_br.mpr ⟨fun z => ?_, fun z => ?_⟩
      · obtain ⟨d1, d2⟩ := t5 (of_decide_eq_true z)
        refine ok_ck.mpr ⟨inb_at (k := 53) (n := 1400) rfl (by omega) (by omega) (by decide), ?_⟩
        rw [d1, I_tn (x := (xx : Int)) (by omega) (by omega), Int.toNat_natCast, I_A' (show A w 53 xx = ((c : Nat) : Int) by rw [FR.A fw (by decide)]; exact d2)]
        exact go
      · obtain ⟨d1, d2⟩ := t4 (of_decide_eq_false z)
        refine ok_ck.mpr ⟨inb_at (k := 50) (n := 1000) rfl (by omega) (by omega) (by decide), ?_⟩
        rw [d1, I_tn (x := (ff : Int)) (by omega) (by omega), Int.toNat_natCast, I_A' (show A w 50 ff = ((c : Nat) : Int) by rw [FR.A fw (by decide)]; exact d2)]
        exact go
    have h95 : A w5 95 p = ((fr : Nat) : Int) := by rw [FR.A f5 (by decide)]; exact hf.2.2
    have h166' : F w5 166 = ((g : Nat) : Int) := by rw [FR.F f5 (by decide)]; exact h166
    have hfl' : (v5 = -1 ∧ h = 0) ∨ (v5 ≠ -1 ∧ g = 1 ∧ so (w5.2.2.2 91 (46000 * p + (ro (fr - 1) + tH T q - 1 - b))) = 3 ∧ vn (hp w5 p (vn (w5.2.2.2 91 (46000 * p + (ro (fr - 1) + tH T q - 1 - b))) + 1)) = h) := by rw [hp5, j91]; exact hfl
    by_cases z0 : A u 30 q = 0
    · have h60' := h60 z0
      refine ok_bnd.mpr (ok_mono (frameOf_ok (N := N) (v1 := v4) (v2 := v5) (g := g) (bo := ro (fr - 1) + tH T q - b - g) (bn := rn (fr - 1) + rh (fr - 1) + tM T q) (fr2 := fr + 1) (h := h) i5 ⟨hf.1, hf.2.1⟩ h95 h166' hg hb (by omega) hv4 (by omega) h40 (by omega) (Or.inl ⟨z30.mpr z0, h60', rfl, rfl, rfl⟩) hfl' hN) (fun w _ hw' => ?_))
      have hq' := hw'
      obtain ⟨q1, q2, q3, q4, q5, q6, q7⟩ := hq'
      rw [show fr + 1 - 1 = fr from by omega] at q5 q6 q7
      have F5 : FRS w5 T ND p fr ro rn rh cb pc ct (tK T q) (tC T q) := FRS_98 hF f5 (by decide) (fun j hj => by rw [e98, if_neg hj])
      have F6 := FRS_call (q := q + 1) (h := h) (bo := ro (fr - 1) + tH T q - b - g) (bn := rn (fr - 1) + rh (fr - 1) + tM T q) F5 h60' q2 (by decide) (by rw [e98, if_pos rfl]) hq1 (by rw [n5]; exact hG) (by rw [n6, n1]; omega) nx1 (by rw [n3]; exact a5) (by rw [n2', n3]; omega) n4 (by omega) n8 (by rw [n1]; omega) (by rw [n2']) h40 q4 q5 q6 q7
      refine fin w (fr + 1) _ _ _ _ _ _ _ hw' F6 ?_ ?_ ?_ ?_ ?_
      · exact if_pos (by omega)
      · exact if_pos (by omega)
      · exact if_pos (by omega)
      · rw [a6]; congr 1; exact (if_pos (by omega)).symm
      · have b1 := sR_le (T := T) (pc := fun i => if i = fr - 1 then q + 1 else pc i) (fr + 1 - 1) (fun j hj => by
          show tR T (if j = fr - 1 then q + 1 else pc j) ≤ 16000
          by_cases e : j = fr - 1
          · rw [if_pos e]; exact nx6.2
          · rw [if_neg e]; exact (hp'.1.2.2.1 _ (hF.2.2.2.1 j (by omega)).2.1).1.2.2.2.2.2.1.2)
        omega
    · have k0 := h30 z0
      refine ok_bnd.mpr (ok_mono (frameOf_ok (N := N) (v1 := v4) (v2 := v5) (g := g) (bo := ro (fr - 1)) (bn := rn (fr - 1)) (fr2 := fr) (h := h) i5 ⟨hf.1, hf.2.1⟩ h95 h166' hg hb (by omega) hv4 (by omega) h40 (by omega) (Or.inr ⟨fun z => z0 (z30.mp z), rfl, by rw [FR.A f5 (by decide)]; exact top.1, by omega, by rw [FR.A f5 (by decide)]; exact top.2.1, by omega⟩) hfl' hN) (fun w _ hw' => ?_))
      have hq' := hw'
      obtain ⟨q1, q2, q3, q4, q5, q6, q7⟩ := hq'
      have F5 : FRS w5 T ND p fr ro rn rh cb pc ct (tK T q) (tC T q) := FRS_98 hF f5 (by decide) (fun j hj => by rw [e98, if_neg hj])
      rw [k0] at F5
      have F6 := FRS_tail (h := h) F5 q2 (by decide) (fun i _ => FR.A q2 (by decide)) h40 q4 q5 q6 q7
      refine fin w fr _ _ _ _ _ _ _ hw' F6 rfl rfl ?_ ?_ ?_
      · exact if_pos rfl
      · rw [a6, k0]; rfl
      · omega
  unfold fb_M_callRun_213
  rw [I_F (k := 165), I_F (k := 164), decE r165.1 r165.2 (by omega) (by omega)]
  refine ok_br.mpr ⟨fun _ => ok_lt.mpr ?_, fun z165 => ?_⟩
  · rw [lit1q, wi_e]
    have f1 : FR [151] [] [] [] u (wi u 151 1) := FR.wi FR.rf (by decide)
    have e151 : F (wi u 151 1) 151 = 1 := by rw [F_wi (by omega) (by omega), if_pos rfl]
    generalize wi u 151 1 = w1 at *
    obtain ⟨l, hl⟩ : ∃ l : Nat, A u 24 q = l := ⟨(A u 24 q).toNat, by omega⟩
    refine ok_ck.mpr ⟨inb_at (k := 24) (n := 16000) rfl (by omega) (by omega) (by decide), ?_⟩
    rw [I_tn (x := (q : Int)) (by omega) (by omega), Int.toNat_natCast, I_A' (show A w1 24 q = l by rw [FR.A f1 (by decide)]; exact hl)]
    refine ok_ck.mpr ⟨inb_at (k := 8) (n := 4002) rfl (by omega) (by omega) (by decide), ?_⟩
    rw [I_F' (show F w1 133 = p by rw [FR.F f1 (by decide)]; exact i.2.2.1)]
    refine ok_ck.mpr ⟨inb_at (k := 115) (n := 24) rfl (by omega) (by omega) (by decide), ok_lt.mpr (ok_some.mpr ?_)⟩
    rw [I_tn (x := (p : Int)) (by omega) (by omega), Int.toNat_natCast, I_A (k := 8), wa_e]
    have f2 : FR [151] [] [115] [] u (wa w1 115 p (A w1 8 (I (l : Int)).toNatClampNeg)) := FR.wa (FR.mo f1 (by decide) (by decide) (by decide) (by decide)) (by decide)
    have f12 : FR [] [] [115] [] w1 (wa w1 115 p (A w1 8 (I (l : Int)).toNatClampNeg)) := FR.wa FR.rf (by decide)
    generalize wa w1 115 p (A w1 8 (I (l : Int)).toNatClampNeg) = w2 at *
    have i2 := MEI_fr i f2 (by decide) (by decide) (by decide) (by decide) (by decide) (by decide) (by decide) (by decide) (by decide) (by decide) (by decide) (by decide) (by decide) (by decide) (by decide) (by decide) (by decide) (by decide)
    exact ⟨PR, i.2.1, Or.inr (Or.inr (Or.inl ⟨fr, ro, rn, rh, cb, pc, ct, q, n, ow, kd, bxM, ⟨i2, FRS_fr hF f2 (by decide) (by decide) (by decide) (by decide) (by decide) (by decide) (by decide) (by decide) (by decide) (by decide), by rw [FR.A f2 (by decide)]; exact a98, a4, a5, by rw [FR.A f2 (by decide)]; exact a6⟩, by rw [FR.A f2 (by decide)]; exact h109, hG, by rw [FR.F f12 (by decide)]; exact e151⟩)), WLD_fr hw hT (OTF_fr f2 (by decide)) f2 (by decide) (by decide) (fun z _ => Or.inl (FR.A f2 (by decide))), FR.mo f2 (by decide) (by decide) (by decide) (by decide)⟩
  · have h165 : F u 165 < F u 164 := by have := of_decide_eq_false z165; omega
    refine ok_ck.mpr ⟨inb_at (k := 30) (n := 16000) rfl (by omega) (by omega) (by decide), ?_⟩
    have r30 := A_r u 30 q
    rw [I_tn (x := (q : Int)) (by omega) (by omega), Int.toNat_natCast, I_A (k := 30), lit0q, decE r30.1 r30.2 (by omega) (by omega)]
    refine ok_br.mpr ⟨fun _ => ?_, fun z30 => y285 h165 (fun z => absurd z (of_decide_eq_false z30))⟩
    rw [I_F' i.2.2.1]
    refine ok_ck.mpr ⟨inb_at (k := 95) (n := 24) rfl (by omega) (by omega) (by decide), ?_⟩
    rw [I_tn (x := (p : Int)) (by omega) (by omega), Int.toNat_natCast, I_A' hf.2.2, show (60 : Int32) = I 60 from rfl, decE (by omega) (by omega) (by omega) (by omega)]
    refine ok_br.mpr ⟨fun _ => ?_, fun z60 => y285 h165 (fun _ => by have := of_decide_eq_false z60; omega)⟩
    rw [lit1q, show (21 : Int32) = I 21 from rfl, term_e, bnd_so]
    refine ok_bnd.mpr (ok_mono (ends_ok (N := N) (wr := 0) i (Or.inl ⟨nh_mk (by omega), hp'.2.1.1 21 (by omega) (by omega)⟩) (by omega)) (fun y _ hy => ok_some.mpr ?_))
    exact RES_rsw (C := C) (CN := CN) ⟨Or.inl hy.1, Or.inr ⟨FR.mo hy.2.1 (by decide) (by decide) (by decide) (by decide), hy.1.2⟩, OTF_fr hy.2.1 (by decide), hy.2.2⟩ hw hT i.2.1
end
end
section
section
variable {Fv : Int64 → Int64 → Prop} {P P2 : Int64 → Prop} {u v w w2 x y : MS} {PR PR2 N p n n2 opM bnM bxM bx2 ND fr k tp mu CN PN SN UN FN rq q m h mm AN z j : Nat} {ow kd ow2 kd2 ro rn rh cb pc ct pM pE : Nat → Nat} {T : TY} {C : CY}
theorem FVW_fr {is ls as js : List Nat} (hf : FVW Fv u UN FN) (f : FR is ls as js u w) (ha : 54 ∉ as) : FVW Fv w UN FN := by
  refine ⟨hf.1, fun x hx b hb => hf.2.1 x hx b (by rw [FR.A f ha] at hb; exact hb), fun a b h => ?_⟩
  rcases hf.2.2 a b h with h | ⟨x, h1, h2, h3⟩
  · exact Or.inl h
  · exact Or.inr ⟨x, h1, h2, by rw [FR.A f ha]; exact h3⟩
theorem ATQ_erx (a : ATQ Fv P PR T ND p u fr ro rn rh cb pc ct q n ow kd bxM) (h109 : A u 109 p = 0) (hm : MODE u T C ND CN p (ro (fr - 1)) (rn (fr - 1)) (rh (fr - 1)) (sR T pc (fr - 1)) q bxM mu) (hg : PRG u T C pM pE ND CN PN SN UN FN) : ERX Fv P PR T C ND CN p u fr ro rn rh cb pc ct q n ow kd (ro (fr - 1) + tH T q) (rn (fr - 1) + rh (fr - 1) + tM T q) bxM mu := by
  obtain ⟨i, h, a3, a4, a5, a6⟩ := a
  have n4 := (hg.2.2.1 q a4).1.2.2.2.1
  exact ⟨i, h, a4, a5, a6, h109, by omega, Nat.le_refl _, hm⟩
theorem ATQ_fr {is ls as js : List Nat} (a : ATQ Fv P PR T ND p u fr ro rn rh cb pc ct q n ow kd bxM) (f : FR is ls as js u w) (hi : ∀ k, k ∈ [133, 118, 140, 149, 150] → k ∉ is) (ha : ∀ k, k ∈ [23, 89, 92, 94, 95, 98, 99, 100, 101, 102, 103, 104, 105, 106, 108, 109, 145, 146, 147] → k ∉ as) (hj : ∀ k, k ∈ [88, 91, 93, 107, 148] → k ∉ js) : ATQ Fv P PR T ND p w fr ro rn rh cb pc ct q n ow kd bxM := by
  obtain ⟨i, h, a3, a4, a5, a6⟩ := a
  exact ⟨MEI_fr i f (hi _ (by decide)) (hi _ (by decide)) (hi _ (by decide)) (hi _ (by decide)) (hi _ (by decide)) (ha _ (by decide)) (ha _ (by decide)) (ha _ (by decide)) (ha _ (by decide)) (ha _ (by decide)) (ha _ (by decide)) (ha _ (by decide)) (ha _ (by decide)) (hj _ (by decide)) (hj _ (by decide)) (hj _ (by decide)) (hj _ (by decide)) (hj _ (by decide)), FRS_fr h f (ha _ (by decide)) (ha _ (by decide)) (ha _ (by decide)) (ha _ (by decide)) (ha _ (by decide)) (ha _ (by decide)) (ha _ (by decide)) (ha _ (by decide)) (ha _ (by decide)) (ha _ (by decide)), by rw [FR.A f (ha _ (by decide))]; exact a3, a4, a5, by rw [FR.A f (ha _ (by decide))]; exact a6⟩
theorem isb0 : isb 0 = true := by decide
theorem isb1 : isb 1 = true := by decide
theorem i12 (a : ATQ Fv (PQ AN PR) PR T ND p u fr ro rn rh cb pc ct q n ow kd bxM) (h109 : A u 109 p = 0) (hm : MODE u T C ND CN p (ro (fr - 1)) (rn (fr - 1)) (rh (fr - 1)) (sR T pc (fr - 1)) q bxM mu) (hAN : 22 ≤ AN) (hp' : PGM Fv (PQ AN PR) PR T C pM pE ND CN PN SN UN FN u) (hfv : FVW Fv u UN FN) (hw : WLD u T ND UN FN PR p) (hE : F u 149 = F u 150 ∧ F u 151 = 0) (h23 : A u 23 q = 12) (hN : 11000000 ≤ N) : OK (fun y _ => RSW Fv AN T C ND CN UN FN p mu u y) (fm_M_callRun N u (I q) (I 12)) := by
  obtain ⟨i, hF, a98, a4, a5, a6⟩ := id a
  have x4 := MEI_p i
  have hT := PRG_26 hp'.1
  have nd := hp'.1.1.1
  have cn := hp'.1.1.2.1
  have fn := hp'.1.1.2.2.2.2.1
  have nq : q + 1 < ND := (hp'.1.2.2.1 q a4).1.2.2.2.2.2.2.2.2.2.2.2.2.1 (by omega)
  obtain ⟨⟨b, b1, b2, b3, b4, b5⟩, b6⟩ := (hp'.1.2.2.1 q a4).2.2.2.2.2.2.2.2.2.2.1 h23
  unfold fm_M_callRun fb_M_callRun_0
  refine ok_ck.mpr ⟨inb_at (k := 26) (n := 16000) rfl (by omega) (by omega) (by decide), ?_⟩
  rw [show (12 : Int32) = I 12 from rfl, decide_eq_true rfl, br_tq]
  refine ok_ck.mpr ⟨inb_at (k := 27) (n := 16000) rfl (by omega) (by omega) (by decide), ?_⟩
  have r27 := A_r u 27 q
  rw [I_tn (x := (q : Int)) (by omega) (by omega), Int.toNat_natCast, I_A (k := 27), I_A' b1, show (2000 : Int32) = I 2000 from rfl, decL r27.1 r27.2 (by omega) (by omega)]
  refine ok_br.mpr ⟨fun zl => ?_, fun zl => ?_⟩
  · have zl' := of_decide_eq_true zl
    rcases b5 with ⟨k, k1, -⟩ | ⟨g0, g1, g2, g3⟩
    · omega
    obtain ⟨f, hf⟩ : ∃ f : Nat, A u 27 q = f := ⟨(A u 27 q).toNat, by omega⟩
    rw [hf, Int.toNat_natCast] at g3
    obtain ⟨aa, r, c1, c2, c3⟩ := hp'.1.2.2.2.2.1 f (by omega)
    obtain rfl : aa = b := by omega
    have c3' := c3
    obtain ⟨c, d1, d2, d3, d4, d5, d6, d7, d8, d9, d10⟩ := c3'
    have cw := (hp'.1.2.2.2.1 c d2).2.1
    unfold fb_M_callRun_47 fb_M_callRun_63 fb_M_callRun_80
    rw [decide_eq_true (show I 12 = (12 : Int32) from rfl), br_tq]
    refine ok_ck.mpr ⟨inb_at (k := 27) (n := 16000) rfl (by omega) (by omega) (by decide), ?_⟩
    rw [show decide (I 12 = (13 : Int32)) = false from by decide, br_fq, isb0, ck_t]
    refine ok_lt.mpr ?_
    rw [br_fq, I_tn (x := (q : Int)) (by omega) (by omega), Int.toNat_natCast, I_A' hf, show (0 : Int32) = I 0 from rfl, wi_e, litm1q]
    have f1 : FR [166] [] [] [] u (wi u 166 0) := FR.wi FR.rf (by decide)
    have e166 : F (wi u 166 0) 166 = ((0 : Nat) : Int) := by rw [F_wi (by omega) (by omega), if_pos rfl]; rfl
    generalize wi u 166 0 = w at *
    obtain ⟨y1, y2, y3⟩ : tG T q = 0 ∧ F u 152 = 0 ∧ CLG u (sR T pc (fr - 1) + tR T q) 0 mu := by
      rcases hm with y | ⟨y1, c, s, many, hg, hb', mm', r, t1, t2, -⟩
      · exact y
      · omega
    have := callC (N := N) (v4 := (f : Int)) (v5 := -1) (b := aa) (g := 0) (c := c) (r := r) (xx := 0) (ff := f) (h := 0) (mu := mu) (ATQ_fr a f1 (by decide) (by decide) (by decide)) (by rw [FR.A f1 (by decide)]; exact h109) (by rw [FR.F f1 (by decide)]; exact y2) (by unfold CLG; rw [FR.F f1 (by decide), FR.F f1 (by decide)]; exact y3) (PGM_fr hp' f1 (by decide) (by decide)) (WLD_fr hw hT (OTF_fr f1 (by decide)) f1 (by decide) (by decide) (fun z _ => Or.inl (FR.A f1 (by decide)))) y1 (by rw [FR.F f1 (by decide), FR.F f1 (by decide), FR.F f1 (by decide)]; exact hE) e166 (by omega) b2 nq (by omega) b4 (by rw [FR.A f1 (by decide)]; exact b6) (by rw [← d1]; exact CLS_fr c3 f1 (by decide)) d2 (by omega) (by omega) (by omega) (fun z => by omega) (fun _ => ⟨rfl, by rw [FR.A f1 (by decide)]; exact d1⟩) (by omega) (Or.inl ⟨rfl, rfl⟩) (by omega)
    exact ok_mono this (fun y _ hy => RSW.pre (FR.mo f1 (by decide) (by decide) (by decide) (by decide)) hy)
  · have zl' := of_decide_eq_false zl
    rcases b5 with ⟨k, k1, k2, k3, k4⟩ | ⟨-, -, g2, -⟩
    rotate_left
    · omega
    rw [lit1q, I_add, show (q : Int) + 1 = ((q + 1 : Nat) : Int) from by omega]
    refine ok_bnd.mpr (ok_mono (at_node (N := N) (x := q + 1) a h109 hm (by omega) hp'.1) (fun v _ hv => ?_))
    obtain ⟨v1, v2, v3, v4⟩ := hv
    refine ok_ck.mpr ⟨inb_at (k := 27) (n := 16000) rfl (by omega) (by omega) (by decide), ?_⟩
    rw [I_A' (show A v 27 q = 2000 + (k : Int) by rw [FR.A v3 (by decide)]; exact k1), I_sub, show (2000 : Int) + (k : Int) - 2000 = (k : Int) from by omega]
    refine ok_bnd.mpr (ok_mono (preR (N := N) v1 hAN (PGM_fr hp' v3 (by decide) (by decide)) (FVW_fr hfv v3 (by decide)) (WLD_fr hw hT v4 v3 (by decide) (by decide) (fun z _ => Or.inl (FR.A v3 (by decide)))) (by rw [FR.F v3 (by decide), FR.F v3 (by decide)]; exact hE.1) k2 (fun z => by
      by_cases g0 : tG T q = 0
      · exact g0
      · have := k4 g0; omega) (by rw [← k3]; exact b3) nq (by rw [← k3]; exact b4) v2 hN) (fun y _ hy => ok_some.mpr (RSW.pre (FR.mo v3 (by decide) (by decide) (by decide) (by decide)) hy)))
set_option maxRecDepth 100000 in
theorem i13 (a : ATQ Fv (PQ AN PR) PR T ND p u fr ro rn rh cb pc ct q n ow kd bxM) (h109 : A u 109 p = 0) (hm : MODE u T C ND CN p (ro (fr - 1)) (rn (fr - 1)) (rh (fr - 1)) (sR T pc (fr - 1)) q bxM mu) (hp' : PGM Fv (PQ AN PR) PR T C pM pE ND CN PN SN UN FN u) (hfv : FVW Fv u UN FN) (hw : WLD u T ND UN FN PR p) (hE : F u 149 = F u 150 ∧ F u 151 = 0) (h23 : A u 23 q = 13) (hN : 60000 ≤ N) : OK (fun y _ => RSW Fv AN T C ND CN UN FN p mu u y) (fm_M_callRun N u (I q) (I 13)) := by
  obtain ⟨i, hF, a98, a4, a5, a6⟩ := id a
  have x4 := MEI_p i
  have hT := PRG_26 hp'.1
  have nd := hp'.1.1.1
  have cn := hp'.1.1.2.1
  have fn := hp'.1.1.2.2.2.2.1
  have un := hp'.1.1.2.2.2.1
  have nq : q + 1 < ND := (hp'.1.2.2.1 q a4).1.2.2.2.2.2.2.2.2.2.2.2.2.1 (by omega)
  obtain ⟨g0, ⟨b, b1, b2, b3, b4⟩, b6⟩ := (hp'.1.2.2.1 q a4).2.1.2.1 h23
  have hg := i.2.2.2.2.2.2.1
  have n500 : n ≤ 500 := i.2.2.2.2.2.2.2.1
  obtain ⟨y1, y2, y3⟩ : tG T q = 0 ∧ F u 152 = 0 ∧ CLG u (sR T pc (fr - 1) + tR T q) 0 mu := by
    rcases hm with y | ⟨y1, c, s, many, hg, hb', mm', r, t1, t2, -⟩
    · exact y
    · omega
  have e0 := ATQ_erx a h109 hm hp'.1
  clear hm
  unfold fm_M_callRun fb_M_callRun_0 fb_M_callRun_47 fb_M_callRun_63 fb_M_callRun_80
  refine ok_ck.mpr ⟨inb_at (k := 26) (n := 16000) rfl (by omega) (by omega) (by decide), ?_⟩
  rw [show decide (I 13 = (12 : Int32)) = false from by decide, br_fq, br_fq, show decide (I 13 = (13 : Int32)) = true from by decide, br_tq, isb1, ck_t]
  refine ok_lt.mpr ?_
  rw [br_tq, I_tn (x := (q : Int)) (by omega) (by omega), Int.toNat_natCast, I_A' b1, show (1 : Int32) = I 1 from rfl, wi_e]
  have f1 : FR [166] [] [] [] u (wi u 166 1) := FR.wi FR.rf (by decide)
  have e166 : F (wi u 166 1) 166 = ((1 : Nat) : Int) := by rw [F_wi (by omega) (by omega), if_pos rfl]; rfl
  generalize wi u 166 1 = w at *
  have aw := ATQ_fr a f1 (by decide) (by decide) (by decide)
  have iw := aw.1
  have hpw : hp w p = hp u p := by unfold hp; rw [f1.2.2.2 88 (by decide)]
  have ew := ERX_fr e0 f1 (by decide) (by decide) (by decide) iw e0.2.2.2.2.2.2.1 (Nat.le_refl _)
  have pw := PGM_fr hp' f1 (by decide) (by decide)
  have ww := WLD_fr hw hT (OTF_fr f1 (by decide)) f1 (by decide) (by decide) (fun z _ => Or.inl (FR.A f1 (by decide)))
  have g1 : GFR u w := FR.mo f1 (by decide) (by decide) (by decide) (by decide)
  obtain ⟨t1, t2⟩ := top_ok (N := N) (k := b) iw (by omega)
  have er : ∀ (aa : Int) (t : Int64), 0 ≤ aa ∧ aa < 22 → GT n ow kd (PQ AN PR) t → OK (fun y _ => RSW Fv AN T C ND CN UN FN p mu u y) (bnd (fr_M_errorOf N w (I aa) t) (fun u18 _ => some (u18, ()))) := fun aa t haa gt => ok_bnd.mpr (ok_mono (errOf_ok (N := N) ew pw gt haa hN) (fun y _ hy => ok_some.mpr (RSW.pre g1 (RES_rsw hy ww hT i.2.1))))
  rw [show (I ((b : Nat) : Int)) = I (b : Int) from rfl, t1, bnd_so]
  obtain ⟨t, ht⟩ : ∃ t, t = w.2.2.2 91 (46000 * p + (ro (fr - 1) + tH T q - 1 - b)) := ⟨_, rfl⟩
  rw [← ht] at t2 ⊢
  have rt := so_r t
  rw [sortOf_e, bnd_so, show (3 : Int32) = I 3 from rfl, decE rt.1 rt.2 (by omega) (by omega)]
  refine ok_br.mpr ⟨fun z3 => ?_, fun _ => er 17 t (by omega) t2⟩
  have so3 := of_decide_eq_true z3
  have hh : isH t := Or.inl so3
  obtain ⟨bk, parts⟩ := HP_bk iw.2.2.2.2.2.2.1 hh t2
  have bl2 : 2 ≤ blk (hp w p) t := blk_2 so3
  have bn := bk.2.2.2.1
  have vt : va t = (vn t : Int) := by have := bk.1; unfold vn; omega
  obtain ⟨bv, bF⟩ := bk.2.2.1 so3
  have vh : va (hp w p (vn t + 1)) = (vn (hp w p (vn t + 1)) : Int) := by unfold vn at *; omega
  rw [valueOf_e, bnd_so, I_F' iw.2.2.1, vt, cell_e (by omega) (by omega), bnd_so]
  have y193 : ∀ (v4 v5 : Int) (c r xx ff hd aa : Nat), A u 41 c = ((aa : Nat) : Int) ∨ True → aa ≤ 6 → CLS C u CN aa aa 0 0 hd 0 0 r ((c : Nat) : Int) → c < CN → r < 16000 → -1 ≤ v4 ∧ v4 < 1000 → -1 ≤ v5 ∧ v5 < 1400 → (v4 = -1 → v5 = xx ∧ A u 53 xx = ((c : Nat) : Int)) → (v4 ≠ -1 → v4 = ff ∧ A u 50 ff = ((c : Nat) : Int)) → hd ≤ 40 → ((v5 = -1 ∧ hd = 0) ∨ (v5 ≠ -1 ∧ vn (hp w p (vn t + 1)) = hd)) → OK (fun y _ => RSW Fv AN T C ND CN UN FN p mu u y) (fb_M_callRun_193 N () w (I q) (I b) (I v4) (I v5) (I aa)) := fun v4 v5 c r xx ff hd aa _ h6 hc hcn hr hv4 hv5 t5 t4 h40 hfl => by
    unfold fb_M_callRun_193
    rw [decE (by omega) (by omega) (by omega) (by omega)]
    refine ok_br.mpr ⟨fun za => ?_, fun _ => ?_⟩
    · obtain rfl : aa = b := by have := of_decide_eq_true za; omega
      have := callC (N := N) (v4 := v4) (v5 := v5) (b := aa) (g := 1) (c := c) (r := r) (xx := xx) (ff := ff) (h := hd) (mu := mu) aw (by rw [FR.A f1 (by decide)]; exact h109) (by rw [FR.F f1 (by decide)]; exact y2) (by unfold CLG; rw [FR.F f1 (by decide), FR.F f1 (by decide)]; exact y3) pw ww y1 (by rw [FR.F f1 (by decide), FR.F f1 (by decide), FR.F f1 (by decide)]; exact hE) e166 (by omega) b2 nq (by omega) (by rw [show tH T q + 1 - (aa + 1) = tH T q - aa from by omega]; exact b4) (by rw [FR.A f1 (by decide)]; exact b6) (CLS_fr hc f1 (by decide)) hcn hr hv4 hv5 (fun z => by rw [FR.A f1 (by decide)]; exact t5 z) (fun z => by rw [FR.A f1 (by decide)]; exact t4 z) h40 (by
        rw [← ht]
        rcases hfl with q | ⟨q1, q2⟩
        · exact Or.inl q
        · exact Or.inr ⟨q1, rfl, so3, q2⟩) hN
      exact ok_mono this (fun y _ hy => RSW.pre g1 hy)
    · rw [show (0 : Int32) = I 0 from rfl, term_e, bnd_so]
      exact er 18 _ (by omega) (Or.inl ⟨nh_mk (by omega), hp'.2.1.2.2.2.1 _ (by omega) (by omega)⟩)
  have fvw := hfv.2.2 _ _ bF
  rcases fvw with ⟨f, h1, h2, h3⟩ | ⟨xx, h1, h2, h3⟩
  · rw [h2]
    obtain ⟨aa, r, c1, c2, c3⟩ := hp'.1.2.2.2.2.1 f h1
    have c3' := c3
    obtain ⟨c, d1, d2, d3, d4, d5, d6, d7, d8, d9, d10⟩ := c3'
    have cw := (hp'.1.2.2.2.1 c d2).2.1
    have n1 : ¬ (0 : Int) ≤ -1 - (f : Int) := by omega
    have n3 : vn (hp w p (vn t + 1)) = 0 := by omega
    have f1000 : f < 1000 := by omega
    have in48 : inb (I (f : Int)) (ln 48) = true := inb_at (k := 48) (n := 1000) rfl (by omega) (by omega) (by decide)
    have tf : (I (f : Int)).toNatClampNeg = f := by rw [I_tn (by omega) (by omega), Int.toNat_natCast]
    have nf : decide (I (f : Int) = -1) = false := by rw [litm1q, decE (by omega) (by omega) (by omega) (by omega)]; exact decide_eq_false (by omega)
    have y := y193 (f : Int) (-1) c r 0 f 0 aa (Or.inr trivial) c2 (by rw [← d1]; exact c3) d2 (by omega) (by omega) (by omega) (fun z => by omega) (fun _ => ⟨rfl, d1⟩) (by omega) (Or.inl ⟨rfl, rfl⟩)
    obtain ⟨w1, w2⟩ := w64_n (x := (f : Int)) (by omega) (by omega)
    have l0 : decide (0 ≤ lg_cmp (-1 - (I (f : Int)).toInt64) 0) = false := decide_eq_false (fun z => n1 (w1 ▸ lg_ge0.mp z))
    unfold fb_M_callRun_147 fb_M_callRun_163
    rw [l0, br_fq, br_fq, w2, nf, br_fq, in48, ck_t, tf, I_A' (show A w 48 f = ((aa : Nat) : Int) by rw [FR.A f1 (by decide)]; exact c1)]
    exact y
  · rw [h2]
    obtain ⟨aa, hd, r, v1, v2, v3, v4, v5, c3⟩ := hp'.1.2.2.2.2.2 xx h1
    have c3' := c3
    obtain ⟨c, d1, d2, d3, d4, d5, d6, d7, d8, d9, d10⟩ := c3'
    have cw := (hp'.1.2.2.2.1 c d2).2.1
    have n1 : (0 : Int) ≤ (xx : Int) := by omega
    have n3 : vn (hp w p (vn t + 1)) = hd := by omega
    have in53 : inb (I (xx : Int)) (ln 53) = true := inb_at (k := 53) (n := 1400) rfl (by omega) (by omega) (by decide)
    have in41 : inb (I (c : Int)) (ln 41) = true := inb_at (k := 41) (n := 1400) rfl (by omega) (by omega) (by decide)
    have tx : (I (xx : Int)).toNatClampNeg = xx := by rw [I_tn (by omega) (by omega), Int.toNat_natCast]
    have tc : (I (c : Int)).toNatClampNeg = c := by rw [I_tn (by omega) (by omega), Int.toNat_natCast]
    have y := y193 (-1) (xx : Int) c r xx 0 hd aa (Or.inr trivial) v5 (by rw [← d1]; exact c3) d2 (by omega) (by omega) (by omega) (fun _ => ⟨rfl, d1⟩) (fun z => absurd rfl z) v2 (Or.inr ⟨by omega, n3⟩)
    have w1 := w64_i (x := (xx : Int)) (by omega) (by omega)
    have l0 : decide (0 ≤ lg_cmp (I (xx : Int)).toInt64 0) = true := decide_eq_true (lg_ge0.mpr (by rw [w1]; exact n1))
    unfold fb_M_callRun_147 fb_M_callRun_163
    rw [l0, br_tq, br_tq, Int32.toInt32_toInt64, show (-(I 1) : Int32) = I (-1) from rfl, show decide (I (-1) = (-1 : Int32)) = true from rfl, br_tq, in53, ck_t, tx, I_A' (show A w 53 xx = ((c : Nat) : Int) by rw [FR.A f1 (by decide)]; exact d1), in41, ck_t, tc, I_A' (show A w 41 c = ((aa : Nat) : Int) by rw [FR.A f1 (by decide)]; exact d3)]
    exact y
end
end
section
section
variable {Fv : Int64 → Int64 → Prop} {P P2 : Int64 → Prop} {u v w w2 x y : MS} {PR PR2 N p n n2 opM bnM bxM bx2 ND fr k tp mu CN PN SN UN FN rq q m h mm AN z j : Nat} {ow kd ow2 kd2 ro rn rh cb pc ct pM pE : Nat → Nat} {T : TY} {C : CY}
set_option maxRecDepth 100000 in
theorem one_b {kk : Int} (ev : ERX Fv (PQ AN PR) PR T C ND CN p v fr ro rn rh cb pc ct q n ow kd (ro (fr - 1) + tH T q) (rn (fr - 1) + rh (fr - 1) + tM T q) bxM mu) (hp' : PGM Fv (PQ AN PR) PR T C pM pE ND CN PN SN UN FN v) (hA : F v 14 = ((AN : Nat) : Int)) (hA2 : AN ≤ 3000) (hfv : FVW Fv v UN FN) (hw : WLD v T ND UN FN PR p) (h98 : A v 98 (60 * p + (fr - 1)) = ((q + 1 : Nat) : Int)) (hkk : A v 23 q = kk) (hk1 : 1 ≤ kk ∧ kk ≤ 31) (hk2 : kk ≠ 24 ∧ kk ≠ 25 ∧ kk ≠ 12 ∧ kk ≠ 13 ∧ kk ≠ 27 ∧ kk ≠ 21 ∧ kk ≠ 31 ∧ kk ≠ 29) (nq : q + 1 < ND) (hN : 11000000 ≤ N) : OK (fun y _ => RSW Fv AN T C ND CN UN FN p mu v y) (br (decide (I kk = 1)) (ck (inb (I q) (ln 25)) (ck (inb (I q) (ln 26)) (bnd (fm_M_term N v (v.2.2.1 25 (I q).toNatClampNeg) (v.2.2.1 26 (I q).toNatClampNeg)) (fun u27 r27 => bnd (fm_M_put N u27 r27) (fun u28 _ => fb_M_one_468 N () u28))))) (br (decide (I kk = 3)) (ck (inb (I q) (ln 25)) (bnd (fm_M_nameAt N v (v.2.2.1 25 (I q).toNatClampNeg)) (fun u25 r25 => bnd (fm_M_put N u25 r25) (fun u26 _ => fb_M_one_468 N () u26)))) (br (decide (I kk = 2)) (ck (inb (I q) (ln 25)) (bnd (fm_M_stringRun N v (v.2.2.1 25 (I q).toNatClampNeg)) (fun u24 _ => fb_M_one_468 N () u24))) (br (decide (I kk = 4)) (ck (inb (I q) (ln 25)) (bnd (fm_M_tupleRun N v (v.2.2.1 25 (I q).toNatClampNeg)) (fun u23 _ => fb_M_one_468 N () u23))) (br (decide (I kk = 5)) (ck (inb (I q) (ln 25)) (ck (inb (I q) (ln 26)) (bnd (fm_M_listRun N v (v.2.2.1 25 (I q).toNatClampNeg) (v.2.2.1 26 (I q).toNatClampNeg)) (fun u22 _ => fb_M_one_468 N () u22)))) (br (decide (I kk = 6)) (ck (inb (I q) (ln 25)) (bnd (fm_M_twoRun N v (v.2.2.1 25 (I q).toNatClampNeg)) (fun u21 _ => fb_M_one_468 N () u21))) (br (decide (I kk = 17)) (bnd (fm_M_take N v) (fun u20 r20 => fb_M_one_468 N () u20)) (br (decide (I kk = 18)) (ck (inb (I q) (ln 25)) (bnd (fm_M_namesTo N v (v.2.2.1 25 (I q).toNatClampNeg)) (fun u19 _ => fb_M_one_468 N () u19))) (br (decide (I kk = 26)) (ck (inb (I q) (ln 25)) (br (decide ((v.2.2.1 25 (I q).toNatClampNeg) = (-2))) (ck (inb (I q) (ln 26)) (ck (inb (v.2.2.1 26 (I q).toNatClampNeg) (ln 26)) (fb_M_one_339 N () v ((v.2.2.1 26 (v.2.2.1 26 (I q).toNatClampNeg).toNatClampNeg))))) (ck (inb (I q) (ln 25)) (fb_M_one_339 N () v ((v.2.2.1 25 (I q).toNatClampNeg)))))) (br (decide (I kk = 16)) (ck (inb (v.1 133) (ln 94)) (lt (v.2.2.1 94 (v.1 133).toNatClampNeg) (fun y13 => ck (inb (I q) (ln 25)) (bnd (fm_M_top N v 0) (fun u14 r14 => bnd (fm_M_fits N u14 (v.2.2.1 25 (I q).toNatClampNeg) r14) (fun u15 r15 => br (decide (r15 = 0)) (ck (inb (u15.1 133) (ln 94)) (lt (upA u15 94 (upd (u15.2.2.1 94) (u15.1 133).toNatClampNeg y13)) (fun w16 => bnd (fm_M_top N w16 0) (fun u17 r17 => bnd (fr_M_errorOf N u17 13 r17) (fun u18 _ => fb_M_one_400 N () u18))))) (fb_M_one_400 N () u15))))))) (br (decide (I kk = 14)) (fb_M_one_415 N () v (I q) (I kk)) (br (decide (I kk = 15)) (fb_M_one_415 N () v (I q) (I kk)) (br (decide (I kk = 22)) (bnd (fm_M_take N v) (fun u10 r10 => bnd (fm_M_truth N u10 1) (fun u11 r11 => br (decide ((lg_cmp r10 r11) = 0)) (fb_M_one_468 N () u11) (bnd (fr_M_guardFails N u11) (fun u12 _ => fb_M_one_468 N () u12))))) (br (decide (I kk = 23)) (bnd (fm_M_chosen N v) (fun u9 _ => fb_M_one_468 N () u9)) (bnd (fm_M_otherRun N v (I q) (I kk)) (fun u8 _ => fb_M_one_468 N () u8)))))))))))))))) := by
  have i := ev.1
  have a4 := ev.2.2.1
  have nd := hp'.1.1.1
  have hT := PRG_26 hp'.1
  have sn := hp'.1.2.1.1
  obtain ⟨-, wa', wb⟩ := hp'.1.2.2.1 q a4
  have fin : ∀ y, RES Fv (PQ AN PR) PR T C ND CN p mu v y → RSW Fv AN T C ND CN UN FN p mu v y := fun y hy => RES_rsw hy hw hT i.2.1
  have inq : inb (I (q : Int)) (ln 25) = true := inb_at (k := 25) (n := 16000) rfl (by omega) (by omega) (by decide)
  have inq6 : inb (I (q : Int)) (ln 26) = true := inb_at (k := 26) (n := 16000) rfl (by omega) (by omega) (by decide)
  have tq : (I (q : Int)).toNatClampNeg = q := by rw [I_tn (by omega) (by omega), Int.toNat_natCast]
  have dk : ∀ c : Int, 0 ≤ c → c < 100 → decide (I kk = I c) = decide (kk = c) := fun c h1 h2 => decE (by omega) (by omega) (by omega) (by omega)
  have at1 : ∀ a : Int, 0 ≤ a → a < F v 14 → PQ AN PR (mk 1 a) := fun a h1 h2 => PQ_atom h1 (by omega) hA2
  refine ok_br.mpr ⟨fun z => ?_, fun z1 => ok_br.mpr ⟨fun z => ?_, fun z3 => ok_br.mpr ⟨fun z => ?_, fun z2 => ok_br.mpr ⟨fun z => ?_, fun z4 => ok_br.mpr ⟨fun z => ?_, fun z5 => ok_br.mpr ⟨fun z => ?_, fun z6 => ok_br.mpr ⟨fun z => ?_, fun z17 => ok_br.mpr ⟨fun z => ?_, fun z18 => ok_br.mpr ⟨fun z => ?_, fun z26 => ok_br.mpr ⟨fun z => ?_, fun z16 => ok_br.mpr ⟨fun z => ?_, fun z14 => ok_br.mpr ⟨fun z => ?_, fun z15 => ok_br.mpr ⟨fun z => ?_, fun z22 => ok_br.mpr ⟨fun z => ?_, fun z23 => ?_⟩⟩⟩⟩⟩⟩⟩⟩⟩⟩⟩⟩⟩⟩
  · have e := of_decide_eq_true ((dk 1 (by omega) (by omega)).symm.trans z)
    obtain ⟨w1, w2⟩ := wb.1 (by omega)
    exact ok_mono (i1 (N := N) ev hp' at1 nq w2 h98 rfl rfl (by omega)) (fun y _ hy => fin y hy)
  · have e := of_decide_eq_true ((dk 3 (by omega) (by omega)).symm.trans z)
    obtain ⟨w1, w2⟩ := wb.2.2.1 (by omega)
    exact ok_mono (i3 (N := N) ev hp' nq w2 h98 rfl w1) (fun y _ hy => fin y hy)
  · have e := of_decide_eq_true ((dk 2 (by omega) (by omega)).symm.trans z)
    obtain ⟨w1, w2, w3⟩ := wb.2.1 (by omega)
    obtain ⟨s, hs⟩ : ∃ s : Nat, A v 25 q = s := ⟨(A v 25 q).toNat, by omega⟩
    rw [inq, ck_t, tq, I_A' hs]
    exact ok_bnd.mpr (ok_mono (i2 (N := N) ev hp' (by omega) nq w3 h98 (by omega)) (fun y _ hy => ok_some.mpr (fin y hy)))
  · have e := of_decide_eq_true ((dk 4 (by omega) (by omega)).symm.trans z)
    obtain ⟨a, w1, w2, w3, w4⟩ := wb.2.2.2.1 (by omega)
    rw [inq, ck_t, tq, I_A' w1]
    exact ok_bnd.mpr (ok_mono (i4 (N := N) ev hp' w3 w2 nq w4 h98 (by omega)) (fun y _ hy => ok_some.mpr (fin y hy)))
  · have e := of_decide_eq_true ((dk 5 (by omega) (by omega)).symm.trans z)
    obtain ⟨a, b, w1, w2, w3, w4, w5, w6⟩ := wb.2.2.2.2.1 (by omega)
    rw [inq, ck_t, inq6, ck_t, tq, I_A' w1, I_A' w2]
    exact ok_bnd.mpr (ok_mono (i5 (N := N) ev hp' w5 w3 w4 nq w6 h98 (by omega)) (fun y _ hy => ok_some.mpr (fin y hy)))
  · have e := of_decide_eq_true ((dk 6 (by omega) (by omega)).symm.trans z)
    obtain ⟨w1, w2, w3⟩ := wb.2.2.2.2.2.1 (by omega)
    have r25 := A_r v 25 q
    rw [inq, ck_t, tq, I_A (k := 25)]
    exact ok_bnd.mpr (ok_mono (i6 (N := N) ev hp' w1 nq w2 h98 w3 r25.2 hN) (fun y _ hy => ok_some.mpr (fin y hy)))
  · have e := of_decide_eq_true ((dk 17 (by omega) (by omega)).symm.trans z)
    obtain ⟨-, w1, w2⟩ := wa'.2.2.2.2.2.1 (by omega)
    exact ok_mono (i17 (N := N) ev w1 nq w2 h98) (fun y _ hy => fin y hy)
  · have e := of_decide_eq_true ((dk 18 (by omega) (by omega)).symm.trans z)
    obtain ⟨-, a, w1, w2, w3, w4⟩ := wa'.2.2.2.2.2.2.1 (by omega)
    exact ok_mono (i18 (N := N) ev nd nq w1 w3 w4 h98) (fun y _ hy => fin y hy)
  · have e := of_decide_eq_true ((dk 26 (by omega) (by omega)).symm.trans z)
    obtain ⟨-, w1⟩ := wa'.2.2.2.2.2.2.2.2.2.2.2.2.2.2.2 (by omega)
    unfold fb_M_one_339 fb_M_one_468
    rw [inq, ck_t, ck_t, inq6, ck_t, tq]
    have r25 := A_r v 25 q
    rcases w1 with ⟨a, a1, a2, a3⟩ | ⟨a1, r, r1, r2, b, b1, b2, b3⟩
    · rw [I_A' a1]
      refine ok_br.mpr ⟨fun y => ?_, fun _ => ok_bnd.mpr (ok_mono (gotoR (N := N) ev a2 nd a3 rfl rfl) (fun y _ hy => ok_some.mpr (fin y hy)))⟩
      rw [show (-2 : Int32) = I (-2) from rfl, decE (by omega) (by omega) (by omega) (by omega)] at y
      have := of_decide_eq_true y; omega
    · rw [I_A' a1]
      refine ok_br.mpr ⟨fun _ => ?_, fun y => absurd rfl (of_decide_eq_false y)⟩
      rw [I_A' r1]
      refine ok_ck.mpr ⟨inb_at (k := 26) (n := 16000) rfl (by omega) (by omega) (by decide), ?_⟩
      rw [I_tn (x := (r : Int)) (by omega) (by omega), Int.toNat_natCast, I_A' b1]
      exact ok_bnd.mpr (ok_mono (gotoR (N := N) ev b2 nd b3 rfl rfl) (fun y _ hy => ok_some.mpr (fin y hy)))
  · have e := of_decide_eq_true ((dk 16 (by omega) (by omega)).symm.trans z)
    obtain ⟨-, w1, m2, w2, w3⟩ := wa'.2.2.2.2.1 (by omega)
    exact ok_mono (i16 (N := N) ev hp' w1 nq w2 w3 h98 (by omega)) (fun y _ hy => fin y hy)
  · have e := of_decide_eq_true ((dk 14 (by omega) (by omega)).symm.trans z)
    obtain ⟨-, ⟨x, w1, w2, w3⟩, w4⟩ := wa'.2.2.1 (by omega)
    obtain ⟨aa, hd, r, q1, q2, q3, q4, q5, -⟩ := hp'.1.2.2.2.2.2 x w2
    obtain ⟨b0, hb0⟩ : ∃ b0 : Nat, A v 55 x = b0 := ⟨(A v 55 x).toNat, by omega⟩
    unfold fb_M_one_415
    rw [e]
    exact ok_bnd.mpr (ok_mono (i14 (N := N) (x := x) (h := hd) (b0 := b0) ev hp' hfv nq w4 h98 w1 w2 q1 q2 hb0 (by omega) (fun j hj => by
      have := w3 j (by omega)
      rw [hb0, Int.toNat_natCast] at this
      exact this) (by omega)) (fun y _ hy => ok_some.mpr (fin y hy)))
  · have e := of_decide_eq_true ((dk 15 (by omega) (by omega)).symm.trans z)
    obtain ⟨-, w1, w2, w3⟩ := wa'.2.2.2.1 (by omega)
    unfold fb_M_one_415
    rw [e]
    exact ok_bnd.mpr (ok_mono (i15 (N := N) ev hp' hfv nq w3 h98 ⟨w1, w2⟩ (by omega)) (fun y _ hy => ok_some.mpr (fin y hy)))
  · have e := of_decide_eq_true ((dk 22 (by omega) (by omega)).symm.trans z)
    obtain ⟨w1, w2, w3⟩ := wb.2.2.2.2.2.2.2.2.2.1 (by omega)
    exact ok_mono (i22 (N := N) ev hp' w1 w2 nq w3 h98 (by omega)) (fun y _ hy => fin y hy)
  · have e := of_decide_eq_true ((dk 23 (by omega) (by omega)).symm.trans z)
    obtain ⟨w1, w2⟩ := wb.2.2.2.2.2.2.2.2.2.2 (by omega)
    exact ok_mono (i23 (N := N) ev hp' w1 w2 (by omega)) (fun y _ hy => fin y hy)
  · have n1 := of_decide_eq_false ((dk 1 (by omega) (by omega)).symm.trans z1)
    have n2 := of_decide_eq_false ((dk 2 (by omega) (by omega)).symm.trans z2)
    have n3 := of_decide_eq_false ((dk 3 (by omega) (by omega)).symm.trans z3)
    have n4 := of_decide_eq_false ((dk 4 (by omega) (by omega)).symm.trans z4)
    have n5 := of_decide_eq_false ((dk 5 (by omega) (by omega)).symm.trans z5)
    have n6 := of_decide_eq_false ((dk 6 (by omega) (by omega)).symm.trans z6)
    have n14 := of_decide_eq_false ((dk 14 (by omega) (by omega)).symm.trans z14)
    have n15 := of_decide_eq_false ((dk 15 (by omega) (by omega)).symm.trans z15)
    have n16 := of_decide_eq_false ((dk 16 (by omega) (by omega)).symm.trans z16)
    have n17 := of_decide_eq_false ((dk 17 (by omega) (by omega)).symm.trans z17)
    have n18 := of_decide_eq_false ((dk 18 (by omega) (by omega)).symm.trans z18)
    have n22 := of_decide_eq_false ((dk 22 (by omega) (by omega)).symm.trans z22)
    have n23 := of_decide_eq_false ((dk 23 (by omega) (by omega)).symm.trans z23)
    have n26 := of_decide_eq_false ((dk 26 (by omega) (by omega)).symm.trans z26)
    clear z1 z2 z3 z4 z5 z6 z14 z15 z16 z17 z18 z22 z23 z26
    unfold fb_M_one_468
    refine ok_bnd.mpr (ok_mono (Q := fun y _ => RSW Fv AN T C ND CN UN FN p mu v y) ?_ (fun y _ hy => ok_some.mpr hy))
    unfold fm_M_otherRun fb_M_otherRun_0
    refine ok_br.mpr ⟨fun z => ?_, fun z9 => ok_br.mpr ⟨fun z => ?_, fun z10 => ok_br.mpr ⟨fun z => ?_, fun z7 => ok_br.mpr ⟨fun z => ?_, fun z8 => ok_br.mpr ⟨fun z => ?_, fun z11 => ok_br.mpr ⟨fun z => ?_, fun z19 => ok_br.mpr ⟨fun z => ?_, fun z20 => ok_br.mpr ⟨fun z => ?_, fun z28 => ?_⟩⟩⟩⟩⟩⟩⟩⟩
    · have e := of_decide_eq_true ((dk 9 (by omega) (by omega)).symm.trans z)
      obtain ⟨w1, w2, a, w3, w4, w5⟩ := wb.2.2.2.2.2.2.2.1 (by omega)
      exact ok_mono (i9 (N := N) ev hp' w1 nq w2 h98 w3 w4 w5 (by omega)) (fun y _ hy => fin y hy)
    · have e := of_decide_eq_true ((dk 10 (by omega) (by omega)).symm.trans z)
      obtain ⟨w1, w2, a, w3, w4, w5⟩ := wb.2.2.2.2.2.2.2.1 (by omega)
      exact ok_mono (i9 (N := N) ev hp' w1 nq w2 h98 w3 w4 w5 (by omega)) (fun y _ hy => fin y hy)
    · have e := of_decide_eq_true ((dk 7 (by omega) (by omega)).symm.trans z)
      obtain ⟨w1, w2⟩ := wb.2.2.2.2.2.2.1 (by omega)
      exact ok_mono (i7 (N := N) ev hp' w1 nq w2 h98 (by omega)) (fun y _ hy => fin y hy)
    · have e := of_decide_eq_true ((dk 8 (by omega) (by omega)).symm.trans z)
      obtain ⟨w1, w2⟩ := wb.2.2.2.2.2.2.1 (by omega)
      exact ok_mono (i8 (N := N) ev hp' w1 nq w2 h98 (by omega)) (fun y _ hy => fin y hy)
    · have e := of_decide_eq_true ((dk 11 (by omega) (by omega)).symm.trans z)
      obtain ⟨w1, w2, w3⟩ := wa'.1 (by omega)
      unfold fb_M_otherRun_328
      exact ok_bnd.mpr (ok_mono (i11 (N := N) ev hp' hw w1 w2 nq w3 h98 (by omega)) (fun y _ hy => ok_some.mpr hy))
    · have e := of_decide_eq_true ((dk 19 (by omega) (by omega)).symm.trans z)
      exact ok_mono (i19 (N := N) ev hp' (by omega) h98) (fun y _ hy => fin y hy)
    · have e := of_decide_eq_true ((dk 20 (by omega) (by omega)).symm.trans z)
      obtain ⟨w1, w2, w3, w4, w5, w6, w7, w8, w9, w10, w11⟩ := wa'.2.2.2.2.2.2.2.2.1 (by omega)
      exact ok_mono (i20 (N := N) ev w1 w2 (hT q a4) nq w3 w4 w5 w7 w6 w10 w11 h98) (fun y _ hy => fin y hy)
    · have e := of_decide_eq_true ((dk 28 (by omega) (by omega)).symm.trans z)
      obtain ⟨w1, w2, c, w3, w4, w5, a, w6, w7, -, -, w8⟩ := wa'.2.2.2.2.2.2.2.2.2.2.2.2.1 (by omega)
      unfold fb_M_otherRun_328
      exact ok_bnd.mpr (ok_mono (i28 (N := N) ev hp' w1 w2 w3 w4 w5 w6 w7 w8 (by omega)) (fun y _ hy => ok_some.mpr (fin y hy)))
    · have n7 := of_decide_eq_false ((dk 7 (by omega) (by omega)).symm.trans z7)
      have n8 := of_decide_eq_false ((dk 8 (by omega) (by omega)).symm.trans z8)
      have n9 := of_decide_eq_false ((dk 9 (by omega) (by omega)).symm.trans z9)
      have n10 := of_decide_eq_false ((dk 10 (by omega) (by omega)).symm.trans z10)
      have n11 := of_decide_eq_false ((dk 11 (by omega) (by omega)).symm.trans z11)
      have n19 := of_decide_eq_false ((dk 19 (by omega) (by omega)).symm.trans z19)
      have n20 := of_decide_eq_false ((dk 20 (by omega) (by omega)).symm.trans z20)
      have n28 := of_decide_eq_false ((dk 28 (by omega) (by omega)).symm.trans z28)
      obtain ⟨w1, w2⟩ := wa'.2.2.2.2.2.2.2.2.2.2.2.2.2.2.1 (by omega)
      unfold fb_M_otherRun_328
      exact ok_some.mpr (fin v (nxtR ev nq w2 (FR.rf : FR [] [] [] [] v v) (by decide) (by decide) (by decide) h98 i FR.rf (OTF_fr (FR.rf : FR [] [] [] [] v v) (by decide))))
end
end
