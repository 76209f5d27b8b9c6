section
variable {Fv : Int64 → Int64 → Prop} {P P2 : Int64 → Prop} {u v w w2 x y : MS} {PR PR2 N p n n2 opM bnM bxM bx2 ND fr k tp mu CN PN SN UN FN rq q m h mm AN : Nat} {ow kd ow2 kd2 ro rn rh cb pc ct pM pE : Nat → Nat} {T : TY} {C : CY}
theorem DW_24 (d : DW Fv P PR u) (hE : F u 149 = F u 150) (f : FR [] [] [89, 142] [88, 141] u w) (h89 : ∀ q, q ≠ 24 → A w 89 q = A u 89 q) (h88 : ∀ i, i < 12000 → w.2.2.2 88 i = u.2.2.2 88 i) (g : ∃ n ow kd, A w 89 24 = ((n : Nat) : Int) ∧ n ≤ 500 ∧ HP (hp w 24) n ow kd Fv P) : DW Fv P PR w := by
  obtain ⟨⟨d1, d1'⟩, d2, -, d4, ⟨eF, eM, e1, e2, e3, e4, e5⟩, d6⟩ := d
  refine ⟨⟨by rw [FR.F f (by decide)]; exact d1, d1'⟩, fun z hz => ?_, g, by rw [FR.F f (by decide)]; exact d4, ⟨eF, eM, by rw [FR.F f (by decide)]; exact e1, by rw [FR.F f (by decide)]; exact e2, e3, by rw [cE_eq PR (fun p _ => FR.A f (by decide))]; exact e4, fun i h1 h2 => by omega⟩, fun z hz => by rw [FR.A f (by decide)]; exact d6 z hz⟩
  obtain ⟨n, ow, kd, o2, b2, bx, a, x1, x2, x3, x4, x5, x6, x7, x8, x9, x10, x11⟩ := d2 z hz
  exact ⟨n, ow, kd, o2, b2, bx, by rw [h89 z (by omega)]; exact a, rfl, HP_own x2 (Nat.le_refl _) (fun i hi _ => by unfold hp; exact h88 _ (by omega)) (fun _ _ _ => rfl) (fun _ _ _ => rfl) (fun i hi e => ⟨hi, e⟩), x3, x4, by rw [FR.A f (by decide)]; exact x5, by rw [FR.A f (by decide)]; exact x6, by rw [FR.A f (by decide)]; exact x7, fun i hi => by rw [f.2.2.2 91 (by decide)]; exact x8 i hi, fun i hi => by rw [f.2.2.2 93 (by decide)]; exact x9 i hi, fun i hi => by rw [f.2.2.2 107 (by decide)]; exact x10 i hi, fun e => by rw [FR.F f (by decide), d4] at e; omega⟩
theorem copy24 {t : Int64} {f s : Nat} (i : MEI Fv P PR u p n ow kd opM bnM bxM) (hE : F u 149 = F u 150) (z : SZ (hp u p) n ow kd Fv P f t s) (hs : s ≤ 500) (hN : 3000 ≤ N) : OK (fun w r => DW Fv P PR w ∧ FR [] [] [89, 142] [88, 141] u w ∧ ((¬ isH r ∧ P r) ∨ (isH r ∧ GTP Fv P w 24 r))) (fm_M_copy N (wa u 89 24 0) (I p) t (I 24)) := by
  have x4 := MEI_p i
  have hg := i.2.2.2.2.2.2.1
  have n500 : n ≤ 500 := i.2.2.2.2.2.2.2.1
  have f1 : FR [] [] [89, 142] [88, 141] u (wa u 89 24 0) := FR.wa FR.rf (by decide)
  have a89 : ∀ q, A (wa u 89 24 0) 89 q = if q = 24 then 0 else A u 89 q := fun q => A_eq (by omega) (by omega)
  have hp1 : hp (wa u 89 24 0) p = hp u p := rfl
  have j88 : (wa u 89 24 0).2.2.2 88 = u.2.2.2 88 := rfl
  generalize wa u 89 24 0 = v at *
  refine ok_mono (copy_ok (N := N) (fr := p) (to := 24) (n0 := 0) (s := s) (by omega) (by omega) n500 (by omega) (fun e => by omega) (by rw [hp1]; exact hg) (by rw [hp1]; exact z) (by rw [a89, if_pos rfl]; rfl) hN) (fun w2 r hc => ?_)
  obtain ⟨c1, c2, c3, cc, st, src, oo, c4, c5⟩ := hc
  rw [hp1] at c4
  obtain ⟨ow2, kd2, g1, g2, g3, g4, g5⟩ := CPI_end (hD := hp v 24) hg (HP_none (Fv := Fv) (P := P) (h := hp v 24)) c4 (fun z hz => absurd hz (Nat.not_lt_zero z))
  have fu : FR [] [] [89, 142] [88, 141] u w2 := FR.tr f1 c1
  have sz := g4 f r t s c5 z
  have d2 : DW Fv P PR w2 := DW_24 i.1 hE fu (fun q hq => by rw [c2, if_neg hq, a89, if_neg hq]) (fun i hi => by rw [c3 i (by omega), j88]) ⟨0 + s, ow2, kd2, by rw [c2, if_pos rfl], by omega, g1⟩
  refine ⟨d2, fu, ?_⟩
  have gt := SZ_gt sz
  by_cases e : isH r
  · exact Or.inr ⟨e, 0 + s, ow2, kd2, by rw [c2, if_pos rfl], by omega, g1, gt⟩
  · rcases gt with gt | gt
    · exact Or.inl gt
    · exact absurd gt.1 e
theorem exit_ok {z s f : Nat} {t : Int64} (i : MEI Fv P PR u p n ow kd opM bnM bxM) (hPB : PB P PR) (hE : F u 149 = F u 150) (hz : z < PR) (sz : SZ (hp u p) n ow kd Fv P f t s) (hs : s ≤ 500) (hN : 60000 ≤ N) : OK (fun w _ => DW Fv P PR w ∧ EVF u w) (fm_M_exitRun N u (I z) t) := by
  have x4 := MEI_p i
  have pr := i.1.1.2
  have y84 : OK (fun w _ => DW Fv P PR w ∧ EVF u w) (fb_M_exitRun_84 N () u (I z) t) := by
    unfold fb_M_exitRun_84 fb_M_exitRun_111
    rw [show (24 : Int32) = I 24 from rfl]
    refine ok_ck.mpr ⟨inb_at (k := 89) (n := 25) rfl (by omega) (by omega) (by decide), ok_lt.mpr ?_⟩
    rw [I_tn (by omega) (by omega), show (24 : Int).toNat = 24 from rfl, lit0q, wa_e, show (wa u 89 24 0).1 133 = I p from I_F' i.2.2.1]
    refine ok_bnd.mpr (ok_mono (copy24 (N := N) i hE sz hs (by omega)) (fun v r hv => ?_))
    obtain ⟨v1, v2, v3⟩ := hv
    refine ok_bnd.mpr (ok_mono (willEnd_ok (N := N) (p := z) (o := 24) (wr := 0) v1 hz (by omega) (by omega) (by
      rcases v3 with v3 | ⟨v3, v4⟩
      · exact Or.inl v3
      · exact Or.inr ⟨v3, Or.inl rfl, v4⟩)) (fun w _ hw => ok_some.mpr ?_))
    obtain ⟨w1, w2, w3, w4⟩ := hw
    refine ⟨w1, FR.tr (FR.mo v2 (by decide) (by decide) (by decide) (by decide)) (FR.mo w2 (by decide) (by decide) (by decide) (by decide)), fun y => ?_⟩
    by_cases e : y = z
    · rw [e]; exact Or.inr w3
    · rw [w4 y e, FR.A v2 (by decide)]; exact Or.inl rfl
  unfold fm_M_exitRun fb_M_exitRun_0
  refine ok_ck.mpr ⟨inb_at (k := 109) (n := 24) rfl (by omega) (by omega) (by decide), ok_br.mpr ⟨fun _ => ok_some.mpr ⟨i.1, EVF.rf⟩, fun z3 => ?_⟩⟩
  have e3 : A u 109 z ≠ 3 := fun e => by
    have := of_decide_eq_false z3
    rw [I_tn (by omega) (by omega), Int.toNat_natCast, I_A' e] at this
    exact this rfl
  rw [lit1q, show (5 : Int32) = I 5 from rfl, term_e, bnd_so]
  refine ok_br.mpr ⟨fun _ => ?_, fun _ => ok_ck.mpr ⟨inb_at (k := 112) (n := 24) rfl (by omega) (by omega) (by decide), ok_br.mpr ⟨fun _ => ok_br.mpr ⟨fun _ => y84, fun _ => ?_⟩, fun _ => ?_⟩⟩⟩
  · rw [show (6 : Int32) = I 6 from rfl, term_e, bnd_so, lit0q]
    unfold fb_M_exitRun_111
    refine ok_bnd.mpr (ok_mono (willEnd_ok (N := N) (p := z) (o := z) (wr := 0) i.1 hz (by omega) (by omega) (Or.inl ⟨nh_mk (by omega), hPB.1 6 (by omega) (by omega)⟩)) (fun w _ hw => ok_some.mpr ?_))
    obtain ⟨w1, w2, w3, w4⟩ := hw
    refine ⟨w1, FR.mo w2 (by decide) (by decide) (by decide) (by decide), fun y => ?_⟩
    by_cases e : y = z
    · rw [e]; exact Or.inr w3
    · exact Or.inl (w4 y e)
  · rw [show (4 : Int32) = I 4 from rfl, term_e, bnd_so]
    unfold fb_M_exitRun_111
    exact ok_br.mpr ⟨fun _ => ok_some.mpr ⟨i.1, EVF.rf⟩, fun _ => y84⟩
  · rw [show (0 : Int32) = I ((0 : Nat) : Int) from rfl, I_F' i.2.2.1]
    unfold fb_M_exitRun_111
    exact ok_bnd.mpr (ok_mono (message_ok (N := N) (sort := 0) (p := p) (r := 0) (wr := 0) (o := p) i.1 hz hPB (by omega) (fun _ => i.2.1) (by omega) (by omega) (by omega) (fun _ => TM_me i (SZ_gt sz)) hN) (fun w _ hw => ok_some.mpr ⟨hw.1, MSG_evf hw⟩))
theorem il_loop {z : Nat} (h133 : F w 133 = p) (l : LKR w PR p) (hp : p < 24) (hz : z < 24) : ∀ (m k : Nat), (k : Int) ≤ A w 117 p → (A w 117 p).toNat - k < m → (∀ j, j < k → A w 116 (24 * p + j) ≠ z) → OK (fun w2 r => w2 = w ∧ (r = I 1 ∨ (r = I 0 ∧ ¬ inL w p z))) (gg_M_isLinked N m w (I z) (I k)) := by
  intro m
  induction m with
  | zero => intro k _ h; omega
  | succ m ih =>
    intro k hk hm ho
    have l2 := l.2.1
    show OK _ (fb_M_isLinked_2 N (gg_M_isLinked N m) w (I z) (I k))
    unfold fb_M_isLinked_2
    rw [I_F' h133]
    refine ok_ck.mpr ⟨inb_at (k := 117) (n := 24) rfl (by omega) (by omega) (by decide), ?_⟩
    have r6 := A_r w 116 (24 * p + k)
    have r7 := A_r w 117 p
    rw [I_tn (x := (p : Int)) (by omega) (by omega), Int.toNat_natCast, I_A (k := 117), decI r7.1 r7.2 (by omega) (by omega)]
    refine ok_br.mpr ⟨fun y => ok_ck.mpr ⟨rfl, ok_some.mpr ⟨rfl, Or.inr ⟨rfl, fun ⟨j, j1, j2⟩ => ho j (by have := of_decide_eq_true y; omega) j2⟩⟩⟩, fun y => ?_⟩
    have y' := of_decide_eq_false y
    rw [show (24 : Int32) = I 24 from rfl, I_mul, I_add]
    refine ok_ck.mpr ⟨inb_at (k := 116) (n := 576) rfl (by omega) (by omega) (by decide), ?_⟩
    rw [I_tn (x := 24 * (p : Int) + (k : Int)) (by omega) (by omega), show (24 * (p : Int) + (k : Int)).toNat = 24 * p + k from by omega, I_A (k := 116), decE r6.1 r6.2 (by omega) (by omega)]
    refine ok_br.mpr ⟨fun _ => ok_ck.mpr ⟨rfl, ok_some.mpr ⟨rfl, Or.inl rfl⟩⟩, fun y2 => ?_⟩
    rw [lit1q, I_add, show (k : Int) + 1 = ((k + 1 : Nat) : Int) from by omega]
    refine ih (k + 1) (by omega) (by omega) (fun j hj => ?_)
    by_cases e : j = k
    · subst e; exact of_decide_eq_false y2
    · exact ho j (by omega)
theorem isLinked_ok {z : Nat} (h133 : F w 133 = p) (l : LKR w PR p) (hp : p < 24) (hz : z < 24) (hN : 100 ≤ N) : OK (fun w2 r => w2 = w ∧ (r = I 1 ∨ (r = I 0 ∧ ¬ inL w p z))) (fm_M_isLinked N w (I z)) := by
  have l1 := l.1
  have l2 := l.2.1
  unfold fm_M_isLinked fb_M_isLinked_0
  exact il_loop (N := N) h133 l hp hz N 0 (by omega) (by omega) (fun j hj => absurd hj (Nat.not_lt_zero j))
theorem LKR_room {z : Nat} (l : LKR w PR p) (pr : PR ≤ 24) (hz : z < PR) (hne : z ≠ p) (hp : p < PR) (hn : ¬ inL w p z) : A w 117 p < 23 := by
  obtain ⟨l1, l2, l3, l4⟩ := l
  have hz' : ∀ j : Nat, (j : Int) < A w 117 p → A w 116 (24 * p + j) ≠ z := fun j hj e => hn ⟨j, hj, e⟩
  have := pig 24 ((A w 117 p).toNat + 2) (fun j => if j = (A w 117 p).toNat then z else if j = (A w 117 p).toNat + 1 then p else (A w 116 (24 * p + j)).toNat) (fun j hj => by
    by_cases e1 : j = (A w 117 p).toNat
    · simp only [if_pos e1]; omega
    · by_cases e2 : j = (A w 117 p).toNat + 1
      · simp only [if_neg e1, if_pos e2]; omega
      · simp only [if_neg e1, if_neg e2]; have := l3 j (by omega); omega) (fun a b ha hb e => by
    by_cases a1 : a = (A w 117 p).toNat
    · by_cases b1 : b = (A w 117 p).toNat
      · omega
      · by_cases b2 : b = (A w 117 p).toNat + 1
        · simp only [if_pos a1, if_neg b1, if_pos b2] at e; omega
        · simp only [if_pos a1, if_neg b1, if_neg b2] at e; have := l3 b (by omega); have := hz' b (by omega); omega
    · by_cases a2 : a = (A w 117 p).toNat + 1
      · by_cases b1 : b = (A w 117 p).toNat
        · simp only [if_neg a1, if_pos a2, if_pos b1] at e; omega
        · by_cases b2 : b = (A w 117 p).toNat + 1
          · omega
          · simp only [if_neg a1, if_pos a2, if_neg b1, if_neg b2] at e; have := l3 b (by omega); omega
      · by_cases b1 : b = (A w 117 p).toNat
        · simp only [if_neg a1, if_neg a2, if_pos b1] at e; have := l3 a (by omega); have := hz' a (by omega); omega
        · by_cases b2 : b = (A w 117 p).toNat + 1
          · simp only [if_neg a1, if_neg a2, if_neg b1, if_pos b2] at e; have := l3 a (by omega); omega
          · simp only [if_neg a1, if_neg a2, if_neg b1, if_neg b2] at e
            have := l3 a (by omega)
            have := l3 b (by omega)
            exact l4 a b (by omega) (by omega) (by omega))
  omega
theorem LKR_add {z : Nat} (l : LKR w PR p) (hz : z < PR) (hne : z ≠ p) (hn : ¬ inL w p z) (h6 : A w2 116 (24 * p + (A w 117 p).toNat) = z) (h6' : ∀ j : Nat, (j : Int) < A w 117 p → A w2 116 (24 * p + j) = A w 116 (24 * p + j)) (h7 : A w2 117 p = A w 117 p + 1) (h23 : A w 117 p < 23) : LKR w2 PR p ∧ ∀ y, inL w2 p y ↔ (inL w p y ∨ y = z) := by
  obtain ⟨l1, l2, l3, l4⟩ := l
  have cell : ∀ j : Nat, (j : Int) < A w2 117 p → (A w2 116 (24 * p + j) = z ∧ j = (A w 117 p).toNat) ∨ ((j : Int) < A w 117 p ∧ A w2 116 (24 * p + j) = A w 116 (24 * p + j)) := fun j hj => by
    by_cases e : j = (A w 117 p).toNat
    · subst e; exact Or.inl ⟨h6, rfl⟩
    · exact Or.inr ⟨by omega, h6' j (by omega)⟩
  refine ⟨⟨by omega, by omega, fun j hj => ?_, fun j k hj hk e => ?_⟩, fun y => ⟨fun ⟨j, hj, ej⟩ => ?_, fun hy => ?_⟩⟩
  · rcases cell j hj with ⟨c, -⟩ | ⟨c1, c2⟩
    · omega
    · rw [c2]; exact l3 j c1
  · rcases cell j hj with ⟨c, cj⟩ | ⟨c1, c2⟩
    · rcases cell k hk with ⟨d, dk⟩ | ⟨d1, d2⟩
      · omega
      · exact absurd ⟨k, d1, by omega⟩ hn
    · rcases cell k hk with ⟨d, dk⟩ | ⟨d1, d2⟩
      · exact absurd ⟨j, c1, by omega⟩ hn
      · exact l4 j k c1 d1 (by omega)
  · rcases cell j hj with ⟨c, cj⟩ | ⟨c1, c2⟩
    · exact Or.inr (by omega)
    · exact Or.inl ⟨j, c1, by omega⟩
  · rcases hy with ⟨j, j1, j2⟩ | hy
    · exact ⟨j, by omega, by rw [h6' j j1]; exact j2⟩
    · exact ⟨(A w 117 p).toNat, by omega, by rw [h6]; omega⟩
end
