set_option maxRecDepth 100000
def TKS (u : MS) (c : Nat) (ps : Nat → Nat) : Prop := (F u 85 = ((c : Nat) : Int) ∧ c ≤ 4000) ∧ (A u 6 c = 0 ∨ A u 6 c = 45) ∧ ps c ≤ 4000 ∧ (ps c : Int) ≤ F u 81 ∧ ∀ t, t < c → ∃ k : Nat, A u 6 t = ((k : Nat) : Int) ∧ TVL u t k (ps t) (ps (t + 1))
section
variable {u v w : MS} {N k n c e1 e2 t : Nat} {ps : Nat → Nat}
theorem TVL_k {t k e1 e2 : Nat} (h : TVL u t k e1 e2) (h7 : A w 7 t = A u 7 t) (h5 : w.2.2.1 5 = u.2.2.1 5) (h22 : F u 22 ≤ F w 22) (h242 : F u 242 ≤ F w 242) : TVL w t k e1 e2 := by
  obtain ⟨a1, a2, a3, a4, a5⟩ := h
  unfold TVL
  rw [h7, h5]
  exact ⟨a1, fun z => ⟨(a2 z).1, by have := (a2 z).2; omega⟩, fun z => ⟨(a3 z).1, by have := (a3 z).2; omega⟩, a4, a5⟩
theorem TVL_e {t k e1 e2 e0 : Nat} (h : TVL u t k e1 e2) (he : e0 ≤ e1) : TVL u t k e0 e2 := by
  obtain ⟨a1, a2, a3, a4, a5⟩ := h
  refine ⟨a1, a2, a3, fun z => ?_, by omega⟩
  obtain ⟨f, L, b1, b2, b3, b4, b5⟩ := a4 z
  exact ⟨f, L, b1, b2, b3, by omega, b5⟩
theorem FR_KT {is as : List Nat} (f : FR is [] as [] u w) (hw : WRS u) (h1 : 22 ∉ is) (h2 : 242 ∉ is) (h3 : 3 ∉ as) (h4 : 14 ∉ as) : WRS w := by
  obtain ⟨⟨a1, a2⟩, a3, a4⟩ := hw
  exact ⟨⟨WDc_fr a1 f h1 h3, by rw [show F w 22 = F u 22 from congrArg _ (f.1 22 h1)]; exact a2⟩, WDc_fr a3 f h2 h4, by rw [show F w 242 = F u 242 from congrArg _ (f.1 242 h2)]; exact a4⟩
theorem FR_CS {is as : List Nat} (f : FR is [] as [] u w) (hw : CST u) (h1 : 81 ∉ is) (h2 : 182 ∉ is) (h3 : 5 ∉ as) (h4 : 11 ∉ as) : CST w := by
  obtain ⟨a1, a2, a3, a4⟩ := hw
  exact ⟨by rw [show F w 81 = F u 81 from congrArg _ (f.1 81 h1)]; exact a1, fun k hk => by rw [f.2.2.1 5 h3]; exact a2 k hk, WDc_fr a3 f h2 h4, by rw [show F w 182 = F u 182 from congrArg _ (f.1 182 h2)]; exact a4⟩
def SCI (u0 u : MS) (c : Nat) (ps : Nat → Nat) : Prop := FR [85, 89, 90, 22, 242] [] [2, 3, 6, 7, 8, 13, 14] [] u0 u ∧ CST u ∧ WRS u ∧ F u 85 = ((c : Nat) : Int) ∧ F u 89 = ((ps c : Nat) : Int) ∧ ((ps c : Nat) : Int) ≤ F u 81 ∧ c ≤ ps c ∧ ∀ t, t < c → ∃ k : Nat, A u 6 t = ((k : Nat) : Int) ∧ TVL u t k (ps t) (ps (t + 1))
theorem scanAll_loop {u0 : MS} (hN : 300000 ≤ N) : ∀ (M c : Nat) (ps : Nat → Nat) (u : MS), SCI u0 u c ps → c ≤ 4000 → 4001 - c < M → OK (fun w _ => FR [85, 89, 90, 22, 242] [] [2, 3, 6, 7, 8, 13, 14] [] u0 w ∧ CST w ∧ WRS w ∧ ∃ c ps, TKS w c ps) (hg_To_scanAll N M u (I ((c : Nat) : Int))) := by
  intro M
  induction M with
  | zero => intro c ps u _ _ h; omega
  | succ M ih =>
    intro c ps u hs hc hM
    obtain ⟨f0, cs, ws, e85, e89, hps, hcp, tk⟩ := hs
    have h81 := cs.1
    show OK _ (hb_To_scanAll_34 N (hg_To_scanAll N M) u (I ((c : Nat) : Int)))
    unfold hb_To_scanAll_34 hb_To_scanAll_107
    rw [show (4000 : Int32) = I 4000 from rfl]
    refine k_lt ⟨by decide, by decide⟩ ⟨by omega, by omega⟩ (fun z => absurd z (by omega)) (fun _ => ?_)
    refine ok_bnd.mpr (ok_mono (skipT_okc (N := N) cs (by omega) (by omega)) (fun u1 _ hu1 => ?_))
    obtain ⟨f1, s1, s2⟩ := hu1
    have e851 : F u1 85 = ((c : Nat) : Int) := by rw [show F u1 85 = F u 85 from congrArg _ (f1.1 85 (by simp))]; exact e85
    rw [show u1.1 85 = I ((c : Nat) : Int) by rw [I_F (k := 85), e851]]
    refine e_in ⟨by omega, by omega⟩ (by decide) (ok_lt.mpr ?_)
    rw [tnI (n := c) rfl (by omega)]
    generalize hw6 : upA u1 8 _ = w6
    have f6 : FR [] [] [8] [] u1 w6 := by rw [← hw6]; exact FR_upA FR.rf (by simp)
    rw [show w6.1 85 = I ((c : Nat) : Int) by rw [f6.1 85 (by simp), I_F (k := 85), e851]]
    refine e_in ⟨by omega, by omega⟩ (by decide) (ok_lt.mpr ?_)
    rw [tnI (n := c) rfl (by omega), lit0q, wa_e]
    have f7 : FR [] [] [7] [] w6 (wa w6 7 c 0) := FR.wa FR.rf (by simp)
    have a7 : ∀ t, t ≠ c → A (wa w6 7 c 0) 7 t = A w6 7 t := fun t ht => wa_ne ht
    generalize wa w6 7 c 0 = w10 at f7 a7
    have f10 : FR [89, 90] [] [7, 8] [] u w10 := FR.tr (FR.mo f1 (by simp) (by simp) (by simp) (by simp)) (FR.tr (FR.mo f6 (by simp) (by simp) (by simp) (by simp)) (FR.mo f7 (by simp) (by simp) (by simp) (by simp)))
    have e8510 : F w10 85 = ((c : Nat) : Int) := by rw [show F w10 85 = F u 85 from congrArg _ (f10.1 85 (by simp))]; exact e85
    have e8910 : F w10 89 = F u1 89 := by rw [show F w10 89 = F w6 89 from congrArg _ (f7.1 89 (by simp)), show F w6 89 = F u1 89 from congrArg _ (f6.1 89 (by simp))]
    have cs10 := FR_CS f10 cs (by simp) (by simp) (by simp) (by simp)
    have ws10 := FR_KT f10 ws (by simp) (by simp) (by simp) (by simp)
    have e8110 : F w10 81 = F u 81 := congrArg _ (f10.1 81 (by simp))
    refine ok_bnd.mpr (ok_mono (scan_okc (N := N) (c := c) cs10 ws10 e8510 hc (by omega) hN) (fun u13 r13 hu13 => ?_))
    obtain ⟨k13, h13⟩ := hu13
    rw [show w10.1 85 = I ((c : Nat) : Int) by rw [I_F (k := 85), e8510]]
    refine e_in ⟨by omega, by omega⟩ (by decide) (ok_lt.mpr ?_)
    rw [tnI (n := c) rfl (by omega), I_of r13, wa_e]
    have f15 : FR [] [] [6] [] u13 (wa u13 6 c r13.toInt) := FR.wa FR.rf (by simp)
    have a6 : ∀ t, t ≠ c → A (wa u13 6 c r13.toInt) 6 t = A u13 6 t := fun t ht => wa_ne ht
    have a6c : A (wa u13 6 c r13.toInt) 6 c = r13.toInt := wa_eq (ti_rng _)
    generalize wa u13 6 c r13.toInt = w15 at f15 a6 a6c
    have f1015 : FR [89, 22, 242] [] [2, 3, 6, 7, 13, 14] [] w10 w15 := FR.tr (FR.mo k13.1 (by simp) (by simp) (by simp) (by simp)) (FR.mo f15 (by simp) (by simp) (by simp) (by simp))
    have f015 : FR [85, 89, 90, 22, 242] [] [2, 3, 6, 7, 8, 13, 14] [] u0 w15 := FR.tr f0 (FR.tr (FR.mo f10 (by simp) (by simp) (by simp) (by simp)) (FR.mo f1015 (by simp) (by simp) (by simp) (by simp)))
    have e8515 : F w15 85 = ((c : Nat) : Int) := by rw [show F w15 85 = F w10 85 from congrArg _ (f1015.1 85 (by simp))]; exact e8510
    have cs15 := FR_CS f1015 cs10 (by simp) (by simp) (by simp) (by simp)
    have ws15 := FR_KT f15 k13.2.2.2 (by simp) (by simp) (by simp) (by simp)
    have e8115 : F w15 81 = F u 81 := by rw [show F w15 81 = F w10 81 from congrArg _ (f1015.1 81 (by simp))]; exact e8110
    have r5 : w15.2.2.1 5 = u.2.2.1 5 := (f1015.2.2.1 5 (by simp)).trans (f10.2.2.1 5 (by simp))
    have c22 : F u 22 ≤ F w15 22 := by
      have := k13.2.2.1.1
      rw [show F w15 22 = F u13 22 from congrArg _ (f15.1 22 (by simp))]
      rw [show F w10 22 = F u 22 from congrArg _ (f10.1 22 (by simp))] at this
      exact this
    have c242 : F u 242 ≤ F w15 242 := by
      have := k13.2.2.1.2
      rw [show F w15 242 = F u13 242 from congrArg _ (f15.1 242 (by simp))]
      rw [show F w10 242 = F u 242 from congrArg _ (f10.1 242 (by simp))] at this
      exact this
    have tk15 : ∀ t, t < c → ∃ k : Nat, A w15 6 t = ((k : Nat) : Int) ∧ TVL w15 t k (ps t) (ps (t + 1)) := fun t ht => by
      obtain ⟨k, e, tv⟩ := tk t ht
      refine ⟨k, ?_, TVL_k tv ?_ r5 c22 c242⟩
      · rw [a6 t (by omega), show A u13 6 t = A w10 6 t from by show (u13.2.2.1 6 t).toInt = _; rw [k13.1.2.2.1 6 (by simp)]; rfl, show A w10 6 t = A u 6 t from by show (w10.2.2.1 6 t).toInt = _; rw [f10.2.2.1 6 (by simp)]; rfl]
        exact e
      · rw [show A w15 7 t = A u13 7 t from by show (w15.2.2.1 7 t).toInt = _; rw [f15.2.2.1 7 (by simp)]; rfl, k13.2.1 t (by omega), a7 t (by omega), show A w6 7 t = A u1 7 t from by show (w6.2.2.1 7 t).toInt = _; rw [f6.2.2.1 7 (by simp)]; rfl, show A u1 7 t = A u 7 t from by show (u1.2.2.1 7 t).toInt = _; rw [f1.2.2.1 7 (by simp)]; rfl]
    rw [show w15.1 85 = I ((c : Nat) : Int) by rw [I_F (k := 85), e8515]]
    refine e_in ⟨by omega, by omega⟩ (by decide) ?_
    rw [tnI (n := c) rfl (by omega), I_A (k := 6), a6c]
    have stop : (r13.toInt = 0 ∨ r13.toInt = 45) → OK (fun w _ => FR [85, 89, 90, 22, 242] [] [2, 3, 6, 7, 8, 13, 14] [] u0 w ∧ CST w ∧ WRS w ∧ ∃ c ps, TKS w c ps) (some (w15, ())) := fun z => ok_some.mpr ⟨f015, cs15, ws15, c, ps, ⟨e8515, hc⟩, by rw [a6c]; exact z, by omega, by omega, tk15⟩
    refine k_eq (ti_rng _) ⟨by decide, by decide⟩ (fun z => stop (Or.inl z)) (fun z0 => ?_)
    refine e_in ⟨by omega, by omega⟩ (by decide) ?_
    rw [show (45 : Int32) = I 45 from rfl]
    refine k_eq (ti_rng _) ⟨by decide, by decide⟩ (fun z => stop (Or.inr z)) (fun z45 => ok_lt.mpr ?_)
    rcases h13 with rfl | rfl | ⟨k, e2, rfl, tv, e89', h89⟩
    · exact absurd rfl z0
    · exact absurd rfl z45
    · rw [I_ti (by have := tv.1; omega) (by have := tv.1; omega)] at a6c
      rw [lit1q, I_add, show ((c : Nat) : Int) + 1 = ((c + 1 : Nat) : Int) by omega, wi_e]
      have f25 : FR [85] [] [] [] w15 (wi w15 85 ((c + 1 : Nat) : Int)) := FR.wi FR.rf (by simp)
      have e25 : F (wi w15 85 ((c + 1 : Nat) : Int)) 85 = ((c + 1 : Nat) : Int) := by rw [F_wi (by omega) (by omega), if_pos rfl]
      generalize wi w15 85 ((c + 1 : Nat) : Int) = w25 at f25 e25
      have iF : ∀ k, k ≠ 85 → F w25 k = F w15 k := fun k hk => congrArg _ (f25.1 k (by simp; exact hk))
      have iA : ∀ k t, A w25 k t = A w15 k t := fun k t => by show (w25.2.2.1 k t).toInt = _; rw [f25.2.2.1 k (by simp)]; rfl
      have e8925 : F w25 89 = ((e2 : Nat) : Int) := by rw [iF 89 (by decide), show F w15 89 = F u13 89 from congrArg _ (f15.1 89 (by simp))]; exact e89'
      have e8125 : F w25 81 = F u 81 := by rw [iF 81 (by decide)]; exact e8115
      have tvc : TVL w25 c k (ps c) e2 := by
        refine TVL_e (e1 := (F w10 89).toNat) (TVL_k tv ?_ ?_ ?_ ?_) (by omega)
        · rw [iA, show A w15 7 c = A u13 7 c from by show (w15.2.2.1 7 c).toInt = _; rw [f15.2.2.1 7 (by simp)]; rfl]
        · exact (f25.2.2.1 5 (by simp)).trans (f15.2.2.1 5 (by simp))
        · rw [iF 22 (by decide), show F w15 22 = F u13 22 from congrArg _ (f15.1 22 (by simp))]; exact Int.le_refl _
        · rw [iF 242 (by decide), show F w15 242 = F u13 242 from congrArg _ (f15.1 242 (by simp))]; exact Int.le_refl _
      have hlt := tvc.2.2.2.2
      have hc1 : c + 1 ≤ 4000 := by omega
      refine ih (c + 1) (fun t => if t = c + 1 then e2 else ps t) w25 ⟨FR.tr f015 (FR.mo f25 (by simp) (by simp) (by simp) (by simp)), FR_CS f25 cs15 (by simp) (by simp) (by simp) (by simp), FR_KT f25 ws15 (by simp) (by simp) (by simp) (by simp), e25, by simp only [if_true]; exact e8925, by simp only [if_true]; omega, by simp only [if_true]; omega, fun t ht => ?_⟩ hc1 (by omega)
      by_cases z : t = c
      · subst z
        refine ⟨k, by rw [iA]; exact a6c, ?_⟩
        simp only [if_true]
        rw [if_neg (by omega)]; exact tvc
      · obtain ⟨k2, e, tv2⟩ := tk15 t (by omega)
        refine ⟨k2, by rw [iA]; exact e, ?_⟩
        simp only []
        rw [if_neg (by omega), if_neg (by omega)]
        exact TVL_k tv2 (iA 7 t) (f25.2.2.1 5 (by simp)) (by rw [iF 22 (by decide)]; exact Int.le_refl _) (by rw [iF 242 (by decide)]; exact Int.le_refl _)
def WR0 (u : MS) : Prop := (WDk u 1 22 ∧ il 3 ≤ 100000 ∧ bl 2 ≤ 100000) ∧ WDk u 12 1
theorem scanAll_ok (hc : CST u) (hw : WR0 u) (hN : 300000 ≤ N) : OK (fun w _ => FR [85, 89, 90, 22, 242] [] [2, 3, 6, 7, 8, 13, 14] [] u w ∧ CST w ∧ WRS w ∧ ∃ c ps, TKS w c ps) (hm_To_scanAll N u) := by
  unfold hm_To_scanAll hb_To_scanAll_0
  refine ok_lt.mpr (ok_lt.mpr (ok_lt.mpr (ok_lt.mpr (ok_lt.mpr ?_))))
  rw [show (22 : Int32) = I 22 from rfl, lit1q, lit0q]
  simp only [wi_e]
  generalize hw5 : wi (wi (wi (wi (wi u 22 22) 242 1) 89 0) 90 1) 85 0 = w
  have f : FR [85, 89, 90, 22, 242] [] [2, 3, 6, 7, 8, 13, 14] [] u w := by
    rw [← hw5]; exact FR.wi (FR.wi (FR.wi (FR.wi (FR.wi FR.rf (by simp)) (by simp)) (by simp)) (by simp)) (by simp)
  have f' : FR [85, 89, 90, 22, 242] [] [] [] u w := by
    rw [← hw5]; exact FR.wi (FR.wi (FR.wi (FR.wi (FR.wi FR.rf (by simp)) (by simp)) (by simp)) (by simp)) (by simp)
  have v : F w 22 = 22 ∧ F w 242 = 1 ∧ F w 89 = 0 ∧ F w 85 = 0 := by
    rw [← hw5]
    refine ⟨?_, ?_, ?_, ?_⟩
    · rw [F_wi (by decide) (by decide), if_neg (by decide), F_wi (by decide) (by decide), if_neg (by decide), F_wi (by decide) (by decide), if_neg (by decide), F_wi (by decide) (by decide), if_neg (by decide), F_wi (by decide) (by decide), if_pos rfl]
    · rw [F_wi (by decide) (by decide), if_neg (by decide), F_wi (by decide) (by decide), if_neg (by decide), F_wi (by decide) (by decide), if_neg (by decide), F_wi (by decide) (by decide), if_pos rfl]
    · rw [F_wi (by decide) (by decide), if_neg (by decide), F_wi (by decide) (by decide), if_neg (by decide), F_wi (by decide) (by decide), if_pos rfl]
    · rw [F_wi (by decide) (by decide), if_pos rfl]
  obtain ⟨v1, v2, v3, v4⟩ := v
  have iA : ∀ k t, A w k t = A u k t := fun k t => by show (w.2.2.1 k t).toInt = _; rw [f'.2.2.1 k (by simp)]; rfl
  have cw := FR_CS f' hc (by simp) (by simp) (by simp) (by simp)
  have ww : WRS w := by
    refine ⟨⟨⟨by show 0 ≤ F w 22; omega, ?_, hw.1.2.1, hw.1.2.2, fun k hk => ?_⟩, by omega⟩, ⟨by show 0 ≤ F w 242; omega, ?_, by decide, by decide, fun k hk => ?_⟩, by omega⟩
    · show F w 22 + 1 ≤ ((il 3 : Nat) : Int); rw [v1]; decide
    · have hk : ((k : Nat) : Int) < F w 22 := hk
      rw [iA, iA]; exact hw.1.1 k (by omega)
    · show F w 242 + 1 ≤ ((il 14 : Nat) : Int); rw [v2]; decide
    · have hk : ((k : Nat) : Int) < F w 242 := hk
      rw [iA, iA]; exact hw.2 k (by omega)
  rw [show (0 : Int) = ((0 : Nat) : Int) from rfl]
  exact scanAll_loop hN N 0 (fun _ => 0) w ⟨f, cw, ww, by omega, by show F w 89 = ((0 : Nat) : Int); omega, by have := cw.1; show ((0 : Nat) : Int) ≤ _; omega, Nat.le_refl _, fun t ht => absurd ht (by omega)⟩ (by omega) (by omega)
end
