/-! a list is made anew of what is kept, here -/
set_option maxRecDepth 100000
section
variable {N p U W k1 C : Nat} {w w0 : MS} {te x0 : Int64} {fl : Nat → Bool} {ee xx : Nat → Int64}
/-- pairs, from the last on -/
theorem anw_p (hpp : p < 24) (h133 : F w0 133 = ((p : Nat) : Int)) (h92 : A w0 92 p = ((W + 2 : Nat) : Int)) (hW : W + 2 ≤ 46000) (hk : k1 ≤ 1000) (hfl : ∀ i, i < k1 → A w0 168 i = if fl i = true then 1 else 0) (h167 : ∀ i, i < k1 → w0.2.2.2 167 i = ee i) (hC : C = cnk fl k1) (hxx : ∀ i, i < k1 → fl i = false → xx (cnk fl i) = ee i) (hU : U + 2 * C ≤ 500) : ∀ (i M : Nat) (w : MS) (t : Int64), i ≤ k1 → FR [] [] [89] [88] w0 w → A w 89 p = ((U + 2 * (C - cnk fl i) : Nat) : Int) → (∀ r, r ≠ p → A w 89 r = A w0 89 r) → (∀ q, ¬ (500 * p ≤ q ∧ q < 500 * p + 500) → w.2.2.2 88 q = w0.2.2.2 88 q) → lsC (hp w p) (hp w0 p) U (C - cnk fl i) C xx te → t = (if C - cnk fl i = 0 then te else mk 7 ((U + 2 * (C - cnk fl i - 1) : Nat) : Int)) → PK (fun w2 (_ : Unit) => ∃ w1 : MS, FR [] [] [89] [88] w0 w1 ∧ A w1 89 p = ((U + 2 * C : Nat) : Int) ∧ (∀ r, r ≠ p → A w1 89 r = A w0 89 r) ∧ (∀ q, ¬ (500 * p ≤ q ∧ q < 500 * p + 500) → w1.2.2.2 88 q = w0.2.2.2 88 q) ∧ lsC (hp w1 p) (hp w0 p) U C C xx te ∧ w2 = wa (wj (wa w1 92 p ((W : Nat) : Int)) 91 (46000 * p + W) (if C = 0 then te else mk 7 ((U + 2 * (C - 1) : Nat) : Int))) 92 p ((W + 1 : Nat) : Int)) ((gg_M_anew N M).2 w t (I (((i : Nat) : Int) - 1))) := by
  intro i
  induction i with
  | zero =>
    intro M w t hi fr h89 ho1 ho2 ls ht
    cases M with
    | zero => exact pk_none
    | succ M =>
    show PK _ (fb_M_anew_95 N (gg_M_anew N M) w t (I (((0 : Nat) : Int) - 1)))
    unfold fb_M_anew_95
    have c0 : cnk fl 0 = 0 := rfl
    rw [c0, Nat.sub_zero] at h89 ls ht
    have x33 : F w 133 = ((p : Nat) : Int) := by rw [FR.F fr (by simp)]; exact h133
    have x92 : A w 92 p = ((W + 2 : Nat) : Int) := by rw [FR.A fr (by simp)]; exact h92
    rw [show ((0 : Nat) : Int) - 1 = -1 by omega, show decide (I (-1) < 0) = true from rfl, br_t]
    refine pk_ck (fun _ => pk_ck (fun _ => ?_))
    rw [I_F' x33, tnI (n := p) rfl (by omega), I_A' x92, show I ((W + 2 : Nat) : Int) - 2 = I ((W : Nat) : Int) by rw [show (2 : Int32) = I 2 from rfl, I_sub]; congr 1; omega, wa_e, lt_e]
    have y33 : F (wa w 92 p ((W : Nat) : Int)) 133 = ((p : Nat) : Int) := x33
    refine pk_bnd (pk_mo (put_r (N := N) (x := t) (W := W) hpp y33 (wa_sm (by omega) (by omega)) (by omega)) (fun w2 _ e => ?_))
    subst e
    exact pk_some ⟨w, fr, h89, ho1, ho2, ls, by rw [ht]⟩
  | succ i ih =>
    intro M w t hi fr h89 ho1 ho2 ls ht
    cases M with
    | zero => exact pk_none
    | succ M =>
    show PK _ (fb_M_anew_95 N (gg_M_anew N M) w t (I (((i + 1 : Nat) : Int) - 1)))
    unfold fb_M_anew_95 fb_M_anew_130
    have x33 : F w 133 = ((p : Nat) : Int) := by rw [FR.F fr (by simp)]; exact h133
    have x168 : A w 168 i = if fl i = true then 1 else 0 := by rw [FR.A fr (by simp)]; exact hfl i (by omega)
    have x167 : w.2.2.2 167 i = ee i := by rw [fr.2.2.2 167 (by simp)]; exact h167 i (by omega)
    have e1 : ((i + 1 : Nat) : Int) - 1 = ((i : Nat) : Int) := by omega
    have e2 : I ((i : Nat) : Int) + -1 = I (((i : Nat) : Int) - 1) := by rw [m1I, I_add]; congr 1
    rw [e1, d_lt0 (by omega), br_f]
    refine pk_ck (fun _ => ?_)
    rw [tnI (n := i) rfl (by omega), I_A' x168, e2]
    have cm := cnk_m (fl := fl) (show i + 1 ≤ k1 by omega)
    cases hf : fl i with
    | true =>
      have ce := cnk_f hf
      rw [ce] at h89 ls ht
      rw [if_pos rfl, show decide (I 1 = 0) = false from rfl, br_f]
      exact ih M w t (by omega) fr h89 ho1 ho2 ls ht
    | false =>
      have ce := cnk_s hf
      have e3 : C - cnk fl i = C - cnk fl (i + 1) + 1 := by omega
      rw [show (if false = true then (1 : Int) else 0) = 0 from rfl, show decide (I 0 = 0) = true from rfl, br_t]
      refine pk_ck (fun _ => ?_)
      rw [x167]
      refine pk_bnd (pk_mo (pair_r (N := N) (U := U + 2 * (C - cnk fl (i + 1))) hpp x33 h89 (by omega)) (fun w2 r e => ?_))
      obtain ⟨rfl, rfl⟩ := e
      rw [show (7 : Int32) = I 7 from rfl, term_e, bnd_so]
      refine ih M _ _ (by omega) (FR_pair fr) ?_ (fun r hr => ?_) (fun q hq => ?_) ?_ ?_
      · rw [wa_sm (by omega) (by omega)]
        congr 1
        omega
      · rw [wa_ro (by omega) (by omega), if_neg hr]
        exact ho1 r hr
      · show (wj (wj w 88 (500 * p + (U + 2 * (C - cnk fl (i + 1)))) _) 88 (500 * p + (U + 2 * (C - cnk fl (i + 1))) + 1) t).2.2.2 88 q = _
        rw [wj_row, if_neg (by omega), wj_row, if_neg (by omega)]
        exact ho2 q hq
      · rw [e3]
        refine lsC_s ls ?_ ht
        rw [show C - 1 - (C - cnk fl (i + 1)) = cnk fl i by omega]
        exact (hxx i (by omega) hf).symm
      · rw [if_neg (by omega), show C - cnk fl i - 1 = C - cnk fl (i + 1) by omega]
/-- the parts are looked at, from the first on -/
theorem anw_c {x1 : Int64} (hpp : p < 24) (h133 : F w0 133 = ((p : Nat) : Int)) (h92 : A w0 92 p = ((W + 2 : Nat) : Int)) (hW : W + 2 ≤ 46000) (hk : k1 ≤ 1000) (hfl : ∀ i, i < k1 → A w0 168 i = if fl i = true then 1 else 0) (h89 : A w0 89 p = ((U : Nat) : Int)) (hC : C = cnk fl k1) (hU : U + 2 * C ≤ 500) (hts : ∀ i, i < k1 → va (tlc (hp w0 p) x1 i) = ((vn (tlc (hp w0 p) x1 i) : Nat) : Int) ∧ vn (tlc (hp w0 p) x1 i) + 2 ≤ 500) (hxx : ∀ i, i < k1 → fl i = false → xx (cnk fl i) = hp w0 p (vn (tlc (hp w0 p) x1 i))) (hx0 : w0.2.2.2 91 (46000 * p + (W + 1)) = x0) (h169 : (F w0 169 = 0 ∧ te = x0) ∨ (F w0 169 = 1 ∧ te = tlc (hp w0 p) x1 k1)) : ∀ (d M i : Nat) (w : MS), i + d = k1 → FR [] [] [] [167] w0 w → (∀ q, q < i → w.2.2.2 167 q = hp w0 p (vn (tlc (hp w0 p) x1 q))) → PK (fun w2 (_ : Unit) => ∃ w1 : MS, FR [] [] [89] [88, 167] w0 w1 ∧ A w1 89 p = ((U + 2 * C : Nat) : Int) ∧ (∀ r, r ≠ p → A w1 89 r = A w0 89 r) ∧ (∀ q, ¬ (500 * p ≤ q ∧ q < 500 * p + 500) → w1.2.2.2 88 q = w0.2.2.2 88 q) ∧ lsC (hp w1 p) (hp w0 p) U C C xx te ∧ w2 = wa (wj (wa w1 92 p ((W : Nat) : Int)) 91 (46000 * p + W) (if C = 0 then te else mk 7 ((U + 2 * (C - 1) : Nat) : Int))) 92 p ((W + 1 : Nat) : Int)) ((gg_M_anew N M).1 w (I ((k1 : Nat) : Int)) (tlc (hp w0 p) x1 i) (I ((i : Nat) : Int))) := by
  intro d
  induction d with
  | zero =>
    intro M i w hi fr h167
    have : i = k1 := by omega
    subst this
    cases M with
    | zero => exact pk_none
    | succ M =>
    show PK _ (fb_M_anew_26 N (gg_M_anew N M) w (I ((i : Nat) : Int)) (tlc (hp w0 p) x1 i) (I ((i : Nat) : Int)))
    unfold fb_M_anew_26 fb_M_anew_88
    have x33 : F w 133 = ((p : Nat) : Int) := by rw [FR.F fr (by simp)]; exact h133
    have x92 : A w 92 p = ((W + 2 : Nat) : Int) := by rw [FR.A fr (by simp)]; exact h92
    have hpw : hp w p = hp w0 p := by
      funext k
      show w.2.2.2 88 (500 * p + k) = _
      rw [fr.2.2.2 88 (by simp)]
      rfl
    have e1 : I ((i : Nat) : Int) - 1 = I (((i : Nat) : Int) - 1) := by rw [lit1, I_sub]
    rw [decI (by omega) (by omega) (by omega) (by omega), decide_eq_true (by omega), br_t, e1]
    have fin : PK (fun w2 (_ : Unit) => ∃ w1 : MS, FR [] [] [89] [88, 167] w0 w1 ∧ A w1 89 p = ((U + 2 * C : Nat) : Int) ∧ (∀ r, r ≠ p → A w1 89 r = A w0 89 r) ∧ (∀ q, ¬ (500 * p ≤ q ∧ q < 500 * p + 500) → w1.2.2.2 88 q = w0.2.2.2 88 q) ∧ lsC (hp w1 p) (hp w0 p) U C C xx te ∧ w2 = wa (wj (wa w1 92 p ((W : Nat) : Int)) 91 (46000 * p + W) (if C = 0 then te else mk 7 ((U + 2 * (C - 1) : Nat) : Int))) 92 p ((W + 1 : Nat) : Int)) ((gg_M_anew N M).2 w te (I (((i : Nat) : Int) - 1))) := by
      have c0 : C - cnk fl i = 0 := by omega
      refine pk_mo (anw_p (N := N) (p := p) (U := U) (W := W) (k1 := i) (C := C) (w0 := w) (te := te) (fl := fl) (ee := fun q => hp w0 p (vn (tlc (hp w0 p) x1 q))) (xx := xx) hpp x33 x92 hW hk (fun q hq => by rw [FR.A fr (by simp)]; exact hfl q hq) h167 hC hxx hU i M w te (Nat.le_refl _) FR.rf (by rw [c0, FR.A fr (by simp), h89]; congr 1) (fun _ _ => rfl) (fun _ _ => rfl) ⟨fun _ _ => rfl, fun r hr => by omega⟩ (by rw [c0, if_pos rfl])) (fun w2 _ hh => ?_)
      obtain ⟨w1, f1, a1, a2, a3, a4, a5⟩ := hh
      refine ⟨w1, FR.tr (FR.mo fr (by simp) (by simp) (by simp) (by simp)) (FR.mo f1 (by simp) (by simp) (by simp) (by simp)), a1, fun r hr => by rw [a2 r hr, FR.A fr (by simp)], fun q hq => by rw [a3 q hq, fr.2.2.2 88 (by simp)], by rw [← hpw]; exact a4, a5⟩
    rcases h169 with ⟨c1, c2⟩ | ⟨c1, c2⟩
    · have y169 : F w 169 = 0 := by rw [FR.F fr (by simp)]; exact c1
      rw [I_F' y169, show decide (I 0 = 0) = true from rfl, br_t, show (0 : Int32) = I ((0 : Nat) : Int) from rfl]
      refine pk_bnd (pk_mo (top_r (N := N) (k := 0) (W := W + 2) hpp x33 x92 hW (by omega)) (fun w2 r e => ?_))
      obtain ⟨rfl, rfl⟩ := e
      rw [show W + 2 - 1 - 0 = W + 1 by omega, fr.2.2.2 91 (by simp), hx0, ← c2]
      exact fin
    · have y169 : F w 169 = 1 := by rw [FR.F fr (by simp)]; exact c1
      rw [I_F' y169, show decide (I 1 = 0) = false from rfl, br_f, ← c2]
      exact fin
  | succ d ih =>
    intro M i w hi fr h167
    cases M with
    | zero => exact pk_none
    | succ M =>
    show PK _ (fb_M_anew_26 N (gg_M_anew N M) w (I ((k1 : Nat) : Int)) (tlc (hp w0 p) x1 i) (I ((i : Nat) : Int)))
    unfold fb_M_anew_26
    have x33 : F w 133 = ((p : Nat) : Int) := by rw [FR.F fr (by simp)]; exact h133
    have hpw : ∀ u : MS, FR [] [] [] [167] w0 u → hp u p = hp w0 p := fun u fu => by
      funext k
      show u.2.2.2 88 (500 * p + k) = _
      rw [fu.2.2.2 88 (by simp)]
      rfl
    obtain ⟨v1, v2⟩ := hts i (by omega)
    rw [decI (by omega) (by omega) (by omega) (by omega), decide_eq_false (by omega), br_f, valueOf_e, bnd_so, v1, I_F' x33, cell_e (by omega) (by omega), bnd_so, hpw w fr]
    refine pk_ck (fun _ => ?_)
    rw [tnI (n := i) rfl (by omega), wj_e, lt_e, valueOf_e, bnd_so, v1]
    have y33 : F (wj w 167 i (hp w0 p (vn (tlc (hp w0 p) x1 i)))) 133 = ((p : Nat) : Int) := x33
    have fr2 : FR [] [] [] [167] w0 (wj w 167 i (hp w0 p (vn (tlc (hp w0 p) x1 i)))) := FR.wj fr (by simp)
    rw [I_F' y33, show I ((vn (tlc (hp w0 p) x1 i) : Nat) : Int) + 1 = I ((vn (tlc (hp w0 p) x1 i) + 1 : Nat) : Int) from addN, cell_e (by omega) (by omega), bnd_so, hpw _ fr2, show I ((i : Nat) : Int) + 1 = I ((i + 1 : Nat) : Int) from addN]
    refine ih M (i + 1) _ (by omega) fr2 (fun q hq => ?_)
    rw [wj_row]
    by_cases c : q = i
    · rw [if_pos c, c]
    · rw [if_neg c]
      exact h167 q (by omega)
end
