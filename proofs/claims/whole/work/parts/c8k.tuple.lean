/-! a TUPLE is made -/
set_option maxRecDepth 100000
section
variable {N p k U W l a : Nat} {m w : MS}
/-- its cells are filled, there -/
theorem tup_m (h26 : F m (pq p 26) = ((W : Nat) : Int)) (hl : F m (pq p 45) = ((l : Nat) : Int)) (hl2 : W ≤ l ∧ l ≤ 1000000) (hk : k ≤ W) (h4 : F m (pq p 4) = ((U : Nat) : Int)) (hU : U + (k + 1) ≤ 500) (h5 : F m 1105 = ((a : Nat) : Int)) (ha : a < 24000) : ∀ (d M : Nat) (m1 : MS) (i : Nat), i + d = k → FR [] [] [] [pq p 2] m m1 → (∀ q, q < k → q < i → m1.2.2.2 (pq p 2) (U + 1 + q) = m.2.2.2 (pq p 35) (W - k + q)) → (∀ q, q ≤ U → m1.2.2.2 (pq p 2) q = m.2.2.2 (pq p 2) q) → PK (fun m2 (_ : Unit) => FR [pq p 4, pq p 26, pq p 45, 1105] [] [] [pq p 2, pq p 35] m m2 ∧ F m2 (pq p 4) = ((U + (k + 1) : Nat) : Int) ∧ F m2 (pq p 26) = ((W - k + 1 : Nat) : Int) ∧ F m2 1105 = ((a + 2 : Nat) : Int) ∧ (∀ q, q ≤ U → m2.2.2.2 (pq p 2) q = m.2.2.2 (pq p 2) q) ∧ (∀ q, q < k → m2.2.2.2 (pq p 2) (U + 1 + q) = m.2.2.2 (pq p 35) (W - k + q)) ∧ ∀ i, i ≤ W - k → m2.2.2.2 (pq p 35) i = if i = W - k then mk 5 ((U : Nat) : Int) else m.2.2.2 (pq p 35) i) (hg_Ma_tuple N M m1 p (I ((k : Nat) : Int)) (I ((U : Nat) : Int)) (I ((i : Nat) : Int))) := by
  intro d
  induction d with
  | zero =>
    intro M m1 i hi fr c1 c2
    have : i = k := by omega
    subst this
    cases M with
    | zero => exact pk_none
    | succ M =>
    show PK _ (hb_Ma_tuple_57 N (hg_Ma_tuple N M) m1 p (I ((i : Nat) : Int)) (I ((U : Nat) : Int)) (I ((i : Nat) : Int)))
    unfold hb_Ma_tuple_57
    have e4 : F m1 (pq p 4) = ((U : Nat) : Int) := by rw [FR.F fr (by simp)]; exact h4
    rw [decI (by omega) (by omega) (by omega) (by omega), decide_eq_true (by omega), br_t, I_F' e4, show I ((i : Nat) : Int) + 1 = I ((i + 1 : Nat) : Int) from addN, addN, wi_e, lt_e, show (5 : Int32) = I 5 from rfl, e_make, bnd_so]
    unfold hm_Ma_answer hb_Ma_answer_0
    have e26 : F (wi m1 (pq p 4) ((U + (i + 1) : Nat) : Int)) (pq p 26) = ((W : Nat) : Int) := by rw [wi_ne (pq_inj (by omega)), FR.F fr (by simp)]; exact h26
    rw [drop_e (W := W) (k := i) (x := ((i : Nat) : Int)) e26 rfl hk, bnd_so, bb_e]
    have f26 : F (wi (wi m1 (pq p 4) ((U + (i + 1) : Nat) : Int)) (pq p 26) ((W - i : Nat) : Int)) (pq p 26) = ((W - i : Nat) : Int) := wi_sm (by omega) (by omega)
    have f45 : F (wi (wi m1 (pq p 4) ((U + (i + 1) : Nat) : Int)) (pq p 26) ((W - i : Nat) : Int)) (pq p 45) = ((l : Nat) : Int) := by rw [wi_ne (pq_inj (by omega)), wi_ne (pq_inj (by omega)), FR.F fr (by simp)]; exact hl
    refine pk_bnd (pk_mo (push_m (N := N) (t := mk 5 ((U : Nat) : Int)) f26 f45 (by omega) hl2.2) (fun m2 _ hh => ?_))
    obtain ⟨z1, z2, z3⟩ := hh
    rw [bnd_so]
    have e5 : F m2 1105 = ((a : Nat) : Int) := by
      rw [FR.F z1 (by simp [pq_n]), wi_ne (pq_n (by omega)), wi_ne (pq_n (by omega)), FR.F fr (by simp)]
      exact h5
    rw [I_F' e5, show I ((a : Nat) : Int) + 2 = I ((a + 2 : Nat) : Int) from addN, wi_e, lt_e]
    refine pk_some ⟨?_, ?_, ?_, wi_sm (by omega) (by omega), fun q hq => ?_, fun q hq => ?_, fun q hq => ?_⟩
    · refine FR.wi (FR.tr (FR.wi (FR.wi (FR.mo fr (by simp) (by simp) (by simp) (by simp)) (by simp)) (by simp)) (FR.mo z1 (by simp) (by simp) (by simp) (by simp))) (by simp)
    · rw [wi_ne (fun c => pq_n (by omega) c.symm), FR.F z1 (by simp; exact ⟨pq_inj (by omega), pq_inj (by omega)⟩), wi_ne (pq_inj (by omega)), wi_sm (by omega) (by omega)]
    · rw [wi_ne (fun c => pq_n (by omega) c.symm)]
      exact z2
    · show m2.2.2.2 (pq p 2) q = _
      rw [z1.2.2.2 _ (by simp; exact pq_inj (by omega))]
      exact c2 q hq
    · show m2.2.2.2 (pq p 2) (U + 1 + q) = _
      rw [z1.2.2.2 _ (by simp; exact pq_inj (by omega))]
      exact c1 q hq hq
    · show m2.2.2.2 (pq p 35) q = _
      rw [z3 q hq]
      by_cases c : q = W - i
      · rw [if_pos c, if_pos c]
      · rw [if_neg c, if_neg c]
        show m1.2.2.2 (pq p 35) q = _
        rw [fr.2.2.2 _ (by simp; exact pq_inj (by omega))]
  | succ d ih =>
    intro M m1 i hi fr c1 c2
    cases M with
    | zero => exact pk_none
    | succ M =>
    show PK _ (hb_Ma_tuple_57 N (hg_Ma_tuple N M) m1 p (I ((k : Nat) : Int)) (I ((U : Nat) : Int)) (I ((i : Nat) : Int)))
    unfold hb_Ma_tuple_57
    have e26 : F m1 (pq p 26) = ((W : Nat) : Int) := by rw [FR.F fr (by simp)]; exact h26
    have e45 : F m1 (pq p 45) = ((l : Nat) : Int) := by rw [FR.F fr (by simp)]; exact hl
    rw [decI (by omega) (by omega) (by omega) (by omega), decide_eq_false (by omega), br_f, show I ((k : Nat) : Int) - 1 - I ((i : Nat) : Int) = I ((k - 1 - i : Nat) : Int) by rw [lit1, I_sub, I_sub]; congr 1; omega, below_e (k := k - 1 - i) (W := W) (l := l) e26 e45 hl2.1 hl2.2 rfl (by omega), bnd_so, show W - 1 - (k - 1 - i) = W - k + i by omega, show I ((U : Nat) : Int) + 1 = I ((U + 1 : Nat) : Int) from addN, addN, (I_inb (by omega) (by omega)).mpr ⟨by omega, by omega⟩, ck_t, tnI (n := U + 1 + i) rfl (by omega), wj_e, lt_e, show I ((i : Nat) : Int) + 1 = I ((i + 1 : Nat) : Int) from addN]
    refine ih M _ (i + 1) (by omega) (FR.wj fr (by simp)) (fun q h1 h2 => ?_) (fun q hq => ?_)
    · rw [wj_row]
      by_cases c : q = i
      · subst c
        rw [if_pos rfl, fr.2.2.2 _ (by simp; exact pq_inj (by omega))]
      · rw [if_neg (by omega)]
        exact c1 q h1 (by omega)
    · rw [wj_row, if_neg (by omega)]
      exact c2 q hq
/-- and here -/
theorem tup_r (hpp : p < 24) (h133 : F w 133 = ((p : Nat) : Int)) (h92 : A w 92 p = ((W : Nat) : Int)) (hW : W ≤ 46000) (hk : k ≤ W) (hU : U + (k + 1) ≤ 500) : ∀ (d M : Nat) (w1 : MS) (i : Nat), i + d = k → FR [] [] [] [88] w w1 → (∀ q, w1.2.2.2 88 q = if 500 * p + U + 1 ≤ q ∧ q < 500 * p + U + 1 + i then w.2.2.2 91 (46000 * p + (W - k) + (q - (500 * p + U + 1))) else w.2.2.2 88 q) → PK (fun w2 (_ : Unit) => ∃ w1 : MS, FR [] [] [] [88] w w1 ∧ (∀ q, w1.2.2.2 88 q = if 500 * p + U + 1 ≤ q ∧ q < 500 * p + U + 1 + k then w.2.2.2 91 (46000 * p + (W - k) + (q - (500 * p + U + 1))) else w.2.2.2 88 q) ∧ w2 = wa (wj (wa w1 92 p ((W - k : Nat) : Int)) 91 (46000 * p + (W - k)) (mk 5 ((U : Nat) : Int))) 92 p ((W - k + 1 : Nat) : Int)) ((gg_M_tupleRun N M).2 w1 (I ((k : Nat) : Int)) (I ((U : Nat) : Int)) (I ((i : Nat) : Int))) := by
  intro d
  induction d with
  | zero =>
    intro M w1 i hi fr c1
    have : i = k := by omega
    subst this
    cases M with
    | zero => exact pk_none
    | succ M =>
    show PK _ (fb_M_tupleRun_111 N (gg_M_tupleRun N M) w1 (I ((i : Nat) : Int)) (I ((U : Nat) : Int)) (I ((i : Nat) : Int)))
    unfold fb_M_tupleRun_111
    have x33 : F w1 133 = ((p : Nat) : Int) := by rw [FR.F fr (by simp)]; exact h133
    have x92 : A w1 92 p = ((W : Nat) : Int) := by rw [FR.A fr (by simp)]; exact h92
    rw [decI (by omega) (by omega) (by omega) (by omega), decide_eq_true (by omega), br_t]
    refine pk_ck (fun _ => pk_ck (fun _ => ?_))
    rw [I_F' x33, tnI (n := p) rfl (by omega), I_A' x92, show I ((W : Nat) : Int) - I ((i : Nat) : Int) = I ((W - i : Nat) : Int) by rw [I_sub]; congr 1; omega, wa_e, lt_e, show (5 : Int32) = I 5 from rfl, term_e, bnd_so]
    refine pk_bnd (pk_mo (put_r (N := N) (w := wa w1 92 p ((W - i : Nat) : Int)) (x := mk 5 ((U : Nat) : Int)) (W := W - i) hpp x33 (wa_sm (by omega) (by omega)) (by omega)) (fun w2 _ e => ?_))
    subst e
    exact pk_some ⟨w1, fr, c1, rfl⟩
  | succ d ih =>
    intro M w1 i hi fr c1
    cases M with
    | zero => exact pk_none
    | succ M =>
    show PK _ (fb_M_tupleRun_111 N (gg_M_tupleRun N M) w1 (I ((k : Nat) : Int)) (I ((U : Nat) : Int)) (I ((i : Nat) : Int)))
    unfold fb_M_tupleRun_111
    have x33 : F w1 133 = ((p : Nat) : Int) := by rw [FR.F fr (by simp)]; exact h133
    have x92 : A w1 92 p = ((W : Nat) : Int) := by rw [FR.A fr (by simp)]; exact h92
    rw [decI (by omega) (by omega) (by omega) (by omega), decide_eq_false (by omega), br_f, show I ((k : Nat) : Int) - 1 - I ((i : Nat) : Int) = I ((k - 1 - i : Nat) : Int) by rw [lit1, I_sub, I_sub]; congr 1; omega]
    refine pk_bnd (pk_mo (top_r (N := N) (k := k - 1 - i) hpp x33 x92 hW (by omega)) (fun w2 r e => ?_))
    obtain ⟨rfl, rfl⟩ := e
    refine pk_ck (fun _ => ?_)
    have sp : I ((p : Nat) : Int) * 500 + I ((U : Nat) : Int) + 1 + I ((i : Nat) : Int) = I ((500 * p + U + 1 + i : Nat) : Int) := by
      rw [show (500 : Int32) = I 500 from rfl, lit1, I_mul, I_add, I_add, I_add]
      congr 1
      omega
    rw [I_F' x33, sp, tnI (n := 500 * p + U + 1 + i) rfl (by omega), wj_e, lt_e, show I ((i : Nat) : Int) + 1 = I ((i + 1 : Nat) : Int) from addN]
    refine ih M _ (i + 1) (by omega) (FR.wj fr (by simp)) (fun q => ?_)
    rw [wj_row]
    by_cases c : q = 500 * p + U + 1 + i
    · subst c
      rw [if_pos rfl, if_pos (by omega), fr.2.2.2 91 (by simp), show 46000 * p + (W - k) + (500 * p + U + 1 + i - (500 * p + U + 1)) = 46000 * p + (W - 1 - (k - 1 - i)) by omega]
    · rw [if_neg c, c1 q]
      by_cases c2 : 500 * p + U + 1 ≤ q ∧ q < 500 * p + U + 1 + i
      · rw [if_pos c2, if_pos (by omega)]
      · rw [if_neg c2, if_neg (by omega)]
end
