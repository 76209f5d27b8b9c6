/-! two lists become one -/
set_option maxRecDepth 100000
section
variable {N p U W k a lc : Nat} {m m0 : MS} {t1 : Int64}
/-- there: its pairs, from the first on -/
theorem jn_m (h26 : F m0 (pq p 26) = ((W + 2 : Nat) : Int)) (hl : F m0 (pq p 45) = ((lc : Nat) : Int)) (hl2 : W + 2 ≤ lc ∧ lc ≤ 1000000) (h5 : F m0 1105 = ((a : Nat) : Int)) (ha : a < 24000) (hk : 0 < k) (hU : U + 2 * k ≤ 500) (hts : ∀ i, i < k → va (tlc (m0.2.2.2 (pq p 2)) t1 i) = ((vn (tlc (m0.2.2.2 (pq p 2)) t1 i) : Nat) : Int) ∧ vn (tlc (m0.2.2.2 (pq p 2)) t1 i) + 2 ≤ U) : ∀ (d M : Nat) (m : MS) (s : Nat), s + d = k → FR [] [] [] [pq p 2] m0 m → lsM (m.2.2.2 (pq p 2)) (m0.2.2.2 (pq p 2)) U s (fun i => m0.2.2.2 (pq p 2) (vn (tlc (m0.2.2.2 (pq p 2)) t1 i))) → PK (fun m2 (_ : Unit) => FR [pq p 4, pq p 26, pq p 45, 1105] [] [] [pq p 2, pq p 35] m0 m2 ∧ F m2 (pq p 4) = ((U + 2 * k : Nat) : Int) ∧ F m2 (pq p 26) = ((W + 1 : Nat) : Int) ∧ F m2 1105 = ((a + 2 : Nat) : Int) ∧ (∀ i, i < U → m2.2.2.2 (pq p 2) i = m0.2.2.2 (pq p 2) i) ∧ (∀ r, r < k → m2.2.2.2 (pq p 2) (U + 2 * r) = m0.2.2.2 (pq p 2) (vn (tlc (m0.2.2.2 (pq p 2)) t1 r)) ∧ m2.2.2.2 (pq p 2) (U + 2 * r + 1) = (if r + 1 = k then m0.2.2.2 (pq p 35) (W + 1) else mk 7 ((U + 2 * (r + 1) : Nat) : Int))) ∧ ∀ i, i ≤ W → m2.2.2.2 (pq p 35) i = if i = W then mk 7 ((U : Nat) : Int) else m0.2.2.2 (pq p 35) i) (hg_Ma_join N M m p (I ((k : Nat) : Int)) (I ((U : Nat) : Int)) (tlc (m0.2.2.2 (pq p 2)) t1 s) (I ((s : Nat) : Int))) := by
  intro d
  induction d with
  | zero =>
    intro M m s hs fr ls
    have : s = k := by omega
    subst this
    cases M with
    | zero => exact pk_none
    | succ M =>
    show PK _ (hb_Ma_join_106 N (hg_Ma_join N M) m p (I ((s : Nat) : Int)) (I ((U : Nat) : Int)) (tlc (m0.2.2.2 (pq p 2)) t1 s) (I ((s : Nat) : Int)))
    unfold hb_Ma_join_106
    have e26 : F m (pq p 26) = ((W + 2 : Nat) : Int) := by rw [FR.F fr (by simp)]; exact h26
    have e45 : F m (pq p 45) = ((lc : Nat) : Int) := by rw [FR.F fr (by simp)]; exact hl
    have j35 : m.2.2.2 (pq p 35) = m0.2.2.2 (pq p 35) := fr.2.2.2 _ (by simp; exact pq_inj (by omega))
    have be : hm_Fr_below N m p 0 = some (m, m0.2.2.2 (pq p 35) (W + 1)) := by
      have := below_e (N := N) (x := 0) (k := 0) (W := W + 2) (l := lc) e26 e45 hl2.1 hl2.2 rfl (by omega)
      rw [show W + 2 - 1 - 0 = W + 1 by omega, j35] at this
      exact this
    rw [decI (by omega) (by omega) (by omega) (by omega), decide_eq_true (by omega), br_t, be, bnd_so, endL_e hk hU, bnd_so, show (7 : Int32) = I 7 from rfl, e_make, bnd_so, show (2 : Int32) = I ((2 : Nat) : Int) from rfl]
    generalize hm1 : wi (wj m (pq p 2) (U + 2 * s - 1) (m0.2.2.2 (pq p 35) (W + 1))) (pq p 4) ((U + 2 * s : Nat) : Int) = m1
    have f1 : FR [pq p 4] [] [] [pq p 2] m0 m1 := by
      rw [← hm1]
      exact FR.wi (FR.wj (FR.mo fr (by simp) (by simp) (by simp) (by simp)) (by simp)) (by simp)
    have e4 : F m1 (pq p 4) = ((U + 2 * s : Nat) : Int) := by rw [← hm1, wi_sm (by omega) (by omega)]
    have c1 : ∀ i, m1.2.2.2 (pq p 2) i = if i = U + 2 * s - 1 then m0.2.2.2 (pq p 35) (W + 1) else m.2.2.2 (pq p 2) i := fun i => by
      rw [← hm1]
      show (wj m (pq p 2) (U + 2 * s - 1) (m0.2.2.2 (pq p 35) (W + 1))).2.2.2 (pq p 2) i = _
      rw [wj_row]
    unfold hm_Ma_answer hb_Ma_answer_0
    have g26 : F m1 (pq p 26) = ((W + 2 : Nat) : Int) := by rw [FR.F f1 (by simp; exact pq_inj (by omega))]; exact h26
    rw [drop_e (W := W + 2) (k := 2) (x := ((2 : Nat) : Int)) g26 rfl (by omega), bnd_so, bb_e, show W + 2 - 2 = W by omega]
    have h26' : F (wi m1 (pq p 26) ((W : Nat) : Int)) (pq p 26) = ((W : Nat) : Int) := wi_sm (by omega) (by omega)
    have h45' : F (wi m1 (pq p 26) ((W : Nat) : Int)) (pq p 45) = ((lc : Nat) : Int) := by rw [wi_ne (pq_inj (by omega)), FR.F f1 (by simp; exact pq_inj (by omega))]; exact hl
    refine pk_bnd (pk_mo (push_m (N := N) (t := mk 7 ((U : Nat) : Int)) h26' h45' (by omega) hl2.2) (fun m2 _ hh => ?_))
    obtain ⟨z1, z2, z3⟩ := hh
    rw [bnd_so]
    have e5 : F m2 1105 = ((a : Nat) : Int) := by
      rw [FR.F z1 (by simp [pq_n]), wi_ne (pq_n (by omega)), FR.F f1 (by simp [pq_n])]
      exact h5
    rw [I_F' e5, show I ((a : Nat) : Int) + I ((2 : Nat) : Int) = I ((a + 2 : Nat) : Int) from addN, wi_e, lt_e]
    have j2 : m2.2.2.2 (pq p 2) = m1.2.2.2 (pq p 2) := z1.2.2.2 _ (by simp; exact pq_inj (by omega))
    refine pk_some ⟨?_, ?_, ?_, wi_sm (by omega) (by omega), fun i hi => ?_, fun r hr => ⟨?_, ?_⟩, fun i hi => ?_⟩
    · exact FR.wi (FR.tr (FR.wi (FR.mo f1 (by simp) (by simp) (by simp) (by simp)) (by simp)) (FR.mo z1 (by simp) (by simp) (by simp) (by simp))) (by simp)
    · rw [wi_ne (fun c => pq_n (by omega) c.symm), FR.F z1 (by simp; exact ⟨pq_inj (by omega), pq_inj (by omega)⟩), wi_ne (pq_inj (by omega))]
      exact e4
    · rw [wi_ne (fun c => pq_n (by omega) c.symm)]
      exact z2
    · show m2.2.2.2 (pq p 2) i = _
      rw [j2, c1, if_neg (by omega)]
      exact ls.1 i hi
    · show m2.2.2.2 (pq p 2) (U + 2 * r) = _
      rw [j2, c1, if_neg (by omega)]
      exact (ls.2 r hr).1
    · show m2.2.2.2 (pq p 2) (U + 2 * r + 1) = _
      rw [j2, c1]
      by_cases c : r + 1 = s
      · rw [if_pos (by omega), if_pos c]
      · rw [if_neg (by omega), if_neg c]
        exact (ls.2 r hr).2
    · show m2.2.2.2 (pq p 35) i = _
      rw [z3 i hi]
      by_cases c : i = W
      · rw [if_pos c, if_pos c]
      · rw [if_neg c, if_neg c]
        show m1.2.2.2 (pq p 35) i = _
        rw [f1.2.2.2 _ (by simp; exact pq_inj (by omega))]
  | succ d ih =>
    intro M m s hs fr ls
    cases M with
    | zero => exact pk_none
    | succ M =>
    show PK _ (hb_Ma_join_106 N (hg_Ma_join N M) m p (I ((k : Nat) : Int)) (I ((U : Nat) : Int)) (tlc (m0.2.2.2 (pq p 2)) t1 s) (I ((s : Nat) : Int)))
    unfold hb_Ma_join_106
    obtain ⟨v1, v2⟩ := hts s (by omega)
    have s1 : I ((U : Nat) : Int) + 2 * I ((s : Nat) : Int) = I ((U + 2 * s : Nat) : Int) := by
      rw [show (2 : Int32) = I 2 from rfl, I_mul, I_add]
      congr 1 <;> omega
    rw [decI (by omega) (by omega) (by omega) (by omega), decide_eq_false (by omega), br_f, valI, v1, s1, (I_inb (by omega) (by omega)).mpr ⟨by omega, by omega⟩, ck_t, (I_inb (by omega) (by omega)).mpr ⟨by omega, by omega⟩, ck_t, tnI (n := U + 2 * s) rfl (by omega), tnI (n := vn (tlc (m0.2.2.2 (pq p 2)) t1 s)) rfl (by omega), wj_e, lt_e, show I ((U + 2 * s : Nat) : Int) + 2 = I ((U + 2 * s + 2 : Nat) : Int) from addN, show (7 : Int32) = I 7 from rfl, e_make, bnd_so, show I ((U + 2 * s : Nat) : Int) + 1 = I ((U + 2 * s + 1 : Nat) : Int) from addN, (I_inb (by omega) (by omega)).mpr ⟨by omega, by omega⟩, ck_t, tnI (n := U + 2 * s + 1) rfl (by omega), wj_e, lt_e, show I ((vn (tlc (m0.2.2.2 (pq p 2)) t1 s) : Nat) : Int) + 1 = I ((vn (tlc (m0.2.2.2 (pq p 2)) t1 s) + 1 : Nat) : Int) from addN, (I_inb (by omega) (by omega)).mpr ⟨by omega, by omega⟩, ck_t, tnI (n := vn (tlc (m0.2.2.2 (pq p 2)) t1 s) + 1) rfl (by omega), show I ((s : Nat) : Int) + 1 = I ((s + 1 : Nat) : Int) from addN, wj_row, if_neg (by omega), wj_row, if_neg (by omega), ls.1 _ (show vn (tlc (m0.2.2.2 (pq p 2)) t1 s) + 1 < U by omega), ls.1 _ (show vn (tlc (m0.2.2.2 (pq p 2)) t1 s) < U by omega)]
    refine ih M _ (s + 1) (by omega) (FR.wj (FR.wj fr (by simp)) (by simp)) ⟨fun i hi => ?_, fun r hr => ?_⟩
    · rw [wj_row, if_neg (by omega), wj_row, if_neg (by omega)]
      exact ls.1 i hi
    · by_cases c : r = s
      · subst c
        rw [wj_row, if_neg (by omega), wj_row, if_pos rfl, wj_row, if_pos rfl]
        exact ⟨rfl, by congr 1⟩
      · rw [wj_row, if_neg (by omega), wj_row, if_neg (by omega), wj_row, if_neg (by omega), wj_row, if_neg (by omega)]
        exact ls.2 r (by omega)
end
