/-! what is taken away of a list: what is kept, there -/
set_option maxRecDepth 100000
section
variable {N p U W C k a lc : Nat} {m m0 : MS} {t1 te : Int64} {fl : Nat → Bool} {tt : Nat → Int64}
/-- a term is the answer instead of two, there -/
theorem ans_g (h26 : F m (pq p 26) = ((W + 2 : Nat) : Int)) (hl : F m (pq p 45) = ((lc : Nat) : Int)) (hl2 : W + 2 ≤ lc ∧ lc ≤ 1000000) (h5 : F m 1105 = ((a : Nat) : Int)) (ha : a < 24000) : PK (fun m7 (_ : Unit) => FR [pq p 26, pq p 45, 1105] [] [] [pq p 35] m m7 ∧ F m7 (pq p 26) = ((W + 1 : Nat) : Int) ∧ F m7 1105 = ((a + 2 : Nat) : Int) ∧ ∀ i, i ≤ W → m7.2.2.2 (pq p 35) i = if i = W then te else m.2.2.2 (pq p 35) i) (bnd (hm_Ma_answer N m p 2 te) (fun u51 _ => lt (upI u51 1105 ((u51.1 1105) + 2)) (fun w53 => some (w53, ())))) := by
  unfold hm_Ma_answer hb_Ma_answer_0
  rw [show (2 : Int32) = I ((2 : Nat) : Int) from rfl, drop_e (W := W + 2) (k := 2) (x := ((2 : Nat) : Int)) h26 rfl (by omega), bnd_so, bb_e, show W + 2 - 2 = W by omega]
  have h26' : F (wi m (pq p 26) ((W : Nat) : Int)) (pq p 26) = ((W : Nat) : Int) := wi_sm (by omega) (by omega)
  have h45' : F (wi m (pq p 26) ((W : Nat) : Int)) (pq p 45) = ((lc : Nat) : Int) := by rw [wi_ne (pq_inj (by omega))]; exact hl
  refine pk_bnd (pk_mo (push_m (N := N) (t := te) h26' h45' (by omega) hl2.2) (fun m2 _ hh => ?_))
  obtain ⟨z1, z2, z3⟩ := hh
  rw [bnd_so]
  have e5 : F m2 1105 = ((a : Nat) : Int) := by
    rw [FR.F z1 (by simp [pq_n]), wi_ne (pq_n (by omega))]
    exact h5
  rw [I_F' e5, show I ((a : Nat) : Int) + I ((2 : Nat) : Int) = I ((a + 2 : Nat) : Int) from addN, wi_e, lt_e]
  refine pk_some ⟨FR.wi (FR.tr (FR.wi FR.rf (by simp)) (FR.mo z1 (by simp) (by simp) (by simp) (by simp))) (by simp), ?_, wi_sm (by omega) (by omega), fun i hi => ?_⟩
  · rw [wi_ne (fun c => pq_n (by omega) c.symm)]
    exact z2
  · show m2.2.2.2 (pq p 35) i = _
    rw [z3 i hi]
    rfl
/-- the end of a list, there -/
theorem endl_g (hU : U + 2 * C ≤ 500) : ∃ m1 : MS, hm_Ma_endList N m p (I ((U : Nat) : Int)) (I ((C : Nat) : Int)) te = some (wi m1 (pq p 4) ((U + 2 * C : Nat) : Int), ()) ∧ FR [] [] [] [pq p 2] m m1 ∧ ∀ i, m1.2.2.2 (pq p 2) i = if 0 < C ∧ i = U + 2 * C - 1 then te else m.2.2.2 (pq p 2) i := by
  by_cases c : C = 0
  · subst c
    unfold hm_Ma_endList hb_Ma_endList_0 hb_Ma_endList_20
    have s1 : I ((U : Nat) : Int) + 2 * I ((0 : Nat) : Int) = I ((U + 2 * 0 : Nat) : Int) := by
      rw [show (2 : Int32) = I 2 from rfl, I_mul, I_add]
      congr 1
    rw [s1, show decide (I ((0 : Nat) : Int) ≤ 0) = true from rfl, br_t, wi_e, lt_e]
    exact ⟨m, rfl, FR.rf, fun i => by rw [if_neg (by omega)]⟩
  · refine ⟨wj m (pq p 2) (U + 2 * C - 1) te, endL_e (by omega) hU, FR.wj FR.rf (by simp), fun i => ?_⟩
    rw [wj_row]
    by_cases c2 : i = U + 2 * C - 1
    · rw [if_pos c2, if_pos ⟨by omega, c2⟩]
    · rw [if_neg c2, if_neg (fun z => c2 z.2)]
/-- the pairs of what is kept, there -/
theorem wo_m (h26 : F m0 (pq p 26) = ((W + 2 : Nat) : Int)) (hl : F m0 (pq p 45) = ((lc : Nat) : Int)) (hl2 : W + 2 ≤ lc ∧ lc ≤ 1000000) (h5 : F m0 1105 = ((a : Nat) : Int)) (ha : a < 24000) (hk : k ≤ 1000) (hC : C = cnk fl k) (hU : U + 2 * C ≤ 500) (hf : ∀ i, i < k → m0.2.2.2 44 i = (if fl i = true then 1 else 0)) (hts : ∀ i, i < k → va (tlc (m0.2.2.2 (pq p 2)) t1 i) = ((vn (tlc (m0.2.2.2 (pq p 2)) t1 i) : Nat) : Int) ∧ vn (tlc (m0.2.2.2 (pq p 2)) t1 i) + 2 ≤ U) (htt : ∀ i, i < k → fl i = false → tt (cnk fl i) = m0.2.2.2 (pq p 2) (vn (tlc (m0.2.2.2 (pq p 2)) t1 i))) : ∀ (d M : Nat) (m : MS) (i : Nat), i + d = k → FR [] [] [] [pq p 2] m0 m → lsM (m.2.2.2 (pq p 2)) (m0.2.2.2 (pq p 2)) U (cnk fl i) tt → PK (fun m2 (_ : Unit) => LMm m0 m2 p U C W tt (tlc (m0.2.2.2 (pq p 2)) t1 k) ∧ F m2 1105 = ((a + 2 : Nat) : Int)) ((hg_Ma_without N M).2 m p (I ((k : Nat) : Int)) (I ((U : Nat) : Int)) (I ((cnk fl i : Nat) : Int)) (tlc (m0.2.2.2 (pq p 2)) t1 i) (I ((i : Nat) : Int))) := by
  intro d
  induction d with
  | zero =>
    intro M m i hi fr ls
    have : i = k := by omega
    subst this
    cases M with
    | zero => exact pk_none
    | succ M =>
    show PK _ (hb_Ma_without_150 N (hg_Ma_without N M) m p (I ((i : Nat) : Int)) (I ((U : Nat) : Int)) (I ((cnk fl i : Nat) : Int)) (tlc (m0.2.2.2 (pq p 2)) t1 i) (I ((i : Nat) : Int)))
    unfold hb_Ma_without_150 hb_Ma_without_281
    rw [decI (by omega) (by omega) (by omega) (by omega), decide_eq_true (by omega), br_t, ← hC]
    rw [← hC] at ls
    obtain ⟨m1, el, f1, c1⟩ := endl_g (N := N) (p := p) (m := m) (te := tlc (m0.2.2.2 (pq p 2)) t1 i) hU
    rw [el, bnd_so]
    have fr1 : FR [] [] [] [pq p 2] m0 m1 := FR.tr fr f1
    have tail : ∀ x : Int64, x = (if C = 0 then tlc (m0.2.2.2 (pq p 2)) t1 i else mk 7 ((U : Nat) : Int)) → PK (fun m2 (_ : Unit) => LMm m0 m2 p U C W tt (tlc (m0.2.2.2 (pq p 2)) t1 i) ∧ F m2 1105 = ((a + 2 : Nat) : Int)) (bnd (hm_Ma_answer N (wi m1 (pq p 4) ((U + 2 * C : Nat) : Int)) p 2 x) (fun u1 _ => lt (upI u1 1105 ((u1.1 1105) + 2)) (fun w3 => some (w3, ())))) := fun x hx => by
      have e26 : F (wi m1 (pq p 4) ((U + 2 * C : Nat) : Int)) (pq p 26) = ((W + 2 : Nat) : Int) := by rw [wi_ne (pq_inj (by omega)), FR.F fr1 (by simp)]; exact h26
      have e45 : F (wi m1 (pq p 4) ((U + 2 * C : Nat) : Int)) (pq p 45) = ((lc : Nat) : Int) := by rw [wi_ne (pq_inj (by omega)), FR.F fr1 (by simp)]; exact hl
      have e5 : F (wi m1 (pq p 4) ((U + 2 * C : Nat) : Int)) 1105 = ((a : Nat) : Int) := by rw [wi_ne (pq_n (by omega)), FR.F fr1 (by simp)]; exact h5
      refine pk_mo (ans_g (N := N) (te := x) e26 e45 hl2 e5 ha) (fun m7 _ hh => ?_)
      obtain ⟨z1, z2, z3, z4⟩ := hh
      have j2 : m7.2.2.2 (pq p 2) = m1.2.2.2 (pq p 2) := z1.2.2.2 _ (by simp; exact pq_inj (by omega))
      refine ⟨⟨?_, ?_, z2, fun r hr => ?_, fun r hr => ⟨?_, ?_⟩, fun r hr => ?_⟩, z3⟩
      · exact FR.tr (FR.wi (FR.mo fr1 (by simp) (by simp) (by simp) (by simp)) (by simp)) (FR.mo z1 (by simp) (by simp) (by simp) (by simp))
      · rw [FR.F z1 (by
          simp only [List.mem_cons, List.not_mem_nil, or_false]
          intro c
          rcases c with c | c | c
          · exact pq_inj (by omega) c
          · exact pq_inj (by omega) c
          · exact pq_n (by omega) c.symm), wi_sm (by omega) (by omega)]
      · rw [j2, c1, if_neg (by omega)]
        exact ls.1 r hr
      · rw [j2, c1, if_neg (by omega)]
        exact (ls.2 r hr).1
      · rw [j2, c1]
        by_cases c : r + 1 = C
        · rw [if_pos (by omega), if_pos c]
        · rw [if_neg (by omega), if_neg c]
          exact (ls.2 r hr).2
      · rw [z4 r hr, ← hx]
        by_cases c : r = W
        · rw [if_pos c, if_pos c]
        · rw [if_neg c, if_neg c]
          show m1.2.2.2 (pq p 35) r = _
          rw [fr1.2.2.2 _ (by simp; exact pq_inj (by omega))]
    by_cases c : C = 0
    · rw [show decide (I ((C : Nat) : Int) = 0) = true from by rw [lit0, decE (by omega) (by omega) (by omega) (by omega)]; exact decide_eq_true (by omega), br_t]
      exact tail _ (by rw [if_pos c])
    · rw [show decide (I ((C : Nat) : Int) = 0) = false from by rw [lit0, decE (by omega) (by omega) (by omega) (by omega)]; exact decide_eq_false (by omega), br_f, show (7 : Int32) = I 7 from rfl, e_make, bnd_so]
      exact tail _ (by rw [if_neg c])
  | succ d ih =>
    intro M m i hi fr ls
    cases M with
    | zero => exact pk_none
    | succ M =>
    show PK _ (hb_Ma_without_150 N (hg_Ma_without N M) m p (I ((k : Nat) : Int)) (I ((U : Nat) : Int)) (I ((cnk fl i : Nat) : Int)) (tlc (m0.2.2.2 (pq p 2)) t1 i) (I ((i : Nat) : Int)))
    unfold hb_Ma_without_150 hb_Ma_without_231
    obtain ⟨v1, v2⟩ := hts i (by omega)
    have s1 : I ((U : Nat) : Int) + 2 * I ((cnk fl i : Nat) : Int) = I ((U + 2 * cnk fl i : Nat) : Int) := by
      rw [show (2 : Int32) = I 2 from rfl, I_mul, I_add]
      congr 1 <;> omega
    have j44 : m.2.2.2 44 i = (if fl i = true then 1 else 0) := by rw [fr.2.2.2 44 (by simp; exact fun c => pq_n (by omega) c)]; exact hf i (by omega)
    have cm := cnk_m (fl := fl) (show i + 1 ≤ k by omega)
    rw [decI (by omega) (by omega) (by omega) (by omega), decide_eq_false (by omega), br_f]
    refine pk_ck (fun _ => ?_)
    rw [tnI (n := i) rfl (by omega), j44]
    cases hfi : fl i with
    | true =>
      rw [show (if true = true then (1 : Int64) else 0) = 1 from rfl, dec_lg0 (by decide), br_f, valI, v1, show I ((vn (tlc (m0.2.2.2 (pq p 2)) t1 i) : Nat) : Int) + 1 = I ((vn (tlc (m0.2.2.2 (pq p 2)) t1 i) + 1 : Nat) : Int) from addN]
      refine pk_ck (fun _ => ?_)
      rw [tnI (n := vn (tlc (m0.2.2.2 (pq p 2)) t1 i) + 1) rfl (by omega), ls.1 _ (by omega), show I ((i : Nat) : Int) + 1 = I ((i + 1 : Nat) : Int) from addN]
      have := ih M m (i + 1) (by omega) fr (by rw [cnk_f hfi]; exact ls)
      rw [cnk_f hfi] at this
      exact this
    | false =>
      have ce := cnk_s hfi
      rw [show (if false = true then (1 : Int64) else 0) = 0 from rfl, dec_lg rfl, br_t, valI, v1, s1]
      refine pk_ck (fun _ => pk_ck (fun _ => ?_))
      rw [tnI (n := U + 2 * cnk fl i) rfl (by omega), tnI (n := vn (tlc (m0.2.2.2 (pq p 2)) t1 i)) rfl (by omega), wj_e, lt_e, show I ((U + 2 * cnk fl i : Nat) : Int) + 2 = I ((U + 2 * cnk fl i + 2 : Nat) : Int) from addN, show (7 : Int32) = I 7 from rfl, e_make, bnd_so, show I ((U + 2 * cnk fl i : Nat) : Int) + 1 = I ((U + 2 * cnk fl i + 1 : Nat) : Int) from addN]
      refine pk_ck (fun _ => ?_)
      rw [tnI (n := U + 2 * cnk fl i + 1) rfl (by omega), wj_e, lt_e, show I ((vn (tlc (m0.2.2.2 (pq p 2)) t1 i) : Nat) : Int) + 1 = I ((vn (tlc (m0.2.2.2 (pq p 2)) t1 i) + 1 : Nat) : Int) from addN]
      refine pk_ck (fun _ => ?_)
      rw [tnI (n := vn (tlc (m0.2.2.2 (pq p 2)) t1 i) + 1) rfl (by omega), show I ((i : Nat) : Int) + 1 = I ((i + 1 : Nat) : Int) from addN, wj_row, if_neg (by omega), wj_row, if_neg (by omega), ls.1 _ (show vn (tlc (m0.2.2.2 (pq p 2)) t1 i) + 1 < U by omega), ls.1 _ (show vn (tlc (m0.2.2.2 (pq p 2)) t1 i) < U by omega), show I ((cnk fl i : Nat) : Int) + 1 = I ((cnk fl (i + 1) : Nat) : Int) from by rw [ce]; exact addN]
      refine ih M _ (i + 1) (by omega) (FR.wj (FR.wj fr (by simp)) (by simp)) ⟨fun r hr => ?_, fun r hr => ?_⟩
      · rw [wj_row, if_neg (by omega), wj_row, if_neg (by omega)]
        exact ls.1 r hr
      · by_cases c : r = cnk fl i
        · subst c
          rw [wj_row, if_neg (by omega), wj_row, if_pos rfl, wj_row, if_pos rfl]
          exact ⟨(htt i (by omega) hfi).symm, by congr 1⟩
        · rw [wj_row, if_neg (by omega), wj_row, if_neg (by omega), wj_row, if_neg (by omega), wj_row, if_neg (by omega)]
          exact ls.2 r (by omega)
end
