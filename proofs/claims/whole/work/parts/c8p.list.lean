/-! a list is made: its pairs -/
set_option maxRecDepth 100000
section
variable {N p U W k a lc s : Nat} {m m0 w w0 : MS} {te : Int64}
theorem endL_e (hs : 0 < s) (hU : U + 2 * s ≤ 500) : hm_Ma_endList N m p (I ((U : Nat) : Int)) (I ((s : Nat) : Int)) te = some (wi (wj m (pq p 2) (U + 2 * s - 1) te) (pq p 4) ((U + 2 * s : Nat) : Int), ()) := by
  unfold hm_Ma_endList hb_Ma_endList_0 hb_Ma_endList_20
  have s1 : I ((U : Nat) : Int) + 2 * I ((s : Nat) : Int) = I ((U + 2 * s : Nat) : Int) := by
    rw [show (2 : Int32) = I 2 from rfl, I_mul, I_add]
    congr 1 <;> omega
  rw [s1, lit0, decI (by omega) (by omega) (by omega) (by omega), decide_eq_false (by omega), br_f, show I ((U + 2 * s : Nat) : Int) - 1 = I ((U + 2 * s - 1 : Nat) : Int) by rw [lit1, I_sub]; congr 1; omega, (I_inb (by omega) (by omega)).mpr ⟨by omega, by omega⟩, ck_t, tnI (n := U + 2 * s - 1) rfl (by omega), wj_e, lt_e, wi_e, lt_e]
/-- there; W: what waits below its ELEMENTS -/
theorem lst_m (h26 : F m0 (pq p 26) = ((W + k + 1 : Nat) : Int)) (hl : F m0 (pq p 45) = ((lc : Nat) : Int)) (hl2 : W + k + 1 ≤ lc ∧ lc ≤ 1000000) (h5 : F m0 1105 = ((a : Nat) : Int)) (ha : a < 24000) (hk : 0 < k) (hU : U + 2 * k ≤ 500) : ∀ (d M : Nat) (m : MS) (s : Nat), s + d = k → FR [] [] [] [pq p 2] m0 m → lsM (m.2.2.2 (pq p 2)) (m0.2.2.2 (pq p 2)) U s (fun i => m0.2.2.2 (pq p 35) (W + i)) → PK (fun m2 (_ : Unit) => FR [pq p 4, pq p 26, pq p 45, 1105] [] [] [pq p 2, pq p 35] m0 m2 ∧ F m2 (pq p 4) = ((U + 2 * k : Nat) : Int) ∧ F m2 (pq p 26) = ((W + 1 : Nat) : Int) ∧ F m2 1105 = ((a + 2 : Nat) : Int) ∧ (∀ i, i < U → m2.2.2.2 (pq p 2) i = m0.2.2.2 (pq p 2) i) ∧ (∀ r, r < k → m2.2.2.2 (pq p 2) (U + 2 * r) = m0.2.2.2 (pq p 35) (W + r) ∧ m2.2.2.2 (pq p 2) (U + 2 * r + 1) = (if r + 1 = k then m0.2.2.2 (pq p 35) (W + k) else mk 7 ((U + 2 * (r + 1) : Nat) : Int))) ∧ ∀ i, i ≤ W → m2.2.2.2 (pq p 35) i = if i = W then mk 7 ((U : Nat) : Int) else m0.2.2.2 (pq p 35) i) (hg_Ma_list N M m p (I ((k : Nat) : Int)) (I ((U : Nat) : Int)) (I ((s : Nat) : Int))) := by
  intro d
  induction d with
  | zero =>
    intro M m s hs fr ls
    have : s = k := by omega
    subst this
    cases M with
    | zero => exact pk_none
    | succ M =>
    show PK _ (hb_Ma_list_44 N (hg_Ma_list N M) m p (I ((s : Nat) : Int)) (I ((U : Nat) : Int)) (I ((s : Nat) : Int)))
    unfold hb_Ma_list_44
    have e26 : F m (pq p 26) = ((W + s + 1 : Nat) : Int) := by rw [FR.F fr (by simp)]; exact h26
    have e45 : F m (pq p 45) = ((lc : Nat) : Int) := by rw [FR.F fr (by simp)]; exact hl
    have j35 : m.2.2.2 (pq p 35) = m0.2.2.2 (pq p 35) := fr.2.2.2 _ (by simp; exact pq_inj (by omega))
    have be : hm_Fr_below N m p 0 = some (m, m0.2.2.2 (pq p 35) (W + s)) := by
      have := below_e (N := N) (x := 0) (k := 0) (W := W + s + 1) (l := lc) e26 e45 hl2.1 hl2.2 rfl (by omega)
      rw [show W + s + 1 - 1 - 0 = W + s by omega, j35] at this
      exact this
    rw [decI (by omega) (by omega) (by omega) (by omega), decide_eq_true (by omega), br_t, be, bnd_so, endL_e hk hU, bnd_so, show (7 : Int32) = I 7 from rfl, e_make, bnd_so, show I ((s : Nat) : Int) + 1 = I ((s + 1 : Nat) : Int) from addN]
    generalize hm1 : wi (wj m (pq p 2) (U + 2 * s - 1) (m0.2.2.2 (pq p 35) (W + s))) (pq p 4) ((U + 2 * s : Nat) : Int) = m1
    have f1 : FR [pq p 4] [] [] [pq p 2] m0 m1 := by
      rw [← hm1]
      exact FR.wi (FR.wj (FR.mo fr (by simp) (by simp) (by simp) (by simp)) (by simp)) (by simp)
    have e4 : F m1 (pq p 4) = ((U + 2 * s : Nat) : Int) := by rw [← hm1, wi_sm (by omega) (by omega)]
    have c1 : ∀ i, m1.2.2.2 (pq p 2) i = if i = U + 2 * s - 1 then m0.2.2.2 (pq p 35) (W + s) else m.2.2.2 (pq p 2) i := fun i => by
      rw [← hm1]
      show (wj m (pq p 2) (U + 2 * s - 1) (m0.2.2.2 (pq p 35) (W + s))).2.2.2 (pq p 2) i = _
      rw [wj_row]
    unfold hm_Ma_answer hb_Ma_answer_0
    have g26 : F m1 (pq p 26) = ((W + s + 1 : Nat) : Int) := by rw [FR.F f1 (by simp; exact pq_inj (by omega))]; exact h26
    rw [drop_e (W := W + s + 1) (k := s + 1) (x := ((s + 1 : Nat) : Int)) g26 rfl (by omega), bnd_so, bb_e, show W + s + 1 - (s + 1) = W by omega]
    have h26' : F (wi m1 (pq p 26) ((W : Nat) : Int)) (pq p 26) = ((W : Nat) : Int) := wi_sm (by omega) (by omega)
    have h45' : F (wi m1 (pq p 26) ((W : Nat) : Int)) (pq p 45) = ((lc : Nat) : Int) := by rw [wi_ne (pq_inj (by omega)), FR.F f1 (by simp; exact pq_inj (by omega))]; exact hl
    refine pk_bnd (pk_mo (push_m (N := N) (t := mk 7 ((U : Nat) : Int)) h26' h45' (by omega) hl2.2) (fun m2 _ hh => ?_))
    obtain ⟨z1, z2, z3⟩ := hh
    rw [bnd_so]
    have e5 : F m2 1105 = ((a : Nat) : Int) := by
      rw [FR.F z1 (by simp [pq_n]), wi_ne (pq_n (by omega)), FR.F f1 (by simp [pq_n])]
      exact h5
    rw [I_F' e5, show I ((a : Nat) : Int) + 2 = I ((a + 2 : Nat) : Int) from addN, wi_e, lt_e]
    have j2 : m2.2.2.2 (pq p 2) = m1.2.2.2 (pq p 2) := z1.2.2.2 _ (by simp; exact pq_inj (by omega))
    refine pk_some ⟨?_, ?_, ?_, wi_sm (by omega) (by omega), fun i hi => ?_, fun r hr => ⟨?_, ?_⟩, fun i hi => ?_⟩
    · exact FR.wi (FR.tr (FR.wi (FR.mo f1 (by simp) (by simp) (by simp) (by simp)) (by simp)) (FR.mo z1 (by simp) (by simp) (by simp) (by simp))) (by simp)
    · rw [wi_ne (fun c => pq_n (by omega) c.symm), FR.F z1 (by simp; exact ⟨pq_inj (by omega), pq_inj (by omega)⟩), wi_ne (pq_inj (by omega))]
      exact e4
    · rw [wi_ne (fun c => pq_n (by omega) c.symm)]
      exact z2
    · show m2.2.2.2 (pq p 2) i = _
      rw [j2, c1, if_neg (by omega)]
      exact ls.1 i hi
    · show m2.2.2.2 (pq p 2) (U + 2 * r) = _
      rw [j2, c1, if_neg (by omega)]
      exact (ls.2 r hr).1
    · show m2.2.2.2 (pq p 2) (U + 2 * r + 1) = _
      rw [j2, c1]
      by_cases c : r + 1 = s
      · rw [if_pos (by omega), if_pos c]
      · rw [if_neg (by omega), if_neg c]
        exact (ls.2 r hr).2
    · show m2.2.2.2 (pq p 35) i = _
      rw [z3 i hi]
      by_cases c : i = W
      · rw [if_pos c, if_pos c]
      · rw [if_neg c, if_neg c]
        show m1.2.2.2 (pq p 35) i = _
        rw [f1.2.2.2 _ (by simp; exact pq_inj (by omega))]
  | succ d ih =>
    intro M m s hs fr ls
    cases M with
    | zero => exact pk_none
    | succ M =>
    show PK _ (hb_Ma_list_44 N (hg_Ma_list N M) m p (I ((k : Nat) : Int)) (I ((U : Nat) : Int)) (I ((s : Nat) : Int)))
    unfold hb_Ma_list_44
    have e26 : F m (pq p 26) = ((W + k + 1 : Nat) : Int) := by rw [FR.F fr (by simp)]; exact h26
    have e45 : F m (pq p 45) = ((lc : Nat) : Int) := by rw [FR.F fr (by simp)]; exact hl
    have j35 : m.2.2.2 (pq p 35) = m0.2.2.2 (pq p 35) := fr.2.2.2 _ (by simp; exact pq_inj (by omega))
    have s1 : I ((U : Nat) : Int) + 2 * I ((s : Nat) : Int) = I ((U + 2 * s : Nat) : Int) := by
      rw [show (2 : Int32) = I 2 from rfl, I_mul, I_add]
      congr 1 <;> omega
    rw [decI (by omega) (by omega) (by omega) (by omega), decide_eq_false (by omega), br_f, show I ((k : Nat) : Int) - I ((s : Nat) : Int) = I ((k - s : Nat) : Int) by rw [I_sub]; congr 1; omega, below_e (k := k - s) (W := W + k + 1) (l := lc) e26 e45 hl2.1 hl2.2 rfl (by omega), bnd_so, j35, show W + k + 1 - 1 - (k - s) = W + s by omega, s1, (I_inb (by omega) (by omega)).mpr ⟨by omega, by omega⟩, ck_t, tnI (n := U + 2 * s) rfl (by omega), wj_e, lt_e, show I ((U + 2 * s : Nat) : Int) + 2 = I ((U + 2 * s + 2 : Nat) : Int) from addN, show (7 : Int32) = I 7 from rfl, e_make, bnd_so, show I ((U + 2 * s : Nat) : Int) + 1 = I ((U + 2 * s + 1 : Nat) : Int) from addN, (I_inb (by omega) (by omega)).mpr ⟨by omega, by omega⟩, ck_t, tnI (n := U + 2 * s + 1) rfl (by omega), wj_e, lt_e, show I ((s : Nat) : Int) + 1 = I ((s + 1 : Nat) : Int) from addN]
    refine ih M _ (s + 1) (by omega) (FR.wj (FR.wj fr (by simp)) (by simp)) ⟨fun i hi => ?_, fun r hr => ?_⟩
    · rw [wj_row, if_neg (by omega), wj_row, if_neg (by omega)]
      exact ls.1 i hi
    · by_cases c : r = s
      · subst c
        rw [wj_row, if_neg (by omega), wj_row, if_pos rfl, wj_row, if_pos rfl]
        exact ⟨rfl, by congr 1⟩
      · rw [wj_row, if_neg (by omega), wj_row, if_neg (by omega), wj_row, if_neg (by omega), wj_row, if_neg (by omega)]
        exact ls.2 r (by omega)
/-- here -/
theorem lst_r (hpp : p < 24) (h133 : F w0 133 = ((p : Nat) : Int)) (hW : W + k ≤ 46000) (hU : U + 2 * k ≤ 500) : ∀ (d M : Nat) (w : MS) (s : Nat) (t : Int64), s + d = k → FR [] [] [89, 92] [88] w0 w → A w 89 p = ((U + 2 * s : Nat) : Int) → A w 92 p = ((W + (k - s) : Nat) : Int) → (∀ r, r ≠ p → A w 89 r = A w0 89 r ∧ A w 92 r = A w0 92 r) → (∀ i, ¬ (500 * p ≤ i ∧ i < 500 * p + 500) → w.2.2.2 88 i = w0.2.2.2 88 i) → lsC (hp w p) (hp w0 p) U s k (fun i => w0.2.2.2 91 (46000 * p + (W + i))) te → t = (if s = 0 then te else mk 7 ((U + 2 * (s - 1) : Nat) : Int)) → PK (fun w2 (_ : Unit) => ∃ w1 : MS, FR [] [] [89, 92] [88] w0 w1 ∧ A w1 89 p = ((U + 2 * k : Nat) : Int) ∧ (∀ r, r ≠ p → A w1 89 r = A w0 89 r ∧ A w1 92 r = A w0 92 r) ∧ (∀ i, ¬ (500 * p ≤ i ∧ i < 500 * p + 500) → w1.2.2.2 88 i = w0.2.2.2 88 i) ∧ lsC (hp w1 p) (hp w0 p) U k k (fun i => w0.2.2.2 91 (46000 * p + (W + i))) te ∧ w2 = wa (wj w1 91 (46000 * p + W) (if k = 0 then te else mk 7 ((U + 2 * (k - 1) : Nat) : Int))) 92 p ((W + 1 : Nat) : Int)) ((gg_M_listRun N M).2 w (I ((k : Nat) : Int)) t (I ((s : Nat) : Int))) := by
  intro d
  induction d with
  | zero =>
    intro M w s t hs fr h89 h92 ho1 ho2 ls ht
    have : s = k := by omega
    subst this
    cases M with
    | zero => exact pk_none
    | succ M =>
    show PK _ (fb_M_listRun_94 N (gg_M_listRun N M) w (I ((s : Nat) : Int)) t (I ((s : Nat) : Int)))
    unfold fb_M_listRun_94
    have x33 : F w 133 = ((p : Nat) : Int) := by rw [FR.F fr (by simp)]; exact h133
    have x92 : A w 92 p = ((W : Nat) : Int) := by rw [h92]; congr 1; omega
    rw [decI (by omega) (by omega) (by omega) (by omega), decide_eq_true (by omega), br_t]
    refine pk_bnd (pk_mo (put_r (N := N) (x := t) hpp x33 x92 (by omega)) (fun w2 _ e => ?_))
    subst e
    exact pk_some ⟨w, fr, h89, ho1, ho2, ls, by rw [ht]⟩
  | succ d ih =>
    intro M w s t hs fr h89 h92 ho1 ho2 ls ht
    cases M with
    | zero => exact pk_none
    | succ M =>
    show PK _ (fb_M_listRun_94 N (gg_M_listRun N M) w (I ((k : Nat) : Int)) t (I ((s : Nat) : Int)))
    unfold fb_M_listRun_94
    have x33 : F w 133 = ((p : Nat) : Int) := by rw [FR.F fr (by simp)]; exact h133
    have x92 : A w 92 p = ((W + (k - 1 - s) + 1 : Nat) : Int) := by rw [h92]; congr 1; omega
    rw [decI (by omega) (by omega) (by omega) (by omega), decide_eq_false (by omega), br_f]
    refine pk_bnd (pk_mo (take_r (N := N) (W := W + (k - 1 - s)) hpp x33 x92 (by omega)) (fun w2 r e => ?_))
    obtain ⟨rfl, rfl⟩ := e
    have y33 : F (wa w 92 p ((W + (k - 1 - s) : Nat) : Int)) 133 = ((p : Nat) : Int) := x33
    have y89 : A (wa w 92 p ((W + (k - 1 - s) : Nat) : Int)) 89 p = ((U + 2 * s : Nat) : Int) := by rw [wa_rne (by omega)]; exact h89
    refine pk_bnd (pk_mo (pair_r (N := N) (w := wa w 92 p ((W + (k - 1 - s) : Nat) : Int)) (U := U + 2 * s) hpp y33 y89 (by omega)) (fun w3 r e => ?_))
    obtain ⟨rfl, rfl⟩ := e
    rw [show (7 : Int32) = I 7 from rfl, term_e, bnd_so, show I ((s : Nat) : Int) + 1 = I ((s + 1 : Nat) : Int) from addN]
    have ls' : lsC (hp (wa w 92 p ((W + (k - 1 - s) : Nat) : Int)) p) (hp w0 p) U s k (fun i => w0.2.2.2 91 (46000 * p + (W + i))) te := ls
    refine ih M _ (s + 1) _ (by omega) ?_ ?_ ?_ (fun r hr => ⟨?_, ?_⟩) (fun i hi => ?_) (lsC_s ls' ?_ ht) ?_
    · exact FR.wa (FR.wj (FR.wj (FR.wa fr (by simp)) (by simp)) (by simp)) (by simp)
    · rw [wa_sm (by omega) (by omega)]
      congr 1
    · rw [wa_rne (by omega)]
      show A (wa w 92 p ((W + (k - 1 - s) : Nat) : Int)) 92 p = _
      rw [wa_sm (by omega) (by omega)]
      congr 1
      omega
    · rw [wa_ro (by omega) (by omega), if_neg hr]
      show A (wa w 92 p ((W + (k - 1 - s) : Nat) : Int)) 89 r = _
      rw [wa_rne (by omega)]
      exact (ho1 r hr).1
    · rw [wa_rne (by omega)]
      show A (wa w 92 p ((W + (k - 1 - s) : Nat) : Int)) 92 r = _
      rw [wa_ro (by omega) (by omega), if_neg hr]
      exact (ho1 r hr).2
    · show (wj (wj (wa w 92 p ((W + (k - 1 - s) : Nat) : Int)) 88 (500 * p + (U + 2 * s)) _) 88 (500 * p + (U + 2 * s) + 1) t).2.2.2 88 i = _
      rw [wj_row, if_neg (by omega), wj_row, if_neg (by omega)]
      exact ho2 i hi
    · rw [fr.2.2.2 91 (by simp)]
    · rw [if_neg (by omega), show s + 1 - 1 = s by omega]
end
