/-! a STRING is made -/
set_option maxRecDepth 100000
/-- pairs that have been made, here: from the last on -/
def lsC (h h0 : Nat → Int64) (U s l : Nat) (xx : Nat → Int64) (te : Int64) : Prop := (∀ i, i < U → h i = h0 i) ∧ ∀ r, r < s → h (U + 2 * r) = xx (l - 1 - r) ∧ h (U + 2 * r + 1) = (if r = 0 then te else mk 7 ((U + 2 * (r - 1) : Nat) : Int))
/-- there: from the first on -/
def lsM (h h0 : Nat → Int64) (U s : Nat) (tt : Nat → Int64) : Prop := (∀ i, i < U → h i = h0 i) ∧ ∀ r, r < s → h (U + 2 * r) = tt r ∧ h (U + 2 * r + 1) = mk 7 ((U + 2 * (r + 1) : Nat) : Int)
section
variable {N p U l : Nat} {m w w0 m0 : MS} {x t te : Int64} {xx tt : Nat → Int64}
/-- a pair, here -/
theorem pair_r (hpp : p < 24) (h133 : F w 133 = ((p : Nat) : Int)) (h89 : A w 89 p = ((U : Nat) : Int)) (hU : U + 2 ≤ 500) : PK (fun w2 r => w2 = wa (wj (wj w 88 (500 * p + U) x) 88 (500 * p + U + 1) t) 89 p ((U + 2 : Nat) : Int) ∧ r = I ((U : Nat) : Int)) (fm_M_pair N w x t) := by
  unfold fm_M_pair fb_M_pair_0
  have s1 : I ((p : Nat) : Int) * 500 + I ((U : Nat) : Int) = I ((500 * p + U : Nat) : Int) := by
    rw [show (500 : Int32) = I 500 from rfl, I_mul, I_add]
    congr 1
    omega
  have s2 : I ((500 * p + U : Nat) : Int) + 1 = I ((500 * p + U + 1 : Nat) : Int) := addN
  refine pk_ck (fun _ => ?_)
  rw [I_F' h133, tnI (n := p) rfl (by omega), I_A' h89, lt_e, s1]
  refine pk_ck (fun _ => ?_)
  rw [tnI (n := 500 * p + U) rfl (by omega), wj_e, lt_e]
  have e1 : F (wj w 88 (500 * p + U) x) 133 = ((p : Nat) : Int) := h133
  rw [I_F' e1, s1, s2]
  refine pk_ck (fun _ => ?_)
  rw [tnI (n := 500 * p + U + 1) rfl (by omega), wj_e, lt_e]
  have e2 : F (wj (wj w 88 (500 * p + U) x) 88 (500 * p + U + 1) t) 133 = ((p : Nat) : Int) := h133
  have e3 : A (wj (wj w 88 (500 * p + U) x) 88 (500 * p + U + 1) t) 89 p = ((U : Nat) : Int) := h89
  refine pk_ck (fun _ => pk_ck (fun _ => ?_))
  rw [I_F' e2, tnI (n := p) rfl (by omega), I_A' e3, show I ((U : Nat) : Int) + 2 = I ((U + 2 : Nat) : Int) from addN, wa_e, lt_e]
  exact pk_some ⟨rfl, rfl⟩
theorem hp_pair {i : Nat} {z : Int} : hp (wa (wj (wj w 88 (500 * p + U) x) 88 (500 * p + U + 1) t) 89 p z) p i = if i = U + 1 then t else if i = U then x else hp w p i := by
  show (wj (wj w 88 (500 * p + U) x) 88 (500 * p + U + 1) t).2.2.2 88 (500 * p + i) = _
  rw [wj_row]
  by_cases c : i = U + 1
  · rw [if_pos c, if_pos (by omega)]
  · rw [if_neg c, if_neg (by omega), wj_row]
    by_cases c2 : i = U
    · rw [if_pos c2, if_pos (by omega)]
    · rw [if_neg c2, if_neg (by omega)]
      rfl
/-- one pair more, here -/
theorem lsC_s {s : Nat} {z : Int} (h : lsC (hp w p) (hp w0 p) U s l xx te) (hx : x = xx (l - 1 - s)) (ht : t = (if s = 0 then te else mk 7 ((U + 2 * (s - 1) : Nat) : Int))) : lsC (hp (wa (wj (wj w 88 (500 * p + (U + 2 * s)) x) 88 (500 * p + (U + 2 * s) + 1) t) 89 p z) p) (hp w0 p) U (s + 1) l xx te := by
  refine ⟨fun i hi => ?_, fun r hr => ?_⟩
  · rw [hp_pair, if_neg (by omega), if_neg (by omega)]
    exact h.1 i hi
  · by_cases c : r = s
    · subst c
      rw [hp_pair, if_neg (by omega), if_pos rfl, hp_pair, if_pos rfl]
      exact ⟨hx, ht⟩
    · obtain ⟨a1, a2⟩ := h.2 r (by omega)
      rw [hp_pair, if_neg (by omega), if_neg (by omega), hp_pair, if_neg (by omega), if_neg (by omega)]
      exact ⟨a1, a2⟩
/-- what only these writes change -/
theorem FR_pair {i : Nat} {z : Int} (f : FR [] [] [89] [88] w0 w) : FR [] [] [89] [88] w0 (wa (wj (wj w 88 i x) 88 (i + 1) t) 89 p z) := FR.wa (FR.wj (FR.wj f (by simp)) (by simp)) (by simp)
end
section
variable {N p U W l s0 bb : Nat} {w w0 : MS} {te : Int64}
/-- signs of a STRING become a list, here -/
theorem str_r (hpp : p < 24) (h133 : F w0 133 = ((p : Nat) : Int)) (h92 : A w0 92 p = ((W : Nat) : Int)) (hW : W ≤ 46000) (h19 : A w0 19 s0 = ((bb : Nat) : Int)) (hs0 : s0 < 100000) (hbl : bb + l < 1000000) (hU : U + 2 * l ≤ 500) : ∀ (d M : Nat) (w : MS) (s : Nat) (t : Int64), s + d = l → FR [] [] [89] [88] w0 w → A w 89 p = ((U + 2 * s : Nat) : Int) → (∀ r, r ≠ p → A w 89 r = A w0 89 r) → (∀ i, ¬ (500 * p ≤ i ∧ i < 500 * p + 500) → w.2.2.2 88 i = w0.2.2.2 88 i) → lsC (hp w p) (hp w0 p) U s l (fun i => mk 0 (A w0 18 (bb + i))) te → t = (if s = 0 then te else mk 7 ((U + 2 * (s - 1) : Nat) : Int)) → PK (fun w2 (_ : Unit) => ∃ w1 : MS, FR [] [] [89] [88] w0 w1 ∧ A w1 89 p = ((U + 2 * l : Nat) : Int) ∧ (∀ r, r ≠ p → A w1 89 r = A w0 89 r) ∧ (∀ i, ¬ (500 * p ≤ i ∧ i < 500 * p + 500) → w1.2.2.2 88 i = w0.2.2.2 88 i) ∧ lsC (hp w1 p) (hp w0 p) U l l (fun i => mk 0 (A w0 18 (bb + i))) te ∧ w2 = wa (wj w1 91 (46000 * p + W) (if l = 0 then te else mk 7 ((U + 2 * (l - 1) : Nat) : Int))) 92 p ((W + 1 : Nat) : Int)) (gg_M_stringRun N M w (I ((s0 : Nat) : Int)) t (I (((l : Nat) : Int) - 1 - ((s : Nat) : Int)))) := by
  intro d
  induction d with
  | zero =>
    intro M w s t hs fr h89 ho1 ho2 ls ht
    have : s = l := by omega
    subst this
    cases M with
    | zero => exact pk_none
    | succ M =>
    show PK _ (fb_M_stringRun_47 N (gg_M_stringRun N M) w (I ((s0 : Nat) : Int)) t (I (((s : Nat) : Int) - 1 - ((s : Nat) : Int))))
    unfold fb_M_stringRun_47
    have x33 : F w 133 = ((p : Nat) : Int) := by rw [FR.F fr (by simp)]; exact h133
    have x92 : A w 92 p = ((W : Nat) : Int) := by rw [FR.A fr (by simp)]; exact h92
    rw [show ((s : Nat) : Int) - 1 - ((s : Nat) : Int) = -1 by omega, show decide (I (-1) < 0) = true from rfl, br_t]
    refine pk_bnd (pk_mo (put_r (N := N) (x := t) hpp x33 x92 hW) (fun w2 _ e => ?_))
    subst e
    exact pk_some ⟨w, fr, h89, ho1, ho2, ls, by rw [ht]⟩
  | succ d ih =>
    intro M w s t hs fr h89 ho1 ho2 ls ht
    cases M with
    | zero => exact pk_none
    | succ M =>
    show PK _ (fb_M_stringRun_47 N (gg_M_stringRun N M) w (I ((s0 : Nat) : Int)) t (I (((l : Nat) : Int) - 1 - ((s : Nat) : Int))))
    unfold fb_M_stringRun_47
    have x33 : F w 133 = ((p : Nat) : Int) := by rw [FR.F fr (by simp)]; exact h133
    have x19 : A w 19 s0 = ((bb : Nat) : Int) := by rw [FR.A fr (by simp)]; exact h19
    rw [show ((l : Nat) : Int) - 1 - ((s : Nat) : Int) = ((l - 1 - s : Nat) : Int) by omega, d_lt0 (by omega), br_f]
    refine pk_ck (fun _ => ?_)
    rw [tnI (n := s0) rfl (by omega), I_A' x19, addN]
    refine pk_ck (fun _ => ?_)
    rw [tnI (n := bb + (l - 1 - s)) rfl (by omega), I_A (k := 18), lit0, term_e, bnd_so, FR.A fr (by simp)]
    refine pk_bnd (pk_mo (pair_r (N := N) (U := U + 2 * s) hpp x33 h89 (by omega)) (fun w2 r e => ?_))
    obtain ⟨rfl, rfl⟩ := e
    rw [show (7 : Int32) = I 7 from rfl, term_e, bnd_so, show I ((l - 1 - s : Nat) : Int) + -1 = I (((l : Nat) : Int) - 1 - ((s + 1 : Nat) : Int)) by rw [m1I, I_add]; congr 1; omega]
    refine ih M _ (s + 1) _ (by omega) (FR_pair fr) ?_ (fun r hr => ?_) (fun i hi => ?_) (lsC_s ls rfl ht) ?_
    · rw [wa_sm (by omega) (by omega)]
      congr 1
    · rw [wa_ro (by omega) (by omega), if_neg hr]
      exact ho1 r hr
    · show (wj (wj w 88 (500 * p + (U + 2 * s)) _) 88 (500 * p + (U + 2 * s) + 1) t).2.2.2 88 i = _
      rw [wj_row, if_neg (by omega), wj_row, if_neg (by omega)]
      exact ho2 i hi
    · rw [if_neg (by omega), show s + 1 - 1 = s by omega]
end
section
variable {N p U W l a lc : Nat} {m m0 : MS}
/-- and there -/
theorem str_m (h26 : F m0 (pq p 26) = ((W : Nat) : Int)) (hl : F m0 (pq p 45) = ((lc : Nat) : Int)) (hl2 : W ≤ lc ∧ lc ≤ 1000000) (h5 : F m0 1105 = ((a : Nat) : Int)) (ha : a + 2 + l < 24000) (hU : U + 2 * l ≤ 500) : ∀ (d M : Nat) (m : MS) (s : Nat), s + d = l → FR [] [] [] [pq p 2] m0 m → lsM (m.2.2.2 (pq p 2)) (m0.2.2.2 (pq p 2)) U s (fun i => mk 0 (A m0 23 (a + 2 + i))) → PK (fun m2 (_ : Unit) => FR [pq p 4, pq p 26, pq p 45, 1105] [] [] [pq p 2, pq p 35] m0 m2 ∧ F m2 (pq p 4) = ((U + 2 * l : Nat) : Int) ∧ F m2 (pq p 26) = ((W + 1 : Nat) : Int) ∧ F m2 1105 = ((a + 2 + l : Nat) : Int) ∧ (∀ i, i < U → m2.2.2.2 (pq p 2) i = m0.2.2.2 (pq p 2) i) ∧ (∀ r, r < l → m2.2.2.2 (pq p 2) (U + 2 * r) = mk 0 (A m0 23 (a + 2 + r)) ∧ m2.2.2.2 (pq p 2) (U + 2 * r + 1) = (if r + 1 = l then mk 6 0 else mk 7 ((U + 2 * (r + 1) : Nat) : Int))) ∧ ∀ i, i ≤ W → m2.2.2.2 (pq p 35) i = if i = W then (if l = 0 then mk 6 0 else mk 7 ((U : Nat) : Int)) else m0.2.2.2 (pq p 35) i) (hg_Ma_string N M m p (I ((l : Nat) : Int)) (I ((U : Nat) : Int)) (I ((s : Nat) : Int))) := by
  intro d
  induction d with
  | zero =>
    intro M m s hs fr ls
    have : s = l := by omega
    subst this
    cases M with
    | zero => exact pk_none
    | succ M =>
    show PK _ (hb_Ma_string_21 N (hg_Ma_string N M) m p (I ((s : Nat) : Int)) (I ((U : Nat) : Int)) (I ((s : Nat) : Int)))
    unfold hb_Ma_string_21
    rw [decI (by omega) (by omega) (by omega) (by omega), decide_eq_true (by omega), br_t, show (6 : Int32) = I 6 from rfl, show (0 : Int32) = I 0 from rfl, e_make, bnd_so]
    -- the end of the list
    have el : ∃ m1 : MS, hm_Ma_endList N m p (I ((U : Nat) : Int)) (I ((s : Nat) : Int)) (mk 6 0) = some (wi m1 (pq p 4) ((U + 2 * s : Nat) : Int), ()) ∧ FR [] [] [] [pq p 2] m0 m1 ∧ ∀ i, m1.2.2.2 (pq p 2) i = if 0 < s ∧ i = U + 2 * s - 1 then mk 6 0 else m.2.2.2 (pq p 2) i := by
      unfold hm_Ma_endList hb_Ma_endList_0 hb_Ma_endList_20
      have s1 : I ((U : Nat) : Int) + 2 * I ((s : Nat) : Int) = I ((U + 2 * s : Nat) : Int) := by
        rw [show (2 : Int32) = I 2 from rfl, I_mul, I_add]
        congr 1 <;> omega
      rw [s1]
      by_cases c : s = 0
      · subst c
        rw [show decide (I ((0 : Nat) : Int) ≤ 0) = true from rfl, br_t, wi_e, lt_e]
        exact ⟨m, rfl, fr, fun i => by rw [if_neg (by omega)]⟩
      · rw [lit0, decI (by omega) (by omega) (by omega) (by omega), decide_eq_false (by omega), br_f, show I ((U + 2 * s : Nat) : Int) - 1 = I ((U + 2 * s - 1 : Nat) : Int) by rw [lit1, I_sub]; congr 1; omega, (I_inb (by omega) (by omega)).mpr ⟨by omega, by omega⟩, ck_t, tnI (n := U + 2 * s - 1) rfl (by omega), wj_e, lt_e, wi_e, lt_e]
        refine ⟨wj m (pq p 2) (U + 2 * s - 1) (mk 6 0), rfl, FR.wj fr (by simp), fun i => ?_⟩
        rw [wj_row]
        by_cases c2 : i = U + 2 * s - 1
        · rw [if_pos c2, if_pos ⟨by omega, c2⟩]
        · rw [if_neg c2, if_neg (fun z => c2 z.2)]
    obtain ⟨m1, el, f1, c1⟩ := el
    rw [el, bnd_so]
    have tail : ∀ x : Int64, x = (if s = 0 then mk 6 0 else mk 7 ((U : Nat) : Int)) → PK (fun m2 (_ : Unit) => FR [pq p 4, pq p 26, pq p 45, 1105] [] [] [pq p 2, pq p 35] m0 m2 ∧ F m2 (pq p 4) = ((U + 2 * s : Nat) : Int) ∧ F m2 (pq p 26) = ((W + 1 : Nat) : Int) ∧ F m2 1105 = ((a + 2 + s : Nat) : Int) ∧ (∀ i, i < U → m2.2.2.2 (pq p 2) i = m0.2.2.2 (pq p 2) i) ∧ (∀ r, r < s → m2.2.2.2 (pq p 2) (U + 2 * r) = mk 0 (A m0 23 (a + 2 + r)) ∧ m2.2.2.2 (pq p 2) (U + 2 * r + 1) = (if r + 1 = s then mk 6 0 else mk 7 ((U + 2 * (r + 1) : Nat) : Int))) ∧ ∀ i, i ≤ W → m2.2.2.2 (pq p 35) i = if i = W then (if s = 0 then mk 6 0 else mk 7 ((U : Nat) : Int)) else m0.2.2.2 (pq p 35) i) (hb_Ma_string_126 N (hg_Ma_string N M) (wi m1 (pq p 4) ((U + 2 * s : Nat) : Int)) p (I ((s : Nat) : Int)) p x) := fun x hx => by
      unfold hb_Ma_string_126
      have e26 : F (wi m1 (pq p 4) ((U + 2 * s : Nat) : Int)) (pq p 26) = ((W : Nat) : Int) := by rw [wi_ne (pq_inj (by omega)), FR.F f1 (by simp)]; exact h26
      have e45 : F (wi m1 (pq p 4) ((U + 2 * s : Nat) : Int)) (pq p 45) = ((lc : Nat) : Int) := by rw [wi_ne (pq_inj (by omega)), FR.F f1 (by simp)]; exact hl
      refine pk_bnd (pk_mo (push_m (N := N) (t := x) e26 e45 hl2.1 hl2.2) (fun m2 _ hh => ?_))
      obtain ⟨z1, z2, z3⟩ := hh
      have e5 : F m2 1105 = ((a : Nat) : Int) := by
        rw [FR.F z1 (by simp [pq_n]), wi_ne (pq_n (by omega)), FR.F f1 (by simp)]
        exact h5
      rw [I_F' e5, show (2 : Int32) + I ((s : Nat) : Int) = I ((2 + s : Nat) : Int) from addN, addN, wi_e, lt_e]
      have j2 : m2.2.2.2 (pq p 2) = m1.2.2.2 (pq p 2) := z1.2.2.2 _ (by simp; exact pq_inj (by omega))
      refine pk_some ⟨?_, ?_, ?_, ?_, fun i hi => ?_, fun r hr => ⟨?_, ?_⟩, fun i hi => ?_⟩
      · exact FR.wi (FR.tr (FR.wi (FR.mo f1 (by simp) (by simp) (by simp) (by simp)) (by simp)) (FR.mo z1 (by simp) (by simp) (by simp) (by simp))) (by simp)
      · rw [wi_ne (fun c => pq_n (by omega) c.symm), FR.F z1 (by simp; exact ⟨pq_inj (by omega), pq_inj (by omega)⟩), wi_sm (by omega) (by omega)]
      · rw [wi_ne (fun c => pq_n (by omega) c.symm)]
        exact z2
      · rw [wi_sm (by omega) (by omega)]
        congr 1
        omega
      · show m2.2.2.2 (pq p 2) i = _
        rw [j2, c1, if_neg (by omega)]
        exact ls.1 i hi
      · show m2.2.2.2 (pq p 2) (U + 2 * r) = _
        rw [j2, c1, if_neg (by omega)]
        exact (ls.2 r hr).1
      · show m2.2.2.2 (pq p 2) (U + 2 * r + 1) = _
        rw [j2, c1]
        by_cases c : r + 1 = s
        · rw [if_pos (by omega), if_pos c]
        · rw [if_neg (by omega), if_neg c]
          exact (ls.2 r hr).2
      · show m2.2.2.2 (pq p 35) i = _
        rw [z3 i hi, ← hx]
        by_cases c : i = W
        · rw [if_pos c, if_pos c]
        · rw [if_neg c, if_neg c]
          show m1.2.2.2 (pq p 35) i = _
          rw [f1.2.2.2 _ (by simp; exact pq_inj (by omega))]
    by_cases c : s = 0
    · rw [decE (by omega) (by omega) (by omega) (by omega), decide_eq_true (by omega), br_t, e_make, bnd_so]
      exact tail (mk 6 0) (by rw [if_pos c])
    · rw [decE (by omega) (by omega) (by omega) (by omega), decide_eq_false (by omega), br_f, show (7 : Int32) = I 7 from rfl, e_make, bnd_so]
      exact tail (mk 7 ((U : Nat) : Int)) (by rw [if_neg c])
  | succ d ih =>
    intro M m s hs fr ls
    cases M with
    | zero => exact pk_none
    | succ M =>
    show PK _ (hb_Ma_string_21 N (hg_Ma_string N M) m p (I ((l : Nat) : Int)) (I ((U : Nat) : Int)) (I ((s : Nat) : Int)))
    unfold hb_Ma_string_21
    have e5 : F m 1105 = ((a : Nat) : Int) := by rw [FR.F fr (by simp [pq_n])]; exact h5
    have e23 : A m 23 (a + 2 + s) = A m0 23 (a + 2 + s) := FR.A fr (by simp)
    have s1 : I ((U : Nat) : Int) + 2 * I ((s : Nat) : Int) = I ((U + 2 * s : Nat) : Int) := by
      rw [show (2 : Int32) = I 2 from rfl, I_mul, I_add]
      congr 1 <;> omega
    rw [decI (by omega) (by omega) (by omega) (by omega), decide_eq_false (by omega), br_f, I_F' e5, show I ((a : Nat) : Int) + 2 = I ((a + 2 : Nat) : Int) from addN, addN, Co_e (k := a + 2 + s) rfl (by omega), bnd_so, e23, lit0, e_make, bnd_so, s1, (I_inb (by omega) (by omega)).mpr ⟨by omega, by omega⟩, ck_t, tnI (n := U + 2 * s) rfl (by omega), wj_e, lt_e, show I ((U + 2 * s : Nat) : Int) + 2 = I ((U + 2 * s + 2 : Nat) : Int) from addN, show (7 : Int32) = I 7 from rfl, e_make, bnd_so, show I ((U + 2 * s : Nat) : Int) + 1 = I ((U + 2 * s + 1 : Nat) : Int) from addN, (I_inb (by omega) (by omega)).mpr ⟨by omega, by omega⟩, ck_t, tnI (n := U + 2 * s + 1) rfl (by omega), wj_e, lt_e, show I ((s : Nat) : Int) + 1 = I ((s + 1 : Nat) : Int) from addN]
    refine ih M _ (s + 1) (by omega) (FR.wj (FR.wj fr (by simp)) (by simp)) ⟨fun i hi => ?_, fun r hr => ?_⟩
    · rw [wj_row, if_neg (by omega), wj_row, if_neg (by omega)]
      exact ls.1 i hi
    · by_cases c : r = s
      · subst c
        rw [wj_row, if_neg (by omega), wj_row, if_pos rfl, wj_row, if_pos rfl]
        exact ⟨rfl, by congr 1⟩
      · rw [wj_row, if_neg (by omega), wj_row, if_neg (by omega), wj_row, if_neg (by omega), wj_row, if_neg (by omega)]
        exact ls.2 r (by omega)
end
