/-! two lists become one, both sides -/
set_option maxRecDepth 100000
section
variable {N p U W l f0 f1 z0 z1 : Nat} {m w : MS} {h : Nat → Int64} {ow kd : Nat → Nat} {Fv : Int64 → Int64 → Prop} {P : Int64 → Prop} {t0 t1 : Int64}
theorem val10y : hm_Ma_value N m p (I 10) = bnd (hm_Co_at N m ((m.1 1105) + 1)) (fun u4 r4 => br (decide (r4 = 43)) (bnd (hm_Ma_join N u4 p) (fun u25 _ => some (u25, ()))) (bnd (hm_Ma_without N u4 p) (fun u24 _ => some (u24, ())))) := rfl
theorem two_22 : fm_M_twoRun N w (I 22) = bnd (fm_M_joined N w) (fun u13 _ => some (u13, ())) := rfl
theorem two_23 : fm_M_twoRun N w (I 23) = bnd (fm_M_lessened N w) (fun u12 _ => some (u12, ())) := rfl
/-- no cells are wanted -/
theorem wants_0 (hpp : p < 24) (h89 : A w 89 p = ((U : Nat) : Int)) (hU : U ≤ 500) : PK (fun w2 r => w2 = w ∧ r = 1) (fm_M_wants N w (I ((p : Nat) : Int)) (I ((0 : Nat) : Int))) := by
  unfold fm_M_wants fb_M_wants_0 fb_M_wants_19 fb_M_wants_38
  refine pk_ck (fun _ => ?_)
  rw [tnI (n := p) rfl (by omega), I_A' h89, show I ((U : Nat) : Int) + I ((0 : Nat) : Int) = I ((U : Nat) : Int) from addN, show (500 : Int32) = I ((500 : Nat) : Int) from rfl, decI (by omega) (by omega) (by omega) (by omega), decide_eq_true (by omega), br_t]
  refine pk_ck (fun _ => ?_)
  rw [show decide (I ((500 : Nat) : Int) < I ((U : Nat) : Int)) = false from decide_eq_false (by rw [I_lt (by omega) (by omega) (by omega) (by omega)]; omega), br_f]
  exact pk_ck (fun _ => pk_some ⟨rfl, rfl⟩)
/-- how large both are, there -/
theorem szs2 (h26 : F m (pq p 26) = ((W + 2 : Nat) : Int)) (hl : F m (pq p 45) = ((l : Nat) : Int)) (hl2 : W + 2 ≤ l ∧ l ≤ 1000000) (ht1 : m.2.2.2 (pq p 35) W = t1) (ht0 : m.2.2.2 (pq p 35) (W + 1) = t0) (hh : m.2.2.2 (pq p 2) = h) (hU : U ≤ 500) (hF : FVc Fv) (s0 : SZc h U ow kd Fv P f0 t0 z0) (s1 : SZc h U ow kd Fv P f1 t1 z1) (b0 : z0 ≤ 1000) (b1 : z1 ≤ 1000) (hN : 6000 ≤ N) : ∀ M, PK (fun m2 r => FR [] [] [] [45] m m2 ∧ r = I ((z0 + z1 : Nat) : Int)) (hg_Ma_sizes N M m p 2 0 0) := by
  intro M
  cases M with
  | zero => exact pk_none
  | succ M =>
  show PK _ (hb_Ma_sizes_5 N (hg_Ma_sizes N M) m p 2 0 0)
  unfold hb_Ma_sizes_5
  have be : hm_Fr_below N m p 0 = some (m, t0) := by
    have := below_e (N := N) (x := 0) (k := 0) (W := W + 2) (l := l) h26 hl hl2.1 hl2.2 rfl (by omega)
    rw [show W + 2 - 1 - 0 = W + 1 by omega, ht0] at this
    exact this
  rw [show decide ((2 : Int32) ≤ 0) = false from rfl, br_f, be, bnd_so]
  refine pk_bnd (pk_mo (pk_ok (size_ok (N := N) (b := pq p 2) (u := m) (fun c => pq_n (by omega) c.symm) hh (by omega) hF.1 (by omega) s0 hN)) (fun m1 r e => ?_))
  obtain ⟨fa, rfl⟩ := e
  have g26 : F m1 (pq p 26) = ((W + 2 : Nat) : Int) := by rw [FR.F fa (by simp)]; exact h26
  have g45 : F m1 (pq p 45) = ((l : Nat) : Int) := by rw [FR.F fa (by simp)]; exact hl
  have gj : ∀ d, m1.2.2.2 (pq p d) = m.2.2.2 (pq p d) := fun d => fa.2.2.2 _ (by simp; exact fun c => pq_n (by omega) c.symm)
  cases M with
  | zero => exact pk_none
  | succ M =>
  show PK _ (hb_Ma_sizes_5 N (hg_Ma_sizes N M) m1 p 2 (0 + I ((z0 : Nat) : Int)) (0 + 1))
  unfold hb_Ma_sizes_5
  have be1 : hm_Fr_below N m1 p (0 + 1) = some (m1, t1) := by
    have := below_e (N := N) (x := 1) (k := 1) (W := W + 2) (l := l) g26 g45 hl2.1 hl2.2 rfl (by omega)
    rw [show W + 2 - 1 - 1 = W by omega, gj, ht1] at this
    exact this
  rw [show decide ((2 : Int32) ≤ 0 + 1) = false from rfl, br_f, be1, bnd_so]
  refine pk_bnd (pk_mo (pk_ok (size_ok (N := N) (b := pq p 2) (u := m1) (fun c => pq_n (by omega) c.symm) ((gj 2).trans hh) (by omega) hF.1 (by omega) s1 hN)) (fun m2 r e => ?_))
  obtain ⟨fb, rfl⟩ := e
  cases M with
  | zero => exact pk_none
  | succ M =>
  show PK _ (hb_Ma_sizes_5 N (hg_Ma_sizes N M) m2 p 2 (0 + I ((z0 : Nat) : Int) + I ((z1 : Nat) : Int)) (0 + 1 + 1))
  unfold hb_Ma_sizes_5
  rw [show decide ((2 : Int32) ≤ 0 + 1 + 1) = true from rfl, br_t, show (0 : Int32) + I ((z0 : Nat) : Int) = I ((0 + z0 : Nat) : Int) from addN (a := 0), addN, show 0 + z0 + z1 = z0 + z1 by omega]
  exact pk_some ⟨FR.tr fa fb, rfl⟩
end
section
variable {N p U W l a : Nat} {m : MS} {te : Int64} {tt : Nat → Int64}
/-- a term is the answer instead of two, there -/
theorem ans0_m (h26 : F m (pq p 26) = ((W + 2 : Nat) : Int)) (hl : F m (pq p 45) = ((l : Nat) : Int)) (hl2 : W + 2 ≤ l ∧ l ≤ 1000000) (h5 : F m 1105 = ((a : Nat) : Int)) (ha : a < 24000) (h4 : F m (pq p 4) = ((U : Nat) : Int)) : PK (fun m7 (_ : Unit) => LMm m m7 p U 0 W tt te ∧ F m7 1105 = ((a + 2 : Nat) : Int)) (bnd (hm_Ma_answer N m p 2 te) (fun u51 _ => lt (upI u51 1105 ((u51.1 1105) + 2)) (fun w53 => some (w53, ())))) := by
  unfold hm_Ma_answer hb_Ma_answer_0
  rw [show (2 : Int32) = I ((2 : Nat) : Int) from rfl, drop_e (W := W + 2) (k := 2) (x := ((2 : Nat) : Int)) h26 rfl (by omega), bnd_so, bb_e, show W + 2 - 2 = W by omega]
  have h26' : F (wi m (pq p 26) ((W : Nat) : Int)) (pq p 26) = ((W : Nat) : Int) := wi_sm (by omega) (by omega)
  have h45' : F (wi m (pq p 26) ((W : Nat) : Int)) (pq p 45) = ((l : Nat) : Int) := by rw [wi_ne (pq_inj (by omega))]; exact hl
  refine pk_bnd (pk_mo (push_m (N := N) (t := te) h26' h45' (by omega) hl2.2) (fun m2 _ hh => ?_))
  obtain ⟨z1, z2, z3⟩ := hh
  rw [bnd_so]
  have e5 : F m2 1105 = ((a : Nat) : Int) := by
    rw [FR.F z1 (by simp [pq_n]), wi_ne (pq_n (by omega))]
    exact h5
  rw [I_F' e5, show I ((a : Nat) : Int) + I ((2 : Nat) : Int) = I ((a + 2 : Nat) : Int) from addN, wi_e, lt_e]
  refine pk_some ⟨⟨?_, ?_, ?_, fun i hi => ?_, fun r hr => absurd hr (Nat.not_lt_zero _), fun i hi => ?_⟩, wi_sm (by omega) (by omega)⟩
  · exact FR.wi (FR.tr (FR.wi FR.rf (by simp)) (FR.mo z1 (by simp) (by simp) (by simp) (by simp))) (by simp)
  · rw [wi_ne (fun c => pq_n (by omega) c.symm), FR.F z1 (by simp; exact ⟨pq_inj (by omega), pq_inj (by omega)⟩), wi_ne (pq_inj (by omega)), h4]
    rfl
  · rw [wi_ne (fun c => pq_n (by omega) c.symm)]
    exact z2
  · show m2.2.2.2 (pq p 2) i = _
    rw [z1.2.2.2 _ (by simp; exact pq_inj (by omega))]
    rfl
  · show m2.2.2.2 (pq p 35) i = _
    rw [z3 i hi, if_pos rfl]
    rfl
end
section
variable {α β : Type} {N k : Nat} {w0 : MS} {Q : MS → α → MS → β → Prop} {D : Option (MS × α)} {K : MS → Unit → Option (MS × β)}
/-- all parts are kept, here -/
theorem jn_fill (hk : k ≤ 1000) (cont : ∀ wE, FR [169] [] [168] [] w0 wE → F wE 169 = 0 → (∀ q, q < k → A wE 168 q = 0) → PP Q D (bnd (bnd (fm_M_anew N wE (I ((k : Nat) : Int)) (2 * I ((k : Nat) : Int))) (fun u2 _ => some (u2, ()))) K)) : ∀ (d M i : Nat) (w : MS), i + d = k → FR [] [] [168] [] w0 w → (∀ q, q < i → A w 168 q = 0) → PP Q D (bnd (gg_M_joined N M w (I ((k : Nat) : Int)) (I ((i : Nat) : Int))) K) := by
  intro d
  induction d with
  | zero =>
    intro M i w hi fr hf
    have : i = k := by omega
    subst this
    cases M with
    | zero => exact pp_nr
    | succ M =>
    show PP Q D (bnd (fb_M_joined_61 N (gg_M_joined N M) w (I ((i : Nat) : Int)) (I ((i : Nat) : Int))) K)
    unfold fb_M_joined_61
    rw [decI (by omega) (by omega) (by omega) (by omega), decide_eq_true (by omega), br_t, show upI w 169 0 = wi w 169 0 from rfl, lt_e]
    exact cont _ (FR.wi (FR.mo fr (by simp) (by simp) (by simp) (by simp)) (by simp)) (wi_sm (by omega) (by omega)) hf
  | succ d ih =>
    intro M i w hi fr hf
    cases M with
    | zero => exact pp_nr
    | succ M =>
    show PP Q D (bnd (fb_M_joined_61 N (gg_M_joined N M) w (I ((k : Nat) : Int)) (I ((i : Nat) : Int))) K)
    unfold fb_M_joined_61
    rw [decI (by omega) (by omega) (by omega) (by omega), decide_eq_false (by omega), br_f]
    refine rb_ck (fun _ => ?_)
    rw [show vp_nar .boolean 0 = I 0 from rfl, tnI (n := i) rfl (by omega), wa_e, lt_e, show I ((i : Nat) : Int) + 1 = I ((i + 1 : Nat) : Int) from addN]
    refine ih M (i + 1) _ (by omega) (FR.wa fr (by simp)) (fun q hq => ?_)
    rw [wa_ro (by omega) (by omega)]
    by_cases c : q = i
    · rw [if_pos c]
    · rw [if_neg c]
      exact hf q (by omega)
end
