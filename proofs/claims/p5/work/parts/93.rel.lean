/-! the relation between the two states, over a script: FUNCTIONS and atoms too -/
set_option maxRecDepth 100000
def RZm (m w : MS) : Prop := RZf m w ∧ MCH m w
def RELm (k : Nat) (u : CS) (uM : MS) (ce sl : Nat) : Prop := ∃ c m, RP none c m u ∧ INVc m ∧ INV uM ∧ RZm m uM ∧ ce ≤ 115 + u.1.1 + k ∧ sl ≤ 1787608 + u.1.2 + 6 * k ∧ k ≤ 512
theorem q_andc (x : Int32) : ∃ j : Nat, j < 16 ∧ x &&& 15 = Int32.ofNat j := by
  refine ⟨(x.toBitVec &&& 15#32).toNat, ?_, ?_⟩
  · rw [BitVec.toNat_and]
    exact Nat.lt_of_le_of_lt Nat.and_le_right (by decide)
  · apply Int32.toBitVec_inj.mp
    show (x.toBitVec &&& 15#32) = BitVec.ofNat 32 _
    simp
section
variable {α β : Type} {N z : Nat} {c : Nat → Nat} {m uM : MS} {u : CS}
theorem stepm {hp : Option (CS × α)} {cp : Option (MS × α)} {rp : Option (MS × β)} {Aq : α → MS → β → Prop} (hrf : RF z none VE c u hp cp) (ok1 : OK (fun w _ => INVc w) cp) (ok2 : OK (fun w _ => INV w) rp) (hl : ∀ m2 r uM2 r2, cp = some (m2, r) → rp = some (uM2, r2) → RZm m2 uM2 ∧ Aq r uM2 r2) : ∃ u2 uM2 r r2 c2 m2, hp = some (u2, r) ∧ rp = some (uM2, r2) ∧ cp = some (m2, r) ∧ RP none c2 m2 u2 ∧ INVc m2 ∧ INV uM2 ∧ RZm m2 uM2 ∧ EX z c u c2 u2 ∧ Aq r uM2 r2 := by
  obtain ⟨c2, m2, u2, r, e1, e2, R2, i1, ex⟩ := step_c hrf ok1
  obtain ⟨uM2, r2, e3, i2⟩ := ok2
  obtain ⟨f, q⟩ := hl m2 r uM2 r2 e2 e3
  exact ⟨u2, uM2, r, r2, c2, m2, e1, e3, e2, R2, i1, i2, f, ex, q⟩
theorem kpu (h : INVc m) : KPS m m := KPS_rf h.1.2.2.2.2.2.2
theorem tc_le {q : α ⊕ Nat} : tc q ≤ 1 := by
  cases q
  · exact Nat.zero_le _
  · exact Nat.le_refl _
theorem tsl_le {q : α ⊕ Nat} : tsl q ≤ 6 := by
  cases q
  · exact Nat.zero_le _
  · exact Nat.le_refl _
end
section
variable {N k ce sl : Nat} {u : CS} {uM : MS} {xs : Nat → Int32}
theorem stm_feed (hN : 1000000000000000 ≤ N) (h : RELm k u uM ce sl) (hk : k < 512) (e9 : xs (6 * k) &&& 15 = 0) : ∃ u2 uM2 ce2 sl2, STEPm N xs k u uM u2 uM2 ce sl ce2 sl2 ∧ RELm (k + 1) u2 uM2 ce2 sl2 := by
  obtain ⟨c, m, R, i1, i2, zz, hce, hsl, -⟩ := h
  have ok1 : OK (fun w _ => INVc w) (hm_H_feed N m (xs (6 * k + 1)) (xs (6 * k + 2)) (xs (6 * k + 3)) (xs (6 * k + 4)) (xs (6 * k + 5))) := invc_feed (N := N) i1 (by omega)
  have ok2 : OK (fun w _ => INV w) (fm_M_feed N uM (xs (6 * k + 1)) (xs (6 * k + 2)) (xs (6 * k + 3)) (xs (6 * k + 4)) (xs (6 * k + 5))) := inv_feed hN i2
  have hl0 : ∀ m2 r uM2 r2, hm_H_feed N m (xs (6 * k + 1)) (xs (6 * k + 2)) (xs (6 * k + 3)) (xs (6 * k + 4)) (xs (6 * k + 5)) = some (m2, r) → fm_M_feed N uM (xs (6 * k + 1)) (xs (6 * k + 2)) (xs (6 * k + 3)) (xs (6 * k + 4)) (xs (6 * k + 5)) = some (uM2, r2) → F m2 81 = F uM2 5 ∧ r = r2 := fun m2 r uM2 r2 a b => by
    obtain ⟨w1, r1, a1, q1⟩ := feed_c (N := N) (a := xs (6 * k + 1)) (b := xs (6 * k + 2)) (c := xs (6 * k + 3)) (d := xs (6 * k + 4)) (e := xs (6 * k + 5)) i1 (by omega)
    obtain ⟨w2, r3, b1, q2⟩ := feed_m (N := N) (a := xs (6 * k + 1)) (b := xs (6 * k + 2)) (c := xs (6 * k + 3)) (d := xs (6 * k + 4)) (e := xs (6 * k + 5)) i2.1 (by omega)
    rw [a1] at a
    rw [b1] at b
    injection a with a
    injection a with a3 a4
    injection b with b
    injection b with b3 b4
    rw [← a3, ← a4, ← b3, ← b4]
    rw [zz.1.1] at q1
    exact FD_f q1 q2
  obtain ⟨u2, uM2, r, r2, c2, m2, a1, a2, a3, R2, j1, j2, f, ex, q⟩ := stepm (Aq := fun r _ r2 => r = r2) (ym_H_feed (N := N) R) ok1 ok2 (fun m2 r uM2 r2 x y => ⟨⟨feed_z (by omega) R i1.1.1.1 zz.1 (hl0 m2 r uM2 r2 x y).1 x y, MCH_q zz.2 (FQm_of (yf1_hm_H_feed (u0 := m) (N := N) Kf1_rf m2 r x)) (FQw_of (yw1_fm_M_feed (u0 := uM) Kw1_rf uM2 r2 y))⟩, (hl0 m2 r uM2 r2 x y).2⟩)
  have ez : u2.1 = u.1 := ex.2.2.2.2.2 (by omega)
  have q : r = r2 := q
  subst q
  exact ⟨u2, uM2, _, _, Or.inl (⟨e9, ⟨r, a1, a2, rfl, rfl⟩⟩), c2, m2, R2, j1, j2, f, by rw [ez]; omega, by rw [ez]; omega, by omega⟩
theorem stm_back (hN : 1000000000000000 ≤ N) (h : RELm k u uM ce sl) (hk : k < 512) (e9 : xs (6 * k) &&& 15 = 1) : ∃ u2 uM2 ce2 sl2, STEPm N xs k u uM u2 uM2 ce sl ce2 sl2 ∧ RELm (k + 1) u2 uM2 ce2 sl2 := by
  obtain ⟨c, m, R, i1, i2, zz, hce, hsl, -⟩ := h
  have ok1 : OK (fun w _ => INVc w) (hm_H_back N m (xs (6 * k + 1))) := invc_back (N := N) i1
  have ok2 : OK (fun w _ => INV w) (fm_M_back N uM (xs (6 * k + 1))) := inv_back i2
  have hl0 : ∀ m2 r uM2 r2, hm_H_back N m (xs (6 * k + 1)) = some (m2, r) → fm_M_back N uM (xs (6 * k + 1)) = some (uM2, r2) → F m2 81 = F uM2 5 ∧ r = r2 := fun m2 r uM2 r2 a b => by
    obtain ⟨w1, r1, a1, q1⟩ := back_c (N := N) i1 (ti_rng (xs (6 * k + 1)))
    obtain ⟨w2, r3, b1, q2⟩ := back_m (N := N) i2.1 (ti_rng (xs (6 * k + 1)))
    rw [← I_of (xs (6 * k + 1))] at a1 b1
    rw [a1] at a
    rw [b1] at b
    injection a with a
    injection a with a3 a4
    injection b with b
    injection b with b3 b4
    rw [← a3, ← a4, ← b3, ← b4]
    rw [zz.1.1] at q1
    exact BK_f q1 q2
  obtain ⟨u2, uM2, r, r2, c2, m2, a1, a2, a3, R2, j1, j2, f, ex, q⟩ := stepm (Aq := fun r _ r2 => r = r2) (ym_H_back (N := N) R) ok1 ok2 (fun m2 r uM2 r2 x y => ⟨⟨back_z zz.1 i1.1.1.1 (hl0 m2 r uM2 r2 x y).1 x y, MCH_q zz.2 (FQm_of (yf1_hm_H_back (u0 := m) (N := N) Kf1_rf m2 r x)) (FQw_of (yw1_fm_M_back (u0 := uM) Kw1_rf uM2 r2 y))⟩, (hl0 m2 r uM2 r2 x y).2⟩)
  have ez : u2.1 = u.1 := ex.2.2.2.2.2 (by omega)
  have q : r = r2 := q
  subst q
  exact ⟨u2, uM2, _, _, Or.inr (Or.inl (⟨e9, ⟨r, a1, a2, rfl, rfl⟩⟩)), c2, m2, R2, j1, j2, f, by rw [ez]; omega, by rw [ez]; omega, by omega⟩
theorem stm_read (hN : 1000000000000000 ≤ N) (h : RELm k u uM ce sl) (hk : k < 512) (e9 : xs (6 * k) &&& 15 = 2) : ∃ u2 uM2 ce2 sl2, STEPm N xs k u uM u2 uM2 ce sl ce2 sl2 ∧ RELm (k + 1) u2 uM2 ce2 sl2 := by
  obtain ⟨c, m, R, i1, i2, zz, hce, hsl, -⟩ := h
  have ok1 : OK (fun w _ => INVc w) (hm_H_read N m) := invc_read (N := N) i1 (by omega)
  have ok2 : OK (fun w _ => INV w) (fm_M_read N uM) := inv_read hN i2
  have h87 : ∀ uM2 r2, fm_M_read N uM = some (uM2, r2) → F uM2 87 = 0 := fun uM2 r2 y => by
    obtain ⟨w', r', e', q⟩ := read_ok (N := N) (by omega) i2.1 i2.2.1.1 i2.2.1.2.1 i2.2.1.2.2.1 i2.2.1.2.2.2.1 i2.2.1.2.2.2.2
    rw [y] at e'
    injection e' with e'
    injection e' with e' _
    rw [e']
    exact q.2.2.1
  obtain ⟨u2, uM2, r, r2, c2, m2, a1, a2, a3, R2, j1, j2, f, ex, q⟩ := stepm (Aq := fun _ _ _ => True) (ym_H_read (N := N) R) ok1 ok2 (fun m2 r uM2 r2 x y => ⟨⟨read_z hN R i1 i2 zz.1 x y, read_mch hN R i1 i2 zz.1 x y (h87 uM2 r2 y)⟩, trivial⟩)
  have ez : u2.1 = u.1 := ex.2.2.2.2.2 (by omega)
  exact ⟨u2, uM2, _, _, Or.inr (Or.inr (Or.inl (⟨e9, ⟨r, r2, a1, a2, rfl, rfl⟩⟩))), c2, m2, R2, j1, j2, f, by rw [ez]; omega, by rw [ez]; omega, by omega⟩
theorem stm_count (hN : 1000000000000000 ≤ N) (h : RELm k u uM ce sl) (hk : k < 512) (e9 : xs (6 * k) &&& 15 = 3) : ∃ u2 uM2 ce2 sl2, STEPm N xs k u uM u2 uM2 ce sl ce2 sl2 ∧ RELm (k + 1) u2 uM2 ce2 sl2 := by
  obtain ⟨c, m, R, i1, i2, zz, hce, hsl, -⟩ := h
  have ok1 : OK (fun w _ => INVc w) (hm_H_count N m (xs (6 * k + 1))) := invc_count (N := N) i1
  have ok2 : OK (fun w _ => INV w) (fm_M_count N uM (xs (6 * k + 1))) := inv_count i2
  obtain ⟨u2, uM2, r, r2, c2, m2, a1, a2, a3, R2, j1, j2, f, ex, q⟩ := stepm (Aq := fun r _ r2 => r = r2) (ym_H_count (N := N) R) ok1 ok2 (fun m2 r uM2 r2 x y => ⟨⟨(keepz zz.1 (Z9_ke (zm_H_count (kpu i1))) (y5_fm_M_count (u0 := uM) rfl) (yg9_fm_M_count (u0 := uM) Kg_rf) m2 r uM2 r2 x y).1, MCH_q zz.2 (FQm_of (Kf1_r Kf1_rf (yr1_hm_H_count (u0 := m) (N := N) Kr1_rf m2 r x))) (FQw_of (yw1_fm_M_count (u0 := uM) Kw1_rf uM2 r2 y))⟩, (count_e zz.2 zz.1 m2 r uM2 r2 x y).2⟩)
  have ez : u2.1 = u.1 := ex.2.2.2.2.2 (by omega)
  have q : r = r2 := q
  subst q
  exact ⟨u2, uM2, _, _, Or.inr (Or.inr (Or.inr (Or.inl (⟨e9, ⟨r, a1, a2, rfl, rfl⟩⟩)))), c2, m2, R2, j1, j2, f, by rw [ez]; omega, by rw [ez]; omega, by omega⟩
theorem stm_function (hN : 1000000000000000 ≤ N) (h : RELm k u uM ce sl) (hk : k < 512) (e9 : xs (6 * k) &&& 15 = 4) : ∃ u2 uM2 ce2 sl2, STEPm N xs k u uM u2 uM2 ce sl ce2 sl2 ∧ RELm (k + 1) u2 uM2 ce2 sl2 := by
  obtain ⟨c, m, R, i1, i2, zz, hce, hsl, -⟩ := h
  have ok1 : OK (fun w _ => INVc w) (hm_H_function N m (xs (6 * k + 1)) (xs (6 * k + 2))) := invc_function (N := N) i1
  have ok2 : OK (fun w _ => INV w) (fm_M_function1 N uM (xs (6 * k + 1)) (xs (6 * k + 2))) := inv_function i2
  obtain ⟨u2, uM2, r, r2, c2, m2, a1, a2, a3, R2, j1, j2, f, ex, q⟩ := stepm (Aq := fun r _ r2 => r = r2) (ym_H_function (N := N) R) ok1 ok2 (fun m2 r uM2 r2 x y => ⟨⟨(keepz zz.1 (Z9_ke (zm_H_function (kpu i1))) (y5_fm_M_function1 (u0 := uM) rfl) (yg9_fm_M_function1 (u0 := uM) Kg_rf) m2 r uM2 r2 x y).1, MCH_q zz.2 (FQm_of (Kf1_r Kf1_rf (yr1_hm_H_function (u0 := m) (N := N) Kr1_rf m2 r x))) (FQw_of (yw1_fm_M_function1 (u0 := uM) Kw1_rf uM2 r2 y))⟩, function_e zz.1.2.2.2.2 m2 r uM2 r2 x y⟩)
  have ez : u2.1 = u.1 := ex.2.2.2.2.2 (by omega)
  have q : r = r2 := q
  subst q
  exact ⟨u2, uM2, _, _, Or.inr (Or.inr (Or.inr (Or.inr (Or.inl (⟨e9, ⟨r, a1, a2, rfl, rfl⟩⟩))))), c2, m2, R2, j1, j2, f, by rw [ez]; omega, by rw [ez]; omega, by omega⟩
theorem stm_letter (hN : 1000000000000000 ≤ N) (h : RELm k u uM ce sl) (hk : k < 512) (e9 : xs (6 * k) &&& 15 = 5) : ∃ u2 uM2 ce2 sl2, STEPm N xs k u uM u2 uM2 ce sl ce2 sl2 ∧ RELm (k + 1) u2 uM2 ce2 sl2 := by
  obtain ⟨c, m, R, i1, i2, zz, hce, hsl, -⟩ := h
  have ok1 : OK (fun w _ => INVc w) (hm_H_letter N m (xs (6 * k + 1)) (xs (6 * k + 2))) := invc_letter (N := N) i1
  have ok2 : OK (fun w _ => INV w) (fm_M_letter N uM (xs (6 * k + 1)) (xs (6 * k + 2))) := inv_letter i2
  obtain ⟨u2, uM2, r, r2, c2, m2, a1, a2, a3, R2, j1, j2, f, ex, q⟩ := stepm (Aq := fun r _ r2 => r = r2) (ym_H_letter (N := N) R) ok1 ok2 (fun m2 r uM2 r2 x y => ⟨⟨(keepz zz.1 (Z9_ke (zm_H_letter (kpu i1))) (y5_fm_M_letter (u0 := uM) rfl) (yg9_fm_M_letter (u0 := uM) Kg_rf) m2 r uM2 r2 x y).1, MCH_q zz.2 (FQm_of (Kf1_r Kf1_rf (yr1_hm_H_letter (u0 := m) (N := N) Kr1_rf m2 r x))) (FQw_of (yw1_fm_M_letter (u0 := uM) Kw1_rf uM2 r2 y))⟩, letter_e zz.1.2.2.2.2 m2 r uM2 r2 x y⟩)
  have ez : u2.1 = u.1 := ex.2.2.2.2.2 (by omega)
  have q : r = r2 := q
  subst q
  exact ⟨u2, uM2, _, _, Or.inr (Or.inr (Or.inr (Or.inr (Or.inr (Or.inl (⟨e9, ⟨r, a1, a2, rfl, rfl⟩⟩)))))), c2, m2, R2, j1, j2, f, by rw [ez]; omega, by rw [ez]; omega, by omega⟩
theorem stm_begin (hN : 1000000000000000 ≤ N) (h : RELm k u uM ce sl) (hk : k < 512) (e9 : xs (6 * k) &&& 15 = 6) : ∃ u2 uM2 ce2 sl2, STEPm N xs k u uM u2 uM2 ce sl ce2 sl2 ∧ RELm (k + 1) u2 uM2 ce2 sl2 := by
  obtain ⟨c, m, R, i1, i2, zz, hce, hsl, -⟩ := h
  have ok1 : OK (fun w _ => INVc w) (hm_H_begin N m (xs (6 * k + 1))) := by
    have h : OK (fun w _ => INVc w) (hm_H_begin N m (I (xs (6 * k + 1)).toInt)) := invc_begin (N := N) i1 (ti_rng (xs (6 * k + 1)))
    rw [← I_of (xs (6 * k + 1))] at h
    exact h
  have ok2 : OK (fun w _ => INV w) (fm_M_begin N uM (xs (6 * k + 1))) := inv_begin hN i2
  obtain ⟨u2, uM2, r, r2, c2, m2, a1, a2, a3, R2, j1, j2, f, ex, q⟩ := stepm (Aq := fun _ _ _ => True) (ym_H_begin (N := N) R) ok1 ok2 (fun m2 r uM2 r2 x y => ⟨⟨(keepz zz.1 (Z9_ke (zm_H_begin (kpu i1))) (y5_fm_M_begin (u0 := uM) rfl) (yg9_fm_M_begin (u0 := uM) Kg_rf) m2 r uM2 r2 x y).1, begin_mch hN i1 i2 zz.1 zz.2 m2 r uM2 r2 x y⟩, trivial⟩)
  have hok : ok_L_begin r = true := by
    cases r with
    | inl v => rfl
    | inr t =>
      have := begin_kz (N := N) m2 _ a3 t rfl
      exact decide_eq_true (by omega)
  have t1 := tc_le (q := r)
  have t2 := tsl_le (q := r)
  cases r2
  obtain ⟨-, g1, g2, -⟩ := ex
  exact ⟨u2, uM2, _, _, Or.inr (Or.inr (Or.inr (Or.inr (Or.inr (Or.inr (Or.inl (⟨e9, ⟨u2.1.1 + tc r - u.1.1, u2.1.2 + tsl r - u.1.2, r, a1, hok, ⟨by omega, by omega⟩, a2, rfl, rfl⟩⟩))))))), c2, m2, R2, j1, j2, f, by omega, by omega, by omega⟩
theorem stm_go (hN : 1000000000000000 ≤ N) (h : RELm k u uM ce sl) (hk : k < 512) (e9 : xs (6 * k) &&& 15 = 7) : ∃ u2 uM2 ce2 sl2, STEPm N xs k u uM u2 uM2 ce sl ce2 sl2 ∧ RELm (k + 1) u2 uM2 ce2 sl2 := by
  obtain ⟨c, m, R, i1, i2, zz, hce, hsl, -⟩ := h
  have ok1 : OK (fun w _ => INVc w) (hm_H_go N m (xs (6 * k + 1)) (xs (6 * k + 2))) := by
    have h : OK (fun w _ => INVc w) (hm_H_go N m (I (xs (6 * k + 1)).toInt) (xs (6 * k + 2))) := invc_go (N := N) i1 (ti_rng (xs (6 * k + 1))) (by omega)
    rw [← I_of (xs (6 * k + 1))] at h
    exact h
  have ok2 : OK (fun w _ => INV w) (fm_M_go N uM (xs (6 * k + 1)) (xs (6 * k + 2))) := inv_go hN i2
  obtain ⟨u2, uM2, r, r2, c2, m2, a1, a2, a3, R2, j1, j2, f, ex, q⟩ := stepm (Aq := fun _ _ _ => True) (ym_H_go (N := N) R) ok1 ok2 (fun m2 r uM2 r2 x y => ⟨⟨(keepz zz.1 (Z9_ke (zm_H_go (kpu i1))) (y5_fm_M_go (u0 := uM) rfl) (yg9_fm_M_go (u0 := uM) Kg_rf) m2 r uM2 r2 x y).1, go_mch hN i1 zz.2 m2 r uM2 r2 x y⟩, trivial⟩)
  have hok : ok_L_go r = true := by
    cases r with
    | inl v => rfl
    | inr t =>
      have := go_kz (N := N) m2 _ a3 t rfl
      exact decide_eq_true (by omega)
  have t1 := tc_le (q := r)
  have t2 := tsl_le (q := r)
  obtain ⟨-, g1, g2, -⟩ := ex
  exact ⟨u2, uM2, _, _, Or.inr (Or.inr (Or.inr (Or.inr (Or.inr (Or.inr (Or.inr (Or.inl (⟨e9, ⟨u2.1.1 + tc r - u.1.1, u2.1.2 + tsl r - u.1.2, r, r2, a1, hok, ⟨by omega, by omega⟩, a2, rfl, rfl⟩⟩)))))))), c2, m2, R2, j1, j2, f, by omega, by omega, by omega⟩
theorem stm_clock (hN : 1000000000000000 ≤ N) (h : RELm k u uM ce sl) (hk : k < 512) (e9 : xs (6 * k) &&& 15 = 8) : ∃ u2 uM2 ce2 sl2, STEPm N xs k u uM u2 uM2 ce sl ce2 sl2 ∧ RELm (k + 1) u2 uM2 ce2 sl2 := by
  obtain ⟨c, m, R, i1, i2, zz, hce, hsl, -⟩ := h
  have ok1 : OK (fun w _ => INVc w) (hm_H_clock N m (xs (6 * k + 1))) := invc_clock (N := N) i1
  have ok2 : OK (fun w _ => INV w) (fm_M_clock N uM (xs (6 * k + 1))) := inv_clock i2
  obtain ⟨u2, uM2, r, r2, c2, m2, a1, a2, a3, R2, j1, j2, f, ex, q⟩ := stepm (Aq := fun _ _ _ => True) (ym_H_clock (N := N) R) ok1 ok2 (fun m2 r uM2 r2 x y => ⟨⟨(keepz zz.1 (Z9_ke (zm_H_clock (kpu i1))) (y5_fm_M_clock (u0 := uM) rfl) (yg9_fm_M_clock (u0 := uM) Kg_rf) m2 r uM2 r2 x y).1, clock_mch zz.2 x y i1⟩, trivial⟩)
  have hok : ok_L_clock r = true := by
    cases r with
    | inl v => rfl
    | inr t =>
      have := clock_kz (N := N) m2 _ a3 t rfl
      exact decide_eq_true (by omega)
  have t1 := tc_le (q := r)
  have t2 := tsl_le (q := r)
  have ez : u2.1 = u.1 := ex.2.2.2.2.2 (by omega)
  exact ⟨u2, uM2, _, _, Or.inr (Or.inr (Or.inr (Or.inr (Or.inr (Or.inr (Or.inr (Or.inr (Or.inl (⟨e9, ⟨r, r2, a1, hok, a2, rfl, rfl⟩⟩))))))))), c2, m2, R2, j1, j2, f, by rw [ez]; omega, by rw [ez]; omega, by omega⟩
theorem stm_send (hN : 1000000000000000 ≤ N) (h : RELm k u uM ce sl) (hk : k < 512) (e9 : xs (6 * k) &&& 15 = 9) : ∃ u2 uM2 ce2 sl2, STEPm N xs k u uM u2 uM2 ce sl ce2 sl2 ∧ RELm (k + 1) u2 uM2 ce2 sl2 := by
  obtain ⟨c, m, R, i1, i2, zz, hce, hsl, -⟩ := h
  have ok1 : OK (fun w _ => INVc w) (hm_H_send N m (xs (6 * k + 1)) (xs (6 * k + 2)) (xs (6 * k + 3))) := by
    have h : OK (fun w _ => INVc w) (hm_H_send N m (I (xs (6 * k + 1)).toInt) (xs (6 * k + 2)) (I (xs (6 * k + 3)).toInt)) := invc_send (N := N) i1 (ti_rng (xs (6 * k + 1))) (ti_rng (xs (6 * k + 3))) (by omega)
    rw [← I_of (xs (6 * k + 1))] at h
    rw [← I_of (xs (6 * k + 3))] at h
    exact h
  have ok2 : OK (fun w _ => INV w) (fm_M_send N uM (xs (6 * k + 1)) (xs (6 * k + 2)) (xs (6 * k + 3))) := inv_send hN i2
  obtain ⟨u2, uM2, r, r2, c2, m2, a1, a2, a3, R2, j1, j2, f, ex, q⟩ := stepm (Aq := fun _ _ _ => True) (ym_H_send (N := N) R) ok1 ok2 (fun m2 r uM2 r2 x y => ⟨⟨(keepz zz.1 (Z9_ke (zm_H_send (kpu i1))) (y5_fm_M_send (u0 := uM) rfl) (yg9_fm_M_send (u0 := uM) Kg_rf) m2 r uM2 r2 x y).1, send_mch hN i1 zz.2 m2 r uM2 r2 x y⟩, trivial⟩)
  have hok : ok_L_send r = true := by
    cases r with
    | inl v => rfl
    | inr t =>
      have := send_kz (N := N) m2 _ a3 t rfl
      exact decide_eq_true (by omega)
  have t1 := tc_le (q := r)
  have t2 := tsl_le (q := r)
  cases r2
  have ez : u2.1 = u.1 := ex.2.2.2.2.2 (by omega)
  exact ⟨u2, uM2, _, _, Or.inr (Or.inr (Or.inr (Or.inr (Or.inr (Or.inr (Or.inr (Or.inr (Or.inr (Or.inl (⟨e9, ⟨r, a1, hok, a2, rfl, rfl⟩⟩)))))))))), c2, m2, R2, j1, j2, f, by rw [ez]; omega, by rw [ez]; omega, by omega⟩
theorem stm_process (hN : 1000000000000000 ≤ N) (h : RELm k u uM ce sl) (hk : k < 512) (e9 : xs (6 * k) &&& 15 = 10) : ∃ u2 uM2 ce2 sl2, STEPm N xs k u uM u2 uM2 ce sl ce2 sl2 ∧ RELm (k + 1) u2 uM2 ce2 sl2 := by
  obtain ⟨c, m, R, i1, i2, zz, hce, hsl, -⟩ := h
  have ok1 : OK (fun w _ => INVc w) (hm_H_process N m (xs (6 * k + 1)) (xs (6 * k + 2))) := by
    have h : OK (fun w _ => INVc w) (hm_H_process N m (I (xs (6 * k + 1)).toInt) (xs (6 * k + 2))) := invc_process (N := N) i1 (ti_rng (xs (6 * k + 1))) (by omega)
    rw [← I_of (xs (6 * k + 1))] at h
    exact h
  have ok2 : OK (fun w _ => INV w) (fm_M_process N uM (xs (6 * k + 1)) (xs (6 * k + 2))) := inv_process hN i2
  obtain ⟨u2, uM2, r, r2, c2, m2, a1, a2, a3, R2, j1, j2, f, ex, q⟩ := stepm (Aq := fun _ _ _ => True) (ym_H_process (N := N) R) ok1 ok2 (fun m2 r uM2 r2 x y => ⟨⟨(keepz zz.1 (Z9_ke (zm_H_process (kpu i1))) (y5_fm_M_process (u0 := uM) rfl) (yg9_fm_M_process (u0 := uM) Kg_rf) m2 r uM2 r2 x y).1, MCH_q zz.2 (FQm_of (Kf1_r Kf1_rf (yr1_hm_H_process (u0 := m) (N := N) Kr1_rf m2 r x))) (FQw_of (yw1_fm_M_process (u0 := uM) Kw1_rf uM2 r2 y))⟩, trivial⟩)
  have ez : u2.1 = u.1 := ex.2.2.2.2.2 (by omega)
  exact ⟨u2, uM2, _, _, Or.inr (Or.inr (Or.inr (Or.inr (Or.inr (Or.inr (Or.inr (Or.inr (Or.inr (Or.inr (Or.inl (⟨e9, ⟨r, r2, a1, a2, rfl, rfl⟩⟩))))))))))), c2, m2, R2, j1, j2, f, by rw [ez]; omega, by rw [ez]; omega, by omega⟩
theorem stm_frame (hN : 1000000000000000 ≤ N) (h : RELm k u uM ce sl) (hk : k < 512) (e9 : xs (6 * k) &&& 15 = 11) : ∃ u2 uM2 ce2 sl2, STEPm N xs k u uM u2 uM2 ce sl ce2 sl2 ∧ RELm (k + 1) u2 uM2 ce2 sl2 := by
  obtain ⟨c, m, R, i1, i2, zz, hce, hsl, -⟩ := h
  have ok1 : OK (fun w _ => INVc w) (hm_H_frame N m (xs (6 * k + 1)) (xs (6 * k + 2)) (xs (6 * k + 3))) := by
    have h : OK (fun w _ => INVc w) (hm_H_frame N m (I (xs (6 * k + 1)).toInt) (xs (6 * k + 2)) (xs (6 * k + 3))) := invc_frame (N := N) i1 (ti_rng (xs (6 * k + 1)))
    rw [← I_of (xs (6 * k + 1))] at h
    exact h
  have ok2 : OK (fun w _ => INV w) (fm_M_frame1 N uM (xs (6 * k + 1)) (xs (6 * k + 2)) (xs (6 * k + 3))) := inv_frame i2
  obtain ⟨u2, uM2, r, r2, c2, m2, a1, a2, a3, R2, j1, j2, f, ex, q⟩ := stepm (Aq := fun _ _ _ => True) (ym_H_frame (N := N) R) ok1 ok2 (fun m2 r uM2 r2 x y => ⟨⟨(keepz zz.1 (Z9_ke (zm_H_frame (kpu i1))) (y5_fm_M_frame1 (u0 := uM) rfl) (yg9_fm_M_frame1 (u0 := uM) Kg_rf) m2 r uM2 r2 x y).1, MCH_q zz.2 (FQm_of (Kf1_r Kf1_rf (yr1_hm_H_frame (u0 := m) (N := N) Kr1_rf m2 r x))) (FQw_of (yw1_fm_M_frame1 (u0 := uM) Kw1_rf uM2 r2 y))⟩, trivial⟩)
  have ez : u2.1 = u.1 := ex.2.2.2.2.2 (by omega)
  exact ⟨u2, uM2, _, _, Or.inr (Or.inr (Or.inr (Or.inr (Or.inr (Or.inr (Or.inr (Or.inr (Or.inr (Or.inr (Or.inr (Or.inl (⟨e9, ⟨r, r2, a1, a2, rfl, rfl⟩⟩)))))))))))), c2, m2, R2, j1, j2, f, by rw [ez]; omega, by rw [ez]; omega, by omega⟩
theorem stm_link (hN : 1000000000000000 ≤ N) (h : RELm k u uM ce sl) (hk : k < 512) (e9 : xs (6 * k) &&& 15 = 12) : ∃ u2 uM2 ce2 sl2, STEPm N xs k u uM u2 uM2 ce sl ce2 sl2 ∧ RELm (k + 1) u2 uM2 ce2 sl2 := by
  obtain ⟨c, m, R, i1, i2, zz, hce, hsl, -⟩ := h
  have ok1 : OK (fun w _ => INVc w) (hm_H_link N m (xs (6 * k + 1)) (xs (6 * k + 2))) := by
    have h : OK (fun w _ => INVc w) (hm_H_link N m (I (xs (6 * k + 1)).toInt) (xs (6 * k + 2))) := invc_link (N := N) i1 (ti_rng (xs (6 * k + 1)))
    rw [← I_of (xs (6 * k + 1))] at h
    exact h
  have ok2 : OK (fun w _ => INV w) (fm_M_link N uM (xs (6 * k + 1)) (xs (6 * k + 2))) := inv_link i2
  obtain ⟨u2, uM2, r, r2, c2, m2, a1, a2, a3, R2, j1, j2, f, ex, q⟩ := stepm (Aq := fun _ _ _ => True) (ym_H_link (N := N) R) ok1 ok2 (fun m2 r uM2 r2 x y => ⟨⟨(keepz zz.1 (Z9_ke (zm_H_link (kpu i1))) (y5_fm_M_link (u0 := uM) rfl) (yg9_fm_M_link (u0 := uM) Kg_rf) m2 r uM2 r2 x y).1, MCH_q zz.2 (FQm_of (Kf1_r Kf1_rf (yr1_hm_H_link (u0 := m) (N := N) Kr1_rf m2 r x))) (FQw_of (yw1_fm_M_link (u0 := uM) Kw1_rf uM2 r2 y))⟩, trivial⟩)
  have ez : u2.1 = u.1 := ex.2.2.2.2.2 (by omega)
  exact ⟨u2, uM2, _, _, Or.inr (Or.inr (Or.inr (Or.inr (Or.inr (Or.inr (Or.inr (Or.inr (Or.inr (Or.inr (Or.inr (Or.inr (Or.inl (⟨e9, ⟨r, r2, a1, a2, rfl, rfl⟩⟩))))))))))))), c2, m2, R2, j1, j2, f, by rw [ez]; omega, by rw [ez]; omega, by omega⟩
theorem stm_show (hN : 1000000000000000 ≤ N) (h : RELm k u uM ce sl) (hk : k < 512) (e9 : xs (6 * k) &&& 15 = 13) : ∃ u2 uM2 ce2 sl2, STEPm N xs k u uM u2 uM2 ce sl ce2 sl2 ∧ RELm (k + 1) u2 uM2 ce2 sl2 := by
  obtain ⟨c, m, R, i1, i2, zz, hce, hsl, -⟩ := h
  have ok1 : OK (fun w _ => INVc w) (hm_H_show N m (xs (6 * k + 1)) (xs (6 * k + 2)) (xs (6 * k + 3))) := by
    have h : OK (fun w _ => INVc w) (hm_H_show N m (I (xs (6 * k + 1)).toInt) (xs (6 * k + 2)) (xs (6 * k + 3))) := invc_show (N := N) i1 (ti_rng (xs (6 * k + 1))) (by omega)
    rw [← I_of (xs (6 * k + 1))] at h
    exact h
  have ok2 : OK (fun w _ => INV w) (fm_M_show N uM (xs (6 * k + 1)) (xs (6 * k + 2)) (xs (6 * k + 3))) := inv_show hN i2
  obtain ⟨u2, uM2, r, r2, c2, m2, a1, a2, a3, R2, j1, j2, f, ex, q⟩ := stepm (Aq := fun _ _ _ => True) (ym_H_show (N := N) R) ok1 ok2 (fun m2 r uM2 r2 x y => ⟨⟨(keepz zz.1 (show_9 (kpu i1)) (y5_fm_M_show (u0 := uM) rfl) (yg9_fm_M_show (u0 := uM) Kg_rf) m2 r uM2 r2 x y).1, MCH_q zz.2 (FQm_of (show_fx (u0 := m) (N := N) Kf1_rf m2 r x)) (FQw_of (yw1_fm_M_show (u0 := uM) Kw1_rf uM2 r2 y))⟩, trivial⟩)
  have ez : u2.1 = u.1 := ex.2.2.2.2.2 (by omega)
  exact ⟨u2, uM2, _, _, Or.inr (Or.inr (Or.inr (Or.inr (Or.inr (Or.inr (Or.inr (Or.inr (Or.inr (Or.inr (Or.inr (Or.inr (Or.inr (Or.inl (⟨e9, ⟨r, r2, a1, a2, rfl, rfl⟩⟩)))))))))))))), c2, m2, R2, j1, j2, f, by rw [ez]; omega, by rw [ez]; omega, by omega⟩
theorem stm_shown (hN : 1000000000000000 ≤ N) (h : RELm k u uM ce sl) (hk : k < 512) (e9 : xs (6 * k) &&& 15 = 14) : ∃ u2 uM2 ce2 sl2, STEPm N xs k u uM u2 uM2 ce sl ce2 sl2 ∧ RELm (k + 1) u2 uM2 ce2 sl2 := by
  obtain ⟨c, m, R, i1, i2, zz, hce, hsl, -⟩ := h
  have ok1 : OK (fun w _ => INVc w) (hm_H_shown N m (xs (6 * k + 1))) := invc_shown (N := N) i1
  have ok2 : OK (fun w _ => INV w) (fm_M_shown N uM (xs (6 * k + 1))) := inv_shown i2
  obtain ⟨u2, uM2, r, r2, c2, m2, a1, a2, a3, R2, j1, j2, f, ex, q⟩ := stepm (Aq := fun _ _ _ => True) (ym_H_shown (N := N) R) ok1 ok2 (fun m2 r uM2 r2 x y => ⟨⟨(keepz zz.1 (Z9_ke (zm_H_shown (kpu i1))) (y5_fm_M_shown (u0 := uM) rfl) (yg9_fm_M_shown (u0 := uM) Kg_rf) m2 r uM2 r2 x y).1, MCH_q zz.2 (FQm_of (Kf1_r Kf1_rf (yr1_hm_H_shown (u0 := m) (N := N) Kr1_rf m2 r x))) (FQw_of (yw1_fm_M_shown (u0 := uM) Kw1_rf uM2 r2 y))⟩, trivial⟩)
  have ez : u2.1 = u.1 := ex.2.2.2.2.2 (by omega)
  exact ⟨u2, uM2, _, _, Or.inr (Or.inr (Or.inr (Or.inr (Or.inr (Or.inr (Or.inr (Or.inr (Or.inr (Or.inr (Or.inr (Or.inr (Or.inr (Or.inr (Or.inl (⟨e9, ⟨r, r2, a1, a2, rfl, rfl⟩⟩))))))))))))))), c2, m2, R2, j1, j2, f, by rw [ez]; omega, by rw [ez]; omega, by omega⟩
theorem stm_printed (hN : 1000000000000000 ≤ N) (h : RELm k u uM ce sl) (hk : k < 512) (e9 : xs (6 * k) &&& 15 = 15) : ∃ u2 uM2 ce2 sl2, STEPm N xs k u uM u2 uM2 ce sl ce2 sl2 ∧ RELm (k + 1) u2 uM2 ce2 sl2 := by
  obtain ⟨c, m, R, i1, i2, zz, hce, hsl, -⟩ := h
  have ok1 : OK (fun w _ => INVc w) (hm_H_printed N m (xs (6 * k + 1)) (xs (6 * k + 2))) := invc_printed (N := N) i1
  have ok2 : OK (fun w _ => INV w) (fm_M_printed N uM (xs (6 * k + 1)) (xs (6 * k + 2))) := inv_printed i2
  obtain ⟨u2, uM2, r, r2, c2, m2, a1, a2, a3, R2, j1, j2, f, ex, q⟩ := stepm (Aq := fun _ _ _ => True) (ym_H_printed (N := N) R) ok1 ok2 (fun m2 r uM2 r2 x y => ⟨⟨(keepz zz.1 (Z9_ke (zm_H_printed (kpu i1))) (y5_fm_M_printed (u0 := uM) rfl) (yg9_fm_M_printed (u0 := uM) Kg_rf) m2 r uM2 r2 x y).1, MCH_q zz.2 (FQm_of (Kf1_r Kf1_rf (yr1_hm_H_printed (u0 := m) (N := N) Kr1_rf m2 r x))) (FQw_of (yw1_fm_M_printed (u0 := uM) Kw1_rf uM2 r2 y))⟩, trivial⟩)
  have ez : u2.1 = u.1 := ex.2.2.2.2.2 (by omega)
  exact ⟨u2, uM2, _, _, Or.inr (Or.inr (Or.inr (Or.inr (Or.inr (Or.inr (Or.inr (Or.inr (Or.inr (Or.inr (Or.inr (Or.inr (Or.inr (Or.inr (Or.inr ((⟨e9, ⟨r, r2, a1, a2, rfl, rfl⟩⟩)))))))))))))))), c2, m2, R2, j1, j2, f, by rw [ez]; omega, by rw [ez]; omega, by omega⟩
theorem stm_all (hN : 1000000000000000 ≤ N) (h : RELm k u uM ce sl) (hk : k < 512) : ∃ u2 uM2 ce2 sl2, STEPm N xs k u uM u2 uM2 ce sl ce2 sl2 ∧ RELm (k + 1) u2 uM2 ce2 sl2 := by
  obtain ⟨j, hj, e⟩ := q_andc (xs (6 * k))
  by_cases z0 : j = 0
  · subst z0
    exact stm_feed hN h hk e
  by_cases z1 : j = 1
  · subst z1
    exact stm_back hN h hk e
  by_cases z2 : j = 2
  · subst z2
    exact stm_read hN h hk e
  by_cases z3 : j = 3
  · subst z3
    exact stm_count hN h hk e
  by_cases z4 : j = 4
  · subst z4
    exact stm_function hN h hk e
  by_cases z5 : j = 5
  · subst z5
    exact stm_letter hN h hk e
  by_cases z6 : j = 6
  · subst z6
    exact stm_begin hN h hk e
  by_cases z7 : j = 7
  · subst z7
    exact stm_go hN h hk e
  by_cases z8 : j = 8
  · subst z8
    exact stm_clock hN h hk e
  by_cases z9 : j = 9
  · subst z9
    exact stm_send hN h hk e
  by_cases z10 : j = 10
  · subst z10
    exact stm_process hN h hk e
  by_cases z11 : j = 11
  · subst z11
    exact stm_frame hN h hk e
  by_cases z12 : j = 12
  · subst z12
    exact stm_link hN h hk e
  by_cases z13 : j = 13
  · subst z13
    exact stm_show hN h hk e
  by_cases z14 : j = 14
  · subst z14
    exact stm_shown hN h hk e
  by_cases z15 : j = 15
  · subst z15
    exact stm_printed hN h hk e
  omega
theorem RELm_room (h : RELm k u uM ce sl) : isO u 0 1 = true ∧ ce ≤ 601024 ∧ sl ≤ 7293034 := by
  obtain ⟨c, m, R, i1, i2, el, hce, hsl, hk⟩ := h
  have r := room_c R i1
  exact ⟨io_0 R.1.1, by omega, by omega⟩
end
theorem len_0 : F (mFo xH15) 81 = F mS0 5 := by
  have a : F (mFo xH15) 81 = 0 := by decide +kernel
  have b : F mS0 5 = 0 := by decide +kernel
  rw [a, b]
theorem rz_0 : RZf (mFo xH15) mS0 := by
  have a : F (mFo xH15) 81 = 0 := by decide +kernel
  refine ⟨len_0, fun j hj => absurd hj (by rw [a]; omega), ⟨⟨by decide +kernel, by decide +kernel, by decide +kernel, rfl, rfl, rfl, rfl, rfl⟩, by decide +kernel, by decide +kernel, by decide +kernel, ⟨by decide +kernel, by decide +kernel⟩, by decide +kernel, by decide +kernel, by decide +kernel⟩, ⟨by decide +kernel, by decide +kernel, by decide +kernel⟩, Or.inl ⟨by decide +kernel, by decide +kernel⟩⟩
theorem rm_0 : RZm (mFo xH15) mS0 := by
  have a6 : F mS0 86 = 0 := by decide +kernel
  exact ⟨rz_0, fun z => absurd a6 z, Or.inl ⟨by decide +kernel, by decide +kernel, by decide +kernel, by decide +kernel, by decide +kernel, by decide +kernel, by decide +kernel⟩⟩
theorem pure_m : PUREm := by
  refine ⟨1000000000000000, 56, 145827, xH15, xH15_eq, ⟨by rw [xH15_n]; rfl, by rw [xH15_n]; rfl⟩, fun L xs hL => ⟨RELm, fun k u uM ce sl h => RELm_room h, fun k u uM ce sl h hk => stm_all (Nat.le_refl _) h (by omega), ?_⟩⟩
  exact ⟨fun _ => 0, mFo xH15, RP_0, INVc_0, inv_0, rm_0, by rw [xH15_n]; decide, by rw [xH15_n]; decide, by decide⟩
