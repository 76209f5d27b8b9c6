set_option maxRecDepth 100000
section
variable {o : Option Nat} {c : Nat → Nat} {m : MS} {u : CS}
theorem gI_s (h : RP o c m u) {i ci k : Nat} {ks : List Nat} (hi : i < 57 ∧ k < 20) (ht : tbl.getD i (9, []) = (3, ci :: ks)) (hk : k < ks.length) (h0 : ks.getD k 9 = 0) : gI u i ci k = some (m.1 (20 * i + k)) := by
  rw [sk_gI h.1.1 hi.1 ht hk h0, h.1.2.1 i k hi.1 hi.2]
theorem aI_s (h : RP o c m u) {i t n : Nat} {j : Int32} (hi : i < 57) (ht : tbl.getD i (9, []) = (0, [t, n])) : aI u i t j = if inb j n = true then some (m.2.2.1 i j.toNatClampNeg) else none := by
  rw [sk_aI h.1.1 hi ht, h.1.2.2.2.1 i hi]
theorem aJ_s (h : RP o c m u) {i n : Nat} {j : Int32} (hi : i < 57) (ht : tbl.getD i (9, []) = (1, [n])) : aJ u i j = if inb j n = true then some (m.2.2.2 i j.toNatClampNeg) else none := by
  rw [sk_aJ h.1.1 hi ht, h.1.2.2.2.2.1 i hi]
theorem pI_s (h : RP o c m u) {i ci k : Nat} {ks : List Nat} {v : Int32} (hi : i < 57 ∧ k < 20) (ht : tbl.getD i (9, []) = (3, ci :: ks)) (hk : ks[k]? = some 0) (hx : i ≠ 43 ∨ k ≠ 4) (hy : i ≠ 55 ∨ (k ≠ 3 ∧ k ≠ 4 ∧ k ≠ 10)) (hz : i ≠ 48) : ∃ w, pF u i ci k (.inl v) = some w ∧ RP o c (upI m (20 * i + k) v) w ∧ w.1 = u.1 :=
  ⟨_, (RP_pI h hi ht hk hx hy hz).1, (RP_pI h hi ht hk hx hy hz).2, uF_1⟩
theorem sI_s (h : RP o c m u) {i t n : Nat} {j v : Int32} (hi : i < 57) (hz : i ≠ 48) (ht : tbl.getD i (9, []) = (0, [t, n])) (hb : inb j n = true) : ∃ w, sI u i t j v = some w ∧ RP o c (upA m i (upd (m.2.2.1 i) j.toNatClampNeg v)) w ∧ w.1 = u.1 := by
  refine ⟨_, (sk_sI h.1.1 hi ht).trans (if_pos hb), ?_, uA_1⟩
  rw [h.1.2.2.2.1 i hi]
  exact RP_pA h hi ht hz
theorem sJ_s (h : RP o c m u) {i n : Nat} {j : Int32} {v : Int64} (hi : i < 57) (hz : i ≠ 48) (ht : tbl.getD i (9, []) = (1, [n])) (hb : inb j n = true) : ∃ w, sJ u i j v = some w ∧ RP o c (upJ m i (vp_updL (m.2.2.2 i) j.toNatClampNeg v)) w ∧ w.1 = u.1 := by
  refine ⟨_, (sk_sJ h.1.1 hi ht).trans (if_pos hb), ?_, uJ_1⟩
  rw [h.1.2.2.2.2.1 i hi]
  exact RP_pJ h hi ht hz
theorem gJ_s10 (h : RP o c m u) : gJ u 55 5 10 = some (m.2.1 1110) := by rw [gj_55_10 h.1.1, h.1.2.2.1]
theorem pL_s10 (h : RP o c m u) {v : Int64} : ∃ w, pF u 55 5 10 (.inr (.inl v)) = some w ∧ RP o c (upL m 1110 v) w ∧ w.1 = u.1 := ⟨_, RP_pL h |>.1, RP_pL h |>.2, uF_1⟩
def isWd (v : Nat) : Prop := v = 1 ∨ v = 9 ∨ v = 12 ∨ v = 36
def bl (j : Nat) : Nat := match tbl.getD j (9, []) with
  | (0, [3, n]) => n
  | _ => 0
def il (j : Nat) : Nat := match tbl.getD j (9, []) with
  | (0, [4, n]) => n
  | _ => 0
def isBy (j : Nat) : Prop := j < 57 ∧ j ≠ 48 ∧ tbl.getD j (9, []) = (0, [3, bl j])
def isOu (j : Nat) : Prop := j = 52 ∨ j = 56
theorem By_ou {j : Nat} (h : isOu j) : isBy j := by rcases h with rfl | rfl <;> exact ⟨by decide, by decide, rfl⟩
theorem By_5 : isBy 5 := ⟨by decide, by decide, rfl⟩
theorem By_w {v : Nat} (h : isWd v) : isBy (v + 1) := by rcases h with rfl | rfl | rfl | rfl <;> exact ⟨by decide, by decide, rfl⟩
theorem io_W (h : RP o c m u) {v : Nat} (hv : isWd v) : isO u v 11 = true := by rcases hv with rfl | rfl | rfl | rfl <;> exact sk_isO h.1.1 (by decide) rfl
theorem gr_W0 (h : RP o c m u) {v : Nat} (hv : isWd v) : gR u v 11 0 = some (some (v + 1)) := by rcases hv with rfl | rfl | rfl | rfl <;> exact sk_gR h.1.1 (by decide) rfl (by decide) rfl
theorem gr_W1 (h : RP o c m u) {v : Nat} (hv : isWd v) : gR u v 11 1 = some (some (v + 2)) := by rcases hv with rfl | rfl | rfl | rfl <;> exact sk_gR h.1.1 (by decide) rfl (by decide) rfl
theorem gi_W2 (h : RP o c m u) {v : Nat} (hv : isWd v) : gI u v 11 2 = some (m.1 (20 * v + 2)) := by rcases hv with rfl | rfl | rfl | rfl <;> exact gI_s h (by decide) rfl (by decide) rfl
theorem pf_W2 (h : RP o c m u) {v : Nat} (hv : isWd v) {x : Int32} : ∃ w, pF u v 11 2 (.inl x) = some w ∧ RP o c (upI m (20 * v + 2) x) w ∧ w.1 = u.1 := by rcases hv with rfl | rfl | rfl | rfl <;> exact pI_s h (by decide) rfl rfl (by decide) (by decide) (by decide)
theorem ai_W (h : RP o c m u) {v : Nat} (hv : isWd v) {j : Int32} : aI u (v + 2) 4 j = if inb j (il (v + 2)) = true then some (m.2.2.1 (v + 2) j.toNatClampNeg) else none := by rcases hv with rfl | rfl | rfl | rfl <;> exact aI_s h (by decide) rfl
theorem si_W (h : RP o c m u) {v : Nat} (hv : isWd v) {j x : Int32} (hb : inb j (il (v + 2)) = true) : ∃ w, sI u (v + 2) 4 j x = some w ∧ RP o c (upA m (v + 2) (upd (m.2.2.1 (v + 2)) j.toNatClampNeg x)) w ∧ w.1 = u.1 := by rcases hv with rfl | rfl | rfl | rfl <;> exact sI_s h (by decide) (by decide) rfl hb
theorem na_W (h : RP o c m u) {v : Nat} (hv : isWd v) : nA u (v + 2) 4 = some (Int32.ofNat (il (v + 2))) := by rcases hv with rfl | rfl | rfl | rfl <;> exact sk_nA h.1.1 (by decide) rfl
theorem ai_B (h : RP o c m u) {v : Nat} (hv : isBy v) {j : Int32} : aI u v 3 j = if inb j (bl v) = true then some (m.2.2.1 v j.toNatClampNeg) else none := aI_s h hv.1 hv.2.2
theorem si_B (h : RP o c m u) {v : Nat} (hv : isBy v) {j x : Int32} (hb : inb j (bl v) = true) : ∃ w, sI u v 3 j x = some w ∧ RP o c (upA m v (upd (m.2.2.1 v) j.toNatClampNeg x)) w ∧ w.1 = u.1 := sI_s h hv.1 hv.2.1 hv.2.2 hb
theorem na_B (h : RP o c m u) {v : Nat} (hv : isBy v) : nA u v 3 = some (Int32.ofNat (bl v)) := sk_nA h.1.1 hv.1 hv.2.2
theorem cp_B (h : RP o c m u) {v w : Nat} (hv : isBy v) (hw : isBy w) {a b n : Int32} (hz : (cpOk a b n (bl v) (bl w) && ftB 3 (m.2.2.1 v) a.toNatClampNeg n.toNatClampNeg) = true) : ∃ x, cpI u 3 v a w b n = some x ∧ RP o c (upA m w (va_cpy (m.2.2.1 v) (m.2.2.1 w) a.toNatClampNeg b.toNatClampNeg n.toNatClampNeg)) x ∧ x.1 = u.1 := by
  rw [Bool.and_eq_true] at hz
  obtain ⟨h1, h2⟩ := sk_a h.1.1 hv.1 hv.2.2
  obtain ⟨h3, h4⟩ := sk_a h.1.1 hw.1 hw.2.2
  have e1 : oA u v 3 = some (bl v, AI u v) := by unfold oA; rw [if_pos h1, h2]; exact if_pos rfl
  have e2 : oA u w 3 = some (bl w, AI u w) := by unfold oA; rw [if_pos h3, h4]; exact if_pos rfl
  refine ⟨uA u w (va_cpy (AI u v) (AI u w) a.toNatClampNeg b.toNatClampNeg n.toNatClampNeg), ?_, ?_, uA_1⟩
  · unfold cpI
    rw [e1, e2]
    show ck (cpOk a b n (bl v) (bl w)) (ck (ftB 3 (AI u v) a.toNatClampNeg n.toNatClampNeg) _) = _
    rw [h.1.2.2.2.1 v hv.1]
    unfold ck
    rw [if_pos hz.1, if_pos hz.2]
    unfold uA
    rw [h4]
  · rw [h.1.2.2.2.1 v hv.1, h.1.2.2.2.1 w hw.1]
    exact RP_pA h hw.1 hw.2.2 hw.2.1
theorem gr_out (h : RP o c m u) : gR u 43 8 4 = some (rf (m.1 1964)) := by rw [sk_gD (k := 4) h.1.1 (by decide) rfl (by decide) rfl, h.1.2.2.2.2.2.1]
theorem pf_out (h : RP o c m u) {v : Nat} (hv : isOu v) : ∃ w, pF u 43 8 4 (.inr (.inr (some v))) = some w ∧ RP o c (upI m 1964 (Int32.ofNat v)) w ∧ w.1 = u.1 := by
  obtain ⟨⟨s1, s2, s3, s4, s5, s6, s7⟩, r2, r3, r4⟩ := h
  have hr : rf (Int32.ofNat v) = some v := rf_ofNat (by rcases hv with rfl | rfl <;> decide)
  refine ⟨uF u 43 4 (.inr (.inr (some v))), sk_pF s1 (by decide) rfl, ?_, uF_1⟩
  refine RP_low (u := u) (m := m) ⟨⟨s1, s2, s3, s4, s5, s6, s7⟩, r2, r3, r4⟩ ⟨sk_uF (x := 2) s1 (by decide) rfl rfl rfl, fun i2 k2 hi2 hk2 => ?_, ?_, fun i2 h2 => ?_, fun i2 h2 => ?_, ?_, ?_⟩ (wf_uF r2 (okR_s (o := o) (c := c) (m := m) ⟨⟨s1, s2, s3, s4, s5, s6, s7⟩, r2, r3, r4⟩ (by rcases hv with rfl | rfl <;> decide))) (fun q hq => ?_) uF_1 (fun j hj => uF_ne (by omega)) (fun j hj => if_neg (by omega)) (fun _ _ => rfl) (fun _ _ => rfl) (fun _ _ => rfl)
  · by_cases e : i2 = 43 ∧ k2 = 4
    · obtain ⟨rfl, rfl⟩ := e
      rw [show (upI m 1964 (Int32.ofNat v)).1 (20 * 43 + 4) = m.1 (20 * 43 + 4) from rfl]
      rw [← s2 43 4 (by omega) (by omega)]
      obtain ⟨f, h1, h2, h3⟩ := sk_o s1 (i := 43) (by decide) rfl
      unfold FI uF
      rw [h2]
      simp only [cup, if_true]
      have := h3 4 (by decide)
      cases hf : f 4 with
      | inl z => rw [hf] at this; cases this
      | inr z => rfl
    · rw [FI_F (by omega), s2 i2 k2 hi2 hk2]
      exact (if_neg (by omega)).symm
  · rw [FJ_F (by omega)]; exact s3
  · rw [AI_F]; exact s4 i2 h2
  · rw [AJ_F]; exact s5 i2 h2
  · rw [FR_self s1 (by decide) rfl, show (upI m 1964 (Int32.ofNat v)).1 1964 = Int32.ofNat v from rfl, hr]
  · rw [show (upI m 1964 (Int32.ofNat v)).1 1964 = Int32.ofNat v from rfl, hr]
    intro j e
    cases e
    exact hv
  · rw [FR_F (by omega), FR_F (by omega)]; exact r3 q hq
theorem ou_out (h : RP o c m u) : ∀ j, rf (m.1 1964) = some j → isOu j := h.1.2.2.2.2.2.2
theorem rf_boB {α β : Type} {z : Nat} {V : (Nat → Nat) → α → β → Prop} {a : Option Nat} {f : Nat → Option (CS × α)} {g : Nat → Option (MS × β)} (h : ∀ j, a = some j → isOu j) (q : ∀ j, isOu j → RF z o V c u (f j) (g j)) : RF z o V c u (bo a f) (bo a g) := by
  cases a with
  | none => exact rf_none
  | some j => exact q j (h j rfl)
theorem ox_0 (h : RP o c m u) : isO u 0 1 = true := sk_isO h.1.1 (by decide) rfl
theorem rx_0_0 (h : RP o c m u) : gR u 0 1 0 = some (some 1) := sk_gR h.1.1 (by decide) rfl (by decide) rfl
theorem rx_0_1 (h : RP o c m u) : gR u 0 1 1 = some (some 4) := sk_gR h.1.1 (by decide) rfl (by decide) rfl
theorem rx_0_2 (h : RP o c m u) : gR u 0 1 2 = some (some 22) := sk_gR h.1.1 (by decide) rfl (by decide) rfl
theorem rx_0_3 (h : RP o c m u) : gR u 0 1 3 = some (some 33) := sk_gR h.1.1 (by decide) rfl (by decide) rfl
theorem rx_0_4 (h : RP o c m u) : gR u 0 1 4 = some (some 35) := sk_gR h.1.1 (by decide) rfl (by decide) rfl
theorem rx_0_5 (h : RP o c m u) : gR u 0 1 5 = some (some 43) := sk_gR h.1.1 (by decide) rfl (by decide) rfl
theorem rx_0_6 (h : RP o c m u) : gR u 0 1 6 = some (some 47) := sk_gR h.1.1 (by decide) rfl (by decide) rfl
theorem rx_0_7 (h : RP o c m u) : gR u 0 1 7 = some (some 55) := sk_gR h.1.1 (by decide) rfl (by decide) rfl
theorem rx_0_8 (h : RP o c m u) : gR u 0 1 8 = some (some 56) := sk_gR h.1.1 (by decide) rfl (by decide) rfl
theorem gx_0_9 (h : RP o c m u) : gI u 0 1 9 = some (m.1 9) := gI_s h (by decide) rfl (by decide) rfl
theorem px_0_9 (h : RP o c m u) {v : Int32} : ∃ w, pF u 0 1 9 (.inl v) = some w ∧ RP o c (upI m 9 v) w ∧ w.1 = u.1 := pI_s h (by decide) rfl rfl (by decide) (by decide) (by decide)
theorem gx_0_10 (h : RP o c m u) : gI u 0 1 10 = some (m.1 10) := gI_s h (by decide) rfl (by decide) rfl
theorem px_0_10 (h : RP o c m u) {v : Int32} : ∃ w, pF u 0 1 10 (.inl v) = some w ∧ RP o c (upI m 10 v) w ∧ w.1 = u.1 := pI_s h (by decide) rfl rfl (by decide) (by decide) (by decide)
theorem ox_1 (h : RP o c m u) : isO u 1 11 = true := sk_isO h.1.1 (by decide) rfl
theorem rx_1_0 (h : RP o c m u) : gR u 1 11 0 = some (some 2) := sk_gR h.1.1 (by decide) rfl (by decide) rfl
theorem rx_1_1 (h : RP o c m u) : gR u 1 11 1 = some (some 3) := sk_gR h.1.1 (by decide) rfl (by decide) rfl
theorem gx_1_2 (h : RP o c m u) : gI u 1 11 2 = some (m.1 22) := gI_s h (by decide) rfl (by decide) rfl
theorem px_1_2 (h : RP o c m u) {v : Int32} : ∃ w, pF u 1 11 2 (.inl v) = some w ∧ RP o c (upI m 22 v) w ∧ w.1 = u.1 := pI_s h (by decide) rfl rfl (by decide) (by decide) (by decide)
theorem ax_2 (h : RP o c m u) {j : Int32} : aI u 2 3 j = if inb j 4300 = true then some (m.2.2.1 2 j.toNatClampNeg) else none := aI_s h (by decide) rfl
theorem sx_2 (h : RP o c m u) {j v : Int32} (hb : inb j 4300 = true) : ∃ w, sI u 2 3 j v = some w ∧ RP o c (upA m 2 (upd (m.2.2.1 2) j.toNatClampNeg v)) w ∧ w.1 = u.1 := sI_s h (by decide) (by decide) rfl hb
theorem nx_2 (h : RP o c m u) : nA u 2 3 = some 4300 := sk_nA h.1.1 (by decide) rfl
theorem ax_3 (h : RP o c m u) {j : Int32} : aI u 3 4 j = if inb j 2101 = true then some (m.2.2.1 3 j.toNatClampNeg) else none := aI_s h (by decide) rfl
theorem sx_3 (h : RP o c m u) {j v : Int32} (hb : inb j 2101 = true) : ∃ w, sI u 3 4 j v = some w ∧ RP o c (upA m 3 (upd (m.2.2.1 3) j.toNatClampNeg v)) w ∧ w.1 = u.1 := sI_s h (by decide) (by decide) rfl hb
theorem nx_3 (h : RP o c m u) : nA u 3 4 = some 2101 := sk_nA h.1.1 (by decide) rfl
theorem ox_4 (h : RP o c m u) : isO u 4 9 = true := sk_isO h.1.1 (by decide) rfl
theorem rx_4_0 (h : RP o c m u) : gR u 4 9 0 = some (some 5) := sk_gR h.1.1 (by decide) rfl (by decide) rfl
theorem gx_4_1 (h : RP o c m u) : gI u 4 9 1 = some (m.1 81) := gI_s h (by decide) rfl (by decide) rfl
theorem px_4_1 (h : RP o c m u) {v : Int32} : ∃ w, pF u 4 9 1 (.inl v) = some w ∧ RP o c (upI m 81 v) w ∧ w.1 = u.1 := pI_s h (by decide) rfl rfl (by decide) (by decide) (by decide)
theorem rx_4_2 (h : RP o c m u) : gR u 4 9 2 = some (some 6) := sk_gR h.1.1 (by decide) rfl (by decide) rfl
theorem rx_4_3 (h : RP o c m u) : gR u 4 9 3 = some (some 7) := sk_gR h.1.1 (by decide) rfl (by decide) rfl
theorem rx_4_4 (h : RP o c m u) : gR u 4 9 4 = some (some 8) := sk_gR h.1.1 (by decide) rfl (by decide) rfl
theorem gx_4_5 (h : RP o c m u) : gI u 4 9 5 = some (m.1 85) := gI_s h (by decide) rfl (by decide) rfl
theorem px_4_5 (h : RP o c m u) {v : Int32} : ∃ w, pF u 4 9 5 (.inl v) = some w ∧ RP o c (upI m 85 v) w ∧ w.1 = u.1 := pI_s h (by decide) rfl rfl (by decide) (by decide) (by decide)
theorem rx_4_6 (h : RP o c m u) : gR u 4 9 6 = some (some 9) := sk_gR h.1.1 (by decide) rfl (by decide) rfl
theorem rx_4_7 (h : RP o c m u) : gR u 4 9 7 = some (some 1) := sk_gR h.1.1 (by decide) rfl (by decide) rfl
theorem rx_4_8 (h : RP o c m u) : gR u 4 9 8 = some (some 12) := sk_gR h.1.1 (by decide) rfl (by decide) rfl
theorem gx_4_9 (h : RP o c m u) : gI u 4 9 9 = some (m.1 89) := gI_s h (by decide) rfl (by decide) rfl
theorem px_4_9 (h : RP o c m u) {v : Int32} : ∃ w, pF u 4 9 9 (.inl v) = some w ∧ RP o c (upI m 89 v) w ∧ w.1 = u.1 := pI_s h (by decide) rfl rfl (by decide) (by decide) (by decide)
theorem gx_4_10 (h : RP o c m u) : gI u 4 9 10 = some (m.1 90) := gI_s h (by decide) rfl (by decide) rfl
theorem px_4_10 (h : RP o c m u) {v : Int32} : ∃ w, pF u 4 9 10 (.inl v) = some w ∧ RP o c (upI m 90 v) w ∧ w.1 = u.1 := pI_s h (by decide) rfl rfl (by decide) (by decide) (by decide)
theorem ax_5 (h : RP o c m u) {j : Int32} : aI u 5 3 j = if inb j 4000 = true then some (m.2.2.1 5 j.toNatClampNeg) else none := aI_s h (by decide) rfl
theorem sx_5 (h : RP o c m u) {j v : Int32} (hb : inb j 4000 = true) : ∃ w, sI u 5 3 j v = some w ∧ RP o c (upA m 5 (upd (m.2.2.1 5) j.toNatClampNeg v)) w ∧ w.1 = u.1 := sI_s h (by decide) (by decide) rfl hb
theorem nx_5 (h : RP o c m u) : nA u 5 3 = some 4000 := sk_nA h.1.1 (by decide) rfl
theorem ax_6 (h : RP o c m u) {j : Int32} : aI u 6 4 j = if inb j 4002 = true then some (m.2.2.1 6 j.toNatClampNeg) else none := aI_s h (by decide) rfl
theorem sx_6 (h : RP o c m u) {j v : Int32} (hb : inb j 4002 = true) : ∃ w, sI u 6 4 j v = some w ∧ RP o c (upA m 6 (upd (m.2.2.1 6) j.toNatClampNeg v)) w ∧ w.1 = u.1 := sI_s h (by decide) (by decide) rfl hb
theorem nx_6 (h : RP o c m u) : nA u 6 4 = some 4002 := sk_nA h.1.1 (by decide) rfl
theorem ax_7 (h : RP o c m u) {j : Int32} : aI u 7 4 j = if inb j 4002 = true then some (m.2.2.1 7 j.toNatClampNeg) else none := aI_s h (by decide) rfl
theorem sx_7 (h : RP o c m u) {j v : Int32} (hb : inb j 4002 = true) : ∃ w, sI u 7 4 j v = some w ∧ RP o c (upA m 7 (upd (m.2.2.1 7) j.toNatClampNeg v)) w ∧ w.1 = u.1 := sI_s h (by decide) (by decide) rfl hb
theorem nx_7 (h : RP o c m u) : nA u 7 4 = some 4002 := sk_nA h.1.1 (by decide) rfl
theorem ax_8 (h : RP o c m u) {j : Int32} : aI u 8 4 j = if inb j 4002 = true then some (m.2.2.1 8 j.toNatClampNeg) else none := aI_s h (by decide) rfl
theorem sx_8 (h : RP o c m u) {j v : Int32} (hb : inb j 4002 = true) : ∃ w, sI u 8 4 j v = some w ∧ RP o c (upA m 8 (upd (m.2.2.1 8) j.toNatClampNeg v)) w ∧ w.1 = u.1 := sI_s h (by decide) (by decide) rfl hb
theorem nx_8 (h : RP o c m u) : nA u 8 4 = some 4002 := sk_nA h.1.1 (by decide) rfl
theorem ox_9 (h : RP o c m u) : isO u 9 11 = true := sk_isO h.1.1 (by decide) rfl
theorem rx_9_0 (h : RP o c m u) : gR u 9 11 0 = some (some 10) := sk_gR h.1.1 (by decide) rfl (by decide) rfl
theorem rx_9_1 (h : RP o c m u) : gR u 9 11 1 = some (some 11) := sk_gR h.1.1 (by decide) rfl (by decide) rfl
theorem gx_9_2 (h : RP o c m u) : gI u 9 11 2 = some (m.1 182) := gI_s h (by decide) rfl (by decide) rfl
theorem px_9_2 (h : RP o c m u) {v : Int32} : ∃ w, pF u 9 11 2 (.inl v) = some w ∧ RP o c (upI m 182 v) w ∧ w.1 = u.1 := pI_s h (by decide) rfl rfl (by decide) (by decide) (by decide)
theorem ax_10 (h : RP o c m u) {j : Int32} : aI u 10 3 j = if inb j 100 = true then some (m.2.2.1 10 j.toNatClampNeg) else none := aI_s h (by decide) rfl
theorem sx_10 (h : RP o c m u) {j v : Int32} (hb : inb j 100 = true) : ∃ w, sI u 10 3 j v = some w ∧ RP o c (upA m 10 (upd (m.2.2.1 10) j.toNatClampNeg v)) w ∧ w.1 = u.1 := sI_s h (by decide) (by decide) rfl hb
theorem nx_10 (h : RP o c m u) : nA u 10 3 = some 100 := sk_nA h.1.1 (by decide) rfl
theorem ax_11 (h : RP o c m u) {j : Int32} : aI u 11 4 j = if inb j 21 = true then some (m.2.2.1 11 j.toNatClampNeg) else none := aI_s h (by decide) rfl
theorem sx_11 (h : RP o c m u) {j v : Int32} (hb : inb j 21 = true) : ∃ w, sI u 11 4 j v = some w ∧ RP o c (upA m 11 (upd (m.2.2.1 11) j.toNatClampNeg v)) w ∧ w.1 = u.1 := sI_s h (by decide) (by decide) rfl hb
theorem nx_11 (h : RP o c m u) : nA u 11 4 = some 21 := sk_nA h.1.1 (by decide) rfl
theorem ox_12 (h : RP o c m u) : isO u 12 11 = true := sk_isO h.1.1 (by decide) rfl
theorem rx_12_0 (h : RP o c m u) : gR u 12 11 0 = some (some 13) := sk_gR h.1.1 (by decide) rfl (by decide) rfl
theorem rx_12_1 (h : RP o c m u) : gR u 12 11 1 = some (some 14) := sk_gR h.1.1 (by decide) rfl (by decide) rfl
theorem gx_12_2 (h : RP o c m u) : gI u 12 11 2 = some (m.1 242) := gI_s h (by decide) rfl (by decide) rfl
theorem px_12_2 (h : RP o c m u) {v : Int32} : ∃ w, pF u 12 11 2 (.inl v) = some w ∧ RP o c (upI m 242 v) w ∧ w.1 = u.1 := pI_s h (by decide) rfl rfl (by decide) (by decide) (by decide)
theorem ax_13 (h : RP o c m u) {j : Int32} : aI u 13 3 j = if inb j 4300 = true then some (m.2.2.1 13 j.toNatClampNeg) else none := aI_s h (by decide) rfl
theorem sx_13 (h : RP o c m u) {j v : Int32} (hb : inb j 4300 = true) : ∃ w, sI u 13 3 j v = some w ∧ RP o c (upA m 13 (upd (m.2.2.1 13) j.toNatClampNeg v)) w ∧ w.1 = u.1 := sI_s h (by decide) (by decide) rfl hb
theorem nx_13 (h : RP o c m u) : nA u 13 3 = some 4300 := sk_nA h.1.1 (by decide) rfl
theorem ax_14 (h : RP o c m u) {j : Int32} : aI u 14 4 j = if inb j 2101 = true then some (m.2.2.1 14 j.toNatClampNeg) else none := aI_s h (by decide) rfl
theorem sx_14 (h : RP o c m u) {j v : Int32} (hb : inb j 2101 = true) : ∃ w, sI u 14 4 j v = some w ∧ RP o c (upA m 14 (upd (m.2.2.1 14) j.toNatClampNeg v)) w ∧ w.1 = u.1 := sI_s h (by decide) (by decide) rfl hb
theorem nx_14 (h : RP o c m u) : nA u 14 4 = some 2101 := sk_nA h.1.1 (by decide) rfl
theorem ox_15 (h : RP o c m u) : isO u 15 10 = true := sk_isO h.1.1 (by decide) rfl
theorem rx_15_0 (h : RP o c m u) : gR u 15 10 0 = some (some 16) := sk_gR h.1.1 (by decide) rfl (by decide) rfl
theorem rx_15_1 (h : RP o c m u) : gR u 15 10 1 = some (some 17) := sk_gR h.1.1 (by decide) rfl (by decide) rfl
theorem rx_15_2 (h : RP o c m u) : gR u 15 10 2 = some (some 18) := sk_gR h.1.1 (by decide) rfl (by decide) rfl
theorem rx_15_3 (h : RP o c m u) : gR u 15 10 3 = some (some 19) := sk_gR h.1.1 (by decide) rfl (by decide) rfl
theorem rx_15_4 (h : RP o c m u) : gR u 15 10 4 = some (some 20) := sk_gR h.1.1 (by decide) rfl (by decide) rfl
theorem rx_15_5 (h : RP o c m u) : gR u 15 10 5 = some (some 21) := sk_gR h.1.1 (by decide) rfl (by decide) rfl
theorem gx_15_6 (h : RP o c m u) : gI u 15 10 6 = some (m.1 306) := gI_s h (by decide) rfl (by decide) rfl
theorem px_15_6 (h : RP o c m u) {v : Int32} : ∃ w, pF u 15 10 6 (.inl v) = some w ∧ RP o c (upI m 306 v) w ∧ w.1 = u.1 := pI_s h (by decide) rfl rfl (by decide) (by decide) (by decide)
theorem ax_16 (h : RP o c m u) {j : Int32} : aI u 16 4 j = if inb j 8016 = true then some (m.2.2.1 16 j.toNatClampNeg) else none := aI_s h (by decide) rfl
theorem sx_16 (h : RP o c m u) {j v : Int32} (hb : inb j 8016 = true) : ∃ w, sI u 16 4 j v = some w ∧ RP o c (upA m 16 (upd (m.2.2.1 16) j.toNatClampNeg v)) w ∧ w.1 = u.1 := sI_s h (by decide) (by decide) rfl hb
theorem nx_16 (h : RP o c m u) : nA u 16 4 = some 8016 := sk_nA h.1.1 (by decide) rfl
theorem ax_17 (h : RP o c m u) {j : Int32} : aI u 17 4 j = if inb j 8016 = true then some (m.2.2.1 17 j.toNatClampNeg) else none := aI_s h (by decide) rfl
theorem sx_17 (h : RP o c m u) {j v : Int32} (hb : inb j 8016 = true) : ∃ w, sI u 17 4 j v = some w ∧ RP o c (upA m 17 (upd (m.2.2.1 17) j.toNatClampNeg v)) w ∧ w.1 = u.1 := sI_s h (by decide) (by decide) rfl hb
theorem nx_17 (h : RP o c m u) : nA u 17 4 = some 8016 := sk_nA h.1.1 (by decide) rfl
theorem ax_18 (h : RP o c m u) {j : Int32} : aI u 18 4 j = if inb j 8016 = true then some (m.2.2.1 18 j.toNatClampNeg) else none := aI_s h (by decide) rfl
theorem sx_18 (h : RP o c m u) {j v : Int32} (hb : inb j 8016 = true) : ∃ w, sI u 18 4 j v = some w ∧ RP o c (upA m 18 (upd (m.2.2.1 18) j.toNatClampNeg v)) w ∧ w.1 = u.1 := sI_s h (by decide) (by decide) rfl hb
theorem nx_18 (h : RP o c m u) : nA u 18 4 = some 8016 := sk_nA h.1.1 (by decide) rfl
theorem ax_19 (h : RP o c m u) {j : Int32} : aI u 19 4 j = if inb j 8016 = true then some (m.2.2.1 19 j.toNatClampNeg) else none := aI_s h (by decide) rfl
theorem sx_19 (h : RP o c m u) {j v : Int32} (hb : inb j 8016 = true) : ∃ w, sI u 19 4 j v = some w ∧ RP o c (upA m 19 (upd (m.2.2.1 19) j.toNatClampNeg v)) w ∧ w.1 = u.1 := sI_s h (by decide) (by decide) rfl hb
theorem nx_19 (h : RP o c m u) : nA u 19 4 = some 8016 := sk_nA h.1.1 (by decide) rfl
theorem ax_20 (h : RP o c m u) {j : Int32} : aI u 20 4 j = if inb j 8016 = true then some (m.2.2.1 20 j.toNatClampNeg) else none := aI_s h (by decide) rfl
theorem sx_20 (h : RP o c m u) {j v : Int32} (hb : inb j 8016 = true) : ∃ w, sI u 20 4 j v = some w ∧ RP o c (upA m 20 (upd (m.2.2.1 20) j.toNatClampNeg v)) w ∧ w.1 = u.1 := sI_s h (by decide) (by decide) rfl hb
theorem nx_20 (h : RP o c m u) : nA u 20 4 = some 8016 := sk_nA h.1.1 (by decide) rfl
theorem ax_21 (h : RP o c m u) {j : Int32} : aI u 21 4 j = if inb j 8016 = true then some (m.2.2.1 21 j.toNatClampNeg) else none := aI_s h (by decide) rfl
theorem sx_21 (h : RP o c m u) {j v : Int32} (hb : inb j 8016 = true) : ∃ w, sI u 21 4 j v = some w ∧ RP o c (upA m 21 (upd (m.2.2.1 21) j.toNatClampNeg v)) w ∧ w.1 = u.1 := sI_s h (by decide) (by decide) rfl hb
theorem nx_21 (h : RP o c m u) : nA u 21 4 = some 8016 := sk_nA h.1.1 (by decide) rfl
theorem ox_22 (h : RP o c m u) : isO u 22 2 = true := sk_isO h.1.1 (by decide) rfl
theorem rx_22_0 (h : RP o c m u) : gR u 22 2 0 = some (some 23) := sk_gR h.1.1 (by decide) rfl (by decide) rfl
theorem gx_22_1 (h : RP o c m u) : gI u 22 2 1 = some (m.1 441) := gI_s h (by decide) rfl (by decide) rfl
theorem px_22_1 (h : RP o c m u) {v : Int32} : ∃ w, pF u 22 2 1 (.inl v) = some w ∧ RP o c (upI m 441 v) w ∧ w.1 = u.1 := pI_s h (by decide) rfl rfl (by decide) (by decide) (by decide)
theorem gx_22_2 (h : RP o c m u) : gI u 22 2 2 = some (m.1 442) := gI_s h (by decide) rfl (by decide) rfl
theorem px_22_2 (h : RP o c m u) {v : Int32} : ∃ w, pF u 22 2 2 (.inl v) = some w ∧ RP o c (upI m 442 v) w ∧ w.1 = u.1 := pI_s h (by decide) rfl rfl (by decide) (by decide) (by decide)
theorem rx_22_3 (h : RP o c m u) : gR u 22 2 3 = some (some 24) := sk_gR h.1.1 (by decide) rfl (by decide) rfl
theorem rx_22_4 (h : RP o c m u) : gR u 22 2 4 = some (some 25) := sk_gR h.1.1 (by decide) rfl (by decide) rfl
theorem rx_22_5 (h : RP o c m u) : gR u 22 2 5 = some (some 26) := sk_gR h.1.1 (by decide) rfl (by decide) rfl
theorem rx_22_6 (h : RP o c m u) : gR u 22 2 6 = some (some 27) := sk_gR h.1.1 (by decide) rfl (by decide) rfl
theorem rx_22_7 (h : RP o c m u) : gR u 22 2 7 = some (some 28) := sk_gR h.1.1 (by decide) rfl (by decide) rfl
theorem rx_22_8 (h : RP o c m u) : gR u 22 2 8 = some (some 29) := sk_gR h.1.1 (by decide) rfl (by decide) rfl
theorem gx_22_9 (h : RP o c m u) : gI u 22 2 9 = some (m.1 449) := gI_s h (by decide) rfl (by decide) rfl
theorem px_22_9 (h : RP o c m u) {v : Int32} : ∃ w, pF u 22 2 9 (.inl v) = some w ∧ RP o c (upI m 449 v) w ∧ w.1 = u.1 := pI_s h (by decide) rfl rfl (by decide) (by decide) (by decide)
theorem rx_22_10 (h : RP o c m u) : gR u 22 2 10 = some (some 30) := sk_gR h.1.1 (by decide) rfl (by decide) rfl
theorem rx_22_11 (h : RP o c m u) : gR u 22 2 11 = some (some 31) := sk_gR h.1.1 (by decide) rfl (by decide) rfl
theorem rx_22_12 (h : RP o c m u) : gR u 22 2 12 = some (some 32) := sk_gR h.1.1 (by decide) rfl (by decide) rfl
theorem ax_23 (h : RP o c m u) {j : Int32} : aI u 23 4 j = if inb j 24000 = true then some (m.2.2.1 23 j.toNatClampNeg) else none := aI_s h (by decide) rfl
theorem sx_23 (h : RP o c m u) {j v : Int32} (hb : inb j 24000 = true) : ∃ w, sI u 23 4 j v = some w ∧ RP o c (upA m 23 (upd (m.2.2.1 23) j.toNatClampNeg v)) w ∧ w.1 = u.1 := sI_s h (by decide) (by decide) rfl hb
theorem nx_23 (h : RP o c m u) : nA u 23 4 = some 24000 := sk_nA h.1.1 (by decide) rfl
theorem ax_24 (h : RP o c m u) {j : Int32} : aI u 24 4 j = if inb j 666 = true then some (m.2.2.1 24 j.toNatClampNeg) else none := aI_s h (by decide) rfl
theorem sx_24 (h : RP o c m u) {j v : Int32} (hb : inb j 666 = true) : ∃ w, sI u 24 4 j v = some w ∧ RP o c (upA m 24 (upd (m.2.2.1 24) j.toNatClampNeg v)) w ∧ w.1 = u.1 := sI_s h (by decide) (by decide) rfl hb
theorem nx_24 (h : RP o c m u) : nA u 24 4 = some 666 := sk_nA h.1.1 (by decide) rfl
theorem ax_25 (h : RP o c m u) {j : Int32} : aI u 25 4 j = if inb j 666 = true then some (m.2.2.1 25 j.toNatClampNeg) else none := aI_s h (by decide) rfl
theorem sx_25 (h : RP o c m u) {j v : Int32} (hb : inb j 666 = true) : ∃ w, sI u 25 4 j v = some w ∧ RP o c (upA m 25 (upd (m.2.2.1 25) j.toNatClampNeg v)) w ∧ w.1 = u.1 := sI_s h (by decide) (by decide) rfl hb
theorem nx_25 (h : RP o c m u) : nA u 25 4 = some 666 := sk_nA h.1.1 (by decide) rfl
theorem ax_26 (h : RP o c m u) {j : Int32} : aI u 26 4 j = if inb j 666 = true then some (m.2.2.1 26 j.toNatClampNeg) else none := aI_s h (by decide) rfl
theorem sx_26 (h : RP o c m u) {j v : Int32} (hb : inb j 666 = true) : ∃ w, sI u 26 4 j v = some w ∧ RP o c (upA m 26 (upd (m.2.2.1 26) j.toNatClampNeg v)) w ∧ w.1 = u.1 := sI_s h (by decide) (by decide) rfl hb
theorem nx_26 (h : RP o c m u) : nA u 26 4 = some 666 := sk_nA h.1.1 (by decide) rfl
theorem ax_27 (h : RP o c m u) {j : Int32} : aI u 27 4 j = if inb j 666 = true then some (m.2.2.1 27 j.toNatClampNeg) else none := aI_s h (by decide) rfl
theorem sx_27 (h : RP o c m u) {j v : Int32} (hb : inb j 666 = true) : ∃ w, sI u 27 4 j v = some w ∧ RP o c (upA m 27 (upd (m.2.2.1 27) j.toNatClampNeg v)) w ∧ w.1 = u.1 := sI_s h (by decide) (by decide) rfl hb
theorem nx_27 (h : RP o c m u) : nA u 27 4 = some 666 := sk_nA h.1.1 (by decide) rfl
theorem ax_28 (h : RP o c m u) {j : Int32} : aI u 28 4 j = if inb j 666 = true then some (m.2.2.1 28 j.toNatClampNeg) else none := aI_s h (by decide) rfl
theorem sx_28 (h : RP o c m u) {j v : Int32} (hb : inb j 666 = true) : ∃ w, sI u 28 4 j v = some w ∧ RP o c (upA m 28 (upd (m.2.2.1 28) j.toNatClampNeg v)) w ∧ w.1 = u.1 := sI_s h (by decide) (by decide) rfl hb
theorem nx_28 (h : RP o c m u) : nA u 28 4 = some 666 := sk_nA h.1.1 (by decide) rfl
theorem ax_29 (h : RP o c m u) {j : Int32} : aI u 29 4 j = if inb j 666 = true then some (m.2.2.1 29 j.toNatClampNeg) else none := aI_s h (by decide) rfl
theorem sx_29 (h : RP o c m u) {j v : Int32} (hb : inb j 666 = true) : ∃ w, sI u 29 4 j v = some w ∧ RP o c (upA m 29 (upd (m.2.2.1 29) j.toNatClampNeg v)) w ∧ w.1 = u.1 := sI_s h (by decide) (by decide) rfl hb
theorem nx_29 (h : RP o c m u) : nA u 29 4 = some 666 := sk_nA h.1.1 (by decide) rfl
theorem ax_30 (h : RP o c m u) {j : Int32} : aI u 30 4 j = if inb j 400 = true then some (m.2.2.1 30 j.toNatClampNeg) else none := aI_s h (by decide) rfl
theorem sx_30 (h : RP o c m u) {j v : Int32} (hb : inb j 400 = true) : ∃ w, sI u 30 4 j v = some w ∧ RP o c (upA m 30 (upd (m.2.2.1 30) j.toNatClampNeg v)) w ∧ w.1 = u.1 := sI_s h (by decide) (by decide) rfl hb
theorem nx_30 (h : RP o c m u) : nA u 30 4 = some 400 := sk_nA h.1.1 (by decide) rfl
theorem ax_31 (h : RP o c m u) {j : Int32} : aI u 31 4 j = if inb j 400 = true then some (m.2.2.1 31 j.toNatClampNeg) else none := aI_s h (by decide) rfl
theorem sx_31 (h : RP o c m u) {j v : Int32} (hb : inb j 400 = true) : ∃ w, sI u 31 4 j v = some w ∧ RP o c (upA m 31 (upd (m.2.2.1 31) j.toNatClampNeg v)) w ∧ w.1 = u.1 := sI_s h (by decide) (by decide) rfl hb
theorem nx_31 (h : RP o c m u) : nA u 31 4 = some 400 := sk_nA h.1.1 (by decide) rfl
theorem ax_32 (h : RP o c m u) {j : Int32} : aI u 32 4 j = if inb j 400 = true then some (m.2.2.1 32 j.toNatClampNeg) else none := aI_s h (by decide) rfl
theorem sx_32 (h : RP o c m u) {j v : Int32} (hb : inb j 400 = true) : ∃ w, sI u 32 4 j v = some w ∧ RP o c (upA m 32 (upd (m.2.2.1 32) j.toNatClampNeg v)) w ∧ w.1 = u.1 := sI_s h (by decide) (by decide) rfl hb
theorem nx_32 (h : RP o c m u) : nA u 32 4 = some 400 := sk_nA h.1.1 (by decide) rfl
theorem ox_33 (h : RP o c m u) : isO u 33 6 = true := sk_isO h.1.1 (by decide) rfl
theorem rx_33_0 (h : RP o c m u) : gR u 33 6 0 = some (some 4) := sk_gR h.1.1 (by decide) rfl (by decide) rfl
theorem rx_33_1 (h : RP o c m u) : gR u 33 6 1 = some (some 15) := sk_gR h.1.1 (by decide) rfl (by decide) rfl
theorem rx_33_2 (h : RP o c m u) : gR u 33 6 2 = some (some 22) := sk_gR h.1.1 (by decide) rfl (by decide) rfl
theorem rx_33_3 (h : RP o c m u) : gR u 33 6 3 = some (some 34) := sk_gR h.1.1 (by decide) rfl (by decide) rfl
theorem gx_33_4 (h : RP o c m u) : gI u 33 6 4 = some (m.1 664) := gI_s h (by decide) rfl (by decide) rfl
theorem px_33_4 (h : RP o c m u) {v : Int32} : ∃ w, pF u 33 6 4 (.inl v) = some w ∧ RP o c (upI m 664 v) w ∧ w.1 = u.1 := pI_s h (by decide) rfl rfl (by decide) (by decide) (by decide)
theorem gx_33_5 (h : RP o c m u) : gI u 33 6 5 = some (m.1 665) := gI_s h (by decide) rfl (by decide) rfl
theorem px_33_5 (h : RP o c m u) {v : Int32} : ∃ w, pF u 33 6 5 (.inl v) = some w ∧ RP o c (upI m 665 v) w ∧ w.1 = u.1 := pI_s h (by decide) rfl rfl (by decide) (by decide) (by decide)
theorem gx_33_6 (h : RP o c m u) : gI u 33 6 6 = some (m.1 666) := gI_s h (by decide) rfl (by decide) rfl
theorem px_33_6 (h : RP o c m u) {v : Int32} : ∃ w, pF u 33 6 6 (.inl v) = some w ∧ RP o c (upI m 666 v) w ∧ w.1 = u.1 := pI_s h (by decide) rfl rfl (by decide) (by decide) (by decide)
theorem gx_33_7 (h : RP o c m u) : gI u 33 6 7 = some (m.1 667) := gI_s h (by decide) rfl (by decide) rfl
theorem px_33_7 (h : RP o c m u) {v : Int32} : ∃ w, pF u 33 6 7 (.inl v) = some w ∧ RP o c (upI m 667 v) w ∧ w.1 = u.1 := pI_s h (by decide) rfl rfl (by decide) (by decide) (by decide)
theorem ax_34 (h : RP o c m u) {j : Int32} : aI u 34 4 j = if inb j 4002 = true then some (m.2.2.1 34 j.toNatClampNeg) else none := aI_s h (by decide) rfl
theorem sx_34 (h : RP o c m u) {j v : Int32} (hb : inb j 4002 = true) : ∃ w, sI u 34 4 j v = some w ∧ RP o c (upA m 34 (upd (m.2.2.1 34) j.toNatClampNeg v)) w ∧ w.1 = u.1 := sI_s h (by decide) (by decide) rfl hb
theorem nx_34 (h : RP o c m u) : nA u 34 4 = some 4002 := sk_nA h.1.1 (by decide) rfl
theorem ox_35 (h : RP o c m u) : isO u 35 3 = true := sk_isO h.1.1 (by decide) rfl
theorem rx_35_0 (h : RP o c m u) : gR u 35 3 0 = some (some 4) := sk_gR h.1.1 (by decide) rfl (by decide) rfl
theorem rx_35_1 (h : RP o c m u) : gR u 35 3 1 = some (some 15) := sk_gR h.1.1 (by decide) rfl (by decide) rfl
theorem rx_35_2 (h : RP o c m u) : gR u 35 3 2 = some (some 22) := sk_gR h.1.1 (by decide) rfl (by decide) rfl
theorem rx_35_3 (h : RP o c m u) : gR u 35 3 3 = some (some 1) := sk_gR h.1.1 (by decide) rfl (by decide) rfl
theorem rx_35_4 (h : RP o c m u) : gR u 35 3 4 = some (some 36) := sk_gR h.1.1 (by decide) rfl (by decide) rfl
theorem rx_35_5 (h : RP o c m u) : gR u 35 3 5 = some (some 39) := sk_gR h.1.1 (by decide) rfl (by decide) rfl
theorem gx_35_6 (h : RP o c m u) : gI u 35 3 6 = some (m.1 706) := gI_s h (by decide) rfl (by decide) rfl
theorem px_35_6 (h : RP o c m u) {v : Int32} : ∃ w, pF u 35 3 6 (.inl v) = some w ∧ RP o c (upI m 706 v) w ∧ w.1 = u.1 := pI_s h (by decide) rfl rfl (by decide) (by decide) (by decide)
theorem rx_35_7 (h : RP o c m u) : gR u 35 3 7 = some (some 40) := sk_gR h.1.1 (by decide) rfl (by decide) rfl
theorem rx_35_8 (h : RP o c m u) : gR u 35 3 8 = some (some 41) := sk_gR h.1.1 (by decide) rfl (by decide) rfl
theorem gx_35_9 (h : RP o c m u) : gI u 35 3 9 = some (m.1 709) := gI_s h (by decide) rfl (by decide) rfl
theorem px_35_9 (h : RP o c m u) {v : Int32} : ∃ w, pF u 35 3 9 (.inl v) = some w ∧ RP o c (upI m 709 v) w ∧ w.1 = u.1 := pI_s h (by decide) rfl rfl (by decide) (by decide) (by decide)
theorem rx_35_10 (h : RP o c m u) : gR u 35 3 10 = some (some 42) := sk_gR h.1.1 (by decide) rfl (by decide) rfl
theorem gx_35_11 (h : RP o c m u) : gI u 35 3 11 = some (m.1 711) := gI_s h (by decide) rfl (by decide) rfl
theorem px_35_11 (h : RP o c m u) {v : Int32} : ∃ w, pF u 35 3 11 (.inl v) = some w ∧ RP o c (upI m 711 v) w ∧ w.1 = u.1 := pI_s h (by decide) rfl rfl (by decide) (by decide) (by decide)
theorem gx_35_12 (h : RP o c m u) : gI u 35 3 12 = some (m.1 712) := gI_s h (by decide) rfl (by decide) rfl
theorem px_35_12 (h : RP o c m u) {v : Int32} : ∃ w, pF u 35 3 12 (.inl v) = some w ∧ RP o c (upI m 712 v) w ∧ w.1 = u.1 := pI_s h (by decide) rfl rfl (by decide) (by decide) (by decide)
theorem gx_35_13 (h : RP o c m u) : gI u 35 3 13 = some (m.1 713) := gI_s h (by decide) rfl (by decide) rfl
theorem px_35_13 (h : RP o c m u) {v : Int32} : ∃ w, pF u 35 3 13 (.inl v) = some w ∧ RP o c (upI m 713 v) w ∧ w.1 = u.1 := pI_s h (by decide) rfl rfl (by decide) (by decide) (by decide)
theorem gx_35_14 (h : RP o c m u) : gI u 35 3 14 = some (m.1 714) := gI_s h (by decide) rfl (by decide) rfl
theorem px_35_14 (h : RP o c m u) {v : Int32} : ∃ w, pF u 35 3 14 (.inl v) = some w ∧ RP o c (upI m 714 v) w ∧ w.1 = u.1 := pI_s h (by decide) rfl rfl (by decide) (by decide) (by decide)
theorem ox_36 (h : RP o c m u) : isO u 36 11 = true := sk_isO h.1.1 (by decide) rfl
theorem rx_36_0 (h : RP o c m u) : gR u 36 11 0 = some (some 37) := sk_gR h.1.1 (by decide) rfl (by decide) rfl
theorem rx_36_1 (h : RP o c m u) : gR u 36 11 1 = some (some 38) := sk_gR h.1.1 (by decide) rfl (by decide) rfl
theorem gx_36_2 (h : RP o c m u) : gI u 36 11 2 = some (m.1 722) := gI_s h (by decide) rfl (by decide) rfl
theorem px_36_2 (h : RP o c m u) {v : Int32} : ∃ w, pF u 36 11 2 (.inl v) = some w ∧ RP o c (upI m 722 v) w ∧ w.1 = u.1 := pI_s h (by decide) rfl rfl (by decide) (by decide) (by decide)
theorem ax_37 (h : RP o c m u) {j : Int32} : aI u 37 3 j = if inb j 300 = true then some (m.2.2.1 37 j.toNatClampNeg) else none := aI_s h (by decide) rfl
theorem sx_37 (h : RP o c m u) {j v : Int32} (hb : inb j 300 = true) : ∃ w, sI u 37 3 j v = some w ∧ RP o c (upA m 37 (upd (m.2.2.1 37) j.toNatClampNeg v)) w ∧ w.1 = u.1 := sI_s h (by decide) (by decide) rfl hb
theorem nx_37 (h : RP o c m u) : nA u 37 3 = some 300 := sk_nA h.1.1 (by decide) rfl
theorem ax_38 (h : RP o c m u) {j : Int32} : aI u 38 4 j = if inb j 41 = true then some (m.2.2.1 38 j.toNatClampNeg) else none := aI_s h (by decide) rfl
theorem sx_38 (h : RP o c m u) {j v : Int32} (hb : inb j 41 = true) : ∃ w, sI u 38 4 j v = some w ∧ RP o c (upA m 38 (upd (m.2.2.1 38) j.toNatClampNeg v)) w ∧ w.1 = u.1 := sI_s h (by decide) (by decide) rfl hb
theorem nx_38 (h : RP o c m u) : nA u 38 4 = some 41 := sk_nA h.1.1 (by decide) rfl
theorem ax_39 (h : RP o c m u) {j : Int32} : aI u 39 4 j = if inb j 4000 = true then some (m.2.2.1 39 j.toNatClampNeg) else none := aI_s h (by decide) rfl
theorem sx_39 (h : RP o c m u) {j v : Int32} (hb : inb j 4000 = true) : ∃ w, sI u 39 4 j v = some w ∧ RP o c (upA m 39 (upd (m.2.2.1 39) j.toNatClampNeg v)) w ∧ w.1 = u.1 := sI_s h (by decide) (by decide) rfl hb
theorem nx_39 (h : RP o c m u) : nA u 39 4 = some 4000 := sk_nA h.1.1 (by decide) rfl
theorem ax_40 (h : RP o c m u) {j : Int32} : aI u 40 4 j = if inb j 32 = true then some (m.2.2.1 40 j.toNatClampNeg) else none := aI_s h (by decide) rfl
theorem sx_40 (h : RP o c m u) {j v : Int32} (hb : inb j 32 = true) : ∃ w, sI u 40 4 j v = some w ∧ RP o c (upA m 40 (upd (m.2.2.1 40) j.toNatClampNeg v)) w ∧ w.1 = u.1 := sI_s h (by decide) (by decide) rfl hb
theorem nx_40 (h : RP o c m u) : nA u 40 4 = some 32 := sk_nA h.1.1 (by decide) rfl
theorem ax_41 (h : RP o c m u) {j : Int32} : aI u 41 4 j = if inb j 32 = true then some (m.2.2.1 41 j.toNatClampNeg) else none := aI_s h (by decide) rfl
theorem sx_41 (h : RP o c m u) {j v : Int32} (hb : inb j 32 = true) : ∃ w, sI u 41 4 j v = some w ∧ RP o c (upA m 41 (upd (m.2.2.1 41) j.toNatClampNeg v)) w ∧ w.1 = u.1 := sI_s h (by decide) (by decide) rfl hb
theorem nx_41 (h : RP o c m u) : nA u 41 4 = some 32 := sk_nA h.1.1 (by decide) rfl
theorem ax_42 (h : RP o c m u) {j : Int32} : aI u 42 4 j = if inb j 4002 = true then some (m.2.2.1 42 j.toNatClampNeg) else none := aI_s h (by decide) rfl
theorem sx_42 (h : RP o c m u) {j v : Int32} (hb : inb j 4002 = true) : ∃ w, sI u 42 4 j v = some w ∧ RP o c (upA m 42 (upd (m.2.2.1 42) j.toNatClampNeg v)) w ∧ w.1 = u.1 := sI_s h (by decide) (by decide) rfl hb
theorem nx_42 (h : RP o c m u) : nA u 42 4 = some 4002 := sk_nA h.1.1 (by decide) rfl
theorem ox_43 (h : RP o c m u) : isO u 43 8 = true := sk_isO h.1.1 (by decide) rfl
theorem rx_43_0 (h : RP o c m u) : gR u 43 8 0 = some (some 44) := sk_gR h.1.1 (by decide) rfl (by decide) rfl
theorem rx_43_1 (h : RP o c m u) : gR u 43 8 1 = some (some 45) := sk_gR h.1.1 (by decide) rfl (by decide) rfl
theorem rx_43_2 (h : RP o c m u) : gR u 43 8 2 = some (some 46) := sk_gR h.1.1 (by decide) rfl (by decide) rfl
theorem rx_43_3 (h : RP o c m u) : gR u 43 8 3 = some (some 1) := sk_gR h.1.1 (by decide) rfl (by decide) rfl
theorem gx_43_5 (h : RP o c m u) : gI u 43 8 5 = some (m.1 865) := gI_s h (by decide) rfl (by decide) rfl
theorem px_43_5 (h : RP o c m u) {v : Int32} : ∃ w, pF u 43 8 5 (.inl v) = some w ∧ RP o c (upI m 865 v) w ∧ w.1 = u.1 := pI_s h (by decide) rfl rfl (by decide) (by decide) (by decide)
theorem gx_43_6 (h : RP o c m u) : gI u 43 8 6 = some (m.1 866) := gI_s h (by decide) rfl (by decide) rfl
theorem px_43_6 (h : RP o c m u) {v : Int32} : ∃ w, pF u 43 8 6 (.inl v) = some w ∧ RP o c (upI m 866 v) w ∧ w.1 = u.1 := pI_s h (by decide) rfl rfl (by decide) (by decide) (by decide)
theorem ax_44 (h : RP o c m u) {j : Int32} : aJ u 44 j = if inb j 2048 = true then some (m.2.2.2 44 j.toNatClampNeg) else none := aJ_s h (by decide) rfl
theorem sx_44 (h : RP o c m u) {j : Int32} {v : Int64} (hb : inb j 2048 = true) : ∃ w, sJ u 44 j v = some w ∧ RP o c (upJ m 44 (vp_updL (m.2.2.2 44) j.toNatClampNeg v)) w ∧ w.1 = u.1 := sJ_s h (by decide) (by decide) rfl hb
theorem ax_45 (h : RP o c m u) {j : Int32} : aJ u 45 j = if inb j 2048 = true then some (m.2.2.2 45 j.toNatClampNeg) else none := aJ_s h (by decide) rfl
theorem sx_45 (h : RP o c m u) {j : Int32} {v : Int64} (hb : inb j 2048 = true) : ∃ w, sJ u 45 j v = some w ∧ RP o c (upJ m 45 (vp_updL (m.2.2.2 45) j.toNatClampNeg v)) w ∧ w.1 = u.1 := sJ_s h (by decide) (by decide) rfl hb
theorem ax_46 (h : RP o c m u) {j : Int32} : aJ u 46 j = if inb j 2048 = true then some (m.2.2.2 46 j.toNatClampNeg) else none := aJ_s h (by decide) rfl
theorem sx_46 (h : RP o c m u) {j : Int32} {v : Int64} (hb : inb j 2048 = true) : ∃ w, sJ u 46 j v = some w ∧ RP o c (upJ m 46 (vp_updL (m.2.2.2 46) j.toNatClampNeg v)) w ∧ w.1 = u.1 := sJ_s h (by decide) (by decide) rfl hb
theorem ox_47 (h : RP o c m u) : isO u 47 12 = true := sk_isO h.1.1 (by decide) rfl
theorem rx_47_0 (h : RP o c m u) : gR u 47 12 0 = some (some 43) := sk_gR h.1.1 (by decide) rfl (by decide) rfl
theorem rx_47_1 (h : RP o c m u) : gR u 47 12 1 = some (some 48) := sk_gR h.1.1 (by decide) rfl (by decide) rfl
theorem gx_47_2 (h : RP o c m u) : gI u 47 12 2 = some (m.1 942) := gI_s h (by decide) rfl (by decide) rfl
theorem px_47_2 (h : RP o c m u) {v : Int32} : ∃ w, pF u 47 12 2 (.inl v) = some w ∧ RP o c (upI m 942 v) w ∧ w.1 = u.1 := pI_s h (by decide) rfl rfl (by decide) (by decide) (by decide)
theorem gx_47_3 (h : RP o c m u) : gI u 47 12 3 = some (m.1 943) := gI_s h (by decide) rfl (by decide) rfl
theorem px_47_3 (h : RP o c m u) {v : Int32} : ∃ w, pF u 47 12 3 (.inl v) = some w ∧ RP o c (upI m 943 v) w ∧ w.1 = u.1 := pI_s h (by decide) rfl rfl (by decide) (by decide) (by decide)
theorem gx_47_4 (h : RP o c m u) : gI u 47 12 4 = some (m.1 944) := gI_s h (by decide) rfl (by decide) rfl
theorem px_47_4 (h : RP o c m u) {v : Int32} : ∃ w, pF u 47 12 4 (.inl v) = some w ∧ RP o c (upI m 944 v) w ∧ w.1 = u.1 := pI_s h (by decide) rfl rfl (by decide) (by decide) (by decide)
theorem gx_47_5 (h : RP o c m u) : gI u 47 12 5 = some (m.1 945) := gI_s h (by decide) rfl (by decide) rfl
theorem px_47_5 (h : RP o c m u) {v : Int32} : ∃ w, pF u 47 12 5 (.inl v) = some w ∧ RP o c (upI m 945 v) w ∧ w.1 = u.1 := pI_s h (by decide) rfl rfl (by decide) (by decide) (by decide)
theorem gx_47_6 (h : RP o c m u) : gI u 47 12 6 = some (m.1 946) := gI_s h (by decide) rfl (by decide) rfl
theorem px_47_6 (h : RP o c m u) {v : Int32} : ∃ w, pF u 47 12 6 (.inl v) = some w ∧ RP o c (upI m 946 v) w ∧ w.1 = u.1 := pI_s h (by decide) rfl rfl (by decide) (by decide) (by decide)
theorem rx_47_7 (h : RP o c m u) : gR u 47 12 7 = some (some 49) := sk_gR h.1.1 (by decide) rfl (by decide) rfl
theorem rx_47_8 (h : RP o c m u) : gR u 47 12 8 = some (some 50) := sk_gR h.1.1 (by decide) rfl (by decide) rfl
theorem rx_47_9 (h : RP o c m u) : gR u 47 12 9 = some (some 51) := sk_gR h.1.1 (by decide) rfl (by decide) rfl
theorem gx_47_10 (h : RP o c m u) : gI u 47 12 10 = some (m.1 950) := gI_s h (by decide) rfl (by decide) rfl
theorem px_47_10 (h : RP o c m u) {v : Int32} : ∃ w, pF u 47 12 10 (.inl v) = some w ∧ RP o c (upI m 950 v) w ∧ w.1 = u.1 := pI_s h (by decide) rfl rfl (by decide) (by decide) (by decide)
theorem rx_47_11 (h : RP o c m u) : gR u 47 12 11 = some (some 52) := sk_gR h.1.1 (by decide) rfl (by decide) rfl
theorem rx_47_12 (h : RP o c m u) : gR u 47 12 12 = some (some 53) := sk_gR h.1.1 (by decide) rfl (by decide) rfl
theorem gx_47_13 (h : RP o c m u) : gI u 47 12 13 = some (m.1 953) := gI_s h (by decide) rfl (by decide) rfl
theorem px_47_13 (h : RP o c m u) {v : Int32} : ∃ w, pF u 47 12 13 (.inl v) = some w ∧ RP o c (upI m 953 v) w ∧ w.1 = u.1 := pI_s h (by decide) rfl rfl (by decide) (by decide) (by decide)
theorem rx_47_14 (h : RP o c m u) : gR u 47 12 14 = some (some 54) := sk_gR h.1.1 (by decide) rfl (by decide) rfl
theorem gx_47_15 (h : RP o c m u) : gI u 47 12 15 = some (m.1 955) := gI_s h (by decide) rfl (by decide) rfl
theorem px_47_15 (h : RP o c m u) {v : Int32} : ∃ w, pF u 47 12 15 (.inl v) = some w ∧ RP o c (upI m 955 v) w ∧ w.1 = u.1 := pI_s h (by decide) rfl rfl (by decide) (by decide) (by decide)
theorem gx_47_16 (h : RP o c m u) : gI u 47 12 16 = some (m.1 956) := gI_s h (by decide) rfl (by decide) rfl
theorem px_47_16 (h : RP o c m u) {v : Int32} : ∃ w, pF u 47 12 16 (.inl v) = some w ∧ RP o c (upI m 956 v) w ∧ w.1 = u.1 := pI_s h (by decide) rfl rfl (by decide) (by decide) (by decide)
theorem ax_49 (h : RP o c m u) {j : Int32} : aI u 49 4 j = if inb j 200 = true then some (m.2.2.1 49 j.toNatClampNeg) else none := aI_s h (by decide) rfl
theorem sx_49 (h : RP o c m u) {j v : Int32} (hb : inb j 200 = true) : ∃ w, sI u 49 4 j v = some w ∧ RP o c (upA m 49 (upd (m.2.2.1 49) j.toNatClampNeg v)) w ∧ w.1 = u.1 := sI_s h (by decide) (by decide) rfl hb
theorem nx_49 (h : RP o c m u) : nA u 49 4 = some 200 := sk_nA h.1.1 (by decide) rfl
theorem ax_50 (h : RP o c m u) {j : Int32} : aI u 50 4 j = if inb j 200 = true then some (m.2.2.1 50 j.toNatClampNeg) else none := aI_s h (by decide) rfl
theorem sx_50 (h : RP o c m u) {j v : Int32} (hb : inb j 200 = true) : ∃ w, sI u 50 4 j v = some w ∧ RP o c (upA m 50 (upd (m.2.2.1 50) j.toNatClampNeg v)) w ∧ w.1 = u.1 := sI_s h (by decide) (by decide) rfl hb
theorem nx_50 (h : RP o c m u) : nA u 50 4 = some 200 := sk_nA h.1.1 (by decide) rfl
theorem ax_51 (h : RP o c m u) {j : Int32} : aI u 51 4 j = if inb j 200 = true then some (m.2.2.1 51 j.toNatClampNeg) else none := aI_s h (by decide) rfl
theorem sx_51 (h : RP o c m u) {j v : Int32} (hb : inb j 200 = true) : ∃ w, sI u 51 4 j v = some w ∧ RP o c (upA m 51 (upd (m.2.2.1 51) j.toNatClampNeg v)) w ∧ w.1 = u.1 := sI_s h (by decide) (by decide) rfl hb
theorem nx_51 (h : RP o c m u) : nA u 51 4 = some 200 := sk_nA h.1.1 (by decide) rfl
theorem ax_52 (h : RP o c m u) {j : Int32} : aI u 52 3 j = if inb j 20000 = true then some (m.2.2.1 52 j.toNatClampNeg) else none := aI_s h (by decide) rfl
theorem sx_52 (h : RP o c m u) {j v : Int32} (hb : inb j 20000 = true) : ∃ w, sI u 52 3 j v = some w ∧ RP o c (upA m 52 (upd (m.2.2.1 52) j.toNatClampNeg v)) w ∧ w.1 = u.1 := sI_s h (by decide) (by decide) rfl hb
theorem nx_52 (h : RP o c m u) : nA u 52 3 = some 20000 := sk_nA h.1.1 (by decide) rfl
theorem ax_53 (h : RP o c m u) {j : Int32} : aI u 53 4 j = if inb j 200 = true then some (m.2.2.1 53 j.toNatClampNeg) else none := aI_s h (by decide) rfl
theorem sx_53 (h : RP o c m u) {j v : Int32} (hb : inb j 200 = true) : ∃ w, sI u 53 4 j v = some w ∧ RP o c (upA m 53 (upd (m.2.2.1 53) j.toNatClampNeg v)) w ∧ w.1 = u.1 := sI_s h (by decide) (by decide) rfl hb
theorem nx_53 (h : RP o c m u) : nA u 53 4 = some 200 := sk_nA h.1.1 (by decide) rfl
theorem ax_54 (h : RP o c m u) {j : Int32} : aI u 54 4 j = if inb j 24 = true then some (m.2.2.1 54 j.toNatClampNeg) else none := aI_s h (by decide) rfl
theorem sx_54 (h : RP o c m u) {j v : Int32} (hb : inb j 24 = true) : ∃ w, sI u 54 4 j v = some w ∧ RP o c (upA m 54 (upd (m.2.2.1 54) j.toNatClampNeg v)) w ∧ w.1 = u.1 := sI_s h (by decide) (by decide) rfl hb
theorem nx_54 (h : RP o c m u) : nA u 54 4 = some 24 := sk_nA h.1.1 (by decide) rfl
theorem ox_55 (h : RP o c m u) : isO u 55 5 = true := sk_isO h.1.1 (by decide) rfl
theorem rx_55_0 (h : RP o c m u) : gR u 55 5 0 = some (some 22) := sk_gR h.1.1 (by decide) rfl (by decide) rfl
theorem rx_55_1 (h : RP o c m u) : gR u 55 5 1 = some (some 47) := sk_gR h.1.1 (by decide) rfl (by decide) rfl
theorem rx_55_2 (h : RP o c m u) : gR u 55 5 2 = some (some 43) := sk_gR h.1.1 (by decide) rfl (by decide) rfl
theorem gx_55_5 (h : RP o c m u) : gI u 55 5 5 = some (m.1 1105) := gI_s h (by decide) rfl (by decide) rfl
theorem px_55_5 (h : RP o c m u) {v : Int32} : ∃ w, pF u 55 5 5 (.inl v) = some w ∧ RP o c (upI m 1105 v) w ∧ w.1 = u.1 := pI_s h (by decide) rfl rfl (by decide) (by decide) (by decide)
theorem gx_55_6 (h : RP o c m u) : gI u 55 5 6 = some (m.1 1106) := gI_s h (by decide) rfl (by decide) rfl
theorem px_55_6 (h : RP o c m u) {v : Int32} : ∃ w, pF u 55 5 6 (.inl v) = some w ∧ RP o c (upI m 1106 v) w ∧ w.1 = u.1 := pI_s h (by decide) rfl rfl (by decide) (by decide) (by decide)
theorem gx_55_7 (h : RP o c m u) : gI u 55 5 7 = some (m.1 1107) := gI_s h (by decide) rfl (by decide) rfl
theorem px_55_7 (h : RP o c m u) {v : Int32} : ∃ w, pF u 55 5 7 (.inl v) = some w ∧ RP o c (upI m 1107 v) w ∧ w.1 = u.1 := pI_s h (by decide) rfl rfl (by decide) (by decide) (by decide)
theorem gx_55_8 (h : RP o c m u) : gI u 55 5 8 = some (m.1 1108) := gI_s h (by decide) rfl (by decide) rfl
theorem px_55_8 (h : RP o c m u) {v : Int32} : ∃ w, pF u 55 5 8 (.inl v) = some w ∧ RP o c (upI m 1108 v) w ∧ w.1 = u.1 := pI_s h (by decide) rfl rfl (by decide) (by decide) (by decide)
theorem gx_55_9 (h : RP o c m u) : gI u 55 5 9 = some (m.1 1109) := gI_s h (by decide) rfl (by decide) rfl
theorem px_55_9 (h : RP o c m u) {v : Int32} : ∃ w, pF u 55 5 9 (.inl v) = some w ∧ RP o c (upI m 1109 v) w ∧ w.1 = u.1 := pI_s h (by decide) rfl rfl (by decide) (by decide) (by decide)
theorem gx_55_11 (h : RP o c m u) : gI u 55 5 11 = some (m.1 1111) := gI_s h (by decide) rfl (by decide) rfl
theorem px_55_11 (h : RP o c m u) {v : Int32} : ∃ w, pF u 55 5 11 (.inl v) = some w ∧ RP o c (upI m 1111 v) w ∧ w.1 = u.1 := pI_s h (by decide) rfl rfl (by decide) (by decide) (by decide)
theorem gx_55_12 (h : RP o c m u) : gI u 55 5 12 = some (m.1 1112) := gI_s h (by decide) rfl (by decide) rfl
theorem px_55_12 (h : RP o c m u) {v : Int32} : ∃ w, pF u 55 5 12 (.inl v) = some w ∧ RP o c (upI m 1112 v) w ∧ w.1 = u.1 := pI_s h (by decide) rfl rfl (by decide) (by decide) (by decide)
theorem gx_55_13 (h : RP o c m u) : gI u 55 5 13 = some (m.1 1113) := gI_s h (by decide) rfl (by decide) rfl
theorem px_55_13 (h : RP o c m u) {v : Int32} : ∃ w, pF u 55 5 13 (.inl v) = some w ∧ RP o c (upI m 1113 v) w ∧ w.1 = u.1 := pI_s h (by decide) rfl rfl (by decide) (by decide) (by decide)
theorem gx_55_14 (h : RP o c m u) : gI u 55 5 14 = some (m.1 1114) := gI_s h (by decide) rfl (by decide) rfl
theorem px_55_14 (h : RP o c m u) {v : Int32} : ∃ w, pF u 55 5 14 (.inl v) = some w ∧ RP o c (upI m 1114 v) w ∧ w.1 = u.1 := pI_s h (by decide) rfl rfl (by decide) (by decide) (by decide)
theorem ax_56 (h : RP o c m u) {j : Int32} : aI u 56 3 j = if inb j 100 = true then some (m.2.2.1 56 j.toNatClampNeg) else none := aI_s h (by decide) rfl
theorem sx_56 (h : RP o c m u) {j v : Int32} (hb : inb j 100 = true) : ∃ w, sI u 56 3 j v = some w ∧ RP o c (upA m 56 (upd (m.2.2.1 56) j.toNatClampNeg v)) w ∧ w.1 = u.1 := sI_s h (by decide) (by decide) rfl hb
theorem nx_56 (h : RP o c m u) : nA u 56 3 = some 100 := sk_nA h.1.1 (by decide) rfl
theorem aq_2 (h : RP o c m u) {q : Nat} (hq : MD c q) {j : Int32} : aJ u (c (pq q 2)) j = if inb j 512 = true then some (m.2.2.2 (pq q 2) j.toNatClampNeg) else none := aJ_R h hq (k := 2) (by unfold isJ; omega)
theorem sq_2 (h : RP o c m u) {q : Nat} (hq : MD c q) {j : Int32} {v : Int64} (hb : inb j 512 = true) : ∃ w, sJ u (c (pq q 2)) j v = some w ∧ RP o c (upJ m (pq q 2) (vp_updL (m.2.2.2 (pq q 2)) j.toNatClampNeg v)) w ∧ w.1 = u.1 := RP_sJ h hq (k := 2) (by unfold isJ; omega) hb
theorem aq_3 (h : RP o c m u) {q : Nat} (hq : MD c q) {j : Int32} : aJ u (c (pq q 3)) j = if inb j 512 = true then some (m.2.2.2 (pq q 3) j.toNatClampNeg) else none := aJ_R h hq (k := 3) (by unfold isJ; omega)
theorem sq_3 (h : RP o c m u) {q : Nat} (hq : MD c q) {j : Int32} {v : Int64} (hb : inb j 512 = true) : ∃ w, sJ u (c (pq q 3)) j v = some w ∧ RP o c (upJ m (pq q 3) (vp_updL (m.2.2.2 (pq q 3)) j.toNatClampNeg v)) w ∧ w.1 = u.1 := RP_sJ h hq (k := 3) (by unfold isJ; omega) hb
theorem aq_6 (h : RP o c m u) {q : Nat} (hq : MD c q) {j : Int32} : aJ u (c (pq q 6)) j = if inb j 30 = true then some (m.2.2.2 (pq q 6) j.toNatClampNeg) else none := aJ_R h hq (k := 6) (by unfold isJ; omega)
theorem sq_6 (h : RP o c m u) {q : Nat} (hq : MD c q) {j : Int32} {v : Int64} (hb : inb j 30 = true) : ∃ w, sJ u (c (pq q 6)) j v = some w ∧ RP o c (upJ m (pq q 6) (vp_updL (m.2.2.2 (pq q 6)) j.toNatClampNeg v)) w ∧ w.1 = u.1 := RP_sJ h hq (k := 6) (by unfold isJ; omega) hb
theorem aq_33 (h : RP o c m u) {q : Nat} (hq : MD c q) {j : Int32} : aJ u (c (pq q 33)) j = if inb j (lnQ m q 43) = true then some (m.2.2.2 (pq q 33) j.toNatClampNeg) else none := aJ_R h hq (k := 33) (by unfold isJ; omega)
theorem sq_33 (h : RP o c m u) {q : Nat} (hq : MD c q) {j : Int32} {v : Int64} (hb : inb j (lnQ m q 43) = true) : ∃ w, sJ u (c (pq q 33)) j v = some w ∧ RP o c (upJ m (pq q 33) (vp_updL (m.2.2.2 (pq q 33)) j.toNatClampNeg v)) w ∧ w.1 = u.1 := RP_sJ h hq (k := 33) (by unfold isJ; omega) hb
theorem aq_35 (h : RP o c m u) {q : Nat} (hq : MD c q) {j : Int32} : aJ u (c (pq q 35)) j = if inb j (lnQ m q 45) = true then some (m.2.2.2 (pq q 35) j.toNatClampNeg) else none := aJ_R h hq (k := 35) (by unfold isJ; omega)
theorem sq_35 (h : RP o c m u) {q : Nat} (hq : MD c q) {j : Int32} {v : Int64} (hb : inb j (lnQ m q 45) = true) : ∃ w, sJ u (c (pq q 35)) j v = some w ∧ RP o c (upJ m (pq q 35) (vp_updL (m.2.2.2 (pq q 35)) j.toNatClampNeg v)) w ∧ w.1 = u.1 := RP_sJ h hq (k := 35) (by unfold isJ; omega) hb
theorem aq_14 (h : RP o c m u) {q : Nat} (hq : MD c q) {j : Int32} : aI u (c (pq q 14)) 4 j = if inb j 24 = true then some (m.2.2.1 (pq q 14) j.toNatClampNeg) else none := aI_R h hq (k := 14) (by unfold isI; omega)
theorem sq_14 (h : RP o c m u) {q : Nat} (hq : MD c q) {j v : Int32} (hb : inb j 24 = true) : ∃ w, sI u (c (pq q 14)) 4 j v = some w ∧ RP o c (upA m (pq q 14) (upd (m.2.2.1 (pq q 14)) j.toNatClampNeg v)) w ∧ w.1 = u.1 := RP_sI h hq (k := 14) (by unfold isI; omega) hb
theorem aq_30 (h : RP o c m u) {q : Nat} (hq : MD c q) {j : Int32} : aI u (c (pq q 30)) 4 j = if inb j 300 = true then some (m.2.2.1 (pq q 30) j.toNatClampNeg) else none := aI_R h hq (k := 30) (by unfold isI; omega)
theorem sq_30 (h : RP o c m u) {q : Nat} (hq : MD c q) {j v : Int32} (hb : inb j 300 = true) : ∃ w, sI u (c (pq q 30)) 4 j v = some w ∧ RP o c (upA m (pq q 30) (upd (m.2.2.1 (pq q 30)) j.toNatClampNeg v)) w ∧ w.1 = u.1 := RP_sI h hq (k := 30) (by unfold isI; omega) hb
theorem aq_32 (h : RP o c m u) {q : Nat} (hq : MD c q) {j : Int32} : aI u (c (pq q 32)) 4 j = if inb j (lnQ m q 42) = true then some (m.2.2.1 (pq q 32) j.toNatClampNeg) else none := aI_R h hq (k := 32) (by unfold isI; omega)
theorem sq_32 (h : RP o c m u) {q : Nat} (hq : MD c q) {j v : Int32} (hb : inb j (lnQ m q 42) = true) : ∃ w, sI u (c (pq q 32)) 4 j v = some w ∧ RP o c (upA m (pq q 32) (upd (m.2.2.1 (pq q 32)) j.toNatClampNeg v)) w ∧ w.1 = u.1 := RP_sI h hq (k := 32) (by unfold isI; omega) hb
theorem aq_37 (h : RP o c m u) {q : Nat} (hq : MD c q) {j : Int32} : aI u (c (pq q 37)) 4 j = if inb j (lnQ m q 47) = true then some (m.2.2.1 (pq q 37) j.toNatClampNeg) else none := aI_R h hq (k := 37) (by unfold isI; omega)
theorem sq_37 (h : RP o c m u) {q : Nat} (hq : MD c q) {j v : Int32} (hb : inb j (lnQ m q 47) = true) : ∃ w, sI u (c (pq q 37)) 4 j v = some w ∧ RP o c (upA m (pq q 37) (upd (m.2.2.1 (pq q 37)) j.toNatClampNeg v)) w ∧ w.1 = u.1 := RP_sI h hq (k := 37) (by unfold isI; omega) hb
theorem nq_33 (h : RP o c m u) {q : Nat} (hq : MD c q) : nJ u (c (pq q 33)) = some (m.1 (pq q 43)) := nJ_R h hq (by omega)
theorem nq_35 (h : RP o c m u) {q : Nat} (hq : MD c q) : nJ u (c (pq q 35)) = some (m.1 (pq q 45)) := nJ_R h hq (by omega)
theorem nq_32 (h : RP o c m u) {q : Nat} (hq : MD c q) : nA u (c (pq q 32)) 4 = some (m.1 (pq q 42)) := nA_R h hq (by omega)
theorem nq_37 (h : RP o c m u) {q : Nat} (hq : MD c q) : nA u (c (pq q 37)) 4 = some (m.1 (pq q 47)) := nA_R h hq (by omega)
theorem gq_4 (h : RP o c m u) {j q : Nat} (hj : PVn c j q) : gI u j 7 4 = some (m.1 (pq q 4)) := gI_P h hj (by unfold KI; omega)
theorem wq_4 (h : RP o c m u) {j q : Nat} (hj : PVn c j q) {v : Int32} : ∃ w, pF u j 7 4 (.inl v) = some w ∧ RP o c (upI m (pq q 4) v) w ∧ w.1 = u.1 := RP_qI h hj (by unfold KI; omega)
theorem gq_5 (h : RP o c m u) {j q : Nat} (hj : PVn c j q) : gI u j 7 5 = some (m.1 (pq q 5)) := gI_P h hj (by unfold KI; omega)
theorem wq_5 (h : RP o c m u) {j q : Nat} (hj : PVn c j q) {v : Int32} : ∃ w, pF u j 7 5 (.inl v) = some w ∧ RP o c (upI m (pq q 5) v) w ∧ w.1 = u.1 := RP_qI h hj (by unfold KI; omega)
theorem gq_7 (h : RP o c m u) {j q : Nat} (hj : PVn c j q) : gI u j 7 7 = some (m.1 (pq q 7)) := gI_P h hj (by unfold KI; omega)
theorem wq_7 (h : RP o c m u) {j q : Nat} (hj : PVn c j q) {v : Int32} : ∃ w, pF u j 7 7 (.inl v) = some w ∧ RP o c (upI m (pq q 7) v) w ∧ w.1 = u.1 := RP_qI h hj (by unfold KI; omega)
theorem gq_8 (h : RP o c m u) {j q : Nat} (hj : PVn c j q) : gI u j 7 8 = some (m.1 (pq q 8)) := gI_P h hj (by unfold KI; omega)
theorem wq_8 (h : RP o c m u) {j q : Nat} (hj : PVn c j q) {v : Int32} : ∃ w, pF u j 7 8 (.inl v) = some w ∧ RP o c (upI m (pq q 8) v) w ∧ w.1 = u.1 := RP_qI h hj (by unfold KI; omega)
theorem gq_9 (h : RP o c m u) {j q : Nat} (hj : PVn c j q) : gI u j 7 9 = some (m.1 (pq q 9)) := gI_P h hj (by unfold KI; omega)
theorem wq_9 (h : RP o c m u) {j q : Nat} (hj : PVn c j q) {v : Int32} : ∃ w, pF u j 7 9 (.inl v) = some w ∧ RP o c (upI m (pq q 9) v) w ∧ w.1 = u.1 := RP_qI h hj (by unfold KI; omega)
theorem gq_11 (h : RP o c m u) {j q : Nat} (hj : PVn c j q) : gI u j 7 11 = some (m.1 (pq q 11)) := gI_P h hj (by unfold KI; omega)
theorem wq_11 (h : RP o c m u) {j q : Nat} (hj : PVn c j q) {v : Int32} : ∃ w, pF u j 7 11 (.inl v) = some w ∧ RP o c (upI m (pq q 11) v) w ∧ w.1 = u.1 := RP_qI h hj (by unfold KI; omega)
theorem gq_12 (h : RP o c m u) {j q : Nat} (hj : PVn c j q) : gI u j 7 12 = some (m.1 (pq q 12)) := gI_P h hj (by unfold KI; omega)
theorem wq_12 (h : RP o c m u) {j q : Nat} (hj : PVn c j q) {v : Int32} : ∃ w, pF u j 7 12 (.inl v) = some w ∧ RP o c (upI m (pq q 12) v) w ∧ w.1 = u.1 := RP_qI h hj (by unfold KI; omega)
theorem gq_13 (h : RP o c m u) {j q : Nat} (hj : PVn c j q) : gI u j 7 13 = some (m.1 (pq q 13)) := gI_P h hj (by unfold KI; omega)
theorem wq_13 (h : RP o c m u) {j q : Nat} (hj : PVn c j q) {v : Int32} : ∃ w, pF u j 7 13 (.inl v) = some w ∧ RP o c (upI m (pq q 13) v) w ∧ w.1 = u.1 := RP_qI h hj (by unfold KI; omega)
theorem gq_15 (h : RP o c m u) {j q : Nat} (hj : PVn c j q) : gI u j 7 15 = some (m.1 (pq q 15)) := gI_P h hj (by unfold KI; omega)
theorem wq_15 (h : RP o c m u) {j q : Nat} (hj : PVn c j q) {v : Int32} : ∃ w, pF u j 7 15 (.inl v) = some w ∧ RP o c (upI m (pq q 15) v) w ∧ w.1 = u.1 := RP_qI h hj (by unfold KI; omega)
theorem gf_1 (h : RP o c m u) {j q : Nat} (hj : FVn c j q) : gI u j 4 1 = some (m.1 (pq q 21)) := gI_F h hj (by unfold KG; omega)
theorem wf_1 (h : RP o c m u) {j q : Nat} (hj : FVn c j q) {v : Int32} : ∃ w, pF u j 4 1 (.inl v) = some w ∧ RP o c (upI m (pq q 21) v) w ∧ w.1 = u.1 := RP_fI h hj (by unfold KG; omega)
theorem gf_4 (h : RP o c m u) {j q : Nat} (hj : FVn c j q) : gI u j 4 4 = some (m.1 (pq q 24)) := gI_F h hj (by unfold KG; omega)
theorem wf_4 (h : RP o c m u) {j q : Nat} (hj : FVn c j q) {v : Int32} : ∃ w, pF u j 4 4 (.inl v) = some w ∧ RP o c (upI m (pq q 24) v) w ∧ w.1 = u.1 := RP_fI h hj (by unfold KG; omega)
theorem gf_6 (h : RP o c m u) {j q : Nat} (hj : FVn c j q) : gI u j 4 6 = some (m.1 (pq q 26)) := gI_F h hj (by unfold KG; omega)
theorem wf_6 (h : RP o c m u) {j q : Nat} (hj : FVn c j q) {v : Int32} : ∃ w, pF u j 4 6 (.inl v) = some w ∧ RP o c (upI m (pq q 26) v) w ∧ w.1 = u.1 := RP_fI h hj (by unfold KG; omega)
theorem gf_8 (h : RP o c m u) {j q : Nat} (hj : FVn c j q) : gI u j 4 8 = some (m.1 (pq q 28)) := gI_F h hj (by unfold KG; omega)
theorem wf_8 (h : RP o c m u) {j q : Nat} (hj : FVn c j q) {v : Int32} : ∃ w, pF u j 4 8 (.inl v) = some w ∧ RP o c (upI m (pq q 28) v) w ∧ w.1 = u.1 := RP_fI h hj (by unfold KG; omega)
theorem gf_9 (h : RP o c m u) {j q : Nat} (hj : FVn c j q) : gI u j 4 9 = some (m.1 (pq q 29)) := gI_F h hj (by unfold KG; omega)
theorem wf_9 (h : RP o c m u) {j q : Nat} (hj : FVn c j q) {v : Int32} : ∃ w, pF u j 4 9 (.inl v) = some w ∧ RP o c (upI m (pq q 29) v) w ∧ w.1 = u.1 := RP_fI h hj (by unfold KG; omega)
theorem lq_10 (h : RP o c m u) {j q : Nat} (hj : PVn c j q) {v : Int64} : ∃ w, pF u j 7 10 (.inr (.inl v)) = some w ∧ RP o c (upL m (pq q 10) v) w ∧ w.1 = u.1 := RP_qL h hj (by omega)
theorem lq_16 (h : RP o c m u) {j q : Nat} (hj : PVn c j q) {v : Int64} : ∃ w, pF u j 7 16 (.inr (.inl v)) = some w ∧ RP o c (upL m (pq q 16) v) w ∧ w.1 = u.1 := RP_qL h hj (by omega)
theorem aq_C (h : RP o c m u) {j b : Nat} (hj : CVn c j b) {i : Int32} : aJ u j i = if inb i 512 = true then some (m.2.2.2 b i.toNatClampNeg) else none := by
  obtain ⟨q, hq, rfl, rfl⟩ := hj
  exact aq_2 h hq
theorem cq_C (h : RP o c m u) {j b q : Nat} (hj : CVn c j b) (hq : MD c q) {x y n : Int32} (hz : cpOk x y n 512 512 = true) : ∃ w, cpJ u j x (c (pq q 2)) y n = some w ∧ RP o c (upJ m (pq q 2) (va_cpy (m.2.2.2 b) (m.2.2.2 (pq q 2)) x.toNatClampNeg y.toNatClampNeg n.toNatClampNeg)) w ∧ w.1 = u.1 := by
  obtain ⟨r, hr, rfl, rfl⟩ := hj
  exact RP_cJ h hr (k := 2) (by unfold isJ; omega) hq (k2 := 2) (by unfold isJ; omega) hz
theorem cq_23 (h : RP o c m u) {q : Nat} (hq : MD c q) {x y n : Int32} (hz : cpOk x y n 512 512 = true) : ∃ w, cpJ u (c (pq q 2)) x (c (pq q 3)) y n = some w ∧ RP o c (upJ m (pq q 3) (va_cpy (m.2.2.2 (pq q 2)) (m.2.2.2 (pq q 3)) x.toNatClampNeg y.toNatClampNeg n.toNatClampNeg)) w ∧ w.1 = u.1 := RP_cJ h hq (k := 2) (by unfold isJ; omega) hq (k2 := 3) (by unfold isJ; omega) hz
theorem cq_6 (h : RP o c m u) {q : Nat} (hq : MD c q) {x y n : Int32} (hz : cpOk x y n 30 30 = true) : ∃ w, cpJ u (c (pq q 6)) x (c (pq q 6)) y n = some w ∧ RP o c (upJ m (pq q 6) (va_cpy (m.2.2.2 (pq q 6)) (m.2.2.2 (pq q 6)) x.toNatClampNeg y.toNatClampNeg n.toNatClampNeg)) w ∧ w.1 = u.1 := RP_cJ h hq (k := 6) (by unfold isJ; omega) hq (k2 := 6) (by unfold isJ; omega) hz
theorem cq_35 (h : RP o c m u) {q : Nat} (hq : MD c q) {x y n : Int32} (hz : cpOk x y n (lnQ m q 45) (lnQ m q 45) = true) : ∃ w, cpJ u (c (pq q 35)) x (c (pq q 35)) y n = some w ∧ RP o c (upJ m (pq q 35) (va_cpy (m.2.2.2 (pq q 35)) (m.2.2.2 (pq q 35)) x.toNatClampNeg y.toNatClampNeg n.toNatClampNeg)) w ∧ w.1 = u.1 := RP_cJ h hq (k := 35) (by unfold isJ; omega) hq (k2 := 35) (by unfold isJ; omega) hz
theorem cq_14 (h : RP o c m u) {q : Nat} (hq : MD c q) {x y n : Int32} (hz : cpOk x y n 24 24 = true) : ∃ w, cpI u 4 (c (pq q 14)) x (c (pq q 14)) y n = some w ∧ RP o c (upA m (pq q 14) (va_cpy (m.2.2.1 (pq q 14)) (m.2.2.1 (pq q 14)) x.toNatClampNeg y.toNatClampNeg n.toNatClampNeg)) w ∧ w.1 = u.1 := RP_cI h hq (k := 14) (by unfold isI; omega) hz
def lnX (m : MS) (b : Nat) : Nat := lnJ m ((b - 2000) / 100) ((b - 2000) % 100)
theorem lnX_e {q k : Nat} (h : k < 100) : lnX m (pq q k) = lnJ m q k := by unfold lnX pq; rw [show (2000 + 100 * q + k - 2000) / 100 = q by omega, show (2000 + 100 * q + k - 2000) % 100 = k by omega]
theorem isJ_x {k : Nat} (h : k = 33 ∨ k = 35 ∨ k = 6 ∨ k = 3) : isJ k := by unfold isJ; omega
theorem aq_X (h : RP o c m u) {q j b : Nat} (hj : XVn c q j b) {i : Int32} : aJ u j i = if inb i (lnX m b) = true then some (m.2.2.2 b i.toNatClampNeg) else none := by
  obtain ⟨hq, k, hk, rfl, rfl⟩ := hj
  rw [lnX_e (by omega)]
  exact aJ_R h hq (isJ_x hk)
theorem sq_X (h : RP o c m u) {q j b : Nat} (hj : XVn c q j b) {i : Int32} {v : Int64} (hb : inb i (lnX m b) = true) : ∃ w, sJ u j i v = some w ∧ RP o c (upJ m b (vp_updL (m.2.2.2 b) i.toNatClampNeg v)) w ∧ w.1 = u.1 := by
  obtain ⟨hq, k, hk, rfl, rfl⟩ := hj
  rw [lnX_e (by omega)] at hb
  exact RP_sJ h hq (isJ_x hk) hb
end
