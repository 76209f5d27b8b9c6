theorem nar_short {t : Int} (h : 0 ≤ t ∧ t < 32768) : vp_nar .short ((I t).toInt16.toInt32) = I t := by
  have e : (I t).toInt16.toInt32 = I t := by
    apply Int32.toInt_inj.mp
    rw [Int16.toInt_toInt32, Int32.toInt_toInt16, I_ti (by omega) (by omega)]
    exact Int.bmod_eq_of_le (by omega) (by omega)
  show ((I t).toInt16.toInt32).toInt16.toInt32 = I t
  rw [e, e]
def NDW (u v : MS) (k t : Int) : Prop := FR [32] [] [23, 24, 25, 26, 27, 28, 29, 30, 31] [] u v ∧ F v 32 = F u 32 + 1 ∧ A v 23 (F u 32).toNat = k ∧ A v 24 (F u 32).toNat = t ∧ ∀ r i, i ≠ (F u 32).toNat → A v r i = A u r i
def NDV (u v : MS) (k t : Int) : Prop := NDW u v k t ∧ A v 25 (F u 32).toNat = -1 ∧ A v 26 (F u 32).toNat = -1 ∧ A v 27 (F u 32).toNat = -1 ∧ A v 28 (F u 32).toNat = -1 ∧ A v 29 (F u 32).toNat = -1 ∧ A v 30 (F u 32).toNat = 0
def PTV (u v : MS) (k : Int) : Prop := FR [39] [] [33, 35, 36, 37, 38] [34] u v ∧ F v 39 = F u 39 + 1 ∧ (A v 33 (F u 39).toNat = k ∧ A v 35 (F u 39).toNat = 0 ∧ A v 36 (F u 39).toNat = -1 ∧ A v 37 (F u 39).toNat = -1 ∧ A v 38 (F u 39).toNat = 0) ∧ ∀ r i, i ≠ (F u 39).toNat → A v r i = A u r i
section
variable {α : Type} {Q : MS → α → Prop} {u v w : MS} {N : Nat} {s t x y k : Int}
theorem wa_ne {r i r2 i2 : Nat} (h : i2 ≠ i) : A (wa u r i x) r2 i2 = A u r2 i2 := by
  unfold A wa upA upd
  by_cases e : r2 = r
  · subst e; simp only [if_true, if_neg h]
  · simp only [if_neg e]
theorem wa_rne {r i r2 i2 : Nat} (h : r2 ≠ r) : A (wa u r i x) r2 i2 = A u r2 i2 := by
  unfold A wa upA
  simp only [if_neg h]
theorem wa_eq {r i : Nat} (h : RG x) : A (wa u r i x) r i = x := by
  rw [A_wa h.1 h.2, if_pos rfl, if_pos rfl]
theorem wi_ne {a b : Nat} (h : b ≠ a) : F (wi u a x) b = F u b := by
  unfold F wi upI
  simp only [if_neg h]
theorem wi_eq {a : Nat} (h : RG x) : F (wi u a x) a = x := by
  rw [F_wi h.1 h.2, if_pos rfl]
theorem wi_raw {a : Nat} : (wi u a x).1 a = I x := by unfold wi upI; simp
theorem k_node {c d : Int32} {f : MS → Int32 → Option (MS × α)} (hc : vp_nar .byte (c.toInt8.toInt32) = I k) (hk : 0 ≤ k ∧ k ≤ 31) (hd : d = I t) (ht : 0 ≤ t ∧ t < 4002) (h32 : 0 ≤ F u 32 ∧ F u 32 < 16000) (a : ∀ v, NDV u v k t → OK Q (f v (I (F u 32)))) : OK Q (bnd (fm_M_node N u c d) f) := by
  rw [hd]
  unfold fm_M_node fb_M_node_0
  simp only [lt_e]
  have e : ∀ (v : MS), v.1 = u.1 → v.1 32 = I (F u 32) := fun v h => by rw [h]; exact I_F
  have ib : ∀ k, ln k = 16000 → inb (I (F u 32)) (ln k) = true := fun k hk => inb_at hk h32.1 h32.2 (by decide)
  have tn : (I (F u 32)).toNatClampNeg = (F u 32).toNat := I_tn (by omega) (by omega)
  rw [hc, nar_short (by omega), nar0, show (-1 : Int32) = I (-1) from rfl, I_F (k := 32), tn, ib 23 rfl, ck_t, wa_e]
  refine ok_bnd.mpr ?_
  rw [e (wa u 23 (F u 32).toNat k) rfl, tn, ib 24 rfl, ck_t, wa_e, e (wa (wa u 23 (F u 32).toNat k) 24 (F u 32).toNat t) rfl, tn, ib 25 rfl, ck_t, wa_e]
  generalize h3 : wa (wa (wa u 23 (F u 32).toNat k) 24 (F u 32).toNat t) 25 (F u 32).toNat (-1) = v3
  rw [e v3 (by rw [← h3]; rfl), tn, ib 26 rfl, ck_t, wa_e]
  generalize h4 : wa v3 26 (F u 32).toNat (-1) = v4
  rw [e v4 (by rw [← h4, ← h3]; rfl), tn, ib 27 rfl, ck_t, wa_e]
  generalize h5 : wa v4 27 (F u 32).toNat (-1) = v5
  rw [e v5 (by rw [← h5, ← h4, ← h3]; rfl), tn, ib 28 rfl, ck_t, wa_e]
  generalize h6 : wa v5 28 (F u 32).toNat (-1) = v6
  rw [e v6 (by rw [← h6, ← h5, ← h4, ← h3]; rfl), tn, ib 29 rfl, ck_t, wa_e]
  generalize h7 : wa v6 29 (F u 32).toNat (-1) = v7
  rw [e v7 (by rw [← h7, ← h6, ← h5, ← h4, ← h3]; rfl), tn, ib 30 rfl, ck_t, wa_e]
  generalize h8 : wa v7 30 (F u 32).toNat 0 = v8
  have e8 : v8.1 = u.1 := by rw [← h8, ← h7, ← h6, ← h5, ← h4, ← h3]; rfl
  rw [e v8 e8, lit1q, I_add, wi_e, wi_raw, I_sub, show F u 32 + 1 - 1 = F u 32 from by omega]
  refine ok_some.mpr (a _ ⟨⟨?_, wi_eq ⟨by omega, by omega⟩, ?_, ?_, fun r i hi => ?_⟩, ?_, ?_, ?_, ?_, ?_, ?_⟩)
  · rw [← h8, ← h7, ← h6, ← h5, ← h4, ← h3]
    exact FR.wi (FR.wa (FR.wa (FR.wa (FR.wa (FR.wa (FR.wa (FR.wa (FR.wa FR.rf (by decide)) (by decide)) (by decide)) (by decide)) (by decide)) (by decide)) (by decide)) (by decide)) (by decide)
  · rw [A_wi, ← h8, wa_rne (by decide), ← h7, wa_rne (by decide), ← h6, wa_rne (by decide), ← h5, wa_rne (by decide), ← h4, wa_rne (by decide), ← h3, wa_rne (by decide), wa_rne (by decide), wa_eq ⟨by omega, by omega⟩]
  · rw [A_wi, ← h8, wa_rne (by decide), ← h7, wa_rne (by decide), ← h6, wa_rne (by decide), ← h5, wa_rne (by decide), ← h4, wa_rne (by decide), ← h3, wa_rne (by decide), wa_eq ⟨by omega, by omega⟩]
  · rw [A_wi, ← h8, wa_ne hi, ← h7, wa_ne hi, ← h6, wa_ne hi, ← h5, wa_ne hi, ← h4, wa_ne hi, ← h3, wa_ne hi, wa_ne hi, wa_ne hi]
  · rw [A_wi, ← h8, wa_rne (by decide), ← h7, wa_rne (by decide), ← h6, wa_rne (by decide), ← h5, wa_rne (by decide), ← h4, wa_rne (by decide), ← h3, wa_eq ⟨by decide, by decide⟩]
  · rw [A_wi, ← h8, wa_rne (by decide), ← h7, wa_rne (by decide), ← h6, wa_rne (by decide), ← h5, wa_rne (by decide), ← h4, wa_eq ⟨by decide, by decide⟩]
  · rw [A_wi, ← h8, wa_rne (by decide), ← h7, wa_rne (by decide), ← h6, wa_rne (by decide), ← h5, wa_eq ⟨by decide, by decide⟩]
  · rw [A_wi, ← h8, wa_rne (by decide), ← h7, wa_rne (by decide), ← h6, wa_eq ⟨by decide, by decide⟩]
  · rw [A_wi, ← h8, wa_rne (by decide), ← h7, wa_eq ⟨by decide, by decide⟩]
  · rw [A_wi, ← h8, wa_eq ⟨by decide, by decide⟩]
theorem k_pattern {c : Int32} {f : MS → Int32 → Option (MS × α)} (hc : vp_nar .byte (c.toInt8.toInt32) = I k) (hk : 0 ≤ k ∧ k ≤ 31) (h39 : 0 ≤ F u 39 ∧ F u 39 < 5000) (a : ∀ v, PTV u v k → OK Q (f v (I (F u 39)))) : OK Q (bnd (fm_M_pattern N u c) f) := by
  unfold fm_M_pattern fb_M_pattern_0
  simp only [lt_e]
  have e : ∀ (v : MS), v.1 = u.1 → v.1 39 = I (F u 39) := fun v h => by rw [h]; exact I_F
  have ib : ∀ k, ln k = 5000 → inb (I (F u 39)) (ln k) = true := fun k hk => inb_at hk h39.1 h39.2 (by decide)
  have tn : (I (F u 39)).toNatClampNeg = (F u 39).toNat := I_tn (by omega) (by omega)
  rw [hc, nar0, show (-1 : Int32) = I (-1) from rfl, I_F (k := 39), tn, ib 33 rfl, ck_t, wa_e]
  refine ok_bnd.mpr ?_
  rw [e (wa u 33 (F u 39).toNat k) rfl, tn, ib 34 rfl, ck_t, wj_e]
  generalize h3 : wj (wa u 33 (F u 39).toNat k) 34 (F u 39).toNat 0 = v3
  rw [e v3 (by rw [← h3]; rfl), tn, ib 35 rfl, ck_t, lit0q, wa_e]
  generalize h4 : wa v3 35 (F u 39).toNat 0 = v4
  rw [e v4 (by rw [← h4, ← h3]; rfl), tn, ib 36 rfl, ck_t, wa_e]
  generalize h5 : wa v4 36 (F u 39).toNat (-1) = v5
  rw [e v5 (by rw [← h5, ← h4, ← h3]; rfl), tn, ib 37 rfl, ck_t, wa_e]
  generalize h6 : wa v5 37 (F u 39).toNat (-1) = v6
  rw [e v6 (by rw [← h6, ← h5, ← h4, ← h3]; rfl), tn, ib 38 rfl, ck_t, wa_e]
  generalize h8 : wa v6 38 (F u 39).toNat 0 = v8
  have e8 : v8.1 = u.1 := by rw [← h8, ← h6, ← h5, ← h4, ← h3]; rfl
  rw [e v8 e8, lit1q, I_add, wi_e, wi_raw, I_sub, show F u 39 + 1 - 1 = F u 39 from by omega]
  refine ok_some.mpr (a _ ⟨?_, wi_eq ⟨by omega, by omega⟩, ⟨?_, ?_, ?_, ?_, ?_⟩, fun r i hi => ?_⟩)
  · rw [← h8, ← h6, ← h5, ← h4, ← h3]
    exact FR.wi (FR.wa (FR.wa (FR.wa (FR.wa (FR.wj (FR.wa FR.rf (by decide)) (by decide)) (by decide)) (by decide)) (by decide)) (by decide)) (by decide)
  · rw [A_wi, ← h8, wa_rne (by decide), ← h6, wa_rne (by decide), ← h5, wa_rne (by decide), ← h4, wa_rne (by decide), ← h3, A_wj, wa_eq ⟨by omega, by omega⟩]
  · rw [A_wi, ← h8, wa_rne (by decide), ← h6, wa_rne (by decide), ← h5, wa_rne (by decide), ← h4, wa_eq ⟨by decide, by decide⟩]
  · rw [A_wi, ← h8, wa_rne (by decide), ← h6, wa_rne (by decide), ← h5, wa_eq ⟨by decide, by decide⟩]
  · rw [A_wi, ← h8, wa_rne (by decide), ← h6, wa_eq ⟨by decide, by decide⟩]
  · rw [A_wi, ← h8, wa_eq ⟨by decide, by decide⟩]
  · rw [A_wi, ← h8, wa_ne hi, ← h6, wa_ne hi, ← h5, wa_ne hi, ← h4, wa_ne hi, ← h3, A_wj, wa_ne hi]
theorem NDW_wa {r : Nat} (h : NDW u v k t) (hr : r ∈ [25, 26, 27, 28, 29, 30, 31]) : NDW u (wa v r (F u 32).toNat x) k t := by
  obtain ⟨h1, h2, h3, h4, h5⟩ := h
  have a1 : ∀ r, r ∈ [25, 26, 27, 28, 29, 30, 31] → r ∈ [23, 24, 25, 26, 27, 28, 29, 30, 31] ∧ 23 ≠ r ∧ 24 ≠ r := by decide
  obtain ⟨b1, b2, b3⟩ := a1 r hr
  exact ⟨FR.wa h1 b1, h2, by rw [wa_rne b2]; exact h3, by rw [wa_rne b3]; exact h4, fun r2 i hi => by rw [wa_ne hi]; exact h5 r2 i hi⟩
end
