section
set_option maxRecDepth 100000
def KPS (u w : MS) : Prop := (∀ k, k < 860 → w.1 k = u.1 k) ∧ (∀ k, k < 44 → w.2.2.1 k = u.2.2.1 k) ∧ ∀ j, rf (w.1 1964) = some j → 44 ≤ j
def KE {α : Type} (u : MS) (o : Option (MS × α)) : Prop := ∀ w r, o = some (w, r) → KPS u w
section
variable {α β : Type} {u0 u w : MS} {k : Nat}
theorem KE_none : KE u0 (none : Option (MS × α)) := fun _ _ e => by cases e
theorem KE_some {r : α} (h : KPS u0 w) : KE u0 (some (w, r)) := fun _ _ e => by injection e with e; injection e with e1 _; exact e1 ▸ h
theorem KE_br {b : Bool} {p q : Option (MS × α)} (h1 : KE u0 p) (h2 : KE u0 q) : KE u0 (br b p q) := by cases b <;> assumption
theorem KE_ck {b : Bool} {p : Option (MS × α)} (h1 : KE u0 p) : KE u0 (ck b p) := by
  cases b
  · exact KE_none
  · exact h1
theorem KE_boe {o : Option β} {f : β → Option (MS × α)} (h : ∀ j, o = some j → KE u0 (f j)) : KE u0 (bo o f) := by
  cases o with
  | none => exact KE_none
  | some j => exact h j rfl
theorem KE_bnd {o : Option (MS × β)} {f : MS → β → Option (MS × α)} (h1 : KE u0 o) (h2 : ∀ w r, KPS u0 w → KE u0 (f w r)) : KE u0 (bnd o f) := by
  cases o with
  | none => exact KE_none
  | some x => exact h2 x.1 x.2 (h1 x.1 x.2 rfl)
theorem KE_ltm {x : MS} {f : MS → Option (MS × α)} (h1 : KPS u0 x) (h2 : ∀ w, KPS u0 w → KE u0 (f w)) : KE u0 (lt x f) := h2 x h1
theorem KE_ltv {x : β} {f : β → Option (MS × α)} (h2 : ∀ y, KE u0 (f y)) : KE u0 (lt x f) := h2 x
theorem KPS_I {v : Int32} (h : KPS u0 u) (hk : 860 ≤ k ∧ k ≠ 1964) : KPS u0 (upI u k v) := ⟨fun j hj => (if_neg (by omega)).trans (h.1 j hj), h.2.1, fun j hj => h.2.2 j (by rw [← hj]; exact congrArg rf (if_neg (by omega)).symm)⟩
theorem KPS_64 {v : Nat} (h : KPS u0 u) (hv : v = 52 ∨ v = 56) : KPS u0 (upI u 1964 (Int32.ofNat v)) := ⟨fun j hj => (if_neg (by omega)).trans (h.1 j hj), h.2.1, fun j hj => by
  have e : (upI u 1964 (Int32.ofNat v)).1 1964 = Int32.ofNat v := by
    show (if (1964 : Nat) = 1964 then Int32.ofNat v else u.1 1964) = Int32.ofNat v
    rw [if_pos rfl]
  rw [e] at hj
  rcases hv with rfl | rfl
  · have : rf (Int32.ofNat 52) = some 52 := rfl
    rw [this] at hj; injection hj with hj; omega
  · have : rf (Int32.ofNat 56) = some 56 := rfl
    rw [this] at hj; injection hj with hj; omega⟩
theorem KPS_L {v : Int64} (h : KPS u0 u) : KPS u0 (upL u k v) := h
theorem KPS_J {v : Nat → Int64} (h : KPS u0 u) : KPS u0 (upJ u k v) := h
theorem KPS_A {v : Nat → Int32} (h : KPS u0 u) (hk : 44 ≤ k) : KPS u0 (upA u k v) := ⟨h.1, fun j hj => (if_neg (by omega)).trans (h.2.1 j hj), h.2.2⟩
theorem KPS_o {j : Nat} (h : KPS u0 u) (e : rf (u.1 1964) = some j) : 44 ≤ j := h.2.2 j e
theorem KPS_N (h : KPS u0 u) : KPS u0 (newP u k) := ⟨fun j hj => (nP_o1 (by unfold pq; omega)).trans (h.1 j hj), fun j hj => (nP_o3 (by unfold pq; omega) (by omega)).trans (h.2.1 j hj), fun j hj => h.2.2 j (by rw [← hj]; exact congrArg rf (nP_o1 (by unfold pq; omega)).symm)⟩
theorem KPS_S (h : KPS u0 u) : KPS u0 (swp u k) := h
theorem KPS_gJ {a l : Nat} (h : KPS u0 u) : KPS u0 (gJm u k a l) := KPS_I (KPS_J h) (by unfold pq; omega)
theorem KPS_gI {a l : Nat} (h : KPS u0 u) : KPS u0 (gIm u k a l) := KPS_I (KPS_A h (by unfold pq; omega)) (by unfold pq; omega)
theorem KPS_rf (h : ∀ j, rf (u.1 1964) = some j → 44 ≤ j) : KPS u u := ⟨fun _ _ => rfl, fun _ _ => rfl, h⟩
theorem KPS_tr {v : MS} (a : KPS u v) (b : KPS v w) : KPS u w := ⟨fun k hk => (b.1 k hk).trans (a.1 k hk), fun k hk => (b.2.1 k hk).trans (a.2.1 k hk), b.2.2⟩
theorem OK_KE {o : Option (MS × α)} {Q : MS → α → Prop} (h1 : OK Q o) (h2 : KE u0 o) : OK (fun w r => Q w r ∧ KPS u0 w) o := by
  obtain ⟨w, r, e, q⟩ := h1
  exact ⟨w, r, e, q, h2 w r e⟩
end
section
variable {u0 u : MS} {N : Nat}
theorem zb_Co_at_21 {G : Unit} {t0 : Int32} (h : KPS u0 u)  : KE u0 (hb_Co_at_21 N G u t0) := by
  unfold hb_Co_at_21
  repeat' (first | with_reducible assumption | with_reducible refine KE_br ?_ ?_ | with_reducible refine KE_bnd ?_ (fun _ _ _ => ?_) | with_reducible refine KE_ck ?_ | with_reducible refine KE_ltm ?_ (fun _ _ => ?_) | with_reducible refine KE_some ?_ | with_reducible refine KE_boe (fun _ _ => ?_) | with_reducible refine KE_ltv (fun _ => ?_) | with_reducible refine KPS_I ?_ ?_ | with_reducible refine KPS_A ?_ ?_ | with_reducible refine KPS_J ?_ | with_reducible refine KPS_L ?_ | with_reducible refine KPS_N ?_ | with_reducible refine KPS_S ?_ | with_reducible refine KPS_gJ ?_ | with_reducible refine KPS_gI ?_ | omega | (unfold pq; omega) | exact KPS_o (by assumption) (by assumption))
theorem zb_Co_at_11 {G : Unit} (h : KPS u0 u)  : KE u0 (hb_Co_at_11 N G u) := by
  unfold hb_Co_at_11
  repeat' (first | with_reducible assumption | with_reducible refine KE_br ?_ ?_ | with_reducible refine KE_bnd ?_ (fun _ _ _ => ?_) | with_reducible refine KE_ck ?_ | with_reducible refine KE_ltm ?_ (fun _ _ => ?_) | with_reducible refine KE_some ?_ | with_reducible refine KE_boe (fun _ _ => ?_) | with_reducible exact zb_Co_at_21 (by assumption) | with_reducible refine KE_ltv (fun _ => ?_) | with_reducible refine KPS_I ?_ ?_ | with_reducible refine KPS_A ?_ ?_ | with_reducible refine KPS_J ?_ | with_reducible refine KPS_L ?_ | with_reducible refine KPS_N ?_ | with_reducible refine KPS_S ?_ | with_reducible refine KPS_gJ ?_ | with_reducible refine KPS_gI ?_ | omega | (unfold pq; omega) | exact KPS_o (by assumption) (by assumption))
theorem zb_Co_at_0 {G : Unit} {v1 : Int32} (h : KPS u0 u)  : KE u0 (hb_Co_at_0 N G u v1) := by
  unfold hb_Co_at_0
  repeat' (first | with_reducible assumption | with_reducible refine KE_br ?_ ?_ | with_reducible refine KE_bnd ?_ (fun _ _ _ => ?_) | with_reducible refine KE_ck ?_ | with_reducible refine KE_ltm ?_ (fun _ _ => ?_) | with_reducible refine KE_some ?_ | with_reducible refine KE_boe (fun _ _ => ?_) | with_reducible exact zb_Co_at_11 (by assumption) | with_reducible exact zb_Co_at_21 (by assumption) | with_reducible refine KE_ltv (fun _ => ?_) | with_reducible refine KPS_I ?_ ?_ | with_reducible refine KPS_A ?_ ?_ | with_reducible refine KPS_J ?_ | with_reducible refine KPS_L ?_ | with_reducible refine KPS_N ?_ | with_reducible refine KPS_S ?_ | with_reducible refine KPS_gJ ?_ | with_reducible refine KPS_gI ?_ | omega | (unfold pq; omega) | exact KPS_o (by assumption) (by assumption))
theorem zm_Co_at {v1 : Int32} (h : KPS u0 u) : KE u0 (hm_Co_at N u v1) := by
  unfold hm_Co_at
  exact zb_Co_at_0 h
theorem zb_Wl_clearAll_0 {G : Unit} (h : KPS u0 u)  : KE u0 (hb_Wl_clearAll_0 N G u) := by
  unfold hb_Wl_clearAll_0
  repeat' (first | with_reducible assumption | with_reducible refine KE_br ?_ ?_ | with_reducible refine KE_bnd ?_ (fun _ _ _ => ?_) | with_reducible refine KE_ck ?_ | with_reducible refine KE_ltm ?_ (fun _ _ => ?_) | with_reducible refine KE_some ?_ | with_reducible refine KE_boe (fun _ _ => ?_) | with_reducible refine KE_ltv (fun _ => ?_) | with_reducible refine KPS_I ?_ ?_ | with_reducible refine KPS_A ?_ ?_ | with_reducible refine KPS_J ?_ | with_reducible refine KPS_L ?_ | with_reducible refine KPS_N ?_ | with_reducible refine KPS_S ?_ | with_reducible refine KPS_gJ ?_ | with_reducible refine KPS_gI ?_ | omega | (unfold pq; omega) | exact KPS_o (by assumption) (by assumption))
theorem zm_Wl_clearAll  (h : KPS u0 u) : KE u0 (hm_Wl_clearAll N u) := by
  unfold hm_Wl_clearAll
  exact zb_Wl_clearAll_0 h
theorem zb_H_count_108 {G : Unit} {t0 : Int32} (h : KPS u0 u)  : KE u0 (hb_H_count_108 N G u t0) := by
  unfold hb_H_count_108
  repeat' (first | with_reducible assumption | with_reducible refine KE_br ?_ ?_ | with_reducible refine KE_bnd ?_ (fun _ _ _ => ?_) | with_reducible refine KE_ck ?_ | with_reducible refine KE_ltm ?_ (fun _ _ => ?_) | with_reducible refine KE_some ?_ | with_reducible refine KE_boe (fun _ _ => ?_) | with_reducible refine KE_ltv (fun _ => ?_) | with_reducible refine KPS_I ?_ ?_ | with_reducible refine KPS_A ?_ ?_ | with_reducible refine KPS_J ?_ | with_reducible refine KPS_L ?_ | with_reducible refine KPS_N ?_ | with_reducible refine KPS_S ?_ | with_reducible refine KPS_gJ ?_ | with_reducible refine KPS_gI ?_ | omega | (unfold pq; omega) | exact KPS_o (by assumption) (by assumption))
theorem zb_H_count_89 {G : Unit} {t0 : Int32} (h : KPS u0 u)  : KE u0 (hb_H_count_89 N G u t0) := by
  unfold hb_H_count_89
  repeat' (first | with_reducible assumption | with_reducible refine KE_br ?_ ?_ | with_reducible refine KE_bnd ?_ (fun _ _ _ => ?_) | with_reducible refine KE_ck ?_ | with_reducible refine KE_ltm ?_ (fun _ _ => ?_) | with_reducible refine KE_some ?_ | with_reducible refine KE_boe (fun _ _ => ?_) | with_reducible refine KE_ltv (fun _ => ?_) | with_reducible refine KPS_I ?_ ?_ | with_reducible refine KPS_A ?_ ?_ | with_reducible refine KPS_J ?_ | with_reducible refine KPS_L ?_ | with_reducible refine KPS_N ?_ | with_reducible refine KPS_S ?_ | with_reducible refine KPS_gJ ?_ | with_reducible refine KPS_gI ?_ | omega | (unfold pq; omega) | exact KPS_o (by assumption) (by assumption))
theorem zb_H_count_70 {G : Unit} {t0 : Int32} (h : KPS u0 u)  : KE u0 (hb_H_count_70 N G u t0) := by
  unfold hb_H_count_70
  repeat' (first | with_reducible assumption | with_reducible refine KE_br ?_ ?_ | with_reducible refine KE_bnd ?_ (fun _ _ _ => ?_) | with_reducible refine KE_ck ?_ | with_reducible refine KE_ltm ?_ (fun _ _ => ?_) | with_reducible refine KE_some ?_ | with_reducible refine KE_boe (fun _ _ => ?_) | with_reducible refine KE_ltv (fun _ => ?_) | with_reducible refine KPS_I ?_ ?_ | with_reducible refine KPS_A ?_ ?_ | with_reducible refine KPS_J ?_ | with_reducible refine KPS_L ?_ | with_reducible refine KPS_N ?_ | with_reducible refine KPS_S ?_ | with_reducible refine KPS_gJ ?_ | with_reducible refine KPS_gI ?_ | omega | (unfold pq; omega) | exact KPS_o (by assumption) (by assumption))
theorem zb_H_count_0 {G : Unit} {v1 : Int32} (h : KPS u0 u)  : KE u0 (hb_H_count_0 N G u v1) := by
  unfold hb_H_count_0
  repeat' (first | with_reducible assumption | with_reducible refine KE_br ?_ ?_ | with_reducible refine KE_bnd ?_ (fun _ _ _ => ?_) | with_reducible refine KE_ck ?_ | with_reducible refine KE_ltm ?_ (fun _ _ => ?_) | with_reducible refine KE_some ?_ | with_reducible refine KE_boe (fun _ _ => ?_) | with_reducible exact zb_H_count_108 (by assumption) | with_reducible exact zb_H_count_70 (by assumption) | with_reducible exact zb_H_count_89 (by assumption) | with_reducible refine KE_ltv (fun _ => ?_) | with_reducible refine KPS_I ?_ ?_ | with_reducible refine KPS_A ?_ ?_ | with_reducible refine KPS_J ?_ | with_reducible refine KPS_L ?_ | with_reducible refine KPS_N ?_ | with_reducible refine KPS_S ?_ | with_reducible refine KPS_gJ ?_ | with_reducible refine KPS_gI ?_ | omega | (unfold pq; omega) | exact KPS_o (by assumption) (by assumption))
theorem zm_H_count {v1 : Int32} (h : KPS u0 u) : KE u0 (hm_H_count N u v1) := by
  unfold hm_H_count
  exact zb_H_count_0 h
theorem zb_H_isFunction_27 {G : Unit} {t0 : Int32} (h : KPS u0 u)  : KE u0 (hb_H_isFunction_27 N G u t0) := by
  unfold hb_H_isFunction_27
  repeat' (first | with_reducible assumption | with_reducible refine KE_br ?_ ?_ | with_reducible refine KE_bnd ?_ (fun _ _ _ => ?_) | with_reducible refine KE_ck ?_ | with_reducible refine KE_ltm ?_ (fun _ _ => ?_) | with_reducible refine KE_some ?_ | with_reducible refine KE_boe (fun _ _ => ?_) | with_reducible refine KE_ltv (fun _ => ?_) | with_reducible refine KPS_I ?_ ?_ | with_reducible refine KPS_A ?_ ?_ | with_reducible refine KPS_J ?_ | with_reducible refine KPS_L ?_ | with_reducible refine KPS_N ?_ | with_reducible refine KPS_S ?_ | with_reducible refine KPS_gJ ?_ | with_reducible refine KPS_gI ?_ | omega | (unfold pq; omega) | exact KPS_o (by assumption) (by assumption))
theorem zb_H_isFunction_26 {G : Unit} (h : KPS u0 u)  : KE u0 (hb_H_isFunction_26 N G u) := by
  unfold hb_H_isFunction_26
  repeat' (first | with_reducible assumption | with_reducible refine KE_br ?_ ?_ | with_reducible refine KE_bnd ?_ (fun _ _ _ => ?_) | with_reducible refine KE_ck ?_ | with_reducible refine KE_ltm ?_ (fun _ _ => ?_) | with_reducible refine KE_some ?_ | with_reducible refine KE_boe (fun _ _ => ?_) | with_reducible exact zb_H_isFunction_27 (by assumption) | with_reducible refine KE_ltv (fun _ => ?_) | with_reducible refine KPS_I ?_ ?_ | with_reducible refine KPS_A ?_ ?_ | with_reducible refine KPS_J ?_ | with_reducible refine KPS_L ?_ | with_reducible refine KPS_N ?_ | with_reducible refine KPS_S ?_ | with_reducible refine KPS_gJ ?_ | with_reducible refine KPS_gI ?_ | omega | (unfold pq; omega) | exact KPS_o (by assumption) (by assumption))
theorem zb_H_isFunction_0 {G : Unit} {v1 : Int32} (h : KPS u0 u)  : KE u0 (hb_H_isFunction_0 N G u v1) := by
  unfold hb_H_isFunction_0
  repeat' (first | with_reducible assumption | with_reducible refine KE_br ?_ ?_ | with_reducible refine KE_bnd ?_ (fun _ _ _ => ?_) | with_reducible refine KE_ck ?_ | with_reducible refine KE_ltm ?_ (fun _ _ => ?_) | with_reducible refine KE_some ?_ | with_reducible refine KE_boe (fun _ _ => ?_) | with_reducible exact zb_H_isFunction_26 (by assumption) | with_reducible exact zb_H_isFunction_27 (by assumption) | with_reducible refine KE_ltv (fun _ => ?_) | with_reducible refine KPS_I ?_ ?_ | with_reducible refine KPS_A ?_ ?_ | with_reducible refine KPS_J ?_ | with_reducible refine KPS_L ?_ | with_reducible refine KPS_N ?_ | with_reducible refine KPS_S ?_ | with_reducible refine KPS_gJ ?_ | with_reducible refine KPS_gI ?_ | omega | (unfold pq; omega) | exact KPS_o (by assumption) (by assumption))
theorem zm_H_isFunction {v1 : Int32} (h : KPS u0 u) : KE u0 (hm_H_isFunction N u v1) := by
  unfold hm_H_isFunction
  exact zb_H_isFunction_0 h
theorem zb_H_function_0 {G : Unit} {v1 : Int32} {v2 : Int32} (h : KPS u0 u)  : KE u0 (hb_H_function_0 N G u v1 v2) := by
  unfold hb_H_function_0
  repeat' (first | with_reducible assumption | with_reducible refine KE_br ?_ ?_ | with_reducible refine KE_bnd ?_ (fun _ _ _ => ?_) | with_reducible refine KE_ck ?_ | with_reducible refine KE_ltm ?_ (fun _ _ => ?_) | with_reducible refine KE_some ?_ | with_reducible refine KE_boe (fun _ _ => ?_) | with_reducible exact zm_H_isFunction (by assumption) | with_reducible refine KE_ltv (fun _ => ?_) | with_reducible refine KPS_I ?_ ?_ | with_reducible refine KPS_A ?_ ?_ | with_reducible refine KPS_J ?_ | with_reducible refine KPS_L ?_ | with_reducible refine KPS_N ?_ | with_reducible refine KPS_S ?_ | with_reducible refine KPS_gJ ?_ | with_reducible refine KPS_gI ?_ | omega | (unfold pq; omega) | exact KPS_o (by assumption) (by assumption))
theorem zm_H_function {v1 : Int32} {v2 : Int32} (h : KPS u0 u) : KE u0 (hm_H_function N u v1 v2) := by
  unfold hm_H_function
  exact zb_H_function_0 h
theorem zb_Wo_sign_35 {G : Unit} (h : KPS u0 u)  : KE u0 (hb_Wo_sign_35 N G u) := by
  unfold hb_Wo_sign_35
  repeat' (first | with_reducible assumption | with_reducible refine KE_br ?_ ?_ | with_reducible refine KE_bnd ?_ (fun _ _ _ => ?_) | with_reducible refine KE_ck ?_ | with_reducible refine KE_ltm ?_ (fun _ _ => ?_) | with_reducible refine KE_some ?_ | with_reducible refine KE_boe (fun _ _ => ?_) | with_reducible refine KE_ltv (fun _ => ?_) | with_reducible refine KPS_I ?_ ?_ | with_reducible refine KPS_A ?_ ?_ | with_reducible refine KPS_J ?_ | with_reducible refine KPS_L ?_ | with_reducible refine KPS_N ?_ | with_reducible refine KPS_S ?_ | with_reducible refine KPS_gJ ?_ | with_reducible refine KPS_gI ?_ | omega | (unfold pq; omega) | exact KPS_o (by assumption) (by assumption))
theorem zb_Wo_sign_0 {G : Unit} {v0 : Nat} {v1 : Int32} {v2 : Int32} (h : KPS u0 u)  : KE u0 (hb_Wo_sign_0 N G u v0 v1 v2) := by
  unfold hb_Wo_sign_0
  repeat' (first | with_reducible assumption | with_reducible refine KE_br ?_ ?_ | with_reducible refine KE_bnd ?_ (fun _ _ _ => ?_) | with_reducible refine KE_ck ?_ | with_reducible refine KE_ltm ?_ (fun _ _ => ?_) | with_reducible refine KE_some ?_ | with_reducible refine KE_boe (fun _ _ => ?_) | with_reducible exact zb_Wo_sign_35 (by assumption) | with_reducible refine KE_ltv (fun _ => ?_) | with_reducible refine KPS_I ?_ ?_ | with_reducible refine KPS_A ?_ ?_ | with_reducible refine KPS_J ?_ | with_reducible refine KPS_L ?_ | with_reducible refine KPS_N ?_ | with_reducible refine KPS_S ?_ | with_reducible refine KPS_gJ ?_ | with_reducible refine KPS_gI ?_ | omega | (unfold pq; omega) | exact KPS_o (by assumption) (by assumption))
theorem zm_Wo_sign {v0 : Nat} {v1 : Int32} {v2 : Int32} (h : KPS u0 u) : KE u0 (hm_Wo_sign N u v0 v1 v2) := by
  unfold hm_Wo_sign
  exact zb_Wo_sign_0 h
theorem zb_H_letter_0 {G : Unit} {v1 : Int32} {v2 : Int32} (h : KPS u0 u)  : KE u0 (hb_H_letter_0 N G u v1 v2) := by
  unfold hb_H_letter_0
  repeat' (first | with_reducible assumption | with_reducible refine KE_br ?_ ?_ | with_reducible refine KE_bnd ?_ (fun _ _ _ => ?_) | with_reducible refine KE_ck ?_ | with_reducible refine KE_ltm ?_ (fun _ _ => ?_) | with_reducible refine KE_some ?_ | with_reducible refine KE_boe (fun _ _ => ?_) | with_reducible exact zm_Wo_sign (by assumption) | with_reducible refine KE_ltv (fun _ => ?_) | with_reducible refine KPS_I ?_ ?_ | with_reducible refine KPS_A ?_ ?_ | with_reducible refine KPS_J ?_ | with_reducible refine KPS_L ?_ | with_reducible refine KPS_N ?_ | with_reducible refine KPS_S ?_ | with_reducible refine KPS_gJ ?_ | with_reducible refine KPS_gI ?_ | omega | (unfold pq; omega) | exact KPS_o (by assumption) (by assumption))
theorem zm_H_letter {v1 : Int32} {v2 : Int32} (h : KPS u0 u) : KE u0 (hm_H_letter N u v1 v2) := by
  unfold hm_H_letter
  exact zb_H_letter_0 h
theorem zb_Fr_clear_0 {G : Unit} {v0 : Nat} (h : KPS u0 u)  : KE u0 (hb_Fr_clear_0 N G u v0) := by
  unfold hb_Fr_clear_0
  repeat' (first | with_reducible assumption | with_reducible refine KE_br ?_ ?_ | with_reducible refine KE_bnd ?_ (fun _ _ _ => ?_) | with_reducible refine KE_ck ?_ | with_reducible refine KE_ltm ?_ (fun _ _ => ?_) | with_reducible refine KE_some ?_ | with_reducible refine KE_boe (fun _ _ => ?_) | with_reducible refine KE_ltv (fun _ => ?_) | with_reducible refine KPS_I ?_ ?_ | with_reducible refine KPS_A ?_ ?_ | with_reducible refine KPS_J ?_ | with_reducible refine KPS_L ?_ | with_reducible refine KPS_N ?_ | with_reducible refine KPS_S ?_ | with_reducible refine KPS_gJ ?_ | with_reducible refine KPS_gI ?_ | omega | (unfold pq; omega) | exact KPS_o (by assumption) (by assumption))
theorem zm_Fr_clear {v0 : Nat} (h : KPS u0 u) : KE u0 (hm_Fr_clear N u v0) := by
  unfold hm_Fr_clear
  exact zb_Fr_clear_0 h
theorem zb_Pr_clear_0 {G : Unit} {v0 : Nat} (h : KPS u0 u)  : KE u0 (hb_Pr_clear_0 N G u v0) := by
  unfold hb_Pr_clear_0
  repeat' (first | with_reducible assumption | with_reducible refine KE_br ?_ ?_ | with_reducible refine KE_bnd ?_ (fun _ _ _ => ?_) | with_reducible refine KE_ck ?_ | with_reducible refine KE_ltm ?_ (fun _ _ => ?_) | with_reducible refine KE_some ?_ | with_reducible refine KE_boe (fun _ _ => ?_) | with_reducible exact zm_Fr_clear (by assumption) | with_reducible refine KE_ltv (fun _ => ?_) | with_reducible refine KPS_I ?_ ?_ | with_reducible refine KPS_A ?_ ?_ | with_reducible refine KPS_J ?_ | with_reducible refine KPS_L ?_ | with_reducible refine KPS_N ?_ | with_reducible refine KPS_S ?_ | with_reducible refine KPS_gJ ?_ | with_reducible refine KPS_gI ?_ | omega | (unfold pq; omega) | exact KPS_o (by assumption) (by assumption))
theorem zm_Pr_clear {v0 : Nat} (h : KPS u0 u) : KE u0 (hm_Pr_clear N u v0) := by
  unfold hm_Pr_clear
  exact zb_Pr_clear_0 h
theorem zb_Fr_set_23 {G : Unit} (h : KPS u0 u)  : KE u0 (hb_Fr_set_23 N G u) := by
  unfold hb_Fr_set_23
  repeat' (first | with_reducible assumption | with_reducible refine KE_br ?_ ?_ | with_reducible refine KE_bnd ?_ (fun _ _ _ => ?_) | with_reducible refine KE_ck ?_ | with_reducible refine KE_ltm ?_ (fun _ _ => ?_) | with_reducible refine KE_some ?_ | with_reducible refine KE_boe (fun _ _ => ?_) | with_reducible refine KE_ltv (fun _ => ?_) | with_reducible refine KPS_I ?_ ?_ | with_reducible refine KPS_A ?_ ?_ | with_reducible refine KPS_J ?_ | with_reducible refine KPS_L ?_ | with_reducible refine KPS_N ?_ | with_reducible refine KPS_S ?_ | with_reducible refine KPS_gJ ?_ | with_reducible refine KPS_gI ?_ | omega | (unfold pq; omega) | exact KPS_o (by assumption) (by assumption))
theorem zb_Fr_set_0 {G : Unit} {v0 : Nat} {v1 : Int32} {v2 : Int32} (h : KPS u0 u)  : KE u0 (hb_Fr_set_0 N G u v0 v1 v2) := by
  unfold hb_Fr_set_0
  repeat' (first | with_reducible assumption | with_reducible refine KE_br ?_ ?_ | with_reducible refine KE_bnd ?_ (fun _ _ _ => ?_) | with_reducible refine KE_ck ?_ | with_reducible refine KE_ltm ?_ (fun _ _ => ?_) | with_reducible refine KE_some ?_ | with_reducible refine KE_boe (fun _ _ => ?_) | with_reducible exact zb_Fr_set_23 (by assumption) | with_reducible refine KE_ltv (fun _ => ?_) | with_reducible refine KPS_I ?_ ?_ | with_reducible refine KPS_A ?_ ?_ | with_reducible refine KPS_J ?_ | with_reducible refine KPS_L ?_ | with_reducible refine KPS_N ?_ | with_reducible refine KPS_S ?_ | with_reducible refine KPS_gJ ?_ | with_reducible refine KPS_gI ?_ | omega | (unfold pq; omega) | exact KPS_o (by assumption) (by assumption))
theorem zm_Fr_set {v0 : Nat} {v1 : Int32} {v2 : Int32} (h : KPS u0 u) : KE u0 (hm_Fr_set N u v0 v1 v2) := by
  unfold hm_Fr_set
  exact zb_Fr_set_0 h
theorem zb_Fr_open_0 {G : Unit} {v0 : Nat} {v1 : Int32} {v2 : Int32} {v3 : Int32} (h : KPS u0 u)  : KE u0 (hb_Fr_open_0 N G u v0 v1 v2 v3) := by
  unfold hb_Fr_open_0
  repeat' (first | with_reducible assumption | with_reducible refine KE_br ?_ ?_ | with_reducible refine KE_bnd ?_ (fun _ _ _ => ?_) | with_reducible refine KE_ck ?_ | with_reducible refine KE_ltm ?_ (fun _ _ => ?_) | with_reducible refine KE_some ?_ | with_reducible refine KE_boe (fun _ _ => ?_) | with_reducible exact zm_Fr_set (by assumption) | with_reducible refine KE_ltv (fun _ => ?_) | with_reducible refine KPS_I ?_ ?_ | with_reducible refine KPS_A ?_ ?_ | with_reducible refine KPS_J ?_ | with_reducible refine KPS_L ?_ | with_reducible refine KPS_N ?_ | with_reducible refine KPS_S ?_ | with_reducible refine KPS_gJ ?_ | with_reducible refine KPS_gI ?_ | omega | (unfold pq; omega) | exact KPS_o (by assumption) (by assumption))
theorem zm_Fr_open {v0 : Nat} {v1 : Int32} {v2 : Int32} {v3 : Int32} (h : KPS u0 u) : KE u0 (hm_Fr_open N u v0 v1 v2 v3) := by
  unfold hm_Fr_open
  exact zb_Fr_open_0 h
theorem zb_Wl_isReady_40 {G : Unit} {t0 : Int32} (h : KPS u0 u)  : KE u0 (hb_Wl_isReady_40 N G u t0) := by
  unfold hb_Wl_isReady_40
  repeat' (first | with_reducible assumption | with_reducible refine KE_br ?_ ?_ | with_reducible refine KE_bnd ?_ (fun _ _ _ => ?_) | with_reducible refine KE_ck ?_ | with_reducible refine KE_ltm ?_ (fun _ _ => ?_) | with_reducible refine KE_some ?_ | with_reducible refine KE_boe (fun _ _ => ?_) | with_reducible refine KE_ltv (fun _ => ?_) | with_reducible refine KPS_I ?_ ?_ | with_reducible refine KPS_A ?_ ?_ | with_reducible refine KPS_J ?_ | with_reducible refine KPS_L ?_ | with_reducible refine KPS_N ?_ | with_reducible refine KPS_S ?_ | with_reducible refine KPS_gJ ?_ | with_reducible refine KPS_gI ?_ | omega | (unfold pq; omega) | exact KPS_o (by assumption) (by assumption))
theorem zb_Wl_isReady_39 {G : Unit} (h : KPS u0 u)  : KE u0 (hb_Wl_isReady_39 N G u) := by
  unfold hb_Wl_isReady_39
  repeat' (first | with_reducible assumption | with_reducible refine KE_br ?_ ?_ | with_reducible refine KE_bnd ?_ (fun _ _ _ => ?_) | with_reducible refine KE_ck ?_ | with_reducible refine KE_ltm ?_ (fun _ _ => ?_) | with_reducible refine KE_some ?_ | with_reducible refine KE_boe (fun _ _ => ?_) | with_reducible exact zb_Wl_isReady_40 (by assumption) | with_reducible refine KE_ltv (fun _ => ?_) | with_reducible refine KPS_I ?_ ?_ | with_reducible refine KPS_A ?_ ?_ | with_reducible refine KPS_J ?_ | with_reducible refine KPS_L ?_ | with_reducible refine KPS_N ?_ | with_reducible refine KPS_S ?_ | with_reducible refine KPS_gJ ?_ | with_reducible refine KPS_gI ?_ | omega | (unfold pq; omega) | exact KPS_o (by assumption) (by assumption))
theorem zb_Wl_isReady_35 {G : Unit} (h : KPS u0 u)  : KE u0 (hb_Wl_isReady_35 N G u) := by
  unfold hb_Wl_isReady_35
  repeat' (first | with_reducible assumption | with_reducible refine KE_br ?_ ?_ | with_reducible refine KE_bnd ?_ (fun _ _ _ => ?_) | with_reducible refine KE_ck ?_ | with_reducible refine KE_ltm ?_ (fun _ _ => ?_) | with_reducible refine KE_some ?_ | with_reducible refine KE_boe (fun _ _ => ?_) | with_reducible exact zb_Wl_isReady_40 (by assumption) | with_reducible refine KE_ltv (fun _ => ?_) | with_reducible refine KPS_I ?_ ?_ | with_reducible refine KPS_A ?_ ?_ | with_reducible refine KPS_J ?_ | with_reducible refine KPS_L ?_ | with_reducible refine KPS_N ?_ | with_reducible refine KPS_S ?_ | with_reducible refine KPS_gJ ?_ | with_reducible refine KPS_gI ?_ | omega | (unfold pq; omega) | exact KPS_o (by assumption) (by assumption))
theorem zb_Wl_isReady_0 {G : Unit} {v1 : Nat} (h : KPS u0 u)  : KE u0 (hb_Wl_isReady_0 N G u v1) := by
  unfold hb_Wl_isReady_0
  repeat' (first | with_reducible assumption | with_reducible refine KE_br ?_ ?_ | with_reducible refine KE_bnd ?_ (fun _ _ _ => ?_) | with_reducible refine KE_ck ?_ | with_reducible refine KE_ltm ?_ (fun _ _ => ?_) | with_reducible refine KE_some ?_ | with_reducible refine KE_boe (fun _ _ => ?_) | with_reducible exact zb_Wl_isReady_35 (by assumption) | with_reducible exact zb_Wl_isReady_39 (by assumption) | with_reducible refine KE_ltv (fun _ => ?_) | with_reducible refine KPS_I ?_ ?_ | with_reducible refine KPS_A ?_ ?_ | with_reducible refine KPS_J ?_ | with_reducible refine KPS_L ?_ | with_reducible refine KPS_N ?_ | with_reducible refine KPS_S ?_ | with_reducible refine KPS_gJ ?_ | with_reducible refine KPS_gI ?_ | omega | (unfold pq; omega) | exact KPS_o (by assumption) (by assumption))
theorem zm_Wl_isReady {v1 : Nat} (h : KPS u0 u) : KE u0 (hm_Wl_isReady N u v1) := by
  unfold hm_Wl_isReady
  exact zb_Wl_isReady_0 h
theorem zb_Fr_of_26 {G : Unit} {t0 : Int32} (h : KPS u0 u)  : KE u0 (hb_Fr_of_26 N G u t0) := by
  unfold hb_Fr_of_26
  repeat' (first | with_reducible assumption | with_reducible refine KE_br ?_ ?_ | with_reducible refine KE_bnd ?_ (fun _ _ _ => ?_) | with_reducible refine KE_ck ?_ | with_reducible refine KE_ltm ?_ (fun _ _ => ?_) | with_reducible refine KE_some ?_ | with_reducible refine KE_boe (fun _ _ => ?_) | with_reducible refine KE_ltv (fun _ => ?_) | with_reducible refine KPS_I ?_ ?_ | with_reducible refine KPS_A ?_ ?_ | with_reducible refine KPS_J ?_ | with_reducible refine KPS_L ?_ | with_reducible refine KPS_N ?_ | with_reducible refine KPS_S ?_ | with_reducible refine KPS_gJ ?_ | with_reducible refine KPS_gI ?_ | omega | (unfold pq; omega) | exact KPS_o (by assumption) (by assumption))
theorem zb_Fr_of_12 {G : Unit} (h : KPS u0 u)  : KE u0 (hb_Fr_of_12 N G u) := by
  unfold hb_Fr_of_12
  repeat' (first | with_reducible assumption | with_reducible refine KE_br ?_ ?_ | with_reducible refine KE_bnd ?_ (fun _ _ _ => ?_) | with_reducible refine KE_ck ?_ | with_reducible refine KE_ltm ?_ (fun _ _ => ?_) | with_reducible refine KE_some ?_ | with_reducible refine KE_boe (fun _ _ => ?_) | with_reducible exact zb_Fr_of_26 (by assumption) | with_reducible refine KE_ltv (fun _ => ?_) | with_reducible refine KPS_I ?_ ?_ | with_reducible refine KPS_A ?_ ?_ | with_reducible refine KPS_J ?_ | with_reducible refine KPS_L ?_ | with_reducible refine KPS_N ?_ | with_reducible refine KPS_S ?_ | with_reducible refine KPS_gJ ?_ | with_reducible refine KPS_gI ?_ | omega | (unfold pq; omega) | exact KPS_o (by assumption) (by assumption))
theorem zb_Fr_of_0 {G : Unit} {v0 : Nat} {v1 : Int32} {v2 : Int32} (h : KPS u0 u)  : KE u0 (hb_Fr_of_0 N G u v0 v1 v2) := by
  unfold hb_Fr_of_0
  repeat' (first | with_reducible assumption | with_reducible refine KE_br ?_ ?_ | with_reducible refine KE_bnd ?_ (fun _ _ _ => ?_) | with_reducible refine KE_ck ?_ | with_reducible refine KE_ltm ?_ (fun _ _ => ?_) | with_reducible refine KE_some ?_ | with_reducible refine KE_boe (fun _ _ => ?_) | with_reducible exact zb_Fr_of_12 (by assumption) | with_reducible exact zb_Fr_of_26 (by assumption) | with_reducible refine KE_ltv (fun _ => ?_) | with_reducible refine KPS_I ?_ ?_ | with_reducible refine KPS_A ?_ ?_ | with_reducible refine KPS_J ?_ | with_reducible refine KPS_L ?_ | with_reducible refine KPS_N ?_ | with_reducible refine KPS_S ?_ | with_reducible refine KPS_gJ ?_ | with_reducible refine KPS_gI ?_ | omega | (unfold pq; omega) | exact KPS_o (by assumption) (by assumption))
theorem zm_Fr_of {v0 : Nat} {v1 : Int32} {v2 : Int32} (h : KPS u0 u) : KE u0 (hm_Fr_of N u v0 v1 v2) := by
  unfold hm_Fr_of
  exact zb_Fr_of_0 h
theorem zb_Fr_place_0 {G : Unit} {v0 : Nat} (h : KPS u0 u)  : KE u0 (hb_Fr_place_0 N G u v0) := by
  unfold hb_Fr_place_0
  repeat' (first | with_reducible assumption | with_reducible refine KE_br ?_ ?_ | with_reducible refine KE_bnd ?_ (fun _ _ _ => ?_) | with_reducible refine KE_ck ?_ | with_reducible refine KE_ltm ?_ (fun _ _ => ?_) | with_reducible refine KE_some ?_ | with_reducible refine KE_boe (fun _ _ => ?_) | with_reducible exact zm_Fr_of (by assumption) | with_reducible refine KE_ltv (fun _ => ?_) | with_reducible refine KPS_I ?_ ?_ | with_reducible refine KPS_A ?_ ?_ | with_reducible refine KPS_J ?_ | with_reducible refine KPS_L ?_ | with_reducible refine KPS_N ?_ | with_reducible refine KPS_S ?_ | with_reducible refine KPS_gJ ?_ | with_reducible refine KPS_gI ?_ | omega | (unfold pq; omega) | exact KPS_o (by assumption) (by assumption))
theorem zm_Fr_place {v0 : Nat} (h : KPS u0 u) : KE u0 (hm_Fr_place N u v0) := by
  unfold hm_Fr_place
  exact zb_Fr_place_0 h
theorem zb_Fr_below_23 {G : Unit} {t0 : Int64} (h : KPS u0 u)  : KE u0 (hb_Fr_below_23 N G u t0) := by
  unfold hb_Fr_below_23
  repeat' (first | with_reducible assumption | with_reducible refine KE_br ?_ ?_ | with_reducible refine KE_bnd ?_ (fun _ _ _ => ?_) | with_reducible refine KE_ck ?_ | with_reducible refine KE_ltm ?_ (fun _ _ => ?_) | with_reducible refine KE_some ?_ | with_reducible refine KE_boe (fun _ _ => ?_) | with_reducible refine KE_ltv (fun _ => ?_) | with_reducible refine KPS_I ?_ ?_ | with_reducible refine KPS_A ?_ ?_ | with_reducible refine KPS_J ?_ | with_reducible refine KPS_L ?_ | with_reducible refine KPS_N ?_ | with_reducible refine KPS_S ?_ | with_reducible refine KPS_gJ ?_ | with_reducible refine KPS_gI ?_ | omega | (unfold pq; omega) | exact KPS_o (by assumption) (by assumption))
theorem zb_Fr_below_0 {G : Unit} {v0 : Nat} {v1 : Int32} (h : KPS u0 u)  : KE u0 (hb_Fr_below_0 N G u v0 v1) := by
  unfold hb_Fr_below_0
  repeat' (first | with_reducible assumption | with_reducible refine KE_br ?_ ?_ | with_reducible refine KE_bnd ?_ (fun _ _ _ => ?_) | with_reducible refine KE_ck ?_ | with_reducible refine KE_ltm ?_ (fun _ _ => ?_) | with_reducible refine KE_some ?_ | with_reducible refine KE_boe (fun _ _ => ?_) | with_reducible exact zb_Fr_below_23 (by assumption) | with_reducible refine KE_ltv (fun _ => ?_) | with_reducible refine KPS_I ?_ ?_ | with_reducible refine KPS_A ?_ ?_ | with_reducible refine KPS_J ?_ | with_reducible refine KPS_L ?_ | with_reducible refine KPS_N ?_ | with_reducible refine KPS_S ?_ | with_reducible refine KPS_gJ ?_ | with_reducible refine KPS_gI ?_ | omega | (unfold pq; omega) | exact KPS_o (by assumption) (by assumption))
theorem zm_Fr_below {v0 : Nat} {v1 : Int32} (h : KPS u0 u) : KE u0 (hm_Fr_below N u v0 v1) := by
  unfold hm_Fr_below
  exact zb_Fr_below_0 h
theorem zb_Te_tag_0 {G : Unit} {v0 : Int64} (h : KPS u0 u)  : KE u0 (hb_Te_tag_0 N G u v0) := by
  unfold hb_Te_tag_0
  repeat' (first | with_reducible assumption | with_reducible refine KE_br ?_ ?_ | with_reducible refine KE_bnd ?_ (fun _ _ _ => ?_) | with_reducible refine KE_ck ?_ | with_reducible refine KE_ltm ?_ (fun _ _ => ?_) | with_reducible refine KE_some ?_ | with_reducible refine KE_boe (fun _ _ => ?_) | with_reducible refine KE_ltv (fun _ => ?_) | with_reducible refine KPS_I ?_ ?_ | with_reducible refine KPS_A ?_ ?_ | with_reducible refine KPS_J ?_ | with_reducible refine KPS_L ?_ | with_reducible refine KPS_N ?_ | with_reducible refine KPS_S ?_ | with_reducible refine KPS_gJ ?_ | with_reducible refine KPS_gI ?_ | omega | (unfold pq; omega) | exact KPS_o (by assumption) (by assumption))
theorem zm_Te_tag {v0 : Int64} (h : KPS u0 u) : KE u0 (hm_Te_tag N u v0) := by
  unfold hm_Te_tag
  exact zb_Te_tag_0 h
theorem zb_Co_takes_50 {G : Unit} {t0 : Int32} (h : KPS u0 u)  : KE u0 (hb_Co_takes_50 N G u t0) := by
  unfold hb_Co_takes_50
  repeat' (first | with_reducible assumption | with_reducible refine KE_br ?_ ?_ | with_reducible refine KE_bnd ?_ (fun _ _ _ => ?_) | with_reducible refine KE_ck ?_ | with_reducible refine KE_ltm ?_ (fun _ _ => ?_) | with_reducible refine KE_some ?_ | with_reducible refine KE_boe (fun _ _ => ?_) | with_reducible refine KE_ltv (fun _ => ?_) | with_reducible refine KPS_I ?_ ?_ | with_reducible refine KPS_A ?_ ?_ | with_reducible refine KPS_J ?_ | with_reducible refine KPS_L ?_ | with_reducible refine KPS_N ?_ | with_reducible refine KPS_S ?_ | with_reducible refine KPS_gJ ?_ | with_reducible refine KPS_gI ?_ | omega | (unfold pq; omega) | exact KPS_o (by assumption) (by assumption))
theorem zb_Co_takes_49 {G : Unit} (h : KPS u0 u)  : KE u0 (hb_Co_takes_49 N G u) := by
  unfold hb_Co_takes_49
  repeat' (first | with_reducible assumption | with_reducible refine KE_br ?_ ?_ | with_reducible refine KE_bnd ?_ (fun _ _ _ => ?_) | with_reducible refine KE_ck ?_ | with_reducible refine KE_ltm ?_ (fun _ _ => ?_) | with_reducible refine KE_some ?_ | with_reducible refine KE_boe (fun _ _ => ?_) | with_reducible exact zb_Co_takes_50 (by assumption) | with_reducible refine KE_ltv (fun _ => ?_) | with_reducible refine KPS_I ?_ ?_ | with_reducible refine KPS_A ?_ ?_ | with_reducible refine KPS_J ?_ | with_reducible refine KPS_L ?_ | with_reducible refine KPS_N ?_ | with_reducible refine KPS_S ?_ | with_reducible refine KPS_gJ ?_ | with_reducible refine KPS_gI ?_ | omega | (unfold pq; omega) | exact KPS_o (by assumption) (by assumption))
theorem zb_Co_takes_27 {G : Unit} {t0 : Int32} (h : KPS u0 u)  : KE u0 (hb_Co_takes_27 N G u t0) := by
  unfold hb_Co_takes_27
  repeat' (first | with_reducible assumption | with_reducible refine KE_br ?_ ?_ | with_reducible refine KE_bnd ?_ (fun _ _ _ => ?_) | with_reducible refine KE_ck ?_ | with_reducible refine KE_ltm ?_ (fun _ _ => ?_) | with_reducible refine KE_some ?_ | with_reducible refine KE_boe (fun _ _ => ?_) | with_reducible refine KE_ltv (fun _ => ?_) | with_reducible refine KPS_I ?_ ?_ | with_reducible refine KPS_A ?_ ?_ | with_reducible refine KPS_J ?_ | with_reducible refine KPS_L ?_ | with_reducible refine KPS_N ?_ | with_reducible refine KPS_S ?_ | with_reducible refine KPS_gJ ?_ | with_reducible refine KPS_gI ?_ | omega | (unfold pq; omega) | exact KPS_o (by assumption) (by assumption))
theorem zb_Co_takes_0 {G : Unit} {v1 : Int32} (h : KPS u0 u)  : KE u0 (hb_Co_takes_0 N G u v1) := by
  unfold hb_Co_takes_0
  repeat' (first | with_reducible assumption | with_reducible refine KE_br ?_ ?_ | with_reducible refine KE_bnd ?_ (fun _ _ _ => ?_) | with_reducible refine KE_ck ?_ | with_reducible refine KE_ltm ?_ (fun _ _ => ?_) | with_reducible refine KE_some ?_ | with_reducible refine KE_boe (fun _ _ => ?_) | with_reducible exact zb_Co_takes_27 (by assumption) | with_reducible exact zb_Co_takes_49 (by assumption) | with_reducible exact zb_Co_takes_50 (by assumption) | with_reducible refine KE_ltv (fun _ => ?_) | with_reducible refine KPS_I ?_ ?_ | with_reducible refine KPS_A ?_ ?_ | with_reducible refine KPS_J ?_ | with_reducible refine KPS_L ?_ | with_reducible refine KPS_N ?_ | with_reducible refine KPS_S ?_ | with_reducible refine KPS_gJ ?_ | with_reducible refine KPS_gI ?_ | omega | (unfold pq; omega) | exact KPS_o (by assumption) (by assumption))
theorem zm_Co_takes {v1 : Int32} (h : KPS u0 u) : KE u0 (hm_Co_takes N u v1) := by
  unfold hm_Co_takes
  exact zb_Co_takes_0 h
theorem zb_Te_make_0 {G : Unit} {v0 : Int32} {v1 : Int32} (h : KPS u0 u)  : KE u0 (hb_Te_make_0 N G u v0 v1) := by
  unfold hb_Te_make_0
  repeat' (first | with_reducible assumption | with_reducible refine KE_br ?_ ?_ | with_reducible refine KE_bnd ?_ (fun _ _ _ => ?_) | with_reducible refine KE_ck ?_ | with_reducible refine KE_ltm ?_ (fun _ _ => ?_) | with_reducible refine KE_some ?_ | with_reducible refine KE_boe (fun _ _ => ?_) | with_reducible refine KE_ltv (fun _ => ?_) | with_reducible refine KPS_I ?_ ?_ | with_reducible refine KPS_A ?_ ?_ | with_reducible refine KPS_J ?_ | with_reducible refine KPS_L ?_ | with_reducible refine KPS_N ?_ | with_reducible refine KPS_S ?_ | with_reducible refine KPS_gJ ?_ | with_reducible refine KPS_gI ?_ | omega | (unfold pq; omega) | exact KPS_o (by assumption) (by assumption))
theorem zm_Te_make {v0 : Int32} {v1 : Int32} (h : KPS u0 u) : KE u0 (hm_Te_make N u v0 v1) := by
  unfold hm_Te_make
  exact zb_Te_make_0 h
theorem zb_Ma_atom_0 {G : Unit} {v0 : Int32} (h : KPS u0 u)  : KE u0 (hb_Ma_atom_0 N G u v0) := by
  unfold hb_Ma_atom_0
  repeat' (first | with_reducible assumption | with_reducible refine KE_br ?_ ?_ | with_reducible refine KE_bnd ?_ (fun _ _ _ => ?_) | with_reducible refine KE_ck ?_ | with_reducible refine KE_ltm ?_ (fun _ _ => ?_) | with_reducible refine KE_some ?_ | with_reducible refine KE_boe (fun _ _ => ?_) | with_reducible exact zm_Te_make (by assumption) | with_reducible refine KE_ltv (fun _ => ?_) | with_reducible refine KPS_I ?_ ?_ | with_reducible refine KPS_A ?_ ?_ | with_reducible refine KPS_J ?_ | with_reducible refine KPS_L ?_ | with_reducible refine KPS_N ?_ | with_reducible refine KPS_S ?_ | with_reducible refine KPS_gJ ?_ | with_reducible refine KPS_gI ?_ | omega | (unfold pq; omega) | exact KPS_o (by assumption) (by assumption))
theorem zm_Ma_atom {v0 : Int32} (h : KPS u0 u) : KE u0 (hm_Ma_atom N u v0) := by
  unfold hm_Ma_atom
  exact zb_Ma_atom_0 h
theorem zb_Ma_tell_0 {G : Unit} {p : Nat} {v1 : Int32} {v2 : Int32} {v3 : Int64} (h : KPS u0 u)  : KE u0 (hb_Ma_tell_0 N G u p v1 v2 v3) := by
  unfold hb_Ma_tell_0
  repeat' (first | with_reducible assumption | with_reducible refine KE_br ?_ ?_ | with_reducible refine KE_bnd ?_ (fun _ _ _ => ?_) | with_reducible refine KE_ck ?_ | with_reducible refine KE_ltm ?_ (fun _ _ => ?_) | with_reducible refine KE_some ?_ | with_reducible refine KE_boe (fun _ _ => ?_) | with_reducible refine KE_ltv (fun _ => ?_) | with_reducible refine KPS_I ?_ ?_ | with_reducible refine KPS_A ?_ ?_ | with_reducible refine KPS_J ?_ | with_reducible refine KPS_L ?_ | with_reducible refine KPS_N ?_ | with_reducible refine KPS_S ?_ | with_reducible refine KPS_gJ ?_ | with_reducible refine KPS_gI ?_ | omega | (unfold pq; omega) | exact KPS_o (by assumption) (by assumption))
theorem zm_Ma_tell {p : Nat} {v1 : Int32} {v2 : Int32} {v3 : Int64} (h : KPS u0 u) : KE u0 (hm_Ma_tell N u p v1 v2 v3) := by
  unfold hm_Ma_tell
  exact zb_Ma_tell_0 h
theorem zb_Ma_wrong_0 {G : Unit} {p : Nat} {v1 : Int32} (h : KPS u0 u)  : KE u0 (hb_Ma_wrong_0 N G u p v1) := by
  unfold hb_Ma_wrong_0
  repeat' (first | with_reducible assumption | with_reducible refine KE_br ?_ ?_ | with_reducible refine KE_bnd ?_ (fun _ _ _ => ?_) | with_reducible refine KE_ck ?_ | with_reducible refine KE_ltm ?_ (fun _ _ => ?_) | with_reducible refine KE_some ?_ | with_reducible refine KE_boe (fun _ _ => ?_) | with_reducible exact zm_Ma_atom (by assumption) | with_reducible exact zm_Ma_tell (by assumption) | with_reducible refine KE_ltv (fun _ => ?_) | with_reducible refine KPS_I ?_ ?_ | with_reducible refine KPS_A ?_ ?_ | with_reducible refine KPS_J ?_ | with_reducible refine KPS_L ?_ | with_reducible refine KPS_N ?_ | with_reducible refine KPS_S ?_ | with_reducible refine KPS_gJ ?_ | with_reducible refine KPS_gI ?_ | omega | (unfold pq; omega) | exact KPS_o (by assumption) (by assumption))
theorem zm_Ma_wrong {p : Nat} {v1 : Int32} (h : KPS u0 u) : KE u0 (hm_Ma_wrong N u p v1) := by
  unfold hm_Ma_wrong
  exact zb_Ma_wrong_0 h
theorem zb_Ma_functionOf_14 {G : Unit} {t0 : Int32} (h : KPS u0 u)  : KE u0 (hb_Ma_functionOf_14 N G u t0) := by
  unfold hb_Ma_functionOf_14
  repeat' (first | with_reducible assumption | with_reducible refine KE_br ?_ ?_ | with_reducible refine KE_bnd ?_ (fun _ _ _ => ?_) | with_reducible refine KE_ck ?_ | with_reducible refine KE_ltm ?_ (fun _ _ => ?_) | with_reducible refine KE_some ?_ | with_reducible refine KE_boe (fun _ _ => ?_) | with_reducible refine KE_ltv (fun _ => ?_) | with_reducible refine KPS_I ?_ ?_ | with_reducible refine KPS_A ?_ ?_ | with_reducible refine KPS_J ?_ | with_reducible refine KPS_L ?_ | with_reducible refine KPS_N ?_ | with_reducible refine KPS_S ?_ | with_reducible refine KPS_gJ ?_ | with_reducible refine KPS_gI ?_ | omega | (unfold pq; omega) | exact KPS_o (by assumption) (by assumption))
theorem zb_Ma_functionOf_0 {G : Unit} {v0 : Int32} (h : KPS u0 u)  : KE u0 (hb_Ma_functionOf_0 N G u v0) := by
  unfold hb_Ma_functionOf_0
  repeat' (first | with_reducible assumption | with_reducible refine KE_br ?_ ?_ | with_reducible refine KE_bnd ?_ (fun _ _ _ => ?_) | with_reducible refine KE_ck ?_ | with_reducible refine KE_ltm ?_ (fun _ _ => ?_) | with_reducible refine KE_some ?_ | with_reducible refine KE_boe (fun _ _ => ?_) | with_reducible exact zb_Ma_functionOf_14 (by assumption) | with_reducible refine KE_ltv (fun _ => ?_) | with_reducible refine KPS_I ?_ ?_ | with_reducible refine KPS_A ?_ ?_ | with_reducible refine KPS_J ?_ | with_reducible refine KPS_L ?_ | with_reducible refine KPS_N ?_ | with_reducible refine KPS_S ?_ | with_reducible refine KPS_gJ ?_ | with_reducible refine KPS_gI ?_ | omega | (unfold pq; omega) | exact KPS_o (by assumption) (by assumption))
theorem zm_Ma_functionOf {v0 : Int32} (h : KPS u0 u) : KE u0 (hm_Ma_functionOf N u v0) := by
  unfold hm_Ma_functionOf
  exact zb_Ma_functionOf_0 h
theorem zb_Ma_entryOf_62 {G : Unit} {p : Nat} {t0 : Int32} (h : KPS u0 u)  : KE u0 (hb_Ma_entryOf_62 N G u p t0) := by
  unfold hb_Ma_entryOf_62
  repeat' (first | with_reducible assumption | with_reducible refine KE_br ?_ ?_ | with_reducible refine KE_bnd ?_ (fun _ _ _ => ?_) | with_reducible refine KE_ck ?_ | with_reducible refine KE_ltm ?_ (fun _ _ => ?_) | with_reducible refine KE_some ?_ | with_reducible refine KE_boe (fun _ _ => ?_) | with_reducible refine KE_ltv (fun _ => ?_) | with_reducible refine KPS_I ?_ ?_ | with_reducible refine KPS_A ?_ ?_ | with_reducible refine KPS_J ?_ | with_reducible refine KPS_L ?_ | with_reducible refine KPS_N ?_ | with_reducible refine KPS_S ?_ | with_reducible refine KPS_gJ ?_ | with_reducible refine KPS_gI ?_ | omega | (unfold pq; omega) | exact KPS_o (by assumption) (by assumption))
theorem zb_Ma_entryOf_61 {G : Unit} {p : Nat} (h : KPS u0 u)  : KE u0 (hb_Ma_entryOf_61 N G u p) := by
  unfold hb_Ma_entryOf_61
  repeat' (first | with_reducible assumption | with_reducible refine KE_br ?_ ?_ | with_reducible refine KE_bnd ?_ (fun _ _ _ => ?_) | with_reducible refine KE_ck ?_ | with_reducible refine KE_ltm ?_ (fun _ _ => ?_) | with_reducible refine KE_some ?_ | with_reducible refine KE_boe (fun _ _ => ?_) | with_reducible exact zb_Ma_entryOf_62 (by assumption) | with_reducible refine KE_ltv (fun _ => ?_) | with_reducible refine KPS_I ?_ ?_ | with_reducible refine KPS_A ?_ ?_ | with_reducible refine KPS_J ?_ | with_reducible refine KPS_L ?_ | with_reducible refine KPS_N ?_ | with_reducible refine KPS_S ?_ | with_reducible refine KPS_gJ ?_ | with_reducible refine KPS_gI ?_ | omega | (unfold pq; omega) | exact KPS_o (by assumption) (by assumption))
theorem zb_Ma_entryOf_33 {G : Unit} {p : Nat} {t0 : Int32} (h : KPS u0 u)  : KE u0 (hb_Ma_entryOf_33 N G u p t0) := by
  unfold hb_Ma_entryOf_33
  repeat' (first | with_reducible assumption | with_reducible refine KE_br ?_ ?_ | with_reducible refine KE_bnd ?_ (fun _ _ _ => ?_) | with_reducible refine KE_ck ?_ | with_reducible refine KE_ltm ?_ (fun _ _ => ?_) | with_reducible refine KE_some ?_ | with_reducible refine KE_boe (fun _ _ => ?_) | with_reducible refine KE_ltv (fun _ => ?_) | with_reducible refine KPS_I ?_ ?_ | with_reducible refine KPS_A ?_ ?_ | with_reducible refine KPS_J ?_ | with_reducible refine KPS_L ?_ | with_reducible refine KPS_N ?_ | with_reducible refine KPS_S ?_ | with_reducible refine KPS_gJ ?_ | with_reducible refine KPS_gI ?_ | omega | (unfold pq; omega) | exact KPS_o (by assumption) (by assumption))
theorem zb_Ma_entryOf_0 {G : Unit} {p : Nat} {v1 : Int32} (h : KPS u0 u)  : KE u0 (hb_Ma_entryOf_0 N G u p v1) := by
  unfold hb_Ma_entryOf_0
  repeat' (first | with_reducible assumption | with_reducible refine KE_br ?_ ?_ | with_reducible refine KE_bnd ?_ (fun _ _ _ => ?_) | with_reducible refine KE_ck ?_ | with_reducible refine KE_ltm ?_ (fun _ _ => ?_) | with_reducible refine KE_some ?_ | with_reducible refine KE_boe (fun _ _ => ?_) | with_reducible exact zb_Ma_entryOf_33 (by assumption) | with_reducible exact zb_Ma_entryOf_61 (by assumption) | with_reducible exact zb_Ma_entryOf_62 (by assumption) | with_reducible exact zm_Ma_functionOf (by assumption) | with_reducible refine KE_ltv (fun _ => ?_) | with_reducible refine KPS_I ?_ ?_ | with_reducible refine KPS_A ?_ ?_ | with_reducible refine KPS_J ?_ | with_reducible refine KPS_L ?_ | with_reducible refine KPS_N ?_ | with_reducible refine KPS_S ?_ | with_reducible refine KPS_gJ ?_ | with_reducible refine KPS_gI ?_ | omega | (unfold pq; omega) | exact KPS_o (by assumption) (by assumption))
theorem zm_Ma_entryOf {p : Nat} {v1 : Int32} (h : KPS u0 u) : KE u0 (hm_Ma_entryOf N u p v1) := by
  unfold hm_Ma_entryOf
  exact zb_Ma_entryOf_0 h
theorem zb_Te_cellsAt_49 {G : Unit} {t0 : Int32} (h : KPS u0 u)  : KE u0 (hb_Te_cellsAt_49 N G u t0) := by
  unfold hb_Te_cellsAt_49
  repeat' (first | with_reducible assumption | with_reducible refine KE_br ?_ ?_ | with_reducible refine KE_bnd ?_ (fun _ _ _ => ?_) | with_reducible refine KE_ck ?_ | with_reducible refine KE_ltm ?_ (fun _ _ => ?_) | with_reducible refine KE_some ?_ | with_reducible refine KE_boe (fun _ _ => ?_) | with_reducible refine KE_ltv (fun _ => ?_) | with_reducible refine KPS_I ?_ ?_ | with_reducible refine KPS_A ?_ ?_ | with_reducible refine KPS_J ?_ | with_reducible refine KPS_L ?_ | with_reducible refine KPS_N ?_ | with_reducible refine KPS_S ?_ | with_reducible refine KPS_gJ ?_ | with_reducible refine KPS_gI ?_ | omega | (unfold pq; omega) | exact KPS_o (by assumption) (by assumption))
theorem zb_Te_cellsAt_0 {G : Unit} {v0 : Nat} {v1 : Int64} (h : KPS u0 u)  : KE u0 (hb_Te_cellsAt_0 N G u v0 v1) := by
  unfold hb_Te_cellsAt_0
  repeat' (first | with_reducible assumption | with_reducible refine KE_br ?_ ?_ | with_reducible refine KE_bnd ?_ (fun _ _ _ => ?_) | with_reducible refine KE_ck ?_ | with_reducible refine KE_ltm ?_ (fun _ _ => ?_) | with_reducible refine KE_some ?_ | with_reducible refine KE_boe (fun _ _ => ?_) | with_reducible exact zb_Te_cellsAt_49 (by assumption) | with_reducible refine KE_ltv (fun _ => ?_) | with_reducible refine KPS_I ?_ ?_ | with_reducible refine KPS_A ?_ ?_ | with_reducible refine KPS_J ?_ | with_reducible refine KPS_L ?_ | with_reducible refine KPS_N ?_ | with_reducible refine KPS_S ?_ | with_reducible refine KPS_gJ ?_ | with_reducible refine KPS_gI ?_ | omega | (unfold pq; omega) | exact KPS_o (by assumption) (by assumption))
theorem zm_Te_cellsAt {v0 : Nat} {v1 : Int64} (h : KPS u0 u) : KE u0 (hm_Te_cellsAt N u v0 v1) := by
  unfold hm_Te_cellsAt
  exact zb_Te_cellsAt_0 h
theorem zb_Te_size_140 {G : (MS → Nat → Int32 → Int32 → Int32 → Option (MS × Int32)) × (MS → Nat → Int32 → Int32 → Int32 → Int32 → Int32 → Int32 → Option (MS × Int32))} {v4 : Int32} (h : KPS u0 u) (hG0 : ∀ (u : MS) a0 a1 a2 a3, KPS u0 u → KE u0 (G.1 u a0 a1 a2 a3)) (hG1 : ∀ (u : MS) a0 a1 a2 a3 a4 a5 a6, KPS u0 u → KE u0 (G.2 u a0 a1 a2 a3 a4 a5 a6)) : KE u0 (hb_Te_size_140 N G u v4) := by
  unfold hb_Te_size_140
  repeat' (first | with_reducible assumption | with_reducible refine KE_br ?_ ?_ | with_reducible refine KE_bnd ?_ (fun _ _ _ => ?_) | with_reducible refine KE_ck ?_ | with_reducible refine KE_ltm ?_ (fun _ _ => ?_) | with_reducible refine KE_some ?_ | with_reducible refine KE_boe (fun _ _ => ?_) | with_reducible exact hG0 _ _ _ _ _ (by assumption) | with_reducible exact hG1 _ _ _ _ _ _ _ _ (by assumption) | with_reducible refine KE_ltv (fun _ => ?_) | with_reducible refine KPS_I ?_ ?_ | with_reducible refine KPS_A ?_ ?_ | with_reducible refine KPS_J ?_ | with_reducible refine KPS_L ?_ | with_reducible refine KPS_N ?_ | with_reducible refine KPS_S ?_ | with_reducible refine KPS_gJ ?_ | with_reducible refine KPS_gI ?_ | omega | (unfold pq; omega) | exact KPS_o (by assumption) (by assumption))
theorem zb_Te_size_134 {G : (MS → Nat → Int32 → Int32 → Int32 → Option (MS × Int32)) × (MS → Nat → Int32 → Int32 → Int32 → Int32 → Int32 → Int32 → Option (MS × Int32))} {v1 : Nat} {v4 : Int32} {v5 : Int32} {v6 : Int32} (h : KPS u0 u) (hG0 : ∀ (u : MS) a0 a1 a2 a3, KPS u0 u → KE u0 (G.1 u a0 a1 a2 a3)) (hG1 : ∀ (u : MS) a0 a1 a2 a3 a4 a5 a6, KPS u0 u → KE u0 (G.2 u a0 a1 a2 a3 a4 a5 a6)) : KE u0 (hb_Te_size_134 N G u v1 v4 v5 v6) := by
  unfold hb_Te_size_134
  repeat' (first | with_reducible assumption | with_reducible refine KE_br ?_ ?_ | with_reducible refine KE_bnd ?_ (fun _ _ _ => ?_) | with_reducible refine KE_ck ?_ | with_reducible refine KE_ltm ?_ (fun _ _ => ?_) | with_reducible refine KE_some ?_ | with_reducible refine KE_boe (fun _ _ => ?_) | with_reducible exact hG0 _ _ _ _ _ (by assumption) | with_reducible exact hG1 _ _ _ _ _ _ _ _ (by assumption) | with_reducible refine KE_ltv (fun _ => ?_) | with_reducible refine KPS_I ?_ ?_ | with_reducible refine KPS_A ?_ ?_ | with_reducible refine KPS_J ?_ | with_reducible refine KPS_L ?_ | with_reducible refine KPS_N ?_ | with_reducible refine KPS_S ?_ | with_reducible refine KPS_gJ ?_ | with_reducible refine KPS_gI ?_ | omega | (unfold pq; omega) | exact KPS_o (by assumption) (by assumption))
theorem zb_Te_size_128 {G : (MS → Nat → Int32 → Int32 → Int32 → Option (MS × Int32)) × (MS → Nat → Int32 → Int32 → Int32 → Int32 → Int32 → Int32 → Option (MS × Int32))} {v1 : Nat} {v4 : Int32} {v5 : Int32} {v6 : Int32} {v7 : Int32} {v8 : Int32} {v9 : Int32} (h : KPS u0 u) (hG0 : ∀ (u : MS) a0 a1 a2 a3, KPS u0 u → KE u0 (G.1 u a0 a1 a2 a3)) (hG1 : ∀ (u : MS) a0 a1 a2 a3 a4 a5 a6, KPS u0 u → KE u0 (G.2 u a0 a1 a2 a3 a4 a5 a6)) : KE u0 (hb_Te_size_128 N G u v1 v4 v5 v6 v7 v8 v9) := by
  unfold hb_Te_size_128
  repeat' (first | with_reducible assumption | with_reducible refine KE_br ?_ ?_ | with_reducible refine KE_bnd ?_ (fun _ _ _ => ?_) | with_reducible refine KE_ck ?_ | with_reducible refine KE_ltm ?_ (fun _ _ => ?_) | with_reducible refine KE_some ?_ | with_reducible refine KE_boe (fun _ _ => ?_) | with_reducible exact hG0 _ _ _ _ _ (by assumption) | with_reducible exact hG1 _ _ _ _ _ _ _ _ (by assumption) | with_reducible refine KE_ltv (fun _ => ?_) | with_reducible refine KPS_I ?_ ?_ | with_reducible refine KPS_A ?_ ?_ | with_reducible refine KPS_J ?_ | with_reducible refine KPS_L ?_ | with_reducible refine KPS_N ?_ | with_reducible refine KPS_S ?_ | with_reducible refine KPS_gJ ?_ | with_reducible refine KPS_gI ?_ | omega | (unfold pq; omega) | exact KPS_o (by assumption) (by assumption))
theorem zb_Te_size_111 {G : (MS → Nat → Int32 → Int32 → Int32 → Option (MS × Int32)) × (MS → Nat → Int32 → Int32 → Int32 → Int32 → Int32 → Int32 → Option (MS × Int32))} {v1 : Nat} {v4 : Int32} {v5 : Int32} {v6 : Int32} {v7 : Int32} {v8 : Int32} {v9 : Int32} (h : KPS u0 u) (hG0 : ∀ (u : MS) a0 a1 a2 a3, KPS u0 u → KE u0 (G.1 u a0 a1 a2 a3)) (hG1 : ∀ (u : MS) a0 a1 a2 a3 a4 a5 a6, KPS u0 u → KE u0 (G.2 u a0 a1 a2 a3 a4 a5 a6)) : KE u0 (hb_Te_size_111 N G u v1 v4 v5 v6 v7 v8 v9) := by
  unfold hb_Te_size_111
  repeat' (first | with_reducible assumption | with_reducible refine KE_br ?_ ?_ | with_reducible refine KE_bnd ?_ (fun _ _ _ => ?_) | with_reducible refine KE_ck ?_ | with_reducible refine KE_ltm ?_ (fun _ _ => ?_) | with_reducible refine KE_some ?_ | with_reducible refine KE_boe (fun _ _ => ?_) | with_reducible exact zb_Te_size_128 (by assumption) hG0 hG1 | with_reducible exact hG0 _ _ _ _ _ (by assumption) | with_reducible exact hG1 _ _ _ _ _ _ _ _ (by assumption) | with_reducible refine KE_ltv (fun _ => ?_) | with_reducible refine KPS_I ?_ ?_ | with_reducible refine KPS_A ?_ ?_ | with_reducible refine KPS_J ?_ | with_reducible refine KPS_L ?_ | with_reducible refine KPS_N ?_ | with_reducible refine KPS_S ?_ | with_reducible refine KPS_gJ ?_ | with_reducible refine KPS_gI ?_ | omega | (unfold pq; omega) | exact KPS_o (by assumption) (by assumption))
theorem zb_Te_size_64 {G : (MS → Nat → Int32 → Int32 → Int32 → Option (MS × Int32)) × (MS → Nat → Int32 → Int32 → Int32 → Int32 → Int32 → Int32 → Option (MS × Int32))} {v1 : Nat} {v4 : Int32} {v5 : Int32} {v6 : Int32} {v7 : Int32} {v8 : Int32} {v9 : Int32} (h : KPS u0 u) (hG0 : ∀ (u : MS) a0 a1 a2 a3, KPS u0 u → KE u0 (G.1 u a0 a1 a2 a3)) (hG1 : ∀ (u : MS) a0 a1 a2 a3 a4 a5 a6, KPS u0 u → KE u0 (G.2 u a0 a1 a2 a3 a4 a5 a6)) : KE u0 (hb_Te_size_64 N G u v1 v4 v5 v6 v7 v8 v9) := by
  unfold hb_Te_size_64
  repeat' (first | with_reducible assumption | with_reducible refine KE_br ?_ ?_ | with_reducible refine KE_bnd ?_ (fun _ _ _ => ?_) | with_reducible refine KE_ck ?_ | with_reducible refine KE_ltm ?_ (fun _ _ => ?_) | with_reducible refine KE_some ?_ | with_reducible refine KE_boe (fun _ _ => ?_) | with_reducible exact zb_Te_size_111 (by assumption) hG0 hG1 | with_reducible exact zb_Te_size_128 (by assumption) hG0 hG1 | with_reducible exact zb_Te_size_134 (by assumption) hG0 hG1 | with_reducible exact hG0 _ _ _ _ _ (by assumption) | with_reducible exact hG1 _ _ _ _ _ _ _ _ (by assumption) | with_reducible refine KE_ltv (fun _ => ?_) | with_reducible refine KPS_I ?_ ?_ | with_reducible refine KPS_A ?_ ?_ | with_reducible refine KPS_J ?_ | with_reducible refine KPS_L ?_ | with_reducible refine KPS_N ?_ | with_reducible refine KPS_S ?_ | with_reducible refine KPS_gJ ?_ | with_reducible refine KPS_gI ?_ | omega | (unfold pq; omega) | exact KPS_o (by assumption) (by assumption))
theorem zb_Te_size_16 {G : (MS → Nat → Int32 → Int32 → Int32 → Option (MS × Int32)) × (MS → Nat → Int32 → Int32 → Int32 → Int32 → Int32 → Int32 → Option (MS × Int32))} {v1 : Nat} {v4 : Int32} {v5 : Int32} {v6 : Int32} (h : KPS u0 u) (hG0 : ∀ (u : MS) a0 a1 a2 a3, KPS u0 u → KE u0 (G.1 u a0 a1 a2 a3)) (hG1 : ∀ (u : MS) a0 a1 a2 a3 a4 a5 a6, KPS u0 u → KE u0 (G.2 u a0 a1 a2 a3 a4 a5 a6)) : KE u0 (hb_Te_size_16 N G u v1 v4 v5 v6) := by
  unfold hb_Te_size_16
  repeat' (first | with_reducible assumption | with_reducible refine KE_br ?_ ?_ | with_reducible refine KE_bnd ?_ (fun _ _ _ => ?_) | with_reducible refine KE_ck ?_ | with_reducible refine KE_ltm ?_ (fun _ _ => ?_) | with_reducible refine KE_some ?_ | with_reducible refine KE_boe (fun _ _ => ?_) | with_reducible exact zb_Te_size_140 (by assumption) hG0 hG1 | with_reducible exact zm_Te_cellsAt (by assumption) | with_reducible exact hG0 _ _ _ _ _ (by assumption) | with_reducible exact hG1 _ _ _ _ _ _ _ _ (by assumption) | with_reducible refine KE_ltv (fun _ => ?_) | with_reducible refine KPS_I ?_ ?_ | with_reducible refine KPS_A ?_ ?_ | with_reducible refine KPS_J ?_ | with_reducible refine KPS_L ?_ | with_reducible refine KPS_N ?_ | with_reducible refine KPS_S ?_ | with_reducible refine KPS_gJ ?_ | with_reducible refine KPS_gI ?_ | omega | (unfold pq; omega) | exact KPS_o (by assumption) (by assumption))
theorem zb_Te_size_0 {G : (MS → Nat → Int32 → Int32 → Int32 → Option (MS × Int32)) × (MS → Nat → Int32 → Int32 → Int32 → Int32 → Int32 → Int32 → Option (MS × Int32))} {v1 : Nat} {v2 : Int64} (h : KPS u0 u) (hG0 : ∀ (u : MS) a0 a1 a2 a3, KPS u0 u → KE u0 (G.1 u a0 a1 a2 a3)) (hG1 : ∀ (u : MS) a0 a1 a2 a3 a4 a5 a6, KPS u0 u → KE u0 (G.2 u a0 a1 a2 a3 a4 a5 a6)) : KE u0 (hb_Te_size_0 N G u v1 v2) := by
  unfold hb_Te_size_0
  repeat' (first | with_reducible assumption | with_reducible refine KE_br ?_ ?_ | with_reducible refine KE_bnd ?_ (fun _ _ _ => ?_) | with_reducible refine KE_ck ?_ | with_reducible refine KE_ltm ?_ (fun _ _ => ?_) | with_reducible refine KE_some ?_ | with_reducible refine KE_boe (fun _ _ => ?_) | with_reducible exact hG0 _ _ _ _ _ (by assumption) | with_reducible exact hG1 _ _ _ _ _ _ _ _ (by assumption) | with_reducible refine KE_ltv (fun _ => ?_) | with_reducible refine KPS_I ?_ ?_ | with_reducible refine KPS_A ?_ ?_ | with_reducible refine KPS_J ?_ | with_reducible refine KPS_L ?_ | with_reducible refine KPS_N ?_ | with_reducible refine KPS_S ?_ | with_reducible refine KPS_gJ ?_ | with_reducible refine KPS_gI ?_ | omega | (unfold pq; omega) | exact KPS_o (by assumption) (by assumption))
theorem zg_Te_size (n : Nat) : (∀ (u : MS) a0 a1 a2 a3, KPS u0 u → KE u0 ((hg_Te_size N n).1 u a0 a1 a2 a3)) ∧ (∀ (u : MS) a0 a1 a2 a3 a4 a5 a6, KPS u0 u → KE u0 ((hg_Te_size N n).2 u a0 a1 a2 a3 a4 a5 a6)) := by
  induction n with
  | zero => exact ⟨fun _ _ _ _ _ _ => KE_none, fun _ _ _ _ _ _ _ _ _ => KE_none⟩
  | succ n ih => exact ⟨fun _ _ _ _ _ h => zb_Te_size_16 (N := N) h ih.1 ih.2, fun _ _ _ _ _ _ _ _ h => zb_Te_size_64 (N := N) h ih.1 ih.2⟩
theorem zm_Te_size {v1 : Nat} {v2 : Int64} (h : KPS u0 u) : KE u0 (hm_Te_size N u v1 v2) := by
  unfold hm_Te_size
  exact zb_Te_size_0 h ((zg_Te_size N).1) ((zg_Te_size N).2)
theorem zb_Wl_endsWith_17 {G : Unit} (h : KPS u0 u)  : KE u0 (hb_Wl_endsWith_17 N G u) := by
  unfold hb_Wl_endsWith_17
  repeat' (first | with_reducible assumption | with_reducible refine KE_br ?_ ?_ | with_reducible refine KE_bnd ?_ (fun _ _ _ => ?_) | with_reducible refine KE_ck ?_ | with_reducible refine KE_ltm ?_ (fun _ _ => ?_) | with_reducible refine KE_some ?_ | with_reducible refine KE_boe (fun _ _ => ?_) | with_reducible refine KE_ltv (fun _ => ?_) | with_reducible refine KPS_I ?_ ?_ | with_reducible refine KPS_A ?_ ?_ | with_reducible refine KPS_J ?_ | with_reducible refine KPS_L ?_ | with_reducible refine KPS_N ?_ | with_reducible refine KPS_S ?_ | with_reducible refine KPS_gJ ?_ | with_reducible refine KPS_gI ?_ | omega | (unfold pq; omega) | exact KPS_o (by assumption) (by assumption))
theorem zb_Wl_endsWith_0 {G : Unit} {v1 : Nat} {v2 : Int64} {v4 : Nat} (h : KPS u0 u)  : KE u0 (hb_Wl_endsWith_0 N G u v1 v2 v4) := by
  unfold hb_Wl_endsWith_0
  repeat' (first | with_reducible assumption | with_reducible refine KE_br ?_ ?_ | with_reducible refine KE_bnd ?_ (fun _ _ _ => ?_) | with_reducible refine KE_ck ?_ | with_reducible refine KE_ltm ?_ (fun _ _ => ?_) | with_reducible refine KE_some ?_ | with_reducible refine KE_boe (fun _ _ => ?_) | with_reducible exact zb_Wl_endsWith_17 (by assumption) | with_reducible refine KE_ltv (fun _ => ?_) | with_reducible refine KPS_I ?_ ?_ | with_reducible refine KPS_A ?_ ?_ | with_reducible refine KPS_J ?_ | with_reducible refine KPS_L ?_ | with_reducible refine KPS_N ?_ | with_reducible refine KPS_S ?_ | with_reducible refine KPS_gJ ?_ | with_reducible refine KPS_gI ?_ | omega | (unfold pq; omega) | exact KPS_o (by assumption) (by assumption))
theorem zm_Wl_endsWith {v1 : Nat} {v2 : Int64} {v4 : Nat} (h : KPS u0 u) : KE u0 (hm_Wl_endsWith N u v1 v2 v4) := by
  unfold hm_Wl_endsWith
  exact zb_Wl_endsWith_0 h
theorem zb_Wl_endsBy_0 {G : Unit} {v1 : Nat} {v2 : Int32} (h : KPS u0 u)  : KE u0 (hb_Wl_endsBy_0 N G u v1 v2) := by
  unfold hb_Wl_endsBy_0
  repeat' (first | with_reducible assumption | with_reducible refine KE_br ?_ ?_ | with_reducible refine KE_bnd ?_ (fun _ _ _ => ?_) | with_reducible refine KE_ck ?_ | with_reducible refine KE_ltm ?_ (fun _ _ => ?_) | with_reducible refine KE_some ?_ | with_reducible refine KE_boe (fun _ _ => ?_) | with_reducible exact zm_Wl_endsWith (by assumption) | with_reducible exact zm_Te_make (by assumption) | with_reducible refine KE_ltv (fun _ => ?_) | with_reducible refine KPS_I ?_ ?_ | with_reducible refine KPS_A ?_ ?_ | with_reducible refine KPS_J ?_ | with_reducible refine KPS_L ?_ | with_reducible refine KPS_N ?_ | with_reducible refine KPS_S ?_ | with_reducible refine KPS_gJ ?_ | with_reducible refine KPS_gI ?_ | omega | (unfold pq; omega) | exact KPS_o (by assumption) (by assumption))
theorem zm_Wl_endsBy {v1 : Nat} {v2 : Int32} (h : KPS u0 u) : KE u0 (hm_Wl_endsBy N u v1 v2) := by
  unfold hm_Wl_endsBy
  exact zb_Wl_endsBy_0 h
theorem zb_Te_push_0 {G : Unit} {v1 : Int32} {v2 : Int64} (h : KPS u0 u)  : KE u0 (hb_Te_push_0 N G u v1 v2) := by
  unfold hb_Te_push_0
  repeat' (first | with_reducible assumption | with_reducible refine KE_br ?_ ?_ | with_reducible refine KE_bnd ?_ (fun _ _ _ => ?_) | with_reducible refine KE_ck ?_ | with_reducible refine KE_ltm ?_ (fun _ _ => ?_) | with_reducible refine KE_some ?_ | with_reducible refine KE_boe (fun _ _ => ?_) | with_reducible refine KE_ltv (fun _ => ?_) | with_reducible refine KPS_I ?_ ?_ | with_reducible refine KPS_A ?_ ?_ | with_reducible refine KPS_J ?_ | with_reducible refine KPS_L ?_ | with_reducible refine KPS_N ?_ | with_reducible refine KPS_S ?_ | with_reducible refine KPS_gJ ?_ | with_reducible refine KPS_gI ?_ | omega | (unfold pq; omega) | exact KPS_o (by assumption) (by assumption))
theorem zm_Te_push {v1 : Int32} {v2 : Int64} (h : KPS u0 u) : KE u0 (hm_Te_push N u v1 v2) := by
  unfold hm_Te_push
  exact zb_Te_push_0 h
theorem zb_Te_toWriteTuple_60 {G : (MS → Nat → Int32 → Int32 → Int32 → Option (MS × Int32))} {v1 : Nat} {v2 : Int32} {v4 : Int32} {v5 : Int32} (h : KPS u0 u) (hG0 : ∀ (u : MS) a0 a1 a2 a3, KPS u0 u → KE u0 (G u a0 a1 a2 a3)) : KE u0 (hb_Te_toWriteTuple_60 N G u v1 v2 v4 v5) := by
  unfold hb_Te_toWriteTuple_60
  repeat' (first | with_reducible assumption | with_reducible refine KE_br ?_ ?_ | with_reducible refine KE_bnd ?_ (fun _ _ _ => ?_) | with_reducible refine KE_ck ?_ | with_reducible refine KE_ltm ?_ (fun _ _ => ?_) | with_reducible refine KE_some ?_ | with_reducible refine KE_boe (fun _ _ => ?_) | with_reducible exact hG0 _ _ _ _ _ (by assumption) | with_reducible refine KE_ltv (fun _ => ?_) | with_reducible refine KPS_I ?_ ?_ | with_reducible refine KPS_A ?_ ?_ | with_reducible refine KPS_J ?_ | with_reducible refine KPS_L ?_ | with_reducible refine KPS_N ?_ | with_reducible refine KPS_S ?_ | with_reducible refine KPS_gJ ?_ | with_reducible refine KPS_gI ?_ | omega | (unfold pq; omega) | exact KPS_o (by assumption) (by assumption))
theorem zb_Te_toWriteTuple_20 {G : (MS → Nat → Int32 → Int32 → Int32 → Option (MS × Int32))} {v1 : Nat} {v2 : Int32} {v4 : Int32} {v5 : Int32} (h : KPS u0 u) (hG0 : ∀ (u : MS) a0 a1 a2 a3, KPS u0 u → KE u0 (G u a0 a1 a2 a3)) : KE u0 (hb_Te_toWriteTuple_20 N G u v1 v2 v4 v5) := by
  unfold hb_Te_toWriteTuple_20
  repeat' (first | with_reducible assumption | with_reducible refine KE_br ?_ ?_ | with_reducible refine KE_bnd ?_ (fun _ _ _ => ?_) | with_reducible refine KE_ck ?_ | with_reducible refine KE_ltm ?_ (fun _ _ => ?_) | with_reducible refine KE_some ?_ | with_reducible refine KE_boe (fun _ _ => ?_) | with_reducible exact zb_Te_toWriteTuple_60 (by assumption) hG0 | with_reducible exact zm_Te_make (by assumption) | with_reducible exact zm_Te_push (by assumption) | with_reducible exact hG0 _ _ _ _ _ (by assumption) | with_reducible refine KE_ltv (fun _ => ?_) | with_reducible refine KPS_I ?_ ?_ | with_reducible refine KPS_A ?_ ?_ | with_reducible refine KPS_J ?_ | with_reducible refine KPS_L ?_ | with_reducible refine KPS_N ?_ | with_reducible refine KPS_S ?_ | with_reducible refine KPS_gJ ?_ | with_reducible refine KPS_gI ?_ | omega | (unfold pq; omega) | exact KPS_o (by assumption) (by assumption))
theorem zb_Te_toWriteTuple_0 {G : (MS → Nat → Int32 → Int32 → Int32 → Option (MS × Int32))} {v1 : Nat} {v2 : Int32} {v3 : Int32} (h : KPS u0 u) (hG0 : ∀ (u : MS) a0 a1 a2 a3, KPS u0 u → KE u0 (G u a0 a1 a2 a3)) : KE u0 (hb_Te_toWriteTuple_0 N G u v1 v2 v3) := by
  unfold hb_Te_toWriteTuple_0
  repeat' (first | with_reducible assumption | with_reducible refine KE_br ?_ ?_ | with_reducible refine KE_bnd ?_ (fun _ _ _ => ?_) | with_reducible refine KE_ck ?_ | with_reducible refine KE_ltm ?_ (fun _ _ => ?_) | with_reducible refine KE_some ?_ | with_reducible refine KE_boe (fun _ _ => ?_) | with_reducible exact zm_Te_make (by assumption) | with_reducible exact zm_Te_push (by assumption) | with_reducible exact hG0 _ _ _ _ _ (by assumption) | with_reducible refine KE_ltv (fun _ => ?_) | with_reducible refine KPS_I ?_ ?_ | with_reducible refine KPS_A ?_ ?_ | with_reducible refine KPS_J ?_ | with_reducible refine KPS_L ?_ | with_reducible refine KPS_N ?_ | with_reducible refine KPS_S ?_ | with_reducible refine KPS_gJ ?_ | with_reducible refine KPS_gI ?_ | omega | (unfold pq; omega) | exact KPS_o (by assumption) (by assumption))
theorem zg_Te_toWriteTuple (n : Nat) : (∀ (u : MS) a0 a1 a2 a3, KPS u0 u → KE u0 ((hg_Te_toWriteTuple N n) u a0 a1 a2 a3)) := by
  induction n with
  | zero => exact fun _ _ _ _ _ _ => KE_none
  | succ n ih => exact fun _ _ _ _ _ h => zb_Te_toWriteTuple_20 (N := N) h ih
theorem zm_Te_toWriteTuple {v1 : Nat} {v2 : Int32} {v3 : Int32} (h : KPS u0 u) : KE u0 (hm_Te_toWriteTuple N u v1 v2 v3) := by
  unfold hm_Te_toWriteTuple
  exact zb_Te_toWriteTuple_0 h (zg_Te_toWriteTuple N)
theorem zb_Te_toWritePair_0 {G : Unit} {v1 : Nat} {v2 : Int32} {v3 : Int32} (h : KPS u0 u)  : KE u0 (hb_Te_toWritePair_0 N G u v1 v2 v3) := by
  unfold hb_Te_toWritePair_0
  repeat' (first | with_reducible assumption | with_reducible refine KE_br ?_ ?_ | with_reducible refine KE_bnd ?_ (fun _ _ _ => ?_) | with_reducible refine KE_ck ?_ | with_reducible refine KE_ltm ?_ (fun _ _ => ?_) | with_reducible refine KE_some ?_ | with_reducible refine KE_boe (fun _ _ => ?_) | with_reducible exact zm_Te_make (by assumption) | with_reducible exact zm_Te_push (by assumption) | with_reducible refine KE_ltv (fun _ => ?_) | with_reducible refine KPS_I ?_ ?_ | with_reducible refine KPS_A ?_ ?_ | with_reducible refine KPS_J ?_ | with_reducible refine KPS_L ?_ | with_reducible refine KPS_N ?_ | with_reducible refine KPS_S ?_ | with_reducible refine KPS_gJ ?_ | with_reducible refine KPS_gI ?_ | omega | (unfold pq; omega) | exact KPS_o (by assumption) (by assumption))
theorem zm_Te_toWritePair {v1 : Nat} {v2 : Int32} {v3 : Int32} (h : KPS u0 u) : KE u0 (hm_Te_toWritePair N u v1 v2 v3) := by
  unfold hm_Te_toWritePair
  exact zb_Te_toWritePair_0 h
theorem zb_Wo_length_31 {G : Unit} {t0 : Int32} (h : KPS u0 u)  : KE u0 (hb_Wo_length_31 N G u t0) := by
  unfold hb_Wo_length_31
  repeat' (first | with_reducible assumption | with_reducible refine KE_br ?_ ?_ | with_reducible refine KE_bnd ?_ (fun _ _ _ => ?_) | with_reducible refine KE_ck ?_ | with_reducible refine KE_ltm ?_ (fun _ _ => ?_) | with_reducible refine KE_some ?_ | with_reducible refine KE_boe (fun _ _ => ?_) | with_reducible refine KE_ltv (fun _ => ?_) | with_reducible refine KPS_I ?_ ?_ | with_reducible refine KPS_A ?_ ?_ | with_reducible refine KPS_J ?_ | with_reducible refine KPS_L ?_ | with_reducible refine KPS_N ?_ | with_reducible refine KPS_S ?_ | with_reducible refine KPS_gJ ?_ | with_reducible refine KPS_gI ?_ | omega | (unfold pq; omega) | exact KPS_o (by assumption) (by assumption))
theorem zb_Wo_length_12 {G : Unit} (h : KPS u0 u)  : KE u0 (hb_Wo_length_12 N G u) := by
  unfold hb_Wo_length_12
  repeat' (first | with_reducible assumption | with_reducible refine KE_br ?_ ?_ | with_reducible refine KE_bnd ?_ (fun _ _ _ => ?_) | with_reducible refine KE_ck ?_ | with_reducible refine KE_ltm ?_ (fun _ _ => ?_) | with_reducible refine KE_some ?_ | with_reducible refine KE_boe (fun _ _ => ?_) | with_reducible exact zb_Wo_length_31 (by assumption) | with_reducible refine KE_ltv (fun _ => ?_) | with_reducible refine KPS_I ?_ ?_ | with_reducible refine KPS_A ?_ ?_ | with_reducible refine KPS_J ?_ | with_reducible refine KPS_L ?_ | with_reducible refine KPS_N ?_ | with_reducible refine KPS_S ?_ | with_reducible refine KPS_gJ ?_ | with_reducible refine KPS_gI ?_ | omega | (unfold pq; omega) | exact KPS_o (by assumption) (by assumption))
theorem zb_Wo_length_0 {G : Unit} {v0 : Nat} {v1 : Int32} (h : KPS u0 u)  : KE u0 (hb_Wo_length_0 N G u v0 v1) := by
  unfold hb_Wo_length_0
  repeat' (first | with_reducible assumption | with_reducible refine KE_br ?_ ?_ | with_reducible refine KE_bnd ?_ (fun _ _ _ => ?_) | with_reducible refine KE_ck ?_ | with_reducible refine KE_ltm ?_ (fun _ _ => ?_) | with_reducible refine KE_some ?_ | with_reducible refine KE_boe (fun _ _ => ?_) | with_reducible exact zb_Wo_length_12 (by assumption) | with_reducible exact zb_Wo_length_31 (by assumption) | with_reducible refine KE_ltv (fun _ => ?_) | with_reducible refine KPS_I ?_ ?_ | with_reducible refine KPS_A ?_ ?_ | with_reducible refine KPS_J ?_ | with_reducible refine KPS_L ?_ | with_reducible refine KPS_N ?_ | with_reducible refine KPS_S ?_ | with_reducible refine KPS_gJ ?_ | with_reducible refine KPS_gI ?_ | omega | (unfold pq; omega) | exact KPS_o (by assumption) (by assumption))
theorem zm_Wo_length {v0 : Nat} {v1 : Int32} (h : KPS u0 u) : KE u0 (hm_Wo_length N u v0 v1) := by
  unfold hm_Wo_length
  exact zb_Wo_length_0 h
theorem zb_Ma_truth_9 {G : Unit} {t0 : Int32} (h : KPS u0 u)  : KE u0 (hb_Ma_truth_9 N G u t0) := by
  unfold hb_Ma_truth_9
  repeat' (first | with_reducible assumption | with_reducible refine KE_br ?_ ?_ | with_reducible refine KE_bnd ?_ (fun _ _ _ => ?_) | with_reducible refine KE_ck ?_ | with_reducible refine KE_ltm ?_ (fun _ _ => ?_) | with_reducible refine KE_some ?_ | with_reducible refine KE_boe (fun _ _ => ?_) | with_reducible exact zm_Ma_atom (by assumption) | with_reducible refine KE_ltv (fun _ => ?_) | with_reducible refine KPS_I ?_ ?_ | with_reducible refine KPS_A ?_ ?_ | with_reducible refine KPS_J ?_ | with_reducible refine KPS_L ?_ | with_reducible refine KPS_N ?_ | with_reducible refine KPS_S ?_ | with_reducible refine KPS_gJ ?_ | with_reducible refine KPS_gI ?_ | omega | (unfold pq; omega) | exact KPS_o (by assumption) (by assumption))
theorem zb_Ma_truth_0 {G : Unit} {v0 : Int32} (h : KPS u0 u)  : KE u0 (hb_Ma_truth_0 N G u v0) := by
  unfold hb_Ma_truth_0
  repeat' (first | with_reducible assumption | with_reducible refine KE_br ?_ ?_ | with_reducible refine KE_bnd ?_ (fun _ _ _ => ?_) | with_reducible refine KE_ck ?_ | with_reducible refine KE_ltm ?_ (fun _ _ => ?_) | with_reducible refine KE_some ?_ | with_reducible refine KE_boe (fun _ _ => ?_) | with_reducible exact zb_Ma_truth_9 (by assumption) | with_reducible refine KE_ltv (fun _ => ?_) | with_reducible refine KPS_I ?_ ?_ | with_reducible refine KPS_A ?_ ?_ | with_reducible refine KPS_J ?_ | with_reducible refine KPS_L ?_ | with_reducible refine KPS_N ?_ | with_reducible refine KPS_S ?_ | with_reducible refine KPS_gJ ?_ | with_reducible refine KPS_gI ?_ | omega | (unfold pq; omega) | exact KPS_o (by assumption) (by assumption))
theorem zm_Ma_truth {v0 : Int32} (h : KPS u0 u) : KE u0 (hm_Ma_truth N u v0) := by
  unfold hm_Ma_truth
  exact zb_Ma_truth_0 h
theorem zb_Te_listLength_54 {G : (MS → Nat → Int64 → Int32 → Option (MS × Int32))} {t0 : Int32} (h : KPS u0 u) (hG0 : ∀ (u : MS) a0 a1 a2, KPS u0 u → KE u0 (G u a0 a1 a2)) : KE u0 (hb_Te_listLength_54 N G u t0) := by
  unfold hb_Te_listLength_54
  repeat' (first | with_reducible assumption | with_reducible refine KE_br ?_ ?_ | with_reducible refine KE_bnd ?_ (fun _ _ _ => ?_) | with_reducible refine KE_ck ?_ | with_reducible refine KE_ltm ?_ (fun _ _ => ?_) | with_reducible refine KE_some ?_ | with_reducible refine KE_boe (fun _ _ => ?_) | with_reducible exact hG0 _ _ _ _ (by assumption) | with_reducible refine KE_ltv (fun _ => ?_) | with_reducible refine KPS_I ?_ ?_ | with_reducible refine KPS_A ?_ ?_ | with_reducible refine KPS_J ?_ | with_reducible refine KPS_L ?_ | with_reducible refine KPS_N ?_ | with_reducible refine KPS_S ?_ | with_reducible refine KPS_gJ ?_ | with_reducible refine KPS_gI ?_ | omega | (unfold pq; omega) | exact KPS_o (by assumption) (by assumption))
theorem zb_Te_listLength_38 {G : (MS → Nat → Int64 → Int32 → Option (MS × Int32))} {v4 : Int64} {v6 : Int32} (h : KPS u0 u) (hG0 : ∀ (u : MS) a0 a1 a2, KPS u0 u → KE u0 (G u a0 a1 a2)) : KE u0 (hb_Te_listLength_38 N G u v4 v6) := by
  unfold hb_Te_listLength_38
  repeat' (first | with_reducible assumption | with_reducible refine KE_br ?_ ?_ | with_reducible refine KE_bnd ?_ (fun _ _ _ => ?_) | with_reducible refine KE_ck ?_ | with_reducible refine KE_ltm ?_ (fun _ _ => ?_) | with_reducible refine KE_some ?_ | with_reducible refine KE_boe (fun _ _ => ?_) | with_reducible exact zb_Te_listLength_54 (by assumption) hG0 | with_reducible exact zm_Te_tag (by assumption) | with_reducible exact hG0 _ _ _ _ (by assumption) | with_reducible refine KE_ltv (fun _ => ?_) | with_reducible refine KPS_I ?_ ?_ | with_reducible refine KPS_A ?_ ?_ | with_reducible refine KPS_J ?_ | with_reducible refine KPS_L ?_ | with_reducible refine KPS_N ?_ | with_reducible refine KPS_S ?_ | with_reducible refine KPS_gJ ?_ | with_reducible refine KPS_gI ?_ | omega | (unfold pq; omega) | exact KPS_o (by assumption) (by assumption))
theorem zb_Te_listLength_6 {G : (MS → Nat → Int64 → Int32 → Option (MS × Int32))} {v1 : Nat} {v4 : Int64} {v6 : Int32} (h : KPS u0 u) (hG0 : ∀ (u : MS) a0 a1 a2, KPS u0 u → KE u0 (G u a0 a1 a2)) : KE u0 (hb_Te_listLength_6 N G u v1 v4 v6) := by
  unfold hb_Te_listLength_6
  repeat' (first | with_reducible assumption | with_reducible refine KE_br ?_ ?_ | with_reducible refine KE_bnd ?_ (fun _ _ _ => ?_) | with_reducible refine KE_ck ?_ | with_reducible refine KE_ltm ?_ (fun _ _ => ?_) | with_reducible refine KE_some ?_ | with_reducible refine KE_boe (fun _ _ => ?_) | with_reducible exact zb_Te_listLength_38 (by assumption) hG0 | with_reducible exact zm_Te_tag (by assumption) | with_reducible exact hG0 _ _ _ _ (by assumption) | with_reducible refine KE_ltv (fun _ => ?_) | with_reducible refine KPS_I ?_ ?_ | with_reducible refine KPS_A ?_ ?_ | with_reducible refine KPS_J ?_ | with_reducible refine KPS_L ?_ | with_reducible refine KPS_N ?_ | with_reducible refine KPS_S ?_ | with_reducible refine KPS_gJ ?_ | with_reducible refine KPS_gI ?_ | omega | (unfold pq; omega) | exact KPS_o (by assumption) (by assumption))
theorem zb_Te_listLength_0 {G : (MS → Nat → Int64 → Int32 → Option (MS × Int32))} {v1 : Nat} {v2 : Int64} (h : KPS u0 u) (hG0 : ∀ (u : MS) a0 a1 a2, KPS u0 u → KE u0 (G u a0 a1 a2)) : KE u0 (hb_Te_listLength_0 N G u v1 v2) := by
  unfold hb_Te_listLength_0
  repeat' (first | with_reducible assumption | with_reducible refine KE_br ?_ ?_ | with_reducible refine KE_bnd ?_ (fun _ _ _ => ?_) | with_reducible refine KE_ck ?_ | with_reducible refine KE_ltm ?_ (fun _ _ => ?_) | with_reducible refine KE_some ?_ | with_reducible refine KE_boe (fun _ _ => ?_) | with_reducible exact hG0 _ _ _ _ (by assumption) | with_reducible refine KE_ltv (fun _ => ?_) | with_reducible refine KPS_I ?_ ?_ | with_reducible refine KPS_A ?_ ?_ | with_reducible refine KPS_J ?_ | with_reducible refine KPS_L ?_ | with_reducible refine KPS_N ?_ | with_reducible refine KPS_S ?_ | with_reducible refine KPS_gJ ?_ | with_reducible refine KPS_gI ?_ | omega | (unfold pq; omega) | exact KPS_o (by assumption) (by assumption))
theorem zg_Te_listLength (n : Nat) : (∀ (u : MS) a0 a1 a2, KPS u0 u → KE u0 ((hg_Te_listLength N n) u a0 a1 a2)) := by
  induction n with
  | zero => exact fun _ _ _ _ _ => KE_none
  | succ n ih => exact fun _ _ _ _ h => zb_Te_listLength_6 (N := N) h ih
theorem zm_Te_listLength {v1 : Nat} {v2 : Int64} (h : KPS u0 u) : KE u0 (hm_Te_listLength N u v1 v2) := by
  unfold hm_Te_listLength
  exact zb_Te_listLength_0 h (zg_Te_listLength N)
theorem zb_Wl_keepWatch_0 {G : Unit} {v1 : Int32} {v2 : Int32} (h : KPS u0 u)  : KE u0 (hb_Wl_keepWatch_0 N G u v1 v2) := by
  unfold hb_Wl_keepWatch_0
  repeat' (first | with_reducible assumption | with_reducible refine KE_br ?_ ?_ | with_reducible refine KE_bnd ?_ (fun _ _ _ => ?_) | with_reducible refine KE_ck ?_ | with_reducible refine KE_ltm ?_ (fun _ _ => ?_) | with_reducible refine KE_some ?_ | with_reducible refine KE_boe (fun _ _ => ?_) | with_reducible refine KE_ltv (fun _ => ?_) | with_reducible refine KPS_I ?_ ?_ | with_reducible refine KPS_A ?_ ?_ | with_reducible refine KPS_J ?_ | with_reducible refine KPS_L ?_ | with_reducible refine KPS_N ?_ | with_reducible refine KPS_S ?_ | with_reducible refine KPS_gJ ?_ | with_reducible refine KPS_gI ?_ | omega | (unfold pq; omega) | exact KPS_o (by assumption) (by assumption))
theorem zm_Wl_keepWatch {v1 : Int32} {v2 : Int32} (h : KPS u0 u) : KE u0 (hm_Wl_keepWatch N u v1 v2) := by
  unfold hm_Wl_keepWatch
  exact zb_Wl_keepWatch_0 h
theorem zb_Wl_removeWatch_46 {G : (MS → Int32 → Int32 → Int32 → Int32 → Option (MS × Unit))} {v1 : Int32} {v2 : Int32} {v3 : Int32} {v4 : Int32} (h : KPS u0 u) (hG0 : ∀ (u : MS) a0 a1 a2 a3, KPS u0 u → KE u0 (G u a0 a1 a2 a3)) : KE u0 (hb_Wl_removeWatch_46 N G u v1 v2 v3 v4) := by
  unfold hb_Wl_removeWatch_46
  repeat' (first | with_reducible assumption | with_reducible refine KE_br ?_ ?_ | with_reducible refine KE_bnd ?_ (fun _ _ _ => ?_) | with_reducible refine KE_ck ?_ | with_reducible refine KE_ltm ?_ (fun _ _ => ?_) | with_reducible refine KE_some ?_ | with_reducible refine KE_boe (fun _ _ => ?_) | with_reducible exact hG0 _ _ _ _ _ (by assumption) | with_reducible refine KE_ltv (fun _ => ?_) | with_reducible refine KPS_I ?_ ?_ | with_reducible refine KPS_A ?_ ?_ | with_reducible refine KPS_J ?_ | with_reducible refine KPS_L ?_ | with_reducible refine KPS_N ?_ | with_reducible refine KPS_S ?_ | with_reducible refine KPS_gJ ?_ | with_reducible refine KPS_gI ?_ | omega | (unfold pq; omega) | exact KPS_o (by assumption) (by assumption))
theorem zb_Wl_removeWatch_36 {G : (MS → Int32 → Int32 → Int32 → Int32 → Option (MS × Unit))} {v1 : Int32} {v2 : Int32} {v3 : Int32} {v4 : Int32} (h : KPS u0 u) (hG0 : ∀ (u : MS) a0 a1 a2 a3, KPS u0 u → KE u0 (G u a0 a1 a2 a3)) : KE u0 (hb_Wl_removeWatch_36 N G u v1 v2 v3 v4) := by
  unfold hb_Wl_removeWatch_36
  repeat' (first | with_reducible assumption | with_reducible refine KE_br ?_ ?_ | with_reducible refine KE_bnd ?_ (fun _ _ _ => ?_) | with_reducible refine KE_ck ?_ | with_reducible refine KE_ltm ?_ (fun _ _ => ?_) | with_reducible refine KE_some ?_ | with_reducible refine KE_boe (fun _ _ => ?_) | with_reducible exact zb_Wl_removeWatch_46 (by assumption) hG0 | with_reducible exact zm_Wl_keepWatch (by assumption) | with_reducible exact hG0 _ _ _ _ _ (by assumption) | with_reducible refine KE_ltv (fun _ => ?_) | with_reducible refine KPS_I ?_ ?_ | with_reducible refine KPS_A ?_ ?_ | with_reducible refine KPS_J ?_ | with_reducible refine KPS_L ?_ | with_reducible refine KPS_N ?_ | with_reducible refine KPS_S ?_ | with_reducible refine KPS_gJ ?_ | with_reducible refine KPS_gI ?_ | omega | (unfold pq; omega) | exact KPS_o (by assumption) (by assumption))
theorem zb_Wl_removeWatch_5 {G : (MS → Int32 → Int32 → Int32 → Int32 → Option (MS × Unit))} {v1 : Int32} {v2 : Int32} {v3 : Int32} {v4 : Int32} (h : KPS u0 u) (hG0 : ∀ (u : MS) a0 a1 a2 a3, KPS u0 u → KE u0 (G u a0 a1 a2 a3)) : KE u0 (hb_Wl_removeWatch_5 N G u v1 v2 v3 v4) := by
  unfold hb_Wl_removeWatch_5
  repeat' (first | with_reducible assumption | with_reducible refine KE_br ?_ ?_ | with_reducible refine KE_bnd ?_ (fun _ _ _ => ?_) | with_reducible refine KE_ck ?_ | with_reducible refine KE_ltm ?_ (fun _ _ => ?_) | with_reducible refine KE_some ?_ | with_reducible refine KE_boe (fun _ _ => ?_) | with_reducible exact zb_Wl_removeWatch_36 (by assumption) hG0 | with_reducible exact zb_Wl_removeWatch_46 (by assumption) hG0 | with_reducible exact hG0 _ _ _ _ _ (by assumption) | with_reducible refine KE_ltv (fun _ => ?_) | with_reducible refine KPS_I ?_ ?_ | with_reducible refine KPS_A ?_ ?_ | with_reducible refine KPS_J ?_ | with_reducible refine KPS_L ?_ | with_reducible refine KPS_N ?_ | with_reducible refine KPS_S ?_ | with_reducible refine KPS_gJ ?_ | with_reducible refine KPS_gI ?_ | omega | (unfold pq; omega) | exact KPS_o (by assumption) (by assumption))
theorem zb_Wl_removeWatch_0 {G : (MS → Int32 → Int32 → Int32 → Int32 → Option (MS × Unit))} {v1 : Int32} {v2 : Int32} (h : KPS u0 u) (hG0 : ∀ (u : MS) a0 a1 a2 a3, KPS u0 u → KE u0 (G u a0 a1 a2 a3)) : KE u0 (hb_Wl_removeWatch_0 N G u v1 v2) := by
  unfold hb_Wl_removeWatch_0
  repeat' (first | with_reducible assumption | with_reducible refine KE_br ?_ ?_ | with_reducible refine KE_bnd ?_ (fun _ _ _ => ?_) | with_reducible refine KE_ck ?_ | with_reducible refine KE_ltm ?_ (fun _ _ => ?_) | with_reducible refine KE_some ?_ | with_reducible refine KE_boe (fun _ _ => ?_) | with_reducible exact hG0 _ _ _ _ _ (by assumption) | with_reducible refine KE_ltv (fun _ => ?_) | with_reducible refine KPS_I ?_ ?_ | with_reducible refine KPS_A ?_ ?_ | with_reducible refine KPS_J ?_ | with_reducible refine KPS_L ?_ | with_reducible refine KPS_N ?_ | with_reducible refine KPS_S ?_ | with_reducible refine KPS_gJ ?_ | with_reducible refine KPS_gI ?_ | omega | (unfold pq; omega) | exact KPS_o (by assumption) (by assumption))
theorem zg_Wl_removeWatch (n : Nat) : (∀ (u : MS) a0 a1 a2 a3, KPS u0 u → KE u0 ((hg_Wl_removeWatch N n) u a0 a1 a2 a3)) := by
  induction n with
  | zero => exact fun _ _ _ _ _ _ => KE_none
  | succ n ih => exact fun _ _ _ _ _ h => zb_Wl_removeWatch_5 (N := N) h ih
theorem zm_Wl_removeWatch {v1 : Int32} {v2 : Int32} (h : KPS u0 u) : KE u0 (hm_Wl_removeWatch N u v1 v2) := by
  unfold hm_Wl_removeWatch
  exact zb_Wl_removeWatch_0 h (zg_Wl_removeWatch N)
theorem zb_Pr_comes_29 {G : Unit} (h : KPS u0 u)  : KE u0 (hb_Pr_comes_29 N G u) := by
  unfold hb_Pr_comes_29
  repeat' (first | with_reducible assumption | with_reducible refine KE_br ?_ ?_ | with_reducible refine KE_bnd ?_ (fun _ _ _ => ?_) | with_reducible refine KE_ck ?_ | with_reducible refine KE_ltm ?_ (fun _ _ => ?_) | with_reducible refine KE_some ?_ | with_reducible refine KE_boe (fun _ _ => ?_) | with_reducible refine KE_ltv (fun _ => ?_) | with_reducible refine KPS_I ?_ ?_ | with_reducible refine KPS_A ?_ ?_ | with_reducible refine KPS_J ?_ | with_reducible refine KPS_L ?_ | with_reducible refine KPS_N ?_ | with_reducible refine KPS_S ?_ | with_reducible refine KPS_gJ ?_ | with_reducible refine KPS_gI ?_ | omega | (unfold pq; omega) | exact KPS_o (by assumption) (by assumption))
theorem zb_Pr_comes_0 {G : Unit} {v0 : Nat} {v1 : Int64} (h : KPS u0 u)  : KE u0 (hb_Pr_comes_0 N G u v0 v1) := by
  unfold hb_Pr_comes_0
  repeat' (first | with_reducible assumption | with_reducible refine KE_br ?_ ?_ | with_reducible refine KE_bnd ?_ (fun _ _ _ => ?_) | with_reducible refine KE_ck ?_ | with_reducible refine KE_ltm ?_ (fun _ _ => ?_) | with_reducible refine KE_some ?_ | with_reducible refine KE_boe (fun _ _ => ?_) | with_reducible exact zb_Pr_comes_29 (by assumption) | with_reducible refine KE_ltv (fun _ => ?_) | with_reducible refine KPS_I ?_ ?_ | with_reducible refine KPS_A ?_ ?_ | with_reducible refine KPS_J ?_ | with_reducible refine KPS_L ?_ | with_reducible refine KPS_N ?_ | with_reducible refine KPS_S ?_ | with_reducible refine KPS_gJ ?_ | with_reducible refine KPS_gI ?_ | omega | (unfold pq; omega) | exact KPS_o (by assumption) (by assumption))
theorem zm_Pr_comes {v0 : Nat} {v1 : Int64} (h : KPS u0 u) : KE u0 (hm_Pr_comes N u v0 v1) := by
  unfold hm_Pr_comes
  exact zb_Pr_comes_0 h
theorem zb_Pr_seekLink_2 {G : (MS → Nat → Int32 → Int32 → Option (MS × Int32))} {v0 : Nat} {v1 : Int32} {v2 : Int32} (h : KPS u0 u) (hG0 : ∀ (u : MS) a0 a1 a2, KPS u0 u → KE u0 (G u a0 a1 a2)) : KE u0 (hb_Pr_seekLink_2 N G u v0 v1 v2) := by
  unfold hb_Pr_seekLink_2
  repeat' (first | with_reducible assumption | with_reducible refine KE_br ?_ ?_ | with_reducible refine KE_bnd ?_ (fun _ _ _ => ?_) | with_reducible refine KE_ck ?_ | with_reducible refine KE_ltm ?_ (fun _ _ => ?_) | with_reducible refine KE_some ?_ | with_reducible refine KE_boe (fun _ _ => ?_) | with_reducible exact hG0 _ _ _ _ (by assumption) | with_reducible refine KE_ltv (fun _ => ?_) | with_reducible refine KPS_I ?_ ?_ | with_reducible refine KPS_A ?_ ?_ | with_reducible refine KPS_J ?_ | with_reducible refine KPS_L ?_ | with_reducible refine KPS_N ?_ | with_reducible refine KPS_S ?_ | with_reducible refine KPS_gJ ?_ | with_reducible refine KPS_gI ?_ | omega | (unfold pq; omega) | exact KPS_o (by assumption) (by assumption))
theorem zb_Pr_seekLink_0 {G : (MS → Nat → Int32 → Int32 → Option (MS × Int32))} {v0 : Nat} {v1 : Int32} (h : KPS u0 u) (hG0 : ∀ (u : MS) a0 a1 a2, KPS u0 u → KE u0 (G u a0 a1 a2)) : KE u0 (hb_Pr_seekLink_0 N G u v0 v1) := by
  unfold hb_Pr_seekLink_0
  repeat' (first | with_reducible assumption | with_reducible refine KE_br ?_ ?_ | with_reducible refine KE_bnd ?_ (fun _ _ _ => ?_) | with_reducible refine KE_ck ?_ | with_reducible refine KE_ltm ?_ (fun _ _ => ?_) | with_reducible refine KE_some ?_ | with_reducible refine KE_boe (fun _ _ => ?_) | with_reducible exact hG0 _ _ _ _ (by assumption) | with_reducible refine KE_ltv (fun _ => ?_) | with_reducible refine KPS_I ?_ ?_ | with_reducible refine KPS_A ?_ ?_ | with_reducible refine KPS_J ?_ | with_reducible refine KPS_L ?_ | with_reducible refine KPS_N ?_ | with_reducible refine KPS_S ?_ | with_reducible refine KPS_gJ ?_ | with_reducible refine KPS_gI ?_ | omega | (unfold pq; omega) | exact KPS_o (by assumption) (by assumption))
theorem zg_Pr_seekLink (n : Nat) : (∀ (u : MS) a0 a1 a2, KPS u0 u → KE u0 ((hg_Pr_seekLink N n) u a0 a1 a2)) := by
  induction n with
  | zero => exact fun _ _ _ _ _ => KE_none
  | succ n ih => exact fun _ _ _ _ h => zb_Pr_seekLink_2 (N := N) h ih
theorem zm_Pr_seekLink {v0 : Nat} {v1 : Int32} (h : KPS u0 u) : KE u0 (hm_Pr_seekLink N u v0 v1) := by
  unfold hm_Pr_seekLink
  exact zb_Pr_seekLink_0 h (zg_Pr_seekLink N)
theorem zb_Pr_addLink_29 {G : Unit} (h : KPS u0 u)  : KE u0 (hb_Pr_addLink_29 N G u) := by
  unfold hb_Pr_addLink_29
  repeat' (first | with_reducible assumption | with_reducible refine KE_br ?_ ?_ | with_reducible refine KE_bnd ?_ (fun _ _ _ => ?_) | with_reducible refine KE_ck ?_ | with_reducible refine KE_ltm ?_ (fun _ _ => ?_) | with_reducible refine KE_some ?_ | with_reducible refine KE_boe (fun _ _ => ?_) | with_reducible refine KE_ltv (fun _ => ?_) | with_reducible refine KPS_I ?_ ?_ | with_reducible refine KPS_A ?_ ?_ | with_reducible refine KPS_J ?_ | with_reducible refine KPS_L ?_ | with_reducible refine KPS_N ?_ | with_reducible refine KPS_S ?_ | with_reducible refine KPS_gJ ?_ | with_reducible refine KPS_gI ?_ | omega | (unfold pq; omega) | exact KPS_o (by assumption) (by assumption))
theorem zb_Pr_addLink_0 {G : Unit} {v0 : Nat} {v1 : Int32} (h : KPS u0 u)  : KE u0 (hb_Pr_addLink_0 N G u v0 v1) := by
  unfold hb_Pr_addLink_0
  repeat' (first | with_reducible assumption | with_reducible refine KE_br ?_ ?_ | with_reducible refine KE_bnd ?_ (fun _ _ _ => ?_) | with_reducible refine KE_ck ?_ | with_reducible refine KE_ltm ?_ (fun _ _ => ?_) | with_reducible refine KE_some ?_ | with_reducible refine KE_boe (fun _ _ => ?_) | with_reducible exact zb_Pr_addLink_29 (by assumption) | with_reducible refine KE_ltv (fun _ => ?_) | with_reducible refine KPS_I ?_ ?_ | with_reducible refine KPS_A ?_ ?_ | with_reducible refine KPS_J ?_ | with_reducible refine KPS_L ?_ | with_reducible refine KPS_N ?_ | with_reducible refine KPS_S ?_ | with_reducible refine KPS_gJ ?_ | with_reducible refine KPS_gI ?_ | omega | (unfold pq; omega) | exact KPS_o (by assumption) (by assumption))
theorem zm_Pr_addLink {v0 : Nat} {v1 : Int32} (h : KPS u0 u) : KE u0 (hm_Pr_addLink N u v0 v1) := by
  unfold hm_Pr_addLink
  exact zb_Pr_addLink_0 h
theorem zb_Wl_addWatch_50 {G : Unit} (h : KPS u0 u)  : KE u0 (hb_Wl_addWatch_50 N G u) := by
  unfold hb_Wl_addWatch_50
  repeat' (first | with_reducible assumption | with_reducible refine KE_br ?_ ?_ | with_reducible refine KE_bnd ?_ (fun _ _ _ => ?_) | with_reducible refine KE_ck ?_ | with_reducible refine KE_ltm ?_ (fun _ _ => ?_) | with_reducible refine KE_some ?_ | with_reducible refine KE_boe (fun _ _ => ?_) | with_reducible refine KE_ltv (fun _ => ?_) | with_reducible refine KPS_I ?_ ?_ | with_reducible refine KPS_A ?_ ?_ | with_reducible refine KPS_J ?_ | with_reducible refine KPS_L ?_ | with_reducible refine KPS_N ?_ | with_reducible refine KPS_S ?_ | with_reducible refine KPS_gJ ?_ | with_reducible refine KPS_gI ?_ | omega | (unfold pq; omega) | exact KPS_o (by assumption) (by assumption))
theorem zb_Wl_addWatch_0 {G : Unit} {v1 : Int32} {v2 : Int32} {v3 : Int32} (h : KPS u0 u)  : KE u0 (hb_Wl_addWatch_0 N G u v1 v2 v3) := by
  unfold hb_Wl_addWatch_0
  repeat' (first | with_reducible assumption | with_reducible refine KE_br ?_ ?_ | with_reducible refine KE_bnd ?_ (fun _ _ _ => ?_) | with_reducible refine KE_ck ?_ | with_reducible refine KE_ltm ?_ (fun _ _ => ?_) | with_reducible refine KE_some ?_ | with_reducible refine KE_boe (fun _ _ => ?_) | with_reducible exact zb_Wl_addWatch_50 (by assumption) | with_reducible refine KE_ltv (fun _ => ?_) | with_reducible refine KPS_I ?_ ?_ | with_reducible refine KPS_A ?_ ?_ | with_reducible refine KPS_J ?_ | with_reducible refine KPS_L ?_ | with_reducible refine KPS_N ?_ | with_reducible refine KPS_S ?_ | with_reducible refine KPS_gJ ?_ | with_reducible refine KPS_gI ?_ | omega | (unfold pq; omega) | exact KPS_o (by assumption) (by assumption))
theorem zm_Wl_addWatch {v1 : Int32} {v2 : Int32} {v3 : Int32} (h : KPS u0 u) : KE u0 (hm_Wl_addWatch N u v1 v2 v3) := by
  unfold hm_Wl_addWatch
  exact zb_Wl_addWatch_0 h
theorem zb_Ma_endList_20 {G : Unit} {p : Nat} {v1 : Int32} {v2 : Int32} (h : KPS u0 u)  : KE u0 (hb_Ma_endList_20 N G u p v1 v2) := by
  unfold hb_Ma_endList_20
  repeat' (first | with_reducible assumption | with_reducible refine KE_br ?_ ?_ | with_reducible refine KE_bnd ?_ (fun _ _ _ => ?_) | with_reducible refine KE_ck ?_ | with_reducible refine KE_ltm ?_ (fun _ _ => ?_) | with_reducible refine KE_some ?_ | with_reducible refine KE_boe (fun _ _ => ?_) | with_reducible refine KE_ltv (fun _ => ?_) | with_reducible refine KPS_I ?_ ?_ | with_reducible refine KPS_A ?_ ?_ | with_reducible refine KPS_J ?_ | with_reducible refine KPS_L ?_ | with_reducible refine KPS_N ?_ | with_reducible refine KPS_S ?_ | with_reducible refine KPS_gJ ?_ | with_reducible refine KPS_gI ?_ | omega | (unfold pq; omega) | exact KPS_o (by assumption) (by assumption))
theorem zb_Ma_endList_0 {G : Unit} {p : Nat} {v1 : Int32} {v2 : Int32} {v3 : Int64} (h : KPS u0 u)  : KE u0 (hb_Ma_endList_0 N G u p v1 v2 v3) := by
  unfold hb_Ma_endList_0
  repeat' (first | with_reducible assumption | with_reducible refine KE_br ?_ ?_ | with_reducible refine KE_bnd ?_ (fun _ _ _ => ?_) | with_reducible refine KE_ck ?_ | with_reducible refine KE_ltm ?_ (fun _ _ => ?_) | with_reducible refine KE_some ?_ | with_reducible refine KE_boe (fun _ _ => ?_) | with_reducible exact zb_Ma_endList_20 (by assumption) | with_reducible refine KE_ltv (fun _ => ?_) | with_reducible refine KPS_I ?_ ?_ | with_reducible refine KPS_A ?_ ?_ | with_reducible refine KPS_J ?_ | with_reducible refine KPS_L ?_ | with_reducible refine KPS_N ?_ | with_reducible refine KPS_S ?_ | with_reducible refine KPS_gJ ?_ | with_reducible refine KPS_gI ?_ | omega | (unfold pq; omega) | exact KPS_o (by assumption) (by assumption))
theorem zm_Ma_endList {p : Nat} {v1 : Int32} {v2 : Int32} {v3 : Int64} (h : KPS u0 u) : KE u0 (hm_Ma_endList N u p v1 v2 v3) := by
  unfold hm_Ma_endList
  exact zb_Ma_endList_0 h
theorem zb_Fr_termOf_7 {G : (MS → Nat → Int32 → Int32 → Option (MS × Int64))} {v0 : Nat} {v1 : Int32} {v2 : Int32} (h : KPS u0 u) (hG0 : ∀ (u : MS) a0 a1 a2, KPS u0 u → KE u0 (G u a0 a1 a2)) : KE u0 (hb_Fr_termOf_7 N G u v0 v1 v2) := by
  unfold hb_Fr_termOf_7
  repeat' (first | with_reducible assumption | with_reducible refine KE_br ?_ ?_ | with_reducible refine KE_bnd ?_ (fun _ _ _ => ?_) | with_reducible refine KE_ck ?_ | with_reducible refine KE_ltm ?_ (fun _ _ => ?_) | with_reducible refine KE_some ?_ | with_reducible refine KE_boe (fun _ _ => ?_) | with_reducible exact hG0 _ _ _ _ (by assumption) | with_reducible refine KE_ltv (fun _ => ?_) | with_reducible refine KPS_I ?_ ?_ | with_reducible refine KPS_A ?_ ?_ | with_reducible refine KPS_J ?_ | with_reducible refine KPS_L ?_ | with_reducible refine KPS_N ?_ | with_reducible refine KPS_S ?_ | with_reducible refine KPS_gJ ?_ | with_reducible refine KPS_gI ?_ | omega | (unfold pq; omega) | exact KPS_o (by assumption) (by assumption))
theorem zb_Fr_termOf_0 {G : (MS → Nat → Int32 → Int32 → Option (MS × Int64))} {v0 : Nat} {v1 : Int32} (h : KPS u0 u) (hG0 : ∀ (u : MS) a0 a1 a2, KPS u0 u → KE u0 (G u a0 a1 a2)) : KE u0 (hb_Fr_termOf_0 N G u v0 v1) := by
  unfold hb_Fr_termOf_0
  repeat' (first | with_reducible assumption | with_reducible refine KE_br ?_ ?_ | with_reducible refine KE_bnd ?_ (fun _ _ _ => ?_) | with_reducible refine KE_ck ?_ | with_reducible refine KE_ltm ?_ (fun _ _ => ?_) | with_reducible refine KE_some ?_ | with_reducible refine KE_boe (fun _ _ => ?_) | with_reducible exact hG0 _ _ _ _ (by assumption) | with_reducible refine KE_ltv (fun _ => ?_) | with_reducible refine KPS_I ?_ ?_ | with_reducible refine KPS_A ?_ ?_ | with_reducible refine KPS_J ?_ | with_reducible refine KPS_L ?_ | with_reducible refine KPS_N ?_ | with_reducible refine KPS_S ?_ | with_reducible refine KPS_gJ ?_ | with_reducible refine KPS_gI ?_ | omega | (unfold pq; omega) | exact KPS_o (by assumption) (by assumption))
theorem zg_Fr_termOf (n : Nat) : (∀ (u : MS) a0 a1 a2, KPS u0 u → KE u0 ((hg_Fr_termOf N n) u a0 a1 a2)) := by
  induction n with
  | zero => exact fun _ _ _ _ _ => KE_none
  | succ n ih => exact fun _ _ _ _ h => zb_Fr_termOf_7 (N := N) h ih
theorem zm_Fr_termOf {v0 : Nat} {v1 : Int32} (h : KPS u0 u) : KE u0 (hm_Fr_termOf N u v0 v1) := by
  unfold hm_Fr_termOf
  exact zb_Fr_termOf_0 h (zg_Fr_termOf N)
theorem zb_Ma_sizes_5 {G : (MS → Nat → Int32 → Int32 → Int32 → Option (MS × Int32))} {p : Nat} {v1 : Int32} {v3 : Int32} {v4 : Int32} (h : KPS u0 u) (hG0 : ∀ (u : MS) a0 a1 a2 a3, KPS u0 u → KE u0 (G u a0 a1 a2 a3)) : KE u0 (hb_Ma_sizes_5 N G u p v1 v3 v4) := by
  unfold hb_Ma_sizes_5
  repeat' (first | with_reducible assumption | with_reducible refine KE_br ?_ ?_ | with_reducible refine KE_bnd ?_ (fun _ _ _ => ?_) | with_reducible refine KE_ck ?_ | with_reducible refine KE_ltm ?_ (fun _ _ => ?_) | with_reducible refine KE_some ?_ | with_reducible refine KE_boe (fun _ _ => ?_) | with_reducible exact zm_Fr_below (by assumption) | with_reducible exact zm_Te_size (by assumption) | with_reducible exact hG0 _ _ _ _ _ (by assumption) | with_reducible refine KE_ltv (fun _ => ?_) | with_reducible refine KPS_I ?_ ?_ | with_reducible refine KPS_A ?_ ?_ | with_reducible refine KPS_J ?_ | with_reducible refine KPS_L ?_ | with_reducible refine KPS_N ?_ | with_reducible refine KPS_S ?_ | with_reducible refine KPS_gJ ?_ | with_reducible refine KPS_gI ?_ | omega | (unfold pq; omega) | exact KPS_o (by assumption) (by assumption))
theorem zb_Ma_sizes_0 {G : (MS → Nat → Int32 → Int32 → Int32 → Option (MS × Int32))} {p : Nat} {v1 : Int32} {v2 : Int32} (h : KPS u0 u) (hG0 : ∀ (u : MS) a0 a1 a2 a3, KPS u0 u → KE u0 (G u a0 a1 a2 a3)) : KE u0 (hb_Ma_sizes_0 N G u p v1 v2) := by
  unfold hb_Ma_sizes_0
  repeat' (first | with_reducible assumption | with_reducible refine KE_br ?_ ?_ | with_reducible refine KE_bnd ?_ (fun _ _ _ => ?_) | with_reducible refine KE_ck ?_ | with_reducible refine KE_ltm ?_ (fun _ _ => ?_) | with_reducible refine KE_some ?_ | with_reducible refine KE_boe (fun _ _ => ?_) | with_reducible exact hG0 _ _ _ _ _ (by assumption) | with_reducible refine KE_ltv (fun _ => ?_) | with_reducible refine KPS_I ?_ ?_ | with_reducible refine KPS_A ?_ ?_ | with_reducible refine KPS_J ?_ | with_reducible refine KPS_L ?_ | with_reducible refine KPS_N ?_ | with_reducible refine KPS_S ?_ | with_reducible refine KPS_gJ ?_ | with_reducible refine KPS_gI ?_ | omega | (unfold pq; omega) | exact KPS_o (by assumption) (by assumption))
theorem zg_Ma_sizes (n : Nat) : (∀ (u : MS) a0 a1 a2 a3, KPS u0 u → KE u0 ((hg_Ma_sizes N n) u a0 a1 a2 a3)) := by
  induction n with
  | zero => exact fun _ _ _ _ _ _ => KE_none
  | succ n ih => exact fun _ _ _ _ _ h => zb_Ma_sizes_5 (N := N) h ih
theorem zm_Ma_sizes {p : Nat} {v1 : Int32} {v2 : Int32} (h : KPS u0 u) : KE u0 (hm_Ma_sizes N u p v1 v2) := by
  unfold hm_Ma_sizes
  exact zb_Ma_sizes_0 h (zg_Ma_sizes N)
theorem zb_Wo_order_94 {G : (MS → Nat → Int32 → Int32 → Int32 → Int32 → Int32 → Option (MS × Int32))} {v3 : Int32} {v4 : Int32} (h : KPS u0 u) (hG0 : ∀ (u : MS) a0 a1 a2 a3 a4 a5, KPS u0 u → KE u0 (G u a0 a1 a2 a3 a4 a5)) : KE u0 (hb_Wo_order_94 N G u v3 v4) := by
  unfold hb_Wo_order_94
  repeat' (first | with_reducible assumption | with_reducible refine KE_br ?_ ?_ | with_reducible refine KE_bnd ?_ (fun _ _ _ => ?_) | with_reducible refine KE_ck ?_ | with_reducible refine KE_ltm ?_ (fun _ _ => ?_) | with_reducible refine KE_some ?_ | with_reducible refine KE_boe (fun _ _ => ?_) | with_reducible exact hG0 _ _ _ _ _ _ _ (by assumption) | with_reducible refine KE_ltv (fun _ => ?_) | with_reducible refine KPS_I ?_ ?_ | with_reducible refine KPS_A ?_ ?_ | with_reducible refine KPS_J ?_ | with_reducible refine KPS_L ?_ | with_reducible refine KPS_N ?_ | with_reducible refine KPS_S ?_ | with_reducible refine KPS_gJ ?_ | with_reducible refine KPS_gI ?_ | omega | (unfold pq; omega) | exact KPS_o (by assumption) (by assumption))
theorem zb_Wo_order_36 {G : (MS → Nat → Int32 → Int32 → Int32 → Int32 → Int32 → Option (MS × Int32))} {v0 : Nat} {v1 : Int32} {v2 : Int32} {v3 : Int32} {v4 : Int32} {v5 : Int32} (h : KPS u0 u) (hG0 : ∀ (u : MS) a0 a1 a2 a3 a4 a5, KPS u0 u → KE u0 (G u a0 a1 a2 a3 a4 a5)) : KE u0 (hb_Wo_order_36 N G u v0 v1 v2 v3 v4 v5) := by
  unfold hb_Wo_order_36
  repeat' (first | with_reducible assumption | with_reducible refine KE_br ?_ ?_ | with_reducible refine KE_bnd ?_ (fun _ _ _ => ?_) | with_reducible refine KE_ck ?_ | with_reducible refine KE_ltm ?_ (fun _ _ => ?_) | with_reducible refine KE_some ?_ | with_reducible refine KE_boe (fun _ _ => ?_) | with_reducible exact zb_Wo_order_94 (by assumption) hG0 | with_reducible exact hG0 _ _ _ _ _ _ _ (by assumption) | with_reducible refine KE_ltv (fun _ => ?_) | with_reducible refine KPS_I ?_ ?_ | with_reducible refine KPS_A ?_ ?_ | with_reducible refine KPS_J ?_ | with_reducible refine KPS_L ?_ | with_reducible refine KPS_N ?_ | with_reducible refine KPS_S ?_ | with_reducible refine KPS_gJ ?_ | with_reducible refine KPS_gI ?_ | omega | (unfold pq; omega) | exact KPS_o (by assumption) (by assumption))
theorem zb_Wo_order_0 {G : (MS → Nat → Int32 → Int32 → Int32 → Int32 → Int32 → Option (MS × Int32))} {v0 : Nat} {v1 : Int32} {v2 : Int32} (h : KPS u0 u) (hG0 : ∀ (u : MS) a0 a1 a2 a3 a4 a5, KPS u0 u → KE u0 (G u a0 a1 a2 a3 a4 a5)) : KE u0 (hb_Wo_order_0 N G u v0 v1 v2) := by
  unfold hb_Wo_order_0
  repeat' (first | with_reducible assumption | with_reducible refine KE_br ?_ ?_ | with_reducible refine KE_bnd ?_ (fun _ _ _ => ?_) | with_reducible refine KE_ck ?_ | with_reducible refine KE_ltm ?_ (fun _ _ => ?_) | with_reducible refine KE_some ?_ | with_reducible refine KE_boe (fun _ _ => ?_) | with_reducible exact hG0 _ _ _ _ _ _ _ (by assumption) | with_reducible refine KE_ltv (fun _ => ?_) | with_reducible refine KPS_I ?_ ?_ | with_reducible refine KPS_A ?_ ?_ | with_reducible refine KPS_J ?_ | with_reducible refine KPS_L ?_ | with_reducible refine KPS_N ?_ | with_reducible refine KPS_S ?_ | with_reducible refine KPS_gJ ?_ | with_reducible refine KPS_gI ?_ | omega | (unfold pq; omega) | exact KPS_o (by assumption) (by assumption))
theorem zg_Wo_order (n : Nat) : (∀ (u : MS) a0 a1 a2 a3 a4 a5, KPS u0 u → KE u0 ((hg_Wo_order N n) u a0 a1 a2 a3 a4 a5)) := by
  induction n with
  | zero => exact fun _ _ _ _ _ _ _ _ => KE_none
  | succ n ih => exact fun _ _ _ _ _ _ _ h => zb_Wo_order_36 (N := N) h ih
theorem zm_Wo_order {v0 : Nat} {v1 : Int32} {v2 : Int32} (h : KPS u0 u) : KE u0 (hm_Wo_order N u v0 v1 v2) := by
  unfold hm_Wo_order
  exact zb_Wo_order_0 h (zg_Wo_order N)
theorem zb_Te_partsOf_28 {G : Unit} {t0 : Int32} (h : KPS u0 u)  : KE u0 (hb_Te_partsOf_28 N G u t0) := by
  unfold hb_Te_partsOf_28
  repeat' (first | with_reducible assumption | with_reducible refine KE_br ?_ ?_ | with_reducible refine KE_bnd ?_ (fun _ _ _ => ?_) | with_reducible refine KE_ck ?_ | with_reducible refine KE_ltm ?_ (fun _ _ => ?_) | with_reducible refine KE_some ?_ | with_reducible refine KE_boe (fun _ _ => ?_) | with_reducible refine KE_ltv (fun _ => ?_) | with_reducible refine KPS_I ?_ ?_ | with_reducible refine KPS_A ?_ ?_ | with_reducible refine KPS_J ?_ | with_reducible refine KPS_L ?_ | with_reducible refine KPS_N ?_ | with_reducible refine KPS_S ?_ | with_reducible refine KPS_gJ ?_ | with_reducible refine KPS_gI ?_ | omega | (unfold pq; omega) | exact KPS_o (by assumption) (by assumption))
theorem zb_Te_partsOf_0 {G : Unit} {v0 : Int64} {v2 : Int32} (h : KPS u0 u)  : KE u0 (hb_Te_partsOf_0 N G u v0 v2) := by
  unfold hb_Te_partsOf_0
  repeat' (first | with_reducible assumption | with_reducible refine KE_br ?_ ?_ | with_reducible refine KE_bnd ?_ (fun _ _ _ => ?_) | with_reducible refine KE_ck ?_ | with_reducible refine KE_ltm ?_ (fun _ _ => ?_) | with_reducible refine KE_some ?_ | with_reducible refine KE_boe (fun _ _ => ?_) | with_reducible exact zb_Te_partsOf_28 (by assumption) | with_reducible exact zm_Te_tag (by assumption) | with_reducible refine KE_ltv (fun _ => ?_) | with_reducible refine KPS_I ?_ ?_ | with_reducible refine KPS_A ?_ ?_ | with_reducible refine KPS_J ?_ | with_reducible refine KPS_L ?_ | with_reducible refine KPS_N ?_ | with_reducible refine KPS_S ?_ | with_reducible refine KPS_gJ ?_ | with_reducible refine KPS_gI ?_ | omega | (unfold pq; omega) | exact KPS_o (by assumption) (by assumption))
theorem zm_Te_partsOf {v0 : Int64} {v2 : Int32} (h : KPS u0 u) : KE u0 (hm_Te_partsOf N u v0 v2) := by
  unfold hm_Te_partsOf
  exact zb_Te_partsOf_0 h
theorem zb_Ma_holds_119 {G : Unit} {t0 : Int32} (h : KPS u0 u)  : KE u0 (hb_Ma_holds_119 N G u t0) := by
  unfold hb_Ma_holds_119
  repeat' (first | with_reducible assumption | with_reducible refine KE_br ?_ ?_ | with_reducible refine KE_bnd ?_ (fun _ _ _ => ?_) | with_reducible refine KE_ck ?_ | with_reducible refine KE_ltm ?_ (fun _ _ => ?_) | with_reducible refine KE_some ?_ | with_reducible refine KE_boe (fun _ _ => ?_) | with_reducible refine KE_ltv (fun _ => ?_) | with_reducible refine KPS_I ?_ ?_ | with_reducible refine KPS_A ?_ ?_ | with_reducible refine KPS_J ?_ | with_reducible refine KPS_L ?_ | with_reducible refine KPS_N ?_ | with_reducible refine KPS_S ?_ | with_reducible refine KPS_gJ ?_ | with_reducible refine KPS_gI ?_ | omega | (unfold pq; omega) | exact KPS_o (by assumption) (by assumption))
theorem zb_Ma_holds_109 {G : Unit} {t0 : Int32} (h : KPS u0 u)  : KE u0 (hb_Ma_holds_109 N G u t0) := by
  unfold hb_Ma_holds_109
  repeat' (first | with_reducible assumption | with_reducible refine KE_br ?_ ?_ | with_reducible refine KE_bnd ?_ (fun _ _ _ => ?_) | with_reducible refine KE_ck ?_ | with_reducible refine KE_ltm ?_ (fun _ _ => ?_) | with_reducible refine KE_some ?_ | with_reducible refine KE_boe (fun _ _ => ?_) | with_reducible refine KE_ltv (fun _ => ?_) | with_reducible refine KPS_I ?_ ?_ | with_reducible refine KPS_A ?_ ?_ | with_reducible refine KPS_J ?_ | with_reducible refine KPS_L ?_ | with_reducible refine KPS_N ?_ | with_reducible refine KPS_S ?_ | with_reducible refine KPS_gJ ?_ | with_reducible refine KPS_gI ?_ | omega | (unfold pq; omega) | exact KPS_o (by assumption) (by assumption))
theorem zb_Ma_holds_99 {G : Unit} {t0 : Int32} (h : KPS u0 u)  : KE u0 (hb_Ma_holds_99 N G u t0) := by
  unfold hb_Ma_holds_99
  repeat' (first | with_reducible assumption | with_reducible refine KE_br ?_ ?_ | with_reducible refine KE_bnd ?_ (fun _ _ _ => ?_) | with_reducible refine KE_ck ?_ | with_reducible refine KE_ltm ?_ (fun _ _ => ?_) | with_reducible refine KE_some ?_ | with_reducible refine KE_boe (fun _ _ => ?_) | with_reducible refine KE_ltv (fun _ => ?_) | with_reducible refine KPS_I ?_ ?_ | with_reducible refine KPS_A ?_ ?_ | with_reducible refine KPS_J ?_ | with_reducible refine KPS_L ?_ | with_reducible refine KPS_N ?_ | with_reducible refine KPS_S ?_ | with_reducible refine KPS_gJ ?_ | with_reducible refine KPS_gI ?_ | omega | (unfold pq; omega) | exact KPS_o (by assumption) (by assumption))
theorem zb_Ma_holds_89 {G : Unit} {t0 : Int32} (h : KPS u0 u)  : KE u0 (hb_Ma_holds_89 N G u t0) := by
  unfold hb_Ma_holds_89
  repeat' (first | with_reducible assumption | with_reducible refine KE_br ?_ ?_ | with_reducible refine KE_bnd ?_ (fun _ _ _ => ?_) | with_reducible refine KE_ck ?_ | with_reducible refine KE_ltm ?_ (fun _ _ => ?_) | with_reducible refine KE_some ?_ | with_reducible refine KE_boe (fun _ _ => ?_) | with_reducible refine KE_ltv (fun _ => ?_) | with_reducible refine KPS_I ?_ ?_ | with_reducible refine KPS_A ?_ ?_ | with_reducible refine KPS_J ?_ | with_reducible refine KPS_L ?_ | with_reducible refine KPS_N ?_ | with_reducible refine KPS_S ?_ | with_reducible refine KPS_gJ ?_ | with_reducible refine KPS_gI ?_ | omega | (unfold pq; omega) | exact KPS_o (by assumption) (by assumption))
theorem zb_Ma_holds_79 {G : Unit} {t0 : Int32} (h : KPS u0 u)  : KE u0 (hb_Ma_holds_79 N G u t0) := by
  unfold hb_Ma_holds_79
  repeat' (first | with_reducible assumption | with_reducible refine KE_br ?_ ?_ | with_reducible refine KE_bnd ?_ (fun _ _ _ => ?_) | with_reducible refine KE_ck ?_ | with_reducible refine KE_ltm ?_ (fun _ _ => ?_) | with_reducible refine KE_some ?_ | with_reducible refine KE_boe (fun _ _ => ?_) | with_reducible refine KE_ltv (fun _ => ?_) | with_reducible refine KPS_I ?_ ?_ | with_reducible refine KPS_A ?_ ?_ | with_reducible refine KPS_J ?_ | with_reducible refine KPS_L ?_ | with_reducible refine KPS_N ?_ | with_reducible refine KPS_S ?_ | with_reducible refine KPS_gJ ?_ | with_reducible refine KPS_gI ?_ | omega | (unfold pq; omega) | exact KPS_o (by assumption) (by assumption))
theorem zb_Ma_holds_69 {G : Unit} {t0 : Int32} (h : KPS u0 u)  : KE u0 (hb_Ma_holds_69 N G u t0) := by
  unfold hb_Ma_holds_69
  repeat' (first | with_reducible assumption | with_reducible refine KE_br ?_ ?_ | with_reducible refine KE_bnd ?_ (fun _ _ _ => ?_) | with_reducible refine KE_ck ?_ | with_reducible refine KE_ltm ?_ (fun _ _ => ?_) | with_reducible refine KE_some ?_ | with_reducible refine KE_boe (fun _ _ => ?_) | with_reducible refine KE_ltv (fun _ => ?_) | with_reducible refine KPS_I ?_ ?_ | with_reducible refine KPS_A ?_ ?_ | with_reducible refine KPS_J ?_ | with_reducible refine KPS_L ?_ | with_reducible refine KPS_N ?_ | with_reducible refine KPS_S ?_ | with_reducible refine KPS_gJ ?_ | with_reducible refine KPS_gI ?_ | omega | (unfold pq; omega) | exact KPS_o (by assumption) (by assumption))
theorem zb_Ma_holds_0 {G : Unit} {v0 : Int32} {v1 : Int32} (h : KPS u0 u)  : KE u0 (hb_Ma_holds_0 N G u v0 v1) := by
  unfold hb_Ma_holds_0
  repeat' (first | with_reducible assumption | with_reducible refine KE_br ?_ ?_ | with_reducible refine KE_bnd ?_ (fun _ _ _ => ?_) | with_reducible refine KE_ck ?_ | with_reducible refine KE_ltm ?_ (fun _ _ => ?_) | with_reducible refine KE_some ?_ | with_reducible refine KE_boe (fun _ _ => ?_) | with_reducible exact zb_Ma_holds_109 (by assumption) | with_reducible exact zb_Ma_holds_119 (by assumption) | with_reducible exact zb_Ma_holds_69 (by assumption) | with_reducible exact zb_Ma_holds_79 (by assumption) | with_reducible exact zb_Ma_holds_89 (by assumption) | with_reducible exact zb_Ma_holds_99 (by assumption) | with_reducible refine KE_ltv (fun _ => ?_) | with_reducible refine KPS_I ?_ ?_ | with_reducible refine KPS_A ?_ ?_ | with_reducible refine KPS_J ?_ | with_reducible refine KPS_L ?_ | with_reducible refine KPS_N ?_ | with_reducible refine KPS_S ?_ | with_reducible refine KPS_gJ ?_ | with_reducible refine KPS_gI ?_ | omega | (unfold pq; omega) | exact KPS_o (by assumption) (by assumption))
theorem zm_Ma_holds {v0 : Int32} {v1 : Int32} (h : KPS u0 u) : KE u0 (hm_Ma_holds N u v0 v1) := by
  unfold hm_Ma_holds
  exact zb_Ma_holds_0 h
theorem zb_Ma_fitsString_107 {G : (MS → Nat → Int32 → Int64 → Int32 → Int32 → Option (MS × Int32))} {p : Nat} {t0 : Int32} (h : KPS u0 u) (hG0 : ∀ (u : MS) a0 a1 a2 a3 a4, KPS u0 u → KE u0 (G u a0 a1 a2 a3 a4)) : KE u0 (hb_Ma_fitsString_107 N G u p t0) := by
  unfold hb_Ma_fitsString_107
  repeat' (first | with_reducible assumption | with_reducible refine KE_br ?_ ?_ | with_reducible refine KE_bnd ?_ (fun _ _ _ => ?_) | with_reducible refine KE_ck ?_ | with_reducible refine KE_ltm ?_ (fun _ _ => ?_) | with_reducible refine KE_some ?_ | with_reducible refine KE_boe (fun _ _ => ?_) | with_reducible exact hG0 _ _ _ _ _ _ (by assumption) | with_reducible refine KE_ltv (fun _ => ?_) | with_reducible refine KPS_I ?_ ?_ | with_reducible refine KPS_A ?_ ?_ | with_reducible refine KPS_J ?_ | with_reducible refine KPS_L ?_ | with_reducible refine KPS_N ?_ | with_reducible refine KPS_S ?_ | with_reducible refine KPS_gJ ?_ | with_reducible refine KPS_gI ?_ | omega | (unfold pq; omega) | exact KPS_o (by assumption) (by assumption))
theorem zb_Ma_fitsString_18 {G : (MS → Nat → Int32 → Int64 → Int32 → Int32 → Option (MS × Int32))} {p : Nat} {v1 : Int32} {v4 : Int64} {v6 : Int32} {v7 : Int32} (h : KPS u0 u) (hG0 : ∀ (u : MS) a0 a1 a2 a3 a4, KPS u0 u → KE u0 (G u a0 a1 a2 a3 a4)) : KE u0 (hb_Ma_fitsString_18 N G u p v1 v4 v6 v7) := by
  unfold hb_Ma_fitsString_18
  repeat' (first | with_reducible assumption | with_reducible refine KE_br ?_ ?_ | with_reducible refine KE_bnd ?_ (fun _ _ _ => ?_) | with_reducible refine KE_ck ?_ | with_reducible refine KE_ltm ?_ (fun _ _ => ?_) | with_reducible refine KE_some ?_ | with_reducible refine KE_boe (fun _ _ => ?_) | with_reducible exact zb_Ma_fitsString_107 (by assumption) hG0 | with_reducible exact zm_Te_make (by assumption) | with_reducible exact zm_Te_tag (by assumption) | with_reducible exact zm_Co_at (by assumption) | with_reducible exact hG0 _ _ _ _ _ _ (by assumption) | with_reducible refine KE_ltv (fun _ => ?_) | with_reducible refine KPS_I ?_ ?_ | with_reducible refine KPS_A ?_ ?_ | with_reducible refine KPS_J ?_ | with_reducible refine KPS_L ?_ | with_reducible refine KPS_N ?_ | with_reducible refine KPS_S ?_ | with_reducible refine KPS_gJ ?_ | with_reducible refine KPS_gI ?_ | omega | (unfold pq; omega) | exact KPS_o (by assumption) (by assumption))
theorem zb_Ma_fitsString_0 {G : (MS → Nat → Int32 → Int64 → Int32 → Int32 → Option (MS × Int32))} {p : Nat} {v1 : Int32} {v2 : Int64} (h : KPS u0 u) (hG0 : ∀ (u : MS) a0 a1 a2 a3 a4, KPS u0 u → KE u0 (G u a0 a1 a2 a3 a4)) : KE u0 (hb_Ma_fitsString_0 N G u p v1 v2) := by
  unfold hb_Ma_fitsString_0
  repeat' (first | with_reducible assumption | with_reducible refine KE_br ?_ ?_ | with_reducible refine KE_bnd ?_ (fun _ _ _ => ?_) | with_reducible refine KE_ck ?_ | with_reducible refine KE_ltm ?_ (fun _ _ => ?_) | with_reducible refine KE_some ?_ | with_reducible refine KE_boe (fun _ _ => ?_) | with_reducible exact zm_Co_at (by assumption) | with_reducible exact hG0 _ _ _ _ _ _ (by assumption) | with_reducible refine KE_ltv (fun _ => ?_) | with_reducible refine KPS_I ?_ ?_ | with_reducible refine KPS_A ?_ ?_ | with_reducible refine KPS_J ?_ | with_reducible refine KPS_L ?_ | with_reducible refine KPS_N ?_ | with_reducible refine KPS_S ?_ | with_reducible refine KPS_gJ ?_ | with_reducible refine KPS_gI ?_ | omega | (unfold pq; omega) | exact KPS_o (by assumption) (by assumption))
theorem zg_Ma_fitsString (n : Nat) : (∀ (u : MS) a0 a1 a2 a3 a4, KPS u0 u → KE u0 ((hg_Ma_fitsString N n) u a0 a1 a2 a3 a4)) := by
  induction n with
  | zero => exact fun _ _ _ _ _ _ _ => KE_none
  | succ n ih => exact fun _ _ _ _ _ _ h => zb_Ma_fitsString_18 (N := N) h ih
theorem zm_Ma_fitsString {p : Nat} {v1 : Int32} {v2 : Int64} (h : KPS u0 u) : KE u0 (hm_Ma_fitsString N u p v1 v2) := by
  unfold hm_Ma_fitsString
  exact zb_Ma_fitsString_0 h (zg_Ma_fitsString N)
theorem zb_Fr_setLine_0 {G : Unit} {v0 : Nat} {v1 : Int32} (h : KPS u0 u)  : KE u0 (hb_Fr_setLine_0 N G u v0 v1) := by
  unfold hb_Fr_setLine_0
  repeat' (first | with_reducible assumption | with_reducible refine KE_br ?_ ?_ | with_reducible refine KE_bnd ?_ (fun _ _ _ => ?_) | with_reducible refine KE_ck ?_ | with_reducible refine KE_ltm ?_ (fun _ _ => ?_) | with_reducible refine KE_some ?_ | with_reducible refine KE_boe (fun _ _ => ?_) | with_reducible exact zm_Fr_set (by assumption) | with_reducible refine KE_ltv (fun _ => ?_) | with_reducible refine KPS_I ?_ ?_ | with_reducible refine KPS_A ?_ ?_ | with_reducible refine KPS_J ?_ | with_reducible refine KPS_L ?_ | with_reducible refine KPS_N ?_ | with_reducible refine KPS_S ?_ | with_reducible refine KPS_gJ ?_ | with_reducible refine KPS_gI ?_ | omega | (unfold pq; omega) | exact KPS_o (by assumption) (by assumption))
theorem zm_Fr_setLine {v0 : Nat} {v1 : Int32} (h : KPS u0 u) : KE u0 (hm_Fr_setLine N u v0 v1) := by
  unfold hm_Fr_setLine
  exact zb_Fr_setLine_0 h
theorem zb_Ma_begins_57 {G : Unit} {p : Nat} (h : KPS u0 u)  : KE u0 (hb_Ma_begins_57 N G u p) := by
  unfold hb_Ma_begins_57
  repeat' (first | with_reducible assumption | with_reducible refine KE_br ?_ ?_ | with_reducible refine KE_bnd ?_ (fun _ _ _ => ?_) | with_reducible refine KE_ck ?_ | with_reducible refine KE_ltm ?_ (fun _ _ => ?_) | with_reducible refine KE_some ?_ | with_reducible refine KE_boe (fun _ _ => ?_) | with_reducible refine KE_ltv (fun _ => ?_) | with_reducible refine KPS_I ?_ ?_ | with_reducible refine KPS_A ?_ ?_ | with_reducible refine KPS_J ?_ | with_reducible refine KPS_L ?_ | with_reducible refine KPS_N ?_ | with_reducible refine KPS_S ?_ | with_reducible refine KPS_gJ ?_ | with_reducible refine KPS_gI ?_ | omega | (unfold pq; omega) | exact KPS_o (by assumption) (by assumption))
theorem zb_Ma_begins_0 {G : Unit} {p : Nat} {v1 : Int32} {v2 : Int32} (h : KPS u0 u)  : KE u0 (hb_Ma_begins_0 N G u p v1 v2) := by
  unfold hb_Ma_begins_0
  repeat' (first | with_reducible assumption | with_reducible refine KE_br ?_ ?_ | with_reducible refine KE_bnd ?_ (fun _ _ _ => ?_) | with_reducible refine KE_ck ?_ | with_reducible refine KE_ltm ?_ (fun _ _ => ?_) | with_reducible refine KE_some ?_ | with_reducible refine KE_boe (fun _ _ => ?_) | with_reducible exact zb_Ma_begins_57 (by assumption) | with_reducible exact zm_Wl_endsBy (by assumption) | with_reducible refine KE_ltv (fun _ => ?_) | with_reducible refine KPS_I ?_ ?_ | with_reducible refine KPS_A ?_ ?_ | with_reducible refine KPS_J ?_ | with_reducible refine KPS_L ?_ | with_reducible refine KPS_N ?_ | with_reducible refine KPS_S ?_ | with_reducible refine KPS_gJ ?_ | with_reducible refine KPS_gI ?_ | omega | (unfold pq; omega) | exact KPS_o (by assumption) (by assumption))
theorem zm_Ma_begins {p : Nat} {v1 : Int32} {v2 : Int32} (h : KPS u0 u) : KE u0 (hm_Ma_begins N u p v1 v2) := by
  unfold hm_Ma_begins
  exact zb_Ma_begins_0 h
theorem zb_Fr_setPlace_0 {G : Unit} {v0 : Nat} {v1 : Int32} (h : KPS u0 u)  : KE u0 (hb_Fr_setPlace_0 N G u v0 v1) := by
  unfold hb_Fr_setPlace_0
  repeat' (first | with_reducible assumption | with_reducible refine KE_br ?_ ?_ | with_reducible refine KE_bnd ?_ (fun _ _ _ => ?_) | with_reducible refine KE_ck ?_ | with_reducible refine KE_ltm ?_ (fun _ _ => ?_) | with_reducible refine KE_some ?_ | with_reducible refine KE_boe (fun _ _ => ?_) | with_reducible exact zm_Fr_set (by assumption) | with_reducible refine KE_ltv (fun _ => ?_) | with_reducible refine KPS_I ?_ ?_ | with_reducible refine KPS_A ?_ ?_ | with_reducible refine KPS_J ?_ | with_reducible refine KPS_L ?_ | with_reducible refine KPS_N ?_ | with_reducible refine KPS_S ?_ | with_reducible refine KPS_gJ ?_ | with_reducible refine KPS_gI ?_ | omega | (unfold pq; omega) | exact KPS_o (by assumption) (by assumption))
theorem zm_Fr_setPlace {v0 : Nat} {v1 : Int32} (h : KPS u0 u) : KE u0 (hm_Fr_setPlace N u v0 v1) := by
  unfold hm_Fr_setPlace
  exact zb_Fr_setPlace_0 h
theorem zb_Ma_nextMessage_78 {G : Unit} {p : Nat} (h : KPS u0 u)  : KE u0 (hb_Ma_nextMessage_78 N G u p) := by
  unfold hb_Ma_nextMessage_78
  repeat' (first | with_reducible assumption | with_reducible refine KE_br ?_ ?_ | with_reducible refine KE_bnd ?_ (fun _ _ _ => ?_) | with_reducible refine KE_ck ?_ | with_reducible refine KE_ltm ?_ (fun _ _ => ?_) | with_reducible refine KE_some ?_ | with_reducible refine KE_boe (fun _ _ => ?_) | with_reducible refine KE_ltv (fun _ => ?_) | with_reducible refine KPS_I ?_ ?_ | with_reducible refine KPS_A ?_ ?_ | with_reducible refine KPS_J ?_ | with_reducible refine KPS_L ?_ | with_reducible refine KPS_N ?_ | with_reducible refine KPS_S ?_ | with_reducible refine KPS_gJ ?_ | with_reducible refine KPS_gI ?_ | omega | (unfold pq; omega) | exact KPS_o (by assumption) (by assumption))
theorem zb_Ma_nextMessage_0 {G : Unit} {p : Nat} {v1 : Int32} (h : KPS u0 u)  : KE u0 (hb_Ma_nextMessage_0 N G u p v1) := by
  unfold hb_Ma_nextMessage_0
  repeat' (first | with_reducible assumption | with_reducible refine KE_br ?_ ?_ | with_reducible refine KE_bnd ?_ (fun _ _ _ => ?_) | with_reducible refine KE_ck ?_ | with_reducible refine KE_ltm ?_ (fun _ _ => ?_) | with_reducible refine KE_some ?_ | with_reducible refine KE_boe (fun _ _ => ?_) | with_reducible exact zb_Ma_nextMessage_78 (by assumption) | with_reducible exact zm_Wl_isReady (by assumption) | with_reducible refine KE_ltv (fun _ => ?_) | with_reducible refine KPS_I ?_ ?_ | with_reducible refine KPS_A ?_ ?_ | with_reducible refine KPS_J ?_ | with_reducible refine KPS_L ?_ | with_reducible refine KPS_N ?_ | with_reducible refine KPS_S ?_ | with_reducible refine KPS_gJ ?_ | with_reducible refine KPS_gI ?_ | omega | (unfold pq; omega) | exact KPS_o (by assumption) (by assumption))
theorem zm_Ma_nextMessage {p : Nat} {v1 : Int32} (h : KPS u0 u) : KE u0 (hm_Ma_nextMessage N u p v1) := by
  unfold hm_Ma_nextMessage
  exact zb_Ma_nextMessage_0 h
theorem zb_Fr_leave_0 {G : Unit} {v0 : Nat} (h : KPS u0 u)  : KE u0 (hb_Fr_leave_0 N G u v0) := by
  unfold hb_Fr_leave_0
  repeat' (first | with_reducible assumption | with_reducible refine KE_br ?_ ?_ | with_reducible refine KE_bnd ?_ (fun _ _ _ => ?_) | with_reducible refine KE_ck ?_ | with_reducible refine KE_ltm ?_ (fun _ _ => ?_) | with_reducible refine KE_some ?_ | with_reducible refine KE_boe (fun _ _ => ?_) | with_reducible exact zm_Fr_of (by assumption) | with_reducible refine KE_ltv (fun _ => ?_) | with_reducible refine KPS_I ?_ ?_ | with_reducible refine KPS_A ?_ ?_ | with_reducible refine KPS_J ?_ | with_reducible refine KPS_L ?_ | with_reducible refine KPS_N ?_ | with_reducible refine KPS_S ?_ | with_reducible refine KPS_gJ ?_ | with_reducible refine KPS_gI ?_ | omega | (unfold pq; omega) | exact KPS_o (by assumption) (by assumption))
theorem zm_Fr_leave {v0 : Nat} (h : KPS u0 u) : KE u0 (hm_Fr_leave N u v0) := by
  unfold hm_Fr_leave
  exact zb_Fr_leave_0 h
theorem zb_Pr_pair_0 {G : Unit} {v0 : Nat} {v1 : Int32} {v2 : Int64} (h : KPS u0 u)  : KE u0 (hb_Pr_pair_0 N G u v0 v1 v2) := by
  unfold hb_Pr_pair_0
  repeat' (first | with_reducible assumption | with_reducible refine KE_br ?_ ?_ | with_reducible refine KE_bnd ?_ (fun _ _ _ => ?_) | with_reducible refine KE_ck ?_ | with_reducible refine KE_ltm ?_ (fun _ _ => ?_) | with_reducible refine KE_some ?_ | with_reducible refine KE_boe (fun _ _ => ?_) | with_reducible exact zm_Te_make (by assumption) | with_reducible refine KE_ltv (fun _ => ?_) | with_reducible refine KPS_I ?_ ?_ | with_reducible refine KPS_A ?_ ?_ | with_reducible refine KPS_J ?_ | with_reducible refine KPS_L ?_ | with_reducible refine KPS_N ?_ | with_reducible refine KPS_S ?_ | with_reducible refine KPS_gJ ?_ | with_reducible refine KPS_gI ?_ | omega | (unfold pq; omega) | exact KPS_o (by assumption) (by assumption))
theorem zm_Pr_pair {v0 : Nat} {v1 : Int32} {v2 : Int64} (h : KPS u0 u) : KE u0 (hm_Pr_pair N u v0 v1 v2) := by
  unfold hm_Pr_pair
  exact zb_Pr_pair_0 h
theorem zb_Fr_unwind_0 {G : Unit} {v0 : Nat} (h : KPS u0 u)  : KE u0 (hb_Fr_unwind_0 N G u v0) := by
  unfold hb_Fr_unwind_0
  repeat' (first | with_reducible assumption | with_reducible refine KE_br ?_ ?_ | with_reducible refine KE_bnd ?_ (fun _ _ _ => ?_) | with_reducible refine KE_ck ?_ | with_reducible refine KE_ltm ?_ (fun _ _ => ?_) | with_reducible refine KE_some ?_ | with_reducible refine KE_boe (fun _ _ => ?_) | with_reducible refine KE_ltv (fun _ => ?_) | with_reducible refine KPS_I ?_ ?_ | with_reducible refine KPS_A ?_ ?_ | with_reducible refine KPS_J ?_ | with_reducible refine KPS_L ?_ | with_reducible refine KPS_N ?_ | with_reducible refine KPS_S ?_ | with_reducible refine KPS_gJ ?_ | with_reducible refine KPS_gI ?_ | omega | (unfold pq; omega) | exact KPS_o (by assumption) (by assumption))
theorem zm_Fr_unwind {v0 : Nat} (h : KPS u0 u) : KE u0 (hm_Fr_unwind N u v0) := by
  unfold hm_Fr_unwind
  exact zb_Fr_unwind_0 h
theorem zb_Wl_watchesOf_28 {G : (MS → Int32 → Int32 → Int32 → Option (MS × Int32))} {v1 : Int32} {v3 : Int32} {t0 : Int32} {t1 : Int32} (h : KPS u0 u) (hG0 : ∀ (u : MS) a0 a1 a2, KPS u0 u → KE u0 (G u a0 a1 a2)) : KE u0 (hb_Wl_watchesOf_28 N G u v1 v3 t0 t1) := by
  unfold hb_Wl_watchesOf_28
  repeat' (first | with_reducible assumption | with_reducible refine KE_br ?_ ?_ | with_reducible refine KE_bnd ?_ (fun _ _ _ => ?_) | with_reducible refine KE_ck ?_ | with_reducible refine KE_ltm ?_ (fun _ _ => ?_) | with_reducible refine KE_some ?_ | with_reducible refine KE_boe (fun _ _ => ?_) | with_reducible exact hG0 _ _ _ _ (by assumption) | with_reducible refine KE_ltv (fun _ => ?_) | with_reducible refine KPS_I ?_ ?_ | with_reducible refine KPS_A ?_ ?_ | with_reducible refine KPS_J ?_ | with_reducible refine KPS_L ?_ | with_reducible refine KPS_N ?_ | with_reducible refine KPS_S ?_ | with_reducible refine KPS_gJ ?_ | with_reducible refine KPS_gI ?_ | omega | (unfold pq; omega) | exact KPS_o (by assumption) (by assumption))
theorem zb_Wl_watchesOf_4 {G : (MS → Int32 → Int32 → Int32 → Option (MS × Int32))} {v1 : Int32} {v2 : Int32} {v3 : Int32} (h : KPS u0 u) (hG0 : ∀ (u : MS) a0 a1 a2, KPS u0 u → KE u0 (G u a0 a1 a2)) : KE u0 (hb_Wl_watchesOf_4 N G u v1 v2 v3) := by
  unfold hb_Wl_watchesOf_4
  repeat' (first | with_reducible assumption | with_reducible refine KE_br ?_ ?_ | with_reducible refine KE_bnd ?_ (fun _ _ _ => ?_) | with_reducible refine KE_ck ?_ | with_reducible refine KE_ltm ?_ (fun _ _ => ?_) | with_reducible refine KE_some ?_ | with_reducible refine KE_boe (fun _ _ => ?_) | with_reducible exact zb_Wl_watchesOf_28 (by assumption) hG0 | with_reducible exact hG0 _ _ _ _ (by assumption) | with_reducible refine KE_ltv (fun _ => ?_) | with_reducible refine KPS_I ?_ ?_ | with_reducible refine KPS_A ?_ ?_ | with_reducible refine KPS_J ?_ | with_reducible refine KPS_L ?_ | with_reducible refine KPS_N ?_ | with_reducible refine KPS_S ?_ | with_reducible refine KPS_gJ ?_ | with_reducible refine KPS_gI ?_ | omega | (unfold pq; omega) | exact KPS_o (by assumption) (by assumption))
theorem zb_Wl_watchesOf_0 {G : (MS → Int32 → Int32 → Int32 → Option (MS × Int32))} {v1 : Int32} (h : KPS u0 u) (hG0 : ∀ (u : MS) a0 a1 a2, KPS u0 u → KE u0 (G u a0 a1 a2)) : KE u0 (hb_Wl_watchesOf_0 N G u v1) := by
  unfold hb_Wl_watchesOf_0
  repeat' (first | with_reducible assumption | with_reducible refine KE_br ?_ ?_ | with_reducible refine KE_bnd ?_ (fun _ _ _ => ?_) | with_reducible refine KE_ck ?_ | with_reducible refine KE_ltm ?_ (fun _ _ => ?_) | with_reducible refine KE_some ?_ | with_reducible refine KE_boe (fun _ _ => ?_) | with_reducible exact hG0 _ _ _ _ (by assumption) | with_reducible refine KE_ltv (fun _ => ?_) | with_reducible refine KPS_I ?_ ?_ | with_reducible refine KPS_A ?_ ?_ | with_reducible refine KPS_J ?_ | with_reducible refine KPS_L ?_ | with_reducible refine KPS_N ?_ | with_reducible refine KPS_S ?_ | with_reducible refine KPS_gJ ?_ | with_reducible refine KPS_gI ?_ | omega | (unfold pq; omega) | exact KPS_o (by assumption) (by assumption))
theorem zg_Wl_watchesOf (n : Nat) : (∀ (u : MS) a0 a1 a2, KPS u0 u → KE u0 ((hg_Wl_watchesOf N n) u a0 a1 a2)) := by
  induction n with
  | zero => exact fun _ _ _ _ _ => KE_none
  | succ n ih => exact fun _ _ _ _ h => zb_Wl_watchesOf_4 (N := N) h ih
theorem zm_Wl_watchesOf {v1 : Int32} (h : KPS u0 u) : KE u0 (hm_Wl_watchesOf N u v1) := by
  unfold hm_Wl_watchesOf
  exact zb_Wl_watchesOf_0 h (zg_Wl_watchesOf N)
theorem zb_Fr_namesIn_25 {G : Unit} {v0 : Nat} {v1 : Int32} {t0 : Int32} (h : KPS u0 u)  : KE u0 (hb_Fr_namesIn_25 N G u v0 v1 t0) := by
  unfold hb_Fr_namesIn_25
  repeat' (first | with_reducible assumption | with_reducible refine KE_br ?_ ?_ | with_reducible refine KE_bnd ?_ (fun _ _ _ => ?_) | with_reducible refine KE_ck ?_ | with_reducible refine KE_ltm ?_ (fun _ _ => ?_) | with_reducible refine KE_some ?_ | with_reducible refine KE_boe (fun _ _ => ?_) | with_reducible exact zm_Fr_of (by assumption) | with_reducible refine KE_ltv (fun _ => ?_) | with_reducible refine KPS_I ?_ ?_ | with_reducible refine KPS_A ?_ ?_ | with_reducible refine KPS_J ?_ | with_reducible refine KPS_L ?_ | with_reducible refine KPS_N ?_ | with_reducible refine KPS_S ?_ | with_reducible refine KPS_gJ ?_ | with_reducible refine KPS_gI ?_ | omega | (unfold pq; omega) | exact KPS_o (by assumption) (by assumption))
theorem zb_Fr_namesIn_0 {G : Unit} {v0 : Nat} {v1 : Int32} (h : KPS u0 u)  : KE u0 (hb_Fr_namesIn_0 N G u v0 v1) := by
  unfold hb_Fr_namesIn_0
  repeat' (first | with_reducible assumption | with_reducible refine KE_br ?_ ?_ | with_reducible refine KE_bnd ?_ (fun _ _ _ => ?_) | with_reducible refine KE_ck ?_ | with_reducible refine KE_ltm ?_ (fun _ _ => ?_) | with_reducible refine KE_some ?_ | with_reducible refine KE_boe (fun _ _ => ?_) | with_reducible exact zb_Fr_namesIn_25 (by assumption) | with_reducible exact zm_Fr_of (by assumption) | with_reducible refine KE_ltv (fun _ => ?_) | with_reducible refine KPS_I ?_ ?_ | with_reducible refine KPS_A ?_ ?_ | with_reducible refine KPS_J ?_ | with_reducible refine KPS_L ?_ | with_reducible refine KPS_N ?_ | with_reducible refine KPS_S ?_ | with_reducible refine KPS_gJ ?_ | with_reducible refine KPS_gI ?_ | omega | (unfold pq; omega) | exact KPS_o (by assumption) (by assumption))
theorem zm_Fr_namesIn {v0 : Nat} {v1 : Int32} (h : KPS u0 u) : KE u0 (hm_Fr_namesIn N u v0 v1) := by
  unfold hm_Fr_namesIn
  exact zb_Fr_namesIn_0 h
theorem zb_Fr_waitsIn_25 {G : Unit} {v0 : Nat} {v1 : Int32} {t0 : Int32} (h : KPS u0 u)  : KE u0 (hb_Fr_waitsIn_25 N G u v0 v1 t0) := by
  unfold hb_Fr_waitsIn_25
  repeat' (first | with_reducible assumption | with_reducible refine KE_br ?_ ?_ | with_reducible refine KE_bnd ?_ (fun _ _ _ => ?_) | with_reducible refine KE_ck ?_ | with_reducible refine KE_ltm ?_ (fun _ _ => ?_) | with_reducible refine KE_some ?_ | with_reducible refine KE_boe (fun _ _ => ?_) | with_reducible exact zm_Fr_of (by assumption) | with_reducible refine KE_ltv (fun _ => ?_) | with_reducible refine KPS_I ?_ ?_ | with_reducible refine KPS_A ?_ ?_ | with_reducible refine KPS_J ?_ | with_reducible refine KPS_L ?_ | with_reducible refine KPS_N ?_ | with_reducible refine KPS_S ?_ | with_reducible refine KPS_gJ ?_ | with_reducible refine KPS_gI ?_ | omega | (unfold pq; omega) | exact KPS_o (by assumption) (by assumption))
theorem zb_Fr_waitsIn_0 {G : Unit} {v0 : Nat} {v1 : Int32} (h : KPS u0 u)  : KE u0 (hb_Fr_waitsIn_0 N G u v0 v1) := by
  unfold hb_Fr_waitsIn_0
  repeat' (first | with_reducible assumption | with_reducible refine KE_br ?_ ?_ | with_reducible refine KE_bnd ?_ (fun _ _ _ => ?_) | with_reducible refine KE_ck ?_ | with_reducible refine KE_ltm ?_ (fun _ _ => ?_) | with_reducible refine KE_some ?_ | with_reducible refine KE_boe (fun _ _ => ?_) | with_reducible exact zb_Fr_waitsIn_25 (by assumption) | with_reducible exact zm_Fr_of (by assumption) | with_reducible refine KE_ltv (fun _ => ?_) | with_reducible refine KPS_I ?_ ?_ | with_reducible refine KPS_A ?_ ?_ | with_reducible refine KPS_J ?_ | with_reducible refine KPS_L ?_ | with_reducible refine KPS_N ?_ | with_reducible refine KPS_S ?_ | with_reducible refine KPS_gJ ?_ | with_reducible refine KPS_gI ?_ | omega | (unfold pq; omega) | exact KPS_o (by assumption) (by assumption))
theorem zm_Fr_waitsIn {v0 : Nat} {v1 : Int32} (h : KPS u0 u) : KE u0 (hm_Fr_waitsIn N u v0 v1) := by
  unfold hm_Fr_waitsIn
  exact zb_Fr_waitsIn_0 h
theorem zb_H_shown_12 {G : Unit} (h : KPS u0 u)  : KE u0 (hb_H_shown_12 N G u) := by
  unfold hb_H_shown_12
  repeat' (first | with_reducible assumption | with_reducible refine KE_br ?_ ?_ | with_reducible refine KE_bnd ?_ (fun _ _ _ => ?_) | with_reducible refine KE_ck ?_ | with_reducible refine KE_ltm ?_ (fun _ _ => ?_) | with_reducible refine KE_some ?_ | with_reducible refine KE_boe (fun _ _ => ?_) | with_reducible refine KE_ltv (fun _ => ?_) | with_reducible refine KPS_I ?_ ?_ | with_reducible refine KPS_A ?_ ?_ | with_reducible refine KPS_J ?_ | with_reducible refine KPS_L ?_ | with_reducible refine KPS_N ?_ | with_reducible refine KPS_S ?_ | with_reducible refine KPS_gJ ?_ | with_reducible refine KPS_gI ?_ | omega | (unfold pq; omega) | exact KPS_o (by assumption) (by assumption))
theorem zb_H_shown_0 {G : Unit} {v1 : Int32} (h : KPS u0 u)  : KE u0 (hb_H_shown_0 N G u v1) := by
  unfold hb_H_shown_0
  repeat' (first | with_reducible assumption | with_reducible refine KE_br ?_ ?_ | with_reducible refine KE_bnd ?_ (fun _ _ _ => ?_) | with_reducible refine KE_ck ?_ | with_reducible refine KE_ltm ?_ (fun _ _ => ?_) | with_reducible refine KE_some ?_ | with_reducible refine KE_boe (fun _ _ => ?_) | with_reducible exact zb_H_shown_12 (by assumption) | with_reducible refine KE_ltv (fun _ => ?_) | with_reducible refine KPS_I ?_ ?_ | with_reducible refine KPS_A ?_ ?_ | with_reducible refine KPS_J ?_ | with_reducible refine KPS_L ?_ | with_reducible refine KPS_N ?_ | with_reducible refine KPS_S ?_ | with_reducible refine KPS_gJ ?_ | with_reducible refine KPS_gI ?_ | omega | (unfold pq; omega) | exact KPS_o (by assumption) (by assumption))
theorem zm_H_shown {v1 : Int32} (h : KPS u0 u) : KE u0 (hm_H_shown N u v1) := by
  unfold hm_H_shown
  exact zb_H_shown_0 h
theorem zb_H_printed_32 {G : Unit} (h : KPS u0 u)  : KE u0 (hb_H_printed_32 N G u) := by
  unfold hb_H_printed_32
  repeat' (first | with_reducible assumption | with_reducible refine KE_br ?_ ?_ | with_reducible refine KE_bnd ?_ (fun _ _ _ => ?_) | with_reducible refine KE_ck ?_ | with_reducible refine KE_ltm ?_ (fun _ _ => ?_) | with_reducible refine KE_some ?_ | with_reducible refine KE_boe (fun _ _ => ?_) | with_reducible refine KE_ltv (fun _ => ?_) | with_reducible refine KPS_I ?_ ?_ | with_reducible refine KPS_A ?_ ?_ | with_reducible refine KPS_J ?_ | with_reducible refine KPS_L ?_ | with_reducible refine KPS_N ?_ | with_reducible refine KPS_S ?_ | with_reducible refine KPS_gJ ?_ | with_reducible refine KPS_gI ?_ | omega | (unfold pq; omega) | exact KPS_o (by assumption) (by assumption))
theorem zb_H_printed_0 {G : Unit} {v1 : Int32} {v2 : Int32} (h : KPS u0 u)  : KE u0 (hb_H_printed_0 N G u v1 v2) := by
  unfold hb_H_printed_0
  repeat' (first | with_reducible assumption | with_reducible refine KE_br ?_ ?_ | with_reducible refine KE_bnd ?_ (fun _ _ _ => ?_) | with_reducible refine KE_ck ?_ | with_reducible refine KE_ltm ?_ (fun _ _ => ?_) | with_reducible refine KE_some ?_ | with_reducible refine KE_boe (fun _ _ => ?_) | with_reducible exact zb_H_printed_32 (by assumption) | with_reducible refine KE_ltv (fun _ => ?_) | with_reducible refine KPS_I ?_ ?_ | with_reducible refine KPS_A ?_ ?_ | with_reducible refine KPS_J ?_ | with_reducible refine KPS_L ?_ | with_reducible refine KPS_N ?_ | with_reducible refine KPS_S ?_ | with_reducible refine KPS_gJ ?_ | with_reducible refine KPS_gI ?_ | omega | (unfold pq; omega) | exact KPS_o (by assumption) (by assumption))
theorem zm_H_printed {v1 : Int32} {v2 : Int32} (h : KPS u0 u) : KE u0 (hm_H_printed N u v1 v2) := by
  unfold hm_H_printed
  exact zb_H_printed_0 h
theorem zb_JI_compare_19 {G : Unit} {t0 : Int32} (h : KPS u0 u)  : KE u0 (hb_JI_compare_19 N G u t0) := by
  unfold hb_JI_compare_19
  repeat' (first | with_reducible assumption | with_reducible refine KE_br ?_ ?_ | with_reducible refine KE_bnd ?_ (fun _ _ _ => ?_) | with_reducible refine KE_ck ?_ | with_reducible refine KE_ltm ?_ (fun _ _ => ?_) | with_reducible refine KE_some ?_ | with_reducible refine KE_boe (fun _ _ => ?_) | with_reducible refine KE_ltv (fun _ => ?_) | with_reducible refine KPS_I ?_ ?_ | with_reducible refine KPS_A ?_ ?_ | with_reducible refine KPS_J ?_ | with_reducible refine KPS_L ?_ | with_reducible refine KPS_N ?_ | with_reducible refine KPS_S ?_ | with_reducible refine KPS_gJ ?_ | with_reducible refine KPS_gI ?_ | omega | (unfold pq; omega) | exact KPS_o (by assumption) (by assumption))
theorem zb_JI_compare_0 {G : Unit} {v0 : Int32} {v1 : Int32} (h : KPS u0 u)  : KE u0 (hb_JI_compare_0 N G u v0 v1) := by
  unfold hb_JI_compare_0
  repeat' (first | with_reducible assumption | with_reducible refine KE_br ?_ ?_ | with_reducible refine KE_bnd ?_ (fun _ _ _ => ?_) | with_reducible refine KE_ck ?_ | with_reducible refine KE_ltm ?_ (fun _ _ => ?_) | with_reducible refine KE_some ?_ | with_reducible refine KE_boe (fun _ _ => ?_) | with_reducible exact zb_JI_compare_19 (by assumption) | with_reducible refine KE_ltv (fun _ => ?_) | with_reducible refine KPS_I ?_ ?_ | with_reducible refine KPS_A ?_ ?_ | with_reducible refine KPS_J ?_ | with_reducible refine KPS_L ?_ | with_reducible refine KPS_N ?_ | with_reducible refine KPS_S ?_ | with_reducible refine KPS_gJ ?_ | with_reducible refine KPS_gI ?_ | omega | (unfold pq; omega) | exact KPS_o (by assumption) (by assumption))
theorem zm_JI_compare {v0 : Int32} {v1 : Int32} (h : KPS u0 u) : KE u0 (hm_JI_compare N u v0 v1) := by
  unfold hm_JI_compare
  exact zb_JI_compare_0 h
theorem zb_Wl_born_43 {G : Unit} (h : KPS u0 u)  : KE u0 (hb_Wl_born_43 N G u) := by
  unfold hb_Wl_born_43
  repeat' (first | with_reducible assumption | with_reducible refine KE_br ?_ ?_ | with_reducible refine KE_bnd ?_ (fun _ _ _ => ?_) | with_reducible refine KE_ck ?_ | with_reducible refine KE_ltm ?_ (fun _ _ => ?_) | with_reducible refine KE_some ?_ | with_reducible refine KE_boe (fun _ _ => ?_) | with_reducible exact zm_Pr_clear (by assumption) | with_reducible refine KE_ltv (fun _ => ?_) | with_reducible refine KPS_I ?_ ?_ | with_reducible refine KPS_A ?_ ?_ | with_reducible refine KPS_J ?_ | with_reducible refine KPS_L ?_ | with_reducible refine KPS_N ?_ | with_reducible refine KPS_S ?_ | with_reducible refine KPS_gJ ?_ | with_reducible refine KPS_gI ?_ | omega | (unfold pq; omega) | exact KPS_o (by assumption) (by assumption))
theorem zb_Wl_born_0 {G : Unit} (h : KPS u0 u)  : KE u0 (hb_Wl_born_0 N G u) := by
  unfold hb_Wl_born_0
  repeat' (first | with_reducible assumption | with_reducible refine KE_br ?_ ?_ | with_reducible refine KE_bnd ?_ (fun _ _ _ => ?_) | with_reducible refine KE_ck ?_ | with_reducible refine KE_ltm ?_ (fun _ _ => ?_) | with_reducible refine KE_some ?_ | with_reducible refine KE_boe (fun _ _ => ?_) | with_reducible exact zb_Wl_born_43 (by assumption) | with_reducible refine KE_ltv (fun _ => ?_) | with_reducible refine KPS_I ?_ ?_ | with_reducible refine KPS_A ?_ ?_ | with_reducible refine KPS_J ?_ | with_reducible refine KPS_L ?_ | with_reducible refine KPS_N ?_ | with_reducible refine KPS_S ?_ | with_reducible refine KPS_gJ ?_ | with_reducible refine KPS_gI ?_ | omega | (unfold pq; omega) | exact KPS_o (by assumption) (by assumption))
theorem zm_Wl_born  (h : KPS u0 u) : KE u0 (hm_Wl_born N u) := by
  unfold hm_Wl_born
  exact zb_Wl_born_0 h
theorem zb_H_begin_102 {G : Unit} (h : KPS u0 u)  : KE u0 (hb_H_begin_102 N G u) := by
  unfold hb_H_begin_102
  repeat' (first | with_reducible assumption | with_reducible refine KE_br ?_ ?_ | with_reducible refine KE_bnd ?_ (fun _ _ _ => ?_) | with_reducible refine KE_ck ?_ | with_reducible refine KE_ltm ?_ (fun _ _ => ?_) | with_reducible refine KE_some ?_ | with_reducible refine KE_boe (fun _ _ => ?_) | with_reducible refine KE_ltv (fun _ => ?_) | with_reducible refine KPS_I ?_ ?_ | with_reducible refine KPS_A ?_ ?_ | with_reducible refine KPS_J ?_ | with_reducible refine KPS_L ?_ | with_reducible refine KPS_N ?_ | with_reducible refine KPS_S ?_ | with_reducible refine KPS_gJ ?_ | with_reducible refine KPS_gI ?_ | omega | (unfold pq; omega) | exact KPS_o (by assumption) (by assumption))
theorem zb_H_begin_0 {G : Unit} {v1 : Int32} (h : KPS u0 u)  : KE u0 (hb_H_begin_0 N G u v1) := by
  unfold hb_H_begin_0
  repeat' (first | with_reducible assumption | with_reducible refine KE_br ?_ ?_ | with_reducible refine KE_bnd ?_ (fun _ _ _ => ?_) | with_reducible refine KE_ck ?_ | with_reducible refine KE_ltm ?_ (fun _ _ => ?_) | with_reducible refine KE_some ?_ | with_reducible refine KE_boe (fun _ _ => ?_) | with_reducible exact zm_H_isFunction (by assumption) | with_reducible exact zb_H_begin_102 (by assumption) | with_reducible exact zm_Wl_clearAll (by assumption) | with_reducible exact zm_Fr_open (by assumption) | with_reducible exact zm_Wl_born (by assumption) | with_reducible refine KE_ltv (fun _ => ?_) | with_reducible refine KPS_I ?_ ?_ | with_reducible refine KPS_A ?_ ?_ | with_reducible refine KPS_J ?_ | with_reducible refine KPS_L ?_ | with_reducible refine KPS_N ?_ | with_reducible refine KPS_S ?_ | with_reducible refine KPS_gJ ?_ | with_reducible refine KPS_gI ?_ | omega | (unfold pq; omega) | exact KPS_o (by assumption) (by assumption))
theorem zm_H_begin {v1 : Int32} (h : KPS u0 u) : KE u0 (hm_H_begin N u v1) := by
  unfold hm_H_begin
  exact zb_H_begin_0 h
theorem zb_Wl_find_22 {G : Unit} {t0 : Option Nat} (h : KPS u0 u)  : KE u0 (hb_Wl_find_22 N G u t0) := by
  unfold hb_Wl_find_22
  repeat' (first | with_reducible assumption | with_reducible refine KE_br ?_ ?_ | with_reducible refine KE_bnd ?_ (fun _ _ _ => ?_) | with_reducible refine KE_ck ?_ | with_reducible refine KE_ltm ?_ (fun _ _ => ?_) | with_reducible refine KE_some ?_ | with_reducible refine KE_boe (fun _ _ => ?_) | with_reducible refine KE_ltv (fun _ => ?_) | with_reducible refine KPS_I ?_ ?_ | with_reducible refine KPS_A ?_ ?_ | with_reducible refine KPS_J ?_ | with_reducible refine KPS_L ?_ | with_reducible refine KPS_N ?_ | with_reducible refine KPS_S ?_ | with_reducible refine KPS_gJ ?_ | with_reducible refine KPS_gI ?_ | omega | (unfold pq; omega) | exact KPS_o (by assumption) (by assumption))
theorem zb_Wl_find_12 {G : Unit} (h : KPS u0 u)  : KE u0 (hb_Wl_find_12 N G u) := by
  unfold hb_Wl_find_12
  repeat' (first | with_reducible assumption | with_reducible refine KE_br ?_ ?_ | with_reducible refine KE_bnd ?_ (fun _ _ _ => ?_) | with_reducible refine KE_ck ?_ | with_reducible refine KE_ltm ?_ (fun _ _ => ?_) | with_reducible refine KE_some ?_ | with_reducible refine KE_boe (fun _ _ => ?_) | with_reducible exact zb_Wl_find_22 (by assumption) | with_reducible refine KE_ltv (fun _ => ?_) | with_reducible refine KPS_I ?_ ?_ | with_reducible refine KPS_A ?_ ?_ | with_reducible refine KPS_J ?_ | with_reducible refine KPS_L ?_ | with_reducible refine KPS_N ?_ | with_reducible refine KPS_S ?_ | with_reducible refine KPS_gJ ?_ | with_reducible refine KPS_gI ?_ | omega | (unfold pq; omega) | exact KPS_o (by assumption) (by assumption))
theorem zb_Wl_find_0 {G : Unit} {v1 : Int32} (h : KPS u0 u)  : KE u0 (hb_Wl_find_0 N G u v1) := by
  unfold hb_Wl_find_0
  repeat' (first | with_reducible assumption | with_reducible refine KE_br ?_ ?_ | with_reducible refine KE_bnd ?_ (fun _ _ _ => ?_) | with_reducible refine KE_ck ?_ | with_reducible refine KE_ltm ?_ (fun _ _ => ?_) | with_reducible refine KE_some ?_ | with_reducible refine KE_boe (fun _ _ => ?_) | with_reducible exact zb_Wl_find_12 (by assumption) | with_reducible exact zb_Wl_find_22 (by assumption) | with_reducible refine KE_ltv (fun _ => ?_) | with_reducible refine KPS_I ?_ ?_ | with_reducible refine KPS_A ?_ ?_ | with_reducible refine KPS_J ?_ | with_reducible refine KPS_L ?_ | with_reducible refine KPS_N ?_ | with_reducible refine KPS_S ?_ | with_reducible refine KPS_gJ ?_ | with_reducible refine KPS_gI ?_ | omega | (unfold pq; omega) | exact KPS_o (by assumption) (by assumption))
theorem zm_Wl_find {v1 : Int32} (h : KPS u0 u) : KE u0 (hm_Wl_find N u v1) := by
  unfold hm_Wl_find
  exact zb_Wl_find_0 h
theorem zb_Pr_clearHeap_250 {G : (MS → Nat → Int32 → Int32 → Option (MS × Unit)) × (MS → Nat → Int32 → Int32 → Nat → Int32 → Int32 → Option (MS × Unit))} {v0 : Nat} {v1 : Int32} {v2 : Int32} {v3 : Nat} {v4 : Int32} {v5 : Int32} (h : KPS u0 u) (hG0 : ∀ (u : MS) a0 a1 a2, KPS u0 u → KE u0 (G.1 u a0 a1 a2)) (hG1 : ∀ (u : MS) a0 a1 a2 a3 a4 a5, KPS u0 u → KE u0 (G.2 u a0 a1 a2 a3 a4 a5)) : KE u0 (hb_Pr_clearHeap_250 N G u v0 v1 v2 v3 v4 v5) := by
  unfold hb_Pr_clearHeap_250
  repeat' (first | with_reducible assumption | with_reducible refine KE_br ?_ ?_ | with_reducible refine KE_bnd ?_ (fun _ _ _ => ?_) | with_reducible refine KE_ck ?_ | with_reducible refine KE_ltm ?_ (fun _ _ => ?_) | with_reducible refine KE_some ?_ | with_reducible refine KE_boe (fun _ _ => ?_) | with_reducible exact hG0 _ _ _ _ (by assumption) | with_reducible exact hG1 _ _ _ _ _ _ _ (by assumption) | with_reducible refine KE_ltv (fun _ => ?_) | with_reducible refine KPS_I ?_ ?_ | with_reducible refine KPS_A ?_ ?_ | with_reducible refine KPS_J ?_ | with_reducible refine KPS_L ?_ | with_reducible refine KPS_N ?_ | with_reducible refine KPS_S ?_ | with_reducible refine KPS_gJ ?_ | with_reducible refine KPS_gI ?_ | omega | (unfold pq; omega) | exact KPS_o (by assumption) (by assumption))
theorem zb_Pr_clearHeap_230 {G : (MS → Nat → Int32 → Int32 → Option (MS × Unit)) × (MS → Nat → Int32 → Int32 → Nat → Int32 → Int32 → Option (MS × Unit))} {v0 : Nat} {v1 : Int32} {v2 : Int32} {v3 : Nat} {v4 : Int32} {v5 : Int32} {v6 : Int32} {v7 : Int32} (h : KPS u0 u) (hG0 : ∀ (u : MS) a0 a1 a2, KPS u0 u → KE u0 (G.1 u a0 a1 a2)) (hG1 : ∀ (u : MS) a0 a1 a2 a3 a4 a5, KPS u0 u → KE u0 (G.2 u a0 a1 a2 a3 a4 a5)) : KE u0 (hb_Pr_clearHeap_230 N G u v0 v1 v2 v3 v4 v5 v6 v7) := by
  unfold hb_Pr_clearHeap_230
  repeat' (first | with_reducible assumption | with_reducible refine KE_br ?_ ?_ | with_reducible refine KE_bnd ?_ (fun _ _ _ => ?_) | with_reducible refine KE_ck ?_ | with_reducible refine KE_ltm ?_ (fun _ _ => ?_) | with_reducible refine KE_some ?_ | with_reducible refine KE_boe (fun _ _ => ?_) | with_reducible exact zb_Pr_clearHeap_250 (by assumption) hG0 hG1 | with_reducible exact hG0 _ _ _ _ (by assumption) | with_reducible exact hG1 _ _ _ _ _ _ _ (by assumption) | with_reducible refine KE_ltv (fun _ => ?_) | with_reducible refine KPS_I ?_ ?_ | with_reducible refine KPS_A ?_ ?_ | with_reducible refine KPS_J ?_ | with_reducible refine KPS_L ?_ | with_reducible refine KPS_N ?_ | with_reducible refine KPS_S ?_ | with_reducible refine KPS_gJ ?_ | with_reducible refine KPS_gI ?_ | omega | (unfold pq; omega) | exact KPS_o (by assumption) (by assumption))
theorem zb_Pr_clearHeap_160 {G : (MS → Nat → Int32 → Int32 → Option (MS × Unit)) × (MS → Nat → Int32 → Int32 → Nat → Int32 → Int32 → Option (MS × Unit))} {v0 : Nat} {v1 : Int32} {v2 : Int32} {v3 : Nat} {v4 : Int32} {v5 : Int32} {v6 : Int32} (h : KPS u0 u) (hG0 : ∀ (u : MS) a0 a1 a2, KPS u0 u → KE u0 (G.1 u a0 a1 a2)) (hG1 : ∀ (u : MS) a0 a1 a2 a3 a4 a5, KPS u0 u → KE u0 (G.2 u a0 a1 a2 a3 a4 a5)) : KE u0 (hb_Pr_clearHeap_160 N G u v0 v1 v2 v3 v4 v5 v6) := by
  unfold hb_Pr_clearHeap_160
  repeat' (first | with_reducible assumption | with_reducible refine KE_br ?_ ?_ | with_reducible refine KE_bnd ?_ (fun _ _ _ => ?_) | with_reducible refine KE_ck ?_ | with_reducible refine KE_ltm ?_ (fun _ _ => ?_) | with_reducible refine KE_some ?_ | with_reducible refine KE_boe (fun _ _ => ?_) | with_reducible exact zb_Pr_clearHeap_230 (by assumption) hG0 hG1 | with_reducible exact zm_Te_cellsAt (by assumption) | with_reducible exact hG0 _ _ _ _ (by assumption) | with_reducible exact hG1 _ _ _ _ _ _ _ (by assumption) | with_reducible refine KE_ltv (fun _ => ?_) | with_reducible refine KPS_I ?_ ?_ | with_reducible refine KPS_A ?_ ?_ | with_reducible refine KPS_J ?_ | with_reducible refine KPS_L ?_ | with_reducible refine KPS_N ?_ | with_reducible refine KPS_S ?_ | with_reducible refine KPS_gJ ?_ | with_reducible refine KPS_gI ?_ | omega | (unfold pq; omega) | exact KPS_o (by assumption) (by assumption))
theorem zb_Pr_clearHeap_125 {G : (MS → Nat → Int32 → Int32 → Option (MS × Unit)) × (MS → Nat → Int32 → Int32 → Nat → Int32 → Int32 → Option (MS × Unit))} {v0 : Nat} {v1 : Int32} {v2 : Int32} {v3 : Nat} {v4 : Int32} {v5 : Int32} {t0 : Int32} {t1 : Int32} (h : KPS u0 u) (hG0 : ∀ (u : MS) a0 a1 a2, KPS u0 u → KE u0 (G.1 u a0 a1 a2)) (hG1 : ∀ (u : MS) a0 a1 a2 a3 a4 a5, KPS u0 u → KE u0 (G.2 u a0 a1 a2 a3 a4 a5)) : KE u0 (hb_Pr_clearHeap_125 N G u v0 v1 v2 v3 v4 v5 t0 t1) := by
  unfold hb_Pr_clearHeap_125
  repeat' (first | with_reducible assumption | with_reducible refine KE_br ?_ ?_ | with_reducible refine KE_bnd ?_ (fun _ _ _ => ?_) | with_reducible refine KE_ck ?_ | with_reducible refine KE_ltm ?_ (fun _ _ => ?_) | with_reducible refine KE_some ?_ | with_reducible refine KE_boe (fun _ _ => ?_) | with_reducible exact zb_Pr_clearHeap_160 (by assumption) hG0 hG1 | with_reducible exact zb_Pr_clearHeap_250 (by assumption) hG0 hG1 | with_reducible exact hG0 _ _ _ _ (by assumption) | with_reducible exact hG1 _ _ _ _ _ _ _ (by assumption) | with_reducible refine KE_ltv (fun _ => ?_) | with_reducible refine KPS_I ?_ ?_ | with_reducible refine KPS_A ?_ ?_ | with_reducible refine KPS_J ?_ | with_reducible refine KPS_L ?_ | with_reducible refine KPS_N ?_ | with_reducible refine KPS_S ?_ | with_reducible refine KPS_gJ ?_ | with_reducible refine KPS_gI ?_ | omega | (unfold pq; omega) | exact KPS_o (by assumption) (by assumption))
theorem zb_Pr_clearHeap_112 {G : (MS → Nat → Int32 → Int32 → Option (MS × Unit)) × (MS → Nat → Int32 → Int32 → Nat → Int32 → Int32 → Option (MS × Unit))} {v0 : Nat} {v1 : Int32} {v2 : Int32} {v3 : Nat} {v4 : Int32} {v5 : Int32} (h : KPS u0 u) (hG0 : ∀ (u : MS) a0 a1 a2, KPS u0 u → KE u0 (G.1 u a0 a1 a2)) (hG1 : ∀ (u : MS) a0 a1 a2 a3 a4 a5, KPS u0 u → KE u0 (G.2 u a0 a1 a2 a3 a4 a5)) : KE u0 (hb_Pr_clearHeap_112 N G u v0 v1 v2 v3 v4 v5) := by
  unfold hb_Pr_clearHeap_112
  repeat' (first | with_reducible assumption | with_reducible refine KE_br ?_ ?_ | with_reducible refine KE_bnd ?_ (fun _ _ _ => ?_) | with_reducible refine KE_ck ?_ | with_reducible refine KE_ltm ?_ (fun _ _ => ?_) | with_reducible refine KE_some ?_ | with_reducible refine KE_boe (fun _ _ => ?_) | with_reducible exact zb_Pr_clearHeap_125 (by assumption) hG0 hG1 | with_reducible exact hG0 _ _ _ _ (by assumption) | with_reducible exact hG1 _ _ _ _ _ _ _ (by assumption) | with_reducible refine KE_ltv (fun _ => ?_) | with_reducible refine KPS_I ?_ ?_ | with_reducible refine KPS_A ?_ ?_ | with_reducible refine KPS_J ?_ | with_reducible refine KPS_L ?_ | with_reducible refine KPS_N ?_ | with_reducible refine KPS_S ?_ | with_reducible refine KPS_gJ ?_ | with_reducible refine KPS_gI ?_ | omega | (unfold pq; omega) | exact KPS_o (by assumption) (by assumption))
theorem zb_Pr_clearHeap_107 {G : (MS → Nat → Int32 → Int32 → Option (MS × Unit)) × (MS → Nat → Int32 → Int32 → Nat → Int32 → Int32 → Option (MS × Unit))} {v0 : Nat} {v1 : Int32} {v2 : Int32} {v3 : Nat} {t0 : Int32} (h : KPS u0 u) (hG0 : ∀ (u : MS) a0 a1 a2, KPS u0 u → KE u0 (G.1 u a0 a1 a2)) (hG1 : ∀ (u : MS) a0 a1 a2 a3 a4 a5, KPS u0 u → KE u0 (G.2 u a0 a1 a2 a3 a4 a5)) : KE u0 (hb_Pr_clearHeap_107 N G u v0 v1 v2 v3 t0) := by
  unfold hb_Pr_clearHeap_107
  repeat' (first | with_reducible assumption | with_reducible refine KE_br ?_ ?_ | with_reducible refine KE_bnd ?_ (fun _ _ _ => ?_) | with_reducible refine KE_ck ?_ | with_reducible refine KE_ltm ?_ (fun _ _ => ?_) | with_reducible refine KE_some ?_ | with_reducible refine KE_boe (fun _ _ => ?_) | with_reducible exact hG0 _ _ _ _ (by assumption) | with_reducible exact hG1 _ _ _ _ _ _ _ (by assumption) | with_reducible refine KE_ltv (fun _ => ?_) | with_reducible refine KPS_I ?_ ?_ | with_reducible refine KPS_A ?_ ?_ | with_reducible refine KPS_J ?_ | with_reducible refine KPS_L ?_ | with_reducible refine KPS_N ?_ | with_reducible refine KPS_S ?_ | with_reducible refine KPS_gJ ?_ | with_reducible refine KPS_gI ?_ | omega | (unfold pq; omega) | exact KPS_o (by assumption) (by assumption))
theorem zb_Pr_clearHeap_64 {G : (MS → Nat → Int32 → Int32 → Option (MS × Unit)) × (MS → Nat → Int32 → Int32 → Nat → Int32 → Int32 → Option (MS × Unit))} {v0 : Nat} {v1 : Int32} {v2 : Int32} {t0 : Nat} (h : KPS u0 u) (hG0 : ∀ (u : MS) a0 a1 a2, KPS u0 u → KE u0 (G.1 u a0 a1 a2)) (hG1 : ∀ (u : MS) a0 a1 a2 a3 a4 a5, KPS u0 u → KE u0 (G.2 u a0 a1 a2 a3 a4 a5)) : KE u0 (hb_Pr_clearHeap_64 N G u v0 v1 v2 t0) := by
  unfold hb_Pr_clearHeap_64
  repeat' (first | with_reducible assumption | with_reducible refine KE_br ?_ ?_ | with_reducible refine KE_bnd ?_ (fun _ _ _ => ?_) | with_reducible refine KE_ck ?_ | with_reducible refine KE_ltm ?_ (fun _ _ => ?_) | with_reducible refine KE_some ?_ | with_reducible refine KE_boe (fun _ _ => ?_) | with_reducible exact zb_Pr_clearHeap_107 (by assumption) hG0 hG1 | with_reducible exact hG0 _ _ _ _ (by assumption) | with_reducible exact hG1 _ _ _ _ _ _ _ (by assumption) | with_reducible refine KE_ltv (fun _ => ?_) | with_reducible refine KPS_I ?_ ?_ | with_reducible refine KPS_A ?_ ?_ | with_reducible refine KPS_J ?_ | with_reducible refine KPS_L ?_ | with_reducible refine KPS_N ?_ | with_reducible refine KPS_S ?_ | with_reducible refine KPS_gJ ?_ | with_reducible refine KPS_gI ?_ | omega | (unfold pq; omega) | exact KPS_o (by assumption) (by assumption))
theorem zb_Pr_clearHeap_14 {G : (MS → Nat → Int32 → Int32 → Option (MS × Unit)) × (MS → Nat → Int32 → Int32 → Nat → Int32 → Int32 → Option (MS × Unit))} {v0 : Nat} {v1 : Int32} {v2 : Int32} (h : KPS u0 u) (hG0 : ∀ (u : MS) a0 a1 a2, KPS u0 u → KE u0 (G.1 u a0 a1 a2)) (hG1 : ∀ (u : MS) a0 a1 a2 a3 a4 a5, KPS u0 u → KE u0 (G.2 u a0 a1 a2 a3 a4 a5)) : KE u0 (hb_Pr_clearHeap_14 N G u v0 v1 v2) := by
  unfold hb_Pr_clearHeap_14
  repeat' (first | with_reducible assumption | with_reducible refine KE_br ?_ ?_ | with_reducible refine KE_bnd ?_ (fun _ _ _ => ?_) | with_reducible refine KE_ck ?_ | with_reducible refine KE_ltm ?_ (fun _ _ => ?_) | with_reducible refine KE_some ?_ | with_reducible refine KE_boe (fun _ _ => ?_) | with_reducible exact zb_Pr_clearHeap_64 (by assumption) hG0 hG1 | with_reducible exact hG0 _ _ _ _ (by assumption) | with_reducible exact hG1 _ _ _ _ _ _ _ (by assumption) | with_reducible refine KE_ltv (fun _ => ?_) | with_reducible refine KPS_I ?_ ?_ | with_reducible refine KPS_A ?_ ?_ | with_reducible refine KPS_J ?_ | with_reducible refine KPS_L ?_ | with_reducible refine KPS_N ?_ | with_reducible refine KPS_S ?_ | with_reducible refine KPS_gJ ?_ | with_reducible refine KPS_gI ?_ | omega | (unfold pq; omega) | exact KPS_o (by assumption) (by assumption))
theorem zb_Pr_clearHeap_0 {G : (MS → Nat → Int32 → Int32 → Option (MS × Unit)) × (MS → Nat → Int32 → Int32 → Nat → Int32 → Int32 → Option (MS × Unit))} {v0 : Nat} (h : KPS u0 u) (hG0 : ∀ (u : MS) a0 a1 a2, KPS u0 u → KE u0 (G.1 u a0 a1 a2)) (hG1 : ∀ (u : MS) a0 a1 a2 a3 a4 a5, KPS u0 u → KE u0 (G.2 u a0 a1 a2 a3 a4 a5)) : KE u0 (hb_Pr_clearHeap_0 N G u v0) := by
  unfold hb_Pr_clearHeap_0
  repeat' (first | with_reducible assumption | with_reducible refine KE_br ?_ ?_ | with_reducible refine KE_bnd ?_ (fun _ _ _ => ?_) | with_reducible refine KE_ck ?_ | with_reducible refine KE_ltm ?_ (fun _ _ => ?_) | with_reducible refine KE_some ?_ | with_reducible refine KE_boe (fun _ _ => ?_) | with_reducible exact hG0 _ _ _ _ (by assumption) | with_reducible exact hG1 _ _ _ _ _ _ _ (by assumption) | with_reducible refine KE_ltv (fun _ => ?_) | with_reducible refine KPS_I ?_ ?_ | with_reducible refine KPS_A ?_ ?_ | with_reducible refine KPS_J ?_ | with_reducible refine KPS_L ?_ | with_reducible refine KPS_N ?_ | with_reducible refine KPS_S ?_ | with_reducible refine KPS_gJ ?_ | with_reducible refine KPS_gI ?_ | omega | (unfold pq; omega) | exact KPS_o (by assumption) (by assumption))
theorem zg_Pr_clearHeap (n : Nat) : (∀ (u : MS) a0 a1 a2, KPS u0 u → KE u0 ((hg_Pr_clearHeap N n).1 u a0 a1 a2)) ∧ (∀ (u : MS) a0 a1 a2 a3 a4 a5, KPS u0 u → KE u0 ((hg_Pr_clearHeap N n).2 u a0 a1 a2 a3 a4 a5)) := by
  induction n with
  | zero => exact ⟨fun _ _ _ _ _ => KE_none, fun _ _ _ _ _ _ _ _ => KE_none⟩
  | succ n ih => exact ⟨fun _ _ _ _ h => zb_Pr_clearHeap_14 (N := N) h ih.1 ih.2, fun _ _ _ _ _ _ _ h => zb_Pr_clearHeap_112 (N := N) h ih.1 ih.2⟩
theorem zm_Pr_clearHeap {v0 : Nat} (h : KPS u0 u) : KE u0 (hm_Pr_clearHeap N u v0) := by
  unfold hm_Pr_clearHeap
  exact zb_Pr_clearHeap_0 h ((zg_Pr_clearHeap N).1) ((zg_Pr_clearHeap N).2)
theorem zb_Pr_want_33 {G : Unit} {t0 : Int32} (h : KPS u0 u)  : KE u0 (hb_Pr_want_33 N G u t0) := by
  unfold hb_Pr_want_33
  repeat' (first | with_reducible assumption | with_reducible refine KE_br ?_ ?_ | with_reducible refine KE_bnd ?_ (fun _ _ _ => ?_) | with_reducible refine KE_ck ?_ | with_reducible refine KE_ltm ?_ (fun _ _ => ?_) | with_reducible refine KE_some ?_ | with_reducible refine KE_boe (fun _ _ => ?_) | with_reducible refine KE_ltv (fun _ => ?_) | with_reducible refine KPS_I ?_ ?_ | with_reducible refine KPS_A ?_ ?_ | with_reducible refine KPS_J ?_ | with_reducible refine KPS_L ?_ | with_reducible refine KPS_N ?_ | with_reducible refine KPS_S ?_ | with_reducible refine KPS_gJ ?_ | with_reducible refine KPS_gI ?_ | omega | (unfold pq; omega) | exact KPS_o (by assumption) (by assumption))
theorem zb_Pr_want_16 {G : Unit} {v0 : Nat} {v1 : Int32} (h : KPS u0 u)  : KE u0 (hb_Pr_want_16 N G u v0 v1) := by
  unfold hb_Pr_want_16
  repeat' (first | with_reducible assumption | with_reducible refine KE_br ?_ ?_ | with_reducible refine KE_bnd ?_ (fun _ _ _ => ?_) | with_reducible refine KE_ck ?_ | with_reducible refine KE_ltm ?_ (fun _ _ => ?_) | with_reducible refine KE_some ?_ | with_reducible refine KE_boe (fun _ _ => ?_) | with_reducible exact zb_Pr_want_33 (by assumption) | with_reducible refine KE_ltv (fun _ => ?_) | with_reducible refine KPS_I ?_ ?_ | with_reducible refine KPS_A ?_ ?_ | with_reducible refine KPS_J ?_ | with_reducible refine KPS_L ?_ | with_reducible refine KPS_N ?_ | with_reducible refine KPS_S ?_ | with_reducible refine KPS_gJ ?_ | with_reducible refine KPS_gI ?_ | omega | (unfold pq; omega) | exact KPS_o (by assumption) (by assumption))
theorem zb_Pr_want_0 {G : Unit} {v0 : Nat} {v1 : Int32} (h : KPS u0 u)  : KE u0 (hb_Pr_want_0 N G u v0 v1) := by
  unfold hb_Pr_want_0
  repeat' (first | with_reducible assumption | with_reducible refine KE_br ?_ ?_ | with_reducible refine KE_bnd ?_ (fun _ _ _ => ?_) | with_reducible refine KE_ck ?_ | with_reducible refine KE_ltm ?_ (fun _ _ => ?_) | with_reducible refine KE_some ?_ | with_reducible refine KE_boe (fun _ _ => ?_) | with_reducible exact zm_Pr_clearHeap (by assumption) | with_reducible exact zb_Pr_want_16 (by assumption) | with_reducible refine KE_ltv (fun _ => ?_) | with_reducible refine KPS_I ?_ ?_ | with_reducible refine KPS_A ?_ ?_ | with_reducible refine KPS_J ?_ | with_reducible refine KPS_L ?_ | with_reducible refine KPS_N ?_ | with_reducible refine KPS_S ?_ | with_reducible refine KPS_gJ ?_ | with_reducible refine KPS_gI ?_ | omega | (unfold pq; omega) | exact KPS_o (by assumption) (by assumption))
theorem zm_Pr_want {v0 : Nat} {v1 : Int32} (h : KPS u0 u) : KE u0 (hm_Pr_want N u v0 v1) := by
  unfold hm_Pr_want
  exact zb_Pr_want_0 h
theorem zb_Pr_copyIn_140 {G : (MS → Nat → Nat → Int64 → Int64 → Int32 → Int32 → Option (MS × Int64))} {v0 : Nat} {v1 : Nat} {v2 : Int64} {v4 : Int64} {v6 : Int32} {v7 : Int32} (h : KPS u0 u) (hG0 : ∀ (u : MS) a0 a1 a2 a3 a4 a5, KPS u0 u → KE u0 (G u a0 a1 a2 a3 a4 a5)) : KE u0 (hb_Pr_copyIn_140 N G u v0 v1 v2 v4 v6 v7) := by
  unfold hb_Pr_copyIn_140
  repeat' (first | with_reducible assumption | with_reducible refine KE_br ?_ ?_ | with_reducible refine KE_bnd ?_ (fun _ _ _ => ?_) | with_reducible refine KE_ck ?_ | with_reducible refine KE_ltm ?_ (fun _ _ => ?_) | with_reducible refine KE_some ?_ | with_reducible refine KE_boe (fun _ _ => ?_) | with_reducible exact hG0 _ _ _ _ _ _ _ (by assumption) | with_reducible refine KE_ltv (fun _ => ?_) | with_reducible refine KPS_I ?_ ?_ | with_reducible refine KPS_A ?_ ?_ | with_reducible refine KPS_J ?_ | with_reducible refine KPS_L ?_ | with_reducible refine KPS_N ?_ | with_reducible refine KPS_S ?_ | with_reducible refine KPS_gJ ?_ | with_reducible refine KPS_gI ?_ | omega | (unfold pq; omega) | exact KPS_o (by assumption) (by assumption))
theorem zb_Pr_copyIn_42 {G : (MS → Nat → Nat → Int64 → Int64 → Int32 → Int32 → Option (MS × Int64))} {v0 : Nat} {v1 : Nat} {v2 : Int64} {v4 : Int64} {v6 : Int32} {v7 : Int32} {t0 : Int64} (h : KPS u0 u) (hG0 : ∀ (u : MS) a0 a1 a2 a3 a4 a5, KPS u0 u → KE u0 (G u a0 a1 a2 a3 a4 a5)) : KE u0 (hb_Pr_copyIn_42 N G u v0 v1 v2 v4 v6 v7 t0) := by
  unfold hb_Pr_copyIn_42
  repeat' (first | with_reducible assumption | with_reducible refine KE_br ?_ ?_ | with_reducible refine KE_bnd ?_ (fun _ _ _ => ?_) | with_reducible refine KE_ck ?_ | with_reducible refine KE_ltm ?_ (fun _ _ => ?_) | with_reducible refine KE_some ?_ | with_reducible refine KE_boe (fun _ _ => ?_) | with_reducible exact zb_Pr_copyIn_140 (by assumption) hG0 | with_reducible exact zm_Te_cellsAt (by assumption) | with_reducible exact hG0 _ _ _ _ _ _ _ (by assumption) | with_reducible refine KE_ltv (fun _ => ?_) | with_reducible refine KPS_I ?_ ?_ | with_reducible refine KPS_A ?_ ?_ | with_reducible refine KPS_J ?_ | with_reducible refine KPS_L ?_ | with_reducible refine KPS_N ?_ | with_reducible refine KPS_S ?_ | with_reducible refine KPS_gJ ?_ | with_reducible refine KPS_gI ?_ | omega | (unfold pq; omega) | exact KPS_o (by assumption) (by assumption))
theorem zb_Pr_copyIn_15 {G : (MS → Nat → Nat → Int64 → Int64 → Int32 → Int32 → Option (MS × Int64))} {v0 : Nat} {v1 : Nat} {v2 : Int64} {v4 : Int64} {v6 : Int32} {v7 : Int32} (h : KPS u0 u) (hG0 : ∀ (u : MS) a0 a1 a2 a3 a4 a5, KPS u0 u → KE u0 (G u a0 a1 a2 a3 a4 a5)) : KE u0 (hb_Pr_copyIn_15 N G u v0 v1 v2 v4 v6 v7) := by
  unfold hb_Pr_copyIn_15
  repeat' (first | with_reducible assumption | with_reducible refine KE_br ?_ ?_ | with_reducible refine KE_bnd ?_ (fun _ _ _ => ?_) | with_reducible refine KE_ck ?_ | with_reducible refine KE_ltm ?_ (fun _ _ => ?_) | with_reducible refine KE_some ?_ | with_reducible refine KE_boe (fun _ _ => ?_) | with_reducible exact zb_Pr_copyIn_42 (by assumption) hG0 | with_reducible exact hG0 _ _ _ _ _ _ _ (by assumption) | with_reducible refine KE_ltv (fun _ => ?_) | with_reducible refine KPS_I ?_ ?_ | with_reducible refine KPS_A ?_ ?_ | with_reducible refine KPS_J ?_ | with_reducible refine KPS_L ?_ | with_reducible refine KPS_N ?_ | with_reducible refine KPS_S ?_ | with_reducible refine KPS_gJ ?_ | with_reducible refine KPS_gI ?_ | omega | (unfold pq; omega) | exact KPS_o (by assumption) (by assumption))
theorem zb_Pr_copyIn_0 {G : (MS → Nat → Nat → Int64 → Int64 → Int32 → Int32 → Option (MS × Int64))} {v0 : Nat} {v1 : Nat} {v2 : Int64} (h : KPS u0 u) (hG0 : ∀ (u : MS) a0 a1 a2 a3 a4 a5, KPS u0 u → KE u0 (G u a0 a1 a2 a3 a4 a5)) : KE u0 (hb_Pr_copyIn_0 N G u v0 v1 v2) := by
  unfold hb_Pr_copyIn_0
  repeat' (first | with_reducible assumption | with_reducible refine KE_br ?_ ?_ | with_reducible refine KE_bnd ?_ (fun _ _ _ => ?_) | with_reducible refine KE_ck ?_ | with_reducible refine KE_ltm ?_ (fun _ _ => ?_) | with_reducible refine KE_some ?_ | with_reducible refine KE_boe (fun _ _ => ?_) | with_reducible exact hG0 _ _ _ _ _ _ _ (by assumption) | with_reducible refine KE_ltv (fun _ => ?_) | with_reducible refine KPS_I ?_ ?_ | with_reducible refine KPS_A ?_ ?_ | with_reducible refine KPS_J ?_ | with_reducible refine KPS_L ?_ | with_reducible refine KPS_N ?_ | with_reducible refine KPS_S ?_ | with_reducible refine KPS_gJ ?_ | with_reducible refine KPS_gI ?_ | omega | (unfold pq; omega) | exact KPS_o (by assumption) (by assumption))
theorem zg_Pr_copyIn (n : Nat) : (∀ (u : MS) a0 a1 a2 a3 a4 a5, KPS u0 u → KE u0 ((hg_Pr_copyIn N n) u a0 a1 a2 a3 a4 a5)) := by
  induction n with
  | zero => exact fun _ _ _ _ _ _ _ _ => KE_none
  | succ n ih => exact fun _ _ _ _ _ _ _ h => zb_Pr_copyIn_15 (N := N) h ih
theorem zm_Pr_copyIn {v0 : Nat} {v1 : Nat} {v2 : Int64} (h : KPS u0 u) : KE u0 (hm_Pr_copyIn N u v0 v1 v2) := by
  unfold hm_Pr_copyIn
  exact zb_Pr_copyIn_0 h (zg_Pr_copyIn N)
theorem zb_Fr_bind_48 {G : Unit} {v0 : Nat} {v1 : Int32} {v2 : Int64} (h : KPS u0 u)  : KE u0 (hb_Fr_bind_48 N G u v0 v1 v2) := by
  unfold hb_Fr_bind_48
  repeat' (first | with_reducible assumption | with_reducible refine KE_br ?_ ?_ | with_reducible refine KE_bnd ?_ (fun _ _ _ => ?_) | with_reducible refine KE_ck ?_ | with_reducible refine KE_ltm ?_ (fun _ _ => ?_) | with_reducible refine KE_some ?_ | with_reducible refine KE_boe (fun _ _ => ?_) | with_reducible refine KE_ltv (fun _ => ?_) | with_reducible refine KPS_I ?_ ?_ | with_reducible refine KPS_A ?_ ?_ | with_reducible refine KPS_J ?_ | with_reducible refine KPS_L ?_ | with_reducible refine KPS_N ?_ | with_reducible refine KPS_S ?_ | with_reducible refine KPS_gJ ?_ | with_reducible refine KPS_gI ?_ | omega | (unfold pq; omega) | exact KPS_o (by assumption) (by assumption))
theorem zb_Fr_bind_0 {G : Unit} {v0 : Nat} {v1 : Int32} {v2 : Int64} (h : KPS u0 u)  : KE u0 (hb_Fr_bind_0 N G u v0 v1 v2) := by
  unfold hb_Fr_bind_0
  repeat' (first | with_reducible assumption | with_reducible refine KE_br ?_ ?_ | with_reducible refine KE_bnd ?_ (fun _ _ _ => ?_) | with_reducible refine KE_ck ?_ | with_reducible refine KE_ltm ?_ (fun _ _ => ?_) | with_reducible refine KE_some ?_ | with_reducible refine KE_boe (fun _ _ => ?_) | with_reducible exact zb_Fr_bind_48 (by assumption) | with_reducible refine KE_ltv (fun _ => ?_) | with_reducible refine KPS_I ?_ ?_ | with_reducible refine KPS_A ?_ ?_ | with_reducible refine KPS_J ?_ | with_reducible refine KPS_L ?_ | with_reducible refine KPS_N ?_ | with_reducible refine KPS_S ?_ | with_reducible refine KPS_gJ ?_ | with_reducible refine KPS_gI ?_ | omega | (unfold pq; omega) | exact KPS_o (by assumption) (by assumption))
theorem zm_Fr_bind {v0 : Nat} {v1 : Int32} {v2 : Int64} (h : KPS u0 u) : KE u0 (hm_Fr_bind N u v0 v1 v2) := by
  unfold hm_Fr_bind
  exact zb_Fr_bind_0 h
theorem zb_Ma_hold_40 {G : (MS → Nat → Nat → Nat → Int64 → Int32 → Int32 → Option (MS × Unit))} {p : Nat} {v1 : Nat} {v2 : Nat} {v3 : Int64} {v6 : Int32} {v7 : Int32} (h : KPS u0 u) (hG0 : ∀ (u : MS) a0 a1 a2 a3 a4 a5, KPS u0 u → KE u0 (G u a0 a1 a2 a3 a4 a5)) : KE u0 (hb_Ma_hold_40 N G u p v1 v2 v3 v6 v7) := by
  unfold hb_Ma_hold_40
  repeat' (first | with_reducible assumption | with_reducible refine KE_br ?_ ?_ | with_reducible refine KE_bnd ?_ (fun _ _ _ => ?_) | with_reducible refine KE_ck ?_ | with_reducible refine KE_ltm ?_ (fun _ _ => ?_) | with_reducible refine KE_some ?_ | with_reducible refine KE_boe (fun _ _ => ?_) | with_reducible exact zm_Fr_bind (by assumption) | with_reducible exact zm_Co_at (by assumption) | with_reducible exact hG0 _ _ _ _ _ _ _ (by assumption) | with_reducible refine KE_ltv (fun _ => ?_) | with_reducible refine KPS_I ?_ ?_ | with_reducible refine KPS_A ?_ ?_ | with_reducible refine KPS_J ?_ | with_reducible refine KPS_L ?_ | with_reducible refine KPS_N ?_ | with_reducible refine KPS_S ?_ | with_reducible refine KPS_gJ ?_ | with_reducible refine KPS_gI ?_ | omega | (unfold pq; omega) | exact KPS_o (by assumption) (by assumption))
theorem zb_Ma_hold_24 {G : (MS → Nat → Nat → Nat → Int64 → Int32 → Int32 → Option (MS × Unit))} {p : Nat} (h : KPS u0 u) (hG0 : ∀ (u : MS) a0 a1 a2 a3 a4 a5, KPS u0 u → KE u0 (G u a0 a1 a2 a3 a4 a5)) : KE u0 (hb_Ma_hold_24 N G u p) := by
  unfold hb_Ma_hold_24
  repeat' (first | with_reducible assumption | with_reducible refine KE_br ?_ ?_ | with_reducible refine KE_bnd ?_ (fun _ _ _ => ?_) | with_reducible refine KE_ck ?_ | with_reducible refine KE_ltm ?_ (fun _ _ => ?_) | with_reducible refine KE_some ?_ | with_reducible refine KE_boe (fun _ _ => ?_) | with_reducible exact hG0 _ _ _ _ _ _ _ (by assumption) | with_reducible refine KE_ltv (fun _ => ?_) | with_reducible refine KPS_I ?_ ?_ | with_reducible refine KPS_A ?_ ?_ | with_reducible refine KPS_J ?_ | with_reducible refine KPS_L ?_ | with_reducible refine KPS_N ?_ | with_reducible refine KPS_S ?_ | with_reducible refine KPS_gJ ?_ | with_reducible refine KPS_gI ?_ | omega | (unfold pq; omega) | exact KPS_o (by assumption) (by assumption))
theorem zb_Ma_hold_0 {G : (MS → Nat → Nat → Nat → Int64 → Int32 → Int32 → Option (MS × Unit))} {p : Nat} {v1 : Nat} {v2 : Nat} {v3 : Int64} (h : KPS u0 u) (hG0 : ∀ (u : MS) a0 a1 a2 a3 a4 a5, KPS u0 u → KE u0 (G u a0 a1 a2 a3 a4 a5)) : KE u0 (hb_Ma_hold_0 N G u p v1 v2 v3) := by
  unfold hb_Ma_hold_0
  repeat' (first | with_reducible assumption | with_reducible refine KE_br ?_ ?_ | with_reducible refine KE_bnd ?_ (fun _ _ _ => ?_) | with_reducible refine KE_ck ?_ | with_reducible refine KE_ltm ?_ (fun _ _ => ?_) | with_reducible refine KE_some ?_ | with_reducible refine KE_boe (fun _ _ => ?_) | with_reducible exact zb_Ma_hold_24 (by assumption) hG0 | with_reducible exact hG0 _ _ _ _ _ _ _ (by assumption) | with_reducible refine KE_ltv (fun _ => ?_) | with_reducible refine KPS_I ?_ ?_ | with_reducible refine KPS_A ?_ ?_ | with_reducible refine KPS_J ?_ | with_reducible refine KPS_L ?_ | with_reducible refine KPS_N ?_ | with_reducible refine KPS_S ?_ | with_reducible refine KPS_gJ ?_ | with_reducible refine KPS_gI ?_ | omega | (unfold pq; omega) | exact KPS_o (by assumption) (by assumption))
theorem zg_Ma_hold (n : Nat) : (∀ (u : MS) a0 a1 a2 a3 a4 a5, KPS u0 u → KE u0 ((hg_Ma_hold N n) u a0 a1 a2 a3 a4 a5)) := by
  induction n with
  | zero => exact fun _ _ _ _ _ _ _ _ => KE_none
  | succ n ih => exact fun _ _ _ _ _ _ _ h => zb_Ma_hold_40 (N := N) h ih
theorem zm_Ma_hold {p : Nat} {v1 : Nat} {v2 : Nat} {v3 : Int64} (h : KPS u0 u) : KE u0 (hm_Ma_hold N u p v1 v2 v3) := by
  unfold hm_Ma_hold
  exact zb_Ma_hold_0 h (zg_Ma_hold N)
theorem zb_Fr_drop_0 {G : Unit} {v0 : Nat} {v1 : Int32} (h : KPS u0 u)  : KE u0 (hb_Fr_drop_0 N G u v0 v1) := by
  unfold hb_Fr_drop_0
  repeat' (first | with_reducible assumption | with_reducible refine KE_br ?_ ?_ | with_reducible refine KE_bnd ?_ (fun _ _ _ => ?_) | with_reducible refine KE_ck ?_ | with_reducible refine KE_ltm ?_ (fun _ _ => ?_) | with_reducible refine KE_some ?_ | with_reducible refine KE_boe (fun _ _ => ?_) | with_reducible refine KE_ltv (fun _ => ?_) | with_reducible refine KPS_I ?_ ?_ | with_reducible refine KPS_A ?_ ?_ | with_reducible refine KPS_J ?_ | with_reducible refine KPS_L ?_ | with_reducible refine KPS_N ?_ | with_reducible refine KPS_S ?_ | with_reducible refine KPS_gJ ?_ | with_reducible refine KPS_gI ?_ | omega | (unfold pq; omega) | exact KPS_o (by assumption) (by assumption))
theorem zm_Fr_drop {v0 : Nat} {v1 : Int32} (h : KPS u0 u) : KE u0 (hm_Fr_drop N u v0 v1) := by
  unfold hm_Fr_drop
  exact zb_Fr_drop_0 h
theorem zb_Fr_push_30 {G : Unit} {v0 : Nat} {v1 : Int64} (h : KPS u0 u)  : KE u0 (hb_Fr_push_30 N G u v0 v1) := by
  unfold hb_Fr_push_30
  repeat' (first | with_reducible assumption | with_reducible refine KE_br ?_ ?_ | with_reducible refine KE_bnd ?_ (fun _ _ _ => ?_) | with_reducible refine KE_ck ?_ | with_reducible refine KE_ltm ?_ (fun _ _ => ?_) | with_reducible refine KE_some ?_ | with_reducible refine KE_boe (fun _ _ => ?_) | with_reducible refine KE_ltv (fun _ => ?_) | with_reducible refine KPS_I ?_ ?_ | with_reducible refine KPS_A ?_ ?_ | with_reducible refine KPS_J ?_ | with_reducible refine KPS_L ?_ | with_reducible refine KPS_N ?_ | with_reducible refine KPS_S ?_ | with_reducible refine KPS_gJ ?_ | with_reducible refine KPS_gI ?_ | omega | (unfold pq; omega) | exact KPS_o (by assumption) (by assumption))
theorem zb_Fr_push_0 {G : Unit} {v0 : Nat} {v1 : Int64} (h : KPS u0 u)  : KE u0 (hb_Fr_push_0 N G u v0 v1) := by
  unfold hb_Fr_push_0
  repeat' (first | with_reducible assumption | with_reducible refine KE_br ?_ ?_ | with_reducible refine KE_bnd ?_ (fun _ _ _ => ?_) | with_reducible refine KE_ck ?_ | with_reducible refine KE_ltm ?_ (fun _ _ => ?_) | with_reducible refine KE_some ?_ | with_reducible refine KE_boe (fun _ _ => ?_) | with_reducible exact zb_Fr_push_30 (by assumption) | with_reducible refine KE_ltv (fun _ => ?_) | with_reducible refine KPS_I ?_ ?_ | with_reducible refine KPS_A ?_ ?_ | with_reducible refine KPS_J ?_ | with_reducible refine KPS_L ?_ | with_reducible refine KPS_N ?_ | with_reducible refine KPS_S ?_ | with_reducible refine KPS_gJ ?_ | with_reducible refine KPS_gI ?_ | omega | (unfold pq; omega) | exact KPS_o (by assumption) (by assumption))
theorem zm_Fr_push {v0 : Nat} {v1 : Int64} (h : KPS u0 u) : KE u0 (hm_Fr_push N u v0 v1) := by
  unfold hm_Fr_push
  exact zb_Fr_push_0 h
theorem zb_Ma_answer_0 {G : Unit} {p : Nat} {v1 : Int32} {v2 : Int64} (h : KPS u0 u)  : KE u0 (hb_Ma_answer_0 N G u p v1 v2) := by
  unfold hb_Ma_answer_0
  repeat' (first | with_reducible assumption | with_reducible refine KE_br ?_ ?_ | with_reducible refine KE_bnd ?_ (fun _ _ _ => ?_) | with_reducible refine KE_ck ?_ | with_reducible refine KE_ltm ?_ (fun _ _ => ?_) | with_reducible refine KE_some ?_ | with_reducible refine KE_boe (fun _ _ => ?_) | with_reducible exact zm_Fr_drop (by assumption) | with_reducible exact zm_Fr_push (by assumption) | with_reducible refine KE_ltv (fun _ => ?_) | with_reducible refine KPS_I ?_ ?_ | with_reducible refine KPS_A ?_ ?_ | with_reducible refine KPS_J ?_ | with_reducible refine KPS_L ?_ | with_reducible refine KPS_N ?_ | with_reducible refine KPS_S ?_ | with_reducible refine KPS_gJ ?_ | with_reducible refine KPS_gI ?_ | omega | (unfold pq; omega) | exact KPS_o (by assumption) (by assumption))
theorem zm_Ma_answer {p : Nat} {v1 : Int32} {v2 : Int64} (h : KPS u0 u) : KE u0 (hm_Ma_answer N u p v1 v2) := by
  unfold hm_Ma_answer
  exact zb_Ma_answer_0 h
theorem zb_Ma_spawn_170 {G : Unit} {p : Nat} {v4 : Nat} (h : KPS u0 u)  : KE u0 (hb_Ma_spawn_170 N G u p v4) := by
  unfold hb_Ma_spawn_170
  repeat' (first | with_reducible assumption | with_reducible refine KE_br ?_ ?_ | with_reducible refine KE_bnd ?_ (fun _ _ _ => ?_) | with_reducible refine KE_ck ?_ | with_reducible refine KE_ltm ?_ (fun _ _ => ?_) | with_reducible refine KE_some ?_ | with_reducible refine KE_boe (fun _ _ => ?_) | with_reducible exact zm_Ma_answer (by assumption) | with_reducible exact zm_Te_make (by assumption) | with_reducible refine KE_ltv (fun _ => ?_) | with_reducible refine KPS_I ?_ ?_ | with_reducible refine KPS_A ?_ ?_ | with_reducible refine KPS_J ?_ | with_reducible refine KPS_L ?_ | with_reducible refine KPS_N ?_ | with_reducible refine KPS_S ?_ | with_reducible refine KPS_gJ ?_ | with_reducible refine KPS_gI ?_ | omega | (unfold pq; omega) | exact KPS_o (by assumption) (by assumption))
theorem zb_Ma_spawn_59 {G : Unit} {p : Nat} {v1 : Int64} {t0 : Option Nat} (h : KPS u0 u)  : KE u0 (hb_Ma_spawn_59 N G u p v1 t0) := by
  unfold hb_Ma_spawn_59
  repeat' (first | with_reducible assumption | with_reducible refine KE_br ?_ ?_ | with_reducible refine KE_bnd ?_ (fun _ _ _ => ?_) | with_reducible refine KE_ck ?_ | with_reducible refine KE_ltm ?_ (fun _ _ => ?_) | with_reducible refine KE_some ?_ | with_reducible refine KE_boe (fun _ _ => ?_) | with_reducible exact zm_Ma_functionOf (by assumption) | with_reducible exact zb_Ma_spawn_170 (by assumption) | with_reducible exact zm_Ma_entryOf (by assumption) | with_reducible exact zm_Pr_copyIn (by assumption) | with_reducible exact zm_Wl_endsBy (by assumption) | with_reducible exact zm_Ma_wrong (by assumption) | with_reducible exact zm_Fr_open (by assumption) | with_reducible exact zm_Ma_hold (by assumption) | with_reducible exact zm_Pr_want (by assumption) | with_reducible exact zm_Te_size (by assumption) | with_reducible refine KE_ltv (fun _ => ?_) | with_reducible refine KPS_I ?_ ?_ | with_reducible refine KPS_A ?_ ?_ | with_reducible refine KPS_J ?_ | with_reducible refine KPS_L ?_ | with_reducible refine KPS_N ?_ | with_reducible refine KPS_S ?_ | with_reducible refine KPS_gJ ?_ | with_reducible refine KPS_gI ?_ | omega | (unfold pq; omega) | exact KPS_o (by assumption) (by assumption))
theorem zb_Ma_spawn_43 {G : Unit} {p : Nat} {v1 : Int64} {t0 : Int32} (h : KPS u0 u)  : KE u0 (hb_Ma_spawn_43 N G u p v1 t0) := by
  unfold hb_Ma_spawn_43
  repeat' (first | with_reducible assumption | with_reducible refine KE_br ?_ ?_ | with_reducible refine KE_bnd ?_ (fun _ _ _ => ?_) | with_reducible refine KE_ck ?_ | with_reducible refine KE_ltm ?_ (fun _ _ => ?_) | with_reducible refine KE_some ?_ | with_reducible refine KE_boe (fun _ _ => ?_) | with_reducible exact zb_Ma_spawn_59 (by assumption) | with_reducible exact zm_Wl_born (by assumption) | with_reducible refine KE_ltv (fun _ => ?_) | with_reducible refine KPS_I ?_ ?_ | with_reducible refine KPS_A ?_ ?_ | with_reducible refine KPS_J ?_ | with_reducible refine KPS_L ?_ | with_reducible refine KPS_N ?_ | with_reducible refine KPS_S ?_ | with_reducible refine KPS_gJ ?_ | with_reducible refine KPS_gI ?_ | omega | (unfold pq; omega) | exact KPS_o (by assumption) (by assumption))
theorem zb_Ma_spawn_42 {G : Unit} {p : Nat} {v1 : Int64} (h : KPS u0 u)  : KE u0 (hb_Ma_spawn_42 N G u p v1) := by
  unfold hb_Ma_spawn_42
  repeat' (first | with_reducible assumption | with_reducible refine KE_br ?_ ?_ | with_reducible refine KE_bnd ?_ (fun _ _ _ => ?_) | with_reducible refine KE_ck ?_ | with_reducible refine KE_ltm ?_ (fun _ _ => ?_) | with_reducible refine KE_some ?_ | with_reducible refine KE_boe (fun _ _ => ?_) | with_reducible exact zb_Ma_spawn_43 (by assumption) | with_reducible refine KE_ltv (fun _ => ?_) | with_reducible refine KPS_I ?_ ?_ | with_reducible refine KPS_A ?_ ?_ | with_reducible refine KPS_J ?_ | with_reducible refine KPS_L ?_ | with_reducible refine KPS_N ?_ | with_reducible refine KPS_S ?_ | with_reducible refine KPS_gJ ?_ | with_reducible refine KPS_gI ?_ | omega | (unfold pq; omega) | exact KPS_o (by assumption) (by assumption))
theorem zb_Ma_spawn_0 {G : Unit} {p : Nat} (h : KPS u0 u)  : KE u0 (hb_Ma_spawn_0 N G u p) := by
  unfold hb_Ma_spawn_0
  repeat' (first | with_reducible assumption | with_reducible refine KE_br ?_ ?_ | with_reducible refine KE_bnd ?_ (fun _ _ _ => ?_) | with_reducible refine KE_ck ?_ | with_reducible refine KE_ltm ?_ (fun _ _ => ?_) | with_reducible refine KE_some ?_ | with_reducible refine KE_boe (fun _ _ => ?_) | with_reducible exact zb_Ma_spawn_42 (by assumption) | with_reducible exact zb_Ma_spawn_43 (by assumption) | with_reducible exact zm_Co_takes (by assumption) | with_reducible exact zm_Fr_below (by assumption) | with_reducible exact zm_Te_tag (by assumption) | with_reducible refine KE_ltv (fun _ => ?_) | with_reducible refine KPS_I ?_ ?_ | with_reducible refine KPS_A ?_ ?_ | with_reducible refine KPS_J ?_ | with_reducible refine KPS_L ?_ | with_reducible refine KPS_N ?_ | with_reducible refine KPS_S ?_ | with_reducible refine KPS_gJ ?_ | with_reducible refine KPS_gI ?_ | omega | (unfold pq; omega) | exact KPS_o (by assumption) (by assumption))
theorem zm_Ma_spawn {p : Nat} (h : KPS u0 u) : KE u0 (hm_Ma_spawn N u p) := by
  unfold hm_Ma_spawn
  exact zb_Ma_spawn_0 h
theorem zb_Te_write_52 {G : Unit} (h : KPS u0 u)  : KE u0 (hb_Te_write_52 N G u) := by
  unfold hb_Te_write_52
  repeat' (first | with_reducible assumption | with_reducible refine KE_br ?_ ?_ | with_reducible refine KE_bnd ?_ (fun _ _ _ => ?_) | with_reducible refine KE_ck ?_ | with_reducible refine KE_ltm ?_ (fun _ _ => ?_) | with_reducible refine KE_some ?_ | with_reducible refine KE_boe (fun _ _ => ?_) | with_reducible refine KE_ltv (fun _ => ?_) | with_reducible refine KPS_I ?_ ?_ | with_reducible refine KPS_A ?_ ?_ | with_reducible refine KPS_J ?_ | with_reducible refine KPS_L ?_ | with_reducible refine KPS_N ?_ | with_reducible refine KPS_S ?_ | with_reducible refine KPS_gJ ?_ | with_reducible refine KPS_gI ?_ | omega | (unfold pq; omega) | exact KPS_o (by assumption) (by assumption))
theorem zb_Te_write_0 {G : Unit} {v1 : Int32} (h : KPS u0 u)  : KE u0 (hb_Te_write_0 N G u v1) := by
  unfold hb_Te_write_0
  repeat' (first | with_reducible assumption | with_reducible refine KE_br ?_ ?_ | with_reducible refine KE_bnd ?_ (fun _ _ _ => ?_) | with_reducible refine KE_ck ?_ | with_reducible refine KE_ltm ?_ (fun _ _ => ?_) | with_reducible refine KE_some ?_ | with_reducible refine KE_boe (fun _ _ => ?_) | with_reducible exact zb_Te_write_52 (by assumption) | with_reducible refine KE_ltv (fun _ => ?_) | with_reducible refine KPS_I ?_ ?_ | with_reducible refine KPS_A ?_ ?_ | with_reducible refine KPS_J ?_ | with_reducible refine KPS_L ?_ | with_reducible refine KPS_N ?_ | with_reducible refine KPS_S ?_ | with_reducible refine KPS_gJ ?_ | with_reducible refine KPS_gI ?_ | omega | (unfold pq; omega) | exact KPS_o (by assumption) (by assumption))
theorem zm_Te_write {v1 : Int32} (h : KPS u0 u) : KE u0 (hm_Te_write N u v1) := by
  unfold hm_Te_write
  exact zb_Te_write_0 h
theorem zb_Te_toWriteRest_19 {G : Unit} {v1 : Nat} {v2 : Int32} {t0 : Int64} (h : KPS u0 u)  : KE u0 (hb_Te_toWriteRest_19 N G u v1 v2 t0) := by
  unfold hb_Te_toWriteRest_19
  repeat' (first | with_reducible assumption | with_reducible refine KE_br ?_ ?_ | with_reducible refine KE_bnd ?_ (fun _ _ _ => ?_) | with_reducible refine KE_ck ?_ | with_reducible refine KE_ltm ?_ (fun _ _ => ?_) | with_reducible refine KE_some ?_ | with_reducible refine KE_boe (fun _ _ => ?_) | with_reducible exact zm_Te_toWritePair (by assumption) | with_reducible exact zm_Te_write (by assumption) | with_reducible exact zm_Te_make (by assumption) | with_reducible exact zm_Te_push (by assumption) | with_reducible exact zm_Te_tag (by assumption) | with_reducible refine KE_ltv (fun _ => ?_) | with_reducible refine KPS_I ?_ ?_ | with_reducible refine KPS_A ?_ ?_ | with_reducible refine KPS_J ?_ | with_reducible refine KPS_L ?_ | with_reducible refine KPS_N ?_ | with_reducible refine KPS_S ?_ | with_reducible refine KPS_gJ ?_ | with_reducible refine KPS_gI ?_ | omega | (unfold pq; omega) | exact KPS_o (by assumption) (by assumption))
theorem zb_Te_toWriteRest_0 {G : Unit} {v1 : Nat} {v2 : Int32} (h : KPS u0 u)  : KE u0 (hb_Te_toWriteRest_0 N G u v1 v2) := by
  unfold hb_Te_toWriteRest_0
  repeat' (first | with_reducible assumption | with_reducible refine KE_br ?_ ?_ | with_reducible refine KE_bnd ?_ (fun _ _ _ => ?_) | with_reducible refine KE_ck ?_ | with_reducible refine KE_ltm ?_ (fun _ _ => ?_) | with_reducible refine KE_some ?_ | with_reducible refine KE_boe (fun _ _ => ?_) | with_reducible exact zb_Te_toWriteRest_19 (by assumption) | with_reducible exact zm_Te_make (by assumption) | with_reducible refine KE_ltv (fun _ => ?_) | with_reducible refine KPS_I ?_ ?_ | with_reducible refine KPS_A ?_ ?_ | with_reducible refine KPS_J ?_ | with_reducible refine KPS_L ?_ | with_reducible refine KPS_N ?_ | with_reducible refine KPS_S ?_ | with_reducible refine KPS_gJ ?_ | with_reducible refine KPS_gI ?_ | omega | (unfold pq; omega) | exact KPS_o (by assumption) (by assumption))
theorem zm_Te_toWriteRest {v1 : Nat} {v2 : Int32} (h : KPS u0 u) : KE u0 (hm_Te_toWriteRest N u v1 v2) := by
  unfold hm_Te_toWriteRest
  exact zb_Te_toWriteRest_0 h
theorem zb_Te_writeNumber_43 {G : (MS → Int64 → Int64 → Option (MS × Unit)) × (MS → Int64 → Int64 → Option (MS × Unit))} {v2 : Int64} {v4 : Int64} (h : KPS u0 u) (hG0 : ∀ (u : MS) a0 a1, KPS u0 u → KE u0 (G.1 u a0 a1)) (hG1 : ∀ (u : MS) a0 a1, KPS u0 u → KE u0 (G.2 u a0 a1)) : KE u0 (hb_Te_writeNumber_43 N G u v2 v4) := by
  unfold hb_Te_writeNumber_43
  repeat' (first | with_reducible assumption | with_reducible refine KE_br ?_ ?_ | with_reducible refine KE_bnd ?_ (fun _ _ _ => ?_) | with_reducible refine KE_ck ?_ | with_reducible refine KE_ltm ?_ (fun _ _ => ?_) | with_reducible refine KE_some ?_ | with_reducible refine KE_boe (fun _ _ => ?_) | with_reducible exact zm_Te_write (by assumption) | with_reducible exact hG0 _ _ _ (by assumption) | with_reducible exact hG1 _ _ _ (by assumption) | with_reducible refine KE_ltv (fun _ => ?_) | with_reducible refine KPS_I ?_ ?_ | with_reducible refine KPS_A ?_ ?_ | with_reducible refine KPS_J ?_ | with_reducible refine KPS_L ?_ | with_reducible refine KPS_N ?_ | with_reducible refine KPS_S ?_ | with_reducible refine KPS_gJ ?_ | with_reducible refine KPS_gI ?_ | omega | (unfold pq; omega) | exact KPS_o (by assumption) (by assumption))
theorem zb_Te_writeNumber_21 {G : (MS → Int64 → Int64 → Option (MS × Unit)) × (MS → Int64 → Int64 → Option (MS × Unit))} {v2 : Int64} {v4 : Int64} (h : KPS u0 u) (hG0 : ∀ (u : MS) a0 a1, KPS u0 u → KE u0 (G.1 u a0 a1)) (hG1 : ∀ (u : MS) a0 a1, KPS u0 u → KE u0 (G.2 u a0 a1)) : KE u0 (hb_Te_writeNumber_21 N G u v2 v4) := by
  unfold hb_Te_writeNumber_21
  repeat' (first | with_reducible assumption | with_reducible refine KE_br ?_ ?_ | with_reducible refine KE_bnd ?_ (fun _ _ _ => ?_) | with_reducible refine KE_ck ?_ | with_reducible refine KE_ltm ?_ (fun _ _ => ?_) | with_reducible refine KE_some ?_ | with_reducible refine KE_boe (fun _ _ => ?_) | with_reducible exact hG0 _ _ _ (by assumption) | with_reducible exact hG1 _ _ _ (by assumption) | with_reducible refine KE_ltv (fun _ => ?_) | with_reducible refine KPS_I ?_ ?_ | with_reducible refine KPS_A ?_ ?_ | with_reducible refine KPS_J ?_ | with_reducible refine KPS_L ?_ | with_reducible refine KPS_N ?_ | with_reducible refine KPS_S ?_ | with_reducible refine KPS_gJ ?_ | with_reducible refine KPS_gI ?_ | omega | (unfold pq; omega) | exact KPS_o (by assumption) (by assumption))
theorem zb_Te_writeNumber_18 {G : (MS → Int64 → Int64 → Option (MS × Unit)) × (MS → Int64 → Int64 → Option (MS × Unit))} {v2 : Int64} (h : KPS u0 u) (hG0 : ∀ (u : MS) a0 a1, KPS u0 u → KE u0 (G.1 u a0 a1)) (hG1 : ∀ (u : MS) a0 a1, KPS u0 u → KE u0 (G.2 u a0 a1)) : KE u0 (hb_Te_writeNumber_18 N G u v2) := by
  unfold hb_Te_writeNumber_18
  repeat' (first | with_reducible assumption | with_reducible refine KE_br ?_ ?_ | with_reducible refine KE_bnd ?_ (fun _ _ _ => ?_) | with_reducible refine KE_ck ?_ | with_reducible refine KE_ltm ?_ (fun _ _ => ?_) | with_reducible refine KE_some ?_ | with_reducible refine KE_boe (fun _ _ => ?_) | with_reducible exact hG0 _ _ _ (by assumption) | with_reducible exact hG1 _ _ _ (by assumption) | with_reducible refine KE_ltv (fun _ => ?_) | with_reducible refine KPS_I ?_ ?_ | with_reducible refine KPS_A ?_ ?_ | with_reducible refine KPS_J ?_ | with_reducible refine KPS_L ?_ | with_reducible refine KPS_N ?_ | with_reducible refine KPS_S ?_ | with_reducible refine KPS_gJ ?_ | with_reducible refine KPS_gI ?_ | omega | (unfold pq; omega) | exact KPS_o (by assumption) (by assumption))
theorem zb_Te_writeNumber_0 {G : (MS → Int64 → Int64 → Option (MS × Unit)) × (MS → Int64 → Int64 → Option (MS × Unit))} {v1 : Int32} (h : KPS u0 u) (hG0 : ∀ (u : MS) a0 a1, KPS u0 u → KE u0 (G.1 u a0 a1)) (hG1 : ∀ (u : MS) a0 a1, KPS u0 u → KE u0 (G.2 u a0 a1)) : KE u0 (hb_Te_writeNumber_0 N G u v1) := by
  unfold hb_Te_writeNumber_0
  repeat' (first | with_reducible assumption | with_reducible refine KE_br ?_ ?_ | with_reducible refine KE_bnd ?_ (fun _ _ _ => ?_) | with_reducible refine KE_ck ?_ | with_reducible refine KE_ltm ?_ (fun _ _ => ?_) | with_reducible refine KE_some ?_ | with_reducible refine KE_boe (fun _ _ => ?_) | with_reducible exact zb_Te_writeNumber_18 (by assumption) hG0 hG1 | with_reducible exact zm_Te_write (by assumption) | with_reducible exact hG0 _ _ _ (by assumption) | with_reducible exact hG1 _ _ _ (by assumption) | with_reducible refine KE_ltv (fun _ => ?_) | with_reducible refine KPS_I ?_ ?_ | with_reducible refine KPS_A ?_ ?_ | with_reducible refine KPS_J ?_ | with_reducible refine KPS_L ?_ | with_reducible refine KPS_N ?_ | with_reducible refine KPS_S ?_ | with_reducible refine KPS_gJ ?_ | with_reducible refine KPS_gI ?_ | omega | (unfold pq; omega) | exact KPS_o (by assumption) (by assumption))
theorem zg_Te_writeNumber (n : Nat) : (∀ (u : MS) a0 a1, KPS u0 u → KE u0 ((hg_Te_writeNumber N n).1 u a0 a1)) ∧ (∀ (u : MS) a0 a1, KPS u0 u → KE u0 ((hg_Te_writeNumber N n).2 u a0 a1)) := by
  induction n with
  | zero => exact ⟨fun _ _ _ _ => KE_none, fun _ _ _ _ => KE_none⟩
  | succ n ih => exact ⟨fun _ _ _ h => zb_Te_writeNumber_21 (N := N) h ih.1 ih.2, fun _ _ _ h => zb_Te_writeNumber_43 (N := N) h ih.1 ih.2⟩
theorem zm_Te_writeNumber {v1 : Int32} (h : KPS u0 u) : KE u0 (hm_Te_writeNumber N u v1) := by
  unfold hm_Te_writeNumber
  exact zb_Te_writeNumber_0 h ((zg_Te_writeNumber N).1) ((zg_Te_writeNumber N).2)
theorem zb_Te_writeAlone_170 {G : (MS → Int32 → Int32 → Option (MS × Unit))} (h : KPS u0 u) (hG0 : ∀ (u : MS) a0 a1, KPS u0 u → KE u0 (G u a0 a1)) : KE u0 (hb_Te_writeAlone_170 N G u) := by
  unfold hb_Te_writeAlone_170
  repeat' (first | with_reducible assumption | with_reducible refine KE_br ?_ ?_ | with_reducible refine KE_bnd ?_ (fun _ _ _ => ?_) | with_reducible refine KE_ck ?_ | with_reducible refine KE_ltm ?_ (fun _ _ => ?_) | with_reducible refine KE_some ?_ | with_reducible refine KE_boe (fun _ _ => ?_) | with_reducible exact hG0 _ _ _ (by assumption) | with_reducible refine KE_ltv (fun _ => ?_) | with_reducible refine KPS_I ?_ ?_ | with_reducible refine KPS_A ?_ ?_ | with_reducible refine KPS_J ?_ | with_reducible refine KPS_L ?_ | with_reducible refine KPS_N ?_ | with_reducible refine KPS_S ?_ | with_reducible refine KPS_gJ ?_ | with_reducible refine KPS_gI ?_ | omega | (unfold pq; omega) | exact KPS_o (by assumption) (by assumption))
theorem zb_Te_writeAlone_59 {G : (MS → Int32 → Int32 → Option (MS × Unit))} {v3 : Int32} {v4 : Int32} (h : KPS u0 u) (hG0 : ∀ (u : MS) a0 a1, KPS u0 u → KE u0 (G u a0 a1)) : KE u0 (hb_Te_writeAlone_59 N G u v3 v4) := by
  unfold hb_Te_writeAlone_59
  repeat' (first | with_reducible assumption | with_reducible refine KE_br ?_ ?_ | with_reducible refine KE_bnd ?_ (fun _ _ _ => ?_) | with_reducible refine KE_ck ?_ | with_reducible refine KE_ltm ?_ (fun _ _ => ?_) | with_reducible refine KE_some ?_ | with_reducible refine KE_boe (fun _ _ => ?_) | with_reducible exact zb_Te_writeAlone_170 (by assumption) hG0 | with_reducible exact zm_Wo_length (by assumption) | with_reducible exact zm_Te_write (by assumption) | with_reducible exact zm_Wo_sign (by assumption) | with_reducible exact hG0 _ _ _ (by assumption) | with_reducible refine KE_ltv (fun _ => ?_) | with_reducible refine KPS_I ?_ ?_ | with_reducible refine KPS_A ?_ ?_ | with_reducible refine KPS_J ?_ | with_reducible refine KPS_L ?_ | with_reducible refine KPS_N ?_ | with_reducible refine KPS_S ?_ | with_reducible refine KPS_gJ ?_ | with_reducible refine KPS_gI ?_ | omega | (unfold pq; omega) | exact KPS_o (by assumption) (by assumption))
theorem zb_Te_writeAlone_0 {G : (MS → Int32 → Int32 → Option (MS × Unit))} {v1 : Int64} (h : KPS u0 u) (hG0 : ∀ (u : MS) a0 a1, KPS u0 u → KE u0 (G u a0 a1)) : KE u0 (hb_Te_writeAlone_0 N G u v1) := by
  unfold hb_Te_writeAlone_0
  repeat' (first | with_reducible assumption | with_reducible refine KE_br ?_ ?_ | with_reducible refine KE_bnd ?_ (fun _ _ _ => ?_) | with_reducible refine KE_ck ?_ | with_reducible refine KE_ltm ?_ (fun _ _ => ?_) | with_reducible refine KE_some ?_ | with_reducible refine KE_boe (fun _ _ => ?_) | with_reducible exact zb_Te_writeAlone_170 (by assumption) hG0 | with_reducible exact zm_Te_writeNumber (by assumption) | with_reducible exact zm_Te_write (by assumption) | with_reducible exact zm_Te_tag (by assumption) | with_reducible exact hG0 _ _ _ (by assumption) | with_reducible refine KE_ltv (fun _ => ?_) | with_reducible refine KPS_I ?_ ?_ | with_reducible refine KPS_A ?_ ?_ | with_reducible refine KPS_J ?_ | with_reducible refine KPS_L ?_ | with_reducible refine KPS_N ?_ | with_reducible refine KPS_S ?_ | with_reducible refine KPS_gJ ?_ | with_reducible refine KPS_gI ?_ | omega | (unfold pq; omega) | exact KPS_o (by assumption) (by assumption))
theorem zg_Te_writeAlone (n : Nat) : (∀ (u : MS) a0 a1, KPS u0 u → KE u0 ((hg_Te_writeAlone N n) u a0 a1)) := by
  induction n with
  | zero => exact fun _ _ _ _ => KE_none
  | succ n ih => exact fun _ _ _ h => zb_Te_writeAlone_59 (N := N) h ih
theorem zm_Te_writeAlone {v1 : Int64} (h : KPS u0 u) : KE u0 (hm_Te_writeAlone N u v1) := by
  unfold hm_Te_writeAlone
  exact zb_Te_writeAlone_0 h (zg_Te_writeAlone N)
theorem zb_Te_text_174 {G : (MS → Nat → Int32 → Int32 → Option (MS × Int32))} (h : KPS u0 u) (hG0 : ∀ (u : MS) a0 a1 a2, KPS u0 u → KE u0 (G u a0 a1 a2)) : KE u0 (hb_Te_text_174 N G u) := by
  unfold hb_Te_text_174
  repeat' (first | with_reducible assumption | with_reducible refine KE_br ?_ ?_ | with_reducible refine KE_bnd ?_ (fun _ _ _ => ?_) | with_reducible refine KE_ck ?_ | with_reducible refine KE_ltm ?_ (fun _ _ => ?_) | with_reducible refine KE_some ?_ | with_reducible refine KE_boe (fun _ _ => ?_) | with_reducible exact hG0 _ _ _ _ (by assumption) | with_reducible refine KE_ltv (fun _ => ?_) | with_reducible refine KPS_I ?_ ?_ | with_reducible refine KPS_A ?_ ?_ | with_reducible refine KPS_J ?_ | with_reducible refine KPS_L ?_ | with_reducible refine KPS_N ?_ | with_reducible refine KPS_S ?_ | with_reducible refine KPS_gJ ?_ | with_reducible refine KPS_gI ?_ | omega | (unfold pq; omega) | exact KPS_o (by assumption) (by assumption))
theorem zb_Te_text_168 {G : (MS → Nat → Int32 → Int32 → Option (MS × Int32))} {v1 : Nat} {v6 : Int32} {v7 : Int32} (h : KPS u0 u) (hG0 : ∀ (u : MS) a0 a1 a2, KPS u0 u → KE u0 (G u a0 a1 a2)) : KE u0 (hb_Te_text_168 N G u v1 v6 v7) := by
  unfold hb_Te_text_168
  repeat' (first | with_reducible assumption | with_reducible refine KE_br ?_ ?_ | with_reducible refine KE_bnd ?_ (fun _ _ _ => ?_) | with_reducible refine KE_ck ?_ | with_reducible refine KE_ltm ?_ (fun _ _ => ?_) | with_reducible refine KE_some ?_ | with_reducible refine KE_boe (fun _ _ => ?_) | with_reducible exact hG0 _ _ _ _ (by assumption) | with_reducible refine KE_ltv (fun _ => ?_) | with_reducible refine KPS_I ?_ ?_ | with_reducible refine KPS_A ?_ ?_ | with_reducible refine KPS_J ?_ | with_reducible refine KPS_L ?_ | with_reducible refine KPS_N ?_ | with_reducible refine KPS_S ?_ | with_reducible refine KPS_gJ ?_ | with_reducible refine KPS_gI ?_ | omega | (unfold pq; omega) | exact KPS_o (by assumption) (by assumption))
theorem zb_Te_text_30 {G : (MS → Nat → Int32 → Int32 → Option (MS × Int32))} {v1 : Nat} {v6 : Int32} {v7 : Int32} (h : KPS u0 u) (hG0 : ∀ (u : MS) a0 a1 a2, KPS u0 u → KE u0 (G u a0 a1 a2)) : KE u0 (hb_Te_text_30 N G u v1 v6 v7) := by
  unfold hb_Te_text_30
  repeat' (first | with_reducible assumption | with_reducible refine KE_br ?_ ?_ | with_reducible refine KE_bnd ?_ (fun _ _ _ => ?_) | with_reducible refine KE_ck ?_ | with_reducible refine KE_ltm ?_ (fun _ _ => ?_) | with_reducible refine KE_some ?_ | with_reducible refine KE_boe (fun _ _ => ?_) | with_reducible exact zb_Te_text_168 (by assumption) hG0 | with_reducible exact zb_Te_text_174 (by assumption) hG0 | with_reducible exact zm_Te_toWriteTuple (by assumption) | with_reducible exact zm_Te_toWritePair (by assumption) | with_reducible exact zm_Te_toWriteRest (by assumption) | with_reducible exact zm_Te_writeAlone (by assumption) | with_reducible exact zm_Te_write (by assumption) | with_reducible exact zm_Te_tag (by assumption) | with_reducible exact hG0 _ _ _ _ (by assumption) | with_reducible refine KE_ltv (fun _ => ?_) | with_reducible refine KPS_I ?_ ?_ | with_reducible refine KPS_A ?_ ?_ | with_reducible refine KPS_J ?_ | with_reducible refine KPS_L ?_ | with_reducible refine KPS_N ?_ | with_reducible refine KPS_S ?_ | with_reducible refine KPS_gJ ?_ | with_reducible refine KPS_gI ?_ | omega | (unfold pq; omega) | exact KPS_o (by assumption) (by assumption))
theorem zb_Te_text_0 {G : (MS → Nat → Int32 → Int32 → Option (MS × Int32))} {v1 : Nat} {v2 : Int64} {v4 : Nat} {v5 : Int32} (h : KPS u0 u) (hv : v4 = 52 ∨ v4 = 56) (hG0 : ∀ (u : MS) a0 a1 a2, KPS u0 u → KE u0 (G u a0 a1 a2)) : KE u0 (hb_Te_text_0 N G u v1 v2 v4 v5) := by
  unfold hb_Te_text_0
  repeat' (first | with_reducible assumption | with_reducible refine KE_br ?_ ?_ | with_reducible refine KE_bnd ?_ (fun _ _ _ => ?_) | with_reducible refine KE_ck ?_ | with_reducible refine KE_ltm ?_ (fun _ _ => ?_) | with_reducible refine KE_some ?_ | with_reducible refine KE_boe (fun _ _ => ?_) | with_reducible exact hG0 _ _ _ _ (by assumption) | with_reducible refine KE_ltv (fun _ => ?_) | with_reducible exact KPS_64 (by assumption) hv | with_reducible refine KPS_I ?_ ?_ | with_reducible refine KPS_A ?_ ?_ | with_reducible refine KPS_J ?_ | with_reducible refine KPS_L ?_ | with_reducible refine KPS_N ?_ | with_reducible refine KPS_S ?_ | with_reducible refine KPS_gJ ?_ | with_reducible refine KPS_gI ?_ | omega | (unfold pq; omega) | exact KPS_o (by assumption) (by assumption))
theorem zg_Te_text (n : Nat) : (∀ (u : MS) a0 a1 a2, KPS u0 u → KE u0 ((hg_Te_text N n) u a0 a1 a2)) := by
  induction n with
  | zero => exact fun _ _ _ _ _ => KE_none
  | succ n ih => exact fun _ _ _ _ h => zb_Te_text_30 (N := N) h ih
theorem zm_Te_text {v1 : Nat} {v2 : Int64} {v4 : Nat} {v5 : Int32} (h : KPS u0 u) (hv : v4 = 52 ∨ v4 = 56) : KE u0 (hm_Te_text N u v1 v2 v4 v5) := by
  unfold hm_Te_text
  exact zb_Te_text_0 h hv (zg_Te_text N)
theorem zb_Wl_print_49 {G : Unit} (h : KPS u0 u)  : KE u0 (hb_Wl_print_49 N G u) := by
  unfold hb_Wl_print_49
  repeat' (first | with_reducible assumption | with_reducible refine KE_br ?_ ?_ | with_reducible refine KE_bnd ?_ (fun _ _ _ => ?_) | with_reducible refine KE_ck ?_ | with_reducible refine KE_ltm ?_ (fun _ _ => ?_) | with_reducible refine KE_some ?_ | with_reducible refine KE_boe (fun _ _ => ?_) | with_reducible refine KE_ltv (fun _ => ?_) | with_reducible refine KPS_I ?_ ?_ | with_reducible refine KPS_A ?_ ?_ | with_reducible refine KPS_J ?_ | with_reducible refine KPS_L ?_ | with_reducible refine KPS_N ?_ | with_reducible refine KPS_S ?_ | with_reducible refine KPS_gJ ?_ | with_reducible refine KPS_gI ?_ | omega | (unfold pq; omega) | exact KPS_o (by assumption) (by assumption))
theorem zb_Wl_print_0 {G : Unit} {v1 : Nat} {v2 : Int64} (h : KPS u0 u)  : KE u0 (hb_Wl_print_0 N G u v1 v2) := by
  unfold hb_Wl_print_0
  repeat' (first | with_reducible assumption | with_reducible refine KE_br ?_ ?_ | with_reducible refine KE_bnd ?_ (fun _ _ _ => ?_) | with_reducible refine KE_ck ?_ | with_reducible refine KE_ltm ?_ (fun _ _ => ?_) | with_reducible refine KE_some ?_ | with_reducible refine KE_boe (fun _ _ => ?_) | with_reducible exact zm_Te_text (by assumption) (by decide) | with_reducible exact zb_Wl_print_49 (by assumption) | with_reducible refine KE_ltv (fun _ => ?_) | with_reducible refine KPS_I ?_ ?_ | with_reducible refine KPS_A ?_ ?_ | with_reducible refine KPS_J ?_ | with_reducible refine KPS_L ?_ | with_reducible refine KPS_N ?_ | with_reducible refine KPS_S ?_ | with_reducible refine KPS_gJ ?_ | with_reducible refine KPS_gI ?_ | omega | (unfold pq; omega) | exact KPS_o (by assumption) (by assumption))
theorem zm_Wl_print {v1 : Nat} {v2 : Int64} (h : KPS u0 u) : KE u0 (hm_Wl_print N u v1 v2) := by
  unfold hm_Wl_print
  exact zb_Wl_print_0 h
theorem zb_Wl_named_39 {G : (MS → Int32 → Int32 → Option (MS × Option Nat))} {v1 : Int32} {v2 : Int32} (h : KPS u0 u) (hG0 : ∀ (u : MS) a0 a1, KPS u0 u → KE u0 (G u a0 a1)) : KE u0 (hb_Wl_named_39 N G u v1 v2) := by
  unfold hb_Wl_named_39
  repeat' (first | with_reducible assumption | with_reducible refine KE_br ?_ ?_ | with_reducible refine KE_bnd ?_ (fun _ _ _ => ?_) | with_reducible refine KE_ck ?_ | with_reducible refine KE_ltm ?_ (fun _ _ => ?_) | with_reducible refine KE_some ?_ | with_reducible refine KE_boe (fun _ _ => ?_) | with_reducible exact hG0 _ _ _ (by assumption) | with_reducible refine KE_ltv (fun _ => ?_) | with_reducible refine KPS_I ?_ ?_ | with_reducible refine KPS_A ?_ ?_ | with_reducible refine KPS_J ?_ | with_reducible refine KPS_L ?_ | with_reducible refine KPS_N ?_ | with_reducible refine KPS_S ?_ | with_reducible refine KPS_gJ ?_ | with_reducible refine KPS_gI ?_ | omega | (unfold pq; omega) | exact KPS_o (by assumption) (by assumption))
theorem zb_Wl_named_2 {G : (MS → Int32 → Int32 → Option (MS × Option Nat))} {v1 : Int32} {v2 : Int32} (h : KPS u0 u) (hG0 : ∀ (u : MS) a0 a1, KPS u0 u → KE u0 (G u a0 a1)) : KE u0 (hb_Wl_named_2 N G u v1 v2) := by
  unfold hb_Wl_named_2
  repeat' (first | with_reducible assumption | with_reducible refine KE_br ?_ ?_ | with_reducible refine KE_bnd ?_ (fun _ _ _ => ?_) | with_reducible refine KE_ck ?_ | with_reducible refine KE_ltm ?_ (fun _ _ => ?_) | with_reducible refine KE_some ?_ | with_reducible refine KE_boe (fun _ _ => ?_) | with_reducible exact zb_Wl_named_39 (by assumption) hG0 | with_reducible exact hG0 _ _ _ (by assumption) | with_reducible refine KE_ltv (fun _ => ?_) | with_reducible refine KPS_I ?_ ?_ | with_reducible refine KPS_A ?_ ?_ | with_reducible refine KPS_J ?_ | with_reducible refine KPS_L ?_ | with_reducible refine KPS_N ?_ | with_reducible refine KPS_S ?_ | with_reducible refine KPS_gJ ?_ | with_reducible refine KPS_gI ?_ | omega | (unfold pq; omega) | exact KPS_o (by assumption) (by assumption))
theorem zb_Wl_named_0 {G : (MS → Int32 → Int32 → Option (MS × Option Nat))} {v1 : Int32} (h : KPS u0 u) (hG0 : ∀ (u : MS) a0 a1, KPS u0 u → KE u0 (G u a0 a1)) : KE u0 (hb_Wl_named_0 N G u v1) := by
  unfold hb_Wl_named_0
  repeat' (first | with_reducible assumption | with_reducible refine KE_br ?_ ?_ | with_reducible refine KE_bnd ?_ (fun _ _ _ => ?_) | with_reducible refine KE_ck ?_ | with_reducible refine KE_ltm ?_ (fun _ _ => ?_) | with_reducible refine KE_some ?_ | with_reducible refine KE_boe (fun _ _ => ?_) | with_reducible exact hG0 _ _ _ (by assumption) | with_reducible refine KE_ltv (fun _ => ?_) | with_reducible refine KPS_I ?_ ?_ | with_reducible refine KPS_A ?_ ?_ | with_reducible refine KPS_J ?_ | with_reducible refine KPS_L ?_ | with_reducible refine KPS_N ?_ | with_reducible refine KPS_S ?_ | with_reducible refine KPS_gJ ?_ | with_reducible refine KPS_gI ?_ | omega | (unfold pq; omega) | exact KPS_o (by assumption) (by assumption))
theorem zg_Wl_named (n : Nat) : (∀ (u : MS) a0 a1, KPS u0 u → KE u0 ((hg_Wl_named N n) u a0 a1)) := by
  induction n with
  | zero => exact fun _ _ _ _ => KE_none
  | succ n ih => exact fun _ _ _ h => zb_Wl_named_2 (N := N) h ih
theorem zm_Wl_named {v1 : Int32} (h : KPS u0 u) : KE u0 (hm_Wl_named N u v1) := by
  unfold hm_Wl_named
  exact zb_Wl_named_0 h (zg_Wl_named N)
theorem zb_Ma_processAt_30 {G : Unit} {p : Nat} {t0 : Option Nat} (h : KPS u0 u)  : KE u0 (hb_Ma_processAt_30 N G u p t0) := by
  unfold hb_Ma_processAt_30
  repeat' (first | with_reducible assumption | with_reducible refine KE_br ?_ ?_ | with_reducible refine KE_bnd ?_ (fun _ _ _ => ?_) | with_reducible refine KE_ck ?_ | with_reducible refine KE_ltm ?_ (fun _ _ => ?_) | with_reducible refine KE_some ?_ | with_reducible refine KE_boe (fun _ _ => ?_) | with_reducible refine KE_ltv (fun _ => ?_) | with_reducible refine KPS_I ?_ ?_ | with_reducible refine KPS_A ?_ ?_ | with_reducible refine KPS_J ?_ | with_reducible refine KPS_L ?_ | with_reducible refine KPS_N ?_ | with_reducible refine KPS_S ?_ | with_reducible refine KPS_gJ ?_ | with_reducible refine KPS_gI ?_ | omega | (unfold pq; omega) | exact KPS_o (by assumption) (by assumption))
theorem zb_Ma_processAt_0 {G : Unit} {p : Nat} {v1 : Int32} (h : KPS u0 u)  : KE u0 (hb_Ma_processAt_0 N G u p v1) := by
  unfold hb_Ma_processAt_0
  repeat' (first | with_reducible assumption | with_reducible refine KE_br ?_ ?_ | with_reducible refine KE_bnd ?_ (fun _ _ _ => ?_) | with_reducible refine KE_ck ?_ | with_reducible refine KE_ltm ?_ (fun _ _ => ?_) | with_reducible refine KE_some ?_ | with_reducible refine KE_boe (fun _ _ => ?_) | with_reducible exact zb_Ma_processAt_30 (by assumption) | with_reducible exact zm_Fr_below (by assumption) | with_reducible exact zm_Wl_find (by assumption) | with_reducible exact zm_Te_tag (by assumption) | with_reducible refine KE_ltv (fun _ => ?_) | with_reducible refine KPS_I ?_ ?_ | with_reducible refine KPS_A ?_ ?_ | with_reducible refine KPS_J ?_ | with_reducible refine KPS_L ?_ | with_reducible refine KPS_N ?_ | with_reducible refine KPS_S ?_ | with_reducible refine KPS_gJ ?_ | with_reducible refine KPS_gI ?_ | omega | (unfold pq; omega) | exact KPS_o (by assumption) (by assumption))
theorem zm_Ma_processAt {p : Nat} {v1 : Int32} (h : KPS u0 u) : KE u0 (hm_Ma_processAt N u p v1) := by
  unfold hm_Ma_processAt
  exact zb_Ma_processAt_0 h
theorem zb_Ma_naming_147 {G : Unit} {p : Nat} (h : KPS u0 u)  : KE u0 (hb_Ma_naming_147 N G u p) := by
  unfold hb_Ma_naming_147
  repeat' (first | with_reducible assumption | with_reducible refine KE_br ?_ ?_ | with_reducible refine KE_bnd ?_ (fun _ _ _ => ?_) | with_reducible refine KE_ck ?_ | with_reducible refine KE_ltm ?_ (fun _ _ => ?_) | with_reducible refine KE_some ?_ | with_reducible refine KE_boe (fun _ _ => ?_) | with_reducible exact zm_Ma_wrong (by assumption) | with_reducible refine KE_ltv (fun _ => ?_) | with_reducible refine KPS_I ?_ ?_ | with_reducible refine KPS_A ?_ ?_ | with_reducible refine KPS_J ?_ | with_reducible refine KPS_L ?_ | with_reducible refine KPS_N ?_ | with_reducible refine KPS_S ?_ | with_reducible refine KPS_gJ ?_ | with_reducible refine KPS_gI ?_ | omega | (unfold pq; omega) | exact KPS_o (by assumption) (by assumption))
theorem zb_Ma_naming_74 {G : Unit} {p : Nat} {t1 : Int32} {t2 : Int64} (h : KPS u0 u)  : KE u0 (hb_Ma_naming_74 N G u p t1 t2) := by
  unfold hb_Ma_naming_74
  repeat' (first | with_reducible assumption | with_reducible refine KE_br ?_ ?_ | with_reducible refine KE_bnd ?_ (fun _ _ _ => ?_) | with_reducible refine KE_ck ?_ | with_reducible refine KE_ltm ?_ (fun _ _ => ?_) | with_reducible refine KE_some ?_ | with_reducible refine KE_boe (fun _ _ => ?_) | with_reducible exact zm_Ma_answer (by assumption) | with_reducible refine KE_ltv (fun _ => ?_) | with_reducible refine KPS_I ?_ ?_ | with_reducible refine KPS_A ?_ ?_ | with_reducible refine KPS_J ?_ | with_reducible refine KPS_L ?_ | with_reducible refine KPS_N ?_ | with_reducible refine KPS_S ?_ | with_reducible refine KPS_gJ ?_ | with_reducible refine KPS_gI ?_ | omega | (unfold pq; omega) | exact KPS_o (by assumption) (by assumption))
theorem zb_Ma_naming_15 {G : Unit} {p : Nat} {v1 : Int32} {t0 : Nat} {t1 : Int32} (h : KPS u0 u)  : KE u0 (hb_Ma_naming_15 N G u p v1 t0 t1) := by
  unfold hb_Ma_naming_15
  repeat' (first | with_reducible assumption | with_reducible refine KE_br ?_ ?_ | with_reducible refine KE_bnd ?_ (fun _ _ _ => ?_) | with_reducible refine KE_ck ?_ | with_reducible refine KE_ltm ?_ (fun _ _ => ?_) | with_reducible refine KE_some ?_ | with_reducible refine KE_boe (fun _ _ => ?_) | with_reducible exact zb_Ma_naming_147 (by assumption) | with_reducible exact zb_Ma_naming_74 (by assumption) | with_reducible exact zm_Ma_processAt (by assumption) | with_reducible exact zm_Ma_answer (by assumption) | with_reducible exact zm_Fr_below (by assumption) | with_reducible exact zm_Ma_wrong (by assumption) | with_reducible exact zm_Wl_named (by assumption) | with_reducible exact zm_Ma_atom (by assumption) | with_reducible exact zm_Te_make (by assumption) | with_reducible exact zm_Te_tag (by assumption) | with_reducible refine KE_ltv (fun _ => ?_) | with_reducible refine KPS_I ?_ ?_ | with_reducible refine KPS_A ?_ ?_ | with_reducible refine KPS_J ?_ | with_reducible refine KPS_L ?_ | with_reducible refine KPS_N ?_ | with_reducible refine KPS_S ?_ | with_reducible refine KPS_gJ ?_ | with_reducible refine KPS_gI ?_ | omega | (unfold pq; omega) | exact KPS_o (by assumption) (by assumption))
theorem zb_Ma_naming_0 {G : Unit} {p : Nat} {v1 : Int32} (h : KPS u0 u)  : KE u0 (hb_Ma_naming_0 N G u p v1) := by
  unfold hb_Ma_naming_0
  repeat' (first | with_reducible assumption | with_reducible refine KE_br ?_ ?_ | with_reducible refine KE_bnd ?_ (fun _ _ _ => ?_) | with_reducible refine KE_ck ?_ | with_reducible refine KE_ltm ?_ (fun _ _ => ?_) | with_reducible refine KE_some ?_ | with_reducible refine KE_boe (fun _ _ => ?_) | with_reducible exact zb_Ma_naming_15 (by assumption) | with_reducible refine KE_ltv (fun _ => ?_) | with_reducible refine KPS_I ?_ ?_ | with_reducible refine KPS_A ?_ ?_ | with_reducible refine KPS_J ?_ | with_reducible refine KPS_L ?_ | with_reducible refine KPS_N ?_ | with_reducible refine KPS_S ?_ | with_reducible refine KPS_gJ ?_ | with_reducible refine KPS_gI ?_ | omega | (unfold pq; omega) | exact KPS_o (by assumption) (by assumption))
theorem zm_Ma_naming {p : Nat} {v1 : Int32} (h : KPS u0 u) : KE u0 (hm_Ma_naming N u p v1) := by
  unfold hm_Ma_naming
  exact zb_Ma_naming_0 h
theorem zb_Ma_part_189 {G : Unit} {p : Nat} (h : KPS u0 u)  : KE u0 (hb_Ma_part_189 N G u p) := by
  unfold hb_Ma_part_189
  repeat' (first | with_reducible assumption | with_reducible refine KE_br ?_ ?_ | with_reducible refine KE_bnd ?_ (fun _ _ _ => ?_) | with_reducible refine KE_ck ?_ | with_reducible refine KE_ltm ?_ (fun _ _ => ?_) | with_reducible refine KE_some ?_ | with_reducible refine KE_boe (fun _ _ => ?_) | with_reducible exact zm_Ma_wrong (by assumption) | with_reducible refine KE_ltv (fun _ => ?_) | with_reducible refine KPS_I ?_ ?_ | with_reducible refine KPS_A ?_ ?_ | with_reducible refine KPS_J ?_ | with_reducible refine KPS_L ?_ | with_reducible refine KPS_N ?_ | with_reducible refine KPS_S ?_ | with_reducible refine KPS_gJ ?_ | with_reducible refine KPS_gI ?_ | omega | (unfold pq; omega) | exact KPS_o (by assumption) (by assumption))
theorem zb_Ma_part_120 {G : Unit} {p : Nat} {t1 : Int32} {t2 : Nat} {t3 : Int32} (h : KPS u0 u)  : KE u0 (hb_Ma_part_120 N G u p t1 t2 t3) := by
  unfold hb_Ma_part_120
  repeat' (first | with_reducible assumption | with_reducible refine KE_br ?_ ?_ | with_reducible refine KE_bnd ?_ (fun _ _ _ => ?_) | with_reducible refine KE_ck ?_ | with_reducible refine KE_ltm ?_ (fun _ _ => ?_) | with_reducible refine KE_some ?_ | with_reducible refine KE_boe (fun _ _ => ?_) | with_reducible exact zm_Ma_answer (by assumption) | with_reducible refine KE_ltv (fun _ => ?_) | with_reducible refine KPS_I ?_ ?_ | with_reducible refine KPS_A ?_ ?_ | with_reducible refine KPS_J ?_ | with_reducible refine KPS_L ?_ | with_reducible refine KPS_N ?_ | with_reducible refine KPS_S ?_ | with_reducible refine KPS_gJ ?_ | with_reducible refine KPS_gI ?_ | omega | (unfold pq; omega) | exact KPS_o (by assumption) (by assumption))
theorem zb_Ma_part_96 {G : Unit} {p : Nat} {v1 : Int32} {v5 : Int32} (h : KPS u0 u)  : KE u0 (hb_Ma_part_96 N G u p v1 v5) := by
  unfold hb_Ma_part_96
  repeat' (first | with_reducible assumption | with_reducible refine KE_br ?_ ?_ | with_reducible refine KE_bnd ?_ (fun _ _ _ => ?_) | with_reducible refine KE_ck ?_ | with_reducible refine KE_ltm ?_ (fun _ _ => ?_) | with_reducible refine KE_some ?_ | with_reducible refine KE_boe (fun _ _ => ?_) | with_reducible exact zb_Ma_part_120 (by assumption) | with_reducible refine KE_ltv (fun _ => ?_) | with_reducible refine KPS_I ?_ ?_ | with_reducible refine KPS_A ?_ ?_ | with_reducible refine KPS_J ?_ | with_reducible refine KPS_L ?_ | with_reducible refine KPS_N ?_ | with_reducible refine KPS_S ?_ | with_reducible refine KPS_gJ ?_ | with_reducible refine KPS_gI ?_ | omega | (unfold pq; omega) | exact KPS_o (by assumption) (by assumption))
theorem zb_Ma_part_74 {G : Unit} {p : Nat} {v1 : Int32} {v5 : Int32} {t0 : Int32} {t1 : Int32} (h : KPS u0 u)  : KE u0 (hb_Ma_part_74 N G u p v1 v5 t0 t1) := by
  unfold hb_Ma_part_74
  repeat' (first | with_reducible assumption | with_reducible refine KE_br ?_ ?_ | with_reducible refine KE_bnd ?_ (fun _ _ _ => ?_) | with_reducible refine KE_ck ?_ | with_reducible refine KE_ltm ?_ (fun _ _ => ?_) | with_reducible refine KE_some ?_ | with_reducible refine KE_boe (fun _ _ => ?_) | with_reducible exact zb_Ma_part_189 (by assumption) | with_reducible exact zb_Ma_part_96 (by assumption) | with_reducible exact zm_Ma_answer (by assumption) | with_reducible exact zm_Fr_below (by assumption) | with_reducible exact zm_Ma_wrong (by assumption) | with_reducible exact zm_Te_make (by assumption) | with_reducible exact zm_Te_tag (by assumption) | with_reducible refine KE_ltv (fun _ => ?_) | with_reducible refine KPS_I ?_ ?_ | with_reducible refine KPS_A ?_ ?_ | with_reducible refine KPS_J ?_ | with_reducible refine KPS_L ?_ | with_reducible refine KPS_N ?_ | with_reducible refine KPS_S ?_ | with_reducible refine KPS_gJ ?_ | with_reducible refine KPS_gI ?_ | omega | (unfold pq; omega) | exact KPS_o (by assumption) (by assumption))
theorem zb_Ma_part_68 {G : Unit} {p : Nat} {v1 : Int32} {v5 : Int32} {t0 : Int32} (h : KPS u0 u)  : KE u0 (hb_Ma_part_68 N G u p v1 v5 t0) := by
  unfold hb_Ma_part_68
  repeat' (first | with_reducible assumption | with_reducible refine KE_br ?_ ?_ | with_reducible refine KE_bnd ?_ (fun _ _ _ => ?_) | with_reducible refine KE_ck ?_ | with_reducible refine KE_ltm ?_ (fun _ _ => ?_) | with_reducible refine KE_some ?_ | with_reducible refine KE_boe (fun _ _ => ?_) | with_reducible exact zb_Ma_part_74 (by assumption) | with_reducible refine KE_ltv (fun _ => ?_) | with_reducible refine KPS_I ?_ ?_ | with_reducible refine KPS_A ?_ ?_ | with_reducible refine KPS_J ?_ | with_reducible refine KPS_L ?_ | with_reducible refine KPS_N ?_ | with_reducible refine KPS_S ?_ | with_reducible refine KPS_gJ ?_ | with_reducible refine KPS_gI ?_ | omega | (unfold pq; omega) | exact KPS_o (by assumption) (by assumption))
theorem zb_Ma_part_53 {G : Unit} {p : Nat} (h : KPS u0 u)  : KE u0 (hb_Ma_part_53 N G u p) := by
  unfold hb_Ma_part_53
  repeat' (first | with_reducible assumption | with_reducible refine KE_br ?_ ?_ | with_reducible refine KE_bnd ?_ (fun _ _ _ => ?_) | with_reducible refine KE_ck ?_ | with_reducible refine KE_ltm ?_ (fun _ _ => ?_) | with_reducible refine KE_some ?_ | with_reducible refine KE_boe (fun _ _ => ?_) | with_reducible refine KE_ltv (fun _ => ?_) | with_reducible refine KPS_I ?_ ?_ | with_reducible refine KPS_A ?_ ?_ | with_reducible refine KPS_J ?_ | with_reducible refine KPS_L ?_ | with_reducible refine KPS_N ?_ | with_reducible refine KPS_S ?_ | with_reducible refine KPS_gJ ?_ | with_reducible refine KPS_gI ?_ | omega | (unfold pq; omega) | exact KPS_o (by assumption) (by assumption))
theorem zb_Ma_part_0 {G : Unit} {p : Nat} {v1 : Int32} {v2 : Int64} {v4 : Int32} (h : KPS u0 u)  : KE u0 (hb_Ma_part_0 N G u p v1 v2 v4) := by
  unfold hb_Ma_part_0
  repeat' (first | with_reducible assumption | with_reducible refine KE_br ?_ ?_ | with_reducible refine KE_bnd ?_ (fun _ _ _ => ?_) | with_reducible refine KE_ck ?_ | with_reducible refine KE_ltm ?_ (fun _ _ => ?_) | with_reducible refine KE_some ?_ | with_reducible refine KE_boe (fun _ _ => ?_) | with_reducible exact zm_Te_listLength (by assumption) | with_reducible exact zb_Ma_part_53 (by assumption) | with_reducible exact zb_Ma_part_68 (by assumption) | with_reducible exact zb_Ma_part_74 (by assumption) | with_reducible exact zm_Ma_answer (by assumption) | with_reducible exact zm_Ma_wrong (by assumption) | with_reducible exact zm_Te_make (by assumption) | with_reducible refine KE_ltv (fun _ => ?_) | with_reducible refine KPS_I ?_ ?_ | with_reducible refine KPS_A ?_ ?_ | with_reducible refine KPS_J ?_ | with_reducible refine KPS_L ?_ | with_reducible refine KPS_N ?_ | with_reducible refine KPS_S ?_ | with_reducible refine KPS_gJ ?_ | with_reducible refine KPS_gI ?_ | omega | (unfold pq; omega) | exact KPS_o (by assumption) (by assumption))
theorem zm_Ma_part {p : Nat} {v1 : Int32} {v2 : Int64} {v4 : Int32} (h : KPS u0 u) : KE u0 (hm_Ma_part N u p v1 v2 v4) := by
  unfold hm_Ma_part
  exact zb_Ma_part_0 h
theorem zb_Ma_test_229 {G : Unit} {p : Nat} (h : KPS u0 u)  : KE u0 (hb_Ma_test_229 N G u p) := by
  unfold hb_Ma_test_229
  repeat' (first | with_reducible assumption | with_reducible refine KE_br ?_ ?_ | with_reducible refine KE_bnd ?_ (fun _ _ _ => ?_) | with_reducible refine KE_ck ?_ | with_reducible refine KE_ltm ?_ (fun _ _ => ?_) | with_reducible refine KE_some ?_ | with_reducible refine KE_boe (fun _ _ => ?_) | with_reducible refine KE_ltv (fun _ => ?_) | with_reducible refine KPS_I ?_ ?_ | with_reducible refine KPS_A ?_ ?_ | with_reducible refine KPS_J ?_ | with_reducible refine KPS_L ?_ | with_reducible refine KPS_N ?_ | with_reducible refine KPS_S ?_ | with_reducible refine KPS_gJ ?_ | with_reducible refine KPS_gI ?_ | omega | (unfold pq; omega) | exact KPS_o (by assumption) (by assumption))
theorem zb_Ma_test_212 {G : Unit} {p : Nat} {t1 : Int32} {t2 : Int32} (h : KPS u0 u)  : KE u0 (hb_Ma_test_212 N G u p t1 t2) := by
  unfold hb_Ma_test_212
  repeat' (first | with_reducible assumption | with_reducible refine KE_br ?_ ?_ | with_reducible refine KE_bnd ?_ (fun _ _ _ => ?_) | with_reducible refine KE_ck ?_ | with_reducible refine KE_ltm ?_ (fun _ _ => ?_) | with_reducible refine KE_some ?_ | with_reducible refine KE_boe (fun _ _ => ?_) | with_reducible exact zb_Ma_test_229 (by assumption) | with_reducible exact zm_Ma_answer (by assumption) | with_reducible exact zm_Ma_truth (by assumption) | with_reducible refine KE_ltv (fun _ => ?_) | with_reducible refine KPS_I ?_ ?_ | with_reducible refine KPS_A ?_ ?_ | with_reducible refine KPS_J ?_ | with_reducible refine KPS_L ?_ | with_reducible refine KPS_N ?_ | with_reducible refine KPS_S ?_ | with_reducible refine KPS_gJ ?_ | with_reducible refine KPS_gI ?_ | omega | (unfold pq; omega) | exact KPS_o (by assumption) (by assumption))
theorem zb_Ma_test_190 {G : Unit} {p : Nat} {t1 : Int32} {t2 : Int32} (h : KPS u0 u)  : KE u0 (hb_Ma_test_190 N G u p t1 t2) := by
  unfold hb_Ma_test_190
  repeat' (first | with_reducible assumption | with_reducible refine KE_br ?_ ?_ | with_reducible refine KE_bnd ?_ (fun _ _ _ => ?_) | with_reducible refine KE_ck ?_ | with_reducible refine KE_ltm ?_ (fun _ _ => ?_) | with_reducible refine KE_some ?_ | with_reducible refine KE_boe (fun _ _ => ?_) | with_reducible exact zb_Ma_test_229 (by assumption) | with_reducible exact zm_Ma_answer (by assumption) | with_reducible exact zm_Ma_truth (by assumption) | with_reducible refine KE_ltv (fun _ => ?_) | with_reducible refine KPS_I ?_ ?_ | with_reducible refine KPS_A ?_ ?_ | with_reducible refine KPS_J ?_ | with_reducible refine KPS_L ?_ | with_reducible refine KPS_N ?_ | with_reducible refine KPS_S ?_ | with_reducible refine KPS_gJ ?_ | with_reducible refine KPS_gI ?_ | omega | (unfold pq; omega) | exact KPS_o (by assumption) (by assumption))
theorem zb_Ma_test_168 {G : Unit} {p : Nat} {t1 : Int32} {t2 : Int32} (h : KPS u0 u)  : KE u0 (hb_Ma_test_168 N G u p t1 t2) := by
  unfold hb_Ma_test_168
  repeat' (first | with_reducible assumption | with_reducible refine KE_br ?_ ?_ | with_reducible refine KE_bnd ?_ (fun _ _ _ => ?_) | with_reducible refine KE_ck ?_ | with_reducible refine KE_ltm ?_ (fun _ _ => ?_) | with_reducible refine KE_some ?_ | with_reducible refine KE_boe (fun _ _ => ?_) | with_reducible exact zb_Ma_test_229 (by assumption) | with_reducible exact zm_Ma_answer (by assumption) | with_reducible exact zm_Ma_truth (by assumption) | with_reducible refine KE_ltv (fun _ => ?_) | with_reducible refine KPS_I ?_ ?_ | with_reducible refine KPS_A ?_ ?_ | with_reducible refine KPS_J ?_ | with_reducible refine KPS_L ?_ | with_reducible refine KPS_N ?_ | with_reducible refine KPS_S ?_ | with_reducible refine KPS_gJ ?_ | with_reducible refine KPS_gI ?_ | omega | (unfold pq; omega) | exact KPS_o (by assumption) (by assumption))
theorem zb_Ma_test_146 {G : Unit} {p : Nat} {t1 : Int32} {t2 : Int32} (h : KPS u0 u)  : KE u0 (hb_Ma_test_146 N G u p t1 t2) := by
  unfold hb_Ma_test_146
  repeat' (first | with_reducible assumption | with_reducible refine KE_br ?_ ?_ | with_reducible refine KE_bnd ?_ (fun _ _ _ => ?_) | with_reducible refine KE_ck ?_ | with_reducible refine KE_ltm ?_ (fun _ _ => ?_) | with_reducible refine KE_some ?_ | with_reducible refine KE_boe (fun _ _ => ?_) | with_reducible exact zb_Ma_test_229 (by assumption) | with_reducible exact zm_Ma_answer (by assumption) | with_reducible exact zm_Ma_truth (by assumption) | with_reducible refine KE_ltv (fun _ => ?_) | with_reducible refine KPS_I ?_ ?_ | with_reducible refine KPS_A ?_ ?_ | with_reducible refine KPS_J ?_ | with_reducible refine KPS_L ?_ | with_reducible refine KPS_N ?_ | with_reducible refine KPS_S ?_ | with_reducible refine KPS_gJ ?_ | with_reducible refine KPS_gI ?_ | omega | (unfold pq; omega) | exact KPS_o (by assumption) (by assumption))
theorem zb_Ma_test_124 {G : Unit} {p : Nat} {t1 : Int32} {t2 : Int32} (h : KPS u0 u)  : KE u0 (hb_Ma_test_124 N G u p t1 t2) := by
  unfold hb_Ma_test_124
  repeat' (first | with_reducible assumption | with_reducible refine KE_br ?_ ?_ | with_reducible refine KE_bnd ?_ (fun _ _ _ => ?_) | with_reducible refine KE_ck ?_ | with_reducible refine KE_ltm ?_ (fun _ _ => ?_) | with_reducible refine KE_some ?_ | with_reducible refine KE_boe (fun _ _ => ?_) | with_reducible exact zb_Ma_test_229 (by assumption) | with_reducible exact zm_Ma_answer (by assumption) | with_reducible exact zm_Ma_truth (by assumption) | with_reducible refine KE_ltv (fun _ => ?_) | with_reducible refine KPS_I ?_ ?_ | with_reducible refine KPS_A ?_ ?_ | with_reducible refine KPS_J ?_ | with_reducible refine KPS_L ?_ | with_reducible refine KPS_N ?_ | with_reducible refine KPS_S ?_ | with_reducible refine KPS_gJ ?_ | with_reducible refine KPS_gI ?_ | omega | (unfold pq; omega) | exact KPS_o (by assumption) (by assumption))
theorem zb_Ma_test_119 {G : Unit} {p : Nat} {t1 : Int32} (h : KPS u0 u)  : KE u0 (hb_Ma_test_119 N G u p t1) := by
  unfold hb_Ma_test_119
  repeat' (first | with_reducible assumption | with_reducible refine KE_br ?_ ?_ | with_reducible refine KE_bnd ?_ (fun _ _ _ => ?_) | with_reducible refine KE_ck ?_ | with_reducible refine KE_ltm ?_ (fun _ _ => ?_) | with_reducible refine KE_some ?_ | with_reducible refine KE_boe (fun _ _ => ?_) | with_reducible exact zb_Ma_test_124 (by assumption) | with_reducible refine KE_ltv (fun _ => ?_) | with_reducible refine KPS_I ?_ ?_ | with_reducible refine KPS_A ?_ ?_ | with_reducible refine KPS_J ?_ | with_reducible refine KPS_L ?_ | with_reducible refine KPS_N ?_ | with_reducible refine KPS_S ?_ | with_reducible refine KPS_gJ ?_ | with_reducible refine KPS_gI ?_ | omega | (unfold pq; omega) | exact KPS_o (by assumption) (by assumption))
theorem zb_Ma_test_94 {G : Unit} {p : Nat} {t1 : Int32} {t2 : Int32} (h : KPS u0 u)  : KE u0 (hb_Ma_test_94 N G u p t1 t2) := by
  unfold hb_Ma_test_94
  repeat' (first | with_reducible assumption | with_reducible refine KE_br ?_ ?_ | with_reducible refine KE_bnd ?_ (fun _ _ _ => ?_) | with_reducible refine KE_ck ?_ | with_reducible refine KE_ltm ?_ (fun _ _ => ?_) | with_reducible refine KE_some ?_ | with_reducible refine KE_boe (fun _ _ => ?_) | with_reducible exact zb_Ma_test_229 (by assumption) | with_reducible exact zm_Ma_answer (by assumption) | with_reducible exact zm_Ma_truth (by assumption) | with_reducible refine KE_ltv (fun _ => ?_) | with_reducible refine KPS_I ?_ ?_ | with_reducible refine KPS_A ?_ ?_ | with_reducible refine KPS_J ?_ | with_reducible refine KPS_L ?_ | with_reducible refine KPS_N ?_ | with_reducible refine KPS_S ?_ | with_reducible refine KPS_gJ ?_ | with_reducible refine KPS_gI ?_ | omega | (unfold pq; omega) | exact KPS_o (by assumption) (by assumption))
theorem zb_Ma_test_72 {G : Unit} {p : Nat} {t1 : Int32} {t2 : Int32} (h : KPS u0 u)  : KE u0 (hb_Ma_test_72 N G u p t1 t2) := by
  unfold hb_Ma_test_72
  repeat' (first | with_reducible assumption | with_reducible refine KE_br ?_ ?_ | with_reducible refine KE_bnd ?_ (fun _ _ _ => ?_) | with_reducible refine KE_ck ?_ | with_reducible refine KE_ltm ?_ (fun _ _ => ?_) | with_reducible refine KE_some ?_ | with_reducible refine KE_boe (fun _ _ => ?_) | with_reducible exact zb_Ma_test_229 (by assumption) | with_reducible exact zm_Ma_answer (by assumption) | with_reducible exact zm_Ma_truth (by assumption) | with_reducible refine KE_ltv (fun _ => ?_) | with_reducible refine KPS_I ?_ ?_ | with_reducible refine KPS_A ?_ ?_ | with_reducible refine KPS_J ?_ | with_reducible refine KPS_L ?_ | with_reducible refine KPS_N ?_ | with_reducible refine KPS_S ?_ | with_reducible refine KPS_gJ ?_ | with_reducible refine KPS_gI ?_ | omega | (unfold pq; omega) | exact KPS_o (by assumption) (by assumption))
theorem zb_Ma_test_0 {G : Unit} {p : Nat} {v1 : Int32} (h : KPS u0 u)  : KE u0 (hb_Ma_test_0 N G u p v1) := by
  unfold hb_Ma_test_0
  repeat' (first | with_reducible assumption | with_reducible refine KE_br ?_ ?_ | with_reducible refine KE_bnd ?_ (fun _ _ _ => ?_) | with_reducible refine KE_ck ?_ | with_reducible refine KE_ltm ?_ (fun _ _ => ?_) | with_reducible refine KE_some ?_ | with_reducible refine KE_boe (fun _ _ => ?_) | with_reducible exact zb_Ma_test_119 (by assumption) | with_reducible exact zb_Ma_test_124 (by assumption) | with_reducible exact zb_Ma_test_146 (by assumption) | with_reducible exact zb_Ma_test_168 (by assumption) | with_reducible exact zb_Ma_test_190 (by assumption) | with_reducible exact zb_Ma_test_212 (by assumption) | with_reducible exact zb_Ma_test_229 (by assumption) | with_reducible exact zb_Ma_test_72 (by assumption) | with_reducible exact zb_Ma_test_94 (by assumption) | with_reducible exact zm_Fr_below (by assumption) | with_reducible exact zm_Ma_part (by assumption) | with_reducible exact zm_Te_tag (by assumption) | with_reducible refine KE_ltv (fun _ => ?_) | with_reducible refine KPS_I ?_ ?_ | with_reducible refine KPS_A ?_ ?_ | with_reducible refine KPS_J ?_ | with_reducible refine KPS_L ?_ | with_reducible refine KPS_N ?_ | with_reducible refine KPS_S ?_ | with_reducible refine KPS_gJ ?_ | with_reducible refine KPS_gI ?_ | omega | (unfold pq; omega) | exact KPS_o (by assumption) (by assumption))
theorem zm_Ma_test {p : Nat} {v1 : Int32} (h : KPS u0 u) : KE u0 (hm_Ma_test N u p v1) := by
  unfold hm_Ma_test
  exact zb_Ma_test_0 h
theorem zb_Ma_alone_309 {G : Unit} {p : Nat} (h : KPS u0 u)  : KE u0 (hb_Ma_alone_309 N G u p) := by
  unfold hb_Ma_alone_309
  repeat' (first | with_reducible assumption | with_reducible refine KE_br ?_ ?_ | with_reducible refine KE_bnd ?_ (fun _ _ _ => ?_) | with_reducible refine KE_ck ?_ | with_reducible refine KE_ltm ?_ (fun _ _ => ?_) | with_reducible refine KE_some ?_ | with_reducible refine KE_boe (fun _ _ => ?_) | with_reducible refine KE_ltv (fun _ => ?_) | with_reducible refine KPS_I ?_ ?_ | with_reducible refine KPS_A ?_ ?_ | with_reducible refine KPS_J ?_ | with_reducible refine KPS_L ?_ | with_reducible refine KPS_N ?_ | with_reducible refine KPS_S ?_ | with_reducible refine KPS_gJ ?_ | with_reducible refine KPS_gI ?_ | omega | (unfold pq; omega) | exact KPS_o (by assumption) (by assumption))
theorem zb_Ma_alone_216 {G : Unit} {p : Nat} {t0 : Nat} {t1 : Int32} (h : KPS u0 u)  : KE u0 (hb_Ma_alone_216 N G u p t0 t1) := by
  unfold hb_Ma_alone_216
  repeat' (first | with_reducible assumption | with_reducible refine KE_br ?_ ?_ | with_reducible refine KE_bnd ?_ (fun _ _ _ => ?_) | with_reducible refine KE_ck ?_ | with_reducible refine KE_ltm ?_ (fun _ _ => ?_) | with_reducible refine KE_some ?_ | with_reducible refine KE_boe (fun _ _ => ?_) | with_reducible exact zb_Ma_alone_309 (by assumption) | with_reducible refine KE_ltv (fun _ => ?_) | with_reducible refine KPS_I ?_ ?_ | with_reducible refine KPS_A ?_ ?_ | with_reducible refine KPS_J ?_ | with_reducible refine KPS_L ?_ | with_reducible refine KPS_N ?_ | with_reducible refine KPS_S ?_ | with_reducible refine KPS_gJ ?_ | with_reducible refine KPS_gI ?_ | omega | (unfold pq; omega) | exact KPS_o (by assumption) (by assumption))
theorem zb_Ma_alone_183 {G : Unit} {p : Nat} {v2 : Int64} (h : KPS u0 u)  : KE u0 (hb_Ma_alone_183 N G u p v2) := by
  unfold hb_Ma_alone_183
  repeat' (first | with_reducible assumption | with_reducible refine KE_br ?_ ?_ | with_reducible refine KE_bnd ?_ (fun _ _ _ => ?_) | with_reducible refine KE_ck ?_ | with_reducible refine KE_ltm ?_ (fun _ _ => ?_) | with_reducible refine KE_some ?_ | with_reducible refine KE_boe (fun _ _ => ?_) | with_reducible exact zb_Ma_alone_216 (by assumption) | with_reducible exact zm_Ma_answer (by assumption) | with_reducible exact zm_Ma_truth (by assumption) | with_reducible exact zm_Ma_atom (by assumption) | with_reducible refine KE_ltv (fun _ => ?_) | with_reducible refine KPS_I ?_ ?_ | with_reducible refine KPS_A ?_ ?_ | with_reducible refine KPS_J ?_ | with_reducible refine KPS_L ?_ | with_reducible refine KPS_N ?_ | with_reducible refine KPS_S ?_ | with_reducible refine KPS_gJ ?_ | with_reducible refine KPS_gI ?_ | omega | (unfold pq; omega) | exact KPS_o (by assumption) (by assumption))
theorem zb_Ma_alone_0 {G : Unit} {p : Nat} {v1 : Int32} (h : KPS u0 u)  : KE u0 (hb_Ma_alone_0 N G u p v1) := by
  unfold hb_Ma_alone_0
  repeat' (first | with_reducible assumption | with_reducible refine KE_br ?_ ?_ | with_reducible refine KE_bnd ?_ (fun _ _ _ => ?_) | with_reducible refine KE_ck ?_ | with_reducible refine KE_ltm ?_ (fun _ _ => ?_) | with_reducible refine KE_some ?_ | with_reducible refine KE_boe (fun _ _ => ?_) | with_reducible exact zm_Wl_removeWatch (by assumption) | with_reducible exact zb_Ma_alone_183 (by assumption) | with_reducible exact zb_Ma_alone_309 (by assumption) | with_reducible exact zm_Ma_answer (by assumption) | with_reducible exact zm_Fr_below (by assumption) | with_reducible exact zm_Ma_wrong (by assumption) | with_reducible exact zm_Ma_atom (by assumption) | with_reducible exact zm_Ma_tell (by assumption) | with_reducible exact zm_Te_make (by assumption) | with_reducible exact zm_Te_tag (by assumption) | with_reducible refine KE_ltv (fun _ => ?_) | with_reducible refine KPS_I ?_ ?_ | with_reducible refine KPS_A ?_ ?_ | with_reducible refine KPS_J ?_ | with_reducible refine KPS_L ?_ | with_reducible refine KPS_N ?_ | with_reducible refine KPS_S ?_ | with_reducible refine KPS_gJ ?_ | with_reducible refine KPS_gI ?_ | omega | (unfold pq; omega) | exact KPS_o (by assumption) (by assumption))
theorem zm_Ma_alone {p : Nat} {v1 : Int32} (h : KPS u0 u) : KE u0 (hm_Ma_alone N u p v1) := by
  unfold hm_Ma_alone
  exact zb_Ma_alone_0 h
theorem zb_Ma_predefined_163 {G : Unit} {p : Nat} (h : KPS u0 u)  : KE u0 (hb_Ma_predefined_163 N G u p) := by
  unfold hb_Ma_predefined_163
  repeat' (first | with_reducible assumption | with_reducible refine KE_br ?_ ?_ | with_reducible refine KE_bnd ?_ (fun _ _ _ => ?_) | with_reducible refine KE_ck ?_ | with_reducible refine KE_ltm ?_ (fun _ _ => ?_) | with_reducible refine KE_some ?_ | with_reducible refine KE_boe (fun _ _ => ?_) | with_reducible refine KE_ltv (fun _ => ?_) | with_reducible refine KPS_I ?_ ?_ | with_reducible refine KPS_A ?_ ?_ | with_reducible refine KPS_J ?_ | with_reducible refine KPS_L ?_ | with_reducible refine KPS_N ?_ | with_reducible refine KPS_S ?_ | with_reducible refine KPS_gJ ?_ | with_reducible refine KPS_gI ?_ | omega | (unfold pq; omega) | exact KPS_o (by assumption) (by assumption))
theorem zb_Ma_predefined_146 {G : Unit} {p : Nat} (h : KPS u0 u)  : KE u0 (hb_Ma_predefined_146 N G u p) := by
  unfold hb_Ma_predefined_146
  repeat' (first | with_reducible assumption | with_reducible refine KE_br ?_ ?_ | with_reducible refine KE_bnd ?_ (fun _ _ _ => ?_) | with_reducible refine KE_ck ?_ | with_reducible refine KE_ltm ?_ (fun _ _ => ?_) | with_reducible refine KE_some ?_ | with_reducible refine KE_boe (fun _ _ => ?_) | with_reducible exact zb_Ma_predefined_163 (by assumption) | with_reducible refine KE_ltv (fun _ => ?_) | with_reducible refine KPS_I ?_ ?_ | with_reducible refine KPS_A ?_ ?_ | with_reducible refine KPS_J ?_ | with_reducible refine KPS_L ?_ | with_reducible refine KPS_N ?_ | with_reducible refine KPS_S ?_ | with_reducible refine KPS_gJ ?_ | with_reducible refine KPS_gI ?_ | omega | (unfold pq; omega) | exact KPS_o (by assumption) (by assumption))
theorem zb_Ma_predefined_141 {G : Unit} {p : Nat} {v1 : Int32} (h : KPS u0 u)  : KE u0 (hb_Ma_predefined_141 N G u p v1) := by
  unfold hb_Ma_predefined_141
  repeat' (first | with_reducible assumption | with_reducible refine KE_br ?_ ?_ | with_reducible refine KE_bnd ?_ (fun _ _ _ => ?_) | with_reducible refine KE_ck ?_ | with_reducible refine KE_ltm ?_ (fun _ _ => ?_) | with_reducible refine KE_some ?_ | with_reducible refine KE_boe (fun _ _ => ?_) | with_reducible exact zb_Ma_predefined_146 (by assumption) | with_reducible exact zm_Ma_alone (by assumption) | with_reducible refine KE_ltv (fun _ => ?_) | with_reducible refine KPS_I ?_ ?_ | with_reducible refine KPS_A ?_ ?_ | with_reducible refine KPS_J ?_ | with_reducible refine KPS_L ?_ | with_reducible refine KPS_N ?_ | with_reducible refine KPS_S ?_ | with_reducible refine KPS_gJ ?_ | with_reducible refine KPS_gI ?_ | omega | (unfold pq; omega) | exact KPS_o (by assumption) (by assumption))
theorem zb_Ma_predefined_0 {G : Unit} {p : Nat} {v1 : Int32} (h : KPS u0 u)  : KE u0 (hb_Ma_predefined_0 N G u p v1) := by
  unfold hb_Ma_predefined_0
  repeat' (first | with_reducible assumption | with_reducible refine KE_br ?_ ?_ | with_reducible refine KE_bnd ?_ (fun _ _ _ => ?_) | with_reducible refine KE_ck ?_ | with_reducible refine KE_ltm ?_ (fun _ _ => ?_) | with_reducible refine KE_some ?_ | with_reducible refine KE_boe (fun _ _ => ?_) | with_reducible exact zb_Ma_predefined_141 (by assumption) | with_reducible exact zb_Ma_predefined_146 (by assumption) | with_reducible exact zm_Ma_answer (by assumption) | with_reducible exact zm_Ma_naming (by assumption) | with_reducible exact zm_Fr_below (by assumption) | with_reducible exact zm_Ma_spawn (by assumption) | with_reducible exact zm_Wl_print (by assumption) | with_reducible exact zm_Ma_atom (by assumption) | with_reducible exact zm_Ma_test (by assumption) | with_reducible refine KE_ltv (fun _ => ?_) | with_reducible refine KPS_I ?_ ?_ | with_reducible refine KPS_A ?_ ?_ | with_reducible refine KPS_J ?_ | with_reducible refine KPS_L ?_ | with_reducible refine KPS_N ?_ | with_reducible refine KPS_S ?_ | with_reducible refine KPS_gJ ?_ | with_reducible refine KPS_gI ?_ | omega | (unfold pq; omega) | exact KPS_o (by assumption) (by assumption))
theorem zm_Ma_predefined {p : Nat} {v1 : Int32} (h : KPS u0 u) : KE u0 (hm_Ma_predefined N u p v1) := by
  unfold hm_Ma_predefined
  exact zb_Ma_predefined_0 h
theorem zb_Wl_post_193 {G : Unit} {v1 : Nat} {v2 : Int32} {v3 : Int32} {v11 : Int32} {v12 : Int64} (h : KPS u0 u)  : KE u0 (hb_Wl_post_193 N G u v1 v2 v3 v11 v12) := by
  unfold hb_Wl_post_193
  repeat' (first | with_reducible assumption | with_reducible refine KE_br ?_ ?_ | with_reducible refine KE_bnd ?_ (fun _ _ _ => ?_) | with_reducible refine KE_ck ?_ | with_reducible refine KE_ltm ?_ (fun _ _ => ?_) | with_reducible refine KE_some ?_ | with_reducible refine KE_boe (fun _ _ => ?_) | with_reducible exact zm_Pr_comes (by assumption) | with_reducible exact zm_Te_make (by assumption) | with_reducible refine KE_ltv (fun _ => ?_) | with_reducible refine KPS_I ?_ ?_ | with_reducible refine KPS_A ?_ ?_ | with_reducible refine KPS_J ?_ | with_reducible refine KPS_L ?_ | with_reducible refine KPS_N ?_ | with_reducible refine KPS_S ?_ | with_reducible refine KPS_gJ ?_ | with_reducible refine KPS_gI ?_ | omega | (unfold pq; omega) | exact KPS_o (by assumption) (by assumption))
theorem zb_Wl_post_169 {G : Unit} {v1 : Nat} {v2 : Int32} {v3 : Int32} {v4 : Int32} {v11 : Int32} {v12 : Int64} {t0 : Nat} {t1 : Int32} {t2 : Int32} {t3 : Int32} (h : KPS u0 u)  : KE u0 (hb_Wl_post_169 N G u v1 v2 v3 v4 v11 v12 t0 t1 t2 t3) := by
  unfold hb_Wl_post_169
  repeat' (first | with_reducible assumption | with_reducible refine KE_br ?_ ?_ | with_reducible refine KE_bnd ?_ (fun _ _ _ => ?_) | with_reducible refine KE_ck ?_ | with_reducible refine KE_ltm ?_ (fun _ _ => ?_) | with_reducible refine KE_some ?_ | with_reducible refine KE_boe (fun _ _ => ?_) | with_reducible exact zb_Wl_post_193 (by assumption) | with_reducible exact zm_Te_make (by assumption) | with_reducible refine KE_ltv (fun _ => ?_) | with_reducible refine KPS_I ?_ ?_ | with_reducible refine KPS_A ?_ ?_ | with_reducible refine KPS_J ?_ | with_reducible refine KPS_L ?_ | with_reducible refine KPS_N ?_ | with_reducible refine KPS_S ?_ | with_reducible refine KPS_gJ ?_ | with_reducible refine KPS_gI ?_ | omega | (unfold pq; omega) | exact KPS_o (by assumption) (by assumption))
theorem zb_Wl_post_120 {G : Unit} {v1 : Nat} {v2 : Int32} {v3 : Int32} {v4 : Int32} {v11 : Int32} {t0 : Int64} (h : KPS u0 u)  : KE u0 (hb_Wl_post_120 N G u v1 v2 v3 v4 v11 t0) := by
  unfold hb_Wl_post_120
  repeat' (first | with_reducible assumption | with_reducible refine KE_br ?_ ?_ | with_reducible refine KE_bnd ?_ (fun _ _ _ => ?_) | with_reducible refine KE_ck ?_ | with_reducible refine KE_ltm ?_ (fun _ _ => ?_) | with_reducible refine KE_some ?_ | with_reducible refine KE_boe (fun _ _ => ?_) | with_reducible exact zb_Wl_post_169 (by assumption) | with_reducible exact zm_Pr_comes (by assumption) | with_reducible exact zm_Te_make (by assumption) | with_reducible refine KE_ltv (fun _ => ?_) | with_reducible refine KPS_I ?_ ?_ | with_reducible refine KPS_A ?_ ?_ | with_reducible refine KPS_J ?_ | with_reducible refine KPS_L ?_ | with_reducible refine KPS_N ?_ | with_reducible refine KPS_S ?_ | with_reducible refine KPS_gJ ?_ | with_reducible refine KPS_gI ?_ | omega | (unfold pq; omega) | exact KPS_o (by assumption) (by assumption))
theorem zb_Wl_post_81 {G : Unit} {v1 : Nat} {v2 : Int32} {v3 : Int32} {v4 : Int32} {v7 : Option Nat} {t0 : Int64} (h : KPS u0 u)  : KE u0 (hb_Wl_post_81 N G u v1 v2 v3 v4 v7 t0) := by
  unfold hb_Wl_post_81
  repeat' (first | with_reducible assumption | with_reducible refine KE_br ?_ ?_ | with_reducible refine KE_bnd ?_ (fun _ _ _ => ?_) | with_reducible refine KE_ck ?_ | with_reducible refine KE_ltm ?_ (fun _ _ => ?_) | with_reducible refine KE_some ?_ | with_reducible refine KE_boe (fun _ _ => ?_) | with_reducible exact zb_Wl_post_120 (by assumption) | with_reducible exact zm_Pr_copyIn (by assumption) | with_reducible refine KE_ltv (fun _ => ?_) | with_reducible refine KPS_I ?_ ?_ | with_reducible refine KPS_A ?_ ?_ | with_reducible refine KPS_J ?_ | with_reducible refine KPS_L ?_ | with_reducible refine KPS_N ?_ | with_reducible refine KPS_S ?_ | with_reducible refine KPS_gJ ?_ | with_reducible refine KPS_gI ?_ | omega | (unfold pq; omega) | exact KPS_o (by assumption) (by assumption))
theorem zb_Wl_post_41 {G : Unit} {v1 : Nat} {v2 : Int32} {v3 : Int32} {v4 : Int32} {v5 : Int64} {v7 : Option Nat} {t0 : Int32} (h : KPS u0 u)  : KE u0 (hb_Wl_post_41 N G u v1 v2 v3 v4 v5 v7 t0) := by
  unfold hb_Wl_post_41
  repeat' (first | with_reducible assumption | with_reducible refine KE_br ?_ ?_ | with_reducible refine KE_bnd ?_ (fun _ _ _ => ?_) | with_reducible refine KE_ck ?_ | with_reducible refine KE_ltm ?_ (fun _ _ => ?_) | with_reducible refine KE_some ?_ | with_reducible refine KE_boe (fun _ _ => ?_) | with_reducible exact zb_Wl_post_81 (by assumption) | with_reducible exact zm_Wl_endsBy (by assumption) | with_reducible exact zm_Fr_below (by assumption) | with_reducible exact zm_Pr_want (by assumption) | with_reducible refine KE_ltv (fun _ => ?_) | with_reducible refine KPS_I ?_ ?_ | with_reducible refine KPS_A ?_ ?_ | with_reducible refine KPS_J ?_ | with_reducible refine KPS_L ?_ | with_reducible refine KPS_N ?_ | with_reducible refine KPS_S ?_ | with_reducible refine KPS_gJ ?_ | with_reducible refine KPS_gI ?_ | omega | (unfold pq; omega) | exact KPS_o (by assumption) (by assumption))
theorem zb_Wl_post_17 {G : Unit} (h : KPS u0 u)  : KE u0 (hb_Wl_post_17 N G u) := by
  unfold hb_Wl_post_17
  repeat' (first | with_reducible assumption | with_reducible refine KE_br ?_ ?_ | with_reducible refine KE_bnd ?_ (fun _ _ _ => ?_) | with_reducible refine KE_ck ?_ | with_reducible refine KE_ltm ?_ (fun _ _ => ?_) | with_reducible refine KE_some ?_ | with_reducible refine KE_boe (fun _ _ => ?_) | with_reducible refine KE_ltv (fun _ => ?_) | with_reducible refine KPS_I ?_ ?_ | with_reducible refine KPS_A ?_ ?_ | with_reducible refine KPS_J ?_ | with_reducible refine KPS_L ?_ | with_reducible refine KPS_N ?_ | with_reducible refine KPS_S ?_ | with_reducible refine KPS_gJ ?_ | with_reducible refine KPS_gI ?_ | omega | (unfold pq; omega) | exact KPS_o (by assumption) (by assumption))
theorem zb_Wl_post_0 {G : Unit} {v1 : Nat} {v2 : Int32} {v3 : Int32} {v4 : Int32} {v5 : Int64} {v7 : Option Nat} (h : KPS u0 u)  : KE u0 (hb_Wl_post_0 N G u v1 v2 v3 v4 v5 v7) := by
  unfold hb_Wl_post_0
  repeat' (first | with_reducible assumption | with_reducible refine KE_br ?_ ?_ | with_reducible refine KE_bnd ?_ (fun _ _ _ => ?_) | with_reducible refine KE_ck ?_ | with_reducible refine KE_ltm ?_ (fun _ _ => ?_) | with_reducible refine KE_some ?_ | with_reducible refine KE_boe (fun _ _ => ?_) | with_reducible exact zb_Wl_post_17 (by assumption) | with_reducible exact zb_Wl_post_41 (by assumption) | with_reducible exact zm_Te_size (by assumption) | with_reducible refine KE_ltv (fun _ => ?_) | with_reducible refine KPS_I ?_ ?_ | with_reducible refine KPS_A ?_ ?_ | with_reducible refine KPS_J ?_ | with_reducible refine KPS_L ?_ | with_reducible refine KPS_N ?_ | with_reducible refine KPS_S ?_ | with_reducible refine KPS_gJ ?_ | with_reducible refine KPS_gI ?_ | omega | (unfold pq; omega) | exact KPS_o (by assumption) (by assumption))
theorem zm_Wl_post {v1 : Nat} {v2 : Int32} {v3 : Int32} {v4 : Int32} {v5 : Int64} {v7 : Option Nat} (h : KPS u0 u) : KE u0 (hm_Wl_post N u v1 v2 v3 v4 v5 v7) := by
  unfold hm_Wl_post
  exact zb_Wl_post_0 h
theorem zb_Wl_signal_121 {G : Unit} (h : KPS u0 u)  : KE u0 (hb_Wl_signal_121 N G u) := by
  unfold hb_Wl_signal_121
  repeat' (first | with_reducible assumption | with_reducible refine KE_br ?_ ?_ | with_reducible refine KE_bnd ?_ (fun _ _ _ => ?_) | with_reducible refine KE_ck ?_ | with_reducible refine KE_ltm ?_ (fun _ _ => ?_) | with_reducible refine KE_some ?_ | with_reducible refine KE_boe (fun _ _ => ?_) | with_reducible refine KE_ltv (fun _ => ?_) | with_reducible refine KPS_I ?_ ?_ | with_reducible refine KPS_A ?_ ?_ | with_reducible refine KPS_J ?_ | with_reducible refine KPS_L ?_ | with_reducible refine KPS_N ?_ | with_reducible refine KPS_S ?_ | with_reducible refine KPS_gJ ?_ | with_reducible refine KPS_gI ?_ | omega | (unfold pq; omega) | exact KPS_o (by assumption) (by assumption))
theorem zb_Wl_signal_70 {G : Unit} {v2 : Nat} {v3 : Int64} (h : KPS u0 u)  : KE u0 (hb_Wl_signal_70 N G u v2 v3) := by
  unfold hb_Wl_signal_70
  repeat' (first | with_reducible assumption | with_reducible refine KE_br ?_ ?_ | with_reducible refine KE_bnd ?_ (fun _ _ _ => ?_) | with_reducible refine KE_ck ?_ | with_reducible refine KE_ltm ?_ (fun _ _ => ?_) | with_reducible refine KE_some ?_ | with_reducible refine KE_boe (fun _ _ => ?_) | with_reducible exact zb_Wl_signal_121 (by assumption) | with_reducible exact zm_Wl_endsWith (by assumption) | with_reducible refine KE_ltv (fun _ => ?_) | with_reducible refine KPS_I ?_ ?_ | with_reducible refine KPS_A ?_ ?_ | with_reducible refine KPS_J ?_ | with_reducible refine KPS_L ?_ | with_reducible refine KPS_N ?_ | with_reducible refine KPS_S ?_ | with_reducible refine KPS_gJ ?_ | with_reducible refine KPS_gI ?_ | omega | (unfold pq; omega) | exact KPS_o (by assumption) (by assumption))
theorem zb_Wl_signal_59 {G : Unit} {v2 : Nat} {v3 : Int64} {v5 : Option Nat} (h : KPS u0 u)  : KE u0 (hb_Wl_signal_59 N G u v2 v3 v5) := by
  unfold hb_Wl_signal_59
  repeat' (first | with_reducible assumption | with_reducible refine KE_br ?_ ?_ | with_reducible refine KE_bnd ?_ (fun _ _ _ => ?_) | with_reducible refine KE_ck ?_ | with_reducible refine KE_ltm ?_ (fun _ _ => ?_) | with_reducible refine KE_some ?_ | with_reducible refine KE_boe (fun _ _ => ?_) | with_reducible exact zb_Wl_signal_121 (by assumption) | with_reducible exact zb_Wl_signal_70 (by assumption) | with_reducible exact zm_Wl_endsWith (by assumption) | with_reducible exact zm_Pr_copyIn (by assumption) | with_reducible refine KE_ltv (fun _ => ?_) | with_reducible refine KPS_I ?_ ?_ | with_reducible refine KPS_A ?_ ?_ | with_reducible refine KPS_J ?_ | with_reducible refine KPS_L ?_ | with_reducible refine KPS_N ?_ | with_reducible refine KPS_S ?_ | with_reducible refine KPS_gJ ?_ | with_reducible refine KPS_gI ?_ | omega | (unfold pq; omega) | exact KPS_o (by assumption) (by assumption))
theorem zb_Wl_signal_43 {G : Unit} {v1 : Int32} {v2 : Nat} {v3 : Int64} {v5 : Option Nat} {t0 : Int32} (h : KPS u0 u)  : KE u0 (hb_Wl_signal_43 N G u v1 v2 v3 v5 t0) := by
  unfold hb_Wl_signal_43
  repeat' (first | with_reducible assumption | with_reducible refine KE_br ?_ ?_ | with_reducible refine KE_bnd ?_ (fun _ _ _ => ?_) | with_reducible refine KE_ck ?_ | with_reducible refine KE_ltm ?_ (fun _ _ => ?_) | with_reducible refine KE_some ?_ | with_reducible refine KE_boe (fun _ _ => ?_) | with_reducible exact zb_Wl_signal_59 (by assumption) | with_reducible refine KE_ltv (fun _ => ?_) | with_reducible refine KPS_I ?_ ?_ | with_reducible refine KPS_A ?_ ?_ | with_reducible refine KPS_J ?_ | with_reducible refine KPS_L ?_ | with_reducible refine KPS_N ?_ | with_reducible refine KPS_S ?_ | with_reducible refine KPS_gJ ?_ | with_reducible refine KPS_gI ?_ | omega | (unfold pq; omega) | exact KPS_o (by assumption) (by assumption))
theorem zb_Wl_signal_0 {G : Unit} {v1 : Int32} {v2 : Nat} {v3 : Int64} {v5 : Option Nat} (h : KPS u0 u)  : KE u0 (hb_Wl_signal_0 N G u v1 v2 v3 v5) := by
  unfold hb_Wl_signal_0
  repeat' (first | with_reducible assumption | with_reducible refine KE_br ?_ ?_ | with_reducible refine KE_bnd ?_ (fun _ _ _ => ?_) | with_reducible refine KE_ck ?_ | with_reducible refine KE_ltm ?_ (fun _ _ => ?_) | with_reducible refine KE_some ?_ | with_reducible refine KE_boe (fun _ _ => ?_) | with_reducible exact zb_Wl_signal_43 (by assumption) | with_reducible exact zm_Te_make (by assumption) | with_reducible exact zm_Wl_post (by assumption) | with_reducible refine KE_ltv (fun _ => ?_) | with_reducible refine KPS_I ?_ ?_ | with_reducible refine KPS_A ?_ ?_ | with_reducible refine KPS_J ?_ | with_reducible refine KPS_L ?_ | with_reducible refine KPS_N ?_ | with_reducible refine KPS_S ?_ | with_reducible refine KPS_gJ ?_ | with_reducible refine KPS_gI ?_ | omega | (unfold pq; omega) | exact KPS_o (by assumption) (by assumption))
theorem zm_Wl_signal {v1 : Int32} {v2 : Nat} {v3 : Int64} {v5 : Option Nat} (h : KPS u0 u) : KE u0 (hm_Wl_signal N u v1 v2 v3 v5) := by
  unfold hm_Wl_signal
  exact zb_Wl_signal_0 h
theorem zb_Pr_removeLink_44 {G : Unit} (h : KPS u0 u)  : KE u0 (hb_Pr_removeLink_44 N G u) := by
  unfold hb_Pr_removeLink_44
  repeat' (first | with_reducible assumption | with_reducible refine KE_br ?_ ?_ | with_reducible refine KE_bnd ?_ (fun _ _ _ => ?_) | with_reducible refine KE_ck ?_ | with_reducible refine KE_ltm ?_ (fun _ _ => ?_) | with_reducible refine KE_some ?_ | with_reducible refine KE_boe (fun _ _ => ?_) | with_reducible refine KE_ltv (fun _ => ?_) | with_reducible refine KPS_I ?_ ?_ | with_reducible refine KPS_A ?_ ?_ | with_reducible refine KPS_J ?_ | with_reducible refine KPS_L ?_ | with_reducible refine KPS_N ?_ | with_reducible refine KPS_S ?_ | with_reducible refine KPS_gJ ?_ | with_reducible refine KPS_gI ?_ | omega | (unfold pq; omega) | exact KPS_o (by assumption) (by assumption))
theorem zb_Pr_removeLink_0 {G : Unit} {v0 : Nat} {v1 : Int32} (h : KPS u0 u)  : KE u0 (hb_Pr_removeLink_0 N G u v0 v1) := by
  unfold hb_Pr_removeLink_0
  repeat' (first | with_reducible assumption | with_reducible refine KE_br ?_ ?_ | with_reducible refine KE_bnd ?_ (fun _ _ _ => ?_) | with_reducible refine KE_ck ?_ | with_reducible refine KE_ltm ?_ (fun _ _ => ?_) | with_reducible refine KE_some ?_ | with_reducible refine KE_boe (fun _ _ => ?_) | with_reducible exact zb_Pr_removeLink_44 (by assumption) | with_reducible exact zm_Pr_seekLink (by assumption) | with_reducible refine KE_ltv (fun _ => ?_) | with_reducible refine KPS_I ?_ ?_ | with_reducible refine KPS_A ?_ ?_ | with_reducible refine KPS_J ?_ | with_reducible refine KPS_L ?_ | with_reducible refine KPS_N ?_ | with_reducible refine KPS_S ?_ | with_reducible refine KPS_gJ ?_ | with_reducible refine KPS_gI ?_ | omega | (unfold pq; omega) | exact KPS_o (by assumption) (by assumption))
theorem zm_Pr_removeLink {v0 : Nat} {v1 : Int32} (h : KPS u0 u) : KE u0 (hm_Pr_removeLink N u v0 v1) := by
  unfold hm_Pr_removeLink
  exact zb_Pr_removeLink_0 h
theorem zb_Ma_watch_81 {G : Unit} {p : Nat} {v2 : Int32} (h : KPS u0 u)  : KE u0 (hb_Ma_watch_81 N G u p v2) := by
  unfold hb_Ma_watch_81
  repeat' (first | with_reducible assumption | with_reducible refine KE_br ?_ ?_ | with_reducible refine KE_bnd ?_ (fun _ _ _ => ?_) | with_reducible refine KE_ck ?_ | with_reducible refine KE_ltm ?_ (fun _ _ => ?_) | with_reducible refine KE_some ?_ | with_reducible refine KE_boe (fun _ _ => ?_) | with_reducible exact zm_Te_make (by assumption) | with_reducible refine KE_ltv (fun _ => ?_) | with_reducible refine KPS_I ?_ ?_ | with_reducible refine KPS_A ?_ ?_ | with_reducible refine KPS_J ?_ | with_reducible refine KPS_L ?_ | with_reducible refine KPS_N ?_ | with_reducible refine KPS_S ?_ | with_reducible refine KPS_gJ ?_ | with_reducible refine KPS_gI ?_ | omega | (unfold pq; omega) | exact KPS_o (by assumption) (by assumption))
theorem zb_Ma_watch_0 {G : Unit} {p : Nat} {v1 : Nat} (h : KPS u0 u)  : KE u0 (hb_Ma_watch_0 N G u p v1) := by
  unfold hb_Ma_watch_0
  repeat' (first | with_reducible assumption | with_reducible refine KE_br ?_ ?_ | with_reducible refine KE_bnd ?_ (fun _ _ _ => ?_) | with_reducible refine KE_ck ?_ | with_reducible refine KE_ltm ?_ (fun _ _ => ?_) | with_reducible refine KE_some ?_ | with_reducible refine KE_boe (fun _ _ => ?_) | with_reducible exact zb_Ma_watch_81 (by assumption) | with_reducible exact zm_Wl_addWatch (by assumption) | with_reducible exact zm_Ma_atom (by assumption) | with_reducible exact zm_Wl_post (by assumption) | with_reducible refine KE_ltv (fun _ => ?_) | with_reducible refine KPS_I ?_ ?_ | with_reducible refine KPS_A ?_ ?_ | with_reducible refine KPS_J ?_ | with_reducible refine KPS_L ?_ | with_reducible refine KPS_N ?_ | with_reducible refine KPS_S ?_ | with_reducible refine KPS_gJ ?_ | with_reducible refine KPS_gI ?_ | omega | (unfold pq; omega) | exact KPS_o (by assumption) (by assumption))
theorem zm_Ma_watch {p : Nat} {v1 : Nat} (h : KPS u0 u) : KE u0 (hm_Ma_watch N u p v1) := by
  unfold hm_Ma_watch
  exact zb_Ma_watch_0 h
theorem zb_Ma_toward_335 {G : Unit} {p : Nat} {v2 : Int32} {v5 : Int64} (h : KPS u0 u)  : KE u0 (hb_Ma_toward_335 N G u p v2 v5) := by
  unfold hb_Ma_toward_335
  repeat' (first | with_reducible assumption | with_reducible refine KE_br ?_ ?_ | with_reducible refine KE_bnd ?_ (fun _ _ _ => ?_) | with_reducible refine KE_ck ?_ | with_reducible refine KE_ltm ?_ (fun _ _ => ?_) | with_reducible refine KE_some ?_ | with_reducible refine KE_boe (fun _ _ => ?_) | with_reducible exact zm_Ma_answer (by assumption) | with_reducible refine KE_ltv (fun _ => ?_) | with_reducible refine KPS_I ?_ ?_ | with_reducible refine KPS_A ?_ ?_ | with_reducible refine KPS_J ?_ | with_reducible refine KPS_L ?_ | with_reducible refine KPS_N ?_ | with_reducible refine KPS_S ?_ | with_reducible refine KPS_gJ ?_ | with_reducible refine KPS_gI ?_ | omega | (unfold pq; omega) | exact KPS_o (by assumption) (by assumption))
theorem zb_Ma_toward_330 {G : Unit} {p : Nat} {v2 : Int32} {t0 : Int32} (h : KPS u0 u)  : KE u0 (hb_Ma_toward_330 N G u p v2 t0) := by
  unfold hb_Ma_toward_330
  repeat' (first | with_reducible assumption | with_reducible refine KE_br ?_ ?_ | with_reducible refine KE_bnd ?_ (fun _ _ _ => ?_) | with_reducible refine KE_ck ?_ | with_reducible refine KE_ltm ?_ (fun _ _ => ?_) | with_reducible refine KE_some ?_ | with_reducible refine KE_boe (fun _ _ => ?_) | with_reducible exact zb_Ma_toward_335 (by assumption) | with_reducible exact zm_Ma_truth (by assumption) | with_reducible refine KE_ltv (fun _ => ?_) | with_reducible refine KPS_I ?_ ?_ | with_reducible refine KPS_A ?_ ?_ | with_reducible refine KPS_J ?_ | with_reducible refine KPS_L ?_ | with_reducible refine KPS_N ?_ | with_reducible refine KPS_S ?_ | with_reducible refine KPS_gJ ?_ | with_reducible refine KPS_gI ?_ | omega | (unfold pq; omega) | exact KPS_o (by assumption) (by assumption))
theorem zb_Ma_toward_95 {G : Unit} {p : Nat} {v1 : Int32} {v2 : Int32} {v3 : Option Nat} (h : KPS u0 u)  : KE u0 (hb_Ma_toward_95 N G u p v1 v2 v3) := by
  unfold hb_Ma_toward_95
  repeat' (first | with_reducible assumption | with_reducible refine KE_br ?_ ?_ | with_reducible refine KE_bnd ?_ (fun _ _ _ => ?_) | with_reducible refine KE_ck ?_ | with_reducible refine KE_ltm ?_ (fun _ _ => ?_) | with_reducible refine KE_some ?_ | with_reducible refine KE_boe (fun _ _ => ?_) | with_reducible exact zb_Ma_toward_330 (by assumption) | with_reducible exact zb_Ma_toward_335 (by assumption) | with_reducible exact zm_Pr_removeLink (by assumption) | with_reducible exact zm_Pr_seekLink (by assumption) | with_reducible exact zm_Pr_addLink (by assumption) | with_reducible exact zm_Wl_endsBy (by assumption) | with_reducible exact zm_Wl_signal (by assumption) | with_reducible exact zm_Fr_below (by assumption) | with_reducible exact zm_Ma_watch (by assumption) | with_reducible exact zm_Ma_atom (by assumption) | with_reducible refine KE_ltv (fun _ => ?_) | with_reducible refine KPS_I ?_ ?_ | with_reducible refine KPS_A ?_ ?_ | with_reducible refine KPS_J ?_ | with_reducible refine KPS_L ?_ | with_reducible refine KPS_N ?_ | with_reducible refine KPS_S ?_ | with_reducible refine KPS_gJ ?_ | with_reducible refine KPS_gI ?_ | omega | (unfold pq; omega) | exact KPS_o (by assumption) (by assumption))
theorem zb_Ma_toward_88 {G : Unit} {p : Nat} (h : KPS u0 u)  : KE u0 (hb_Ma_toward_88 N G u p) := by
  unfold hb_Ma_toward_88
  repeat' (first | with_reducible assumption | with_reducible refine KE_br ?_ ?_ | with_reducible refine KE_bnd ?_ (fun _ _ _ => ?_) | with_reducible refine KE_ck ?_ | with_reducible refine KE_ltm ?_ (fun _ _ => ?_) | with_reducible refine KE_some ?_ | with_reducible refine KE_boe (fun _ _ => ?_) | with_reducible exact zm_Ma_wrong (by assumption) | with_reducible refine KE_ltv (fun _ => ?_) | with_reducible refine KPS_I ?_ ?_ | with_reducible refine KPS_A ?_ ?_ | with_reducible refine KPS_J ?_ | with_reducible refine KPS_L ?_ | with_reducible refine KPS_N ?_ | with_reducible refine KPS_S ?_ | with_reducible refine KPS_gJ ?_ | with_reducible refine KPS_gI ?_ | omega | (unfold pq; omega) | exact KPS_o (by assumption) (by assumption))
theorem zb_Ma_toward_59 {G : Unit} {p : Nat} {v1 : Int32} {v2 : Int32} {v3 : Option Nat} {t0 : Int32} (h : KPS u0 u)  : KE u0 (hb_Ma_toward_59 N G u p v1 v2 v3 t0) := by
  unfold hb_Ma_toward_59
  repeat' (first | with_reducible assumption | with_reducible refine KE_br ?_ ?_ | with_reducible refine KE_bnd ?_ (fun _ _ _ => ?_) | with_reducible refine KE_ck ?_ | with_reducible refine KE_ltm ?_ (fun _ _ => ?_) | with_reducible refine KE_some ?_ | with_reducible refine KE_boe (fun _ _ => ?_) | with_reducible exact zb_Ma_toward_88 (by assumption) | with_reducible exact zb_Ma_toward_95 (by assumption) | with_reducible refine KE_ltv (fun _ => ?_) | with_reducible refine KPS_I ?_ ?_ | with_reducible refine KPS_A ?_ ?_ | with_reducible refine KPS_J ?_ | with_reducible refine KPS_L ?_ | with_reducible refine KPS_N ?_ | with_reducible refine KPS_S ?_ | with_reducible refine KPS_gJ ?_ | with_reducible refine KPS_gI ?_ | omega | (unfold pq; omega) | exact KPS_o (by assumption) (by assumption))
theorem zb_Ma_toward_58 {G : Unit} {p : Nat} {v1 : Int32} {v2 : Int32} {v3 : Option Nat} (h : KPS u0 u)  : KE u0 (hb_Ma_toward_58 N G u p v1 v2 v3) := by
  unfold hb_Ma_toward_58
  repeat' (first | with_reducible assumption | with_reducible refine KE_br ?_ ?_ | with_reducible refine KE_bnd ?_ (fun _ _ _ => ?_) | with_reducible refine KE_ck ?_ | with_reducible refine KE_ltm ?_ (fun _ _ => ?_) | with_reducible refine KE_some ?_ | with_reducible refine KE_boe (fun _ _ => ?_) | with_reducible exact zb_Ma_toward_59 (by assumption) | with_reducible refine KE_ltv (fun _ => ?_) | with_reducible refine KPS_I ?_ ?_ | with_reducible refine KPS_A ?_ ?_ | with_reducible refine KPS_J ?_ | with_reducible refine KPS_L ?_ | with_reducible refine KPS_N ?_ | with_reducible refine KPS_S ?_ | with_reducible refine KPS_gJ ?_ | with_reducible refine KPS_gI ?_ | omega | (unfold pq; omega) | exact KPS_o (by assumption) (by assumption))
theorem zb_Ma_toward_11 {G : Unit} {p : Nat} {v1 : Int32} {t0 : Int32} (h : KPS u0 u)  : KE u0 (hb_Ma_toward_11 N G u p v1 t0) := by
  unfold hb_Ma_toward_11
  repeat' (first | with_reducible assumption | with_reducible refine KE_br ?_ ?_ | with_reducible refine KE_bnd ?_ (fun _ _ _ => ?_) | with_reducible refine KE_ck ?_ | with_reducible refine KE_ltm ?_ (fun _ _ => ?_) | with_reducible refine KE_some ?_ | with_reducible refine KE_boe (fun _ _ => ?_) | with_reducible exact zb_Ma_toward_58 (by assumption) | with_reducible exact zb_Ma_toward_59 (by assumption) | with_reducible exact zm_Ma_processAt (by assumption) | with_reducible exact zm_Fr_below (by assumption) | with_reducible exact zm_Te_size (by assumption) | with_reducible refine KE_ltv (fun _ => ?_) | with_reducible refine KPS_I ?_ ?_ | with_reducible refine KPS_A ?_ ?_ | with_reducible refine KPS_J ?_ | with_reducible refine KPS_L ?_ | with_reducible refine KPS_N ?_ | with_reducible refine KPS_S ?_ | with_reducible refine KPS_gJ ?_ | with_reducible refine KPS_gI ?_ | omega | (unfold pq; omega) | exact KPS_o (by assumption) (by assumption))
theorem zb_Ma_toward_0 {G : Unit} {p : Nat} {v1 : Int32} (h : KPS u0 u)  : KE u0 (hb_Ma_toward_0 N G u p v1) := by
  unfold hb_Ma_toward_0
  repeat' (first | with_reducible assumption | with_reducible refine KE_br ?_ ?_ | with_reducible refine KE_bnd ?_ (fun _ _ _ => ?_) | with_reducible refine KE_ck ?_ | with_reducible refine KE_ltm ?_ (fun _ _ => ?_) | with_reducible refine KE_some ?_ | with_reducible refine KE_boe (fun _ _ => ?_) | with_reducible exact zb_Ma_toward_11 (by assumption) | with_reducible refine KE_ltv (fun _ => ?_) | with_reducible refine KPS_I ?_ ?_ | with_reducible refine KPS_A ?_ ?_ | with_reducible refine KPS_J ?_ | with_reducible refine KPS_L ?_ | with_reducible refine KPS_N ?_ | with_reducible refine KPS_S ?_ | with_reducible refine KPS_gJ ?_ | with_reducible refine KPS_gI ?_ | omega | (unfold pq; omega) | exact KPS_o (by assumption) (by assumption))
theorem zm_Ma_toward {p : Nat} {v1 : Int32} (h : KPS u0 u) : KE u0 (hm_Ma_toward N u p v1) := by
  unfold hm_Ma_toward
  exact zb_Ma_toward_0 h
theorem zb_Ma_room_0 {G : Unit} {p : Nat} {v1 : Int32} (h : KPS u0 u)  : KE u0 (hb_Ma_room_0 N G u p v1) := by
  unfold hb_Ma_room_0
  repeat' (first | with_reducible assumption | with_reducible refine KE_br ?_ ?_ | with_reducible refine KE_bnd ?_ (fun _ _ _ => ?_) | with_reducible refine KE_ck ?_ | with_reducible refine KE_ltm ?_ (fun _ _ => ?_) | with_reducible refine KE_some ?_ | with_reducible refine KE_boe (fun _ _ => ?_) | with_reducible exact zm_Wl_endsBy (by assumption) | with_reducible exact zm_Pr_want (by assumption) | with_reducible refine KE_ltv (fun _ => ?_) | with_reducible refine KPS_I ?_ ?_ | with_reducible refine KPS_A ?_ ?_ | with_reducible refine KPS_J ?_ | with_reducible refine KPS_L ?_ | with_reducible refine KPS_N ?_ | with_reducible refine KPS_S ?_ | with_reducible refine KPS_gJ ?_ | with_reducible refine KPS_gI ?_ | omega | (unfold pq; omega) | exact KPS_o (by assumption) (by assumption))
theorem zm_Ma_room {p : Nat} {v1 : Int32} (h : KPS u0 u) : KE u0 (hm_Ma_room N u p v1) := by
  unfold hm_Ma_room
  exact zb_Ma_room_0 h
theorem zb_Ma_string_126 {G : (MS → Nat → Int32 → Int32 → Int32 → Option (MS × Unit))} {p : Nat} {v1 : Int32} {t0 : Nat} {t1 : Int64} (h : KPS u0 u) (hG0 : ∀ (u : MS) a0 a1 a2 a3, KPS u0 u → KE u0 (G u a0 a1 a2 a3)) : KE u0 (hb_Ma_string_126 N G u p v1 t0 t1) := by
  unfold hb_Ma_string_126
  repeat' (first | with_reducible assumption | with_reducible refine KE_br ?_ ?_ | with_reducible refine KE_bnd ?_ (fun _ _ _ => ?_) | with_reducible refine KE_ck ?_ | with_reducible refine KE_ltm ?_ (fun _ _ => ?_) | with_reducible refine KE_some ?_ | with_reducible refine KE_boe (fun _ _ => ?_) | with_reducible exact zm_Fr_push (by assumption) | with_reducible exact hG0 _ _ _ _ _ (by assumption) | with_reducible refine KE_ltv (fun _ => ?_) | with_reducible refine KPS_I ?_ ?_ | with_reducible refine KPS_A ?_ ?_ | with_reducible refine KPS_J ?_ | with_reducible refine KPS_L ?_ | with_reducible refine KPS_N ?_ | with_reducible refine KPS_S ?_ | with_reducible refine KPS_gJ ?_ | with_reducible refine KPS_gI ?_ | omega | (unfold pq; omega) | exact KPS_o (by assumption) (by assumption))
theorem zb_Ma_string_21 {G : (MS → Nat → Int32 → Int32 → Int32 → Option (MS × Unit))} {p : Nat} {v1 : Int32} {v2 : Int32} {v3 : Int32} (h : KPS u0 u) (hG0 : ∀ (u : MS) a0 a1 a2 a3, KPS u0 u → KE u0 (G u a0 a1 a2 a3)) : KE u0 (hb_Ma_string_21 N G u p v1 v2 v3) := by
  unfold hb_Ma_string_21
  repeat' (first | with_reducible assumption | with_reducible refine KE_br ?_ ?_ | with_reducible refine KE_bnd ?_ (fun _ _ _ => ?_) | with_reducible refine KE_ck ?_ | with_reducible refine KE_ltm ?_ (fun _ _ => ?_) | with_reducible refine KE_some ?_ | with_reducible refine KE_boe (fun _ _ => ?_) | with_reducible exact zb_Ma_string_126 (by assumption) hG0 | with_reducible exact zm_Ma_endList (by assumption) | with_reducible exact zm_Te_make (by assumption) | with_reducible exact zm_Co_at (by assumption) | with_reducible exact hG0 _ _ _ _ _ (by assumption) | with_reducible refine KE_ltv (fun _ => ?_) | with_reducible refine KPS_I ?_ ?_ | with_reducible refine KPS_A ?_ ?_ | with_reducible refine KPS_J ?_ | with_reducible refine KPS_L ?_ | with_reducible refine KPS_N ?_ | with_reducible refine KPS_S ?_ | with_reducible refine KPS_gJ ?_ | with_reducible refine KPS_gI ?_ | omega | (unfold pq; omega) | exact KPS_o (by assumption) (by assumption))
theorem zb_Ma_string_0 {G : (MS → Nat → Int32 → Int32 → Int32 → Option (MS × Unit))} {p : Nat} {v1 : Int32} (h : KPS u0 u) (hG0 : ∀ (u : MS) a0 a1 a2 a3, KPS u0 u → KE u0 (G u a0 a1 a2 a3)) : KE u0 (hb_Ma_string_0 N G u p v1) := by
  unfold hb_Ma_string_0
  repeat' (first | with_reducible assumption | with_reducible refine KE_br ?_ ?_ | with_reducible refine KE_bnd ?_ (fun _ _ _ => ?_) | with_reducible refine KE_ck ?_ | with_reducible refine KE_ltm ?_ (fun _ _ => ?_) | with_reducible refine KE_some ?_ | with_reducible refine KE_boe (fun _ _ => ?_) | with_reducible exact zm_Ma_room (by assumption) | with_reducible exact hG0 _ _ _ _ _ (by assumption) | with_reducible refine KE_ltv (fun _ => ?_) | with_reducible refine KPS_I ?_ ?_ | with_reducible refine KPS_A ?_ ?_ | with_reducible refine KPS_J ?_ | with_reducible refine KPS_L ?_ | with_reducible refine KPS_N ?_ | with_reducible refine KPS_S ?_ | with_reducible refine KPS_gJ ?_ | with_reducible refine KPS_gI ?_ | omega | (unfold pq; omega) | exact KPS_o (by assumption) (by assumption))
theorem zg_Ma_string (n : Nat) : (∀ (u : MS) a0 a1 a2 a3, KPS u0 u → KE u0 ((hg_Ma_string N n) u a0 a1 a2 a3)) := by
  induction n with
  | zero => exact fun _ _ _ _ _ _ => KE_none
  | succ n ih => exact fun _ _ _ _ _ h => zb_Ma_string_21 (N := N) h ih
theorem zm_Ma_string {p : Nat} {v1 : Int32} (h : KPS u0 u) : KE u0 (hm_Ma_string N u p v1) := by
  unfold hm_Ma_string
  exact zb_Ma_string_0 h (zg_Ma_string N)
theorem zb_Ma_tuple_57 {G : (MS → Nat → Int32 → Int32 → Int32 → Option (MS × Unit))} {p : Nat} {v1 : Int32} {v2 : Int32} {v3 : Int32} (h : KPS u0 u) (hG0 : ∀ (u : MS) a0 a1 a2 a3, KPS u0 u → KE u0 (G u a0 a1 a2 a3)) : KE u0 (hb_Ma_tuple_57 N G u p v1 v2 v3) := by
  unfold hb_Ma_tuple_57
  repeat' (first | with_reducible assumption | with_reducible refine KE_br ?_ ?_ | with_reducible refine KE_bnd ?_ (fun _ _ _ => ?_) | with_reducible refine KE_ck ?_ | with_reducible refine KE_ltm ?_ (fun _ _ => ?_) | with_reducible refine KE_some ?_ | with_reducible refine KE_boe (fun _ _ => ?_) | with_reducible exact zm_Ma_answer (by assumption) | with_reducible exact zm_Fr_below (by assumption) | with_reducible exact zm_Te_make (by assumption) | with_reducible exact hG0 _ _ _ _ _ (by assumption) | with_reducible refine KE_ltv (fun _ => ?_) | with_reducible refine KPS_I ?_ ?_ | with_reducible refine KPS_A ?_ ?_ | with_reducible refine KPS_J ?_ | with_reducible refine KPS_L ?_ | with_reducible refine KPS_N ?_ | with_reducible refine KPS_S ?_ | with_reducible refine KPS_gJ ?_ | with_reducible refine KPS_gI ?_ | omega | (unfold pq; omega) | exact KPS_o (by assumption) (by assumption))
theorem zb_Ma_tuple_0 {G : (MS → Nat → Int32 → Int32 → Int32 → Option (MS × Unit))} {p : Nat} {v1 : Int32} (h : KPS u0 u) (hG0 : ∀ (u : MS) a0 a1 a2 a3, KPS u0 u → KE u0 (G u a0 a1 a2 a3)) : KE u0 (hb_Ma_tuple_0 N G u p v1) := by
  unfold hb_Ma_tuple_0
  repeat' (first | with_reducible assumption | with_reducible refine KE_br ?_ ?_ | with_reducible refine KE_bnd ?_ (fun _ _ _ => ?_) | with_reducible refine KE_ck ?_ | with_reducible refine KE_ltm ?_ (fun _ _ => ?_) | with_reducible refine KE_some ?_ | with_reducible refine KE_boe (fun _ _ => ?_) | with_reducible exact zm_Ma_sizes (by assumption) | with_reducible exact zm_Ma_wrong (by assumption) | with_reducible exact zm_Ma_room (by assumption) | with_reducible exact zm_Te_make (by assumption) | with_reducible exact hG0 _ _ _ _ _ (by assumption) | with_reducible refine KE_ltv (fun _ => ?_) | with_reducible refine KPS_I ?_ ?_ | with_reducible refine KPS_A ?_ ?_ | with_reducible refine KPS_J ?_ | with_reducible refine KPS_L ?_ | with_reducible refine KPS_N ?_ | with_reducible refine KPS_S ?_ | with_reducible refine KPS_gJ ?_ | with_reducible refine KPS_gI ?_ | omega | (unfold pq; omega) | exact KPS_o (by assumption) (by assumption))
theorem zg_Ma_tuple (n : Nat) : (∀ (u : MS) a0 a1 a2 a3, KPS u0 u → KE u0 ((hg_Ma_tuple N n) u a0 a1 a2 a3)) := by
  induction n with
  | zero => exact fun _ _ _ _ _ _ => KE_none
  | succ n ih => exact fun _ _ _ _ _ h => zb_Ma_tuple_57 (N := N) h ih
theorem zm_Ma_tuple {p : Nat} {v1 : Int32} (h : KPS u0 u) : KE u0 (hm_Ma_tuple N u p v1) := by
  unfold hm_Ma_tuple
  exact zb_Ma_tuple_0 h (zg_Ma_tuple N)
theorem zb_Ma_list_44 {G : (MS → Nat → Int32 → Int32 → Int32 → Option (MS × Unit))} {p : Nat} {v1 : Int32} {v2 : Int32} {v3 : Int32} (h : KPS u0 u) (hG0 : ∀ (u : MS) a0 a1 a2 a3, KPS u0 u → KE u0 (G u a0 a1 a2 a3)) : KE u0 (hb_Ma_list_44 N G u p v1 v2 v3) := by
  unfold hb_Ma_list_44
  repeat' (first | with_reducible assumption | with_reducible refine KE_br ?_ ?_ | with_reducible refine KE_bnd ?_ (fun _ _ _ => ?_) | with_reducible refine KE_ck ?_ | with_reducible refine KE_ltm ?_ (fun _ _ => ?_) | with_reducible refine KE_some ?_ | with_reducible refine KE_boe (fun _ _ => ?_) | with_reducible exact zm_Ma_endList (by assumption) | with_reducible exact zm_Ma_answer (by assumption) | with_reducible exact zm_Fr_below (by assumption) | with_reducible exact zm_Te_make (by assumption) | with_reducible exact hG0 _ _ _ _ _ (by assumption) | with_reducible refine KE_ltv (fun _ => ?_) | with_reducible refine KPS_I ?_ ?_ | with_reducible refine KPS_A ?_ ?_ | with_reducible refine KPS_J ?_ | with_reducible refine KPS_L ?_ | with_reducible refine KPS_N ?_ | with_reducible refine KPS_S ?_ | with_reducible refine KPS_gJ ?_ | with_reducible refine KPS_gI ?_ | omega | (unfold pq; omega) | exact KPS_o (by assumption) (by assumption))
theorem zb_Ma_list_0 {G : (MS → Nat → Int32 → Int32 → Int32 → Option (MS × Unit))} {p : Nat} {v1 : Int32} (h : KPS u0 u) (hG0 : ∀ (u : MS) a0 a1 a2 a3, KPS u0 u → KE u0 (G u a0 a1 a2 a3)) : KE u0 (hb_Ma_list_0 N G u p v1) := by
  unfold hb_Ma_list_0
  repeat' (first | with_reducible assumption | with_reducible refine KE_br ?_ ?_ | with_reducible refine KE_bnd ?_ (fun _ _ _ => ?_) | with_reducible refine KE_ck ?_ | with_reducible refine KE_ltm ?_ (fun _ _ => ?_) | with_reducible refine KE_some ?_ | with_reducible refine KE_boe (fun _ _ => ?_) | with_reducible exact zm_Ma_sizes (by assumption) | with_reducible exact zm_Ma_wrong (by assumption) | with_reducible exact zm_Ma_room (by assumption) | with_reducible exact hG0 _ _ _ _ _ (by assumption) | with_reducible refine KE_ltv (fun _ => ?_) | with_reducible refine KPS_I ?_ ?_ | with_reducible refine KPS_A ?_ ?_ | with_reducible refine KPS_J ?_ | with_reducible refine KPS_L ?_ | with_reducible refine KPS_N ?_ | with_reducible refine KPS_S ?_ | with_reducible refine KPS_gJ ?_ | with_reducible refine KPS_gI ?_ | omega | (unfold pq; omega) | exact KPS_o (by assumption) (by assumption))
theorem zg_Ma_list (n : Nat) : (∀ (u : MS) a0 a1 a2 a3, KPS u0 u → KE u0 ((hg_Ma_list N n) u a0 a1 a2 a3)) := by
  induction n with
  | zero => exact fun _ _ _ _ _ _ => KE_none
  | succ n ih => exact fun _ _ _ _ _ h => zb_Ma_list_44 (N := N) h ih
theorem zm_Ma_list {p : Nat} {v1 : Int32} (h : KPS u0 u) : KE u0 (hm_Ma_list N u p v1) := by
  unfold hm_Ma_list
  exact zb_Ma_list_0 h (zg_Ma_list N)
theorem zb_Ma_fun_144 {G : (MS → Nat → Int32 → Int32 → Int32 → Int32 → Option (MS × Unit)) × (MS → Nat → Int32 → Int32 → Int32 → Option (MS × Unit))} {p : Nat} {v2 : Int32} {v4 : Int32} {v5 : Int32} (h : KPS u0 u) (hG0 : ∀ (u : MS) a0 a1 a2 a3 a4, KPS u0 u → KE u0 (G.1 u a0 a1 a2 a3 a4)) (hG1 : ∀ (u : MS) a0 a1 a2 a3, KPS u0 u → KE u0 (G.2 u a0 a1 a2 a3)) : KE u0 (hb_Ma_fun_144 N G u p v2 v4 v5) := by
  unfold hb_Ma_fun_144
  repeat' (first | with_reducible assumption | with_reducible refine KE_br ?_ ?_ | with_reducible refine KE_bnd ?_ (fun _ _ _ => ?_) | with_reducible refine KE_ck ?_ | with_reducible refine KE_ltm ?_ (fun _ _ => ?_) | with_reducible refine KE_some ?_ | with_reducible refine KE_boe (fun _ _ => ?_) | with_reducible exact zm_Fr_termOf (by assumption) | with_reducible exact zm_Fr_push (by assumption) | with_reducible exact zm_Te_make (by assumption) | with_reducible exact zm_Co_at (by assumption) | with_reducible exact hG0 _ _ _ _ _ _ (by assumption) | with_reducible exact hG1 _ _ _ _ _ (by assumption) | with_reducible refine KE_ltv (fun _ => ?_) | with_reducible refine KPS_I ?_ ?_ | with_reducible refine KPS_A ?_ ?_ | with_reducible refine KPS_J ?_ | with_reducible refine KPS_L ?_ | with_reducible refine KPS_N ?_ | with_reducible refine KPS_S ?_ | with_reducible refine KPS_gJ ?_ | with_reducible refine KPS_gI ?_ | omega | (unfold pq; omega) | exact KPS_o (by assumption) (by assumption))
theorem zb_Ma_fun_21 {G : (MS → Nat → Int32 → Int32 → Int32 → Int32 → Option (MS × Unit)) × (MS → Nat → Int32 → Int32 → Int32 → Option (MS × Unit))} {p : Nat} {v1 : Int32} {v2 : Int32} {v3 : Int32} {v4 : Int32} (h : KPS u0 u) (hG0 : ∀ (u : MS) a0 a1 a2 a3 a4, KPS u0 u → KE u0 (G.1 u a0 a1 a2 a3 a4)) (hG1 : ∀ (u : MS) a0 a1 a2 a3, KPS u0 u → KE u0 (G.2 u a0 a1 a2 a3)) : KE u0 (hb_Ma_fun_21 N G u p v1 v2 v3 v4) := by
  unfold hb_Ma_fun_21
  repeat' (first | with_reducible assumption | with_reducible refine KE_br ?_ ?_ | with_reducible refine KE_bnd ?_ (fun _ _ _ => ?_) | with_reducible refine KE_ck ?_ | with_reducible refine KE_ltm ?_ (fun _ _ => ?_) | with_reducible refine KE_some ?_ | with_reducible refine KE_boe (fun _ _ => ?_) | with_reducible exact zm_Fr_termOf (by assumption) | with_reducible exact zm_Ma_wrong (by assumption) | with_reducible exact zm_Ma_room (by assumption) | with_reducible exact zm_Te_make (by assumption) | with_reducible exact zm_Te_size (by assumption) | with_reducible exact zm_Co_at (by assumption) | with_reducible exact hG0 _ _ _ _ _ _ (by assumption) | with_reducible exact hG1 _ _ _ _ _ (by assumption) | with_reducible refine KE_ltv (fun _ => ?_) | with_reducible refine KPS_I ?_ ?_ | with_reducible refine KPS_A ?_ ?_ | with_reducible refine KPS_J ?_ | with_reducible refine KPS_L ?_ | with_reducible refine KPS_N ?_ | with_reducible refine KPS_S ?_ | with_reducible refine KPS_gJ ?_ | with_reducible refine KPS_gI ?_ | omega | (unfold pq; omega) | exact KPS_o (by assumption) (by assumption))
theorem zb_Ma_fun_0 {G : (MS → Nat → Int32 → Int32 → Int32 → Int32 → Option (MS × Unit)) × (MS → Nat → Int32 → Int32 → Int32 → Option (MS × Unit))} {p : Nat} {v1 : Int32} (h : KPS u0 u) (hG0 : ∀ (u : MS) a0 a1 a2 a3 a4, KPS u0 u → KE u0 (G.1 u a0 a1 a2 a3 a4)) (hG1 : ∀ (u : MS) a0 a1 a2 a3, KPS u0 u → KE u0 (G.2 u a0 a1 a2 a3)) : KE u0 (hb_Ma_fun_0 N G u p v1) := by
  unfold hb_Ma_fun_0
  repeat' (first | with_reducible assumption | with_reducible refine KE_br ?_ ?_ | with_reducible refine KE_bnd ?_ (fun _ _ _ => ?_) | with_reducible refine KE_ck ?_ | with_reducible refine KE_ltm ?_ (fun _ _ => ?_) | with_reducible refine KE_some ?_ | with_reducible refine KE_boe (fun _ _ => ?_) | with_reducible exact zm_Co_at (by assumption) | with_reducible exact hG0 _ _ _ _ _ _ (by assumption) | with_reducible exact hG1 _ _ _ _ _ (by assumption) | with_reducible refine KE_ltv (fun _ => ?_) | with_reducible refine KPS_I ?_ ?_ | with_reducible refine KPS_A ?_ ?_ | with_reducible refine KPS_J ?_ | with_reducible refine KPS_L ?_ | with_reducible refine KPS_N ?_ | with_reducible refine KPS_S ?_ | with_reducible refine KPS_gJ ?_ | with_reducible refine KPS_gI ?_ | omega | (unfold pq; omega) | exact KPS_o (by assumption) (by assumption))
theorem zg_Ma_fun (n : Nat) : (∀ (u : MS) a0 a1 a2 a3 a4, KPS u0 u → KE u0 ((hg_Ma_fun N n).1 u a0 a1 a2 a3 a4)) ∧ (∀ (u : MS) a0 a1 a2 a3, KPS u0 u → KE u0 ((hg_Ma_fun N n).2 u a0 a1 a2 a3)) := by
  induction n with
  | zero => exact ⟨fun _ _ _ _ _ _ _ => KE_none, fun _ _ _ _ _ _ => KE_none⟩
  | succ n ih => exact ⟨fun _ _ _ _ _ _ h => zb_Ma_fun_21 (N := N) h ih.1 ih.2, fun _ _ _ _ _ h => zb_Ma_fun_144 (N := N) h ih.1 ih.2⟩
theorem zm_Ma_fun {p : Nat} {v1 : Int32} (h : KPS u0 u) : KE u0 (hm_Ma_fun N u p v1) := by
  unfold hm_Ma_fun
  exact zb_Ma_fun_0 h ((zg_Ma_fun N).1) ((zg_Ma_fun N).2)
theorem zb_Ma_funOf_0 {G : Unit} {p : Nat} {v1 : Int32} (h : KPS u0 u)  : KE u0 (hb_Ma_funOf_0 N G u p v1) := by
  unfold hb_Ma_funOf_0
  repeat' (first | with_reducible assumption | with_reducible refine KE_br ?_ ?_ | with_reducible refine KE_bnd ?_ (fun _ _ _ => ?_) | with_reducible refine KE_ck ?_ | with_reducible refine KE_ltm ?_ (fun _ _ => ?_) | with_reducible refine KE_some ?_ | with_reducible refine KE_boe (fun _ _ => ?_) | with_reducible exact zm_Fr_push (by assumption) | with_reducible exact zm_Ma_room (by assumption) | with_reducible exact zm_Te_make (by assumption) | with_reducible refine KE_ltv (fun _ => ?_) | with_reducible refine KPS_I ?_ ?_ | with_reducible refine KPS_A ?_ ?_ | with_reducible refine KPS_J ?_ | with_reducible refine KPS_L ?_ | with_reducible refine KPS_N ?_ | with_reducible refine KPS_S ?_ | with_reducible refine KPS_gJ ?_ | with_reducible refine KPS_gI ?_ | omega | (unfold pq; omega) | exact KPS_o (by assumption) (by assumption))
theorem zm_Ma_funOf {p : Nat} {v1 : Int32} (h : KPS u0 u) : KE u0 (hm_Ma_funOf N u p v1) := by
  unfold hm_Ma_funOf
  exact zb_Ma_funOf_0 h
theorem zb_Ma_making_166 {G : Unit} {p : Nat} (h : KPS u0 u)  : KE u0 (hb_Ma_making_166 N G u p) := by
  unfold hb_Ma_making_166
  repeat' (first | with_reducible assumption | with_reducible refine KE_br ?_ ?_ | with_reducible refine KE_bnd ?_ (fun _ _ _ => ?_) | with_reducible refine KE_ck ?_ | with_reducible refine KE_ltm ?_ (fun _ _ => ?_) | with_reducible refine KE_some ?_ | with_reducible refine KE_boe (fun _ _ => ?_) | with_reducible refine KE_ltv (fun _ => ?_) | with_reducible refine KPS_I ?_ ?_ | with_reducible refine KPS_A ?_ ?_ | with_reducible refine KPS_J ?_ | with_reducible refine KPS_L ?_ | with_reducible refine KPS_N ?_ | with_reducible refine KPS_S ?_ | with_reducible refine KPS_gJ ?_ | with_reducible refine KPS_gI ?_ | omega | (unfold pq; omega) | exact KPS_o (by assumption) (by assumption))
theorem zb_Ma_making_0 {G : Unit} {p : Nat} {v1 : Int32} (h : KPS u0 u)  : KE u0 (hb_Ma_making_0 N G u p v1) := by
  unfold hb_Ma_making_0
  repeat' (first | with_reducible assumption | with_reducible refine KE_br ?_ ?_ | with_reducible refine KE_bnd ?_ (fun _ _ _ => ?_) | with_reducible refine KE_ck ?_ | with_reducible refine KE_ltm ?_ (fun _ _ => ?_) | with_reducible refine KE_some ?_ | with_reducible refine KE_boe (fun _ _ => ?_) | with_reducible exact zb_Ma_making_166 (by assumption) | with_reducible exact zm_Fr_termOf (by assumption) | with_reducible exact zm_Ma_string (by assumption) | with_reducible exact zm_Ma_funOf (by assumption) | with_reducible exact zm_Ma_tuple (by assumption) | with_reducible exact zm_Fr_push (by assumption) | with_reducible exact zm_Ma_list (by assumption) | with_reducible exact zm_Te_make (by assumption) | with_reducible exact zm_Ma_fun (by assumption) | with_reducible exact zm_Co_at (by assumption) | with_reducible refine KE_ltv (fun _ => ?_) | with_reducible refine KPS_I ?_ ?_ | with_reducible refine KPS_A ?_ ?_ | with_reducible refine KPS_J ?_ | with_reducible refine KPS_L ?_ | with_reducible refine KPS_N ?_ | with_reducible refine KPS_S ?_ | with_reducible refine KPS_gJ ?_ | with_reducible refine KPS_gI ?_ | omega | (unfold pq; omega) | exact KPS_o (by assumption) (by assumption))
theorem zm_Ma_making {p : Nat} {v1 : Int32} (h : KPS u0 u) : KE u0 (hm_Ma_making N u p v1) := by
  unfold hm_Ma_making
  exact zb_Ma_making_0 h
theorem zb_Te_orderAlone_107 {G : Unit} {t0 : Int32} (h : KPS u0 u)  : KE u0 (hb_Te_orderAlone_107 N G u t0) := by
  unfold hb_Te_orderAlone_107
  repeat' (first | with_reducible assumption | with_reducible refine KE_br ?_ ?_ | with_reducible refine KE_bnd ?_ (fun _ _ _ => ?_) | with_reducible refine KE_ck ?_ | with_reducible refine KE_ltm ?_ (fun _ _ => ?_) | with_reducible refine KE_some ?_ | with_reducible refine KE_boe (fun _ _ => ?_) | with_reducible refine KE_ltv (fun _ => ?_) | with_reducible refine KPS_I ?_ ?_ | with_reducible refine KPS_A ?_ ?_ | with_reducible refine KPS_J ?_ | with_reducible refine KPS_L ?_ | with_reducible refine KPS_N ?_ | with_reducible refine KPS_S ?_ | with_reducible refine KPS_gJ ?_ | with_reducible refine KPS_gI ?_ | omega | (unfold pq; omega) | exact KPS_o (by assumption) (by assumption))
theorem zb_Te_orderAlone_75 {G : Unit} {v1 : Nat} {v7 : Int32} {v8 : Int32} (h : KPS u0 u)  : KE u0 (hb_Te_orderAlone_75 N G u v1 v7 v8) := by
  unfold hb_Te_orderAlone_75
  repeat' (first | with_reducible assumption | with_reducible refine KE_br ?_ ?_ | with_reducible refine KE_bnd ?_ (fun _ _ _ => ?_) | with_reducible refine KE_ck ?_ | with_reducible refine KE_ltm ?_ (fun _ _ => ?_) | with_reducible refine KE_some ?_ | with_reducible refine KE_boe (fun _ _ => ?_) | with_reducible exact zm_JI_compare (by assumption) | with_reducible refine KE_ltv (fun _ => ?_) | with_reducible refine KPS_I ?_ ?_ | with_reducible refine KPS_A ?_ ?_ | with_reducible refine KPS_J ?_ | with_reducible refine KPS_L ?_ | with_reducible refine KPS_N ?_ | with_reducible refine KPS_S ?_ | with_reducible refine KPS_gJ ?_ | with_reducible refine KPS_gI ?_ | omega | (unfold pq; omega) | exact KPS_o (by assumption) (by assumption))
theorem zb_Te_orderAlone_62 {G : Unit} {t0 : Int32} (h : KPS u0 u)  : KE u0 (hb_Te_orderAlone_62 N G u t0) := by
  unfold hb_Te_orderAlone_62
  repeat' (first | with_reducible assumption | with_reducible refine KE_br ?_ ?_ | with_reducible refine KE_bnd ?_ (fun _ _ _ => ?_) | with_reducible refine KE_ck ?_ | with_reducible refine KE_ltm ?_ (fun _ _ => ?_) | with_reducible refine KE_some ?_ | with_reducible refine KE_boe (fun _ _ => ?_) | with_reducible refine KE_ltv (fun _ => ?_) | with_reducible refine KPS_I ?_ ?_ | with_reducible refine KPS_A ?_ ?_ | with_reducible refine KPS_J ?_ | with_reducible refine KPS_L ?_ | with_reducible refine KPS_N ?_ | with_reducible refine KPS_S ?_ | with_reducible refine KPS_gJ ?_ | with_reducible refine KPS_gI ?_ | omega | (unfold pq; omega) | exact KPS_o (by assumption) (by assumption))
theorem zb_Te_orderAlone_0 {G : Unit} {v1 : Nat} {v2 : Int64} {v4 : Int64} (h : KPS u0 u)  : KE u0 (hb_Te_orderAlone_0 N G u v1 v2 v4) := by
  unfold hb_Te_orderAlone_0
  repeat' (first | with_reducible assumption | with_reducible refine KE_br ?_ ?_ | with_reducible refine KE_bnd ?_ (fun _ _ _ => ?_) | with_reducible refine KE_ck ?_ | with_reducible refine KE_ltm ?_ (fun _ _ => ?_) | with_reducible refine KE_some ?_ | with_reducible refine KE_boe (fun _ _ => ?_) | with_reducible exact zb_Te_orderAlone_107 (by assumption) | with_reducible exact zb_Te_orderAlone_62 (by assumption) | with_reducible exact zb_Te_orderAlone_75 (by assumption) | with_reducible exact zm_JI_compare (by assumption) | with_reducible exact zm_Wo_order (by assumption) | with_reducible exact zm_Te_tag (by assumption) | with_reducible refine KE_ltv (fun _ => ?_) | with_reducible refine KPS_I ?_ ?_ | with_reducible refine KPS_A ?_ ?_ | with_reducible refine KPS_J ?_ | with_reducible refine KPS_L ?_ | with_reducible refine KPS_N ?_ | with_reducible refine KPS_S ?_ | with_reducible refine KPS_gJ ?_ | with_reducible refine KPS_gI ?_ | omega | (unfold pq; omega) | exact KPS_o (by assumption) (by assumption))
theorem zm_Te_orderAlone {v1 : Nat} {v2 : Int64} {v4 : Int64} (h : KPS u0 u) : KE u0 (hm_Te_orderAlone N u v1 v2 v4) := by
  unfold hm_Te_orderAlone
  exact zb_Te_orderAlone_0 h
theorem zb_Te_order_179 {G : (MS → Nat → Int32 → Int32 → Option (MS × Int32)) × (MS → Nat → Int32 → Int32 → Int32 → Int32 → Int32 → Int32 → Option (MS × Int32))} (h : KPS u0 u) (hG0 : ∀ (u : MS) a0 a1 a2, KPS u0 u → KE u0 (G.1 u a0 a1 a2)) (hG1 : ∀ (u : MS) a0 a1 a2 a3 a4 a5 a6, KPS u0 u → KE u0 (G.2 u a0 a1 a2 a3 a4 a5 a6)) : KE u0 (hb_Te_order_179 N G u) := by
  unfold hb_Te_order_179
  repeat' (first | with_reducible assumption | with_reducible refine KE_br ?_ ?_ | with_reducible refine KE_bnd ?_ (fun _ _ _ => ?_) | with_reducible refine KE_ck ?_ | with_reducible refine KE_ltm ?_ (fun _ _ => ?_) | with_reducible refine KE_some ?_ | with_reducible refine KE_boe (fun _ _ => ?_) | with_reducible exact hG0 _ _ _ _ (by assumption) | with_reducible exact hG1 _ _ _ _ _ _ _ _ (by assumption) | with_reducible refine KE_ltv (fun _ => ?_) | with_reducible refine KPS_I ?_ ?_ | with_reducible refine KPS_A ?_ ?_ | with_reducible refine KPS_J ?_ | with_reducible refine KPS_L ?_ | with_reducible refine KPS_N ?_ | with_reducible refine KPS_S ?_ | with_reducible refine KPS_gJ ?_ | with_reducible refine KPS_gI ?_ | omega | (unfold pq; omega) | exact KPS_o (by assumption) (by assumption))
theorem zb_Te_order_173 {G : (MS → Nat → Int32 → Int32 → Option (MS × Int32)) × (MS → Nat → Int32 → Int32 → Int32 → Int32 → Int32 → Int32 → Option (MS × Int32))} {v1 : Nat} {v6 : Int32} {v7 : Int32} (h : KPS u0 u) (hG0 : ∀ (u : MS) a0 a1 a2, KPS u0 u → KE u0 (G.1 u a0 a1 a2)) (hG1 : ∀ (u : MS) a0 a1 a2 a3 a4 a5 a6, KPS u0 u → KE u0 (G.2 u a0 a1 a2 a3 a4 a5 a6)) : KE u0 (hb_Te_order_173 N G u v1 v6 v7) := by
  unfold hb_Te_order_173
  repeat' (first | with_reducible assumption | with_reducible refine KE_br ?_ ?_ | with_reducible refine KE_bnd ?_ (fun _ _ _ => ?_) | with_reducible refine KE_ck ?_ | with_reducible refine KE_ltm ?_ (fun _ _ => ?_) | with_reducible refine KE_some ?_ | with_reducible refine KE_boe (fun _ _ => ?_) | with_reducible exact hG0 _ _ _ _ (by assumption) | with_reducible exact hG1 _ _ _ _ _ _ _ _ (by assumption) | with_reducible refine KE_ltv (fun _ => ?_) | with_reducible refine KPS_I ?_ ?_ | with_reducible refine KPS_A ?_ ?_ | with_reducible refine KPS_J ?_ | with_reducible refine KPS_L ?_ | with_reducible refine KPS_N ?_ | with_reducible refine KPS_S ?_ | with_reducible refine KPS_gJ ?_ | with_reducible refine KPS_gI ?_ | omega | (unfold pq; omega) | exact KPS_o (by assumption) (by assumption))
theorem zb_Te_order_121 {G : (MS → Nat → Int32 → Int32 → Option (MS × Int32)) × (MS → Nat → Int32 → Int32 → Int32 → Int32 → Int32 → Int32 → Option (MS × Int32))} {v1 : Nat} {v6 : Int32} {v7 : Int32} {v9 : Int32} {v10 : Int32} {v12 : Int32} {v13 : Int32} (h : KPS u0 u) (hG0 : ∀ (u : MS) a0 a1 a2, KPS u0 u → KE u0 (G.1 u a0 a1 a2)) (hG1 : ∀ (u : MS) a0 a1 a2 a3 a4 a5 a6, KPS u0 u → KE u0 (G.2 u a0 a1 a2 a3 a4 a5 a6)) : KE u0 (hb_Te_order_121 N G u v1 v6 v7 v9 v10 v12 v13) := by
  unfold hb_Te_order_121
  repeat' (first | with_reducible assumption | with_reducible refine KE_br ?_ ?_ | with_reducible refine KE_bnd ?_ (fun _ _ _ => ?_) | with_reducible refine KE_ck ?_ | with_reducible refine KE_ltm ?_ (fun _ _ => ?_) | with_reducible refine KE_some ?_ | with_reducible refine KE_boe (fun _ _ => ?_) | with_reducible exact zb_Te_order_173 (by assumption) hG0 hG1 | with_reducible exact hG0 _ _ _ _ (by assumption) | with_reducible exact hG1 _ _ _ _ _ _ _ _ (by assumption) | with_reducible refine KE_ltv (fun _ => ?_) | with_reducible refine KPS_I ?_ ?_ | with_reducible refine KPS_A ?_ ?_ | with_reducible refine KPS_J ?_ | with_reducible refine KPS_L ?_ | with_reducible refine KPS_N ?_ | with_reducible refine KPS_S ?_ | with_reducible refine KPS_gJ ?_ | with_reducible refine KPS_gI ?_ | omega | (unfold pq; omega) | exact KPS_o (by assumption) (by assumption))
theorem zb_Te_order_21 {G : (MS → Nat → Int32 → Int32 → Option (MS × Int32)) × (MS → Nat → Int32 → Int32 → Int32 → Int32 → Int32 → Int32 → Option (MS × Int32))} {v1 : Nat} {v6 : Int32} {v7 : Int32} (h : KPS u0 u) (hG0 : ∀ (u : MS) a0 a1 a2, KPS u0 u → KE u0 (G.1 u a0 a1 a2)) (hG1 : ∀ (u : MS) a0 a1 a2 a3 a4 a5 a6, KPS u0 u → KE u0 (G.2 u a0 a1 a2 a3 a4 a5 a6)) : KE u0 (hb_Te_order_21 N G u v1 v6 v7) := by
  unfold hb_Te_order_21
  repeat' (first | with_reducible assumption | with_reducible refine KE_br ?_ ?_ | with_reducible refine KE_bnd ?_ (fun _ _ _ => ?_) | with_reducible refine KE_ck ?_ | with_reducible refine KE_ltm ?_ (fun _ _ => ?_) | with_reducible refine KE_some ?_ | with_reducible refine KE_boe (fun _ _ => ?_) | with_reducible exact zb_Te_order_179 (by assumption) hG0 hG1 | with_reducible exact zm_Te_orderAlone (by assumption) | with_reducible exact zm_Te_cellsAt (by assumption) | with_reducible exact zm_Te_partsOf (by assumption) | with_reducible exact hG0 _ _ _ _ (by assumption) | with_reducible exact hG1 _ _ _ _ _ _ _ _ (by assumption) | with_reducible refine KE_ltv (fun _ => ?_) | with_reducible refine KPS_I ?_ ?_ | with_reducible refine KPS_A ?_ ?_ | with_reducible refine KPS_J ?_ | with_reducible refine KPS_L ?_ | with_reducible refine KPS_N ?_ | with_reducible refine KPS_S ?_ | with_reducible refine KPS_gJ ?_ | with_reducible refine KPS_gI ?_ | omega | (unfold pq; omega) | exact KPS_o (by assumption) (by assumption))
theorem zb_Te_order_0 {G : (MS → Nat → Int32 → Int32 → Option (MS × Int32)) × (MS → Nat → Int32 → Int32 → Int32 → Int32 → Int32 → Int32 → Option (MS × Int32))} {v1 : Nat} {v2 : Int64} {v4 : Int64} (h : KPS u0 u) (hG0 : ∀ (u : MS) a0 a1 a2, KPS u0 u → KE u0 (G.1 u a0 a1 a2)) (hG1 : ∀ (u : MS) a0 a1 a2 a3 a4 a5 a6, KPS u0 u → KE u0 (G.2 u a0 a1 a2 a3 a4 a5 a6)) : KE u0 (hb_Te_order_0 N G u v1 v2 v4) := by
  unfold hb_Te_order_0
  repeat' (first | with_reducible assumption | with_reducible refine KE_br ?_ ?_ | with_reducible refine KE_bnd ?_ (fun _ _ _ => ?_) | with_reducible refine KE_ck ?_ | with_reducible refine KE_ltm ?_ (fun _ _ => ?_) | with_reducible refine KE_some ?_ | with_reducible refine KE_boe (fun _ _ => ?_) | with_reducible exact hG0 _ _ _ _ (by assumption) | with_reducible exact hG1 _ _ _ _ _ _ _ _ (by assumption) | with_reducible refine KE_ltv (fun _ => ?_) | with_reducible refine KPS_I ?_ ?_ | with_reducible refine KPS_A ?_ ?_ | with_reducible refine KPS_J ?_ | with_reducible refine KPS_L ?_ | with_reducible refine KPS_N ?_ | with_reducible refine KPS_S ?_ | with_reducible refine KPS_gJ ?_ | with_reducible refine KPS_gI ?_ | omega | (unfold pq; omega) | exact KPS_o (by assumption) (by assumption))
theorem zg_Te_order (n : Nat) : (∀ (u : MS) a0 a1 a2, KPS u0 u → KE u0 ((hg_Te_order N n).1 u a0 a1 a2)) ∧ (∀ (u : MS) a0 a1 a2 a3 a4 a5 a6, KPS u0 u → KE u0 ((hg_Te_order N n).2 u a0 a1 a2 a3 a4 a5 a6)) := by
  induction n with
  | zero => exact ⟨fun _ _ _ _ _ => KE_none, fun _ _ _ _ _ _ _ _ _ => KE_none⟩
  | succ n ih => exact ⟨fun _ _ _ _ h => zb_Te_order_21 (N := N) h ih.1 ih.2, fun _ _ _ _ _ _ _ _ h => zb_Te_order_121 (N := N) h ih.1 ih.2⟩
theorem zm_Te_order {v1 : Nat} {v2 : Int64} {v4 : Int64} (h : KPS u0 u) : KE u0 (hm_Te_order N u v1 v2 v4) := by
  unfold hm_Te_order
  exact zb_Te_order_0 h ((zg_Te_order N).1) ((zg_Te_order N).2)
theorem zb_Ma_number_0 {G : Unit} {p : Nat} {v1 : Int32} {v2 : Int64} {v4 : Int32} (h : KPS u0 u)  : KE u0 (hb_Ma_number_0 N G u p v1 v2 v4) := by
  unfold hb_Ma_number_0
  repeat' (first | with_reducible assumption | with_reducible refine KE_br ?_ ?_ | with_reducible refine KE_bnd ?_ (fun _ _ _ => ?_) | with_reducible refine KE_ck ?_ | with_reducible refine KE_ltm ?_ (fun _ _ => ?_) | with_reducible refine KE_some ?_ | with_reducible refine KE_boe (fun _ _ => ?_) | with_reducible exact zm_Ma_answer (by assumption) | with_reducible exact zm_Ma_wrong (by assumption) | with_reducible exact zm_Te_make (by assumption) | with_reducible refine KE_ltv (fun _ => ?_) | with_reducible refine KPS_I ?_ ?_ | with_reducible refine KPS_A ?_ ?_ | with_reducible refine KPS_J ?_ | with_reducible refine KPS_L ?_ | with_reducible refine KPS_N ?_ | with_reducible refine KPS_S ?_ | with_reducible refine KPS_gJ ?_ | with_reducible refine KPS_gI ?_ | omega | (unfold pq; omega) | exact KPS_o (by assumption) (by assumption))
theorem zm_Ma_number {p : Nat} {v1 : Int32} {v2 : Int64} {v4 : Int32} (h : KPS u0 u) : KE u0 (hm_Ma_number N u p v1 v2 v4) := by
  unfold hm_Ma_number
  exact zb_Ma_number_0 h
theorem zb_Ma_arithmetic_208 {G : Unit} {p : Nat} {v8 : Int64} (h : KPS u0 u)  : KE u0 (hb_Ma_arithmetic_208 N G u p v8) := by
  unfold hb_Ma_arithmetic_208
  repeat' (first | with_reducible assumption | with_reducible refine KE_br ?_ ?_ | with_reducible refine KE_bnd ?_ (fun _ _ _ => ?_) | with_reducible refine KE_ck ?_ | with_reducible refine KE_ltm ?_ (fun _ _ => ?_) | with_reducible refine KE_some ?_ | with_reducible refine KE_boe (fun _ _ => ?_) | with_reducible exact zm_Ma_number (by assumption) | with_reducible refine KE_ltv (fun _ => ?_) | with_reducible refine KPS_I ?_ ?_ | with_reducible refine KPS_A ?_ ?_ | with_reducible refine KPS_J ?_ | with_reducible refine KPS_L ?_ | with_reducible refine KPS_N ?_ | with_reducible refine KPS_S ?_ | with_reducible refine KPS_gJ ?_ | with_reducible refine KPS_gI ?_ | omega | (unfold pq; omega) | exact KPS_o (by assumption) (by assumption))
theorem zb_Ma_arithmetic_206 {G : Unit} {p : Nat} {t0 : Int64} (h : KPS u0 u)  : KE u0 (hb_Ma_arithmetic_206 N G u p t0) := by
  unfold hb_Ma_arithmetic_206
  repeat' (first | with_reducible assumption | with_reducible refine KE_br ?_ ?_ | with_reducible refine KE_bnd ?_ (fun _ _ _ => ?_) | with_reducible refine KE_ck ?_ | with_reducible refine KE_ltm ?_ (fun _ _ => ?_) | with_reducible refine KE_some ?_ | with_reducible refine KE_boe (fun _ _ => ?_) | with_reducible exact zb_Ma_arithmetic_208 (by assumption) | with_reducible refine KE_ltv (fun _ => ?_) | with_reducible refine KPS_I ?_ ?_ | with_reducible refine KPS_A ?_ ?_ | with_reducible refine KPS_J ?_ | with_reducible refine KPS_L ?_ | with_reducible refine KPS_N ?_ | with_reducible refine KPS_S ?_ | with_reducible refine KPS_gJ ?_ | with_reducible refine KPS_gI ?_ | omega | (unfold pq; omega) | exact KPS_o (by assumption) (by assumption))
theorem zb_Ma_arithmetic_186 {G : Unit} {p : Nat} {t0 : Int64} (h : KPS u0 u)  : KE u0 (hb_Ma_arithmetic_186 N G u p t0) := by
  unfold hb_Ma_arithmetic_186
  repeat' (first | with_reducible assumption | with_reducible refine KE_br ?_ ?_ | with_reducible refine KE_bnd ?_ (fun _ _ _ => ?_) | with_reducible refine KE_ck ?_ | with_reducible refine KE_ltm ?_ (fun _ _ => ?_) | with_reducible refine KE_some ?_ | with_reducible refine KE_boe (fun _ _ => ?_) | with_reducible exact zb_Ma_arithmetic_208 (by assumption) | with_reducible refine KE_ltv (fun _ => ?_) | with_reducible refine KPS_I ?_ ?_ | with_reducible refine KPS_A ?_ ?_ | with_reducible refine KPS_J ?_ | with_reducible refine KPS_L ?_ | with_reducible refine KPS_N ?_ | with_reducible refine KPS_S ?_ | with_reducible refine KPS_gJ ?_ | with_reducible refine KPS_gI ?_ | omega | (unfold pq; omega) | exact KPS_o (by assumption) (by assumption))
theorem zb_Ma_arithmetic_99 {G : Unit} {p : Nat} {v1 : Int32} {v3 : Int64} {v5 : Int64} (h : KPS u0 u)  : KE u0 (hb_Ma_arithmetic_99 N G u p v1 v3 v5) := by
  unfold hb_Ma_arithmetic_99
  repeat' (first | with_reducible assumption | with_reducible refine KE_br ?_ ?_ | with_reducible refine KE_bnd ?_ (fun _ _ _ => ?_) | with_reducible refine KE_ck ?_ | with_reducible refine KE_ltm ?_ (fun _ _ => ?_) | with_reducible refine KE_some ?_ | with_reducible refine KE_boe (fun _ _ => ?_) | with_reducible exact zb_Ma_arithmetic_186 (by assumption) | with_reducible exact zb_Ma_arithmetic_206 (by assumption) | with_reducible exact zb_Ma_arithmetic_208 (by assumption) | with_reducible refine KE_ltv (fun _ => ?_) | with_reducible refine KPS_I ?_ ?_ | with_reducible refine KPS_A ?_ ?_ | with_reducible refine KPS_J ?_ | with_reducible refine KPS_L ?_ | with_reducible refine KPS_N ?_ | with_reducible refine KPS_S ?_ | with_reducible refine KPS_gJ ?_ | with_reducible refine KPS_gI ?_ | omega | (unfold pq; omega) | exact KPS_o (by assumption) (by assumption))
theorem zb_Ma_arithmetic_92 {G : Unit} {p : Nat} (h : KPS u0 u)  : KE u0 (hb_Ma_arithmetic_92 N G u p) := by
  unfold hb_Ma_arithmetic_92
  repeat' (first | with_reducible assumption | with_reducible refine KE_br ?_ ?_ | with_reducible refine KE_bnd ?_ (fun _ _ _ => ?_) | with_reducible refine KE_ck ?_ | with_reducible refine KE_ltm ?_ (fun _ _ => ?_) | with_reducible refine KE_some ?_ | with_reducible refine KE_boe (fun _ _ => ?_) | with_reducible exact zm_Ma_wrong (by assumption) | with_reducible refine KE_ltv (fun _ => ?_) | with_reducible refine KPS_I ?_ ?_ | with_reducible refine KPS_A ?_ ?_ | with_reducible refine KPS_J ?_ | with_reducible refine KPS_L ?_ | with_reducible refine KPS_N ?_ | with_reducible refine KPS_S ?_ | with_reducible refine KPS_gJ ?_ | with_reducible refine KPS_gI ?_ | omega | (unfold pq; omega) | exact KPS_o (by assumption) (by assumption))
theorem zb_Ma_arithmetic_74 {G : Unit} {p : Nat} {v1 : Int32} {v2 : Int32} {v3 : Int64} {v5 : Int64} {t0 : Int32} (h : KPS u0 u)  : KE u0 (hb_Ma_arithmetic_74 N G u p v1 v2 v3 v5 t0) := by
  unfold hb_Ma_arithmetic_74
  repeat' (first | with_reducible assumption | with_reducible refine KE_br ?_ ?_ | with_reducible refine KE_bnd ?_ (fun _ _ _ => ?_) | with_reducible refine KE_ck ?_ | with_reducible refine KE_ltm ?_ (fun _ _ => ?_) | with_reducible refine KE_some ?_ | with_reducible refine KE_boe (fun _ _ => ?_) | with_reducible exact zb_Ma_arithmetic_92 (by assumption) | with_reducible exact zb_Ma_arithmetic_99 (by assumption) | with_reducible refine KE_ltv (fun _ => ?_) | with_reducible refine KPS_I ?_ ?_ | with_reducible refine KPS_A ?_ ?_ | with_reducible refine KPS_J ?_ | with_reducible refine KPS_L ?_ | with_reducible refine KPS_N ?_ | with_reducible refine KPS_S ?_ | with_reducible refine KPS_gJ ?_ | with_reducible refine KPS_gI ?_ | omega | (unfold pq; omega) | exact KPS_o (by assumption) (by assumption))
theorem zb_Ma_arithmetic_69 {G : Unit} {p : Nat} {v1 : Int32} {v2 : Int32} {v3 : Int64} {v5 : Int64} (h : KPS u0 u)  : KE u0 (hb_Ma_arithmetic_69 N G u p v1 v2 v3 v5) := by
  unfold hb_Ma_arithmetic_69
  repeat' (first | with_reducible assumption | with_reducible refine KE_br ?_ ?_ | with_reducible refine KE_bnd ?_ (fun _ _ _ => ?_) | with_reducible refine KE_ck ?_ | with_reducible refine KE_ltm ?_ (fun _ _ => ?_) | with_reducible refine KE_some ?_ | with_reducible refine KE_boe (fun _ _ => ?_) | with_reducible exact zb_Ma_arithmetic_74 (by assumption) | with_reducible refine KE_ltv (fun _ => ?_) | with_reducible refine KPS_I ?_ ?_ | with_reducible refine KPS_A ?_ ?_ | with_reducible refine KPS_J ?_ | with_reducible refine KPS_L ?_ | with_reducible refine KPS_N ?_ | with_reducible refine KPS_S ?_ | with_reducible refine KPS_gJ ?_ | with_reducible refine KPS_gI ?_ | omega | (unfold pq; omega) | exact KPS_o (by assumption) (by assumption))
theorem zb_Ma_arithmetic_33 {G : Unit} {p : Nat} {v1 : Int32} {t0 : Int32} (h : KPS u0 u)  : KE u0 (hb_Ma_arithmetic_33 N G u p v1 t0) := by
  unfold hb_Ma_arithmetic_33
  repeat' (first | with_reducible assumption | with_reducible refine KE_br ?_ ?_ | with_reducible refine KE_bnd ?_ (fun _ _ _ => ?_) | with_reducible refine KE_ck ?_ | with_reducible refine KE_ltm ?_ (fun _ _ => ?_) | with_reducible refine KE_some ?_ | with_reducible refine KE_boe (fun _ _ => ?_) | with_reducible exact zb_Ma_arithmetic_69 (by assumption) | with_reducible exact zb_Ma_arithmetic_74 (by assumption) | with_reducible exact zm_Fr_below (by assumption) | with_reducible refine KE_ltv (fun _ => ?_) | with_reducible refine KPS_I ?_ ?_ | with_reducible refine KPS_A ?_ ?_ | with_reducible refine KPS_J ?_ | with_reducible refine KPS_L ?_ | with_reducible refine KPS_N ?_ | with_reducible refine KPS_S ?_ | with_reducible refine KPS_gJ ?_ | with_reducible refine KPS_gI ?_ | omega | (unfold pq; omega) | exact KPS_o (by assumption) (by assumption))
theorem zb_Ma_arithmetic_32 {G : Unit} {p : Nat} {v1 : Int32} (h : KPS u0 u)  : KE u0 (hb_Ma_arithmetic_32 N G u p v1) := by
  unfold hb_Ma_arithmetic_32
  repeat' (first | with_reducible assumption | with_reducible refine KE_br ?_ ?_ | with_reducible refine KE_bnd ?_ (fun _ _ _ => ?_) | with_reducible refine KE_ck ?_ | with_reducible refine KE_ltm ?_ (fun _ _ => ?_) | with_reducible refine KE_some ?_ | with_reducible refine KE_boe (fun _ _ => ?_) | with_reducible exact zb_Ma_arithmetic_33 (by assumption) | with_reducible refine KE_ltv (fun _ => ?_) | with_reducible refine KPS_I ?_ ?_ | with_reducible refine KPS_A ?_ ?_ | with_reducible refine KPS_J ?_ | with_reducible refine KPS_L ?_ | with_reducible refine KPS_N ?_ | with_reducible refine KPS_S ?_ | with_reducible refine KPS_gJ ?_ | with_reducible refine KPS_gI ?_ | omega | (unfold pq; omega) | exact KPS_o (by assumption) (by assumption))
theorem zb_Ma_arithmetic_0 {G : Unit} {p : Nat} {v1 : Int32} (h : KPS u0 u)  : KE u0 (hb_Ma_arithmetic_0 N G u p v1) := by
  unfold hb_Ma_arithmetic_0
  repeat' (first | with_reducible assumption | with_reducible refine KE_br ?_ ?_ | with_reducible refine KE_bnd ?_ (fun _ _ _ => ?_) | with_reducible refine KE_ck ?_ | with_reducible refine KE_ltm ?_ (fun _ _ => ?_) | with_reducible refine KE_some ?_ | with_reducible refine KE_boe (fun _ _ => ?_) | with_reducible exact zb_Ma_arithmetic_32 (by assumption) | with_reducible exact zb_Ma_arithmetic_33 (by assumption) | with_reducible exact zm_Fr_below (by assumption) | with_reducible exact zm_Te_tag (by assumption) | with_reducible refine KE_ltv (fun _ => ?_) | with_reducible refine KPS_I ?_ ?_ | with_reducible refine KPS_A ?_ ?_ | with_reducible refine KPS_J ?_ | with_reducible refine KPS_L ?_ | with_reducible refine KPS_N ?_ | with_reducible refine KPS_S ?_ | with_reducible refine KPS_gJ ?_ | with_reducible refine KPS_gI ?_ | omega | (unfold pq; omega) | exact KPS_o (by assumption) (by assumption))
theorem zm_Ma_arithmetic {p : Nat} {v1 : Int32} (h : KPS u0 u) : KE u0 (hm_Ma_arithmetic N u p v1) := by
  unfold hm_Ma_arithmetic
  exact zb_Ma_arithmetic_0 h
theorem zb_Ma_negate_0 {G : Unit} {p : Nat} (h : KPS u0 u)  : KE u0 (hb_Ma_negate_0 N G u p) := by
  unfold hb_Ma_negate_0
  repeat' (first | with_reducible assumption | with_reducible refine KE_br ?_ ?_ | with_reducible refine KE_bnd ?_ (fun _ _ _ => ?_) | with_reducible refine KE_ck ?_ | with_reducible refine KE_ltm ?_ (fun _ _ => ?_) | with_reducible refine KE_some ?_ | with_reducible refine KE_boe (fun _ _ => ?_) | with_reducible exact zm_Ma_number (by assumption) | with_reducible exact zm_Fr_below (by assumption) | with_reducible exact zm_Ma_wrong (by assumption) | with_reducible exact zm_Te_tag (by assumption) | with_reducible refine KE_ltv (fun _ => ?_) | with_reducible refine KPS_I ?_ ?_ | with_reducible refine KPS_A ?_ ?_ | with_reducible refine KPS_J ?_ | with_reducible refine KPS_L ?_ | with_reducible refine KPS_N ?_ | with_reducible refine KPS_S ?_ | with_reducible refine KPS_gJ ?_ | with_reducible refine KPS_gI ?_ | omega | (unfold pq; omega) | exact KPS_o (by assumption) (by assumption))
theorem zm_Ma_negate {p : Nat} (h : KPS u0 u) : KE u0 (hm_Ma_negate N u p) := by
  unfold hm_Ma_negate
  exact zb_Ma_negate_0 h
theorem zb_Ma_not_50 {G : Unit} {p : Nat} {t1 : Int32} {t2 : Int32} (h : KPS u0 u)  : KE u0 (hb_Ma_not_50 N G u p t1 t2) := by
  unfold hb_Ma_not_50
  repeat' (first | with_reducible assumption | with_reducible refine KE_br ?_ ?_ | with_reducible refine KE_bnd ?_ (fun _ _ _ => ?_) | with_reducible refine KE_ck ?_ | with_reducible refine KE_ltm ?_ (fun _ _ => ?_) | with_reducible refine KE_some ?_ | with_reducible refine KE_boe (fun _ _ => ?_) | with_reducible exact zm_Ma_answer (by assumption) | with_reducible exact zm_Ma_truth (by assumption) | with_reducible refine KE_ltv (fun _ => ?_) | with_reducible refine KPS_I ?_ ?_ | with_reducible refine KPS_A ?_ ?_ | with_reducible refine KPS_J ?_ | with_reducible refine KPS_L ?_ | with_reducible refine KPS_N ?_ | with_reducible refine KPS_S ?_ | with_reducible refine KPS_gJ ?_ | with_reducible refine KPS_gI ?_ | omega | (unfold pq; omega) | exact KPS_o (by assumption) (by assumption))
theorem zb_Ma_not_34 {G : Unit} {p : Nat} {v1 : Int64} (h : KPS u0 u)  : KE u0 (hb_Ma_not_34 N G u p v1) := by
  unfold hb_Ma_not_34
  repeat' (first | with_reducible assumption | with_reducible refine KE_br ?_ ?_ | with_reducible refine KE_bnd ?_ (fun _ _ _ => ?_) | with_reducible refine KE_ck ?_ | with_reducible refine KE_ltm ?_ (fun _ _ => ?_) | with_reducible refine KE_some ?_ | with_reducible refine KE_boe (fun _ _ => ?_) | with_reducible exact zb_Ma_not_50 (by assumption) | with_reducible exact zm_Ma_atom (by assumption) | with_reducible refine KE_ltv (fun _ => ?_) | with_reducible refine KPS_I ?_ ?_ | with_reducible refine KPS_A ?_ ?_ | with_reducible refine KPS_J ?_ | with_reducible refine KPS_L ?_ | with_reducible refine KPS_N ?_ | with_reducible refine KPS_S ?_ | with_reducible refine KPS_gJ ?_ | with_reducible refine KPS_gI ?_ | omega | (unfold pq; omega) | exact KPS_o (by assumption) (by assumption))
theorem zb_Ma_not_0 {G : Unit} {p : Nat} (h : KPS u0 u)  : KE u0 (hb_Ma_not_0 N G u p) := by
  unfold hb_Ma_not_0
  repeat' (first | with_reducible assumption | with_reducible refine KE_br ?_ ?_ | with_reducible refine KE_bnd ?_ (fun _ _ _ => ?_) | with_reducible refine KE_ck ?_ | with_reducible refine KE_ltm ?_ (fun _ _ => ?_) | with_reducible refine KE_some ?_ | with_reducible refine KE_boe (fun _ _ => ?_) | with_reducible exact zb_Ma_not_34 (by assumption) | with_reducible exact zm_Fr_below (by assumption) | with_reducible exact zm_Ma_wrong (by assumption) | with_reducible exact zm_Ma_atom (by assumption) | with_reducible refine KE_ltv (fun _ => ?_) | with_reducible refine KPS_I ?_ ?_ | with_reducible refine KPS_A ?_ ?_ | with_reducible refine KPS_J ?_ | with_reducible refine KPS_L ?_ | with_reducible refine KPS_N ?_ | with_reducible refine KPS_S ?_ | with_reducible refine KPS_gJ ?_ | with_reducible refine KPS_gI ?_ | omega | (unfold pq; omega) | exact KPS_o (by assumption) (by assumption))
theorem zm_Ma_not {p : Nat} (h : KPS u0 u) : KE u0 (hm_Ma_not N u p) := by
  unfold hm_Ma_not
  exact zb_Ma_not_0 h
theorem zb_Ma_hinge_71 {G : Unit} {p : Nat} (h : KPS u0 u)  : KE u0 (hb_Ma_hinge_71 N G u p) := by
  unfold hb_Ma_hinge_71
  repeat' (first | with_reducible assumption | with_reducible refine KE_br ?_ ?_ | with_reducible refine KE_bnd ?_ (fun _ _ _ => ?_) | with_reducible refine KE_ck ?_ | with_reducible refine KE_ltm ?_ (fun _ _ => ?_) | with_reducible refine KE_some ?_ | with_reducible refine KE_boe (fun _ _ => ?_) | with_reducible refine KE_ltv (fun _ => ?_) | with_reducible refine KPS_I ?_ ?_ | with_reducible refine KPS_A ?_ ?_ | with_reducible refine KPS_J ?_ | with_reducible refine KPS_L ?_ | with_reducible refine KPS_N ?_ | with_reducible refine KPS_S ?_ | with_reducible refine KPS_gJ ?_ | with_reducible refine KPS_gI ?_ | omega | (unfold pq; omega) | exact KPS_o (by assumption) (by assumption))
theorem zb_Ma_hinge_36 {G : Unit} {p : Nat} {v1 : Int32} {v2 : Int32} {v3 : Int64} (h : KPS u0 u)  : KE u0 (hb_Ma_hinge_36 N G u p v1 v2 v3) := by
  unfold hb_Ma_hinge_36
  repeat' (first | with_reducible assumption | with_reducible refine KE_br ?_ ?_ | with_reducible refine KE_bnd ?_ (fun _ _ _ => ?_) | with_reducible refine KE_ck ?_ | with_reducible refine KE_ltm ?_ (fun _ _ => ?_) | with_reducible refine KE_some ?_ | with_reducible refine KE_boe (fun _ _ => ?_) | with_reducible exact zb_Ma_hinge_71 (by assumption) | with_reducible exact zm_Ma_truth (by assumption) | with_reducible exact zm_Fr_drop (by assumption) | with_reducible refine KE_ltv (fun _ => ?_) | with_reducible refine KPS_I ?_ ?_ | with_reducible refine KPS_A ?_ ?_ | with_reducible refine KPS_J ?_ | with_reducible refine KPS_L ?_ | with_reducible refine KPS_N ?_ | with_reducible refine KPS_S ?_ | with_reducible refine KPS_gJ ?_ | with_reducible refine KPS_gI ?_ | omega | (unfold pq; omega) | exact KPS_o (by assumption) (by assumption))
theorem zb_Ma_hinge_0 {G : Unit} {p : Nat} {v1 : Int32} {v2 : Int32} (h : KPS u0 u)  : KE u0 (hb_Ma_hinge_0 N G u p v1 v2) := by
  unfold hb_Ma_hinge_0
  repeat' (first | with_reducible assumption | with_reducible refine KE_br ?_ ?_ | with_reducible refine KE_bnd ?_ (fun _ _ _ => ?_) | with_reducible refine KE_ck ?_ | with_reducible refine KE_ltm ?_ (fun _ _ => ?_) | with_reducible refine KE_some ?_ | with_reducible refine KE_boe (fun _ _ => ?_) | with_reducible exact zb_Ma_hinge_36 (by assumption) | with_reducible exact zb_Ma_hinge_71 (by assumption) | with_reducible exact zm_Fr_below (by assumption) | with_reducible exact zm_Ma_wrong (by assumption) | with_reducible exact zm_Ma_atom (by assumption) | with_reducible refine KE_ltv (fun _ => ?_) | with_reducible refine KPS_I ?_ ?_ | with_reducible refine KPS_A ?_ ?_ | with_reducible refine KPS_J ?_ | with_reducible refine KPS_L ?_ | with_reducible refine KPS_N ?_ | with_reducible refine KPS_S ?_ | with_reducible refine KPS_gJ ?_ | with_reducible refine KPS_gI ?_ | omega | (unfold pq; omega) | exact KPS_o (by assumption) (by assumption))
theorem zm_Ma_hinge {p : Nat} {v1 : Int32} {v2 : Int32} (h : KPS u0 u) : KE u0 (hm_Ma_hinge N u p v1 v2) := by
  unfold hm_Ma_hinge
  exact zb_Ma_hinge_0 h
theorem zb_Fr_forget_0 {G : Unit} {v0 : Nat} {v1 : Int32} (h : KPS u0 u)  : KE u0 (hb_Fr_forget_0 N G u v0 v1) := by
  unfold hb_Fr_forget_0
  repeat' (first | with_reducible assumption | with_reducible refine KE_br ?_ ?_ | with_reducible refine KE_bnd ?_ (fun _ _ _ => ?_) | with_reducible refine KE_ck ?_ | with_reducible refine KE_ltm ?_ (fun _ _ => ?_) | with_reducible refine KE_some ?_ | with_reducible refine KE_boe (fun _ _ => ?_) | with_reducible refine KE_ltv (fun _ => ?_) | with_reducible refine KPS_I ?_ ?_ | with_reducible refine KPS_A ?_ ?_ | with_reducible refine KPS_J ?_ | with_reducible refine KPS_L ?_ | with_reducible refine KPS_N ?_ | with_reducible refine KPS_S ?_ | with_reducible refine KPS_gJ ?_ | with_reducible refine KPS_gI ?_ | omega | (unfold pq; omega) | exact KPS_o (by assumption) (by assumption))
theorem zm_Fr_forget {v0 : Nat} {v1 : Int32} (h : KPS u0 u) : KE u0 (hm_Fr_forget N u v0 v1) := by
  unfold hm_Fr_forget
  exact zb_Fr_forget_0 h
theorem zb_Ma_sendTo_34 {G : Unit} {p : Nat} {t0 : Option Nat} (h : KPS u0 u)  : KE u0 (hb_Ma_sendTo_34 N G u p t0) := by
  unfold hb_Ma_sendTo_34
  repeat' (first | with_reducible assumption | with_reducible refine KE_br ?_ ?_ | with_reducible refine KE_bnd ?_ (fun _ _ _ => ?_) | with_reducible refine KE_ck ?_ | with_reducible refine KE_ltm ?_ (fun _ _ => ?_) | with_reducible refine KE_some ?_ | with_reducible refine KE_boe (fun _ _ => ?_) | with_reducible exact zm_Ma_answer (by assumption) | with_reducible exact zm_Fr_below (by assumption) | with_reducible exact zm_Ma_wrong (by assumption) | with_reducible exact zm_Wl_post (by assumption) | with_reducible refine KE_ltv (fun _ => ?_) | with_reducible refine KPS_I ?_ ?_ | with_reducible refine KPS_A ?_ ?_ | with_reducible refine KPS_J ?_ | with_reducible refine KPS_L ?_ | with_reducible refine KPS_N ?_ | with_reducible refine KPS_S ?_ | with_reducible refine KPS_gJ ?_ | with_reducible refine KPS_gI ?_ | omega | (unfold pq; omega) | exact KPS_o (by assumption) (by assumption))
theorem zb_Ma_sendTo_0 {G : Unit} {p : Nat} (h : KPS u0 u)  : KE u0 (hb_Ma_sendTo_0 N G u p) := by
  unfold hb_Ma_sendTo_0
  repeat' (first | with_reducible assumption | with_reducible refine KE_br ?_ ?_ | with_reducible refine KE_bnd ?_ (fun _ _ _ => ?_) | with_reducible refine KE_ck ?_ | with_reducible refine KE_ltm ?_ (fun _ _ => ?_) | with_reducible refine KE_some ?_ | with_reducible refine KE_boe (fun _ _ => ?_) | with_reducible exact zb_Ma_sendTo_34 (by assumption) | with_reducible exact zm_Ma_processAt (by assumption) | with_reducible exact zm_Fr_below (by assumption) | with_reducible exact zm_Wl_named (by assumption) | with_reducible exact zm_Te_tag (by assumption) | with_reducible refine KE_ltv (fun _ => ?_) | with_reducible refine KPS_I ?_ ?_ | with_reducible refine KPS_A ?_ ?_ | with_reducible refine KPS_J ?_ | with_reducible refine KPS_L ?_ | with_reducible refine KPS_N ?_ | with_reducible refine KPS_S ?_ | with_reducible refine KPS_gJ ?_ | with_reducible refine KPS_gI ?_ | omega | (unfold pq; omega) | exact KPS_o (by assumption) (by assumption))
theorem zm_Ma_sendTo {p : Nat} (h : KPS u0 u) : KE u0 (hm_Ma_sendTo N u p) := by
  unfold hm_Ma_sendTo
  exact zb_Ma_sendTo_0 h
theorem zb_Ma_join_106 {G : (MS → Nat → Int32 → Int32 → Int64 → Int32 → Option (MS × Unit))} {p : Nat} {v1 : Int32} {v2 : Int32} {v3 : Int64} {v5 : Int32} (h : KPS u0 u) (hG0 : ∀ (u : MS) a0 a1 a2 a3 a4, KPS u0 u → KE u0 (G u a0 a1 a2 a3 a4)) : KE u0 (hb_Ma_join_106 N G u p v1 v2 v3 v5) := by
  unfold hb_Ma_join_106
  repeat' (first | with_reducible assumption | with_reducible refine KE_br ?_ ?_ | with_reducible refine KE_bnd ?_ (fun _ _ _ => ?_) | with_reducible refine KE_ck ?_ | with_reducible refine KE_ltm ?_ (fun _ _ => ?_) | with_reducible refine KE_some ?_ | with_reducible refine KE_boe (fun _ _ => ?_) | with_reducible exact zm_Ma_endList (by assumption) | with_reducible exact zm_Ma_answer (by assumption) | with_reducible exact zm_Fr_below (by assumption) | with_reducible exact zm_Te_make (by assumption) | with_reducible exact hG0 _ _ _ _ _ _ (by assumption) | with_reducible refine KE_ltv (fun _ => ?_) | with_reducible refine KPS_I ?_ ?_ | with_reducible refine KPS_A ?_ ?_ | with_reducible refine KPS_J ?_ | with_reducible refine KPS_L ?_ | with_reducible refine KPS_N ?_ | with_reducible refine KPS_S ?_ | with_reducible refine KPS_gJ ?_ | with_reducible refine KPS_gI ?_ | omega | (unfold pq; omega) | exact KPS_o (by assumption) (by assumption))
theorem zb_Ma_join_68 {G : (MS → Nat → Int32 → Int32 → Int64 → Int32 → Option (MS × Unit))} {p : Nat} (h : KPS u0 u) (hG0 : ∀ (u : MS) a0 a1 a2 a3 a4, KPS u0 u → KE u0 (G u a0 a1 a2 a3 a4)) : KE u0 (hb_Ma_join_68 N G u p) := by
  unfold hb_Ma_join_68
  repeat' (first | with_reducible assumption | with_reducible refine KE_br ?_ ?_ | with_reducible refine KE_bnd ?_ (fun _ _ _ => ?_) | with_reducible refine KE_ck ?_ | with_reducible refine KE_ltm ?_ (fun _ _ => ?_) | with_reducible refine KE_some ?_ | with_reducible refine KE_boe (fun _ _ => ?_) | with_reducible exact zm_Ma_wrong (by assumption) | with_reducible exact hG0 _ _ _ _ _ _ (by assumption) | with_reducible refine KE_ltv (fun _ => ?_) | with_reducible refine KPS_I ?_ ?_ | with_reducible refine KPS_A ?_ ?_ | with_reducible refine KPS_J ?_ | with_reducible refine KPS_L ?_ | with_reducible refine KPS_N ?_ | with_reducible refine KPS_S ?_ | with_reducible refine KPS_gJ ?_ | with_reducible refine KPS_gI ?_ | omega | (unfold pq; omega) | exact KPS_o (by assumption) (by assumption))
theorem zb_Ma_join_0 {G : (MS → Nat → Int32 → Int32 → Int64 → Int32 → Option (MS × Unit))} {p : Nat} (h : KPS u0 u) (hG0 : ∀ (u : MS) a0 a1 a2 a3 a4, KPS u0 u → KE u0 (G u a0 a1 a2 a3 a4)) : KE u0 (hb_Ma_join_0 N G u p) := by
  unfold hb_Ma_join_0
  repeat' (first | with_reducible assumption | with_reducible refine KE_br ?_ ?_ | with_reducible refine KE_bnd ?_ (fun _ _ _ => ?_) | with_reducible refine KE_ck ?_ | with_reducible refine KE_ltm ?_ (fun _ _ => ?_) | with_reducible refine KE_some ?_ | with_reducible refine KE_boe (fun _ _ => ?_) | with_reducible exact zb_Ma_join_68 (by assumption) hG0 | with_reducible exact zm_Te_listLength (by assumption) | with_reducible exact zm_Ma_answer (by assumption) | with_reducible exact zm_Fr_below (by assumption) | with_reducible exact zm_Ma_sizes (by assumption) | with_reducible exact zm_Ma_room (by assumption) | with_reducible exact hG0 _ _ _ _ _ _ (by assumption) | with_reducible refine KE_ltv (fun _ => ?_) | with_reducible refine KPS_I ?_ ?_ | with_reducible refine KPS_A ?_ ?_ | with_reducible refine KPS_J ?_ | with_reducible refine KPS_L ?_ | with_reducible refine KPS_N ?_ | with_reducible refine KPS_S ?_ | with_reducible refine KPS_gJ ?_ | with_reducible refine KPS_gI ?_ | omega | (unfold pq; omega) | exact KPS_o (by assumption) (by assumption))
theorem zg_Ma_join (n : Nat) : (∀ (u : MS) a0 a1 a2 a3 a4, KPS u0 u → KE u0 ((hg_Ma_join N n) u a0 a1 a2 a3 a4)) := by
  induction n with
  | zero => exact fun _ _ _ _ _ _ _ => KE_none
  | succ n ih => exact fun _ _ _ _ _ _ h => zb_Ma_join_106 (N := N) h ih
theorem zm_Ma_join {p : Nat} (h : KPS u0 u) : KE u0 (hm_Ma_join N u p) := by
  unfold hm_Ma_join
  exact zb_Ma_join_0 h (zg_Ma_join N)
theorem zb_Ma_markGone_188 {G : (MS → Nat → Int32 → Int32 → Option (MS × Int32)) × (MS → Nat → Int32 → Int32 → Int64 → Int32 → Option (MS × Int32)) × (MS → Nat → Int32 → Int32 → Int64 → Int32 → Int64 → Int32 → Option (MS × Int32))} {p : Nat} {v2 : Int32} (h : KPS u0 u) (hG0 : ∀ (u : MS) a0 a1 a2, KPS u0 u → KE u0 (G.1 u a0 a1 a2)) (hG1 : ∀ (u : MS) a0 a1 a2 a3 a4, KPS u0 u → KE u0 (G.2.1 u a0 a1 a2 a3 a4)) (hG2 : ∀ (u : MS) a0 a1 a2 a3 a4 a5 a6, KPS u0 u → KE u0 (G.2.2 u a0 a1 a2 a3 a4 a5 a6)) : KE u0 (hb_Ma_markGone_188 N G u p v2) := by
  unfold hb_Ma_markGone_188
  repeat' (first | with_reducible assumption | with_reducible refine KE_br ?_ ?_ | with_reducible refine KE_bnd ?_ (fun _ _ _ => ?_) | with_reducible refine KE_ck ?_ | with_reducible refine KE_ltm ?_ (fun _ _ => ?_) | with_reducible refine KE_some ?_ | with_reducible refine KE_boe (fun _ _ => ?_) | with_reducible exact hG0 _ _ _ _ (by assumption) | with_reducible exact hG1 _ _ _ _ _ _ (by assumption) | with_reducible exact hG2 _ _ _ _ _ _ _ _ (by assumption) | with_reducible refine KE_ltv (fun _ => ?_) | with_reducible refine KPS_I ?_ ?_ | with_reducible refine KPS_A ?_ ?_ | with_reducible refine KPS_J ?_ | with_reducible refine KPS_L ?_ | with_reducible refine KPS_N ?_ | with_reducible refine KPS_S ?_ | with_reducible refine KPS_gJ ?_ | with_reducible refine KPS_gI ?_ | omega | (unfold pq; omega) | exact KPS_o (by assumption) (by assumption))
theorem zb_Ma_markGone_169 {G : (MS → Nat → Int32 → Int32 → Option (MS × Int32)) × (MS → Nat → Int32 → Int32 → Int64 → Int32 → Option (MS × Int32)) × (MS → Nat → Int32 → Int32 → Int64 → Int32 → Int64 → Int32 → Option (MS × Int32))} {p : Nat} {v1 : Int32} {v2 : Int32} {v3 : Int64} {v5 : Int32} (h : KPS u0 u) (hG0 : ∀ (u : MS) a0 a1 a2, KPS u0 u → KE u0 (G.1 u a0 a1 a2)) (hG1 : ∀ (u : MS) a0 a1 a2 a3 a4, KPS u0 u → KE u0 (G.2.1 u a0 a1 a2 a3 a4)) (hG2 : ∀ (u : MS) a0 a1 a2 a3 a4 a5 a6, KPS u0 u → KE u0 (G.2.2 u a0 a1 a2 a3 a4 a5 a6)) : KE u0 (hb_Ma_markGone_169 N G u p v1 v2 v3 v5) := by
  unfold hb_Ma_markGone_169
  repeat' (first | with_reducible assumption | with_reducible refine KE_br ?_ ?_ | with_reducible refine KE_bnd ?_ (fun _ _ _ => ?_) | with_reducible refine KE_ck ?_ | with_reducible refine KE_ltm ?_ (fun _ _ => ?_) | with_reducible refine KE_some ?_ | with_reducible refine KE_boe (fun _ _ => ?_) | with_reducible exact hG0 _ _ _ _ (by assumption) | with_reducible exact hG1 _ _ _ _ _ _ (by assumption) | with_reducible exact hG2 _ _ _ _ _ _ _ _ (by assumption) | with_reducible refine KE_ltv (fun _ => ?_) | with_reducible refine KPS_I ?_ ?_ | with_reducible refine KPS_A ?_ ?_ | with_reducible refine KPS_J ?_ | with_reducible refine KPS_L ?_ | with_reducible refine KPS_N ?_ | with_reducible refine KPS_S ?_ | with_reducible refine KPS_gJ ?_ | with_reducible refine KPS_gI ?_ | omega | (unfold pq; omega) | exact KPS_o (by assumption) (by assumption))
theorem zb_Ma_markGone_148 {G : (MS → Nat → Int32 → Int32 → Option (MS × Int32)) × (MS → Nat → Int32 → Int32 → Int64 → Int32 → Option (MS × Int32)) × (MS → Nat → Int32 → Int32 → Int64 → Int32 → Int64 → Int32 → Option (MS × Int32))} {p : Nat} {v1 : Int32} {v2 : Int32} {v3 : Int64} {v5 : Int32} {v6 : Int64} {v8 : Int32} (h : KPS u0 u) (hG0 : ∀ (u : MS) a0 a1 a2, KPS u0 u → KE u0 (G.1 u a0 a1 a2)) (hG1 : ∀ (u : MS) a0 a1 a2 a3 a4, KPS u0 u → KE u0 (G.2.1 u a0 a1 a2 a3 a4)) (hG2 : ∀ (u : MS) a0 a1 a2 a3 a4 a5 a6, KPS u0 u → KE u0 (G.2.2 u a0 a1 a2 a3 a4 a5 a6)) : KE u0 (hb_Ma_markGone_148 N G u p v1 v2 v3 v5 v6 v8) := by
  unfold hb_Ma_markGone_148
  repeat' (first | with_reducible assumption | with_reducible refine KE_br ?_ ?_ | with_reducible refine KE_bnd ?_ (fun _ _ _ => ?_) | with_reducible refine KE_ck ?_ | with_reducible refine KE_ltm ?_ (fun _ _ => ?_) | with_reducible refine KE_some ?_ | with_reducible refine KE_boe (fun _ _ => ?_) | with_reducible exact hG0 _ _ _ _ (by assumption) | with_reducible exact hG1 _ _ _ _ _ _ (by assumption) | with_reducible exact hG2 _ _ _ _ _ _ _ _ (by assumption) | with_reducible refine KE_ltv (fun _ => ?_) | with_reducible refine KPS_I ?_ ?_ | with_reducible refine KPS_A ?_ ?_ | with_reducible refine KPS_J ?_ | with_reducible refine KPS_L ?_ | with_reducible refine KPS_N ?_ | with_reducible refine KPS_S ?_ | with_reducible refine KPS_gJ ?_ | with_reducible refine KPS_gI ?_ | omega | (unfold pq; omega) | exact KPS_o (by assumption) (by assumption))
theorem zb_Ma_markGone_66 {G : (MS → Nat → Int32 → Int32 → Option (MS × Int32)) × (MS → Nat → Int32 → Int32 → Int64 → Int32 → Option (MS × Int32)) × (MS → Nat → Int32 → Int32 → Int64 → Int32 → Int64 → Int32 → Option (MS × Int32))} {p : Nat} {v1 : Int32} {v2 : Int32} {v3 : Int64} {v5 : Int32} {v6 : Int64} {v8 : Int32} (h : KPS u0 u) (hG0 : ∀ (u : MS) a0 a1 a2, KPS u0 u → KE u0 (G.1 u a0 a1 a2)) (hG1 : ∀ (u : MS) a0 a1 a2 a3 a4, KPS u0 u → KE u0 (G.2.1 u a0 a1 a2 a3 a4)) (hG2 : ∀ (u : MS) a0 a1 a2 a3 a4 a5 a6, KPS u0 u → KE u0 (G.2.2 u a0 a1 a2 a3 a4 a5 a6)) : KE u0 (hb_Ma_markGone_66 N G u p v1 v2 v3 v5 v6 v8) := by
  unfold hb_Ma_markGone_66
  repeat' (first | with_reducible assumption | with_reducible refine KE_br ?_ ?_ | with_reducible refine KE_bnd ?_ (fun _ _ _ => ?_) | with_reducible refine KE_ck ?_ | with_reducible refine KE_ltm ?_ (fun _ _ => ?_) | with_reducible refine KE_some ?_ | with_reducible refine KE_boe (fun _ _ => ?_) | with_reducible exact zb_Ma_markGone_148 (by assumption) hG0 hG1 hG2 | with_reducible exact zb_Ma_markGone_169 (by assumption) hG0 hG1 hG2 | with_reducible exact zm_Te_order (by assumption) | with_reducible exact hG0 _ _ _ _ (by assumption) | with_reducible exact hG1 _ _ _ _ _ _ (by assumption) | with_reducible exact hG2 _ _ _ _ _ _ _ _ (by assumption) | with_reducible refine KE_ltv (fun _ => ?_) | with_reducible refine KPS_I ?_ ?_ | with_reducible refine KPS_A ?_ ?_ | with_reducible refine KPS_J ?_ | with_reducible refine KPS_L ?_ | with_reducible refine KPS_N ?_ | with_reducible refine KPS_S ?_ | with_reducible refine KPS_gJ ?_ | with_reducible refine KPS_gI ?_ | omega | (unfold pq; omega) | exact KPS_o (by assumption) (by assumption))
theorem zb_Ma_markGone_37 {G : (MS → Nat → Int32 → Int32 → Option (MS × Int32)) × (MS → Nat → Int32 → Int32 → Int64 → Int32 → Option (MS × Int32)) × (MS → Nat → Int32 → Int32 → Int64 → Int32 → Int64 → Int32 → Option (MS × Int32))} {p : Nat} {v1 : Int32} {v2 : Int32} {v3 : Int64} {v5 : Int32} (h : KPS u0 u) (hG0 : ∀ (u : MS) a0 a1 a2, KPS u0 u → KE u0 (G.1 u a0 a1 a2)) (hG1 : ∀ (u : MS) a0 a1 a2 a3 a4, KPS u0 u → KE u0 (G.2.1 u a0 a1 a2 a3 a4)) (hG2 : ∀ (u : MS) a0 a1 a2 a3 a4 a5 a6, KPS u0 u → KE u0 (G.2.2 u a0 a1 a2 a3 a4 a5 a6)) : KE u0 (hb_Ma_markGone_37 N G u p v1 v2 v3 v5) := by
  unfold hb_Ma_markGone_37
  repeat' (first | with_reducible assumption | with_reducible refine KE_br ?_ ?_ | with_reducible refine KE_bnd ?_ (fun _ _ _ => ?_) | with_reducible refine KE_ck ?_ | with_reducible refine KE_ltm ?_ (fun _ _ => ?_) | with_reducible refine KE_some ?_ | with_reducible refine KE_boe (fun _ _ => ?_) | with_reducible exact zb_Ma_markGone_188 (by assumption) hG0 hG1 hG2 | with_reducible exact zm_Fr_below (by assumption) | with_reducible exact zm_Te_tag (by assumption) | with_reducible exact hG0 _ _ _ _ (by assumption) | with_reducible exact hG1 _ _ _ _ _ _ (by assumption) | with_reducible exact hG2 _ _ _ _ _ _ _ _ (by assumption) | with_reducible refine KE_ltv (fun _ => ?_) | with_reducible refine KPS_I ?_ ?_ | with_reducible refine KPS_A ?_ ?_ | with_reducible refine KPS_J ?_ | with_reducible refine KPS_L ?_ | with_reducible refine KPS_N ?_ | with_reducible refine KPS_S ?_ | with_reducible refine KPS_gJ ?_ | with_reducible refine KPS_gI ?_ | omega | (unfold pq; omega) | exact KPS_o (by assumption) (by assumption))
theorem zb_Ma_markGone_2 {G : (MS → Nat → Int32 → Int32 → Option (MS × Int32)) × (MS → Nat → Int32 → Int32 → Int64 → Int32 → Option (MS × Int32)) × (MS → Nat → Int32 → Int32 → Int64 → Int32 → Int64 → Int32 → Option (MS × Int32))} {p : Nat} {v1 : Int32} {v2 : Int32} (h : KPS u0 u) (hG0 : ∀ (u : MS) a0 a1 a2, KPS u0 u → KE u0 (G.1 u a0 a1 a2)) (hG1 : ∀ (u : MS) a0 a1 a2 a3 a4, KPS u0 u → KE u0 (G.2.1 u a0 a1 a2 a3 a4)) (hG2 : ∀ (u : MS) a0 a1 a2 a3 a4 a5 a6, KPS u0 u → KE u0 (G.2.2 u a0 a1 a2 a3 a4 a5 a6)) : KE u0 (hb_Ma_markGone_2 N G u p v1 v2) := by
  unfold hb_Ma_markGone_2
  repeat' (first | with_reducible assumption | with_reducible refine KE_br ?_ ?_ | with_reducible refine KE_bnd ?_ (fun _ _ _ => ?_) | with_reducible refine KE_ck ?_ | with_reducible refine KE_ltm ?_ (fun _ _ => ?_) | with_reducible refine KE_some ?_ | with_reducible refine KE_boe (fun _ _ => ?_) | with_reducible exact zm_Fr_below (by assumption) | with_reducible exact hG0 _ _ _ _ (by assumption) | with_reducible exact hG1 _ _ _ _ _ _ (by assumption) | with_reducible exact hG2 _ _ _ _ _ _ _ _ (by assumption) | with_reducible refine KE_ltv (fun _ => ?_) | with_reducible refine KPS_I ?_ ?_ | with_reducible refine KPS_A ?_ ?_ | with_reducible refine KPS_J ?_ | with_reducible refine KPS_L ?_ | with_reducible refine KPS_N ?_ | with_reducible refine KPS_S ?_ | with_reducible refine KPS_gJ ?_ | with_reducible refine KPS_gI ?_ | omega | (unfold pq; omega) | exact KPS_o (by assumption) (by assumption))
theorem zb_Ma_markGone_0 {G : (MS → Nat → Int32 → Int32 → Option (MS × Int32)) × (MS → Nat → Int32 → Int32 → Int64 → Int32 → Option (MS × Int32)) × (MS → Nat → Int32 → Int32 → Int64 → Int32 → Int64 → Int32 → Option (MS × Int32))} {p : Nat} {v1 : Int32} (h : KPS u0 u) (hG0 : ∀ (u : MS) a0 a1 a2, KPS u0 u → KE u0 (G.1 u a0 a1 a2)) (hG1 : ∀ (u : MS) a0 a1 a2 a3 a4, KPS u0 u → KE u0 (G.2.1 u a0 a1 a2 a3 a4)) (hG2 : ∀ (u : MS) a0 a1 a2 a3 a4 a5 a6, KPS u0 u → KE u0 (G.2.2 u a0 a1 a2 a3 a4 a5 a6)) : KE u0 (hb_Ma_markGone_0 N G u p v1) := by
  unfold hb_Ma_markGone_0
  repeat' (first | with_reducible assumption | with_reducible refine KE_br ?_ ?_ | with_reducible refine KE_bnd ?_ (fun _ _ _ => ?_) | with_reducible refine KE_ck ?_ | with_reducible refine KE_ltm ?_ (fun _ _ => ?_) | with_reducible refine KE_some ?_ | with_reducible refine KE_boe (fun _ _ => ?_) | with_reducible exact hG0 _ _ _ _ (by assumption) | with_reducible exact hG1 _ _ _ _ _ _ (by assumption) | with_reducible exact hG2 _ _ _ _ _ _ _ _ (by assumption) | with_reducible refine KE_ltv (fun _ => ?_) | with_reducible refine KPS_I ?_ ?_ | with_reducible refine KPS_A ?_ ?_ | with_reducible refine KPS_J ?_ | with_reducible refine KPS_L ?_ | with_reducible refine KPS_N ?_ | with_reducible refine KPS_S ?_ | with_reducible refine KPS_gJ ?_ | with_reducible refine KPS_gI ?_ | omega | (unfold pq; omega) | exact KPS_o (by assumption) (by assumption))
theorem zg_Ma_markGone (n : Nat) : (∀ (u : MS) a0 a1 a2, KPS u0 u → KE u0 ((hg_Ma_markGone N n).1 u a0 a1 a2)) ∧ (∀ (u : MS) a0 a1 a2 a3 a4, KPS u0 u → KE u0 ((hg_Ma_markGone N n).2.1 u a0 a1 a2 a3 a4)) ∧ (∀ (u : MS) a0 a1 a2 a3 a4 a5 a6, KPS u0 u → KE u0 ((hg_Ma_markGone N n).2.2 u a0 a1 a2 a3 a4 a5 a6)) := by
  induction n with
  | zero => exact ⟨fun _ _ _ _ _ => KE_none, fun _ _ _ _ _ _ _ => KE_none, fun _ _ _ _ _ _ _ _ _ => KE_none⟩
  | succ n ih => exact ⟨fun _ _ _ _ h => zb_Ma_markGone_2 (N := N) h ih.1 ih.2.1 ih.2.2, fun _ _ _ _ _ _ h => zb_Ma_markGone_37 (N := N) h ih.1 ih.2.1 ih.2.2, fun _ _ _ _ _ _ _ _ h => zb_Ma_markGone_66 (N := N) h ih.1 ih.2.1 ih.2.2⟩
theorem zm_Ma_markGone {p : Nat} {v1 : Int32} (h : KPS u0 u) : KE u0 (hm_Ma_markGone N u p v1) := by
  unfold hm_Ma_markGone
  exact zb_Ma_markGone_0 h ((zg_Ma_markGone N).1) ((zg_Ma_markGone N).2.1) ((zg_Ma_markGone N).2.2)
theorem zb_Ma_without_281 {G : (MS → Nat → Int32 → Int32 → Int32 → Option (MS × Unit)) × (MS → Nat → Int32 → Int32 → Int32 → Int64 → Int32 → Option (MS × Unit))} {p : Nat} {t1 : Int32} {t2 : Int64} (h : KPS u0 u) (hG0 : ∀ (u : MS) a0 a1 a2 a3, KPS u0 u → KE u0 (G.1 u a0 a1 a2 a3)) (hG1 : ∀ (u : MS) a0 a1 a2 a3 a4 a5, KPS u0 u → KE u0 (G.2 u a0 a1 a2 a3 a4 a5)) : KE u0 (hb_Ma_without_281 N G u p t1 t2) := by
  unfold hb_Ma_without_281
  repeat' (first | with_reducible assumption | with_reducible refine KE_br ?_ ?_ | with_reducible refine KE_bnd ?_ (fun _ _ _ => ?_) | with_reducible refine KE_ck ?_ | with_reducible refine KE_ltm ?_ (fun _ _ => ?_) | with_reducible refine KE_some ?_ | with_reducible refine KE_boe (fun _ _ => ?_) | with_reducible exact zm_Ma_answer (by assumption) | with_reducible exact hG0 _ _ _ _ _ (by assumption) | with_reducible exact hG1 _ _ _ _ _ _ _ (by assumption) | with_reducible refine KE_ltv (fun _ => ?_) | with_reducible refine KPS_I ?_ ?_ | with_reducible refine KPS_A ?_ ?_ | with_reducible refine KPS_J ?_ | with_reducible refine KPS_L ?_ | with_reducible refine KPS_N ?_ | with_reducible refine KPS_S ?_ | with_reducible refine KPS_gJ ?_ | with_reducible refine KPS_gI ?_ | omega | (unfold pq; omega) | exact KPS_o (by assumption) (by assumption))
theorem zb_Ma_without_231 {G : (MS → Nat → Int32 → Int32 → Int32 → Option (MS × Unit)) × (MS → Nat → Int32 → Int32 → Int32 → Int64 → Int32 → Option (MS × Unit))} {p : Nat} {v2 : Int32} {v4 : Int32} {v5 : Int32} {v6 : Int64} {v8 : Int32} (h : KPS u0 u) (hG0 : ∀ (u : MS) a0 a1 a2 a3, KPS u0 u → KE u0 (G.1 u a0 a1 a2 a3)) (hG1 : ∀ (u : MS) a0 a1 a2 a3 a4 a5, KPS u0 u → KE u0 (G.2 u a0 a1 a2 a3 a4 a5)) : KE u0 (hb_Ma_without_231 N G u p v2 v4 v5 v6 v8) := by
  unfold hb_Ma_without_231
  repeat' (first | with_reducible assumption | with_reducible refine KE_br ?_ ?_ | with_reducible refine KE_bnd ?_ (fun _ _ _ => ?_) | with_reducible refine KE_ck ?_ | with_reducible refine KE_ltm ?_ (fun _ _ => ?_) | with_reducible refine KE_some ?_ | with_reducible refine KE_boe (fun _ _ => ?_) | with_reducible exact hG0 _ _ _ _ _ (by assumption) | with_reducible exact hG1 _ _ _ _ _ _ _ (by assumption) | with_reducible refine KE_ltv (fun _ => ?_) | with_reducible refine KPS_I ?_ ?_ | with_reducible refine KPS_A ?_ ?_ | with_reducible refine KPS_J ?_ | with_reducible refine KPS_L ?_ | with_reducible refine KPS_N ?_ | with_reducible refine KPS_S ?_ | with_reducible refine KPS_gJ ?_ | with_reducible refine KPS_gI ?_ | omega | (unfold pq; omega) | exact KPS_o (by assumption) (by assumption))
theorem zb_Ma_without_150 {G : (MS → Nat → Int32 → Int32 → Int32 → Option (MS × Unit)) × (MS → Nat → Int32 → Int32 → Int32 → Int64 → Int32 → Option (MS × Unit))} {p : Nat} {v2 : Int32} {v4 : Int32} {v5 : Int32} {v6 : Int64} {v8 : Int32} (h : KPS u0 u) (hG0 : ∀ (u : MS) a0 a1 a2 a3, KPS u0 u → KE u0 (G.1 u a0 a1 a2 a3)) (hG1 : ∀ (u : MS) a0 a1 a2 a3 a4 a5, KPS u0 u → KE u0 (G.2 u a0 a1 a2 a3 a4 a5)) : KE u0 (hb_Ma_without_150 N G u p v2 v4 v5 v6 v8) := by
  unfold hb_Ma_without_150
  repeat' (first | with_reducible assumption | with_reducible refine KE_br ?_ ?_ | with_reducible refine KE_bnd ?_ (fun _ _ _ => ?_) | with_reducible refine KE_ck ?_ | with_reducible refine KE_ltm ?_ (fun _ _ => ?_) | with_reducible refine KE_some ?_ | with_reducible refine KE_boe (fun _ _ => ?_) | with_reducible exact zb_Ma_without_231 (by assumption) hG0 hG1 | with_reducible exact zb_Ma_without_281 (by assumption) hG0 hG1 | with_reducible exact zm_Ma_endList (by assumption) | with_reducible exact zm_Te_make (by assumption) | with_reducible exact hG0 _ _ _ _ _ (by assumption) | with_reducible exact hG1 _ _ _ _ _ _ _ (by assumption) | with_reducible refine KE_ltv (fun _ => ?_) | with_reducible refine KPS_I ?_ ?_ | with_reducible refine KPS_A ?_ ?_ | with_reducible refine KPS_J ?_ | with_reducible refine KPS_L ?_ | with_reducible refine KPS_N ?_ | with_reducible refine KPS_S ?_ | with_reducible refine KPS_gJ ?_ | with_reducible refine KPS_gI ?_ | omega | (unfold pq; omega) | exact KPS_o (by assumption) (by assumption))
theorem zb_Ma_without_106 {G : (MS → Nat → Int32 → Int32 → Int32 → Option (MS × Unit)) × (MS → Nat → Int32 → Int32 → Int32 → Int64 → Int32 → Option (MS × Unit))} {p : Nat} {v2 : Int32} {v4 : Int32} {t0 : Int32} {t1 : Int32} (h : KPS u0 u) (hG0 : ∀ (u : MS) a0 a1 a2 a3, KPS u0 u → KE u0 (G.1 u a0 a1 a2 a3)) (hG1 : ∀ (u : MS) a0 a1 a2 a3 a4 a5, KPS u0 u → KE u0 (G.2 u a0 a1 a2 a3 a4 a5)) : KE u0 (hb_Ma_without_106 N G u p v2 v4 t0 t1) := by
  unfold hb_Ma_without_106
  repeat' (first | with_reducible assumption | with_reducible refine KE_br ?_ ?_ | with_reducible refine KE_bnd ?_ (fun _ _ _ => ?_) | with_reducible refine KE_ck ?_ | with_reducible refine KE_ltm ?_ (fun _ _ => ?_) | with_reducible refine KE_some ?_ | with_reducible refine KE_boe (fun _ _ => ?_) | with_reducible exact hG0 _ _ _ _ _ (by assumption) | with_reducible exact hG1 _ _ _ _ _ _ _ (by assumption) | with_reducible refine KE_ltv (fun _ => ?_) | with_reducible refine KPS_I ?_ ?_ | with_reducible refine KPS_A ?_ ?_ | with_reducible refine KPS_J ?_ | with_reducible refine KPS_L ?_ | with_reducible refine KPS_N ?_ | with_reducible refine KPS_S ?_ | with_reducible refine KPS_gJ ?_ | with_reducible refine KPS_gI ?_ | omega | (unfold pq; omega) | exact KPS_o (by assumption) (by assumption))
theorem zb_Ma_without_79 {G : (MS → Nat → Int32 → Int32 → Int32 → Option (MS × Unit)) × (MS → Nat → Int32 → Int32 → Int32 → Int64 → Int32 → Option (MS × Unit))} {p : Nat} {v2 : Int32} {v3 : Int32} {v4 : Int32} (h : KPS u0 u) (hG0 : ∀ (u : MS) a0 a1 a2 a3, KPS u0 u → KE u0 (G.1 u a0 a1 a2 a3)) (hG1 : ∀ (u : MS) a0 a1 a2 a3 a4 a5, KPS u0 u → KE u0 (G.2 u a0 a1 a2 a3 a4 a5)) : KE u0 (hb_Ma_without_79 N G u p v2 v3 v4) := by
  unfold hb_Ma_without_79
  repeat' (first | with_reducible assumption | with_reducible refine KE_br ?_ ?_ | with_reducible refine KE_bnd ?_ (fun _ _ _ => ?_) | with_reducible refine KE_ck ?_ | with_reducible refine KE_ltm ?_ (fun _ _ => ?_) | with_reducible refine KE_some ?_ | with_reducible refine KE_boe (fun _ _ => ?_) | with_reducible exact zb_Ma_without_106 (by assumption) hG0 hG1 | with_reducible exact zm_Fr_below (by assumption) | with_reducible exact zm_Ma_room (by assumption) | with_reducible exact hG0 _ _ _ _ _ (by assumption) | with_reducible exact hG1 _ _ _ _ _ _ _ (by assumption) | with_reducible refine KE_ltv (fun _ => ?_) | with_reducible refine KPS_I ?_ ?_ | with_reducible refine KPS_A ?_ ?_ | with_reducible refine KPS_J ?_ | with_reducible refine KPS_L ?_ | with_reducible refine KPS_N ?_ | with_reducible refine KPS_S ?_ | with_reducible refine KPS_gJ ?_ | with_reducible refine KPS_gI ?_ | omega | (unfold pq; omega) | exact KPS_o (by assumption) (by assumption))
theorem zb_Ma_without_61 {G : (MS → Nat → Int32 → Int32 → Int32 → Option (MS × Unit)) × (MS → Nat → Int32 → Int32 → Int32 → Int64 → Int32 → Option (MS × Unit))} {p : Nat} (h : KPS u0 u) (hG0 : ∀ (u : MS) a0 a1 a2 a3, KPS u0 u → KE u0 (G.1 u a0 a1 a2 a3)) (hG1 : ∀ (u : MS) a0 a1 a2 a3 a4 a5, KPS u0 u → KE u0 (G.2 u a0 a1 a2 a3 a4 a5)) : KE u0 (hb_Ma_without_61 N G u p) := by
  unfold hb_Ma_without_61
  repeat' (first | with_reducible assumption | with_reducible refine KE_br ?_ ?_ | with_reducible refine KE_bnd ?_ (fun _ _ _ => ?_) | with_reducible refine KE_ck ?_ | with_reducible refine KE_ltm ?_ (fun _ _ => ?_) | with_reducible refine KE_some ?_ | with_reducible refine KE_boe (fun _ _ => ?_) | with_reducible exact zm_Ma_wrong (by assumption) | with_reducible exact hG0 _ _ _ _ _ (by assumption) | with_reducible exact hG1 _ _ _ _ _ _ _ (by assumption) | with_reducible refine KE_ltv (fun _ => ?_) | with_reducible refine KPS_I ?_ ?_ | with_reducible refine KPS_A ?_ ?_ | with_reducible refine KPS_J ?_ | with_reducible refine KPS_L ?_ | with_reducible refine KPS_N ?_ | with_reducible refine KPS_S ?_ | with_reducible refine KPS_gJ ?_ | with_reducible refine KPS_gI ?_ | omega | (unfold pq; omega) | exact KPS_o (by assumption) (by assumption))
theorem zb_Ma_without_0 {G : (MS → Nat → Int32 → Int32 → Int32 → Option (MS × Unit)) × (MS → Nat → Int32 → Int32 → Int32 → Int64 → Int32 → Option (MS × Unit))} {p : Nat} (h : KPS u0 u) (hG0 : ∀ (u : MS) a0 a1 a2 a3, KPS u0 u → KE u0 (G.1 u a0 a1 a2 a3)) (hG1 : ∀ (u : MS) a0 a1 a2 a3 a4 a5, KPS u0 u → KE u0 (G.2 u a0 a1 a2 a3 a4 a5)) : KE u0 (hb_Ma_without_0 N G u p) := by
  unfold hb_Ma_without_0
  repeat' (first | with_reducible assumption | with_reducible refine KE_br ?_ ?_ | with_reducible refine KE_bnd ?_ (fun _ _ _ => ?_) | with_reducible refine KE_ck ?_ | with_reducible refine KE_ltm ?_ (fun _ _ => ?_) | with_reducible refine KE_some ?_ | with_reducible refine KE_boe (fun _ _ => ?_) | with_reducible exact zb_Ma_without_61 (by assumption) hG0 hG1 | with_reducible exact zm_Te_listLength (by assumption) | with_reducible exact zm_Ma_markGone (by assumption) | with_reducible exact zm_Fr_below (by assumption) | with_reducible exact hG0 _ _ _ _ _ (by assumption) | with_reducible exact hG1 _ _ _ _ _ _ _ (by assumption) | with_reducible refine KE_ltv (fun _ => ?_) | with_reducible refine KPS_I ?_ ?_ | with_reducible refine KPS_A ?_ ?_ | with_reducible refine KPS_J ?_ | with_reducible refine KPS_L ?_ | with_reducible refine KPS_N ?_ | with_reducible refine KPS_S ?_ | with_reducible refine KPS_gJ ?_ | with_reducible refine KPS_gI ?_ | omega | (unfold pq; omega) | exact KPS_o (by assumption) (by assumption))
theorem zg_Ma_without (n : Nat) : (∀ (u : MS) a0 a1 a2 a3, KPS u0 u → KE u0 ((hg_Ma_without N n).1 u a0 a1 a2 a3)) ∧ (∀ (u : MS) a0 a1 a2 a3 a4 a5, KPS u0 u → KE u0 ((hg_Ma_without N n).2 u a0 a1 a2 a3 a4 a5)) := by
  induction n with
  | zero => exact ⟨fun _ _ _ _ _ _ => KE_none, fun _ _ _ _ _ _ _ _ => KE_none⟩
  | succ n ih => exact ⟨fun _ _ _ _ _ h => zb_Ma_without_79 (N := N) h ih.1 ih.2, fun _ _ _ _ _ _ _ h => zb_Ma_without_150 (N := N) h ih.1 ih.2⟩
theorem zm_Ma_without {p : Nat} (h : KPS u0 u) : KE u0 (hm_Ma_without N u p) := by
  unfold hm_Ma_without
  exact zb_Ma_without_0 h ((zg_Ma_without N).1) ((zg_Ma_without N).2)
theorem zb_Ma_value_240 {G : Unit} {p : Nat} (h : KPS u0 u)  : KE u0 (hb_Ma_value_240 N G u p) := by
  unfold hb_Ma_value_240
  repeat' (first | with_reducible assumption | with_reducible refine KE_br ?_ ?_ | with_reducible refine KE_bnd ?_ (fun _ _ _ => ?_) | with_reducible refine KE_ck ?_ | with_reducible refine KE_ltm ?_ (fun _ _ => ?_) | with_reducible refine KE_some ?_ | with_reducible refine KE_boe (fun _ _ => ?_) | with_reducible refine KE_ltv (fun _ => ?_) | with_reducible refine KPS_I ?_ ?_ | with_reducible refine KPS_A ?_ ?_ | with_reducible refine KPS_J ?_ | with_reducible refine KPS_L ?_ | with_reducible refine KPS_N ?_ | with_reducible refine KPS_S ?_ | with_reducible refine KPS_gJ ?_ | with_reducible refine KPS_gI ?_ | omega | (unfold pq; omega) | exact KPS_o (by assumption) (by assumption))
theorem zb_Ma_value_159 {G : Unit} {p : Nat} {v2 : Int32} {t1 : Int32} (h : KPS u0 u)  : KE u0 (hb_Ma_value_159 N G u p v2 t1) := by
  unfold hb_Ma_value_159
  repeat' (first | with_reducible assumption | with_reducible refine KE_br ?_ ?_ | with_reducible refine KE_bnd ?_ (fun _ _ _ => ?_) | with_reducible refine KE_ck ?_ | with_reducible refine KE_ltm ?_ (fun _ _ => ?_) | with_reducible refine KE_some ?_ | with_reducible refine KE_boe (fun _ _ => ?_) | with_reducible exact zb_Ma_value_240 (by assumption) | with_reducible exact zm_Ma_hinge (by assumption) | with_reducible refine KE_ltv (fun _ => ?_) | with_reducible refine KPS_I ?_ ?_ | with_reducible refine KPS_A ?_ ?_ | with_reducible refine KPS_J ?_ | with_reducible refine KPS_L ?_ | with_reducible refine KPS_N ?_ | with_reducible refine KPS_S ?_ | with_reducible refine KPS_gJ ?_ | with_reducible refine KPS_gI ?_ | omega | (unfold pq; omega) | exact KPS_o (by assumption) (by assumption))
theorem zb_Ma_value_0 {G : Unit} {p : Nat} {v1 : Int32} (h : KPS u0 u)  : KE u0 (hb_Ma_value_0 N G u p v1) := by
  unfold hb_Ma_value_0
  repeat' (first | with_reducible assumption | with_reducible refine KE_br ?_ ?_ | with_reducible refine KE_bnd ?_ (fun _ _ _ => ?_) | with_reducible refine KE_ck ?_ | with_reducible refine KE_ltm ?_ (fun _ _ => ?_) | with_reducible refine KE_some ?_ | with_reducible refine KE_boe (fun _ _ => ?_) | with_reducible exact zm_Ma_arithmetic (by assumption) | with_reducible exact zb_Ma_value_159 (by assumption) | with_reducible exact zb_Ma_value_240 (by assumption) | with_reducible exact zm_Ma_without (by assumption) | with_reducible exact zm_Fr_forget (by assumption) | with_reducible exact zm_Ma_answer (by assumption) | with_reducible exact zm_Ma_negate (by assumption) | with_reducible exact zm_Ma_sendTo (by assumption) | with_reducible exact zm_Fr_below (by assumption) | with_reducible exact zm_Ma_holds (by assumption) | with_reducible exact zm_Ma_truth (by assumption) | with_reducible exact zm_Te_order (by assumption) | with_reducible exact zm_Fr_drop (by assumption) | with_reducible exact zm_Ma_join (by assumption) | with_reducible exact zm_Ma_not (by assumption) | with_reducible exact zm_Co_at (by assumption) | with_reducible refine KE_ltv (fun _ => ?_) | with_reducible refine KPS_I ?_ ?_ | with_reducible refine KPS_A ?_ ?_ | with_reducible refine KPS_J ?_ | with_reducible refine KPS_L ?_ | with_reducible refine KPS_N ?_ | with_reducible refine KPS_S ?_ | with_reducible refine KPS_gJ ?_ | with_reducible refine KPS_gI ?_ | omega | (unfold pq; omega) | exact KPS_o (by assumption) (by assumption))
theorem zm_Ma_value {p : Nat} {v1 : Int32} (h : KPS u0 u) : KE u0 (hm_Ma_value N u p v1) := by
  unfold hm_Ma_value
  exact zb_Ma_value_0 h
theorem zb_Ma_fit_370 {G : (MS → Nat → Int32 → Int32 → Int32 → Option (MS × Int32)) × (MS → Nat → Int32 → Int32 → Int32 → Int64 → Int32 → Option (MS × Int32))} {p : Nat} {v4 : Int32} (h : KPS u0 u) (hG0 : ∀ (u : MS) a0 a1 a2 a3, KPS u0 u → KE u0 (G.1 u a0 a1 a2 a3)) (hG1 : ∀ (u : MS) a0 a1 a2 a3 a4 a5, KPS u0 u → KE u0 (G.2 u a0 a1 a2 a3 a4 a5)) : KE u0 (hb_Ma_fit_370 N G u p v4) := by
  unfold hb_Ma_fit_370
  repeat' (first | with_reducible assumption | with_reducible refine KE_br ?_ ?_ | with_reducible refine KE_bnd ?_ (fun _ _ _ => ?_) | with_reducible refine KE_ck ?_ | with_reducible refine KE_ltm ?_ (fun _ _ => ?_) | with_reducible refine KE_some ?_ | with_reducible refine KE_boe (fun _ _ => ?_) | with_reducible exact hG0 _ _ _ _ _ (by assumption) | with_reducible exact hG1 _ _ _ _ _ _ _ (by assumption) | with_reducible refine KE_ltv (fun _ => ?_) | with_reducible refine KPS_I ?_ ?_ | with_reducible refine KPS_A ?_ ?_ | with_reducible refine KPS_J ?_ | with_reducible refine KPS_L ?_ | with_reducible refine KPS_N ?_ | with_reducible refine KPS_S ?_ | with_reducible refine KPS_gJ ?_ | with_reducible refine KPS_gI ?_ | omega | (unfold pq; omega) | exact KPS_o (by assumption) (by assumption))
theorem zb_Ma_fit_364 {G : (MS → Nat → Int32 → Int32 → Int32 → Option (MS × Int32)) × (MS → Nat → Int32 → Int32 → Int32 → Int64 → Int32 → Option (MS × Int32))} {p : Nat} {v4 : Int32} {v5 : Int32} {v6 : Int32} (h : KPS u0 u) (hG0 : ∀ (u : MS) a0 a1 a2 a3, KPS u0 u → KE u0 (G.1 u a0 a1 a2 a3)) (hG1 : ∀ (u : MS) a0 a1 a2 a3 a4 a5, KPS u0 u → KE u0 (G.2 u a0 a1 a2 a3 a4 a5)) : KE u0 (hb_Ma_fit_364 N G u p v4 v5 v6) := by
  unfold hb_Ma_fit_364
  repeat' (first | with_reducible assumption | with_reducible refine KE_br ?_ ?_ | with_reducible refine KE_bnd ?_ (fun _ _ _ => ?_) | with_reducible refine KE_ck ?_ | with_reducible refine KE_ltm ?_ (fun _ _ => ?_) | with_reducible refine KE_some ?_ | with_reducible refine KE_boe (fun _ _ => ?_) | with_reducible exact hG0 _ _ _ _ _ (by assumption) | with_reducible exact hG1 _ _ _ _ _ _ _ (by assumption) | with_reducible refine KE_ltv (fun _ => ?_) | with_reducible refine KPS_I ?_ ?_ | with_reducible refine KPS_A ?_ ?_ | with_reducible refine KPS_J ?_ | with_reducible refine KPS_L ?_ | with_reducible refine KPS_N ?_ | with_reducible refine KPS_S ?_ | with_reducible refine KPS_gJ ?_ | with_reducible refine KPS_gI ?_ | omega | (unfold pq; omega) | exact KPS_o (by assumption) (by assumption))
theorem zb_Ma_fit_268 {G : (MS → Nat → Int32 → Int32 → Int32 → Option (MS × Int32)) × (MS → Nat → Int32 → Int32 → Int32 → Int64 → Int32 → Option (MS × Int32))} {p : Nat} {v4 : Int32} {v5 : Int32} {v6 : Int32} {v7 : Int64} {v10 : Int32} (h : KPS u0 u) (hG0 : ∀ (u : MS) a0 a1 a2 a3, KPS u0 u → KE u0 (G.1 u a0 a1 a2 a3)) (hG1 : ∀ (u : MS) a0 a1 a2 a3 a4 a5, KPS u0 u → KE u0 (G.2 u a0 a1 a2 a3 a4 a5)) : KE u0 (hb_Ma_fit_268 N G u p v4 v5 v6 v7 v10) := by
  unfold hb_Ma_fit_268
  repeat' (first | with_reducible assumption | with_reducible refine KE_br ?_ ?_ | with_reducible refine KE_bnd ?_ (fun _ _ _ => ?_) | with_reducible refine KE_ck ?_ | with_reducible refine KE_ltm ?_ (fun _ _ => ?_) | with_reducible refine KE_some ?_ | with_reducible refine KE_boe (fun _ _ => ?_) | with_reducible exact zb_Ma_fit_364 (by assumption) hG0 hG1 | with_reducible exact hG0 _ _ _ _ _ (by assumption) | with_reducible exact hG1 _ _ _ _ _ _ _ (by assumption) | with_reducible refine KE_ltv (fun _ => ?_) | with_reducible refine KPS_I ?_ ?_ | with_reducible refine KPS_A ?_ ?_ | with_reducible refine KPS_J ?_ | with_reducible refine KPS_L ?_ | with_reducible refine KPS_N ?_ | with_reducible refine KPS_S ?_ | with_reducible refine KPS_gJ ?_ | with_reducible refine KPS_gI ?_ | omega | (unfold pq; omega) | exact KPS_o (by assumption) (by assumption))
theorem zb_Ma_fit_262 {G : (MS → Nat → Int32 → Int32 → Int32 → Option (MS × Int32)) × (MS → Nat → Int32 → Int32 → Int32 → Int64 → Int32 → Option (MS × Int32))} {p : Nat} (h : KPS u0 u) (hG0 : ∀ (u : MS) a0 a1 a2 a3, KPS u0 u → KE u0 (G.1 u a0 a1 a2 a3)) (hG1 : ∀ (u : MS) a0 a1 a2 a3 a4 a5, KPS u0 u → KE u0 (G.2 u a0 a1 a2 a3 a4 a5)) : KE u0 (hb_Ma_fit_262 N G u p) := by
  unfold hb_Ma_fit_262
  repeat' (first | with_reducible assumption | with_reducible refine KE_br ?_ ?_ | with_reducible refine KE_bnd ?_ (fun _ _ _ => ?_) | with_reducible refine KE_ck ?_ | with_reducible refine KE_ltm ?_ (fun _ _ => ?_) | with_reducible refine KE_some ?_ | with_reducible refine KE_boe (fun _ _ => ?_) | with_reducible exact hG0 _ _ _ _ _ (by assumption) | with_reducible exact hG1 _ _ _ _ _ _ _ (by assumption) | with_reducible refine KE_ltv (fun _ => ?_) | with_reducible refine KPS_I ?_ ?_ | with_reducible refine KPS_A ?_ ?_ | with_reducible refine KPS_J ?_ | with_reducible refine KPS_L ?_ | with_reducible refine KPS_N ?_ | with_reducible refine KPS_S ?_ | with_reducible refine KPS_gJ ?_ | with_reducible refine KPS_gI ?_ | omega | (unfold pq; omega) | exact KPS_o (by assumption) (by assumption))
theorem zb_Ma_fit_57 {G : (MS → Nat → Int32 → Int32 → Int32 → Option (MS × Int32)) × (MS → Nat → Int32 → Int32 → Int32 → Int64 → Int32 → Option (MS × Int32))} {p : Nat} (h : KPS u0 u) (hG0 : ∀ (u : MS) a0 a1 a2 a3, KPS u0 u → KE u0 (G.1 u a0 a1 a2 a3)) (hG1 : ∀ (u : MS) a0 a1 a2 a3 a4 a5, KPS u0 u → KE u0 (G.2 u a0 a1 a2 a3 a4 a5)) : KE u0 (hb_Ma_fit_57 N G u p) := by
  unfold hb_Ma_fit_57
  repeat' (first | with_reducible assumption | with_reducible refine KE_br ?_ ?_ | with_reducible refine KE_bnd ?_ (fun _ _ _ => ?_) | with_reducible refine KE_ck ?_ | with_reducible refine KE_ltm ?_ (fun _ _ => ?_) | with_reducible refine KE_some ?_ | with_reducible refine KE_boe (fun _ _ => ?_) | with_reducible exact hG0 _ _ _ _ _ (by assumption) | with_reducible exact hG1 _ _ _ _ _ _ _ (by assumption) | with_reducible refine KE_ltv (fun _ => ?_) | with_reducible refine KPS_I ?_ ?_ | with_reducible refine KPS_A ?_ ?_ | with_reducible refine KPS_J ?_ | with_reducible refine KPS_L ?_ | with_reducible refine KPS_N ?_ | with_reducible refine KPS_S ?_ | with_reducible refine KPS_gJ ?_ | with_reducible refine KPS_gI ?_ | omega | (unfold pq; omega) | exact KPS_o (by assumption) (by assumption))
theorem zb_Ma_fit_17 {G : (MS → Nat → Int32 → Int32 → Int32 → Option (MS × Int32)) × (MS → Nat → Int32 → Int32 → Int32 → Int64 → Int32 → Option (MS × Int32))} {p : Nat} {v4 : Int32} {v5 : Int32} {v6 : Int32} (h : KPS u0 u) (hG0 : ∀ (u : MS) a0 a1 a2 a3, KPS u0 u → KE u0 (G.1 u a0 a1 a2 a3)) (hG1 : ∀ (u : MS) a0 a1 a2 a3 a4 a5, KPS u0 u → KE u0 (G.2 u a0 a1 a2 a3 a4 a5)) : KE u0 (hb_Ma_fit_17 N G u p v4 v5 v6) := by
  unfold hb_Ma_fit_17
  repeat' (first | with_reducible assumption | with_reducible refine KE_br ?_ ?_ | with_reducible refine KE_bnd ?_ (fun _ _ _ => ?_) | with_reducible refine KE_ck ?_ | with_reducible refine KE_ltm ?_ (fun _ _ => ?_) | with_reducible refine KE_some ?_ | with_reducible refine KE_boe (fun _ _ => ?_) | with_reducible exact zb_Ma_fit_262 (by assumption) hG0 hG1 | with_reducible exact zb_Ma_fit_364 (by assumption) hG0 hG1 | with_reducible exact zb_Ma_fit_370 (by assumption) hG0 hG1 | with_reducible exact zb_Ma_fit_57 (by assumption) hG0 hG1 | with_reducible exact zm_Ma_fitsString (by assumption) | with_reducible exact zm_Fr_termOf (by assumption) | with_reducible exact zm_Te_order (by assumption) | with_reducible exact zm_Fr_bind (by assumption) | with_reducible exact zm_Te_make (by assumption) | with_reducible exact zm_Te_tag (by assumption) | with_reducible exact zm_Co_at (by assumption) | with_reducible exact hG0 _ _ _ _ _ (by assumption) | with_reducible exact hG1 _ _ _ _ _ _ _ (by assumption) | with_reducible refine KE_ltv (fun _ => ?_) | with_reducible refine KPS_I ?_ ?_ | with_reducible refine KPS_A ?_ ?_ | with_reducible refine KPS_J ?_ | with_reducible refine KPS_L ?_ | with_reducible refine KPS_N ?_ | with_reducible refine KPS_S ?_ | with_reducible refine KPS_gJ ?_ | with_reducible refine KPS_gI ?_ | omega | (unfold pq; omega) | exact KPS_o (by assumption) (by assumption))
theorem zb_Ma_fit_0 {G : (MS → Nat → Int32 → Int32 → Int32 → Option (MS × Int32)) × (MS → Nat → Int32 → Int32 → Int32 → Int64 → Int32 → Option (MS × Int32))} {p : Nat} {v1 : Int32} {v2 : Int32} (h : KPS u0 u) (hG0 : ∀ (u : MS) a0 a1 a2 a3, KPS u0 u → KE u0 (G.1 u a0 a1 a2 a3)) (hG1 : ∀ (u : MS) a0 a1 a2 a3 a4 a5, KPS u0 u → KE u0 (G.2 u a0 a1 a2 a3 a4 a5)) : KE u0 (hb_Ma_fit_0 N G u p v1 v2) := by
  unfold hb_Ma_fit_0
  repeat' (first | with_reducible assumption | with_reducible refine KE_br ?_ ?_ | with_reducible refine KE_bnd ?_ (fun _ _ _ => ?_) | with_reducible refine KE_ck ?_ | with_reducible refine KE_ltm ?_ (fun _ _ => ?_) | with_reducible refine KE_some ?_ | with_reducible refine KE_boe (fun _ _ => ?_) | with_reducible exact hG0 _ _ _ _ _ (by assumption) | with_reducible exact hG1 _ _ _ _ _ _ _ (by assumption) | with_reducible refine KE_ltv (fun _ => ?_) | with_reducible refine KPS_I ?_ ?_ | with_reducible refine KPS_A ?_ ?_ | with_reducible refine KPS_J ?_ | with_reducible refine KPS_L ?_ | with_reducible refine KPS_N ?_ | with_reducible refine KPS_S ?_ | with_reducible refine KPS_gJ ?_ | with_reducible refine KPS_gI ?_ | omega | (unfold pq; omega) | exact KPS_o (by assumption) (by assumption))
theorem zg_Ma_fit (n : Nat) : (∀ (u : MS) a0 a1 a2 a3, KPS u0 u → KE u0 ((hg_Ma_fit N n).1 u a0 a1 a2 a3)) ∧ (∀ (u : MS) a0 a1 a2 a3 a4 a5, KPS u0 u → KE u0 ((hg_Ma_fit N n).2 u a0 a1 a2 a3 a4 a5)) := by
  induction n with
  | zero => exact ⟨fun _ _ _ _ _ _ => KE_none, fun _ _ _ _ _ _ _ _ => KE_none⟩
  | succ n ih => exact ⟨fun _ _ _ _ _ h => zb_Ma_fit_17 (N := N) h ih.1 ih.2, fun _ _ _ _ _ _ _ h => zb_Ma_fit_268 (N := N) h ih.1 ih.2⟩
theorem zm_Ma_fit {p : Nat} {v1 : Int32} {v2 : Int32} (h : KPS u0 u) : KE u0 (hm_Ma_fit N u p v1 v2) := by
  unfold hm_Ma_fit
  exact zb_Ma_fit_0 h ((zg_Ma_fit N).1) ((zg_Ma_fit N).2)
theorem zb_Ma_tries_153 {G : (MS → Nat → Int32 → Int32 → Int32 → Int32 → Option (MS × Unit))} {p : Nat} (h : KPS u0 u) (hG0 : ∀ (u : MS) a0 a1 a2 a3 a4, KPS u0 u → KE u0 (G u a0 a1 a2 a3 a4)) : KE u0 (hb_Ma_tries_153 N G u p) := by
  unfold hb_Ma_tries_153
  repeat' (first | with_reducible assumption | with_reducible refine KE_br ?_ ?_ | with_reducible refine KE_bnd ?_ (fun _ _ _ => ?_) | with_reducible refine KE_ck ?_ | with_reducible refine KE_ltm ?_ (fun _ _ => ?_) | with_reducible refine KE_some ?_ | with_reducible refine KE_boe (fun _ _ => ?_) | with_reducible exact hG0 _ _ _ _ _ _ (by assumption) | with_reducible refine KE_ltv (fun _ => ?_) | with_reducible refine KPS_I ?_ ?_ | with_reducible refine KPS_A ?_ ?_ | with_reducible refine KPS_J ?_ | with_reducible refine KPS_L ?_ | with_reducible refine KPS_N ?_ | with_reducible refine KPS_S ?_ | with_reducible refine KPS_gJ ?_ | with_reducible refine KPS_gI ?_ | omega | (unfold pq; omega) | exact KPS_o (by assumption) (by assumption))
theorem zb_Ma_tries_93 {G : (MS → Nat → Int32 → Int32 → Int32 → Int32 → Option (MS × Unit))} {p : Nat} {v1 : Int32} {v2 : Int32} {v3 : Int32} {v4 : Int32} {t1 : Int32} {t2 : Int64} (h : KPS u0 u) (hG0 : ∀ (u : MS) a0 a1 a2 a3 a4, KPS u0 u → KE u0 (G u a0 a1 a2 a3 a4)) : KE u0 (hb_Ma_tries_93 N G u p v1 v2 v3 v4 t1 t2) := by
  unfold hb_Ma_tries_93
  repeat' (first | with_reducible assumption | with_reducible refine KE_br ?_ ?_ | with_reducible refine KE_bnd ?_ (fun _ _ _ => ?_) | with_reducible refine KE_ck ?_ | with_reducible refine KE_ltm ?_ (fun _ _ => ?_) | with_reducible refine KE_some ?_ | with_reducible refine KE_boe (fun _ _ => ?_) | with_reducible exact hG0 _ _ _ _ _ _ (by assumption) | with_reducible refine KE_ltv (fun _ => ?_) | with_reducible refine KPS_I ?_ ?_ | with_reducible refine KPS_A ?_ ?_ | with_reducible refine KPS_J ?_ | with_reducible refine KPS_L ?_ | with_reducible refine KPS_N ?_ | with_reducible refine KPS_S ?_ | with_reducible refine KPS_gJ ?_ | with_reducible refine KPS_gI ?_ | omega | (unfold pq; omega) | exact KPS_o (by assumption) (by assumption))
theorem zb_Ma_tries_50 {G : (MS → Nat → Int32 → Int32 → Int32 → Int32 → Option (MS × Unit))} {p : Nat} {v1 : Int32} {v2 : Int32} {v3 : Int32} {v4 : Int32} {t0 : Int32} (h : KPS u0 u) (hG0 : ∀ (u : MS) a0 a1 a2 a3 a4, KPS u0 u → KE u0 (G u a0 a1 a2 a3 a4)) : KE u0 (hb_Ma_tries_50 N G u p v1 v2 v3 v4 t0) := by
  unfold hb_Ma_tries_50
  repeat' (first | with_reducible assumption | with_reducible refine KE_br ?_ ?_ | with_reducible refine KE_bnd ?_ (fun _ _ _ => ?_) | with_reducible refine KE_ck ?_ | with_reducible refine KE_ltm ?_ (fun _ _ => ?_) | with_reducible refine KE_some ?_ | with_reducible refine KE_boe (fun _ _ => ?_) | with_reducible exact zb_Ma_tries_93 (by assumption) hG0 | with_reducible exact zm_Fr_below (by assumption) | with_reducible exact hG0 _ _ _ _ _ _ (by assumption) | with_reducible refine KE_ltv (fun _ => ?_) | with_reducible refine KPS_I ?_ ?_ | with_reducible refine KPS_A ?_ ?_ | with_reducible refine KPS_J ?_ | with_reducible refine KPS_L ?_ | with_reducible refine KPS_N ?_ | with_reducible refine KPS_S ?_ | with_reducible refine KPS_gJ ?_ | with_reducible refine KPS_gI ?_ | omega | (unfold pq; omega) | exact KPS_o (by assumption) (by assumption))
theorem zb_Ma_tries_49 {G : (MS → Nat → Int32 → Int32 → Int32 → Int32 → Option (MS × Unit))} {p : Nat} {v1 : Int32} {v2 : Int32} {v3 : Int32} {v4 : Int32} (h : KPS u0 u) (hG0 : ∀ (u : MS) a0 a1 a2 a3 a4, KPS u0 u → KE u0 (G u a0 a1 a2 a3 a4)) : KE u0 (hb_Ma_tries_49 N G u p v1 v2 v3 v4) := by
  unfold hb_Ma_tries_49
  repeat' (first | with_reducible assumption | with_reducible refine KE_br ?_ ?_ | with_reducible refine KE_bnd ?_ (fun _ _ _ => ?_) | with_reducible refine KE_ck ?_ | with_reducible refine KE_ltm ?_ (fun _ _ => ?_) | with_reducible refine KE_some ?_ | with_reducible refine KE_boe (fun _ _ => ?_) | with_reducible exact zb_Ma_tries_50 (by assumption) hG0 | with_reducible exact hG0 _ _ _ _ _ _ (by assumption) | with_reducible refine KE_ltv (fun _ => ?_) | with_reducible refine KPS_I ?_ ?_ | with_reducible refine KPS_A ?_ ?_ | with_reducible refine KPS_J ?_ | with_reducible refine KPS_L ?_ | with_reducible refine KPS_N ?_ | with_reducible refine KPS_S ?_ | with_reducible refine KPS_gJ ?_ | with_reducible refine KPS_gI ?_ | omega | (unfold pq; omega) | exact KPS_o (by assumption) (by assumption))
theorem zb_Ma_tries_21 {G : (MS → Nat → Int32 → Int32 → Int32 → Int32 → Option (MS × Unit))} {p : Nat} {v1 : Int32} {v2 : Int32} {v3 : Int32} {v4 : Int32} (h : KPS u0 u) (hG0 : ∀ (u : MS) a0 a1 a2 a3 a4, KPS u0 u → KE u0 (G u a0 a1 a2 a3 a4)) : KE u0 (hb_Ma_tries_21 N G u p v1 v2 v3 v4) := by
  unfold hb_Ma_tries_21
  repeat' (first | with_reducible assumption | with_reducible refine KE_br ?_ ?_ | with_reducible refine KE_bnd ?_ (fun _ _ _ => ?_) | with_reducible refine KE_ck ?_ | with_reducible refine KE_ltm ?_ (fun _ _ => ?_) | with_reducible refine KE_some ?_ | with_reducible refine KE_boe (fun _ _ => ?_) | with_reducible exact zb_Ma_tries_153 (by assumption) hG0 | with_reducible exact zb_Ma_tries_49 (by assumption) hG0 | with_reducible exact zb_Ma_tries_50 (by assumption) hG0 | with_reducible exact zm_Ma_fit (by assumption) | with_reducible exact zm_Co_at (by assumption) | with_reducible exact hG0 _ _ _ _ _ _ (by assumption) | with_reducible refine KE_ltv (fun _ => ?_) | with_reducible refine KPS_I ?_ ?_ | with_reducible refine KPS_A ?_ ?_ | with_reducible refine KPS_J ?_ | with_reducible refine KPS_L ?_ | with_reducible refine KPS_N ?_ | with_reducible refine KPS_S ?_ | with_reducible refine KPS_gJ ?_ | with_reducible refine KPS_gI ?_ | omega | (unfold pq; omega) | exact KPS_o (by assumption) (by assumption))
theorem zb_Ma_tries_17 {G : (MS → Nat → Int32 → Int32 → Int32 → Int32 → Option (MS × Unit))} {p : Nat} {v1 : Int32} {v2 : Int32} {t0 : Int32} (h : KPS u0 u) (hG0 : ∀ (u : MS) a0 a1 a2 a3 a4, KPS u0 u → KE u0 (G u a0 a1 a2 a3 a4)) : KE u0 (hb_Ma_tries_17 N G u p v1 v2 t0) := by
  unfold hb_Ma_tries_17
  repeat' (first | with_reducible assumption | with_reducible refine KE_br ?_ ?_ | with_reducible refine KE_bnd ?_ (fun _ _ _ => ?_) | with_reducible refine KE_ck ?_ | with_reducible refine KE_ltm ?_ (fun _ _ => ?_) | with_reducible refine KE_some ?_ | with_reducible refine KE_boe (fun _ _ => ?_) | with_reducible exact hG0 _ _ _ _ _ _ (by assumption) | with_reducible refine KE_ltv (fun _ => ?_) | with_reducible refine KPS_I ?_ ?_ | with_reducible refine KPS_A ?_ ?_ | with_reducible refine KPS_J ?_ | with_reducible refine KPS_L ?_ | with_reducible refine KPS_N ?_ | with_reducible refine KPS_S ?_ | with_reducible refine KPS_gJ ?_ | with_reducible refine KPS_gI ?_ | omega | (unfold pq; omega) | exact KPS_o (by assumption) (by assumption))
theorem zb_Ma_tries_0 {G : (MS → Nat → Int32 → Int32 → Int32 → Int32 → Option (MS × Unit))} {p : Nat} {v1 : Int32} (h : KPS u0 u) (hG0 : ∀ (u : MS) a0 a1 a2 a3 a4, KPS u0 u → KE u0 (G u a0 a1 a2 a3 a4)) : KE u0 (hb_Ma_tries_0 N G u p v1) := by
  unfold hb_Ma_tries_0
  repeat' (first | with_reducible assumption | with_reducible refine KE_br ?_ ?_ | with_reducible refine KE_bnd ?_ (fun _ _ _ => ?_) | with_reducible refine KE_ck ?_ | with_reducible refine KE_ltm ?_ (fun _ _ => ?_) | with_reducible refine KE_some ?_ | with_reducible refine KE_boe (fun _ _ => ?_) | with_reducible exact zb_Ma_tries_17 (by assumption) hG0 | with_reducible exact hG0 _ _ _ _ _ _ (by assumption) | with_reducible refine KE_ltv (fun _ => ?_) | with_reducible refine KPS_I ?_ ?_ | with_reducible refine KPS_A ?_ ?_ | with_reducible refine KPS_J ?_ | with_reducible refine KPS_L ?_ | with_reducible refine KPS_N ?_ | with_reducible refine KPS_S ?_ | with_reducible refine KPS_gJ ?_ | with_reducible refine KPS_gI ?_ | omega | (unfold pq; omega) | exact KPS_o (by assumption) (by assumption))
theorem zg_Ma_tries (n : Nat) : (∀ (u : MS) a0 a1 a2 a3 a4, KPS u0 u → KE u0 ((hg_Ma_tries N n) u a0 a1 a2 a3 a4)) := by
  induction n with
  | zero => exact fun _ _ _ _ _ _ _ => KE_none
  | succ n ih => exact fun _ _ _ _ _ _ h => zb_Ma_tries_21 (N := N) h ih
theorem zm_Ma_tries {p : Nat} {v1 : Int32} (h : KPS u0 u) : KE u0 (hm_Ma_tries N u p v1) := by
  unfold hm_Ma_tries
  exact zb_Ma_tries_0 h (zg_Ma_tries N)
theorem zb_Ma_match_73 {G : Unit} {p : Nat} (h : KPS u0 u)  : KE u0 (hb_Ma_match_73 N G u p) := by
  unfold hb_Ma_match_73
  repeat' (first | with_reducible assumption | with_reducible refine KE_br ?_ ?_ | with_reducible refine KE_bnd ?_ (fun _ _ _ => ?_) | with_reducible refine KE_ck ?_ | with_reducible refine KE_ltm ?_ (fun _ _ => ?_) | with_reducible refine KE_some ?_ | with_reducible refine KE_boe (fun _ _ => ?_) | with_reducible refine KE_ltv (fun _ => ?_) | with_reducible refine KPS_I ?_ ?_ | with_reducible refine KPS_A ?_ ?_ | with_reducible refine KPS_J ?_ | with_reducible refine KPS_L ?_ | with_reducible refine KPS_N ?_ | with_reducible refine KPS_S ?_ | with_reducible refine KPS_gJ ?_ | with_reducible refine KPS_gI ?_ | omega | (unfold pq; omega) | exact KPS_o (by assumption) (by assumption))
theorem zb_Ma_match_0 {G : Unit} {p : Nat} (h : KPS u0 u)  : KE u0 (hb_Ma_match_0 N G u p) := by
  unfold hb_Ma_match_0
  repeat' (first | with_reducible assumption | with_reducible refine KE_br ?_ ?_ | with_reducible refine KE_bnd ?_ (fun _ _ _ => ?_) | with_reducible refine KE_ck ?_ | with_reducible refine KE_ltm ?_ (fun _ _ => ?_) | with_reducible refine KE_some ?_ | with_reducible refine KE_boe (fun _ _ => ?_) | with_reducible exact zb_Ma_match_73 (by assumption) | with_reducible exact zm_Fr_below (by assumption) | with_reducible exact zm_Ma_tell (by assumption) | with_reducible exact zm_Ma_fit (by assumption) | with_reducible refine KE_ltv (fun _ => ?_) | with_reducible refine KPS_I ?_ ?_ | with_reducible refine KPS_A ?_ ?_ | with_reducible refine KPS_J ?_ | with_reducible refine KPS_L ?_ | with_reducible refine KPS_N ?_ | with_reducible refine KPS_S ?_ | with_reducible refine KPS_gJ ?_ | with_reducible refine KPS_gI ?_ | omega | (unfold pq; omega) | exact KPS_o (by assumption) (by assumption))
theorem zm_Ma_match {p : Nat} (h : KPS u0 u) : KE u0 (hm_Ma_match N u p) := by
  unfold hm_Ma_match
  exact zb_Ma_match_0 h
theorem zb_Ma_guardFails_0 {G : Unit} {p : Nat} (h : KPS u0 u)  : KE u0 (hb_Ma_guardFails_0 N G u p) := by
  unfold hb_Ma_guardFails_0
  repeat' (first | with_reducible assumption | with_reducible refine KE_br ?_ ?_ | with_reducible refine KE_bnd ?_ (fun _ _ _ => ?_) | with_reducible refine KE_ck ?_ | with_reducible refine KE_ltm ?_ (fun _ _ => ?_) | with_reducible refine KE_some ?_ | with_reducible refine KE_boe (fun _ _ => ?_) | with_reducible exact zm_Fr_forget (by assumption) | with_reducible refine KE_ltv (fun _ => ?_) | with_reducible refine KPS_I ?_ ?_ | with_reducible refine KPS_A ?_ ?_ | with_reducible refine KPS_J ?_ | with_reducible refine KPS_L ?_ | with_reducible refine KPS_N ?_ | with_reducible refine KPS_S ?_ | with_reducible refine KPS_gJ ?_ | with_reducible refine KPS_gI ?_ | omega | (unfold pq; omega) | exact KPS_o (by assumption) (by assumption))
theorem zm_Ma_guardFails {p : Nat} (h : KPS u0 u) : KE u0 (hm_Ma_guardFails N u p) := by
  unfold hm_Ma_guardFails
  exact zb_Ma_guardFails_0 h
theorem zb_Fr_replace_0 {G : Unit} {v0 : Nat} {v1 : Int32} {v2 : Int32} {v3 : Int32} (h : KPS u0 u)  : KE u0 (hb_Fr_replace_0 N G u v0 v1 v2 v3) := by
  unfold hb_Fr_replace_0
  repeat' (first | with_reducible assumption | with_reducible refine KE_br ?_ ?_ | with_reducible refine KE_bnd ?_ (fun _ _ _ => ?_) | with_reducible refine KE_ck ?_ | with_reducible refine KE_ltm ?_ (fun _ _ => ?_) | with_reducible refine KE_some ?_ | with_reducible refine KE_boe (fun _ _ => ?_) | with_reducible exact zm_Fr_set (by assumption) | with_reducible exact zm_Fr_of (by assumption) | with_reducible refine KE_ltv (fun _ => ?_) | with_reducible refine KPS_I ?_ ?_ | with_reducible refine KPS_A ?_ ?_ | with_reducible refine KPS_J ?_ | with_reducible refine KPS_L ?_ | with_reducible refine KPS_N ?_ | with_reducible refine KPS_S ?_ | with_reducible refine KPS_gJ ?_ | with_reducible refine KPS_gI ?_ | omega | (unfold pq; omega) | exact KPS_o (by assumption) (by assumption))
theorem zm_Fr_replace {v0 : Nat} {v1 : Int32} {v2 : Int32} {v3 : Int32} (h : KPS u0 u) : KE u0 (hm_Fr_replace N u v0 v1 v2 v3) := by
  unfold hm_Fr_replace
  exact zb_Fr_replace_0 h
theorem zb_Ma_enter_37 {G : Unit} {p : Nat} {v2 : Int32} (h : KPS u0 u)  : KE u0 (hb_Ma_enter_37 N G u p v2) := by
  unfold hb_Ma_enter_37
  repeat' (first | with_reducible assumption | with_reducible refine KE_br ?_ ?_ | with_reducible refine KE_bnd ?_ (fun _ _ _ => ?_) | with_reducible refine KE_ck ?_ | with_reducible refine KE_ltm ?_ (fun _ _ => ?_) | with_reducible refine KE_some ?_ | with_reducible refine KE_boe (fun _ _ => ?_) | with_reducible refine KE_ltv (fun _ => ?_) | with_reducible refine KPS_I ?_ ?_ | with_reducible refine KPS_A ?_ ?_ | with_reducible refine KPS_J ?_ | with_reducible refine KPS_L ?_ | with_reducible refine KPS_N ?_ | with_reducible refine KPS_S ?_ | with_reducible refine KPS_gJ ?_ | with_reducible refine KPS_gI ?_ | omega | (unfold pq; omega) | exact KPS_o (by assumption) (by assumption))
theorem zb_Ma_enter_0 {G : Unit} {p : Nat} {v1 : Int32} {v2 : Int32} {v3 : Int32} {v4 : Int32} {v5 : Int32} (h : KPS u0 u)  : KE u0 (hb_Ma_enter_0 N G u p v1 v2 v3 v4 v5) := by
  unfold hb_Ma_enter_0
  repeat' (first | with_reducible assumption | with_reducible refine KE_br ?_ ?_ | with_reducible refine KE_bnd ?_ (fun _ _ _ => ?_) | with_reducible refine KE_ck ?_ | with_reducible refine KE_ltm ?_ (fun _ _ => ?_) | with_reducible refine KE_some ?_ | with_reducible refine KE_boe (fun _ _ => ?_) | with_reducible exact zb_Ma_enter_37 (by assumption) | with_reducible exact zm_Fr_setPlace (by assumption) | with_reducible exact zm_Fr_replace (by assumption) | with_reducible exact zm_Fr_open (by assumption) | with_reducible refine KE_ltv (fun _ => ?_) | with_reducible refine KPS_I ?_ ?_ | with_reducible refine KPS_A ?_ ?_ | with_reducible refine KPS_J ?_ | with_reducible refine KPS_L ?_ | with_reducible refine KPS_N ?_ | with_reducible refine KPS_S ?_ | with_reducible refine KPS_gJ ?_ | with_reducible refine KPS_gI ?_ | omega | (unfold pq; omega) | exact KPS_o (by assumption) (by assumption))
theorem zm_Ma_enter {p : Nat} {v1 : Int32} {v2 : Int32} {v3 : Int32} {v4 : Int32} {v5 : Int32} (h : KPS u0 u) : KE u0 (hm_Ma_enter N u p v1 v2 v3 v4 v5) := by
  unfold hm_Ma_enter
  exact zb_Ma_enter_0 h
theorem zb_Ma_call_70 {G : Unit} {p : Nat} (h : KPS u0 u)  : KE u0 (hb_Ma_call_70 N G u p) := by
  unfold hb_Ma_call_70
  repeat' (first | with_reducible assumption | with_reducible refine KE_br ?_ ?_ | with_reducible refine KE_bnd ?_ (fun _ _ _ => ?_) | with_reducible refine KE_ck ?_ | with_reducible refine KE_ltm ?_ (fun _ _ => ?_) | with_reducible refine KE_some ?_ | with_reducible refine KE_boe (fun _ _ => ?_) | with_reducible refine KE_ltv (fun _ => ?_) | with_reducible refine KPS_I ?_ ?_ | with_reducible refine KPS_A ?_ ?_ | with_reducible refine KPS_J ?_ | with_reducible refine KPS_L ?_ | with_reducible refine KPS_N ?_ | with_reducible refine KPS_S ?_ | with_reducible refine KPS_gJ ?_ | with_reducible refine KPS_gI ?_ | omega | (unfold pq; omega) | exact KPS_o (by assumption) (by assumption))
theorem zb_Ma_call_0 {G : Unit} {p : Nat} {v1 : Int32} {v2 : Int32} (h : KPS u0 u)  : KE u0 (hb_Ma_call_0 N G u p v1 v2) := by
  unfold hb_Ma_call_0
  repeat' (first | with_reducible assumption | with_reducible refine KE_br ?_ ?_ | with_reducible refine KE_bnd ?_ (fun _ _ _ => ?_) | with_reducible refine KE_ck ?_ | with_reducible refine KE_ltm ?_ (fun _ _ => ?_) | with_reducible refine KE_some ?_ | with_reducible refine KE_boe (fun _ _ => ?_) | with_reducible exact zb_Ma_call_70 (by assumption) | with_reducible exact zm_Ma_begins (by assumption) | with_reducible exact zm_Ma_enter (by assumption) | with_reducible exact zm_Co_at (by assumption) | with_reducible refine KE_ltv (fun _ => ?_) | with_reducible refine KPS_I ?_ ?_ | with_reducible refine KPS_A ?_ ?_ | with_reducible refine KPS_J ?_ | with_reducible refine KPS_L ?_ | with_reducible refine KPS_N ?_ | with_reducible refine KPS_S ?_ | with_reducible refine KPS_gJ ?_ | with_reducible refine KPS_gI ?_ | omega | (unfold pq; omega) | exact KPS_o (by assumption) (by assumption))
theorem zm_Ma_call {p : Nat} {v1 : Int32} {v2 : Int32} (h : KPS u0 u) : KE u0 (hm_Ma_call N u p v1 v2) := by
  unfold hm_Ma_call
  exact zb_Ma_call_0 h
theorem zb_Fr_takeOut_39 {G : Unit} (h : KPS u0 u)  : KE u0 (hb_Fr_takeOut_39 N G u) := by
  unfold hb_Fr_takeOut_39
  repeat' (first | with_reducible assumption | with_reducible refine KE_br ?_ ?_ | with_reducible refine KE_bnd ?_ (fun _ _ _ => ?_) | with_reducible refine KE_ck ?_ | with_reducible refine KE_ltm ?_ (fun _ _ => ?_) | with_reducible refine KE_some ?_ | with_reducible refine KE_boe (fun _ _ => ?_) | with_reducible refine KE_ltv (fun _ => ?_) | with_reducible refine KPS_I ?_ ?_ | with_reducible refine KPS_A ?_ ?_ | with_reducible refine KPS_J ?_ | with_reducible refine KPS_L ?_ | with_reducible refine KPS_N ?_ | with_reducible refine KPS_S ?_ | with_reducible refine KPS_gJ ?_ | with_reducible refine KPS_gI ?_ | omega | (unfold pq; omega) | exact KPS_o (by assumption) (by assumption))
theorem zb_Fr_takeOut_0 {G : Unit} {v0 : Nat} {v1 : Int32} (h : KPS u0 u)  : KE u0 (hb_Fr_takeOut_0 N G u v0 v1) := by
  unfold hb_Fr_takeOut_0
  repeat' (first | with_reducible assumption | with_reducible refine KE_br ?_ ?_ | with_reducible refine KE_bnd ?_ (fun _ _ _ => ?_) | with_reducible refine KE_ck ?_ | with_reducible refine KE_ltm ?_ (fun _ _ => ?_) | with_reducible refine KE_some ?_ | with_reducible refine KE_boe (fun _ _ => ?_) | with_reducible exact zb_Fr_takeOut_39 (by assumption) | with_reducible refine KE_ltv (fun _ => ?_) | with_reducible refine KPS_I ?_ ?_ | with_reducible refine KPS_A ?_ ?_ | with_reducible refine KPS_J ?_ | with_reducible refine KPS_L ?_ | with_reducible refine KPS_N ?_ | with_reducible refine KPS_S ?_ | with_reducible refine KPS_gJ ?_ | with_reducible refine KPS_gI ?_ | omega | (unfold pq; omega) | exact KPS_o (by assumption) (by assumption))
theorem zm_Fr_takeOut {v0 : Nat} {v1 : Int32} (h : KPS u0 u) : KE u0 (hm_Fr_takeOut N u v0 v1) := by
  unfold hm_Fr_takeOut
  exact zb_Fr_takeOut_0 h
theorem zb_Ma_apply_0 {G : Unit} {p : Nat} {v1 : Int32} {v2 : Int32} (h : KPS u0 u)  : KE u0 (hb_Ma_apply_0 N G u p v1 v2) := by
  unfold hb_Ma_apply_0
  repeat' (first | with_reducible assumption | with_reducible refine KE_br ?_ ?_ | with_reducible refine KE_bnd ?_ (fun _ _ _ => ?_) | with_reducible refine KE_ck ?_ | with_reducible refine KE_ltm ?_ (fun _ _ => ?_) | with_reducible refine KE_some ?_ | with_reducible refine KE_boe (fun _ _ => ?_) | with_reducible exact zm_Ma_functionOf (by assumption) | with_reducible exact zm_Fr_takeOut (by assumption) | with_reducible exact zm_Ma_entryOf (by assumption) | with_reducible exact zm_Ma_begins (by assumption) | with_reducible exact zm_Co_takes (by assumption) | with_reducible exact zm_Fr_below (by assumption) | with_reducible exact zm_Ma_enter (by assumption) | with_reducible exact zm_Ma_hold (by assumption) | with_reducible exact zm_Ma_tell (by assumption) | with_reducible exact zm_Te_make (by assumption) | with_reducible exact zm_Te_tag (by assumption) | with_reducible exact zm_Co_at (by assumption) | with_reducible refine KE_ltv (fun _ => ?_) | with_reducible refine KPS_I ?_ ?_ | with_reducible refine KPS_A ?_ ?_ | with_reducible refine KPS_J ?_ | with_reducible refine KPS_L ?_ | with_reducible refine KPS_N ?_ | with_reducible refine KPS_S ?_ | with_reducible refine KPS_gJ ?_ | with_reducible refine KPS_gI ?_ | omega | (unfold pq; omega) | exact KPS_o (by assumption) (by assumption))
theorem zm_Ma_apply {p : Nat} {v1 : Int32} {v2 : Int32} (h : KPS u0 u) : KE u0 (hm_Ma_apply N u p v1 v2) := by
  unfold hm_Ma_apply
  exact zb_Ma_apply_0 h
theorem zb_Fr_catchTo_34 {G : Unit} {v0 : Nat} {v1 : Int32} {v2 : Int32} (h : KPS u0 u)  : KE u0 (hb_Fr_catchTo_34 N G u v0 v1 v2) := by
  unfold hb_Fr_catchTo_34
  repeat' (first | with_reducible assumption | with_reducible refine KE_br ?_ ?_ | with_reducible refine KE_bnd ?_ (fun _ _ _ => ?_) | with_reducible refine KE_ck ?_ | with_reducible refine KE_ltm ?_ (fun _ _ => ?_) | with_reducible refine KE_some ?_ | with_reducible refine KE_boe (fun _ _ => ?_) | with_reducible refine KE_ltv (fun _ => ?_) | with_reducible refine KPS_I ?_ ?_ | with_reducible refine KPS_A ?_ ?_ | with_reducible refine KPS_J ?_ | with_reducible refine KPS_L ?_ | with_reducible refine KPS_N ?_ | with_reducible refine KPS_S ?_ | with_reducible refine KPS_gJ ?_ | with_reducible refine KPS_gI ?_ | omega | (unfold pq; omega) | exact KPS_o (by assumption) (by assumption))
theorem zb_Fr_catchTo_0 {G : Unit} {v0 : Nat} {v1 : Int32} (h : KPS u0 u)  : KE u0 (hb_Fr_catchTo_0 N G u v0 v1) := by
  unfold hb_Fr_catchTo_0
  repeat' (first | with_reducible assumption | with_reducible refine KE_br ?_ ?_ | with_reducible refine KE_bnd ?_ (fun _ _ _ => ?_) | with_reducible refine KE_ck ?_ | with_reducible refine KE_ltm ?_ (fun _ _ => ?_) | with_reducible refine KE_some ?_ | with_reducible refine KE_boe (fun _ _ => ?_) | with_reducible exact zb_Fr_catchTo_34 (by assumption) | with_reducible refine KE_ltv (fun _ => ?_) | with_reducible refine KPS_I ?_ ?_ | with_reducible refine KPS_A ?_ ?_ | with_reducible refine KPS_J ?_ | with_reducible refine KPS_L ?_ | with_reducible refine KPS_N ?_ | with_reducible refine KPS_S ?_ | with_reducible refine KPS_gJ ?_ | with_reducible refine KPS_gI ?_ | omega | (unfold pq; omega) | exact KPS_o (by assumption) (by assumption))
theorem zm_Fr_catchTo {v0 : Nat} {v1 : Int32} (h : KPS u0 u) : KE u0 (hm_Fr_catchTo N u v0 v1) := by
  unfold hm_Fr_catchTo
  exact zb_Fr_catchTo_0 h
theorem zb_Ma_await_104 {G : Unit} {p : Nat} (h : KPS u0 u)  : KE u0 (hb_Ma_await_104 N G u p) := by
  unfold hb_Ma_await_104
  repeat' (first | with_reducible assumption | with_reducible refine KE_br ?_ ?_ | with_reducible refine KE_bnd ?_ (fun _ _ _ => ?_) | with_reducible refine KE_ck ?_ | with_reducible refine KE_ltm ?_ (fun _ _ => ?_) | with_reducible refine KE_some ?_ | with_reducible refine KE_boe (fun _ _ => ?_) | with_reducible refine KE_ltv (fun _ => ?_) | with_reducible refine KPS_I ?_ ?_ | with_reducible refine KPS_A ?_ ?_ | with_reducible refine KPS_J ?_ | with_reducible refine KPS_L ?_ | with_reducible refine KPS_N ?_ | with_reducible refine KPS_S ?_ | with_reducible refine KPS_gJ ?_ | with_reducible refine KPS_gI ?_ | omega | (unfold pq; omega) | exact KPS_o (by assumption) (by assumption))
theorem zb_Ma_await_96 {G : Unit} {p : Nat} (h : KPS u0 u)  : KE u0 (hb_Ma_await_96 N G u p) := by
  unfold hb_Ma_await_96
  repeat' (first | with_reducible assumption | with_reducible refine KE_br ?_ ?_ | with_reducible refine KE_bnd ?_ (fun _ _ _ => ?_) | with_reducible refine KE_ck ?_ | with_reducible refine KE_ltm ?_ (fun _ _ => ?_) | with_reducible refine KE_some ?_ | with_reducible refine KE_boe (fun _ _ => ?_) | with_reducible exact zb_Ma_await_104 (by assumption) | with_reducible exact zm_Fr_drop (by assumption) | with_reducible refine KE_ltv (fun _ => ?_) | with_reducible refine KPS_I ?_ ?_ | with_reducible refine KPS_A ?_ ?_ | with_reducible refine KPS_J ?_ | with_reducible refine KPS_L ?_ | with_reducible refine KPS_N ?_ | with_reducible refine KPS_S ?_ | with_reducible refine KPS_gJ ?_ | with_reducible refine KPS_gI ?_ | omega | (unfold pq; omega) | exact KPS_o (by assumption) (by assumption))
theorem zb_Ma_await_72 {G : Unit} {p : Nat} {v2 : Int64} {v4 : Int32} (h : KPS u0 u)  : KE u0 (hb_Ma_await_72 N G u p v2 v4) := by
  unfold hb_Ma_await_72
  repeat' (first | with_reducible assumption | with_reducible refine KE_br ?_ ?_ | with_reducible refine KE_bnd ?_ (fun _ _ _ => ?_) | with_reducible refine KE_ck ?_ | with_reducible refine KE_ltm ?_ (fun _ _ => ?_) | with_reducible refine KE_some ?_ | with_reducible refine KE_boe (fun _ _ => ?_) | with_reducible exact zb_Ma_await_96 (by assumption) | with_reducible refine KE_ltv (fun _ => ?_) | with_reducible refine KPS_I ?_ ?_ | with_reducible refine KPS_A ?_ ?_ | with_reducible refine KPS_J ?_ | with_reducible refine KPS_L ?_ | with_reducible refine KPS_N ?_ | with_reducible refine KPS_S ?_ | with_reducible refine KPS_gJ ?_ | with_reducible refine KPS_gI ?_ | omega | (unfold pq; omega) | exact KPS_o (by assumption) (by assumption))
theorem zb_Ma_await_48 {G : Unit} {p : Nat} {v2 : Int64} {t0 : Int32} (h : KPS u0 u)  : KE u0 (hb_Ma_await_48 N G u p v2 t0) := by
  unfold hb_Ma_await_48
  repeat' (first | with_reducible assumption | with_reducible refine KE_br ?_ ?_ | with_reducible refine KE_bnd ?_ (fun _ _ _ => ?_) | with_reducible refine KE_ck ?_ | with_reducible refine KE_ltm ?_ (fun _ _ => ?_) | with_reducible refine KE_some ?_ | with_reducible refine KE_boe (fun _ _ => ?_) | with_reducible exact zb_Ma_await_72 (by assumption) | with_reducible exact zm_Ma_wrong (by assumption) | with_reducible exact zm_Ma_atom (by assumption) | with_reducible refine KE_ltv (fun _ => ?_) | with_reducible refine KPS_I ?_ ?_ | with_reducible refine KPS_A ?_ ?_ | with_reducible refine KPS_J ?_ | with_reducible refine KPS_L ?_ | with_reducible refine KPS_N ?_ | with_reducible refine KPS_S ?_ | with_reducible refine KPS_gJ ?_ | with_reducible refine KPS_gI ?_ | omega | (unfold pq; omega) | exact KPS_o (by assumption) (by assumption))
theorem zb_Ma_await_47 {G : Unit} {p : Nat} {v2 : Int64} (h : KPS u0 u)  : KE u0 (hb_Ma_await_47 N G u p v2) := by
  unfold hb_Ma_await_47
  repeat' (first | with_reducible assumption | with_reducible refine KE_br ?_ ?_ | with_reducible refine KE_bnd ?_ (fun _ _ _ => ?_) | with_reducible refine KE_ck ?_ | with_reducible refine KE_ltm ?_ (fun _ _ => ?_) | with_reducible refine KE_some ?_ | with_reducible refine KE_boe (fun _ _ => ?_) | with_reducible exact zb_Ma_await_48 (by assumption) | with_reducible refine KE_ltv (fun _ => ?_) | with_reducible refine KPS_I ?_ ?_ | with_reducible refine KPS_A ?_ ?_ | with_reducible refine KPS_J ?_ | with_reducible refine KPS_L ?_ | with_reducible refine KPS_N ?_ | with_reducible refine KPS_S ?_ | with_reducible refine KPS_gJ ?_ | with_reducible refine KPS_gI ?_ | omega | (unfold pq; omega) | exact KPS_o (by assumption) (by assumption))
theorem zb_Ma_await_0 {G : Unit} {p : Nat} {v1 : Int32} (h : KPS u0 u)  : KE u0 (hb_Ma_await_0 N G u p v1) := by
  unfold hb_Ma_await_0
  repeat' (first | with_reducible assumption | with_reducible refine KE_br ?_ ?_ | with_reducible refine KE_bnd ?_ (fun _ _ _ => ?_) | with_reducible refine KE_ck ?_ | with_reducible refine KE_ltm ?_ (fun _ _ => ?_) | with_reducible refine KE_some ?_ | with_reducible refine KE_boe (fun _ _ => ?_) | with_reducible exact zb_Ma_await_104 (by assumption) | with_reducible exact zb_Ma_await_47 (by assumption) | with_reducible exact zb_Ma_await_48 (by assumption) | with_reducible exact zm_Fr_below (by assumption) | with_reducible exact zm_Te_tag (by assumption) | with_reducible refine KE_ltv (fun _ => ?_) | with_reducible refine KPS_I ?_ ?_ | with_reducible refine KPS_A ?_ ?_ | with_reducible refine KPS_J ?_ | with_reducible refine KPS_L ?_ | with_reducible refine KPS_N ?_ | with_reducible refine KPS_S ?_ | with_reducible refine KPS_gJ ?_ | with_reducible refine KPS_gI ?_ | omega | (unfold pq; omega) | exact KPS_o (by assumption) (by assumption))
theorem zm_Ma_await {p : Nat} {v1 : Int32} (h : KPS u0 u) : KE u0 (hm_Ma_await N u p v1) := by
  unfold hm_Ma_await
  exact zb_Ma_await_0 h
theorem zb_Pr_takeMessage_53 {G : Unit} {v0 : Nat} (h : KPS u0 u)  : KE u0 (hb_Pr_takeMessage_53 N G u v0) := by
  unfold hb_Pr_takeMessage_53
  repeat' (first | with_reducible assumption | with_reducible refine KE_br ?_ ?_ | with_reducible refine KE_bnd ?_ (fun _ _ _ => ?_) | with_reducible refine KE_ck ?_ | with_reducible refine KE_ltm ?_ (fun _ _ => ?_) | with_reducible refine KE_some ?_ | with_reducible refine KE_boe (fun _ _ => ?_) | with_reducible refine KE_ltv (fun _ => ?_) | with_reducible refine KPS_I ?_ ?_ | with_reducible refine KPS_A ?_ ?_ | with_reducible refine KPS_J ?_ | with_reducible refine KPS_L ?_ | with_reducible refine KPS_N ?_ | with_reducible refine KPS_S ?_ | with_reducible refine KPS_gJ ?_ | with_reducible refine KPS_gI ?_ | omega | (unfold pq; omega) | exact KPS_o (by assumption) (by assumption))
theorem zb_Pr_takeMessage_0 {G : Unit} {v0 : Nat} (h : KPS u0 u)  : KE u0 (hb_Pr_takeMessage_0 N G u v0) := by
  unfold hb_Pr_takeMessage_0
  repeat' (first | with_reducible assumption | with_reducible refine KE_br ?_ ?_ | with_reducible refine KE_bnd ?_ (fun _ _ _ => ?_) | with_reducible refine KE_ck ?_ | with_reducible refine KE_ltm ?_ (fun _ _ => ?_) | with_reducible refine KE_some ?_ | with_reducible refine KE_boe (fun _ _ => ?_) | with_reducible exact zb_Pr_takeMessage_53 (by assumption) | with_reducible refine KE_ltv (fun _ => ?_) | with_reducible refine KPS_I ?_ ?_ | with_reducible refine KPS_A ?_ ?_ | with_reducible refine KPS_J ?_ | with_reducible refine KPS_L ?_ | with_reducible refine KPS_N ?_ | with_reducible refine KPS_S ?_ | with_reducible refine KPS_gJ ?_ | with_reducible refine KPS_gI ?_ | omega | (unfold pq; omega) | exact KPS_o (by assumption) (by assumption))
theorem zm_Pr_takeMessage {v0 : Nat} (h : KPS u0 u) : KE u0 (hm_Pr_takeMessage N u v0) := by
  unfold hm_Pr_takeMessage
  exact zb_Pr_takeMessage_0 h
theorem zb_Ma_returns_0 {G : Unit} {p : Nat} (h : KPS u0 u)  : KE u0 (hb_Ma_returns_0 N G u p) := by
  unfold hb_Ma_returns_0
  repeat' (first | with_reducible assumption | with_reducible refine KE_br ?_ ?_ | with_reducible refine KE_bnd ?_ (fun _ _ _ => ?_) | with_reducible refine KE_ck ?_ | with_reducible refine KE_ltm ?_ (fun _ _ => ?_) | with_reducible refine KE_some ?_ | with_reducible refine KE_boe (fun _ _ => ?_) | with_reducible exact zm_Wl_endsBy (by assumption) | with_reducible exact zm_Fr_below (by assumption) | with_reducible exact zm_Fr_leave (by assumption) | with_reducible exact zm_Fr_place (by assumption) | with_reducible exact zm_Fr_push (by assumption) | with_reducible refine KE_ltv (fun _ => ?_) | with_reducible refine KPS_I ?_ ?_ | with_reducible refine KPS_A ?_ ?_ | with_reducible refine KPS_J ?_ | with_reducible refine KPS_L ?_ | with_reducible refine KPS_N ?_ | with_reducible refine KPS_S ?_ | with_reducible refine KPS_gJ ?_ | with_reducible refine KPS_gI ?_ | omega | (unfold pq; omega) | exact KPS_o (by assumption) (by assumption))
theorem zm_Ma_returns {p : Nat} (h : KPS u0 u) : KE u0 (hm_Ma_returns N u p) := by
  unfold hm_Ma_returns
  exact zb_Ma_returns_0 h
theorem zb_Ma_waitOrLeave_162 {G : Unit} {p : Nat} (h : KPS u0 u)  : KE u0 (hb_Ma_waitOrLeave_162 N G u p) := by
  unfold hb_Ma_waitOrLeave_162
  repeat' (first | with_reducible assumption | with_reducible refine KE_br ?_ ?_ | with_reducible refine KE_bnd ?_ (fun _ _ _ => ?_) | with_reducible refine KE_ck ?_ | with_reducible refine KE_ltm ?_ (fun _ _ => ?_) | with_reducible refine KE_some ?_ | with_reducible refine KE_boe (fun _ _ => ?_) | with_reducible refine KE_ltv (fun _ => ?_) | with_reducible refine KPS_I ?_ ?_ | with_reducible refine KPS_A ?_ ?_ | with_reducible refine KPS_J ?_ | with_reducible refine KPS_L ?_ | with_reducible refine KPS_N ?_ | with_reducible refine KPS_S ?_ | with_reducible refine KPS_gJ ?_ | with_reducible refine KPS_gI ?_ | omega | (unfold pq; omega) | exact KPS_o (by assumption) (by assumption))
theorem zb_Ma_waitOrLeave_59 {G : Unit} {p : Nat} {t1 : Int32} (h : KPS u0 u)  : KE u0 (hb_Ma_waitOrLeave_59 N G u p t1) := by
  unfold hb_Ma_waitOrLeave_59
  repeat' (first | with_reducible assumption | with_reducible refine KE_br ?_ ?_ | with_reducible refine KE_bnd ?_ (fun _ _ _ => ?_) | with_reducible refine KE_ck ?_ | with_reducible refine KE_ltm ?_ (fun _ _ => ?_) | with_reducible refine KE_some ?_ | with_reducible refine KE_boe (fun _ _ => ?_) | with_reducible exact zb_Ma_waitOrLeave_162 (by assumption) | with_reducible exact zm_Ma_await (by assumption) | with_reducible refine KE_ltv (fun _ => ?_) | with_reducible refine KPS_I ?_ ?_ | with_reducible refine KPS_A ?_ ?_ | with_reducible refine KPS_J ?_ | with_reducible refine KPS_L ?_ | with_reducible refine KPS_N ?_ | with_reducible refine KPS_S ?_ | with_reducible refine KPS_gJ ?_ | with_reducible refine KPS_gI ?_ | omega | (unfold pq; omega) | exact KPS_o (by assumption) (by assumption))
theorem zb_Ma_waitOrLeave_0 {G : Unit} {p : Nat} {v1 : Int32} {v2 : Int32} (h : KPS u0 u)  : KE u0 (hb_Ma_waitOrLeave_0 N G u p v1 v2) := by
  unfold hb_Ma_waitOrLeave_0
  repeat' (first | with_reducible assumption | with_reducible refine KE_br ?_ ?_ | with_reducible refine KE_bnd ?_ (fun _ _ _ => ?_) | with_reducible refine KE_ck ?_ | with_reducible refine KE_ltm ?_ (fun _ _ => ?_) | with_reducible refine KE_some ?_ | with_reducible refine KE_boe (fun _ _ => ?_) | with_reducible exact zb_Ma_waitOrLeave_162 (by assumption) | with_reducible exact zb_Ma_waitOrLeave_59 (by assumption) | with_reducible exact zm_Ma_nextMessage (by assumption) | with_reducible exact zm_Pr_takeMessage (by assumption) | with_reducible exact zm_Ma_returns (by assumption) | with_reducible exact zm_Fr_below (by assumption) | with_reducible exact zm_Ma_wrong (by assumption) | with_reducible exact zm_Ma_tell (by assumption) | with_reducible refine KE_ltv (fun _ => ?_) | with_reducible refine KPS_I ?_ ?_ | with_reducible refine KPS_A ?_ ?_ | with_reducible refine KPS_J ?_ | with_reducible refine KPS_L ?_ | with_reducible refine KPS_N ?_ | with_reducible refine KPS_S ?_ | with_reducible refine KPS_gJ ?_ | with_reducible refine KPS_gI ?_ | omega | (unfold pq; omega) | exact KPS_o (by assumption) (by assumption))
theorem zm_Ma_waitOrLeave {p : Nat} {v1 : Int32} {v2 : Int32} (h : KPS u0 u) : KE u0 (hm_Ma_waitOrLeave N u p v1 v2) := by
  unfold hm_Ma_waitOrLeave
  exact zb_Ma_waitOrLeave_0 h
theorem zb_Ma_flow_343 {G : Unit} {p : Nat} (h : KPS u0 u)  : KE u0 (hb_Ma_flow_343 N G u p) := by
  unfold hb_Ma_flow_343
  repeat' (first | with_reducible assumption | with_reducible refine KE_br ?_ ?_ | with_reducible refine KE_bnd ?_ (fun _ _ _ => ?_) | with_reducible refine KE_ck ?_ | with_reducible refine KE_ltm ?_ (fun _ _ => ?_) | with_reducible refine KE_some ?_ | with_reducible refine KE_boe (fun _ _ => ?_) | with_reducible refine KE_ltv (fun _ => ?_) | with_reducible refine KPS_I ?_ ?_ | with_reducible refine KPS_A ?_ ?_ | with_reducible refine KPS_J ?_ | with_reducible refine KPS_L ?_ | with_reducible refine KPS_N ?_ | with_reducible refine KPS_S ?_ | with_reducible refine KPS_gJ ?_ | with_reducible refine KPS_gI ?_ | omega | (unfold pq; omega) | exact KPS_o (by assumption) (by assumption))
theorem zb_Ma_flow_284 {G : Unit} {p : Nat} {t1 : Int32} {t2 : Int32} (h : KPS u0 u)  : KE u0 (hb_Ma_flow_284 N G u p t1 t2) := by
  unfold hb_Ma_flow_284
  repeat' (first | with_reducible assumption | with_reducible refine KE_br ?_ ?_ | with_reducible refine KE_bnd ?_ (fun _ _ _ => ?_) | with_reducible refine KE_ck ?_ | with_reducible refine KE_ltm ?_ (fun _ _ => ?_) | with_reducible refine KE_some ?_ | with_reducible refine KE_boe (fun _ _ => ?_) | with_reducible exact zb_Ma_flow_343 (by assumption) | with_reducible exact zm_Ma_apply (by assumption) | with_reducible refine KE_ltv (fun _ => ?_) | with_reducible refine KPS_I ?_ ?_ | with_reducible refine KPS_A ?_ ?_ | with_reducible refine KPS_J ?_ | with_reducible refine KPS_L ?_ | with_reducible refine KPS_N ?_ | with_reducible refine KPS_S ?_ | with_reducible refine KPS_gJ ?_ | with_reducible refine KPS_gI ?_ | omega | (unfold pq; omega) | exact KPS_o (by assumption) (by assumption))
theorem zb_Ma_flow_265 {G : Unit} {p : Nat} {t1 : Int32} {t2 : Int32} (h : KPS u0 u)  : KE u0 (hb_Ma_flow_265 N G u p t1 t2) := by
  unfold hb_Ma_flow_265
  repeat' (first | with_reducible assumption | with_reducible refine KE_br ?_ ?_ | with_reducible refine KE_bnd ?_ (fun _ _ _ => ?_) | with_reducible refine KE_ck ?_ | with_reducible refine KE_ltm ?_ (fun _ _ => ?_) | with_reducible refine KE_some ?_ | with_reducible refine KE_boe (fun _ _ => ?_) | with_reducible exact zb_Ma_flow_343 (by assumption) | with_reducible exact zm_Ma_call (by assumption) | with_reducible refine KE_ltv (fun _ => ?_) | with_reducible refine KPS_I ?_ ?_ | with_reducible refine KPS_A ?_ ?_ | with_reducible refine KPS_J ?_ | with_reducible refine KPS_L ?_ | with_reducible refine KPS_N ?_ | with_reducible refine KPS_S ?_ | with_reducible refine KPS_gJ ?_ | with_reducible refine KPS_gI ?_ | omega | (unfold pq; omega) | exact KPS_o (by assumption) (by assumption))
theorem zb_Ma_flow_0 {G : Unit} {p : Nat} {v1 : Int32} (h : KPS u0 u)  : KE u0 (hb_Ma_flow_0 N G u p v1) := by
  unfold hb_Ma_flow_0
  repeat' (first | with_reducible assumption | with_reducible refine KE_br ?_ ?_ | with_reducible refine KE_bnd ?_ (fun _ _ _ => ?_) | with_reducible refine KE_ck ?_ | with_reducible refine KE_ltm ?_ (fun _ _ => ?_) | with_reducible refine KE_some ?_ | with_reducible refine KE_boe (fun _ _ => ?_) | with_reducible exact zm_Ma_waitOrLeave (by assumption) | with_reducible exact zm_Ma_guardFails (by assumption) | with_reducible exact zb_Ma_flow_265 (by assumption) | with_reducible exact zb_Ma_flow_284 (by assumption) | with_reducible exact zb_Ma_flow_343 (by assumption) | with_reducible exact zm_Fr_catchTo (by assumption) | with_reducible exact zm_Fr_setLine (by assumption) | with_reducible exact zm_Fr_below (by assumption) | with_reducible exact zm_Ma_match (by assumption) | with_reducible exact zm_Ma_tries (by assumption) | with_reducible exact zm_Fr_drop (by assumption) | with_reducible exact zm_Ma_atom (by assumption) | with_reducible exact zm_Co_at (by assumption) | with_reducible refine KE_ltv (fun _ => ?_) | with_reducible refine KPS_I ?_ ?_ | with_reducible refine KPS_A ?_ ?_ | with_reducible refine KPS_J ?_ | with_reducible refine KPS_L ?_ | with_reducible refine KPS_N ?_ | with_reducible refine KPS_S ?_ | with_reducible refine KPS_gJ ?_ | with_reducible refine KPS_gI ?_ | omega | (unfold pq; omega) | exact KPS_o (by assumption) (by assumption))
theorem zm_Ma_flow {p : Nat} {v1 : Int32} (h : KPS u0 u) : KE u0 (hm_Ma_flow N u p v1) := by
  unfold hm_Ma_flow
  exact zb_Ma_flow_0 h
theorem zb_Ma_wrap_0 {G : Unit} {p : Nat} {v1 : Int32} (h : KPS u0 u)  : KE u0 (hb_Ma_wrap_0 N G u p v1) := by
  unfold hb_Ma_wrap_0
  repeat' (first | with_reducible assumption | with_reducible refine KE_br ?_ ?_ | with_reducible refine KE_bnd ?_ (fun _ _ _ => ?_) | with_reducible refine KE_ck ?_ | with_reducible refine KE_ltm ?_ (fun _ _ => ?_) | with_reducible refine KE_some ?_ | with_reducible refine KE_boe (fun _ _ => ?_) | with_reducible exact zm_Ma_answer (by assumption) | with_reducible exact zm_Fr_below (by assumption) | with_reducible exact zm_Ma_room (by assumption) | with_reducible exact zm_Pr_pair (by assumption) | with_reducible refine KE_ltv (fun _ => ?_) | with_reducible refine KPS_I ?_ ?_ | with_reducible refine KPS_A ?_ ?_ | with_reducible refine KPS_J ?_ | with_reducible refine KPS_L ?_ | with_reducible refine KPS_N ?_ | with_reducible refine KPS_S ?_ | with_reducible refine KPS_gJ ?_ | with_reducible refine KPS_gI ?_ | omega | (unfold pq; omega) | exact KPS_o (by assumption) (by assumption))
theorem zm_Ma_wrap {p : Nat} {v1 : Int32} (h : KPS u0 u) : KE u0 (hm_Ma_wrap N u p v1) := by
  unfold hm_Ma_wrap
  exact zb_Ma_wrap_0 h
theorem zb_Ma_raise_172 {G : Unit} {p : Nat} (h : KPS u0 u)  : KE u0 (hb_Ma_raise_172 N G u p) := by
  unfold hb_Ma_raise_172
  repeat' (first | with_reducible assumption | with_reducible refine KE_br ?_ ?_ | with_reducible refine KE_bnd ?_ (fun _ _ _ => ?_) | with_reducible refine KE_ck ?_ | with_reducible refine KE_ltm ?_ (fun _ _ => ?_) | with_reducible refine KE_some ?_ | with_reducible refine KE_boe (fun _ _ => ?_) | with_reducible refine KE_ltv (fun _ => ?_) | with_reducible refine KPS_I ?_ ?_ | with_reducible refine KPS_A ?_ ?_ | with_reducible refine KPS_J ?_ | with_reducible refine KPS_L ?_ | with_reducible refine KPS_N ?_ | with_reducible refine KPS_S ?_ | with_reducible refine KPS_gJ ?_ | with_reducible refine KPS_gI ?_ | omega | (unfold pq; omega) | exact KPS_o (by assumption) (by assumption))
theorem zb_Ma_raise_168 {G : Unit} {p : Nat} {t1 : Int32} (h : KPS u0 u)  : KE u0 (hb_Ma_raise_168 N G u p t1) := by
  unfold hb_Ma_raise_168
  repeat' (first | with_reducible assumption | with_reducible refine KE_br ?_ ?_ | with_reducible refine KE_bnd ?_ (fun _ _ _ => ?_) | with_reducible refine KE_ck ?_ | with_reducible refine KE_ltm ?_ (fun _ _ => ?_) | with_reducible refine KE_some ?_ | with_reducible refine KE_boe (fun _ _ => ?_) | with_reducible exact zb_Ma_raise_172 (by assumption) | with_reducible exact zm_Ma_wrap (by assumption) | with_reducible refine KE_ltv (fun _ => ?_) | with_reducible refine KPS_I ?_ ?_ | with_reducible refine KPS_A ?_ ?_ | with_reducible refine KPS_J ?_ | with_reducible refine KPS_L ?_ | with_reducible refine KPS_N ?_ | with_reducible refine KPS_S ?_ | with_reducible refine KPS_gJ ?_ | with_reducible refine KPS_gI ?_ | omega | (unfold pq; omega) | exact KPS_o (by assumption) (by assumption))
theorem zb_Ma_raise_110 {G : Unit} {p : Nat} {t0 : Int64} (h : KPS u0 u)  : KE u0 (hb_Ma_raise_110 N G u p t0) := by
  unfold hb_Ma_raise_110
  repeat' (first | with_reducible assumption | with_reducible refine KE_br ?_ ?_ | with_reducible refine KE_bnd ?_ (fun _ _ _ => ?_) | with_reducible refine KE_ck ?_ | with_reducible refine KE_ltm ?_ (fun _ _ => ?_) | with_reducible refine KE_some ?_ | with_reducible refine KE_boe (fun _ _ => ?_) | with_reducible exact zm_Wl_endsWith (by assumption) | with_reducible refine KE_ltv (fun _ => ?_) | with_reducible refine KPS_I ?_ ?_ | with_reducible refine KPS_A ?_ ?_ | with_reducible refine KPS_J ?_ | with_reducible refine KPS_L ?_ | with_reducible refine KPS_N ?_ | with_reducible refine KPS_S ?_ | with_reducible refine KPS_gJ ?_ | with_reducible refine KPS_gI ?_ | omega | (unfold pq; omega) | exact KPS_o (by assumption) (by assumption))
theorem zb_Ma_raise_103 {G : Unit} {p : Nat} {t0 : Nat} {t1 : Int32} (h : KPS u0 u)  : KE u0 (hb_Ma_raise_103 N G u p t0 t1) := by
  unfold hb_Ma_raise_103
  repeat' (first | with_reducible assumption | with_reducible refine KE_br ?_ ?_ | with_reducible refine KE_bnd ?_ (fun _ _ _ => ?_) | with_reducible refine KE_ck ?_ | with_reducible refine KE_ltm ?_ (fun _ _ => ?_) | with_reducible refine KE_some ?_ | with_reducible refine KE_boe (fun _ _ => ?_) | with_reducible exact zb_Ma_raise_110 (by assumption) | with_reducible exact zm_Pr_pair (by assumption) | with_reducible refine KE_ltv (fun _ => ?_) | with_reducible refine KPS_I ?_ ?_ | with_reducible refine KPS_A ?_ ?_ | with_reducible refine KPS_J ?_ | with_reducible refine KPS_L ?_ | with_reducible refine KPS_N ?_ | with_reducible refine KPS_S ?_ | with_reducible refine KPS_gJ ?_ | with_reducible refine KPS_gI ?_ | omega | (unfold pq; omega) | exact KPS_o (by assumption) (by assumption))
theorem zb_Ma_raise_65 {G : Unit} {p : Nat} {v1 : Int32} (h : KPS u0 u)  : KE u0 (hb_Ma_raise_65 N G u p v1) := by
  unfold hb_Ma_raise_65
  repeat' (first | with_reducible assumption | with_reducible refine KE_br ?_ ?_ | with_reducible refine KE_bnd ?_ (fun _ _ _ => ?_) | with_reducible refine KE_ck ?_ | with_reducible refine KE_ltm ?_ (fun _ _ => ?_) | with_reducible refine KE_some ?_ | with_reducible refine KE_boe (fun _ _ => ?_) | with_reducible exact zb_Ma_raise_103 (by assumption) | with_reducible exact zb_Ma_raise_110 (by assumption) | with_reducible exact zb_Ma_raise_168 (by assumption) | with_reducible exact zb_Ma_raise_172 (by assumption) | with_reducible exact zm_Fr_unwind (by assumption) | with_reducible exact zm_Fr_push (by assumption) | with_reducible refine KE_ltv (fun _ => ?_) | with_reducible refine KPS_I ?_ ?_ | with_reducible refine KPS_A ?_ ?_ | with_reducible refine KPS_J ?_ | with_reducible refine KPS_L ?_ | with_reducible refine KPS_N ?_ | with_reducible refine KPS_S ?_ | with_reducible refine KPS_gJ ?_ | with_reducible refine KPS_gI ?_ | omega | (unfold pq; omega) | exact KPS_o (by assumption) (by assumption))
theorem zb_Ma_raise_0 {G : Unit} {p : Nat} (h : KPS u0 u)  : KE u0 (hb_Ma_raise_0 N G u p) := by
  unfold hb_Ma_raise_0
  repeat' (first | with_reducible assumption | with_reducible refine KE_br ?_ ?_ | with_reducible refine KE_bnd ?_ (fun _ _ _ => ?_) | with_reducible refine KE_ck ?_ | with_reducible refine KE_ltm ?_ (fun _ _ => ?_) | with_reducible refine KE_some ?_ | with_reducible refine KE_boe (fun _ _ => ?_) | with_reducible exact zm_Ma_guardFails (by assumption) | with_reducible exact zb_Ma_raise_65 (by assumption) | with_reducible exact zm_Fr_below (by assumption) | with_reducible exact zm_Fr_push (by assumption) | with_reducible exact zm_Ma_wrap (by assumption) | with_reducible refine KE_ltv (fun _ => ?_) | with_reducible refine KPS_I ?_ ?_ | with_reducible refine KPS_A ?_ ?_ | with_reducible refine KPS_J ?_ | with_reducible refine KPS_L ?_ | with_reducible refine KPS_N ?_ | with_reducible refine KPS_S ?_ | with_reducible refine KPS_gJ ?_ | with_reducible refine KPS_gI ?_ | omega | (unfold pq; omega) | exact KPS_o (by assumption) (by assumption))
theorem zm_Ma_raise {p : Nat} (h : KPS u0 u) : KE u0 (hm_Ma_raise N u p) := by
  unfold hm_Ma_raise
  exact zb_Ma_raise_0 h
theorem zb_Wl_tellWatchers_92 {G : (MS → Nat → Int32 → Int32 → Option (MS × Unit))} {v1 : Nat} {v2 : Int32} {v3 : Int32} (h : KPS u0 u) (hG0 : ∀ (u : MS) a0 a1 a2, KPS u0 u → KE u0 (G u a0 a1 a2)) : KE u0 (hb_Wl_tellWatchers_92 N G u v1 v2 v3) := by
  unfold hb_Wl_tellWatchers_92
  repeat' (first | with_reducible assumption | with_reducible refine KE_br ?_ ?_ | with_reducible refine KE_bnd ?_ (fun _ _ _ => ?_) | with_reducible refine KE_ck ?_ | with_reducible refine KE_ltm ?_ (fun _ _ => ?_) | with_reducible refine KE_some ?_ | with_reducible refine KE_boe (fun _ _ => ?_) | with_reducible exact hG0 _ _ _ _ (by assumption) | with_reducible refine KE_ltv (fun _ => ?_) | with_reducible refine KPS_I ?_ ?_ | with_reducible refine KPS_A ?_ ?_ | with_reducible refine KPS_J ?_ | with_reducible refine KPS_L ?_ | with_reducible refine KPS_N ?_ | with_reducible refine KPS_S ?_ | with_reducible refine KPS_gJ ?_ | with_reducible refine KPS_gI ?_ | omega | (unfold pq; omega) | exact KPS_o (by assumption) (by assumption))
theorem zb_Wl_tellWatchers_70 {G : (MS → Nat → Int32 → Int32 → Option (MS × Unit))} {v1 : Nat} {v2 : Int32} {v3 : Int32} (h : KPS u0 u) (hG0 : ∀ (u : MS) a0 a1 a2, KPS u0 u → KE u0 (G u a0 a1 a2)) : KE u0 (hb_Wl_tellWatchers_70 N G u v1 v2 v3) := by
  unfold hb_Wl_tellWatchers_70
  repeat' (first | with_reducible assumption | with_reducible refine KE_br ?_ ?_ | with_reducible refine KE_bnd ?_ (fun _ _ _ => ?_) | with_reducible refine KE_ck ?_ | with_reducible refine KE_ltm ?_ (fun _ _ => ?_) | with_reducible refine KE_some ?_ | with_reducible refine KE_boe (fun _ _ => ?_) | with_reducible exact zb_Wl_tellWatchers_92 (by assumption) hG0 | with_reducible exact zm_Wl_keepWatch (by assumption) | with_reducible exact hG0 _ _ _ _ (by assumption) | with_reducible refine KE_ltv (fun _ => ?_) | with_reducible refine KPS_I ?_ ?_ | with_reducible refine KPS_A ?_ ?_ | with_reducible refine KPS_J ?_ | with_reducible refine KPS_L ?_ | with_reducible refine KPS_N ?_ | with_reducible refine KPS_S ?_ | with_reducible refine KPS_gJ ?_ | with_reducible refine KPS_gI ?_ | omega | (unfold pq; omega) | exact KPS_o (by assumption) (by assumption))
theorem zb_Wl_tellWatchers_4 {G : (MS → Nat → Int32 → Int32 → Option (MS × Unit))} {v1 : Nat} {v2 : Int32} {v3 : Int32} (h : KPS u0 u) (hG0 : ∀ (u : MS) a0 a1 a2, KPS u0 u → KE u0 (G u a0 a1 a2)) : KE u0 (hb_Wl_tellWatchers_4 N G u v1 v2 v3) := by
  unfold hb_Wl_tellWatchers_4
  repeat' (first | with_reducible assumption | with_reducible refine KE_br ?_ ?_ | with_reducible refine KE_bnd ?_ (fun _ _ _ => ?_) | with_reducible refine KE_ck ?_ | with_reducible refine KE_ltm ?_ (fun _ _ => ?_) | with_reducible refine KE_some ?_ | with_reducible refine KE_boe (fun _ _ => ?_) | with_reducible exact zb_Wl_tellWatchers_70 (by assumption) hG0 | with_reducible exact zb_Wl_tellWatchers_92 (by assumption) hG0 | with_reducible exact zm_Wl_find (by assumption) | with_reducible exact zm_Wl_post (by assumption) | with_reducible exact hG0 _ _ _ _ (by assumption) | with_reducible refine KE_ltv (fun _ => ?_) | with_reducible refine KPS_I ?_ ?_ | with_reducible refine KPS_A ?_ ?_ | with_reducible refine KPS_J ?_ | with_reducible refine KPS_L ?_ | with_reducible refine KPS_N ?_ | with_reducible refine KPS_S ?_ | with_reducible refine KPS_gJ ?_ | with_reducible refine KPS_gI ?_ | omega | (unfold pq; omega) | exact KPS_o (by assumption) (by assumption))
theorem zb_Wl_tellWatchers_0 {G : (MS → Nat → Int32 → Int32 → Option (MS × Unit))} {v1 : Nat} (h : KPS u0 u) (hG0 : ∀ (u : MS) a0 a1 a2, KPS u0 u → KE u0 (G u a0 a1 a2)) : KE u0 (hb_Wl_tellWatchers_0 N G u v1) := by
  unfold hb_Wl_tellWatchers_0
  repeat' (first | with_reducible assumption | with_reducible refine KE_br ?_ ?_ | with_reducible refine KE_bnd ?_ (fun _ _ _ => ?_) | with_reducible refine KE_ck ?_ | with_reducible refine KE_ltm ?_ (fun _ _ => ?_) | with_reducible refine KE_some ?_ | with_reducible refine KE_boe (fun _ _ => ?_) | with_reducible exact hG0 _ _ _ _ (by assumption) | with_reducible refine KE_ltv (fun _ => ?_) | with_reducible refine KPS_I ?_ ?_ | with_reducible refine KPS_A ?_ ?_ | with_reducible refine KPS_J ?_ | with_reducible refine KPS_L ?_ | with_reducible refine KPS_N ?_ | with_reducible refine KPS_S ?_ | with_reducible refine KPS_gJ ?_ | with_reducible refine KPS_gI ?_ | omega | (unfold pq; omega) | exact KPS_o (by assumption) (by assumption))
theorem zg_Wl_tellWatchers (n : Nat) : (∀ (u : MS) a0 a1 a2, KPS u0 u → KE u0 ((hg_Wl_tellWatchers N n) u a0 a1 a2)) := by
  induction n with
  | zero => exact fun _ _ _ _ _ => KE_none
  | succ n ih => exact fun _ _ _ _ h => zb_Wl_tellWatchers_4 (N := N) h ih
theorem zm_Wl_tellWatchers {v1 : Nat} (h : KPS u0 u) : KE u0 (hm_Wl_tellWatchers N u v1) := by
  unfold hm_Wl_tellWatchers
  exact zb_Wl_tellWatchers_0 h (zg_Wl_tellWatchers N)
theorem zb_Wl_settle_104 {G : (MS → Option (MS × Unit)) × (MS → Nat → Int32 → Option (MS × Unit))} (h : KPS u0 u) (hG0 : ∀ (u : MS), KPS u0 u → KE u0 (G.1 u)) (hG1 : ∀ (u : MS) a0 a1, KPS u0 u → KE u0 (G.2 u a0 a1)) : KE u0 (hb_Wl_settle_104 N G u) := by
  unfold hb_Wl_settle_104
  repeat' (first | with_reducible assumption | with_reducible refine KE_br ?_ ?_ | with_reducible refine KE_bnd ?_ (fun _ _ _ => ?_) | with_reducible refine KE_ck ?_ | with_reducible refine KE_ltm ?_ (fun _ _ => ?_) | with_reducible refine KE_some ?_ | with_reducible refine KE_boe (fun _ _ => ?_) | with_reducible exact hG0 _ (by assumption) | with_reducible exact hG1 _ _ _ (by assumption) | with_reducible refine KE_ltv (fun _ => ?_) | with_reducible refine KPS_I ?_ ?_ | with_reducible refine KPS_A ?_ ?_ | with_reducible refine KPS_J ?_ | with_reducible refine KPS_L ?_ | with_reducible refine KPS_N ?_ | with_reducible refine KPS_S ?_ | with_reducible refine KPS_gJ ?_ | with_reducible refine KPS_gI ?_ | omega | (unfold pq; omega) | exact KPS_o (by assumption) (by assumption))
theorem zb_Wl_settle_88 {G : (MS → Option (MS × Unit)) × (MS → Nat → Int32 → Option (MS × Unit))} {v1 : Nat} {v2 : Int32} (h : KPS u0 u) (hG0 : ∀ (u : MS), KPS u0 u → KE u0 (G.1 u)) (hG1 : ∀ (u : MS) a0 a1, KPS u0 u → KE u0 (G.2 u a0 a1)) : KE u0 (hb_Wl_settle_88 N G u v1 v2) := by
  unfold hb_Wl_settle_88
  repeat' (first | with_reducible assumption | with_reducible refine KE_br ?_ ?_ | with_reducible refine KE_bnd ?_ (fun _ _ _ => ?_) | with_reducible refine KE_ck ?_ | with_reducible refine KE_ltm ?_ (fun _ _ => ?_) | with_reducible refine KE_some ?_ | with_reducible refine KE_boe (fun _ _ => ?_) | with_reducible exact hG0 _ (by assumption) | with_reducible exact hG1 _ _ _ (by assumption) | with_reducible refine KE_ltv (fun _ => ?_) | with_reducible refine KPS_I ?_ ?_ | with_reducible refine KPS_A ?_ ?_ | with_reducible refine KPS_J ?_ | with_reducible refine KPS_L ?_ | with_reducible refine KPS_N ?_ | with_reducible refine KPS_S ?_ | with_reducible refine KPS_gJ ?_ | with_reducible refine KPS_gI ?_ | omega | (unfold pq; omega) | exact KPS_o (by assumption) (by assumption))
theorem zb_Wl_settle_40 {G : (MS → Option (MS × Unit)) × (MS → Nat → Int32 → Option (MS × Unit))} {v1 : Nat} {v2 : Int32} (h : KPS u0 u) (hG0 : ∀ (u : MS), KPS u0 u → KE u0 (G.1 u)) (hG1 : ∀ (u : MS) a0 a1, KPS u0 u → KE u0 (G.2 u a0 a1)) : KE u0 (hb_Wl_settle_40 N G u v1 v2) := by
  unfold hb_Wl_settle_40
  repeat' (first | with_reducible assumption | with_reducible refine KE_br ?_ ?_ | with_reducible refine KE_bnd ?_ (fun _ _ _ => ?_) | with_reducible refine KE_ck ?_ | with_reducible refine KE_ltm ?_ (fun _ _ => ?_) | with_reducible refine KE_some ?_ | with_reducible refine KE_boe (fun _ _ => ?_) | with_reducible exact zb_Wl_settle_104 (by assumption) hG0 hG1 | with_reducible exact zb_Wl_settle_88 (by assumption) hG0 hG1 | with_reducible exact zm_Wl_tellWatchers (by assumption) | with_reducible exact zm_Pr_removeLink (by assumption) | with_reducible exact zm_Wl_signal (by assumption) | with_reducible exact zm_Wl_find (by assumption) | with_reducible exact hG0 _ (by assumption) | with_reducible exact hG1 _ _ _ (by assumption) | with_reducible refine KE_ltv (fun _ => ?_) | with_reducible refine KPS_I ?_ ?_ | with_reducible refine KPS_A ?_ ?_ | with_reducible refine KPS_J ?_ | with_reducible refine KPS_L ?_ | with_reducible refine KPS_N ?_ | with_reducible refine KPS_S ?_ | with_reducible refine KPS_gJ ?_ | with_reducible refine KPS_gI ?_ | omega | (unfold pq; omega) | exact KPS_o (by assumption) (by assumption))
theorem zb_Wl_settle_0 {G : (MS → Option (MS × Unit)) × (MS → Nat → Int32 → Option (MS × Unit))} (h : KPS u0 u) (hG0 : ∀ (u : MS), KPS u0 u → KE u0 (G.1 u)) (hG1 : ∀ (u : MS) a0 a1, KPS u0 u → KE u0 (G.2 u a0 a1)) : KE u0 (hb_Wl_settle_0 N G u) := by
  unfold hb_Wl_settle_0
  repeat' (first | with_reducible assumption | with_reducible refine KE_br ?_ ?_ | with_reducible refine KE_bnd ?_ (fun _ _ _ => ?_) | with_reducible refine KE_ck ?_ | with_reducible refine KE_ltm ?_ (fun _ _ => ?_) | with_reducible refine KE_some ?_ | with_reducible refine KE_boe (fun _ _ => ?_) | with_reducible exact zb_Wl_settle_104 (by assumption) hG0 hG1 | with_reducible exact hG0 _ (by assumption) | with_reducible exact hG1 _ _ _ (by assumption) | with_reducible refine KE_ltv (fun _ => ?_) | with_reducible refine KPS_I ?_ ?_ | with_reducible refine KPS_A ?_ ?_ | with_reducible refine KPS_J ?_ | with_reducible refine KPS_L ?_ | with_reducible refine KPS_N ?_ | with_reducible refine KPS_S ?_ | with_reducible refine KPS_gJ ?_ | with_reducible refine KPS_gI ?_ | omega | (unfold pq; omega) | exact KPS_o (by assumption) (by assumption))
theorem zg_Wl_settle (n : Nat) : (∀ (u : MS), KPS u0 u → KE u0 ((hg_Wl_settle N n).1 u)) ∧ (∀ (u : MS) a0 a1, KPS u0 u → KE u0 ((hg_Wl_settle N n).2 u a0 a1)) := by
  induction n with
  | zero => exact ⟨fun _  _ => KE_none, fun _ _ _ _ => KE_none⟩
  | succ n ih => exact ⟨fun _  h => zb_Wl_settle_0 (N := N) h ih.1 ih.2, fun _ _ _ h => zb_Wl_settle_40 (N := N) h ih.1 ih.2⟩
theorem zm_Wl_settle  (h : KPS u0 u) : KE u0 (hm_Wl_settle N u) := by
  unfold hm_Wl_settle
  exact zb_Wl_settle_0 h ((zg_Wl_settle N).1) ((zg_Wl_settle N).2)
theorem zb_Ma_goOn_219 {G : (MS → Nat → Int32 → Option (MS × Int32))} {p : Nat} (h : KPS u0 u) (hG0 : ∀ (u : MS) a0 a1, KPS u0 u → KE u0 (G u a0 a1)) : KE u0 (hb_Ma_goOn_219 N G u p) := by
  unfold hb_Ma_goOn_219
  repeat' (first | with_reducible assumption | with_reducible refine KE_br ?_ ?_ | with_reducible refine KE_bnd ?_ (fun _ _ _ => ?_) | with_reducible refine KE_ck ?_ | with_reducible refine KE_ltm ?_ (fun _ _ => ?_) | with_reducible refine KE_some ?_ | with_reducible refine KE_boe (fun _ _ => ?_) | with_reducible exact zm_Fr_setPlace (by assumption) | with_reducible exact hG0 _ _ _ (by assumption) | with_reducible refine KE_ltv (fun _ => ?_) | with_reducible refine KPS_I ?_ ?_ | with_reducible refine KPS_A ?_ ?_ | with_reducible refine KPS_J ?_ | with_reducible refine KPS_L ?_ | with_reducible refine KPS_N ?_ | with_reducible refine KPS_S ?_ | with_reducible refine KPS_gJ ?_ | with_reducible refine KPS_gI ?_ | omega | (unfold pq; omega) | exact KPS_o (by assumption) (by assumption))
theorem zb_Ma_goOn_206 {G : (MS → Nat → Int32 → Option (MS × Int32))} {p : Nat} {v3 : Int32} (h : KPS u0 u) (hG0 : ∀ (u : MS) a0 a1, KPS u0 u → KE u0 (G u a0 a1)) : KE u0 (hb_Ma_goOn_206 N G u p v3) := by
  unfold hb_Ma_goOn_206
  repeat' (first | with_reducible assumption | with_reducible refine KE_br ?_ ?_ | with_reducible refine KE_bnd ?_ (fun _ _ _ => ?_) | with_reducible refine KE_ck ?_ | with_reducible refine KE_ltm ?_ (fun _ _ => ?_) | with_reducible refine KE_some ?_ | with_reducible refine KE_boe (fun _ _ => ?_) | with_reducible exact zm_Wl_settle (by assumption) | with_reducible exact hG0 _ _ _ (by assumption) | with_reducible refine KE_ltv (fun _ => ?_) | with_reducible refine KPS_I ?_ ?_ | with_reducible refine KPS_A ?_ ?_ | with_reducible refine KPS_J ?_ | with_reducible refine KPS_L ?_ | with_reducible refine KPS_N ?_ | with_reducible refine KPS_S ?_ | with_reducible refine KPS_gJ ?_ | with_reducible refine KPS_gI ?_ | omega | (unfold pq; omega) | exact KPS_o (by assumption) (by assumption))
theorem zb_Ma_goOn_195 {G : (MS → Nat → Int32 → Option (MS × Int32))} {p : Nat} {v3 : Int32} (h : KPS u0 u) (hG0 : ∀ (u : MS) a0 a1, KPS u0 u → KE u0 (G u a0 a1)) : KE u0 (hb_Ma_goOn_195 N G u p v3) := by
  unfold hb_Ma_goOn_195
  repeat' (first | with_reducible assumption | with_reducible refine KE_br ?_ ?_ | with_reducible refine KE_bnd ?_ (fun _ _ _ => ?_) | with_reducible refine KE_ck ?_ | with_reducible refine KE_ltm ?_ (fun _ _ => ?_) | with_reducible refine KE_some ?_ | with_reducible refine KE_boe (fun _ _ => ?_) | with_reducible exact zb_Ma_goOn_206 (by assumption) hG0 | with_reducible exact zm_Ma_raise (by assumption) | with_reducible exact hG0 _ _ _ (by assumption) | with_reducible refine KE_ltv (fun _ => ?_) | with_reducible refine KPS_I ?_ ?_ | with_reducible refine KPS_A ?_ ?_ | with_reducible refine KPS_J ?_ | with_reducible refine KPS_L ?_ | with_reducible refine KPS_N ?_ | with_reducible refine KPS_S ?_ | with_reducible refine KPS_gJ ?_ | with_reducible refine KPS_gI ?_ | omega | (unfold pq; omega) | exact KPS_o (by assumption) (by assumption))
theorem zb_Ma_goOn_67 {G : (MS → Nat → Int32 → Option (MS × Int32))} {p : Nat} {v3 : Int32} (h : KPS u0 u) (hG0 : ∀ (u : MS) a0 a1, KPS u0 u → KE u0 (G u a0 a1)) : KE u0 (hb_Ma_goOn_67 N G u p v3) := by
  unfold hb_Ma_goOn_67
  repeat' (first | with_reducible assumption | with_reducible refine KE_br ?_ ?_ | with_reducible refine KE_bnd ?_ (fun _ _ _ => ?_) | with_reducible refine KE_ck ?_ | with_reducible refine KE_ltm ?_ (fun _ _ => ?_) | with_reducible refine KE_some ?_ | with_reducible refine KE_boe (fun _ _ => ?_) | with_reducible exact zb_Ma_goOn_195 (by assumption) hG0 | with_reducible exact zb_Ma_goOn_219 (by assumption) hG0 | with_reducible exact zm_Ma_predefined (by assumption) | with_reducible exact zm_Ma_making (by assumption) | with_reducible exact zm_Ma_toward (by assumption) | with_reducible exact zm_Ma_value (by assumption) | with_reducible exact zm_Ma_flow (by assumption) | with_reducible exact zm_Co_at (by assumption) | with_reducible exact hG0 _ _ _ (by assumption) | with_reducible refine KE_ltv (fun _ => ?_) | with_reducible refine KPS_I ?_ ?_ | with_reducible refine KPS_A ?_ ?_ | with_reducible refine KPS_J ?_ | with_reducible refine KPS_L ?_ | with_reducible refine KPS_N ?_ | with_reducible refine KPS_S ?_ | with_reducible refine KPS_gJ ?_ | with_reducible refine KPS_gI ?_ | omega | (unfold pq; omega) | exact KPS_o (by assumption) (by assumption))
theorem zb_Ma_goOn_0 {G : (MS → Nat → Int32 → Option (MS × Int32))} {v1 : Nat} {v2 : Int32} (h : KPS u0 u) (hG0 : ∀ (u : MS) a0 a1, KPS u0 u → KE u0 (G u a0 a1)) : KE u0 (hb_Ma_goOn_0 N G u v1 v2) := by
  unfold hb_Ma_goOn_0
  repeat' (first | with_reducible assumption | with_reducible refine KE_br ?_ ?_ | with_reducible refine KE_bnd ?_ (fun _ _ _ => ?_) | with_reducible refine KE_ck ?_ | with_reducible refine KE_ltm ?_ (fun _ _ => ?_) | with_reducible refine KE_some ?_ | with_reducible refine KE_boe (fun _ _ => ?_) | with_reducible exact zm_Fr_place (by assumption) | with_reducible exact hG0 _ _ _ (by assumption) | with_reducible refine KE_ltv (fun _ => ?_) | with_reducible refine KPS_I ?_ ?_ | with_reducible refine KPS_A ?_ ?_ | with_reducible refine KPS_J ?_ | with_reducible refine KPS_L ?_ | with_reducible refine KPS_N ?_ | with_reducible refine KPS_S ?_ | with_reducible refine KPS_gJ ?_ | with_reducible refine KPS_gI ?_ | omega | (unfold pq; omega) | exact KPS_o (by assumption) (by assumption))
theorem zg_Ma_goOn (n : Nat) : (∀ (u : MS) a0 a1, KPS u0 u → KE u0 ((hg_Ma_goOn N n) u a0 a1)) := by
  induction n with
  | zero => exact fun _ _ _ _ => KE_none
  | succ n ih => exact fun _ _ _ h => zb_Ma_goOn_67 (N := N) h ih
theorem zm_Ma_goOn {v1 : Nat} {v2 : Int32} (h : KPS u0 u) : KE u0 (hm_Ma_goOn N u v1 v2) := by
  unfold hm_Ma_goOn
  exact zb_Ma_goOn_0 h (zg_Ma_goOn N)
theorem zb_H_go_81 {G : Unit} {v2 : Int32} {v3 : Nat} (h : KPS u0 u)  : KE u0 (hb_H_go_81 N G u v2 v3) := by
  unfold hb_H_go_81
  repeat' (first | with_reducible assumption | with_reducible refine KE_br ?_ ?_ | with_reducible refine KE_bnd ?_ (fun _ _ _ => ?_) | with_reducible refine KE_ck ?_ | with_reducible refine KE_ltm ?_ (fun _ _ => ?_) | with_reducible refine KE_some ?_ | with_reducible refine KE_boe (fun _ _ => ?_) | with_reducible exact zm_Ma_goOn (by assumption) | with_reducible refine KE_ltv (fun _ => ?_) | with_reducible refine KPS_I ?_ ?_ | with_reducible refine KPS_A ?_ ?_ | with_reducible refine KPS_J ?_ | with_reducible refine KPS_L ?_ | with_reducible refine KPS_N ?_ | with_reducible refine KPS_S ?_ | with_reducible refine KPS_gJ ?_ | with_reducible refine KPS_gI ?_ | omega | (unfold pq; omega) | exact KPS_o (by assumption) (by assumption))
theorem zb_H_go_71 {G : Unit} (h : KPS u0 u)  : KE u0 (hb_H_go_71 N G u) := by
  unfold hb_H_go_71
  repeat' (first | with_reducible assumption | with_reducible refine KE_br ?_ ?_ | with_reducible refine KE_bnd ?_ (fun _ _ _ => ?_) | with_reducible refine KE_ck ?_ | with_reducible refine KE_ltm ?_ (fun _ _ => ?_) | with_reducible refine KE_some ?_ | with_reducible refine KE_boe (fun _ _ => ?_) | with_reducible refine KE_ltv (fun _ => ?_) | with_reducible refine KPS_I ?_ ?_ | with_reducible refine KPS_A ?_ ?_ | with_reducible refine KPS_J ?_ | with_reducible refine KPS_L ?_ | with_reducible refine KPS_N ?_ | with_reducible refine KPS_S ?_ | with_reducible refine KPS_gJ ?_ | with_reducible refine KPS_gI ?_ | omega | (unfold pq; omega) | exact KPS_o (by assumption) (by assumption))
theorem zb_H_go_11 {G : Unit} (h : KPS u0 u)  : KE u0 (hb_H_go_11 N G u) := by
  unfold hb_H_go_11
  repeat' (first | with_reducible assumption | with_reducible refine KE_br ?_ ?_ | with_reducible refine KE_bnd ?_ (fun _ _ _ => ?_) | with_reducible refine KE_ck ?_ | with_reducible refine KE_ltm ?_ (fun _ _ => ?_) | with_reducible refine KE_some ?_ | with_reducible refine KE_boe (fun _ _ => ?_) | with_reducible refine KE_ltv (fun _ => ?_) | with_reducible refine KPS_I ?_ ?_ | with_reducible refine KPS_A ?_ ?_ | with_reducible refine KPS_J ?_ | with_reducible refine KPS_L ?_ | with_reducible refine KPS_N ?_ | with_reducible refine KPS_S ?_ | with_reducible refine KPS_gJ ?_ | with_reducible refine KPS_gI ?_ | omega | (unfold pq; omega) | exact KPS_o (by assumption) (by assumption))
theorem zb_H_go_0 {G : Unit} {v1 : Int32} {v2 : Int32} (h : KPS u0 u)  : KE u0 (hb_H_go_0 N G u v1 v2) := by
  unfold hb_H_go_0
  repeat' (first | with_reducible assumption | with_reducible refine KE_br ?_ ?_ | with_reducible refine KE_bnd ?_ (fun _ _ _ => ?_) | with_reducible refine KE_ck ?_ | with_reducible refine KE_ltm ?_ (fun _ _ => ?_) | with_reducible refine KE_some ?_ | with_reducible refine KE_boe (fun _ _ => ?_) | with_reducible exact zm_Wl_isReady (by assumption) | with_reducible exact zb_H_go_11 (by assumption) | with_reducible exact zb_H_go_71 (by assumption) | with_reducible exact zb_H_go_81 (by assumption) | with_reducible exact zm_Wl_find (by assumption) | with_reducible refine KE_ltv (fun _ => ?_) | with_reducible refine KPS_I ?_ ?_ | with_reducible refine KPS_A ?_ ?_ | with_reducible refine KPS_J ?_ | with_reducible refine KPS_L ?_ | with_reducible refine KPS_N ?_ | with_reducible refine KPS_S ?_ | with_reducible refine KPS_gJ ?_ | with_reducible refine KPS_gI ?_ | omega | (unfold pq; omega) | exact KPS_o (by assumption) (by assumption))
theorem zm_H_go {v1 : Int32} {v2 : Int32} (h : KPS u0 u) : KE u0 (hm_H_go N u v1 v2) := by
  unfold hm_H_go
  exact zb_H_go_0 h
theorem zb_H_clock_24 {G : Unit} (h : KPS u0 u)  : KE u0 (hb_H_clock_24 N G u) := by
  unfold hb_H_clock_24
  repeat' (first | with_reducible assumption | with_reducible refine KE_br ?_ ?_ | with_reducible refine KE_bnd ?_ (fun _ _ _ => ?_) | with_reducible refine KE_ck ?_ | with_reducible refine KE_ltm ?_ (fun _ _ => ?_) | with_reducible refine KE_some ?_ | with_reducible refine KE_boe (fun _ _ => ?_) | with_reducible refine KE_ltv (fun _ => ?_) | with_reducible refine KPS_I ?_ ?_ | with_reducible refine KPS_A ?_ ?_ | with_reducible refine KPS_J ?_ | with_reducible refine KPS_L ?_ | with_reducible refine KPS_N ?_ | with_reducible refine KPS_S ?_ | with_reducible refine KPS_gJ ?_ | with_reducible refine KPS_gI ?_ | omega | (unfold pq; omega) | exact KPS_o (by assumption) (by assumption))
theorem zb_H_clock_0 {G : Unit} {v1 : Int32} (h : KPS u0 u)  : KE u0 (hb_H_clock_0 N G u v1) := by
  unfold hb_H_clock_0
  repeat' (first | with_reducible assumption | with_reducible refine KE_br ?_ ?_ | with_reducible refine KE_bnd ?_ (fun _ _ _ => ?_) | with_reducible refine KE_ck ?_ | with_reducible refine KE_ltm ?_ (fun _ _ => ?_) | with_reducible refine KE_some ?_ | with_reducible refine KE_boe (fun _ _ => ?_) | with_reducible exact zb_H_clock_24 (by assumption) | with_reducible refine KE_ltv (fun _ => ?_) | with_reducible refine KPS_I ?_ ?_ | with_reducible refine KPS_A ?_ ?_ | with_reducible refine KPS_J ?_ | with_reducible refine KPS_L ?_ | with_reducible refine KPS_N ?_ | with_reducible refine KPS_S ?_ | with_reducible refine KPS_gJ ?_ | with_reducible refine KPS_gI ?_ | omega | (unfold pq; omega) | exact KPS_o (by assumption) (by assumption))
theorem zm_H_clock {v1 : Int32} (h : KPS u0 u) : KE u0 (hm_H_clock N u v1) := by
  unfold hm_H_clock
  exact zb_H_clock_0 h
theorem zb_Wl_postPair_17 {G : Unit} (h : KPS u0 u)  : KE u0 (hb_Wl_postPair_17 N G u) := by
  unfold hb_Wl_postPair_17
  repeat' (first | with_reducible assumption | with_reducible refine KE_br ?_ ?_ | with_reducible refine KE_bnd ?_ (fun _ _ _ => ?_) | with_reducible refine KE_ck ?_ | with_reducible refine KE_ltm ?_ (fun _ _ => ?_) | with_reducible refine KE_some ?_ | with_reducible refine KE_boe (fun _ _ => ?_) | with_reducible refine KE_ltv (fun _ => ?_) | with_reducible refine KPS_I ?_ ?_ | with_reducible refine KPS_A ?_ ?_ | with_reducible refine KPS_J ?_ | with_reducible refine KPS_L ?_ | with_reducible refine KPS_N ?_ | with_reducible refine KPS_S ?_ | with_reducible refine KPS_gJ ?_ | with_reducible refine KPS_gI ?_ | omega | (unfold pq; omega) | exact KPS_o (by assumption) (by assumption))
theorem zb_Wl_postPair_0 {G : Unit} {v1 : Nat} {v2 : Int32} (h : KPS u0 u)  : KE u0 (hb_Wl_postPair_0 N G u v1 v2) := by
  unfold hb_Wl_postPair_0
  repeat' (first | with_reducible assumption | with_reducible refine KE_br ?_ ?_ | with_reducible refine KE_bnd ?_ (fun _ _ _ => ?_) | with_reducible refine KE_ck ?_ | with_reducible refine KE_ltm ?_ (fun _ _ => ?_) | with_reducible refine KE_some ?_ | with_reducible refine KE_boe (fun _ _ => ?_) | with_reducible exact zb_Wl_postPair_17 (by assumption) | with_reducible exact zm_Wl_endsBy (by assumption) | with_reducible exact zm_Pr_comes (by assumption) | with_reducible exact zm_Pr_want (by assumption) | with_reducible exact zm_Te_make (by assumption) | with_reducible refine KE_ltv (fun _ => ?_) | with_reducible refine KPS_I ?_ ?_ | with_reducible refine KPS_A ?_ ?_ | with_reducible refine KPS_J ?_ | with_reducible refine KPS_L ?_ | with_reducible refine KPS_N ?_ | with_reducible refine KPS_S ?_ | with_reducible refine KPS_gJ ?_ | with_reducible refine KPS_gI ?_ | omega | (unfold pq; omega) | exact KPS_o (by assumption) (by assumption))
theorem zm_Wl_postPair {v1 : Nat} {v2 : Int32} (h : KPS u0 u) : KE u0 (hm_Wl_postPair N u v1 v2) := by
  unfold hm_Wl_postPair
  exact zb_Wl_postPair_0 h
theorem zb_H_send_112 {G : Unit} (h : KPS u0 u)  : KE u0 (hb_H_send_112 N G u) := by
  unfold hb_H_send_112
  repeat' (first | with_reducible assumption | with_reducible refine KE_br ?_ ?_ | with_reducible refine KE_bnd ?_ (fun _ _ _ => ?_) | with_reducible refine KE_ck ?_ | with_reducible refine KE_ltm ?_ (fun _ _ => ?_) | with_reducible refine KE_some ?_ | with_reducible refine KE_boe (fun _ _ => ?_) | with_reducible exact zm_Wl_settle (by assumption) | with_reducible refine KE_ltv (fun _ => ?_) | with_reducible refine KPS_I ?_ ?_ | with_reducible refine KPS_A ?_ ?_ | with_reducible refine KPS_J ?_ | with_reducible refine KPS_L ?_ | with_reducible refine KPS_N ?_ | with_reducible refine KPS_S ?_ | with_reducible refine KPS_gJ ?_ | with_reducible refine KPS_gI ?_ | omega | (unfold pq; omega) | exact KPS_o (by assumption) (by assumption))
theorem zb_H_send_91 {G : Unit} {v3 : Int32} {v4 : Option Nat} {t0 : Int32} (h : KPS u0 u)  : KE u0 (hb_H_send_91 N G u v3 v4 t0) := by
  unfold hb_H_send_91
  repeat' (first | with_reducible assumption | with_reducible refine KE_br ?_ ?_ | with_reducible refine KE_bnd ?_ (fun _ _ _ => ?_) | with_reducible refine KE_ck ?_ | with_reducible refine KE_ltm ?_ (fun _ _ => ?_) | with_reducible refine KE_some ?_ | with_reducible refine KE_boe (fun _ _ => ?_) | with_reducible exact zb_H_send_112 (by assumption) | with_reducible exact zm_Te_make (by assumption) | with_reducible exact zm_Wl_post (by assumption) | with_reducible refine KE_ltv (fun _ => ?_) | with_reducible refine KPS_I ?_ ?_ | with_reducible refine KPS_A ?_ ?_ | with_reducible refine KPS_J ?_ | with_reducible refine KPS_L ?_ | with_reducible refine KPS_N ?_ | with_reducible refine KPS_S ?_ | with_reducible refine KPS_gJ ?_ | with_reducible refine KPS_gI ?_ | omega | (unfold pq; omega) | exact KPS_o (by assumption) (by assumption))
theorem zb_H_send_54 {G : Unit} (h : KPS u0 u)  : KE u0 (hb_H_send_54 N G u) := by
  unfold hb_H_send_54
  repeat' (first | with_reducible assumption | with_reducible refine KE_br ?_ ?_ | with_reducible refine KE_bnd ?_ (fun _ _ _ => ?_) | with_reducible refine KE_ck ?_ | with_reducible refine KE_ltm ?_ (fun _ _ => ?_) | with_reducible refine KE_some ?_ | with_reducible refine KE_boe (fun _ _ => ?_) | with_reducible refine KE_ltv (fun _ => ?_) | with_reducible refine KPS_I ?_ ?_ | with_reducible refine KPS_A ?_ ?_ | with_reducible refine KPS_J ?_ | with_reducible refine KPS_L ?_ | with_reducible refine KPS_N ?_ | with_reducible refine KPS_S ?_ | with_reducible refine KPS_gJ ?_ | with_reducible refine KPS_gI ?_ | omega | (unfold pq; omega) | exact KPS_o (by assumption) (by assumption))
theorem zb_H_send_45 {G : Unit} {v2 : Int32} {v3 : Int32} {v4 : Option Nat} (h : KPS u0 u)  : KE u0 (hb_H_send_45 N G u v2 v3 v4) := by
  unfold hb_H_send_45
  repeat' (first | with_reducible assumption | with_reducible refine KE_br ?_ ?_ | with_reducible refine KE_bnd ?_ (fun _ _ _ => ?_) | with_reducible refine KE_ck ?_ | with_reducible refine KE_ltm ?_ (fun _ _ => ?_) | with_reducible refine KE_some ?_ | with_reducible refine KE_boe (fun _ _ => ?_) | with_reducible exact zm_Wl_postPair (by assumption) | with_reducible exact zb_H_send_112 (by assumption) | with_reducible exact zb_H_send_54 (by assumption) | with_reducible exact zb_H_send_91 (by assumption) | with_reducible refine KE_ltv (fun _ => ?_) | with_reducible refine KPS_I ?_ ?_ | with_reducible refine KPS_A ?_ ?_ | with_reducible refine KPS_J ?_ | with_reducible refine KPS_L ?_ | with_reducible refine KPS_N ?_ | with_reducible refine KPS_S ?_ | with_reducible refine KPS_gJ ?_ | with_reducible refine KPS_gI ?_ | omega | (unfold pq; omega) | exact KPS_o (by assumption) (by assumption))
theorem zb_H_send_35 {G : Unit} (h : KPS u0 u)  : KE u0 (hb_H_send_35 N G u) := by
  unfold hb_H_send_35
  repeat' (first | with_reducible assumption | with_reducible refine KE_br ?_ ?_ | with_reducible refine KE_bnd ?_ (fun _ _ _ => ?_) | with_reducible refine KE_ck ?_ | with_reducible refine KE_ltm ?_ (fun _ _ => ?_) | with_reducible refine KE_some ?_ | with_reducible refine KE_boe (fun _ _ => ?_) | with_reducible refine KE_ltv (fun _ => ?_) | with_reducible refine KPS_I ?_ ?_ | with_reducible refine KPS_A ?_ ?_ | with_reducible refine KPS_J ?_ | with_reducible refine KPS_L ?_ | with_reducible refine KPS_N ?_ | with_reducible refine KPS_S ?_ | with_reducible refine KPS_gJ ?_ | with_reducible refine KPS_gI ?_ | omega | (unfold pq; omega) | exact KPS_o (by assumption) (by assumption))
theorem zb_H_send_0 {G : Unit} {v1 : Int32} {v2 : Int32} {v3 : Int32} (h : KPS u0 u)  : KE u0 (hb_H_send_0 N G u v1 v2 v3) := by
  unfold hb_H_send_0
  repeat' (first | with_reducible assumption | with_reducible refine KE_br ?_ ?_ | with_reducible refine KE_bnd ?_ (fun _ _ _ => ?_) | with_reducible refine KE_ck ?_ | with_reducible refine KE_ltm ?_ (fun _ _ => ?_) | with_reducible refine KE_some ?_ | with_reducible refine KE_boe (fun _ _ => ?_) | with_reducible exact zb_H_send_35 (by assumption) | with_reducible exact zb_H_send_45 (by assumption) | with_reducible exact zm_Wl_find (by assumption) | with_reducible refine KE_ltv (fun _ => ?_) | with_reducible refine KPS_I ?_ ?_ | with_reducible refine KPS_A ?_ ?_ | with_reducible refine KPS_J ?_ | with_reducible refine KPS_L ?_ | with_reducible refine KPS_N ?_ | with_reducible refine KPS_S ?_ | with_reducible refine KPS_gJ ?_ | with_reducible refine KPS_gI ?_ | omega | (unfold pq; omega) | exact KPS_o (by assumption) (by assumption))
theorem zm_H_send {v1 : Int32} {v2 : Int32} {v3 : Int32} (h : KPS u0 u) : KE u0 (hm_H_send N u v1 v2 v3) := by
  unfold hm_H_send
  exact zb_H_send_0 h
theorem zb_Pr_wakes_26 {G : Unit} {t0 : Int32} (h : KPS u0 u)  : KE u0 (hb_Pr_wakes_26 N G u t0) := by
  unfold hb_Pr_wakes_26
  repeat' (first | with_reducible assumption | with_reducible refine KE_br ?_ ?_ | with_reducible refine KE_bnd ?_ (fun _ _ _ => ?_) | with_reducible refine KE_ck ?_ | with_reducible refine KE_ltm ?_ (fun _ _ => ?_) | with_reducible refine KE_some ?_ | with_reducible refine KE_boe (fun _ _ => ?_) | with_reducible refine KE_ltv (fun _ => ?_) | with_reducible refine KPS_I ?_ ?_ | with_reducible refine KPS_A ?_ ?_ | with_reducible refine KPS_J ?_ | with_reducible refine KPS_L ?_ | with_reducible refine KPS_N ?_ | with_reducible refine KPS_S ?_ | with_reducible refine KPS_gJ ?_ | with_reducible refine KPS_gI ?_ | omega | (unfold pq; omega) | exact KPS_o (by assumption) (by assumption))
theorem zb_Pr_wakes_0 {G : Unit} {v0 : Nat} (h : KPS u0 u)  : KE u0 (hb_Pr_wakes_0 N G u v0) := by
  unfold hb_Pr_wakes_0
  repeat' (first | with_reducible assumption | with_reducible refine KE_br ?_ ?_ | with_reducible refine KE_bnd ?_ (fun _ _ _ => ?_) | with_reducible refine KE_ck ?_ | with_reducible refine KE_ltm ?_ (fun _ _ => ?_) | with_reducible refine KE_some ?_ | with_reducible refine KE_boe (fun _ _ => ?_) | with_reducible exact zb_Pr_wakes_26 (by assumption) | with_reducible refine KE_ltv (fun _ => ?_) | with_reducible refine KPS_I ?_ ?_ | with_reducible refine KPS_A ?_ ?_ | with_reducible refine KPS_J ?_ | with_reducible refine KPS_L ?_ | with_reducible refine KPS_N ?_ | with_reducible refine KPS_S ?_ | with_reducible refine KPS_gJ ?_ | with_reducible refine KPS_gI ?_ | omega | (unfold pq; omega) | exact KPS_o (by assumption) (by assumption))
theorem zm_Pr_wakes {v0 : Nat} (h : KPS u0 u) : KE u0 (hm_Pr_wakes N u v0) := by
  unfold hm_Pr_wakes
  exact zb_Pr_wakes_0 h
theorem zb_H_process_269 {G : Unit} {t0 : Int32} (h : KPS u0 u)  : KE u0 (hb_H_process_269 N G u t0) := by
  unfold hb_H_process_269
  repeat' (first | with_reducible assumption | with_reducible refine KE_br ?_ ?_ | with_reducible refine KE_bnd ?_ (fun _ _ _ => ?_) | with_reducible refine KE_ck ?_ | with_reducible refine KE_ltm ?_ (fun _ _ => ?_) | with_reducible refine KE_some ?_ | with_reducible refine KE_boe (fun _ _ => ?_) | with_reducible refine KE_ltv (fun _ => ?_) | with_reducible refine KPS_I ?_ ?_ | with_reducible refine KPS_A ?_ ?_ | with_reducible refine KPS_J ?_ | with_reducible refine KPS_L ?_ | with_reducible refine KPS_N ?_ | with_reducible refine KPS_S ?_ | with_reducible refine KPS_gJ ?_ | with_reducible refine KPS_gI ?_ | omega | (unfold pq; omega) | exact KPS_o (by assumption) (by assumption))
theorem zb_H_process_252 {G : Unit} {t0 : Int32} (h : KPS u0 u)  : KE u0 (hb_H_process_252 N G u t0) := by
  unfold hb_H_process_252
  repeat' (first | with_reducible assumption | with_reducible refine KE_br ?_ ?_ | with_reducible refine KE_bnd ?_ (fun _ _ _ => ?_) | with_reducible refine KE_ck ?_ | with_reducible refine KE_ltm ?_ (fun _ _ => ?_) | with_reducible refine KE_some ?_ | with_reducible refine KE_boe (fun _ _ => ?_) | with_reducible refine KE_ltv (fun _ => ?_) | with_reducible refine KPS_I ?_ ?_ | with_reducible refine KPS_A ?_ ?_ | with_reducible refine KPS_J ?_ | with_reducible refine KPS_L ?_ | with_reducible refine KPS_N ?_ | with_reducible refine KPS_S ?_ | with_reducible refine KPS_gJ ?_ | with_reducible refine KPS_gI ?_ | omega | (unfold pq; omega) | exact KPS_o (by assumption) (by assumption))
theorem zb_H_process_233 {G : Unit} {t0 : Int32} (h : KPS u0 u)  : KE u0 (hb_H_process_233 N G u t0) := by
  unfold hb_H_process_233
  repeat' (first | with_reducible assumption | with_reducible refine KE_br ?_ ?_ | with_reducible refine KE_bnd ?_ (fun _ _ _ => ?_) | with_reducible refine KE_ck ?_ | with_reducible refine KE_ltm ?_ (fun _ _ => ?_) | with_reducible refine KE_some ?_ | with_reducible refine KE_boe (fun _ _ => ?_) | with_reducible refine KE_ltv (fun _ => ?_) | with_reducible refine KPS_I ?_ ?_ | with_reducible refine KPS_A ?_ ?_ | with_reducible refine KPS_J ?_ | with_reducible refine KPS_L ?_ | with_reducible refine KPS_N ?_ | with_reducible refine KPS_S ?_ | with_reducible refine KPS_gJ ?_ | with_reducible refine KPS_gI ?_ | omega | (unfold pq; omega) | exact KPS_o (by assumption) (by assumption))
theorem zb_H_process_219 {G : Unit} {t0 : Int32} (h : KPS u0 u)  : KE u0 (hb_H_process_219 N G u t0) := by
  unfold hb_H_process_219
  repeat' (first | with_reducible assumption | with_reducible refine KE_br ?_ ?_ | with_reducible refine KE_bnd ?_ (fun _ _ _ => ?_) | with_reducible refine KE_ck ?_ | with_reducible refine KE_ltm ?_ (fun _ _ => ?_) | with_reducible refine KE_some ?_ | with_reducible refine KE_boe (fun _ _ => ?_) | with_reducible refine KE_ltv (fun _ => ?_) | with_reducible refine KPS_I ?_ ?_ | with_reducible refine KPS_A ?_ ?_ | with_reducible refine KPS_J ?_ | with_reducible refine KPS_L ?_ | with_reducible refine KPS_N ?_ | with_reducible refine KPS_S ?_ | with_reducible refine KPS_gJ ?_ | with_reducible refine KPS_gI ?_ | omega | (unfold pq; omega) | exact KPS_o (by assumption) (by assumption))
theorem zb_H_process_218 {G : Unit} (h : KPS u0 u)  : KE u0 (hb_H_process_218 N G u) := by
  unfold hb_H_process_218
  repeat' (first | with_reducible assumption | with_reducible refine KE_br ?_ ?_ | with_reducible refine KE_bnd ?_ (fun _ _ _ => ?_) | with_reducible refine KE_ck ?_ | with_reducible refine KE_ltm ?_ (fun _ _ => ?_) | with_reducible refine KE_some ?_ | with_reducible refine KE_boe (fun _ _ => ?_) | with_reducible exact zb_H_process_219 (by assumption) | with_reducible refine KE_ltv (fun _ => ?_) | with_reducible refine KPS_I ?_ ?_ | with_reducible refine KPS_A ?_ ?_ | with_reducible refine KPS_J ?_ | with_reducible refine KPS_L ?_ | with_reducible refine KPS_N ?_ | with_reducible refine KPS_S ?_ | with_reducible refine KPS_gJ ?_ | with_reducible refine KPS_gI ?_ | omega | (unfold pq; omega) | exact KPS_o (by assumption) (by assumption))
theorem zb_H_process_201 {G : Unit} {t0 : Int32} (h : KPS u0 u)  : KE u0 (hb_H_process_201 N G u t0) := by
  unfold hb_H_process_201
  repeat' (first | with_reducible assumption | with_reducible refine KE_br ?_ ?_ | with_reducible refine KE_bnd ?_ (fun _ _ _ => ?_) | with_reducible refine KE_ck ?_ | with_reducible refine KE_ltm ?_ (fun _ _ => ?_) | with_reducible refine KE_some ?_ | with_reducible refine KE_boe (fun _ _ => ?_) | with_reducible refine KE_ltv (fun _ => ?_) | with_reducible refine KPS_I ?_ ?_ | with_reducible refine KPS_A ?_ ?_ | with_reducible refine KPS_J ?_ | with_reducible refine KPS_L ?_ | with_reducible refine KPS_N ?_ | with_reducible refine KPS_S ?_ | with_reducible refine KPS_gJ ?_ | with_reducible refine KPS_gI ?_ | omega | (unfold pq; omega) | exact KPS_o (by assumption) (by assumption))
theorem zb_H_process_183 {G : Unit} {t0 : Int32} (h : KPS u0 u)  : KE u0 (hb_H_process_183 N G u t0) := by
  unfold hb_H_process_183
  repeat' (first | with_reducible assumption | with_reducible refine KE_br ?_ ?_ | with_reducible refine KE_bnd ?_ (fun _ _ _ => ?_) | with_reducible refine KE_ck ?_ | with_reducible refine KE_ltm ?_ (fun _ _ => ?_) | with_reducible refine KE_some ?_ | with_reducible refine KE_boe (fun _ _ => ?_) | with_reducible refine KE_ltv (fun _ => ?_) | with_reducible refine KPS_I ?_ ?_ | with_reducible refine KPS_A ?_ ?_ | with_reducible refine KPS_J ?_ | with_reducible refine KPS_L ?_ | with_reducible refine KPS_N ?_ | with_reducible refine KPS_S ?_ | with_reducible refine KPS_gJ ?_ | with_reducible refine KPS_gI ?_ | omega | (unfold pq; omega) | exact KPS_o (by assumption) (by assumption))
theorem zb_H_process_169 {G : Unit} {t0 : Int32} (h : KPS u0 u)  : KE u0 (hb_H_process_169 N G u t0) := by
  unfold hb_H_process_169
  repeat' (first | with_reducible assumption | with_reducible refine KE_br ?_ ?_ | with_reducible refine KE_bnd ?_ (fun _ _ _ => ?_) | with_reducible refine KE_ck ?_ | with_reducible refine KE_ltm ?_ (fun _ _ => ?_) | with_reducible refine KE_some ?_ | with_reducible refine KE_boe (fun _ _ => ?_) | with_reducible refine KE_ltv (fun _ => ?_) | with_reducible refine KPS_I ?_ ?_ | with_reducible refine KPS_A ?_ ?_ | with_reducible refine KPS_J ?_ | with_reducible refine KPS_L ?_ | with_reducible refine KPS_N ?_ | with_reducible refine KPS_S ?_ | with_reducible refine KPS_gJ ?_ | with_reducible refine KPS_gI ?_ | omega | (unfold pq; omega) | exact KPS_o (by assumption) (by assumption))
theorem zb_H_process_150 {G : Unit} {t0 : Int32} (h : KPS u0 u)  : KE u0 (hb_H_process_150 N G u t0) := by
  unfold hb_H_process_150
  repeat' (first | with_reducible assumption | with_reducible refine KE_br ?_ ?_ | with_reducible refine KE_bnd ?_ (fun _ _ _ => ?_) | with_reducible refine KE_ck ?_ | with_reducible refine KE_ltm ?_ (fun _ _ => ?_) | with_reducible refine KE_some ?_ | with_reducible refine KE_boe (fun _ _ => ?_) | with_reducible refine KE_ltv (fun _ => ?_) | with_reducible refine KPS_I ?_ ?_ | with_reducible refine KPS_A ?_ ?_ | with_reducible refine KPS_J ?_ | with_reducible refine KPS_L ?_ | with_reducible refine KPS_N ?_ | with_reducible refine KPS_S ?_ | with_reducible refine KPS_gJ ?_ | with_reducible refine KPS_gI ?_ | omega | (unfold pq; omega) | exact KPS_o (by assumption) (by assumption))
theorem zb_H_process_136 {G : Unit} {t0 : Int32} (h : KPS u0 u)  : KE u0 (hb_H_process_136 N G u t0) := by
  unfold hb_H_process_136
  repeat' (first | with_reducible assumption | with_reducible refine KE_br ?_ ?_ | with_reducible refine KE_bnd ?_ (fun _ _ _ => ?_) | with_reducible refine KE_ck ?_ | with_reducible refine KE_ltm ?_ (fun _ _ => ?_) | with_reducible refine KE_some ?_ | with_reducible refine KE_boe (fun _ _ => ?_) | with_reducible refine KE_ltv (fun _ => ?_) | with_reducible refine KPS_I ?_ ?_ | with_reducible refine KPS_A ?_ ?_ | with_reducible refine KPS_J ?_ | with_reducible refine KPS_L ?_ | with_reducible refine KPS_N ?_ | with_reducible refine KPS_S ?_ | with_reducible refine KPS_gJ ?_ | with_reducible refine KPS_gI ?_ | omega | (unfold pq; omega) | exact KPS_o (by assumption) (by assumption))
theorem zb_H_process_119 {G : Unit} {t0 : Int32} (h : KPS u0 u)  : KE u0 (hb_H_process_119 N G u t0) := by
  unfold hb_H_process_119
  repeat' (first | with_reducible assumption | with_reducible refine KE_br ?_ ?_ | with_reducible refine KE_bnd ?_ (fun _ _ _ => ?_) | with_reducible refine KE_ck ?_ | with_reducible refine KE_ltm ?_ (fun _ _ => ?_) | with_reducible refine KE_some ?_ | with_reducible refine KE_boe (fun _ _ => ?_) | with_reducible refine KE_ltv (fun _ => ?_) | with_reducible refine KPS_I ?_ ?_ | with_reducible refine KPS_A ?_ ?_ | with_reducible refine KPS_J ?_ | with_reducible refine KPS_L ?_ | with_reducible refine KPS_N ?_ | with_reducible refine KPS_S ?_ | with_reducible refine KPS_gJ ?_ | with_reducible refine KPS_gI ?_ | omega | (unfold pq; omega) | exact KPS_o (by assumption) (by assumption))
theorem zb_H_process_115 {G : Unit} {v3 : Nat} (h : KPS u0 u)  : KE u0 (hb_H_process_115 N G u v3) := by
  unfold hb_H_process_115
  repeat' (first | with_reducible assumption | with_reducible refine KE_br ?_ ?_ | with_reducible refine KE_bnd ?_ (fun _ _ _ => ?_) | with_reducible refine KE_ck ?_ | with_reducible refine KE_ltm ?_ (fun _ _ => ?_) | with_reducible refine KE_some ?_ | with_reducible refine KE_boe (fun _ _ => ?_) | with_reducible exact zb_H_process_119 (by assumption) | with_reducible refine KE_ltv (fun _ => ?_) | with_reducible refine KPS_I ?_ ?_ | with_reducible refine KPS_A ?_ ?_ | with_reducible refine KPS_J ?_ | with_reducible refine KPS_L ?_ | with_reducible refine KPS_N ?_ | with_reducible refine KPS_S ?_ | with_reducible refine KPS_gJ ?_ | with_reducible refine KPS_gI ?_ | omega | (unfold pq; omega) | exact KPS_o (by assumption) (by assumption))
theorem zb_H_process_28 {G : Unit} {v1 : Int32} {v2 : Int32} {v3 : Nat} {t0 : Int32} (h : KPS u0 u)  : KE u0 (hb_H_process_28 N G u v1 v2 v3 t0) := by
  unfold hb_H_process_28
  repeat' (first | with_reducible assumption | with_reducible refine KE_br ?_ ?_ | with_reducible refine KE_bnd ?_ (fun _ _ _ => ?_) | with_reducible refine KE_ck ?_ | with_reducible refine KE_ltm ?_ (fun _ _ => ?_) | with_reducible refine KE_some ?_ | with_reducible refine KE_boe (fun _ _ => ?_) | with_reducible exact zb_H_process_115 (by assumption) | with_reducible exact zb_H_process_119 (by assumption) | with_reducible exact zb_H_process_136 (by assumption) | with_reducible exact zb_H_process_150 (by assumption) | with_reducible exact zb_H_process_169 (by assumption) | with_reducible exact zb_H_process_183 (by assumption) | with_reducible exact zb_H_process_201 (by assumption) | with_reducible exact zb_H_process_218 (by assumption) | with_reducible exact zb_H_process_219 (by assumption) | with_reducible exact zb_H_process_233 (by assumption) | with_reducible exact zb_H_process_252 (by assumption) | with_reducible exact zb_H_process_269 (by assumption) | with_reducible exact zm_Wl_watchesOf (by assumption) | with_reducible exact zm_Wl_isReady (by assumption) | with_reducible exact zm_Pr_wakes (by assumption) | with_reducible refine KE_ltv (fun _ => ?_) | with_reducible refine KPS_I ?_ ?_ | with_reducible refine KPS_A ?_ ?_ | with_reducible refine KPS_J ?_ | with_reducible refine KPS_L ?_ | with_reducible refine KPS_N ?_ | with_reducible refine KPS_S ?_ | with_reducible refine KPS_gJ ?_ | with_reducible refine KPS_gI ?_ | omega | (unfold pq; omega) | exact KPS_o (by assumption) (by assumption))
theorem zb_H_process_0 {G : Unit} {v1 : Int32} {v2 : Int32} (h : KPS u0 u)  : KE u0 (hb_H_process_0 N G u v1 v2) := by
  unfold hb_H_process_0
  repeat' (first | with_reducible assumption | with_reducible refine KE_br ?_ ?_ | with_reducible refine KE_bnd ?_ (fun _ _ _ => ?_) | with_reducible refine KE_ck ?_ | with_reducible refine KE_ltm ?_ (fun _ _ => ?_) | with_reducible refine KE_some ?_ | with_reducible refine KE_boe (fun _ _ => ?_) | with_reducible exact zb_H_process_28 (by assumption) | with_reducible exact zm_Wl_find (by assumption) | with_reducible refine KE_ltv (fun _ => ?_) | with_reducible refine KPS_I ?_ ?_ | with_reducible refine KPS_A ?_ ?_ | with_reducible refine KPS_J ?_ | with_reducible refine KPS_L ?_ | with_reducible refine KPS_N ?_ | with_reducible refine KPS_S ?_ | with_reducible refine KPS_gJ ?_ | with_reducible refine KPS_gI ?_ | omega | (unfold pq; omega) | exact KPS_o (by assumption) (by assumption))
theorem zm_H_process {v1 : Int32} {v2 : Int32} (h : KPS u0 u) : KE u0 (hm_H_process N u v1 v2) := by
  unfold hm_H_process
  exact zb_H_process_0 h
theorem zb_H_frame_40 {G : Unit} (h : KPS u0 u)  : KE u0 (hb_H_frame_40 N G u) := by
  unfold hb_H_frame_40
  repeat' (first | with_reducible assumption | with_reducible refine KE_br ?_ ?_ | with_reducible refine KE_bnd ?_ (fun _ _ _ => ?_) | with_reducible refine KE_ck ?_ | with_reducible refine KE_ltm ?_ (fun _ _ => ?_) | with_reducible refine KE_some ?_ | with_reducible refine KE_boe (fun _ _ => ?_) | with_reducible refine KE_ltv (fun _ => ?_) | with_reducible refine KPS_I ?_ ?_ | with_reducible refine KPS_A ?_ ?_ | with_reducible refine KPS_J ?_ | with_reducible refine KPS_L ?_ | with_reducible refine KPS_N ?_ | with_reducible refine KPS_S ?_ | with_reducible refine KPS_gJ ?_ | with_reducible refine KPS_gI ?_ | omega | (unfold pq; omega) | exact KPS_o (by assumption) (by assumption))
theorem zb_H_frame_0 {G : Unit} {v1 : Int32} {v2 : Int32} {v3 : Int32} (h : KPS u0 u)  : KE u0 (hb_H_frame_0 N G u v1 v2 v3) := by
  unfold hb_H_frame_0
  repeat' (first | with_reducible assumption | with_reducible refine KE_br ?_ ?_ | with_reducible refine KE_bnd ?_ (fun _ _ _ => ?_) | with_reducible refine KE_ck ?_ | with_reducible refine KE_ltm ?_ (fun _ _ => ?_) | with_reducible refine KE_some ?_ | with_reducible refine KE_boe (fun _ _ => ?_) | with_reducible exact zb_H_frame_40 (by assumption) | with_reducible exact zm_Fr_namesIn (by assumption) | with_reducible exact zm_Fr_waitsIn (by assumption) | with_reducible exact zm_Wl_find (by assumption) | with_reducible exact zm_Fr_of (by assumption) | with_reducible refine KE_ltv (fun _ => ?_) | with_reducible refine KPS_I ?_ ?_ | with_reducible refine KPS_A ?_ ?_ | with_reducible refine KPS_J ?_ | with_reducible refine KPS_L ?_ | with_reducible refine KPS_N ?_ | with_reducible refine KPS_S ?_ | with_reducible refine KPS_gJ ?_ | with_reducible refine KPS_gI ?_ | omega | (unfold pq; omega) | exact KPS_o (by assumption) (by assumption))
theorem zm_H_frame {v1 : Int32} {v2 : Int32} {v3 : Int32} (h : KPS u0 u) : KE u0 (hm_H_frame N u v1 v2 v3) := by
  unfold hm_H_frame
  exact zb_H_frame_0 h
theorem zb_H_link_33 {G : Unit} (h : KPS u0 u)  : KE u0 (hb_H_link_33 N G u) := by
  unfold hb_H_link_33
  repeat' (first | with_reducible assumption | with_reducible refine KE_br ?_ ?_ | with_reducible refine KE_bnd ?_ (fun _ _ _ => ?_) | with_reducible refine KE_ck ?_ | with_reducible refine KE_ltm ?_ (fun _ _ => ?_) | with_reducible refine KE_some ?_ | with_reducible refine KE_boe (fun _ _ => ?_) | with_reducible refine KE_ltv (fun _ => ?_) | with_reducible refine KPS_I ?_ ?_ | with_reducible refine KPS_A ?_ ?_ | with_reducible refine KPS_J ?_ | with_reducible refine KPS_L ?_ | with_reducible refine KPS_N ?_ | with_reducible refine KPS_S ?_ | with_reducible refine KPS_gJ ?_ | with_reducible refine KPS_gI ?_ | omega | (unfold pq; omega) | exact KPS_o (by assumption) (by assumption))
theorem zb_H_link_0 {G : Unit} {v1 : Int32} {v2 : Int32} (h : KPS u0 u)  : KE u0 (hb_H_link_0 N G u v1 v2) := by
  unfold hb_H_link_0
  repeat' (first | with_reducible assumption | with_reducible refine KE_br ?_ ?_ | with_reducible refine KE_bnd ?_ (fun _ _ _ => ?_) | with_reducible refine KE_ck ?_ | with_reducible refine KE_ltm ?_ (fun _ _ => ?_) | with_reducible refine KE_some ?_ | with_reducible refine KE_boe (fun _ _ => ?_) | with_reducible exact zb_H_link_33 (by assumption) | with_reducible exact zm_Wl_find (by assumption) | with_reducible refine KE_ltv (fun _ => ?_) | with_reducible refine KPS_I ?_ ?_ | with_reducible refine KPS_A ?_ ?_ | with_reducible refine KPS_J ?_ | with_reducible refine KPS_L ?_ | with_reducible refine KPS_N ?_ | with_reducible refine KPS_S ?_ | with_reducible refine KPS_gJ ?_ | with_reducible refine KPS_gI ?_ | omega | (unfold pq; omega) | exact KPS_o (by assumption) (by assumption))
theorem zm_H_link {v1 : Int32} {v2 : Int32} (h : KPS u0 u) : KE u0 (hm_H_link N u v1 v2) := by
  unfold hm_H_link
  exact zb_H_link_0 h
end
end
section
set_option maxRecDepth 100000
section
variable {T : Nat → Option (Nat × Nat × List Nat × Nat × Nat)} {Fv : Int64 → Int64 → Prop} {P : Int64 → Prop} {u v w w1 : MS} {PR N q r n B W Y i h m g x j wb nb cb rk c f i2 h2 m2 k a U d : Nat} {L : List Nat} {ow kd : Nat → Nat} {t rest : Int64} {gi gl ga ki kl ka kj : List Nat}
theorem WRD_w (W : WRD T Fv P PR u) (k : WQ Fv P PR u w) : WRD T Fv P PR w := by
  obtain ⟨g1, g2, g3, g4, g5, g6⟩ := W
  have s := SCQ_w k.2.1
  exact ⟨k.1, CTX_s s g2, WFT_s s g3, CDT_s s g4, fun r hr hal => PSQ_w (g5 r hr (fun e => hal (k.2.2.en e))) k.2.1, ALN_k g6 (k.2.1.2.2.2.1 1948 (by omega) (by simp)) (fun r hr h1 => LNB_w h1 k.2.1)⟩
theorem WRD_g (W : WRD T Fv P PR u) (f : FC 0 gi gl ga [] [] [] [] u w) (d : DWc Fv P PR w) (h1 : ∀ k, k ∈ [22, 442, 449] → k ∉ gi) (h2 : ∀ k, k ∈ [3, 23, 25, 29, 30, 31, 32, 1948] → k ∉ ga) : WRD T Fv P PR w := by
  obtain ⟨g1, g2, g3, g4, g5, g6⟩ := W
  have s : SCQ u w := SCQ_f f h1 (fun k hk => h2 k (by simp at hk ⊢; omega))
  have hI : ∀ r k, k < 100 → w.1 (pq r k) = u.1 (pq r k) := fun r k hk => f.2.2.2.2.1 r k hk (by simp)
  have hA : ∀ r k, k < 100 → w.2.2.1 (pq r k) = u.2.2.1 (pq r k) := fun r k hk => f.2.2.2.2.2.2.1 r k hk (by simp)
  refine ⟨d, CTX_s s g2, WFT_s s g3, CDT_s s g4, fun r hr hal => PSQ_s (g5 r hr (fun e => hal ?_)) (hA r 30 (by omega)) (hA r 37 (by omega)) (fun k hk => hI r k (by simp at hk; omega)) (f.2.2.2.2.2.1 r 10 (by omega) (by simp)) (f.2.2.1 23 (by omega) (h2 23 (by simp))), ALN_k g6 (f.2.2.1 1948 (by omega) (h2 1948 (by simp))) (fun r hr h1 => LNB_fc h1 (fun k hk => hI r k (by simp at hk; omega)))⟩
  rw [show F w (pq r 9) = F u (pq r 9) from congrArg _ (hI r 9 (by omega))]; exact e
theorem DWc_g0 (dw : DWc Fv P PR u) (f : FC 0 gi gl ga [] [] [] [] u w) (h1 : ∀ k, k ∈ [942, 950, 953, 955, 956] → k ∉ gi) (h2 : ∀ k, k ∈ [1948, 53, 54] → k ∉ ga) : DWc Fv P PR w := by
  refine DWc_gl dw f (by simp) (by simp) (fun hr => ?_) (fun k hk => h1 k (by simp at hk ⊢; omega)) (by rw [f.Fg (by omega) (h1 950 (by simp))]; exact dw.1.2.2.1) (by rw [f.Fg (by omega) (h1 956 (by simp))]; exact dw.1.2.2.2.1.2) h2
  have s := (dw.2 0 hr).1
  unfold SMQ
  rw [f.Fq (by omega) (by simp), f.Fq (by omega) (by simp), f.Fq (by omega) (by simp), f.Fq (by omega) (by simp)]; exact s
theorem W22 (W : WRD T Fv P PR u) (hr : r < PR) (hal : F u (pq r 9) ≠ 3) : 0 ≤ F u (pq r 21) ∧ F u (pq r 21) ≤ 60 := by
  obtain ⟨j, wb, nb, cb, rk, i, h, m, L, x, st, -⟩ := W.2.2.2.2.1 r hr hal
  have := st.2.1; omega
theorem go_okc {y : Int32} {x : Int} (W : WRD T Fv P PR u) (hx : RG x) (hN : 600000000010 ≤ N) : OK (fun w _ => ∃ PR2, WRD T Fv P PR2 w) (hm_H_go N u (I x) y) := by
  have me : ∀ {z : Nat}, OK (fun w _ => ∃ PR2, WRD T Fv P PR2 w) (some (u, (.inr z : Int32 ⊕ Nat))) := fun {z} => ok_some.mpr ⟨PR, W⟩
  unfold hm_H_go hb_H_go_0 hb_H_go_11 hb_H_go_71
  rw [I_of y, lit0q, I_lit (n := 500)]
  refine k_lt (ti_rng _) ⟨by decide, by decide⟩ (fun _ => me) (fun h0 => k_le (ti_rng _) ⟨by decide, by decide⟩ (fun h5 => ?_) (fun _ => me))
  have h5 : y.toInt ≤ 500 := h5
  refine ok_bnd.mpr (ok_mono (findc_ok (N := N) W.1.1 hx) (fun w r hw => ?_))
  obtain ⟨rfl, hr⟩ := hw
  rcases r with _ | jj
  · exact ok_br.mpr ⟨fun _ => me, fun z => absurd z (by decide)⟩
  · refine ok_br.mpr ⟨fun z => absurd z (by simp), fun _ => ?_⟩
    rw [bo_s]
    refine k_F (y := 3) rfl ⟨by decide, by decide⟩ (fun _ => me) (fun hal => ?_)
    have g81 : OK (fun w _ => ∃ PR2, WRD T Fv P PR2 w) (hb_H_go_81 N () w (I y.toInt) jj) := by
      unfold hb_H_go_81
      exact ok_bnd.mpr (ok_mono (goOn_ok (N := N) W (hr jj rfl) hal ⟨h0, h5⟩ hN) (fun w _ hw => ok_some.mpr hw))
    refine ok_br.mpr ⟨fun _ => ?_, fun _ => g81⟩
    obtain ⟨r, e⟩ := isReady_any (N := N) (u := w) (q := jj)
    rw [e, bnd_so]
    exact ok_br.mpr ⟨fun _ => me, fun _ => g81⟩
theorem clock_okc {y : Int32} (W : WRD T Fv P PR u) : OK (fun w _ => WRD T Fv P PR w) (hm_H_clock N u y) := by
  have me : ∀ {z : Nat}, OK (fun w _ => WRD T Fv P PR w) (some (u, (.inr z : Int32 ⊕ Nat))) := fun {z} => ok_some.mpr W
  unfold hm_H_clock hb_H_clock_0 hb_H_clock_24
  refine ok_br.mpr ⟨fun _ => me, fun _ => ok_br.mpr ⟨fun _ => me, fun _ => ok_br.mpr ⟨fun _ => ok_br.mpr ⟨fun _ => me, fun _ => ok_lt.mpr (ok_some.mpr ?_)⟩, fun _ => me⟩⟩⟩
  rw [I_of (u.1 944 + y), wi_e]
  have f : FC 0 [944] [] [] [] [] [] [] u (wi u 944 (u.1 944 + y).toInt) := FC.wi_g FC.rf (by omega) (by simp)
  exact WRD_g W f (DWc_g0 W.1 f (by simp) (by simp)) (by simp) (by simp)
theorem postPair_ok {x : Int} (d : DWc Fv P PR u) (cx : CTX Fv P u) (hq : q < PR) (hx : RG x) (hN : 3000000 ≤ N) : OK (fun w _ => WQ Fv P PR u w) (hm_Wl_postPair N u q (I x)) := by
  unfold hm_Wl_postPair hb_Wl_postPair_0 hb_Wl_postPair_17
  refine k_F (y := 3) rfl ⟨by decide, by decide⟩ (fun _ => ok_some.mpr (WQ.rf d)) (fun hal => ?_)
  obtain ⟨n0, ow0, kd0, B0, W0, Y0, p0⟩ := (d.2 q hq).2.2 hal
  have sm := (d.2 q hq).1
  have hq24 := d.1.1.2
  rw [I_F (k := pq q 7), p0.2.2.2.1.1, show (30 : Int32) = I 30 from rfl]
  have pb := PTQ_b p0
  refine k_lt ⟨by omega, by omega⟩ ⟨by decide, by decide⟩ (fun hY => ?_) (fun _ => ok_some.mpr (WQ.rf d))
  rw [show hm_Pr_want N u q 3 = hm_Pr_want N u q (I 3) from rfl]
  refine ok_bnd.mpr (ok_mono (want_ok (N := N) p0 cx ⟨by decide, by decide⟩ (by omega)) (fun w r hw => ?_))
  obtain ⟨hr, U, ow2, kd2, p2, hU, f2, sB, sW⟩ := hw
  have fc := FC_want f2
  have hal2 : F w (pq q 9) ≠ 3 := by rw [fc.Fq (by omega) (by simp)]; exact hal
  have sm2 : SMQ w q := SMQ_up sm (fc.Fq (by omega) (by simp)) (fc.Fq (by omega) (by simp)) (by rw [fc.Fq (by omega) (by simp)]; exact Int.le_refl _) hal
  have d2 : DWc Fv P PR w := DWc_fc d fc hq hal hal2 sm2 ⟨U, ow2, kd2, B0, W0, Y0, p2⟩ (by simp) (by simp)
  have w44 : w.2.2.2 44 = u.2.2.2 44 := f2.2.2.2 44 (by simp; unfold pq; omega)
  have wf2 : WFR u w := fc.W (by simp) (by simp) (by simp) (by simp) (by simp) (by simp) w44
  have st2 : ST3 u w := ST3.of fc (by simp) (by simp)
  have cx2 : CTX Fv P w := CTX_fr cx (fc.1 22 (by omega) (by simp)) (fc.2.2.1 3 (by omega) (by simp))
  rcases hr with rfl | rfl
  · refine ok_br.mpr ⟨fun _ => ?_, fun y => absurd y (by decide)⟩
    exact ok_bnd.mpr (ok_mono (endsBy_any (N := N) (a := 20) d2 cx2 hq (by omega)) (fun w3 _ hw3 => ok_some.mpr (WQ.tr ⟨d2, wf2, st2⟩ hw3)))
  · refine ok_br.mpr ⟨fun y => absurd y (by decide), fun _ => ?_⟩
    have hU := hU rfl
    have hU : (U : Int) + 3 ≤ 500 := hU
    have e4 : w.1 (pq q 4) = I ((U : Nat) : Int) := by rw [I_F, p2.1.1]
    rw [e4, show hm_Te_make N w 8 2 = hm_Te_make N w (I 8) (I 2) from rfl, e_make, bnd_so]
    refine e_in ⟨by omega, by omega⟩ (by decide) (ok_lt.mpr ?_)
    rw [tnI (n := U) rfl (by omega), wj_e, lit0q, e_make, bnd_so, lit1q, I_add]
    refine e_in ⟨by omega, by omega⟩ (by decide) (ok_lt.mpr ?_)
    rw [tnI (n := U + 1) (by omega) (by omega), wj_e, I_lit (n := 4), show Int32.ofNat q = I ((q : Nat) : Int) from rfl, e_make, bnd_so, I_lit (n := 2), I_add]
    refine e_in ⟨by show 0 ≤ _ + (2 : Int); omega, by show _ + (2 : Int) < _; omega⟩ (by decide) (ok_lt.mpr (ok_lt.mpr ?_))
    rw [tnI (n := U + 2) (by show _ + (2 : Int) = _; omega) (by omega), wj_e]
    have row : ∀ k, (wj (wj (wj w (pq q 2) U (mk 8 2)) (pq q 2) (U + 1) (mk 0 x)) (pq q 2) (U + 2) (mk 4 ((q : Nat) : Int))).2.2.2 (pq q 2) k = if k = U + 2 then mk 4 ((q : Nat) : Int) else if k = U + 1 then mk 0 x else if k = U then mk 8 2 else w.2.2.2 (pq q 2) k := fun k => by rw [CEL.row, CEL.row, CEL.row]
    have cl : CEL q w (wj (wj (wj w (pq q 2) U (mk 8 2)) (pq q 2) (U + 1) (mk 0 x)) (pq q 2) (U + 2) (mk 4 ((q : Nat) : Int))) := CEL.rf.put.put.put
    have j44 : (wj (wj (wj w (pq q 2) U (mk 8 2)) (pq q 2) (U + 1) (mk 0 x)) (pq q 2) (U + 2) (mk 4 ((q : Nat) : Int))).2.2.2 44 = w.2.2.2 44 := cl.2.2.1 44 (by unfold pq; omega)
    show OK _ (bnd (hm_Te_make N (upI (wj (wj (wj w (pq q 2) U (mk 8 2)) (pq q 2) (U + 1) (mk 0 x)) (pq q 2) (U + 2) (mk 4 ((q : Nat) : Int))) (pq q 4) _) _ _) _)
    generalize wj (wj (wj w (pq q 2) U (mk 8 2)) (pq q 2) (U + 1) (mk 0 x)) (pq q 2) (U + 2) (mk 4 ((q : Nat) : Int)) = y at cl row j44 ⊢
    rw [show y.1 (pq q 4) = I ((U : Nat) : Int) by rw [cl.2.1]; exact e4, I_lit (n := 3), I_add, show ((U : Nat) : Int) + (OfNat.ofNat 3 : Int) = ((U + 3 : Nat) : Int) by show _ + (3 : Int) = _; omega, wi_e, I_lit (n := 5), e_make, bnd_so]
    have nh : ∀ {s y : Int}, s = 0 ∨ s = 4 → RG y → ¬ isH (mk s y) ∧ P (mk s y) := fun {s y} hs hy => ⟨nh_mk2 (by omega), by
      rcases hs with rfl | rfl
      · exact (cx.2.2.2.2.1 y hy).1
      · exact (cx.2.2.2.2.1 y hy).2.2⟩
    have z0 : ∀ {t : Int64}, (¬ isH t ∧ P t) → SZc (w.2.2.2 (pq q 2)) U ow2 kd2 Fv P 1 t 0 := fun ht => Or.inl ⟨ht.1, ht.2, rfl⟩
    obtain ⟨ow3, kd3, k1, k2, k3⟩ := TUP_new (k := 2) (s := fun _ => 0) (f0 := 1) (h2 := y.2.2.2 (pq q 2)) p2.1.2.2 (fun i hi => by rw [row, if_neg (by omega), if_neg (by omega), if_neg (by omega)]) (by rw [row, if_neg (by omega), if_neg (by omega), if_pos rfl]; rfl) (fun j hj => by
      rcases (show j = 0 ∨ j = 1 by omega) with rfl | rfl
      · rw [row, if_neg (by omega), if_pos (by omega)]; exact z0 (nh (Or.inl rfl) hx)
      · rw [row, if_pos (by omega)]; exact z0 (nh (Or.inr rfl) ⟨by omega, by omega⟩)) (by decide) (by omega)
    have f3 : FC q [] [] [] [4] [] [] [2] w (wi y (pq q 4) ((U + 3 : Nat) : Int)) := FC.wi_q (FC.mo cl.1 (by simp) (by simp) (by simp) (by simp) (by simp) (by simp) (by simp)) (by omega) (by simp)
    have p3 := PTQ_cells p2 f3 (by rw [F_wi (by omega) (by omega), if_pos rfl]) (by omega) k1 k3
    refine ok_bnd.mpr (ok_mono (comes_ok (N := N) p3 (by omega) k2) (fun w4 _ h4 => ok_some.mpr ?_))
    obtain ⟨f4, p4, q4⟩ := h4
    have f5 : FC q [] [] [] [4, 7] [] [] [2, 6] w w4 := FC.tr (FC.mo f3 (by simp) (by simp) (by simp) (by simp) (by simp) (by simp) (by simp)) (FC.mo f4 (by simp) (by simp) (by simp) (by simp) (by simp) (by simp) (by simp))
    have hal4 : F w4 (pq q 9) ≠ 3 := by rw [f5.Fq (by omega) (by simp)]; exact hal2
    have le7 : F w (pq q 7) ≤ F w4 (pq q 7) := by rw [p4.2.2.2.1.1, p2.2.2.2.1.1]; omega
    have sm4 : SMQ w4 q := SMQ_up sm2 (f5.Fq (by omega) (by simp)) (f5.Fq (by omega) (by simp)) le7 hal2
    exact ⟨DWc_fc d2 f5 hq hal2 hal4 sm4 ⟨_, _, _, _, _, _, p4⟩ (by simp) (by simp), WFR.tr wf2 (f5.W (by simp) (by simp) (by simp) (by simp) (by simp) (by simp) (q4.trans j44)), ST3.tr st2 (ST3.of f5 (by simp) (fun _ => le7))⟩
theorem send_okc {x z : Int} {y : Int32} (W : WRD T Fv P PR u) (hx : RG x) (hz : RG z) (hN : 3000000 ≤ N) : OK (fun w _ => WRD T Fv P PR w) (hm_H_send N u (I x) y (I z)) := by
  have me : ∀ {z : Nat}, OK (fun w _ => WRD T Fv P PR w) (some (u, (.inr z : Unit ⊕ Nat))) := fun {z} => ok_some.mpr W
  have s112 : ∀ w, WQ Fv P PR u w → OK (fun w _ => WRD T Fv P PR w) (hb_H_send_112 N () w) := fun w hw => by
    unfold hb_H_send_112
    exact ok_bnd.mpr (ok_mono (settle_ok (N := N) hw.1 (CTX_w W.2.1 hw.2.1) hN) (fun w2 _ hw2 => ok_some.mpr (WRD_w W (WQ.tr hw hw2))))
  have s91 : ∀ (jj : Nat) (s : Int), jj < PR → (s = 0 ∨ s = 1) → (s = 1 → 0 ≤ z ∧ z < F u 22) → OK (fun w _ => WRD T Fv P PR w) (hb_H_send_91 N () u (I z) (some jj) (I s)) := fun jj s hj hs h1 => by
    unfold hb_H_send_91
    rw [e_make, bnd_so, bo_s, lit0q]
    refine ok_bnd.mpr (ok_mono (postc_ok (N := N) (a := 0) (v3 := 0) (v4 := 0) W.1 W.2.1 hj (Or.inl rfl) ⟨by decide, by decide⟩ ⟨by decide, by decide⟩ (fun _ => Or.inl ⟨rfl, nh_mk2 (by omega), ?_⟩) hN) (fun w _ hw => s112 w hw.1))
    rcases hs with rfl | rfl
    · exact (W.2.1.2.2.2.2.1 z hz).1
    · exact W.2.1.2.2.2.2.2.1 z (h1 rfl).1 (h1 rfl).2
  have s45 : ∀ (jj : Nat), jj < PR → (y = 1 → 0 ≤ z ∧ z < F u 22) → OK (fun w _ => WRD T Fv P PR w) (hb_H_send_45 N () u y (I z) (some jj)) := fun jj hj h1 => by
    unfold hb_H_send_45 hb_H_send_54
    rw [bo_s]
    have y1 : decide (y < 0) = false → decide (y ≤ 2) = true → decide (y = 2) = false → decide (y = 0) = false → y = 1 := fun a b c d => by
      have a := of_decide_eq_false a
      have b := of_decide_eq_true b
      have c := of_decide_eq_false c
      have d := of_decide_eq_false d
      rw [I_of y] at a b c d ⊢
      have r := ti_rng y
      have a2 : ¬ y.toInt < 0 := fun z => a ((I_lt r.1 r.2 (by decide) (by decide)).mpr z)
      have b2 : y.toInt ≤ 2 := (I_le r.1 r.2 (by decide) (by decide)).mp b
      have c2 : y.toInt ≠ 2 := fun z => c (by rw [z]; rfl)
      have d2 : y.toInt ≠ 0 := fun z => d (by rw [z]; rfl)
      rw [show y.toInt = 1 by omega]; rfl
    refine ok_br.mpr ⟨fun _ => me, fun c1 => ok_br.mpr ⟨fun c2 => ok_br.mpr ⟨fun _ => ?_, fun c3 => ok_br.mpr ⟨fun _ => s91 jj 0 hj (Or.inl rfl) (fun z => absurd z (by decide)), fun c4 => s91 jj 1 hj (Or.inr rfl) (fun _ => h1 (y1 c1 c2 c3 c4))⟩⟩, fun _ => me⟩⟩
    exact ok_bnd.mpr (ok_mono (postPair_ok (N := N) W.1 W.2.1 hj hz hN) (fun w _ hw => s112 w hw))
  unfold hm_H_send hb_H_send_0 hb_H_send_35
  refine ok_bnd.mpr (ok_mono (findc_ok (N := N) W.1.1 hx) (fun w r hw => ?_))
  obtain ⟨rfl, hr⟩ := hw
  rcases r with _ | jj
  · exact ok_br.mpr ⟨fun _ => me, fun z => absurd z (by decide)⟩
  · refine ok_br.mpr ⟨fun z => absurd z (by simp), fun _ => ok_br.mpr ⟨fun _ => ?_, fun c1 => s45 jj (hr jj rfl) (fun e => absurd e (of_decide_eq_false c1))⟩⟩
    rw [lit0q, I_F (k := 22)]
    exact k_lt hz ⟨by decide, by decide⟩ (fun _ => me) (fun h0 => k_lt hz (FRG1 w _) (fun h1 => s45 jj (hr jj rfl) (fun _ => ⟨h0, h1⟩)) (fun _ => me))
theorem of_any {y : Int32} {z : Int} (h21 : F u (pq q 21) ≤ 60) (hz : 0 ≤ z ∧ z ≤ 4) : ∃ r, hm_Fr_of N u q y (I z) = some (u, r) := by
  unfold hm_Fr_of hb_Fr_of_0 hb_Fr_of_26 hb_Fr_of_12 hb_Fr_of_26
  rw [I_of y, lit0q, I_F (k := pq q 21)]
  have r := ti_rng y
  rw [decL r.1 r.2 (by decide) (by decide), decL r.1 r.2 (FRG1 u _).1 (FRG1 u _).2]
  by_cases h0 : y.toInt < 0
  · rw [decide_eq_true h0, br_tq]; exact ⟨_, rfl⟩
  · rw [decide_eq_false h0, br_fq]
    by_cases h1 : y.toInt < F u (pq q 21)
    · rw [decide_eq_true h1, br_tq, I_lit (n := 5), I_mul, I_add, (I_inb (by show _ ≤ _ * (5 : Int) + _; omega) (by show _ * (5 : Int) + _ < _; omega)).mpr ⟨by show 0 ≤ _ * (5 : Int) + _; omega, by show _ * (5 : Int) + _ < _; omega⟩, ck_t]
      exact ⟨_, rfl⟩
    · rw [decide_eq_false h1, br_fq]; exact ⟨_, rfl⟩
theorem namesIn_any {y : Int32} (h21 : F u (pq q 21) ≤ 60) : ∃ r, hm_Fr_namesIn N u q y = some (u, r) := by
  unfold hm_Fr_namesIn hb_Fr_namesIn_0 hb_Fr_namesIn_25
  rw [I_lit (n := 2)]
  obtain ⟨r1, e1⟩ := of_any (N := N) (y := y) (z := 2) h21 (by omega)
  obtain ⟨r2, e2⟩ := of_any (N := N) (y := y + 1) (z := 2) h21 (by omega)
  rw [e2, bnd_so, e1, bnd_so, bnd_so]
  exact br_any ⟨_, rfl⟩ ⟨_, rfl⟩
theorem waitsIn_any {y : Int32} (h21 : F u (pq q 21) ≤ 60) : ∃ r, hm_Fr_waitsIn N u q y = some (u, r) := by
  unfold hm_Fr_waitsIn hb_Fr_waitsIn_0 hb_Fr_waitsIn_25
  rw [I_lit (n := 3)]
  obtain ⟨r1, e1⟩ := of_any (N := N) (y := y) (z := 3) h21 (by omega)
  obtain ⟨r2, e2⟩ := of_any (N := N) (y := y + 1) (z := 3) h21 (by omega)
  rw [e2, bnd_so, e1, bnd_so, bnd_so]
  exact br_any ⟨_, rfl⟩ ⟨_, rfl⟩
theorem frame_okc {x : Int} {y z : Int32} (W : WRD T Fv P PR u) (hx : RG x) : OK (fun w _ => w = u) (hm_H_frame N u (I x) y z) := by
  unfold hm_H_frame hb_H_frame_0 hb_H_frame_40
  refine ok_bnd.mpr (ok_mono (findc_ok (N := N) W.1.1 hx) (fun w r hw => ?_))
  obtain ⟨rfl, hr⟩ := hw
  rcases r with _ | jj
  · exact ok_br.mpr ⟨fun _ => ok_some.mpr rfl, fun z => absurd z (by decide)⟩
  · refine ok_br.mpr ⟨fun z => absurd z (by simp), fun _ => ?_⟩
    rw [bo_s]
    refine k_F (y := 3) rfl ⟨by decide, by decide⟩ (fun _ => ok_some.mpr rfl) (fun hal => ?_)
    have h21 := (W22 W (hr jj rfl) hal).2
    obtain ⟨r0, e0⟩ := of_any (N := N) (y := (w.1 (pq jj 21) - 1) - y) (z := 0) h21 (by omega)
    obtain ⟨r1, e1⟩ := of_any (N := N) (y := (w.1 (pq jj 21) - 1) - y) (z := 1) h21 (by omega)
    obtain ⟨r2, e2⟩ := namesIn_any (N := N) (y := (w.1 (pq jj 21) - 1) - y) h21
    obtain ⟨r3, e3⟩ := waitsIn_any (N := N) (y := (w.1 (pq jj 21) - 1) - y) h21
    have e0 : hm_Fr_of N w jj ((w.1 (pq jj 21) - 1) - y) 0 = some (w, r0) := e0
    have e1 : hm_Fr_of N w jj ((w.1 (pq jj 21) - 1) - y) 1 = some (w, r1) := e1
    rw [e0, e1, e2, e3, bnd_so, bnd_so, bnd_so, bnd_so]
    exact ok_br.mpr ⟨fun _ => ok_some.mpr rfl, fun _ => ok_br.mpr ⟨fun _ => ok_br.mpr ⟨fun _ => ok_some.mpr rfl, fun _ => ok_br.mpr ⟨fun _ => ok_some.mpr rfl, fun _ => ok_br.mpr ⟨fun _ => ok_some.mpr rfl, fun _ => ok_br.mpr ⟨fun _ => ok_some.mpr rfl, fun _ => ok_some.mpr rfl⟩⟩⟩⟩, fun _ => ok_some.mpr rfl⟩⟩
end
end
section
set_option maxRecDepth 100000
section
variable {T : Nat → Option (Nat × Nat × List Nat × Nat × Nat)} {Fv : Int64 → Int64 → Prop} {P : Int64 → Prop} {u v w w1 : MS} {PR N q r n B W Y i h m g x j wb nb cb rk c f i2 h2 m2 k a U d : Nat} {L : List Nat} {ow kd : Nat → Nat} {t rest : Int64} {gi gl ga ki kl ka kj : List Nat}
theorem wakes_any : ∃ r, hm_Pr_wakes N u q = some (u, r) := by
  unfold hm_Pr_wakes hb_Pr_wakes_0 hb_Pr_wakes_26
  exact br_any ⟨_, rfl⟩ ⟨_, rfl⟩
theorem br_u {α : Type} {b : Bool} {p q : Option (MS × α)} (h1 : OK (fun w _ => w = u) p) (h2 : OK (fun w _ => w = u) q) : OK (fun w _ => w = u) (br b p q) := ok_br.mpr ⟨fun _ => h1, fun _ => h2⟩
theorem so_u {α : Type} {r : α} : OK (fun w _ => w = u) (some (u, r)) := ok_some.mpr rfl
theorem process_okc {x : Int} {y : Int32} (W : WRD T Fv P PR u) (hx : RG x) (hN : 3000000 ≤ N) : OK (fun w _ => w = u) (hm_H_process N u (I x) y) := by
  unfold hm_H_process hb_H_process_0
  refine ok_bnd.mpr (ok_mono (findc_ok (N := N) W.1.1 hx) (fun w r hw => ?_))
  obtain ⟨rfl, hr⟩ := hw
  rcases r with _ | jj
  · exact ok_br.mpr ⟨fun _ => so_u, fun z => absurd z (by decide)⟩
  · refine ok_br.mpr ⟨fun z => absurd z (by simp), fun _ => ?_⟩
    rw [bo_s]
    have main : ∀ t0, OK (fun v _ => v = w) (hb_H_process_28 N () w (I x) y jj t0) := fun t0 => by
      unfold hb_H_process_28 hb_H_process_115 hb_H_process_119 hb_H_process_136 hb_H_process_150 hb_H_process_169 hb_H_process_183 hb_H_process_201 hb_H_process_218 hb_H_process_219 hb_H_process_233 hb_H_process_252 hb_H_process_269
      obtain ⟨r1, e1⟩ := isReady_any (N := N) (u := w) (q := jj)
      obtain ⟨r2, e2⟩ := wakes_any (N := N) (u := w) (q := jj)
      rw [e1, e2, bnd_so, bnd_so]
      have e3 : OK (fun v _ => v = w) (bnd (hm_Wl_watchesOf N w (I x)) (fun u21 r21 => some (u21, r21))) := ok_bnd.mpr (ok_mono (watchesOf_ok (N := N) W.1 hx (by omega)) (fun v _ hv => ok_some.mpr hv))
      repeat' (first | exact so_u | exact e3 | apply br_u)
    exact br_u (main _) (main _)
theorem link_okc {x : Int} {y : Int32} (W : WRD T Fv P PR u) (hx : RG x) : OK (fun w _ => w = u) (hm_H_link N u (I x) y) := by
  unfold hm_H_link hb_H_link_0 hb_H_link_33
  refine ok_bnd.mpr (ok_mono (findc_ok (N := N) W.1.1 hx) (fun w r hw => ?_))
  obtain ⟨rfl, hr⟩ := hw
  rcases r with _ | jj
  · exact ok_br.mpr ⟨fun _ => so_u, fun z => absurd z (by decide)⟩
  · refine ok_br.mpr ⟨fun z => absurd z (by simp), fun _ => ?_⟩
    rw [bo_s]
    have s := (W.1.2 jj (hr jj rfl)).1.1
    rw [I_of y, lit0q, I_F (k := pq jj 15)]
    refine br_u so_u (k_lt (ti_rng _) ⟨by decide, by decide⟩ (fun _ => so_u) (fun h0 => k_lt (ti_rng _) (FRG1 w _) (fun h1 => e_in ⟨by omega, by omega⟩ (by decide) so_u) (fun _ => so_u)))
theorem shown_okc {y : Int32} (h9 : 0 ≤ F u 9 ∧ F u 9 ≤ 100) : OK (fun w _ => w = u) (hm_H_shown N u y) := by
  unfold hm_H_shown hb_H_shown_0 hb_H_shown_12
  rw [I_of y, lit0q, I_F (k := 9)]
  exact k_lt (ti_rng _) ⟨by decide, by decide⟩ (fun _ => so_u) (fun h0 => k_lt (ti_rng _) (FRG1 u _) (fun h1 => e_in ⟨by omega, by omega⟩ (by decide) so_u) (fun _ => so_u))
theorem printed_okc {y z : Int32} (W : WRD T Fv P PR u) : OK (fun w _ => w = u) (hm_H_printed N u y z) := by
  have g := W.1.1.2.2.2.2.2
  unfold hm_H_printed hb_H_printed_0 hb_H_printed_32
  rw [I_of y, I_of z, lit0q, I_F (k := 953)]
  have ry := ti_rng y
  have rz := ti_rng z
  refine k_lt ry ⟨by decide, by decide⟩ (fun _ => so_u) (fun h0 => k_le (FRG1 u _) ry (fun _ => so_u) (fun h1 => k_lt rz ⟨by decide, by decide⟩ (fun _ => so_u) (fun h2 => ?_)))
  have g2 := g.2 y.toInt.toNat (by omega)
  refine e_in ⟨by omega, by omega⟩ (by decide) ?_
  rw [tnI (n := y.toInt.toNat) (by omega) (by omega), I_A (k := 53)]
  refine k_lt rz (A_r u 53 _) (fun h3 => ?_) (fun _ => so_u)
  rw [I_lit (n := 100), I_mul, I_add]
  exact e_in ⟨by show 0 ≤ _ * (100 : Int) + _; omega, by show _ * (100 : Int) + _ < _; omega⟩ (by decide) so_u
theorem count_okc {y : Int32} : OK (fun w _ => w = u) (hm_H_count N u y) := by
  unfold hm_H_count hb_H_count_0 hb_H_count_70 hb_H_count_89 hb_H_count_108
  repeat' (first | exact so_u | apply br_u)
theorem isFun_e {y : Int32} : ∃ r, hm_H_isFunction N u y = some (u, r) ∧ (r ≠ 0 → F u 10 ≠ 0 ∧ 0 ≤ y.toInt ∧ y.toInt < F u 442) := by
  unfold hm_H_isFunction hb_H_isFunction_0 hb_H_isFunction_26 hb_H_isFunction_27
  by_cases e0 : u.1 10 = 0
  · rw [decide_eq_true e0, br_tq, show isb (0 : Int32) = true from by decide, ck_t]; exact ⟨0, rfl, fun z => absurd rfl z⟩
  · rw [decide_eq_false e0, br_fq]
    have r := ti_rng y
    have e1 : F u 10 ≠ 0 := fun z => e0 (by rw [I_F (k := 10), z]; rfl)
    rw [I_of y, lit0q, I_F (k := 442), decL r.1 r.2 (by decide) (by decide), decI (FRG1 u _).1 (FRG1 u _).2 r.1 r.2]
    by_cases h0 : y.toInt < 0
    · rw [decide_eq_true h0, br_tq, show isb (I 0) = true from by decide, ck_t]; exact ⟨I 0, rfl, fun z => absurd rfl z⟩
    · rw [decide_eq_false h0, br_fq]
      by_cases h1 : F u 442 ≤ y.toInt
      · rw [decide_eq_true h1, br_tq, show isb (I 0) = true from by decide, ck_t]; exact ⟨I 0, rfl, fun z => absurd rfl z⟩
      · rw [decide_eq_false h1, br_fq, show isb (1 : Int32) = true from by decide, ck_t]
        exact ⟨1, rfl, fun _ => ⟨e1, by rw [I_ti r.1 r.2]; omega, by rw [I_ti r.1 r.2]; omega⟩⟩
theorem function_okc {y z : Int32} (W : WRD T Fv P PR u) : OK (fun w _ => w = u) (hm_H_function N u y z) := by
  have c := W.2.2.2.1.1
  unfold hm_H_function hb_H_function_0
  obtain ⟨r, e, hr⟩ := isFun_e (N := N) (u := u) (y := y)
  rw [e, bnd_so]
  refine ok_br.mpr ⟨fun _ => so_u, fun h0 => ?_⟩
  obtain ⟨-, h1, h2⟩ := hr (of_decide_eq_false h0)
  have i6 : ∀ {v : Int32}, OK (fun w _ => w = u) (ck (inb y 666) (some (u, v))) := fun {v} => by
    rw [I_of y]; exact e_in ⟨by omega, by omega⟩ (by decide) so_u
  exact br_u i6 (br_u i6 (br_u i6 (br_u i6 so_u)))
theorem signW_ok {b : Nat} {y z : Int32} (hw : WDc u b) (hb : b < 1000) : OK (fun w _ => w = u) (hm_Wo_sign N u b y z) := by
  obtain ⟨w1, w2, w3, w4, w5⟩ := hw
  unfold hm_Wo_sign hb_Wo_sign_0 hb_Wo_sign_35
  have ry := ti_rng y
  have rz := ti_rng z
  rw [I_of y, I_of z, lit0q, I_F (k := 20 * b + 2)]
  refine k_lt ry ⟨by decide, by decide⟩ (fun _ => so_u) (fun h0 => k_le (FRG1 u _) ry (fun _ => so_u) (fun h1 => k_lt rz ⟨by decide, by decide⟩ (fun _ => so_u) (fun h2 => ?_)))
  have g2 := w5 y.toInt.toNat (by omega)
  rw [lit1q, I_add]
  refine e_in ⟨by omega, by omega⟩ (by omega) (e_in ⟨by omega, by omega⟩ (by omega) ?_)
  rw [tnI (n := y.toInt.toNat + 1) (by omega) (by omega), tnI (n := y.toInt.toNat) (by omega) (by omega), I_A (k := b + 2), I_A (k := b + 2), I_sub]
  refine k_lt rz ⟨by omega, by omega⟩ (fun h3 => e_in ⟨by omega, by omega⟩ (by omega) ?_) (fun _ => so_u)
  rw [I_add]
  exact e_in ⟨by omega, by omega⟩ (by omega) so_u
theorem letter_okc {y z : Int32} (W : WRD T Fv P PR u) : OK (fun w _ => w = u) (hm_H_letter N u y z) := by
  unfold hm_H_letter hb_H_letter_0
  exact br_u so_u (ok_bnd.mpr (ok_mono (signW_ok (N := N) W.2.1.2.2.1 (by omega)) (fun w _ hw => ok_some.mpr hw)))
theorem show209 {hq : Nat} (W : WRD T Fv P PR u) (hn : n ≤ 512) (g : HPc (u.2.2.2 (pq hq 2)) n ow kd Fv P) (gt : GT n ow kd P t) (hN : 1000000010 ≤ N) : OK (fun w _ => WRD T Fv P PR w ∧ (0 ≤ F w 9 ∧ F w 9 ≤ 100) ∧ FC 0 [1964, 865, 866, 9] [] [56] [] [] [] [] u w) (bnd (hm_Te_text N u (pq hq 2) t 56 0) (fun u5 r5 => lt (upI u5 9 r5) (fun w7 => some (w7, (w7.1 9))))) := by
  have cx := W.2.1
  rw [lit0q]
  refine ok_bnd.mpr (ok_mono (text_ok (N := N) (j := 56) (fr := 0) cx.2.2.2.2.2.2 cx.2.2.1 (by unfold pq; omega) rfl hn g gt (Or.inr rfl) ⟨by decide, by decide⟩ hN) (fun w1 r hw1 => ok_lt.mpr (ok_some.mpr ?_)))
  obtain ⟨f1, k, rfl, k0, k1⟩ := hw1
  rw [wi_e]
  have f2 : FC 0 [1964, 865, 866, 9] [] [56] [] [] [] [] u (wi w1 9 k) := FC.wi_g (FC.mo (FC.of f1 (by simp) (by simp) (by simp) (by simp)) (by simp) (by simp) (by simp) (by simp) (by simp) (by simp) (by simp)) (by omega) (by simp)
  exact ⟨WRD_g W f2 (DWc_g0 W.1 f2 (by simp) (by simp)) (by simp) (by simp), by rw [F_wi (by omega) (by omega), if_pos rfl]; exact ⟨k0, k1⟩, f2⟩
def SHQ (T : Nat → Option (Nat × Nat × List Nat × Nat × Nat)) (Fv : Int64 → Int64 → Prop) (P : Int64 → Prop) (PR : Nat) (u w : MS) : Prop := w = u ∨ (WRD T Fv P PR w ∧ (0 ≤ F w 9 ∧ F w 9 ≤ 100) ∧ FC 0 [1964, 865, 866, 9] [] [56] [] [] [] [] u w)
theorem show145 {y z : Int32} {b : Nat} (W : WRD T Fv P PR u) (hq : q < PR) (hal : F u (pq q 9) ≠ 3) (hz : 0 ≤ z.toInt) (st : STc T u q j wb nb cb rk L) (h26 : F u (pq q 26) = ((wb + h : Nat) : Int)) (h24 : F u (pq q 24) = ((nb + m : Nat) : Int)) (hb : (y = 0 → ((b : Nat) : Int) = F u (pq q 7)) ∧ (y ≠ 0 → y = 1 → b = m) ∧ (y ≠ 0 → y ≠ 1 → b = h)) (hN : 1000000010 ≤ N) : OK (fun w _ => SHQ T Fv P PR u w) (hb_H_show_145 N () u y z q q (I ((j : Nat) : Int)) (I ((b : Nat) : Int))) := by
  obtain ⟨n, ow, kd, B, W2, Y, p⟩ := (W.1.2 q hq).2.2 hal
  have eB : B = nb + m := by have := p.2.1.1; omega
  have eW : W2 = wb + h := by have := p.2.2.1.1; omega
  subst eB; subst eW
  have pb := PTQ_b p
  have pn := p.1.2.1
  have rz := ti_rng z
  have sh : ∀ {t : Int64}, GT n ow kd P t → OK (fun w _ => SHQ T Fv P PR u w) (hb_H_show_209 N () u q t) := fun gt => ok_mono (show209 (N := N) W (by omega) p.1.2.2 gt hN) (fun w _ hw => Or.inr hw)
  obtain ⟨hc, hj⟩ := st.2.1
  obtain ⟨s4, s5⟩ := st.2.2.1
  have bb : b ≤ 1000000 := by
    by_cases e0 : y = 0
    · have := hb.1 e0; have := p.2.2.2.1.1; omega
    · by_cases e1 : y = 1
      · have := hb.2.1 e0 e1; omega
      · have := hb.2.2 e0 e1; omega
  unfold hb_H_show_145
  rw [I_of z]
  refine k_lt rz ⟨by omega, by omega⟩ (fun h1 => ok_br.mpr ⟨fun c0 => ?_, fun c0 => ok_br.mpr ⟨fun c1 => ?_, fun c1 => ?_⟩⟩) (fun _ => ok_some.mpr (Or.inl rfl))
  · have e := hb.1 (of_decide_eq_true c0)
    have e7 := p.2.2.2.1.1
    refine e_in ⟨hz, by omega⟩ (by decide) ?_
    rw [tnI (n := z.toInt.toNat) (by omega) (by omega)]
    exact sh (p.2.2.2.1.2 _ (by omega))
  · have e := hb.2.1 (of_decide_eq_false c0) (of_decide_eq_true c1)
    obtain ⟨l, l1, l2, l3⟩ := p.2.2.2.2.1
    rw [I_lit (n := 2), of_e (y := ((j : Nat) : Int)) (z := 2) (a := j) (k := 2) hc hj rfl (Nat.le_refl _) rfl (by omega), bnd_so, s4, I_add, lnQ_e l1]
    refine e_in ⟨by omega, by omega⟩ (by omega) ?_
    rw [tnI (n := nb + z.toInt.toNat) (by omega) (by omega)]
    exact sh (p.2.1.2 _ (by omega))
  · have e := hb.2.2 (of_decide_eq_false c0) (of_decide_eq_false c1)
    obtain ⟨l, l1, l2, l3⟩ := p.2.2.2.2.2.1
    rw [I_lit (n := 3), of_e (y := ((j : Nat) : Int)) (z := 3) (a := j) (k := 3) hc hj rfl (Nat.le_refl _) rfl (by omega), bnd_so, s5, I_add, lnQ_e l1]
    refine e_in ⟨by omega, by omega⟩ (by omega) ?_
    rw [tnI (n := wb + z.toInt.toNat) (by omega) (by omega)]
    exact sh (p.2.2.1.2 _ (by omega))
theorem show_okc {x : Int} {y z : Int32} (W : WRD T Fv P PR u) (hx : RG x) (hN : 1000000010 ≤ N) : OK (fun w _ => SHQ T Fv P PR u w) (hm_H_show N u (I x) y z) := by
  have me : ∀ {r : Int32}, OK (fun w _ => SHQ T Fv P PR u w) (some (u, r)) := fun {r} => ok_some.mpr (Or.inl rfl)
  unfold hm_H_show hb_H_show_0 hb_H_show_19 hb_H_show_39 hb_H_show_93
  refine ok_bnd.mpr (ok_mono (findc_ok (N := N) W.1.1 hx) (fun w r hw => ?_))
  obtain ⟨rfl, hr⟩ := hw
  rcases r with _ | jj
  · exact ok_br.mpr ⟨fun _ => me, fun z => absurd z (by decide)⟩
  · have hj := hr jj rfl
    refine ok_br.mpr ⟨fun z => absurd z (by simp), fun _ => ?_⟩
    rw [bo_s, bo_s, show decide (0 ≤ z) = decide (I 0 ≤ I z.toInt) from by rw [← I_of z]; rfl]
    refine k_le ⟨by decide, by decide⟩ (ti_rng _) (fun h0 => ok_br.mpr ⟨fun _ => ?_, fun _ => ok_br.mpr ⟨fun _ => me, fun _ => ok_br.mpr ⟨fun _ => me, fun _ => ?_⟩⟩⟩) (fun _ => me)
    · refine k_F (y := 3) rfl ⟨by decide, by decide⟩ (fun he => ok_br.mpr ⟨fun _ => ?_, fun _ => me⟩) (fun _ => me)
      obtain ⟨hq2, n, ow, kd, e1, e2, e3, e4, e5, e6⟩ := (W.1.2 jj hj).2.1 he
      rw [e1, bo_s]
      exact ok_mono (show209 (N := N) W e4 e5 e6 hN) (fun w _ hw => Or.inr hw)
    · refine k_F (y := 3) rfl ⟨by decide, by decide⟩ (fun _ => me) (fun hal => ?_)
      obtain ⟨j, wb, nb, cb, rk, i, h, m, L, xx, st, e4, tt, hxx, b1, b2, -⟩ := W.2.2.2.2.1 jj hj hal
      obtain ⟨hc, hj60⟩ := st.2.1
      obtain ⟨s4, s5⟩ := st.2.2.1
      obtain ⟨n, ow, kd, B, W2, Y, p⟩ := (W.1.2 jj hj).2.2 hal
      have pb := PTQ_b p
      have e24 : B = nb + m := by have := p.2.1.1; omega
      have e26 : W2 = wb + h := by have := p.2.2.1.1; omega
      have ec : w.1 (pq jj 21) - 1 = I ((j : Nat) : Int) := by rw [I_F (k := pq jj 21), hc, lit1q, I_sub, show ((j + 1 : Nat) : Int) - 1 = ((j : Nat) : Int) by omega]
      have nI : hm_Fr_namesIn N w jj (I ((j : Nat) : Int)) = some (w, I ((m : Nat) : Int)) := by
        unfold hm_Fr_namesIn hb_Fr_namesIn_0 hb_Fr_namesIn_25
        rw [I_F (k := pq jj 21), hc, lit1q, I_add, decI (by omega) (by omega) (by omega) (by omega), decide_eq_true (by omega), br_tq, I_lit (n := 2), of_e (y := ((j : Nat) : Int)) (z := 2) (a := j) (k := 2) hc hj60 rfl (Nat.le_refl _) rfl (by omega), bnd_so, s4, I_F (k := pq jj 24), b2, I_sub, show ((nb + m : Nat) : Int) - ((nb : Nat) : Int) = ((m : Nat) : Int) by omega]
      have wI : hm_Fr_waitsIn N w jj (I ((j : Nat) : Int)) = some (w, I ((h : Nat) : Int)) := by
        unfold hm_Fr_waitsIn hb_Fr_waitsIn_0 hb_Fr_waitsIn_25
        rw [I_F (k := pq jj 21), hc, lit1q, I_add, decI (by omega) (by omega) (by omega) (by omega), decide_eq_true (by omega), br_tq, I_lit (n := 3), of_e (y := ((j : Nat) : Int)) (z := 3) (a := j) (k := 3) hc hj60 rfl (Nat.le_refl _) rfl (by omega), bnd_so, s5, I_F (k := pq jj 26), b1, I_sub, show ((wb + h : Nat) : Int) - ((wb : Nat) : Int) = ((h : Nat) : Int) by omega]
      rw [ec, nI, wI, bnd_so, bnd_so]
      refine ok_br.mpr ⟨fun c0 => ?_, fun c0 => ok_br.mpr ⟨fun c1 => ?_, fun c1 => ?_⟩⟩
      · rw [I_F (k := pq jj 7), p.2.2.2.1.1]
        exact show145 W hj hal h0 st b1 b2 ⟨fun _ => p.2.2.2.1.1.symm, fun z => absurd (of_decide_eq_true c0) z, fun z => absurd (of_decide_eq_true c0) z⟩ hN
      · exact show145 W hj hal h0 st b1 b2 ⟨fun z => absurd z (of_decide_eq_false c0), fun _ _ => rfl, fun _ z => absurd (of_decide_eq_true c1) z⟩ hN
      · exact show145 W hj hal h0 st b1 b2 ⟨fun z => absurd z (of_decide_eq_false c0), fun _ z => absurd z (of_decide_eq_false c1), fun _ _ => rfl⟩ hN
theorem clearAll_ok (W : WRD T Fv P PR u) : OK (fun w _ => WRD T Fv P 0 w ∧ FC 0 [942, 943, 944, 945, 946, 950, 953, 955, 956] [] [] [] [] [] [] u w) (hm_Wl_clearAll N u) := by
  unfold hm_Wl_clearAll hb_Wl_clearAll_0
  simp only [lt_e]
  rw [lit0q]
  simp only [wi_e]
  generalize hw : wi (wi (wi (wi (wi (wi (wi (wi (wi u 942 0) 943 0) 944 0) 945 0) 946 0) 950 0) 953 0) 955 0) 956 0 = w
  have f : FC 0 [942, 943, 944, 945, 946, 950, 953, 955, 956] [] [] [] [] [] [] u w := by
    rw [← hw]
    exact FC.wi_g (FC.wi_g (FC.wi_g (FC.wi_g (FC.wi_g (FC.wi_g (FC.wi_g (FC.wi_g (FC.wi_g FC.rf (by omega) (by simp)) (by omega) (by simp)) (by omega) (by simp)) (by omega) (by simp)) (by omega) (by simp)) (by omega) (by simp)) (by omega) (by simp)) (by omega) (by simp)) (by omega) (by simp)
  have v : F w 942 = 0 ∧ F w 950 = 0 ∧ F w 953 = 0 ∧ F w 955 = 0 ∧ F w 956 = 0 := by
    rw [← hw]
    simp [F_wi (show -2147483648 ≤ (0 : Int) by decide) (show (0 : Int) < 2147483648 by decide)]
  obtain ⟨v1, v2, v3, v4, v5⟩ := v
  obtain ⟨g1, g2, g3, g4, g5, g6⟩ := W
  have s : SCQ u w := SCQ_f f (by simp) (by simp)
  refine ok_some.mpr ⟨⟨⟨⟨⟨v1, by omega⟩, fun r hr => absurd hr (by omega), by omega, ⟨by rw [v4]; rfl, by omega⟩, fun i hi => absurd hi (by omega), by omega, fun i hi => absurd hi (by omega)⟩, fun r hr => absurd hr (by omega)⟩, CTX_s s g2, WFT_s s g3, CDT_s s g4, fun r hr => absurd hr (by omega), ALN_k g6 (f.2.2.1 1948 (by omega) (by simp)) (fun r hr h1 => LNB_fc h1 (fun k hk => f.2.2.2.2.1 r k (by simp at hk; omega) (by simp)))⟩, f⟩
theorem begin_okc {x : Int} (W : WRD T Fv P PR u) (hx : RG x) : OK (fun w _ => ∃ PR2, WRD T Fv P PR2 w) (hm_H_begin N u (I x)) := by
  have me : ∀ {z : Nat}, OK (fun w _ => ∃ PR2, WRD T Fv P PR2 w) (some (u, (.inr z : Unit ⊕ Nat))) := fun {z} => ok_some.mpr ⟨PR, W⟩
  unfold hm_H_begin hb_H_begin_0 hb_H_begin_102
  refine ok_br.mpr ⟨fun _ => me, fun _ => ?_⟩
  obtain ⟨r, e, hr⟩ := isFun_e (N := N) (u := u) (y := I x)
  rw [I_ti hx.1 hx.2] at hr
  rw [e, bnd_so]
  refine ok_br.mpr ⟨fun _ => me, fun h0 => ?_⟩
  obtain ⟨-, h1, h2⟩ := hr (of_decide_eq_false h0)
  have c := W.2.2.2.1
  have c1 := c.1
  obtain ⟨a, en, ea, ee, et⟩ := c.2.1 x.toNat (by omega)
  refine e_in ⟨h1, by have := c.1; omega⟩ (by decide) ?_
  rw [tnI (n := x.toNat) (by omega) (by omega), I_A (k := 25), ea, lit0q]
  refine k_eq ⟨by have := (W.2.2.1 _ _ _ _ _ _ et).2.1; omega, by have := (W.2.2.1 _ _ _ _ _ _ et).2.1; omega⟩ ⟨by decide, by decide⟩ (fun e0 => ?_) (fun _ => me)
  have e0 : a = 0 := by omega
  subst e0
  refine ok_bnd.mpr (ok_mono (clearAll_ok (N := N) W) (fun w1 _ hw1 => ok_lt.mpr ?_))
  obtain ⟨W1, f1⟩ := hw1
  rw [lit1q, wi_e]
  have f2 : FC 0 [943] [] [] [] [] [] [] w1 (wi w1 943 1) := FC.wi_g FC.rf (by omega) (by simp)
  have W2 : WRD T Fv P 0 (wi w1 943 1) := WRD_g W1 f2 (DWc_g0 W1.1 f2 (by simp) (by simp)) (by simp) (by simp)
  have s2 : SCQ u (wi w1 943 1) := by
    have a := SCQ_f f1 (by simp) (by simp)
    have b := SCQ_f f2 (by simp) (by simp)
    exact ⟨fun k hk => (b.1 k hk).trans (a.1 k hk), fun k hk => (b.2 k hk).trans (a.2 k hk)⟩
  refine ok_bnd.mpr (ok_mono (bornc_ok (N := N) W2.1 W2.2.2.2.2.2) (fun w3 r3 hw3 => ?_))
  rcases hw3 with ⟨rfl, rfl⟩ | ⟨rfl, hP, d0, f0, al0, z0, p0⟩
  · exact ok_br.mpr ⟨fun _ => ok_some.mpr ⟨0, W2⟩, fun z => absurd z (by decide)⟩
  · refine ok_br.mpr ⟨fun z => absurd z (by simp), fun _ => ?_⟩
    rw [bo_s]
    refine e_in ⟨h1, by have := c.1; omega⟩ (by decide) ?_
    have s3 : SCQ (wi w1 943 1) w3 := SCQ_f f0 (by simp) (by simp)
    have s03 : SCQ u w3 := ⟨fun k hk => (s3.1 k hk).trans (s2.1 k hk), fun k hk => (s3.2 k hk).trans (s2.2 k hk)⟩
    rw [I_A (k := 29), s03.A (k := 29) (by simp), ee]
    have te := (W.2.2.1 _ _ _ _ _ _ et).1
    refine ok_bnd.mpr (ok_mono (open_ok (N := N) (q := 0) (j := 0) (B := 0) (W := 0) (s := 0) (z0 21 (by simp)) (by omega) (z0 24 (by simp)) (z0 26 (by simp)) (by omega)) (fun w4 _ hw4 => ok_some.mpr ⟨0 + 1, ?_⟩))
    obtain ⟨f4, o1, -, o3, o4, o5, o6, o7⟩ := hw4
    have p4 : PTQ w4 0 0 (fun _ => 0) (fun _ => 0) Fv P 0 0 0 := PTQ_same p0 (fun k hk => f4.2.2.2.2.1 0 k (by simp at hk; omega) (fun _ => by simp at hk ⊢; omega)) (fun k hk => f4.jq (by simp at hk; omega) (by simp))
    have h90 : F w3 (pq 0 9) = 0 := z0 9 (by simp)
    have h94 : F w4 (pq 0 9) = 0 := by rw [f4.Fq (by omega) (by simp)]; exact h90
    have d4 : DWc Fv P (0 + 1) w4 := DWc_fc d0 f4 (by omega) (by rw [h90]; decide) (by rw [h94]; decide) (SMQ_up (d0.2 0 (by omega)).1 (f4.Fq (by omega) (by simp)) (f4.Fq (by omega) (by simp)) (by rw [f4.Fq (by omega) (by simp)]; exact Int.le_refl _) (by rw [h90]; decide)) ⟨_, _, _, _, _, _, p4⟩ (by simp) (by simp)
    have s4 : SCQ u w4 := by
      have b := SCQ_f f4 (by simp) (by simp)
      exact ⟨fun k hk => (b.1 k hk).trans (s03.1 k hk), fun k hk => (b.2 k hk).trans (s03.2 k hk)⟩
    refine ⟨d4, CTX_s s4 W.2.1, WFT_s s4 W.2.2.1, CDT_s s4 W.2.2.2.1, fun r hr hal => ?_, ALN_k al0 (f4.2.2.1 1948 (by omega) (by simp)) (fun r hr h1 => LNB_fc h1 (fun k hk => f4.2.2.2.2.1 r k (by simp at hk; omega) (fun _ => by simp at hk ⊢; omega)))⟩
    have e0 : r = 0 := by omega
    subst e0
    refine ⟨0, 0, 0, 0, 0, en, 0, 0, [], 0, ⟨⟨rfl, rfl, rfl, rfl⟩, ⟨o1, by omega⟩, ⟨o3, o4⟩, ?_, trivial⟩, ?_, et, Or.inl rfl, p4.2.2.1.1, p4.2.1.1, fun z => absurd rfl z⟩
    · rw [f4.Fq (by omega) (by simp)]; exact z0 28 (by simp)
    · rw [o5, I_ti (by omega) (by omega)]
end
end
section
set_option maxRecDepth 100000
def WDk (u : MS) (v n : Nat) : Prop := ∀ k : Nat, k < n → 0 ≤ A u (v + 2) k ∧ A u (v + 2) k ≤ A u (v + 2) (k + 1) ∧ A u (v + 2) (k + 1) ≤ bl (v + 1)
def TPB (u : MS) : Prop := ∀ k, k < 4000 → fits .byte (.int (u.2.2.1 5 k)) = true
section
variable {u v w : MS} {N k n x y b s e l at0 : Nat}
theorem isSame_ok {st : Int} (hk : (k : Int) + 1 < il (x + 2)) (hl : il (x + 2) ≤ 100000) (hb2 : bl (x + 1) ≤ 100000) (hb3 : bl b ≤ 100000) (e1 : A u (x + 2) k = ((s : Nat) : Int)) (e2 : A u (x + 2) (k + 1) = ((e : Nat) : Int)) (h1 : s ≤ e) (h2 : e ≤ bl (x + 1)) (hst : 0 ≤ st) (h3 : st + (e - s : Nat) ≤ bl b) (hN : 100010 ≤ N) : OK (fun w _ => w = u) (hm_Wo_isSame N u x (I ((k : Nat) : Int)) b (I st)) := by
  unfold hm_Wo_isSame hb_Wo_isSame_0
  refine e_in ⟨by omega, by omega⟩ (by omega) ?_
  rw [tnI (n := k) rfl (by omega), I_A (k := x + 2), e1]
  have gen : ∀ (M i : Nat), s ≤ i → i ≤ e → e - i < M → OK (fun w _ => w = u) (hg_Wo_isSame N M u x (I ((k : Nat) : Int)) b (I st) (I ((s : Nat) : Int)) (I ((i : Nat) : Int))) := by
    intro M
    induction M with
    | zero => intro i _ _ h; omega
    | succ M ih =>
      intro i hi1 hi2 hM
      show OK _ (hb_Wo_isSame_12 N (hg_Wo_isSame N M) u x (I ((k : Nat) : Int)) b (I st) (I ((s : Nat) : Int)) (I ((i : Nat) : Int)))
      unfold hb_Wo_isSame_12
      rw [lit1q, I_add]
      refine e_in ⟨by omega, by omega⟩ (by omega) ?_
      rw [tnI (n := k + 1) (by omega) (by omega), I_A (k := x + 2), e2]
      refine k_le ⟨by omega, by omega⟩ ⟨by omega, by omega⟩ (fun _ => ok_ck.mpr ⟨by decide, ok_some.mpr rfl⟩) (fun h4 => ?_)
      refine e_in ⟨by omega, by omega⟩ (by omega) ?_
      rw [I_add, I_sub]
      refine e_in ⟨by omega, by omega⟩ (by omega) ?_
      refine ok_br.mpr ⟨fun _ => ?_, fun _ => ok_ck.mpr ⟨by decide, ok_some.mpr rfl⟩⟩
      rw [I_add, show ((i : Nat) : Int) + 1 = ((i + 1 : Nat) : Int) by omega]
      exact ih (i + 1) (by omega) (by omega) (by omega)
  exact gen N s (Nat.le_refl _) h1 (by omega)
theorem seekW_ok {st ln : Int} (hw : WDc u x) (hx : x < 1000) (hb3 : bl b ≤ 100000) (hst : 0 ≤ st) (hln : 0 ≤ ln ∧ ln ≤ 100000) (h3 : st + ln ≤ bl b) (hN : 200010 ≤ N) : OK (fun w r => w = u ∧ (r = I (-1) ∨ ∃ k : Nat, r = I ((k : Nat) : Int) ∧ ((k : Nat) : Int) < F u (20 * x + 2))) (hm_Wo_seek N u x b (I st) (I ln)) := by
  obtain ⟨w1, w2, w3, w4, w5⟩ := hw
  unfold hm_Wo_seek hb_Wo_seek_0
  have gen : ∀ (M i : Nat), (i : Int) ≤ F u (20 * x + 2) → F u (20 * x + 2) - i < M → OK (fun w r => w = u ∧ (r = I (-1) ∨ ∃ k : Nat, r = I ((k : Nat) : Int) ∧ ((k : Nat) : Int) < F u (20 * x + 2))) (hg_Wo_seek N M u x b (I st) (I ln) (I ((i : Nat) : Int))) := by
    intro M
    induction M with
    | zero => intro i _ h; omega
    | succ M ih =>
      intro i hi hM
      show OK _ (hb_Wo_seek_3 N (hg_Wo_seek N M) u x b (I st) (I ln) (I ((i : Nat) : Int)))
      unfold hb_Wo_seek_3 hb_Wo_seek_47
      rw [I_F (k := 20 * x + 2)]
      refine k_le (FRG1 u _) ⟨by omega, by omega⟩ (fun _ => ok_some.mpr ⟨rfl, Or.inl rfl⟩) (fun h4 => ?_)
      obtain ⟨a1, a2, a3⟩ := w5 i h4
      rw [lit1q, I_add]
      have nx : OK (fun w r => w = u ∧ (r = I (-1) ∨ ∃ k : Nat, r = I ((k : Nat) : Int) ∧ ((k : Nat) : Int) < F u (20 * x + 2))) (hg_Wo_seek N M u x b (I st) (I ln) (I (((i : Nat) : Int) + 1))) := by
        rw [show ((i : Nat) : Int) + 1 = ((i + 1 : Nat) : Int) by omega]
        exact ih (i + 1) (by omega) (by omega)
      refine e_in ⟨by omega, by omega⟩ (by omega) (e_in ⟨by omega, by omega⟩ (by omega) ?_)
      rw [tnI (n := i + 1) (by omega) (by omega), tnI (n := i) rfl (by omega), I_A (k := x + 2), I_A (k := x + 2), I_sub]
      refine k_eq ⟨by omega, by omega⟩ ⟨by omega, by omega⟩ (fun h5 => ?_) (fun _ => nx)
      refine ok_bnd.mpr (ok_mono (isSame_ok (N := N) (s := (A u (x + 2) i).toNat) (e := (A u (x + 2) (i + 1)).toNat) (by omega) w3 w4 hb3 (by omega) (by omega) (by omega) (by omega) hst (by omega) (by omega)) (fun w r hw => ?_))
      subst hw
      exact ok_br.mpr ⟨fun _ => nx, fun _ => ok_some.mpr ⟨rfl, Or.inr ⟨i, rfl, h4⟩⟩⟩
  rw [lit0q, show (0 : Int) = ((0 : Nat) : Int) from rfl]
  exact gen N 0 (by omega) (by omega)
def FNWc (u w : MS) (x : Nat) (r : Int32) : Prop := WDc w x ∧ FR [20 * x + 2] [] [x + 1, x + 2] [] u w ∧ F u (20 * x + 2) ≤ F w (20 * x + 2) ∧ ∃ k : Nat, r = I ((k : Nat) : Int) ∧ ((k : Nat) : Int) < F w (20 * x + 2)
theorem findW_ok {st ln : Int} (hw : WDc u x) (hx : x < 1000) (h1 : 1 ≤ F u (20 * x + 2)) (hx5 : x + 1 ≠ 5 ∧ x + 2 ≠ 5) (hb3 : bl 5 = 4000) (hst : 0 ≤ st) (hln : 0 ≤ ln ∧ ln ≤ 4000) (h3 : st + ln ≤ 4000) (tp : TPB u) (hN : 200010 ≤ N) : OK (fun w r => FNWc u w x r) (hm_Wo_find N u x 5 (I st) (I ln)) := by
  have hw' := hw
  obtain ⟨w1, w2, w3, wb4, w5⟩ := hw
  unfold hm_Wo_find hb_Wo_find_0 hb_Wo_find_51
  refine ok_bnd.mpr (ok_mono (seekW_ok (N := N) (b := 5) hw' hx (by rw [hb3]; omega) hst (by omega) (by rw [hb3]; exact h3) hN) (fun w r hr => ?_))
  obtain ⟨rfl, hr⟩ := hr
  have z0 : OK (fun v r => FNWc w v x r) (some (w, (0 : Int32))) := ok_some.mpr ⟨hw', FR.rf, Int.le_refl _, 0, rfl, by omega⟩
  rcases hr with rfl | ⟨k, rfl, hk⟩
  · refine ok_br.mpr ⟨fun _ => ?_, fun z => absurd z (by decide)⟩
    rw [show Int32.ofNat (il (x + 2)) = I ((il (x + 2) : Nat) : Int) from rfl, show Int32.ofNat (bl (x + 1)) = I ((bl (x + 1) : Nat) : Int) from rfl, I_F (k := 20 * x + 2), lit1q, I_add]
    refine k_le ⟨by omega, by omega⟩ ⟨by omega, by omega⟩ (fun _ => z0) (fun h4 => ?_)
    refine e_in ⟨by omega, by omega⟩ (by omega) ?_
    rw [tnI (n := (F w (20 * x + 2)).toNat) (by omega) (by omega), I_A (k := x + 2), I_add]
    have a3 : 0 ≤ A w (x + 2) (F w (20 * x + 2)).toNat ∧ A w (x + 2) (F w (20 * x + 2)).toNat ≤ bl (x + 1) := by
      obtain ⟨b1, b2, b3⟩ := w5 ((F w (20 * x + 2)).toNat - 1) (by omega)
      rw [show (F w (20 * x + 2)).toNat - 1 + 1 = (F w (20 * x + 2)).toNat by omega] at b2 b3
      omega
    refine k_le ⟨by omega, by omega⟩ ⟨by omega, by omega⟩ (fun h5 => ?_) (fun _ => z0)
    refine e_in ⟨by omega, by omega⟩ (by omega) ?_
    have ft : ftB 3 (w.2.2.1 5) (I st).toNatClampNeg (I ln).toNatClampNeg = true := by
      rw [tnI (n := st.toNat) (by omega) (by omega), tnI (n := ln.toNat) (by omega) (by omega)]
      unfold ftB
      rw [if_pos rfl, List.all_eq_true]
      intro i hi
      exact tp _ (by have := List.mem_range.mp hi; omega)
    rw [ft, Bool.and_true]
    refine e_cp ⟨hst, a3.1, hln.1, by rw [hb3]; omega, by omega⟩ (by rw [hb3]; decide) (by omega) (ok_lt.mpr ?_)
    generalize hw2 : upA w (x + 1) _ = w2
    have f2 : FR [20 * x + 2] [] [x + 1, x + 2] [] w w2 := by rw [← hw2]; exact FR_upA FR.rf (by simp)
    have i2 : w2.1 = w.1 := by rw [← hw2]; rfl
    have r2 : w2.2.2.1 (x + 2) = w.2.2.1 (x + 2) := by rw [← hw2]; exact if_neg (by omega)
    have F2 : ∀ k, F w2 k = F w k := fun k => by show (w2.1 k).toInt = _; rw [i2]; rfl
    have A2 : ∀ k, A w2 (x + 2) k = A w (x + 2) k := fun k => by show (w2.2.2.1 (x + 2) k).toInt = _; rw [r2]; rfl
    rw [show w2.1 (20 * x + 2) = I (F w (20 * x + 2)) by rw [i2]; exact I_F, tnI (n := (F w (20 * x + 2)).toNat) (by omega) (by omega), I_A (k := x + 2), A2, I_add, I_add]
    refine e_in ⟨by omega, by omega⟩ (by omega) (e_in ⟨by omega, by omega⟩ (by omega) (ok_lt.mpr (ok_lt.mpr (ok_some.mpr ?_))))
    rw [tnI (n := (F w (20 * x + 2)).toNat + 1) (by omega) (by omega), wa_e, show (wa w2 (x + 2) ((F w (20 * x + 2)).toNat + 1) (A w (x + 2) (F w (20 * x + 2)).toNat + ln)).1 (20 * x + 2) = I (F w (20 * x + 2)) by show w2.1 _ = _; rw [i2]; exact I_F, I_add, wi_e]
    generalize hw4 : wi (wa w2 (x + 2) ((F w (20 * x + 2)).toNat + 1) (A w (x + 2) (F w (20 * x + 2)).toNat + ln)) (20 * x + 2) (F w (20 * x + 2) + 1) = w4
    have f4 : FR [20 * x + 2] [] [x + 1, x + 2] [] w w4 := by rw [← hw4]; exact FR.wi (FR.wa f2 (by simp)) (by simp)
    have F4 : F w4 (20 * x + 2) = F w (20 * x + 2) + 1 := by rw [← hw4, F_wi (by omega) (by omega), if_pos rfl]
    have A4 : ∀ k, A w4 (x + 2) k = if k = (F w (20 * x + 2)).toNat + 1 then A w (x + 2) (F w (20 * x + 2)).toNat + ln else A w (x + 2) k := fun k => by
      rw [← hw4]
      show A (wa w2 (x + 2) _ _) (x + 2) k = _
      rw [A_wa (by omega) (by omega), if_pos rfl, A2]
    have e5 : (w4.1 (20 * x + 2)) - I 1 = I (((F w (20 * x + 2)).toNat : Nat) : Int) := by
      rw [I_F (k := 20 * x + 2), F4, I_sub, show F w (20 * x + 2) + 1 - 1 = (((F w (20 * x + 2)).toNat : Nat) : Int) by omega]
    refine ⟨⟨by omega, by omega, w3, wb4, fun k hk => ?_⟩, f4, by omega, (F w (20 * x + 2)).toNat, e5, by omega⟩
    rw [A4, A4]
    by_cases z : k = (F w (20 * x + 2)).toNat
    · subst z
      rw [if_neg (by omega), if_pos rfl]; omega
    · have := w5 k (by omega)
      rw [if_neg (by omega), if_neg (by omega)]; exact this
  · refine ok_br.mpr ⟨fun z => ?_, fun _ => ok_some.mpr ⟨hw', FR.rf, Int.le_refl _, k, rfl, hk⟩⟩
    have e := (I_eq (x := ((k : Nat) : Int)) (y := -1) (by omega) (by omega) (by decide) (by decide)).mp (show I ((k : Nat) : Int) = I (-1) from of_decide_eq_true z)
    omega
end
end
section
set_option maxRecDepth 100000
def CST (u : MS) : Prop := (0 ≤ F u 81 ∧ F u 81 ≤ 4000) ∧ TPB u ∧ (WDc u 9 ∧ F u 182 = 15)
def WRS (u : MS) : Prop := (WDc u 1 ∧ 22 ≤ F u 22) ∧ WDc u 12 ∧ 1 ≤ F u 242
def KTK (u w : MS) (c : Nat) : Prop := FR [89, 22, 242] [] [2, 3, 7, 13, 14] [] u w ∧ (∀ t, t ≠ c → A w 7 t = A u 7 t) ∧ (F u 22 ≤ F w 22 ∧ F u 242 ≤ F w 242) ∧ WRS w
def TVL (u : MS) (t k e1 e2 : Nat) : Prop := (1 ≤ k ∧ k ≤ 44) ∧ (k = 2 → 0 ≤ A u 7 t ∧ A u 7 t < F u 22) ∧ (k = 3 → 0 ≤ A u 7 t ∧ A u 7 t < F u 242) ∧ (k = 4 → ∃ f L : Nat, A u 7 t = ((f : Nat) : Int) ∧ L ≤ 40 ∧ u.2.2.1 5 (f + L) &&& 255 = 34 ∧ e1 + 1 ≤ f ∧ f + L + 1 ≤ e2) ∧ e1 < e2
section
variable {u v w : MS} {N k n c e1 e2 t : Nat}
theorem KTK.rf (h : WRS u) : KTK u u c := ⟨FR.rf, fun _ _ => rfl, ⟨Int.le_refl _, Int.le_refl _⟩, h⟩
theorem CST_k (h : CST u) (f : FR [89, 22, 242] [] [2, 3, 7, 13, 14] [] u w) : CST w := by
  obtain ⟨h1, h2, h3, h4⟩ := h
  have e5 : w.2.2.1 5 = u.2.2.1 5 := f.2.2.1 5 (by simp)
  refine ⟨by rw [show F w 81 = F u 81 from congrArg _ (f.1 81 (by simp))]; exact h1, fun k hk => by rw [e5]; exact h2 k hk, WDc_fr h3 f (by simp) (by simp), by rw [show F w 182 = F u 182 from congrArg _ (f.1 182 (by simp))]; exact h4⟩
theorem KTK.i (h : KTK u w c) {k : Nat} (hk : k ∉ [89, 22, 242]) : F w k = F u k := congrArg _ (h.1.1 k hk)
theorem KTK_at (h : WRS u) {y : Int} : KTK u (wi u 89 y) c := by
  have f : FR [89, 22, 242] [] [2, 3, 7, 13, 14] [] u (wi u 89 y) := FR.wi FR.rf (by simp)
  have f0 : FR [89] [] [] [] u (wi u 89 y) := FR.wi FR.rf (by simp)
  have e1 : F (wi u 89 y) 22 = F u 22 := congrArg _ (f0.1 22 (by simp))
  have e2 : F (wi u 89 y) 242 = F u 242 := congrArg _ (f0.1 242 (by simp))
  exact ⟨f, fun _ _ => rfl, ⟨by rw [e1]; exact Int.le_refl _, by rw [e2]; exact Int.le_refl _⟩, ⟨WDc_fr h.1.1 f0 (by simp) (by simp), by rw [e1]; exact h.1.2⟩, WDc_fr h.2.1 f0 (by simp) (by simp), by rw [e2]; exact h.2.2⟩
theorem KTK_val (h : KTK u w c) {y : Int} : KTK u (wa w 7 c y) c := by
  obtain ⟨f, g1, g2, g3, g4, g5⟩ := h
  have f0 : FR [] [] [7] [] w (wa w 7 c y) := FR.wa FR.rf (by simp)
  refine ⟨FR.wa f (by simp), fun t ht => ?_, g2, ⟨WDc_fr g3.1 f0 (by simp) (by simp), g3.2⟩, WDc_fr g4 f0 (by simp) (by simp), g5⟩
  rw [wa_ne ht]; exact g1 t ht
theorem KTK.tr (a : KTK u v c) (b : KTK v w c) : KTK u w c := ⟨FR.tr a.1 b.1, fun t ht => (b.2.1 t ht).trans (a.2.1 t ht), ⟨Int.le_trans a.2.2.1.1 b.2.2.1.1, Int.le_trans a.2.2.1.2 b.2.2.1.2⟩, b.2.2.2⟩
theorem signAt_e {x : Int} (h : CST u) (hx : RG x) : ∃ r, hm_To_signAt N u (I x) = some (u, r) ∧ ((0 ≤ x ∧ x < F u 81 ∧ r = u.2.2.1 5 x.toNat &&& 255) ∨ ((x < 0 ∨ F u 81 ≤ x) ∧ r = I (-1))) := by
  unfold hm_To_signAt hb_To_signAt_0 hb_To_signAt_26 hb_To_signAt_12 hb_To_signAt_26
  rw [lit0q, I_F (k := 81), decL hx.1 hx.2 (by decide) (by decide), decL hx.1 hx.2 (FRG1 u _).1 (FRG1 u _).2]
  by_cases h0 : x < 0
  · rw [decide_eq_true h0, br_tq]; exact ⟨_, rfl, Or.inr ⟨Or.inl h0, rfl⟩⟩
  · rw [decide_eq_false h0, br_fq]
    by_cases h1 : x < F u 81
    · have := h.1
      rw [decide_eq_true h1, br_tq, (I_inb hx.1 hx.2).mpr ⟨by omega, by omega⟩, ck_t, tnI (n := x.toNat) (by omega) (by omega)]
      exact ⟨_, rfl, Or.inl ⟨by omega, h1, rfl⟩⟩
    · rw [decide_eq_false h1, br_fq]; exact ⟨_, rfl, Or.inr ⟨Or.inr (by omega), rfl⟩⟩
theorem ckb_any {a : Int32} (h : a = 0 ∨ a = 1) : ∃ r, ck (isb a) (some (u, a)) = some (u, r) := by
  refine ⟨a, ?_⟩
  rcases h with rfl | rfl <;> rfl
theorem isDigit_any {y : Int32} : ∃ r, hm_To_isDigit N u y = some (u, r) := by
  unfold hm_To_isDigit hb_To_isDigit_0 hb_To_isDigit_16 hb_To_isDigit_17
  exact br_any (ckb_any (Or.inl rfl)) (br_any (ckb_any (Or.inl rfl)) (ckb_any (Or.inr rfl)))
theorem isWordly_any {y : Int32} : ∃ r, hm_To_isWordly N u y = some (u, r) := by
  unfold hm_To_isWordly hb_To_isWordly_0 hb_To_isWordly_19 hb_To_isWordly_31 hb_To_isWordly_37 hb_To_isWordly_42
  obtain ⟨r, e⟩ := isDigit_any (N := N) (u := u) (y := y)
  rw [e, bnd_so]
  have c0 := ckb_any (u := u) (a := 0) (Or.inl rfl)
  have c1 := ckb_any (u := u) (a := 1) (Or.inr rfl)
  exact br_any (br_any (br_any (br_any c1 c0) (br_any c1 (br_any c1 c0))) (br_any c1 (br_any (br_any c1 c0) (br_any c1 (br_any c1 c0))))) c1
def TOQ (u w : MS) (c : Nat) (r : Int32) : Prop := KTK u w c ∧ (r = I 0 ∨ r = I 45 ∨ ∃ k e2 : Nat, r = I ((k : Nat) : Int) ∧ TVL w c k (F u 89).toNat e2 ∧ F w 89 = ((e2 : Nat) : Int) ∧ F w 89 ≤ F u 81)
theorem number_okc (h : CST u) (hw : WRS u) (hc : F u 85 = ((c : Nat) : Int)) (hc2 : c ≤ 4000) (ha : 0 ≤ F u 89 ∧ F u 89 < F u 81) (hd : ∃ r, hm_To_isDigit N u (u.2.2.1 5 (F u 89).toNat) = some (u, r) ∧ r ≠ 0) (hN : 5000 ≤ N) : OK (fun w r => TOQ u w c r) (hm_To_number N u) := by
  have h68 : ∀ (w : MS) (y : Int64), KTK u w c → F u 89 < F w 89 → F w 89 ≤ F u 81 → CST w → OK (fun w r => TOQ u w c r) (hb_To_number_68 N (hg_To_number N N) w y) := by
    intro w y k1 k2 k3 k4
    unfold hb_To_number_68 hb_To_number_101 hb_To_number_107
    rw [I_F (k := 85), k1.i (by simp), hc]
    refine e_in ⟨by omega, by omega⟩ (by decide) (ok_lt.mpr ?_)
    rw [tnI (n := c) rfl (by omega), I_of y.toInt32, wa_e]
    have k5 : KTK u (wa w 7 c y.toInt32.toInt) c := KTK_val k1
    have k6 : CST (wa w 7 c y.toInt32.toInt) := CST_k h k5.1
    refine ok_br.mpr ⟨fun _ => ok_some.mpr ⟨k5, Or.inr (Or.inl rfl)⟩, fun _ => ?_⟩
    obtain ⟨r1, e1, -⟩ := signAt_e (N := N) k6 (FRG1 (wa w 7 c y.toInt32.toInt) 89)
    rw [I_F (k := 89), e1, bnd_so]
    obtain ⟨r2, e2⟩ := isWordly_any (N := N) (u := wa w 7 c y.toInt32.toInt) (y := r1)
    rw [e2, bnd_so]
    refine ok_br.mpr ⟨fun _ => ok_some.mpr ⟨k5, Or.inr (Or.inr ⟨1, (F w 89).toNat, rfl, ⟨by omega, fun z => absurd z (by decide), fun z => absurd z (by decide), fun z => absurd z (by decide), by omega⟩, ?_, k3⟩)⟩, fun _ => ok_some.mpr ⟨k5, Or.inr (Or.inl rfl)⟩⟩
    show F w 89 = _
    omega
  have gen : ∀ (M i : Nat) (y : Int64) (w : MS), KTK u w c → CST w → F w 89 = ((i : Nat) : Int) → F u 89 < i → (i : Int) ≤ F u 81 → F u 81 - i < M → OK (fun w r => TOQ u w c r) (hg_To_number N M w y) := by
    intro M
    induction M with
    | zero => intro i y w _ _ _ _ _ h; omega
    | succ M ih =>
      intro i y w k1 k2 e1 h1 h2 hM
      show OK _ (hb_To_number_2 N (hg_To_number N M) w y)
      unfold hb_To_number_2
      have e68 : hb_To_number_68 N (hg_To_number N M) w y = hb_To_number_68 N (hg_To_number N N) w y := rfl
      rw [e68, I_F (k := 81), k1.i (by simp), I_F (k := 89), e1]
      refine k_le (FRG1 u _) ⟨by omega, by have := h.1; omega⟩ (fun _ => h68 w y k1 (by omega) (by omega) k2) (fun h3 => ?_)
      have h81 := h.1
      refine e_in ⟨by omega, by omega⟩ (by decide) ?_
      obtain ⟨r, e⟩ := isDigit_any (N := N) (u := w) (y := w.2.2.1 5 (I ((i : Nat) : Int)).toNatClampNeg)
      rw [e, bnd_so]
      have e68b : ∀ y, hb_To_number_68 N (hg_To_number N M) w y = hb_To_number_68 N (hg_To_number N N) w y := fun _ => rfl
      refine ok_br.mpr ⟨fun _ => by rw [e68b]; exact h68 w y k1 (by omega) (by omega) k2, fun _ => ?_⟩
      rw [I_F (k := 89), e1]
      refine e_in ⟨by omega, by omega⟩ (by decide) (ok_lt.mpr (ok_lt.mpr ?_))
      rw [lit1q, I_add, show ((i : Nat) : Int) + 1 = ((i + 1 : Nat) : Int) by omega, wi_e]
      have k3 : KTK u (wi w 89 ((i + 1 : Nat) : Int)) c := KTK.tr k1 (KTK_at k1.2.2.2)
      exact ih (i + 1) _ _ k3 (CST_k h k3.1) (by rw [F_wi (by omega) (by omega), if_pos rfl]) (by omega) (by omega) (by omega)
  have h81 := h.1
  cases N with
  | zero => omega
  | succ N' =>
    show OK _ (hb_To_number_2 (N' + 1) (hg_To_number (N' + 1) N') u 0)
    unfold hb_To_number_2
    rw [I_F (k := 81), I_F (k := 89)]
    refine k_le (FRG1 u _) (FRG1 u _) (fun z => absurd z (by omega)) (fun _ => ?_)
    refine e_in ⟨by omega, by omega⟩ (by decide) ?_
    rw [tnI (n := (F u 89).toNat) (by omega) (by omega)]
    obtain ⟨r, e, hr⟩ := hd
    rw [e, bnd_so]
    refine ok_br.mpr ⟨fun z => absurd (of_decide_eq_true z) hr, fun _ => ?_⟩
    rw [I_F (k := 89)]
    refine e_in ⟨by omega, by omega⟩ (by decide) (ok_lt.mpr (ok_lt.mpr ?_))
    rw [lit1q, I_add, show F u 89 + 1 = (((F u 89).toNat + 1 : Nat) : Int) by omega, wi_e]
    have k3 : KTK u (wi u 89 (((F u 89).toNat + 1 : Nat) : Int)) c := KTK_at hw
    exact gen N' ((F u 89).toNat + 1) _ _ k3 (CST_k h k3.1) (by rw [F_wi (by omega) (by omega), if_pos rfl]) (by omega) (by omega) (by omega)
theorem word_okc {y : Int32} (h : CST u) (hw : WRS u) (hc : F u 85 = ((c : Nat) : Int)) (hc2 : c ≤ 4000) (ha : 0 ≤ F u 89 ∧ F u 89 < F u 81) (hd : ∃ r, hm_To_isWordly N u (u.2.2.1 5 (F u 89).toNat) = some (u, r) ∧ r ≠ 0) (hN : 300000 ≤ N) : OK (fun w r => TOQ u w c r) (hm_To_word N u y) := by
  have h81 := h.1
  have h44 : ∀ (w : MS) (i : Nat), KTK u w c → CST w → F w 89 = ((i : Nat) : Int) → F u 89 < i → (i : Int) ≤ F u 81 → OK (fun w r => TOQ u w c r) (hb_To_word_44 N (hg_To_word N N) w y (I (F u 89))) := by
    intro w i k1 k2 e1 h1 h2
    unfold hb_To_word_44
    rw [I_F (k := 89), e1, I_sub, show (16 : Int32) = I 16 from rfl, I_F (k := 85), k1.i (by simp), hc]
    refine k_le ⟨by omega, by omega⟩ ⟨by decide, by decide⟩ (fun h3 => ?_) (fun _ => ok_some.mpr ⟨k1, Or.inr (Or.inl rfl)⟩)
    have b5 : bl 5 = 4000 := rfl
    have last : ∀ (x kd : Nat) (w2 : MS) (r : Int32), (x = 1 ∧ kd = 2) ∨ (x = 12 ∧ kd = 3) → FNWc w w2 x r → OK (fun w r => TOQ u w c r) (ck (inb (I ((c : Nat) : Int)) 4002) (lt (upA w2 7 (upd (w2.2.2.1 7) (I ((c : Nat) : Int)).toNatClampNeg r)) (fun w13 => some (w13, I ((kd : Nat) : Int))))) := by
      intro x kd w2 r hx hf
      obtain ⟨f1, f2, f3, k, rfl, hk⟩ := hf
      refine e_in ⟨by omega, by omega⟩ (by decide) (ok_lt.mpr (ok_some.mpr ?_))
      rw [tnI (n := c) rfl (by omega), wa_e]
      have kw : KTK w w2 c := by
        obtain ⟨-, -, -, g3, g4, g5⟩ := k1
        have f2' : FR [89, 22, 242] [] [2, 3, 7, 13, 14] [] w w2 := FR.mo f2 (by rcases hx with ⟨rfl, -⟩ | ⟨rfl, -⟩ <;> simp) (by simp) (by rcases hx with ⟨rfl, -⟩ | ⟨rfl, -⟩ <;> simp) (by simp)
        have a7 : ∀ t, A w2 7 t = A w 7 t := fun t => by show (w2.2.2.1 7 t).toInt = _; rw [f2.2.2.1 7 (by rcases hx with ⟨rfl, -⟩ | ⟨rfl, -⟩ <;> simp)]; rfl
        rcases hx with ⟨rfl, -⟩ | ⟨rfl, -⟩
        · have e2 : F w2 242 = F w 242 := congrArg _ (f2.1 242 (by simp))
          have f3 : F w 22 ≤ F w2 22 := f3
          exact ⟨f2', fun t _ => a7 t, ⟨f3, by rw [e2]; exact Int.le_refl _⟩, ⟨f1, by omega⟩, WDc_fr g4 f2 (by simp) (by simp), by rw [e2]; exact g5⟩
        · have e2 : F w2 22 = F w 22 := congrArg _ (f2.1 22 (by simp))
          have f3 : F w 242 ≤ F w2 242 := f3
          exact ⟨f2', fun t _ => a7 t, ⟨by rw [e2]; exact Int.le_refl _, f3⟩, ⟨WDc_fr g3.1 f2 (by simp) (by simp), by rw [e2]; exact g3.2⟩, f1, by omega⟩
      have kk : KTK u (wa w2 7 c ((k : Nat) : Int)) c := KTK_val (KTK.tr k1 kw)
      have e89 : F w2 89 = ((i : Nat) : Int) := by rw [show F w2 89 = F w 89 from congrArg _ (f2.1 89 (by rcases hx with ⟨rfl, -⟩ | ⟨rfl, -⟩ <;> simp))]; exact e1
      have rk := F_r w2 (20 * x + 2)
      have a7 : A (wa w2 7 c ((k : Nat) : Int)) 7 c = ((k : Nat) : Int) := wa_eq ⟨by omega, by omega⟩
      refine ⟨kk, Or.inr (Or.inr ⟨kd, i, rfl, ⟨by omega, fun z => ?_, fun z => ?_, fun z => by omega, by omega⟩, e89, by show F w2 89 ≤ _; omega⟩)⟩
      · rcases hx with ⟨rfl, -⟩ | ⟨-, h3⟩
        · rw [a7]; exact ⟨by omega, hk⟩
        · omega
      · rcases hx with ⟨-, h3⟩ | ⟨rfl, -⟩
        · omega
        · rw [a7]; exact ⟨by omega, hk⟩
    refine ok_br.mpr ⟨fun _ => ?_, fun _ => ?_⟩
    · refine ok_bnd.mpr (ok_mono (seekW_ok (N := N) (x := 9) (b := 5) k2.2.2.1 (by omega) (by rw [b5]; decide) ha.1 ⟨by omega, by omega⟩ (by rw [b5]; omega) (by omega)) (fun w2 r hw2 => ?_))
      obtain ⟨rfl, hr⟩ := hw2
      rcases hr with rfl | ⟨k, rfl, hk⟩
      · refine ok_br.mpr ⟨fun _ => ?_, fun z => absurd z (by decide)⟩
        refine ok_bnd.mpr (ok_mono (findW_ok (N := N) (x := 1) k1.2.2.2.1.1 (by omega) (by have := k1.2.2.2.1.2; show 1 ≤ F w2 22; omega) (by omega) b5 ha.1 ⟨by omega, by omega⟩ (by omega) k2.2.1 (by omega)) (fun w3 r hw3 => ?_))
        rw [I_F (k := 85), k1.i (by simp), hc]
        exact last 1 2 w3 r (Or.inl ⟨rfl, rfl⟩) hw3
      · have e15 : F w2 182 = 15 := k2.2.2.2
        have hk : ((k : Nat) : Int) < F w2 182 := hk
        refine ok_br.mpr ⟨fun z => ?_, fun _ => ok_some.mpr ⟨k1, Or.inr (Or.inr ⟨5 + k, i, ?_, ⟨by omega, fun z => by omega, fun z => by omega, fun z => by omega, by omega⟩, e1, by rw [e1]; exact h2⟩)⟩⟩
        · have e := (I_eq (x := ((k : Nat) : Int)) (y := -1) (by omega) (by omega) (by decide) (by decide)).mp (show I ((k : Nat) : Int) = I (-1) from of_decide_eq_true z)
          omega
        · rw [show (5 : Int32) = I 5 from rfl, I_add, show (5 : Int) + ((k : Nat) : Int) = ((5 + k : Nat) : Int) by omega]
    · refine ok_bnd.mpr (ok_mono (findW_ok (N := N) (x := 12) k1.2.2.2.2.1 (by omega) k1.2.2.2.2.2 (by omega) b5 ha.1 ⟨by omega, by omega⟩ (by omega) k2.2.1 (by omega)) (fun w3 r hw3 => ?_))
      exact last 12 3 w3 r (Or.inr ⟨rfl, rfl⟩) hw3
  have gen : ∀ (M i : Nat) (w : MS), KTK u w c → CST w → F w 89 = ((i : Nat) : Int) → F u 89 < i → (i : Int) ≤ F u 81 → F u 81 - i < M → OK (fun w r => TOQ u w c r) (hg_To_word N M w y (I (F u 89))) := by
    intro M
    induction M with
    | zero => intro i w _ _ _ _ _ h; omega
    | succ M ih =>
      intro i w k1 k2 e1 h1 h2 hM
      show OK _ (hb_To_word_5 N (hg_To_word N M) w y (I (F u 89)))
      unfold hb_To_word_5
      have e44 : ∀ v : MS, hb_To_word_44 N (hg_To_word N M) v y (I (F u 89)) = hb_To_word_44 N (hg_To_word N N) v y (I (F u 89)) := fun _ => rfl
      rw [I_F (k := 81), k1.i (by simp), I_F (k := 89), e1]
      refine k_le (FRG1 u _) ⟨by omega, by omega⟩ (fun _ => by rw [e44]; exact h44 w i k1 k2 e1 h1 h2) (fun h3 => ?_)
      refine e_in ⟨by omega, by omega⟩ (by decide) ?_
      obtain ⟨r, e⟩ := isWordly_any (N := N) (u := w) (y := w.2.2.1 5 (I ((i : Nat) : Int)).toNatClampNeg)
      rw [e, bnd_so]
      refine ok_br.mpr ⟨fun _ => by rw [e44]; exact h44 w i k1 k2 e1 h1 h2, fun _ => ok_lt.mpr ?_⟩
      rw [I_F (k := 89), e1, lit1q, I_add, show ((i : Nat) : Int) + 1 = ((i + 1 : Nat) : Int) by omega, wi_e]
      have k3 : KTK u (wi w 89 ((i + 1 : Nat) : Int)) c := KTK.tr k1 (KTK_at k1.2.2.2)
      exact ih (i + 1) _ k3 (CST_k h k3.1) (by rw [F_wi (by omega) (by omega), if_pos rfl]) (by omega) (by omega) (by omega)
  cases N with
  | zero => omega
  | succ N' =>
    show OK _ (hb_To_word_5 (N' + 1) (hg_To_word (N' + 1) N') u y (u.1 89))
    unfold hb_To_word_5
    rw [I_F (k := 81), I_F (k := 89)]
    refine k_le (FRG1 u _) (FRG1 u _) (fun z => absurd z (by omega)) (fun _ => ?_)
    refine e_in ⟨by omega, by omega⟩ (by decide) ?_
    rw [tnI (n := (F u 89).toNat) (by omega) (by omega)]
    obtain ⟨r, e, hr⟩ := hd
    rw [e, bnd_so]
    refine ok_br.mpr ⟨fun z => absurd (of_decide_eq_true z) hr, fun _ => ok_lt.mpr ?_⟩
    rw [I_F (k := 89), lit1q, I_add]
    have e0 : I (F u 89 + 1) = I ((((F u 89).toNat + 1 : Nat)) : Int) := by congr 1; omega
    rw [e0, wi_e]
    have k3 : KTK u (wi u 89 (((F u 89).toNat + 1 : Nat) : Int)) c := KTK_at hw
    exact gen N' ((F u 89).toNat + 1) _ k3 (CST_k h k3.1) (by rw [F_wi (by omega) (by omega), if_pos rfl]) (by omega) (by omega) (by omega)
end
end
section
set_option maxRecDepth 100000
section
variable {u v w : MS} {N k n c e1 e2 t : Nat}
theorem by_tab : ∀ k : Fin 256, (I ((k.val : Int) - 128) &&& 255 = I ((k.val : Int) - 128)) ∨ 127 < (I ((k.val : Int) - 128) &&& 255).toInt := by decide
theorem by_low {x : Int32} (h : fits .byte (.int x) = true) (h2 : (x &&& 255).toInt ≤ 127) : x &&& 255 = x := by
  have e : (decide (-128 ≤ x) && decide (x ≤ 127)) = true := h
  rw [Bool.and_eq_true] at e
  have a1 : -128 ≤ x.toInt := Int32.le_iff_toInt_le.mp (of_decide_eq_true e.1)
  have a2 : x.toInt ≤ 127 := Int32.le_iff_toInt_le.mp (of_decide_eq_true e.2)
  have b := by_tab ⟨(x.toInt + 128).toNat, by omega⟩
  rw [show (((x.toInt + 128).toNat : Nat) : Int) - 128 = x.toInt by omega, ← I_of x] at b
  rcases b with b | b
  · exact b
  · omega
theorem wordly_rng {y r : Int32} (e : hm_To_isWordly N u y = some (u, r)) (hr : r ≠ 0) : 0 ≤ y.toInt ∧ y.toInt ≤ 122 := by
  have ry := ti_rng y
  by_cases h0 : 0 ≤ y.toInt ∧ y.toInt ≤ 122
  · exact h0
  · exfalso
    have z : hm_To_isWordly N u y = some (u, 0) := by
      unfold hm_To_isWordly hb_To_isWordly_0 hb_To_isWordly_19 hb_To_isWordly_31 hb_To_isWordly_37 hb_To_isWordly_42 hm_To_isDigit hb_To_isDigit_0 hb_To_isDigit_16 hb_To_isDigit_17
      rw [I_of y, I_lit (n := 48), I_lit (n := 57), I_lit (n := 97), I_lit (n := 122), I_lit (n := 65), I_lit (n := 90), I_lit (n := 95), decL ry.1 ry.2 (by decide) (by decide), decL (by decide) (by decide) ry.1 ry.2, decL ry.1 ry.2 (by decide) (by decide), decI ry.1 ry.2 (by decide) (by decide), decL ry.1 ry.2 (by decide) (by decide), decI ry.1 ry.2 (by decide) (by decide)]
      have n95 : decide (I y.toInt = I (OfNat.ofNat 95)) = false := decide_eq_false (fun z => by have := (I_eq ry.1 ry.2 (by decide) (by decide)).mp z; have : y.toInt = 95 := this; omega)
      rw [n95]
      by_cases h1 : y.toInt < 0
      · rw [decide_eq_true (show y.toInt < (OfNat.ofNat 48 : Int) by show _ < (48 : Int); omega), br_tq, show isb (0 : Int32) = true from by decide, ck_t, bnd_so, show decide ((0 : Int32) = 0) = true from by decide, br_tq, decide_eq_true (show y.toInt < (OfNat.ofNat 97 : Int) by show _ < (97 : Int); omega), br_tq, decide_eq_true (show y.toInt < (OfNat.ofNat 65 : Int) by show _ < (65 : Int); omega), br_tq, br_fq]; rfl
      · rw [decide_eq_false (show ¬ y.toInt < (OfNat.ofNat 48 : Int) by show ¬ _ < (48 : Int); omega), br_fq, decide_eq_true (show (OfNat.ofNat 57 : Int) < y.toInt by show (57 : Int) < _; omega), br_tq, show isb (0 : Int32) = true from by decide, ck_t, bnd_so, show decide ((0 : Int32) = 0) = true from by decide, br_tq, decide_eq_false (show ¬ y.toInt < (OfNat.ofNat 97 : Int) by show ¬ _ < (97 : Int); omega), br_fq, decide_eq_false (show ¬ y.toInt ≤ (OfNat.ofNat 122 : Int) by show ¬ _ ≤ (122 : Int); omega), br_fq, decide_eq_false (show ¬ y.toInt < (OfNat.ofNat 65 : Int) by show ¬ _ < (65 : Int); omega), br_fq, decide_eq_false (show ¬ y.toInt ≤ (OfNat.ofNat 90 : Int) by show ¬ _ ≤ (90 : Int); omega), br_fq, br_fq]; rfl
    rw [z] at e
    injection e with e
    injection e with _ e
    exact hr e.symm
theorem string_okc (h : CST u) (hw : WRS u) (hc : F u 85 = ((c : Nat) : Int)) (hc2 : c ≤ 4000) (ha : 0 ≤ F u 89 ∧ F u 89 < F u 81) (hN : 5000 ≤ N) : OK (fun w r => TOQ u w c r) (hm_To_string N u) := by
  have h81 := h.1
  unfold hm_To_string hb_To_string_0
  refine ok_lt.mpr ?_
  rw [I_F (k := 89), lit1q, I_add, show F u 89 + 1 = (((F u 89).toNat + 1 : Nat) : Int) by omega, wi_e]
  have k1 : KTK u (wi u 89 (((F u 89).toNat + 1 : Nat) : Int)) c := KTK_at hw
  have e1 : F (wi u 89 (((F u 89).toNat + 1 : Nat) : Int)) 89 = (((F u 89).toNat + 1 : Nat) : Int) := by rw [F_wi (by omega) (by omega), if_pos rfl]
  generalize wi u 89 (((F u 89).toNat + 1 : Nat) : Int) = w1 at k1 e1
  rw [I_F (k := 85), k1.i (by simp), hc]
  refine e_in ⟨by omega, by omega⟩ (by decide) (ok_lt.mpr ?_)
  rw [tnI (n := c) rfl (by omega), I_F (k := 89), e1, wa_e]
  have k2 : KTK u (wa w1 7 c (((F u 89).toNat + 1 : Nat) : Int)) c := KTK_val k1
  have e2 : F (wa w1 7 c (((F u 89).toNat + 1 : Nat) : Int)) 89 = (((F u 89).toNat + 1 : Nat) : Int) := e1
  have a2 : A (wa w1 7 c (((F u 89).toNat + 1 : Nat) : Int)) 7 c = (((F u 89).toNat + 1 : Nat) : Int) := wa_eq ⟨by omega, by omega⟩
  generalize wa w1 7 c (((F u 89).toNat + 1 : Nat) : Int) = w2 at k2 e2 a2
  have gen : ∀ (M i : Nat) (w : MS), KTK u w c → F w 89 = (((F u 89).toNat + 1 + i : Nat) : Int) → A w 7 c = (((F u 89).toNat + 1 : Nat) : Int) → i ≤ 41 → 42 - i < M → OK (fun w r => TOQ u w c r) (hg_To_string N M w (I ((i : Nat) : Int))) := by
    intro M
    induction M with
    | zero => intro i w _ _ _ _ h; omega
    | succ M ih =>
      intro i w k3 e3 a3 hi hM
      show OK _ (hb_To_string_25 N (hg_To_string N M) w (I ((i : Nat) : Int)))
      unfold hb_To_string_25 hb_To_string_70
      rw [show (40 : Int32) = I 40 from rfl]
      refine k_lt ⟨by decide, by decide⟩ ⟨by omega, by omega⟩ (fun _ => ok_some.mpr ⟨k3, Or.inr (Or.inl rfl)⟩) (fun h4 => ?_)
      have cw := CST_k h k3.1
      obtain ⟨r, er, hr⟩ := signAt_e (N := N) cw (FRG1 w 89)
      rw [I_F (k := 89), er, bnd_so]
      refine ok_lt.mpr ?_
      rw [I_F (k := 89), e3, lit1q, I_add, show (((F u 89).toNat + 1 + i : Nat) : Int) + 1 = (((F u 89).toNat + 1 + (i + 1) : Nat) : Int) by omega, wi_e]
      have k4 : KTK u (wi w 89 (((F u 89).toNat + 1 + (i + 1) : Nat) : Int)) c := KTK.tr k3 (KTK_at k3.2.2.2)
      have e4 : F (wi w 89 (((F u 89).toNat + 1 + (i + 1) : Nat) : Int)) 89 = (((F u 89).toNat + 1 + (i + 1) : Nat) : Int) := by rw [F_wi (by omega) (by omega), if_pos rfl]
      have bad : OK (fun w r => TOQ u w c r) (some (wi w 89 (((F u 89).toNat + 1 + (i + 1) : Nat) : Int), (45 : Int32))) := ok_some.mpr ⟨k4, Or.inr (Or.inl rfl)⟩
      refine ok_br.mpr ⟨fun z => ?_, fun _ => ok_br.mpr ⟨fun _ => bad, fun _ => ok_br.mpr ⟨fun _ => ?_, fun _ => bad⟩⟩⟩
      · have z := of_decide_eq_true z
        rcases hr with ⟨r1, r2, r3⟩ | ⟨-, r3⟩
        · rw [e3] at r1 r2 r3
          rw [show F w 81 = F u 81 from k3.i (by simp)] at r2
          have s5 : (wi w 89 (((F u 89).toNat + 1 + (i + 1) : Nat) : Int)).2.2.1 5 = w.2.2.1 5 := rfl
          refine ok_some.mpr ⟨k4, Or.inr (Or.inr ⟨4, (F u 89).toNat + 1 + (i + 1), rfl, ⟨by omega, fun z => absurd z (by decide), fun z => absurd z (by decide), fun _ => ⟨(F u 89).toNat + 1, i, a3, by omega, ?_, by omega, by omega⟩, by omega⟩, e4, by rw [e4]; omega⟩)⟩
          rw [s5, ← z, r3]; rfl
        · rw [r3] at z; exact absurd z (by decide)
      · rw [I_add, show ((i : Nat) : Int) + 1 = ((i + 1 : Nat) : Int) by omega]
        exact ih (i + 1) _ k4 e4 a3 (by omega) (by omega)
  rw [lit0q, show (0 : Int) = ((0 : Nat) : Int) from rfl]
  exact gen N 0 w2 k2 e2 a2 (by omega) (by omega)
def cqc (s k : Nat) : Int32 := ((((bytSt.getD s []).getD (I ((k : Nat) : Int)).toNatClampNeg 0) &&& 255).toUInt32 % 65536).toInt32
theorem JS4 : hm_JS_length N u 4 = some (u, I 14) := by
  show some (u, (Int32.ofNat 14) >>> ((0 : Int32) &&& 31)) = _
  rw [show (Int32.ofNat 14) >>> ((0 : Int32) &&& 31) = I 14 from by decide]
theorem JS5 : hm_JS_length N u 5 = some (u, I 18) := by
  show some (u, (Int32.ofNat 18) >>> ((0 : Int32) &&& 31)) = _
  rw [show (Int32.ofNat 18) >>> ((0 : Int32) &&& 31) = I 18 from by decide]
theorem JC4 (hk : k < 14) : ∃ r, hm_JS_charAt N u 4 (I ((k : Nat) : Int)) = some (u, r) ∧ r ≠ I (-1) := by
  have cs : k = 0 ∨ k = 1 ∨ k = 2 ∨ k = 3 ∨ k = 4 ∨ k = 5 ∨ k = 6 ∨ k = 7 ∨ k = 8 ∨ k = 9 ∨ k = 10 ∨ k = 11 ∨ k = 12 ∨ k = 13 := by omega
  rcases cs with rfl | rfl | rfl | rfl | rfl | rfl | rfl | rfl | rfl | rfl | rfl | rfl | rfl | rfl <;> exact ⟨cqc 4 _, rfl, by decide⟩
theorem JC5 (hk : k < 18) : ∃ r, hm_JS_charAt N u 5 (I ((k : Nat) : Int)) = some (u, r) := by
  have cs : k = 0 ∨ k = 1 ∨ k = 2 ∨ k = 3 ∨ k = 4 ∨ k = 5 ∨ k = 6 ∨ k = 7 ∨ k = 8 ∨ k = 9 ∨ k = 10 ∨ k = 11 ∨ k = 12 ∨ k = 13 ∨ k = 14 ∨ k = 15 ∨ k = 16 ∨ k = 17 := by omega
  rcases cs with rfl | rfl | rfl | rfl | rfl | rfl | rfl | rfl | rfl | rfl | rfl | rfl | rfl | rfl | rfl | rfl | rfl | rfl <;> exact ⟨_, rfl⟩
theorem signs_okc {y : Int32} (h : CST u) (hw : WRS u) (ha : 0 ≤ F u 89 ∧ F u 89 < F u 81) (hN : 5000 ≤ N) : OK (fun w r => TOQ u w c r) (hm_To_signs N u y) := by
  have h81 := h.1
  have g2 : ∀ (M i : Nat) (w : MS), KTK u w c → F w 89 = F u 89 + 1 → i ≤ 18 → 19 - i < M → OK (fun w r => TOQ u w c r) ((hg_To_signs N M).2 w y (I ((i : Nat) : Int))) := by
    intro M
    induction M with
    | zero => intro i w _ _ _ h; omega
    | succ M ih =>
      intro i w k1 e1 hi hM
      show OK _ (hb_To_signs_81 N (hg_To_signs N M) w y (I ((i : Nat) : Int)))
      unfold hb_To_signs_81
      refine ok_ck.mpr ⟨by decide, ?_⟩
      rw [JS5, bnd_so]
      refine k_le ⟨by decide, by decide⟩ ⟨by omega, by omega⟩ (fun _ => ok_some.mpr ⟨k1, Or.inr (Or.inl rfl)⟩) (fun h4 => ok_ck.mpr ⟨by decide, ?_⟩)
      obtain ⟨r, er⟩ := JC5 (N := N) (u := w) (k := i) (by omega)
      rw [er, bnd_so]
      refine ok_br.mpr ⟨fun _ => ok_some.mpr ⟨k1, Or.inr (Or.inr ⟨20 + i, (F u 89).toNat + 1, ?_, ⟨by omega, fun z => by omega, fun z => by omega, fun z => by omega, by omega⟩, by omega, by omega⟩)⟩, fun _ => ?_⟩
      · rw [show (20 : Int32) = I 20 from rfl, I_add, show (20 : Int) + ((i : Nat) : Int) = ((20 + i : Nat) : Int) by omega]
      · rw [lit1q, I_add, show ((i : Nat) : Int) + 1 = ((i + 1 : Nat) : Int) by omega]
        exact ih (i + 1) w k1 e1 (by omega) (by omega)
  have g1 : ∀ (M j : Nat) (x : Int32), (x = I (-1) ∨ F u 89 + 1 < F u 81) → j ≤ 7 → 30 - j < M → OK (fun w r => TOQ u w c r) ((hg_To_signs N M).1 u y x (I ((2 * j : Nat) : Int))) := by
    intro M
    induction M with
    | zero => intro j x _ _ h; omega
    | succ M ih =>
      intro j x hx hj hM
      show OK _ (hb_To_signs_13 N (hg_To_signs N M) u y x (I ((2 * j : Nat) : Int)))
      unfold hb_To_signs_13 hb_To_signs_63
      refine ok_ck.mpr ⟨by decide, ?_⟩
      rw [JS4, bnd_so, lit1q, I_add]
      refine k_le ⟨by decide, by decide⟩ ⟨by omega, by omega⟩ (fun _ => ok_lt.mpr ?_) (fun h4 => ok_ck.mpr ⟨by decide, ?_⟩)
      · rw [I_F (k := 89), I_add, wi_e, lit0q, show (0 : Int) = ((0 : Nat) : Int) from rfl]
        exact g2 M 0 _ (KTK_at hw) (by rw [F_wi (by omega) (by omega), if_pos rfl]) (by omega) (by omega)
      · obtain ⟨r, er, -⟩ := JC4 (N := N) (u := u) (k := 2 * j) (by omega)
        obtain ⟨r2, er2, hr2⟩ := JC4 (N := N) (u := u) (k := 2 * j + 1) (by omega)
        have nx : OK (fun w r => TOQ u w c r) ((hg_To_signs N M).1 u y x (I ((2 * j : Nat) : Int) + 2)) := by
          rw [show (2 : Int32) = I 2 from rfl, I_add, show ((2 * j : Nat) : Int) + 2 = ((2 * (j + 1) : Nat) : Int) by omega]
          exact ih (j + 1) x hx (by omega) (by omega)
        rw [er, bnd_so]
        refine ok_br.mpr ⟨fun _ => ok_ck.mpr ⟨by decide, ?_⟩, fun _ => nx⟩
        rw [show ((2 * j : Nat) : Int) + 1 = ((2 * j + 1 : Nat) : Int) by omega, er2, bnd_so]
        refine ok_br.mpr ⟨fun z => ok_lt.mpr (ok_some.mpr ?_), fun _ => nx⟩
        have z := of_decide_eq_true z
        have h2 : F u 89 + 1 < F u 81 := by
          rcases hx with hx | hx
          · rw [hx] at z; exact absurd z hr2
          · exact hx
        rw [I_F (k := 89), show (2 : Int32) = I 2 from rfl, I_add, wi_e]
        refine ⟨KTK_at hw, Or.inr (Or.inr ⟨38 + j, (F u 89).toNat + 2, ?_, ⟨by omega, fun z => by omega, fun z => by omega, fun z => by omega, by omega⟩, by rw [F_wi (by omega) (by omega), if_pos rfl]; omega, by rw [F_wi (by omega) (by omega), if_pos rfl]; omega⟩)⟩
        have cs : j = 0 ∨ j = 1 ∨ j = 2 ∨ j = 3 ∨ j = 4 ∨ j = 5 ∨ j = 6 := by omega
        rcases cs with rfl | rfl | rfl | rfl | rfl | rfl | rfl <;> rfl
  unfold hm_To_signs hb_To_signs_0
  rw [I_F (k := 89), lit1q, I_add]
  obtain ⟨r, er, hr⟩ := signAt_e (N := N) (x := F u 89 + 1) h ⟨by omega, by omega⟩
  rw [er, bnd_so, lit0q, show (0 : Int) = ((2 * 0 : Nat) : Int) from rfl]
  refine g1 N 0 r ?_ (by omega) (by omega)
  rcases hr with ⟨-, r2, -⟩ | ⟨-, r3⟩
  · exact Or.inr r2
  · exact Or.inl r3
theorem scan_okc (h : CST u) (hw : WRS u) (hc : F u 85 = ((c : Nat) : Int)) (hc2 : c ≤ 4000) (ha : 0 ≤ F u 89 ∧ F u 89 ≤ F u 81) (hN : 300000 ≤ N) : OK (fun w r => TOQ u w c r) (hm_To_scan N u) := by
  have h81 := h.1
  have ok1 : ∀ {o : Option (MS × Int32)}, OK (fun w r => TOQ u w c r) o → OK (fun w r => TOQ u w c r) (bnd o (fun u5 r5 => some (u5, r5))) := fun hh => ok_bnd.mpr (ok_mono hh (fun w r hw => ok_some.mpr hw))
  unfold hm_To_scan hb_To_scan_0 hb_To_scan_61 hb_To_scan_42
  obtain ⟨r, er, hr⟩ := signAt_e (N := N) h (FRG1 u 89)
  rw [I_F (k := 89), er, bnd_so]
  refine ok_br.mpr ⟨fun _ => ok_some.mpr ⟨KTK.rf hw, Or.inl rfl⟩, fun z => ?_⟩
  rcases hr with ⟨r1, r2, r3⟩ | ⟨-, r3⟩
  · obtain ⟨rw1, e1⟩ := isWordly_any (N := N) (u := u) (y := r)
    rw [e1, bnd_so]
    refine ok_br.mpr ⟨fun _ => ok_br.mpr ⟨fun _ => ok1 (string_okc h hw hc hc2 ⟨r1, r2⟩ (by omega)), fun _ => ok1 (signs_okc h hw ⟨r1, r2⟩ (by omega))⟩, fun z2 => ?_⟩
    have hwr := wordly_rng e1 (of_decide_eq_false z2)
    have low : u.2.2.1 5 (F u 89).toNat &&& 255 = u.2.2.1 5 (F u 89).toNat := by_low (h.2.1 _ (by omega)) (by rw [← r3]; omega)
    rw [low] at r3
    obtain ⟨rd, e2⟩ := isDigit_any (N := N) (u := u) (y := r)
    rw [e2, bnd_so]
    refine ok_br.mpr ⟨fun _ => ok1 (word_okc h hw hc hc2 ⟨r1, r2⟩ ⟨rw1, by rw [← r3]; exact e1, of_decide_eq_false z2⟩ hN), fun z3 => ok1 (number_okc h hw hc hc2 ⟨r1, r2⟩ ⟨rd, by rw [← r3]; exact e2, of_decide_eq_false z3⟩ (by omega))⟩
  · rw [r3] at z; exact absurd z (by decide)
theorem skipT_okc (h : CST u) (ha : 0 ≤ F u 89 ∧ F u 89 ≤ F u 81) (hN : 5000 ≤ N) : OK (fun w _ => FR [89, 90] [] [] [] u w ∧ F u 89 ≤ F w 89 ∧ F w 89 ≤ F u 81) (hm_To_skip N u) := by
  have h81 := h.1
  have gen : ∀ (M i : Nat) (b : Int32) (w : MS), FR [89, 90] [] [] [] u w → F w 89 = ((i : Nat) : Int) → F u 89 ≤ i → (i : Int) ≤ F u 81 → F u 81 - i < M → OK (fun w _ => FR [89, 90] [] [] [] u w ∧ F u 89 ≤ F w 89 ∧ F w 89 ≤ F u 81) (hg_To_skip N M w b) := by
    intro M
    induction M with
    | zero => intro i b w _ _ _ _ h; omega
    | succ M ih =>
      intro i b w f e1 h1 h2 hM
      show OK _ (hb_To_skip_2 N (hg_To_skip N M) w b)
      have me : OK (fun w _ => FR [89, 90] [] [] [] u w ∧ F u 89 ≤ F w 89 ∧ F w 89 ≤ F u 81) (some (w, ())) := ok_some.mpr ⟨f, by omega, by omega⟩
      have e81 : F w 81 = F u 81 := congrArg _ (f.1 81 (by simp))
      by_cases h3 : F u 81 ≤ ((i : Nat) : Int)
      · unfold hb_To_skip_2
        rw [I_F (k := 81), e81, I_F (k := 89), e1]
        exact k_le (FRG1 u _) ⟨by omega, by omega⟩ (fun _ => me) (fun z => absurd z (by omega))
      have s84 : ∀ v1 t2, OK (fun w _ => FR [89, 90] [] [] [] u w ∧ F u 89 ≤ F w 89 ∧ F w 89 ≤ F u 81) (hb_To_skip_84 N (hg_To_skip N M) w v1 (w.1 90) t2) := fun v1 t2 => by
        unfold hb_To_skip_84
        refine ok_lt.mpr (ok_lt.mpr ?_)
        rw [I_of (w.1 90 + t2), wi_e]
        have e2 : (wi w 90 (w.1 90 + t2).toInt).1 89 = I ((i : Nat) : Int) := by rw [I_F (k := 89), F_wi (ti_rng _).1 (ti_rng _).2, if_neg (by decide), e1]
        rw [e2, lit1q, I_add, show ((i : Nat) : Int) + 1 = ((i + 1 : Nat) : Int) by omega, wi_e]
        exact ih (i + 1) _ _ (FR.wi (FR.wi f (by simp)) (by simp)) (by rw [F_wi (by omega) (by omega), if_pos rfl]) (by omega) (by omega) (by omega)
      unfold hb_To_skip_2 hb_To_skip_39 hb_To_skip_43 hb_To_skip_44 hb_To_skip_68
      rw [I_F (k := 81), e81, I_F (k := 89), e1]
      refine k_le (FRG1 u _) ⟨by omega, by omega⟩ (fun _ => me) (fun _ => ?_)
      refine e_in ⟨by omega, by omega⟩ (by decide) ?_
      have b68 : ∀ v1 v2, OK (fun w _ => FR [89, 90] [] [] [] u w ∧ F u 89 ≤ F w 89 ∧ F w 89 ≤ F u 81) (br (decide (v2 = (10 : Int32))) (hb_To_skip_84 N (hg_To_skip N M) w v1 (w.1 90) 1) (hb_To_skip_84 N (hg_To_skip N M) w v1 (w.1 90) 0)) := fun v1 v2 => ok_br.mpr ⟨fun _ => s84 _ _, fun _ => s84 _ _⟩
      have b44 : ∀ v2 t0, OK (fun w _ => FR [89, 90] [] [] [] u w ∧ F u 89 ≤ F w 89 ∧ F w 89 ≤ F u 81) (br (decide (t0 = (0 : Int32))) (br (decide (v2 = (9 : Int32))) (br (decide (v2 = (10 : Int32))) (hb_To_skip_84 N (hg_To_skip N M) w t0 (w.1 90) 1) (hb_To_skip_84 N (hg_To_skip N M) w t0 (w.1 90) 0)) (br (decide (v2 = (10 : Int32))) (br (decide (v2 = (10 : Int32))) (hb_To_skip_84 N (hg_To_skip N M) w t0 (w.1 90) 1) (hb_To_skip_84 N (hg_To_skip N M) w t0 (w.1 90) 0)) (br (decide (v2 = (32 : Int32))) (br (decide (v2 = (10 : Int32))) (hb_To_skip_84 N (hg_To_skip N M) w t0 (w.1 90) 1) (hb_To_skip_84 N (hg_To_skip N M) w t0 (w.1 90) 0)) (some (w, ()))))) (br (decide (v2 = (10 : Int32))) (hb_To_skip_84 N (hg_To_skip N M) w t0 (w.1 90) 1) (hb_To_skip_84 N (hg_To_skip N M) w t0 (w.1 90) 0))) := fun v2 t0 => ok_br.mpr ⟨fun _ => ok_br.mpr ⟨fun _ => b68 _ _, fun _ => ok_br.mpr ⟨fun _ => b68 _ _, fun _ => ok_br.mpr ⟨fun _ => b68 _ _, fun _ => me⟩⟩⟩, fun _ => b68 _ _⟩
      exact ok_br.mpr ⟨fun _ => b44 _ _, fun _ => ok_br.mpr ⟨fun _ => ok_br.mpr ⟨fun _ => b44 _ _, fun _ => b44 _ _⟩, fun _ => b44 _ _⟩⟩
  unfold hm_To_skip hb_To_skip_0
  exact gen N (F u 89).toNat _ u FR.rf (by omega) (by omega) (by omega) (by omega)
end
end
section
set_option maxRecDepth 100000
def TKS (u : MS) (c : Nat) (ps : Nat → Nat) : Prop := (F u 85 = ((c : Nat) : Int) ∧ c ≤ 4000) ∧ (A u 6 c = 0 ∨ A u 6 c = 45) ∧ ps c ≤ 4000 ∧ (ps c : Int) ≤ F u 81 ∧ ∀ t, t < c → ∃ k : Nat, A u 6 t = ((k : Nat) : Int) ∧ TVL u t k (ps t) (ps (t + 1))
section
variable {u v w : MS} {N k n c e1 e2 t : Nat} {ps : Nat → Nat}
theorem TVL_k {t k e1 e2 : Nat} (h : TVL u t k e1 e2) (h7 : A w 7 t = A u 7 t) (h5 : w.2.2.1 5 = u.2.2.1 5) (h22 : F u 22 ≤ F w 22) (h242 : F u 242 ≤ F w 242) : TVL w t k e1 e2 := by
  obtain ⟨a1, a2, a3, a4, a5⟩ := h
  unfold TVL
  rw [h7, h5]
  exact ⟨a1, fun z => ⟨(a2 z).1, by have := (a2 z).2; omega⟩, fun z => ⟨(a3 z).1, by have := (a3 z).2; omega⟩, a4, a5⟩
theorem TVL_e {t k e1 e2 e0 : Nat} (h : TVL u t k e1 e2) (he : e0 ≤ e1) : TVL u t k e0 e2 := by
  obtain ⟨a1, a2, a3, a4, a5⟩ := h
  refine ⟨a1, a2, a3, fun z => ?_, by omega⟩
  obtain ⟨f, L, b1, b2, b3, b4, b5⟩ := a4 z
  exact ⟨f, L, b1, b2, b3, by omega, b5⟩
theorem FR_KT {is as : List Nat} (f : FR is [] as [] u w) (hw : WRS u) (h1 : 22 ∉ is) (h2 : 242 ∉ is) (h3 : 3 ∉ as) (h4 : 14 ∉ as) : WRS w := by
  obtain ⟨⟨a1, a2⟩, a3, a4⟩ := hw
  exact ⟨⟨WDc_fr a1 f h1 h3, by rw [show F w 22 = F u 22 from congrArg _ (f.1 22 h1)]; exact a2⟩, WDc_fr a3 f h2 h4, by rw [show F w 242 = F u 242 from congrArg _ (f.1 242 h2)]; exact a4⟩
theorem FR_CS {is as : List Nat} (f : FR is [] as [] u w) (hw : CST u) (h1 : 81 ∉ is) (h2 : 182 ∉ is) (h3 : 5 ∉ as) (h4 : 11 ∉ as) : CST w := by
  obtain ⟨a1, a2, a3, a4⟩ := hw
  exact ⟨by rw [show F w 81 = F u 81 from congrArg _ (f.1 81 h1)]; exact a1, fun k hk => by rw [f.2.2.1 5 h3]; exact a2 k hk, WDc_fr a3 f h2 h4, by rw [show F w 182 = F u 182 from congrArg _ (f.1 182 h2)]; exact a4⟩
def SCI (u0 u : MS) (c : Nat) (ps : Nat → Nat) : Prop := FR [85, 89, 90, 22, 242] [] [2, 3, 6, 7, 8, 13, 14] [] u0 u ∧ CST u ∧ WRS u ∧ F u 85 = ((c : Nat) : Int) ∧ F u 89 = ((ps c : Nat) : Int) ∧ ((ps c : Nat) : Int) ≤ F u 81 ∧ c ≤ ps c ∧ ∀ t, t < c → ∃ k : Nat, A u 6 t = ((k : Nat) : Int) ∧ TVL u t k (ps t) (ps (t + 1))
theorem scanAll_loop {u0 : MS} (hN : 300000 ≤ N) : ∀ (M c : Nat) (ps : Nat → Nat) (u : MS), SCI u0 u c ps → c ≤ 4000 → 4001 - c < M → OK (fun w _ => FR [85, 89, 90, 22, 242] [] [2, 3, 6, 7, 8, 13, 14] [] u0 w ∧ CST w ∧ WRS w ∧ ∃ c ps, TKS w c ps) (hg_To_scanAll N M u (I ((c : Nat) : Int))) := by
  intro M
  induction M with
  | zero => intro c ps u _ _ h; omega
  | succ M ih =>
    intro c ps u hs hc hM
    obtain ⟨f0, cs, ws, e85, e89, hps, hcp, tk⟩ := hs
    have h81 := cs.1
    show OK _ (hb_To_scanAll_34 N (hg_To_scanAll N M) u (I ((c : Nat) : Int)))
    unfold hb_To_scanAll_34 hb_To_scanAll_107
    rw [show (4000 : Int32) = I 4000 from rfl]
    refine k_lt ⟨by decide, by decide⟩ ⟨by omega, by omega⟩ (fun z => absurd z (by omega)) (fun _ => ?_)
    refine ok_bnd.mpr (ok_mono (skipT_okc (N := N) cs (by omega) (by omega)) (fun u1 _ hu1 => ?_))
    obtain ⟨f1, s1, s2⟩ := hu1
    have e851 : F u1 85 = ((c : Nat) : Int) := by rw [show F u1 85 = F u 85 from congrArg _ (f1.1 85 (by simp))]; exact e85
    rw [show u1.1 85 = I ((c : Nat) : Int) by rw [I_F (k := 85), e851]]
    refine e_in ⟨by omega, by omega⟩ (by decide) (ok_lt.mpr ?_)
    rw [tnI (n := c) rfl (by omega)]
    generalize hw6 : upA u1 8 _ = w6
    have f6 : FR [] [] [8] [] u1 w6 := by rw [← hw6]; exact FR_upA FR.rf (by simp)
    rw [show w6.1 85 = I ((c : Nat) : Int) by rw [f6.1 85 (by simp), I_F (k := 85), e851]]
    refine e_in ⟨by omega, by omega⟩ (by decide) (ok_lt.mpr ?_)
    rw [tnI (n := c) rfl (by omega), lit0q, wa_e]
    have f7 : FR [] [] [7] [] w6 (wa w6 7 c 0) := FR.wa FR.rf (by simp)
    have a7 : ∀ t, t ≠ c → A (wa w6 7 c 0) 7 t = A w6 7 t := fun t ht => wa_ne ht
    generalize wa w6 7 c 0 = w10 at f7 a7
    have f10 : FR [89, 90] [] [7, 8] [] u w10 := FR.tr (FR.mo f1 (by simp) (by simp) (by simp) (by simp)) (FR.tr (FR.mo f6 (by simp) (by simp) (by simp) (by simp)) (FR.mo f7 (by simp) (by simp) (by simp) (by simp)))
    have e8510 : F w10 85 = ((c : Nat) : Int) := by rw [show F w10 85 = F u 85 from congrArg _ (f10.1 85 (by simp))]; exact e85
    have e8910 : F w10 89 = F u1 89 := by rw [show F w10 89 = F w6 89 from congrArg _ (f7.1 89 (by simp)), show F w6 89 = F u1 89 from congrArg _ (f6.1 89 (by simp))]
    have cs10 := FR_CS f10 cs (by simp) (by simp) (by simp) (by simp)
    have ws10 := FR_KT f10 ws (by simp) (by simp) (by simp) (by simp)
    have e8110 : F w10 81 = F u 81 := congrArg _ (f10.1 81 (by simp))
    refine ok_bnd.mpr (ok_mono (scan_okc (N := N) (c := c) cs10 ws10 e8510 hc (by omega) hN) (fun u13 r13 hu13 => ?_))
    obtain ⟨k13, h13⟩ := hu13
    rw [show w10.1 85 = I ((c : Nat) : Int) by rw [I_F (k := 85), e8510]]
    refine e_in ⟨by omega, by omega⟩ (by decide) (ok_lt.mpr ?_)
    rw [tnI (n := c) rfl (by omega), I_of r13, wa_e]
    have f15 : FR [] [] [6] [] u13 (wa u13 6 c r13.toInt) := FR.wa FR.rf (by simp)
    have a6 : ∀ t, t ≠ c → A (wa u13 6 c r13.toInt) 6 t = A u13 6 t := fun t ht => wa_ne ht
    have a6c : A (wa u13 6 c r13.toInt) 6 c = r13.toInt := wa_eq (ti_rng _)
    generalize wa u13 6 c r13.toInt = w15 at f15 a6 a6c
    have f1015 : FR [89, 22, 242] [] [2, 3, 6, 7, 13, 14] [] w10 w15 := FR.tr (FR.mo k13.1 (by simp) (by simp) (by simp) (by simp)) (FR.mo f15 (by simp) (by simp) (by simp) (by simp))
    have f015 : FR [85, 89, 90, 22, 242] [] [2, 3, 6, 7, 8, 13, 14] [] u0 w15 := FR.tr f0 (FR.tr (FR.mo f10 (by simp) (by simp) (by simp) (by simp)) (FR.mo f1015 (by simp) (by simp) (by simp) (by simp)))
    have e8515 : F w15 85 = ((c : Nat) : Int) := by rw [show F w15 85 = F w10 85 from congrArg _ (f1015.1 85 (by simp))]; exact e8510
    have cs15 := FR_CS f1015 cs10 (by simp) (by simp) (by simp) (by simp)
    have ws15 := FR_KT f15 k13.2.2.2 (by simp) (by simp) (by simp) (by simp)
    have e8115 : F w15 81 = F u 81 := by rw [show F w15 81 = F w10 81 from congrArg _ (f1015.1 81 (by simp))]; exact e8110
    have r5 : w15.2.2.1 5 = u.2.2.1 5 := (f1015.2.2.1 5 (by simp)).trans (f10.2.2.1 5 (by simp))
    have c22 : F u 22 ≤ F w15 22 := by
      have := k13.2.2.1.1
      rw [show F w15 22 = F u13 22 from congrArg _ (f15.1 22 (by simp))]
      rw [show F w10 22 = F u 22 from congrArg _ (f10.1 22 (by simp))] at this
      exact this
    have c242 : F u 242 ≤ F w15 242 := by
      have := k13.2.2.1.2
      rw [show F w15 242 = F u13 242 from congrArg _ (f15.1 242 (by simp))]
      rw [show F w10 242 = F u 242 from congrArg _ (f10.1 242 (by simp))] at this
      exact this
    have tk15 : ∀ t, t < c → ∃ k : Nat, A w15 6 t = ((k : Nat) : Int) ∧ TVL w15 t k (ps t) (ps (t + 1)) := fun t ht => by
      obtain ⟨k, e, tv⟩ := tk t ht
      refine ⟨k, ?_, TVL_k tv ?_ r5 c22 c242⟩
      · rw [a6 t (by omega), show A u13 6 t = A w10 6 t from by show (u13.2.2.1 6 t).toInt = _; rw [k13.1.2.2.1 6 (by simp)]; rfl, show A w10 6 t = A u 6 t from by show (w10.2.2.1 6 t).toInt = _; rw [f10.2.2.1 6 (by simp)]; rfl]
        exact e
      · rw [show A w15 7 t = A u13 7 t from by show (w15.2.2.1 7 t).toInt = _; rw [f15.2.2.1 7 (by simp)]; rfl, k13.2.1 t (by omega), a7 t (by omega), show A w6 7 t = A u1 7 t from by show (w6.2.2.1 7 t).toInt = _; rw [f6.2.2.1 7 (by simp)]; rfl, show A u1 7 t = A u 7 t from by show (u1.2.2.1 7 t).toInt = _; rw [f1.2.2.1 7 (by simp)]; rfl]
    rw [show w15.1 85 = I ((c : Nat) : Int) by rw [I_F (k := 85), e8515]]
    refine e_in ⟨by omega, by omega⟩ (by decide) ?_
    rw [tnI (n := c) rfl (by omega), I_A (k := 6), a6c]
    have stop : (r13.toInt = 0 ∨ r13.toInt = 45) → OK (fun w _ => FR [85, 89, 90, 22, 242] [] [2, 3, 6, 7, 8, 13, 14] [] u0 w ∧ CST w ∧ WRS w ∧ ∃ c ps, TKS w c ps) (some (w15, ())) := fun z => ok_some.mpr ⟨f015, cs15, ws15, c, ps, ⟨e8515, hc⟩, by rw [a6c]; exact z, by omega, by omega, tk15⟩
    refine k_eq (ti_rng _) ⟨by decide, by decide⟩ (fun z => stop (Or.inl z)) (fun z0 => ?_)
    refine e_in ⟨by omega, by omega⟩ (by decide) ?_
    rw [show (45 : Int32) = I 45 from rfl]
    refine k_eq (ti_rng _) ⟨by decide, by decide⟩ (fun z => stop (Or.inr z)) (fun z45 => ok_lt.mpr ?_)
    rcases h13 with rfl | rfl | ⟨k, e2, rfl, tv, e89', h89⟩
    · exact absurd rfl z0
    · exact absurd rfl z45
    · rw [I_ti (by have := tv.1; omega) (by have := tv.1; omega)] at a6c
      rw [lit1q, I_add, show ((c : Nat) : Int) + 1 = ((c + 1 : Nat) : Int) by omega, wi_e]
      have f25 : FR [85] [] [] [] w15 (wi w15 85 ((c + 1 : Nat) : Int)) := FR.wi FR.rf (by simp)
      have e25 : F (wi w15 85 ((c + 1 : Nat) : Int)) 85 = ((c + 1 : Nat) : Int) := by rw [F_wi (by omega) (by omega), if_pos rfl]
      generalize wi w15 85 ((c + 1 : Nat) : Int) = w25 at f25 e25
      have iF : ∀ k, k ≠ 85 → F w25 k = F w15 k := fun k hk => congrArg _ (f25.1 k (by simp; exact hk))
      have iA : ∀ k t, A w25 k t = A w15 k t := fun k t => by show (w25.2.2.1 k t).toInt = _; rw [f25.2.2.1 k (by simp)]; rfl
      have e8925 : F w25 89 = ((e2 : Nat) : Int) := by rw [iF 89 (by decide), show F w15 89 = F u13 89 from congrArg _ (f15.1 89 (by simp))]; exact e89'
      have e8125 : F w25 81 = F u 81 := by rw [iF 81 (by decide)]; exact e8115
      have tvc : TVL w25 c k (ps c) e2 := by
        refine TVL_e (e1 := (F w10 89).toNat) (TVL_k tv ?_ ?_ ?_ ?_) (by omega)
        · rw [iA, show A w15 7 c = A u13 7 c from by show (w15.2.2.1 7 c).toInt = _; rw [f15.2.2.1 7 (by simp)]; rfl]
        · exact (f25.2.2.1 5 (by simp)).trans (f15.2.2.1 5 (by simp))
        · rw [iF 22 (by decide), show F w15 22 = F u13 22 from congrArg _ (f15.1 22 (by simp))]; exact Int.le_refl _
        · rw [iF 242 (by decide), show F w15 242 = F u13 242 from congrArg _ (f15.1 242 (by simp))]; exact Int.le_refl _
      have hlt := tvc.2.2.2.2
      have hc1 : c + 1 ≤ 4000 := by omega
      refine ih (c + 1) (fun t => if t = c + 1 then e2 else ps t) w25 ⟨FR.tr f015 (FR.mo f25 (by simp) (by simp) (by simp) (by simp)), FR_CS f25 cs15 (by simp) (by simp) (by simp) (by simp), FR_KT f25 ws15 (by simp) (by simp) (by simp) (by simp), e25, by simp only [if_true]; exact e8925, by simp only [if_true]; omega, by simp only [if_true]; omega, fun t ht => ?_⟩ hc1 (by omega)
      by_cases z : t = c
      · subst z
        refine ⟨k, by rw [iA]; exact a6c, ?_⟩
        simp only [if_true]
        rw [if_neg (by omega)]; exact tvc
      · obtain ⟨k2, e, tv2⟩ := tk15 t (by omega)
        refine ⟨k2, by rw [iA]; exact e, ?_⟩
        simp only []
        rw [if_neg (by omega), if_neg (by omega)]
        exact TVL_k tv2 (iA 7 t) (f25.2.2.1 5 (by simp)) (by rw [iF 22 (by decide)]; exact Int.le_refl _) (by rw [iF 242 (by decide)]; exact Int.le_refl _)
def WR0 (u : MS) : Prop := (WDk u 1 22 ∧ il 3 ≤ 100000 ∧ bl 2 ≤ 100000) ∧ WDk u 12 1
theorem scanAll_ok (hc : CST u) (hw : WR0 u) (hN : 300000 ≤ N) : OK (fun w _ => FR [85, 89, 90, 22, 242] [] [2, 3, 6, 7, 8, 13, 14] [] u w ∧ CST w ∧ WRS w ∧ ∃ c ps, TKS w c ps) (hm_To_scanAll N u) := by
  unfold hm_To_scanAll hb_To_scanAll_0
  refine ok_lt.mpr (ok_lt.mpr (ok_lt.mpr (ok_lt.mpr (ok_lt.mpr ?_))))
  rw [show (22 : Int32) = I 22 from rfl, lit1q, lit0q]
  simp only [wi_e]
  generalize hw5 : wi (wi (wi (wi (wi u 22 22) 242 1) 89 0) 90 1) 85 0 = w
  have f : FR [85, 89, 90, 22, 242] [] [2, 3, 6, 7, 8, 13, 14] [] u w := by
    rw [← hw5]; exact FR.wi (FR.wi (FR.wi (FR.wi (FR.wi FR.rf (by simp)) (by simp)) (by simp)) (by simp)) (by simp)
  have f' : FR [85, 89, 90, 22, 242] [] [] [] u w := by
    rw [← hw5]; exact FR.wi (FR.wi (FR.wi (FR.wi (FR.wi FR.rf (by simp)) (by simp)) (by simp)) (by simp)) (by simp)
  have v : F w 22 = 22 ∧ F w 242 = 1 ∧ F w 89 = 0 ∧ F w 85 = 0 := by
    rw [← hw5]
    refine ⟨?_, ?_, ?_, ?_⟩
    · rw [F_wi (by decide) (by decide), if_neg (by decide), F_wi (by decide) (by decide), if_neg (by decide), F_wi (by decide) (by decide), if_neg (by decide), F_wi (by decide) (by decide), if_neg (by decide), F_wi (by decide) (by decide), if_pos rfl]
    · rw [F_wi (by decide) (by decide), if_neg (by decide), F_wi (by decide) (by decide), if_neg (by decide), F_wi (by decide) (by decide), if_neg (by decide), F_wi (by decide) (by decide), if_pos rfl]
    · rw [F_wi (by decide) (by decide), if_neg (by decide), F_wi (by decide) (by decide), if_neg (by decide), F_wi (by decide) (by decide), if_pos rfl]
    · rw [F_wi (by decide) (by decide), if_pos rfl]
  obtain ⟨v1, v2, v3, v4⟩ := v
  have iA : ∀ k t, A w k t = A u k t := fun k t => by show (w.2.2.1 k t).toInt = _; rw [f'.2.2.1 k (by simp)]; rfl
  have cw := FR_CS f' hc (by simp) (by simp) (by simp) (by simp)
  have ww : WRS w := by
    refine ⟨⟨⟨by show 0 ≤ F w 22; omega, ?_, hw.1.2.1, hw.1.2.2, fun k hk => ?_⟩, by omega⟩, ⟨by show 0 ≤ F w 242; omega, ?_, by decide, by decide, fun k hk => ?_⟩, by omega⟩
    · show F w 22 + 1 ≤ ((il 3 : Nat) : Int); rw [v1]; decide
    · have hk : ((k : Nat) : Int) < F w 22 := hk
      rw [iA, iA]; exact hw.1.1 k (by omega)
    · show F w 242 + 1 ≤ ((il 14 : Nat) : Int); rw [v2]; decide
    · have hk : ((k : Nat) : Int) < F w 242 := hk
      rw [iA, iA]; exact hw.2 k (by omega)
  rw [show (0 : Int) = ((0 : Nat) : Int) from rfl]
  exact scanAll_loop hN N 0 (fun _ => 0) w ⟨f, cw, ww, by omega, by show F w 89 = ((0 : Nat) : Int); omega, by have := cw.1; show ((0 : Nat) : Int) ≤ _; omega, Nat.le_refl _, fun t ht => absurd ht (by omega)⟩ (by omega) (by omega)
end
end
section
set_option maxRecDepth 100000
def KNc (u w : MS) (a b n : Nat) : Prop := (w.2.2.1 6 = u.2.2.1 6 ∧ w.2.2.1 7 = u.2.2.1 7) ∧ ∀ k, a < k → k ≤ b → (A w 16 k = A u 16 k ∧ A w 17 k = A u 17 k ∧ A w 18 k = A u 18 k ∧ A w 19 k = A u 19 k ∧ A w 20 k = A u 20 k) ∧ (k ≠ n → A w 21 k = A u 21 k)
def HDc (n lo hi a b q r : Nat) : Prop := (a < n ∧ n ≤ b) ∧ lo < hi ∧ b + 1 + 2 * lo ≤ a + 2 * hi ∧ q ≤ r ∧ 5 * r + lo + 1 ≤ 5 * q + hi
def RWc (u : MS) (d : Nat) (E : Nat → Nat → Nat → Nat → Nat → Nat → Nat → Prop) : Nat → Nat → Nat → Nat → Nat → Nat → Nat → Nat → Prop
  | 0 => fun _ _ _ _ _ _ _ => False
  | k + 1 => fun n lo hi a b q r => ∃ m c s, E n lo m a c q s ∧ ((k = 0 ∧ A u 21 n = 0 ∧ m = hi ∧ c = b ∧ s = r) ∨ (1 ≤ k ∧ ∃ n2 : Nat, A u 21 n = ((n2 : Nat) : Int) ∧ RWc u d E k n2 (m + d) hi c b s r))
def ORc (u : MS) (d : Nat) (E : Nat → Nat → Nat → Nat → Nat → Nat → Nat → Prop) (k n lo hi a b q r : Nat) : Prop := (k = 0 ∧ n = 0 ∧ lo = hi ∧ a = b ∧ q = r) ∨ (1 ≤ k ∧ RWc u d E k n lo hi a b q r)
def RPc (u : MS) (d : Nat) (E : Nat → Nat → Nat → Nat → Nat → Nat → Nat → Prop) : Nat → Nat → Nat → Nat → Nat → Nat → Nat → Nat → Nat → Prop
  | 0 => fun _ _ _ _ _ _ _ _ => False
  | k + 1 => fun n l lo hi a b q r => (k = 0 ∧ n = l ∧ E l lo hi a b q r) ∨ (1 ≤ k ∧ ∃ l2 m c s : Nat, RPc u d E k n l2 lo m a c q s ∧ A u 21 l2 = ((l : Nat) : Int) ∧ E l (m + d) hi c b s r)
def LFc (u : MS) (n lo : Nat) : Prop := A u 16 n = A u 6 lo ∧ (1 ≤ A u 6 lo ∧ A u 6 lo ≤ 4) ∧ A u 17 n = ((lo : Nat) : Int) ∧ A u 18 n = A u 7 lo
def TKc (u : MS) (n lo hi : Nat) : Prop := ∃ t : Nat, A u 17 n = ((t : Nat) : Int) ∧ lo ≤ t ∧ t < hi
def TLc (u : MS) (E : Nat → Nat → Nat → Nat → Nat → Nat → Nat → Prop) (n lo hi a q r : Nat) : Prop := ∃ k m mid c s : Nat, A u 18 n = ((m : Nat) : Int) ∧ A u 19 n = ((k : Nat) : Int) ∧ k ≤ 8 ∧ ORc u 1 E k m (lo + 1) mid a c q s ∧ ((A u 20 n = 0 ∧ hi = mid + 1 ∧ s = r ∧ c < n) ∨ (1 ≤ k ∧ ∃ x c2 : Nat, A u 20 n = ((x : Nat) : Int) ∧ E x (mid + 1) (hi - 1) c c2 s r ∧ c2 < n))
def TUc (u : MS) (E : Nat → Nat → Nat → Nat → Nat → Nat → Nat → Prop) (n lo hi a q r : Nat) : Prop := ∃ k m c : Nat, A u 18 n = ((m : Nat) : Int) ∧ A u 19 n = ((k : Nat) : Int) ∧ k ≤ 8 ∧ ORc u 1 E k m (lo + 1) (hi - 1) a c q r ∧ c < n
def PAc (u : MS) : Nat → Nat → Nat → Nat → Nat → Nat → Nat → Nat → Prop
  | 0 => fun _ _ _ _ _ _ _ => False
  | f + 1 => fun n lo hi a b q r => HDc n lo hi a b q r ∧ TKc u n lo hi ∧ q = r ∧ ((LFc u n lo ∧ hi = lo + 1) ∨ (A u 16 n = 17 ∧ ∃ m : Nat, A u 18 n = ((m : Nat) : Int) ∧ (a < m ∧ m ≤ b ∧ m ≠ n) ∧ LFc u m (lo + 1) ∧ A u 6 (lo + 1) = 1 ∧ hi = lo + 2) ∨ (A u 16 n = 5 ∧ ∃ m c : Nat, A u 18 n = ((m : Nat) : Int) ∧ PAc u f m (lo + 1) (hi - 1) a c q r ∧ c < n) ∨ (A u 16 n = 6 ∧ TUc u (PAc u f) n lo hi a q r) ∨ (A u 16 n = 7 ∧ TLc u (PAc u f) n lo hi a q r))
def PRTc (u : MS) (Pa E G : Nat → Nat → Nat → Nat → Nat → Nat → Nat → Prop) (k n pl ph r0 hi a b q r : Nat) : Prop := (a < n ∧ n ≤ b) ∧ A u 16 n = 25 ∧ TKc u n 0 hi ∧ ∃ m c g m2 c1 s kb mb c2 : Nat, (A u 18 n = ((m : Nat) : Int) ∧ ORc u 1 Pa k m pl ph a c q q) ∧ (A u 19 n = ((g : Nat) : Int) ∧ ((g = 0 ∧ m2 = r0 ∧ c1 = c ∧ s = q) ∨ (1 ≤ g ∧ ∃ kg, RWc u 1 G kg g (r0 + 1) m2 c c1 q s))) ∧ (A u 20 n = ((mb : Nat) : Int) ∧ RWc u 1 E kb mb (m2 + 1) hi c1 c2 s r) ∧ c2 < n
def CSPc (u : MS) (Pa E G : Nat → Nat → Nat → Nat → Nat → Nat → Nat → Prop) (n lo hi a b q r : Nat) : Prop := HDc n lo hi a b q r ∧ ∃ m1, PRTc u Pa E G 1 n lo m1 m1 hi a b q r
def CHPc (u : MS) (E G : Nat → Nat → Nat → Nat → Nat → Nat → Nat → Prop) (n lo hi a b q r : Nat) : Prop := HDc n lo hi a b q r ∧ A u 16 n = 25 ∧ TKc u n 0 hi ∧ A u 18 n = 0 ∧ ∃ g kg m2 c1 s kb mb c2 : Nat, (A u 19 n = ((g : Nat) : Int) ∧ 1 ≤ g ∧ RWc u 1 G kg g lo m2 a c1 q s) ∧ (A u 20 n = ((mb : Nat) : Int) ∧ RWc u 1 E kb mb (m2 + 1) hi c1 c2 s r) ∧ c2 < n
def AGc (u : MS) (E : Nat → Nat → Nat → Nat → Nat → Nat → Nat → Prop) (n lo hi a b q r : Nat) : Prop := HDc n lo hi a b q r ∧ A u 16 n = 16 ∧ ∃ k m c : Nat, A u 18 n = ((m : Nat) : Int) ∧ A u 19 n = ((k : Nat) : Int) ∧ k ≤ 6 ∧ ORc u 1 E k m (lo + 1) (hi - 1) a c q r ∧ c < n
def STPc (u : MS) (E : Nat → Nat → Nat → Nat → Nat → Nat → Nat → Prop) (l x x2 c c2 q r s : Nat) (aa oo : Option Nat) (s2 : Nat) (aa2 oo2 : Option Nat) : Prop :=
  ((∃ m, E l x m c c2 q r ∧ x2 = m + 1) ∧ s2 = s + 1 ∧ aa2 = aa ∧ oo2 = oo) ∨
  ((x2 = x ∧ c < l ∧ c2 = l ∧ r = q) ∧ TKc u l 0 x ∧
    ((A u 16 l = 24 ∧ A u 18 l = 6 ∧ 1 ≤ s ∧ aa = none ∧ s2 = s - 1 ∧ aa2 = some (s - 1) ∧ oo2 = oo) ∨
    (A u 16 l = 24 ∧ A u 18 l = 16 ∧ 1 ≤ s ∧ aa = none ∧ oo = none ∧ s2 = s - 1 ∧ aa2 = none ∧ oo2 = some (s - 1)) ∨
    (A u 16 l = 23 ∧ A u 18 l = 6 ∧ 1 ≤ s ∧ aa = some (s - 1) ∧ s2 = s ∧ aa2 = none ∧ oo2 = oo) ∨
    (A u 16 l = 23 ∧ A u 18 l = 16 ∧ 1 ≤ s ∧ aa = none ∧ oo = some (s - 1) ∧ s2 = s ∧ aa2 = none ∧ oo2 = none) ∨
    (A u 16 l = 23 ∧ A u 18 l ≠ 6 ∧ A u 18 l ≠ 16 ∧ 2 ≤ s ∧ s2 = s - 1 ∧ aa2 = aa ∧ oo2 = oo)))
def SFc (u : MS) (E : Nat → Nat → Nat → Nat → Nat → Nat → Nat → Prop) (hi b r : Nat) : Nat → Nat → Nat → Nat → Nat → Nat → Option Nat → Option Nat → Prop
  | 0 => fun n x c q s aa oo => n = 0 ∧ x = hi + 1 ∧ c = b ∧ q = r ∧ s = 1 ∧ aa = none ∧ oo = none
  | j + 1 => fun n x c q s aa oo => 1 ≤ n ∧ ∃ n2 x2 c2 q2 s2 aa2 oo2, STPc u E n x x2 c c2 q q2 s aa oo s2 aa2 oo2 ∧ A u 21 n = ((n2 : Nat) : Int) ∧ SFc u E hi b r j n2 x2 c2 q2 s2 aa2 oo2
def SPc (u : MS) (E : Nat → Nat → Nat → Nat → Nat → Nat → Nat → Prop) (n lo a q : Nat) : Nat → Nat → Nat → Nat → Nat → Nat → Option Nat → Option Nat → Prop
  | 0 => fun _ _ _ _ _ _ _ => False
  | j + 1 => fun l x c r s aa oo => (j = 0 ∧ n = l ∧ 1 ≤ l ∧ STPc u E l lo x a c q r 0 none none s aa oo) ∨ (1 ≤ j ∧ 1 ≤ l ∧ ∃ l2 x2 c2 r2 s2 aa2 oo2, SPc u E n lo a q j l2 x2 c2 r2 s2 aa2 oo2 ∧ A u 21 l2 = ((l : Nat) : Int) ∧ STPc u E l x2 x c2 c r2 r s2 aa2 oo2 s aa oo)
def XPc (u : MS) : Nat → Nat → Nat → Nat → Nat → Nat → Nat → Nat → Nat → Nat → Prop
  | 0 => fun _ _ _ _ _ _ _ _ _ => False
  | f + 1 => fun o cl n lo hi a b q r => HDc n lo hi a b q r ∧ TKc u n lo hi ∧ o ≤ 25 ∧ (
    (LFc u n lo ∧ hi = lo + 1 ∧ q = r) ∨
    (A u 16 n = 5 ∧ ∃ m c : Nat, A u 18 n = ((m : Nat) : Int) ∧ XPc u f (o + 1) 3 m (lo + 1) (hi - 1) a c q r ∧ c < n) ∨
    (A u 16 n = 6 ∧ TUc u (XPc u f (o + 1) 3) n lo hi a q r) ∨
    (A u 16 n = 7 ∧ TLc u (XPc u f (o + 1) 3) n lo hi a q r) ∨
    (A u 16 n = 8 ∧ ∃ k m c : Nat, A u 18 n = ((m : Nat) : Int) ∧ RWc u 1 (XPc u f (o + 2) 3) k m (lo + 1) (hi - 1) a c q r ∧ c < n) ∨
    (A u 16 n = 9 ∧ ∃ x mid c s k m c2 : Nat, A u 18 n = ((x : Nat) : Int) ∧ XPc u f (o + 1) 3 x (lo + 1) mid a c q s ∧ A u 19 n = ((m : Nat) : Int) ∧ RWc u 1 (CSPc u (PAc u f) (XPc u f (o + 2) 3) (XPc u f (o + 1) 3)) k m (mid + 1) (hi - 1) c c2 s r ∧ c2 < n) ∨
    (A u 16 n = 10 ∧ ∃ k m c : Nat, A u 19 n = ((m : Nat) : Int) ∧ RWc u 1 (CHPc u (XPc u f (o + 2) 3) (XPc u f (o + 1) 3)) k m (lo + 1) (hi - 1) a c q r ∧ c < n) ∨
    (A u 16 n = 11 ∧ ∃ k m m1 c1 s1 : Nat, A u 19 n = ((m : Nat) : Int) ∧ ORc u 1 (CSPc u (PAc u f) (XPc u f (o + 2) 3) (XPc u f (o + 1) 3)) k m (lo + 1) m1 a c1 q s1 ∧ ((A u 18 n = 0 ∧ A u 20 n = 0 ∧ 1 ≤ k ∧ hi = m1 + 1 ∧ s1 = r ∧ c1 < n) ∨ ∃ x m2 c2 s2 kb mb c3 : Nat, 1 ≤ x ∧ A u 18 n = ((x : Nat) : Int) ∧ XPc u f (o + 1) 3 x (m1 + 1) m2 c1 c2 s1 s2 ∧ A u 20 n = ((mb : Nat) : Int) ∧ RWc u 1 (XPc u f (o + 2) 3) kb mb (m2 + 1) (hi - 1) c2 c3 s2 r ∧ c3 < n)) ∨
    (A u 16 n = 12 ∧ ∃ k m ph c : Nat, A u 17 n = ((lo : Nat) : Int) ∧ A u 18 n = (if q < 400 then ((q : Nat) : Int) else 0) ∧ A u 19 n = ((m : Nat) : Int) ∧ A u 20 n = ((hi - 1 : Nat) : Int) ∧ k ≤ 6 ∧ q + 1 ≤ r ∧ PRTc u (PAc u f) (XPc u f (o + 2) 3) (XPc u f (o + 1) 3) k m (lo + 2) ph (ph + 1) (hi - 1) a c (q + 1) r ∧ c < n) ∨
    (A u 16 n = 13 ∧ hi = lo + 4 ∧ q = r) ∨
    (A u 16 n = 14 ∧ A u 17 n = ((lo : Nat) : Int) ∧ ∃ k m a2 c : Nat, A u 19 n = ((m : Nat) : Int) ∧ A u 20 n = ((k : Nat) : Int) ∧ k ≤ 6 ∧ a ≤ a2 ∧ ORc u 1 (XPc u f (o + 1) 3) k m (lo + 2) (hi - 1) a2 c q r ∧ c < n) ∨
    (A u 16 n = 15 ∧ 1 ≤ cl ∧ ∃ x mid c s k m : Nat, A u 18 n = ((x : Nat) : Int) ∧ XPc u f o 0 x lo mid a c q s ∧ c < n ∧ A u 19 n = ((m : Nat) : Int) ∧ RWc u 0 (AGc u (XPc u f (o + 1) 3)) k m mid hi n b s r) ∨
    ((A u 16 n = 17 ∨ A u 16 n = 18) ∧ 1 ≤ cl ∧ ∃ m c : Nat, A u 18 n = ((m : Nat) : Int) ∧ XPc u f (o + 1) 1 m (lo + 1) hi a c q r ∧ c < n) ∨
    (A u 16 n = 19 ∧ 3 ≤ cl ∧ ∃ m c : Nat, A u 18 n = ((m : Nat) : Int) ∧ XPc u f (o + 1) 3 m (lo + 1) hi a c q r ∧ c < n) ∨
    (A u 16 n = 20 ∧ 3 ≤ cl ∧ ∃ x y mid c c2 : Nat, A u 18 n = ((x : Nat) : Int) ∧ PAc u f x lo mid a c q q ∧ A u 19 n = ((y : Nat) : Int) ∧ XPc u f (o + 1) 3 y (mid + 1) hi c c2 q r ∧ c2 < n) ∨
    (A u 16 n = 21 ∧ 3 ≤ cl ∧ ∃ x y mid c c2 s : Nat, A u 18 n = ((x : Nat) : Int) ∧ XPc u f o 2 x lo mid a c q s ∧ A u 19 n = ((y : Nat) : Int) ∧ XPc u f (o + 1) 3 y (mid + 1) hi c c2 s r ∧ c2 < n) ∨
    (A u 16 n = 22 ∧ 2 ≤ cl ∧ ∃ j m c : Nat, A u 18 n = ((m : Nat) : Int) ∧ SFc u (XPc u f o 1) hi c r j m lo a q 0 none none ∧ c < n))
section
variable {u w : MS} {a b n k d lo hi q r l : Nat} {E E2 : Nat → Nat → Nat → Nat → Nat → Nat → Nat → Prop}
theorem KNc.sub {a2 b2 n2 : Nat} (h : KNc u w a b n) (h1 : a ≤ a2) (h2 : b2 ≤ b) (h3 : n ≤ a2 ∨ b2 < n ∨ n2 = n) : KNc u w a2 b2 n2 := ⟨h.1, fun k k1 k2 => ⟨(h.2 k (by omega) (by omega)).1, fun k3 => (h.2 k (by omega) (by omega)).2 (by omega)⟩⟩
theorem KNc.nx (h : KNc u w a b n) (hk : a < k ∧ k ≤ b) (hn : k ≠ n) : A w 21 k = A u 21 k := (h.2 k hk.1 hk.2).2 hn
theorem KNc.g (h : KNc u w a b n) (hk : a < k ∧ k ≤ b) : A w 16 k = A u 16 k ∧ A w 17 k = A u 17 k ∧ A w 18 k = A u 18 k ∧ A w 19 k = A u 19 k ∧ A w 20 k = A u 20 k := (h.2 k hk.1 hk.2).1
def StE (u w : MS) (E E2 : Nat → Nat → Nat → Nat → Nat → Nat → Nat → Prop) : Prop := ∀ n lo hi a2 b2 q r, E n lo hi a2 b2 q r → KNc u w a2 b2 n → E2 n lo hi a2 b2 q r
def BdE (E : Nat → Nat → Nat → Nat → Nat → Nat → Nat → Prop) : Prop := ∀ n lo hi a b q r, E n lo hi a b q r → HDc n lo hi a b q r
theorem RW_hd (hb : BdE E) : ∀ {k n lo hi a b q r : Nat}, RWc u d E k n lo hi a b q r → HDc n lo hi a b q r ∧ 1 ≤ k
  | 0, _, _, _, _, _, _, _, h => h.elim
  | k + 1, n, lo, hi, a, b, q, r, h => by
    obtain ⟨m, c, s, e, h | ⟨h1, n2, h2, h3⟩⟩ := h
    · obtain ⟨rfl, -, rfl, rfl, rfl⟩ := h
      exact ⟨hb _ _ _ _ _ _ _ e, by omega⟩
    · obtain ⟨g, -⟩ := RW_hd hb h3
      have := hb _ _ _ _ _ _ _ e
      unfold HDc at *
      refine ⟨⟨?_, ?_, ?_, ?_, ?_⟩, by omega⟩ <;> omega
theorem RW_k (hs : StE u w E E2) (hb : BdE E) : ∀ {k n lo hi a2 b2 q r : Nat}, RWc u d E k n lo hi a2 b2 q r → KNc u w a2 b2 0 → RWc w d E2 k n lo hi a2 b2 q r
  | 0, _, _, _, _, _, _, _, h, _ => h
  | k + 1, n, lo, hi, a2, b2, q, r, h, kn => by
    obtain ⟨m, c, s, e, h⟩ := h
    have g := hb _ _ _ _ _ _ _ e
    have hc : c ≤ b2 := by
      rcases h with ⟨-, -, -, h, -⟩ | ⟨-, n2, -, h3⟩
      · omega
      · have := (RW_hd hb h3).1.1
        omega
    have hn : a2 < n ∧ n ≤ b2 := by have := g.1; omega
    refine ⟨m, c, s, hs _ _ _ _ _ _ _ e (KNc.sub kn (Nat.le_refl _) hc (Or.inl (by omega))), ?_⟩
    rcases h with ⟨h1, h2, h3, h4, h5⟩ | ⟨h1, n2, h2, h3⟩
    · exact Or.inl ⟨h1, by rw [kn.nx hn (by omega)]; exact h2, h3, h4, h5⟩
    · exact Or.inr ⟨h1, n2, by rw [kn.nx hn (by omega)]; exact h2, RW_k hs hb h3 (KNc.sub kn (by have := g.1; omega) (Nat.le_refl _) (Or.inl (by omega)))⟩
theorem OR_k (hs : StE u w E E2) (hb : BdE E) (h : ORc u d E k n lo hi a b q r) (kn : KNc u w a b 0) : ORc w d E2 k n lo hi a b q r := by
  rcases h with h | ⟨h1, h2⟩
  · exact Or.inl h
  · exact Or.inr ⟨h1, RW_k hs hb h2 kn⟩
theorem OR_hd (hb : BdE E) (h : ORc u d E k n lo hi a b q r) : a ≤ b ∧ lo ≤ hi ∧ b + 2 * lo ≤ a + 2 * hi ∧ q ≤ r ∧ 5 * r + lo ≤ 5 * q + hi := by
  rcases h with h | ⟨-, h⟩
  · omega
  · have := (RW_hd hb h).1
    unfold HDc at this
    omega
theorem RP_hd (hb : BdE E) : ∀ {k n l lo hi a b q r : Nat}, RPc u d E k n l lo hi a b q r → (a < l ∧ l ≤ b) ∧ (a < n ∧ n ≤ b) ∧ lo < hi ∧ b + 1 + 2 * lo ≤ a + 2 * hi ∧ q ≤ r ∧ 5 * r + lo ≤ 5 * q + hi
  | 0, _, _, _, _, _, _, _, _, h => h.elim
  | k + 1, n, l, lo, hi, a, b, q, r, h => by
    rcases h with ⟨h1, h2, e⟩ | ⟨h1, l2, m, c, s, h3, h4, e⟩
    · have g := hb _ _ _ _ _ _ _ e
      unfold HDc at g
      omega
    · have g := hb _ _ _ _ _ _ _ e
      have g2 := RP_hd hb h3
      unfold HDc at g
      omega
theorem RP_k (hs : StE u w E E2) (hb : BdE E) : ∀ {k n l lo hi a2 b2 q r : Nat}, RPc u d E k n l lo hi a2 b2 q r → KNc u w a2 b2 l → RPc w d E2 k n l lo hi a2 b2 q r
  | 0, _, _, _, _, _, _, _, _, h, _ => h
  | k + 1, n, l, lo, hi, a2, b2, q, r, h, kn => by
    rcases h with ⟨h1, h2, e⟩ | ⟨h1, l2, m, c, s, h3, h4, e⟩
    · exact Or.inl ⟨h1, h2, hs _ _ _ _ _ _ _ e kn⟩
    · have g := hb _ _ _ _ _ _ _ e
      have g2 := RP_hd hb h3
      unfold HDc at g
      refine Or.inr ⟨h1, l2, m, c, s, RP_k hs hb h3 (KNc.sub kn (Nat.le_refl _) (by omega) (Or.inr (Or.inl (by omega)))), by rw [kn.nx (by omega) (by omega)]; exact h4, hs _ _ _ _ _ _ _ e (KNc.sub kn (by omega) (Nat.le_refl _) (Or.inr (Or.inr rfl)))⟩
theorem RW_app (hb : BdE E) : ∀ {k n l lo m a c q s j n2 hi b r : Nat}, RPc u d E k n l lo m a c q s → 1 ≤ j → A u 21 l = ((n2 : Nat) : Int) → RWc u d E j n2 (m + d) hi c b s r → RWc u d E (k + j) n lo hi a b q r
  | 0, _, _, _, _, _, _, _, _, _, _, _, _, _, h, _, _, _ => h.elim
  | k + 1, n, l, lo, m, a, c, q, s, j, n2, hi, b, r, h, hj, h2, h3 => by
    rcases h with ⟨rfl, rfl, e⟩ | ⟨h1, l2, m2, c2, s2, h4, h5, e⟩
    · rw [show 0 + 1 + j = j + 1 by omega]
      exact ⟨m, c, s, e, Or.inr ⟨hj, n2, h2, h3⟩⟩
    · rw [show k + 1 + j = k + (j + 1) by omega]
      exact RW_app hb h4 (by omega) h5 ⟨m, c, s, e, Or.inr ⟨hj, n2, h2, h3⟩⟩
theorem RW_of (hb : BdE E) : ∀ {k n l lo hi a b q r : Nat}, RPc u d E k n l lo hi a b q r → A u 21 l = 0 → RWc u d E k n lo hi a b q r
  | 0, _, _, _, _, _, _, _, _, h, _ => h.elim
  | k + 1, n, l, lo, hi, a, b, q, r, h, h0 => by
    rcases h with ⟨rfl, rfl, e⟩ | ⟨h1, l2, m2, c2, s2, h4, h5, e⟩
    · exact ⟨hi, b, r, e, Or.inl ⟨rfl, h0, rfl, rfl, rfl⟩⟩
    · exact RW_app hb h4 (by omega) h5 ⟨hi, b, r, e, Or.inl ⟨rfl, h0, rfl, rfl, rfl⟩⟩
end
end
section
set_option maxRecDepth 100000
section
variable {u w : MS} {a b n k d lo hi q r l : Nat} {E E2 G G2 Pa Pa2 : Nat → Nat → Nat → Nat → Nat → Nat → Nat → Prop}
theorem LF_k (h : LFc u n lo) (kn : KNc u w a b l) (hn : a < n ∧ n ≤ b) : LFc w n lo := by
  obtain ⟨g1, g2, g3, g4, g5⟩ := kn.g hn
  have e6 : A w 6 lo = A u 6 lo := by show (w.2.2.1 6 lo).toInt = _; rw [kn.1.1]; rfl
  have e7 : A w 7 lo = A u 7 lo := by show (w.2.2.1 7 lo).toInt = _; rw [kn.1.2]; rfl
  unfold LFc
  rw [g1, e6, g2, g3, e7]; exact h
theorem TK_k {lo hi : Nat} (h : TKc u n lo hi) (kn : KNc u w a b l) (hn : a < n ∧ n ≤ b) : TKc w n lo hi := by
  obtain ⟨g1, g2, g3, g4, g5⟩ := kn.g hn
  unfold TKc
  rw [g2]; exact h
theorem KNc.in0 (kn : KNc u w a b n) {a2 c : Nat} (h1 : a ≤ a2) (h2 : c < n) (h3 : n ≤ b) : KNc u w a2 c 0 := KNc.sub kn h1 (by omega) (Or.inr (Or.inl h2))
theorem TU_k (hs : StE u w E E2) (hb : BdE E) (h : TUc u E n lo hi a q r) (kn : KNc u w a b n) (hn : a < n ∧ n ≤ b) : TUc w E2 n lo hi a q r := by
  obtain ⟨g1, g2, g3, g4, g5⟩ := kn.g hn
  obtain ⟨k, m, c, h1, h2, h3, h4, h5⟩ := h
  exact ⟨k, m, c, by rw [g3]; exact h1, by rw [g4]; exact h2, h3, OR_k hs hb h4 (kn.in0 (Nat.le_refl _) h5 hn.2), h5⟩
theorem TL_k (hs : StE u w E E2) (hb : BdE E) (h : TLc u E n lo hi a q r) (kn : KNc u w a b n) (hn : a < n ∧ n ≤ b) : TLc w E2 n lo hi a q r := by
  obtain ⟨g1, g2, g3, g4, g5⟩ := kn.g hn
  obtain ⟨k, m, mid, c, s, h1, h2, h3, h4, h5⟩ := h
  have hc : c < n := by
    rcases h5 with ⟨-, -, -, h⟩ | ⟨-, x, c2, -, h6, h7⟩
    · exact h
    · have := (hb _ _ _ _ _ _ _ h6).1; omega
  have ho := OR_hd hb h4
  refine ⟨k, m, mid, c, s, by rw [g3]; exact h1, by rw [g4]; exact h2, h3, OR_k hs hb h4 (kn.in0 (Nat.le_refl _) hc hn.2), ?_⟩
  rcases h5 with ⟨h5, h6⟩ | ⟨h5, x, c2, h6, h7, h8⟩
  · exact Or.inl ⟨by rw [g5]; exact h5, h6⟩
  · exact Or.inr ⟨h5, x, c2, by rw [g5]; exact h6, hs _ _ _ _ _ _ _ h7 (KNc.sub kn (by omega) (by omega) (Or.inr (Or.inl (by omega)))), h8⟩
theorem PA_bd (f : Nat) : BdE (PAc u f) := fun n lo hi a b q r h => by
  cases f with
  | zero => exact h.elim
  | succ f => exact h.1
theorem PA_k : ∀ {f f2 : Nat}, f ≤ f2 → StE u w (PAc u f) (PAc w f2)
  | 0, _, _, _, _, _, _, _, _, _, h, _ => h.elim
  | f + 1, 0, h, _, _, _, _, _, _, _, _, _ => by omega
  | f + 1, f2 + 1, hf, n, lo, hi, a2, b2, q, r, h, kn => by
    obtain ⟨h1, h2, h3, h4⟩ := h
    have hn := h1.1
    obtain ⟨g1, g2, g3, g4, g5⟩ := kn.g hn
    have e6 : A w 6 (lo + 1) = A u 6 (lo + 1) := by show (w.2.2.1 6 (lo + 1)).toInt = _; rw [kn.1.1]; rfl
    have hs : StE u w (PAc u f) (PAc w f2) := PA_k (by omega)
    refine ⟨h1, TK_k h2 kn hn, h3, ?_⟩
    rw [g1]
    rcases h4 with ⟨h4, h5⟩ | ⟨h4, m, h5, h6, h7, h8⟩ | ⟨h4, m, c, h5, h6, h7⟩ | ⟨h4, h5⟩ | ⟨h4, h5⟩
    · exact Or.inl ⟨LF_k h4 kn hn, h5⟩
    · exact Or.inr (Or.inl ⟨h4, m, by rw [g3]; exact h5, h6, LF_k h7 kn ⟨h6.1, h6.2.1⟩, by rw [e6]; exact h8⟩)
    · exact Or.inr (Or.inr (Or.inl ⟨h4, m, c, by rw [g3]; exact h5, hs _ _ _ _ _ _ _ h6 (KNc.sub kn (Nat.le_refl _) (by omega) (Or.inr (Or.inl (by omega)))), h7⟩))
    · exact Or.inr (Or.inr (Or.inr (Or.inl ⟨h4, TU_k hs (PA_bd f) h5 kn hn⟩)))
    · exact Or.inr (Or.inr (Or.inr (Or.inr ⟨h4, TL_k hs (PA_bd f) h5 kn hn⟩)))
theorem PRT_k {pl ph r0 : Nat} (hp : StE u w Pa Pa2) (hs : StE u w E E2) (hg : StE u w G G2) (bp : BdE Pa) (be : BdE E) (bg : BdE G) (h : PRTc u Pa E G k n pl ph r0 hi a b q r) (kn : KNc u w a b n) : PRTc w Pa2 E2 G2 k n pl ph r0 hi a b q r := by
  obtain ⟨hn, h1, h2, m, c, g, m2, c1, s, kb, mb, c2, ⟨h3, h4⟩, ⟨h5, h6⟩, ⟨h7, h8⟩, h9⟩ := h
  obtain ⟨g1, g2, g3, g4, g5⟩ := kn.g hn
  have o1 := OR_hd bp h4
  have o3 := (RW_hd be h8).1.1
  have o2 : c ≤ c1 := by
    rcases h6 with h6 | ⟨-, kg, h6⟩
    · omega
    · have := (RW_hd bg h6).1.1; omega
  refine ⟨hn, by rw [g1]; exact h1, TK_k h2 kn hn, m, c, g, m2, c1, s, kb, mb, c2, ⟨by rw [g3]; exact h3, OR_k hp bp h4 (kn.in0 (Nat.le_refl _) (by omega) hn.2)⟩, ⟨by rw [g4]; exact h5, ?_⟩, ⟨by rw [g5]; exact h7, RW_k hs be h8 (kn.in0 (by omega) h9 hn.2)⟩, h9⟩
  rcases h6 with h6 | ⟨h6, kg, h7⟩
  · exact Or.inl h6
  · exact Or.inr ⟨h6, kg, RW_k hg bg h7 (kn.in0 (by omega) (by omega) hn.2)⟩
theorem CSP_bd : BdE (CSPc u Pa E G) := fun _ _ _ _ _ _ _ h => h.1
theorem CSP_k (hp : StE u w Pa Pa2) (hs : StE u w E E2) (hg : StE u w G G2) (bp : BdE Pa) (be : BdE E) (bg : BdE G) : StE u w (CSPc u Pa E G) (CSPc w Pa2 E2 G2) := fun n lo hi a2 b2 q r h kn => by
  obtain ⟨h1, m1, h2⟩ := h
  exact ⟨h1, m1, PRT_k hp hs hg bp be bg h2 kn⟩
theorem CHP_bd : BdE (CHPc u E G) := fun _ _ _ _ _ _ _ h => h.1
theorem CHP_k (hs : StE u w E E2) (hg : StE u w G G2) (be : BdE E) (bg : BdE G) : StE u w (CHPc u E G) (CHPc w E2 G2) := fun n lo hi a2 b2 q r h kn => by
  obtain ⟨h0, h1, h2, h3, g, kg, m2, c1, s, kb, mb, c2, ⟨h4, h5, h6⟩, ⟨h7, h8⟩, h9⟩ := h
  have hn := h0.1
  obtain ⟨g1, g2, g3, g4, g5⟩ := kn.g hn
  have o3 := (RW_hd be h8).1.1
  have o2 := (RW_hd bg h6).1.1
  exact ⟨h0, by rw [g1]; exact h1, TK_k h2 kn hn, by rw [g3]; exact h3, g, kg, m2, c1, s, kb, mb, c2, ⟨by rw [g4]; exact h4, h5, RW_k hg bg h6 (kn.in0 (Nat.le_refl _) (by omega) hn.2)⟩, ⟨by rw [g5]; exact h7, RW_k hs be h8 (kn.in0 (by omega) h9 hn.2)⟩, h9⟩
theorem AG_bd : BdE (AGc u E) := fun _ _ _ _ _ _ _ h => h.1
theorem AG_k (hs : StE u w E E2) (be : BdE E) : StE u w (AGc u E) (AGc w E2) := fun n lo hi a2 b2 q r h kn => by
  obtain ⟨h0, h1, k, m, c, h2, h3, h4, h5, h6⟩ := h
  have hn := h0.1
  obtain ⟨g1, g2, g3, g4, g5⟩ := kn.g hn
  exact ⟨h0, by rw [g1]; exact h1, k, m, c, by rw [g3]; exact h2, by rw [g4]; exact h3, h4, OR_k hs be h5 (kn.in0 (Nat.le_refl _) (by omega) hn.2), h6⟩
theorem STP_hd (hb : BdE E) {x x2 c c2 s s2 : Nat} {aa oo aa2 oo2 : Option Nat} (h : STPc u E l x x2 c c2 q r s aa oo s2 aa2 oo2) : (c < l ∧ l ≤ c2) ∧ x ≤ x2 ∧ q ≤ r ∧ 5 * r + x ≤ 5 * q + x2 := by
  rcases h with ⟨⟨m, h1, h2⟩, h3, -⟩ | ⟨⟨h1, h2, h3, h4⟩, -, h5⟩
  · have := hb _ _ _ _ _ _ _ h1
    unfold HDc at this
    omega
  · omega
theorem STP_k (hs : StE u w E E2) (hb : BdE E) {x x2 c c2 s s2 : Nat} {aa oo aa2 oo2 : Option Nat} (h : STPc u E l x x2 c c2 q r s aa oo s2 aa2 oo2) (kn : KNc u w c c2 l) : STPc w E2 l x x2 c c2 q r s aa oo s2 aa2 oo2 := by
  rcases h with ⟨⟨m, h1, h2⟩, h3⟩ | ⟨h1, h2, h3⟩
  · exact Or.inl ⟨⟨m, hs _ _ _ _ _ _ _ h1 kn, h2⟩, h3⟩
  · have hn : c < l ∧ l ≤ c2 := by omega
    obtain ⟨g1, g2, g3, g4, g5⟩ := kn.g hn
    refine Or.inr ⟨h1, TK_k h2 kn hn, ?_⟩
    rw [g1, g3]; exact h3
theorem SF_le (hb : BdE E) : ∀ {j n x c q s : Nat} {aa oo : Option Nat}, SFc u E hi b r j n x c q s aa oo → c ≤ b
  | 0, _, _, _, _, _, _, _, h => by have := h.2.2.1; omega
  | j + 1, n, x, c, q, s, aa, oo, h => by
    obtain ⟨h0, n2, x2, c2, q2, s2, aa2, oo2, h1, h2, h3⟩ := h
    have g := STP_hd hb h1
    have := SF_le hb h3
    omega
theorem SF_k (hs : StE u w E E2) (hb : BdE E) : ∀ {j n x c q s : Nat} {aa oo : Option Nat}, SFc u E hi b r j n x c q s aa oo → KNc u w c b 0 → SFc w E2 hi b r j n x c q s aa oo
  | 0, _, _, _, _, _, _, _, h, _ => h
  | j + 1, n, x, c, q, s, aa, oo, h, kn => by
    obtain ⟨h0, n2, x2, c2, q2, s2, aa2, oo2, h1, h2, h3⟩ := h
    have g := STP_hd hb h1
    have g2 : c2 ≤ b := SF_le hb h3
    exact ⟨h0, n2, x2, c2, q2, s2, aa2, oo2, STP_k hs hb h1 (KNc.sub kn (Nat.le_refl _) g2 (Or.inl (by omega))), by rw [kn.nx (by omega) (by omega)]; exact h2, SF_k hs hb h3 (KNc.sub kn (by omega) (Nat.le_refl _) (Or.inl (by omega)))⟩
theorem SP_hd (hb : BdE E) : ∀ {j l x c r s : Nat} {aa oo : Option Nat}, SPc u E n lo a q j l x c r s aa oo → (a < l ∧ l ≤ c) ∧ lo ≤ x ∧ q ≤ r ∧ 5 * r + lo ≤ 5 * q + x
  | 0, _, _, _, _, _, _, _, h => h.elim
  | j + 1, l, x, c, r, s, aa, oo, h => by
    rcases h with ⟨h1, h2, h0, h3⟩ | ⟨h1, h0, l2, x2, c2, r2, s2, aa2, oo2, h2, h3, h4⟩
    · exact STP_hd hb h3
    · have g := STP_hd hb h4
      have g2 := SP_hd hb h2
      omega
theorem SP_k (hs : StE u w E E2) (hb : BdE E) : ∀ {j l x c r s : Nat} {aa oo : Option Nat}, SPc u E n lo a q j l x c r s aa oo → KNc u w a c l → SPc w E2 n lo a q j l x c r s aa oo
  | 0, _, _, _, _, _, _, _, h, _ => h
  | j + 1, l, x, c, r, s, aa, oo, h, kn => by
    rcases h with ⟨h1, h2, h0, h3⟩ | ⟨h1, h0, l2, x2, c2, r2, s2, aa2, oo2, h2, h3, h4⟩
    · exact Or.inl ⟨h1, h2, h0, STP_k hs hb h3 kn⟩
    · have g := STP_hd hb h4
      have g2 := SP_hd hb h2
      exact Or.inr ⟨h1, h0, l2, x2, c2, r2, s2, aa2, oo2, SP_k hs hb h2 (KNc.sub kn (Nat.le_refl _) (by omega) (Or.inr (Or.inl (by omega)))), by rw [kn.nx (by omega) (by omega)]; exact h3, STP_k hs hb h4 (KNc.sub kn (by omega) (Nat.le_refl _) (Or.inr (Or.inr rfl)))⟩
theorem SF_app : ∀ {j l x c r s i n2 hi b r2 : Nat} {aa oo : Option Nat}, SPc u E n lo a q j l x c r s aa oo → A u 21 l = ((n2 : Nat) : Int) → SFc u E hi b r2 i n2 x c r s aa oo → SFc u E hi b r2 (j + i) n lo a q 0 none none
  | 0, _, _, _, _, _, _, _, _, _, _, _, _, h, _, _ => h.elim
  | j + 1, l, x, c, r, s, i, n2, hi, b, r2, aa, oo, h, hl, h3 => by
    rcases h with ⟨rfl, rfl, h0, h4⟩ | ⟨h1, h0, l2, x2, c2, r3, s2, aa2, oo2, h2, h5, h4⟩
    · rw [show 0 + 1 + i = i + 1 by omega]
      exact ⟨h0, n2, x, c, r, s, aa, oo, h4, hl, h3⟩
    · rw [show j + 1 + i = j + (i + 1) by omega]
      exact SF_app h2 h5 ⟨h0, n2, x, c, r, s, aa, oo, h4, hl, h3⟩
end
end
section
set_option maxRecDepth 100000
section
variable {u w : MS} {a b n k d lo hi q r l o cl f : Nat}
theorem XP_bd (f o cl : Nat) : BdE (XPc u f o cl) := fun n lo hi a b q r h => by
  cases f with
  | zero => exact h.elim
  | succ f => exact h.1
theorem XP_k : ∀ {f f2 o cl cl2 : Nat}, f ≤ f2 → cl ≤ cl2 → StE u w (XPc u f o cl) (XPc w f2 o cl2)
  | 0, _, _, _, _, _, _, _, _, _, _, _, _, _, h, _ => h.elim
  | f + 1, 0, _, _, _, h, _, _, _, _, _, _, _, _, _, _ => by omega
  | f + 1, f2 + 1, o, cl, cl2, hf, hcl, n, lo, hi, a, b, q, r, h, kn => by
    obtain ⟨h1, h2, h3, h4⟩ := h
    have hn := h1.1
    obtain ⟨g1, g2, g3, g4, g5⟩ := kn.g hn
    have hs : ∀ o cl, StE u w (XPc u f o cl) (XPc w f2 o cl) := fun o cl => XP_k (by omega) (Nat.le_refl _)
    have hp : StE u w (PAc u f) (PAc w f2) := PA_k (by omega)
    have so : ∀ {m lo hi a2 c q r o cl}, XPc u f o cl m lo hi a2 c q r → a ≤ a2 → c < n → XPc w f2 o cl m lo hi a2 c q r := fun {m lo hi a2 c q r o cl} h h1 h2 => hs o cl _ _ _ _ _ _ _ h (KNc.sub kn h1 (by omega) (Or.inr (Or.inl (by omega))))
    refine ⟨h1, TK_k h2 kn hn, h3, ?_⟩
    rw [g1]
    rcases h4 with ⟨h4, h5⟩ | ⟨h4, m, c, h5, h6, h7⟩ | ⟨h4, h5⟩ | ⟨h4, h5⟩ | ⟨h4, k, m, c, h5, h6, h7⟩ | ⟨h4, x, mid, c, s, k, m, c2, h5, h6, h7, h8, h9⟩ | ⟨h4, k, m, c, h5, h6, h7⟩ | ⟨h4, k, m, m1, c1, s1, h5, h6, h7⟩ | ⟨h4, k, m, ph, c, h5, h6, h7, h8, h9, h10, h11, h12⟩ | h4 | ⟨h4, h5, k, m, a2, c, h6, h7, h8, h9, h10, h11⟩ | ⟨h4, h5, x, mid, c, s, k, m, h6, h7, h8, h9, h10⟩ | ⟨h4, h5, m, c, h6, h7, h8⟩ | ⟨h4, h5, m, c, h6, h7, h8⟩ | ⟨h4, h5, x, y, mid, c, c2, h6, h7, h8, h9, h10⟩ | ⟨h4, h5, x, y, mid, c, c2, s, h6, h7, h8, h9, h10⟩ | ⟨h4, h5, j, m, c, h6, h7, h8⟩
    · exact Or.inl ⟨LF_k h4 kn hn, h5⟩
    · exact Or.inr (Or.inl ⟨h4, m, c, by rw [g3]; exact h5, so h6 (Nat.le_refl _) h7, h7⟩)
    · exact Or.inr (Or.inr (Or.inl ⟨h4, TU_k (hs _ _) (XP_bd _ _ _) h5 kn hn⟩))
    · exact Or.inr (Or.inr (Or.inr (Or.inl ⟨h4, TL_k (hs _ _) (XP_bd _ _ _) h5 kn hn⟩)))
    · exact Or.inr (Or.inr (Or.inr (Or.inr (Or.inl ⟨h4, k, m, c, by rw [g3]; exact h5, RW_k (hs _ _) (XP_bd _ _ _) h6 (kn.in0 (Nat.le_refl _) h7 hn.2), h7⟩))))
    · have b1 := (XP_bd _ _ _ _ _ _ _ _ _ _ h6).1
      have b2 := (RW_hd CSP_bd h8).1.1
      exact Or.inr (Or.inr (Or.inr (Or.inr (Or.inr (Or.inl ⟨h4, x, mid, c, s, k, m, c2, by rw [g3]; exact h5, so h6 (Nat.le_refl _) (by omega), by rw [g4]; exact h7, RW_k (CSP_k hp (hs _ _) (hs _ _) (PA_bd _) (XP_bd _ _ _) (XP_bd _ _ _)) CSP_bd h8 (kn.in0 (by omega) h9 hn.2), h9⟩)))))
    · exact Or.inr (Or.inr (Or.inr (Or.inr (Or.inr (Or.inr (Or.inl ⟨h4, k, m, c, by rw [g4]; exact h5, RW_k (CHP_k (hs _ _) (hs _ _) (XP_bd _ _ _) (XP_bd _ _ _)) CHP_bd h6 (kn.in0 (Nat.le_refl _) h7 hn.2), h7⟩))))))
    · have b1 := OR_hd CSP_bd h6
      have b2 : c1 < n := by
        rcases h7 with ⟨-, -, -, -, -, h⟩ | ⟨x, m2, c2, s2, kb, mb, c3, -, -, h8, -, h9, h10⟩
        · exact h
        · have := (XP_bd _ _ _ _ _ _ _ _ _ _ h8).1; have := (RW_hd (XP_bd _ _ _) h9).1.1; omega
      refine Or.inr (Or.inr (Or.inr (Or.inr (Or.inr (Or.inr (Or.inr (Or.inl ⟨h4, k, m, m1, c1, s1, by rw [g4]; exact h5, OR_k (CSP_k hp (hs _ _) (hs _ _) (PA_bd _) (XP_bd _ _ _) (XP_bd _ _ _)) CSP_bd h6 (kn.in0 (Nat.le_refl _) b2 hn.2), ?_⟩)))))))
      rw [g3, g5]
      rcases h7 with h7 | ⟨x, m2, c2, s2, kb, mb, c3, h7, h8, h9, h10, h11, h12⟩
      · exact Or.inl h7
      · have b3 := (XP_bd _ _ _ _ _ _ _ _ _ _ h9).1
        have b4 := (RW_hd (XP_bd _ _ _) h11).1.1
        exact Or.inr ⟨x, m2, c2, s2, kb, mb, c3, h7, h8, so h9 (by omega) (by omega), h10, RW_k (hs _ _) (XP_bd _ _ _) h11 (kn.in0 (by omega) h12 hn.2), h12⟩
    · have b1 := h11.1
      refine Or.inr (Or.inr (Or.inr (Or.inr (Or.inr (Or.inr (Or.inr (Or.inr (Or.inl ⟨h4, k, m, ph, c, by rw [g2]; exact h5, by rw [g3]; exact h6, by rw [g4]; exact h7, by rw [g5]; exact h8, h9, h10, PRT_k hp (hs _ _) (hs _ _) (PA_bd _) (XP_bd _ _ _) (XP_bd _ _ _) h11 (KNc.sub kn (Nat.le_refl _) (by omega) (Or.inr (Or.inl (by omega)))), h12⟩))))))))
    · exact Or.inr (Or.inr (Or.inr (Or.inr (Or.inr (Or.inr (Or.inr (Or.inr (Or.inr (Or.inl h4)))))))))
    · exact Or.inr (Or.inr (Or.inr (Or.inr (Or.inr (Or.inr (Or.inr (Or.inr (Or.inr (Or.inr (Or.inl ⟨h4, by rw [g2]; exact h5, k, m, a2, c, by rw [g4]; exact h6, by rw [g5]; exact h7, h8, h9, OR_k (hs _ _) (XP_bd _ _ _) h10 (kn.in0 h9 h11 hn.2), h11⟩))))))))))
    · exact Or.inr (Or.inr (Or.inr (Or.inr (Or.inr (Or.inr (Or.inr (Or.inr (Or.inr (Or.inr (Or.inr (Or.inl ⟨h4, by omega, x, mid, c, s, k, m, by rw [g3]; exact h6, so h7 (Nat.le_refl _) h8, h8, by rw [g4]; exact h9, RW_k (AG_k (hs _ _) (XP_bd _ _ _)) AG_bd h10 (KNc.sub kn (by omega) (Nat.le_refl _) (Or.inl (by omega)))⟩)))))))))))
    · exact Or.inr (Or.inr (Or.inr (Or.inr (Or.inr (Or.inr (Or.inr (Or.inr (Or.inr (Or.inr (Or.inr (Or.inr (Or.inl ⟨h4, by omega, m, c, by rw [g3]; exact h6, so h7 (Nat.le_refl _) h8, h8⟩))))))))))))
    · exact Or.inr (Or.inr (Or.inr (Or.inr (Or.inr (Or.inr (Or.inr (Or.inr (Or.inr (Or.inr (Or.inr (Or.inr (Or.inr (Or.inl ⟨h4, by omega, m, c, by rw [g3]; exact h6, so h7 (Nat.le_refl _) h8, h8⟩)))))))))))))
    · have b1 := (PA_bd _ _ _ _ _ _ _ _ h7).1
      have b2 := (XP_bd _ _ _ _ _ _ _ _ _ _ h9).1
      exact Or.inr (Or.inr (Or.inr (Or.inr (Or.inr (Or.inr (Or.inr (Or.inr (Or.inr (Or.inr (Or.inr (Or.inr (Or.inr (Or.inr (Or.inl ⟨h4, by omega, x, y, mid, c, c2, by rw [g3]; exact h6, hp _ _ _ _ _ _ _ h7 (KNc.sub kn (Nat.le_refl _) (by omega) (Or.inr (Or.inl (by omega)))), by rw [g4]; exact h8, so h9 (by omega) h10, h10⟩))))))))))))))
    · have b1 := (XP_bd _ _ _ _ _ _ _ _ _ _ h7).1
      have b2 := (XP_bd _ _ _ _ _ _ _ _ _ _ h9).1
      exact Or.inr (Or.inr (Or.inr (Or.inr (Or.inr (Or.inr (Or.inr (Or.inr (Or.inr (Or.inr (Or.inr (Or.inr (Or.inr (Or.inr (Or.inr (Or.inl ⟨h4, by omega, x, y, mid, c, c2, s, by rw [g3]; exact h6, so h7 (Nat.le_refl _) (by omega), by rw [g4]; exact h8, so h9 (by omega) h10, h10⟩)))))))))))))))
    · exact Or.inr (Or.inr (Or.inr (Or.inr (Or.inr (Or.inr (Or.inr (Or.inr (Or.inr (Or.inr (Or.inr (Or.inr (Or.inr (Or.inr (Or.inr (Or.inr ⟨h4, by omega, j, m, c, by rw [g3]; exact h6, SF_k (hs _ _) (XP_bd _ _ _) h7 (kn.in0 (Nat.le_refl _) h8 hn.2), h8⟩)))))))))))))))
end
end
section
set_option maxRecDepth 100000
def TKKc (u : MS) (c : Nat) : Prop := c ≤ 4000 ∧ (A u 6 c = 0 ∨ A u 6 c = 45) ∧ ∀ t, t < c → 1 ≤ A u 6 t ∧ A u 6 t ≤ 44
def PSI (u : MS) (c p n q o s : Nat) : Prop := TKKc u c ∧ (F u 665 = ((p : Nat) : Int) ∧ p ≤ c) ∧ (F u 306 = ((n : Nat) : Int) ∧ n ≤ 2 * p) ∧ F u 449 = (if q < 400 then ((q : Nat) : Int) else 400) ∧ (F u 666 = ((o : Nat) : Int) ∧ o ≤ 25) ∧ (F u 664 = ((s : Nat) : Int) ∧ s ≤ p)
def KPG (u w : MS) : Prop := FR [306, 449, 664, 665, 666, 667] [] [16, 17, 18, 19, 20, 21, 34] [] u w
def OLDc (u w : MS) (n s : Nat) : Prop := (∀ k, k ≤ n → A w 16 k = A u 16 k ∧ A w 17 k = A u 17 k ∧ A w 18 k = A u 18 k ∧ A w 19 k = A u 19 k ∧ A w 20 k = A u 20 k ∧ A w 21 k = A u 21 k) ∧ ∀ i, i < s → A w 34 i = A u 34 i
def NDQ (Q : MS → Nat → Nat → Nat → Nat → Nat → Nat → Nat → Prop) (u : MS) (c p n q o s : Nat) (w : MS) (r : Int32 ⊕ Nat) : Prop := KPG u w ∧ match r with
  | .inr k => k = 3
  | .inl x => ∃ m p2 n2 q2 : Nat, x = I ((m : Nat) : Int) ∧ OLDc u w n s ∧ PSI w c p2 n2 q2 o s ∧ p ≤ p2 ∧ Q w m p p2 n n2 q q2
section
variable {u v w : MS} {N c p n q o s k p2 n2 q2 m a b l lo hi r d : Nat}
theorem KPG.rf : KPG u u := FR.rf
theorem KPG.tr (a : KPG u v) (b : KPG v w) : KPG u w := FR.tr a b
theorem OLDc.rf : OLDc u u n s := ⟨fun _ _ => ⟨rfl, rfl, rfl, rfl, rfl, rfl⟩, fun _ _ => rfl⟩
theorem OLDc.tr (a : OLDc u v n s) (b : OLDc v w n2 s) (h : n ≤ n2) : OLDc u w n s := ⟨fun k hk => by
  obtain ⟨a1, a2, a3, a4, a5, a6⟩ := a.1 k hk
  obtain ⟨b1, b2, b3, b4, b5, b6⟩ := b.1 k (by omega)
  exact ⟨b1.trans a1, b2.trans a2, b3.trans a3, b4.trans a4, b5.trans a5, b6.trans a6⟩, fun i hi => (b.2 i hi).trans (a.2 i hi)⟩
theorem OLDc.row (h : w.2.2.1 = u.2.2.1) : OLDc u w n s := by
  have e : ∀ r k, A w r k = A u r k := fun r k => by show (w.2.2.1 r k).toInt = _; rw [h]; rfl
  exact ⟨fun k _ => ⟨e _ _, e _ _, e _ _, e _ _, e _ _, e _ _⟩, fun i _ => e _ _⟩
theorem KN_old (g : KPG u w) (h : OLDc u w n s) (hb : b ≤ n) : KNc u w a b l := ⟨⟨g.2.2.1 6 (by simp), g.2.2.1 7 (by simp)⟩, fun k _ k2 => by
  obtain ⟨b1, b2, b3, b4, b5, b6⟩ := h.1 k (by omega)
  exact ⟨⟨b1, b2, b3, b4, b5⟩, fun _ => b6⟩⟩
theorem TKK_g (g : KPG u w) (h : TKKc u c) : TKKc w c := by
  have e : ∀ k, A w 6 k = A u 6 k := fun k => by show (w.2.2.1 6 k).toInt = _; rw [g.2.2.1 6 (by simp)]; rfl
  unfold TKKc
  simp only [e]; exact h
theorem KPG.a6 (g : KPG u w) : A w 6 k = A u 6 k := by show (w.2.2.1 6 k).toInt = _; rw [g.2.2.1 6 (by simp)]; rfl
theorem ok_T {α β : Type} {Q : MS → (β ⊕ Nat) → Prop} {x : Option (MS × (α ⊕ Nat))} {f : MS → α → Option (MS × (β ⊕ Nat))} (h : OK (fun w r => match r with
  | .inl a => OK Q (f w a)
  | .inr k => Q w (.inr k)) x) : OK Q (bTm x f) := by
  obtain ⟨w, r, e, h⟩ := h
  rw [e]
  cases r with
  | inl a => exact h
  | inr k => exact ⟨w, .inr k, rfl, h⟩
theorem refuse_e {x : Int32} {y : Option (MS × (Unit ⊕ Nat))} (h : PSI u c p n q o s) (hy : y = hm_Pa_refuse N u x) : ∃ w, y = some (w, .inr 3) ∧ KPG u w := by
  obtain ⟨h1, ⟨h2, h3⟩, -⟩ := h
  rw [hy]
  unfold hm_Pa_refuse hb_Pa_refuse_0
  have := h1.1
  rw [I_F (k := 665), h2, (I_inb (by omega) (by omega)).mpr ⟨by omega, by omega⟩, ck_t]
  generalize hz : x + 16 * _ = z
  refine ⟨wi u 667 z.toInt, ?_, FR.wi FR.rf (by simp)⟩
  show some (upI u 667 z, _) = some (upI u 667 (I z.toInt), _)
  rw [← I_of z]
theorem refuse_T {α : Type} {Q : MS → (α ⊕ Nat) → Prop} {f : MS → Unit → Option (MS × (α ⊕ Nat))} {x : Int32} (h : PSI u c p n q o s) (hf : ∀ w, KPG u w → Q w (.inr 3)) : OK Q (bTm (hm_Pa_refuse N u x) f) := by
  obtain ⟨w, e, g⟩ := refuse_e (N := N) (x := x) h rfl
  rw [e]
  exact ⟨w, .inr 3, rfl, hf w g⟩
theorem look_T {α : Type} {Q : MS → (α ⊕ Nat) → Prop} {f : MS → Int32 → Option (MS × (α ⊕ Nat))} (h : PSI u c p n q o s) (hf : ∀ w, KPG u w → Q w (.inr 3)) (hk : A u 6 p ≠ 45 → OK Q (f u (I (A u 6 p)))) : OK Q (bTm (hm_Pa_look N u) f) := by
  have h' := h
  obtain ⟨h1, ⟨h2, h3⟩, -⟩ := h
  have := h1.1
  unfold hm_Pa_look hb_Pa_look_0 hb_Pa_look_22
  rw [I_F (k := 665), h2, (I_inb (by omega) (by omega)).mpr ⟨by omega, by omega⟩, ck_t, tnI (n := p) rfl (by omega), I_A (k := 6)]
  by_cases z : A u 6 p = 45
  · rw [z, show decide (I 45 = (45 : Int32)) = true from by decide, br_tq]
    obtain ⟨w, e, g⟩ := refuse_e (N := N) (x := 1) h' rfl
    rw [e]
    exact ⟨w, .inr 3, rfl, hf w g⟩
  · have r := A_r u 6 p
    rw [decide_eq_false (show ¬ I (A u 6 p) = (45 : Int32) from fun y => z ((I_eq r.1 r.2 (by decide) (by decide)).mp (show I (A u 6 p) = I 45 from y))), br_fq]
    rw [ck_t]
    exact hk z
theorem PSI_at (h : PSI u c p n q o s) (hk : A u 6 p ≠ 0 ∧ A u 6 p ≠ 45) : p < c ∧ PSI (wi u 665 ((p + 1 : Nat) : Int)) c (p + 1) n q o s := by
  obtain ⟨h1, ⟨h2, h3⟩, ⟨h4, h5⟩, h6, ⟨h7, h8⟩, h9, h10⟩ := h
  have hp : p < c := by
    rcases Nat.lt_or_ge p c with z | z
    · exact z
    · have e : p = c := by omega
      rw [e] at hk
      rcases h1.2.1 with z | z
      · exact absurd z hk.1
      · exact absurd z hk.2
  have hc := h1.1
  have e : ∀ k, k ≠ 665 → F (wi u 665 ((p + 1 : Nat) : Int)) k = F u k := fun k hk => by rw [F_wi (by omega) (by omega), if_neg hk]
  refine ⟨hp, h1, ⟨by rw [F_wi (by omega) (by omega), if_pos rfl], hp⟩, ⟨by rw [e 306 (by decide)]; exact h4, by omega⟩, by rw [e 449 (by decide)]; exact h6, ⟨by rw [e 666 (by decide)]; exact h7, h8⟩, by rw [e 664 (by decide)]; exact h9, by omega⟩
theorem KPG_at {y : Int} : KPG u (wi u 665 y) := FR.wi FR.rf (by simp)
theorem inc_e (h : PSI u c p n q o s) : upI u 665 ((u.1 665) + 1) = wi u 665 ((p + 1 : Nat) : Int) := by rw [I_F (k := 665), h.2.1.1, lit1q, I_add, show ((p : Nat) : Int) + 1 = ((p + 1 : Nat) : Int) by omega]; rfl
theorem need_T {α : Type} {Q : MS → (α ⊕ Nat) → Prop} {f : MS → Int32 → Option (MS × (α ⊕ Nat))} {K : Int} (h : PSI u c p n q o s) (hK : 1 ≤ K ∧ K ≤ 44) (hf : ∀ w, KPG u w → Q w (.inr 3)) (hk : A u 6 p = K → PSI (wi u 665 ((p + 1 : Nat) : Int)) c (p + 1) n q o s → OK Q (f (wi u 665 ((p + 1 : Nat) : Int)) (I ((p : Nat) : Int)))) : OK Q (bTm (hm_Pa_need N u (I K)) f) := by
  unfold hm_Pa_need hb_Pa_need_0 hb_Pa_need_13
  refine ok_T (look_T h (fun w g => hf w g) (fun h45 => ?_))
  have r := A_r u 6 p
  refine k_eq r ⟨by omega, by omega⟩ (fun e => ?_) (fun _ => refuse_T h (fun w g => hf w g))
  obtain ⟨hp, h2⟩ := PSI_at h ⟨by omega, by omega⟩
  refine ok_lt.mpr (ok_some.mpr ?_)
  rw [inc_e h]
  have hc := h.1.1
  have e2 : (wi u 665 ((p + 1 : Nat) : Int)).1 665 - 1 = I ((p : Nat) : Int) := by rw [I_F (k := 665), h2.2.1.1, lit1q, I_sub, show ((p + 1 : Nat) : Int) - 1 = ((p : Nat) : Int) by omega]
  show OK Q (f _ _)
  rw [e2]
  exact hk e h2
theorem opens_T {α : Type} {Q : MS → (α ⊕ Nat) → Prop} {f : MS → Unit → Option (MS × (α ⊕ Nat))} {x : Int32} (h : PSI u c p n q o s) (hf : ∀ w, KPG u w → Q w (.inr 3)) (hk : x ≠ 0 → o < 25 → PSI (wi u 666 ((o + 1 : Nat) : Int)) c p n q (o + 1) s → OK Q (f (wi u 666 ((o + 1 : Nat) : Int)) ())) : OK Q (bTm (hm_Pa_opens N u x) f) := by
  unfold hm_Pa_opens hb_Pa_opens_0 hb_Pa_opens_9 hb_Pa_opens_23
  refine ok_T (ok_br.mpr ⟨fun _ => refuse_T h (fun w g => hf w g), fun hx => ?_⟩)
  obtain ⟨h1, h2, h3, h6, ⟨h7, h8⟩, h9, h10⟩ := h
  rw [I_F (k := 666), h7, show (25 : Int32) = I 25 from rfl]
  refine k_lt ⟨by omega, by omega⟩ ⟨by decide, by decide⟩ (fun h25 => ok_lt.mpr (ok_some.mpr ?_)) (fun _ => refuse_T (p := p) (n := n) (q := q) (o := o) (s := s) ⟨h1, h2, h3, h6, ⟨h7, h8⟩, h9, h10⟩ (fun w g => hf w g))
  have e : ∀ k, k ≠ 666 → F (wi u 666 ((o + 1 : Nat) : Int)) k = F u k := fun k hk => by rw [F_wi (by omega) (by omega), if_neg hk]
  rw [lit1q, I_add, show ((o : Nat) : Int) + 1 = ((o + 1 : Nat) : Int) by omega, wi_e]
  refine hk (of_decide_eq_false hx) (by omega) ⟨h1, ⟨by rw [e 665 (by decide)]; exact h2.1, h2.2⟩, ⟨by rw [e 306 (by decide)]; exact h3.1, h3.2⟩, by rw [e 449 (by decide)]; exact h6, ⟨by rw [F_wi (by omega) (by omega), if_pos rfl], by omega⟩, by rw [e 664 (by decide)]; exact h9, h10⟩
theorem KPG_op {y : Int} : KPG u (wi u 666 y) := FR.wi FR.rf (by simp)
theorem close_e (h : PSI u c p n q (o + 1) s) : upI u 666 ((u.1 666) - 1) = wi u 666 ((o : Nat) : Int) ∧ PSI (wi u 666 ((o : Nat) : Int)) c p n q o s := by
  obtain ⟨h1, h2, h3, h6, ⟨h7, h8⟩, h9, h10⟩ := h
  have e : ∀ k, k ≠ 666 → F (wi u 666 ((o : Nat) : Int)) k = F u k := fun k hk => by rw [F_wi (by omega) (by omega), if_neg hk]
  refine ⟨by rw [I_F (k := 666), h7, lit1q, I_sub, show ((o + 1 : Nat) : Int) - 1 = ((o : Nat) : Int) by omega]; rfl, h1, ⟨by rw [e 665 (by decide)]; exact h2.1, h2.2⟩, ⟨by rw [e 306 (by decide)]; exact h3.1, h3.2⟩, by rw [e 449 (by decide)]; exact h6, ⟨by rw [F_wi (by omega) (by omega), if_pos rfl], by omega⟩, by rw [e 664 (by decide)]; exact h9, h10⟩
theorem add_ok2 {x1 x2 x3 x4 x5 : Int} (h4 : F u 306 = ((n : Nat) : Int)) (hn2 : n ≤ 8000) (r1 : RG x1) (r2 : RG x2) (r3 : RG x3) (r4 : RG x4) (r5 : RG x5) : ∃ w, hm_Tr_add N u (I x1) (I x2) (I x3) (I x4) (I x5) = some (w, I ((n + 1 : Nat) : Int)) ∧ KPG u w ∧ OLDc u w n s ∧ (∃ z : MS, w.1 = z.1 ∧ z = wi u 306 ((n + 1 : Nat) : Int)) ∧ (A w 16 (n + 1) = x1 ∧ A w 17 (n + 1) = x2 ∧ A w 18 (n + 1) = x3 ∧ A w 19 (n + 1) = x4 ∧ A w 20 (n + 1) = x5 ∧ A w 21 (n + 1) = 0) := by
  unfold hm_Tr_add hb_Tr_add_0
  rw [I_F (k := 306), h4, lit1q, I_add, show (8016 : Int32) = I 8016 from rfl, decL (by omega) (by omega) (by decide) (by decide), decide_eq_true (by omega), br_tq, show ((n : Nat) : Int) + 1 = ((n + 1 : Nat) : Int) by omega, wi_e]
  have e0 : (wi u 306 ((n + 1 : Nat) : Int)).1 306 = I ((n + 1 : Nat) : Int) := by rw [I_F (k := 306), F_wi (by omega) (by omega), if_pos rfl]
  have f0 : KPG u (wi u 306 ((n + 1 : Nat) : Int)) := FR.wi FR.rf (by simp)
  have r0 : (wi u 306 ((n + 1 : Nat) : Int)).2.2.1 = u.2.2.1 := rfl
  generalize hW : wi u 306 ((n + 1 : Nat) : Int) = W at e0 f0 r0 ⊢
  have i1 : inb (I ((n + 1 : Nat) : Int)) 8016 = true := (I_inb (by omega) (by omega)).mpr ⟨by omega, by omega⟩
  have st : ∀ (w : MS) (r : Nat) (x : Int) (f : MS → Option (MS × Int32)), w.1 306 = I ((n + 1 : Nat) : Int) → ck (inb (w.1 306) 8016) (lt (upA w r (upd (w.2.2.1 r) (w.1 306).toNatClampNeg (I x))) f) = f (wa w r (n + 1) x) := fun w r x f e => by
    rw [e, i1, ck_t, lt_e, tnI (n := n + 1) rfl (by omega), wa_e]
  have e1 : (wa W 16 (n + 1) x1).1 306 = I ((n + 1 : Nat) : Int) := e0
  have e2 : (wa (wa W 16 (n + 1) x1) 17 (n + 1) x2).1 306 = I ((n + 1 : Nat) : Int) := e0
  have e3 : (wa (wa (wa W 16 (n + 1) x1) 17 (n + 1) x2) 18 (n + 1) x3).1 306 = I ((n + 1 : Nat) : Int) := e0
  have e4 : (wa (wa (wa (wa W 16 (n + 1) x1) 17 (n + 1) x2) 18 (n + 1) x3) 19 (n + 1) x4).1 306 = I ((n + 1 : Nat) : Int) := e0
  have e5 : (wa (wa (wa (wa (wa W 16 (n + 1) x1) 17 (n + 1) x2) 18 (n + 1) x3) 19 (n + 1) x4) 20 (n + 1) x5).1 306 = I ((n + 1 : Nat) : Int) := e0
  have e6 : (wa (wa (wa (wa (wa (wa W 16 (n + 1) x1) 17 (n + 1) x2) 18 (n + 1) x3) 19 (n + 1) x4) 20 (n + 1) x5) 21 (n + 1) 0).1 306 = I ((n + 1 : Nat) : Int) := e0
  rw [lt_e, st _ _ _ _ e0, st _ _ _ _ e1, st _ _ _ _ e2, st _ _ _ _ e3, st _ _ _ _ e4, lit0q, st _ _ _ _ e5, e6]
  have eA : ∀ r k, A W r k = A u r k := fun r k => by show (W.2.2.1 r k).toInt = _; rw [r0]; rfl
  refine ⟨_, rfl, FR.wa (FR.wa (FR.wa (FR.wa (FR.wa (FR.wa f0 (by simp)) (by simp)) (by simp)) (by simp)) (by simp)) (by simp), ⟨fun k hk => ?_, fun i _ => ?_⟩, ⟨W, rfl, rfl⟩, ?_⟩
  · refine ⟨?_, ?_, ?_, ?_, ?_, ?_⟩ <;> rw [wa_ne (by omega), wa_ne (by omega), wa_ne (by omega), wa_ne (by omega), wa_ne (by omega), wa_ne (by omega), eA]
  · rw [wa_rne (by decide), wa_rne (by decide), wa_rne (by decide), wa_rne (by decide), wa_rne (by decide), wa_rne (by decide), eA]
  · refine ⟨?_, ?_, ?_, ?_, ?_, ?_⟩
    · rw [wa_rne (by decide), wa_rne (by decide), wa_rne (by decide), wa_rne (by decide), wa_rne (by decide), wa_eq r1]
    · rw [wa_rne (by decide), wa_rne (by decide), wa_rne (by decide), wa_rne (by decide), wa_eq r2]
    · rw [wa_rne (by decide), wa_rne (by decide), wa_rne (by decide), wa_eq r3]
    · rw [wa_rne (by decide), wa_rne (by decide), wa_eq r4]
    · rw [wa_rne (by decide), wa_eq r5]
    · rw [wa_eq ⟨by decide, by decide⟩]
theorem add_ok {x1 x2 x3 x4 x5 : Int} (h : PSI u c p n q o s) (hn : n + 1 ≤ 2 * p ∨ n ≤ 8000) (r1 : RG x1) (r2 : RG x2) (r3 : RG x3) (r4 : RG x4) (r5 : RG x5) : ∃ w, hm_Tr_add N u (I x1) (I x2) (I x3) (I x4) (I x5) = some (w, I ((n + 1 : Nat) : Int)) ∧ KPG u w ∧ OLDc u w n s ∧ (∃ z : MS, w.1 = z.1 ∧ z = wi u 306 ((n + 1 : Nat) : Int)) ∧ (A w 16 (n + 1) = x1 ∧ A w 17 (n + 1) = x2 ∧ A w 18 (n + 1) = x3 ∧ A w 19 (n + 1) = x4 ∧ A w 20 (n + 1) = x5 ∧ A w 21 (n + 1) = 0) := by
  obtain ⟨h1, ⟨h2, h3⟩, ⟨h4, h5⟩, h6⟩ := h
  have hc := h1.1
  exact add_ok2 h4 (by omega) r1 r2 r3 r4 r5
theorem PSI_n (h : PSI u c p n q o s) (e : w.1 = (wi u 306 ((n2 : Nat) : Int)).1) (g : KPG u w) (hn : n2 ≤ 2 * p) (hn2 : n2 ≤ 100000) : PSI w c p n2 q o s := by
  obtain ⟨h1, h2, h3, h6, h7, h9⟩ := h
  have eF : ∀ k, F w k = F (wi u 306 ((n2 : Nat) : Int)) k := fun k => by show (w.1 k).toInt = _; rw [e]; rfl
  have e' : ∀ k, k ≠ 306 → F w k = F u k := fun k hk => by rw [eF, F_wi (by omega) (by omega), if_neg hk]
  exact ⟨TKK_g g h1, ⟨by rw [e' 665 (by decide)]; exact h2.1, h2.2⟩, ⟨by rw [eF, F_wi (by omega) (by omega), if_pos rfl], hn⟩, by rw [e' 449 (by decide)]; exact h6, ⟨by rw [e' 666 (by decide)]; exact h7.1, h7.2⟩, by rw [e' 664 (by decide)]; exact h9.1, h9.2⟩
theorem chain_e {y : Int} (hm : m ≤ 8015) : hm_Pa_chain N u (I ((m : Nat) : Int)) (I y) = some (wa u 21 m y, I y) := by
  unfold hm_Pa_chain hb_Pa_chain_0
  rw [(I_inb (by omega) (by omega)).mpr ⟨by omega, by omega⟩, ck_t, tnI (n := m) rfl (by omega), lt_e, wa_e]
end
end
section
set_option maxRecDepth 100000
section
variable {u v w : MS} {N c p n q o s k p2 n2 q2 m a b l lo hi r d most : Nat}
theorem add_B {α : Type} {Q : MS → α → Prop} {f : MS → Int32 → Option (MS × α)} {x1 x2 x3 x4 x5 : Int} (h : PSI u c p n q o s) (hn : n + 1 ≤ 2 * p) (r1 : RG x1) (r2 : RG x2) (r3 : RG x3) (r4 : RG x4) (r5 : RG x5) (hk : ∀ w, KPG u w → OLDc u w n s → PSI w c p (n + 1) q o s → A w 16 (n + 1) = x1 ∧ A w 17 (n + 1) = x2 ∧ A w 18 (n + 1) = x3 ∧ A w 19 (n + 1) = x4 ∧ A w 20 (n + 1) = x5 ∧ A w 21 (n + 1) = 0 → OK Q (f w (I ((n + 1 : Nat) : Int)))) : OK Q (bnd (hm_Tr_add N u (I x1) (I x2) (I x3) (I x4) (I x5)) f) := by
  obtain ⟨w, e, g, ol, ⟨z, e2, e3⟩, fa⟩ := add_ok (N := N) h (Or.inl hn) r1 r2 r3 r4 r5
  rw [e, bnd_so]
  have hc := h.1.1
  have hp := h.2.1.2
  exact hk w g ol (PSI_n h (by rw [e2, e3]) g hn (by omega)) fa
theorem leaf_B {α : Type} {Q : MS → α → Prop} {f : MS → Int32 → Option (MS × α)} (h : PSI u c p n q o s) (h4 : 1 ≤ A u 6 p ∧ A u 6 p ≤ 4) (hk : ∀ w, KPG u w → OLDc u w n s → PSI w c (p + 1) (n + 1) q o s → LFc w (n + 1) p → A w 21 (n + 1) = 0 → A w 6 p = A u 6 p → OK Q (f w (I ((n + 1 : Nat) : Int)))) : OK Q (bnd (hm_Pa_leaf N u) f) := by
  have hc := h.1.1
  have hp := h.2.1.2
  have h2p := h.2.2.1.2
  obtain ⟨hpc, hat⟩ := PSI_at h ⟨by omega, by omega⟩
  unfold hm_Pa_leaf hb_Pa_leaf_0
  rw [I_F (k := 665), h.2.1.1, (I_inb (by omega) (by omega)).mpr ⟨by omega, by omega⟩, ck_t, ck_t, tnI (n := p) rfl (by omega), I_A (k := 6), I_A (k := 7), lit0q]
  obtain ⟨w, e, g, ol, ⟨z, e2, e3⟩, f1, f2, f3, f4, f5, f6⟩ := add_ok (N := N) (x1 := A u 6 p) (x2 := ((p : Nat) : Int)) (x3 := A u 7 p) (x4 := 0) (x5 := 0) h (Or.inr (by omega)) (A_r u 6 p) ⟨by omega, by omega⟩ (A_r u 7 p) ⟨by decide, by decide⟩ ⟨by decide, by decide⟩
  rw [e, bnd_so, lt_e]
  have eF : ∀ k, F w k = F (wi u 306 ((n + 1 : Nat) : Int)) k := fun k => by show (w.1 k).toInt = _; rw [e2, e3]; rfl
  have e' : ∀ k, k ≠ 306 → F w k = F u k := fun k hk => by rw [eF, F_wi (by omega) (by omega), if_neg hk]
  rw [show w.1 665 = I ((p : Nat) : Int) by rw [I_F (k := 665), e' 665 (by decide), h.2.1.1], lit1q, I_add, show ((p : Nat) : Int) + 1 = ((p + 1 : Nat) : Int) by omega, wi_e]
  show OK Q (f _ _)
  have g2 : KPG u (wi w 665 ((p + 1 : Nat) : Int)) := KPG.tr g KPG_at
  have a6 : A (wi w 665 ((p + 1 : Nat) : Int)) 6 p = A u 6 p := g2.a6
  have e2' : ∀ k, k ≠ 665 → F (wi w 665 ((p + 1 : Nat) : Int)) k = F w k := fun k hk => by rw [F_wi (by omega) (by omega), if_neg hk]
  obtain ⟨h1, h2, h3, h6, h7, h9⟩ := h
  refine hk _ g2 (OLDc.tr ol (OLDc.row rfl) (Nat.le_refl _)) ⟨TKK_g g2 h1, ⟨by rw [F_wi (by omega) (by omega), if_pos rfl], hpc⟩, ⟨by rw [e2' 306 (by decide), eF, F_wi (by omega) (by omega), if_pos rfl], by omega⟩, by rw [e2' 449 (by decide), e' 449 (by decide)]; exact h6, ⟨by rw [e2' 666 (by decide), e' 666 (by decide)]; exact h7.1, h7.2⟩, by rw [e2' 664 (by decide), e' 664 (by decide)]; exact h9.1, by have := h9.2; omega⟩ ⟨?_, by rw [a6]; exact h4, f2, ?_⟩ f6 a6
  · rw [a6]; exact f1
  · show A w 18 (n + 1) = A w 7 p
    rw [f3]
    show _ = (w.2.2.1 7 p).toInt
    rw [g.2.2.1 7 (by simp)]; rfl
theorem len_ok {E : Nat → Nat → Nat → Nat → Nat → Nat → Nat → Prop} (hb : BdE E) (hN : 10000 ≤ N) (hB : b ≤ 8015) (h : ORc u d E k m lo hi a b q r) : hm_Tr_length N u (I ((m : Nat) : Int)) = some (u, I ((k : Nat) : Int)) := by
  unfold hm_Tr_length hb_Tr_length_0
  have z0 : ∀ (M j : Nat), 1 ≤ M → hg_Tr_length N M u (I ((j : Nat) : Int)) (I 0) = some (u, I ((j : Nat) : Int)) := fun M j hM => by
    cases M with
    | zero => omega
    | succ M =>
      show hb_Tr_length_4 N (hg_Tr_length N M) u (I ((j : Nat) : Int)) (I 0) = _
      unfold hb_Tr_length_4
      rw [show decide (I 0 = (0 : Int32)) = true from by decide, br_tq]
  have gen : ∀ (k M j n lo a q : Nat), RWc u d E k n lo hi a b q r → b + 1 < M + a → j + b ≤ 100000 + a → hg_Tr_length N M u (I ((j : Nat) : Int)) (I ((n : Nat) : Int)) = some (u, I ((j + k : Nat) : Int)) := by
    intro k
    induction k with
    | zero => intro M j n lo a q h; exact h.elim
    | succ k ih =>
      intro M j n lo a q h hM hj
      obtain ⟨m2, c, s, e, h⟩ := h
      have g := hb _ _ _ _ _ _ _ e
      have hn := g.1
      have hcb : c ≤ b := by
        rcases h with ⟨-, -, -, h, -⟩ | ⟨-, n2, -, h3⟩
        · omega
        · have := (RW_hd hb h3).1.1; omega
      cases M with
      | zero => omega
      | succ M =>
        show hb_Tr_length_4 N (hg_Tr_length N M) u (I ((j : Nat) : Int)) (I ((n : Nat) : Int)) = _
        unfold hb_Tr_length_4
        rw [decide_eq_false (show ¬ I ((n : Nat) : Int) = (0 : Int32) from fun y => by have := (I_eq (x := ((n : Nat) : Int)) (y := 0) (by omega) (by omega) (by decide) (by decide)).mp y; omega), br_fq, (I_inb (by omega) (by omega)).mpr ⟨by omega, by omega⟩, ck_t, tnI (n := n) rfl (by omega), I_A (k := 21), lit1q, I_add, show ((j : Nat) : Int) + 1 = ((j + 1 : Nat) : Int) by omega]
        rcases h with ⟨h1, h2, -⟩ | ⟨h1, n2, h2, h3⟩
        · rw [h2, z0 M (j + 1) (by omega), show j + 1 = j + (k + 1) by omega]
        · rw [h2, ih M (j + 1) n2 _ c s h3 (by omega) (by omega), show j + 1 + k = j + (k + 1) by omega]
  rw [lit0q, show (0 : Int) = ((0 : Nat) : Int) from rfl]
  rcases h with ⟨rfl, rfl, -⟩ | ⟨h1, h2⟩
  · exact z0 N 0 (by omega)
  · have e := gen k N 0 m lo a q h2 (by omega) (by omega)
    rw [Nat.zero_add] at e
    exact e
theorem row_okc {S : SF_Pa_matched} {y : Int32} {Ew : MS → Nat → Nat → Nat → Nat → Nat → Nat → Nat → Prop} (hst : ∀ u w, StE u w (Ew u) (Ew w)) (hbd : ∀ u, BdE (Ew u)) (hmost : 1 ≤ most ∧ most ≤ 4000)
    (he : y = 0 → ∀ u c p n q s, PSI u c p n q o s → OK (fun w r => NDQ (fun w m lo hi a b q r => Ew w m lo hi a b q r ∧ A w 21 m = 0) u c p n q o s w r) (S.2.2.2.2.2.2.2.2.2.2.2.2.2.2.1 u 1))
    (hp : y ≠ 0 → ∀ u c p n q s, PSI u c p n q o s → OK (fun w r => NDQ (fun w m lo hi a b q r => Ew w m lo hi a b q r ∧ A w 21 m = 0) u c p n q o s w r) (S.2.2.2.2.2.2.2.2.2.2.2.2.2.2.2.2.2.1 u))
    (h : PSI u c p n q o s) (hN : 10000 ≤ N) : OK (fun w r => NDQ (fun w m lo hi a b q r => ∃ k, (1 ≤ k ∧ k ≤ most) ∧ RWc w 1 (Ew w) k m lo hi a b q r) u c p n q o s w r) (hm_Pa_row N S u y (I ((most : Nat) : Int))) := by
  have hc := h.1.1
  have gen : ∀ (M k first l pp nn qq : Nat) (v : MS), KPG u v → OLDc u v n s → PSI v c pp nn qq o s → p ≤ pp → RPc v 1 (Ew v) k first l p pp n nn q qq → A v 21 l = 0 → k ≤ most → 4001 < M + pp → OK (fun w r => NDQ (fun w m lo hi a b q r => ∃ k, (1 ≤ k ∧ k ≤ most) ∧ RWc w 1 (Ew w) k m lo hi a b q r) u c p n q o s w r) (hg_Pa_row N S M v y (I ((most : Nat) : Int)) (I ((first : Nat) : Int)) (I ((l : Nat) : Int)) (I ((k : Nat) : Int))) := by
    intro M
    induction M with
    | zero =>
      intro k first l pp nn qq v _ _ hv
      have := hv.2.1.2
      omega
    | succ M ih =>
      intro k first l pp nn qq v g ol hv hpp rp h0 hk hM
      show OK _ (hb_Pa_row_23 N S (hg_Pa_row N S M) v y (I ((most : Nat) : Int)) (I ((first : Nat) : Int)) (I ((l : Nat) : Int)) (I ((k : Nat) : Int)))
      unfold hb_Pa_row_23 hb_Pa_row_78
      have rh := RP_hd (hbd v) rp
      have hk1 : 1 ≤ k := by
        cases k with
        | zero => exact rp.elim
        | succ k => omega
      have done : NDQ (fun w m lo hi a b q r => ∃ k, (1 ≤ k ∧ k ≤ most) ∧ RWc w 1 (Ew w) k m lo hi a b q r) u c p n q o s v (.inl (I ((first : Nat) : Int))) := ⟨g, first, pp, nn, qq, rfl, ol, hv, hpp, k, ⟨hk1, hk⟩, RW_of (hbd v) rp h0⟩
      refine k_le ⟨by omega, by omega⟩ ⟨by omega, by omega⟩ (fun _ => ok_some.mpr done) (fun hlt => look_T hv (fun w gw => ⟨g.tr gw, rfl⟩) (fun h45 => ?_))
      rw [show (26 : Int32) = I 26 from rfl]
      refine k_eq (A_r v 6 pp) ⟨by decide, by decide⟩ (fun e26 => ok_lt.mpr ?_) (fun _ => ok_some.mpr done)
      obtain ⟨hlt2, hv2⟩ := PSI_at hv ⟨by omega, by omega⟩
      rw [inc_e hv]
      have g2 : KPG v (wi v 665 ((pp + 1 : Nat) : Int)) := KPG_at
      have o2 : OLDc v (wi v 665 ((pp + 1 : Nat) : Int)) nn s := OLDc.row rfl
      generalize wi v 665 ((pp + 1 : Nat) : Int) = v2 at hv2 g2 o2
      have step : ∀ (x : Option (MS × (Int32 ⊕ Nat))), OK (fun w r => NDQ (fun w m lo hi a b q r => Ew w m lo hi a b q r ∧ A w 21 m = 0) v2 c (pp + 1) nn qq o s w r) x → OK (fun w r => NDQ (fun w m lo hi a b q r => ∃ k, (1 ≤ k ∧ k ≤ most) ∧ RWc w 1 (Ew w) k m lo hi a b q r) u c p n q o s w r) (bTm x (fun u5 r5 => hb_Pa_row_67 N S (hg_Pa_row N S M) u5 y (I ((most : Nat) : Int)) (I ((first : Nat) : Int)) (I ((k : Nat) : Int)) (I ((l : Nat) : Int)) r5)) := fun x hx => ok_T (ok_mono hx (fun w r hw => by
        obtain ⟨gw, hw⟩ := hw
        cases r with
        | inr k => exact ⟨g.tr (g2.tr gw), hw⟩
        | inl x =>
          obtain ⟨m, p3, n3, q3, rfl, ol3, hv3, hp3, em, m0⟩ := hw
          show OK _ (hb_Pa_row_67 N S (hg_Pa_row N S M) w y (I ((most : Nat) : Int)) (I ((first : Nat) : Int)) (I ((k : Nat) : Int)) (I ((l : Nat) : Int)) (I ((m : Nat) : Int)))
          unfold hb_Pa_row_67
          have hm := hbd w _ _ _ _ _ _ _ em
          have hm1 := hm.1
          have n3b : n3 ≤ 8000 := by have := hv3.2.2.1.2; have := hv3.2.1.2; omega
          rw [chain_e (by omega), bnd_so, lit1q, I_add, show ((k : Nat) : Int) + 1 = ((k + 1 : Nat) : Int) by omega]
          have ov : OLDc v w nn s := OLDc.tr o2 ol3 (Nat.le_refl _)
          have gv : KPG v w := g2.tr gw
          have gw2 : KPG w (wa w 21 l ((m : Nat) : Int)) := FR.wa FR.rf (by simp)
          have a21 : ∀ k, k ≠ l → A (wa w 21 l ((m : Nat) : Int)) 21 k = A w 21 k := fun k hk => wa_ne hk
          have aO : ∀ r k, r ≠ 21 → A (wa w 21 l ((m : Nat) : Int)) r k = A w r k := fun r k hr => wa_rne hr
          have a21l : A (wa w 21 l ((m : Nat) : Int)) 21 l = ((m : Nat) : Int) := wa_eq ⟨by omega, by omega⟩
          have hv4 : PSI (wa w 21 l ((m : Nat) : Int)) c p3 n3 q3 o s := ⟨TKK_g gw2 hv3.1, hv3.2⟩
          have e6 : (wa w 21 l ((m : Nat) : Int)).2.2.1 6 = w.2.2.1 6 := gw2.2.2.1 6 (by simp)
          have e7 : (wa w 21 l ((m : Nat) : Int)).2.2.1 7 = w.2.2.1 7 := gw2.2.2.1 7 (by simp)
          generalize wa w 21 l ((m : Nat) : Int) = w5 at gw2 a21 aO a21l hv4 e6 e7
          have kv : KNc v w5 n nn l := ⟨⟨e6.trans (gv.2.2.1 6 (by simp)), e7.trans (gv.2.2.1 7 (by simp))⟩, fun k k1 k2 => by
            obtain ⟨b1, b2, b3, b4, b5, b6⟩ := ov.1 k k2
            exact ⟨⟨by rw [aO _ _ (by decide)]; exact b1, by rw [aO _ _ (by decide)]; exact b2, by rw [aO _ _ (by decide)]; exact b3, by rw [aO _ _ (by decide)]; exact b4, by rw [aO _ _ (by decide)]; exact b5⟩, fun k3 => by rw [a21 k k3]; exact b6⟩⟩
          have kw : KNc w w5 nn n3 m := ⟨⟨e6, e7⟩, fun k k1 k2 => ⟨⟨aO _ _ (by decide), aO _ _ (by decide), aO _ _ (by decide), aO _ _ (by decide), aO _ _ (by decide)⟩, fun k3 => a21 k (by omega)⟩⟩
          have rp5 := RP_k (hst v w5) (hbd v) rp kv
          have em5 := hst w w5 _ _ _ _ _ _ _ em kw
          refine ih (k + 1) first m p3 n3 q3 w5 (g.tr (gv.tr gw2)) ?_ hv4 (by omega) (Or.inr ⟨hk1, l, pp, nn, qq, rp5, a21l, em5⟩) ?_ (by omega) (by omega)
          · have o6 := OLDc.tr ol ov (by omega)
            refine ⟨fun k hk => ?_, fun i hi => by rw [aO _ _ (by decide)]; exact o6.2 i hi⟩
            obtain ⟨b1, b2, b3, b4, b5, b6⟩ := o6.1 k hk
            exact ⟨by rw [aO _ _ (by decide)]; exact b1, by rw [aO _ _ (by decide)]; exact b2, by rw [aO _ _ (by decide)]; exact b3, by rw [aO _ _ (by decide)]; exact b4, by rw [aO _ _ (by decide)]; exact b5, by rw [a21 k (by omega)]; exact b6⟩
          · rw [a21 m (by have := hm.1; omega)]; exact m0))
      exact ok_br.mpr ⟨fun z => step _ (he (of_decide_eq_true z) v2 c (pp + 1) nn qq s hv2), fun z => step _ (hp (of_decide_eq_false z) v2 c (pp + 1) nn qq s hv2)⟩
  unfold hm_Pa_row hb_Pa_row_0 hb_Pa_row_16
  have step : ∀ (x : Option (MS × (Int32 ⊕ Nat))), OK (fun w r => NDQ (fun w m lo hi a b q r => Ew w m lo hi a b q r ∧ A w 21 m = 0) u c p n q o s w r) x → OK (fun w r => NDQ (fun w m lo hi a b q r => ∃ k, (1 ≤ k ∧ k ≤ most) ∧ RWc w 1 (Ew w) k m lo hi a b q r) u c p n q o s w r) (bTm x (fun u7 r7 => hg_Pa_row N S N u7 y (I ((most : Nat) : Int)) r7 r7 1)) := fun x hx => ok_T (ok_mono hx (fun w r hw => by
    obtain ⟨gw, hw⟩ := hw
    cases r with
    | inr k => exact ⟨gw, hw⟩
    | inl x =>
      obtain ⟨m, p3, n3, q3, rfl, ol3, hv3, hp3, em, m0⟩ := hw
      show OK _ (hg_Pa_row N S N w y (I ((most : Nat) : Int)) (I ((m : Nat) : Int)) (I ((m : Nat) : Int)) (I ((1 : Nat) : Int)))
      exact gen N 1 m m p3 n3 q3 w gw ol3 hv3 hp3 (Or.inl ⟨rfl, rfl, em⟩) m0 hmost.1 (by omega)))
  exact ok_br.mpr ⟨fun z => step _ (he (of_decide_eq_true z) u c p n q s h), fun z => step _ (hp (of_decide_eq_false z) u c p n q s h)⟩
theorem rowUpTo_okc {S : SF_Pa_matched} {y : Int32} {K : Int} {Ew : MS → Nat → Nat → Nat → Nat → Nat → Nat → Nat → Prop} (hst : ∀ u w, StE u w (Ew u) (Ew w)) (hbd : ∀ u, BdE (Ew u)) (hK : 1 ≤ K ∧ K ≤ 44)
    (hr : ∀ u c p n q s, PSI u c p n q o s → OK (fun w r => NDQ (fun w m lo hi a b q r => ∃ k, (1 ≤ k ∧ k ≤ most) ∧ RWc w 1 (Ew w) k m lo hi a b q r) u c p n q o s w r) (S.2.2.2.2.2.2.2.2.2.2.2.2.2.2.2.2.2.2.1 u y (I ((most : Nat) : Int))))
    (h : PSI u c p n q o s) : OK (fun w r => NDQ (fun w m lo hi a b q r => lo + 1 ≤ hi ∧ ∃ k, k ≤ most ∧ ORc w 1 (Ew w) k m lo (hi - 1) a b q r) u c p n q o s w r) (hm_Pa_rowUpTo N S u y (I ((most : Nat) : Int)) (I K)) := by
  unfold hm_Pa_rowUpTo hb_Pa_rowUpTo_0 hb_Pa_rowUpTo_18
  refine look_T h (fun w gw => ⟨gw, rfl⟩) (fun h45 => ?_)
  refine k_eq (A_r u 6 p) ⟨by omega, by omega⟩ (fun e => ?_) (fun _ => ?_)
  · refine need_T h hK (fun w gw => ⟨gw, rfl⟩) (fun _ h2 => ok_some.mpr ⟨KPG_at, 0, p + 1, n, q, rfl, OLDc.row rfl, h2, by omega, by omega, 0, by omega, Or.inl ⟨rfl, rfl, by omega, rfl, rfl⟩⟩)
  · refine ok_T (ok_mono (hr u c p n q s h) (fun w r hw => ?_))
    obtain ⟨gw, hw⟩ := hw
    cases r with
    | inr k => exact ⟨gw, hw⟩
    | inl x =>
      obtain ⟨m, p3, n3, q3, rfl, ol3, hv3, hp3, k, hk, em⟩ := hw
      refine need_T hv3 hK (fun w2 gw2 => ⟨gw.tr gw2, rfl⟩) (fun _ h2 => ok_some.mpr ⟨gw.tr KPG_at, m, p3 + 1, n3, q3, rfl, OLDc.tr ol3 (OLDc.row rfl) (Nat.le_refl _), h2, by omega, by omega, k, hk.2, Or.inr ⟨hk.1, ?_⟩⟩)
      rw [show p3 + 1 - 1 = p3 by omega]
      exact RW_k (hst w _) (hbd w) em (KN_old KPG_at (OLDc.row (n := n3) (s := 0) rfl) (Nat.le_refl _))
end
end
section
set_option maxRecDepth 100000
section
variable {u v w : MS} {N c p n q o s p2 n2 q2 m a b l lo hi r d most f : Nat}
theorem begP {k : Int} (hk : 0 ≤ k ∧ k ≤ 45) : ∃ r, hm_Pa_beginsPattern N u (I k) = some (u, r) ∧ (r ≠ 0 → k = 1 ∨ k = 2 ∨ k = 3 ∨ k = 4 ∨ k = 20 ∨ k = 22 ∨ k = 24 ∨ k = 34) := by
  have cs : k = 0 ∨ k = 1 ∨ k = 2 ∨ k = 3 ∨ k = 4 ∨ k = 5 ∨ k = 6 ∨ k = 7 ∨ k = 8 ∨ k = 9 ∨ k = 10 ∨ k = 11 ∨ k = 12 ∨ k = 13 ∨ k = 14 ∨ k = 15 ∨ k = 16 ∨ k = 17 ∨ k = 18 ∨ k = 19 ∨ k = 20 ∨ k = 21 ∨ k = 22 ∨ k = 23 ∨ k = 24 ∨ k = 25 ∨ k = 26 ∨ k = 27 ∨ k = 28 ∨ k = 29 ∨ k = 30 ∨ k = 31 ∨ k = 32 ∨ k = 33 ∨ k = 34 ∨ k = 35 ∨ k = 36 ∨ k = 37 ∨ k = 38 ∨ k = 39 ∨ k = 40 ∨ k = 41 ∨ k = 42 ∨ k = 43 ∨ k = 44 ∨ k = 45 := by omega
  rcases cs with rfl | rfl | rfl | rfl | rfl | rfl | rfl | rfl | rfl | rfl | rfl | rfl | rfl | rfl | rfl | rfl | rfl | rfl | rfl | rfl | rfl | rfl | rfl | rfl | rfl | rfl | rfl | rfl | rfl | rfl | rfl | rfl | rfl | rfl | rfl | rfl | rfl | rfl | rfl | rfl | rfl | rfl | rfl | rfl | rfl | rfl <;> first | exact ⟨0, rfl, fun z => absurd rfl z⟩ | exact ⟨1, rfl, fun _ => by decide⟩
theorem begU {k : Int} (hk : 0 ≤ k ∧ k ≤ 45) : ∃ r, hm_Pa_beginsUnit N u (I k) = some (u, r) := by
  have cs : k = 0 ∨ k = 1 ∨ k = 2 ∨ k = 3 ∨ k = 4 ∨ k = 5 ∨ k = 6 ∨ k = 7 ∨ k = 8 ∨ k = 9 ∨ k = 10 ∨ k = 11 ∨ k = 12 ∨ k = 13 ∨ k = 14 ∨ k = 15 ∨ k = 16 ∨ k = 17 ∨ k = 18 ∨ k = 19 ∨ k = 20 ∨ k = 21 ∨ k = 22 ∨ k = 23 ∨ k = 24 ∨ k = 25 ∨ k = 26 ∨ k = 27 ∨ k = 28 ∨ k = 29 ∨ k = 30 ∨ k = 31 ∨ k = 32 ∨ k = 33 ∨ k = 34 ∨ k = 35 ∨ k = 36 ∨ k = 37 ∨ k = 38 ∨ k = 39 ∨ k = 40 ∨ k = 41 ∨ k = 42 ∨ k = 43 ∨ k = 44 ∨ k = 45 := by omega
  rcases cs with rfl | rfl | rfl | rfl | rfl | rfl | rfl | rfl | rfl | rfl | rfl | rfl | rfl | rfl | rfl | rfl | rfl | rfl | rfl | rfl | rfl | rfl | rfl | rfl | rfl | rfl | rfl | rfl | rfl | rfl | rfl | rfl | rfl | rfl | rfl | rfl | rfl | rfl | rfl | rfl | rfl | rfl | rfl | rfl | rfl | rfl <;> exact ⟨_, rfl⟩
theorem tk_rng (h : TKKc u c) (hp : p ≤ c) : 0 ≤ A u 6 p ∧ A u 6 p ≤ 45 := by
  rcases Nat.lt_or_ge p c with z | z
  · have := h.2.2 p z; omega
  · have e : p = c := by omega
    rw [e]
    rcases h.2.1 with z | z <;> omega
def TUQ (Ew : MS → Nat → Nat → Nat → Nat → Nat → Nat → Nat → Prop) (w : MS) (m lo hi a b q r : Nat) : Prop := HDc m lo hi a b q r ∧ TKc w m lo hi ∧ A w 21 m = 0 ∧ A w 16 m = 6 ∧ TUc w (Ew w) m lo hi a q r
def LIQ (Ew : MS → Nat → Nat → Nat → Nat → Nat → Nat → Nat → Prop) (w : MS) (m lo hi a b q r : Nat) : Prop := HDc m lo hi a b q r ∧ TKc w m lo hi ∧ A w 21 m = 0 ∧ A w 16 m = 7 ∧ TLc w (Ew w) m lo hi a q r
theorem tuple_okc {S : SF_Pa_matched} {y : Int32} {Ew : MS → Nat → Nat → Nat → Nat → Nat → Nat → Nat → Prop} (hst : ∀ u w, StE u w (Ew u) (Ew w)) (hbd : ∀ u, BdE (Ew u))
    (hr : ∀ u c p n q s, PSI u c p n q o s → OK (fun w r => NDQ (fun w m lo hi a b q r => lo + 1 ≤ hi ∧ ∃ k, k ≤ 8 ∧ ORc w 1 (Ew w) k m lo (hi - 1) a b q r) u c p n q o s w r) (S.2.2.2.2.2.2.2.2.2.2.2.2.2.2.2.2.2.2.2 u y (I ((8 : Nat) : Int)) (I 23)))
    (h : PSI u c p n q o s) (hk : A u 6 p ≠ 0 ∧ A u 6 p ≠ 45) (hN : 10000 ≤ N) : OK (fun w r => NDQ (TUQ Ew) u c p n q o s w r) (hm_Pa_tuple N S u y) := by
  have hc := h.1.1
  have h2p := h.2.2.1.2
  unfold hm_Pa_tuple hb_Pa_tuple_0
  obtain ⟨hpc, h2⟩ := PSI_at h hk
  refine ok_lt.mpr ?_
  rw [inc_e h, show u.1 665 = I ((p : Nat) : Int) by rw [I_F (k := 665), h.2.1.1]]
  have g1 : KPG u (wi u 665 ((p + 1 : Nat) : Int)) := KPG_at
  have o1 : OLDc u (wi u 665 ((p + 1 : Nat) : Int)) n s := OLDc.row rfl
  generalize wi u 665 ((p + 1 : Nat) : Int) = v at h2 g1 o1
  refine ok_T (ok_mono (hr v c (p + 1) n q s h2) (fun w r hw => ?_))
  obtain ⟨gw, hw⟩ := hw
  cases r with
  | inr k => exact ⟨g1.tr gw, hw⟩
  | inl x =>
    obtain ⟨m, p3, n3, q3, rfl, ol3, hv3, hp3, hlo, k, hk8, em⟩ := hw
    have oh := OR_hd (hbd w) em
    have n3b : n3 ≤ 8000 := by have := hv3.2.2.1.2; have := hv3.2.1.2; omega
    have p3c := hv3.2.1.2
    show OK _ (bnd (hm_Tr_length N w (I ((m : Nat) : Int))) _)
    have mb : m ≤ 8015 := by
      rcases em with ⟨-, h, -⟩ | ⟨-, h⟩
      · omega
      · have := (RW_hd (hbd w) h).1.1; omega
    rw [len_ok (hbd w) hN (by omega) em, bnd_so, lit0q, show (6 : Int32) = I 6 from rfl]
    refine add_B hv3 (by omega) ⟨by decide, by decide⟩ ⟨by omega, by omega⟩ ⟨by omega, by omega⟩ ⟨by omega, by omega⟩ ⟨by decide, by decide⟩ (fun w2 g2 o2 h4 fa => ok_some.mpr ?_)
    obtain ⟨f1, f2, f3, f4, f5, f6⟩ := fa
    refine ⟨g1.tr (gw.tr g2), n3 + 1, p3, n3 + 1, q3, rfl, OLDc.tr (OLDc.tr o1 ol3 (Nat.le_refl _)) o2 (by omega), h4, by omega, ⟨⟨by omega, by omega⟩, by omega, by omega, by omega, by omega⟩, ⟨p, f2, Nat.le_refl _, by omega⟩, f6, f1, k, m, n3, f3, f4, hk8, OR_k (hst w w2) (hbd w) em (KN_old g2 o2 (Nat.le_refl _)), by omega⟩
theorem list_okc {S : SF_Pa_matched} {y : Int32} {Ew : MS → Nat → Nat → Nat → Nat → Nat → Nat → Nat → Prop} (hst : ∀ u w, StE u w (Ew u) (Ew w)) (hbd : ∀ u, BdE (Ew u))
    (he : y = 0 → ∀ u c p n q s, PSI u c p n q o s → OK (fun w r => NDQ (fun w m lo hi a b q r => Ew w m lo hi a b q r ∧ A w 21 m = 0) u c p n q o s w r) (S.2.2.2.2.2.2.2.2.2.2.2.2.2.2.1 u 1))
    (hp : y ≠ 0 → ∀ u c p n q s, PSI u c p n q o s → OK (fun w r => NDQ (fun w m lo hi a b q r => Ew w m lo hi a b q r ∧ A w 21 m = 0) u c p n q o s w r) (S.2.2.2.2.2.2.2.2.2.2.2.2.2.2.2.2.2.1 u))
    (hr : ∀ u c p n q s, PSI u c p n q o s → OK (fun w r => NDQ (fun w m lo hi a b q r => ∃ k, (1 ≤ k ∧ k ≤ 8) ∧ RWc w 1 (Ew w) k m lo hi a b q r) u c p n q o s w r) (S.2.2.2.2.2.2.2.2.2.2.2.2.2.2.2.2.2.2.1 u y (I ((8 : Nat) : Int))))
    (h : PSI u c p n q o s) (hk : A u 6 p ≠ 0 ∧ A u 6 p ≠ 45) (hN : 10000 ≤ N) : OK (fun w r => NDQ (LIQ Ew) u c p n q o s w r) (hm_Pa_list N S u y) := by
  have hc := h.1.1
  have h2p := h.2.2.1.2
  unfold hm_Pa_list hb_Pa_list_0
  obtain ⟨hpc, h2⟩ := PSI_at h hk
  refine ok_lt.mpr ?_
  rw [inc_e h, show u.1 665 = I ((p : Nat) : Int) by rw [I_F (k := 665), h.2.1.1]]
  have g1 : KPG u (wi u 665 ((p + 1 : Nat) : Int)) := KPG_at
  have o1 : OLDc u (wi u 665 ((p + 1 : Nat) : Int)) n s := OLDc.row rfl
  generalize wi u 665 ((p + 1 : Nat) : Int) = v at h2 g1 o1
  have e80 : ∀ (w : MS) (m x k mid c1 s1 p3 n3 q3 : Nat), KPG u w → OLDc u w n s → PSI w c p3 n3 q3 o s → p + 1 ≤ p3 → k ≤ 8 → ORc w 1 (Ew w) k m (p + 1) mid n c1 q s1 → ((x = 0 ∧ p3 = mid ∧ s1 = q3 ∧ c1 = n3) ∨ (1 ≤ k ∧ 1 ≤ x ∧ Ew w x (mid + 1) p3 c1 n3 s1 q3)) → OK (fun w r => NDQ (LIQ Ew) u c p n q o s w r) (hb_Pa_list_80 N S () w (I ((p : Nat) : Int)) (I ((m : Nat) : Int)) (I ((x : Nat) : Int))) := by
    intro w m x k mid c1 s1 p3 n3 q3 gw ow hw hp3 hk8 em hx
    unfold hb_Pa_list_80
    rw [show (25 : Int32) = I 25 from rfl]
    refine need_T hw (by omega) (fun w2 gw2 => ⟨gw.tr gw2, rfl⟩) (fun _ h3 => ?_)
    have oh := OR_hd (hbd w) em
    have n3b : n3 ≤ 8000 := by have := hw.2.2.1.2; have := hw.2.1.2; omega
    have p3c := h3.2.1.2
    have xb : x ≤ n3 ∧ c1 ≤ n3 ∧ mid ≤ p3 ∧ n3 + 2 * mid ≤ c1 + 2 * p3 ∧ s1 ≤ q3 ∧ 5 * q3 + mid ≤ 5 * s1 + p3 := by
      rcases hx with ⟨h1, h2, h3, h4⟩ | ⟨h1, h2, h3⟩
      · omega
      · have := hbd w _ _ _ _ _ _ _ h3
        unfold HDc at this
        omega
    have mb : m ≤ 8015 := by
      rcases em with ⟨-, h, -⟩ | ⟨-, h⟩
      · omega
      · have := (RW_hd (hbd w) h).1.1; omega
    have g2 : KPG w (wi w 665 ((p3 + 1 : Nat) : Int)) := KPG_at
    have o2 : OLDc w (wi w 665 ((p3 + 1 : Nat) : Int)) n3 s := OLDc.row rfl
    generalize wi w 665 ((p3 + 1 : Nat) : Int) = w2 at h3 g2 o2
    have em2 := OR_k (hst w w2) (hbd w) em (KN_old g2 o2 (by omega))
    rw [len_ok (hbd w2) hN (by omega) em2, bnd_so, show (7 : Int32) = I 7 from rfl]
    refine add_B h3 (by have := hw.2.2.1.2; omega) ⟨by decide, by decide⟩ ⟨by omega, by omega⟩ ⟨by omega, by omega⟩ ⟨by omega, by omega⟩ ⟨by omega, by omega⟩ (fun w4 g4 o4 h4 fa => ok_some.mpr ?_)
    obtain ⟨f1, f2, f3, f4, f5, f6⟩ := fa
    have kn : ∀ {a b l}, b ≤ n3 → KNc w w4 a b l := fun hb => KN_old (g2.tr g4) (OLDc.tr o2 o4 (Nat.le_refl _)) hb
    have hh : 1 ≤ k → mid < p3 + 1 := fun _ => by omega
    have hd : HDc (n3 + 1) p (p3 + 1) n (n3 + 1) q q3 := ⟨⟨by omega, by omega⟩, by omega, by omega, by omega, by omega⟩
    refine ⟨gw.tr (g2.tr g4), n3 + 1, p3 + 1, n3 + 1, q3, rfl, OLDc.tr ow (OLDc.tr o2 o4 (Nat.le_refl _)) (by omega), h4, by omega, hd, ⟨p, f2, Nat.le_refl _, by omega⟩, f6, f1, k, m, mid, c1, s1, f3, f4, hk8, OR_k (hst w w4) (hbd w) em (kn (by omega)), ?_⟩
    rcases hx with ⟨h1, h2, h3, h4⟩ | ⟨h1, h2, h3⟩
    · exact Or.inl ⟨by rw [f5, h1]; rfl, by omega, h3, by omega⟩
    · exact Or.inr ⟨h1, x, n3, f5, by rw [show p3 + 1 - 1 = p3 by omega]; exact hst w w4 _ _ _ _ _ _ _ h3 (kn (Nat.le_refl _)), by omega⟩
  refine look_T h2 (fun w gw => ⟨g1.tr gw, rfl⟩) (fun h45 => ?_)
  rw [show (25 : Int32) = I 25 from rfl]
  refine k_eq (A_r v 6 (p + 1)) ⟨by decide, by decide⟩ (fun e => ?_) (fun _ => ?_)
  · unfold hb_Pa_list_35
    rw [show decide ((0 : Int32) = 0) = true from by decide, br_tq]
    exact e80 v 0 0 0 (p + 1) n q (p + 1) n q g1 o1 h2 (Nat.le_refl _) (by omega) (Or.inl ⟨rfl, rfl, rfl, rfl, rfl⟩) (Or.inl ⟨rfl, rfl, rfl, rfl⟩)
  · refine ok_T (ok_mono (hr v c (p + 1) n q s h2) (fun w r hw => ?_))
    obtain ⟨gw, hw⟩ := hw
    cases r with
    | inr k => exact ⟨g1.tr gw, hw⟩
    | inl x =>
      obtain ⟨m, p3, n3, q3, rfl, ol3, hv3, hp3, k, hk8, em⟩ := hw
      have rh := RW_hd (hbd w) em
      have rh1 := rh.1.1
      have n3b : n3 ≤ 8000 := by have := hv3.2.2.1.2; have := hv3.2.1.2; omega
      show OK _ (hb_Pa_list_35 N S () w y (I ((p : Nat) : Int)) (I ((m : Nat) : Int)))
      unfold hb_Pa_list_35 hb_Pa_list_78
      rw [decide_eq_false (show ¬ I ((m : Nat) : Int) = (0 : Int32) from fun y => by have := (I_eq (x := ((m : Nat) : Int)) (y := 0) (by omega) (by omega) (by decide) (by decide)).mp y; omega), br_fq]
      have no : OK (fun w r => NDQ (LIQ Ew) u c p n q o s w r) (hb_Pa_list_80 N S () w (I ((p : Nat) : Int)) (I ((m : Nat) : Int)) (0 : Int32)) := e80 w m 0 k p3 n3 q3 p3 n3 q3 (g1.tr gw) (OLDc.tr o1 ol3 (Nat.le_refl _)) hv3 hp3 hk8.2 (Or.inr ⟨hk8.1, em⟩) (Or.inl ⟨rfl, rfl, rfl, rfl⟩)
      refine look_T hv3 (fun w2 gw2 => ⟨g1.tr (gw.tr gw2), rfl⟩) (fun h45 => ?_)
      rw [show (29 : Int32) = I 29 from rfl]
      refine k_eq (A_r w 6 p3) ⟨by decide, by decide⟩ (fun e29 => ok_lt.mpr ?_) (fun _ => no)
      obtain ⟨hlt2, h4⟩ := PSI_at hv3 ⟨by omega, by omega⟩
      rw [inc_e hv3]
      have g2 : KPG w (wi w 665 ((p3 + 1 : Nat) : Int)) := KPG_at
      have o2 : OLDc w (wi w 665 ((p3 + 1 : Nat) : Int)) n3 s := OLDc.row rfl
      generalize wi w 665 ((p3 + 1 : Nat) : Int) = w2 at h4 g2 o2
      have step : ∀ (x : Option (MS × (Int32 ⊕ Nat))), OK (fun w r => NDQ (fun w m lo hi a b q r => Ew w m lo hi a b q r ∧ A w 21 m = 0) w2 c (p3 + 1) n3 q3 o s w r) x → OK (fun w r => NDQ (LIQ Ew) u c p n q o s w r) (bTm x (fun u11 r11 => hb_Pa_list_80 N S () u11 (I ((p : Nat) : Int)) (I ((m : Nat) : Int)) r11)) := fun x hx => ok_T (ok_mono hx (fun w5 r5 hw5 => by
        obtain ⟨gw5, hw5⟩ := hw5
        cases r5 with
        | inr k => exact ⟨g1.tr (gw.tr (g2.tr gw5)), hw5⟩
        | inl x =>
          obtain ⟨m5, p5, n5, q5, rfl, ol5, hv5, hp5, em5, -⟩ := hw5
          have hd5 := hbd w5 _ _ _ _ _ _ _ em5
          have := hd5.1
          exact e80 w5 m m5 k p3 n3 q3 p5 n5 q5 (g1.tr (gw.tr (g2.tr gw5))) (OLDc.tr (OLDc.tr o1 ol3 (Nat.le_refl _)) (OLDc.tr o2 ol5 (Nat.le_refl _)) (by omega)) hv5 (by omega) hk8.2 (Or.inr ⟨hk8.1, RW_k (hst w w5) (hbd w) em (KN_old (g2.tr gw5) (OLDc.tr o2 ol5 (Nat.le_refl _)) (Nat.le_refl _))⟩) (Or.inr ⟨hk8.1, by omega, em5⟩)))
      exact ok_br.mpr ⟨fun z => step _ (he (of_decide_eq_true z) w2 c (p3 + 1) n3 q3 s h4), fun z => step _ (hp (of_decide_eq_false z) w2 c (p3 + 1) n3 q3 s h4)⟩
theorem PAq (h : PAc u f m lo hi a b q r) : q = r := by
  cases f with
  | zero => exact h.elim
  | succ f => exact h.2.2.1
theorem RWq {E : Nat → Nat → Nat → Nat → Nat → Nat → Nat → Prop} (he : ∀ n lo hi a b q r, E n lo hi a b q r → q = r) : ∀ {k n lo hi a b q r : Nat}, RWc u d E k n lo hi a b q r → q = r
  | 0, _, _, _, _, _, _, _, h => h.elim
  | k + 1, n, lo, hi, a, b, q, r, h => by
    obtain ⟨m, c, s, e, h | ⟨h1, n2, h2, h3⟩⟩ := h
    · have := he _ _ _ _ _ _ _ e; omega
    · have := he _ _ _ _ _ _ _ e; have := RWq he h3; omega
theorem ORq {k : Nat} {E : Nat → Nat → Nat → Nat → Nat → Nat → Nat → Prop} (he : ∀ n lo hi a b q r, E n lo hi a b q r → q = r) (h : ORc u d E k n lo hi a b q r) : q = r := by
  rcases h with h | ⟨-, h⟩
  · omega
  · exact RWq he h
theorem TUq (h : TUc u (PAc u f) m lo hi a q r) : q = r := by
  obtain ⟨k, m, c, h1, h2, h3, h4, h5⟩ := h
  exact ORq (fun _ _ _ _ _ _ _ h => PAq h) h4
theorem TLq (h : TLc u (PAc u f) m lo hi a q r) : q = r := by
  obtain ⟨k, m, mid, c, s, h1, h2, h3, h4, h5⟩ := h
  have e := ORq (fun _ _ _ _ _ _ _ h => PAq h) h4
  rcases h5 with ⟨-, -, h5, -⟩ | ⟨-, x, c2, -, h5, -⟩
  · omega
  · have := PAq h5; omega
theorem pattern_okc {S : SF_Pa_matched} (ho : o ≤ 25)
    (hp : o < 25 → ∀ u c p n q s, PSI u c p n q (o + 1) s → OK (fun w r => NDQ (fun w m lo hi a b q r => PAc w (25 - o) m lo hi a b q r ∧ A w 21 m = 0) u c p n q (o + 1) s w r) (S.2.2.2.2.2.2.2.2.2.2.2.2.2.2.2.2.2.1 u))
    (ht : o < 25 → ∀ u c p n q s, PSI u c p n q (o + 1) s → A u 6 p ≠ 0 ∧ A u 6 p ≠ 45 → OK (fun w r => NDQ (TUQ (fun w => PAc w (25 - o))) u c p n q (o + 1) s w r) (S.2.2.2.2.2.2.2.2.2.2.2.2.2.2.2.2.1 u 1))
    (hl : o < 25 → ∀ u c p n q s, PSI u c p n q (o + 1) s → A u 6 p ≠ 0 ∧ A u 6 p ≠ 45 → OK (fun w r => NDQ (LIQ (fun w => PAc w (25 - o))) u c p n q (o + 1) s w r) (S.2.2.2.2.2.2.2.2.2.2.2.2.2.2.2.1 u 1))
    (h : PSI u c p n q o s) (hN : 10000 ≤ N) : OK (fun w r => NDQ (fun w m lo hi a b q r => PAc w (26 - o) m lo hi a b q r ∧ A w 21 m = 0) u c p n q o s w r) (hm_Pa_pattern N S u) := by
  have hc := h.1.1
  have h2p := h.2.2.1.2
  have tr := tk_rng h.1 h.2.1.2
  unfold hm_Pa_pattern hb_Pa_pattern_0
  refine look_T h (fun w gw => ⟨gw, rfl⟩) (fun h45 => ?_)
  obtain ⟨r9, e9, hr9⟩ := begP (N := N) (u := u) tr
  rw [e9, bnd_so]
  refine opens_T h (fun w gw => ⟨gw, rfl⟩) (fun hx ho25 h2 => ?_)
  have hkind := hr9 hx
  have g1 : KPG u (wi u 666 ((o + 1 : Nat) : Int)) := KPG_op
  have o1 : OLDc u (wi u 666 ((o + 1 : Nat) : Int)) n s := OLDc.row rfl
  have a6 : A (wi u 666 ((o + 1 : Nat) : Int)) 6 p = A u 6 p := rfl
  rw [show u.1 665 = I ((p : Nat) : Int) by rw [I_F (k := 665), h.2.1.1]]
  generalize wi u 666 ((o + 1 : Nat) : Int) = v at h2 g1 o1 a6
  have fe : 26 - o = (25 - o) + 1 := by omega
  have fin : ∀ (w : MS) (m p3 n3 q3 : Nat), KPG u w → OLDc u w n s → PSI w c p3 n3 q3 (o + 1) s → p ≤ p3 → PAc w (26 - o) m p p3 n n3 q q3 → A w 21 m = 0 → OK (fun w r => NDQ (fun w m lo hi a b q r => PAc w (26 - o) m lo hi a b q r ∧ A w 21 m = 0) u c p n q o s w r) (hb_Pa_pattern_162 N S () w (I ((m : Nat) : Int))) := by
    intro w m p3 n3 q3 gw ow hw hp3 em m0
    obtain ⟨e, hw2⟩ := close_e hw
    unfold hb_Pa_pattern_162
    refine ok_lt.mpr (ok_some.mpr ?_)
    rw [e]
    exact ⟨gw.tr KPG_op, m, p3, n3, q3, rfl, OLDc.tr ow (OLDc.row rfl) (Nat.le_refl _), hw2, hp3, PA_k (Nat.le_refl _) _ _ _ _ _ _ _ em (KN_old KPG_op (OLDc.row (n := n3) (s := 0) rfl) (Nat.le_refl _)), m0⟩
  rw [show (20 : Int32) = I 20 from rfl, show (22 : Int32) = I 22 from rfl, show (24 : Int32) = I 24 from rfl, show (34 : Int32) = I 34 from rfl]
  refine k_eq (A_r u 6 p) ⟨by decide, by decide⟩ (fun e => ok_lt.mpr ?_) (fun n20 => k_eq (A_r u 6 p) ⟨by decide, by decide⟩ (fun e => ?_) (fun n22 => k_eq (A_r u 6 p) ⟨by decide, by decide⟩ (fun e => ?_) (fun n24 => k_eq (A_r u 6 p) ⟨by decide, by decide⟩ (fun e => ok_lt.mpr ?_) (fun n34 => ?_))))
  · obtain ⟨hlt2, h3⟩ := PSI_at h2 (by rw [a6]; omega)
    rw [inc_e h2]
    have g2 : KPG v (wi v 665 ((p + 1 : Nat) : Int)) := KPG_at
    have o2 : OLDc v (wi v 665 ((p + 1 : Nat) : Int)) n s := OLDc.row rfl
    generalize wi v 665 ((p + 1 : Nat) : Int) = v2 at h3 g2 o2
    refine ok_T (ok_mono (hp ho25 v2 c (p + 1) n q s h3) (fun w r hw => ?_))
    obtain ⟨gw, hw⟩ := hw
    cases r with
    | inr k => exact ⟨g1.tr (g2.tr gw), hw⟩
    | inl x =>
      obtain ⟨m, p3, n3, q3, rfl, ol3, hv3, hp3, em, -⟩ := hw
      have hd := PA_bd _ _ _ _ _ _ _ _ em
      unfold HDc at hd
      have n3b : n3 ≤ 8000 := by have := hv3.2.2.1.2; have := hv3.2.1.2; omega
      have p3c := hv3.2.1.2
      rw [lit0q, show (5 : Int32) = I 5 from rfl]
      refine add_B hv3 (by omega) ⟨by decide, by decide⟩ ⟨by omega, by omega⟩ ⟨by omega, by omega⟩ ⟨by decide, by decide⟩ ⟨by decide, by decide⟩ (fun w4 g4 o4 h4 fa => ?_)
      obtain ⟨f1, f2, f3, f4, f5, f6⟩ := fa
      rw [show (21 : Int32) = I 21 from rfl]
      refine need_T h4 (by omega) (fun w2 gw2 => ⟨g1.tr (g2.tr (gw.tr (g4.tr gw2))), rfl⟩) (fun _ h5 => ?_)
      have g5 : KPG w4 (wi w4 665 ((p3 + 1 : Nat) : Int)) := KPG_at
      have o5 : OLDc w4 (wi w4 665 ((p3 + 1 : Nat) : Int)) (n3 + 1) s := OLDc.row rfl
      have p5c := h5.2.1.2
      refine fin _ (n3 + 1) (p3 + 1) (n3 + 1) q3 (g1.tr (g2.tr (gw.tr (g4.tr g5)))) (OLDc.tr (OLDc.tr (OLDc.tr o1 o2 (Nat.le_refl _)) ol3 (Nat.le_refl _)) (OLDc.tr o4 o5 (by omega)) (by omega)) h5 (by omega) ?_ f6
      rw [fe]
      refine ⟨⟨⟨by omega, by omega⟩, by omega, by omega, by omega, by omega⟩, ⟨p, f2, Nat.le_refl _, by omega⟩, ?_, Or.inr (Or.inr (Or.inl ⟨f1, m, n3, f3, ?_, by omega⟩))⟩
      · have := PAq em; exact this
      · rw [show p3 + 1 - 1 = p3 by omega]
        exact PA_k (Nat.le_refl _) _ _ _ _ _ _ _ em (KN_old (g4.tr g5) (OLDc.tr o4 o5 (by omega)) (Nat.le_refl _))
  · refine ok_T (ok_mono (ht ho25 v c p n q s h2 (by rw [a6]; omega)) (fun w r hw => ?_))
    obtain ⟨gw, hw⟩ := hw
    cases r with
    | inr k => exact ⟨g1.tr gw, hw⟩
    | inl x =>
      obtain ⟨m, p3, n3, q3, rfl, ol3, hv3, hp3, t1, t2, t3, t4, t5⟩ := hw
      refine fin w m p3 n3 q3 (g1.tr gw) (OLDc.tr o1 ol3 (Nat.le_refl _)) hv3 hp3 ?_ t3
      rw [fe]
      exact ⟨t1, t2, TUq t5, Or.inr (Or.inr (Or.inr (Or.inl ⟨t4, t5⟩)))⟩
  · refine ok_T (ok_mono (hl ho25 v c p n q s h2 (by rw [a6]; omega)) (fun w r hw => ?_))
    obtain ⟨gw, hw⟩ := hw
    cases r with
    | inr k => exact ⟨g1.tr gw, hw⟩
    | inl x =>
      obtain ⟨m, p3, n3, q3, rfl, ol3, hv3, hp3, t1, t2, t3, t4, t5⟩ := hw
      refine fin w m p3 n3 q3 (g1.tr gw) (OLDc.tr o1 ol3 (Nat.le_refl _)) hv3 hp3 ?_ t3
      rw [fe]
      exact ⟨t1, t2, TLq t5, Or.inr (Or.inr (Or.inr (Or.inr ⟨t4, t5⟩)))⟩
  · obtain ⟨hlt2, h3⟩ := PSI_at h2 (by rw [a6]; omega)
    rw [inc_e h2]
    have g2 : KPG v (wi v 665 ((p + 1 : Nat) : Int)) := KPG_at
    have o2 : OLDc v (wi v 665 ((p + 1 : Nat) : Int)) n s := OLDc.row rfl
    generalize wi v 665 ((p + 1 : Nat) : Int) = v2 at h3 g2 o2
    refine look_T h3 (fun w gw => ⟨g1.tr (g2.tr gw), rfl⟩) (fun _ => ?_)
    rw [show (1 : Int32) = I 1 from rfl]
    refine k_eq (A_r v2 6 (p + 1)) ⟨by decide, by decide⟩ (fun e1 => ?_) (fun _ => refuse_T h3 (fun w gw => ⟨g1.tr (g2.tr gw), rfl⟩))
    unfold hb_Pa_pattern_137
    refine leaf_B h3 (by omega) (fun w gw ow hw lf m0 a61 => ?_)
    have p3c := hw.2.1.2
    have n3b := hw.2.2.1.2
    rw [lit0q, show (17 : Int32) = I 17 from rfl]
    refine add_B hw (by have := h.2.2.1.2; omega) ⟨by decide, by decide⟩ ⟨by omega, by omega⟩ ⟨by omega, by omega⟩ ⟨by decide, by decide⟩ ⟨by decide, by decide⟩ (fun w4 g4 o4 h4 fa => ?_)
    obtain ⟨f1, f2, f3, f4, f5, f6⟩ := fa
    have kn : KNc w w4 n (n + 1) 0 := KN_old g4 o4 (Nat.le_refl _)
    refine fin w4 (n + 1 + 1) (p + 1 + 1) (n + 1 + 1) q (g1.tr (g2.tr (gw.tr g4))) (OLDc.tr (OLDc.tr (OLDc.tr o1 o2 (Nat.le_refl _)) ow (Nat.le_refl _)) o4 (by omega)) h4 (by omega) ?_ f6
    rw [fe]
    exact ⟨⟨⟨by omega, by omega⟩, by omega, by omega, by omega, by omega⟩, ⟨p, f2, Nat.le_refl _, by omega⟩, rfl, Or.inr (Or.inl ⟨f1, n + 1, f3, ⟨by omega, by omega, by omega⟩, LF_k lf kn ⟨by omega, by omega⟩, by rw [g4.a6, a61]; exact e1, by omega⟩)⟩
  · refine leaf_B h2 (by rw [a6]; omega) (fun w gw ow hw lf m0 a61 => ?_)
    have p3c := hw.2.1.2
    refine fin w (n + 1) (p + 1) (n + 1) q (g1.tr gw) (OLDc.tr o1 ow (Nat.le_refl _)) hw (by omega) ?_ m0
    rw [fe]
    exact ⟨⟨⟨by omega, by omega⟩, by omega, by omega, by omega, by omega⟩, ⟨p, lf.2.2.1, Nat.le_refl _, by omega⟩, rfl, Or.inl ⟨lf, rfl⟩⟩
end
end
section
set_option maxRecDepth 100000
def Pw (o : Nat) (w : MS) : Nat → Nat → Nat → Nat → Nat → Nat → Nat → Prop := PAc w (26 - o)
def Gw (o : Nat) (w : MS) : Nat → Nat → Nat → Nat → Nat → Nat → Nat → Prop := XPc w (4 * (25 - o) + 3) (o + 1) 3
def Bw (o : Nat) (w : MS) : Nat → Nat → Nat → Nat → Nat → Nat → Nat → Prop := XPc w (4 * (24 - o) + 3) (o + 2) 3
section
variable {u v w : MS} {N c p n q o s p2 n2 q2 m a b l lo hi r d most f t pl ph : Nat}
theorem Pw_st (u w : MS) : StE u w (Pw o u) (Pw o w) := PA_k (Nat.le_refl _)
theorem Gw_st (u w : MS) : StE u w (Gw o u) (Gw o w) := XP_k (Nat.le_refl _) (Nat.le_refl _)
theorem Bw_st (u w : MS) : StE u w (Bw o u) (Bw o w) := XP_k (Nat.le_refl _) (Nat.le_refl _)
theorem Pw_bd (u : MS) : BdE (Pw o u) := PA_bd _
theorem Gw_bd (u : MS) : BdE (Gw o u) := XP_bd _ _ _
theorem Bw_bd (u : MS) : BdE (Bw o u) := XP_bd _ _ _
theorem body_okc {S : SF_Pa_matched}
    (hr : o < 25 → ∀ u c p n q s, PSI u c p n q (o + 1) s → OK (fun w r => NDQ (fun w m lo hi a b q r => ∃ k, (1 ≤ k ∧ k ≤ 4000) ∧ RWc w 1 (Bw o w) k m lo hi a b q r) u c p n q (o + 1) s w r) (S.2.2.2.2.2.2.2.2.2.2.2.2.2.2.2.2.2.2.1 u 0 (I ((4000 : Nat) : Int))))
    (h : PSI u c p n q o s) : OK (fun w r => NDQ (fun w m lo hi a b q r => ∃ k, RWc w 1 (Bw o w) k m lo hi a b q r) u c p n q o s w r) (hm_Pa_body N S u) := by
  have e25 : ∀ t1, OK (fun w r => NDQ (fun w m lo hi a b q r => ∃ k, RWc w 1 (Bw o w) k m lo hi a b q r) u c p n q o s w r) (hb_Pa_body_25 N S () u t1) := fun t1 => by
    unfold hb_Pa_body_25
    refine opens_T h (fun w gw => ⟨gw, rfl⟩) (fun _ ho h2 => ?_)
    refine ok_T (ok_mono (hr ho _ c p n q s h2) (fun w r hw => ?_))
    obtain ⟨gw, hw⟩ := hw
    cases r with
    | inr k => exact ⟨KPG_op.tr gw, hw⟩
    | inl x =>
      obtain ⟨m, p3, n3, q3, rfl, ol3, hv3, hp3, k, hk, em⟩ := hw
      obtain ⟨e, hw2⟩ := close_e hv3
      refine ok_lt.mpr (ok_some.mpr ?_)
      rw [e]
      exact ⟨KPG_op.tr (gw.tr KPG_op), m, p3, n3, q3, rfl, OLDc.tr (OLDc.row rfl) (OLDc.tr ol3 (OLDc.row rfl) (Nat.le_refl _)) (Nat.le_refl _), hw2, hp3, k, RW_k (Bw_st w _) (Bw_bd w) em (KN_old KPG_op (OLDc.row (n := n3) (s := 0) rfl) (Nat.le_refl _))⟩
  unfold hm_Pa_body hb_Pa_body_0 hb_Pa_body_20
  refine look_T h (fun w gw => ⟨gw, rfl⟩) (fun h45 => ?_)
  obtain ⟨r6, e6⟩ := begU (N := N) (u := u) (tk_rng h.1 h.2.1.2)
  rw [e6, bnd_so]
  exact ok_br.mpr ⟨fun _ => look_T h (fun w gw => ⟨gw, rfl⟩) (fun _ => ok_br.mpr ⟨fun _ => e25 _, fun _ => e25 _⟩), fun _ => e25 _⟩
theorem part_okc {S : SF_Pa_matched} {k m0 : Nat}
    (hr : ∀ u c p n q s, PSI u c p n q o s → OK (fun w r => NDQ (fun w m lo hi a b q r => ∃ k, (1 ≤ k ∧ k ≤ 4000) ∧ RWc w 1 (Gw o w) k m lo hi a b q r) u c p n q o s w r) (S.2.2.2.2.2.2.2.2.2.2.2.2.2.2.2.2.2.2.1 u 0 (I ((4000 : Nat) : Int))))
    (hb : ∀ u c p n q s, PSI u c p n q o s → OK (fun w r => NDQ (fun w m lo hi a b q r => ∃ k, RWc w 1 (Bw o w) k m lo hi a b q r) u c p n q o s w r) (S.2.2.2.2.2.2.2.2.2.1 u))
    (h : PSI u c p n q o s) (ht : t < p) (hpl : pl ≤ ph ∧ ph ≤ p) (em0 : ORc u 1 (Pw o u) k m0 pl ph a n q q) : OK (fun w r => NDQ (fun w m lo hi a1 b q r => PRTc w (Pw o w) (Bw o w) (Gw o w) k m pl ph lo hi a b q r ∧ (a1 < m ∧ m = b) ∧ lo + 2 ≤ hi ∧ b + 1 + 2 * lo ≤ a1 + 2 * hi ∧ q ≤ r ∧ 5 * r + lo + 2 ≤ 5 * q + hi ∧ A w 21 m = 0 ∧ A w 17 m = ((t : Nat) : Int)) u c p n q o s w r) (hm_Pa_part N S u (I ((t : Nat) : Int)) (I ((m0 : Nat) : Int))) := by
  have hc := h.1.1
  have h2p := h.2.2.1.2
  have hpc := h.2.1.2
  have oh0 := OR_hd (Pw_bd u) em0
  have m0b : m0 ≤ n := by
    rcases em0 with ⟨-, h, -⟩ | ⟨-, h⟩
    · omega
    · have := (RW_hd (Pw_bd u) h).1.1; omega
  have e30 : ∀ (w : MS) (g p3 n3 q3 : Nat), KPG u w → OLDc u w n s → PSI w c p3 n3 q3 o s → p ≤ p3 → ((g = 0 ∧ p3 = p ∧ n3 = n ∧ q3 = q) ∨ (1 ≤ g ∧ (n < g ∧ g ≤ n3) ∧ (p + 1 < p3 ∧ n3 + 1 + 2 * (p + 1) ≤ n + 2 * p3 ∧ q ≤ q3 ∧ 5 * q3 + (p + 1) + 1 ≤ 5 * q + p3) ∧ ∃ kg, RWc w 1 (Gw o w) kg g (p + 1) p3 n n3 q q3)) → OK (fun w r => NDQ (fun w m lo hi a1 b q r => PRTc w (Pw o w) (Bw o w) (Gw o w) k m pl ph lo hi a b q r ∧ (a1 < m ∧ m = b) ∧ lo + 2 ≤ hi ∧ b + 1 + 2 * lo ≤ a1 + 2 * hi ∧ q ≤ r ∧ 5 * r + lo + 2 ≤ 5 * q + hi ∧ A w 21 m = 0 ∧ A w 17 m = ((t : Nat) : Int)) u c p n q o s w r) (hb_Pa_part_30 N S () w (I ((t : Nat) : Int)) (I ((m0 : Nat) : Int)) (I ((g : Nat) : Int))) := by
    intro w g p3 n3 q3 gw ow hw hp3 hg
    unfold hb_Pa_part_30
    rw [show (38 : Int32) = I 38 from rfl]
    refine need_T hw (by omega) (fun w2 gw2 => ⟨gw.tr gw2, rfl⟩) (fun _ h3 => ?_)
    have g1 : KPG w (wi w 665 ((p3 + 1 : Nat) : Int)) := KPG_at
    have o1 : OLDc w (wi w 665 ((p3 + 1 : Nat) : Int)) n3 s := OLDc.row rfl
    generalize wi w 665 ((p3 + 1 : Nat) : Int) = w1 at h3 g1 o1
    refine ok_T (ok_mono (hb w1 c (p3 + 1) n3 q3 s h3) (fun w2 r hw2 => ?_))
    obtain ⟨g2, hw2⟩ := hw2
    cases r with
    | inr k => exact ⟨gw.tr (g1.tr g2), hw2⟩
    | inl x =>
      obtain ⟨mb, p4, n4, q4, rfl, ol4, hv4, hp4, kb, em⟩ := hw2
      have rh := (RW_hd (Bw_bd w2) em).1
      unfold HDc at rh
      have n4b : n4 ≤ 8000 := by have := hv4.2.2.1.2; have := hv4.2.1.2; omega
      have p4c := hv4.2.1.2
      have gb : g ≤ 8000 := by
        rcases hg with hg | hg
        · omega
        · have := hg.2.1; omega
      rw [show (25 : Int32) = I 25 from rfl]
      have cnt : n4 + 1 + 1 + 2 * p ≤ n + 2 * p4 ∧ n ≤ n3 ∧ q ≤ q4 ∧ 5 * q4 + p + 2 ≤ 5 * q + p4 ∧ p + 2 ≤ p4 := by
        rcases hg with hg | ⟨-, hx, hg, -⟩ <;> omega
      refine add_B hv4 (by omega) ⟨by decide, by decide⟩ ⟨by omega, by omega⟩ ⟨by omega, by omega⟩ ⟨by omega, by omega⟩ ⟨by omega, by omega⟩ (fun w5 g5 o5 h5 fa => ok_some.mpr ?_)
      obtain ⟨f1, f2, f3, f4, f5, f6⟩ := fa
      have ow5 : OLDc w w5 n3 s := OLDc.tr o1 (OLDc.tr ol4 o5 (by omega)) (Nat.le_refl _)
      have gw5 : KPG w w5 := g1.tr (g2.tr g5)
      have ou5 : OLDc u w5 n s := OLDc.tr ow ow5 cnt.2.1
      refine ⟨gw.tr gw5, n4 + 1, p4, n4 + 1, q4, rfl, ou5, h5, by omega, ⟨⟨by omega, by omega⟩, f1, ⟨t, f2, by omega, by omega⟩, m0, n, g, p3, n3, q3, kb, mb, n4, ⟨f3, OR_k (Pw_st u w5) (Pw_bd u) em0 (KN_old (gw.tr gw5) ou5 (Nat.le_refl _))⟩, ⟨f4, ?_⟩, ⟨f5, RW_k (Bw_st w2 w5) (Bw_bd w2) em (KN_old g5 o5 (Nat.le_refl _))⟩, by omega⟩, ⟨by omega, rfl⟩, by omega, by omega, by omega, by omega, f6, f2⟩
      rcases hg with ⟨h1, h2, h3, h4⟩ | ⟨h1, -, -, kg, h2⟩
      · exact Or.inl ⟨h1, h2, h3, h4⟩
      · exact Or.inr ⟨h1, kg, RW_k (Gw_st w w5) (Gw_bd w) h2 (KN_old gw5 ow5 (Nat.le_refl _))⟩
  unfold hm_Pa_part hb_Pa_part_0
  refine look_T h (fun w gw => ⟨gw, rfl⟩) (fun h45 => ?_)
  rw [show (19 : Int32) = I 19 from rfl]
  refine k_eq (A_r u 6 p) ⟨by decide, by decide⟩ (fun e => ok_lt.mpr ?_) (fun _ => e30 u 0 p n q KPG.rf OLDc.rf h (Nat.le_refl _) (Or.inl ⟨rfl, rfl, rfl, rfl⟩))
  obtain ⟨hlt2, h3⟩ := PSI_at h (by omega)
  rw [inc_e h]
  have g1 : KPG u (wi u 665 ((p + 1 : Nat) : Int)) := KPG_at
  have o1 : OLDc u (wi u 665 ((p + 1 : Nat) : Int)) n s := OLDc.row rfl
  generalize wi u 665 ((p + 1 : Nat) : Int) = w1 at h3 g1 o1
  refine ok_T (ok_mono (hr w1 c (p + 1) n q s h3) (fun w2 r hw2 => ?_))
  obtain ⟨g2, hw2⟩ := hw2
  cases r with
  | inr k => exact ⟨g1.tr g2, hw2⟩
  | inl x =>
    obtain ⟨mg, p4, n4, q4, rfl, ol4, hv4, hp4, kg, hkg, em⟩ := hw2
    have rh := (RW_hd (Gw_bd w2) em).1
    unfold HDc at rh
    exact e30 w2 mg p4 n4 q4 (g1.tr g2) (OLDc.tr o1 ol4 (Nat.le_refl _)) hv4 (by omega) (Or.inr ⟨by omega, by omega, by omega, kg, em⟩)
theorem choice_okc {S : SF_Pa_matched}
    (hr : ∀ u c p n q s, PSI u c p n q o s → OK (fun w r => NDQ (fun w m lo hi a b q r => ∃ k, (1 ≤ k ∧ k ≤ 4000) ∧ RWc w 1 (Gw o w) k m lo hi a b q r) u c p n q o s w r) (S.2.2.2.2.2.2.2.2.2.2.2.2.2.2.2.2.2.2.1 u 0 (I ((4000 : Nat) : Int))))
    (hb : ∀ u c p n q s, PSI u c p n q o s → OK (fun w r => NDQ (fun w m lo hi a b q r => ∃ k, RWc w 1 (Bw o w) k m lo hi a b q r) u c p n q o s w r) (S.2.2.2.2.2.2.2.2.2.1 u))
    (h : PSI u c p n q o s) : OK (fun w r => NDQ (fun w m lo hi a b q r => CHPc w (Bw o w) (Gw o w) m lo hi a b q r ∧ A w 21 m = 0) u c p n q o s w r) (hm_Pa_choice N S u) := by
  have hc := h.1.1
  have h2p := h.2.2.1.2
  have hpc := h.2.1.2
  unfold hm_Pa_choice hb_Pa_choice_0
  rw [show u.1 665 = I ((p : Nat) : Int) by rw [I_F (k := 665), h.2.1.1]]
  refine ok_T (ok_mono (hr u c p n q s h) (fun w r hw => ?_))
  obtain ⟨gw, hw⟩ := hw
  cases r with
  | inr k => exact ⟨gw, hw⟩
  | inl x =>
    obtain ⟨g, p3, n3, q3, rfl, ol3, hv3, hp3, kg, hkg, eg⟩ := hw
    have rg := (RW_hd (Gw_bd w) eg).1
    unfold HDc at rg
    rw [show (38 : Int32) = I 38 from rfl]
    refine need_T hv3 (by omega) (fun w2 gw2 => ⟨gw.tr gw2, rfl⟩) (fun _ h3 => ?_)
    have g1 : KPG w (wi w 665 ((p3 + 1 : Nat) : Int)) := KPG_at
    have o1 : OLDc w (wi w 665 ((p3 + 1 : Nat) : Int)) n3 s := OLDc.row rfl
    generalize wi w 665 ((p3 + 1 : Nat) : Int) = w1 at h3 g1 o1
    refine ok_T (ok_mono (hb w1 c (p3 + 1) n3 q3 s h3) (fun w2 r hw2 => ?_))
    obtain ⟨g2, hw2⟩ := hw2
    cases r with
    | inr k => exact ⟨gw.tr (g1.tr g2), hw2⟩
    | inl x =>
      obtain ⟨mb, p4, n4, q4, rfl, ol4, hv4, hp4, kb, em⟩ := hw2
      have rh := (RW_hd (Bw_bd w2) em).1
      unfold HDc at rh
      have n4b : n4 ≤ 8000 := by have := hv4.2.2.1.2; have := hv4.2.1.2; omega
      have p4c := hv4.2.1.2
      rw [show (25 : Int32) = I 25 from rfl, lit0q]
      refine add_B hv4 (by omega) ⟨by decide, by decide⟩ ⟨by omega, by omega⟩ ⟨by omega, by omega⟩ ⟨by omega, by omega⟩ ⟨by omega, by omega⟩ (fun w5 g5 o5 h5 fa => ok_some.mpr ?_)
      obtain ⟨f1, f2, f3, f4, f5, f6⟩ := fa
      have ow5 : OLDc w w5 n3 s := OLDc.tr o1 (OLDc.tr ol4 o5 (by omega)) (Nat.le_refl _)
      have gw5 : KPG w w5 := g1.tr (g2.tr g5)
      exact ⟨gw.tr gw5, n4 + 1, p4, n4 + 1, q4, rfl, OLDc.tr ol3 ow5 (by omega), h5, by omega, ⟨⟨⟨by omega, by omega⟩, by omega, by omega, by omega, by omega⟩, f1, ⟨p, f2, by omega, by omega⟩, f3, g, kg, p3, n3, q3, kb, mb, n4, ⟨f4, by omega, RW_k (Gw_st w w5) (Gw_bd w) eg (KN_old gw5 ow5 (Nat.le_refl _))⟩, ⟨f5, RW_k (Bw_st w2 w5) (Bw_bd w2) em (KN_old g5 o5 (Nat.le_refl _))⟩, by omega⟩, f6⟩
theorem oneCase_okc {S : SF_Pa_matched}
    (hp : ∀ u c p n q s, PSI u c p n q o s → OK (fun w r => NDQ (fun w m lo hi a b q r => Pw o w m lo hi a b q r ∧ A w 21 m = 0) u c p n q o s w r) (S.2.2.2.2.2.2.2.2.2.2.2.2.2.2.2.2.2.1 u))
    (ht : ∀ u c p n q s t k m0 pl ph a, PSI u c p n q o s → t < p → pl ≤ ph ∧ ph ≤ p → ORc u 1 (Pw o u) k m0 pl ph a n q q → OK (fun w r => NDQ (fun w m lo hi a1 b q r => PRTc w (Pw o w) (Bw o w) (Gw o w) k m pl ph lo hi a b q r ∧ (a1 < m ∧ m = b) ∧ lo + 2 ≤ hi ∧ b + 1 + 2 * lo ≤ a1 + 2 * hi ∧ q ≤ r ∧ 5 * r + lo + 2 ≤ 5 * q + hi ∧ A w 21 m = 0 ∧ A w 17 m = ((t : Nat) : Int)) u c p n q o s w r) (S.2.2.2.2.2.1 u (I ((t : Nat) : Int)) (I ((m0 : Nat) : Int))))
    (h : PSI u c p n q o s) : OK (fun w r => NDQ (fun w m lo hi a b q r => CSPc w (Pw o w) (Bw o w) (Gw o w) m lo hi a b q r ∧ A w 21 m = 0) u c p n q o s w r) (hm_Pa_oneCase N S u) := by
  unfold hm_Pa_oneCase hb_Pa_oneCase_0
  rw [show u.1 665 = I ((p : Nat) : Int) by rw [I_F (k := 665), h.2.1.1]]
  refine ok_T (ok_mono (hp u c p n q s h) (fun w r hw => ?_))
  obtain ⟨gw, hw⟩ := hw
  cases r with
  | inr k => exact ⟨gw, hw⟩
  | inl x =>
    obtain ⟨m, p3, n3, q3, rfl, ol3, hv3, hp3, em, m0⟩ := hw
    have hd := Pw_bd w _ _ _ _ _ _ _ em
    have eq : q = q3 := PAq em
    subst eq
    unfold HDc at hd
    refine ok_T (ok_mono (ht w c p3 n3 q s p 1 m p p3 n hv3 (by omega) (by omega) (Or.inr ⟨Nat.le_refl _, p3, n3, q, em, Or.inl ⟨rfl, m0, rfl, rfl, rfl⟩⟩)) (fun w2 r hw2 => ?_))
    obtain ⟨g2, hw2⟩ := hw2
    cases r with
    | inr k => exact ⟨gw.tr g2, hw2⟩
    | inl x =>
      obtain ⟨m2, p4, n4, q4, rfl, ol4, hv4, hp4, e1, e2, e3, e4, e5, e6, e7, -⟩ := hw2
      refine ok_some.mpr ⟨gw.tr g2, m2, p4, n4, q4, rfl, OLDc.tr ol3 ol4 (by omega), hv4, by omega, ⟨⟨⟨by omega, by omega⟩, by omega, by omega, by omega, by omega⟩, p3, e1⟩, e7⟩
theorem parts_okc {S : SF_Pa_matched} {y : Int32} {Ew : MS → Nat → Nat → Nat → Nat → Nat → Nat → Nat → Prop} (hst : ∀ u w, StE u w (Ew u) (Ew w)) (hbd : ∀ u, BdE (Ew u))
    (he : y = 0 → ∀ u c p n q s, PSI u c p n q o s → OK (fun w r => NDQ (fun w m lo hi a b q r => Ew w m lo hi a b q r ∧ A w 21 m = 0) u c p n q o s w r) (S.2.2.2.2.1 u))
    (hp : y ≠ 0 → ∀ u c p n q s, PSI u c p n q o s → OK (fun w r => NDQ (fun w m lo hi a b q r => Ew w m lo hi a b q r ∧ A w 21 m = 0) u c p n q o s w r) (S.2.2.2.2.2.2.1 u))
    (h : PSI u c p n q o s) (hN : 10000 ≤ N) : OK (fun w r => NDQ (fun w m lo hi a b q r => ∃ k, RWc w 1 (Ew w) k m lo hi a b q r) u c p n q o s w r) (hm_Pa_parts N S u y) := by
  have hc := h.1.1
  have gen : ∀ (M k j first l pp nn qq : Nat) (v : MS), KPG u v → OLDc u v n s → PSI v c pp nn qq o s → p ≤ pp → RPc v 1 (Ew v) k first l p pp n nn q qq → A v 21 l = 0 → j ≤ 4000 → 4001 < M + pp → OK (fun w r => NDQ (fun w m lo hi a b q r => ∃ k, RWc w 1 (Ew w) k m lo hi a b q r) u c p n q o s w r) (hg_Pa_parts N S M v y (I ((first : Nat) : Int)) (I ((l : Nat) : Int)) (I ((j : Nat) : Int))) := by
    intro M
    induction M with
    | zero =>
      intro k j first l pp nn qq v _ _ hv
      have := hv.2.1.2
      omega
    | succ M ih =>
      intro k j first l pp nn qq v g ol hv hpp rp h0 hj hM
      show OK _ (hb_Pa_parts_21 N S (hg_Pa_parts N S M) v y (I ((first : Nat) : Int)) (I ((l : Nat) : Int)) (I ((j : Nat) : Int)))
      unfold hb_Pa_parts_21 hb_Pa_parts_75
      have rh := RP_hd (hbd v) rp
      have hk1 : 1 ≤ k := by
        cases k with
        | zero => exact rp.elim
        | succ k => omega
      have done : NDQ (fun w m lo hi a b q r => ∃ k, RWc w 1 (Ew w) k m lo hi a b q r) u c p n q o s v (.inl (I ((first : Nat) : Int))) := ⟨g, first, pp, nn, qq, rfl, ol, hv, hpp, k, RW_of (hbd v) rp h0⟩
      rw [show (4000 : Int32) = I 4000 from rfl]
      refine k_le ⟨by decide, by decide⟩ ⟨by omega, by omega⟩ (fun _ => ok_some.mpr done) (fun hlt => look_T hv (fun w gw => ⟨g.tr gw, rfl⟩) (fun h45 => ?_))
      rw [show (27 : Int32) = I 27 from rfl]
      refine k_eq (A_r v 6 pp) ⟨by decide, by decide⟩ (fun e26 => ok_lt.mpr ?_) (fun _ => ok_some.mpr done)
      obtain ⟨hlt2, hv2⟩ := PSI_at hv ⟨by omega, by omega⟩
      rw [inc_e hv]
      have g2 : KPG v (wi v 665 ((pp + 1 : Nat) : Int)) := KPG_at
      have o2 : OLDc v (wi v 665 ((pp + 1 : Nat) : Int)) nn s := OLDc.row rfl
      generalize wi v 665 ((pp + 1 : Nat) : Int) = v2 at hv2 g2 o2
      have step : ∀ (x : Option (MS × (Int32 ⊕ Nat))), OK (fun w r => NDQ (fun w m lo hi a b q r => Ew w m lo hi a b q r ∧ A w 21 m = 0) v2 c (pp + 1) nn qq o s w r) x → OK (fun w r => NDQ (fun w m lo hi a b q r => ∃ k, RWc w 1 (Ew w) k m lo hi a b q r) u c p n q o s w r) (bTm x (fun u5 r5 => hb_Pa_parts_65 N S (hg_Pa_parts N S M) u5 y (I ((first : Nat) : Int)) (I ((j : Nat) : Int)) (I ((l : Nat) : Int)) r5)) := fun x hx => ok_T (ok_mono hx (fun w r hw => by
        obtain ⟨gw, hw⟩ := hw
        cases r with
        | inr k => exact ⟨g.tr (g2.tr gw), hw⟩
        | inl x =>
          obtain ⟨m, p3, n3, q3, rfl, ol3, hv3, hp3, em, m0⟩ := hw
          show OK _ (hb_Pa_parts_65 N S (hg_Pa_parts N S M) w y (I ((first : Nat) : Int)) (I ((j : Nat) : Int)) (I ((l : Nat) : Int)) (I ((m : Nat) : Int)))
          unfold hb_Pa_parts_65
          have hm := hbd w _ _ _ _ _ _ _ em
          have hm1 := hm.1
          have n3b : n3 ≤ 8000 := by have := hv3.2.2.1.2; have := hv3.2.1.2; omega
          rw [chain_e (by omega), bnd_so, lit1q, I_add, show ((j : Nat) : Int) + 1 = ((j + 1 : Nat) : Int) by omega]
          have ov : OLDc v w nn s := OLDc.tr o2 ol3 (Nat.le_refl _)
          have gv : KPG v w := g2.tr gw
          have gw2 : KPG w (wa w 21 l ((m : Nat) : Int)) := FR.wa FR.rf (by simp)
          have a21 : ∀ k, k ≠ l → A (wa w 21 l ((m : Nat) : Int)) 21 k = A w 21 k := fun k hk => wa_ne hk
          have aO : ∀ r k, r ≠ 21 → A (wa w 21 l ((m : Nat) : Int)) r k = A w r k := fun r k hr => wa_rne hr
          have a21l : A (wa w 21 l ((m : Nat) : Int)) 21 l = ((m : Nat) : Int) := wa_eq ⟨by omega, by omega⟩
          have hv4 : PSI (wa w 21 l ((m : Nat) : Int)) c p3 n3 q3 o s := ⟨TKK_g gw2 hv3.1, hv3.2⟩
          have e6 : (wa w 21 l ((m : Nat) : Int)).2.2.1 6 = w.2.2.1 6 := gw2.2.2.1 6 (by simp)
          have e7 : (wa w 21 l ((m : Nat) : Int)).2.2.1 7 = w.2.2.1 7 := gw2.2.2.1 7 (by simp)
          generalize wa w 21 l ((m : Nat) : Int) = w5 at gw2 a21 aO a21l hv4 e6 e7
          have kv : KNc v w5 n nn l := ⟨⟨e6.trans (gv.2.2.1 6 (by simp)), e7.trans (gv.2.2.1 7 (by simp))⟩, fun k k1 k2 => by
            obtain ⟨b1, b2, b3, b4, b5, b6⟩ := ov.1 k k2
            exact ⟨⟨by rw [aO _ _ (by decide)]; exact b1, by rw [aO _ _ (by decide)]; exact b2, by rw [aO _ _ (by decide)]; exact b3, by rw [aO _ _ (by decide)]; exact b4, by rw [aO _ _ (by decide)]; exact b5⟩, fun k3 => by rw [a21 k k3]; exact b6⟩⟩
          have kw : KNc w w5 nn n3 m := ⟨⟨e6, e7⟩, fun k k1 k2 => ⟨⟨aO _ _ (by decide), aO _ _ (by decide), aO _ _ (by decide), aO _ _ (by decide), aO _ _ (by decide)⟩, fun k3 => a21 k (by omega)⟩⟩
          have rp5 := RP_k (hst v w5) (hbd v) rp kv
          have em5 := hst w w5 _ _ _ _ _ _ _ em kw
          refine ih (k + 1) (j + 1) first m p3 n3 q3 w5 (g.tr (gv.tr gw2)) ?_ hv4 (by omega) (Or.inr ⟨hk1, l, pp, nn, qq, rp5, a21l, em5⟩) ?_ (by omega) (by omega)
          · have o6 := OLDc.tr ol ov (by omega)
            refine ⟨fun k hk => ?_, fun i hi => by rw [aO _ _ (by decide)]; exact o6.2 i hi⟩
            obtain ⟨b1, b2, b3, b4, b5, b6⟩ := o6.1 k hk
            exact ⟨by rw [aO _ _ (by decide)]; exact b1, by rw [aO _ _ (by decide)]; exact b2, by rw [aO _ _ (by decide)]; exact b3, by rw [aO _ _ (by decide)]; exact b4, by rw [aO _ _ (by decide)]; exact b5, by rw [a21 k (by omega)]; exact b6⟩
          · rw [a21 m (by omega)]; exact m0))
      exact ok_br.mpr ⟨fun z => step _ (he (of_decide_eq_true z) v2 c (pp + 1) nn qq s hv2), fun z => step _ (hp (of_decide_eq_false z) v2 c (pp + 1) nn qq s hv2)⟩
  unfold hm_Pa_parts hb_Pa_parts_0 hb_Pa_parts_15
  have step : ∀ (x : Option (MS × (Int32 ⊕ Nat))), OK (fun w r => NDQ (fun w m lo hi a b q r => Ew w m lo hi a b q r ∧ A w 21 m = 0) u c p n q o s w r) x → OK (fun w r => NDQ (fun w m lo hi a b q r => ∃ k, RWc w 1 (Ew w) k m lo hi a b q r) u c p n q o s w r) (bTm x (fun u7 r7 => hg_Pa_parts N S N u7 y r7 r7 0)) := fun x hx => ok_T (ok_mono hx (fun w r hw => by
    obtain ⟨gw, hw⟩ := hw
    cases r with
    | inr k => exact ⟨gw, hw⟩
    | inl x =>
      obtain ⟨m, p3, n3, q3, rfl, ol3, hv3, hp3, em, m0⟩ := hw
      show OK _ (hg_Pa_parts N S N w y (I ((m : Nat) : Int)) (I ((m : Nat) : Int)) (I ((0 : Nat) : Int)))
      exact gen N 1 0 m m p3 n3 q3 w gw ol3 hv3 hp3 (Or.inl ⟨rfl, rfl, em⟩) m0 (by omega) (by omega)))
  exact ok_br.mpr ⟨fun z => step _ (he (of_decide_eq_true z) u c p n q s h), fun z => step _ (hp (of_decide_eq_false z) u c p n q s h)⟩
end
end
