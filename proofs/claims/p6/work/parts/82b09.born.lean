set_option maxRecDepth 100000
def nrw (k : Nat) : LC := if k = 2 then .inr (.inl (4, 300, fun _ => 0)) else if k = 3 then .inr (.inl (4, 64, fun _ => 0)) else if k = 4 then .inr (.inr (.inl (64, fun _ => 0))) else if k = 5 then .inr (.inr (.inl (64, fun _ => 0))) else if k = 6 then .inr (.inl (4, 32, fun _ => 0)) else if k = 7 then .inr (.inr (.inl (512, fun _ => 0))) else if k = 8 then .inr (.inr (.inl (512, fun _ => 0))) else if k = 9 then .inr (.inr (.inl (30, fun _ => 0))) else .inr (.inl (4, 24, fun _ => 0))
def NS (u : CS) (n i s : Nat) (f g : Nat → LV) (w : CS) : Prop := w.1.1 = n + i ∧ w.1.2 = u.1.2 + s ∧ wfB w = true ∧ (∀ j, j < n → w.2 j = u.2 j) ∧ w.2 n = .inl (7, f) ∧ (2 ≤ i → w.2 (n + 1) = .inl (4, g)) ∧ ∀ k, 2 ≤ k → k < i → w.2 (n + k) = nrw k
def RN (e : Option (CS × Unit)) (w : CS) (P : CS → Prop) : Prop := ∃ x, e = some (x, ()) ∧ w.1.1 ≤ x.1.1 ∧ w.1.2 ≤ x.1.2 ∧ P x
def fup (f : Nat → LV) (k : Nat) (v : LV) : Nat → LV := fun j => if j = k then v else f j
theorem RN_gw {e : Option (CS × Unit)} {w w2 : CS} {P : CS → Prop} (h : RN e w2 P) (h1 : w.1.1 ≤ w2.1.1) (h2 : w.1.2 ≤ w2.1.2) : RN (gw w e) w P := by
  obtain ⟨x, rfl, a, b, c⟩ := h
  exact ⟨x, if_pos ⟨Nat.le_trans h1 a, Nat.le_trans h2 b⟩, by omega, by omega, c⟩
theorem RN_mo {e : Option (CS × Unit)} {w w2 : CS} {P : CS → Prop} (h : RN e w2 P) (h1 : w.1.1 ≤ w2.1.1) (h2 : w.1.2 ≤ w2.1.2) : RN e w P := by
  obtain ⟨x, e, a, b, c⟩ := h
  exact ⟨x, e, by omega, by omega, c⟩
theorem RN_ck {b : Bool} {e : Option (CS × Unit)} {w : CS} {P : CS → Prop} (hb : b = true) (h : RN e w P) : RN (ck b e) w P := by subst hb; exact h
theorem pF_at {w : CS} {a ci k : Nat} {f : Nat → LV} {v : LV} (h : a < w.1.1) (e : w.2 a = .inl (ci, f)) : pF w a ci k v = some (cup w a (.inl (ci, fup f k v))) := by
  unfold pF oF
  rw [if_pos h, e]
  show (match (if ci = ci then some f else none) with | some f => _ | none => _) = _
  rw [if_pos rfl]
  rfl
theorem okC_nrw {n k : Nat} : okC n (nrw k) = true := by
  unfold nrw
  repeat' (first | rfl | split)
theorem al_F {u w : CS} {n i s k ln : Nat} {f g : Nat → LV} {nw : Option CS} {K : CS → Option (CS × Unit)} {P : CS → Prop} (h : NS u n i s f g w) (hi : 2 ≤ i ∧ i < 11) (e : nw = some (cnew w ln (nrw i))) (q : ∀ w2, NS u n (i + 1) (s + ln) f (fup g k (rfv (n + i))) w2 → RN (K w2) w2 P) :
    RN (ck (List.all [some (n + 1)] (okR w.1.1)) (bo nw (fun w1 => gw w1 (bo (pF w1 (n + 1) 4 k (.inr (.inr (some w.1.1)))) K)))) w P := by
  obtain ⟨a1, a2, a3, a4, a5, a6, a7⟩ := h
  refine RN_ck (all1 (decide_eq_true (by omega))) ?_
  subst e
  show RN (gw (cnew w ln (nrw i)) (bo (pF (cnew w ln (nrw i)) (n + 1) 4 k (.inr (.inr (some w.1.1)))) K)) w P
  have e1 : (cnew w ln (nrw i)).2 (n + 1) = .inl (4, g) := by rw [cnew_ne (by omega)]; exact a6 hi.1
  rw [pF_at (show n + 1 < (cnew w ln (nrw i)).1.1 by show n + 1 < w.1.1 + 1; omega) e1]
  have hN : NS u n (i + 1) (s + ln) f (fup g k (rfv (n + i))) (cup (cnew w ln (nrw i)) (n + 1) (.inl (4, fup g k (.inr (.inr (some w.1.1)))))) := by
    have hw : wfB (cnew w ln (nrw i)) = true := wf_cnew a3 okC_nrw
    refine ⟨by show w.1.1 + 1 = _; omega, by show w.1.2 + ln = _; omega, ?_, fun j hj => ?_, ?_, fun _ => ?_, fun z hz hz2 => ?_⟩
    · refine wf_cup hw (fun hlt => ?_)
      exact okC_upd (okC_of hw hlt e1) (show okV (w.1.1 + 1) (.inr (.inr (some w.1.1))) = true from decide_eq_true (by omega))
    · rw [cup_ne (by omega), cnew_ne (by omega)]; exact a4 j hj
    · rw [cup_ne (by omega), cnew_ne (by omega)]; exact a5
    · rw [cup_eq, a1]; rfl
    · rw [cup_ne (by omega)]
      by_cases e2 : z = i
      · subst e2
        rw [show n + z = w.1.1 by omega, cnew_eq]
      · rw [cnew_ne (by omega)]; exact a7 z hz (by omega)
  obtain ⟨x, ex, b1, b2, b3⟩ := q _ hN
  refine ⟨x, ?_, ?_, ?_, b3⟩
  · show gw (cnew w ln (nrw i)) (K _) = _
    rw [ex]
    exact if_pos ⟨b1, b2⟩
  · exact Nat.le_trans (Nat.le_succ _) b1
  · exact Nat.le_trans (Nat.le_add_right _ _) b2
theorem al_P {u w : CS} {n i s k ln : Nat} {f g : Nat → LV} {nw : Option CS} {K : CS → Option (CS × Unit)} {P : CS → Prop} (h : NS u n i s f g w) (hi : 2 ≤ i ∧ i < 11) (e : nw = some (cnew w ln (nrw i))) (q : ∀ w2, NS u n (i + 1) (s + ln) (fup f k (rfv (n + i))) g w2 → RN (K w2) w2 P) :
    RN (ck (List.all [some n] (okR w.1.1)) (bo nw (fun w1 => gw w1 (bo (pF w1 n 7 k (.inr (.inr (some w.1.1)))) K)))) w P := by
  obtain ⟨a1, a2, a3, a4, a5, a6, a7⟩ := h
  refine RN_ck (all1 (decide_eq_true (by omega))) ?_
  subst e
  show RN (gw (cnew w ln (nrw i)) (bo (pF (cnew w ln (nrw i)) n 7 k (.inr (.inr (some w.1.1)))) K)) w P
  have e1 : (cnew w ln (nrw i)).2 n = .inl (7, f) := by rw [cnew_ne (by omega)]; exact a5
  rw [pF_at (show n < (cnew w ln (nrw i)).1.1 by show n < w.1.1 + 1; omega) e1]
  have hN : NS u n (i + 1) (s + ln) (fup f k (rfv (n + i))) g (cup (cnew w ln (nrw i)) n (.inl (7, fup f k (.inr (.inr (some w.1.1)))))) := by
    have hw : wfB (cnew w ln (nrw i)) = true := wf_cnew a3 okC_nrw
    refine ⟨by show w.1.1 + 1 = _; omega, by show w.1.2 + ln = _; omega, ?_, fun j hj => ?_, ?_, fun _ => ?_, fun z hz hz2 => ?_⟩
    · refine wf_cup hw (fun hlt => ?_)
      exact okC_upd (okC_of hw hlt e1) (show okV (w.1.1 + 1) (.inr (.inr (some w.1.1))) = true from decide_eq_true (by omega))
    · rw [cup_ne (by omega), cnew_ne (by omega)]; exact a4 j hj
    · rw [cup_eq, a1]; rfl
    · rw [cup_ne (by omega), cnew_ne (by omega)]; exact a6 hi.1
    · rw [cup_ne (by omega)]
      by_cases e2 : z = i
      · subst e2
        rw [show n + z = w.1.1 by omega, cnew_eq]
      · rw [cnew_ne (by omega)]; exact a7 z hz (by omega)
  obtain ⟨x, ex, b1, b2, b3⟩ := q _ hN
  refine ⟨x, ?_, ?_, ?_, b3⟩
  · show gw (cnew w ln (nrw i)) (K _) = _
    rw [ex]
    exact if_pos ⟨b1, b2⟩
  · exact Nat.le_trans (Nat.le_succ _) b1
  · exact Nat.le_trans (Nat.le_add_right _ _) b2
theorem pS_P {u w : CS} {n i s k : Nat} {v : LV} {f g : Nat → LV} {K : CS → Option (CS × Unit)} {P : CS → Prop} (h : NS u n i s f g w) (hi : 2 ≤ i) (hv : okV w.1.1 v = true) (q : ∀ w2, w2.1 = w.1 → NS u n i s (fup f k v) g w2 → RN (K w2) w2 P) : RN (bo (pF w n 7 k v) K) w P := by
  obtain ⟨a1, a2, a3, a4, a5, a6, a7⟩ := h
  rw [pF_at (by omega) a5]
  refine q _ rfl ⟨a1, a2, wf_cup a3 (fun hlt => okC_upd (okC_of a3 hlt a5) hv), fun j hj => ?_, cup_eq, fun h2 => ?_, fun z hz hz2 => ?_⟩
  · rw [cup_ne (by omega)]; exact a4 j hj
  · rw [cup_ne (by omega)]; exact a6 h2
  · rw [cup_ne (by omega)]; exact a7 z hz hz2
theorem nw_I {w : CS} {k : Nat} {x : Int32} (h : wfB w = true) (h0 : ¬ x < 0) (h1 : x.toNatClampNeg ≤ 67108864) (e : nrw k = .inr (.inl (4, x.toNatClampNeg, fun _ => 0))) : nwI w 4 x = some (cnew w x.toNatClampNeg (nrw k)) := by rw [nwI_e h h0 h1, e]
theorem nw_J {w : CS} {k : Nat} {x : Int32} (h : wfB w = true) (h0 : ¬ x < 0) (h1 : x.toNatClampNeg ≤ 67108864) (e : nrw k = .inr (.inr (.inl (x.toNatClampNeg, fun _ => 0)))) : nwJ w x = some (cnew w x.toNatClampNeg (nrw k)) := by rw [nwJ_e h h0 h1, e]
theorem Fr_init_r {N : Nat} {u w : CS} {n s : Nat} {f g : Nat → LV} {P : CS → Prop} (h : NS u n 2 s f g w) (q : ∀ w2, NS u n 7 (s + 300 + 64 + 64 + 64 + 32) f (fup (fup (fup (fup (fup g 0 (rfv (n + 2))) 2 (rfv (n + 3))) 3 (rfv (n + 4))) 5 (rfv (n + 5))) 7 (rfv (n + 6))) w2 → P w2) : RN (fm_Fr_init N w (n + 1)) w P := by
  unfold fm_Fr_init fb_Fr_init_0
  refine al_F (ln := 300) h (by omega) (nw_I h.2.2.1 (by decide) (by decide) rfl) (fun w2 h2 => ?_)
  refine al_F (ln := 64) h2 (by omega) (nw_I h2.2.2.1 (by decide) (by decide) rfl) (fun w3 h3 => ?_)
  refine al_F (ln := 64) h3 (by omega) (nw_J h3.2.2.1 (by decide) (by decide) rfl) (fun w4 h4 => ?_)
  refine al_F (ln := 64) h4 (by omega) (nw_J h4.2.2.1 (by decide) (by decide) rfl) (fun w5 h5 => ?_)
  refine al_F (ln := 32) h5 (by omega) (nw_I h5.2.2.1 (by decide) (by decide) rfl) (fun w6 h6 => ?_)
  exact ⟨w6, rfl, Nat.le_refl _, Nat.le_refl _, q w6 h6⟩
def frmN (n : Nat) : Nat → LV := fup (fup (fup (fup (fup (fun j => dfV (t_Fr j)) 0 (rfv (n + 2))) 2 (rfv (n + 3))) 3 (rfv (n + 4))) 5 (rfv (n + 5))) 7 (rfv (n + 6))
def prcN (n : Nat) (x : Int32) : Nat → LV := fup (fup (fup (fup (fup (fup (fun j => dfV (t_Pr j)) 1 (rfv (n + 1))) 2 (rfv (n + 7))) 3 (rfv (n + 8))) 6 (rfv (n + 9))) 14 (rfv (n + 10))) 0 (.inl x)
theorem okC_df {n ci : Nat} {t : Nat → FieldType} : okC n (.inl (ci, fun j => dfV (t j))) = true := by
  unfold okC
  refine List.all_eq_true.mpr (fun j _ => ?_)
  show okV n (dfV (t j)) = true
  unfold dfV
  split <;> rfl
theorem bx_RN {e : Option (CS × Unit)} {K : CS → Unit → Option (CS × Unit)} {w : CS} {P P2 : CS → Prop} (h : RN e w P) (q : ∀ w2, P w2 → RN (K w2 ()) w2 P2) : RN (bx e K) w P2 := by
  obtain ⟨x, rfl, a, b, c⟩ := h
  obtain ⟨y, e, a2, b2, c2⟩ := q x c
  exact ⟨y, e, by omega, by omega, c2⟩
theorem Pr_init_r {N : Nat} {u w : CS} {n : Nat} {x : Int32} {g : Nat → LV} (h : NS u n 1 18 (fun j => dfV (t_Pr j)) g w) : RN (fm_Pr_init N w n x) w (fun w2 => NS u n 11 1630 (prcN n x) (frmN n) w2) := by
  obtain ⟨a1, a2, a3, a4, a5, a6, a7⟩ := h
  unfold fm_Pr_init fb_Pr_init_0
  refine RN_ck (all1 (decide_eq_true (by omega))) ?_
  have e0 : nO w 4 10 t_Fr = some (cnew w 10 (.inl (4, fun j => dfV (t_Fr j)))) := by unfold nO; exact if_pos a3
  rw [e0]
  generalize hw1 : cnew w 10 (.inl (4, fun j => dfV (t_Fr j))) = w1
  have h1 : NS u n 2 28 (fun j => dfV (t_Pr j)) (fun j => dfV (t_Fr j)) w1 := by
    rw [← hw1]
    refine ⟨by show w.1.1 + 1 = _; omega, by show w.1.2 + 10 = _; omega, wf_cnew a3 okC_df, fun j hj => ?_, ?_, fun _ => ?_, fun k _ _ => by omega⟩
    · rw [cnew_ne (by omega)]; exact a4 j hj
    · rw [cnew_ne (by omega)]; exact a5
    · rw [← a1, cnew_eq]
  have hl : w.1.1 ≤ w1.1.1 ∧ w.1.2 ≤ w1.1.2 := by rw [← hw1]; exact ⟨Nat.le_succ _, Nat.le_add_right _ _⟩
  show RN (gw w1 (ck (List.all [some n, some w.1.1] (okR w1.1.1)) (bx (gw w1 (fm_Fr_init N w1 w.1.1)) _))) w _
  rw [a1]
  refine RN_mo (w2 := w1) (RN_gw (w2 := w1) ?_ (Nat.le_refl _) (Nat.le_refl _)) hl.1 hl.2
  refine RN_ck (all2 (decide_eq_true (by have := h1.1; omega)) (decide_eq_true (by have := h1.1; omega))) ?_
  refine bx_RN (P := fun w2 => NS u n 7 (28 + 300 + 64 + 64 + 64 + 32) (fun j => dfV (t_Pr j)) (frmN n) w2) (RN_gw (Fr_init_r h1 (fun w2 h2 => h2)) (Nat.le_refl _) (Nat.le_refl _)) (fun w2 h2 => ?_)
  refine RN_gw (w2 := w2) ?_ (Nat.le_refl _) (Nat.le_refl _)
  refine pS_P h2 (by omega) (decide_eq_true (by have := h2.1; omega)) (fun w3 e3 h3 => ?_)
  refine al_P (ln := 512) h3 (by omega) (nw_J h3.2.2.1 (by decide) (by decide) rfl) (fun w4 h4 => ?_)
  refine al_P (ln := 512) h4 (by omega) (nw_J h4.2.2.1 (by decide) (by decide) rfl) (fun w5 h5 => ?_)
  refine al_P (ln := 30) h5 (by omega) (nw_J h5.2.2.1 (by decide) (by decide) rfl) (fun w6 h6 => ?_)
  refine al_P (ln := 24) h6 (by omega) (nw_I h6.2.2.1 (by decide) (by decide) rfl) (fun w7 h7 => ?_)
  refine pS_P h7 (by omega) rfl (fun w8 e8 h8 => ?_)
  exact ⟨w8, rfl, Nat.le_refl _, Nat.le_refl _, h8⟩
