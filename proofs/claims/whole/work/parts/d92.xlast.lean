/-! what stands last in a body is marked, here -/
set_option maxRecDepth 100000
/-- the nodes L are marked -/
def LSTs (u v : MS) (L : List Nat) : Prop := v.1 = u.1 ∧ v.2.2.2 = u.2.2.2 ∧ (∀ k n, k ≠ 30 → v.2.2.1 k n = u.2.2.1 k n) ∧ ∀ n, v.2.2.1 30 n = if n ∈ L then 1 else u.2.2.1 30 n
section
variable {u v w : MS} {L L1 L2 : List Nat} {N i j f r0 D : Nat} {r : Int} {x : Int32}
theorem LSTs_rf : LSTs u u [] := ⟨rfl, rfl, fun _ _ _ => rfl, fun n => by rw [if_neg (fun z => by cases z)]⟩
theorem LSTs_tr (h : LSTs u v L1) (k : LSTs v w L2) : LSTs u w (L1 ++ L2) := ⟨k.1.trans h.1, k.2.1.trans h.2.1, fun a n z => (k.2.2.1 a n z).trans (h.2.2.1 a n z), fun n => by
  rw [k.2.2.2 n, h.2.2.2 n]
  by_cases z : n ∈ L2
  · rw [if_pos z, if_pos (List.mem_append_right _ z)]
  · rw [if_neg z]
    by_cases y : n ∈ L1
    · rw [if_pos y, if_pos (List.mem_append_left _ y)]
    · rw [if_neg y, if_neg (fun q => (List.mem_append.mp q).elim y z)]⟩
theorem RT_ls (h : LSTs u v L) {L0 : List Nat} (k : RTd u i f true j r L0) : RTd v i f true j r L0 := (RT_fr (w := u) (v := v) f).1 j j r L0 (Nat.le_refl _) (fun n _ _ => ⟨congrArg Int32.toInt (h.2.2.1 23 n (by decide)), congrArg Int32.toInt (h.2.2.1 28 n (by decide)), congrArg Int32.toInt (h.2.2.1 29 n (by decide))⟩) k
theorem last_l (ih : ∀ (f j r0 : Nat) (L : List Nat) (u : MS), j ≤ 24000 → RTd u i f false j ((r0 : Nat) : Int) L → PK (fun v _ => LSTs u v L) (rc_M_last N D u (I (r0 : Nat)))) : ∀ (M f j : Nat) (r : Int) (x : Int32) (L : List Nat) (u : MS), j ≤ 24000 → x.toInt = r → RTd u i f true j r L → PK (fun v _ => LSTs u v L) (gg_M_last N (rc_M_last N D) M u x)
  | 0, _, _, _, _, _, _, _, _, _ => pk_none
  | M + 1, 0, _, _, _, _, _, _, _, h => h.elim
  | M + 1, f + 1, j, r, x, L, u, hj, hx, h => by
    show PK _ (fb_M_last_42 N (rc_M_last N D) (gg_M_last N (rc_M_last N D) M) u x)
    unfold fb_M_last_42
    rcases h with ⟨h1, h2⟩ | ⟨r0, L1, L2, h1, h2, h3, h4⟩
    · subst h2
      have : x = -1 := Int32.toInt_inj.mp (by rw [hx, h1]; rfl)
      rw [this, show decide ((-1 : Int32) = -1) = true from rfl, br_t]
      exact pk_some LSTs_rf
    · subst h4
      subst h1
      have hr0 : r0 < j := by
        cases f with
        | zero => exact h2.elim
        | succ f =>
          obtain ⟨r1, g1, g2, -⟩ := h2
          omega
      have ex : x = I (r0 : Nat) := Int32.toInt_inj.mp (by rw [hx, I_ti (by omega) (by omega)])
      rw [ex, decide_eq_false (nat_ne2 (by omega)), br_f, i_nt2 (p := r0) (by omega)]
      refine pk_bnd (pk_mo (ih f j r0 L1 u hj h2) (fun u1 _ h5 => pk_ck (fun _ => ?_)))
      refine pk_mo (last_l ih M f j (A u 29 r0) _ L2 u1 hj (congrArg Int32.toInt (h5.2.2.1 29 r0 (by decide))) (RT_ls h5 h3)) (fun v _ h6 => LSTs_tr h5 h6)
theorem last_1 : ∀ (D f j r0 : Nat) (L : List Nat) (u : MS), j ≤ 24000 → RTd u i f false j ((r0 : Nat) : Int) L → PK (fun v _ => LSTs u v L) (rc_M_last N D u (I (r0 : Nat)))
  | 0, _, _, _, _, _, _, _ => pk_none
  | D + 1, 0, _, _, _, _, _, h => h.elim
  | D + 1, f + 1, j, r0, L, u, hj, h => by
    obtain ⟨r1, h1, h2, L1, h3, h4⟩ := h
    have : r1 = r0 := by omega
    subst this
    show PK _ (fm_M_last N (rc_M_last N D) u (I (r1 : Nat)))
    unfold fm_M_last fb_M_last_0
    rw [decide_eq_false (nat_ne2 (by omega)), br_f, i_nt2 (p := r1) (by omega)]
    have e35 : ∀ (v : MS), (∀ k n, k ≠ 30 → v.2.2.1 k n = u.2.2.1 k n) → PK (fun w _ => LSTs v w L1) (fb_M_last_35 N (rc_M_last N D) (gg_M_last N (rc_M_last N D) N) v (I (r1 : Nat))) := fun v hv => by
      unfold fb_M_last_35
      rw [i_nt2 (p := r1) (by omega)]
      refine pk_ck (fun _ => ?_)
      refine last_l (last_1 D) N f r1 (A u 28 r1) _ L1 v (by omega) (congrArg Int32.toInt (hv 28 r1 (by decide))) ?_
      exact (RT_fr (w := u) (v := v) f).1 r1 r1 _ L1 (Nat.le_refl _) (fun n _ _ => ⟨congrArg Int32.toInt (hv 23 n (by decide)), congrArg Int32.toInt (hv 28 n (by decide)), congrArg Int32.toInt (hv 29 n (by decide))⟩) h3
    have e28 : (A u 23 r1 = 12 ∨ A u 23 r1 = 13) → PK (fun v _ => LSTs u v L) (fb_M_last_28 N (rc_M_last N D) (gg_M_last N (rc_M_last N D) N) u (I (r1 : Nat))) := fun hk => by
      unfold fb_M_last_28
      rw [i_nt2 (p := r1) (by omega), show vp_nar .boolean 1 = 1 from rfl]
      refine pk_ck (fun _ => pk_ltq ?_)
      rw [if_pos hk] at h4
      subst h4
      have hs : LSTs u (upA u 30 (upd (u.2.2.1 30) r1 1)) [r1] := ⟨rfl, rfl, fun k n hk => by rw [upA_no hk], fun n => by
        rw [upA_at]
        by_cases z : n = r1
        · rw [z, upd_at, if_pos List.mem_cons_self]
        · rw [upd_no z, if_neg (fun y => z (by simpa using y))]⟩
      exact pk_mo (e35 _ (fun k n hk => by rw [upA_no hk])) (fun w _ h => LSTs_tr hs h)
    have s12 : (A u 23 r1 = 12) ↔ u.2.2.1 23 r1 = 12 := ⟨fun z => Int32.toInt_inj.mp (by show A u 23 r1 = _; rw [z]; rfl), fun z => by show (u.2.2.1 23 r1).toInt = _; rw [z]; rfl⟩
    have s13 : (A u 23 r1 = 13) ↔ u.2.2.1 23 r1 = 13 := ⟨fun z => Int32.toInt_inj.mp (by show A u 23 r1 = _; rw [z]; rfl), fun z => by show (u.2.2.1 23 r1).toInt = _; rw [z]; rfl⟩
    refine pk_ck (fun _ => pk_br (fun z => e28 (Or.inl (s12.mpr (of_decide_eq_true z)))) (fun z => pk_ck (fun _ => pk_br (fun y => e28 (Or.inr (s13.mpr (of_decide_eq_true y)))) (fun y => ?_))))
    rw [if_neg (fun q => q.elim (fun a => of_decide_eq_false z (s12.mp a)) (fun a => of_decide_eq_false y (s13.mp a)))] at h4
    subst h4
    exact e35 u (fun _ _ _ => rfl)
theorem last_p (hj : j ≤ 24000) (h : RTd u i f false j ((r0 : Nat) : Int) L) : PK (fun v _ => LSTs u v L) (fr_M_last N u (I (r0 : Nat))) := last_1 60 f j r0 L u hj h
end
