section
variable {h : Nat → Int64} {n p N U C sc opM bnM bxM : Nat} {ow kd ow2 kd2 ks : Nat → Nat} {Fv : Int64 → Int64 → Prop} {P : Int64 → Prop} {u w : MS}
theorem wj_ne {w : MS} {K K2 i : Nat} {x : Int64} (hK : K2 ≠ K) : (wj w K i x).2.2.2 K2 = w.2.2.2 K2 := funext (fun j => by rw [J_wj, if_neg hK])
theorem GC_wj {K i : Nat} {x : Int64} (c : GC h n ow kd w U C sc ow2 kd2 ks) (h1 : 134 ≠ K) (h2 : 137 ≠ K) : GC h n ow kd (wj w K i x) U C sc ow2 kd2 ks := by
  obtain ⟨c1, c5, c6, c7, c8, c9, c11, c12⟩ := c
  exact ⟨c1, c5, c6, c7, fun i hi => by rw [wj_ne h2]; exact c8 i hi, c9, c11, fun k hk hm j hj => by rw [wj_ne h1]; exact c12 k hk hm j hj⟩
theorem GC_wl {x : Int64} {K : Nat} (c : GC h n ow kd w U C sc ow2 kd2 ks) : GC h n ow kd (wl w K x) U C sc ow2 kd2 ks := c
theorem cl4 (cx : CX u p h n ow kd Fv P opM bnM bxM) (hN : 600 ≤ N) : ∀ (m : Nat) (w : MS) (U C x : Nat) (ow2 kd2 ks : Nat → Nat), IV u p h n ow kd U C 0 ow2 kd2 ks opM bnM x w → w.2.1 139 = u.2.1 139 → x ≤ bxM → (30 - x) + 2200 < m → OK (fun w2 _ => CLR u p h n ow kd Fv P opM bnM bxM w2) ((gg_M_clear N m).2.2.2.1 w (I p) (I x)) := by
  have cx' := cx
  obtain ⟨x1, x2, x3, x4, x5, x6, x7, x8, x9, x10, x11⟩ := cx
  intro m
  induction m with
  | zero => intro w U C x _ _ _ _ _ _ z; exact absurd z (Nat.not_lt_zero _)
  | succ m ih =>
    intro w U C x ow2 kd2 ks iv eh hx hm
    have ehp := IV_hp iv x1
    have iv' := iv
    obtain ⟨v1, v2, v3, v4, v5, v6⟩ := iv
    show OK _ (fb_M_clear_138 N (gg_M_clear N m) w (I p) (I x))
    unfold fb_M_clear_138
    rw [inb_at (k := 108) (n := 24) rfl (by omega) (by omega) (by decide), ck_t, I_tn (by omega) (by omega), Int.toNat_natCast, I_A' (show A w 108 p = bxM from by rw [FR.A v1 (by decide)]; exact x7.1), decI (by omega) (by omega) (by omega) (by omega)]
    by_cases e : bxM ≤ x
    · have ex : x = bxM := by omega
      subst ex
      have h140 : F w 140 = F u 140 := FR.F v1 (by decide)
      have hr := F_r u 140
      rw [decide_eq_true (by omega), br_tq, I_F' h140, decE hr.1 hr.2 (by omega) (by omega)]
      by_cases e2 : F u 140 = p
      · rw [decide_eq_true e2, br_tq, eh]
        refine ok_bnd.mpr (ok_mono (carried_ok (N := N) x2 x3 (show p < 25 by omega) ehp (x11 e2) v2 hN) (fun w2 r hq => ?_))
        obtain ⟨q1, q2, q3, q4, q5, U2, C2, ow3, kd3, ks2, k1, k2, k3, k4, gc⟩ := hq
        rw [lt_e, wl_e]
        unfold fb_M_clear_202
        rw [lit0q]
        have iv2 := IV_st (w2 := wl w2 139 r) iv' cx' (Nat.le_refl _) (Nat.le_refl _) (Nat.le_refl _) (FR.wl (FR.mo q1 (fun _ z => z) (fun _ z => by cases z) (fun _ z => z) (fun _ z => z)) (by decide)) q2 (GC_wl gc) k3
        exact (cl56 cx' hN m).1 (wl w2 139 r) U2 C2 0 0 ow3 kd3 ks2 iv2 ⟨fun _ => by rw [L_wl, if_pos rfl]; exact ⟨q3, q4⟩, fun z => absurd e2 z⟩ (Nat.zero_le _) (fun z => by have := gc.2.2.2.2.2.1.2 z; exact this) (fun z => by have := gc.2.2.2.2.2.1.1 z.symm; omega) (by omega)
      · rw [decide_eq_false e2, br_fq]
        unfold fb_M_clear_202
        rw [lit0q]
        exact (cl56 cx' hN m).1 w U C 0 0 ow2 kd2 ks iv' ⟨fun z => absurd z e2, fun _ => eh⟩ (Nat.zero_le _) (fun z => by have := v2.2.2.2.2.2.1.2 z; exact this) (fun z => by have := v2.2.2.2.2.2.1.1 z.symm; omega) (by omega)
    · have e30 : (30 : Int32) = I 30 := rfl
      rw [decide_eq_false (by omega), br_fq, e30, I_mul, I_add, inb_at (k := 107) (n := 720) rfl (by omega) (by omega) (by decide), ck_t, I_tn (by omega) (by omega), show ((p : Int) * 30 + (x : Int)).toNat = 30 * p + x from by omega, ((v6 (30 * p + x)).2 (by omega))]
      refine ok_bnd.mpr (ok_mono (carried_ok (N := N) x2 x3 (show p < 25 by omega) ehp (x10 x (by omega)) v2 hN) (fun w2 r hq => ?_))
      obtain ⟨q1, q2, q3, q4, q5, U2, C2, ow3, kd3, ks2, k1, k2, k3, k4, gc⟩ := hq
      rw [ck_t, lt_e, wj_e, lit1q, I_add]
      have iv2 := IV_st (w2 := w2) iv' cx' (Nat.le_refl _) (Nat.le_refl _) hx (FR.mo q1 (fun _ z => z) (fun _ z => by cases z) (fun _ z => z) (fun _ z => z)) q2 gc k3
      obtain ⟨t1, t2, t3, t4, t5, t6⟩ := iv2
      refine ih (wj w2 107 (30 * p + x) r) U2 C2 (x + 1) ow3 kd3 ks2 ⟨FR.wj t1 (by decide), GC_wj gc (by decide) (by decide), k3, RM_st t4 x3 x8 (fun _ _ _ => rfl) (wj_ne (by decide)), RM_st t5 x3 x9 (fun _ _ _ => rfl) (wj_ne (by decide)), RM_step t6 ⟨q3, q4⟩⟩ (by show w2.2.1 139 = _; rw [q1.2.1 139 (by decide)]; exact eh) (by omega) (by omega)
theorem cl3 (cx : CX u p h n ow kd Fv P opM bnM bxM) (hN : 600 ≤ N) : ∀ (m : Nat) (w : MS) (U C x : Nat) (ow2 kd2 ks : Nat → Nat), IV u p h n ow kd U C 0 ow2 kd2 ks opM x 0 w → w.2.1 139 = u.2.1 139 → x ≤ bnM → (2500 - x) + 2300 < m → OK (fun w2 _ => CLR u p h n ow kd Fv P opM bnM bxM w2) ((gg_M_clear N m).2.2.1 w (I p) (I x)) := by
  have cx' := cx
  obtain ⟨x1, x2, x3, x4, x5, x6, x7, x8, x9, x10, x11⟩ := cx
  intro m
  induction m with
  | zero => intro w U C x _ _ _ _ _ _ z; exact absurd z (Nat.not_lt_zero _)
  | succ m ih =>
    intro w U C x ow2 kd2 ks iv eh hx hm
    have ehp := IV_hp iv x1
    have iv' := iv
    obtain ⟨v1, v2, v3, v4, v5, v6⟩ := iv
    show OK _ (fb_M_clear_91 N (gg_M_clear N m) w (I p) (I x))
    unfold fb_M_clear_91
    rw [inb_at (k := 94) (n := 24) rfl (by omega) (by omega) (by decide), ck_t, I_tn (by omega) (by omega), Int.toNat_natCast, I_A' (show A w 94 p = bnM from by rw [FR.A v1 (by decide)]; exact x6.1), decI (by omega) (by omega) (by omega) (by omega)]
    by_cases e : bnM ≤ x
    · have ex : x = bnM := by omega
      subst ex
      rw [decide_eq_true (by omega), br_tq, lit0q]
      exact cl4 cx' hN m w U C 0 ow2 kd2 ks iv' eh (Nat.zero_le _) (by omega)
    · have eS : (2500 : Int32) = I 2500 := rfl
      rw [decide_eq_false (by omega), br_fq, eS, I_mul, I_add, inb_at (k := 93) (n := 60000) rfl (by omega) (by omega) (by decide), ck_t, I_tn (by omega) (by omega), show ((p : Int) * 2500 + (x : Int)).toNat = 2500 * p + x from by omega, ((v5 (2500 * p + x)).2 (by omega))]
      refine ok_bnd.mpr (ok_mono (carried_ok (N := N) x2 x3 (show p < 25 by omega) ehp (x9 x (by omega)) v2 hN) (fun w2 r hq => ?_))
      obtain ⟨q1, q2, q3, q4, q5, U2, C2, ow3, kd3, ks2, k1, k2, k3, k4, gc⟩ := hq
      rw [ck_t, lt_e, wj_e, lit1q, I_add]
      have iv2 := IV_st (w2 := w2) iv' cx' (Nat.le_refl _) hx (Nat.zero_le _) (FR.mo q1 (fun _ z => z) (fun _ z => by cases z) (fun _ z => z) (fun _ z => z)) q2 gc k3
      obtain ⟨t1, t2, t3, t4, t5, t6⟩ := iv2
      refine ih (wj w2 93 (2500 * p + x) r) U2 C2 (x + 1) ow3 kd3 ks2 ⟨FR.wj t1 (by decide), GC_wj gc (by decide) (by decide), k3, RM_st t4 x3 x8 (fun _ _ _ => rfl) (wj_ne (by decide)), RM_step t5 ⟨q3, q4⟩, RM_st (n := n) (ow := ow) (kd := kd) (P := P) t6 x3 (fun i hi => by omega) (fun _ _ _ => rfl) (wj_ne (by decide))⟩ (by show w2.2.1 139 = _; rw [q1.2.1 139 (by decide)]; exact eh) (by omega) (by omega)
theorem cl2 (cx : CX u p h n ow kd Fv P opM bnM bxM) (hN : 600 ≤ N) : ∀ (m : Nat) (w : MS) (U C x : Nat) (ow2 kd2 ks : Nat → Nat), IV u p h n ow kd U C 0 ow2 kd2 ks x 0 0 w → w.2.1 139 = u.2.1 139 → x ≤ opM → (46000 - x) + 4900 < m → OK (fun w2 _ => CLR u p h n ow kd Fv P opM bnM bxM w2) ((gg_M_clear N m).2.1 w (I p) (I x)) := by
  have cx' := cx
  obtain ⟨x1, x2, x3, x4, x5, x6, x7, x8, x9, x10, x11⟩ := cx
  intro m
  induction m with
  | zero => intro w U C x _ _ _ _ _ _ z; exact absurd z (Nat.not_lt_zero _)
  | succ m ih =>
    intro w U C x ow2 kd2 ks iv eh hx hm
    have ehp := IV_hp iv x1
    have iv' := iv
    obtain ⟨v1, v2, v3, v4, v5, v6⟩ := iv
    show OK _ (fb_M_clear_44 N (gg_M_clear N m) w (I p) (I x))
    unfold fb_M_clear_44
    rw [inb_at (k := 92) (n := 24) rfl (by omega) (by omega) (by decide), ck_t, I_tn (by omega) (by omega), Int.toNat_natCast, I_A' (show A w 92 p = opM from by rw [FR.A v1 (by decide)]; exact x5.1), decI (by omega) (by omega) (by omega) (by omega)]
    by_cases e : opM ≤ x
    · have ex : x = opM := by omega
      subst ex
      rw [decide_eq_true (by omega), br_tq, lit0q]
      exact cl3 cx' hN m w U C 0 ow2 kd2 ks iv' eh (Nat.zero_le _) (by omega)
    · have eS : (46000 : Int32) = I 46000 := rfl
      rw [decide_eq_false (by omega), br_fq, eS, I_mul, I_add, inb_at (k := 91) (n := 1104000) rfl (by omega) (by omega) (by decide), ck_t, I_tn (by omega) (by omega), show ((p : Int) * 46000 + (x : Int)).toNat = 46000 * p + x from by omega, ((v4 (46000 * p + x)).2 (by omega))]
      refine ok_bnd.mpr (ok_mono (carried_ok (N := N) x2 x3 (show p < 25 by omega) ehp (x8 x (by omega)) v2 hN) (fun w2 r hq => ?_))
      obtain ⟨q1, q2, q3, q4, q5, U2, C2, ow3, kd3, ks2, k1, k2, k3, k4, gc⟩ := hq
      rw [ck_t, lt_e, wj_e, lit1q, I_add]
      have iv2 := IV_st (w2 := w2) iv' cx' hx (Nat.zero_le _) (Nat.zero_le _) (FR.mo q1 (fun _ z => z) (fun _ z => by cases z) (fun _ z => z) (fun _ z => z)) q2 gc k3
      obtain ⟨t1, t2, t3, t4, t5, t6⟩ := iv2
      refine ih (wj w2 91 (46000 * p + x) r) U2 C2 (x + 1) ow3 kd3 ks2 ⟨FR.wj t1 (by decide), GC_wj gc (by decide) (by decide), k3, RM_step t4 ⟨q3, q4⟩, RM_st (n := n) (ow := ow) (kd := kd) (P := P) t5 x3 (fun i hi => by omega) (fun _ _ _ => rfl) (wj_ne (by decide)), RM_st (n := n) (ow := ow) (kd := kd) (P := P) t6 x3 (fun i hi => by omega) (fun _ _ _ => rfl) (wj_ne (by decide))⟩ (by show w2.2.1 139 = _; rw [q1.2.1 139 (by decide)]; exact eh) (by omega) (by omega)
theorem RM_0 {K b : Nat} (e : w.2.2.2 K = u.2.2.2 K) : RM u w K b 0 := fun i => ⟨fun z => by omega, fun _ => by rw [e]⟩
theorem cl1 (cx : CX u p h n ow kd Fv P opM bnM bxM) (hN : 600 ≤ N) : ∀ (m x : Nat) (w : MS), FR [136, 138] [] [90, 135] [] u w → F w 136 = 0 → F w 138 = 0 → (∀ k, k < x → A w 135 k = -1) → x ≤ 500 → (500 - x) + 51000 < m → OK (fun w2 _ => CLR u p h n ow kd Fv P opM bnM bxM w2) ((gg_M_clear N m).1 w (I p) (I x)) := by
  intro m
  induction m with
  | zero => intro x w _ _ _ _ _ z; exact absurd z (Nat.not_lt_zero _)
  | succ m ih =>
    intro x w f1 f2 f3 f4 hx hm
    show OK _ (fb_M_clear_22 N (gg_M_clear N m) w (I p) (I x))
    unfold fb_M_clear_22
    rw [lit500, decI (by omega) (by omega) (by omega) (by omega)]
    by_cases e : 500 ≤ x
    · rw [decide_eq_true (by omega), br_tq, lit0q]
      have gc : GC h n ow kd w 0 0 0 (fun _ => 0) (fun _ => 0) (fun _ => 0) := by
        refine ⟨⟨f2, f3, Nat.le_refl _, Nat.le_refl _⟩, fun k hk => Or.inl (f4 k (by omega)), fun k hk z => absurd (f4 k (by omega)) z, Nat.zero_le _, fun i hi => absurd hi (Nat.not_lt_zero _), ⟨fun _ => rfl, fun z => absurd z (Nat.not_lt_zero _)⟩, fun k hk z => absurd (f4 k (by omega)) z, fun k hk z => absurd (f4 k (by omega)) z⟩
      refine cl2 cx hN m w 0 0 0 _ _ _ ⟨FR.mo f1 (fun _ z => z) (fun _ z => by cases z) (fun _ z => z) (fun _ z => by cases z), gc, by omega, RM_0 (f1.2.2.2 91 (by decide)), RM_0 (f1.2.2.2 93 (by decide)), RM_0 (f1.2.2.2 107 (by decide))⟩ (f1.2.1 139 (by decide)) (Nat.zero_le _) (by omega)
    · rw [decide_eq_false (by omega), br_fq, inb_at (k := 135) (n := 500) rfl (by omega) (by omega) (by decide), ck_t, lt_e, I_tn (by omega) (by omega), Int.toNat_natCast, litm1q, wa_e, lit1q, I_add]
      refine ih (x + 1) (wa w 135 x (-1)) (FR.wa f1 (by decide)) f2 f3 (fun k hk => ?_) (by omega) (by omega)
      rw [A_wa (by omega) (by omega), if_pos rfl]
      by_cases e2 : k = x
      · rw [if_pos e2]
      · rw [if_neg e2]; exact f4 k (by omega)
theorem clear_ok (cx : CX u p h n ow kd Fv P opM bnM bxM) (hN : 60000 ≤ N) : OK (fun w2 _ => CLR u p h n ow kd Fv P opM bnM bxM w2) (fm_M_clear N u (I p)) := by
  have x4 := cx.2.2.2.1
  unfold fm_M_clear fb_M_clear_0
  rw [inb_at (k := 90) (n := 24) rfl (by omega) (by omega) (by decide), ck_t, ck_t, lt_e, I_tn (by omega) (by omega), Int.toNat_natCast, I_A, lit1q, I_add, wa_e, lt_e, lit0q, wi_e, lt_e, wi_e]
  exact cl1 cx (by omega) N 0 _ (FR.wi (FR.wi (FR.wa FR.rf (by decide)) (by decide)) (by decide)) (by rw [F_wi (by omega) (by omega), if_neg (by decide), F_wi (by omega) (by omega), if_pos rfl]) (by rw [F_wi (by omega) (by omega), if_pos rfl]) (fun k hk => absurd hk (Nat.not_lt_zero _)) (by omega) (by omega)
end
