set_option maxRecDepth 100000
theorem q_le {a b : Nat} (ha : a < 2147483648) (hb : b < 2147483648) : (Int32.ofNat a ≤ Int32.ofNat b) ↔ a ≤ b := Int32.ofNat_le_ofNat ha hb
theorem q_lt {a b : Nat} (ha : a < 2147483648) (hb : b < 2147483648) : (Int32.ofNat a < Int32.ofNat b) ↔ a < b := by
  have h := q_le hb ha
  constructor
  · intro h9
    have : ¬ b ≤ a := fun z => absurd (h.mpr z) (Int32.not_le.mpr h9)
    omega
  · intro h9
    exact Int32.not_le.mp (fun z => absurd (h.mp z) (by omega))
theorem q_nat {k : Nat} (h : k < 2147483648) : (Int32.ofNat k).toNatClampNeg = k := Int32.toNatClampNeg_ofNat_of_lt h
theorem q_suc (k : Nat) : Int32.ofNat k + 1 = Int32.ofNat (k + 1) := (Int32.ofNat_add k 1).symm
theorem q_inb {k n : Nat} (h : k < n) (hn : n < 2147483648) : inb (Int32.ofNat k) n = true := by
  unfold inb
  refine decide_eq_true (fun h9 => ?_)
  rcases h9 with h9 | h9
  · exact absurd ((q_lt (a := k) (b := 0) (by omega) (by decide)).mp h9) (by omega)
  · rw [q_nat (by omega)] at h9
    omega
theorem q_bt {α : Type} {x y : α} {b : Bool} (h : b = true) : br b x y = x := by unfold br; rw [if_pos h]
theorem q_bf {α : Type} {x y : α} {b : Bool} (h : b = false) : br b x y = y := by unfold br; rw [h]; rfl
theorem q_bo {α β : Type} {x : α} {f : α → Option β} : bo (some x) f = f x := rfl
theorem q_bx {α β : Type} {x : CS × α} {f : CS → α → Option β} : bx (some x) f = f x.1 x.2 := rfl
theorem q_bn {α β : Type} {x : MS × α} {f : MS → α → Option β} : bnd (some x) f = f x.1 x.2 := rfl
theorem q_ck {α : Type} {x : Option α} {b : Bool} (h : b = true) : ck b x = x := by unfold ck; rw [if_pos h]
theorem q_ls {α β : Type} {x : α} {k : α → Option β} : lt x k = k x := rfl
def byH (v s : Int32) : Int32 := vp_nar .byte ((v >>> (s &&& 31)).toInt8.toInt32)
def apH (u : CS) (v s : Int32) : CS := uF (uA u 5 (upd (AI u 5) (FI u 4 1).toNatClampNeg (byH v s))) 4 1 (.inl (FI u 4 1 + 1))
theorem apH_sk {u : CS} (h : skB u = true) {v s : Int32} : skB (apH u v s) = true := sf_4_1 (sa_5 h)
theorem apH_n {u : CS} (h : skB u = true) {v s : Int32} {k : Nat} (hk : FI u 4 1 = Int32.ofNat k) : FI (apH u v s) 4 1 = Int32.ofNat (k + 1) := by
  unfold apH
  rw [fi_4_1 (sa_5 h), hk, q_suc]
theorem ap_step {u : CS} {N k : Nat} {G : CS → Nat → Int32 → Int32 → Option (CS × Unit)} {v s : Int32} (h : skB u = true) (hs : ¬ s < 0) (hk : FI u 4 1 = Int32.ofNat k) (hk4 : k < 4000) : fb_To_append_3 N G u 4 v s = G (apH u v s) 4 v (s + (-8)) := by
  have e1 : decide (s < 0) = false := decide_eq_false hs
  have e2 : decide (4000 ≤ FI u 4 1) = false := by
    rw [hk]
    exact decide_eq_false (fun z => absurd ((q_le (a := 4000) (b := k) (by decide) (by omega)).mp z) (by omega))
  have e3 : inb (FI u 4 1) 4000 = true := by rw [hk]; exact q_inb hk4 (by decide)
  unfold fb_To_append_3
  rw [q_bf e1, gi_4_1 h, q_bo, q_bf e2, gr_4_0 h, q_bo, q_bo, q_bo, si_5 h, if_pos e3, q_bo, gi_4_1 (sa_5 h), q_bo, pf_4_1 (sa_5 h), q_bo, FI_A]
  rfl
def ap4 (u : CS) (v : Int32) : CS := apH (apH (apH (apH u v 24) v 16) v 8) v 0
theorem ap4_ok {u : CS} {N k : Nat} {v : Int32} (h : skB u = true) (hk : FI u 4 1 = Int32.ofNat k) (hk4 : k + 4 ≤ 4000) : fm_To_append (N + 5) u 4 v = some (ap4 u v, ()) ∧ skB (ap4 u v) = true ∧ FI (ap4 u v) 4 1 = Int32.ofNat (k + 4) := by
  have h1 := apH_sk (v := v) (s := 24) h
  have h2 := apH_sk (v := v) (s := 16) h1
  have h3 := apH_sk (v := v) (s := 8) h2
  have h4 := apH_sk (v := v) (s := 0) h3
  have k1 := apH_n (v := v) (s := 24) h hk
  have k2 := apH_n (v := v) (s := 16) h1 k1
  have k3 := apH_n (v := v) (s := 8) h2 k2
  have k4 := apH_n (v := v) (s := 0) h3 k3
  refine ⟨?_, h4, k4⟩
  show fb_To_append_3 (N + 5) (gg_To_append (N + 5) (N + 4)) u 4 v 24 = _
  rw [ap_step h (by decide) hk (by omega), show (24 : Int32) + (-8) = 16 from by decide]
  show fb_To_append_3 (N + 5) (gg_To_append (N + 5) (N + 3)) _ 4 v 16 = _
  rw [ap_step h1 (by decide) k1 (by omega), show (16 : Int32) + (-8) = 8 from by decide]
  show fb_To_append_3 (N + 5) (gg_To_append (N + 5) (N + 2)) _ 4 v 8 = _
  rw [ap_step h2 (by decide) k2 (by omega), show (8 : Int32) + (-8) = 0 from by decide]
  show fb_To_append_3 (N + 5) (gg_To_append (N + 5) (N + 1)) _ 4 v 0 = _
  rw [ap_step h3 (by decide) k3 (by omega), show (0 : Int32) + (-8) = -8 from by decide]
  show fb_To_append_3 (N + 5) (gg_To_append (N + 5) N) _ 4 v (-8) = _
  unfold fb_To_append_3
  rw [q_bt (by decide)]
  rfl
def fdH (u : CS) (a b c d e : Int32) : CS := ap4 (ap4 (ap4 (ap4 (ap4 u a) b) c) d) e
theorem fdH_ok {u : CS} {N k : Nat} {a b c d e : Int32} (h : skB u = true) (hk : FI u 4 1 = Int32.ofNat k) (hk4 : k + 20 ≤ 4000) : fm_H_feed (N + 5) u 0 a b c d e = some (fdH u a b c d e, Int32.ofNat (k + 20)) ∧ skB (fdH u a b c d e) = true ∧ FI (fdH u a b c d e) 4 1 = Int32.ofNat (k + 20) := by
  obtain ⟨f1, h1, k1⟩ := ap4_ok (N := N) (v := a) h hk (by omega)
  obtain ⟨f2, h2, k2⟩ := ap4_ok (N := N) (v := b) h1 k1 (by omega)
  obtain ⟨f3, h3, k3⟩ := ap4_ok (N := N) (v := c) h2 k2 (by omega)
  obtain ⟨f4, h4, k4⟩ := ap4_ok (N := N) (v := d) h3 k3 (by omega)
  obtain ⟨f5, h5, k5⟩ := ap4_ok (N := N) (v := e) h4 k4 (by omega)
  refine ⟨?_, h5, k5⟩
  have e1 : decide ((FI u 4 1 + 20) ≤ 4000) = true := by
    rw [hk, show (20 : Int32) = Int32.ofNat 20 from rfl, ← Int32.ofNat_add]
    exact decide_eq_true ((q_le (a := k + 20) (b := 4000) (by omega) (by decide)).mpr hk4)
  unfold fm_H_feed fb_H_feed_0
  rw [gr_0_1 h, q_bo, q_bo, gi_4_1 h, q_bo, q_bt e1, q_bo, q_bo, q_ck (io_4 h), f1, q_bx, gr_0_1 h1, q_bo, q_bo, q_ck (io_4 h1), f2, q_bx, gr_0_1 h2, q_bo, q_bo, q_ck (io_4 h2), f3, q_bx, gr_0_1 h3, q_bo, q_bo, q_ck (io_4 h3), f4, q_bx, gr_0_1 h4, q_bo, q_bo, q_ck (io_4 h4), f5, q_bx, gr_0_1 h5, q_bo, q_bo, gi_4_1 h5, q_bo, k5]
  rfl
def byM (v j : Int32) : Int32 := vp_nar .byte (((v.toUInt32 >>> ((24 - (8 * (j - j / 4 * 4))).toUInt32 &&& Int32.toUInt32 31)).toInt32).toInt8.toInt32)
def apM (u : MS) (t j : Int32) : MS := upI (upA u 4 (upd (u.2.2.1 4) (u.1 5).toNatClampNeg (byM t j))) 5 (u.1 5 + 1)
def seM (a b c d e j : Int32) : Int32 := if 4 ≤ j then (if 8 ≤ j then (if 12 ≤ j then (if 16 ≤ j then e else d) else c) else b) else a
theorem apM_n {u : MS} {t j : Int32} {k : Nat} (hk : u.1 5 = Int32.ofNat k) : (apM u t j).1 5 = Int32.ofNat (k + 1) := by
  show u.1 5 + 1 = _
  rw [hk, q_suc]
theorem fm_step {u : MS} {N k : Nat} {G : MS → Int32 → Int32 → Int32 → Int32 → Int32 → Int32 → Option (MS × Int32)} {a b c d e j : Int32} (hj : ¬ 20 ≤ j) (hk : u.1 5 = Int32.ofNat k) (hk4 : k < 4000) : fb_M_feed_23 N G u a b c d e j = G (apM u (seM a b c d e j) j) a b c d e (j + 1) := by
  have e3 : inb (u.1 5) (ln 4) = true := by rw [hk]; exact q_inb hk4 (by decide)
  have h6 : ∀ t, fb_M_feed_76 N G u a b c d e j t = G (apM u t j) a b c d e (j + 1) := fun t => by
    unfold fb_M_feed_76
    rw [q_ck e3]
    rfl
  unfold fb_M_feed_23 seM
  rw [show br (decide (20 ≤ j)) = br false from by rw [decide_eq_false hj]]
  show br _ _ _ = _
  simp only [br, h6, decide_eq_true_eq]
  by_cases h1 : 4 ≤ j
  · by_cases h2 : 8 ≤ j
    · by_cases h3 : 12 ≤ j
      · by_cases h4 : 16 ≤ j <;> simp [h1, h2, h3, h4]
      · simp [h1, h2, h3]
    · simp [h1, h2]
  · simp [h1]
def fdL (a b c d e : Int32) : Nat → MS → MS
  | 0, u => u
  | n + 1, u => fdL a b c d e n (apM u (seM a b c d e (Int32.ofNat (20 - (n + 1)))) (Int32.ofNat (20 - (n + 1))))
theorem fm_loop {N : Nat} {a b c d e : Int32} : ∀ (j : Nat) (u : MS) (k m : Nat), j ≤ 20 → u.1 5 = Int32.ofNat k → k + j ≤ 4000 → gg_M_feed N (m + j + 1) u a b c d e (Int32.ofNat (20 - j)) = some (fdL a b c d e j u, Int32.ofNat (k + j)) ∧ (fdL a b c d e j u).1 5 = Int32.ofNat (k + j) := by
  intro j
  induction j with
  | zero =>
    intro u k m _ hk _
    refine ⟨?_, hk⟩
    show fb_M_feed_23 N _ u a b c d e (Int32.ofNat 20) = _
    unfold fb_M_feed_23
    rw [show br (decide (20 ≤ Int32.ofNat 20)) = br true from by rw [show decide ((20 : Int32) ≤ Int32.ofNat 20) = true from by decide]]
    show some (u, u.1 5) = _
    rw [hk]
    rfl
  | succ j ih =>
    intro u k m hj hk hk4
    have h9 : ¬ (20 : Int32) ≤ Int32.ofNat (20 - (j + 1)) := fun z => absurd ((q_le (a := 20) (b := 20 - (j + 1)) (by decide) (by omega)).mp z) (by omega)
    have e1 : Int32.ofNat (20 - (j + 1)) + 1 = Int32.ofNat (20 - j) := by rw [q_suc]; congr 1; omega
    obtain ⟨i1, i2⟩ := ih (apM u (seM a b c d e (Int32.ofNat (20 - (j + 1)))) (Int32.ofNat (20 - (j + 1)))) (k + 1) m (by omega) (apM_n hk) (by omega)
    rw [show k + 1 + j = k + (j + 1) from by omega] at i1 i2
    refine ⟨?_, i2⟩
    show fb_M_feed_23 N (gg_M_feed N (m + j + 1)) u a b c d e (Int32.ofNat (20 - (j + 1))) = _
    rw [fm_step h9 hk (by omega), e1]
    exact i1
def fdM (u : MS) (a b c d e : Int32) : MS := fdL a b c d e 20 (upI u 3 0)
theorem fdM_ok {u : MS} {N k : Nat} {a b c d e : Int32} (hk : u.1 5 = Int32.ofNat k) (hk4 : k + 20 ≤ 4000) : fm_M_feed (N + 21) u a b c d e = some (fdM u a b c d e, Int32.ofNat (k + 20)) ∧ (fdM u a b c d e).1 5 = Int32.ofNat (k + 20) := by
  have e0 : (upI u 3 0).1 5 = Int32.ofNat k := hk
  have e1 : decide (((upI u 3 0).1 5 + 20) ≤ 4000) = true := by
    rw [e0, show (20 : Int32) = Int32.ofNat 20 from rfl, ← Int32.ofNat_add]
    exact decide_eq_true ((q_le (a := k + 20) (b := 4000) (by omega) (by decide)).mpr hk4)
  obtain ⟨h1, h2⟩ := fm_loop (N := N + 21) (a := a) (b := b) (c := c) (d := d) (e := e) 20 (upI u 3 0) k N (Nat.le_refl _) e0 hk4
  refine ⟨?_, h2⟩
  unfold fm_M_feed fb_M_feed_0
  rw [q_ls]
  show br _ _ _ = _
  rw [show br (decide (((upI u 3 0).1 5 + 20) ≤ 4000)) = br true from by rw [e1]]
  exact h1
