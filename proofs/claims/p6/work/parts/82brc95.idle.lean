set_option maxRecDepth 100000
def IDc (u : CS) (k : Nat) : Prop := skB u = true ∧ FI u 0 9 = 0 ∧ FI u 0 10 = 0 ∧ FI u 47 2 = 0 ∧ FI u 47 3 = 0 ∧ FI u 47 4 = 0 ∧ FI u 47 5 = 0 ∧ FI u 47 6 = 0 ∧ FI u 47 13 = 0 ∧ FI u 4 1 = Int32.ofNat k
def IDm (u : MS) (k : Nat) : Prop := u.1 86 = 0 ∧ u.1 87 = 0 ∧ u.1 130 = 0 ∧ u.1 5 = Int32.ofNat k
theorem IDm.th {u : MS} {k : Nat} (h : IDm u k) (v : Int32) : IDm (upI u 3 v) k := h
theorem thM {N : Nat} {u : MS} : fm_M_thrown N u = some (u, u.1 3) := rfl
section IDL
variable {N k : Nat} {u : CS} {w : MS} {a b c d e : Int32}
theorem idFind (h : IDc u k) : fm_Wl_find N u 47 a = some (u, none) := by
  obtain ⟨hs, -, -, h2, -⟩ := h
  unfold fm_Wl_find fb_Wl_find_0
  rw [gi_47_2 hs, q_bo, h2]
  by_cases ha : a < 0 <;> simp [br, ha] <;> rfl
theorem idIsP (h : IDm w k) : fm_M_isProcess N w a = some (w, 0) := by
  unfold fm_M_isProcess fb_M_isProcess_0
  rw [h.2.1]
  rfl
theorem i3c (h : IDc u k) : fm_H_count N u 0 a = some (u, if a = 3 then Int32.ofNat k else if a = 0 ∨ a = 1 ∨ a = 2 ∨ a = 4 ∨ a = 5 ∨ a = 6 ∨ a = 7 ∨ a = 8 then 0 else -1) := by
  obtain ⟨hs, h9, h10, h2, h3, h4, h5, h6, h13, hk⟩ := h
  unfold fm_H_count fb_H_count_0
  simp only [gi_0_10 hs, gr_0_1 hs, gr_0_6 hs, q_bo, h10, gi_4_1 hs, gi_47_2 hs, gi_47_13 hs, gi_47_6 hs, gi_47_4 hs, gi_47_5 hs, hk, h2, h13, h6, h4, h5]
  simp only [br, fb_H_count_70, fb_H_count_89, fb_H_count_108, decide_eq_true_eq, if_true]
  by_cases e0 : a = 0
  · subst e0; rfl
  by_cases e1 : a = 1
  · subst e1; rfl
  by_cases e2 : a = 2
  · subst e2; rfl
  by_cases e3 : a = 3
  · subst e3; rfl
  by_cases e4 : a = 4
  · subst e4; rfl
  by_cases e5 : a = 5
  · subst e5; rfl
  by_cases e6 : a = 6
  · subst e6; rfl
  by_cases e7 : a = 7
  · subst e7; rfl
  by_cases e8 : a = 8
  · subst e8; rfl
  simp [e0, e1, e2, e3, e4, e5, e6, e7, e8]
theorem i3m (h : IDm w k) : fm_M_count N w a = some (upI w 3 0, if a = 3 then Int32.ofNat k else if a = 0 ∨ a = 1 ∨ a = 2 ∨ a = 4 ∨ a = 5 ∨ a = 6 ∨ a = 7 ∨ a = 8 then 0 else -1) := by
  obtain ⟨h86, h87, h130, hk⟩ := h
  unfold fm_M_count fb_M_count_0
  rw [q_ls]
  have e86 : (upI w 3 0).1 86 = 0 := h86
  have e87 : (upI w 3 0).1 87 = 0 := h87
  have e5 : (upI w 3 0).1 5 = Int32.ofNat k := hk
  rw [e86, e87, e5]
  simp only [br, fb_M_count_71, fb_M_count_87, fb_M_count_103, fb_M_count_124, fb_M_count_140, fb_M_count_156, fb_M_count_172, fb_M_count_188, decide_eq_true_eq, if_true]
  by_cases e0 : a = 0
  · subst e0; rfl
  by_cases e1 : a = 1
  · subst e1; rfl
  by_cases e2 : a = 2
  · subst e2; rfl
  by_cases e3 : a = 3
  · subst e3; rfl
  by_cases e4 : a = 4
  · subst e4; rfl
  by_cases e5 : a = 5
  · subst e5; rfl
  by_cases e6 : a = 6
  · subst e6; rfl
  by_cases e7 : a = 7
  · subst e7; rfl
  by_cases e8 : a = 8
  · subst e8; rfl
  simp [e0, e1, e2, e3, e4, e5, e6, e7, e8]
theorem i4c (h : IDc u k) : fm_H_function N u 0 a b = some (u, -1) := by
  obtain ⟨hs, -, h10, -⟩ := h
  have e1 : fm_H_isFunction N u 0 a = some (u, 0) := by
    unfold fm_H_isFunction fb_H_isFunction_0
    rw [gi_0_10 hs, q_bo, h10]
    rfl
  unfold fm_H_function fb_H_function_0
  rw [q_ck (io_0 hs), e1, q_bx]
  rfl
theorem i4m (h : IDm w k) : fm_M_function1 N w a b = some (upI w 3 0, -1) := by
  have e86 : (upI w 3 0).1 86 = 0 := h.1
  unfold fm_M_function1 fb_M_function1_0
  rw [q_ls, e86]
  rfl
theorem i5c (h : IDc u k) : fm_H_letter N u 0 a b = some (u, -1) := by
  obtain ⟨hs, -, h10, -⟩ := h
  unfold fm_H_letter fb_H_letter_0
  rw [gi_0_10 hs, q_bo, h10]
  rfl
theorem i5m (h : IDm w k) : fm_M_letter N w a b = some (upI w 3 0, -1) := by
  have e86 : (upI w 3 0).1 86 = 0 := h.1
  unfold fm_M_letter fb_M_letter_0
  rw [q_ls, e86]
  rfl
theorem i6c (h : IDc u k) : fm_H_begin N u 0 a = some (u, .inr 0) := by
  obtain ⟨hs, -, h10, -⟩ := h
  unfold fm_H_begin fb_H_begin_0
  rw [gi_0_10 hs, q_bo, h10]
  rfl
theorem i6m (h : IDm w k) : fm_M_begin N w a = some (upI w 3 1, ()) := by
  unfold fm_M_begin fb_M_begin_0
  rw [h.1]
  rfl
theorem i7c (h : IDc u k) : fm_H_go N u 0 a b = some (u, .inr (if b < 0 ∨ ¬ b ≤ 500 then 2 else 1)) := by
  have hf := idFind (N := N) (a := a) h
  obtain ⟨hs, -⟩ := h
  unfold fm_H_go fb_H_go_0
  rw [gr_0_6 hs, q_bo, q_bo, q_ck (io_47 hs), hf]
  by_cases h1 : b < 0
  · simp [br, h1, fb_H_go_11]
  by_cases h2 : b ≤ 500
  · simp [br, h1, h2, gz, bx, gw]
  · simp [br, h1, h2, fb_H_go_11]
theorem i7m (h : IDm w k) : fm_M_go N w a b = some (upI w 3 (if b < 0 ∨ ¬ b ≤ 500 then 1 else 2), 0) := by
  have hf := idIsP (N := N) (a := a) h
  unfold fm_M_go fb_M_go_0
  rw [hf, q_bn]
  by_cases h1 : b < 0
  · simp only [h1, true_or, if_true, decide_true]
    rfl
  by_cases h2 : b ≤ 500
  · simp only [h1, h2, decide_true, decide_false, not_true_eq_false, or_self, if_false]
    rfl
  · simp only [h1, h2, decide_false, not_false_eq_true, or_true, if_true]
    rfl
theorem i8c (h : IDc u k) : fm_H_clock N u 0 a = some (u, .inr (if a < 0 ∨ 1000000000 < a then 2 else 0)) := by
  obtain ⟨hs, h9, h10, h2, h3, h4, -⟩ := h
  unfold fm_H_clock fb_H_clock_0
  rw [gr_0_6 hs, q_bo, q_bo, q_bo, q_bo, gi_47_4 hs, q_bo, h4, gi_47_3 hs, q_bo, h3]
  by_cases h1 : a < 0
  · simp [br, h1, fb_H_clock_24]
  by_cases h5 : 1000000000 < a
  · simp [br, h1, h5, fb_H_clock_24]
  · have h6 : a ≤ 1000000000 - 0 := Int32.not_lt.mp h5
    simp only [br, h1, h5, h6, decide_true, decide_false, if_true, or_self, if_false]
    rfl
theorem i8m (h : IDm w k) : fm_M_clock N w a = some (upI w 3 (if a < 0 ∨ 1000000000 < a then 1 else 2), 0) := by
  unfold fm_M_clock fb_M_clock_0
  by_cases h1 : a < 0
  · simp only [h1, true_or, if_true, decide_true]
    rfl
  by_cases h5 : 1000000000 < a
  · simp only [h1, h5, or_true, if_true, decide_true, decide_false]
    rfl
  · simp only [h1, h5, or_self, if_false, decide_false]
    rw [h.2.1]
    show fb_M_clock_38 N () w a = _
    unfold fb_M_clock_38
    rw [h.2.1]
    rfl
theorem i9c (h : IDc u k) : fm_H_send N u 0 a b c = some (u, .inr 1) := by
  have hf := idFind (N := N) (a := a) h
  obtain ⟨hs, -⟩ := h
  unfold fm_H_send fb_H_send_0
  rw [gr_0_6 hs, q_bo, q_bo, q_ck (io_47 hs), hf, q_bx]
  rfl
theorem i9m (h : IDm w k) : fm_M_send N w a b c = some (upI w 3 1, ()) := by
  have hf := idIsP (N := N) (a := a) h
  unfold fm_M_send fb_M_send_0
  rw [hf, q_bn]
  rfl
theorem i10c (h : IDc u k) : fm_H_process N u 0 a b = some (u, -1) := by
  have hf := idFind (N := N) (a := a) h
  obtain ⟨hs, -⟩ := h
  unfold fm_H_process fb_H_process_0
  rw [gr_0_6 hs, q_bo, q_bo, q_ck (io_47 hs), hf, q_bx]
  rfl
theorem i10m (h : IDm w k) : fm_M_process N w a b = some (upI w 3 0, -1) := by
  have hf := idIsP (N := N) (a := a) (h.th 0)
  unfold fm_M_process fb_M_process_0
  rw [q_ls, hf, q_bn]
  rfl
theorem i11c (h : IDc u k) : fm_H_frame N u 0 a b c = some (u, -1) := by
  have hf := idFind (N := N) (a := a) h
  obtain ⟨hs, -⟩ := h
  unfold fm_H_frame fb_H_frame_0
  rw [gr_0_6 hs, q_bo, q_bo, q_ck (io_47 hs), hf, q_bx]
  rfl
theorem i11m (h : IDm w k) : fm_M_frame1 N w a b c = some (upI w 3 0, -1) := by
  have hf := idIsP (N := N) (a := a) (h.th 0)
  unfold fm_M_frame1 fb_M_frame1_0
  rw [q_ls, hf, q_bn]
  rfl
theorem i12c (h : IDc u k) : fm_H_link N u 0 a b = some (u, -1) := by
  have hf := idFind (N := N) (a := a) h
  obtain ⟨hs, -⟩ := h
  unfold fm_H_link fb_H_link_0
  rw [gr_0_6 hs, q_bo, q_bo, q_ck (io_47 hs), hf, q_bx]
  rfl
theorem i12m (h : IDm w k) : fm_M_link N w a b = some (upI w 3 0, -1) := by
  have hf := idIsP (N := N) (a := a) (h.th 0)
  unfold fm_M_link fb_M_link_0
  rw [q_ls, hf, q_bn]
  rfl
theorem i13c (h : IDc u k) : fm_H_show N u 0 a b c = some (u, -1) := by
  have hf := idFind (N := N) (a := a) h
  obtain ⟨hs, -⟩ := h
  unfold fm_H_show fb_H_show_0
  rw [gr_0_6 hs, q_bo, q_bo, q_ck (io_47 hs), hf, q_bx]
  rfl
theorem i13m (h : IDm w k) : fm_M_show N w a b c = some (upI w 3 0, -1) := by
  have hf := idIsP (N := N) (a := a) (h.th 0)
  unfold fm_M_show fb_M_show_0
  rw [q_ls, hf, q_bn]
  rfl
theorem i14c (h : IDc u k) : fm_H_shown N u 0 a = some (u, -1) := by
  obtain ⟨hs, h9, -⟩ := h
  unfold fm_H_shown fb_H_shown_0
  rw [gi_0_9 hs, q_bo, h9]
  by_cases h1 : a < 0 <;> simp only [h1, decide_true, decide_false] <;> rfl
theorem i14m (h : IDm w k) : fm_M_shown N w a = some (upI w 3 0, -1) := by
  have e1 : (upI w 3 0).1 130 = 0 := h.2.2.1
  unfold fm_M_shown fb_M_shown_0
  rw [q_ls, e1]
  by_cases h1 : a < 0 <;> simp only [h1, decide_true, decide_false] <;> rfl
theorem i15c (h : IDc u k) : fm_H_printed N u 0 a b = some (u, -1) := by
  obtain ⟨hs, h9, h10, h2, h3, h4, h5, h6, h13, hk⟩ := h
  unfold fm_H_printed fb_H_printed_0
  rw [gr_0_6 hs, q_bo, q_bo, gi_47_13 hs, q_bo, h13]
  by_cases h1 : a < 0
  · simp only [h1, decide_true]
    rfl
  · have h7 : (0 : Int32) ≤ a := Int32.not_lt.mp h1
    simp only [h1, h7, decide_true, decide_false]
    rfl
theorem i15m (h : IDm w k) : fm_M_printed N w a b = some (upI w 3 0, -1) := by
  have e1 : (upI w 3 0).1 87 = 0 := h.2.1
  unfold fm_M_printed fb_M_printed_0
  rw [q_ls, e1]
  rfl
end IDL
theorem q_pos {a : Int32} (h : ¬ a < 0) : ∃ m : Nat, m < 2147483648 ∧ a = Int32.ofNat m := by
  have h0 : (0 : Int32) ≤ a := Int32.not_lt.mp h
  have h1 : 0 ≤ a.toInt := by
    have := Int32.le_iff_toInt_le.mp h0
    simpa using this
  refine ⟨a.toInt.toNat, ?_, ?_⟩
  · have := Int32.toInt_lt a
    omega
  · apply Int32.toInt_inj.mp
    rw [Int32.toInt_ofNat_of_lt]
    · omega
    · have := Int32.toInt_lt a
      omega
theorem q_sub {k m : Nat} (h : m ≤ k) : Int32.ofNat k - Int32.ofNat m = Int32.ofNat (k - m) := by
  have e : Int32.ofNat k = Int32.ofNat (k - m) + Int32.ofNat m := by rw [← Int32.ofNat_add]; congr 1; omega
  rw [e, Int32.add_sub_cancel]
def bkN (k : Nat) (a : Int32) : Option Nat := if a < 0 then none else if a.toNatClampNeg ≤ k then some (k - a.toNatClampNeg) else none
def bkA (k : Nat) (a : Int32) : Int32 := match bkN k a with
  | some n => Int32.ofNat n
  | none => -1
def bkH (u : CS) (k : Nat) (a : Int32) : CS := match bkN k a with
  | some n => uF u 4 1 (.inl (Int32.ofNat n))
  | none => u
def bkM (u : MS) (k : Nat) (a : Int32) : MS := match bkN k a with
  | some n => upI (upI u 3 0) 5 (Int32.ofNat n)
  | none => upI u 3 0
theorem bk_cases {k : Nat} (hk : k ≤ 4000) (a : Int32) : (a < 0 ∧ bkN k a = none) ∨ (¬ a < 0 ∧ ¬ a ≤ Int32.ofNat k ∧ bkN k a = none) ∨ ∃ m, ¬ a < 0 ∧ a ≤ Int32.ofNat k ∧ m ≤ k ∧ a = Int32.ofNat m ∧ bkN k a = some (k - m) := by
  by_cases h1 : a < 0
  · exact Or.inl ⟨h1, by unfold bkN; rw [if_pos h1]⟩
  · obtain ⟨m, hm, rfl⟩ := q_pos h1
    have h3 := q_le (a := m) (b := k) hm (by omega)
    by_cases h2 : m ≤ k
    · exact Or.inr (Or.inr ⟨m, h1, h3.mpr h2, h2, rfl, by unfold bkN; rw [if_neg h1, q_nat hm, if_pos h2]⟩)
    · exact Or.inr (Or.inl ⟨h1, fun z => h2 (h3.mp z), by unfold bkN; rw [if_neg h1, q_nat hm, if_neg h2]⟩)
theorem bkH_ok {u : CS} {N k : Nat} {a : Int32} (h : skB u = true) (hk : FI u 4 1 = Int32.ofNat k) (hk4 : k ≤ 4000) : fm_H_back N u 0 a = some (bkH u k a, bkA k a) := by
  unfold fm_H_back fb_H_back_0 bkH bkA
  rw [gr_0_1 h, q_bo, q_bo, gi_4_1 h, q_bo, hk]
  rcases bk_cases hk4 a with ⟨h1, h2⟩ | ⟨h1, h2, h3⟩ | ⟨m, h1, h2, h3, rfl, h4⟩
  · rw [h2]
    simp only [h1, decide_true]
    rfl
  · rw [h3]
    simp only [h1, h2, decide_false]
    rfl
  · rw [h4]
    simp only [h1, h2, decide_true, decide_false, q_bo, gi_4_1 h, hk, pf_4_1 h, gr_0_1 (sf_4_1 h), gi_4_1 (sf_4_1 h), fi_4_1 h, q_sub h3]
    rfl
theorem bkM_ok {u : MS} {N k : Nat} {a : Int32} (hk : u.1 5 = Int32.ofNat k) (hk4 : k ≤ 4000) : fm_M_back N u a = some (bkM u k a, bkA k a) := by
  have e5 : (upI u 3 0).1 5 = Int32.ofNat k := hk
  unfold fm_M_back fb_M_back_0 bkM bkA
  rw [q_ls, e5]
  rcases bk_cases hk4 a with ⟨h1, h2⟩ | ⟨h1, h2, h3⟩ | ⟨m, h1, h2, h3, rfl, h4⟩
  · rw [h2]
    simp only [h1, decide_true]
    rfl
  · rw [h3]
    simp only [h1, h2, decide_false]
    rfl
  · rw [h4]
    simp only [h1, h2, decide_true, decide_false, q_sub h3]
    rfl
theorem fd_no {u : CS} {N k : Nat} {a b c d e : Int32} (h : skB u = true) (hk : FI u 4 1 = Int32.ofNat k) (hk4 : k ≤ 4000) (hn : ¬ k + 20 ≤ 4000) : fm_H_feed N u 0 a b c d e = some (u, -1) := by
  have e1 : ¬ (FI u 4 1 + 20) ≤ 4000 := by
    rw [hk, show (20 : Int32) = Int32.ofNat 20 from rfl, ← Int32.ofNat_add]
    exact fun z => hn ((q_le (a := k + 20) (b := 4000) (by omega) (by decide)).mp z)
  unfold fm_H_feed fb_H_feed_0
  rw [gr_0_1 h, q_bo, q_bo, gi_4_1 h, q_bo]
  simp only [e1, decide_false]
  rfl
theorem fd_noM {u : MS} {N k : Nat} {a b c d e : Int32} (hk : u.1 5 = Int32.ofNat k) (hk4 : k ≤ 4000) (hn : ¬ k + 20 ≤ 4000) : fm_M_feed N u a b c d e = some (upI u 3 0, -1) := by
  have e1 : ¬ ((upI u 3 0).1 5 + 20) ≤ 4000 := by
    rw [show (upI u 3 0).1 5 = Int32.ofNat k from hk, show (20 : Int32) = Int32.ofNat 20 from rfl, ← Int32.ofNat_add]
    exact fun z => hn ((q_le (a := k + 20) (b := 4000) (by omega) (by decide)).mp z)
  unfold fm_M_feed fb_M_feed_0
  rw [q_ls]
  simp only [e1, decide_false]
  rfl
theorem apH_f {u : CS} {v s : Int32} {i j : Nat} (h : i ≠ 4 ∨ j ≠ 1) : FI (apH u v s) i j = FI u i j := by
  unfold apH
  rw [FI_F h, FI_A]
theorem fdH_f {u : CS} {a b c d e : Int32} {i j : Nat} (h : i ≠ 4 ∨ j ≠ 1) : FI (fdH u a b c d e) i j = FI u i j := by
  unfold fdH ap4
  simp only [apH_f h]
theorem bkH_f {u : CS} {k : Nat} {a : Int32} {i j : Nat} (h : i ≠ 4 ∨ j ≠ 1) : FI (bkH u k a) i j = FI u i j := by
  unfold bkH
  split
  · exact FI_F h
  · rfl
theorem IDc.of {u u2 : CS} {k k2 : Nat} (h : IDc u k) (hs : skB u2 = true) (hf : ∀ i j, i ≠ 4 ∨ j ≠ 1 → FI u2 i j = FI u i j) (hk : FI u2 4 1 = Int32.ofNat k2) : IDc u2 k2 := by
  obtain ⟨-, h9, h10, h2, h3, h4, h5, h6, h13, -⟩ := h
  refine ⟨hs, ?_, ?_, ?_, ?_, ?_, ?_, ?_, ?_, hk⟩
  all_goals rw [hf _ _ (by decide)]; assumption
theorem fdL_f {a b c d e : Int32} {j : Nat} (hj : j ≠ 5) : ∀ (n : Nat) (u : MS), (fdL a b c d e n u).1 j = u.1 j := by
  intro n
  induction n with
  | zero => intro u; rfl
  | succ n ih =>
    intro u
    show (fdL a b c d e n (apM u _ _)).1 j = _
    rw [ih]
    show (if j = 5 then _ else u.1 j) = _
    rw [if_neg hj]
theorem fdM_f {u : MS} {a b c d e : Int32} {j : Nat} (h5 : j ≠ 5) (h3 : j ≠ 3) : (fdM u a b c d e).1 j = u.1 j := by
  unfold fdM
  rw [fdL_f h5]
  show (if j = 3 then _ else u.1 j) = _
  rw [if_neg h3]
theorem bkM_f {u : MS} {k : Nat} {a : Int32} {j : Nat} (h5 : j ≠ 5) (h3 : j ≠ 3) : (bkM u k a).1 j = u.1 j := by
  unfold bkM
  split
  · show (if j = 5 then _ else if j = 3 then _ else u.1 j) = _
    rw [if_neg h5, if_neg h3]
  · show (if j = 3 then _ else u.1 j) = _
    rw [if_neg h3]
theorem q_and (x : Int32) : ∃ j : Nat, j < 16 ∧ x &&& 15 = Int32.ofNat j := by
  refine ⟨(x.toBitVec &&& 15#32).toNat, ?_, ?_⟩
  · rw [BitVec.toNat_and]
    exact Nat.lt_of_le_of_lt Nat.and_le_right (by decide)
  · apply Int32.toBitVec_inj.mp
    show (x.toBitVec &&& 15#32) = BitVec.ofNat 32 _
    simp
theorem idle_step {N k : Nat} {u : CS} {w : MS} {xs : Nat → Int32} {q ce sl : Nat} (hN : 21 ≤ N) (hk : k ≤ 4000) (hc : IDc u k) (hm : IDm w k) (hq : xs (6 * q) &&& 15 ≠ 2) : ∃ u2 w2 k2 ce2 sl2, STEPx N xs q u w u2 w2 ce sl ce2 sl2 ∧ IDc u2 k2 ∧ IDm w2 k2 ∧ k2 ≤ 4000 ∧ ce2 ≤ ce + 1 ∧ sl2 ≤ sl + 6 := by
  have hs := hc.1
  have hn := hc.2.2.2.2.2.2.2.2.2
  have hop : ∃ j : Nat, j < 16 ∧ xs (6 * q) &&& 15 = Int32.ofNat j := q_and _
  obtain ⟨j, hj, e⟩ := hop
  unfold STEPx
  rcases (show j = 0 ∨ j = 1 ∨ j = 2 ∨ j = 3 ∨ j = 4 ∨ j = 5 ∨ j = 6 ∨ j = 7 ∨ j = 8 ∨ j = 9 ∨ j = 10 ∨ j = 11 ∨ j = 12 ∨ j = 13 ∨ j = 14 ∨ j = 15 by omega) with rfl | rfl | rfl | rfl | rfl | rfl | rfl | rfl | rfl | rfl | rfl | rfl | rfl | rfl | rfl | rfl
  · by_cases h20 : k + 20 ≤ 4000
    · obtain ⟨N1, rfl⟩ : ∃ N1, N = N1 + 21 := ⟨N - 21, by omega⟩
      obtain ⟨a1, a2, a3⟩ := fdH_ok (N := N1 + 16) (a := xs (6 * q + 1)) (b := xs (6 * q + 2)) (c := xs (6 * q + 3)) (d := xs (6 * q + 4)) (e := xs (6 * q + 5)) hs hn h20
      obtain ⟨b1, b2⟩ := fdM_ok (N := N1) (a := xs (6 * q + 1)) (b := xs (6 * q + 2)) (c := xs (6 * q + 3)) (d := xs (6 * q + 4)) (e := xs (6 * q + 5)) hm.2.2.2 h20
      exact ⟨_, _, k + 20, ce, sl, Or.inl (⟨e, _, a1, b1, rfl, rfl⟩), hc.of a2 (fun i j h => fdH_f h) a3, ⟨by rw [fdM_f (by decide) (by decide)]; exact hm.1, by rw [fdM_f (by decide) (by decide)]; exact hm.2.1, by rw [fdM_f (by decide) (by decide)]; exact hm.2.2.1, b2⟩, h20, by omega, by omega⟩
    · exact ⟨_, _, k, ce, sl, Or.inl (⟨e, _, fd_no hs hn hk h20, fd_noM hm.2.2.2 hk h20, rfl, rfl⟩), hc, hm.th 0, hk, by omega, by omega⟩
  · have a1 := bkH_ok (N := N) (a := xs (6 * q + 1)) hs hn hk
    have b1 := bkM_ok (N := N) (a := xs (6 * q + 1)) hm.2.2.2 hk
    have hx : ∃ k2, k2 ≤ 4000 ∧ FI (bkH u k (xs (6 * q + 1))) 4 1 = Int32.ofNat k2 ∧ skB (bkH u k (xs (6 * q + 1))) = true ∧ (bkM w k (xs (6 * q + 1))).1 5 = Int32.ofNat k2 := by
      unfold bkH bkM
      rcases bk_cases hk (xs (6 * q + 1)) with ⟨h1, h2⟩ | ⟨h1, h2, h3⟩ | ⟨m, h1, h2, h3, h5, h4⟩
      · rw [h2]; exact ⟨k, hk, hn, hs, hm.2.2.2⟩
      · rw [h3]; exact ⟨k, hk, hn, hs, hm.2.2.2⟩
      · rw [h4]; exact ⟨k - m, by omega, fi_4_1 hs, sf_4_1 hs, rfl⟩
    obtain ⟨k2, c1, c2, c3, c4⟩ := hx
    exact ⟨_, _, k2, ce, sl, Or.inr (Or.inl (⟨e, _, a1, b1, rfl, rfl⟩)), hc.of c3 (fun i j h => bkH_f h) c2, ⟨by rw [bkM_f (by decide) (by decide)]; exact hm.1, by rw [bkM_f (by decide) (by decide)]; exact hm.2.1, by rw [bkM_f (by decide) (by decide)]; exact hm.2.2.1, c4⟩, c1, by omega, by omega⟩
  · exact absurd e hq
  · exact ⟨u, _, k, ce, sl, Or.inr (Or.inr (Or.inr (Or.inl (⟨e, _, i3c hc, i3m hm, rfl, rfl⟩)))), hc, hm.th 0, hk, by omega, by omega⟩
  · exact ⟨u, _, k, ce, sl, Or.inr (Or.inr (Or.inr (Or.inr (Or.inl (⟨e, _, i4c hc, i4m hm, rfl, rfl⟩))))), hc, hm.th 0, hk, by omega, by omega⟩
  · exact ⟨u, _, k, ce, sl, Or.inr (Or.inr (Or.inr (Or.inr (Or.inr (Or.inl (⟨e, _, i5c hc, i5m hm, rfl, rfl⟩)))))), hc, hm.th 0, hk, by omega, by omega⟩
  · exact ⟨u, _, k, _, _, Or.inr (Or.inr (Or.inr (Or.inr (Or.inr (Or.inr (Or.inl (⟨e, 1, 6, _, _, i6c hc, rfl, ⟨rfl, rfl⟩, i6m hm, thM, rfl, rfl⟩))))))), hc, hm.th 1, hk, by omega, by omega⟩
  · by_cases hb : xs (6 * q + 2) < 0 ∨ ¬ xs (6 * q + 2) ≤ 500
    · have a1 := i7c (N := N) (a := xs (6 * q + 1)) (b := xs (6 * q + 2)) hc
      have b1 := i7m (N := N) (a := xs (6 * q + 1)) (b := xs (6 * q + 2)) hm
      rw [if_pos hb] at a1 b1
      exact ⟨u, _, k, _, _, Or.inr (Or.inr (Or.inr (Or.inr (Or.inr (Or.inr (Or.inr (Or.inl (⟨e, 1, 6, _, _, _, a1, rfl, ⟨rfl, rfl⟩, b1, thM, fun f h => absurd h (by decide), rfl, rfl⟩)))))))), hc, hm.th 1, hk, by omega, by omega⟩
    · have a1 := i7c (N := N) (a := xs (6 * q + 1)) (b := xs (6 * q + 2)) hc
      have b1 := i7m (N := N) (a := xs (6 * q + 1)) (b := xs (6 * q + 2)) hm
      rw [if_neg hb] at a1 b1
      exact ⟨u, _, k, _, _, Or.inr (Or.inr (Or.inr (Or.inr (Or.inr (Or.inr (Or.inr (Or.inl (⟨e, 1, 6, _, _, _, a1, rfl, ⟨rfl, rfl⟩, b1, thM, fun f h => absurd h (by decide), rfl, rfl⟩)))))))), hc, hm.th 2, hk, by omega, by omega⟩
  · by_cases hb : xs (6 * q + 1) < 0 ∨ 1000000000 < xs (6 * q + 1)
    · have a1 := i8c (N := N) (a := xs (6 * q + 1)) hc
      have b1 := i8m (N := N) (a := xs (6 * q + 1)) hm
      rw [if_pos hb] at a1 b1
      exact ⟨u, _, k, _, _, Or.inr (Or.inr (Or.inr (Or.inr (Or.inr (Or.inr (Or.inr (Or.inr (Or.inl (⟨e, _, _, _, a1, rfl, b1, thM, fun f h => absurd h (by decide), rfl, rfl⟩))))))))), hc, hm.th 1, hk, Nat.le_refl _, Nat.le_refl _⟩
    · have a1 := i8c (N := N) (a := xs (6 * q + 1)) hc
      have b1 := i8m (N := N) (a := xs (6 * q + 1)) hm
      rw [if_neg hb] at a1 b1
      exact ⟨u, _, k, _, _, Or.inr (Or.inr (Or.inr (Or.inr (Or.inr (Or.inr (Or.inr (Or.inr (Or.inl (⟨e, _, _, _, a1, rfl, b1, thM, fun f h => absurd h (by decide), rfl, rfl⟩))))))))), hc, hm.th 2, hk, Nat.le_refl _, Nat.le_refl _⟩
  · exact ⟨u, _, k, _, _, Or.inr (Or.inr (Or.inr (Or.inr (Or.inr (Or.inr (Or.inr (Or.inr (Or.inr (Or.inl (⟨e, _, _, i9c hc, rfl, i9m hm, thM, rfl, rfl⟩)))))))))), hc, hm.th 1, hk, Nat.le_refl _, Nat.le_refl _⟩
  · exact ⟨u, _, k, ce, sl, Or.inr (Or.inr (Or.inr (Or.inr (Or.inr (Or.inr (Or.inr (Or.inr (Or.inr (Or.inr (Or.inl (⟨e, _, i10c hc, i10m hm, rfl, rfl⟩))))))))))), hc, hm.th 0, hk, by omega, by omega⟩
  · exact ⟨u, _, k, ce, sl, Or.inr (Or.inr (Or.inr (Or.inr (Or.inr (Or.inr (Or.inr (Or.inr (Or.inr (Or.inr (Or.inr (Or.inl (⟨e, _, i11c hc, i11m hm, rfl, rfl⟩)))))))))))), hc, hm.th 0, hk, by omega, by omega⟩
  · exact ⟨u, _, k, ce, sl, Or.inr (Or.inr (Or.inr (Or.inr (Or.inr (Or.inr (Or.inr (Or.inr (Or.inr (Or.inr (Or.inr (Or.inr (Or.inl (⟨e, _, i12c hc, i12m hm, rfl, rfl⟩))))))))))))), hc, hm.th 0, hk, by omega, by omega⟩
  · exact ⟨u, _, k, ce, sl, Or.inr (Or.inr (Or.inr (Or.inr (Or.inr (Or.inr (Or.inr (Or.inr (Or.inr (Or.inr (Or.inr (Or.inr (Or.inr (Or.inl (⟨e, _, i13c hc, i13m hm, rfl, rfl⟩)))))))))))))), hc, hm.th 0, hk, by omega, by omega⟩
  · exact ⟨u, _, k, ce, sl, Or.inr (Or.inr (Or.inr (Or.inr (Or.inr (Or.inr (Or.inr (Or.inr (Or.inr (Or.inr (Or.inr (Or.inr (Or.inr (Or.inr (Or.inl (⟨e, _, i14c hc, i14m hm, rfl, rfl⟩))))))))))))))), hc, hm.th 0, hk, by omega, by omega⟩
  · exact ⟨u, _, k, ce, sl, Or.inr (Or.inr (Or.inr (Or.inr (Or.inr (Or.inr (Or.inr (Or.inr (Or.inr (Or.inr (Or.inr (Or.inr (Or.inr (Or.inr (Or.inr ((⟨e, _, i15c hc, i15m hm, rfl, rfl⟩)))))))))))))))), hc, hm.th 0, hk, by omega, by omega⟩
