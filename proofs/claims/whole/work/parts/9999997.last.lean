/-! what stands last in a body: the reference's last() comes to an end -/
set_option maxRecDepth 100000
/-- a chain of roots, the later ones first, all below b -/
def CH (w : MS) : Nat → Int32 → List Nat → Prop
  | _, x, [] => x = -1
  | b, x, r :: l => x = Int32.ofNat r ∧ r < b ∧ CH w r (w.2.2.1 29 r) l
/-- the node n has roots, h deep at most, none below a -/
def RT (w : MS) : Nat → Nat → Nat → Prop
  | 0, a, n => a ≤ n ∧ n < 16000 ∧ w.2.2.1 28 n = -1
  | h + 1, a, n => a ≤ n ∧ n < 16000 ∧ ∃ l, CH w n (w.2.2.1 28 n) l ∧ ∀ r, r ∈ l → RT w h a r
section LST
variable {N : Nat}
theorem CH_len {w : MS} : ∀ (l : List Nat) (b : Nat) (x : Int32), CH w b x l → l.length ≤ b := by
  intro l
  induction l with
  | nil => intro b x _; exact Nat.zero_le _
  | cons r l ih =>
    intro b x h
    have := ih r _ h.2.2
    have := h.2.1
    show l.length + 1 ≤ b
    omega
theorem CH_fr {w w2 : MS} : ∀ (l : List Nat) (b : Nat) (x : Int32), (∀ r, r ∈ l → w2.2.2.1 29 r = w.2.2.1 29 r) → CH w b x l → CH w2 b x l := by
  intro l
  induction l with
  | nil => intro b x _ h; exact h
  | cons r l ih =>
    intro b x hf h
    refine ⟨h.1, h.2.1, ?_⟩
    rw [hf r (List.mem_cons_self ..)]
    exact ih r _ (fun r' hr' => hf r' (List.mem_cons_of_mem _ hr')) h.2.2
theorem CH_lt {w : MS} : ∀ (l : List Nat) (b : Nat) (x : Int32), CH w b x l → ∀ r, r ∈ l → r < b := by
  intro l
  induction l with
  | nil => intro b x _ r hr; cases hr
  | cons r l ih =>
    intro b x h r' hr'
    rcases List.mem_cons.mp hr' with e | e
    · rw [e]; exact h.2.1
    · exact Nat.lt_trans (ih r _ h.2.2 r' e) h.2.1
theorem RT.lo {w : MS} : ∀ {h a n : Nat}, RT w h a n → a ≤ n ∧ n < 16000 := by
  intro h
  cases h with
  | zero => intro a n z; exact ⟨z.1, z.2.1⟩
  | succ h => intro a n z; exact ⟨z.1, z.2.1⟩
theorem RT.up {w : MS} : ∀ {h a n : Nat}, RT w h a n → RT w (h + 1) a n := by
  intro h
  induction h with
  | zero => intro a n z; exact ⟨z.1, z.2.1, [], z.2.2, fun r hr => by cases hr⟩
  | succ h ih =>
    intro a n z
    obtain ⟨z1, z2, l, z3, z4⟩ := z
    exact ⟨z1, z2, l, z3, fun r hr => ih (z4 r hr)⟩
theorem RT.le {w : MS} {h h2 a n : Nat} (z : RT w h a n) (hh : h ≤ h2) : RT w h2 a n := by
  obtain ⟨k, rfl⟩ : ∃ k, h2 = h + k := ⟨h2 - h, by omega⟩
  clear hh
  induction k with
  | zero => exact z
  | succ k ih => exact ih.up
theorem RT.lw {w : MS} : ∀ {h a b n : Nat}, b ≤ a → RT w h a n → RT w h b n := by
  intro h
  induction h with
  | zero => intro a b n hb z; exact ⟨Nat.le_trans hb z.1, z.2⟩
  | succ h ih =>
    intro a b n hb z
    obtain ⟨z1, z2, l, z3, z4⟩ := z
    exact ⟨Nat.le_trans hb z1, z2, l, z3, fun r hr => ih hb (z4 r hr)⟩
/-- what is changed elsewhere doesn't matter -/
theorem RT.fr {w w2 : MS} : ∀ {h a n : Nat}, (∀ j, a ≤ j → j ≤ n → w2.2.2.1 28 j = w.2.2.1 28 j) → (∀ j, a ≤ j → j < n → w2.2.2.1 29 j = w.2.2.1 29 j) → RT w h a n → RT w2 h a n := by
  intro h
  induction h with
  | zero => intro a n f8 f9 z; exact ⟨z.1, z.2.1, (f8 n z.1 (Nat.le_refl _)).trans z.2.2⟩
  | succ h ih =>
    intro a n f8 f9 z
    obtain ⟨z1, z2, l, z3, z4⟩ := z
    have lt := CH_lt l n _ z3
    refine ⟨z1, z2, l, ?_, fun r hr => ih (fun j h1 h2 => f8 j h1 (by have := lt r hr; omega)) (fun j h1 h2 => f9 j h1 (by have := lt r hr; omega)) (z4 r hr)⟩
    rw [f8 n z1 (Nat.le_refl _)]
    exact CH_fr l n _ (fun r hr => f9 r (z4 r hr).lo.1 (lt r hr)) z3
theorem lst_loop {S : SG_M_last} {h a : Nat} (hS : ∀ w n, RT w h a n → ∃ w2, S w (Int32.ofNat n) = some (w2, ()) ∧ FrM (fun _ => False) (fun k => k = 30) w w2) : ∀ (l : List Nat) (w : MS) (b : Nat) (x : Int32) (F : Nat), CH w b x l → b ≤ 16000 → (∀ r, r ∈ l → RT w h a r) → ∃ w2, gg_M_last N S (F + l.length + 1) w x = some (w2, ()) ∧ FrM (fun _ => False) (fun k => k = 30) w w2 := by
  intro l
  induction l with
  | nil =>
    intro w b x F hc hb _
    have hc : x = -1 := hc
    refine ⟨w, ?_, FrM.rf⟩
    show fb_M_last_42 N S (gg_M_last N S (F + 0)) w x = _
    generalize gg_M_last N S (F + 0) = G
    unfold fb_M_last_42
    rw [decide_eq_true hc, q_b1]
  | cons r l ih =>
    intro w b x F hc hb hr
    obtain ⟨c1, c2, c3⟩ := hc
    obtain ⟨w1, s1, s2⟩ := hS w r (hr r (List.mem_cons_self ..))
    have e29 : w1.2.2.1 29 = w.2.2.1 29 := s2.2.2.1 29 (by decide)
    have e28 : w1.2.2.1 28 = w.2.2.1 28 := s2.2.2.1 28 (by decide)
    obtain ⟨w2, t1, t2⟩ := ih w1 r (w1.2.2.1 29 r) F (by rw [e29]; exact CH_fr l r _ (fun r' _ => by rw [e29]) c3) (by omega) (fun r' hr' => RT.fr (fun j _ _ => by rw [e28]) (fun j _ _ => by rw [e29]) (hr r' (List.mem_cons_of_mem _ hr')))
    refine ⟨w2, ?_, s2.tr t2⟩
    rw [← t1]
    show fb_M_last_42 N S (gg_M_last N S (F + l.length + 1)) w x = _
    generalize gg_M_last N S (F + l.length + 1) = G
    unfold fb_M_last_42
    rw [decide_eq_false (fun z => ofNat_ne (np := r) (by omega) (c1 ▸ z)), q_b0, c1, s1, q_bn, q_ck (q_inb (by show r < 16000; omega) (by decide)), q_nat (by omega)]
theorem lst_ok (hN : 50000 ≤ N) : ∀ (d h a : Nat) (w : MS) (n : Nat), h + 1 ≤ d → RT w h a n → ∃ w2, rc_M_last N d w (Int32.ofNat n) = some (w2, ()) ∧ FrM (fun _ => False) (fun k => k = 30) w w2 := by
  intro d
  induction d with
  | zero => intro h a w n hd; omega
  | succ d ih =>
    intro h a w n hd z
    have zl := z.lo
    have ck : ∀ k, ln k = 16000 → inb (Int32.ofNat n) (ln k) = true := fun k hk => by rw [hk]; exact q_inb (by omega) (by decide)
    -- the loop over its roots, from any state with the same roots
    have lp : ∀ w1 : MS, w1.2.2.1 28 = w.2.2.1 28 → w1.2.2.1 29 = w.2.2.1 29 → ∃ w2, fb_M_last_35 N (rc_M_last N d) (gg_M_last N (rc_M_last N d) N) w1 (Int32.ofNat n) = some (w2, ()) ∧ FrM (fun _ => False) (fun k => k = 30) w1 w2 := fun w1 e28 e29 => by
      have z1 : RT w1 h a n := RT.fr (fun j _ _ => by rw [e28]) (fun j _ _ => by rw [e29]) z
      unfold fb_M_last_35
      rw [q_ck (ck 28 rfl), q_nat (by omega)]
      cases h with
      | zero =>
        refine ⟨w1, ?_, FrM.rf⟩
        have em : ∀ F, gg_M_last N (rc_M_last N d) (F + 1) w1 (w1.2.2.1 28 n) = some (w1, ()) := fun F => by
          show fb_M_last_42 N (rc_M_last N d) (gg_M_last N (rc_M_last N d) F) w1 (w1.2.2.1 28 n) = _
          unfold fb_M_last_42
          rw [decide_eq_true z1.2.2, q_b1]
        have := em (N - 1)
        rw [show N - 1 + 1 = N from by omega] at this
        exact this
      | succ h =>
        obtain ⟨y1, y2, l, y3, y4⟩ := z1
        have hl := CH_len l n _ y3
        have := lst_loop (N := N) (S := rc_M_last N d) (h := h) (a := a) (fun w n y => ih h a w n (by omega) y) l w1 n (w1.2.2.1 28 n) (N - l.length - 1) y3 (by omega) y4
        rw [show N - l.length - 1 + l.length + 1 = N from by omega] at this
        exact this
    show ∃ w2, fb_M_last_0 N (rc_M_last N d) (gg_M_last N (rc_M_last N d) N) w (Int32.ofNat n) = some (w2, ()) ∧ _
    have e28 : ∃ w2, fb_M_last_28 N (rc_M_last N d) (gg_M_last N (rc_M_last N d) N) w (Int32.ofNat n) = some (w2, ()) ∧ FrM (fun _ => False) (fun k => k = 30) w w2 := by
      unfold fb_M_last_28
      rw [q_ck (ck 30 rfl), q_ls]
      obtain ⟨w2, a1, a2⟩ := lp (upA w 30 (upd (w.2.2.1 30) (Int32.ofNat n).toNatClampNeg (vp_nar .boolean 1))) rfl rfl
      exact ⟨w2, a1, FrM.tr (FrM.iA (A := fun k => k = 30) rfl) a2⟩
    unfold fb_M_last_0
    rw [decide_eq_false (ofNat_ne (by omega)), q_b0, q_ck (ck 23 rfl), q_ck (ck 23 rfl)]
    by_cases h12 : w.2.2.1 23 (Int32.ofNat n).toNatClampNeg = 12
    · rw [decide_eq_true h12, q_b1]; exact e28
    · rw [decide_eq_false h12, q_b0]
      by_cases h13 : w.2.2.1 23 (Int32.ofNat n).toNatClampNeg = 13
      · rw [decide_eq_true h13, q_b1]; exact e28
      · rw [decide_eq_false h13, q_b0]; exact lp w rfl rfl
end LST
