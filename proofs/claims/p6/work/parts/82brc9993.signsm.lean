set_option maxRecDepth 100000
def r22 (j : Nat) : Int32 := mS0.2.2.1 22 j
def r21 (j : Nat) : Int32 := mS0.2.2.1 21 j
def onM (c : Int32) : Nat → Nat → Int32 → Int32
  | 0, _, s => s
  | m + 1, i, s => onM c m (i + 1) (if r22 (2 * i) = c then r22 (2 * i + 1) else s)
def twM (c d : Int32) : Nat → Nat → Int32 → Int32 → Int32 × Int32
  | 0, _, s, n => (s, n)
  | m + 1, i, s, n => if r21 (3 * i) = c ∧ r21 (3 * i + 1) = d then twM c d m (i + 1) (r21 (3 * i + 2)) 2 else twM c d m (i + 1) s n
def finG (N : Nat) (w : MS) (s n : Int32) : Option (MS × Unit) := br (decide (s = (-1))) (fb_M_signToken_129 N (gg_M_signToken N 0) w s n 7) (fb_M_signToken_129 N (gg_M_signToken N 0) w s n 6)
theorem twM_loop {N : Nat} {w : MS} {c d : Int32} (h21 : w.2.2.1 21 = mS0.2.2.1 21) : ∀ (m i F : Nat) (s n : Int32), i + m = 7 → (gg_M_signToken N (F + m + 1)).2 w c d s n (Int32.ofNat (3 * i)) = finG N w (twM c d m i s n).1 (twM c d m i s n).2 := by
  intro m
  induction m with
  | zero =>
    intro i F s n hi
    show fb_M_signToken_63 N (gg_M_signToken N (F + 0)) w c d s n (Int32.ofNat (3 * i)) = _
    generalize gg_M_signToken N (F + 0) = G
    unfold fb_M_signToken_63
    rw [show ln 21 = 21 from rfl, decide_eq_true ((q_le (a := 21) (b := 3 * i) (by decide) (by omega)).mpr (by omega)), q_b1]
    rfl
  | succ m ih =>
    intro i F s n hi
    show fb_M_signToken_63 N (gg_M_signToken N (F + m + 1)) w c d s n (Int32.ofNat (3 * i)) = _
    have e110 : ∀ s n, fb_M_signToken_110 N (gg_M_signToken N (F + m + 1)) w c d s n (Int32.ofNat (3 * i)) = finG N w (twM c d m (i + 1) s n).1 (twM c d m (i + 1) s n).2 := fun s n => by
      unfold fb_M_signToken_110
      rw [show (3 : Int32) = Int32.ofNat 3 from rfl, q_add, show 3 * i + 3 = 3 * (i + 1) from by omega]
      exact ih (i + 1) F s n (by omega)
    generalize gg_M_signToken N (F + m + 1) = G at e110 ⊢
    unfold fb_M_signToken_63
    rw [show ln 21 = 21 from rfl, decide_eq_false (fun z => absurd ((q_le (a := 21) (b := 3 * i) (by decide) (by omega)).mp z) (by omega)), q_b0, q_ck (q_inb (by omega) (by decide)), q_suc, q_ck (q_inb (by omega) (by decide)), show (2 : Int32) = Int32.ofNat 2 from rfl, q_add, q_ck (q_inb (by omega) (by decide)), q_nat (k := 3 * i) (by omega), q_nat (k := 3 * i + 1) (by omega), q_nat (k := 3 * i + 2) (by omega), q_ls, h21, e110, e110]
    show br (decide (r21 (3 * i) = c)) (br (decide (r21 (3 * i + 1) = d)) _ _) _ = finG N w (if r21 (3 * i) = c ∧ r21 (3 * i + 1) = d then twM c d m (i + 1) (r21 (3 * i + 2)) 2 else twM c d m (i + 1) s n).1 (if r21 (3 * i) = c ∧ r21 (3 * i + 1) = d then twM c d m (i + 1) (r21 (3 * i + 2)) 2 else twM c d m (i + 1) s n).2
    by_cases h1 : r21 (3 * i) = c
    · rw [decide_eq_true h1, q_b1]
      by_cases h2 : r21 (3 * i + 1) = d
      · rw [decide_eq_true h2, q_b1, if_pos ⟨h1, h2⟩]
        rfl
      · rw [decide_eq_false h2, q_b0, if_neg (fun z => h2 z.2)]
    · rw [decide_eq_false h1, q_b0, if_neg (fun z => h1 z.1)]
theorem onM_loop {N : Nat} {w : MS} {c d : Int32} (h21 : w.2.2.1 21 = mS0.2.2.1 21) (h22 : w.2.2.1 22 = mS0.2.2.1 22) : ∀ (m i F : Nat) (s : Int32), i + m = 18 → (gg_M_signToken N (F + m + 9)).1 w c d s 1 (Int32.ofNat (2 * i)) = finG N w (twM c d 7 0 (onM c m i s) 1).1 (twM c d 7 0 (onM c m i s) 1).2 := by
  intro m
  induction m with
  | zero =>
    intro i F s hi
    have t := twM_loop (N := N) (c := c) (d := d) h21 7 0 F s 1 (by omega)
    show fb_M_signToken_19 N (gg_M_signToken N (F + 7 + 1)) w c d s 1 (Int32.ofNat (2 * i)) = _
    generalize gg_M_signToken N (F + 7 + 1) = G at t ⊢
    unfold fb_M_signToken_19
    rw [show ln 22 = 36 from rfl, decide_eq_true ((q_le (a := 36) (b := 2 * i) (by decide) (by omega)).mpr (by omega)), q_b1]
    exact t
  | succ m ih =>
    intro i F s hi
    show fb_M_signToken_19 N (gg_M_signToken N (F + m + 9)) w c d s 1 (Int32.ofNat (2 * i)) = _
    have e53 : ∀ s, fb_M_signToken_53 N (gg_M_signToken N (F + m + 9)) w c d 1 (Int32.ofNat (2 * i)) s = finG N w (twM c d 7 0 (onM c m (i + 1) s) 1).1 (twM c d 7 0 (onM c m (i + 1) s) 1).2 := fun s => by
      unfold fb_M_signToken_53
      rw [show (2 : Int32) = Int32.ofNat 2 from rfl, q_add, show 2 * i + 2 = 2 * (i + 1) from by omega]
      exact ih (i + 1) F s (by omega)
    generalize gg_M_signToken N (F + m + 9) = G at e53 ⊢
    unfold fb_M_signToken_19
    rw [show ln 22 = 36 from rfl, decide_eq_false (fun z => absurd ((q_le (a := 36) (b := 2 * i) (by decide) (by omega)).mp z) (by omega)), q_b0, q_ck (q_inb (by omega) (by decide)), q_suc, q_ck (q_inb (by omega) (by decide)), q_nat (k := 2 * i) (by omega), q_nat (k := 2 * i + 1) (by omega), h22, e53, e53]
    show br (decide (r22 (2 * i) = c)) _ _ = finG N w (twM c d 7 0 (onM c m (i + 1) (if r22 (2 * i) = c then r22 (2 * i + 1) else s)) 1).1 (twM c d 7 0 (onM c m (i + 1) (if r22 (2 * i) = c then r22 (2 * i + 1) else s)) 1).2
    by_cases h1 : r22 (2 * i) = c
    · rw [decide_eq_true h1, q_b1, if_pos h1]
      rfl
    · rw [decide_eq_false h1, q_b0, if_neg h1]
