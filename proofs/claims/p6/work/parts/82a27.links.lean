theorem pig : ∀ (N m : Nat) (f : Nat → Nat), (∀ i, i < m → f i < N) → (∀ i j, i < m → j < m → f i = f j → i = j) → m ≤ N
  | 0, m, f, h1, _ => by
    cases m with
    | zero => exact Nat.le_refl _
    | succ m => exact absurd (h1 0 (by omega)) (Nat.not_lt_zero _)
  | N + 1, m, f, h1, h2 => by
    by_cases e : ∃ i, i < m ∧ f i = N
    · obtain ⟨i, hi, ei⟩ := e
      have := pig N (m - 1) (fun k => f (if k < i then k else k + 1)) (fun k hk => by
        have a := h1 (if k < i then k else k + 1) (by split <;> omega)
        have b : f (if k < i then k else k + 1) ≠ N := fun z => by
          have := h2 _ _ (by split <;> omega) hi (z.trans ei.symm)
          split at this <;> omega
        omega) (fun a b ha hb z => by
        have := h2 _ _ (by split <;> omega) (by split <;> omega) z
        split at this <;> split at this <;> omega)
      omega
    · have := pig N m f (fun k hk => by
        have a := h1 k hk
        have b : f k ≠ N := fun z => e ⟨k, hk, z⟩
        omega) h2
      omega
def inL (w : MS) (p q : Nat) : Prop := ∃ k : Nat, (k : Int) < A w 117 p ∧ A w 116 (24 * p + k) = q
def LKR (w : MS) (PR p : Nat) : Prop := 0 ≤ A w 117 p ∧ A w 117 p ≤ 24 ∧ (∀ k : Nat, (k : Int) < A w 117 p → 0 ≤ A w 116 (24 * p + k) ∧ A w 116 (24 * p + k) < PR ∧ A w 116 (24 * p + k) ≠ p) ∧ (∀ k j : Nat, (k : Int) < A w 117 p → (j : Int) < A w 117 p → A w 116 (24 * p + k) = A w 116 (24 * p + j) → k = j)
def RML (u : MS) (p q : Nat) (w : MS) : Prop := FR [] [] [116, 117] [] u w ∧ (∀ i, i ≠ p → A w 117 i = A u 117 i) ∧ (∀ i, ¬ (24 * p ≤ i ∧ i < 24 * p + 24) → A w 116 i = A u 116 i) ∧ A w 117 p ≤ A u 117 p ∧ (inL u p q → A w 117 p < A u 117 p) ∧ ¬ inL w p q ∧ ∀ x, x ≠ q → (inL w p x ↔ inL u p x)
section
variable {N PR : Nat}
theorem rl_loop {p q L : Nat} (hp1 : p < 24) (hq : (q : Int) < 2147483648) (hL : L ≤ 24) (u : MS) : ∀ (m a b : Nat) (w : MS) (g : Nat → Nat), a ≤ b → b ≤ L → L - b < m → FR [] [] [116, 117] [] u w → (∀ i, A w 117 i = A u 117 i) → A u 117 p = L → (∀ i, ¬ (24 * p ≤ i ∧ i < 24 * p + a) → A w 116 i = A u 116 i) → (∀ i, i < a → g i < b ∧ i ≤ g i ∧ A w 116 (24 * p + i) = A u 116 (24 * p + g i) ∧ A u 116 (24 * p + g i) ≠ q) → (∀ i j, i < j → j < a → g i < g j) → (∀ j, j < b → A u 116 (24 * p + j) ≠ q → ∃ i, i < a ∧ g i = j) →
    OK (fun w2 _ => ∃ (c : Nat) (g : Nat → Nat), c ≤ L ∧ FR [] [] [116, 117] [] u w2 ∧ (∀ i, A w2 117 i = if i = p then (c : Int) else A u 117 i) ∧ (∀ i, ¬ (24 * p ≤ i ∧ i < 24 * p + c) → A w2 116 i = A u 116 i) ∧ (∀ i, i < c → g i < L ∧ i ≤ g i ∧ A w2 116 (24 * p + i) = A u 116 (24 * p + g i) ∧ A u 116 (24 * p + g i) ≠ q) ∧ (∀ i j, i < j → j < c → g i < g j) ∧ (∀ j, j < L → A u 116 (24 * p + j) ≠ q → ∃ i, i < c ∧ g i = j)) (gg_M_removeLink N m w (I p) (I q) (I a) (I b)) := by
  intro m
  induction m with
  | zero => intro a b w g _ _ z; exact absurd z (Nat.not_lt_zero _)
  | succ m ih =>
    intro a b w g hab hbL hm hf h117 eL h116 h1 h2 h3
    show OK _ (fb_M_removeLink_5 N (gg_M_removeLink N m) w (I p) (I q) (I a) (I b))
    unfold fb_M_removeLink_5 fb_M_removeLink_58
    rw [inb_at (k := 117) (n := 24) rfl (by omega) (by omega) (by decide), ck_t, ck_t, I_tn (x := (p : Int)) (by omega) (by omega), Int.toNat_natCast, I_A' ((h117 p).trans eL), decI (by omega) (by omega) (by omega) (by omega)]
    by_cases e : L ≤ b
    · have eb : b = L := by omega
      subst eb
      rw [decide_eq_true (by omega), br_tq, lt_e, wa_e]
      refine ok_some.mpr ⟨a, g, hab, FR.wa hf (by decide), fun i => ?_, fun i hi => ?_, fun i hi => ?_, h2, h3⟩
      · rw [A_eq (by omega) (by omega), h117]
      · rw [A_ne (by decide)]; exact h116 i hi
      · rw [A_ne (by decide)]; exact h1 i hi
    · have hr := A_r u 116 (24 * p + b)
      have eq' : A w 116 (24 * p + b) = A u 116 (24 * p + b) := h116 _ (by omega)
      by_cases eQ : True
      · rw [decide_eq_false (by omega), br_fq, show (24 : Int32) = I 24 from rfl, I_mul, I_add, inb_at (k := 116) (n := 576) rfl (by omega) (by omega) (by decide), ck_t, I_tn (x := 24 * (p : Int) + (b : Int)) (by omega) (by omega), show (24 * (p : Int) + (b : Int)).toNat = 24 * p + b from by omega, I_A' eq', decE hr.1 hr.2 (by omega) (by omega), lit1q, I_add]
        by_cases e2 : A u 116 (24 * p + b) = q
        · rw [decide_eq_true e2, br_tq]
          refine ih a (b + 1) w g (by omega) (by omega) (by omega) hf h117 eL h116 (fun i hi => ⟨by have := (h1 i hi).1; omega, (h1 i hi).2⟩) h2 (fun j hj hne => ?_)
          by_cases e3 : j = b
          · subst e3; exact absurd e2 hne
          · exact h3 j (by omega) hne
        · rw [decide_eq_false e2, br_fq, ck_t, I_add, inb_at (k := 116) (n := 576) rfl (by omega) (by omega) (by decide), ck_t, lt_e, I_tn (by omega) (by omega), show (24 * (p : Int) + (a : Int)).toNat = 24 * p + a from by omega, wa_e, I_add]
          refine ih (a + 1) (b + 1) (wa w 116 (24 * p + a) (A u 116 (24 * p + b))) (fun i => if i = a then b else g i) (by omega) (by omega) (by omega) (FR.wa hf (by decide)) (fun i => by rw [A_ne (by decide)]; exact h117 i) eL (fun i hi => ?_) (fun i hi => ?_) (fun i j hij hj => ?_) (fun j hj hne => ?_)
          · rw [A_eq hr.1 hr.2, if_neg (by omega)]; exact h116 i (by omega)
          · rw [A_eq hr.1 hr.2]
            by_cases e3 : i = a
            · subst e3
              show (if i = i then b else g i) < b + 1 ∧ i ≤ (if i = i then b else g i) ∧ (if 24 * p + i = 24 * p + i then _ else _) = A u 116 (24 * p + (if i = i then b else g i)) ∧ _
              rw [if_pos rfl, if_pos rfl]; exact ⟨by omega, hab, rfl, e2⟩
            · rw [if_neg e3, if_neg (by omega)]
              obtain ⟨q1, q2⟩ := h1 i (by omega)
              exact ⟨by omega, q2⟩
          · simp only [if_neg (show ¬ i = a by omega)]
            by_cases e3 : j = a
            · simp only [if_pos e3]; exact (h1 i (by omega)).1
            · simp only [if_neg e3]; exact h2 i j hij (by omega)
          · by_cases e3 : j = b
            · exact ⟨a, by omega, by simp only [if_true]; exact e3.symm⟩
            · obtain ⟨i, i1, i2⟩ := h3 j (by omega) hne
              exact ⟨i, by omega, by simp only [if_neg (show ¬ i = a by omega)]; exact i2⟩
      · exact absurd trivial eQ
theorem removeLink_ok {u : MS} {p q : Nat} (hp1 : p < 24) (hq : (q : Int) < 2147483648) (h : LKR u PR p) (hN : 100 ≤ N) : OK (fun w _ => RML u p q w ∧ LKR w PR p) (fm_M_removeLink N u (I p) (I q)) := by
  obtain ⟨a1, a2, a3, a4⟩ := h
  unfold fm_M_removeLink fb_M_removeLink_0
  rw [lit0q]
  have eL : A u 117 p = ((A u 117 p).toNat : Int) := by omega
  generalize (A u 117 p).toNat = L at eL
  refine ok_mono (rl_loop (p := p) (q := q) (L := L) (N := N) hp1 hq (by omega) u N 0 0 u (fun _ => 0) (Nat.le_refl _) (Nat.zero_le _) (by omega) FR.rf (fun _ => rfl) eL (fun _ _ => rfl) (fun i hi => absurd hi (Nat.not_lt_zero _)) (fun i j _ hj => absurd hj (Nat.not_lt_zero _)) (fun j hj => absurd hj (Nat.not_lt_zero _))) (fun w _ hw => ?_)
  obtain ⟨c, g, c1, c2, c3, c4, c5, c6, c7⟩ := hw
  have ec : A w 117 p = c := by rw [c3, if_pos rfl]
  have gi : ∀ i j, i < c → j < c → g i = g j → i = j := fun i j hi hj e => by
    rcases Nat.lt_trichotomy i j with z | z | z
    · have := c6 i j z hj; omega
    · exact z
    · have := c6 j i z hi; omega
  refine ⟨⟨c2, fun i hi => by rw [c3, if_neg hi], fun i hi => c4 i (by omega), by rw [ec, eL]; omega, fun hin => ?_, fun hin => ?_, fun x hx => ⟨fun hin => ?_, fun hin => ?_⟩⟩, ?_, ?_, fun k hk => ?_, fun k j hk hj e => ?_⟩
  · obtain ⟨k, k1, k2⟩ := hin
    rw [ec, eL]
    rcases Nat.lt_or_ge c L with z | z
    · omega
    · exfalso
      have e : c = L := by omega
      have hg : ∀ i, i < c → g i = i := fun i hi => by
        have b1 : ∀ d, i + d < c → g i + d ≤ g (i + d) := by
          intro d
          induction d with
          | zero => intro _; exact Nat.le_refl _
          | succ d id =>
            intro hd
            have := id (by omega)
            have := c6 (i + d) (i + (d + 1)) (by omega) hd
            omega
        have := b1 (c - 1 - i) (by omega)
        have := (c5 (i + (c - 1 - i)) (by omega)).1
        have := (c5 i hi).2.1
        omega
      have hk : k < c := by omega
      have := (c5 k hk).2.2.2
      rw [hg k hk] at this
      exact this k2
  · obtain ⟨k, k1, k2⟩ := hin
    rw [ec] at k1
    obtain ⟨-, -, q2, q3⟩ := c5 k (by omega)
    rw [q2] at k2
    exact q3 k2
  · obtain ⟨k, k1, k2⟩ := hin
    rw [ec] at k1
    obtain ⟨q0, -, q2, -⟩ := c5 k (by omega)
    exact ⟨g k, by rw [eL]; omega, by rw [← q2]; exact k2⟩
  · obtain ⟨k, k1, k2⟩ := hin
    rw [eL] at k1
    obtain ⟨i, i1, i2⟩ := c7 k (by omega) (by rw [k2]; omega)
    obtain ⟨-, -, q2, -⟩ := c5 i i1
    exact ⟨i, by rw [ec]; omega, by rw [q2, i2]; exact k2⟩
  · rw [ec]; omega
  · rw [ec]; omega
  · rw [ec] at hk
    obtain ⟨q0, -, q2, -⟩ := c5 k (by omega)
    rw [q2]
    exact a3 (g k) (by rw [eL]; omega)
  · rw [ec] at hk hj
    obtain ⟨q0, -, q2, -⟩ := c5 k (by omega)
    obtain ⟨r0, -, r2, -⟩ := c5 j (by omega)
    rw [q2, r2] at e
    exact gi k j (by omega) (by omega) (a4 _ _ (by rw [eL]; omega) (by rw [eL]; omega) e)
end
