def TKI (w : MS) (tn : Nat) (bw : Nat → Nat) : Prop := ∀ i, i < tn → (1 ≤ A w 6 i ∧ A w 6 i ≤ 7 ∧ (A w 6 i = 1 → 0 ≤ A w 7 i ∧ A w 7 i < F w 14) ∧ (A w 6 i = 2 → 0 ≤ A w 7 i ∧ A w 7 i < F w 17) ∧ (A w 6 i = 3 → 0 ≤ A w 7 i ∧ A w 7 i ≤ 14) ∧ (A w 6 i = 5 → 0 ≤ A w 7 i ∧ A w 7 i < F w 20)) ∧ (bw i + 1 ≤ bw (i + 1) ∧ (A w 6 i = 3 → A w 7 i = 6 ∨ A w 7 i = 7 → bw i + 3 ≤ bw (i + 1)) ∧ (A w 6 i = 6 → A w 7 i = 10 → bw i + 2 ≤ bw (i + 1)) ∧ (A w 6 i = 5 → bw i + 2 ≤ bw (i + 1)) ∧ (A w 6 i = 3 → A w 7 i = 6 → bw i + 4 ≤ bw (i + 1) + nu w i))
def G27 : List Int32 := [65, 66, 67, 68, 69, 70, 71, 72, 73, 74, 75, 76, 77, 78, 79, 80, 81, 82, 83, 84, 85, 86, 87, 88, 89, 90, 95]
def NMI (w : MS) (n1 n2 : Nat) : Prop := F w 17 = ((n1 + n2 : Nat) : Int) ∧ TBX w 16 (n1 + n2) ∧ ∃ seen : Int32 → Bool, n1 ≤ G27.countP seen ∧ ∀ c, seen c = true → ∃ k, k < n1 + n2 ∧ A w 16 (k + 1) - A w 16 k = 1 ∧ w.2.2.1 15 (A w 16 k).toNat = c
def SRI (w : MS) : Prop := 0 ≤ F w 20 ∧ F w 20 ≤ 2001 ∧ ∀ s : Nat, (s : Int) ≤ F w 20 → 0 ≤ A w 19 s ∧ A w 19 s ≤ 4002 ∧ ((s : Int) < F w 20 → A w 19 s ≤ A w 19 (s + 1))
def TB0 (w : MS) : Prop := A w 13 0 = 0 ∧ A w 16 0 = 0 ∧ A w 19 0 = 0
def TBI (w : MS) (p : Int) : Prop := TB0 w ∧ (22 ≤ F w 14 ∧ ATX w ∧ A w 13 (F w 14).toNat ≤ 139 + p) ∧ (SRI w ∧ 2 * F w 20 ≤ p ∧ A w 19 (F w 20).toNat ≤ p) ∧ ∃ n1 n2 : Nat, NMI w n1 n2 ∧ A w 16 (n1 + n2) ≤ p ∧ 2 * (F w 14 - 22) + 2 * n1 + 3 * n2 ≤ F w 5 + 1 ∧ 2 * (F w 14 - 22) + 2 * n1 + 3 * n2 ≤ p + 1 ∧ (inB (byI w p) → 2 * (F w 14 - 22) + 2 * n1 + 3 * n2 ≤ p)
def RDI (u w : MS) (tn : Nat) (p : Int) (bw : Nat → Nat) : Prop := FR [9, 10, 11, 14, 17, 20] [] [6, 7, 8, 12, 13, 15, 16, 18, 19] [] u w ∧ (F w 9 = ((tn : Nat) : Int) ∧ F w 10 = p) ∧ (bw 0 = 0 ∧ TKI w tn bw) ∧ ((bw tn : Int) ≤ p ∧ (bw tn : Int) ≤ F w 5 ∧ p ≤ F w 5 + 1) ∧ (0 < tn → (1 ≤ A w 6 (tn - 1) ∧ A w 6 (tn - 1) ≤ 4) → ¬ inB (byI w (bw tn))) ∧ TBI w p
section
variable {u w w1 x : MS} {tn e : Nat} {p p2 s y : Int} {bw : Nat → Nat}
theorem TKI_le (h : TKI w tn bw) (h0 : bw 0 = 0) : ∀ i, i ≤ tn → i ≤ bw i := by
  intro i
  induction i with
  | zero => intro _; exact Nat.zero_le _
  | succ i ih => intro hi; have := ih (by omega); have := (h i (by omega)).2.1; omega
theorem byI_fr (h4 : ∀ i, w1.2.2.1 4 i = w.2.2.1 4 i) (h5 : F w1 5 = F w 5) (k : Int) : byI w1 k = byI w k := by unfold byI; rw [h5, h4]
theorem RDI_tok (h : RDI u w tn p bw) (f : FR [14, 17, 20] [] [12, 13, 15, 16, 18, 19] [] w w1) (hm : F w 14 ≤ F w1 14 ∧ F w 17 ≤ F w1 17 ∧ F w 20 ≤ F w1 20) (he : bw tn + 1 ≤ e ∧ (e : Int) ≤ p2 ∧ (e : Int) ≤ F w 5 ∧ p2 ≤ F w 5 + 1) (hs : 1 ≤ s ∧ s ≤ 7 ∧ (s = 1 → 0 ≤ y ∧ y < F w1 14) ∧ (s = 2 → 0 ≤ y ∧ y < F w1 17) ∧ (s = 3 → 0 ≤ y ∧ y ≤ 14) ∧ (s = 5 → 0 ≤ y ∧ y < F w1 20)) (hb : (s = 3 → y = 6 ∨ y = 7 → bw tn + 3 ≤ e) ∧ (s = 6 → y = 10 → bw tn + 2 ≤ e) ∧ (s = 5 → bw tn + 2 ≤ e) ∧ (s = 3 → y = 6 → bw tn + 4 ≤ e + nu w tn)) (hn : s ≤ 4 → ¬ inB (byI w e)) (ry : RG y) (h5 : 0 ≤ F w 5 ∧ F w 5 ≤ 4000) (ht : x = wi (tkn w1 s y) 10 p2) (tb : TBI x p2) : RDI u x (tn + 1) p2 (fun i => if i ≤ tn then bw i else e) := by
  obtain ⟨a1, ⟨a2, a3⟩, ⟨a4, a5⟩, a6, a7, a8⟩ := h
  have tl := TKI_le a5 a4 tn (Nat.le_refl _)
  have f9 : F w1 9 = ((tn : Nat) : Int) := (f.F (by decide)).trans a2
  have f5 : F w1 5 = F w 5 := f.F (by decide)
  have xF : ∀ k, k ≠ 9 → k ≠ 10 → F x k = F w1 k := fun k h1 h2 => by
    rw [ht, wi_ne h2]; unfold tkn; rw [wi_ne h1, F_wa, F_wa, F_wa]
  have x9 : F x 9 = ((tn + 1 : Nat) : Int) := by
    rw [ht, wi_ne (by decide)]; unfold tkn; rw [wi_eq ⟨by omega, by omega⟩]; omega
  have x10 : F x 10 = p2 := by rw [ht]; exact wi_eq ⟨by omega, by omega⟩
  have et : (F w1 9).toNat = tn := by omega
  have xA : ∀ r j, r ≠ 6 → r ≠ 7 → r ≠ 8 → x.2.2.1 r j = w1.2.2.1 r j := fun r j h1 h2 h3 => by
    rw [ht]; unfold tkn
    show (if r = 8 then _ else (if r = 7 then _ else (if r = 6 then _ else w1.2.2.1 r))) j = _
    rw [if_neg h3, if_neg h2, if_neg h1]
  have xo : ∀ r j, j ≠ tn → A x r j = A w1 r j := fun r j hj => by
    rw [ht]; unfold tkn
    show A (wa (wa (wa w1 6 (F w1 9).toNat s) 7 (F w1 9).toNat y) 8 (F w1 9).toNat (F w1 11)) r j = _
    rw [et, wa_ne hj, wa_ne hj, wa_ne hj]
  have x6 : A x 6 tn = s := by
    rw [ht]; unfold tkn
    show A (wa (wa (wa w1 6 (F w1 9).toNat s) 7 (F w1 9).toNat y) 8 (F w1 9).toNat (F w1 11)) 6 tn = _
    rw [et, wa_rne (by decide), wa_rne (by decide)]; exact wa_eq ⟨by omega, by omega⟩
  have x7 : A x 7 tn = y := by
    rw [ht]; unfold tkn
    show A (wa (wa (wa w1 6 (F w1 9).toNat s) 7 (F w1 9).toNat y) 8 (F w1 9).toNat (F w1 11)) 7 tn = _
    rw [et, wa_rne (by decide)]; exact wa_eq ry
  have wA : ∀ r j, r ∈ [6, 7] → A w1 r j = A w r j := fun r j hr => f.A (by
    have : ∀ r, r ∈ [6, 7] → r ∉ [12, 13, 15, 16, 18, 19] := by decide
    exact this r hr)
  have xn : ∀ i, i ≤ tn → nu x i = nu w i := fun i hi => by
    unfold nu
    split
    · rfl
    · rw [xo 6 (i - 1) (by omega), wA 6 _ (by decide)]
  have by5 : ∀ k, byI x k = byI w k := byI_fr (fun i => (xA 4 i (by decide) (by decide) (by decide)).trans (by
    have := f.2.2.1 4 (by decide)
    rw [this])) ((xF 5 (by decide) (by decide)).trans f5)
  have fx : FR [9, 10, 11, 14, 17, 20] [] [6, 7, 8, 12, 13, 15, 16, 18, 19] [] w1 x := by
    rw [ht]; unfold tkn
    exact FR.wi (FR.wi (FR.wa (FR.wa (FR.wa FR.rf (by decide)) (by decide)) (by decide)) (by decide)) (by decide)
  refine ⟨FR.tr (FR.tr a1 (FR.mo f (by decide) (by decide) (by decide) (by decide))) fx, ⟨x9, x10⟩, ⟨by simp only [Nat.zero_le, if_true]; exact a4, fun i hi => ?_⟩, ?_, fun _ q => ?_, tb⟩
  · by_cases z : i < tn
    · simp only [show i ≤ tn by omega, show i + 1 ≤ tn by omega, if_true]
      rw [xo 6 i (by omega), xo 7 i (by omega), wA 6 i (by decide), wA 7 i (by decide), xn i (by omega), xF 14 (by decide) (by decide), xF 17 (by decide) (by decide), xF 20 (by decide) (by decide)]
      obtain ⟨⟨b1, b2, b3, b4, b5, b6⟩, b7⟩ := a5 i z
      exact ⟨⟨b1, b2, fun q => by have := b3 q; omega, fun q => by have := b4 q; omega, b5, fun q => by have := b6 q; omega⟩, b7⟩
    · obtain rfl : i = tn := by omega
      simp only [Nat.le_refl, if_true, show ¬ (i + 1 ≤ i) by omega, if_false]
      rw [x6, x7, xn i (Nat.le_refl _), xF 14 (by decide) (by decide), xF 17 (by decide) (by decide), xF 20 (by decide) (by decide)]
      exact ⟨hs, he.1, hb⟩
  · simp only [show ¬ (tn + 1 ≤ tn) by omega, if_false]
    rw [xF 5 (by decide) (by decide), f5]; omega
  · simp only [show ¬ (tn + 1 ≤ tn) by omega, if_false]
    rw [by5]
    rw [Nat.add_sub_cancel, x6] at q
    exact hn q.2
end
