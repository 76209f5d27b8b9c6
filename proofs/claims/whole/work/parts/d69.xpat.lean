/-! a PATTERN among expressions, both -/
set_option maxRecDepth 100000
section
variable {α β : Type} {m0 w0 m w m2 w2 m3 w3 v u : MS} {K nm Nk W W2 : Nat → Nat} {N T D d o a b c cm cm2 q r s lo hi f n x xa xb pi pj pn : Nat} {Q Q2 Q3 Q4 : Nat → Nat} {sc sc2 sc3 : SCT} {g lst : Bool} {L hs ps : List Nat} {fof cvr : Int → Int → Int} {C : Nat → Int} {P R : Nat → Nat → Int} {J : Nat → Int64} {H O : List Nat} {z : Unit} {rt : Int32}
/-- what a PATTERN is, as a stretch -/
theorem XTF_pt (hC : XCS m0 nm m a cm sc false) (hR : XRS w0 T w lo Q sc) (hq : Q 56 = q) (hlh : lo ≤ hi) (h : PTZ m0 w0 K T nm Nk f lo hi false a cm (Q 39) sc m w m2 z w2 rt) : ∃ (pn b pj cm2 : Nat) (sc2 : SCT), rt = I (pn : Nat) ∧ (Q 39 ≤ pn ∧ pn < pj ∧ w2.2.2.1 37 pn = -1) ∧ a < b ∧ XTF m0 w0 K T nm Nk false [] lo hi a b cm cm2 q q Q (qst Q 39 pj) sc sc2 m w m2 w2 ∧ (∀ k, k < 33 ∨ (38 < k ∧ k < 59) ∨ 64 < k → w2.2.2.1 k = w.2.2.1 k) ∧ (∀ k, k ≠ 39 → k ≠ 66 → k ≠ 69 → w2.1 k = w.1 k) ∧ ∀ C R J H, AGC C m2 a b → GRS R w0 → AGP R J w2 (Q 39) pj pn → HPX nm sc2 H → PTs C R J H f a pn (Onm nm sc) b (Onm nm sc2) := by
  obtain ⟨pn, b, pj, cm2, sc2, W, h1, h2, h3, h4, h5, ⟨h6, h7⟩, h8, h9, h10, h11, h12⟩ := h
  have pj5 : pj ≤ 5000 := h5.2.2.2.2.2.2
  refine ⟨pn, b, pj, cm2, sc2, h1, h2, h3, ⟨⟨hlh, by omega, ?_, Nat.le_refl _⟩, ⟨h4, ?_⟩, ⟨⟨by rw [qst_at]; exact h5, fun k hk => ?_⟩, by rw [qst_no (by decide)]; exact hq⟩, h7, ⟨W, HDx_of h8, h9⟩, XFC_P h10, ⟨QRR_P h11 (Nat.le_refl _), QLE_st QLE_rf (by omega), by rw [qst_no (by decide), qst_no (by decide), qst_no (by decide)]; exact ⟨rfl, rfl, rfl⟩⟩, fun y => (by cases y), fun n hn => (by cases hn)⟩, h11.2.1, h11.1, h12⟩
  · cases sc with
    | nil => exact h6.elim
    | cons e t =>
      cases sc2 with
      | nil => exact h6.elim
      | cons e2 t2 => exact h6.2.2
  · rw [h10.1 712 (by decide) (by decide)]; exact hC.2
  · by_cases y : k = 39
    · subst y
      rw [qst_at]
      exact ⟨h5.2.2.2.2.2.1, by omega⟩
    · rw [qst_no y, h11.1 k y (by rintro rfl; revert hk; decide) (by rintro rfl; revert hk; decide)]
      exact hR.2 k hk
/-- rows of PATTERNS at the end -/
theorem FNd_AGP (h : FNd w0 fof cvr C P R J m3 w3 a b q r Q Q2 lst L) (h2 : ∀ q, pi ≤ q → q < pj → Q 39 ≤ q ∧ q < Q2 39 ∧ (∀ k, 33 ≤ k → k ≤ 38 → k ≠ 37 → w3.2.2.1 k q = w2.2.2.1 k q) ∧ w3.2.2.2 34 q = w2.2.2.2 34 q ∧ (q ≠ pn → w3.2.2.1 37 q = w2.2.2.1 37 q)) : AGP R J w2 pi pj pn := fun q q1 q2 => by
  obtain ⟨a1, a2, a3, a4, a5⟩ := h2 q q1 q2
  obtain ⟨-, -, -, ⟨g4, -, -, g7⟩, -⟩ := h
  have e : ∀ k, 33 ≤ k → k ≤ 38 → k ≠ 34 → k ≠ 37 → R k q = A w2 k q := fun k k1 k2 k3 k4 => by
    have gk : grp k = 39 := by unfold grp; rw [if_neg (by omega), if_pos ⟨k1, k2⟩]
    rw [g4 k q (by omega) (by omega) (by omega) k3 (by rw [gk]; decide) (by rw [gk]; exact a1) (by rw [gk]; exact a2)]
    exact congrArg Int32.toInt (a3 k k1 k2 k4)
  refine ⟨e 33 (by decide) (by decide) (by decide) (by decide), e 35 (by decide) (by decide) (by decide) (by decide), e 36 (by decide) (by decide) (by decide) (by decide), e 38 (by decide) (by decide) (by decide) (by decide), (g7 q a1 a2).trans a4, fun y => ?_⟩
  rw [g4 37 q (by decide) (by decide) (by decide) (by decide) (by decide) a1 a2]
  exact congrArg Int32.toInt (a5 y)
end
