/-! stretches of both with hooks that wait: all but the code -/
set_option maxRecDepth 100000
/-- a stretch, but for what its code does -/
def XTF (m0 w0 : MS) (K : Nat → Nat) (T : Nat) (nm Nk : Nat → Nat) (g : Bool) (L : List Nat) (lo hi a b cm cm2 q r : Nat) (Q Q2 : Nat → Nat) (sc sc2 : SCT) (m w m2 w2 : MS) : Prop := (lo ≤ hi ∧ a ≤ b ∧ cm ≤ cm2 ∧ q ≤ r) ∧ XCS m0 nm m2 b cm2 sc2 g ∧ (XRS w0 T w2 hi Q2 sc2 ∧ Q2 56 = r) ∧ tot sc2 ≤ tot sc + (hi - lo) ∧ (∃ W, HDx nm Nk K W lo hi sc sc2 ∧ m2.2.2.1 42 = wup (m.2.2.1 42) K W lo hi) ∧ XFC m m2 a q r (sc.length - 1) ∧ XRF w w2 Q Q2 ∧ (g = true → (hdS sc2).1 = (hdS sc).1) ∧ (∀ n, n ∈ L → Q 32 ≤ n ∧ n < Q2 32)
/-- all of what is known at the end, but for the hooks hs and what follows the parts ps -/
def FNx (w0 : MS) (fof cvr : Int → Int → Int) (C : Nat → Int) (P R : Nat → Nat → Int) (J : Nat → Int64) (m w : MS) (a b q r : Nat) (Q Q2 : Nat → Nat) (lst : Bool) (L hs ps : List Nat) : Prop := (∀ k, a ≤ k → k < b → k ∉ hs → C k = A m 23 k) ∧ AGQ P m q r ∧ GRS R w0 ∧ ((∀ k n, k ≠ 27 → k ≠ 29 → k ≠ 30 → k ≠ 34 → grp k ∈ [32, 39, 46, 56, 58] → Q (grp k) ≤ n → n < Q2 (grp k) → (k = 45 → n ∉ ps) → R k n = A w k n) ∧ (∀ n, Q 32 ≤ n → n < Q2 32 → R 23 n ≠ 12 → R 23 n ≠ 15 → R 27 n = A w 27 n) ∧ (∀ n, Q 32 ≤ n → n < Q2 32 → R 30 n = if lst = true ∧ n ∈ L then 1 else A w 30 n) ∧ ∀ n, Q 39 ≤ n → n < Q2 39 → J n = w.2.2.2 34 n) ∧ RQX fof cvr R (Q 32) (Q2 32)
section
variable {m0 w0 m w m2 w2 m3 w3 v u : MS} {K nm Nk W W2 : Nat → Nat} {T a b c cm cm2 cm3 q r s lo mid hi i j f f2 n x k p σ a3 b3 q3 r3 : Nat} {Q Q2 Q3 Q4 : Nat → Nat} {sc sc2 sc3 t : SCT} {g lst : Bool} {L L1 L2 L3 hs ps hs2 ps2 : List Nat} {fof cvr : Int → Int → Int} {C : Nat → Int} {P R : Nat → Nat → Int} {J : Nat → Int64} {H O : List Nat} {y : Option (Nat × Nat × Nat)}
theorem XTF_len (h : XTF m0 w0 K T nm Nk g L lo mid a b cm cm2 q r Q Q2 sc sc2 m w m2 w2) : sc2.length = sc.length := by
  obtain ⟨W, a5, -⟩ := h.2.2.2.2.1
  exact NWX_len (a5.2 rfl).2
theorem XTF_of (h : XTR m0 w0 K T nm Nk fof cvr lst g L lo hi a b cm cm2 q r Q Q2 sc sc2 m w m2 w2) : XTF m0 w0 K T nm Nk g L lo hi a b cm cm2 q r Q Q2 sc sc2 m w m2 w2 ∧ CDX w0 nm fof cvr lst g L a b cm2 q r Q Q2 sc sc2 m2 w2 := by
  obtain ⟨a1, a2, a3, a4, a5, a6, a7, a8, a9, a10⟩ := h
  exact ⟨⟨a1, a2, a3, a4, a5, a6, a7, a8, a9⟩, a10⟩
theorem XTR_of (h : XTF m0 w0 K T nm Nk g L lo hi a b cm cm2 q r Q Q2 sc sc2 m w m2 w2) (k : CDX w0 nm fof cvr lst g L a b cm2 q r Q Q2 sc sc2 m2 w2) : XTR m0 w0 K T nm Nk fof cvr lst g L lo hi a b cm cm2 q r Q Q2 sc sc2 m w m2 w2 := by
  obtain ⟨a1, a2, a3, a4, a5, a6, a7, a8, a9⟩ := h
  exact ⟨a1, a2, a3, a4, a5, a6, a7, a8, a9, k⟩
theorem XTF_tr (h : XTF m0 w0 K T nm Nk g L1 lo mid a b cm cm2 q r Q Q2 sc sc2 m w m2 w2) (k : XTF m0 w0 K T nm Nk g L2 mid hi b c cm2 cm3 r s Q2 Q3 sc2 sc3 m2 w2 m3 w3) : XTF m0 w0 K T nm Nk g (L1 ++ L2) lo hi a c cm cm3 q s Q Q3 sc sc3 m w m3 w3 := by
  obtain ⟨a1, a2, a3, a4, ⟨W, a5, a6⟩, a7, a8, a9, a10⟩ := h
  obtain ⟨b1, b2, b3, b4, ⟨W2, b5, b6⟩, b7, b8, b9, b10⟩ := k
  have ln : sc2.length = sc.length := NWX_len (a5.2 rfl).2
  rw [ln] at b7
  have q32 : Q 32 ≤ Q2 32 := a8.2.1 32 (by decide)
  have q32b : Q2 32 ≤ Q3 32 := b8.2.1 32 (by decide)
  refine ⟨⟨by omega, by omega, by omega, by omega⟩, b2, b3, by omega, ⟨mrw mid W W2, HDx_cat a1.1 b1.1 a5 b5, ?_⟩, XFC_tr a7 b7 a1.2.1 a1.2.2.2 b1.2.2.2, XFR_tr a8 b8, fun z => (b9 z).trans (a9 z), fun n hn => ?_⟩
  · rw [b6, a6, wup_cat a1.1 b1.1]
  · rcases List.mem_append.mp hn with z | z
    · have := a10 n z; omega
    · have := b10 n z; omega
/-- what is known of all is known of a part of it that none of these lies in -/
theorem FNx_sub (h : FNx w0 fof cvr C P R J m3 w3 a3 b3 q3 r3 Q3 Q4 lst L3 hs ps) (ha : a3 ≤ a ∧ b ≤ b3) (hq : q3 ≤ q ∧ r ≤ r3) (h1 : QLE Q3 Q) (h2 : QLE Q2 Q4) (hc : ∀ j, a ≤ j → j < b → m3.2.2.1 23 j = m.2.2.1 23 j) (hp : ∀ k u, 30 ≤ k → k ≤ 32 → q ≤ u → u < r → m3.2.2.1 k u = m.2.2.1 k u) (hs1 : SAM w w3 Q Q2) (hl : ∀ n, Q 32 ≤ n → n < Q2 32 → (if lst = true ∧ n ∈ L3 then 1 else A w3 30 n) = if lst = true ∧ n ∈ L then 1 else A w 30 n) (n1 : ∀ j, j ∈ hs → j < a ∨ b ≤ j) (n2 : ∀ j, j ∈ ps → j < Q 46 ∨ Q2 46 ≤ j) : FNd w0 fof cvr C P R J m w a b q r Q Q2 lst L := by
  obtain ⟨g1, g2, g3, ⟨g4, g5, g6, g7⟩, g8⟩ := h
  have hA : ∀ k n, grp k ≠ 0 → k ≠ 29 → k ≠ 30 → Q (grp k) ≤ n → n < Q2 (grp k) → A w3 k n = A w k n := fun k n x1 x2 x3 x4 x5 => congrArg Int32.toInt (hs1.1 k n x1 x2 x3 x4 x5)
  have lo32 : ∀ n, Q 32 ≤ n → Q3 32 ≤ n := fun n z => Nat.le_trans (h1 32 (by decide)) z
  have hi32 : ∀ n, n < Q2 32 → n < Q4 32 := fun n z => Nat.lt_of_lt_of_le z (h2 32 (by decide))
  refine ⟨fun j z1 z2 => ?_, fun k u z1 z2 z3 z4 => ?_, g3, ⟨fun k n z1 z2 z3 z4 z5 z6 z7 => ?_, fun n z1 z2 z3 z4 => ?_, fun n z1 z2 => ?_, fun n z1 z2 => ?_⟩, fun n z1 z2 => g8 n (lo32 n z1) (hi32 n z2)⟩
  · rw [g1 j (by omega) (by omega) (fun y => by have := n1 j y; omega)]
    exact congrArg Int32.toInt (hc j z1 z2)
  · rw [g2 k u z1 z2 (by omega) (by omega)]
    exact congrArg Int32.toInt (hp k u z1 z2 z3 z4)
  · have g0 : grp k ≠ 0 := fun z => by rw [z] at z5; revert z5; decide
    rw [g4 k n z1 z2 z3 z4 z5 (Nat.le_trans (h1 _ (grp_m g0)) z6) (Nat.lt_of_lt_of_le z7 (h2 _ (grp_m g0))) (fun e y => by
      subst e
      have z6 : Q 46 ≤ n := z6
      have z7 : n < Q2 46 := z7
      have := n2 n y
      omega)]
    exact hA k n g0 z2 z3 z6 z7
  · rw [g5 n (lo32 n z1) (hi32 n z2) z3 z4]
    exact hA 27 n (by decide) (by decide) (by decide) z1 z2
  · rw [g6 n (lo32 n z1) (hi32 n z2)]
    exact hl n z1 z2
  · rw [g7 n (Nat.le_trans (h1 39 (by decide)) z1) (Nat.lt_of_lt_of_le z2 (h2 39 (by decide)))]
    exact hs1.2 n z1 z2
/-- nothing waits -/
theorem FNx_0 (h : FNd w0 fof cvr C P R J m w a b q r Q Q2 lst L) : FNx w0 fof cvr C P R J m w a b q r Q Q2 lst L hs ps := by
  obtain ⟨g1, g2, g3, ⟨g4, g5, g6, g7⟩, g8⟩ := h
  exact ⟨fun k k1 k2 _ => g1 k k1 k2, g2, g3, ⟨fun k n z1 z2 z3 z4 z5 z6 z7 _ => g4 k n z1 z2 z3 z4 z5 z6 z7, g5, g6, g7⟩, g8⟩
/-- fewer wait -/
theorem FNx_mo (h : FNx w0 fof cvr C P R J m3 w3 a3 b3 q3 r3 Q3 Q4 lst L3 hs ps) (ha : a3 ≤ a ∧ b ≤ b3) (hq : q3 ≤ q ∧ r ≤ r3) (h1 : QLE Q3 Q) (h2 : QLE Q2 Q4) (hc : ∀ j, a ≤ j → j < b → j ∉ hs2 → m3.2.2.1 23 j = m.2.2.1 23 j) (hp : ∀ k u, 30 ≤ k → k ≤ 32 → q ≤ u → u < r → m3.2.2.1 k u = m.2.2.1 k u) (hs1 : ∀ k n, grp k ≠ 0 → k ≠ 29 → k ≠ 30 → Q (grp k) ≤ n → n < Q2 (grp k) → (k = 45 → n ∉ ps2) → w3.2.2.1 k n = w.2.2.1 k n) (hj : ∀ n, Q 39 ≤ n → n < Q2 39 → w3.2.2.2 34 n = w.2.2.2 34 n) (hl : ∀ n, Q 32 ≤ n → n < Q2 32 → (if lst = true ∧ n ∈ L3 then 1 else A w3 30 n) = if lst = true ∧ n ∈ L then 1 else A w 30 n) (n1 : ∀ j, j ∈ hs → a ≤ j → j < b → j ∈ hs2) (n2 : ∀ j, j ∈ ps → Q 46 ≤ j → j < Q2 46 → j ∈ ps2) : FNx w0 fof cvr C P R J m w a b q r Q Q2 lst L hs2 ps2 := by
  obtain ⟨g1, g2, g3, ⟨g4, g5, g6, g7⟩, g8⟩ := h
  have lo32 : ∀ n, Q 32 ≤ n → Q3 32 ≤ n := fun n z => Nat.le_trans (h1 32 (by decide)) z
  have hi32 : ∀ n, n < Q2 32 → n < Q4 32 := fun n z => Nat.lt_of_lt_of_le z (h2 32 (by decide))
  refine ⟨fun j z1 z2 z3 => ?_, fun k u z1 z2 z3 z4 => ?_, g3, ⟨fun k n z1 z2 z3 z4 z5 z6 z7 z8 => ?_, fun n z1 z2 z3 z4 => ?_, fun n z1 z2 => ?_, fun n z1 z2 => ?_⟩, fun n z1 z2 => g8 n (lo32 n z1) (hi32 n z2)⟩
  · rw [g1 j (by omega) (by omega) (fun y => z3 (n1 j y z1 z2))]
    exact congrArg Int32.toInt (hc j z1 z2 z3)
  · rw [g2 k u z1 z2 (by omega) (by omega)]
    exact congrArg Int32.toInt (hp k u z1 z2 z3 z4)
  · have g0 : grp k ≠ 0 := fun z => by rw [z] at z5; revert z5; decide
    rw [g4 k n z1 z2 z3 z4 z5 (Nat.le_trans (h1 _ (grp_m g0)) z6) (Nat.lt_of_lt_of_le z7 (h2 _ (grp_m g0))) (fun e y => by
      subst e
      exact z8 rfl (n2 n y z6 z7))]
    exact congrArg Int32.toInt (hs1 k n g0 z2 z3 z6 z7 z8)
  · rw [g5 n (lo32 n z1) (hi32 n z2) z3 z4]
    exact congrArg Int32.toInt (hs1 27 n (by decide) (by decide) (by decide) z1 z2 (fun e => by cases e))
  · rw [g6 n (lo32 n z1) (hi32 n z2)]
    exact hl n z1 z2
  · rw [g7 n (Nat.le_trans (h1 39 (by decide)) z1) (Nat.lt_of_lt_of_le z2 (h2 39 (by decide)))]
    exact hj n z1 z2
end
