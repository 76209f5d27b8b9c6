set_option maxRecDepth 100000
def SGp (P : (Nat → Option Tyc) → MS → Prop) (u : MS) (a b q r : Nat) (H : List (Nat × Tyc)) (y : Tyc) (o : Option Tyc) : Prop := (a ≤ b ∧ q ≤ r) ∧ (a = b → o = some y) ∧ (∀ p t, (p, t) ∈ H → a ≤ p ∧ p < b) ∧ ∃ T0 : Nat → Option Tyc, (a < b → T0 a = some y) ∧ ∀ (v : MS) (T : Nat → Option Tyc), (∀ j, a ≤ j → j < b → (∀ t, (j, t) ∉ H) → A v 23 j = A u 23 j) → TBLc u v q r → (∀ i, a ≤ i → i < b → T i = T0 i) → (∀ y1, o = some y1 → T b = some y1) → (∀ p t, (p, t) ∈ H → ∃ d : Nat, A v 23 p = ((d : Nat) : Int) ∧ b ≤ d ∧ T d = some t) → P T v → (∀ i h m L g x, a ≤ i → i < b → T i = some (h, m, L, g, x) → WFi T v i h m L g x) ∧ PLSc T v q r
section
variable {T : Nat → Option Tyc} {u v w : MS} {a b c e q r s z h m h1 m1 g x n k i f : Nat} {L : List Nat} {H H1 H2 : List (Nat × Tyc)} {y y1 : Tyc} {o : Option Tyc} {P P1 P2 : (Nat → Option Tyc) → MS → Prop}
theorem SP_of (y : SGc u a b q r H z h m L g x o) : SGp (fun T v => ARc T v a b z m L g x) u a b q r H (h, m, L, g, x) o := y
theorem SP_to (y : SGp (fun T v => ARc T v a b z m L g x) u a b q r H (h, m, L, g, x) o) : SGc u a b q r H z h m L g x o := y
theorem SP_seq (y0 : SGp P1 u a b q s H1 y (some y1)) (y2 : SGp P2 u b c s r H2 y1 o) (f1 : ∀ v T, (∀ j, a ≤ j → j < c → (∀ t, (j, t) ∉ H1 ++ H2) → A v 23 j = A u 23 j) → T a = some y → T b = some y1 → (∀ y3, o = some y3 → T c = some y3) → (∀ p t, (p, t) ∈ H1 ++ H2 → ∃ d : Nat, A v 23 p = ((d : Nat) : Int) ∧ c ≤ d ∧ T d = some t) → P T v → P1 T v ∧ P2 T v) : SGp P u a c q r (H1 ++ H2) y o := by
  obtain ⟨⟨z1, z1'⟩, z2, z3, T1, z4, z5⟩ := y0
  obtain ⟨⟨w1, w1'⟩, y2, y3, T2, y4, y5⟩ := y2
  have ab : a = b → _ := fun e => z2 e
  refine ⟨⟨by omega, by omega⟩, fun e => ?_, fun p t hp => ?_, fun i => if i < b then T1 i else T2 i, fun hac => ?_, fun v T ha ht hT ho hH hX => ?_⟩
  · have e1 := ab (by omega)
    rw [y2 (by omega)]
    exact e1
  · rcases List.mem_append.mp hp with hp | hp
    · have := z3 p t hp; omega
    · have := y3 p t hp; omega
  · show (if a < b then T1 a else T2 a) = _
    by_cases e : a < b
    · rw [if_pos e]; exact z4 e
    · have e2 : a = b := by omega
      have e3 := ab e2
      rw [if_neg e, e2, y4 (by omega)]
      exact e3
  · have hT1 : ∀ i, a ≤ i → i < b → T i = T1 i := fun i i1 i2 => by
      rw [hT i i1 (by omega)]
      show (if i < b then T1 i else T2 i) = _
      rw [if_pos i2]
    have hT2 : ∀ i, b ≤ i → i < c → T i = T2 i := fun i i1 i2 => by
      rw [hT i (by omega) i2]
      show (if i < b then T1 i else T2 i) = _
      rw [if_neg (by omega)]
    have hb : T b = some y1 := by
      by_cases e : b < c
      · rw [hT2 b (Nat.le_refl _) e]; exact y4 e
      · have e2 : b = c := by omega
        rw [e2]; exact ho _ (y2 e2)
    have hTa : T a = some y := by
      by_cases e : a < b
      · rw [hT1 a (Nat.le_refl _) e]; exact z4 e
      · have e2 : a = b := by omega
        rw [e2, hb]; exact ab e2
    obtain ⟨hX1, hX2⟩ := f1 v T ha hTa hb ho hH hX
    obtain ⟨r1, r2⟩ := z5 v T (fun j j1 j2 j3 => ha j j1 (by omega) (fun t hp => by
      rcases List.mem_append.mp hp with hp | hp
      · exact j3 t hp
      · have := y3 j t hp; omega)) (ht.mo (Nat.le_refl _) w1') hT1 (fun y9 e => by injection e with e; rw [← e]; exact hb) (fun p t hp => by
        obtain ⟨d, d1, d2, d3⟩ := hH p t (List.mem_append.mpr (Or.inl hp))
        exact ⟨d, d1, by omega, d3⟩) hX1
    obtain ⟨r3, r4⟩ := y5 v T (fun j j1 j2 j3 => ha j (by omega) j2 (fun t hp => by
      rcases List.mem_append.mp hp with hp | hp
      · have := z3 j t hp; omega
      · exact j3 t hp)) (ht.mo z1' (Nat.le_refl _)) hT2 ho (fun p t hp => hH p t (List.mem_append.mpr (Or.inr hp))) hX2
    refine ⟨fun i h m L g x i1 i2 e => ?_, fun pl p1 p2 => ?_⟩
    · rcases Nat.lt_or_ge i b with i3 | i3
      · exact r1 i h m L g x i1 i3 e
      · exact r3 i h m L g x i3 i2 e
    · rcases Nat.lt_or_ge pl s with p3 | p3
      · exact r2 pl p1 p3
      · exact r4 pl p3 p2
theorem SP_in (hP : ∀ T v, P T v → ARc T v a (a + k) z m L g x) (hz : z ≤ h) (hk : 1 ≤ k) (hh : h ≤ 1090) (hm : m ≤ 40) (hH : ∀ p t, (p, t) ∈ H → a ≤ p ∧ p < a + k) (hin : ∀ (v : MS) (T : Nat → Option Tyc), (∀ j, a ≤ j → j < a + k → (∀ t, (j, t) ∉ H) → A v 23 j = A u 23 j) → TBLc u v q q → T a = some (h, m, L, g, x) → (∀ y1, o = some y1 → T (a + k) = some y1) → (∀ p t, (p, t) ∈ H → ∃ d : Nat, A v 23 p = ((d : Nat) : Int) ∧ a + k ≤ d ∧ T d = some t) → P T v → IN1 T v a h m L g x ∨ IN2 T v a h m L g x ∨ IN3 T v a h m L g x) : SGp P u a (a + k) q q H (h, m, L, g, x) o := by
  refine ⟨⟨by omega, Nat.le_refl _⟩, fun e => absurd e (by omega), hH, fun i => if i = a then some (h, m, L, g, x) else none, fun _ => if_pos rfl, fun v T ha ht hT ho hH2 hX => ⟨fun i h2 m2 L2 g2 x2 i1 i2 e => ?_, fun pl p1 p2 => absurd p2 (by omega)⟩⟩
  rw [hT i i1 i2] at e
  have hTa : T a = some (h, m, L, g, x) := by rw [hT a (Nat.le_refl _) (by omega)]; exact if_pos rfl
  by_cases ia : i = a
  · have e2 : some (h, m, L, g, x) = some (h2, m2, L2, g2, x2) := by
      have : (if i = a then some (h, m, L, g, x) else none) = some (h2, m2, L2, g2, x2) := e
      rw [if_pos ia] at this
      exact this
    injection e2 with e2
    injection e2 with e3 e2
    injection e2 with e4 e2
    injection e2 with e5 e2
    injection e2 with e6 e7
    subst e3 e4 e5 e6 e7
    subst ia
    have hi := hin v T ha ht hTa ho hH2 hX
    obtain ⟨x1, x2, x3, x4⟩ := hP T v hX
    refine ⟨⟨x1.1, by omega⟩, ⟨hh, hm, x1.2.2⟩, ?_, fun hg => ?_, ⟨x4.1, fun q => ?_⟩, hi⟩
    · cases L with
      | nil => trivial
      | cons t M =>
        obtain ⟨y5, h2, m2, y6, y7, y8⟩ := x2
        exact ⟨by omega, h2, m2, y6, by omega, y8⟩
    · obtain ⟨g1, hg2, n, t, g2, g3, g4, g5, g6, g7, g8⟩ := x3 hg
      exact ⟨g1, hg2, n, t, g2, by omega, g4, g5, g6, by omega, g8⟩
    · rcases Nat.lt_or_ge x i with z | z
      · exact z
      · exact absurd (x4.2 (by omega)) q
  · have : (if i = a then some (h, m, L, g, x) else none) = some (h2, m2, L2, g2, x2) := e
    rw [if_neg ia] at this
    cases this
theorem SG_grd (hz : z ≤ h) (hh : h ≤ 1090) (hm : m ≤ 40) (w0 : A u 23 a = 21) (w1 : A u 23 (a + 1) = ((n : Nat) : Int)) (hn : n ≤ m) (ha : 1 ≤ a) (yb : SGc u (a + 3) b q r [] h h m L a x (some (h, m, L, a, x))) (w2 : A u 23 b = 23) : SGc u a (b + 1) q r [(a + 2, (h, m - n, L, 0, x))] z h m L 0 x (some (h, m, L, 0, x)) := by
  have i0 : SGc u a (a + 3) q q [(a + 2, (h, m - n, L, 0, x))] z h m L 0 x (some (h, m, L, a, x)) := SG_in hz (by omega) hh hm (fun p t hp => by simp at hp; omega) (fun v T hA hT hTa ho hH hX => by
    have e0 : A v 23 a = A u 23 a := hA a (Nat.le_refl _) (by omega) (fun t hp => by simp at hp)
    have e1 : A v 23 (a + 1) = A u 23 (a + 1) := hA (a + 1) (by omega) (by omega) (fun t hp => by simp at hp)
    exact Or.inr (Or.inl (Or.inr (Or.inr (Or.inr (Or.inl ⟨by rw [e0]; exact w0, rfl, n, by rw [e1]; exact w1, hn, ho _ rfl⟩))))))
  have i1 : SGc u b (b + 1) r r [] h h m L a x (some (h, m, L, 0, x)) := SG_gded (Nat.le_refl _) hh hm w2
  have i2 := SG_seq yb i1 (Nat.le_refl _) (fun _ => rfl)
  rw [List.append_nil] at i2
  have i3 := SP_seq (P := fun T v => ARc T v a (b + 1) z m L 0 x) (SP_of i0) (SP_of i2) (fun v T hA hTa hTb hTc hH hX => ?_)
  · rw [List.append_nil] at i3
    exact i3
  · have ab := yb.1.1
    refine ⟨AR_l hX (by omega), ?_⟩
    obtain ⟨d, d1, d2, d3⟩ := hH (a + 2) (h, m - n, L, 0, x) (by simp)
    have e1 : A v 23 (a + 1) = A u 23 (a + 1) := hA (a + 1) (by omega) (by omega) (fun t hp => by simp at hp)
    obtain ⟨x1, x2, x3, x4⟩ := AR_z hX hz
    refine ⟨⟨by omega, x1.2⟩, x2, fun _ => ⟨by omega, h, n, d, hTa, Nat.le_refl _, by rw [e1]; exact w1, hn, d1, d2, d3⟩, by omega, fun q => absurd q (by omega)⟩
theorem SG_cat (hz : z ≤ h) (hh : h ≤ 1090) (hm : m ≤ 40) (hL : L.length ≤ 24) (w0 : A u 23 a = 29) (w1 : A u 23 (a + 1) = ((c : Nat) : Int)) (yb : SGc u (a + 2) b q r [] h h m (c :: L) 0 0 (some (h + 1, m + k, c :: L, 0, 0))) (hk : m + k ≤ 40) (hh2 : h + 1 ≤ 1090) (w2 : A u 23 b = 30) (yf : SGc u (b + 1) c r r [] z (h + 1) (m + k) L 0 0 (some (h + 1, m, L, 0, 0))) : SGc u a c q r [] z h m L 0 0 (some (h + 1, m, L, 0, 0)) := by
  have ab := yb.1.1
  have bc := yf.1.1
  have i0 : SGp (fun T v => ARc T v a c z m L 0 0 ∧ T c = some (h + 1, m, L, 0, 0)) u a (a + 2) q q [] (h, m, L, 0, 0) (some (h, m, c :: L, 0, 0)) := by
    refine SP_in (z := z) (fun T v hX => AR_l hX.1 (by omega)) hz (by omega) hh hm (fun p t hp => (no_H hp).elim) (fun v T hA hT hTa ho hH hX => ?_)
    have e0 : A v 23 a = A u 23 a := hA a (Nat.le_refl _) (by omega) (fun t hp => by simp at hp)
    have e1 : A v 23 (a + 1) = A u 23 (a + 1) := hA (a + 1) (by omega) (by omega) (fun t hp => by simp at hp)
    exact Or.inr (Or.inl (Or.inr (Or.inr (Or.inr (Or.inr (Or.inr (Or.inr (Or.inr (Or.inr (Or.inr (Or.inl ⟨by rw [e0]; exact w0, rfl, rfl, c, by rw [e1]; exact w1, by omega, hX.2, ho _ rfl⟩)))))))))))
  have i1 : SGc u b (b + 1) r r [] h (h + 1) (m + k) (c :: L) 0 0 (some (h + 1, m + k, L, 0, 0)) := SG_in (by omega) (by omega) hh2 hk (fun p t hp => (no_H hp).elim) (fun v T hA hT hTa ho hH hX => by
    have e0 : A v 23 b = A u 23 b := hA b (Nat.le_refl _) (by omega) (fun t hp => by simp at hp)
    exact Or.inr (Or.inl (Or.inr (Or.inr (Or.inr (Or.inr (Or.inr (Or.inr (Or.inr (Or.inr (Or.inr (Or.inr ⟨by rw [e0]; exact w2, rfl, c, L, rfl, ho _ rfl⟩))))))))))))
  have i2 := SG_seq yb i1 (by omega) (fun z => absurd rfl z)
  have i3 := SP_seq (P := fun T v => ARc T v a c z m L 0 0 ∧ T c = some (h + 1, m, L, 0, 0)) i0 (SP_of i2) (fun v T hA hTa hTb hTc hH hX => ⟨hX, ?_⟩)
  · have i4 := SP_seq (P := fun T v => ARc T v a c z m L 0 0) i3 (SP_of yf) (fun v T hA hTa hTb hTc hH hX => ⟨⟨hX, hTc _ rfl⟩, AR_r hX (by omega) (by omega) (fun z => absurd rfl z)⟩)
    exact i4
  · obtain ⟨x1, x2, x3, x4⟩ := hX.1
    exact ⟨⟨by omega, by omega, by simp; omega⟩, ⟨by omega, h, m, hX.2, Nat.le_refl _, Nat.le_refl _⟩, fun z => absurd rfl z, by omega, fun z => absurd z (by omega)⟩
end
