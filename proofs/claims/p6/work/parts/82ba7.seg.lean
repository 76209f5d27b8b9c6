set_option maxRecDepth 100000
abbrev Tyc : Type := Nat × Nat × List Nat × Nat × Nat
def WFi (T : Nat → Option Tyc) (v : MS) (i h m : Nat) (L : List Nat) (g x : Nat) : Prop := (1 ≤ i ∧ i < 24000) ∧ (h ≤ 1090 ∧ m ≤ 40 ∧ L.length ≤ 25) ∧ CHc T i L h m ∧ GRc T v i h m L g x ∧ (x ≤ i ∧ (A v 23 i ≠ 32 → x < i)) ∧ (IN1 T v i h m L g x ∨ IN2 T v i h m L g x ∨ IN3 T v i h m L g x)
def ARc (T : Nat → Option Tyc) (v : MS) (a b h m : Nat) (L : List Nat) (g x : Nat) : Prop := (1 ≤ a ∧ b ≤ 24000 ∧ L.length ≤ 25) ∧ (match L with
  | [] => True
  | t :: M => b ≤ t ∧ ∃ h2 m2, T t = some (h2 + 1, m2, M, 0, 0) ∧ h2 ≤ h ∧ m2 ≤ m) ∧ (g ≠ 0 → g < a ∧ ∃ hg n t : Nat, T g = some (hg, m, L, 0, x) ∧ hg ≤ h ∧ A v 23 (g + 1) = ((n : Nat) : Int) ∧ n ≤ m ∧ A v 23 (g + 2) = ((t : Nat) : Int) ∧ b ≤ t ∧ T t = some (hg, m - n, L, 0, x)) ∧ (x ≤ a ∧ (x = a → A v 23 a = 32))
def TBLc (u v : MS) (q r : Nat) : Prop := F v 442 = F u 442 ∧ F v 449 = F u 449 ∧ F u 22 ≤ F v 22 ∧ (∀ f, A v 25 f = A u 25 f) ∧ ∀ pl, q ≤ pl → pl < r → A v 30 pl = A u 30 pl ∧ A v 31 pl = A u 31 pl ∧ A v 32 pl = A u 32 pl
def PLSc (T : Nat → Option Tyc) (v : MS) (q r : Nat) : Prop := ∀ pl, q ≤ pl → pl < r → ∃ a e p k : Nat, A v 30 pl = ((a : Nat) : Int) ∧ A v 31 pl = ((e : Nat) : Int) ∧ A v 32 pl = ((p : Nat) : Int) ∧ A v 23 p = ((k : Nat) : Int) ∧ p + k < 24000 ∧ T e = some (a, k, [], 0, 0)
def SGc (u : MS) (a b q r : Nat) (H : List (Nat × Tyc)) (z h m : Nat) (L : List Nat) (g x : Nat) (o : Option Tyc) : Prop := (a ≤ b ∧ q ≤ r) ∧ (a = b → o = some (h, m, L, g, x)) ∧ (∀ p t, (p, t) ∈ H → a ≤ p ∧ p < b) ∧ ∃ T0 : Nat → Option Tyc, (a < b → T0 a = some (h, m, L, g, x)) ∧ ∀ (v : MS) (T : Nat → Option Tyc), (∀ j, a ≤ j → j < b → (∀ t, (j, t) ∉ H) → A v 23 j = A u 23 j) → TBLc u v q r → (∀ i, a ≤ i → i < b → T i = T0 i) → (∀ y1, o = some y1 → T b = some y1) → (∀ p t, (p, t) ∈ H → ∃ d : Nat, A v 23 p = ((d : Nat) : Int) ∧ b ≤ d ∧ T d = some t) → ARc T v a b z m L g x → (∀ i h m L g x, a ≤ i → i < b → T i = some (h, m, L, g, x) → WFi T v i h m L g x) ∧ PLSc T v q r
section
variable {T : Nat → Option Tyc} {u v w : MS} {a b c q r s z z2 h m h1 m1 g x n k i : Nat} {L : List Nat} {H H1 H2 : List (Nat × Tyc)} {y1 : Tyc} {o : Option Tyc}
theorem WFT_i : (∀ i h m L g x, T i = some (h, m, L, g, x) → WFi T u i h m L g x) → WFT T u := fun z => z
theorem TBLc.rf : TBLc u u q r := ⟨rfl, rfl, by omega, fun _ => rfl, fun _ _ _ => ⟨rfl, rfl, rfl⟩⟩
theorem TBLc.tr (a : TBLc u v q r) (b : TBLc v w q r) : TBLc u w q r := by
  obtain ⟨a1, a2, a3, a4, a5⟩ := a
  obtain ⟨b1, b2, b3, b4, b5⟩ := b
  exact ⟨b1.trans a1, b2.trans a2, by omega, fun f => (b4 f).trans (a4 f), fun pl h1 h2 => ⟨(b5 pl h1 h2).1.trans (a5 pl h1 h2).1, (b5 pl h1 h2).2.1.trans (a5 pl h1 h2).2.1, (b5 pl h1 h2).2.2.trans (a5 pl h1 h2).2.2⟩⟩
theorem TBLc.mo {q2 r2 : Nat} (a : TBLc u v q r) (h1 : q ≤ q2) (h2 : r2 ≤ r) : TBLc u v q2 r2 := ⟨a.1, a.2.1, a.2.2.1, a.2.2.2.1, fun pl z1 z2 => a.2.2.2.2 pl (by omega) (by omega)⟩
theorem AR_l (z : ARc T v a c h m L g x) (hb : b ≤ c) : ARc T v a b h m L g x := by
  obtain ⟨z1, z2, z3, z4⟩ := z
  refine ⟨⟨z1.1, by omega, z1.2.2⟩, ?_, fun hg => ?_, z4⟩
  · cases L with
    | nil => trivial
    | cons t M => exact ⟨by have := z2.1; omega, z2.2⟩
  · obtain ⟨g1, hg, n, t, g2, g3, g4, g5, g6, g7, g8⟩ := z3 hg
    exact ⟨g1, hg, n, t, g2, g3, g4, g5, g6, by omega, g8⟩
theorem AR_r (y : ARc T v a c z m L g x) (hab : a ≤ b) (hm : m ≤ m1) (hg0 : g ≠ 0 → m1 = m) : ARc T v b c z m1 L g x := by
  obtain ⟨z1, z2, z3, z4⟩ := y
  refine ⟨⟨by omega, by omega, z1.2.2⟩, ?_, fun hg => ?_, by omega, fun e => ?_⟩
  · cases L with
    | nil => trivial
    | cons t M =>
      obtain ⟨z5, h2, m2, z6, z7, z8⟩ := z2
      exact ⟨z5, h2, m2, z6, by omega, by omega⟩
  · obtain ⟨g1, hg2, n, t, g2, g3, g4, g5, g6, g7, g8⟩ := z3 hg
    rw [hg0 hg]
    exact ⟨by omega, hg2, n, t, g2, by omega, g4, g5, g6, g7, g8⟩
  · have : a = b := by omega
    rw [← this]
    exact z4.2 (by omega)
theorem AR_z (y : ARc T v a c z m L g x) (hz : z ≤ z2) : ARc T v a c z2 m L g x := by
  obtain ⟨y1, y2, y3, y4⟩ := y
  refine ⟨y1, ?_, fun hg => ?_, y4⟩
  · cases L with
    | nil => trivial
    | cons t M =>
      obtain ⟨z5, h2, m2, z6, z7, z8⟩ := y2
      exact ⟨z5, h2, m2, z6, by omega, by omega⟩
  · obtain ⟨g1, hg2, n, t, g2, g3, g4⟩ := y3 hg
    exact ⟨g1, hg2, n, t, g2, by omega, g4⟩
theorem SG_k (y : SGc u a b q r H z h m L g x o) (e : ∀ j, a ≤ j → j < b → (∀ t, (j, t) ∉ H) → A w 23 j = A u 23 j) (t : TBLc u w q r) : SGc w a b q r H z h m L g x o := by
  obtain ⟨z1, z2, z3, T0, z4, z5⟩ := y
  exact ⟨z1, z2, z3, T0, z4, fun v T h1 h2 => z5 v T (fun j j1 j2 j3 => (h1 j j1 j2 j3).trans (e j j1 j2 j3)) (t.tr h2)⟩
theorem SG_nl : SGc u a a q q [] z h m L g x (some (h, m, L, g, x)) := ⟨⟨Nat.le_refl _, Nat.le_refl _⟩, fun _ => rfl, fun p t hp => absurd hp (by simp), fun _ => none, fun z => absurd z (by omega), fun v T _ _ _ _ _ _ => ⟨fun i _ _ _ _ _ h1 h2 => absurd h2 (by omega), fun pl h1 h2 => absurd h2 (by omega)⟩⟩
theorem SG_seq (y0 : SGc u a b q s H1 z h m L g x (some (h1, m1, L, g, x))) (y : SGc u b c s r H2 z h1 m1 L g x o) (hm : m ≤ m1) (hg0 : g ≠ 0 → m1 = m) : SGc u a c q r (H1 ++ H2) z h m L g x o := by
  obtain ⟨⟨z1, z1'⟩, z2, z3, T1, z4, z5⟩ := y0
  obtain ⟨⟨y1, y1'⟩, y2, y3, T2, y4, y5⟩ := y
  have ab : a = b → h1 = h ∧ m1 = m := fun e => by have := z2 e; injection this with this; injection this with e1 e2; injection e2 with e2 e3; exact ⟨e1, e2⟩
  refine ⟨⟨by omega, by omega⟩, fun e => ?_, fun p t hp => ?_, fun i => if i < b then T1 i else T2 i, fun hac => ?_, fun v T ha ht hT ho hH hX => ?_⟩
  · obtain ⟨e1, e2⟩ := ab (by omega)
    rw [y2 (by omega), e1, e2]
  · rcases List.mem_append.mp hp with hp | hp
    · have := z3 p t hp; omega
    · have := y3 p t hp; omega
  · show (if a < b then T1 a else T2 a) = _
    by_cases e : a < b
    · rw [if_pos e]; exact z4 e
    · have e2 : a = b := by omega
      obtain ⟨e3, e4⟩ := ab e2
      rw [if_neg e, e2, y4 (by omega), e3, e4]
  · have hT1 : ∀ i, a ≤ i → i < b → T i = T1 i := fun i i1 i2 => by
      rw [hT i i1 (by omega)]
      show (if i < b then T1 i else T2 i) = _
      rw [if_pos i2]
    have hT2 : ∀ i, b ≤ i → i < c → T i = T2 i := fun i i1 i2 => by
      rw [hT i (by omega) i2]
      show (if i < b then T1 i else T2 i) = _
      rw [if_neg (by omega)]
    have hb : T b = some (h1, m1, L, g, x) := by
      by_cases e : b < c
      · rw [hT2 b (Nat.le_refl _) e]; exact y4 e
      · have e2 : b = c := by omega
        rw [e2]; exact ho _ (y2 e2)
    obtain ⟨r1, r2⟩ := z5 v T (fun j j1 j2 j3 => ha j j1 (by omega) (fun t hp => by
      rcases List.mem_append.mp hp with hp | hp
      · exact j3 t hp
      · have := y3 j t hp; omega)) (ht.mo (Nat.le_refl _) y1') hT1 (fun y1 e => by injection e with e; rw [← e]; exact hb) (fun p t hp => by
        obtain ⟨d, d1, d2, d3⟩ := hH p t (List.mem_append.mpr (Or.inl hp))
        exact ⟨d, d1, by omega, d3⟩) (AR_l hX y1)
    obtain ⟨r3, r4⟩ := y5 v T (fun j j1 j2 j3 => ha j (by omega) j2 (fun t hp => by
      rcases List.mem_append.mp hp with hp | hp
      · have := z3 j t hp; omega
      · exact j3 t hp)) (ht.mo z1' (Nat.le_refl _)) hT2 ho (fun p t hp => hH p t (List.mem_append.mpr (Or.inr hp))) (AR_r hX z1 hm hg0)
    refine ⟨fun i h m L g x i1 i2 e => ?_, fun pl p1 p2 => ?_⟩
    · rcases Nat.lt_or_ge i b with i3 | i3
      · exact r1 i h m L g x i1 i3 e
      · exact r3 i h m L g x i3 i2 e
    · rcases Nat.lt_or_ge pl s with p3 | p3
      · exact r2 pl p1 p3
      · exact r4 pl p3 p2
theorem SG_arr (y : SGc u a b q r (H1 ++ H2) z h m L g x o) (hab : a < b) (ho : o = none ∨ o = some y1) (h1 : ∀ p t, (p, t) ∈ H1 → t = y1 ∧ A w 23 p = ((b : Nat) : Int)) (hd : ∀ p t t2, (p, t) ∈ H1 → (p, t2) ∉ H2) (e : ∀ j, a ≤ j → j < b → (∀ t, (j, t) ∉ H1) → A w 23 j = A u 23 j) (t : TBLc u w q r) : SGc w a b q r H2 z h m L g x (some y1) := by
  obtain ⟨z1, z2, z3, T0, z4, z5⟩ := y
  refine ⟨z1, fun e => absurd e (by omega), fun p t hp => z3 p t (List.mem_append.mpr (Or.inr hp)), T0, z4, fun v T ha ht hT hb hH hX => z5 v T (fun j j1 j2 j3 => ?_) (t.tr ht) hT (fun y2 e2 => ?_) (fun p t hp => ?_) hX⟩
  · rw [ha j j1 j2 (fun t hp => j3 t (List.mem_append.mpr (Or.inr hp))), e j j1 j2 (fun t hp => j3 t (List.mem_append.mpr (Or.inl hp)))]
  · rcases ho with ho | ho
    · rw [ho] at e2; cases e2
    · rw [ho] at e2; injection e2 with e2; rw [← e2]; exact hb _ rfl
  · rcases List.mem_append.mp hp with hp | hp
    · obtain ⟨rfl, h3⟩ := h1 p t hp
      have pb := z3 p t (List.mem_append.mpr (Or.inl hp))
      exact ⟨b, by rw [ha p pb.1 pb.2 (fun t2 => hd p t t2 hp)]; exact h3, Nat.le_refl _, hb _ rfl⟩
    · exact hH p t hp
theorem SG_z (y : SGc u a b q r H z h m L g x o) (hz : z2 ≤ z) : SGc u a b q r H z2 h m L g x o := by
  obtain ⟨z1, z2, z3, T0, z4, z5⟩ := y
  exact ⟨z1, z2, z3, T0, z4, fun v T h1 h2 h3 h4 h5 h6 => z5 v T h1 h2 h3 h4 h5 (AR_z h6 hz)⟩
theorem SG_in (hz : z ≤ h) (hk : 1 ≤ k) (hh : h ≤ 1090) (hm : m ≤ 40) (hH : ∀ p t, (p, t) ∈ H → a ≤ p ∧ p < a + k) (hin : ∀ (v : MS) (T : Nat → Option Tyc), (∀ j, a ≤ j → j < a + k → (∀ t, (j, t) ∉ H) → A v 23 j = A u 23 j) → TBLc u v q q → T a = some (h, m, L, g, x) → (∀ y1, o = some y1 → T (a + k) = some y1) → (∀ p t, (p, t) ∈ H → ∃ d : Nat, A v 23 p = ((d : Nat) : Int) ∧ a + k ≤ d ∧ T d = some t) → ARc T v a (a + k) z m L g x → IN1 T v a h m L g x ∨ IN2 T v a h m L g x ∨ IN3 T v a h m L g x) : SGc u a (a + k) q q H z h m L g x o := by
  refine ⟨⟨by omega, Nat.le_refl _⟩, fun e => absurd e (by omega), hH, fun i => if i = a then some (h, m, L, g, x) else none, fun _ => if_pos rfl, fun v T ha ht hT ho hH2 hX => ⟨fun i h2 m2 L2 g2 x2 i1 i2 e => ?_, fun pl p1 p2 => absurd p2 (by omega)⟩⟩
  rw [hT i i1 i2] at e
  have hTa : T a = some (h, m, L, g, x) := by rw [hT a (Nat.le_refl _) (by omega)]; exact if_pos rfl
  by_cases ia : i = a
  · have e2 : some (h, m, L, g, x) = some (h2, m2, L2, g2, x2) := by
      have : (if i = a then some (h, m, L, g, x) else none) = some (h2, m2, L2, g2, x2) := e
      rw [if_pos ia] at this
      exact this
    injection e2 with e2
    injection e2 with e3 e2
    injection e2 with e4 e2
    injection e2 with e5 e2
    injection e2 with e6 e7
    subst e3 e4 e5 e6 e7
    subst ia
    have hi := hin v T ha ht hTa ho hH2 hX
    obtain ⟨x1, x2, x3, x4⟩ := hX
    refine ⟨⟨x1.1, by omega⟩, ⟨hh, hm, x1.2.2⟩, ?_, fun hg => ?_, ⟨x4.1, fun q => ?_⟩, hi⟩
    · cases L with
      | nil => trivial
      | cons t M =>
        obtain ⟨y5, h2, m2, y6, y7, y8⟩ := x2
        exact ⟨by omega, h2, m2, y6, by omega, y8⟩
    · obtain ⟨g1, hg2, n, t, g2, g3, g4, g5, g6, g7, g8⟩ := x3 hg
      exact ⟨g1, hg2, n, t, g2, by omega, g4, g5, g6, by omega, g8⟩
    · rcases Nat.lt_or_ge x i with z | z
      · exact z
      · exact absurd (x4.2 (by omega)) q
  · have : (if i = a then some (h, m, L, g, x) else none) = some (h2, m2, L2, g2, x2) := e
    rw [if_neg ia] at this
    cases this
end
