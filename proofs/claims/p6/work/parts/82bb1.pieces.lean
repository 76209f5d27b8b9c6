set_option maxRecDepth 100000
section
variable {T : Nat → Option Tyc} {u v w : MS} {a b c e q r s z h m h1 m1 g x n k i f : Nat} {L : List Nat} {H H1 H2 : List (Nat × Tyc)} {y y1 : Tyc} {o : Option Tyc} {P P1 P2 : (Nat → Option Tyc) → MS → Prop}
theorem SP_any (y0 : SGp P u a b q r H y none) (hab : a < b) : SGp P u a b q r H y o := by
  obtain ⟨z1, z2, z3, T0, z4, z5⟩ := y0
  exact ⟨z1, fun e => absurd e (by omega), z3, T0, z4, fun v T h1 h2 h3 _ h5 h6 => z5 v T h1 h2 h3 (fun y1 e => by cases e) h5 h6⟩
theorem SG_any (y0 : SGc u a b q r H z h m L g x none) (hab : a < b) : SGc u a b q r H z h m L g x o := SP_to (SP_any (SP_of y0) hab)
theorem SP_mo (y0 : SGp P1 u a b q r H y o) (hP : ∀ T v, TBLc u v q r → P T v → P1 T v) : SGp P u a b q r H y o := by
  obtain ⟨z1, z2, z3, T0, z4, z5⟩ := y0
  exact ⟨z1, z2, z3, T0, z4, fun v T h1 h2 h3 h4 h5 h6 => z5 v T h1 h2 h3 h4 h5 (hP T v h2 h6)⟩
theorem SP_p1 (y0 : SGp P1 u a b q q H y o) (hP : ∀ T v, P T v → P1 T v) (hp : ∀ v T, TBLc u v q (q + 1) → (∀ y1, o = some y1 → T b = some y1) → P T v → PLSc T v q (q + 1)) : SGp P u a b q (q + 1) H y o := by
  obtain ⟨z1, z2, z3, T0, z4, z5⟩ := y0
  exact ⟨⟨z1.1, by omega⟩, z2, z3, T0, z4, fun v T h1 h2 h3 h4 h5 h6 => ⟨(z5 v T h1 (h2.mo (Nat.le_refl _) (by omega)) h3 h4 h5 (hP T v h6)).1, hp v T h2 h4 h6⟩⟩
theorem AR_x (X : ARc T v a b z m L 0 0) (hx : x ≤ a) (h2 : x = a → A v 23 a = 32) : ARc T v a b z m L 0 x := ⟨X.1, X.2.1, fun z => absurd rfl z, hx, h2⟩
theorem SG_rcv (hz : z ≤ n) (hh : h ≤ 1090) (hm : m ≤ 40) (w0 : A u 23 a = 31) (w1 : (A u 23 (a + 1) = 1 ∧ h = n + 1 ∧ A u 23 (a + 3) = ((b + 2 : Nat) : Int) ∧ o = some (n, m, L, 0, 0)) ∨ (A u 23 (a + 1) = 0 ∧ h = n)) (w2 : A u 23 (a + 2) = 32) (yb : SGc u (a + 4) b q r H z n m L 0 (a + 2) (some (n, m, L, 0, a + 2))) (w3 : A u 23 b = 34) (w4 : A u 23 (b + 1) = ((a + 2 : Nat) : Int)) : SGc u a (b + 2) q r H z h m L 0 0 o := by
  have ab := yb.1.1
  have hb := yb.2.2.1
  have nH : ∀ j t, (j < a + 4 ∨ b ≤ j) → (j, t) ∉ H := fun j t hj hp => by have := hb j t hp; omega
  have i0 : SGc u a (a + 2) q q [] z h m L 0 0 (some (n, m, L, 0, a + 2)) := SG_in (by omega) (by omega) hh hm (fun p t hp => (no_H hp).elim) (fun v T hA hT hTa ho hH hX => by
    have e0 : A v 23 a = A u 23 a := hA a (Nat.le_refl _) (by omega) (fun t hp => by simp at hp)
    have e1 : A v 23 (a + 1) = A u 23 (a + 1) := hA (a + 1) (by omega) (by omega) (fun t hp => by simp at hp)
    refine Or.inr (Or.inr (Or.inl ⟨by rw [e0]; exact w0, rfl, rfl, ?_⟩))
    rw [e1]
    rcases w1 with ⟨w1, rfl, -⟩ | ⟨w1, rfl⟩
    · exact Or.inl ⟨w1, by omega, ho _ rfl⟩
    · exact Or.inr ⟨w1, ho _ rfl⟩)
  have i1 : SGp (fun T v => ARc T v (a + 2) (b + 2) z m L 0 (a + 2) ∧ (A v 23 (a + 1) = 0 ∨ (A v 23 (a + 3) = ((b + 2 : Nat) : Int) ∧ T (b + 2) = some (n, m, L, 0, 0)))) u (a + 2) (a + 4) q q [] (n, m, L, 0, a + 2) (some (n, m, L, 0, a + 2)) := by
    refine SP_in (a := a + 2) (k := 2) (z := z) (fun T v hX => AR_l hX.1 (by omega)) (by omega) (by omega) (by omega) hm (fun p t hp => (no_H hp).elim) (fun v T hA hT hTa ho hH hX => ?_)
    have e0 : A v 23 (a + 2) = A u 23 (a + 2) := hA (a + 2) (Nat.le_refl _) (by omega) (fun t hp => by simp at hp)
    refine Or.inr (Or.inr (Or.inr (Or.inl ⟨by rw [e0]; exact w2, rfl, rfl, ho _ rfl, ?_⟩)))
    rcases hX.2 with z | ⟨z1, z2⟩
    · exact Or.inl (by rw [show a + 2 - 1 = a + 1 by omega]; exact z)
    · exact Or.inr ⟨b + 2, z1, by omega, z2⟩
  have i3 : SGp (fun T v => ARc T v b (b + 2) z m L 0 (a + 2) ∧ T (a + 2) = some (n, m, L, 0, a + 2)) u b (b + 2) r r [] (n, m, L, 0, a + 2) o := by
    refine SP_in (k := 2) (z := z) (fun T v hX => hX.1) hz (by omega) (by omega) hm (fun p t hp => (no_H hp).elim) (fun v T hA hT hTa ho hH hX => ?_)
    have e0 : A v 23 b = A u 23 b := hA b (Nat.le_refl _) (by omega) (fun t hp => by simp at hp)
    have e1 : A v 23 (b + 1) = A u 23 (b + 1) := hA (b + 1) (by omega) (by omega) (fun t hp => by simp at hp)
    exact Or.inr (Or.inr (Or.inr (Or.inr (Or.inr (Or.inl ⟨by rw [e0]; exact w3, rfl, by omega, by have := hX.1.1.2.1; omega, by rw [e1]; exact w4, hX.2⟩)))))
  have i23 := SP_seq (P := fun T v => ARc T v (a + 4) (b + 2) z m L 0 (a + 2) ∧ T (a + 2) = some (n, m, L, 0, a + 2)) (SP_of yb) i3 (fun v T hA hTa hTb hTc hH hX => ⟨AR_l hX.1 (by omega), AR_r hX.1 (by omega) (Nat.le_refl _) (fun _ => rfl), hX.2⟩)
  have i13 := SP_seq (P := fun T v => ARc T v (a + 2) (b + 2) z m L 0 (a + 2) ∧ (A v 23 (a + 1) = 0 ∨ (A v 23 (a + 3) = ((b + 2 : Nat) : Int) ∧ T (b + 2) = some (n, m, L, 0, 0)))) i1 i23 (fun v T hA hTa hTb hTc hH hX => ⟨hX, AR_r hX.1 (by omega) (Nat.le_refl _) (fun _ => rfl), hTa⟩)
  have i03 := SP_seq (P := fun T v => ARc T v a (b + 2) z m L 0 0) (SP_of i0) i13 (fun v T hA hTa hTb hTc hH hX => ⟨AR_l hX (by omega), ?_, ?_⟩)
  · rw [List.append_nil, List.nil_append, List.nil_append] at i03
    exact SP_to i03
  · have e0 : A v 23 (a + 2) = A u 23 (a + 2) := hA (a + 2) (by omega) (by omega) (fun t hp => by simp at hp; exact nH _ t (Or.inl (by omega)) hp)
    exact AR_x (AR_r hX (by omega) (Nat.le_refl _) (fun _ => rfl)) (by omega) (fun _ => by rw [e0]; exact w2)
  · have e1 : A v 23 (a + 1) = A u 23 (a + 1) := hA (a + 1) (by omega) (by omega) (fun t hp => by simp at hp; exact nH _ t (Or.inl (by omega)) hp)
    have e3 : A v 23 (a + 3) = A u 23 (a + 3) := hA (a + 3) (by omega) (by omega) (fun t hp => by simp at hp; exact nH _ t (Or.inl (by omega)) hp)
    rw [e1, e3]
    rcases w1 with ⟨-, -, w1, w5⟩ | ⟨w1, -⟩
    · exact Or.inr ⟨w1, hTc _ w5⟩
    · exact Or.inl w1
theorem SG_fun (hz : z ≤ h) (hh : h ≤ 1090) (hm : m ≤ 40) (hn : n ≤ 1090) (hk : k ≤ 40) (w0 : A u 23 a = 18) (w1 : A u 23 (a + 1) = ((c + 1 : Nat) : Int)) (yb : SGc u (a + 2) c (q + 1) r [] n n k [] 0 0 (some (n, k, [], 0, 0))) (w2 : A u 23 c = 36) (w3 : A u 23 (c + 1) = 6) (w4 : A u 23 (c + 2) = ((q : Nat) : Int)) (w5 : A u 23 (c + 3) = ((k : Nat) : Int)) (hq : ((q : Nat) : Int) < F u 449) (p0 : A u 30 q = ((n : Nat) : Int)) (p1 : A u 31 q = ((a + 2 : Nat) : Int)) (p2 : A u 32 q = ((c + 3 : Nat) : Int)) : SGc u a (c + 4 + k) q r [] z h m L 0 0 (some (h + 1, m, L, 0, 0)) := by
  have ab := yb.1.1
  have qr := yb.1.2
  have j0 : SGc u a (a + 2) q q [(a + 1, (h, m, L, 0, 0))] z h m L 0 0 none := SG_jump hz hh hm w0
  have i0 : SGp (fun T v => ARc T v a (c + 1) z m L 0 0 ∧ A v 23 (c + 3) = ((k : Nat) : Int) ∧ c + 3 + k < 24000) u a (a + 2) q (q + 1) [(a + 1, (h, m, L, 0, 0))] (h, m, L, 0, 0) (some (n, k, [], 0, 0)) := by
    refine SP_p1 (SP_any (SP_of j0) (by omega)) (fun T v hX => AR_l hX.1 (by omega)) (fun v T ht ho hX pl h1 h2 => ?_)
    have : pl = q := by omega
    subst this
    obtain ⟨e0, e1, e2⟩ := ht.2.2.2.2 pl h1 h2
    exact ⟨n, a + 2, c + 3, k, by rw [e0]; exact p0, by rw [e1]; exact p1, by rw [e2]; exact p2, hX.2.1, hX.2.2, ho _ rfl⟩
  have i1 : SGc u c (c + 1) r r [] n n k [] 0 0 none := SG_nocl (Nat.le_refl _) hn hk (Or.inl w2)
  have i2 := SG_seq yb i1 (Nat.le_refl _) (fun _ => rfl)
  rw [List.append_nil] at i2
  have i3 := SP_seq (P := fun T v => ARc T v a (c + 1) z m L 0 0 ∧ A v 23 (c + 3) = ((k : Nat) : Int) ∧ c + 3 + k < 24000) i0 (SP_of i2) (fun v T hA hTa hTb hTc hH hX => ⟨hX, ?_⟩)
  · rw [List.append_nil] at i3
    have i4 : SGp (fun T v => ARc T v a (c + 1) z m L 0 0 ∧ A v 23 (c + 3) = ((k : Nat) : Int) ∧ c + 3 + k < 24000) u a (c + 1) q r [] (h, m, L, 0, 0) (some (h, m, L, 0, 0)) := by
      obtain ⟨z1, z2, z3, T0, z4, z5⟩ := i3
      refine ⟨z1, fun e => absurd e (by omega), fun p t hp => (no_H hp).elim, T0, z4, fun v T ha ht hT hb hH hX => z5 v T (fun j j1 j2 j3 => ha j j1 j2 (fun t hp => no_H hp)) ht hT (fun y2 e2 => by cases e2) (fun p t hp => ?_) hX⟩
      simp at hp
      obtain ⟨rfl, rfl⟩ := hp
      exact ⟨c + 1, by rw [ha (a + 1) (by omega) (by omega) (fun t hp => no_H hp)]; exact w1, Nat.le_refl _, hb _ rfl⟩
    have i5 : SGp (fun T v => ARc T v (c + 1) (c + 4 + k) z m L 0 0 ∧ A v 32 q = ((c + 3 : Nat) : Int)) u (c + 1) (c + 4 + k) r r [] (h, m, L, 0, 0) (some (h + 1, m, L, 0, 0)) := by
      rw [show c + 4 + k = c + 1 + (3 + k) by omega]
      refine SP_in (k := 3 + k) (z := z) (fun T v hX => hX.1) hz (by omega) hh hm (fun p t hp => (no_H hp).elim) (fun v T hA hT hTa ho hH hX => ?_)
      have e0 : A v 23 (c + 1) = A u 23 (c + 1) := hA (c + 1) (Nat.le_refl _) (by omega) (fun t hp => by simp at hp)
      have e1 : A v 23 (c + 2) = A u 23 (c + 2) := hA (c + 2) (by omega) (by omega) (fun t hp => by simp at hp)
      have e2 : A v 23 (c + 3) = A u 23 (c + 3) := hA (c + 3) (by omega) (by omega) (fun t hp => by simp at hp)
      refine Or.inl (Or.inr (Or.inr (Or.inr (Or.inr (Or.inr (Or.inl ⟨by rw [e0]; exact w3, q, k, by rw [show c + 1 + 1 = c + 2 by omega, e1]; exact w4, by rw [hT.2.1]; exact hq, by rw [show c + 1 + 2 = c + 3 by omega]; exact hX.2, by rw [show c + 1 + 2 = c + 3 by omega, e2]; exact w5, hk, ?_⟩))))))
      rw [show c + 1 + 3 + k = c + 1 + (3 + k) by omega]
      exact ho _ rfl
    have i6 := SP_seq (P := fun T v => ARc T v a (c + 4 + k) z m L 0 0 ∧ A v 32 q = ((c + 3 : Nat) : Int)) i4 i5 (fun v T hA hTa hTb hTc hH hX => ⟨⟨AR_l hX.1 (by omega), by rw [hA (c + 3) (by omega) (by omega) (fun t hp => by simp at hp)]; exact w5, by have := hX.1.1.2.1; omega⟩, AR_r hX.1 (by omega) (Nat.le_refl _) (fun _ => rfl), hX.2⟩)
    rw [List.append_nil] at i6
    exact SP_to (SP_mo i6 (fun T v ht hX => ⟨hX, by rw [(ht.2.2.2.2 q (Nat.le_refl _) (by omega)).2.2]; exact p2⟩))
  · exact ⟨⟨by omega, hX.1.1.2.1, by simp⟩, trivial, fun z => absurd rfl z, by omega, fun z => absurd z (by omega)⟩
end
