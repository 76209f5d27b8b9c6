section
section
variable {w w2 : MS} {T T1 : TY} {C C1 : CY} {Z Z1 a b c z a1 b1 : Nat → Nat} {g q q2 q3 m m2 m3 lo mm X Y sh lo2 mm2 X2 Y2 sh2 rk SN n e x y : Nat} {R R1 R2 : Nat → Prop}
def tyc (Z : Nat → Nat) (h m r : Nat) : TY := fun k _ => if k = 0 then h else if k = 1 then m else if k = 8 then r else Z k
theorem tyc_e {h r i : Nat} : ETY (tyc Z h m r) Z h m i := by unfold ETY tyc; simp
theorem tyc_r {h r i : Nat} : tR (tyc Z h m r) i = r := by unfold tR tyc; simp
def KND (w : MS) (n : Nat) (k : Int) : Prop := A w 23 n = k ∧ 0 ≤ A w 24 n ∧ A w 24 n < 4002 ∧ A w 28 n = -1 ∧ A w 29 n = -1
theorem SEQ_catch (hn : a 0 = n) (ha : a1 0 = n + 1 ∧ a1 1 = a 1 ∧ a1 3 = a 3 ∧ ∀ i, a i ≤ a1 i) (hb : b1 0 = e ∧ z 0 = e + 1 ∧ z 1 = b1 1 ∧ z 3 = b1 3 ∧ ∀ i, b1 i ≤ z i) (kc : KND w n 19) (h25 : A w 25 n = ((e + 1 : Nat) : Int)) (ke : KND w e 20) (s : SEQ w SN 0 a1 b1 0 1 m m m mm X Y sh (fun _ => False)) (hl : lo ≤ m) : SEQ w SN 0 a z 0 1 m m lo mm X (Y + 1) sh (fun i => i = e) := by
  obtain ⟨a2, a3, a4, a5⟩ := ha
  obtain ⟨b2, b3, b4, b5, b6⟩ := hb
  obtain ⟨⟨s1, s2, s3, s4, s5, s6, s7, s8, s9⟩, s10⟩ := s
  obtain ⟨c1, c2, c3, c4, c5⟩ := kc
  obtain ⟨d1, d2, d3, d4, d5⟩ := ke
  have hne : n + 1 ≤ e := by have := s1 0; omega
  have azi : ∀ i, a i ≤ z i := fun i => Nat.le_trans (a5 i) (Nat.le_trans (s1 i) (b6 i))
  refine ⟨⟨azi, fun y => absurd rfl y, hl, hl, s5, s5, by omega, s8, fun i hi => by omega⟩, fun Z h rk z1 z2 z3 z4 z5 z6 z7 z8 z9 => ?_⟩
  have g0 : Z 4 = 0 := z7.1 rfl
  obtain ⟨T1, C1, t1, t2, t3, t4, t5, t6, t7⟩ := s10 (fun k => if k = 3 then Z 3 + 1 else if k = 5 then h else if k = 6 then m else if k = 7 then n else Z k) h (rk + 1) (by simp) (by simp) (by omega) (by simp; omega) (by simp; omega) (by simp; omega) ⟨fun _ => by simp; exact g0, fun y => by omega⟩ (by omega) (by omega)
  rw [a2] at t1 t4 t5
  rw [b2] at t2 t3 t4 t5
  have en : ETY (cat (n + 1) (tyc Z h m (tR T1 (n + 1) + 1)) (cat (e + 1) T1 (tyc Z (h + 1) m rk))) Z h m n := ETY_eq (T1 := tyc Z h m (tR T1 (n + 1) + 1)) tyc_e (fun k _ => cat_l (by omega))
  have e1 : ∀ k i, k ≤ 8 → n + 1 ≤ i → i ≤ e → cat (n + 1) (tyc Z h m (tR T1 (n + 1) + 1)) (cat (e + 1) T1 (tyc Z (h + 1) m rk)) k i = T1 k i := fun k i _ h1 h2 => by rw [cat_r h1, cat_l (by omega)]
  have ez : ETY (cat (n + 1) (tyc Z h m (tR T1 (n + 1) + 1)) (cat (e + 1) T1 (tyc Z (h + 1) m rk))) Z (h + 1) m (e + 1) := ETY_eq (T1 := tyc Z (h + 1) m rk) tyc_e (fun k _ => by rw [cat_r (by omega), cat_r (by omega)])
  have rz : tR (cat (n + 1) (tyc Z h m (tR T1 (n + 1) + 1)) (cat (e + 1) T1 (tyc Z (h + 1) m rk))) (e + 1) = rk := by show cat _ _ _ 8 _ = _; rw [cat_r (by omega), cat_r (by omega)]; exact tyc_r (i := e + 1)
  have rn : tR (cat (n + 1) (tyc Z h m (tR T1 (n + 1) + 1)) (cat (e + 1) T1 (tyc Z (h + 1) m rk))) n = tR T1 (n + 1) + 1 := by show cat _ _ _ 8 _ = _; rw [cat_l (by omega)]; exact tyc_r (i := n)
  generalize cat (n + 1) (tyc Z h m (tR T1 (n + 1) + 1)) (cat (e + 1) T1 (tyc Z (h + 1) m rk)) = T at *
  have hr : rk + 1 ≤ tR T1 (n + 1) := by
    rcases Nat.lt_or_eq_of_le hne with x | x
    · have := t4 x; omega
    · rw [x, t3]; exact Nat.le_refl _
  have k1 := ETY_eq (T := T) t1 (fun k hk => e1 k _ hk (Nat.le_refl _) hne)
  have k2 := ETY_eq (T := T) t2 (fun k hk => e1 k _ hk hne (Nat.le_refl _))
  have r1 : tR T (n + 1) = tR T1 (n + 1) := e1 8 _ (by decide) (Nat.le_refl _) hne
  have r2 : tR T e = rk + 1 := (e1 8 _ (by decide) hne (Nat.le_refl _)).trans t3
  obtain ⟨n0, n1, n2, n3, n4, n5, n6, n7⟩ := ETY_t en
  obtain ⟨y0, y1, y2, y3, y4, y5, y6, y7⟩ := ETY_t ez
  obtain ⟨p0, p1, p2, p3, p4, p5, p6, p7⟩ := ETY_t k1
  obtain ⟨v0, v1, v2, v3, v4, v5, v6, v7⟩ := ETY_t k2
  simp at p2 p3 p4 p5 p6 p7 v2 v3 v4 v5 v6 v7
  have inn := FRG_tr (T := T) (C := C1) (a2 := a) (b2 := z) (Z := Z) (rk := rk) (m := m) (E := fun _ => False) (S := fun i => i = e) t7 a5 b6 (fun k i hk h1 h2 => e1 k i hk (by omega) (by omega)) (fun k c _ _ => rfl) (fun i h1 h2 y0' y => ?_) (fun i h1 h2 g1 g2 => ?_) (fun _ => id) (fun i y => absurd y id)
  · refine ⟨T, C1, by rw [hn]; exact en, by rw [b3]; exact ez, by rw [b3]; exact rz, fun _ => by rw [hn]; omega, by rw [hn]; omega, fun i hi => ?_, fun i h1 h2 => ?_, fun i h1 h2 => inn.2.1 i (by omega) (by omega), fun i h1 h2 => inn.2.2 i (by omega) (by omega)⟩
    · rw [hi]; unfold kq; rw [if_pos d1]; omega
    · rcases Nat.lt_or_ge n i with hi | hi
      · rcases Nat.lt_or_ge i e with hj | hj
        · exact inn.1 i (by omega) (by omega)
        · obtain rfl : i = e := by omega
          refine ⟨⟨⟨?_, ?_, ?_, ?_, ?_, by omega, by omega⟩, fun _ => Or.inl ⟨?_, ?_, ?_, ?_, ?_, ?_, ?_, i + 1, ?_, by omega, by omega, by omega⟩, fun y => absurd (v4.trans g0) y, by omega⟩, fun _ _ => ⟨fun y => by omega, fun y => by omega, fun y => by omega, fun y => by omega, fun y => by omega, fun y => by omega, fun y => by omega, fun y => by omega, fun _ => ⟨?_, ?_, ?_, ?_, ?_, ?_, ?_, ?_, ?_, fun _ => ?_, by omega⟩, fun y => by omega, fun y => by omega, fun y => by omega, fun y => by omega, fun y => by omega, fun y => by omega, fun y => by omega⟩, fun _ => ⟨fun y => by omega, fun y => by omega, fun y => by omega, fun y => by omega, fun y => by omega, fun y => by omega, fun y => by omega, fun y => by omega, fun y => by omega, fun y => by omega, fun y => by omega⟩, fun y => by omega, fun y => by omega, fun _ => ⟨?_, ?_⟩, ⟨fun y => by omega, fun y => by omega, fun y => by omega, fun y => by omega, fun y => by omega, fun y => by omega⟩, Or.inl d4, Or.inl rfl⟩
          all_goals try rw [v7]
          all_goals first | omega | assumption
      · obtain rfl : i = n := by omega
        refine ⟨⟨⟨?_, ?_, ?_, ?_, ?_, by omega, by omega⟩, fun _ => Or.inr ⟨n7, n3, n2, Nat.le_of_eq n5.symm, Nat.le_of_eq n6.symm, by omega⟩, fun y => absurd (n4.trans g0) y, by omega⟩, fun _ _ => ⟨fun y => by omega, fun y => by omega, fun y => by omega, fun y => by omega, fun y => by omega, fun y => by omega, fun y => by omega, fun _ => ⟨?_, ?_, ?_, ?_, ?_, ?_, ?_, ?_, ?_, by omega, e + 1, h25, by omega, NX_c (ETY_nx en ez (by omega)) (by omega) (by omega)⟩, fun y => by omega, fun y => by omega, fun y => by omega, fun y => by omega, fun y => by omega, fun y => by omega, fun y => by omega, fun y => by omega⟩, fun _ => ⟨fun y => by omega, fun y => by omega, fun y => by omega, fun y => by omega, fun y => by omega, fun y => by omega, fun y => by omega, fun y => by omega, fun y => by omega, fun y => by omega, fun y => by omega⟩, fun y => by omega, fun y => by omega, fun y => by omega, ⟨fun y => by omega, fun y => by omega, fun y => by omega, fun y => by omega, fun y => by omega, fun y => by omega⟩, Or.inl c4, Or.inr (Or.inl c5)⟩
        all_goals first | omega | assumption
  · obtain ⟨q1, q2, q3, q4, q5, q6⟩ := y
    simp at q1 q2 q3 q4 q5
    have hi : n + 1 ≤ i ∧ i ≤ e := by omega
    have w7 : tC T i = n := (e1 7 i (by decide) hi.1 hi.2).trans q1
    have w3 : tK T i = Z 3 + 1 := (e1 3 i (by decide) hi.1 hi.2).trans q2
    have w2 : tL T i = Z 2 := (e1 2 i (by decide) hi.1 hi.2).trans q3
    have w5 : tB T i = tB T1 i := e1 5 i (by decide) hi.1 hi.2
    have w6 : tD T i = tD T1 i := e1 6 i (by decide) hi.1 hi.2
    have w8 : tR T i = tR T1 i := e1 8 i (by decide) hi.1 hi.2
    refine Or.inl ⟨?_, ?_, ?_, ?_, ?_, ?_, ?_, e + 1, ?_, by omega, by omega, by omega⟩
    all_goals rw [w7]
    all_goals first | omega | assumption
  · have q4 := g2.2.2.2.2.1
    simp at q4
    exact absurd (q4.trans g0) g1
theorem SEQ_andor {k : Int} (hk : k = 9 ∨ k = 10) (hn : a 0 = n) (ha : a1 0 = n + 1 ∧ a1 1 = a 1 ∧ a1 3 = a 3 ∧ ∀ i, a i ≤ a1 i) (kn : KND w n k) (h25 : A w 25 n = ((b 0 : Nat) : Int)) (s : SEQ w SN g a1 b 0 1 m m lo mm X Y sh (fun _ => False)) : SEQ w SN g a b 1 1 m m lo mm X Y sh (fun i => i = n) := by
  obtain ⟨a2, a3, a4, a5⟩ := ha
  obtain ⟨⟨s1, s2, s3, s4, s5, s6, s7, s8, s9⟩, s10⟩ := s
  obtain ⟨c1, c2, c3, c4, c5⟩ := kn
  have hne : n + 1 ≤ b 0 := by have := s1 0; omega
  refine ⟨⟨fun i => Nat.le_trans (a5 i) (s1 i), fun _ => rfl, s3, s4, s5, s6, s8, s8, fun i hi => by omega⟩, fun Z h rk z1 z2 z3 z4 z5 z6 z7 z8 z9 => ?_⟩
  obtain ⟨T1, C1, t1, t2, t3, t4, t5, t6, t7⟩ := s10 Z h rk z1 z2 z3 z4 z5 z6 z7 z8 (by omega)
  rw [a2] at t1 t4 t5
  have en : ETY (cat (n + 1) (tyc Z (h + 1) m (tR T1 (n + 1) + 1)) T1) Z (h + 1) m n := ETY_eq (T1 := tyc Z (h + 1) m (tR T1 (n + 1) + 1)) tyc_e (fun k _ => cat_l (by omega))
  have e1 : ∀ k i, k ≤ 8 → n + 1 ≤ i → i ≤ b 0 → cat (n + 1) (tyc Z (h + 1) m (tR T1 (n + 1) + 1)) T1 k i = T1 k i := fun k i _ h1 h2 => by rw [cat_r h1]
  have rn : tR (cat (n + 1) (tyc Z (h + 1) m (tR T1 (n + 1) + 1)) T1) n = tR T1 (n + 1) + 1 := by show cat _ _ _ 8 _ = _; rw [cat_l (by omega)]; exact tyc_r (i := n)
  generalize cat (n + 1) (tyc Z (h + 1) m (tR T1 (n + 1) + 1)) T1 = T at *
  have hr : rk ≤ tR T1 (n + 1) := by
    rcases Nat.lt_or_eq_of_le hne with x | x
    · have := t4 x; omega
    · rw [x, t3]; exact Nat.le_refl _
  have k1 := ETY_eq (T := T) t1 (fun k hk => e1 k _ hk (Nat.le_refl _) hne)
  have k2 := ETY_eq (T := T) t2 (fun k hk => e1 k _ hk hne (Nat.le_refl _))
  have r1 : tR T (n + 1) = tR T1 (n + 1) := e1 8 _ (by decide) (Nat.le_refl _) hne
  have r2 : tR T (b 0) = rk := (e1 8 _ (by decide) hne (Nat.le_refl _)).trans t3
  obtain ⟨n0, n1, n2, n3, n4, n5, n6, n7⟩ := ETY_t en
  have inn := FRG_tr (T := T) (C := C1) (a2 := a) (b2 := b) (Z := Z) (rk := rk) (m := m) (E := fun _ => False) (S := fun i => i = n) t7 a5 (fun i => Nat.le_refl _) (fun k i hk h1 h2 => e1 k i hk (by omega) (by omega)) (fun k c _ _ => rfl) (fun i h1 h2 _ y => Or.inr (KOUT_eq y (fun k hk => e1 k i hk (by omega) (by omega)) (Nat.le_refl _))) (fun i h1 h2 _ y => Or.inr (GOUT_eq y (fun k hk => e1 k i hk (by omega) (by omega)) (Nat.le_refl _) rfl)) (fun _ => id) (fun i y => absurd y id)
  refine ⟨T, C1, by rw [hn]; exact en, k2, r2, fun _ => by rw [hn]; omega, by rw [hn]; omega, fun i hi => by rw [hi]; unfold kq; rw [if_neg (by omega)]; exact n3, fun i h1 h2 => ?_, fun i h1 h2 => inn.2.1 i (by omega) (by omega), fun i h1 h2 => inn.2.2 i (by omega) (by omega)⟩
  rcases Nat.lt_or_ge n i with hi | hi
  · exact inn.1 i (by omega) (by omega)
  · obtain rfl : i = n := by omega
    refine ⟨⟨⟨by omega, by omega, by omega, by omega, by omega, by omega, by omega⟩, fun _ => Or.inr ⟨n7, n3, n2, Nat.le_of_eq n5.symm, Nat.le_of_eq n6.symm, by omega⟩, fun _ => Or.inr ⟨by omega, n1, n2, n3, n4, n5, n7, by omega⟩, by omega⟩, fun _ _ => ⟨fun y => by omega, fun y => by omega, fun y => by omega, fun y => by omega, fun y => by omega, fun y => by omega, fun y => by omega, fun y => by omega, fun y => by omega, fun y => by omega, fun y => by omega, fun y => by omega, fun y => by omega, fun y => by omega, fun y => by omega, fun y => by omega⟩, fun _ => ⟨fun y => by omega, fun y => by omega, fun y => by omega, fun y => by omega, fun y => by omega, fun y => by omega, fun y => by omega, fun _ => ⟨by omega, NX_c (ETY_nx en k1 (by omega)) (by omega) (by omega), b 0, h25, by omega, NX_c (ETY_nx en k2 (by omega)) (by omega) (by omega)⟩, fun y => by omega, fun y => by omega, fun y => by omega⟩, fun y => by omega, fun y => by omega, fun y => by omega, ⟨fun y => by omega, fun y => by omega, fun y => by omega, fun y => by omega, fun y => by omega, fun y => by omega⟩, Or.inl c4, Or.inr (Or.inl c5)⟩
def JR (w : MS) (n : Nat) (R : Nat → Prop) : Prop := A w 28 n = -1 ∨ ∃ x : Nat, A w 28 n = x ∧ R x
theorem SEQ_join (o : ONE b z n) (kn : A w 23 n = 30 ∧ 0 ≤ A w 24 n ∧ A w 24 n < 4002 ∧ A w 29 n = -1) (h28 : JR w n R) (s : SEQ w SN 0 a b 0 1 m m lo mm X Y sh R) (h29 : ∀ i, R i → A w 29 i = -1) : SEQ w SN 0 a z 0 1 m m lo mm X Y sh (fun i => i = n) := by
  obtain ⟨o0, o1, o2, o3, o4⟩ := o
  obtain ⟨⟨s1, s2, s3, s4, s5, s6, s7, s8, s9⟩, s10⟩ := s
  obtain ⟨c1, c2, c3, c4⟩ := kn
  have hne := s1 0
  refine ⟨⟨fun i => Nat.le_trans (s1 i) (o4 i), fun _ => rfl, s3, s4, s5, s6, s7, s8, fun i hi => by omega⟩, fun Z h rk z1 z2 z3 z4 z5 z6 z7 z8 z9 => ?_⟩
  have g0 : Z 4 = 0 := z7.1 rfl
  obtain ⟨T1, C1, t1, t2, t3, t4, t5, t6, t7⟩ := s10 Z h (rk + 1) z1 z2 z3 z4 z5 z6 z7 (by omega) (by omega)
  rw [o0] at t2 t3 t4 t5
  have ez : ETY (cat (n + 1) T1 (tyc Z (h + 1) m rk)) Z (h + 1) m (n + 1) := ETY_eq (T1 := tyc Z (h + 1) m rk) tyc_e (fun k _ => cat_r (by omega))
  have e1 : ∀ k i, k ≤ 8 → i ≤ n → cat (n + 1) T1 (tyc Z (h + 1) m rk) k i = T1 k i := fun k i _ h2 => by rw [cat_l (by omega)]
  have rz : tR (cat (n + 1) T1 (tyc Z (h + 1) m rk)) (n + 1) = rk := by show cat _ _ _ 8 _ = _; rw [cat_r (by omega)]; exact tyc_r (i := n)
  generalize cat (n + 1) T1 (tyc Z (h + 1) m rk) = T at *
  have k1 := ETY_eq (T := T) t1 (fun k hk => e1 k _ hk (by omega))
  have k2 := ETY_eq (T := T) t2 (fun k hk => e1 k _ hk (by omega))
  have r1 : tR T (a 0) = tR T1 (a 0) := e1 8 _ (by decide) (by omega)
  have r2 : tR T n = rk + 1 := (e1 8 _ (by decide) (by omega)).trans t3
  obtain ⟨n0, n1, n2, n3, n4, n5, n6, n7⟩ := ETY_t k2
  have inn := FRG_tr (T := T) (C := C1) (a2 := a) (b2 := z) (Z := Z) (rk := rk) (m := m) (E := fun _ => False) (S := fun i => i = n ∨ R i) t7 (fun i => Nat.le_refl _) o4 (fun k i hk h1 h2 => e1 k i hk (by omega)) (fun k c _ _ => rfl) (fun i h1 h2 _ y => Or.inr (KOUT_eq y (fun k hk => e1 k i hk (by omega)) (by omega))) (fun i h1 h2 _ y => Or.inr (GOUT_eq y (fun k hk => e1 k i hk (by omega)) (by omega) rfl)) (fun _ => id) (fun i y => Or.inr y)
  have hkq : kq w T n = Z 3 := by unfold kq; rw [if_neg (by omega)]; exact n3
  have hR : ∀ i, R i → kq w T i = Z 3 := fun i hi => by
    have y := t6 i hi
    have := s9 i hi
    unfold kq at y ⊢
    rw [show tK T i = tK T1 i from e1 3 i (by decide) (by omega)]
    exact y
  refine ⟨T, C1, k1, by rw [o1]; exact ez, by rw [o1]; exact rz, fun _ => ?_, by omega, fun i hi => by rw [hi]; exact hkq, fun i h1 h2 => ?_, fun i h1 h2 => inn.2.1 i (by omega) (by omega), fun i h1 h2 => inn.2.2 i (by omega) (by omega)⟩
  · rcases Nat.lt_or_eq_of_le hne with x | x
    · have := t4 (by omega); omega
    · rw [x, o0]; omega
  rcases Nat.lt_or_ge i n with hi | hi
  · obtain ⟨y1, y2, y3, y4, y5, y6, y7, y8, y9⟩ := inn.1 i (by omega) (by omega)
    refine ⟨y1, y2, y3, y4, y5, y6, y7, y8, ?_⟩
    rcases y9 with (y9 | y9) | y9
    · exact Or.inl y9
    · exact Or.inr (Or.inl (h29 i y9))
    · exact Or.inr y9
  · obtain rfl : i = n := by omega
    refine ⟨⟨⟨by omega, by omega, by omega, by omega, by omega, by omega, by omega⟩, fun _ => Or.inr ⟨n7, n3, n2, Nat.le_of_eq n5.symm, Nat.le_of_eq n6.symm, by omega⟩, fun y => absurd (n4.trans g0) y, by omega⟩, fun _ _ => ⟨fun y => by omega, fun y => by omega, fun y => by omega, fun y => by omega, fun y => by omega, fun y => by omega, fun y => by omega, fun y => by omega, fun y => by omega, fun y => by omega, fun y => by omega, fun y => by omega, fun y => by omega, fun y => by omega, fun _ => ⟨n4.trans g0, NX_c (ETY_nx k2 ez (by omega)) (by omega) (by omega)⟩, fun y => by omega⟩, fun _ => ⟨fun y => by omega, fun y => by omega, fun y => by omega, fun y => by omega, fun y => by omega, fun y => by omega, fun y => by omega, fun y => by omega, fun y => by omega, fun y => by omega, fun y => by omega⟩, fun y => by omega, fun y => by omega, fun y => by omega, ⟨fun y => by omega, fun y => by omega, fun y => by omega, fun y => by omega, fun y => by omega, fun y => by omega⟩, ?_, Or.inl rfl⟩
    rcases h28 with y | ⟨x, y1, y2⟩
    · exact Or.inl y
    · have := s9 x y2
      exact Or.inr ⟨x, y1, by omega, by omega, (hR x y2).trans hkq.symm⟩
end
end
section
section
variable {w w2 : MS} {T T1 : TY} {C C1 : CY} {Z Z1 a b c z a1 b1 : Nat → Nat} {g q q2 q3 m m2 m3 lo mm X Y sh lo2 mm2 X2 Y2 sh2 rk SN n e x y many hg hb RR k : Nat} {R R1 R2 E S : Nat → Prop} {ret : Bool} {root : Int} {μ : Nat → Nat → Nat} {r : Nat → Nat}
def GRD (w : MS) (SN c : Nat) (p e p2 : Nat → Nat) (mN mm X Y sh : Nat) : Prop := (A w 42 c = -1 ∧ p2 = p) ∨ (A w 42 c = ((p 0 : Nat) : Int) ∧ SEQ w SN 2 p e 0 0 mN mN mN mm X Y sh (fun _ => False) ∧ KND w (e 0) 23 ∧ ONE e p2 (e 0))
def FIN (w : MS) (ret : Bool) (root : Int) (m mE j : Nat) : Prop := (ret = true ∧ KND w j 29) ∨ (ret = false ∧ mE = m ∧ KND w j 26 ∧ A w 25 j = -2 ∧ A w 26 j = root)
def SEQR (ret : Bool) (w : MS) (SN g : Nat) (a b : Nat → Nat) (q q2 m m2 lo mm X Y sh : Nat) (R : Nat → Prop) : Prop :=
  ((∀ i, a i ≤ b i) ∧ (g ≠ 0 → m2 = m) ∧ lo ≤ m ∧ lo ≤ m2 ∧ m ≤ mm ∧ m2 ≤ mm ∧ q ≤ X ∧ q2 ≤ X ∧ ∀ n, R n → a 0 ≤ n ∧ n < b 0) ∧
  ∀ (Z : Nat → Nat) (h rk : Nat), (ret = true → Z 3 = 0) → Z 5 ≤ h → Z 6 ≤ lo → h + X ≤ 760 → Z 3 + Y ≤ 26 → sh ≤ Z 2 → mm + Z 2 ≤ 40 → (g = 0 → Z 4 = 0) ∧ (g = 2 → Z 4 ≠ 0) → 1 ≤ rk → rk + (b 0 - a 0) ≤ 16000 →
    ∃ T C, ETY T Z (h + q) m (a 0) ∧ ETY T Z (h + q2) m2 (b 0) ∧ tR T (b 0) = rk ∧ (a 0 < b 0 → rk < tR T (a 0)) ∧ tR T (a 0) ≤ rk + (b 0 - a 0) ∧ (∀ n, R n → kq w T n = Z 3) ∧ FRG w T C Z rk m a b SN (fun _ => False) R
theorem SEQR_of (s : SEQ w SN g a b q q2 m m2 lo mm X Y sh R) : SEQR ret w SN g a b q q2 m m2 lo mm X Y sh R := ⟨s.1, fun Z h rk _ => s.2 Z h rk⟩
def PTD (w : MS) (SN : Nat) (ret : Bool) (root : Int) (a b : Nat → Nat) (many m mm X Y sh r : Nat) : Prop := ∃ (mN mE : Nat) (p e p2 p3 : Nat → Nat),
  (p 0 = a 0 ∧ p 1 = a 1 + 1 ∧ p 3 = a 3 ∧ ∀ i, a i ≤ p i) ∧ (A w 41 (a 1) = many ∧ many ≤ 6 ∧ m ≤ mN ∧ mN ≤ mm ∧ PATS w id id (p 2) SN sh m mN many (A w 40 (a 1))) ∧
  GRD w SN (a 1) p e p2 mN mm X Y sh ∧ (A w 43 (a 1) = ((p2 0 : Nat) : Int) ∧ SEQR ret w SN 0 p2 p3 0 1 mN mE m mm X Y sh (fun i => i = r)) ∧ ONE p3 b (p3 0) ∧ FIN w ret root m mE (p3 0)
theorem GRD_le {c mN : Nat} {p e p2 : Nat → Nat} (h : GRD w SN c p e p2 mN mm X Y sh) : ∀ i, p i ≤ p2 i := fun i => by
  rcases h with ⟨-, h⟩ | ⟨-, h, -, o⟩
  · rw [h]; exact Nat.le_refl _
  · exact Nat.le_trans (h.1.1 i) (o.2.2.2.2 i)
theorem PTD_le (h : PTD w SN ret root a b many m mm X Y sh x) : (∀ i, a i ≤ b i) ∧ a 0 < b 0 ∧ a 1 < b 1 ∧ a 0 ≤ x ∧ x < b 0 := by
  obtain ⟨mN, mE, p, e, p2, p3, ⟨h1, h2, h3, h4⟩, -, h6, ⟨-, h7⟩, h8, -⟩ := h
  have g := GRD_le h6
  have s := h7.1.1
  obtain ⟨o1, o2, o3, o4, o5⟩ := h8
  have r := h7.1.2.2.2.2.2.2.2.2 x rfl
  have g0 := g 0
  have g1 := g 1
  have s0 := s 0
  have s1 := s 1
  exact ⟨fun i => Nat.le_trans (h4 i) (Nat.le_trans (g i) (Nat.le_trans (s i) (o5 i))), by omega, by omega, by omega, by omega⟩
def CHD (w : MS) (SN : Nat) (ret : Bool) (root : Int) (k : Nat) (μ : Nat → Nat → Nat) (r : Nat → Nat) (many m mm X Y sh : Nat) : Prop := (∀ j, j < k → PTD w SN ret root (μ j) (μ (j + 1)) many m mm X Y sh (r j)) ∧ (∀ j, j + 1 < k → A w 45 (μ j 1) = ((μ (j + 1) 1 : Nat) : Int)) ∧ (0 < k → A w 45 (μ (k - 1) 1) = -1)
theorem CHD_le (h : CHD w SN ret root k μ r many m mm X Y sh) : ∀ d i, i + d ≤ k → ∀ t, μ i t ≤ μ (i + d) t := by
  intro d
  induction d with
  | zero => intro i _ t; exact Nat.le_refl _
  | succ d ih =>
    intro i hi t
    exact Nat.le_trans (ih i (by omega) t) ((PTD_le (h.1 (i + d) (by omega))).1 t)
def CE (ret : Bool) (k : Nat) (μ : Nat → Nat → Nat) (n : Nat) : Prop := ret = false ∧ ∃ j, j < k ∧ n + 1 = μ (j + 1) 0
def CS2 (k : Nat) (r : Nat → Nat) (n : Nat) : Prop := ∃ j, j < k ∧ n = r j
def CHT (w : MS) (SN : Nat) (ret : Bool) (k : Nat) (μ : Nat → Nat → Nat) (r : Nat → Nat) (m hg hb : Nat) (Z : Nat → Nat) (rk RR : Nat) (T0 : Nat → Nat) (i : Nat) (T : TY) (C : CY) : Prop :=
  (∀ j, i ≤ j → j < k → cH C (μ j 1) = hg ∧ cB C (μ j 1) = hb ∧ cM C (μ j 1) = m ∧ cL C (μ j 1) = Z 2 ∧ cK C (μ j 1) = Z 3 ∧ cC C (μ j 1) = Z 7 ∧ cR C (μ j 1) = RR) ∧
  (i < k → cT C (μ i 1) ≤ rk + (μ k 0 - μ i 0) ∧ rk ≤ cT C (μ i 1)) ∧
  (∀ j, i ≤ j → j < k → (ret = false → ETY T Z (hb + 1) m (μ (j + 1) 0 - 1)) ∧ rk < tR T (μ (j + 1) 0 - 1) ∧ kq w T (r j) = Z 3) ∧ (∀ t, t ≤ 8 → T t (μ k 0) = T0 t) ∧
  FRG w T C Z rk m (μ i) (μ k) SN (CE ret k μ) (CS2 k r)
theorem chain_end {T0 : Nat → Nat} : CHT w SN ret k μ r m hg hb Z rk RR T0 k (fun t _ => T0 t) (fun _ _ => 0) := ⟨fun j h1 h2 => by omega, fun h => by omega, fun j h1 h2 => by omega, fun _ _ => rfl, fun n h1 h2 => by omega, fun n h1 h2 => by omega, fun n h1 h2 => by omega⟩
theorem kq_eq {w : MS} {T T1 : TY} {n : Nat} (h : T 3 n = T1 3 n) : kq w T n = kq w T1 n := by unfold kq; rw [show tK T n = tK T1 n from h]
theorem NODE_ret (ke : KND w n 29) (e : ETY T Z (hb + 1) m2 n) (g0 : Z 4 = 0) (k0 : Z 3 = 0) (hr : rk < tR T n ∧ tR T n ≤ 16000) (hh : hb + 1 ≤ 760 ∧ m2 + Z 2 ≤ 40 ∧ Z 5 ≤ hb ∧ Z 6 ≤ m2) : NODE w T C Z rk m a b SN E S n := by
  obtain ⟨d1, d2, d3, d4, d5⟩ := ke
  obtain ⟨n0, n1, n2, n3, n4, n5, n6, n7⟩ := ETY_t e
  exact ⟨⟨⟨by omega, by omega, by omega, by omega, by omega, by omega, by omega⟩, fun y => absurd y (by omega), fun y => absurd (n4.trans g0) y, by omega⟩, fun _ _ => ⟨fun y => by omega, fun y => by omega, fun y => by omega, fun y => by omega, fun y => by omega, fun y => by omega, fun y => by omega, fun y => by omega, fun y => by omega, fun y => by omega, fun y => by omega, fun y => by omega, fun y => by omega, fun _ => ⟨n4.trans g0, by omega, by omega, by omega⟩, fun y => by omega, fun y => by omega⟩, fun _ => ⟨fun y => by omega, fun y => by omega, fun y => by omega, fun y => by omega, fun y => by omega, fun y => by omega, fun y => by omega, fun y => by omega, fun y => by omega, fun y => by omega, fun y => by omega⟩, fun y => by omega, fun y => by omega, fun y => by omega, ⟨fun y => by omega, fun y => by omega, fun y => by omega, fun y => by omega, fun y => by omega, fun y => by omega⟩, Or.inl d4, Or.inr (Or.inl d5)⟩
theorem NODE_jmp (ke : KND w n 26) (hE : E n) (h25 : A w 25 n = -2) (e : ETY T Z (hb + 1) m2 n) (g0 : Z 4 = 0) (hr : rk < tR T n ∧ tR T n ≤ 16000) (hh : hb + 1 ≤ 760 ∧ m2 + Z 2 ≤ 40 ∧ Z 5 ≤ hb ∧ Z 6 ≤ m2 ∧ Z 3 ≤ 26) : NODE w T C Z rk m a b SN E S n := by
  obtain ⟨d1, d2, d3, d4, d5⟩ := ke
  obtain ⟨n0, n1, n2, n3, n4, n5, n6, n7⟩ := ETY_t e
  exact ⟨⟨⟨by omega, by omega, by omega, by omega, by omega, by omega, by omega⟩, fun y => Or.inr ⟨n7, n3, n2, Nat.le_of_eq n5.symm, Nat.le_of_eq n6.symm, hr.1⟩, fun y => absurd (n4.trans g0) y, by omega⟩, fun _ y => absurd hE y, fun _ => ⟨fun y => by omega, fun y => by omega, fun y => by omega, fun y => by omega, fun y => by omega, fun y => by omega, fun y => by omega, fun y => by omega, fun y => by omega, fun y => by omega, fun y => by omega⟩, fun y => by omega, fun y => by omega, fun y => by omega, ⟨fun y => by omega, fun _ => ⟨fun y => absurd h25 y, fun _ y => absurd hE y⟩, fun y => by omega, fun y => by omega, fun y => by omega, fun y => by omega⟩, Or.inl d4, Or.inr (Or.inl d5)⟩
theorem NODE_guarded (ke : KND w n 23) (gi : GIN w T C a b n) (h23 : tH T n = cH C (tG T n - 1)) (ko : KOUT T Z rk n) (hg : tG T n ≠ 0) (hr : tR T n ≤ 16000) (hh : tH T n ≤ 760 ∧ tM T n + tL T n ≤ 40 ∧ tK T n ≤ 26 ∧ tB T n ≤ tH T n ∧ tD T n ≤ tM T n) : NODE w T C Z rk m a b SN E S n := by
  obtain ⟨d1, d2, d3, d4, d5⟩ := ke
  have : rk < tR T n := ko.2.2.2.2.2
  exact ⟨⟨⟨by omega, by omega, by omega, by omega, by omega, by omega, by omega⟩, fun y => Or.inr ko, fun y => Or.inl gi, by omega⟩, fun _ _ => ⟨fun y => by omega, fun y => by omega, fun y => by omega, fun y => by omega, fun y => by omega, fun y => by omega, fun y => by omega, fun y => by omega, fun y => by omega, fun y => by omega, fun y => by omega, fun y => by omega, fun y => by omega, fun y => by omega, fun y => by omega, fun y => by omega⟩, fun _ => ⟨fun y => by omega, fun y => by omega, fun y => by omega, fun y => by omega, fun y => by omega, fun y => by omega, fun y => by omega, fun y => by omega, fun y => by omega, fun y => by omega, fun y => ⟨hg, h23⟩⟩, fun y => by omega, fun y => by omega, fun y => by omega, ⟨fun y => by omega, fun y => by omega, fun y => by omega, fun y => by omega, fun y => by omega, fun y => by omega⟩, Or.inl d4, Or.inr (Or.inl d5)⟩
end
end
section
section
variable {w w2 : MS} {T T1 : TY} {C C1 : CY} {Z Z1 a b c z a1 b1 p e p2 p3 : Nat → Nat} {g q q2 q3 m m2 m3 lo mm X Y sh lo2 mm2 X2 Y2 sh2 rk SN n x y many hg hb RR k cc mN gk : Nat} {R R1 R2 E S : Nat → Prop} {ret : Bool} {root : Int} {μ : Nat → Nat → Nat} {r : Nat → Nat}
theorem GRD_ty (h : GRD w SN cc p e p2 mN mm X Y sh) (c1 : hg + X ≤ 760) (c2 : Z 3 + Y ≤ 26) (c3 : sh ≤ Z 2) (c4 : mm + Z 2 ≤ 40) (c5 : Z 5 ≤ hg) (c6 : Z 6 ≤ mN) (c7 : rk ≤ gk) (c8 : gk + (p2 0 - p 0) ≤ 16000) (c9 : mN ≤ mm) :
    ∃ (Tg : TY) (Cg : CY), (A w 42 cc = -1 ∨ (A w 42 cc = ((p 0 : Nat) : Int) ∧ p 0 < p2 0 ∧ tH Tg (p 0) = hg ∧ tG Tg (p 0) = cc + 1 ∧ tR Tg (p 0) ≤ gk + (p2 0 - p 0))) ∧ ∀ (T : TY) (C : CY) (a b : Nat → Nat) (E S : Nat → Prop), (∀ i, a i ≤ p i) → (∀ i, p2 i ≤ b i) → a 1 ≤ cc → cc < b 1 → (∀ k n, k ≤ 8 → p 0 ≤ n → n < p2 0 → T k n = Tg k n) → (∀ k d, p 1 ≤ d → d < p2 1 → C k d = Cg k d) → cH C cc = hg → cN C cc = mN → cL C cc = Z 2 → cK C cc = Z 3 → cC C cc = Z 7 → (∀ d : Nat, A w 45 cc = d → a 1 ≤ d ∧ d < b 1 ∧ cT C d ≤ gk) → (∀ n, p 0 ≤ n → n < p2 0 → NODE w T C Z rk m a b SN E S n) ∧ (∀ d, p 1 ≤ d → d < p2 1 → CWD w T C id id (b 0 + 1) (b 1) (b 2) SN d ∧ CLO w a d) ∧ ∀ u, p 3 ≤ u → u < p2 3 → FNW w C a b u := by
  rcases h with ⟨h1, h2⟩ | ⟨h1, h2, h3, h4⟩
  · refine ⟨fun _ _ => 0, fun _ _ => 0, Or.inl h1, fun T C a b E S _ _ _ _ _ _ _ _ _ _ _ _ => ⟨fun n y1 y2 => ?_, fun n y1 y2 => ?_, fun n y1 y2 => ?_⟩⟩
    · rw [h2] at y2; omega
    · rw [h2] at y2; omega
    · rw [h2] at y2; omega
  obtain ⟨⟨s1, s2, s3, s4, s5, s6, s7, s8, s9⟩, s10⟩ := h2
  obtain ⟨-, o2, o3, o4, o5⟩ := h4
  have s0 := s1 0
  obtain ⟨Tg, Cg, t1, t2, t3, t4, t5, t6, t7⟩ := s10 (fun k => if k = 4 then cc + 1 else if k = 5 then hg else Z k) hg (gk + 1) (by simp) (by simp; omega) (by omega) (by simp; omega) (by simp; omega) (by simp; omega) ⟨fun y => by omega, fun y => by simp⟩ (by omega) (by omega)
  obtain ⟨u0, u1, u2, u3, u4, u5, u6, u7⟩ := ETY_t t1
  obtain ⟨v0, v1, v2, v3, v4, v5, v6, v7⟩ := ETY_t t2
  simp at u2 u3 u4 u5 u6 u7 v2 v3 v4 v5 v6 v7
  refine ⟨Tg, Cg, Or.inr ⟨h1, by omega, by omega, u4, by omega⟩, fun T C a b E S a1 b1 a2 b2 eT eC k1 k2 k3 k4 k5 k6 => ?_⟩
  have inn := FRG_tr (T := T) (C := C) (a2 := a) (b2 := b) (Z := Z) (rk := rk) (m := m) (E := E) (S := S) t7 a1 (fun i => Nat.le_trans (o5 i) (b1 i)) (fun k i hk h1 h2 => eT k i hk h1 (by omega)) (fun k c h1 h2 => eC k c h1 (by omega)) (fun i y1 y2 _ y => ?_) (fun i y1 y2 g1 y => ?_) (fun n y => absurd y id) (fun n y => absurd y id)
  · refine ⟨fun n y1 y2 => ?_, fun d y1 y2 => inn.2.1 d y1 (by omega), fun d y1 y2 => inn.2.2 d y1 (by omega)⟩
    rcases Nat.lt_or_ge n (e 0) with y3 | y3
    · exact inn.1 n y1 y3
    · obtain rfl : n = e 0 := by omega
      have w0 : tH T (e 0) = hg := (eT 0 _ (by decide) y1 y2).trans v0
      have w1 : tM T (e 0) = mN := (eT 1 _ (by decide) y1 y2).trans v1
      have w2 : tL T (e 0) = Z 2 := (eT 2 _ (by decide) y1 y2).trans v2
      have w3 : tK T (e 0) = Z 3 := (eT 3 _ (by decide) y1 y2).trans v3
      have w4 : tG T (e 0) = cc + 1 := (eT 4 _ (by decide) y1 y2).trans v4
      have w5 : tB T (e 0) = hg := (eT 5 _ (by decide) y1 y2).trans v5
      have w6 : tD T (e 0) = Z 6 := (eT 6 _ (by decide) y1 y2).trans v6
      have w7 : tC T (e 0) = Z 7 := (eT 7 _ (by decide) y1 y2).trans v7
      have w8 : tR T (e 0) = gk + 1 := (eT 8 _ (by decide) y1 y2).trans t3
      refine NODE_guarded h3 ⟨cc, w4, a2, b2, by omega, by omega, by omega, by omega, by omega, fun d hd => ?_⟩ ?_ ⟨w7, w3, w2, by omega, by omega, by omega⟩ (by omega) (by omega) (by omega)
      · have := k6 d hd
        exact ⟨this.1, this.2.1, by omega⟩
      · rw [w0, w4]; exact k1.symm
  · obtain ⟨q1, q2, q3, q4, q5, q6⟩ := y
    simp at q1 q2 q3 q4 q5
    have hi : i < p2 0 := by omega
    have w5 : tB T i = tB Tg i := eT 5 i (by decide) y1 hi
    have w6 : tD T i = tD Tg i := eT 6 i (by decide) y1 hi
    have w8 : tR T i = tR Tg i := eT 8 i (by decide) y1 hi
    exact Or.inr ⟨(eT 7 i (by decide) y1 hi).trans q1, (eT 3 i (by decide) y1 hi).trans q2, (eT 2 i (by decide) y1 hi).trans q3, by omega, by omega, by omega⟩
  · obtain ⟨q0, q1, q2, q3, q4, q5, q6, q7⟩ := y
    simp at q2 q3 q4 q5 q6
    have hi : i < p2 0 := by omega
    have w1 : tM T i = mN := (eT 1 i (by decide) y1 hi).trans q1
    have w2 : tL T i = Z 2 := (eT 2 i (by decide) y1 hi).trans q2
    have w3 : tK T i = Z 3 := (eT 3 i (by decide) y1 hi).trans q3
    have w4 : tG T i = cc + 1 := (eT 4 i (by decide) y1 hi).trans q4
    have w5 : tB T i = hg := (eT 5 i (by decide) y1 hi).trans q5
    have w7 : tC T i = Z 7 := (eT 7 i (by decide) y1 hi).trans q6
    have w8 : tR T i = tR Tg i := eT 8 i (by decide) y1 hi
    refine Or.inl ⟨cc, w4, a2, b2, by omega, by omega, by omega, by omega, by omega, fun d hd => ?_⟩
    have := k6 d hd
    exact ⟨this.1, this.2.1, by omega⟩
def clc (hg hb m mN l k c r t : Nat) : CY := fun kk _ => [hg, hb, m, mN, l, k, c, r].getD kk t
theorem chain_step {T0 : Nat → Nat} {i : Nat} {T2 : TY} {C2 : CY} (h : CHD w SN ret root k μ r many m mm X Y sh) (hi : i < k) (ht : CHT w SN ret k μ r m hg hb Z rk RR T0 (i + 1) T2 C2) (g0 : Z 4 = 0) (hret : ret = true → Z 3 = 0) (c1 : hg + X ≤ 760) (c1' : hb + X ≤ 760) (c2 : Z 3 + Y ≤ 26) (c3 : sh ≤ Z 2) (c4 : mm + Z 2 ≤ 40) (c5 : Z 5 ≤ hb ∧ Z 5 ≤ hg) (c6 : Z 6 ≤ m) (c7 : 1 ≤ rk) (c8 : rk + (μ k 0 - μ i 0) ≤ RR) (c9 : RR < 16000) : ∃ T C, CHT w SN ret k μ r m hg hb Z rk RR T0 i T C := by
  obtain ⟨mN, mE, p, e, p2, p3, ⟨p0, p1, p3', pa⟩, ⟨f41, fm, fmN, fmm, fP⟩, gr, ⟨f43, sb⟩, ⟨-, o1, o2, o3, o4⟩, fin⟩ := h.1 i hi
  have gl := GRD_le gr
  have gl0 := gl 0
  have gl1 := gl 1
  have gl3 := gl 3
  obtain ⟨⟨s1, s2, s3, s4, s5, s6, s7, s8, s9⟩, s10⟩ := sb
  have s10' := s1 0
  have s11 := s1 1
  have s13 := s1 3
  have lek : ∀ t, μ (i + 1) t ≤ μ k t := fun t => by
    have := CHD_le h (k - (i + 1)) (i + 1) (by omega) t
    rw [show i + 1 + (k - (i + 1)) = k from by omega] at this
    exact this
  have lek0 := lek 0
  have lek1 := lek 1
  have lek3 := lek 3
  obtain ⟨y1, y2, y3, y5, y4⟩ := ht
  obtain ⟨gk, hgk1, hgk2, hgk3⟩ : ∃ gk, rk ≤ gk ∧ gk ≤ rk + (μ k 0 - μ (i + 1) 0) ∧ ∀ d : Nat, A w 45 (μ i 1) = d → d = μ (i + 1) 1 ∧ d < μ k 1 ∧ i + 1 < k ∧ cT C2 d ≤ gk := by
    by_cases hl : i + 1 < k
    · have := y2 hl
      refine ⟨cT C2 (μ (i + 1) 1), this.2, this.1, fun d hd => ?_⟩
      have e1 := h.2.1 i hl
      obtain rfl : d = μ (i + 1) 1 := by omega
      refine ⟨rfl, ?_, hl, Nat.le_refl _⟩
      have := (PTD_le (h.1 (i + 1) hl)).2.2.1
      have h2 := CHD_le h (k - (i + 1 + 1)) (i + 1 + 1) (by omega) 1
      rw [show i + 1 + 1 + (k - (i + 1 + 1)) = k from by omega] at h2
      omega
    · refine ⟨rk, Nat.le_refl _, by omega, fun d hd => ?_⟩
      have e1 := h.2.2 (by omega)
      rw [show k - 1 = i from by omega] at e1
      omega
  obtain ⟨Tg, Cg, gt1, gt2⟩ := GRD_ty (m := m) (hg := hg) (Z := Z) (rk := rk) (gk := gk) gr c1 c2 c3 c4 c5.2 (by omega) hgk1 (by omega) fmm
  obtain ⟨Tb, Cb, t1, t2, t3, t4, t5, t6, t7⟩ := s10 Z hb (rk + 1) hret c5.1 c6 c1' c2 c3 c4 ⟨fun _ => g0, fun y => by omega⟩ (by omega) (by omega)
  have eTg : ∀ k n, n < p2 0 → cat (p2 0) Tg (cat (μ (i + 1) 0) Tb T2) k n = Tg k n := fun k n h1 => cat_l h1
  have eTb : ∀ k n, k ≤ 8 → p2 0 ≤ n → n ≤ p3 0 → cat (p2 0) Tg (cat (μ (i + 1) 0) Tb T2) k n = Tb k n := fun k n _ h1 h2 => by rw [cat_r h1, cat_l (by omega)]
  have eT2 : ∀ k n, k ≤ 8 → μ (i + 1) 0 ≤ n → cat (p2 0) Tg (cat (μ (i + 1) 0) Tb T2) k n = T2 k n := fun k n _ h1 => by rw [cat_r (by omega), cat_r h1]
  generalize cat (p2 0) Tg (cat (μ (i + 1) 0) Tb T2) = T at *
  have eCc : ∀ k, cat (μ i 1 + 1) (clc hg hb m mN (Z 2) (Z 3) (Z 7) RR (gk + (p2 0 - p 0))) (cat (p2 1) Cg (cat (μ (i + 1) 1) Cb C2)) k (μ i 1) = clc hg hb m mN (Z 2) (Z 3) (Z 7) RR (gk + (p2 0 - p 0)) k (μ i 1) := fun k => cat_l (by omega)
  have eCg : ∀ k d, p 1 ≤ d → d < p2 1 → cat (μ i 1 + 1) (clc hg hb m mN (Z 2) (Z 3) (Z 7) RR (gk + (p2 0 - p 0))) (cat (p2 1) Cg (cat (μ (i + 1) 1) Cb C2)) k d = Cg k d := fun k d h1 h2 => by rw [cat_r (by omega), cat_l h2]
  have eCb : ∀ k d, p2 1 ≤ d → d < μ (i + 1) 1 → cat (μ i 1 + 1) (clc hg hb m mN (Z 2) (Z 3) (Z 7) RR (gk + (p2 0 - p 0))) (cat (p2 1) Cg (cat (μ (i + 1) 1) Cb C2)) k d = Cb k d := fun k d h1 h2 => by rw [cat_r (by omega), cat_r h1, cat_l h2]
  have eC2 : ∀ k d, μ (i + 1) 1 ≤ d → cat (μ i 1 + 1) (clc hg hb m mN (Z 2) (Z 3) (Z 7) RR (gk + (p2 0 - p 0))) (cat (p2 1) Cg (cat (μ (i + 1) 1) Cb C2)) k d = C2 k d := fun k d h1 => by rw [cat_r (by omega), cat_r (by omega), cat_r h1]
  generalize cat (μ i 1 + 1) (clc hg hb m mN (Z 2) (Z 3) (Z 7) RR (gk + (p2 0 - p 0))) (cat (p2 1) Cg (cat (μ (i + 1) 1) Cb C2)) = C at *
  have q0 : cH C (μ i 1) = hg := eCc 0
  have q1 : cB C (μ i 1) = hb := eCc 1
  have q2 : cM C (μ i 1) = m := eCc 2
  have q3 : cN C (μ i 1) = mN := eCc 3
  have q4 : cL C (μ i 1) = Z 2 := eCc 4
  have q5 : cK C (μ i 1) = Z 3 := eCc 5
  have q6 : cC C (μ i 1) = Z 7 := eCc 6
  have q7 : cR C (μ i 1) = RR := eCc 7
  have q8 : cT C (μ i 1) = gk + (p2 0 - p 0) := eCc 8
  clear eCc
  have hd : ∀ d : Nat, A w 45 (μ i 1) = d → μ i 1 ≤ d ∧ d < μ k 1 ∧ cT C d ≤ gk := fun d hd => by
    obtain ⟨h1, h2, h3, h4⟩ := hgk3 d hd
    refine ⟨by omega, h2, Nat.le_trans (Nat.le_of_eq (eC2 8 d (by omega))) h4⟩
  have le2 : ∀ t, p2 t ≤ μ k t := fun t => Nat.le_trans (s1 t) (Nat.le_trans (o4 t) (lek t))
  have ik : μ i 1 < μ k 1 := by have := le2 1; omega
  have ga := gt2 T C (μ i) (μ k) (CE ret k μ) (CS2 k r) pa le2 (Nat.le_refl _) ik (fun k n _ _ h2 => eTg k n h2) eCg q0 q3 q4 q5 q6 hd
  have bo := FRG_tr (T := T) (C := C) (a2 := μ i) (b2 := μ k) (Z := Z) (rk := rk) (m := m) (E := CE ret k μ) (S := CS2 k r) t7 (fun t => Nat.le_trans (pa t) (gl t)) (fun t => Nat.le_trans (o4 t) (lek t)) (fun k n hk h1 h2 => eTb k n hk h1 h2) (fun k d h1 h2 => eCb k d h1 (by omega)) (fun n h1 h2 _ y => Or.inr (KOUT_eq y (fun k hk => eTb k n hk h1 (by omega)) (by omega))) (fun n h1 h2 z1 y => absurd (y.2.2.2.2.1.trans g0) z1) (fun n y => absurd y id) (fun n y => ⟨i, hi, y⟩)
  have su := FRG_tr (T := T) (C := C) (a2 := μ i) (b2 := μ k) (Z := Z) (rk := rk) (m := m) (E := CE ret k μ) (S := CS2 k r) y4 (fun t => (PTD_le (h.1 i hi)).1 t) (fun t => Nat.le_refl _) (fun k n hk h1 _ => eT2 k n hk h1) (fun k d h1 _ => eC2 k d h1) (fun n h1 h2 _ y => Or.inr (KOUT_eq y (fun k hk => eT2 k n hk h1) (Nat.le_refl _))) (fun n h1 h2 z1 y => absurd (y.2.2.2.2.1.trans g0) z1) (fun n => id) (fun n => id)
  have te : ETY T Z (hb + 1) mE (p3 0) := ETY_eq t2 (fun k hk => eTb k _ hk s10' (Nat.le_refl _))
  have tr : tR T (p3 0) = rk + 1 := (eTb 8 _ (by decide) s10' (Nat.le_refl _)).trans t3
  have tb := ETY_eq (T := T) t1 (fun k hk => eTb k _ hk (Nat.le_refl _) s10')
  have tbr : tR T (p2 0) = tR Tb (p2 0) := eTb 8 _ (by decide) (Nat.le_refl _) s10'
  have nj : NODE w T C Z rk m (μ i) (μ k) SN (CE ret k μ) (CS2 k r) (p3 0) := by
    rcases fin with ⟨f1, f2⟩ | ⟨f1, f2, f3, f4, f5⟩
    · exact NODE_ret f2 te g0 (hret f1) (by omega) (by omega)
    · exact NODE_jmp f3 ⟨f1, i, hi, by omega⟩ f4 te g0 (by omega) (by omega)
  refine ⟨T, C, fun j h1 h2 => ?_, fun _ => by omega, fun j h1 h2 => ?_, fun t ht => (eT2 t _ ht (by omega)).trans (y5 t ht), fun n h1 h2 => ?_, fun d h1 h2 => ?_, fun u h1 h2 => ?_⟩
  · rcases Nat.lt_or_eq_of_le h1 with hj | hj
    · have hle : μ (i + 1) 1 ≤ μ j 1 := by
        have := CHD_le h (j - (i + 1)) (i + 1) (by omega) 1
        rw [show i + 1 + (j - (i + 1)) = j from by omega] at this
        exact this
      obtain ⟨b0, b1, b2, b3, b4, b5, b6⟩ := y1 j (by omega) h2
      exact ⟨(eC2 0 _ hle).trans b0, (eC2 1 _ hle).trans b1, (eC2 2 _ hle).trans b2, (eC2 4 _ hle).trans b3, (eC2 5 _ hle).trans b4, (eC2 6 _ hle).trans b5, (eC2 7 _ hle).trans b6⟩
    · rw [← hj]
      exact ⟨q0, q1, q2, q4, q5, q6, q7⟩
  · rcases Nat.lt_or_eq_of_le h1 with hj | hj
    · have hle : μ (i + 1) 0 ≤ μ j 0 := by
        have := CHD_le h (j - (i + 1)) (i + 1) (by omega) 0
        rw [show i + 1 + (j - (i + 1)) = j from by omega] at this
        exact this
      have pl := PTD_le (h.1 j h2)
      obtain ⟨b0, b1, b2⟩ := y3 j (by omega) h2
      have e8 : tR T (μ (j + 1) 0 - 1) = tR T2 (μ (j + 1) 0 - 1) := eT2 8 _ (by decide) (by omega)
      exact ⟨fun y => ETY_eq (b0 y) (fun k hk => eT2 k _ hk (by omega)), by omega, (kq_eq (eT2 3 _ (by decide) (by omega))).trans b2⟩
    · rw [← hj, show μ (i + 1) 0 - 1 = p3 0 from by omega]
      have := s9 (r i) rfl
      refine ⟨fun y => ?_, by omega, (kq_eq (eTb 3 _ (by decide) (by omega) (by omega))).trans (t6 _ rfl)⟩
      rcases fin with ⟨f1, f2⟩ | ⟨f1, f2, f3⟩
      · rw [f1] at y; cases y
      · rw [← f2]; exact te
  · rcases Nat.lt_or_ge n (p2 0) with z1 | z1
    · exact ga.1 n (by omega) z1
    rcases Nat.lt_or_ge n (p3 0) with z2 | z2
    · exact bo.1 n z1 z2
    rcases Nat.lt_or_ge n (μ (i + 1) 0) with z3 | z3
    · obtain rfl : n = p3 0 := by omega
      exact nj
    · exact su.1 n z3 h2
  · rcases Nat.lt_or_ge d (p 1) with z1 | z1
    · obtain rfl : d = μ i 1 := by omega
      clear ga bo su nj y4 t7
      refine ⟨?_, gt1.imp id (fun y => by omega), by omega⟩
      unfold CWD
      rw [q0, q1, q2, q3, q4, q5, q6, q7, q8]
      refine ⟨⟨many, f41, fm, PATS_up (PATS_L fP c3) (Nat.le_trans (gl 2) (le2 2))⟩, by omega, ?_, ⟨p2 0, f43, by omega, tb.1, tb.2.1, tb.2.2.1, tb.2.2.2.1, tb.2.2.2.2.1.trans g0, tb.2.2.2.2.2.2.2, by omega⟩, ?_⟩
      · rcases gt1 with y | ⟨w1, w2, w3, w4, w5⟩
        · exact Or.inl y
        · refine Or.inr ⟨p 0, w1, by omega, (eTg 0 _ w2).trans w3, (eTg 4 _ w2).trans w4, Nat.le_trans (Nat.le_of_eq (eTg 8 _ w2)) w5⟩
      · by_cases hl : i + 1 < k
        · have e1 := h.2.1 i hl
          obtain ⟨b0, b1, b2, b3, b4, b5, b6⟩ := y1 (i + 1) (Nat.le_refl _) hl
          have h4 := (hgk3 _ e1)
          have e41 : A w 41 (μ (i + 1) 1) = A w 41 (μ i 1) := by
            obtain ⟨_, _, _, _, _, _, -, ⟨g41, -⟩, -⟩ := h.1 (i + 1) hl
            rw [g41, f41]
          have l1 := Nat.le_refl (μ (i + 1) 1)
          have e8 : cT C (μ (i + 1) 1) = cT C2 (μ (i + 1) 1) := eC2 8 _ l1
          exact Or.inr ⟨μ (i + 1) 1, e1, by omega, h4.2.1, e41, (eC2 0 _ l1).trans b0, (eC2 1 _ l1).trans b1, (eC2 2 _ l1).trans b2, (eC2 4 _ l1).trans b3, (eC2 5 _ l1).trans b4, (eC2 6 _ l1).trans b5, (eC2 7 _ l1).trans b6, by omega⟩
        · have e1 := h.2.2 (by omega)
          rw [show k - 1 = i from by omega] at e1
          exact Or.inl e1
    rcases Nat.lt_or_ge d (p2 1) with z2 | z2
    · exact ga.2.1 d z1 z2
    rcases Nat.lt_or_ge d (μ (i + 1) 1) with z3 | z3
    · exact bo.2.1 d z2 (by omega)
    · exact su.2.1 d z3 h2
  · rcases Nat.lt_or_ge u (p2 3) with z2 | z2
    · exact ga.2.2 u (by omega) z2
    rcases Nat.lt_or_ge u (μ (i + 1) 3) with z3 | z3
    · exact bo.2.2 u z2 (by omega)
    · exact su.2.2 u z3 h2
theorem chain_ok (T0 : Nat → Nat) (h : CHD w SN ret root k μ r many m mm X Y sh) (g0 : Z 4 = 0) (hret : ret = true → Z 3 = 0) (c1 : hg + X ≤ 760) (c1' : hb + X ≤ 760) (c2 : Z 3 + Y ≤ 26) (c3 : sh ≤ Z 2) (c4 : mm + Z 2 ≤ 40) (c5 : Z 5 ≤ hb ∧ Z 5 ≤ hg) (c6 : Z 6 ≤ m) (c7 : 1 ≤ rk) (c8 : rk + (μ k 0 - μ 0 0) ≤ RR) (c9 : RR < 16000) : ∃ T C, CHT w SN ret k μ r m hg hb Z rk RR T0 0 T C := by
  have st : ∀ d, d ≤ k → ∃ T C, CHT w SN ret k μ r m hg hb Z rk RR T0 (k - d) T C := by
    intro d
    induction d with
    | zero => intro _; exact ⟨_, _, chain_end⟩
    | succ d ih =>
      intro hd
      obtain ⟨T, C, ht⟩ := ih (by omega)
      rw [show k - d = k - (d + 1) + 1 from by omega] at ht
      have := CHD_le h (k - (d + 1)) 0 (by omega) 0
      rw [Nat.zero_add] at this
      exact chain_step h (by omega) ht g0 hret c1 c1' c2 c3 c4 c5 c6 c7 (by omega) c9
  have := st k (Nat.le_refl _)
  rwa [Nat.sub_self] at this
end
end
