section
variable {w w2 : MS} {T T1 : TY} {C C1 : CY} {Z Z1 a b c z a1 b1 : Nat → Nat} {g q q2 q3 m m2 m3 lo mm X Y sh lo2 mm2 X2 Y2 sh2 rk SN n e x y : Nat} {R R1 R2 : Nat → Prop}
def tyc (Z : Nat → Nat) (h m r : Nat) : TY := fun k _ => if k = 0 then h else if k = 1 then m else if k = 8 then r else Z k
theorem tyc_e {h r i : Nat} : ETY (tyc Z h m r) Z h m i := by unfold ETY tyc; simp
theorem tyc_r {h r i : Nat} : tR (tyc Z h m r) i = r := by unfold tR tyc; simp
def KND (w : MS) (n : Nat) (k : Int) : Prop := A w 23 n = k ∧ 0 ≤ A w 24 n ∧ A w 24 n < 4002 ∧ A w 28 n = -1 ∧ A w 29 n = -1
theorem SEQ_catch (hn : a 0 = n) (ha : a1 0 = n + 1 ∧ a1 1 = a 1 ∧ a1 3 = a 3 ∧ ∀ i, a i ≤ a1 i) (hb : b1 0 = e ∧ z 0 = e + 1 ∧ z 1 = b1 1 ∧ z 3 = b1 3 ∧ ∀ i, b1 i ≤ z i) (kc : KND w n 19) (h25 : A w 25 n = ((e + 1 : Nat) : Int)) (ke : KND w e 20) (s : SEQ w SN 0 a1 b1 0 1 m m m mm X Y sh (fun _ => False)) (hl : lo ≤ m) : SEQ w SN 0 a z 0 1 m m lo mm X (Y + 1) sh (fun i => i = e) := by
  obtain ⟨a2, a3, a4, a5⟩ := ha
  obtain ⟨b2, b3, b4, b5, b6⟩ := hb
  obtain ⟨⟨s1, s2, s3, s4, s5, s6, s7, s8, s9⟩, s10⟩ := s
  obtain ⟨c1, c2, c3, c4, c5⟩ := kc
  obtain ⟨d1, d2, d3, d4, d5⟩ := ke
  have hne : n + 1 ≤ e := by have := s1 0; omega
  have azi : ∀ i, a i ≤ z i := fun i => Nat.le_trans (a5 i) (Nat.le_trans (s1 i) (b6 i))
  refine ⟨⟨azi, fun y => absurd rfl y, hl, hl, s5, s5, by omega, s8, fun i hi => by omega⟩, fun Z h rk z1 z2 z3 z4 z5 z6 z7 z8 z9 => ?_⟩
  have g0 : Z 4 = 0 := z7.1 rfl
  obtain ⟨T1, C1, t1, t2, t3, t4, t5, t6, t7⟩ := s10 (fun k => if k = 3 then Z 3 + 1 else if k = 5 then h else if k = 6 then m else if k = 7 then n else Z k) h (rk + 1) (by simp) (by simp) (by omega) (by simp; omega) (by simp; omega) (by simp; omega) ⟨fun _ => by simp; exact g0, fun y => by omega⟩ (by omega) (by omega)
  rw [a2] at t1 t4 t5
  rw [b2] at t2 t3 t4 t5
  have en : ETY (cat (n + 1) (tyc Z h m (tR T1 (n + 1) + 1)) (cat (e + 1) T1 (tyc Z (h + 1) m rk))) Z h m n := ETY_eq (T1 := tyc Z h m (tR T1 (n + 1) + 1)) tyc_e (fun k _ => cat_l (by omega))
  have e1 : ∀ k i, k ≤ 8 → n + 1 ≤ i → i ≤ e → cat (n + 1) (tyc Z h m (tR T1 (n + 1) + 1)) (cat (e + 1) T1 (tyc Z (h + 1) m rk)) k i = T1 k i := fun k i _ h1 h2 => by rw [cat_r h1, cat_l (by omega)]
  have ez : ETY (cat (n + 1) (tyc Z h m (tR T1 (n + 1) + 1)) (cat (e + 1) T1 (tyc Z (h + 1) m rk))) Z (h + 1) m (e + 1) := ETY_eq (T1 := tyc Z (h + 1) m rk) tyc_e (fun k _ => by rw [cat_r (by omega), cat_r (by omega)])
  have rz : tR (cat (n + 1) (tyc Z h m (tR T1 (n + 1) + 1)) (cat (e + 1) T1 (tyc Z (h + 1) m rk))) (e + 1) = rk := by show cat _ _ _ 8 _ = _; rw [cat_r (by omega), cat_r (by omega)]; exact tyc_r (i := e + 1)
  have rn : tR (cat (n + 1) (tyc Z h m (tR T1 (n + 1) + 1)) (cat (e + 1) T1 (tyc Z (h + 1) m rk))) n = tR T1 (n + 1) + 1 := by show cat _ _ _ 8 _ = _; rw [cat_l (by omega)]; exact tyc_r (i := n)
  generalize cat (n + 1) (tyc Z h m (tR T1 (n + 1) + 1)) (cat (e + 1) T1 (tyc Z (h + 1) m rk)) = T at *
  have hr : rk + 1 ≤ tR T1 (n + 1) := by
    rcases Nat.lt_or_eq_of_le hne with x | x
    · have := t4 x; omega
    · rw [x, t3]; exact Nat.le_refl _
  have k1 := ETY_eq (T := T) t1 (fun k hk => e1 k _ hk (Nat.le_refl _) hne)
  have k2 := ETY_eq (T := T) t2 (fun k hk => e1 k _ hk hne (Nat.le_refl _))
  have r1 : tR T (n + 1) = tR T1 (n + 1) := e1 8 _ (by decide) (Nat.le_refl _) hne
  have r2 : tR T e = rk + 1 := (e1 8 _ (by decide) hne (Nat.le_refl _)).trans t3
  obtain ⟨n0, n1, n2, n3, n4, n5, n6, n7⟩ := ETY_t en
  obtain ⟨y0, y1, y2, y3, y4, y5, y6, y7⟩ := ETY_t ez
  obtain ⟨p0, p1, p2, p3, p4, p5, p6, p7⟩ := ETY_t k1
  obtain ⟨v0, v1, v2, v3, v4, v5, v6, v7⟩ := ETY_t k2
  simp at p2 p3 p4 p5 p6 p7 v2 v3 v4 v5 v6 v7
  have inn := FRG_tr (T := T) (C := C1) (a2 := a) (b2 := z) (Z := Z) (rk := rk) (m := m) (E := fun _ => False) (S := fun i => i = e) t7 a5 b6 (fun k i hk h1 h2 => e1 k i hk (by omega) (by omega)) (fun k c _ _ => rfl) (fun i h1 h2 y0' y => ?_) (fun i h1 h2 g1 g2 => ?_) (fun _ => id) (fun i y => absurd y id)
  · refine ⟨T, C1, by rw [hn]; exact en, by rw [b3]; exact ez, by rw [b3]; exact rz, fun _ => by rw [hn]; omega, by rw [hn]; omega, fun i hi => ?_, fun i h1 h2 => ?_, fun i h1 h2 => inn.2.1 i (by omega) (by omega), fun i h1 h2 => inn.2.2 i (by omega) (by omega)⟩
    · rw [hi]; unfold kq; rw [if_pos d1]; omega
    · rcases Nat.lt_or_ge n i with hi | hi
      · rcases Nat.lt_or_ge i e with hj | hj
        · exact inn.1 i (by omega) (by omega)
        · obtain rfl : i = e := by omega
          refine ⟨⟨⟨?_, ?_, ?_, ?_, ?_, by omega, by omega⟩, fun _ => Or.inl ⟨?_, ?_, ?_, ?_, ?_, ?_, ?_, i + 1, ?_, by omega, by omega, by omega⟩, fun y => absurd (v4.trans g0) y, by omega⟩, fun _ _ => ⟨fun y => by omega, fun y => by omega, fun y => by omega, fun y => by omega, fun y => by omega, fun y => by omega, fun y => by omega, fun y => by omega, fun _ => ⟨?_, ?_, ?_, ?_, ?_, ?_, ?_, ?_, ?_, fun _ => ?_, by omega⟩, fun y => by omega, fun y => by omega, fun y => by omega, fun y => by omega, fun y => by omega, fun y => by omega, fun y => by omega⟩, fun _ => ⟨fun y => by omega, fun y => by omega, fun y => by omega, fun y => by omega, fun y => by omega, fun y => by omega, fun y => by omega, fun y => by omega, fun y => by omega, fun y => by omega, fun y => by omega⟩, fun y => by omega, fun y => by omega, fun _ => ⟨?_, ?_⟩, ⟨fun y => by omega, fun y => by omega, fun y => by omega, fun y => by omega, fun y => by omega, fun y => by omega⟩, Or.inl d4, Or.inl rfl⟩
          all_goals try rw [v7]
          all_goals first | omega | assumption
      · obtain rfl : i = n := by omega
        refine ⟨⟨⟨?_, ?_, ?_, ?_, ?_, by omega, by omega⟩, fun _ => Or.inr ⟨n7, n3, n2, Nat.le_of_eq n5.symm, Nat.le_of_eq n6.symm, by omega⟩, fun y => absurd (n4.trans g0) y, by omega⟩, fun _ _ => ⟨fun y => by omega, fun y => by omega, fun y => by omega, fun y => by omega, fun y => by omega, fun y => by omega, fun y => by omega, fun _ => ⟨?_, ?_, ?_, ?_, ?_, ?_, ?_, ?_, ?_, by omega, e + 1, h25, by omega, NX_c (ETY_nx en ez (by omega)) (by omega) (by omega)⟩, fun y => by omega, fun y => by omega, fun y => by omega, fun y => by omega, fun y => by omega, fun y => by omega, fun y => by omega, fun y => by omega⟩, fun _ => ⟨fun y => by omega, fun y => by omega, fun y => by omega, fun y => by omega, fun y => by omega, fun y => by omega, fun y => by omega, fun y => by omega, fun y => by omega, fun y => by omega, fun y => by omega⟩, fun y => by omega, fun y => by omega, fun y => by omega, ⟨fun y => by omega, fun y => by omega, fun y => by omega, fun y => by omega, fun y => by omega, fun y => by omega⟩, Or.inl c4, Or.inr (Or.inl c5)⟩
        all_goals first | omega | assumption
  · obtain ⟨q1, q2, q3, q4, q5, q6⟩ := y
    simp at q1 q2 q3 q4 q5
    have hi : n + 1 ≤ i ∧ i ≤ e := by omega
    have w7 : tC T i = n := (e1 7 i (by decide) hi.1 hi.2).trans q1
    have w3 : tK T i = Z 3 + 1 := (e1 3 i (by decide) hi.1 hi.2).trans q2
    have w2 : tL T i = Z 2 := (e1 2 i (by decide) hi.1 hi.2).trans q3
    have w5 : tB T i = tB T1 i := e1 5 i (by decide) hi.1 hi.2
    have w6 : tD T i = tD T1 i := e1 6 i (by decide) hi.1 hi.2
    have w8 : tR T i = tR T1 i := e1 8 i (by decide) hi.1 hi.2
    refine Or.inl ⟨?_, ?_, ?_, ?_, ?_, ?_, ?_, e + 1, ?_, by omega, by omega, by omega⟩
    all_goals rw [w7]
    all_goals first | omega | assumption
  · have q4 := g2.2.2.2.2.1
    simp at q4
    exact absurd (q4.trans g0) g1
theorem SEQ_andor {k : Int} (hk : k = 9 ∨ k = 10) (hn : a 0 = n) (ha : a1 0 = n + 1 ∧ a1 1 = a 1 ∧ a1 3 = a 3 ∧ ∀ i, a i ≤ a1 i) (kn : KND w n k) (h25 : A w 25 n = ((b 0 : Nat) : Int)) (s : SEQ w SN g a1 b 0 1 m m lo mm X Y sh (fun _ => False)) : SEQ w SN g a b 1 1 m m lo mm X Y sh (fun i => i = n) := by
  obtain ⟨a2, a3, a4, a5⟩ := ha
  obtain ⟨⟨s1, s2, s3, s4, s5, s6, s7, s8, s9⟩, s10⟩ := s
  obtain ⟨c1, c2, c3, c4, c5⟩ := kn
  have hne : n + 1 ≤ b 0 := by have := s1 0; omega
  refine ⟨⟨fun i => Nat.le_trans (a5 i) (s1 i), fun _ => rfl, s3, s4, s5, s6, s8, s8, fun i hi => by omega⟩, fun Z h rk z1 z2 z3 z4 z5 z6 z7 z8 z9 => ?_⟩
  obtain ⟨T1, C1, t1, t2, t3, t4, t5, t6, t7⟩ := s10 Z h rk z1 z2 z3 z4 z5 z6 z7 z8 (by omega)
  rw [a2] at t1 t4 t5
  have en : ETY (cat (n + 1) (tyc Z (h + 1) m (tR T1 (n + 1) + 1)) T1) Z (h + 1) m n := ETY_eq (T1 := tyc Z (h + 1) m (tR T1 (n + 1) + 1)) tyc_e (fun k _ => cat_l (by omega))
  have e1 : ∀ k i, k ≤ 8 → n + 1 ≤ i → i ≤ b 0 → cat (n + 1) (tyc Z (h + 1) m (tR T1 (n + 1) + 1)) T1 k i = T1 k i := fun k i _ h1 h2 => by rw [cat_r h1]
  have rn : tR (cat (n + 1) (tyc Z (h + 1) m (tR T1 (n + 1) + 1)) T1) n = tR T1 (n + 1) + 1 := by show cat _ _ _ 8 _ = _; rw [cat_l (by omega)]; exact tyc_r (i := n)
  generalize cat (n + 1) (tyc Z (h + 1) m (tR T1 (n + 1) + 1)) T1 = T at *
  have hr : rk ≤ tR T1 (n + 1) := by
    rcases Nat.lt_or_eq_of_le hne with x | x
    · have := t4 x; omega
    · rw [x, t3]; exact Nat.le_refl _
  have k1 := ETY_eq (T := T) t1 (fun k hk => e1 k _ hk (Nat.le_refl _) hne)
  have k2 := ETY_eq (T := T) t2 (fun k hk => e1 k _ hk hne (Nat.le_refl _))
  have r1 : tR T (n + 1) = tR T1 (n + 1) := e1 8 _ (by decide) (Nat.le_refl _) hne
  have r2 : tR T (b 0) = rk := (e1 8 _ (by decide) hne (Nat.le_refl _)).trans t3
  obtain ⟨n0, n1, n2, n3, n4, n5, n6, n7⟩ := ETY_t en
  have inn := FRG_tr (T := T) (C := C1) (a2 := a) (b2 := b) (Z := Z) (rk := rk) (m := m) (E := fun _ => False) (S := fun i => i = n) t7 a5 (fun i => Nat.le_refl _) (fun k i hk h1 h2 => e1 k i hk (by omega) (by omega)) (fun k c _ _ => rfl) (fun i h1 h2 _ y => Or.inr (KOUT_eq y (fun k hk => e1 k i hk (by omega) (by omega)) (Nat.le_refl _))) (fun i h1 h2 _ y => Or.inr (GOUT_eq y (fun k hk => e1 k i hk (by omega) (by omega)) (Nat.le_refl _) rfl)) (fun _ => id) (fun i y => absurd y id)
  refine ⟨T, C1, by rw [hn]; exact en, k2, r2, fun _ => by rw [hn]; omega, by rw [hn]; omega, fun i hi => by rw [hi]; unfold kq; rw [if_neg (by omega)]; exact n3, fun i h1 h2 => ?_, fun i h1 h2 => inn.2.1 i (by omega) (by omega), fun i h1 h2 => inn.2.2 i (by omega) (by omega)⟩
  rcases Nat.lt_or_ge n i with hi | hi
  · exact inn.1 i (by omega) (by omega)
  · obtain rfl : i = n := by omega
    refine ⟨⟨⟨by omega, by omega, by omega, by omega, by omega, by omega, by omega⟩, fun _ => Or.inr ⟨n7, n3, n2, Nat.le_of_eq n5.symm, Nat.le_of_eq n6.symm, by omega⟩, fun _ => Or.inr ⟨by omega, n1, n2, n3, n4, n5, n7, by omega⟩, by omega⟩, fun _ _ => ⟨fun y => by omega, fun y => by omega, fun y => by omega, fun y => by omega, fun y => by omega, fun y => by omega, fun y => by omega, fun y => by omega, fun y => by omega, fun y => by omega, fun y => by omega, fun y => by omega, fun y => by omega, fun y => by omega, fun y => by omega, fun y => by omega⟩, fun _ => ⟨fun y => by omega, fun y => by omega, fun y => by omega, fun y => by omega, fun y => by omega, fun y => by omega, fun y => by omega, fun _ => ⟨by omega, NX_c (ETY_nx en k1 (by omega)) (by omega) (by omega), b 0, h25, by omega, NX_c (ETY_nx en k2 (by omega)) (by omega) (by omega)⟩, fun y => by omega, fun y => by omega, fun y => by omega⟩, fun y => by omega, fun y => by omega, fun y => by omega, ⟨fun y => by omega, fun y => by omega, fun y => by omega, fun y => by omega, fun y => by omega, fun y => by omega⟩, Or.inl c4, Or.inr (Or.inl c5)⟩
def JR (w : MS) (n : Nat) (R : Nat → Prop) : Prop := A w 28 n = -1 ∨ ∃ x : Nat, A w 28 n = x ∧ R x
theorem SEQ_join (o : ONE b z n) (kn : A w 23 n = 30 ∧ 0 ≤ A w 24 n ∧ A w 24 n < 4002 ∧ A w 29 n = -1) (h28 : JR w n R) (s : SEQ w SN 0 a b 0 1 m m lo mm X Y sh R) (h29 : ∀ i, R i → A w 29 i = -1) : SEQ w SN 0 a z 0 1 m m lo mm X Y sh (fun i => i = n) := by
  obtain ⟨o0, o1, o2, o3, o4⟩ := o
  obtain ⟨⟨s1, s2, s3, s4, s5, s6, s7, s8, s9⟩, s10⟩ := s
  obtain ⟨c1, c2, c3, c4⟩ := kn
  have hne := s1 0
  refine ⟨⟨fun i => Nat.le_trans (s1 i) (o4 i), fun _ => rfl, s3, s4, s5, s6, s7, s8, fun i hi => by omega⟩, fun Z h rk z1 z2 z3 z4 z5 z6 z7 z8 z9 => ?_⟩
  have g0 : Z 4 = 0 := z7.1 rfl
  obtain ⟨T1, C1, t1, t2, t3, t4, t5, t6, t7⟩ := s10 Z h (rk + 1) z1 z2 z3 z4 z5 z6 z7 (by omega) (by omega)
  rw [o0] at t2 t3 t4 t5
  have ez : ETY (cat (n + 1) T1 (tyc Z (h + 1) m rk)) Z (h + 1) m (n + 1) := ETY_eq (T1 := tyc Z (h + 1) m rk) tyc_e (fun k _ => cat_r (by omega))
  have e1 : ∀ k i, k ≤ 8 → i ≤ n → cat (n + 1) T1 (tyc Z (h + 1) m rk) k i = T1 k i := fun k i _ h2 => by rw [cat_l (by omega)]
  have rz : tR (cat (n + 1) T1 (tyc Z (h + 1) m rk)) (n + 1) = rk := by show cat _ _ _ 8 _ = _; rw [cat_r (by omega)]; exact tyc_r (i := n)
  generalize cat (n + 1) T1 (tyc Z (h + 1) m rk) = T at *
  have k1 := ETY_eq (T := T) t1 (fun k hk => e1 k _ hk (by omega))
  have k2 := ETY_eq (T := T) t2 (fun k hk => e1 k _ hk (by omega))
  have r1 : tR T (a 0) = tR T1 (a 0) := e1 8 _ (by decide) (by omega)
  have r2 : tR T n = rk + 1 := (e1 8 _ (by decide) (by omega)).trans t3
  obtain ⟨n0, n1, n2, n3, n4, n5, n6, n7⟩ := ETY_t k2
  have inn := FRG_tr (T := T) (C := C1) (a2 := a) (b2 := z) (Z := Z) (rk := rk) (m := m) (E := fun _ => False) (S := fun i => i = n ∨ R i) t7 (fun i => Nat.le_refl _) o4 (fun k i hk h1 h2 => e1 k i hk (by omega)) (fun k c _ _ => rfl) (fun i h1 h2 _ y => Or.inr (KOUT_eq y (fun k hk => e1 k i hk (by omega)) (by omega))) (fun i h1 h2 _ y => Or.inr (GOUT_eq y (fun k hk => e1 k i hk (by omega)) (by omega) rfl)) (fun _ => id) (fun i y => Or.inr y)
  have hkq : kq w T n = Z 3 := by unfold kq; rw [if_neg (by omega)]; exact n3
  have hR : ∀ i, R i → kq w T i = Z 3 := fun i hi => by
    have y := t6 i hi
    have := s9 i hi
    unfold kq at y ⊢
    rw [show tK T i = tK T1 i from e1 3 i (by decide) (by omega)]
    exact y
  refine ⟨T, C1, k1, by rw [o1]; exact ez, by rw [o1]; exact rz, fun _ => ?_, by omega, fun i hi => by rw [hi]; exact hkq, fun i h1 h2 => ?_, fun i h1 h2 => inn.2.1 i (by omega) (by omega), fun i h1 h2 => inn.2.2 i (by omega) (by omega)⟩
  · rcases Nat.lt_or_eq_of_le hne with x | x
    · have := t4 (by omega); omega
    · rw [x, o0]; omega
  rcases Nat.lt_or_ge i n with hi | hi
  · obtain ⟨y1, y2, y3, y4, y5, y6, y7, y8, y9⟩ := inn.1 i (by omega) (by omega)
    refine ⟨y1, y2, y3, y4, y5, y6, y7, y8, ?_⟩
    rcases y9 with (y9 | y9) | y9
    · exact Or.inl y9
    · exact Or.inr (Or.inl (h29 i y9))
    · exact Or.inr y9
  · obtain rfl : i = n := by omega
    refine ⟨⟨⟨by omega, by omega, by omega, by omega, by omega, by omega, by omega⟩, fun _ => Or.inr ⟨n7, n3, n2, Nat.le_of_eq n5.symm, Nat.le_of_eq n6.symm, by omega⟩, fun y => absurd (n4.trans g0) y, by omega⟩, fun _ _ => ⟨fun y => by omega, fun y => by omega, fun y => by omega, fun y => by omega, fun y => by omega, fun y => by omega, fun y => by omega, fun y => by omega, fun y => by omega, fun y => by omega, fun y => by omega, fun y => by omega, fun y => by omega, fun y => by omega, fun _ => ⟨n4.trans g0, NX_c (ETY_nx k2 ez (by omega)) (by omega) (by omega)⟩, fun y => by omega⟩, fun _ => ⟨fun y => by omega, fun y => by omega, fun y => by omega, fun y => by omega, fun y => by omega, fun y => by omega, fun y => by omega, fun y => by omega, fun y => by omega, fun y => by omega, fun y => by omega⟩, fun y => by omega, fun y => by omega, fun y => by omega, ⟨fun y => by omega, fun y => by omega, fun y => by omega, fun y => by omega, fun y => by omega, fun y => by omega⟩, ?_, Or.inl rfl⟩
    rcases h28 with y | ⟨x, y1, y2⟩
    · exact Or.inl y
    · have := s9 x y2
      exact Or.inr ⟨x, y1, by omega, by omega, (hR x y2).trans hkq.symm⟩
end
