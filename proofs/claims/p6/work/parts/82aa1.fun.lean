section
variable {w w2 : MS} {T T1 : TY} {C C1 : CY} {Z Z1 a b c z a1 b1 c2 c3 c4 : Nat → Nat} {m mm X Y sh mm2 X2 Y2 sh2 lo rk SN n x y many hf j e u rr : Nat} {root : Int}
theorem SEQ_fun (hj : a 0 = j ∧ a 3 = u) (ha : a1 0 = j + 1 ∧ a1 1 = a 1 ∧ a1 3 = u + 1 ∧ ∀ i, a i ≤ a1 i) (h : PTD w SN true root a1 b1 many 0 mm2 X2 Y2 sh2 rr) (h45 : A w 45 (a 1) = -1) (h29 : A w 29 rr = -1) (hz : b1 0 = e ∧ z 0 = e + 1 ∧ z 1 = b1 1 ∧ z 3 = b1 3 ∧ ∀ i, b1 i ≤ z i) (kj : KND w j 26) (h25 : A w 25 j = ((e : Nat) : Int)) (ke : KND w e 14) (h25e : A w 25 e = ((u : Nat) : Int))
    (h53 : A w 53 u = ((a 1 : Nat) : Int)) (h54 : A w 54 u = ((hf : Nat) : Int)) (h55 : A w 55 u = ((x : Nat) : Int)) (hx : x + hf ≤ z 4) (hn : ∀ i, i < hf → NCO (A w 57 (x + i)) m sh) (hb : X2 + 6 ≤ 760 ∧ Y2 ≤ 26 ∧ sh2 ≤ hf ∧ mm2 + hf ≤ 40) (hr : lo ≤ m ∧ m ≤ mm ∧ 1 ≤ X) : SEQ w SN 0 a z 0 1 m m lo mm X Y sh (fun i => i = e) := by
  obtain ⟨a2, a3, a4, a5⟩ := ha
  obtain ⟨b2, b3, b4, b5, b6⟩ := hz
  obtain ⟨j1, j2, j3, j4, j5⟩ := kj
  obtain ⟨f1, f2, f3, f4, f5⟩ := ke
  have pl := PTD_le h
  have pl1 := pl.1 1
  have pl3 := pl.1 3
  have az : ∀ t, a t ≤ z t := fun t => Nat.le_trans (a5 t) (Nat.le_trans (pl.1 t) (b6 t))
  refine ⟨⟨az, fun _ => rfl, by omega, by omega, by omega, by omega, by omega, by omega, fun i hi => by omega⟩, fun Z hh rk z1 z2 z3 z4 z5 z6 z7 z8 z9 => ?_⟩
  have g0 : Z 4 = 0 := z7.1 rfl
  have ch : CHD w SN true root 1 (fun i => if i = 0 then a1 else b1) (fun _ => rr) many 0 mm2 X2 Y2 sh2 := by
    refine ⟨fun i hi => ?_, fun i hi => by omega, fun _ => by show A w 45 (a1 1) = -1; rw [a3]; exact h45⟩
    obtain rfl : i = 0 := Nat.lt_one_iff.mp hi
    exact h
  have hm6 : many ≤ 6 ∧ A w 41 (a1 1) = many := by
    obtain ⟨_, _, _, _, _, _, -, ⟨f41, fm, -⟩, -⟩ := h
    exact ⟨fm, f41⟩
  obtain ⟨T1, C1, ht⟩ := chain_ok (hg := many) (hb := 0) (Z := fun t => if t = 2 then hf else 0) (rk := 1) (RR := 1 + (e - (j + 1))) (fun t => tyc Z hh m (rk + 1) t 0) ch (by simp) (fun _ => by simp) (by omega) (by omega) (by simp; omega) (by simp; omega) (by simp; omega) (by simp) (by simp) (Nat.le_refl _) (by show 1 + (b1 0 - a1 0) ≤ _; omega) (by omega)
  obtain ⟨y1, y2, y3, y5, y4⟩ := ht
  replace y5 : ∀ t, t ≤ 8 → T1 t (b1 0) = tyc Z hh m (rk + 1) t 0 := y5
  replace y4 : FRG w T1 C1 (fun t => if t = 2 then hf else 0) 1 0 a1 b1 SN (CE true 1 fun i => if i = 0 then a1 else b1) (CS2 1 fun _ => rr) := y4
  obtain ⟨T, hT⟩ : ∃ T, T = cat (j + 1) (tyc Z hh m (rk + 2)) (cat (e + 1) T1 (tyc Z (hh + 1) m rk)) := ⟨_, rfl⟩
  have ej : ETY T Z hh m j := ETY_eq (T1 := tyc Z hh m (rk + 2)) tyc_e (fun t _ => by rw [hT]; exact cat_l (by omega))
  have rj : tR T j = rk + 2 := by rw [hT]; exact (cat_l (k := 8) (by omega)).trans (tyc_r (i := 0))
  have e1 : ∀ t i, t ≤ 8 → a1 0 ≤ i → i ≤ b1 0 → T t i = T1 t i := fun t i _ h1 h2 => by rw [hT, cat_r (by omega), cat_l (by omega)]
  have ez : ETY T Z (hh + 1) m (e + 1) := ETY_eq (T1 := tyc Z (hh + 1) m rk) tyc_e (fun t _ => by rw [hT, cat_r (by omega), cat_r (by omega)])
  have rz : tR T (e + 1) = rk := by rw [hT]; exact ((cat_r (k := 8) (by omega)).trans (cat_r (k := 8) (by omega))).trans (tyc_r (i := 0))
  clear hT
  have ee : ETY T Z hh m e := ETY_eq (T1 := fun t _ => tyc Z hh m (rk + 1) t 0) (tyc_e (i := 0)) (fun t ht => by rw [← b2]; exact (e1 t _ ht (by omega) (Nat.le_refl _)).trans (y5 t ht))
  have re : tR T e = rk + 1 := by rw [← b2]; exact ((e1 8 _ (by decide) (by omega) (Nat.le_refl _)).trans (y5 8 (by decide))).trans (tyc_r (i := 0))
  have inn := FRG_tr (T := T) (C := C1) (a2 := a) (b2 := z) (Z := Z) (rk := rk) (m := m) (E := fun _ => False) (S := fun i => i = rr) y4 a5 b6 e1 (fun _ _ _ _ => rfl) (fun i h1 h2 y0 y => by have := y.2.1; simp at this; omega) (fun i h1 h2 y0 y => by have := y.2.2.2.2.1; simp at this; exact absurd this y0) (fun i y => by cases y.1) (fun i y => by obtain ⟨_, _, q⟩ := y; exact q)
  obtain ⟨w0, w1, w2, w3, w4, w5, w6, w7⟩ := ETY_t ee
  have ke' : kq w T e = Z 3 := by unfold kq; rw [if_neg (by omega)]; exact w3
  have hc := y1 0 (Nat.le_refl _) (by decide)
  simp only [if_true] at hc
  refine ⟨T, C1, by rw [hj.1]; exact ej, by rw [b3]; exact ez, by rw [b3]; exact rz, fun _ => by rw [hj.1]; omega, by rw [hj.1]; omega, fun i hi => by rw [hi]; exact ke', fun i h1 h2 => ?_, fun i h1 h2 => inn.2.1 i (by omega) (by omega), fun i h1 h2 => ?_⟩
  · rcases Nat.lt_or_ge i (j + 1) with hi | hi
    · obtain rfl : i = j := by omega
      exact NODE_26 (t := e) j1 ⟨j2, j3⟩ ej ee g0 (by omega) (by omega) h25 (by omega) ⟨Or.inl j4, Or.inr (Or.inl j5)⟩
    rcases Nat.lt_or_ge i e with hi2 | hi2
    · exact NODE_S (inn.1 i (by omega) (by omega)) (fun q => Or.inr (Or.inl (by rw [q]; exact h29)))
    · obtain rfl : i = e := by omega
      refine NODE_0 (by omega) ⟨f2, f3⟩ ee g0 (by omega) (by omega) (fun _ => ⟨fun y => by omega, fun y => by omega, fun _ => ?_, fun y => by omega, fun y => by omega, fun y => by omega, fun y => by omega, fun y => by omega, fun y => by omega, fun y => by omega, fun y => by omega, fun y => by omega, fun y => by omega, fun y => by omega, fun y => by omega, fun y => by omega⟩) ⟨fun y => by omega, fun y => by omega, fun y => by omega, fun y => by omega, fun _ => by omega, fun y => by omega⟩ ⟨Or.inl f4, Or.inr (Or.inl f5)⟩
      refine ⟨w4.trans g0, ⟨u, h25e, by omega, fun i hi => ?_⟩, NX_c (ETY_nx ee ez (by omega)) (by omega) w1.symm⟩
      rw [h54] at hi
      rw [h55, Int.toNat_natCast, w1, w2]
      exact (hn i (by omega)).imp id (fun q => by omega)
  · rcases Nat.lt_or_ge i (u + 1) with hi | hi
    · obtain rfl : i = u := by omega
      refine ⟨⟨many, hf, 1 + (e - (j + 1)), h54, by omega, by omega, by omega, hm6.1, ?_⟩, by omega⟩
      rw [h53, ← a3]
      refine ⟨a1 1, rfl, by omega, hm6.2, ?_⟩
      have hc2 := hc
      simp at hc2
      exact hc2
    · exact inn.2.2 i (by omega) (by omega)
end
