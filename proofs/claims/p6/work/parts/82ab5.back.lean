section
variable {u0 u v w x : MS} {N σ s TN SN : Nat} {p o n q c f h wt g p2 o2 n2 q2 c2 f2 h2 w2 y : Int} {a6 a3 : Nat → Int}
theorem tback_loop (hσ : σ ≤ 26) (hs : s ≤ 26) : ∀ (m i : Nat) (v : MS), F v 65 = σ → F v 77 = 54 * (s : Int) + 54 → i ≤ σ + 1 → σ + 1 - i < m → (∀ t, t < i → A v 60 t = a6 t ∧ A v 63 t = a3 t) → (∀ t, t ≤ σ → A v 76 (54 * s + 2 * t) = a6 t ∧ A v 76 (54 * s + 2 * t + 1) = a3 t) → OK (fun x _ => FR [] [] [60, 63] [] v x ∧ ∀ t, t ≤ σ → A x 60 t = a6 t ∧ A x 63 t = a3 t) (gg_M_takeBack N m v (I (i : Int))) := by
  intro m
  induction m with
  | zero => intro i v _ _ _ z; exact absurd z (Nat.not_lt_zero _)
  | succ m ih =>
    intro i v h65 h77 hi hm ht hv
    show OK _ (fb_M_takeBack_115 N (gg_M_takeBack N m) v (I (i : Int)))
    unfold fb_M_takeBack_115
    simp only [lt_e]
    rw [I_F' h65]
    refine k_lt ⟨by omega, by omega⟩ ⟨by omega, by omega⟩ (fun e => ok_some.mpr ⟨FR.rf, fun t h1 => ht t (by omega)⟩) (fun e => ?_)
    have ts : (I (i : Int)).toNatClampNeg = i := by rw [I_tn (by omega) (by omega)]; omega
    have t1 : (I (54 * (s : Int) + 54 - 54 + 2 * i)).toNatClampNeg = 54 * s + 2 * i := by rw [I_tn (by omega) (by omega)]; omega
    have t2 : (I (54 * (s : Int) + 54 - 54 + 2 * i + 1)).toNatClampNeg = 54 * s + 2 * i + 1 := by rw [I_tn (by omega) (by omega)]; omega
    obtain ⟨v1, v2⟩ := hv i (by omega)
    rw [I_F' h77, show (54 : Int32) = I 54 from rfl, I_sub, show (2 : Int32) = I 2 from rfl, I_mul, I_add, t1, ts, I_A' v1]
    refine k_in (k := 76) (n := 3240) rfl (by decide) (by omega) (k_in (k := 60) (n := 27) rfl (by decide) (by omega) ?_)
    rw [wa_e, I_F' (show F (wa v 60 i (a6 i)) 77 = 54 * (s : Int) + 54 from h77), I_sub, I_add, lit1q, I_add, t2, I_A' (show A (wa v 60 i (a6 i)) 76 (54 * s + 2 * i + 1) = a3 i from v2)]
    refine k_in (k := 76) (n := 3240) rfl (by decide) (by omega) (k_in (k := 63) (n := 27) rfl (by decide) (by omega) ?_)
    rw [wa_e, I_add, show (i : Int) + 1 = ((i + 1 : Nat) : Int) from by omega]
    have r6 : RG (a6 i) := by rw [← v1]; exact ARG1 v 76 _
    have r3 : RG (a3 i) := by rw [← v2]; exact ARG1 v 76 _
    have y60 : ∀ j, A (wa (wa v 60 i (a6 i)) 63 i (a3 i)) 60 j = if j = i then a6 i else A v 60 j := fun j => by rw [wa_rne (by decide), A_wa r6.1 r6.2, if_pos rfl]
    have y63 : ∀ j, A (wa (wa v 60 i (a6 i)) 63 i (a3 i)) 63 j = if j = i then a3 i else A v 63 j := fun j => by rw [A_wa r3.1 r3.2, if_pos rfl, wa_rne (by decide)]
    have fr : FR [] [] [60, 63] [] v (wa (wa v 60 i (a6 i)) 63 i (a3 i)) := FR.wa (FR.wa FR.rf (by decide)) (by decide)
    generalize wa (wa v 60 i (a6 i)) 63 i (a3 i) = v3 at *
    refine ok_mono (ih (i + 1) v3 (by rw [fr.F (by decide)]; exact h65) (by rw [fr.F (by decide)]; exact h77) (by omega) (by omega) (fun t h1 => ?_) (fun t h1 => by rw [fr.A (by decide), fr.A (by decide)]; exact hv t h1)) (fun x _ hx => ⟨FR.tr fr hx.1, hx.2⟩)
    rw [y60, y63]
    by_cases z : t = i
    · rw [if_pos z, if_pos z, z]; exact ⟨rfl, rfl⟩
    · rw [if_neg z, if_neg z]; exact ht t (by omega)
def TBF (σ : Nat) (u w x : MS) : Prop := FR [32, 39, 46, 56, 58, 66, 71, 72] [] [60, 63] [] w x ∧ (F x 32 = F u 32 ∧ F x 39 = F u 39 ∧ F x 46 = F u 46 ∧ F x 56 = F u 56 ∧ F x 58 = F u 58 ∧ F x 71 = F u 71 ∧ F x 72 = F u 72 ∧ F x 66 = F u 66) ∧ ∀ t, t ≤ σ → A x 60 t = A u 60 t ∧ A x 63 t = A u 63 t
theorem tback_0 (hN : 5000 ≤ N) (hσ : σ ≤ 26) (hs : s ≤ 26) (h65 : F w 65 = σ) (h75 : F w 75 = 8 * (s : Int) + 8) (h77 : F w 77 = 54 * (s : Int) + 54) (sv : SVD σ s u w) (h66 : F u 66 = 0 ∨ F u 66 = 1) : OK (fun x _ => TBF σ u w x) (fm_M_takeBack N w) := by
  obtain ⟨⟨a0, a1, a2, a3, a4, a5, a6, a7⟩, b⟩ := sv
  unfold fm_M_takeBack fb_M_takeBack_0
  simp only [lt_e]
  have tn : ∀ j : Nat, j ≤ 7 → (I (8 * (s : Int) + j)).toNatClampNeg = 8 * s + j := fun j hj => by rw [I_tn (by omega) (by omega)]; omega
  have tn0 : (I (8 * (s : Int))).toNatClampNeg = 8 * s := by rw [I_tn (by omega) (by omega)]; omega
  have l : (1 : Int32) = I ((1 : Nat) : Int) ∧ (2 : Int32) = I ((2 : Nat) : Int) ∧ (3 : Int32) = I ((3 : Nat) : Int) ∧ (4 : Int32) = I ((4 : Nat) : Int) ∧ (5 : Int32) = I ((5 : Nat) : Int) ∧ (6 : Int32) = I ((6 : Nat) : Int) ∧ (7 : Int32) = I ((7 : Nat) : Int) := ⟨rfl, rfl, rfl, rfl, rfl, rfl, rfl⟩
  obtain ⟨l1, l2, l3, l4, l5, l6, l7⟩ := l
  have ib : ∀ j : Nat, j ≤ 7 → inb (I (8 * (s : Int) + j)) (ln 74) = true := fun j hj => inb_at (k := 74) (n := 400) rfl (by omega) (by omega) (by decide)
  have ib0 : inb (I (8 * (s : Int))) (ln 74) = true := inb_at (k := 74) (n := 400) rfl (by omega) (by omega) (by decide)
  have rd : ∀ (v : MS) (j : Nat) (y : Int), v.2.2.1 = w.2.2.1 → A w 74 j = y → v.2.2.1 74 j = I y := fun v j y h1 h2 => by rw [h1]; exact I_A' h2
  rw [I_F' h75, show (8 : Int32) = I 8 from rfl, I_sub, show 8 * (s : Int) + 8 - 8 = 8 * (s : Int) from by omega, l2, l3, l4, l5, l6, l7]
  rw [show (1 : Int32) = I ((1 : Nat) : Int) from rfl]
  simp only [I_add]
  rw [ib0, ck_t, tn0, rd w (8 * s) _ rfl a0, wi_e, ib 1 (by omega), ck_t, tn 1 (by omega), ib 2 (by omega), tn 2 (by omega), ib 3 (by omega), tn 3 (by omega), ib 4 (by omega), tn 4 (by omega), ib 5 (by omega), tn 5 (by omega), ib 6 (by omega), tn 6 (by omega), ib 7 (by omega), tn 7 (by omega)]
  rw [rd (wi w 32 (F u 32)) _ _ rfl a1, wi_e, ck_t]
  rw [rd (wi (wi w 32 (F u 32)) 39 (F u 39)) _ _ rfl a2, wi_e, ck_t]
  generalize g3 : wi (wi (wi w 32 (F u 32)) 39 (F u 39)) 46 (F u 46) = v3
  have e3 : v3.2.2.1 = w.2.2.1 := by rw [← g3]; rfl
  rw [rd v3 _ _ e3 a3, wi_e, ck_t]
  generalize g4 : wi v3 56 (F u 56) = v4
  have e4 : v4.2.2.1 = w.2.2.1 := by rw [← g4]; exact e3
  rw [rd v4 _ _ e4 a4, wi_e, ck_t]
  generalize g5 : wi v4 58 (F u 58) = v5
  have e5 : v5.2.2.1 = w.2.2.1 := by rw [← g5]; exact e4
  rw [rd v5 _ _ e5 a5, wi_e, ck_t]
  generalize g6 : wi v5 71 (F u 71) = v6
  have e6 : v6.2.2.1 = w.2.2.1 := by rw [← g6]; exact e5
  rw [rd v6 _ _ e6 a6, wi_e, ck_t]
  generalize g7 : wi v6 72 (F u 72) = v7
  have e7 : v7.2.2.1 = w.2.2.1 := by rw [← g7]; exact e6
  have fr7 : FR [32, 39, 46, 56, 58, 66, 71, 72] [] [60, 63] [] w v7 := by rw [← g7, ← g6, ← g5, ← g4, ← g3]; exact FR.wi (FR.wi (FR.wi (FR.wi (FR.wi (FR.wi (FR.wi FR.rf (by decide)) (by decide)) (by decide)) (by decide)) (by decide)) (by decide)) (by decide)
  have f7 : F v7 32 = F u 32 ∧ F v7 39 = F u 39 ∧ F v7 46 = F u 46 ∧ F v7 56 = F u 56 ∧ F v7 58 = F u 58 ∧ F v7 71 = F u 71 ∧ F v7 72 = F u 72 := by
    rw [← g7, ← g6, ← g5, ← g4, ← g3]
    refine ⟨?_, ?_, ?_, ?_, ?_, ?_, ?_⟩
    · rw [wi_ne (by decide), wi_ne (by decide), wi_ne (by decide), wi_ne (by decide), wi_ne (by decide), wi_ne (by decide), wi_eq (FRG1 u 32)]
    · rw [wi_ne (by decide), wi_ne (by decide), wi_ne (by decide), wi_ne (by decide), wi_ne (by decide), wi_eq (FRG1 u 39)]
    · rw [wi_ne (by decide), wi_ne (by decide), wi_ne (by decide), wi_ne (by decide), wi_eq (FRG1 u 46)]
    · rw [wi_ne (by decide), wi_ne (by decide), wi_ne (by decide), wi_eq (FRG1 u 56)]
    · rw [wi_ne (by decide), wi_ne (by decide), wi_eq (FRG1 u 58)]
    · rw [wi_ne (by decide), wi_eq (FRG1 u 71)]
    · rw [wi_eq (FRG1 u 72)]
  have fin : ∀ y : Int, y = F u 66 → ∀ t1 : Int32, t1 = I y → OK (fun x _ => TBF σ u w x) (fb_M_takeBack_110 N (gg_M_takeBack N N) v7 t1) := fun y hy t1 ht1 => by
    unfold fb_M_takeBack_110
    rw [ht1]
    refine ok_ck.mpr ⟨?_, ok_lt.mpr ?_⟩
    · rcases h66 with z | z
      · rw [hy, z]; rfl
      · rw [hy, z]; rfl
    rw [wi_e, lit0q]
    have q66 : F (wi v7 66 y) 66 = y := wi_eq (by rw [hy]; exact FRG1 u 66)
    have fr8 : FR [32, 39, 46, 56, 58, 66, 71, 72] [] [60, 63] [] w (wi v7 66 y) := FR.wi fr7 (by decide)
    refine ok_mono (tback_loop (s := s) (a6 := fun t => A u 60 t) (a3 := fun t => A u 63 t) hσ hs N 0 (wi v7 66 y) (by rw [fr8.F (by decide)]; exact h65) (by rw [fr8.F (by decide)]; exact h77) (by omega) (by omega) (fun t h1 => absurd h1 (Nat.not_lt_zero _)) (fun t h1 => by rw [fr8.A (by decide), fr8.A (by decide)]; exact b t h1)) (fun x _ hx => ?_)
    obtain ⟨x1, x2⟩ := hx
    refine ⟨FR.tr fr8 (FR.mo x1 (by decide) (by decide) (by decide) (by decide)), ⟨?_, ?_, ?_, ?_, ?_, ?_, ?_, ?_⟩, x2⟩
    · rw [x1.F (by decide), wi_ne (by decide)]; exact f7.1
    · rw [x1.F (by decide), wi_ne (by decide)]; exact f7.2.1
    · rw [x1.F (by decide), wi_ne (by decide)]; exact f7.2.2.1
    · rw [x1.F (by decide), wi_ne (by decide)]; exact f7.2.2.2.1
    · rw [x1.F (by decide), wi_ne (by decide)]; exact f7.2.2.2.2.1
    · rw [x1.F (by decide), wi_ne (by decide)]; exact f7.2.2.2.2.2.1
    · rw [x1.F (by decide), wi_ne (by decide)]; exact f7.2.2.2.2.2.2
    · rw [x1.F (by decide), q66, hy]
  rw [rd v7 _ _ e7 a7]
  refine k_eq (FRG1 u 66) ⟨by decide, by decide⟩ (fun z => fin 1 z.symm _ rfl) (fun z => fin 0 (by omega) _ rfl)
theorem TBF_KP (a : TBF σ u w x) (kp : KPR σ u w) : KPR σ u x := by
  obtain ⟨t1, ⟨t2, t3, t4, t5, t6, t7, t8, t9⟩, t10⟩ := a
  obtain ⟨a0, ⟨a1, a2, a3, a4, a5⟩, ⟨a6, a7, a8, a9⟩, ⟨a10, a11, a12⟩, ⟨a13, a14, a15, a16, a17, a18, a19, a20⟩, a21, a22⟩ := kp
  have g : ∀ r i, r ∉ [60, 63] → A x r i = A w r i := fun r i hr => t1.A hr
  have m1 : ∀ r, r ∈ [23, 24, 25, 26, 27, 28, 29, 30, 31] → r ∉ [60, 63] := by decide
  have m2 : ∀ r, r ∈ [33, 35, 36, 37, 38] → r ∉ [60, 63] := by decide
  have m3 : ∀ r, r ∈ [40, 41, 42, 43, 45] → r ∉ [60, 63] := by decide
  have m4 : ∀ r, r ∈ [53, 54, 55] → r ∉ [60, 63] := by decide
  have m5 : ∀ r, r ∈ [61, 62] → r ∉ [60, 63] := by decide
  have m6 : ∀ r, r ∈ [79, 80, 81, 82] → r ∉ [60, 63] := by decide
  refine ⟨FR.tr a0 (FRP t1 (by decide) (by decide) (by decide)), ⟨fun r i h1 h2 => by rw [g r i (m1 r h1)]; exact a1 r i h1 h2, fun r i h1 h2 => by rw [g r i (m2 r h1)]; exact a2 r i h1 h2, fun r i h1 h2 => by rw [g r i (m3 r h1)]; exact a3 r i h1 h2, fun r i h1 h2 => by rw [g r i (m4 r h1)]; exact a4 r i h1 h2, fun i h2 => by rw [g 57 i (by decide)]; exact a5 i h2⟩, ⟨fun s i h1 h2 => by rw [g 59 _ (by decide)]; exact a6 s i h1 h2, fun r s i h0 h1 h2 => by rw [g r _ (m5 r h0)]; exact a7 r s i h0 h1 h2, fun s h1 => (t10 s (by omega)).1, fun s h1 => ?_⟩, ⟨fun i h2 => by rw [g 74 i (by decide)]; exact a10 i h2, fun i h2 => by rw [g 76 i (by decide)]; exact a11 i h2, fun r i h1 h2 => by rw [g r i (m6 r h1)]; exact a12 r i h1 h2⟩, ⟨by omega, by omega, by omega, by omega, by omega, ?_, ?_, ?_⟩, fun z => by omega, fun z => by omega⟩
  · rw [(t10 s h1).1, (t10 s h1).2, g 64 s (by decide)]
    exact ⟨Int.le_refl _, Int.le_refl _, (a9 s h1).2.2⟩
  · rw [t1.F (by decide)]; exact a18
  · rw [t1.F (by decide)]; exact a19
  · rw [t1.F (by decide)]; exact a20
theorem TBF_ST {s s2 : Int} (hu : ST u0 σ p o n q c f h s wt g u) (hw : ST u0 σ p2 o2 n2 q2 c2 f2 h2 s2 w2 y w) (kp : KPR σ u w) (a : TBF σ u w x) : ST u0 σ p2 o2 n q c f h s2 w2 y x := by
  obtain ⟨t1, ⟨t2, t3, t4, t5, t6, t7, t8, t9⟩, t10⟩ := a
  obtain ⟨b1, ⟨e1, e2, e3, e4, e5, e6, e7, e8, e9, e10, e11, e12⟩, ⟨b3, b4, b5⟩, b6, b7, b8⟩ := hu
  obtain ⟨d1, ⟨r1, r2, r3, r4, r5, r6, r7, r8, r9, r10, r11, r12⟩, ⟨d3, d4, d5⟩, d6, d7, d8⟩ := hw
  obtain ⟨a0, ⟨a1, a2, a3, a4, a5⟩, ⟨a6, a7, a8, a9⟩, -⟩ := kp
  have g : ∀ r i, r ∉ [60, 63] → A x r i = A w r i := fun r i hr => t1.A hr
  refine ⟨FR.tr d1 (FRP t1 (by decide) (by decide) (by decide)), ⟨?_, ?_, t2.trans e3, t3.trans e4, t4.trans e5, t5.trans e6, t6.trans e7, ?_, ?_, ?_, ?_, ?_⟩, ⟨by omega, d4, by omega⟩, fun s hs => ?_, K44_fr d7 t1 (by decide), fun i hi => ?_⟩
  · rw [t1.F (by decide)]; exact r1
  · rw [t1.F (by decide)]; exact r2
  · rw [t1.F (by decide)]; exact r8
  · rw [t1.F (by decide)]; exact r9
  · rw [t1.F (by decide)]; exact r10
  · rw [t1.F (by decide)]; exact r11
  · rw [t1.F (by decide)]; exact r12
  · obtain ⟨⟨q1, q2, q3, q4⟩, q5, q6, q7⟩ := b6 s hs
    have h9 := a9 s hs
    rw [(t10 s hs).1, (t10 s hs).2, (t10 (s - 1) (by omega)).1, (t10 (s - 1) (by omega)).2, g 64 s (by decide)]
    refine ⟨⟨q1, by omega, q3, q4.1, (d6 s hs).1.2.2.2.2⟩, fun i hi => ?_, q6, fun i hi hs0 => ?_⟩
    · rw [g 59 _ (by decide), a6 s i hs hi]
      refine ⟨(q5 i hi).1, (q5 i hi).2.1, fun j hj => ?_⟩
      rw [g 59 _ (by decide), a6 s j hs (by omega)]
      exact (q5 i hi).2.2 j hj
    · rw [g 62 _ (by decide), a7 62 s i (by decide) hs hi]
      exact q7 i hi hs0
  · rw [t2] at hi
    rw [g 23 i (by decide), g 24 i (by decide), g 25 i (by decide), a1 23 i (by decide) hi, a1 24 i (by decide) hi, a1 25 i (by decide) hi]
    exact b8 i hi
end
