set_option maxRecDepth 100000
def FNst (u : MS) (g : Nat) (b0 b1 : Nat × Nat × Nat) : Prop := ∃ kc k first : Nat, b0.1 + 6 ≤ b1.1 ∧ RWc u 1 (CLSc u) kc first b0.1 (b1.1 - 1) b0.2.1 b1.2.1 b0.2.2 b1.2.2 ∧ (A u 27 g = ((first : Nat) : Int) ∧ A u 25 g = ((k : Nat) : Int) ∧ k ≤ 6)
def ALP (w : MS) (g b q : Nat) : Prop := ∃ T0 : Nat → Option Tyc, (∀ (v : MS) (T : Nat → Option Tyc), (∀ j, 1 ≤ j → j < b → A v 23 j = A w 23 j) → TBLc w v 0 q → (∀ i, 1 ≤ i → i < b → T i = T0 i) → b ≤ 24000 → (∀ i h m L g x, 1 ≤ i → i < b → T i = some (h, m, L, g, x) → WFi T v i h m L g x) ∧ PLSc T v 0 q) ∧ ∀ f, f < g → ∃ a e : Nat, A w 25 f = ((a : Nat) : Int) ∧ A w 29 f = ((e : Nat) : Int) ∧ (1 ≤ e ∧ e < b) ∧ T0 e = some (a, 0, [], 0, 0)
section
variable {u v w : MS} {N lv t hi lo o q r s c h m g x d a b k n f Q z la cl cc p q1 b1 : Nat} {ps : Nat → Nat}
theorem FNS_B : ∀ {g p n q : Nat}, FNSc u g p n q → ∃ B : Nat → Nat × Nat × Nat, B 0 = (0, 0, 0) ∧ B g = (p, n, q) ∧ ∀ i, i < g → FNst u i (B i) (B (i + 1))
  | 0, p, n, q, h => by
    obtain ⟨rfl, rfl, rfl⟩ := h
    exact ⟨fun _ => (0, 0, 0), rfl, rfl, fun i hi => absurd hi (by omega)⟩
  | g + 1, p, n, q, h => by
    obtain ⟨p0, n0, q0, kc, k, first, h0, h1, h2, h3, h4, h5, -⟩ := h
    obtain ⟨B, b0, b1, b2⟩ := FNS_B h0
    refine ⟨fun i => if i = g + 1 then (p, n, q) else B i, by show (if 0 = g + 1 then _ else B 0) = _; rw [if_neg (by omega)]; exact b0, by show (if g + 1 = g + 1 then _ else _) = _; rw [if_pos rfl], fun i hi => ?_⟩
    show FNst u i (if i = g + 1 then (p, n, q) else B i) (if i + 1 = g + 1 then (p, n, q) else B (i + 1))
    rw [if_neg (by omega)]
    by_cases e : i = g
    · subst e
      rw [if_pos rfl, b1]
      exact ⟨kc, k, first, h1, h2, h3, h4, h5⟩
    · rw [if_neg (by omega)]
      exact b2 i (by omega)
theorem FNst_hd {b0 b1 : Nat × Nat × Nat} (h : FNst u g b0 b1) : b0.1 ≤ b1.1 ∧ b0.2.1 ≤ b1.2.1 ∧ b0.2.2 ≤ b1.2.2 ∧ 5 * b1.2.2 + b0.1 ≤ 5 * b0.2.2 + b1.1 := by
  obtain ⟨kc, k, first, h1, h2, -⟩ := h
  have g1 := (RW_hd CLS_bd h2).1
  unfold HDc at g1
  omega
theorem B_mono {B : Nat → Nat × Nat × Nat} (hB : ∀ i, i < g → FNst u i (B i) (B (i + 1))) (i : Nat) : ∀ d, i + d ≤ g → (B i).1 ≤ (B (i + d)).1 ∧ (B i).2.1 ≤ (B (i + d)).2.1 ∧ (B i).2.2 ≤ (B (i + d)).2.2 ∧ 5 * (B (i + d)).2.2 + (B i).1 ≤ 5 * (B i).2.2 + (B (i + d)).1
  | 0, _ => by rw [Nat.add_zero]; omega
  | d + 1, h => by
    have a := B_mono hB i d (by omega)
    have b := FNst_hd (hB (i + d) (by omega))
    rw [show i + (d + 1) = i + d + 1 by omega]
    omega
theorem ALP_0 : ALP u 0 1 0 := ⟨fun _ => none, fun v T _ _ hT _ => ⟨fun i h m L g x h1 h2 => absurd h2 (by omega), fun pl h1 h2 => absurd h2 (by omega)⟩, fun f hf => absurd hf (by omega)⟩
theorem ALP_s (h : ALP u g b q) (km : KM2 u w) (hb : ((b : Nat) : Int) ≤ F u 441) (ol : OLQ u w q q1) (h29 : ∀ j, j ≠ g → A w 29 j = A u 29 j) (hs : SGc w b b1 q q1 [] 0 k 0 [] 0 0 none) (e29 : A w 29 g = ((b : Nat) : Int)) (e25 : A w 25 g = ((k : Nat) : Int)) (hbb : b < b1) (h1 : 1 ≤ b) : ALP w (g + 1) b1 q1 := by
  obtain ⟨T0, ty, en⟩ := h
  obtain ⟨⟨-, hq⟩, -, -, T1, s4, s5⟩ := hs
  refine ⟨fun i => if i < b then T0 i else T1 i, fun v T hA ht hT hb24 => ?_, fun f hf => ?_⟩
  · have hT1 : ∀ i, 1 ≤ i → i < b → T i = T0 i := fun i i1 i2 => by
      rw [hT i i1 (by omega)]
      show (if i < b then T0 i else T1 i) = _
      rw [if_pos i2]
    have hT2 : ∀ i, b ≤ i → i < b1 → T i = T1 i := fun i i1 i2 => by
      rw [hT i (by omega) i2]
      show (if i < b then T0 i else T1 i) = _
      rw [if_neg (by omega)]
    have tb : TBLc u w 0 q := ⟨km.F (by simp), km.F (by simp), by rw [km.F (by simp)]; omega, fun f => km.A (by simp), fun pl _ h2 => ol.2 pl (by omega)⟩
    obtain ⟨r1, r2⟩ := ty v T (fun j j1 j2 => (hA j j1 (by omega)).trans (ol.1 j (by omega))) (tb.tr (ht.mo (Nat.le_refl _) hq)) hT1 (by omega)
    obtain ⟨r3, r4⟩ := s5 v T (fun j j1 j2 _ => hA j (by omega) j2) (ht.mo (by omega) (Nat.le_refl _)) hT2 (fun y1 e => by cases e) (fun p t hp => absurd hp (by simp)) ⟨⟨h1, hb24, by simp⟩, trivial, fun z => absurd rfl z, by omega, fun z => by omega⟩
    refine ⟨fun i h m L g x i1 i2 e => ?_, fun pl p1 p2 => ?_⟩
    · rcases Nat.lt_or_ge i b with i3 | i3
      · exact r1 i h m L g x i1 i3 e
      · exact r3 i h m L g x i3 i2 e
    · rcases Nat.lt_or_ge pl q with p3 | p3
      · exact r2 pl p1 p3
      · exact r4 pl p3 p2
  · by_cases e : f = g
    · subst e
      refine ⟨k, b, e25, e29, ⟨h1, hbb⟩, ?_⟩
      show (if b < b then T0 b else T1 b) = _
      rw [if_neg (by omega)]
      exact s4 hbb
    · obtain ⟨a, e2, a1, a2, a3, a4⟩ := en f (by omega)
      refine ⟨a, e2, by rw [km.A (by simp)]; exact a1, by rw [h29 f e]; exact a2, by omega, ?_⟩
      show (if e2 < b then T0 e2 else T1 e2) = _
      rw [if_pos a3.2]
      exact a4
theorem I_nz {y : Int} (h : 1 ≤ y % 16) : I y ≠ 0 := fun e => by
  have h1 := congrArg Int32.toInt e
  have h2 : (I y).toInt = y.bmod (2 ^ 32) := Int32.toInt_ofInt
  rw [h2] at h1
  have h3 : y.bmod (2 ^ 32) = 0 := h1
  have h4 := Int.dvd_of_bmod_eq_zero h3
  have h5 : (4294967296 : Int) ∣ y := h4
  omega
def CPRc (u w : MS) (r : Int32) (g : Nat) : Prop := KM2 u w ∧ CW0 w ∧ (r = 0 → F w 442 ≤ 60 ∧ (F w 714 = 1000000000 ∧ F w 711 = 0 ∧ F w 22 ≤ 200 ∧ F w 85 ≤ 1500 ∧ F w 441 < 24000) ∧ ∃ b q : Nat, ALP w g b q ∧ b ≤ 24000 ∧ F w 449 = ((q : Nat) : Int) ∧ q ≤ 400)
theorem div16 {y : Int} (h0 : 0 ≤ y) (h1 : y ≤ 64031) : I y / 16 = I (y / 16) := by
  apply Int32.toInt_inj.mp
  rw [Int32.toInt_div_of_ne_right (I y) 16 (by decide), I_ti (by omega) (by omega), I_ti (by omega) (by omega), show (16 : Int32).toInt = 16 from rfl, Int.tdiv_eq_ediv_of_nonneg h0]
theorem compileX_ok {B : Nat → Nat × Nat × Nat} (hN : 1000000000 ≤ N) (hx : CMX u cc ps (B g).2.2) (hg : g ≤ 666) (h42 : F u 442 = ((g : Nat) : Int)) (b0 : B 0 = (0, 0, 0)) (hB : ∀ i, i < g → FNst u i (B i) (B (i + 1))) (hp : (B g).1 ≤ cc) (hn : (B g).2.1 ≤ 8000) : ∀ (M i : Nat) (v : MS), i ≤ g → g + 1 ≤ M + i → KM2 u v → CW0 v → (F v 711 = 0 → F v 441 ≤ 1 + WBc ps 0 (B i).1) → (GDc v (B i).1 (B i).2.2 → ALP v i (szc v) (B i).2.2) → OK (fun w r => CPRc u w r g) (hg_Cm_compile N M v (I ((i : Nat) : Int))) := by
  intro M
  induction M with
  | zero => intro i v h1 h2; omega
  | succ M ih =>
    intro i v hi hM km cw hW hA
    have c4 := hx.1.2.1.2
    have mg := B_mono hB i (g - i) (by omega)
    have m0 := B_mono hB 0 g (by omega)
    rw [show i + (g - i) = g by omega] at mg
    rw [Nat.zero_add, b0] at m0
    have m5 : 5 * (B g).2.2 ≤ (B g).1 := by
      have h5 := m0.2.2.2
      simp only [Nat.mul_zero, Nat.add_zero, Nat.zero_add] at h5
      exact h5
    have v42 : F v 442 = ((g : Nat) : Int) := by rw [km.F (by simp)]; exact h42
    show OK _ (hb_Cm_compile_23 N (hg_Cm_compile N M) v (I ((i : Nat) : Int)))
    unfold hb_Cm_compile_23
    rw [I_F (k := 442), v42]
    refine k_le ⟨by omega, by omega⟩ ⟨by omega, by omega⟩ (fun z => ?_) (fun z => ?_)
    · have ei : i = g := by omega
      subst ei
      have e8 : ∀ {t : Int32}, OK (fun w r => CPRc u w r i) (hb_Cm_compile_136 N (hg_Cm_compile N M) v) := ok_some.mpr ⟨km, cw, fun z => absurd z (by decide)⟩
      have e119 : OK (fun w r => CPRc u w r i) (hb_Cm_compile_119 N (hg_Cm_compile N M) v) := by
        unfold hb_Cm_compile_119 hb_Cm_compile_124
        exact ok_br.mpr ⟨fun z => absurd z (by decide), fun _ => e8 (t := 0)⟩
      refine k_F (y := 1000000000) rfl ⟨by decide, by decide⟩ (fun z14 => ?_) (fun z14 => ?_)
      · rw [show (60 : Int32) = I 60 from rfl, I_F (k := 22), show (200 : Int32) = I 200 from rfl, I_F (k := 85), show (1500 : Int32) = I 1500 from rfl]
        refine k_lt ⟨by decide, by decide⟩ ⟨by omega, by omega⟩ (fun _ => e119) (fun h60 => k_lt ⟨by decide, by decide⟩ (FRG1 v _) (fun _ => e119) (fun h22 => k_le (FRG1 v _) ⟨by decide, by decide⟩ (fun h85 => ?_) (fun _ => e119)))
        unfold hb_Cm_compile_124
        refine ok_br.mpr ⟨fun _ => k_F (y := 0) rfl ⟨by decide, by decide⟩ (fun z11 => ?_) (fun _ => e8 (t := 0)), fun z => absurd z (by decide)⟩
        have h85' : F v 85 ≤ 1500 := h85
        have c85 := hx.1.2.1.1
        rw [km.F (k := 85) (by simp), c85] at h85'
        have wq := hW z11
        have ps1 := ps_le hx.1 (a := 0) (b := (B i).1) (by omega) hp
        have ps2 := ps_le hx.1 (a := (B i).1) (b := cc) hp (Nat.le_refl _)
        have ps3 := hx.1.2.2.2.1
        have w24 : F v 441 < 24000 := by
          unfold WBc at wq
          omega
        have q4 : (B i).2.2 ≤ 400 := by omega
        have al := hA ⟨z14, z11, w24, by omega, q4⟩
        refine ok_some.mpr ⟨km, cw, fun _ => ⟨by rw [v42]; exact h60, ⟨z14, z11, by omega, h85, w24⟩, szc v, (B i).2.2, al, by show (F v 441).toNat ≤ 24000; omega, ?_, q4⟩⟩
        rw [km.F (by simp), hx.2.2.2]
        split <;> omega
      · have c14 := cw.2.1
        rw [I_F (k := 714), div16 (by omega) (by omega)]
        refine e_in ⟨by omega, by omega⟩ (by decide) (ok_some.mpr ⟨km, cw, fun z => ?_⟩)
        exfalso
        rw [show (16 : Int32) = I 16 from rfl, I_mul, I_sub, I_A (k := 8), I_mul, I_add] at z
        refine I_nz ?_ z
        omega
    · obtain ⟨kc, k, first, f1, f2, f3, f4, f5⟩ := hB i (by omega)
      have mi := FNst_hd (hB i (by omega))
      have mg2 := B_mono hB (i + 1) (g - (i + 1)) (by omega)
      rw [show i + 1 + (g - (i + 1)) = g by omega] at mg2
      have xv : CMX v cc ps (B g).2.2 := CMX_k2 hx km
      rw [ok_bnd]
      refine ok_mono (oneFn_ok (N := N) (k := k) hN cw xv (by omega) (RW_k (CLS_k u v) CLS_bd f2 (KN_m2 km)) (by rw [km.A (by simp)]; exact f3) (by rw [km.A (by simp)]; exact f4) f5 f1 (by omega) (by omega) (by omega)) (fun w _ q => ?_)
      obtain ⟨q1, q2, ⟨q3, q4, q5⟩, q6, q7, q8⟩ := q
      rw [lit1q, I_add, show ((i : Nat) : Int) + 1 = ((i + 1 : Nat) : Int) by omega]
      refine ih (i + 1) w (by omega) (by omega) (KM2.tr km q1) q2 (fun z => ?_) (fun gd => ?_)
      · have a1 := q7 z
        have a2 := hW (q5 z)
        have wb := WB_2 hx.1 (lo := 0) (m := (B i).1) (lo2 := (B i).1) (hi := (B (i + 1)).1) (by omega) (by omega) (by omega) (by omega)
        omega
      · obtain ⟨o1, e29, sl, sg⟩ := q8 gd
        have c14 := cw.2.1
        have av := hA ⟨by have := gd.1; omega, q5 gd.2.1, by have := gd.2.2.1; omega, by have := gd.2.2.2.1; omega, by have := gd.2.2.2.2; omega⟩
        have cvr := cw.1
        have sv : ((szc v : Nat) : Int) ≤ F v 441 := by show (((F v 441).toNat : Nat) : Int) ≤ _; omega
        have s1 : 1 ≤ szc v := by show 1 ≤ (F v 441).toNat; omega
        exact ALP_s av q1 sv o1 q6 sg e29 (by rw [q1.A (by simp), km.A (by simp)]; exact f4) sl s1
end
