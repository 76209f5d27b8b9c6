section
set_option maxRecDepth 100000
def FNst (u : MS) (g : Nat) (b0 b1 : Nat × Nat × Nat) : Prop := ∃ kc k first : Nat, b0.1 + 6 ≤ b1.1 ∧ RWc u 1 (CLSc u) kc first b0.1 (b1.1 - 1) b0.2.1 b1.2.1 b0.2.2 b1.2.2 ∧ (A u 27 g = ((first : Nat) : Int) ∧ A u 25 g = ((k : Nat) : Int) ∧ k ≤ 6)
def ALP (w : MS) (g b q : Nat) : Prop := ∃ T0 : Nat → Option Tyc, (∀ (v : MS) (T : Nat → Option Tyc), (∀ j, 1 ≤ j → j < b → A v 23 j = A w 23 j) → TBLc w v 0 q → (∀ i, 1 ≤ i → i < b → T i = T0 i) → b ≤ 24000 → (∀ i h m L g x, 1 ≤ i → i < b → T i = some (h, m, L, g, x) → WFi T v i h m L g x) ∧ PLSc T v 0 q) ∧ ∀ f, f < g → ∃ a e : Nat, A w 25 f = ((a : Nat) : Int) ∧ A w 29 f = ((e : Nat) : Int) ∧ (1 ≤ e ∧ e < b) ∧ T0 e = some (a, 0, [], 0, 0)
section
variable {u v w : MS} {N lv t hi lo o q r s c h m g x d a b k n f Q z la cl cc p q1 b1 : Nat} {ps : Nat → Nat}
theorem FNS_B : ∀ {g p n q : Nat}, FNSc u g p n q → ∃ B : Nat → Nat × Nat × Nat, B 0 = (0, 0, 0) ∧ B g = (p, n, q) ∧ ∀ i, i < g → FNst u i (B i) (B (i + 1))
  | 0, p, n, q, h => by
    obtain ⟨rfl, rfl, rfl⟩ := h
    exact ⟨fun _ => (0, 0, 0), rfl, rfl, fun i hi => absurd hi (by omega)⟩
  | g + 1, p, n, q, h => by
    obtain ⟨p0, n0, q0, kc, k, first, h0, h1, h2, h3, h4, h5, -⟩ := h
    obtain ⟨B, b0, b1, b2⟩ := FNS_B h0
    refine ⟨fun i => if i = g + 1 then (p, n, q) else B i, by show (if 0 = g + 1 then _ else B 0) = _; rw [if_neg (by omega)]; exact b0, by show (if g + 1 = g + 1 then _ else _) = _; rw [if_pos rfl], fun i hi => ?_⟩
    show FNst u i (if i = g + 1 then (p, n, q) else B i) (if i + 1 = g + 1 then (p, n, q) else B (i + 1))
    rw [if_neg (by omega)]
    by_cases e : i = g
    · subst e
      rw [if_pos rfl, b1]
      exact ⟨kc, k, first, h1, h2, h3, h4, h5⟩
    · rw [if_neg (by omega)]
      exact b2 i (by omega)
theorem FNst_hd {b0 b1 : Nat × Nat × Nat} (h : FNst u g b0 b1) : b0.1 ≤ b1.1 ∧ b0.2.1 ≤ b1.2.1 ∧ b0.2.2 ≤ b1.2.2 ∧ 5 * b1.2.2 + b0.1 ≤ 5 * b0.2.2 + b1.1 := by
  obtain ⟨kc, k, first, h1, h2, -⟩ := h
  have g1 := (RW_hd CLS_bd h2).1
  unfold HDc at g1
  omega
theorem B_mono {B : Nat → Nat × Nat × Nat} (hB : ∀ i, i < g → FNst u i (B i) (B (i + 1))) (i : Nat) : ∀ d, i + d ≤ g → (B i).1 ≤ (B (i + d)).1 ∧ (B i).2.1 ≤ (B (i + d)).2.1 ∧ (B i).2.2 ≤ (B (i + d)).2.2 ∧ 5 * (B (i + d)).2.2 + (B i).1 ≤ 5 * (B i).2.2 + (B (i + d)).1
  | 0, _ => by rw [Nat.add_zero]; omega
  | d + 1, h => by
    have a := B_mono hB i d (by omega)
    have b := FNst_hd (hB (i + d) (by omega))
    rw [show i + (d + 1) = i + d + 1 by omega]
    omega
theorem ALP_0 : ALP u 0 1 0 := ⟨fun _ => none, fun v T _ _ hT _ => ⟨fun i h m L g x h1 h2 => absurd h2 (by omega), fun pl h1 h2 => absurd h2 (by omega)⟩, fun f hf => absurd hf (by omega)⟩
theorem ALP_s (h : ALP u g b q) (km : KM2 u w) (hb : ((b : Nat) : Int) ≤ F u 441) (ol : OLQ u w q q1) (h29 : ∀ j, j ≠ g → A w 29 j = A u 29 j) (hs : SGc w b b1 q q1 [] 0 k 0 [] 0 0 none) (e29 : A w 29 g = ((b : Nat) : Int)) (e25 : A w 25 g = ((k : Nat) : Int)) (hbb : b < b1) (h1 : 1 ≤ b) : ALP w (g + 1) b1 q1 := by
  obtain ⟨T0, ty, en⟩ := h
  obtain ⟨⟨-, hq⟩, -, -, T1, s4, s5⟩ := hs
  refine ⟨fun i => if i < b then T0 i else T1 i, fun v T hA ht hT hb24 => ?_, fun f hf => ?_⟩
  · have hT1 : ∀ i, 1 ≤ i → i < b → T i = T0 i := fun i i1 i2 => by
      rw [hT i i1 (by omega)]
      show (if i < b then T0 i else T1 i) = _
      rw [if_pos i2]
    have hT2 : ∀ i, b ≤ i → i < b1 → T i = T1 i := fun i i1 i2 => by
      rw [hT i (by omega) i2]
      show (if i < b then T0 i else T1 i) = _
      rw [if_neg (by omega)]
    have tb : TBLc u w 0 q := ⟨km.F (by simp), km.F (by simp), by rw [km.F (by simp)]; omega, fun f => km.A (by simp), fun pl _ h2 => ol.2 pl (by omega)⟩
    obtain ⟨r1, r2⟩ := ty v T (fun j j1 j2 => (hA j j1 (by omega)).trans (ol.1 j (by omega))) (tb.tr (ht.mo (Nat.le_refl _) hq)) hT1 (by omega)
    obtain ⟨r3, r4⟩ := s5 v T (fun j j1 j2 _ => hA j (by omega) j2) (ht.mo (by omega) (Nat.le_refl _)) hT2 (fun y1 e => by cases e) (fun p t hp => absurd hp (by simp)) ⟨⟨h1, hb24, by simp⟩, trivial, fun z => absurd rfl z, by omega, fun z => by omega⟩
    refine ⟨fun i h m L g x i1 i2 e => ?_, fun pl p1 p2 => ?_⟩
    · rcases Nat.lt_or_ge i b with i3 | i3
      · exact r1 i h m L g x i1 i3 e
      · exact r3 i h m L g x i3 i2 e
    · rcases Nat.lt_or_ge pl q with p3 | p3
      · exact r2 pl p1 p3
      · exact r4 pl p3 p2
  · by_cases e : f = g
    · subst e
      refine ⟨k, b, e25, e29, ⟨h1, hbb⟩, ?_⟩
      show (if b < b then T0 b else T1 b) = _
      rw [if_neg (by omega)]
      exact s4 hbb
    · obtain ⟨a, e2, a1, a2, a3, a4⟩ := en f (by omega)
      refine ⟨a, e2, by rw [km.A (by simp)]; exact a1, by rw [h29 f e]; exact a2, by omega, ?_⟩
      show (if e2 < b then T0 e2 else T1 e2) = _
      rw [if_pos a3.2]
      exact a4
theorem I_nz {y : Int} (h : 1 ≤ y % 16) : I y ≠ 0 := fun e => by
  have h1 := congrArg Int32.toInt e
  have h2 : (I y).toInt = y.bmod (2 ^ 32) := Int32.toInt_ofInt
  rw [h2] at h1
  have h3 : y.bmod (2 ^ 32) = 0 := h1
  have h4 := Int.dvd_of_bmod_eq_zero h3
  have h5 : (4294967296 : Int) ∣ y := h4
  omega
def CPRc (u w : MS) (r : Int32) (g : Nat) : Prop := KM2 u w ∧ CW0 w ∧ (r = 0 → F w 442 ≤ 60 ∧ (F w 714 = 1000000000 ∧ F w 711 = 0 ∧ F w 22 ≤ 200 ∧ F w 85 ≤ 1500 ∧ F w 441 < 24000) ∧ ∃ b q : Nat, ALP w g b q ∧ b ≤ 24000 ∧ F w 449 = ((q : Nat) : Int) ∧ q ≤ 400)
theorem div16 {y : Int} (h0 : 0 ≤ y) (h1 : y ≤ 64031) : I y / 16 = I (y / 16) := by
  apply Int32.toInt_inj.mp
  rw [Int32.toInt_div_of_ne_right (I y) 16 (by decide), I_ti (by omega) (by omega), I_ti (by omega) (by omega), show (16 : Int32).toInt = 16 from rfl, Int.tdiv_eq_ediv_of_nonneg h0]
theorem compileX_ok {B : Nat → Nat × Nat × Nat} (hN : 1000000000 ≤ N) (hx : CMX u cc ps (B g).2.2) (hg : g ≤ 666) (h42 : F u 442 = ((g : Nat) : Int)) (b0 : B 0 = (0, 0, 0)) (hB : ∀ i, i < g → FNst u i (B i) (B (i + 1))) (hp : (B g).1 ≤ cc) (hn : (B g).2.1 ≤ 8000) : ∀ (M i : Nat) (v : MS), i ≤ g → g + 1 ≤ M + i → KM2 u v → CW0 v → (F v 711 = 0 → F v 441 ≤ 1 + WBc ps 0 (B i).1) → (GDc v (B i).1 (B i).2.2 → ALP v i (szc v) (B i).2.2) → OK (fun w r => CPRc u w r g) (hg_Cm_compile N M v (I ((i : Nat) : Int))) := by
  intro M
  induction M with
  | zero => intro i v h1 h2; omega
  | succ M ih =>
    intro i v hi hM km cw hW hA
    have c4 := hx.1.2.1.2
    have mg := B_mono hB i (g - i) (by omega)
    have m0 := B_mono hB 0 g (by omega)
    rw [show i + (g - i) = g by omega] at mg
    rw [Nat.zero_add, b0] at m0
    have m5 : 5 * (B g).2.2 ≤ (B g).1 := by
      have h5 := m0.2.2.2
      simp only [Nat.mul_zero, Nat.add_zero, Nat.zero_add] at h5
      exact h5
    have v42 : F v 442 = ((g : Nat) : Int) := by rw [km.F (by simp)]; exact h42
    show OK _ (hb_Cm_compile_23 N (hg_Cm_compile N M) v (I ((i : Nat) : Int)))
    unfold hb_Cm_compile_23
    rw [I_F (k := 442), v42]
    refine k_le ⟨by omega, by omega⟩ ⟨by omega, by omega⟩ (fun z => ?_) (fun z => ?_)
    · have ei : i = g := by omega
      subst ei
      have e8 : ∀ {t : Int32}, OK (fun w r => CPRc u w r i) (hb_Cm_compile_136 N (hg_Cm_compile N M) v) := ok_some.mpr ⟨km, cw, fun z => absurd z (by decide)⟩
      have e119 : OK (fun w r => CPRc u w r i) (hb_Cm_compile_119 N (hg_Cm_compile N M) v) := by
        unfold hb_Cm_compile_119 hb_Cm_compile_124
        exact ok_br.mpr ⟨fun z => absurd z (by decide), fun _ => e8 (t := 0)⟩
      refine k_F (y := 1000000000) rfl ⟨by decide, by decide⟩ (fun z14 => ?_) (fun z14 => ?_)
      · rw [show (60 : Int32) = I 60 from rfl, I_F (k := 22), show (200 : Int32) = I 200 from rfl, I_F (k := 85), show (1500 : Int32) = I 1500 from rfl]
        refine k_lt ⟨by decide, by decide⟩ ⟨by omega, by omega⟩ (fun _ => e119) (fun h60 => k_lt ⟨by decide, by decide⟩ (FRG1 v _) (fun _ => e119) (fun h22 => k_le (FRG1 v _) ⟨by decide, by decide⟩ (fun h85 => ?_) (fun _ => e119)))
        unfold hb_Cm_compile_124
        refine ok_br.mpr ⟨fun _ => k_F (y := 0) rfl ⟨by decide, by decide⟩ (fun z11 => ?_) (fun _ => e8 (t := 0)), fun z => absurd z (by decide)⟩
        have h85' : F v 85 ≤ 1500 := h85
        have c85 := hx.1.2.1.1
        rw [km.F (k := 85) (by simp), c85] at h85'
        have wq := hW z11
        have ps1 := ps_le hx.1 (a := 0) (b := (B i).1) (by omega) hp
        have ps2 := ps_le hx.1 (a := (B i).1) (b := cc) hp (Nat.le_refl _)
        have ps3 := hx.1.2.2.2.1
        have w24 : F v 441 < 24000 := by
          unfold WBc at wq
          omega
        have q4 : (B i).2.2 ≤ 400 := by omega
        have al := hA ⟨z14, z11, w24, by omega, q4⟩
        refine ok_some.mpr ⟨km, cw, fun _ => ⟨by rw [v42]; exact h60, ⟨z14, z11, by omega, h85, w24⟩, szc v, (B i).2.2, al, by show (F v 441).toNat ≤ 24000; omega, ?_, q4⟩⟩
        rw [km.F (by simp), hx.2.2.2]
        split <;> omega
      · have c14 := cw.2.1
        rw [I_F (k := 714), div16 (by omega) (by omega)]
        refine e_in ⟨by omega, by omega⟩ (by decide) (ok_some.mpr ⟨km, cw, fun z => ?_⟩)
        exfalso
        rw [show (16 : Int32) = I 16 from rfl, I_mul, I_sub, I_A (k := 8), I_mul, I_add] at z
        refine I_nz ?_ z
        omega
    · obtain ⟨kc, k, first, f1, f2, f3, f4, f5⟩ := hB i (by omega)
      have mi := FNst_hd (hB i (by omega))
      have mg2 := B_mono hB (i + 1) (g - (i + 1)) (by omega)
      rw [show i + 1 + (g - (i + 1)) = g by omega] at mg2
      have xv : CMX v cc ps (B g).2.2 := CMX_k2 hx km
      rw [ok_bnd]
      refine ok_mono (oneFn_ok (N := N) (k := k) hN cw xv (by omega) (RW_k (CLS_k u v) CLS_bd f2 (KN_m2 km)) (by rw [km.A (by simp)]; exact f3) (by rw [km.A (by simp)]; exact f4) f5 f1 (by omega) (by omega) (by omega)) (fun w _ q => ?_)
      obtain ⟨q1, q2, ⟨q3, q4, q5⟩, q6, q7, q8⟩ := q
      rw [lit1q, I_add, show ((i : Nat) : Int) + 1 = ((i + 1 : Nat) : Int) by omega]
      refine ih (i + 1) w (by omega) (by omega) (KM2.tr km q1) q2 (fun z => ?_) (fun gd => ?_)
      · have a1 := q7 z
        have a2 := hW (q5 z)
        have wb := WB_2 hx.1 (lo := 0) (m := (B i).1) (lo2 := (B i).1) (hi := (B (i + 1)).1) (by omega) (by omega) (by omega) (by omega)
        omega
      · obtain ⟨o1, e29, sl, sg⟩ := q8 gd
        have c14 := cw.2.1
        have av := hA ⟨by have := gd.1; omega, q5 gd.2.1, by have := gd.2.2.1; omega, by have := gd.2.2.2.1; omega, by have := gd.2.2.2.2; omega⟩
        have cvr := cw.1
        have sv : ((szc v : Nat) : Int) ≤ F v 441 := by show (((F v 441).toNat : Nat) : Int) ≤ _; omega
        have s1 : 1 ≤ szc v := by show 1 ≤ (F v 441).toNat; omega
        exact ALP_s av q1 sv o1 q6 sg e29 (by rw [q1.A (by simp), km.A (by simp)]; exact f4) sl s1
end
end
section
set_option maxRecDepth 100000
section
variable {u v w : MS} {N g b q c n p cc : Nat} {ps : Nat → Nat}
def FvW (w : MS) (a b : Int64) : Prop := (∃ pl : Nat, ((pl : Nat) : Int) < F w 449 ∧ a = mk 8 ((pl : Nat) : Int) ∧ b = mk 8 (A w 23 (A w 32 pl).toNat)) ∨ ∃ f : Nat, ((f : Nat) : Int) < F w 442 ∧ a = mk 8 (1000000 + ((f : Nat) : Int)) ∧ b = mk 8 0
theorem FvW_ok (h4 : F w 449 ≤ 400) (h2 : F w 442 ≤ 666) : FVc (FvW w) := by
  refine ⟨fun a b h => ?_, fun a b a2 b2 h h2' e => ?_⟩
  · rcases h with ⟨pl, -, rfl, rfl⟩ | ⟨f, -, rfl, rfl⟩
    · exact ⟨so_mk (by decide) (by decide), so_mk (by decide) (by decide)⟩
    · exact ⟨so_mk (by decide) (by decide), so_mk (by decide) (by decide)⟩
  · rcases h with ⟨pl, hp, rfl, rfl⟩ | ⟨f, hf, rfl, rfl⟩
    · rcases h2' with ⟨pl2, hp2, rfl, rfl⟩ | ⟨f2, hf2, rfl, rfl⟩
      · rw [va_mk (by omega) (by omega), va_mk (by omega) (by omega)] at e
        have : pl = pl2 := by omega
        rw [this]
      · rw [va_mk (by omega) (by omega), va_mk (by omega) (by omega)] at e
        omega
    · rcases h2' with ⟨pl2, hp2, rfl, rfl⟩ | ⟨f2, hf2, rfl, rfl⟩
      · rw [va_mk (by omega) (by omega), va_mk (by omega) (by omega)] at e
        omega
      · rfl
theorem types_of (h : ALP w g b q) (hb : b ≤ 24000) (h42 : F w 442 = ((g : Nat) : Int)) (hg : g ≤ 666) (h49 : F w 449 = ((q : Nat) : Int)) (hq : q ≤ 400) : ∃ T, WFT T w ∧ CDT T w (FvW w) := by
  obtain ⟨T0, ty, en⟩ := h
  refine ⟨fun i => if 1 ≤ i ∧ i < b then T0 i else none, ?_⟩
  have hT : ∀ i, 1 ≤ i → i < b → (fun i => if 1 ≤ i ∧ i < b then T0 i else none) i = T0 i := fun i h1 h2 => by
    show (if 1 ≤ i ∧ i < b then T0 i else none) = _
    rw [if_pos ⟨h1, h2⟩]
  obtain ⟨r1, r2⟩ := ty w _ (fun _ _ _ => rfl) TBLc.rf hT hb
  refine ⟨fun i h m L g x e => ?_, ⟨by omega, by omega⟩, fun f hf => ?_, ⟨by omega, by omega⟩, fun pl hp => ?_, fun f hf => Or.inr ⟨f, hf, rfl, rfl⟩, fun a b h => ?_⟩
  · by_cases hi : 1 ≤ i ∧ i < b
    · exact r1 i h m L g x hi.1 hi.2 e
    · have e2 : (if 1 ≤ i ∧ i < b then T0 i else none) = some (h, m, L, g, x) := e
      rw [if_neg hi] at e2
      cases e2
  · obtain ⟨a, e, e1, e2, e3, e4⟩ := en f (by omega)
    exact ⟨a, e, e1, e2, (hT e e3.1 e3.2).trans e4⟩
  · obtain ⟨a, e, p, k, z1, z2, z3, z4, z5, z6⟩ := r2 pl (by omega) (by omega)
    refine ⟨a, e, p, k, z1, z2, z3, z4, z5, z6, Or.inl ⟨pl, hp, rfl, ?_⟩⟩
    rw [z3, Int.toNat_natCast, z4]
  · rcases h with ⟨pl, hp, rfl, rfl⟩ | ⟨f, hf, rfl, rfl⟩
    · have := A_r w 23 (A w 32 pl).toNat
      exact Or.inl ⟨pl, va_mk (by omega) (by omega), hp, va_mk this.1 this.2⟩
    · exact Or.inr ⟨f, va_mk (by omega) (by omega), hf, va_mk (by decide) (by decide)⟩
theorem CTX_of (hF : FVc (FvW v)) (h1 : WDc w 1) (h2 : 22 ≤ F w 22) : CTX (FvW v) (PT w) w := by
  have r22 := FRG1 w 22
  refine ⟨hF, fun t h => h, h1, h2, fun x hx => ⟨?_, ?_, ?_⟩, fun a h0 ha => ?_, ?_⟩
  · exact ⟨by rw [so_mk (by decide) (by decide)]; omega, fun z => by rw [so_mk (by decide) (by decide)] at z; omega⟩
  · exact ⟨by rw [so_mk (by decide) (by decide)]; omega, fun z => by rw [so_mk (by decide) (by decide)] at z; omega⟩
  · exact ⟨by rw [so_mk (by decide) (by decide)]; omega, fun z => by rw [so_mk (by decide) (by decide)] at z; omega⟩
  · have := r22.2
    exact ⟨by rw [so_mk (by decide) (by decide)]; omega, fun _ => by rw [va_mk (by omega) (by omega)]; exact ⟨h0, ha⟩⟩
  · exact ⟨by rw [so_mk (by decide) (by decide)]; omega, fun z => by rw [so_mk (by decide) (by decide)] at z; omega⟩
def NOP (u : MS) : Prop := GLQ 0 u
theorem clearAll_new : OK (fun w _ => NOP w ∧ FC 0 [942, 943, 944, 945, 946, 950, 953, 955, 956] [] [] [] [] [] [] u w) (hm_Wl_clearAll N u) := by
  unfold hm_Wl_clearAll hb_Wl_clearAll_0
  simp only [lt_e]
  rw [lit0q]
  simp only [wi_e]
  generalize hw : wi (wi (wi (wi (wi (wi (wi (wi (wi u 942 0) 943 0) 944 0) 945 0) 946 0) 950 0) 953 0) 955 0) 956 0 = w
  have f : FC 0 [942, 943, 944, 945, 946, 950, 953, 955, 956] [] [] [] [] [] [] u w := by
    rw [← hw]
    exact FC.wi_g (FC.wi_g (FC.wi_g (FC.wi_g (FC.wi_g (FC.wi_g (FC.wi_g (FC.wi_g (FC.wi_g FC.rf (by omega) (by simp)) (by omega) (by simp)) (by omega) (by simp)) (by omega) (by simp)) (by omega) (by simp)) (by omega) (by simp)) (by omega) (by simp)) (by omega) (by simp)) (by omega) (by simp)
  have v : F w 942 = 0 ∧ F w 950 = 0 ∧ F w 953 = 0 ∧ F w 955 = 0 ∧ F w 956 = 0 := by
    rw [← hw]
    simp [F_wi (show -2147483648 ≤ (0 : Int) by decide) (show (0 : Int) < 2147483648 by decide)]
  obtain ⟨v1, v2, v3, v4, v5⟩ := v
  exact ok_some.mpr ⟨⟨⟨v1, by omega⟩, fun r hr => absurd hr (by omega), by omega, ⟨by rw [v4]; rfl, by omega⟩, fun i hi => absurd hi (by omega), by omega, fun i hi => absurd hi (by omega)⟩, f⟩
theorem WRD_0 {T : Nat → Option (Nat × Nat × List Nat × Nat × Nat)} {Fv : Int64 → Int64 → Prop} {P : Int64 → Prop} (n : NOP w) (c : CTX Fv P w) (t : WFT T w) (d : CDT T w Fv) (a : ALN w) : WRD T Fv P 0 w := ⟨⟨n, fun r hr => absurd hr (by omega)⟩, c, t, d, fun r hr => absurd hr (by omega), a⟩
end
end
section
set_option maxRecDepth 100000
def STA (u : MS) : Prop := CST u ∧ WR0 u ∧ WDc u 36 ∧ (∀ j, j < 32 → (0 ≤ A u 40 j ∧ A u 40 j ≤ 4000) ∧ 0 ≤ A u 41 j ∧ A u 41 j ≤ 4000) ∧ (0 ≤ F u 9 ∧ F u 9 ≤ 100) ∧ ALN u ∧ ∀ j, rf (u.1 1964) = some j → 44 ≤ j
section
variable {u v w : MS} {N g b q c n p cc : Nat} {ps : Nat → Nat} {is as : List Nat}
theorem FRc_F (f : FR is [] as [] u w) {k : Nat} (h : k ∉ is) : F w k = F u k := congrArg _ (f.1 k h)
theorem FRc_A (f : FR is [] as [] u w) {k j : Nat} (h : k ∉ as) : A w k j = A u k j := by show (w.2.2.1 k j).toInt = _; rw [f.2.2.1 k h]; rfl
theorem WD_fr (f : FR is [] as [] u w) {v : Nat} (h : WDc u v) (h1 : 20 * v + 2 ∉ is) (h2 : v + 2 ∉ as) : WDc w v := by
  unfold WDc at h ⊢
  rw [FRc_F f h1]
  refine ⟨h.1, h.2.1, h.2.2.1, h.2.2.2.1, fun k hk => ?_⟩
  rw [FRc_A f h2, FRc_A f h2]
  exact h.2.2.2.2 k hk
theorem CST_fr (f : FR is [] as [] u w) (h : CST u) (h1 : 81 ∉ is) (h2 : 182 ∉ is) (h3 : 5 ∉ as) (h4 : 11 ∉ as) : CST w := by
  obtain ⟨c1, c2, c3, c4⟩ := h
  exact ⟨by rw [FRc_F f h1]; exact c1, fun k hk => by rw [f.2.2.1 5 h3]; exact c2 k hk, WD_fr f c3 h2 h4, by rw [FRc_F f h2]; exact c4⟩
theorem WRS_fr (f : FR is [] as [] u w) (h : WRS u) (h1 : 22 ∉ is) (h2 : 242 ∉ is) (h3 : 3 ∉ as) (h4 : 14 ∉ as) : WRS w := by
  obtain ⟨⟨c1, c2⟩, c3, c4⟩ := h
  exact ⟨⟨WD_fr f c1 h1 h3, by rw [FRc_F f h1]; exact c2⟩, WD_fr f c3 h2 h4, by rw [FRc_F f h2]; exact c4⟩
theorem WR0_of (h : WRS u) : WR0 u := by
  obtain ⟨⟨c1, c2⟩, c3, c4⟩ := h
  refine ⟨⟨fun k hk => c1.2.2.2.2 k (by have : (20 * 1 + 2 : Nat) = 22 := rfl; rw [this]; omega), c1.2.2.1, c1.2.2.2.1⟩, fun k hk => c3.2.2.2.2 k (by have : (20 * 12 + 2 : Nat) = 242 := rfl; rw [this]; omega)⟩
theorem TKS_fr (f : FR is [] as [] u w) (h : TKS u c ps) (h1 : ∀ k, k ∈ [81, 85, 22, 242] → k ∉ is) (h2 : ∀ k, k ∈ [5, 6, 7] → k ∉ as) : TKS w c ps := by
  obtain ⟨t1, t2, t3, t4, t5⟩ := h
  refine ⟨⟨by rw [FRc_F f (h1 85 (by simp))]; exact t1.1, t1.2⟩, by rw [FRc_A f (h2 6 (by simp))]; exact t2, t3, by rw [FRc_F f (h1 81 (by simp))]; exact t4, fun t ht => ?_⟩
  obtain ⟨k, h6, h7⟩ := t5 t ht
  exact ⟨k, by rw [FRc_A f (h2 6 (by simp))]; exact h6, TVL_k h7 (FRc_A f (h2 7 (by simp))) (f.2.2.1 5 (h2 5 (by simp))) (by rw [FRc_F f (h1 22 (by simp))]; omega) (by rw [FRc_F f (h1 242 (by simp))]; omega)⟩
theorem STA_fr (h : STA u) (f : FR is [] as [] u w) (hc : CST w) (hw : WR0 w) (h40 : ∀ j, j < 32 → (0 ≤ A w 40 j ∧ A w 40 j ≤ 4000) ∧ 0 ≤ A w 41 j ∧ A w 41 j ≤ 4000) (h1 : ∀ k, k ∈ is → k < 2000 ∧ k ≠ 722 ∧ k ≠ 9 ∧ k ≠ 1964) (h2 : ∀ k, k ∈ as → k < 1900 ∧ k ≠ 38) : STA w := by
  obtain ⟨-, -, s3, -, s5, s6, s7⟩ := h
  refine ⟨hc, hw, WD_fr f s3 (fun z => (h1 _ z).2.1 rfl) (fun z => (h2 _ z).2 rfl), h40, by rw [FRc_F f (fun z => (h1 _ z).2.2.1 rfl)]; exact s5, ALN_k s6 (f.2.2.1 1948 (fun z => by have := (h2 _ z).1; omega)) (fun r hr l => LNB_fc l (fun k _ => f.1 _ (fun z => by have := (h1 _ z).1; unfold pq at this; omega))), fun j hj => s7 j ?_⟩
  rw [← f.1 1964 (fun z => (h1 _ z).2.2.2 rfl)]
  exact hj
theorem read_fin {r : Int32} (h : STA v) (hw : WRS v) (hr : r = 0 → ∃ T, WFT T v ∧ CDT T v (FvW v)) : OK (fun w _ => STA w ∧ ((F w 10 = 0 ∧ NOP w) ∨ ∃ T Fv P, WRD T Fv P 0 w)) (hb_H_read_27 N () v r) := by
  have e45 : ∀ y : Int, (y = 0 ∨ y = 1) → (y = 1 → r = 0) → OK (fun w _ => STA w ∧ ((F w 10 = 0 ∧ NOP w) ∨ ∃ T Fv P, WRD T Fv P 0 w)) (hb_H_read_45 N () (wi v 81 0) r (I y)) := fun y hy h0 => by
    unfold hb_H_read_45
    refine ok_ck.mpr ⟨by rcases hy with rfl | rfl <;> decide, ok_lt.mpr ?_⟩
    rw [wi_e, ok_bnd]
    have yr : RG y := ⟨by omega, by omega⟩
    refine ok_mono (clearAll_new (N := N) (u := wi (wi v 81 0) 10 y)) (fun w _ hw2 => ok_some.mpr ?_)
    obtain ⟨np, fc⟩ := hw2
    have e81 : F (wi (wi v 81 0) 10 y) 81 = 0 := by rw [F_wi yr.1 yr.2, if_neg (by decide), F_wi (by decide) (by decide), if_pos rfl]
    have e10 : F (wi (wi v 81 0) 10 y) 10 = y := by rw [F_wi yr.1 yr.2, if_pos rfl]
    have f1 : FR [81, 10] [] [] [] v (wi (wi v 81 0) 10 y) := FR.wi (FR.wi FR.rf (by simp)) (by simp)
    generalize wi (wi v 81 0) 10 y = z at fc e81 e10 f1
    have i1 : ∀ k, k < 2000 → k ∉ [81, 10, 942, 943, 944, 945, 946, 950, 953, 955, 956] → w.1 k = v.1 k := fun k hk hn => (fc.1 k hk (fun z => hn (by simp at z ⊢; omega))).trans (f1.1 k (fun z => hn (by simp at z ⊢; omega)))
    have a1 : ∀ k, k < 2000 → w.2.2.1 k = v.2.2.1 k := fun k hk => (fc.2.2.1 k hk (by simp)).trans (f1.2.2.1 k (by simp))
    have aA : ∀ k j, k < 2000 → A w k j = A v k j := fun k j hk => by show (w.2.2.1 k j).toInt = _; rw [a1 k hk]; rfl
    have fF : ∀ k, k < 2000 → k ∉ [81, 10, 942, 943, 944, 945, 946, 950, 953, 955, 956] → F w k = F v k := fun k hk hn => congrArg _ (i1 k hk hn)
    have wd : ∀ m, WDc v m → 20 * m + 2 < 2000 → 20 * m + 2 ∉ [81, 10, 942, 943, 944, 945, 946, 950, 953, 955, 956] → WDc w m := fun m hm h1 h2 => by
      unfold WDc at hm ⊢
      rw [fF _ h1 h2]
      refine ⟨hm.1, hm.2.1, hm.2.2.1, hm.2.2.2.1, fun k hk => ?_⟩
      rw [aA _ _ (by omega), aA _ _ (by omega)]
      exact hm.2.2.2.2 k hk
    have w81 : F w 81 = 0 := by rw [fc.Fg (by omega) (by simp)]; exact e81
    have w10 : F w 10 = y := by rw [fc.Fg (by omega) (by simp)]; exact e10
    obtain ⟨s1, s2, s3, s4, s5, s6, s7⟩ := h
    have ws : WRS w := ⟨⟨wd 1 hw.1.1 (by omega) (by simp), by rw [fF 22 (by omega) (by simp)]; exact hw.1.2⟩, wd 12 hw.2.1 (by omega) (by simp), by rw [fF 242 (by omega) (by simp)]; exact hw.2.2⟩
    have al : ALN w := ALN_k s6 (a1 1948 (by omega)) (fun r hr l => LNB_fc l (fun k hk => (fc.2.2.2.2.1 r k (by simp at hk; omega) (by simp)).trans (f1.1 _ (fun z => by simp [pq] at z; omega))))
    refine ⟨⟨⟨by rw [w81]; omega, fun k hk => by rw [a1 5 (by omega)]; exact s1.2.1 k hk, wd 9 s1.2.2.1 (by omega) (by simp), by rw [fF 182 (by omega) (by simp)]; exact s1.2.2.2⟩, WR0_of ws, wd 36 s3 (by omega) (by simp), fun j hj => by rw [aA 40 j (by omega), aA 41 j (by omega)]; exact s4 j hj, by rw [fF 9 (by omega) (by simp)]; exact s5, al, fun j hj => s7 j (by rw [← i1 1964 (by omega) (by simp)]; exact hj)⟩, ?_⟩
    rcases hy with rfl | rfl
    · exact Or.inl ⟨w10, np⟩
    · obtain ⟨T, t1, t2⟩ := hr (h0 rfl)
      have sc : SCQ v w := ⟨fun k hk => i1 k (by simp at hk; omega) (by simp at hk ⊢; omega), fun k hk => a1 k (by simp at hk; omega)⟩
      exact Or.inr ⟨T, FvW v, PT w, WRD_0 np (CTX_of (FvW_ok t2.2.2.1.2 t2.1.2) ws.1.1 ws.1.2) (WFT_s sc t1) (CDT_s sc t2) al⟩
  unfold hb_H_read_27
  refine ok_lt.mpr ?_
  rw [lit0q, wi_e, ← lit0q]
  refine ok_br.mpr ⟨fun z => e45 1 (Or.inr rfl) (fun _ => of_decide_eq_true z), fun _ => e45 0 (Or.inl rfl) (fun z => absurd z (by decide))⟩
theorem read_okc (h : STA u) (hN : 1000000000 ≤ N) : OK (fun w _ => STA w ∧ ((F w 10 = 0 ∧ NOP w) ∨ ∃ T Fv P, WRD T Fv P 0 w)) (hm_H_read N u) := by
  unfold hm_H_read hb_H_read_0
  rw [ok_bnd]
  refine ok_mono (scanAll_ok (N := N) h.1 h.2.1 (by omega)) (fun w9 _ h9 => ?_)
  obtain ⟨f9, c9, r9, c, ps, tk⟩ := h9
  have s9 : STA w9 := STA_fr h f9 c9 (WR0_of r9) (fun j hj => by rw [FRc_A f9 (by simp), FRc_A f9 (by simp)]; exact h.2.2.2.1 j hj) (by simp) (by simp)
  have tkk : TKKc w9 c := ⟨tk.1.2, tk.2.1, fun t ht => by
    obtain ⟨k, k1, k2⟩ := tk.2.2.2.2 t ht
    have := k2.1
    omega⟩
  rw [ok_bnd]
  refine ok_mono (parse_okc (N := N) tkk (by omega)) (fun u12 r12 h12 => ?_)
  obtain ⟨kp, hp⟩ := h12
  have f12 : FR [441, 306, 442, 449, 664, 665, 666, 667] [] [16, 17, 18, 19, 20, 21, 24, 25, 26, 27, 28, 34] [] w9 u12 := FR.tr (FR.wi FR.rf (by simp)) (FR.mo kp (by simp) (by simp) (by simp) (by simp))
  have e441 : F u12 441 = 1 := by
    rw [show F u12 441 = F (wi w9 441 1) 441 from congrArg _ (kp.1 441 (by simp)), F_wi (by decide) (by decide), if_pos rfl]
  have c12 : CST u12 := CST_fr f12 c9 (by simp) (by simp) (by simp) (by simp)
  have r12w : WRS u12 := WRS_fr f12 r9 (by simp) (by simp) (by simp) (by simp)
  have s12 : STA u12 := STA_fr s9 f12 c12 (WR0_of r12w) (fun j hj => by rw [FRc_A f12 (by simp), FRc_A f12 (by simp)]; exact s9.2.2.2.1 j hj) (by simp) (by simp)
  refine ok_br.mpr ⟨fun z => ?_, fun z => read_fin s12 r12w (fun e => absurd e (of_decide_eq_false z))⟩
  obtain ⟨-, g, n, q, hg1, -, psi, h42, h6, fns⟩ := hp (of_decide_eq_true z)
  obtain ⟨-, ⟨-, -⟩, ⟨-, hn⟩, h449, -⟩ := psi
  have tk12 : TKS u12 c ps := TKS_fr f12 tk (by simp) (by simp)
  have c4 := tk12.1.2
  unfold hm_Cm_compile hb_Cm_compile_0
  rw [ok_bnd]
  refine ok_lt.mpr (ok_lt.mpr (ok_lt.mpr (ok_lt.mpr ?_)))
  rw [lit0q, wi_e, wi_e, wi_e, show (1000000000 : Int32) = I 1000000000 from rfl, wi_e]
  have fs : FR [714, 711, 712, 713] [] [] [] u12 (wi (wi (wi (wi u12 714 1000000000) 711 0) 712 0) 713 0) := FR.wi (FR.wi (FR.wi (FR.wi FR.rf (by simp)) (by simp)) (by simp)) (by simp)
  have d14 : F (wi (wi (wi (wi u12 714 1000000000) 711 0) 712 0) 713 0) 714 = 1000000000 := by rw [F_wi (by decide) (by decide), if_neg (by decide), F_wi (by decide) (by decide), if_neg (by decide), F_wi (by decide) (by decide), if_neg (by decide), F_wi (by decide) (by decide), if_pos rfl]
  have d11 : F (wi (wi (wi (wi u12 714 1000000000) 711 0) 712 0) 713 0) 711 = 0 := by rw [F_wi (by decide) (by decide), if_neg (by decide), F_wi (by decide) (by decide), if_neg (by decide), F_wi (by decide) (by decide), if_pos rfl]
  have d12 : F (wi (wi (wi (wi u12 714 1000000000) 711 0) 712 0) 713 0) 712 = 0 := by rw [F_wi (by decide) (by decide), if_neg (by decide), F_wi (by decide) (by decide), if_pos rfl]
  have d13 : F (wi (wi (wi (wi u12 714 1000000000) 711 0) 712 0) 713 0) 713 = 0 := by rw [F_wi (by decide) (by decide), if_pos rfl]
  generalize wi (wi (wi (wi u12 714 1000000000) 711 0) 712 0) 713 0 = s at fs d14 d11 d12 d13
  have cs : CST s := CST_fr fs c12 (by simp) (by simp) (by simp) (by simp)
  have rs : WRS s := WRS_fr fs r12w (by simp) (by simp) (by simp) (by simp)
  have ts : TKS s c ps := TKS_fr fs tk12 (by simp) (by simp)
  have w36 : WDc s 36 := WD_fr fs s12.2.2.1 (by simp) (by simp)
  have sA : ∀ r j, A s r j = A u12 r j := fun r j => FRc_A fs (by simp)
  have s441 : F s 441 = 1 := by rw [FRc_F fs (by simp)]; exact e441
  have s42 : F s 442 = ((g : Nat) : Int) := by rw [FRc_F fs (by simp)]; exact h42
  have fn2 : FNSc s g c n q := FNS_k (fs.2.2.1 6 (by simp)) (fs.2.2.1 7 (by simp)) (fun k _ => ⟨sA _ _, sA _ _, sA _ _, sA _ _, sA _ _, sA _ _⟩) (fun f _ => ⟨sA _ _, sA _ _, sA _ _⟩) fns
  obtain ⟨B, b0, b1, b2⟩ := FNS_B fn2
  have xs : CMX s c ps (B g).2.2 := ⟨⟨cs, ts⟩, ⟨w36, rs.1.1⟩, by rw [s42]; omega, by rw [FRc_F fs (by simp), h449, b1]⟩
  have cw : CW0 s := ⟨by rw [s441]; omega, by rw [d14]; omega, Or.inl d11, ⟨d12, d13⟩, fun j hj => by rw [sA, sA]; exact s12.2.2.2.1 j hj⟩
  have sz : szc s = 1 := by show (F s 441).toNat = 1; rw [s441]; rfl
  rw [← lit0q, lit0q]
  refine ok_mono (compileX_ok (N := N) hN xs (by omega) s42 b0 b2 (by rw [b1]; exact Nat.le_refl _) (by rw [b1]; show n ≤ 8000; omega) N 0 s (by omega) (by omega) FR.rf cw (fun _ => by rw [s441, b0]; unfold WBc; omega) (fun _ => by rw [sz, b0]; exact ALP_0)) (fun w r cp => ?_)
  obtain ⟨k2, cw2, hr⟩ := cp
  have kf : FR [441, 706, 709, 711, 712, 713, 714] [] [23, 29, 30, 31, 32, 39, 40, 41, 42] [] u12 w := FR.tr (FR.mo fs (by simp) (by simp) (by simp) (by simp)) k2
  have cwt : CST w := CST_fr kf c12 (by simp) (by simp) (by simp) (by simp)
  have rw2 : WRS w := WRS_fr kf r12w (by simp) (by simp) (by simp) (by simp)
  refine read_fin (STA_fr s12 kf cwt (WR0_of rw2) cw2.2.2.2.2 (by simp) (by simp)) rw2 (fun e => ?_)
  obtain ⟨-, -, b, q2, al, hb, h9, hq⟩ := hr e
  exact types_of al hb (by rw [k2.F (by simp)]; exact s42) (by omega) h9 hq
end
end
section
set_option maxRecDepth 100000
def INVc (u : MS) : Prop := STA u ∧ ((F u 10 = 0 ∧ NOP u) ∨ ∃ T Fv P PR, WRD T Fv P PR u)
def KFc {α : Type} (o : Option (MS × α)) : Prop := ∀ w r, o = some (w, r) → ∀ j, rf (w.1 1964) = some j → 44 ≤ j
section
variable {α β : Type} {u v w u0 : MS} {N : Nat} {T : Nat → Option (Nat × Nat × List Nat × Nat × Nat)} {Fv : Int64 → Int64 → Prop} {P : Int64 → Prop} {PR : Nat} {x z : Int} {y : Int32}
theorem KF_some {r : α} (h : ∀ j, rf (w.1 1964) = some j → 44 ≤ j) : KFc (some (w, r)) := fun _ _ e => by injection e with e; injection e with e1 _; exact e1 ▸ h
theorem KF_br {b : Bool} {p q : Option (MS × α)} (h1 : KFc p) (h2 : KFc q) : KFc (br b p q) := by cases b <;> assumption
theorem KF_none : KFc (none : Option (MS × α)) := fun _ _ e => by cases e
theorem KF_ck {b : Bool} {p : Option (MS × α)} (h1 : KFc p) : KFc (ck b p) := by
  cases b
  · exact KF_none
  · exact h1
theorem KF_bo {o : Option β} {f : β → Option (MS × α)} (h : ∀ j, KFc (f j)) : KFc (bo o f) := by
  cases o with
  | none => exact KF_none
  | some j => exact h j
theorem KF_bnd {o : Option (MS × β)} {f : MS → β → Option (MS × α)} (h1 : KE u0 o) (h2 : ∀ w r, KPS u0 w → KFc (f w r)) : KFc (bnd o f) := by
  cases o with
  | none => exact KF_none
  | some x => exact h2 x.1 x.2 (h1 x.1 x.2 rfl)
theorem KF_9 {r : Int32} (h : KPS u0 w) : KFc (lt (upI w 9 r) (fun w7 => some (w7, (w7.1 9)))) := KF_some (fun j hj => h.2.2 j (by
  have e : (upI w 9 r).1 1964 = w.1 1964 := rfl
  rw [e] at hj
  exact hj))
theorem show_64 {v1 v2 v3 : Int32} (h : KPS u0 u) : KFc (hm_H_show N u v1 v2 v3) := by
  have tx : ∀ {w : MS} {b : Nat} {t : Int64}, KPS u0 w → KFc (bnd (hm_Te_text N w b t 56 0) (fun u5 r5 => lt (upI u5 9 r5) (fun w7 => some (w7, (w7.1 9))))) := fun hw => KF_bnd (zm_Te_text hw (Or.inr rfl)) (fun w r hw => KF_9 hw)
  have so : ∀ {w : MS} {r : Int32}, KPS u0 w → KFc (some (w, r)) := fun hw => KF_some hw.2.2
  have e145 : ∀ {w : MS} {v2 v3 v6 t0 : Int32} {v4 v5 : Nat}, KPS u0 w → KFc (hb_H_show_145 N () w v2 v3 v4 v5 v6 t0) := fun hw => by
    unfold hb_H_show_145 hb_H_show_209
    exact KF_br (KF_br (KF_ck (tx hw)) (KF_br (KF_bnd (zm_Fr_of hw) (fun w r hw => KF_ck (tx hw))) (KF_bnd (zm_Fr_of hw) (fun w r hw => KF_ck (tx hw))))) (so hw)
  unfold hm_H_show hb_H_show_0 hb_H_show_19 hb_H_show_39 hb_H_show_93
  exact KF_bnd (zm_Wl_find h) (fun w r hw => KF_br (so hw) (KF_br (KF_br (KF_bo (fun j => KF_br (KF_br (KF_bo (fun j => tx hw)) (so hw)) (so hw))) (KF_br (so hw) (KF_br (so hw) (KF_bo (fun j => KF_br (so hw) (KF_br (e145 hw) (KF_br (KF_bnd (zm_Fr_namesIn hw) (fun w r hw => e145 hw)) (KF_bnd (zm_Fr_waitsIn hw) (fun w r hw => e145 hw))))))))) (so hw)))
theorem STA_k (h : STA u) (k : KPS u w) (a : ALN w) : STA w := by
  obtain ⟨s1, s2, s3, s4, s5, s6, s7⟩ := h
  have fF : ∀ j, j < 860 → F w j = F u j := fun j hj => congrArg _ (k.1 j hj)
  have aA : ∀ r j, r < 44 → A w r j = A u r j := fun r j hr => by show (w.2.2.1 r j).toInt = _; rw [k.2.1 r hr]; rfl
  have wd : ∀ m, m < 42 → WDc u m → WDc w m := fun m hm h => by
    unfold WDc at h ⊢
    rw [fF _ (by omega)]
    refine ⟨h.1, h.2.1, h.2.2.1, h.2.2.2.1, fun k hk => ?_⟩
    rw [aA _ _ (by omega), aA _ _ (by omega)]
    exact h.2.2.2.2 k hk
  refine ⟨⟨by rw [fF 81 (by omega)]; exact s1.1, fun j hj => by rw [k.2.1 5 (by omega)]; exact s1.2.1 j hj, wd 9 (by omega) s1.2.2.1, by rw [fF 182 (by omega)]; exact s1.2.2.2⟩, ⟨⟨fun j hj => by rw [aA _ _ (by omega), aA _ _ (by omega)]; exact s2.1.1 j hj, s2.1.2⟩, fun j hj => by rw [aA _ _ (by omega), aA _ _ (by omega)]; exact s2.2 j hj⟩, wd 36 (by omega) s3, fun j hj => by rw [aA 40 j (by omega), aA 41 j (by omega)]; exact s4 j hj, by rw [fF 9 (by omega)]; exact s5, a, k.2.2⟩
theorem nofind (n : NOP u) (hx : RG x) : OK (fun w r => w = u ∧ r = none) (hm_Wl_find N u (I x)) := ok_mono (findc_ok (N := N) n hx) (fun w r h => ⟨h.1, by
  cases r with
  | none => rfl
  | some j => have := h.2 j rfl; omega⟩)
theorem inv_u {o : Option (MS × α)} (h : INVc u) (ho : OK (fun w _ => w = u) o) : OK (fun w _ => INVc w) o := ok_mono ho (fun w _ e => by rw [e]; exact h)
theorem invc_count (h : INVc u) : OK (fun w _ => INVc w) (hm_H_count N u y) := inv_u h count_okc
theorem invc_shown (h : INVc u) : OK (fun w _ => INVc w) (hm_H_shown N u y) := inv_u h (shown_okc h.1.2.2.2.2.1)
theorem invc_read (h : INVc u) (hN : 1000000000 ≤ N) : OK (fun w _ => INVc w) (hm_H_read N u) := ok_mono (read_okc (N := N) h.1 hN) (fun w _ hw => ⟨hw.1, by
  rcases hw.2 with z | ⟨T, Fv, P, z⟩
  · exact Or.inl z
  · exact Or.inr ⟨T, Fv, P, 0, z⟩⟩)
theorem invc_go (h : INVc u) (hx : RG x) (hN : 600000000010 ≤ N) : OK (fun w _ => INVc w) (hm_H_go N u (I x) y) := by
  rcases h.2 with ⟨h10, np⟩ | ⟨T, Fv, P, PR, W⟩
  · refine inv_u h ?_
    unfold hm_H_go hb_H_go_0 hb_H_go_11
    refine br_u so_u (br_u (ok_bnd.mpr (ok_mono (nofind np hx) (fun w r hw => ?_))) so_u)
    obtain ⟨rfl, rfl⟩ := hw
    exact ok_br.mpr ⟨fun _ => so_u, fun z => absurd z (by decide)⟩
  · exact ok_mono (OK_KE (go_okc (N := N) (y := y) W hx hN) (zm_H_go (KPS_rf h.1.2.2.2.2.2.2))) (fun w _ hw => by
      obtain ⟨⟨PR2, W2⟩, k⟩ := hw
      exact ⟨STA_k h.1 k W2.2.2.2.2.2, Or.inr ⟨T, Fv, P, PR2, W2⟩⟩)
theorem invc_clock (h : INVc u) : OK (fun w _ => INVc w) (hm_H_clock N u y) := by
  rcases h.2 with ⟨h10, np⟩ | ⟨T, Fv, P, PR, W⟩
  · have me : ∀ {z : Nat}, OK (fun w _ => INVc w) (some (u, (.inr z : Int32 ⊕ Nat))) := fun {z} => ok_some.mpr h
    unfold hm_H_clock hb_H_clock_0 hb_H_clock_24
    refine ok_br.mpr ⟨fun _ => me, fun _ => ok_br.mpr ⟨fun _ => me, fun _ => ok_br.mpr ⟨fun _ => ok_br.mpr ⟨fun _ => me, fun _ => ok_lt.mpr (ok_some.mpr ?_)⟩, fun _ => me⟩⟩⟩
    rw [I_of (u.1 944 + y), wi_e]
    have f : FR [944] [] [] [] u (wi u 944 (u.1 944 + y).toInt) := FR.wi FR.rf (by simp)
    have fF : ∀ k, k ≠ 944 → F (wi u 944 (u.1 944 + y).toInt) k = F u k := fun k hk => FRc_F f (by simp; exact hk)
    have fA : ∀ r j, A (wi u 944 (u.1 944 + y).toInt) r j = A u r j := fun _ _ => rfl
    have f19 : (wi u 944 (u.1 944 + y).toInt).2.2.1 = u.2.2.1 := rfl
    have st : STA (wi u 944 (u.1 944 + y).toInt) := STA_fr h.1 f (CST_fr f h.1.1 (by simp) (by simp) (by simp) (by simp)) ⟨⟨fun j hj => h.1.2.1.1.1 j hj, h.1.2.1.1.2⟩, fun j hj => h.1.2.1.2 j hj⟩ (fun j hj => h.1.2.2.2.1 j hj) (by simp) (by simp)
    obtain ⟨⟨n1, n2⟩, n3, n4, ⟨n5, n6⟩, n7, n8, n9⟩ := np
    refine ⟨st, Or.inl ⟨by rw [fF 10 (by decide)]; exact h10, ⟨by rw [fF 942 (by decide)]; exact n1, n2⟩, fun r hr => absurd hr (by omega), by rw [fF 950 (by decide)]; exact n4, ⟨by rw [fF 955 (by decide)]; exact n5, by rw [fF 955 (by decide), fF 956 (by decide)]; exact n6⟩, fun i hi => ?_, by rw [fF 953 (by decide)]; exact n8, fun i hi => ?_⟩⟩
    · rw [fF 955 (by decide), n5] at hi
      have : ((cEc u 0 : Nat) : Int) = 0 := rfl
      omega
    · rw [fF 953 (by decide)] at hi
      exact n9 i hi
  · exact ok_mono (OK_KE (clock_okc (N := N) (y := y) W) (zm_H_clock (KPS_rf h.1.2.2.2.2.2.2))) (fun w _ hw => ⟨STA_k h.1 hw.2 hw.1.2.2.2.2.2, Or.inr ⟨T, Fv, P, PR, hw.1⟩⟩)
theorem invc_send (h : INVc u) (hx : RG x) (hz : RG z) (hN : 3000000 ≤ N) : OK (fun w _ => INVc w) (hm_H_send N u (I x) y (I z)) := by
  rcases h.2 with ⟨h10, np⟩ | ⟨T, Fv, P, PR, W⟩
  · refine inv_u h ?_
    unfold hm_H_send hb_H_send_0 hb_H_send_35
    refine ok_bnd.mpr (ok_mono (nofind np hx) (fun w r hw => ?_))
    obtain ⟨rfl, rfl⟩ := hw
    exact ok_br.mpr ⟨fun _ => so_u, fun z => absurd z (by decide)⟩
  · exact ok_mono (OK_KE (send_okc (N := N) (y := y) W hx hz hN) (zm_H_send (KPS_rf h.1.2.2.2.2.2.2))) (fun w _ hw => ⟨STA_k h.1 hw.2 hw.1.2.2.2.2.2, Or.inr ⟨T, Fv, P, PR, hw.1⟩⟩)
theorem invc_process (h : INVc u) (hx : RG x) (hN : 3000000 ≤ N) : OK (fun w _ => INVc w) (hm_H_process N u (I x) y) := inv_u h (by
  rcases h.2 with ⟨h10, np⟩ | ⟨T, Fv, P, PR, W⟩
  · unfold hm_H_process hb_H_process_0
    refine ok_bnd.mpr (ok_mono (nofind np hx) (fun w r hw => ?_))
    obtain ⟨rfl, rfl⟩ := hw
    exact ok_br.mpr ⟨fun _ => so_u, fun z => absurd z (by decide)⟩
  · exact process_okc W hx hN)
theorem invc_frame {y2 : Int32} (h : INVc u) (hx : RG x) : OK (fun w _ => INVc w) (hm_H_frame N u (I x) y y2) := inv_u h (by
  rcases h.2 with ⟨h10, np⟩ | ⟨T, Fv, P, PR, W⟩
  · unfold hm_H_frame hb_H_frame_0 hb_H_frame_40
    refine ok_bnd.mpr (ok_mono (nofind np hx) (fun w r hw => ?_))
    obtain ⟨rfl, rfl⟩ := hw
    exact ok_br.mpr ⟨fun _ => so_u, fun z => absurd z (by decide)⟩
  · exact frame_okc W hx)
theorem invc_link (h : INVc u) (hx : RG x) : OK (fun w _ => INVc w) (hm_H_link N u (I x) y) := inv_u h (by
  rcases h.2 with ⟨h10, np⟩ | ⟨T, Fv, P, PR, W⟩
  · unfold hm_H_link hb_H_link_0 hb_H_link_33
    refine ok_bnd.mpr (ok_mono (nofind np hx) (fun w r hw => ?_))
    obtain ⟨rfl, rfl⟩ := hw
    exact ok_br.mpr ⟨fun _ => so_u, fun z => absurd z (by decide)⟩
  · exact link_okc W hx)
theorem invc_printed {y2 : Int32} (h : INVc u) : OK (fun w _ => INVc w) (hm_H_printed N u y y2) := inv_u h (by
  have g : GLQ 0 u ∨ ∃ PR, GLQ PR u := by
    rcases h.2 with ⟨h10, np⟩ | ⟨T, Fv, P, PR, W⟩
    · exact Or.inl np
    · exact Or.inr ⟨PR, W.1.1⟩
  have g := (by
    rcases g with g | ⟨PR, g⟩
    · exact g.2.2.2.2.2
    · exact g.2.2.2.2.2 : (0 ≤ F u 953 ∧ F u 953 ≤ 200) ∧ _)
  unfold hm_H_printed hb_H_printed_0 hb_H_printed_32
  rw [I_of y, I_of y2, lit0q, I_F (k := 953)]
  have ry := ti_rng y
  have rz := ti_rng y2
  refine k_lt ry ⟨by decide, by decide⟩ (fun _ => so_u) (fun h0 => k_le (FRG1 u _) ry (fun _ => so_u) (fun h1 => k_lt rz ⟨by decide, by decide⟩ (fun _ => so_u) (fun h2 => ?_)))
  have g2 := g.2 y.toInt.toNat (by omega)
  refine e_in ⟨by omega, by omega⟩ (by decide) ?_
  rw [tnI (n := y.toInt.toNat) (by omega) (by omega), I_A (k := 53)]
  refine k_lt rz (A_r u 53 _) (fun h3 => ?_) (fun _ => so_u)
  rw [I_lit (n := 100), I_mul, I_add]
  exact e_in ⟨by show 0 ≤ _ * (100 : Int) + _; omega, by show _ * (100 : Int) + _ < _; omega⟩ (by decide) so_u)
theorem invc_function {y2 : Int32} (h : INVc u) : OK (fun w _ => INVc w) (hm_H_function N u y y2) := inv_u h (by
  rcases h.2 with ⟨h10, np⟩ | ⟨T, Fv, P, PR, W⟩
  · unfold hm_H_function hb_H_function_0
    obtain ⟨r, e, hr⟩ := isFun_e (N := N) (u := u) (y := y)
    rw [e, bnd_so]
    exact ok_br.mpr ⟨fun _ => so_u, fun h0 => absurd h10 (hr (of_decide_eq_false h0)).1⟩
  · exact function_okc W)
theorem invc_letter {y2 : Int32} (h : INVc u) : OK (fun w _ => INVc w) (hm_H_letter N u y y2) := inv_u h (by
  rcases h.2 with ⟨h10, np⟩ | ⟨T, Fv, P, PR, W⟩
  · unfold hm_H_letter hb_H_letter_0
    exact k_F (y := 0) rfl ⟨by decide, by decide⟩ (fun _ => so_u) (fun z => absurd h10 z)
  · exact letter_okc W)
theorem invc_begin (h : INVc u) (hx : RG x) : OK (fun w _ => INVc w) (hm_H_begin N u (I x)) := by
  rcases h.2 with ⟨h10, np⟩ | ⟨T, Fv, P, PR, W⟩
  · refine inv_u h ?_
    unfold hm_H_begin hb_H_begin_0
    exact k_F (y := 0) rfl ⟨by decide, by decide⟩ (fun _ => so_u) (fun z => absurd h10 z)
  · exact ok_mono (OK_KE (begin_okc (N := N) W hx) (zm_H_begin (KPS_rf h.1.2.2.2.2.2.2))) (fun w _ hw => by
      obtain ⟨⟨PR2, W2⟩, k⟩ := hw
      exact ⟨STA_k h.1 k W2.2.2.2.2.2, Or.inr ⟨T, Fv, P, PR2, W2⟩⟩)
theorem invc_show {y2 : Int32} (h : INVc u) (hx : RG x) (hN : 1000000010 ≤ N) : OK (fun w _ => INVc w) (hm_H_show N u (I x) y y2) := by
  rcases h.2 with ⟨h10, np⟩ | ⟨T, Fv, P, PR, W⟩
  · refine inv_u h ?_
    unfold hm_H_show hb_H_show_0 hb_H_show_19
    refine ok_bnd.mpr (ok_mono (nofind np hx) (fun w r hw => ?_))
    obtain ⟨rfl, rfl⟩ := hw
    exact ok_br.mpr ⟨fun _ => so_u, fun z => absurd z (by decide)⟩
  · obtain ⟨w, r, e, q⟩ := show_okc (N := N) (y := y) (z := y2) W hx hN
    have k64 := show_64 (N := N) (v1 := I x) (v2 := y) (v3 := y2) (KPS_rf h.1.2.2.2.2.2.2) w r e
    refine ⟨w, r, e, ?_⟩
    rcases q with rfl | ⟨W2, h9, fc⟩
    · exact h
    · obtain ⟨s1, s2, s3, s4, s5, s6, s7⟩ := h.1
      have fF : ∀ j, j < 860 → j ≠ 9 → F w j = F u j := fun j hj h1 => fc.Fg (by omega) (by simp; omega)
      have aA : ∀ r j, r < 44 → A w r j = A u r j := fun r j hr => fc.ag (by omega) (by simp; omega)
      have wd : ∀ m, m < 42 → 1 ≤ m → WDc u m → WDc w m := fun m hm h1 h => by
        unfold WDc at h ⊢
        rw [fF _ (by omega) (by omega)]
        refine ⟨h.1, h.2.1, h.2.2.1, h.2.2.2.1, fun k hk => ?_⟩
        rw [aA _ _ (by omega), aA _ _ (by omega)]
        exact h.2.2.2.2 k hk
      refine ⟨⟨⟨by rw [fF 81 (by omega) (by omega)]; exact s1.1, fun j hj => by rw [fc.2.2.1 5 (by omega) (by simp)]; exact s1.2.1 j hj, wd 9 (by omega) (by omega) s1.2.2.1, by rw [fF 182 (by omega) (by omega)]; exact s1.2.2.2⟩, ⟨⟨fun j hj => by rw [aA _ _ (by omega), aA _ _ (by omega)]; exact s2.1.1 j hj, s2.1.2⟩, fun j hj => by rw [aA _ _ (by omega), aA _ _ (by omega)]; exact s2.2 j hj⟩, wd 36 (by omega) (by omega) s3, fun j hj => by rw [aA 40 j (by omega), aA 41 j (by omega)]; exact s4 j hj, h9, W2.2.2.2.2.2, k64⟩, Or.inr ⟨T, Fv, P, PR, W2⟩⟩
end
end
section
set_option maxRecDepth 100000
section
variable {u v w : MS} {N : Nat} {x y : Int32}
theorem fits_nar {x : Int32} : fits .byte (.int (vp_nar .byte x)) = true := by
  obtain ⟨h1, h2⟩ := nar_rng (x := x)
  show (decide ((-128 : Int32) ≤ vp_nar .byte x) && decide (vp_nar .byte x ≤ (127 : Int32))) = true
  rw [Bool.and_eq_true]
  exact ⟨decide_eq_true (Int32.le_iff_toInt_le.mpr h1), decide_eq_true (Int32.le_iff_toInt_le.mpr h2)⟩
theorem app_loop : ∀ (k M : Nat) (v : MS), k + 1 ≤ M → k ≤ 4 → (0 ≤ F v 81 ∧ F v 81 ≤ 4000) → TPB v → OK (fun w _ => FR [81] [] [5] [] v w ∧ (0 ≤ F w 81 ∧ F w 81 ≤ 4000) ∧ TPB w) (hg_To_append N M v x (I (8 * ((k : Nat) : Int) - 8)))
  | 0, M, v, hM, hk, h81, hT => by
    obtain ⟨M, rfl⟩ : ∃ M2, M = M2 + 1 := ⟨M - 1, by omega⟩
    show OK _ (hb_To_append_3 N (hg_To_append N M) v x (I (8 * ((0 : Nat) : Int) - 8)))
    unfold hb_To_append_3 hb_To_append_46
    rw [lit0q]
    exact k_lt ⟨by decide, by decide⟩ ⟨by decide, by decide⟩ (fun _ => ok_some.mpr ⟨FR.rf, h81, hT⟩) (fun z => absurd z (by decide))
  | k + 1, M, v, hM, hk, h81, hT => by
    obtain ⟨M, rfl⟩ : ∃ M2, M = M2 + 1 := ⟨M - 1, by omega⟩
    show OK _ (hb_To_append_3 N (hg_To_append N M) v x (I (8 * ((k + 1 : Nat) : Int) - 8)))
    unfold hb_To_append_3 hb_To_append_46
    rw [lit0q]
    refine k_lt ⟨by omega, by omega⟩ ⟨by decide, by decide⟩ (fun _ => ok_some.mpr ⟨FR.rf, h81, hT⟩) (fun _ => ?_)
    rw [I_F (k := 81), show (4000 : Int32) = I 4000 from rfl]
    refine k_le ⟨by decide, by decide⟩ (FRG1 v _) (fun _ => ok_some.mpr ⟨FR.rf, h81, hT⟩) (fun h4 => ?_)
    have h4' : F v 81 < 4000 := h4
    obtain ⟨t, ht⟩ : ∃ t : Nat, F v 81 = ((t : Nat) : Int) := ⟨(F v 81).toNat, by omega⟩
    refine e_in ⟨by omega, by omega⟩ (by decide) (ok_lt.mpr (ok_lt.mpr ?_))
    rw [ht, tnI (n := t) rfl (by omega), show (-8 : Int32) = I (-8) from rfl, I_add, show 8 * ((k + 1 : Nat) : Int) - 8 + -8 = 8 * ((k : Nat) : Int) - 8 by omega]
    generalize hb : vp_nar .byte _ = by0
    have hf : fits .byte (.int by0) = true := by rw [← hb]; exact fits_nar
    have e1 : (upA v 5 (upd (v.2.2.1 5) t by0)).1 81 = I ((t : Nat) : Int) := by
      show v.1 81 = _
      rw [I_F, ht]
    rw [e1, lit1q, I_add, show ((t : Nat) : Int) + 1 = ((t + 1 : Nat) : Int) by omega, wi_e, I_of by0, wa_e]
    have fr : FR [81] [] [5] [] v (wi (wa v 5 t by0.toInt) 81 ((t + 1 : Nat) : Int)) := FR.wi (FR.wa FR.rf (by simp)) (by simp)
    have e81 : F (wi (wa v 5 t by0.toInt) 81 ((t + 1 : Nat) : Int)) 81 = ((t + 1 : Nat) : Int) := by rw [F_wi (by omega) (by omega), if_pos rfl]
    have tp : TPB (wi (wa v 5 t by0.toInt) 81 ((t + 1 : Nat) : Int)) := fun j hj => by
      show fits .byte (.int (upd (v.2.2.1 5) t (I by0.toInt) j)) = true
      unfold upd
      by_cases e : j = t
      · rw [if_pos e, ← I_of by0]; exact hf
      · rw [if_neg e]; exact hT j hj
    exact ok_mono (app_loop k M _ (by omega) (by omega) (by rw [e81]; omega) tp) (fun w _ hw => ⟨FR.tr fr hw.1, hw.2⟩)
theorem INV_tape (h : INVc u) (f : FR [81] [] [5] [] u w) (h81 : 0 ≤ F w 81 ∧ F w 81 ≤ 4000) (ht : TPB w) : INVc w := by
  have h1 := h.1
  have hc : CST w := ⟨h81, ht, WD_fr f h1.1.2.2.1 (by simp) (by simp), by rw [FRc_F f (by simp)]; exact h1.1.2.2.2⟩
  have hw : WR0 w := ⟨⟨fun j hj => by rw [FRc_A f (by simp), FRc_A f (by simp)]; exact h1.2.1.1.1 j hj, h1.2.1.1.2⟩, fun j hj => by rw [FRc_A f (by simp), FRc_A f (by simp)]; exact h1.2.1.2 j hj⟩
  refine ⟨STA_fr h1 f hc hw (fun j hj => by rw [FRc_A f (by simp), FRc_A f (by simp)]; exact h1.2.2.2.1 j hj) (by simp) (by simp), ?_⟩
  have fc : FC 0 [81] [] [5] [] [] [] [] u w := ⟨fun k _ hk => f.1 k hk, fun k _ hk => f.2.1 k hk, fun k _ hk => f.2.2.1 k hk, fun k _ _ => f.2.2.2 k (by simp), fun r k _ _ => f.1 _ (by simp [pq]; omega), fun r k _ _ => f.2.1 _ (by simp), fun r k _ _ => f.2.2.1 _ (by simp [pq]; omega), fun r k _ _ => f.2.2.2 _ (by simp)⟩
  rcases h.2 with ⟨h10, np⟩ | ⟨T, Fv, P, PR, W⟩
  · obtain ⟨⟨n1, n2⟩, n3, n4, ⟨n5, n6⟩, n7, n8, n9⟩ := np
    refine Or.inl ⟨by rw [FRc_F f (by simp)]; exact h10, ⟨by rw [FRc_F f (by simp)]; exact n1, n2⟩, fun r hr => absurd hr (by omega), by rw [FRc_F f (by simp)]; exact n4, ⟨by rw [FRc_F f (by simp)]; exact n5, by rw [FRc_F f (by simp), FRc_F f (by simp)]; exact n6⟩, fun i hi => ?_, by rw [FRc_F f (by simp)]; exact n8, fun i hi => ?_⟩
    · rw [FRc_F f (by simp), n5] at hi
      have : ((cEc u 0 : Nat) : Int) = 0 := rfl
      omega
    · rw [FRc_F f (by simp)] at hi
      rw [FRc_A f (by simp)]
      exact n9 i hi
  · exact Or.inr ⟨T, Fv, P, PR, WRD_g W fc (DWc_g0 W.1 fc (by simp) (by simp)) (by simp) (by simp)⟩
theorem append_okc (h : INVc u) (hN : 10 ≤ N) : OK (fun w _ => INVc w) (hm_To_append N u x) := by
  unfold hm_To_append hb_To_append_0
  have e : (24 : Int32) = I (8 * ((4 : Nat) : Int) - 8) := rfl
  rw [e]
  exact ok_mono (app_loop 4 N u (by omega) (by omega) h.1.1.1 h.1.1.2.1) (fun w _ hw => INV_tape h hw.1 hw.2.1 hw.2.2)
theorem invc_feed {a b c d e : Int32} (h : INVc u) (hN : 10 ≤ N) : OK (fun w _ => INVc w) (hm_H_feed N u a b c d e) := by
  unfold hm_H_feed hb_H_feed_0
  refine ok_br.mpr ⟨fun _ => ?_, fun _ => ok_some.mpr h⟩
  refine ok_bnd.mpr (ok_mono (append_okc h hN) (fun w1 _ h1 => ok_bnd.mpr (ok_mono (append_okc h1 hN) (fun w2 _ h2 => ok_bnd.mpr (ok_mono (append_okc h2 hN) (fun w3 _ h3 => ok_bnd.mpr (ok_mono (append_okc h3 hN) (fun w4 _ h4 => ok_bnd.mpr (ok_mono (append_okc h4 hN) (fun w5 _ h5 => ok_some.mpr h5))))))))))
theorem invc_back (h : INVc u) : OK (fun w _ => INVc w) (hm_H_back N u y) := by
  unfold hm_H_back hb_H_back_0 hb_H_back_15
  have ry := ti_rng y
  have h81 := h.1.1.1
  rw [I_of y, lit0q, I_F (k := 81)]
  refine k_lt ry ⟨by decide, by decide⟩ (fun _ => ok_some.mpr h) (fun h0 => k_le ry (FRG1 u _) (fun h1 => ok_lt.mpr (ok_some.mpr ?_)) (fun _ => ok_some.mpr h))
  rw [I_sub, wi_e]
  have hr : RG (F u 81 - y.toInt) := ⟨by omega, by omega⟩
  refine INV_tape h (FR.wi FR.rf (by simp)) ?_ (fun j hj => h.1.1.2.1 j hj)
  rw [F_wi hr.1 hr.2, if_pos rfl]
  omega
end
end
