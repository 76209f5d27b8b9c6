/-! the writer stays well below its room -/
set_option maxRecDepth 100000
/-- what the writer leaves -/
def CPRw (u w : MS) (r : Int32) : Prop := KM2 u w ∧ CW0 w ∧ (r = 0 → F w 441 ≤ 23990)
section
variable {u v w u12 m x v0 : MS} {N lv t hi lo o q r s c h g d a b k n f Q z la cl cc p q1 b1 TN SN T : Nat} {ps bw : Nat → Nat}
theorem compileW_ok {B : Nat → Nat × Nat × Nat} (hN : 1000000000 ≤ N) (hx : CMX u cc ps (B g).2.2) (hg : g ≤ 666) (h42 : F u 442 = ((g : Nat) : Int)) (b0 : B 0 = (0, 0, 0)) (hB : ∀ i, i < g → FNst u i (B i) (B (i + 1))) (hp : (B g).1 ≤ cc) (hn : (B g).2.1 ≤ 8000) : ∀ (M i : Nat) (v : MS), i ≤ g → g + 1 ≤ M + i → KM2 u v → CW0 v → (F v 711 = 0 → F v 441 ≤ 1 + WBc ps 0 (B i).1) → (GDc v (B i).1 (B i).2.2 → ALP v i (szc v) (B i).2.2) → OK (fun w r => CPRw u w r) (hg_Cm_compile N M v (I ((i : Nat) : Int))) := by
  intro M
  induction M with
  | zero => intro i v h1 h2; omega
  | succ M ih =>
    intro i v hi hM km cw hW hA
    have c4 := hx.1.2.1.2
    have mg := B_mono hB i (g - i) (by omega)
    have m0 := B_mono hB 0 g (by omega)
    rw [show i + (g - i) = g by omega] at mg
    rw [Nat.zero_add, b0] at m0
    have m5 : 5 * (B g).2.2 ≤ (B g).1 := by
      have h5 := m0.2.2.2
      simp only [Nat.mul_zero, Nat.add_zero, Nat.zero_add] at h5
      exact h5
    have v42 : F v 442 = ((g : Nat) : Int) := by rw [km.F (by simp)]; exact h42
    show OK _ (hb_Cm_compile_23 N (hg_Cm_compile N M) v (I ((i : Nat) : Int)))
    unfold hb_Cm_compile_23
    rw [I_F (k := 442), v42]
    refine k_le ⟨by omega, by omega⟩ ⟨by omega, by omega⟩ (fun z => ?_) (fun z => ?_)
    · have ei : i = g := by omega
      subst ei
      have e8 : ∀ {t : Int32}, OK (fun w r => CPRw u w r) (hb_Cm_compile_136 N (hg_Cm_compile N M) v) := ok_some.mpr ⟨km, cw, fun z => absurd z (by decide)⟩
      have e119 : OK (fun w r => CPRw u w r) (hb_Cm_compile_119 N (hg_Cm_compile N M) v) := by
        unfold hb_Cm_compile_119 hb_Cm_compile_124
        exact ok_br.mpr ⟨fun z => absurd z (by decide), fun _ => e8 (t := 0)⟩
      refine k_F (y := 1000000000) rfl ⟨by decide, by decide⟩ (fun z14 => ?_) (fun z14 => ?_)
      · rw [show (60 : Int32) = I 60 from rfl, I_F (k := 22), show (200 : Int32) = I 200 from rfl, I_F (k := 85), show (1500 : Int32) = I 1500 from rfl]
        refine k_lt ⟨by decide, by decide⟩ ⟨by omega, by omega⟩ (fun _ => e119) (fun h60 => k_lt ⟨by decide, by decide⟩ (FRG1 v _) (fun _ => e119) (fun h22 => k_le (FRG1 v _) ⟨by decide, by decide⟩ (fun h85 => ?_) (fun _ => e119)))
        unfold hb_Cm_compile_124
        refine ok_br.mpr ⟨fun _ => k_F (y := 0) rfl ⟨by decide, by decide⟩ (fun z11 => ?_) (fun _ => e8 (t := 0)), fun z => absurd z (by decide)⟩
        have h85' : F v 85 ≤ 1500 := h85
        have c85 := hx.1.2.1.1
        rw [km.F (k := 85) (by simp), c85] at h85'
        have wq := hW z11
        have ps1 := ps_le hx.1 (a := 0) (b := (B i).1) (by omega) hp
        have ps2 := ps_le hx.1 (a := (B i).1) (b := cc) hp (Nat.le_refl _)
        have ps3 := hx.1.2.2.2.1
        have w24 : F v 441 ≤ 23990 := by
          unfold WBc at wq
          omega
        exact ok_some.mpr ⟨km, cw, fun _ => w24⟩
      · have c14 := cw.2.1
        rw [I_F (k := 714), div16 (by omega) (by omega)]
        refine e_in ⟨by omega, by omega⟩ (by decide) (ok_some.mpr ⟨km, cw, fun z => ?_⟩)
        exfalso
        rw [show (16 : Int32) = I 16 from rfl, I_mul, I_sub, I_A (k := 8), I_mul, I_add] at z
        refine I_nz ?_ z
        omega
    · obtain ⟨kc, k, first, f1, f2, f3, f4, f5⟩ := hB i (by omega)
      have mi := FNst_hd (hB i (by omega))
      have mg2 := B_mono hB (i + 1) (g - (i + 1)) (by omega)
      rw [show i + 1 + (g - (i + 1)) = g by omega] at mg2
      have xv : CMX v cc ps (B g).2.2 := CMX_k2 hx km
      rw [ok_bnd]
      refine ok_mono (oneFn_ok (N := N) (k := k) hN cw xv (by omega) (RW_k (CLS_k u v) CLS_bd f2 (KN_m2 km)) (by rw [km.A (by simp)]; exact f3) (by rw [km.A (by simp)]; exact f4) f5 f1 (by omega) (by omega) (by omega)) (fun w _ q => ?_)
      obtain ⟨q1, q2, ⟨q3, q4, q5⟩, q6, q7, q8⟩ := q
      rw [lit1, I_add, show ((i : Nat) : Int) + 1 = ((i + 1 : Nat) : Int) by omega]
      refine ih (i + 1) w (by omega) (by omega) (KM2.tr km q1) q2 (fun z => ?_) (fun gd => ?_)
      · have a1 := q7 z
        have a2 := hW (q5 z)
        have wb := WB_2 hx.1 (lo := 0) (m := (B i).1) (lo2 := (B i).1) (hi := (B (i + 1)).1) (by omega) (by omega) (by omega) (by omega)
        omega
      · obtain ⟨o1, e29, sl, sg⟩ := q8 gd
        have c14 := cw.2.1
        have av := hA ⟨by have := gd.1; omega, q5 gd.2.1, by have := gd.2.2.1; omega, by have := gd.2.2.2.1; omega, by have := gd.2.2.2.2; omega⟩
        have cvr := cw.1
        have sv : ((szc v : Nat) : Int) ≤ F v 441 := by show (((F v 441).toNat : Nat) : Int) ≤ _; omega
        have s1 : 1 ≤ szc v := by show 1 ≤ (F v 441).toNat; omega
        exact ALP_s av q1 sv o1 q6 sg e29 (by rw [q1.A (by simp), km.A (by simp)]; exact f4) sl s1
theorem cmpW_ok (hN : 1000000000 ≤ N) (s12 : STA u12) (c12 : CST u12) (r12w : WRS u12) (tk12 : TKS u12 c ps) (e441 : F u12 441 = 1) (hp : PFI v0 u12 c g c n q) : OK (fun w r => r = 0 → F w 441 ≤ 23990) (hm_Cm_compile N u12) := by
  obtain ⟨-, psi, h42, h6, fns⟩ := hp
  obtain ⟨-, ⟨-, -⟩, ⟨-, hn⟩, h449, -⟩ := psi
  have c4 := tk12.1.2
  unfold hm_Cm_compile hb_Cm_compile_0
  refine ok_lt.mpr (ok_lt.mpr (ok_lt.mpr (ok_lt.mpr ?_)))
  rw [lit0, wi_e, wi_e, wi_e, show (1000000000 : Int32) = I 1000000000 from rfl, wi_e]
  have fs : FR [714, 711, 712, 713] [] [] [] u12 (wi (wi (wi (wi u12 714 1000000000) 711 0) 712 0) 713 0) := FR.wi (FR.wi (FR.wi (FR.wi FR.rf (by simp)) (by simp)) (by simp)) (by simp)
  have d14 : F (wi (wi (wi (wi u12 714 1000000000) 711 0) 712 0) 713 0) 714 = 1000000000 := by rw [F_wi (by decide) (by decide), if_neg (by decide), F_wi (by decide) (by decide), if_neg (by decide), F_wi (by decide) (by decide), if_neg (by decide), F_wi (by decide) (by decide), if_pos rfl]
  have d11 : F (wi (wi (wi (wi u12 714 1000000000) 711 0) 712 0) 713 0) 711 = 0 := by rw [F_wi (by decide) (by decide), if_neg (by decide), F_wi (by decide) (by decide), if_neg (by decide), F_wi (by decide) (by decide), if_pos rfl]
  have d12 : F (wi (wi (wi (wi u12 714 1000000000) 711 0) 712 0) 713 0) 712 = 0 := by rw [F_wi (by decide) (by decide), if_neg (by decide), F_wi (by decide) (by decide), if_pos rfl]
  have d13 : F (wi (wi (wi (wi u12 714 1000000000) 711 0) 712 0) 713 0) 713 = 0 := by rw [F_wi (by decide) (by decide), if_pos rfl]
  generalize wi (wi (wi (wi u12 714 1000000000) 711 0) 712 0) 713 0 = s at fs d14 d11 d12 d13
  have cs : CST s := CST_fr fs c12 (by simp) (by simp) (by simp) (by simp)
  have rs : WRS s := WRS_fr fs r12w (by simp) (by simp) (by simp) (by simp)
  have ts : TKS s c ps := TKS_fr fs tk12 (by simp) (by simp)
  have w36 : WDc s 36 := WD_fr fs s12.2.2.1 (by simp) (by simp)
  have sA : ∀ r j, A s r j = A u12 r j := fun r j => FRc_A fs (by simp)
  have s441 : F s 441 = 1 := by rw [FRc_F fs (by simp)]; exact e441
  have s42 : F s 442 = ((g : Nat) : Int) := by rw [FRc_F fs (by simp)]; exact h42
  have fn2 : FNSc s g c n q := FNS_k (fs.2.2.1 6 (by simp)) (fs.2.2.1 7 (by simp)) (fun k _ => ⟨sA _ _, sA _ _, sA _ _, sA _ _, sA _ _, sA _ _⟩) (fun f _ => ⟨sA _ _, sA _ _, sA _ _⟩) fns
  obtain ⟨B, b0, b1, b2⟩ := FNS_B fn2
  have xs : CMX s c ps (B g).2.2 := ⟨⟨cs, ts⟩, ⟨w36, rs.1.1⟩, by rw [s42]; omega, by rw [FRc_F fs (by simp), h449, b1]⟩
  have cw : CW0 s := ⟨by rw [s441]; omega, by rw [d14]; omega, Or.inl d11, ⟨d12, d13⟩, fun j hj => by rw [sA, sA]; exact s12.2.2.2.1 j hj⟩
  have sz : szc s = 1 := by show (F s 441).toNat = 1; rw [s441]; rfl
  rw [← lit0, lit0]
  refine ok_mono (compileW_ok (N := N) hN xs (by omega) s42 b0 b2 (by rw [b1]; exact Nat.le_refl _) (by rw [b1]; show n ≤ 8000; omega) N 0 s (by omega) (by omega) FR.rf cw (fun _ => by rw [s441, b0]; unfold WBc; omega) (fun _ => by rw [sz, b0]; exact ALP_0)) (fun w r cp e => ?_)
  exact cp.2.2 e
/-- compile() without faults -/
theorem jm_of (hN : 1000000000 ≤ N) {m : MS} (ca : PK (fun v r => CAC v r) (hm_Cm_compile N u)) (cw : PK (fun v r => r = 0 → F v 441 ≤ 23990) (hm_Cm_compile N u)) (e : hm_Cm_compile N u = some (m, 0)) : jm_Cm_compile N u = some (m, 0) := by
  obtain ⟨c1, c2, -⟩ := ca m 0 e rfl
  have c3 := cw m 0 e rfl
  refine yj_compile e ⟨?_, c2, ?_⟩
  · rw [c1]; decide
  · have := F_r m 441
    rw [I_F (k := 441)]
    exact (I_le (x := F m 441) (y := (23990 : Int)) (by omega) (by omega) (by omega) (by omega)).mpr c3
end
