set_option maxRecDepth 100000
section
variable {u12 m w x v0 : MS} {N g c n q TN SN T : Nat} {ps bw : Nat → Nat} {r : Int32}
theorem cmpC_ok (hN : 1000000000 ≤ N) (s12 : STA u12) (c12 : CST u12) (r12w : WRS u12) (tk12 : TKS u12 c ps) (e441 : F u12 441 = 1) (hp : PFI v0 u12 c g c n q) : OK (fun w r => r = 0 → F w 442 ≤ 60 ∧ F w 714 = 1000000000 ∧ F w 711 = 0 ∧ F w 22 ≤ 200 ∧ F w 85 ≤ 1500 ∧ F w 441 < 24000) (hm_Cm_compile N u12) := by
  obtain ⟨-, psi, h42, h6, fns⟩ := hp
  obtain ⟨-, ⟨-, -⟩, ⟨-, hn⟩, h449, -⟩ := psi
  have c4 := tk12.1.2
  unfold hm_Cm_compile hb_Cm_compile_0
  refine ok_lt.mpr (ok_lt.mpr (ok_lt.mpr (ok_lt.mpr ?_)))
  rw [lit0q, wi_e, wi_e, wi_e, show (1000000000 : Int32) = I 1000000000 from rfl, wi_e]
  have fs : FR [714, 711, 712, 713] [] [] [] u12 (wi (wi (wi (wi u12 714 1000000000) 711 0) 712 0) 713 0) := FR.wi (FR.wi (FR.wi (FR.wi FR.rf (by simp)) (by simp)) (by simp)) (by simp)
  have d14 : F (wi (wi (wi (wi u12 714 1000000000) 711 0) 712 0) 713 0) 714 = 1000000000 := by rw [F_wi (by decide) (by decide), if_neg (by decide), F_wi (by decide) (by decide), if_neg (by decide), F_wi (by decide) (by decide), if_neg (by decide), F_wi (by decide) (by decide), if_pos rfl]
  have d11 : F (wi (wi (wi (wi u12 714 1000000000) 711 0) 712 0) 713 0) 711 = 0 := by rw [F_wi (by decide) (by decide), if_neg (by decide), F_wi (by decide) (by decide), if_neg (by decide), F_wi (by decide) (by decide), if_pos rfl]
  have d12 : F (wi (wi (wi (wi u12 714 1000000000) 711 0) 712 0) 713 0) 712 = 0 := by rw [F_wi (by decide) (by decide), if_neg (by decide), F_wi (by decide) (by decide), if_pos rfl]
  have d13 : F (wi (wi (wi (wi u12 714 1000000000) 711 0) 712 0) 713 0) 713 = 0 := by rw [F_wi (by decide) (by decide), if_pos rfl]
  generalize wi (wi (wi (wi u12 714 1000000000) 711 0) 712 0) 713 0 = s at fs d14 d11 d12 d13
  have cs : CST s := CST_fr fs c12 (by simp) (by simp) (by simp) (by simp)
  have rs : WRS s := WRS_fr fs r12w (by simp) (by simp) (by simp) (by simp)
  have ts : TKS s c ps := TKS_fr fs tk12 (by simp) (by simp)
  have w36 : WDc s 36 := WD_fr fs s12.2.2.1 (by simp) (by simp)
  have sA : ∀ r j, A s r j = A u12 r j := fun r j => FRc_A fs (by simp)
  have s441 : F s 441 = 1 := by rw [FRc_F fs (by simp)]; exact e441
  have s42 : F s 442 = ((g : Nat) : Int) := by rw [FRc_F fs (by simp)]; exact h42
  have fn2 : FNSc s g c n q := FNS_k (fs.2.2.1 6 (by simp)) (fs.2.2.1 7 (by simp)) (fun k _ => ⟨sA _ _, sA _ _, sA _ _, sA _ _, sA _ _, sA _ _⟩) (fun f _ => ⟨sA _ _, sA _ _, sA _ _⟩) fns
  obtain ⟨B, b0, b1, b2⟩ := FNS_B fn2
  have xs : CMX s c ps (B g).2.2 := ⟨⟨cs, ts⟩, ⟨w36, rs.1.1⟩, by rw [s42]; omega, by rw [FRc_F fs (by simp), h449, b1]⟩
  have cw : CW0 s := ⟨by rw [s441]; omega, by rw [d14]; omega, Or.inl d11, ⟨d12, d13⟩, fun j hj => by rw [sA, sA]; exact s12.2.2.2.1 j hj⟩
  have sz : szc s = 1 := by show (F s 441).toNat = 1; rw [s441]; rfl
  rw [← lit0q, lit0q]
  refine ok_mono (compileX_ok (N := N) hN xs (by omega) s42 b0 b2 (by rw [b1]; exact Nat.le_refl _) (by rw [b1]; show n ≤ 8000; omega) N 0 s (by omega) (by omega) FR.rf cw (fun _ => by rw [s441, b0]; unfold WBc; omega) (fun _ => by rw [sz, b0]; exact ALP_0)) (fun w r cp e => ?_)
  obtain ⟨k2, cw2, hr⟩ := cp
  obtain ⟨a1, a2, -⟩ := hr e
  exact ⟨a1, a2⟩
theorem CAC_of (h : r = 0 → F m 442 ≤ 60 ∧ F m 714 = 1000000000 ∧ F m 711 = 0 ∧ F m 22 ≤ 200 ∧ F m 85 ≤ 1500 ∧ F m 441 < 24000) : CAC m r := fun z => by
  obtain ⟨a1, a2, a3, a4, a5, a6⟩ := h z
  have r42 := F_r m 442
  have r22 := F_r m 22
  have r85 := F_r m 85
  have r41 := F_r m 441
  refine ⟨I_F' a2, I_F' a3, ?_, ?_, ?_, ?_⟩
  · rw [I_F (k := 442)]
    exact fun q => absurd ((I_lt (x := (60 : Int)) (by omega) (by omega) r42.1 r42.2).mp q) (by omega)
  · rw [I_F (k := 22)]
    exact fun q => absurd ((I_lt (x := (200 : Int)) (by omega) (by omega) r22.1 r22.2).mp q) (by omega)
  · rw [I_F (k := 85)]
    exact (I_le (y := (1500 : Int)) r85.1 r85.2 (by omega) (by omega)).mpr a5
  · rw [I_F (k := 441)]
    exact (I_lt (y := (24000 : Int)) r41.1 r41.2 (by omega) (by omega)).mpr a6
theorem rd27_p : PK (fun v s => s = r ∧ v.1 10 = (if r = 0 then 1 else 0) ∧ v.1 81 = 0 ∧ (∀ k, k < 860 → k ≠ 10 → k ≠ 81 → v.1 k = m.1 k) ∧ ∀ k, k < 44 → v.2.2.1 k = m.2.2.1 k) (hb_H_read_27 N () m r) := by
  unfold hb_H_read_27
  have e45 : ∀ t : Int32, t = (if r = 0 then 1 else 0) → PK (fun v s => s = r ∧ v.1 10 = (if r = 0 then 1 else 0) ∧ v.1 81 = 0 ∧ (∀ k, k < 860 → k ≠ 10 → k ≠ 81 → v.1 k = m.1 k) ∧ ∀ k, k < 44 → v.2.2.1 k = m.2.2.1 k) (hb_H_read_45 N () (upI m 81 0) r t) := fun t ht => by
    unfold hb_H_read_45
    refine pk_ck (fun _ => pk_lt (pk_bnd (pk_mo (pk_ok (clearAll_new (N := N) (u := upI (upI m 81 0) 10 t))) (fun v _ hv => pk_some ⟨rfl, ?_, ?_, fun k h1 h2 h3 => ?_, fun k hk => ?_⟩))))
    · rw [hv.2.1 10 (by omega) (by simp), upI_at]; exact ht
    · rw [hv.2.1 81 (by omega) (by simp), upI_ne (by decide), upI_at]
    · rw [hv.2.1 k (by omega) (by simp; omega), upI_ne h2, upI_ne h3]
    · rw [hv.2.2.2.1 k (by omega) (by simp)]; rfl
  refine pk_lt (pk_br (fun z => e45 1 ?_) (fun z => e45 0 ?_))
  · rw [if_pos (of_decide_eq_true z)]
  · rw [if_neg (of_decide_eq_false z)]
theorem prog_bad (hN : 20000 ≤ N) (tk : TKW w TN SN bw) (hT : T < TN) (h7 : A w 6 T = 7) (h67 : F w 67 = 0) (tb : TBL w) (at' : ATM w) (h0 : F w 75 = 0 ∧ F w 77 = 0 ∧ F w 83 = 0) (h71 : 0 ≤ F w 71 ∧ F w 71 < 4002) (k44 : K44 w) (k49 : K49 w) : OK (fun x _ => PRO w x ∧ F x 67 ≠ 0) (fm_M_program N w) := by
  obtain ⟨t1, t2, t3, t4, t5⟩ := tk
  have mono : ∀ d j, j + d = TN → bw j ≤ bw TN := fun d => by
    induction d with
    | zero => intro j hj; rw [show j = TN by omega]; exact Nat.le_refl _
    | succ d ih => intro j hj; have := (t4 j (by omega)).1; have := ih (j + 1) (by omega); omega
  have tkT : TKW w T SN bw := ⟨⟨by omega, Or.inr h7⟩, fun i hi => t2 i (by omega), t3, fun i hi => t4 i (by omega), by have := mono (TN - T) T (by omega); omega⟩
  refine ok_mono (program_ok hN (by omega) (fun _ => tkT) tb at' h0 h71 k44 k49) (fun x _ hx => ?_)
  rcases hx with ⟨G, hG, ⟨f1, f2, ⟨p, n, q, c, f, h, f3, f4, f5⟩, f6, f7⟩, f8⟩ | hx
  · exfalso
    have e69 : F x 69 = p := f3.1.1
    have p0 : 0 ≤ p := f3.2.2.2.2.2.1.1
    have e6 : A x 6 p.toNat = 0 := by
      have : (x.1 69).toNatClampNeg = p.toNat := by rw [tn_F, e69]
      rw [this] at f8
      show (x.2.2.1 6 p.toNat).toInt = 0
      rw [f8]; rfl
    have fa : A x 6 p.toNat = A w 6 p.toNat := f1.A (by decide)
    rw [fa] at e6
    by_cases z : p.toNat < T
    · have := (t2 p.toNat (by omega)).1
      omega
    · rw [show p.toNat = T by omega] at e6
      omega
  · exact ⟨hx.1, hx.2.1⟩
end
