set_option maxRecDepth 100000
def STA (u : MS) : Prop := CST u ∧ WR0 u ∧ WDc u 36 ∧ (∀ j, j < 32 → (0 ≤ A u 40 j ∧ A u 40 j ≤ 4000) ∧ 0 ≤ A u 41 j ∧ A u 41 j ≤ 4000) ∧ (0 ≤ F u 9 ∧ F u 9 ≤ 100) ∧ ALN u ∧ ∀ j, rf (u.1 1964) = some j → 44 ≤ j
section
variable {u v w : MS} {N g b q c n p cc : Nat} {ps : Nat → Nat} {is as : List Nat}
theorem FRc_F (f : FR is [] as [] u w) {k : Nat} (h : k ∉ is) : F w k = F u k := congrArg _ (f.1 k h)
theorem FRc_A (f : FR is [] as [] u w) {k j : Nat} (h : k ∉ as) : A w k j = A u k j := by show (w.2.2.1 k j).toInt = _; rw [f.2.2.1 k h]; rfl
theorem WD_fr (f : FR is [] as [] u w) {v : Nat} (h : WDc u v) (h1 : 20 * v + 2 ∉ is) (h2 : v + 2 ∉ as) : WDc w v := by
  unfold WDc at h ⊢
  rw [FRc_F f h1]
  refine ⟨h.1, h.2.1, h.2.2.1, h.2.2.2.1, fun k hk => ?_⟩
  rw [FRc_A f h2, FRc_A f h2]
  exact h.2.2.2.2 k hk
theorem CST_fr (f : FR is [] as [] u w) (h : CST u) (h1 : 81 ∉ is) (h2 : 182 ∉ is) (h3 : 5 ∉ as) (h4 : 11 ∉ as) : CST w := by
  obtain ⟨c1, c2, c3, c4⟩ := h
  exact ⟨by rw [FRc_F f h1]; exact c1, fun k hk => by rw [f.2.2.1 5 h3]; exact c2 k hk, WD_fr f c3 h2 h4, by rw [FRc_F f h2]; exact c4⟩
theorem WRS_fr (f : FR is [] as [] u w) (h : WRS u) (h1 : 22 ∉ is) (h2 : 242 ∉ is) (h3 : 3 ∉ as) (h4 : 14 ∉ as) : WRS w := by
  obtain ⟨⟨c1, c2⟩, c3, c4⟩ := h
  exact ⟨⟨WD_fr f c1 h1 h3, by rw [FRc_F f h1]; exact c2⟩, WD_fr f c3 h2 h4, by rw [FRc_F f h2]; exact c4⟩
theorem WR0_of (h : WRS u) : WR0 u := by
  obtain ⟨⟨c1, c2⟩, c3, c4⟩ := h
  refine ⟨⟨fun k hk => c1.2.2.2.2 k (by have : (20 * 1 + 2 : Nat) = 22 := rfl; rw [this]; omega), c1.2.2.1, c1.2.2.2.1⟩, fun k hk => c3.2.2.2.2 k (by have : (20 * 12 + 2 : Nat) = 242 := rfl; rw [this]; omega)⟩
theorem TKS_fr (f : FR is [] as [] u w) (h : TKS u c ps) (h1 : ∀ k, k ∈ [81, 85, 22, 242] → k ∉ is) (h2 : ∀ k, k ∈ [5, 6, 7] → k ∉ as) : TKS w c ps := by
  obtain ⟨t1, t2, t3, t4, t5⟩ := h
  refine ⟨⟨by rw [FRc_F f (h1 85 (by simp))]; exact t1.1, t1.2⟩, by rw [FRc_A f (h2 6 (by simp))]; exact t2, t3, by rw [FRc_F f (h1 81 (by simp))]; exact t4, fun t ht => ?_⟩
  obtain ⟨k, h6, h7⟩ := t5 t ht
  exact ⟨k, by rw [FRc_A f (h2 6 (by simp))]; exact h6, TVL_k h7 (FRc_A f (h2 7 (by simp))) (f.2.2.1 5 (h2 5 (by simp))) (by rw [FRc_F f (h1 22 (by simp))]; omega) (by rw [FRc_F f (h1 242 (by simp))]; omega)⟩
theorem STA_fr (h : STA u) (f : FR is [] as [] u w) (hc : CST w) (hw : WR0 w) (h40 : ∀ j, j < 32 → (0 ≤ A w 40 j ∧ A w 40 j ≤ 4000) ∧ 0 ≤ A w 41 j ∧ A w 41 j ≤ 4000) (h1 : ∀ k, k ∈ is → k < 2000 ∧ k ≠ 722 ∧ k ≠ 9 ∧ k ≠ 1964) (h2 : ∀ k, k ∈ as → k < 1900 ∧ k ≠ 38) : STA w := by
  obtain ⟨-, -, s3, -, s5, s6, s7⟩ := h
  refine ⟨hc, hw, WD_fr f s3 (fun z => (h1 _ z).2.1 rfl) (fun z => (h2 _ z).2 rfl), h40, by rw [FRc_F f (fun z => (h1 _ z).2.2.1 rfl)]; exact s5, ALN_k s6 (f.2.2.1 1948 (fun z => by have := (h2 _ z).1; omega)) (fun r hr l => LNB_fc l (fun k _ => f.1 _ (fun z => by have := (h1 _ z).1; unfold pq at this; omega))), fun j hj => s7 j ?_⟩
  rw [← f.1 1964 (fun z => (h1 _ z).2.2.2 rfl)]
  exact hj
theorem read_fin {r : Int32} (h : STA v) (hw : WRS v) (hr : r = 0 → ∃ T, WFT T v ∧ CDT T v (FvW v)) : OK (fun w _ => STA w ∧ ((F w 10 = 0 ∧ NOP w) ∨ ∃ T Fv P, WRD T Fv P 0 w)) (hb_H_read_27 N () v r) := by
  have e45 : ∀ y : Int, (y = 0 ∨ y = 1) → (y = 1 → r = 0) → OK (fun w _ => STA w ∧ ((F w 10 = 0 ∧ NOP w) ∨ ∃ T Fv P, WRD T Fv P 0 w)) (hb_H_read_45 N () (wi v 81 0) r (I y)) := fun y hy h0 => by
    unfold hb_H_read_45
    refine ok_ck.mpr ⟨by rcases hy with rfl | rfl <;> decide, ok_lt.mpr ?_⟩
    rw [wi_e, ok_bnd]
    have yr : RG y := ⟨by omega, by omega⟩
    refine ok_mono (clearAll_new (N := N) (u := wi (wi v 81 0) 10 y)) (fun w _ hw2 => ok_some.mpr ?_)
    obtain ⟨np, fc⟩ := hw2
    have e81 : F (wi (wi v 81 0) 10 y) 81 = 0 := by rw [F_wi yr.1 yr.2, if_neg (by decide), F_wi (by decide) (by decide), if_pos rfl]
    have e10 : F (wi (wi v 81 0) 10 y) 10 = y := by rw [F_wi yr.1 yr.2, if_pos rfl]
    have f1 : FR [81, 10] [] [] [] v (wi (wi v 81 0) 10 y) := FR.wi (FR.wi FR.rf (by simp)) (by simp)
    generalize wi (wi v 81 0) 10 y = z at fc e81 e10 f1
    have i1 : ∀ k, k < 2000 → k ∉ [81, 10, 942, 943, 944, 945, 946, 950, 953, 955, 956] → w.1 k = v.1 k := fun k hk hn => (fc.1 k hk (fun z => hn (by simp at z ⊢; omega))).trans (f1.1 k (fun z => hn (by simp at z ⊢; omega)))
    have a1 : ∀ k, k < 2000 → w.2.2.1 k = v.2.2.1 k := fun k hk => (fc.2.2.1 k hk (by simp)).trans (f1.2.2.1 k (by simp))
    have aA : ∀ k j, k < 2000 → A w k j = A v k j := fun k j hk => by show (w.2.2.1 k j).toInt = _; rw [a1 k hk]; rfl
    have fF : ∀ k, k < 2000 → k ∉ [81, 10, 942, 943, 944, 945, 946, 950, 953, 955, 956] → F w k = F v k := fun k hk hn => congrArg _ (i1 k hk hn)
    have wd : ∀ m, WDc v m → 20 * m + 2 < 2000 → 20 * m + 2 ∉ [81, 10, 942, 943, 944, 945, 946, 950, 953, 955, 956] → WDc w m := fun m hm h1 h2 => by
      unfold WDc at hm ⊢
      rw [fF _ h1 h2]
      refine ⟨hm.1, hm.2.1, hm.2.2.1, hm.2.2.2.1, fun k hk => ?_⟩
      rw [aA _ _ (by omega), aA _ _ (by omega)]
      exact hm.2.2.2.2 k hk
    have w81 : F w 81 = 0 := by rw [fc.Fg (by omega) (by simp)]; exact e81
    have w10 : F w 10 = y := by rw [fc.Fg (by omega) (by simp)]; exact e10
    obtain ⟨s1, s2, s3, s4, s5, s6, s7⟩ := h
    have ws : WRS w := ⟨⟨wd 1 hw.1.1 (by omega) (by simp), by rw [fF 22 (by omega) (by simp)]; exact hw.1.2⟩, wd 12 hw.2.1 (by omega) (by simp), by rw [fF 242 (by omega) (by simp)]; exact hw.2.2⟩
    have al : ALN w := ALN_k s6 (a1 1948 (by omega)) (fun r hr l => LNB_fc l (fun k hk => (fc.2.2.2.2.1 r k (by simp at hk; omega) (by simp)).trans (f1.1 _ (fun z => by simp [pq] at z; omega))))
    refine ⟨⟨⟨by rw [w81]; omega, fun k hk => by rw [a1 5 (by omega)]; exact s1.2.1 k hk, wd 9 s1.2.2.1 (by omega) (by simp), by rw [fF 182 (by omega) (by simp)]; exact s1.2.2.2⟩, WR0_of ws, wd 36 s3 (by omega) (by simp), fun j hj => by rw [aA 40 j (by omega), aA 41 j (by omega)]; exact s4 j hj, by rw [fF 9 (by omega) (by simp)]; exact s5, al, fun j hj => s7 j (by rw [← i1 1964 (by omega) (by simp)]; exact hj)⟩, ?_⟩
    rcases hy with rfl | rfl
    · exact Or.inl ⟨w10, np⟩
    · obtain ⟨T, t1, t2⟩ := hr (h0 rfl)
      have sc : SCQ v w := ⟨fun k hk => i1 k (by simp at hk; omega) (by simp at hk ⊢; omega), fun k hk => a1 k (by simp at hk; omega)⟩
      exact Or.inr ⟨T, FvW v, PT w, WRD_0 np (CTX_of (FvW_ok t2.2.2.1.2 t2.1.2) ws.1.1 ws.1.2) (WFT_s sc t1) (CDT_s sc t2) al⟩
  unfold hb_H_read_27
  refine ok_lt.mpr ?_
  rw [lit0q, wi_e, ← lit0q]
  refine ok_br.mpr ⟨fun z => e45 1 (Or.inr rfl) (fun _ => of_decide_eq_true z), fun _ => e45 0 (Or.inl rfl) (fun z => absurd z (by decide))⟩
theorem read_okc (h : STA u) (hN : 1000000000 ≤ N) : OK (fun w _ => STA w ∧ ((F w 10 = 0 ∧ NOP w) ∨ ∃ T Fv P, WRD T Fv P 0 w)) (hm_H_read N u) := by
  unfold hm_H_read hb_H_read_0
  rw [ok_bnd]
  refine ok_mono (scanAll_ok (N := N) h.1 h.2.1 (by omega)) (fun w9 _ h9 => ?_)
  obtain ⟨f9, c9, r9, c, ps, tk⟩ := h9
  have s9 : STA w9 := STA_fr h f9 c9 (WR0_of r9) (fun j hj => by rw [FRc_A f9 (by simp), FRc_A f9 (by simp)]; exact h.2.2.2.1 j hj) (by simp) (by simp)
  have tkk : TKKc w9 c := ⟨tk.1.2, tk.2.1, fun t ht => by
    obtain ⟨k, k1, k2⟩ := tk.2.2.2.2 t ht
    have := k2.1
    omega⟩
  rw [ok_bnd]
  refine ok_mono (parse_okc (N := N) tkk (by omega)) (fun u12 r12 h12 => ?_)
  obtain ⟨kp, hp⟩ := h12
  have f12 : FR [441, 306, 442, 449, 664, 665, 666, 667] [] [16, 17, 18, 19, 20, 21, 24, 25, 26, 27, 28, 34] [] w9 u12 := FR.tr (FR.wi FR.rf (by simp)) (FR.mo kp (by simp) (by simp) (by simp) (by simp))
  have e441 : F u12 441 = 1 := by
    rw [show F u12 441 = F (wi w9 441 1) 441 from congrArg _ (kp.1 441 (by simp)), F_wi (by decide) (by decide), if_pos rfl]
  have c12 : CST u12 := CST_fr f12 c9 (by simp) (by simp) (by simp) (by simp)
  have r12w : WRS u12 := WRS_fr f12 r9 (by simp) (by simp) (by simp) (by simp)
  have s12 : STA u12 := STA_fr s9 f12 c12 (WR0_of r12w) (fun j hj => by rw [FRc_A f12 (by simp), FRc_A f12 (by simp)]; exact s9.2.2.2.1 j hj) (by simp) (by simp)
  refine ok_br.mpr ⟨fun z => ?_, fun z => read_fin s12 r12w (fun e => absurd e (of_decide_eq_false z))⟩
  obtain ⟨-, g, n, q, hg1, -, psi, h42, h6, fns⟩ := hp (of_decide_eq_true z)
  obtain ⟨-, ⟨-, -⟩, ⟨-, hn⟩, h449, -⟩ := psi
  have tk12 : TKS u12 c ps := TKS_fr f12 tk (by simp) (by simp)
  have c4 := tk12.1.2
  unfold hm_Cm_compile hb_Cm_compile_0
  rw [ok_bnd]
  refine ok_lt.mpr (ok_lt.mpr (ok_lt.mpr (ok_lt.mpr ?_)))
  rw [lit0q, wi_e, wi_e, wi_e, show (1000000000 : Int32) = I 1000000000 from rfl, wi_e]
  have fs : FR [714, 711, 712, 713] [] [] [] u12 (wi (wi (wi (wi u12 714 1000000000) 711 0) 712 0) 713 0) := FR.wi (FR.wi (FR.wi (FR.wi FR.rf (by simp)) (by simp)) (by simp)) (by simp)
  have d14 : F (wi (wi (wi (wi u12 714 1000000000) 711 0) 712 0) 713 0) 714 = 1000000000 := by rw [F_wi (by decide) (by decide), if_neg (by decide), F_wi (by decide) (by decide), if_neg (by decide), F_wi (by decide) (by decide), if_neg (by decide), F_wi (by decide) (by decide), if_pos rfl]
  have d11 : F (wi (wi (wi (wi u12 714 1000000000) 711 0) 712 0) 713 0) 711 = 0 := by rw [F_wi (by decide) (by decide), if_neg (by decide), F_wi (by decide) (by decide), if_neg (by decide), F_wi (by decide) (by decide), if_pos rfl]
  have d12 : F (wi (wi (wi (wi u12 714 1000000000) 711 0) 712 0) 713 0) 712 = 0 := by rw [F_wi (by decide) (by decide), if_neg (by decide), F_wi (by decide) (by decide), if_pos rfl]
  have d13 : F (wi (wi (wi (wi u12 714 1000000000) 711 0) 712 0) 713 0) 713 = 0 := by rw [F_wi (by decide) (by decide), if_pos rfl]
  generalize wi (wi (wi (wi u12 714 1000000000) 711 0) 712 0) 713 0 = s at fs d14 d11 d12 d13
  have cs : CST s := CST_fr fs c12 (by simp) (by simp) (by simp) (by simp)
  have rs : WRS s := WRS_fr fs r12w (by simp) (by simp) (by simp) (by simp)
  have ts : TKS s c ps := TKS_fr fs tk12 (by simp) (by simp)
  have w36 : WDc s 36 := WD_fr fs s12.2.2.1 (by simp) (by simp)
  have sA : ∀ r j, A s r j = A u12 r j := fun r j => FRc_A fs (by simp)
  have s441 : F s 441 = 1 := by rw [FRc_F fs (by simp)]; exact e441
  have s42 : F s 442 = ((g : Nat) : Int) := by rw [FRc_F fs (by simp)]; exact h42
  have fn2 : FNSc s g c n q := FNS_k (fs.2.2.1 6 (by simp)) (fs.2.2.1 7 (by simp)) (fun k _ => ⟨sA _ _, sA _ _, sA _ _, sA _ _, sA _ _, sA _ _⟩) (fun f _ => ⟨sA _ _, sA _ _, sA _ _⟩) fns
  obtain ⟨B, b0, b1, b2⟩ := FNS_B fn2
  have xs : CMX s c ps (B g).2.2 := ⟨⟨cs, ts⟩, ⟨w36, rs.1.1⟩, by rw [s42]; omega, by rw [FRc_F fs (by simp), h449, b1]⟩
  have cw : CW0 s := ⟨by rw [s441]; omega, by rw [d14]; omega, Or.inl d11, ⟨d12, d13⟩, fun j hj => by rw [sA, sA]; exact s12.2.2.2.1 j hj⟩
  have sz : szc s = 1 := by show (F s 441).toNat = 1; rw [s441]; rfl
  rw [← lit0q, lit0q]
  refine ok_mono (compileX_ok (N := N) hN xs (by omega) s42 b0 b2 (by rw [b1]; exact Nat.le_refl _) (by rw [b1]; show n ≤ 8000; omega) N 0 s (by omega) (by omega) FR.rf cw (fun _ => by rw [s441, b0]; unfold WBc; omega) (fun _ => by rw [sz, b0]; exact ALP_0)) (fun w r cp => ?_)
  obtain ⟨k2, cw2, hr⟩ := cp
  have kf : FR [441, 706, 709, 711, 712, 713, 714] [] [23, 29, 30, 31, 32, 39, 40, 41, 42] [] u12 w := FR.tr (FR.mo fs (by simp) (by simp) (by simp) (by simp)) k2
  have cwt : CST w := CST_fr kf c12 (by simp) (by simp) (by simp) (by simp)
  have rw2 : WRS w := WRS_fr kf r12w (by simp) (by simp) (by simp) (by simp)
  refine read_fin (STA_fr s12 kf cwt (WR0_of rw2) cw2.2.2.2.2 (by simp) (by simp)) rw2 (fun e => ?_)
  obtain ⟨-, -, b, q2, al, hb, h9, hq⟩ := hr e
  exact types_of al hb (by rw [k2.F (by simp)]; exact s42) (by omega) h9 hq
end
