set_option maxRecDepth 100000
section
variable {u v w : MS} {N lv t hi lo o q r s c h m g x d a b k n f Q z la cl : Nat} {ps : Nat → Nat} {S : SF_Cm_fun} {H : List (Nat × Tyc)} {oo : Option Tyc}
theorem fun_mid {x0 x1 x2 x3 x4 : MS} (cu : CVI u lv) (km : KMF u x0) (f4 : F u 441 ≤ F x0 441) (fx : F x0 706 = F u 706 ∧ F x0 714 = F u 714 ∧ F x0 711 = F u 711 ∧ F x0 713 = F u 713) (ax : ∀ j, j ≠ lv + 1 → A x0 40 j = A u 40 j ∧ A x0 41 j = A u 41 j) (p1 : KMc x0 x1 (lv + 1)) (h6 : F x1 706 = F x0 706) (e2 : EMc x1 x2 [36]) (h3 : x3 = wi x2 709 ((lv : Nat) : Int)) (h4 : x4 = wi x3 712 (F u 712)) : KMc u x4 lv ∧ F x4 441 = F x2 441 ∧ (∀ r j, A x4 r j = A x2 r j) ∧ F x4 706 = F u 706 ∧ F x4 714 = F x2 714 ∧ F x4 711 = F x2 711 := by
  obtain ⟨g1, g2, g3, g4, g5, g6, g7, g8, g9⟩ := cu
  have k2 := EMc.km p1.2.1 e2
  have k12 := KMc.tr p1 k2
  obtain ⟨m1, c2, m3, m4, m5, m6, m7, m8, m9⟩ := k12
  obtain ⟨d1, d2, d3, d4, d5, d6, d7, d8, d9⟩ := c2
  have rl : RG ((lv : Nat) : Int) := ⟨by omega, by omega⟩
  have r12 : RG (F u 712) := FRG1 u 712
  have e26 : F x2 706 = F u 706 := ((congrArg _ (e2.1.1 706 (by simp)) : F x2 706 = F x1 706).trans h6).trans fx.1
  have xF : ∀ j, j ≠ 709 → j ≠ 712 → F x4 j = F x2 j := fun j h9 h12 => by rw [h4, F_wi r12.1 r12.2, if_neg h12, h3, F_wi rl.1 rl.2, if_neg h9]
  have x9 : F x4 709 = ((lv : Nat) : Int) := by rw [h4, F_wi r12.1 r12.2, if_neg (show ¬ (709 : Nat) = 712 by decide), h3, F_wi rl.1 rl.2, if_pos rfl]
  have x12 : F x4 712 = F u 712 := by rw [h4, F_wi r12.1 r12.2, if_pos rfl]
  have xA : ∀ r j, A x4 r j = A x2 r j := fun r j => by rw [h4, A_wi, h3, A_wi]
  have x13 : F x4 713 = F u 713 := by rw [xF 713 (by decide) (by decide), m6.2, fx.2.2.2]
  have km4 : KMF u x4 := by
    rw [h4, h3]
    exact FR.wi (FR.wi (FR.tr km m1) (by simp)) (by simp)
  have a40 : ∀ j, j ≤ lv → A x4 40 j = A u 40 j := fun j hj => by rw [xA, m7 j (by omega), (ax j (by omega)).1]
  have a41 : ∀ j, j ≤ lv → A x4 41 j = A u 41 j := fun j hj => by rw [xA, m8 j (by omega), (ax j (by omega)).2]
  have e6 : F x4 706 = F u 706 := by rw [xF 706 (by decide) (by decide)]; exact e26
  refine ⟨⟨km4, ⟨by rw [xF 441 (by decide) (by decide)]; exact d1, by rw [e6]; exact g2, ⟨x9, g3.2⟩, by rw [x12, x13]; exact g4, by rw [xF 714 (by decide) (by decide)]; exact d5, by rw [xF 711 (by decide) (by decide)]; exact d6, fun j hj => by rw [xA, xA]; exact d7 j hj, by rw [e6, a40 lv (Nat.le_refl _)]; exact g8, by rw [e6, a40 lv (Nat.le_refl _), a41 lv (Nat.le_refl _)]; exact g9⟩, by rw [xF 441 (by decide) (by decide)]; omega, by rw [xF 714 (by decide) (by decide), ← fx.2.1]; exact m4, fun z => by rw [xF 711 (by decide) (by decide)] at z; rw [← fx.2.2.1]; exact m5 z, ⟨x12, x13⟩, a40, fun j hj => a41 j (by omega), by rw [a41 lv (Nat.le_refl _)]; exact Int.le_refl _⟩, xF 441 (by decide) (by decide), xA, e6, xF 714 (by decide) (by decide), xF 711 (by decide) (by decide)⟩
theorem funC_ok (hC : ClS N S o) (hN : 1000000000 ≤ N) {S2 : SF_Cm_fun} (h2 : S2.1 = hm_Cm_fun N S) : FuS N S2 o cl := by
  intro f u lv c Q ps n lo hi a b q r hf hu h12 hX e16 hb hh hQ
  rw [h2]
  cases f with
  | zero => exact hX.elim
  | succ f =>
  obtain ⟨hd, htk, ho, hX⟩ := hX
  unfold HDc at hd
  have hcs := CMP_c hu
  have cu := hu.1
  obtain ⟨k, m, ph, c1, e17, e18, e19, e20, hk, hqr, hP, hcn⟩ : ∃ k m ph c : Nat, A u 17 n = ((lo : Nat) : Int) ∧ A u 18 n = (if q < 400 then ((q : Nat) : Int) else 0) ∧ A u 19 n = ((m : Nat) : Int) ∧ A u 20 n = ((hi - 1 : Nat) : Int) ∧ k ≤ 6 ∧ q + 1 ≤ r ∧ PRTc u (PAc u f) (XPc u f (o + 2) 3) (XPc u f (o + 1) 3) k m (lo + 2) ph (ph + 1) (hi - 1) a c (q + 1) r ∧ c < n := by
    rcases hX with ⟨⟨l16, l6, -⟩, -⟩ | ⟨e, -⟩ | ⟨e, -⟩ | ⟨e, -⟩ | ⟨e, -⟩ | ⟨e, -⟩ | ⟨e, -⟩ | ⟨e, -⟩ | ⟨e, hx⟩ | ⟨e, -⟩ | ⟨e, -⟩ | ⟨e, -⟩ | ⟨e, -⟩ | ⟨e, -⟩ | ⟨e, -⟩ | ⟨e, -⟩ | ⟨e, -⟩
    all_goals first | exact hx | (exfalso; omega)
  obtain ⟨hm, mp, cp, em18, hor, hge, hlo2⟩ : (a < m ∧ m ≤ c1) ∧ ∃ mp cp : Nat, A u 18 m = ((mp : Nat) : Int) ∧ ORc u 1 (PAc u f) k mp (lo + 2) ph a cp (q + 1) (q + 1) ∧ cp ≤ c1 ∧ ph + 2 ≤ hi - 1 := by
    obtain ⟨hm, -, -, mp, cp, g, m2, c2, s, kb, mb, c3, h18, h19, h20, hc⟩ := hP
    have gb := (RW_hd (XP_bd f (o + 2) 3) h20.2).1
    unfold HDc at gb
    have gp := OR_hd (PA_bd f) h18.2
    rcases h19.2 with ⟨z1, z2, z3, z4⟩ | ⟨z1, kg, z2⟩
    · exact ⟨hm, mp, cp, h18.1, h18.2, by omega, by omega⟩
    · have gr := (RW_hd (XP_bd f (o + 1) 3) z2).1
      unfold HDc at gr
      exact ⟨hm, mp, cp, h18.1, h18.2, by omega, by omega⟩
  obtain ⟨P, hPe, hP4, hPq⟩ : ∃ P : Nat, A u 18 n = ((P : Nat) : Int) ∧ P < 400 ∧ (q < 400 → P = q) := by
    by_cases z : q < 400
    · exact ⟨q, by rw [e18, if_pos z], z, fun _ => rfl⟩
    · exact ⟨0, by rw [e18, if_neg z]; rfl, by omega, fun y => absurd y z⟩
  have gp := OR_hd (PA_bd f) hor
  have hlv := hu.2.2.2.1
  have i1 : inb (I ((n : Nat) : Int)) 8016 = true := (I_inb (by omega) (by omega)).mpr ⟨by omega, by omega⟩
  have im : inb (I ((m : Nat) : Int)) 8016 = true := (I_inb (by omega) (by omega)).mpr ⟨by omega, by omega⟩
  have iP : inb (I ((P : Nat) : Int)) 400 = true := (I_inb (by omega) (by omega)).mpr ⟨by omega, by omega⟩
  have iL : inb (I ((lo : Nat) : Int)) 4002 = true := (I_inb (by omega) (by omega)).mpr ⟨by omega, by omega⟩
  have i32 : inb (I ((lv + 1 : Nat) : Int)) 32 = true := (I_inb (by omega) (by omega)).mpr ⟨by omega, by omega⟩
  unfold hm_Cm_fun hb_Cm_fun_0
  rw [i1, ck_t, ck_t, tnI (n := n) rfl (by omega), I_A' e19, im, ck_t, tnI (n := m) rfl (by omega), I_A' em18, I_A' hPe, len_ok (PA_bd f) (by omega) (by omega) hor, bnd_so, iP, tnI (n := P) rfl (by omega)]
  refine ok_lt.mpr ?_
  have cv0 : CVI (wi u 712 0) lv := CVI_flag (Or.inl rfl) cu (Or.inl rfl)
  refine put_1 (u := wi u 712 0) (x := 18) cv0.1 ⟨by decide, by decide⟩ (fun w1 e0 => hook_B (x := 0) cv0.1.1 e0 ⟨by decide, by decide⟩ (fun v1 e1 => ?_))
  rw [ck_t]
  refine ok_lt.mpr ?_
  rw [wa_e]
  generalize h32 : wa v1 30 P ((k : Nat) : Int) = w32
  rw [ck_t]
  refine ok_lt.mpr ?_
  rw [show w32.1 441 = I (F v1 441) by rw [I_F, ← h32, F_wa], wa_e]
  generalize h40 : wa w32 31 P (F v1 441) = w40
  refine ok_lt.mpr ?_
  have f09 : F w40 709 = ((lv : Nat) : Int) := by
    rw [← h40, F_wa, ← h32, F_wa]
    have z1 : F v1 709 = F (wi u 712 0) 709 := congrArg _ (e1.1.1 709 (by simp))
    rw [z1, F_wi (by decide) (by decide), if_neg (by decide)]
    exact cu.2.2.1.1
  have hif : (if (31 : Int32) < w40.1 709 + 1 then (31 : Int32) else w40.1 709 + 1) = I ((lv + 1 : Nat) : Int) := by
    rw [I_F (k := 709), f09, lit1q, I_add, show ((lv : Nat) : Int) + 1 = ((lv + 1 : Nat) : Int) by omega, show (31 : Int32) = I 31 from rfl, if_neg]
    rw [I_lt (by decide) (by decide) (by omega) (by omega)]
    omega
  rw [hif]
  refine ok_lt.mpr ?_
  rw [wi_e]
  generalize h43 : wi w40 709 ((lv + 1 : Nat) : Int) = w43
  have f39 : w43.1 709 = I ((lv + 1 : Nat) : Int) := by rw [I_F, ← h43, F_wi (by omega) (by omega), if_pos rfl]
  have f36 : w43.1 706 = I (F u 706) := by
    rw [I_F, ← h43, F_wi (by omega) (by omega), if_neg (by decide), ← h40, F_wa, ← h32, F_wa]
    have z1 : F v1 706 = F (wi u 712 0) 706 := congrArg _ (e1.1.1 706 (by simp))
    rw [z1, F_wi (by decide) (by decide), if_neg (by decide)]
  rw [f39, i32, ck_t, f36, tnI (n := lv + 1) rfl (by omega)]
  refine ok_lt.mpr ?_
  rw [wa_e]
  generalize h48 : wa w43 40 (lv + 1) (F u 706) = w48
  have f89 : w48.1 709 = I ((lv + 1 : Nat) : Int) := by rw [← h48]; exact f39
  rw [f89, i32, ck_t, tnI (n := lv + 1) rfl (by omega)]
  refine ok_lt.mpr ?_
  rw [lit0q, wa_e]
  generalize hx0 : wa w48 41 (lv + 1) 0 = x0
  obtain ⟨km0, c0, f12, ⟨f6, f4, f14, f11, f13⟩, ⟨a40, ax⟩, ⟨a30, a31, apl, a32⟩, a23⟩ := fun_in (k := k) (P := P) cu (by omega) e1 hk h32.symm h40.symm h43.symm h48.symm hx0.symm
  have e1l := e1.2.1
  have e1u : F (wi u 712 0) 441 = F u 441 := by rw [F_wi (by decide) (by decide), if_neg (by decide)]
  rw [e1u] at e1l
  rw [ck_t, I_A' (show A x0 17 n = ((lo : Nat) : Int) by rw [km0.A (by simp)]; exact e17), iL, ck_t, tnI (n := lo) rfl (by omega), I_A (k := 8), ok_bnd]
  have hu6 := hu.2.2.2.2
  have hv0 : CMP x0 (lv + 1) c ps Q (o + 1) (lo + 2) := ⟨c0, CMX_k hu.2.1 km0, by rw [f13]; exact hu.2.2.1, by omega, by omega⟩
  refine ok_mono (hC f k x0 (lv + 1) c Q ps m (lo + 2) ph (ph + 1) (hi - 1) a c1 (q + 1) r (A x0 8 lo) (by omega) hv0 f12 (PRT_k (PA_k (Nat.le_refl _)) (XP_k (Nat.le_refl _) (Nat.le_refl _)) (XP_k (Nat.le_refl _) (Nat.le_refl _)) (PA_bd f) (XP_bd f (o + 2) 3) (XP_bd f (o + 1) 3) hP (KN_m km0)) (by omega) (by omega) (by omega) hQ hk (A_r _ _ _)) (fun x1 _ p1 => ?_)
  have c1v := p1.1.2.1
  have p16 := p1.2.1
  refine put_1 (x := 36) c1v.1 ⟨by decide, by decide⟩ (fun x2 e2 => ?_)
  have k2 := EMc.km c1v e2
  have f29 : x2.1 709 = I ((lv + 1 : Nat) : Int) := by rw [I_F, k2.2.1.2.2.1.1]
  rw [f29, i32, ck_t, tnI (n := lv + 1) rfl (by omega), lit1q, I_sub, show ((lv + 1 : Nat) : Int) - 1 = ((lv : Nat) : Int) by omega]
  refine ok_lt.mpr ?_
  rw [wi_e]
  generalize h3 : wi x2 709 ((lv : Nat) : Int) = x3
  have u12 := cu.2.2.2.1.1
  rw [I_F (w := u) (k := 712)]
  refine ok_ck.mpr ⟨by rcases u12 with z | z <;> rw [z] <;> decide, ok_lt.mpr ?_⟩
  rw [wi_e]
  generalize h4 : wi x3 712 (F u 712) = x4
  obtain ⟨km4, m4, mA, m6, m14, m11⟩ := fun_mid cu km0 (by rw [f4]; exact e1l.1) ⟨f6, f14, f11, f13⟩ ax p1.1 (by omega) e2 h3.symm h4.symm
  have c4 := km4.2.1
  have cur0 := cu.1
  rw [ok_bnd]
  refine ok_mono (arrive_ok (N := N) (u := x4) (c := F v1 441 - 1) ⟨by omega, by omega⟩ (by omega)) (fun x5 _ h5 => ?_)
  have k5 := KM_23 c4 h5.1
  have c5 := k5.2.1
  have f54 : F x5 441 = F x4 441 := congrArg _ (h5.1.1 441 (by simp))
  have a5 : ∀ r j, r ≠ 23 → A x5 r j = A x4 r j := fun r j hr => by show (x5.2.2.1 r j).toInt = _; rw [h5.1.2.2.1 r (by simp; exact hr)]; rfl
  refine put_1 (x := 6) c5.1 ⟨by decide, by decide⟩ (fun w6 e5 => put_B (x := ((P : Nat) : Int)) c5.1.1 e5 ⟨by omega, by omega⟩ (fun x6 e6 => ?_))
  have k6 := EMc.km c5 e6
  have c6 := k6.2.1
  have r64 : RG (F x6 441) := FRG1 x6 441
  rw [ck_t]
  refine ok_lt.mpr ?_
  rw [I_F (w := x6) (k := 441), wa_e]
  have f7 : FR [] [] [32] [] x6 (wa x6 32 P (F x6 441)) := FR.wa FR.rf (by simp)
  have f74 : F (wa x6 32 P (F x6 441)) 441 = F x6 441 := F_wa
  have a7 : ∀ r j, r ≠ 32 → A (wa x6 32 P (F x6 441)) r j = A x6 r j := fun r j hr => by rw [A_wa r64.1 r64.2, if_neg hr]
  have a7P : A (wa x6 32 P (F x6 441)) 32 P = F x6 441 := by rw [A_wa r64.1 r64.2, if_pos rfl, if_pos rfl]
  have a7n : ∀ j, j ≠ P → A (wa x6 32 P (F x6 441)) 32 j = A x6 32 j := fun j hj => by rw [A_wa r64.1 r64.2, if_pos rfl, if_neg hj]
  generalize wa x6 32 P (F x6 441) = x7 at f7 f74 a7 a7P a7n ⊢
  have k7 := KM_32 c6 f7
  have c7 := k7.2.1
  refine put_1 (x := 0) c7.1 ⟨by decide, by decide⟩ (fun x8 e8 => ?_)
  have k8 := EMc.km c7 e8
  have c8 := k8.2.1
  have ku8 := KMc.tr (KMc.tr (KMc.tr (KMc.tr km4 k5) k6) k7) k8
  rw [ck_t, ck_t, I_A' (show A x8 17 n = ((lo : Nat) : Int) by rw [ku8.1.A (by simp)]; exact e17), I_A' (show A x8 20 n = ((hi - 1 : Nat) : Int) by rw [ku8.1.A (by simp)]; exact e20), ok_bnd]
  refine ok_mono (holdN_ok (N := N) (fr := lo) (to := hi - 1) c8 (by omega) (by omega) hN) (fun x9 r9 h9 => ?_)
  obtain ⟨⟨l9, e9⟩, rfl⟩ := h9
  have k9 := EMc.km c8 e9
  have c9 := k9.2.1
  have c8r := c8.1
  have c9r := c9.1
  have h89 := k9.2.2.1
  have a9 : ∀ r j, r ≠ 23 → A x9 r j = A x8 r j := fun r j hr => by show (x9.2.2.1 r j).toInt = _; rw [e9.1.2.2.1 r (by simp; exact hr)]; rfl
  have a8 : ∀ r j, r ≠ 23 → A x8 r j = A x7 r j := fun r j hr => by show (x8.2.2.1 r j).toInt = _; rw [e8.1.2.2.1 r (by simp; exact hr)]; rfl
  have a6 : ∀ r j, r ≠ 23 → A x6 r j = A x5 r j := fun r j hr => by show (x6.2.2.1 r j).toInt = _; rw [e6.1.2.2.1 r (by simp; exact hr)]; rfl
  have a9P : A x9 32 P = F x6 441 := by rw [a9 32 P (by decide), a8 32 P (by decide), a7P]
  rw [ck_t, I_A' a9P]
  obtain ⟨x10, hs, fs, ks, ksp⟩ := setC_e (N := N) (u := x9) (c := F x6 441) (x := F x9 441 - F x8 441) r64 ⟨by omega, by omega⟩
  rw [hs, bnd_so]
  have k10 := KM_23 c9 fs
  have c10 := k10.2.1
  have ku10 := KMc.tr (KMc.tr ku8 k9) k10
  have f10 : ∀ j, F x10 j = F x9 j := fun j => congrArg _ (fs.1 j (by simp))
  have a10 : ∀ r j, r ≠ 23 → A x10 r j = A x9 r j := fun r j hr => by show (x10.2.2.1 r j).toInt = _; rw [fs.2.2.1 r (by simp; exact hr)]; rfl
  have a2n : 0 ≤ A x2 41 (lv + 1) := ((k2.2.1.2.2.2.2.2.2.1 (lv + 1) (by omega)).2).1
  have fin : ∀ y : Int, (y = 0 ∨ y = 1) → (y = 0 → F x10 711 = 0 ∧ A x2 41 (lv + 1) + (F x9 441 - F x8 441) ≤ 40) → OK (fun w _ => PXS u w lv ps lo hi q r o False 1) (hb_Cm_fun_308 N S () x10 (I y)) := fun y hy hy0 => by
    unfold hb_Cm_fun_308
    refine ok_ck.mpr ⟨by rcases hy with rfl | rfl <;> decide, ok_lt.mpr (ok_some.mpr ?_)⟩
    rw [wi_e]
    have hyr : RG y := ⟨by omega, by omega⟩
    have kw := KM_711 c10 hy (fun z => (hy0 z).1)
    have kuw := KMc.tr ku10 kw
    have wF : ∀ j, j ≠ 711 → F (wi x10 711 y) j = F x10 j := fun j hj => by rw [F_wi hyr.1 hyr.2, if_neg hj]
    have w11 : F (wi x10 711 y) 711 = y := by rw [F_wi hyr.1 hyr.2, if_pos rfl]
    have wA : ∀ r j, A (wi x10 711 y) r j = A x10 r j := fun _ _ => rfl
    generalize wi x10 711 y = w at kw kuw wF w11 wA ⊢
    have e6w : F w 706 = F u 706 := by
      have z1 : F x9 706 = F x8 706 := congrArg _ (e9.1.1 706 (by simp))
      have z2 : F x8 706 = F x7 706 := congrArg _ (e8.1.1 706 (by simp))
      have z3 : F x7 706 = F x6 706 := congrArg _ (f7.1 706 (by simp))
      have z4 : F x6 706 = F x5 706 := congrArg _ (e6.1.1 706 (by simp))
      have z5 : F x5 706 = F x4 706 := congrArg _ (h5.1.1 706 (by simp))
      rw [wF 706 (by decide), f10, z1, z2, z3, z4, z5, m6]
    have l2 := e2.2.1.2.2
    have l6 := e6.2.1.2.2
    have l8 := e8.2.1.2.2
    have l1 := e1l.2.2
    simp only [List.length_append, List.length_cons, List.length_nil] at l2 l6 l8 l1
    have w4 : F w 441 = F x9 441 := by rw [wF 441 (by decide), f10]
    refine ⟨kuw, by omega, fun z => ?_, fun gd => ?_⟩
    · have y0 : y = 0 := by rw [← w11]; exact z
      obtain ⟨z1, z2⟩ := hy0 y0
      have z11 : F x1 711 = 0 := by
        have q1 : F x9 711 = 0 := by rw [← f10]; exact z1
        have q4 := k5.2.2.2.2.1 (k6.2.2.2.2.1 (k7.2.2.2.2.1 (k8.2.2.2.2.1 (k9.2.2.2.2.1 q1))))
        rw [m11] at q4
        exact k2.2.2.2.2.1 q4
      have q2 := p1.2.2.1 z11
      have wb := WB_1 hcs.1 (lo := lo) (lo2 := lo + 2) (hi2 := hi - 1) (hi := hi) (by omega) (by omega) (by omega) hh
      omega
    · have y0 : y = 0 := by rw [← w11]; exact gd.2.1
      obtain ⟨z1, z2⟩ := hy0 y0
      have g4 := gd.2.2.1
      have hP2 : P = q := hPq (by have := gd.2.2.2.2; omega)
      subst hP2
      have t6 := k6.2.2.1
      have t7 := k7.2.2.1
      have t8 := k8.2.2.1
      have t5 := k5.2.2.1
      have t2 := k2.2.2.1
      have t1 := p1.1.2.2.1
      have s1 := (e1.2.2.2 (by omega)).1
      have w1 := (e1.2.2.2 (by omega)).2
      have s2 := (e2.2.2.2 (by omega))
      have s6 := (e6.2.2.2 (by omega))
      have s8 := (e8.2.2.2 (by omega))
      rw [e1u] at s1 w1
      simp only [List.length_append, List.length_cons, List.length_nil] at s1
      have s2a := s2.1
      have s6a := s6.1
      have s8a := s8.1
      simp only [List.length_append, List.length_cons, List.length_nil] at s2a s6a s8a
      have cur := cu.1
      have gd1 : GDc x1 (hi - 1) r := by
        have q14 := gd.1
        have n1 := kw.2.2.2.1
        have n2 := k10.2.2.2.1
        have n3 := k9.2.2.2.1
        have n4 := k8.2.2.2.1
        have n5 := k7.2.2.2.1
        have n6 := k6.2.2.2.1
        have n7 := k5.2.2.2.1
        have n8 := k2.2.2.2.1
        have n9 := c1v.2.2.2.2.1
        have z11 : F x1 711 = 0 := by
          have q1 : F x9 711 = 0 := by rw [← f10]; exact z1
          have q4 := k5.2.2.2.2.1 (k6.2.2.2.2.1 (k7.2.2.2.2.1 (k8.2.2.2.2.1 (k9.2.2.2.2.1 q1))))
          rw [m11] at q4
          exact k2.2.2.2.2.1 q4
        exact ⟨by omega, z11, by omega, by have := gd.2.2.2.1; omega, gd.2.2.2.2⟩
      obtain ⟨o1, -, sl1, ty⟩ := p1.2.2.2 gd1
      have S0 : szc x0 = szc u + 2 := by show (F x0 441).toNat = (F u 441).toNat + 2; omega
      have S1 : F x1 441 = ((szc x1 : Nat) : Int) := by have := c1v.1; show F x1 441 = (((F x1 441).toNat : Nat) : Int); omega
      have SU : F u 441 = ((szc u : Nat) : Int) := by show F u 441 = (((F u 441).toNat : Nat) : Int); omega
      have sl : szc u + 2 < szc x1 := by rw [← S0]; exact sl1
      obtain ⟨hc, hhc⟩ : ∃ hc : Nat, F x9 441 - F x8 441 = ((hc : Nat) : Int) := ⟨(F x9 441 - F x8 441).toNat, by omega⟩
      have F6 : F x6 441 = ((szc x1 + 3 : Nat) : Int) := by omega
      have SW : szc w = szc x1 + 4 + hc := by show (F w 441).toNat = szc x1 + 4 + hc; omega
      have ch : CHNc x4 [szc u + 1] (F v1 441 - 1) := by
        refine ⟨by omega, ⟨by omega, by omega⟩, fun q hq => absurd hq (by simp), ?_⟩
        show A x4 23 (szc u + 1) = 0
        rw [mA, e2.2.2.1 (szc u + 1) (by omega), o1.1 (szc u + 1) (by rw [f4]; omega), a23]
        exact w1 1 (by simp)
      have ar := h5.2 _ ch
      have cd4 : ∀ j, j ≠ szc u + 1 → A x5 23 j = A x4 23 j := fun j hj => ar.2 j (by simp; exact hj)
      have cdw : ∀ j, j < szc x1 + 3 → A w 23 j = A x6 23 j := fun j hj => by
        rw [wA, ks j (by omega), e9.2.2.1 j (by omega), e8.2.2.1 j (by omega), a7 23 j (by decide)]
      have cd1 : ∀ j, j < szc x1 → j ≠ szc u + 1 → A w 23 j = A x1 23 j := fun j hj h1 => by
        rw [cdw j (by omega), e6.2.2.1 j (by omega), cd4 j h1, mA, e2.2.2.1 j (by omega)]
      have cd0 : ∀ j, j < szc u + 2 → j ≠ szc u + 1 → A w 23 j = A v1 23 j := fun j hj h1 => by
        rw [cd1 j (by omega) h1, o1.1 j (by rw [f4]; omega), a23]
      have plw : ∀ r j, r ≠ 23 → r ≠ 32 → A w r j = A x1 r j := fun r j hr h3 => by
        rw [wA, a10 r j hr, a9 r j hr, a8 r j hr, a7 r j h3, a6 r j hr, a5 r j hr, mA]
        show (x2.2.2.1 r j).toInt = _; rw [e2.1.2.2.1 r (by simp; exact hr)]; rfl
      have pl32 : ∀ j, j ≠ P → A w 32 j = A x1 32 j := fun j hj => by
        rw [wA, a10 32 j (by decide), a9 32 j (by decide), a8 32 j (by decide), a7n j hj, a6 32 j (by decide), a5 32 j (by decide), mA]
        show (x2.2.2.1 32 j).toInt = _; rw [e2.1.2.2.1 32 (by simp)]; rfl
      refine ⟨⟨fun j hj => ?_, fun pl hp => ?_⟩, fun h m L g x p => ⟨fun _ => e6w, ?_⟩⟩
      · rw [cd0 j (by omega) (by omega), e1.2.2.1 j (by rw [e1u]; exact hj)]
        rfl
      · obtain ⟨q1, q2, q3⟩ := o1.2 pl (by omega)
        obtain ⟨q4, q5⟩ := apl pl (by omega)
        exact ⟨by rw [plw 30 pl (by decide) (by decide), q1, q4], by rw [plw 31 pl (by decide) (by decide), q2, q5], by rw [pl32 pl (by omega), q3, a32]⟩
      · have v12 : F u 712 = 0 := by
          rcases h12 with z | z
          · exact z
          · have := kuw.2.2.2.1
            have := gd.1
            omega
        have gg : g = 0 := by
          by_cases z : g = 0
          · exact z
          · have := p.2.2.2.2.1.mp z
            rw [v12] at this
            exact absurd this (by decide)
        have xx := p.2.2.2.2.2 gg
        subst gg xx
        have pb := PRE_b kuw.2.1 kuw (by omega) p
        have e41 : A x2 41 (lv + 1) = A x1 41 (lv + 1) := by show (x2.2.2.1 41 (lv + 1)).toInt = _; rw [e2.1.2.2.1 41 (by simp)]; rfl
        have l15 := gd.2.2.2.1
        obtain ⟨q1, q2, q3⟩ := o1.2 P (by omega)
        have yb := ty hc ⟨by rw [a40, f6]; omega, by rw [a40, f6]; omega⟩
        rw [S0] at yb
        have tb : TBLc x1 w (P + 1) r := by
          have kf : KMF x1 w := by
            have z1 : KMF x2 x4 := by rw [← h4, ← h3]; exact FR.wi (FR.wi FR.rf (by simp)) (by simp)
            exact KMF.tr k2.1 (KMF.tr z1 (KMF.tr k5.1 (KMF.tr k6.1 (KMF.tr k7.1 (KMF.tr k8.1 (KMF.tr k9.1 (KMF.tr k10.1 kw.1)))))))
          exact ⟨kf.F (by simp), kf.F (by simp), by rw [kf.F (by simp)]; omega, fun f => kf.A (by simp), fun pl h1 h2 => ⟨plw 30 pl (by decide) (by decide), plw 31 pl (by decide) (by decide), pl32 pl (by omega)⟩⟩
        have yb2 : SGc w (szc u + 2) (szc x1) (P + 1) r [] k k hc [] 0 0 (some (k, hc, [], 0, 0)) := SG_z0 (SG_k yb (fun j j1 j2 _ => cd1 j j2 (by omega)) tb)
        have e0 : knc u w = 0 := by show (F w 706 - F u 706).toNat = 0; omega
        have F449 := hu.2.1.2.2.2
        have j := SG_fun (u := w) (a := szc u) (c := szc x1) (q := P) (r := r) (n := k) (k := hc) (z := h) (h := h) (m := m) (L := L) (Nat.le_refl _) (by omega) (by omega) (by omega) (by omega) (by rw [cd0 _ (by omega) (by omega)]; exact w1 0 (by simp)) (by
          rw [cdw _ (by omega), e6.2.2.1 _ (by omega), ar.1 (szc u + 1) (by simp), m4]
          omega) yb2 (by
          rw [cdw _ (by omega), e6.2.2.1 _ (by omega), cd4 _ (by omega), mA]
          exact s2.2 0 (by simp)) (by
          rw [cdw _ (by omega)]
          have z0 : (F x5 441).toNat = szc x1 + 1 := by omega
          have := s6.2 0 (by simp)
          rw [z0] at this
          exact this) (by
          rw [cdw _ (by omega)]
          have z0 : (F x5 441).toNat = szc x1 + 1 := by omega
          have := s6.2 1 (by simp)
          rw [z0] at this
          exact this) (by rw [wA, ksp (szc x1 + 3) F6 (by omega)]; exact hhc) (by
          rw [kuw.1.F (by simp), F449]
          have := gd.2.2.2.2
          split <;> omega) (by rw [plw 30 P (by decide) (by decide), q1]; exact a30) (by rw [plw 31 P (by decide) (by decide), q2, a31]; omega) (by rw [wA, a10 32 P (by decide), a9P]; exact F6)
        rw [e0, SW]
        exact j
  rw [show (40 : Int32) = I 40 from rfl, I_A (w := x2) (k := 41), I_add]
  have b41 := (k2.2.1.2.2.2.2.2.2.1 (lv + 1) (by omega)).2
  unfold hb_Cm_fun_303
  refine k_F (y := 0) rfl ⟨by decide, by decide⟩ (fun z1 => k_le ⟨by omega, by omega⟩ ⟨by decide, by decide⟩ (fun z2 => fin 0 (Or.inl rfl) (fun _ => ⟨z1, z2⟩)) (fun _ => fin 1 (Or.inr rfl) (fun z => absurd z (by decide)))) (fun _ => fin 1 (Or.inr rfl) (fun z => absurd z (by decide)))
end
