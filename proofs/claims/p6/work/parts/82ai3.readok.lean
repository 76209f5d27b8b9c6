def RdI : List Nat := [3, 5, 9, 10, 11, 14, 17, 20, 86, 87, 52, 32, 39, 46, 56, 58, 65, 66, 67, 68, 69, 70, 71, 72, 73, 75, 77, 83, 84]
def RdA : List Nat := [6, 7, 8, 12, 13, 15, 16, 18, 19, 47, 48, 49, 50, 51, 23, 24, 25, 26, 27, 28, 29, 30, 31, 33, 35, 36, 37, 38, 40, 41, 42, 43, 44, 45, 53, 54, 55, 57, 59, 60, 61, 62, 63, 64, 74, 76, 78, 79, 80, 81, 82]
def RQ (u x : MS) : Prop := FR RdI [] RdA [34] u x ∧ F x 5 = 0 ∧ F x 87 = 0 ∧ TB0 x ∧ K44 x ∧ K49 x ∧ (F x 86 ≠ 0 → ∃ (Fv : Int64 → Int64 → Prop) (AN : Nat) (T : TY) (C : CY) (ND CN PN SN UN FN : Nat), PER Fv AN T C id id ND CN PN SN UN FN x)
def rdS (u : MS) : MS := wa (wa (wi (wi (wi (wi (wi (wi (wi (wi (wi (wi u 3 0) 86 0) 87 0) 67 0) 72 0) 71 0) 83 0) 75 0) 77 0) 65 0) 60 0 0) 63 0 0
section
variable {u x : MS} {N : Nat}
theorem rdS_FR : FR [3, 86, 87, 67, 72, 71, 83, 75, 77, 65] [] [60, 63] [] u (rdS u) := by
  unfold rdS
  exact FR.wa (FR.wa (FR.wi (FR.wi (FR.wi (FR.wi (FR.wi (FR.wi (FR.wi (FR.wi (FR.wi (FR.wi FR.rf (by decide)) (by decide)) (by decide)) (by decide)) (by decide)) (by decide)) (by decide)) (by decide)) (by decide)) (by decide)) (by decide)) (by decide)
theorem rdS_0 {k : Nat} (h : k ∈ [3, 86, 87, 67, 72, 71, 83, 75, 77, 65]) : F (rdS u) k = 0 := by
  have m : ∀ k, k ∈ [3, 86, 87, 67, 72, 71, 83, 75, 77, 65] → k = 3 ∨ k = 86 ∨ k = 87 ∨ k = 67 ∨ k = 72 ∨ k = 71 ∨ k = 83 ∨ k = 75 ∨ k = 77 ∨ k = 65 := by decide
  rcases m k h with z | z | z | z | z | z | z | z | z | z <;> (rw [z]; rfl)
set_option maxRecDepth 100000 in
theorem read_ok (hN : 200000 ≤ N) (h5 : 0 ≤ F u 5 ∧ F u 5 ≤ 4000) (hb : BYT u) (ts : TBS u) (z0 : TB0 u) (k44 : K44 u) (k49 : K49 u) : OK (fun x _ => RQ u x) (fm_M_read N u) := by
  unfold fm_M_read fb_M_read_0 fb_M_read_162
  refine ok_lt.mpr (ok_lt.mpr (ok_lt.mpr (ok_lt.mpr (ok_lt.mpr (ok_lt.mpr (ok_lt.mpr (ok_lt.mpr (ok_lt.mpr (ok_lt.mpr (ok_ck.mpr ⟨rfl, ok_lt.mpr (ok_ck.mpr ⟨rfl, ok_lt.mpr ?_⟩)⟩))))))))))
  show OK _ (bnd (fm_M_readTokens N (rdS u)) _)
  have f0 := rdS_FR (u := u)
  have s0 : ∀ k, k ∈ [3, 86, 87, 67, 72, 71, 83, 75, 77, 65] → F (rdS u) k = 0 := fun k hk => rdS_0 hk
  generalize rdS u = v at *
  have v5 : F v 5 = F u 5 := f0.F (by decide)
  have ts1 : TBS v := ⟨fun i hi => by rw [f0.A (by decide)]; exact ts.1 i hi, fun k hk => by rw [f0.A (by decide)]; exact ts.2.1 k hk, ⟨fun k hk => by rw [f0.A (by decide)]; exact ts.2.2.1.1 k hk, fun k hk => by rw [f0.A (by decide)]; exact ts.2.2.1.2 k hk⟩, fun k hk => by rw [f0.A (k := 2) (by decide), f0.A (k := 2) (by decide)]; exact ts.2.2.2 k hk⟩
  have z1 : TB0 v := ⟨by rw [f0.A (by decide)]; exact z0.1, by rw [f0.A (by decide)]; exact z0.2.1, by rw [f0.A (by decide)]; exact z0.2.2⟩
  refine ok_bnd.mpr (ok_mono (readTokens_ok hN (by omega) (fun i => by rw [f0.A (by decide)]; exact hb i) ts1 z1) (fun w _ hw => ?_))
  obtain ⟨f1, zw, aw, w22, TN, SN, bw, tk, w9, stw⟩ := hw
  have hT := tk.1.1
  have wF : ∀ k, k ∈ [3, 86, 87, 67, 72, 71, 83, 75, 77, 65] → F w k = 0 := fun k hk => by
    have : ∀ k, k ∈ [3, 86, 87, 67, 72, 71, 83, 75, 77, 65] → k ∉ [9, 10, 11, 14, 17, 20] := by decide
    rw [f1.F (this k hk)]; exact s0 k hk
  have tbw : TBL w := fun k hk => by rw [f1.A (k := 2) (by decide), f1.A (k := 2) (by decide)]; exact ts1.2.2.2 k hk
  have k44w : K44 w := fun i => by rw [f1.A (by decide), f0.A (by decide)]; exact k44 i
  have k49w : K49 w := fun i => by rw [f1.A (by decide), f0.A (by decide)]; exact k49 i
  have fuw : FR RdI [] RdA [34] u w := FR.tr (FR.mo f0 (by decide) (by decide) (by decide) (by decide)) (FR.mo f1 (by decide) (by decide) (by decide) (by decide))
  refine ok_bnd.mpr (ok_mono (program_ok (bw := bw) (by omega) hT (fun _ => tk) tbw aw ⟨wF 75 (by decide), wF 77 (by decide), wF 83 (by decide)⟩ (by rw [wF 71 (by decide)]; omega) k44w k49w) (fun y _ hy => ?_))
  refine ok_lt.mpr ?_
  have z5 : upI y 5 0 = wi y 5 0 := rfl
  rw [z5]
  have f5 : FR [5] [] [] [] y (wi y 5 0) := FR.wi FR.rf (by decide)
  have y5 : F (wi y 5 0) 5 = 0 := wi_eq ⟨by decide, by decide⟩
  generalize wi y 5 0 = X at *
  have XA : ∀ r i, A X r i = A y r i := fun r i => f5.A (by intro z; cases z)
  have XF : ∀ k, k ≠ 5 → F X k = F y k := fun k hk => f5.F (by simpa using hk)
  have done : ∀ Y : MS, PRO w y → FR [71, 72] [] [27] [] X Y → K44 y → K49 y → RQ u Y := fun Y pr fY q44 q49 => by
    refine ⟨FR.tr (FR.tr (FR.tr fuw (FR.mo pr (by decide) (by decide) (by decide) (by decide))) (FR.mo f5 (by decide) (by decide) (by decide) (by decide))) (FR.mo fY (by decide) (by decide) (by decide) (by decide)), (fY.F (by decide)).trans y5, ?_, ⟨?_, ?_, ?_⟩, fun i => ?_, fun i => ?_, fun z => absurd ?_ z⟩
    · rw [fY.F (by decide), XF 87 (by decide), pr.F (by decide)]; exact wF 87 (by decide)
    · rw [fY.A (by decide), XA, pr.A (by decide)]; exact zw.1
    · rw [fY.A (by decide), XA, pr.A (by decide)]; exact zw.2.1
    · rw [fY.A (by decide), XA, pr.A (by decide)]; exact zw.2.2
    · rw [fY.A (by decide), XA]; exact q44 i
    · rw [fY.A (by decide), XA]; exact q49 i
    · rw [fY.F (by decide), XF 86 (by decide), pr.F (by decide)]; exact wF 86 (by decide)
  rcases hy with ⟨G, hG0, ⟨g1, g2, ⟨p, n, q, c, f, h, g3, g4, g5⟩, g6, g7⟩, -⟩ | hy
  · obtain ⟨⟨e1, e2, e3, e4, e5, e6, e7, -⟩, ⟨e12, e13⟩, q44, ngd, q49, nm⟩ := id g3
    refine k_F (y := 0) rfl ⟨by decide, by decide⟩ (fun _ => ?_) (fun z => absurd ((XF 67 (by decide)).trans g2) z)
    have hG : G ≤ 1000 := by omega
    have tbX : TBL X := fun k hk => by rw [XA, XA, g1.A (k := 2) (by decide), g1.A (k := 2) (by decide)]; exact tbw k hk
    have aty : ATM y := ATM_pro aw g1
    have atX : ATM X := by
      obtain ⟨b1, b2, b3⟩ := aty
      have e14 := XF 14 (by decide)
      exact ⟨by rw [e14]; exact b1, by rw [e14]; exact b2, fun k hk => by rw [e14] at hk; rw [XA, XA]; exact b3 k hk⟩
    have ngX : NGD X X := fun i hi => by
      rw [XF 32 (by decide)] at hi
      rw [XA, XA, XA, XF 14 (by decide)]; exact ngd i hi
    have nb : 0 ≤ n ∧ n ≤ 12000 ∧ 0 ≤ c ∧ c ≤ 1400 ∧ 0 ≤ q ∧ q ≤ 2900 ∧ 0 ≤ f ∧ f ≤ c ∧ 0 ≤ h ∧ h ≤ 24000 := by unfold NM at nm; omega
    refine ok_bnd.mpr (ok_mono (calls_ok (G := G) (by omega) tbX atX ((XF 52 (by decide)).trans g6) hG ngX (by rw [XF 32 (by decide), e3]; omega) (by rw [XF 71 (by decide)]; exact e12)) (fun Y _ hY => ?_))
    have fY := hY.1
    have dY := done Y g1 fY q44 q49
    refine k_F (y := 0) rfl ⟨by decide, by decide⟩ (fun h72 => ?_) (fun _ => ?_)
    · refine k_F (y := 0) rfl ⟨by decide, by decide⟩ (fun h66 => ?_) (fun _ => ok_some.mpr dY)
      refine ok_br.mpr ⟨fun _ => ok_some.mpr dY, fun _ => ok_br.mpr ⟨fun _ => ok_some.mpr dY, fun _ => ?_⟩⟩
      have Y9 : F Y 9 = ((TN : Nat) : Int) := by rw [fY.F (by decide), XF 9 (by decide), g1.F (by decide)]; exact w9
      rw [I_F' Y9, show (1500 : Int32) = I 1500 from rfl]
      refine k_le (x := (TN : Int)) (y := 1500) ⟨by omega, by omega⟩ ⟨by decide, by decide⟩ (fun t15 => ?_) (fun _ => ok_some.mpr dY)
      rw [lit1q, wi_e]
      refine ok_lt.mpr (ok_some.mpr ?_)
      have f86 : FR [86] [] [] [] Y (wi Y 86 1) := FR.wi FR.rf (by decide)
      obtain ⟨r1, r2, r3, r4, r5, r6, -⟩ := dY
      refine ⟨FR.wi r1 (by decide), (f86.F (by decide)).trans r2, (f86.F (by decide)).trans r3, r4, r5, r6, fun _ => ?_⟩
      have X72 : F X 72 = 0 := (hY.2.2.2 h72).1
      have X66 : F X 66 = 0 := by rw [← fY.F (k := 66) (by decide)]; exact h66
      obtain ⟨Bd, d1, d2⟩ := g7 (by rw [← XF 72 (by decide)]; exact X72) (by rw [← XF 66 (by decide)]; exact X66) (by omega)
      have ey : EQY y X := EQY_fr f5 (by decide) (by decide)
      have my : mks X = mks y := mks_c (fun k hk => XF k (by
        have : ∀ k, k ∈ [32, 39, 46, 56, 58] → k ≠ 5 := by decide
        exact this k hk))
      have dX := FNT_eqy (w := X) (y := 0) (i0 := 0) d1 ey (fun i => by rw [d2]; exact Nat.le_refl _) (Or.inl rfl) (fun f _ => ⟨XA 48 f, XA 50 f⟩)
      have stY : STR Y SN := ⟨stw.1, fun s hs => by
        rw [fY.A (k := 19) (by decide), fY.A (k := 19) (by decide), XA, XA, g1.A (k := 19) (by decide), g1.A (k := 19) (by decide)]; exact stw.2 s hs⟩
      obtain ⟨T, C, prg⟩ := prg_of (v := X) (w := Y) dX (by rw [d2, my]) ⟨hG0, hG⟩ (by rw [XF 32 (by decide), e3]; omega) (by rw [XF 46 (by decide), e5]; omega) (by rw [XF 39 (by decide), e4]; omega) (by rw [XF 56 (by decide), e6]; omega) (by rw [XF 58 (by decide), e7]; omega) hY ((XF 52 (by decide)).trans g6) h72 stY
      have atY : ATM Y := by
        obtain ⟨b1, b2, b3⟩ := atX
        have e14 : F Y 14 = F X 14 := fY.F (by decide)
        exact ⟨by rw [e14]; exact b1, by rw [e14]; exact b2, fun k hk => by rw [e14] at hk; rw [fY.A (k := 13) (by decide), fY.A (k := 13) (by decide)]; exact b3 k hk⟩
      have Y14 : F Y 14 = F w 14 := by rw [fY.F (by decide), XF 14 (by decide), g1.F (by decide)]
      have per : PER (FvO Y (F X 56).toNat G) (F w 14).toNat T C id id (F X 32).toNat (F X 46).toNat (F X 39).toNat SN (F X 56).toNat G Y := ⟨prg, FvO_H (by rw [XF 56 (by decide), e6]; omega) hG, atY, by omega, by omega, FvO_W⟩
      exact ⟨_, _, _, _, _, _, _, _, _, _, PER_fr per f86 (by decide) (by intro k _ z; cases z)⟩
    · have y71 := hY.2.2.1
      exact k_at (k := 8) (n := 4002) rfl (by decide) (by omega) (ok_some.mpr dY)
  · obtain ⟨g1, g2, g3, g4, g5⟩ := hy
    refine k_F (y := 0) rfl ⟨by decide, by decide⟩ (fun z => absurd ((XF 67 (by decide)).symm.trans z) g2) (fun _ => ok_some.mpr (done X g1 FR.rf g4 g5))
end
