def PfJ : List Nat := [52, 32, 39, 46, 56, 58, 65, 66, 67, 68, 69, 70, 71, 72, 73, 75, 77, 83, 84]
def PfB : List Nat := [47, 48, 49, 50, 51, 23, 24, 25, 26, 27, 28, 29, 30, 31, 33, 35, 36, 37, 38, 40, 41, 42, 43, 44, 45, 53, 54, 55, 57, 59, 60, 61, 62, 63, 64, 74, 76, 78, 79, 80, 81, 82]
def PRO (u v : MS) : Prop := FR PfJ [] PfB [34] u v
def K49 (v : MS) : Prop := ∀ i, 0 ≤ A v 49 i ∧ A v 49 i < 4002
def PGN (TN : Nat) (bw : Nat → Nat) (v : MS) (p n q c f h : Int) : Prop := (F v 69 = p ∧ F v 70 = 0 ∧ F v 32 = n ∧ F v 39 = q ∧ F v 46 = c ∧ F v 56 = f ∧ F v 58 = h ∧ F v 75 = 0 ∧ F v 77 = 0 ∧ F v 83 = 0 ∧ F v 73 = 0) ∧ ((0 ≤ F v 71 ∧ F v 71 < 4002) ∧ (F v 66 = 0 ∨ F v 66 = 1)) ∧ K44 v ∧ NGD v v ∧ K49 v ∧ NM TN bw 0 0 0 0 p 0 n q c f h 0 0
def FLT (TN : Nat) (u v : MS) : Prop := PRO u v ∧ F v 67 ≠ 0 ∧ (0 ≤ F v 69 ∧ F v 69 ≤ TN + 1 ∧ 0 ≤ F v 71 ∧ F v 71 < 4002) ∧ K44 v ∧ K49 v
def cs (v : MS) : MS := wa (wa (wa (wi (nx1 v) 65 0) 60 0 0) 63 0 0) 64 0 0
section
variable {Q : MS → Unit → Prop} {u v w x : MS} {N TN SN k g : Nat} {bw : Nat → Nat} {p n q c f h l : Int}
theorem TKW_pro (tk : TKW u TN SN bw) (f : PRO u v) : TKW v TN SN bw := by
  have e6 : ∀ i, A v 6 i = A u 6 i := fun i => f.A (by decide)
  have e7 : ∀ i, A v 7 i = A u 7 i := fun i => f.A (by decide)
  have e16 : ∀ i, A v 16 i = A u 16 i := fun i => f.A (by decide)
  have e14 : F v 14 = F u 14 := f.F (by decide)
  have e17 : F v 17 = F u 17 := f.F (by decide)
  have en : ∀ i, nu v i = nu u i := fun i => by unfold nu; simp only [e6]
  obtain ⟨⟨a1, a2⟩, a3, a4, a5, a6⟩ := tk
  refine ⟨⟨a1, by rw [e6]; exact a2⟩, fun i hi => ?_, ?_, fun i hi => ?_, a6⟩
  · rw [e6, e7, e14, e17]; exact a3 i hi
  · rw [e17]
    exact ⟨a4.1, a4.2.1, fun k hk => by rw [e16]; exact a4.2.2 k hk⟩
  · rw [e6, e7, en]; exact a5 i hi
theorem cs_A {r i : Nat} (h : r ≠ 60 ∧ r ≠ 63 ∧ r ≠ 64) : A (cs v) r i = A v r i := by
  unfold cs
  rw [wa_rne h.2.2, wa_rne h.2.1, wa_rne h.1]; rfl
theorem cs_F {k : Nat} (h : k ≠ 65 ∧ k ≠ 69) : F (cs v) k = F v k := by
  unfold cs; rw [F_wa, F_wa, F_wa, wi_ne h.1]; exact wi_ne h.2
theorem cs_FR : FR [69, 65] [] [60, 63, 64] [] v (cs v) := by
  unfold cs nx1
  exact FR.wa (FR.wa (FR.wa (FR.wi (FR.wi FR.rf (by decide)) (by decide)) (by decide)) (by decide)) (by decide)
theorem cs_ST (hv : PGN TN bw v p n q c f h) (hp : 0 ≤ p ∧ p ≤ 4000) : ST (cs v) 0 (p + 1) 0 n q c f h 0 0 0 (cs v) := by
  obtain ⟨⟨e1, e2, e3, e4, e5, e6, e7, e8, e9, e10, e11⟩, ⟨e12, e13⟩, k44, ngd, -, -⟩ := hv
  have ef : ∀ k, k ≠ 65 ∧ k ≠ 69 → F (cs v) k = F v k := fun k hk => cs_F hk
  have f69 : F (cs v) 69 = p + 1 := by
    unfold cs; rw [F_wa, F_wa, F_wa, wi_ne (by decide)]; unfold nx1; rw [wi_eq ⟨by omega, by omega⟩, e1]
  have f65 : F (cs v) 65 = 0 := by
    unfold cs; rw [F_wa, F_wa, F_wa]; exact wi_eq ⟨by decide, by decide⟩
  have z60 : A (cs v) 60 0 = 0 := by unfold cs; rw [wa_rne (by decide), wa_rne (by decide)]; exact wa_eq ⟨by decide, by decide⟩
  have z63 : A (cs v) 63 0 = 0 := by unfold cs; rw [wa_rne (by decide)]; exact wa_eq ⟨by decide, by decide⟩
  have z64 : A (cs v) 64 0 = 0 := by unfold cs; exact wa_eq ⟨by decide, by decide⟩
  refine ⟨FR.rf, ⟨f69, ?_, ?_, ?_, ?_, ?_, ?_, ?_, ?_, ?_, ?_, by rw [f65]; rfl⟩, ⟨?_, Or.inl rfl, ?_⟩, fun s hs => ?_, fun i => ?_, fun i hi => ?_⟩
  · rw [ef 70 (by decide)]; exact e2
  · rw [ef 32 (by decide)]; exact e3
  · rw [ef 39 (by decide)]; exact e4
  · rw [ef 46 (by decide)]; exact e5
  · rw [ef 56 (by decide)]; exact e6
  · rw [ef 58 (by decide)]; exact e7
  · rw [ef 75 (by decide), e8]; rfl
  · rw [ef 77 (by decide), e9]; rfl
  · rw [ef 83 (by decide)]; exact e10
  · rw [ef 73 (by decide)]; exact e11
  · rw [ef 71 (by decide)]; exact e12
  · rw [ef 66 (by decide)]; exact e13
  · obtain rfl : s = 0 := by omega
    rw [z60, z63, z64]
    exact ⟨⟨by omega, by omega, by omega, by omega, by omega⟩, fun i hi => by omega, fun _ => rfl, fun i hi => by omega⟩
  · rw [cs_A (by decide)]; exact k44 i
  · rw [ef 32 (by decide)] at hi
    rw [cs_A (by decide), cs_A (by decide), cs_A (by decide), ef 14 (by decide)]
    exact ngd i hi
theorem PRO_cs (h : PRO u v) : PRO u (cs v) := FR.tr h (FR.mo cs_FR (by decide) (by decide) (by decide) (by decide))
theorem PRO_P (h : PRO u v) (a : FR PfI [] PfA [34] v w) : PRO u w := FR.tr h (FR.mo a (by decide) (by decide) (by decide) (by decide))
theorem EQY_cs : EQY v (cs v) := EQY_fr cs_FR (by decide) (by decide)
theorem mks_cs : mks (cs v) = mks v := mks_c (fun k hk => cs_F (by
  have : ∀ k, k ∈ [32, 39, 46, 56, 58] → k ≠ 65 ∧ k ≠ 69 := by decide
  exact this k hk))
theorem PGN_cl {p2 n2 q2 c2 f2 h2 : Int} (k49 : K49 v) (sx : ST (cs v) 0 p2 0 n2 q2 c2 f2 h2 0 0 0 x) (nm : NM TN bw 0 0 0 0 p2 0 n2 q2 c2 f2 h2 0 0) : PGN TN bw x p2 n2 q2 c2 f2 h2 := by
  obtain ⟨b1, ⟨e1, e2, e3, e4, e5, e6, e7, e8, e9, e10, e11, e12⟩, ⟨b2, b3, b4⟩, -, b7, b8⟩ := sx
  refine ⟨⟨e1, e2, e3, e4, e5, e6, e7, e8, e9, e10, e11⟩, ⟨b2, b4⟩, b7, fun i hi => ?_, fun i => ?_, nm⟩
  · rw [show F x 14 = F (cs v) 14 from b1.F (by decide)]; exact b8 i hi
  · rw [show A x 49 i = A (cs v) 49 i from b1.A (by decide), cs_A (by decide)]; exact k49 i
theorem PGN_fr {is as : List Nat} (hv : PGN TN bw v p n q c f h) (a : FR is [] as [] v w) (h1 : ∀ k, k ∈ is → k ∈ [52, 72]) (h2 : ∀ k, k ∈ as → k ∈ [45, 47, 48, 50, 51]) : PGN TN bw w p n q c f h := by
  obtain ⟨e, ⟨e12, e13⟩, k44, ngd, k49, nm⟩ := hv
  have n1 : ∀ k, k ∈ [69, 70, 32, 39, 46, 56, 58, 75, 77, 83, 73, 71, 66, 14] → k ∉ [52, 72] := by decide
  have n2 : ∀ k, k ∈ [44, 23, 24, 25, 49] → k ∉ [45, 47, 48, 50, 51] := by decide
  have ef : ∀ k, k ∈ [69, 70, 32, 39, 46, 56, 58, 75, 77, 83, 73, 71, 66, 14] → F w k = F v k := fun k hk => a.F (fun z => n1 k hk (h1 k z))
  have eA : ∀ k i, k ∈ [44, 23, 24, 25, 49] → A w k i = A v k i := fun k i hk => a.A (fun z => n2 k hk (h2 k z))
  refine ⟨?_, ?_, fun i => by rw [eA 44 i (by decide)]; exact k44 i, fun i hi => ?_, fun i => by rw [eA 49 i (by decide)]; exact k49 i, nm⟩
  · rw [ef 69 (by decide), ef 70 (by decide), ef 32 (by decide), ef 39 (by decide), ef 46 (by decide), ef 56 (by decide), ef 58 (by decide), ef 75 (by decide), ef 77 (by decide), ef 83 (by decide), ef 73 (by decide)]; exact e
  · rw [ef 71 (by decide), ef 66 (by decide)]; exact ⟨e12, e13⟩
  · rw [ef 32 (by decide)] at hi
    rw [eA 24 i (by decide), eA 23 i (by decide), eA 25 i (by decide), ef 14 (by decide)]; exact ngd i hi
theorem PGN_rule (hv : PGN TN bw v p n q c f h) (a : FR [71, 72] [] [] [] v w) (h71 : 0 ≤ F w 71 ∧ F w 71 < 4002) : PGN TN bw w p n q c f h := by
  obtain ⟨e, ⟨e12, e13⟩, k44, ngd, k49, nm⟩ := hv
  have ef : ∀ k, k ≠ 71 → k ≠ 72 → F w k = F v k := fun k h1 h2 => a.F (by simp; exact ⟨h1, h2⟩)
  have eA : ∀ k i, A w k i = A v k i := fun k i => a.A (by intro z; cases z)
  refine ⟨?_, ⟨h71, ?_⟩, fun i => by rw [eA]; exact k44 i, fun i hi => ?_, fun i => by rw [eA]; exact k49 i, nm⟩
  · rw [ef 69 (by decide) (by decide), ef 70 (by decide) (by decide), ef 32 (by decide) (by decide), ef 39 (by decide) (by decide), ef 46 (by decide) (by decide), ef 56 (by decide) (by decide), ef 58 (by decide) (by decide), ef 75 (by decide) (by decide), ef 77 (by decide) (by decide), ef 83 (by decide) (by decide), ef 73 (by decide) (by decide)]; exact e
  · rw [ef 66 (by decide) (by decide)]; exact e13
  · rw [ef 32 (by decide) (by decide)] at hi
    rw [eA, eA, eA, ef 14 (by decide) (by decide)]; exact ngd i hi
theorem FLT_fr {is as : List Nat} (hv : FLT TN u v) (a : FR is [] as [] v w) (h1 : ∀ k, k ∈ is → k ∈ [52, 72]) (h2 : ∀ k, k ∈ as → k ∈ [45, 47, 48, 50, 51]) : FLT TN u w := by
  obtain ⟨b1, b2, b3, b4, b5⟩ := hv
  have n1 : ∀ k, k ∈ [67, 69, 71] → k ∉ [52, 72] := by decide
  have n2 : ∀ k, k ∈ [44, 49] → k ∉ [45, 47, 48, 50, 51] := by decide
  have m1 : ∀ k, k ∈ [52, 72] → k ∈ PfJ := by decide
  have m2 : ∀ k, k ∈ [45, 47, 48, 50, 51] → k ∈ PfB := by decide
  have ef : ∀ k, k ∈ [67, 69, 71] → F w k = F v k := fun k hk => a.F (fun z => n1 k hk (h1 k z))
  have eA : ∀ k i, k ∈ [44, 49] → A w k i = A v k i := fun k i hk => a.A (fun z => n2 k hk (h2 k z))
  refine ⟨FR.tr b1 (FR.mo a (fun k z => m1 k (h1 k z)) (fun _ z => z) (fun k z => m2 k (h2 k z)) (fun _ z => by cases z)), by rw [ef 67 (by decide)]; exact b2, by rw [ef 69 (by decide), ef 71 (by decide)]; exact b3, fun i => by rw [eA 44 i (by decide)]; exact b4 i, fun i => by rw [eA 49 i (by decide)]; exact b5 i⟩
theorem FLT_67 (hv : FLT TN u v) (a : FR [67, 68] [] [] [] v w) (h : F w 67 ≠ 0) : FLT TN u w := by
  obtain ⟨b1, b2, b3, b4, b5⟩ := hv
  exact ⟨FR.tr b1 (FR.mo a (by decide) (by decide) (by decide) (by decide)), h, by rw [a.F (k := 69) (by decide), a.F (k := 71) (by decide)]; exact b3, fun i => by rw [a.A (by decide)]; exact b4 i, fun i => by rw [a.A (by decide)]; exact b5 i⟩
theorem FLT_rule (hv : FLT TN u v) (a : FR [71, 72] [] [] [] v w) (h71 : 0 ≤ F w 71 ∧ F w 71 < 4002) : FLT TN u w := by
  obtain ⟨b1, b2, b3, b4, b5⟩ := hv
  exact ⟨FR.tr b1 (FR.mo a (by decide) (by decide) (by decide) (by decide)), by rw [a.F (by decide)]; exact b2, ⟨by rw [a.F (by decide)]; exact b3.1, by rw [a.F (by decide)]; exact b3.2.1, h71⟩, fun i => by rw [a.A (by decide)]; exact b4 i, fun i => by rw [a.A (by decide)]; exact b5 i⟩
theorem FLT_of {D : Int} (hu : PRO u v) (k49 : K49 v) (hx : FSM (cs v) TN 0 D x) : FLT TN u x := by
  obtain ⟨c1, c2, c3, c4, c5, c6, c7, c8⟩ := hx
  exact ⟨PRO_P (PRO_cs hu) c1, c2, c3, c8, fun i => by rw [show A x 49 i = A (cs v) 49 i from c1.A (by decide), cs_A (by decide)]; exact k49 i⟩
theorem FLT_pg (hu : PRO u v) (hv : PGN TN bw v p n q c f h) (a : FR [67, 68] [] [] [] v w) (h67 : F w 67 ≠ 0) : FLT TN u w := by
  obtain ⟨e, ⟨e12, e13⟩, k44, ngd, k49, nm⟩ := hv
  have h0 := nm.1
  exact ⟨FR.tr hu (FR.mo a (by decide) (by decide) (by decide) (by decide)), h67, by rw [a.F (k := 69) (by decide), a.F (k := 71) (by decide), e.1]; omega, fun i => by rw [a.A (by decide)]; exact k44 i, fun i => by rw [a.A (by decide)]; exact k49 i⟩
end
