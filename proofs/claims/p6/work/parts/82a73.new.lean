section
variable {Fv : Int64 → Int64 → Prop} {P P2 : Int64 → Prop} {u v w w2 x y : MS} {PR PR2 N p n n2 opM bnM bxM bx2 ND fr k tp mu CN PN SN UN FN rq q m h mm AN z j : Nat} {ow kd ow2 kd2 ro rn rh cb pc ct pM pE : Nat → Nat} {T : TY} {C : CY}
theorem lg_ge0 {a : Int64} : (0 ≤ lg_cmp a 0) ↔ 0 ≤ a.toInt := by
  have z0 : (0 : Int64).toInt = 0 := rfl
  unfold lg_cmp
  by_cases e : a > 0
  · rw [if_pos e]
    have : (0 : Int64).toInt < a.toInt := Int64.lt_iff_toInt_lt.mp e
    exact ⟨fun _ => by omega, fun _ => by decide⟩
  · rw [if_neg e]
    have e' : ¬ (0 : Int64).toInt < a.toInt := fun z => e (Int64.lt_iff_toInt_lt.mpr z)
    by_cases e2 : a = 0
    · rw [if_pos e2, e2]; exact ⟨fun _ => by decide, fun _ => by decide⟩
    · rw [if_neg e2]
      have : a.toInt ≠ 0 := fun z => e2 (Int64.toInt_inj.mp (z.trans z0.symm))
      exact ⟨fun z => absurd z (by decide), fun z => by omega⟩
theorem lg_lt0 {a : Int64} : (lg_cmp a 0 < 0) ↔ a.toInt < 0 := by
  have := lg_ge0 (a := a)
  constructor
  · intro h
    by_cases e : a.toInt < 0
    · exact e
    · exact absurd (this.mpr (by omega)) (fun q => absurd (Int32.lt_of_lt_of_le h q) (fun r => absurd (Int32.lt_iff_toInt_lt.mp r) (by omega)))
  · intro h
    have n : ¬ 0 ≤ lg_cmp a 0 := fun q => by have := this.mp q; omega
    exact Int32.not_le.mp n
theorem w64_of {x : Int} (h1 : -2147483648 ≤ x) (h2 : x < 2147483648) : (I x).toInt64 = Int64.ofInt x := by
  apply Int64.toInt_inj.mp
  rw [Int32.toInt_toInt64, I_ti h1 h2, Int64.toInt_ofInt_of_le (by omega) (by omega)]
theorem w64_i {x : Int} (h1 : -2147483648 ≤ x) (h2 : x < 2147483648) : (I x).toInt64.toInt = x := by rw [Int32.toInt_toInt64, I_ti h1 h2]
theorem w64_n {x : Int} (h1 : -2147483600 ≤ x) (h2 : x < 2147483600) : (-1 - (I x).toInt64).toInt = -1 - x ∧ (-1 - (-1 - (I x).toInt64)).toInt32 = I x := by
  rw [w64_of (by omega) (by omega), show (-1 : Int64) = Int64.ofInt (-1) from rfl, ← Int64.ofInt_sub, ← Int64.ofInt_sub]
  refine ⟨Int64.toInt_ofInt_of_le (by omega) (by omega), ?_⟩
  rw [show (-1 : Int) - (-1 - x) = x from by omega, ← w64_of (by omega) (by omega), Int32.toInt32_toInt64]
def npS (u : MS) (z : Nat) : MS :=
  wa (wa (wa (wa (wa (wa (wa (wa (wa (wa (wa (wa (wj (wa (wa (wa (wa (wa (wa (wa (wa (wa (wi u 118 ((z : Int) + 1)) 89 z 0) 90 z 0) 92 z 0) 94 z 0) 95 z 1) 106 z 0) 108 z 0) 109 z 5) 110 z 0) 111 z (-1)) 112 z 0) 113 z (-1)) 114 z 0) 115 z 0) 117 z 0) 132 z 0) (96) (60 * z) (-1)) 97 (60 * z) (-1)) 98 (60 * z) 0) 99 (60 * z) 0) 100 (60 * z) 0) 101 (60 * z) 0
theorem newProcess_e (h : F u 118 = z) (hz : z < 24) : fm_M_newProcess N u = some (npS u z, I z) := by
  unfold fm_M_newProcess fb_M_newProcess_0
  rw [I_F' h]
  have i1 : ∀ k n, ln k = n → 24 ≤ n → n < 2147483648 → inb (I (z : Int)) (ln k) = true := fun k n hk h1 h2 => inb_at hk (by omega) (by omega) h2
  have i2 : ∀ k, ln k = 1440 → inb (I (z : Int) * 60) (ln k) = true := fun k hk => by rw [show (60 : Int32) = I 60 from rfl, I_mul]; exact inb_at hk (by omega) (by omega) (by decide)
  have tz : (I (z : Int)).toNatClampNeg = z := by rw [I_tn (by omega) (by omega), Int.toNat_natCast]
  have t60 : (I (z : Int) * 60).toNatClampNeg = 60 * z := by rw [show (60 : Int32) = I 60 from rfl, I_mul, I_tn (by omega) (by omega)]; omega
  have a1 : I (z : Int) + 1 = I ((z : Int) + 1) := by rw [lit1q, I_add]
  simp only [lt_e, i1 89 25 rfl (by decide) (by decide), i1 90 24 rfl (by decide) (by decide), i1 92 24 rfl (by decide) (by decide), i1 94 24 rfl (by decide) (by decide), i1 95 24 rfl (by decide) (by decide), i1 106 24 rfl (by decide) (by decide), i1 108 24 rfl (by decide) (by decide), i1 109 24 rfl (by decide) (by decide), i1 110 24 rfl (by decide) (by decide), i1 111 24 rfl (by decide) (by decide), i1 112 24 rfl (by decide) (by decide), i1 113 24 rfl (by decide) (by decide), i1 114 24 rfl (by decide) (by decide), i1 115 24 rfl (by decide) (by decide), i1 117 24 rfl (by decide) (by decide), i1 132 24 rfl (by decide) (by decide), i2 96 rfl, i2 97 rfl, i2 98 rfl, i2 99 rfl, i2 100 rfl, i2 101 rfl, ck_t, tz, t60, a1]
  rfl
theorem np_fr : FR [118] [] [89, 90, 92, 94, 95, 96, 97, 98, 99, 100, 101, 106, 108, 109, 110, 112, 113, 114, 115, 117, 132] [111] u (npS u z) := by
  unfold npS
  repeat (first | refine FR.wa ?_ (by decide) | refine FR.wj ?_ (by decide) | refine FR.wi ?_ (by decide))
  exact FR.rf
theorem np_row (hk : k ∈ [89, 90, 92, 94, 106, 108, 110, 112, 114, 115, 117, 132]) : A (npS u z) k j = if j = z then 0 else A u k j := by
  simp only [List.mem_cons, List.not_mem_nil, or_false] at hk
  rcases hk with h | h | h | h | h | h | h | h | h | h | h | h <;> subst h <;> (unfold npS; simp only [A_wa (x := 0) (by decide) (by decide), A_wa (x := 1) (by decide) (by decide), A_wa (x := 5) (by decide) (by decide), A_wa (x := -1) (by decide) (by decide), A_wj, A_wi]; simp)
theorem np_95 : A (npS u z) 95 j = if j = z then 1 else A u 95 j := by
  unfold npS; simp only [A_wa (x := 0) (by decide) (by decide), A_wa (x := 1) (by decide) (by decide), A_wa (x := 5) (by decide) (by decide), A_wa (x := -1) (by decide) (by decide), A_wj, A_wi]; simp
theorem np_109 : A (npS u z) 109 j = if j = z then 5 else A u 109 j := by
  unfold npS; simp only [A_wa (x := 0) (by decide) (by decide), A_wa (x := 1) (by decide) (by decide), A_wa (x := 5) (by decide) (by decide), A_wa (x := -1) (by decide) (by decide), A_wj, A_wi]; simp
theorem np_fr0 (hk : k ∈ [98, 99, 100, 101]) : A (npS u z) k j = if j = 60 * z then 0 else A u k j := by
  simp only [List.mem_cons, List.not_mem_nil, or_false] at hk
  rcases hk with h | h | h | h <;> subst h <;> (unfold npS; simp only [A_wa (x := 0) (by decide) (by decide), A_wa (x := 1) (by decide) (by decide), A_wa (x := 5) (by decide) (by decide), A_wa (x := -1) (by decide) (by decide), A_wj, A_wi]; simp)
theorem np_fr1 (hk : k ∈ [96, 97]) : A (npS u z) k j = if j = 60 * z then -1 else A u k j := by
  simp only [List.mem_cons, List.not_mem_nil, or_false] at hk
  rcases hk with h | h <;> subst h <;> (unfold npS; simp only [A_wa (x := 0) (by decide) (by decide), A_wa (x := 1) (by decide) (by decide), A_wa (x := 5) (by decide) (by decide), A_wa (x := -1) (by decide) (by decide), A_wj, A_wi]; simp)
theorem np_118 (hz : z < 24) : F (npS u z) 118 = ((z + 1 : Nat) : Int) := by
  unfold npS; simp only [F_wa, F_wj]; rw [F_wi (by omega) (by omega), if_pos rfl]; omega
theorem np_111 : (npS u z).2.2.2 111 j = if j = z then -1 else u.2.2.2 111 j := by
  unfold npS; simp only [J_wa, J_wj, J_wi, if_true]
theorem np_otf : OTF z u (npS u z) := by
  refine ⟨fun y hy => ?_, fun i hi => ?_, fun i _ => ⟨FR.A np_fr (by decide), FR.A np_fr (by decide), FR.A np_fr (by decide), FR.A np_fr (by decide)⟩, fun i => ?_, fun i hi => ?_, fun y hy => ⟨FR.A np_fr (by decide), ?_, ?_⟩⟩
  · rw [np_row (k := 92) (by decide), np_row (k := 94) (by decide), np_95, np_row (k := 106) (by decide), if_neg hy, if_neg hy, if_neg hy, if_neg hy]; exact ⟨rfl, rfl, rfl, rfl⟩
  · rw [np_fr0 (k := 98) (by decide), np_fr0 (k := 99) (by decide), np_fr0 (k := 100) (by decide), np_fr0 (k := 101) (by decide), if_neg (by omega), if_neg (by omega), if_neg (by omega), if_neg (by omega)]; exact ⟨rfl, rfl, rfl, rfl⟩
  · rw [np_fr1 (k := 97) (by decide)]
    by_cases e : i = 60 * z
    · rw [if_pos e]; exact Or.inr (by omega)
    · rw [if_neg e]; exact Or.inl rfl
  · rw [np_fr1 (k := 96) (by decide), if_neg (by omega)]
  · rw [np_row (k := 110) (by decide), if_neg hy]
  · rw [np_111, if_neg hy]
theorem GT_mo {t : Int64} (hP : ∀ t, P t → P2 t) (g : GT n ow kd P t) : GT n ow kd P2 t := by
  rcases g with ⟨a, b⟩ | g
  · exact Or.inl ⟨a, hP t b⟩
  · exact Or.inr g
theorem HP_mo {h : Nat → Int64} (hP : ∀ t, P t → P2 t) (g : HP h n ow kd Fv P) : HP h n ow kd Fv P2 := fun t ht gt => by
  obtain ⟨f, s, a, b⟩ := g t ht (by
    rcases gt with ⟨a, -⟩ | gt
    · exact absurd ht a
    · exact Or.inr gt)
  exact ⟨f, s, SZ_ext (Nat.le_refl _) (fun _ _ => rfl) (fun _ _ => rfl) (fun _ _ => rfl) (fun _ _ q => q) hP a, b⟩
theorem CX_mo {h : Nat → Int64} (hP : ∀ t, P t → P2 t) (c : CX u p h n ow kd Fv P opM bnM bxM) : CX u p h n ow kd Fv P2 opM bnM bxM := by
  obtain ⟨x1, x2, x3, x4, x5, x6, x7, x8, x9, x10, x11⟩ := c
  exact ⟨x1, HP_mo hP x2, x3, x4, x5, x6, x7, fun i hi => GT_mo hP (x8 i hi), fun i hi => GT_mo hP (x9 i hi), fun i hi => GT_mo hP (x10 i hi), fun e => GT_mo hP (x11 e)⟩
theorem GTP_mo {o : Nat} {t : Int64} (hP : ∀ t, P t → P2 t) (g : GTP Fv P u o t) : GTP Fv P2 u o t := by
  obtain ⟨n, ow, kd, a, b, c, d⟩ := g
  exact ⟨n, ow, kd, a, b, HP_mo hP c, GT_mo hP d⟩
theorem DW_grow (d : DW Fv P PR u) (hP : ∀ t, P t → P2 t) (hz : PR < 24) : DW Fv P2 (PR + 1) (npS u PR) := by
  obtain ⟨⟨d1, d1'⟩, d2, ⟨n4, ow4, kd4, d3a, d3b, d3c⟩, d4, ⟨eF, eM, e1, e2, e3, e4, e5⟩, d6⟩ := d
  have f := np_fr (u := u) (z := PR)
  have h88 : ∀ o, hp (npS u PR) o = hp u o := fun o => by unfold hp; rw [f.2.2.2 88 (by decide)]
  have r89 : ∀ y, y ≠ PR → A (npS u PR) 89 y = A u 89 y := fun y hy => by rw [np_row (k := 89) (by decide), if_neg hy]
  have r109 : ∀ y, y ≠ PR → A (npS u PR) 109 y = A u 109 y := fun y hy => by rw [np_109, if_neg hy]
  refine ⟨⟨np_118 hz, by omega⟩, fun y hy => ?_, ⟨n4, ow4, kd4, by rw [r89 24 (by omega)]; exact d3a, d3b, by rw [h88]; exact HP_mo hP d3c⟩, by rw [FR.F f (by decide)]; exact d4, ⟨eF, eM, by rw [FR.F f (by decide)]; exact e1, by rw [FR.F f (by decide)]; exact e2, e3, ?_, fun i h1 h2 => ?_⟩, fun y hy => ?_⟩
  · by_cases e : y = PR
    · rw [e]
      refine ⟨0, fun _ => 1, fun _ => 0, 0, 0, 0, by rw [np_row (k := 89) (by decide), if_pos rfl]; rfl, rfl, HP_none, by omega, hz, ⟨by rw [np_row (k := 92) (by decide), if_pos rfl]; rfl, by omega⟩, ⟨by rw [np_row (k := 94) (by decide), if_pos rfl]; rfl, by omega⟩, ⟨by rw [np_row (k := 108) (by decide), if_pos rfl]; rfl, by omega⟩, fun i hi => absurd hi (Nat.not_lt_zero i), fun i hi => absurd hi (Nat.not_lt_zero i), fun i hi => absurd hi (Nat.not_lt_zero i), fun e => ?_⟩
      rw [FR.F f (by decide), d4] at e; omega
    · obtain ⟨n, ow, kd, o2, b2, bx, a, c⟩ := PRC_same (w2 := npS u PR) (d2 y (by omega)) (r89 y e) (h88 y) (by rw [np_row (k := 92) (by decide), if_neg e]) (by rw [np_row (k := 94) (by decide), if_neg e]) (by rw [np_row (k := 108) (by decide), if_neg e]) (fun i _ => by rw [f.2.2.2 91 (by decide)]) (fun i _ => by rw [f.2.2.2 93 (by decide)]) (fun i _ => by rw [f.2.2.2 107 (by decide)]) (by rw [FR.F f (by decide), d4]; omega)
      exact ⟨n, ow, kd, o2, b2, bx, a, CX_mo hP c⟩
  · show eM ≤ cE (npS u PR) PR + _
    rw [cE_eq PR (fun p hp => r109 p (by omega))]; omega
  · obtain ⟨q1, q2, q3, q4⟩ := e5 i h1 h2
    rw [FR.A f (by decide), FR.A f (by decide), FR.A f (by decide), f.2.2.2 148 (by decide)]
    refine ⟨⟨q1.1, by omega⟩, q2, q3, ?_⟩
    rcases q4 with ⟨q4, q5⟩ | ⟨q4, q5, q6⟩
    · exact Or.inl ⟨q4, hP _ q5⟩
    · have no : (A u 147 i).toNat ≠ PR := by omega
      refine Or.inr ⟨q4, ?_, GTP_mo hP (GTP_same q6 (r89 _ no) (h88 _))⟩
      rcases q5 with q5 | ⟨q5, q7⟩
      · exact Or.inl q5
      · exact Or.inr ⟨by omega, by rw [r109 _ no]; exact q7⟩
  · by_cases e : y = PR
    · rw [e, np_109, if_pos rfl]; omega
    · rw [r109 y e]; exact d6 y (by omega)
end
