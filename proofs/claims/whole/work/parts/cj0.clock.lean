/-! the CLOCK goes on, both sides -/
set_option maxRecDepth 100000
/-- what clock leaves: the time, or what is wrong -/
def RHc (Fv : Int64 → Int64 → Prop) (P : Int64 → Prop) (Fv' : Int64 → Int64 → Prop) (AN PR : Nat) (m w m2 : MS) (r : Int32 ⊕ Nat) (w2 : MS) (r2 : Int32) : Prop := (∃ x : Int, r = Sum.inl (I x) ∧ r2 = I x ∧ F w2 3 = 0 ∧ (m2 = wi m 944 x ∧ w2 = wi (wi w 3 0) 120 x) ∧ FQs WTr PR Fv P Fv' (PWs AN) m2 w2 ∧ TBz m2 w2) ∨ ∃ k : Nat, r = Sum.inr k ∧ (k = 0 ∨ k = 2) ∧ m2 = m ∧ w2 = wi w 3 (if k = 0 then 2 else 1)
section
variable {Fv Fv' : Int64 → Int64 → Prop} {P P' : Int64 → Prop} {AN N PR i j0 : Nat} {m w : MS} {RR : Nat → MS → MS → Prop} {cur : Option Nat} {x x1 x2 : Int}
theorem WL_944 (W0 : WLs RR PR Fv P Fv' P' cur i j0 m w) : WLs RR PR Fv P Fv' P' cur i j0 (wi m 944 x1) (wi w 120 x2) := by
  obtain ⟨⟨d, cx⟩, ⟨dw, lk, wt⟩, pb⟩ := W0.1
  have f1 : FR [944] [] [] [] m (wi m 944 x1) := FR.wi FR.rf (by simp)
  have f2 : FR [120] [] [] [] w (wi w 120 x2) := FR.wi FR.rf (by simp)
  have fc : FC 0 [944] [] [] [] [] [] [] m (wi m 944 x1) := FC.of f1 (by simp) (by simp) (by simp) (by simp)
  have d2 : DWc Fv P PR (wi m 944 x1) := DWc_gl d fc (by simp) (by simp) (fun h0 => by
    have := (d.2 0 h0).1
    unfold SMQ at this ⊢
    rw [fc.Fq (by omega) (by simp), fc.Fq (by omega) (by simp), fc.Fq (by omega) (by simp), fc.Fq (by omega) (by simp)]
    exact this) (by simp) (by rw [fc.Fg (by omega) (by simp)]; exact d.1.2.2.1) (by rw [fc.Fg (by omega) (by simp)]; exact ⟨d.1.2.2.2.1.2.1, d.1.2.2.2.1.2.2⟩) (by simp)
  have lm : ∀ d, LOCm d m (wi m 944 x1) := fun d k hk => ⟨wi_1 (fun c => pq_n (by omega) c.symm), rfl, rfl, rfl⟩
  have lw : ∀ d, LOCw d w (wi w 120 x2) := fun d => ⟨fun _ _ _ => rfl, fun _ _ => rfl, fun _ _ _ => rfl, rfl, fun _ _ _ => rfl, fun _ _ _ => rfl, fun _ _ _ => rfl, fun _ _ _ => rfl⟩
  exact WL_same W0 ⟨⟨d2, CTX_fr cx (f1.1 22 (by simp)) rfl⟩, ⟨DW_fr dw f2 (by simp) (by simp) (by simp) (by simp) (by simp) (by simp) (by simp) (by simp) (by simp) (by simp) (by simp) (by simp) (by simp) (by simp) (by simp) (by simp) (by simp), LK_fr lk f2 (by simp) (by simp), WTQ_fr wt f2 (by simp) (by simp) (by simp)⟩, pb⟩ (PGs_fr f1 f2 (by simp) (by simp) (by simp) (by simp) (by simp) (by simp)) lm lw (f1.1 955 (by simp)) rfl (f2.1 150 (by simp)) (fun _ _ => rfl) rfl
/-- what holds between two calls holds behind a change of the time -/
theorem FQ_944 (h : FQs RR PR Fv P Fv' P' m w) : FQs RR PR Fv P Fv' P' (wi m 944 x1) (wi (wi w 3 0) 120 x2) := by
  obtain ⟨i, W, ⟨h1, h2⟩, ⟨h3, h4⟩, cn, wt⟩ := h
  have f : FR [944] [] [] [] m (wi m 944 x1) := FR.wi FR.rf (by simp)
  have g : FR [3, 120] [] [] [] w (wi (wi w 3 0) 120 x2) := FR.wi (FR.wi FR.rf (by simp)) (by simp)
  have at2 : ATM (wi (wi w 3 0) 120 x2) := by
    have := cn.2.1
    unfold ATM at this ⊢
    rw [FR.F g (by simp)]
    exact this
  exact ⟨i, WL_944 (WL_w3 W), ⟨by rw [FR.F f (by simp)]; exact h1, by rw [FR.F f (by simp)]; exact h2⟩, ⟨by rw [FR.F g (by simp)]; exact h3, by rw [FR.F g (by simp)]; exact h4⟩, CN_pg cn (PG0_fr f g (by simp) (by simp) (by simp) (by simp) (by simp)) at2, WTs_st wt (f.1 950 (by simp)) (fun k _ => rfl) (g.1 125 (by simp)) (fun k _ => rfl)⟩
theorem TB_944 (h : TBz m w) (hx : 0 ≤ x ∧ x < 2147483648) : TBz (wi m 944 x) (wi (wi w 3 0) 120 x) := by
  obtain ⟨t1, t2, ⟨t3, t4, t5⟩, fa, na, t7⟩ := h
  have f : FR [944] [] [] [] m (wi m 944 x) := FR.wi FR.rf (by simp)
  have g : FR [3, 120] [] [] [] w (wi (wi w 3 0) 120 x) := FR.wi (FR.wi FR.rf (by simp)) (by simp)
  refine ⟨TB_tab t1 ⟨f.1 442 (by simp), f.1 449 (by simp)⟩ (fun _ _ => rfl) (fun _ _ => rfl) rfl, PN_st t2 (f.1 953 (by simp)) (fun _ _ => rfl) (g.1 128 (by simp)) (fun _ _ => rfl), ⟨⟨?_, ?_⟩, by rw [f.1 945 (by simp), g.1 121 (by simp)]; exact t4, by rw [f.1 946 (by simp), g.1 119 (by simp)]; exact t5⟩, fa, na, ATf_k t7 (f.1 22 (by simp)) rfl rfl (g.1 14 (by simp)) rfl rfl⟩
  · rw [wi_s1, wi_s1]
  · rw [wi_sm (by omega) (by omega)]
    exact hx.1
theorem badc {v : Int32} (h : x = 1 ∨ x = 2) : fb_M_clock_50 N () w v (I x) = some (wi w 3 x, 0) := by
  unfold fb_M_clock_50
  rw [wi_e, lt_e, wi_s1, show decide (I x = 0) = false from decide_eq_false (fun z => by
    rw [lit0, I_eq (by omega) (by omega) (by omega) (by omega)] at z
    omega), br_f]
theorem i64_ti {y : Int} (h : -2147483648 ≤ y ∧ y < 2147483648) : ((I y).toInt64).toInt = y := by
  rw [Int32.toInt_toInt64, I_ti h.1 h.2]
theorem clk_pp {v : Int32} (hb : F m 943 = 0 ↔ F w 87 = 0) (hf : F w 87 ≠ 0 → FQs WTr PR Fv P Fv' (PWs AN) m w ∧ TBz m w) (h944 : 0 ≤ F m 944 ∧ F m 944 ≤ 1000000000) (h0 : F w 87 = 0 → F m 944 = 0) : PP (RHc Fv P Fv' AN PR m w) (hm_H_clock N m v) (fm_M_clock N w v) := by
  obtain ⟨x, rfl, hx⟩ : ∃ x : Int, v = I x ∧ (-2147483648 ≤ x ∧ x < 2147483648) := ⟨v.toInt, I_of v, ti_rng v⟩
  have r87 := F_r w 87
  have r943 := F_r m 943
  have d0 : decide (I x < 0) = decide (x < 0) := by
    rw [lit0, decL hx.1 hx.2 (by omega) (by omega)]
  have d1 : decide ((1000000000 : Int32) < I x) = decide (1000000000 < x) := by
    rw [show (1000000000 : Int32) = I 1000000000 from rfl, decL (by omega) (by omega) hx.1 hx.2]
  have d2 : decide (I x ≤ 1000000000 - m.1 944) = decide (x ≤ 1000000000 - F m 944) := by
    rw [show (1000000000 : Int32) = I 1000000000 from rfl, I_F (k := 944), I_sub, decI hx.1 hx.2 (by omega) (by omega)]
  have d3 : decide (w.1 87 = 0) = decide (F w 87 = 0) := by
    rw [I_F (k := 87), lit0, decE r87.1 r87.2 (by omega) (by omega)]
  have d4 : decide (m.1 943 = 0) = decide (F m 943 = 0) := by
    rw [I_F (k := 943), lit0, decE r943.1 r943.2 (by omega) (by omega)]
  have b2 : RHc Fv P Fv' AN PR m w m (Sum.inr 2) (wi w 3 1) 0 := Or.inr ⟨2, rfl, Or.inr rfl, rfl, rfl⟩
  have b0 : RHc Fv P Fv' AN PR m w m (Sum.inr 0) (wi w 3 2) 0 := Or.inr ⟨0, rfl, Or.inl rfl, rfl, rfl⟩
  have c1 : fb_M_clock_34 N () w (I x) = some (wi w 3 1, 0) := badc (Or.inl rfl)
  unfold hm_H_clock hb_H_clock_0 hb_H_clock_24 fm_M_clock fb_M_clock_0
  rw [d0, d1, d2, d3, d4, c1]
  by_cases z0 : x < 0
  · rw [decide_eq_true z0, br_t, br_t]
    exact pp_2s b2
  rw [decide_eq_false z0, br_f, br_f]
  by_cases z1 : 1000000000 < x
  · rw [decide_eq_true z1, br_t, br_t]
    exact pp_2s b2
  rw [decide_eq_false z1, br_f, br_f]
  by_cases z3 : F w 87 = 0
  · have e := h0 z3
    unfold fb_M_clock_38
    rw [decide_eq_true z3, br_t, d3, decide_eq_true z3, br_t, decide_eq_true (by omega), br_t, decide_eq_true (hb.mpr z3), br_t, show (2 : Int32) = I 2 from rfl, badc (Or.inr rfl)]
    exact pp_2s b0
  obtain ⟨fq, tb⟩ := hf z3
  have e120 : w.1 120 = I (F m 944) := by
    rw [← tb.2.2.1.1.1]
    exact I_F
  have d5 : decide (lg_cmp ((w.1 120).toInt64 + (I x).toInt64) 1000000000 ≤ 0) = decide (x ≤ 1000000000 - F m 944) := by
    refine decide_eq_decide.mpr ?_
    have s : ((w.1 120).toInt64 + (I x).toInt64).toInt = F m 944 + x := by
      rw [Int64.toInt_add, e120, i64_ti ⟨by omega, by omega⟩, i64_ti hx]
      exact Int.bmod_eq_of_le (by omega) (by omega)
    have k := lgc_gtz ((w.1 120).toInt64 + (I x).toInt64) 1000000000
    rw [s] at k
    have e9 : (1000000000 : Int64).toInt = 1000000000 := rfl
    rw [e9] at k
    constructor
    · intro h
      by_cases c : x ≤ 1000000000 - F m 944
      · exact c
      · have := k.mpr (by omega)
        exact absurd h (by
          intro h2
          exact absurd (Int32.lt_iff_toInt_lt.mp this) (by
            have := Int32.le_iff_toInt_le.mp h2
            omega))
    · intro h
      by_cases c : 0 < lg_cmp ((w.1 120).toInt64 + (I x).toInt64) 1000000000
      · have := k.mp c
        omega
      · rw [Int32.le_iff_toInt_le]
        rw [Int32.lt_iff_toInt_lt] at c
        omega
  rw [decide_eq_false z3, br_f, d5]
  by_cases z5 : x ≤ 1000000000 - F m 944
  · unfold fb_M_clock_38
    rw [decide_eq_true z5, br_t, br_t, decide_eq_false (fun z => z3 (hb.mp z)), br_f, d3, decide_eq_false z3, br_f]
    unfold fb_M_clock_50
    rw [lt_e, show upI w 3 0 = wi w 3 0 from rfl, lt_e, show decide ((wi w 3 0).1 3 = 0) = true from rfl, br_t, lt_e]
    have e1 : (wi w 3 0).1 120 = I (F m 944) := by
      rw [wi_1 (by omega)]
      exact e120
    rw [e1, I_add, I_F (k := 944), I_add, wi_e, wi_e]
    refine pp_2s (Or.inl ⟨F m 944 + x, ?_, ?_, ?_, ⟨rfl, rfl⟩, FQ_944 fq, TB_944 tb ⟨by omega, by omega⟩⟩)
    · rw [wi_s1]
    · rw [wi_s1]
    · rw [wi_ne (by omega), wi_sm (by omega) (by omega)]
  · rw [decide_eq_false z5, br_f, br_f]
    exact pp_2s b2
end
