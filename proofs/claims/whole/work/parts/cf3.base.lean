/-! the base of a step: one CALL, one REFERENCE more -/
set_option maxRecDepth 100000
section
variable {Fv Fv' : Int64 → Int64 → Prop} {P P' : Int64 → Prop} {PR p i j0 : Nat} {m w : MS} {RR : Nat → MS → MS → Prop} {cur : Option Nat} {x1 x2 : Int}
theorem WL_946 (W0 : WLs RR PR Fv P Fv' P' cur i j0 m w) : WLs RR PR Fv P Fv' P' cur i j0 (wi m 946 x1) (wi w 119 x2) := by
  obtain ⟨⟨d, cx⟩, ⟨dw, lk, wt⟩, pb⟩ := W0.1
  have f1 : FR [946] [] [] [] m (wi m 946 x1) := FR.wi FR.rf (by simp)
  have f2 : FR [119] [] [] [] w (wi w 119 x2) := FR.wi FR.rf (by simp)
  have fc : FC 0 [946] [] [] [] [] [] [] m (wi m 946 x1) := FC.of f1 (by simp) (by simp) (by simp) (by simp)
  have d2 : DWc Fv P PR (wi m 946 x1) := DWc_gl d fc (by simp) (by simp) (fun h0 => by
    have := (d.2 0 h0).1
    unfold SMQ at this ⊢
    rw [fc.Fq (by omega) (by simp), fc.Fq (by omega) (by simp), fc.Fq (by omega) (by simp), fc.Fq (by omega) (by simp)]
    exact this) (by simp) (by rw [fc.Fg (by omega) (by simp)]; exact d.1.2.2.1) (by rw [fc.Fg (by omega) (by simp)]; exact ⟨d.1.2.2.2.1.2.1, d.1.2.2.2.1.2.2⟩) (by simp)
  have lm : ∀ d, LOCm d m (wi m 946 x1) := fun d k hk => ⟨wi_1 (fun c => pq_n (by omega) c.symm), rfl, rfl, rfl⟩
  have lw : ∀ d, LOCw d w (wi w 119 x2) := fun d => ⟨fun _ _ _ => rfl, fun _ _ => rfl, fun _ _ _ => rfl, rfl, fun _ _ _ => rfl, fun _ _ _ => rfl, fun _ _ _ => rfl, fun _ _ _ => rfl⟩
  exact WL_same W0 ⟨⟨d2, CTX_fr cx (f1.1 22 (by simp)) rfl⟩, ⟨DW_fr dw f2 (by simp) (by simp) (by simp) (by simp) (by simp) (by simp) (by simp) (by simp) (by simp) (by simp) (by simp) (by simp) (by simp) (by simp) (by simp) (by simp) (by simp), LK_fr lk f2 (by simp) (by simp), WTQ_fr wt f2 (by simp) (by simp) (by simp)⟩, pb⟩ (PGs_fr f1 f2 (by simp) (by simp) (by simp) (by simp) (by simp) (by simp)) lm lw (f1.1 955 (by simp)) rfl (f2.1 150 (by simp)) (fun _ _ => rfl) rfl
/-- one CALL more -/
theorem BA_cb (ba : BAs Fv P Fv' P' PR p i m w) : BAs Fv P Fv' P' PR p i (cbM m) (cbW w) := by
  obtain ⟨hpp, W, ⟨h955, h956⟩, ⟨h149, h150⟩, cn, wt, tb, ⟨hal, hal'⟩, n1, n2⟩ := ba
  have m1 : ∀ k, k ≠ 946 → k ≠ 1106 → (cbM m).1 k = m.1 k := fun k h1 h2 => by unfold cbM; rw [wi_1 h2, wi_1 h1]
  have w1 : ∀ k, k ≠ 119 → k ≠ 165 → (cbW w).1 k = w.1 k := fun k h1 h2 => by unfold cbW; rw [wi_1 h2, wi_1 h1]
  have mF : ∀ k, k ≠ 946 → k ≠ 1106 → F (cbM m) k = F m k := fun k h1 h2 => congrArg Int32.toInt (m1 k h1 h2)
  have wF : ∀ k, k ≠ 119 → k ≠ 165 → F (cbW w) k = F w k := fun k h1 h2 => congrArg Int32.toInt (w1 k h1 h2)
  have W2 : WLs (RRt p) PR Fv P Fv' P' none i 0 (cbM m) (cbW w) := WL_reg (WL_946 W) (FR.wi FR.rf (by simp)) (FR.wi FR.rf (by simp))
  obtain ⟨t1, t2, ⟨t3, t4, t5⟩, t6, fa, na, t7⟩ := tb
  obtain ⟨c1, c2, c3, c4, c5, c6⟩ := cn
  have g1 : F m 946 = F w 119 := congrArg Int32.toInt t5
  have g2 : F m 1106 = F w 165 := congrArg Int32.toInt t6
  refine ⟨hpp, W2, ⟨by rw [mF 955 (by omega) (by omega)]; exact h955, by rw [mF 956 (by omega) (by omega)]; exact h956⟩, ⟨by rw [wF 149 (by omega) (by omega)]; exact h149, by rw [wF 150 (by omega) (by omega)]; exact h150⟩, ⟨c1, ?_, by rw [wF 14 (by omega) (by omega)]; exact c3, c4, fun t ht => by rw [wF 14 (by omega) (by omega)]; exact c5 t ht, fun t ht => by rw [mF 22 (by omega) (by omega)]; exact c6 t ht⟩, WTs_st wt (m1 950 (by omega) (by omega)) (fun _ _ => rfl) (w1 125 (by omega) (by omega)) (fun _ _ => rfl), ⟨TB_tab t1 ⟨m1 442 (by omega) (by omega), m1 449 (by omega) (by omega)⟩ (fun _ _ => rfl) (fun _ _ => rfl) rfl, PN_st t2 (m1 953 (by omega) (by omega)) (fun _ _ => rfl) (w1 128 (by omega) (by omega)) (fun _ _ => rfl), ⟨CLk_st t3 (m1 944 (by omega) (by omega)) (w1 120 (by omega) (by omega)), by rw [m1 945 (by omega) (by omega), w1 121 (by omega) (by omega)]; exact t4, ?_⟩, ?_, fa, na, ATf_k t7 (m1 22 (by omega) (by omega)) rfl rfl (w1 14 (by omega) (by omega)) rfl rfl⟩, ⟨?_, hal'⟩, by rw [mF 942 (by omega) (by omega)]; exact n1, by rw [wF 118 (by omega) (by omega)]; exact n2⟩
  · unfold ATM at c2 ⊢
    rw [wF 14 (by omega) (by omega)]
    exact c2
  · unfold cbM cbW
    rw [wi_1 (by omega), wi_s1, wi_1 (by omega), wi_s1, g1]
  · unfold cbM cbW
    rw [wi_s1, wi_s1, g2]
  · rw [mF _ (fun c => pq_n (by omega) c.symm) (fun c => pq_n (by omega) c.symm)]
    exact hal
end
