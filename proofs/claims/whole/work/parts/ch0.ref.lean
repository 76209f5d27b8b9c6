/-! the base of a step: one REFERENCE more -/
set_option maxRecDepth 100000
section
variable {Fv Fv' : Int64 → Int64 → Prop} {P P' : Int64 → Prop} {PR p i j0 : Nat} {m w : MS} {RR : Nat → MS → MS → Prop} {cur : Option Nat} {x1 x2 : Int}
theorem WL_945 (W0 : WLs RR PR Fv P Fv' P' cur i j0 m w) : WLs RR PR Fv P Fv' P' cur i j0 (wi m 945 x1) (wi w 121 x2) := by
  obtain ⟨⟨d, cx⟩, ⟨dw, lk, wt⟩, pb⟩ := W0.1
  have f1 : FR [945] [] [] [] m (wi m 945 x1) := FR.wi FR.rf (by simp)
  have f2 : FR [121] [] [] [] w (wi w 121 x2) := FR.wi FR.rf (by simp)
  have fc : FC 0 [945] [] [] [] [] [] [] m (wi m 945 x1) := FC.of f1 (by simp) (by simp) (by simp) (by simp)
  have d2 : DWc Fv P PR (wi m 945 x1) := DWc_gl d fc (by simp) (by simp) (fun h0 => by
    have := (d.2 0 h0).1
    unfold SMQ at this ⊢
    rw [fc.Fq (by omega) (by simp), fc.Fq (by omega) (by simp), fc.Fq (by omega) (by simp), fc.Fq (by omega) (by simp)]
    exact this) (by simp) (by rw [fc.Fg (by omega) (by simp)]; exact d.1.2.2.1) (by rw [fc.Fg (by omega) (by simp)]; exact ⟨d.1.2.2.2.1.2.1, d.1.2.2.2.1.2.2⟩) (by simp)
  have lm : ∀ d, LOCm d m (wi m 945 x1) := fun d k hk => ⟨wi_1 (fun c => pq_n (by omega) c.symm), rfl, rfl, rfl⟩
  have lw : ∀ d, LOCw d w (wi w 121 x2) := fun d => ⟨fun _ _ _ => rfl, fun _ _ => rfl, fun _ _ _ => rfl, rfl, fun _ _ _ => rfl, fun _ _ _ => rfl, fun _ _ _ => rfl, fun _ _ _ => rfl⟩
  exact WL_same W0 ⟨⟨d2, CTX_fr cx (f1.1 22 (by simp)) rfl⟩, ⟨DW_fr dw f2 (by simp) (by simp) (by simp) (by simp) (by simp) (by simp) (by simp) (by simp) (by simp) (by simp) (by simp) (by simp) (by simp) (by simp) (by simp) (by simp) (by simp), LK_fr lk f2 (by simp) (by simp), WTQ_fr wt f2 (by simp) (by simp) (by simp)⟩, pb⟩ (PGs_fr f1 f2 (by simp) (by simp) (by simp) (by simp) (by simp) (by simp)) lm lw (f1.1 955 (by simp)) rfl (f2.1 150 (by simp)) (fun _ _ => rfl) rfl
/-- one REFERENCE more -/
theorem BA_rf (ba : BAs Fv P Fv' P' PR p i m w) : BAs Fv P Fv' P' PR p i (wi m 945 (F m 945 + 1)) (wi w 121 (F w 121 + 1)) := by
  obtain ⟨hpp, W, ⟨h955, h956⟩, ⟨h149, h150⟩, cn, wt, tb, ⟨hal, hal'⟩, n1, n2⟩ := ba
  have m1 : ∀ k, k ≠ 945 → (wi m 945 (F m 945 + 1)).1 k = m.1 k := fun k h1 => wi_1 h1
  have w1 : ∀ k, k ≠ 121 → (wi w 121 (F w 121 + 1)).1 k = w.1 k := fun k h1 => wi_1 h1
  have mF : ∀ k, k ≠ 945 → F (wi m 945 (F m 945 + 1)) k = F m k := fun k h1 => congrArg Int32.toInt (m1 k h1)
  have wF : ∀ k, k ≠ 121 → F (wi w 121 (F w 121 + 1)) k = F w k := fun k h1 => congrArg Int32.toInt (w1 k h1)
  have W2 : WLs (RRt p) PR Fv P Fv' P' none i 0 (wi m 945 (F m 945 + 1)) (wi w 121 (F w 121 + 1)) := WL_945 W
  obtain ⟨t1, t2, ⟨t3, t4, t5⟩, t6, fa, na, t7⟩ := tb
  obtain ⟨c1, c2, c3, c4, c5, c6⟩ := cn
  have g1 : F m 945 = F w 121 := congrArg Int32.toInt t4
  refine ⟨hpp, W2, ⟨by rw [mF 955 (by omega)]; exact h955, by rw [mF 956 (by omega)]; exact h956⟩, ⟨by rw [wF 149 (by omega)]; exact h149, by rw [wF 150 (by omega)]; exact h150⟩, ⟨c1, ?_, by rw [wF 14 (by omega)]; exact c3, c4, fun t ht => by rw [wF 14 (by omega)]; exact c5 t ht, fun t ht => by rw [mF 22 (by omega)]; exact c6 t ht⟩, WTs_st wt (m1 950 (by omega)) (fun _ _ => rfl) (w1 125 (by omega)) (fun _ _ => rfl), ⟨TB_tab t1 ⟨m1 442 (by omega), m1 449 (by omega)⟩ (fun _ _ => rfl) (fun _ _ => rfl) rfl, PN_st t2 (m1 953 (by omega)) (fun _ _ => rfl) (w1 128 (by omega)) (fun _ _ => rfl), ⟨CLk_st t3 (m1 944 (by omega)) (w1 120 (by omega)), ?_, by rw [m1 946 (by omega), w1 119 (by omega)]; exact t5⟩, by rw [m1 1106 (by omega), w1 165 (by omega)]; exact t6, fa, na, ATf_k t7 (m1 22 (by omega)) rfl rfl (w1 14 (by omega)) rfl rfl⟩, ⟨?_, hal'⟩, by rw [mF 942 (by omega)]; exact n1, by rw [wF 118 (by omega)]; exact n2⟩
  · unfold ATM at c2 ⊢
    rw [wF 14 (by omega)]
    exact c2
  · rw [wi_s1, wi_s1, g1]
  · rw [mF _ (fun c => pq_n (by omega) c.symm)]
    exact hal
end
section
variable {T : TYc} {Fv Fv' : Int64 → Int64 → Prop} {P : Int64 → Prop} {AN : Nat} {TT : TY} {CC : CY} {pM pE : Nat → Nat} {ND CN PN SN UN FN N PR p i v mu M1 M2 f U B W Y l j a n : Nat} {m w : MS} {Q : MS → Int32 → MS → Int32 → Prop} {b : Int → Nat → Nat → Prop} {ow kw ow' kd' : Nat → Nat} {nb : Nat → Nat} {Hs Os : Nat → List Nat} {y : Option (Nat × Nat × Nat)}
/-- a new REFERENCE -/
theorem pk_ref (ih : ∀ M1 v m w, SIA T Fv P Fv' AN TT CC pM pE ND CN PN SN UN FN p v m w → PP Q (qgo (SAf T Fv P p) N M1 m p (I ((v : Nat) : Int))) (gg_M_go N M2 w (I ((p : Nat) : Int)))) (s : STx T Fv P Fv' AN TT CC pM pE ND CN PN SN UN FN N PR p i v f b U B W Y l ow kw ow' kd' j nb Hs Os y a n m w) (cr : ∃ f, CRs (A m 23) (ROs w) (w.2.2.2 34) f y (a + 2) (n + 1) (Hs j) (Os j)) : PP Q (bnd (hm_Ma_predefined N m p (I 11)) (fun u _ => q195 (SAf T Fv P p) N (qgo (SAf T Fv P p) N M1) u p (I ((v : Nat) : Int)))) (bnd (fm_M_predefinedRun N (wa w 98 (60 * p + j) ((n + 1 : Nat) : Int)) (I 12)) (fun u _ => KRs Fv' AN TT CC ND CN UN FN N p mu M2 w u)) := by
  obtain ⟨⟨r5, r8, r2⟩, ⟨ha, hn, hv, hpp, hj⟩, nd, ⟨pl, ru, bd⟩, ⟨n1, n2, n3⟩, bH, bW, bB, bY, nND, hN⟩ := st_b s
  obtain ⟨bd1, bd2, bd3, bd4⟩ := bd
  obtain ⟨⟨-, hpr, pr24, hi, hf⟩, ⟨per, hAN⟩, ba, -⟩ := id s
  have t945 := ba.2.2.2.2.2.2.1.2.2.1.2.1
  refine op_ref (K1 := fun u => q195 (SAf T Fv P p) N (qgo (SAf T Fv P p) N M1) u p (I ((v : Nat) : Int))) (K2 := fun u => KRs Fv' AN TT CC ND CN UN FN N p mu M2 w u) hpp ru t945 (by omega) bd2 ⟨bd3, bd4⟩ (PLs_98 pl) FGw.goto (by rw [wa_sm (by omega) (by omega)]) cr (fun m3 w3 a1 a2 a3 a4 a5 => ?_)
  have r9 := a2.2.2.2.1
  have sb : SCs p (wi m 945 (F m 945 + 1)) (wi w 121 (F w 121 + 1)) → SCs p m3 w3 := fun s => a5 (by
    have m1 : ∀ k, (wi m 945 (F m 945 + 1)).1 (pq p k) = m.1 (pq p k) := fun k => wi_1 (fun c => pq_n (by omega) c.symm)
    obtain ⟨s1, s2, s3, s4, s5, s6⟩ := s
    rw [m1] at s1 s2 s3 s4 s5
    refine ⟨s1, s2, s3, s4, s5, fun i hi => s6 i ?_⟩
    have e : F (wi m 945 (F m 945 + 1)) (pq p 15) = F m (pq p 15) := congrArg Int32.toInt (m1 15)
    omega)
  exact (aft_gg hN per ba.2.2.2.1.1 ih (BA_rf ba) (by omega) a3 a4 a1 sb (Or.inl ⟨j, nb, Hs, Os, y, _, _, a2⟩) (by omega) a2.2.2.2.2.2.1.2.1).1
end
