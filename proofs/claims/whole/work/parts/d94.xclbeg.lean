/-! a CLAUSE, both: all of it -/
set_option maxRecDepth 100000
section
variable {α β : Type} {m0 w0 m w m2 w2 m3 w3 v u mP wP V Z : MS} {K nm Nk W W2 : Nat → Nat} {N T D d o o2 a b b0 c cm cmP cm2 q r s lo ph mid hi i j f n k k0 kk p tk xa xb xc xd xe gx kg kb mb M kf : Nat} {Q Qp Q2 Q3 : Nat → Nat} {sc scP sc2 sc3 t t2 : SCT} {e e2 : List Nat × List Nat × Nat} {g lst own own2 : Bool} {L hs ps fs : List Nat} {fof cvr : Int → Int → Int} {rt v1 v2 v3 v4 v5 line xw : Int32} {G : MS → Int32 → Int32 → Int32 → Option (MS × Int32)} {C : Nat → Int} {P R : Nat → Nat → Int} {J : Nat → Int64}
theorem PCS_713 (h : PCS m0 nm m a cm sc own) (hx : decide (xw = 0) = !own2) : PCS m0 nm (upI m 713 xw) a cm sc own2 := by
  obtain ⟨h1, h3, h4, h5, h6, h7⟩ := h
  exact ⟨⟨fun k hk => by rw [upI_ne (by omega)]; exact h1.1 k hk, h1.2⟩, ⟨by rw [upI_ne (by decide)]; exact h3.1, h3.2.1, by rw [upI_ne (by decide)]; exact h3.2.2.1, h3.2.2.2.1, CNl_fr h3.2.2.2.2 rfl (fun _ _ => rfl)⟩, ⟨by rw [upI_ne (by decide)]; exact h4.1, h4.2⟩, by rw [upI_at]; exact hx, h6, h7⟩
theorem RFQ_rf : RFQ k0 w w i := ⟨fun _ _ _ _ => rfl, fun _ _ => rfl, fun _ _ _ _ => rfl, fun _ _ _ _ _ => rfl, fun _ _ _ => rfl⟩
/-- a CLAUSE begins, here -/
theorem cl_beg {A' : Option (MS × α)} {RR : MS → α → MS → Int32 → Prop} {S : SG_M_behind} (c : CTZ m0 w0 K T nm Nk) (hR : XRS w0 T w lo Q sc) (k20 : K lo = 20) (hlT : lo < T) (hh : ∀ V, Q 46 < 16000 → XRS w0 T V (lo + 1) (qst Q 46 (Q 46 + 1)) sc → QRR Q w V → V.2.2.2 = w.2.2.2 → (∀ k n, (k < 40 ∨ 45 < k ∨ k = 43) ∨ n ≠ Q 46 → V.2.2.1 k n = w.2.2.1 k n) → V.2.2.1 44 (Q 46) = v1 → V.2.2.1 45 (Q 46) = -1 → V.2.2.1 41 (Q 46) = 0 → (K (lo + 1) = 21 → PP RR A' (kb_M_clause_183 N S (kg_M_clause N S N) V (I (Q 46 : Nat)))) ∧ (K (lo + 1) ≠ 21 → PP RR A' (kg_M_clause N S N V (I (Q 46 : Nat)) (-1) 1))) : PP RR A' (km_M_clause N S w v1) := by
  have q46 := hR.2 46 (by decide)
  unfold km_M_clause kb_M_clause_0
  rw [q46.1, i_suc, i_nt2 (p := Q 46) (by omega)]
  refine r_lt (r_ck (fun z => r_lt ?_))
  have hk : Q 46 < 16000 := by
    have := (I_inb (n := ln 44) (x := ((Q 46 : Nat) : Int)) (by omega) (by omega)).mp z
    have l44 : ln 44 ≤ 16000 := by decide
    omega
  have g46 : ∀ k, 40 ≤ k → k ≤ 45 → grp k = 46 := fun k k1 k2 => by unfold grp; rw [if_neg (by omega), if_neg (by omega), if_pos ⟨k1, k2⟩]
  have h1 : W46 (upI w 46 (I ((Q 46 + 1 : Nat) : Int))) (upA (upI w 46 (I ((Q 46 + 1 : Nat) : Int))) 44 (upd ((upI w 46 (I ((Q 46 + 1 : Nat) : Int))).2.2.1 44) (Q 46) v1)) 44 (Q 46) v1 := w46_of
  generalize upA (upI w 46 (I ((Q 46 + 1 : Nat) : Int))) 44 (upd ((upI w 46 (I ((Q 46 + 1 : Nat) : Int))).2.2.1 44) (Q 46) v1) = V1 at h1
  refine r_ck (fun _ => r_lt ?_)
  have h2 : W46 V1 (upA V1 45 (upd (V1.2.2.1 45) (Q 46) (-1))) 45 (Q 46) (-1) := w46_of
  generalize upA V1 45 (upd (V1.2.2.1 45) (Q 46) (-1)) = V2 at h2
  refine r_ck (fun _ => r_lt ?_)
  have h3 : W46 V2 (upA V2 42 (upd (V2.2.2.1 42) (Q 46) (-1))) 42 (Q 46) (-1) := w46_of
  generalize upA V2 42 (upd (V2.2.2.1 42) (Q 46) (-1)) = V3 at h3
  refine r_ck (fun _ => r_lt ?_)
  have h4 : W46 V3 (upA V3 41 (upd (V3.2.2.1 41) (Q 46) 0)) 41 (Q 46) 0 := w46_of
  generalize upA V3 41 (upd (V3.2.2.1 41) (Q 46) 0) = V4 at h4
  refine r_ck (fun _ => r_lt ?_)
  have h5 : W46 V4 (upA V4 40 (upd (V4.2.2.1 40) (Q 46) (-1))) 40 (Q 46) (-1) := w46_of
  generalize upA V4 40 (upd (V4.2.2.1 40) (Q 46) (-1)) = V5 at h5
  have i5 : V5.1 = (upI w 46 (I ((Q 46 + 1 : Nat) : Int))).1 := by rw [h5.1, h4.1, h3.1, h2.1, h1.1]
  have j5 : V5.2.2.2 = w.2.2.2 := by rw [h5.2.1, h4.2.1, h3.2.1, h2.2.1, h1.2.1]; rfl
  have r5 : ∀ k n, (k < 40 ∨ 45 < k ∨ k = 43) ∨ n ≠ Q 46 → V5.2.2.1 k n = w.2.2.1 k n := fun k n hk => by
    rw [h5.2.2.1 k n (by omega), h4.2.2.1 k n (by omega), h3.2.2.1 k n (by omega), h2.2.2.1 k n (by omega), h1.2.2.1 k n (by omega)]; rfl
  have r44 : V5.2.2.1 44 (Q 46) = v1 := by
    rw [h5.2.2.1 44 _ (Or.inl (by decide)), h4.2.2.1 44 _ (Or.inl (by decide)), h3.2.2.1 44 _ (Or.inl (by decide)), h2.2.2.1 44 _ (Or.inl (by decide))]
    exact h1.2.2.2
  have r45 : V5.2.2.1 45 (Q 46) = -1 := by
    rw [h5.2.2.1 45 _ (Or.inl (by decide)), h4.2.2.1 45 _ (Or.inl (by decide)), h3.2.2.1 45 _ (Or.inl (by decide))]
    exact h2.2.2.2
  have r41 : V5.2.2.1 41 (Q 46) = 0 := by
    rw [h5.2.2.1 41 _ (Or.inl (by decide))]
    exact h4.2.2.2
  have vi : ∀ k, k ≠ 46 → V5.1 k = w.1 k := fun k hk => by rw [i5, upI_ne hk]
  have X5 : XRS w0 T V5 lo (qst Q 46 (Q 46 + 1)) sc := by
    refine ⟨?_, fun k hk => ?_⟩
    · rw [qst_no (by decide)]
      exact PRS_x hR.1 (fun k hk => vi k (by rintro rfl; revert hk; decide)) (fun k hk => funext (fun n => r5 k n (by omega))) ((vi 69 (by decide)).trans hR.1.2.1.1)
    · by_cases z : k = 46
      · subst z
        rw [i5, upI_at, qst_at]
        exact ⟨rfl, by omega⟩
      · rw [qst_no z, vi k z]; exact hR.2 k hk
  have Q5 : QRR Q w V5 := ⟨fun k a1 a2 a3 => funext (fun n => r5 k n (Or.inl (by
    by_cases y : 40 ≤ k ∧ k ≤ 45
    · rw [g46 k y.1 y.2] at a1; cases a1
    · omega))), fun k n a1 a2 => r5 k n (by
    by_cases y : 40 ≤ k ∧ k ≤ 45
    · rw [g46 k y.1 y.2] at a2
      exact Or.inr (by omega)
    · exact Or.inl (by omega)), fun k n _ => by rw [j5]⟩
  refine nd_s c X5 (k := 20) (s' := 0) (by decide) rfl (fun _ => ?_)
  have X6 := XRS_ad X5 hlT
  obtain ⟨x1, x2⟩ := hh (adv V5 lo) hk X6 Q5 j5 r5 r44 r45 r41
  have hw6 := XRS_wp c X6
  rw [decide_eq_true X6.1.2.2.1, br_t, isS_e (k := 21) (s := 1) hw6 (by decide) rfl, bnd_s]
  by_cases z : K (lo + 1) = 21
  · rw [if_pos z, show decide ((1 : Int32) = 0) = false from rfl, br_f]
    exact x1 z
  · rw [if_neg z, show decide ((0 : Int32) = 0) = true from rfl, br_t]
    exact x2 z
end
