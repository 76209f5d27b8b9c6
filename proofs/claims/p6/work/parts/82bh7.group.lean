set_option maxRecDepth 100000
section
variable {m0 w0 m w v u u0 mf w2 : MS} {K nm Nk W : Nat → Nat} {T p n N q q2 X n2 p2 ν : Nat} {sc sc2 t : SCT} {e : List Nat × List Nat × Nat} {own : Bool} {S : SG_M_rowPattern} {SC : SF_Pa_matched} {v1 v2 lg r : Int32}
theorem HDs_ext : ∀ {a b : SCT}, p ≤ q → q2 ≤ p2 → (∀ j, p ≤ j → j < q → K j ≠ 3) → (∀ j, q2 ≤ j → j < p2 → K j ≠ 3) → HDs Nk K W q q2 a b → HDs Nk K W p p2 a b
  | [], [], _, _, g1, g2, h => fun j h1 h2 h3 => by
    by_cases z : j < q
    · exact absurd h3 (g1 j h1 z)
    · by_cases y : j < q2
      · exact h j (by omega) y h3
      · exact absurd h3 (g2 j (by omega) h2)
  | [], _ :: _, _, _, _, _, h => h.elim
  | _ :: _, [], _, _, _, _, h => h.elim
  | e :: t, e2 :: t2, l1, l2, g1, g2, h => ⟨⟨fun x hx => by
      rcases h.1.1 x hx with a | ⟨j, a1, a2, a3, a4⟩
      · exact Or.inl a
      · exact Or.inr ⟨j, ⟨by omega, by omega⟩, a2, a3, a4⟩, fun h60 j h1 h2 h3 h4 => by
      by_cases z : j < q
      · exact absurd h3 (g1 j h1 z)
      · by_cases y : q2 ≤ j
        · exact absurd h3 (g2 j y h2)
        · exact h.1.2.1 h60 j (by omega) (by omega) h3 h4, h.1.2.2⟩, HDs_ext l1 l2 g1 g2 h.2⟩
theorem pat_mn (c : CTZ m0 w0 K T nm Nk) (h : RLP m0 w0 T p m w) (hn : m.1 306 = I (n : Nat)) (hn2 : n ≤ 2 * p) (hR : RNs w sc) (hk : K p = 34) (ho : m.1 666 < 25) (hS0 : ∀ (u0 u : MS) a0, Kfc u0 u → KfE u0 (S.1 u a0)) (hS1 : ∀ (u0 u : MS) a0, Kfc u0 u → KfE u0 (S.2 u a0)) : PP (PAZ N m0 w0 K T nm Nk p n own sc m w) (hm_Pa_pattern N SC m) (fm_M_patternAt N S w v1) := by
  have hc := RLP_c c h
  have hw := RLP_w c h
  have t4 := c.1.1.1
  have hl : p < T := TWK_lt c h.2.2.2.2.1 (by omega) (by omega)
  have hb : bPK (K p) = true := by rw [hk]; rfl
  have ho2 : w.1 70 < 25 := by rw [← h.2.2.2.2.2.1]; exact ho
  unfold hm_Pa_pattern fm_M_patternAt
  have hr : fb_M_patternAt_0 N S () w v1 = fb_M_patternAt_178 N S () (upI w 70 (w.1 70 + 1)) 1 (I ((p + 1 : Nat) : Int)) := by
    rw [pAt_e hw h.2.2.2.2.2.2, hb, pAt_101, show decide (b2c true = 0) = false from rfl, br_fq, if_pos hk, opn_e ho2, bnd_s]
    have hM1 : WP (upI w 70 (w.1 70 + 1)) K T p := WP_e hw (by rw [upI_ne (by decide)]; exact hw.2.1) hw.2.2 rfl rfl
    unfold pAtB fb_M_patternAt_160
    obtain ⟨a, b, -⟩ := WP_i hM1
    rw [show ln 6 = 4002 from rfl, a, b, srt_dc hM1 srK_2, decide_eq_false (by omega), hM1.2.1, i_suc]
    rfl
  rw [hr, cPt_e hc (by omega), hb, show b2c true = 1 from rfl, opens_e ho, bTm_l, hk, show decide (I ((34 : Nat) : Int) = 20) = false from rfl, br_fq, show decide (I ((34 : Nat) : Int) = 22) = false from rfl, br_fq, show decide (I ((34 : Nat) : Int) = 24) = false from rfl, br_fq, show decide (I ((34 : Nat) : Int) = 34) = true from rfl, br_tq]
  generalize hM : upI w 70 (w.1 70 + 1) = M
  have hM1 : WP M K T p := by rw [← hM]; exact WP_e hw (by rw [upI_ne (by decide)]; exact hw.2.1) hw.2.2 rfl rfl
  have q0 : WNQ K T p sc (w.1 66) M M := by
    have := WNQ_0 (w := M) (sc := sc) hM1 (by rw [← hM]; exact RNs_e hR (upI_ne (by decide)) (fun _ _ _ => rfl))
    have e : M.1 66 = w.1 66 := by rw [← hM]; exact upI_ne (by decide)
    rw [e] at this
    exact this
  have q1 : WNQ K T (p + 1) sc (w.1 66) M (upI M 69 (I ((p + 1 : Nat) : Int))) := WNQ_on q0 hl rfl
  have o1 : (upI m 666 (m.1 666 + 1)).1 665 = I (p : Nat) := by rw [upI_ne (by decide)]; exact hc.2.1
  refine l_lt ?_
  rw [o1, i_suc, hc.2.1]
  generalize hC : upI (upI m 666 (m.1 666 + 1)) 665 (I ((p + 1 : Nat) : Int)) = C
  have hC1 : CP C K T (p + 1) := by rw [← hC]; exact ⟨hc.1, upI_at, hl⟩
  have flt : K (p + 1) ≠ 1 → PK (fun v (_ : Int32) => FLW v) (fb_M_patternAt_178 N S () M 1 (I ((p + 1 : Nat) : Int))) := fun hk1 => by
    unfold fb_M_patternAt_178
    refine pk_lt (pk_ck (fun _ => ?_))
    rw [(WP_i q1.1).2.1, srt_dc q1.1 srK_4, decide_eq_false hk1, br_fq]
    refine pk_bnd (fun v r z => ?_)
    exact Kf_pk (yf_fb_M_patternAt_199 (u0 := v) (wrong_s (u0 := v) (by decide) v r z) (hS0 v) (hS1 v))
  by_cases k45 : K (p + 1) = 45
  · exact pp_rf (RFS_T (look_x hC1 k45)) (fun m2 => flt (by omega))
  · rw [look_e hC1 k45, bTm_l]
    have k46 := hC1.1.1.k46 hC1.2.2
    by_cases k1 : K (p + 1) = 1
    · have hl2 : p + 1 < T := TWK_lt c hl (by omega) (by omega)
      rw [k1, show decide (I ((1 : Nat) : Int) = 1) = true from rfl, br_tq]
      unfold hb_Pa_pattern_137 hb_Pa_pattern_162
      have Cn : C.1 306 = I (n : Nat) := by rw [← hC, upI_ne (by decide), upI_ne (by decide)]; exact hn
      rw [lf_e hC1 Cn (by omega), bnd_s]
      generalize hA : adN C n (I (K (p + 1) : Nat)) (I ((p + 1 : Nat) : Int)) (C.2.2.1 7 (p + 1)) 0 0 = A
      have An : A.1 306 = I ((n + 1 : Nat) : Int) := by rw [← hA]; exact adN_n
      have Bn : (upI A 665 (I ((p + 1 + 1 : Nat) : Int))).1 306 = I ((n + 1 : Nat) : Int) := by rw [upI_ne (by decide)]; exact An
      rw [add_e Bn (by omega), bnd_s]
      generalize hB : upI A 665 (I ((p + 1 + 1 : Nat) : Int)) = B at Bn
      have Ai : ∀ k, k ≠ 306 → k ≠ 665 → k ≠ 666 → B.1 k = m.1 k := fun k h1 h2 h3 => by rw [← hB, upI_ne h2, ← hA, adN_i h1, ← hC, upI_ne h2, upI_ne h3]
      have B6 : B.1 666 = m.1 666 + 1 := by rw [← hB, upI_ne (by decide), ← hA, adN_i (by decide), ← hC, upI_ne (by decide), upI_at]
      have B5 : B.1 665 = I ((p + 2 : Nat) : Int) := by rw [← hB, upI_at]
      have Br : ∀ k, k < 16 ∨ 21 < k → B.2.2.1 k = m.2.2.1 k := fun k hk => by rw [← hB]; show A.2.2.1 k = _; rw [← hA, adN_r hk, ← hC]; rfl
      have Bo : KPO n m B := fun j hj => by
        have := adN_o (m := C) (n := n) (a := I (K (p + 1) : Nat)) (b := I ((p + 1 : Nat) : Int)) (c := C.2.2.1 7 (p + 1)) (d := 0) (f := 0) j hj
        rw [hA] at this
        have e1 : B.2.2.1 = A.2.2.1 := by rw [← hB]; rfl
        have e2 : C.2.2.1 = m.2.2.1 := by rw [← hC]; rfl
        unfold nod at this ⊢
        rw [e1]
        rw [e2] at this
        exact this
      have Bx := adN_nod (m := B) (n := n + 1) (a := 17) (b := I (p : Nat)) (c := I ((n + 1 : Nat) : Int)) (d := 0) (f := 0)
      have Bp := adN_o (m := B) (n := n + 1) (a := 17) (b := I (p : Nat)) (c := I ((n + 1 : Nat) : Int)) (d := 0) (f := 0)
      have Di : ∀ k, k ≠ 306 → (adN B (n + 1) 17 (I (p : Nat)) (I ((n + 1 : Nat) : Int)) 0 0).1 k = B.1 k := fun k hk => adN_i hk
      have Dn : (adN B (n + 1) 17 (I (p : Nat)) (I ((n + 1 : Nat) : Int)) 0 0).1 306 = I ((n + 1 + 1 : Nat) : Int) := adN_n
      have Dr : ∀ k, k < 16 ∨ 21 < k → (adN B (n + 1) 17 (I (p : Nat)) (I ((n + 1 : Nat) : Int)) 0 0).2.2.1 k = B.2.2.1 k := fun k hk => adN_r hk
      generalize hD : adN B (n + 1) 17 (I (p : Nat)) (I ((n + 1 : Nat) : Int)) 0 0 = D at Bx Bp Di Dn Dr
      refine l_lt (pp_l ?_)
      have fw : PK (fun w2 (_ : Int32) => WNQ K T (p + 2) sc (w.1 66) w w2) (fb_M_patternAt_178 N S () M 1 (I ((p + 1 : Nat) : Int))) := by
        unfold fb_M_patternAt_178 fb_M_patternAt_199 fb_M_patternAt_239
        refine pk_lt (pk_ck (fun _ => ?_))
        rw [(WP_i q1.1).2.1, srt_dc q1.1 srK_4, decide_eq_true k1, br_tq]
        refine pk_bnd (fun u5 r5 x5 => ?_)
        have q5 := WNQ_kr q1 (yr_fm_M_pattern Kr_rf u5 r5 x5)
        show PK _ _
        rw [show decide ((1 : Int32) = 0) = false from rfl, br_fq]
        refine pk_ck (fun _ => pk_bnd (fun u2 r2 x2 => pk_ck (fun _ => pk_ck (fun _ => pk_lt ?_))))
        exact on_1 (by rw [hM]; exact WNQ_J (WNQ_kr q5 (yr_fm_M_term Kr_rf u2 r2 x2))) hl2
      refine pk_mo fw (fun w2 r q => ?_)
      have k3 : ∀ j, p ≤ j → j < p + 2 → K j ≠ 3 := fun j h1 h2 => by
        by_cases z : j = p
        · rw [z]; omega
        · rw [show j = p + 1 by omega]; omega
      have pcf : PCF m (upI D 666 (D.1 666 - 1)) := by
        refine ⟨fun k hk => ?_, fun k hk => (Dr k hk).trans (Br k hk)⟩
        simp only [List.mem_cons, List.not_mem_nil, or_false] at hk
        by_cases z : k = 666
        · rw [z, upI_at, Di _ (by decide), B6, i_ps]
        · rw [upI_ne z, Di _ (by omega), Ai _ (by omega) (by omega) z]
      refine ⟨p + 2, n + 2, n + 2, sc, 0, fun _ => 32, rfl, ⟨by omega, Nat.le_refl _⟩, RLP_on h (by rw [upI_ne (by decide), Di _ (by decide)]; exact B5) pcf q, ⟨by omega, by rw [upI_ne (by decide)]; exact Dn, by omega⟩, KPO_tr Bo Bp (by omega), Bx.2, pcf, q.2.1, SCO_0 hR, HDs_no (fun j h1 h2 h3 => absurd h3 (k3 j h1 h2)), ⟨by omega, by omega⟩, by rw [lgS_0]; exact q.2.2.1, WNQ_f q, ?_⟩
      exact ptn_neg (a := I (p : Nat)) (b := I ((n + 1 : Nat) : Int)) (c := 0) (g := 0) Bx.1 (by omega) (Nat.le_refl _) (by omega) k3
    · rw [I_dn (a := K (p + 1)) (b := 1) (s := 1) (by omega) (by decide) rfl, decide_eq_false k1, br_fq]
      exact pp_rf (RFS_T (rfs_e hC1)) (fun m2 => flt k1)
end
