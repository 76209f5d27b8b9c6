set_option maxRecDepth 100000
def PSZ (N : Nat) (m0 w0 : MS) (K : Nat → Nat) (T : Nat) (nm Nk : Nat → Nat) (p n : Nat) (e : List Nat × List Nat × Nat) (t : SCT) (m w m2 : MS) (z : Int32 ⊕ Nat) (w2 : MS) (rr : Int32) : Prop := match z with
  | .inr _ => FLW w2
  | .inl φ => rr ≠ -1 ∧ ∃ (l : List Nat) (p2 n2 : Nat) (sc2 : SCT) (X : Nat) (W : Nat → Nat) (Rf Zf : Bool) (CL : Int32 × Int32 × Int32 → Prop), φ = I ((l.headD 0 : Nat) : Int) ∧ l ≠ [] ∧ p < p2 ∧ STQ m0 w0 K T Nk false m w p n (e :: t) 1 m2 w2 p2 n2 sc2 X W Rf Zf CL ∧ PLW N K nm m2 n n2 W e.1.length l p p2 (e :: t) sc2 X Rf Zf (BCo N CL) ∧ nms sc2 = nms (e :: t) ∧ n < l.headD 0
def PLZ (N : Nat) (m0 w0 : MS) (K : Nat → Nat) (T : Nat) (nm Nk : Nat → Nat) (mB wB : MS) (p0 n0 : Nat) (e : List Nat × List Nat × Nat) (t : SCT) (p n π : Nat) (sc : SCT) (X : Nat) (W : Nat → Nat) (Rf Zf : Bool) (CL : Int32 × Int32 × Int32 → Prop) (φ : Int32) (m m2 : MS) (z : Int32 ⊕ Nat) (w2 : MS) (rr : Int32) : Prop := match z with
  | .inr _ => FLW w2
  | .inl φ' => (φ' = φ ∧ rr ≠ -1) ∧ ∃ (l : List Nat) (p2 n2 : Nat) (sc2 : SCT) (X' : Nat) (W' : Nat → Nat) (R' Z' : Bool) (CL' : Int32 × Int32 × Int32 → Prop), STQ m0 w0 K T Nk false mB wB p0 n0 (e :: t) 1 m2 w2 p2 n2 sc2 (max X X') (mrg p W W') (Rf || R') (Zf || Z') (fun x => CL x ∨ CL' x) ∧ PLW N K nm m2 n n2 W' e.1.length l p p2 sc sc2 X' R' Z' (BCo N CL') ∧ m2.2.2.1 21 π = I ((l.headD 0 : Nat) : Int) ∧ (∀ j, j ≤ n → nod m2 j = nod m j ∧ (j ≠ π → m2.2.2.1 21 j = m.2.2.1 21 j)) ∧ Kcc m m2 ∧ nms sc2 = nms (e :: t) ∧ p ≤ p2 ∧ n ≤ n2
section
variable {α : Type} {R : MS → Int32 ⊕ Nat → MS → Int32 → Prop} {A : Option (MS × α)} {m0 w0 m w v u m2 m3 w2 x y z mF mB wB mp mg : MS} {K nm Nk W W1 W2 WA WB : Nat → Nat} {T p n N q q1 X Y X1 X2 XA n0 n1 n2 n3 lo lo2 l1 l2 np ng p0 p2 p4 ν μ π a b L L' k d o M D s : Nat} {sc sc1 sc2 sc3 sc4 sc5 t t2 t3 t4 t5 : SCT} {e e2 e3 e4 e5 : List Nat × List Nat × Nat} {gd Rf Rg Zf R1 Z1 own : Bool} {BC : MS → Prop} {v1 v2 v3 v4 v5 v6 v1c r ξ φ : Int32} {S : SG_M_behind} {NC : Nat → Prop} {CL CM CL1 : Int32 × Int32 × Int32 → Prop} {l lp lg : List Nat}
theorem PLW_w : ∀ {l : List Nat} {p p2 : Nat} {sc sc2 : SCT} {X : Nat} {Rf Zf : Bool} {BC : MS → Prop}, (∀ j, p ≤ j → j < p2 → W2 j = W j) → PLW N K nm m2 lo n2 W b l p p2 sc sc2 X Rf Zf BC → PLW N K nm m2 lo n2 W2 b l p p2 sc sc2 X Rf Zf BC
  | [], _, _, _, _, _, _, _, _, _, h => h
  | π :: l, p, p2, sc, sc2, X, Rf, Zf, BC, hw, ⟨q, q1, q2, sc1, e3, t3, X1, X2, X3, R1, R2, R3, Z1, Z2, Z3, B1, B2, B3, h1, g1, ⟨mi, li, ni, hT, hB, h2b⟩, h3, h4, h5, hb, h6, h7⟩ => by
    have := (PLW_len h6).1
    exact ⟨q, q1, q2, sc1, e3, t3, X1, X2, X3, R1, R2, R3, Z1, Z2, Z3, B1, B2, B3, h1, g1, ⟨mi, li, ni, TRB_w (fun j a b => hw j (by omega) (by omega)) hT, BDB_w (fun j a b => hw j (by omega) (by omega)) hB, h2b⟩, h3, h4, h5, hb, PLW_w (fun j a b => hw j (by omega) b) h6, h7⟩
theorem PLW_lo (hl : lo2 ≤ lo) : ∀ {l : List Nat} {p p2 : Nat} {sc sc2 : SCT} {X : Nat} {Rf Zf : Bool} {BC : MS → Prop}, PLW N K nm m2 lo n2 W b l p p2 sc sc2 X Rf Zf BC → PLW N K nm m2 lo2 n2 W b l p p2 sc sc2 X Rf Zf BC
  | [], _, _, _, _, _, _, _, _, h => h
  | π :: l, p, p2, sc, sc2, X, Rf, Zf, BC, ⟨q, q1, q2, sc1, e3, t3, X1, X2, X3, R1, R2, R3, Z1, Z2, Z3, B1, B2, B3, h1, g1, ⟨mi, li, ni, hT, hB, hx, ha, hb2⟩, h3, h4, h5, hb, h6, h7⟩ => ⟨q, q1, q2, sc1, e3, t3, X1, X2, X3, R1, R2, R3, Z1, Z2, Z3, B1, B2, B3, h1, g1, ⟨mi, li, ni, hT, hB, hx, ⟨by omega, ha.2⟩, hb2⟩, h3, h4, h5, hb, PLW_lo hl h6, h7⟩
theorem nms_hd (h : nms (e :: t) = nms (e2 :: t2)) : e.1 = e2.1 := by
  have h : e.1 :: nms t = e2.1 :: nms t2 := h
  exact (List.cons.inj h).1
theorem mrg_3 (h : p + 1 ≤ q) : mrg q (mrg (p + 1) W W1) W2 = mrg p W (mrg (p + 1) W (mrg q W1 W2)) := by
  funext j
  unfold mrg
  by_cases a : j < p
  · rw [if_pos (by omega), if_pos (by omega), if_pos a]
  · by_cases b : j < p + 1
    · rw [if_pos (by omega), if_pos b, if_neg a, if_pos b]
    · rw [if_neg a, if_neg b, if_neg b]
theorem BCo_o3 {C1 C2 C3 : Int32 × Int32 × Int32 → Prop} : BCo N (fun x => (C1 x ∨ C2 x) ∨ C3 x) m ↔ BCo N C1 m ∨ BCo N C2 m ∨ BCo N C3 m := by
  rw [BCo_or, BCo_or, or_assoc]
theorem prs_lp {fP : MS → Option (MS × (Int32 ⊕ Nat))} (c : CTZ m0 w0 K T nm Nk) (c45 : ∀ p, p ≤ T → K p ≠ 45) (hn0 : n0 ≤ 2 * p0)
    (hO : ∀ (R : MS → Int32 ⊕ Nat → MS → Int32 → Prop) (F : MS → Int32 → Option (MS × (Int32 ⊕ Nat))) (M : Nat) (m w : MS) (p n : Nat) (e : List Nat × List Nat × Nat) (t : SCT) (v3 v4 : Int32), (∀ m k w r, FLW w → R m (.inr k) w r) → RLP m0 w0 T p m w → m.1 306 = I (n : Nat) → n ≤ 2 * p → RNs w (e :: t) → ND w → w.1 70 = I (o : Nat) → w.1 73 = 0 → (v4 = -1 ∨ v3 ≠ -1) → (∀ m3 ρ w3 a b, a ≠ -1 → PAR N m0 w0 K T nm Nk p n e t m w m3 ρ w3 → PP R (F m3 ρ) (fb_M_parts0_214 N (rc_M_behind N d) (gg_M_parts0 N (rc_M_behind N d) M) w3 v1 v2 a b)) → PP R (bTm (fP m) F) (fb_M_parts0_19 N (rc_M_behind N d) (gg_M_parts0 N (rc_M_behind N d) M) w v1 v2 v3 v4 1))
    (hbr : ∀ (w4 : MS) (Kf : MS → Int32 → Option (MS × (Int32 ⊕ Nat))), br (decide (v1c = 0)) (bTm ((hrc_Pa_matched N D).2.2.2.2.1 w4) Kf) (bTm ((hrc_Pa_matched N D).2.2.2.2.2.2.1 w4) Kf) = bTm (fP w4) Kf)
    (h70 : wB.1 70 = I (o : Nat)) (h73 : wB.1 73 = 0) : ∀ (M' M : Nat) (m w : MS) (p n π k : Nat) (sc : SCT) (X : Nat) (W : Nat → Nat) (Rf Zf : Bool) (CL : Int32 × Int32 × Int32 → Prop) (a b : Int32), k + 1 ≤ p → (n0 < π ∧ π ≤ n) → nms sc = nms (e :: t) → STQ m0 w0 K T Nk false mB wB p0 n0 (e :: t) 1 m w p n sc X W Rf Zf CL → m.2.2.1 21 π = 0 → a ≠ -1 → PP (PLZ N m0 w0 K T nm Nk mB wB p0 n0 e t p n π sc X W Rf Zf CL φ m) (hg_Pa_parts N (hrc_Pa_matched N D) M' m v1c φ (I (π : Nat)) (I (k : Nat))) (fb_M_parts0_214 N (rc_M_behind N d) (gg_M_parts0 N (rc_M_behind N d) M) w v1 v2 a b)
  | 0, _, _, _, _, _, _, _, _, _, _, _, _, _, _, _, _, _, _, _, _, _ => pp_nl
  | M' + 1, M, m, w, p, n, π, k, sc, X, W, Rf, Zf, CL, a, b, hk, hπ, hnm, st, h21, ha1 => by
    have T4 := c.1.1.1
    have hc := RLP_c c st.1
    have hw := RLP_w c st.1
    have h0 := st.1.2.2.2.2.2.2
    have pT := st.1.2.2.2.2.1
    have k46 := hc.1.1.k46 hc.2.2
    have nb := st.2.1
    show PP _ (hb_Pa_parts_21 N (hrc_Pa_matched N D) (hg_Pa_parts N (hrc_Pa_matched N D) M') m v1c φ (I (π : Nat)) (I (k : Nat))) _
    unfold hb_Pa_parts_21 fb_M_parts0_214
    rw [show (4000 : Int32) = I ((4000 : Nat) : Int) from rfl, decI (by omega) (by omega) (by omega) (by omega), decide_eq_false (by omega), br_fq, look_e hc (c45 _ pT), bTm_l, I_dn (a := K p) (b := 27) (s := 27) (by omega) (by decide) rfl, tkS_e (k := 27) (s := 7) hw h0 (by decide) rfl]
    cases M with
    | zero => rw [bnd_s]; exact pp_nr
    | succ M =>
    by_cases k27 : K p = 27
    · have pl : p < T := TWK_lt c pT (by omega) (by omega)
      rw [decide_eq_true k27, br_tq, if_pos k27, bnd_s, hc.2.1, i_suc]
      refine l_lt ?_
      rw [hbr]
      show PP _ _ (fb_M_parts0_19 N (rc_M_behind N d) (gg_M_parts0 N (rc_M_behind N d) M) (adv w p) v1 v2 a b 1)
      have s1 := STQ_ad st pl (by omega)
      have f7 := s1.2.2.2.2.1.2.2.2.2.2.2.1
      cases sc with
      | nil => cases hnm
      | cons e' t' =>
      have hb := nms_hd hnm
      refine hO _ _ M (advc m p) (adv w p) (p + 1) n e' t' a b (fun _ _ _ _ z => z) s1.1 s1.2.1.2.1 (by omega) (STQ_rn s1) (STQ_nd s1) (by rw [f7.1 70 (by decide)]; exact h70) (by rw [f7.1 73 (by decide)]; exact h73) (Or.inr ha1) (fun m3 ρ w3 a' b' ha' pz => ?_)
      obtain ⟨π2, p3, n3, q1, sc1, e3, t3, X1, X2, Wp, R1, R2, Z1, Z2, CL1, CL2, d1, d2, d3, stp, dT, dB, d21, d5, d6, d7⟩ := pz
      have nbp := stp.2.1
      have pT3 := stp.1.2.2.2.2.1
      unfold hb_Pa_parts_65 hm_Pa_chain hb_Pa_chain_0
      rw [d1, tnI (n := π) rfl (by omega)]
      rw [bnd_ck]
      refine l_ck (fun _ => ?_)
      show PP _ (bnd (some (upA m3 21 (upd (m3.2.2.1 21) π (I (π2 : Nat))), I (π2 : Nat))) _) _
      rw [bnd_s, i_suc]
      have stt := STQ_21 (L := π) (y := I (π2 : Nat)) (STQ_s2 (STQ_tr s1 stp) (by omega : 1 ≤ _)) hπ.1
      generalize hm4 : upA m3 21 (upd (m3.2.2.1 21) π (I (π2 : Nat))) = m4 at stt ⊢
      have nd4 : ∀ j, nod m4 j = nod m3 j := fun j => by rw [← hm4]; rfl
      have r21 : m4.2.2.1 21 = upd (m3.2.2.1 21) π (I (π2 : Nat)) := by rw [← hm4, upA_at]
      have kc4 : Kcc m3 m4 := by
        rw [← hm4]
        exact ⟨fun _ _ => rfl, fun k hk => upA_no (by omega)⟩
      clear hm4
      refine pp_mo (prs_lp c c45 hn0 hO hbr h70 h73 M' M m4 w3 p3 n3 π2 (k + 1) (cutS e'.1.length (e3 :: t3)) (max X (max X1 X2)) (mrg (p + 1) W Wp) (Rf || (R1 || R2)) (Zf || (Z1 || Z2)) (fun x => CL x ∨ (CL1 x ∨ CL2 x)) a' b' (by omega) ⟨by omega, d2.2⟩ (d7.trans hnm) ?_ (by rw [r21, upd_no (by omega)]; exact d21) ha') (fun m2 z w2 r hz => ?_)
      · exact stt
      · cases z with
        | inr kk => exact hz
        | inl φ' =>
        obtain ⟨y1, l, p4, n4, sc4, X', W', R', Z', CL', y2, y3, y4, y5, y6, y7, y8, y9⟩ := hz
        have ln4 := (PLW_len y3).1
        refine ⟨y1, π2 :: l, p4, n4, sc4, max X1 (max X2 X'), mrg (p + 1) W (mrg p3 Wp W'), R1 || (R2 || R'), Z1 || (Z2 || Z'), fun x => (CL1 x ∨ CL2 x) ∨ CL' x, ?_, ?_, ?_, fun j hj => ?_, ?_, y7, by omega, by omega⟩
        · rw [← mrg_3 (by omega), show max X (max X1 (max X2 X')) = max (max X (max X1 X2)) X' by omega, show (Rf || (R1 || (R2 || R'))) = ((Rf || (R1 || R2)) || R') by rw [Bool.or_assoc, Bool.or_assoc], show (Zf || (Z1 || (Z2 || Z'))) = ((Zf || (Z1 || Z2)) || Z') by rw [Bool.or_assoc, Bool.or_assoc]]
          exact STQ_cl (fun x => or_assoc) y2
        · refine ⟨p + 1, q1, p3, sc1, e3, t3, X1, X2, X', R1, R2, R', Z1, Z2, Z', BCo N CL1, BCo N CL2, BCo N CL', ⟨by omega, by omega, by omega, by omega⟩, fun j j1 j2 => by rw [show j = p by omega]; omega, ⟨m3, n, n3, TRB_w (fun j j1 j2 => by rw [mrg_r (by omega), mrg_l (by omega)]) dT, BDB_w (fun j j1 j2 => by rw [mrg_r (by omega), mrg_l (by omega)]) dB, ⟨fun j j1 j2 => ⟨(y5 j j2).1.trans (nd4 j), fun j3 => ((y5 j j2).2 j3).trans (by rw [r21, upd_no (by omega)])⟩, Kc_tr kc4 y6⟩, ⟨Nat.le_refl _, by omega⟩, d2⟩, ⟨by omega, by omega⟩, y4, d5, by rw [← hb]; exact d6, ?_, rfl, rfl, rfl, fun m => BCo_o3, BCo_st, BCo_st⟩
          rw [← hb]
          exact PLW_lo (lo := n3) (by omega) (PLW_w (fun j j1 j2 => by rw [mrg_r (by omega), mrg_r j1]) (by rw [hb]; rw [hb] at y3; exact y3))
        · show m2.2.2.1 21 π = I (π2 : Nat)
          rw [(y5 π (by omega)).2 (by omega), r21, upd_at]
        · refine ⟨((y5 j (by omega)).1.trans (nd4 j)).trans (stp.2.2.1 j hj).1, fun j3 => ?_⟩
          rw [(y5 j (by omega)).2 (by omega), r21, upd_no j3]
          exact (stp.2.2.1 j hj).2
        · exact Kc_tr (Kc_tr (PCG_k (PCG_I (m := m) PCG_rf (Or.inr (Or.inr rfl)) : PCG m (advc m p))) (PCG_k stp.2.2.2.1)) (Kc_tr kc4 y6)
    · rw [decide_eq_false k27, br_fq, if_neg k27, bnd_s]
      show PP _ _ (fb_M_parts0_19 N (rc_M_behind N d) (gg_M_parts0 N (rc_M_behind N d) M) w v1 v2 a b 0)
      unfold hb_Pa_parts_75 fb_M_parts0_19
      rw [show decide ((0 : Int32) = 0) = true from rfl, br_tq]
      refine pp_end ⟨⟨rfl, ha1⟩, [], p, n, sc, 0, W, false, false, fun _ => False, ?_, ⟨rfl, rfl, rfl, rfl, rfl, fun _ => BCo_no⟩, h21, fun j _ => ⟨rfl, fun _ => rfl⟩, Kc_rf, hnm, Nat.le_refl _, Nat.le_refl _⟩
      have e1 : mrg p W W = W := by funext j; unfold mrg; split <;> rfl
      rw [e1, Nat.max_zero, Bool.or_false, Bool.or_false]
      exact STQ_cl (fun x => ⟨Or.inl, fun z => z.elim id False.elim⟩) st
end
