/-! MATCH, both: all of it -/
set_option maxRecDepth 100000
section
variable {α β : Type} {m0 w0 m w m2 w2 m3 w3 v u w1 mS wS x1 x2 y1 : MS} {K nm Nk W WE W1 W2 : Nat → Nat} {N T D d o a a0 b b0 b5 b7 c cm cm0 cm2 cm3 cm5 cm7 q q0 r s lo lo0 mid hi i j f f2 n k kk p p2 σ tk x y xa xb xc M L pi pj pn : Nat} {Q Q0 Q2 Q3 Q4 Q5 : Nat → Nat} {sc sc0 sc2 sc3 sc5 sc7 t t1 t2 : SCT} {e e1 e2 : List Nat × List Nat × Nat} {g lst : Bool} {idc fof cvr : Int → Int → Int} {z : Unit} {rt v1 v2 v3 v4 v5 xx : Int32} {A' : Option (MS × α)} {RR : MS → α → MS → β → Prop} {RX : MS → α → MS → Int32 → Prop}
theorem XRS_to (h : XRS w0 T w p Q sc) (hl : lo ≤ T) : XRS w0 T (upI w 69 (I (lo : Nat))) lo Q sc := ⟨PRd_to h.1 hl, QMK_I h.2 (by decide)⟩
set_option maxHeartbeats 1000000 in
/-- behind the E of a MATCH: the PATTERN, both; the node -/
theorem mt_end (c : CTZ m0 w0 K T nm Nk) (cv : CTV m0 w0 K T) (hf : f ≤ 230) (hn : n ≤ 8015) (h18 : A m0 18 n = ((x : Nat) : Int)) (hx : PAcK m0 f x lo mid xa xc q0 q0) (hxc : xc ≤ 8015) (km : K mid = 30) (hlm : lo < mid ∧ mid < hi ∧ hi ≤ T) (hC : XCS m0 nm m a cm (e :: t) false) (hQ56 : Q 56 = q) (htot : tot (e :: t) + (hi - lo) ≤ 4000) (bd : BDs t t1) (hdM : HDo Nk K W1 lo mid (e :: t) ((e.1, e1.2.1, e1.2.2) :: t1)) (wc1 : WCN Nk K nm W1 lo mid (e :: t)) {v3s m5 u5 : MS} (hqv : QRR (QSV Q) v v3s) (tE : XTR m0 w0 K T nm Nk fof cvr lst false [] (mid + 1) hi a b5 cm cm5 q r (QSV Q) Q5 ((e.1, e1.2.1, e1.2.2) :: t1) sc5 m v3s m5 u5)
    {RF : MS → Unit → MS → Int32 → Prop} (hF : ∀ m9 v9 i, XZ m0 w0 K T nm Nk fof cvr lst false lo hi a cm q r (QSV Q) (e :: t) m v m9 () v9 (I (i : Nat)) → PP RF (some (m9, ())) (some (v9, I (i : Nat)))) : PP RF (bnd (jm_Co_put N m5 20) (fun u103 _ => ck (inb (I (n : Nat)) 8016) (bnd (jr_Cm_pattern N u103 (u103.2.2.1 18 n)) (fun u110 _ => bnd (jm_Co_put N u110 8) (fun u112 _ => some (u112, ())))))) (br (decide ((u5.1 67) = 0)) (lt (upI u5 69 (I (lo : Nat))) (fun w3 => lt (upI w3 70 ((w3.1 70) - 1)) (fun w4 => bnd (kr_M_patternAt N w4 0) (fun u6 r6 => lt (upI u6 70 ((u6.1 70) + 1)) (fun w6 => lt (upI w6 69 (u5.1 69)) (fun w7 => bnd (fm_M_node N w7 16 (I (mid : Nat))) (fun u8 r8 => ck (inb r8 (ln 25)) (lt (upA u8 25 (upd (u8.2.2.1 25) r8.toNatClampNeg r6)) (fun w9 => some (w9, r8)))))))))) (some (u5, (-1)))) := by
  have t4 := c.2.1.1.1
  have hdx := PA_bdK _ _ _ _ _ _ _ _ hx
  unfold HDc at hdx
  have hC5 := tE.2.1
  have hX5 := tE.2.2.1.1
  have lE := tE.1
  have totE := tE.2.2.2.1
  obtain ⟨WE, ⟨hdE, hnE⟩, h42E⟩ := tE.2.2.2.2.1
  have nwE := (hnE rfl).2
  have len5 := NWX_len nwE
  have totM : tot ((e.1, e1.2.1, e1.2.2) :: t1) = tot (e :: t) := by
    show tot t1 + e.1.length = tot t + e.1.length
    rw [(BDs_len bd).2]
  have lenM : ((e.1, e1.2.1, e1.2.2) :: t1).length = (e :: t).length := by
    show t1.length + 1 = t.length + 1
    rw [(BDs_len bd).1]
  refine l_put hC5.1.2.2.1.1 hC5.1.2.2.1.2.2 (fun ha => l_ck (fun _ => ?_))
  have k1 := XCS_put (x := 20) hC5 ha
  rw [tre (XCS_fr k1) (by decide) h18]
  unfold jr_Cm_pattern
  rw [decide_eq_true hX5.1.2.2.1, br_t, lt_e, lt_e]
  have X6 := XRS_I (k := 70) (x := (upI u5 69 (I (lo : Nat))).1 70 - 1) (XRS_to (lo := lo) hX5 (by omega)) (by decide) (by decide)
  have r6 : (upI (upI u5 69 (I (lo : Nat))) 70 ((upI u5 69 (I (lo : Nat))).1 70 - 1)).2 = u5.2 := rfl
  generalize upI (upI u5 69 (I (lo : Nat))) 70 ((upI u5 69 (I (lo : Nat))).1 70 - 1) = u6 at X6 r6
  unfold kr_M_patternAt
  refine pp_bb (pp_mo (pt_all c cv f _ _ x lo mid xa xc q0 q0 (ptc m5 b5 20) u6 (b5 + 1) cm5 (Q5 39) sc5 false 0 hx hxc k1.1 X6.1 (by omega) rfl) (fun m7 z w7 rt7 hz7 => ?_))
  obtain ⟨pn, b7, pj, cm7, sc7, W2, rfl, h2, h3, h4, h5, ⟨h6, h6t⟩, ⟨hd7, hn7⟩, h8, h9, h10, h11⟩ := hz7
  obtain ⟨wc7, nw7⟩ := hn7 rfl
  have k7 : XCS m0 nm m7 b7 cm7 sc7 false := ⟨h4, by rw [h9.1 712 (by decide) (by decide)]; exact k1.2⟩
  have len7 := NWX_len nw7
  have pj5 : pj ≤ 5000 := h5.2.2.2.2.2.2
  have cm57 : cm5 ≤ cm7 := by
    cases sc5 with
    | nil => exact h6.elim
    | cons e5 t5 =>
      cases sc7 with
      | nil => exact h6.elim
      | cons e7 t7 => exact h6.2.2
  refine l_put k7.1.2.2.1.1 k7.1.2.2.1.2.2 (fun ha7 => ?_)
  have k8 := XCS_put (x := 8) k7 ha7
  -- here: on to the node
  rw [lt_e, lt_e, hX5.1.2.1.1]
  have M7 : QMK w7 (qst Q5 39 pj) := fun k hk => by
    by_cases y : k = 39
    · subst y
      rw [qst_at]
      exact ⟨h5.2.2.2.2.2.1, by omega⟩
    · rw [qst_no y, h10.1 k y (by rintro rfl; revert hk; decide) (by rintro rfl; revert hk; decide)]
      exact X6.2 k hk
  have X7 : XRS w0 T w7 mid (qst Q5 39 pj) sc7 := ⟨by rw [qst_at]; exact h5, M7⟩
  have X8 := XRS_to (lo := hi) (XRS_I (k := 70) (x := w7.1 70 + 1) X7 (by decide) (by decide)) (by omega)
  have r8 : (upI (upI w7 70 (w7.1 70 + 1)) 69 (I (hi : Nat))).2 = w7.2 := rfl
  generalize upI (upI w7 70 (w7.1 70 + 1)) 69 (I (hi : Nat)) = u8 at X8 r8
  obtain ⟨n1, n2⟩ := XRS_q X8
  have q32 : qst Q5 39 pj 32 = Q5 32 := qst_no (by decide)
  rw [q32] at n1 n2
  refine r_nod n1 n2 rfl (nsh (by omega)) (fun h16 => ?_)
  have d0 : NOD u8 (nwD u8 (Q5 32) 16 (I (mid : Nat))) (Q5 32) := NOD_0 n1
  obtain ⟨d1, d2, d3, d4, d5, d6, d7, d8⟩ := nwD_at (w := u8) (i := Q5 32) (k := 16) (t := I (mid : Nat))
  have d9 : (nwD u8 (Q5 32) 16 (I (mid : Nat))).1 69 = I (hi : Nat) := by rw [nwD_i (by decide)]; exact X8.1.2.1.1
  generalize nwD u8 (Q5 32) 16 (I (mid : Nat)) = U at d0 d1 d2 d3 d4 d5 d6 d7 d8 d9
  rw [i_nt2 (p := Q5 32) (by omega)]
  refine r_ck (fun _ => ?_)
  rw [lt_e]
  have hN : NOD u8 (upA U 25 (upd (U.2.2.1 25) (Q5 32) (I (pn : Nat)))) (Q5 32) := NOD_A d0 (by decide)
  have v23 : A (upA U 25 (upd (U.2.2.1 25) (Q5 32) (I (pn : Nat)))) 23 (Q5 32) = 16 := by
    show ((upA U 25 _).2.2.1 23 (Q5 32)).toInt = _
    rw [upA_no (by decide), d1]; rfl
  have v28 : A (upA U 25 (upd (U.2.2.1 25) (Q5 32) (I (pn : Nat)))) 28 (Q5 32) = -1 := by
    show ((upA U 25 _).2.2.1 28 (Q5 32)).toInt = _
    rw [upA_no (by decide), d6]; rfl
  have v25 : A (upA U 25 (upd (U.2.2.1 25) (Q5 32) (I (pn : Nat)))) 25 (Q5 32) = ((pn : Nat) : Int) := by
    show ((upA U 25 _).2.2.1 25 (Q5 32)).toInt = _
    rw [upA_at, upd_at]
    exact I_ti (by omega) (by omega)
  have v69 : (upA U 25 (upd (U.2.2.1 25) (Q5 32) (I (pn : Nat)))).1 69 = I (hi : Nat) := d9
  generalize upA U 25 (upd (U.2.2.1 25) (Q5 32) (I (pn : Nat))) = V at hN v23 v28 v25 v69
  have e8 : ptc m7 b7 8 = ptcs m7 b7 [8] := rfl
  refine hF _ V (Q5 32) ?_
  -- marks
  have leE := tE.2.2.2.2.2.2.1
  have XF8 : XRF u5 u8 Q5 (qst Q5 39 pj) := ⟨QRR_e (QRR_tr (Q2 := Q5) (QRR_e (u := u6) QRR_rf (by rw [r6]) (by rw [r6])) (QRR_P h10 (Nat.le_refl _)) QLE_rf) (by rw [r8]) (by rw [r8]), QLE_st QLE_rf (by omega), by rw [qst_no (by decide), qst_no (by decide), qst_no (by decide)]; exact ⟨rfl, rfl, rfl⟩⟩
  have XFV : XRF u5 V Q5 (qst (qst Q5 39 pj) 32 (Q5 32 + 1)) := XFR_tr XF8 (XFR_N hN q32)
  have XV : XRS w0 T V hi (qst (qst Q5 39 pj) 32 (Q5 32 + 1)) sc7 := XRS_n X8 hN.1 (fun k hk => funext (fun j => hN.2.2.1 k j (by omega))) v69 (by omega) hN.2.1 (by omega)
  have q9_32 : qst (qst Q5 39 pj) 32 (Q5 32 + 1) 32 = Q5 32 + 1 := qst_at
  have q9_39 : qst (qst Q5 39 pj) 32 (Q5 32 + 1) 39 = pj := (qst_no (by decide)).trans qst_at
  have q9_56 : qst (qst Q5 39 pj) 32 (Q5 32 + 1) 56 = Q5 56 := (qst_no (by decide)).trans (qst_no (by decide))
  -- names held
  have gap : ∀ j, mid ≤ j → j < mid + 1 → K j ≠ 3 := fun j j1 j2 => by rw [show j = mid by omega]; omega
  have nwM : NWd (e :: t) ((e.1, e1.2.1, e1.2.2) :: t1) := ⟨List.prefix_rfl, bd, fun x hx => Or.inl hx⟩
  have nw5 : NWd (e :: t) sc5 := NWX_tr nwM nwE
  have wcV : WCN Nk K nm W2 lo mid (e :: t) := WCN_cat (p2 := lo) (fun j j1 j2 => by omega) wc7 nw5
  have hd2 : HDo Nk K W2 lo mid (e :: t) ((e.1, e1.2.1, e1.2.2) :: t1) := HDo_cg (WCN_lt wc1 wcV) (HDo_bd hd7) hdM
  have heq : HEq2 sc5 sc7 := HDo_idem hd2 (HPre_of hdE) hd7
  have hdA : HDo Nk K (mrw (mid + 1) W2 WE) lo hi (e :: t) sc7 := HDo_eq (HDo_tr (p2 := mid + 1) (by omega) (by omega) (HDo_w (fun j _ j2 => if_pos j2) (HDo_tr (p2 := mid) (by omega) (by omega) hd2 (HDo_gap gap))) (HDo_w (fun j j1 _ => if_neg (by omega)) hdE)) heq
  have h42 : (ptc m7 b7 8).2.2.1 42 = wup (m.2.2.1 42) K (mrw (mid + 1) W2 WE) lo hi := by
    rw [ptc_r (by decide), h8, ptc_r (by decide), h42E, ← wup_ex1 (p := mid) (lo0 := lo) (by omega) (by omega), wup_swx (by omega) (by omega)]
  have b57 : b5 + 1 < b7 := h3
  have code5 : ∀ j, j < b5 → (ptc m7 b7 8).2.2.1 23 j = m5.2.2.1 23 j := fun j hj => by rw [ptc_o (by omega), h9.2.2.1 j (by omega), ptc_o (by omega)]
  have fcA : XFC m (ptc m7 b7 8) a q r ((e :: t).length - 1) := by
    have s1 := tE.2.2.2.2.2.1
    rw [lenM] at s1
    have s2 : XFC m5 m7 b5 r r ((e :: t).length - 1) := by
      have z1 : XFC m5 (ptc m5 b5 20) b5 r r ((e :: t).length - 1) := XFC_put XFC_rf (Nat.le_refl _)
      have z2 : XFC (ptc m5 b5 20) m7 (b5 + 1) r r (sc5.length - 1) := XFC_P h9
      rw [len5, lenM] at z2
      exact XFC_tr z1 z2 (by omega) (Nat.le_refl _) (Nat.le_refl _)
    exact XFC_put (XFC_tr s1 s2 lE.2.1 lE.2.2.2 (Nat.le_refl _)) (by omega)
  have q5le : QSV Q 32 ≤ Q5 32 := leE.2.1 32 (by decide)
  refine ⟨b7 + 1, cm7, qst (qst Q5 39 pj) 32 (Q5 32 + 1), sc7, Q5 32, 2, [], rfl, ⟨q5le, by rw [q9_32]; omega⟩, ⟨⟨by omega, by omega, by omega, lE.2.2.2⟩, k8, ⟨XV, by rw [q9_56]; exact tE.2.2.1.2⟩, by omega, ⟨_, ⟨hdA, fun o => ⟨trivial, NWX_tr nw5 nw7⟩⟩, h42⟩, fcA, ?_, fun y => (by cases y), fun n hn => (by cases hn), fun C P R J H fi hx => ?_⟩, ⟨by omega, by omega⟩, RTd_1 v28 ⟨by rw [v23]; decide, by rw [v23]; decide⟩ rfl ⟨q5le, by rw [q9_32]; omega⟩, fun n hn => (by cases hn)⟩
  · refine ⟨QRR_tr hqv (QRR_tr leE.1 XFV.1 leE.2.1) QLE_rf, QLE_tr leE.2.1 XFV.2.1, XFV.2.2.1.trans leE.2.2.1, XFV.2.2.2.1.trans leE.2.2.2.1, XFV.2.2.2.2.trans leE.2.2.2.2⟩
  · have hx5 : HNX nm sc5 cm5 H := HNX_mo hd7 cm57 hx
    have f1 : FNd w0 fof cvr C P R J m5 u5 a b5 q r (QSV Q) Q5 lst [] := by
      refine FIN_sub fi ⟨Nat.le_refl _, by omega⟩ ⟨Nat.le_refl _, Nat.le_refl _⟩ QLE_rf XFV.2.1 (fun j _ z => code5 j z) (fun k u z1 z2 z3 z4 => ?_) (SAM_q XFV.1) (fun n z1 z2 => ?_)
      · rw [ptc_r (by omega), h9.2.1 k (by omega) (by omega) (by omega) (by omega), ptc_r (by omega)]
      · have e30 : A V 30 n = A u5 30 n := congrArg Int32.toInt (XFV.1.2.1 30 n (by decide) z2)
        rw [e30]
    obtain ⟨g1, g2⟩ := tE.2.2.2.2.2.2.2.2.2 C P R J H f1 hx5
    refine ⟨g1, fun y hy hr => g2 y hy ?_⟩
    have y0 : y = none := hy.mpr rfl
    have gc := fi.1
    have ro : ∀ k, 23 ≤ k ∧ k ≤ 31 → k ≠ 27 ∧ k ≠ 29 ∧ k ≠ 30 → R k (Q5 32) = A V k (Q5 32) := fun k k1 k2 => FIN_R fi k1 k2 ⟨q5le, by rw [q9_32]; omega⟩
    have R23 := (ro 23 (by decide) (by decide)).trans v23
    have R25 := (ro 25 (by decide) (by decide)).trans v25
    have c0 : C b5 = 20 := by
      rw [gc b5 (by omega) (by omega)]
      show ((ptc m7 b7 8).2.2.1 23 b5).toInt = _
      rw [ptc_o (by omega), h9.2.2.1 b5 (by omega), ptc_n]; rfl
    have c8 : C b7 = 8 := by
      rw [gc b7 (by omega) (by omega)]
      show ((ptc m7 b7 8).2.2.1 23 b7).toInt = _
      rw [ptc_n]; rfl
    have gc7 : AGC C m7 (b5 + 1) b7 := fun k j1 j2 => by
      rw [gc k (by omega) (by omega)]
      show ((ptc m7 b7 8).2.2.1 23 k).toInt = _
      rw [ptc_o (by omega)]; rfl
    have vr : ∀ k j, 31 < k → V.2.2.1 k j = w7.2.2.1 k j := fun k j hk => by rw [hN.2.2.1 k j (by omega), r8]
    have le39 : QSV Q 39 ≤ Q5 39 := leE.2.1 39 (by decide)
    have gp : AGP R J w7 (Q5 39) pj pn := FNd_AGP fi (fun j j1 j2 => ⟨by omega, by rw [q9_39]; exact j2, fun k k3 k4 k5 => vr k j (by omega), by rw [hN.2.2.2, r8], fun _ => vr 37 j (by omega)⟩)
    have pt := h11 C R J H gc7 fi.2.2.1 gp hx.1
    obtain ⟨b1, b2⟩ := XB c.2.2.1 hC5 hX5 hx5 h16
    obtain ⟨d, hd⟩ := hr
    rw [q9_32] at hd
    exact cr_1 b1 b2 ⟨d, Or.inr (Or.inr (Or.inr (Or.inr (Or.inr (Or.inr (Or.inr (Or.inr (Or.inr (Or.inr (Or.inr (Or.inr (Or.inr (Or.inr (Or.inr (Or.inr (Or.inl ⟨R23, y0, c0, pn, b7, Onm nm sc7, R25, PT_mo hf pt, c8, hd⟩))))))))))))))))⟩
end
