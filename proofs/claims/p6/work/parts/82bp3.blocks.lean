set_option maxRecDepth 100000
def HPa (N : Nat) (m0 w0 : MS) (K : Nat → Nat) (T : Nat) (nm Nk : Nat → Nat) (cs : Bool) (d : Nat) : Prop := ∀ (D : Nat) (m w : MS) (p n : Nat) (e : List Nat × List Nat × Nat) (t : SCT) (o : Nat) (v2 : Int32), RLP m0 w0 T p m w → m.1 306 = I (n : Nat) → n ≤ 2 * p → RNs w (e :: t) → ND w → w.1 70 = I (o : Nat) → o ≤ 25 → w.1 73 = 0 → PP (PSZ N m0 w0 K T nm Nk p n e t m w) ((hrc_Pa_matched N D).2.2.2.2.2.2.2.1 m (if cs then 1 else 0)) ((rc_M_behind N d).2.2.1 w (if cs then 0 else 1) v2)
section
variable {α : Type} {R : MS → Int32 ⊕ Nat → MS → Int32 → Prop} {A : Option (MS × α)} {m0 w0 m w v u m2 m3 w2 x y z mF mB wB mp mg : MS} {K nm Nk W W1 W2 WA WB : Nat → Nat} {T p n N q q1 X Y X1 X2 XA n0 n1 n2 n3 lo lo2 l1 l2 np ng p0 p2 p4 ν μ π a b L L' k d o M D s kd : Nat} {sc sc1 sc2 sc3 sc4 sc5 t t2 t3 t4 t5 : SCT} {e e2 e3 e4 e5 : List Nat × List Nat × Nat} {gd Rf Rg Zf R1 Z1 own cs : Bool} {BC : MS → Prop} {v1 v2 v3 v4 v5 v6 v1c r ξ φ ca cb cc : Int32} {S : SG_M_behind} {NC : Nat → Prop} {CL CM CL1 : Int32 × Int32 × Int32 → Prop} {l lp lg : List Nat}
theorem parts_pp {fP : MS → Option (MS × (Int32 ⊕ Nat))} (c : CTZ m0 w0 K T nm Nk) (c45 : ∀ p, p ≤ T → K p ≠ 45)
    (hO : ∀ (R : MS → Int32 ⊕ Nat → MS → Int32 → Prop) (F : MS → Int32 → Option (MS × (Int32 ⊕ Nat))) (M : Nat) (m w : MS) (p n : Nat) (e : List Nat × List Nat × Nat) (t : SCT) (v3 v4 : Int32), (∀ m k w r, FLW w → R m (.inr k) w r) → RLP m0 w0 T p m w → m.1 306 = I (n : Nat) → n ≤ 2 * p → RNs w (e :: t) → ND w → w.1 70 = I (o : Nat) → w.1 73 = 0 → (v4 = -1 ∨ v3 ≠ -1) → (∀ m3 ρ w3 a b, a ≠ -1 → PAR N m0 w0 K T nm Nk p n e t m w m3 ρ w3 → PP R (F m3 ρ) (fb_M_parts0_214 N (rc_M_behind N d) (gg_M_parts0 N (rc_M_behind N d) M) w3 v1 v2 a b)) → PP R (bTm (fP m) F) (fb_M_parts0_19 N (rc_M_behind N d) (gg_M_parts0 N (rc_M_behind N d) M) w v1 v2 v3 v4 1))
    (hbr : ∀ (w4 : MS) (Kf : MS → Int32 → Option (MS × (Int32 ⊕ Nat))), br (decide (v1c = 0)) (bTm ((hrc_Pa_matched N D).2.2.2.2.1 w4) Kf) (bTm ((hrc_Pa_matched N D).2.2.2.2.2.2.1 w4) Kf) = bTm (fP w4) Kf)
    (h : RLP m0 w0 T p m w) (hn : m.1 306 = I (n : Nat)) (hn2 : n ≤ 2 * p) (hR : RNs w (e :: t)) (nd : ND w) (h70 : w.1 70 = I (o : Nat)) (h73 : w.1 73 = 0) : PP (PSZ N m0 w0 K T nm Nk p n e t m w) (hb_Pa_parts_0 N (hrc_Pa_matched N D) (hg_Pa_parts N (hrc_Pa_matched N D) N) m v1c) (fb_M_parts0_0 N (rc_M_behind N d) (gg_M_parts0 N (rc_M_behind N d) N) w v1 v2) := by
  unfold hb_Pa_parts_0 fb_M_parts0_0 fb_M_parts0_17
  rw [hbr, decide_eq_true h.2.2.2.2.2.2, br_tq]
  have go : ∀ M, PP (PSZ N m0 w0 K T nm Nk p n e t m w) (bTm (fP m) (fun u7 r7 => hb_Pa_parts_15 N (hrc_Pa_matched N D) (hg_Pa_parts N (hrc_Pa_matched N D) N) u7 v1c r7)) (gg_M_parts0 N (rc_M_behind N d) M w v1 v2 (-1) (-1) 1) := fun M => by
    cases M with
    | zero => exact pp_nr
    | succ M =>
    refine hO _ _ M m w p n e t (-1) (-1) (fun _ _ _ _ z => z) h hn hn2 hR nd h70 h73 (Or.inl rfl) (fun m3 ρ w3 a b ha pz => ?_)
    obtain ⟨π2, p3, n3, q1, sc1, e3, t3, X1, X2, Wp, R1, R2, Z1, Z2, CL1, CL2, d1, d2, d3, stp, dT, dB, d21, d5, d6, d7⟩ := pz
    unfold hb_Pa_parts_15
    rw [d1]
    refine pp_mo (prs_lp (φ := I (π2 : Nat)) c c45 hn2 hO hbr h70 h73 N M m3 w3 p3 n3 π2 0 _ _ _ _ _ _ a b (by omega) d2 d7 stp d21 ha) (fun m2 z w2 r hz => ?_)
    cases z with
    | inr kk => exact hz
    | inl φ' =>
    obtain ⟨y1, l, p4, n4, sc4, X', W', R', Z', CL', y2, y3, y4, y5, y6, y7, y8, y9⟩ := hz
    refine ⟨y1.2, π2 :: l, p4, n4, sc4, max X1 (max X2 X'), mrg p3 Wp W', R1 || (R2 || R'), Z1 || (Z2 || Z'), fun x => (CL1 x ∨ CL2 x) ∨ CL' x, y1.1, (fun z => by cases z), by omega, ?_, ?_, y7, d2.1⟩
    · rw [show max X1 (max X2 X') = max (max X1 X2) X' by omega, ← Bool.or_assoc, ← Bool.or_assoc]
      exact y2
    · exact ⟨p, q1, p3, sc1, e3, t3, X1, X2, X', R1, R2, R', Z1, Z2, Z', BCo N CL1, BCo N CL2, BCo N CL', ⟨by omega, by omega, by omega, by omega⟩, fun j j1 j2 => absurd j2 (by omega), ⟨m3, n, n3, TRB_w (fun j j1 j2 => mrg_l (by omega)) dT, BDB_w (fun j j1 j2 => mrg_l (by omega)) dB, ⟨fun j j1 j2 => y5 j j2, y6⟩, ⟨Nat.le_refl _, by omega⟩, d2⟩, ⟨by omega, by omega⟩, y4, d5, d6, PLW_lo (lo := n3) (by omega) (PLW_w (fun j j1 j2 => mrg_r j1) y3), rfl, rfl, rfl, fun m => BCo_o3, BCo_st, BCo_st⟩
  exact go N
theorem HPa_s (c : CTZ m0 w0 K T nm Nk) (c45 : ∀ p, p ≤ T → K p ≠ 45) (hB : HBo N m0 w0 K T nm Nk d) (hG : ∀ d', d' ≤ d → HGc N m0 w0 K T nm Nk d') : ∀ cs, HPa N m0 w0 K T nm Nk cs (d + 1) := by
  intro cs D m w p n e t o v2 h hn hn2 hR nd h70 ho h73
  cases D with
  | zero => exact pp_nl
  | succ D =>
    cases cs with
    | true =>
      show PP _ (hb_Pa_parts_0 N (hrc_Pa_matched N D) (hg_Pa_parts N (hrc_Pa_matched N D) N) m 1) (fb_M_parts0_0 N (rc_M_behind N d) (gg_M_parts0 N (rc_M_behind N d) N) w 0 v2)
      exact parts_pp (fP := (hrc_Pa_matched N D).2.2.2.2.2.2.1) c c45 (fun R F M m w p n e t v3 v4 hW y1 y2 y3 y4 y5 y6 y7 y8 hC => cas_pp c c45 hB hG hW y1 y2 y3 y4 y5 y6 ho y7 y8 hC) (fun w4 Kf => by rw [show decide ((1 : Int32) = 0) = false from rfl, br_fq]) h hn hn2 hR nd h70 h73
    | false =>
      show PP _ (hb_Pa_parts_0 N (hrc_Pa_matched N D) (hg_Pa_parts N (hrc_Pa_matched N D) N) m 0) (fb_M_parts0_0 N (rc_M_behind N d) (gg_M_parts0 N (rc_M_behind N d) N) w 1 v2)
      exact parts_pp (fP := (hrc_Pa_matched N D).2.2.2.2.1) c c45 (fun R F M m w p n e t v3 v4 hW y1 y2 y3 y4 y5 y6 y7 y8 hC => cho_pp c hB (hG d (Nat.le_refl _)) hW y1 y2 y3 y4 y5 y6 ho y7 y8 hC) (fun w4 Kf => by rw [show decide ((0 : Int32) = 0) = true from rfl, br_tq]) h hn hn2 hR nd h70 h73
theorem EXB_mk (st : STQ m0 w0 K T Nk false m w p n sc 2 m2 w2 p2 n2 sc2 X W Rf Zf CL) (hs : SMS w2 v) (h69 : v.1 69 = w2.1 69) (hn2 : n2 ≤ 8014) (hp : p < p2) (hp4 : p ≤ 4000) (hkd : kd < 23 ∧ 8 ≤ kd ∧ kd ≠ 17) (hb : bPK (K p) = false) (hex : ∀ gd, EXN N K nm gd (adN m2 n2 (I (kd : Nat)) (I (p : Nat)) ca cb cc) n (n2 + 1) (n2 + 1) p p2 sc sc2 X W (gd || Rf) Zf (BCo N CL)) : EXB N m0 w0 K T nm Nk p n sc o m w (adN m2 n2 (I (kd : Nat)) (I (p : Nat)) ca cb cc) (.inl (I ((n2 + 1 : Nat) : Int))) v r := by
  have nb := st.2.1
  have hnd : nod (adN m2 n2 (I (kd : Nat)) (I (p : Nat)) ca cb cc) (n2 + 1) = (I (kd : Nat), I (p : Nat), ca, cb, cc) := adN_nod.1
  exact ⟨p2, n2 + 1, n2 + 1, sc2, X, W, Rf, Zf, CL, rfl, ⟨by omega, Nat.le_refl _⟩, hp, STQ_add (STQ_s st hs h69), adN_nod.2, hex, PTX_no hnd (by omega) (Nat.le_refl _) (by omega) hkd.1 (by omega) hkd.2.2 hb, kd, by rw [adN_16, upd_at], hkd.1, by omega, p, hp4, by rw [adN_17, upd_at]⟩
theorem t186 (c : CTZ m0 w0 K T nm Nk) (hPa : HPa N m0 w0 K T nm Nk cs d) (st : STQ m0 w0 K T Nk false m w p n sc s m2 w2 q n2 (e2 :: t2) X W Rf Zf CL) (hn0 : n ≤ 2 * p) (hpq : p < q) {oo : Nat} (h70 : w2.1 70 = I (oo : Nat)) (ho : oo ≤ 25) (h73 : w2.1 73 = 0) {v5 c5 : Nat} (k5 : w2.2.2.1 23 v5 ≠ 12 ∧ w2.2.2.1 23 v5 ≠ 15) (h32 : w2.1 32 = I (c5 : Nat)) (hc5 : v5 < c5 ∧ c5 ≤ 100000) (hkd : kd < 23 ∧ 8 ≤ kd ∧ kd ≠ 17) (hb : bPK (K p) = false)
    (hE : ∀ (m3 : MS) (l : List Nat) (p3 n3 : Nat) (sc3 : SCT) (X3 : Nat) (W3 : Nat → Nat) (R3 Z3 : Bool) (CL3 : Int32 × Int32 × Int32 → Prop), KPO n2 m2 m3 → Kcc m2 m3 → PLW N K nm m3 n2 n3 W3 e2.1.length l q p3 (e2 :: t2) sc3 X3 R3 Z3 (BCo N CL3) → n3 ≤ 8014 → n2 ≤ n3 → q < p3 → p3 < 4000 → K p3 = 11 → ∀ gd, EXN N K nm gd (adN (advc m3 p3) n3 (I (kd : Nat)) (I (p : Nat)) ca (I ((l.headD 0 : Nat) : Int)) 0) n (n3 + 1) (n3 + 1) p (p3 + 1) sc sc3 (max X X3) (mrg q W W3) (gd || (Rf || R3)) (Zf || Z3) (BCo N (fun x => CL x ∨ CL3 x))) :
    PP (EXB N m0 w0 K T nm Nk p n sc o m w) (bTm ((hrc_Pa_matched N D).2.2.2.2.2.2.2.1 m2 (if cs then 1 else 0)) (fun u6 r6 => bTm (hm_Pa_need N u6 11) (fun u7 r7 => bnd (hm_Tr_add N u7 (I (kd : Nat)) (I (p : Nat)) ca r6 0) (fun u9 r9 => some (u9, .inl r9))))) (fb_M_block_186 N (rc_M_behind N d) () w2 (I (v5 : Nat)) (if cs then 0 else 1)) := by
  have T4 := c.1.1.1
  have nb := st.2.1
  unfold fb_M_block_186
  refine pp_bTn (hPa D m2 w2 q n2 e2 t2 oo _ st.1 st.2.1.2.1 (by omega) (STQ_rn st) (STQ_nd st) h70 ho h73) (fun m3 φ u1 r1 hz => ?_) (fun m3 kk u1 r1 hz => ?_)
  · obtain ⟨-, l, p3, n3, sc3, X3, W3, R3, Z3, CL3, d1, d2, d3, stp, d5, d6, d7⟩ := hz
    have stt := STQ_tr st stp
    have hc3 := RLP_c c stt.1
    have hw3 := RLP_w c stt.1
    have h03 := stt.1.2.2.2.2.2.2
    have pT := stt.1.2.2.2.2.1
    have nb3 := stp.2.1
    by_cases k11 : K p3 = 11
    · have pl : p3 < T := TWK_lt c pT (by omega) (by omega)
      rw [need_e (s := 11) hc3 k11 (by decide) rfl, bTm_l, ndW_1 (s := 6) hw3 h03 (by decide) rfl k11, bnd_s, d1]
      have s1 := STQ_ad stt pl (by omega)
      have ad := add_e (N := N) (a := I (kd : Nat)) (b := I (p : Nat)) (c := ca) (d := I ((l.headD 0 : Nat) : Int)) (f := 0) s1.2.1.2.1 (by omega)
      rw [ad, bnd_s]
      refine pp_l (pk_ck (fun _ => pk_lt (pk_ck (fun _ => pk_lt ?_))))
      rw [tnI (n := v5) rfl (by omega)]
      have k6 : u1.2.2.1 23 v5 = w2.2.2.1 23 v5 := STW_23 stp.2.2.2.2.1 h32 hc5.2 hc5.1
      have k7 : (adv u1 p3).2.2.1 23 v5 ≠ 12 ∧ (adv u1 p3).2.2.1 23 v5 ≠ 15 := by
        show u1.2.2.1 23 v5 ≠ 12 ∧ u1.2.2.1 23 v5 ≠ 15
        rw [k6]; exact k5
      have sm1 := SMS_B (k := 25) (x := r1) (SMS_rf (w := adv u1 p3)) (Or.inl rfl) k7
      generalize hx1 : upA (adv u1 p3) 25 (upd ((adv u1 p3).2.2.1 25) v5 r1) = x1 at sm1 ⊢
      have x69 : x1.1 69 = (adv u1 p3).1 69 := by rw [← hx1]; rfl
      have k8 : x1.2.2.1 23 v5 ≠ 12 ∧ x1.2.2.1 23 v5 ≠ 15 := by rw [← hx1, upA_no (by decide)]; exact k7
      clear hx1
      have sm2 := SMS_B (k := 26) (x := x1.1 32) sm1 (Or.inr (Or.inl rfl)) k8
      have y69 : (upA x1 26 (upd (x1.2.2.1 26) v5 (x1.1 32))).1 69 = (adv u1 p3).1 69 := x69
      generalize upA x1 26 (upd (x1.2.2.1 26) v5 (x1.1 32)) = x2 at sm2 y69 ⊢
      refine pk_bnd (pk_mo (node_s (kd := 30) (N := N) (by decide)) (fun u5 r5 h5 => pk_ck (fun _ => pk_ck (fun _ => pk_lt (pk_some ?_)))))
      have sm3 := SMS_A (k := 28) (g := upd (u5.2.2.1 28) r5.toNatClampNeg (u5.2.2.1 28 v5)) (SMS_tr sm2 h5.1) (by unfold SMX; omega) (by omega)
      refine EXB_mk (STQ_s2 s1 (by omega)) sm3 (by show u5.1 69 = _; rw [h5.2.1]; exact y69) (by omega) (by omega) (by omega) hkd hb ?_
      exact hE m3 l p3 n3 sc3 X3 W3 R3 Z3 CL3 stp.2.2.1 (PCG_k stp.2.2.2.1) d5 (by omega) (by omega) (by omega) (by omega) k11
    · refine pp_rf (RFS_T (need_x (s := 11) hc3 k11 (by decide) rfl)) (fun mm => ?_)
      refine pk_bnd (pk_mo (ndW_0 (N := N) (s := 6) hw3 h03 (by decide) rfl k11) (fun v r2 z => ?_))
      have hz : Kfc v v := z
      refine Kf_pk (u0 := v) ?_
      obtain ⟨hF0, hF1, hF2, hF3, hF4, hF5, hF6, hF7, hF8, hF9, hF10, hF11, hF12, hF13, hF14, hF15, hF16⟩ := yf_rc_M_behind (u0 := v) (N := N) d
      repeat' (first | with_reducible assumption | with_reducible refine Kf_br ?_ ?_ | with_reducible refine Kf_bnd ?_ (fun _ _ _ => ?_) | with_reducible refine Kf_ck ?_ | with_reducible refine Kf_ltm ?_ (fun _ _ => ?_) | with_reducible refine Kf_some ?_ | with_reducible refine Kf_bo (fun _ => ?_) | with_reducible exact yf_fm_M_node (by assumption) | with_reducible exact yf_fm_M_pattern (by assumption) | with_reducible exact yf_fm_M_wrong (by assumption) | with_reducible exact yf_fm_M_rule (by assumption) | with_reducible exact yf_fm_M_isSign (by assumption) | with_reducible exact yf_fm_M_isWord (by assumption) | with_reducible exact yf_fm_M_takeSign (by assumption) | with_reducible exact yf_fm_M_takeWord (by assumption) | with_reducible exact yf_fm_M_needSign (by assumption) | with_reducible exact yf_fm_M_needWord (by assumption) | with_reducible exact yf_fm_M_opens (by assumption) | with_reducible exact yf_fm_M_boundIn (by assumption) | with_reducible exact yf_fr_M_found (by assumption) | with_reducible exact yf_fm_M_bind (by assumption) | with_reducible exact yf_fm_M_isUnderscore (by assumption) | with_reducible exact yf_fm_M_unbind (by assumption) | with_reducible exact yf_fm_M_term (by assumption) | with_reducible exact yf_fm_M_namePattern (by assumption) | with_reducible exact yf_fr_M_patternAt (by assumption) | with_reducible exact yf_fm_M_beginsUnit (by assumption) | with_reducible exact yf_fm_M_save (by assumption) | with_reducible exact yf_fm_M_addRoot (by assumption) | with_reducible exact yf_fm_M_level (by assumption) | with_reducible exact yf_fm_M_reduce (by assumption) | with_reducible exact yf_fm_M_takeBack (by assumption) | with_reducible exact yf_fm_M_forgetSaved (by assumption) | with_reducible exact yf_fr_M_last (by assumption) | with_reducible exact yf_fr_M_clause (by assumption) | with_reducible exact yf_fm_M_predefinedOf (by assumption) | with_reducible exact yf_fm_M_function0 (by assumption) | with_reducible exact yf_fm_M_program (by assumption) | with_reducible exact hF0 _ (by assumption) | with_reducible exact hF1 _ _ (by assumption) | with_reducible exact hF2 _ _ _ (by assumption) | with_reducible exact hF3 _ _ _ (by assumption) | with_reducible exact hF4 _ (by assumption) | with_reducible exact hF5 _ _ (by assumption) | with_reducible exact hF6 _ _ (by assumption) | with_reducible exact hF7 _ _ (by assumption) | with_reducible exact hF8 _ _ (by assumption) | with_reducible exact hF9 _ (by assumption) | with_reducible exact hF10 _ (by assumption) | with_reducible exact hF11 _ (by assumption) | with_reducible exact hF12 _ (by assumption) | with_reducible exact hF13 _ (by assumption) | with_reducible exact hF14 _ (by assumption) | with_reducible exact hF15 _ (by assumption) | with_reducible exact hF16 _ _ (by assumption) | with_reducible exact yf_fb_M_block_186 (by assumption) hF0 hF1 hF2 hF3 hF4 hF5 hF6 hF7 hF8 hF9 hF10 hF11 hF12 hF13 hF14 hF15 hF16 | with_reducible exact yf_fb_M_block_160 (by assumption) hF0 hF1 hF2 hF3 hF4 hF5 hF6 hF7 hF8 hF9 hF10 hF11 hF12 hF13 hF14 hF15 hF16 | with_reducible exact yf_fb_M_block_131 (by assumption) hF0 hF1 hF2 hF3 hF4 hF5 hF6 hF7 hF8 hF9 hF10 hF11 hF12 hF13 hF14 hF15 hF16 | with_reducible exact yf_fb_M_block_49 (by assumption) hF0 hF1 hF2 hF3 hF4 hF5 hF6 hF7 hF8 hF9 hF10 hF11 hF12 hF13 hF14 hF15 hF16 | with_reducible exact yf_fb_M_block_0 (by assumption) hF0 hF1 hF2 hF3 hF4 hF5 hF6 hF7 hF8 hF9 hF10 hF11 hF12 hF13 hF14 hF15 hF16 | with_reducible refine Kf_ltv (fun _ => ?_) | with_reducible refine Kf_I ?_ (by decide) | with_reducible refine Kf_A ?_ | with_reducible refine Kf_J ?_ | with_reducible refine Kf_L ?_)
  · have hz : Kfc u1 u1 := hz
    refine Kf_pk (u0 := u1) ?_
    obtain ⟨hF0, hF1, hF2, hF3, hF4, hF5, hF6, hF7, hF8, hF9, hF10, hF11, hF12, hF13, hF14, hF15, hF16⟩ := yf_rc_M_behind (u0 := u1) (N := N) d
    repeat' (first | with_reducible assumption | with_reducible refine Kf_br ?_ ?_ | with_reducible refine Kf_bnd ?_ (fun _ _ _ => ?_) | with_reducible refine Kf_ck ?_ | with_reducible refine Kf_ltm ?_ (fun _ _ => ?_) | with_reducible refine Kf_some ?_ | with_reducible refine Kf_bo (fun _ => ?_) | with_reducible exact yf_fm_M_node (by assumption) | with_reducible exact yf_fm_M_pattern (by assumption) | with_reducible exact yf_fm_M_wrong (by assumption) | with_reducible exact yf_fm_M_rule (by assumption) | with_reducible exact yf_fm_M_isSign (by assumption) | with_reducible exact yf_fm_M_isWord (by assumption) | with_reducible exact yf_fm_M_takeSign (by assumption) | with_reducible exact yf_fm_M_takeWord (by assumption) | with_reducible exact yf_fm_M_needSign (by assumption) | with_reducible exact yf_fm_M_needWord (by assumption) | with_reducible exact yf_fm_M_opens (by assumption) | with_reducible exact yf_fm_M_boundIn (by assumption) | with_reducible exact yf_fr_M_found (by assumption) | with_reducible exact yf_fm_M_bind (by assumption) | with_reducible exact yf_fm_M_isUnderscore (by assumption) | with_reducible exact yf_fm_M_unbind (by assumption) | with_reducible exact yf_fm_M_term (by assumption) | with_reducible exact yf_fm_M_namePattern (by assumption) | with_reducible exact yf_fr_M_patternAt (by assumption) | with_reducible exact yf_fm_M_beginsUnit (by assumption) | with_reducible exact yf_fm_M_save (by assumption) | with_reducible exact yf_fm_M_addRoot (by assumption) | with_reducible exact yf_fm_M_level (by assumption) | with_reducible exact yf_fm_M_reduce (by assumption) | with_reducible exact yf_fm_M_takeBack (by assumption) | with_reducible exact yf_fm_M_forgetSaved (by assumption) | with_reducible exact yf_fr_M_last (by assumption) | with_reducible exact yf_fr_M_clause (by assumption) | with_reducible exact yf_fm_M_predefinedOf (by assumption) | with_reducible exact yf_fm_M_function0 (by assumption) | with_reducible exact yf_fm_M_program (by assumption) | with_reducible exact hF0 _ (by assumption) | with_reducible exact hF1 _ _ (by assumption) | with_reducible exact hF2 _ _ _ (by assumption) | with_reducible exact hF3 _ _ _ (by assumption) | with_reducible exact hF4 _ (by assumption) | with_reducible exact hF5 _ _ (by assumption) | with_reducible exact hF6 _ _ (by assumption) | with_reducible exact hF7 _ _ (by assumption) | with_reducible exact hF8 _ _ (by assumption) | with_reducible exact hF9 _ (by assumption) | with_reducible exact hF10 _ (by assumption) | with_reducible exact hF11 _ (by assumption) | with_reducible exact hF12 _ (by assumption) | with_reducible exact hF13 _ (by assumption) | with_reducible exact hF14 _ (by assumption) | with_reducible exact hF15 _ (by assumption) | with_reducible exact hF16 _ _ (by assumption) | with_reducible exact yf_fb_M_block_186 (by assumption) hF0 hF1 hF2 hF3 hF4 hF5 hF6 hF7 hF8 hF9 hF10 hF11 hF12 hF13 hF14 hF15 hF16 | with_reducible exact yf_fb_M_block_160 (by assumption) hF0 hF1 hF2 hF3 hF4 hF5 hF6 hF7 hF8 hF9 hF10 hF11 hF12 hF13 hF14 hF15 hF16 | with_reducible exact yf_fb_M_block_131 (by assumption) hF0 hF1 hF2 hF3 hF4 hF5 hF6 hF7 hF8 hF9 hF10 hF11 hF12 hF13 hF14 hF15 hF16 | with_reducible exact yf_fb_M_block_49 (by assumption) hF0 hF1 hF2 hF3 hF4 hF5 hF6 hF7 hF8 hF9 hF10 hF11 hF12 hF13 hF14 hF15 hF16 | with_reducible exact yf_fb_M_block_0 (by assumption) hF0 hF1 hF2 hF3 hF4 hF5 hF6 hF7 hF8 hF9 hF10 hF11 hF12 hF13 hF14 hF15 hF16 | with_reducible refine Kf_ltv (fun _ => ?_) | with_reducible refine Kf_I ?_ (by decide) | with_reducible refine Kf_A ?_ | with_reducible refine Kf_J ?_ | with_reducible refine Kf_L ?_)
end
