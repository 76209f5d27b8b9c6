set_option maxRecDepth 100000
def CJb (wB w : MS) (v2 : Int32) (k : Nat) : Prop := (∃ b : Nat, wB.1 75 = I (b : Nat) ∧ b ≤ 400) → w.2.2.1 41 v2.toNatClampNeg = I (k : Nat) ∧ (∃ d : Nat, w.1 46 = I (d : Nat) ∧ v2.toNatClampNeg < d ∧ d ≤ 100000) ∧ w.1 75 = wB.1 75
def CLZ (N : Nat) (m0 w0 : MS) (K : Nat → Nat) (T : Nat) (nm Nk : Nat → Nat) (tok p0 n : Nat) (scB : SCT) (mB wB m2 : MS) (z : Int32 ⊕ Nat) (w2 : MS) (rr : Int32) : Prop := match z with
  | .inr _ => FLW w2
  | .inl ρ => ∃ (π p4 n5 q1 : Nat) (sc1 : SCT) (e5 : List Nat × List Nat × Nat) (t5 : SCT) (X1 X2 : Nat) (W : Nat → Nat) (R1 R2 Z1 Z2 : Bool) (CL1 CL2 : Int32 × Int32 × Int32 → Prop) (lp : List Nat), ρ = I (π : Nat) ∧ (n < π ∧ π ≤ n5) ∧ (p0 ≤ q1 ∧ q1 < p4 ∧ p0 + 3 ≤ p4) ∧ STN m0 w0 K T Nk mB wB p0 n scB 1 m2 w2 p4 n5 (e5 :: t5) (max X1 X2) W (R1 || R2) (Z1 || Z2) (fun x => CL1 x ∨ CL2 x) ∧ TRB N K nm true m2 n n5 π p0 q1 scB sc1 X1 W R1 Z1 (BCo N CL1) ∧ BDB N K nm m2 n n5 π q1 p4 sc1 (e5 :: t5) X2 W R2 Z2 (BCo N CL2) ∧ m2.2.2.1 21 π = 0 ∧ (m2.2.2.1 18 π = I ((lp.headD 0 : Nat) : Int) ∧ NXT m2 lp ∧ (∀ x, x ∈ lp → n < x ∧ x ≤ n5) ∧ lp.length ≤ 6) ∧ ((tot sc1 ≤ tot scB + (q1 - p0) ∧ sc1.length = scB.length ∧ X1 ≤ 1400) ∧ X2 ≤ 1400) ∧ CJb wB w2 rr lp.length ∧ m2.2.2.1 17 π = I (tok : Nat) ∧ (∀ x, x ∈ lp → x ≠ π) ∧ rr ≠ -1
section
variable {α : Type} {R : MS → Int32 ⊕ Nat → MS → Int32 → Prop} {A : Option (MS × α)} {m0 w0 m w v u m2 m3 w2 x' y' z' mF mB wB mp mg : MS} {K nm Nk W W1 W2 WA WB : Nat → Nat} {T p n N q q1 q3 X Y X1 X2 XA n0 n1 n2 n3 lo lo2 l1 l2 np ng p0 p2 p4 ν μ π a b L L' k d o oo M D s s2 kd j j2 tok : Nat} {sc sc1 sc2 sc3 sc4 sc5 scB t t2 t3 t4 t5 : SCT} {e e2 e3 e4 e5 : List Nat × List Nat × Nat} {gd Rf Rg Zf Zg R1 Z1 own cs : Bool} {BC : MS → Prop} {v1 v2 v3 v4 v5 v6 v1c r ξ φ ca cb cc x y : Int32} {S : SG_M_behind} {NC : Nat → Prop} {CL CM CL1 : Int32 × Int32 × Int32 → Prop} {l lp lg : List Nat}
theorem CJ_k {a : Nat} (h : CJb wB w v2 a) (k : Kbc w v) : CJb wB v v2 a := fun hb => by
  obtain ⟨h1, ⟨d, d1, d2, d3⟩, h3⟩ := h hb
  obtain ⟨b, b1, b2⟩ := hb
  obtain ⟨⟨e, e1, e2, e3⟩, g1, g2, g3⟩ := k (v2.toNatClampNeg + 1) b (w.2.2.1 41) (w.2.2.1 74) ⟨⟨d, d1, d2, d3⟩, fun _ _ => rfl, ⟨h3.trans b1, b2⟩, fun _ _ => rfl⟩
  exact ⟨(g1 _ (Nat.lt_succ_self _)).trans h1, ⟨e, e1, e2, e3⟩, g2.1.trans b1.symm⟩
theorem NXT_j : ∀ {l : List Nat}, NXT m l → (∀ x, x ∈ l → m2.2.2.1 21 x = m.2.2.1 21 x) → NXT m2 l
  | [], _, _ => trivial
  | ν :: l, h, hk => ⟨by rw [hk ν List.mem_cons_self]; exact h.1, h.2.1, NXT_j h.2.2 (fun x hx => hk x (List.mem_cons_of_mem _ hx))⟩
theorem PRW_mem : ∀ {l : List Nat} {p p2 : Nat} {sc sc2 : SCT} {X : Nat}, PRW N K nm m2 lo n2 own W l p p2 sc sc2 X → ∀ x, x ∈ l → lo < x ∧ x ≤ n2
  | [], _, _, _, _, _, _, x, hx => by cases hx
  | ν :: l, p, p2, sc, sc2, X, ⟨q, q2, sc1, X1, X2, h1, g1, ⟨mi, li, ni, h2, hx, a, b, c⟩, h3, h4, h5, h6, h7⟩, x, hm => by
    rcases List.mem_cons.mp hm with rfl | hm
    · omega
    · exact PRW_mem h6 x hm
theorem cl_end (c : CTZ m0 w0 K T nm Nk) (hB : HBo N m0 w0 K T nm Nk d)
    (st : STN m0 w0 K T Nk mB wB p0 n scB s m2 w2 q1 n1 sc3 (max X1 X2) W R1 Z1 CL1) (hn0 : n ≤ 2 * p0) (hq : p0 ≤ q ∧ q ≤ q3 ∧ q3 ≤ q1 ∧ q < q1) (g3 : ∀ j, q3 ≤ j → j < q1 → K j ≠ 3) (h70 : w2.1 70 = I (o : Nat)) (ho : o ≤ 25) (h73 : w2.1 73 = 0)
    (hp : PRW N K nm mp l1 np true W lp p0 q scB sc1 X1) (kp : (∀ j, l1 < j → j ≤ np → nod m2 j = nod mp j ∧ m2.2.2.1 21 j = mp.2.2.1 21 j) ∧ Kcc mp m2) (hl1 : n ≤ l1) (hnp : np ≤ n1) (hX1 : X1 ≤ 1400) (hlp : lp.length ≤ 6) (htk : tok ≤ 4000)
    (hg : ERW N K nm true mg l2 ng W lg q q3 sc1 sc2 X2 R1 Z1 (BCo N CL1)) (kg : (∀ j, l2 < j → j ≤ ng → nod m2 j = nod mg j ∧ m2.2.2.1 21 j = mg.2.2.1 21 j) ∧ Kcc mg m2) (hl2 : n ≤ l2) (hng : ng ≤ n1) (hR1 : R1 = false → sc3 = sc2) (hsc : tot sc3 ≤ tot scB + (q3 - p0)) (hJ : CJb wB w2 v2 lp.length) :
    PP (CLZ N m0 w0 K T nm Nk tok p0 n scB mB wB) (hb_Pa_part_30 N (hrc_Pa_matched N D) () m2 (I (tok : Nat)) (I ((lp.headD 0 : Nat) : Int)) (I ((lg.headD 0 : Nat) : Int))) (ck (inb v2 (ln 42)) (lt (upA w2 42 (upd (w2.2.2.1 42) v2.toNatClampNeg r)) (fun w3 => bnd (fm_M_needSign N w3 10) (fun u4 _ => ck (inb v2 (ln 43)) (lt (upA u4 43 (upd (u4.2.2.1 43) v2.toNatClampNeg (u4.1 32))) (fun w5 => bnd ((rc_M_behind N d).2.2.2.2.1 w5) (fun u6 r6 => bnd (fm_M_node N u6 29 (u6.1 69)) (fun u7 r7 => bnd (fr_M_last N u7 r6) (fun u8 _ => some (u8, v2)))))))))) := by
  have T4 := c.1.1.1
  unfold hb_Pa_part_30
  refine r_ck (fun zv => r_lt ?_)
  have vn : v2 ≠ -1 := by
    obtain ⟨a, ha, hb⟩ := inb_N zv
    have l42 : ln 42 ≤ 99999 := by decide
    intro e
    have := (I_eq (x := (a : Nat)) (y := (-1 : Int)) (by omega) (by omega) (by omega) (by omega)).mp (ha.symm.trans (e.trans (show (-1 : Int32) = I (-1) from rfl)))
    omega
  have sm1 : SMS w2 (upA w2 42 (upd (w2.2.2.1 42) v2.toNatClampNeg r)) := SMS_A SMS_rf (by unfold SMX; omega) (by omega)
  have s1 := STN_s st sm1 rfl
  generalize hx1 : upA w2 42 (upd (w2.2.2.1 42) v2.toNatClampNeg r) = x1 at s1 ⊢
  have x70 : x1.1 70 = I (o : Nat) := by rw [← hx1]; exact h70
  have x73 : x1.1 73 = 0 := by rw [← hx1]; exact h73
  have xJ : CJb wB x1 v2 lp.length := by rw [← hx1]; exact CJ_k hJ (Kb_A Kb_rf (by decide))
  clear hx1 sm1
  have hc2 := RLP_c c s1.1
  have hw2 := RLP_w c s1.1
  have h2 := s1.1.2.2.2.2.2.2
  by_cases k38 : K q1 = 38
  · have ql : q1 < T := TWK_lt c s1.1.2.2.2.2.1 (by omega) (by omega)
    rw [need_e (s := 38) hc2 k38 (by decide) rfl, bTm_l, ndS_1 (s := 10) hw2 h2 (by decide) rfl k38, bnd_s]
    refine r_ck (fun _ => r_lt ?_)
    have s2 := STN_ad s1 ql (by omega)
    have aI : ∀ k, k ≠ 69 → (adv x1 q1).1 k = x1.1 k := fun k hk => by unfold adv; rw [upI_ne hk]
    have sm2 : SMS (adv x1 q1) (upA (adv x1 q1) 43 (upd ((adv x1 q1).2.2.1 43) v2.toNatClampNeg ((adv x1 q1).1 32))) := SMS_A SMS_rf (by unfold SMX; omega) (by omega)
    have s3 := STN_s s2 sm2 rfl
    generalize hx2 : upA (adv x1 q1) 43 (upd ((adv x1 q1).2.2.1 43) v2.toNatClampNeg ((adv x1 q1).1 32)) = x2 at s3 ⊢
    have y70 : x2.1 70 = I (o : Nat) := by rw [← hx2]; show (adv x1 q1).1 70 = _; rw [aI 70 (by decide)]; exact x70
    have y73 : x2.1 73 = 0 := by rw [← hx2]; show (adv x1 q1).1 73 = _; rw [aI 73 (by decide)]; exact x73
    have yJ : CJb wB x2 v2 lp.length := by rw [← hx2]; exact CJ_k xJ (Kb_A (Kb_I Kb_rf (by decide)) (by decide))
    clear hx2 sm2
    have nb := s3.2.1
    refine pp_bTn (pp_kr (hB D (advc m2 q1) x2 (q1 + 1) n1 sc3 o s3.1 s3.2.1.2.1 (by omega) s3.2.2.2.2.1 (STW_nd s3.2.2.2.2) y70 ho y73) ((yb_rc_M_behind (N := N) d).2.2.2.2.1 x2 x2 Kb_rf)) (fun m3 φ u5 r5 hz => ?_) (fun m3 kk u5 r5 hz => ?_)
    · obtain ⟨hz, hkb⟩ := hz
      have zJ := CJ_k yJ hkb
      obtain ⟨lb, p4, n3, sc5, X3, W3, R3, Z3, CL3, d1, d2, d3, st5, d5, d6⟩ := hz
      have nb5 := st5.2.1
      have pT := st5.1.2.2.2.2.1
      rw [d1, add_e st5.2.1.2.1 (by omega), bnd_s]
      have stT := STN_tr s3 st5
      have sx := stT.2.2.2.2.2.1
      cases sc5 with
      | nil => exact absurd (STQ_rn st5).2.1.1 (by decide)
      | cons e5 t5 =>
      refine pp_l (pk_bnd (pk_mo (pk_and (node_s (kd := 29) (N := N) (by decide)) (yb_fm_M_node (N := N) Kb_rf)) (fun u8 r8 h8 => ?_)))
      obtain ⟨h8, k8⟩ := h8
      refine pk_bnd (pk_mo (pk_and (yl_fr_M_last (u0 := u8) (N := N) Kl_rf) (yb_fr_M_last (N := N) Kb_rf)) (fun u9 _ h9 => pk_some ?_))
      obtain ⟨h9, k9⟩ := h9
      have jF := CJ_k (CJ_k zJ k8) k9
      have t4 := STN_s stT (SMS_tr h8.1 h9.1) (by rw [h9.2, h8.2.1])
      have hnd : nod (adN m3 n3 25 (I (tok : Nat)) (I ((lp.headD 0 : Nat) : Int)) (I ((lg.headD 0 : Nat) : Int)) (I ((lb.headD 0 : Nat) : Int))) (n3 + 1) = (25, I (tok : Nat), I ((lp.headD 0 : Nat) : Int), I ((lg.headD 0 : Nat) : Int), I ((lb.headD 0 : Nat) : Int)) := adN_nod.1
      have t6 := STN_add (a := 25) (b := I (tok : Nat)) (c := I ((lp.headD 0 : Nat) : Int)) (d := I ((lg.headD 0 : Nat) : Int)) (f := I ((lb.headD 0 : Nat) : Int)) (STN_s2 t4 (by omega : 1 + 1 ≤ _))
      have kcF : Kcc m3 (adN m3 n3 25 (I (tok : Nat)) (I ((lp.headD 0 : Nat) : Int)) (I ((lg.headD 0 : Nat) : Int)) (I ((lb.headD 0 : Nat) : Int))) := PCG_k (PCG_add PCG_rf)
      have kc23 : Kcc m2 m3 := Kc_tr kc_ad (PCG_k st5.2.2.2.1)
      have koF : ∀ j, j ≤ n1 → nod (adN m3 n3 25 (I (tok : Nat)) (I ((lp.headD 0 : Nat) : Int)) (I ((lg.headD 0 : Nat) : Int)) (I ((lb.headD 0 : Nat) : Int))) j = nod m2 j ∧ (adN m3 n3 25 (I (tok : Nat)) (I ((lp.headD 0 : Nat) : Int)) (I ((lg.headD 0 : Nat) : Int)) (I ((lb.headD 0 : Nat) : Int))).2.2.1 21 j = m2.2.2.1 21 j := fun j hj => KPO_tr st5.2.2.1 adN_o (by omega) j hj
      have sw := st.2.2.2.2
      have sb := st5.2.2.2.2.1
      have trb := trb_mk (N := N) (K := K) (nm := nm) (own := true) (m2 := adN m3 n3 25 (I (tok : Nat)) (I ((lp.headD 0 : Nat) : Int)) (I ((lg.headD 0 : Nat) : Int)) (I ((lb.headD 0 : Nat) : Int))) (lo := n) (n2 := n3 + 1) (π := n3 + 1) (W := mrg (q1 + 1) W W3) hnd (by omega) (Nat.le_refl _) (by omega) (PRW_w (fun j _ h2 => mrg_l (by omega)) hp) ⟨fun j h1 h2 => ⟨(koF j (by omega)).1.trans (kp.1 j h1 h2).1, (koF j (by omega)).2.trans (kp.1 j h1 h2).2⟩, Kc_tr kp.2 (Kc_tr kc23 kcF)⟩ hl1 (by omega) hX1 (ERW_w (fun j _ h2 => mrg_l (by omega)) hg) ⟨fun j h1 h2 => ⟨(koF j (by omega)).1.trans (kg.1 j h1 h2).1, (koF j (by omega)).2.trans (kg.1 j h1 h2).2⟩, Kc_tr kg.2 (Kc_tr kc23 kcF)⟩ hl2 (by omega) BCo_st
      have trb' : TRB N K nm true (adN m3 n3 25 (I (tok : Nat)) (I ((lp.headD 0 : Nat) : Int)) (I ((lg.headD 0 : Nat) : Int)) (I ((lb.headD 0 : Nat) : Int))) n (n3 + 1) (n3 + 1) p0 q3 scB sc3 (max X1 X2) (mrg (q1 + 1) W W3) R1 Z1 (BCo N CL1) := by
        cases R1 with
        | false => rw [hR1 rfl]; exact trb
        | true => exact TRB_any trb
      have bdb : BDB N K nm (adN m3 n3 25 (I (tok : Nat)) (I ((lp.headD 0 : Nat) : Int)) (I ((lg.headD 0 : Nat) : Int)) (I ((lb.headD 0 : Nat) : Int))) n (n3 + 1) (n3 + 1) q3 p4 sc3 (e5 :: t5) X3 (mrg (q1 + 1) W W3) R3 Z3 (BCo N CL3) := bdb_mk (mb := m3) (l3 := n1) (nb := n3) hnd (by omega) (Nat.le_refl _) (by omega) (ERW_g (q := q1 + 1) (by omega) (fun j h1 h2 => by
          by_cases z : j < q1
          · exact g3 j h1 z
          · rw [show j = q1 by omega]; omega) d2 (ERW_w (fun j h1 _ => mrg_r h1) d5)) ⟨fun j _ h2 => adN_o j h2, kcF⟩ (by omega) (by omega)
      have nx : NXT mp lp := PRW_nxt (by omega) hp
      refine ⟨n3 + 1, p4, n3 + 1, q3, sc3, e5, t5, max X1 X2, X3, mrg (q1 + 1) W W3, R1, R3, Z1, Z3, CL1, CL3, lp, rfl, ⟨by omega, Nat.le_refl _⟩, ⟨by omega, by omega, by omega⟩, t6, trb', bdb, adN_nod.2, ⟨by rw [adN_18, upd_at], NXT_j nx (fun x hx => ?_), fun x hx => ?_, hlp⟩, ⟨⟨hsc, SCX_len sw.2.1, sw.2.2.2.1.2⟩, sb.2.2.2.1.2⟩, jF, congrArg (fun x => x.2.1) hnd, fun x hx => by
        have := PRW_mem hp x hx
        omega, vn⟩
      · have := PRW_mem hp x hx
        exact (koF x (by omega)).2.trans (kp.1 x this.1 this.2).2
      · have := PRW_mem hp x hx
        omega
    · have hz : Kfc u5 u5 := hz.1
      refine Kf_pk (u0 := u5) ?_
      obtain ⟨hF0, hF1, hF2, hF3, hF4, hF5, hF6, hF7, hF8, hF9, hF10, hF11, hF12, hF13, hF14, hF15, hF16⟩ := yf_rc_M_behind (u0 := u5) (N := N) d
      repeat' (first | with_reducible assumption | with_reducible refine Kf_br ?_ ?_ | with_reducible refine Kf_bnd ?_ (fun _ _ _ => ?_) | with_reducible refine Kf_ck ?_ | with_reducible refine Kf_ltm ?_ (fun _ _ => ?_) | with_reducible refine Kf_some ?_ | with_reducible refine Kf_bo (fun _ => ?_) | with_reducible exact yf_fm_M_node (by assumption) | with_reducible exact yf_fm_M_pattern (by assumption) | with_reducible exact yf_fm_M_wrong (by assumption) | with_reducible exact yf_fm_M_rule (by assumption) | with_reducible exact yf_fm_M_isSign (by assumption) | with_reducible exact yf_fm_M_isWord (by assumption) | with_reducible exact yf_fm_M_takeSign (by assumption) | with_reducible exact yf_fm_M_takeWord (by assumption) | with_reducible exact yf_fm_M_needSign (by assumption) | with_reducible exact yf_fm_M_needWord (by assumption) | with_reducible exact yf_fm_M_opens (by assumption) | with_reducible exact yf_fm_M_boundIn (by assumption) | with_reducible exact yf_fr_M_found (by assumption) | with_reducible exact yf_fm_M_bind (by assumption) | with_reducible exact yf_fm_M_isUnderscore (by assumption) | with_reducible exact yf_fm_M_unbind (by assumption) | with_reducible exact yf_fm_M_term (by assumption) | with_reducible exact yf_fm_M_namePattern (by assumption) | with_reducible exact yf_fr_M_patternAt (by assumption) | with_reducible exact yf_fm_M_beginsUnit (by assumption) | with_reducible exact yf_fm_M_save (by assumption) | with_reducible exact yf_fm_M_addRoot (by assumption) | with_reducible exact yf_fm_M_level (by assumption) | with_reducible exact yf_fm_M_reduce (by assumption) | with_reducible exact yf_fm_M_takeBack (by assumption) | with_reducible exact yf_fm_M_forgetSaved (by assumption) | with_reducible exact yf_fr_M_last (by assumption) | with_reducible exact yf_fr_M_clause (by assumption) | with_reducible exact yf_fm_M_predefinedOf (by assumption) | with_reducible exact yf_fm_M_function0 (by assumption) | with_reducible exact yf_fm_M_program (by assumption) | with_reducible exact hF0 _ (by assumption) | with_reducible exact hF1 _ _ (by assumption) | with_reducible exact hF2 _ _ _ (by assumption) | with_reducible exact hF3 _ _ _ (by assumption) | with_reducible exact hF4 _ (by assumption) | with_reducible exact hF5 _ _ (by assumption) | with_reducible exact hF6 _ _ (by assumption) | with_reducible exact hF7 _ _ (by assumption) | with_reducible exact hF8 _ _ (by assumption) | with_reducible exact hF9 _ (by assumption) | with_reducible exact hF10 _ (by assumption) | with_reducible exact hF11 _ (by assumption) | with_reducible exact hF12 _ (by assumption) | with_reducible exact hF13 _ (by assumption) | with_reducible exact hF14 _ (by assumption) | with_reducible exact hF15 _ (by assumption) | with_reducible exact hF16 _ _ (by assumption) | with_reducible exact yf_fb_M_clause_183 (by assumption) hF0 hF1 hF2 hF3 hF4 hF5 hF6 hF7 hF8 hF9 hF10 hF11 hF12 hF13 hF14 hF15 hF16 (yf_gg_M_clause hF0 hF1 hF2 hF3 hF4 hF5 hF6 hF7 hF8 hF9 hF10 hF11 hF12 hF13 hF14 hF15 hF16 _) | with_reducible exact yf_fb_M_clause_172 (by assumption) hF0 hF1 hF2 hF3 hF4 hF5 hF6 hF7 hF8 hF9 hF10 hF11 hF12 hF13 hF14 hF15 hF16 (yf_gg_M_clause hF0 hF1 hF2 hF3 hF4 hF5 hF6 hF7 hF8 hF9 hF10 hF11 hF12 hF13 hF14 hF15 hF16 _) | with_reducible exact yf_fb_M_clause_134 (by assumption) hF0 hF1 hF2 hF3 hF4 hF5 hF6 hF7 hF8 hF9 hF10 hF11 hF12 hF13 hF14 hF15 hF16 (yf_gg_M_clause hF0 hF1 hF2 hF3 hF4 hF5 hF6 hF7 hF8 hF9 hF10 hF11 hF12 hF13 hF14 hF15 hF16 _) | with_reducible exact yf_fb_M_clause_103 (by assumption) hF0 hF1 hF2 hF3 hF4 hF5 hF6 hF7 hF8 hF9 hF10 hF11 hF12 hF13 hF14 hF15 hF16 (yf_gg_M_clause hF0 hF1 hF2 hF3 hF4 hF5 hF6 hF7 hF8 hF9 hF10 hF11 hF12 hF13 hF14 hF15 hF16 _) | with_reducible exact yf_fb_M_clause_75 (by assumption) hF0 hF1 hF2 hF3 hF4 hF5 hF6 hF7 hF8 hF9 hF10 hF11 hF12 hF13 hF14 hF15 hF16 (yf_gg_M_clause hF0 hF1 hF2 hF3 hF4 hF5 hF6 hF7 hF8 hF9 hF10 hF11 hF12 hF13 hF14 hF15 hF16 _) | with_reducible exact yf_fb_M_clause_0 (by assumption) hF0 hF1 hF2 hF3 hF4 hF5 hF6 hF7 hF8 hF9 hF10 hF11 hF12 hF13 hF14 hF15 hF16 (yf_gg_M_clause hF0 hF1 hF2 hF3 hF4 hF5 hF6 hF7 hF8 hF9 hF10 hF11 hF12 hF13 hF14 hF15 hF16 _) | with_reducible exact (yf_gg_M_clause hF0 hF1 hF2 hF3 hF4 hF5 hF6 hF7 hF8 hF9 hF10 hF11 hF12 hF13 hF14 hF15 hF16 _) _ _ _ _ (by assumption) | with_reducible refine Kf_ltv (fun _ => ?_) | with_reducible refine Kf_I ?_ (by decide) | with_reducible refine Kf_A ?_ | with_reducible refine Kf_J ?_ | with_reducible refine Kf_L ?_)
  · refine pp_rf (RFS_T (need_x (s := 38) hc2 k38 (by decide) rfl)) (fun mm => ?_)
    refine pk_bnd (pk_mo (ndS_0 (N := N) (s := 10) hw2 h2 (by decide) rfl k38) (fun v r2 z => ?_))
    have hz : Kfc v v := z
    refine Kf_pk (u0 := v) ?_
    obtain ⟨hF0, hF1, hF2, hF3, hF4, hF5, hF6, hF7, hF8, hF9, hF10, hF11, hF12, hF13, hF14, hF15, hF16⟩ := yf_rc_M_behind (u0 := v) (N := N) d
    repeat' (first | with_reducible assumption | with_reducible refine Kf_br ?_ ?_ | with_reducible refine Kf_bnd ?_ (fun _ _ _ => ?_) | with_reducible refine Kf_ck ?_ | with_reducible refine Kf_ltm ?_ (fun _ _ => ?_) | with_reducible refine Kf_some ?_ | with_reducible refine Kf_bo (fun _ => ?_) | with_reducible exact yf_fm_M_node (by assumption) | with_reducible exact yf_fm_M_pattern (by assumption) | with_reducible exact yf_fm_M_wrong (by assumption) | with_reducible exact yf_fm_M_rule (by assumption) | with_reducible exact yf_fm_M_isSign (by assumption) | with_reducible exact yf_fm_M_isWord (by assumption) | with_reducible exact yf_fm_M_takeSign (by assumption) | with_reducible exact yf_fm_M_takeWord (by assumption) | with_reducible exact yf_fm_M_needSign (by assumption) | with_reducible exact yf_fm_M_needWord (by assumption) | with_reducible exact yf_fm_M_opens (by assumption) | with_reducible exact yf_fm_M_boundIn (by assumption) | with_reducible exact yf_fr_M_found (by assumption) | with_reducible exact yf_fm_M_bind (by assumption) | with_reducible exact yf_fm_M_isUnderscore (by assumption) | with_reducible exact yf_fm_M_unbind (by assumption) | with_reducible exact yf_fm_M_term (by assumption) | with_reducible exact yf_fm_M_namePattern (by assumption) | with_reducible exact yf_fr_M_patternAt (by assumption) | with_reducible exact yf_fm_M_beginsUnit (by assumption) | with_reducible exact yf_fm_M_save (by assumption) | with_reducible exact yf_fm_M_addRoot (by assumption) | with_reducible exact yf_fm_M_level (by assumption) | with_reducible exact yf_fm_M_reduce (by assumption) | with_reducible exact yf_fm_M_takeBack (by assumption) | with_reducible exact yf_fm_M_forgetSaved (by assumption) | with_reducible exact yf_fr_M_last (by assumption) | with_reducible exact yf_fr_M_clause (by assumption) | with_reducible exact yf_fm_M_predefinedOf (by assumption) | with_reducible exact yf_fm_M_function0 (by assumption) | with_reducible exact yf_fm_M_program (by assumption) | with_reducible exact hF0 _ (by assumption) | with_reducible exact hF1 _ _ (by assumption) | with_reducible exact hF2 _ _ _ (by assumption) | with_reducible exact hF3 _ _ _ (by assumption) | with_reducible exact hF4 _ (by assumption) | with_reducible exact hF5 _ _ (by assumption) | with_reducible exact hF6 _ _ (by assumption) | with_reducible exact hF7 _ _ (by assumption) | with_reducible exact hF8 _ _ (by assumption) | with_reducible exact hF9 _ (by assumption) | with_reducible exact hF10 _ (by assumption) | with_reducible exact hF11 _ (by assumption) | with_reducible exact hF12 _ (by assumption) | with_reducible exact hF13 _ (by assumption) | with_reducible exact hF14 _ (by assumption) | with_reducible exact hF15 _ (by assumption) | with_reducible exact hF16 _ _ (by assumption) | with_reducible exact yf_fb_M_clause_183 (by assumption) hF0 hF1 hF2 hF3 hF4 hF5 hF6 hF7 hF8 hF9 hF10 hF11 hF12 hF13 hF14 hF15 hF16 (yf_gg_M_clause hF0 hF1 hF2 hF3 hF4 hF5 hF6 hF7 hF8 hF9 hF10 hF11 hF12 hF13 hF14 hF15 hF16 _) | with_reducible exact yf_fb_M_clause_172 (by assumption) hF0 hF1 hF2 hF3 hF4 hF5 hF6 hF7 hF8 hF9 hF10 hF11 hF12 hF13 hF14 hF15 hF16 (yf_gg_M_clause hF0 hF1 hF2 hF3 hF4 hF5 hF6 hF7 hF8 hF9 hF10 hF11 hF12 hF13 hF14 hF15 hF16 _) | with_reducible exact yf_fb_M_clause_134 (by assumption) hF0 hF1 hF2 hF3 hF4 hF5 hF6 hF7 hF8 hF9 hF10 hF11 hF12 hF13 hF14 hF15 hF16 (yf_gg_M_clause hF0 hF1 hF2 hF3 hF4 hF5 hF6 hF7 hF8 hF9 hF10 hF11 hF12 hF13 hF14 hF15 hF16 _) | with_reducible exact yf_fb_M_clause_103 (by assumption) hF0 hF1 hF2 hF3 hF4 hF5 hF6 hF7 hF8 hF9 hF10 hF11 hF12 hF13 hF14 hF15 hF16 (yf_gg_M_clause hF0 hF1 hF2 hF3 hF4 hF5 hF6 hF7 hF8 hF9 hF10 hF11 hF12 hF13 hF14 hF15 hF16 _) | with_reducible exact yf_fb_M_clause_75 (by assumption) hF0 hF1 hF2 hF3 hF4 hF5 hF6 hF7 hF8 hF9 hF10 hF11 hF12 hF13 hF14 hF15 hF16 (yf_gg_M_clause hF0 hF1 hF2 hF3 hF4 hF5 hF6 hF7 hF8 hF9 hF10 hF11 hF12 hF13 hF14 hF15 hF16 _) | with_reducible exact yf_fb_M_clause_0 (by assumption) hF0 hF1 hF2 hF3 hF4 hF5 hF6 hF7 hF8 hF9 hF10 hF11 hF12 hF13 hF14 hF15 hF16 (yf_gg_M_clause hF0 hF1 hF2 hF3 hF4 hF5 hF6 hF7 hF8 hF9 hF10 hF11 hF12 hF13 hF14 hF15 hF16 _) | with_reducible exact (yf_gg_M_clause hF0 hF1 hF2 hF3 hF4 hF5 hF6 hF7 hF8 hF9 hF10 hF11 hF12 hF13 hF14 hF15 hF16 _) _ _ _ _ (by assumption) | with_reducible refine Kf_ltv (fun _ => ?_) | with_reducible refine Kf_I ?_ (by decide) | with_reducible refine Kf_A ?_ | with_reducible refine Kf_J ?_ | with_reducible refine Kf_L ?_)
end
