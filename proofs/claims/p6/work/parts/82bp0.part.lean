set_option maxRecDepth 100000
def PAR (N : Nat) (m0 w0 : MS) (K : Nat → Nat) (T : Nat) (nm Nk : Nat → Nat) (p n : Nat) (e : List Nat × List Nat × Nat) (t : SCT) (m w m2 : MS) (ρ : Int32) (w2 : MS) : Prop := ∃ (π p2 n2 q1 : Nat) (sc1 : SCT) (e3 : List Nat × List Nat × Nat) (t3 : SCT) (X1 X2 : Nat) (W : Nat → Nat) (R1 R2 Z1 Z2 : Bool) (CL1 CL2 : Int32 × Int32 × Int32 → Prop), ρ = I (π : Nat) ∧ (n < π ∧ π ≤ n2) ∧ (p ≤ q1 ∧ q1 < p2) ∧ STQ m0 w0 K T Nk false m w p n (e :: t) 1 m2 w2 p2 n2 (cutS e.1.length (e3 :: t3)) (max X1 X2) W (R1 || R2) (Z1 || Z2) (fun x => CL1 x ∨ CL2 x) ∧ TRB N K nm false m2 n n2 π p q1 (e :: t) sc1 X1 W R1 Z1 (BCo N CL1) ∧ BDB N K nm m2 n n2 π q1 p2 sc1 (e3 :: t3) X2 W R2 Z2 (BCo N CL2) ∧ m2.2.2.1 21 π = 0 ∧ ((tot sc1 ≤ tot (e :: t) + (q1 - p) ∧ sc1.length = (e :: t).length ∧ X1 ≤ 1400) ∧ tot (e3 :: t3) ≤ tot sc1 + (p2 - q1) ∧ (e3 :: t3).length = sc1.length ∧ X2 ≤ 1400) ∧ (e.1.length ≤ e3.1.length ∧ tot t3 + e.1.length = tot (e :: t)) ∧ nms (cutS e.1.length (e3 :: t3)) = nms (e :: t)
section
variable {α : Type} {R : MS → Int32 ⊕ Nat → MS → Int32 → Prop} {A : Option (MS × α)} {m0 w0 m w v u m2 m3 w2 x y z mF mB wB mp mg : MS} {K nm Nk W W1 W2 WA WB : Nat → Nat} {T p n N q q1 X Y X1 X2 XA n1 n2 n3 lo l1 l2 np ng p2 p4 ν μ π a b L L' k d o M D s : Nat} {sc sc1 sc2 sc3 sc4 sc5 t t2 t3 t4 t5 : SCT} {e e2 e3 e4 e5 : List Nat × List Nat × Nat} {gd Rf Rg Zf R1 Z1 own : Bool} {BC : MS → Prop} {v1 v2 v3 v4 v6 r ξ : Int32} {S : SG_M_behind} {NC : Nat → Prop} {CL CM CL1 : Int32 × Int32 × Int32 → Prop} {l lp lg : List Nat}
theorem TRB_w (h : ∀ j, p ≤ j → j < p2 → W2 j = W j) (q : TRB N K nm own m2 lo n2 π p p2 sc sc2 X W Rf Zf BC) : TRB N K nm own m2 lo n2 π p p2 sc sc2 X W2 Rf Zf BC := fun d m3 cm what a b c => by
  have := q d m3 cm what a b c
  unfold CPO at this ⊢
  rw [wup_w h]
  exact this
theorem BDB_w (h : ∀ j, p ≤ j → j < p2 → W2 j = W j) (q : BDB N K nm m2 lo n2 π p p2 sc sc2 X W Rf Zf BC) : BDB N K nm m2 lo n2 π p p2 sc sc2 X W2 Rf Zf BC := fun d m3 cm last a b => by
  have := q d m3 cm last a b
  unfold CPO at this ⊢
  rw [wup_w h]
  exact this
theorem TRB_any (q : TRB N K nm own m2 lo n2 π p p2 sc sc2 X W true Zf BC) : TRB N K nm own m2 lo n2 π p p2 sc sc3 X W true Zf BC := fun d m3 cm what a b c => pk_mo (q d m3 cm what a b c) (fun v _ h => by
  rcases h with h | h
  · exact Or.inl h
  · exact Bool.noConfusion h.1.1)
theorem ERW_g (hp : p ≤ q) (g : ∀ j, p ≤ j → j < q → K j ≠ 3) : ∀ {l : List Nat}, l ≠ [] → ERW N K nm gd m2 lo n2 W l q p2 sc sc2 X Rf Zf BC → ERW N K nm gd m2 lo n2 W l p p2 sc sc2 X Rf Zf BC
  | [], h, _ => absurd rfl h
  | ν :: l, _, ⟨q', q2, sc1, X1, X2, R1, R2, Z1, Z2, B1, B2, h1, g1, h2⟩ => ⟨q', q2, sc1, X1, X2, R1, R2, Z1, Z2, B1, B2, ⟨by omega, h1.2⟩, fun j j1 j2 => by
      by_cases z : j < q
      · exact g j j1 z
      · exact g1 j (by omega) j2, h2⟩
theorem STQ_pat {ε : Int32} (h : PAZ N m0 w0 K T nm Nk p n false sc m w m2 (.inl ε) w2 r) (k : Kjc w w2) (nd : ND w) : ∃ (p2 n2 ν : Nat) (sc2 : SCT) (X : Nat) (W : Nat → Nat), ε = I (ν : Nat) ∧ (n < ν ∧ ν ≤ n2) ∧ p < p2 ∧ STQ m0 w0 K T Nk false m w p n sc 1 m2 w2 p2 n2 sc2 X W false false (fun _ => False) ∧ m2.2.2.1 21 ν = 0 ∧ PTN N K nm m2 n n2 ν false p p2 sc sc2 X W := by
  obtain ⟨p2, n2, ν, sc2, X, W, a1, a2, a3, a4, a5, a6, a7, a8, a9, a10, a11, a12, a13, a14⟩ := h
  obtain ⟨av, hav, hav2⟩ := nd
  refine ⟨p2, n2, ν, sc2, X, W, a1, a2, a4.1, ⟨a3, ⟨by omega, a4.2.1, by omega, by omega⟩, a5, PCF_G a7, ⟨a8, a9.1, a10, a11, by rw [a12]; exact Iff.rfl, ?_, ⟨fun j hj => a13.1 j (by simp only [List.mem_cons, List.not_mem_nil, or_false] at hj ⊢; omega), fun j hj => k.2 j (by omega), fun j _ => by rw [k.2 74 (by omega)], fun j _ => by rw [k.2 76 (by omega)], fun i h1 h2 j _ => by rw [k.2 i (by omega)]⟩, av, av, ⟨hav, by rw [k.1 32 (by decide)]; exact hav, Nat.le_refl _, hav2⟩, fun x => ⟨fun ⟨j, h1, _⟩ => absurd h1 (by omega), False.elim⟩, fun j _ => ?_⟩, fun z => Bool.noConfusion z, a9.2 rfl⟩, a6, a14⟩
  · rw [a13.1 72 (by decide)]
    exact ⟨fun z => ⟨z, rfl⟩, fun z => z.1⟩
  · rw [k.2 23 (by omega), k.2 25 (by omega), k.2 26 (by omega), k.2 27 (by omega)]
    exact ⟨rfl, fun _ => ⟨rfl, rfl, rfl⟩⟩
theorem ar_s {x y : Int32} : PK (fun v (_ : Unit) => SMS w v ∧ v.1 69 = w.1 69) (fm_M_addRoot N w x y) := yl_fm_M_addRoot (u0 := w) Kl_rf
theorem part_tl {F : MS → Int32 → Option (MS × (Int32 ⊕ Nat))} (c : CTZ m0 w0 K T nm Nk) (hB : HBo N m0 w0 K T nm Nk d) (hW : ∀ m k w r, FLW w → R m (.inr k) w r)
    (st : STQ m0 w0 K T Nk false m w p n (e :: t) s m2 w2 q1 n1 sc3 (max X1 X2) W R1 Z1 CL1) (hn0 : n ≤ 2 * p) (hq : p ≤ q ∧ q ≤ q1) (h70 : w2.1 70 = I (o : Nat)) (ho : o ≤ 25) (h73 : w2.1 73 = 0) (e1400 : e.1.length ≤ 1400)
    (hp : PRW N K nm mp l1 np false W lp p q (e :: t) sc1 X1) (kp : (∀ j, l1 < j → j ≤ np → nod m2 j = nod mp j ∧ m2.2.2.1 21 j = mp.2.2.1 21 j) ∧ Kcc mp m2) (hl1 : n ≤ l1) (hnp : np ≤ n1) (hX1 : X1 ≤ 1400)
    (hg : ERW N K nm true mg l2 ng W lg q q1 sc1 sc2 X2 R1 Z1 (BCo N CL1)) (kg : (∀ j, l2 < j → j ≤ ng → nod m2 j = nod mg j ∧ m2.2.2.1 21 j = mg.2.2.1 21 j) ∧ Kcc mg m2) (hl2 : n ≤ l2) (hng : ng ≤ n1) (hR1 : R1 = false → sc3 = sc2)
    (hv6 : v6 ≠ -1) (h34 : v4 = -1 ∨ v3 ≠ -1)
    (hC : ∀ m3 ρ w3 a b, a ≠ -1 → PAR N m0 w0 K T nm Nk p n e t m w m3 ρ w3 → PP R (F m3 ρ) (fb_M_parts0_214 N (rc_M_behind N d) (gg_M_parts0 N (rc_M_behind N d) M) w3 v1 v2 a b)) :
    PP R (bTm (hb_Pa_part_30 N (hrc_Pa_matched N D) () m2 (I (p : Nat)) (I ((lp.headD 0 : Nat) : Int)) (I ((lg.headD 0 : Nat) : Int))) F) (fb_M_parts0_127 N (rc_M_behind N d) (gg_M_parts0 N (rc_M_behind N d) M) w2 v1 v2 v3 v4 v6 (I (e.1.length : Nat)) 42 v6 r) := by
  have T4 := c.1.1.1
  unfold hb_Pa_part_30 fb_M_parts0_127
  refine r_ck (fun _ => r_ck (fun _ => r_lt ?_))
  have sm1 : SMS w2 (upA w2 42 (upd (w2.2.2.1 42) v6.toNatClampNeg r)) := SMS_A SMS_rf (by unfold SMX; omega) (by omega)
  have s1 := STQ_s st sm1 rfl
  generalize hx1 : upA w2 42 (upd (w2.2.2.1 42) v6.toNatClampNeg r) = x1 at s1 ⊢
  have x70 : x1.1 70 = I (o : Nat) := by rw [← hx1]; exact h70
  have x73 : x1.1 73 = 0 := by rw [← hx1]; exact h73
  clear hx1 sm1
  have hc2 := RLP_c c s1.1
  have hw2 := RLP_w c s1.1
  have h2 := s1.1.2.2.2.2.2.2
  by_cases k38 : K q1 = 38
  · have ql : q1 < T := TWK_lt c s1.1.2.2.2.2.1 (by omega) (by omega)
    rw [need_e (s := 38) hc2 k38 (by decide) rfl, bTm_l, ndS_1 (s := 10) hw2 h2 (by decide) rfl k38, bnd_s, bTm_as]
    refine r_ck (fun _ => r_lt ?_)
    have s2 := STQ_ad s1 ql (by omega)
    have aI : ∀ k, k ≠ 69 → (adv x1 q1).1 k = x1.1 k := fun k hk => by unfold adv; rw [upI_ne hk]
    have sm2 : SMS (adv x1 q1) (upA (adv x1 q1) 43 (upd ((adv x1 q1).2.2.1 43) v6.toNatClampNeg ((adv x1 q1).1 32))) := SMS_A SMS_rf (by unfold SMX; omega) (by omega)
    have s3 := STQ_s s2 sm2 rfl
    generalize hx2 : upA (adv x1 q1) 43 (upd ((adv x1 q1).2.2.1 43) v6.toNatClampNeg ((adv x1 q1).1 32)) = x2 at s3 ⊢
    have y70 : x2.1 70 = I (o : Nat) := by rw [← hx2]; show (adv x1 q1).1 70 = _; rw [aI 70 (by decide)]; exact x70
    have y73 : x2.1 73 = 0 := by rw [← hx2]; show (adv x1 q1).1 73 = _; rw [aI 73 (by decide)]; exact x73
    clear hx2 sm2
    have nb := s3.2.1
    refine pp_bTn (hB D (advc m2 q1) x2 (q1 + 1) n1 sc3 o s3.1 s3.2.1.2.1 (by omega) (STQ_rn s3) (STQ_nd s3) y70 ho y73) (fun m3 φ u5 r5 hz => ?_) (fun m3 kk u5 r5 hz => ?_)
    · obtain ⟨lb, p4, n3, sc5, X3, W3, R3, Z3, CL3, d1, d2, d3, st5, d5, d6⟩ := hz
      have nb5 := st5.2.1
      have pT := st5.1.2.2.2.2.1
      rw [d1, add_e st5.2.1.2.1 (by omega), bnd_s, bTm_l]
      have stT := STQ_tr s3 st5
      have sx := stT.2.2.2.2.1.2.1
      cases sc5 with
      | nil => exact sx.elim
      | cons e5 t5 =>
      refine r_bnd (pk_mo ar_s (fun u6 _ h6 => ?_))
      have t1 := STQ_s stT h6.1 h6.2
      refine r_bnd (pk_mo (unb_p (STQ_rn t1) e1400) (fun u7 _ un => ?_))
      have t2 := STQ_cut (b := e.1.length) t1 (Nat.le_refl _) un (fun z => Bool.noConfusion z)
      refine r_bnd (pk_mo (node_s (kd := 26) (N := N) (by decide)) (fun u8 r8 h8 => ?_))
      have t3 := STQ_s t2 h8.1 h8.2.1
      obtain ⟨-, -, -, av, -, -, -, g6, g7⟩ := h8
      rw [g7]
      refine r_ck (fun _ => r_lt (r_ck (fun _ => r_lt ?_)))
      have k8 : u8.2.2.1 23 av ≠ 12 ∧ u8.2.2.1 23 av ≠ 15 := by rw [g6]; decide
      have t4 := STQ_s t3 (SMS_B (k := 25) (x := -2) (SMS_rf (w := u8)) (Or.inl rfl) k8) rfl
      generalize hx3 : upA u8 25 (upd (u8.2.2.1 25) av (-2)) = x3 at t4 ⊢
      have k9 : x3.2.2.1 23 av ≠ 12 ∧ x3.2.2.1 23 av ≠ 15 := by rw [← hx3, upA_no (by decide)]; exact k8
      clear hx3
      have t5' := STQ_s t4 (SMS_B (k := 26) (x := v2) (SMS_rf (w := x3)) (Or.inr (Or.inl rfl)) k9) rfl
      generalize upA x3 26 (upd (x3.2.2.1 26) av v2) = x4 at t5' ⊢
      have hnd : nod (adN m3 n3 25 (I (p : Nat)) (I ((lp.headD 0 : Nat) : Int)) (I ((lg.headD 0 : Nat) : Int)) (I ((lb.headD 0 : Nat) : Int))) (n3 + 1) = (25, I (p : Nat), I ((lp.headD 0 : Nat) : Int), I ((lg.headD 0 : Nat) : Int), I ((lb.headD 0 : Nat) : Int)) := adN_nod.1
      have t6 := STQ_add (a := 25) (b := I (p : Nat)) (c := I ((lp.headD 0 : Nat) : Int)) (d := I ((lg.headD 0 : Nat) : Int)) (f := I ((lb.headD 0 : Nat) : Int)) (STQ_s2 t5' (by omega : 1 + 1 ≤ _))
      have kcF : Kcc m3 (adN m3 n3 25 (I (p : Nat)) (I ((lp.headD 0 : Nat) : Int)) (I ((lg.headD 0 : Nat) : Int)) (I ((lb.headD 0 : Nat) : Int))) := PCG_k (PCG_add PCG_rf)
      have kc23 : Kcc m2 m3 := Kc_tr (PCG_k (PCG_I (m := m2) PCG_rf (Or.inr (Or.inr rfl)) : PCG m2 (advc m2 q1))) (PCG_k st5.2.2.2.1)
      have ko23 : KPO n1 m2 m3 := st5.2.2.1
      have koF : ∀ j, j ≤ n1 → nod (adN m3 n3 25 (I (p : Nat)) (I ((lp.headD 0 : Nat) : Int)) (I ((lg.headD 0 : Nat) : Int)) (I ((lb.headD 0 : Nat) : Int))) j = nod m2 j ∧ (adN m3 n3 25 (I (p : Nat)) (I ((lp.headD 0 : Nat) : Int)) (I ((lg.headD 0 : Nat) : Int)) (I ((lb.headD 0 : Nat) : Int))).2.2.1 21 j = m2.2.2.1 21 j := fun j hj => KPO_tr ko23 adN_o (by omega) j hj
      have sw := st.2.2.2.2.1
      have sb := st5.2.2.2.2.1
      have trb := trb_mk (N := N) (K := K) (nm := nm) (own := false) (m2 := adN m3 n3 25 (I (p : Nat)) (I ((lp.headD 0 : Nat) : Int)) (I ((lg.headD 0 : Nat) : Int)) (I ((lb.headD 0 : Nat) : Int))) (lo := n) (n2 := n3 + 1) (π := n3 + 1) (W := mrg (q1 + 1) W W3) hnd (by omega) (Nat.le_refl _) (by omega) (PRW_w (fun j _ h2 => mrg_l (by omega)) hp) ⟨fun j h1 h2 => ⟨(koF j (by omega)).1.trans (kp.1 j h1 h2).1, (koF j (by omega)).2.trans (kp.1 j h1 h2).2⟩, Kc_tr kp.2 (Kc_tr kc23 kcF)⟩ hl1 (by omega) hX1 (ERW_w (fun j _ h2 => mrg_l (by omega)) hg) ⟨fun j h1 h2 => ⟨(koF j (by omega)).1.trans (kg.1 j h1 h2).1, (koF j (by omega)).2.trans (kg.1 j h1 h2).2⟩, Kc_tr kg.2 (Kc_tr kc23 kcF)⟩ hl2 (by omega) BCo_st
      have trb' : TRB N K nm false (adN m3 n3 25 (I (p : Nat)) (I ((lp.headD 0 : Nat) : Int)) (I ((lg.headD 0 : Nat) : Int)) (I ((lb.headD 0 : Nat) : Int))) n (n3 + 1) (n3 + 1) p q1 (e :: t) sc3 (max X1 X2) (mrg (q1 + 1) W W3) R1 Z1 (BCo N CL1) := by
        cases R1 with
        | false => rw [hR1 rfl]; exact trb
        | true => exact TRB_any trb
      have bdb : BDB N K nm (adN m3 n3 25 (I (p : Nat)) (I ((lp.headD 0 : Nat) : Int)) (I ((lg.headD 0 : Nat) : Int)) (I ((lb.headD 0 : Nat) : Int))) n (n3 + 1) (n3 + 1) q1 p4 sc3 (e5 :: t5) X3 (mrg (q1 + 1) W W3) R3 Z3 (BCo N CL3) := bdb_mk (mb := m3) (l3 := n1) (nb := n3) hnd (by omega) (Nat.le_refl _) (by omega) (ERW_g (q := q1 + 1) (by omega) (fun j h1 h2 => by rw [show j = q1 by omega]; omega) d2 (ERW_w (fun j h1 _ => mrg_r h1) d5)) ⟨fun j _ h2 => adN_o j h2, kcF⟩ (by omega) (by omega)
      have pz : PAR N m0 w0 K T nm Nk p n e t m w (adN m3 n3 25 (I (p : Nat)) (I ((lp.headD 0 : Nat) : Int)) (I ((lg.headD 0 : Nat) : Int)) (I ((lb.headD 0 : Nat) : Int))) (I ((n3 + 1 : Nat) : Int)) x4 := ⟨n3 + 1, p4, n3 + 1, q1, sc3, e5, t5, max X1 X2, X3, mrg (q1 + 1) W W3, R1, R3, Z1, Z3, CL1, CL3, rfl, ⟨by omega, Nat.le_refl _⟩, ⟨by omega, by omega⟩, t6, trb', bdb, adN_nod.2, ⟨⟨sw.2.2.2.1.1, SCX_len sw.2.1, sw.2.2.2.1.2⟩, by have := sb.2.2.2.1.1; omega, SCX_len sb.2.1, sb.2.2.2.1.2⟩, cut_mk sx, cut_nm sx⟩
      obtain ⟨π, p2, n2, qq, s1', e3, t3', Y1, Y2, W', A1, A2, B1, B2, C1, C2, q0, q00, q000, stz, rest⟩ := id pz
      refine r_br (fun _ => hC _ _ x4 _ _ hv6 pz) (fun y4 => r_ck (fun _ => r_lt ?_))
      have n3' : v3 ≠ -1 := h34.resolve_left (of_decide_eq_false y4)
      have sm5 : SMS x4 (upA x4 45 (upd (x4.2.2.1 45) v4.toNatClampNeg v6)) := SMS_A SMS_rf (by unfold SMX; omega) (by omega)
      exact hC _ _ _ _ _ n3' ⟨π, p2, n2, qq, s1', e3, t3', Y1, Y2, W', A1, A2, B1, B2, C1, C2, q0, q00, q000, STQ_s stz sm5 rfl, rest⟩
    · have hz : Kfc u5 u5 := hz
      refine pk_mo (Q := fun w2 (_ : Int32) => FLW w2) ?_ (fun v r hv => hW _ _ v r hv)
      refine Kf_pk (u0 := u5) ?_
      obtain ⟨hF0, hF1, hF2, hF3, hF4, hF5, hF6, hF7, hF8, hF9, hF10, hF11, hF12, hF13, hF14, hF15, hF16⟩ := yf_rc_M_behind (u0 := u5) (N := N) d
      repeat' (first | with_reducible assumption | with_reducible refine Kf_br ?_ ?_ | with_reducible refine Kf_bnd ?_ (fun _ _ _ => ?_) | with_reducible refine Kf_ck ?_ | with_reducible refine Kf_ltm ?_ (fun _ _ => ?_) | with_reducible refine Kf_some ?_ | with_reducible refine Kf_bo (fun _ => ?_) | with_reducible exact yf_fm_M_node (by assumption) | with_reducible exact yf_fm_M_pattern (by assumption) | with_reducible exact yf_fm_M_wrong (by assumption) | with_reducible exact yf_fm_M_rule (by assumption) | with_reducible exact yf_fm_M_isSign (by assumption) | with_reducible exact yf_fm_M_isWord (by assumption) | with_reducible exact yf_fm_M_takeSign (by assumption) | with_reducible exact yf_fm_M_takeWord (by assumption) | with_reducible exact yf_fm_M_needSign (by assumption) | with_reducible exact yf_fm_M_needWord (by assumption) | with_reducible exact yf_fm_M_opens (by assumption) | with_reducible exact yf_fm_M_boundIn (by assumption) | with_reducible exact yf_fr_M_found (by assumption) | with_reducible exact yf_fm_M_bind (by assumption) | with_reducible exact yf_fm_M_isUnderscore (by assumption) | with_reducible exact yf_fm_M_unbind (by assumption) | with_reducible exact yf_fm_M_term (by assumption) | with_reducible exact yf_fm_M_namePattern (by assumption) | with_reducible exact yf_fr_M_patternAt (by assumption) | with_reducible exact yf_fm_M_beginsUnit (by assumption) | with_reducible exact yf_fm_M_save (by assumption) | with_reducible exact yf_fm_M_addRoot (by assumption) | with_reducible exact yf_fm_M_level (by assumption) | with_reducible exact yf_fm_M_reduce (by assumption) | with_reducible exact yf_fm_M_takeBack (by assumption) | with_reducible exact yf_fm_M_forgetSaved (by assumption) | with_reducible exact yf_fr_M_last (by assumption) | with_reducible exact yf_fr_M_clause (by assumption) | with_reducible exact yf_fm_M_predefinedOf (by assumption) | with_reducible exact yf_fm_M_function0 (by assumption) | with_reducible exact yf_fm_M_program (by assumption) | with_reducible exact hF0 _ (by assumption) | with_reducible exact hF1 _ _ (by assumption) | with_reducible exact hF2 _ _ _ (by assumption) | with_reducible exact hF3 _ _ _ (by assumption) | with_reducible exact hF4 _ (by assumption) | with_reducible exact hF5 _ _ (by assumption) | with_reducible exact hF6 _ _ (by assumption) | with_reducible exact hF7 _ _ (by assumption) | with_reducible exact hF8 _ _ (by assumption) | with_reducible exact hF9 _ (by assumption) | with_reducible exact hF10 _ (by assumption) | with_reducible exact hF11 _ (by assumption) | with_reducible exact hF12 _ (by assumption) | with_reducible exact hF13 _ (by assumption) | with_reducible exact hF14 _ (by assumption) | with_reducible exact hF15 _ (by assumption) | with_reducible exact hF16 _ _ (by assumption) | with_reducible exact yf_fb_M_parts0_214 (by assumption) hF0 hF1 hF2 hF3 hF4 hF5 hF6 hF7 hF8 hF9 hF10 hF11 hF12 hF13 hF14 hF15 hF16 (yf_gg_M_parts0 hF0 hF1 hF2 hF3 hF4 hF5 hF6 hF7 hF8 hF9 hF10 hF11 hF12 hF13 hF14 hF15 hF16 _) | with_reducible exact yf_fb_M_parts0_127 (by assumption) hF0 hF1 hF2 hF3 hF4 hF5 hF6 hF7 hF8 hF9 hF10 hF11 hF12 hF13 hF14 hF15 hF16 (yf_gg_M_parts0 hF0 hF1 hF2 hF3 hF4 hF5 hF6 hF7 hF8 hF9 hF10 hF11 hF12 hF13 hF14 hF15 hF16 _) | with_reducible exact yf_fb_M_parts0_105 (by assumption) hF0 hF1 hF2 hF3 hF4 hF5 hF6 hF7 hF8 hF9 hF10 hF11 hF12 hF13 hF14 hF15 hF16 (yf_gg_M_parts0 hF0 hF1 hF2 hF3 hF4 hF5 hF6 hF7 hF8 hF9 hF10 hF11 hF12 hF13 hF14 hF15 hF16 _) | with_reducible exact yf_fb_M_parts0_74 (by assumption) hF0 hF1 hF2 hF3 hF4 hF5 hF6 hF7 hF8 hF9 hF10 hF11 hF12 hF13 hF14 hF15 hF16 (yf_gg_M_parts0 hF0 hF1 hF2 hF3 hF4 hF5 hF6 hF7 hF8 hF9 hF10 hF11 hF12 hF13 hF14 hF15 hF16 _) | with_reducible exact yf_fb_M_parts0_19 (by assumption) hF0 hF1 hF2 hF3 hF4 hF5 hF6 hF7 hF8 hF9 hF10 hF11 hF12 hF13 hF14 hF15 hF16 (yf_gg_M_parts0 hF0 hF1 hF2 hF3 hF4 hF5 hF6 hF7 hF8 hF9 hF10 hF11 hF12 hF13 hF14 hF15 hF16 _) | with_reducible exact yf_fb_M_parts0_17 (by assumption) hF0 hF1 hF2 hF3 hF4 hF5 hF6 hF7 hF8 hF9 hF10 hF11 hF12 hF13 hF14 hF15 hF16 (yf_gg_M_parts0 hF0 hF1 hF2 hF3 hF4 hF5 hF6 hF7 hF8 hF9 hF10 hF11 hF12 hF13 hF14 hF15 hF16 _) | with_reducible exact yf_fb_M_parts0_0 (by assumption) hF0 hF1 hF2 hF3 hF4 hF5 hF6 hF7 hF8 hF9 hF10 hF11 hF12 hF13 hF14 hF15 hF16 (yf_gg_M_parts0 hF0 hF1 hF2 hF3 hF4 hF5 hF6 hF7 hF8 hF9 hF10 hF11 hF12 hF13 hF14 hF15 hF16 _) | with_reducible exact (yf_gg_M_parts0 hF0 hF1 hF2 hF3 hF4 hF5 hF6 hF7 hF8 hF9 hF10 hF11 hF12 hF13 hF14 hF15 hF16 _) _ _ _ _ _ _ (by assumption) | with_reducible refine Kf_ltv (fun _ => ?_) | with_reducible refine Kf_I ?_ (by decide) | with_reducible refine Kf_A ?_ | with_reducible refine Kf_J ?_ | with_reducible refine Kf_L ?_)
  · refine pp_rf (RFS_T (RFS_T (need_x (s := 38) hc2 k38 (by decide) rfl))) (fun mm => ?_)
    refine pk_mo (Q := fun w2 (_ : Int32) => FLW w2) ?_ (fun v r hv => hW _ _ v r hv)
    refine pk_bnd (pk_mo (ndS_0 (N := N) (s := 10) hw2 h2 (by decide) rfl k38) (fun v r2 z => ?_))
    have hz : Kfc v v := z
    refine Kf_pk (u0 := v) ?_
    obtain ⟨hF0, hF1, hF2, hF3, hF4, hF5, hF6, hF7, hF8, hF9, hF10, hF11, hF12, hF13, hF14, hF15, hF16⟩ := yf_rc_M_behind (u0 := v) (N := N) d
    repeat' (first | with_reducible assumption | with_reducible refine Kf_br ?_ ?_ | with_reducible refine Kf_bnd ?_ (fun _ _ _ => ?_) | with_reducible refine Kf_ck ?_ | with_reducible refine Kf_ltm ?_ (fun _ _ => ?_) | with_reducible refine Kf_some ?_ | with_reducible refine Kf_bo (fun _ => ?_) | with_reducible exact yf_fm_M_node (by assumption) | with_reducible exact yf_fm_M_pattern (by assumption) | with_reducible exact yf_fm_M_wrong (by assumption) | with_reducible exact yf_fm_M_rule (by assumption) | with_reducible exact yf_fm_M_isSign (by assumption) | with_reducible exact yf_fm_M_isWord (by assumption) | with_reducible exact yf_fm_M_takeSign (by assumption) | with_reducible exact yf_fm_M_takeWord (by assumption) | with_reducible exact yf_fm_M_needSign (by assumption) | with_reducible exact yf_fm_M_needWord (by assumption) | with_reducible exact yf_fm_M_opens (by assumption) | with_reducible exact yf_fm_M_boundIn (by assumption) | with_reducible exact yf_fr_M_found (by assumption) | with_reducible exact yf_fm_M_bind (by assumption) | with_reducible exact yf_fm_M_isUnderscore (by assumption) | with_reducible exact yf_fm_M_unbind (by assumption) | with_reducible exact yf_fm_M_term (by assumption) | with_reducible exact yf_fm_M_namePattern (by assumption) | with_reducible exact yf_fr_M_patternAt (by assumption) | with_reducible exact yf_fm_M_beginsUnit (by assumption) | with_reducible exact yf_fm_M_save (by assumption) | with_reducible exact yf_fm_M_addRoot (by assumption) | with_reducible exact yf_fm_M_level (by assumption) | with_reducible exact yf_fm_M_reduce (by assumption) | with_reducible exact yf_fm_M_takeBack (by assumption) | with_reducible exact yf_fm_M_forgetSaved (by assumption) | with_reducible exact yf_fr_M_last (by assumption) | with_reducible exact yf_fr_M_clause (by assumption) | with_reducible exact yf_fm_M_predefinedOf (by assumption) | with_reducible exact yf_fm_M_function0 (by assumption) | with_reducible exact yf_fm_M_program (by assumption) | with_reducible exact hF0 _ (by assumption) | with_reducible exact hF1 _ _ (by assumption) | with_reducible exact hF2 _ _ _ (by assumption) | with_reducible exact hF3 _ _ _ (by assumption) | with_reducible exact hF4 _ (by assumption) | with_reducible exact hF5 _ _ (by assumption) | with_reducible exact hF6 _ _ (by assumption) | with_reducible exact hF7 _ _ (by assumption) | with_reducible exact hF8 _ _ (by assumption) | with_reducible exact hF9 _ (by assumption) | with_reducible exact hF10 _ (by assumption) | with_reducible exact hF11 _ (by assumption) | with_reducible exact hF12 _ (by assumption) | with_reducible exact hF13 _ (by assumption) | with_reducible exact hF14 _ (by assumption) | with_reducible exact hF15 _ (by assumption) | with_reducible exact hF16 _ _ (by assumption) | with_reducible exact yf_fb_M_parts0_214 (by assumption) hF0 hF1 hF2 hF3 hF4 hF5 hF6 hF7 hF8 hF9 hF10 hF11 hF12 hF13 hF14 hF15 hF16 (yf_gg_M_parts0 hF0 hF1 hF2 hF3 hF4 hF5 hF6 hF7 hF8 hF9 hF10 hF11 hF12 hF13 hF14 hF15 hF16 _) | with_reducible exact yf_fb_M_parts0_127 (by assumption) hF0 hF1 hF2 hF3 hF4 hF5 hF6 hF7 hF8 hF9 hF10 hF11 hF12 hF13 hF14 hF15 hF16 (yf_gg_M_parts0 hF0 hF1 hF2 hF3 hF4 hF5 hF6 hF7 hF8 hF9 hF10 hF11 hF12 hF13 hF14 hF15 hF16 _) | with_reducible exact yf_fb_M_parts0_105 (by assumption) hF0 hF1 hF2 hF3 hF4 hF5 hF6 hF7 hF8 hF9 hF10 hF11 hF12 hF13 hF14 hF15 hF16 (yf_gg_M_parts0 hF0 hF1 hF2 hF3 hF4 hF5 hF6 hF7 hF8 hF9 hF10 hF11 hF12 hF13 hF14 hF15 hF16 _) | with_reducible exact yf_fb_M_parts0_74 (by assumption) hF0 hF1 hF2 hF3 hF4 hF5 hF6 hF7 hF8 hF9 hF10 hF11 hF12 hF13 hF14 hF15 hF16 (yf_gg_M_parts0 hF0 hF1 hF2 hF3 hF4 hF5 hF6 hF7 hF8 hF9 hF10 hF11 hF12 hF13 hF14 hF15 hF16 _) | with_reducible exact yf_fb_M_parts0_19 (by assumption) hF0 hF1 hF2 hF3 hF4 hF5 hF6 hF7 hF8 hF9 hF10 hF11 hF12 hF13 hF14 hF15 hF16 (yf_gg_M_parts0 hF0 hF1 hF2 hF3 hF4 hF5 hF6 hF7 hF8 hF9 hF10 hF11 hF12 hF13 hF14 hF15 hF16 _) | with_reducible exact yf_fb_M_parts0_17 (by assumption) hF0 hF1 hF2 hF3 hF4 hF5 hF6 hF7 hF8 hF9 hF10 hF11 hF12 hF13 hF14 hF15 hF16 (yf_gg_M_parts0 hF0 hF1 hF2 hF3 hF4 hF5 hF6 hF7 hF8 hF9 hF10 hF11 hF12 hF13 hF14 hF15 hF16 _) | with_reducible exact yf_fb_M_parts0_0 (by assumption) hF0 hF1 hF2 hF3 hF4 hF5 hF6 hF7 hF8 hF9 hF10 hF11 hF12 hF13 hF14 hF15 hF16 (yf_gg_M_parts0 hF0 hF1 hF2 hF3 hF4 hF5 hF6 hF7 hF8 hF9 hF10 hF11 hF12 hF13 hF14 hF15 hF16 _) | with_reducible exact (yf_gg_M_parts0 hF0 hF1 hF2 hF3 hF4 hF5 hF6 hF7 hF8 hF9 hF10 hF11 hF12 hF13 hF14 hF15 hF16 _) _ _ _ _ _ _ (by assumption) | with_reducible refine Kf_ltv (fun _ => ?_) | with_reducible refine Kf_I ?_ (by decide) | with_reducible refine Kf_A ?_ | with_reducible refine Kf_J ?_ | with_reducible refine Kf_L ?_)
end
