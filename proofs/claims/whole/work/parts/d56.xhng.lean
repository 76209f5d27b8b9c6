/-! expressions: andalso, orelse are worked off, both -/
set_option maxRecDepth 100000
section
variable {α β : Type} {m0 w0 m w m2 w2 m3 w3 v u w1 mS wS : MS} {K nm Nk W W2 : Nat → Nat} {N T D d o a a0 b b0 c cm cm0 cm2 cm3 q q0 r s lo lo0 mid hi i j f f2 n k kk p p2 σ tk x xa xb M m1 lv y t tok ν : Nat} {Q Q0 Q2 Q3 Q4 : Nat → Nat} {sc sc0 sc2 sc3 : SCT} {g lst l2 : Bool} {L L1 L2 S : List Nat} {idc fof cvr : Int → Int → Int} {z : Unit} {rt v1 v2 v3 v4 v5 r0 : Int32} {fc : MS → Unit → Option (MS × Unit)} {RR : MS → Unit → MS → Int32 → Prop} {A' : Option (MS × Unit)} {B' : Option (MS × Int32)} {F : MS → Int32 → Option (MS × Int32)} {RU : MS → α → MS → β → Prop} {fA : MS → Unit → Option (MS × α)} {BU : Option (MS × β)}
theorem Kco_23 (h : XCS m0 nm m a cm sc g) {gg : Nat → Int32} : XCS m0 nm (upA m 23 gg) a cm sc g := by
  obtain ⟨⟨h1, h2, h3, h4, h5, h6⟩, h7⟩ := h
  exact ⟨⟨⟨h1.1, fun k hk => by rw [upA_no (by omega)]; exact h1.2 k hk⟩, ⟨h2.1, h2.2.1, h2.2.2.1, h2.2.2.2.1, CNl_fr h2.2.2.2.2 (upA_no (by decide)) (fun j _ => by rw [upA_no (by decide)])⟩, h3, h4, by rw [upA_no (by decide)]; exact h5, h6⟩, h7⟩
/-- a chain of one hook arrives -/
theorem arr_1 (h441 : m.1 441 = I (b : Nat)) (hx : 0 < x ∧ x < 24000) (h0 : m.2.2.1 23 x = 0) (h : PP RU (fA (upA m 23 (upd (m.2.2.1 23) x (I (b : Nat)))) ()) BU) : PP RU (bnd (hm_Co_arrive N m (I (x : Nat))) fA) BU := by
  refine l_bnd ?_
  unfold hm_Co_arrive hb_Co_arrive_0
  cases N with
  | zero => exact pk_none
  | succ N =>
    show PK _ (hb_Co_arrive_4 (N + 1) (hg_Co_arrive (N + 1) N) m (I (x : Nat)) 0)
    unfold hb_Co_arrive_4
    rw [show decide ((24000 : Int32) ≤ 0) = false from rfl, br_f, decide_eq_false (fun z => by
      have := (I_eq (x := ((x : Nat) : Int)) (y := 0) (by omega) (by omega) (by decide) (by decide)).mp z
      omega), br_f]
    unfold hm_Co_at hb_Co_at_0 hb_Co_at_21 hm_Co_set hb_Co_set_0 hb_Co_set_18
    have d1 : decide (I (x : Nat) < (0 : Int32)) = false := decide_eq_false (fun z => by
      have := (I_lt (x := ((x : Nat) : Int)) (y := 0) (by omega) (by omega) (by decide) (by decide)).mp z
      omega)
    have d2 : decide (I (x : Nat) < (24000 : Int32)) = true := decide_eq_true ((I_lt (x := ((x : Nat) : Int)) (y := 24000) (by omega) (by omega) (by decide) (by decide)).mpr (by omega))
    have d3 : decide ((24000 : Int32) ≤ I (x : Nat)) = false := decide_eq_false (fun z => by
      have := (I_le (x := 24000) (y := ((x : Nat) : Int)) (by decide) (by decide) (by omega) (by omega)).mp z
      omega)
    rw [d1, br_f, d2, br_t, i_inb (by omega) (by decide), ck_t, bnd_s, br_f, d3, br_f, ck_t, i_nt2 (p := x) (by omega), h0, h441, lt_e, bnd_s]
    cases N with
    | zero => exact pk_none
    | succ N =>
      show PK _ (hb_Co_arrive_4 (N + 1 + 1) (hg_Co_arrive (N + 1 + 1) N) _ 0 (0 + 1))
      unfold hb_Co_arrive_4 hb_Co_arrive_40
      rw [show decide ((24000 : Int32) ≤ 0 + 1) = false from rfl, br_f, show decide ((0 : Int32) = 0) = true from rfl, br_t]
      exact pk_some h
/-- a hinge is worked off, here: as far as its names -/
theorem red_h (h83 : w.1 83 = I ((p + 1 : Nat) : Int)) (hp : p < 3000) (hb : b0 ≤ p) {rk : Nat} (hrk : 1 ≤ rk ∧ rk ≤ 2) (h79 : w.2.2.1 79 p = I (rk : Nat)) (h81 : w.2.2.1 81 p = I (ν : Nat)) (hν : ν ≤ 24000) (h82 : w.2.2.1 82 p = I (n : Nat)) (hlv : lv ≤ 6) (hc : lv ≤ rk) (hG : ∀ M', PP RR A' (bnd (fm_M_unbind N (upI w 83 (I (p : Nat))) (I (n : Nat))) (fun u6 _ => ck (inb (u6.1 83) (ln 81)) (ck (inb (u6.2.2.1 81 (u6.1 83).toNatClampNeg) (ln 25)) (lt (upA u6 25 (upd (u6.2.2.1 25) (u6.2.2.1 81 (u6.1 83).toNatClampNeg).toNatClampNeg (u6.1 32))) (fun w7 => ck (inb (w7.1 83) (ln 81)) (lt (w7.2.2.1 81 (w7.1 83).toNatClampNeg) (fun y8 => bnd (gg_M_reduce N M' w7 (I (b0 : Nat)) (I (lv : Nat)) y8 1) F)))))))) : PP RR A' (bnd (gg_M_reduce N M w (I (b0 : Nat)) (I (lv : Nat)) r0 1) F) := by
  cases M with
  | zero => exact pp_nr
  | succ M =>
    show PP RR A' (bnd (fb_M_reduce_6 N (gg_M_reduce N M) w (I (b0 : Nat)) (I (lv : Nat)) r0 1) F)
    unfold fb_M_reduce_6
    rw [show decide ((1 : Int32) = 0) = false from rfl, br_f, h83, decI (by omega) (by omega) (by omega) (by omega), decide_eq_false (by omega), br_f, I_sn, bnd_ck]
    refine r_ck (fun _ => ?_)
    rw [bnd_lt]
    refine r_lt ?_
    rw [tnI (n := p) rfl (by omega), h79]
    have e56 : PP RR A' (bnd (fb_M_reduce_56 N (gg_M_reduce N M) w (I (b0 : Nat)) (I (lv : Nat)) r0 (I (rk : Nat))) F) := by
      unfold fb_M_reduce_56 fb_M_reduce_61 fb_M_reduce_255
      rw [show decide ((1 : Int32) = 0) = false from rfl, br_f, bnd_lt, h83, I_sn]
      refine r_lt ?_
      rw [I_dn (a := rk) (b := 7) (s := 7) (by omega) (by decide) rfl, decide_eq_false (by omega), br_f, show decide ((3 : Int32) ≤ I (rk : Nat)) = false from decide_eq_false (fun z => by
        have := (I_le (x := 3) (y := ((rk : Nat) : Int)) (by decide) (by decide) (by omega) (by omega)).mp z
        omega), br_f, bnd_ck]
      refine r_ck (fun _ => ?_)
      have e83 : (upI w 83 (I (p : Nat))).1 83 = I (p : Nat) := upI_at
      have e82 : (upI w 83 (I (p : Nat))).2.2.1 82 p = I (n : Nat) := h82
      rw [bnd_as2, e83, tnI (n := p) rfl (by omega), e82]
      intro m9 z9 w9 r9 x1 x2
      refine hG M m9 z9 w9 r9 x1 ?_
      rw [← x2]
      refine congrArg _ (funext (fun u6 => funext (fun _ => ?_)))
      rw [bnd_ck, bnd_ck, bnd_lt]
      refine congrArg _ (congrArg _ (congrArg _ (funext (fun w7 => ?_))))
      rw [bnd_ck, bnd_lt]
    by_cases z : lv < rk
    · rw [decide_eq_true ((I_lt (by omega) (by omega) (by omega) (by omega)).mpr (by omega)), br_t]
      exact e56
    · have hc' : rk = lv := by omega
      subst hc'
      rw [decide_eq_false (fun z => by
        have := (I_lt (x := ((rk : Nat) : Int)) (y := ((rk : Nat) : Int)) (by omega) (by omega) (by omega) (by omega)).mp z
        omega), br_f, show decide (I (rk : Nat) = I (rk : Nat)) = true from decide_eq_true rfl, br_t, I_dn (a := rk) (b := 3) (s := 3) (by omega) (by decide) rfl, decide_eq_false (by omega), br_f, I_dn (a := rk) (b := 4) (s := 4) (by omega) (by decide) rfl, decide_eq_false (by omega), br_f]
      exact e56
/-- andalso, orelse are worked off, both -/
theorem pop_h (c : CTZ m0 w0 K T nm Nk) (h : SGA m0 w0 K T nm Nk fof cvr lst g lo0 a0 cm0 q0 Q0 sc0 mS wS (t :: S) y a cm q Q sc m w v2 v3 v4 v5) (h2 : K t = 6 ∨ K t = 16) (hlv : lv ≤ rkK (K t)) (hh : ∀ M' m3 v rn a3 cm3 Q3 sc3, a ≤ a3 → SGA m0 w0 K T nm Nk fof cvr lst g lo0 a0 cm0 q0 Q0 sc0 mS wS S y a3 cm3 q Q3 sc3 m3 v v2 v3 v4 v5 → (Q0 32 ≤ rn ∧ rn < Q3 32) → A v 28 rn = -1 → (A v 23 rn ≠ 12 ∧ A v 23 rn ≠ 13) → PP RR (fc m3 ()) (bnd (gg_M_reduce N M' v (I (Q0 83 : Nat)) (I (lv : Nat)) (I (rn : Nat)) 1) F)) : PP RR (bnd (jm_Cm_forget N m (if K t = 6 then v3 else v5)) (fun u16 r16 => bnd (hm_Co_arrive N u16 (if K t = 6 then v2 else v4)) fc)) (bnd (gg_M_reduce N M w (I (Q0 83 : Nat)) (I (lv : Nat)) r0 1) F) := by
  have hnow := SGA_now h
  have hlen := SGA_len h
  have t4 := c.2.1.1.1
  obtain ⟨hs, a1, cm1, q1, Q1, sc1, m1, w1, w2', v2', v3', v4', v5', hS, hx⟩ := h
  have hnow1 := SGA_now hS
  have hlen1 := SGA_len hS
  have rk2 : 1 ≤ rkK (K t) ∧ rkK (K t) ≤ 2 := by rcases h2 with z | z <;> (rw [z]; decide)
  rcases hx with ⟨h3, -⟩ | ⟨-, ⟨x1, x2, x3, x4, x5⟩, ⟨g1, g2, g3, g4, g5⟩, hb1, ht, hv⟩
  · omega
  have hR := hnow.2.1
  have e83 : Q 83 = Q1 83 + 1 := by have := ht.2.2.2.2.2.2.1.2.2.2.2; rw [qst_at] at this; exact this
  have w83 : w.1 83 = I ((Q1 83 + 1 : Nat) : Int) := by have := (hR.2 83 (by decide)).1; rw [e83] at this; exact this
  have kp := ht.2.2.2.2.2.2.1.1.2.1
  have q83 : qst (qst Q1 32 (Q1 32 + 1)) 83 (Q1 83 + 1) 83 = Q1 83 + 1 := qst_at
  have below : ∀ k, k = 79 ∨ k = 80 ∨ k = 81 ∨ k = 82 → w.2.2.1 k (Q1 83) = w2'.2.2.1 k (Q1 83) := fun k hk => kp k (Q1 83) (by rcases hk with rfl | rfl | rfl | rfl <;> decide) (by
    have : grp k = 83 := by rcases hk with rfl | rfl | rfl | rfl <;> rfl
    rw [this, q83]; omega)
  have e79 : w.2.2.1 79 (Q1 83) = I (rkK (K t) : Nat) := (below 79 (by omega)).trans x3
  have e81 : w.2.2.1 81 (Q1 83) = I (Q1 32 : Nat) := (below 81 (by omega)).trans g1
  have e82 : w.2.2.1 82 (Q1 83) = I ((hdS sc1).1.length : Nat) := (below 82 (by omega)).trans g2
  obtain ⟨e1, t1, rfl⟩ := PRS_ne hnow1.2.1.1
  have hfa : (if K t = 6 then v3 else v5) = I (tot (e1 :: t1) : Nat) ∧ (if K t = 6 then v2 else v4) = I ((a1 + 1 : Nat) : Int) := by
    rcases hv with ⟨z, z2, z3, -⟩ | ⟨z, z2, z3, -⟩
    · rw [if_pos z, if_pos z]; exact ⟨z3, z2⟩
    · rw [if_neg (by omega), if_neg (by omega)]; exact ⟨z3, z2⟩
  rw [hfa.1, hfa.2]
  have kt3 : K t ≠ 3 := by rcases h2 with z | z <;> omega
  have hν : Q1 32 ≤ 24000 := by omega
  refine red_h (ν := Q1 32) w83 x5 (by omega) rk2 e79 e81 hν e82 (by omega) hlv (fun M' => ?_)
  have ht2 := XTR_83 (lo := t + 1) (w := w2') ht (qst_no (by decide)) QRR_rf (Nat.le_refl _) (fun j j1 j2 => by omega)
  refine fg_pp c ht2 (fun m3 w3 b' Q3 sc3 ht3 hsc3 hQ3 hq3 hbb hrw => ?_)
  have hC3 := ht3.2.1
  have hR3 := ht3.2.2.1.1
  have l3 := ht3.1
  have s83 : Q3 83 = Q1 83 := by have := ht3.2.2.2.2.2.2.1.2.2.2.2; rw [qst_no (by decide)] at this; exact this
  have f83 : w3.1 83 = I (Q1 83 : Nat) := by have := (hR3.2 83 (by decide)).1; rw [s83] at this; exact this
  have q3ν : Q1 32 + 1 ≤ Q3 32 := by have := ht3.2.2.2.2.2.2.1.2.1 32 (by decide); rw [qst_at] at this; exact this
  have k3 := ht3.2.2.2.2.2.2.1.1.2.1
  have h81' : w3.2.2.1 81 (Q1 83) = I (Q1 32 : Nat) := by
    rw [hrw 81 (by omega)]
    exact e81
  -- the hook arrives
  have p1 : 1 ≤ a1 := hnow1.1.1.2.2.1.2.1
  have m3h : m3.2.2.1 23 (a1 + 1) = 0 := by
    rw [ht3.2.2.2.2.2.1.2.2.1 (a1 + 1) (by omega)]
    exact ptcs_at (l := [if K t = 6 then 13 else 14, 0]) (a := a1) (k := 1) rfl
  refine arr_1 hC3.1.2.2.1.1 ⟨by omega, by omega⟩ m3h ?_
  obtain ⟨n1, n2⟩ := XRS_q hR3
  rw [f83, i_nt2 (p := Q1 83) (by omega), h81', i_nt2 (p := Q1 32) (by omega), n1]
  refine r_ck (fun _ => r_ck (fun _ => r_lt ?_))
  have f83' : (upA w3 25 (upd (w3.2.2.1 25) (Q1 32) (I (Q3 32 : Nat)))).1 83 = I (Q1 83 : Nat) := f83
  have h81'' : (upA w3 25 (upd (w3.2.2.1 25) (Q1 32) (I (Q3 32 : Nat)))).2.2.1 81 (Q1 83) = I (Q1 32 : Nat) := by rw [upA_no (by decide)]; exact h81'
  rw [f83', i_nt2 (p := Q1 83) (by omega), h81'']
  refine r_ck (fun _ => r_lt ?_)
  -- all of it
  have hC4 : XCS m0 nm (upA m3 23 (upd (m3.2.2.1 23) (a1 + 1) (I (b' : Nat)))) b' cm sc3 g := Kco_23 hC3
  have hR4 : XRS w0 T (upA w3 25 (upd (w3.2.2.1 25) (Q1 32) (I (Q3 32 : Nat)))) y Q3 sc3 := ⟨PRS_x hR3.1 (fun _ _ => rfl) (fun k hk => by rw [upA_no (by omega)]) hR3.1.2.1.1, hR3.2⟩
  have r25 : A (upA w3 25 (upd (w3.2.2.1 25) (Q1 32) (I (Q3 32 : Nat)))) 25 (Q1 32) = ((Q3 32 : Nat) : Int) := by
    show ((upA w3 25 _).2.2.1 25 (Q1 32)).toInt = _
    rw [upA_at, upd_at]
    exact I_ti (by omega) (by omega)
  have rno : ∀ k i, k ≠ 25 → A (upA w3 25 (upd (w3.2.2.1 25) (Q1 32) (I (Q3 32 : Nat)))) k i = A w3 k i := fun k i hk => by
    show ((upA w3 25 _).2.2.1 k i).toInt = _
    rw [upA_no hk]; rfl
  have rno2 : ∀ k i, i ≠ Q1 32 → (upA w3 25 (upd (w3.2.2.1 25) (Q1 32) (I (Q3 32 : Nat)))).2.2.1 k i = w3.2.2.1 k i := fun k i hi => by
    by_cases z : k = 25
    · subst z; rw [upA_at, upd_no hi]
    · rw [upA_no z]
  have k3' : ∀ k, 23 ≤ k → k ≤ 31 → A w3 k (Q1 32) = A w2' k (Q1 32) := fun k z1 z2 => congrArg Int32.toInt (k3 k (Q1 32) (by unfold grp; rw [if_pos ⟨z1, z2⟩]; decide) (by unfold grp; rw [if_pos ⟨z1, z2⟩, qst_at]; omega))
  have hW : QRR Q1 w1 (upA w3 25 (upd (w3.2.2.1 25) (Q1 32) (I (Q3 32 : Nat)))) := QRR_A (QRR_tr x2 ht3.2.2.2.2.2.2.1.1 (QLE_st QLE_rf (by omega))) (by decide) (Nat.le_refl _)
  have mo : ∀ j, j ≠ a1 + 1 → (upA m3 23 (upd (m3.2.2.1 23) (a1 + 1) (I (b' : Nat)))).2.2.1 23 j = m3.2.2.1 23 j := fun j hj => by rw [upA_at, upd_no hj]
  have mo2 : ∀ k, k ≠ 23 → (upA m3 23 (upd (m3.2.2.1 23) (a1 + 1) (I (b' : Nat)))).2.2.1 k = m3.2.2.1 k := fun k hk => upA_no hk
  have m4x : (upA m3 23 (upd (m3.2.2.1 23) (a1 + 1) (I (b' : Nat)))).2.2.1 23 (a1 + 1) = I (b' : Nat) := by rw [upA_at, upd_at]
  have m4i : (upA m3 23 (upd (m3.2.2.1 23) (a1 + 1) (I (b' : Nat)))).1 = m3.1 := rfl
  obtain ⟨b1, b2, b3, b4, ⟨W, b5, b6⟩, b7, b8, b9, b10, b11⟩ := ht3
  have onm : Onm nm sc3 = Onm nm (e1 :: t1) := by unfold Onm; rw [hsc3]; rfl
  have q132 : Q1 32 < Q3 32 := by omega
  have rnj : (upA w3 25 (upd (w3.2.2.1 25) (Q1 32) (I (Q3 32 : Nat)))).2.2.2 = w3.2.2.2 := rfl
  generalize upA w3 25 (upd (w3.2.2.1 25) (Q1 32) (I (Q3 32 : Nat))) = X at hR4 r25 rno rno2 hW rnj
  generalize upA m3 23 (upd (m3.2.2.1 23) (a1 + 1) (I (b' : Nat))) = Z at hC4 mo mo2 m4x m4i
  have a23 : A X 23 (Q1 32) = (if K t = 6 then 9 else 10) := (rno 23 _ (by decide)).trans ((k3' 23 (by decide) (by decide)).trans g3)
  have a28 : A X 28 (Q1 32) = -1 := (rno 28 _ (by decide)).trans ((k3' 28 (by decide) (by decide)).trans g4)
  have gap : ∀ j, t ≤ j → j < t + 1 → K j ≠ 3 := fun j j1 j2 => by rw [show j = t by omega]; exact kt3
  have ht4 : XTR m0 w0 K T nm Nk fof cvr lst g [] t y a1 b' cm1 cm q1 q Q1 Q3 (e1 :: t1) sc3 m1 w1 Z X := by
    refine ⟨⟨by omega, by omega, b1.2.2⟩, hC4, ⟨hR4, b3.2⟩, by omega, ⟨W, HDx_tr (by omega) b1.1 (HDx_gap gap) b5, ?_⟩, ⟨fun k k1 k2 => ?_, fun k k1 k2 k3 => ?_, fun j hj => ?_, fun k j k1 k2 k3 => ?_, fun j hj => ?_, fun j hj => ?_⟩, ⟨hW, ?_, ?_⟩, fun _ => hsc3, fun n hn => (by cases hn), fun C P R J H fi hx => ?_⟩
    · rw [mo2 42 (by decide), b6, ptcs_r (by decide), ← wup_tr (p := t) (q := t + 1) (p2 := y) (by omega) b1.1, wup_0 (p := t) gap]
    · rw [m4i, b7.1 k k1 k2]; exact ptcs_i k1
    · rw [mo2 k k1, b7.2.1 k k1 k2 k3]; exact ptcs_r k1
    · rw [mo j (by omega), b7.2.2.1 j (by omega)]; exact ptcs_o (Or.inl hj)
    · rw [mo2 k (by omega), b7.2.2.2.1 k j k1 k2 k3, ptcs_r (by omega)]
    · rw [mo2 40 (by decide), b7.2.2.2.2.1 j hj, ptcs_r (by decide)]
    · rw [mo2 41 (by decide), b7.2.2.2.2.2 j hj, ptcs_r (by decide)]
    · refine fun k hk => ?_
      have := b8.2.1 k hk
      by_cases z : k = 32
      · rw [z]; omega
      · rw [qst_no z] at this; exact this
    · have := b8.2.2
      rw [qst_no (by decide), qst_no (by decide), qst_no (by decide)] at this
      exact this
    · -- the code
      have hx2 : HNX nm (e1 :: t1) cm1 H := HNX_mo b5.1 b1.2.2.1 hx
      have fi2 : FNd w0 fof cvr C P R J m3 w3 (a1 + 2) b' q1 q (qst Q1 32 (Q1 32 + 1)) Q3 lst [] := by
        refine FIN_sub fi ⟨by omega, Nat.le_refl _⟩ ⟨Nat.le_refl _, Nat.le_refl _⟩ (QLE_st QLE_rf (by omega)) QLE_rf (fun j z1 z2 => mo j (by omega)) (fun k u z1 z2 _ _ => by rw [mo2 k (by omega)]) ⟨fun k n z1 z2 z3 z4 z5 => ?_, fun n _ _ => ?_⟩ (fun n z1 z2 => ?_)
        · by_cases z : n = Q1 32
          · subst z
            by_cases zk : grp k = 32
            · rw [zk, qst_at] at z4; omega
            · have nk : k ≠ 25 := fun zz => by rw [zz] at zk; exact zk rfl
              have := rno k (Q1 32) nk
              exact Int32.toInt_inj.mp this
          · exact rno2 k n z
        · rw [rnj]
        · rw [rno 30 n (by decide)]
      obtain ⟨d1, d2⟩ := b11 C P R J H fi2 hx
      refine ⟨d1, fun yy hy hr => ?_⟩
      obtain ⟨dI, hI⟩ := d2 yy hy hr
      obtain ⟨dE, hE⟩ := hr
      have gc := fi.1
      have ro : ∀ k, 23 ≤ k ∧ k ≤ 31 → k ≠ 27 ∧ k ≠ 29 ∧ k ≠ 30 → R k (Q1 32) = A X k (Q1 32) := fun k k1 k2 => FIN_R fi k1 k2 ⟨Nat.le_refl _, q132⟩
      have c0 : C a1 = (if K t = 6 then 13 else 14) := by
        rw [gc a1 (Nat.le_refl _) (by omega)]
        show (Z.2.2.1 23 a1).toInt = _
        rw [mo a1 (by omega), b7.2.2.1 a1 (by omega)]
        have := ptcs_at (l := [if K t = 6 then 13 else 14, 0]) (m := m1) (a := a1) (k := 0) rfl
        rw [Nat.add_zero] at this
        rw [this]
        split <;> rfl
      have c1 : C (a1 + 1) = ((b' : Nat) : Int) := by
        rw [gc (a1 + 1) (by omega) (by omega)]
        show (Z.2.2.1 23 (a1 + 1)).toInt = _
        rw [m4x]
        have := hC4.1.2.2.1.2.2
        exact I_ti (by omega) (by omega)
      obtain ⟨x1', x2'⟩ := XB c.2.2.1 hnow1.1 hnow1.2.1 hx2 g5
      rw [onm] at hE
      refine cr_1 x1' x2' ⟨max dI dE, Or.inr (Or.inr (Or.inr (Or.inr (Or.inr (Or.inr (Or.inr (Or.inr (Or.inr (Or.inl ⟨?_, ⟨b', Q3 32, c1, (ro 25 (by decide) (by decide)).trans r25, CR_mo (Nat.le_max_right _ _) hE⟩, ?_⟩)))))))))⟩
      · rcases h2 with z | z
        · exact Or.inl ⟨(ro 23 (by decide) (by decide)).trans (a23.trans (if_pos z)), c0.trans (if_pos z)⟩
        · exact Or.inr ⟨(ro 23 (by decide) (by decide)).trans (a23.trans (if_neg (by omega))), c0.trans (if_neg (by omega))⟩
      · have := CR_mo (Nat.le_max_left dI dE) hI
        rw [qst_at] at this
        exact this
  have nr : rkK (K t) < 3 := by omega
  have fin : SGA m0 w0 K T nm Nk fof cvr lst g lo0 a0 cm0 q0 Q0 sc0 mS wS S y b' cm q Q3 sc3 Z X v2 v3 v4 v5 := by
    refine SGA_v ?_ ?_ (SGA_ext hS ht4)
    · rcases hv with ⟨z, -, -, -, -⟩ | ⟨z, -, -, z4, z5⟩
      · refine Or.inl (fun t' ht' z' => ?_)
        have := hs t' ht'
        rw [z, z'] at this
        revert this; decide
      · exact Or.inr ⟨z4.symm, z5.symm⟩
    · rcases hv with ⟨z, -, -, z4, z5⟩ | ⟨z, -, -, -, -⟩
      · exact Or.inr ⟨z4.symm, z5.symm⟩
      · refine Or.inl (fun t' ht' z' => ?_)
        have := hs t' ht'
        rw [z, z'] at this
        revert this; decide
  refine hh M' Z X (Q1 32) b' cm Q3 sc3 hbb fin ⟨hlen1.2.2.2.2.1, q132⟩ a28 ?_
  rw [a23]
  rcases h2 with z | z
  · rw [if_pos z]; decide
  · rw [if_neg (by omega)]; decide
end
