/-! bodies, both -/
set_option maxRecDepth 100000
section
variable {α β : Type} {m0 w0 m w m2 w2 m3 w3 v u w1 mS wS : MS} {K nm Nk W W2 : Nat → Nat} {N T D d o a a0 b b0 c cm cm0 cm2 cm3 q q0 r s lo lo0 mid hi i j f f2 n k kk p p2 σ tk x xa xb M m1 lv y : Nat} {Q Q0 Q2 Q3 Q4 : Nat → Nat} {sc sc0 sc2 sc3 t t2 : SCT} {e e2 : List Nat × List Nat × Nat} {g lst l2 : Bool} {L L1 L2 S : List Nat} {idc fof cvr : Int → Int → Int} {z : Unit} {rt v1 v2 v3 v4 v5 : Int32} {fc : MS → Unit → Option (MS × α)} {RR : MS → α → MS → β → Prop} {F : MS → Unit → Option (MS × β)}
/-- a stretch, an E -/
theorem XZ_bh (h : XTR m0 w0 K T nm Nk fof cvr lst g [] lo mid a b cm cm2 q r Q Q2 sc sc2 m w m2 w2) (hz : XZ m0 w0 K T nm Nk fof cvr lst g mid hi b cm2 r s Q2 sc2 m2 w2 m3 z w3 rt) : XZ m0 w0 K T nm Nk fof cvr lst g lo hi a cm q s Q sc m w m3 z w3 rt := by
  obtain ⟨c, cm3, Q3, sc3, rn, f, L, z1, z2, z3, z4, z5, z6⟩ := hz
  have := h.1
  have q32 : Q 32 ≤ Q2 32 := h.2.2.2.2.2.2.1.2.1 32 (by decide)
  exact ⟨c, cm3, Q3, sc3, rn, f, L, z1, ⟨by omega, z2.2⟩, XTR_tr h z3, ⟨by omega, by omega⟩, RT_w q32 f false _ _ _ _ (Nat.le_refl _) z5, z6⟩
/-- , between two E -/
theorem com_x {G : MS → Option (MS × Int32)} {F : MS → Unit → Option (MS × Unit)} {RR : MS → Unit → MS → Int32 → Prop} (c : CTZ m0 w0 K T nm Nk) (ht : XTR m0 w0 K T nm Nk fof cvr lst g [] lo mid a b cm cm2 q r Q Q2 sc sc2 m w m2 w2) (km : K mid = 26) (hh : ∀ m3 v, XTR m0 w0 K T nm Nk fof cvr lst g [] lo (mid + 1) a (b + 1) cm cm2 q r Q (qst Q2 32 (Q2 32 + 1)) sc sc2 m w m3 v → FRC m0 m3 → PP RR (F m3 ()) (G v)) : PP RR (bnd (jm_Co_put N m2 15) F) (bnd (fm_M_node N (adv w2 mid) 17 (I ((mid + 1 : Nat) : Int))) (fun u3 _ => G u3)) := by
  have hC := ht.2.1
  have hR := ht.2.2.1.1
  have t4 := c.2.1.1.1
  have hl : mid < T := c.2.1.1.lt hR.1.2.1.2 (by omega) (by omega)
  refine l_put hC.1.2.2.1.1 hC.1.2.2.1.2.2 (fun ha => ?_)
  have h1 := XCS_put (x := 15) hC ha
  have hA := XRS_ad hR hl
  obtain ⟨n1, n2⟩ := XRS_q hA
  refine r_nod n1 n2 rfl (nsh (by omega)) (fun h16 => ?_)
  have hN : NOD (adv w2 mid) (nwD (adv w2 mid) (Q2 32) 17 (I ((mid + 1 : Nat) : Int))) (Q2 32) := NOD_0 n1
  obtain ⟨d1, -⟩ := nwD_at (w := adv w2 mid) (i := Q2 32) (k := 17) (t := I ((mid + 1 : Nat) : Int))
  have d9 : (nwD (adv w2 mid) (Q2 32) 17 (I ((mid + 1 : Nat) : Int))).1 69 = I ((mid + 1 : Nat) : Int) := by rw [nwD_i (by decide)]; exact upI_at
  generalize nwD (adv w2 mid) (Q2 32) 17 (I ((mid + 1 : Nat) : Int)) = v at hN d1 d9
  have a23 : A v 23 (Q2 32) = 17 := congrArg Int32.toInt d1
  have em : ptc m2 b 15 = ptcs m2 b [15] := rfl
  refine hh _ v (XTR_tr ht (XT_nod (L := []) (b := b + 1) hC hR ht.2.2.1.2 ⟨Nat.le_succ _, hl⟩ (fun j j1 j2 => by rw [show j = mid by omega]; omega) (by omega) h1 (by rw [em]; exact XFC_ps XFC_rf (Nat.le_refl _)) (by rw [em]; exact ptcs_r (by decide)) (adv_n hN) rfl h16 d9 (fun n hn => by cases hn) (fun C P R J H fi hx => ⟨fun u u1 u2 => by omega, fun y hy hr => ?_⟩))) (XCS_fr h1)
  have gc := fi.1
  rw [em] at gc
  have ro : ∀ k, 23 ≤ k ∧ k ≤ 31 → k ≠ 27 ∧ k ≠ 29 ∧ k ≠ 30 → R k (Q2 32) = A v k (Q2 32) := fun k k1 k2 => FIN_R fi k1 k2 ⟨Nat.le_refl _, by rw [qst_at]; omega⟩
  have R23 := (ro 23 (by decide) (by decide)).trans a23
  have c0 := C_0 gc (show b < b + 1 by omega)
  obtain ⟨b1, b2⟩ := XB c.2.2.1 hC hR hx h16
  obtain ⟨d, hd⟩ := hr
  rw [qst_at] at hd
  exact cr_1 b1 b2 ⟨d, Or.inr (Or.inr (Or.inr (Or.inr (Or.inr (Or.inr (Or.inr (Or.inr (Or.inr (Or.inr (Or.inr (Or.inr (Or.inr (Or.inr (Or.inr (Or.inr (Or.inr (Or.inl ⟨R23, c0, hd⟩)))))))))))))))))⟩
/-- the E of a body -/
theorem bd_lp (c : CTZ m0 w0 K T nm Nk) (IE : HXE N m0 w0 K T nm Nk fof cvr f) (hxb : xb ≤ 8015) (hr4 : r ≤ 400) (hcl : NEC (K hi) ∧ K hi ≠ 26 ∧ hi ≤ T) (htot : tot sc0 + (hi - lo0) ≤ 4000 ∧ sc0.length ≤ o + 1) : ∀ (k n lo xa q M kf : Nat) (m w : MS) (a cm : Nat) (Q : Nat → Nat) (sc : SCT), RWcK m0 1 26 (XPcK m0 f o 3) k n lo hi xa xb q r → XTR m0 w0 K T nm Nk fof cvr lst g [] lo0 lo a0 a cm0 cm q0 q Q0 Q sc0 sc mS wS m w → PP (XZ m0 w0 K T nm Nk fof cvr lst g lo0 hi a0 cm0 q0 r Q0 sc0 mS wS) (jg_Cm_body N (jrc_Cm_fun N D) kf m (lsI lst) (I (n : Nat))) (bnd ((krc_M_behind N d).2.2.2.2.2.2.2.2.2.2.2.2.2.1 w) (fun u4 r4 => kg_M_body N (krc_M_behind N d) M u4 r4))
  | 0, n, lo, xa, q, M, kf, m, w, a, cm, Q, sc, h, ht => h.elim
  | k + 1, n, lo, xa, q, M, kf, m, w, a, cm, Q, sc, h, ht => by
    have t4 := c.2.1.1.1
    obtain ⟨mid, c1, s, e, h⟩ := h
    have hd := xp_hd e
    have hb : BdE (XPcK m0 f o 3) := XP_bdK f o 3
    have hC := ht.2.1
    have hR := ht.2.2.1.1
    have l1 := ht.1
    have tt := ht.2.2.2.1
    have ttl := XTR_len ht
    cases kf with
    | zero => exact pp_nl
    | succ kf =>
    show PP _ (jb_Cm_body_2 N (jrc_Cm_fun N D) (jg_Cm_body N (jrc_Cm_fun N D) kf) m (lsI lst) (I (n : Nat))) _
    unfold jb_Cm_body_2
    have hms : mid ≤ hi ∧ c1 ≤ xb ∧ s ≤ r ∧ n ≤ 8015 := by
      rcases h with ⟨-, -, rfl, rfl, rfl⟩ | ⟨-, n2, -, hw⟩
      · exact ⟨Nat.le_refl _, Nat.le_refl _, Nat.le_refl _, by omega⟩
      · have := (RW_hdK hb hw).1
        unfold HDc at this
        exact ⟨by omega, by omega, by omega, by omega⟩
    rw [decide_eq_false (fun z => by
      have := (I_eq (x := ((n : Nat) : Int)) (y := 0) (by omega) (by omega) (by decide) (by decide)).mp z
      omega), br_f, i_nt2 (show n ≤ 100000 by omega)]
    refine l_ck (fun _ => ?_)
    rcases h with ⟨rfl, h21, rfl, rfl, rfl⟩ | ⟨⟨hk1, hk26⟩, n2, h21, hw⟩
    · -- the last
      rw [tre (XCS_fr hC) (by decide) h21, show decide (I 0 = (0 : Int32)) = true from rfl, br_t]
      have go : PP (XZ m0 w0 K T nm Nk fof cvr lst g lo0 mid a0 cm0 q0 s Q0 sc0 mS wS) (bnd ((jrc_Cm_fun N D).2.2.2.2.2.2.2.2.2.2.1 m (I (n : Nat)) (lsI lst)) (fun u6 _ => jb_Cm_body_58 N (jrc_Cm_fun N D) (jg_Cm_body N (jrc_Cm_fun N D) kf) u6 (lsI lst) (I (n : Nat)))) (bnd ((krc_M_behind N d).2.2.2.2.2.2.2.2.2.2.2.2.2.1 w) (fun u4 r4 => kg_M_body N (krc_M_behind N d) M u4 r4)) := by
        refine pp_bb (pp_mo (IE D d o n lo mid xa c1 q s m w a cm Q sc g lst e hxb hr4 ⟨hcl.1, hcl.2.2⟩ hC hR ht.2.2.1.2 (by omega)) (fun m2 z w2 rt hz => ?_))
        have hz2 := XZ_bh ht hz
        obtain ⟨Q2, sc2, hX2⟩ := XZ_pr hz
        have fr2 : FRC m0 m2 := by obtain ⟨_, _, _, _, _, _, _, -, -, z3, -⟩ := hz; exact XCS_fr z3.2.1
        unfold jb_Cm_body_58
        rw [i_nt2 (show n ≤ 100000 by omega), tre fr2 (by decide) h21]
        refine l_ck (fun _ => ?_)
        cases kf with
        | zero => exact pp_nl
        | succ kf =>
        show PP _ (jb_Cm_body_2 N (jrc_Cm_fun N D) (jg_Cm_body N (jrc_Cm_fun N D) kf) m2 (lsI lst) (I 0)) _
        unfold jb_Cm_body_2
        rw [show decide (I 0 = (0 : Int32)) = true from rfl, br_t]
        cases M with
        | zero => exact pp_nr
        | succ M =>
        show PP _ _ (kb_M_body_40 N (krc_M_behind N d) (kg_M_body N (krc_M_behind N d) M) w2 rt)
        unfold kb_M_body_40
        rw [tkS_e (k := 26) (s := 6) (XRS_wp c hX2) hX2.1.2.2.1 (by decide) rfl, if_neg hcl.2.1, bnd_s, show decide ((0 : Int32) = 0) = true from rfl, br_t]
        refine r_lt (pp_end ?_)
        exact XZ_out hz2 (fun Q2 sc2 h => XRS_I h (by decide) (by decide)) rfl (Nat.le_refl _) (fun j a b => by omega)
      unfold jb_Cm_body_23 jb_Cm_body_40 jb_Cm_body_41
      rw [show decide ((0 : Int32) = 0) = true from rfl, br_t]
      cases lst with
      | false => rw [show decide (lsI false = 0) = true from rfl, br_t]; exact go
      | true => rw [show decide (lsI true = 0) = false from rfl, br_f]; exact go
    · -- more
      have hw1 := (RW_hdK hb hw).1
      unfold HDc at hw1
      have km : K mid = 26 := kA c (by omega) (hk26 rfl)
      rw [tre (XCS_fr hC) (by decide) h21, decide_eq_false (fun z => by
        have := (I_eq (x := ((n2 : Nat) : Int)) (y := 0) (by omega) (by omega) (by decide) (by decide)).mp z
        omega), br_f]
      have go : PP (XZ m0 w0 K T nm Nk fof cvr lst g lo0 hi a0 cm0 q0 r Q0 sc0 mS wS) (bnd ((jrc_Cm_fun N D).2.2.2.2.2.2.2.2.2.2.1 m (I (n : Nat)) (lsI false)) (fun u6 _ => bnd (jm_Co_put N u6 15) (fun u8 _ => jb_Cm_body_58 N (jrc_Cm_fun N D) (jg_Cm_body N (jrc_Cm_fun N D) kf) u8 (lsI lst) (I (n : Nat))))) (bnd ((krc_M_behind N d).2.2.2.2.2.2.2.2.2.2.2.2.2.1 w) (fun u4 r4 => kg_M_body N (krc_M_behind N d) M u4 r4)) := by
        refine pp_bb (pp_mo (IE D d o n lo mid xa c1 q s m w a cm Q sc g false e (by omega) (by omega) ⟨by rw [km]; exact ⟨rfl, by decide, by decide, by decide⟩, by omega⟩ hC hR ht.2.2.1.2 (by omega)) (fun m2 z w2 rt hz => ?_))
        obtain ⟨b2, cm2, Q2, sc2, ht2⟩ := XZ_tr hz ht
        have hX2 := ht2.2.2.1.1
        cases M with
        | zero => exact pp_nr
        | succ M =>
        show PP _ _ (kb_M_body_40 N (krc_M_behind N d) (kg_M_body N (krc_M_behind N d) M) w2 rt)
        unfold kb_M_body_40
        have e69 : (adv w2 mid).1 69 = I ((mid + 1 : Nat) : Int) := upI_at
        rw [tkS_e (k := 26) (s := 6) (XRS_wp c hX2) hX2.1.2.2.1 (by decide) rfl, if_pos km, bnd_s, show decide ((1 : Int32) = 0) = false from rfl, br_f, e69]
        refine com_x (G := fun u3 => bnd ((krc_M_behind N d).2.2.2.2.2.2.2.2.2.2.2.2.2.1 u3) (fun u4 r4 => kg_M_body N (krc_M_behind N d) M u4 r4)) c ht2 km (fun m3 v ht3 fr3 => ?_)
        unfold jb_Cm_body_58
        rw [i_nt2 (show n ≤ 100000 by omega), tre fr3 (by decide) h21]
        refine l_ck (fun _ => ?_)
        exact bd_lp c IE hxb hr4 hcl htot k n2 (mid + 1) c1 s M kf m3 v _ cm2 _ sc2 hw ht3
      unfold jb_Cm_body_23 jb_Cm_body_40 jb_Cm_body_41
      rw [show decide ((1 : Int32) = 0) = false from rfl, br_f]
      cases lst with
      | false => rw [show decide (lsI false = 0) = true from rfl, br_t]; exact go
      | true => rw [show decide (lsI true = 0) = false from rfl, br_f]; exact go
/-- a body -/
theorem x_body (c : CTZ m0 w0 K T nm Nk) (IE : HXE N m0 w0 K T nm Nk fof cvr f) (hE : RWcK m0 1 26 (XPcK m0 f o 3) k n lo hi xa xb q r) (hxb : xb ≤ 8015) (hr4 : r ≤ 400) (hcl : NEC (K hi) ∧ K hi ≠ 26 ∧ hi ≤ T) (hC : XCS m0 nm m a cm sc g) (hR : XRS w0 T w lo Q sc) (hq : Q 56 = q) (htot : tot sc + (hi - lo) ≤ 4000 ∧ sc.length ≤ o + 1) : PP (XZ m0 w0 K T nm Nk fof cvr lst g lo hi a cm q r Q sc m w) ((jrc_Cm_fun N D).2.2.2.1 m (I (n : Nat)) (lsI lst)) ((krc_M_behind N d).2.2.2.2.1 w) := by
  cases D with
  | zero => exact pp_nl
  | succ D =>
  cases d with
  | zero => exact pp_nr
  | succ d =>
  show PP _ (jm_Cm_body N (jrc_Cm_fun N D) m (I (n : Nat)) (lsI lst)) (km_M_body N (krc_M_behind N d) w)
  unfold jm_Cm_body jb_Cm_body_0
  have hi1 := XTR_I (k := 70) (x := w.1 70 + 1) (XTR_rf (lst := lst) (K := K) (Nk := Nk) (fof := fof) (cvr := cvr) hC hR hq) (by decide) (by decide)
  have e31 : PP (XZ m0 w0 K T nm Nk fof cvr lst g lo hi a cm q r Q sc m w) (jg_Cm_body N (jrc_Cm_fun N D) N m (lsI lst) (I (n : Nat))) (kb_M_body_31 N (krc_M_behind N d) (kg_M_body N (krc_M_behind N d) N) w) := by
    unfold kb_M_body_31
    refine r_opens ?_
    exact bd_lp c IE hxb hr4 hcl htot k n lo xa q N N m _ a cm Q sc hE hi1
  unfold km_M_body kb_M_body_0
  rw [decide_eq_true hR.1.2.2.1, br_t, bU_m (XRS_wp c hR), bnd_s, isV_e (k := 9) (s := 4) (XRS_wp c hR) (by decide) rfl, bnd_s]
  cases bUK (K lo) with
  | false =>
    rw [show decide (b2c false = 0) = true from rfl, br_t]
    by_cases z9 : K lo = 9
    · rw [if_pos z9, show decide ((1 : Int32) = 0) = false from rfl, br_f]
      exact e31
    · rw [if_neg z9, show decide ((0 : Int32) = 0) = true from rfl, br_t]
      exact pp_nr
  | true =>
    rw [show decide (b2c true = 0) = false from rfl, br_f]
    exact e31
end
