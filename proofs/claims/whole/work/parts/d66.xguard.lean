/-! GUARDS, both: one E behind another -/
set_option maxRecDepth 100000
section
variable {α β : Type} {m0 w0 m w m2 w2 m3 w3 v u w1 mS wS : MS} {K nm Nk W W2 : Nat → Nat} {N T D d o a a0 b b0 c cm cm0 cm2 cm3 q q0 r s lo lo0 mid hi i j f f2 n k kk p p2 σ tk x xa xb M m1 lv y : Nat} {Q Q0 Q2 Q3 Q4 : Nat → Nat} {sc sc0 sc2 sc3 t t2 : SCT} {e e2 : List Nat × List Nat × Nat} {g lst l2 : Bool} {L L1 L2 S : List Nat} {idc fof cvr : Int → Int → Int} {z : Unit} {rt v1 v2 v3 v4 v5 t4 t5 : Int32} {fc : MS → Int32 → Option (MS × α)} {RR : MS → α → MS → β → Prop} {F : MS → Int32 → Option (MS × β)}
/-- behind an E in a GUARD -/
theorem gm_x {X : MS → Unit → Option (MS × α)} {Y : MS → Option (MS × β)} (c : CTZ m0 w0 K T nm Nk) (ht : XTR m0 w0 K T nm Nk fof cvr lst true [] lo mid a b cm cm2 q r Q Q2 sc sc2 m w m2 w2) (hh : ∀ m3 v, XTR m0 w0 K T nm Nk fof cvr lst true [] lo mid a (b + 1) cm cm2 q r Q (qst Q2 32 (Q2 32 + 1)) sc sc2 m w m3 v → PP RR (X m3 ()) (Y v)) : PP RR (bnd (jm_Co_put N m2 22) X) (bnd (fm_M_node N w2 22 (w2.1 69)) (fun u3 _ => Y u3)) := by
  have hC := ht.2.1
  have hR := ht.2.2.1.1
  have t4 := c.2.1.1.1
  have hl : mid ≤ T := hR.1.2.1.2
  refine l_put hC.1.2.2.1.1 hC.1.2.2.1.2.2 (fun ha => ?_)
  have h1 := XCS_put (x := 22) hC ha
  obtain ⟨n1, n2⟩ := XRS_q hR
  rw [hR.1.2.1.1]
  refine r_nod n1 n2 rfl (nsh (by omega)) (fun h16 => ?_)
  have hN : NOD w2 (nwD w2 (Q2 32) 22 (I (mid : Nat))) (Q2 32) := NOD_0 n1
  obtain ⟨d1, -⟩ := nwD_at (w := w2) (i := Q2 32) (k := 22) (t := I (mid : Nat))
  have d9 : (nwD w2 (Q2 32) 22 (I (mid : Nat))).1 69 = I (mid : Nat) := by rw [nwD_i (by decide)]; exact hR.1.2.1.1
  generalize nwD w2 (Q2 32) 22 (I (mid : Nat)) = v at hN d1 d9
  have a23 : A v 23 (Q2 32) = 22 := congrArg Int32.toInt d1
  have em : ptc m2 b 22 = ptcs m2 b [22] := rfl
  refine hh _ v (XTR_tr ht (XT_nod (L := []) (b := b + 1) hC hR ht.2.2.1.2 ⟨Nat.le_refl _, hl⟩ (fun j j1 j2 => by omega) (by omega) h1 (by rw [em]; exact XFC_ps XFC_rf (Nat.le_refl _)) (by rw [em]; exact ptcs_r (by decide)) hN rfl h16 d9 (fun n hn => by cases hn) (fun C P R J H fi hx => ⟨fun u u1 u2 => by omega, fun y hy hr => ?_⟩)))
  have gc := fi.1
  rw [em] at gc
  have ro : ∀ k, 23 ≤ k ∧ k ≤ 31 → k ≠ 27 ∧ k ≠ 29 ∧ k ≠ 30 → R k (Q2 32) = A v k (Q2 32) := fun k k1 k2 => FIN_R fi k1 k2 ⟨Nat.le_refl _, by rw [qst_at]; omega⟩
  have R23 := (ro 23 (by decide) (by decide)).trans a23
  have c0 := C_0 gc (show b < b + 1 by omega)
  have yn : y ≠ none := fun z => by have := hy.mp z; cases this
  obtain ⟨b1, b2⟩ := XB c.2.2.1 hC hR hx h16
  obtain ⟨d, hd⟩ := hr
  rw [qst_at] at hd
  exact cr_1 b1 b2 ⟨d, Or.inr (Or.inr (Or.inr (Or.inr (Or.inr (Or.inr (Or.inr (Or.inr (Or.inr (Or.inr (Or.inr (Or.inr (Or.inr (Or.inr (Or.inr (Or.inr (Or.inr (Or.inr (Or.inr (Or.inr (Or.inr (Or.inr (Or.inr (Or.inl ⟨R23, yn, c0, hd⟩)))))))))))))))))))))))⟩
/-- the E of GUARDS -/
theorem gd_lp (c : CTZ m0 w0 K T nm Nk) (IE : HXE N m0 w0 K T nm Nk fof cvr f) (hxb : xb ≤ 8015) (hr4 : r ≤ 400) (hcl : NEC (K hi) ∧ K hi ≠ 26 ∧ hi ≤ T) (htot : tot sc0 + (hi - lo0) ≤ 4000 ∧ sc0.length ≤ o + 1)
    (hh : ∀ M kf m2 w2 b cm2 Q2 sc2, a0 < b → XTR m0 w0 K T nm Nk fof cvr lst true [] lo0 hi a0 b cm0 cm2 q0 r Q0 Q2 sc0 sc2 mS wS m2 w2 → PP RR (bnd ((jg_Cm_tries N (jrc_Cm_fun N D) kf).2 m2 v4 v5 (I ((0 : Nat) : Int))) fc) (bnd (kg_M_guardCode N (krc_M_behind N d) M w2 v1 v2 v3 0) F)) : ∀ (k n lo xa q M kf : Nat) (m w : MS) (a cm : Nat) (Q : Nat → Nat) (sc : SCT), RWcK m0 1 26 (XPcK m0 f o 3) k n lo hi xa xb q r → XTR m0 w0 K T nm Nk fof cvr lst true [] lo0 lo a0 a cm0 cm q0 q Q0 Q sc0 sc mS wS m w → PP RR (bnd ((jg_Cm_tries N (jrc_Cm_fun N D) kf).2 m v4 v5 (I (n : Nat))) fc) (bnd (kg_M_guardCode N (krc_M_behind N d) M w v1 v2 v3 1) F)
  | 0, n, lo, xa, q, M, kf, m, w, a, cm, Q, sc, h, ht => h.elim
  | k + 1, n, lo, xa, q, M, kf, m, w, a, cm, Q, sc, h, ht => by
    have t4 := c.2.1.1.1
    obtain ⟨mid, c1, s, e, h⟩ := h
    have hd := xp_hd e
    have hb : BdE (XPcK m0 f o 3) := XP_bdK f o 3
    have hC := ht.2.1
    have hR := ht.2.2.1.1
    have l1 := ht.1
    have tt := ht.2.2.2.1
    have ttl := XTR_len ht
    cases kf with
    | zero => exact pp_nl
    | succ kf =>
    cases M with
    | zero => exact pp_nr
    | succ M =>
    show PP RR (bnd (jb_Cm_tries_181 N (jrc_Cm_fun N D) (jg_Cm_tries N (jrc_Cm_fun N D) kf) m v4 v5 (I (n : Nat))) fc) (bnd (kb_M_guardCode_39 N (krc_M_behind N d) (kg_M_guardCode N (krc_M_behind N d) M) w v1 v2 v3 1) F)
    unfold jb_Cm_tries_181 kb_M_guardCode_39
    have hms : mid ≤ hi ∧ c1 ≤ xb ∧ s ≤ r ∧ n ≤ 8015 ∧ (NEC (K mid) ∧ mid ≤ T) := by
      rcases h with ⟨-, -, rfl, rfl, rfl⟩ | ⟨⟨-, k26⟩, n2, -, hw⟩
      · exact ⟨Nat.le_refl _, Nat.le_refl _, Nat.le_refl _, by omega, hcl.1, hcl.2.2⟩
      · have := (RW_hdK hb hw).1
        unfold HDc at this
        have km : K mid = 26 := kA c (by omega) (k26 rfl)
        exact ⟨by omega, by omega, by omega, by omega, by rw [km]; exact ⟨rfl, by decide, by decide, by decide⟩, by omega⟩
    rw [decide_eq_false (fun z => by
      have := (I_eq (x := ((n : Nat) : Int)) (y := 0) (by omega) (by omega) (by decide) (by decide)).mp z
      omega), br_f, show decide ((1 : Int32) = 0) = false from rfl, br_f, bnd_as2, bnd_as2]
    refine pp_bb (pp_mo (IE D d o n lo mid xa c1 q s m w a cm Q sc true false e (by omega) (by omega) hms.2.2.2.2 hC hR ht.2.2.1.2 (by omega)) (fun m2 z w2 rt hz => ?_))
    have hab : a0 < (hz.choose : Nat) := by
      have := hz.choose_spec
      obtain ⟨_, _, _, _, _, _, -, -, -, z4, -⟩ := this
      omega
    obtain ⟨b2, cm2, Q2, sc2, rn, f2, L, z1, z2, z3, z4, z5, z6⟩ := hz
    have ht2 := XTR_tr ht (XTR_nl (lst := lst) z3)
    rw [bnd_as2, bnd_as2]
    refine gm_x (Y := fun u5 => bnd (bnd (fm_M_takeSign N u5 6) (fun u6 r6 => kg_M_guardCode N (krc_M_behind N d) M u6 v1 v2 v3 r6)) F) c ht2 (fun m3 v ht3 => ?_)
    have hX3 := ht3.2.2.1.1
    have fr3 := XCS_fr ht3.2.1
    rw [bnd_ck, i_nt2 (show n ≤ 100000 by omega)]
    refine l_ck (fun _ => ?_)
    rw [bnd_as2, tkS_e (k := 26) (s := 6) (XRS_wp c hX3) hX3.1.2.2.1 (by decide) rfl]
    rcases h with ⟨rfl, h21, rfl, rfl, rfl⟩ | ⟨⟨hk1, hk26⟩, n2, h21, hw⟩
    · rw [if_neg hcl.2.1, bnd_s, tre fr3 (by decide) h21]
      exact hh M kf m3 v _ cm2 _ sc2 (by omega) ht3
    · have hw1 := (RW_hdK hb hw).1
      unfold HDc at hw1
      have km : K mid = 26 := kA c (by omega) (hk26 rfl)
      rw [if_pos km, bnd_s, tre fr3 (by decide) h21]
      exact gd_lp c IE hxb hr4 hcl htot hh k n2 (mid + 1) c1 s M kf m3 (adv v mid) _ cm2 _ sc2 hw (XTR_ad ht3 (by omega) (by omega))
end
