section
set_option maxRecDepth 100000
section
variable {α β : Type} {m0 w0 m w m2 w2 m3 w3 v u w1 mS wS : MS} {K nm Nk W W2 : Nat → Nat} {N T D d o a a0 b b0 c cm cm0 cm2 cm3 q q0 r s lo lo0 mid hi i j f f2 n k kk p p2 pn ph σ tk x xa xb xc mm M m1 lv y : Nat} {Q Q0 Q2 Q3 Q4 : Nat → Nat} {sc sc0 sc2 sc3 t t2 : SCT} {e e2 : List Nat × List Nat × Nat} {g lst l2 : Bool} {L L1 L2 S : List Nat} {idc fof cvr : Int → Int → Int} {z : Unit} {rt v1 v2 v3 v4 v5 : Int32} {H : List Nat} {xi : Int}
theorem LKt_bd (h : LKt sc x xi) (ok : SOK sc) (hx : HPX nm sc H) : -100000 ≤ xi ∧ xi ≤ 100000 := by
  cases sc with
  | nil => exact h.elim
  | cons e t =>
    have l1 := ok.1.2.2.2.1
    have l2 := ok.1.2.2.2.2.1
    have l3 := ok.1.2.2.1
    have hp : (e.2.1.map nm).length ≤ H.length := hx.1.length_le
    rw [List.length_map] at hp
    have h40 := hx.2
    rcases h with ⟨k, rfl, hk⟩ | ⟨-, ⟨k, rfl, hk⟩ | hk⟩
    · have := (List.getElem?_eq_some_iff.mp hk).1
      omega
    · have := (List.getElem?_eq_some_iff.mp hk).1
      omega
    · omega
set_option maxHeartbeats 2000000 in
theorem x_fun (c : CTZ m0 w0 K T nm Nk) (cv : CTV m0 w0 K T) (IE : HXE N m0 w0 K T nm Nk fof cvr f) (hf : f ≤ 230) (hC : XCS m0 nm m a cm sc g) (hR : XRS w0 T w lo Q sc) (hq : Q 56 = q) (hn : n ≤ 8015) (h16 : A m0 16 n = 12) (h17 : A m0 17 n = ((lo : Nat) : Int)) (h18 : A m0 18 n = ((q : Nat) : Int)) (h19 : A m0 19 n = ((pn : Nat) : Int)) (h20 : A m0 20 n = ((hi - 1 : Nat) : Int)) (hkk : kk ≤ 6) (hP : PRTcK m0 (PAcK m0 f) (XPcK m0 f (o + 2) 3) (XPcK m0 f (o + 1) 3) kk pn (lo + 2) ph (ph + 1) (hi - 1) xa xb (q + 1) r) (hxb : xb ≤ 8015) (h6 : A m0 6 lo = 12) (h6a : A m0 6 (lo + 1) = 20) (h6p : A m0 6 ph = 21) (h6b : A m0 6 (hi - 1) = 11) (hr4 : r ≤ 400) (hiT : hi ≤ T) (htot : tot sc + (hi - lo) ≤ 4000 ∧ sc.length ≤ o + 1) : PP (XZ m0 w0 K T nm Nk fof cvr lst g lo hi a cm q r Q sc m w) (jm_Cm_expression N (jrc_Cm_fun N D) m (I (n : Nat)) (lsI lst)) (km_M_alone N (krc_M_behind N d) w (I (lo : Nat))) := by
  have t4 := c.2.1.1.1
  have fr := XCS_fr hC
  have hb : lo + 2 ≤ ph ∧ ph + 2 < hi - 1 ∧ q + 1 ≤ r ∧ pn ≤ 8015 := by
    obtain ⟨⟨y1, y2⟩, -, -, p0, xc, gx, mid, xd, s, kb, mb, xe, ⟨-, hpa⟩, ⟨-, hg⟩, ⟨-, hB⟩, -, -⟩ := hP
    have hB1 := (RW_hdK (XP_bdK f (o + 2) 3) hB).1
    unfold HDc at hB1
    have a1 : lo + 2 ≤ ph := by
      rcases hpa with ⟨-, -, z, -⟩ | ⟨-, z⟩
      · omega
      · have := (RW_hdK (PA_bdK f) z).1
        unfold HDc at this
        omega
    have a2 : ph + 1 ≤ mid ∧ q + 1 ≤ s := by
      rcases hg with ⟨-, z, -, z2⟩ | ⟨-, kg, z⟩
      · exact ⟨by omega, by omega⟩
      · have := (RW_hdK (XP_bdK f (o + 1) 3) z).1
        unfold HDc at this
        exact ⟨by omega, by omega⟩
    exact ⟨a1, by omega, by omega, by omega⟩
  obtain ⟨p0, h18p, hOR⟩ : ∃ p0 : Nat, A m0 18 pn = ((p0 : Nat) : Int) ∧ ∃ xc, ORcK m0 1 26 (PAcK m0 f) kk p0 (lo + 2) ph xa xc (q + 1) (q + 1) ∧ xc ≤ 8015 := by
    obtain ⟨⟨y1, y2⟩, -, -, p0, xc, gx, mid, xd, s, kb, mb, xe, ⟨z1, hpa⟩, ⟨-, hg⟩, ⟨-, hB⟩, hxe, -⟩ := hP
    have hB1 := (RW_hdK (XP_bdK f (o + 2) 3) hB).1
    unfold HDc at hB1
    refine ⟨p0, z1, xc, hpa, ?_⟩
    rcases hg with ⟨-, -, z, -⟩ | ⟨-, kg, z⟩
    · omega
    · have := (RW_hdK (XP_bdK f (o + 1) 3) z).1
      unfold HDc at this
      omega
  obtain ⟨xc, hOR, hxc⟩ := hOR
  have k12 : K lo = 12 := kA c (by omega : lo ≤ T) h6
  have k20 : K (lo + 1) = 20 := kA c (by omega : lo + 1 ≤ T) h6a
  have k21 : K ph = 21 := kA c (by omega : ph ≤ T) h6p
  have k11 : K (hi - 1) = 11 := kA c (by omega : hi - 1 ≤ T) h6b
  have sne : 1 ≤ sc.length := hC.1.2.1.2.1.1
  refine exd_12 hn (tre fr (by decide) h16) (l_id ?_)
  cases D with
  | zero => exact pp_nl
  | succ D =>
  show PP _ (jm_Cm_compound N (jrc_Cm_fun N D) m (I (n : Nat)) (lsI lst)) _
  refine cmd_12 hn (tre fr (by decide) h16) hC.2 (tre fr (by decide) h17) (by omega) (fun hg => l_id ?_)
  subst hg
  cases D with
  | zero => exact pp_nl
  | succ D =>
  show PP _ (jm_Cm_fun N (jrc_Cm_fun N D) m (I (n : Nat))) _
  refine al_wrd c hR (Or.inr (Or.inr (Or.inl k12))) (fun u xx hX hu => ?_)
  rw [decide_eq_true k12, br_tq]
  cases d with
  | zero => exact pp_nr
  | succ d =>
  refine pp_rb ?_
  show PP _ _ (km_M_fun N (krc_M_behind N d) u (I (lo : Nat)))
  unfold km_M_fun kb_M_fun_0
  have e69 : u.1 69 + 1 = I ((lo + 1 : Nat) : Int) := by rw [hX.1.2.1.1, i_suc]
  rw [e69, show upI u 69 (I ((lo + 1 : Nat) : Int)) = adv u lo from rfl]
  refine r_lt (r_ck (fun _ => ?_))
  have hX1 := XRS_ad hX (show lo < T by omega)
  have a69 : (adv u lo).1 69 = I ((lo + 1 : Nat) : Int) := upI_at
  have s1 : decide ((adv u lo).2.2.1 6 (lo + 1) = 1) = decide (K (lo + 1) = 2) := srt_dc (XRS_wp c hX1) srK_1
  rw [a69, i_nt2 (p := lo + 1) (by omega), s1, decide_eq_false (by omega), br_fq]
  have a56 := (hX1.2 56 (by decide))
  rw [hq] at a56
  rw [a56.1, i_suc]
  refine r_lt ?_
  have hX2 : XRS w0 T (upI (adv u lo) 56 (I ((q + 1 : Nat) : Int))) (lo + 1) (qst Q 56 (q + 1)) sc := by
    refine ⟨?_, QMK_st hX1.2 (by omega)⟩
    rw [qst_no (by decide)]
    exact PRS_x hX1.1 (fun k hk => upI_ne (by rintro rfl; revert hk; decide)) (fun _ _ => rfl) (by rw [upI_ne (by decide)]; exact a69)
  have ur2 : (upI (adv u lo) 56 (I ((q + 1 : Nat) : Int))).2.2.1 = w.2.2.1 := by show u.2.2.1 = _; rw [hu]
  have uj2 : (upI (adv u lo) 56 (I ((q + 1 : Nat) : Int))).2.2.2 = w.2.2.2 := by show u.2.2.2 = _; rw [hu]
  generalize upI (adv u lo) 56 (I ((q + 1 : Nat) : Int)) = u2 at hX2 ur2 uj2
  have e32q : (qst Q 56 (q + 1)) 32 = Q 32 := qst_no (by decide)
  obtain ⟨q1, q2⟩ := XRS_q hX2
  rw [e32q] at q1 q2
  refine r_nod q1 q2 rfl (nsh (by omega)) (fun h16r => ?_)
  have d0 : NOD u2 (nwD u2 (Q 32) 26 (I (lo : Nat))) (Q 32) := NOD_0 q1
  obtain ⟨d1, -⟩ := nwD_at (w := u2) (i := Q 32) (k := 26) (t := I (lo : Nat))
  have d9 : (nwD u2 (Q 32) 26 (I (lo : Nat))).1 69 = I ((lo + 1 : Nat) : Int) := by rw [nwD_i (by decide)]; exact hX2.1.2.1.1
  have d58 : ∀ k, k ≠ 32 → (nwD u2 (Q 32) 26 (I (lo : Nat))).1 k = u2.1 k := fun k hk => nwD_i hk
  generalize nwD u2 (Q 32) 26 (I (lo : Nat)) = U at d0 d1 d9 d58
  have hXU : XRS w0 T U (lo + 1) (qst (qst Q 56 (q + 1)) 32 (Q 32 + 1)) sc := XRS_n hX2 d0.1 (fun k hk => funext (fun j => d0.2.2.1 k j (by omega))) d9 (by omega) d0.2.1 (by omega)
  have h65 : U.1 65 = I ((sc.length - 1 : Nat) : Int) := hXU.1.2.2.2.1.1
  rw [h65, i_suc, show sc.length - 1 + 1 = sc.length by omega]
  refine r_lt ?_
  rw [upI_at]
  refine r_ck (fun z60 => ?_)
  have l26 : sc.length ≤ 26 := by
    have l27 := hXU.1.2.2.2.1.2.1.2
    have := (I_inb (n := ln 60) (x := ((sc.length : Nat) : Int)) (by omega) (by omega)).mp z60
    have e60 : ln 60 ≤ 27 := by decide
    omega
  rw [i_nt2 (p := sc.length) (by omega)]
  refine r_lt ?_
  have y60 : W46 (upI U 65 (I (sc.length : Nat))) (upA (upI U 65 (I (sc.length : Nat))) 60 (upd ((upI U 65 (I (sc.length : Nat))).2.2.1 60) sc.length 0)) 60 sc.length 0 := w46_of
  generalize upA (upI U 65 (I (sc.length : Nat))) 60 (upd ((upI U 65 (I (sc.length : Nat))).2.2.1 60) sc.length 0) = U1 at y60
  have e65a : U1.1 65 = I (sc.length : Nat) := by rw [y60.1, upI_at]
  rw [e65a, i_nt2 (p := sc.length) (by omega)]
  refine r_ck (fun _ => r_lt ?_)
  have y63 : W46 U1 (upA U1 63 (upd (U1.2.2.1 63) sc.length 0)) 63 sc.length 0 := w46_of
  generalize upA U1 63 (upd (U1.2.2.1 63) sc.length 0) = U2 at y63
  have e65b : U2.1 65 = I (sc.length : Nat) := by rw [y63.1]; exact e65a
  rw [e65b, i_nt2 (p := sc.length) (by omega)]
  refine r_ck (fun _ => r_lt ?_)
  have y64 : W46 U2 (upA U2 64 (upd (U2.2.2.1 64) sc.length 0)) 64 sc.length 0 := w46_of
  generalize upA U2 64 (upd (U2.2.2.1 64) sc.length 0) = wC at y64
  have iC : ∀ k, k ≠ 65 → wC.1 k = U.1 k := fun k hk => by rw [y64.1, y63.1, y60.1, upI_ne hk]
  have i65 : wC.1 65 = I (sc.length : Nat) := by rw [y64.1]; exact e65b
  have rC : ∀ k n, (k ≠ 60 ∧ k ≠ 63 ∧ k ≠ 64) ∨ n ≠ sc.length → wC.2.2.1 k n = U.2.2.1 k n := fun k n hk => by
    rw [y64.2.2.1 k n (by omega), y63.2.2.1 k n (by omega), y60.2.2.1 k n (by omega)]; rfl
  have rCf : ∀ k, k ≠ 60 → k ≠ 63 → k ≠ 64 → wC.2.2.1 k = U.2.2.1 k := fun k h1 h2 h3 => funext (fun n => rC k n (Or.inl ⟨h1, h2, h3⟩))
  have jC : wC.2.2.2 = w.2.2.2 := by rw [y64.2.1, y63.2.1, y60.2.1]; exact d0.2.2.2.trans uj2
  have z60' : wC.2.2.1 60 sc.length = 0 := by rw [y64.2.2.1 60 _ (Or.inl (by decide)), y63.2.2.1 60 _ (Or.inl (by decide))]; exact y60.2.2.2
  have z63' : wC.2.2.1 63 sc.length = 0 := by rw [y64.2.2.1 63 _ (Or.inl (by decide))]; exact y63.2.2.2
  have z64' : wC.2.2.1 64 sc.length = 0 := y64.2.2.2
  have hXC : XRS w0 T wC (lo + 1) (qst (qst Q 56 (q + 1)) 32 (Q 32 + 1)) (([], [], 0) :: sc) := by
    refine ⟨PRd_psh hXU.1 l26 (fun k hk => iC k (by rintro rfl; revert hk; decide)) i65 (fun k hk => rCf k (by omega) (by omega) (by omega)) (fun k hk => ?_) ((iC 69 (by decide)).trans d9) (by omega), fun k hk => ?_⟩
    · refine ⟨?_, fun s hs => rC k s (Or.inr hs)⟩
      rcases hk with rfl | rfl | rfl
      · exact z60'
      · exact z63'
      · exact z64'
    · rw [iC k (by rintro rfl; revert hk; decide)]; exact hXU.2 k hk
  have wCw : ∀ k n, (k < 23 ∨ (31 < k ∧ k < 59) ∨ 64 < k) ∨ ((23 ≤ k ∧ k ≤ 31) ∧ n ≠ Q 32) → wC.2.2.1 k n = w.2.2.1 k n := fun k n hk => by
    rw [rC k n (Or.inl (by omega)), d0.2.2.1 k n (by omega), ur2]
  have wC23 : wC.2.2.1 23 (Q 32) = 26 := by rw [rC 23 _ (Or.inl (by decide))]; exact d1
  unfold jm_Cm_fun jb_Cm_fun_0
  rw [i_nt2 (show n ≤ 100000 by omega), tre fr (by decide) h19, i_nt2 (p := pn) (by omega), tre fr (by decide) h18p, tre fr (by decide) h18, i_nt2 (p := q) (by omega)]
  refine l_ck (fun _ => l_ck (fun _ => l_ck (fun _ => ?_)))
  refine l_bnd (pk_mo (len_j fr hxc hOR) (fun mx rx hmx => ?_))
  obtain ⟨hmx, rfl⟩ := hmx
  rw [hmx]
  clear hmx
  refine fn_beg (X := fun w52 r26 => _) hC ⟨sne, l26⟩ (by omega) hkk (fun mC xC miC m709 mrC moC mwC mpC mqC m4C => ?_)
  refine l_ck (fun _ => l_ck (fun _ => ?_))
  have frC := XCS_fr xC
  rw [tre frC (by decide) h17, i_nt2 (p := lo) (by omega)]
  have hln : (mC.2.2.1 8 lo).toInt = A w0 8 lo := pk_ln cv frC (by omega)
  refine pp_bb (pp_mo (cls_x (e := ([], [], 0)) (t := sc) (q := q + 1) (Q := qst (qst Q 56 (q + 1)) 32 (Q 32 + 1)) c cv IE hf xC rfl hXC (by rw [qst_no (by decide), qst_at]) k20 hP k21 (by omega) hxb hr4 ⟨by rw [k11]; exact ⟨rfl, by decide, by decide, by decide⟩, by rw [k11]; decide, by omega⟩ hkk ⟨by show tot sc + 0 + (hi - 1 - (lo + 1)) ≤ 4000; omega, by omega, by omega⟩ hln (by omega)) (fun m2 z w2 r9 hz => ?_))
  obtain ⟨b, cm2, Q2, e2, t2, rfl, l1, xC2, ⟨xR2, q56⟩, tot2, ⟨W, ho, h42⟩, xfc, xrf, ⟨tl, bds⟩, ⟨k46, k16, k45, k41⟩, ecm, clm⟩ := hz
  have tl' : t2.length = sc.length := by have : t2.length + 1 = sc.length + 1 := tl; omega
  have bds' : BDs sc t2 := bds
  have el0 : (([], [], 0) :: sc : SCT).length - 1 = sc.length := rfl
  rw [el0] at xfc
  have QC46 : (qst (qst Q 56 (q + 1)) 32 (Q 32 + 1)) 46 = Q 46 := by rw [qst_no (by decide), qst_no (by decide)]
  have QC32 : (qst (qst Q 56 (q + 1)) 32 (Q 32 + 1)) 32 = Q 32 + 1 := qst_at
  have QC56 : (qst (qst Q 56 (q + 1)) 32 (Q 32 + 1)) 56 = q + 1 := by rw [qst_no (by decide), qst_at]
  have QCo : ∀ k, k ≠ 32 → k ≠ 56 → (qst (qst Q 56 (q + 1)) 32 (Q 32 + 1)) k = Q k := fun k h1 h2 => by rw [qst_no h1, qst_no h2]
  have leQC : QLE Q (qst (qst Q 56 (q + 1)) 32 (Q 32 + 1)) := QLE_st (QLE_st QLE_rf (by omega)) (by omega)
  have le2 := xrf.2.1
  have l32 := le2 32 (by decide)
  rw [QC32] at l32
  have l46 := le2 46 (by decide)
  have l58 := (xR2.2 58 (by decide)).2
  have htk : TKh m2 K nm Nk W lo hi := fun j j1 j2 => by
    have fr2 := XCS_fr xC2
    refine ⟨by rw [fr2.2 6 (by decide)]; exact c.1.2 j (by omega), c.1.1.k46 (by omega), fun k3 => ?_⟩
    have jn : lo + 1 ≤ j ∧ j < hi - 1 := by
      have h1 : j ≠ lo := fun y => by rw [y, k12] at k3; cases k3
      have h2 : j ≠ hi - 1 := fun y => by rw [y, k11] at k3; cases k3
      omega
    obtain ⟨z7, -, zb, -⟩ := c.2.2.2 j (by omega) k3
    refine ⟨by rw [fr2.2 7 (by decide)]; exact z7, by have := c.2.2.1.2 (Nk j); omega, ?_, HDo_bd ho j jn.1 jn.2 k3⟩
    rw [h42]
    show (if lo + 1 ≤ j ∧ j < hi - 1 ∧ K j = 3 then I (W j : Nat) else _) = _
    rw [if_pos ⟨jn.1, jn.2, k3⟩]
  have h41 : m2.2.2.1 41 (t2.length - 1) = I (cm : Nat) := by
    rw [xfc.2.2.2.2.2 (t2.length - 1) (by omega), m4C 41 _ (Or.inr rfl) (by omega), tl']
    exact hC.1.2.2.2.2.1
  have hd41 : cm ≤ 4000 ∧ (hdS t2).1.length ≤ cm := ⟨hC.1.2.2.2.2.2.1, by rw [BDs_hd bds']; exact hC.1.2.2.2.2.2.2⟩
  have m712 : m.1 712 = 0 := of_decide_eq_true (by have := hC.2; exact this)
  refine fne_x (x712 := m.1 712) (W := W) (hi := hi) (lo := lo) c xC2 ⟨h41, hd41⟩ ⟨by omega, by omega⟩ m712 ⟨by rw [xfc.2.2.1 (a + 1) (by omega)]; exact mwC.2, by omega⟩ (by omega) hn h17 h20 ⟨by omega, by omega, by omega⟩ htk (fun mF dd hdd l40 xF miF m9F mrF moF mwF mnF mpF => ?_)
  have de : dd = e2.2.1 := by
    have h1 : e2.2.1 = hdc Nk K W sc.length (hi - 1 - (lo + 1)) (lo + 1) [] := ho.1
    have h2 : dd = hdn Nk K W (t2.length - 1) (hi - 1 - (lo + 1)) (lo + 1) [] := by
      rw [hdd, show hi - lo = 1 + ((hi - 1 - (lo + 1)) + 1) by omega, hdn_add, hdn_add, hdn_gap 1 lo [] (fun j j1 j2 => by rw [show j = lo by omega, k12]; decide)]
      exact hdn_gap 1 _ _ (fun j j1 j2 => by rw [show j = hi - 1 by omega, k11]; decide)
    rw [h1, h2, show sc.length = (t2.length - 1) + 1 by omega]
    refine (hdn_hdc _ _ _ ?_).symm
    rw [← h2]; omega
  subst de
  refine nd_w c xR2 (k := 11) (s' := 6) (by decide) rfl (fun _ => ?_)
  have xR3 := XRS_ad xR2 (show hi - 1 < T by omega)
  rw [show hi - 1 + 1 = hi by omega] at xR3
  have rn2 := xR3.1.2.2.2.1
  have g65 : (adv w2 (hi - 1)).1 65 = I (t2.length : Nat) := rn2.1
  have g63 : (adv w2 (hi - 1)).2.2.1 63 t2.length = I (e2.2.1.length : Nat) := rn2.2.2.1.1.2.2.1
  have ok2 := rn2.2.2.2
  rw [g65, i_nt2 (p := t2.length) (by omega)]
  refine r_ck (fun _ => r_ck (fun _ => ?_))
  have hho2 : HDo Nk K W lo hi sc t2 := HDo_tr (p2 := lo + 1) (by omega) (by omega) (HDo_gap (fun j a b => by rw [show j = lo by omega, k12]; decide)) (HDo_tr (p2 := hi - 1) (by omega) (by omega) ho.2 (HDo_gap (fun j a b => by rw [show j = hi - 1 by omega, k11]; decide)))
  have fin : ∀ w3, XRS w0 T w3 hi Q2 (e2 :: t2) → w3.2 = w2.2 → PP (fun mm zz ww rr => PK (fun v qq => XZ m0 w0 K T nm Nk fof cvr lst false lo hi a cm q r Q sc m w mm zz v qq) (some (upI ww 73 xx, rr))) (some (mF, ())) (kb_M_fun_221 N (krc_M_behind N d) (kg_M_fun N (krc_M_behind N d) N) w3 (I (lo : Nat)) (I (q : Nat)) (I (Q 32 : Nat)) (I ((qst (qst Q 56 (q + 1)) 32 (Q 32 + 1)) 46 : Nat))) := fun w3 hX3 hw3 => by
    have rn3 := hX3.1.2.2.2.1
    have h58 := hX3.2 58 (by decide)
    have hr3 : w3.2.2.1 = w2.2.2.1 := by rw [hw3]
    have hj3 : w3.2.2.2 = w2.2.2.2 := by rw [hw3]
    refine r_221 (s := t2.length) (l := e2.2.1.length) (B := Q2 58) (by omega) ok2.1.2.2.1 h58.2 (by omega) rn3.1 rn3.2.2.1.1.2.2.1 h58.1 (fun V hBl vi v58 vr v5 v57 vj => ?_)
    unfold fnT
    have v65 : V.1 65 - 1 = I ((t2.length - 1 : Nat) : Int) := by
      rw [vi 65 (by decide), rn3.1]
      exact (I_mn (a := t2.length) (c := 1) (by omega) rfl).trans rfl
    rw [v65, i_nt2 (p := Q 32) (by omega)]
    refine r_lt (r_ck (fun _ => ?_))
    have v32 : (upI V 65 (I ((t2.length - 1 : Nat) : Int))).1 32 = I (Q2 32 : Nat) := by rw [upI_ne (by decide), vi 32 (by decide)]; exact (XRS_q hX3).1
    rw [v32]
    refine r_lt ?_
    have yA : W46 (upI V 65 (I ((t2.length - 1 : Nat) : Int))) (upA (upI V 65 (I ((t2.length - 1 : Nat) : Int))) 25 (upd ((upI V 65 (I ((t2.length - 1 : Nat) : Int))).2.2.1 25) (Q 32) (I (Q2 32 : Nat)))) 25 (Q 32) (I (Q2 32 : Nat)) := w46_of
    generalize upA (upI V 65 (I ((t2.length - 1 : Nat) : Int))) 25 (upd ((upI V 65 (I ((t2.length - 1 : Nat) : Int))).2.2.1 25) (Q 32) (I (Q2 32 : Nat))) = Va at yA
    have a32 : Va.1 32 = I (Q2 32 : Nat) := by rw [yA.1]; exact v32
    have q24 := (XRS_q hX3).2
    refine r_nod a32 q24 rfl (nsh (by omega)) (fun h16s => ?_)
    have x0 : NOD Va (nwD Va (Q2 32) 14 (I (lo : Nat))) (Q2 32) := NOD_0 a32
    obtain ⟨x1, -, -, -, -, x6, -⟩ := nwD_at (w := Va) (i := Q2 32) (k := 14) (t := I (lo : Nat))
    have xi : ∀ k, k ≠ 32 → (nwD Va (Q2 32) 14 (I (lo : Nat))).1 k = Va.1 k := fun k hk => nwD_i hk
    generalize nwD Va (Q2 32) 14 (I (lo : Nat)) = U3 at x0 x1 x6 xi
    rw [i_nt2 (p := Q2 32) (by omega)]
    refine r_ck (fun _ => r_lt ?_)
    have x0' : NOD Va (upA U3 25 (upd (U3.2.2.1 25) (Q2 32) (I (q : Nat)))) (Q2 32) := NOD_A x0 (by decide)
    have x23 : (upA U3 25 (upd (U3.2.2.1 25) (Q2 32) (I (q : Nat)))).2.2.1 23 (Q2 32) = 14 := by rw [upA_no (by decide)]; exact x1
    have x25 : (upA U3 25 (upd (U3.2.2.1 25) (Q2 32) (I (q : Nat)))).2.2.1 25 (Q2 32) = I (q : Nat) := by rw [upA_at, upd_at]
    have x28 : (upA U3 25 (upd (U3.2.2.1 25) (Q2 32) (I (q : Nat)))).2.2.1 28 (Q2 32) = -1 := by rw [upA_no (by decide)]; exact x6
    have xii : ∀ k, k ≠ 32 → (upA U3 25 (upd (U3.2.2.1 25) (Q2 32) (I (q : Nat)))).1 k = Va.1 k := xi
    generalize upA U3 25 (upd (U3.2.2.1 25) (Q2 32) (I (q : Nat))) = V3 at x0' x23 x25 x28 xii
    have Vi : ∀ k, k ≠ 32 → k ≠ 58 → k ≠ 65 → V3.1 k = w3.1 k := fun k a1 a2 a3 => by rw [xii k a1, yA.1, upI_ne a3, vi k a2]
    have V3w : ∀ k n, (k ≠ 57 ∨ (n < Q2 58 ∨ Q2 58 + e2.2.1.length ≤ n)) → ((k ≠ 53 ∧ k ≠ 54 ∧ k ≠ 55) ∨ n ≠ q) → (k ≠ 25 ∨ n ≠ Q 32) → ((k < 23 ∨ 31 < k) ∨ n ≠ Q2 32) → V3.2.2.1 k n = w2.2.2.1 k n := fun k n a1 a2 a3 a4 => by
      rw [x0'.2.2.1 k n (by omega), yA.2.2.1 k n (by omega)]
      show V.2.2.1 k n = _
      rw [vr k n (by omega), hr3]
    have V3J : V3.2.2.2 = w2.2.2.2 := by rw [x0'.2.2.2, yA.2.1]; exact vj.trans hj3
    have Vq : ∀ k, k = 53 ∨ k = 54 ∨ k = 55 → V3.2.2.1 k q = V.2.2.1 k q := fun k hk => by
      rw [x0'.2.2.1 k q (by omega), yA.2.2.1 k q (by omega)]; rfl
    have V57 : ∀ k, k < e2.2.1.length → V3.2.2.1 57 (Q2 58 + k) = w2.2.2.1 62 (1400 * t2.length + k) := fun k hk => by
      rw [x0'.2.2.1 57 _ (by omega), yA.2.2.1 57 _ (by omega)]
      show V.2.2.1 57 _ = _
      rw [v57 k hk, hr3]
    have V25 : V3.2.2.1 25 (Q 32) = I (Q2 32 : Nat) := by rw [x0'.2.2.1 25 _ (by omega)]; exact yA.2.2.2
    have V23 : V3.2.2.1 23 (Q 32) = 26 := by
      rw [V3w 23 _ (Or.inl (by decide)) (Or.inl (by decide)) (Or.inl (by decide)) (Or.inr (by omega)), xrf.1.2.1 23 (Q 32) (by decide) (by show Q 32 < (qst (qst Q 56 (q + 1)) 32 (Q 32 + 1)) 32; omega)]
      exact wC23
    have QFo : ∀ k, k ≠ 32 → k ≠ 58 → (qst (qst Q2 58 (Q2 58 + e2.2.1.length)) 32 (Q2 32 + 1)) k = Q2 k := fun k h1 h2 => by rw [qst_no h1, qst_no h2]
    have QF32 : (qst (qst Q2 58 (Q2 58 + e2.2.1.length)) 32 (Q2 32 + 1)) 32 = Q2 32 + 1 := qst_at
    have QF58 : (qst (qst Q2 58 (Q2 58 + e2.2.1.length)) 32 (Q2 32 + 1)) 58 = Q2 58 + e2.2.1.length := by rw [qst_no (by decide), qst_at]
    have leF : QLE Q2 (qst (qst Q2 58 (Q2 58 + e2.2.1.length)) 32 (Q2 32 + 1)) := QLE_st (QLE_st QLE_rf (by omega)) (by omega)
    have leQ2 : QLE Q Q2 := QLE_tr leQC le2
    have xR : XRS w0 T V3 hi (qst (qst Q2 58 (Q2 58 + e2.2.1.length)) 32 (Q2 32 + 1)) t2 := by
      refine ⟨?_, fun k hk => ?_⟩
      · rw [QFo 39 (by decide) (by decide)]
        exact PRd_pop hX3.1 (by omega) (fun k hk => Vi k (by rintro rfl; revert hk; decide) (by rintro rfl; revert hk; decide) (by rintro rfl; revert hk; decide)) (by rw [xii 65 (by decide), yA.1, upI_at]) (fun k hk => by rw [hr3]; exact funext (fun n => V3w k n (Or.inl (by omega)) (Or.inl (by omega)) (Or.inl (by omega)) (Or.inl (by omega)))) ((Vi 69 (by decide) (by decide) (by decide)).trans hX3.1.2.1.1) hiT
      · by_cases y : k = 32
        · subst y
          rw [QF32]
          exact ⟨x0'.2.1, by omega⟩
        · by_cases y2 : k = 58
          · subst y2
            rw [QF58, xii 58 (by decide), yA.1, upI_ne (by decide)]
            exact ⟨v58, hBl⟩
          · rw [QFo k y y2, Vi k y y2 (by rintro rfl; revert hk; decide)]
            exact hX3.2 k hk
    have q58 := leQ2 58 (by decide)
    have qr : QRR Q w V3 := ⟨fun k a1 a2 a3 => ?_, fun k n a1 a2 => ?_, fun k n a1 => ?_⟩
    · have oN : Onm nm t2 = Onm nm sc := by unfold Onm; rw [BDs_hd bds']
      have dl := ok2.1.2.2.1
      refine pp_end (pk_some (XZ_out (w2 := V3) (mid := hi) ?_ (fun Q2 sc2 h => XRS_I h (by decide) (by decide)) rfl (Nat.le_refl _) (fun j a b => by omega)))
      refine ⟨b + 4 + e2.2.1.length, cm, _, t2, Q2 32, 2, [], rfl, ⟨by omega, by rw [QF32]; omega⟩, ⟨⟨by omega, by omega, Nat.le_refl _, by omega⟩, xF, ⟨xR, by rw [QFo 56 (by decide) (by decide)]; exact q56⟩, by rw [(BDs_len bds').2]; omega, ⟨W, ⟨hho2, fun _ => ⟨trivial, BDs_NWd bds'⟩⟩, ?_⟩, ⟨fun k k1 k2 => ?_, fun k k1 k2 k3 => ?_, fun j hj => ?_, fun k j k1 k2 k3 => ?_, fun j hj => ?_, fun j hj => ?_⟩, ⟨qr, QLE_tr leQ2 leF, ?_⟩, fun z => (by cases z), fun n hn => (by cases hn), fun C P R J H fi hx => ?_⟩, ⟨by omega, by omega⟩, RTd_1 (congrArg Int32.toInt x28) ⟨by show (V3.2.2.1 23 (Q2 32)).toInt ≠ 12; rw [x23]; decide, by show (V3.2.2.1 23 (Q2 32)).toInt ≠ 13; rw [x23]; decide⟩ rfl ⟨by omega, by rw [QF32]; omega⟩, fun n hn => by cases hn⟩
      · rw [mrF 42 (by decide) (by decide), h42, mrC 42 (by decide) (by decide) (by decide) (by decide) (by decide)]
        refine funext (fun j => ?_)
        show (if lo + 1 ≤ j ∧ j < hi - 1 ∧ K j = 3 then I (W j : Nat) else m.2.2.1 42 j) = if lo ≤ j ∧ j < hi ∧ K j = 3 then I (W j : Nat) else m.2.2.1 42 j
        by_cases z : lo ≤ j ∧ j < hi ∧ K j = 3
        · have h1 : j ≠ lo := fun y => by have := z.2.2; rw [y, k12] at this; cases this
          have h2 : j ≠ hi - 1 := fun y => by have := z.2.2; rw [y, k11] at this; cases this
          rw [if_pos z, if_pos ⟨by omega, by omega, z.2.2⟩]
        · rw [if_neg z, if_neg (fun y => z ⟨by omega, by omega, y.2.2⟩)]
      · by_cases y : k = 709
        · subst y
          rw [m9F, tl']
          exact hC.1.2.1.1.symm
        · rw [miF k k1 y, xfc.1 k k1 k2, miC k k1 y]
      · rw [mrF k k1 (by omega), xfc.2.1 k k1 k2 k3, mrC k k1 (by omega) (by omega) (by omega) (by omega)]
      · rw [moF j (by omega) (by omega), xfc.2.2.1 j (by omega), moC j hj]
      · by_cases y : k = 32
        · subst y
          rw [mpF.2 j (by omega), xfc.2.2.2.1 32 j k1 k2 (by omega), mrC 32 (by decide) (by decide) (by decide) (by decide) (by decide)]
        · rw [mrF k (by omega) y, xfc.2.2.2.1 k j k1 k2 (by omega), mpC k j (by omega) (by omega)]
      · rw [mrF 40 (by decide) (by decide), xfc.2.2.2.2.1 j (by omega), m4C 40 j (Or.inl rfl) (by omega)]
      · rw [mrF 41 (by decide) (by decide), xfc.2.2.2.2.2 j (by omega), m4C 41 j (Or.inr rfl) (by omega)]
      · have := xrf.2.2
        rw [QCo 75 (by decide) (by decide), QCo 77 (by decide) (by decide), QCo 83 (by decide) (by decide)] at this
        rw [QFo 75 (by decide) (by decide), QFo 77 (by decide) (by decide), QFo 83 (by decide) (by decide)]
        exact this
      · 
        have bF := xF.1.2.2.1.2.2
        have HFn : (e2.2.1.map nm).Nodup := List.pairwise_map.mpr (List.Pairwise.imp (fun h z => h (c.2.2.1.1 _ _ z)) ok2.1.2.2.2.2.2.2)
        have hxF : HNX nm (e2 :: t2) cm2 (e2.2.1.map nm) := ⟨⟨List.prefix_rfl, by rw [List.length_map]; omega⟩, HFn, by rw [List.length_map]; omega⟩
        have l46b := leQ2 46 (by decide)
        have fx : FNx w0 fof cvr C P R J m2 w2 (a + 2) b (q + 1) r (qst (qst Q 56 (q + 1)) 32 (Q 32 + 1)) Q2 lst [] [] [(qst (qst Q 56 (q + 1)) 32 (Q 32 + 1)) 46] := by
          refine FNx_mo (FNx_0 (hs := []) (ps := []) fi) ⟨by omega, by omega⟩ ⟨by omega, Nat.le_refl _⟩ leQC leF (fun j j1 j2 _ => moF j j2 (by omega)) (fun k u k1 k2 k3 k4 => ?_) (fun k n k1 k2 k3 k4 k5 k6 => ?_) (fun n _ _ => by rw [V3J]) (fun n n1 n2 => ?_) (fun j hj => by cases hj) (fun j hj => by cases hj)
          · by_cases y : k = 32
            · subst y
              exact mpF.2 u (by omega)
            · rw [mrF k (by omega) y]
          · refine V3w k n ?_ ?_ ?_ ?_
            · by_cases y : k = 57
              · subst y
                exact Or.inr (Or.inl k5)
              · exact Or.inl y
            · by_cases y : k = 53 ∨ k = 54 ∨ k = 55
              · have gk : grp k = 56 := by rcases y with rfl | rfl | rfl <;> rfl
                rw [gk, QC56] at k4
                exact Or.inr (by omega)
              · exact Or.inl (by omega)
            · by_cases y : k = 25
              · subst y
                have k4 : (qst (qst Q 56 (q + 1)) 32 (Q 32 + 1)) 32 ≤ n := k4
                exact Or.inr (by omega)
              · exact Or.inl y
            · by_cases y : 23 ≤ k ∧ k ≤ 31
              · have gk : grp k = 32 := if_pos y
                rw [gk] at k5
                exact Or.inr (by omega)
              · exact Or.inl (by omega)
          · have e30 : A V3 30 n = A w2 30 n := congrArg Int32.toInt (V3w 30 n (Or.inl (by decide)) (Or.inl (by decide)) (Or.inl (by decide)) (Or.inr (by omega)))
            rw [e30, if_neg (fun y => by cases y.2)]
        obtain ⟨u1, u2'⟩ := clm C P R J (e2.2.1.map nm) lst fx hxF
        have gcF : ∀ j, a ≤ j → j < b + 4 + e2.2.1.length → C j = (mF.2.2.1 23 j).toInt := fun j j1 j2 => fi.1 j j1 j2
        have ro : ∀ k i, 23 ≤ k ∧ k ≤ 31 → k ≠ 27 ∧ k ≠ 29 ∧ k ≠ 30 → Q 32 ≤ i → i ≤ Q2 32 → R k i = A V3 k i := fun k i k1 k2 i1 i2 => FIN_R fi k1 k2 ⟨i1, by rw [QF32]; omega⟩
        have R5 : ∀ k, k = 53 ∨ k = 54 ∨ k = 55 → R k q = A V3 k q := fun k hk => by
          have gk : grp k = 56 := by rcases hk with rfl | rfl | rfl <;> rfl
          exact fi.2.2.2.1.1 k q (by omega) (by omega) (by omega) (by omega) (by rw [gk]; decide) (by rw [gk]; omega) (by rw [gk, QFo 56 (by decide) (by decide), q56]; omega)
        have R4 : ∀ k, k = 41 ∨ k = 45 → R k (Q 46) = A V3 k (Q 46) := fun k hk => by
          have gk : grp k = 46 := by rcases hk with rfl | rfl <;> rfl
          exact fi.2.2.2.1.1 k (Q 46) (by omega) (by omega) (by omega) (by omega) (by rw [gk]; decide) (by rw [gk]; omega) (by rw [gk, QFo 46 (by decide) (by decide)]; omega)
        have k0v : ∀ k, k = 41 ∨ k = 45 → V3.2.2.1 k (Q 46) = w2.2.2.1 k (Q 46) := fun k hk => V3w k (Q 46) (Or.inl (by omega)) (Or.inl (by omega)) (Or.inl (by omega)) (Or.inl (by omega))
        rw [QC46] at u2' k45 k41
        have R45 : R 45 (Q 46) = -1 := by
          rw [R4 45 (Or.inr rfl)]
          show (V3.2.2.1 45 (Q 46)).toInt = _
          rw [k0v 45 (Or.inr rfl), k45]; rfl
        have R41 : R 41 (Q 46) = ((kk : Nat) : Int) := by
          rw [R4 41 (Or.inl rfl)]
          show (V3.2.2.1 41 (Q 46)).toInt = _
          rw [k0v 41 (Or.inl rfl), k41]
          exact I_ti (by omega) (by omega)
        have cb : C b = 36 := by rw [gcF b (by omega) (by omega), mwF.2.1]; rfl
        have zr := u2' ⟨1, by omega, Or.inl ⟨R45, Or.inl ⟨rfl, cb⟩⟩⟩
        have R53 : R 53 q = ((Q 46 : Nat) : Int) := by
          rw [R5 53 (by omega)]
          show (V3.2.2.1 53 q).toInt = _
          rw [Vq 53 (by omega), v5.1, QC46]
          exact I_ti (by omega) (by omega)
        have R54 : R 54 q = ((e2.2.1.length : Nat) : Int) := by
          rw [R5 54 (by omega)]
          show (V3.2.2.1 54 q).toInt = _
          rw [Vq 54 (by omega), v5.2.1]
          exact I_ti (by omega) (by omega)
        have R55 : R 55 q = ((Q2 58 : Nat) : Int) := by
          rw [R5 55 (by omega)]
          show (V3.2.2.1 55 q).toInt = _
          rw [Vq 55 (by omega), v5.2.2]
          exact I_ti (by omega) (by omega)
        have pq : ∀ k, 30 ≤ k → k ≤ 32 → P k q = (mF.2.2.1 k q).toInt := fun k k1 k2 => fi.2.1 k q k1 k2 (Nat.le_refl _) (by omega)
        have m2q : ∀ k, k = 30 ∨ k = 31 → mF.2.2.1 k q = mC.2.2.1 k q := fun k hk => by
          rw [mrF k (by omega) (by omega), xfc.2.2.2.1 k q (by omega) (by omega) (by omega)]
        have cnm : ∀ i x, e2.2.1[i]? = some x → C (b + 4 + i) = ((nm x : Nat) : Int) := fun i x hix => by
          have hi' := (List.getElem?_eq_some_iff.mp hix).1
          rw [gcF _ (by omega) (by omega)]
          obtain ⟨g1, g2⟩ := mnF i x hix
          rw [g1]
          exact I_ti (by omega) (by omega)
        have c3 : C (b + 3) = ((e2.2.1.length : Nat) : Int) := by
          rw [gcF _ (by omega) (by omega), mwF.2.2.2.2]
          exact I_ti (by omega) (by omega)
        have fuq : FUX C P R J q := by
          refine ⟨kk, a + 2, b + 3, e2.2.1.length, Q 46, e2.2.1.map nm, ?_, ?_, ?_, c3, by omega, List.length_map _, fun i x hix => ?_, HFn, R53, by omega, R41, R54, ?_⟩
          · rw [pq 30 (by decide) (by decide), m2q 30 (Or.inl rfl), mqC.1]
            exact I_ti (by omega) (by omega)
          · rw [pq 31 (by decide) (by decide), m2q 31 (Or.inr rfl), mqC.2]
            exact I_ti (by omega) (by omega)
          · rw [pq 32 (by decide) (by decide), mpF.1]
            exact I_ti (by omega) (by omega)
          · rw [List.getElem?_map] at hix
            obtain ⟨x', hx1, hx2⟩ := Option.map_eq_some_iff.mp hix
            rw [← hx2, show b + 3 + 1 + i = b + 4 + i by omega]
            exact cnm i x' hx1
          · obtain ⟨f', hf'⟩ := zr
            exact ⟨f', f', hf'⟩
        refine ⟨fun u y1 y2 => ?_, fun y hy hr => ?_⟩
        · by_cases z : u = q
          · rw [z]; exact fuq
          · exact u1 u (by omega) y2
        · have hx2 : HNX nm t2 cm H := hx
          have hxs : HNX nm sc cm H := HNX_mo hho2 (Nat.le_refl _) hx2
          obtain ⟨z1, z2⟩ := XB c.2.2.1 hC hR hxs h16r
          obtain ⟨z3, z4⟩ := XB c.2.2.1 xF xR hx2 h16s
          obtain ⟨dE, hE⟩ := hr
          rw [QF32] at hE
          have rR23 : R 23 (Q2 32) = 14 := by
            rw [ro 23 _ (by decide) (by decide) (by omega) (Nat.le_refl _)]
            exact congrArg Int32.toInt x23
          have rR25 : R 25 (Q2 32) = ((q : Nat) : Int) := by
            rw [ro 25 _ (by decide) (by decide) (by omega) (Nat.le_refl _)]
            show (V3.2.2.1 25 (Q2 32)).toInt = _
            rw [x25]
            exact I_ti (by omega) (by omega)
          have cb1 : C (b + 1) = 6 := by rw [gcF _ (by omega) (by omega), mwF.2.2.1]; rfl
          have cb2 : C (b + 2) = ((q : Nat) : Int) := by
            rw [gcF _ (by omega) (by omega), mwF.2.2.2.1]
            exact I_ti (by omega) (by omega)
          have n14 : CRe C R J y (b + 1) (Q2 32) H (Onm nm t2) := by
            refine cr_1 ⟨z3.1, z3.2⟩ ⟨by omega, z4.2⟩ ⟨dE, Or.inr (Or.inr (Or.inr (Or.inr (Or.inr (Or.inr (Or.inr (Or.inr (Or.inr (Or.inr (Or.inr (Or.inr (Or.inr (Or.inr (Or.inl ⟨rR23, cb1, by rw [rR25]; exact cb2, q, e2.2.1.length, Q2 58, rR25, R54, c3, R55, fun k hk => ?_, ?_⟩))))))))))))))⟩
            · have hk2 : ∃ x, e2.2.1[k]? = some x := ⟨_, List.getElem?_eq_getElem hk⟩
              obtain ⟨x, hkx⟩ := hk2
              obtain ⟨i1, g1, g2⟩ := xR2.1.2.2.2.2.1.1 k x hkx
              have bd := LKt_bd g2 ok2.2 hx2.1
              have R57 : R 57 (Q2 58 + k) = i1 := by
                rw [fi.2.2.2.1.1 57 (Q2 58 + k) (by decide) (by decide) (by decide) (by decide) (by decide) (by show Q 58 ≤ Q2 58 + k; omega) (by show Q2 58 + k < (qst (qst Q2 58 (Q2 58 + e2.2.1.length)) 32 (Q2 32 + 1)) 58; rw [QF58]; omega)]
                show (V3.2.2.1 57 (Q2 58 + k)).toInt = _
                rw [V57 k hk, g1]
                exact I_ti (by omega) (by omega)
              rw [R57, show b + 1 + 3 + k = b + 4 + k by omega, cnm k x hkx]
              exact LKP_t c.2.2.1 g2 hx2.1
            · rw [show b + 1 + 3 + e2.2.1.length = b + 4 + e2.2.1.length by omega]
              exact hE
          rw [oN] at n14
          obtain ⟨d14, h14⟩ := n14
          have r23 : R 23 (Q 32) = 26 := by
            rw [ro 23 _ (by decide) (by decide) (Nat.le_refl _) (by omega)]
            exact congrArg Int32.toInt V23
          have r25 : R 25 (Q 32) = ((Q2 32 : Nat) : Int) := by
            rw [ro 25 _ (by decide) (by decide) (Nat.le_refl _) (by omega)]
            show (V3.2.2.1 25 (Q 32)).toInt = _
            rw [V25]
            exact I_ti (by omega) (by omega)
          have ca : C a = 18 := by
            rw [gcF a (Nat.le_refl _) (by omega), moF a (by omega) (by omega), xfc.2.2.1 a (by omega), mwC.1]; rfl
          have ca1 : C (a + 1) = ((b + 1 : Nat) : Int) := by
            rw [gcF _ (by omega) (by omega), mwF.1]
            exact I_ti (by omega) (by omega)
          exact cr_1 z1 z2 ⟨d14, Or.inr (Or.inr (Or.inr (Or.inr (Or.inr (Or.inr (Or.inr (Or.inr (Or.inr (Or.inr (Or.inr (Or.inr (Or.inr (Or.inr (Or.inr (Or.inr (Or.inr (Or.inr (Or.inr (Or.inr (Or.inr (Or.inr (Or.inr (Or.inr (Or.inr (Or.inl ⟨r23, ca, b + 1, Q2 32, ca1, Or.inl r25, h14⟩)))))))))))))))))))))))))⟩
    · have gk : ¬ ((23 ≤ k ∧ k ≤ 31) ∨ (53 ≤ k ∧ k ≤ 55) ∨ k = 57) := fun y => by
        unfold grp at a1
        rcases y with y | y | y
        · rw [if_pos y] at a1; cases a1
        · rw [if_neg (by omega), if_neg (by omega), if_neg (by omega), if_pos y] at a1; cases a1
        · rw [if_neg (by omega), if_neg (by omega), if_neg (by omega), if_neg (by omega), if_pos y] at a1; cases a1
      have h1 : V3.2.2.1 k = w2.2.2.1 k := funext (fun n => V3w k n (Or.inl (by omega)) (Or.inl (by omega)) (Or.inl (by omega)) (Or.inl (by omega)))
      rw [h1, xrf.1.1 k a1 a2 a3]
      exact funext (fun n => wCw k n (Or.inl (by omega)))
    · have h1 : V3.2.2.1 k n = w2.2.2.1 k n := by
        refine V3w k n ?_ ?_ ?_ ?_
        · by_cases y : k = 57
          · subst y
            have a2 : n < Q 58 := a2
            exact Or.inr (Or.inl (by omega))
          · exact Or.inl y
        · by_cases y : k = 53 ∨ k = 54 ∨ k = 55
          · have gk : grp k = 56 := by rcases y with rfl | rfl | rfl <;> rfl
            rw [gk] at a2
            exact Or.inr (by omega)
          · exact Or.inl (by omega)
        · by_cases y : k = 25
          · subst y
            have a2 : n < Q 32 := a2
            exact Or.inr (by omega)
          · exact Or.inl y
        · by_cases y : 23 ≤ k ∧ k ≤ 31
          · have gk : grp k = 32 := if_pos y
            rw [gk] at a2
            exact Or.inr (by omega)
          · exact Or.inl (by omega)
      rw [h1, xrf.1.2.1 k n a1 (Nat.lt_of_lt_of_le a2 (leQC _ (grp_m a1)))]
      have a3 : ¬ (59 ≤ k ∧ k ≤ 64) := fun z => by
        unfold grp at a1
        rw [if_neg (by omega), if_neg (by omega), if_neg (by omega), if_neg (by omega), if_neg (by omega), if_neg (by omega), if_neg (by omega), if_neg (by omega)] at a1
        exact a1 rfl
      by_cases y : 23 ≤ k ∧ k ≤ 31
      · have gk : grp k = 32 := if_pos y
        rw [gk] at a2
        exact wCw k n (Or.inr ⟨y, by omega⟩)
      · exact wCw k n (Or.inl (by omega))
    · rw [V3J, xrf.1.2.2 k n (by rw [QCo 39 (by decide) (by decide)]; exact a1), jC]
  exact r_br (fun _ => fin _ xR3 rfl) (fun _ => r_lt (fin _ (XRS_I xR3 (by decide) (by decide)) rfl))
end
end
section
set_option maxRecDepth 100000
section
variable {α β : Type} {m0 w0 m w m2 w2 m3 w3 v u w1 mS wS V Z : MS} {K nm Nk W W2 : Nat → Nat} {N T D d o a aP a0 b b' b0 c cm cm0 cm2 cm3 q q0 r s lo lo0 mid hi hiA i j f f2 n k kk kd p p2 σ tk x xa xb xc xd gx kg kb mb mm nd fr M m1 lv y kf : Nat} {ndr : Nat → Int32} {Q Q0 Q1 Q2 Q3 Q4 : Nat → Nat} {sc sc0 sc2 sc3 t t0 t2 : SCT} {e e0 e2 : List Nat × List Nat × Nat} {g g2 lst l2 : Bool} {L L1 L2 Lr S hs fs : List Nat} {fst last : Option Nat} {l : List Int32} {idc fof cvr : Int → Int → Int} {z : Unit} {rt v1 v2 v3 v4 v5 v8 x1 x2 x3 x4 t4 t5 xw y20 pw kn xx : Int32}
theorem XTF_w46 (h : XTF m0 w0 K T nm Nk g L lo hi a b cm cm2 q r Q Q2 sc sc2 m w m2 w2) (hv : W46 w2 v k i xx) (hk : 23 ≤ k ∧ k ≤ 31) (hi' : Q 32 ≤ i) : XTF m0 w0 K T nm Nk g L lo hi a b cm cm2 q r Q Q2 sc sc2 m w m2 v := XTF_rw h hv.1 (fun j n hj => hv.2.2.1 j n (by
  by_cases y : j = k
  · have gk : grp j = 32 := if_pos (by omega)
    rw [gk] at hj
    exact Or.inr (by omega)
  · exact Or.inl y)) hv.2.1
theorem pe_beg (c : CTZ m0 w0 K T nm Nk) (hE : RWcK m0 1 27 (PEc m0 f o 3) k n lo hi xa xb q r) (hi' : hi ≤ T) : K lo ≠ 5 ∧ K lo ≠ 11 := by
  cases k with
  | zero => exact hE.elim
  | succ k =>
    have hd := RW_xb PE_bE hE
    unfold HDc at hd
    obtain ⟨mid, c1, s, hE, -⟩ := hE
    unfold PEc at hE
    rw [if_neg (by decide)] at hE
    obtain ⟨-, i, ⟨-, -, -, p, xc, gx, m2, c1, s, kb, mb, c2, ⟨h18, hpa⟩, -⟩⟩ := hE
    have hb : BGk (A m0 6 lo) := by
      rcases hpa with ⟨y, -⟩ | ⟨-, mm, cc, ss, hp1, -⟩
      · cases y
      · exact pa_beg hp1
    have hk := c.1.1.k46 (show lo ≤ T by omega)
    have e6 : A m0 6 lo = ((K lo : Nat) : Int) := by
      show (m0.2.2.1 6 lo).toInt = _
      rw [c.1.2 lo (by omega)]
      exact I_ti (by omega) (by omega)
    rw [e6] at hb
    unfold BGk at hb
    omega
set_option maxHeartbeats 2000000 in
theorem x_rc0 (c : CTZ m0 w0 K T nm Nk) (cv : CTV m0 w0 K T) (IE : HXE N m0 w0 K T nm Nk fof cvr f) (hf : f ≤ 230) (hn : n ≤ 8015) (h18 : A m0 18 n = 0) (h19 : A m0 19 n = ((mm : Nat) : Int)) (hE : RWcK m0 1 27 (PEc m0 f o 3) k mm lo hi xa xb q r) (hxb : xb ≤ 8015) (hr4 : r ≤ 400) (k11 : K hi = 11) (hiT : hi < T) (hC : XCS m0 nm m a cm sc false) (hR : XRS w0 T w lo Q sc) (hq : Q 56 = q) (htot : tot sc + (hi - lo) ≤ 4000 ∧ sc.length ≤ o + 1) (htk : tk ≤ 4002) : PP (XZ m0 w0 K T nm Nk fof cvr lst false lo (hi + 1) a cm q r Q sc m w) (jm_Cm_receive N (jrc_Cm_fun N D) m (I (n : Nat)) (lsI lst)) (kb_M_receive_0 N (krc_M_behind N d) () w (I (tk : Nat)) (I ((hdS sc).1.length : Nat))) := by
  have t4 := c.2.1.1.1
  have hd := RW_xb PE_bE hE
  unfold HDc at hd
  obtain ⟨kb5, kb11⟩ := pe_beg c hE (by omega)
  obtain ⟨e, t, rfl⟩ := PRS_ne hR.1
  have fr0 := XCS_fr hC
  obtain ⟨q1, q2⟩ := XRS_q hR
  have lT : lo ≤ T := hR.1.2.1.2
  have elen : e.1.length ≤ 4000 := by
    have := hC.1.2.1.2.2.2.1
    have et : tot (e :: t) = tot t + e.1.length := rfl
    omega
  unfold jm_Cm_receive jb_Cm_receive_0
  refine l_ck (fun _ => ?_)
  rw [i_nt2 (show n ≤ 100000 by omega), tre fr0 (by decide) h18, show decide (I 0 = (0 : Int32)) = true from rfl, br_tq]
  unfold jb_Cm_receive_22
  rw [show decide ((0 : Int32) = 0) = true from rfl, br_tq]
  unfold jb_Cm_receive_48
  refine l_put hC.1.2.2.1.1 hC.1.2.2.1.2.2 (fun ha => ?_)
  have k1 := XCS_put (x := 31) hC ha
  rw [show decide ((0 : Int32) = 0) = true from rfl, br_tq]
  unfold jb_Cm_receive_71
  refine l_put k1.1.2.2.1.1 k1.1.2.2.1.2.2 (fun ha1 => ?_)
  have k2 := XCS_put (x := 0) k1 ha1
  refine l_put k2.1.2.2.1.1 k2.1.2.2.1.2.2 (fun ha2 => ?_)
  have k3 := XCS_put (x := 32) k2 ha2
  unfold jm_Co_hook jb_Co_hook_0
  rw [bnd_as2]
  refine l_put k3.1.2.2.1.1 k3.1.2.2.1.2.2 (fun ha3 => ?_)
  have k4 := XCS_put (x := 0) k3 ha3
  rw [bnd_s]
  have esc : (ptc (ptc m a 31) (a + 1) 0).1 441 = I ((a + 2 : Nat) : Int) := k2.1.2.2.1.1
  have e441 : (ptc (ptc (ptc (ptc m a 31) (a + 1) 0) (a + 1 + 1) 32) (a + 1 + 1 + 1) 0).1 441 = I ((a + 3 + 1 : Nat) : Int) := k4.1.2.2.1.1
  rw [esc, e441, I_sn]
  have hCC : XCS m0 nm (ptcs m a [31, 0, 32, 0]) (a + 4) cm (e :: t) false := k4
  have em : ptc (ptc (ptc (ptc m a 31) (a + 1) 0) (a + 1 + 1) 32) (a + 1 + 1 + 1) 0 = ptcs m a [31, 0, 32, 0] := rfl
  rw [em]
  clear em e441 esc k1 k2 k3 k4
  have c0 : (ptcs m a [31, 0, 32, 0]).2.2.1 23 a = 31 := ptcs_at (l := [31, 0, 32, 0]) (k := 0) rfl
  have c1 : (ptcs m a [31, 0, 32, 0]).2.2.1 23 (a + 1) = 0 := ptcs_at (l := [31, 0, 32, 0]) (k := 1) rfl
  have c2 : (ptcs m a [31, 0, 32, 0]).2.2.1 23 (a + 2) = 32 := ptcs_at (l := [31, 0, 32, 0]) (k := 2) rfl
  have c3 : (ptcs m a [31, 0, 32, 0]).2.2.1 23 (a + 3) = 0 := ptcs_at (l := [31, 0, 32, 0]) (k := 3) rfl
  have ci : ∀ k, k ≠ 441 → (ptcs m a [31, 0, 32, 0]).1 k = m.1 k := fun k hk => ptcs_i hk
  have cr : ∀ k, k ≠ 23 → (ptcs m a [31, 0, 32, 0]).2.2.1 k = m.2.2.1 k := fun k hk => ptcs_r hk
  have co : ∀ j, j < a → (ptcs m a [31, 0, 32, 0]).2.2.1 23 j = m.2.2.1 23 j := fun j hj => ptcs_o (Or.inl hj)
  generalize ptcs m a [31, 0, 32, 0] = mC at hCC c0 c1 c2 c3 ci cr co
  have frC := XCS_fr hCC
  refine l_ck (fun _ => ?_)
  rw [i_nt2 (show n ≤ 100000 by omega), tre frC (by decide) h19]
  unfold kb_M_receive_0
  refine r_nod q1 q2 rfl (nsh htk) (fun h16 => ?_)
  have d0 : NOD w (nwD w (Q 32) 26 (I (tk : Nat))) (Q 32) := NOD_0 q1
  obtain ⟨d1, -⟩ := nwD_at (w := w) (i := Q 32) (k := 26) (t := I (tk : Nat))
  have d9 : (nwD w (Q 32) 26 (I (tk : Nat))).1 69 = I (lo : Nat) := by rw [nwD_i (by decide)]; exact hR.1.2.1.1
  generalize nwD w (Q 32) 26 (I (tk : Nat)) = U1 at d0 d1 d9
  have X1 : XTF m0 w0 K T nm Nk false [] lo lo a a cm cm q q Q (qst Q 32 (Q 32 + 1)) (e :: t) (e :: t) m w m U1 := XTF_nod (XTF_rf hC hR hq) d0 d9 h16
  have d32 := d0.2.1
  have e1 : (qst Q 32 (Q 32 + 1)) 32 = Q 32 + 1 := qst_at
  have e46 : (qst Q 32 (Q 32 + 1)) 46 = Q 46 := qst_no (by decide)
  have leQ1 : QLE Q (qst Q 32 (Q 32 + 1)) := QLE_st QLE_rf (by omega)
  generalize qst Q 32 (Q 32 + 1) = Q1 at X1 e1 e46 leQ1
  have XC : XTF m0 w0 K T nm Nk false [] lo lo a (a + 4) cm cm q q Q Q1 (e :: t) (e :: t) m w mC U1 := XTF_cz X1 hCC (by omega) ci cr co
  have hX1 := X1.2.2.1.1
  have hq1 := X1.2.2.1.2
  rw [← e1] at d32
  have nd16 : Q 32 < 16000 := h16
  refine r_nod d32 (by omega) rfl (nsh htk) (fun h16c => ?_)
  have f0 : NOD U1 (nwD U1 (Q1 32) 27 (I (tk : Nat))) (Q1 32) := NOD_0 d32
  obtain ⟨f1, f2, f3, f4, f5, f6, f7, f8⟩ := nwD_at (w := U1) (i := Q1 32) (k := 27) (t := I (tk : Nat))
  have f9 : (nwD U1 (Q1 32) 27 (I (tk : Nat))).1 69 = I (lo : Nat) := by rw [nwD_i (by decide)]; exact d9
  generalize nwD U1 (Q1 32) 27 (I (tk : Nat)) = U at f0 f1 f2 f3 f4 f5 f6 f7 f8 f9
  rw [i_nt2 (p := Q1 32) (by omega)]
  refine r_ck (fun _ => r_lt (r_ck (fun _ => r_lt ?_)))
  have hN0 := NOD_A (k := 27) (x := I ((hdS (e :: t)).1.length : Nat)) f0 (by decide)
  have hN := NOD_A (k := 31) (x := -1) hN0 (by decide)
  have u23 : (upA (upA U 27 (upd (U.2.2.1 27) (Q1 32) (I ((hdS (e :: t)).1.length : Nat)))) 31 (upd ((upA U 27 (upd (U.2.2.1 27) (Q1 32) (I ((hdS (e :: t)).1.length : Nat)))).2.2.1 31) (Q1 32) (-1))).2.2.1 23 (Q1 32) = 27 := by rw [upA_no (by decide), upA_no (by decide)]; exact f1
  have u27 : (upA (upA U 27 (upd (U.2.2.1 27) (Q1 32) (I ((hdS (e :: t)).1.length : Nat)))) 31 (upd ((upA U 27 (upd (U.2.2.1 27) (Q1 32) (I ((hdS (e :: t)).1.length : Nat)))).2.2.1 31) (Q1 32) (-1))).2.2.1 27 (Q1 32) = I (e.1.length : Nat) := by rw [upA_no (by decide), upA_at, upd_at]; rfl
  have u28 : (upA (upA U 27 (upd (U.2.2.1 27) (Q1 32) (I ((hdS (e :: t)).1.length : Nat)))) 31 (upd ((upA U 27 (upd (U.2.2.1 27) (Q1 32) (I ((hdS (e :: t)).1.length : Nat)))).2.2.1 31) (Q1 32) (-1))).2.2.1 28 (Q1 32) = -1 := by rw [upA_no (by decide), upA_no (by decide)]; exact f6
  have u31 : (upA (upA U 27 (upd (U.2.2.1 27) (Q1 32) (I ((hdS (e :: t)).1.length : Nat)))) 31 (upd ((upA U 27 (upd (U.2.2.1 27) (Q1 32) (I ((hdS (e :: t)).1.length : Nat)))).2.2.1 31) (Q1 32) (-1))).2.2.1 31 (Q1 32) = -1 := by rw [upA_at, upd_at]
  have u69 : (upA (upA U 27 (upd (U.2.2.1 27) (Q1 32) (I ((hdS (e :: t)).1.length : Nat)))) 31 (upd ((upA U 27 (upd (U.2.2.1 27) (Q1 32) (I ((hdS (e :: t)).1.length : Nat)))).2.2.1 31) (Q1 32) (-1))).1 69 = I (lo : Nat) := f9
  generalize upA (upA U 27 (upd (U.2.2.1 27) (Q1 32) (I ((hdS (e :: t)).1.length : Nat)))) 31 (upd ((upA U 27 (upd (U.2.2.1 27) (Q1 32) (I ((hdS (e :: t)).1.length : Nat)))).2.2.1 31) (Q1 32) (-1)) = U2 at hN u23 u27 u28 u31 u69
  have X0 : XTF m0 w0 K T nm Nk false [] lo lo (a + 4) (a + 4) cm cm q q Q1 (qst Q1 32 (Q1 32 + 1)) (e :: t) (e :: t) mC U1 mC U2 := XTF_nod (XTF_rf hCC hX1 hq1) hN u69 h16c
  have hX2 := X0.2.2.1.1
  have eB : (qst Q1 32 (Q1 32 + 1)) 32 = Q1 32 + 1 := qst_at
  rw [isV_e (k := 5) (s := 0) (XRS_wp c hX2) (by decide) rfl, bnd_s, if_neg kb5, show decide ((0 : Int32) = 0) = true from rfl, br_tq, isV_e (k := 11) (s := 6) (XRS_wp c hX2) (by decide) rfl, bnd_s, if_neg kb11, show decide ((0 : Int32) = 0) = true from rfl, br_tq]
  cases D with
  | zero => exact pp_nl
  | succ D =>
  cases d with
  | zero => exact pp_nr
  | succ d =>
  refine pp_bb (pp_mo (R := PLZs m0 w0 K T nm Nk fof cvr lst 3 (a + 2) (Q1 32) (fun k => U2.2.2.1 k (Q1 32)) lo (a + 4) (a + 4) cm q Q1 (qst Q1 32 (Q1 32 + 1)) (e :: t) mC U1 hi r) ?_ (fun m9 v9 w9 r9 hz => ?_))
  · show PP _ (jg_Cm_parts N (jrc_Cm_fun N D) N mC (-2) 33 (lsI lst) 0 (I (mm : Nat))) (br (decide (U2.1 67 = 0)) (kg_M_parts0 N (krc_M_behind N d) N U2 0 (I (Q1 32 : Nat)) (-1) (-1) 1) (kg_M_parts0 N (krc_M_behind N d) N U2 0 (I (Q1 32 : Nat)) (-1) (-1) 0))
    rw [decide_eq_true hX2.1.2.2.1, br_tq]
    refine pt_ll c cv IE hf hxb hr4 ⟨by rw [k11]; exact ⟨rfl, by decide, by decide, by decide⟩, by rw [k11]; decide, by rw [k11]; decide, by omega⟩ htot (Or.inr (Or.inr ⟨rfl, rfl, rfl, rfl⟩)) k mm lo xa q N N mC U2 (a + 4) cm (qst Q1 32 (Q1 32 + 1)) (e :: t) [] [] none none 0 hE ⟨X0, rfl, PTq_0, Iff.rfl, fun l hl => (by cases hl), ⟨QLE_st QLE_rf (by omega), QLE_rf, Nat.le_refl _, by rw [eB]; omega, Nat.le_refl _, Nat.le_refl _⟩, ⟨fun h hm => (by cases hm), rfl⟩, ⟨⟨1, [], Or.inl ⟨?_, rfl⟩, fun _ => Iff.rfl⟩, fun n hn => (by cases hn)⟩, fun _ _ _ _ => rfl⟩ (fun l hl => (by cases hl))
    show (U2.2.2.1 28 (Q1 32)).toInt = -1
    rw [u28]; rfl
  obtain ⟨a2, cm9, Q9, sc9, L9, hs9, k1, kl, rfl, ⟨hk1, hk1b⟩, g1, g2, g3, g4, g5, ⟨g6, g6b, g6c, g6d, g6e, g6f⟩, ⟨g7, g7b⟩, ⟨⟨fr, Lr, g8, g9⟩, g10⟩, g11⟩ := hz
  have hC9 := g1.2.1
  have le9 := g6b 32 (by decide)
  rw [eB] at le9
  have L9r : ∀ n, n ∈ L9 → n < Q9 32 := fun n hn => (g1.2.2.2.2.2.2.2.2 n hn).2
  have m9o : ∀ j, j < a + 4 → m9.2.2.1 23 j = mC.2.2.1 23 j := fun j hj => g1.2.2.2.2.2.1.2.2.1 j hj
  have w9o : ∀ k, 23 ≤ k → k ≤ 31 → w9.2.2.1 k (Q 32) = U1.2.2.1 k (Q 32) := fun k k1 k2 => by
    have gk : grp k = 32 := if_pos ⟨k1, k2⟩
    exact g1.2.2.2.2.2.2.1.1.2.1 k (Q 32) (by rw [gk]; decide) (by rw [gk]; omega)
  have XJ : XTF m0 w0 K T nm Nk false L9 lo hi a a2 cm cm9 q r Q Q9 (e :: t) sc9 m w m9 w9 := XTF_tr XC g1
  refine l_put hC9.1.2.2.1.1 hC9.1.2.2.1.2.2 (fun hb => ?_)
  have k5 := XCS_put (x := 34) hC9 hb
  refine l_put k5.1.2.2.1.1 k5.1.2.2.1.2.2 (fun hb1 => ?_)
  have k6 := XCS_put (x := I ((a + 2 : Nat) : Int)) k5 hb1
  have em : ptc (ptc m9 a2 34) (a2 + 1) (I ((a + 2 : Nat) : Int)) = ptcs m9 a2 [34, I ((a + 2 : Nat) : Int)] := rfl
  rw [em] at k6 ⊢
  have o3 : (ptcs m9 a2 [34, I ((a + 2 : Nat) : Int)]).2.2.1 23 (a + 3) = 0 := by
    rw [ptcs_o (Or.inl (by omega)), m9o _ (by omega)]; exact c3
  refine arr_n (hs := [a + 3]) k6 ⟨rfl, ⟨by omega, by omega⟩, fun h hm => (by cases hm), o3⟩ (fun Z1 hZ1 hZ1C => ?_)
  obtain ⟨y1, y2, y3, y4, y5⟩ := hZ1
  rw [br_tq]
  unfold jb_Cm_receive_173
  have n3 : ∀ j, j ≠ a + 3 → j ∉ [a + 3] := fun j hj y => by
    rcases List.mem_cons.mp y with y | y
    · exact hj y
    · cases y
  refine arr_n hZ1C (HKc_fr g7b (fun j hj => by
    have := g7 j hj
    rw [y4 j (n3 j (by omega))]
    exact ptcs_o (Or.inl this.2))) (fun Z hZ hZC => ?_)
  obtain ⟨z1, z2, z3, z4, z5⟩ := hZ
  have zo : ∀ j, j < a2 → j ≠ a + 3 → j ∉ hs9 → Z.2.2.1 23 j = m9.2.2.1 23 j := fun j hj h3 hn => ((z4 j hn).trans (y4 j (n3 j h3))).trans (ptcs_o (Or.inl hj))
  have za : Z.2.2.1 23 a2 = 34 := ((z4 a2 (fun y => by have := g7 a2 y; omega)).trans (y4 a2 (n3 _ (by omega)))).trans (ptcs_at (l := [34, I ((a + 2 : Nat) : Int)]) (k := 0) rfl)
  have zb : Z.2.2.1 23 (a2 + 1) = I ((a + 2 : Nat) : Int) := ((z4 (a2 + 1) (fun y => by have := g7 _ y; omega)).trans (y4 (a2 + 1) (n3 _ (by omega)))).trans (ptcs_at (l := [34, I ((a + 2 : Nat) : Int)]) (k := 1) rfl)
  have zr : ∀ k, k ≠ 23 → Z.2.2.1 k = m9.2.2.1 k := fun k hk => ((z2 k hk).trans (y2 k hk)).trans (ptcs_r hk)
  have zlo : ∀ j, j < a + 3 → Z.2.2.1 23 j = mC.2.2.1 23 j := fun j hj => (zo j (by omega) (by omega) (fun y => by have := g7 j y; omega)).trans (m9o j (by omega))
  have XZ1 := XTF_cz XJ hZC (by omega) (fun k hk => by rw [z1, y1]; exact ptcs_i hk) zr (fun j hj => zo j (by omega) (by omega) (fun y => by have := g7 j y; omega))
  refine r_ck (fun _ => r_lt ?_)
  have s1 : W46 w9 (upA w9 25 (upd (w9.2.2.1 25) (Q1 32) (I (k1 : Nat)))) 25 (Q1 32) (I (k1 : Nat)) := w46_of
  generalize upA w9 25 (upd (w9.2.2.1 25) (Q1 32) (I (k1 : Nat))) = Y1 at s1
  have XY1 := XTF_w46 XZ1 s1 (by decide) (by omega)
  have hY1 := XY1.2.2.1.1
  unfold kb_M_receive_67
  rw [decide_eq_true hY1.1.2.2.1, br_tq, i_nt2 (p := Q1 32) (by omega), s1.2.2.2]
  refine r_ck (fun _ => ?_)
  rw [decide_eq_false (fun z => by
    have := (I_eq (x := ((k1 : Nat) : Int)) (y := -1) (by omega) (by omega) (by decide) (by decide)).mp (z.trans rfl)
    omega), br_fq]
  unfold kb_M_receive_98
  rw [tkW_e (k := 5) (s := 0) (XRS_wp c hY1) hY1.1.2.2.1 (by decide) rfl, if_neg (by rw [k11]; decide), bnd_s, show decide ((0 : Int32) = 0) = true from rfl, br_tq]
  refine nd_w c hY1 (k := 11) (s' := 6) (by decide) rfl (fun _ => ?_)
  have XA := XTF_ad XY1 (by omega) (by rw [k11]; decide)
  have aA : (adv Y1 hi).2 = Y1.2 := rfl
  generalize adv Y1 hi = YA at XA aA
  rw [i_nt2 (p := Q 32) (by omega)]
  refine r_ck (fun _ => r_lt ?_)
  have s2 : W46 YA (upA YA 25 (upd (YA.2.2.1 25) (Q 32) (I (Q1 32 : Nat)))) 25 (Q 32) (I (Q1 32 : Nat)) := w46_of
  generalize upA YA 25 (upd (YA.2.2.1 25) (Q 32) (I (Q1 32 : Nat))) = Y2 at s2
  have XY2 := XTF_w46 XA s2 (by decide) (Nat.le_refl _)
  unfold kb_M_receive_237
  rw [i_nt2 (p := Q1 32) (by omega), (XRS_q XY2.2.2.1.1).1]
  refine r_ck (fun _ => r_lt ?_)
  have s3 : W46 Y2 (upA Y2 26 (upd (Y2.2.2.1 26) (Q1 32) (I (Q9 32 : Nat)))) 26 (Q1 32) (I (Q9 32 : Nat)) := w46_of
  generalize upA Y2 26 (upd (Y2.2.2.1 26) (Q1 32) (I (Q9 32 : Nat))) = Y at s3
  have XZ3 := XTF_w46 XY2 s3 (by decide) (by omega)
  have nQ01 : Q 32 ≠ Q1 32 := by omega
  have Yr : ∀ k n, (k ≠ 25 ∧ k ≠ 26) ∨ (n ≠ Q 32 ∧ n ≠ Q1 32) → Y.2.2.1 k n = w9.2.2.1 k n := fun k n hk => by
    rw [s3.2.2.1 k n (by omega), s2.2.2.1 k n (by omega), show YA.2.2.1 k n = Y1.2.2.1 k n by rw [aA], s1.2.2.1 k n (by omega)]
  have Y25 : Y.2.2.1 25 (Q1 32) = I (k1 : Nat) := by
    rw [s3.2.2.1 25 _ (Or.inl (by decide)), s2.2.2.1 25 _ (Or.inr (by omega)), show YA.2.2.1 25 (Q1 32) = Y1.2.2.1 25 (Q1 32) by rw [aA]]; exact s1.2.2.2
  have Y26 : Y.2.2.1 26 (Q1 32) = I (Q9 32 : Nat) := s3.2.2.2
  have Y25b : Y.2.2.1 25 (Q 32) = I (Q1 32 : Nat) := by rw [s3.2.2.1 25 _ (Or.inl (by decide))]; exact s2.2.2.2
  have YJ : Y.2.2.2 = w9.2.2.2 := by rw [s3.2.1, s2.2.1, aA, s1.2.1]
  clear s3 XY2
  clear s2
  clear s1 XY1 hY1
  obtain ⟨n1, n2⟩ := XRS_q XZ3.2.2.1.1
  have Y69 := XZ3.2.2.1.1.1.2.1.1
  rw [Y69]
  refine r_nod n1 n2 rfl (nsh (by omega)) (fun h16b => ?_)
  have x0 : NOD Y (nwD Y (Q9 32) 30 (I ((hi + 1 : Nat) : Int))) (Q9 32) := NOD_0 n1
  obtain ⟨x1', -, -, -, -, x6, -⟩ := nwD_at (w := Y) (i := Q9 32) (k := 30) (t := I ((hi + 1 : Nat) : Int))
  have x9 : (nwD Y (Q9 32) 30 (I ((hi + 1 : Nat) : Int))).1 69 = I ((hi + 1 : Nat) : Int) := by rw [nwD_i (by decide)]; exact Y69
  generalize nwD Y (Q9 32) 30 (I ((hi + 1 : Nat) : Int)) = X at x0 x1' x6 x9
  rw [i_nt2 (p := Q9 32) (by omega)]
  refine r_ck (fun _ => r_ck (fun _ => r_lt ?_))
  have hNX : NOD Y (upA X 28 (upd (X.2.2.1 28) (Q9 32) (X.2.2.1 28 (Q1 32)))) (Q9 32) := NOD_A x0 (by decide)
  have X23 : (upA X 28 (upd (X.2.2.1 28) (Q9 32) (X.2.2.1 28 (Q1 32)))).2.2.1 23 (Q9 32) = 30 := by rw [upA_no (by decide)]; exact x1'
  have X28 : (upA X 28 (upd (X.2.2.1 28) (Q9 32) (X.2.2.1 28 (Q1 32)))).2.2.1 28 (Q9 32) = w9.2.2.1 28 (Q1 32) := by
    rw [upA_at, upd_at, x0.2.2.1 28 (Q1 32) (Or.inr (Or.inr (by omega))), Yr 28 (Q1 32) (Or.inl ⟨by decide, by decide⟩)]
  have X69 : (upA X 28 (upd (X.2.2.1 28) (Q9 32) (X.2.2.1 28 (Q1 32)))).1 69 = I ((hi + 1 : Nat) : Int) := x9
  generalize upA X 28 (upd (X.2.2.1 28) (Q9 32) (X.2.2.1 28 (Q1 32))) = V at hNX X23 X28 X69
  have XF := XTF_nod (XTF_L (L2 := Lr) XZ3 (fun n hn => (g9 n).mp hn)) hNX X69 h16b
  have Vr : ∀ k n, n ≠ Q9 32 → ((k ≠ 25 ∧ k ≠ 26) ∨ (n ≠ Q 32 ∧ n ≠ Q1 32)) → V.2.2.1 k n = w9.2.2.1 k n := fun k n h1 h2 => by
    rw [hNX.2.2.1 k n (Or.inr (Or.inr h1)), Yr k n h2]
  have Vo : ∀ k n, (k < 23 ∨ 31 < k) → V.2.2.1 k n = w9.2.2.1 k n := fun k n h1 => by
    rw [hNX.2.2.1 k n (by omega), Yr k n (Or.inl (by omega))]
  have VJ : V.2.2.2 = w9.2.2.2 := hNX.2.2.2.trans YJ
  have nQ : Q1 32 ≠ Q9 32 := by omega
  have nQ' : Q 32 ≠ Q9 32 := by omega
  have V25 : V.2.2.1 25 (Q1 32) = I (k1 : Nat) := by rw [hNX.2.2.1 25 _ (Or.inr (Or.inr nQ))]; exact Y25
  have V26 : V.2.2.1 26 (Q1 32) = I (Q9 32 : Nat) := by rw [hNX.2.2.1 26 _ (Or.inr (Or.inr nQ))]; exact Y26
  have V25b : V.2.2.1 25 (Q 32) = I (Q1 32 : Nat) := by rw [hNX.2.2.1 25 _ (Or.inr (Or.inr nQ'))]; exact Y25b
  have V23b : V.2.2.1 23 (Q 32) = 26 := by rw [Vr 23 _ nQ' (Or.inl (by decide)), w9o 23 (by decide) (by decide)]; exact d1
  have V23 : V.2.2.1 23 (Q1 32) = 27 := by rw [Vr 23 _ nQ (Or.inl (by decide)), g11 23 (by decide) (by decide) (by decide)]; exact u23
  have V27 : V.2.2.1 27 (Q1 32) = I (e.1.length : Nat) := by rw [Vr 27 _ nQ (Or.inl (by decide)), g11 27 (by decide) (by decide) (by decide)]; exact u27
  have V31 : V.2.2.1 31 (Q1 32) = -1 := by rw [Vr 31 _ nQ (Or.inl (by decide)), g11 31 (by decide) (by decide) (by decide)]; exact u31
  have oN : Onm nm sc9 = Onm nm (e :: t) := by unfold Onm; rw [g2]
  have a24 : a2 + 2 ≤ 23990 := hZC.1.2.2.1.2.2
  refine pp_end ⟨a2 + 2, cm9, qst Q9 32 (Q9 32 + 1), sc9, Q9 32, fr + 1, Lr, rfl, ⟨by omega, by rw [qst_at]; omega⟩, XTR_of XF (fun C P R J H fi hx => ?_), ⟨by omega, by omega⟩, ⟨Q9 32, rfl, ⟨by omega, by rw [qst_at]; omega⟩, Lr, ?_, ?_⟩, fun n hn => ?_⟩
  · have ro : ∀ k i, 23 ≤ k ∧ k ≤ 31 → k ≠ 27 ∧ k ≠ 29 ∧ k ≠ 30 → Q 32 ≤ i → i ≤ Q9 32 → R k i = A V k i := fun k i k1 k2 i1 i2 => FIN_R fi k1 k2 ⟨i1, by rw [qst_at]; omega⟩
    have fx : FNx w0 fof cvr C P R J m9 w9 (a + 4) a2 q r (qst Q1 32 (Q1 32 + 1)) Q9 lst L9 hs9 [kl] := by
      refine FNx_mo (FNx_0 (hs := []) (ps := []) fi) ⟨by omega, by omega⟩ ⟨Nat.le_refl _, Nat.le_refl _⟩ (QLE_tr leQ1 (QLE_st QLE_rf (by omega))) (QLE_st QLE_rf (by omega)) (fun j j1 j2 j3 => zo j j2 (by omega) j3) (fun k u k1 k2 _ _ => by rw [zr k (by omega)]) (fun k n k1 k2 k3 k4 k5 k6 => ?_) (fun n _ _ => by rw [VJ]) (fun n n1' n2' => ?_) (fun j hj => by cases hj) (fun j hj => by cases hj)
      · by_cases y : grp k = 32
        · rw [y] at k5
          rw [y, eB] at k4
          exact Vr k n (by omega) (Or.inr ⟨by omega, by omega⟩)
        · refine Vo k n ?_
          by_cases y1 : k < 23
          · exact Or.inl y1
          · by_cases y2 : 31 < k
            · exact Or.inr y2
            · exact absurd (by unfold grp; rw [if_pos (by omega)]) y
      · have e30 : A V 30 n = A w9 30 n := congrArg Int32.toInt (Vr 30 n (by omega) (Or.inl ⟨by decide, by decide⟩))
        rw [e30]
        by_cases y : lst = true ∧ n ∈ Lr
        · rw [if_pos y, if_pos ⟨y.1, (g9 n).mp y.2⟩]
        · rw [if_neg y, if_neg (fun y2 => y ⟨y2.1, (g9 n).mpr y2.2⟩)]
    have hch : ∀ h, h ∈ hs9 → C h = ((a2 + 2 : Nat) : Int) := fun h hm => by
      have := g7 h hm
      rw [fi.1 h (by omega) (by omega)]
      show (Z.2.2.1 23 h).toInt = _
      rw [z5 h hm]
      exact I_ti (by omega) (by omega)
    have r26 : R 26 (Q1 32) = ((Q9 32 : Nat) : Int) := by
      rw [ro 26 _ (by decide) (by decide) (by omega) (by omega)]
      show (V.2.2.1 26 (Q1 32)).toInt = _
      rw [V26]
      exact I_ti (by omega) (by omega)
    have hl5 := g5 kl rfl
    have q1le := g6 46 (by decide)
    have r45 : R 45 kl = -1 := by
      rw [fi.2.2.2.1.1 45 kl (by decide) (by decide) (by decide) (by decide) (by decide) (by show Q 46 ≤ kl; omega) (by show kl < qst Q9 32 (Q9 32 + 1) 46; rw [qst_no (by decide)]; omega)]
      show (V.2.2.1 45 kl).toInt = _
      rw [Vo 45 kl (Or.inr (by decide)), hl5.2.2]; rfl
    obtain ⟨b1, b2⟩ := XB c.2.2.1 hC hR (XTF_hx XJ hx) h16
    obtain ⟨b3, b4⟩ := XB c.2.2.1 hZC XZ3.2.2.1.1 hx h16b
    have cont : ∀ y, (y = none ↔ false = false) → CRe C R J y (a2 + 2) (qst Q9 32 (Q9 32 + 1) 32) H (Onm nm sc9) → CRe C R J none (a2 + 2) (Q9 32) H (Onm nm (e :: t)) := fun y hy hr => by
      have yn : y = none := hy.mpr rfl
      subst yn
      obtain ⟨d', hd'⟩ := hr
      rw [qst_at] at hd'
      rw [← oN]
      have R23 : R 23 (Q9 32) = 30 := by
        rw [ro 23 _ (by decide) (by decide) (by omega) (Nat.le_refl _)]
        show (V.2.2.1 23 (Q9 32)).toInt = _
        rw [X23]; rfl
      exact cr_1 b3 b4 ⟨d', Or.inr (Or.inr (Or.inr (Or.inr (Or.inr (Or.inr (Or.inr (Or.inr (Or.inr (Or.inr (Or.inr (Or.inr (Or.inr (Or.inr (Or.inr (Or.inr (Or.inr (Or.inr (Or.inr (Or.inr (Or.inr (Or.inr (Or.inr (Or.inr (Or.inr (Or.inr (Or.inr (Or.inr (Or.inr (Or.inr (⟨R23, hd'⟩))))))))))))))))))))))))))))))⟩
    obtain ⟨u1, u2⟩ := g3 C P R J H fx hx
    refine ⟨u1, fun y hy hr => ?_⟩
    have yn : y = none := hy.mpr rfl
    have cz : ∀ j x : Nat, Z.2.2.1 23 j = I (x : Nat) → x ≤ 100000 → a ≤ j → j < a2 + 2 → C j = ((x : Nat) : Int) := fun j x hj hx5 j1 j2 => by
      rw [fi.1 j j1 j2]
      show (Z.2.2.1 23 j).toInt = _
      rw [hj]
      exact I_ti (by omega) (by omega)
    have hz1 : ∃ f, ZRs C R J (CRs C R J f) 3 (a + 2) H (Onm nm (e :: t)) f a2 (-1) :=
      ⟨1, by omega, Or.inl ⟨rfl, Or.inr (Or.inr (Or.inr ⟨rfl, cz a2 34 za (by omega) (by omega) (by omega), cz (a2 + 1) (a + 2) zb (by omega) (by omega) (by omega)⟩))⟩⟩
    obtain ⟨fz, hz2⟩ := u2 (a2 + 2) (Q9 32) (-1) hch r26 (cont y hy hr) (fun l hl => by injection hl with hl; rw [← hl]; exact r45) hz1
    have R23 : R 23 (Q1 32) = 27 := by
      rw [ro 23 _ (by decide) (by decide) (by omega) (by omega)]
      show (V.2.2.1 23 (Q1 32)).toInt = _
      rw [V23]; rfl
    have R31 : R 31 (Q1 32) = -1 := by
      rw [ro 31 _ (by decide) (by decide) (by omega) (by omega)]
      show (V.2.2.1 31 (Q1 32)).toInt = _
      rw [V31]; rfl
    have R25 : R 25 (Q1 32) = ((k1 : Nat) : Int) := by
      rw [ro 25 _ (by decide) (by decide) (by omega) (by omega)]
      show (V.2.2.1 25 (Q1 32)).toInt = _
      rw [V25]
      exact I_ti (by omega) (by omega)
    have R25b : R 25 (Q 32) = ((Q1 32 : Nat) : Int) := by
      rw [ro 25 _ (by decide) (by decide) (Nat.le_refl _) (by omega)]
      show (V.2.2.1 25 (Q 32)).toInt = _
      rw [V25b]
      exact I_ti (by omega) (by omega)
    have R23b : R 23 (Q 32) = 26 := by
      rw [ro 23 _ (by decide) (by decide) (Nat.le_refl _) (by omega)]
      show (V.2.2.1 23 (Q 32)).toInt = _
      rw [V23b]; rfl
    have R27 : R 27 (Q1 32) = (((Onm nm (e :: t)).length : Nat) : Int) := by
      rw [fi.2.2.2.1.2.1 (Q1 32) (by omega) (by rw [qst_at]; omega) (by rw [R23]; decide) (by rw [R23]; decide)]
      show (V.2.2.1 27 (Q1 32)).toInt = _
      have l1 : (Onm nm (e :: t)).length = e.1.length := by unfold Onm; rw [List.length_map]; rfl
      rw [V27, l1]
      exact I_ti (by omega) (by omega)
    subst yn
    have ca : C a = 31 := cz a 31 ((zlo a (by omega)).trans c0) (by omega) (Nat.le_refl _) (by omega)
    have ca1 : C (a + 1) = 0 := cz (a + 1) 0 ((zlo (a + 1) (by omega)).trans c1) (by omega) (by omega) (by omega)
    have ca2 : C (a + 2) = 32 := cz (a + 2) 32 ((zlo (a + 2) (by omega)).trans c2) (by omega) (by omega) (by omega)
    have r27 : CRe C R J none a (Q1 32) H (Onm nm (e :: t)) := by
      refine cr_1 b1 ⟨b2.1, by omega, b2.2.2⟩ ⟨fz, Or.inr (Or.inr (Or.inr (Or.inr (Or.inr (Or.inr (Or.inr (Or.inr (Or.inr (Or.inr (Or.inr (Or.inr (Or.inr (Or.inr (Or.inr (Or.inr (Or.inr (Or.inr (Or.inr (Or.inr (Or.inr (Or.inr (Or.inr (Or.inr (Or.inr (Or.inr (Or.inr (Or.inl ⟨R23, rfl, R31, ca, ca1, R27, ca2, ?_, fun z => absurd R31 z, fun _ => ca1⟩)))))))))))))))))))))))))))⟩
      rw [R25]
      exact hz2
    obtain ⟨d7, h7⟩ := r27
    exact cr_1 b1 b2 ⟨d7, Or.inr (Or.inr (Or.inr (Or.inr (Or.inr (Or.inr (Or.inr (Or.inr (Or.inr (Or.inr (Or.inr (Or.inr (Or.inr (Or.inr (Or.inr (Or.inr (Or.inr (Or.inr (Or.inr (Or.inr (Or.inr (Or.inr (Or.inr (Or.inr (Or.inr (Or.inr (Or.inl ⟨R23b, Q1 32, R25b, h7⟩))))))))))))))))))))))))))⟩
  · have e28 : A V 28 (Q9 32) = A w9 28 (Q1 32) := congrArg Int32.toInt X28
    rw [e28]
    refine RT_w (i := Q1 32 + 1) (by omega) fr true (Q9 32) _ _ _ (Nat.le_refl _) ?_
    exact (RT_fr (w := w9) (v := V) fr).1 (Q9 32) (Q9 32) _ Lr (Nat.le_refl _) (fun n m1 m2 => ⟨congrArg Int32.toInt (Vr 23 n (by omega) (Or.inl ⟨by decide, by decide⟩)), congrArg Int32.toInt (Vr 28 n (by omega) (Or.inl ⟨by decide, by decide⟩)), congrArg Int32.toInt (Vr 29 n (by omega) (Or.inl ⟨by decide, by decide⟩))⟩) g8
  · have e23 : A V 23 (Q9 32) = 30 := congrArg Int32.toInt X23
    rw [e23, if_neg (by decide)]
  · have hn9 := (g9 n).mp hn
    have e30 : A V 30 n = A w9 30 n := congrArg Int32.toInt (Vr 30 n (by have := L9r n hn9; omega) (Or.inl ⟨by decide, by decide⟩))
    rw [e30]; exact (g10 n hn9).2
end
end
section
set_option maxRecDepth 100000
section
variable {α β : Type} {m0 w0 m w m2 w2 m3 w3 v u w1 mS wS : MS} {K nm Nk W W2 : Nat → Nat} {N T D d o a a0 b b0 c cm cm0 cm2 cm3 q q0 r s lo lo0 mid hi i j f f2 n k kk p p2 σ tk x xa xb xc mm M m1 lv y : Nat} {Q Q0 Q2 Q3 Q4 : Nat → Nat} {sc sc0 sc2 sc3 t t2 : SCT} {e e2 : List Nat × List Nat × Nat} {g lst l2 : Bool} {L L1 L2 S : List Nat} {idc fof cvr : Int → Int → Int} {z : Unit} {rt v1 v2 v3 v4 v5 : Int32}
def HXR (N : Nat) (m0 w0 : MS) (K : Nat → Nat) (T : Nat) (nm Nk : Nat → Nat) (fof cvr : Int → Int → Int) (f : Nat) : Prop := ∀ (D d o n lo hi xa xb q r : Nat) (m w : MS) (a cm : Nat) (Q : Nat → Nat) (sc : SCT) (g lst : Bool), XPcK m0 f o 0 n lo hi xa xb q r → A m0 16 n = 11 → A m0 18 n ≠ 0 → xb ≤ 8015 → r ≤ 400 → hi ≤ T → XCS m0 nm m a cm sc g → XRS w0 T w lo Q sc → Q 56 = q → (tot sc + (hi - lo) ≤ 4000 ∧ sc.length ≤ o + 1) → PP (XZ m0 w0 K T nm Nk fof cvr lst g lo hi a cm q r Q sc m w) (jm_Cm_expression N (jrc_Cm_fun N D) m (I (n : Nat)) (lsI lst)) (km_M_alone N (krc_M_behind N d) w (I (lo : Nat)))
theorem x_rv0 (c : CTZ m0 w0 K T nm Nk) (cv : CTV m0 w0 K T) (IE : HXE N m0 w0 K T nm Nk fof cvr f) (hf : f ≤ 230) (hC : XCS m0 nm m a cm sc g) (hR : XRS w0 T w lo Q sc) (hq : Q 56 = q) (hn : n ≤ 8015) (h16 : A m0 16 n = 11) (h17 : A m0 17 n = ((lo : Nat) : Int)) (h18 : A m0 18 n = 0) (h19 : A m0 19 n = ((mm : Nat) : Int)) (hE : RWcK m0 1 27 (PEc m0 f o 3) k mm (lo + 1) (hi - 1) xa xb q r) (hxb : xb ≤ 8015) (h6 : A m0 6 lo = 17) (h6b : A m0 6 (hi - 1) = 11) (hr4 : r ≤ 400) (hiT : hi ≤ T) (htot : tot sc + (hi - lo) ≤ 4000 ∧ sc.length ≤ o + 1) : PP (XZ m0 w0 K T nm Nk fof cvr lst g lo hi a cm q r Q sc m w) (jm_Cm_expression N (jrc_Cm_fun N D) m (I (n : Nat)) (lsI lst)) (km_M_alone N (krc_M_behind N d) w (I (lo : Nat))) := by
  have t4 := c.2.1.1.1
  have fr := XCS_fr hC
  have hd := RW_xb PE_bE hE
  unfold HDc at hd
  have k8 : K lo = 17 := kA c (by omega : lo ≤ T) h6
  have k11 : K (hi - 1) = 11 := kA c (by omega : hi - 1 ≤ T) h6b
  obtain ⟨e, t, rfl⟩ := PRS_ne hR.1
  refine exd_11 hn (tre fr (by decide) h16) (l_id ?_)
  cases D with
  | zero => exact pp_nl
  | succ D =>
  show PP _ (jm_Cm_compound N (jrc_Cm_fun N D) m (I (n : Nat)) (lsI lst)) _
  refine cmd_11 hn (tre fr (by decide) h16) hC.2 (tre fr (by decide) h17) (by omega) (fun hg => l_id ?_)
  subst hg
  cases D with
  | zero => exact pp_nl
  | succ D =>
  show PP _ (jm_Cm_receive N (jrc_Cm_fun N D) m (I (n : Nat)) (lsI lst)) _
  refine al_wrd c hR (Or.inr (Or.inr (Or.inr (Or.inr k8)))) (fun u xx hX hu => ?_)
  rw [decide_eq_false (by omega), br_fq]
  cases d with
  | zero => exact pp_nr
  | succ d =>
  have hi0 : XTR m0 w0 K T nm Nk fof cvr lst false [] lo lo a a cm cm q q Q Q (e :: t) (e :: t) m w m u := XTR_mv (XTR_rf hC hR hq) hX hu (Nat.le_refl _) (fun j a b => by omega)
  have rn := hX.1.2.2.2.1
  have tl : t.length + 1 ≤ 27 := rn.2.1.2
  have h60 : u.2.2.1 60 t.length = I (e.1.length : Nat) := rn.2.2.1.1.1
  have h65 : u.1 65 = I (t.length : Nat) := rn.1
  have hw := XRS_wp c hX
  have h7 : u.2.2.1 7 lo = I ((12 : Nat) : Int) := by
    have := hw.1.2.2 lo (by omega) (by omega)
    rw [k8] at this
    exact this
  show PP _ _ (bnd (kb_M_block_0 N (krc_M_behind N d) () u (I (lo : Nat))) _)
  unfold kb_M_block_0
  rw [h65, hX.1.2.1.1, i_nt2 (p := t.length) (by omega), i_nt2 (p := lo) (by omega), h60, h7, bnd_ck]
  refine r_ck (fun _ => ?_)
  rw [bnd_lt]
  refine r_lt ?_
  rw [bnd_ck]
  refine r_ck (fun _ => ?_)
  rw [bnd_lt]
  refine r_lt ?_
  rw [show decide (I ((12 : Nat) : Int) = (2 : Int32)) = false from rfl, br_fq, show decide (I ((12 : Nat) : Int) = (3 : Int32)) = false from rfl, br_fq, show decide (I ((12 : Nat) : Int) = (8 : Int32)) = false from rfl, br_fq, show decide (I ((12 : Nat) : Int) = (12 : Int32)) = true from rfl, br_tq]
  unfold kb_M_block_49
  have e69 : u.1 69 + 1 = I ((lo + 1 : Nat) : Int) := by rw [hX.1.2.1.1, i_suc]
  rw [e69, show upI u 69 (I ((lo + 1 : Nat) : Int)) = adv u lo from rfl, bnd_lt, lt_e, show decide (I ((12 : Nat) : Int) = (2 : Int32)) = false from rfl, br_fq, show decide (I ((12 : Nat) : Int) = (3 : Int32)) = false from rfl, br_fq]
  have ht := XTR_ad hi0 (by omega) (by omega)
  unfold kb_M_block_131
  rw [show decide (I ((12 : Nat) : Int) = (12 : Int32)) = true from rfl, br_tq, bnd_as2]
  cases d with
  | zero => exact pp_nr
  | succ d =>
  have hh := x_rc0 (N := N) (D := D) (d := d) (lst := lst) (tk := lo) c cv IE hf hn h18 h19 hE hxb hr4 k11 (by omega) hC ht.2.2.1.1 hq (by omega) (by omega)
  refine pp_rb (pp_mo hh (fun m9 z9 w9 r9 hz9 => ?_))
  rw [bnd_s]
  refine pk_some ?_
  have hz2 := XZ_bh ht hz9
  rw [show hi - 1 + 1 = hi by omega] at hz2
  exact XZ_out hz2 (fun Q2 sc2 h => XRS_I h (by decide) (by decide)) rfl (Nat.le_refl _) (fun j a b => by omega)
theorem x0_step (c : CTZ m0 w0 K T nm Nk) (cv : CTV m0 w0 K T) (cx : CVX N m0 w0 K T idc fof cvr) (IE : HXE N m0 w0 K T nm Nk fof cvr f) (hf : f ≤ 230) (IR : HXR N m0 w0 K T nm Nk fof cvr (f + 1)) : HX0 N m0 w0 K T nm Nk fof cvr (f + 1) := fun D d o n lo hi xa xb q r m w a cm Q sc g lst RR fc hE hxb hr4 hiT hC hR hq htot hh => by
  have hE0 := hE
  have t4 := c.2.1.1.1
  cases D with
  | zero => exact pp_nl
  | succ D =>
  show PP RR (bnd (jm_Cm_expression N (jrc_Cm_fun N D) m (I (n : Nat)) (lsI lst)) fc) _
  obtain ⟨hdc', -, ho, hE⟩ := hE
  have hd := hdc'
  unfold HDc at hd
  have hn : n ≤ 8015 := by omega
  have one : ∀ hnc : ¬ (K lo = 2 ∧ K (lo + 1) = 20), (∀ d, PP (XZ m0 w0 K T nm Nk fof cvr lst g lo hi a cm q r Q sc m w) (jm_Cm_expression N (jrc_Cm_fun N D) m (I (n : Nat)) (lsI lst)) (km_M_alone N (krc_M_behind N d) w (I (lo : Nat)))) → PP RR (bnd (jm_Cm_expression N (jrc_Cm_fun N D) m (I (n : Nat)) (lsI lst)) fc) (km_M_primary N (krc_M_behind N d) w) := fun hnc hX => pr_al c hR (by omega) hnc hX hh
  rcases hE with ⟨hl, ⟨rfl, hnc⟩, rfl⟩ | ⟨h16, x, xc, h18, hx, hc, h6, h6b, h17⟩ | ⟨h16, hT, h17⟩ | ⟨h16, hT, h17⟩ | ⟨h16, k, x, xc, h18, hB, hc, h6, h6b, h17⟩ | ⟨h16, x, mid, xc, s, k, mm, c2, h18, hx, h19, hB, hc, h6, h6m, h6b, h17⟩ | ⟨h16, k, mm, xc, h19, hB, hc, h6, h6b, h17⟩ | ⟨h16, k, mm, m1, c1, s1, h19, hO, hrest⟩ | ⟨h16, k, mm, ph, xc, h17, h18, h19, h20, hk, hqr, hP, hc, h6, h6a, h6p, h6b⟩ | ⟨h16, ⟨rfl, h6⟩, rfl⟩ | ⟨h16, h17, k, mm, a2, xc, h19, h20, hk, ha2, hO, hc, h6, h6a, h6b, h18⟩ | ⟨-, z, -⟩ | ⟨-, z, -⟩ | ⟨-, z, -⟩ | ⟨-, z, -⟩ | ⟨-, z, -⟩ | ⟨-, z, -⟩
  · refine one (fun y => ?_) (fun d => xl_all c cv hC hR hq hn hl)
    have hk := c.1.1.k46 (show lo ≤ T by omega)
    have hk2 := c.1.1.k46 (show lo + 1 ≤ T by omega)
    have e6 : ∀ j, j ≤ T → A m0 6 j = ((K j : Nat) : Int) := fun j hj => by
      have := c.1.1.k46 hj
      show (m0.2.2.1 6 j).toInt = _
      rw [c.1.2 j (by omega)]
      exact I_ti (by omega) (by omega)
    refine hnc ?_ ?_
    · rw [e6 lo (by omega), y.1]; rfl
    · rw [e6 (lo + 1) (by omega), y.2]; rfl
  · have k0 : K lo = 20 := kA c (by omega : lo ≤ T) h6
    exact one (by omega) (fun d => x_grp c IE hC hR hq hn h16 h18 hx (by omega) h6 h6b hr4 hiT htot)
  · have k0 : K lo = 22 := by
      obtain ⟨k, mm, xc, -, -, ⟨-, h6, -⟩, -⟩ := hT
      exact kA c (by omega : lo ≤ T) h6
    have hl2 : lo + 2 ≤ hi := by
      obtain ⟨k, mm, xc, -, -, ⟨-, h6, h6b⟩, hO, -⟩ := hT
      rcases hO with ⟨-, -, z, -⟩ | ⟨-, z⟩
      · omega
      · have := (RW_hdK (XP_bdK f (o + 1) 3) z).1
        unfold HDc at this
        omega
    exact one (by omega) (fun d => x_tup c IE hC hR hq hn h16 hT hr4 hl2 hiT htot)
  · have k0 : K lo = 24 := by
      obtain ⟨k, mm, mid, xc, s, -, -, ⟨-, h6, -⟩, -⟩ := hT
      exact kA c (by omega : lo ≤ T) h6
    exact one (by omega) (fun d => x_lst c IE hC hR hq hn h16 hT hr4 hiT htot)
  · have k0 : K lo = 7 := kA c (by omega : lo ≤ T) h6
    exact one (by omega) (fun d => x_blk (o := o + 2) c IE hC hR hq hn h16 h17 h18 hB (by omega) h6 h6b hr4 hiT ⟨htot.1, by omega⟩)
  · have k0 : K lo = 8 := kA c (by omega : lo ≤ T) h6
    have e : PEc m0 f o 1 = CSPcK m0 (PAcK m0 f) (XPcK m0 f (o + 2) 3) (XPcK m0 f (o + 1) 3) := if_neg (by decide)
    exact one (by omega) (fun d => x_cas c cv IE hf hC hR hq hn h16 h17 h18 hx h19 (by rw [e]; exact hB) (by omega) h6 h6m h6b hr4 hiT htot)
  · have k0 : K lo = 13 := kA c (by omega : lo ≤ T) h6
    have e : PEc m0 f o 2 = CHPcK m0 (XPcK m0 f (o + 2) 3) (XPcK m0 f (o + 1) 3) := if_pos rfl
    exact one (by omega) (fun d => x_iff c cv IE hf hC hR hq hn h16 h17 h19 (by rw [e]; exact hB) (by omega) h6 h6b hr4 hiT htot)
  · have e : PEc m0 f o 3 = CSPcK m0 (PAcK m0 f) (XPcK m0 f (o + 2) 3) (XPcK m0 f (o + 1) 3) := if_neg (by decide)
    rcases hrest with ⟨h18, h20, hk, rfl, rfl, hc, h6, h6b, h17⟩ | ⟨x, m2, c2, s2, kb, mb, c3, hx1, h18, hx, h20, hB, hc, h6, h6m, h6m2, h6b, h17⟩
    · have k0 : K lo = 17 := kA c (by omega : lo ≤ T) h6
      rcases hO with ⟨z, -⟩ | ⟨-, hO⟩
      · omega
      · exact one (by omega) (fun d => x_rv0 c cv IE hf hC hR hq hn h16 h17 h18 h19 (by rw [e]; exact hO) (by omega) h6 h6b hr4 hiT htot)
    · have k0 : K lo = 17 := kA c (by omega : lo ≤ T) h6
      exact one (by omega) (fun d => IR D d o n lo hi xa xb q r m w a cm Q sc g lst hE0 h16 (by rw [h18]; omega) hxb hr4 hiT hC hR hq htot)
  · have k0 : K lo = 12 := kA c (by omega : lo ≤ T) h6
    exact one (by omega) (fun d => x_fun c cv IE hf hC hR hq hn h16 h17 (by rw [h18, if_pos (by omega)]) h19 h20 hk hP (by omega) h6 h6a h6p h6b hr4 hiT htot)
  · have k0 : K lo = 12 := kA c (by omega : lo ≤ T) h6.1
    exact one (by omega) (fun d => x_fof c cv cx hC hR hq hn h16 h6 hiT)
  · have hl3 : lo + 3 ≤ hi := by
      rcases hO with ⟨-, -, z, -⟩ | ⟨-, z⟩
      · omega
      · have := (RW_hdK (XP_bdK f (o + 1) 3) z).1
        unfold HDc at this
        omega
    exact x_call (o := o + 1) (xa := a2) c cv cx IE hC hR hq hn h16 h17 h19 h20 hk hO (by omega) ⟨h6, h6a, h6b, h18⟩ hl3 hr4 hiT ⟨htot.1, by omega⟩ hh
  all_goals exact absurd z (by decide)
theorem hx_all (c : CTZ m0 w0 K T nm Nk) (cv : CTV m0 w0 K T) (cx : CVX N m0 w0 K T idc fof cvr) (IR : ∀ f, f ≤ 229 → HXE N m0 w0 K T nm Nk fof cvr f → HXR N m0 w0 K T nm Nk fof cvr (f + 1)) (IM : ∀ f, f ≤ 229 → HXE N m0 w0 K T nm Nk fof cvr f → HXS N m0 w0 K T nm Nk fof cvr f → HXW N m0 w0 K T nm Nk fof cvr f → HXM N m0 w0 K T nm Nk fof cvr (f + 1)) : ∀ f, f ≤ 230 → HX0 N m0 w0 K T nm Nk fof cvr f ∧ HXU N m0 w0 K T nm Nk fof cvr f ∧ HXW N m0 w0 K T nm Nk fof cvr f ∧ HXS N m0 w0 K T nm Nk fof cvr f ∧ HXE N m0 w0 K T nm Nk fof cvr f
  | 0, _ => ⟨fun _ _ _ _ _ _ _ _ _ _ _ _ _ _ _ _ _ _ _ _ h => h.elim, fun _ _ _ _ _ _ _ _ _ _ _ _ _ _ _ _ _ _ _ _ _ _ h => h.elim, fun _ _ _ _ _ _ _ _ _ _ _ _ _ _ _ _ _ _ _ _ h => h.elim, fun _ _ _ _ _ _ _ _ _ _ _ _ _ _ _ _ _ _ h => h.elim, fun _ _ _ _ _ _ _ _ _ _ _ _ _ _ _ _ _ _ h => h.elim⟩
  | f + 1, hf => by
    obtain ⟨i0, iu, iw, is, ie⟩ := hx_all c cv cx IR IM f (by omega)
    have j0 := x0_step c cv cx ie (by omega) (IR f (by omega) ie)
    have ju := x_un c cv j0 i0 ie iu
    have jw := x_wk c ju iu
    have js := xs_step c (IM f (by omega) ie is iw) jw iw is
    exact ⟨j0, ju, jw, js, xe_step c js (x_cat c ie)⟩
end
end
section
set_option maxRecDepth 100000
def UFC (m m2 : MS) (a s : Nat) : Prop := (∀ k, k ≠ 441 → k ≠ 706 → m2.1 k = m.1 k) ∧ (∀ j, j < a → m2.2.2.1 23 j = m.2.2.1 23 j) ∧ (∀ j, j ≤ s → m2.2.2.1 40 j = m.2.2.1 40 j) ∧ ∀ j, j < s → m2.2.2.1 41 j = m.2.2.1 41 j
def UXQ (m0 : MS) (nm : Nat → Nat) (t : SCT) (g : Bool) (k : Nat) (m : MS) (a cm : Nat) (e : List Nat × List Nat × Nat) (m2 : MS) (b cm2 : Nat) (e2 : List Nat × List Nat × Nat) : Prop := XCS m0 nm m2 b cm2 (e2 :: t) g ∧ SOK (e2 :: t) ∧ e.1 <+: e2.1 ∧ tot (e2 :: t) ≤ tot (e :: t) + k ∧ (a ≤ b ∧ cm ≤ cm2) ∧ UFC m m2 a t.length
def UXP (m0 : MS) (nm : Nat → Nat) (t : SCT) (g : Bool) (k : Nat) (m : MS) (a cm : Nat) (e : List Nat × List Nat × Nat) (m2 : MS) : Prop := ∃ (b cm2 : Nat) (e2 : List Nat × List Nat × Nat), UXQ m0 nm t g k m a cm e m2 b cm2 e2
def HUE (N : Nat) (m0 : MS) (T : Nat) (nm : Nat → Nat) (f : Nat) : Prop := ∀ (D o cl n lo hi xa xb q r : Nat) (m : MS) (a cm : Nat) (e : List Nat × List Nat × Nat) (t : SCT) (g lst : Bool), XPcK m0 f o cl n lo hi xa xb q r → xb ≤ 8015 → r ≤ 400 → hi ≤ T → XCS m0 nm m a cm (e :: t) g → SOK (e :: t) → (tot (e :: t) + (hi - lo) ≤ 4000 ∧ (e :: t).length ≤ o + 1) → PK (fun v _ => UXP m0 nm t g (hi - lo) m a cm e v) ((jrc_Cm_fun N D).2.2.2.2.2.2.2.2.2.2.1 m (I (n : Nat)) (lsI lst))
section
variable {α β : Type} {m0 w0 m w m2 w2 m3 w3 v u w1 mS wS : MS} {K nm Nk W W2 : Nat → Nat} {N T D d o a a0 b b0 c cm cm0 cm2 cm3 q q0 r s lo lo0 mid hi i j f f2 n k k2 kk KK p p2 σ tk x xa xb xc mm M m1 lv y cl : Nat} {Q Q0 Q2 Q3 Q4 : Nat → Nat} {sc sc0 sc2 sc3 t t2 : SCT} {e e2 e3 : List Nat × List Nat × Nat} {g lst l2 : Bool} {L L1 L2 : List Nat} {idc fof cvr : Int → Int → Int} {z : Unit} {rt v1 v2 v3 v4 v5 xx : Int32} {fc : MS → Unit → Option (MS × α)} {RU : MS → α → MS → β → Prop} {B : Option (MS × β)} {QU : MS → Prop} {AU : Option (MS × Unit)} {S : SF_Cm_fun}
theorem pu_pk (h : PP (fun v (_ : Unit) (_ : MS) (_ : Unit) => QU v) AU (some (w, ()))) : PK (fun v _ => QU v) AU := fun v r e => h v r w () e rfl
theorem UFC_rf : UFC m m a σ := ⟨fun _ _ _ => rfl, fun _ _ => rfl, fun _ _ => rfl, fun _ _ => rfl⟩
theorem UFC_tr (h : UFC m m2 a σ) (k : UFC m2 m3 b σ) (hab : a ≤ b) : UFC m m3 a σ := ⟨fun j h1 h2 => (k.1 j h1 h2).trans (h.1 j h1 h2), fun j hj => (k.2.1 j (by omega)).trans (h.2.1 j hj), fun j hj => (k.2.2.1 j hj).trans (h.2.2.1 j hj), fun j hj => (k.2.2.2 j hj).trans (h.2.2.2 j hj)⟩
theorem XFC_U (h : XFC m m2 a q r σ) : UFC m m2 a σ := ⟨h.1, h.2.2.1, h.2.2.2.2.1, h.2.2.2.2.2⟩
theorem UXQ_rf (hC : XCS m0 nm m a cm (e :: t) g) (ok : SOK (e :: t)) : UXQ m0 nm t g 0 m a cm e m a cm e := ⟨hC, ok, List.prefix_rfl, Nat.le_refl _, ⟨Nat.le_refl _, Nat.le_refl _⟩, UFC_rf⟩
theorem UXQ_tr (h : UXQ m0 nm t g k m a cm e m2 b cm2 e2) (h2 : UXQ m0 nm t g k2 m2 b cm2 e2 m3 c cm3 e3) : UXQ m0 nm t g (k + k2) m a cm e m3 c cm3 e3 := by
  obtain ⟨-, -, a3, a4, a5, a6⟩ := h
  obtain ⟨b1, b2, b3, b4, b5, b6⟩ := h2
  exact ⟨b1, b2, a3.trans b3, by omega, ⟨by omega, by omega⟩, UFC_tr a6 b6 a5.1⟩
theorem UXQ_mo (h : UXQ m0 nm t g k m a cm e m2 b cm2 e2) (hk : k ≤ k2) : UXQ m0 nm t g k2 m a cm e m2 b cm2 e2 := ⟨h.1, h.2.1, h.2.2.1, by have := h.2.2.2.1; omega, h.2.2.2.2⟩
theorem u_put (h : UXQ m0 nm t g k m a cm e m2 b cm2 e2) (hh : b < 23990 → UXQ m0 nm t g k m a cm e (ptc m2 b xx) (b + 1) cm2 e2 → PP RU (fc (ptc m2 b xx) ()) B) : PP RU (bnd (jm_Co_put N m2 xx) fc) B := by
  obtain ⟨a1, a2, a3, a4, a5, a6⟩ := h
  refine l_put a1.1.2.2.1.1 a1.1.2.2.1.2.2 (fun ha => hh ha ⟨XCS_put a1 ha, a2, a3, a4, ⟨by omega, a5.2⟩, UFC_tr a6 (XFC_U (q := 0) (r := 0) (XFC_put XFC_rf (Nat.le_refl b))) a5.1⟩)
theorem u_leaf (c : CTZ m0 w0 K T nm Nk) (cv : CTV m0 w0 K T) (hC : XCS m0 nm m a cm (e :: t) g) (ok : SOK (e :: t)) (hn : n ≤ 8015) (hlf : LFc m0 n lo) (hl : lo < T) : PK (fun v _ => UXP m0 nm t g 0 m a cm e v) (jm_Cm_expression N S m (I (n : Nat)) v2) := by
  obtain ⟨l16, k1, k4, l17, l18⟩ := lf_7 c hlf (by omega)
  have fr := XCS_fr hC
  have t4 := c.2.1.1.1
  refine pu_pk (w := w0) ?_
  have num : ∀ z : Int32, PP (fun v (_ : Unit) (_ : MS) (_ : Unit) => UXP m0 nm t g 0 m a cm e v) (bnd (jm_Co_put N m 1) (fun u24 r24 => ck (inb (I (n : Nat)) 8016) (bnd (jm_Cm_term N u24 z (u24.2.2.1 18 n)) (fun u31 r31 => jb_Cm_expression_359 N S () u31)))) (some (w0, ())) := fun z => by
    refine u_put (UXQ_rf hC ok) (fun _ h1 => l_ck (fun _ => ?_))
    unfold jm_Cm_term jb_Cm_term_0
    rw [bnd_as2]
    refine u_put h1 (fun _ h2 => ?_)
    rw [bnd_as2]
    refine u_put h2 (fun _ h3 => ?_)
    rw [bnd_s]
    exact pp_end ⟨_, _, _, h3⟩
  by_cases z1 : K lo = 1
  · exact exd_1 hn (tre fr (by decide) (v := 1) (l16.trans (by rw [z1]; rfl))) (num 0)
  by_cases z2 : K lo = 2
  · exact exd_2 hn (tre fr (by decide) (v := 2) (l16.trans (by rw [z2]; rfl))) (num 1)
  by_cases z3 : K lo = 3
  · obtain ⟨c7, -, cx, cu⟩ := c.2.2.2 lo hl z3
    have e18 : m.2.2.1 18 n = I (nm (Nk lo) : Nat) := by
      rw [tre fr (by decide) l18]
      show I (m0.2.2.1 7 lo).toInt = _
      rw [← I_of, c7]
    have e17 : m.2.2.1 17 n = I (lo : Nat) := tre fr (by decide) l17
    have nb := c.2.2.1.2 (Nk lo)
    refine exd_3 hn (tre fr (by decide) (v := 3) (l16.trans (by rw [z3]; rfl))) (l_ck (fun _ => ?_))
    have flt : ∀ (u : MS), PP (fun v (_ : Unit) (_ : MS) (_ : Unit) => UXP m0 nm t g 0 m a cm e v) (jb_Cm_expression_221 N S () u (I (n : Nat)) (I (lo : Nat))) (some (w0, ())) := fun u => by
      unfold jb_Cm_expression_221
      exact l_flt (tk := lo) (k := 5) rfl rfl (by omega) (by decide)
    rw [e18, e17]
    by_cases z0 : nm (Nk lo) = 0
    · rw [z0, show decide (I ((0 : Nat) : Int) = (0 : Int32)) = true from rfl, br_tq]
      exact flt m
    rw [decide_eq_false (fun z => z0 (by
      have := (I_eq (x := ((nm (Nk lo) : Nat) : Int)) (y := 0) (by omega) (by omega) (by decide) (by decide)).mp z
      omega)), br_fq]
    refine l_ck (fun _ => l_bnd (pk_mo (isB_all c.2.2.1 hC.1.2.1 ok cx (by omega)) (fun v r h => ?_)))
    rcases h with ⟨h1, h2, h3⟩ | ⟨h1, h2, h3⟩
    · rw [h1, show decide ((0 : Int32) = 0) = true from rfl, br_tq]
      exact flt v
    rw [h1, show decide ((1 : Int32) = 0) = false from rfl, br_fq]
    unfold jb_Cm_expression_227 jb_Cm_expression_359
    have hv : UXQ m0 nm t g 0 m a cm e v a cm e := by
      rw [h3]
      exact ⟨⟨PCS_42 hC.1, hC.2⟩, ok, List.prefix_rfl, Nat.le_refl _, ⟨Nat.le_refl _, Nat.le_refl _⟩, ⟨fun _ _ _ => rfl, fun j _ => by rw [upA_no (by decide)], fun j _ => by rw [upA_no (by decide)], fun j _ => by rw [upA_no (by decide)]⟩⟩
    refine u_put hv (fun _ h1 => l_ck (fun _ => u_put h1 (fun _ h2 => ?_)))
    exact pp_end ⟨_, _, _, h2⟩
  · obtain ⟨fr0, s0, b, l, s1, s2, s3, s4, s5, s6, s7, s8, s9⟩ := (cv lo hl).2.2 (show K lo = 4 by omega)
    refine exd_4 hn (tre fr (by decide) (v := 4) (l16.trans (by rw [show K lo = 4 by omega]; rfl))) ?_
    refine l_ntg (tk := lo) hC.2 (tre fr (by decide) l17) (by omega) (fun hg => ?_)
    refine u_put (UXQ_rf hC ok) (fun _ h1 => ?_)
    have e18 : A m0 18 n = ((fr0 : Nat) : Int) := by
      rw [l18]
      show (m0.2.2.1 7 lo).toInt = _
      rw [s1]
      exact I_ti (by omega) (by omega)
    refine l_bnd (pk_mo (cs_p h1.1.1 (by omega) e18 s6 s7 s8 s9) (fun m2 _ h => ?_))
    obtain ⟨p1, p2, p3, p4, p5⟩ := h
    have hm2 : XCS m0 nm m2 (a + 1 + 1 + l) cm (e :: t) g := ⟨p1, by rw [p2.1 712 (by decide) (by decide)]; exact h1.1.2⟩
    unfold jb_Cm_expression_359
    refine pp_end ⟨_, _, _, UXQ_tr h1 (k2 := 0) ⟨hm2, ok, List.prefix_rfl, Nat.le_refl _, ⟨by omega, Nat.le_refl _⟩, XFC_U (q := 0) (r := 0) (XFC_P p2)⟩⟩
theorem u_row (IE : HUE N m0 T nm f) (hxb : xb ≤ 8015) (hr4 : r ≤ 400) (hiT : hi ≤ T) (htot : tot (e :: t) + KK ≤ 4000 ∧ (e :: t).length ≤ o + 1) (hh : ∀ m3 c cm3 e3, UXQ m0 nm t g KK m a cm e m3 c cm3 e3 → PP RU (fc m3 ()) B) : ∀ (k n lo xa q M kk : Nat) (m2 : MS) (b cm2 : Nat) (e2 : List Nat × List Nat × Nat), RWcK m0 1 26 (XPcK m0 f o 3) k n lo hi xa xb q r → UXQ m0 nm t g kk m a cm e m2 b cm2 e2 → kk + (hi - lo) ≤ KK → PP RU (bnd (jg_Cm_row N (jrc_Cm_fun N D) M m2 (I (n : Nat))) fc) B
  | 0, n, lo, xa, q, M, kk, m2, b, cm2, e2, h, hX, hk => h.elim
  | k + 1, n, lo, xa, q, M, kk, m2, b, cm2, e2, h, hX, hk => by
    obtain ⟨mid, c1, s, hE, h⟩ := h
    have hd := XP_bdK _ _ _ _ _ _ _ _ _ _ hE
    unfold HDc at hd
    have hms : mid ≤ hi ∧ c1 ≤ xb ∧ s ≤ r := by
      rcases h with ⟨-, -, rfl, rfl, rfl⟩ | ⟨⟨-, k27⟩, n2, -, hw⟩
      · exact ⟨Nat.le_refl _, Nat.le_refl _, Nat.le_refl _⟩
      · have := (RW_hdK (XP_bdK _ _ _) hw).1
        unfold HDc at this
        exact ⟨by omega, by omega, by omega⟩
    have el : (e2 :: t).length = (e :: t).length := rfl
    have tt := hX.2.2.2.1
    have o1 : 1 ≤ n ∧ n ≤ 8015 ∧ c1 ≤ 8015 ∧ s ≤ 400 ∧ mid ≤ T ∧ tot (e2 :: t) + (mid - lo) ≤ 4000 := by clear h; exact ⟨by omega, by omega, by omega, by omega, by omega, by omega⟩
    refine row_s ⟨o1.1, o1.2.1⟩ (fun M => l_bnd (pk_mo (IE D o 3 n lo mid xa c1 q s m2 b cm2 e2 t g false hE o1.2.2.1 o1.2.2.2.1 o1.2.2.2.2.1 hX.1 hX.2.1 ⟨o1.2.2.2.2.2, by rw [el]; exact htot.2⟩) (fun m3 z hz => ?_)))
    obtain ⟨b3, cm3, e3, h3⟩ := hz
    have hX3 := UXQ_tr hX h3
    have fr3 := XCS_fr hX3.1
    rcases h with ⟨rfl, h21, rfl, rfl, rfl⟩ | ⟨⟨hk1, hk27⟩, n2, h21, hw⟩
    · rw [tre fr3 (by decide) h21]
      exact row_0 (hh m3 b3 cm3 e3 (UXQ_mo hX3 (by omega)))
    · have hw1 := (RW_hdK (XP_bdK _ _ _) hw).1
      unfold HDc at hw1
      rw [tre fr3 (by decide) h21]
      exact u_row IE hxb hr4 hiT htot hh k n2 (mid + 1) c1 s M (kk + (mid - lo)) m3 b3 cm3 e3 hw hX3 (by omega)
theorem u_orow (IE : HUE N m0 T nm f) (hE : ORcK m0 1 26 (XPcK m0 f o 3) k n lo hi xa xb q r) (hxb : xb ≤ 8015) (hr4 : r ≤ 400) (hiT : hi ≤ T) (hX : UXQ m0 nm t g kk m a cm e m2 b cm2 e2) (hk : kk + (hi - lo) ≤ KK) (htot : tot (e :: t) + KK ≤ 4000 ∧ (e :: t).length ≤ o + 1) (hh : ∀ m3 c cm3 e3, UXQ m0 nm t g KK m a cm e m3 c cm3 e3 → PP RU (fc m3 ()) B) : PP RU (bnd (jg_Cm_row N (jrc_Cm_fun N D) M m2 (I (n : Nat))) fc) B := by
  rcases hE with ⟨-, rfl, -, -, -⟩ | ⟨-, hE⟩
  · exact row_0 (hh m2 b cm2 e2 (UXQ_mo hX (by omega)))
  · exact u_row IE hxb hr4 hiT htot hh k n lo xa q M kk m2 b cm2 e2 hE hX hk
theorem u_grp (IE : HUE N m0 T nm f) (hC : XCS m0 nm m a cm (e :: t) g) (ok : SOK (e :: t)) (hn : n ≤ 8015) (h16 : A m0 16 n = 5) (h18 : A m0 18 n = ((x : Nat) : Int)) (hE : XPcK m0 f (o + 1) 3 x (lo + 1) (hi - 1) xa xb q r) (hx8 : x ≤ 8015) (hxb : xb ≤ 8015) (hr4 : r ≤ 400) (hiT : hi ≤ T) (hlh : lo + 2 ≤ hi) (htot : tot (e :: t) + (hi - lo) ≤ 4000 ∧ (e :: t).length ≤ o + 1) : PK (fun v _ => UXP m0 nm t g (hi - lo) m a cm e v) (jm_Cm_expression N (jrc_Cm_fun N D) m (I (n : Nat)) (lsI lst)) := by
  have fr := XCS_fr hC
  refine pu_pk (w := m0) (exd_5 hn (tre fr (by decide) h16) (l_ck (fun _ => ?_)))
  rw [tre fr (by decide) h18]
  refine l_bnd (pk_mo (IE D (o + 1) 3 x (lo + 1) (hi - 1) xa xb q r m a cm e t g lst hE hxb hr4 (by omega) hC ok ⟨by omega, by omega⟩) (fun m3 z hz => ?_))
  obtain ⟨b3, cm3, e3, h3⟩ := hz
  unfold jb_Cm_expression_359
  exact pp_end ⟨_, _, _, UXQ_mo h3 (by omega)⟩
theorem u_tup (IE : HUE N m0 T nm f) (hC : XCS m0 nm m a cm (e :: t) g) (ok : SOK (e :: t)) (hn : n ≤ 8015) (h16 : A m0 16 n = 6) (hT : TUcK m0 (XPcK m0 f (o + 1) 3) n lo hi xa q r) (hr4 : r ≤ 400) (hlh : lo + 2 ≤ hi) (hiT : hi ≤ T) (htot : tot (e :: t) + (hi - lo) ≤ 4000 ∧ (e :: t).length ≤ o + 1) : PK (fun v _ => UXP m0 nm t g (hi - lo) m a cm e v) (jm_Cm_expression N (jrc_Cm_fun N D) m (I (n : Nat)) (lsI lst)) := by
  obtain ⟨k, m1, c1, h18, h19, ⟨hk8, h6, h6b⟩, hE, hc1⟩ := hT
  have fr := XCS_fr hC
  refine pu_pk (w := m0) (exd_6 hn (tre fr (by decide) h16) (l_ck (fun _ => ?_)))
  rw [tre fr (by decide) h18]
  cases D with
  | zero => exact pp_nl
  | succ D =>
  show PP _ (bnd (jg_Cm_row N (jrc_Cm_fun N D) N m (I (m1 : Nat))) _) _
  refine u_orow (KK := hi - lo) IE hE (by omega) hr4 (by omega) (UXQ_rf hC ok) (by omega) ⟨by omega, by omega⟩ (fun m3 c3 cm3 e3 h3 => ?_)
  refine u_put h3 (fun _ h4 => l_ck (fun _ => u_put h4 (fun _ h5 => ?_)))
  unfold jb_Cm_expression_359
  exact pp_end ⟨_, _, _, h5⟩
end
end
section
set_option maxRecDepth 100000
section
variable {α β : Type} {m0 w0 m w m2 w2 m3 w3 v u w1 mS wS : MS} {K nm Nk W W2 : Nat → Nat} {N T D d o a a0 b b0 c cm cm0 cm2 cm3 q q0 r s lo lo0 mid hi i j f f2 n k k2 kk KK p p2 σ tk x xa xb xc mm M m1 lv y cl l2 : Nat} {Q Q0 Q2 Q3 Q4 : Nat → Nat} {sc sc0 sc2 sc3 t t2 : SCT} {e e2 e3 : List Nat × List Nat × Nat} {g lst : Bool} {L L1 L2 : List Nat} {idc fof cvr : Int → Int → Int} {z : Unit} {rt v1 v2 v3 v4 v5 v6 xx : Int32} {fc : MS → Unit → Option (MS × α)} {RU : MS → α → MS → β → Prop} {B : Option (MS × β)} {QU : MS → Prop} {AU : Option (MS × Unit)} {S : SF_Cm_fun}
theorem UXQ_nu (h : UXQ m0 nm t g k m a cm e m2 b cm2 e2) : tot (e2 :: t) ≤ tot (e :: t) + k := h.2.2.2.1
theorem u_fg (h : UXQ m0 nm t g k m a cm e m2 b cm2 e2) (ok : SOK (e :: t)) (hh : ∀ m3 b3, UXQ m0 nm t g 0 m a cm e m3 b3 cm2 e → PP RU (fc m3 ()) B) : PP RU (bnd (jm_Cm_forget N m2 (I (tot (e :: t) : Nat))) fc) B := by
  obtain ⟨a2, -, n1, -, a5, a6⟩ := h
  have le := n1.length_le
  have e706 : m2.1 706 = I (tot (e2 :: t) : Nat) := a2.1.2.1.2.2.1
  have t4k : tot (e2 :: t) ≤ 4000 := a2.1.2.1.2.2.2.1
  have et : tot (e2 :: t) = tot t + e2.1.length := rfl
  have et0 : tot (e :: t) = tot t + e.1.length := rfl
  show PP RU (bnd (jb_Cm_forget_0 N () m2 (I (tot (e :: t) : Nat))) fc) B
  unfold jb_Cm_forget_0 jb_Cm_forget_30
  rw [e706, decI (by omega) (by omega) (by omega) (by omega)]
  by_cases z : e2.1.length ≤ e.1.length
  · have ee : e2.1 = e.1 := (n1.eq_of_length (by omega)).symm
    rw [decide_eq_true (by omega), br_tq, lt_e, bnd_s]
    have : upI m2 706 (I (tot (e :: t) : Nat)) = m2 := upI_id (by rw [e706, et, et0, ee])
    rw [this]
    refine hh m2 b ⟨?_, ok, List.prefix_rfl, Nat.le_refl _, a5, a6⟩
    obtain ⟨f1, f2⟩ := e2
    obtain ⟨g1, g2⟩ := e
    have ee : f1 = g1 := ee
    subst ee
    exact a2
  · rw [decide_eq_false (by omega), br_fq]
    have s1 : ∀ x, (ptc m2 b x).1 706 - I (tot (e :: t) : Nat) = I ((e2.1.length - e.1.length : Nat) : Int) := fun x => by
      rw [ptc_i (by decide), e706, I_sub]
      congr 1
      omega
    rw [bnd_as2]
    refine l_put a2.1.2.2.1.1 a2.1.2.2.1.2.2 (fun ha => ?_)
    have c1 := XCS_put (x := 16) a2 ha
    rw [s1, bnd_as2]
    refine l_put c1.1.2.2.1.1 c1.1.2.2.1.2.2 (fun ha1 => ?_)
    have c2 := XCS_put (x := I ((e2.1.length - e.1.length : Nat) : Int)) c1 ha1
    rw [lt_e, bnd_s]
    have fx : UFC m (ptc (ptc m2 b 16) (b + 1) (I ((e2.1.length - e.1.length : Nat) : Int))) a t.length := UFC_tr a6 (XFC_U (q := 0) (r := 0) (XFC_put (XFC_put XFC_rf (Nat.le_refl b)) (by omega))) a5.1
    generalize ptc (ptc m2 b 16) (b + 1) (I ((e2.1.length - e.1.length : Nat) : Int)) = m4 at c2 fx
    have cc : XCS m0 nm (upI m4 706 (I (tot (e :: t) : Nat))) (b + 2) cm2 (e :: t) g := by
      obtain ⟨⟨p1, p2, p3, p4, p5, p6, p7⟩, p8⟩ := c2
      obtain ⟨q1, q2, q3⟩ := p2.2.2.2.2
      refine ⟨⟨⟨fun k hk => by rw [upI_ne (by omega)]; exact p1.1 k hk, p1.2⟩, ⟨by rw [upI_ne (by decide)]; exact p2.1, p2.2.1, by rw [upI_at], by omega, ⟨q1, fun k x hk => q2 k x (pre_getd n1 hk), CNl_fr q3 rfl (fun _ _ => rfl)⟩⟩, ⟨by rw [upI_ne (by decide)]; exact p3.1, p3.2⟩, by rw [upI_ne (by decide)]; exact p4, p5, p6, ?_⟩, by rw [upI_ne (by decide)]; exact p8⟩
      have p7 : e2.1.length ≤ cm2 := p7
      show e.1.length ≤ cm2
      omega
    refine hh _ (b + 2) ⟨cc, ok, List.prefix_rfl, Nat.le_refl _, ⟨by omega, a5.2⟩, ⟨fun k k1 k2 => by rw [upI_ne k2]; exact fx.1 k k1 k2, fx.2⟩⟩
theorem u_57 (h : UXQ m0 nm t g k m a cm e m2 b cm2 e2) (hn : n ≤ 8015) {RU : MS → Unit → MS → β → Prop} (hh : ∀ m3 b3, UXQ m0 nm t g k m a cm e m3 b3 cm2 e2 → PP RU (some (m3, ())) B) : PP RU (jb_Cm_list_57 N S () m2 (I (n : Nat))) B := by
  unfold jb_Cm_list_57 jb_Cm_list_93
  exact l_ck (fun _ => l_br (fun _ => hh _ _ h) (fun _ => u_put h (fun _ h1 => l_ck (fun _ => u_put h1 (fun _ h2 => hh _ _ h2)))))
theorem u_lst (IE : HUE N m0 T nm f) (hC : XCS m0 nm m a cm (e :: t) g) (ok : SOK (e :: t)) (hn : n ≤ 8015) (h16 : A m0 16 n = 7) (hT : TLcK m0 (XPcK m0 f (o + 1) 3) n lo hi xa q r) (hr4 : r ≤ 400) (hiT : hi ≤ T) (htot : tot (e :: t) + (hi - lo) ≤ 4000 ∧ (e :: t).length ≤ o + 1) : PK (fun v _ => UXP m0 nm t g (hi - lo) m a cm e v) (jm_Cm_expression N (jrc_Cm_fun N D) m (I (n : Nat)) (lsI lst)) := by
  obtain ⟨k, m1, mid, c1, s1, h18, h19, ⟨hk8, h6, h6b⟩, hE, hT⟩ := hT
  have fr := XCS_fr hC
  have bd : lo < mid ∧ mid < hi ∧ c1 ≤ n ∧ s1 ≤ r := by
    have h1 := OR_hdK (XP_bdK _ _ _) hE
    rcases hT with ⟨-, h2, h3, h4⟩ | ⟨-, x, c2, -, hx, h2⟩
    · omega
    · have := xp_hd hx
      omega
  refine pu_pk (w := m0) (exd_7 hn (tre fr (by decide) h16) (l_id ?_))
  cases D with
  | zero => exact pp_nl
  | succ D =>
  show PP _ (jb_Cm_list_0 N (jrc_Cm_fun N D) () m (I (n : Nat))) _
  unfold jb_Cm_list_0
  refine l_ck (fun _ => ?_)
  rw [i_nt2 (show n ≤ 100000 by omega), tre fr (by decide) h18]
  cases D with
  | zero => exact pp_nl
  | succ D =>
  show PP _ (bnd (jg_Cm_row N (jrc_Cm_fun N D) N m (I (m1 : Nat))) _) _
  refine u_orow (KK := mid - lo) IE hE (by omega) (by omega) (by omega) (UXQ_rf hC ok) (by omega) ⟨by omega, by omega⟩ (fun m3 c3 cm3 e3 h3 => ?_)
  have fr3 := XCS_fr h3.1
  refine l_ck (fun _ => ?_)
  have nu := UXQ_nu h3
  rcases hT with ⟨h20, hh, hs, h4⟩ | ⟨hh, x, c2, h20, hx, h2⟩
  · rw [tre fr3 (by decide) h20, show decide (I 0 = (0 : Int32)) = true from rfl, br_tq]
    refine u_put h3 (fun _ h5 => ?_)
    unfold jm_Cm_term jb_Cm_term_0
    rw [bnd_as2]
    refine u_put h5 (fun _ h6 => ?_)
    rw [bnd_as2]
    refine u_put h6 (fun _ h7 => ?_)
    rw [bnd_s]
    exact u_57 (UXQ_mo h7 (by omega)) hn (fun m3 b3 h8 => pp_end ⟨_, _, _, h8⟩)
  · have hd := xp_hd hx
    rw [tre fr3 (by decide) h20, decide_eq_false (fun z => by
      have := (I_eq (x := ((x : Nat) : Int)) (y := 0) (by omega) (by omega) (by decide) (by decide)).mp z
      omega), br_fq]
    refine l_ck (fun _ => ?_)
    refine l_bnd (pk_mo (IE (D + 1) (o + 1) 3 x (mid + 1) (hi - 1) c1 c2 s1 r m3 c3 cm3 e3 t g false hx (by omega) hr4 (by omega) h3.1 h3.2.1 ⟨by omega, by show t.length + 1 ≤ _; have : t.length + 1 ≤ o + 1 := htot.2; omega⟩) (fun m4 z hz => ?_))
    obtain ⟨b4, cm4, e4, h4⟩ := hz
    exact u_57 (UXQ_mo (UXQ_tr h3 h4) (by omega)) hn (fun m3 b3 h8 => pp_end ⟨_, _, _, h8⟩)
theorem u_call (cx : CVX N m0 w0 K T idc fof cvr) (IE : HUE N m0 T nm f) (hC : XCS m0 nm m a cm (e :: t) g) (ok : SOK (e :: t)) (hn : n ≤ 8015) (h16 : A m0 16 n = 14) (h17 : A m0 17 n = ((lo : Nat) : Int)) (h19 : A m0 19 n = ((m1 : Nat) : Int)) (h20 : A m0 20 n = ((k : Nat) : Int)) (hk6 : k ≤ 6) (hE : ORcK m0 1 26 (XPcK m0 f o 3) k m1 (lo + 2) (hi - 1) xa xb q r) (hxb : xb ≤ 8015) (hlh : lo + 3 ≤ hi) (hr4 : r ≤ 400) (hl4 : lo ≤ 4000) (hiT : hi ≤ T) (htot : tot (e :: t) + (hi - lo) ≤ 4000 ∧ (e :: t).length ≤ o + 1) : PK (fun v _ => UXP m0 nm t g (hi - lo) m a cm e v) (jm_Cm_expression N (jrc_Cm_fun N D) m (I (n : Nat)) (lsI lst)) := by
  have fr := XCS_fr hC
  refine pu_pk (w := m0) (exd_14 hn (tre fr (by decide) h16) (l_id ?_))
  cases D with
  | zero => exact pp_nl
  | succ D =>
  show PP _ (jb_Cm_call_0 N (jrc_Cm_fun N D) () m (I (n : Nat)) (lsI lst)) _
  have e96 : ∀ v3 v4 v5 v6, PP (fun v (_ : Unit) (_ : MS) (_ : Unit) => UXP m0 nm t g (hi - lo) m a cm e v) (jb_Cm_call_96 N (jrc_Cm_fun N D) () m (I (n : Nat)) (lsI lst) v3 v4 v5 v6) (some (m0, ())) := fun v3 v4 v5 v6 => by
    unfold jb_Cm_call_96
    refine l_ck (fun _ => ?_)
    rw [i_nt2 (show n ≤ 100000 by omega), tre fr (by decide) h19]
    cases D with
    | zero => exact pp_nl
    | succ D =>
    show PP _ (bnd (jg_Cm_row N (jrc_Cm_fun N D) N m (I (m1 : Nat))) _) _
    refine u_orow (KK := hi - lo) IE hE hxb hr4 (by omega) (UXQ_rf hC ok) (by omega) htot (fun m3 c3 cm3 e3 h3 => ?_)
    have a198 : ∀ t1, PP (fun v (_ : Unit) (_ : MS) (_ : Unit) => UXP m0 nm t g (hi - lo) m a cm e v) (jb_Cm_call_198 N (jrc_Cm_fun N (D + 1)) () m3 v3 v4 v6 t1) (some (m0, ())) := fun t1 => by
      unfold jb_Cm_call_198
      exact u_put h3 (fun _ h4 => u_put h4 (fun _ h5 => u_put h5 (fun _ h6 => l_ck (fun _ => u_put h6 (fun _ h7 => pp_end ⟨_, _, _, h7⟩)))))
    have a170 : ∀ t1, PP (fun v (_ : Unit) (_ : MS) (_ : Unit) => UXP m0 nm t g (hi - lo) m a cm e v) (jb_Cm_call_170 N (jrc_Cm_fun N (D + 1)) () m3 v5 t1) (some (m0, ())) := fun t1 => by
      unfold jb_Cm_call_170
      exact u_put h3 (fun _ h4 => u_put h4 (fun _ h5 => pp_end ⟨_, _, _, h5⟩))
    have a152 : ∀ t0, PP (fun v (_ : Unit) (_ : MS) (_ : Unit) => UXP m0 nm t g (hi - lo) m a cm e v) (jb_Cm_call_152 N (jrc_Cm_fun N (D + 1)) () m3 v5 t0) (some (m0, ())) := fun t0 => by
      unfold jb_Cm_call_152
      exact l_br (fun _ => a170 _) (fun _ => a170 _)
    unfold jb_Cm_call_147
    exact l_br (fun _ => l_br (fun _ => a198 _) (fun _ => a198 _)) (fun _ => l_br (fun _ => a152 _) (fun _ => l_br (fun _ => a152 _) (fun _ => l_br (fun _ => a152 _) (fun _ => l_br (fun _ => a152 _) (fun _ => l_br (fun _ => a152 _) (fun _ => a152 _))))))
  have e91 : ∀ v4 v5 v6, PP (fun v (_ : Unit) (_ : MS) (_ : Unit) => UXP m0 nm t g (hi - lo) m a cm e v) (jb_Cm_call_91 N (jrc_Cm_fun N D) () m (I (n : Nat)) (lsI lst) (I (lo : Nat)) v4 v5 v6) (some (m0, ())) := fun v4 v5 v6 => by
    unfold jb_Cm_call_91
    exact l_ntg (tk := lo) hC.2 rfl (by omega) (fun _ => e96 _ _ _ _)
  have e77 : ∀ v4 v5 v6, PP (fun v (_ : Unit) (_ : MS) (_ : Unit) => UXP m0 nm t g (hi - lo) m a cm e v) (jb_Cm_call_77 N (jrc_Cm_fun N D) () m (I (n : Nat)) (lsI lst) (I (lo : Nat)) v4 v5 v6) (some (m0, ())) := fun v4 v5 v6 => by
    unfold jb_Cm_call_77
    exact l_br (fun _ => e91 _ _ _) (fun _ => l_br (fun _ => e96 _ _ _ _) (fun _ => e91 _ _ _))
  have e18 : A m0 18 n = A m0 18 n := rfl
  unfold jb_Cm_call_0
  rw [i_nt2 (show n ≤ 100000 by omega), tre fr (by decide) e18, tre fr (by decide) h20, tre fr (by decide) h17]
  refine l_ck (fun _ => l_ck (fun _ => l_ck (fun _ => l_bnd (pk_mo (cx.1 m (A m0 18 n) ((k : Nat) : Int) fr) (fun v r h2 => ?_)))))
  rw [h2.1, h2.2]
  refine l_ck (fun _ => ?_)
  rw [tre fr (by decide) e18]
  refine l_seek cx fr ?_
  exact l_br (fun _ => l_br (fun _ => l_flt (tk := lo) (k := 6) rfl rfl (by omega) (by decide)) (fun _ => e77 _ _ _)) (fun _ => e77 _ _ _)
theorem u_fof (cx : CVX N m0 w0 K T idc fof cvr) (hC : XCS m0 nm m a cm (e :: t) g) (ok : SOK (e :: t)) (hn : n ≤ 8015) (h16 : A m0 16 n = 13) (h17 : A m0 17 n = ((lo : Nat) : Int)) (hl4 : lo ≤ 4000) : PK (fun v _ => UXP m0 nm t g k m a cm e v) (jm_Cm_expression N (jrc_Cm_fun N D) m (I (n : Nat)) (lsI lst)) := by
  have fr := XCS_fr hC
  refine pu_pk (w := m0) (exd_13 hn (tre fr (by decide) h16) (l_id ?_))
  cases D with
  | zero => exact pp_nl
  | succ D =>
  show PP _ (jm_Cm_compound N (jrc_Cm_fun N D) m (I (n : Nat)) (lsI lst)) _
  refine cmd_13 (tk := lo) hn (tre fr (by decide) h16) hC.2 (tre fr (by decide) h17) (by omega) (fun hg => l_id ?_)
  unfold jm_Cm_funOf jb_Cm_funOf_0 jb_Cm_funOf_48
  have e18 : A m0 18 n = A m0 18 n := rfl
  have e19 : A m0 19 n = A m0 19 n := rfl
  rw [i_nt2 (show n ≤ 100000 by omega), tre fr (by decide) e18, tre fr (by decide) e19]
  refine l_ck (fun _ => l_ck (fun _ => l_seek cx fr ?_))
  have fin : PP (fun v (_ : Unit) (_ : MS) (_ : Unit) => UXP m0 nm t g k m a cm e v) (bnd (jm_Co_put N m 7) (fun u50 _ => bnd (jm_Co_put N u50 (I (fof (A m0 18 n) (A m0 19 n)))) (fun u53 _ => some (u53, ())))) (some (m0, ())) :=
    u_put (UXQ_mo (UXQ_rf hC ok) (Nat.zero_le k)) (fun _ h4 => u_put h4 (fun _ h5 => pp_end ⟨_, _, _, h5⟩))
  refine l_br (fun _ => l_ck (fun _ => ?_)) (fun _ => fin)
  rw [tre fr (by decide) h17, i_suc]
  exact l_flt (tk := lo + 1) (k := 6) rfl rfl (by omega) (by decide)
theorem u_neg (IE : HUE N m0 T nm f) (hC : XCS m0 nm m a cm (e :: t) g) (ok : SOK (e :: t)) (hn : n ≤ 8015) (h16 : A m0 16 n = 17 ∨ A m0 16 n = 18) (h18 : A m0 18 n = ((x : Nat) : Int)) (hE : XPcK m0 f (o + 1) 1 x (lo + 1) hi xa xb q r) (hxb : xb ≤ 8015) (hr4 : r ≤ 400) (hiT : hi ≤ T) (htot : tot (e :: t) + (hi - lo) ≤ 4000 ∧ (e :: t).length ≤ o + 1) : PK (fun v _ => UXP m0 nm t g (hi - lo) m a cm e v) (jm_Cm_expression N (jrc_Cm_fun N D) m (I (n : Nat)) (lsI lst)) := by
  have fr := XCS_fr hC
  have c33 : ∀ D, PP (fun v (_ : Unit) (_ : MS) (_ : Unit) => UXP m0 nm t g (hi - lo) m a cm e v) (jb_Cm_compound_33 N (jrc_Cm_fun N D) () m (I (n : Nat))) (some (m0, ())) := fun D => by
    unfold jb_Cm_compound_33 jb_Cm_compound_72
    refine l_ck (fun _ => ?_)
    rw [i_nt2 (show n ≤ 100000 by omega), tre fr (by decide) h18]
    refine l_bnd (pk_mo (IE D (o + 1) 1 x (lo + 1) hi xa xb q r m a cm e t g false hE hxb hr4 hiT hC ok ⟨by omega, by omega⟩) (fun m3 z hz => ?_))
    obtain ⟨b3, cm3, e3, h3⟩ := hz
    have h3 := UXQ_mo (k2 := hi - lo) h3 (by omega)
    exact l_ck (fun _ => l_br (fun _ => u_put h3 (fun _ h4 => pp_end ⟨_, _, _, h4⟩)) (fun _ => u_put h3 (fun _ h4 => pp_end ⟨_, _, _, h4⟩)))
  rcases h16 with h16 | h16
  · refine pu_pk (w := m0) (exd_17 hn (tre fr (by decide) h16) (l_id ?_))
    cases D with
    | zero => exact pp_nl
    | succ D =>
    show PP _ (jm_Cm_compound N (jrc_Cm_fun N D) m (I (n : Nat)) (lsI lst)) _
    exact cmd_17 hn (tre fr (by decide) h16) (c33 D)
  · refine pu_pk (w := m0) (exd_18 hn (tre fr (by decide) h16) (l_id ?_))
    cases D with
    | zero => exact pp_nl
    | succ D =>
    show PP _ (jm_Cm_compound N (jrc_Cm_fun N D) m (I (n : Nat)) (lsI lst)) _
    exact cmd_18 hn (tre fr (by decide) h16) (c33 D)
end
end
section
set_option maxRecDepth 100000
section
variable {α β : Type} {m0 w0 m w m2 w2 m3 w3 m4 v u w1 mS wS : MS} {K nm Nk W W2 : Nat → Nat} {N T D d o a a0 a2 b b0 c cm cm0 cm2 cm3 cm4 q q0 r s lo lo0 mid hi i j f f2 n k k2 kk KK p p2 σ tk x xa xb xc mm M m1 lv y cl l2 : Nat} {Q Q0 Q2 Q3 Q4 : Nat → Nat} {sc sc0 sc2 sc3 t t2 : SCT} {e e2 e3 e4 : List Nat × List Nat × Nat} {g lst : Bool} {L L1 L2 hs : List Nat} {idc fof cvr : Int → Int → Int} {z : Unit} {rt v1 v2 v3 v4 v5 v6 xx : Int32} {fc : MS → Unit → Option (MS × α)} {RU : MS → α → MS → β → Prop} {B : Option (MS × β)} {QU : MS → Prop} {AU : Option (MS × Unit)} {S : SF_Cm_fun}
theorem u_arr (h : UXQ m0 nm t g k m a cm e m4 b cm4 e4) (hk : HKc m4 hs v1) (ha : ∀ j, j ∈ hs → a ≤ j) (hh : ∀ Z, UXQ m0 nm t g k m a cm e Z b cm4 e4 → HKz m4 Z hs b → PP RU (fc Z ()) B) : PP RU (bnd (hm_Co_arrive N m4 v1) fc) B := by
  obtain ⟨a1, a2, a3, a4, a5, a6⟩ := h
  refine arr_n a1 hk (fun Z hZ hZC => hh Z ⟨hZC, a2, a3, a4, a5, ?_⟩ hZ)
  obtain ⟨z1, z2, z3, z4, z5⟩ := hZ
  exact ⟨fun k k1 k2 => by rw [z1]; exact a6.1 k k1 k2, fun j hj => (z4 j (fun y => by have := ha j y; omega)).trans (a6.2.1 j hj), fun j hj => by rw [z2 40 (by decide)]; exact a6.2.2.1 j hj, fun j hj => by rw [z2 41 (by decide)]; exact a6.2.2.2 j hj⟩
theorem u_hook {fc : MS → Int32 → Option (MS × α)} (h : UXQ m0 nm t g k m a cm e m2 b cm2 e2) (hh : b < 23990 → UXQ m0 nm t g k m a cm e (ptc m2 b xx) (b + 1) cm2 e2 → PP RU (fc (ptc m2 b xx) (I (b : Nat))) B) : PP RU (bnd (jm_Co_hook N m2 xx) fc) B := by
  unfold jm_Co_hook jb_Co_hook_0
  rw [bnd_as2]
  refine u_put h (fun hb h1 => ?_)
  have e441 : (ptc m2 b xx).1 441 = I ((b + 1 : Nat) : Int) := h1.1.1.2.2.1.1
  rw [bnd_s, e441, I_sn]
  exact hh hb h1
theorem u_bod (IE : HUE N m0 T nm f) (hxb : xb ≤ 8015) (hr4 : r ≤ 400) (hiT : hi ≤ T) (htot : tot (e :: t) + KK ≤ 4000 ∧ (e :: t).length ≤ o + 1) : ∀ (k n lo xa q kf kk : Nat) (m2 : MS) (b cm2 : Nat) (e2 : List Nat × List Nat × Nat), RWcK m0 1 26 (XPcK m0 f o 3) k n lo hi xa xb q r → UXQ m0 nm t g kk m a cm e m2 b cm2 e2 → kk + (hi - lo) ≤ KK → PP (fun v (_ : Unit) (_ : MS) (_ : Unit) => UXP m0 nm t g KK m a cm e v) (jg_Cm_body N (jrc_Cm_fun N D) kf m2 (lsI lst) (I (n : Nat))) (some (m0, ()))
  | 0, n, lo, xa, q, kf, kk, m2, b, cm2, e2, h, hX, hk => h.elim
  | k + 1, n, lo, xa, q, kf, kk, m2, b, cm2, e2, h, hX, hk => by
    obtain ⟨mid, c1, s, hE, h⟩ := h
    have hd := XP_bdK _ _ _ _ _ _ _ _ _ _ hE
    unfold HDc at hd
    have hms : mid ≤ hi ∧ c1 ≤ xb ∧ s ≤ r := by
      rcases h with ⟨-, -, rfl, rfl, rfl⟩ | ⟨⟨-, k27⟩, n2, -, hw⟩
      · exact ⟨Nat.le_refl _, Nat.le_refl _, Nat.le_refl _⟩
      · have := (RW_hdK (XP_bdK _ _ _) hw).1
        unfold HDc at this
        exact ⟨by omega, by omega, by omega⟩
    have el : (e2 :: t).length = (e :: t).length := rfl
    have tt := hX.2.2.2.1
    have o1 : 1 ≤ n ∧ n ≤ 8015 ∧ c1 ≤ 8015 ∧ s ≤ 400 ∧ mid ≤ T ∧ tot (e2 :: t) + (mid - lo) ≤ 4000 := by clear h; exact ⟨by omega, by omega, by omega, by omega, by omega, by omega⟩
    cases kf with
    | zero => exact pp_nl
    | succ kf =>
    show PP _ (jb_Cm_body_2 N (jrc_Cm_fun N D) (jg_Cm_body N (jrc_Cm_fun N D) kf) m2 (lsI lst) (I (n : Nat))) _
    have n58 : ∀ m3 b3 cm3 e3, UXQ m0 nm t g (kk + (mid - lo)) m a cm e m3 b3 cm3 e3 → PP (fun v (_ : Unit) (_ : MS) (_ : Unit) => UXP m0 nm t g KK m a cm e v) (jb_Cm_body_58 N (jrc_Cm_fun N D) (jg_Cm_body N (jrc_Cm_fun N D) kf) m3 (lsI lst) (I (n : Nat))) (some (m0, ())) := fun m3 b3 cm3 e3 hX3 => by
      have fr3 := XCS_fr hX3.1
      unfold jb_Cm_body_58
      refine l_ck (fun _ => ?_)
      rw [i_nt2 (show n ≤ 100000 by omega)]
      rcases h with ⟨rfl, h21, rfl, rfl, rfl⟩ | ⟨⟨hk1, hk27⟩, n2, h21, hw⟩
      · rw [tre fr3 (by decide) h21]
        cases kf with
        | zero => exact pp_nl
        | succ kf =>
        show PP _ (jb_Cm_body_2 N (jrc_Cm_fun N D) (jg_Cm_body N (jrc_Cm_fun N D) kf) m3 (lsI lst) (I 0)) _
        unfold jb_Cm_body_2
        rw [show decide (I 0 = (0 : Int32)) = true from rfl, br_tq]
        exact pp_end ⟨_, _, _, UXQ_mo hX3 (by omega)⟩
      · have hw1 := (RW_hdK (XP_bdK _ _ _) hw).1
        unfold HDc at hw1
        rw [tre fr3 (by decide) h21]
        exact u_bod IE hxb hr4 hiT htot k n2 (mid + 1) c1 s kf (kk + (mid - lo)) m3 b3 cm3 e3 hw hX3 (by omega)
    have n41 : ∀ (v4 : Int32) (l2 : Bool), PP (fun v (_ : Unit) (_ : MS) (_ : Unit) => UXP m0 nm t g KK m a cm e v) (jb_Cm_body_41 N (jrc_Cm_fun N D) (jg_Cm_body N (jrc_Cm_fun N D) kf) m2 (lsI lst) (I (n : Nat)) v4 (I (n : Nat)) (lsI l2)) (some (m0, ())) := fun v4 l2 => by
      unfold jb_Cm_body_41
      refine l_bnd (pk_mo (IE D o 3 n lo mid xa c1 q s m2 b cm2 e2 t g l2 hE o1.2.2.1 o1.2.2.2.1 o1.2.2.2.2.1 hX.1 hX.2.1 ⟨o1.2.2.2.2.2, by rw [el]; exact htot.2⟩) (fun m3 z hz => ?_))
      obtain ⟨b3, cm3, e3, h3⟩ := hz
      exact l_br (fun _ => n58 _ _ _ _ (UXQ_tr hX h3)) (fun _ => u_put (UXQ_tr hX h3) (fun _ h4 => n58 _ _ _ _ h4))
    have n23 : ∀ t0, PP (fun v (_ : Unit) (_ : MS) (_ : Unit) => UXP m0 nm t g KK m a cm e v) (jb_Cm_body_23 N (jrc_Cm_fun N D) (jg_Cm_body N (jrc_Cm_fun N D) kf) m2 (lsI lst) (I (n : Nat)) t0) (some (m0, ())) := fun t0 => by
      unfold jb_Cm_body_23 jb_Cm_body_40
      exact l_br (fun _ => n41 _ false) (fun _ => l_br (fun _ => n41 _ true) (fun _ => n41 _ false))
    unfold jb_Cm_body_2
    rw [decide_eq_false (fun z => by
      have := (I_eq (x := ((n : Nat) : Int)) (y := 0) (by omega) (by omega) (by decide) (by decide)).mp z
      omega), br_fq]
    exact l_ck (fun _ => l_br (fun _ => n23 _) (fun _ => n23 _))
theorem u_blk (IE : HUE N m0 T nm f) (hC : XCS m0 nm m a cm (e :: t) g) (ok : SOK (e :: t)) (hn : n ≤ 8015) (h16 : A m0 16 n = 8) (h17 : A m0 17 n = ((lo : Nat) : Int)) (h18 : A m0 18 n = ((x : Nat) : Int)) (hE : RWcK m0 1 26 (XPcK m0 f o 3) k x (lo + 1) (hi - 1) xa xb q r) (hxb : xb ≤ 8015) (hr4 : r ≤ 400) (hl4 : lo ≤ 4000) (hiT : hi ≤ T) (htot : tot (e :: t) + (hi - lo) ≤ 4000 ∧ (e :: t).length ≤ o + 1) : PK (fun v _ => UXP m0 nm t g (hi - lo) m a cm e v) (jm_Cm_expression N (jrc_Cm_fun N D) m (I (n : Nat)) (lsI lst)) := by
  have fr := XCS_fr hC
  refine pu_pk (w := m0) (exd_8 hn (tre fr (by decide) h16) (l_id ?_))
  cases D with
  | zero => exact pp_nl
  | succ D =>
  show PP _ (jm_Cm_compound N (jrc_Cm_fun N D) m (I (n : Nat)) (lsI lst)) _
  refine cmd_8 hn (tre fr (by decide) h16) hC.2 (tre fr (by decide) h17) (by omega) (fun hg => l_ck (fun _ => ?_))
  rw [tre fr (by decide) h18, hC.1.2.1.2.2.1]
  cases D with
  | zero => exact pp_nl
  | succ D =>
  refine l_bnd (pk_mo (pu_pk (w := m0) (u_bod (KK := hi - lo) (D := D) (lst := lst) IE hxb hr4 (by omega) htot k x (lo + 1) xa q N 0 m a cm e hE (UXQ_rf hC ok) (by omega))) (fun m3 z hz => ?_))
  obtain ⟨b3, cm3, e3, h3⟩ := hz
  unfold jb_Cm_compound_455
  exact u_fg h3 ok (fun m4 b4 h4 => pp_end ⟨_, _, _, UXQ_mo h4 (Nat.zero_le _)⟩)
theorem u_snd (IE : HUE N m0 T nm f) (hC : XCS m0 nm m a cm (e :: t) g) (ok : SOK (e :: t)) (hn : n ≤ 8015) (h16 : A m0 16 n = 21) (h17 : A m0 17 n = ((tk : Nat) : Int)) (htk : tk ≤ 4000) (h18 : A m0 18 n = ((x : Nat) : Int)) (h19 : A m0 19 n = ((y : Nat) : Int)) (hx : XPcK m0 f o 2 x lo mid xa xc q s) (hE : XPcK m0 f (o + 1) 3 y (mid + 1) hi xc xb s r) (hxb : xb ≤ 8015) (hr4 : r ≤ 400) (hiT : hi ≤ T) (htot : tot (e :: t) + (hi - lo) ≤ 4000 ∧ (e :: t).length ≤ o + 1) : PK (fun v _ => UXP m0 nm t g (hi - lo) m a cm e v) (jm_Cm_expression N (jrc_Cm_fun N D) m (I (n : Nat)) (lsI lst)) := by
  have fr := XCS_fr hC
  have hd1 := xp_hd hx
  have hd2 := xp_hd hE
  refine pu_pk (w := m0) (exd_21 hn (tre fr (by decide) h16) (l_id ?_))
  cases D with
  | zero => exact pp_nl
  | succ D =>
  show PP _ (jm_Cm_compound N (jrc_Cm_fun N D) m (I (n : Nat)) (lsI lst)) _
  refine cmd_21 hn (tre fr (by decide) h16) hC.2 (tre fr (by decide) h17) (by omega) (fun hg => l_ck (fun _ => ?_))
  rw [tre fr (by decide) h18]
  refine l_bnd (pk_mo (IE D o 2 x lo mid xa xc q s m a cm e t g false hx (by omega) (by omega) (by omega) hC ok ⟨by omega, htot.2⟩) (fun m3 z hz => l_ck (fun _ => ?_)))
  obtain ⟨b3, cm3, e3, h3⟩ := hz
  have nu := UXQ_nu h3
  rw [tre (XCS_fr h3.1) (by decide) h19]
  refine l_bnd (pk_mo (IE D (o + 1) 3 y (mid + 1) hi xc xb s r m3 b3 cm3 e3 t g false hE hxb hr4 hiT h3.1 h3.2.1 ⟨by omega, by show t.length + 1 ≤ _; have : t.length + 1 ≤ o + 1 := htot.2; omega⟩) (fun m4 z hz => ?_))
  obtain ⟨b4, cm4, e4, h4⟩ := hz
  unfold jb_Cm_compound_455
  exact u_put (UXQ_mo (UXQ_tr h3 h4) (by omega)) (fun _ h5 => pp_end ⟨_, _, _, h5⟩)
theorem u_cat (IE : HUE N m0 T nm f) (hC : XCS m0 nm m a cm (e :: t) g) (ok : SOK (e :: t)) (hn : n ≤ 8015) (h16 : A m0 16 n = 19) (h17 : A m0 17 n = ((tk : Nat) : Int)) (htk : tk ≤ 4000) (h18 : A m0 18 n = ((x : Nat) : Int)) (hE : XPcK m0 f (o + 1) 3 x (lo + 1) hi xa xb q r) (hxb : xb ≤ 8015) (hr4 : r ≤ 400) (hiT : hi ≤ T) (htot : tot (e :: t) + (hi - lo) ≤ 4000 ∧ (e :: t).length ≤ o + 1) : PK (fun v _ => UXP m0 nm t g (hi - lo) m a cm e v) (jm_Cm_expression N (jrc_Cm_fun N D) m (I (n : Nat)) (lsI lst)) := by
  have fr := XCS_fr hC
  refine pu_pk (w := m0) (exd_19 hn (tre fr (by decide) h16) (l_id ?_))
  cases D with
  | zero => exact pp_nl
  | succ D =>
  show PP _ (jm_Cm_compound N (jrc_Cm_fun N D) m (I (n : Nat)) (lsI lst)) _
  refine cmd_19 hn (tre fr (by decide) h16) hC.2 (tre fr (by decide) h17) (by omega) (fun hg => ?_)
  rw [hC.1.2.1.2.2.1]
  refine u_put (UXQ_rf hC ok) (fun _ h1 => u_hook h1 (fun hb h2 => l_ck (fun _ => ?_)))
  have w1 : (ptc (ptc m a 29) (a + 1) 0).2.2.1 23 (a + 1) = 0 := ptc_n
  have a2 : a + 1 + 1 ≤ 23990 := h2.1.1.2.2.1.2.2
  generalize ptc (ptc m a 29) (a + 1) 0 = m2 at h2 w1
  rw [tre (XCS_fr h2.1) (by decide) h18]
  refine l_bnd (pk_mo (IE D (o + 1) 3 x (lo + 1) hi xa xb q r m2 (a + 1 + 1) cm e t g false hE hxb hr4 hiT h2.1 ok ⟨by omega, by omega⟩) (fun m3 z hz => ?_))
  obtain ⟨b3, cm3, e3, h3⟩ := hz
  refine u_put h3 (fun _ h4 => u_fg h4 ok (fun m4 b4 h5 => ?_))
  unfold jb_Cm_compound_455
  have w4 : m4.2.2.1 23 (a + 1) = 0 := (h5.2.2.2.2.2.2.1 (a + 1) (by omega)).trans w1
  refine u_arr (hs := [a + 1]) (UXQ_tr h2 h5) ⟨rfl, ⟨by omega, by omega⟩, fun h hm => (by cases hm), w4⟩ (fun j hj => ?_) (fun Z hZ _ => pp_end ⟨_, _, _, UXQ_mo hZ (by omega)⟩)
  rcases List.mem_cons.mp hj with rfl | y
  · omega
  · cases y
theorem u_apl (hnx : n ≤ 8015) (IE : HUE N m0 T nm f) (hxb : xb ≤ 8015) (hr4 : r ≤ 400) (hiT : hi ≤ T) (htot : tot (e :: t) + KK ≤ 4000 ∧ (e :: t).length ≤ o + 1) : ∀ (k n lo xa q kf kk : Nat) (m2 : MS) (b cm2 : Nat) (e2 : List Nat × List Nat × Nat), RWcK m0 0 0 (AGcK m0 (XPcK m0 f (o + 1) 3)) k n lo hi xa xb q r → UXQ m0 nm t g kk m a cm e m2 b cm2 e2 → kk + (hi - lo) ≤ KK → PP (fun v (_ : Unit) (_ : MS) (_ : Unit) => UXP m0 nm t g KK m a cm e v) (jg_Cm_apply N (jrc_Cm_fun N D) kf m2 v2 v3 (I (n : Nat))) (some (m0, ()))
  | 0, n, lo, xa, q, kf, kk, m2, b, cm2, e2, h, hX, hk => h.elim
  | k + 1, n, lo, xa, q, kf, kk, m2, b, cm2, e2, h, hX, hk => by
    have hbE : BdE (AGcK m0 (XPcK m0 f (o + 1) 3)) := fun _ _ _ _ _ _ _ h => h.1
    obtain ⟨mid, c1, s, hE, h⟩ := h
    have hd := hbE _ _ _ _ _ _ _ hE
    unfold HDc at hd
    have hms : mid ≤ hi ∧ c1 ≤ xb ∧ s ≤ r := by
      rcases h with ⟨-, -, rfl, rfl, rfl⟩ | ⟨⟨-, k27⟩, n2, -, hw⟩
      · exact ⟨Nat.le_refl _, Nat.le_refl _, Nat.le_refl _⟩
      · have := (RW_hdK hbE hw).1
        unfold HDc at this
        exact ⟨by omega, by omega, by omega⟩
    have tt := hX.2.2.2.1
    have o1 : 1 ≤ n ∧ n ≤ 8015 ∧ c1 ≤ 8015 ∧ s ≤ 400 ∧ mid ≤ T ∧ tot (e2 :: t) + (mid - lo) ≤ 4000 := by clear h; exact ⟨by omega, by omega, by omega, by omega, by omega, by omega⟩
    obtain ⟨-, -, ka, ma, ca, h18, h19, ⟨hk6, h6, h6b⟩, hO, hca⟩ := hE
    cases kf with
    | zero => exact pp_nl
    | succ kf =>
    show PP _ (jb_Cm_apply_40 N (jrc_Cm_fun N D) (jg_Cm_apply N (jrc_Cm_fun N D) kf) m2 v2 v3 (I (n : Nat))) _
    have nx : ∀ m3 b3 cm3 e3, UXQ m0 nm t g (kk + (mid - lo)) m a cm e m3 b3 cm3 e3 → PP (fun v (_ : Unit) (_ : MS) (_ : Unit) => UXP m0 nm t g KK m a cm e v) (jg_Cm_apply N (jrc_Cm_fun N D) kf m3 v2 v3 (m3.2.2.1 21 n)) (some (m0, ())) := fun m3 b3 cm3 e3 hX3 => by
      have fr3 := XCS_fr hX3.1
      rcases h with ⟨rfl, h21, rfl, rfl, rfl⟩ | ⟨⟨hk1, hk27⟩, n2, h21, hw⟩
      · rw [tre fr3 (by decide) h21]
        cases kf with
        | zero => exact pp_nl
        | succ kf =>
        show PP _ (jb_Cm_apply_40 N (jrc_Cm_fun N D) (jg_Cm_apply N (jrc_Cm_fun N D) kf) m3 v2 v3 (I 0)) _
        unfold jb_Cm_apply_40
        rw [show decide (I 0 = (0 : Int32)) = true from rfl, br_tq]
        exact pp_end ⟨_, _, _, UXQ_mo hX3 (by omega)⟩
      · have hw1 := (RW_hdK hbE hw).1
        unfold HDc at hw1
        rw [tre fr3 (by decide) h21]
        exact u_apl hnx IE hxb hr4 hiT htot k n2 mid c1 s kf (kk + (mid - lo)) m3 b3 cm3 e3 hw hX3 (by omega)
    unfold jb_Cm_apply_40
    rw [decide_eq_false (fun z => by
      have := (I_eq (x := ((n : Nat) : Int)) (y := 0) (by omega) (by omega) (by decide) (by decide)).mp z
      omega), br_fq, i_nt2 (show n ≤ 100000 by omega), tre (XCS_fr hX.1) (by decide) h18]
    refine l_ck (fun _ => ?_)
    cases D with
    | zero => exact pp_nl
    | succ D =>
    show PP _ (bnd (jg_Cm_row N (jrc_Cm_fun N D) N m2 (I (ma : Nat))) _) _
    refine u_orow (o := o + 1) (KK := mid - lo) IE hO (by omega) o1.2.2.2.1 (by omega) (UXQ_rf hX.1 hX.2.1) (by omega) ⟨o1.2.2.2.2.2, by show t.length + 1 ≤ _; have : t.length + 1 ≤ o + 1 := htot.2; omega⟩ (fun m3 c3 cm3 e3 h3 => ?_)
    have h3 := UXQ_tr hX h3
    have a87 : ∀ t1, PP (fun v (_ : Unit) (_ : MS) (_ : Unit) => UXP m0 nm t g KK m a cm e v) (jb_Cm_apply_87 N (jrc_Cm_fun N (D + 1)) (jg_Cm_apply N (jrc_Cm_fun N (D + 1)) kf) m3 v2 v3 (I (n : Nat)) t1) (some (m0, ())) := fun t1 => by
      unfold jb_Cm_apply_87
      rw [i_nt2 (show n ≤ 100000 by omega)]
      exact u_put h3 (fun _ h4 => l_ck (fun _ => u_put h4 (fun _ h5 => l_ck (fun _ => u_put h5 (fun _ h6 => l_ck (fun _ => nx _ _ _ _ h6))))))
    unfold jb_Cm_apply_85
    exact l_br (fun _ => a87 _) (fun _ => l_ck (fun _ => l_br (fun _ => a87 _) (fun _ => a87 _)))
theorem u_app (IE : HUE N m0 T nm f) (hC : XCS m0 nm m a cm (e :: t) g) (ok : SOK (e :: t)) (hn : n ≤ 8015) (h16 : A m0 16 n = 15) (h17 : A m0 17 n = ((tk : Nat) : Int)) (htk : tk ≤ 4000) (h18 : A m0 18 n = ((x : Nat) : Int)) (h19 : A m0 19 n = ((m1 : Nat) : Int)) (hx : XPcK m0 f o 0 x lo mid xa xc q s) (hE : RWcK m0 0 0 (AGcK m0 (XPcK m0 f (o + 1) 3)) k m1 mid hi i xb s r) (hxc : xc ≤ 8015) (hxb : xb ≤ 8015) (hr4 : r ≤ 400) (hiT : hi ≤ T) (htot : tot (e :: t) + (hi - lo) ≤ 4000 ∧ (e :: t).length ≤ o + 1) : PK (fun v _ => UXP m0 nm t g (hi - lo) m a cm e v) (jm_Cm_expression N (jrc_Cm_fun N D) m (I (n : Nat)) (lsI lst)) := by
  have fr := XCS_fr hC
  have hd1 := xp_hd hx
  have hbE : BdE (AGcK m0 (XPcK m0 f (o + 1) 3)) := fun _ _ _ _ _ _ _ h => h.1
  have hd2 := (RW_hdK hbE hE).1
  unfold HDc at hd2
  refine pu_pk (w := m0) (exd_15 hn (tre fr (by decide) h16) (l_id ?_))
  cases D with
  | zero => exact pp_nl
  | succ D =>
  show PP _ (jb_Cm_apply_0 N (jrc_Cm_fun N D) (jg_Cm_apply N (jrc_Cm_fun N D) N) m (I (n : Nat)) (lsI lst)) _
  unfold jb_Cm_apply_0
  rw [i_nt2 (show n ≤ 100000 by omega), tre fr (by decide) h17]
  refine l_ck (fun _ => l_ntg (tk := tk) hC.2 rfl (by omega) (fun _ => l_ck (fun _ => ?_)))
  rw [tre fr (by decide) h18]
  refine l_bnd (pk_mo (IE D o 0 x lo mid xa xc q s m a cm e t g false hx hxc (by omega) (by omega) hC ok ⟨by omega, htot.2⟩) (fun m3 z hz => l_ck (fun _ => ?_)))
  obtain ⟨b3, cm3, e3, h3⟩ := hz
  rw [tre (XCS_fr h3.1) (by decide) h19]
  exact u_apl (KK := hi - lo) hn IE hxb hr4 hiT htot k m1 mid i s N (mid - lo) m3 b3 cm3 e3 hE h3 (by omega)
end
end
section
set_option maxRecDepth 100000
def UPQ (m0 : MS) (nm : Nat → Nat) (t : SCT) (own : Bool) (k : Nat) (m : MS) (a cm : Nat) (e : List Nat × List Nat × Nat) (m2 : MS) (b cm2 : Nat) (e2 : List Nat × List Nat × Nat) : Prop := PCS m0 nm m2 b cm2 (e2 :: t) own ∧ SOK (e2 :: t) ∧ e.1 <+: e2.1 ∧ tot (e2 :: t) ≤ tot (e :: t) + k ∧ (a ≤ b ∧ cm ≤ cm2) ∧ CFP m m2 a t.length
def UPP (m0 : MS) (nm : Nat → Nat) (t : SCT) (own : Bool) (k : Nat) (m : MS) (a cm : Nat) (e : List Nat × List Nat × Nat) (m2 : MS) : Prop := ∃ (b cm2 : Nat) (e2 : List Nat × List Nat × Nat), UPQ m0 nm t own k m a cm e m2 b cm2 e2
section
variable {α β : Type} {m0 w0 m w m2 w2 m3 w3 m4 v u w1 mS wS : MS} {K nm Nk W W2 : Nat → Nat} {N T D d o a a0 a2 b b0 c cm cm0 cm2 cm3 cm4 q q0 r s lo lo0 mid hi i j f f2 n n1 k k2 kk KK p p2 σ tk x xa xb xc mm M m1 lv y cl l2 : Nat} {sc sc0 sc2 sc3 t t2 : SCT} {e e2 e3 e4 : List Nat × List Nat × Nat} {g own lst : Bool} {idc fof cvr : Int → Int → Int} {fc : MS → Unit → Option (MS × α)} {RU : MS → α → MS → β → Prop} {B : Option (MS × β)} {S : SF_Cm_listPattern}
theorem UPQ_rf (hC : PCS m0 nm m a cm (e :: t) own) (ok : SOK (e :: t)) : UPQ m0 nm t own 0 m a cm e m a cm e := ⟨hC, ok, List.prefix_rfl, Nat.le_refl _, ⟨Nat.le_refl _, Nat.le_refl _⟩, CFP_rf⟩
theorem UPQ_tr (h : UPQ m0 nm t own k m a cm e m2 b cm2 e2) (h2 : UPQ m0 nm t own k2 m2 b cm2 e2 m3 c cm3 e3) : UPQ m0 nm t own (k + k2) m a cm e m3 c cm3 e3 := by
  obtain ⟨-, -, a3, a4, a5, a6⟩ := h
  obtain ⟨b1, b2, b3, b4, b5, b6⟩ := h2
  exact ⟨b1, b2, a3.trans b3, by omega, ⟨by omega, by omega⟩, CFP_tr a6 b6 a5.1⟩
theorem UPQ_mo (h : UPQ m0 nm t own k m a cm e m2 b cm2 e2) (hk : k ≤ k2) : UPQ m0 nm t own k2 m a cm e m2 b cm2 e2 := ⟨h.1, h.2.1, h.2.2.1, by have := h.2.2.2.1; omega, h.2.2.2.2⟩
theorem CNl_dlh : ∀ {sc : SCT}, CNl m nm (hld x sc) → CNl m nm sc
  | [], h => h
  | e :: t, h => by
    unfold hld at h
    split at h
    · exact h
    · split at h
      · obtain ⟨h1, h2, h3⟩ := h
        rw [hld_len, tot_hld] at h1
        rw [tot_hld] at h2
        exact ⟨h1, h2, CNl_dlh h3⟩
      · exact h
theorem PCS_dlh (h : PCS m0 nm m a cm (hld x (e :: t)) own) : PCS m0 nm m a cm (e :: t) own := by
  obtain ⟨h1, h2, h3, h4, h5, h6, h7⟩ := h
  obtain ⟨c1, c2, c3, c4, c5⟩ := h2
  rw [hld_len] at c1 c2 h5
  rw [tot_hld] at c3 c4
  refine ⟨h1, ⟨c1, c2, c3, c4, CNl_dlh c5⟩, h3, h4, h5, h6, ?_⟩
  have : (hdS (hld x (e :: t))).1 = e.1 := by
    unfold hld
    split
    · rfl
    · split <;> rfl
  rw [this] at h7
  exact h7
theorem u_pnm (c : CTZ m0 w0 K T nm Nk) (hC : PCS m0 nm m a cm (e :: t) own) (ok : SOK (e :: t)) (hx : x < 1400) (hlo : lo ≤ 4001) (h4 : tot (e :: t) < 4000) {f : MS → Unit → Option (MS × Unit)} (hf : ∀ v, f v () = some (v, ())) : PK (fun v _ => UPP m0 nm t own 1 m a cm e v) (bnd (jm_Cm_nameInPattern N m (I (nm x : Nat)) (I (lo : Nat))) f) := by
  refine pu_pk (w := m0) (cp_nip c.2.2.1 hC ok hx hlo h4 (fun m2 b cm2 L sc2 q1 q2 q3 q4 => pp_end ?_) hf)
  have new : x ∉ e.1 → sc2 = bnS x (e :: t) → a ≤ b → cm ≤ cm2 → UPP m0 nm t own 1 m a cm e m2 := fun nx hs hab hcm => by
    rw [hs] at q1
    have := (rfX_le (own := true) ok hx).2
    refine ⟨b, cm2, (e.1 ++ [x], e.2.1, max e.2.2 (e.1.length + 1)), q1, bnS_ok ok hx nx, List.prefix_append _ _, ?_, ⟨hab, hcm⟩, q2⟩
    show tot t + (e.1 ++ [x]).length ≤ tot t + e.1.length + 1
    rw [List.length_append, List.length_singleton]
    omega
  rcases q4 with ⟨z1, z2, z3, z4, z5, z6⟩ | ⟨z1, z2, z3, z4, z5, z6⟩
  · subst z4
    exact ⟨b, cm2, e, q1, ok, List.prefix_rfl, by omega, ⟨by omega, by omega⟩, q2⟩
  · have cmle : cm ≤ cm2 := by rcases z6 with ⟨-, -, h⟩ | ⟨-, -, h⟩ <;> omega
    cases own with
    | true =>
      have z4 : sc2 = if e.1.contains x then e :: t else bnS x (e :: t) := z4
      by_cases z : e.1.contains x = true
      · rw [if_pos z] at z4
        subst z4
        exact ⟨b, cm2, e, q1, ok, List.prefix_rfl, by omega, ⟨by omega, cmle⟩, q2⟩
      · rw [if_neg z] at z4
        exact new (fun y => z (List.contains_iff_mem.mpr y)) z4 (by omega) cmle
    | false =>
      have z4 : sc2 = if fnb x (e :: t) then hld x (e :: t) else bnS x (e :: t) := z4
      by_cases z : fnb x (e :: t) = true
      · rw [if_pos z] at z4
        subst z4
        exact ⟨b, cm2, e, PCS_dlh q1, ok, List.prefix_rfl, by omega, ⟨by omega, cmle⟩, q2⟩
      · rw [if_neg z] at z4
        exact new (fun y => z (fnb_e.mpr ⟨e, List.mem_cons_self, y⟩)) z4 (by omega) cmle
end
end
section
set_option maxRecDepth 100000
def HUP (N : Nat) (m0 : MS) (T : Nat) (nm : Nat → Nat) (f : Nat) : Prop := ∀ (D n lo hi xa xb q r : Nat) (m : MS) (a cm : Nat) (e : List Nat × List Nat × Nat) (t : SCT) (own : Bool), PAcK m0 f n lo hi xa xb q r → xb ≤ 8015 → hi ≤ T → PCS m0 nm m a cm (e :: t) own → SOK (e :: t) → tot (e :: t) + (hi - lo) ≤ 4000 → PK (fun v _ => UPP m0 nm t own (hi - lo) m a cm e v) ((jrc_Cm_listPattern N D).2 m (I (n : Nat)))
section
variable {α β : Type} {m0 w0 m w m2 w2 m3 w3 m4 v u w1 mS wS : MS} {K nm Nk W W2 : Nat → Nat} {N T D d o a a0 a2 b b0 c cm cm0 cm2 cm3 cm4 q q0 r s lo lo0 mid hi i j f f2 n n1 k k2 kk KK p p2 σ tk x xa xb xc mm M m1 lv y cl l2 : Nat} {sc sc0 sc2 sc3 t t2 : SCT} {e e2 e3 e4 : List Nat × List Nat × Nat} {g own lst : Bool} {idc fof cvr : Int → Int → Int} {fc : MS → Unit → Option (MS × α)} {RU : MS → α → MS → β → Prop} {B : Option (MS × β)} {S : SF_Cm_listPattern} {xx : Int32}
theorem up_put (h : UPQ m0 nm t own k m a cm e m2 b cm2 e2) (hh : b < 23990 → UPQ m0 nm t own k m a cm e (ptc m2 b xx) (b + 1) cm2 e2 → PP RU (fc (ptc m2 b xx) ()) B) : PP RU (bnd (jm_Co_put N m2 xx) fc) B := by
  obtain ⟨a1, a2, a3, a4, a5, a6⟩ := h
  exact l_put a1.2.2.1.1 a1.2.2.1.2.2 (fun ha => hh ha ⟨PCS_put a1 ha, a2, a3, a4, ⟨by omega, a5.2⟩, CFP_put a6 a5.1⟩)
theorem u_plf (c : CTZ m0 w0 K T nm Nk) (cv : CTV m0 w0 K T) (hC : PCS m0 nm m a cm (e :: t) own) (ok : SOK (e :: t)) (hn : n ≤ 8015) (hlf : LFc m0 n lo) (hl : lo < T) (h4 : tot (e :: t) + 1 ≤ 4000) : PK (fun v _ => UPP m0 nm t own 1 m a cm e v) (jm_Cm_pattern N S m (I (n : Nat))) := by
  obtain ⟨l16, k1, k4, l17, l18⟩ := lf_7 c hlf (by omega)
  have fr := hC.1
  have t4 := c.2.1.1.1
  by_cases z3 : K lo = 3
  · obtain ⟨c7, -, cx, cu⟩ := c.2.2.2 lo hl z3
    have e18 : m.2.2.1 18 n = I (nm (Nk lo) : Nat) := by
      rw [tre fr (by decide) l18]
      show I (m0.2.2.1 7 lo).toInt = _
      rw [← I_of, c7]
    refine pu_pk (w := m0) ?_
    unfold jm_Cm_pattern jb_Cm_pattern_0
    refine l_ck (fun _ => ?_)
    rw [i_nt2 (show n ≤ 100000 by omega), tre fr (by decide) (v := 3) (l16.trans (by rw [z3]; rfl))]
    rw [decide_eq_false (show ¬ (I 3 = (1 : Int32)) by decide), br_fq, decide_eq_false (show ¬ (I 3 = (2 : Int32)) by decide), br_fq, decide_eq_true (show (I 3 = (3 : Int32)) by decide), br_tq]
    refine l_ck (fun _ => l_ck (fun _ => ?_))
    rw [e18, tre fr (by decide) l17]
    exact fun v z w r e1 e2 => u_pnm c hC ok cx (by omega) (by omega) (fun v => rfl) v z e1
  by_cases z4 : K lo = 4
  · obtain ⟨fr0, s0, b, l, s1, s2, s3, s4, s5, s6, s7, s8, s9⟩ := (cv lo hl).2.2 z4
    have e18 : A m0 18 n = ((fr0 : Nat) : Int) := by
      rw [l18]
      show (m0.2.2.1 7 lo).toInt = _
      rw [s1]
      exact I_ti (by omega) (by omega)
    refine pu_pk (w := m0) ?_
    unfold jm_Cm_pattern jb_Cm_pattern_0
    refine l_ck (fun _ => ?_)
    rw [i_nt2 (show n ≤ 100000 by omega), tre fr (by decide) (v := 4) (l16.trans (by rw [z4]; rfl))]
    rw [decide_eq_false (show ¬ (I 4 = (1 : Int32)) by decide), br_fq, decide_eq_false (show ¬ (I 4 = (2 : Int32)) by decide), br_fq, decide_eq_false (show ¬ (I 4 = (3 : Int32)) by decide), br_fq, decide_eq_true (show (I 4 = (4 : Int32)) by decide), br_tq]
    refine up_put (UPQ_rf hC ok) (fun _ h1 => l_bnd (pk_mo (cs_p h1.1 (by omega) e18 s6 s7 s8 s9) (fun m2 _ h => ?_)))
    obtain ⟨p1, p2, -⟩ := h
    unfold jb_Cm_pattern_298
    exact pp_end ⟨_, _, _, UPQ_mo (UPQ_tr h1 (k2 := 0) ⟨p1, ok, List.prefix_rfl, Nat.le_refl _, ⟨by omega, Nat.le_refl _⟩, p2⟩) (by omega)⟩
  · refine pu_pk (w := m0) (cp_lit hC (by omega) l16 (by omega) (fun m2 q1 q2 q3 q4 => pp_end ⟨a + 3, cm, e, q1, ok, List.prefix_rfl, by omega, ⟨by omega, Nat.le_refl _⟩, q2⟩))
theorem u_ptl (IH : HUP N m0 T nm f) (hxb : xb ≤ 8015) (hiT : hi ≤ T) (htot : tot (e :: t) + KK ≤ 4000) : ∀ (k n lo xa q M kk : Nat) (m2 : MS) (b cm2 : Nat) (e2 : List Nat × List Nat × Nat), RWcK m0 1 26 (PAcK m0 f) k n lo hi xa xb q r → UPQ m0 nm t own kk m a cm e m2 b cm2 e2 → kk + (hi - lo) ≤ KK → PP (fun v (_ : Unit) (_ : MS) (_ : Unit) => UPP m0 nm t own KK m a cm e v) (jg_Cm_pattern N (jrc_Cm_listPattern N D) M m2 (I (n : Nat))) (some (m0, ()))
  | 0, n, lo, xa, q, M, kk, m2, b, cm2, e2, h, hX, hk => h.elim
  | k + 1, n, lo, xa, q, M, kk, m2, b, cm2, e2, h, hX, hk => by
    obtain ⟨mid, c1, s, hE, h⟩ := h
    have hd := PA_bdK _ _ _ _ _ _ _ _ hE
    unfold HDc at hd
    have hms : mid ≤ hi ∧ c1 ≤ xb := by
      rcases h with ⟨-, -, rfl, rfl, rfl⟩ | ⟨⟨-, k27⟩, n2, -, hw⟩
      · exact ⟨Nat.le_refl _, Nat.le_refl _⟩
      · have := (RW_hdK (PA_bdK f) hw).1
        unfold HDc at this
        exact ⟨by omega, by omega⟩
    have tt := hX.2.2.2.1
    have o1 : 1 ≤ n ∧ n ≤ 8015 ∧ c1 ≤ 8015 ∧ mid ≤ T ∧ tot (e2 :: t) + (mid - lo) ≤ 4000 := by clear h; exact ⟨by omega, by omega, by omega, by omega, by omega⟩
    cases M with
    | zero => exact pp_nl
    | succ M =>
    show PP _ (jb_Cm_pattern_268 N (jrc_Cm_listPattern N D) (jg_Cm_pattern N (jrc_Cm_listPattern N D) M) m2 (I (n : Nat))) _
    unfold jb_Cm_pattern_268
    rw [decide_eq_false (fun z => by
      have := (I_eq (x := ((n : Nat) : Int)) (y := 0) (by omega) (by omega) (by decide) (by decide)).mp z
      omega), br_fq]
    refine l_bnd (pk_mo (IH D n lo mid xa c1 q s m2 b cm2 e2 t own hE o1.2.2.1 o1.2.2.2.1 hX.1 hX.2.1 o1.2.2.2.2) (fun m3 z hz => l_ck (fun _ => ?_)))
    obtain ⟨b3, cm3, e3, h3⟩ := hz
    have hX3 := UPQ_tr hX h3
    rw [i_nt2 (show n ≤ 100000 by omega)]
    rcases h with ⟨rfl, h21, rfl, rfl, rfl⟩ | ⟨⟨hk1, hk27⟩, n2, h21, hw⟩
    · rw [tre hX3.1.1 (by decide) h21]
      cases M with
      | zero => exact pp_nl
      | succ M =>
      show PP _ (jb_Cm_pattern_268 N (jrc_Cm_listPattern N D) (jg_Cm_pattern N (jrc_Cm_listPattern N D) M) m3 (I 0)) _
      unfold jb_Cm_pattern_268 jb_Cm_pattern_298
      rw [show decide (I 0 = (0 : Int32)) = true from rfl, br_tq]
      exact pp_end ⟨_, _, _, UPQ_mo hX3 (by omega)⟩
    · have hw1 := (RW_hdK (PA_bdK f) hw).1
      unfold HDc at hw1
      rw [tre hX3.1.1 (by decide) h21]
      exact u_ptl IH hxb hiT htot k n2 (mid + 1) c1 s M (kk + (mid - lo)) m3 b3 cm3 e3 hw hX3 (by omega)
theorem u_pll {HH : Nat} (IH : HUP N m0 T nm f) (hnn : n1 ≤ 8015) (hxb : xb ≤ 8015) (hiT : hi ≤ T) (htot : tot (e :: t) + KK ≤ 4000) (hend : ∀ m3 b3 cm3 e3 M, UPQ m0 nm t own KK m a cm e m3 b3 cm3 e3 → PP (fun v (_ : Unit) (_ : MS) (_ : Unit) => UPP m0 nm t own HH m a cm e v) (jg_Cm_listPattern N (jrc_Cm_listPattern N D) M m3 (I (n1 : Nat)) (I 0)) (some (m0, ()))) : ∀ (k n lo xa q M kk : Nat) (m2 : MS) (b cm2 : Nat) (e2 : List Nat × List Nat × Nat), RWcK m0 1 26 (PAcK m0 f) k n lo hi xa xb q r → UPQ m0 nm t own kk m a cm e m2 b cm2 e2 → kk + (hi - lo) ≤ KK → PP (fun v (_ : Unit) (_ : MS) (_ : Unit) => UPP m0 nm t own HH m a cm e v) (jg_Cm_listPattern N (jrc_Cm_listPattern N D) M m2 (I (n1 : Nat)) (I (n : Nat))) (some (m0, ()))
  | 0, n, lo, xa, q, M, kk, m2, b, cm2, e2, h, hX, hk => h.elim
  | k + 1, n, lo, xa, q, M, kk, m2, b, cm2, e2, h, hX, hk => by
    obtain ⟨mid, c1, s, hE, h⟩ := h
    have hd := PA_bdK _ _ _ _ _ _ _ _ hE
    unfold HDc at hd
    have hms : mid ≤ hi ∧ c1 ≤ xb := by
      rcases h with ⟨-, -, rfl, rfl, rfl⟩ | ⟨⟨-, k27⟩, n2, -, hw⟩
      · exact ⟨Nat.le_refl _, Nat.le_refl _⟩
      · have := (RW_hdK (PA_bdK f) hw).1
        unfold HDc at this
        exact ⟨by omega, by omega⟩
    have tt := hX.2.2.2.1
    have o1 : 1 ≤ n ∧ n ≤ 8015 ∧ c1 ≤ 8015 ∧ mid ≤ T ∧ tot (e2 :: t) + (mid - lo) ≤ 4000 := by clear h; exact ⟨by omega, by omega, by omega, by omega, by omega⟩
    cases M with
    | zero => exact pp_nl
    | succ M =>
    show PP _ (jb_Cm_listPattern_10 N (jrc_Cm_listPattern N D) (jg_Cm_listPattern N (jrc_Cm_listPattern N D) M) m2 (I (n1 : Nat)) (I (n : Nat))) _
    unfold jb_Cm_listPattern_10
    rw [decide_eq_false (fun z => by
      have := (I_eq (x := ((n : Nat) : Int)) (y := 0) (by omega) (by omega) (by decide) (by decide)).mp z
      omega), br_fq]
    refine up_put hX (fun _ hX => l_bnd (pk_mo (IH D n lo mid xa c1 q s _ _ cm2 e2 t own hE o1.2.2.1 o1.2.2.2.1 hX.1 hX.2.1 o1.2.2.2.2) (fun m3 z hz => l_ck (fun _ => ?_))))
    obtain ⟨b3, cm3, e3, h3⟩ := hz
    have hX3 := UPQ_tr hX h3
    rw [i_nt2 (show n ≤ 100000 by omega)]
    rcases h with ⟨rfl, h21, rfl, rfl, rfl⟩ | ⟨⟨hk1, hk27⟩, n2, h21, hw⟩
    · rw [tre hX3.1.1 (by decide) h21]
      exact hend m3 b3 cm3 e3 M (UPQ_mo hX3 (by omega))
    · have hw1 := (RW_hdK (PA_bdK f) hw).1
      unfold HDc at hw1
      rw [tre hX3.1.1 (by decide) h21]
      exact u_pll IH hnn hxb hiT htot hend k n2 (mid + 1) c1 s M (kk + (mid - lo)) m3 b3 cm3 e3 hw hX3 (by omega)
theorem u_pat (c : CTZ m0 w0 K T nm Nk) (cv : CTV m0 w0 K T) : ∀ f, HUP N m0 T nm f
  | 0 => fun _ _ _ _ _ _ _ _ _ _ _ _ _ _ h => h.elim
  | f + 1 => fun D n lo hi xa xb q r m a cm e t own hE hxb hiT hC ok htot => by
    have IH := u_pat c cv f
    obtain ⟨hdc, -, -, hE⟩ := hE
    have hd := hdc
    unfold HDc at hd
    have hn : n ≤ 8015 := by omega
    have fr := hC.1
    cases D with
    | zero => exact fun _ _ z => (by cases z)
    | succ D =>
    show PK _ (jm_Cm_pattern N (jrc_Cm_listPattern N D) m (I (n : Nat)))
    rcases hE with ⟨hl, rfl⟩ | ⟨h16, n1, h18, hn1, hl, h61, rfl, h60⟩ | ⟨h16, n1, cc, h18, pa, hc, h6, h6b⟩ | ⟨h16, k, m1, c1, h18, h19, ⟨hk8, h6, h6b⟩, hO, hc1⟩ | ⟨h16, k, m1, mid, c1, s1, h18, h19, ⟨hk8, h6, h6b⟩, hO, hT⟩
    · rw [show lo + 1 - lo = 1 by omega]
      exact u_plf c cv hC ok hn hl (by omega) (by omega)
    · exact pu_pk (w := m0) (cp_neg hC (by omega) h16 h18 (by omega) (fun m2 q1 q2 q3 q4 => pp_end ⟨a + 3, cm, e, q1, ok, List.prefix_rfl, by omega, ⟨by omega, Nat.le_refl _⟩, q2⟩))
    · refine pu_pk (w := m0) ?_
      have hd1 := PA_bdK _ _ _ _ _ _ _ _ pa
      unfold HDc at hd1
      unfold jm_Cm_pattern jb_Cm_pattern_0
      refine l_ck (fun _ => ?_)
      rw [i_nt2 (show n ≤ 100000 by omega), tre fr (by decide) h16]
      rw [decide_eq_false (show ¬ (I 5 = (1 : Int32)) by decide), br_fq, decide_eq_false (show ¬ (I 5 = (2 : Int32)) by decide), br_fq, decide_eq_false (show ¬ (I 5 = (3 : Int32)) by decide), br_fq, decide_eq_false (show ¬ (I 5 = (4 : Int32)) by decide), br_fq, decide_eq_true (show (I 5 = (5 : Int32)) by decide), br_tq]
      refine l_ck (fun _ => ?_)
      rw [tre fr (by decide) h18]
      refine l_bnd (pk_mo (IH D n1 (lo + 1) (hi - 1) xa cc q r m a cm e t own pa (by omega) (by omega) hC ok (by omega)) (fun m3 z hz => ?_))
      obtain ⟨b3, cm3, e3, h3⟩ := hz
      unfold jb_Cm_pattern_298
      exact pp_end ⟨_, _, _, UPQ_mo h3 (by omega)⟩
    · refine pu_pk (w := m0) ?_
      unfold jm_Cm_pattern jb_Cm_pattern_0
      refine l_ck (fun _ => ?_)
      rw [i_nt2 (show n ≤ 100000 by omega), tre fr (by decide) h16]
      rw [decide_eq_false (show ¬ (I 6 = (1 : Int32)) by decide), br_fq, decide_eq_false (show ¬ (I 6 = (2 : Int32)) by decide), br_fq, decide_eq_false (show ¬ (I 6 = (3 : Int32)) by decide), br_fq, decide_eq_false (show ¬ (I 6 = (4 : Int32)) by decide), br_fq, decide_eq_false (show ¬ (I 6 = (5 : Int32)) by decide), br_fq, decide_eq_true (show (I 6 = (6 : Int32)) by decide), br_tq]
      refine up_put (UPQ_rf hC ok) (fun _ h1 => l_ck (fun _ => up_put h1 (fun _ h2 => l_ck (fun _ => ?_))))
      rw [tre h2.1.1 (by decide) h18]
      rcases hO with ⟨-, rfl, -, -, -⟩ | ⟨-, hO⟩
      · have e268 : ∀ M mm, UPQ m0 nm t own 0 m a cm e mm (a + 1 + 1) cm e → PP (fun v (_ : Unit) (_ : MS) (_ : Unit) => UPP m0 nm t own (hi - lo) m a cm e v) (jg_Cm_pattern N (jrc_Cm_listPattern N D) M mm (I ((0 : Nat) : Int))) (some (m0, ())) := fun M mm hmm => by
          cases M with
          | zero => exact pp_nl
          | succ M =>
          show PP _ (jb_Cm_pattern_268 N (jrc_Cm_listPattern N D) (jg_Cm_pattern N (jrc_Cm_listPattern N D) M) mm (I 0)) _
          unfold jb_Cm_pattern_268 jb_Cm_pattern_298
          rw [show decide (I 0 = (0 : Int32)) = true from rfl, br_tq]
          exact pp_end ⟨_, _, _, UPQ_mo hmm (by omega)⟩
        exact e268 N _ h2
      · have hw := (RW_hdK (PA_bdK f) hO).1
        unfold HDc at hw
        exact u_ptl (KK := hi - lo) IH (by omega) (by omega) (by omega) k m1 (lo + 1) xa q N 0 _ _ cm e hO h2 (by omega)
    · have bd : lo < mid ∧ mid < hi ∧ c1 ≤ n := by
        have h1 := OR_hdK (PA_bdK f) hO
        rcases hT with ⟨-, h2, h3, h4⟩ | ⟨-, x, c2, -, hx, h2⟩
        · omega
        · have := PA_bdK _ _ _ _ _ _ _ _ hx
          unfold HDc at this
          omega
      refine pu_pk (w := m0) ?_
      unfold jm_Cm_pattern jb_Cm_pattern_0
      refine l_ck (fun _ => ?_)
      rw [i_nt2 (show n ≤ 100000 by omega), tre fr (by decide) h16]
      rw [decide_eq_false (show ¬ (I 7 = (1 : Int32)) by decide), br_fq, decide_eq_false (show ¬ (I 7 = (2 : Int32)) by decide), br_fq, decide_eq_false (show ¬ (I 7 = (3 : Int32)) by decide), br_fq, decide_eq_false (show ¬ (I 7 = (4 : Int32)) by decide), br_fq, decide_eq_false (show ¬ (I 7 = (5 : Int32)) by decide), br_fq, decide_eq_false (show ¬ (I 7 = (6 : Int32)) by decide), br_fq, decide_eq_true (show (I 7 = (7 : Int32)) by decide), br_tq]
      unfold jb_Cm_pattern_298
      refine l_id ?_
      cases D with
      | zero => exact pp_nl
      | succ D =>
      show PP _ (jb_Cm_listPattern_0 N (jrc_Cm_listPattern N D) (jg_Cm_listPattern N (jrc_Cm_listPattern N D) N) m (I (n : Nat))) _
      unfold jb_Cm_listPattern_0
      refine l_ck (fun _ => ?_)
      rw [i_nt2 (show n ≤ 100000 by omega), tre fr (by decide) h18]
      have fin : ∀ m3 b3 cm3 e3 M, UPQ m0 nm t own (mid - lo) m a cm e m3 b3 cm3 e3 → PP (fun v (_ : Unit) (_ : MS) (_ : Unit) => UPP m0 nm t own (hi - lo) m a cm e v) (jg_Cm_listPattern N (jrc_Cm_listPattern N D) M m3 (I (n : Nat)) (I 0)) (some (m0, ())) := fun m3 b3 cm3 e3 M h3 => by
        cases M with
        | zero => exact pp_nl
        | succ M =>
        show PP _ (jb_Cm_listPattern_10 N (jrc_Cm_listPattern N D) (jg_Cm_listPattern N (jrc_Cm_listPattern N D) M) m3 (I (n : Nat)) (I 0)) _
        unfold jb_Cm_listPattern_10 jb_Cm_listPattern_84
        rw [show decide (I 0 = (0 : Int32)) = true from rfl, br_tq, i_nt2 (show n ≤ 100000 by omega)]
        refine l_ck (fun _ => ?_)
        have nu := h3.2.2.2.1
        rcases hT with ⟨h20, hh, hs, h4⟩ | ⟨hh, x, c2, h20, hx, h2⟩
        · rw [tre h3.1.1 (by decide) h20, show decide (I 0 = (0 : Int32)) = true from rfl, br_tq]
          refine up_put h3 (fun _ h5 => ?_)
          unfold jm_Cm_term jb_Cm_term_0
          rw [bnd_as2]
          refine up_put h5 (fun _ h6 => ?_)
          rw [bnd_as2]
          refine up_put h6 (fun _ h7 => ?_)
          rw [bnd_s]
          exact pp_end ⟨_, _, _, UPQ_mo h7 (by omega)⟩
        · have hd2 := PA_bdK _ _ _ _ _ _ _ _ hx
          unfold HDc at hd2
          rw [tre h3.1.1 (by decide) h20, decide_eq_false (fun z => by
            have := (I_eq (x := ((x : Nat) : Int)) (y := 0) (by omega) (by omega) (by decide) (by decide)).mp z
            omega), br_fq]
          refine l_ck (fun _ => l_bnd (pk_mo (IH D x (mid + 1) (hi - 1) c1 c2 s1 r m3 b3 cm3 e3 t own hx (by omega) (by omega) h3.1 h3.2.1 (by omega)) (fun m4 z hz => ?_)))
          obtain ⟨b4, cm4, e4, h4⟩ := hz
          exact pp_end ⟨_, _, _, UPQ_mo (UPQ_tr h3 h4) (by omega)⟩
      rcases hO with ⟨-, rfl, -, -, -⟩ | ⟨-, hO⟩
      · exact fin m a cm e N (UPQ_mo (UPQ_rf hC ok) (by omega))
      · have hw := (RW_hdK (PA_bdK f) hO).1
        unfold HDc at hw
        exact u_pll (KK := mid - lo) (HH := hi - lo) IH hn (by omega) (by omega) (by omega) fin k m1 (lo + 1) xa q N 0 m a cm e hO (UPQ_rf hC ok) (by omega)
end
end
section
set_option maxRecDepth 100000
section
variable {α β : Type} {m0 w0 m w m2 w2 m3 w3 m4 v u w1 mS wS : MS} {K nm Nk W W2 : Nat → Nat} {N T D d o a a0 a2 b b0 c cm cm0 cm2 cm3 cm4 q q0 r s lo lo0 mid hi i j f f2 n n1 k k2 kk KK p p2 σ tk x xa xb xc mm M m1 lv y cl l2 : Nat} {sc sc0 sc2 sc3 t t2 : SCT} {e e2 e3 e4 : List Nat × List Nat × Nat} {g own lst : Bool} {idc fof cvr : Int → Int → Int} {fc : MS → Unit → Option (MS × α)} {RU : MS → α → MS → β → Prop} {B : Option (MS × β)}
theorem UPQ_X (h : UXQ m0 nm t g k m a cm e m2 b cm2 e2) (h2 : UPQ m0 nm t false k2 m2 b cm2 e2 m3 c cm3 e3) : UXQ m0 nm t g (k + k2) m a cm e m3 c cm3 e3 := by
  obtain ⟨b1, b2, b3, b4, b5, b6⟩ := h2
  exact UXQ_tr h ⟨⟨b1, by rw [b6.1 712 (by decide) (by decide)]; exact h.1.2⟩, b2, b3, b4, b5, XFC_U (q := 0) (r := 0) (XFC_P b6)⟩
theorem u_mat (c : CTZ m0 w0 K T nm Nk) (cv : CTV m0 w0 K T) (IE : HUE N m0 T nm f) (hC : XCS m0 nm m a cm (e :: t) g) (ok : SOK (e :: t)) (hn : n ≤ 8015) (h16 : A m0 16 n = 20) (h17 : A m0 17 n = ((tk : Nat) : Int)) (htk : tk ≤ 4000) (h18 : A m0 18 n = ((x : Nat) : Int)) (h19 : A m0 19 n = ((y : Nat) : Int)) (hx : PAcK m0 f x lo mid xa xc q q) (hE : XPcK m0 f (o + 1) 3 y (mid + 1) hi xc xb q r) (hxb : xb ≤ 8015) (hr4 : r ≤ 400) (hiT : hi ≤ T) (htot : tot (e :: t) + (hi - lo) ≤ 4000 ∧ (e :: t).length ≤ o + 1) : PK (fun v _ => UXP m0 nm t g (hi - lo) m a cm e v) (jm_Cm_expression N (jrc_Cm_fun N D) m (I (n : Nat)) (lsI lst)) := by
  have fr := XCS_fr hC
  have hd1 := PA_bdK _ _ _ _ _ _ _ _ hx
  unfold HDc at hd1
  have hd2 := xp_hd hE
  refine pu_pk (w := m0) (exd_20 hn (tre fr (by decide) h16) (l_id ?_))
  cases D with
  | zero => exact pp_nl
  | succ D =>
  show PP _ (jm_Cm_compound N (jrc_Cm_fun N D) m (I (n : Nat)) (lsI lst)) _
  refine cmd_20 hn (tre fr (by decide) h16) hC.2 (tre fr (by decide) h17) (by omega) (fun hg => l_ck (fun _ => ?_))
  rw [tre fr (by decide) h19]
  refine l_bnd (pk_mo (IE D (o + 1) 3 y (mid + 1) hi xc xb q r m a cm e t g false hE hxb hr4 hiT hC ok ⟨by omega, by omega⟩) (fun m3 z hz => ?_))
  obtain ⟨b3, cm3, e3, h3⟩ := hz
  have nu := UXQ_nu h3
  refine u_put h3 (fun _ h4 => l_ck (fun _ => ?_))
  rw [tre (XCS_fr h4.1) (by decide) h18]
  unfold jr_Cm_pattern
  refine l_bnd (pk_mo (u_pat c cv f 300 x lo mid xa xc q q _ _ cm3 e3 t false hx (by omega) (by omega) h4.1.1 h4.2.1 (by omega)) (fun m5 z hz => ?_))
  obtain ⟨b5, cm5, e5, h5⟩ := hz
  unfold jb_Cm_compound_455
  exact u_put (UXQ_mo (UPQ_X h4 h5) (by omega)) (fun _ h6 => pp_end ⟨_, _, _, h6⟩)
end
end
section
set_option maxRecDepth 100000
section
variable {α β : Type} {m0 w0 m w m2 w2 m3 w3 m4 v u w1 mS wS : MS} {K nm Nk W W2 : Nat → Nat} {N T D d o a a0 a2 b b0 c cm cm0 cm2 cm3 cm4 q q0 r s lo lo0 mid hi i j f f2 n n1 k k2 kk KK p p2 σ tk x xa xb xc mm M m1 lv y cl l2 : Nat} {sc sc0 sc2 sc3 t t2 : SCT} {e e2 e3 e4 : List Nat × List Nat × Nat} {g g2 own lst : Bool} {idc fof cvr : Int → Int → Int} {v4 v5 xw : Int32} {RU : MS → Int32 → MS → β → Prop} {B : Option (MS × β)}
theorem u_grd (IE : HUE N m0 T nm f) (hxb : xb ≤ 8015) (hr4 : r ≤ 400) (hiT : hi ≤ T) (htot : tot (e :: t) + KK ≤ 4000 ∧ (e :: t).length ≤ o + 1) (hh : ∀ m3 c cm3 e3, UXQ m0 nm t g KK m a cm e m3 c cm3 e3 → PP RU (some (upI m3 712 v5, v4)) B) : ∀ (k n lo xa q M kk : Nat) (m2 : MS) (b cm2 : Nat) (e2 : List Nat × List Nat × Nat), RWcK m0 1 26 (XPcK m0 f o 3) k n lo hi xa xb q r → UXQ m0 nm t g kk m a cm e m2 b cm2 e2 → kk + (hi - lo) ≤ KK → PP RU ((jg_Cm_tries N (jrc_Cm_fun N D) M).2 m2 v4 v5 (I (n : Nat))) B
  | 0, n, lo, xa, q, M, kk, m2, b, cm2, e2, h, hX, hk => h.elim
  | k + 1, n, lo, xa, q, M, kk, m2, b, cm2, e2, h, hX, hk => by
    obtain ⟨mid, c1, s, hE, h⟩ := h
    have hd := XP_bdK _ _ _ _ _ _ _ _ _ _ hE
    unfold HDc at hd
    have hms : mid ≤ hi ∧ c1 ≤ xb ∧ s ≤ r := by
      rcases h with ⟨-, -, rfl, rfl, rfl⟩ | ⟨⟨-, k27⟩, n2, -, hw⟩
      · exact ⟨Nat.le_refl _, Nat.le_refl _, Nat.le_refl _⟩
      · have := (RW_hdK (XP_bdK _ _ _) hw).1
        unfold HDc at this
        exact ⟨by omega, by omega, by omega⟩
    have el : (e2 :: t).length = (e :: t).length := rfl
    have tt := hX.2.2.2.1
    have o1 : 1 ≤ n ∧ n ≤ 8015 ∧ c1 ≤ 8015 ∧ s ≤ 400 ∧ mid ≤ T ∧ tot (e2 :: t) + (mid - lo) ≤ 4000 := by clear h; exact ⟨by omega, by omega, by omega, by omega, by omega, by omega⟩
    cases M with
    | zero => exact pp_nl
    | succ M =>
    show PP RU (jb_Cm_tries_181 N (jrc_Cm_fun N D) (jg_Cm_tries N (jrc_Cm_fun N D) M) m2 v4 v5 (I (n : Nat))) B
    unfold jb_Cm_tries_181
    rw [decide_eq_false (fun z => by
      have := (I_eq (x := ((n : Nat) : Int)) (y := 0) (by omega) (by omega) (by decide) (by decide)).mp z
      omega), br_fq]
    refine l_bnd (pk_mo (IE D o 3 n lo mid xa c1 q s m2 b cm2 e2 t g false hE o1.2.2.1 o1.2.2.2.1 o1.2.2.2.2.1 hX.1 hX.2.1 ⟨o1.2.2.2.2.2, by rw [el]; exact htot.2⟩) (fun m3 z hz => ?_))
    obtain ⟨b3, cm3, e3, h3⟩ := hz
    refine u_put (UXQ_tr hX h3) (fun _ hX3 => l_ck (fun _ => ?_))
    have fr3 := XCS_fr hX3.1
    rw [i_nt2 (show n ≤ 100000 by omega)]
    rcases h with ⟨rfl, h21, rfl, rfl, rfl⟩ | ⟨⟨hk1, hk27⟩, n2, h21, hw⟩
    · rw [tre fr3 (by decide) h21]
      cases M with
      | zero => exact pp_nl
      | succ M =>
      show PP RU (jb_Cm_tries_181 N (jrc_Cm_fun N D) (jg_Cm_tries N (jrc_Cm_fun N D) M) _ v4 v5 (I 0)) B
      unfold jb_Cm_tries_181
      rw [show decide (I 0 = (0 : Int32)) = true from rfl, br_tq]
      refine u_put hX3 (fun _ hX4 => l_ck (fun _ => ?_))
      rw [lt_e]
      exact hh _ _ cm3 e3 (UXQ_mo hX4 (by omega))
    · have hw1 := (RW_hdK (XP_bdK _ _ _) hw).1
      unfold HDc at hw1
      rw [tre fr3 (by decide) h21]
      exact u_grd IE hxb hr4 hiT htot hh k n2 (mid + 1) c1 s M (kk + (mid - lo)) _ _ cm3 e3 hw hX3 (by omega)
end
end
section
set_option maxRecDepth 100000
def USG (m0 : MS) (nm : Nat → Nat) (t : SCT) (g : Bool) (lo0 a0 cm0 : Nat) (e0 : List Nat × List Nat × Nat) (mS : MS) : List Nat → Nat → Nat → Nat → List Nat × List Nat × Nat → MS → Int32 → Int32 → Int32 → Int32 → Prop
  | [], p, a, cm, e, m, _, _, _, _ => lo0 ≤ p ∧ UXQ m0 nm t g (p - lo0) mS a0 cm0 e0 m a cm e
  | s :: S, p, a, cm, e, m, v2, v3, v4, v5 => ((3 ≤ rnkc (A m0 6 s) ∨ A m0 6 s = 6 ∨ A m0 6 s = 16) ∧ ∀ s', s' ∈ S → rnkc (A m0 6 s') < rnkc (A m0 6 s) ∨ (rnkc (A m0 6 s') = 4 ∧ rnkc (A m0 6 s) = 4)) ∧ ∃ (a1 cm1 : Nat) (e1 : List Nat × List Nat × Nat) (m1 : MS) (v2' v3' v4' v5' : Int32), USG m0 nm t g lo0 a0 cm0 e0 mS S s a1 cm1 e1 m1 v2' v3' v4' v5' ∧ s ≤ p ∧
      ((3 ≤ rnkc (A m0 6 s) ∧ UXQ m0 nm t g (p - s) m1 a1 cm1 e1 m a cm e ∧ (v2' = v2 ∧ v3' = v3 ∧ v4' = v4 ∧ v5' = v5)) ∨
       (∃ m2, UXQ m0 nm t g 0 m1 a1 cm1 e1 m2 (a1 + 2) cm1 e1 ∧ m2.2.2.1 23 (a1 + 1) = 0 ∧ UXQ m0 nm t g (p - s) m2 (a1 + 2) cm1 e1 m a cm e ∧ ((A m0 6 s = 6 ∧ v2 = I ((a1 + 1 : Nat) : Int) ∧ v3 = I (tot (e1 :: t) : Nat) ∧ v4' = v4 ∧ v5' = v5) ∨ (A m0 6 s = 16 ∧ v4 = I ((a1 + 1 : Nat) : Int) ∧ v5 = I (tot (e1 :: t) : Nat) ∧ v2' = v2 ∧ v3' = v3))))
section
variable {α β : Type} {m0 w0 m w m2 w2 m3 w3 m4 v u w1 mS wS : MS} {K nm Nk W W2 : Nat → Nat} {N T D d o a a0 a2 b b0 c cm cm0 cm2 cm3 cm4 p q q0 r s lo lo0 mid hi i j f f2 n n1 k k2 kk KK p2 σ tk x xa xb xc mm M m1 lv y cl l2 : Nat} {sc sc0 sc2 sc3 t t2 : SCT} {e e0 e2 e3 e4 : List Nat × List Nat × Nat} {g g2 own lst : Bool} {S : List Nat} {v2 v3 v4 v5 x2 x3 x4 x5 v1 xw : Int32} {RU : MS → α → MS → β → Prop} {B : Option (MS × β)} {fc : MS → Unit → Option (MS × α)} {G : MS → Int32 → Int32 → Int32 → Int32 → Int32 → Option (MS × Unit)} {SF : SF_Cm_fun}
theorem USG_now (h : USG m0 nm t g lo0 a0 cm0 e0 mS S p a cm e m v2 v3 v4 v5) : XCS m0 nm m a cm (e :: t) g ∧ SOK (e :: t) := by
  cases S with
  | nil => exact ⟨h.2.1, h.2.2.1⟩
  | cons s S =>
    obtain ⟨-, a1, cm1, e1, m1, v2', v3', v4', v5', -, -, h⟩ := h
    rcases h with ⟨-, h, -⟩ | ⟨m2, -, -, h, -⟩
    · exact ⟨h.1, h.2.1⟩
    · exact ⟨h.1, h.2.1⟩
theorem USG_ext (h : USG m0 nm t g lo0 a0 cm0 e0 mS S p a cm e m v2 v3 v4 v5) (k : UXQ m0 nm t g (p2 - p) m a cm e m3 b cm3 e3) (hp : p ≤ p2) : USG m0 nm t g lo0 a0 cm0 e0 mS S p2 b cm3 e3 m3 v2 v3 v4 v5 := by
  cases S with
  | nil =>
    obtain ⟨h1, h2⟩ := h
    exact ⟨by omega, UXQ_mo (UXQ_tr h2 k) (by omega)⟩
  | cons s S =>
    obtain ⟨h0, a1, cm1, e1, m1, v2', v3', v4', v5', h1, h2, h⟩ := h
    refine ⟨h0, a1, cm1, e1, m1, v2', v3', v4', v5', h1, by omega, ?_⟩
    rcases h with ⟨h3, h4, h5⟩ | ⟨m2, h3, h4, h5, h6⟩
    · exact Or.inl ⟨h3, UXQ_mo (UXQ_tr h4 k) (by omega), h5⟩
    · exact Or.inr ⟨m2, h3, h4, UXQ_mo (UXQ_tr h5 k) (by omega), h6⟩
theorem USG_nu : ∀ {S : List Nat} {p a cm : Nat} {e : List Nat × List Nat × Nat} {m : MS} {v2 v3 v4 v5 : Int32}, USG m0 nm t g lo0 a0 cm0 e0 mS S p a cm e m v2 v3 v4 v5 → tot (e :: t) ≤ tot (e0 :: t) + (p - lo0) ∧ lo0 ≤ p
  | [], _, _, _, _, _, _, _, _, _, h => ⟨UXQ_nu h.2, h.1⟩
  | s :: S, p, a, cm, e, m, v2, v3, v4, v5, h => by
    obtain ⟨-, a1, cm1, e1, m1, v2', v3', v4', v5', h1, h2, h⟩ := h
    have r1 := USG_nu h1
    rcases h with ⟨-, h, -⟩ | ⟨m2, -, -, h, -⟩
    · have := UXQ_nu h
      omega
    · have := UXQ_nu h
      omega
theorem USG_v : ∀ {S : List Nat} {p a cm : Nat} {e : List Nat × List Nat × Nat} {m : MS} {v2 v3 v4 v5 x2 x3 x4 x5 : Int32}, ((∀ s, s ∈ S → A m0 6 s ≠ 6) ∨ (x2 = v2 ∧ x3 = v3)) → ((∀ s, s ∈ S → A m0 6 s ≠ 16) ∨ (x4 = v4 ∧ x5 = v5)) → USG m0 nm t g lo0 a0 cm0 e0 mS S p a cm e m v2 v3 v4 v5 → USG m0 nm t g lo0 a0 cm0 e0 mS S p a cm e m x2 x3 x4 x5
  | [], _, _, _, _, _, _, _, _, _, _, _, _, _, _, _, h => h
  | s :: S, p, a, cm, e, m, v2, v3, v4, v5, x2, x3, x4, x5, n6, n16, h => by
    obtain ⟨h0, a1, cm1, e1, m1, v2', v3', v4', v5', h1, h2, h⟩ := h
    have n6' : (∀ s, s ∈ S → A m0 6 s ≠ 6) ∨ (x2 = v2 ∧ x3 = v3) := n6.imp (fun z s hs => z s (List.mem_cons_of_mem _ hs)) id
    have n16' : (∀ s, s ∈ S → A m0 6 s ≠ 16) ∨ (x4 = v4 ∧ x5 = v5) := n16.imp (fun z s hs => z s (List.mem_cons_of_mem _ hs)) id
    rcases h with ⟨g1, g2, g4⟩ | ⟨m2, g1, g2, g3, g6⟩
    · obtain ⟨rfl, rfl, rfl, rfl⟩ := g4
      exact ⟨h0, a1, cm1, e1, m1, x2, x3, x4, x5, USG_v n6' n16' h1, h2, Or.inl ⟨g1, g2, rfl, rfl, rfl, rfl⟩⟩
    · rcases g6 with ⟨k6, e2, e3, rfl, rfl⟩ | ⟨k16, e2, e3, rfl, rfl⟩
      · have y6 : x2 = v2 ∧ x3 = v3 := n6.resolve_left (fun z => z s List.mem_cons_self k6)
        exact ⟨h0, a1, cm1, e1, m1, v2', v3', x4, x5, USG_v (Or.inr ⟨rfl, rfl⟩) n16' h1, h2, Or.inr ⟨m2, g1, g2, g3, Or.inl ⟨k6, y6.1.trans e2, y6.2.trans e3, rfl, rfl⟩⟩⟩
      · have y16 : x4 = v4 ∧ x5 = v5 := n16.resolve_left (fun z => z s List.mem_cons_self k16)
        exact ⟨h0, a1, cm1, e1, m1, x2, x3, v4', v5', USG_v n6' (Or.inr ⟨rfl, rfl⟩) h1, h2, Or.inr ⟨m2, g1, g2, g3, Or.inr ⟨k16, y16.1.trans e2, y16.2.trans e3, rfl, rfl⟩⟩⟩
theorem USG_ord (h : USG m0 nm t g lo0 a0 cm0 e0 mS S p a cm e m v2 v3 v4 v5) (hc : CLOk m0 y S) : ∀ s', s' ∈ S → rnkc (A m0 6 s') < rnkc (A m0 6 y) ∨ (rnkc (A m0 6 s') = 4 ∧ rnkc (A m0 6 y) = 4) := by
  cases S with
  | nil => intro s' hs'; cases hs'
  | cons s S =>
    have cl := hc s S rfl
    have p7 := h.1.2
    intro s' hs'
    rcases List.mem_cons.mp hs' with rfl | z
    · exact cl
    · have := p7 s' z
      omega
theorem u_join (h : UXQ m0 nm t g k m a cm e m2 b cm2 e2) (h1 : v1 = I (tk : Nat)) (h4 : tk ≤ 4000) (hh : ∀ m3 b3, UXQ m0 nm t g k m a cm e m3 b3 cm2 e2 → PP RU (fc m3 ()) B) : PP RU (bnd (jm_Cm_joining N m2 xw v1) fc) B := by
  have hC := h.1
  have e106 : ∀ {m3 b3}, UXQ m0 nm t g k m a cm e m3 b3 cm2 e2 → PP RU (bnd (jb_Cm_joining_106 N () m3 xw) fc) B := fun {m3 b3} h3 => by
    unfold jb_Cm_joining_106
    rw [bnd_as2]
    refine u_put h3 (fun _ h5 => ?_)
    rw [bnd_s]
    exact hh _ _ h5
  have e9 : ∀ z : Int32, PP RU (bnd (bnd (jm_Co_put N m2 z) (fun u5 r5 => jb_Cm_joining_106 N () u5 xw)) fc) B := fun z => by
    rw [bnd_as2]
    exact u_put h (fun _ h5 => e106 h5)
  have e10 : PP RU (bnd (bnd (jm_Cm_notInGuard N m2 v1) (fun u19 r19 => bnd (jm_Co_put N u19 10) (fun u21 r21 => jb_Cm_joining_106 N () u21 xw))) fc) B := by
    rw [bnd_as2]
    refine l_ntg (tk := tk) hC.2 h1 (by omega) (fun _ => ?_)
    exact e9 10
  unfold jm_Cm_joining jb_Cm_joining_0
  have brb : ∀ (bb : Bool) (x y : Option (MS × Unit)), PP RU (bnd x fc) B → PP RU (bnd y fc) B → PP RU (bnd (br bb x y) fc) B := fun bb x y hx hy => by
    cases bb with
    | false => rw [br_fq]; exact hy
    | true => rw [br_tq]; exact hx
  exact brb _ _ _ (e9 9) (brb _ _ _ (e9 9) (brb _ _ _ (e9 9) (brb _ _ _ (e9 9) (brb _ _ _ (e9 9) (brb _ _ _ e10 (brb _ _ _ e10 (e9 8)))))))
theorem u_sgl (IE : HUE N m0 T nm f) (hxb : xb ≤ 8015) (hr4 : r ≤ 400) (hiT : hi ≤ T) (hT4 : T ≤ 4000) (htot : tot (e0 :: t) + (hi - lo0) ≤ 4000 ∧ (e0 :: t).length ≤ o + 1) :
    ∀ (j k n x cc q : Nat) (S : List Nat) (gg : Bool) (a cm : Nat) (e : List Nat × List Nat × Nat) (m : MS) (v2 v3 v4 v5 : Int32), SFcK m0 (XPcK m0 f o 1) hi xb r j n x cc q S gg → (gg = true → 1 ≤ x) → USG m0 nm t g lo0 a0 cm0 e0 mS S (if gg = true then x - 1 else x) a cm e m v2 v3 v4 v5 → PP (fun v (_ : Unit) (_ : MS) (_ : Unit) => UXP m0 nm t g (hi - lo0) mS a0 cm0 e0 v) (jg_Cm_signs N (jrc_Cm_fun N D) k m v2 v3 v4 v5 (I (n : Nat))) (some (m0, ())) := by
  have hb : BdE (XPcK m0 f o 1) := XP_bdK f o 1
  intro j
  induction j with
  | zero =>
    intro k n x cc q S gg a cm e m v2 v3 v4 v5 h hx1 hS
    obtain ⟨rfl, rfl, rfl, rfl, rfl, rfl⟩ := h
    rw [if_pos rfl, show hi + 1 - 1 = hi from rfl] at hS
    cases k with
    | zero => exact pp_nl
    | succ k =>
      show PP _ (jb_Cm_signs_13 N (jrc_Cm_fun N D) (jg_Cm_signs N (jrc_Cm_fun N D) k) m v2 v3 v4 v5 (I ((0 : Nat) : Int))) _
      unfold jb_Cm_signs_13
      rw [show decide (I ((0 : Nat) : Int) = 0) = true from rfl, br_tq]
      exact pp_end ⟨_, _, _, hS.2⟩
  | succ j ih =>
    intro k n x cc q S gg a cm e m v2 v3 v4 v5 h hx1 hS
    obtain ⟨hn1, n2, x2, c2, q2, S2, g2, h1, h21, hs⟩ := h
    have sh := SF_hd2 hb hs
    have hnow := USG_now hS
    have hnu := USG_nu hS
    have fr := XCS_fr hnow.1
    cases k with
    | zero => exact pp_nl
    | succ k =>
    have nxt : ∀ {m3 v2 v3 v4 v5}, n ≤ 8015 → FRC m0 m3 → PP (fun v (_ : Unit) (_ : MS) (_ : Unit) => UXP m0 nm t g (hi - lo0) mS a0 cm0 e0 v) (jg_Cm_signs N (jrc_Cm_fun N D) k m3 v2 v3 v4 v5 (I (n2 : Nat))) (some (m0, ())) → PP (fun v (_ : Unit) (_ : MS) (_ : Unit) => UXP m0 nm t g (hi - lo0) mS a0 cm0 e0 v) (jb_Cm_signs_198 N (jrc_Cm_fun N D) (jg_Cm_signs N (jrc_Cm_fun N D) k) m3 v2 v3 v4 v5 (I (n : Nat))) (some (m0, ())) := fun {m3 v2 v3 v4 v5} hn fr3 h => by
      unfold jb_Cm_signs_198
      rw [i_nt2 (show n ≤ 100000 by omega), tre fr3 (by decide) h21]
      exact l_ck (fun _ => h)
    show PP _ (jb_Cm_signs_13 N (jrc_Cm_fun N D) (jg_Cm_signs N (jrc_Cm_fun N D) k) m v2 v3 v4 v5 (I (n : Nat))) _
    rcases h1 with ⟨⟨mm, hE, rfl⟩, rfl, h3⟩ | ⟨⟨hx2, hc1, hc2, hq2⟩, rfl, h3⟩
    · 
      have hd := xp_hd hE
      have hn : n ≤ 8015 := by clear h3; omega
      obtain ⟨v, hv, hv18⟩ := xp_kd hE
      have unit : USG m0 nm t g lo0 a0 cm0 e0 mS S2 x a cm e m v2 v3 v4 v5 → PP (fun v (_ : Unit) (_ : MS) (_ : Unit) => UXP m0 nm t g (hi - lo0) mS a0 cm0 e0 v) (jb_Cm_signs_13 N (jrc_Cm_fun N D) (jg_Cm_signs N (jrc_Cm_fun N D) k) m v2 v3 v4 v5 (I (n : Nat))) (some (m0, ())) := fun hS => by
        have hnu := USG_nu hS
        have dv : ∀ x : Nat, 19 ≤ x → x ≤ 30 → decide (I ((v : Nat) : Int) = I ((x : Nat) : Int)) = false := fun x h1 h2 => decide_eq_false (fun z => by
          have := (I_eq (x := ((v : Nat) : Int)) (y := ((x : Nat) : Int)) (by omega) (by omega) (by omega) (by omega)).mp z
          omega)
        unfold jb_Cm_signs_13
        rw [decide_eq_false (fun z => by
          have := (I_eq (x := ((n : Nat) : Int)) (y := 0) (by omega) (by omega) (by decide) (by decide)).mp z
          omega), br_fq]
        refine l_ck (fun _ => l_ck (fun _ => ?_))
        rw [i_nt2 (show n ≤ 100000 by omega), tre fr (by decide) hv, show (24 : Int32) = I ((24 : Nat) : Int) from rfl, dv 24 (by omega) (by omega), br_fq]
        unfold jb_Cm_signs_82
        rw [show (24 : Int32) = I ((24 : Nat) : Int) from rfl, dv 24 (by omega) (by omega), br_fq, show (23 : Int32) = I ((23 : Nat) : Int) from rfl, dv 23 (by omega) (by omega), br_fq]
        refine l_bnd (pk_mo (IE D o 1 n x mm cc c2 q q2 m a cm e t g false hE (by omega) (by omega) (by omega) hnow.1 hnow.2 ⟨by omega, htot.2⟩) (fun m3 z hz => ?_))
        obtain ⟨b3, cm3, e3, h4⟩ := hz
        refine nxt hn (XCS_fr h4.1) (ih k n2 (mm + 1) c2 q2 S2 true b3 cm3 e3 m3 v2 v3 v4 v5 hs (fun _ => by omega) ?_)
        rw [if_pos rfl, show mm + 1 - 1 = mm from rfl]
        exact USG_ext hS h4 (by omega)
      rcases h3 with ⟨rfl, rfl⟩ | ⟨rfl, rfl, hr3, hcl3⟩
      · exact unit hS
      · rw [if_pos rfl] at hS hnu
        have := hx1 rfl
        refine unit ⟨⟨Or.inl hr3, USG_ord hS hcl3⟩, a, cm, e, m, v2, v3, v4, v5, hS, by omega, Or.inl ⟨hr3, UXQ_mo (UXQ_rf hnow.1 hnow.2) (by omega), rfl, rfl, rfl, rfl⟩⟩
    · 
      rw [hx2, hc2, hq2] at hs
      rw [hx2, hc2, hq2] at sh
      have hx1 := hx1 rfl
      rw [if_pos rfl] at hS hnu
      have hn : n ≤ 8015 := by clear h3; omega
      unfold jb_Cm_signs_13
      rw [decide_eq_false (fun z => by
        have := (I_eq (x := ((n : Nat) : Int)) (y := 0) (by omega) (by omega) (by decide) (by decide)).mp z
        omega), br_fq]
      refine l_ck (fun _ => l_ck (fun _ => ?_))
      rw [i_nt2 (show n ≤ 100000 by omega)]
      rcases h3 with ⟨h16, h17, h18, hk, hcl3, rfl, rfl⟩ | ⟨h16, s, rfl, h17, h18, hpop, rfl⟩
      · have two : ∀ (zz : Int32) {F : MS → Int32 → Option (MS × Unit)}, (∀ m3, UXQ m0 nm t g 0 m a cm e m3 (a + 2) cm e → m3.2.2.1 23 (a + 1) = 0 → PP (fun v (_ : Unit) (_ : MS) (_ : Unit) => UXP m0 nm t g (hi - lo0) mS a0 cm0 e0 v) (F m3 (I ((a + 1 : Nat) : Int))) (some (m0, ()))) → PP (fun v (_ : Unit) (_ : MS) (_ : Unit) => UXP m0 nm t g (hi - lo0) mS a0 cm0 e0 v) (bnd (jm_Co_put N m zz) (fun u39 r39 => bnd (jm_Co_hook N u39 0) F)) (some (m0, ())) := fun zz {F} hF =>
          u_put (UXQ_rf hnow.1 hnow.2) (fun _ h1 => u_hook h1 (fun _ h2 => hF _ h2 ptc_n))
        rw [tre fr (by decide) h16, show decide (I 24 = (24 : Int32)) = true from rfl, br_tq]
        rcases hk with z | z
        · have h18' : m.2.2.1 18 n = I 6 := tre fr (by decide) (h18.trans z)
          rw [h18', show decide (I 6 = (6 : Int32)) = true from rfl, br_tq]
          refine two 13 (fun m3 h5 h6 => nxt hn (XCS_fr h5.1) (ih k n2 x n _ _ false (a + 2) cm e m3 _ _ v4 v5 hs (fun y => by cases y) ?_))
          exact ⟨⟨Or.inr (Or.inl z), USG_ord hS hcl3⟩, a, cm, e, m, v2, v3, v4, v5, hS, by show x - 1 ≤ x; omega, Or.inr ⟨m3, h5, h6, UXQ_mo (UXQ_rf h5.1 h5.2.1) (Nat.zero_le _), Or.inl ⟨z, rfl, h5.1.1.2.1.2.2.1, rfl, rfl⟩⟩⟩
        · have h18' : m.2.2.1 18 n = I 16 := tre fr (by decide) (h18.trans z)
          rw [h18', show decide (I 16 = (6 : Int32)) = false from rfl, br_fq]
          unfold jb_Cm_signs_82
          rw [show decide (I 24 = (24 : Int32)) = true from rfl, br_tq]
          refine two 14 (fun m3 h5 h6 => nxt hn (XCS_fr h5.1) (ih k n2 x n _ _ false (a + 2) cm e m3 v2 v3 _ _ hs (fun y => by cases y) ?_))
          exact ⟨⟨Or.inr (Or.inr z), USG_ord hS hcl3⟩, a, cm, e, m, v2, v3, v4, v5, hS, by show x - 1 ≤ x; omega, Or.inr ⟨m3, h5, h6, UXQ_mo (UXQ_rf h5.1 h5.2.1) (Nat.zero_le _), Or.inr ⟨z, rfl, h5.1.1.2.1.2.2.1, rfl, rfl⟩⟩⟩
      · 
        obtain ⟨⟨hr, hord⟩, a1, cm1, e1, m1, v2', v3', v4', v5', hS1, hsp, hcase⟩ := hS
        have ok1 := (USG_now hS1).2
        have p1 : 1 ≤ a1 := (USG_now hS1).1.1.2.2.1.2.1
        have r6 : rnkc 6 = 2 := by decide
        have r16 : rnkc 16 = 1 := by decide
        have fin : ∀ {m3 b3 cm3 e3}, USG m0 nm t g lo0 a0 cm0 e0 mS S2 (x - 1) b3 cm3 e3 m3 v2 v3 v4 v5 → PP (fun v (_ : Unit) (_ : MS) (_ : Unit) => UXP m0 nm t g (hi - lo0) mS a0 cm0 e0 v) (jb_Cm_signs_198 N (jrc_Cm_fun N D) (jg_Cm_signs N (jrc_Cm_fun N D) k) m3 v2 v3 v4 v5 (I (n : Nat))) (some (m0, ())) := fun {m3 b3 cm3 e3} h5 => nxt hn (XCS_fr (USG_now h5).1) (ih k n2 x n _ S2 true b3 cm3 e3 m3 v2 v3 v4 v5 hs (fun _ => hx1) h5)
        have pop : ∀ {m2 : MS} {va : Int32}, UXQ m0 nm t g 0 m1 a1 cm1 e1 m2 (a1 + 2) cm1 e1 → m2.2.2.1 23 (a1 + 1) = 0 → UXQ m0 nm t g (x - 1 - s) m2 (a1 + 2) cm1 e1 m a cm e → va = I (tot (e1 :: t) : Nat) → (∀ {m3 b3}, UXQ m0 nm t g (x - 1 - s) m1 a1 cm1 e1 m3 b3 cm e1 → PP (fun v (_ : Unit) (_ : MS) (_ : Unit) => UXP m0 nm t g (hi - lo0) mS a0 cm0 e0 v) (jb_Cm_signs_198 N (jrc_Cm_fun N D) (jg_Cm_signs N (jrc_Cm_fun N D) k) m3 v2 v3 v4 v5 (I (n : Nat))) (some (m0, ()))) → ∀ vb : Int32, vb = I ((a1 + 1 : Nat) : Int) → PP (fun v (_ : Unit) (_ : MS) (_ : Unit) => UXP m0 nm t g (hi - lo0) mS a0 cm0 e0 v) (bnd (jm_Cm_forget N m va) (fun u16 r16 => bnd (hm_Co_arrive N u16 vb) (fun u18 r18 => jb_Cm_signs_198 N (jrc_Cm_fun N D) (jg_Cm_signs N (jrc_Cm_fun N D) k) u18 v2 v3 v4 v5 (I (n : Nat))))) (some (m0, ())) := fun {m2 va} g1 g2 g3 hva hF vb hvb => by
          have a2k : a1 + 2 ≤ 23990 := g1.1.1.2.2.1.2.2
          rw [hva, hvb]
          refine u_fg g3 ok1 (fun m4 b4 h5 => ?_)
          have w4 : m4.2.2.1 23 (a1 + 1) = 0 := (h5.2.2.2.2.2.2.1 (a1 + 1) (by omega)).trans g2
          refine u_arr (hs := [a1 + 1]) (UXQ_tr g1 h5) ⟨rfl, ⟨by omega, by omega⟩, fun h hm => (by cases hm), w4⟩ (fun j hj => ?_) (fun Z hZ _ => hF (UXQ_mo hZ (Nat.zero_le _)))
          rcases List.mem_cons.mp hj with rfl | y
          · omega
          · cases y
        rw [tre fr (by decide) h16, show decide (I 23 = (24 : Int32)) = false from rfl, br_fq]
        unfold jb_Cm_signs_82
        rw [show decide (I 23 = (24 : Int32)) = false from rfl, br_fq, show decide (I 23 = (23 : Int32)) = true from rfl, br_tq]
        rcases hcase with ⟨hr3, g2, rfl, rfl, rfl, rfl⟩ | ⟨m2, g1, g2, g3, hv⟩
        · have step : PP (fun v (_ : Unit) (_ : MS) (_ : Unit) => UXP m0 nm t g (hi - lo0) mS a0 cm0 e0 v) (ck (inb (I (n : Nat)) 8016) (bnd (jm_Cm_joining N m (m.2.2.1 18 n) (m.2.2.1 17 (I (n : Nat)).toNatClampNeg)) (fun u11 r11 => jb_Cm_signs_198 N (jrc_Cm_fun N D) (jg_Cm_signs N (jrc_Cm_fun N D) k) u11 v2' v3' v4' v5' (I (n : Nat))))) (some (m0, ())) := by
            refine l_ck (fun _ => ?_)
            rw [i_nt2 (show n ≤ 100000 by omega), tre fr (by decide) h17]
            exact u_join (tk := s) g2 rfl (by omega) (fun m3 b3 h5 => fin (USG_ext hS1 h5 hsp))
          have n6 : decide (m.2.2.1 18 n = (6 : Int32)) = false := decide_eq_false (fun z => by
            have : A m 18 n = 6 := by show (m.2.2.1 18 n).toInt = 6; rw [z]; rfl
            have e18 : A m 18 n = A m0 6 s := by
              show (m.2.2.1 18 n).toInt = _
              rw [fr.2 18 (by decide)]
              exact h18
            rw [← e18, this, r6] at hr3
            omega)
          have n16 : decide (m.2.2.1 18 n = (16 : Int32)) = false := decide_eq_false (fun z => by
            have : A m 18 n = 16 := by show (m.2.2.1 18 n).toInt = 16; rw [z]; rfl
            have e18 : A m 18 n = A m0 6 s := by
              show (m.2.2.1 18 n).toInt = _
              rw [fr.2 18 (by decide)]
              exact h18
            rw [← e18, this, r16] at hr3
            omega)
          rw [n6, br_fq, n16, br_fq]
          exact step
        · rcases hv with ⟨z, z2, z3, rfl, rfl⟩ | ⟨z, z2, z3, rfl, rfl⟩
          · have h18' : m.2.2.1 18 n = I 6 := tre fr (by decide) (h18.trans z)
            rw [h18', show decide (I 6 = (6 : Int32)) = true from rfl, br_tq]
            refine pop g1 g2 g3 z3 (fun {m3 b3} h5 => fin (USG_v (Or.inl (fun s' hs' y => ?_)) (Or.inr ⟨rfl, rfl⟩) (USG_ext hS1 h5 hsp))) _ z2
            have := hord s' hs'
            rw [y, z, r6] at this
            omega
          · have h18' : m.2.2.1 18 n = I 16 := tre fr (by decide) (h18.trans z)
            rw [h18', show decide (I 16 = (6 : Int32)) = false from rfl, br_fq, show decide (I 16 = (16 : Int32)) = true from rfl, br_tq]
            refine pop g1 g2 g3 z3 (fun {m3 b3} h5 => fin (USG_v (Or.inr ⟨rfl, rfl⟩) (Or.inl (fun s' hs' y => ?_)) (USG_ext hS1 h5 hsp))) _ z2
            have := hord s' hs'
            rw [y, z, r16] at this
            omega
theorem u_sgn (IE : HUE N m0 T nm f) (hC : XCS m0 nm m a cm (e :: t) g) (ok : SOK (e :: t)) (hn : n ≤ 8015) (h16 : A m0 16 n = 22) (h18 : A m0 18 n = ((x : Nat) : Int)) (hs : SFcK m0 (XPcK m0 f o 1) hi xb r j x lo xa q [] false) (hxb : xb ≤ 8015) (hr4 : r ≤ 400) (hiT : hi ≤ T) (hT4 : T ≤ 4000) (htot : tot (e :: t) + (hi - lo) ≤ 4000 ∧ (e :: t).length ≤ o + 1) : PK (fun v _ => UXP m0 nm t g (hi - lo) m a cm e v) (jm_Cm_expression N (jrc_Cm_fun N D) m (I (n : Nat)) (lsI lst)) := by
  have fr := XCS_fr hC
  refine pu_pk (w := m0) (exd_22 hn (tre fr (by decide) h16) ?_)
  rw [tre fr (by decide) h18]
  refine l_ck (fun _ => l_id ?_)
  cases D with
  | zero => exact pp_nl
  | succ D =>
  show PP _ (jm_Cm_signs N (jrc_Cm_fun N D) m (I (x : Nat))) _
  unfold jm_Cm_signs jb_Cm_signs_0
  exact u_sgl IE hxb hr4 hiT hT4 htot j N x lo xa q [] false a cm e m 0 0 0 0 hs (fun y => by cases y) ⟨Nat.le_refl _, UXQ_mo (UXQ_rf hC ok) (Nat.zero_le _)⟩
end
end
section
set_option maxRecDepth 100000
def UHQ (m0 : MS) (nm : Nat → Nat) (t : SCT) (k : Nat) (m : MS) (a cm : Nat) (e : List Nat × List Nat × Nat) (m2 : MS) (b cm2 : Nat) (e2 : List Nat × List Nat × Nat) (hs : List Nat) (v : Int32) : Prop := UXQ m0 nm t false k m a cm e m2 b cm2 e2 ∧ HKc m2 hs v ∧ ∀ h, h ∈ hs → a ≤ h ∧ h < b
def UHP (m0 : MS) (nm : Nat → Nat) (t : SCT) (k : Nat) (m : MS) (a cm : Nat) (e : List Nat × List Nat × Nat) (v : MS) (r : Int32) : Prop := ∃ (b cm2 : Nat) (e2 : List Nat × List Nat × Nat) (hs : List Nat), UHQ m0 nm t k m a cm e v b cm2 e2 hs r
section
variable {α β : Type} {m0 w0 m w m2 w2 m3 w3 m4 v u w1 mS wS : MS} {K nm Nk W W2 : Nat → Nat} {N T D d o a a0 a2 b b0 b4 c cm cm0 cm2 cm3 cm4 p pl ph q q0 r s lo lo0 mid hi i j f f2 n n1 k k2 kk KK kp p2 σ tk x xa xb xc xd mm M m1 lv y cl l2 : Nat} {sc sc0 sc2 sc3 t t2 : SCT} {e e0 e2 e3 e4 : List Nat × List Nat × Nat} {g g2 own lst : Bool} {hs : List Nat} {v1 v2 v3 v4 v5 vv xw : Int32} {RU : MS → α → MS → β → Prop} {B : Option (MS × β)} {fc : MS → Unit → Option (MS × α)} {RX : MS → Int32 → MS → β → Prop} {QU : MS → α → Prop} {AU : Option (MS × α)}
theorem pv_pk (h : PP (fun v r (_ : MS) (_ : Unit) => QU v r) AU (some (w, ()))) : PK QU AU := fun v r e => h v r w () e rfl
theorem UHQ_tr (h : UHQ m0 nm t k m a cm e m2 b cm2 e2 hs vv) (h2 : UXQ m0 nm t false k2 m2 b cm2 e2 m3 c cm3 e3) : UHQ m0 nm t (k + k2) m a cm e m3 c cm3 e3 hs vv := by
  obtain ⟨h1, h3, h4⟩ := h
  have h5 := UXQ_tr h1 h2
  refine ⟨h5, HKc_fr h3 (fun j hj => h2.2.2.2.2.2.2.1 j (h4 j hj).2), fun j hj => ⟨(h4 j hj).1, ?_⟩⟩
  have := (h4 j hj).2
  have := h2.2.2.2.2.1.1
  omega
theorem UHQ_mo (h : UHQ m0 nm t k m a cm e m2 b cm2 e2 hs vv) (hk : k ≤ k2) : UHQ m0 nm t k2 m a cm e m2 b cm2 e2 hs vv := ⟨UXQ_mo h.1 hk, h.2⟩
theorem UPQ_713 (hC : XCS m0 nm m a cm (e :: t) false) (h : UPQ m0 nm t own k (upI m 713 xw) a cm e m4 b4 cm4 e4) : UXQ m0 nm t false k m a cm e (upI m4 713 0) b4 cm4 e4 := by
  obtain ⟨h1, h2, h3, h4, h5, h6⟩ := h
  have h7 := XFC_U (q := 0) (r := 0) (XFC_P h6)
  have n713 : m.1 713 = 0 := of_decide_eq_true (by have := hC.1.2.2.2.1; exact this)
  refine ⟨⟨PCS_713 h1 rfl, ?_⟩, h2, h3, h4, h5, ⟨fun k k1 k2 => ?_, h7.2⟩⟩
  · have e1 := h7.1 712 (by decide) (by decide)
    rw [upI_ne (by decide)] at e1
    rw [upI_ne (by decide), e1]
    exact hC.2
  · by_cases z : k = 713
    · rw [z, upI_at, n713]
    · have e1 := h7.1 k k1 k2
      rw [upI_ne z] at e1
      rw [upI_ne z, e1]
theorem u_gds (IE : HUE N m0 T nm f) (hxb : xb ≤ 8015) (hr4 : r ≤ 400) (hiT : mid ≤ T) (hX : UHQ m0 nm t k m a cm e m2 b cm2 e2 hs v4) (htot : tot (e2 :: t) + (mid - lo) ≤ 4000 ∧ t.length + 1 ≤ o + 1) (hn : n ≤ 8015) (h19 : A m0 19 n = ((x : Nat) : Int)) (hG : x = 0 ∨ ∃ kg, RWcK m0 1 26 (XPcK m0 f o 3) kg x lo mid xa xb q r) (hh : ∀ m3 b3 cm3 e3 hs3 vv, UHQ m0 nm t (k + (mid - lo)) m a cm e m3 b3 cm3 e3 hs3 vv → PP RX (some (m3, vv)) B) : PP RX (jb_Cm_tries_111 N (jrc_Cm_fun N D) (jg_Cm_tries N (jrc_Cm_fun N D) M) m2 (I (n : Nat)) v3 v4) B := by
  obtain ⟨hX, hk, hb⟩ := hX
  have hC := hX.1
  have fr := XCS_fr hC
  unfold jb_Cm_tries_111
  rw [i_nt2 (show n ≤ 100000 by omega), tre fr (by decide) h19]
  refine l_ck (fun _ => ?_)
  rcases hG with rfl | ⟨kg, hG⟩
  · rw [show decide (I ((0 : Nat) : Int) = (0 : Int32)) = true from rfl, br_tq]
    exact hh m2 b cm2 e2 hs v4 ⟨UXQ_mo hX (by omega), hk, hb⟩
  have hd := (RW_hdK (XP_bdK _ _ _) hG).1
  unfold HDc at hd
  rw [decide_eq_false (fun z => by
    have := (I_eq (x := ((x : Nat) : Int)) (y := 0) (by omega) (by omega) (by decide) (by decide)).mp z
    omega), br_fq, lt_e]
  have z712 : m2.1 712 = 0 := of_decide_eq_true (by have := hC.2; exact this)
  have cG : XCS m0 nm (upI m2 712 1) b cm2 (e2 :: t) true := XCS_712 hC rfl
  refine u_put (UXQ_rf cG hX.2.1) (fun _ h1 => u_put h1 (fun _ h2 => u_hook h2 (fun hb3 h3 => l_ck (fun _ => ?_))))
  have wv : ∀ x : MS, (ptc x (b + 1 + 1) v4).2.2.1 23 (b + 1 + 1) = v4 := fun x => ptc_n
  have wv := wv (ptc (ptc (upI m2 712 1) b 21) (b + 1) ((ptc (upI m2 712 1) b 21).1 706 - v3))
  generalize ptc (ptc (ptc (upI m2 712 1) b 21) (b + 1) ((ptc (upI m2 712 1) b 21).1 706 - v3)) (b + 1 + 1) v4 = mH at h3 wv
  rw [tre (XCS_fr h3.1) (by decide) h19, z712]
  refine u_grd (KK := mid - lo) IE hxb hr4 hiT ⟨by exact htot.1, htot.2⟩ (fun m3 c3 cm3 e3 h4 => ?_) kg x lo xa q M 0 mH (b + 1 + 1 + 1) cm2 e2 hG (UXQ_rf h3.1 h3.2.1) (by omega)
  have h5 := UXQ_tr h3 h4
  have c5 : XCS m0 nm (upI m3 712 0) c3 cm3 (e3 :: t) false := XCS_712 h5.1 rfl
  have b2k : b + 1 + 1 + 1 ≤ 23990 := h3.1.1.2.2.1.2.2
  have b1 : 1 ≤ b := hC.1.2.2.1.2.1
  have f5 : UFC m2 (upI m3 712 0) b t.length := by
    refine ⟨fun k k1 k2 => ?_, h5.2.2.2.2.2.2⟩
    by_cases z : k = 712
    · rw [z, upI_at, z712]
    · rw [upI_ne z, h5.2.2.2.2.2.1 k k1 k2, upI_ne z]
  have X6 : UXQ m0 nm t false (mid - lo) m2 b cm2 e2 (upI m3 712 0) c3 cm3 e3 := ⟨c5, h5.2.1, h5.2.2.1, by have := h5.2.2.2.1; omega, h5.2.2.2.2.1, f5⟩
  have X7 : UHQ m0 nm t (k + (mid - lo)) m a cm e (upI m3 712 0) c3 cm3 e3 hs v4 := UHQ_tr ⟨hX, hk, hb⟩ X6
  refine hh (upI m3 712 0) c3 cm3 e3 ((b + 1 + 1) :: hs) _ ⟨X7.1, ⟨rfl, ⟨by omega, by omega⟩, fun h' hm => by have := (hb h' hm).2; omega, ?_⟩, fun h hm => ?_⟩
  · have e1 : (upI m3 712 0).2.2.1 23 (b + 1 + 1) = v4 := (h4.2.2.2.2.2.2.1 (b + 1 + 1) (by omega)).trans wv
    rw [e1]
    exact X7.2.1
  · have := h4.2.2.2.2.1.1
    have := hX.2.2.2.2.1.1
    rcases List.mem_cons.mp hm with rfl | z
    · exact ⟨by omega, by omega⟩
    · exact X7.2.2 h z
theorem u_pts (c : CTZ m0 w0 K T nm Nk) (cv : CTV m0 w0 K T) (hxb : xb ≤ 8015) (hiT : hi ≤ T) (htot : tot (e :: t) + KK ≤ 4000) (hh : ∀ m3 b3 cm3 e3 M, UPQ m0 nm t own KK m a cm e m3 b3 cm3 e3 → PP RX ((jg_Cm_tries N (jrc_Cm_fun N D) M).1 m3 v2 v3 v4 (I 0)) B) : ∀ (k n lo xa q M kk : Nat) (m2 : MS) (b cm2 : Nat) (e2 : List Nat × List Nat × Nat), RWcK m0 1 26 (PAcK m0 f) k n lo hi xa xb q r → UPQ m0 nm t own kk m a cm e m2 b cm2 e2 → kk + (hi - lo) ≤ KK → PP RX ((jg_Cm_tries N (jrc_Cm_fun N D) M).1 m2 v2 v3 v4 (I (n : Nat))) B
  | 0, n, lo, xa, q, M, kk, m2, b, cm2, e2, h, hX, hk => h.elim
  | k + 1, n, lo, xa, q, M, kk, m2, b, cm2, e2, h, hX, hk => by
    obtain ⟨mid, c1, s, hE, h⟩ := h
    have hd := PA_bdK _ _ _ _ _ _ _ _ hE
    unfold HDc at hd
    have hms : mid ≤ hi ∧ c1 ≤ xb := by
      rcases h with ⟨-, -, rfl, rfl, rfl⟩ | ⟨⟨-, k27⟩, n2, -, hw⟩
      · exact ⟨Nat.le_refl _, Nat.le_refl _⟩
      · have := (RW_hdK (PA_bdK _) hw).1
        unfold HDc at this
        exact ⟨by omega, by omega⟩
    have tt := hX.2.2.2.1
    have o1 : 1 ≤ n ∧ n ≤ 8015 ∧ c1 ≤ 8015 ∧ mid ≤ T ∧ tot (e2 :: t) + (mid - lo) ≤ 4000 := by clear h; exact ⟨by omega, by omega, by omega, by omega, by omega⟩
    cases M with
    | zero => exact pp_nl
    | succ M =>
    show PP RX (jb_Cm_tries_71 N (jrc_Cm_fun N D) (jg_Cm_tries N (jrc_Cm_fun N D) M) m2 v2 v3 v4 (I (n : Nat))) B
    unfold jb_Cm_tries_71
    rw [decide_eq_false (fun z => by
      have := (I_eq (x := ((n : Nat) : Int)) (y := 0) (by omega) (by omega) (by decide) (by decide)).mp z
      omega), br_fq]
    unfold jr_Cm_pattern
    refine l_bnd (pk_mo (u_pat c cv f 300 n lo mid xa c1 q s m2 b cm2 e2 t own hE o1.2.2.1 o1.2.2.2.1 hX.1 hX.2.1 o1.2.2.2.2) (fun m3 z hz => ?_))
    obtain ⟨b3, cm3, e3, h3⟩ := hz
    have hX3 := UPQ_tr hX h3
    refine l_ck (fun _ => ?_)
    rw [i_nt2 (show n ≤ 100000 by omega)]
    have fr3 : FRC m0 m3 := hX3.1.1
    rcases h with ⟨rfl, h21, rfl, rfl, rfl⟩ | ⟨⟨hk1, hk27⟩, n2, h21, hw⟩
    · rw [tre fr3 (by decide) h21]
      exact hh _ _ _ _ M (UPQ_mo hX3 (by omega))
    · have hw1 := (RW_hdK (PA_bdK _) hw).1
      unfold HDc at hw1
      rw [tre fr3 (by decide) h21]
      exact u_pts c cv hxb hiT htot hh k n2 (mid + 1) c1 s M (kk + (mid - lo)) m3 b3 cm3 e3 hw hX3 (by omega)
theorem u_try (c : CTZ m0 w0 K T nm Nk) (cv : CTV m0 w0 K T) (IE : HUE N m0 T nm f) (hC : XCS m0 nm m a cm (e :: t) false) (ok : SOK (e :: t)) (hn : n ≤ 8015) (h18 : A m0 18 n = ((p : Nat) : Int)) (hP : ORcK m0 1 26 (PAcK m0 f2) kp p pl ph xa xc q q) (hxc : xc ≤ 8015) (hpl : pl ≤ ph) (hpT : ph ≤ T) (hxb : xb ≤ 8015) (hr4 : r ≤ 400) (hiT : mid ≤ T) (htot : tot (e :: t) + ((ph - pl) + (mid - lo)) ≤ 4000 ∧ t.length + 1 ≤ o + 1) (h19 : A m0 19 n = ((x : Nat) : Int)) (hG : x = 0 ∨ ∃ kg, RWcK m0 1 26 (XPcK m0 f o 3) kg x lo mid xd xb q r) : PK (fun v r => UHP m0 nm t ((ph - pl) + (mid - lo)) m a cm e v r) ((jrc_Cm_fun N D).2.2.2.2.2.2.2.2.2.2.2.1 m v1 (I (n : Nat))) := by
  have fr := XCS_fr hC
  refine pv_pk (w := m0) ?_
  cases D with
  | zero => exact pp_nl
  | succ D =>
  show PP _ (jm_Cm_tries N (jrc_Cm_fun N D) m v1 (I (n : Nat))) _
  unfold jm_Cm_tries jb_Cm_tries_0
  rw [i_nt2 (show n ≤ 100000 by omega), tre fr (by decide) h18]
  refine l_ck (fun _ => ?_)
  rcases hP with ⟨-, rfl, hlo, -, -⟩ | ⟨-, hP⟩
  · rw [show decide (I ((0 : Nat) : Int) = (0 : Int32)) = true from rfl, br_tq]
    exact u_gds (hs := []) IE hxb hr4 hiT ⟨UXQ_rf hC ok, rfl, fun h hm => (by cases hm)⟩ ⟨by omega, htot.2⟩ hn h19 hG (fun m3 b3 cm3 e3 hs3 vv h => pp_end ⟨_, _, _, _, UHQ_mo h (by omega)⟩)
  have hd := (RW_hdK (PA_bdK _) hP).1
  unfold HDc at hd
  rw [decide_eq_false (fun z => by
    have := (I_eq (x := ((p : Nat) : Int)) (y := 0) (by omega) (by omega) (by decide) (by decide)).mp z
    omega), br_fq]
  refine u_put (UXQ_rf hC ok) (fun _ h1 => u_put h1 (fun _ h2 => u_hook h2 (fun hb3 h3 => ?_)))
  have wv : ∀ x : MS, (ptc x (a + 1 + 1) 0).2.2.1 23 (a + 1 + 1) = 0 := fun x => ptc_n
  have wv := wv (ptc (ptc m a 19) (a + 1) v1)
  generalize ptc (ptc (ptc m a 19) (a + 1) v1) (a + 1 + 1) 0 = mH at h3 wv
  have b2k : a + 1 + 1 + 1 ≤ 23990 := h3.1.1.2.2.1.2.2
  have rest : ∀ (own : Bool) (t1 : Int32), isb t1 = true → decide (t1 = 0) = !own → ∀ v3, PP (fun v r (_ : MS) (_ : Unit) => UHP m0 nm t ((ph - pl) + (mid - lo)) m a cm e v r) (jb_Cm_tries_57 N (jrc_Cm_fun N D) (jg_Cm_tries N (jrc_Cm_fun N D) N) mH (I (n : Nat)) v3 (I ((a + 1 + 1 : Nat) : Int)) t1) (some (m0, ())) := fun own t1 hb1 hown v3 => by
    unfold jb_Cm_tries_57
    have cO : PCS m0 nm (upI mH 713 t1) (a + 1 + 1 + 1) cm (e :: t) own := PCS_713 h3.1.1 hown
    rw [hb1, ck_t, lt_e, i_nt2 (show n ≤ 100000 by omega), tre (m := upI mH 713 t1) cO.1 (by decide) h18]
    refine l_ck (fun _ => ?_)
    refine u_pts (KK := ph - pl) (own := own) c cv hxc hpT (by omega) (fun m4 b4 cm4 e4 M h4 => ?_) kp p pl xa q N 0 (upI mH 713 t1) (a + 1 + 1 + 1) cm e hP (UPQ_rf cO ok) (by omega)
    have h5 := UPQ_713 h3.1 h4
    cases M with
    | zero => exact pp_nl
    | succ M =>
    show PP _ (jb_Cm_tries_71 N (jrc_Cm_fun N D) (jg_Cm_tries N (jrc_Cm_fun N D) M) m4 (I (n : Nat)) v3 (I ((a + 1 + 1 : Nat) : Int)) (I 0)) _
    unfold jb_Cm_tries_71
    rw [show decide (I 0 = (0 : Int32)) = true from rfl, br_tq, lt_e]
    refine u_put h5 (fun _ h6 => ?_)
    have h7 := UXQ_tr h3 h6
    have nu := UXQ_nu h7
    have w4 := (h6.2.2.2.2.2.2.1 (a + 1 + 1) (by omega)).trans wv
    have le := h6.2.2.2.2.1.1
    refine u_gds (hs := [a + 1 + 1]) IE hxb hr4 hiT ⟨h7, ⟨rfl, ⟨by omega, by omega⟩, fun h hm => (by cases hm), w4⟩, fun h hm => ?_⟩ ⟨by omega, htot.2⟩ hn h19 hG (fun m3 b3 cm3 e3 hs3 vv h => pp_end ⟨_, _, _, _, UHQ_mo h (by omega)⟩)
    rcases List.mem_cons.mp hm with rfl | y
    · exact ⟨by omega, by omega⟩
    · cases y
  exact l_br (fun _ => rest false 0 rfl rfl _) (fun _ => rest true 1 rfl rfl _)
end
end
section
set_option maxRecDepth 100000
section
variable {α β : Type} {m0 w0 m w m2 w2 m3 w3 m4 v u w1 mS wS : MS} {K nm Nk W W2 : Nat → Nat} {N T D d o a a0 a2 b b0 b4 c cm cm0 cm2 cm3 cm4 p pl ph q q0 r s lo lo0 mid hi i j f f2 n n1 k k2 kd kk KK kp p2 σ tk x xa xb xc xd mm M m1 lv y cl l2 : Nat} {sc sc0 sc2 sc3 t t2 : SCT} {e e0 e2 e3 e4 : List Nat × List Nat × Nat} {g g2 own lst : Bool} {hs : List Nat} {v1 v2 v3 v4 v5 vv xw : Int32} {RU : MS → α → MS → β → Prop} {B : Option (MS × β)} {fc : MS → Unit → Option (MS × α)} {RX : MS → Int32 → MS → β → Prop} {QU : MS → α → Prop} {AU : Option (MS × α)}
theorem u_fg2 (h : UXQ m0 nm t g k m a cm e m2 b cm2 e2) (ok : SOK (e :: t)) (hh : ∀ m3 b3, UXQ m0 nm t g 0 m a cm e m3 b3 cm2 e → UFC m2 m3 b t.length → b ≤ b3 → PP RU (fc m3 ()) B) : PP RU (bnd (jm_Cm_forget N m2 (I (tot (e :: t) : Nat))) fc) B := by
  obtain ⟨a2, -, n1, -, a5, a6⟩ := h
  have le := n1.length_le
  have e706 : m2.1 706 = I (tot (e2 :: t) : Nat) := a2.1.2.1.2.2.1
  have t4k : tot (e2 :: t) ≤ 4000 := a2.1.2.1.2.2.2.1
  have et : tot (e2 :: t) = tot t + e2.1.length := rfl
  have et0 : tot (e :: t) = tot t + e.1.length := rfl
  show PP RU (bnd (jb_Cm_forget_0 N () m2 (I (tot (e :: t) : Nat))) fc) B
  unfold jb_Cm_forget_0 jb_Cm_forget_30
  rw [e706, decI (by omega) (by omega) (by omega) (by omega)]
  by_cases z : e2.1.length ≤ e.1.length
  · have ee : e2.1 = e.1 := (n1.eq_of_length (by omega)).symm
    rw [decide_eq_true (by omega), br_tq, lt_e, bnd_s]
    have : upI m2 706 (I (tot (e :: t) : Nat)) = m2 := upI_id (by rw [e706, et, et0, ee])
    rw [this]
    refine hh m2 b ⟨?_, ok, List.prefix_rfl, Nat.le_refl _, a5, a6⟩ UFC_rf (Nat.le_refl _)
    obtain ⟨f1, f2⟩ := e2
    obtain ⟨g1, g2⟩ := e
    have ee : f1 = g1 := ee
    subst ee
    exact a2
  · rw [decide_eq_false (by omega), br_fq]
    have s1 : ∀ x, (ptc m2 b x).1 706 - I (tot (e :: t) : Nat) = I ((e2.1.length - e.1.length : Nat) : Int) := fun x => by
      rw [ptc_i (by decide), e706, I_sub]
      congr 1
      omega
    rw [bnd_as2]
    refine l_put a2.1.2.2.1.1 a2.1.2.2.1.2.2 (fun ha => ?_)
    have c1 := XCS_put (x := 16) a2 ha
    rw [s1, bnd_as2]
    refine l_put c1.1.2.2.1.1 c1.1.2.2.1.2.2 (fun ha1 => ?_)
    have c2 := XCS_put (x := I ((e2.1.length - e.1.length : Nat) : Int)) c1 ha1
    rw [lt_e, bnd_s]
    have fb : UFC m2 (ptc (ptc m2 b 16) (b + 1) (I ((e2.1.length - e.1.length : Nat) : Int))) b t.length := XFC_U (q := 0) (r := 0) (XFC_put (XFC_put XFC_rf (Nat.le_refl b)) (by omega))
    have fx := UFC_tr a6 fb a5.1
    generalize ptc (ptc m2 b 16) (b + 1) (I ((e2.1.length - e.1.length : Nat) : Int)) = m4 at c2 fx fb
    have cc : XCS m0 nm (upI m4 706 (I (tot (e :: t) : Nat))) (b + 2) cm2 (e :: t) g := by
      obtain ⟨⟨p1, p2, p3, p4, p5, p6, p7⟩, p8⟩ := c2
      obtain ⟨q1, q2, q3⟩ := p2.2.2.2.2
      refine ⟨⟨⟨fun k hk => by rw [upI_ne (by omega)]; exact p1.1 k hk, p1.2⟩, ⟨by rw [upI_ne (by decide)]; exact p2.1, p2.2.1, by rw [upI_at], by omega, ⟨q1, fun k x hk => q2 k x (pre_getd n1 hk), CNl_fr q3 rfl (fun _ _ => rfl)⟩⟩, ⟨by rw [upI_ne (by decide)]; exact p3.1, p3.2⟩, by rw [upI_ne (by decide)]; exact p4, p5, p6, ?_⟩, by rw [upI_ne (by decide)]; exact p8⟩
      have p7 : e2.1.length ≤ cm2 := p7
      show e.1.length ≤ cm2
      omega
    refine hh _ (b + 2) ⟨cc, ok, List.prefix_rfl, Nat.le_refl _, ⟨by omega, a5.2⟩, ⟨fun k k1 k2 => by rw [upI_ne k2]; exact fx.1 k k1 k2, fx.2⟩⟩ ⟨fun k k1 k2 => by rw [upI_ne k2]; exact fb.1 k k1 k2, fb.2⟩ (by omega)
theorem u_arr2 {hs : List Nat} (h : UXQ m0 nm t g k m a cm e m4 b cm4 e4) (hk : HKc m4 hs v1) (ha : ∀ j, j ∈ hs → a ≤ j) (hh : ∀ Z, UXQ m0 nm t g k m a cm e Z b cm4 e4 → (∀ j, j ∉ hs → Z.2.2.1 23 j = m4.2.2.1 23 j) → PP RU (fc Z ()) B) : PP RU (bnd (hm_Co_arrive N m4 v1) fc) B := u_arr h hk ha (fun Z h1 h2 => hh Z h1 h2.2.2.2.1)
theorem UPT (hE : PEc m0 f o kd n lo hi xa xb q r) : (1 ≤ n ∧ n ≤ xb ∧ lo < hi ∧ xa ≤ xb ∧ q ≤ r) ∧ ∃ kp p ph xc x glo m2 c1 s kb mb c2 : Nat, (A m0 18 n = ((p : Nat) : Int) ∧ ORcK m0 1 26 (PAcK m0 f) kp p lo ph xa xc q q ∧ lo ≤ ph) ∧ (A m0 19 n = ((x : Nat) : Int) ∧ (x = 0 ∨ ∃ kg, RWcK m0 1 26 (XPcK m0 f (o + 1) 3) kg x glo m2 xc c1 q s)) ∧ (A m0 20 n = ((mb : Nat) : Int) ∧ RWcK m0 1 26 (XPcK m0 f (o + 2) 3) kb mb (m2 + 1) hi c1 c2 s r) ∧ ((ph - lo) + (m2 - glo) + (hi - (m2 + 1)) ≤ hi - lo ∧ ph ≤ hi ∧ m2 ≤ hi ∧ m2 + 1 ≤ hi ∧ xc ≤ xb ∧ c1 ≤ xb ∧ c2 ≤ xb ∧ s ≤ r) := by
  have hd := PE_bd hE
  unfold HDc at hd
  have hbX : ∀ o, BdE (XPcK m0 f o 3) := fun o => XP_bdK f o 3
  refine ⟨by clear hE; omega, ?_⟩
  unfold PEc at hE
  by_cases z : kd = 2
  · rw [if_pos z] at hE
    obtain ⟨-, h16, htk, h18, x, kg, m2, c1, s, kb, mb, c2, ⟨h19, hx1, hg⟩, ⟨h20, hb⟩, hc2, h38⟩ := hE
    have d1 := (RW_hdK (hbX _) hg).1
    have d2 := (RW_hdK (hbX _) hb).1
    unfold HDc at d1 d2
    refine ⟨0, 0, lo, xa, x, lo, m2, c1, s, kb, mb, c2, ⟨h18, Or.inl ⟨rfl, rfl, rfl, rfl, rfl⟩, Nat.le_refl _⟩, ⟨h19, Or.inr ⟨kg, hg⟩⟩, ⟨h20, hb⟩, ?_⟩
    omega
  · rw [if_neg z] at hE
    obtain ⟨-, ph, ⟨hn, h16, htk, p, xc, x, m2, c1, s, kb, mb, c2, ⟨h18, hp⟩, ⟨h19, hg⟩, ⟨h20, hb⟩, hc2, h38⟩⟩ := hE
    have d0 : lo ≤ ph ∧ xa ≤ xc := by
      rcases hp with ⟨-, -, h1, h2, -⟩ | ⟨-, hp⟩
      · omega
      · have := (RW_hdK (PA_bdK f) hp).1
        unfold HDc at this
        omega
    have d2 := (RW_hdK (hbX _) hb).1
    unfold HDc at d2
    rcases hg with ⟨rfl, rfl, rfl, rfl⟩ | ⟨hx1, kg, hg⟩
    · refine ⟨1, p, m2, c1, 0, m2, m2, c1, s, kb, mb, c2, ⟨h18, hp, d0.1⟩, ⟨h19, Or.inl rfl⟩, ⟨h20, hb⟩, ?_⟩
      clear hp hb
      omega
    · have d1 := (RW_hdK (hbX _) hg).1
      unfold HDc at d1
      refine ⟨1, p, ph, xc, x, ph + 1, m2, c1, s, kb, mb, c2, ⟨h18, hp, d0.1⟩, ⟨h19, Or.inr ⟨kg, hg⟩⟩, ⟨h20, hb⟩, ?_⟩
      clear hp hb hg
      omega
theorem u_one {G : MS → Int32 → Int32 → Int32 → Int32 → Int32 → Option (MS × Int32)} (c : CTZ m0 w0 K T nm Nk) (cv : CTV m0 w0 K T) (IE : HUE N m0 T nm f) (hX : UHQ m0 nm t 0 m a cm e m2 b cm2 e hs v5) (ok : SOK (e :: t)) (hE : PEc m0 f o kd n lo hi xa xb q r) (hxb : xb ≤ 8015) (hr4 : r ≤ 400) (hiT : hi ≤ T) (htot : tot (e :: t) + (hi - lo) ≤ 4000 ∧ t.length + 1 ≤ o + 1) (hh : ∀ m3 b3 cm3 hs3 vv, UHQ m0 nm t 0 m a cm e m3 b3 cm3 e hs3 vv → PP RX (G m3 v2 v3 (lsI lst) vv (m3.2.2.1 21 n)) B) : PP RX (jb_Cm_parts_6 N (jrc_Cm_fun N D) G m2 v2 v3 (lsI lst) v5 (I (n : Nat))) B := by
  obtain ⟨⟨o1, o2, o3, o4, o5⟩, kp, p, ph, xc, x, glo, mp, c1, s, kb, mb, c2, ⟨h18, hP, o6⟩, ⟨h19, hG⟩, ⟨h20, hB⟩, ⟨o7, o8, o9, o10, o11, o12, o13, o14⟩⟩ := UPT hE
  have hn : n ≤ 8015 := by clear hB hG hP; omega
  obtain ⟨hX1, hk, hb⟩ := hX
  have hC := hX1.1
  unfold jb_Cm_parts_6
  rw [decide_eq_false (fun z => by
    have := (I_eq (x := ((n : Nat) : Int)) (y := 0) (by omega) (by omega) (by decide) (by decide)).mp z
    omega), br_fq]
  refine l_bnd (pk_mo (u_try (T := T) (o := o + 1) (v1 := v2) c cv IE hC ok hn h18 hP (by omega) o6 (by omega) (by omega) (by omega) (by omega) ⟨by omega, by omega⟩ h19 hG) (fun mT r23 hz => ?_))
  obtain ⟨bT, cmT, eT, fs, hT⟩ := hz
  have e706 : m2.1 706 = I (tot (e :: t) : Nat) := hC.1.2.1.2.2.1
  rw [e706]
  have rest : ∀ {mU bU}, UHQ m0 nm t ((ph - lo) + (mp - glo)) m2 b cm2 e mU bU cmT eT fs r23 → PP RX (jb_Cm_parts_38 N (jrc_Cm_fun N D) G mU v2 v3 (lsI lst) v5 (I (n : Nat)) (I (tot (e :: t) : Nat)) r23) B := fun {mU bU} hU => by
    obtain ⟨hU1, hU2, hU3⟩ := hU
    have nu := UXQ_nu hU1
    unfold jb_Cm_parts_38
    rw [i_nt2 (show n ≤ 100000 by omega), tre (XCS_fr hU1.1) (by decide) h20]
    refine l_ck (fun _ => ?_)
    cases D with
    | zero => exact pp_nl
    | succ D =>
    refine l_bnd (pk_mo (pu_pk (w := m0) (u_bod (KK := hi - (mp + 1)) (D := D) (lst := lst) (o := o + 2) IE (by omega) hr4 hiT ⟨by omega, by show t.length + 1 ≤ _; omega⟩ kb mb (mp + 1) c1 s N 0 mU bU cmT eT hB (UXQ_rf hU1.1 hU1.2.1) (by omega))) (fun mB z hz => ?_))
    obtain ⟨bB, cmB, eB, hB1⟩ := hz
    have hB2 := UHQ_tr ⟨hU1, hU2, hU3⟩ hB1
    refine u_fg2 hB2.1 ok (fun m4 b4 h4 f4 hb4 => ?_)
    have hk4 : HKc m4 fs r23 := HKc_fr hB2.2.1 (fun j hj => f4.2.1 j (hB2.2.2 j hj).2)
    refine u_put (UXQ_rf h4.1 h4.2.1) (fun _ h5 => u_hook h5 (fun hb5 h6 => ?_))
    have wv : ∀ x : MS, (ptc x (b4 + 1) v5).2.2.1 23 (b4 + 1) = v5 := fun x => ptc_n
    have wv := wv (ptc m4 b4 18)
    generalize ptc (ptc m4 b4 18) (b4 + 1) v5 = m6 at h6 wv
    have hk6 : HKc m6 fs r23 := HKc_fr hk4 (fun j hj => h6.2.2.2.2.2.2.1 j (by have := (hB2.2.2 j hj).2; omega))
    have h7 := UXQ_tr h4 h6
    refine u_arr2 h7 hk6 (fun j hj => (hB2.2.2 j hj).1) (fun Z hZ hZw => l_ck (fun _ => ?_))
    have le1 := h4.2.2.2.2.1.1
    have le2 := hX1.2.2.2.2.1.1
    have b1 : 1 ≤ b4 := h4.1.1.2.2.1.2.1
    have b2k : b4 + 1 + 1 ≤ 23990 := h6.1.1.2.2.1.2.2
    have wz : Z.2.2.1 23 (b4 + 1) = v5 := (hZw (b4 + 1) (fun y => by have := (hB2.2.2 _ y).2; omega)).trans wv
    have hk9 := HKc_fr (m2 := Z) hk (fun j hj => hZ.2.2.2.2.2.2.1 j (hb j hj).2)
    refine hh Z (b4 + 1 + 1) cmB ((b4 + 1) :: hs) (I ((b4 + 1 : Nat) : Int)) ⟨UXQ_mo (UXQ_tr hX1 hZ) (by omega), ⟨rfl, ⟨by omega, by omega⟩, fun h' hm => by have := (hb h' hm).2; omega, by rw [wz]; exact hk9⟩, fun h hm => ?_⟩
    rcases List.mem_cons.mp hm with rfl | y
    · exact ⟨by omega, by omega⟩
    · have := hb h y
      exact ⟨this.1, by omega⟩
  refine l_br (fun _ => rest hT) (fun _ => u_put (UXQ_rf hT.1.1 hT.1.2.1) (fun _ h5 => rest (UHQ_mo (UHQ_tr hT h5) (Nat.le_refl _))))
theorem u_pal (c : CTZ m0 w0 K T nm Nk) (cv : CTV m0 w0 K T) (IE : HUE N m0 T nm f) (ok : SOK (e :: t)) (hxb : xb ≤ 8015) (hr4 : r ≤ 400) (hiT : hi ≤ T) : ∀ (k n lo xa q M : Nat) (m2 : MS) (b cm2 : Nat) (hs : List Nat) (v5 : Int32), RWcK m0 1 27 (PEc m0 f o kd) k n lo hi xa xb q r → UHQ m0 nm t 0 m a cm e m2 b cm2 e hs v5 → tot (e :: t) + (hi - lo) ≤ 4000 ∧ t.length + 1 ≤ o + 1 → PP (fun v r (_ : MS) (_ : Unit) => ∃ b2 cm3 hs2, UHQ m0 nm t 0 m a cm e v b2 cm3 e hs2 r) (jg_Cm_parts N (jrc_Cm_fun N D) M m2 v2 v3 (lsI lst) v5 (I (n : Nat))) (some (m0, ()))
  | 0, n, lo, xa, q, M, m2, b, cm2, hs, v5, h, hX, hk => h.elim
  | k + 1, n, lo, xa, q, M, m2, b, cm2, hs, v5, h, hX, htot => by
    obtain ⟨mid, c1, s, hE, h⟩ := h
    have hd := PE_bd hE
    unfold HDc at hd
    have hms : mid ≤ hi ∧ c1 ≤ xb ∧ s ≤ r := by
      rcases h with ⟨-, -, rfl, rfl, rfl⟩ | ⟨⟨-, k27⟩, n2, -, hw⟩
      · exact ⟨Nat.le_refl _, Nat.le_refl _, Nat.le_refl _⟩
      · have := RW_xb PE_bE hw
        unfold HDc at this
        exact ⟨by omega, by omega, by omega⟩
    cases M with
    | zero => exact pp_nl
    | succ M =>
    show PP _ (jb_Cm_parts_6 N (jrc_Cm_fun N D) (jg_Cm_parts N (jrc_Cm_fun N D) M) m2 v2 v3 (lsI lst) v5 (I (n : Nat))) _
    refine u_one c cv IE hX ok hE (by omega) (by omega) (by omega) ⟨by omega, htot.2⟩ (fun m3 b3 cm3 hs3 vv h3 => ?_)
    have fr3 := XCS_fr h3.1.1
    rcases h with ⟨rfl, h21, rfl, rfl, rfl⟩ | ⟨⟨hk1, hk27⟩, n2, h21, hw⟩
    · rw [tre fr3 (by decide) h21]
      cases M with
      | zero => exact pp_nl
      | succ M =>
      show PP _ (jb_Cm_parts_6 N (jrc_Cm_fun N D) (jg_Cm_parts N (jrc_Cm_fun N D) M) m3 v2 v3 (lsI lst) vv (I 0)) _
      unfold jb_Cm_parts_6
      rw [show decide (I 0 = (0 : Int32)) = true from rfl, br_tq]
      exact pp_end ⟨_, _, _, h3⟩
    · rw [tre fr3 (by decide) h21]
      have := RW_xb PE_bE hw
      unfold HDc at this
      exact u_pal c cv IE ok hxb hr4 hiT k n2 (mid + 1) c1 s M m3 b3 cm3 hs3 vv hw h3 ⟨by omega, htot.2⟩
theorem u_par (c : CTZ m0 w0 K T nm Nk) (cv : CTV m0 w0 K T) (IE : HUE N m0 T nm f) (hC : XCS m0 nm m a cm (e :: t) false) (ok : SOK (e :: t)) (hE : ORcK m0 1 27 (PEc m0 f o kd) k n lo hi xa xb q r) (hxb : xb ≤ 8015) (hr4 : r ≤ 400) (hiT : hi ≤ T) (htot : tot (e :: t) + (hi - lo) ≤ 4000 ∧ t.length + 1 ≤ o + 1) : PK (fun v r => ∃ b2 cm3 hs2, UHQ m0 nm t 0 m a cm e v b2 cm3 e hs2 r) ((jrc_Cm_fun N D).2.2.1 m (I (n : Nat)) v2 v3 (lsI lst)) := by
  refine pv_pk (w := m0) ?_
  cases D with
  | zero => exact pp_nl
  | succ D =>
  show PP _ (jg_Cm_parts N (jrc_Cm_fun N D) N m v2 v3 (lsI lst) 0 (I (n : Nat))) _
  have h0 : UHQ m0 nm t 0 m a cm e m a cm e [] 0 := ⟨UXQ_rf hC ok, rfl, fun h hm => (by cases hm)⟩
  rcases hE with ⟨-, rfl, -⟩ | ⟨-, hE⟩
  · cases N with
    | zero => exact pp_nl
    | succ N =>
    show PP _ (jb_Cm_parts_6 (N + 1) (jrc_Cm_fun (N + 1) D) (jg_Cm_parts (N + 1) (jrc_Cm_fun (N + 1) D) N) m v2 v3 (lsI lst) 0 (I ((0 : Nat) : Int))) _
    unfold jb_Cm_parts_6
    rw [show decide (I ((0 : Nat) : Int) = (0 : Int32)) = true from rfl, br_tq]
    exact pp_end ⟨_, _, _, h0⟩
  · exact u_pal c cv IE ok hxb hr4 hiT k n lo xa q N m a cm [] 0 hE h0 htot
end
end
section
set_option maxRecDepth 100000
section
variable {α β : Type} {m0 w0 m w m2 w2 m3 w3 m4 v u w1 mS wS : MS} {K nm Nk W W2 : Nat → Nat} {N T D d o a a0 a2 b b0 b4 c cm cm0 cm2 cm3 cm4 p pl ph q q0 r s lo lo0 mid hi i j f f2 n n1 k k2 kd kk KK kp p2 σ tk x xa xb xc xd mm M m1 lv y cl l2 : Nat} {sc sc0 sc2 sc3 t t2 : SCT} {e e0 e2 e3 e4 : List Nat × List Nat × Nat} {g g2 own lst : Bool} {hs : List Nat} {v1 v2 v3 v4 v5 vv xw : Int32} {RU : MS → α → MS → β → Prop} {B : Option (MS × β)} {fc : MS → Unit → Option (MS × α)} {RX : MS → Int32 → MS → β → Prop} {QU : MS → α → Prop} {AU : Option (MS × α)}
theorem u_pend {hs : List Nat} (h : UHQ m0 nm t k m a cm e m2 b cm2 e2 hs vv) (hh : ∀ Z b3, UXQ m0 nm t false k m a cm e Z b3 cm2 e2 → PP RU (fc Z ()) B) : PP RU (bnd (jm_Co_put N m2 xw) (fun u57 _ => bnd (hm_Co_arrive N u57 vv) fc)) B :=
  u_put (UXQ_rf h.1.1 h.1.2.1) (fun _ h5 => by
    have h6 := UHQ_tr h h5
    exact u_arr2 h6.1 h6.2.1 (fun j hj => (h6.2.2 j hj).1) (fun Z hZ _ => hh Z _ hZ))
theorem u_cas (c : CTZ m0 w0 K T nm Nk) (cv : CTV m0 w0 K T) (IE : HUE N m0 T nm f) (hC : XCS m0 nm m a cm (e :: t) g) (ok : SOK (e :: t)) (hn : n ≤ 8015) (h16 : A m0 16 n = 9) (h17 : A m0 17 n = ((lo : Nat) : Int)) (h18 : A m0 18 n = ((x : Nat) : Int)) (hx : XPcK m0 f (o + 1) 3 x (lo + 1) mid xa xc q s) (h19 : A m0 19 n = ((mm : Nat) : Int)) (hE : RWcK m0 1 27 (PEc m0 f o 1) k mm (mid + 1) (hi - 1) xc xb s r) (hxb : xb ≤ 8015) (hr4 : r ≤ 400) (hl4 : lo ≤ 4000) (hiT : hi ≤ T) (htot : tot (e :: t) + (hi - lo) ≤ 4000 ∧ (e :: t).length ≤ o + 1) : PK (fun v _ => UXP m0 nm t g (hi - lo) m a cm e v) (jm_Cm_expression N (jrc_Cm_fun N D) m (I (n : Nat)) (lsI lst)) := by
  have fr := XCS_fr hC
  have hd1 := xp_hd hx
  have hd := RW_xb PE_bE hE
  unfold HDc at hd
  have htl : t.length + 1 ≤ o + 1 := htot.2
  refine pu_pk (w := m0) (exd_9 hn (tre fr (by decide) h16) (l_id ?_))
  cases D with
  | zero => exact pp_nl
  | succ D =>
  show PP _ (jm_Cm_compound N (jrc_Cm_fun N D) m (I (n : Nat)) (lsI lst)) _
  refine cmd_9 hn (tre fr (by decide) h16) hC.2 (tre fr (by decide) h17) (by omega) (fun hg => l_ck (fun _ => ?_))
  subst hg
  rw [tre fr (by decide) h18]
  refine l_bnd (pk_mo (IE D (o + 1) 3 x (lo + 1) mid xa xc q s m a cm e t false false hx (by omega) (by omega) (by omega) hC ok ⟨by omega, by omega⟩) (fun m3 z hz => l_ck (fun _ => ?_)))
  obtain ⟨b3, cm3, e3, h3⟩ := hz
  have nu := UXQ_nu h3
  rw [tre (XCS_fr h3.1) (by decide) h19]
  refine l_bnd (pk_mo (u_par c cv IE h3.1 h3.2.1 (Or.inr ⟨by
    cases k with
    | zero => exact hE.elim
    | succ k => omega, hE⟩) hxb hr4 (by omega) ⟨by omega, htl⟩) (fun m4 r55 hz => ?_))
  obtain ⟨b4, cm4, hs4, h4⟩ := hz
  refine u_pend h4 (fun Z b5 h5 => ?_)
  unfold jb_Cm_compound_455
  exact pp_end ⟨_, _, _, UXQ_mo (UXQ_tr h3 h5) (by omega)⟩
theorem u_iff (c : CTZ m0 w0 K T nm Nk) (cv : CTV m0 w0 K T) (IE : HUE N m0 T nm f) (hC : XCS m0 nm m a cm (e :: t) g) (ok : SOK (e :: t)) (hn : n ≤ 8015) (h16 : A m0 16 n = 10) (h17 : A m0 17 n = ((lo : Nat) : Int)) (h19 : A m0 19 n = ((mm : Nat) : Int)) (hE : RWcK m0 1 27 (PEc m0 f o 2) k mm (lo + 1) (hi - 1) xa xb q r) (hxb : xb ≤ 8015) (hr4 : r ≤ 400) (hl4 : lo ≤ 4000) (hiT : hi ≤ T) (htot : tot (e :: t) + (hi - lo) ≤ 4000 ∧ (e :: t).length ≤ o + 1) : PK (fun v _ => UXP m0 nm t g (hi - lo) m a cm e v) (jm_Cm_expression N (jrc_Cm_fun N D) m (I (n : Nat)) (lsI lst)) := by
  have fr := XCS_fr hC
  have hd := RW_xb PE_bE hE
  unfold HDc at hd
  have htl : t.length + 1 ≤ o + 1 := htot.2
  refine pu_pk (w := m0) (exd_10 hn (tre fr (by decide) h16) (l_id ?_))
  cases D with
  | zero => exact pp_nl
  | succ D =>
  show PP _ (jm_Cm_compound N (jrc_Cm_fun N D) m (I (n : Nat)) (lsI lst)) _
  refine cmd_10 hn (tre fr (by decide) h16) hC.2 (tre fr (by decide) h17) (by omega) (fun hg => l_ck (fun _ => ?_))
  subst hg
  rw [tre fr (by decide) h19]
  refine l_bnd (pk_mo (u_par c cv IE hC ok (Or.inr ⟨by
    cases k with
    | zero => exact hE.elim
    | succ k => omega, hE⟩) hxb hr4 (by omega) ⟨by omega, htl⟩) (fun m4 r55 hz => ?_))
  obtain ⟨b4, cm4, hs4, h4⟩ := hz
  refine u_pend h4 (fun Z b5 h5 => ?_)
  unfold jb_Cm_compound_455
  exact pp_end ⟨_, _, _, UXQ_mo h5 (by omega)⟩
theorem u_rcv (c : CTZ m0 w0 K T nm Nk) (cv : CTV m0 w0 K T) (IE : HUE N m0 T nm f) (hC : XCS m0 nm m a cm (e :: t) g) (ok : SOK (e :: t)) (hn : n ≤ 8015) (h16 : A m0 16 n = 11) (h17 : A m0 17 n = ((lo : Nat) : Int)) (h19 : A m0 19 n = ((mm : Nat) : Int)) (hE : ORcK m0 1 27 (PEc m0 f o 3) k mm (lo + 1) m1 xa xc q s) (hA : (A m0 18 n = 0 ∧ hi = m1 + 1 ∧ s = r ∧ xc ≤ xb) ∨ ∃ x m2 c2 s2 kb mb : Nat, 1 ≤ x ∧ A m0 18 n = ((x : Nat) : Int) ∧ XPcK m0 f (o + 1) 3 x (m1 + 1) m2 xc c2 s s2 ∧ A m0 20 n = ((mb : Nat) : Int) ∧ RWcK m0 1 26 (XPcK m0 f (o + 2) 3) kb mb (m2 + 1) (hi - 1) c2 xb s2 r) (hxb : xb ≤ 8015) (hr4 : r ≤ 400) (hl4 : lo ≤ 4000) (hiT : hi ≤ T) (htot : tot (e :: t) + (hi - lo) ≤ 4000 ∧ (e :: t).length ≤ o + 1) : PK (fun v _ => UXP m0 nm t g (hi - lo) m a cm e v) (jm_Cm_expression N (jrc_Cm_fun N D) m (I (n : Nat)) (lsI lst)) := by
  have fr := XCS_fr hC
  have htl : t.length + 1 ≤ o + 1 := htot.2
  have hd : lo + 1 ≤ m1 ∧ xa ≤ xc := by
    rcases hE with ⟨-, -, z1, z2, -⟩ | ⟨-, hE⟩
    · omega
    · have := RW_xb PE_bE hE
      unfold HDc at this
      omega
  refine pu_pk (w := m0) (exd_11 hn (tre fr (by decide) h16) (l_id ?_))
  cases D with
  | zero => exact pp_nl
  | succ D =>
  show PP _ (jm_Cm_compound N (jrc_Cm_fun N D) m (I (n : Nat)) (lsI lst)) _
  refine cmd_11 hn (tre fr (by decide) h16) hC.2 (tre fr (by decide) h17) (by omega) (fun hg => l_bnd ?_)
  subst hg
  unfold jb_Cm_compound_455
  refine pk_mo (?_ : PK (fun v _ => UXP m0 nm t false (hi - lo) m a cm e v) _) (fun v z hz => pp_end hz)
  cases D with
  | zero => exact pu_pk (w := m0) pp_nl
  | succ D =>
  refine pu_pk (w := m0) ?_
  show PP _ (jb_Cm_receive_0 N (jrc_Cm_fun N D) () m (I (n : Nat)) (lsI lst)) _
  unfold jb_Cm_receive_0
  rw [i_nt2 (show n ≤ 100000 by omega), hC.1.2.1.2.2.1]
  refine l_ck (fun _ => ?_)
  have fin : ∀ {m2 b2 cm2 hs2 r20}, UHQ m0 nm t 0 m a cm e m2 b2 cm2 e hs2 r20 → PP (fun v (_ : Unit) (_ : MS) (_ : Unit) => UXP m0 nm t false (hi - lo) m a cm e v) (jb_Cm_receive_173 N (jrc_Cm_fun N D) () m2 r20) (some (m0, ())) := fun {m2 b2 cm2 hs2 r20} h => by
    unfold jb_Cm_receive_173
    exact u_arr2 h.1 h.2.1 (fun j hj => (h.2.2 j hj).1) (fun Z hZ _ => pp_end ⟨_, _, _, UXQ_mo hZ (Nat.zero_le _)⟩)
  have n71 : ∀ {m2 b2 cm2 : _} (v4 t1 : Int32), UXQ m0 nm t false 0 m a cm e m2 b2 cm2 e → tot (e :: t) + (m1 - (lo + 1)) ≤ 4000 → xc ≤ 8015 → s ≤ 400 → m1 ≤ T → (∀ m5 b5 cm5 hs5 r20, UHQ m0 nm t 0 m a cm e m5 b5 cm5 e hs5 r20 → PP (fun v (_ : Unit) (_ : MS) (_ : Unit) => UXP m0 nm t false (hi - lo) m a cm e v) (br (decide (v4 = 0)) (jb_Cm_receive_173 N (jrc_Cm_fun N D) () m5 r20) (ck (inb (I (n : Nat)) 8016) (bnd ((jrc_Cm_fun N D).2.2.2.1 m5 (m5.2.2.1 20 n) (lsI lst)) (fun u35 r35 => bnd (jm_Cm_forget N u35 (I (tot (e :: t) : Nat))) (fun u36 r36 => jb_Cm_receive_173 N (jrc_Cm_fun N D) () u36 r20))))) (some (m0, ()))) → PP (fun v (_ : Unit) (_ : MS) (_ : Unit) => UXP m0 nm t false (hi - lo) m a cm e v) (jb_Cm_receive_71 N (jrc_Cm_fun N D) () m2 (I (n : Nat)) (lsI lst) (I (tot (e :: t) : Nat)) v4 t1) (some (m0, ())) := fun {m2 b2 cm2} v4 t1 h o1 o2 o3 o4 hF => by
    unfold jb_Cm_receive_71
    refine u_put h (fun _ h1 => u_put h1 (fun _ h2 => u_hook h2 (fun hb5 h3 => l_ck (fun _ => ?_))))
    have wv : ∀ x : MS, (ptc x (b2 + 1 + 1) 0).2.2.1 23 (b2 + 1 + 1) = 0 := fun x => ptc_n
    have wv := wv (ptc (ptc m2 b2 t1) (b2 + 1) 32)
    generalize (ptc m2 b2 t1).1 441 = x441
    generalize ptc (ptc (ptc m2 b2 t1) (b2 + 1) 32) (b2 + 1 + 1) 0 = mH at h3 wv
    have b2k : b2 + 1 + 1 + 1 ≤ 23990 := h3.1.1.2.2.1.2.2
    have le0 := h.2.2.2.2.1.1
    rw [i_nt2 (show n ≤ 100000 by omega), tre (XCS_fr h3.1) (by decide) h19]
    refine l_bnd (pk_mo (u_par c cv IE h3.1 ok hE o2 o3 o4 ⟨o1, htl⟩) (fun m4 r20 hz => ?_))
    obtain ⟨b4, cm4, hs4, h4⟩ := hz
    refine u_put (UXQ_rf h4.1.1 ok) (fun _ h5 => u_put h5 (fun _ h6 => ?_))
    have h7 := UHQ_tr h4 h6
    have h8 := UXQ_tr h3 h7.1
    have w8 := (h7.1.2.2.2.2.2.2.1 (b2 + 1 + 1) (by omega)).trans wv
    refine u_arr2 (hs := [b2 + 1 + 1]) h8 ⟨rfl, ⟨by omega, by omega⟩, fun h hm => (by cases hm), w8⟩ (fun j hj => ?_) (fun Z hZ hZw => ?_)
    · rcases List.mem_cons.mp hj with rfl | y
      · omega
      · cases y
    · refine hF Z _ _ hs4 r20 ⟨UXQ_mo hZ (Nat.le_refl _), HKc_fr h7.2.1 (fun j hj => hZw j (fun y => ?_)), fun j hj => ?_⟩
      · have := (h7.2.2 j hj).1
        have := List.mem_singleton.mp y
        omega
      · have hj7 := h7.2.2 j hj
        have := h3.2.2.2.2.1.1
        exact ⟨by omega, hj7.2⟩
  have n48 : ∀ {m2 b2 cm2 : _} (v4 : Int32), UXQ m0 nm t false 0 m a cm e m2 b2 cm2 e → tot (e :: t) + (m1 - (lo + 1)) ≤ 4000 → xc ≤ 8015 → s ≤ 400 → m1 ≤ T → (∀ m5 b5 cm5 hs5 r20, UHQ m0 nm t 0 m a cm e m5 b5 cm5 e hs5 r20 → PP (fun v (_ : Unit) (_ : MS) (_ : Unit) => UXP m0 nm t false (hi - lo) m a cm e v) (br (decide (v4 = 0)) (jb_Cm_receive_173 N (jrc_Cm_fun N D) () m5 r20) (ck (inb (I (n : Nat)) 8016) (bnd ((jrc_Cm_fun N D).2.2.2.1 m5 (m5.2.2.1 20 n) (lsI lst)) (fun u35 r35 => bnd (jm_Cm_forget N u35 (I (tot (e :: t) : Nat))) (fun u36 r36 => jb_Cm_receive_173 N (jrc_Cm_fun N D) () u36 r20))))) (some (m0, ()))) → PP (fun v (_ : Unit) (_ : MS) (_ : Unit) => UXP m0 nm t false (hi - lo) m a cm e v) (jb_Cm_receive_48 N (jrc_Cm_fun N D) () m2 (I (n : Nat)) (lsI lst) (I (tot (e :: t) : Nat)) v4) (some (m0, ())) := fun {m2 b2 cm2} v4 h o1 o2 o3 o4 hF => by
    unfold jb_Cm_receive_48
    refine u_put h (fun _ h1 => l_br (fun _ => n71 v4 0 h1 o1 o2 o3 o4 hF) (fun _ => n71 v4 1 h1 o1 o2 o3 o4 hF))
  rcases hA with ⟨h18, rfl, rfl, hxc⟩ | ⟨x, m2, c2, s2, kb, mb, hx1, h18, hX, h20, hB⟩
  · rw [tre fr (by decide) h18, show decide (I 0 = (0 : Int32)) = true from rfl, br_tq]
    unfold jb_Cm_receive_22
    rw [show decide ((0 : Int32) = 0) = true from rfl, br_tq]
    refine n48 0 (UXQ_rf hC ok) (by omega) (by omega) hr4 (by omega) (fun m5 b5 cm5 hs5 r20 h5 => ?_)
    rw [show decide ((0 : Int32) = 0) = true from rfl, br_tq]
    exact fin h5
  · have hd2 := xp_hd hX
    have hd3 := (RW_hdK (XP_bdK _ _ _) hB).1
    unfold HDc at hd3
    rw [tre fr (by decide) h18, decide_eq_false (fun z => by
      have := (I_eq (x := ((x : Nat) : Int)) (y := 0) (by omega) (by omega) (by decide) (by decide)).mp z
      omega), br_fq]
    unfold jb_Cm_receive_22
    rw [show decide ((1 : Int32) = 0) = false from rfl, br_fq, i_nt2 (show n ≤ 100000 by omega), tre fr (by decide) h18]
    refine l_ck (fun _ => ?_)
    refine l_bnd (pk_mo (IE D (o + 1) 3 x (m1 + 1) m2 xc c2 s s2 m a cm e t false false hX (by omega) (by omega) (by omega) hC ok ⟨by omega, by omega⟩) (fun m3 z hz => ?_))
    obtain ⟨b3, cm3, e3, h3⟩ := hz
    refine u_fg h3 ok (fun m4 b4 h4 => ?_)
    refine n48 1 h4 (by omega) (by omega) (by omega) (by omega) (fun m5 b5 cm5 hs5 r20 h5 => ?_)
    rw [show decide ((1 : Int32) = 0) = false from rfl, br_fq, tre (XCS_fr h5.1.1) (by decide) h20]
    refine l_ck (fun _ => ?_)
    cases D with
    | zero => exact pp_nl
    | succ D =>
    refine l_bnd (pk_mo (pu_pk (w := m0) (u_bod (KK := (hi - 1) - (m2 + 1)) (D := D) (lst := lst) (o := o + 2) IE hxb hr4 (by omega) ⟨by omega, by show t.length + 1 ≤ _; omega⟩ kb mb (m2 + 1) c2 s2 N 0 m5 b5 cm5 e hB (UXQ_rf h5.1.1 ok) (by omega))) (fun mB z hz => ?_))
    obtain ⟨bB, cmB, eB, hB1⟩ := hz
    have hB2 := UHQ_tr h5 hB1
    refine u_fg2 hB2.1 ok (fun m6 b6 h6 f6 hb6 => ?_)
    refine fin (hs2 := hs5) ⟨h6, HKc_fr hB2.2.1 (fun j hj => f6.2.1 j (hB2.2.2 j hj).2), fun j hj => ?_⟩
    have := hB2.2.2 j hj
    exact ⟨this.1, by omega⟩
end
end
section
set_option maxRecDepth 100000
section
variable {α β : Type} {m0 w0 m w m2 w2 m3 w3 m4 v u w1 mS wS : MS} {K nm Nk W W2 : Nat → Nat} {N T D d o a a0 a2 b b0 b4 c cm cm0 cm2 cm3 cm4 p pl ph pn q q0 r s lo lo0 mid hi i j f f2 n n1 k k2 kd kk KK kp p2 σ tk x xa xb xc xd mm M m1 lv y cl l2 : Nat} {sc sc0 sc2 sc3 t t2 : SCT} {e e0 e2 e3 e4 : List Nat × List Nat × Nat} {g g2 own lst : Bool} {hs : List Nat} {v1 v2 v3 v4 v5 v6 vv xw : Int32} {RU : MS → α → MS → β → Prop} {B : Option (MS × β)} {fc : MS → Unit → Option (MS × α)} {RX : MS → Int32 → MS → β → Prop} {QU : MS → α → Prop} {AU : Option (MS × α)}
theorem u_cut (h : UXQ m0 nm t g k m a cm e m2 b cm2 e2) (ok : SOK (e :: t)) : UXQ m0 nm t g 0 m a cm e (upI m2 706 (I (tot (e :: t) : Nat))) b cm2 e := by
  obtain ⟨a2, -, n1, -, a5, a6⟩ := h
  have le := n1.length_le
  have t4k : tot (e2 :: t) ≤ 4000 := a2.1.2.1.2.2.2.1
  have et : tot (e2 :: t) = tot t + e2.1.length := rfl
  have et0 : tot (e :: t) = tot t + e.1.length := rfl
  refine ⟨?_, ok, List.prefix_rfl, Nat.le_refl _, a5, ⟨fun k k1 k2 => by rw [upI_ne k2]; exact a6.1 k k1 k2, a6.2⟩⟩
  obtain ⟨⟨p1, p2, p3, p4, p5, p6, p7⟩, p8⟩ := a2
  obtain ⟨q1, q2, q3⟩ := p2.2.2.2.2
  refine ⟨⟨⟨fun k hk => by rw [upI_ne (by omega)]; exact p1.1 k hk, p1.2⟩, ⟨by rw [upI_ne (by decide)]; exact p2.1, p2.2.1, by rw [upI_at], by omega, ⟨q1, fun k x hk => q2 k x (pre_getd n1 hk), CNl_fr q3 rfl (fun _ _ => rfl)⟩⟩, ⟨by rw [upI_ne (by decide)]; exact p3.1, p3.2⟩, by rw [upI_ne (by decide)]; exact p4, p5, p6, ?_⟩, by rw [upI_ne (by decide)]; exact p8⟩
  have p7 : e2.1.length ≤ cm2 := p7
  show e.1.length ≤ cm2
  omega
theorem u_A {f : Nat → Int32} (h : UXQ m0 nm t g k m a cm e m2 b cm2 e2) (hj : 30 ≤ j ∧ j ≤ 32) : UXQ m0 nm t g k m a cm e (upA m2 j f) b cm2 e2 := by
  obtain ⟨⟨⟨p1, p2, p3, p4, p5, p6⟩, p8⟩, h2, h3, h4, h5, h6⟩ := h
  refine ⟨⟨⟨⟨p1.1, fun k hk => by rw [upA_no (by omega)]; exact p1.2 k hk⟩, ⟨p2.1, p2.2.1, p2.2.2.1, p2.2.2.2.1, CNl_fr p2.2.2.2.2 (upA_no (by omega)) (fun j _ => by rw [upA_no (by omega)])⟩, p3, p4, by rw [upA_no (by omega)]; exact p5, p6⟩, p8⟩, h2, h3, h4, h5, ⟨h6.1, fun j hj => by rw [upA_no (by omega)]; exact h6.2.1 j hj, fun j hj => by rw [upA_no (by omega)]; exact h6.2.2.1 j hj, fun j hj => by rw [upA_no (by omega)]; exact h6.2.2.2 j hj⟩⟩
theorem u_hold : ∀ (M : Nat), (∀ (m2 : MS) (b : Nat) (v2 v3 v4 : Int32), UXQ m0 nm t g k m a cm e m2 b cm2 e2 → m2.2.2.1 32 = m.2.2.1 32 → PK (fun v _ => ∃ b3, UXQ m0 nm t g k m a cm e v b3 cm2 e2 ∧ v.2.2.1 32 = m.2.2.1 32) ((jg_Cm_hold N M).1 m2 v2 v3 v4)) ∧ ∀ (m2 : MS) (b : Nat) (v2 v3 v4 v5 v6 : Int32), UXQ m0 nm t g k m a cm e m2 b cm2 e2 → m2.2.2.1 32 = m.2.2.1 32 → PK (fun v _ => ∃ b3, UXQ m0 nm t g k m a cm e v b3 cm2 e2 ∧ v.2.2.1 32 = m.2.2.1 32) ((jg_Cm_hold N M).2 m2 v2 v3 v4 v5 v6)
  | 0 => ⟨fun _ _ _ _ _ _ _ => pk_none, fun _ _ _ _ _ _ _ _ _ => pk_none⟩
  | M + 1 => by
    obtain ⟨ih1, ih2⟩ := @u_hold M
    have a113 : ∀ (m2 : MS) (b : Nat) (v2 v3 v4 : Int32), UXQ m0 nm t g k m a cm e m2 b cm2 e2 → m2.2.2.1 32 = m.2.2.1 32 → PP (fun v (_ : Int32) (_ : MS) (_ : Unit) => ∃ b3, UXQ m0 nm t g k m a cm e v b3 cm2 e2 ∧ v.2.2.1 32 = m.2.2.1 32) (jb_Cm_hold_113 N (jg_Cm_hold N M) m2 v2 v3 v4) (some (m0, ())) := fun m2 b v2 v3 v4 h h32 => by
      unfold jb_Cm_hold_113
      exact fun v r _ _ x1 x2 => ih1 m2 b v2 v3 (v4 + 1) h h32 v r x1
    have a92 : ∀ (m2 : MS) (b : Nat) (v2 v3 v4 v5 v6 : Int32), UXQ m0 nm t g k m a cm e m2 b cm2 e2 → m2.2.2.1 32 = m.2.2.1 32 → PP (fun v (_ : Int32) (_ : MS) (_ : Unit) => ∃ b3, UXQ m0 nm t g k m a cm e v b3 cm2 e2 ∧ v.2.2.1 32 = m.2.2.1 32) (jb_Cm_hold_92 N (jg_Cm_hold N M) m2 v2 v3 v4 v5 v6) (some (m0, ())) := fun m2 b v2 v3 v4 v5 v6 h h32 => by
      unfold jb_Cm_hold_92
      exact l_br (fun _ => u_put h (fun _ h1 => a113 _ _ _ _ _ h1 (by rw [ptc_r (by decide)]; exact h32))) (fun _ => a113 _ _ _ _ _ h h32)
    have rec2 : ∀ (m2 : MS) (b : Nat) (v2 v3 v4 v5 v6 : Int32), UXQ m0 nm t g k m a cm e m2 b cm2 e2 → m2.2.2.1 32 = m.2.2.1 32 → PP (fun v (_ : Int32) (_ : MS) (_ : Unit) => ∃ b3, UXQ m0 nm t g k m a cm e v b3 cm2 e2 ∧ v.2.2.1 32 = m.2.2.1 32) ((jg_Cm_hold N M).2 m2 v2 v3 v4 v5 v6) (some (m0, ())) := fun m2 b v2 v3 v4 v5 v6 h h32 v r _ _ x1 x2 => ih2 m2 b v2 v3 v4 v5 v6 h h32 v r x1
    refine ⟨fun m2 b v2 v3 v4 h h32 => pv_pk (w := m0) ?_, fun m2 b v2 v3 v4 v5 v6 h h32 => pv_pk (w := m0) ?_⟩
    · show PP _ (jb_Cm_hold_11 N (jg_Cm_hold N M) m2 v2 v3 v4) _
      unfold jb_Cm_hold_11
      refine l_br (fun _ => pp_end ⟨b, h, h32⟩) (fun _ => l_ck (fun _ => l_br (fun _ => l_ck (fun _ => l_br (fun _ => a113 _ _ _ _ _ h h32) (fun _ => l_ck (fun _ => rec2 _ _ _ _ _ _ _ h h32)))) (fun _ => a113 _ _ _ _ _ h h32)))
    · show PP _ (jb_Cm_hold_60 N (jg_Cm_hold N M) m2 v2 v3 v4 v5 v6) _
      unfold jb_Cm_hold_60
      refine l_br (fun _ => a92 _ _ _ _ _ _ _ h h32) (fun _ => ?_)
      unfold hm_Co_at hb_Co_at_0 hb_Co_at_21 hb_Co_at_11 hb_Co_at_21
      have go : ∀ z : Int32, PP (fun v (_ : Int32) (_ : MS) (_ : Unit) => ∃ b3, UXQ m0 nm t g k m a cm e v b3 cm2 e2 ∧ v.2.2.1 32 = m.2.2.1 32) (bnd (some (m2, z)) (fun u11 r11 => br (decide (r11 = v5)) (jb_Cm_hold_92 N (jg_Cm_hold N M) u11 v2 v3 v4 v5 v6) ((jg_Cm_hold N M).2 u11 v2 v3 v4 v5 (v6 + 1)))) (some (m0, ())) := fun z => by
        rw [bnd_s]
        exact l_br (fun _ => a92 _ _ _ _ _ _ _ h h32) (fun _ => rec2 _ _ _ _ _ _ _ h h32)
      cases decide (v6 < 0) with
      | true => rw [br_tq]; exact go _
      | false =>
        rw [br_fq]
        cases decide (v6 < 24000) with
        | false => rw [br_fq]; exact go _
        | true =>
          rw [br_tq, bnd_ck]
          exact l_ck (fun _ => go _)
theorem u_cls (c : CTZ m0 w0 K T nm Nk) (cv : CTV m0 w0 K T) (IE : HUE N m0 T nm f) (hC : XCS m0 nm m a cm (e :: t) false) (ok : SOK (e :: t)) (hE : PRTcK m0 (PAcK m0 f2) (XPcK m0 f (o + 2) 3) (XPcK m0 f (o + 1) 3) k n pl ph lo hi xa xb q r) (hpl : pl ≤ ph ∧ ph ≤ lo) (hxb : xb ≤ 8015) (hr4 : r ≤ 400) (hiT : hi ≤ T) (htot : tot (e :: t) + (hi - pl) ≤ 4000 ∧ t.length + 1 ≤ o + 2) : PK (fun v _ => ∃ b cm2, UXQ m0 nm t false 0 m a cm e v b cm2 e) ((jrc_Cm_fun N D).2.2.2.2.2.2.2.2.2.2.2.2 m (I (n : Nat)) v2 v3) := by
  obtain ⟨hn, h16, htk, p, xc, x, m2, c1, s, kb, mb, c2, ⟨h18, hp⟩, ⟨h19, hg⟩, ⟨h20, hb⟩, hc2, h38⟩ := hE
  have hbX : ∀ o, BdE (XPcK m0 f o 3) := fun o => XP_bdK f o 3
  have d2 := (RW_hdK (hbX _) hb).1
  unfold HDc at d2
  have d0 : xa ≤ xc := by
    rcases hp with ⟨-, -, h1, h2, -⟩ | ⟨-, hp⟩
    · omega
    · have := (RW_hdK (PA_bdK f2) hp).1
      unfold HDc at this
      omega
  obtain ⟨glo, hg, hgl⟩ : ∃ glo, (x = 0 ∨ ∃ kg, RWcK m0 1 26 (XPcK m0 f (o + 1) 3) kg x glo m2 xc c1 q s) ∧ (ph - pl) + (m2 - glo) + (hi - (m2 + 1)) ≤ hi - pl ∧ xc ≤ c1 ∧ m2 ≤ hi ∧ q ≤ s := by
    rcases hg with ⟨rfl, rfl, rfl, rfl⟩ | ⟨hx1, kg, hg⟩
    · exact ⟨m2, Or.inl rfl, by clear hp hb; omega⟩
    · have d1 := (RW_hdK (hbX _) hg).1
      unfold HDc at d1
      exact ⟨lo + 1, Or.inr ⟨kg, hg⟩, by clear hp hb hg; omega⟩
  have hn8 : n ≤ 8015 := by clear hp hb hg; omega
  refine pu_pk (w := m0) ?_
  cases D with
  | zero => exact pp_nl
  | succ D =>
  show PP _ (jb_Cm_clause_0 N (jrc_Cm_fun N D) () m (I (n : Nat)) v2 v3) _
  unfold jb_Cm_clause_0
  rw [hC.1.2.1.2.2.1]
  refine l_bnd (pk_mo (u_try (T := T) (o := o + 1) (v1 := v2) c cv IE hC ok hn8 h18 hp (by omega) hpl.1 (by omega) (by omega) (by omega) (by omega) ⟨by omega, by omega⟩ h19 hg) (fun mT r2 hz => ?_))
  obtain ⟨bT, cmT, eT, fs, hT⟩ := hz
  have nu := UXQ_nu hT.1
  refine u_put (UXQ_rf hT.1.1 hT.1.2.1) (fun _ h1 => u_put h1 (fun _ h2 => u_put h2 (fun _ h3 => l_ck (fun _ => ?_))))
  have h4 := UHQ_tr hT h3
  have n4 := UXQ_nu h4.1
  rw [i_nt2 (show n ≤ 100000 by omega), tre (XCS_fr h4.1.1) (by decide) h20]
  cases D with
  | zero => exact pp_nl
  | succ D =>
  refine l_bnd (pk_mo (pu_pk (w := m0) (u_bod (KK := hi - (m2 + 1)) (D := D) (lst := true) (o := o + 2) IE (by omega) hr4 hiT ⟨by omega, by show t.length + 1 ≤ _; omega⟩ kb mb (m2 + 1) c1 s N 0 _ _ cmT eT hb (UXQ_rf h4.1.1 h4.1.2.1) (by omega))) (fun mB z hz => ?_))
  obtain ⟨bB, cmB, eB, hB1⟩ := hz
  have hB2 := UHQ_tr h4 hB1
  refine u_put (UXQ_rf hB2.1.1 hB2.1.2.1) (fun _ h5 => ?_)
  have h6 := UHQ_tr hB2 h5
  rw [lt_e]
  refine u_arr2 (u_cut h6.1 ok) (HKc_fr h6.2.1 (fun j _ => rfl)) (fun j hj => (h6.2.2 j hj).1) (fun Z hZ _ => pp_end ⟨_, _, hZ⟩)
end
end
section
set_option maxRecDepth 100000
section
variable {α β : Type} {m0 w0 m w m2 w2 m3 w3 m4 mC v u w1 mS wS : MS} {K nm Nk W W2 : Nat → Nat} {N T D d o a a0 a2 b b0 b4 c cm cm0 cm2 cm3 cm4 p pl ph pn q q0 r s lo lo0 mid hi i j f f2 n n1 k k2 kd kk KK kp p2 σ tk x xa xb xc xd mm M m1 lv y cl l2 : Nat} {sc sc0 sc2 sc3 t t2 : SCT} {e e0 e2 e3 e4 : List Nat × List Nat × Nat} {g g2 own lst : Bool} {hs : List Nat} {v1 v2 v3 v4 v5 v6 vv xw : Int32} {RU : MS → α → MS → β → Prop} {B : Option (MS × β)} {fc : MS → Unit → Option (MS × α)} {RX : MS → Int32 → MS → β → Prop} {QU : MS → α → Prop} {AU : Option (MS × α)}
theorem u_pop (hC : XCS m0 nm m a cm (e :: t) false) (i1 : ∀ k, k ≠ 441 → k ≠ 709 → mC.1 k = m.1 k) (i2 : ∀ j, j < a → mC.2.2.1 23 j = m.2.2.1 23 j) (i3 : ∀ k j, k = 40 ∨ k = 41 → j ≠ (e :: t).length → mC.2.2.1 k j = m.2.2.1 k j) (ok : SOK (e :: t)) (h : UXQ m0 nm (e :: t) false k mC (a + 2) 0 ([], [], 0) m3 b cm3 ([], [], 0)) : UXQ m0 nm t false 0 m a cm e (upI m3 709 (I (t.length : Nat))) b cm e := by
  obtain ⟨c1, -, -, -, c5, c6⟩ := h
  obtain ⟨⟨p1, p2, p3, p4, p5, p6, p7⟩, p8⟩ := c1
  obtain ⟨⟨h1, h2, h3, h4, h5, h6, h7⟩, h8⟩ := hC
  have el : (e :: t).length = t.length + 1 := rfl
  refine ⟨⟨⟨⟨fun k hk => by rw [upI_ne (by omega)]; exact p1.1 k hk, p1.2⟩, ⟨by rw [upI_at]; rfl, h2.2.1, by rw [upI_ne (by decide)]; exact p2.2.2.1, h2.2.2.2.1, CNl_fr p2.2.2.2.2.2.2 rfl (fun _ _ => rfl)⟩, ⟨by rw [upI_ne (by decide)]; exact p3.1, p3.2⟩, by rw [upI_ne (by decide)]; exact p4, ?_, h6, h7⟩, by rw [upI_ne (by decide)]; exact p8⟩, ok, List.prefix_rfl, Nat.le_refl _, ⟨by omega, Nat.le_refl _⟩, ⟨fun k k1 k2 => ?_, fun j hj => (c6.2.1 j (by omega)).trans (i2 j hj), fun j hj => (c6.2.2.1 j (by omega)).trans (i3 40 j (Or.inl rfl) (by omega)), fun j hj => (c6.2.2.2 j (by omega)).trans (i3 41 j (Or.inr rfl) (by omega))⟩⟩
  · show m3.2.2.1 41 ((e :: t).length - 1) = _
    rw [c6.2.2.2 ((e :: t).length - 1) (by omega), i3 41 _ (Or.inr rfl) (by omega)]
    exact h5
  · by_cases z : k = 709
    · rw [z, upI_at]
      exact h2.1.symm
    · rw [upI_ne z, c6.1 k k1 k2]
      exact i1 k k1 z
theorem u_A23 (h : UXQ m0 nm t g k m a cm e m2 b cm2 e2) (hj : a ≤ j) : UXQ m0 nm t g k m a cm e (upA m2 23 (upd (m2.2.2.1 23) j xw)) b cm2 e2 := by
  obtain ⟨h1, h2, h3, h4, h5, h6⟩ := h
  exact ⟨XCS_A (k := 23) (f := upd (m2.2.2.1 23) j xw) h1 (Or.inl rfl), h2, h3, h4, h5, ⟨h6.1, fun i hi => by rw [upA_at, upd_no (by omega)]; exact h6.2.1 i hi, fun i hi => by rw [upA_no (by decide)]; exact h6.2.2.1 i hi, fun i hi => by rw [upA_no (by decide)]; exact h6.2.2.2 i hi⟩⟩
theorem u_fun (c : CTZ m0 w0 K T nm Nk) (cv : CTV m0 w0 K T) (IE : HUE N m0 T nm f) (hC : XCS m0 nm m a cm (e :: t) g) (ok : SOK (e :: t)) (ho : o ≤ 25) (hn : n ≤ 8015) (h16 : A m0 16 n = 12) (h17 : A m0 17 n = ((lo : Nat) : Int)) (h18 : A m0 18 n = ((q : Nat) : Int)) (h19 : A m0 19 n = ((pn : Nat) : Int)) (h20 : A m0 20 n = ((hi - 1 : Nat) : Int)) (hkk : kk ≤ 6) (hP : PRTcK m0 (PAcK m0 f) (XPcK m0 f (o + 2) 3) (XPcK m0 f (o + 1) 3) kk pn (lo + 2) ph (ph + 1) (hi - 1) xa xb (q + 1) r) (hxb : xb ≤ 8015) (hr4 : r ≤ 400) (hl4 : lo ≤ 4000) (hiT : hi ≤ T) (htot : tot (e :: t) + (hi - lo) ≤ 4000 ∧ (e :: t).length ≤ o + 1) : PK (fun v _ => UXP m0 nm t g (hi - lo) m a cm e v) (jm_Cm_expression N (jrc_Cm_fun N D) m (I (n : Nat)) (lsI lst)) := by
  have fr := XCS_fr hC
  have el : (e :: t).length = t.length + 1 := rfl
  have hb : lo + 2 ≤ ph ∧ ph + 2 < hi - 1 ∧ q + 1 ≤ r ∧ pn ≤ 8015 := by
    obtain ⟨⟨y1, y2⟩, -, -, p0, xc, gx, mid, xd, s, kb, mb, xe, ⟨-, hpa⟩, ⟨-, hg⟩, ⟨-, hB⟩, -, -⟩ := hP
    have hB1 := (RW_hdK (XP_bdK f (o + 2) 3) hB).1
    unfold HDc at hB1
    have a1 : lo + 2 ≤ ph := by
      rcases hpa with ⟨-, -, z, -⟩ | ⟨-, z⟩
      · omega
      · have := (RW_hdK (PA_bdK f) z).1
        unfold HDc at this
        omega
    have a2 : ph + 1 ≤ mid ∧ q + 1 ≤ s := by
      rcases hg with ⟨-, z, -, z2⟩ | ⟨-, kg, z⟩
      · exact ⟨by omega, by omega⟩
      · have := (RW_hdK (XP_bdK f (o + 1) 3) z).1
        unfold HDc at this
        exact ⟨by omega, by omega⟩
    exact ⟨a1, by omega, by omega, by omega⟩
  obtain ⟨p0, h18p, hOR⟩ : ∃ p0 : Nat, A m0 18 pn = ((p0 : Nat) : Int) ∧ ∃ xc, ORcK m0 1 26 (PAcK m0 f) kk p0 (lo + 2) ph xa xc (q + 1) (q + 1) ∧ xc ≤ 8015 := by
    obtain ⟨⟨y1, y2⟩, -, -, p0, xc, gx, mid, xd, s, kb, mb, xe, ⟨z1, hpa⟩, ⟨-, hg⟩, ⟨-, hB⟩, hxe, -⟩ := hP
    have hB1 := (RW_hdK (XP_bdK f (o + 2) 3) hB).1
    unfold HDc at hB1
    refine ⟨p0, z1, xc, hpa, ?_⟩
    rcases hg with ⟨-, -, z, -⟩ | ⟨-, kg, z⟩
    · omega
    · have := (RW_hdK (XP_bdK f (o + 1) 3) z).1
      unfold HDc at this
      omega
  obtain ⟨xc, hOR, hxc⟩ := hOR
  refine pu_pk (w := m0) (exd_12 hn (tre fr (by decide) h16) (l_id ?_))
  cases D with
  | zero => exact pp_nl
  | succ D =>
  show PP _ (jm_Cm_compound N (jrc_Cm_fun N D) m (I (n : Nat)) (lsI lst)) _
  refine cmd_12 hn (tre fr (by decide) h16) hC.2 (tre fr (by decide) h17) (by omega) (fun hg => l_id ?_)
  subst hg
  cases D with
  | zero => exact pp_nl
  | succ D =>
  show PP _ (jm_Cm_fun N (jrc_Cm_fun N D) m (I (n : Nat))) _
  unfold jm_Cm_fun jb_Cm_fun_0
  rw [i_nt2 (show n ≤ 100000 by omega), tre fr (by decide) h19, i_nt2 (p := pn) (by omega), tre fr (by decide) h18p, tre fr (by decide) h18, i_nt2 (p := q) (by omega)]
  refine l_ck (fun _ => l_ck (fun _ => l_ck (fun _ => ?_)))
  refine l_bnd (pk_mo (len_j fr hxc hOR) (fun mx rx hmx => ?_))
  obtain ⟨hmx, rfl⟩ := hmx
  rw [hmx]
  clear hmx
  refine fn_beg (X := fun w52 r26 => _) hC ⟨by omega, by omega⟩ (by omega) hkk (fun mC xC miC m709 mrC moC mwC mpC mqC m4C => ?_)
  refine l_ck (fun _ => l_ck (fun _ => ?_))
  have frC := XCS_fr xC
  have okC : SOK (([], [], 0) :: e :: t) := ⟨⟨List.nodup_nil, fun x h => (by cases h), Nat.zero_le _, Nat.le_refl _, Nat.zero_le _, fun x h => (by cases h), List.nodup_nil⟩, ok⟩
  have m712 : m.1 712 = 0 := of_decide_eq_true (by have := hC.2; exact this)
  refine l_bnd (pk_mo (u_cls (e := ([], [], 0)) (t := e :: t) c cv IE xC okC hP ⟨hb.1, by omega⟩ hxb hr4 (by omega) ⟨by show tot (e :: t) + 0 + (hi - 1 - (lo + 2)) ≤ 4000; omega, by omega⟩) (fun m2 z hz => ?_))
  obtain ⟨b2, cm2, h2⟩ := hz
  refine u_put h2 (fun _ h3 => l_ck (fun _ => l_lt ?_))
  have e709 : (ptc m2 b2 36).1 709 - 1 = I (t.length : Nat) := by
    have h709 : (ptc m2 b2 36).1 709 = I ((t.length + 1 : Nat) : Int) := h3.1.1.2.1.1
    rw [h709, I_sn]
  have wv : (ptc m2 b2 36).2.2.1 23 (a + 1) = 0 := (h3.2.2.2.2.2.2.1 (a + 1) (by omega)).trans mwC.2
  rw [e709, m712]
  have h4 := u_pop hC miC moC m4C ok h3
  have le2 := h2.2.2.2.2.1.1
  have wv4 : (upI (ptc m2 b2 36) 709 (I (t.length : Nat))).2.2.1 23 (a + 1) = 0 := wv
  generalize upI (ptc m2 b2 36) 709 (I (t.length : Nat)) = m4 at h4 wv4
  generalize (ptc m2 b2 36).2.2.1 41 ((ptc m2 b2 36).1 709).toNatClampNeg = x41
  have z712 : m4.1 712 = 0 := (h4.2.2.2.2.2.1 712 (by decide) (by decide)).trans m712
  rw [show isb 0 = true from rfl, ck_t, show upI m4 712 0 = m4 from upI_id z712, lt_e]
  have b2k : b2 + 1 ≤ 23990 := h4.1.1.2.2.1.2.2
  refine u_arr2 (hs := [a + 1]) h4 ⟨rfl, ⟨by omega, by omega⟩, fun h hm => (by cases hm), wv4⟩ (fun j hj => ?_) (fun Z hZ _ => ?_)
  · rcases List.mem_cons.mp hj with rfl | y
    · omega
    · cases y
  refine u_put hZ (fun _ h5 => u_put h5 (fun _ h6 => l_ck (fun _ => l_lt ?_)))
  have e441 : (ptc (ptc Z (b2 + 1) 6) (b2 + 1 + 1) (I (q : Nat))).1 441 = I ((b2 + 1 + 1 + 1 : Nat) : Int) := h6.1.1.2.2.1.1
  rw [e441]
  have h7 := u_A (j := 32) (f := upd ((ptc (ptc Z (b2 + 1) 6) (b2 + 1 + 1) (I (q : Nat))).2.2.1 32) q (I ((b2 + 1 + 1 + 1 : Nat) : Int))) h6 ⟨by decide, by decide⟩
  have e32 : (upA (ptc (ptc Z (b2 + 1) 6) (b2 + 1 + 1) (I (q : Nat))) 32 (upd ((ptc (ptc Z (b2 + 1) 6) (b2 + 1 + 1) (I (q : Nat))).2.2.1 32) q (I ((b2 + 1 + 1 + 1 : Nat) : Int)))).2.2.1 32 q = I ((b2 + 1 + 1 + 1 : Nat) : Int) := by rw [upA_at, upd_at]
  generalize upA (ptc (ptc Z (b2 + 1) 6) (b2 + 1 + 1) (I (q : Nat))) 32 (upd ((ptc (ptc Z (b2 + 1) 6) (b2 + 1 + 1) (I (q : Nat))).2.2.1 32) q (I ((b2 + 1 + 1 + 1 : Nat) : Int))) = m7 at h7 e32
  refine u_put h7 (fun _ h8 => l_ck (fun _ => l_ck (fun _ => ?_)))
  have e32' : (ptc m7 (b2 + 1 + 1 + 1) 0).2.2.1 32 q = I ((b2 + 1 + 1 + 1 : Nat) : Int) := by rw [ptc_r (by decide)]; exact e32
  have b8k : b2 + 1 + 1 + 1 + 1 ≤ 23990 := h8.1.1.2.2.1.2.2
  generalize ptc m7 (b2 + 1 + 1 + 1) 0 = m8 at h8 e32'
  unfold jm_Cm_hold jb_Cm_hold_0
  refine l_bnd (pk_mo ((u_hold N).1 m8 _ _ _ _ (UXQ_rf h8.1 ok) rfl) (fun m9 r104 hz => l_ck (fun _ => ?_)))
  obtain ⟨b9, h9, e9⟩ := hz
  rw [e9, e32', set_j (by omega), bnd_s]
  have hF := u_A23 (j := b2 + 1 + 1 + 1) (xw := r104) (UXQ_tr h8 h9) (by omega)
  generalize upA m9 23 (upd (m9.2.2.1 23) (b2 + 1 + 1 + 1) r104) = mF at hF
  refine l_br (fun z711 => l_br (fun _ => ?_) (fun _ => ?_)) (fun _ => ?_)
  · unfold jb_Cm_fun_308 hb_Cm_fun_308
    rw [show decide ((0 : Int32) = 0) = true from rfl, ck_t, show isb 0 = true from rfl, ck_t]
    rw [show upI mF 711 0 = mF from upI_id (of_decide_eq_true z711)]
    exact l_lt (pp_end ⟨_, _, _, UXQ_mo hF (by omega)⟩)
  · unfold jb_Cm_fun_303 jb_Cm_fun_308
    rw [show decide ((1 : Int32) = 0) = false from rfl]
    exact pp_nl
  · unfold jb_Cm_fun_303 jb_Cm_fun_308
    rw [show decide ((1 : Int32) = 0) = false from rfl]
    exact pp_nl
end
end
section
set_option maxRecDepth 100000
section
variable {m0 w0 : MS} {K nm Nk : Nat → Nat} {N T f : Nat} {idc fof cvr : Int → Int → Int}
theorem ue_step (c : CTZ m0 w0 K T nm Nk) (cv : CTV m0 w0 K T) (cx : CVX N m0 w0 K T idc fof cvr) (IE : HUE N m0 T nm f) : HUE N m0 T nm (f + 1) := by
  intro D o cl n lo hi xa xb q r m a cm e t g lst hE hxb hr4 hiT hC ok htot
  have t4 := c.2.1.1.1
  obtain ⟨hdc', ⟨tk, h17t, htk1, htk2⟩, ho, hE⟩ := hE
  have hd := hdc'
  unfold HDc at hd
  have hn : n ≤ 8015 := by omega
  have hT4 : T ≤ 4000 := by omega
  cases D with
  | zero => exact pu_pk (w := m0) pp_nl
  | succ D =>
  show PK _ (jm_Cm_expression N (jrc_Cm_fun N D) m (I (n : Nat)) (lsI lst))
  rcases hE with ⟨hl, ⟨rfl, hnc⟩, rfl⟩ | ⟨h16, x, xc, h18, hx, hc, h6, h6b, h17⟩ | ⟨h16, hT, h17⟩ | ⟨h16, hT, h17⟩ | ⟨h16, k, x, xc, h18, hB, hc, h6, h6b, h17⟩ | ⟨h16, x, mid, xc, s, k, mm, c2, h18, hx, h19, hB, hc, h6, h6m, h6b, h17⟩ | ⟨h16, k, mm, xc, h19, hB, hc, h6, h6b, h17⟩ | ⟨h16, k, mm, m1, c1, s1, h19, hO, hrest⟩ | ⟨h16, k, mm, ph, xc, h17, h18, h19, h20, hk, hqr, hP, hc, h6, h6a, h6p, h6b⟩ | ⟨h16, ⟨rfl, h6⟩, rfl⟩ | ⟨h16, h17, k, mm, a2, xc, h19, h20, hk, ha2, hO, hc, h6, h6a, h6b, h18⟩ | ⟨h16, -, x, mid, xc, s, k, mm, h18, hx, ⟨hc, h17⟩, h19, hR⟩ | ⟨h16, -, x, xc, h18, hx, hc, -⟩ | ⟨h16, -, x, xc, h18, hx, hc, h6⟩ | ⟨h16, -, x, y, mid, xc, c2, h18, hP, h19, hy, hc, -⟩ | ⟨h16, -, x, y, mid, xc, c2, s, h18, hx, h19, hy, hc, -⟩ | ⟨h16, -, j, x, xc, h18, hs, hc, -⟩
  · exact pk_mo (u_leaf c cv hC ok hn hl (by omega)) (fun v _ hz => by
      obtain ⟨b, cm2, e2, h⟩ := hz
      exact ⟨b, cm2, e2, UXQ_mo h (Nat.zero_le _)⟩)
  · have := xp_hd hx
    exact u_grp IE hC ok hn h16 h18 hx (by omega) (by omega) hr4 hiT (by omega) htot
  · have hl2 : lo + 2 ≤ hi := by
      obtain ⟨k, mm, xc, -, -, ⟨-, h6, h6b⟩, hO, -⟩ := hT
      rcases hO with ⟨-, -, z, -⟩ | ⟨-, z⟩
      · omega
      · have := (RW_hdK (XP_bdK f (o + 1) 3) z).1
        unfold HDc at this
        omega
    exact u_tup IE hC ok hn h16 hT hr4 hl2 hiT htot
  · exact u_lst IE hC ok hn h16 hT hr4 hiT htot
  · exact u_blk (o := o + 2) IE hC ok hn h16 h17 h18 hB (by omega) hr4 (by omega) hiT ⟨htot.1, by have := htot.2; omega⟩
  · have e1 : PEc m0 f o 1 = CSPcK m0 (PAcK m0 f) (XPcK m0 f (o + 2) 3) (XPcK m0 f (o + 1) 3) := if_neg (by decide)
    exact u_cas c cv IE hC ok hn h16 h17 h18 hx h19 (by rw [e1]; exact hB) (by omega) hr4 (by omega) hiT htot
  · have e1 : PEc m0 f o 2 = CHPcK m0 (XPcK m0 f (o + 2) 3) (XPcK m0 f (o + 1) 3) := if_pos rfl
    exact u_iff c cv IE hC ok hn h16 h17 h19 (by rw [e1]; exact hB) (by omega) hr4 (by omega) hiT htot
  · have e1 : PEc m0 f o 3 = CSPcK m0 (PAcK m0 f) (XPcK m0 f (o + 2) 3) (XPcK m0 f (o + 1) 3) := if_neg (by decide)
    rcases hrest with ⟨h18, h20, hk, rfl, rfl, hc, h6, h6b, h17⟩ | ⟨x, m2, c2, s2, kb, mb, c3, hx1, h18, hx, h20, hB, hc, h6, h6m, h6m2, h6b, h17⟩
    · exact u_rcv (k := k) (s := s1) (m1 := m1) (xc := c1) (xb := xb) c cv IE hC ok hn h16 h17 h19 (by rw [e1]; exact hO) (Or.inl ⟨h18, rfl, rfl, by omega⟩) hxb hr4 (by omega) hiT htot
    · exact u_rcv (k := k) (s := s1) (m1 := m1) (xc := c1) (xb := c3) c cv IE hC ok hn h16 h17 h19 (by rw [e1]; exact hO) (Or.inr ⟨x, m2, c2, s2, kb, mb, hx1, h18, hx, h20, hB⟩) (by omega) hr4 (by omega) hiT htot
  · exact u_fun c cv IE hC ok ho hn h16 h17 (by rw [h18, if_pos (by omega)]) h19 h20 hk hP (by omega) hr4 (by omega) hiT htot
  · exact u_fof cx hC ok hn h16 h6.2.2.2.2.1 (by omega)
  · have hl3 : lo + 3 ≤ hi := by
      rcases hO with ⟨-, -, z, -⟩ | ⟨-, z⟩
      · omega
      · have := (RW_hdK (XP_bdK f (o + 1) 3) z).1
        unfold HDc at this
        omega
    exact u_call (o := o + 1) (xa := a2) cx IE hC ok hn h16 h17 h19 h20 hk hO (by omega) hl3 hr4 (by omega) hiT ⟨htot.1, by have := htot.2; omega⟩
  · have h1 := xp_hd hx
    have hbE : BdE (AGcK m0 (XPcK m0 f (o + 1) 3)) := fun _ _ _ _ _ _ _ h => h.1
    exact u_app IE hC ok hn h16 h17 (by omega) h18 h19 hx hR (by omega) (by omega) hr4 hiT htot
  · exact u_neg IE hC ok hn h16 h18 hx (by omega) hr4 hiT htot
  · exact u_cat IE hC ok hn h16 h17t (by omega) h18 hx (by omega) hr4 hiT htot
  · have h1 := xp_hd hy
    exact u_mat c cv IE hC ok hn h16 h17t (by omega) h18 h19 hP hy (by omega) hr4 hiT htot
  · exact u_snd IE hC ok hn h16 h17t (by omega) h18 h19 hx hy (by omega) hr4 hiT htot
  · exact u_sgn IE hC ok hn h16 h18 hs (by omega) hr4 hiT hT4 htot
theorem ue_all (c : CTZ m0 w0 K T nm Nk) (cv : CTV m0 w0 K T) (cx : CVX N m0 w0 K T idc fof cvr) : ∀ f, HUE N m0 T nm f
  | 0 => fun _ _ _ _ _ _ _ _ _ _ _ _ _ _ _ _ _ h => h.elim
  | f + 1 => ue_step c cv cx (ue_all c cv cx f)
end
end
section
set_option maxRecDepth 100000
section
variable {α β : Type} {m0 w0 m w m2 w2 m3 w3 v u w1 mC mE m9 wp wE : MS} {K nm Nk W W2 WP WE : Nat → Nat} {N T D d o a aC a2 b b' bE b0 c cm cm0 cm2 cm3 cmE cm9 q q0 r s lo lo0 mid hi i j f f2 n k kk p p2 σ tk x : Nat} {Q Qp QE Q2 Q3 : Nat → Nat} {sc sc0 sc2 sc9 scE t t2 t9 tE : SCT} {e e2 e9 eE : List Nat × List Nat × Nat} {g lst : Bool} {L LE L9 : List Nat} {l : List Nat} {fc : MS → Unit → Option (MS × α)} {RU : MS → α → MS → β → Prop} {B : Option (MS × β)}
theorem CNl_BDs : ∀ {t t2 : SCT}, BDs t t2 → CNl m nm t → CNl m nm t2
  | [], [], _, h => h
  | [], _ :: _, k, _ => k.elim
  | _ :: _, [], k, _ => k.elim
  | e :: t, e2 :: t2, k, h => by
    obtain ⟨h1, h2, h3⟩ := h
    have bl := BDs_len k.2
    exact ⟨by rw [bl.1, bl.2]; exact h1, by rw [bl.2, k.1.1]; exact h2, CNl_BDs k.2 h3⟩
theorem XCS_eq (h : XCS m0 nm m a cm (e :: t) g) (h1 : e2.1 = e.1) (h2 : BDs t t2) : XCS m0 nm m a cm (e2 :: t2) g := by
  obtain ⟨⟨p1, p2, p3, p4, p5, p6, p7⟩, p8⟩ := h
  obtain ⟨c1, c2, c3, c4, c5, c6, c7⟩ := p2
  have bl := BDs_len h2
  have l1 : (e2 :: t2).length = (e :: t).length := by show t2.length + 1 = t.length + 1; rw [bl.1]
  have l2 : tot (e2 :: t2) = tot (e :: t) := by show tot t2 + e2.1.length = tot t + e.1.length; rw [bl.2, h1]
  exact ⟨⟨p1, ⟨by rw [l1]; exact c1, by rw [l1]; exact c2, by rw [l2]; exact c3, by rw [l2]; exact c4, by rw [bl.1, bl.2]; exact c5, by rw [bl.2, h1]; exact c6, CNl_BDs h2 c7⟩, p3, p4, by rw [l1]; exact p5, p6, by show e2.1.length ≤ cm; rw [h1]; exact p7⟩, p8⟩
theorem XRS_60 (hX : XRS w0 T w p Q (e2 :: t2)) (n1 : l <+: e2.1) : XRS w0 T (upA w 60 (upd (w.2.2.1 60) t2.length (I (l.length : Nat)))) p Q ((l, e2.2) :: t2) := by
  have le := n1.length_le
  obtain ⟨x1, x2, x3, rnV, hf, x6⟩ := hX.1
  have okc : SOK ((l, e2.2) :: t2) := by
    obtain ⟨⟨o1, o2, o3, o4, o5, o6, o7⟩, o8⟩ := rnV.2.2.2
    exact ⟨⟨o1.sublist n1.sublist, fun x hx => o2 x (n1.subset hx), o3, by show l.length ≤ e2.2.2; omega, o5, o6, o7⟩, o8⟩
  have rnc : RNs (upA w 60 (upd (w.2.2.1 60) t2.length (I (l.length : Nat)))) ((l, e2.2) :: t2) := by
    obtain ⟨⟨r1, r2, r3, r4, r5⟩, r6⟩ := rnV.2.2.1
    refine ⟨rnV.1, rnV.2.1, ⟨⟨by rw [upA_at, upd_at], fun k x hk => ?_, by rw [upA_no (by decide)]; exact r3, fun k x hk => by rw [upA_no (by decide)]; exact r4 k x hk, by rw [upA_no (by decide)]; exact r5⟩, ?_⟩, okc⟩
    · rw [upA_no (by decide)]
      exact r2 k x (pre_getd n1 hk)
    · exact RNl_60 r6 (Nat.le_refl _)
  have hfc : HFl (upA w 60 (upd (w.2.2.1 60) t2.length (I (l.length : Nat)))) ((l, e2.2) :: t2) := ⟨fun k x hk => by rw [upA_no (by decide)]; exact hf.1 k x hk, HFl_fr rnV.2.2.2.2 hf.2 (fun j _ => by rw [upA_no (by decide)])⟩
  refine ⟨⟨⟨x1.1, fun k hk => ?_⟩, x2, x3, rnc, hfc, x6⟩, hX.2⟩
  have : k < 23 := by unfold TRW at hk; simp only [List.mem_cons, List.not_mem_nil, or_false] at hk; omega
  rw [upA_no (by omega)]; exact x1.2 k hk
theorem u_fg3 (h : UXQ m0 nm t g k m a cm e m2 b cm2 e2) (ok : SOK (e :: t)) (hh : ∀ m3 b3, UXQ m0 nm t g 0 m a cm e m3 b3 cm2 e → (∀ j, j < b → m3.2.2.1 23 j = m2.2.2.1 23 j) → (∀ k, k ≠ 23 → m3.2.2.1 k = m2.2.2.1 k) → (∀ k, k ≠ 441 → k ≠ 706 → m3.1 k = m2.1 k) → ((e2.1.length = e.1.length ∧ b3 = b) ∨ (e.1.length < e2.1.length ∧ b3 = b + 2 ∧ m3.2.2.1 23 b = 16 ∧ m3.2.2.1 23 (b + 1) = I ((e2.1.length - e.1.length : Nat) : Int))) → PP RU (fc m3 ()) B) : PP RU (bnd (jm_Cm_forget N m2 (I (tot (e :: t) : Nat))) fc) B := by
  obtain ⟨a2, -, n1, -, a5, a6⟩ := h
  have le := n1.length_le
  have e706 : m2.1 706 = I (tot (e2 :: t) : Nat) := a2.1.2.1.2.2.1
  have t4k : tot (e2 :: t) ≤ 4000 := a2.1.2.1.2.2.2.1
  have et : tot (e2 :: t) = tot t + e2.1.length := rfl
  have et0 : tot (e :: t) = tot t + e.1.length := rfl
  show PP RU (bnd (jb_Cm_forget_0 N () m2 (I (tot (e :: t) : Nat))) fc) B
  unfold jb_Cm_forget_0 jb_Cm_forget_30
  rw [e706, decI (by omega) (by omega) (by omega) (by omega)]
  by_cases z : e2.1.length ≤ e.1.length
  · have ee : e2.1 = e.1 := (n1.eq_of_length (by omega)).symm
    rw [decide_eq_true (by omega), br_tq, lt_e, bnd_s]
    have : upI m2 706 (I (tot (e :: t) : Nat)) = m2 := upI_id (by rw [e706, et, et0, ee])
    rw [this]
    refine hh m2 b ⟨?_, ok, List.prefix_rfl, Nat.le_refl _, a5, a6⟩ (fun _ _ => rfl) (fun _ _ => rfl) (fun _ _ _ => rfl) (Or.inl ⟨by rw [ee], rfl⟩)
    obtain ⟨f1, f2⟩ := e2
    obtain ⟨g1, g2⟩ := e
    have ee : f1 = g1 := ee
    subst ee
    exact a2
  · rw [decide_eq_false (by omega), br_fq]
    have s1 : ∀ x, (ptc m2 b x).1 706 - I (tot (e :: t) : Nat) = I ((e2.1.length - e.1.length : Nat) : Int) := fun x => by
      rw [ptc_i (by decide), e706, I_sub]
      congr 1
      omega
    rw [bnd_as2]
    refine l_put a2.1.2.2.1.1 a2.1.2.2.1.2.2 (fun ha => ?_)
    have c1 := XCS_put (x := 16) a2 ha
    rw [s1, bnd_as2]
    refine l_put c1.1.2.2.1.1 c1.1.2.2.1.2.2 (fun ha1 => ?_)
    have c2 := XCS_put (x := I ((e2.1.length - e.1.length : Nat) : Int)) c1 ha1
    rw [lt_e, bnd_s]
    have em : ptc (ptc m2 b 16) (b + 1) (I ((e2.1.length - e.1.length : Nat) : Int)) = ptcs m2 b [16, I ((e2.1.length - e.1.length : Nat) : Int)] := rfl
    rw [em] at c2 ⊢
    have w0' : (ptcs m2 b [16, I ((e2.1.length - e.1.length : Nat) : Int)]).2.2.1 23 b = 16 := ptcs_at (l := [16, I ((e2.1.length - e.1.length : Nat) : Int)]) (k := 0) rfl
    have w1' : (ptcs m2 b [16, I ((e2.1.length - e.1.length : Nat) : Int)]).2.2.1 23 (b + 1) = I ((e2.1.length - e.1.length : Nat) : Int) := ptcs_at (l := [16, I ((e2.1.length - e.1.length : Nat) : Int)]) (k := 1) rfl
    have fb : UFC m2 (ptcs m2 b [16, I ((e2.1.length - e.1.length : Nat) : Int)]) b t.length := by rw [← em]; exact XFC_U (q := 0) (r := 0) (XFC_put (XFC_put XFC_rf (Nat.le_refl b)) (by omega))
    have fr : ∀ k, k ≠ 23 → (ptcs m2 b [16, I ((e2.1.length - e.1.length : Nat) : Int)]).2.2.1 k = m2.2.2.1 k := fun k hk => ptcs_r hk
    have fx := UFC_tr a6 fb a5.1
    generalize ptcs m2 b [16, I ((e2.1.length - e.1.length : Nat) : Int)] = m4 at c2 fx fb w0' w1' fr
    have cc : XCS m0 nm (upI m4 706 (I (tot (e :: t) : Nat))) (b + 2) cm2 (e :: t) g := by
      obtain ⟨⟨p1, p2, p3, p4, p5, p6, p7⟩, p8⟩ := c2
      obtain ⟨q1, q2, q3⟩ := p2.2.2.2.2
      refine ⟨⟨⟨fun k hk => by rw [upI_ne (by omega)]; exact p1.1 k hk, p1.2⟩, ⟨by rw [upI_ne (by decide)]; exact p2.1, p2.2.1, by rw [upI_at], by omega, ⟨q1, fun k x hk => q2 k x (pre_getd n1 hk), CNl_fr q3 rfl (fun _ _ => rfl)⟩⟩, ⟨by rw [upI_ne (by decide)]; exact p3.1, p3.2⟩, by rw [upI_ne (by decide)]; exact p4, p5, p6, ?_⟩, by rw [upI_ne (by decide)]; exact p8⟩
      have p7 : e2.1.length ≤ cm2 := p7
      show e.1.length ≤ cm2
      omega
    exact hh _ (b + 2) ⟨cc, ok, List.prefix_rfl, Nat.le_refl _, ⟨by omega, a5.2⟩, ⟨fun k k1 k2 => by rw [upI_ne k2]; exact fx.1 k k1 k2, fx.2⟩⟩ fb.2.1 fr (fun k k1 k2 => by rw [upI_ne k2]; exact fb.1 k k1 k2) (Or.inr ⟨by omega, rfl, w0', w1'⟩)
theorem wup_swx {G : Nat → Int32} (h1 : lo ≤ mid) (h2 : mid ≤ hi) : wup (wup G K WE mid hi) K WP lo mid = wup G K (mrw mid WP WE) lo hi := by
  funext j
  unfold wup mrw
  by_cases z : j < mid
  · by_cases y : lo ≤ j ∧ K j = 3
    · rw [if_pos ⟨y.1, z, y.2⟩, if_pos ⟨y.1, by omega, y.2⟩, if_pos z]
    · rw [if_neg (fun x => y ⟨x.1, x.2.2⟩), if_neg (fun x => by omega), if_neg (fun x => y ⟨x.1, x.2.2⟩)]
  · rw [if_neg (fun x => z x.2.1)]
    by_cases y : j < hi ∧ K j = 3
    · rw [if_pos ⟨by omega, y⟩, if_pos ⟨by omega, y⟩, if_neg z]
    · rw [if_neg (fun x => y x.2), if_neg (fun x => y x.2)]
theorem XTF_sw (hE : XTF m0 w0 K T nm Nk false LE mid hi a bE cm cmE s r Qp QE sc9 (eE :: tE) m wp mE wE) (hP : XTF m0 w0 K T nm Nk false L9 lo mid aC a2 cmE cm9 q s Q Qp (e :: t) sc9 mC w m9 wp) (hsame : (hdS sc9).1 = e.1) (hab : a ≤ aC) (l1 : ∀ k, k ≠ 441 → k ≠ 706 → mC.1 k = mE.1 k) (l2 : ∀ k, k ≠ 23 → mC.2.2.1 k = mE.2.2.1 k) (l3 : ∀ j, j < a → mC.2.2.1 23 j = mE.2.2.1 23 j) : XTF m0 w0 K T nm Nk false L9 lo hi a a2 cm cm9 q r Q QE (e :: t) ((e.1, eE.2) :: tE) m w m9 (upA wE 60 (upd (wE.2.2.1 60) tE.length (I (e.1.length : Nat)))) := by
  have len9 := XTF_len hP
  obtain ⟨a1, a2', a3, a4, ⟨WE, a5, a6⟩, a7, a8, a9, a10⟩ := hE
  obtain ⟨b1, b2, b3, b4, ⟨WP, b5, b6⟩, b7, b8, b9, b10⟩ := hP
  cases sc9 with
  | nil => cases len9
  | cons e9 t9 =>
  have hsame : e9.1 = e.1 := hsame
  obtain ⟨n1, n2, n3⟩ := (a5.2 rfl).2
  obtain ⟨p1, p2, p3⟩ := (b5.2 rfl).2
  rw [hsame] at n1
  have tl1 := BDs_len n2
  have tl2 := BDs_len p2
  rw [len9] at a7
  have hdo : HDo Nk K (mrw mid WP WE) lo hi (e :: t) (eE :: tE) := HDo_tr b1.1 a1.1 (HDo_w (fun j _ b => if_pos b) b5.1) (HDo_w (fun j a _ => if_neg (by omega)) a5.1)
  refine ⟨⟨by omega, by omega, by omega, by omega⟩, XCS_eq b2 hsame.symm n2, ⟨XRS_60 a3.1 n1, a3.2⟩, ?_, ⟨mrw mid WP WE, ⟨⟨hdo.1, hdo.2⟩, fun _ => ⟨trivial, List.prefix_rfl, BDs_tr p2 n2, fun x hx => Or.inl hx⟩⟩, ?_⟩, ?_, ⟨?_, QLE_tr b8.2.1 a8.2.1, ⟨a8.2.2.1.trans b8.2.2.1, a8.2.2.2.1.trans b8.2.2.2.1, a8.2.2.2.2.trans b8.2.2.2.2⟩⟩, fun z => (by cases z), fun n hn => ⟨(b10 n hn).1, Nat.lt_of_lt_of_le (b10 n hn).2 (a8.2.1 32 (by decide))⟩⟩
  · show tot tE + e.1.length ≤ tot t + e.1.length + (hi - lo)
    rw [tl1.2, tl2.2]
    omega
  · rw [b6, l2 42 (by decide), a6, wup_swx b1.1 a1.1]
  · refine ⟨fun k k1 k2 => by rw [b7.1 k k1 k2, l1 k k1 k2, a7.1 k k1 k2], fun k k1 k2 k3 => by rw [b7.2.1 k k1 k2 k3, l2 k k1, a7.2.1 k k1 k2 k3], fun j hj => by rw [b7.2.2.1 j (by omega), l3 j hj, a7.2.2.1 j hj], fun k j k1 k2 k3 => by rw [b7.2.2.2.1 k j k1 k2 (by omega), l2 k (by omega), a7.2.2.2.1 k j k1 k2 (by omega)], fun j hj => by rw [b7.2.2.2.2.1 j hj, l2 40 (by decide), a7.2.2.2.2.1 j hj], fun j hj => by rw [b7.2.2.2.2.2 j hj, l2 41 (by decide), a7.2.2.2.2.2 j hj]⟩
  · have q1 := QRR_tr b8.1 a8.1 b8.2.1
    refine ⟨fun k k1 k2 k3 => ?_, fun k n k1 k2 => ?_, q1.2.2⟩
    · rw [upA_no (by rintro rfl; exact k2 ⟨by decide, by decide⟩)]
      exact q1.1 k k1 k2 k3
    · rw [upA_no (by rintro rfl; exact k1 (by decide))]
      exact q1.2.1 k n k1 k2
end
end
