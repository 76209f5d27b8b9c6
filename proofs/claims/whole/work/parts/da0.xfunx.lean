/-! expressions: fun, both: all of it -/
set_option maxRecDepth 100000
section
variable {α β : Type} {m0 w0 m w m2 w2 m3 w3 v u w1 mS wS : MS} {K nm Nk W W2 : Nat → Nat} {N T D d o a a0 b b0 c cm cm0 cm2 cm3 q q0 r s lo lo0 mid hi i j f f2 n k kk p p2 pn ph σ tk x xa xb xc mm M m1 lv y : Nat} {Q Q0 Q2 Q3 Q4 : Nat → Nat} {sc sc0 sc2 sc3 t t2 : SCT} {e e2 : List Nat × List Nat × Nat} {g lst l2 : Bool} {L L1 L2 S : List Nat} {idc fof cvr : Int → Int → Int} {z : Unit} {rt v1 v2 v3 v4 v5 : Int32} {H : List Nat} {xi : Int}
theorem LKt_bd (h : LKt sc x xi) (ok : SOK sc) (hx : HPX nm sc H) : -100000 ≤ xi ∧ xi ≤ 100000 := by
  cases sc with
  | nil => exact h.elim
  | cons e t =>
    have l1 := ok.1.2.2.2.1
    have l2 := ok.1.2.2.2.2.1
    have l3 := ok.1.2.2.1
    have hp : (e.2.1.map nm).length ≤ H.length := hx.1.length_le
    rw [List.length_map] at hp
    have h40 := hx.2
    rcases h with ⟨k, rfl, hk⟩ | ⟨-, ⟨k, rfl, hk⟩ | hk⟩
    · have := (List.getElem?_eq_some_iff.mp hk).1
      omega
    · have := (List.getElem?_eq_some_iff.mp hk).1
      omega
    · omega
set_option maxHeartbeats 2000000 in
theorem x_fun (c : CTZ m0 w0 K T nm Nk) (cv : CTV m0 w0 K T) (IE : HXE N m0 w0 K T nm Nk fof cvr f) (hf : f ≤ 230) (hC : XCS m0 nm m a cm sc g) (hR : XRS w0 T w lo Q sc) (hq : Q 56 = q) (hn : n ≤ 8015) (h16 : A m0 16 n = 12) (h17 : A m0 17 n = ((lo : Nat) : Int)) (h18 : A m0 18 n = ((q : Nat) : Int)) (h19 : A m0 19 n = ((pn : Nat) : Int)) (h20 : A m0 20 n = ((hi - 1 : Nat) : Int)) (hkk : kk ≤ 6) (hP : PRTcK m0 (PAcK m0 f) (XPcK m0 f (o + 2) 3) (XPcK m0 f (o + 1) 3) kk pn (lo + 2) ph (ph + 1) (hi - 1) xa xb (q + 1) r) (hxb : xb ≤ 8015) (h6 : A m0 6 lo = 12) (h6a : A m0 6 (lo + 1) = 20) (h6p : A m0 6 ph = 21) (h6b : A m0 6 (hi - 1) = 11) (hr4 : r ≤ 400) (hiT : hi ≤ T) (htot : tot sc + (hi - lo) ≤ 4000 ∧ sc.length ≤ o + 1) : PP (XZ m0 w0 K T nm Nk fof cvr lst g lo hi a cm q r Q sc m w) (jm_Cm_expression N (jrc_Cm_fun N D) m (I (n : Nat)) (lsI lst)) (km_M_alone N (krc_M_behind N d) w (I (lo : Nat))) := by
  have t4 := c.2.1.1.1
  have fr := XCS_fr hC
  -- places
  have hb : lo + 2 ≤ ph ∧ ph + 2 < hi - 1 ∧ q + 1 ≤ r ∧ pn ≤ 8015 := by
    obtain ⟨⟨y1, y2⟩, -, -, p0, xc, gx, mid, xd, s, kb, mb, xe, ⟨-, hpa⟩, ⟨-, hg⟩, ⟨-, hB⟩, -, -⟩ := hP
    have hB1 := (RW_hdK (XP_bdK f (o + 2) 3) hB).1
    unfold HDc at hB1
    have a1 : lo + 2 ≤ ph := by
      rcases hpa with ⟨-, -, z, -⟩ | ⟨-, z⟩
      · omega
      · have := (RW_hdK (PA_bdK f) z).1
        unfold HDc at this
        omega
    have a2 : ph + 1 ≤ mid ∧ q + 1 ≤ s := by
      rcases hg with ⟨-, z, -, z2⟩ | ⟨-, kg, z⟩
      · exact ⟨by omega, by omega⟩
      · have := (RW_hdK (XP_bdK f (o + 1) 3) z).1
        unfold HDc at this
        exact ⟨by omega, by omega⟩
    exact ⟨a1, by omega, by omega, by omega⟩
  obtain ⟨p0, h18p, hOR⟩ : ∃ p0 : Nat, A m0 18 pn = ((p0 : Nat) : Int) ∧ ∃ xc, ORcK m0 1 26 (PAcK m0 f) kk p0 (lo + 2) ph xa xc (q + 1) (q + 1) ∧ xc ≤ 8015 := by
    obtain ⟨⟨y1, y2⟩, -, -, p0, xc, gx, mid, xd, s, kb, mb, xe, ⟨z1, hpa⟩, ⟨-, hg⟩, ⟨-, hB⟩, hxe, -⟩ := hP
    have hB1 := (RW_hdK (XP_bdK f (o + 2) 3) hB).1
    unfold HDc at hB1
    refine ⟨p0, z1, xc, hpa, ?_⟩
    rcases hg with ⟨-, -, z, -⟩ | ⟨-, kg, z⟩
    · omega
    · have := (RW_hdK (XP_bdK f (o + 1) 3) z).1
      unfold HDc at this
      omega
  obtain ⟨xc, hOR, hxc⟩ := hOR
  have k12 : K lo = 12 := kA c (by omega : lo ≤ T) h6
  have k20 : K (lo + 1) = 20 := kA c (by omega : lo + 1 ≤ T) h6a
  have k21 : K ph = 21 := kA c (by omega : ph ≤ T) h6p
  have k11 : K (hi - 1) = 11 := kA c (by omega : hi - 1 ≤ T) h6b
  have sne : 1 ≤ sc.length := hC.1.2.1.2.1.1
  refine exd_12 hn (tre fr (by decide) h16) (l_id ?_)
  cases D with
  | zero => exact pp_nl
  | succ D =>
  show PP _ (jm_Cm_compound N (jrc_Cm_fun N D) m (I (n : Nat)) (lsI lst)) _
  refine cmd_12 hn (tre fr (by decide) h16) hC.2 (tre fr (by decide) h17) (by omega) (fun hg => l_id ?_)
  subst hg
  cases D with
  | zero => exact pp_nl
  | succ D =>
  show PP _ (jm_Cm_fun N (jrc_Cm_fun N D) m (I (n : Nat))) _
  -- here, as far as the CLAUSE
  refine al_wrd c hR (Or.inr (Or.inr (Or.inl k12))) (fun u xx hX hu => ?_)
  rw [decide_eq_true k12, br_t]
  cases d with
  | zero => exact pp_nr
  | succ d =>
  refine pp_rb ?_
  show PP _ _ (km_M_fun N (krc_M_behind N d) u (I (lo : Nat)))
  unfold km_M_fun kb_M_fun_0
  have e69 : u.1 69 + 1 = I ((lo + 1 : Nat) : Int) := by rw [hX.1.2.1.1, i_suc]
  rw [e69, show upI u 69 (I ((lo + 1 : Nat) : Int)) = adv u lo from rfl]
  refine r_lt (r_ck (fun _ => ?_))
  have hX1 := XRS_ad hX (show lo < T by omega)
  have a69 : (adv u lo).1 69 = I ((lo + 1 : Nat) : Int) := upI_at
  have s1 : decide ((adv u lo).2.2.1 6 (lo + 1) = 1) = decide (K (lo + 1) = 2) := srt_dc (XRS_wp c hX1) srK_1
  rw [a69, i_nt2 (p := lo + 1) (by omega), s1, decide_eq_false (by omega), br_f]
  have a56 := (hX1.2 56 (by decide))
  rw [hq] at a56
  rw [a56.1, i_suc]
  refine r_lt ?_
  have hX2 : XRS w0 T (upI (adv u lo) 56 (I ((q + 1 : Nat) : Int))) (lo + 1) (qst Q 56 (q + 1)) sc := by
    refine ⟨?_, QMK_st hX1.2 (by omega)⟩
    rw [qst_no (by decide)]
    exact PRS_x hX1.1 (fun k hk => upI_ne (by rintro rfl; revert hk; decide)) (fun _ _ => rfl) (by rw [upI_ne (by decide)]; exact a69)
  have ur2 : (upI (adv u lo) 56 (I ((q + 1 : Nat) : Int))).2.2.1 = w.2.2.1 := by show u.2.2.1 = _; rw [hu]
  have uj2 : (upI (adv u lo) 56 (I ((q + 1 : Nat) : Int))).2.2.2 = w.2.2.2 := by show u.2.2.2 = _; rw [hu]
  generalize upI (adv u lo) 56 (I ((q + 1 : Nat) : Int)) = u2 at hX2 ur2 uj2
  have e32q : (qst Q 56 (q + 1)) 32 = Q 32 := qst_no (by decide)
  obtain ⟨q1, q2⟩ := XRS_q hX2
  rw [e32q] at q1 q2
  refine r_nod q1 q2 rfl (nsh (by omega)) (fun h16r => ?_)
  have d0 : NOD u2 (nwD u2 (Q 32) 26 (I (lo : Nat))) (Q 32) := NOD_0 q1
  obtain ⟨d1, -⟩ := nwD_at (w := u2) (i := Q 32) (k := 26) (t := I (lo : Nat))
  have d9 : (nwD u2 (Q 32) 26 (I (lo : Nat))).1 69 = I ((lo + 1 : Nat) : Int) := by rw [nwD_i (by decide)]; exact hX2.1.2.1.1
  have d58 : ∀ k, k ≠ 32 → (nwD u2 (Q 32) 26 (I (lo : Nat))).1 k = u2.1 k := fun k hk => nwD_i hk
  generalize nwD u2 (Q 32) 26 (I (lo : Nat)) = U at d0 d1 d9 d58
  have hXU : XRS w0 T U (lo + 1) (qst (qst Q 56 (q + 1)) 32 (Q 32 + 1)) sc := XRS_n hX2 d0.1 (fun k hk => funext (fun j => d0.2.2.1 k j (by omega))) d9 (by omega) d0.2.1 (by omega)
  have h65 : U.1 65 = I ((sc.length - 1 : Nat) : Int) := hXU.1.2.2.2.1.1
  rw [h65, i_suc, show sc.length - 1 + 1 = sc.length by omega]
  refine r_lt ?_
  rw [upI_at]
  refine r_ck (fun z60 => ?_)
  have l26 : sc.length ≤ 26 := by
    have l27 := hXU.1.2.2.2.1.2.1.2
    have := (I_inb (n := ln 60) (x := ((sc.length : Nat) : Int)) (by omega) (by omega)).mp z60
    have e60 : ln 60 ≤ 27 := by decide
    omega
  rw [i_nt2 (p := sc.length) (by omega)]
  refine r_lt ?_
  have y60 : W46 (upI U 65 (I (sc.length : Nat))) (upA (upI U 65 (I (sc.length : Nat))) 60 (upd ((upI U 65 (I (sc.length : Nat))).2.2.1 60) sc.length 0)) 60 sc.length 0 := w46_of
  generalize upA (upI U 65 (I (sc.length : Nat))) 60 (upd ((upI U 65 (I (sc.length : Nat))).2.2.1 60) sc.length 0) = U1 at y60
  have e65a : U1.1 65 = I (sc.length : Nat) := by rw [y60.1, upI_at]
  rw [e65a, i_nt2 (p := sc.length) (by omega)]
  refine r_ck (fun _ => r_lt ?_)
  have y63 : W46 U1 (upA U1 63 (upd (U1.2.2.1 63) sc.length 0)) 63 sc.length 0 := w46_of
  generalize upA U1 63 (upd (U1.2.2.1 63) sc.length 0) = U2 at y63
  have e65b : U2.1 65 = I (sc.length : Nat) := by rw [y63.1]; exact e65a
  rw [e65b, i_nt2 (p := sc.length) (by omega)]
  refine r_ck (fun _ => r_lt ?_)
  have y64 : W46 U2 (upA U2 64 (upd (U2.2.2.1 64) sc.length 0)) 64 sc.length 0 := w46_of
  generalize upA U2 64 (upd (U2.2.2.1 64) sc.length 0) = wC at y64
  have iC : ∀ k, k ≠ 65 → wC.1 k = U.1 k := fun k hk => by rw [y64.1, y63.1, y60.1, upI_ne hk]
  have i65 : wC.1 65 = I (sc.length : Nat) := by rw [y64.1]; exact e65b
  have rC : ∀ k n, (k ≠ 60 ∧ k ≠ 63 ∧ k ≠ 64) ∨ n ≠ sc.length → wC.2.2.1 k n = U.2.2.1 k n := fun k n hk => by
    rw [y64.2.2.1 k n (by omega), y63.2.2.1 k n (by omega), y60.2.2.1 k n (by omega)]; rfl
  have rCf : ∀ k, k ≠ 60 → k ≠ 63 → k ≠ 64 → wC.2.2.1 k = U.2.2.1 k := fun k h1 h2 h3 => funext (fun n => rC k n (Or.inl ⟨h1, h2, h3⟩))
  have jC : wC.2.2.2 = w.2.2.2 := by rw [y64.2.1, y63.2.1, y60.2.1]; exact d0.2.2.2.trans uj2
  have z60' : wC.2.2.1 60 sc.length = 0 := by rw [y64.2.2.1 60 _ (Or.inl (by decide)), y63.2.2.1 60 _ (Or.inl (by decide))]; exact y60.2.2.2
  have z63' : wC.2.2.1 63 sc.length = 0 := by rw [y64.2.2.1 63 _ (Or.inl (by decide))]; exact y63.2.2.2
  have z64' : wC.2.2.1 64 sc.length = 0 := y64.2.2.2
  have hXC : XRS w0 T wC (lo + 1) (qst (qst Q 56 (q + 1)) 32 (Q 32 + 1)) (([], [], 0) :: sc) := by
    refine ⟨PRd_psh hXU.1 l26 (fun k hk => iC k (by rintro rfl; revert hk; decide)) i65 (fun k hk => rCf k (by omega) (by omega) (by omega)) (fun k hk => ?_) ((iC 69 (by decide)).trans d9) (by omega), fun k hk => ?_⟩
    · refine ⟨?_, fun s hs => rC k s (Or.inr hs)⟩
      rcases hk with rfl | rfl | rfl
      · exact z60'
      · exact z63'
      · exact z64'
    · rw [iC k (by rintro rfl; revert hk; decide)]; exact hXU.2 k hk
  have wCw : ∀ k n, (k < 23 ∨ (31 < k ∧ k < 59) ∨ 64 < k) ∨ ((23 ≤ k ∧ k ≤ 31) ∧ n ≠ Q 32) → wC.2.2.1 k n = w.2.2.1 k n := fun k n hk => by
    rw [rC k n (Or.inl (by omega)), d0.2.2.1 k n (by omega), ur2]
  have wC23 : wC.2.2.1 23 (Q 32) = 26 := by rw [rC 23 _ (Or.inl (by decide))]; exact d1
  -- there, as far as the CLAUSE
  unfold jm_Cm_fun jb_Cm_fun_0
  rw [i_nt2 (show n ≤ 100000 by omega), tre fr (by decide) h19, i_nt2 (p := pn) (by omega), tre fr (by decide) h18p, tre fr (by decide) h18, i_nt2 (p := q) (by omega)]
  refine l_ck (fun _ => l_ck (fun _ => l_ck (fun _ => ?_)))
  refine l_bnd (pk_mo (len_j fr hxc hOR) (fun mx rx hmx => ?_))
  obtain ⟨hmx, rfl⟩ := hmx
  rw [hmx]
  clear hmx
  refine fn_beg (X := fun w52 r26 => _) hC ⟨sne, l26⟩ (by omega) hkk (fun mC xC miC m709 mrC moC mwC mpC mqC m4C => ?_)
  refine l_ck (fun _ => l_ck (fun _ => ?_))
  have frC := XCS_fr xC
  rw [tre frC (by decide) h17, i_nt2 (p := lo) (by omega)]
  have hln : (mC.2.2.1 8 lo).toInt = A w0 8 lo := pk_ln cv frC (by omega)
  refine pp_bb (pp_mo (cls_x (e := ([], [], 0)) (t := sc) (q := q + 1) (Q := qst (qst Q 56 (q + 1)) 32 (Q 32 + 1)) c cv IE hf xC rfl hXC (by rw [qst_no (by decide), qst_at]) k20 hP k21 (by omega) hxb hr4 ⟨by rw [k11]; exact ⟨rfl, by decide, by decide, by decide⟩, by rw [k11]; decide, by omega⟩ hkk ⟨by show tot sc + 0 + (hi - 1 - (lo + 1)) ≤ 4000; omega, by omega, by omega⟩ hln (by omega)) (fun m2 z w2 r9 hz => ?_))
  obtain ⟨b, cm2, Q2, e2, t2, rfl, l1, xC2, ⟨xR2, q56⟩, tot2, ⟨W, ho, h42⟩, xfc, xrf, ⟨tl, bds⟩, ⟨k46, k16, k45, k41⟩, ecm, clm⟩ := hz
  have tl' : t2.length = sc.length := by have : t2.length + 1 = sc.length + 1 := tl; omega
  have bds' : BDs sc t2 := bds
  have el0 : (([], [], 0) :: sc : SCT).length - 1 = sc.length := rfl
  rw [el0] at xfc
  have QC46 : (qst (qst Q 56 (q + 1)) 32 (Q 32 + 1)) 46 = Q 46 := by rw [qst_no (by decide), qst_no (by decide)]
  have QC32 : (qst (qst Q 56 (q + 1)) 32 (Q 32 + 1)) 32 = Q 32 + 1 := qst_at
  have QC56 : (qst (qst Q 56 (q + 1)) 32 (Q 32 + 1)) 56 = q + 1 := by rw [qst_no (by decide), qst_at]
  have QCo : ∀ k, k ≠ 32 → k ≠ 56 → (qst (qst Q 56 (q + 1)) 32 (Q 32 + 1)) k = Q k := fun k h1 h2 => by rw [qst_no h1, qst_no h2]
  have leQC : QLE Q (qst (qst Q 56 (q + 1)) 32 (Q 32 + 1)) := QLE_st (QLE_st QLE_rf (by omega)) (by omega)
  have le2 := xrf.2.1
  have l32 := le2 32 (by decide)
  rw [QC32] at l32
  have l46 := le2 46 (by decide)
  have l58 := (xR2.2 58 (by decide)).2
  -- the names held
  have htk : TKh m2 K nm Nk W lo hi := fun j j1 j2 => by
    have fr2 := XCS_fr xC2
    refine ⟨by rw [fr2.2 6 (by decide)]; exact c.1.2 j (by omega), c.1.1.k46 (by omega), fun k3 => ?_⟩
    have jn : lo + 1 ≤ j ∧ j < hi - 1 := by
      have h1 : j ≠ lo := fun y => by rw [y, k12] at k3; cases k3
      have h2 : j ≠ hi - 1 := fun y => by rw [y, k11] at k3; cases k3
      omega
    obtain ⟨z7, -, zb, -⟩ := c.2.2.2 j (by omega) k3
    refine ⟨by rw [fr2.2 7 (by decide)]; exact z7, by have := c.2.2.1.2 (Nk j); omega, ?_, HDo_bd ho j jn.1 jn.2 k3⟩
    rw [h42]
    show (if lo + 1 ≤ j ∧ j < hi - 1 ∧ K j = 3 then I (W j : Nat) else _) = _
    rw [if_pos ⟨jn.1, jn.2, k3⟩]
  have h41 : m2.2.2.1 41 (t2.length - 1) = I (cm : Nat) := by
    rw [xfc.2.2.2.2.2 (t2.length - 1) (by omega), m4C 41 _ (Or.inr rfl) (by omega), tl']
    exact hC.1.2.2.2.2.1
  have hd41 : cm ≤ 4000 ∧ (hdS t2).1.length ≤ cm := ⟨hC.1.2.2.2.2.2.1, by rw [BDs_hd bds']; exact hC.1.2.2.2.2.2.2⟩
  have m712 : m.1 712 = 0 := of_decide_eq_true (by have := hC.2; exact this)
  refine fne_x (x712 := m.1 712) (W := W) (hi := hi) (lo := lo) c xC2 ⟨h41, hd41⟩ ⟨by omega, by omega⟩ m712 ⟨by rw [xfc.2.2.1 (a + 1) (by omega)]; exact mwC.2, by omega⟩ (by omega) hn h17 h20 ⟨by omega, by omega, by omega⟩ htk (fun mF dd hdd l40 xF miF m9F mrF moF mwF mnF mpF => ?_)
  -- the names held are the reader's
  have de : dd = e2.2.1 := by
    have h1 : e2.2.1 = hdc Nk K W sc.length (hi - 1 - (lo + 1)) (lo + 1) [] := ho.1
    have h2 : dd = hdn Nk K W (t2.length - 1) (hi - 1 - (lo + 1)) (lo + 1) [] := by
      rw [hdd, show hi - lo = 1 + ((hi - 1 - (lo + 1)) + 1) by omega, hdn_add, hdn_add, hdn_gap 1 lo [] (fun j j1 j2 => by rw [show j = lo by omega, k12]; decide)]
      exact hdn_gap 1 _ _ (fun j j1 j2 => by rw [show j = hi - 1 by omega, k11]; decide)
    rw [h1, h2, show sc.length = (t2.length - 1) + 1 by omega]
    refine (hdn_hdc _ _ _ ?_).symm
    rw [← h2]; omega
  subst de
  -- here, behind the CLAUSE
  refine nd_w c xR2 (k := 11) (s' := 6) (by decide) rfl (fun _ => ?_)
  have xR3 := XRS_ad xR2 (show hi - 1 < T by omega)
  rw [show hi - 1 + 1 = hi by omega] at xR3
  have rn2 := xR3.1.2.2.2.1
  have g65 : (adv w2 (hi - 1)).1 65 = I (t2.length : Nat) := rn2.1
  have g63 : (adv w2 (hi - 1)).2.2.1 63 t2.length = I (e2.2.1.length : Nat) := rn2.2.2.1.1.2.2.1
  have ok2 := rn2.2.2.2
  rw [g65, i_nt2 (p := t2.length) (by omega)]
  refine r_ck (fun _ => r_ck (fun _ => ?_))
  have hho2 : HDo Nk K W lo hi sc t2 := HDo_tr (p2 := lo + 1) (by omega) (by omega) (HDo_gap (fun j a b => by rw [show j = lo by omega, k12]; decide)) (HDo_tr (p2 := hi - 1) (by omega) (by omega) ho.2 (HDo_gap (fun j a b => by rw [show j = hi - 1 by omega, k11]; decide)))
  have fin : ∀ w3, XRS w0 T w3 hi Q2 (e2 :: t2) → w3.2 = w2.2 → PP (fun mm zz ww rr => PK (fun v qq => XZ m0 w0 K T nm Nk fof cvr lst false lo hi a cm q r Q sc m w mm zz v qq) (some (upI ww 73 xx, rr))) (some (mF, ())) (kb_M_fun_221 N (krc_M_behind N d) (kg_M_fun N (krc_M_behind N d) N) w3 (I (lo : Nat)) (I (q : Nat)) (I (Q 32 : Nat)) (I ((qst (qst Q 56 (q + 1)) 32 (Q 32 + 1)) 46 : Nat))) := fun w3 hX3 hw3 => by
    have rn3 := hX3.1.2.2.2.1
    have h58 := hX3.2 58 (by decide)
    have hr3 : w3.2.2.1 = w2.2.2.1 := by rw [hw3]
    have hj3 : w3.2.2.2 = w2.2.2.2 := by rw [hw3]
    refine r_221 (s := t2.length) (l := e2.2.1.length) (B := Q2 58) (by omega) ok2.1.2.2.1 h58.2 (by omega) rn3.1 rn3.2.2.1.1.2.2.1 h58.1 (fun V hBl vi v58 vr v5 v57 vj => ?_)
    unfold fnT
    have v65 : V.1 65 - 1 = I ((t2.length - 1 : Nat) : Int) := by
      rw [vi 65 (by decide), rn3.1]
      exact (I_mn (a := t2.length) (c := 1) (by omega) rfl).trans rfl
    rw [v65, i_nt2 (p := Q 32) (by omega)]
    refine r_lt (r_ck (fun _ => ?_))
    have v32 : (upI V 65 (I ((t2.length - 1 : Nat) : Int))).1 32 = I (Q2 32 : Nat) := by rw [upI_ne (by decide), vi 32 (by decide)]; exact (XRS_q hX3).1
    rw [v32]
    refine r_lt ?_
    have yA : W46 (upI V 65 (I ((t2.length - 1 : Nat) : Int))) (upA (upI V 65 (I ((t2.length - 1 : Nat) : Int))) 25 (upd ((upI V 65 (I ((t2.length - 1 : Nat) : Int))).2.2.1 25) (Q 32) (I (Q2 32 : Nat)))) 25 (Q 32) (I (Q2 32 : Nat)) := w46_of
    generalize upA (upI V 65 (I ((t2.length - 1 : Nat) : Int))) 25 (upd ((upI V 65 (I ((t2.length - 1 : Nat) : Int))).2.2.1 25) (Q 32) (I (Q2 32 : Nat))) = Va at yA
    have a32 : Va.1 32 = I (Q2 32 : Nat) := by rw [yA.1]; exact v32
    have q24 := (XRS_q hX3).2
    refine r_nod a32 q24 rfl (nsh (by omega)) (fun h16s => ?_)
    have x0 : NOD Va (nwD Va (Q2 32) 14 (I (lo : Nat))) (Q2 32) := NOD_0 a32
    obtain ⟨x1, -, -, -, -, x6, -⟩ := nwD_at (w := Va) (i := Q2 32) (k := 14) (t := I (lo : Nat))
    have xi : ∀ k, k ≠ 32 → (nwD Va (Q2 32) 14 (I (lo : Nat))).1 k = Va.1 k := fun k hk => nwD_i hk
    generalize nwD Va (Q2 32) 14 (I (lo : Nat)) = U3 at x0 x1 x6 xi
    rw [i_nt2 (p := Q2 32) (by omega)]
    refine r_ck (fun _ => r_lt ?_)
    have x0' : NOD Va (upA U3 25 (upd (U3.2.2.1 25) (Q2 32) (I (q : Nat)))) (Q2 32) := NOD_A x0 (by decide)
    have x23 : (upA U3 25 (upd (U3.2.2.1 25) (Q2 32) (I (q : Nat)))).2.2.1 23 (Q2 32) = 14 := by rw [upA_no (by decide)]; exact x1
    have x25 : (upA U3 25 (upd (U3.2.2.1 25) (Q2 32) (I (q : Nat)))).2.2.1 25 (Q2 32) = I (q : Nat) := by rw [upA_at, upd_at]
    have x28 : (upA U3 25 (upd (U3.2.2.1 25) (Q2 32) (I (q : Nat)))).2.2.1 28 (Q2 32) = -1 := by rw [upA_no (by decide)]; exact x6
    have xii : ∀ k, k ≠ 32 → (upA U3 25 (upd (U3.2.2.1 25) (Q2 32) (I (q : Nat)))).1 k = Va.1 k := xi
    generalize upA U3 25 (upd (U3.2.2.1 25) (Q2 32) (I (q : Nat))) = V3 at x0' x23 x25 x28 xii
    have Vi : ∀ k, k ≠ 32 → k ≠ 58 → k ≠ 65 → V3.1 k = w3.1 k := fun k a1 a2 a3 => by rw [xii k a1, yA.1, upI_ne a3, vi k a2]
    have V3w : ∀ k n, (k ≠ 57 ∨ (n < Q2 58 ∨ Q2 58 + e2.2.1.length ≤ n)) → ((k ≠ 53 ∧ k ≠ 54 ∧ k ≠ 55) ∨ n ≠ q) → (k ≠ 25 ∨ n ≠ Q 32) → ((k < 23 ∨ 31 < k) ∨ n ≠ Q2 32) → V3.2.2.1 k n = w2.2.2.1 k n := fun k n a1 a2 a3 a4 => by
      rw [x0'.2.2.1 k n (by omega), yA.2.2.1 k n (by omega)]
      show V.2.2.1 k n = _
      rw [vr k n (by omega), hr3]
    have V3J : V3.2.2.2 = w2.2.2.2 := by rw [x0'.2.2.2, yA.2.1]; exact vj.trans hj3
    have Vq : ∀ k, k = 53 ∨ k = 54 ∨ k = 55 → V3.2.2.1 k q = V.2.2.1 k q := fun k hk => by
      rw [x0'.2.2.1 k q (by omega), yA.2.2.1 k q (by omega)]; rfl
    have V57 : ∀ k, k < e2.2.1.length → V3.2.2.1 57 (Q2 58 + k) = w2.2.2.1 62 (1400 * t2.length + k) := fun k hk => by
      rw [x0'.2.2.1 57 _ (by omega), yA.2.2.1 57 _ (by omega)]
      show V.2.2.1 57 _ = _
      rw [v57 k hk, hr3]
    have V25 : V3.2.2.1 25 (Q 32) = I (Q2 32 : Nat) := by rw [x0'.2.2.1 25 _ (by omega)]; exact yA.2.2.2
    have V23 : V3.2.2.1 23 (Q 32) = 26 := by
      rw [V3w 23 _ (Or.inl (by decide)) (Or.inl (by decide)) (Or.inl (by decide)) (Or.inr (by omega)), xrf.1.2.1 23 (Q 32) (by decide) (by show Q 32 < (qst (qst Q 56 (q + 1)) 32 (Q 32 + 1)) 32; omega)]
      exact wC23
    have QFo : ∀ k, k ≠ 32 → k ≠ 58 → (qst (qst Q2 58 (Q2 58 + e2.2.1.length)) 32 (Q2 32 + 1)) k = Q2 k := fun k h1 h2 => by rw [qst_no h1, qst_no h2]
    have QF32 : (qst (qst Q2 58 (Q2 58 + e2.2.1.length)) 32 (Q2 32 + 1)) 32 = Q2 32 + 1 := qst_at
    have QF58 : (qst (qst Q2 58 (Q2 58 + e2.2.1.length)) 32 (Q2 32 + 1)) 58 = Q2 58 + e2.2.1.length := by rw [qst_no (by decide), qst_at]
    have leF : QLE Q2 (qst (qst Q2 58 (Q2 58 + e2.2.1.length)) 32 (Q2 32 + 1)) := QLE_st (QLE_st QLE_rf (by omega)) (by omega)
    have leQ2 : QLE Q Q2 := QLE_tr leQC le2
    have xR : XRS w0 T V3 hi (qst (qst Q2 58 (Q2 58 + e2.2.1.length)) 32 (Q2 32 + 1)) t2 := by
      refine ⟨?_, fun k hk => ?_⟩
      · rw [QFo 39 (by decide) (by decide)]
        exact PRd_pop hX3.1 (by omega) (fun k hk => Vi k (by rintro rfl; revert hk; decide) (by rintro rfl; revert hk; decide) (by rintro rfl; revert hk; decide)) (by rw [xii 65 (by decide), yA.1, upI_at]) (fun k hk => by rw [hr3]; exact funext (fun n => V3w k n (Or.inl (by omega)) (Or.inl (by omega)) (Or.inl (by omega)) (Or.inl (by omega)))) ((Vi 69 (by decide) (by decide) (by decide)).trans hX3.1.2.1.1) hiT
      · by_cases y : k = 32
        · subst y
          rw [QF32]
          exact ⟨x0'.2.1, by omega⟩
        · by_cases y2 : k = 58
          · subst y2
            rw [QF58, xii 58 (by decide), yA.1, upI_ne (by decide)]
            exact ⟨v58, hBl⟩
          · rw [QFo k y y2, Vi k y y2 (by rintro rfl; revert hk; decide)]
            exact hX3.2 k hk
    have q58 := leQ2 58 (by decide)
    have qr : QRR Q w V3 := ⟨fun k a1 a2 a3 => ?_, fun k n a1 a2 => ?_, fun k n a1 => ?_⟩
    · have oN : Onm nm t2 = Onm nm sc := by unfold Onm; rw [BDs_hd bds']
      have dl := ok2.1.2.2.1
      refine pp_end (pk_some (XZ_out (w2 := V3) (mid := hi) ?_ (fun Q2 sc2 h => XRS_I h (by decide) (by decide)) rfl (Nat.le_refl _) (fun j a b => by omega)))
      refine ⟨b + 4 + e2.2.1.length, cm, _, t2, Q2 32, 2, [], rfl, ⟨by omega, by rw [QF32]; omega⟩, ⟨⟨by omega, by omega, Nat.le_refl _, by omega⟩, xF, ⟨xR, by rw [QFo 56 (by decide) (by decide)]; exact q56⟩, by rw [(BDs_len bds').2]; omega, ⟨W, ⟨hho2, fun _ => ⟨trivial, BDs_NWd bds'⟩⟩, ?_⟩, ⟨fun k k1 k2 => ?_, fun k k1 k2 k3 => ?_, fun j hj => ?_, fun k j k1 k2 k3 => ?_, fun j hj => ?_, fun j hj => ?_⟩, ⟨qr, QLE_tr leQ2 leF, ?_⟩, fun z => (by cases z), fun n hn => (by cases hn), fun C P R J H fi hx => ?_⟩, ⟨by omega, by omega⟩, RTd_1 (congrArg Int32.toInt x28) ⟨by show (V3.2.2.1 23 (Q2 32)).toInt ≠ 12; rw [x23]; decide, by show (V3.2.2.1 23 (Q2 32)).toInt ≠ 13; rw [x23]; decide⟩ rfl ⟨by omega, by rw [QF32]; omega⟩, fun n hn => by cases hn⟩
      · rw [mrF 42 (by decide) (by decide), h42, mrC 42 (by decide) (by decide) (by decide) (by decide) (by decide)]
        refine funext (fun j => ?_)
        show (if lo + 1 ≤ j ∧ j < hi - 1 ∧ K j = 3 then I (W j : Nat) else m.2.2.1 42 j) = if lo ≤ j ∧ j < hi ∧ K j = 3 then I (W j : Nat) else m.2.2.1 42 j
        by_cases z : lo ≤ j ∧ j < hi ∧ K j = 3
        · have h1 : j ≠ lo := fun y => by have := z.2.2; rw [y, k12] at this; cases this
          have h2 : j ≠ hi - 1 := fun y => by have := z.2.2; rw [y, k11] at this; cases this
          rw [if_pos z, if_pos ⟨by omega, by omega, z.2.2⟩]
        · rw [if_neg z, if_neg (fun y => z ⟨by omega, by omega, y.2.2⟩)]
      · by_cases y : k = 709
        · subst y
          rw [m9F, tl']
          exact hC.1.2.1.1.symm
        · rw [miF k k1 y, xfc.1 k k1 k2, miC k k1 y]
      · rw [mrF k k1 (by omega), xfc.2.1 k k1 k2 k3, mrC k k1 (by omega) (by omega) (by omega) (by omega)]
      · rw [moF j (by omega) (by omega), xfc.2.2.1 j (by omega), moC j hj]
      · by_cases y : k = 32
        · subst y
          rw [mpF.2 j (by omega), xfc.2.2.2.1 32 j k1 k2 (by omega), mrC 32 (by decide) (by decide) (by decide) (by decide) (by decide)]
        · rw [mrF k (by omega) y, xfc.2.2.2.1 k j k1 k2 (by omega), mpC k j (by omega) (by omega)]
      · rw [mrF 40 (by decide) (by decide), xfc.2.2.2.2.1 j (by omega), m4C 40 j (Or.inl rfl) (by omega)]
      · rw [mrF 41 (by decide) (by decide), xfc.2.2.2.2.2 j (by omega), m4C 41 j (Or.inr rfl) (by omega)]
      · have := xrf.2.2
        rw [QCo 75 (by decide) (by decide), QCo 77 (by decide) (by decide), QCo 83 (by decide) (by decide)] at this
        rw [QFo 75 (by decide) (by decide), QFo 77 (by decide) (by decide), QFo 83 (by decide) (by decide)]
        exact this
      · -- what its code does
        have bF := xF.1.2.2.1.2.2
        have HFn : (e2.2.1.map nm).Nodup := List.pairwise_map.mpr (List.Pairwise.imp (fun h z => h (c.2.2.1.1 _ _ z)) ok2.1.2.2.2.2.2.2)
        have hxF : HNX nm (e2 :: t2) cm2 (e2.2.1.map nm) := ⟨⟨List.prefix_rfl, by rw [List.length_map]; omega⟩, HFn, by rw [List.length_map]; omega⟩
        have l46b := leQ2 46 (by decide)
        have fx : FNx w0 fof cvr C P R J m2 w2 (a + 2) b (q + 1) r (qst (qst Q 56 (q + 1)) 32 (Q 32 + 1)) Q2 lst [] [] [(qst (qst Q 56 (q + 1)) 32 (Q 32 + 1)) 46] := by
          refine FNx_mo (FNx_0 (hs := []) (ps := []) fi) ⟨by omega, by omega⟩ ⟨by omega, Nat.le_refl _⟩ leQC leF (fun j j1 j2 _ => moF j j2 (by omega)) (fun k u k1 k2 k3 k4 => ?_) (fun k n k1 k2 k3 k4 k5 k6 => ?_) (fun n _ _ => by rw [V3J]) (fun n n1 n2 => ?_) (fun j hj => by cases hj) (fun j hj => by cases hj)
          · by_cases y : k = 32
            · subst y
              exact mpF.2 u (by omega)
            · rw [mrF k (by omega) y]
          · refine V3w k n ?_ ?_ ?_ ?_
            · by_cases y : k = 57
              · subst y
                exact Or.inr (Or.inl k5)
              · exact Or.inl y
            · by_cases y : k = 53 ∨ k = 54 ∨ k = 55
              · have gk : grp k = 56 := by rcases y with rfl | rfl | rfl <;> rfl
                rw [gk, QC56] at k4
                exact Or.inr (by omega)
              · exact Or.inl (by omega)
            · by_cases y : k = 25
              · subst y
                have k4 : (qst (qst Q 56 (q + 1)) 32 (Q 32 + 1)) 32 ≤ n := k4
                exact Or.inr (by omega)
              · exact Or.inl y
            · by_cases y : 23 ≤ k ∧ k ≤ 31
              · have gk : grp k = 32 := if_pos y
                rw [gk] at k5
                exact Or.inr (by omega)
              · exact Or.inl (by omega)
          · have e30 : A V3 30 n = A w2 30 n := congrArg Int32.toInt (V3w 30 n (Or.inl (by decide)) (Or.inl (by decide)) (Or.inl (by decide)) (Or.inr (by omega)))
            rw [e30, if_neg (fun y => by cases y.2)]
        obtain ⟨u1, u2'⟩ := clm C P R J (e2.2.1.map nm) lst fx hxF
        have gcF : ∀ j, a ≤ j → j < b + 4 + e2.2.1.length → C j = (mF.2.2.1 23 j).toInt := fun j j1 j2 => fi.1 j j1 j2
        have ro : ∀ k i, 23 ≤ k ∧ k ≤ 31 → k ≠ 27 ∧ k ≠ 29 ∧ k ≠ 30 → Q 32 ≤ i → i ≤ Q2 32 → R k i = A V3 k i := fun k i k1 k2 i1 i2 => FIN_R fi k1 k2 ⟨i1, by rw [QF32]; omega⟩
        have R5 : ∀ k, k = 53 ∨ k = 54 ∨ k = 55 → R k q = A V3 k q := fun k hk => by
          have gk : grp k = 56 := by rcases hk with rfl | rfl | rfl <;> rfl
          exact fi.2.2.2.1.1 k q (by omega) (by omega) (by omega) (by omega) (by rw [gk]; decide) (by rw [gk]; omega) (by rw [gk, QFo 56 (by decide) (by decide), q56]; omega)
        have R4 : ∀ k, k = 41 ∨ k = 45 → R k (Q 46) = A V3 k (Q 46) := fun k hk => by
          have gk : grp k = 46 := by rcases hk with rfl | rfl <;> rfl
          exact fi.2.2.2.1.1 k (Q 46) (by omega) (by omega) (by omega) (by omega) (by rw [gk]; decide) (by rw [gk]; omega) (by rw [gk, QFo 46 (by decide) (by decide)]; omega)
        have k0v : ∀ k, k = 41 ∨ k = 45 → V3.2.2.1 k (Q 46) = w2.2.2.1 k (Q 46) := fun k hk => V3w k (Q 46) (Or.inl (by omega)) (Or.inl (by omega)) (Or.inl (by omega)) (Or.inl (by omega))
        rw [QC46] at u2' k45 k41
        have R45 : R 45 (Q 46) = -1 := by
          rw [R4 45 (Or.inr rfl)]
          show (V3.2.2.1 45 (Q 46)).toInt = _
          rw [k0v 45 (Or.inr rfl), k45]; rfl
        have R41 : R 41 (Q 46) = ((kk : Nat) : Int) := by
          rw [R4 41 (Or.inl rfl)]
          show (V3.2.2.1 41 (Q 46)).toInt = _
          rw [k0v 41 (Or.inl rfl), k41]
          exact I_ti (by omega) (by omega)
        have cb : C b = 36 := by rw [gcF b (by omega) (by omega), mwF.2.1]; rfl
        have zr := u2' ⟨1, by omega, Or.inl ⟨R45, Or.inl ⟨rfl, cb⟩⟩⟩
        have R53 : R 53 q = ((Q 46 : Nat) : Int) := by
          rw [R5 53 (by omega)]
          show (V3.2.2.1 53 q).toInt = _
          rw [Vq 53 (by omega), v5.1, QC46]
          exact I_ti (by omega) (by omega)
        have R54 : R 54 q = ((e2.2.1.length : Nat) : Int) := by
          rw [R5 54 (by omega)]
          show (V3.2.2.1 54 q).toInt = _
          rw [Vq 54 (by omega), v5.2.1]
          exact I_ti (by omega) (by omega)
        have R55 : R 55 q = ((Q2 58 : Nat) : Int) := by
          rw [R5 55 (by omega)]
          show (V3.2.2.1 55 q).toInt = _
          rw [Vq 55 (by omega), v5.2.2]
          exact I_ti (by omega) (by omega)
        have pq : ∀ k, 30 ≤ k → k ≤ 32 → P k q = (mF.2.2.1 k q).toInt := fun k k1 k2 => fi.2.1 k q k1 k2 (Nat.le_refl _) (by omega)
        have m2q : ∀ k, k = 30 ∨ k = 31 → mF.2.2.1 k q = mC.2.2.1 k q := fun k hk => by
          rw [mrF k (by omega) (by omega), xfc.2.2.2.1 k q (by omega) (by omega) (by omega)]
        have cnm : ∀ i x, e2.2.1[i]? = some x → C (b + 4 + i) = ((nm x : Nat) : Int) := fun i x hix => by
          have hi' := (List.getElem?_eq_some_iff.mp hix).1
          rw [gcF _ (by omega) (by omega)]
          obtain ⟨g1, g2⟩ := mnF i x hix
          rw [g1]
          exact I_ti (by omega) (by omega)
        have c3 : C (b + 3) = ((e2.2.1.length : Nat) : Int) := by
          rw [gcF _ (by omega) (by omega), mwF.2.2.2.2]
          exact I_ti (by omega) (by omega)
        have fuq : FUX C P R J q := by
          refine ⟨kk, a + 2, b + 3, e2.2.1.length, Q 46, e2.2.1.map nm, ?_, ?_, ?_, c3, by omega, List.length_map _, fun i x hix => ?_, HFn, R53, by omega, R41, R54, ?_⟩
          · rw [pq 30 (by decide) (by decide), m2q 30 (Or.inl rfl), mqC.1]
            exact I_ti (by omega) (by omega)
          · rw [pq 31 (by decide) (by decide), m2q 31 (Or.inr rfl), mqC.2]
            exact I_ti (by omega) (by omega)
          · rw [pq 32 (by decide) (by decide), mpF.1]
            exact I_ti (by omega) (by omega)
          · rw [List.getElem?_map] at hix
            obtain ⟨x', hx1, hx2⟩ := Option.map_eq_some_iff.mp hix
            rw [← hx2, show b + 3 + 1 + i = b + 4 + i by omega]
            exact cnm i x' hx1
          · obtain ⟨f', hf'⟩ := zr
            exact ⟨f', f', hf'⟩
        refine ⟨fun u y1 y2 => ?_, fun y hy hr => ?_⟩
        · by_cases z : u = q
          · rw [z]; exact fuq
          · exact u1 u (by omega) y2
        · have hx2 : HNX nm t2 cm H := hx
          have hxs : HNX nm sc cm H := HNX_mo hho2 (Nat.le_refl _) hx2
          obtain ⟨z1, z2⟩ := XB c.2.2.1 hC hR hxs h16r
          obtain ⟨z3, z4⟩ := XB c.2.2.1 xF xR hx2 h16s
          obtain ⟨dE, hE⟩ := hr
          rw [QF32] at hE
          have rR23 : R 23 (Q2 32) = 14 := by
            rw [ro 23 _ (by decide) (by decide) (by omega) (Nat.le_refl _)]
            exact congrArg Int32.toInt x23
          have rR25 : R 25 (Q2 32) = ((q : Nat) : Int) := by
            rw [ro 25 _ (by decide) (by decide) (by omega) (Nat.le_refl _)]
            show (V3.2.2.1 25 (Q2 32)).toInt = _
            rw [x25]
            exact I_ti (by omega) (by omega)
          have cb1 : C (b + 1) = 6 := by rw [gcF _ (by omega) (by omega), mwF.2.2.1]; rfl
          have cb2 : C (b + 2) = ((q : Nat) : Int) := by
            rw [gcF _ (by omega) (by omega), mwF.2.2.2.1]
            exact I_ti (by omega) (by omega)
          have n14 : CRe C R J y (b + 1) (Q2 32) H (Onm nm t2) := by
            refine cr_1 ⟨z3.1, z3.2⟩ ⟨by omega, z4.2⟩ ⟨dE, Or.inr (Or.inr (Or.inr (Or.inr (Or.inr (Or.inr (Or.inr (Or.inr (Or.inr (Or.inr (Or.inr (Or.inr (Or.inr (Or.inr (Or.inl ⟨rR23, cb1, by rw [rR25]; exact cb2, q, e2.2.1.length, Q2 58, rR25, R54, c3, R55, fun k hk => ?_, ?_⟩))))))))))))))⟩
            · have hk2 : ∃ x, e2.2.1[k]? = some x := ⟨_, List.getElem?_eq_getElem hk⟩
              obtain ⟨x, hkx⟩ := hk2
              obtain ⟨i1, g1, g2⟩ := xR2.1.2.2.2.2.1.1 k x hkx
              have bd := LKt_bd g2 ok2.2 hx2.1
              have R57 : R 57 (Q2 58 + k) = i1 := by
                rw [fi.2.2.2.1.1 57 (Q2 58 + k) (by decide) (by decide) (by decide) (by decide) (by decide) (by show Q 58 ≤ Q2 58 + k; omega) (by show Q2 58 + k < (qst (qst Q2 58 (Q2 58 + e2.2.1.length)) 32 (Q2 32 + 1)) 58; rw [QF58]; omega)]
                show (V3.2.2.1 57 (Q2 58 + k)).toInt = _
                rw [V57 k hk, g1]
                exact I_ti (by omega) (by omega)
              rw [R57, show b + 1 + 3 + k = b + 4 + k by omega, cnm k x hkx]
              exact LKP_t c.2.2.1 g2 hx2.1
            · rw [show b + 1 + 3 + e2.2.1.length = b + 4 + e2.2.1.length by omega]
              exact hE
          rw [oN] at n14
          obtain ⟨d14, h14⟩ := n14
          have r23 : R 23 (Q 32) = 26 := by
            rw [ro 23 _ (by decide) (by decide) (Nat.le_refl _) (by omega)]
            exact congrArg Int32.toInt V23
          have r25 : R 25 (Q 32) = ((Q2 32 : Nat) : Int) := by
            rw [ro 25 _ (by decide) (by decide) (Nat.le_refl _) (by omega)]
            show (V3.2.2.1 25 (Q 32)).toInt = _
            rw [V25]
            exact I_ti (by omega) (by omega)
          have ca : C a = 18 := by
            rw [gcF a (Nat.le_refl _) (by omega), moF a (by omega) (by omega), xfc.2.2.1 a (by omega), mwC.1]; rfl
          have ca1 : C (a + 1) = ((b + 1 : Nat) : Int) := by
            rw [gcF _ (by omega) (by omega), mwF.1]
            exact I_ti (by omega) (by omega)
          exact cr_1 z1 z2 ⟨d14, Or.inr (Or.inr (Or.inr (Or.inr (Or.inr (Or.inr (Or.inr (Or.inr (Or.inr (Or.inr (Or.inr (Or.inr (Or.inr (Or.inr (Or.inr (Or.inr (Or.inr (Or.inr (Or.inr (Or.inr (Or.inr (Or.inr (Or.inr (Or.inr (Or.inr (Or.inl ⟨r23, ca, b + 1, Q2 32, ca1, Or.inl r25, h14⟩)))))))))))))))))))))))))⟩
    · have gk : ¬ ((23 ≤ k ∧ k ≤ 31) ∨ (53 ≤ k ∧ k ≤ 55) ∨ k = 57) := fun y => by
        unfold grp at a1
        rcases y with y | y | y
        · rw [if_pos y] at a1; cases a1
        · rw [if_neg (by omega), if_neg (by omega), if_neg (by omega), if_pos y] at a1; cases a1
        · rw [if_neg (by omega), if_neg (by omega), if_neg (by omega), if_neg (by omega), if_pos y] at a1; cases a1
      have h1 : V3.2.2.1 k = w2.2.2.1 k := funext (fun n => V3w k n (Or.inl (by omega)) (Or.inl (by omega)) (Or.inl (by omega)) (Or.inl (by omega)))
      rw [h1, xrf.1.1 k a1 a2 a3]
      exact funext (fun n => wCw k n (Or.inl (by omega)))
    · have h1 : V3.2.2.1 k n = w2.2.2.1 k n := by
        refine V3w k n ?_ ?_ ?_ ?_
        · by_cases y : k = 57
          · subst y
            have a2 : n < Q 58 := a2
            exact Or.inr (Or.inl (by omega))
          · exact Or.inl y
        · by_cases y : k = 53 ∨ k = 54 ∨ k = 55
          · have gk : grp k = 56 := by rcases y with rfl | rfl | rfl <;> rfl
            rw [gk] at a2
            exact Or.inr (by omega)
          · exact Or.inl (by omega)
        · by_cases y : k = 25
          · subst y
            have a2 : n < Q 32 := a2
            exact Or.inr (by omega)
          · exact Or.inl y
        · by_cases y : 23 ≤ k ∧ k ≤ 31
          · have gk : grp k = 32 := if_pos y
            rw [gk] at a2
            exact Or.inr (by omega)
          · exact Or.inl (by omega)
      rw [h1, xrf.1.2.1 k n a1 (Nat.lt_of_lt_of_le a2 (leQC _ (grp_m a1)))]
      have a3 : ¬ (59 ≤ k ∧ k ≤ 64) := fun z => by
        unfold grp at a1
        rw [if_neg (by omega), if_neg (by omega), if_neg (by omega), if_neg (by omega), if_neg (by omega), if_neg (by omega), if_neg (by omega), if_neg (by omega)] at a1
        exact a1 rfl
      by_cases y : 23 ≤ k ∧ k ≤ 31
      · have gk : grp k = 32 := if_pos y
        rw [gk] at a2
        exact wCw k n (Or.inr ⟨y, by omega⟩)
      · exact wCw k n (Or.inl (by omega))
    · rw [V3J, xrf.1.2.2 k n (by rw [QCo 39 (by decide) (by decide)]; exact a1), jC]
  exact r_br (fun _ => fin _ xR3 rfl) (fun _ => r_lt (fin _ (XRS_I xR3 (by decide) (by decide)) rfl))
end
