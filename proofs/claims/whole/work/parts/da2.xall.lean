/-! RECEIVE with no `after`; a PRIMARY, step; all E, but for MATCH and `after` -/
set_option maxRecDepth 100000
section
variable {α β : Type} {m0 w0 m w m2 w2 m3 w3 v u w1 mS wS : MS} {K nm Nk W W2 : Nat → Nat} {N T D d o a a0 b b0 c cm cm0 cm2 cm3 q q0 r s lo lo0 mid hi i j f f2 n k kk p p2 σ tk x xa xb xc mm M m1 lv y : Nat} {Q Q0 Q2 Q3 Q4 : Nat → Nat} {sc sc0 sc2 sc3 t t2 : SCT} {e e2 : List Nat × List Nat × Nat} {g lst l2 : Bool} {L L1 L2 S : List Nat} {idc fof cvr : Int → Int → Int} {z : Unit} {rt v1 v2 v3 v4 v5 : Int32}
/-- RECEIVE with `after` -/
def HXR (N : Nat) (m0 w0 : MS) (K : Nat → Nat) (T : Nat) (nm Nk : Nat → Nat) (fof cvr : Int → Int → Int) (f : Nat) : Prop := ∀ (D d o n lo hi xa xb q r : Nat) (m w : MS) (a cm : Nat) (Q : Nat → Nat) (sc : SCT) (g lst : Bool), XPcK m0 f o 0 n lo hi xa xb q r → A m0 16 n = 11 → A m0 18 n ≠ 0 → xb ≤ 8015 → r ≤ 400 → hi ≤ T → XCS m0 nm m a cm sc g → XRS w0 T w lo Q sc → Q 56 = q → (tot sc + (hi - lo) ≤ 4000 ∧ sc.length ≤ o + 1) → PP (XZ m0 w0 K T nm Nk fof cvr lst g lo hi a cm q r Q sc m w) (jm_Cm_expression N (jrc_Cm_fun N D) m (I (n : Nat)) (lsI lst)) (km_M_alone N (krc_M_behind N d) w (I (lo : Nat)))
theorem x_rv0 (c : CTZ m0 w0 K T nm Nk) (cv : CTV m0 w0 K T) (IE : HXE N m0 w0 K T nm Nk fof cvr f) (hf : f ≤ 230) (hC : XCS m0 nm m a cm sc g) (hR : XRS w0 T w lo Q sc) (hq : Q 56 = q) (hn : n ≤ 8015) (h16 : A m0 16 n = 11) (h17 : A m0 17 n = ((lo : Nat) : Int)) (h18 : A m0 18 n = 0) (h19 : A m0 19 n = ((mm : Nat) : Int)) (hE : RWcK m0 1 27 (PEc m0 f o 3) k mm (lo + 1) (hi - 1) xa xb q r) (hxb : xb ≤ 8015) (h6 : A m0 6 lo = 17) (h6b : A m0 6 (hi - 1) = 11) (hr4 : r ≤ 400) (hiT : hi ≤ T) (htot : tot sc + (hi - lo) ≤ 4000 ∧ sc.length ≤ o + 1) : PP (XZ m0 w0 K T nm Nk fof cvr lst g lo hi a cm q r Q sc m w) (jm_Cm_expression N (jrc_Cm_fun N D) m (I (n : Nat)) (lsI lst)) (km_M_alone N (krc_M_behind N d) w (I (lo : Nat))) := by
  have t4 := c.2.1.1.1
  have fr := XCS_fr hC
  have hd := RW_xb PE_bE hE
  unfold HDc at hd
  have k8 : K lo = 17 := kA c (by omega : lo ≤ T) h6
  have k11 : K (hi - 1) = 11 := kA c (by omega : hi - 1 ≤ T) h6b
  obtain ⟨e, t, rfl⟩ := PRS_ne hR.1
  refine exd_11 hn (tre fr (by decide) h16) (l_id ?_)
  cases D with
  | zero => exact pp_nl
  | succ D =>
  show PP _ (jm_Cm_compound N (jrc_Cm_fun N D) m (I (n : Nat)) (lsI lst)) _
  refine cmd_11 hn (tre fr (by decide) h16) hC.2 (tre fr (by decide) h17) (by omega) (fun hg => l_id ?_)
  subst hg
  cases D with
  | zero => exact pp_nl
  | succ D =>
  show PP _ (jm_Cm_receive N (jrc_Cm_fun N D) m (I (n : Nat)) (lsI lst)) _
  refine al_wrd c hR (Or.inr (Or.inr (Or.inr (Or.inr k8)))) (fun u xx hX hu => ?_)
  rw [decide_eq_false (by omega), br_f]
  cases d with
  | zero => exact pp_nr
  | succ d =>
  have hi0 : XTR m0 w0 K T nm Nk fof cvr lst false [] lo lo a a cm cm q q Q Q (e :: t) (e :: t) m w m u := XTR_mv (XTR_rf hC hR hq) hX hu (Nat.le_refl _) (fun j a b => by omega)
  have rn := hX.1.2.2.2.1
  have tl : t.length + 1 ≤ 27 := rn.2.1.2
  have h60 : u.2.2.1 60 t.length = I (e.1.length : Nat) := rn.2.2.1.1.1
  have h65 : u.1 65 = I (t.length : Nat) := rn.1
  have hw := XRS_wp c hX
  have h7 : u.2.2.1 7 lo = I ((12 : Nat) : Int) := by
    have := hw.1.2.2 lo (by omega) (by omega)
    rw [k8] at this
    exact this
  show PP _ _ (bnd (kb_M_block_0 N (krc_M_behind N d) () u (I (lo : Nat))) _)
  unfold kb_M_block_0
  rw [h65, hX.1.2.1.1, i_nt2 (p := t.length) (by omega), i_nt2 (p := lo) (by omega), h60, h7, bnd_ck]
  refine r_ck (fun _ => ?_)
  rw [bnd_lt]
  refine r_lt ?_
  rw [bnd_ck]
  refine r_ck (fun _ => ?_)
  rw [bnd_lt]
  refine r_lt ?_
  rw [show decide (I ((12 : Nat) : Int) = (2 : Int32)) = false from rfl, br_f, show decide (I ((12 : Nat) : Int) = (3 : Int32)) = false from rfl, br_f, show decide (I ((12 : Nat) : Int) = (8 : Int32)) = false from rfl, br_f, show decide (I ((12 : Nat) : Int) = (12 : Int32)) = true from rfl, br_t]
  unfold kb_M_block_49
  have e69 : u.1 69 + 1 = I ((lo + 1 : Nat) : Int) := by rw [hX.1.2.1.1, i_suc]
  rw [e69, show upI u 69 (I ((lo + 1 : Nat) : Int)) = adv u lo from rfl, bnd_lt, lt_e, show decide (I ((12 : Nat) : Int) = (2 : Int32)) = false from rfl, br_f, show decide (I ((12 : Nat) : Int) = (3 : Int32)) = false from rfl, br_f]
  have ht := XTR_ad hi0 (by omega) (by omega)
  unfold kb_M_block_131
  rw [show decide (I ((12 : Nat) : Int) = (12 : Int32)) = true from rfl, br_t, bnd_as2]
  cases d with
  | zero => exact pp_nr
  | succ d =>
  have hh := x_rc0 (N := N) (D := D) (d := d) (lst := lst) (tk := lo) c cv IE hf hn h18 h19 hE hxb hr4 k11 (by omega) hC ht.2.2.1.1 hq (by omega) (by omega)
  refine pp_rb (pp_mo hh (fun m9 z9 w9 r9 hz9 => ?_))
  rw [bnd_s]
  refine pk_some ?_
  have hz2 := XZ_bh ht hz9
  rw [show hi - 1 + 1 = hi by omega] at hz2
  exact XZ_out hz2 (fun Q2 sc2 h => XRS_I h (by decide) (by decide)) rfl (Nat.le_refl _) (fun j a b => by omega)
/-- a PRIMARY, one deeper -/
theorem x0_step (c : CTZ m0 w0 K T nm Nk) (cv : CTV m0 w0 K T) (cx : CVX N m0 w0 K T idc fof cvr) (IE : HXE N m0 w0 K T nm Nk fof cvr f) (hf : f ≤ 230) (IR : HXR N m0 w0 K T nm Nk fof cvr (f + 1)) : HX0 N m0 w0 K T nm Nk fof cvr (f + 1) := fun D d o n lo hi xa xb q r m w a cm Q sc g lst RR fc hE hxb hr4 hiT hC hR hq htot hh => by
  have hE0 := hE
  have t4 := c.2.1.1.1
  cases D with
  | zero => exact pp_nl
  | succ D =>
  show PP RR (bnd (jm_Cm_expression N (jrc_Cm_fun N D) m (I (n : Nat)) (lsI lst)) fc) _
  obtain ⟨hdc', -, ho, hE⟩ := hE
  have hd := hdc'
  unfold HDc at hd
  have hn : n ≤ 8015 := by omega
  have one : ∀ hnc : ¬ (K lo = 2 ∧ K (lo + 1) = 20), (∀ d, PP (XZ m0 w0 K T nm Nk fof cvr lst g lo hi a cm q r Q sc m w) (jm_Cm_expression N (jrc_Cm_fun N D) m (I (n : Nat)) (lsI lst)) (km_M_alone N (krc_M_behind N d) w (I (lo : Nat)))) → PP RR (bnd (jm_Cm_expression N (jrc_Cm_fun N D) m (I (n : Nat)) (lsI lst)) fc) (km_M_primary N (krc_M_behind N d) w) := fun hnc hX => pr_al c hR (by omega) hnc hX hh
  rcases hE with ⟨hl, ⟨rfl, hnc⟩, rfl⟩ | ⟨h16, x, xc, h18, hx, hc, h6, h6b, h17⟩ | ⟨h16, hT, h17⟩ | ⟨h16, hT, h17⟩ | ⟨h16, k, x, xc, h18, hB, hc, h6, h6b, h17⟩ | ⟨h16, x, mid, xc, s, k, mm, c2, h18, hx, h19, hB, hc, h6, h6m, h6b, h17⟩ | ⟨h16, k, mm, xc, h19, hB, hc, h6, h6b, h17⟩ | ⟨h16, k, mm, m1, c1, s1, h19, hO, hrest⟩ | ⟨h16, k, mm, ph, xc, h17, h18, h19, h20, hk, hqr, hP, hc, h6, h6a, h6p, h6b⟩ | ⟨h16, ⟨rfl, h6⟩, rfl⟩ | ⟨h16, h17, k, mm, a2, xc, h19, h20, hk, ha2, hO, hc, h6, h6a, h6b, h18⟩ | ⟨-, z, -⟩ | ⟨-, z, -⟩ | ⟨-, z, -⟩ | ⟨-, z, -⟩ | ⟨-, z, -⟩ | ⟨-, z, -⟩
  · refine one (fun y => ?_) (fun d => xl_all c cv hC hR hq hn hl)
    have hk := c.1.1.k46 (show lo ≤ T by omega)
    have hk2 := c.1.1.k46 (show lo + 1 ≤ T by omega)
    have e6 : ∀ j, j ≤ T → A m0 6 j = ((K j : Nat) : Int) := fun j hj => by
      have := c.1.1.k46 hj
      show (m0.2.2.1 6 j).toInt = _
      rw [c.1.2 j (by omega)]
      exact I_ti (by omega) (by omega)
    refine hnc ?_ ?_
    · rw [e6 lo (by omega), y.1]; rfl
    · rw [e6 (lo + 1) (by omega), y.2]; rfl
  · have k0 : K lo = 20 := kA c (by omega : lo ≤ T) h6
    exact one (by omega) (fun d => x_grp c IE hC hR hq hn h16 h18 hx (by omega) h6 h6b hr4 hiT htot)
  · have k0 : K lo = 22 := by
      obtain ⟨k, mm, xc, -, -, ⟨-, h6, -⟩, -⟩ := hT
      exact kA c (by omega : lo ≤ T) h6
    have hl2 : lo + 2 ≤ hi := by
      obtain ⟨k, mm, xc, -, -, ⟨-, h6, h6b⟩, hO, -⟩ := hT
      rcases hO with ⟨-, -, z, -⟩ | ⟨-, z⟩
      · omega
      · have := (RW_hdK (XP_bdK f (o + 1) 3) z).1
        unfold HDc at this
        omega
    exact one (by omega) (fun d => x_tup c IE hC hR hq hn h16 hT hr4 hl2 hiT htot)
  · have k0 : K lo = 24 := by
      obtain ⟨k, mm, mid, xc, s, -, -, ⟨-, h6, -⟩, -⟩ := hT
      exact kA c (by omega : lo ≤ T) h6
    exact one (by omega) (fun d => x_lst c IE hC hR hq hn h16 hT hr4 hiT htot)
  · have k0 : K lo = 7 := kA c (by omega : lo ≤ T) h6
    exact one (by omega) (fun d => x_blk (o := o + 2) c IE hC hR hq hn h16 h17 h18 hB (by omega) h6 h6b hr4 hiT ⟨htot.1, by omega⟩)
  · have k0 : K lo = 8 := kA c (by omega : lo ≤ T) h6
    have e : PEc m0 f o 1 = CSPcK m0 (PAcK m0 f) (XPcK m0 f (o + 2) 3) (XPcK m0 f (o + 1) 3) := if_neg (by decide)
    exact one (by omega) (fun d => x_cas c cv IE hf hC hR hq hn h16 h17 h18 hx h19 (by rw [e]; exact hB) (by omega) h6 h6m h6b hr4 hiT htot)
  · have k0 : K lo = 13 := kA c (by omega : lo ≤ T) h6
    have e : PEc m0 f o 2 = CHPcK m0 (XPcK m0 f (o + 2) 3) (XPcK m0 f (o + 1) 3) := if_pos rfl
    exact one (by omega) (fun d => x_iff c cv IE hf hC hR hq hn h16 h17 h19 (by rw [e]; exact hB) (by omega) h6 h6b hr4 hiT htot)
  · have e : PEc m0 f o 3 = CSPcK m0 (PAcK m0 f) (XPcK m0 f (o + 2) 3) (XPcK m0 f (o + 1) 3) := if_neg (by decide)
    rcases hrest with ⟨h18, h20, hk, rfl, rfl, hc, h6, h6b, h17⟩ | ⟨x, m2, c2, s2, kb, mb, c3, hx1, h18, hx, h20, hB, hc, h6, h6m, h6m2, h6b, h17⟩
    · have k0 : K lo = 17 := kA c (by omega : lo ≤ T) h6
      rcases hO with ⟨z, -⟩ | ⟨-, hO⟩
      · omega
      · exact one (by omega) (fun d => x_rv0 c cv IE hf hC hR hq hn h16 h17 h18 h19 (by rw [e]; exact hO) (by omega) h6 h6b hr4 hiT htot)
    · have k0 : K lo = 17 := kA c (by omega : lo ≤ T) h6
      exact one (by omega) (fun d => IR D d o n lo hi xa xb q r m w a cm Q sc g lst hE0 h16 (by rw [h18]; omega) hxb hr4 hiT hC hR hq htot)
  · have k0 : K lo = 12 := kA c (by omega : lo ≤ T) h6
    exact one (by omega) (fun d => x_fun c cv IE hf hC hR hq hn h16 h17 (by rw [h18, if_pos (by omega)]) h19 h20 hk hP (by omega) h6 h6a h6p h6b hr4 hiT htot)
  · have k0 : K lo = 12 := kA c (by omega : lo ≤ T) h6.1
    exact one (by omega) (fun d => x_fof c cv cx hC hR hq hn h16 h6 hiT)
  · have hl3 : lo + 3 ≤ hi := by
      rcases hO with ⟨-, -, z, -⟩ | ⟨-, z⟩
      · omega
      · have := (RW_hdK (XP_bdK f (o + 1) 3) z).1
        unfold HDc at this
        omega
    exact x_call (o := o + 1) (xa := a2) c cv cx IE hC hR hq hn h16 h17 h19 h20 hk hO (by omega) ⟨h6, h6a, h6b, h18⟩ hl3 hr4 hiT ⟨htot.1, by omega⟩ hh
  all_goals exact absurd z (by decide)
/-- all E -/
theorem hx_all (c : CTZ m0 w0 K T nm Nk) (cv : CTV m0 w0 K T) (cx : CVX N m0 w0 K T idc fof cvr) (IR : ∀ f, f ≤ 229 → HXE N m0 w0 K T nm Nk fof cvr f → HXR N m0 w0 K T nm Nk fof cvr (f + 1)) (IM : ∀ f, f ≤ 229 → HXE N m0 w0 K T nm Nk fof cvr f → HXS N m0 w0 K T nm Nk fof cvr f → HXW N m0 w0 K T nm Nk fof cvr f → HXM N m0 w0 K T nm Nk fof cvr (f + 1)) : ∀ f, f ≤ 230 → HX0 N m0 w0 K T nm Nk fof cvr f ∧ HXU N m0 w0 K T nm Nk fof cvr f ∧ HXW N m0 w0 K T nm Nk fof cvr f ∧ HXS N m0 w0 K T nm Nk fof cvr f ∧ HXE N m0 w0 K T nm Nk fof cvr f
  | 0, _ => ⟨fun _ _ _ _ _ _ _ _ _ _ _ _ _ _ _ _ _ _ _ _ h => h.elim, fun _ _ _ _ _ _ _ _ _ _ _ _ _ _ _ _ _ _ _ _ _ _ h => h.elim, fun _ _ _ _ _ _ _ _ _ _ _ _ _ _ _ _ _ _ _ _ h => h.elim, fun _ _ _ _ _ _ _ _ _ _ _ _ _ _ _ _ _ _ h => h.elim, fun _ _ _ _ _ _ _ _ _ _ _ _ _ _ _ _ _ _ h => h.elim⟩
  | f + 1, hf => by
    obtain ⟨i0, iu, iw, is, ie⟩ := hx_all c cv cx IR IM f (by omega)
    have j0 := x0_step c cv cx ie (by omega) (IR f (by omega) ie)
    have ju := x_un c cv j0 i0 ie iu
    have jw := x_wk c ju iu
    have js := xs_step c (IM f (by omega) ie is iw) jw iw is
    exact ⟨j0, ju, jw, js, xe_step c js (x_cat c ie)⟩
end
