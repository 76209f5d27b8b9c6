/-! expressions: CASE and IF, both -/
set_option maxRecDepth 100000
section
variable {α β : Type} {m0 w0 m w m2 w2 m3 w3 v u w1 mS wS : MS} {K nm Nk W W2 : Nat → Nat} {N T D d o a a0 b b0 c cm cm0 cm2 cm3 q q0 r s lo lo0 mid hi i j f f2 n k kk p p2 σ tk x xa xb xc mm M m1 lv y : Nat} {Q Q0 Q2 Q3 Q4 : Nat → Nat} {sc sc0 sc2 sc3 t t2 : SCT} {e e2 : List Nat × List Nat × Nat} {g lst l2 : Bool} {L L1 L2 S : List Nat} {idc fof cvr : Int → Int → Int} {z : Unit} {rt v1 v2 v3 v4 v5 : Int32}
/-- CASE -/
theorem x_cas (c : CTZ m0 w0 K T nm Nk) (cv : CTV m0 w0 K T) (IE : HXE N m0 w0 K T nm Nk fof cvr f) (hf : f ≤ 230) (hC : XCS m0 nm m a cm sc g) (hR : XRS w0 T w lo Q sc) (hq : Q 56 = q) (hn : n ≤ 8015) (h16 : A m0 16 n = 9) (h17 : A m0 17 n = ((lo : Nat) : Int)) (h18 : A m0 18 n = ((x : Nat) : Int)) (hx : XPcK m0 f (o + 1) 3 x (lo + 1) mid xa xc q s) (h19 : A m0 19 n = ((mm : Nat) : Int)) (hE : RWcK m0 1 27 (PEc m0 f o 1) k mm (mid + 1) (hi - 1) xc xb s r) (hxb : xb ≤ 8015) (h6 : A m0 6 lo = 8) (h6m : A m0 6 mid = 15) (h6b : A m0 6 (hi - 1) = 11) (hr4 : r ≤ 400) (hiT : hi ≤ T) (htot : tot sc + (hi - lo) ≤ 4000 ∧ sc.length ≤ o + 1) : PP (XZ m0 w0 K T nm Nk fof cvr lst g lo hi a cm q r Q sc m w) (jm_Cm_expression N (jrc_Cm_fun N D) m (I (n : Nat)) (lsI lst)) (km_M_alone N (krc_M_behind N d) w (I (lo : Nat))) := by
  have t4 := c.2.1.1.1
  have fr := XCS_fr hC
  have hd1 := xp_hd hx
  have hd := RW_xb PE_bE hE
  unfold HDc at hd
  have k8 : K lo = 8 := kA c (by omega : lo ≤ T) h6
  have k15 : K mid = 15 := kA c (by omega : mid ≤ T) h6m
  have k11 : K (hi - 1) = 11 := kA c (by omega : hi - 1 ≤ T) h6b
  obtain ⟨e, t, rfl⟩ := PRS_ne hR.1
  refine exd_9 hn (tre fr (by decide) h16) (l_id ?_)
  cases D with
  | zero => exact pp_nl
  | succ D =>
  show PP _ (jm_Cm_compound N (jrc_Cm_fun N D) m (I (n : Nat)) (lsI lst)) _
  refine cmd_9 hn (tre fr (by decide) h16) hC.2 (tre fr (by decide) h17) (by omega) (fun hg => l_ck (fun _ => ?_))
  subst hg
  rw [tre fr (by decide) h18]
  refine al_wrd c hR (Or.inr (Or.inl k8)) (fun u xx hX hu => ?_)
  rw [decide_eq_false (by omega), br_f]
  cases d with
  | zero => exact pp_nr
  | succ d =>
  have hi0 : XTR m0 w0 K T nm Nk fof cvr lst false [] lo lo a a cm cm q q Q Q (e :: t) (e :: t) m w m u := XTR_mv (XTR_rf hC hR hq) hX hu (Nat.le_refl _) (fun j a b => by omega)
  have rn := hX.1.2.2.2.1
  have tl : t.length + 1 ≤ 27 := rn.2.1.2
  have h60 : u.2.2.1 60 t.length = I (e.1.length : Nat) := rn.2.2.1.1.1
  have h65 : u.1 65 = I (t.length : Nat) := rn.1
  have hw := XRS_wp c hX
  have h7 : u.2.2.1 7 lo = I ((3 : Nat) : Int) := by
    have := hw.1.2.2 lo (by omega) (by omega)
    rw [k8] at this
    exact this
  show PP _ _ (bnd (kb_M_block_0 N (krc_M_behind N d) () u (I (lo : Nat))) _)
  unfold kb_M_block_0
  rw [h65, hX.1.2.1.1, i_nt2 (p := t.length) (by omega), i_nt2 (p := lo) (by omega), h60, h7, bnd_ck]
  refine r_ck (fun _ => ?_)
  rw [bnd_lt]
  refine r_lt ?_
  rw [bnd_ck]
  refine r_ck (fun _ => ?_)
  rw [bnd_lt]
  refine r_lt ?_
  rw [show decide (I ((3 : Nat) : Int) = (2 : Int32)) = false from rfl, br_f, show decide (I ((3 : Nat) : Int) = (3 : Int32)) = true from rfl, br_t]
  unfold kb_M_block_49
  have e69 : u.1 69 + 1 = I ((lo + 1 : Nat) : Int) := by rw [hX.1.2.1.1, i_suc]
  rw [e69, show upI u 69 (I ((lo + 1 : Nat) : Int)) = adv u lo from rfl, bnd_lt, lt_e, show decide (I ((3 : Nat) : Int) = (2 : Int32)) = false from rfl, br_f, show decide (I ((3 : Nat) : Int) = (3 : Int32)) = true from rfl, br_t, bnd_as2]
  have ht := XTR_ad hi0 (by omega) (by omega)
  refine pp_bb (pp_mo (IE D d (o + 1) x (lo + 1) mid xa xc q s m (adv u lo) a cm Q (e :: t) false false hx (by omega) (by omega) ⟨by rw [k15]; exact ⟨rfl, by decide, by decide, by decide⟩, by omega⟩ hC ht.2.2.1.1 hq (by omega)) (fun m2 z w2 rt hz => ?_))
  have hlt : a < (hz.choose : Nat) := by
    obtain ⟨_, _, _, _, _, _, -, -, -, z4, -⟩ := hz.choose_spec
    omega
  obtain ⟨b, cm2, Q2, sc2, hX2⟩ := XZ_tr hz ht
  have hR2 := hX2.2.2.1.1
  have hC2 := hX2.2.1
  have fr2 := XCS_fr hC2
  rw [bnd_as2]
  refine nd_w c hR2 (k := 15) (s' := 10) (by decide) rfl (fun _ => ?_)
  have ht2 := XTR_ad hX2 (show mid < T by omega) (by omega)
  obtain ⟨e2, t2, rfl⟩ := PRS_ne hR2.1
  have rn2 := ht2.2.2.1.1.1.2.2.2.1
  have tl2 : t2.length + 1 ≤ 27 := rn2.2.1.2
  have g60 : (adv w2 mid).2.2.1 60 t2.length = I (e2.1.length : Nat) := rn2.2.2.1.1.1
  have g65 : (adv w2 mid).1 65 = I (t2.length : Nat) := rn2.1
  rw [g65, i_nt2 (p := t2.length) (by omega), g60, bnd_ck]
  refine r_ck (fun _ => ?_)
  rw [bnd_lt]
  refine r_lt ?_
  unfold kb_M_block_131
  rw [show decide (I ((3 : Nat) : Int) = (12 : Int32)) = false from rfl, br_f, show decide (I ((3 : Nat) : Int) = (3 : Int32)) = true from rfl, br_t]
  refine l_ck (fun _ => ?_)
  rw [tre fr2 (by decide) h19]
  have hh := x_prt (N := N) (D := D) (d := d) (lst := lst) (v3 := 15) (pw := 37) (kn := 21) (y20 := I ((3 : Nat) : Int)) (tk := lo) c cv IE hf (Or.inl ⟨rfl, rfl, rfl, rfl, rfl⟩) hE hxb hr4 k11 (by omega) hC2 ht2.2.2.1.1 ht2.2.2.1.2 (by have := ht2.2.2.2.1; have := XTR_len ht2; omega) (by omega)
  refine pp_rb (pp_mo hh (fun m9 z9 w9 r9 hz9 => pk_some ?_))
  have hz2 := XZ_bh ht2 hz9
  rw [show hi - 1 + 1 = hi by omega] at hz2
  exact XZ_out hz2 (fun Q2 sc2 h => XRS_I h (by decide) (by decide)) rfl (Nat.le_refl _) (fun j a b => by omega)
/-- IF -/
theorem x_iff (c : CTZ m0 w0 K T nm Nk) (cv : CTV m0 w0 K T) (IE : HXE N m0 w0 K T nm Nk fof cvr f) (hf : f ≤ 230) (hC : XCS m0 nm m a cm sc g) (hR : XRS w0 T w lo Q sc) (hq : Q 56 = q) (hn : n ≤ 8015) (h16 : A m0 16 n = 10) (h17 : A m0 17 n = ((lo : Nat) : Int)) (h19 : A m0 19 n = ((mm : Nat) : Int)) (hE : RWcK m0 1 27 (PEc m0 f o 2) k mm (lo + 1) (hi - 1) xa xb q r) (hxb : xb ≤ 8015) (h6 : A m0 6 lo = 13) (h6b : A m0 6 (hi - 1) = 11) (hr4 : r ≤ 400) (hiT : hi ≤ T) (htot : tot sc + (hi - lo) ≤ 4000 ∧ sc.length ≤ o + 1) : PP (XZ m0 w0 K T nm Nk fof cvr lst g lo hi a cm q r Q sc m w) (jm_Cm_expression N (jrc_Cm_fun N D) m (I (n : Nat)) (lsI lst)) (km_M_alone N (krc_M_behind N d) w (I (lo : Nat))) := by
  have t4 := c.2.1.1.1
  have fr := XCS_fr hC
  have hd := RW_xb PE_bE hE
  unfold HDc at hd
  have k8 : K lo = 13 := kA c (by omega : lo ≤ T) h6
  have k11 : K (hi - 1) = 11 := kA c (by omega : hi - 1 ≤ T) h6b
  obtain ⟨e, t, rfl⟩ := PRS_ne hR.1
  refine exd_10 hn (tre fr (by decide) h16) (l_id ?_)
  cases D with
  | zero => exact pp_nl
  | succ D =>
  show PP _ (jm_Cm_compound N (jrc_Cm_fun N D) m (I (n : Nat)) (lsI lst)) _
  refine cmd_10 hn (tre fr (by decide) h16) hC.2 (tre fr (by decide) h17) (by omega) (fun hg => l_ck (fun _ => ?_))
  subst hg
  rw [tre fr (by decide) h19]
  refine al_wrd c hR (Or.inr (Or.inr (Or.inr (Or.inl k8)))) (fun u xx hX hu => ?_)
  rw [decide_eq_false (by omega), br_f]
  cases d with
  | zero => exact pp_nr
  | succ d =>
  have hi0 : XTR m0 w0 K T nm Nk fof cvr lst false [] lo lo a a cm cm q q Q Q (e :: t) (e :: t) m w m u := XTR_mv (XTR_rf hC hR hq) hX hu (Nat.le_refl _) (fun j a b => by omega)
  have rn := hX.1.2.2.2.1
  have tl : t.length + 1 ≤ 27 := rn.2.1.2
  have h60 : u.2.2.1 60 t.length = I (e.1.length : Nat) := rn.2.2.1.1.1
  have h65 : u.1 65 = I (t.length : Nat) := rn.1
  have hw := XRS_wp c hX
  have h7 : u.2.2.1 7 lo = I ((8 : Nat) : Int) := by
    have := hw.1.2.2 lo (by omega) (by omega)
    rw [k8] at this
    exact this
  show PP _ _ (bnd (kb_M_block_0 N (krc_M_behind N d) () u (I (lo : Nat))) _)
  unfold kb_M_block_0
  rw [h65, hX.1.2.1.1, i_nt2 (p := t.length) (by omega), i_nt2 (p := lo) (by omega), h60, h7, bnd_ck]
  refine r_ck (fun _ => ?_)
  rw [bnd_lt]
  refine r_lt ?_
  rw [bnd_ck]
  refine r_ck (fun _ => ?_)
  rw [bnd_lt]
  refine r_lt ?_
  rw [show decide (I ((8 : Nat) : Int) = (2 : Int32)) = false from rfl, br_f, show decide (I ((8 : Nat) : Int) = (3 : Int32)) = false from rfl, br_f, show decide (I ((8 : Nat) : Int) = (8 : Int32)) = true from rfl, br_t]
  unfold kb_M_block_49
  have e69 : u.1 69 + 1 = I ((lo + 1 : Nat) : Int) := by rw [hX.1.2.1.1, i_suc]
  rw [e69, show upI u 69 (I ((lo + 1 : Nat) : Int)) = adv u lo from rfl, bnd_lt, lt_e, show decide (I ((8 : Nat) : Int) = (2 : Int32)) = false from rfl, br_f, show decide (I ((8 : Nat) : Int) = (3 : Int32)) = false from rfl, br_f]
  have ht := XTR_ad hi0 (by omega) (by omega)
  unfold kb_M_block_131
  rw [show decide (I ((8 : Nat) : Int) = (12 : Int32)) = false from rfl, br_f, show decide (I ((8 : Nat) : Int) = (3 : Int32)) = false from rfl, br_f]
  have hh := x_prt (N := N) (D := D) (d := d) (lst := lst) (v3 := 0) (pw := 38) (kn := 31) (y20 := I ((8 : Nat) : Int)) (tk := lo) c cv IE hf (Or.inr ⟨rfl, rfl, rfl, rfl, rfl⟩) hE hxb hr4 k11 (by omega) hC ht.2.2.1.1 hq (by omega) (by omega)
  refine pp_rb (pp_mo hh (fun m9 z9 w9 r9 hz9 => pk_some ?_))
  have hz2 := XZ_bh ht hz9
  rw [show hi - 1 + 1 = hi by omega] at hz2
  exact XZ_out hz2 (fun Q2 sc2 h => XRS_I h (by decide) (by decide)) rfl (Nat.le_refl _) (fun j a b => by omega)
end
