/-! RECEIVE with `after`, one deeper; all E but for MATCH -/
set_option maxRecDepth 100000
section
variable {α β : Type} {m0 w0 m w m2 w2 m3 w3 v u w1 mS wS : MS} {K nm Nk W W2 : Nat → Nat} {N T D d o a a0 b b0 c cm cm0 cm2 cm3 q q0 r s lo lo0 mid hi i j f f2 n k kk p p2 σ tk x xa xb xc mm M m1 lv y : Nat} {Q Q0 Q2 Q3 Q4 : Nat → Nat} {sc sc0 sc2 sc3 t t2 : SCT} {e e2 : List Nat × List Nat × Nat} {g lst l2 : Bool} {L L1 L2 S : List Nat} {idc fof cvr : Int → Int → Int} {z : Unit} {rt v1 v2 v3 v4 v5 : Int32}
theorem x_rv1 (c : CTZ m0 w0 K T nm Nk) (cv : CTV m0 w0 K T) (cx : CVX N m0 w0 K T idc fof cvr) (IE : HXE N m0 w0 K T nm Nk fof cvr f) (hf : f ≤ 230) : HXR N m0 w0 K T nm Nk fof cvr (f + 1) := by
  intro D d o n lo hi xa xb q r m w a cm Q sc g lst hE h16 h18n hxb hr4 hiT hC hR hq htot
  have t4 := c.2.1.1.1
  obtain ⟨hdc', -, ho, hE⟩ := hE
  have hd := hdc'
  unfold HDc at hd
  have hn : n ≤ 8015 := by omega
  have h11 : ∃ k mm m1 c1 s1 : Nat, A m0 19 n = ((mm : Nat) : Int) ∧ ORcK m0 1 27 (CSPcK m0 (PAcK m0 f) (XPcK m0 f (o + 2) 3) (XPcK m0 f (o + 1) 3)) k mm (lo + 1) m1 xa c1 q s1 ∧ ((A m0 18 n = 0 ∧ A m0 20 n = 0 ∧ 1 ≤ k ∧ hi = m1 + 1 ∧ s1 = r ∧ (c1 < n ∧ A m0 6 lo = 17 ∧ A m0 6 (hi - 1) = 11 ∧ A m0 17 n = ((lo : Nat) : Int))) ∨ ∃ x m2 c2 s2 kb mb c3 : Nat, 1 ≤ x ∧ A m0 18 n = ((x : Nat) : Int) ∧ XPcK m0 f (o + 1) 3 x (m1 + 1) m2 c1 c2 s1 s2 ∧ A m0 20 n = ((mb : Nat) : Int) ∧ RWcK m0 1 26 (XPcK m0 f (o + 2) 3) kb mb (m2 + 1) (hi - 1) c2 c3 s2 r ∧ (c3 < n ∧ A m0 6 lo = 17 ∧ A m0 6 m1 = 5 ∧ A m0 6 m2 = 38 ∧ A m0 6 (hi - 1) = 11 ∧ A m0 17 n = ((lo : Nat) : Int))) := by
    rcases hE with h | h | h | h | h | h | h | h | h | h | h | h | h | h | h | h | h
    · have := h.1.1; have := h.1.2.1; omega
    · have := h.1; omega
    · have := h.1; omega
    · have := h.1; omega
    · have := h.1; omega
    · have := h.1; omega
    · have := h.1; omega
    · exact h.2
    · have := h.1; omega
    · have := h.1; omega
    · have := h.1; omega
    · have := h.1; omega
    · rcases h.1 with z | z <;> omega
    · have := h.1; omega
    · have := h.1; omega
    · have := h.1; omega
    · have := h.1; omega
  clear hE
  obtain ⟨k, mm, m1, c1, s1, h19, hO, hrest⟩ := h11
  rcases hrest with ⟨h18, -⟩ | ⟨x, m2, c2, s2, kb, mb, c3, hx1, h18, hx, h20, hB, hc, h6, h6m, h6m2, h6b, h17⟩
  · exact absurd h18 h18n
  have e0 : PEc m0 f o 3 = CSPcK m0 (PAcK m0 f) (XPcK m0 f (o + 2) 3) (XPcK m0 f (o + 1) 3) := if_neg (by decide)
  have hdX := xp_hd hx
  have hdB := (RW_hdK (XP_bdK _ _ _) hB).1
  unfold HDc at hdB
  have hdE : lo + 1 ≤ m1 := by
    rcases hO with ⟨-, -, z1, z2, z3⟩ | ⟨-, hO⟩
    · omega
    · have := RW_xb (PE_bE (m0 := m0) (f := f) (o := o) (kd := 3)) (by rw [e0]; exact hO)
      unfold HDc at this
      omega
  have k5 : K m1 = 5 := kA c (by omega : m1 ≤ T) h6m
  have k38 : K m2 = 38 := kA c (by omega : m2 ≤ T) h6m2
  have fr := XCS_fr hC
  have k8 : K lo = 17 := kA c (by omega : lo ≤ T) h6
  have k11 : K (hi - 1) = 11 := kA c (by omega : hi - 1 ≤ T) h6b
  obtain ⟨e, t, rfl⟩ := PRS_ne hR.1
  refine exd_11 hn (tre fr (by decide) h16) (l_id ?_)
  cases D with
  | zero => exact pp_nl
  | succ D =>
  show PP _ (jm_Cm_compound N (jrc_Cm_fun N D) m (I (n : Nat)) (lsI lst)) _
  refine cmd_11 hn (tre fr (by decide) h16) hC.2 (tre fr (by decide) h17) (by omega) (fun hg => l_id ?_)
  subst hg
  cases D with
  | zero => exact pp_nl
  | succ D =>
  show PP _ (jm_Cm_receive N (jrc_Cm_fun N D) m (I (n : Nat)) (lsI lst)) _
  refine al_wrd c hR (Or.inr (Or.inr (Or.inr (Or.inr k8)))) (fun u xx hX hu => ?_)
  rw [decide_eq_false (by omega), br_f]
  cases d with
  | zero => exact pp_nr
  | succ d =>
  have hi0 : XTR m0 w0 K T nm Nk fof cvr lst false [] lo lo a a cm cm q q Q Q (e :: t) (e :: t) m w m u := XTR_mv (XTR_rf hC hR hq) hX hu (Nat.le_refl _) (fun j a b => by omega)
  have rn := hX.1.2.2.2.1
  have tl : t.length + 1 ≤ 27 := rn.2.1.2
  have h60 : u.2.2.1 60 t.length = I (e.1.length : Nat) := rn.2.2.1.1.1
  have h65 : u.1 65 = I (t.length : Nat) := rn.1
  have hw := XRS_wp c hX
  have h7 : u.2.2.1 7 lo = I ((12 : Nat) : Int) := by
    have := hw.1.2.2 lo (by omega) (by omega)
    rw [k8] at this
    exact this
  show PP _ _ (bnd (kb_M_block_0 N (krc_M_behind N d) () u (I (lo : Nat))) _)
  unfold kb_M_block_0
  rw [h65, hX.1.2.1.1, i_nt2 (p := t.length) (by omega), i_nt2 (p := lo) (by omega), h60, h7, bnd_ck]
  refine r_ck (fun _ => ?_)
  rw [bnd_lt]
  refine r_lt ?_
  rw [bnd_ck]
  refine r_ck (fun _ => ?_)
  rw [bnd_lt]
  refine r_lt ?_
  rw [show decide (I ((12 : Nat) : Int) = (2 : Int32)) = false from rfl, br_f, show decide (I ((12 : Nat) : Int) = (3 : Int32)) = false from rfl, br_f, show decide (I ((12 : Nat) : Int) = (8 : Int32)) = false from rfl, br_f, show decide (I ((12 : Nat) : Int) = (12 : Int32)) = true from rfl, br_t]
  unfold kb_M_block_49
  have e69 : u.1 69 + 1 = I ((lo + 1 : Nat) : Int) := by rw [hX.1.2.1.1, i_suc]
  rw [e69, show upI u 69 (I ((lo + 1 : Nat) : Int)) = adv u lo from rfl, bnd_lt, lt_e, show decide (I ((12 : Nat) : Int) = (2 : Int32)) = false from rfl, br_f, show decide (I ((12 : Nat) : Int) = (3 : Int32)) = false from rfl, br_f]
  have ht := XTR_ad hi0 (by omega) (by omega)
  unfold kb_M_block_131
  rw [show decide (I ((12 : Nat) : Int) = (12 : Int32)) = true from rfl, br_t, bnd_as2]
  cases d with
  | zero => exact pp_nr
  | succ d =>
  have hh := x_rc1 (N := N) (D := D) (d := d) (lst := lst) (tk := lo) (hi := hi - 1) c cv cx IE hf hn h18 hx1 h19 (by rw [e0]; exact hO) hx h20 hB (by omega) hr4 k5 k38 k11 (by omega) hC ht.2.2.1.1 hq ⟨by omega, htot.2⟩ (by omega)
  refine pp_rb (pp_mo hh (fun m9 z9 w9 r9 hz9 => ?_))
  rw [bnd_s]
  refine pk_some ?_
  have hz2 := XZ_bh ht hz9
  rw [show hi - 1 + 1 = hi by omega] at hz2
  exact XZ_out hz2 (fun Q2 sc2 h => XRS_I h (by decide) (by decide)) rfl (Nat.le_refl _) (fun j a b => by omega)
/-- a PRIMARY, all E -/
theorem hx_al2 (c : CTZ m0 w0 K T nm Nk) (cv : CTV m0 w0 K T) (cx : CVX N m0 w0 K T idc fof cvr) (IM : ∀ f, f ≤ 229 → HXE N m0 w0 K T nm Nk fof cvr f → HXS N m0 w0 K T nm Nk fof cvr f → HXW N m0 w0 K T nm Nk fof cvr f → HXM N m0 w0 K T nm Nk fof cvr (f + 1)) : ∀ f, f ≤ 230 → HX0 N m0 w0 K T nm Nk fof cvr f ∧ HXU N m0 w0 K T nm Nk fof cvr f ∧ HXW N m0 w0 K T nm Nk fof cvr f ∧ HXS N m0 w0 K T nm Nk fof cvr f ∧ HXE N m0 w0 K T nm Nk fof cvr f := hx_all c cv cx (fun f hf IE => x_rv1 c cv cx IE (by omega)) IM
end
