set_option maxRecDepth 100000
def HE (N : Nat) (m0 w0 : MS) (K : Nat → Nat) (T : Nat) (nm Nk : Nat → Nat) (d : Nat) : Prop := ∀ D, EXS N m0 w0 K T nm Nk 0 NC1 (fun m => (hrc_Pa_matched N D).2.2.2.2.2.2.2.2.2.2.2.2.2.2.1 m 1) ((rc_M_behind N d).2.2.2.2.2.2.2.2.2.2.2.2.2.1)
def RWZ (N : Nat) (m0 w0 : MS) (K : Nat → Nat) (T : Nat) (nm Nk : Nat → Nat) (p n : Nat) (gd : Bool) (sc : SCT) (o s mx kc : Nat) (m w m2 : MS) (w2 : MS) (q : Nat) (l : List Nat) : Prop := ∃ (n2 q1 : Nat) (sc2 : SCT) (X : Nat) (W : Nat → Nat) (Rf Zf : Bool) (CL : Int32 × Int32 × Int32 → Prop), STQ m0 w0 K T Nk gd m w p n sc s m2 w2 q n2 sc2 X W Rf Zf CL ∧ ERW N K nm gd m2 n n2 W l (p + 1) q1 sc sc2 X Rf Zf (BCo N CL) ∧ (p + 1 ≤ q1 ∧ q1 < q ∧ ∀ j, q1 ≤ j → j < q → K j ≠ 3) ∧ l.length ≤ mx ∧ ((l = [] ∧ q1 = p + 1) ∨ (PXR N w0 K T nm Nk m2 n n2 o l (p + 1) q1 X ∧ K (p + 1) ≠ kc))
def ARGZ (N : Nat) (m0 w0 : MS) (K : Nat → Nat) (T : Nat) (nm Nk : Nat → Nat) (p n : Nat) (gd : Bool) (sc : SCT) (o : Nat) (m w m2 : MS) (z : Int32 ⊕ Nat) (w2 : MS) (_ : Unit) : Prop := match z with
  | .inr _ => FLW w2
  | .inl φ => ∃ l q, φ = I ((l.headD 0 : Nat) : Int) ∧ w2.1 84 = I ((l.length : Nat) : Int) ∧ RWZ N m0 w0 K T nm Nk p n gd sc o 4 6 21 m w m2 w2 q l
section
variable {β : Type} {m0 w0 m w v u mB wB m2 w2 m3 w3 : MS} {K nm Nk W : Nat → Nat} {T p n N q X n2 p0 n0 n3 p2 ν o s L d D : Nat} {sc sc1 sc2 sc3 t : SCT} {gd Rf Zf : Bool} {l : List Nat} {r : Int32} {CL CM : Int32 × Int32 × Int32 → Prop}
theorem ERW_k (hn : n2 ≤ n3) (hk : Kcc m2 m3) (ho : ∀ j, j ≤ n2 → nod m3 j = nod m2 j ∧ m3.2.2.1 21 j = m2.2.2.1 21 j) : ∀ {l : List Nat} {p p2 : Nat} {sc sc2 : SCT} {X : Nat} {Rf Zf : Bool} {BC : MS → Prop}, ERW N K nm gd m2 n n2 W l p p2 sc sc2 X Rf Zf BC → ERW N K nm gd m3 n n3 W l p p2 sc sc2 X Rf Zf BC
  | [], _, _, _, _, _, _, _, _, h => h
  | ν :: l, p, p2, sc, sc2, X, Rf, Zf, BC, ⟨q, q2, sc1, X1, X2, R1, R2, Z1, Z2, B1, B2, h1, g1, ⟨mi, li, ni, h2, hx, a, b⟩, h3, h4, h5, h6, h7⟩ => ⟨q, q2, sc1, X1, X2, R1, R2, Z1, Z2, B1, B2, h1, g1, ⟨mi, li, ni, h2, ⟨fun j j1 j2 => ⟨(ho j (by omega)).1.trans (hx.1 j j1 j2).1, fun z => (ho j (by omega)).2.trans ((hx.1 j j1 j2).2 z)⟩, Kc_tr hx.2 hk⟩, ⟨a.1, by omega⟩, b⟩, ⟨h3.1, by omega⟩, (ho ν (by omega)).2.trans h4, h5, ERW_k hn hk ho h6, h7⟩
theorem erow_st {SC : SF_Pa_matched} {fw : MS → Option (MS × Int32)} {fC : MS → Int32 → Option (MS × (Int32 ⊕ Nat))} {R : MS → Int32 ⊕ Nat → MS → β → Prop} {RA : Nat → Nat → MS → Option (MS × β)} {mx : Nat} (hmx : mx ≤ 4000) (hmx2 : 1 ≤ mx) (c : CTZ m0 w0 K T nm Nk) (c45 : ∀ p, p ≤ T → K p ≠ 45) (hn0 : n0 ≤ 2 * p0) (h : RLP m0 w0 T p0 mB wB) (hn : mB.1 306 = I (n0 : Nat)) (hr : RNs wB sc) (nd : ND wB) (h70 : wB.1 70 = I (o : Nat)) (ho : o ≤ 25) (hg : decide (wB.1 73 = 0) = !gd) (hP : EXS N m0 w0 K T nm Nk 0 NC1 (fun m => SC.2.2.2.2.2.2.2.2.2.2.2.2.2.2.1 m 1) fw)
    (hNo : ∀ (M : Nat) (m w : MS) (p k : Nat) (l : List Nat), RWE N m0 w0 K T nm Nk gd mB wB p0 n0 sc o m w p l → K p ≠ 26 → l.length = k → k ≤ mx → PP R (fC m (I ((l.headD 0 : Nat) : Int))) (RA M k w))
    (hYes : ∀ (M k p : Nat) (w : MS) (a : Option (MS × (Int32 ⊕ Nat))), WP w K T p → w.1 67 = 0 → K p = 26 → 1 ≤ k → k < mx → (∀ w3 M', SMS (adv w p) w3 → w3.1 69 = (adv w p).1 69 → PP R a (bnd (fw w3) (fun u _ => RA M' (k + 1) u))) → PP R a (RA M k w))
    (hMax : ∀ (M k p : Nat) (w : MS), mx ≤ 8 → WP w K T p → w.1 67 = 0 → K p = 26 → k = mx → PK (fun w2 _ => FLW w2) (RA M k w))
    (hFl : ∀ (M k : Nat) (w : MS), FLW w → PK (fun w2 _ => FLW w2) (RA M k w))
    (hF : ∀ (m : MS) (p : Nat) (φ : Int32), mx ≤ 8 → CP m K T p → K p = 26 → RFS (fC m φ)) (hW : ∀ m k w r, FLW w → R m (.inr k) w r) (hmx1 : mx ≤ 8 ∨ mx = 4000) {M : Nat} : PP R (bTm (hm_Pa_row N SC mB 0 (I (mx : Nat))) fC) (bnd (fw wB) (fun u _ => RA M 1 u)) := by
  unfold hm_Pa_row hb_Pa_row_0 hb_Pa_row_16
  rw [show decide ((0 : Int32) = 0) = true from rfl, br_tq, bTm_as]
  refine pp_bTn (hP mB wB p0 n0 sc gd o h hn hn0 hr nd h70 (by omega) hg) (fun m2 ε w2 r q => ?_) (fun m2 kk w2 r q => ?_)
  · obtain ⟨ν, p2, e1, hI⟩ := RWE_1 q
    rw [e1]
    exact erow_lp (SC := SC) hmx c c45 hn0 h70 ho hg hP hNo hYes hMax hFl hF hW hmx1 (mx - 1) 1 N M m2 w2 p2 [ν] (by omega) (Nat.le_refl _) rfl hI
  · exact pk_mo (hFl M 1 w2 q) (fun w2 r z => hW _ _ _ _ z)
def argR (N : Nat) (S : SG_M_behind) (M k : Nat) (w : MS) : Option (MS × Unit) := br (decide (I (k : Nat) = 6)) (bnd (fm_M_isSign N w 6) (fun u5 r5 => br (decide (r5 = 0)) (fb_M_arguments_63 N S (gg_M_arguments N S M) u5 (I (k : Nat))) (bnd (fm_M_wrong N u5 2) (fun u6 _ => fb_M_arguments_63 N S (gg_M_arguments N S M) u6 (I (k : Nat)))))) (fb_M_arguments_63 N S (gg_M_arguments N S M) w (I (k : Nat)))
theorem argR_f {M k : Nat} (h : FLW w) : PK (fun w2 (_ : Unit) => FLW w2) (argR N (rc_M_behind N d) M k w) := by
  refine Kf_pk (u0 := w) ?_
  have h : Kfc w w := h
  obtain ⟨hF0, hF1, hF2, hF3, hF4, hF5, hF6, hF7, hF8, hF9, hF10, hF11, hF12, hF13, hF14, hF15, hF16⟩ := yf_rc_M_behind (u0 := w) (N := N) d
  unfold argR
  repeat' (first | with_reducible assumption | with_reducible refine Kf_br ?_ ?_ | with_reducible refine Kf_bnd ?_ (fun _ _ _ => ?_) | with_reducible refine Kf_ck ?_ | with_reducible refine Kf_ltm ?_ (fun _ _ => ?_) | with_reducible refine Kf_some ?_ | with_reducible refine Kf_bo (fun _ => ?_) | with_reducible exact yf_fm_M_node (by assumption) | with_reducible exact yf_fm_M_pattern (by assumption) | with_reducible exact yf_fm_M_wrong (by assumption) | with_reducible exact yf_fm_M_rule (by assumption) | with_reducible exact yf_fm_M_isSign (by assumption) | with_reducible exact yf_fm_M_isWord (by assumption) | with_reducible exact yf_fm_M_takeSign (by assumption) | with_reducible exact yf_fm_M_takeWord (by assumption) | with_reducible exact yf_fm_M_needSign (by assumption) | with_reducible exact yf_fm_M_needWord (by assumption) | with_reducible exact yf_fm_M_opens (by assumption) | with_reducible exact yf_fm_M_boundIn (by assumption) | with_reducible exact yf_fr_M_found (by assumption) | with_reducible exact yf_fm_M_bind (by assumption) | with_reducible exact yf_fm_M_isUnderscore (by assumption) | with_reducible exact yf_fm_M_unbind (by assumption) | with_reducible exact yf_fm_M_term (by assumption) | with_reducible exact yf_fm_M_namePattern (by assumption) | with_reducible exact yf_fr_M_patternAt (by assumption) | with_reducible exact yf_fm_M_beginsUnit (by assumption) | with_reducible exact yf_fm_M_save (by assumption) | with_reducible exact yf_fm_M_addRoot (by assumption) | with_reducible exact yf_fm_M_level (by assumption) | with_reducible exact yf_fm_M_reduce (by assumption) | with_reducible exact yf_fm_M_takeBack (by assumption) | with_reducible exact yf_fm_M_forgetSaved (by assumption) | with_reducible exact yf_fr_M_last (by assumption) | with_reducible exact yf_fr_M_clause (by assumption) | with_reducible exact yf_fm_M_predefinedOf (by assumption) | with_reducible exact yf_fm_M_function0 (by assumption) | with_reducible exact yf_fm_M_program (by assumption) | with_reducible exact hF0 _ (by assumption) | with_reducible exact hF1 _ _ (by assumption) | with_reducible exact hF2 _ _ _ (by assumption) | with_reducible exact hF3 _ _ _ (by assumption) | with_reducible exact hF4 _ (by assumption) | with_reducible exact hF5 _ _ (by assumption) | with_reducible exact hF6 _ _ (by assumption) | with_reducible exact hF7 _ _ (by assumption) | with_reducible exact hF8 _ _ (by assumption) | with_reducible exact hF9 _ (by assumption) | with_reducible exact hF10 _ (by assumption) | with_reducible exact hF11 _ (by assumption) | with_reducible exact hF12 _ (by assumption) | with_reducible exact hF13 _ (by assumption) | with_reducible exact hF14 _ (by assumption) | with_reducible exact hF15 _ (by assumption) | with_reducible exact hF16 _ _ (by assumption) | with_reducible exact yf_fb_M_arguments_73 (by assumption) hF0 hF1 hF2 hF3 hF4 hF5 hF6 hF7 hF8 hF9 hF10 hF11 hF12 hF13 hF14 hF15 hF16 (yf_gg_M_arguments hF0 hF1 hF2 hF3 hF4 hF5 hF6 hF7 hF8 hF9 hF10 hF11 hF12 hF13 hF14 hF15 hF16 _) | with_reducible exact yf_fb_M_arguments_63 (by assumption) hF0 hF1 hF2 hF3 hF4 hF5 hF6 hF7 hF8 hF9 hF10 hF11 hF12 hF13 hF14 hF15 hF16 (yf_gg_M_arguments hF0 hF1 hF2 hF3 hF4 hF5 hF6 hF7 hF8 hF9 hF10 hF11 hF12 hF13 hF14 hF15 hF16 _) | with_reducible exact yf_fb_M_arguments_24 (by assumption) hF0 hF1 hF2 hF3 hF4 hF5 hF6 hF7 hF8 hF9 hF10 hF11 hF12 hF13 hF14 hF15 hF16 (yf_gg_M_arguments hF0 hF1 hF2 hF3 hF4 hF5 hF6 hF7 hF8 hF9 hF10 hF11 hF12 hF13 hF14 hF15 hF16 _) | with_reducible exact yf_fb_M_arguments_0 (by assumption) hF0 hF1 hF2 hF3 hF4 hF5 hF6 hF7 hF8 hF9 hF10 hF11 hF12 hF13 hF14 hF15 hF16 (yf_gg_M_arguments hF0 hF1 hF2 hF3 hF4 hF5 hF6 hF7 hF8 hF9 hF10 hF11 hF12 hF13 hF14 hF15 hF16 _) | with_reducible exact (yf_gg_M_arguments hF0 hF1 hF2 hF3 hF4 hF5 hF6 hF7 hF8 hF9 hF10 hF11 hF12 hF13 hF14 hF15 hF16 _) _ _ _ (by assumption) | with_reducible refine Kf_ltv (fun _ => ?_) | with_reducible refine Kf_I ?_ (by decide) | with_reducible refine Kf_A ?_ | with_reducible refine Kf_J ?_ | with_reducible refine Kf_L ?_)
theorem a63_f {M : Nat} {a : Int32} (h : FLW w) : PK (fun w2 (_ : Unit) => FLW w2) (fb_M_arguments_63 N (rc_M_behind N d) (gg_M_arguments N (rc_M_behind N d) M) w a) := by
  refine Kf_pk (u0 := w) ?_
  have h : Kfc w w := h
  obtain ⟨hF0, hF1, hF2, hF3, hF4, hF5, hF6, hF7, hF8, hF9, hF10, hF11, hF12, hF13, hF14, hF15, hF16⟩ := yf_rc_M_behind (u0 := w) (N := N) d
  repeat' (first | with_reducible assumption | with_reducible refine Kf_br ?_ ?_ | with_reducible refine Kf_bnd ?_ (fun _ _ _ => ?_) | with_reducible refine Kf_ck ?_ | with_reducible refine Kf_ltm ?_ (fun _ _ => ?_) | with_reducible refine Kf_some ?_ | with_reducible refine Kf_bo (fun _ => ?_) | with_reducible exact yf_fm_M_node (by assumption) | with_reducible exact yf_fm_M_pattern (by assumption) | with_reducible exact yf_fm_M_wrong (by assumption) | with_reducible exact yf_fm_M_rule (by assumption) | with_reducible exact yf_fm_M_isSign (by assumption) | with_reducible exact yf_fm_M_isWord (by assumption) | with_reducible exact yf_fm_M_takeSign (by assumption) | with_reducible exact yf_fm_M_takeWord (by assumption) | with_reducible exact yf_fm_M_needSign (by assumption) | with_reducible exact yf_fm_M_needWord (by assumption) | with_reducible exact yf_fm_M_opens (by assumption) | with_reducible exact yf_fm_M_boundIn (by assumption) | with_reducible exact yf_fr_M_found (by assumption) | with_reducible exact yf_fm_M_bind (by assumption) | with_reducible exact yf_fm_M_isUnderscore (by assumption) | with_reducible exact yf_fm_M_unbind (by assumption) | with_reducible exact yf_fm_M_term (by assumption) | with_reducible exact yf_fm_M_namePattern (by assumption) | with_reducible exact yf_fr_M_patternAt (by assumption) | with_reducible exact yf_fm_M_beginsUnit (by assumption) | with_reducible exact yf_fm_M_save (by assumption) | with_reducible exact yf_fm_M_addRoot (by assumption) | with_reducible exact yf_fm_M_level (by assumption) | with_reducible exact yf_fm_M_reduce (by assumption) | with_reducible exact yf_fm_M_takeBack (by assumption) | with_reducible exact yf_fm_M_forgetSaved (by assumption) | with_reducible exact yf_fr_M_last (by assumption) | with_reducible exact yf_fr_M_clause (by assumption) | with_reducible exact yf_fm_M_predefinedOf (by assumption) | with_reducible exact yf_fm_M_function0 (by assumption) | with_reducible exact yf_fm_M_program (by assumption) | with_reducible exact hF0 _ (by assumption) | with_reducible exact hF1 _ _ (by assumption) | with_reducible exact hF2 _ _ _ (by assumption) | with_reducible exact hF3 _ _ _ (by assumption) | with_reducible exact hF4 _ (by assumption) | with_reducible exact hF5 _ _ (by assumption) | with_reducible exact hF6 _ _ (by assumption) | with_reducible exact hF7 _ _ (by assumption) | with_reducible exact hF8 _ _ (by assumption) | with_reducible exact hF9 _ (by assumption) | with_reducible exact hF10 _ (by assumption) | with_reducible exact hF11 _ (by assumption) | with_reducible exact hF12 _ (by assumption) | with_reducible exact hF13 _ (by assumption) | with_reducible exact hF14 _ (by assumption) | with_reducible exact hF15 _ (by assumption) | with_reducible exact hF16 _ _ (by assumption) | with_reducible exact yf_fb_M_arguments_73 (by assumption) hF0 hF1 hF2 hF3 hF4 hF5 hF6 hF7 hF8 hF9 hF10 hF11 hF12 hF13 hF14 hF15 hF16 (yf_gg_M_arguments hF0 hF1 hF2 hF3 hF4 hF5 hF6 hF7 hF8 hF9 hF10 hF11 hF12 hF13 hF14 hF15 hF16 _) | with_reducible exact yf_fb_M_arguments_63 (by assumption) hF0 hF1 hF2 hF3 hF4 hF5 hF6 hF7 hF8 hF9 hF10 hF11 hF12 hF13 hF14 hF15 hF16 (yf_gg_M_arguments hF0 hF1 hF2 hF3 hF4 hF5 hF6 hF7 hF8 hF9 hF10 hF11 hF12 hF13 hF14 hF15 hF16 _) | with_reducible exact yf_fb_M_arguments_24 (by assumption) hF0 hF1 hF2 hF3 hF4 hF5 hF6 hF7 hF8 hF9 hF10 hF11 hF12 hF13 hF14 hF15 hF16 (yf_gg_M_arguments hF0 hF1 hF2 hF3 hF4 hF5 hF6 hF7 hF8 hF9 hF10 hF11 hF12 hF13 hF14 hF15 hF16 _) | with_reducible exact yf_fb_M_arguments_0 (by assumption) hF0 hF1 hF2 hF3 hF4 hF5 hF6 hF7 hF8 hF9 hF10 hF11 hF12 hF13 hF14 hF15 hF16 (yf_gg_M_arguments hF0 hF1 hF2 hF3 hF4 hF5 hF6 hF7 hF8 hF9 hF10 hF11 hF12 hF13 hF14 hF15 hF16 _) | with_reducible exact (yf_gg_M_arguments hF0 hF1 hF2 hF3 hF4 hF5 hF6 hF7 hF8 hF9 hF10 hF11 hF12 hF13 hF14 hF15 hF16 _) _ _ _ (by assumption) | with_reducible refine Kf_ltv (fun _ => ?_) | with_reducible refine Kf_I ?_ (by decide) | with_reducible refine Kf_A ?_ | with_reducible refine Kf_J ?_ | with_reducible refine Kf_L ?_)
theorem RFS_mo {α : Type} {m : MS} {o : Option (MS × (Int32 ⊕ Nat))} {f : MS → Int32 → Option (MS × (α ⊕ Nat))} (h : RFS o) : RFS (bTm o f) := RFS_T h
theorem arg_pp (c : CTZ m0 w0 K T nm Nk) (c45 : ∀ p, p ≤ T → K p ≠ 45) (hE : HE N m0 w0 K T nm Nk d) (h : RLP m0 w0 T p m w) (hn : m.1 306 = I (n : Nat)) (hn2 : n ≤ 2 * p) (hR : RNs w sc) (nd : ND w) (h70 : w.1 70 = I (o : Nat)) (ho : o ≤ 25) (hg : decide (w.1 73 = 0) = !gd) (hk : K p = 20) : PP (ARGZ N m0 w0 K T nm Nk p n gd sc o m w) (hm_Pa_rowUpTo N (hrc_Pa_matched N D) (advc m p) 0 6 21) (fm_M_arguments N (rc_M_behind N d) w) := by
  have hc := RLP_c c h
  have hw := RLP_w c h
  have t4 := c.1.1.1
  have hl : p < T := TWK_lt c h.2.2.2.2.1 (by omega) (by omega)
  have h0 := h.2.2.2.2.2.2
  have st : STQ m0 w0 K T Nk gd m w p n sc 2 (advc m p) (adv w p) (p + 1) n sc 0 (fun _ => 32) false false (fun _ => False) := STQ_ad (STQ_0 (Nk := Nk) (K := K) (W := fun _ => 32) (gd := gd) h hn hR nd) hl (by omega)
  have rl := st.1
  have hc1 := RLP_c c rl
  have hw1 := RLP_w c rl
  have k46 := hc1.1.1.k46 hc1.2.2
  have h1 := rl.2.2.2.2.2.2
  unfold hm_Pa_rowUpTo hb_Pa_rowUpTo_0 hb_Pa_rowUpTo_18 fm_M_arguments fb_M_arguments_0
  rw [look_e hc1 (c45 _ hl), bTm_l, ndS_1 (s := 0) hw h0 (by decide) rfl hk, bnd_s, decide_eq_true h1, br_tq, isS_e (k := 21) (s := 1) hw1 (by decide) rfl, bnd_s, I_dn (a := K (p + 1)) (b := 21) (s := 21) (by omega) (by decide) rfl]
  have gp : ∀ j, p ≤ j → j < p + 1 → K j ≠ 3 := fun j h1 h2 => by rw [show j = p by omega]; omega
  have fin : ∀ (m2 w2 : MS) (k q1 n2 : Nat) (sc2 : SCT) (X : Nat) (W : Nat → Nat) (Rf Zf : Bool) (CL : Int32 × Int32 × Int32 → Prop) (l : List Nat) (M : Nat), l.length = k → k ≤ 6 → STQ m0 w0 K T Nk gd m w p n sc 2 m2 w2 q1 n2 sc2 X W Rf Zf CL → p + 1 ≤ q1 → ERW N K nm gd m2 n n2 W l (p + 1) q1 sc sc2 X Rf Zf (BCo N CL) → ((l = [] ∧ q1 = p + 1) ∨ (PXR N w0 K T nm Nk m2 n n2 o l (p + 1) q1 X ∧ K (p + 1) ≠ 21)) → PP (ARGZ N m0 w0 K T nm Nk p n gd sc o m w) (bTm (hm_Pa_need N m2 21) (fun u1 r1 => some (u1, .inl (I ((l.headD 0 : Nat) : Int))))) (fb_M_arguments_73 N (rc_M_behind N d) (gg_M_arguments N (rc_M_behind N d) M) w2 (I (k : Nat))) := fun m2 w2 k q1 n2 sc2 X W Rf Zf CL l M hlk hk6 s2 hq1 he hx => by
    have hc2 := RLP_c c s2.1
    have hw2 := RLP_w c s2.1
    have h2 := s2.1.2.2.2.2.2.2
    unfold fb_M_arguments_73
    by_cases k21 : K q1 = 21
    · have hl2 : q1 < T := TWK_lt c s2.1.2.2.2.2.1 (by omega) (by omega)
      rw [need_e (s := 21) hc2 k21 (by decide) rfl, bTm_l, ndS_1 (s := 1) hw2 h2 (by decide) rfl k21, bnd_s]
      refine r_lt (pp_end ?_)
      have s3 := STQ_s (STQ_ad s2 hl2 (by omega)) (v := upI (adv w2 q1) 84 (I (k : Nat))) (SMS_I SMS_rf (by decide) (by decide)) (upI_ne (by decide))
      refine ⟨l, q1 + 1, rfl, by rw [upI_at, hlk], n2, q1, sc2, X, W, Rf, Zf, CL, s3, ?_, ⟨hq1, by omega, fun j h1 h2 => by rw [show j = q1 by omega]; omega⟩, by omega, ?_⟩
      · have kx : ∀ j, nod (advc m2 q1) j = nod m2 j := fun _ => rfl
        exact ERW_k (m2 := m2) (m3 := advc m2 q1) (Nat.le_refl _) ⟨fun k hk => by unfold advc; exact upI_ne (by omega), fun _ _ => rfl⟩ (fun j _ => ⟨rfl, rfl⟩) he
      · have ko : KPO n2 m2 (advc m2 q1) := fun j _ => ⟨rfl, rfl⟩
        have kc : Kcc m2 (advc m2 q1) := ⟨fun k hk => by unfold advc; exact upI_ne (by omega), fun _ _ => rfl⟩
        rcases hx with hx | ⟨hx, hb⟩
        · exact Or.inl hx
        · exact Or.inr ⟨PXR_k (Nat.le_refl _) kc ko hx, hb⟩
    · refine pp_rf (RFS_T (need_x (s := 21) hc2 k21 (by decide) rfl)) (fun mm => ?_)
      exact pk_bnd (pk_mo (ndS_0 (N := N) (s := 1) hw2 h2 (by decide) rfl k21) (fun v r2 z => pk_lt (pk_some (by show (upI v 84 _).1 67 ≠ 0; rw [upI_ne (by decide)]; exact z))))
  by_cases k21 : K (p + 1) = 21
  · rw [decide_eq_true k21, br_tq, if_pos k21, show decide ((1 : Int32) = 0) = false from rfl, br_fq]
    exact fin (advc m p) (adv w p) 0 (p + 1) n sc 0 (fun _ => 32) false false (fun _ => False) [] N rfl (by decide) st (Nat.le_refl _) ⟨rfl, rfl, rfl, rfl, rfl, fun _ => BCo_no⟩ (Or.inl ⟨rfl, rfl⟩)
  · rw [decide_eq_false k21, br_fq, if_neg k21, show decide ((0 : Int32) = 0) = true from rfl, br_tq]
    cases D with
    | zero => exact pp_nl
    | succ D =>
      show PP _ (bTm (hm_Pa_row N (hrc_Pa_matched N D) (advc m p) 0 6) _) (gg_M_arguments N (rc_M_behind N d) N (adv w p) 0 1)
      have e7 : ∀ k, k ≠ 69 → (adv w p).1 k = w.1 k := fun k hk => by unfold adv; exact upI_ne hk
      have go : ∀ M, PP (ARGZ N m0 w0 K T nm Nk p n gd sc o m w) (bTm (hm_Pa_row N (hrc_Pa_matched N D) (advc m p) 0 (I ((6 : Nat) : Int))) (fun u3 r3 => bTm (hm_Pa_need N u3 21) (fun u1 r1 => some (u1, .inl r3)))) (bnd ((rc_M_behind N d).2.2.2.2.2.2.2.2.2.2.2.2.2.1 (adv w p)) (fun u _ => argR N (rc_M_behind N d) M 1 u)) := fun M => by
        refine erow_st (SC := hrc_Pa_matched N D) (RA := fun M k w => argR N (rc_M_behind N d) M k w) (mx := 6) (gd := gd) (o := o) (sc := sc) (p0 := p + 1) (n0 := n) (by decide) (by decide) c c45 (by omega) rl st.2.1.2.1 (STQ_rn st) (STQ_nd st) (by rw [e7 70 (by decide)]; exact h70) ho (by rw [e7 73 (by decide)]; exact hg) (hE D) ?_ ?_ ?_ ?_ ?_ ?_ (Or.inl (by decide))
        · intro M m2 w2 q1 k l hI k26 hlk hk6
          obtain ⟨n2, sc2, X, W, Rf, Zf, CL, b0, b1, b2, b3, b4, b5⟩ := hI
          have hw2 := RLP_w c b1.1
          have h2 := b1.1.2.2.2.2.2.2
          have o63 : ∀ {a : Option (MS × (Int32 ⊕ Nat))}, (∀ M, PP (ARGZ N m0 w0 K T nm Nk p n gd sc o m w) a (fb_M_arguments_73 N (rc_M_behind N d) (gg_M_arguments N (rc_M_behind N d) M) w2 (I (k : Nat)))) → PP (ARGZ N m0 w0 K T nm Nk p n gd sc o m w) a (fb_M_arguments_63 N (rc_M_behind N d) (gg_M_arguments N (rc_M_behind N d) M) w2 (I (k : Nat))) := fun {a} ha => by
            unfold fb_M_arguments_63
            rw [tkS_e (k := 26) (s := 6) hw2 h2 (by decide) rfl, if_neg k26, bnd_s]
            cases M with
            | zero => exact pp_nr
            | succ M =>
              show PP _ a (fb_M_arguments_24 N (rc_M_behind N d) (gg_M_arguments N (rc_M_behind N d) M) w2 (I (k : Nat)) 0)
              unfold fb_M_arguments_24
              rw [show decide ((0 : Int32) = 0) = true from rfl, br_tq]
              exact ha M
          have s2 := STQ_s2 (s2 := 2) (STQ_tr st b1) (by omega)
          rw [show max 0 X = X by omega, Bool.false_or, Bool.false_or] at s2
          have s2 := STQ_cl (CM := CL) (fun x => ⟨fun z => z.elim False.elim id, Or.inr⟩) s2
          have he := ERW_w (W2 := mrg (p + 1) (fun _ => 32) W) (fun j h _ => mrg_r h) b2
          have hfin := fun M => fin m2 w2 k q1 n2 sc2 X _ Rf Zf CL l M hlk hk6 s2 (by omega) he (Or.inr ⟨b5, k21⟩)
          show PP _ _ (argR N (rc_M_behind N d) M k w2)
          unfold argR
          rw [isS_e (k := 26) (s := 6) hw2 (by decide) rfl, if_neg k26, bnd_s, show decide ((0 : Int32) = 0) = true from rfl, br_tq]
          exact r_br (fun _ => o63 (fun M => hfin M)) (fun _ => o63 (fun M => hfin M))
        · intro M k q1 w2 a hw2 h2 k26 hk1 hk6 ha
          show PP _ a (argR N (rc_M_behind N d) M k w2)
          unfold argR
          rw [I_dn (a := k) (b := 6) (s := 6) (by omega) (by decide) rfl, decide_eq_false (p := k = 6) (by omega), br_fq]
          unfold fb_M_arguments_63
          rw [tkS_e (k := 26) (s := 6) hw2 h2 (by decide) rfl, if_pos k26, bnd_s]
          cases M with
          | zero => exact pp_nr
          | succ M =>
            show PP _ a (fb_M_arguments_24 N (rc_M_behind N d) (gg_M_arguments N (rc_M_behind N d) M) (adv w2 q1) (I (k : Nat)) 1)
            unfold fb_M_arguments_24
            have h3 : (adv w2 q1).1 67 = 0 := by unfold adv; rw [upI_ne (by decide)]; exact h2
            rw [show decide ((1 : Int32) = 0) = false from rfl, br_fq, decide_eq_true h3, br_tq, i_suc]
            exact ha _ M SMS_rf rfl
        · intro M k q1 w2 _ hw2 h2 k26 hk6
          show PK _ (argR N (rc_M_behind N d) M k w2)
          subst hk6
          unfold argR
          rw [show decide (I ((6 : Nat) : Int) = 6) = true from rfl, br_tq, isS_e (k := 26) (s := 6) hw2 (by decide) rfl, if_pos k26, bnd_s, show decide ((1 : Int32) = 0) = false from rfl, br_fq]
          exact pk_bnd (fun v r z => a63_f (wrong_s (u0 := v) (by decide) v r z))
        · exact fun M k w z => argR_f z
        · exact fun m p φ _ cp k26 => RFS_T (need_x (k := 21) (s := 21) cp (by omega) (by decide) rfl)
        · exact fun _ _ _ _ z => z
      have key : ∀ M, PP (ARGZ N m0 w0 K T nm Nk p n gd sc o m w) (bTm (hm_Pa_row N (hrc_Pa_matched N D) (advc m p) 0 (I ((6 : Nat) : Int))) (fun u3 r3 => bTm (hm_Pa_need N u3 21) (fun u1 r1 => some (u1, .inl r3)))) (gg_M_arguments N (rc_M_behind N d) M (adv w p) 0 1) := fun M => by
        cases M with
        | zero => exact pp_nr
        | succ M =>
          show PP _ _ (fb_M_arguments_24 N (rc_M_behind N d) (gg_M_arguments N (rc_M_behind N d) M) (adv w p) 0 1)
          unfold fb_M_arguments_24
          rw [show decide ((1 : Int32) = 0) = false from rfl, br_fq, decide_eq_true h1, br_tq]
          exact go M
      exact key N
end
