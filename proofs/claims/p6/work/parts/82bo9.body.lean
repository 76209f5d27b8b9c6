set_option maxRecDepth 100000
def BDZ (N : Nat) (m0 w0 : MS) (K : Nat → Nat) (T : Nat) (nm Nk : Nat → Nat) (p n : Nat) (sc : SCT) (m w m2 : MS) (z : Int32 ⊕ Nat) (w2 : MS) : Prop := match z with
  | .inr _ => FLW w2
  | .inl φ => ∃ (l : List Nat) (p2 n2 : Nat) (sc2 : SCT) (X : Nat) (W : Nat → Nat) (Rf Zf : Bool) (CL : Int32 × Int32 × Int32 → Prop), φ = I ((l.headD 0 : Nat) : Int) ∧ l ≠ [] ∧ p < p2 ∧ STQ m0 w0 K T Nk false m w p n sc 1 m2 w2 p2 n2 sc2 X W Rf Zf CL ∧ ERW N K nm false m2 n n2 W l p p2 sc sc2 X Rf Zf (BCo N CL) ∧ n < l.headD 0
def HBo (N : Nat) (m0 w0 : MS) (K : Nat → Nat) (T : Nat) (nm Nk : Nat → Nat) (d : Nat) : Prop := ∀ (D : Nat) (m w : MS) (p n : Nat) (sc : SCT) (o : Nat), RLP m0 w0 T p m w → m.1 306 = I (n : Nat) → n ≤ 2 * p → RNs w sc → ND w → w.1 70 = I (o : Nat) → o ≤ 25 → w.1 73 = 0 → PP (fun m2 z w2 (_ : Int32) => BDZ N m0 w0 K T nm Nk p n sc m w m2 z w2) ((hrc_Pa_matched N D).2.2.2.2.2.2.2.2.2.1 m) ((rc_M_behind N d).2.2.2.2.1 w)
def GDZ (N : Nat) (m0 w0 : MS) (K : Nat → Nat) (T : Nat) (nm Nk : Nat → Nat) (p n : Nat) (sc : SCT) (m w m2 : MS) (z : Int32 ⊕ Nat) (w2 : MS) : Prop := match z with
  | .inr _ => FLW w2
  | .inl φ => ∃ (l : List Nat) (p2 n2 : Nat) (sc2 sc3 : SCT) (X : Nat) (W : Nat → Nat) (Rf Zf : Bool) (CL : Int32 × Int32 × Int32 → Prop), φ = I ((l.headD 0 : Nat) : Int) ∧ l ≠ [] ∧ p < p2 ∧ STQ m0 w0 K T Nk false m w p n sc 1 m2 w2 p2 n2 sc3 X W Rf Zf CL ∧ ERW N K nm true m2 n n2 W l p p2 sc sc2 X Rf Zf (BCo N CL) ∧ (Rf = false → sc3 = sc2) ∧ nms sc3 = nms sc ∧ n < l.headD 0
def HGc (N : Nat) (m0 w0 : MS) (K : Nat → Nat) (T : Nat) (nm Nk : Nat → Nat) (d : Nat) : Prop := ∀ (D : Nat) (m w : MS) (p n : Nat) (sc : SCT) (o : Nat), RLP m0 w0 T p m w → m.1 306 = I (n : Nat) → n ≤ 2 * p → RNs w sc → ND w → w.1 70 = I (o : Nat) → o ≤ 25 → w.1 73 = 0 → PP (fun m2 z w2 (_ : Int32) => GDZ N m0 w0 K T nm Nk p n sc m w m2 z w2) ((hrc_Pa_matched N D).2.2.2.2.2.2.2.2.2.2.2.2.2.2.2.2.2.2.1 m 0 4000) ((rc_M_behind N d).2.2.2.2.2.2.2.2.2.2.2.2.2.2.1 w)
def fgU (o : Option (MS × Int32)) : Option (MS × Unit) := bnd o (fun u _ => some (u, ()))
def gcR (N : Nat) (S : SG_M_behind) (v1 v2 v3 : Int32) (M : Nat) (w : MS) : Option (MS × Int32) := bnd (fm_M_node N w 22 (w.1 69)) (fun u5 r5 => bnd (fm_M_takeSign N u5 6) (fun u6 r6 => gg_M_guardCode N S M u6 v1 v2 v3 r6))
section
variable {α : Type} {R : MS → α → MS → Int32 → Prop} {A : Option (MS × α)} {m0 w0 m w v u m2 m3 w2 x y z xB xC mF vS mB wB : MS} {K nm Nk W W1 W2 WA WB : Nat → Nat} {T p n N q X Y X1 X2 XA n2 n3 lo p2 p4 ν μ a b L L' k d o M D s : Nat} {sc sc1 sc2 sc3 sc4 sc5 t t2 t3 t4 t5 : SCT} {e e2 e3 e4 e5 : List Nat × List Nat × Nat} {gd Rf Rg Zf : Bool} {BC : MS → Prop} {v1 v2 v3 r ξ : Int32} {S : SG_M_behind} {NC : Nat → Prop} {CL CM : Int32 × Int32 × Int32 → Prop} {l : List Nat}
theorem pp_fg {R' : MS → α → MS → Unit → Prop} {B : Option (MS × Int32)} (h : PP R' A (fgU B)) : PP (fun m z w (_ : Int32) => R' m z w ()) A B := by
  intro m z w r e1 e2
  refine h m z w () e1 ?_
  rw [e2]; rfl
theorem pk_fg {Q : MS → Unit → Prop} {B : Option (MS × Int32)} (h : PK (fun w (_ : Int32) => Q w ()) B) : PK Q (fgU B) := by
  intro w r e
  cases B with
  | none => cases e
  | some B =>
    obtain ⟨w', r'⟩ := B
    have e : some (w', ()) = some (w, r) := e
    injection e with e; injection e with e1 e2
    rw [← e1]
    exact h w' r' rfl
theorem fgU_b {o : Option (MS × Int32)} {f : MS → Int32 → Option (MS × Int32)} : fgU (bnd o f) = bnd o (fun u r => fgU (f u r)) := bnd_as2
theorem bdy_r : ∀ (M : Nat) (w : MS) (r r' : Int32), fgU (gg_M_body N S M w r) = fgU (gg_M_body N S M w r')
  | 0, _, _, _ => rfl
  | M + 1, w, r, r' => by
    show fgU (fb_M_body_40 N S (gg_M_body N S M) w r) = fgU (fb_M_body_40 N S (gg_M_body N S M) w r')
    unfold fb_M_body_40
    rw [fgU_b, fgU_b]
    congr 1
    funext u1 r1
    cases z : decide (r1 = 0) with
    | true => rfl
    | false => rfl
theorem set60 (h : RNs w (e2 :: t2)) (hb : b ≤ e2.1.length) : UNQ (cutS b (e2 :: t2)) w (upA w 60 (upd (w.2.2.1 60) (w.1 65).toNatClampNeg (I (b : Nat)))) := by
  have sl : t2.length + 1 ≤ 27 := h.2.1.2
  have s65 : (w.1 65).toNatClampNeg = t2.length := by
    rw [h.1]
    exact tnI (n := t2.length) rfl (by omega)
  rw [s65]
  have n60 : ∀ k, k ≠ 60 → (upA w 60 (upd (w.2.2.1 60) t2.length (I (b : Nat)))).2.2.1 k = w.2.2.1 k := fun k hk => upA_no hk
  have ln : (e2.1.take b).length = b := by rw [List.length_take]; omega
  refine ⟨⟨h.1, h.2.1, ⟨⟨?_, fun k x hx => ?_, ?_, ?_, ?_⟩, ?_⟩, SOK_cut h.2.2.2⟩, rfl, fun _ _ => rfl, fun k hk h6 => n60 k h6, fun a e1 e3 => ⟨a, ⟨e1, Nat.le_refl _, e3⟩, ?_, fun j h1 h2 => absurd h2 (by omega)⟩⟩
  · show (upA w 60 _).2.2.1 60 t2.length = I ((e2.1.take b).length : Nat)
    rw [upA_at, upd_at, ln]
  · have hx : (e2.1.take b)[k]? = some x := hx
    rw [n60 59 (by decide)]
    refine h.2.2.1.1.2.1 k x ?_
    rw [List.getElem?_take] at hx
    split at hx
    · exact hx
    · cases hx
  · rw [n60 63 (by decide)]; exact h.2.2.1.1.2.2.1
  · rw [n60 61 (by decide)]; exact h.2.2.1.1.2.2.2.1
  · rw [n60 64 (by decide)]; exact h.2.2.1.1.2.2.2.2
  · refine RNl_fr h.2.2.2.2 h.2.2.1.2 (fun j hj => ?_) (fun j hj => ?_)
    · rw [n60 63 (by decide), n60 64 (by decide), upA_at, upd_no (by omega)]
      exact ⟨rfl, rfl, rfl⟩
    · rw [n60 59 (by decide), n60 61 (by decide)]
      exact ⟨rfl, rfl⟩
  · exact fun j hj => by rw [n60 23 (by decide), n60 25 (by decide), n60 26 (by decide), n60 27 (by decide)]; exact ⟨rfl, fun _ => ⟨rfl, rfl, rfl⟩⟩
theorem bd_fl (h : FLW w) : PK (fun w2 (_ : Int32) => FLW w2) (gg_M_body N (rc_M_behind N d) M w r) := by
  refine Kf_pk (u0 := w) ?_
  have h : Kfc w w := h
  obtain ⟨hF0, hF1, hF2, hF3, hF4, hF5, hF6, hF7, hF8, hF9, hF10, hF11, hF12, hF13, hF14, hF15, hF16⟩ := yf_rc_M_behind (u0 := w) (N := N) d
  repeat' (first | with_reducible assumption | with_reducible refine Kf_br ?_ ?_ | with_reducible refine Kf_bnd ?_ (fun _ _ _ => ?_) | with_reducible refine Kf_ck ?_ | with_reducible refine Kf_ltm ?_ (fun _ _ => ?_) | with_reducible refine Kf_some ?_ | with_reducible refine Kf_bo (fun _ => ?_) | with_reducible exact yf_fm_M_node (by assumption) | with_reducible exact yf_fm_M_pattern (by assumption) | with_reducible exact yf_fm_M_wrong (by assumption) | with_reducible exact yf_fm_M_rule (by assumption) | with_reducible exact yf_fm_M_isSign (by assumption) | with_reducible exact yf_fm_M_isWord (by assumption) | with_reducible exact yf_fm_M_takeSign (by assumption) | with_reducible exact yf_fm_M_takeWord (by assumption) | with_reducible exact yf_fm_M_needSign (by assumption) | with_reducible exact yf_fm_M_needWord (by assumption) | with_reducible exact yf_fm_M_opens (by assumption) | with_reducible exact yf_fm_M_boundIn (by assumption) | with_reducible exact yf_fr_M_found (by assumption) | with_reducible exact yf_fm_M_bind (by assumption) | with_reducible exact yf_fm_M_isUnderscore (by assumption) | with_reducible exact yf_fm_M_unbind (by assumption) | with_reducible exact yf_fm_M_term (by assumption) | with_reducible exact yf_fm_M_namePattern (by assumption) | with_reducible exact yf_fr_M_patternAt (by assumption) | with_reducible exact yf_fm_M_beginsUnit (by assumption) | with_reducible exact yf_fm_M_save (by assumption) | with_reducible exact yf_fm_M_addRoot (by assumption) | with_reducible exact yf_fm_M_level (by assumption) | with_reducible exact yf_fm_M_reduce (by assumption) | with_reducible exact yf_fm_M_takeBack (by assumption) | with_reducible exact yf_fm_M_forgetSaved (by assumption) | with_reducible exact yf_fr_M_last (by assumption) | with_reducible exact yf_fr_M_clause (by assumption) | with_reducible exact yf_fm_M_predefinedOf (by assumption) | with_reducible exact yf_fm_M_function0 (by assumption) | with_reducible exact yf_fm_M_program (by assumption) | with_reducible exact hF0 _ (by assumption) | with_reducible exact hF1 _ _ (by assumption) | with_reducible exact hF2 _ _ _ (by assumption) | with_reducible exact hF3 _ _ _ (by assumption) | with_reducible exact hF4 _ (by assumption) | with_reducible exact hF5 _ _ (by assumption) | with_reducible exact hF6 _ _ (by assumption) | with_reducible exact hF7 _ _ (by assumption) | with_reducible exact hF8 _ _ (by assumption) | with_reducible exact hF9 _ (by assumption) | with_reducible exact hF10 _ (by assumption) | with_reducible exact hF11 _ (by assumption) | with_reducible exact hF12 _ (by assumption) | with_reducible exact hF13 _ (by assumption) | with_reducible exact hF14 _ (by assumption) | with_reducible exact hF15 _ (by assumption) | with_reducible exact hF16 _ _ (by assumption) | with_reducible exact yf_fb_M_body_40 (by assumption) hF0 hF1 hF2 hF3 hF4 hF5 hF6 hF7 hF8 hF9 hF10 hF11 hF12 hF13 hF14 hF15 hF16 (yf_gg_M_body hF0 hF1 hF2 hF3 hF4 hF5 hF6 hF7 hF8 hF9 hF10 hF11 hF12 hF13 hF14 hF15 hF16 _) | with_reducible exact yf_fb_M_body_31 (by assumption) hF0 hF1 hF2 hF3 hF4 hF5 hF6 hF7 hF8 hF9 hF10 hF11 hF12 hF13 hF14 hF15 hF16 (yf_gg_M_body hF0 hF1 hF2 hF3 hF4 hF5 hF6 hF7 hF8 hF9 hF10 hF11 hF12 hF13 hF14 hF15 hF16 _) | with_reducible exact yf_fb_M_body_0 (by assumption) hF0 hF1 hF2 hF3 hF4 hF5 hF6 hF7 hF8 hF9 hF10 hF11 hF12 hF13 hF14 hF15 hF16 (yf_gg_M_body hF0 hF1 hF2 hF3 hF4 hF5 hF6 hF7 hF8 hF9 hF10 hF11 hF12 hF13 hF14 hF15 hF16 _) | with_reducible exact (yf_gg_M_body hF0 hF1 hF2 hF3 hF4 hF5 hF6 hF7 hF8 hF9 hF10 hF11 hF12 hF13 hF14 hF15 hF16 _) _ _ (by assumption) | with_reducible refine Kf_ltv (fun _ => ?_) | with_reducible refine Kf_I ?_ (by decide) | with_reducible refine Kf_A ?_ | with_reducible refine Kf_J ?_ | with_reducible refine Kf_L ?_)
theorem bd_pp (c : CTZ m0 w0 K T nm Nk) (c45 : ∀ p, p ≤ T → K p ≠ 45) (hE : HE N m0 w0 K T nm Nk d) (h : RLP m0 w0 T p m w) (hn : m.1 306 = I (n : Nat)) (hn2 : n ≤ 2 * p) (hR : RNs w sc) (nd : ND w) (h70 : w.1 70 = I (o : Nat)) (ho : o < 25) (hg : w.1 73 = 0) : PP (fun m2 z w2 (_ : Int32) => BDZ N m0 w0 K T nm Nk p n sc m w m2 z w2) (bTm ((hrc_Pa_matched N D).2.2.2.2.2.2.2.2.2.2.2.2.2.2.2.2.2.2.1 (upI m 666 (m.1 666 + 1)) 0 4000) (fun u2 r2 => lt (upI u2 666 (u2.1 666 - 1)) (fun w4 => some (w4, .inl r2)))) (bnd ((rc_M_behind N d).2.2.2.2.2.2.2.2.2.2.2.2.2.1 (upI w 70 (w.1 70 + 1))) (fun u6 r6 => gg_M_body N (rc_M_behind N d) N u6 r6)) := by
  cases D with
  | zero => exact pp_nl
  | succ D =>
    refine pp_fg (R' := fun m2 z w2 _ => BDZ N m0 w0 K T nm Nk p n sc m w m2 z w2) ?_
    rw [fgU_b]
    have e1 : (fun u r => fgU (gg_M_body N (rc_M_behind N d) N u r)) = (fun u (_ : Int32) => fgU (gg_M_body N (rc_M_behind N d) N u 0)) := by
      funext u r
      exact bdy_r N u r 0
    rw [e1]
    obtain ⟨av, hav, hav2⟩ := nd
    have rl := RLP_70 h
    refine erow_st (SC := hrc_Pa_matched N D) (RA := fun M _ w => fgU (gg_M_body N (rc_M_behind N d) M w 0)) (mx := 4000) (gd := false) (o := o + 1) (sc := sc) (p0 := p) (n0 := n) (by decide) (by decide) c c45 hn2 rl (by rw [upI_ne (by decide)]; exact hn) (RNs_e hR (upI_ne (by decide)) (fun _ _ _ => rfl)) ⟨av, by rw [upI_ne (by decide)]; exact hav, hav2⟩ (by rw [upI_at, h70]; exact i_suc) (by omega) (by rw [upI_ne (by decide), hg]; rfl) (hE D) ?_ ?_ ?_ ?_ ?_ ?_ (Or.inr rfl)
    · intro M m2 w2 q k l hI k26 hlk hk6
      obtain ⟨n2, sc2, X, W, Rf, Zf, CL, b0, b1, b2, b3, b4, b5⟩ := hI
      have hw2 := RLP_w c b1.1
      have h2 := b1.1.2.2.2.2.2.2
      cases M with
      | zero => exact pp_nr
      | succ M =>
        show PP _ _ (fgU (fb_M_body_40 N (rc_M_behind N d) (gg_M_body N (rc_M_behind N d) M) w2 0))
        unfold fb_M_body_40
        rw [tkS_e (k := 26) (s := 6) hw2 h2 (by decide) rfl, if_neg k26, bnd_s, show decide ((0 : Int32) = 0) = true from rfl, br_tq]
        refine l_lt (pp_end ?_)
        exact ⟨l, q, n2, sc2, X, W, Rf, Zf, CL, rfl, b0.1, b0.2.1, STQ_70 b1 h.2.2.2.2.2.1, ERW_k (Nat.le_refl _) kc_666 (fun j _ => ⟨rfl, rfl⟩) b2, b4⟩
    · intro M k q w2 a hw2 h2 k26 hk1 hk6 ha
      cases M with
      | zero => exact pp_nr
      | succ M =>
        show PP _ _ (fgU (fb_M_body_40 N (rc_M_behind N d) (gg_M_body N (rc_M_behind N d) M) w2 0))
        unfold fb_M_body_40
        rw [tkS_e (k := 26) (s := 6) hw2 h2 (by decide) rfl, if_pos k26, bnd_s, show decide ((1 : Int32) = 0) = false from rfl, br_fq, fgU_b]
        refine r_bnd (pk_mo (node_s (kd := 17) (N := N) (by decide)) (fun u3 r3 h3 => ?_))
        rw [fgU_b]
        have e2 : (fun u r => fgU (gg_M_body N (rc_M_behind N d) M u r)) = (fun u (_ : Int32) => fgU (gg_M_body N (rc_M_behind N d) M u 0)) := by
          funext u r
          exact bdy_r M u r 0
        rw [e2]
        exact ha u3 M h3.1 h3.2.1
    · intro M k q w2 h8; exact absurd h8 (by decide)
    · intro M k w2 hf
      exact pk_fg (bd_fl hf)
    · intro m2 q φ h8; exact absurd h8 (by decide)
    · intro m2 k w2 r hf; exact hf
theorem HBo_s (c : CTZ m0 w0 K T nm Nk) (c45 : ∀ p, p ≤ T → K p ≠ 45) (hE : HE N m0 w0 K T nm Nk d) : HBo N m0 w0 K T nm Nk (d + 1) := by
  intro D m w p n sc o h hn hn2 hR nd h70 ho hg
  cases D with
  | zero => exact pp_nl
  | succ D =>
    show PP _ (hb_Pa_body_0 N (hrc_Pa_matched N D) () m) (fb_M_body_0 N (rc_M_behind N d) (gg_M_body N (rc_M_behind N d) N) w)
    have hc := RLP_c c h
    have hwp := RLP_w c h
    have h0 := h.2.2.2.2.2.2
    have k46 := hc.1.1.k46 hc.2.2
    unfold hb_Pa_body_0 fb_M_body_0 hb_Pa_body_20 hb_Pa_body_25
    rw [look_e hc (c45 _ h.2.2.2.2.1), bTm_l, bU_e k46, bnd_s, decide_eq_true h0, br_tq, bU_m hwp, bnd_s, look_e hc (c45 _ h.2.2.2.2.1), bTm_l, I_dn (a := K p) (b := 9) (s := 9) (by omega) (by decide) rfl]
    have go : PP (fun m2 z w2 (_ : Int32) => BDZ N m0 w0 K T nm Nk p n sc m w m2 z w2) (bTm (hm_Pa_opens N m 1) (fun u1 r1 => bTm ((hrc_Pa_matched N D).2.2.2.2.2.2.2.2.2.2.2.2.2.2.2.2.2.2.1 u1 0 4000) (fun u2 r2 => lt (upI u2 666 (u2.1 666 - 1)) (fun w4 => some (w4, .inl r2))))) (fb_M_body_31 N (rc_M_behind N d) (gg_M_body N (rc_M_behind N d) N) w) := by
      unfold fb_M_body_31
      by_cases z : o < 25
      · have zz := (lt25 h70 (by omega)).mpr z
        rw [opens_e (by rw [h.2.2.2.2.2.1]; exact zz), bTm_l, opn_e zz, bnd_s]
        exact bd_pp c c45 hE h hn hn2 hR nd h70 z hg
      · have zz : ¬ w.1 70 < 25 := fun y => z ((lt25 h70 (by omega)).mp y)
        refine pp_rf (RFS_T (opens_x hc (by rw [h.2.2.2.2.2.1]; exact zz))) (fun m' => ?_)
        refine pk_bnd (pk_mo (opn_x zz) (fun v r y => ?_))
        refine Kf_pk (u0 := v) ?_
        have y2 : Kfc v v := y
        obtain ⟨hF0, hF1, hF2, hF3, hF4, hF5, hF6, hF7, hF8, hF9, hF10, hF11, hF12, hF13, hF14, hF15, hF16⟩ := yf_rc_M_behind (u0 := v) (N := N) d
        repeat' (first | with_reducible assumption | with_reducible refine Kf_br ?_ ?_ | with_reducible refine Kf_bnd ?_ (fun _ _ _ => ?_) | with_reducible refine Kf_ck ?_ | with_reducible refine Kf_ltm ?_ (fun _ _ => ?_) | with_reducible refine Kf_some ?_ | with_reducible refine Kf_bo (fun _ => ?_) | with_reducible exact yf_fm_M_node (by assumption) | with_reducible exact yf_fm_M_pattern (by assumption) | with_reducible exact yf_fm_M_wrong (by assumption) | with_reducible exact yf_fm_M_rule (by assumption) | with_reducible exact yf_fm_M_isSign (by assumption) | with_reducible exact yf_fm_M_isWord (by assumption) | with_reducible exact yf_fm_M_takeSign (by assumption) | with_reducible exact yf_fm_M_takeWord (by assumption) | with_reducible exact yf_fm_M_needSign (by assumption) | with_reducible exact yf_fm_M_needWord (by assumption) | with_reducible exact yf_fm_M_opens (by assumption) | with_reducible exact yf_fm_M_boundIn (by assumption) | with_reducible exact yf_fr_M_found (by assumption) | with_reducible exact yf_fm_M_bind (by assumption) | with_reducible exact yf_fm_M_isUnderscore (by assumption) | with_reducible exact yf_fm_M_unbind (by assumption) | with_reducible exact yf_fm_M_term (by assumption) | with_reducible exact yf_fm_M_namePattern (by assumption) | with_reducible exact yf_fr_M_patternAt (by assumption) | with_reducible exact yf_fm_M_beginsUnit (by assumption) | with_reducible exact yf_fm_M_save (by assumption) | with_reducible exact yf_fm_M_addRoot (by assumption) | with_reducible exact yf_fm_M_level (by assumption) | with_reducible exact yf_fm_M_reduce (by assumption) | with_reducible exact yf_fm_M_takeBack (by assumption) | with_reducible exact yf_fm_M_forgetSaved (by assumption) | with_reducible exact yf_fr_M_last (by assumption) | with_reducible exact yf_fr_M_clause (by assumption) | with_reducible exact yf_fm_M_predefinedOf (by assumption) | with_reducible exact yf_fm_M_function0 (by assumption) | with_reducible exact yf_fm_M_program (by assumption) | with_reducible exact hF0 _ (by assumption) | with_reducible exact hF1 _ _ (by assumption) | with_reducible exact hF2 _ _ _ (by assumption) | with_reducible exact hF3 _ _ _ (by assumption) | with_reducible exact hF4 _ (by assumption) | with_reducible exact hF5 _ _ (by assumption) | with_reducible exact hF6 _ _ (by assumption) | with_reducible exact hF7 _ _ (by assumption) | with_reducible exact hF8 _ _ (by assumption) | with_reducible exact hF9 _ (by assumption) | with_reducible exact hF10 _ (by assumption) | with_reducible exact hF11 _ (by assumption) | with_reducible exact hF12 _ (by assumption) | with_reducible exact hF13 _ (by assumption) | with_reducible exact hF14 _ (by assumption) | with_reducible exact hF15 _ (by assumption) | with_reducible exact hF16 _ _ (by assumption) | with_reducible exact yf_fb_M_body_40 (by assumption) hF0 hF1 hF2 hF3 hF4 hF5 hF6 hF7 hF8 hF9 hF10 hF11 hF12 hF13 hF14 hF15 hF16 (yf_gg_M_body hF0 hF1 hF2 hF3 hF4 hF5 hF6 hF7 hF8 hF9 hF10 hF11 hF12 hF13 hF14 hF15 hF16 _) | with_reducible exact yf_fb_M_body_31 (by assumption) hF0 hF1 hF2 hF3 hF4 hF5 hF6 hF7 hF8 hF9 hF10 hF11 hF12 hF13 hF14 hF15 hF16 (yf_gg_M_body hF0 hF1 hF2 hF3 hF4 hF5 hF6 hF7 hF8 hF9 hF10 hF11 hF12 hF13 hF14 hF15 hF16 _) | with_reducible exact yf_fb_M_body_0 (by assumption) hF0 hF1 hF2 hF3 hF4 hF5 hF6 hF7 hF8 hF9 hF10 hF11 hF12 hF13 hF14 hF15 hF16 (yf_gg_M_body hF0 hF1 hF2 hF3 hF4 hF5 hF6 hF7 hF8 hF9 hF10 hF11 hF12 hF13 hF14 hF15 hF16 _) | with_reducible exact (yf_gg_M_body hF0 hF1 hF2 hF3 hF4 hF5 hF6 hF7 hF8 hF9 hF10 hF11 hF12 hF13 hF14 hF15 hF16 _) _ _ (by assumption) | with_reducible refine Kf_ltv (fun _ => ?_) | with_reducible refine Kf_I ?_ (by decide) | with_reducible refine Kf_A ?_ | with_reducible refine Kf_J ?_ | with_reducible refine Kf_L ?_)
    cases hb : bUK (K p) with
    | false =>
      rw [show decide (b2c false = 0) = true from rfl, br_tq, br_tq]
      by_cases z9 : K p = 9
      · rw [decide_eq_true z9, br_tq, isV_e (k := 9) (s := 4) hwp (by decide) rfl, bnd_s, if_pos z9, show decide ((1 : Int32) = 0) = false from rfl, br_fq]
        exact go
      · rw [decide_eq_false z9, br_fq, isV_e (k := 9) (s := 4) hwp (by decide) rfl, bnd_s, if_neg z9, show decide ((0 : Int32) = 0) = true from rfl, br_tq]
        refine pp_rf (RFS_T (opens_0 hc)) (fun m' => ?_)
        exact pk_bnd (fun v r z => pk_some (wrong_s (u0 := w) (by decide) v r z))
    | true =>
      rw [show decide (b2c true = 0) = false from rfl, br_fq, br_fq]
      exact go
theorem gc_fl (h : FLW w) : PK (fun w2 (_ : Int32) => FLW w2) (gcR N (rc_M_behind N d) v1 v2 v3 M w) := by
  unfold gcR
  refine Kf_pk (u0 := w) ?_
  have h : Kfc w w := h
  obtain ⟨hF0, hF1, hF2, hF3, hF4, hF5, hF6, hF7, hF8, hF9, hF10, hF11, hF12, hF13, hF14, hF15, hF16⟩ := yf_rc_M_behind (u0 := w) (N := N) d
  repeat' (first | with_reducible assumption | with_reducible refine Kf_br ?_ ?_ | with_reducible refine Kf_bnd ?_ (fun _ _ _ => ?_) | with_reducible refine Kf_ck ?_ | with_reducible refine Kf_ltm ?_ (fun _ _ => ?_) | with_reducible refine Kf_some ?_ | with_reducible refine Kf_bo (fun _ => ?_) | with_reducible exact yf_fm_M_node (by assumption) | with_reducible exact yf_fm_M_pattern (by assumption) | with_reducible exact yf_fm_M_wrong (by assumption) | with_reducible exact yf_fm_M_rule (by assumption) | with_reducible exact yf_fm_M_isSign (by assumption) | with_reducible exact yf_fm_M_isWord (by assumption) | with_reducible exact yf_fm_M_takeSign (by assumption) | with_reducible exact yf_fm_M_takeWord (by assumption) | with_reducible exact yf_fm_M_needSign (by assumption) | with_reducible exact yf_fm_M_needWord (by assumption) | with_reducible exact yf_fm_M_opens (by assumption) | with_reducible exact yf_fm_M_boundIn (by assumption) | with_reducible exact yf_fr_M_found (by assumption) | with_reducible exact yf_fm_M_bind (by assumption) | with_reducible exact yf_fm_M_isUnderscore (by assumption) | with_reducible exact yf_fm_M_unbind (by assumption) | with_reducible exact yf_fm_M_term (by assumption) | with_reducible exact yf_fm_M_namePattern (by assumption) | with_reducible exact yf_fr_M_patternAt (by assumption) | with_reducible exact yf_fm_M_beginsUnit (by assumption) | with_reducible exact yf_fm_M_save (by assumption) | with_reducible exact yf_fm_M_addRoot (by assumption) | with_reducible exact yf_fm_M_level (by assumption) | with_reducible exact yf_fm_M_reduce (by assumption) | with_reducible exact yf_fm_M_takeBack (by assumption) | with_reducible exact yf_fm_M_forgetSaved (by assumption) | with_reducible exact yf_fr_M_last (by assumption) | with_reducible exact yf_fr_M_clause (by assumption) | with_reducible exact yf_fm_M_predefinedOf (by assumption) | with_reducible exact yf_fm_M_function0 (by assumption) | with_reducible exact yf_fm_M_program (by assumption) | with_reducible exact hF0 _ (by assumption) | with_reducible exact hF1 _ _ (by assumption) | with_reducible exact hF2 _ _ _ (by assumption) | with_reducible exact hF3 _ _ _ (by assumption) | with_reducible exact hF4 _ (by assumption) | with_reducible exact hF5 _ _ (by assumption) | with_reducible exact hF6 _ _ (by assumption) | with_reducible exact hF7 _ _ (by assumption) | with_reducible exact hF8 _ _ (by assumption) | with_reducible exact hF9 _ (by assumption) | with_reducible exact hF10 _ (by assumption) | with_reducible exact hF11 _ (by assumption) | with_reducible exact hF12 _ (by assumption) | with_reducible exact hF13 _ (by assumption) | with_reducible exact hF14 _ (by assumption) | with_reducible exact hF15 _ (by assumption) | with_reducible exact hF16 _ _ (by assumption) | with_reducible exact yf_fb_M_guardCode_39 (by assumption) hF0 hF1 hF2 hF3 hF4 hF5 hF6 hF7 hF8 hF9 hF10 hF11 hF12 hF13 hF14 hF15 hF16 (yf_gg_M_guardCode hF0 hF1 hF2 hF3 hF4 hF5 hF6 hF7 hF8 hF9 hF10 hF11 hF12 hF13 hF14 hF15 hF16 _) | with_reducible exact yf_fb_M_guardCode_37 (by assumption) hF0 hF1 hF2 hF3 hF4 hF5 hF6 hF7 hF8 hF9 hF10 hF11 hF12 hF13 hF14 hF15 hF16 (yf_gg_M_guardCode hF0 hF1 hF2 hF3 hF4 hF5 hF6 hF7 hF8 hF9 hF10 hF11 hF12 hF13 hF14 hF15 hF16 _) | with_reducible exact yf_fb_M_guardCode_0 (by assumption) hF0 hF1 hF2 hF3 hF4 hF5 hF6 hF7 hF8 hF9 hF10 hF11 hF12 hF13 hF14 hF15 hF16 (yf_gg_M_guardCode hF0 hF1 hF2 hF3 hF4 hF5 hF6 hF7 hF8 hF9 hF10 hF11 hF12 hF13 hF14 hF15 hF16 _) | with_reducible exact (yf_gg_M_guardCode hF0 hF1 hF2 hF3 hF4 hF5 hF6 hF7 hF8 hF9 hF10 hF11 hF12 hF13 hF14 hF15 hF16 _) _ _ _ _ _ (by assumption) | with_reducible refine Kf_ltv (fun _ => ?_) | with_reducible refine Kf_I ?_ (by decide) | with_reducible refine Kf_A ?_ | with_reducible refine Kf_J ?_ | with_reducible refine Kf_L ?_)
theorem HGc_s (c : CTZ m0 w0 K T nm Nk) (c45 : ∀ p, p ≤ T → K p ≠ 45) (hE : HE N m0 w0 K T nm Nk d) : HGc N m0 w0 K T nm Nk (d + 1) := by
  intro D m w p n sc o h hn hn2 hR nd h70 ho hg
  cases D with
  | zero => exact pp_nl
  | succ D =>
    show PP _ (hm_Pa_row N (hrc_Pa_matched N D) m 0 4000) (fb_M_guardCode_0 N (rc_M_behind N d) (gg_M_guardCode N (rc_M_behind N d) N) w)
    have h0 := h.2.2.2.2.2.2
    have hl : 1 ≤ sc.length ∧ sc.length ≤ 27 := hR.2.1
    cases sc with
    | nil => exact absurd hl.1 (by decide)
    | cons e t =>
    unfold fb_M_guardCode_0 fb_M_guardCode_37
    have e60 : w.2.2.1 60 (w.1 65).toNatClampNeg = I (e.1.length : Nat) := by
      have s65 : (w.1 65).toNatClampNeg = t.length := by
        rw [hR.1]
        exact tnI (n := t.length) rfl (by have : t.length + 1 ≤ 27 := hl.2; omega)
      rw [s65]; exact hR.2.2.1.1.1
    rw [e60]
    have i73 : ∀ k, k ≠ 73 → (upI w 73 1).1 k = w.1 k := fun k hk => upI_ne hk
    refine r_ck (fun _ => r_lt (r_lt ?_))
    rw [i73 67 (by decide), decide_eq_true h0, br_tq]
    have go : ∀ M, PP (fun m2 z w2 (_ : Int32) => GDZ N m0 w0 K T nm Nk p n (e :: t) m w m2 z w2) (bTm (hm_Pa_row N (hrc_Pa_matched N D) m 0 (I ((4000 : Nat) : Int))) (fun u r => some (u, .inl r))) (gg_M_guardCode N (rc_M_behind N d) M (upI w 73 1) (w.1 32) (w.1 73) (I (e.1.length : Nat)) 1) := fun M => by
      cases M with
      | zero => exact pp_nr
      | succ M =>
        show PP _ _ (fb_M_guardCode_39 N (rc_M_behind N d) (gg_M_guardCode N (rc_M_behind N d) M) (upI w 73 1) (w.1 32) (w.1 73) (I (e.1.length : Nat)) 1)
        unfold fb_M_guardCode_39
        rw [show decide ((1 : Int32) = 0) = false from rfl, br_fq]
        obtain ⟨av, hav, hav2⟩ := nd
        have rl : RLP m0 w0 T p m (upI w 73 1) := ⟨h.1, Kt_I h.2.1 (by decide), h.2.2.1, by rw [i73 69 (by decide)]; exact h.2.2.2.1, h.2.2.2.2.1, by rw [i73 70 (by decide)]; exact h.2.2.2.2.2.1, by rw [i73 67 (by decide)]; exact h0⟩
        refine erow_st (SC := hrc_Pa_matched N D) (fC := fun u r => some (u, .inl r)) (RA := fun M _ w' => gcR N (rc_M_behind N d) (w.1 32) (w.1 73) (I (e.1.length : Nat)) M w') (M := M) (mx := 4000) (gd := true) (o := o) (sc := e :: t) (p0 := p) (n0 := n) (by decide) (by decide) c c45 hn2 rl hn (RNs_e hR (i73 65 (by decide)) (fun _ _ _ => rfl)) ⟨av, by rw [i73 32 (by decide)]; exact hav, hav2⟩ (by rw [i73 70 (by decide)]; exact h70) ho (by rw [upI_at]; rfl) (hE D) ?_ ?_ ?_ ?_ ?_ ?_ (Or.inr rfl)
        · intro M m2 w2 q k l hI k26 hlk hk6
          obtain ⟨n2, sc2, X, W, Rf, Zf, CL, b0, b1, b2, b3, b4, b5⟩ := hI
          show PP _ _ (gcR N (rc_M_behind N d) (w.1 32) (w.1 73) (I (e.1.length : Nat)) M w2)
          unfold gcR
          refine r_bnd (pk_mo (node_s (kd := 22) (N := N) (by decide)) (fun u5 r5 h5 => ?_))
          have s1 := STQ_s b1 h5.1 h5.2.1
          have hw2 := RLP_w c s1.1
          have h2 := s1.1.2.2.2.2.2.2
          rw [tkS_e (k := 26) (s := 6) hw2 h2 (by decide) rfl, if_neg k26, bnd_s]
          cases M with
          | zero => exact pp_nr
          | succ M =>
            show PP _ _ (fb_M_guardCode_39 N (rc_M_behind N d) (gg_M_guardCode N (rc_M_behind N d) M) u5 (w.1 32) (w.1 73) (I (e.1.length : Nat)) 0)
            unfold fb_M_guardCode_39
            rw [show decide ((0 : Int32) = 0) = true from rfl, br_tq]
            refine r_bnd (pk_mo (node_s (kd := 23) (N := N) (by decide)) (fun u6 r6 h6 => r_ck (fun _ => r_lt (r_ck (fun _ => r_lt (pp_end ?_))))))
            have s2 := STQ_s s1 h6.1 h6.2.1
            cases sc2 with
            | nil => exact s2.2.2.2.2.1.2.1.elim
            | cons e2 t2 =>
            obtain ⟨c1, c2, c3, c4, c5, c6, c7⟩ := s2
            have s3 := STW_k (k := 73) (Or.inr rfl) c5 (y := w.1 73) rfl
            have le : e.1.length ≤ e2.1.length := s3.2.1.1.length_le
            have un := set60 (b := e.1.length) s3.1 le
            have s4 := STW_cut s3 (Nat.le_refl _) un
            have i6 : ∀ k, k ≠ 73 → (upI u6 73 (w.1 73)).1 k = u6.1 k := fun k hk => upI_ne hk
            have r1 : RLP m0 w0 T q m2 (upI u6 73 (w.1 73)) := ⟨c1.1, Kt_I c1.2.1 (by decide), c1.2.2.1, by rw [i6 69 (by decide)]; exact c1.2.2.2.1, c1.2.2.2.2.1, by rw [i6 70 (by decide)]; exact c1.2.2.2.2.2.1, by rw [i6 67 (by decide)]; exact c1.2.2.2.2.2.2⟩
            have bl := (BDs_len s3.2.1.2.2).2
            refine ⟨l, q, n2, e2 :: t2, cutS e.1.length (e2 :: t2), X, W, Rf, Zf, CL, rfl, b0.1, b0.2.1, ⟨RLP_u r1 un, c2, c3, c4, s4, fun z => Bool.noConfusion z, SNW_cut c7⟩, b2, fun z => ?_, cut_nm s3.2.1, b4⟩
            refine cut_all ?_
            have := c6 rfl z
            have : tot t2 + e2.1.length = tot t + e.1.length := this
            omega
        · intro M k q w2 a hw2 h2 k26 hk1 hk6 ha
          show PP _ _ (gcR N (rc_M_behind N d) (w.1 32) (w.1 73) (I (e.1.length : Nat)) M w2)
          unfold gcR
          refine r_bnd (pk_mo (node_s (kd := 22) (N := N) (by decide)) (fun u5 r5 h5 => ?_))
          have hw5 : WP u5 K T q := ⟨⟨hw2.1.1, fun j hj => by rw [h5.1.2.1 6 (by unfold SMX; omega)]; exact hw2.1.2.1 j hj, fun j hj => by rw [h5.1.2.1 7 (by unfold SMX; omega)]; exact hw2.1.2.2 j hj⟩, by rw [h5.2.1]; exact hw2.2.1, hw2.2.2⟩
          have h52 : u5.1 67 = 0 := by rw [h5.1.1 67 (by decide)]; exact h2
          rw [tkS_e (k := 26) (s := 6) hw5 h52 (by decide) rfl, if_pos k26, bnd_s]
          cases M with
          | zero => exact pp_nr
          | succ M =>
            show PP _ _ (fb_M_guardCode_39 N (rc_M_behind N d) (gg_M_guardCode N (rc_M_behind N d) M) (adv u5 q) (w.1 32) (w.1 73) (I (e.1.length : Nat)) 1)
            unfold fb_M_guardCode_39
            rw [show decide ((1 : Int32) = 0) = false from rfl, br_fq]
            refine ha (adv u5 q) M ?_ ?_
            · obtain ⟨y1, y2, y3⟩ := h5.1
              refine ⟨fun j hj => ?_, y2, fun a e1 e2 => ?_⟩
              · have : j ≠ 69 := by rintro rfl; revert hj; decide
                unfold adv
                rw [upI_ne this, upI_ne this]; exact y1 j hj
              · unfold adv at e1
                rw [upI_ne (by decide)] at e1
                obtain ⟨b, b1, b2, b3⟩ := y3 a e1 e2
                exact ⟨b, ⟨by unfold adv; rw [upI_ne (by decide)]; exact b1.1, b1.2⟩, b2, b3⟩
            · unfold adv; rw [upI_at, upI_at]
        · intro M k q w2 h8; exact absurd h8 (by decide)
        · intro M k w2 hf
          exact gc_fl hf
        · intro m2 q φ h8; exact absurd h8 (by decide)
        · intro m2 k w2 r hf; exact hf
    have e9 : ∀ o : Option (MS × (Int32 ⊕ Nat)), bTm o (fun u r => some (u, .inl r)) = o := fun o => by
      cases o with
      | none => rfl
      | some o =>
        obtain ⟨u, z⟩ := o
        cases z <;> rfl
    have := go N
    rw [e9] at this
    exact this
end
