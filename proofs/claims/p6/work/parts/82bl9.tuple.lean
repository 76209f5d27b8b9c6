set_option maxRecDepth 100000
def rowR (N : Nat) (S : SG_M_behind) (v1 v2 v3 : Int32) (M k : Nat) (w : MS) : Option (MS × Int32) := br (decide (I (k : Nat) = 8)) (bnd (fm_M_isSign N w 6) (fun u9 r9 => br (decide (r9 = 0)) (fb_M_row_92 N S (gg_M_row N S M) u9 v1 v2 v3 (I (k : Nat)) 0) (bnd (fm_M_wrong N u9 2) (fun u10 _ => fb_M_row_92 N S (gg_M_row N S M) u10 v1 v2 v3 (I (k : Nat)) 0)))) (fb_M_row_92 N S (gg_M_row N S M) w v1 v2 v3 (I (k : Nat)) 0)
section
variable {m0 w0 m w v u mB wB m2 w2 m3 w3 : MS} {K nm Nk W : Nat → Nat} {T p n N q X n2 p0 n0 n3 p2 ν o s L d D k q1 : Nat} {sc sc1 sc2 sc3 t : SCT} {gd Rf Zf : Bool} {l : List Nat} {r v1 v2 v3 v4 v5 : Int32} {CL CM : Int32 × Int32 × Int32 → Prop} {NC : Nat → Prop}
theorem rowR_f {M : Nat} (h : FLW w) : PK (fun w2 (_ : Int32) => FLW w2) (rowR N (rc_M_behind N d) v1 v2 v3 M k w) := by
  refine Kf_pk (u0 := w) ?_
  have h : Kfc w w := h
  obtain ⟨hF0, hF1, hF2, hF3, hF4, hF5, hF6, hF7, hF8, hF9, hF10, hF11, hF12, hF13, hF14, hF15, hF16⟩ := yf_rc_M_behind (u0 := w) (N := N) d
  unfold rowR
  repeat' (first | with_reducible assumption | with_reducible refine Kf_br ?_ ?_ | with_reducible refine Kf_bnd ?_ (fun _ _ _ => ?_) | with_reducible refine Kf_ck ?_ | with_reducible refine Kf_ltm ?_ (fun _ _ => ?_) | with_reducible refine Kf_some ?_ | with_reducible refine Kf_bo (fun _ => ?_) | with_reducible exact yf_fm_M_node (by assumption) | with_reducible exact yf_fm_M_pattern (by assumption) | with_reducible exact yf_fm_M_wrong (by assumption) | with_reducible exact yf_fm_M_rule (by assumption) | with_reducible exact yf_fm_M_isSign (by assumption) | with_reducible exact yf_fm_M_isWord (by assumption) | with_reducible exact yf_fm_M_takeSign (by assumption) | with_reducible exact yf_fm_M_takeWord (by assumption) | with_reducible exact yf_fm_M_needSign (by assumption) | with_reducible exact yf_fm_M_needWord (by assumption) | with_reducible exact yf_fm_M_opens (by assumption) | with_reducible exact yf_fm_M_boundIn (by assumption) | with_reducible exact yf_fr_M_found (by assumption) | with_reducible exact yf_fm_M_bind (by assumption) | with_reducible exact yf_fm_M_isUnderscore (by assumption) | with_reducible exact yf_fm_M_unbind (by assumption) | with_reducible exact yf_fm_M_term (by assumption) | with_reducible exact yf_fm_M_namePattern (by assumption) | with_reducible exact yf_fr_M_patternAt (by assumption) | with_reducible exact yf_fm_M_beginsUnit (by assumption) | with_reducible exact yf_fm_M_save (by assumption) | with_reducible exact yf_fm_M_addRoot (by assumption) | with_reducible exact yf_fm_M_level (by assumption) | with_reducible exact yf_fm_M_reduce (by assumption) | with_reducible exact yf_fm_M_takeBack (by assumption) | with_reducible exact yf_fm_M_forgetSaved (by assumption) | with_reducible exact yf_fr_M_last (by assumption) | with_reducible exact yf_fr_M_clause (by assumption) | with_reducible exact yf_fm_M_predefinedOf (by assumption) | with_reducible exact yf_fm_M_function0 (by assumption) | with_reducible exact yf_fm_M_program (by assumption) | with_reducible exact hF0 _ (by assumption) | with_reducible exact hF1 _ _ (by assumption) | with_reducible exact hF2 _ _ _ (by assumption) | with_reducible exact hF3 _ _ _ (by assumption) | with_reducible exact hF4 _ (by assumption) | with_reducible exact hF5 _ _ (by assumption) | with_reducible exact hF6 _ _ (by assumption) | with_reducible exact hF7 _ _ (by assumption) | with_reducible exact hF8 _ _ (by assumption) | with_reducible exact hF9 _ (by assumption) | with_reducible exact hF10 _ (by assumption) | with_reducible exact hF11 _ (by assumption) | with_reducible exact hF12 _ (by assumption) | with_reducible exact hF13 _ (by assumption) | with_reducible exact hF14 _ (by assumption) | with_reducible exact hF15 _ (by assumption) | with_reducible exact hF16 _ _ (by assumption) | with_reducible exact yf_fb_M_row_140 (by assumption) hF0 hF1 hF2 hF3 hF4 hF5 hF6 hF7 hF8 hF9 hF10 hF11 hF12 hF13 hF14 hF15 hF16 (yf_gg_M_row hF0 hF1 hF2 hF3 hF4 hF5 hF6 hF7 hF8 hF9 hF10 hF11 hF12 hF13 hF14 hF15 hF16 _) | with_reducible exact yf_fb_M_row_125 (by assumption) hF0 hF1 hF2 hF3 hF4 hF5 hF6 hF7 hF8 hF9 hF10 hF11 hF12 hF13 hF14 hF15 hF16 (yf_gg_M_row hF0 hF1 hF2 hF3 hF4 hF5 hF6 hF7 hF8 hF9 hF10 hF11 hF12 hF13 hF14 hF15 hF16 _) | with_reducible exact yf_fb_M_row_103 (by assumption) hF0 hF1 hF2 hF3 hF4 hF5 hF6 hF7 hF8 hF9 hF10 hF11 hF12 hF13 hF14 hF15 hF16 (yf_gg_M_row hF0 hF1 hF2 hF3 hF4 hF5 hF6 hF7 hF8 hF9 hF10 hF11 hF12 hF13 hF14 hF15 hF16 _) | with_reducible exact yf_fb_M_row_92 (by assumption) hF0 hF1 hF2 hF3 hF4 hF5 hF6 hF7 hF8 hF9 hF10 hF11 hF12 hF13 hF14 hF15 hF16 (yf_gg_M_row hF0 hF1 hF2 hF3 hF4 hF5 hF6 hF7 hF8 hF9 hF10 hF11 hF12 hF13 hF14 hF15 hF16 _) | with_reducible exact yf_fb_M_row_50 (by assumption) hF0 hF1 hF2 hF3 hF4 hF5 hF6 hF7 hF8 hF9 hF10 hF11 hF12 hF13 hF14 hF15 hF16 (yf_gg_M_row hF0 hF1 hF2 hF3 hF4 hF5 hF6 hF7 hF8 hF9 hF10 hF11 hF12 hF13 hF14 hF15 hF16 _) | with_reducible exact yf_fb_M_row_15 (by assumption) hF0 hF1 hF2 hF3 hF4 hF5 hF6 hF7 hF8 hF9 hF10 hF11 hF12 hF13 hF14 hF15 hF16 (yf_gg_M_row hF0 hF1 hF2 hF3 hF4 hF5 hF6 hF7 hF8 hF9 hF10 hF11 hF12 hF13 hF14 hF15 hF16 _) | with_reducible exact yf_fb_M_row_0 (by assumption) hF0 hF1 hF2 hF3 hF4 hF5 hF6 hF7 hF8 hF9 hF10 hF11 hF12 hF13 hF14 hF15 hF16 (yf_gg_M_row hF0 hF1 hF2 hF3 hF4 hF5 hF6 hF7 hF8 hF9 hF10 hF11 hF12 hF13 hF14 hF15 hF16 _) | with_reducible exact (yf_gg_M_row hF0 hF1 hF2 hF3 hF4 hF5 hF6 hF7 hF8 hF9 hF10 hF11 hF12 hF13 hF14 hF15 hF16 _) _ _ _ _ _ _ _ (by assumption) | with_reducible refine Kf_ltv (fun _ => ?_) | with_reducible refine Kf_I ?_ (by decide) | with_reducible refine Kf_A ?_ | with_reducible refine Kf_J ?_ | with_reducible refine Kf_L ?_)
theorem r92_f {M : Nat} {a b : Int32} (h : FLW w) : PK (fun w2 (_ : Int32) => FLW w2) (fb_M_row_92 N (rc_M_behind N d) (gg_M_row N (rc_M_behind N d) M) w v1 v2 v3 a b) := by
  refine Kf_pk (u0 := w) ?_
  have h : Kfc w w := h
  obtain ⟨hF0, hF1, hF2, hF3, hF4, hF5, hF6, hF7, hF8, hF9, hF10, hF11, hF12, hF13, hF14, hF15, hF16⟩ := yf_rc_M_behind (u0 := w) (N := N) d
  repeat' (first | with_reducible assumption | with_reducible refine Kf_br ?_ ?_ | with_reducible refine Kf_bnd ?_ (fun _ _ _ => ?_) | with_reducible refine Kf_ck ?_ | with_reducible refine Kf_ltm ?_ (fun _ _ => ?_) | with_reducible refine Kf_some ?_ | with_reducible refine Kf_bo (fun _ => ?_) | with_reducible exact yf_fm_M_node (by assumption) | with_reducible exact yf_fm_M_pattern (by assumption) | with_reducible exact yf_fm_M_wrong (by assumption) | with_reducible exact yf_fm_M_rule (by assumption) | with_reducible exact yf_fm_M_isSign (by assumption) | with_reducible exact yf_fm_M_isWord (by assumption) | with_reducible exact yf_fm_M_takeSign (by assumption) | with_reducible exact yf_fm_M_takeWord (by assumption) | with_reducible exact yf_fm_M_needSign (by assumption) | with_reducible exact yf_fm_M_needWord (by assumption) | with_reducible exact yf_fm_M_opens (by assumption) | with_reducible exact yf_fm_M_boundIn (by assumption) | with_reducible exact yf_fr_M_found (by assumption) | with_reducible exact yf_fm_M_bind (by assumption) | with_reducible exact yf_fm_M_isUnderscore (by assumption) | with_reducible exact yf_fm_M_unbind (by assumption) | with_reducible exact yf_fm_M_term (by assumption) | with_reducible exact yf_fm_M_namePattern (by assumption) | with_reducible exact yf_fr_M_patternAt (by assumption) | with_reducible exact yf_fm_M_beginsUnit (by assumption) | with_reducible exact yf_fm_M_save (by assumption) | with_reducible exact yf_fm_M_addRoot (by assumption) | with_reducible exact yf_fm_M_level (by assumption) | with_reducible exact yf_fm_M_reduce (by assumption) | with_reducible exact yf_fm_M_takeBack (by assumption) | with_reducible exact yf_fm_M_forgetSaved (by assumption) | with_reducible exact yf_fr_M_last (by assumption) | with_reducible exact yf_fr_M_clause (by assumption) | with_reducible exact yf_fm_M_predefinedOf (by assumption) | with_reducible exact yf_fm_M_function0 (by assumption) | with_reducible exact yf_fm_M_program (by assumption) | with_reducible exact hF0 _ (by assumption) | with_reducible exact hF1 _ _ (by assumption) | with_reducible exact hF2 _ _ _ (by assumption) | with_reducible exact hF3 _ _ _ (by assumption) | with_reducible exact hF4 _ (by assumption) | with_reducible exact hF5 _ _ (by assumption) | with_reducible exact hF6 _ _ (by assumption) | with_reducible exact hF7 _ _ (by assumption) | with_reducible exact hF8 _ _ (by assumption) | with_reducible exact hF9 _ (by assumption) | with_reducible exact hF10 _ (by assumption) | with_reducible exact hF11 _ (by assumption) | with_reducible exact hF12 _ (by assumption) | with_reducible exact hF13 _ (by assumption) | with_reducible exact hF14 _ (by assumption) | with_reducible exact hF15 _ (by assumption) | with_reducible exact hF16 _ _ (by assumption) | with_reducible exact yf_fb_M_row_140 (by assumption) hF0 hF1 hF2 hF3 hF4 hF5 hF6 hF7 hF8 hF9 hF10 hF11 hF12 hF13 hF14 hF15 hF16 (yf_gg_M_row hF0 hF1 hF2 hF3 hF4 hF5 hF6 hF7 hF8 hF9 hF10 hF11 hF12 hF13 hF14 hF15 hF16 _) | with_reducible exact yf_fb_M_row_125 (by assumption) hF0 hF1 hF2 hF3 hF4 hF5 hF6 hF7 hF8 hF9 hF10 hF11 hF12 hF13 hF14 hF15 hF16 (yf_gg_M_row hF0 hF1 hF2 hF3 hF4 hF5 hF6 hF7 hF8 hF9 hF10 hF11 hF12 hF13 hF14 hF15 hF16 _) | with_reducible exact yf_fb_M_row_103 (by assumption) hF0 hF1 hF2 hF3 hF4 hF5 hF6 hF7 hF8 hF9 hF10 hF11 hF12 hF13 hF14 hF15 hF16 (yf_gg_M_row hF0 hF1 hF2 hF3 hF4 hF5 hF6 hF7 hF8 hF9 hF10 hF11 hF12 hF13 hF14 hF15 hF16 _) | with_reducible exact yf_fb_M_row_92 (by assumption) hF0 hF1 hF2 hF3 hF4 hF5 hF6 hF7 hF8 hF9 hF10 hF11 hF12 hF13 hF14 hF15 hF16 (yf_gg_M_row hF0 hF1 hF2 hF3 hF4 hF5 hF6 hF7 hF8 hF9 hF10 hF11 hF12 hF13 hF14 hF15 hF16 _) | with_reducible exact yf_fb_M_row_50 (by assumption) hF0 hF1 hF2 hF3 hF4 hF5 hF6 hF7 hF8 hF9 hF10 hF11 hF12 hF13 hF14 hF15 hF16 (yf_gg_M_row hF0 hF1 hF2 hF3 hF4 hF5 hF6 hF7 hF8 hF9 hF10 hF11 hF12 hF13 hF14 hF15 hF16 _) | with_reducible exact yf_fb_M_row_15 (by assumption) hF0 hF1 hF2 hF3 hF4 hF5 hF6 hF7 hF8 hF9 hF10 hF11 hF12 hF13 hF14 hF15 hF16 (yf_gg_M_row hF0 hF1 hF2 hF3 hF4 hF5 hF6 hF7 hF8 hF9 hF10 hF11 hF12 hF13 hF14 hF15 hF16 _) | with_reducible exact yf_fb_M_row_0 (by assumption) hF0 hF1 hF2 hF3 hF4 hF5 hF6 hF7 hF8 hF9 hF10 hF11 hF12 hF13 hF14 hF15 hF16 (yf_gg_M_row hF0 hF1 hF2 hF3 hF4 hF5 hF6 hF7 hF8 hF9 hF10 hF11 hF12 hF13 hF14 hF15 hF16 _) | with_reducible exact (yf_gg_M_row hF0 hF1 hF2 hF3 hF4 hF5 hF6 hF7 hF8 hF9 hF10 hF11 hF12 hF13 hF14 hF15 hF16 _) _ _ _ _ _ _ _ (by assumption) | with_reducible refine Kf_ltv (fun _ => ?_) | with_reducible refine Kf_I ?_ (by decide) | with_reducible refine Kf_A ?_ | with_reducible refine Kf_J ?_ | with_reducible refine Kf_L ?_)
theorem r125_f {G : MS → Int32 → Int32 → Int32 → Int32 → Int32 → Int32 → Option (MS × Int32)} (h : FLW w) : PK (fun w2 (_ : Int32) => FLW w2) (fb_M_row_125 N (rc_M_behind N d) G w v1 v2 v3 v4 v5) := by
  refine Kf_pk (u0 := w) ?_
  have h : Kfc w w := h
  unfold fb_M_row_125 fb_M_row_140
  repeat' (first | with_reducible assumption | with_reducible refine Kf_br ?_ ?_ | with_reducible refine Kf_bnd ?_ (fun _ _ _ => ?_) | with_reducible refine Kf_ck ?_ | with_reducible refine Kf_ltm ?_ (fun _ _ => ?_) | with_reducible refine Kf_some ?_ | with_reducible refine Kf_bo (fun _ => ?_) | with_reducible exact yf_fm_M_node (by assumption) | with_reducible exact yf_fm_M_pattern (by assumption) | with_reducible exact yf_fm_M_wrong (by assumption) | with_reducible exact yf_fm_M_rule (by assumption) | with_reducible exact yf_fm_M_isSign (by assumption) | with_reducible exact yf_fm_M_isWord (by assumption) | with_reducible exact yf_fm_M_takeSign (by assumption) | with_reducible exact yf_fm_M_takeWord (by assumption) | with_reducible exact yf_fm_M_needSign (by assumption) | with_reducible exact yf_fm_M_needWord (by assumption) | with_reducible exact yf_fm_M_opens (by assumption) | with_reducible exact yf_fm_M_boundIn (by assumption) | with_reducible exact yf_fr_M_found (by assumption) | with_reducible exact yf_fm_M_bind (by assumption) | with_reducible exact yf_fm_M_isUnderscore (by assumption) | with_reducible exact yf_fm_M_unbind (by assumption) | with_reducible exact yf_fm_M_term (by assumption) | with_reducible exact yf_fm_M_namePattern (by assumption) | with_reducible exact yf_fr_M_patternAt (by assumption) | with_reducible exact yf_fm_M_beginsUnit (by assumption) | with_reducible exact yf_fm_M_save (by assumption) | with_reducible exact yf_fm_M_addRoot (by assumption) | with_reducible exact yf_fm_M_level (by assumption) | with_reducible exact yf_fm_M_reduce (by assumption) | with_reducible exact yf_fm_M_takeBack (by assumption) | with_reducible exact yf_fm_M_forgetSaved (by assumption) | with_reducible exact yf_fr_M_last (by assumption) | with_reducible exact yf_fr_M_clause (by assumption) | with_reducible exact yf_fm_M_predefinedOf (by assumption) | with_reducible exact yf_fm_M_function0 (by assumption) | with_reducible exact yf_fm_M_program (by assumption) | with_reducible exact hF0 _ (by assumption) | with_reducible exact hF1 _ _ (by assumption) | with_reducible exact hF2 _ _ _ (by assumption) | with_reducible exact hF3 _ _ _ (by assumption) | with_reducible exact hF4 _ (by assumption) | with_reducible exact hF5 _ _ (by assumption) | with_reducible exact hF6 _ _ (by assumption) | with_reducible exact hF7 _ _ (by assumption) | with_reducible exact hF8 _ _ (by assumption) | with_reducible exact hF9 _ (by assumption) | with_reducible exact hF10 _ (by assumption) | with_reducible exact hF11 _ (by assumption) | with_reducible exact hF12 _ (by assumption) | with_reducible exact hF13 _ (by assumption) | with_reducible exact hF14 _ (by assumption) | with_reducible exact hF15 _ (by assumption) | with_reducible exact hF16 _ _ (by assumption) | with_reducible refine Kf_ltv (fun _ => ?_) | with_reducible refine Kf_I ?_ (by decide) | with_reducible refine Kf_A ?_ | with_reducible refine Kf_J ?_ | with_reducible refine Kf_L ?_)
theorem r125_p {kc : Nat} {G : MS → Int32 → Int32 → Int32 → Int32 → Int32 → Int32 → Option (MS × Int32)} (hw : WP w K T q1) (h67 : w.1 67 = 0) (hkc : 20 ≤ kc ∧ kc ≤ 44) (h3 : v3 = I (svK kc : Nat)) (hk : K q1 = kc) : PK (fun w2 (_ : Int32) => SMS (adv w q1) w2 ∧ w2.1 69 = (adv w q1).1 69) (fb_M_row_125 N (rc_M_behind N d) G w v1 v2 v3 v4 v5) := by
  unfold fb_M_row_125
  rw [ndS_1 hw h67 hkc h3 hk, bnd_s]
  have go : ∀ t1 : Int32, (vp_nar .byte (t1.toInt8.toInt32) ≠ 12 ∧ vp_nar .byte (t1.toInt8.toInt32) ≠ 15) → PK (fun w2 (_ : Int32) => SMS (adv w q1) w2 ∧ w2.1 69 = (adv w q1).1 69) (fb_M_row_140 N (rc_M_behind N d) G (adv w q1) v1 v4 v5 t1) := fun t1 ht => by
    unfold fb_M_row_140
    refine pk_bnd (pk_mo (node_s ht) (fun u r q => ?_))
    obtain ⟨s1, u69, -, a, ha, hr, h32, h23, hra⟩ := q
    have nc : u.2.2.1 23 r.toNatClampNeg ≠ 12 ∧ u.2.2.1 23 r.toNatClampNeg ≠ 15 := by rw [hra, h23]; exact ht
    refine pk_ck (fun _ => pk_lt (pk_ck (fun _ => pk_lt (pk_some ⟨SMS_B (SMS_B s1 (Or.inl rfl) nc) (Or.inr (Or.inl rfl)) (by rw [upA_no (by decide)]; exact nc), u69⟩))))
  exact pk_br (fun _ => go 5 (by decide)) (fun _ => go 4 (by decide))
theorem rowR_no {R : MS → Int32 ⊕ Nat → MS → Int32 → Prop} {M : Nat} {a : Option (MS × (Int32 ⊕ Nat))} (hw : WP w K T q1) (h67 : w.1 67 = 0) (k26 : K q1 ≠ 26) (h : ∀ M, PP R a (fb_M_row_103 N (rc_M_behind N d) (gg_M_row N (rc_M_behind N d) M) w v1 v2 v3 (I (k : Nat)) 0)) : PP R a (rowR N (rc_M_behind N d) v1 v2 v3 M k w) := by
  have o92 : PP R a (fb_M_row_92 N (rc_M_behind N d) (gg_M_row N (rc_M_behind N d) M) w v1 v2 v3 (I (k : Nat)) 0) := by
    unfold fb_M_row_92
    rw [tkS_e (k := 26) (s := 6) hw h67 (by decide) rfl, if_neg k26, bnd_s]
    cases M with
    | zero => exact pp_nr
    | succ M =>
      show PP R a (fb_M_row_50 N (rc_M_behind N d) (gg_M_row N (rc_M_behind N d) M) w v1 v2 v3 (I (k : Nat)) 0 0)
      unfold fb_M_row_50
      rw [show decide ((0 : Int32) = 0) = true from rfl, br_tq]
      exact h M
  unfold rowR
  rw [isS_e (k := 26) (s := 6) hw (by decide) rfl, if_neg k26, bnd_s, show decide ((0 : Int32) = 0) = true from rfl, br_tq]
  exact r_br (fun _ => o92) (fun _ => o92)
theorem rowR_yes {R : MS → Int32 ⊕ Nat → MS → Int32 → Prop} {M : Nat} {a : Option (MS × (Int32 ⊕ Nat))} (hw : WP w K T q1) (h67 : w.1 67 = 0) (k26 : K q1 = 26) (hk8 : k < 8) (h : ∀ w3 M', SMS (adv w q1) w3 → w3.1 69 = (adv w q1).1 69 → PP R a (bnd ((rc_M_behind N d).2.2.2.2.2.2.2.2.2.2.2.2.2.1 w3) (fun u _ => rowR N (rc_M_behind N d) v1 v2 v3 M' (k + 1) u))) : PP R a (rowR N (rc_M_behind N d) v1 v2 v3 M k w) := by
  unfold rowR
  rw [I_dn (a := k) (b := 8) (s := 8) (by omega) (by decide) rfl, decide_eq_false (p := k = 8) (by omega), br_fq]
  unfold fb_M_row_92
  rw [tkS_e (k := 26) (s := 6) hw h67 (by decide) rfl, if_pos k26, bnd_s]
  cases M with
  | zero => exact pp_nr
  | succ M =>
    show PP R a (fb_M_row_50 N (rc_M_behind N d) (gg_M_row N (rc_M_behind N d) M) (adv w q1) v1 v2 v3 (I (k : Nat)) 0 1)
    unfold fb_M_row_50
    have h3 : (adv w q1).1 67 = 0 := by unfold adv; rw [upI_ne (by decide)]; exact h67
    rw [show decide ((1 : Int32) = 0) = false from rfl, br_fq, decide_eq_true h3, br_tq, i_suc]
    exact h _ M SMS_rf rfl
theorem rowR_max {M : Nat} (hw : WP w K T q1) (k26 : K q1 = 26) (hk8 : k = 8) : PK (fun w2 (_ : Int32) => FLW w2) (rowR N (rc_M_behind N d) v1 v2 v3 M k w) := by
  subst hk8
  unfold rowR
  rw [show decide (I ((8 : Nat) : Int) = 8) = true from rfl, br_tq, isS_e (k := 26) (s := 6) hw (by decide) rfl, if_pos k26, bnd_s, show decide ((1 : Int32) = 0) = false from rfl, br_fq]
  exact pk_bnd (fun v r z => r92_f (wrong_s (u0 := v) (by decide) v r z))
theorem row_fin {kd : Nat} {φ r7 c9 : Int32} (c : CTZ m0 w0 K T nm Nk) (hn2 : n ≤ 2 * p) (hp : p < q1) (hl : q1 < T) (hk3 : K q1 ≠ 3) (h : STQ m0 w0 K T Nk gd m w p n sc 2 m2 w2 q1 n2 sc2 X W Rf Zf CL) (s3 : SMS (adv w2 q1) w3) (h69 : w3.1 69 = (adv w2 q1).1 69) (hkd : kd < 23 ∧ kd ≠ 1) (hKp : K p ≠ 1)
    (hE : ∀ mf, nod mf (n2 + 1) = (I (kd : Nat), I (p : Nat), φ, r7, c9) → KPO n2 m2 mf → Kcc m2 mf → EXN N K nm gd mf n (n2 + 1) (n2 + 1) p (q1 + 1) sc sc2 X W Rf Zf (BCo N CL) ∧ PTX N w0 K T nm Nk mf n (n2 + 1) (n2 + 1) p (q1 + 1) o NC X) : PK (fun m4 z => EXZ N m0 w0 K T nm Nk p n gd sc o NC m w m4 (.inl z) w3 v4) (hm_Tr_add N (advc m2 q1) (I (kd : Nat)) (I (p : Nat)) φ r7 c9) := by
  have s1 := STQ_s (STQ_ad h hl hk3) s3 h69
  have t4 := c.1.1.1
  have hb := h.2.1
  rw [add_e s1.2.1.2.1 (by omega)]
  refine pk_some ?_
  have s2 := STQ_add (s := 3) (a := I (kd : Nat)) (b := I (p : Nat)) (c := φ) (d := r7) (f := c9) s1
  have nd := adN_nod (m := advc m2 q1) (n := n2) (a := I (kd : Nat)) (b := I (p : Nat)) (c := φ) (d := r7) (f := c9)
  obtain ⟨e1, e2⟩ := hE _ nd.1 (fun j hj => adN_o j hj) ⟨fun k hk => by rw [adN_i (by omega)]; unfold advc; exact upI_ne (by omega), fun k hk => by rw [adN_r (by omega)]; rfl⟩
  exact ⟨q1 + 1, n2 + 1, n2 + 1, sc2, X, W, Rf, Zf, CL, rfl, ⟨by omega, Nat.le_refl _⟩, by omega, STQ_s2 s2 (by omega), nd.2, e1, e2, kd, nod_16 nd.1, hkd.1, fun z => absurd z hkd.2, fun _ z => absurd z hKp, p, by omega, nod_17 nd.1⟩
theorem tup_ex (c : CTZ m0 w0 K T nm Nk) (c45 : ∀ p, p ≤ T → K p ≠ 45) (hE : HE N m0 w0 K T nm Nk d) (h : RLP m0 w0 T p m w) (hn : m.1 306 = I (n : Nat)) (hn2 : n ≤ 2 * p) (hR : RNs w sc) (nd : ND w) (h70 : w.1 70 = I ((o + 1 : Nat) : Int)) (ho : o + 1 ≤ 25) (hg : decide (w.1 73 = 0) = !gd) (hk : K p = 22) : PP (EXZ N m0 w0 K T nm Nk p n gd sc o NC m w) (hm_Pa_tuple N (hrc_Pa_matched N D) m 0) (fm_M_row N (rc_M_behind N d) w (I (p : Nat))) := by
  have hc := RLP_c c h
  have hw := RLP_w c h
  have t4 := c.1.1.1
  have hl : p < T := TWK_lt c h.2.2.2.2.1 (by omega) (by omega)
  have h0 := h.2.2.2.2.2.2
  have st : STQ m0 w0 K T Nk gd m w p n sc 2 (advc m p) (adv w p) (p + 1) n sc 0 (fun _ => 32) false false (fun _ => False) := STQ_ad (STQ_0 (Nk := Nk) (K := K) (W := fun _ => 32) (gd := gd) h hn hR nd) hl (by omega)
  have rl := st.1
  have hc1 := RLP_c c rl
  have hw1 := RLP_w c rl
  have k46 := hc1.1.1.k46 hc1.2.2
  have h1 := rl.2.2.2.2.2.2
  have gp : ∀ j, p ≤ j → j < p + 1 → K j ≠ 3 := fun j h1 h2 => by rw [show j = p by omega]; omega
  unfold hm_Pa_tuple hb_Pa_tuple_0 fm_M_row fb_M_row_0 fb_M_row_15
  rw [isS_e (k := 22) (s := 2) hw (by decide) rfl, if_pos hk, bnd_s, show decide ((1 : Int32) = 0) = false from rfl, br_fq, hc.2.1, hw.2.1, i_suc]
  refine l_lt (r_lt ?_)
  show PP _ (bTm ((hrc_Pa_matched N D).2.2.2.2.2.2.2.2.2.2.2.2.2.2.2.2.2.2.2 (advc m p) 0 8 23) _) (br (decide ((adv w p).1 67 = 0)) (bnd (fm_M_isSign N (adv w p) 3) _) _)
  rw [decide_eq_true h1, br_tq, isS_e (k := 23) (s := 3) hw1 (by decide) rfl, bnd_s]
  cases D with
  | zero => exact pp_nl
  | succ D =>
    show PP _ (bTm (hm_Pa_rowUpTo N (hrc_Pa_matched N D) (advc m p) 0 8 23) _) _
    unfold hm_Pa_rowUpTo hb_Pa_rowUpTo_0 hb_Pa_rowUpTo_18
    rw [look_e hc1 (c45 _ hl), bTm_l, I_dn (a := K (p + 1)) (b := 23) (s := 23) (by omega) (by decide) rfl]
    have fin : ∀ (m2 w2 : MS) (q1 n2 : Nat) (sc2 : SCT) (X : Nat) (W : Nat → Nat) (Rf Zf : Bool) (CL : Int32 × Int32 × Int32 → Prop) (l : List Nat) (G : MS → Int32 → Int32 → Int32 → Int32 → Int32 → Int32 → Option (MS × Int32)) (v4 v5 : Int32), STQ m0 w0 K T Nk gd m w p n sc 2 m2 w2 q1 n2 sc2 X W Rf Zf CL → p + 1 ≤ q1 → ERW N K nm gd m2 n n2 W l (p + 1) q1 sc sc2 X Rf Zf (BCo N CL) → ((l = [] ∧ q1 = p + 1 ∧ X = 0) ∨ (PXR N w0 K T nm Nk m2 n n2 (o + 1) l (p + 1) q1 X ∧ l.length ≤ 8 ∧ K (p + 1) ≠ 23)) → PP (EXZ N m0 w0 K T nm Nk p n gd sc o NC m w) (bTm (hm_Pa_need N m2 23) (fun u1 r1 => bnd (hm_Tr_length N u1 (I ((l.headD 0 : Nat) : Int))) (fun u7 r7 => bnd (hm_Tr_add N u7 6 (I (p : Nat)) (I ((l.headD 0 : Nat) : Int)) r7 0) (fun u9 r9 => some (u9, .inl r9))))) (fb_M_row_125 N (rc_M_behind N d) G w2 (I (p : Nat)) 1 3 v4 v5) := fun m2 w2 q1 n2 sc2 X W Rf Zf CL l G v4 v5 s2 hq1 he hx => by
      have hc2 := RLP_c c s2.1
      have hw2 := RLP_w c s2.1
      have h2 := s2.1.2.2.2.2.2.2
      have nb := s2.2.1
      by_cases k23 : K q1 = 23
      · have hl2 : q1 < T := TWK_lt c s2.1.2.2.2.2.1 (by omega) (by omega)
        rw [need_e (s := 23) hc2 k23 (by decide) rfl, bTm_l]
        refine l_bnd (pk_mo len_s (fun u7 r7 e7 => ?_))
        subst e7
        refine l_bnd ?_
        intro m4 z4 e4
        refine pp_l (pk_mo (r125_p (N := N) (d := d) (G := G) (kc := 23) hw2 h2 (by decide) rfl k23) (fun w3 r3 s3 => ?_))
        refine row_fin (kd := 6) c hn2 (by omega) hl2 (by omega) s2 s3.1 s3.2 (by decide) (by omega) (fun mf hx2 ko kc => ?_) m4 z4 e4
        exact ⟨exn_tup (l := l) (q := p + 1) (q2 := q1) hx2 (by omega) (Nat.le_refl _) (by omega) ⟨by omega, by omega, by omega⟩ gp (fun j h1 h2 => by rw [show j = q1 by omega]; omega) he ko kc (by omega), PTX_tup (l := l) (q := q1) hx2 (by omega) (Nat.le_refl _) (by omega) hx ko kc (by omega) hk k23 hl2 (by omega) (by omega)⟩
      · refine pp_rf (RFS_T (need_x (s := 23) hc2 k23 (by decide) rfl)) (fun mm => ?_)
        unfold fb_M_row_125 fb_M_row_140
        refine pk_bnd (pk_mo (ndS_0 (N := N) (s := 3) hw2 h2 (by decide) rfl k23) (fun v r2 z => ?_))
        refine Kf_pk (u0 := v) ?_
        have z : Kfc v v := z
        repeat' (first | with_reducible assumption | with_reducible refine Kf_br ?_ ?_ | with_reducible refine Kf_bnd ?_ (fun _ _ _ => ?_) | with_reducible refine Kf_ck ?_ | with_reducible refine Kf_ltm ?_ (fun _ _ => ?_) | with_reducible refine Kf_some ?_ | with_reducible refine Kf_bo (fun _ => ?_) | with_reducible exact yf_fm_M_node (by assumption) | with_reducible exact yf_fm_M_pattern (by assumption) | with_reducible exact yf_fm_M_wrong (by assumption) | with_reducible exact yf_fm_M_rule (by assumption) | with_reducible exact yf_fm_M_isSign (by assumption) | with_reducible exact yf_fm_M_isWord (by assumption) | with_reducible exact yf_fm_M_takeSign (by assumption) | with_reducible exact yf_fm_M_takeWord (by assumption) | with_reducible exact yf_fm_M_needSign (by assumption) | with_reducible exact yf_fm_M_needWord (by assumption) | with_reducible exact yf_fm_M_opens (by assumption) | with_reducible exact yf_fm_M_boundIn (by assumption) | with_reducible exact yf_fr_M_found (by assumption) | with_reducible exact yf_fm_M_bind (by assumption) | with_reducible exact yf_fm_M_isUnderscore (by assumption) | with_reducible exact yf_fm_M_unbind (by assumption) | with_reducible exact yf_fm_M_term (by assumption) | with_reducible exact yf_fm_M_namePattern (by assumption) | with_reducible exact yf_fr_M_patternAt (by assumption) | with_reducible exact yf_fm_M_beginsUnit (by assumption) | with_reducible exact yf_fm_M_save (by assumption) | with_reducible exact yf_fm_M_addRoot (by assumption) | with_reducible exact yf_fm_M_level (by assumption) | with_reducible exact yf_fm_M_reduce (by assumption) | with_reducible exact yf_fm_M_takeBack (by assumption) | with_reducible exact yf_fm_M_forgetSaved (by assumption) | with_reducible exact yf_fr_M_last (by assumption) | with_reducible exact yf_fr_M_clause (by assumption) | with_reducible exact yf_fm_M_predefinedOf (by assumption) | with_reducible exact yf_fm_M_function0 (by assumption) | with_reducible exact yf_fm_M_program (by assumption) | with_reducible exact hF0 _ (by assumption) | with_reducible exact hF1 _ _ (by assumption) | with_reducible exact hF2 _ _ _ (by assumption) | with_reducible exact hF3 _ _ _ (by assumption) | with_reducible exact hF4 _ (by assumption) | with_reducible exact hF5 _ _ (by assumption) | with_reducible exact hF6 _ _ (by assumption) | with_reducible exact hF7 _ _ (by assumption) | with_reducible exact hF8 _ _ (by assumption) | with_reducible exact hF9 _ (by assumption) | with_reducible exact hF10 _ (by assumption) | with_reducible exact hF11 _ (by assumption) | with_reducible exact hF12 _ (by assumption) | with_reducible exact hF13 _ (by assumption) | with_reducible exact hF14 _ (by assumption) | with_reducible exact hF15 _ (by assumption) | with_reducible exact hF16 _ _ (by assumption) | with_reducible refine Kf_ltv (fun _ => ?_) | with_reducible refine Kf_I ?_ (by decide) | with_reducible refine Kf_A ?_ | with_reducible refine Kf_J ?_ | with_reducible refine Kf_L ?_)
    by_cases k23 : K (p + 1) = 23
    · rw [decide_eq_true k23, br_tq, if_pos k23, show decide ((1 : Int32) = 0) = false from rfl, br_fq, bTm_as]
      exact fin (advc m p) (adv w p) (p + 1) n sc 0 (fun _ => 32) false false (fun _ => False) [] _ _ _ st (Nat.le_refl _) ⟨rfl, rfl, rfl, rfl, rfl, fun _ => BCo_no⟩ (Or.inl ⟨rfl, rfl, rfl⟩)
    · rw [decide_eq_false k23, br_fq, if_neg k23, show decide ((0 : Int32) = 0) = true from rfl, br_tq, bTm_as]
      cases D with
      | zero => exact pp_nl
      | succ D =>
        show PP _ (bTm (hm_Pa_row N (hrc_Pa_matched N D) (advc m p) 0 8) _) (gg_M_row N (rc_M_behind N d) N (adv w p) (I (p : Nat)) 1 3 0 0 1)
        have e7 : ∀ k, k ≠ 69 → (adv w p).1 k = w.1 k := fun k hk => by unfold adv; exact upI_ne hk
        have go : ∀ M, PP (EXZ N m0 w0 K T nm Nk p n gd sc o NC m w) (bTm (hm_Pa_row N (hrc_Pa_matched N D) (advc m p) 0 (I ((8 : Nat) : Int))) (fun u3 r3 => bTm (bTm (hm_Pa_need N u3 23) (fun u1 r1 => some (u1, .inl r3))) (fun u4 r4 => bnd (hm_Tr_length N u4 r4) (fun u7 r7 => bnd (hm_Tr_add N u7 6 (I (p : Nat)) r4 r7 0) (fun u9 r9 => some (u9, .inl r9)))))) (bnd ((rc_M_behind N d).2.2.2.2.2.2.2.2.2.2.2.2.2.1 (adv w p)) (fun u _ => rowR N (rc_M_behind N d) (I (p : Nat)) 1 3 M 1 u)) := fun M => by
          refine erow_st (SC := hrc_Pa_matched N D) (RA := fun M k w => rowR N (rc_M_behind N d) (I (p : Nat)) 1 3 M k w) (mx := 8) (gd := gd) (o := o + 1) (sc := sc) (p0 := p + 1) (n0 := n) (by decide) (by decide) c c45 (by omega) rl st.2.1.2.1 (STQ_rn st) (STQ_nd st) (by rw [e7 70 (by decide)]; exact h70) ho (by rw [e7 73 (by decide)]; exact hg) (hE D) ?_ ?_ ?_ ?_ ?_ ?_ (Or.inl (by decide))
          · intro M m2 w2 q1 k l hI k26 hlk hk8
            obtain ⟨n2, sc2, X, W, Rf, Zf, CL, b0, b1, b2, b3, b4, b5⟩ := hI
            have s2 := STQ_s2 (s2 := 2) (STQ_tr st b1) (by omega)
            rw [show max 0 X = X by omega, Bool.false_or, Bool.false_or] at s2
            have s2 := STQ_cl (CM := CL) (fun x => ⟨fun z => z.elim False.elim id, Or.inr⟩) s2
            have he := ERW_w (W2 := mrg (p + 1) (fun _ => 32) W) (fun j h _ => mrg_r h) b2
            refine rowR_no (RLP_w c b1.1) b1.1.2.2.2.2.2.2 k26 (fun M2 => ?_)
            unfold fb_M_row_103
            rw [show decide ((1 : Int32) = 0) = false from rfl, br_fq]
            show PP _ (bTm (bTm (hm_Pa_need N m2 23) (fun u1 r1 => some (u1, .inl (I ((l.headD 0 : Nat) : Int))))) _) _
            rw [bTm_as]
            exact fin m2 w2 q1 n2 sc2 X _ Rf Zf CL l _ _ _ s2 (by omega) he (Or.inr ⟨b5, by omega, k23⟩)
          · exact fun M k q1 w2 a hw2 h2 k26 hk1 hk8 ha => rowR_yes hw2 h2 k26 hk8 ha
          · exact fun M k q1 w2 _ hw2 h2 k26 hk8 => rowR_max hw2 k26 hk8
          · exact fun M k w z => rowR_f z
          · exact fun m p φ _ cp k26 => RFS_T (RFS_T (need_x (k := 23) (s := 23) cp (by omega) (by decide) rfl))
          · exact fun _ _ _ _ z => z
        have key : ∀ M, PP (EXZ N m0 w0 K T nm Nk p n gd sc o NC m w) (bTm (hm_Pa_row N (hrc_Pa_matched N D) (advc m p) 0 (I ((8 : Nat) : Int))) (fun u3 r3 => bTm (bTm (hm_Pa_need N u3 23) (fun u1 r1 => some (u1, .inl r3))) (fun u4 r4 => bnd (hm_Tr_length N u4 r4) (fun u7 r7 => bnd (hm_Tr_add N u7 6 (I (p : Nat)) r4 r7 0) (fun u9 r9 => some (u9, .inl r9)))))) (gg_M_row N (rc_M_behind N d) M (adv w p) (I (p : Nat)) 1 3 0 0 1) := fun M => by
          cases M with
          | zero => exact pp_nr
          | succ M =>
            show PP _ _ (fb_M_row_50 N (rc_M_behind N d) (gg_M_row N (rc_M_behind N d) M) (adv w p) (I (p : Nat)) 1 3 0 0 1)
            unfold fb_M_row_50
            rw [show decide ((1 : Int32) = 0) = false from rfl, br_fq, decide_eq_true h1, br_tq]
            exact go M
        exact key N
end
