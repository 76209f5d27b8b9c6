set_option maxRecDepth 100000
def wkF (N : Nat) (S : SG_M_behind) (M : Nat) (v1 : Int32) (lv : Nat) (u12 : MS) (r12 : Int32) : Option (MS × Int32) := if lv = 0 then some (u12, r12) else br (decide (I (lv : Nat) = 3)) (br (decide ((u12.1 83) ≤ v1)) (fb_M_worked_189 N S (gg_M_worked N S M) u12 v1 r12 1 (I (lv : Nat))) (ck (inb ((u12.1 83) - 1) (ln 79)) (br (decide ((u12.2.2.1 79 ((u12.1 83) - 1).toNatClampNeg) = 3)) (bnd (fm_M_wrong N u12 2) (fun u13 _ => fb_M_worked_189 N S (gg_M_worked N S M) u13 v1 r12 1 (I (lv : Nat)))) (fb_M_worked_189 N S (gg_M_worked N S M) u12 v1 r12 1 (I (lv : Nat)))))) (fb_M_worked_189 N S (gg_M_worked N S M) u12 v1 r12 1 (I (lv : Nat)))
section
variable {m0 w0 m w v u mB wB m2 w2 m3 w3 mi w' w1 mX : MS} {K nm Nk W W2 : Nat → Nat} {T p n N q X Y n2 n' p0 n0 n3 p2 ν μ κ o s L d D k q1 q2 lo li ni t0 b c0 b0 tt e0 cur lv len M : Nat} {sc sc1 sc2 sc3 t t2 : SCT} {e e2 : List Nat × List Nat × Nat} {gd Rf Zf Rg Zg : Bool} {l l' : List Nat} {σ : List (Nat × Nat)} {r v1 v2 v3 v4 v5 x y am om am2 om2 : Int32} {CL CM : Int32 × Int32 × Int32 → Prop} {NC : Nat → Prop} {B1 B2 BC : MS → Prop}
theorem w189_f (h : FLW w) : PK (fun w2 (_ : Int32) => FLW w2) (fb_M_worked_189 N (rc_M_behind N d) (gg_M_worked N (rc_M_behind N d) M) w v1 v2 v3 v4) := by
  refine Kf_pk (u0 := w) ?_
  have h : Kfc w w := h
  obtain ⟨hF0, hF1, hF2, hF3, hF4, hF5, hF6, hF7, hF8, hF9, hF10, hF11, hF12, hF13, hF14, hF15, hF16⟩ := yf_rc_M_behind (u0 := w) (N := N) d
  repeat' (first | with_reducible assumption | with_reducible refine Kf_br ?_ ?_ | with_reducible refine Kf_bnd ?_ (fun _ _ _ => ?_) | with_reducible refine Kf_ck ?_ | with_reducible refine Kf_ltm ?_ (fun _ _ => ?_) | with_reducible refine Kf_some ?_ | with_reducible refine Kf_bo (fun _ => ?_) | with_reducible exact yf_fm_M_node (by assumption) | with_reducible exact yf_fm_M_pattern (by assumption) | with_reducible exact yf_fm_M_wrong (by assumption) | with_reducible exact yf_fm_M_rule (by assumption) | with_reducible exact yf_fm_M_isSign (by assumption) | with_reducible exact yf_fm_M_isWord (by assumption) | with_reducible exact yf_fm_M_takeSign (by assumption) | with_reducible exact yf_fm_M_takeWord (by assumption) | with_reducible exact yf_fm_M_needSign (by assumption) | with_reducible exact yf_fm_M_needWord (by assumption) | with_reducible exact yf_fm_M_opens (by assumption) | with_reducible exact yf_fm_M_boundIn (by assumption) | with_reducible exact yf_fr_M_found (by assumption) | with_reducible exact yf_fm_M_bind (by assumption) | with_reducible exact yf_fm_M_isUnderscore (by assumption) | with_reducible exact yf_fm_M_unbind (by assumption) | with_reducible exact yf_fm_M_term (by assumption) | with_reducible exact yf_fm_M_namePattern (by assumption) | with_reducible exact yf_fr_M_patternAt (by assumption) | with_reducible exact yf_fm_M_beginsUnit (by assumption) | with_reducible exact yf_fm_M_save (by assumption) | with_reducible exact yf_fm_M_addRoot (by assumption) | with_reducible exact yf_fm_M_level (by assumption) | with_reducible exact yf_fm_M_reduce (by assumption) | with_reducible exact yf_fm_M_takeBack (by assumption) | with_reducible exact yf_fm_M_forgetSaved (by assumption) | with_reducible exact yf_fr_M_last (by assumption) | with_reducible exact yf_fr_M_clause (by assumption) | with_reducible exact yf_fm_M_predefinedOf (by assumption) | with_reducible exact yf_fm_M_function0 (by assumption) | with_reducible exact yf_fm_M_program (by assumption) | with_reducible exact hF0 _ (by assumption) | with_reducible exact hF1 _ _ (by assumption) | with_reducible exact hF2 _ _ _ (by assumption) | with_reducible exact hF3 _ _ _ (by assumption) | with_reducible exact hF4 _ (by assumption) | with_reducible exact hF5 _ _ (by assumption) | with_reducible exact hF6 _ _ (by assumption) | with_reducible exact hF7 _ _ (by assumption) | with_reducible exact hF8 _ _ (by assumption) | with_reducible exact hF9 _ (by assumption) | with_reducible exact hF10 _ (by assumption) | with_reducible exact hF11 _ (by assumption) | with_reducible exact hF12 _ (by assumption) | with_reducible exact hF13 _ (by assumption) | with_reducible exact hF14 _ (by assumption) | with_reducible exact hF15 _ (by assumption) | with_reducible exact hF16 _ _ (by assumption) | with_reducible exact yf_fb_M_worked_334 (by assumption) hF0 hF1 hF2 hF3 hF4 hF5 hF6 hF7 hF8 hF9 hF10 hF11 hF12 hF13 hF14 hF15 hF16 (yf_gg_M_worked hF0 hF1 hF2 hF3 hF4 hF5 hF6 hF7 hF8 hF9 hF10 hF11 hF12 hF13 hF14 hF15 hF16 _).1 (yf_gg_M_worked hF0 hF1 hF2 hF3 hF4 hF5 hF6 hF7 hF8 hF9 hF10 hF11 hF12 hF13 hF14 hF15 hF16 _).2 | with_reducible exact yf_fb_M_worked_331 (by assumption) hF0 hF1 hF2 hF3 hF4 hF5 hF6 hF7 hF8 hF9 hF10 hF11 hF12 hF13 hF14 hF15 hF16 (yf_gg_M_worked hF0 hF1 hF2 hF3 hF4 hF5 hF6 hF7 hF8 hF9 hF10 hF11 hF12 hF13 hF14 hF15 hF16 _).1 (yf_gg_M_worked hF0 hF1 hF2 hF3 hF4 hF5 hF6 hF7 hF8 hF9 hF10 hF11 hF12 hF13 hF14 hF15 hF16 _).2 | with_reducible exact yf_fb_M_worked_292 (by assumption) hF0 hF1 hF2 hF3 hF4 hF5 hF6 hF7 hF8 hF9 hF10 hF11 hF12 hF13 hF14 hF15 hF16 (yf_gg_M_worked hF0 hF1 hF2 hF3 hF4 hF5 hF6 hF7 hF8 hF9 hF10 hF11 hF12 hF13 hF14 hF15 hF16 _).1 (yf_gg_M_worked hF0 hF1 hF2 hF3 hF4 hF5 hF6 hF7 hF8 hF9 hF10 hF11 hF12 hF13 hF14 hF15 hF16 _).2 | with_reducible exact yf_fb_M_worked_269 (by assumption) hF0 hF1 hF2 hF3 hF4 hF5 hF6 hF7 hF8 hF9 hF10 hF11 hF12 hF13 hF14 hF15 hF16 (yf_gg_M_worked hF0 hF1 hF2 hF3 hF4 hF5 hF6 hF7 hF8 hF9 hF10 hF11 hF12 hF13 hF14 hF15 hF16 _).1 (yf_gg_M_worked hF0 hF1 hF2 hF3 hF4 hF5 hF6 hF7 hF8 hF9 hF10 hF11 hF12 hF13 hF14 hF15 hF16 _).2 | with_reducible exact yf_fb_M_worked_243 (by assumption) hF0 hF1 hF2 hF3 hF4 hF5 hF6 hF7 hF8 hF9 hF10 hF11 hF12 hF13 hF14 hF15 hF16 (yf_gg_M_worked hF0 hF1 hF2 hF3 hF4 hF5 hF6 hF7 hF8 hF9 hF10 hF11 hF12 hF13 hF14 hF15 hF16 _).1 (yf_gg_M_worked hF0 hF1 hF2 hF3 hF4 hF5 hF6 hF7 hF8 hF9 hF10 hF11 hF12 hF13 hF14 hF15 hF16 _).2 | with_reducible exact yf_fb_M_worked_189 (by assumption) hF0 hF1 hF2 hF3 hF4 hF5 hF6 hF7 hF8 hF9 hF10 hF11 hF12 hF13 hF14 hF15 hF16 (yf_gg_M_worked hF0 hF1 hF2 hF3 hF4 hF5 hF6 hF7 hF8 hF9 hF10 hF11 hF12 hF13 hF14 hF15 hF16 _).1 (yf_gg_M_worked hF0 hF1 hF2 hF3 hF4 hF5 hF6 hF7 hF8 hF9 hF10 hF11 hF12 hF13 hF14 hF15 hF16 _).2 | with_reducible exact yf_fb_M_worked_141 (by assumption) hF0 hF1 hF2 hF3 hF4 hF5 hF6 hF7 hF8 hF9 hF10 hF11 hF12 hF13 hF14 hF15 hF16 (yf_gg_M_worked hF0 hF1 hF2 hF3 hF4 hF5 hF6 hF7 hF8 hF9 hF10 hF11 hF12 hF13 hF14 hF15 hF16 _).1 (yf_gg_M_worked hF0 hF1 hF2 hF3 hF4 hF5 hF6 hF7 hF8 hF9 hF10 hF11 hF12 hF13 hF14 hF15 hF16 _).2 | with_reducible exact yf_fb_M_worked_129 (by assumption) hF0 hF1 hF2 hF3 hF4 hF5 hF6 hF7 hF8 hF9 hF10 hF11 hF12 hF13 hF14 hF15 hF16 (yf_gg_M_worked hF0 hF1 hF2 hF3 hF4 hF5 hF6 hF7 hF8 hF9 hF10 hF11 hF12 hF13 hF14 hF15 hF16 _).1 (yf_gg_M_worked hF0 hF1 hF2 hF3 hF4 hF5 hF6 hF7 hF8 hF9 hF10 hF11 hF12 hF13 hF14 hF15 hF16 _).2 | with_reducible exact yf_fb_M_worked_109 (by assumption) hF0 hF1 hF2 hF3 hF4 hF5 hF6 hF7 hF8 hF9 hF10 hF11 hF12 hF13 hF14 hF15 hF16 (yf_gg_M_worked hF0 hF1 hF2 hF3 hF4 hF5 hF6 hF7 hF8 hF9 hF10 hF11 hF12 hF13 hF14 hF15 hF16 _).1 (yf_gg_M_worked hF0 hF1 hF2 hF3 hF4 hF5 hF6 hF7 hF8 hF9 hF10 hF11 hF12 hF13 hF14 hF15 hF16 _).2 | with_reducible exact yf_fb_M_worked_102 (by assumption) hF0 hF1 hF2 hF3 hF4 hF5 hF6 hF7 hF8 hF9 hF10 hF11 hF12 hF13 hF14 hF15 hF16 (yf_gg_M_worked hF0 hF1 hF2 hF3 hF4 hF5 hF6 hF7 hF8 hF9 hF10 hF11 hF12 hF13 hF14 hF15 hF16 _).1 (yf_gg_M_worked hF0 hF1 hF2 hF3 hF4 hF5 hF6 hF7 hF8 hF9 hF10 hF11 hF12 hF13 hF14 hF15 hF16 _).2 | with_reducible exact yf_fb_M_worked_45 (by assumption) hF0 hF1 hF2 hF3 hF4 hF5 hF6 hF7 hF8 hF9 hF10 hF11 hF12 hF13 hF14 hF15 hF16 (yf_gg_M_worked hF0 hF1 hF2 hF3 hF4 hF5 hF6 hF7 hF8 hF9 hF10 hF11 hF12 hF13 hF14 hF15 hF16 _).1 (yf_gg_M_worked hF0 hF1 hF2 hF3 hF4 hF5 hF6 hF7 hF8 hF9 hF10 hF11 hF12 hF13 hF14 hF15 hF16 _).2 | with_reducible exact yf_fb_M_worked_20 (by assumption) hF0 hF1 hF2 hF3 hF4 hF5 hF6 hF7 hF8 hF9 hF10 hF11 hF12 hF13 hF14 hF15 hF16 (yf_gg_M_worked hF0 hF1 hF2 hF3 hF4 hF5 hF6 hF7 hF8 hF9 hF10 hF11 hF12 hF13 hF14 hF15 hF16 _).1 (yf_gg_M_worked hF0 hF1 hF2 hF3 hF4 hF5 hF6 hF7 hF8 hF9 hF10 hF11 hF12 hF13 hF14 hF15 hF16 _).2 | with_reducible exact yf_fb_M_worked_9 (by assumption) hF0 hF1 hF2 hF3 hF4 hF5 hF6 hF7 hF8 hF9 hF10 hF11 hF12 hF13 hF14 hF15 hF16 (yf_gg_M_worked hF0 hF1 hF2 hF3 hF4 hF5 hF6 hF7 hF8 hF9 hF10 hF11 hF12 hF13 hF14 hF15 hF16 _).1 (yf_gg_M_worked hF0 hF1 hF2 hF3 hF4 hF5 hF6 hF7 hF8 hF9 hF10 hF11 hF12 hF13 hF14 hF15 hF16 _).2 | with_reducible exact yf_fb_M_worked_0 (by assumption) hF0 hF1 hF2 hF3 hF4 hF5 hF6 hF7 hF8 hF9 hF10 hF11 hF12 hF13 hF14 hF15 hF16 (yf_gg_M_worked hF0 hF1 hF2 hF3 hF4 hF5 hF6 hF7 hF8 hF9 hF10 hF11 hF12 hF13 hF14 hF15 hF16 _).1 (yf_gg_M_worked hF0 hF1 hF2 hF3 hF4 hF5 hF6 hF7 hF8 hF9 hF10 hF11 hF12 hF13 hF14 hF15 hF16 _).2 | with_reducible exact (yf_gg_M_worked hF0 hF1 hF2 hF3 hF4 hF5 hF6 hF7 hF8 hF9 hF10 hF11 hF12 hF13 hF14 hF15 hF16 _).1 _ _ _ _ (by assumption) | with_reducible exact (yf_gg_M_worked hF0 hF1 hF2 hF3 hF4 hF5 hF6 hF7 hF8 hF9 hF10 hF11 hF12 hF13 hF14 hF15 hF16 _).2 _ _ (by assumption) | with_reducible exact (yf_gg_M_worked hF0 hF1 hF2 hF3 hF4 hF5 hF6 hF7 hF8 hF9 hF10 hF11 hF12 hF13 hF14 hF15 hF16 _).2 _ _ _ _ (by assumption) | with_reducible refine Kf_ltv (fun _ => ?_) | with_reducible refine Kf_I ?_ (by decide) | with_reducible refine Kf_A ?_ | with_reducible refine Kf_J ?_ | with_reducible refine Kf_L ?_)
theorem w331_f (h : FLW w) : PK (fun w2 (_ : Int32) => FLW w2) (fb_M_worked_331 N (rc_M_behind N d) (gg_M_worked N (rc_M_behind N d) M) w v1 v2 v3) := by
  refine Kf_pk (u0 := w) ?_
  have h : Kfc w w := h
  obtain ⟨hF0, hF1, hF2, hF3, hF4, hF5, hF6, hF7, hF8, hF9, hF10, hF11, hF12, hF13, hF14, hF15, hF16⟩ := yf_rc_M_behind (u0 := w) (N := N) d
  repeat' (first | with_reducible assumption | with_reducible refine Kf_br ?_ ?_ | with_reducible refine Kf_bnd ?_ (fun _ _ _ => ?_) | with_reducible refine Kf_ck ?_ | with_reducible refine Kf_ltm ?_ (fun _ _ => ?_) | with_reducible refine Kf_some ?_ | with_reducible refine Kf_bo (fun _ => ?_) | with_reducible exact yf_fm_M_node (by assumption) | with_reducible exact yf_fm_M_pattern (by assumption) | with_reducible exact yf_fm_M_wrong (by assumption) | with_reducible exact yf_fm_M_rule (by assumption) | with_reducible exact yf_fm_M_isSign (by assumption) | with_reducible exact yf_fm_M_isWord (by assumption) | with_reducible exact yf_fm_M_takeSign (by assumption) | with_reducible exact yf_fm_M_takeWord (by assumption) | with_reducible exact yf_fm_M_needSign (by assumption) | with_reducible exact yf_fm_M_needWord (by assumption) | with_reducible exact yf_fm_M_opens (by assumption) | with_reducible exact yf_fm_M_boundIn (by assumption) | with_reducible exact yf_fr_M_found (by assumption) | with_reducible exact yf_fm_M_bind (by assumption) | with_reducible exact yf_fm_M_isUnderscore (by assumption) | with_reducible exact yf_fm_M_unbind (by assumption) | with_reducible exact yf_fm_M_term (by assumption) | with_reducible exact yf_fm_M_namePattern (by assumption) | with_reducible exact yf_fr_M_patternAt (by assumption) | with_reducible exact yf_fm_M_beginsUnit (by assumption) | with_reducible exact yf_fm_M_save (by assumption) | with_reducible exact yf_fm_M_addRoot (by assumption) | with_reducible exact yf_fm_M_level (by assumption) | with_reducible exact yf_fm_M_reduce (by assumption) | with_reducible exact yf_fm_M_takeBack (by assumption) | with_reducible exact yf_fm_M_forgetSaved (by assumption) | with_reducible exact yf_fr_M_last (by assumption) | with_reducible exact yf_fr_M_clause (by assumption) | with_reducible exact yf_fm_M_predefinedOf (by assumption) | with_reducible exact yf_fm_M_function0 (by assumption) | with_reducible exact yf_fm_M_program (by assumption) | with_reducible exact hF0 _ (by assumption) | with_reducible exact hF1 _ _ (by assumption) | with_reducible exact hF2 _ _ _ (by assumption) | with_reducible exact hF3 _ _ _ (by assumption) | with_reducible exact hF4 _ (by assumption) | with_reducible exact hF5 _ _ (by assumption) | with_reducible exact hF6 _ _ (by assumption) | with_reducible exact hF7 _ _ (by assumption) | with_reducible exact hF8 _ _ (by assumption) | with_reducible exact hF9 _ (by assumption) | with_reducible exact hF10 _ (by assumption) | with_reducible exact hF11 _ (by assumption) | with_reducible exact hF12 _ (by assumption) | with_reducible exact hF13 _ (by assumption) | with_reducible exact hF14 _ (by assumption) | with_reducible exact hF15 _ (by assumption) | with_reducible exact hF16 _ _ (by assumption) | with_reducible exact yf_fb_M_worked_334 (by assumption) hF0 hF1 hF2 hF3 hF4 hF5 hF6 hF7 hF8 hF9 hF10 hF11 hF12 hF13 hF14 hF15 hF16 (yf_gg_M_worked hF0 hF1 hF2 hF3 hF4 hF5 hF6 hF7 hF8 hF9 hF10 hF11 hF12 hF13 hF14 hF15 hF16 _).1 (yf_gg_M_worked hF0 hF1 hF2 hF3 hF4 hF5 hF6 hF7 hF8 hF9 hF10 hF11 hF12 hF13 hF14 hF15 hF16 _).2 | with_reducible exact yf_fb_M_worked_331 (by assumption) hF0 hF1 hF2 hF3 hF4 hF5 hF6 hF7 hF8 hF9 hF10 hF11 hF12 hF13 hF14 hF15 hF16 (yf_gg_M_worked hF0 hF1 hF2 hF3 hF4 hF5 hF6 hF7 hF8 hF9 hF10 hF11 hF12 hF13 hF14 hF15 hF16 _).1 (yf_gg_M_worked hF0 hF1 hF2 hF3 hF4 hF5 hF6 hF7 hF8 hF9 hF10 hF11 hF12 hF13 hF14 hF15 hF16 _).2 | with_reducible exact yf_fb_M_worked_292 (by assumption) hF0 hF1 hF2 hF3 hF4 hF5 hF6 hF7 hF8 hF9 hF10 hF11 hF12 hF13 hF14 hF15 hF16 (yf_gg_M_worked hF0 hF1 hF2 hF3 hF4 hF5 hF6 hF7 hF8 hF9 hF10 hF11 hF12 hF13 hF14 hF15 hF16 _).1 (yf_gg_M_worked hF0 hF1 hF2 hF3 hF4 hF5 hF6 hF7 hF8 hF9 hF10 hF11 hF12 hF13 hF14 hF15 hF16 _).2 | with_reducible exact yf_fb_M_worked_269 (by assumption) hF0 hF1 hF2 hF3 hF4 hF5 hF6 hF7 hF8 hF9 hF10 hF11 hF12 hF13 hF14 hF15 hF16 (yf_gg_M_worked hF0 hF1 hF2 hF3 hF4 hF5 hF6 hF7 hF8 hF9 hF10 hF11 hF12 hF13 hF14 hF15 hF16 _).1 (yf_gg_M_worked hF0 hF1 hF2 hF3 hF4 hF5 hF6 hF7 hF8 hF9 hF10 hF11 hF12 hF13 hF14 hF15 hF16 _).2 | with_reducible exact yf_fb_M_worked_243 (by assumption) hF0 hF1 hF2 hF3 hF4 hF5 hF6 hF7 hF8 hF9 hF10 hF11 hF12 hF13 hF14 hF15 hF16 (yf_gg_M_worked hF0 hF1 hF2 hF3 hF4 hF5 hF6 hF7 hF8 hF9 hF10 hF11 hF12 hF13 hF14 hF15 hF16 _).1 (yf_gg_M_worked hF0 hF1 hF2 hF3 hF4 hF5 hF6 hF7 hF8 hF9 hF10 hF11 hF12 hF13 hF14 hF15 hF16 _).2 | with_reducible exact yf_fb_M_worked_189 (by assumption) hF0 hF1 hF2 hF3 hF4 hF5 hF6 hF7 hF8 hF9 hF10 hF11 hF12 hF13 hF14 hF15 hF16 (yf_gg_M_worked hF0 hF1 hF2 hF3 hF4 hF5 hF6 hF7 hF8 hF9 hF10 hF11 hF12 hF13 hF14 hF15 hF16 _).1 (yf_gg_M_worked hF0 hF1 hF2 hF3 hF4 hF5 hF6 hF7 hF8 hF9 hF10 hF11 hF12 hF13 hF14 hF15 hF16 _).2 | with_reducible exact yf_fb_M_worked_141 (by assumption) hF0 hF1 hF2 hF3 hF4 hF5 hF6 hF7 hF8 hF9 hF10 hF11 hF12 hF13 hF14 hF15 hF16 (yf_gg_M_worked hF0 hF1 hF2 hF3 hF4 hF5 hF6 hF7 hF8 hF9 hF10 hF11 hF12 hF13 hF14 hF15 hF16 _).1 (yf_gg_M_worked hF0 hF1 hF2 hF3 hF4 hF5 hF6 hF7 hF8 hF9 hF10 hF11 hF12 hF13 hF14 hF15 hF16 _).2 | with_reducible exact yf_fb_M_worked_129 (by assumption) hF0 hF1 hF2 hF3 hF4 hF5 hF6 hF7 hF8 hF9 hF10 hF11 hF12 hF13 hF14 hF15 hF16 (yf_gg_M_worked hF0 hF1 hF2 hF3 hF4 hF5 hF6 hF7 hF8 hF9 hF10 hF11 hF12 hF13 hF14 hF15 hF16 _).1 (yf_gg_M_worked hF0 hF1 hF2 hF3 hF4 hF5 hF6 hF7 hF8 hF9 hF10 hF11 hF12 hF13 hF14 hF15 hF16 _).2 | with_reducible exact yf_fb_M_worked_109 (by assumption) hF0 hF1 hF2 hF3 hF4 hF5 hF6 hF7 hF8 hF9 hF10 hF11 hF12 hF13 hF14 hF15 hF16 (yf_gg_M_worked hF0 hF1 hF2 hF3 hF4 hF5 hF6 hF7 hF8 hF9 hF10 hF11 hF12 hF13 hF14 hF15 hF16 _).1 (yf_gg_M_worked hF0 hF1 hF2 hF3 hF4 hF5 hF6 hF7 hF8 hF9 hF10 hF11 hF12 hF13 hF14 hF15 hF16 _).2 | with_reducible exact yf_fb_M_worked_102 (by assumption) hF0 hF1 hF2 hF3 hF4 hF5 hF6 hF7 hF8 hF9 hF10 hF11 hF12 hF13 hF14 hF15 hF16 (yf_gg_M_worked hF0 hF1 hF2 hF3 hF4 hF5 hF6 hF7 hF8 hF9 hF10 hF11 hF12 hF13 hF14 hF15 hF16 _).1 (yf_gg_M_worked hF0 hF1 hF2 hF3 hF4 hF5 hF6 hF7 hF8 hF9 hF10 hF11 hF12 hF13 hF14 hF15 hF16 _).2 | with_reducible exact yf_fb_M_worked_45 (by assumption) hF0 hF1 hF2 hF3 hF4 hF5 hF6 hF7 hF8 hF9 hF10 hF11 hF12 hF13 hF14 hF15 hF16 (yf_gg_M_worked hF0 hF1 hF2 hF3 hF4 hF5 hF6 hF7 hF8 hF9 hF10 hF11 hF12 hF13 hF14 hF15 hF16 _).1 (yf_gg_M_worked hF0 hF1 hF2 hF3 hF4 hF5 hF6 hF7 hF8 hF9 hF10 hF11 hF12 hF13 hF14 hF15 hF16 _).2 | with_reducible exact yf_fb_M_worked_20 (by assumption) hF0 hF1 hF2 hF3 hF4 hF5 hF6 hF7 hF8 hF9 hF10 hF11 hF12 hF13 hF14 hF15 hF16 (yf_gg_M_worked hF0 hF1 hF2 hF3 hF4 hF5 hF6 hF7 hF8 hF9 hF10 hF11 hF12 hF13 hF14 hF15 hF16 _).1 (yf_gg_M_worked hF0 hF1 hF2 hF3 hF4 hF5 hF6 hF7 hF8 hF9 hF10 hF11 hF12 hF13 hF14 hF15 hF16 _).2 | with_reducible exact yf_fb_M_worked_9 (by assumption) hF0 hF1 hF2 hF3 hF4 hF5 hF6 hF7 hF8 hF9 hF10 hF11 hF12 hF13 hF14 hF15 hF16 (yf_gg_M_worked hF0 hF1 hF2 hF3 hF4 hF5 hF6 hF7 hF8 hF9 hF10 hF11 hF12 hF13 hF14 hF15 hF16 _).1 (yf_gg_M_worked hF0 hF1 hF2 hF3 hF4 hF5 hF6 hF7 hF8 hF9 hF10 hF11 hF12 hF13 hF14 hF15 hF16 _).2 | with_reducible exact yf_fb_M_worked_0 (by assumption) hF0 hF1 hF2 hF3 hF4 hF5 hF6 hF7 hF8 hF9 hF10 hF11 hF12 hF13 hF14 hF15 hF16 (yf_gg_M_worked hF0 hF1 hF2 hF3 hF4 hF5 hF6 hF7 hF8 hF9 hF10 hF11 hF12 hF13 hF14 hF15 hF16 _).1 (yf_gg_M_worked hF0 hF1 hF2 hF3 hF4 hF5 hF6 hF7 hF8 hF9 hF10 hF11 hF12 hF13 hF14 hF15 hF16 _).2 | with_reducible exact (yf_gg_M_worked hF0 hF1 hF2 hF3 hF4 hF5 hF6 hF7 hF8 hF9 hF10 hF11 hF12 hF13 hF14 hF15 hF16 _).1 _ _ _ _ (by assumption) | with_reducible exact (yf_gg_M_worked hF0 hF1 hF2 hF3 hF4 hF5 hF6 hF7 hF8 hF9 hF10 hF11 hF12 hF13 hF14 hF15 hF16 _).2 _ _ (by assumption) | with_reducible exact (yf_gg_M_worked hF0 hF1 hF2 hF3 hF4 hF5 hF6 hF7 hF8 hF9 hF10 hF11 hF12 hF13 hF14 hF15 hF16 _).2 _ _ _ _ (by assumption) | with_reducible refine Kf_ltv (fun _ => ?_) | with_reducible refine Kf_I ?_ (by decide) | with_reducible refine Kf_A ?_ | with_reducible refine Kf_J ?_ | with_reducible refine Kf_L ?_)
theorem wkR_e {R : MS → Int32 ⊕ Nat → MS → Int32 → Prop} {a : Option (MS × (Int32 ⊕ Nat))} (hw : WP w K T q) (h67 : w.1 67 = 0) (h : ∀ M, PP R a (bnd (gg_M_reduce N N w v1 (I (rkK (K q) : Nat)) r 1) (wkF N (rc_M_behind N d) M v1 (rkK (K q))))) : PP R a (wkR N (rc_M_behind N d) M v1 w r) := by
  have k46 := hw.1.1.k46 hw.2.2
  have rk6 : rkK (K q) ≤ 6 := by
    have : ∀ k, k < 46 → rkK k ≤ 6 := by decide
    exact this _ k46
  unfold wkR fb_M_worked_129 fb_M_worked_141
  rw [decide_eq_true h67, br_tq, lvl_m hw, bnd_s, show (0 : Int32) = I ((0 : Nat) : Int) from rfl, decI (by omega) (by omega) (by omega) (by omega)]
  by_cases z : rkK (K q) = 0
  · rw [decide_eq_true (by omega), br_tq, show decide (I ((0 : Nat) : Int) = I ((0 : Nat) : Int)) = true from decide_eq_true rfl, br_tq]
    unfold fb_M_worked_331
    cases M with
    | zero => exact pp_nr
    | succ M =>
      show PP R a (fb_M_worked_9 N (rc_M_behind N d) (gg_M_worked N (rc_M_behind N d) M) w v1 r 0)
      unfold fb_M_worked_9 fb_M_worked_334
      rw [show decide ((0 : Int32) = 0) = true from rfl, br_tq, decide_eq_true h67, br_tq]
      have := h 0
      rw [z] at this
      exact this
  · rw [decide_eq_false (by omega), br_fq, show decide ((1 : Int32) = I ((0 : Nat) : Int)) = false from rfl, br_fq]
    have := h M
    unfold wkF at this
    rw [show (fun (u12 : MS) (r12 : Int32) => if rkK (K q) = 0 then some (u12, r12) else _) = (fun (u12 : MS) (r12 : Int32) => _) from funext (fun u => funext (fun r => if_neg z))] at this
    exact this
theorem ps_r {R : MS → Int32 ⊕ Nat → MS → Int32 → Prop} {a : Option (MS × (Int32 ⊕ Nat))} (hw : WP w K T q) (hq : q ≤ 4000) (h83 : w.1 83 = I ((b0 + len : Nat) : Int)) (hb3 : b0 + len ≤ 3000) (h1 : 1 ≤ rkK (K q)) (hR : RNs w (e2 :: t2)) (nd : ND w) (hg : decide (w.1 73 = 0) = !gd) (hG : b0 + len < 3000 → ∀ w1 w2, PSS K q b0 len e2.1.length w w1 → (((gd && decide (rkK (K q) = 4)) = false ∧ w2 = w1) ∨ ((gd && decide (rkK (K q) = 4)) = true ∧ w2.1 72 ≠ 0 ∧ (∀ k, k ≠ 71 → k ≠ 72 → w2.1 k = w1.1 k) ∧ w2.2.2.1 = w1.2.2.1)) → PP R a (fb_M_worked_292 N (rc_M_behind N d) (gg_M_worked N (rc_M_behind N d) M) w2 v1 r 1)) : PP R a (fb_M_worked_189 N (rc_M_behind N d) (gg_M_worked N (rc_M_behind N d) M) w v1 r 1 (I (rkK (K q) : Nat))) := by
  have k46 := hw.1.1.k46 hw.2.2
  have rk6 : rkK (K q) ≤ 6 := by
    have : ∀ k, k < 46 → rkK k ≤ 6 := by decide
    exact this _ k46
  have rk := rk_k k46 h1
  unfold fb_M_worked_189
  refine r_ck (fun z83 => ?_)
  have hb : b0 + len < 3000 := by
    rw [h83] at z83
    have := (I_inb (n := ln 79) (x := ((b0 + len : Nat) : Int)) (by omega) (by omega)).mp z83
    have l79 : ln 79 = 3000 := rfl
    omega
  refine r_lt (r_ck (fun _ => r_lt ?_))
  have i83 : (w.1 83).toNatClampNeg = b0 + len := by rw [h83]; exact tnI rfl (by omega)
  rw [i83, nar_byte (t := (rkK (K q) : Nat)) (by omega)]
  have e10 : ∀ g, ((upA w 79 g).1 83).toNatClampNeg = b0 + len := fun _ => i83
  have e69 : ∀ g, (upA w 79 g).1 69 = I (q : Nat) := fun _ => hw.2.1
  rw [e10, e69, nar_short (t := (q : Nat)) (by omega)]
  generalize hw11 : upA (upA w 79 (upd (w.2.2.1 79) (b0 + len) (I (rkK (K q) : Nat)))) 80 _ = w11
  have i11 : ∀ k, w11.1 k = w.1 k := fun k => by rw [← hw11]; rfl
  have r11 : ∀ k, k ≠ 79 → k ≠ 80 → w11.2.2.1 k = w.2.2.1 k := fun k k1 k2 => by rw [← hw11, upA_no k2, upA_no k1]
  have j11 : ∀ k j, j ≠ b0 + len → w11.2.2.1 k j = w.2.2.1 k j := fun k j hj => by
    rw [← hw11]
    by_cases z : k = 80
    · subst z; rw [upA_at, upd_no hj, upA_no (by decide)]
    · rw [upA_no z]
      by_cases z2 : k = 79
      · subst z2; rw [upA_at, upd_no hj]
      · rw [upA_no z2]
  have a11 : w11.2.2.1 79 (b0 + len) = I (rkK (K q) : Nat) ∧ w11.2.2.1 80 (b0 + len) = I (q : Nat) := by
    rw [← hw11, upA_no (by decide), upA_at, upA_at, upd_at, upd_at]
    exact ⟨rfl, rfl⟩
  clear hw11 e10 e69
  have g269 : ∀ w1, PSS K q b0 len e2.1.length w w1 → PP R a (fb_M_worked_269 N (rc_M_behind N d) (gg_M_worked N (rc_M_behind N d) M) w1 v1 r 1 (I (rkK (K q) : Nat))) := fun w1 hp => by
    unfold fb_M_worked_269
    have e73 : w1.1 73 = w.1 73 := hp.1 73 (by decide)
    rw [e73, I_dn (a := rkK (K q)) (b := 4) (s := 4) (by omega) (by decide) rfl, hg]
    cases hgd : gd with
    | false => exact hG hb w1 w1 hp (Or.inl ⟨by rw [hgd]; rfl, rfl⟩)
    | true =>
      show PP R a (br false _ _)
      rw [br_fq]
      by_cases z : rkK (K q) = 4
      · rw [decide_eq_true z, br_tq]
        exact r_bnd (pk_mo (rule_p (by decide)) (fun v _ y => hG hb w1 v hp (Or.inr ⟨by rw [hgd, decide_eq_true z]; rfl, y⟩)))
      · rw [decide_eq_false z, br_fq]
        exact hG hb w1 w1 hp (Or.inl ⟨by rw [decide_eq_false z, Bool.and_false], rfl⟩)
  rw [show (3 : Int32) = I ((3 : Nat) : Int) from rfl, decI (by omega) (by omega) (by omega) (by omega)]
  by_cases z3 : 3 ≤ rkK (K q)
  · rw [decide_eq_true (by omega), br_tq]
    refine g269 w11 ⟨fun k _ => i11 k, fun k hk h79 => r11 k (by omega) (by omega), fun k _ _ j hj => j11 k j hj, a11, fun z => by omega, fun a f1 f2 => ⟨a, ⟨by rw [i11]; exact f1, Nat.le_refl _, f2⟩, fun j _ => ?_, fun j j1 j2 => absurd j2 (by omega)⟩⟩
    rw [r11 23 (by decide) (by decide), r11 25 (by decide) (by decide), r11 26 (by decide) (by decide), r11 27 (by decide) (by decide)]
    exact ⟨rfl, fun _ => ⟨rfl, rfl, rfl⟩⟩
  · rw [decide_eq_false (by omega), br_fq]
    have g243 : ∀ t3 : Int32, (vp_nar .byte (t3.toInt8.toInt32) ≠ 12 ∧ vp_nar .byte (t3.toInt8.toInt32) ≠ 15) → PP R a (fb_M_worked_243 N (rc_M_behind N d) (gg_M_worked N (rc_M_behind N d) M) w11 v1 r 1 (I (rkK (K q) : Nat)) 81 (w11.1 83) t3) := fun t3 h3 => by
      unfold fb_M_worked_243
      refine r_bnd (pk_mo (node_p (w := w11)) (fun u7 r7 qn => ?_))
      obtain ⟨b', ⟨e1, e2', e3, e4⟩, e5, e6, e7, e8⟩ := qn
      refine r_ck (fun _ => r_ck (fun _ => r_lt (r_ck (fun _ => r_ck (fun _ => r_lt ?_)))))
      have i83' : (w11.1 83).toNatClampNeg = b0 + len := by rw [i11]; exact i83
      rw [i83']
      generalize hw8 : upA u7 81 (upd (u7.2.2.1 81) (b0 + len) r7) = w8
      have i8 : ∀ k, k ≠ 32 → w8.1 k = w.1 k := fun k hk => by rw [← hw8]; show u7.1 k = _; rw [e7 k hk]; exact i11 k
      have r8 : ∀ k, k ≠ 81 → w8.2.2.1 k = u7.2.2.1 k := fun k hk => by rw [← hw8]; exact upA_no hk
      have s81 : w8.2.2.1 81 = upd (u7.2.2.1 81) (b0 + len) r7 := by rw [← hw8]; exact upA_at
      have n8 : w8.1 32 = I ((b' + 1 : Nat) : Int) := by rw [← hw8]; exact e4
      clear hw8
      have i838 : (w8.1 83).toNatClampNeg = b0 + len := by rw [i8 83 (by decide)]; exact i83
      have i65 : (w8.1 65).toNatClampNeg = t2.length := by
        rw [i8 65 (by decide), hR.1]
        have : t2.length + 1 ≤ 27 := hR.2.1.2
        exact tnI (n := t2.length) rfl (by omega)
      have r60 : w8.2.2.1 60 t2.length = I (e2.1.length : Nat) := by
        rw [r8 60 (by decide), e8 60 (by omega), r11 60 (by decide) (by decide)]
        exact hR.2.2.1.1.1
      rw [i838, i65, r60]
      generalize hw9 : upA w8 82 (upd (w8.2.2.1 82) (b0 + len) (I (e2.1.length : Nat))) = w9
      have i9 : ∀ k, w9.1 k = w8.1 k := fun k => by rw [← hw9]; rfl
      have r9 : ∀ k, k ≠ 82 → w9.2.2.1 k = w8.2.2.1 k := fun k hk => by rw [← hw9]; exact upA_no hk
      have s82 : w9.2.2.1 82 = upd (w8.2.2.1 82) (b0 + len) (I (e2.1.length : Nat)) := by rw [← hw9]; exact upA_at
      clear hw9
      have k23 : w9.2.2.1 23 = u7.2.2.1 23 := by rw [r9 23 (by decide), r8 23 (by decide)]
      have rowx : ∀ k, k ≠ 81 → k ≠ 82 → ∀ j, j ≠ b' → w9.2.2.1 k j = w11.2.2.1 k j := fun k h1 h2 j hj => by rw [r9 k h2, r8 k h1]; exact e6 k j hj
      refine g269 w9 ⟨fun k hk => by rw [i9]; exact i8 k hk, fun k hk h79 => ?_, fun k k1 k2 j hj => ?_, ⟨?_, ?_⟩, fun _ => ⟨by rw [s82, upd_at], b', b' + 1, ?_, by rw [i9]; exact n8, by omega, by omega, ?_⟩, fun a' f1 f2 => ?_⟩
      · rw [r9 k (by omega), r8 k (by omega), e8 k (by unfold SMX at hk; omega)]
        exact r11 k (by omega) (by omega)
      · by_cases z2 : k = 82
        · subst z2; rw [s82, upd_no hj, r8 82 (by decide), e8 82 (by omega)]; exact j11 82 j hj
        · rw [r9 k z2]
          by_cases z1 : k = 81
          · subst z1; rw [s81, upd_no hj, e8 81 (by omega)]; exact j11 81 j hj
          · rw [r8 k z1, e8 k (by omega)]; exact j11 k j hj
      · rw [r9 79 (by decide), r8 79 (by decide), e8 79 (by omega)]; exact a11.1
      · rw [r9 80 (by decide), r8 80 (by decide), e8 80 (by omega)]; exact a11.2
      · rw [r9 81 (by decide), s81, upd_at]; exact e3
      · rw [k23, e5]; exact h3
      · have eb : a' = b' := by
          have := (f1.symm.trans ((i11 32).symm.trans e1))
          have := (I_eq (x := (a' : Nat)) (y := (b' : Nat)) (by omega) (by omega) (by omega) (by omega)).mp this
          omega
        subst eb
        refine ⟨a' + 1, ⟨by rw [i9]; exact n8, by omega, by omega⟩, fun j hj => ?_, fun j j1 j2 => ?_⟩
        · have ne : j ≠ a' := by omega
          rw [rowx 23 (by decide) (by decide) j ne, rowx 25 (by decide) (by decide) j ne, rowx 26 (by decide) (by decide) j ne, rowx 27 (by decide) (by decide) j ne, r11 23 (by decide) (by decide), r11 25 (by decide) (by decide), r11 26 (by decide) (by decide), r11 27 (by decide) (by decide)]
          exact ⟨rfl, fun _ => ⟨rfl, rfl, rfl⟩⟩
        · have : j = a' := by omega
          subst this
          rw [k23, e5]; exact h3
    exact r_br (fun _ => g243 10 (by decide)) (fun _ => g243 9 (by decide))
theorem un_rf (h : CP m K T p) (c45 : K p ≠ 45) (hb : bUK (K p) = false) : ∀ D, (hrc_Pa_matched N D).2.2.2.2.2.2.2.2.2.2.2.2.1 m = none ∨ RFS ((hrc_Pa_matched N D).2.2.2.2.2.2.2.2.2.2.2.2.1 m)
  | 0 => Or.inl rfl
  | D + 1 => by
    have k46 := h.1.1.k46 h.2.2
    have k34 : K p ≠ 34 := fun z => by rw [z] at hb; cases hb
    have k14 : K p ≠ 14 := fun z => by rw [z] at hb; cases hb
    show hb_Pa_unit_0 N (hrc_Pa_matched N D) () m = none ∨ RFS (hb_Pa_unit_0 N (hrc_Pa_matched N D) () m)
    unfold hb_Pa_unit_0
    rw [look_e h c45, bTm_l, I_dn (a := K p) (b := 34) (s := 34) (by omega) (by decide) rfl, I_dn (a := K p) (b := 14) (s := 14) (by omega) (by decide) rfl, decide_eq_false k34, br_fq, decide_eq_false k14, br_fq]
    cases D with
    | zero => exact Or.inl rfl
    | succ D =>
      refine Or.inr (RFS_T ?_)
      show RFS (hm_Pa_primary N (hrc_Pa_matched N D) m)
      have kk : K p = 0 ∨ K p = 5 ∨ K p = 6 ∨ K p = 9 ∨ K p = 10 ∨ K p = 11 ∨ K p = 15 ∨ K p = 16 ∨ K p = 18 ∨ K p = 19 ∨ K p = 21 ∨ K p = 23 ∨ 25 ≤ K p := by
        have : ∀ k, k < 46 → bUK k = false → k = 0 ∨ k = 5 ∨ k = 6 ∨ k = 9 ∨ k = 10 ∨ k = 11 ∨ k = 15 ∨ k = 16 ∨ k = 18 ∨ k = 19 ∨ k = 21 ∨ k = 23 ∨ 25 ≤ k := by decide
        exact this _ k46 hb
      by_cases z : K p = 0 ∨ K p = 21 ∨ K p = 23 ∨ 25 ≤ K p
      · exact pr_none h c45 z
      · unfold hm_Pa_primary hb_Pa_primary_0
        rw [look_e h c45, bTm_l]
        have k2 : K p = 5 ∨ K p = 6 ∨ K p = 9 ∨ K p = 10 ∨ K p = 11 ∨ K p = 15 ∨ K p = 16 ∨ K p = 18 ∨ K p = 19 := by omega
        rcases k2 with hk | hk | hk | hk | hk | hk | hk | hk | hk
        · rw [hk, show decide (I ((5 : Nat) : Int) = 1) = false from rfl, br_fq, show decide (I ((5 : Nat) : Int) = 2) = false from rfl, br_fq, show decide (I ((5 : Nat) : Int) = 3) = false from rfl, br_fq, show decide (I ((5 : Nat) : Int) = 4) = false from rfl, br_fq, show decide (I ((5 : Nat) : Int) = 5) = true from rfl, br_tq]; exact RFS_T (rfs_e h)
        · rw [hk, show decide (I ((6 : Nat) : Int) = 1) = false from rfl, br_fq, show decide (I ((6 : Nat) : Int) = 2) = false from rfl, br_fq, show decide (I ((6 : Nat) : Int) = 3) = false from rfl, br_fq, show decide (I ((6 : Nat) : Int) = 4) = false from rfl, br_fq, show decide (I ((6 : Nat) : Int) = 5) = false from rfl, br_fq, show decide (I ((6 : Nat) : Int) = 6) = true from rfl, br_tq]; exact RFS_T (rfs_e h)
        · rw [hk, show decide (I ((9 : Nat) : Int) = 1) = false from rfl, br_fq, show decide (I ((9 : Nat) : Int) = 2) = false from rfl, br_fq, show decide (I ((9 : Nat) : Int) = 3) = false from rfl, br_fq, show decide (I ((9 : Nat) : Int) = 4) = false from rfl, br_fq, show decide (I ((9 : Nat) : Int) = 5) = false from rfl, br_fq, show decide (I ((9 : Nat) : Int) = 6) = false from rfl, br_fq, show decide (I ((9 : Nat) : Int) = 7) = false from rfl, br_fq, show decide (I ((9 : Nat) : Int) = 8) = false from rfl, br_fq, show decide (I ((9 : Nat) : Int) = 9) = true from rfl, br_tq]; exact RFS_T (rfs_e h)
        · rw [hk, show decide (I ((10 : Nat) : Int) = 1) = false from rfl, br_fq, show decide (I ((10 : Nat) : Int) = 2) = false from rfl, br_fq, show decide (I ((10 : Nat) : Int) = 3) = false from rfl, br_fq, show decide (I ((10 : Nat) : Int) = 4) = false from rfl, br_fq, show decide (I ((10 : Nat) : Int) = 5) = false from rfl, br_fq, show decide (I ((10 : Nat) : Int) = 6) = false from rfl, br_fq, show decide (I ((10 : Nat) : Int) = 7) = false from rfl, br_fq, show decide (I ((10 : Nat) : Int) = 8) = false from rfl, br_fq, show decide (I ((10 : Nat) : Int) = 9) = false from rfl, br_fq, show decide (I ((10 : Nat) : Int) = 10) = true from rfl, br_tq]; exact RFS_T (rfs_e h)
        · rw [hk, show decide (I ((11 : Nat) : Int) = 1) = false from rfl, br_fq, show decide (I ((11 : Nat) : Int) = 2) = false from rfl, br_fq, show decide (I ((11 : Nat) : Int) = 3) = false from rfl, br_fq, show decide (I ((11 : Nat) : Int) = 4) = false from rfl, br_fq, show decide (I ((11 : Nat) : Int) = 5) = false from rfl, br_fq, show decide (I ((11 : Nat) : Int) = 6) = false from rfl, br_fq, show decide (I ((11 : Nat) : Int) = 7) = false from rfl, br_fq, show decide (I ((11 : Nat) : Int) = 8) = false from rfl, br_fq, show decide (I ((11 : Nat) : Int) = 9) = false from rfl, br_fq, show decide (I ((11 : Nat) : Int) = 10) = false from rfl, br_fq, show decide (I ((11 : Nat) : Int) = 11) = true from rfl, br_tq]; exact RFS_T (rfs_e h)
        · rw [hk, show decide (I ((15 : Nat) : Int) = 1) = false from rfl, br_fq, show decide (I ((15 : Nat) : Int) = 2) = false from rfl, br_fq, show decide (I ((15 : Nat) : Int) = 3) = false from rfl, br_fq, show decide (I ((15 : Nat) : Int) = 4) = false from rfl, br_fq, show decide (I ((15 : Nat) : Int) = 5) = false from rfl, br_fq, show decide (I ((15 : Nat) : Int) = 6) = false from rfl, br_fq, show decide (I ((15 : Nat) : Int) = 7) = false from rfl, br_fq, show decide (I ((15 : Nat) : Int) = 8) = false from rfl, br_fq, show decide (I ((15 : Nat) : Int) = 9) = false from rfl, br_fq, show decide (I ((15 : Nat) : Int) = 10) = false from rfl, br_fq, show decide (I ((15 : Nat) : Int) = 11) = false from rfl, br_fq, show decide (I ((15 : Nat) : Int) = 12) = false from rfl, br_fq, show decide (I ((15 : Nat) : Int) = 13) = false from rfl, br_fq, show decide (I ((15 : Nat) : Int) = 14) = false from rfl, br_fq, show decide (I ((15 : Nat) : Int) = 15) = true from rfl, br_tq]; exact RFS_T (rfs_e h)
        · rw [hk, show decide (I ((16 : Nat) : Int) = 1) = false from rfl, br_fq, show decide (I ((16 : Nat) : Int) = 2) = false from rfl, br_fq, show decide (I ((16 : Nat) : Int) = 3) = false from rfl, br_fq, show decide (I ((16 : Nat) : Int) = 4) = false from rfl, br_fq, show decide (I ((16 : Nat) : Int) = 5) = false from rfl, br_fq, show decide (I ((16 : Nat) : Int) = 6) = false from rfl, br_fq, show decide (I ((16 : Nat) : Int) = 7) = false from rfl, br_fq, show decide (I ((16 : Nat) : Int) = 8) = false from rfl, br_fq, show decide (I ((16 : Nat) : Int) = 9) = false from rfl, br_fq, show decide (I ((16 : Nat) : Int) = 10) = false from rfl, br_fq, show decide (I ((16 : Nat) : Int) = 11) = false from rfl, br_fq, show decide (I ((16 : Nat) : Int) = 12) = false from rfl, br_fq, show decide (I ((16 : Nat) : Int) = 13) = false from rfl, br_fq, show decide (I ((16 : Nat) : Int) = 14) = false from rfl, br_fq, show decide (I ((16 : Nat) : Int) = 15) = false from rfl, br_fq, show decide (I ((16 : Nat) : Int) = 16) = true from rfl, br_tq]; exact RFS_T (rfs_e h)
        · rw [hk, show decide (I ((18 : Nat) : Int) = 1) = false from rfl, br_fq, show decide (I ((18 : Nat) : Int) = 2) = false from rfl, br_fq, show decide (I ((18 : Nat) : Int) = 3) = false from rfl, br_fq, show decide (I ((18 : Nat) : Int) = 4) = false from rfl, br_fq, show decide (I ((18 : Nat) : Int) = 5) = false from rfl, br_fq, show decide (I ((18 : Nat) : Int) = 6) = false from rfl, br_fq, show decide (I ((18 : Nat) : Int) = 7) = false from rfl, br_fq, show decide (I ((18 : Nat) : Int) = 8) = false from rfl, br_fq, show decide (I ((18 : Nat) : Int) = 9) = false from rfl, br_fq, show decide (I ((18 : Nat) : Int) = 10) = false from rfl, br_fq, show decide (I ((18 : Nat) : Int) = 11) = false from rfl, br_fq, show decide (I ((18 : Nat) : Int) = 12) = false from rfl, br_fq, show decide (I ((18 : Nat) : Int) = 13) = false from rfl, br_fq, show decide (I ((18 : Nat) : Int) = 14) = false from rfl, br_fq, show decide (I ((18 : Nat) : Int) = 15) = false from rfl, br_fq, show decide (I ((18 : Nat) : Int) = 16) = false from rfl, br_fq, show decide (I ((18 : Nat) : Int) = 17) = false from rfl, br_fq, show decide (I ((18 : Nat) : Int) = 18) = true from rfl, br_tq]; exact RFS_T (rfs_e h)
        · rw [hk, show decide (I ((19 : Nat) : Int) = 1) = false from rfl, br_fq, show decide (I ((19 : Nat) : Int) = 2) = false from rfl, br_fq, show decide (I ((19 : Nat) : Int) = 3) = false from rfl, br_fq, show decide (I ((19 : Nat) : Int) = 4) = false from rfl, br_fq, show decide (I ((19 : Nat) : Int) = 5) = false from rfl, br_fq, show decide (I ((19 : Nat) : Int) = 6) = false from rfl, br_fq, show decide (I ((19 : Nat) : Int) = 7) = false from rfl, br_fq, show decide (I ((19 : Nat) : Int) = 8) = false from rfl, br_fq, show decide (I ((19 : Nat) : Int) = 9) = false from rfl, br_fq, show decide (I ((19 : Nat) : Int) = 10) = false from rfl, br_fq, show decide (I ((19 : Nat) : Int) = 11) = false from rfl, br_fq, show decide (I ((19 : Nat) : Int) = 12) = false from rfl, br_fq, show decide (I ((19 : Nat) : Int) = 13) = false from rfl, br_fq, show decide (I ((19 : Nat) : Int) = 14) = false from rfl, br_fq, show decide (I ((19 : Nat) : Int) = 15) = false from rfl, br_fq, show decide (I ((19 : Nat) : Int) = 16) = false from rfl, br_fq, show decide (I ((19 : Nat) : Int) = 17) = false from rfl, br_fq, show decide (I ((19 : Nat) : Int) = 18) = false from rfl, br_fq, show decide (I ((19 : Nat) : Int) = 19) = true from rfl, br_tq]; exact RFS_T (rfs_e h)
end
