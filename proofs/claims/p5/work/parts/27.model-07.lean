def fb_M_clause_0 (N : Nat) (S : SG_M_behind) (G : (MS → Int32 → Int32 → Int32 → Option (MS × Int32))) (u : MS) (v1 : Int32) : Option (MS × Int32) := lt (upI u 46 ((u.1 46) + 1)) (fun w17 => ck (inb (u.1 46) (ln 44)) (lt (upA w17 44 (upd (w17.2.2.1 44) (u.1 46).toNatClampNeg v1)) (fun w18 => ck (inb (u.1 46) (ln 45)) (lt (upA w18 45 (upd (w18.2.2.1 45) (u.1 46).toNatClampNeg (-1))) (fun w19 => ck (inb (u.1 46) (ln 42)) (lt (upA w19 42 (upd (w19.2.2.1 42) (u.1 46).toNatClampNeg (-1))) (fun w20 => ck (inb (u.1 46) (ln 41)) (lt (upA w20 41 (upd (w20.2.2.1 41) (u.1 46).toNatClampNeg 0)) (fun w21 => ck (inb (u.1 46) (ln 40)) (lt (upA w21 40 (upd (w21.2.2.1 40) (u.1 46).toNatClampNeg (-1))) (fun w22 => bnd (fm_M_needSign N w22 0) (fun u23 _ => br (decide ((u23.1 67) = 0)) (bnd (fm_M_isSign N u23 1) (fun u24 r24 => br (decide (r24 = 0)) (G u24 ((u.1 46)) ((-1)) (1)) (fb_M_clause_183 N S G u24 ((u.1 46))))) (fb_M_clause_183 N S G u23 ((u.1 46)))))))))))))))
set_option maxRecDepth 100000 in
set_option maxHeartbeats 4000000 in
theorem wb_M_clause_0 {p : Program} {l : Launch} {e : Env} {R : Room} {s : State} {m : MethodId} {args : Array Value} {below : List Frame} {meth : Method} {c : Code} {D : va_G} {cl : List vw_C} {cB cI cJ cZ cS : ClassId} {A : Nat → Prop} {iM h0 : Nat} {ad : Nat → Nat} (C0 : MCx p s m args meth c b_M_clause 6 (some .int) D cl cB cI cJ cZ cS iM A) {d : Nat} (hR : R = rg_M_behind (d + 1)) (N : Nat) (S : SG_M_behind) (hSg : HS_M_behind l D cl cB cI cJ cZ cS iM h0 ad (rg_M_behind d) S) (G : (MS → Int32 → Int32 → Int32 → Option (MS × Int32))) (hG : (∀ (u : MS) (v2 : Int32) (v3 : Int32) (v4 : Int32) (x : MS × Int32), G u v2 v3 v4 = some x → ∀ (H : Heap) (locs : List Loc), va_P D cl (wM cB cI cJ cZ cS iM h0 ad u) H → va_D A (wM cB cI cJ cZ cS iM h0 ad u) → va_S A s.heap H locs → ∀ (ls : Array Slot), lv_has ls 6 [(0, .ref h0), (2, .int v2), (3, .int v3), (4, .int v4)] → W p l e R s m args below meth c H locs 0 0 (MQ below (mQi D cl cB cI cJ cZ cS iM h0 ad A x) args s 0 0 A) (F0 m 75 ls []))) : ∀ (u : MS) (v1 : Int32) (x : MS × Int32), fb_M_clause_0 N S G u v1 = some x → ∀ (H : Heap) (locs : List Loc), va_P D cl (wM cB cI cJ cZ cS iM h0 ad u) H → va_D A (wM cB cI cJ cZ cS iM h0 ad u) → va_S A s.heap H locs → ∀ (ls : Array Slot), lv_has ls 6 [(0, .ref h0), (1, .int v1)] → W p l e R s m args below meth c H locs 0 0 (MQ below (mQi D cl cB cI cJ cZ cS iM h0 ad A x) args s 0 0 A) (F0 m 0 ls []) := by
  intro u v1 x hf H locs hP hD hS ls hl
  obtain ⟨hx, hb, hr, hml, ht, hown, hM, hK, hA, hlocks⟩ := id C0
  unfold fb_M_clause_0 at hf
  refine lv_aload_n hx hb d_M_clause_0 rfl (lv_at hl 0 rfl) ?_
  refine ug_I hx hb ht hown hM hK hP 46 (by decide) lk_M_46 (by decide) d_M_clause_1 ?_
  refine lv_istore_n (lv' := [(2, .int (u.1 46)), (0, .ref h0), (1, .int v1)]) hx hb d_M_clause_4 rfl hl (by decide) rfl (fun ls hl => ?_)
  refine lv_aload_n hx hb d_M_clause_5 rfl (lv_at hl 1 rfl) ?_
  refine lv_dup hx hb d_M_clause_6 rfl ?_
  refine ug_I hx hb ht hown hM hK hP 46 (by decide) lk_M_46 (by decide) d_M_clause_7 ?_
  refine lv_iconst (v := 1) hx hb d_M_clause_10 (by decide) ?_
  refine lv_iadd hx hb d_M_clause_11 ?_
  refine up_I hx hb ht hown hM hK hP hD hS 46 (by decide) lk_M_46 (by decide) rfl rfl rfl d_M_clause_12 (fun H locs hP hD hS => ?_)
  obtain ⟨w17, e17, hf⟩ := lt_some hf
  rw [← e17] at hP hD
  refine lv_aload_n hx hb d_M_clause_15 rfl (lv_at hl 1 rfl) ?_
  refine ug_R hx hb ht hown hM hK hP 44 (by decide) lk_M_44 (by decide) d_M_clause_16 ?_
  refine lv_iload_n hx hb d_M_clause_19 rfl (lv_at hl 0 rfl) ?_
  refine lv_iload_n hx hb d_M_clause_20 rfl (lv_at hl 2 rfl) ?_
  obtain ⟨hi9, hf⟩ := ck_some hf
  refine us_I hx hb hK hP hD hS (by decide) (by decide) hi9 d_M_clause_21 (fun H locs hP hD hS => ?_)
  obtain ⟨w18, e18, hf⟩ := lt_some hf
  rw [← e18] at hP hD
  refine lv_aload_n hx hb d_M_clause_22 rfl (lv_at hl 1 rfl) ?_
  refine ug_R hx hb ht hown hM hK hP 45 (by decide) lk_M_45 (by decide) d_M_clause_23 ?_
  refine lv_iload_n hx hb d_M_clause_26 rfl (lv_at hl 0 rfl) ?_
  refine lv_iconst (v := (-1)) hx hb d_M_clause_27 (by decide) ?_
  obtain ⟨hi9, hf⟩ := ck_some hf
  refine us_I hx hb hK hP hD hS (by decide) (by decide) hi9 d_M_clause_28 (fun H locs hP hD hS => ?_)
  obtain ⟨w19, e19, hf⟩ := lt_some hf
  rw [← e19] at hP hD
  refine lv_aload_n hx hb d_M_clause_29 rfl (lv_at hl 1 rfl) ?_
  refine ug_R hx hb ht hown hM hK hP 42 (by decide) lk_M_42 (by decide) d_M_clause_30 ?_
  refine lv_iload_n hx hb d_M_clause_33 rfl (lv_at hl 0 rfl) ?_
  refine lv_iconst (v := (-1)) hx hb d_M_clause_34 (by decide) ?_
  obtain ⟨hi9, hf⟩ := ck_some hf
  refine us_I hx hb hK hP hD hS (by decide) (by decide) hi9 d_M_clause_35 (fun H locs hP hD hS => ?_)
  obtain ⟨w20, e20, hf⟩ := lt_some hf
  rw [← e20] at hP hD
  refine lv_aload_n hx hb d_M_clause_36 rfl (lv_at hl 1 rfl) ?_
  refine ug_R hx hb ht hown hM hK hP 41 (by decide) lk_M_41 (by decide) d_M_clause_37 ?_
  refine lv_iload_n hx hb d_M_clause_40 rfl (lv_at hl 0 rfl) ?_
  refine lv_iconst (v := 0) hx hb d_M_clause_41 (by decide) ?_
  obtain ⟨hi9, hf⟩ := ck_some hf
  refine us_I hx hb hK hP hD hS (by decide) (by decide) hi9 d_M_clause_42 (fun H locs hP hD hS => ?_)
  obtain ⟨w21, e21, hf⟩ := lt_some hf
  rw [← e21] at hP hD
  refine lv_aload_n hx hb d_M_clause_43 rfl (lv_at hl 1 rfl) ?_
  refine ug_R hx hb ht hown hM hK hP 40 (by decide) lk_M_40 (by decide) d_M_clause_44 ?_
  refine lv_iload_n hx hb d_M_clause_47 rfl (lv_at hl 0 rfl) ?_
  refine lv_iconst (v := (-1)) hx hb d_M_clause_48 (by decide) ?_
  obtain ⟨hi9, hf⟩ := ck_some hf
  refine us_I hx hb hK hP hD hS (by decide) (by decide) hi9 d_M_clause_49 (fun H locs hP hD hS => ?_)
  obtain ⟨w22, e22, hf⟩ := lt_some hf
  rw [← e22] at hP hD
  refine lv_aload_n hx hb d_M_clause_50 rfl (lv_at hl 1 rfl) ?_
  refine lv_iconst (v := 0) hx hb d_M_clause_51 (by decide) ?_
  obtain ⟨u23, r23, hc23, hf⟩ := bnd_some hf
  refine mV_v (As := [.int 0]) (rest := []) C0 hP hD hS (c_M_needSign N hM hc23) k_M_needSign hl_M_needSign hi_M_needSign hs_M_needSign hini_M rfl rfl hd_M_needSign rfl (rm_M_clause_M_needSign hR) hl.1 (Nat.le_of_ble_eq_true rfl) d_M_clause_52 rfl ⟨Nat.zero_le _, Nat.zero_le _⟩ (fun H locs hP hD hS => ?_)
  refine lv_iconst (v := (-1)) hx hb d_M_clause_55 (by decide) ?_
  refine lv_istore_n (lv' := [(3, .int (-1)), (2, .int (u.1 46)), (0, .ref h0), (1, .int v1)]) hx hb d_M_clause_56 rfl hl (by decide) rfl (fun ls hl => ?_)
  refine lv_aload_n hx hb d_M_clause_57 rfl (lv_at hl 2 rfl) ?_
  refine ug_I hx hb ht hown hM hK hP 67 (by decide) lk_M_67 (by decide) d_M_clause_58 ?_
  refine lv_if_ne (tgt := 183) hx hb d_M_clause_61 (by decide) (fun hc => ?_) (fun hc => ?_)
  · rw [br_n _ hc] at hf
    exact wb_M_clause_183 C0 hR N S hSg G hG _ _ _ hf H locs hP hD hS ls (lv_sub hl [2, 1] rfl)
  · rw [br_p _ hc] at hf
    refine lv_aload_n hx hb d_M_clause_64 rfl (lv_at hl 2 rfl) ?_
    refine lv_iconst (v := 1) hx hb d_M_clause_65 (by decide) ?_
    obtain ⟨u24, r24, hc24, hf⟩ := bnd_some hf
    refine mV_i (As := [.int 1]) (rest := []) C0 hP hD hS (c_M_isSign N hM hc24) k_M_isSign hl_M_isSign hi_M_isSign hs_M_isSign hini_M rfl rfl hd_M_isSign rfl (rm_M_clause_M_isSign hR) hl.1 (Nat.le_of_ble_eq_true rfl) d_M_clause_66 rfl ⟨Nat.zero_le _, Nat.zero_le _⟩ (fun H locs hP hD hS => ?_)
    refine lv_if_ne (tgt := 183) hx hb d_M_clause_69 (by decide) (fun hc => ?_) (fun hc => ?_)
    · rw [br_n _ hc] at hf
      exact wb_M_clause_183 C0 hR N S hSg G hG _ _ _ hf H locs hP hD hS ls (lv_sub hl [2, 1] rfl)
    · rw [br_p _ hc] at hf
      refine lv_iconst (v := 1) hx hb d_M_clause_72 (by decide) ?_
      refine lv_istore (lv' := [(4, .int 1), (3, .int (-1)), (2, .int (u.1 46)), (0, .ref h0), (1, .int v1)]) hx hb d_M_clause_73 hl (by decide) rfl (fun ls hl => ?_)
      exact hG _ _ _ _ _ hf H locs hP hD hS ls (lv_sub hl [3, 2, 1, 0] rfl)
def gg_M_clause (N : Nat) (S : SG_M_behind) : Nat → ((MS → Int32 → Int32 → Int32 → Option (MS × Int32)))
  | 0 => fun _ _ _ _ => none
  | n + 1 => fb_M_clause_75 N S (gg_M_clause N S n)
theorem wg_M_clause {p : Program} {l : Launch} {e : Env} {R : Room} {s : State} {m : MethodId} {args : Array Value} {below : List Frame} {meth : Method} {c : Code} {D : va_G} {cl : List vw_C} {cB cI cJ cZ cS : ClassId} {A : Nat → Prop} {iM h0 : Nat} {ad : Nat → Nat} (C0 : MCx p s m args meth c b_M_clause 6 (some .int) D cl cB cI cJ cZ cS iM A) {d : Nat} (hR : R = rg_M_behind (d + 1)) (N : Nat) (S : SG_M_behind) (hSg : HS_M_behind l D cl cB cI cJ cZ cS iM h0 ad (rg_M_behind d) S) : ∀ n : Nat, (∀ (u : MS) (v2 : Int32) (v3 : Int32) (v4 : Int32) (x : MS × Int32), gg_M_clause N S n u v2 v3 v4 = some x → ∀ (H : Heap) (locs : List Loc), va_P D cl (wM cB cI cJ cZ cS iM h0 ad u) H → va_D A (wM cB cI cJ cZ cS iM h0 ad u) → va_S A s.heap H locs → ∀ (ls : Array Slot), lv_has ls 6 [(0, .ref h0), (2, .int v2), (3, .int v3), (4, .int v4)] → W p l e R s m args below meth c H locs 0 0 (MQ below (mQi D cl cB cI cJ cZ cS iM h0 ad A x) args s 0 0 A) (F0 m 75 ls []))
  | 0 => (fun u v2 v3 v4 x hf => by cases hf)
  | n + 1 => wb_M_clause_75 C0 hR N S hSg (gg_M_clause N S n) (wg_M_clause C0 hR N S hSg n)
def fm_M_clause (N : Nat) (S : SG_M_behind) (u : MS) (v1 : Int32) : Option (MS × Int32) := fb_M_clause_0 N S (gg_M_clause N S N) u v1
set_option maxRecDepth 100000 in
set_option maxHeartbeats 4000000 in
theorem cs_M_clause (N : Nat) {d : Nat} {l : Launch} {D : va_G} {cl : List vw_C} {cB cI cJ cZ cS : ClassId} {iM h0 : Nat} {ad : Nat → Nat} {u : MS} {sz : Nat} {v1 : Int32} {x : MS × Int32} (hM : cl[iM]? = some (R_M, F_M, 171)) (S : SG_M_behind) (hSg : HS_M_behind l D cl cB cI cJ cZ cS iM h0 ad (rg_M_behind d) S) (hf : fm_M_clause N S u v1 = some x) : Met l y_M_clause (wd_ws y_M_clause b_M_clause 6 (some .int)) (rg_M_behind (d + 1)) (mPc D cl cB cI cJ cZ cS iM h0 ad u sz [.ref h0, .int v1]) (mQi D cl cB cI cJ cZ cS iM h0 ad (mA cB cI cJ cZ cS iM h0 ad u sz) x) 0 0 (mA cB cI cJ cZ cS iM h0 ad u sz) :=
  mMet (by decide) rfl hM (Nat.le_of_ble_eq_true rfl) (fun p e s m below meth c ls hsz C0 hP hD hS hl => by
    have hR : (rg_M_behind (d + 1)) = (rg_M_behind (d + 1)) := rfl
    exact wb_M_clause_0 C0 hR N S hSg (gg_M_clause N S N) (wg_M_clause C0 hR N S hSg N) u _ x hf s.heap [] hP hD hS ls (lv_sub hl [0, 1] rfl))
def rc_M_behind (N : Nat) : Nat → (SG_M_behind)
  | 0 => (fun _ => none, fun _ _ => none, fun _ _ _ => none, fun _ _ _ => none, fun _ => none, fun _ _ => none, fun _ _ => none, fun _ _ => none, fun _ _ => none, fun _ => none, fun _ => none, fun _ => none, fun _ => none, fun _ => none, fun _ => none, fun _ => none, fun _ _ => none)
  | d + 1 => (fm_M_behind N (rc_M_behind N d), fm_M_matched N (rc_M_behind N d), fm_M_parts0 N (rc_M_behind N d), fm_M_receive N (rc_M_behind N d), fm_M_body N (rc_M_behind N d), fm_M_block N (rc_M_behind N d), fm_M_fun N (rc_M_behind N d), fm_M_row N (rc_M_behind N d), fm_M_alone N (rc_M_behind N d), fm_M_arguments N (rc_M_behind N d), fm_M_primary N (rc_M_behind N d), fm_M_worked N (rc_M_behind N d), fm_M_simple N (rc_M_behind N d), fm_M_expression N (rc_M_behind N d), fm_M_guardCode N (rc_M_behind N d), fm_M_guard N (rc_M_behind N d), fm_M_clause N (rc_M_behind N d))
theorem cg_M_behind (N : Nat) {l : Launch} {D : va_G} {cl : List vw_C} {cB cI cJ cZ cS : ClassId} {iM h0 : Nat} {ad : Nat → Nat} (hM : cl[iM]? = some (R_M, F_M, 171)) : ∀ d : Nat, HS_M_behind l D cl cB cI cJ cZ cS iM h0 ad (rg_M_behind d) (rc_M_behind N d)
  | 0 => ⟨(fun u x sz hf => by cases hf), (fun u _ x sz hf => by cases hf), (fun u _ _ x sz hf => by cases hf), (fun u _ _ x sz hf => by cases hf), (fun u x sz hf => by cases hf), (fun u _ x sz hf => by cases hf), (fun u _ x sz hf => by cases hf), (fun u _ x sz hf => by cases hf), (fun u _ x sz hf => by cases hf), (fun u x sz hf => by cases hf), (fun u x sz hf => by cases hf), (fun u x sz hf => by cases hf), (fun u x sz hf => by cases hf), (fun u x sz hf => by cases hf), (fun u x sz hf => by cases hf), (fun u x sz hf => by cases hf), (fun u _ x sz hf => by cases hf)⟩
  | d + 1 => ⟨(fun u x sz hf => cs_M_behind N hM (rc_M_behind N d) (cg_M_behind N hM d) hf), (fun u _ x sz hf => cs_M_matched N hM (rc_M_behind N d) (cg_M_behind N hM d) hf), (fun u _ _ x sz hf => cs_M_parts0 N hM (rc_M_behind N d) (cg_M_behind N hM d) hf), (fun u _ _ x sz hf => cs_M_receive N hM (rc_M_behind N d) (cg_M_behind N hM d) hf), (fun u x sz hf => cs_M_body N hM (rc_M_behind N d) (cg_M_behind N hM d) hf), (fun u _ x sz hf => cs_M_block N hM (rc_M_behind N d) (cg_M_behind N hM d) hf), (fun u _ x sz hf => cs_M_fun N hM (rc_M_behind N d) (cg_M_behind N hM d) hf), (fun u _ x sz hf => cs_M_row N hM (rc_M_behind N d) (cg_M_behind N hM d) hf), (fun u _ x sz hf => cs_M_alone N hM (rc_M_behind N d) (cg_M_behind N hM d) hf), (fun u x sz hf => cs_M_arguments N hM (rc_M_behind N d) (cg_M_behind N hM d) hf), (fun u x sz hf => cs_M_primary N hM (rc_M_behind N d) (cg_M_behind N hM d) hf), (fun u x sz hf => cs_M_worked N hM (rc_M_behind N d) (cg_M_behind N hM d) hf), (fun u x sz hf => cs_M_simple N hM (rc_M_behind N d) (cg_M_behind N hM d) hf), (fun u x sz hf => cs_M_expression N hM (rc_M_behind N d) (cg_M_behind N hM d) hf), (fun u x sz hf => cs_M_guardCode N hM (rc_M_behind N d) (cg_M_behind N hM d) hf), (fun u x sz hf => cs_M_guard N hM (rc_M_behind N d) (cg_M_behind N hM d) hf), (fun u _ x sz hf => cs_M_clause N hM (rc_M_behind N d) (cg_M_behind N hM d) hf)⟩
def fr_M_behind (N : Nat) (u : MS) : Option (MS × Int32) := (rc_M_behind N 300).1 u
def rm_M_behind : Room := rg_M_behind 300
theorem c_M_behind (N : Nat) {l : Launch} {D : va_G} {cl : List vw_C} {cB cI cJ cZ cS : ClassId} {iM h0 : Nat} {ad : Nat → Nat} {u : MS} {sz : Nat} {x : MS × Int32} (hM : cl[iM]? = some (R_M, F_M, 171)) (hf : fr_M_behind N u = some x) : Met l y_M_behind (wd_ws y_M_behind b_M_behind 2 (some .int)) rm_M_behind (mPc D cl cB cI cJ cZ cS iM h0 ad u sz [.ref h0]) (mQi D cl cB cI cJ cZ cS iM h0 ad (mA cB cI cJ cZ cS iM h0 ad u sz) x) 0 0 (mA cB cI cJ cZ cS iM h0 ad u sz) := (cg_M_behind N hM 300).1 _ _ _ hf
def fr_M_matched (N : Nat) (u : MS) (v1 : Int32) : Option (MS × Int32) := (rc_M_behind N 300).2.1 u v1
def rm_M_matched : Room := rg_M_behind 300
theorem c_M_matched (N : Nat) {l : Launch} {D : va_G} {cl : List vw_C} {cB cI cJ cZ cS : ClassId} {iM h0 : Nat} {ad : Nat → Nat} {u : MS} {sz : Nat} {v1 : Int32} {x : MS × Int32} (hM : cl[iM]? = some (R_M, F_M, 171)) (hf : fr_M_matched N u v1 = some x) : Met l y_M_matched (wd_ws y_M_matched b_M_matched 7 (some .int)) rm_M_matched (mPc D cl cB cI cJ cZ cS iM h0 ad u sz [.ref h0, .int v1]) (mQi D cl cB cI cJ cZ cS iM h0 ad (mA cB cI cJ cZ cS iM h0 ad u sz) x) 0 0 (mA cB cI cJ cZ cS iM h0 ad u sz) := (cg_M_behind N hM 300).2.1 _ _ _ _ hf
def fr_M_parts0 (N : Nat) (u : MS) (v1 : Int32) (v2 : Int32) : Option (MS × Int32) := (rc_M_behind N 300).2.2.1 u v1 v2
def rm_M_parts0 : Room := rg_M_behind 300
theorem c_M_parts0 (N : Nat) {l : Launch} {D : va_G} {cl : List vw_C} {cB cI cJ cZ cS : ClassId} {iM h0 : Nat} {ad : Nat → Nat} {u : MS} {sz : Nat} {v1 : Int32} {v2 : Int32} {x : MS × Int32} (hM : cl[iM]? = some (R_M, F_M, 171)) (hf : fr_M_parts0 N u v1 v2 = some x) : Met l y_M_parts0 (wd_ws y_M_parts0 b_M_parts0 10 (some .int)) rm_M_parts0 (mPc D cl cB cI cJ cZ cS iM h0 ad u sz [.ref h0, .int v1, .int v2]) (mQi D cl cB cI cJ cZ cS iM h0 ad (mA cB cI cJ cZ cS iM h0 ad u sz) x) 0 0 (mA cB cI cJ cZ cS iM h0 ad u sz) := (cg_M_behind N hM 300).2.2.1 _ _ _ _ _ hf
def fr_M_receive (N : Nat) (u : MS) (v1 : Int32) (v2 : Int32) : Option (MS × Int32) := (rc_M_behind N 300).2.2.2.1 u v1 v2
def rm_M_receive : Room := rg_M_behind 300
theorem c_M_receive (N : Nat) {l : Launch} {D : va_G} {cl : List vw_C} {cB cI cJ cZ cS : ClassId} {iM h0 : Nat} {ad : Nat → Nat} {u : MS} {sz : Nat} {v1 : Int32} {v2 : Int32} {x : MS × Int32} (hM : cl[iM]? = some (R_M, F_M, 171)) (hf : fr_M_receive N u v1 v2 = some x) : Met l y_M_receive (wd_ws y_M_receive b_M_receive 9 (some .int)) rm_M_receive (mPc D cl cB cI cJ cZ cS iM h0 ad u sz [.ref h0, .int v1, .int v2]) (mQi D cl cB cI cJ cZ cS iM h0 ad (mA cB cI cJ cZ cS iM h0 ad u sz) x) 0 0 (mA cB cI cJ cZ cS iM h0 ad u sz) := (cg_M_behind N hM 300).2.2.2.1 _ _ _ _ _ hf
def fr_M_body (N : Nat) (u : MS) : Option (MS × Int32) := (rc_M_behind N 300).2.2.2.2.1 u
def rm_M_body : Room := rg_M_behind 300
theorem c_M_body (N : Nat) {l : Launch} {D : va_G} {cl : List vw_C} {cB cI cJ cZ cS : ClassId} {iM h0 : Nat} {ad : Nat → Nat} {u : MS} {sz : Nat} {x : MS × Int32} (hM : cl[iM]? = some (R_M, F_M, 171)) (hf : fr_M_body N u = some x) : Met l y_M_body (wd_ws y_M_body b_M_body 3 (some .int)) rm_M_body (mPc D cl cB cI cJ cZ cS iM h0 ad u sz [.ref h0]) (mQi D cl cB cI cJ cZ cS iM h0 ad (mA cB cI cJ cZ cS iM h0 ad u sz) x) 0 0 (mA cB cI cJ cZ cS iM h0 ad u sz) := (cg_M_behind N hM 300).2.2.2.2.1 _ _ _ hf
def fr_M_block (N : Nat) (u : MS) (v1 : Int32) : Option (MS × Int32) := (rc_M_behind N 300).2.2.2.2.2.1 u v1
def rm_M_block : Room := rg_M_behind 300
theorem c_M_block (N : Nat) {l : Launch} {D : va_G} {cl : List vw_C} {cB cI cJ cZ cS : ClassId} {iM h0 : Nat} {ad : Nat → Nat} {u : MS} {sz : Nat} {v1 : Int32} {x : MS × Int32} (hM : cl[iM]? = some (R_M, F_M, 171)) (hf : fr_M_block N u v1 = some x) : Met l y_M_block (wd_ws y_M_block b_M_block 8 (some .int)) rm_M_block (mPc D cl cB cI cJ cZ cS iM h0 ad u sz [.ref h0, .int v1]) (mQi D cl cB cI cJ cZ cS iM h0 ad (mA cB cI cJ cZ cS iM h0 ad u sz) x) 0 0 (mA cB cI cJ cZ cS iM h0 ad u sz) := (cg_M_behind N hM 300).2.2.2.2.2.1 _ _ _ _ hf
def fr_M_fun (N : Nat) (u : MS) (v1 : Int32) : Option (MS × Int32) := (rc_M_behind N 300).2.2.2.2.2.2.1 u v1
def rm_M_fun : Room := rg_M_behind 300
theorem c_M_fun (N : Nat) {l : Launch} {D : va_G} {cl : List vw_C} {cB cI cJ cZ cS : ClassId} {iM h0 : Nat} {ad : Nat → Nat} {u : MS} {sz : Nat} {v1 : Int32} {x : MS × Int32} (hM : cl[iM]? = some (R_M, F_M, 171)) (hf : fr_M_fun N u v1 = some x) : Met l y_M_fun (wd_ws y_M_fun b_M_fun 6 (some .int)) rm_M_fun (mPc D cl cB cI cJ cZ cS iM h0 ad u sz [.ref h0, .int v1]) (mQi D cl cB cI cJ cZ cS iM h0 ad (mA cB cI cJ cZ cS iM h0 ad u sz) x) 0 0 (mA cB cI cJ cZ cS iM h0 ad u sz) := (cg_M_behind N hM 300).2.2.2.2.2.2.1 _ _ _ _ hf
def fr_M_row (N : Nat) (u : MS) (v1 : Int32) : Option (MS × Int32) := (rc_M_behind N 300).2.2.2.2.2.2.2.1 u v1
def rm_M_row : Room := rg_M_behind 300
theorem c_M_row (N : Nat) {l : Launch} {D : va_G} {cl : List vw_C} {cB cI cJ cZ cS : ClassId} {iM h0 : Nat} {ad : Nat → Nat} {u : MS} {sz : Nat} {v1 : Int32} {x : MS × Int32} (hM : cl[iM]? = some (R_M, F_M, 171)) (hf : fr_M_row N u v1 = some x) : Met l y_M_row (wd_ws y_M_row b_M_row 8 (some .int)) rm_M_row (mPc D cl cB cI cJ cZ cS iM h0 ad u sz [.ref h0, .int v1]) (mQi D cl cB cI cJ cZ cS iM h0 ad (mA cB cI cJ cZ cS iM h0 ad u sz) x) 0 0 (mA cB cI cJ cZ cS iM h0 ad u sz) := (cg_M_behind N hM 300).2.2.2.2.2.2.2.1 _ _ _ _ hf
def fr_M_alone (N : Nat) (u : MS) (v1 : Int32) : Option (MS × Int32) := (rc_M_behind N 300).2.2.2.2.2.2.2.2.1 u v1
def rm_M_alone : Room := rg_M_behind 300
theorem c_M_alone (N : Nat) {l : Launch} {D : va_G} {cl : List vw_C} {cB cI cJ cZ cS : ClassId} {iM h0 : Nat} {ad : Nat → Nat} {u : MS} {sz : Nat} {v1 : Int32} {x : MS × Int32} (hM : cl[iM]? = some (R_M, F_M, 171)) (hf : fr_M_alone N u v1 = some x) : Met l y_M_alone (wd_ws y_M_alone b_M_alone 4 (some .int)) rm_M_alone (mPc D cl cB cI cJ cZ cS iM h0 ad u sz [.ref h0, .int v1]) (mQi D cl cB cI cJ cZ cS iM h0 ad (mA cB cI cJ cZ cS iM h0 ad u sz) x) 0 0 (mA cB cI cJ cZ cS iM h0 ad u sz) := (cg_M_behind N hM 300).2.2.2.2.2.2.2.2.1 _ _ _ _ hf
def fr_M_arguments (N : Nat) (u : MS) : Option (MS × Unit) := (rc_M_behind N 300).2.2.2.2.2.2.2.2.2.1 u
def rm_M_arguments : Room := rg_M_behind 300
theorem c_M_arguments (N : Nat) {l : Launch} {D : va_G} {cl : List vw_C} {cB cI cJ cZ cS : ClassId} {iM h0 : Nat} {ad : Nat → Nat} {u : MS} {sz : Nat} {x : MS × Unit} (hM : cl[iM]? = some (R_M, F_M, 171)) (hf : fr_M_arguments N u = some x) : Met l y_M_arguments (wd_ws y_M_arguments b_M_arguments 4 none) rm_M_arguments (mPc D cl cB cI cJ cZ cS iM h0 ad u sz [.ref h0]) (mQv D cl cB cI cJ cZ cS iM h0 ad (mA cB cI cJ cZ cS iM h0 ad u sz) x) 0 0 (mA cB cI cJ cZ cS iM h0 ad u sz) := (cg_M_behind N hM 300).2.2.2.2.2.2.2.2.2.1 _ _ _ hf
def fr_M_primary (N : Nat) (u : MS) : Option (MS × Int32) := (rc_M_behind N 300).2.2.2.2.2.2.2.2.2.2.1 u
def rm_M_primary : Room := rg_M_behind 300
theorem c_M_primary (N : Nat) {l : Launch} {D : va_G} {cl : List vw_C} {cB cI cJ cZ cS : ClassId} {iM h0 : Nat} {ad : Nat → Nat} {u : MS} {sz : Nat} {x : MS × Int32} (hM : cl[iM]? = some (R_M, F_M, 171)) (hf : fr_M_primary N u = some x) : Met l y_M_primary (wd_ws y_M_primary b_M_primary 3 (some .int)) rm_M_primary (mPc D cl cB cI cJ cZ cS iM h0 ad u sz [.ref h0]) (mQi D cl cB cI cJ cZ cS iM h0 ad (mA cB cI cJ cZ cS iM h0 ad u sz) x) 0 0 (mA cB cI cJ cZ cS iM h0 ad u sz) := (cg_M_behind N hM 300).2.2.2.2.2.2.2.2.2.2.1 _ _ _ hf
def fr_M_worked (N : Nat) (u : MS) : Option (MS × Int32) := (rc_M_behind N 300).2.2.2.2.2.2.2.2.2.2.2.1 u
def rm_M_worked : Room := rg_M_behind 300
theorem c_M_worked (N : Nat) {l : Launch} {D : va_G} {cl : List vw_C} {cB cI cJ cZ cS : ClassId} {iM h0 : Nat} {ad : Nat → Nat} {u : MS} {sz : Nat} {x : MS × Int32} (hM : cl[iM]? = some (R_M, F_M, 171)) (hf : fr_M_worked N u = some x) : Met l y_M_worked (wd_ws y_M_worked b_M_worked 5 (some .int)) rm_M_worked (mPc D cl cB cI cJ cZ cS iM h0 ad u sz [.ref h0]) (mQi D cl cB cI cJ cZ cS iM h0 ad (mA cB cI cJ cZ cS iM h0 ad u sz) x) 0 0 (mA cB cI cJ cZ cS iM h0 ad u sz) := (cg_M_behind N hM 300).2.2.2.2.2.2.2.2.2.2.2.1 _ _ _ hf
def fr_M_simple (N : Nat) (u : MS) : Option (MS × Int32) := (rc_M_behind N 300).2.2.2.2.2.2.2.2.2.2.2.2.1 u
def rm_M_simple : Room := rg_M_behind 300
theorem c_M_simple (N : Nat) {l : Launch} {D : va_G} {cl : List vw_C} {cB cI cJ cZ cS : ClassId} {iM h0 : Nat} {ad : Nat → Nat} {u : MS} {sz : Nat} {x : MS × Int32} (hM : cl[iM]? = some (R_M, F_M, 171)) (hf : fr_M_simple N u = some x) : Met l y_M_simple (wd_ws y_M_simple b_M_simple 4 (some .int)) rm_M_simple (mPc D cl cB cI cJ cZ cS iM h0 ad u sz [.ref h0]) (mQi D cl cB cI cJ cZ cS iM h0 ad (mA cB cI cJ cZ cS iM h0 ad u sz) x) 0 0 (mA cB cI cJ cZ cS iM h0 ad u sz) := (cg_M_behind N hM 300).2.2.2.2.2.2.2.2.2.2.2.2.1 _ _ _ hf
def fr_M_expression (N : Nat) (u : MS) : Option (MS × Int32) := (rc_M_behind N 300).2.2.2.2.2.2.2.2.2.2.2.2.2.1 u
def rm_M_expression : Room := rg_M_behind 300
theorem c_M_expression (N : Nat) {l : Launch} {D : va_G} {cl : List vw_C} {cB cI cJ cZ cS : ClassId} {iM h0 : Nat} {ad : Nat → Nat} {u : MS} {sz : Nat} {x : MS × Int32} (hM : cl[iM]? = some (R_M, F_M, 171)) (hf : fr_M_expression N u = some x) : Met l y_M_expression (wd_ws y_M_expression b_M_expression 4 (some .int)) rm_M_expression (mPc D cl cB cI cJ cZ cS iM h0 ad u sz [.ref h0]) (mQi D cl cB cI cJ cZ cS iM h0 ad (mA cB cI cJ cZ cS iM h0 ad u sz) x) 0 0 (mA cB cI cJ cZ cS iM h0 ad u sz) := (cg_M_behind N hM 300).2.2.2.2.2.2.2.2.2.2.2.2.2.1 _ _ _ hf
def fr_M_guardCode (N : Nat) (u : MS) : Option (MS × Int32) := (rc_M_behind N 300).2.2.2.2.2.2.2.2.2.2.2.2.2.2.1 u
def rm_M_guardCode : Room := rg_M_behind 300
theorem c_M_guardCode (N : Nat) {l : Launch} {D : va_G} {cl : List vw_C} {cB cI cJ cZ cS : ClassId} {iM h0 : Nat} {ad : Nat → Nat} {u : MS} {sz : Nat} {x : MS × Int32} (hM : cl[iM]? = some (R_M, F_M, 171)) (hf : fr_M_guardCode N u = some x) : Met l y_M_guardCode (wd_ws y_M_guardCode b_M_guardCode 7 (some .int)) rm_M_guardCode (mPc D cl cB cI cJ cZ cS iM h0 ad u sz [.ref h0]) (mQi D cl cB cI cJ cZ cS iM h0 ad (mA cB cI cJ cZ cS iM h0 ad u sz) x) 0 0 (mA cB cI cJ cZ cS iM h0 ad u sz) := (cg_M_behind N hM 300).2.2.2.2.2.2.2.2.2.2.2.2.2.2.1 _ _ _ hf
def fr_M_guard (N : Nat) (u : MS) : Option (MS × Int32) := (rc_M_behind N 300).2.2.2.2.2.2.2.2.2.2.2.2.2.2.2.1 u
def rm_M_guard : Room := rg_M_behind 300
theorem c_M_guard (N : Nat) {l : Launch} {D : va_G} {cl : List vw_C} {cB cI cJ cZ cS : ClassId} {iM h0 : Nat} {ad : Nat → Nat} {u : MS} {sz : Nat} {x : MS × Int32} (hM : cl[iM]? = some (R_M, F_M, 171)) (hf : fr_M_guard N u = some x) : Met l y_M_guard (wd_ws y_M_guard b_M_guard 1 (some .int)) rm_M_guard (mPc D cl cB cI cJ cZ cS iM h0 ad u sz [.ref h0]) (mQi D cl cB cI cJ cZ cS iM h0 ad (mA cB cI cJ cZ cS iM h0 ad u sz) x) 0 0 (mA cB cI cJ cZ cS iM h0 ad u sz) := (cg_M_behind N hM 300).2.2.2.2.2.2.2.2.2.2.2.2.2.2.2.1 _ _ _ hf
def fr_M_clause (N : Nat) (u : MS) (v1 : Int32) : Option (MS × Int32) := (rc_M_behind N 300).2.2.2.2.2.2.2.2.2.2.2.2.2.2.2.2 u v1
def rm_M_clause : Room := rg_M_behind 300
theorem c_M_clause (N : Nat) {l : Launch} {D : va_G} {cl : List vw_C} {cB cI cJ cZ cS : ClassId} {iM h0 : Nat} {ad : Nat → Nat} {u : MS} {sz : Nat} {v1 : Int32} {x : MS × Int32} (hM : cl[iM]? = some (R_M, F_M, 171)) (hf : fr_M_clause N u v1 = some x) : Met l y_M_clause (wd_ws y_M_clause b_M_clause 6 (some .int)) rm_M_clause (mPc D cl cB cI cJ cZ cS iM h0 ad u sz [.ref h0, .int v1]) (mQi D cl cB cI cJ cZ cS iM h0 ad (mA cB cI cJ cZ cS iM h0 ad u sz) x) 0 0 (mA cB cI cJ cZ cS iM h0 ad u sz) := (cg_M_behind N hM 300).2.2.2.2.2.2.2.2.2.2.2.2.2.2.2.2 _ _ _ _ hf
abbrev b_M_predefinedOf : ByteArray := prog_14_method_71_code
def y_M_predefinedOf : MethodName := ⟨R_M, "predefinedOf", "(II)I"⟩
def w_M_predefinedOf : List Cond := wd_ws y_M_predefinedOf b_M_predefinedOf 8 (some .int)
set_option maxRecDepth 100000 in
theorem k_M_predefinedOf : Cond.code y_M_predefinedOf b_M_predefinedOf 8 (some .int) ∈ wd_tbl := wd_of 2879 rfl rfl
theorem d_M_predefinedOf_0 : decode b_M_predefinedOf 0 = .ok (.iconst 0, 1) := by decide +kernel
theorem d_M_predefinedOf_1 : decode b_M_predefinedOf 1 = .ok (.istore_n 3, 1) := by decide +kernel
theorem d_M_predefinedOf_2 : decode b_M_predefinedOf 2 = .ok (.iconst 0, 1) := by decide +kernel
theorem d_M_predefinedOf_3 : decode b_M_predefinedOf 3 = .ok (.istore 4, 2) := by decide +kernel
theorem d_M_predefinedOf_5 : decode b_M_predefinedOf 5 = .ok (.iload_n 3, 1) := by decide +kernel
theorem d_M_predefinedOf_6 : decode b_M_predefinedOf 6 = .ok (.aload_n 0, 1) := by decide +kernel
theorem d_M_predefinedOf_7 : decode b_M_predefinedOf 7 = .ok (.getfield 16, 3) := by decide +kernel
theorem d_M_predefinedOf_10 : decode b_M_predefinedOf 10 = .ok (.arraylength, 1) := by decide +kernel
theorem d_M_predefinedOf_11 : decode b_M_predefinedOf 11 = .ok (.if_icmp .ge 127, 3) := by decide +kernel
theorem d_M_predefinedOf_14 : decode b_M_predefinedOf 14 = .ok (.aload_n 0, 1) := by decide +kernel
theorem d_M_predefinedOf_15 : decode b_M_predefinedOf 15 = .ok (.getfield 16, 3) := by decide +kernel
theorem d_M_predefinedOf_18 : decode b_M_predefinedOf 18 = .ok (.iload_n 3, 1) := by decide +kernel
theorem d_M_predefinedOf_19 : decode b_M_predefinedOf 19 = .ok (.iconst 1, 1) := by decide +kernel
theorem d_M_predefinedOf_20 : decode b_M_predefinedOf 20 = .ok (.iadd, 1) := by decide +kernel
theorem d_M_predefinedOf_21 : decode b_M_predefinedOf 21 = .ok (.baload, 1) := by decide +kernel
theorem d_M_predefinedOf_22 : decode b_M_predefinedOf 22 = .ok (.istore 5, 2) := by decide +kernel
theorem d_M_predefinedOf_24 : decode b_M_predefinedOf 24 = .ok (.aload_n 0, 1) := by decide +kernel
theorem d_M_predefinedOf_25 : decode b_M_predefinedOf 25 = .ok (.getfield 16, 3) := by decide +kernel
theorem d_M_predefinedOf_28 : decode b_M_predefinedOf 28 = .ok (.iload_n 3, 1) := by decide +kernel
theorem d_M_predefinedOf_29 : decode b_M_predefinedOf 29 = .ok (.baload, 1) := by decide +kernel
theorem d_M_predefinedOf_30 : decode b_M_predefinedOf 30 = .ok (.iload_n 2, 1) := by decide +kernel
theorem d_M_predefinedOf_31 : decode b_M_predefinedOf 31 = .ok (.if_icmp .ne 27, 3) := by decide +kernel
theorem d_M_predefinedOf_34 : decode b_M_predefinedOf 34 = .ok (.aload_n 0, 1) := by decide +kernel
theorem d_M_predefinedOf_35 : decode b_M_predefinedOf 35 = .ok (.getfield 35, 3) := by decide +kernel
theorem d_M_predefinedOf_38 : decode b_M_predefinedOf 38 = .ok (.iload_n 1, 1) := by decide +kernel
theorem d_M_predefinedOf_39 : decode b_M_predefinedOf 39 = .ok (.iconst 1, 1) := by decide +kernel
theorem d_M_predefinedOf_40 : decode b_M_predefinedOf 40 = .ok (.iadd, 1) := by decide +kernel
theorem d_M_predefinedOf_41 : decode b_M_predefinedOf 41 = .ok (.iaload, 1) := by decide +kernel
theorem d_M_predefinedOf_42 : decode b_M_predefinedOf 42 = .ok (.aload_n 0, 1) := by decide +kernel
theorem d_M_predefinedOf_43 : decode b_M_predefinedOf 43 = .ok (.getfield 35, 3) := by decide +kernel
theorem d_M_predefinedOf_46 : decode b_M_predefinedOf 46 = .ok (.iload_n 1, 1) := by decide +kernel
theorem d_M_predefinedOf_47 : decode b_M_predefinedOf 47 = .ok (.iaload, 1) := by decide +kernel
theorem d_M_predefinedOf_48 : decode b_M_predefinedOf 48 = .ok (.isub, 1) := by decide +kernel
theorem d_M_predefinedOf_49 : decode b_M_predefinedOf 49 = .ok (.iload 5, 2) := by decide +kernel
theorem d_M_predefinedOf_51 : decode b_M_predefinedOf 51 = .ok (.if_icmp .ne 7, 3) := by decide +kernel
theorem d_M_predefinedOf_54 : decode b_M_predefinedOf 54 = .ok (.iconst 1, 1) := by decide +kernel
theorem d_M_predefinedOf_55 : decode b_M_predefinedOf 55 = .ok (.goto 4, 3) := by decide +kernel
theorem d_M_predefinedOf_58 : decode b_M_predefinedOf 58 = .ok (.iconst 0, 1) := by decide +kernel
theorem d_M_predefinedOf_59 : decode b_M_predefinedOf 59 = .ok (.istore 6, 2) := by decide +kernel
theorem d_M_predefinedOf_61 : decode b_M_predefinedOf 61 = .ok (.iconst 0, 1) := by decide +kernel
theorem d_M_predefinedOf_62 : decode b_M_predefinedOf 62 = .ok (.istore 7, 2) := by decide +kernel
theorem d_M_predefinedOf_64 : decode b_M_predefinedOf 64 = .ok (.iload 7, 2) := by decide +kernel
theorem d_M_predefinedOf_66 : decode b_M_predefinedOf 66 = .ok (.iload 5, 2) := by decide +kernel
theorem d_M_predefinedOf_68 : decode b_M_predefinedOf 68 = .ok (.if_icmp .ge 49, 3) := by decide +kernel
theorem d_M_predefinedOf_71 : decode b_M_predefinedOf 71 = .ok (.iload 6, 2) := by decide +kernel
theorem d_M_predefinedOf_73 : decode b_M_predefinedOf 73 = .ok (.ifCond .eq 44, 3) := by decide +kernel
theorem d_M_predefinedOf_76 : decode b_M_predefinedOf 76 = .ok (.aload_n 0, 1) := by decide +kernel
theorem d_M_predefinedOf_77 : decode b_M_predefinedOf 77 = .ok (.getfield 16, 3) := by decide +kernel
theorem d_M_predefinedOf_80 : decode b_M_predefinedOf 80 = .ok (.iload_n 3, 1) := by decide +kernel
theorem d_M_predefinedOf_81 : decode b_M_predefinedOf 81 = .ok (.iconst 2, 1) := by decide +kernel
theorem d_M_predefinedOf_82 : decode b_M_predefinedOf 82 = .ok (.iadd, 1) := by decide +kernel
theorem d_M_predefinedOf_83 : decode b_M_predefinedOf 83 = .ok (.iload 7, 2) := by decide +kernel
theorem d_M_predefinedOf_85 : decode b_M_predefinedOf 85 = .ok (.iadd, 1) := by decide +kernel
theorem d_M_predefinedOf_86 : decode b_M_predefinedOf 86 = .ok (.baload, 1) := by decide +kernel
theorem d_M_predefinedOf_87 : decode b_M_predefinedOf 87 = .ok (.aload_n 0, 1) := by decide +kernel
theorem d_M_predefinedOf_88 : decode b_M_predefinedOf 88 = .ok (.getfield 32, 3) := by decide +kernel
theorem d_M_predefinedOf_91 : decode b_M_predefinedOf 91 = .ok (.aload_n 0, 1) := by decide +kernel
theorem d_M_predefinedOf_92 : decode b_M_predefinedOf 92 = .ok (.getfield 35, 3) := by decide +kernel
theorem d_M_predefinedOf_95 : decode b_M_predefinedOf 95 = .ok (.iload_n 1, 1) := by decide +kernel
theorem d_M_predefinedOf_96 : decode b_M_predefinedOf 96 = .ok (.iaload, 1) := by decide +kernel
theorem d_M_predefinedOf_97 : decode b_M_predefinedOf 97 = .ok (.iload 7, 2) := by decide +kernel
theorem d_M_predefinedOf_99 : decode b_M_predefinedOf 99 = .ok (.iadd, 1) := by decide +kernel
theorem d_M_predefinedOf_100 : decode b_M_predefinedOf 100 = .ok (.baload, 1) := by decide +kernel
theorem d_M_predefinedOf_101 : decode b_M_predefinedOf 101 = .ok (.if_icmp .ne 7, 3) := by decide +kernel
theorem d_M_predefinedOf_104 : decode b_M_predefinedOf 104 = .ok (.iconst 1, 1) := by decide +kernel
theorem d_M_predefinedOf_105 : decode b_M_predefinedOf 105 = .ok (.goto 4, 3) := by decide +kernel
theorem d_M_predefinedOf_108 : decode b_M_predefinedOf 108 = .ok (.iconst 0, 1) := by decide +kernel
theorem d_M_predefinedOf_109 : decode b_M_predefinedOf 109 = .ok (.istore 6, 2) := by decide +kernel
theorem d_M_predefinedOf_111 : decode b_M_predefinedOf 111 = .ok (.iinc 7 1, 3) := by decide +kernel
theorem d_M_predefinedOf_114 : decode b_M_predefinedOf 114 = .ok (.goto (-50), 3) := by decide +kernel
theorem d_M_predefinedOf_117 : decode b_M_predefinedOf 117 = .ok (.iload 6, 2) := by decide +kernel
theorem d_M_predefinedOf_119 : decode b_M_predefinedOf 119 = .ok (.ifCond .eq 6, 3) := by decide +kernel
theorem d_M_predefinedOf_122 : decode b_M_predefinedOf 122 = .ok (.iload 4, 2) := by decide +kernel
theorem d_M_predefinedOf_124 : decode b_M_predefinedOf 124 = .ok (.ireturn, 1) := by decide +kernel
theorem d_M_predefinedOf_125 : decode b_M_predefinedOf 125 = .ok (.iload_n 3, 1) := by decide +kernel
theorem d_M_predefinedOf_126 : decode b_M_predefinedOf 126 = .ok (.iload 5, 2) := by decide +kernel
theorem d_M_predefinedOf_128 : decode b_M_predefinedOf 128 = .ok (.iconst 2, 1) := by decide +kernel
theorem d_M_predefinedOf_129 : decode b_M_predefinedOf 129 = .ok (.iadd, 1) := by decide +kernel
theorem d_M_predefinedOf_130 : decode b_M_predefinedOf 130 = .ok (.iadd, 1) := by decide +kernel
theorem d_M_predefinedOf_131 : decode b_M_predefinedOf 131 = .ok (.istore_n 3, 1) := by decide +kernel
theorem d_M_predefinedOf_132 : decode b_M_predefinedOf 132 = .ok (.iinc 4 1, 3) := by decide +kernel
theorem d_M_predefinedOf_135 : decode b_M_predefinedOf 135 = .ok (.goto (-130), 3) := by decide +kernel
theorem d_M_predefinedOf_138 : decode b_M_predefinedOf 138 = .ok (.iconst (-1), 1) := by decide +kernel
theorem d_M_predefinedOf_139 : decode b_M_predefinedOf 139 = .ok (.ireturn, 1) := by decide +kernel
set_option maxRecDepth 100000 in
theorem hl_M_predefinedOf : Cond.methodLink R_M 532 y_M_predefinedOf ∈ wd_tbl := wd_of 2876 (by decide +kernel) rfl
set_option maxRecDepth 100000 in
theorem hi_M_predefinedOf : Cond.instanceMethod y_M_predefinedOf ∈ wd_tbl := wd_of 2878 (by decide +kernel) rfl
set_option maxRecDepth 100000 in
theorem hs_M_predefinedOf : Cond.selects R_M y_M_predefinedOf y_M_predefinedOf ∈ wd_tbl := wd_of 183 (by decide +kernel) rfl
theorem hd_M_predefinedOf : y_M_predefinedOf.cls = R_M ∧ y_M_predefinedOf.cls ≠ "java/lang/invoke/MethodHandle" ∧ y_M_predefinedOf.cls ≠ "java/lang/invoke/VarHandle" ∧ (parseMethodDescriptor y_M_predefinedOf.desc).map (fun d => d.parameters.length) = some 2 := by decide +kernel
def rm_M_predefinedOf : Room := { frames := 0, cells := 0, slots := 0, locals := 0 }
def fb_M_predefinedOf_117 (N : Nat) (G : (MS → Int32 → Int32 → Int32 → Int32 → Option (MS × Int32)) × (MS → Int32 → Int32 → Int32 → Int32 → Int32 → Int32 → Int32 → Option (MS × Int32))) (u : MS) (v1 : Int32) (v2 : Int32) (v3 : Int32) (v4 : Int32) (v5 : Int32) (v6 : Int32) : Option (MS × Int32) := br (decide (v6 = 0)) (G.1 u (v1) (v2) ((v3 + (v5 + 2))) ((v4 + 1))) (some (u, v4))
set_option maxRecDepth 100000 in
set_option maxHeartbeats 4000000 in
theorem wb_M_predefinedOf_117 {p : Program} {l : Launch} {e : Env} {R : Room} {s : State} {m : MethodId} {args : Array Value} {below : List Frame} {meth : Method} {c : Code} {D : va_G} {cl : List vw_C} {cB cI cJ cZ cS : ClassId} {A : Nat → Prop} {iM h0 : Nat} {ad : Nat → Nat} (C0 : MCx p s m args meth c b_M_predefinedOf 8 (some .int) D cl cB cI cJ cZ cS iM A) (hR : R = rm_M_predefinedOf) (N : Nat) (G : (MS → Int32 → Int32 → Int32 → Int32 → Option (MS × Int32)) × (MS → Int32 → Int32 → Int32 → Int32 → Int32 → Int32 → Int32 → Option (MS × Int32))) (hG : (∀ (u : MS) (v1 : Int32) (v2 : Int32) (v3 : Int32) (v4 : Int32) (x : MS × Int32), G.1 u v1 v2 v3 v4 = some x → ∀ (H : Heap) (locs : List Loc), va_P D cl (wM cB cI cJ cZ cS iM h0 ad u) H → va_D A (wM cB cI cJ cZ cS iM h0 ad u) → va_S A s.heap H locs → ∀ (ls : Array Slot), lv_has ls 8 [(0, .ref h0), (1, .int v1), (2, .int v2), (3, .int v3), (4, .int v4)] → W p l e R s m args below meth c H locs 0 0 (MQ below (mQi D cl cB cI cJ cZ cS iM h0 ad A x) args s 0 0 A) (F0 m 5 ls [])) ∧ (∀ (u : MS) (v1 : Int32) (v2 : Int32) (v3 : Int32) (v4 : Int32) (v5 : Int32) (v6 : Int32) (v7 : Int32) (x : MS × Int32), G.2 u v1 v2 v3 v4 v5 v6 v7 = some x → ∀ (H : Heap) (locs : List Loc), va_P D cl (wM cB cI cJ cZ cS iM h0 ad u) H → va_D A (wM cB cI cJ cZ cS iM h0 ad u) → va_S A s.heap H locs → ∀ (ls : Array Slot), lv_has ls 8 [(0, .ref h0), (1, .int v1), (2, .int v2), (3, .int v3), (4, .int v4), (5, .int v5), (6, .int v6), (7, .int v7)] → W p l e R s m args below meth c H locs 0 0 (MQ below (mQi D cl cB cI cJ cZ cS iM h0 ad A x) args s 0 0 A) (F0 m 64 ls []))) : ∀ (u : MS) (v1 : Int32) (v2 : Int32) (v3 : Int32) (v4 : Int32) (v5 : Int32) (v6 : Int32) (x : MS × Int32), fb_M_predefinedOf_117 N G u v1 v2 v3 v4 v5 v6 = some x → ∀ (H : Heap) (locs : List Loc), va_P D cl (wM cB cI cJ cZ cS iM h0 ad u) H → va_D A (wM cB cI cJ cZ cS iM h0 ad u) → va_S A s.heap H locs → ∀ (ls : Array Slot), lv_has ls 8 [(0, .ref h0), (1, .int v1), (2, .int v2), (3, .int v3), (4, .int v4), (5, .int v5), (6, .int v6)] → W p l e R s m args below meth c H locs 0 0 (MQ below (mQi D cl cB cI cJ cZ cS iM h0 ad A x) args s 0 0 A) (F0 m 117 ls []) := by
  intro u v1 v2 v3 v4 v5 v6 x hf H locs hP hD hS ls hl
  obtain ⟨hx, hb, hr, hml, ht, hown, hM, hK, hA, hlocks⟩ := id C0
  unfold fb_M_predefinedOf_117 at hf
  refine lv_iload hx hb d_M_predefinedOf_117 (lv_at hl 6 rfl) ?_
  refine lv_if_eq (tgt := 125) hx hb d_M_predefinedOf_119 (by decide) (fun hc => ?_) (fun hc => ?_)
  · rw [br_p _ hc] at hf
    refine lv_iload_n hx hb d_M_predefinedOf_125 rfl (lv_at hl 3 rfl) ?_
    refine lv_iload hx hb d_M_predefinedOf_126 (lv_at hl 5 rfl) ?_
    refine lv_iconst (v := 2) hx hb d_M_predefinedOf_128 (by decide) ?_
    refine lv_iadd hx hb d_M_predefinedOf_129 ?_
    refine lv_iadd hx hb d_M_predefinedOf_130 ?_
    refine lv_istore_n (lv' := [(3, .int (v3 + (v5 + 2))), (0, .ref h0), (1, .int v1), (2, .int v2), (4, .int v4), (5, .int v5), (6, .int v6)]) hx hb d_M_predefinedOf_131 rfl hl (by decide) rfl (fun ls hl => ?_)
    refine lv_iinc (v := (v4 + 1)) (lv' := [(4, .int (v4 + 1)), (3, .int (v3 + (v5 + 2))), (0, .ref h0), (1, .int v1), (2, .int v2), (5, .int v5), (6, .int v6)]) hx hb d_M_predefinedOf_132 hl (k := 4) rfl rfl (by decide) rfl (fun ls hl => ?_)
    refine lv_goto (tgt := 5) hx hb d_M_predefinedOf_135 (by decide) ?_
    exact hG.1 _ _ _ _ _ _ hf H locs hP hD hS ls (lv_sub hl [2, 3, 4, 1, 0] rfl)
  · rw [br_n _ hc] at hf
    refine lv_iload hx hb d_M_predefinedOf_122 (lv_at hl 4 rfl) ?_
    exact mr_i C0 hP hD hS hf d_M_predefinedOf_124
def fb_M_predefinedOf_109 (N : Nat) (G : (MS → Int32 → Int32 → Int32 → Int32 → Option (MS × Int32)) × (MS → Int32 → Int32 → Int32 → Int32 → Int32 → Int32 → Int32 → Option (MS × Int32))) (u : MS) (v1 : Int32) (v2 : Int32) (v3 : Int32) (v4 : Int32) (v5 : Int32) (v7 : Int32) (t0 : Int32) : Option (MS × Int32) := G.2 u (v1) (v2) (v3) (v4) (v5) (t0) ((v7 + 1))
set_option maxRecDepth 100000 in
set_option maxHeartbeats 4000000 in
theorem wb_M_predefinedOf_109 {p : Program} {l : Launch} {e : Env} {R : Room} {s : State} {m : MethodId} {args : Array Value} {below : List Frame} {meth : Method} {c : Code} {D : va_G} {cl : List vw_C} {cB cI cJ cZ cS : ClassId} {A : Nat → Prop} {iM h0 : Nat} {ad : Nat → Nat} (C0 : MCx p s m args meth c b_M_predefinedOf 8 (some .int) D cl cB cI cJ cZ cS iM A) (hR : R = rm_M_predefinedOf) (N : Nat) (G : (MS → Int32 → Int32 → Int32 → Int32 → Option (MS × Int32)) × (MS → Int32 → Int32 → Int32 → Int32 → Int32 → Int32 → Int32 → Option (MS × Int32))) (hG : (∀ (u : MS) (v1 : Int32) (v2 : Int32) (v3 : Int32) (v4 : Int32) (x : MS × Int32), G.1 u v1 v2 v3 v4 = some x → ∀ (H : Heap) (locs : List Loc), va_P D cl (wM cB cI cJ cZ cS iM h0 ad u) H → va_D A (wM cB cI cJ cZ cS iM h0 ad u) → va_S A s.heap H locs → ∀ (ls : Array Slot), lv_has ls 8 [(0, .ref h0), (1, .int v1), (2, .int v2), (3, .int v3), (4, .int v4)] → W p l e R s m args below meth c H locs 0 0 (MQ below (mQi D cl cB cI cJ cZ cS iM h0 ad A x) args s 0 0 A) (F0 m 5 ls [])) ∧ (∀ (u : MS) (v1 : Int32) (v2 : Int32) (v3 : Int32) (v4 : Int32) (v5 : Int32) (v6 : Int32) (v7 : Int32) (x : MS × Int32), G.2 u v1 v2 v3 v4 v5 v6 v7 = some x → ∀ (H : Heap) (locs : List Loc), va_P D cl (wM cB cI cJ cZ cS iM h0 ad u) H → va_D A (wM cB cI cJ cZ cS iM h0 ad u) → va_S A s.heap H locs → ∀ (ls : Array Slot), lv_has ls 8 [(0, .ref h0), (1, .int v1), (2, .int v2), (3, .int v3), (4, .int v4), (5, .int v5), (6, .int v6), (7, .int v7)] → W p l e R s m args below meth c H locs 0 0 (MQ below (mQi D cl cB cI cJ cZ cS iM h0 ad A x) args s 0 0 A) (F0 m 64 ls []))) : ∀ (u : MS) (v1 : Int32) (v2 : Int32) (v3 : Int32) (v4 : Int32) (v5 : Int32) (v7 : Int32) (t0 : Int32) (x : MS × Int32), fb_M_predefinedOf_109 N G u v1 v2 v3 v4 v5 v7 t0 = some x → ∀ (H : Heap) (locs : List Loc), va_P D cl (wM cB cI cJ cZ cS iM h0 ad u) H → va_D A (wM cB cI cJ cZ cS iM h0 ad u) → va_S A s.heap H locs → ∀ (ls : Array Slot), lv_has ls 8 [(0, .ref h0), (1, .int v1), (2, .int v2), (3, .int v3), (4, .int v4), (5, .int v5), (7, .int v7)] → W p l e R s m args below meth c H locs 0 0 (MQ below (mQi D cl cB cI cJ cZ cS iM h0 ad A x) args s 0 0 A) (F0 m 109 ls [.int t0]) := by
  intro u v1 v2 v3 v4 v5 v7 t0 x hf H locs hP hD hS ls hl
  obtain ⟨hx, hb, hr, hml, ht, hown, hM, hK, hA, hlocks⟩ := id C0
  unfold fb_M_predefinedOf_109 at hf
  refine lv_istore (lv' := [(6, .int t0), (0, .ref h0), (1, .int v1), (2, .int v2), (3, .int v3), (4, .int v4), (5, .int v5), (7, .int v7)]) hx hb d_M_predefinedOf_109 hl (by decide) rfl (fun ls hl => ?_)
  refine lv_iinc (v := (v7 + 1)) (lv' := [(7, .int (v7 + 1)), (6, .int t0), (0, .ref h0), (1, .int v1), (2, .int v2), (3, .int v3), (4, .int v4), (5, .int v5)]) hx hb d_M_predefinedOf_111 hl (k := 7) rfl rfl (by decide) rfl (fun ls hl => ?_)
  refine lv_goto (tgt := 64) hx hb d_M_predefinedOf_114 (by decide) ?_
  exact hG.2 _ _ _ _ _ _ _ _ _ hf H locs hP hD hS ls (lv_sub hl [2, 3, 4, 5, 6, 7, 1, 0] rfl)
def fb_M_predefinedOf_64 (N : Nat) (G : (MS → Int32 → Int32 → Int32 → Int32 → Option (MS × Int32)) × (MS → Int32 → Int32 → Int32 → Int32 → Int32 → Int32 → Int32 → Option (MS × Int32))) (u : MS) (v1 : Int32) (v2 : Int32) (v3 : Int32) (v4 : Int32) (v5 : Int32) (v6 : Int32) (v7 : Int32) : Option (MS × Int32) := br (decide (v5 ≤ v7)) (fb_M_predefinedOf_117 N G u (v1) (v2) (v3) (v4) (v5) (v6)) (br (decide (v6 = 0)) (fb_M_predefinedOf_117 N G u (v1) (v2) (v3) (v4) (v5) (v6)) (ck (inb ((v3 + 2) + v7) (ln 2)) (ck (inb v1 (ln 13)) (ck (inb ((u.2.2.1 13 v1.toNatClampNeg) + v7) (ln 12)) (br (decide ((u.2.2.1 2 ((v3 + 2) + v7).toNatClampNeg) = (u.2.2.1 12 ((u.2.2.1 13 v1.toNatClampNeg) + v7).toNatClampNeg))) (fb_M_predefinedOf_109 N G u (v1) (v2) (v3) (v4) (v5) (v7) (1)) (fb_M_predefinedOf_109 N G u (v1) (v2) (v3) (v4) (v5) (v7) (0)))))))
set_option maxRecDepth 100000 in
set_option maxHeartbeats 4000000 in
theorem wb_M_predefinedOf_64 {p : Program} {l : Launch} {e : Env} {R : Room} {s : State} {m : MethodId} {args : Array Value} {below : List Frame} {meth : Method} {c : Code} {D : va_G} {cl : List vw_C} {cB cI cJ cZ cS : ClassId} {A : Nat → Prop} {iM h0 : Nat} {ad : Nat → Nat} (C0 : MCx p s m args meth c b_M_predefinedOf 8 (some .int) D cl cB cI cJ cZ cS iM A) (hR : R = rm_M_predefinedOf) (N : Nat) (G : (MS → Int32 → Int32 → Int32 → Int32 → Option (MS × Int32)) × (MS → Int32 → Int32 → Int32 → Int32 → Int32 → Int32 → Int32 → Option (MS × Int32))) (hG : (∀ (u : MS) (v1 : Int32) (v2 : Int32) (v3 : Int32) (v4 : Int32) (x : MS × Int32), G.1 u v1 v2 v3 v4 = some x → ∀ (H : Heap) (locs : List Loc), va_P D cl (wM cB cI cJ cZ cS iM h0 ad u) H → va_D A (wM cB cI cJ cZ cS iM h0 ad u) → va_S A s.heap H locs → ∀ (ls : Array Slot), lv_has ls 8 [(0, .ref h0), (1, .int v1), (2, .int v2), (3, .int v3), (4, .int v4)] → W p l e R s m args below meth c H locs 0 0 (MQ below (mQi D cl cB cI cJ cZ cS iM h0 ad A x) args s 0 0 A) (F0 m 5 ls [])) ∧ (∀ (u : MS) (v1 : Int32) (v2 : Int32) (v3 : Int32) (v4 : Int32) (v5 : Int32) (v6 : Int32) (v7 : Int32) (x : MS × Int32), G.2 u v1 v2 v3 v4 v5 v6 v7 = some x → ∀ (H : Heap) (locs : List Loc), va_P D cl (wM cB cI cJ cZ cS iM h0 ad u) H → va_D A (wM cB cI cJ cZ cS iM h0 ad u) → va_S A s.heap H locs → ∀ (ls : Array Slot), lv_has ls 8 [(0, .ref h0), (1, .int v1), (2, .int v2), (3, .int v3), (4, .int v4), (5, .int v5), (6, .int v6), (7, .int v7)] → W p l e R s m args below meth c H locs 0 0 (MQ below (mQi D cl cB cI cJ cZ cS iM h0 ad A x) args s 0 0 A) (F0 m 64 ls []))) : ∀ (u : MS) (v1 : Int32) (v2 : Int32) (v3 : Int32) (v4 : Int32) (v5 : Int32) (v6 : Int32) (v7 : Int32) (x : MS × Int32), fb_M_predefinedOf_64 N G u v1 v2 v3 v4 v5 v6 v7 = some x → ∀ (H : Heap) (locs : List Loc), va_P D cl (wM cB cI cJ cZ cS iM h0 ad u) H → va_D A (wM cB cI cJ cZ cS iM h0 ad u) → va_S A s.heap H locs → ∀ (ls : Array Slot), lv_has ls 8 [(0, .ref h0), (1, .int v1), (2, .int v2), (3, .int v3), (4, .int v4), (5, .int v5), (6, .int v6), (7, .int v7)] → W p l e R s m args below meth c H locs 0 0 (MQ below (mQi D cl cB cI cJ cZ cS iM h0 ad A x) args s 0 0 A) (F0 m 64 ls []) := by
  intro u v1 v2 v3 v4 v5 v6 v7 x hf H locs hP hD hS ls hl
  obtain ⟨hx, hb, hr, hml, ht, hown, hM, hK, hA, hlocks⟩ := id C0
  unfold fb_M_predefinedOf_64 at hf
  refine lv_iload hx hb d_M_predefinedOf_64 (lv_at hl 7 rfl) ?_
  refine lv_iload hx hb d_M_predefinedOf_66 (lv_at hl 5 rfl) ?_
  refine lv_icmp_ge (tgt := 117) hx hb d_M_predefinedOf_68 (by decide) (fun hc => ?_) (fun hc => ?_)
  · rw [br_p _ hc] at hf
    exact wb_M_predefinedOf_117 C0 hR N G hG _ _ _ _ _ _ _ _ hf H locs hP hD hS ls (lv_sub hl [0, 1, 2, 3, 4, 5, 6] rfl)
  · rw [br_n _ hc] at hf
    refine lv_iload hx hb d_M_predefinedOf_71 (lv_at hl 6 rfl) ?_
    refine lv_if_eq (tgt := 117) hx hb d_M_predefinedOf_73 (by decide) (fun hc => ?_) (fun hc => ?_)
    · rw [br_p _ hc] at hf
      exact wb_M_predefinedOf_117 C0 hR N G hG _ _ _ _ _ _ _ _ hf H locs hP hD hS ls (lv_sub hl [0, 1, 2, 3, 4, 5, 6] rfl)
    · rw [br_n _ hc] at hf
      refine lv_aload_n hx hb d_M_predefinedOf_76 rfl (lv_at hl 0 rfl) ?_
      refine ug_R hx hb ht hown hM hK hP 2 (by decide) lk_M_2 (by decide) d_M_predefinedOf_77 ?_
      refine lv_iload_n hx hb d_M_predefinedOf_80 rfl (lv_at hl 3 rfl) ?_
      refine lv_iconst (v := 2) hx hb d_M_predefinedOf_81 (by decide) ?_
      refine lv_iadd hx hb d_M_predefinedOf_82 ?_
      refine lv_iload hx hb d_M_predefinedOf_83 (lv_at hl 7 rfl) ?_
      refine lv_iadd hx hb d_M_predefinedOf_85 ?_
      obtain ⟨hi9, hf⟩ := ck_some hf
      refine ul_B hx hb hK hP (by decide) (by decide) hi9 d_M_predefinedOf_86 ?_
      refine lv_aload_n hx hb d_M_predefinedOf_87 rfl (lv_at hl 0 rfl) ?_
      refine ug_R hx hb ht hown hM hK hP 12 (by decide) lk_M_12 (by decide) d_M_predefinedOf_88 ?_
      refine lv_aload_n hx hb d_M_predefinedOf_91 rfl (lv_at hl 0 rfl) ?_
      refine ug_R hx hb ht hown hM hK hP 13 (by decide) lk_M_13 (by decide) d_M_predefinedOf_92 ?_
      refine lv_iload_n hx hb d_M_predefinedOf_95 rfl (lv_at hl 1 rfl) ?_
      obtain ⟨hi9, hf⟩ := ck_some hf
      refine ul_I hx hb hK hP (by decide) (by decide) hi9 d_M_predefinedOf_96 ?_
      refine lv_iload hx hb d_M_predefinedOf_97 (lv_at hl 7 rfl) ?_
      refine lv_iadd hx hb d_M_predefinedOf_99 ?_
      obtain ⟨hi9, hf⟩ := ck_some hf
      refine ul_B hx hb hK hP (by decide) (by decide) hi9 d_M_predefinedOf_100 ?_
      refine lv_icmp_ne (tgt := 108) hx hb d_M_predefinedOf_101 (by decide) (fun hc => ?_) (fun hc => ?_)
      · rw [br_n _ hc] at hf
        refine lv_iconst (v := 0) hx hb d_M_predefinedOf_108 (by decide) ?_
        exact wb_M_predefinedOf_109 C0 hR N G hG _ _ _ _ _ _ _ _ _ hf H locs hP hD hS ls (lv_sub hl [0, 1, 2, 3, 4, 5, 7] rfl)
      · rw [br_p _ hc] at hf
        refine lv_iconst (v := 1) hx hb d_M_predefinedOf_104 (by decide) ?_
        refine lv_goto (tgt := 109) hx hb d_M_predefinedOf_105 (by decide) ?_
        exact wb_M_predefinedOf_109 C0 hR N G hG _ _ _ _ _ _ _ _ _ hf H locs hP hD hS ls (lv_sub hl [0, 1, 2, 3, 4, 5, 7] rfl)
def fb_M_predefinedOf_59 (N : Nat) (G : (MS → Int32 → Int32 → Int32 → Int32 → Option (MS × Int32)) × (MS → Int32 → Int32 → Int32 → Int32 → Int32 → Int32 → Int32 → Option (MS × Int32))) (u : MS) (v1 : Int32) (v2 : Int32) (v3 : Int32) (v4 : Int32) (v5 : Int32) (t0 : Int32) : Option (MS × Int32) := G.2 u (v1) (v2) (v3) (v4) (v5) (t0) (0)
set_option maxRecDepth 100000 in
set_option maxHeartbeats 4000000 in
theorem wb_M_predefinedOf_59 {p : Program} {l : Launch} {e : Env} {R : Room} {s : State} {m : MethodId} {args : Array Value} {below : List Frame} {meth : Method} {c : Code} {D : va_G} {cl : List vw_C} {cB cI cJ cZ cS : ClassId} {A : Nat → Prop} {iM h0 : Nat} {ad : Nat → Nat} (C0 : MCx p s m args meth c b_M_predefinedOf 8 (some .int) D cl cB cI cJ cZ cS iM A) (hR : R = rm_M_predefinedOf) (N : Nat) (G : (MS → Int32 → Int32 → Int32 → Int32 → Option (MS × Int32)) × (MS → Int32 → Int32 → Int32 → Int32 → Int32 → Int32 → Int32 → Option (MS × Int32))) (hG : (∀ (u : MS) (v1 : Int32) (v2 : Int32) (v3 : Int32) (v4 : Int32) (x : MS × Int32), G.1 u v1 v2 v3 v4 = some x → ∀ (H : Heap) (locs : List Loc), va_P D cl (wM cB cI cJ cZ cS iM h0 ad u) H → va_D A (wM cB cI cJ cZ cS iM h0 ad u) → va_S A s.heap H locs → ∀ (ls : Array Slot), lv_has ls 8 [(0, .ref h0), (1, .int v1), (2, .int v2), (3, .int v3), (4, .int v4)] → W p l e R s m args below meth c H locs 0 0 (MQ below (mQi D cl cB cI cJ cZ cS iM h0 ad A x) args s 0 0 A) (F0 m 5 ls [])) ∧ (∀ (u : MS) (v1 : Int32) (v2 : Int32) (v3 : Int32) (v4 : Int32) (v5 : Int32) (v6 : Int32) (v7 : Int32) (x : MS × Int32), G.2 u v1 v2 v3 v4 v5 v6 v7 = some x → ∀ (H : Heap) (locs : List Loc), va_P D cl (wM cB cI cJ cZ cS iM h0 ad u) H → va_D A (wM cB cI cJ cZ cS iM h0 ad u) → va_S A s.heap H locs → ∀ (ls : Array Slot), lv_has ls 8 [(0, .ref h0), (1, .int v1), (2, .int v2), (3, .int v3), (4, .int v4), (5, .int v5), (6, .int v6), (7, .int v7)] → W p l e R s m args below meth c H locs 0 0 (MQ below (mQi D cl cB cI cJ cZ cS iM h0 ad A x) args s 0 0 A) (F0 m 64 ls []))) : ∀ (u : MS) (v1 : Int32) (v2 : Int32) (v3 : Int32) (v4 : Int32) (v5 : Int32) (t0 : Int32) (x : MS × Int32), fb_M_predefinedOf_59 N G u v1 v2 v3 v4 v5 t0 = some x → ∀ (H : Heap) (locs : List Loc), va_P D cl (wM cB cI cJ cZ cS iM h0 ad u) H → va_D A (wM cB cI cJ cZ cS iM h0 ad u) → va_S A s.heap H locs → ∀ (ls : Array Slot), lv_has ls 8 [(0, .ref h0), (1, .int v1), (2, .int v2), (3, .int v3), (4, .int v4), (5, .int v5)] → W p l e R s m args below meth c H locs 0 0 (MQ below (mQi D cl cB cI cJ cZ cS iM h0 ad A x) args s 0 0 A) (F0 m 59 ls [.int t0]) := by
  intro u v1 v2 v3 v4 v5 t0 x hf H locs hP hD hS ls hl
  obtain ⟨hx, hb, hr, hml, ht, hown, hM, hK, hA, hlocks⟩ := id C0
  unfold fb_M_predefinedOf_59 at hf
  refine lv_istore (lv' := [(6, .int t0), (0, .ref h0), (1, .int v1), (2, .int v2), (3, .int v3), (4, .int v4), (5, .int v5)]) hx hb d_M_predefinedOf_59 hl (by decide) rfl (fun ls hl => ?_)
  refine lv_iconst (v := 0) hx hb d_M_predefinedOf_61 (by decide) ?_
  refine lv_istore (lv' := [(7, .int 0), (6, .int t0), (0, .ref h0), (1, .int v1), (2, .int v2), (3, .int v3), (4, .int v4), (5, .int v5)]) hx hb d_M_predefinedOf_62 hl (by decide) rfl (fun ls hl => ?_)
  exact hG.2 _ _ _ _ _ _ _ _ _ hf H locs hP hD hS ls (lv_sub hl [2, 3, 4, 5, 6, 7, 1, 0] rfl)
def fb_M_predefinedOf_58 (N : Nat) (G : (MS → Int32 → Int32 → Int32 → Int32 → Option (MS × Int32)) × (MS → Int32 → Int32 → Int32 → Int32 → Int32 → Int32 → Int32 → Option (MS × Int32))) (u : MS) (v1 : Int32) (v2 : Int32) (v3 : Int32) (v4 : Int32) (v5 : Int32) : Option (MS × Int32) := fb_M_predefinedOf_59 N G u (v1) (v2) (v3) (v4) (v5) (0)
set_option maxRecDepth 100000 in
set_option maxHeartbeats 4000000 in
theorem wb_M_predefinedOf_58 {p : Program} {l : Launch} {e : Env} {R : Room} {s : State} {m : MethodId} {args : Array Value} {below : List Frame} {meth : Method} {c : Code} {D : va_G} {cl : List vw_C} {cB cI cJ cZ cS : ClassId} {A : Nat → Prop} {iM h0 : Nat} {ad : Nat → Nat} (C0 : MCx p s m args meth c b_M_predefinedOf 8 (some .int) D cl cB cI cJ cZ cS iM A) (hR : R = rm_M_predefinedOf) (N : Nat) (G : (MS → Int32 → Int32 → Int32 → Int32 → Option (MS × Int32)) × (MS → Int32 → Int32 → Int32 → Int32 → Int32 → Int32 → Int32 → Option (MS × Int32))) (hG : (∀ (u : MS) (v1 : Int32) (v2 : Int32) (v3 : Int32) (v4 : Int32) (x : MS × Int32), G.1 u v1 v2 v3 v4 = some x → ∀ (H : Heap) (locs : List Loc), va_P D cl (wM cB cI cJ cZ cS iM h0 ad u) H → va_D A (wM cB cI cJ cZ cS iM h0 ad u) → va_S A s.heap H locs → ∀ (ls : Array Slot), lv_has ls 8 [(0, .ref h0), (1, .int v1), (2, .int v2), (3, .int v3), (4, .int v4)] → W p l e R s m args below meth c H locs 0 0 (MQ below (mQi D cl cB cI cJ cZ cS iM h0 ad A x) args s 0 0 A) (F0 m 5 ls [])) ∧ (∀ (u : MS) (v1 : Int32) (v2 : Int32) (v3 : Int32) (v4 : Int32) (v5 : Int32) (v6 : Int32) (v7 : Int32) (x : MS × Int32), G.2 u v1 v2 v3 v4 v5 v6 v7 = some x → ∀ (H : Heap) (locs : List Loc), va_P D cl (wM cB cI cJ cZ cS iM h0 ad u) H → va_D A (wM cB cI cJ cZ cS iM h0 ad u) → va_S A s.heap H locs → ∀ (ls : Array Slot), lv_has ls 8 [(0, .ref h0), (1, .int v1), (2, .int v2), (3, .int v3), (4, .int v4), (5, .int v5), (6, .int v6), (7, .int v7)] → W p l e R s m args below meth c H locs 0 0 (MQ below (mQi D cl cB cI cJ cZ cS iM h0 ad A x) args s 0 0 A) (F0 m 64 ls []))) : ∀ (u : MS) (v1 : Int32) (v2 : Int32) (v3 : Int32) (v4 : Int32) (v5 : Int32) (x : MS × Int32), fb_M_predefinedOf_58 N G u v1 v2 v3 v4 v5 = some x → ∀ (H : Heap) (locs : List Loc), va_P D cl (wM cB cI cJ cZ cS iM h0 ad u) H → va_D A (wM cB cI cJ cZ cS iM h0 ad u) → va_S A s.heap H locs → ∀ (ls : Array Slot), lv_has ls 8 [(0, .ref h0), (1, .int v1), (2, .int v2), (3, .int v3), (4, .int v4), (5, .int v5)] → W p l e R s m args below meth c H locs 0 0 (MQ below (mQi D cl cB cI cJ cZ cS iM h0 ad A x) args s 0 0 A) (F0 m 58 ls []) := by
  intro u v1 v2 v3 v4 v5 x hf H locs hP hD hS ls hl
  obtain ⟨hx, hb, hr, hml, ht, hown, hM, hK, hA, hlocks⟩ := id C0
  unfold fb_M_predefinedOf_58 at hf
  refine lv_iconst (v := 0) hx hb d_M_predefinedOf_58 (by decide) ?_
  exact wb_M_predefinedOf_59 C0 hR N G hG _ _ _ _ _ _ _ _ hf H locs hP hD hS ls (lv_sub hl [0, 1, 2, 3, 4, 5] rfl)
def fb_M_predefinedOf_5 (N : Nat) (G : (MS → Int32 → Int32 → Int32 → Int32 → Option (MS × Int32)) × (MS → Int32 → Int32 → Int32 → Int32 → Int32 → Int32 → Int32 → Option (MS × Int32))) (u : MS) (v1 : Int32) (v2 : Int32) (v3 : Int32) (v4 : Int32) : Option (MS × Int32) := br (decide ((Int32.ofNat (ln 2)) ≤ v3)) (some (u, (-1))) (ck (inb (v3 + 1) (ln 2)) (lt (u.2.2.1 2 (v3 + 1).toNatClampNeg) (fun y1 => ck (inb v3 (ln 2)) (br (decide ((u.2.2.1 2 v3.toNatClampNeg) = v2)) (ck (inb (v1 + 1) (ln 13)) (ck (inb v1 (ln 13)) (br (decide (((u.2.2.1 13 (v1 + 1).toNatClampNeg) - (u.2.2.1 13 v1.toNatClampNeg)) = y1)) (fb_M_predefinedOf_59 N G u (v1) (v2) (v3) (v4) (y1) (1)) (fb_M_predefinedOf_58 N G u (v1) (v2) (v3) (v4) (y1))))) (fb_M_predefinedOf_58 N G u (v1) (v2) (v3) (v4) (y1))))))
set_option maxRecDepth 100000 in
set_option maxHeartbeats 4000000 in
theorem wb_M_predefinedOf_5 {p : Program} {l : Launch} {e : Env} {R : Room} {s : State} {m : MethodId} {args : Array Value} {below : List Frame} {meth : Method} {c : Code} {D : va_G} {cl : List vw_C} {cB cI cJ cZ cS : ClassId} {A : Nat → Prop} {iM h0 : Nat} {ad : Nat → Nat} (C0 : MCx p s m args meth c b_M_predefinedOf 8 (some .int) D cl cB cI cJ cZ cS iM A) (hR : R = rm_M_predefinedOf) (N : Nat) (G : (MS → Int32 → Int32 → Int32 → Int32 → Option (MS × Int32)) × (MS → Int32 → Int32 → Int32 → Int32 → Int32 → Int32 → Int32 → Option (MS × Int32))) (hG : (∀ (u : MS) (v1 : Int32) (v2 : Int32) (v3 : Int32) (v4 : Int32) (x : MS × Int32), G.1 u v1 v2 v3 v4 = some x → ∀ (H : Heap) (locs : List Loc), va_P D cl (wM cB cI cJ cZ cS iM h0 ad u) H → va_D A (wM cB cI cJ cZ cS iM h0 ad u) → va_S A s.heap H locs → ∀ (ls : Array Slot), lv_has ls 8 [(0, .ref h0), (1, .int v1), (2, .int v2), (3, .int v3), (4, .int v4)] → W p l e R s m args below meth c H locs 0 0 (MQ below (mQi D cl cB cI cJ cZ cS iM h0 ad A x) args s 0 0 A) (F0 m 5 ls [])) ∧ (∀ (u : MS) (v1 : Int32) (v2 : Int32) (v3 : Int32) (v4 : Int32) (v5 : Int32) (v6 : Int32) (v7 : Int32) (x : MS × Int32), G.2 u v1 v2 v3 v4 v5 v6 v7 = some x → ∀ (H : Heap) (locs : List Loc), va_P D cl (wM cB cI cJ cZ cS iM h0 ad u) H → va_D A (wM cB cI cJ cZ cS iM h0 ad u) → va_S A s.heap H locs → ∀ (ls : Array Slot), lv_has ls 8 [(0, .ref h0), (1, .int v1), (2, .int v2), (3, .int v3), (4, .int v4), (5, .int v5), (6, .int v6), (7, .int v7)] → W p l e R s m args below meth c H locs 0 0 (MQ below (mQi D cl cB cI cJ cZ cS iM h0 ad A x) args s 0 0 A) (F0 m 64 ls []))) : ∀ (u : MS) (v1 : Int32) (v2 : Int32) (v3 : Int32) (v4 : Int32) (x : MS × Int32), fb_M_predefinedOf_5 N G u v1 v2 v3 v4 = some x → ∀ (H : Heap) (locs : List Loc), va_P D cl (wM cB cI cJ cZ cS iM h0 ad u) H → va_D A (wM cB cI cJ cZ cS iM h0 ad u) → va_S A s.heap H locs → ∀ (ls : Array Slot), lv_has ls 8 [(0, .ref h0), (1, .int v1), (2, .int v2), (3, .int v3), (4, .int v4)] → W p l e R s m args below meth c H locs 0 0 (MQ below (mQi D cl cB cI cJ cZ cS iM h0 ad A x) args s 0 0 A) (F0 m 5 ls []) := by
  intro u v1 v2 v3 v4 x hf H locs hP hD hS ls hl
  obtain ⟨hx, hb, hr, hml, ht, hown, hM, hK, hA, hlocks⟩ := id C0
  unfold fb_M_predefinedOf_5 at hf
  refine lv_iload_n hx hb d_M_predefinedOf_5 rfl (lv_at hl 3 rfl) ?_
  refine lv_aload_n hx hb d_M_predefinedOf_6 rfl (lv_at hl 0 rfl) ?_
  refine ug_R hx hb ht hown hM hK hP 2 (by decide) lk_M_2 (by decide) d_M_predefinedOf_7 ?_
  refine un_A hx hb hK hP (k := 2) (by decide) (by decide) d_M_predefinedOf_10 ?_
  refine lv_icmp_ge (tgt := 138) hx hb d_M_predefinedOf_11 (by decide) (fun hc => ?_) (fun hc => ?_)
  · rw [br_p _ hc] at hf
    refine lv_iconst (v := (-1)) hx hb d_M_predefinedOf_138 (by decide) ?_
    exact mr_i C0 hP hD hS hf d_M_predefinedOf_139
  · rw [br_n _ hc] at hf
    refine lv_aload_n hx hb d_M_predefinedOf_14 rfl (lv_at hl 0 rfl) ?_
    refine ug_R hx hb ht hown hM hK hP 2 (by decide) lk_M_2 (by decide) d_M_predefinedOf_15 ?_
    refine lv_iload_n hx hb d_M_predefinedOf_18 rfl (lv_at hl 3 rfl) ?_
    refine lv_iconst (v := 1) hx hb d_M_predefinedOf_19 (by decide) ?_
    refine lv_iadd hx hb d_M_predefinedOf_20 ?_
    obtain ⟨hi9, hf⟩ := ck_some hf
    refine ul_B hx hb hK hP (by decide) (by decide) hi9 d_M_predefinedOf_21 ?_
    obtain ⟨y1, e1, hf⟩ := lt_some hf
    rw [← e1]
    refine lv_istore (lv' := [(5, .int y1), (0, .ref h0), (1, .int v1), (2, .int v2), (3, .int v3), (4, .int v4)]) hx hb d_M_predefinedOf_22 hl (by decide) rfl (fun ls hl => ?_)
    refine lv_aload_n hx hb d_M_predefinedOf_24 rfl (lv_at hl 1 rfl) ?_
    refine ug_R hx hb ht hown hM hK hP 2 (by decide) lk_M_2 (by decide) d_M_predefinedOf_25 ?_
    refine lv_iload_n hx hb d_M_predefinedOf_28 rfl (lv_at hl 4 rfl) ?_
    obtain ⟨hi9, hf⟩ := ck_some hf
    refine ul_B hx hb hK hP (by decide) (by decide) hi9 d_M_predefinedOf_29 ?_
    refine lv_iload_n hx hb d_M_predefinedOf_30 rfl (lv_at hl 3 rfl) ?_
    refine lv_icmp_ne (tgt := 58) hx hb d_M_predefinedOf_31 (by decide) (fun hc => ?_) (fun hc => ?_)
    · rw [br_n _ hc] at hf
      exact wb_M_predefinedOf_58 C0 hR N G hG _ _ _ _ _ _ _ hf H locs hP hD hS ls (lv_sub hl [1, 2, 3, 4, 5, 0] rfl)
    · rw [br_p _ hc] at hf
      refine lv_aload_n hx hb d_M_predefinedOf_34 rfl (lv_at hl 1 rfl) ?_
      refine ug_R hx hb ht hown hM hK hP 13 (by decide) lk_M_13 (by decide) d_M_predefinedOf_35 ?_
      refine lv_iload_n hx hb d_M_predefinedOf_38 rfl (lv_at hl 2 rfl) ?_
      refine lv_iconst (v := 1) hx hb d_M_predefinedOf_39 (by decide) ?_
      refine lv_iadd hx hb d_M_predefinedOf_40 ?_
      obtain ⟨hi9, hf⟩ := ck_some hf
      refine ul_I hx hb hK hP (by decide) (by decide) hi9 d_M_predefinedOf_41 ?_
      refine lv_aload_n hx hb d_M_predefinedOf_42 rfl (lv_at hl 1 rfl) ?_
      refine ug_R hx hb ht hown hM hK hP 13 (by decide) lk_M_13 (by decide) d_M_predefinedOf_43 ?_
      refine lv_iload_n hx hb d_M_predefinedOf_46 rfl (lv_at hl 2 rfl) ?_
      obtain ⟨hi9, hf⟩ := ck_some hf
      refine ul_I hx hb hK hP (by decide) (by decide) hi9 d_M_predefinedOf_47 ?_
      refine lv_isub hx hb d_M_predefinedOf_48 ?_
      refine lv_iload hx hb d_M_predefinedOf_49 (lv_at hl 0 rfl) ?_
      refine lv_icmp_ne (tgt := 58) hx hb d_M_predefinedOf_51 (by decide) (fun hc => ?_) (fun hc => ?_)
      · rw [br_n _ hc] at hf
        exact wb_M_predefinedOf_58 C0 hR N G hG _ _ _ _ _ _ _ hf H locs hP hD hS ls (lv_sub hl [1, 2, 3, 4, 5, 0] rfl)
      · rw [br_p _ hc] at hf
        refine lv_iconst (v := 1) hx hb d_M_predefinedOf_54 (by decide) ?_
        refine lv_goto (tgt := 59) hx hb d_M_predefinedOf_55 (by decide) ?_
        exact wb_M_predefinedOf_59 C0 hR N G hG _ _ _ _ _ _ _ _ hf H locs hP hD hS ls (lv_sub hl [1, 2, 3, 4, 5, 0] rfl)
def fb_M_predefinedOf_0 (N : Nat) (G : (MS → Int32 → Int32 → Int32 → Int32 → Option (MS × Int32)) × (MS → Int32 → Int32 → Int32 → Int32 → Int32 → Int32 → Int32 → Option (MS × Int32))) (u : MS) (v1 : Int32) (v2 : Int32) : Option (MS × Int32) := G.1 u (v1) (v2) (0) (0)
set_option maxRecDepth 100000 in
set_option maxHeartbeats 4000000 in
theorem wb_M_predefinedOf_0 {p : Program} {l : Launch} {e : Env} {R : Room} {s : State} {m : MethodId} {args : Array Value} {below : List Frame} {meth : Method} {c : Code} {D : va_G} {cl : List vw_C} {cB cI cJ cZ cS : ClassId} {A : Nat → Prop} {iM h0 : Nat} {ad : Nat → Nat} (C0 : MCx p s m args meth c b_M_predefinedOf 8 (some .int) D cl cB cI cJ cZ cS iM A) (hR : R = rm_M_predefinedOf) (N : Nat) (G : (MS → Int32 → Int32 → Int32 → Int32 → Option (MS × Int32)) × (MS → Int32 → Int32 → Int32 → Int32 → Int32 → Int32 → Int32 → Option (MS × Int32))) (hG : (∀ (u : MS) (v1 : Int32) (v2 : Int32) (v3 : Int32) (v4 : Int32) (x : MS × Int32), G.1 u v1 v2 v3 v4 = some x → ∀ (H : Heap) (locs : List Loc), va_P D cl (wM cB cI cJ cZ cS iM h0 ad u) H → va_D A (wM cB cI cJ cZ cS iM h0 ad u) → va_S A s.heap H locs → ∀ (ls : Array Slot), lv_has ls 8 [(0, .ref h0), (1, .int v1), (2, .int v2), (3, .int v3), (4, .int v4)] → W p l e R s m args below meth c H locs 0 0 (MQ below (mQi D cl cB cI cJ cZ cS iM h0 ad A x) args s 0 0 A) (F0 m 5 ls [])) ∧ (∀ (u : MS) (v1 : Int32) (v2 : Int32) (v3 : Int32) (v4 : Int32) (v5 : Int32) (v6 : Int32) (v7 : Int32) (x : MS × Int32), G.2 u v1 v2 v3 v4 v5 v6 v7 = some x → ∀ (H : Heap) (locs : List Loc), va_P D cl (wM cB cI cJ cZ cS iM h0 ad u) H → va_D A (wM cB cI cJ cZ cS iM h0 ad u) → va_S A s.heap H locs → ∀ (ls : Array Slot), lv_has ls 8 [(0, .ref h0), (1, .int v1), (2, .int v2), (3, .int v3), (4, .int v4), (5, .int v5), (6, .int v6), (7, .int v7)] → W p l e R s m args below meth c H locs 0 0 (MQ below (mQi D cl cB cI cJ cZ cS iM h0 ad A x) args s 0 0 A) (F0 m 64 ls []))) : ∀ (u : MS) (v1 : Int32) (v2 : Int32) (x : MS × Int32), fb_M_predefinedOf_0 N G u v1 v2 = some x → ∀ (H : Heap) (locs : List Loc), va_P D cl (wM cB cI cJ cZ cS iM h0 ad u) H → va_D A (wM cB cI cJ cZ cS iM h0 ad u) → va_S A s.heap H locs → ∀ (ls : Array Slot), lv_has ls 8 [(0, .ref h0), (1, .int v1), (2, .int v2)] → W p l e R s m args below meth c H locs 0 0 (MQ below (mQi D cl cB cI cJ cZ cS iM h0 ad A x) args s 0 0 A) (F0 m 0 ls []) := by
  intro u v1 v2 x hf H locs hP hD hS ls hl
  obtain ⟨hx, hb, hr, hml, ht, hown, hM, hK, hA, hlocks⟩ := id C0
  unfold fb_M_predefinedOf_0 at hf
  refine lv_iconst (v := 0) hx hb d_M_predefinedOf_0 (by decide) ?_
  refine lv_istore_n (lv' := [(3, .int 0), (0, .ref h0), (1, .int v1), (2, .int v2)]) hx hb d_M_predefinedOf_1 rfl hl (by decide) rfl (fun ls hl => ?_)
  refine lv_iconst (v := 0) hx hb d_M_predefinedOf_2 (by decide) ?_
  refine lv_istore (lv' := [(4, .int 0), (3, .int 0), (0, .ref h0), (1, .int v1), (2, .int v2)]) hx hb d_M_predefinedOf_3 hl (by decide) rfl (fun ls hl => ?_)
  exact hG.1 _ _ _ _ _ _ hf H locs hP hD hS ls (lv_sub hl [2, 3, 4, 1, 0] rfl)
def gg_M_predefinedOf (N : Nat) : Nat → ((MS → Int32 → Int32 → Int32 → Int32 → Option (MS × Int32)) × (MS → Int32 → Int32 → Int32 → Int32 → Int32 → Int32 → Int32 → Option (MS × Int32)))
  | 0 => (fun _ _ _ _ _ => none, fun _ _ _ _ _ _ _ _ => none)
  | n + 1 => (fb_M_predefinedOf_5 N (gg_M_predefinedOf N n), fb_M_predefinedOf_64 N (gg_M_predefinedOf N n))
theorem wg_M_predefinedOf {p : Program} {l : Launch} {e : Env} {R : Room} {s : State} {m : MethodId} {args : Array Value} {below : List Frame} {meth : Method} {c : Code} {D : va_G} {cl : List vw_C} {cB cI cJ cZ cS : ClassId} {A : Nat → Prop} {iM h0 : Nat} {ad : Nat → Nat} (C0 : MCx p s m args meth c b_M_predefinedOf 8 (some .int) D cl cB cI cJ cZ cS iM A) (hR : R = rm_M_predefinedOf) (N : Nat) : ∀ n : Nat, (∀ (u : MS) (v1 : Int32) (v2 : Int32) (v3 : Int32) (v4 : Int32) (x : MS × Int32), (gg_M_predefinedOf N n).1 u v1 v2 v3 v4 = some x → ∀ (H : Heap) (locs : List Loc), va_P D cl (wM cB cI cJ cZ cS iM h0 ad u) H → va_D A (wM cB cI cJ cZ cS iM h0 ad u) → va_S A s.heap H locs → ∀ (ls : Array Slot), lv_has ls 8 [(0, .ref h0), (1, .int v1), (2, .int v2), (3, .int v3), (4, .int v4)] → W p l e R s m args below meth c H locs 0 0 (MQ below (mQi D cl cB cI cJ cZ cS iM h0 ad A x) args s 0 0 A) (F0 m 5 ls [])) ∧ (∀ (u : MS) (v1 : Int32) (v2 : Int32) (v3 : Int32) (v4 : Int32) (v5 : Int32) (v6 : Int32) (v7 : Int32) (x : MS × Int32), (gg_M_predefinedOf N n).2 u v1 v2 v3 v4 v5 v6 v7 = some x → ∀ (H : Heap) (locs : List Loc), va_P D cl (wM cB cI cJ cZ cS iM h0 ad u) H → va_D A (wM cB cI cJ cZ cS iM h0 ad u) → va_S A s.heap H locs → ∀ (ls : Array Slot), lv_has ls 8 [(0, .ref h0), (1, .int v1), (2, .int v2), (3, .int v3), (4, .int v4), (5, .int v5), (6, .int v6), (7, .int v7)] → W p l e R s m args below meth c H locs 0 0 (MQ below (mQi D cl cB cI cJ cZ cS iM h0 ad A x) args s 0 0 A) (F0 m 64 ls []))
  | 0 => ⟨(fun u v1 v2 v3 v4 x hf => by cases hf), (fun u v1 v2 v3 v4 v5 v6 v7 x hf => by cases hf)⟩
  | n + 1 => ⟨wb_M_predefinedOf_5 C0 hR N (gg_M_predefinedOf N n) (wg_M_predefinedOf C0 hR N n), wb_M_predefinedOf_64 C0 hR N (gg_M_predefinedOf N n) (wg_M_predefinedOf C0 hR N n)⟩
def fm_M_predefinedOf (N : Nat) (u : MS) (v1 : Int32) (v2 : Int32) : Option (MS × Int32) := fb_M_predefinedOf_0 N (gg_M_predefinedOf N N) u v1 v2
set_option maxRecDepth 100000 in
set_option maxHeartbeats 4000000 in
theorem c_M_predefinedOf (N : Nat) {l : Launch} {D : va_G} {cl : List vw_C} {cB cI cJ cZ cS : ClassId} {iM h0 : Nat} {ad : Nat → Nat} {u : MS} {sz : Nat} {v1 : Int32} {v2 : Int32} {x : MS × Int32} (hM : cl[iM]? = some (R_M, F_M, 171)) (hf : fm_M_predefinedOf N u v1 v2 = some x) : Met l y_M_predefinedOf (wd_ws y_M_predefinedOf b_M_predefinedOf 8 (some .int)) rm_M_predefinedOf (mPc D cl cB cI cJ cZ cS iM h0 ad u sz [.ref h0, .int v1, .int v2]) (mQi D cl cB cI cJ cZ cS iM h0 ad (mA cB cI cJ cZ cS iM h0 ad u sz) x) 0 0 (mA cB cI cJ cZ cS iM h0 ad u sz) :=
  mMet (by decide) rfl hM (Nat.le_of_ble_eq_true rfl) (fun p e s m below meth c ls hsz C0 hP hD hS hl => by
    have hR : rm_M_predefinedOf = rm_M_predefinedOf := rfl
    exact wb_M_predefinedOf_0 C0 hR N (gg_M_predefinedOf N N) (wg_M_predefinedOf C0 hR N N) u _ _ x hf s.heap [] hP hD hS ls (lv_sub hl [0, 1, 2] rfl))
abbrev b_M_function0 : ByteArray := prog_14_method_41_code
def y_M_function0 : MethodName := ⟨R_M, "function", "()V"⟩
def w_M_function0 : List Cond := wd_ws y_M_function0 b_M_function0 6 none
set_option maxRecDepth 100000 in
theorem k_M_function0 : Cond.code y_M_function0 b_M_function0 6 none ∈ wd_tbl := wd_of 2699 rfl rfl
theorem d_M_function0_0 : decode b_M_function0 0 = .ok (.aload_n 0, 1) := by decide +kernel
theorem d_M_function0_1 : decode b_M_function0 1 = .ok (.getfield 508, 3) := by decide +kernel
theorem d_M_function0_4 : decode b_M_function0 4 = .ok (.istore_n 1, 1) := by decide +kernel
theorem d_M_function0_5 : decode b_M_function0 5 = .ok (.aload_n 0, 1) := by decide +kernel
theorem d_M_function0_6 : decode b_M_function0 6 = .ok (.dup, 1) := by decide +kernel
theorem d_M_function0_7 : decode b_M_function0 7 = .ok (.getfield 508, 3) := by decide +kernel
theorem d_M_function0_10 : decode b_M_function0 10 = .ok (.iconst 1, 1) := by decide +kernel
theorem d_M_function0_11 : decode b_M_function0 11 = .ok (.iadd, 1) := by decide +kernel
theorem d_M_function0_12 : decode b_M_function0 12 = .ok (.putfield 508, 3) := by decide +kernel
theorem d_M_function0_15 : decode b_M_function0 15 = .ok (.aload_n 0, 1) := by decide +kernel
theorem d_M_function0_16 : decode b_M_function0 16 = .ok (.getfield 128, 3) := by decide +kernel
theorem d_M_function0_19 : decode b_M_function0 19 = .ok (.iload_n 1, 1) := by decide +kernel
theorem d_M_function0_20 : decode b_M_function0 20 = .ok (.aload_n 0, 1) := by decide +kernel
theorem d_M_function0_21 : decode b_M_function0 21 = .ok (.getfield 457, 3) := by decide +kernel
theorem d_M_function0_24 : decode b_M_function0 24 = .ok (.iastore, 1) := by decide +kernel
theorem d_M_function0_25 : decode b_M_function0 25 = .ok (.aload_n 0, 1) := by decide +kernel
theorem d_M_function0_26 : decode b_M_function0 26 = .ok (.getfield 134, 3) := by decide +kernel
theorem d_M_function0_29 : decode b_M_function0 29 = .ok (.iload_n 1, 1) := by decide +kernel
theorem d_M_function0_30 : decode b_M_function0 30 = .ok (.iconst 0, 1) := by decide +kernel
theorem d_M_function0_31 : decode b_M_function0 31 = .ok (.iastore, 1) := by decide +kernel
theorem d_M_function0_32 : decode b_M_function0 32 = .ok (.iconst (-1), 1) := by decide +kernel
theorem d_M_function0_33 : decode b_M_function0 33 = .ok (.istore_n 2, 1) := by decide +kernel
theorem d_M_function0_34 : decode b_M_function0 34 = .ok (.iconst 1, 1) := by decide +kernel
theorem d_M_function0_35 : decode b_M_function0 35 = .ok (.istore_n 3, 1) := by decide +kernel
theorem d_M_function0_36 : decode b_M_function0 36 = .ok (.iload_n 3, 1) := by decide +kernel
theorem d_M_function0_37 : decode b_M_function0 37 = .ok (.ifCond .eq 191, 3) := by decide +kernel
theorem d_M_function0_40 : decode b_M_function0 40 = .ok (.aload_n 0, 1) := by decide +kernel
theorem d_M_function0_41 : decode b_M_function0 41 = .ok (.getfield 454, 3) := by decide +kernel
theorem d_M_function0_44 : decode b_M_function0 44 = .ok (.ifCond .ne 184, 3) := by decide +kernel
theorem d_M_function0_47 : decode b_M_function0 47 = .ok (.aload_n 0, 1) := by decide +kernel
theorem d_M_function0_48 : decode b_M_function0 48 = .ok (.getfield 22, 3) := by decide +kernel
theorem d_M_function0_51 : decode b_M_function0 51 = .ok (.aload_n 0, 1) := by decide +kernel
theorem d_M_function0_52 : decode b_M_function0 52 = .ok (.getfield 457, 3) := by decide +kernel
theorem d_M_function0_55 : decode b_M_function0 55 = .ok (.baload, 1) := by decide +kernel
theorem d_M_function0_56 : decode b_M_function0 56 = .ok (.iconst 1, 1) := by decide +kernel
theorem d_M_function0_57 : decode b_M_function0 57 = .ok (.if_icmp .eq 9, 3) := by decide +kernel
theorem d_M_function0_60 : decode b_M_function0 60 = .ok (.aload_n 0, 1) := by decide +kernel
theorem d_M_function0_61 : decode b_M_function0 61 = .ok (.iconst 2, 1) := by decide +kernel
theorem d_M_function0_62 : decode b_M_function0 62 = .ok (.invokevirtual 478, 3) := by decide +kernel
theorem d_M_function0_65 : decode b_M_function0 65 = .ok (.return_, 1) := by decide +kernel
theorem d_M_function0_66 : decode b_M_function0 66 = .ok (.aload_n 0, 1) := by decide +kernel
theorem d_M_function0_67 : decode b_M_function0 67 = .ok (.getfield 457, 3) := by decide +kernel
theorem d_M_function0_70 : decode b_M_function0 70 = .ok (.istore 4, 2) := by decide +kernel
theorem d_M_function0_72 : decode b_M_function0 72 = .ok (.aload_n 0, 1) := by decide +kernel
theorem d_M_function0_73 : decode b_M_function0 73 = .ok (.dup, 1) := by decide +kernel
theorem d_M_function0_74 : decode b_M_function0 74 = .ok (.getfield 457, 3) := by decide +kernel
theorem d_M_function0_77 : decode b_M_function0 77 = .ok (.iconst 1, 1) := by decide +kernel
theorem d_M_function0_78 : decode b_M_function0 78 = .ok (.iadd, 1) := by decide +kernel
theorem d_M_function0_79 : decode b_M_function0 79 = .ok (.putfield 457, 3) := by decide +kernel
theorem d_M_function0_82 : decode b_M_function0 82 = .ok (.aload_n 0, 1) := by decide +kernel
theorem d_M_function0_83 : decode b_M_function0 83 = .ok (.iconst 0, 1) := by decide +kernel
theorem d_M_function0_84 : decode b_M_function0 84 = .ok (.putfield 493, 3) := by decide +kernel
theorem d_M_function0_87 : decode b_M_function0 87 = .ok (.aload_n 0, 1) := by decide +kernel
theorem d_M_function0_88 : decode b_M_function0 88 = .ok (.getfield 153, 3) := by decide +kernel
theorem d_M_function0_91 : decode b_M_function0 91 = .ok (.iconst 0, 1) := by decide +kernel
theorem d_M_function0_92 : decode b_M_function0 92 = .ok (.iconst 0, 1) := by decide +kernel
theorem d_M_function0_93 : decode b_M_function0 93 = .ok (.iastore, 1) := by decide +kernel
theorem d_M_function0_94 : decode b_M_function0 94 = .ok (.aload_n 0, 1) := by decide +kernel
theorem d_M_function0_95 : decode b_M_function0 95 = .ok (.getfield 162, 3) := by decide +kernel
theorem d_M_function0_98 : decode b_M_function0 98 = .ok (.iconst 0, 1) := by decide +kernel
theorem d_M_function0_99 : decode b_M_function0 99 = .ok (.iconst 0, 1) := by decide +kernel
theorem d_M_function0_100 : decode b_M_function0 100 = .ok (.iastore, 1) := by decide +kernel
theorem d_M_function0_101 : decode b_M_function0 101 = .ok (.aload_n 0, 1) := by decide +kernel
theorem d_M_function0_102 : decode b_M_function0 102 = .ok (.getfield 165, 3) := by decide +kernel
theorem d_M_function0_105 : decode b_M_function0 105 = .ok (.iconst 0, 1) := by decide +kernel
theorem d_M_function0_106 : decode b_M_function0 106 = .ok (.iconst 0, 1) := by decide +kernel
theorem d_M_function0_107 : decode b_M_function0 107 = .ok (.iastore, 1) := by decide +kernel
theorem d_M_function0_108 : decode b_M_function0 108 = .ok (.aload_n 0, 1) := by decide +kernel
theorem d_M_function0_109 : decode b_M_function0 109 = .ok (.iload 4, 2) := by decide +kernel
theorem d_M_function0_111 : decode b_M_function0 111 = .ok (.invokevirtual 523, 3) := by decide +kernel
theorem d_M_function0_114 : decode b_M_function0 114 = .ok (.istore 5, 2) := by decide +kernel
theorem d_M_function0_116 : decode b_M_function0 116 = .ok (.iload_n 2, 1) := by decide +kernel
theorem d_M_function0_117 : decode b_M_function0 117 = .ok (.iconst (-1), 1) := by decide +kernel
theorem d_M_function0_118 : decode b_M_function0 118 = .ok (.if_icmp .ne 40, 3) := by decide +kernel
theorem d_M_function0_121 : decode b_M_function0 121 = .ok (.aload_n 0, 1) := by decide +kernel
theorem d_M_function0_122 : decode b_M_function0 122 = .ok (.getfield 122, 3) := by decide +kernel
theorem d_M_function0_125 : decode b_M_function0 125 = .ok (.iload_n 1, 1) := by decide +kernel
theorem d_M_function0_126 : decode b_M_function0 126 = .ok (.aload_n 0, 1) := by decide +kernel
theorem d_M_function0_127 : decode b_M_function0 127 = .ok (.getfield 25, 3) := by decide +kernel
theorem d_M_function0_130 : decode b_M_function0 130 = .ok (.iload 4, 2) := by decide +kernel
theorem d_M_function0_132 : decode b_M_function0 132 = .ok (.iaload, 1) := by decide +kernel
theorem d_M_function0_133 : decode b_M_function0 133 = .ok (.iastore, 1) := by decide +kernel
theorem d_M_function0_134 : decode b_M_function0 134 = .ok (.aload_n 0, 1) := by decide +kernel
theorem d_M_function0_135 : decode b_M_function0 135 = .ok (.getfield 125, 3) := by decide +kernel
theorem d_M_function0_138 : decode b_M_function0 138 = .ok (.iload_n 1, 1) := by decide +kernel
theorem d_M_function0_139 : decode b_M_function0 139 = .ok (.aload_n 0, 1) := by decide +kernel
theorem d_M_function0_140 : decode b_M_function0 140 = .ok (.getfield 107, 3) := by decide +kernel
theorem d_M_function0_143 : decode b_M_function0 143 = .ok (.iload 5, 2) := by decide +kernel
theorem d_M_function0_145 : decode b_M_function0 145 = .ok (.iaload, 1) := by decide +kernel
theorem d_M_function0_146 : decode b_M_function0 146 = .ok (.iastore, 1) := by decide +kernel
theorem d_M_function0_147 : decode b_M_function0 147 = .ok (.aload_n 0, 1) := by decide +kernel
theorem d_M_function0_148 : decode b_M_function0 148 = .ok (.getfield 131, 3) := by decide +kernel
theorem d_M_function0_151 : decode b_M_function0 151 = .ok (.iload_n 1, 1) := by decide +kernel
theorem d_M_function0_152 : decode b_M_function0 152 = .ok (.iload 5, 2) := by decide +kernel
theorem d_M_function0_154 : decode b_M_function0 154 = .ok (.iastore, 1) := by decide +kernel
theorem d_M_function0_155 : decode b_M_function0 155 = .ok (.goto 50, 3) := by decide +kernel
theorem d_M_function0_158 : decode b_M_function0 158 = .ok (.aload_n 0, 1) := by decide +kernel
theorem d_M_function0_159 : decode b_M_function0 159 = .ok (.getfield 119, 3) := by decide +kernel
theorem d_M_function0_162 : decode b_M_function0 162 = .ok (.iload_n 2, 1) := by decide +kernel
theorem d_M_function0_163 : decode b_M_function0 163 = .ok (.iload 5, 2) := by decide +kernel
theorem d_M_function0_165 : decode b_M_function0 165 = .ok (.iastore, 1) := by decide +kernel
theorem d_M_function0_166 : decode b_M_function0 166 = .ok (.aload_n 0, 1) := by decide +kernel
theorem d_M_function0_167 : decode b_M_function0 167 = .ok (.getfield 25, 3) := by decide +kernel
theorem d_M_function0_170 : decode b_M_function0 170 = .ok (.iload 4, 2) := by decide +kernel
theorem d_M_function0_172 : decode b_M_function0 172 = .ok (.iaload, 1) := by decide +kernel
theorem d_M_function0_173 : decode b_M_function0 173 = .ok (.aload_n 0, 1) := by decide +kernel
theorem d_M_function0_174 : decode b_M_function0 174 = .ok (.getfield 122, 3) := by decide +kernel
theorem d_M_function0_177 : decode b_M_function0 177 = .ok (.iload_n 1, 1) := by decide +kernel
theorem d_M_function0_178 : decode b_M_function0 178 = .ok (.iaload, 1) := by decide +kernel
theorem d_M_function0_179 : decode b_M_function0 179 = .ok (.if_icmp .ne 19, 3) := by decide +kernel
theorem d_M_function0_182 : decode b_M_function0 182 = .ok (.aload_n 0, 1) := by decide +kernel
theorem d_M_function0_183 : decode b_M_function0 183 = .ok (.getfield 107, 3) := by decide +kernel
theorem d_M_function0_186 : decode b_M_function0 186 = .ok (.iload 5, 2) := by decide +kernel
theorem d_M_function0_188 : decode b_M_function0 188 = .ok (.iaload, 1) := by decide +kernel
theorem d_M_function0_189 : decode b_M_function0 189 = .ok (.aload_n 0, 1) := by decide +kernel
theorem d_M_function0_190 : decode b_M_function0 190 = .ok (.getfield 125, 3) := by decide +kernel
theorem d_M_function0_193 : decode b_M_function0 193 = .ok (.iload_n 1, 1) := by decide +kernel
theorem d_M_function0_194 : decode b_M_function0 194 = .ok (.iaload, 1) := by decide +kernel
theorem d_M_function0_195 : decode b_M_function0 195 = .ok (.if_icmp .eq 10, 3) := by decide +kernel
theorem d_M_function0_198 : decode b_M_function0 198 = .ok (.aload_n 0, 1) := by decide +kernel
theorem d_M_function0_199 : decode b_M_function0 199 = .ok (.iconst 4, 1) := by decide +kernel
theorem d_M_function0_200 : decode b_M_function0 200 = .ok (.iload 4, 2) := by decide +kernel
theorem d_M_function0_202 : decode b_M_function0 202 = .ok (.invokevirtual 526, 3) := by decide +kernel
theorem d_M_function0_205 : decode b_M_function0 205 = .ok (.iload 5, 2) := by decide +kernel
theorem d_M_function0_207 : decode b_M_function0 207 = .ok (.istore_n 2, 1) := by decide +kernel
theorem d_M_function0_208 : decode b_M_function0 208 = .ok (.aload_n 0, 1) := by decide +kernel
theorem d_M_function0_209 : decode b_M_function0 209 = .ok (.getfield 134, 3) := by decide +kernel
theorem d_M_function0_212 : decode b_M_function0 212 = .ok (.iload_n 1, 1) := by decide +kernel
theorem d_M_function0_213 : decode b_M_function0 213 = .ok (.dup2, 1) := by decide +kernel
theorem d_M_function0_214 : decode b_M_function0 214 = .ok (.iaload, 1) := by decide +kernel
theorem d_M_function0_215 : decode b_M_function0 215 = .ok (.iconst 1, 1) := by decide +kernel
theorem d_M_function0_216 : decode b_M_function0 216 = .ok (.iadd, 1) := by decide +kernel
theorem d_M_function0_217 : decode b_M_function0 217 = .ok (.iastore, 1) := by decide +kernel
theorem d_M_function0_218 : decode b_M_function0 218 = .ok (.aload_n 0, 1) := by decide +kernel
theorem d_M_function0_219 : decode b_M_function0 219 = .ok (.bipush 7, 2) := by decide +kernel
theorem d_M_function0_221 : decode b_M_function0 221 = .ok (.invokevirtual 475, 3) := by decide +kernel
theorem d_M_function0_224 : decode b_M_function0 224 = .ok (.istore_n 3, 1) := by decide +kernel
theorem d_M_function0_225 : decode b_M_function0 225 = .ok (.goto (-189), 3) := by decide +kernel
theorem d_M_function0_228 : decode b_M_function0 228 = .ok (.aload_n 0, 1) := by decide +kernel
theorem d_M_function0_229 : decode b_M_function0 229 = .ok (.bipush 8, 2) := by decide +kernel
theorem d_M_function0_231 : decode b_M_function0 231 = .ok (.invokevirtual 529, 3) := by decide +kernel
theorem d_M_function0_234 : decode b_M_function0 234 = .ok (.aload_n 0, 1) := by decide +kernel
theorem d_M_function0_235 : decode b_M_function0 235 = .ok (.aload_n 0, 1) := by decide +kernel
theorem d_M_function0_236 : decode b_M_function0 236 = .ok (.getfield 122, 3) := by decide +kernel
theorem d_M_function0_239 : decode b_M_function0 239 = .ok (.iload_n 1, 1) := by decide +kernel
theorem d_M_function0_240 : decode b_M_function0 240 = .ok (.iaload, 1) := by decide +kernel
theorem d_M_function0_241 : decode b_M_function0 241 = .ok (.aload_n 0, 1) := by decide +kernel
theorem d_M_function0_242 : decode b_M_function0 242 = .ok (.getfield 125, 3) := by decide +kernel
theorem d_M_function0_245 : decode b_M_function0 245 = .ok (.iload_n 1, 1) := by decide +kernel
theorem d_M_function0_246 : decode b_M_function0 246 = .ok (.iaload, 1) := by decide +kernel
theorem d_M_function0_247 : decode b_M_function0 247 = .ok (.invokevirtual 532, 3) := by decide +kernel
theorem d_M_function0_250 : decode b_M_function0 250 = .ok (.iconst (-1), 1) := by decide +kernel
theorem d_M_function0_251 : decode b_M_function0 251 = .ok (.if_icmp .eq 7, 3) := by decide +kernel
theorem d_M_function0_254 : decode b_M_function0 254 = .ok (.iconst 1, 1) := by decide +kernel
theorem d_M_function0_255 : decode b_M_function0 255 = .ok (.goto 4, 3) := by decide +kernel
theorem d_M_function0_258 : decode b_M_function0 258 = .ok (.iconst 0, 1) := by decide +kernel
theorem d_M_function0_259 : decode b_M_function0 259 = .ok (.istore 4, 2) := by decide +kernel
theorem d_M_function0_261 : decode b_M_function0 261 = .ok (.iconst 0, 1) := by decide +kernel
theorem d_M_function0_262 : decode b_M_function0 262 = .ok (.istore 5, 2) := by decide +kernel
theorem d_M_function0_264 : decode b_M_function0 264 = .ok (.iload 5, 2) := by decide +kernel
theorem d_M_function0_266 : decode b_M_function0 266 = .ok (.iload_n 1, 1) := by decide +kernel
theorem d_M_function0_267 : decode b_M_function0 267 = .ok (.if_icmp .ge 51, 3) := by decide +kernel
theorem d_M_function0_270 : decode b_M_function0 270 = .ok (.iload 4, 2) := by decide +kernel
theorem d_M_function0_272 : decode b_M_function0 272 = .ok (.aload_n 0, 1) := by decide +kernel
theorem d_M_function0_273 : decode b_M_function0 273 = .ok (.getfield 122, 3) := by decide +kernel
theorem d_M_function0_276 : decode b_M_function0 276 = .ok (.iload 5, 2) := by decide +kernel
theorem d_M_function0_278 : decode b_M_function0 278 = .ok (.iaload, 1) := by decide +kernel
theorem d_M_function0_279 : decode b_M_function0 279 = .ok (.aload_n 0, 1) := by decide +kernel
theorem d_M_function0_280 : decode b_M_function0 280 = .ok (.getfield 122, 3) := by decide +kernel
theorem d_M_function0_283 : decode b_M_function0 283 = .ok (.iload_n 1, 1) := by decide +kernel
theorem d_M_function0_284 : decode b_M_function0 284 = .ok (.iaload, 1) := by decide +kernel
theorem d_M_function0_285 : decode b_M_function0 285 = .ok (.if_icmp .ne 23, 3) := by decide +kernel
theorem d_M_function0_288 : decode b_M_function0 288 = .ok (.aload_n 0, 1) := by decide +kernel
theorem d_M_function0_289 : decode b_M_function0 289 = .ok (.getfield 125, 3) := by decide +kernel
theorem d_M_function0_292 : decode b_M_function0 292 = .ok (.iload 5, 2) := by decide +kernel
theorem d_M_function0_294 : decode b_M_function0 294 = .ok (.iaload, 1) := by decide +kernel
theorem d_M_function0_295 : decode b_M_function0 295 = .ok (.aload_n 0, 1) := by decide +kernel
theorem d_M_function0_296 : decode b_M_function0 296 = .ok (.getfield 125, 3) := by decide +kernel
theorem d_M_function0_299 : decode b_M_function0 299 = .ok (.iload_n 1, 1) := by decide +kernel
theorem d_M_function0_300 : decode b_M_function0 300 = .ok (.iaload, 1) := by decide +kernel
theorem d_M_function0_301 : decode b_M_function0 301 = .ok (.if_icmp .ne 7, 3) := by decide +kernel
theorem d_M_function0_304 : decode b_M_function0 304 = .ok (.iconst 1, 1) := by decide +kernel
theorem d_M_function0_305 : decode b_M_function0 305 = .ok (.goto 4, 3) := by decide +kernel
theorem d_M_function0_308 : decode b_M_function0 308 = .ok (.iconst 0, 1) := by decide +kernel
theorem d_M_function0_309 : decode b_M_function0 309 = .ok (.ior, 1) := by decide +kernel
theorem d_M_function0_310 : decode b_M_function0 310 = .ok (.istore 4, 2) := by decide +kernel
theorem d_M_function0_312 : decode b_M_function0 312 = .ok (.iinc 5 1, 3) := by decide +kernel
theorem d_M_function0_315 : decode b_M_function0 315 = .ok (.goto (-51), 3) := by decide +kernel
theorem d_M_function0_318 : decode b_M_function0 318 = .ok (.iload 4, 2) := by decide +kernel
theorem d_M_function0_320 : decode b_M_function0 320 = .ok (.ifCond .eq 21, 3) := by decide +kernel
theorem d_M_function0_323 : decode b_M_function0 323 = .ok (.aload_n 0, 1) := by decide +kernel
theorem d_M_function0_324 : decode b_M_function0 324 = .ok (.getfield 454, 3) := by decide +kernel
theorem d_M_function0_327 : decode b_M_function0 327 = .ok (.ifCond .ne 14, 3) := by decide +kernel
theorem d_M_function0_330 : decode b_M_function0 330 = .ok (.aload_n 0, 1) := by decide +kernel
theorem d_M_function0_331 : decode b_M_function0 331 = .ok (.iconst 4, 1) := by decide +kernel
theorem d_M_function0_332 : decode b_M_function0 332 = .ok (.aload_n 0, 1) := by decide +kernel
theorem d_M_function0_333 : decode b_M_function0 333 = .ok (.getfield 128, 3) := by decide +kernel
theorem d_M_function0_336 : decode b_M_function0 336 = .ok (.iload_n 1, 1) := by decide +kernel
theorem d_M_function0_337 : decode b_M_function0 337 = .ok (.iaload, 1) := by decide +kernel
theorem d_M_function0_338 : decode b_M_function0 338 = .ok (.invokevirtual 526, 3) := by decide +kernel
theorem d_M_function0_341 : decode b_M_function0 341 = .ok (.return_, 1) := by decide +kernel
set_option maxRecDepth 100000 in
theorem hl_M_function0 : Cond.methodLink R_M 520 y_M_function0 ∈ wd_tbl := wd_of 2696 (by decide +kernel) rfl
set_option maxRecDepth 100000 in
theorem hi_M_function0 : Cond.instanceMethod y_M_function0 ∈ wd_tbl := wd_of 2698 (by decide +kernel) rfl
set_option maxRecDepth 100000 in
theorem hs_M_function0 : Cond.selects R_M y_M_function0 y_M_function0 ∈ wd_tbl := wd_of 138 (by decide +kernel) rfl
theorem hd_M_function0 : y_M_function0.cls = R_M ∧ y_M_function0.cls ≠ "java/lang/invoke/MethodHandle" ∧ y_M_function0.cls ≠ "java/lang/invoke/VarHandle" ∧ (parseMethodDescriptor y_M_function0.desc).map (fun d => d.parameters.length) = some 0 := by decide +kernel
def rm_M_function0 : Room := { frames := 395, cells := 0, slots := 0, locals := 11219 }
theorem rm_M_function0_M_wrong {R : Room} (hR : R = rm_M_function0) : (rm_M_wrong).frames + 1 ≤ R.frames ∧ 8 + (2 + 11) + (rm_M_wrong).locals ≤ R.locals := by subst hR; decide
theorem rm_M_function0_M_clause {R : Room} (hR : R = rm_M_function0) : (rm_M_clause).frames + 1 ≤ R.frames ∧ 8 + (6 + 11) + (rm_M_clause).locals ≤ R.locals := by subst hR; decide
theorem rm_M_function0_M_rule {R : Room} (hR : R = rm_M_function0) : (rm_M_rule).frames + 1 ≤ R.frames ∧ 8 + (3 + 11) + (rm_M_rule).locals ≤ R.locals := by subst hR; decide
theorem rm_M_function0_M_takeSign {R : Room} (hR : R = rm_M_function0) : (rm_M_takeSign).frames + 1 ≤ R.frames ∧ 8 + (2 + 11) + (rm_M_takeSign).locals ≤ R.locals := by subst hR; decide
theorem rm_M_function0_M_needSign {R : Room} (hR : R = rm_M_function0) : (rm_M_needSign).frames + 1 ≤ R.frames ∧ 8 + (2 + 11) + (rm_M_needSign).locals ≤ R.locals := by subst hR; decide
theorem rm_M_function0_M_predefinedOf {R : Room} (hR : R = rm_M_function0) : (rm_M_predefinedOf).frames + 1 ≤ R.frames ∧ 8 + (8 + 11) + (rm_M_predefinedOf).locals ≤ R.locals := by subst hR; decide
def fb_M_function0_341 (N : Nat) (G : (MS → Int32 → Int32 → Int32 → Option (MS × Unit)) × (MS → Int32 → Int32 → Int32 → Option (MS × Unit))) (u : MS) : Option (MS × Unit) := some (u, ())
set_option maxRecDepth 100000 in
set_option maxHeartbeats 4000000 in
theorem wb_M_function0_341 {p : Program} {l : Launch} {e : Env} {R : Room} {s : State} {m : MethodId} {args : Array Value} {below : List Frame} {meth : Method} {c : Code} {D : va_G} {cl : List vw_C} {cB cI cJ cZ cS : ClassId} {A : Nat → Prop} {iM h0 : Nat} {ad : Nat → Nat} (C0 : MCx p s m args meth c b_M_function0 6 none D cl cB cI cJ cZ cS iM A) (hR : R = rm_M_function0) (N : Nat) (G : (MS → Int32 → Int32 → Int32 → Option (MS × Unit)) × (MS → Int32 → Int32 → Int32 → Option (MS × Unit))) (hG : (∀ (u : MS) (v1 : Int32) (v2 : Int32) (v3 : Int32) (x : MS × Unit), G.1 u v1 v2 v3 = some x → ∀ (H : Heap) (locs : List Loc), va_P D cl (wM cB cI cJ cZ cS iM h0 ad u) H → va_D A (wM cB cI cJ cZ cS iM h0 ad u) → va_S A s.heap H locs → ∀ (ls : Array Slot), lv_has ls 6 [(0, .ref h0), (1, .int v1), (2, .int v2), (3, .int v3)] → W p l e R s m args below meth c H locs 0 0 (MQ below (mQv D cl cB cI cJ cZ cS iM h0 ad A x) args s 0 0 A) (F0 m 36 ls [])) ∧ (∀ (u : MS) (v1 : Int32) (v4 : Int32) (v5 : Int32) (x : MS × Unit), G.2 u v1 v4 v5 = some x → ∀ (H : Heap) (locs : List Loc), va_P D cl (wM cB cI cJ cZ cS iM h0 ad u) H → va_D A (wM cB cI cJ cZ cS iM h0 ad u) → va_S A s.heap H locs → ∀ (ls : Array Slot), lv_has ls 6 [(0, .ref h0), (1, .int v1), (4, .int v4), (5, .int v5)] → W p l e R s m args below meth c H locs 0 0 (MQ below (mQv D cl cB cI cJ cZ cS iM h0 ad A x) args s 0 0 A) (F0 m 264 ls []))) : ∀ (u : MS) (x : MS × Unit), fb_M_function0_341 N G u = some x → ∀ (H : Heap) (locs : List Loc), va_P D cl (wM cB cI cJ cZ cS iM h0 ad u) H → va_D A (wM cB cI cJ cZ cS iM h0 ad u) → va_S A s.heap H locs → ∀ (ls : Array Slot), lv_has ls 6 [] → W p l e R s m args below meth c H locs 0 0 (MQ below (mQv D cl cB cI cJ cZ cS iM h0 ad A x) args s 0 0 A) (F0 m 341 ls []) := by
  intro u x hf H locs hP hD hS ls hl
  obtain ⟨hx, hb, hr, hml, ht, hown, hM, hK, hA, hlocks⟩ := id C0
  unfold fb_M_function0_341 at hf
  exact mr_v C0 hP hD hS hf d_M_function0_341
def fb_M_function0_309 (N : Nat) (G : (MS → Int32 → Int32 → Int32 → Option (MS × Unit)) × (MS → Int32 → Int32 → Int32 → Option (MS × Unit))) (u : MS) (v1 : Int32) (v5 : Int32) (t0 : Int32) (t1 : Int32) : Option (MS × Unit) := G.2 u (v1) ((t0 ||| t1)) ((v5 + 1))
set_option maxRecDepth 100000 in
set_option maxHeartbeats 4000000 in
theorem wb_M_function0_309 {p : Program} {l : Launch} {e : Env} {R : Room} {s : State} {m : MethodId} {args : Array Value} {below : List Frame} {meth : Method} {c : Code} {D : va_G} {cl : List vw_C} {cB cI cJ cZ cS : ClassId} {A : Nat → Prop} {iM h0 : Nat} {ad : Nat → Nat} (C0 : MCx p s m args meth c b_M_function0 6 none D cl cB cI cJ cZ cS iM A) (hR : R = rm_M_function0) (N : Nat) (G : (MS → Int32 → Int32 → Int32 → Option (MS × Unit)) × (MS → Int32 → Int32 → Int32 → Option (MS × Unit))) (hG : (∀ (u : MS) (v1 : Int32) (v2 : Int32) (v3 : Int32) (x : MS × Unit), G.1 u v1 v2 v3 = some x → ∀ (H : Heap) (locs : List Loc), va_P D cl (wM cB cI cJ cZ cS iM h0 ad u) H → va_D A (wM cB cI cJ cZ cS iM h0 ad u) → va_S A s.heap H locs → ∀ (ls : Array Slot), lv_has ls 6 [(0, .ref h0), (1, .int v1), (2, .int v2), (3, .int v3)] → W p l e R s m args below meth c H locs 0 0 (MQ below (mQv D cl cB cI cJ cZ cS iM h0 ad A x) args s 0 0 A) (F0 m 36 ls [])) ∧ (∀ (u : MS) (v1 : Int32) (v4 : Int32) (v5 : Int32) (x : MS × Unit), G.2 u v1 v4 v5 = some x → ∀ (H : Heap) (locs : List Loc), va_P D cl (wM cB cI cJ cZ cS iM h0 ad u) H → va_D A (wM cB cI cJ cZ cS iM h0 ad u) → va_S A s.heap H locs → ∀ (ls : Array Slot), lv_has ls 6 [(0, .ref h0), (1, .int v1), (4, .int v4), (5, .int v5)] → W p l e R s m args below meth c H locs 0 0 (MQ below (mQv D cl cB cI cJ cZ cS iM h0 ad A x) args s 0 0 A) (F0 m 264 ls []))) : ∀ (u : MS) (v1 : Int32) (v5 : Int32) (t0 : Int32) (t1 : Int32) (x : MS × Unit), fb_M_function0_309 N G u v1 v5 t0 t1 = some x → ∀ (H : Heap) (locs : List Loc), va_P D cl (wM cB cI cJ cZ cS iM h0 ad u) H → va_D A (wM cB cI cJ cZ cS iM h0 ad u) → va_S A s.heap H locs → ∀ (ls : Array Slot), lv_has ls 6 [(0, .ref h0), (1, .int v1), (5, .int v5)] → W p l e R s m args below meth c H locs 0 0 (MQ below (mQv D cl cB cI cJ cZ cS iM h0 ad A x) args s 0 0 A) (F0 m 309 ls [.int t1, .int t0]) := by
  intro u v1 v5 t0 t1 x hf H locs hP hD hS ls hl
  obtain ⟨hx, hb, hr, hml, ht, hown, hM, hK, hA, hlocks⟩ := id C0
  unfold fb_M_function0_309 at hf
  refine lv_ior hx hb d_M_function0_309 ?_
  refine lv_istore (lv' := [(4, .int (t0 ||| t1)), (0, .ref h0), (1, .int v1), (5, .int v5)]) hx hb d_M_function0_310 hl (by decide) rfl (fun ls hl => ?_)
  refine lv_iinc (v := (v5 + 1)) (lv' := [(5, .int (v5 + 1)), (4, .int (t0 ||| t1)), (0, .ref h0), (1, .int v1)]) hx hb d_M_function0_312 hl (k := 3) rfl rfl (by decide) rfl (fun ls hl => ?_)
  refine lv_goto (tgt := 264) hx hb d_M_function0_315 (by decide) ?_
  exact hG.2 _ _ _ _ _ hf H locs hP hD hS ls (lv_sub hl [2, 3, 1, 0] rfl)
def fb_M_function0_308 (N : Nat) (G : (MS → Int32 → Int32 → Int32 → Option (MS × Unit)) × (MS → Int32 → Int32 → Int32 → Option (MS × Unit))) (u : MS) (v1 : Int32) (v5 : Int32) (t0 : Int32) : Option (MS × Unit) := fb_M_function0_309 N G u (v1) (v5) (t0) (0)
set_option maxRecDepth 100000 in
set_option maxHeartbeats 4000000 in
theorem wb_M_function0_308 {p : Program} {l : Launch} {e : Env} {R : Room} {s : State} {m : MethodId} {args : Array Value} {below : List Frame} {meth : Method} {c : Code} {D : va_G} {cl : List vw_C} {cB cI cJ cZ cS : ClassId} {A : Nat → Prop} {iM h0 : Nat} {ad : Nat → Nat} (C0 : MCx p s m args meth c b_M_function0 6 none D cl cB cI cJ cZ cS iM A) (hR : R = rm_M_function0) (N : Nat) (G : (MS → Int32 → Int32 → Int32 → Option (MS × Unit)) × (MS → Int32 → Int32 → Int32 → Option (MS × Unit))) (hG : (∀ (u : MS) (v1 : Int32) (v2 : Int32) (v3 : Int32) (x : MS × Unit), G.1 u v1 v2 v3 = some x → ∀ (H : Heap) (locs : List Loc), va_P D cl (wM cB cI cJ cZ cS iM h0 ad u) H → va_D A (wM cB cI cJ cZ cS iM h0 ad u) → va_S A s.heap H locs → ∀ (ls : Array Slot), lv_has ls 6 [(0, .ref h0), (1, .int v1), (2, .int v2), (3, .int v3)] → W p l e R s m args below meth c H locs 0 0 (MQ below (mQv D cl cB cI cJ cZ cS iM h0 ad A x) args s 0 0 A) (F0 m 36 ls [])) ∧ (∀ (u : MS) (v1 : Int32) (v4 : Int32) (v5 : Int32) (x : MS × Unit), G.2 u v1 v4 v5 = some x → ∀ (H : Heap) (locs : List Loc), va_P D cl (wM cB cI cJ cZ cS iM h0 ad u) H → va_D A (wM cB cI cJ cZ cS iM h0 ad u) → va_S A s.heap H locs → ∀ (ls : Array Slot), lv_has ls 6 [(0, .ref h0), (1, .int v1), (4, .int v4), (5, .int v5)] → W p l e R s m args below meth c H locs 0 0 (MQ below (mQv D cl cB cI cJ cZ cS iM h0 ad A x) args s 0 0 A) (F0 m 264 ls []))) : ∀ (u : MS) (v1 : Int32) (v5 : Int32) (t0 : Int32) (x : MS × Unit), fb_M_function0_308 N G u v1 v5 t0 = some x → ∀ (H : Heap) (locs : List Loc), va_P D cl (wM cB cI cJ cZ cS iM h0 ad u) H → va_D A (wM cB cI cJ cZ cS iM h0 ad u) → va_S A s.heap H locs → ∀ (ls : Array Slot), lv_has ls 6 [(0, .ref h0), (1, .int v1), (5, .int v5)] → W p l e R s m args below meth c H locs 0 0 (MQ below (mQv D cl cB cI cJ cZ cS iM h0 ad A x) args s 0 0 A) (F0 m 308 ls [.int t0]) := by
  intro u v1 v5 t0 x hf H locs hP hD hS ls hl
  obtain ⟨hx, hb, hr, hml, ht, hown, hM, hK, hA, hlocks⟩ := id C0
  unfold fb_M_function0_308 at hf
  refine lv_iconst (v := 0) hx hb d_M_function0_308 (by decide) ?_
  exact wb_M_function0_309 C0 hR N G hG _ _ _ _ _ _ hf H locs hP hD hS ls (lv_sub hl [0, 1, 2] rfl)
def fb_M_function0_264 (N : Nat) (G : (MS → Int32 → Int32 → Int32 → Option (MS × Unit)) × (MS → Int32 → Int32 → Int32 → Option (MS × Unit))) (u : MS) (v1 : Int32) (v4 : Int32) (v5 : Int32) : Option (MS × Unit) := br (decide (v1 ≤ v5)) (br (decide (v4 = 0)) (fb_M_function0_341 N G u) (br (decide ((u.1 67) = 0)) (ck (inb v1 (ln 49)) (bnd (fm_M_rule N u 4 (u.2.2.1 49 v1.toNatClampNeg)) (fun u1 _ => fb_M_function0_341 N G u1))) (fb_M_function0_341 N G u))) (ck (inb v5 (ln 47)) (ck (inb v1 (ln 47)) (br (decide ((u.2.2.1 47 v5.toNatClampNeg) = (u.2.2.1 47 v1.toNatClampNeg))) (ck (inb v5 (ln 48)) (ck (inb v1 (ln 48)) (br (decide ((u.2.2.1 48 v5.toNatClampNeg) = (u.2.2.1 48 v1.toNatClampNeg))) (fb_M_function0_309 N G u (v1) (v5) (v4) (1)) (fb_M_function0_308 N G u (v1) (v5) (v4))))) (fb_M_function0_308 N G u (v1) (v5) (v4)))))
set_option maxRecDepth 100000 in
set_option maxHeartbeats 4000000 in
theorem wb_M_function0_264 {p : Program} {l : Launch} {e : Env} {R : Room} {s : State} {m : MethodId} {args : Array Value} {below : List Frame} {meth : Method} {c : Code} {D : va_G} {cl : List vw_C} {cB cI cJ cZ cS : ClassId} {A : Nat → Prop} {iM h0 : Nat} {ad : Nat → Nat} (C0 : MCx p s m args meth c b_M_function0 6 none D cl cB cI cJ cZ cS iM A) (hR : R = rm_M_function0) (N : Nat) (G : (MS → Int32 → Int32 → Int32 → Option (MS × Unit)) × (MS → Int32 → Int32 → Int32 → Option (MS × Unit))) (hG : (∀ (u : MS) (v1 : Int32) (v2 : Int32) (v3 : Int32) (x : MS × Unit), G.1 u v1 v2 v3 = some x → ∀ (H : Heap) (locs : List Loc), va_P D cl (wM cB cI cJ cZ cS iM h0 ad u) H → va_D A (wM cB cI cJ cZ cS iM h0 ad u) → va_S A s.heap H locs → ∀ (ls : Array Slot), lv_has ls 6 [(0, .ref h0), (1, .int v1), (2, .int v2), (3, .int v3)] → W p l e R s m args below meth c H locs 0 0 (MQ below (mQv D cl cB cI cJ cZ cS iM h0 ad A x) args s 0 0 A) (F0 m 36 ls [])) ∧ (∀ (u : MS) (v1 : Int32) (v4 : Int32) (v5 : Int32) (x : MS × Unit), G.2 u v1 v4 v5 = some x → ∀ (H : Heap) (locs : List Loc), va_P D cl (wM cB cI cJ cZ cS iM h0 ad u) H → va_D A (wM cB cI cJ cZ cS iM h0 ad u) → va_S A s.heap H locs → ∀ (ls : Array Slot), lv_has ls 6 [(0, .ref h0), (1, .int v1), (4, .int v4), (5, .int v5)] → W p l e R s m args below meth c H locs 0 0 (MQ below (mQv D cl cB cI cJ cZ cS iM h0 ad A x) args s 0 0 A) (F0 m 264 ls []))) : ∀ (u : MS) (v1 : Int32) (v4 : Int32) (v5 : Int32) (x : MS × Unit), fb_M_function0_264 N G u v1 v4 v5 = some x → ∀ (H : Heap) (locs : List Loc), va_P D cl (wM cB cI cJ cZ cS iM h0 ad u) H → va_D A (wM cB cI cJ cZ cS iM h0 ad u) → va_S A s.heap H locs → ∀ (ls : Array Slot), lv_has ls 6 [(0, .ref h0), (1, .int v1), (4, .int v4), (5, .int v5)] → W p l e R s m args below meth c H locs 0 0 (MQ below (mQv D cl cB cI cJ cZ cS iM h0 ad A x) args s 0 0 A) (F0 m 264 ls []) := by
  intro u v1 v4 v5 x hf H locs hP hD hS ls hl
  obtain ⟨hx, hb, hr, hml, ht, hown, hM, hK, hA, hlocks⟩ := id C0
  unfold fb_M_function0_264 at hf
  refine lv_iload hx hb d_M_function0_264 (lv_at hl 3 rfl) ?_
  refine lv_iload_n hx hb d_M_function0_266 rfl (lv_at hl 1 rfl) ?_
  refine lv_icmp_ge (tgt := 318) hx hb d_M_function0_267 (by decide) (fun hc => ?_) (fun hc => ?_)
  · rw [br_p _ hc] at hf
    refine lv_iload hx hb d_M_function0_318 (lv_at hl 2 rfl) ?_
    refine lv_if_eq (tgt := 341) hx hb d_M_function0_320 (by decide) (fun hc => ?_) (fun hc => ?_)
    · rw [br_p _ hc] at hf
      exact wb_M_function0_341 C0 hR N G hG _ _ hf H locs hP hD hS ls (lv_sub hl [] rfl)
    · rw [br_n _ hc] at hf
      refine lv_aload_n hx hb d_M_function0_323 rfl (lv_at hl 0 rfl) ?_
      refine ug_I hx hb ht hown hM hK hP 67 (by decide) lk_M_67 (by decide) d_M_function0_324 ?_
      refine lv_if_ne (tgt := 341) hx hb d_M_function0_327 (by decide) (fun hc => ?_) (fun hc => ?_)
      · rw [br_n _ hc] at hf
        exact wb_M_function0_341 C0 hR N G hG _ _ hf H locs hP hD hS ls (lv_sub hl [] rfl)
      · rw [br_p _ hc] at hf
        refine lv_aload_n hx hb d_M_function0_330 rfl (lv_at hl 0 rfl) ?_
        refine lv_iconst (v := 4) hx hb d_M_function0_331 (by decide) ?_
        refine lv_aload_n hx hb d_M_function0_332 rfl (lv_at hl 0 rfl) ?_
        refine ug_R hx hb ht hown hM hK hP 49 (by decide) lk_M_49 (by decide) d_M_function0_333 ?_
        refine lv_iload_n hx hb d_M_function0_336 rfl (lv_at hl 1 rfl) ?_
        obtain ⟨hi9, hf⟩ := ck_some hf
        refine ul_I hx hb hK hP (by decide) (by decide) hi9 d_M_function0_337 ?_
        obtain ⟨u1, r1, hc1, hf⟩ := bnd_some hf
        refine mV_v (As := [.int 4, .int (u.2.2.1 49 v1.toNatClampNeg)]) (rest := []) C0 hP hD hS (c_M_rule N hM hc1) k_M_rule hl_M_rule hi_M_rule hs_M_rule hini_M rfl rfl hd_M_rule rfl (rm_M_function0_M_rule hR) hl.1 (Nat.le_of_ble_eq_true rfl) d_M_function0_338 rfl ⟨Nat.zero_le _, Nat.zero_le _⟩ (fun H locs hP hD hS => ?_)
        exact wb_M_function0_341 C0 hR N G hG _ _ hf H locs hP hD hS ls (lv_sub hl [] rfl)
  · rw [br_n _ hc] at hf
    refine lv_iload hx hb d_M_function0_270 (lv_at hl 2 rfl) ?_
    refine lv_aload_n hx hb d_M_function0_272 rfl (lv_at hl 0 rfl) ?_
    refine ug_R hx hb ht hown hM hK hP 47 (by decide) lk_M_47 (by decide) d_M_function0_273 ?_
    refine lv_iload hx hb d_M_function0_276 (lv_at hl 3 rfl) ?_
    obtain ⟨hi9, hf⟩ := ck_some hf
    refine ul_I hx hb hK hP (by decide) (by decide) hi9 d_M_function0_278 ?_
    refine lv_aload_n hx hb d_M_function0_279 rfl (lv_at hl 0 rfl) ?_
    refine ug_R hx hb ht hown hM hK hP 47 (by decide) lk_M_47 (by decide) d_M_function0_280 ?_
    refine lv_iload_n hx hb d_M_function0_283 rfl (lv_at hl 1 rfl) ?_
    obtain ⟨hi9, hf⟩ := ck_some hf
    refine ul_I hx hb hK hP (by decide) (by decide) hi9 d_M_function0_284 ?_
    refine lv_icmp_ne (tgt := 308) hx hb d_M_function0_285 (by decide) (fun hc => ?_) (fun hc => ?_)
    · rw [br_n _ hc] at hf
      exact wb_M_function0_308 C0 hR N G hG _ _ _ _ _ hf H locs hP hD hS ls (lv_sub hl [0, 1, 3] rfl)
    · rw [br_p _ hc] at hf
      refine lv_aload_n hx hb d_M_function0_288 rfl (lv_at hl 0 rfl) ?_
      refine ug_R hx hb ht hown hM hK hP 48 (by decide) lk_M_48 (by decide) d_M_function0_289 ?_
      refine lv_iload hx hb d_M_function0_292 (lv_at hl 3 rfl) ?_
      obtain ⟨hi9, hf⟩ := ck_some hf
      refine ul_I hx hb hK hP (by decide) (by decide) hi9 d_M_function0_294 ?_
      refine lv_aload_n hx hb d_M_function0_295 rfl (lv_at hl 0 rfl) ?_
      refine ug_R hx hb ht hown hM hK hP 48 (by decide) lk_M_48 (by decide) d_M_function0_296 ?_
      refine lv_iload_n hx hb d_M_function0_299 rfl (lv_at hl 1 rfl) ?_
      obtain ⟨hi9, hf⟩ := ck_some hf
      refine ul_I hx hb hK hP (by decide) (by decide) hi9 d_M_function0_300 ?_
      refine lv_icmp_ne (tgt := 308) hx hb d_M_function0_301 (by decide) (fun hc => ?_) (fun hc => ?_)
      · rw [br_n _ hc] at hf
        exact wb_M_function0_308 C0 hR N G hG _ _ _ _ _ hf H locs hP hD hS ls (lv_sub hl [0, 1, 3] rfl)
      · rw [br_p _ hc] at hf
        refine lv_iconst (v := 1) hx hb d_M_function0_304 (by decide) ?_
        refine lv_goto (tgt := 309) hx hb d_M_function0_305 (by decide) ?_
        exact wb_M_function0_309 C0 hR N G hG _ _ _ _ _ _ hf H locs hP hD hS ls (lv_sub hl [0, 1, 3] rfl)
def fb_M_function0_259 (N : Nat) (G : (MS → Int32 → Int32 → Int32 → Option (MS × Unit)) × (MS → Int32 → Int32 → Int32 → Option (MS × Unit))) (u : MS) (v1 : Int32) (t0 : Int32) : Option (MS × Unit) := G.2 u (v1) (t0) (0)
set_option maxRecDepth 100000 in
set_option maxHeartbeats 4000000 in
theorem wb_M_function0_259 {p : Program} {l : Launch} {e : Env} {R : Room} {s : State} {m : MethodId} {args : Array Value} {below : List Frame} {meth : Method} {c : Code} {D : va_G} {cl : List vw_C} {cB cI cJ cZ cS : ClassId} {A : Nat → Prop} {iM h0 : Nat} {ad : Nat → Nat} (C0 : MCx p s m args meth c b_M_function0 6 none D cl cB cI cJ cZ cS iM A) (hR : R = rm_M_function0) (N : Nat) (G : (MS → Int32 → Int32 → Int32 → Option (MS × Unit)) × (MS → Int32 → Int32 → Int32 → Option (MS × Unit))) (hG : (∀ (u : MS) (v1 : Int32) (v2 : Int32) (v3 : Int32) (x : MS × Unit), G.1 u v1 v2 v3 = some x → ∀ (H : Heap) (locs : List Loc), va_P D cl (wM cB cI cJ cZ cS iM h0 ad u) H → va_D A (wM cB cI cJ cZ cS iM h0 ad u) → va_S A s.heap H locs → ∀ (ls : Array Slot), lv_has ls 6 [(0, .ref h0), (1, .int v1), (2, .int v2), (3, .int v3)] → W p l e R s m args below meth c H locs 0 0 (MQ below (mQv D cl cB cI cJ cZ cS iM h0 ad A x) args s 0 0 A) (F0 m 36 ls [])) ∧ (∀ (u : MS) (v1 : Int32) (v4 : Int32) (v5 : Int32) (x : MS × Unit), G.2 u v1 v4 v5 = some x → ∀ (H : Heap) (locs : List Loc), va_P D cl (wM cB cI cJ cZ cS iM h0 ad u) H → va_D A (wM cB cI cJ cZ cS iM h0 ad u) → va_S A s.heap H locs → ∀ (ls : Array Slot), lv_has ls 6 [(0, .ref h0), (1, .int v1), (4, .int v4), (5, .int v5)] → W p l e R s m args below meth c H locs 0 0 (MQ below (mQv D cl cB cI cJ cZ cS iM h0 ad A x) args s 0 0 A) (F0 m 264 ls []))) : ∀ (u : MS) (v1 : Int32) (t0 : Int32) (x : MS × Unit), fb_M_function0_259 N G u v1 t0 = some x → ∀ (H : Heap) (locs : List Loc), va_P D cl (wM cB cI cJ cZ cS iM h0 ad u) H → va_D A (wM cB cI cJ cZ cS iM h0 ad u) → va_S A s.heap H locs → ∀ (ls : Array Slot), lv_has ls 6 [(0, .ref h0), (1, .int v1)] → W p l e R s m args below meth c H locs 0 0 (MQ below (mQv D cl cB cI cJ cZ cS iM h0 ad A x) args s 0 0 A) (F0 m 259 ls [.int t0]) := by
  intro u v1 t0 x hf H locs hP hD hS ls hl
  obtain ⟨hx, hb, hr, hml, ht, hown, hM, hK, hA, hlocks⟩ := id C0
  unfold fb_M_function0_259 at hf
  refine lv_istore (lv' := [(4, .int t0), (0, .ref h0), (1, .int v1)]) hx hb d_M_function0_259 hl (by decide) rfl (fun ls hl => ?_)
  refine lv_iconst (v := 0) hx hb d_M_function0_261 (by decide) ?_
  refine lv_istore (lv' := [(5, .int 0), (4, .int t0), (0, .ref h0), (1, .int v1)]) hx hb d_M_function0_262 hl (by decide) rfl (fun ls hl => ?_)
  exact hG.2 _ _ _ _ _ hf H locs hP hD hS ls (lv_sub hl [2, 3, 1, 0] rfl)
def fb_M_function0_228 (N : Nat) (G : (MS → Int32 → Int32 → Int32 → Option (MS × Unit)) × (MS → Int32 → Int32 → Int32 → Option (MS × Unit))) (u : MS) (v1 : Int32) : Option (MS × Unit) := bnd (fm_M_needSign N u 8) (fun u2 _ => ck (inb v1 (ln 47)) (ck (inb v1 (ln 48)) (bnd (fm_M_predefinedOf N u2 (u2.2.2.1 47 v1.toNatClampNeg) (u2.2.2.1 48 v1.toNatClampNeg)) (fun u3 r3 => br (decide (r3 = (-1))) (fb_M_function0_259 N G u3 (v1) (0)) (fb_M_function0_259 N G u3 (v1) (1))))))
set_option maxRecDepth 100000 in
set_option maxHeartbeats 4000000 in
theorem wb_M_function0_228 {p : Program} {l : Launch} {e : Env} {R : Room} {s : State} {m : MethodId} {args : Array Value} {below : List Frame} {meth : Method} {c : Code} {D : va_G} {cl : List vw_C} {cB cI cJ cZ cS : ClassId} {A : Nat → Prop} {iM h0 : Nat} {ad : Nat → Nat} (C0 : MCx p s m args meth c b_M_function0 6 none D cl cB cI cJ cZ cS iM A) (hR : R = rm_M_function0) (N : Nat) (G : (MS → Int32 → Int32 → Int32 → Option (MS × Unit)) × (MS → Int32 → Int32 → Int32 → Option (MS × Unit))) (hG : (∀ (u : MS) (v1 : Int32) (v2 : Int32) (v3 : Int32) (x : MS × Unit), G.1 u v1 v2 v3 = some x → ∀ (H : Heap) (locs : List Loc), va_P D cl (wM cB cI cJ cZ cS iM h0 ad u) H → va_D A (wM cB cI cJ cZ cS iM h0 ad u) → va_S A s.heap H locs → ∀ (ls : Array Slot), lv_has ls 6 [(0, .ref h0), (1, .int v1), (2, .int v2), (3, .int v3)] → W p l e R s m args below meth c H locs 0 0 (MQ below (mQv D cl cB cI cJ cZ cS iM h0 ad A x) args s 0 0 A) (F0 m 36 ls [])) ∧ (∀ (u : MS) (v1 : Int32) (v4 : Int32) (v5 : Int32) (x : MS × Unit), G.2 u v1 v4 v5 = some x → ∀ (H : Heap) (locs : List Loc), va_P D cl (wM cB cI cJ cZ cS iM h0 ad u) H → va_D A (wM cB cI cJ cZ cS iM h0 ad u) → va_S A s.heap H locs → ∀ (ls : Array Slot), lv_has ls 6 [(0, .ref h0), (1, .int v1), (4, .int v4), (5, .int v5)] → W p l e R s m args below meth c H locs 0 0 (MQ below (mQv D cl cB cI cJ cZ cS iM h0 ad A x) args s 0 0 A) (F0 m 264 ls []))) : ∀ (u : MS) (v1 : Int32) (x : MS × Unit), fb_M_function0_228 N G u v1 = some x → ∀ (H : Heap) (locs : List Loc), va_P D cl (wM cB cI cJ cZ cS iM h0 ad u) H → va_D A (wM cB cI cJ cZ cS iM h0 ad u) → va_S A s.heap H locs → ∀ (ls : Array Slot), lv_has ls 6 [(0, .ref h0), (1, .int v1)] → W p l e R s m args below meth c H locs 0 0 (MQ below (mQv D cl cB cI cJ cZ cS iM h0 ad A x) args s 0 0 A) (F0 m 228 ls []) := by
  intro u v1 x hf H locs hP hD hS ls hl
  obtain ⟨hx, hb, hr, hml, ht, hown, hM, hK, hA, hlocks⟩ := id C0
  unfold fb_M_function0_228 at hf
  refine lv_aload_n hx hb d_M_function0_228 rfl (lv_at hl 0 rfl) ?_
  refine lv_bipush (v := 8) hx hb d_M_function0_229 (by decide) ?_
  obtain ⟨u2, r2, hc2, hf⟩ := bnd_some hf
  refine mV_v (As := [.int 8]) (rest := []) C0 hP hD hS (c_M_needSign N hM hc2) k_M_needSign hl_M_needSign hi_M_needSign hs_M_needSign hini_M rfl rfl hd_M_needSign rfl (rm_M_function0_M_needSign hR) hl.1 (Nat.le_of_ble_eq_true rfl) d_M_function0_231 rfl ⟨Nat.zero_le _, Nat.zero_le _⟩ (fun H locs hP hD hS => ?_)
  refine lv_aload_n hx hb d_M_function0_234 rfl (lv_at hl 0 rfl) ?_
  refine lv_aload_n hx hb d_M_function0_235 rfl (lv_at hl 0 rfl) ?_
  refine ug_R hx hb ht hown hM hK hP 47 (by decide) lk_M_47 (by decide) d_M_function0_236 ?_
  refine lv_iload_n hx hb d_M_function0_239 rfl (lv_at hl 1 rfl) ?_
  obtain ⟨hi9, hf⟩ := ck_some hf
  refine ul_I hx hb hK hP (by decide) (by decide) hi9 d_M_function0_240 ?_
  refine lv_aload_n hx hb d_M_function0_241 rfl (lv_at hl 0 rfl) ?_
  refine ug_R hx hb ht hown hM hK hP 48 (by decide) lk_M_48 (by decide) d_M_function0_242 ?_
  refine lv_iload_n hx hb d_M_function0_245 rfl (lv_at hl 1 rfl) ?_
  obtain ⟨hi9, hf⟩ := ck_some hf
  refine ul_I hx hb hK hP (by decide) (by decide) hi9 d_M_function0_246 ?_
  obtain ⟨u3, r3, hc3, hf⟩ := bnd_some hf
  refine mV_i (As := [.int (u2.2.2.1 47 v1.toNatClampNeg), .int (u2.2.2.1 48 v1.toNatClampNeg)]) (rest := []) C0 hP hD hS (c_M_predefinedOf N hM hc3) k_M_predefinedOf hl_M_predefinedOf hi_M_predefinedOf hs_M_predefinedOf hini_M rfl rfl hd_M_predefinedOf rfl (rm_M_function0_M_predefinedOf hR) hl.1 (Nat.le_of_ble_eq_true rfl) d_M_function0_247 rfl ⟨Nat.zero_le _, Nat.zero_le _⟩ (fun H locs hP hD hS => ?_)
  refine lv_iconst (v := (-1)) hx hb d_M_function0_250 (by decide) ?_
  refine lv_icmp_eq (tgt := 258) hx hb d_M_function0_251 (by decide) (fun hc => ?_) (fun hc => ?_)
  · rw [br_p _ hc] at hf
    refine lv_iconst (v := 0) hx hb d_M_function0_258 (by decide) ?_
    exact wb_M_function0_259 C0 hR N G hG _ _ _ _ hf H locs hP hD hS ls (lv_sub hl [0, 1] rfl)
  · rw [br_n _ hc] at hf
    refine lv_iconst (v := 1) hx hb d_M_function0_254 (by decide) ?_
    refine lv_goto (tgt := 259) hx hb d_M_function0_255 (by decide) ?_
    exact wb_M_function0_259 C0 hR N G hG _ _ _ _ hf H locs hP hD hS ls (lv_sub hl [0, 1] rfl)
def fb_M_function0_205 (N : Nat) (G : (MS → Int32 → Int32 → Int32 → Option (MS × Unit)) × (MS → Int32 → Int32 → Int32 → Option (MS × Unit))) (u : MS) (v1 : Int32) (v5 : Int32) : Option (MS × Unit) := ck (inb v1 (ln 51)) (ck (inb v1 (ln 51)) (lt (upA u 51 (upd (u.2.2.1 51) v1.toNatClampNeg ((u.2.2.1 51 v1.toNatClampNeg) + 1))) (fun w4 => bnd (fm_M_takeSign N w4 7) (fun u5 r5 => G.1 u5 (v1) (v5) (r5)))))
set_option maxRecDepth 100000 in
set_option maxHeartbeats 4000000 in
theorem wb_M_function0_205 {p : Program} {l : Launch} {e : Env} {R : Room} {s : State} {m : MethodId} {args : Array Value} {below : List Frame} {meth : Method} {c : Code} {D : va_G} {cl : List vw_C} {cB cI cJ cZ cS : ClassId} {A : Nat → Prop} {iM h0 : Nat} {ad : Nat → Nat} (C0 : MCx p s m args meth c b_M_function0 6 none D cl cB cI cJ cZ cS iM A) (hR : R = rm_M_function0) (N : Nat) (G : (MS → Int32 → Int32 → Int32 → Option (MS × Unit)) × (MS → Int32 → Int32 → Int32 → Option (MS × Unit))) (hG : (∀ (u : MS) (v1 : Int32) (v2 : Int32) (v3 : Int32) (x : MS × Unit), G.1 u v1 v2 v3 = some x → ∀ (H : Heap) (locs : List Loc), va_P D cl (wM cB cI cJ cZ cS iM h0 ad u) H → va_D A (wM cB cI cJ cZ cS iM h0 ad u) → va_S A s.heap H locs → ∀ (ls : Array Slot), lv_has ls 6 [(0, .ref h0), (1, .int v1), (2, .int v2), (3, .int v3)] → W p l e R s m args below meth c H locs 0 0 (MQ below (mQv D cl cB cI cJ cZ cS iM h0 ad A x) args s 0 0 A) (F0 m 36 ls [])) ∧ (∀ (u : MS) (v1 : Int32) (v4 : Int32) (v5 : Int32) (x : MS × Unit), G.2 u v1 v4 v5 = some x → ∀ (H : Heap) (locs : List Loc), va_P D cl (wM cB cI cJ cZ cS iM h0 ad u) H → va_D A (wM cB cI cJ cZ cS iM h0 ad u) → va_S A s.heap H locs → ∀ (ls : Array Slot), lv_has ls 6 [(0, .ref h0), (1, .int v1), (4, .int v4), (5, .int v5)] → W p l e R s m args below meth c H locs 0 0 (MQ below (mQv D cl cB cI cJ cZ cS iM h0 ad A x) args s 0 0 A) (F0 m 264 ls []))) : ∀ (u : MS) (v1 : Int32) (v5 : Int32) (x : MS × Unit), fb_M_function0_205 N G u v1 v5 = some x → ∀ (H : Heap) (locs : List Loc), va_P D cl (wM cB cI cJ cZ cS iM h0 ad u) H → va_D A (wM cB cI cJ cZ cS iM h0 ad u) → va_S A s.heap H locs → ∀ (ls : Array Slot), lv_has ls 6 [(0, .ref h0), (1, .int v1), (5, .int v5)] → W p l e R s m args below meth c H locs 0 0 (MQ below (mQv D cl cB cI cJ cZ cS iM h0 ad A x) args s 0 0 A) (F0 m 205 ls []) := by
  intro u v1 v5 x hf H locs hP hD hS ls hl
  obtain ⟨hx, hb, hr, hml, ht, hown, hM, hK, hA, hlocks⟩ := id C0
  unfold fb_M_function0_205 at hf
  refine lv_iload hx hb d_M_function0_205 (lv_at hl 2 rfl) ?_
  refine lv_istore_n (lv' := [(2, .int v5), (0, .ref h0), (1, .int v1), (5, .int v5)]) hx hb d_M_function0_207 rfl hl (by decide) rfl (fun ls hl => ?_)
  refine lv_aload_n hx hb d_M_function0_208 rfl (lv_at hl 1 rfl) ?_
  refine ug_R hx hb ht hown hM hK hP 51 (by decide) lk_M_51 (by decide) d_M_function0_209 ?_
  refine lv_iload_n hx hb d_M_function0_212 rfl (lv_at hl 2 rfl) ?_
  refine lv_dup2_11 hx hb d_M_function0_213 rfl rfl ?_
  obtain ⟨hi9, hf⟩ := ck_some hf
  refine ul_I hx hb hK hP (by decide) (by decide) hi9 d_M_function0_214 ?_
  refine lv_iconst (v := 1) hx hb d_M_function0_215 (by decide) ?_
  refine lv_iadd hx hb d_M_function0_216 ?_
  obtain ⟨hi9, hf⟩ := ck_some hf
  refine us_I hx hb hK hP hD hS (by decide) (by decide) hi9 d_M_function0_217 (fun H locs hP hD hS => ?_)
  obtain ⟨w4, e4, hf⟩ := lt_some hf
  rw [← e4] at hP hD
  refine lv_aload_n hx hb d_M_function0_218 rfl (lv_at hl 1 rfl) ?_
  refine lv_bipush (v := 7) hx hb d_M_function0_219 (by decide) ?_
  obtain ⟨u5, r5, hc5, hf⟩ := bnd_some hf
  refine mV_i (As := [.int 7]) (rest := []) C0 hP hD hS (c_M_takeSign N hM hc5) k_M_takeSign hl_M_takeSign hi_M_takeSign hs_M_takeSign hini_M rfl rfl hd_M_takeSign rfl (rm_M_function0_M_takeSign hR) hl.1 (Nat.le_of_ble_eq_true rfl) d_M_function0_221 rfl ⟨Nat.zero_le _, Nat.zero_le _⟩ (fun H locs hP hD hS => ?_)
  refine lv_istore_n (lv' := [(3, .int r5), (2, .int v5), (0, .ref h0), (1, .int v1), (5, .int v5)]) hx hb d_M_function0_224 rfl hl (by decide) rfl (fun ls hl => ?_)
  refine lv_goto (tgt := 36) hx hb d_M_function0_225 (by decide) ?_
  exact hG.1 _ _ _ _ _ hf H locs hP hD hS ls (lv_sub hl [2, 3, 1, 0] rfl)
def fb_M_function0_198 (N : Nat) (G : (MS → Int32 → Int32 → Int32 → Option (MS × Unit)) × (MS → Int32 → Int32 → Int32 → Option (MS × Unit))) (u : MS) (v1 : Int32) (v4 : Int32) (v5 : Int32) : Option (MS × Unit) := bnd (fm_M_rule N u 4 v4) (fun u6 _ => fb_M_function0_205 N G u6 (v1) (v5))
set_option maxRecDepth 100000 in
set_option maxHeartbeats 4000000 in
theorem wb_M_function0_198 {p : Program} {l : Launch} {e : Env} {R : Room} {s : State} {m : MethodId} {args : Array Value} {below : List Frame} {meth : Method} {c : Code} {D : va_G} {cl : List vw_C} {cB cI cJ cZ cS : ClassId} {A : Nat → Prop} {iM h0 : Nat} {ad : Nat → Nat} (C0 : MCx p s m args meth c b_M_function0 6 none D cl cB cI cJ cZ cS iM A) (hR : R = rm_M_function0) (N : Nat) (G : (MS → Int32 → Int32 → Int32 → Option (MS × Unit)) × (MS → Int32 → Int32 → Int32 → Option (MS × Unit))) (hG : (∀ (u : MS) (v1 : Int32) (v2 : Int32) (v3 : Int32) (x : MS × Unit), G.1 u v1 v2 v3 = some x → ∀ (H : Heap) (locs : List Loc), va_P D cl (wM cB cI cJ cZ cS iM h0 ad u) H → va_D A (wM cB cI cJ cZ cS iM h0 ad u) → va_S A s.heap H locs → ∀ (ls : Array Slot), lv_has ls 6 [(0, .ref h0), (1, .int v1), (2, .int v2), (3, .int v3)] → W p l e R s m args below meth c H locs 0 0 (MQ below (mQv D cl cB cI cJ cZ cS iM h0 ad A x) args s 0 0 A) (F0 m 36 ls [])) ∧ (∀ (u : MS) (v1 : Int32) (v4 : Int32) (v5 : Int32) (x : MS × Unit), G.2 u v1 v4 v5 = some x → ∀ (H : Heap) (locs : List Loc), va_P D cl (wM cB cI cJ cZ cS iM h0 ad u) H → va_D A (wM cB cI cJ cZ cS iM h0 ad u) → va_S A s.heap H locs → ∀ (ls : Array Slot), lv_has ls 6 [(0, .ref h0), (1, .int v1), (4, .int v4), (5, .int v5)] → W p l e R s m args below meth c H locs 0 0 (MQ below (mQv D cl cB cI cJ cZ cS iM h0 ad A x) args s 0 0 A) (F0 m 264 ls []))) : ∀ (u : MS) (v1 : Int32) (v4 : Int32) (v5 : Int32) (x : MS × Unit), fb_M_function0_198 N G u v1 v4 v5 = some x → ∀ (H : Heap) (locs : List Loc), va_P D cl (wM cB cI cJ cZ cS iM h0 ad u) H → va_D A (wM cB cI cJ cZ cS iM h0 ad u) → va_S A s.heap H locs → ∀ (ls : Array Slot), lv_has ls 6 [(0, .ref h0), (1, .int v1), (4, .int v4), (5, .int v5)] → W p l e R s m args below meth c H locs 0 0 (MQ below (mQv D cl cB cI cJ cZ cS iM h0 ad A x) args s 0 0 A) (F0 m 198 ls []) := by
  intro u v1 v4 v5 x hf H locs hP hD hS ls hl
  obtain ⟨hx, hb, hr, hml, ht, hown, hM, hK, hA, hlocks⟩ := id C0
  unfold fb_M_function0_198 at hf
  refine lv_aload_n hx hb d_M_function0_198 rfl (lv_at hl 0 rfl) ?_
  refine lv_iconst (v := 4) hx hb d_M_function0_199 (by decide) ?_
  refine lv_iload hx hb d_M_function0_200 (lv_at hl 2 rfl) ?_
  obtain ⟨u6, r6, hc6, hf⟩ := bnd_some hf
  refine mV_v (As := [.int 4, .int v4]) (rest := []) C0 hP hD hS (c_M_rule N hM hc6) k_M_rule hl_M_rule hi_M_rule hs_M_rule hini_M rfl rfl hd_M_rule rfl (rm_M_function0_M_rule hR) hl.1 (Nat.le_of_ble_eq_true rfl) d_M_function0_202 rfl ⟨Nat.zero_le _, Nat.zero_le _⟩ (fun H locs hP hD hS => ?_)
  exact wb_M_function0_205 C0 hR N G hG _ _ _ _ hf H locs hP hD hS ls (lv_sub hl [0, 1, 3] rfl)
def fb_M_function0_36 (N : Nat) (G : (MS → Int32 → Int32 → Int32 → Option (MS × Unit)) × (MS → Int32 → Int32 → Int32 → Option (MS × Unit))) (u : MS) (v1 : Int32) (v2 : Int32) (v3 : Int32) : Option (MS × Unit) := br (decide (v3 = 0)) (fb_M_function0_228 N G u (v1)) (br (decide ((u.1 67) = 0)) (ck (inb (u.1 69) (ln 6)) (br (decide ((u.2.2.1 6 (u.1 69).toNatClampNeg) = 1)) (lt (upI u 69 ((u.1 69) + 1)) (fun w7 => lt (upI w7 65 0) (fun w8 => ck (inb (0 : Int32) (ln 60)) (lt (upA w8 60 (upd (w8.2.2.1 60) (0 : Int32).toNatClampNeg 0)) (fun w9 => ck (inb (0 : Int32) (ln 63)) (lt (upA w9 63 (upd (w9.2.2.1 63) (0 : Int32).toNatClampNeg 0)) (fun w10 => ck (inb (0 : Int32) (ln 64)) (lt (upA w10 64 (upd (w10.2.2.1 64) (0 : Int32).toNatClampNeg 0)) (fun w11 => bnd (fr_M_clause N w11 (u.1 69)) (fun u12 r12 => br (decide (v2 = (-1))) (ck (inb (u.1 69) (ln 7)) (ck (inb v1 (ln 47)) (lt (upA u12 47 (upd (u12.2.2.1 47) v1.toNatClampNeg (u12.2.2.1 7 (u.1 69).toNatClampNeg))) (fun w14 => ck (inb r12 (ln 41)) (ck (inb v1 (ln 48)) (lt (upA w14 48 (upd (w14.2.2.1 48) v1.toNatClampNeg (w14.2.2.1 41 r12.toNatClampNeg))) (fun w15 => ck (inb v1 (ln 50)) (lt (upA w15 50 (upd (w15.2.2.1 50) v1.toNatClampNeg r12)) (fun w16 => fb_M_function0_205 N G w16 (v1) (r12)))))))))) (ck (inb v2 (ln 45)) (lt (upA u12 45 (upd (u12.2.2.1 45) v2.toNatClampNeg r12)) (fun w13 => ck (inb (u.1 69) (ln 7)) (ck (inb v1 (ln 47)) (br (decide ((w13.2.2.1 7 (u.1 69).toNatClampNeg) = (w13.2.2.1 47 v1.toNatClampNeg))) (ck (inb r12 (ln 41)) (ck (inb v1 (ln 48)) (br (decide ((w13.2.2.1 41 r12.toNatClampNeg) = (w13.2.2.1 48 v1.toNatClampNeg))) (fb_M_function0_205 N G w13 (v1) (r12)) (fb_M_function0_198 N G w13 (v1) ((u.1 69)) (r12))))) (fb_M_function0_198 N G w13 (v1) ((u.1 69)) (r12))))))))))))))))) (bnd (fm_M_wrong N u 2) (fun u17 _ => some (u17, ()))))) (fb_M_function0_228 N G u (v1)))
set_option maxRecDepth 100000 in
set_option maxHeartbeats 4000000 in
theorem wb_M_function0_36 {p : Program} {l : Launch} {e : Env} {R : Room} {s : State} {m : MethodId} {args : Array Value} {below : List Frame} {meth : Method} {c : Code} {D : va_G} {cl : List vw_C} {cB cI cJ cZ cS : ClassId} {A : Nat → Prop} {iM h0 : Nat} {ad : Nat → Nat} (C0 : MCx p s m args meth c b_M_function0 6 none D cl cB cI cJ cZ cS iM A) (hR : R = rm_M_function0) (N : Nat) (G : (MS → Int32 → Int32 → Int32 → Option (MS × Unit)) × (MS → Int32 → Int32 → Int32 → Option (MS × Unit))) (hG : (∀ (u : MS) (v1 : Int32) (v2 : Int32) (v3 : Int32) (x : MS × Unit), G.1 u v1 v2 v3 = some x → ∀ (H : Heap) (locs : List Loc), va_P D cl (wM cB cI cJ cZ cS iM h0 ad u) H → va_D A (wM cB cI cJ cZ cS iM h0 ad u) → va_S A s.heap H locs → ∀ (ls : Array Slot), lv_has ls 6 [(0, .ref h0), (1, .int v1), (2, .int v2), (3, .int v3)] → W p l e R s m args below meth c H locs 0 0 (MQ below (mQv D cl cB cI cJ cZ cS iM h0 ad A x) args s 0 0 A) (F0 m 36 ls [])) ∧ (∀ (u : MS) (v1 : Int32) (v4 : Int32) (v5 : Int32) (x : MS × Unit), G.2 u v1 v4 v5 = some x → ∀ (H : Heap) (locs : List Loc), va_P D cl (wM cB cI cJ cZ cS iM h0 ad u) H → va_D A (wM cB cI cJ cZ cS iM h0 ad u) → va_S A s.heap H locs → ∀ (ls : Array Slot), lv_has ls 6 [(0, .ref h0), (1, .int v1), (4, .int v4), (5, .int v5)] → W p l e R s m args below meth c H locs 0 0 (MQ below (mQv D cl cB cI cJ cZ cS iM h0 ad A x) args s 0 0 A) (F0 m 264 ls []))) : ∀ (u : MS) (v1 : Int32) (v2 : Int32) (v3 : Int32) (x : MS × Unit), fb_M_function0_36 N G u v1 v2 v3 = some x → ∀ (H : Heap) (locs : List Loc), va_P D cl (wM cB cI cJ cZ cS iM h0 ad u) H → va_D A (wM cB cI cJ cZ cS iM h0 ad u) → va_S A s.heap H locs → ∀ (ls : Array Slot), lv_has ls 6 [(0, .ref h0), (1, .int v1), (2, .int v2), (3, .int v3)] → W p l e R s m args below meth c H locs 0 0 (MQ below (mQv D cl cB cI cJ cZ cS iM h0 ad A x) args s 0 0 A) (F0 m 36 ls []) := by
  intro u v1 v2 v3 x hf H locs hP hD hS ls hl
  obtain ⟨hx, hb, hr, hml, ht, hown, hM, hK, hA, hlocks⟩ := id C0
  unfold fb_M_function0_36 at hf
  refine lv_iload_n hx hb d_M_function0_36 rfl (lv_at hl 3 rfl) ?_
  refine lv_if_eq (tgt := 228) hx hb d_M_function0_37 (by decide) (fun hc => ?_) (fun hc => ?_)
  · rw [br_p _ hc] at hf
    exact wb_M_function0_228 C0 hR N G hG _ _ _ hf H locs hP hD hS ls (lv_sub hl [0, 1] rfl)
  · rw [br_n _ hc] at hf
    refine lv_aload_n hx hb d_M_function0_40 rfl (lv_at hl 0 rfl) ?_
    refine ug_I hx hb ht hown hM hK hP 67 (by decide) lk_M_67 (by decide) d_M_function0_41 ?_
    refine lv_if_ne (tgt := 228) hx hb d_M_function0_44 (by decide) (fun hc => ?_) (fun hc => ?_)
    · rw [br_n _ hc] at hf
      exact wb_M_function0_228 C0 hR N G hG _ _ _ hf H locs hP hD hS ls (lv_sub hl [0, 1] rfl)
    · rw [br_p _ hc] at hf
      refine lv_aload_n hx hb d_M_function0_47 rfl (lv_at hl 0 rfl) ?_
      refine ug_R hx hb ht hown hM hK hP 6 (by decide) lk_M_6 (by decide) d_M_function0_48 ?_
      refine lv_aload_n hx hb d_M_function0_51 rfl (lv_at hl 0 rfl) ?_
      refine ug_I hx hb ht hown hM hK hP 69 (by decide) lk_M_69 (by decide) d_M_function0_52 ?_
      obtain ⟨hi9, hf⟩ := ck_some hf
      refine ul_B hx hb hK hP (by decide) (by decide) hi9 d_M_function0_55 ?_
      refine lv_iconst (v := 1) hx hb d_M_function0_56 (by decide) ?_
      refine lv_icmp_eq (tgt := 66) hx hb d_M_function0_57 (by decide) (fun hc => ?_) (fun hc => ?_)
      · rw [br_p _ hc] at hf
        refine lv_aload_n hx hb d_M_function0_66 rfl (lv_at hl 0 rfl) ?_
        refine ug_I hx hb ht hown hM hK hP 69 (by decide) lk_M_69 (by decide) d_M_function0_67 ?_
        refine lv_istore (lv' := [(4, .int (u.1 69)), (0, .ref h0), (1, .int v1), (2, .int v2), (3, .int v3)]) hx hb d_M_function0_70 hl (by decide) rfl (fun ls hl => ?_)
        refine lv_aload_n hx hb d_M_function0_72 rfl (lv_at hl 1 rfl) ?_
        refine lv_dup hx hb d_M_function0_73 rfl ?_
        refine ug_I hx hb ht hown hM hK hP 69 (by decide) lk_M_69 (by decide) d_M_function0_74 ?_
        refine lv_iconst (v := 1) hx hb d_M_function0_77 (by decide) ?_
        refine lv_iadd hx hb d_M_function0_78 ?_
        refine up_I hx hb ht hown hM hK hP hD hS 69 (by decide) lk_M_69 (by decide) rfl rfl rfl d_M_function0_79 (fun H locs hP hD hS => ?_)
        obtain ⟨w7, e7, hf⟩ := lt_some hf
        rw [← e7] at hP hD
        refine lv_aload_n hx hb d_M_function0_82 rfl (lv_at hl 1 rfl) ?_
        refine lv_iconst (v := 0) hx hb d_M_function0_83 (by decide) ?_
        refine up_I hx hb ht hown hM hK hP hD hS 65 (by decide) lk_M_65 (by decide) rfl rfl rfl d_M_function0_84 (fun H locs hP hD hS => ?_)
        obtain ⟨w8, e8, hf⟩ := lt_some hf
        rw [← e8] at hP hD
        refine lv_aload_n hx hb d_M_function0_87 rfl (lv_at hl 1 rfl) ?_
        refine ug_R hx hb ht hown hM hK hP 60 (by decide) lk_M_60 (by decide) d_M_function0_88 ?_
        refine lv_iconst (v := 0) hx hb d_M_function0_91 (by decide) ?_
        refine lv_iconst (v := 0) hx hb d_M_function0_92 (by decide) ?_
        obtain ⟨hi9, hf⟩ := ck_some hf
        refine us_I hx hb hK hP hD hS (by decide) (by decide) hi9 d_M_function0_93 (fun H locs hP hD hS => ?_)
        obtain ⟨w9, e9, hf⟩ := lt_some hf
        rw [← e9] at hP hD
        refine lv_aload_n hx hb d_M_function0_94 rfl (lv_at hl 1 rfl) ?_
        refine ug_R hx hb ht hown hM hK hP 63 (by decide) lk_M_63 (by decide) d_M_function0_95 ?_
        refine lv_iconst (v := 0) hx hb d_M_function0_98 (by decide) ?_
        refine lv_iconst (v := 0) hx hb d_M_function0_99 (by decide) ?_
        obtain ⟨hi9, hf⟩ := ck_some hf
        refine us_I hx hb hK hP hD hS (by decide) (by decide) hi9 d_M_function0_100 (fun H locs hP hD hS => ?_)
        obtain ⟨w10, e10, hf⟩ := lt_some hf
        rw [← e10] at hP hD
        refine lv_aload_n hx hb d_M_function0_101 rfl (lv_at hl 1 rfl) ?_
        refine ug_R hx hb ht hown hM hK hP 64 (by decide) lk_M_64 (by decide) d_M_function0_102 ?_
        refine lv_iconst (v := 0) hx hb d_M_function0_105 (by decide) ?_
        refine lv_iconst (v := 0) hx hb d_M_function0_106 (by decide) ?_
        obtain ⟨hi9, hf⟩ := ck_some hf
        refine us_I hx hb hK hP hD hS (by decide) (by decide) hi9 d_M_function0_107 (fun H locs hP hD hS => ?_)
        obtain ⟨w11, e11, hf⟩ := lt_some hf
        rw [← e11] at hP hD
        refine lv_aload_n hx hb d_M_function0_108 rfl (lv_at hl 1 rfl) ?_
        refine lv_iload hx hb d_M_function0_109 (lv_at hl 0 rfl) ?_
        obtain ⟨u12, r12, hc12, hf⟩ := bnd_some hf
        refine mV_i (As := [.int (u.1 69)]) (rest := []) C0 hP hD hS (c_M_clause N hM hc12) k_M_clause hl_M_clause hi_M_clause hs_M_clause hini_M rfl rfl hd_M_clause rfl (rm_M_function0_M_clause hR) hl.1 (Nat.le_of_ble_eq_true rfl) d_M_function0_111 rfl ⟨Nat.zero_le _, Nat.zero_le _⟩ (fun H locs hP hD hS => ?_)
        refine lv_istore (lv' := [(5, .int r12), (4, .int (u.1 69)), (0, .ref h0), (1, .int v1), (2, .int v2), (3, .int v3)]) hx hb d_M_function0_114 hl (by decide) rfl (fun ls hl => ?_)
        refine lv_iload_n hx hb d_M_function0_116 rfl (lv_at hl 4 rfl) ?_
        refine lv_iconst (v := (-1)) hx hb d_M_function0_117 (by decide) ?_
        refine lv_icmp_ne (tgt := 158) hx hb d_M_function0_118 (by decide) (fun hc => ?_) (fun hc => ?_)
        · rw [br_n _ hc] at hf
          refine lv_aload_n hx hb d_M_function0_158 rfl (lv_at hl 2 rfl) ?_
          refine ug_R hx hb ht hown hM hK hP 45 (by decide) lk_M_45 (by decide) d_M_function0_159 ?_
          refine lv_iload_n hx hb d_M_function0_162 rfl (lv_at hl 4 rfl) ?_
          refine lv_iload hx hb d_M_function0_163 (lv_at hl 0 rfl) ?_
          obtain ⟨hi9, hf⟩ := ck_some hf
          refine us_I hx hb hK hP hD hS (by decide) (by decide) hi9 d_M_function0_165 (fun H locs hP hD hS => ?_)
          obtain ⟨w13, e13, hf⟩ := lt_some hf
          rw [← e13] at hP hD
          refine lv_aload_n hx hb d_M_function0_166 rfl (lv_at hl 2 rfl) ?_
          refine ug_R hx hb ht hown hM hK hP 7 (by decide) lk_M_7 (by decide) d_M_function0_167 ?_
          refine lv_iload hx hb d_M_function0_170 (lv_at hl 1 rfl) ?_
          obtain ⟨hi9, hf⟩ := ck_some hf
          refine ul_I hx hb hK hP (by decide) (by decide) hi9 d_M_function0_172 ?_
          refine lv_aload_n hx hb d_M_function0_173 rfl (lv_at hl 2 rfl) ?_
          refine ug_R hx hb ht hown hM hK hP 47 (by decide) lk_M_47 (by decide) d_M_function0_174 ?_
          refine lv_iload_n hx hb d_M_function0_177 rfl (lv_at hl 3 rfl) ?_
          obtain ⟨hi9, hf⟩ := ck_some hf
          refine ul_I hx hb hK hP (by decide) (by decide) hi9 d_M_function0_178 ?_
          refine lv_icmp_ne (tgt := 198) hx hb d_M_function0_179 (by decide) (fun hc => ?_) (fun hc => ?_)
          · rw [br_n _ hc] at hf
            exact wb_M_function0_198 C0 hR N G hG _ _ _ _ _ hf H locs hP hD hS ls (lv_sub hl [2, 3, 1, 0] rfl)
          · rw [br_p _ hc] at hf
            refine lv_aload_n hx hb d_M_function0_182 rfl (lv_at hl 2 rfl) ?_
            refine ug_R hx hb ht hown hM hK hP 41 (by decide) lk_M_41 (by decide) d_M_function0_183 ?_
            refine lv_iload hx hb d_M_function0_186 (lv_at hl 0 rfl) ?_
            obtain ⟨hi9, hf⟩ := ck_some hf
            refine ul_I hx hb hK hP (by decide) (by decide) hi9 d_M_function0_188 ?_
            refine lv_aload_n hx hb d_M_function0_189 rfl (lv_at hl 2 rfl) ?_
            refine ug_R hx hb ht hown hM hK hP 48 (by decide) lk_M_48 (by decide) d_M_function0_190 ?_
            refine lv_iload_n hx hb d_M_function0_193 rfl (lv_at hl 3 rfl) ?_
            obtain ⟨hi9, hf⟩ := ck_some hf
            refine ul_I hx hb hK hP (by decide) (by decide) hi9 d_M_function0_194 ?_
            refine lv_icmp_eq (tgt := 205) hx hb d_M_function0_195 (by decide) (fun hc => ?_) (fun hc => ?_)
            · rw [br_p _ hc] at hf
              exact wb_M_function0_205 C0 hR N G hG _ _ _ _ hf H locs hP hD hS ls (lv_sub hl [2, 3, 0] rfl)
            · rw [br_n _ hc] at hf
              exact wb_M_function0_198 C0 hR N G hG _ _ _ _ _ hf H locs hP hD hS ls (lv_sub hl [2, 3, 1, 0] rfl)
        · rw [br_p _ hc] at hf
          refine lv_aload_n hx hb d_M_function0_121 rfl (lv_at hl 2 rfl) ?_
          refine ug_R hx hb ht hown hM hK hP 47 (by decide) lk_M_47 (by decide) d_M_function0_122 ?_
          refine lv_iload_n hx hb d_M_function0_125 rfl (lv_at hl 3 rfl) ?_
          refine lv_aload_n hx hb d_M_function0_126 rfl (lv_at hl 2 rfl) ?_
          refine ug_R hx hb ht hown hM hK hP 7 (by decide) lk_M_7 (by decide) d_M_function0_127 ?_
          refine lv_iload hx hb d_M_function0_130 (lv_at hl 1 rfl) ?_
          obtain ⟨hi9, hf⟩ := ck_some hf
          refine ul_I hx hb hK hP (by decide) (by decide) hi9 d_M_function0_132 ?_
          obtain ⟨hi9, hf⟩ := ck_some hf
          refine us_I hx hb hK hP hD hS (by decide) (by decide) hi9 d_M_function0_133 (fun H locs hP hD hS => ?_)
          obtain ⟨w14, e14, hf⟩ := lt_some hf
          rw [← e14] at hP hD
          refine lv_aload_n hx hb d_M_function0_134 rfl (lv_at hl 2 rfl) ?_
          refine ug_R hx hb ht hown hM hK hP 48 (by decide) lk_M_48 (by decide) d_M_function0_135 ?_
          refine lv_iload_n hx hb d_M_function0_138 rfl (lv_at hl 3 rfl) ?_
          refine lv_aload_n hx hb d_M_function0_139 rfl (lv_at hl 2 rfl) ?_
          refine ug_R hx hb ht hown hM hK hP 41 (by decide) lk_M_41 (by decide) d_M_function0_140 ?_
          refine lv_iload hx hb d_M_function0_143 (lv_at hl 0 rfl) ?_
          obtain ⟨hi9, hf⟩ := ck_some hf
          refine ul_I hx hb hK hP (by decide) (by decide) hi9 d_M_function0_145 ?_
          obtain ⟨hi9, hf⟩ := ck_some hf
          refine us_I hx hb hK hP hD hS (by decide) (by decide) hi9 d_M_function0_146 (fun H locs hP hD hS => ?_)
          obtain ⟨w15, e15, hf⟩ := lt_some hf
          rw [← e15] at hP hD
          refine lv_aload_n hx hb d_M_function0_147 rfl (lv_at hl 2 rfl) ?_
          refine ug_R hx hb ht hown hM hK hP 50 (by decide) lk_M_50 (by decide) d_M_function0_148 ?_
          refine lv_iload_n hx hb d_M_function0_151 rfl (lv_at hl 3 rfl) ?_
          refine lv_iload hx hb d_M_function0_152 (lv_at hl 0 rfl) ?_
          obtain ⟨hi9, hf⟩ := ck_some hf
          refine us_I hx hb hK hP hD hS (by decide) (by decide) hi9 d_M_function0_154 (fun H locs hP hD hS => ?_)
          obtain ⟨w16, e16, hf⟩ := lt_some hf
          rw [← e16] at hP hD
          refine lv_goto (tgt := 205) hx hb d_M_function0_155 (by decide) ?_
          exact wb_M_function0_205 C0 hR N G hG _ _ _ _ hf H locs hP hD hS ls (lv_sub hl [2, 3, 0] rfl)
      · rw [br_n _ hc] at hf
        refine lv_aload_n hx hb d_M_function0_60 rfl (lv_at hl 0 rfl) ?_
        refine lv_iconst (v := 2) hx hb d_M_function0_61 (by decide) ?_
        obtain ⟨u17, r17, hc17, hf⟩ := bnd_some hf
        refine mV_v (As := [.int 2]) (rest := []) C0 hP hD hS (c_M_wrong N hM hc17) k_M_wrong hl_M_wrong hi_M_wrong hs_M_wrong hini_M rfl rfl hd_M_wrong rfl (rm_M_function0_M_wrong hR) hl.1 (Nat.le_of_ble_eq_true rfl) d_M_function0_62 rfl ⟨Nat.zero_le _, Nat.zero_le _⟩ (fun H locs hP hD hS => ?_)
        exact mr_v C0 hP hD hS hf d_M_function0_65
def fb_M_function0_0 (N : Nat) (G : (MS → Int32 → Int32 → Int32 → Option (MS × Unit)) × (MS → Int32 → Int32 → Int32 → Option (MS × Unit))) (u : MS) : Option (MS × Unit) := lt (upI u 52 ((u.1 52) + 1)) (fun w18 => ck (inb (u.1 52) (ln 49)) (lt (upA w18 49 (upd (w18.2.2.1 49) (u.1 52).toNatClampNeg (w18.1 69))) (fun w19 => ck (inb (u.1 52) (ln 51)) (lt (upA w19 51 (upd (w19.2.2.1 51) (u.1 52).toNatClampNeg 0)) (fun w20 => G.1 w20 ((u.1 52)) ((-1)) (1))))))
set_option maxRecDepth 100000 in
set_option maxHeartbeats 4000000 in
theorem wb_M_function0_0 {p : Program} {l : Launch} {e : Env} {R : Room} {s : State} {m : MethodId} {args : Array Value} {below : List Frame} {meth : Method} {c : Code} {D : va_G} {cl : List vw_C} {cB cI cJ cZ cS : ClassId} {A : Nat → Prop} {iM h0 : Nat} {ad : Nat → Nat} (C0 : MCx p s m args meth c b_M_function0 6 none D cl cB cI cJ cZ cS iM A) (hR : R = rm_M_function0) (N : Nat) (G : (MS → Int32 → Int32 → Int32 → Option (MS × Unit)) × (MS → Int32 → Int32 → Int32 → Option (MS × Unit))) (hG : (∀ (u : MS) (v1 : Int32) (v2 : Int32) (v3 : Int32) (x : MS × Unit), G.1 u v1 v2 v3 = some x → ∀ (H : Heap) (locs : List Loc), va_P D cl (wM cB cI cJ cZ cS iM h0 ad u) H → va_D A (wM cB cI cJ cZ cS iM h0 ad u) → va_S A s.heap H locs → ∀ (ls : Array Slot), lv_has ls 6 [(0, .ref h0), (1, .int v1), (2, .int v2), (3, .int v3)] → W p l e R s m args below meth c H locs 0 0 (MQ below (mQv D cl cB cI cJ cZ cS iM h0 ad A x) args s 0 0 A) (F0 m 36 ls [])) ∧ (∀ (u : MS) (v1 : Int32) (v4 : Int32) (v5 : Int32) (x : MS × Unit), G.2 u v1 v4 v5 = some x → ∀ (H : Heap) (locs : List Loc), va_P D cl (wM cB cI cJ cZ cS iM h0 ad u) H → va_D A (wM cB cI cJ cZ cS iM h0 ad u) → va_S A s.heap H locs → ∀ (ls : Array Slot), lv_has ls 6 [(0, .ref h0), (1, .int v1), (4, .int v4), (5, .int v5)] → W p l e R s m args below meth c H locs 0 0 (MQ below (mQv D cl cB cI cJ cZ cS iM h0 ad A x) args s 0 0 A) (F0 m 264 ls []))) : ∀ (u : MS) (x : MS × Unit), fb_M_function0_0 N G u = some x → ∀ (H : Heap) (locs : List Loc), va_P D cl (wM cB cI cJ cZ cS iM h0 ad u) H → va_D A (wM cB cI cJ cZ cS iM h0 ad u) → va_S A s.heap H locs → ∀ (ls : Array Slot), lv_has ls 6 [(0, .ref h0)] → W p l e R s m args below meth c H locs 0 0 (MQ below (mQv D cl cB cI cJ cZ cS iM h0 ad A x) args s 0 0 A) (F0 m 0 ls []) := by
  intro u x hf H locs hP hD hS ls hl
  obtain ⟨hx, hb, hr, hml, ht, hown, hM, hK, hA, hlocks⟩ := id C0
  unfold fb_M_function0_0 at hf
  refine lv_aload_n hx hb d_M_function0_0 rfl (lv_at hl 0 rfl) ?_
  refine ug_I hx hb ht hown hM hK hP 52 (by decide) lk_M_52 (by decide) d_M_function0_1 ?_
  refine lv_istore_n (lv' := [(1, .int (u.1 52)), (0, .ref h0)]) hx hb d_M_function0_4 rfl hl (by decide) rfl (fun ls hl => ?_)
  refine lv_aload_n hx hb d_M_function0_5 rfl (lv_at hl 1 rfl) ?_
  refine lv_dup hx hb d_M_function0_6 rfl ?_
  refine ug_I hx hb ht hown hM hK hP 52 (by decide) lk_M_52 (by decide) d_M_function0_7 ?_
  refine lv_iconst (v := 1) hx hb d_M_function0_10 (by decide) ?_
  refine lv_iadd hx hb d_M_function0_11 ?_
  refine up_I hx hb ht hown hM hK hP hD hS 52 (by decide) lk_M_52 (by decide) rfl rfl rfl d_M_function0_12 (fun H locs hP hD hS => ?_)
  obtain ⟨w18, e18, hf⟩ := lt_some hf
  rw [← e18] at hP hD
  refine lv_aload_n hx hb d_M_function0_15 rfl (lv_at hl 1 rfl) ?_
  refine ug_R hx hb ht hown hM hK hP 49 (by decide) lk_M_49 (by decide) d_M_function0_16 ?_
  refine lv_iload_n hx hb d_M_function0_19 rfl (lv_at hl 0 rfl) ?_
  refine lv_aload_n hx hb d_M_function0_20 rfl (lv_at hl 1 rfl) ?_
  refine ug_I hx hb ht hown hM hK hP 69 (by decide) lk_M_69 (by decide) d_M_function0_21 ?_
  obtain ⟨hi9, hf⟩ := ck_some hf
  refine us_I hx hb hK hP hD hS (by decide) (by decide) hi9 d_M_function0_24 (fun H locs hP hD hS => ?_)
  obtain ⟨w19, e19, hf⟩ := lt_some hf
  rw [← e19] at hP hD
  refine lv_aload_n hx hb d_M_function0_25 rfl (lv_at hl 1 rfl) ?_
  refine ug_R hx hb ht hown hM hK hP 51 (by decide) lk_M_51 (by decide) d_M_function0_26 ?_
  refine lv_iload_n hx hb d_M_function0_29 rfl (lv_at hl 0 rfl) ?_
  refine lv_iconst (v := 0) hx hb d_M_function0_30 (by decide) ?_
  obtain ⟨hi9, hf⟩ := ck_some hf
  refine us_I hx hb hK hP hD hS (by decide) (by decide) hi9 d_M_function0_31 (fun H locs hP hD hS => ?_)
  obtain ⟨w20, e20, hf⟩ := lt_some hf
  rw [← e20] at hP hD
  refine lv_iconst (v := (-1)) hx hb d_M_function0_32 (by decide) ?_
  refine lv_istore_n (lv' := [(2, .int (-1)), (1, .int (u.1 52)), (0, .ref h0)]) hx hb d_M_function0_33 rfl hl (by decide) rfl (fun ls hl => ?_)
  refine lv_iconst (v := 1) hx hb d_M_function0_34 (by decide) ?_
  refine lv_istore_n (lv' := [(3, .int 1), (2, .int (-1)), (1, .int (u.1 52)), (0, .ref h0)]) hx hb d_M_function0_35 rfl hl (by decide) rfl (fun ls hl => ?_)
  exact hG.1 _ _ _ _ _ hf H locs hP hD hS ls (lv_sub hl [3, 2, 1, 0] rfl)
def gg_M_function0 (N : Nat) : Nat → ((MS → Int32 → Int32 → Int32 → Option (MS × Unit)) × (MS → Int32 → Int32 → Int32 → Option (MS × Unit)))
  | 0 => (fun _ _ _ _ => none, fun _ _ _ _ => none)
  | n + 1 => (fb_M_function0_36 N (gg_M_function0 N n), fb_M_function0_264 N (gg_M_function0 N n))
theorem wg_M_function0 {p : Program} {l : Launch} {e : Env} {R : Room} {s : State} {m : MethodId} {args : Array Value} {below : List Frame} {meth : Method} {c : Code} {D : va_G} {cl : List vw_C} {cB cI cJ cZ cS : ClassId} {A : Nat → Prop} {iM h0 : Nat} {ad : Nat → Nat} (C0 : MCx p s m args meth c b_M_function0 6 none D cl cB cI cJ cZ cS iM A) (hR : R = rm_M_function0) (N : Nat) : ∀ n : Nat, (∀ (u : MS) (v1 : Int32) (v2 : Int32) (v3 : Int32) (x : MS × Unit), (gg_M_function0 N n).1 u v1 v2 v3 = some x → ∀ (H : Heap) (locs : List Loc), va_P D cl (wM cB cI cJ cZ cS iM h0 ad u) H → va_D A (wM cB cI cJ cZ cS iM h0 ad u) → va_S A s.heap H locs → ∀ (ls : Array Slot), lv_has ls 6 [(0, .ref h0), (1, .int v1), (2, .int v2), (3, .int v3)] → W p l e R s m args below meth c H locs 0 0 (MQ below (mQv D cl cB cI cJ cZ cS iM h0 ad A x) args s 0 0 A) (F0 m 36 ls [])) ∧ (∀ (u : MS) (v1 : Int32) (v4 : Int32) (v5 : Int32) (x : MS × Unit), (gg_M_function0 N n).2 u v1 v4 v5 = some x → ∀ (H : Heap) (locs : List Loc), va_P D cl (wM cB cI cJ cZ cS iM h0 ad u) H → va_D A (wM cB cI cJ cZ cS iM h0 ad u) → va_S A s.heap H locs → ∀ (ls : Array Slot), lv_has ls 6 [(0, .ref h0), (1, .int v1), (4, .int v4), (5, .int v5)] → W p l e R s m args below meth c H locs 0 0 (MQ below (mQv D cl cB cI cJ cZ cS iM h0 ad A x) args s 0 0 A) (F0 m 264 ls []))
  | 0 => ⟨(fun u v1 v2 v3 x hf => by cases hf), (fun u v1 v4 v5 x hf => by cases hf)⟩
  | n + 1 => ⟨wb_M_function0_36 C0 hR N (gg_M_function0 N n) (wg_M_function0 C0 hR N n), wb_M_function0_264 C0 hR N (gg_M_function0 N n) (wg_M_function0 C0 hR N n)⟩
def fm_M_function0 (N : Nat) (u : MS) : Option (MS × Unit) := fb_M_function0_0 N (gg_M_function0 N N) u
set_option maxRecDepth 100000 in
set_option maxHeartbeats 4000000 in
theorem c_M_function0 (N : Nat) {l : Launch} {D : va_G} {cl : List vw_C} {cB cI cJ cZ cS : ClassId} {iM h0 : Nat} {ad : Nat → Nat} {u : MS} {sz : Nat} {x : MS × Unit} (hM : cl[iM]? = some (R_M, F_M, 171)) (hf : fm_M_function0 N u = some x) : Met l y_M_function0 (wd_ws y_M_function0 b_M_function0 6 none) rm_M_function0 (mPc D cl cB cI cJ cZ cS iM h0 ad u sz [.ref h0]) (mQv D cl cB cI cJ cZ cS iM h0 ad (mA cB cI cJ cZ cS iM h0 ad u sz) x) 0 0 (mA cB cI cJ cZ cS iM h0 ad u sz) :=
  mMet (by decide) rfl hM (Nat.le_of_ble_eq_true rfl) (fun p e s m below meth c ls hsz C0 hP hD hS hl => by
    have hR : rm_M_function0 = rm_M_function0 := rfl
    exact wb_M_function0_0 C0 hR N (gg_M_function0 N N) (wg_M_function0 C0 hR N N) u x hf s.heap [] hP hD hS ls (lv_sub hl [0] rfl))
abbrev b_M_program : ByteArray := prog_14_method_40_code
def y_M_program : MethodName := ⟨R_M, "program", "()V"⟩
def w_M_program : List Cond := wd_ws y_M_program b_M_program 2 none
set_option maxRecDepth 100000 in
theorem k_M_program : Cond.code y_M_program b_M_program 2 none ∈ wd_tbl := wd_of 2695 rfl rfl
theorem d_M_program_0 : decode b_M_program 0 = .ok (.aload_n 0, 1) := by decide +kernel
theorem d_M_program_1 : decode b_M_program 1 = .ok (.iconst 0, 1) := by decide +kernel
theorem d_M_program_2 : decode b_M_program 2 = .ok (.putfield 457, 3) := by decide +kernel
theorem d_M_program_5 : decode b_M_program 5 = .ok (.aload_n 0, 1) := by decide +kernel
theorem d_M_program_6 : decode b_M_program 6 = .ok (.iconst 0, 1) := by decide +kernel
theorem d_M_program_7 : decode b_M_program 7 = .ok (.putfield 484, 3) := by decide +kernel
theorem d_M_program_10 : decode b_M_program 10 = .ok (.aload_n 0, 1) := by decide +kernel
theorem d_M_program_11 : decode b_M_program 11 = .ok (.iconst 0, 1) := by decide +kernel
theorem d_M_program_12 : decode b_M_program 12 = .ok (.putfield 448, 3) := by decide +kernel
theorem d_M_program_15 : decode b_M_program 15 = .ok (.aload_n 0, 1) := by decide +kernel
theorem d_M_program_16 : decode b_M_program 16 = .ok (.iconst 0, 1) := by decide +kernel
theorem d_M_program_17 : decode b_M_program 17 = .ok (.putfield 451, 3) := by decide +kernel
theorem d_M_program_20 : decode b_M_program 20 = .ok (.aload_n 0, 1) := by decide +kernel
theorem d_M_program_21 : decode b_M_program 21 = .ok (.iconst 0, 1) := by decide +kernel
theorem d_M_program_22 : decode b_M_program 22 = .ok (.putfield 505, 3) := by decide +kernel
theorem d_M_program_25 : decode b_M_program 25 = .ok (.aload_n 0, 1) := by decide +kernel
theorem d_M_program_26 : decode b_M_program 26 = .ok (.iconst 0, 1) := by decide +kernel
theorem d_M_program_27 : decode b_M_program 27 = .ok (.putfield 508, 3) := by decide +kernel
theorem d_M_program_30 : decode b_M_program 30 = .ok (.aload_n 0, 1) := by decide +kernel
theorem d_M_program_31 : decode b_M_program 31 = .ok (.iconst 0, 1) := by decide +kernel
theorem d_M_program_32 : decode b_M_program 32 = .ok (.putfield 511, 3) := by decide +kernel
theorem d_M_program_35 : decode b_M_program 35 = .ok (.aload_n 0, 1) := by decide +kernel
theorem d_M_program_36 : decode b_M_program 36 = .ok (.iconst 0, 1) := by decide +kernel
theorem d_M_program_37 : decode b_M_program 37 = .ok (.putfield 514, 3) := by decide +kernel
theorem d_M_program_40 : decode b_M_program 40 = .ok (.aload_n 0, 1) := by decide +kernel
theorem d_M_program_41 : decode b_M_program 41 = .ok (.iconst 0, 1) := by decide +kernel
theorem d_M_program_42 : decode b_M_program 42 = .ok (.putfield 496, 3) := by decide +kernel
theorem d_M_program_45 : decode b_M_program 45 = .ok (.aload_n 0, 1) := by decide +kernel
theorem d_M_program_46 : decode b_M_program 46 = .ok (.iconst 0, 1) := by decide +kernel
theorem d_M_program_47 : decode b_M_program 47 = .ok (.putfield 517, 3) := by decide +kernel
theorem d_M_program_50 : decode b_M_program 50 = .ok (.iconst 1, 1) := by decide +kernel
theorem d_M_program_51 : decode b_M_program 51 = .ok (.istore_n 1, 1) := by decide +kernel
theorem d_M_program_52 : decode b_M_program 52 = .ok (.iload_n 1, 1) := by decide +kernel
theorem d_M_program_53 : decode b_M_program 53 = .ok (.ifCond .eq 42, 3) := by decide +kernel
theorem d_M_program_56 : decode b_M_program 56 = .ok (.aload_n 0, 1) := by decide +kernel
theorem d_M_program_57 : decode b_M_program 57 = .ok (.getfield 454, 3) := by decide +kernel
theorem d_M_program_60 : decode b_M_program 60 = .ok (.ifCond .ne 35, 3) := by decide +kernel
theorem d_M_program_63 : decode b_M_program 63 = .ok (.aload_n 0, 1) := by decide +kernel
theorem d_M_program_64 : decode b_M_program 64 = .ok (.invokevirtual 520, 3) := by decide +kernel
theorem d_M_program_67 : decode b_M_program 67 = .ok (.aload_n 0, 1) := by decide +kernel
theorem d_M_program_68 : decode b_M_program 68 = .ok (.getfield 454, 3) := by decide +kernel
theorem d_M_program_71 : decode b_M_program 71 = .ok (.ifCond .ne 19, 3) := by decide +kernel
theorem d_M_program_74 : decode b_M_program 74 = .ok (.aload_n 0, 1) := by decide +kernel
theorem d_M_program_75 : decode b_M_program 75 = .ok (.getfield 22, 3) := by decide +kernel
theorem d_M_program_78 : decode b_M_program 78 = .ok (.aload_n 0, 1) := by decide +kernel
theorem d_M_program_79 : decode b_M_program 79 = .ok (.getfield 457, 3) := by decide +kernel
theorem d_M_program_82 : decode b_M_program 82 = .ok (.baload, 1) := by decide +kernel
theorem d_M_program_83 : decode b_M_program 83 = .ok (.ifCond .eq 7, 3) := by decide +kernel
theorem d_M_program_86 : decode b_M_program 86 = .ok (.iconst 1, 1) := by decide +kernel
theorem d_M_program_87 : decode b_M_program 87 = .ok (.goto 4, 3) := by decide +kernel
theorem d_M_program_90 : decode b_M_program 90 = .ok (.iconst 0, 1) := by decide +kernel
theorem d_M_program_91 : decode b_M_program 91 = .ok (.istore_n 1, 1) := by decide +kernel
theorem d_M_program_92 : decode b_M_program 92 = .ok (.goto (-40), 3) := by decide +kernel
theorem d_M_program_95 : decode b_M_program 95 = .ok (.return_, 1) := by decide +kernel
set_option maxRecDepth 100000 in
theorem hl_M_program : Cond.methodLink R_M 663 y_M_program ∈ wd_tbl := wd_of 2692 (by decide +kernel) rfl
set_option maxRecDepth 100000 in
theorem hi_M_program : Cond.instanceMethod y_M_program ∈ wd_tbl := wd_of 2694 (by decide +kernel) rfl
set_option maxRecDepth 100000 in
theorem hs_M_program : Cond.selects R_M y_M_program y_M_program ∈ wd_tbl := wd_of 137 (by decide +kernel) rfl
theorem hd_M_program : y_M_program.cls = R_M ∧ y_M_program.cls ≠ "java/lang/invoke/MethodHandle" ∧ y_M_program.cls ≠ "java/lang/invoke/VarHandle" ∧ (parseMethodDescriptor y_M_program.desc).map (fun d => d.parameters.length) = some 0 := by decide +kernel
def rm_M_program : Room := { frames := 396, cells := 0, slots := 0, locals := 11244 }
theorem rm_M_program_M_function0 {R : Room} (hR : R = rm_M_program) : (rm_M_function0).frames + 1 ≤ R.frames ∧ 8 + (6 + 11) + (rm_M_function0).locals ≤ R.locals := by subst hR; decide
def fb_M_program_95 (N : Nat) (G : (MS → Int32 → Option (MS × Unit))) (u : MS) : Option (MS × Unit) := some (u, ())
set_option maxRecDepth 100000 in
set_option maxHeartbeats 4000000 in
theorem wb_M_program_95 {p : Program} {l : Launch} {e : Env} {R : Room} {s : State} {m : MethodId} {args : Array Value} {below : List Frame} {meth : Method} {c : Code} {D : va_G} {cl : List vw_C} {cB cI cJ cZ cS : ClassId} {A : Nat → Prop} {iM h0 : Nat} {ad : Nat → Nat} (C0 : MCx p s m args meth c b_M_program 2 none D cl cB cI cJ cZ cS iM A) (hR : R = rm_M_program) (N : Nat) (G : (MS → Int32 → Option (MS × Unit))) (hG : (∀ (u : MS) (v1 : Int32) (x : MS × Unit), G u v1 = some x → ∀ (H : Heap) (locs : List Loc), va_P D cl (wM cB cI cJ cZ cS iM h0 ad u) H → va_D A (wM cB cI cJ cZ cS iM h0 ad u) → va_S A s.heap H locs → ∀ (ls : Array Slot), lv_has ls 2 [(0, .ref h0), (1, .int v1)] → W p l e R s m args below meth c H locs 0 0 (MQ below (mQv D cl cB cI cJ cZ cS iM h0 ad A x) args s 0 0 A) (F0 m 52 ls []))) : ∀ (u : MS) (x : MS × Unit), fb_M_program_95 N G u = some x → ∀ (H : Heap) (locs : List Loc), va_P D cl (wM cB cI cJ cZ cS iM h0 ad u) H → va_D A (wM cB cI cJ cZ cS iM h0 ad u) → va_S A s.heap H locs → ∀ (ls : Array Slot), lv_has ls 2 [] → W p l e R s m args below meth c H locs 0 0 (MQ below (mQv D cl cB cI cJ cZ cS iM h0 ad A x) args s 0 0 A) (F0 m 95 ls []) := by
  intro u x hf H locs hP hD hS ls hl
  obtain ⟨hx, hb, hr, hml, ht, hown, hM, hK, hA, hlocks⟩ := id C0
  unfold fb_M_program_95 at hf
  exact mr_v C0 hP hD hS hf d_M_program_95
def fb_M_program_91 (N : Nat) (G : (MS → Int32 → Option (MS × Unit))) (u : MS) (t0 : Int32) : Option (MS × Unit) := G u (t0)
set_option maxRecDepth 100000 in
set_option maxHeartbeats 4000000 in
theorem wb_M_program_91 {p : Program} {l : Launch} {e : Env} {R : Room} {s : State} {m : MethodId} {args : Array Value} {below : List Frame} {meth : Method} {c : Code} {D : va_G} {cl : List vw_C} {cB cI cJ cZ cS : ClassId} {A : Nat → Prop} {iM h0 : Nat} {ad : Nat → Nat} (C0 : MCx p s m args meth c b_M_program 2 none D cl cB cI cJ cZ cS iM A) (hR : R = rm_M_program) (N : Nat) (G : (MS → Int32 → Option (MS × Unit))) (hG : (∀ (u : MS) (v1 : Int32) (x : MS × Unit), G u v1 = some x → ∀ (H : Heap) (locs : List Loc), va_P D cl (wM cB cI cJ cZ cS iM h0 ad u) H → va_D A (wM cB cI cJ cZ cS iM h0 ad u) → va_S A s.heap H locs → ∀ (ls : Array Slot), lv_has ls 2 [(0, .ref h0), (1, .int v1)] → W p l e R s m args below meth c H locs 0 0 (MQ below (mQv D cl cB cI cJ cZ cS iM h0 ad A x) args s 0 0 A) (F0 m 52 ls []))) : ∀ (u : MS) (t0 : Int32) (x : MS × Unit), fb_M_program_91 N G u t0 = some x → ∀ (H : Heap) (locs : List Loc), va_P D cl (wM cB cI cJ cZ cS iM h0 ad u) H → va_D A (wM cB cI cJ cZ cS iM h0 ad u) → va_S A s.heap H locs → ∀ (ls : Array Slot), lv_has ls 2 [(0, .ref h0)] → W p l e R s m args below meth c H locs 0 0 (MQ below (mQv D cl cB cI cJ cZ cS iM h0 ad A x) args s 0 0 A) (F0 m 91 ls [.int t0]) := by
  intro u t0 x hf H locs hP hD hS ls hl
  obtain ⟨hx, hb, hr, hml, ht, hown, hM, hK, hA, hlocks⟩ := id C0
  unfold fb_M_program_91 at hf
  refine lv_istore_n (lv' := [(1, .int t0), (0, .ref h0)]) hx hb d_M_program_91 rfl hl (by decide) rfl (fun ls hl => ?_)
  refine lv_goto (tgt := 52) hx hb d_M_program_92 (by decide) ?_
  exact hG _ _ _ hf H locs hP hD hS ls (lv_sub hl [1, 0] rfl)
def fb_M_program_90 (N : Nat) (G : (MS → Int32 → Option (MS × Unit))) (u : MS) : Option (MS × Unit) := fb_M_program_91 N G u (0)
set_option maxRecDepth 100000 in
set_option maxHeartbeats 4000000 in
theorem wb_M_program_90 {p : Program} {l : Launch} {e : Env} {R : Room} {s : State} {m : MethodId} {args : Array Value} {below : List Frame} {meth : Method} {c : Code} {D : va_G} {cl : List vw_C} {cB cI cJ cZ cS : ClassId} {A : Nat → Prop} {iM h0 : Nat} {ad : Nat → Nat} (C0 : MCx p s m args meth c b_M_program 2 none D cl cB cI cJ cZ cS iM A) (hR : R = rm_M_program) (N : Nat) (G : (MS → Int32 → Option (MS × Unit))) (hG : (∀ (u : MS) (v1 : Int32) (x : MS × Unit), G u v1 = some x → ∀ (H : Heap) (locs : List Loc), va_P D cl (wM cB cI cJ cZ cS iM h0 ad u) H → va_D A (wM cB cI cJ cZ cS iM h0 ad u) → va_S A s.heap H locs → ∀ (ls : Array Slot), lv_has ls 2 [(0, .ref h0), (1, .int v1)] → W p l e R s m args below meth c H locs 0 0 (MQ below (mQv D cl cB cI cJ cZ cS iM h0 ad A x) args s 0 0 A) (F0 m 52 ls []))) : ∀ (u : MS) (x : MS × Unit), fb_M_program_90 N G u = some x → ∀ (H : Heap) (locs : List Loc), va_P D cl (wM cB cI cJ cZ cS iM h0 ad u) H → va_D A (wM cB cI cJ cZ cS iM h0 ad u) → va_S A s.heap H locs → ∀ (ls : Array Slot), lv_has ls 2 [(0, .ref h0)] → W p l e R s m args below meth c H locs 0 0 (MQ below (mQv D cl cB cI cJ cZ cS iM h0 ad A x) args s 0 0 A) (F0 m 90 ls []) := by
  intro u x hf H locs hP hD hS ls hl
  obtain ⟨hx, hb, hr, hml, ht, hown, hM, hK, hA, hlocks⟩ := id C0
  unfold fb_M_program_90 at hf
  refine lv_iconst (v := 0) hx hb d_M_program_90 (by decide) ?_
  exact wb_M_program_91 C0 hR N G hG _ _ _ hf H locs hP hD hS ls (lv_sub hl [0] rfl)
def fb_M_program_52 (N : Nat) (G : (MS → Int32 → Option (MS × Unit))) (u : MS) (v1 : Int32) : Option (MS × Unit) := br (decide (v1 = 0)) (fb_M_program_95 N G u) (br (decide ((u.1 67) = 0)) (bnd (fm_M_function0 N u) (fun u1 _ => br (decide ((u1.1 67) = 0)) (ck (inb (u1.1 69) (ln 6)) (br (decide ((u1.2.2.1 6 (u1.1 69).toNatClampNeg) = 0)) (fb_M_program_90 N G u1) (fb_M_program_91 N G u1 (1)))) (fb_M_program_90 N G u1))) (fb_M_program_95 N G u))
set_option maxRecDepth 100000 in
set_option maxHeartbeats 4000000 in
theorem wb_M_program_52 {p : Program} {l : Launch} {e : Env} {R : Room} {s : State} {m : MethodId} {args : Array Value} {below : List Frame} {meth : Method} {c : Code} {D : va_G} {cl : List vw_C} {cB cI cJ cZ cS : ClassId} {A : Nat → Prop} {iM h0 : Nat} {ad : Nat → Nat} (C0 : MCx p s m args meth c b_M_program 2 none D cl cB cI cJ cZ cS iM A) (hR : R = rm_M_program) (N : Nat) (G : (MS → Int32 → Option (MS × Unit))) (hG : (∀ (u : MS) (v1 : Int32) (x : MS × Unit), G u v1 = some x → ∀ (H : Heap) (locs : List Loc), va_P D cl (wM cB cI cJ cZ cS iM h0 ad u) H → va_D A (wM cB cI cJ cZ cS iM h0 ad u) → va_S A s.heap H locs → ∀ (ls : Array Slot), lv_has ls 2 [(0, .ref h0), (1, .int v1)] → W p l e R s m args below meth c H locs 0 0 (MQ below (mQv D cl cB cI cJ cZ cS iM h0 ad A x) args s 0 0 A) (F0 m 52 ls []))) : ∀ (u : MS) (v1 : Int32) (x : MS × Unit), fb_M_program_52 N G u v1 = some x → ∀ (H : Heap) (locs : List Loc), va_P D cl (wM cB cI cJ cZ cS iM h0 ad u) H → va_D A (wM cB cI cJ cZ cS iM h0 ad u) → va_S A s.heap H locs → ∀ (ls : Array Slot), lv_has ls 2 [(0, .ref h0), (1, .int v1)] → W p l e R s m args below meth c H locs 0 0 (MQ below (mQv D cl cB cI cJ cZ cS iM h0 ad A x) args s 0 0 A) (F0 m 52 ls []) := by
  intro u v1 x hf H locs hP hD hS ls hl
  obtain ⟨hx, hb, hr, hml, ht, hown, hM, hK, hA, hlocks⟩ := id C0
  unfold fb_M_program_52 at hf
  refine lv_iload_n hx hb d_M_program_52 rfl (lv_at hl 1 rfl) ?_
  refine lv_if_eq (tgt := 95) hx hb d_M_program_53 (by decide) (fun hc => ?_) (fun hc => ?_)
  · rw [br_p _ hc] at hf
    exact wb_M_program_95 C0 hR N G hG _ _ hf H locs hP hD hS ls (lv_sub hl [] rfl)
  · rw [br_n _ hc] at hf
    refine lv_aload_n hx hb d_M_program_56 rfl (lv_at hl 0 rfl) ?_
    refine ug_I hx hb ht hown hM hK hP 67 (by decide) lk_M_67 (by decide) d_M_program_57 ?_
    refine lv_if_ne (tgt := 95) hx hb d_M_program_60 (by decide) (fun hc => ?_) (fun hc => ?_)
    · rw [br_n _ hc] at hf
      exact wb_M_program_95 C0 hR N G hG _ _ hf H locs hP hD hS ls (lv_sub hl [] rfl)
    · rw [br_p _ hc] at hf
      refine lv_aload_n hx hb d_M_program_63 rfl (lv_at hl 0 rfl) ?_
      obtain ⟨u1, r1, hc1, hf⟩ := bnd_some hf
      refine mV_v (As := []) (rest := []) C0 hP hD hS (c_M_function0 N hM hc1) k_M_function0 hl_M_function0 hi_M_function0 hs_M_function0 hini_M rfl rfl hd_M_function0 rfl (rm_M_program_M_function0 hR) hl.1 (Nat.le_of_ble_eq_true rfl) d_M_program_64 rfl ⟨Nat.zero_le _, Nat.zero_le _⟩ (fun H locs hP hD hS => ?_)
      refine lv_aload_n hx hb d_M_program_67 rfl (lv_at hl 0 rfl) ?_
      refine ug_I hx hb ht hown hM hK hP 67 (by decide) lk_M_67 (by decide) d_M_program_68 ?_
      refine lv_if_ne (tgt := 90) hx hb d_M_program_71 (by decide) (fun hc => ?_) (fun hc => ?_)
      · rw [br_n _ hc] at hf
        exact wb_M_program_90 C0 hR N G hG _ _ hf H locs hP hD hS ls (lv_sub hl [0] rfl)
      · rw [br_p _ hc] at hf
        refine lv_aload_n hx hb d_M_program_74 rfl (lv_at hl 0 rfl) ?_
        refine ug_R hx hb ht hown hM hK hP 6 (by decide) lk_M_6 (by decide) d_M_program_75 ?_
        refine lv_aload_n hx hb d_M_program_78 rfl (lv_at hl 0 rfl) ?_
        refine ug_I hx hb ht hown hM hK hP 69 (by decide) lk_M_69 (by decide) d_M_program_79 ?_
        obtain ⟨hi9, hf⟩ := ck_some hf
        refine ul_B hx hb hK hP (by decide) (by decide) hi9 d_M_program_82 ?_
        refine lv_if_eq (tgt := 90) hx hb d_M_program_83 (by decide) (fun hc => ?_) (fun hc => ?_)
        · rw [br_p _ hc] at hf
          exact wb_M_program_90 C0 hR N G hG _ _ hf H locs hP hD hS ls (lv_sub hl [0] rfl)
        · rw [br_n _ hc] at hf
          refine lv_iconst (v := 1) hx hb d_M_program_86 (by decide) ?_
          refine lv_goto (tgt := 91) hx hb d_M_program_87 (by decide) ?_
          exact wb_M_program_91 C0 hR N G hG _ _ _ hf H locs hP hD hS ls (lv_sub hl [0] rfl)
def fb_M_program_0 (N : Nat) (G : (MS → Int32 → Option (MS × Unit))) (u : MS) : Option (MS × Unit) := lt (upI u 69 0) (fun w2 => lt (upI w2 70 0) (fun w3 => lt (upI w3 32 0) (fun w4 => lt (upI w4 39 0) (fun w5 => lt (upI w5 46 0) (fun w6 => lt (upI w6 52 0) (fun w7 => lt (upI w7 56 0) (fun w8 => lt (upI w8 58 0) (fun w9 => lt (upI w9 66 0) (fun w10 => lt (upI w10 73 0) (fun w11 => G w11 (1)))))))))))
set_option maxRecDepth 100000 in
set_option maxHeartbeats 4000000 in
theorem wb_M_program_0 {p : Program} {l : Launch} {e : Env} {R : Room} {s : State} {m : MethodId} {args : Array Value} {below : List Frame} {meth : Method} {c : Code} {D : va_G} {cl : List vw_C} {cB cI cJ cZ cS : ClassId} {A : Nat → Prop} {iM h0 : Nat} {ad : Nat → Nat} (C0 : MCx p s m args meth c b_M_program 2 none D cl cB cI cJ cZ cS iM A) (hR : R = rm_M_program) (N : Nat) (G : (MS → Int32 → Option (MS × Unit))) (hG : (∀ (u : MS) (v1 : Int32) (x : MS × Unit), G u v1 = some x → ∀ (H : Heap) (locs : List Loc), va_P D cl (wM cB cI cJ cZ cS iM h0 ad u) H → va_D A (wM cB cI cJ cZ cS iM h0 ad u) → va_S A s.heap H locs → ∀ (ls : Array Slot), lv_has ls 2 [(0, .ref h0), (1, .int v1)] → W p l e R s m args below meth c H locs 0 0 (MQ below (mQv D cl cB cI cJ cZ cS iM h0 ad A x) args s 0 0 A) (F0 m 52 ls []))) : ∀ (u : MS) (x : MS × Unit), fb_M_program_0 N G u = some x → ∀ (H : Heap) (locs : List Loc), va_P D cl (wM cB cI cJ cZ cS iM h0 ad u) H → va_D A (wM cB cI cJ cZ cS iM h0 ad u) → va_S A s.heap H locs → ∀ (ls : Array Slot), lv_has ls 2 [(0, .ref h0)] → W p l e R s m args below meth c H locs 0 0 (MQ below (mQv D cl cB cI cJ cZ cS iM h0 ad A x) args s 0 0 A) (F0 m 0 ls []) := by
  intro u x hf H locs hP hD hS ls hl
  obtain ⟨hx, hb, hr, hml, ht, hown, hM, hK, hA, hlocks⟩ := id C0
  unfold fb_M_program_0 at hf
  refine lv_aload_n hx hb d_M_program_0 rfl (lv_at hl 0 rfl) ?_
  refine lv_iconst (v := 0) hx hb d_M_program_1 (by decide) ?_
  refine up_I hx hb ht hown hM hK hP hD hS 69 (by decide) lk_M_69 (by decide) rfl rfl rfl d_M_program_2 (fun H locs hP hD hS => ?_)
  obtain ⟨w2, e2, hf⟩ := lt_some hf
  rw [← e2] at hP hD
  refine lv_aload_n hx hb d_M_program_5 rfl (lv_at hl 0 rfl) ?_
  refine lv_iconst (v := 0) hx hb d_M_program_6 (by decide) ?_
  refine up_I hx hb ht hown hM hK hP hD hS 70 (by decide) lk_M_70 (by decide) rfl rfl rfl d_M_program_7 (fun H locs hP hD hS => ?_)
  obtain ⟨w3, e3, hf⟩ := lt_some hf
  rw [← e3] at hP hD
  refine lv_aload_n hx hb d_M_program_10 rfl (lv_at hl 0 rfl) ?_
  refine lv_iconst (v := 0) hx hb d_M_program_11 (by decide) ?_
  refine up_I hx hb ht hown hM hK hP hD hS 32 (by decide) lk_M_32 (by decide) rfl rfl rfl d_M_program_12 (fun H locs hP hD hS => ?_)
  obtain ⟨w4, e4, hf⟩ := lt_some hf
  rw [← e4] at hP hD
  refine lv_aload_n hx hb d_M_program_15 rfl (lv_at hl 0 rfl) ?_
  refine lv_iconst (v := 0) hx hb d_M_program_16 (by decide) ?_
  refine up_I hx hb ht hown hM hK hP hD hS 39 (by decide) lk_M_39 (by decide) rfl rfl rfl d_M_program_17 (fun H locs hP hD hS => ?_)
  obtain ⟨w5, e5, hf⟩ := lt_some hf
  rw [← e5] at hP hD
  refine lv_aload_n hx hb d_M_program_20 rfl (lv_at hl 0 rfl) ?_
  refine lv_iconst (v := 0) hx hb d_M_program_21 (by decide) ?_
  refine up_I hx hb ht hown hM hK hP hD hS 46 (by decide) lk_M_46 (by decide) rfl rfl rfl d_M_program_22 (fun H locs hP hD hS => ?_)
  obtain ⟨w6, e6, hf⟩ := lt_some hf
  rw [← e6] at hP hD
  refine lv_aload_n hx hb d_M_program_25 rfl (lv_at hl 0 rfl) ?_
  refine lv_iconst (v := 0) hx hb d_M_program_26 (by decide) ?_
  refine up_I hx hb ht hown hM hK hP hD hS 52 (by decide) lk_M_52 (by decide) rfl rfl rfl d_M_program_27 (fun H locs hP hD hS => ?_)
  obtain ⟨w7, e7, hf⟩ := lt_some hf
  rw [← e7] at hP hD
  refine lv_aload_n hx hb d_M_program_30 rfl (lv_at hl 0 rfl) ?_
  refine lv_iconst (v := 0) hx hb d_M_program_31 (by decide) ?_
  refine up_I hx hb ht hown hM hK hP hD hS 56 (by decide) lk_M_56 (by decide) rfl rfl rfl d_M_program_32 (fun H locs hP hD hS => ?_)
  obtain ⟨w8, e8, hf⟩ := lt_some hf
  rw [← e8] at hP hD
  refine lv_aload_n hx hb d_M_program_35 rfl (lv_at hl 0 rfl) ?_
  refine lv_iconst (v := 0) hx hb d_M_program_36 (by decide) ?_
  refine up_I hx hb ht hown hM hK hP hD hS 58 (by decide) lk_M_58 (by decide) rfl rfl rfl d_M_program_37 (fun H locs hP hD hS => ?_)
  obtain ⟨w9, e9, hf⟩ := lt_some hf
  rw [← e9] at hP hD
  refine lv_aload_n hx hb d_M_program_40 rfl (lv_at hl 0 rfl) ?_
  refine lv_iconst (v := 0) hx hb d_M_program_41 (by decide) ?_
  refine up_I hx hb ht hown hM hK hP hD hS 66 (by decide) lk_M_66 (by decide) rfl rfl rfl d_M_program_42 (fun H locs hP hD hS => ?_)
  obtain ⟨w10, e10, hf⟩ := lt_some hf
  rw [← e10] at hP hD
  refine lv_aload_n hx hb d_M_program_45 rfl (lv_at hl 0 rfl) ?_
  refine lv_iconst (v := 0) hx hb d_M_program_46 (by decide) ?_
  refine up_I hx hb ht hown hM hK hP hD hS 73 (by decide) lk_M_73 (by decide) rfl rfl rfl d_M_program_47 (fun H locs hP hD hS => ?_)
  obtain ⟨w11, e11, hf⟩ := lt_some hf
  rw [← e11] at hP hD
  refine lv_iconst (v := 1) hx hb d_M_program_50 (by decide) ?_
  refine lv_istore_n (lv' := [(1, .int 1), (0, .ref h0)]) hx hb d_M_program_51 rfl hl (by decide) rfl (fun ls hl => ?_)
  exact hG _ _ _ hf H locs hP hD hS ls (lv_sub hl [1, 0] rfl)
def gg_M_program (N : Nat) : Nat → ((MS → Int32 → Option (MS × Unit)))
  | 0 => fun _ _ => none
  | n + 1 => fb_M_program_52 N (gg_M_program N n)
theorem wg_M_program {p : Program} {l : Launch} {e : Env} {R : Room} {s : State} {m : MethodId} {args : Array Value} {below : List Frame} {meth : Method} {c : Code} {D : va_G} {cl : List vw_C} {cB cI cJ cZ cS : ClassId} {A : Nat → Prop} {iM h0 : Nat} {ad : Nat → Nat} (C0 : MCx p s m args meth c b_M_program 2 none D cl cB cI cJ cZ cS iM A) (hR : R = rm_M_program) (N : Nat) : ∀ n : Nat, (∀ (u : MS) (v1 : Int32) (x : MS × Unit), gg_M_program N n u v1 = some x → ∀ (H : Heap) (locs : List Loc), va_P D cl (wM cB cI cJ cZ cS iM h0 ad u) H → va_D A (wM cB cI cJ cZ cS iM h0 ad u) → va_S A s.heap H locs → ∀ (ls : Array Slot), lv_has ls 2 [(0, .ref h0), (1, .int v1)] → W p l e R s m args below meth c H locs 0 0 (MQ below (mQv D cl cB cI cJ cZ cS iM h0 ad A x) args s 0 0 A) (F0 m 52 ls []))
  | 0 => (fun u v1 x hf => by cases hf)
  | n + 1 => wb_M_program_52 C0 hR N (gg_M_program N n) (wg_M_program C0 hR N n)
def fm_M_program (N : Nat) (u : MS) : Option (MS × Unit) := fb_M_program_0 N (gg_M_program N N) u
set_option maxRecDepth 100000 in
set_option maxHeartbeats 4000000 in
theorem c_M_program (N : Nat) {l : Launch} {D : va_G} {cl : List vw_C} {cB cI cJ cZ cS : ClassId} {iM h0 : Nat} {ad : Nat → Nat} {u : MS} {sz : Nat} {x : MS × Unit} (hM : cl[iM]? = some (R_M, F_M, 171)) (hf : fm_M_program N u = some x) : Met l y_M_program (wd_ws y_M_program b_M_program 2 none) rm_M_program (mPc D cl cB cI cJ cZ cS iM h0 ad u sz [.ref h0]) (mQv D cl cB cI cJ cZ cS iM h0 ad (mA cB cI cJ cZ cS iM h0 ad u sz) x) 0 0 (mA cB cI cJ cZ cS iM h0 ad u sz) :=
  mMet (by decide) rfl hM (Nat.le_of_ble_eq_true rfl) (fun p e s m below meth c ls hsz C0 hP hD hS hl => by
    have hR : rm_M_program = rm_M_program := rfl
    exact wb_M_program_0 C0 hR N (gg_M_program N N) (wg_M_program C0 hR N N) u x hf s.heap [] hP hD hS ls (lv_sub hl [0] rfl))
abbrev b_M_functionOf : ByteArray := prog_14_method_72_code
def y_M_functionOf : MethodName := ⟨R_M, "functionOf", "(II)I"⟩
def w_M_functionOf : List Cond := wd_ws y_M_functionOf b_M_functionOf 4 (some .int)
set_option maxRecDepth 100000 in
theorem k_M_functionOf : Cond.code y_M_functionOf b_M_functionOf 4 (some .int) ∈ wd_tbl := wd_of 2887 rfl rfl
theorem d_M_functionOf_0 : decode b_M_functionOf 0 = .ok (.iconst 0, 1) := by decide +kernel
theorem d_M_functionOf_1 : decode b_M_functionOf 1 = .ok (.istore_n 3, 1) := by decide +kernel
theorem d_M_functionOf_2 : decode b_M_functionOf 2 = .ok (.iload_n 3, 1) := by decide +kernel
theorem d_M_functionOf_3 : decode b_M_functionOf 3 = .ok (.aload_n 0, 1) := by decide +kernel
theorem d_M_functionOf_4 : decode b_M_functionOf 4 = .ok (.getfield 508, 3) := by decide +kernel
theorem d_M_functionOf_7 : decode b_M_functionOf 7 = .ok (.if_icmp .ge 31, 3) := by decide +kernel
theorem d_M_functionOf_10 : decode b_M_functionOf 10 = .ok (.aload_n 0, 1) := by decide +kernel
theorem d_M_functionOf_11 : decode b_M_functionOf 11 = .ok (.getfield 122, 3) := by decide +kernel
theorem d_M_functionOf_14 : decode b_M_functionOf 14 = .ok (.iload_n 3, 1) := by decide +kernel
theorem d_M_functionOf_15 : decode b_M_functionOf 15 = .ok (.iaload, 1) := by decide +kernel
theorem d_M_functionOf_16 : decode b_M_functionOf 16 = .ok (.iload_n 1, 1) := by decide +kernel
theorem d_M_functionOf_17 : decode b_M_functionOf 17 = .ok (.if_icmp .ne 15, 3) := by decide +kernel
theorem d_M_functionOf_20 : decode b_M_functionOf 20 = .ok (.aload_n 0, 1) := by decide +kernel
theorem d_M_functionOf_21 : decode b_M_functionOf 21 = .ok (.getfield 125, 3) := by decide +kernel
theorem d_M_functionOf_24 : decode b_M_functionOf 24 = .ok (.iload_n 3, 1) := by decide +kernel
theorem d_M_functionOf_25 : decode b_M_functionOf 25 = .ok (.iaload, 1) := by decide +kernel
theorem d_M_functionOf_26 : decode b_M_functionOf 26 = .ok (.iload_n 2, 1) := by decide +kernel
theorem d_M_functionOf_27 : decode b_M_functionOf 27 = .ok (.if_icmp .ne 5, 3) := by decide +kernel
theorem d_M_functionOf_30 : decode b_M_functionOf 30 = .ok (.iload_n 3, 1) := by decide +kernel
theorem d_M_functionOf_31 : decode b_M_functionOf 31 = .ok (.ireturn, 1) := by decide +kernel
theorem d_M_functionOf_32 : decode b_M_functionOf 32 = .ok (.iinc 3 1, 3) := by decide +kernel
theorem d_M_functionOf_35 : decode b_M_functionOf 35 = .ok (.goto (-33), 3) := by decide +kernel
theorem d_M_functionOf_38 : decode b_M_functionOf 38 = .ok (.iconst (-1), 1) := by decide +kernel
theorem d_M_functionOf_39 : decode b_M_functionOf 39 = .ok (.ireturn, 1) := by decide +kernel
set_option maxRecDepth 100000 in
theorem hl_M_functionOf : Cond.methodLink R_M 651 y_M_functionOf ∈ wd_tbl := wd_of 2884 (by decide +kernel) rfl
set_option maxRecDepth 100000 in
theorem hi_M_functionOf : Cond.instanceMethod y_M_functionOf ∈ wd_tbl := wd_of 2886 (by decide +kernel) rfl
set_option maxRecDepth 100000 in
theorem hs_M_functionOf : Cond.selects R_M y_M_functionOf y_M_functionOf ∈ wd_tbl := wd_of 185 (by decide +kernel) rfl
theorem hd_M_functionOf : y_M_functionOf.cls = R_M ∧ y_M_functionOf.cls ≠ "java/lang/invoke/MethodHandle" ∧ y_M_functionOf.cls ≠ "java/lang/invoke/VarHandle" ∧ (parseMethodDescriptor y_M_functionOf.desc).map (fun d => d.parameters.length) = some 2 := by decide +kernel
def rm_M_functionOf : Room := { frames := 0, cells := 0, slots := 0, locals := 0 }
def fb_M_functionOf_32 (N : Nat) (G : (MS → Int32 → Int32 → Int32 → Option (MS × Int32))) (u : MS) (v1 : Int32) (v2 : Int32) (v3 : Int32) : Option (MS × Int32) := G u (v1) (v2) ((v3 + 1))
set_option maxRecDepth 100000 in
set_option maxHeartbeats 4000000 in
theorem wb_M_functionOf_32 {p : Program} {l : Launch} {e : Env} {R : Room} {s : State} {m : MethodId} {args : Array Value} {below : List Frame} {meth : Method} {c : Code} {D : va_G} {cl : List vw_C} {cB cI cJ cZ cS : ClassId} {A : Nat → Prop} {iM h0 : Nat} {ad : Nat → Nat} (C0 : MCx p s m args meth c b_M_functionOf 4 (some .int) D cl cB cI cJ cZ cS iM A) (hR : R = rm_M_functionOf) (N : Nat) (G : (MS → Int32 → Int32 → Int32 → Option (MS × Int32))) (hG : (∀ (u : MS) (v1 : Int32) (v2 : Int32) (v3 : Int32) (x : MS × Int32), G u v1 v2 v3 = some x → ∀ (H : Heap) (locs : List Loc), va_P D cl (wM cB cI cJ cZ cS iM h0 ad u) H → va_D A (wM cB cI cJ cZ cS iM h0 ad u) → va_S A s.heap H locs → ∀ (ls : Array Slot), lv_has ls 4 [(0, .ref h0), (1, .int v1), (2, .int v2), (3, .int v3)] → W p l e R s m args below meth c H locs 0 0 (MQ below (mQi D cl cB cI cJ cZ cS iM h0 ad A x) args s 0 0 A) (F0 m 2 ls []))) : ∀ (u : MS) (v1 : Int32) (v2 : Int32) (v3 : Int32) (x : MS × Int32), fb_M_functionOf_32 N G u v1 v2 v3 = some x → ∀ (H : Heap) (locs : List Loc), va_P D cl (wM cB cI cJ cZ cS iM h0 ad u) H → va_D A (wM cB cI cJ cZ cS iM h0 ad u) → va_S A s.heap H locs → ∀ (ls : Array Slot), lv_has ls 4 [(0, .ref h0), (1, .int v1), (2, .int v2), (3, .int v3)] → W p l e R s m args below meth c H locs 0 0 (MQ below (mQi D cl cB cI cJ cZ cS iM h0 ad A x) args s 0 0 A) (F0 m 32 ls []) := by
  intro u v1 v2 v3 x hf H locs hP hD hS ls hl
  obtain ⟨hx, hb, hr, hml, ht, hown, hM, hK, hA, hlocks⟩ := id C0
  unfold fb_M_functionOf_32 at hf
  refine lv_iinc (v := (v3 + 1)) (lv' := [(3, .int (v3 + 1)), (0, .ref h0), (1, .int v1), (2, .int v2)]) hx hb d_M_functionOf_32 hl (k := 3) rfl rfl (by decide) rfl (fun ls hl => ?_)
  refine lv_goto (tgt := 2) hx hb d_M_functionOf_35 (by decide) ?_
  exact hG _ _ _ _ _ hf H locs hP hD hS ls (lv_sub hl [1, 2, 3, 0] rfl)
def fb_M_functionOf_2 (N : Nat) (G : (MS → Int32 → Int32 → Int32 → Option (MS × Int32))) (u : MS) (v1 : Int32) (v2 : Int32) (v3 : Int32) : Option (MS × Int32) := br (decide ((u.1 52) ≤ v3)) (some (u, (-1))) (ck (inb v3 (ln 47)) (br (decide ((u.2.2.1 47 v3.toNatClampNeg) = v1)) (ck (inb v3 (ln 48)) (br (decide ((u.2.2.1 48 v3.toNatClampNeg) = v2)) (some (u, v3)) (fb_M_functionOf_32 N G u (v1) (v2) (v3)))) (fb_M_functionOf_32 N G u (v1) (v2) (v3))))
set_option maxRecDepth 100000 in
set_option maxHeartbeats 4000000 in
theorem wb_M_functionOf_2 {p : Program} {l : Launch} {e : Env} {R : Room} {s : State} {m : MethodId} {args : Array Value} {below : List Frame} {meth : Method} {c : Code} {D : va_G} {cl : List vw_C} {cB cI cJ cZ cS : ClassId} {A : Nat → Prop} {iM h0 : Nat} {ad : Nat → Nat} (C0 : MCx p s m args meth c b_M_functionOf 4 (some .int) D cl cB cI cJ cZ cS iM A) (hR : R = rm_M_functionOf) (N : Nat) (G : (MS → Int32 → Int32 → Int32 → Option (MS × Int32))) (hG : (∀ (u : MS) (v1 : Int32) (v2 : Int32) (v3 : Int32) (x : MS × Int32), G u v1 v2 v3 = some x → ∀ (H : Heap) (locs : List Loc), va_P D cl (wM cB cI cJ cZ cS iM h0 ad u) H → va_D A (wM cB cI cJ cZ cS iM h0 ad u) → va_S A s.heap H locs → ∀ (ls : Array Slot), lv_has ls 4 [(0, .ref h0), (1, .int v1), (2, .int v2), (3, .int v3)] → W p l e R s m args below meth c H locs 0 0 (MQ below (mQi D cl cB cI cJ cZ cS iM h0 ad A x) args s 0 0 A) (F0 m 2 ls []))) : ∀ (u : MS) (v1 : Int32) (v2 : Int32) (v3 : Int32) (x : MS × Int32), fb_M_functionOf_2 N G u v1 v2 v3 = some x → ∀ (H : Heap) (locs : List Loc), va_P D cl (wM cB cI cJ cZ cS iM h0 ad u) H → va_D A (wM cB cI cJ cZ cS iM h0 ad u) → va_S A s.heap H locs → ∀ (ls : Array Slot), lv_has ls 4 [(0, .ref h0), (1, .int v1), (2, .int v2), (3, .int v3)] → W p l e R s m args below meth c H locs 0 0 (MQ below (mQi D cl cB cI cJ cZ cS iM h0 ad A x) args s 0 0 A) (F0 m 2 ls []) := by
  intro u v1 v2 v3 x hf H locs hP hD hS ls hl
  obtain ⟨hx, hb, hr, hml, ht, hown, hM, hK, hA, hlocks⟩ := id C0
  unfold fb_M_functionOf_2 at hf
  refine lv_iload_n hx hb d_M_functionOf_2 rfl (lv_at hl 3 rfl) ?_
  refine lv_aload_n hx hb d_M_functionOf_3 rfl (lv_at hl 0 rfl) ?_
  refine ug_I hx hb ht hown hM hK hP 52 (by decide) lk_M_52 (by decide) d_M_functionOf_4 ?_
  refine lv_icmp_ge (tgt := 38) hx hb d_M_functionOf_7 (by decide) (fun hc => ?_) (fun hc => ?_)
  · rw [br_p _ hc] at hf
    refine lv_iconst (v := (-1)) hx hb d_M_functionOf_38 (by decide) ?_
    exact mr_i C0 hP hD hS hf d_M_functionOf_39
  · rw [br_n _ hc] at hf
    refine lv_aload_n hx hb d_M_functionOf_10 rfl (lv_at hl 0 rfl) ?_
    refine ug_R hx hb ht hown hM hK hP 47 (by decide) lk_M_47 (by decide) d_M_functionOf_11 ?_
    refine lv_iload_n hx hb d_M_functionOf_14 rfl (lv_at hl 3 rfl) ?_
    obtain ⟨hi9, hf⟩ := ck_some hf
    refine ul_I hx hb hK hP (by decide) (by decide) hi9 d_M_functionOf_15 ?_
    refine lv_iload_n hx hb d_M_functionOf_16 rfl (lv_at hl 1 rfl) ?_
    refine lv_icmp_ne (tgt := 32) hx hb d_M_functionOf_17 (by decide) (fun hc => ?_) (fun hc => ?_)
    · rw [br_n _ hc] at hf
      exact wb_M_functionOf_32 C0 hR N G hG _ _ _ _ _ hf H locs hP hD hS ls (lv_sub hl [0, 1, 2, 3] rfl)
    · rw [br_p _ hc] at hf
      refine lv_aload_n hx hb d_M_functionOf_20 rfl (lv_at hl 0 rfl) ?_
      refine ug_R hx hb ht hown hM hK hP 48 (by decide) lk_M_48 (by decide) d_M_functionOf_21 ?_
      refine lv_iload_n hx hb d_M_functionOf_24 rfl (lv_at hl 3 rfl) ?_
      obtain ⟨hi9, hf⟩ := ck_some hf
      refine ul_I hx hb hK hP (by decide) (by decide) hi9 d_M_functionOf_25 ?_
      refine lv_iload_n hx hb d_M_functionOf_26 rfl (lv_at hl 2 rfl) ?_
      refine lv_icmp_ne (tgt := 32) hx hb d_M_functionOf_27 (by decide) (fun hc => ?_) (fun hc => ?_)
      · rw [br_n _ hc] at hf
        exact wb_M_functionOf_32 C0 hR N G hG _ _ _ _ _ hf H locs hP hD hS ls (lv_sub hl [0, 1, 2, 3] rfl)
      · rw [br_p _ hc] at hf
        refine lv_iload_n hx hb d_M_functionOf_30 rfl (lv_at hl 3 rfl) ?_
        exact mr_i C0 hP hD hS hf d_M_functionOf_31
def fb_M_functionOf_0 (N : Nat) (G : (MS → Int32 → Int32 → Int32 → Option (MS × Int32))) (u : MS) (v1 : Int32) (v2 : Int32) : Option (MS × Int32) := G u (v1) (v2) (0)
set_option maxRecDepth 100000 in
set_option maxHeartbeats 4000000 in
theorem wb_M_functionOf_0 {p : Program} {l : Launch} {e : Env} {R : Room} {s : State} {m : MethodId} {args : Array Value} {below : List Frame} {meth : Method} {c : Code} {D : va_G} {cl : List vw_C} {cB cI cJ cZ cS : ClassId} {A : Nat → Prop} {iM h0 : Nat} {ad : Nat → Nat} (C0 : MCx p s m args meth c b_M_functionOf 4 (some .int) D cl cB cI cJ cZ cS iM A) (hR : R = rm_M_functionOf) (N : Nat) (G : (MS → Int32 → Int32 → Int32 → Option (MS × Int32))) (hG : (∀ (u : MS) (v1 : Int32) (v2 : Int32) (v3 : Int32) (x : MS × Int32), G u v1 v2 v3 = some x → ∀ (H : Heap) (locs : List Loc), va_P D cl (wM cB cI cJ cZ cS iM h0 ad u) H → va_D A (wM cB cI cJ cZ cS iM h0 ad u) → va_S A s.heap H locs → ∀ (ls : Array Slot), lv_has ls 4 [(0, .ref h0), (1, .int v1), (2, .int v2), (3, .int v3)] → W p l e R s m args below meth c H locs 0 0 (MQ below (mQi D cl cB cI cJ cZ cS iM h0 ad A x) args s 0 0 A) (F0 m 2 ls []))) : ∀ (u : MS) (v1 : Int32) (v2 : Int32) (x : MS × Int32), fb_M_functionOf_0 N G u v1 v2 = some x → ∀ (H : Heap) (locs : List Loc), va_P D cl (wM cB cI cJ cZ cS iM h0 ad u) H → va_D A (wM cB cI cJ cZ cS iM h0 ad u) → va_S A s.heap H locs → ∀ (ls : Array Slot), lv_has ls 4 [(0, .ref h0), (1, .int v1), (2, .int v2)] → W p l e R s m args below meth c H locs 0 0 (MQ below (mQi D cl cB cI cJ cZ cS iM h0 ad A x) args s 0 0 A) (F0 m 0 ls []) := by
  intro u v1 v2 x hf H locs hP hD hS ls hl
  obtain ⟨hx, hb, hr, hml, ht, hown, hM, hK, hA, hlocks⟩ := id C0
  unfold fb_M_functionOf_0 at hf
  refine lv_iconst (v := 0) hx hb d_M_functionOf_0 (by decide) ?_
  refine lv_istore_n (lv' := [(3, .int 0), (0, .ref h0), (1, .int v1), (2, .int v2)]) hx hb d_M_functionOf_1 rfl hl (by decide) rfl (fun ls hl => ?_)
  exact hG _ _ _ _ _ hf H locs hP hD hS ls (lv_sub hl [1, 2, 3, 0] rfl)
def gg_M_functionOf (N : Nat) : Nat → ((MS → Int32 → Int32 → Int32 → Option (MS × Int32)))
  | 0 => fun _ _ _ _ => none
  | n + 1 => fb_M_functionOf_2 N (gg_M_functionOf N n)
theorem wg_M_functionOf {p : Program} {l : Launch} {e : Env} {R : Room} {s : State} {m : MethodId} {args : Array Value} {below : List Frame} {meth : Method} {c : Code} {D : va_G} {cl : List vw_C} {cB cI cJ cZ cS : ClassId} {A : Nat → Prop} {iM h0 : Nat} {ad : Nat → Nat} (C0 : MCx p s m args meth c b_M_functionOf 4 (some .int) D cl cB cI cJ cZ cS iM A) (hR : R = rm_M_functionOf) (N : Nat) : ∀ n : Nat, (∀ (u : MS) (v1 : Int32) (v2 : Int32) (v3 : Int32) (x : MS × Int32), gg_M_functionOf N n u v1 v2 v3 = some x → ∀ (H : Heap) (locs : List Loc), va_P D cl (wM cB cI cJ cZ cS iM h0 ad u) H → va_D A (wM cB cI cJ cZ cS iM h0 ad u) → va_S A s.heap H locs → ∀ (ls : Array Slot), lv_has ls 4 [(0, .ref h0), (1, .int v1), (2, .int v2), (3, .int v3)] → W p l e R s m args below meth c H locs 0 0 (MQ below (mQi D cl cB cI cJ cZ cS iM h0 ad A x) args s 0 0 A) (F0 m 2 ls []))
  | 0 => (fun u v1 v2 v3 x hf => by cases hf)
  | n + 1 => wb_M_functionOf_2 C0 hR N (gg_M_functionOf N n) (wg_M_functionOf C0 hR N n)
def fm_M_functionOf (N : Nat) (u : MS) (v1 : Int32) (v2 : Int32) : Option (MS × Int32) := fb_M_functionOf_0 N (gg_M_functionOf N N) u v1 v2
set_option maxRecDepth 100000 in
set_option maxHeartbeats 4000000 in
theorem c_M_functionOf (N : Nat) {l : Launch} {D : va_G} {cl : List vw_C} {cB cI cJ cZ cS : ClassId} {iM h0 : Nat} {ad : Nat → Nat} {u : MS} {sz : Nat} {v1 : Int32} {v2 : Int32} {x : MS × Int32} (hM : cl[iM]? = some (R_M, F_M, 171)) (hf : fm_M_functionOf N u v1 v2 = some x) : Met l y_M_functionOf (wd_ws y_M_functionOf b_M_functionOf 4 (some .int)) rm_M_functionOf (mPc D cl cB cI cJ cZ cS iM h0 ad u sz [.ref h0, .int v1, .int v2]) (mQi D cl cB cI cJ cZ cS iM h0 ad (mA cB cI cJ cZ cS iM h0 ad u sz) x) 0 0 (mA cB cI cJ cZ cS iM h0 ad u sz) :=
  mMet (by decide) rfl hM (Nat.le_of_ble_eq_true rfl) (fun p e s m below meth c ls hsz C0 hP hD hS hl => by
    have hR : rm_M_functionOf = rm_M_functionOf := rfl
    exact wb_M_functionOf_0 C0 hR N (gg_M_functionOf N N) (wg_M_functionOf C0 hR N N) u _ _ x hf s.heap [] hP hD hS ls (lv_sub hl [0, 1, 2] rfl))
abbrev b_M_calls : ByteArray := prog_14_method_73_code
def y_M_calls : MethodName := ⟨R_M, "calls", "()V"⟩
def w_M_calls : List Cond := wd_ws y_M_calls b_M_calls 4 none
set_option maxRecDepth 100000 in
theorem k_M_calls : Cond.code y_M_calls b_M_calls 4 none ∈ wd_tbl := wd_of 2883 rfl rfl
theorem d_M_calls_0 : decode b_M_calls 0 = .ok (.iconst 0, 1) := by decide +kernel
theorem d_M_calls_1 : decode b_M_calls 1 = .ok (.istore_n 1, 1) := by decide +kernel
theorem d_M_calls_2 : decode b_M_calls 2 = .ok (.iload_n 1, 1) := by decide +kernel
theorem d_M_calls_3 : decode b_M_calls 3 = .ok (.aload_n 0, 1) := by decide +kernel
theorem d_M_calls_4 : decode b_M_calls 4 = .ok (.getfield 448, 3) := by decide +kernel
theorem d_M_calls_7 : decode b_M_calls 7 = .ok (.if_icmp .ge 190, 3) := by decide +kernel
theorem d_M_calls_10 : decode b_M_calls 10 = .ok (.aload_n 0, 1) := by decide +kernel
theorem d_M_calls_11 : decode b_M_calls 11 = .ok (.getfield 56, 3) := by decide +kernel
theorem d_M_calls_14 : decode b_M_calls 14 = .ok (.iload_n 1, 1) := by decide +kernel
theorem d_M_calls_15 : decode b_M_calls 15 = .ok (.baload, 1) := by decide +kernel
theorem d_M_calls_16 : decode b_M_calls 16 = .ok (.bipush 12, 2) := by decide +kernel
theorem d_M_calls_18 : decode b_M_calls 18 = .ok (.if_icmp .ne 118, 3) := by decide +kernel
theorem d_M_calls_21 : decode b_M_calls 21 = .ok (.aload_n 0, 1) := by decide +kernel
theorem d_M_calls_22 : decode b_M_calls 22 = .ok (.aload_n 0, 1) := by decide +kernel
theorem d_M_calls_23 : decode b_M_calls 23 = .ok (.getfield 63, 3) := by decide +kernel
theorem d_M_calls_26 : decode b_M_calls 26 = .ok (.iload_n 1, 1) := by decide +kernel
theorem d_M_calls_27 : decode b_M_calls 27 = .ok (.iaload, 1) := by decide +kernel
theorem d_M_calls_28 : decode b_M_calls 28 = .ok (.aload_n 0, 1) := by decide +kernel
theorem d_M_calls_29 : decode b_M_calls 29 = .ok (.getfield 66, 3) := by decide +kernel
theorem d_M_calls_32 : decode b_M_calls 32 = .ok (.iload_n 1, 1) := by decide +kernel
theorem d_M_calls_33 : decode b_M_calls 33 = .ok (.iaload, 1) := by decide +kernel
theorem d_M_calls_34 : decode b_M_calls 34 = .ok (.invokevirtual 651, 3) := by decide +kernel
theorem d_M_calls_37 : decode b_M_calls 37 = .ok (.istore_n 2, 1) := by decide +kernel
theorem d_M_calls_38 : decode b_M_calls 38 = .ok (.aload_n 0, 1) := by decide +kernel
theorem d_M_calls_39 : decode b_M_calls 39 = .ok (.aload_n 0, 1) := by decide +kernel
theorem d_M_calls_40 : decode b_M_calls 40 = .ok (.getfield 63, 3) := by decide +kernel
theorem d_M_calls_43 : decode b_M_calls 43 = .ok (.iload_n 1, 1) := by decide +kernel
theorem d_M_calls_44 : decode b_M_calls 44 = .ok (.iaload, 1) := by decide +kernel
theorem d_M_calls_45 : decode b_M_calls 45 = .ok (.aload_n 0, 1) := by decide +kernel
theorem d_M_calls_46 : decode b_M_calls 46 = .ok (.getfield 66, 3) := by decide +kernel
theorem d_M_calls_49 : decode b_M_calls 49 = .ok (.iload_n 1, 1) := by decide +kernel
theorem d_M_calls_50 : decode b_M_calls 50 = .ok (.iaload, 1) := by decide +kernel
theorem d_M_calls_51 : decode b_M_calls 51 = .ok (.invokevirtual 532, 3) := by decide +kernel
theorem d_M_calls_54 : decode b_M_calls 54 = .ok (.istore_n 3, 1) := by decide +kernel
theorem d_M_calls_55 : decode b_M_calls 55 = .ok (.iload_n 2, 1) := by decide +kernel
theorem d_M_calls_56 : decode b_M_calls 56 = .ok (.iconst (-1), 1) := by decide +kernel
theorem d_M_calls_57 : decode b_M_calls 57 = .ok (.if_icmp .ne 23, 3) := by decide +kernel
theorem d_M_calls_60 : decode b_M_calls 60 = .ok (.iload_n 3, 1) := by decide +kernel
theorem d_M_calls_61 : decode b_M_calls 61 = .ok (.iconst (-1), 1) := by decide +kernel
theorem d_M_calls_62 : decode b_M_calls 62 = .ok (.if_icmp .ne 18, 3) := by decide +kernel
theorem d_M_calls_65 : decode b_M_calls 65 = .ok (.aload_n 0, 1) := by decide +kernel
theorem d_M_calls_66 : decode b_M_calls 66 = .ok (.bipush 6, 2) := by decide +kernel
theorem d_M_calls_68 : decode b_M_calls 68 = .ok (.aload_n 0, 1) := by decide +kernel
theorem d_M_calls_69 : decode b_M_calls 69 = .ok (.getfield 59, 3) := by decide +kernel
theorem d_M_calls_72 : decode b_M_calls 72 = .ok (.iload_n 1, 1) := by decide +kernel
theorem d_M_calls_73 : decode b_M_calls 73 = .ok (.saload, 1) := by decide +kernel
theorem d_M_calls_74 : decode b_M_calls 74 = .ok (.invokevirtual 526, 3) := by decide +kernel
theorem d_M_calls_77 : decode b_M_calls 77 = .ok (.goto 36, 3) := by decide +kernel
theorem d_M_calls_80 : decode b_M_calls 80 = .ok (.aload_n 0, 1) := by decide +kernel
theorem d_M_calls_81 : decode b_M_calls 81 = .ok (.getfield 69, 3) := by decide +kernel
theorem d_M_calls_84 : decode b_M_calls 84 = .ok (.iload_n 1, 1) := by decide +kernel
theorem d_M_calls_85 : decode b_M_calls 85 = .ok (.iaload, 1) := by decide +kernel
theorem d_M_calls_86 : decode b_M_calls 86 = .ok (.iconst 1, 1) := by decide +kernel
theorem d_M_calls_87 : decode b_M_calls 87 = .ok (.if_icmp .ne 26, 3) := by decide +kernel
theorem d_M_calls_90 : decode b_M_calls 90 = .ok (.iload_n 2, 1) := by decide +kernel
theorem d_M_calls_91 : decode b_M_calls 91 = .ok (.iconst (-1), 1) := by decide +kernel
theorem d_M_calls_92 : decode b_M_calls 92 = .ok (.if_icmp .ne 9, 3) := by decide +kernel
theorem d_M_calls_95 : decode b_M_calls 95 = .ok (.iload_n 3, 1) := by decide +kernel
theorem d_M_calls_96 : decode b_M_calls 96 = .ok (.bipush 18, 2) := by decide +kernel
theorem d_M_calls_98 : decode b_M_calls 98 = .ok (.if_icmp .ge 15, 3) := by decide +kernel
theorem d_M_calls_101 : decode b_M_calls 101 = .ok (.aload_n 0, 1) := by decide +kernel
theorem d_M_calls_102 : decode b_M_calls 102 = .ok (.bipush 7, 2) := by decide +kernel
theorem d_M_calls_104 : decode b_M_calls 104 = .ok (.aload_n 0, 1) := by decide +kernel
theorem d_M_calls_105 : decode b_M_calls 105 = .ok (.getfield 59, 3) := by decide +kernel
theorem d_M_calls_108 : decode b_M_calls 108 = .ok (.iload_n 1, 1) := by decide +kernel
theorem d_M_calls_109 : decode b_M_calls 109 = .ok (.saload, 1) := by decide +kernel
theorem d_M_calls_110 : decode b_M_calls 110 = .ok (.invokevirtual 526, 3) := by decide +kernel
theorem d_M_calls_113 : decode b_M_calls 113 = .ok (.aload_n 0, 1) := by decide +kernel
theorem d_M_calls_114 : decode b_M_calls 114 = .ok (.getfield 69, 3) := by decide +kernel
theorem d_M_calls_117 : decode b_M_calls 117 = .ok (.iload_n 1, 1) := by decide +kernel
theorem d_M_calls_118 : decode b_M_calls 118 = .ok (.iload_n 3, 1) := by decide +kernel
theorem d_M_calls_119 : decode b_M_calls 119 = .ok (.iconst (-1), 1) := by decide +kernel
theorem d_M_calls_120 : decode b_M_calls 120 = .ok (.if_icmp .eq 11, 3) := by decide +kernel
theorem d_M_calls_123 : decode b_M_calls 123 = .ok (.sipush 2000, 3) := by decide +kernel
theorem d_M_calls_126 : decode b_M_calls 126 = .ok (.iload_n 3, 1) := by decide +kernel
theorem d_M_calls_127 : decode b_M_calls 127 = .ok (.iadd, 1) := by decide +kernel
theorem d_M_calls_128 : decode b_M_calls 128 = .ok (.goto 4, 3) := by decide +kernel
theorem d_M_calls_131 : decode b_M_calls 131 = .ok (.iload_n 2, 1) := by decide +kernel
theorem d_M_calls_132 : decode b_M_calls 132 = .ok (.iastore, 1) := by decide +kernel
theorem d_M_calls_133 : decode b_M_calls 133 = .ok (.goto 58, 3) := by decide +kernel
theorem d_M_calls_136 : decode b_M_calls 136 = .ok (.aload_n 0, 1) := by decide +kernel
theorem d_M_calls_137 : decode b_M_calls 137 = .ok (.getfield 56, 3) := by decide +kernel
theorem d_M_calls_140 : decode b_M_calls 140 = .ok (.iload_n 1, 1) := by decide +kernel
theorem d_M_calls_141 : decode b_M_calls 141 = .ok (.baload, 1) := by decide +kernel
theorem d_M_calls_142 : decode b_M_calls 142 = .ok (.bipush 15, 2) := by decide +kernel
theorem d_M_calls_144 : decode b_M_calls 144 = .ok (.if_icmp .ne 47, 3) := by decide +kernel
theorem d_M_calls_147 : decode b_M_calls 147 = .ok (.aload_n 0, 1) := by decide +kernel
theorem d_M_calls_148 : decode b_M_calls 148 = .ok (.getfield 69, 3) := by decide +kernel
theorem d_M_calls_151 : decode b_M_calls 151 = .ok (.iload_n 1, 1) := by decide +kernel
theorem d_M_calls_152 : decode b_M_calls 152 = .ok (.aload_n 0, 1) := by decide +kernel
theorem d_M_calls_153 : decode b_M_calls 153 = .ok (.aload_n 0, 1) := by decide +kernel
theorem d_M_calls_154 : decode b_M_calls 154 = .ok (.getfield 63, 3) := by decide +kernel
theorem d_M_calls_157 : decode b_M_calls 157 = .ok (.iload_n 1, 1) := by decide +kernel
theorem d_M_calls_158 : decode b_M_calls 158 = .ok (.iaload, 1) := by decide +kernel
theorem d_M_calls_159 : decode b_M_calls 159 = .ok (.aload_n 0, 1) := by decide +kernel
theorem d_M_calls_160 : decode b_M_calls 160 = .ok (.getfield 66, 3) := by decide +kernel
theorem d_M_calls_163 : decode b_M_calls 163 = .ok (.iload_n 1, 1) := by decide +kernel
theorem d_M_calls_164 : decode b_M_calls 164 = .ok (.iaload, 1) := by decide +kernel
theorem d_M_calls_165 : decode b_M_calls 165 = .ok (.invokevirtual 651, 3) := by decide +kernel
theorem d_M_calls_168 : decode b_M_calls 168 = .ok (.iastore, 1) := by decide +kernel
theorem d_M_calls_169 : decode b_M_calls 169 = .ok (.aload_n 0, 1) := by decide +kernel
theorem d_M_calls_170 : decode b_M_calls 170 = .ok (.getfield 69, 3) := by decide +kernel
theorem d_M_calls_173 : decode b_M_calls 173 = .ok (.iload_n 1, 1) := by decide +kernel
theorem d_M_calls_174 : decode b_M_calls 174 = .ok (.iaload, 1) := by decide +kernel
theorem d_M_calls_175 : decode b_M_calls 175 = .ok (.iconst (-1), 1) := by decide +kernel
theorem d_M_calls_176 : decode b_M_calls 176 = .ok (.if_icmp .ne 15, 3) := by decide +kernel
theorem d_M_calls_179 : decode b_M_calls 179 = .ok (.aload_n 0, 1) := by decide +kernel
theorem d_M_calls_180 : decode b_M_calls 180 = .ok (.bipush 6, 2) := by decide +kernel
theorem d_M_calls_182 : decode b_M_calls 182 = .ok (.aload_n 0, 1) := by decide +kernel
theorem d_M_calls_183 : decode b_M_calls 183 = .ok (.getfield 59, 3) := by decide +kernel
theorem d_M_calls_186 : decode b_M_calls 186 = .ok (.iload_n 1, 1) := by decide +kernel
theorem d_M_calls_187 : decode b_M_calls 187 = .ok (.saload, 1) := by decide +kernel
theorem d_M_calls_188 : decode b_M_calls 188 = .ok (.invokevirtual 526, 3) := by decide +kernel
theorem d_M_calls_191 : decode b_M_calls 191 = .ok (.iinc 1 1, 3) := by decide +kernel
theorem d_M_calls_194 : decode b_M_calls 194 = .ok (.goto (-192), 3) := by decide +kernel
theorem d_M_calls_197 : decode b_M_calls 197 = .ok (.return_, 1) := by decide +kernel
set_option maxRecDepth 100000 in
theorem hl_M_calls : Cond.methodLink R_M 666 y_M_calls ∈ wd_tbl := wd_of 2880 (by decide +kernel) rfl
set_option maxRecDepth 100000 in
theorem hi_M_calls : Cond.instanceMethod y_M_calls ∈ wd_tbl := wd_of 2882 (by decide +kernel) rfl
set_option maxRecDepth 100000 in
theorem hs_M_calls : Cond.selects R_M y_M_calls y_M_calls ∈ wd_tbl := wd_of 184 (by decide +kernel) rfl
theorem hd_M_calls : y_M_calls.cls = R_M ∧ y_M_calls.cls ≠ "java/lang/invoke/MethodHandle" ∧ y_M_calls.cls ≠ "java/lang/invoke/VarHandle" ∧ (parseMethodDescriptor y_M_calls.desc).map (fun d => d.parameters.length) = some 0 := by decide +kernel
def rm_M_calls : Room := { frames := 1, cells := 0, slots := 0, locals := 27 }
theorem rm_M_calls_M_functionOf {R : Room} (hR : R = rm_M_calls) : (rm_M_functionOf).frames + 1 ≤ R.frames ∧ 8 + (4 + 11) + (rm_M_functionOf).locals ≤ R.locals := by subst hR; decide
theorem rm_M_calls_M_predefinedOf {R : Room} (hR : R = rm_M_calls) : (rm_M_predefinedOf).frames + 1 ≤ R.frames ∧ 8 + (8 + 11) + (rm_M_predefinedOf).locals ≤ R.locals := by subst hR; decide
theorem rm_M_calls_M_rule {R : Room} (hR : R = rm_M_calls) : (rm_M_rule).frames + 1 ≤ R.frames ∧ 8 + (3 + 11) + (rm_M_rule).locals ≤ R.locals := by subst hR; decide
def fb_M_calls_191 (N : Nat) (G : (MS → Int32 → Option (MS × Unit))) (u : MS) (v1 : Int32) : Option (MS × Unit) := G u ((v1 + 1))
set_option maxRecDepth 100000 in
set_option maxHeartbeats 4000000 in
theorem wb_M_calls_191 {p : Program} {l : Launch} {e : Env} {R : Room} {s : State} {m : MethodId} {args : Array Value} {below : List Frame} {meth : Method} {c : Code} {D : va_G} {cl : List vw_C} {cB cI cJ cZ cS : ClassId} {A : Nat → Prop} {iM h0 : Nat} {ad : Nat → Nat} (C0 : MCx p s m args meth c b_M_calls 4 none D cl cB cI cJ cZ cS iM A) (hR : R = rm_M_calls) (N : Nat) (G : (MS → Int32 → Option (MS × Unit))) (hG : (∀ (u : MS) (v1 : Int32) (x : MS × Unit), G u v1 = some x → ∀ (H : Heap) (locs : List Loc), va_P D cl (wM cB cI cJ cZ cS iM h0 ad u) H → va_D A (wM cB cI cJ cZ cS iM h0 ad u) → va_S A s.heap H locs → ∀ (ls : Array Slot), lv_has ls 4 [(0, .ref h0), (1, .int v1)] → W p l e R s m args below meth c H locs 0 0 (MQ below (mQv D cl cB cI cJ cZ cS iM h0 ad A x) args s 0 0 A) (F0 m 2 ls []))) : ∀ (u : MS) (v1 : Int32) (x : MS × Unit), fb_M_calls_191 N G u v1 = some x → ∀ (H : Heap) (locs : List Loc), va_P D cl (wM cB cI cJ cZ cS iM h0 ad u) H → va_D A (wM cB cI cJ cZ cS iM h0 ad u) → va_S A s.heap H locs → ∀ (ls : Array Slot), lv_has ls 4 [(0, .ref h0), (1, .int v1)] → W p l e R s m args below meth c H locs 0 0 (MQ below (mQv D cl cB cI cJ cZ cS iM h0 ad A x) args s 0 0 A) (F0 m 191 ls []) := by
  intro u v1 x hf H locs hP hD hS ls hl
  obtain ⟨hx, hb, hr, hml, ht, hown, hM, hK, hA, hlocks⟩ := id C0
  unfold fb_M_calls_191 at hf
  refine lv_iinc (v := (v1 + 1)) (lv' := [(1, .int (v1 + 1)), (0, .ref h0)]) hx hb d_M_calls_191 hl (k := 1) rfl rfl (by decide) rfl (fun ls hl => ?_)
  refine lv_goto (tgt := 2) hx hb d_M_calls_194 (by decide) ?_
  exact hG _ _ _ hf H locs hP hD hS ls (lv_sub hl [1, 0] rfl)
def fb_M_calls_132 (N : Nat) (G : (MS → Int32 → Option (MS × Unit))) (u : MS) (v1 : Int32) (t0 : Nat) (t1 : Int32) (t2 : Int32) : Option (MS × Unit) := ck (isK t0 4) (ck (inb t1 (ln t0)) (lt (upA u t0 (upd (u.2.2.1 t0) t1.toNatClampNeg t2)) (fun w1 => fb_M_calls_191 N G w1 (v1))))
set_option maxRecDepth 100000 in
set_option maxHeartbeats 4000000 in
theorem wb_M_calls_132 {p : Program} {l : Launch} {e : Env} {R : Room} {s : State} {m : MethodId} {args : Array Value} {below : List Frame} {meth : Method} {c : Code} {D : va_G} {cl : List vw_C} {cB cI cJ cZ cS : ClassId} {A : Nat → Prop} {iM h0 : Nat} {ad : Nat → Nat} (C0 : MCx p s m args meth c b_M_calls 4 none D cl cB cI cJ cZ cS iM A) (hR : R = rm_M_calls) (N : Nat) (G : (MS → Int32 → Option (MS × Unit))) (hG : (∀ (u : MS) (v1 : Int32) (x : MS × Unit), G u v1 = some x → ∀ (H : Heap) (locs : List Loc), va_P D cl (wM cB cI cJ cZ cS iM h0 ad u) H → va_D A (wM cB cI cJ cZ cS iM h0 ad u) → va_S A s.heap H locs → ∀ (ls : Array Slot), lv_has ls 4 [(0, .ref h0), (1, .int v1)] → W p l e R s m args below meth c H locs 0 0 (MQ below (mQv D cl cB cI cJ cZ cS iM h0 ad A x) args s 0 0 A) (F0 m 2 ls []))) : ∀ (u : MS) (v1 : Int32) (t0 : Nat) (t1 : Int32) (t2 : Int32) (x : MS × Unit), fb_M_calls_132 N G u v1 t0 t1 t2 = some x → ∀ (H : Heap) (locs : List Loc), va_P D cl (wM cB cI cJ cZ cS iM h0 ad u) H → va_D A (wM cB cI cJ cZ cS iM h0 ad u) → va_S A s.heap H locs → ∀ (ls : Array Slot), lv_has ls 4 [(0, .ref h0), (1, .int v1)] → W p l e R s m args below meth c H locs 0 0 (MQ below (mQv D cl cB cI cJ cZ cS iM h0 ad A x) args s 0 0 A) (F0 m 132 ls [.int t2, .int t1, .ref (ad t0)]) := by
  intro u v1 t0 t1 t2 x hf H locs hP hD hS ls hl
  obtain ⟨hx, hb, hr, hml, ht, hown, hM, hK, hA, hlocks⟩ := id C0
  unfold fb_M_calls_132 at hf
  obtain ⟨hk9, hf⟩ := ck_some hf
  obtain ⟨hi9, hf⟩ := ck_some hf
  refine us_I hx hb hK hP hD hS (isK_1 hk9) (isK_2 hk9) hi9 d_M_calls_132 (fun H locs hP hD hS => ?_)
  obtain ⟨w1, e1, hf⟩ := lt_some hf
  rw [← e1] at hP hD
  refine lv_goto (tgt := 191) hx hb d_M_calls_133 (by decide) ?_
  exact wb_M_calls_191 C0 hR N G hG _ _ _ hf H locs hP hD hS ls (lv_sub hl [0, 1] rfl)
def fb_M_calls_113 (N : Nat) (G : (MS → Int32 → Option (MS × Unit))) (u : MS) (v1 : Int32) (v2 : Int32) (v3 : Int32) : Option (MS × Unit) := br (decide (v3 = (-1))) (fb_M_calls_132 N G u (v1) (27) (v1) (v2)) (fb_M_calls_132 N G u (v1) (27) (v1) ((2000 + v3)))
set_option maxRecDepth 100000 in
set_option maxHeartbeats 4000000 in
theorem wb_M_calls_113 {p : Program} {l : Launch} {e : Env} {R : Room} {s : State} {m : MethodId} {args : Array Value} {below : List Frame} {meth : Method} {c : Code} {D : va_G} {cl : List vw_C} {cB cI cJ cZ cS : ClassId} {A : Nat → Prop} {iM h0 : Nat} {ad : Nat → Nat} (C0 : MCx p s m args meth c b_M_calls 4 none D cl cB cI cJ cZ cS iM A) (hR : R = rm_M_calls) (N : Nat) (G : (MS → Int32 → Option (MS × Unit))) (hG : (∀ (u : MS) (v1 : Int32) (x : MS × Unit), G u v1 = some x → ∀ (H : Heap) (locs : List Loc), va_P D cl (wM cB cI cJ cZ cS iM h0 ad u) H → va_D A (wM cB cI cJ cZ cS iM h0 ad u) → va_S A s.heap H locs → ∀ (ls : Array Slot), lv_has ls 4 [(0, .ref h0), (1, .int v1)] → W p l e R s m args below meth c H locs 0 0 (MQ below (mQv D cl cB cI cJ cZ cS iM h0 ad A x) args s 0 0 A) (F0 m 2 ls []))) : ∀ (u : MS) (v1 : Int32) (v2 : Int32) (v3 : Int32) (x : MS × Unit), fb_M_calls_113 N G u v1 v2 v3 = some x → ∀ (H : Heap) (locs : List Loc), va_P D cl (wM cB cI cJ cZ cS iM h0 ad u) H → va_D A (wM cB cI cJ cZ cS iM h0 ad u) → va_S A s.heap H locs → ∀ (ls : Array Slot), lv_has ls 4 [(0, .ref h0), (1, .int v1), (2, .int v2), (3, .int v3)] → W p l e R s m args below meth c H locs 0 0 (MQ below (mQv D cl cB cI cJ cZ cS iM h0 ad A x) args s 0 0 A) (F0 m 113 ls []) := by
  intro u v1 v2 v3 x hf H locs hP hD hS ls hl
  obtain ⟨hx, hb, hr, hml, ht, hown, hM, hK, hA, hlocks⟩ := id C0
  unfold fb_M_calls_113 at hf
  refine lv_aload_n hx hb d_M_calls_113 rfl (lv_at hl 0 rfl) ?_
  refine ug_R hx hb ht hown hM hK hP 27 (by decide) lk_M_27 (by decide) d_M_calls_114 ?_
  refine lv_iload_n hx hb d_M_calls_117 rfl (lv_at hl 1 rfl) ?_
  refine lv_iload_n hx hb d_M_calls_118 rfl (lv_at hl 3 rfl) ?_
  refine lv_iconst (v := (-1)) hx hb d_M_calls_119 (by decide) ?_
  refine lv_icmp_eq (tgt := 131) hx hb d_M_calls_120 (by decide) (fun hc => ?_) (fun hc => ?_)
  · rw [br_p _ hc] at hf
    refine lv_iload_n hx hb d_M_calls_131 rfl (lv_at hl 2 rfl) ?_
    exact wb_M_calls_132 C0 hR N G hG _ _ _ _ _ _ hf H locs hP hD hS ls (lv_sub hl [0, 1] rfl)
  · rw [br_n _ hc] at hf
    refine lv_sipush (v := 2000) hx hb d_M_calls_123 (by decide) ?_
    refine lv_iload_n hx hb d_M_calls_126 rfl (lv_at hl 3 rfl) ?_
    refine lv_iadd hx hb d_M_calls_127 ?_
    refine lv_goto (tgt := 132) hx hb d_M_calls_128 (by decide) ?_
    exact wb_M_calls_132 C0 hR N G hG _ _ _ _ _ _ hf H locs hP hD hS ls (lv_sub hl [0, 1] rfl)
def fb_M_calls_101 (N : Nat) (G : (MS → Int32 → Option (MS × Unit))) (u : MS) (v1 : Int32) (v2 : Int32) (v3 : Int32) : Option (MS × Unit) := ck (inb v1 (ln 24)) (bnd (fm_M_rule N u 7 (u.2.2.1 24 v1.toNatClampNeg)) (fun u2 _ => fb_M_calls_113 N G u2 (v1) (v2) (v3)))
set_option maxRecDepth 100000 in
set_option maxHeartbeats 4000000 in
theorem wb_M_calls_101 {p : Program} {l : Launch} {e : Env} {R : Room} {s : State} {m : MethodId} {args : Array Value} {below : List Frame} {meth : Method} {c : Code} {D : va_G} {cl : List vw_C} {cB cI cJ cZ cS : ClassId} {A : Nat → Prop} {iM h0 : Nat} {ad : Nat → Nat} (C0 : MCx p s m args meth c b_M_calls 4 none D cl cB cI cJ cZ cS iM A) (hR : R = rm_M_calls) (N : Nat) (G : (MS → Int32 → Option (MS × Unit))) (hG : (∀ (u : MS) (v1 : Int32) (x : MS × Unit), G u v1 = some x → ∀ (H : Heap) (locs : List Loc), va_P D cl (wM cB cI cJ cZ cS iM h0 ad u) H → va_D A (wM cB cI cJ cZ cS iM h0 ad u) → va_S A s.heap H locs → ∀ (ls : Array Slot), lv_has ls 4 [(0, .ref h0), (1, .int v1)] → W p l e R s m args below meth c H locs 0 0 (MQ below (mQv D cl cB cI cJ cZ cS iM h0 ad A x) args s 0 0 A) (F0 m 2 ls []))) : ∀ (u : MS) (v1 : Int32) (v2 : Int32) (v3 : Int32) (x : MS × Unit), fb_M_calls_101 N G u v1 v2 v3 = some x → ∀ (H : Heap) (locs : List Loc), va_P D cl (wM cB cI cJ cZ cS iM h0 ad u) H → va_D A (wM cB cI cJ cZ cS iM h0 ad u) → va_S A s.heap H locs → ∀ (ls : Array Slot), lv_has ls 4 [(0, .ref h0), (1, .int v1), (2, .int v2), (3, .int v3)] → W p l e R s m args below meth c H locs 0 0 (MQ below (mQv D cl cB cI cJ cZ cS iM h0 ad A x) args s 0 0 A) (F0 m 101 ls []) := by
  intro u v1 v2 v3 x hf H locs hP hD hS ls hl
  obtain ⟨hx, hb, hr, hml, ht, hown, hM, hK, hA, hlocks⟩ := id C0
  unfold fb_M_calls_101 at hf
  refine lv_aload_n hx hb d_M_calls_101 rfl (lv_at hl 0 rfl) ?_
  refine lv_bipush (v := 7) hx hb d_M_calls_102 (by decide) ?_
  refine lv_aload_n hx hb d_M_calls_104 rfl (lv_at hl 0 rfl) ?_
  refine ug_R hx hb ht hown hM hK hP 24 (by decide) lk_M_24 (by decide) d_M_calls_105 ?_
  refine lv_iload_n hx hb d_M_calls_108 rfl (lv_at hl 1 rfl) ?_
  obtain ⟨hi9, hf⟩ := ck_some hf
  refine ul_S hx hb hK hP (by decide) (by decide) hi9 d_M_calls_109 ?_
  obtain ⟨u2, r2, hc2, hf⟩ := bnd_some hf
  refine mV_v (As := [.int 7, .int (u.2.2.1 24 v1.toNatClampNeg)]) (rest := []) C0 hP hD hS (c_M_rule N hM hc2) k_M_rule hl_M_rule hi_M_rule hs_M_rule hini_M rfl rfl hd_M_rule rfl (rm_M_calls_M_rule hR) hl.1 (Nat.le_of_ble_eq_true rfl) d_M_calls_110 rfl ⟨Nat.zero_le _, Nat.zero_le _⟩ (fun H locs hP hD hS => ?_)
  exact wb_M_calls_113 C0 hR N G hG _ _ _ _ _ hf H locs hP hD hS ls (lv_sub hl [0, 1, 2, 3] rfl)
def fb_M_calls_80 (N : Nat) (G : (MS → Int32 → Option (MS × Unit))) (u : MS) (v1 : Int32) (v2 : Int32) (v3 : Int32) : Option (MS × Unit) := ck (inb v1 (ln 27)) (br (decide ((u.2.2.1 27 v1.toNatClampNeg) = 1)) (br (decide (v2 = (-1))) (br (decide (18 ≤ v3)) (fb_M_calls_113 N G u (v1) (v2) (v3)) (fb_M_calls_101 N G u (v1) (v2) (v3))) (fb_M_calls_101 N G u (v1) (v2) (v3))) (fb_M_calls_113 N G u (v1) (v2) (v3)))
set_option maxRecDepth 100000 in
set_option maxHeartbeats 4000000 in
theorem wb_M_calls_80 {p : Program} {l : Launch} {e : Env} {R : Room} {s : State} {m : MethodId} {args : Array Value} {below : List Frame} {meth : Method} {c : Code} {D : va_G} {cl : List vw_C} {cB cI cJ cZ cS : ClassId} {A : Nat → Prop} {iM h0 : Nat} {ad : Nat → Nat} (C0 : MCx p s m args meth c b_M_calls 4 none D cl cB cI cJ cZ cS iM A) (hR : R = rm_M_calls) (N : Nat) (G : (MS → Int32 → Option (MS × Unit))) (hG : (∀ (u : MS) (v1 : Int32) (x : MS × Unit), G u v1 = some x → ∀ (H : Heap) (locs : List Loc), va_P D cl (wM cB cI cJ cZ cS iM h0 ad u) H → va_D A (wM cB cI cJ cZ cS iM h0 ad u) → va_S A s.heap H locs → ∀ (ls : Array Slot), lv_has ls 4 [(0, .ref h0), (1, .int v1)] → W p l e R s m args below meth c H locs 0 0 (MQ below (mQv D cl cB cI cJ cZ cS iM h0 ad A x) args s 0 0 A) (F0 m 2 ls []))) : ∀ (u : MS) (v1 : Int32) (v2 : Int32) (v3 : Int32) (x : MS × Unit), fb_M_calls_80 N G u v1 v2 v3 = some x → ∀ (H : Heap) (locs : List Loc), va_P D cl (wM cB cI cJ cZ cS iM h0 ad u) H → va_D A (wM cB cI cJ cZ cS iM h0 ad u) → va_S A s.heap H locs → ∀ (ls : Array Slot), lv_has ls 4 [(0, .ref h0), (1, .int v1), (2, .int v2), (3, .int v3)] → W p l e R s m args below meth c H locs 0 0 (MQ below (mQv D cl cB cI cJ cZ cS iM h0 ad A x) args s 0 0 A) (F0 m 80 ls []) := by
  intro u v1 v2 v3 x hf H locs hP hD hS ls hl
  obtain ⟨hx, hb, hr, hml, ht, hown, hM, hK, hA, hlocks⟩ := id C0
  unfold fb_M_calls_80 at hf
  refine lv_aload_n hx hb d_M_calls_80 rfl (lv_at hl 0 rfl) ?_
  refine ug_R hx hb ht hown hM hK hP 27 (by decide) lk_M_27 (by decide) d_M_calls_81 ?_
  refine lv_iload_n hx hb d_M_calls_84 rfl (lv_at hl 1 rfl) ?_
  obtain ⟨hi9, hf⟩ := ck_some hf
  refine ul_I hx hb hK hP (by decide) (by decide) hi9 d_M_calls_85 ?_
  refine lv_iconst (v := 1) hx hb d_M_calls_86 (by decide) ?_
  refine lv_icmp_ne (tgt := 113) hx hb d_M_calls_87 (by decide) (fun hc => ?_) (fun hc => ?_)
  · rw [br_n _ hc] at hf
    exact wb_M_calls_113 C0 hR N G hG _ _ _ _ _ hf H locs hP hD hS ls (lv_sub hl [0, 1, 2, 3] rfl)
  · rw [br_p _ hc] at hf
    refine lv_iload_n hx hb d_M_calls_90 rfl (lv_at hl 2 rfl) ?_
    refine lv_iconst (v := (-1)) hx hb d_M_calls_91 (by decide) ?_
    refine lv_icmp_ne (tgt := 101) hx hb d_M_calls_92 (by decide) (fun hc => ?_) (fun hc => ?_)
    · rw [br_n _ hc] at hf
      exact wb_M_calls_101 C0 hR N G hG _ _ _ _ _ hf H locs hP hD hS ls (lv_sub hl [0, 1, 2, 3] rfl)
    · rw [br_p _ hc] at hf
      refine lv_iload_n hx hb d_M_calls_95 rfl (lv_at hl 3 rfl) ?_
      refine lv_bipush (v := 18) hx hb d_M_calls_96 (by decide) ?_
      refine lv_icmp_ge (tgt := 113) hx hb d_M_calls_98 (by decide) (fun hc => ?_) (fun hc => ?_)
      · rw [br_p _ hc] at hf
        exact wb_M_calls_113 C0 hR N G hG _ _ _ _ _ hf H locs hP hD hS ls (lv_sub hl [0, 1, 2, 3] rfl)
      · rw [br_n _ hc] at hf
        exact wb_M_calls_101 C0 hR N G hG _ _ _ _ _ hf H locs hP hD hS ls (lv_sub hl [0, 1, 2, 3] rfl)
def fb_M_calls_2 (N : Nat) (G : (MS → Int32 → Option (MS × Unit))) (u : MS) (v1 : Int32) : Option (MS × Unit) := br (decide ((u.1 32) ≤ v1)) (some (u, ())) (ck (inb v1 (ln 23)) (br (decide ((u.2.2.1 23 v1.toNatClampNeg) = 12)) (ck (inb v1 (ln 25)) (ck (inb v1 (ln 26)) (bnd (fm_M_functionOf N u (u.2.2.1 25 v1.toNatClampNeg) (u.2.2.1 26 v1.toNatClampNeg)) (fun u6 r6 => ck (inb v1 (ln 25)) (ck (inb v1 (ln 26)) (bnd (fm_M_predefinedOf N u6 (u6.2.2.1 25 v1.toNatClampNeg) (u6.2.2.1 26 v1.toNatClampNeg)) (fun u7 r7 => br (decide (r6 = (-1))) (br (decide (r7 = (-1))) (ck (inb v1 (ln 24)) (bnd (fm_M_rule N u7 6 (u7.2.2.1 24 v1.toNatClampNeg)) (fun u8 _ => fb_M_calls_113 N G u8 (v1) (r6) (r7)))) (fb_M_calls_80 N G u7 (v1) (r6) (r7))) (fb_M_calls_80 N G u7 (v1) (r6) (r7))))))))) (ck (inb v1 (ln 23)) (br (decide ((u.2.2.1 23 v1.toNatClampNeg) = 15)) (ck (inb v1 (ln 25)) (ck (inb v1 (ln 26)) (bnd (fm_M_functionOf N u (u.2.2.1 25 v1.toNatClampNeg) (u.2.2.1 26 v1.toNatClampNeg)) (fun u3 r3 => ck (inb v1 (ln 27)) (lt (upA u3 27 (upd (u3.2.2.1 27) v1.toNatClampNeg r3)) (fun w4 => ck (inb v1 (ln 27)) (br (decide ((w4.2.2.1 27 v1.toNatClampNeg) = (-1))) (ck (inb v1 (ln 24)) (bnd (fm_M_rule N w4 6 (w4.2.2.1 24 v1.toNatClampNeg)) (fun u5 _ => fb_M_calls_191 N G u5 (v1)))) (fb_M_calls_191 N G w4 (v1))))))))) (fb_M_calls_191 N G u (v1))))))
set_option maxRecDepth 100000 in
set_option maxHeartbeats 4000000 in
theorem wb_M_calls_2 {p : Program} {l : Launch} {e : Env} {R : Room} {s : State} {m : MethodId} {args : Array Value} {below : List Frame} {meth : Method} {c : Code} {D : va_G} {cl : List vw_C} {cB cI cJ cZ cS : ClassId} {A : Nat → Prop} {iM h0 : Nat} {ad : Nat → Nat} (C0 : MCx p s m args meth c b_M_calls 4 none D cl cB cI cJ cZ cS iM A) (hR : R = rm_M_calls) (N : Nat) (G : (MS → Int32 → Option (MS × Unit))) (hG : (∀ (u : MS) (v1 : Int32) (x : MS × Unit), G u v1 = some x → ∀ (H : Heap) (locs : List Loc), va_P D cl (wM cB cI cJ cZ cS iM h0 ad u) H → va_D A (wM cB cI cJ cZ cS iM h0 ad u) → va_S A s.heap H locs → ∀ (ls : Array Slot), lv_has ls 4 [(0, .ref h0), (1, .int v1)] → W p l e R s m args below meth c H locs 0 0 (MQ below (mQv D cl cB cI cJ cZ cS iM h0 ad A x) args s 0 0 A) (F0 m 2 ls []))) : ∀ (u : MS) (v1 : Int32) (x : MS × Unit), fb_M_calls_2 N G u v1 = some x → ∀ (H : Heap) (locs : List Loc), va_P D cl (wM cB cI cJ cZ cS iM h0 ad u) H → va_D A (wM cB cI cJ cZ cS iM h0 ad u) → va_S A s.heap H locs → ∀ (ls : Array Slot), lv_has ls 4 [(0, .ref h0), (1, .int v1)] → W p l e R s m args below meth c H locs 0 0 (MQ below (mQv D cl cB cI cJ cZ cS iM h0 ad A x) args s 0 0 A) (F0 m 2 ls []) := by
  intro u v1 x hf H locs hP hD hS ls hl
  obtain ⟨hx, hb, hr, hml, ht, hown, hM, hK, hA, hlocks⟩ := id C0
  unfold fb_M_calls_2 at hf
  refine lv_iload_n hx hb d_M_calls_2 rfl (lv_at hl 1 rfl) ?_
  refine lv_aload_n hx hb d_M_calls_3 rfl (lv_at hl 0 rfl) ?_
  refine ug_I hx hb ht hown hM hK hP 32 (by decide) lk_M_32 (by decide) d_M_calls_4 ?_
  refine lv_icmp_ge (tgt := 197) hx hb d_M_calls_7 (by decide) (fun hc => ?_) (fun hc => ?_)
  · rw [br_p _ hc] at hf
    exact mr_v C0 hP hD hS hf d_M_calls_197
  · rw [br_n _ hc] at hf
    refine lv_aload_n hx hb d_M_calls_10 rfl (lv_at hl 0 rfl) ?_
    refine ug_R hx hb ht hown hM hK hP 23 (by decide) lk_M_23 (by decide) d_M_calls_11 ?_
    refine lv_iload_n hx hb d_M_calls_14 rfl (lv_at hl 1 rfl) ?_
    obtain ⟨hi9, hf⟩ := ck_some hf
    refine ul_B hx hb hK hP (by decide) (by decide) hi9 d_M_calls_15 ?_
    refine lv_bipush (v := 12) hx hb d_M_calls_16 (by decide) ?_
    refine lv_icmp_ne (tgt := 136) hx hb d_M_calls_18 (by decide) (fun hc => ?_) (fun hc => ?_)
    · rw [br_n _ hc] at hf
      refine lv_aload_n hx hb d_M_calls_136 rfl (lv_at hl 0 rfl) ?_
      refine ug_R hx hb ht hown hM hK hP 23 (by decide) lk_M_23 (by decide) d_M_calls_137 ?_
      refine lv_iload_n hx hb d_M_calls_140 rfl (lv_at hl 1 rfl) ?_
      obtain ⟨hi9, hf⟩ := ck_some hf
      refine ul_B hx hb hK hP (by decide) (by decide) hi9 d_M_calls_141 ?_
      refine lv_bipush (v := 15) hx hb d_M_calls_142 (by decide) ?_
      refine lv_icmp_ne (tgt := 191) hx hb d_M_calls_144 (by decide) (fun hc => ?_) (fun hc => ?_)
      · rw [br_n _ hc] at hf
        exact wb_M_calls_191 C0 hR N G hG _ _ _ hf H locs hP hD hS ls (lv_sub hl [0, 1] rfl)
      · rw [br_p _ hc] at hf
        refine lv_aload_n hx hb d_M_calls_147 rfl (lv_at hl 0 rfl) ?_
        refine ug_R hx hb ht hown hM hK hP 27 (by decide) lk_M_27 (by decide) d_M_calls_148 ?_
        refine lv_iload_n hx hb d_M_calls_151 rfl (lv_at hl 1 rfl) ?_
        refine lv_aload_n hx hb d_M_calls_152 rfl (lv_at hl 0 rfl) ?_
        refine lv_aload_n hx hb d_M_calls_153 rfl (lv_at hl 0 rfl) ?_
        refine ug_R hx hb ht hown hM hK hP 25 (by decide) lk_M_25 (by decide) d_M_calls_154 ?_
        refine lv_iload_n hx hb d_M_calls_157 rfl (lv_at hl 1 rfl) ?_
        obtain ⟨hi9, hf⟩ := ck_some hf
        refine ul_I hx hb hK hP (by decide) (by decide) hi9 d_M_calls_158 ?_
        refine lv_aload_n hx hb d_M_calls_159 rfl (lv_at hl 0 rfl) ?_
        refine ug_R hx hb ht hown hM hK hP 26 (by decide) lk_M_26 (by decide) d_M_calls_160 ?_
        refine lv_iload_n hx hb d_M_calls_163 rfl (lv_at hl 1 rfl) ?_
        obtain ⟨hi9, hf⟩ := ck_some hf
        refine ul_I hx hb hK hP (by decide) (by decide) hi9 d_M_calls_164 ?_
        obtain ⟨u3, r3, hc3, hf⟩ := bnd_some hf
        refine mV_i (As := [.int (u.2.2.1 25 v1.toNatClampNeg), .int (u.2.2.1 26 v1.toNatClampNeg)]) (rest := [.int v1, .ref (ad 27)]) C0 hP hD hS (c_M_functionOf N hM hc3) k_M_functionOf hl_M_functionOf hi_M_functionOf hs_M_functionOf hini_M rfl rfl hd_M_functionOf rfl (rm_M_calls_M_functionOf hR) hl.1 (Nat.le_of_ble_eq_true rfl) d_M_calls_165 rfl ⟨Nat.zero_le _, Nat.zero_le _⟩ (fun H locs hP hD hS => ?_)
        obtain ⟨hi9, hf⟩ := ck_some hf
        refine us_I hx hb hK hP hD hS (by decide) (by decide) hi9 d_M_calls_168 (fun H locs hP hD hS => ?_)
        obtain ⟨w4, e4, hf⟩ := lt_some hf
        rw [← e4] at hP hD
        refine lv_aload_n hx hb d_M_calls_169 rfl (lv_at hl 0 rfl) ?_
        refine ug_R hx hb ht hown hM hK hP 27 (by decide) lk_M_27 (by decide) d_M_calls_170 ?_
        refine lv_iload_n hx hb d_M_calls_173 rfl (lv_at hl 1 rfl) ?_
        obtain ⟨hi9, hf⟩ := ck_some hf
        refine ul_I hx hb hK hP (by decide) (by decide) hi9 d_M_calls_174 ?_
        refine lv_iconst (v := (-1)) hx hb d_M_calls_175 (by decide) ?_
        refine lv_icmp_ne (tgt := 191) hx hb d_M_calls_176 (by decide) (fun hc => ?_) (fun hc => ?_)
        · rw [br_n _ hc] at hf
          exact wb_M_calls_191 C0 hR N G hG _ _ _ hf H locs hP hD hS ls (lv_sub hl [0, 1] rfl)
        · rw [br_p _ hc] at hf
          refine lv_aload_n hx hb d_M_calls_179 rfl (lv_at hl 0 rfl) ?_
          refine lv_bipush (v := 6) hx hb d_M_calls_180 (by decide) ?_
          refine lv_aload_n hx hb d_M_calls_182 rfl (lv_at hl 0 rfl) ?_
          refine ug_R hx hb ht hown hM hK hP 24 (by decide) lk_M_24 (by decide) d_M_calls_183 ?_
          refine lv_iload_n hx hb d_M_calls_186 rfl (lv_at hl 1 rfl) ?_
          obtain ⟨hi9, hf⟩ := ck_some hf
          refine ul_S hx hb hK hP (by decide) (by decide) hi9 d_M_calls_187 ?_
          obtain ⟨u5, r5, hc5, hf⟩ := bnd_some hf
          refine mV_v (As := [.int 6, .int (w4.2.2.1 24 v1.toNatClampNeg)]) (rest := []) C0 hP hD hS (c_M_rule N hM hc5) k_M_rule hl_M_rule hi_M_rule hs_M_rule hini_M rfl rfl hd_M_rule rfl (rm_M_calls_M_rule hR) hl.1 (Nat.le_of_ble_eq_true rfl) d_M_calls_188 rfl ⟨Nat.zero_le _, Nat.zero_le _⟩ (fun H locs hP hD hS => ?_)
          exact wb_M_calls_191 C0 hR N G hG _ _ _ hf H locs hP hD hS ls (lv_sub hl [0, 1] rfl)
    · rw [br_p _ hc] at hf
      refine lv_aload_n hx hb d_M_calls_21 rfl (lv_at hl 0 rfl) ?_
      refine lv_aload_n hx hb d_M_calls_22 rfl (lv_at hl 0 rfl) ?_
      refine ug_R hx hb ht hown hM hK hP 25 (by decide) lk_M_25 (by decide) d_M_calls_23 ?_
      refine lv_iload_n hx hb d_M_calls_26 rfl (lv_at hl 1 rfl) ?_
      obtain ⟨hi9, hf⟩ := ck_some hf
      refine ul_I hx hb hK hP (by decide) (by decide) hi9 d_M_calls_27 ?_
      refine lv_aload_n hx hb d_M_calls_28 rfl (lv_at hl 0 rfl) ?_
      refine ug_R hx hb ht hown hM hK hP 26 (by decide) lk_M_26 (by decide) d_M_calls_29 ?_
      refine lv_iload_n hx hb d_M_calls_32 rfl (lv_at hl 1 rfl) ?_
      obtain ⟨hi9, hf⟩ := ck_some hf
      refine ul_I hx hb hK hP (by decide) (by decide) hi9 d_M_calls_33 ?_
      obtain ⟨u6, r6, hc6, hf⟩ := bnd_some hf
      refine mV_i (As := [.int (u.2.2.1 25 v1.toNatClampNeg), .int (u.2.2.1 26 v1.toNatClampNeg)]) (rest := []) C0 hP hD hS (c_M_functionOf N hM hc6) k_M_functionOf hl_M_functionOf hi_M_functionOf hs_M_functionOf hini_M rfl rfl hd_M_functionOf rfl (rm_M_calls_M_functionOf hR) hl.1 (Nat.le_of_ble_eq_true rfl) d_M_calls_34 rfl ⟨Nat.zero_le _, Nat.zero_le _⟩ (fun H locs hP hD hS => ?_)
      refine lv_istore_n (lv' := [(2, .int r6), (0, .ref h0), (1, .int v1)]) hx hb d_M_calls_37 rfl hl (by decide) rfl (fun ls hl => ?_)
      refine lv_aload_n hx hb d_M_calls_38 rfl (lv_at hl 1 rfl) ?_
      refine lv_aload_n hx hb d_M_calls_39 rfl (lv_at hl 1 rfl) ?_
      refine ug_R hx hb ht hown hM hK hP 25 (by decide) lk_M_25 (by decide) d_M_calls_40 ?_
      refine lv_iload_n hx hb d_M_calls_43 rfl (lv_at hl 2 rfl) ?_
      obtain ⟨hi9, hf⟩ := ck_some hf
      refine ul_I hx hb hK hP (by decide) (by decide) hi9 d_M_calls_44 ?_
      refine lv_aload_n hx hb d_M_calls_45 rfl (lv_at hl 1 rfl) ?_
      refine ug_R hx hb ht hown hM hK hP 26 (by decide) lk_M_26 (by decide) d_M_calls_46 ?_
      refine lv_iload_n hx hb d_M_calls_49 rfl (lv_at hl 2 rfl) ?_
      obtain ⟨hi9, hf⟩ := ck_some hf
      refine ul_I hx hb hK hP (by decide) (by decide) hi9 d_M_calls_50 ?_
      obtain ⟨u7, r7, hc7, hf⟩ := bnd_some hf
      refine mV_i (As := [.int (u6.2.2.1 25 v1.toNatClampNeg), .int (u6.2.2.1 26 v1.toNatClampNeg)]) (rest := []) C0 hP hD hS (c_M_predefinedOf N hM hc7) k_M_predefinedOf hl_M_predefinedOf hi_M_predefinedOf hs_M_predefinedOf hini_M rfl rfl hd_M_predefinedOf rfl (rm_M_calls_M_predefinedOf hR) hl.1 (Nat.le_of_ble_eq_true rfl) d_M_calls_51 rfl ⟨Nat.zero_le _, Nat.zero_le _⟩ (fun H locs hP hD hS => ?_)
      refine lv_istore_n (lv' := [(3, .int r7), (2, .int r6), (0, .ref h0), (1, .int v1)]) hx hb d_M_calls_54 rfl hl (by decide) rfl (fun ls hl => ?_)
      refine lv_iload_n hx hb d_M_calls_55 rfl (lv_at hl 1 rfl) ?_
      refine lv_iconst (v := (-1)) hx hb d_M_calls_56 (by decide) ?_
      refine lv_icmp_ne (tgt := 80) hx hb d_M_calls_57 (by decide) (fun hc => ?_) (fun hc => ?_)
      · rw [br_n _ hc] at hf
        exact wb_M_calls_80 C0 hR N G hG _ _ _ _ _ hf H locs hP hD hS ls (lv_sub hl [2, 3, 1, 0] rfl)
      · rw [br_p _ hc] at hf
        refine lv_iload_n hx hb d_M_calls_60 rfl (lv_at hl 0 rfl) ?_
        refine lv_iconst (v := (-1)) hx hb d_M_calls_61 (by decide) ?_
        refine lv_icmp_ne (tgt := 80) hx hb d_M_calls_62 (by decide) (fun hc => ?_) (fun hc => ?_)
        · rw [br_n _ hc] at hf
          exact wb_M_calls_80 C0 hR N G hG _ _ _ _ _ hf H locs hP hD hS ls (lv_sub hl [2, 3, 1, 0] rfl)
        · rw [br_p _ hc] at hf
          refine lv_aload_n hx hb d_M_calls_65 rfl (lv_at hl 2 rfl) ?_
          refine lv_bipush (v := 6) hx hb d_M_calls_66 (by decide) ?_
          refine lv_aload_n hx hb d_M_calls_68 rfl (lv_at hl 2 rfl) ?_
          refine ug_R hx hb ht hown hM hK hP 24 (by decide) lk_M_24 (by decide) d_M_calls_69 ?_
          refine lv_iload_n hx hb d_M_calls_72 rfl (lv_at hl 3 rfl) ?_
          obtain ⟨hi9, hf⟩ := ck_some hf
          refine ul_S hx hb hK hP (by decide) (by decide) hi9 d_M_calls_73 ?_
          obtain ⟨u8, r8, hc8, hf⟩ := bnd_some hf
          refine mV_v (As := [.int 6, .int (u7.2.2.1 24 v1.toNatClampNeg)]) (rest := []) C0 hP hD hS (c_M_rule N hM hc8) k_M_rule hl_M_rule hi_M_rule hs_M_rule hini_M rfl rfl hd_M_rule rfl (rm_M_calls_M_rule hR) hl.1 (Nat.le_of_ble_eq_true rfl) d_M_calls_74 rfl ⟨Nat.zero_le _, Nat.zero_le _⟩ (fun H locs hP hD hS => ?_)
          refine lv_goto (tgt := 113) hx hb d_M_calls_77 (by decide) ?_
          exact wb_M_calls_113 C0 hR N G hG _ _ _ _ _ hf H locs hP hD hS ls (lv_sub hl [2, 3, 1, 0] rfl)
def fb_M_calls_0 (N : Nat) (G : (MS → Int32 → Option (MS × Unit))) (u : MS) : Option (MS × Unit) := G u (0)
set_option maxRecDepth 100000 in
set_option maxHeartbeats 4000000 in
theorem wb_M_calls_0 {p : Program} {l : Launch} {e : Env} {R : Room} {s : State} {m : MethodId} {args : Array Value} {below : List Frame} {meth : Method} {c : Code} {D : va_G} {cl : List vw_C} {cB cI cJ cZ cS : ClassId} {A : Nat → Prop} {iM h0 : Nat} {ad : Nat → Nat} (C0 : MCx p s m args meth c b_M_calls 4 none D cl cB cI cJ cZ cS iM A) (hR : R = rm_M_calls) (N : Nat) (G : (MS → Int32 → Option (MS × Unit))) (hG : (∀ (u : MS) (v1 : Int32) (x : MS × Unit), G u v1 = some x → ∀ (H : Heap) (locs : List Loc), va_P D cl (wM cB cI cJ cZ cS iM h0 ad u) H → va_D A (wM cB cI cJ cZ cS iM h0 ad u) → va_S A s.heap H locs → ∀ (ls : Array Slot), lv_has ls 4 [(0, .ref h0), (1, .int v1)] → W p l e R s m args below meth c H locs 0 0 (MQ below (mQv D cl cB cI cJ cZ cS iM h0 ad A x) args s 0 0 A) (F0 m 2 ls []))) : ∀ (u : MS) (x : MS × Unit), fb_M_calls_0 N G u = some x → ∀ (H : Heap) (locs : List Loc), va_P D cl (wM cB cI cJ cZ cS iM h0 ad u) H → va_D A (wM cB cI cJ cZ cS iM h0 ad u) → va_S A s.heap H locs → ∀ (ls : Array Slot), lv_has ls 4 [(0, .ref h0)] → W p l e R s m args below meth c H locs 0 0 (MQ below (mQv D cl cB cI cJ cZ cS iM h0 ad A x) args s 0 0 A) (F0 m 0 ls []) := by
  intro u x hf H locs hP hD hS ls hl
  obtain ⟨hx, hb, hr, hml, ht, hown, hM, hK, hA, hlocks⟩ := id C0
  unfold fb_M_calls_0 at hf
  refine lv_iconst (v := 0) hx hb d_M_calls_0 (by decide) ?_
  refine lv_istore_n (lv' := [(1, .int 0), (0, .ref h0)]) hx hb d_M_calls_1 rfl hl (by decide) rfl (fun ls hl => ?_)
  exact hG _ _ _ hf H locs hP hD hS ls (lv_sub hl [1, 0] rfl)
def gg_M_calls (N : Nat) : Nat → ((MS → Int32 → Option (MS × Unit)))
  | 0 => fun _ _ => none
  | n + 1 => fb_M_calls_2 N (gg_M_calls N n)
theorem wg_M_calls {p : Program} {l : Launch} {e : Env} {R : Room} {s : State} {m : MethodId} {args : Array Value} {below : List Frame} {meth : Method} {c : Code} {D : va_G} {cl : List vw_C} {cB cI cJ cZ cS : ClassId} {A : Nat → Prop} {iM h0 : Nat} {ad : Nat → Nat} (C0 : MCx p s m args meth c b_M_calls 4 none D cl cB cI cJ cZ cS iM A) (hR : R = rm_M_calls) (N : Nat) : ∀ n : Nat, (∀ (u : MS) (v1 : Int32) (x : MS × Unit), gg_M_calls N n u v1 = some x → ∀ (H : Heap) (locs : List Loc), va_P D cl (wM cB cI cJ cZ cS iM h0 ad u) H → va_D A (wM cB cI cJ cZ cS iM h0 ad u) → va_S A s.heap H locs → ∀ (ls : Array Slot), lv_has ls 4 [(0, .ref h0), (1, .int v1)] → W p l e R s m args below meth c H locs 0 0 (MQ below (mQv D cl cB cI cJ cZ cS iM h0 ad A x) args s 0 0 A) (F0 m 2 ls []))
  | 0 => (fun u v1 x hf => by cases hf)
  | n + 1 => wb_M_calls_2 C0 hR N (gg_M_calls N n) (wg_M_calls C0 hR N n)
def fm_M_calls (N : Nat) (u : MS) : Option (MS × Unit) := fb_M_calls_0 N (gg_M_calls N N) u
set_option maxRecDepth 100000 in
set_option maxHeartbeats 4000000 in
theorem c_M_calls (N : Nat) {l : Launch} {D : va_G} {cl : List vw_C} {cB cI cJ cZ cS : ClassId} {iM h0 : Nat} {ad : Nat → Nat} {u : MS} {sz : Nat} {x : MS × Unit} (hM : cl[iM]? = some (R_M, F_M, 171)) (hf : fm_M_calls N u = some x) : Met l y_M_calls (wd_ws y_M_calls b_M_calls 4 none) rm_M_calls (mPc D cl cB cI cJ cZ cS iM h0 ad u sz [.ref h0]) (mQv D cl cB cI cJ cZ cS iM h0 ad (mA cB cI cJ cZ cS iM h0 ad u sz) x) 0 0 (mA cB cI cJ cZ cS iM h0 ad u sz) :=
  mMet (by decide) rfl hM (Nat.le_of_ble_eq_true rfl) (fun p e s m below meth c ls hsz C0 hP hD hS hl => by
    have hR : rm_M_calls = rm_M_calls := rfl
    exact wb_M_calls_0 C0 hR N (gg_M_calls N N) (wg_M_calls C0 hR N N) u x hf s.heap [] hP hD hS ls (lv_sub hl [0] rfl))
abbrev b_M_read : ByteArray := prog_14_method_74_code
def y_M_read : MethodName := ⟨R_M, "read", "()I"⟩
def w_M_read : List Cond := wd_ws y_M_read b_M_read 1 (some .int)
set_option maxRecDepth 100000 in
theorem k_M_read : Cond.code y_M_read b_M_read 1 (some .int) ∈ wd_tbl := wd_of 2633 rfl rfl
theorem d_M_read_0 : decode b_M_read 0 = .ok (.aload_n 0, 1) := by decide +kernel
theorem d_M_read_1 : decode b_M_read 1 = .ok (.iconst 0, 1) := by decide +kernel
theorem d_M_read_2 : decode b_M_read 2 = .ok (.putfield 369, 3) := by decide +kernel
theorem d_M_read_5 : decode b_M_read 5 = .ok (.aload_n 0, 1) := by decide +kernel
theorem d_M_read_6 : decode b_M_read 6 = .ok (.iconst 0, 1) := by decide +kernel
theorem d_M_read_7 : decode b_M_read 7 = .ok (.putfield 654, 3) := by decide +kernel
theorem d_M_read_10 : decode b_M_read 10 = .ok (.aload_n 0, 1) := by decide +kernel
theorem d_M_read_11 : decode b_M_read 11 = .ok (.iconst 0, 1) := by decide +kernel
theorem d_M_read_12 : decode b_M_read 12 = .ok (.putfield 657, 3) := by decide +kernel
theorem d_M_read_15 : decode b_M_read 15 = .ok (.aload_n 0, 1) := by decide +kernel
theorem d_M_read_16 : decode b_M_read 16 = .ok (.iconst 0, 1) := by decide +kernel
theorem d_M_read_17 : decode b_M_read 17 = .ok (.putfield 454, 3) := by decide +kernel
theorem d_M_read_20 : decode b_M_read 20 = .ok (.aload_n 0, 1) := by decide +kernel
theorem d_M_read_21 : decode b_M_read 21 = .ok (.iconst 0, 1) := by decide +kernel
theorem d_M_read_22 : decode b_M_read 22 = .ok (.putfield 463, 3) := by decide +kernel
theorem d_M_read_25 : decode b_M_read 25 = .ok (.aload_n 0, 1) := by decide +kernel
theorem d_M_read_26 : decode b_M_read 26 = .ok (.iconst 0, 1) := by decide +kernel
theorem d_M_read_27 : decode b_M_read 27 = .ok (.putfield 466, 3) := by decide +kernel
theorem d_M_read_30 : decode b_M_read 30 = .ok (.aload_n 0, 1) := by decide +kernel
theorem d_M_read_31 : decode b_M_read 31 = .ok (.iconst 0, 1) := by decide +kernel
theorem d_M_read_32 : decode b_M_read 32 = .ok (.putfield 610, 3) := by decide +kernel
theorem d_M_read_35 : decode b_M_read 35 = .ok (.aload_n 0, 1) := by decide +kernel
theorem d_M_read_36 : decode b_M_read 36 = .ok (.iconst 0, 1) := by decide +kernel
theorem d_M_read_37 : decode b_M_read 37 = .ok (.putfield 586, 3) := by decide +kernel
theorem d_M_read_40 : decode b_M_read 40 = .ok (.aload_n 0, 1) := by decide +kernel
theorem d_M_read_41 : decode b_M_read 41 = .ok (.iconst 0, 1) := by decide +kernel
theorem d_M_read_42 : decode b_M_read 42 = .ok (.putfield 589, 3) := by decide +kernel
theorem d_M_read_45 : decode b_M_read 45 = .ok (.aload_n 0, 1) := by decide +kernel
theorem d_M_read_46 : decode b_M_read 46 = .ok (.iconst 0, 1) := by decide +kernel
theorem d_M_read_47 : decode b_M_read 47 = .ok (.putfield 493, 3) := by decide +kernel
theorem d_M_read_50 : decode b_M_read 50 = .ok (.aload_n 0, 1) := by decide +kernel
theorem d_M_read_51 : decode b_M_read 51 = .ok (.getfield 153, 3) := by decide +kernel
theorem d_M_read_54 : decode b_M_read 54 = .ok (.iconst 0, 1) := by decide +kernel
theorem d_M_read_55 : decode b_M_read 55 = .ok (.iconst 0, 1) := by decide +kernel
theorem d_M_read_56 : decode b_M_read 56 = .ok (.iastore, 1) := by decide +kernel
theorem d_M_read_57 : decode b_M_read 57 = .ok (.aload_n 0, 1) := by decide +kernel
theorem d_M_read_58 : decode b_M_read 58 = .ok (.getfield 162, 3) := by decide +kernel
theorem d_M_read_61 : decode b_M_read 61 = .ok (.iconst 0, 1) := by decide +kernel
theorem d_M_read_62 : decode b_M_read 62 = .ok (.iconst 0, 1) := by decide +kernel
theorem d_M_read_63 : decode b_M_read 63 = .ok (.iastore, 1) := by decide +kernel
theorem d_M_read_64 : decode b_M_read 64 = .ok (.aload_n 0, 1) := by decide +kernel
theorem d_M_read_65 : decode b_M_read 65 = .ok (.invokevirtual 660, 3) := by decide +kernel
theorem d_M_read_68 : decode b_M_read 68 = .ok (.aload_n 0, 1) := by decide +kernel
theorem d_M_read_69 : decode b_M_read 69 = .ok (.invokevirtual 663, 3) := by decide +kernel
theorem d_M_read_72 : decode b_M_read 72 = .ok (.aload_n 0, 1) := by decide +kernel
theorem d_M_read_73 : decode b_M_read 73 = .ok (.iconst 0, 1) := by decide +kernel
theorem d_M_read_74 : decode b_M_read 74 = .ok (.putfield 372, 3) := by decide +kernel
theorem d_M_read_77 : decode b_M_read 77 = .ok (.aload_n 0, 1) := by decide +kernel
theorem d_M_read_78 : decode b_M_read 78 = .ok (.getfield 454, 3) := by decide +kernel
theorem d_M_read_81 : decode b_M_read 81 = .ok (.ifCond .eq 16, 3) := by decide +kernel
theorem d_M_read_84 : decode b_M_read 84 = .ok (.aload_n 0, 1) := by decide +kernel
theorem d_M_read_85 : decode b_M_read 85 = .ok (.getfield 454, 3) := by decide +kernel
theorem d_M_read_88 : decode b_M_read 88 = .ok (.bipush 16, 2) := by decide +kernel
theorem d_M_read_90 : decode b_M_read 90 = .ok (.aload_n 0, 1) := by decide +kernel
theorem d_M_read_91 : decode b_M_read 91 = .ok (.getfield 460, 3) := by decide +kernel
theorem d_M_read_94 : decode b_M_read 94 = .ok (.imul, 1) := by decide +kernel
theorem d_M_read_95 : decode b_M_read 95 = .ok (.iadd, 1) := by decide +kernel
theorem d_M_read_96 : decode b_M_read 96 = .ok (.ireturn, 1) := by decide +kernel
theorem d_M_read_97 : decode b_M_read 97 = .ok (.aload_n 0, 1) := by decide +kernel
theorem d_M_read_98 : decode b_M_read 98 = .ok (.invokevirtual 666, 3) := by decide +kernel
theorem d_M_read_101 : decode b_M_read 101 = .ok (.aload_n 0, 1) := by decide +kernel
theorem d_M_read_102 : decode b_M_read 102 = .ok (.getfield 463, 3) := by decide +kernel
theorem d_M_read_105 : decode b_M_read 105 = .ok (.ifCond .eq 21, 3) := by decide +kernel
theorem d_M_read_108 : decode b_M_read 108 = .ok (.aload_n 0, 1) := by decide +kernel
theorem d_M_read_109 : decode b_M_read 109 = .ok (.getfield 463, 3) := by decide +kernel
theorem d_M_read_112 : decode b_M_read 112 = .ok (.bipush 16, 2) := by decide +kernel
theorem d_M_read_114 : decode b_M_read 114 = .ok (.aload_n 0, 1) := by decide +kernel
theorem d_M_read_115 : decode b_M_read 115 = .ok (.getfield 29, 3) := by decide +kernel
theorem d_M_read_118 : decode b_M_read 118 = .ok (.aload_n 0, 1) := by decide +kernel
theorem d_M_read_119 : decode b_M_read 119 = .ok (.getfield 466, 3) := by decide +kernel
theorem d_M_read_122 : decode b_M_read 122 = .ok (.iaload, 1) := by decide +kernel
theorem d_M_read_123 : decode b_M_read 123 = .ok (.imul, 1) := by decide +kernel
theorem d_M_read_124 : decode b_M_read 124 = .ok (.iadd, 1) := by decide +kernel
theorem d_M_read_125 : decode b_M_read 125 = .ok (.ireturn, 1) := by decide +kernel
theorem d_M_read_126 : decode b_M_read 126 = .ok (.aload_n 0, 1) := by decide +kernel
theorem d_M_read_127 : decode b_M_read 127 = .ok (.getfield 496, 3) := by decide +kernel
theorem d_M_read_130 : decode b_M_read 130 = .ok (.ifCond .ne 32, 3) := by decide +kernel
theorem d_M_read_133 : decode b_M_read 133 = .ok (.aload_n 0, 1) := by decide +kernel
theorem d_M_read_134 : decode b_M_read 134 = .ok (.getfield 508, 3) := by decide +kernel
theorem d_M_read_137 : decode b_M_read 137 = .ok (.bipush 60, 2) := by decide +kernel
theorem d_M_read_139 : decode b_M_read 139 = .ok (.if_icmp .gt 23, 3) := by decide +kernel
theorem d_M_read_142 : decode b_M_read 142 = .ok (.aload_n 0, 1) := by decide +kernel
theorem d_M_read_143 : decode b_M_read 143 = .ok (.getfield 385, 3) := by decide +kernel
theorem d_M_read_146 : decode b_M_read 146 = .ok (.sipush 200, 3) := by decide +kernel
theorem d_M_read_149 : decode b_M_read 149 = .ok (.if_icmp .gt 13, 3) := by decide +kernel
theorem d_M_read_152 : decode b_M_read 152 = .ok (.aload_n 0, 1) := by decide +kernel
theorem d_M_read_153 : decode b_M_read 153 = .ok (.getfield 402, 3) := by decide +kernel
theorem d_M_read_156 : decode b_M_read 156 = .ok (.sipush 1500, 3) := by decide +kernel
theorem d_M_read_159 : decode b_M_read 159 = .ok (.if_icmp .le 6, 3) := by decide +kernel
theorem d_M_read_162 : decode b_M_read 162 = .ok (.bipush 8, 2) := by decide +kernel
theorem d_M_read_164 : decode b_M_read 164 = .ok (.ireturn, 1) := by decide +kernel
theorem d_M_read_165 : decode b_M_read 165 = .ok (.aload_n 0, 1) := by decide +kernel
theorem d_M_read_166 : decode b_M_read 166 = .ok (.iconst 1, 1) := by decide +kernel
theorem d_M_read_167 : decode b_M_read 167 = .ok (.putfield 654, 3) := by decide +kernel
theorem d_M_read_170 : decode b_M_read 170 = .ok (.iconst 0, 1) := by decide +kernel
theorem d_M_read_171 : decode b_M_read 171 = .ok (.ireturn, 1) := by decide +kernel
def rm_M_read : Room := { frames := 397, cells := 0, slots := 0, locals := 11265 }
theorem rm_M_read_M_readTokens {R : Room} (hR : R = rm_M_read) : (rm_M_readTokens).frames + 1 ≤ R.frames ∧ 8 + (2 + 11) + (rm_M_readTokens).locals ≤ R.locals := by subst hR; decide
theorem rm_M_read_M_program {R : Room} (hR : R = rm_M_read) : (rm_M_program).frames + 1 ≤ R.frames ∧ 8 + (2 + 11) + (rm_M_program).locals ≤ R.locals := by subst hR; decide
theorem rm_M_read_M_calls {R : Room} (hR : R = rm_M_read) : (rm_M_calls).frames + 1 ≤ R.frames ∧ 8 + (4 + 11) + (rm_M_calls).locals ≤ R.locals := by subst hR; decide
def fb_M_read_162 (N : Nat) (G : Unit) (u : MS) : Option (MS × Int32) := some (u, 8)
set_option maxRecDepth 100000 in
set_option maxHeartbeats 4000000 in
theorem wb_M_read_162 {p : Program} {l : Launch} {e : Env} {R : Room} {s : State} {m : MethodId} {args : Array Value} {below : List Frame} {meth : Method} {c : Code} {D : va_G} {cl : List vw_C} {cB cI cJ cZ cS : ClassId} {A : Nat → Prop} {iM h0 : Nat} {ad : Nat → Nat} (C0 : MCx p s m args meth c b_M_read 1 (some .int) D cl cB cI cJ cZ cS iM A) (hR : R = rm_M_read) (N : Nat) (G : Unit) (hG : True) : ∀ (u : MS) (x : MS × Int32), fb_M_read_162 N G u = some x → ∀ (H : Heap) (locs : List Loc), va_P D cl (wM cB cI cJ cZ cS iM h0 ad u) H → va_D A (wM cB cI cJ cZ cS iM h0 ad u) → va_S A s.heap H locs → ∀ (ls : Array Slot), lv_has ls 1 [] → W p l e R s m args below meth c H locs 0 0 (MQ below (mQi D cl cB cI cJ cZ cS iM h0 ad A x) args s 0 0 A) (F0 m 162 ls []) := by
  intro u x hf H locs hP hD hS ls hl
  obtain ⟨hx, hb, hr, hml, ht, hown, hM, hK, hA, hlocks⟩ := id C0
  unfold fb_M_read_162 at hf
  refine lv_bipush (v := 8) hx hb d_M_read_162 (by decide) ?_
  exact mr_i C0 hP hD hS hf d_M_read_164
def fb_M_read_0 (N : Nat) (G : Unit) (u : MS) : Option (MS × Int32) := lt (upI u 3 0) (fun w1 => lt (upI w1 86 0) (fun w2 => lt (upI w2 87 0) (fun w3 => lt (upI w3 67 0) (fun w4 => lt (upI w4 72 0) (fun w5 => lt (upI w5 71 0) (fun w6 => lt (upI w6 83 0) (fun w7 => lt (upI w7 75 0) (fun w8 => lt (upI w8 77 0) (fun w9 => lt (upI w9 65 0) (fun w10 => ck (inb (0 : Int32) (ln 60)) (lt (upA w10 60 (upd (w10.2.2.1 60) (0 : Int32).toNatClampNeg 0)) (fun w11 => ck (inb (0 : Int32) (ln 63)) (lt (upA w11 63 (upd (w11.2.2.1 63) (0 : Int32).toNatClampNeg 0)) (fun w12 => bnd (fm_M_readTokens N w12) (fun u13 _ => bnd (fm_M_program N u13) (fun u14 _ => lt (upI u14 5 0) (fun w15 => br (decide ((w15.1 67) = 0)) (bnd (fm_M_calls N w15) (fun u16 _ => br (decide ((u16.1 72) = 0)) (br (decide ((u16.1 66) = 0)) (br (decide (60 < (u16.1 52))) (fb_M_read_162 N G u16) (br (decide (200 < (u16.1 14))) (fb_M_read_162 N G u16) (br (decide ((u16.1 9) ≤ 1500)) (lt (upI u16 86 1) (fun w17 => some (w17, 0))) (fb_M_read_162 N G u16)))) (fb_M_read_162 N G u16)) (ck (inb (u16.1 71) (ln 8)) (some (u16, ((u16.1 72) + (16 * (u16.2.2.1 8 (u16.1 71).toNatClampNeg)))))))) (some (w15, ((w15.1 67) + (16 * (w15.1 68))))))))))))))))))))))
set_option maxRecDepth 100000 in
set_option maxHeartbeats 4000000 in
theorem wb_M_read_0 {p : Program} {l : Launch} {e : Env} {R : Room} {s : State} {m : MethodId} {args : Array Value} {below : List Frame} {meth : Method} {c : Code} {D : va_G} {cl : List vw_C} {cB cI cJ cZ cS : ClassId} {A : Nat → Prop} {iM h0 : Nat} {ad : Nat → Nat} (C0 : MCx p s m args meth c b_M_read 1 (some .int) D cl cB cI cJ cZ cS iM A) (hR : R = rm_M_read) (N : Nat) (G : Unit) (hG : True) : ∀ (u : MS) (x : MS × Int32), fb_M_read_0 N G u = some x → ∀ (H : Heap) (locs : List Loc), va_P D cl (wM cB cI cJ cZ cS iM h0 ad u) H → va_D A (wM cB cI cJ cZ cS iM h0 ad u) → va_S A s.heap H locs → ∀ (ls : Array Slot), lv_has ls 1 [(0, .ref h0)] → W p l e R s m args below meth c H locs 0 0 (MQ below (mQi D cl cB cI cJ cZ cS iM h0 ad A x) args s 0 0 A) (F0 m 0 ls []) := by
  intro u x hf H locs hP hD hS ls hl
  obtain ⟨hx, hb, hr, hml, ht, hown, hM, hK, hA, hlocks⟩ := id C0
  unfold fb_M_read_0 at hf
  refine lv_aload_n hx hb d_M_read_0 rfl (lv_at hl 0 rfl) ?_
  refine lv_iconst (v := 0) hx hb d_M_read_1 (by decide) ?_
  refine up_I hx hb ht hown hM hK hP hD hS 3 (by decide) lk_M_3 (by decide) rfl rfl rfl d_M_read_2 (fun H locs hP hD hS => ?_)
  obtain ⟨w1, e1, hf⟩ := lt_some hf
  rw [← e1] at hP hD
  refine lv_aload_n hx hb d_M_read_5 rfl (lv_at hl 0 rfl) ?_
  refine lv_iconst (v := 0) hx hb d_M_read_6 (by decide) ?_
  refine up_I hx hb ht hown hM hK hP hD hS 86 (by decide) lk_M_86 (by decide) rfl rfl rfl d_M_read_7 (fun H locs hP hD hS => ?_)
  obtain ⟨w2, e2, hf⟩ := lt_some hf
  rw [← e2] at hP hD
  refine lv_aload_n hx hb d_M_read_10 rfl (lv_at hl 0 rfl) ?_
  refine lv_iconst (v := 0) hx hb d_M_read_11 (by decide) ?_
  refine up_I hx hb ht hown hM hK hP hD hS 87 (by decide) lk_M_87 (by decide) rfl rfl rfl d_M_read_12 (fun H locs hP hD hS => ?_)
  obtain ⟨w3, e3, hf⟩ := lt_some hf
  rw [← e3] at hP hD
  refine lv_aload_n hx hb d_M_read_15 rfl (lv_at hl 0 rfl) ?_
  refine lv_iconst (v := 0) hx hb d_M_read_16 (by decide) ?_
  refine up_I hx hb ht hown hM hK hP hD hS 67 (by decide) lk_M_67 (by decide) rfl rfl rfl d_M_read_17 (fun H locs hP hD hS => ?_)
  obtain ⟨w4, e4, hf⟩ := lt_some hf
  rw [← e4] at hP hD
  refine lv_aload_n hx hb d_M_read_20 rfl (lv_at hl 0 rfl) ?_
  refine lv_iconst (v := 0) hx hb d_M_read_21 (by decide) ?_
  refine up_I hx hb ht hown hM hK hP hD hS 72 (by decide) lk_M_72 (by decide) rfl rfl rfl d_M_read_22 (fun H locs hP hD hS => ?_)
  obtain ⟨w5, e5, hf⟩ := lt_some hf
  rw [← e5] at hP hD
  refine lv_aload_n hx hb d_M_read_25 rfl (lv_at hl 0 rfl) ?_
  refine lv_iconst (v := 0) hx hb d_M_read_26 (by decide) ?_
  refine up_I hx hb ht hown hM hK hP hD hS 71 (by decide) lk_M_71 (by decide) rfl rfl rfl d_M_read_27 (fun H locs hP hD hS => ?_)
  obtain ⟨w6, e6, hf⟩ := lt_some hf
  rw [← e6] at hP hD
  refine lv_aload_n hx hb d_M_read_30 rfl (lv_at hl 0 rfl) ?_
  refine lv_iconst (v := 0) hx hb d_M_read_31 (by decide) ?_
  refine up_I hx hb ht hown hM hK hP hD hS 83 (by decide) lk_M_83 (by decide) rfl rfl rfl d_M_read_32 (fun H locs hP hD hS => ?_)
  obtain ⟨w7, e7, hf⟩ := lt_some hf
  rw [← e7] at hP hD
  refine lv_aload_n hx hb d_M_read_35 rfl (lv_at hl 0 rfl) ?_
  refine lv_iconst (v := 0) hx hb d_M_read_36 (by decide) ?_
  refine up_I hx hb ht hown hM hK hP hD hS 75 (by decide) lk_M_75 (by decide) rfl rfl rfl d_M_read_37 (fun H locs hP hD hS => ?_)
  obtain ⟨w8, e8, hf⟩ := lt_some hf
  rw [← e8] at hP hD
  refine lv_aload_n hx hb d_M_read_40 rfl (lv_at hl 0 rfl) ?_
  refine lv_iconst (v := 0) hx hb d_M_read_41 (by decide) ?_
  refine up_I hx hb ht hown hM hK hP hD hS 77 (by decide) lk_M_77 (by decide) rfl rfl rfl d_M_read_42 (fun H locs hP hD hS => ?_)
  obtain ⟨w9, e9, hf⟩ := lt_some hf
  rw [← e9] at hP hD
  refine lv_aload_n hx hb d_M_read_45 rfl (lv_at hl 0 rfl) ?_
  refine lv_iconst (v := 0) hx hb d_M_read_46 (by decide) ?_
  refine up_I hx hb ht hown hM hK hP hD hS 65 (by decide) lk_M_65 (by decide) rfl rfl rfl d_M_read_47 (fun H locs hP hD hS => ?_)
  obtain ⟨w10, e10, hf⟩ := lt_some hf
  rw [← e10] at hP hD
  refine lv_aload_n hx hb d_M_read_50 rfl (lv_at hl 0 rfl) ?_
  refine ug_R hx hb ht hown hM hK hP 60 (by decide) lk_M_60 (by decide) d_M_read_51 ?_
  refine lv_iconst (v := 0) hx hb d_M_read_54 (by decide) ?_
  refine lv_iconst (v := 0) hx hb d_M_read_55 (by decide) ?_
  obtain ⟨hi9, hf⟩ := ck_some hf
  refine us_I hx hb hK hP hD hS (by decide) (by decide) hi9 d_M_read_56 (fun H locs hP hD hS => ?_)
  obtain ⟨w11, e11, hf⟩ := lt_some hf
  rw [← e11] at hP hD
  refine lv_aload_n hx hb d_M_read_57 rfl (lv_at hl 0 rfl) ?_
  refine ug_R hx hb ht hown hM hK hP 63 (by decide) lk_M_63 (by decide) d_M_read_58 ?_
  refine lv_iconst (v := 0) hx hb d_M_read_61 (by decide) ?_
  refine lv_iconst (v := 0) hx hb d_M_read_62 (by decide) ?_
  obtain ⟨hi9, hf⟩ := ck_some hf
  refine us_I hx hb hK hP hD hS (by decide) (by decide) hi9 d_M_read_63 (fun H locs hP hD hS => ?_)
  obtain ⟨w12, e12, hf⟩ := lt_some hf
  rw [← e12] at hP hD
  refine lv_aload_n hx hb d_M_read_64 rfl (lv_at hl 0 rfl) ?_
  obtain ⟨u13, r13, hc13, hf⟩ := bnd_some hf
  refine mV_v (As := []) (rest := []) C0 hP hD hS (c_M_readTokens N hM hc13) k_M_readTokens hl_M_readTokens hi_M_readTokens hs_M_readTokens hini_M rfl rfl hd_M_readTokens rfl (rm_M_read_M_readTokens hR) hl.1 (Nat.le_of_ble_eq_true rfl) d_M_read_65 rfl ⟨Nat.zero_le _, Nat.zero_le _⟩ (fun H locs hP hD hS => ?_)
  refine lv_aload_n hx hb d_M_read_68 rfl (lv_at hl 0 rfl) ?_
  obtain ⟨u14, r14, hc14, hf⟩ := bnd_some hf
  refine mV_v (As := []) (rest := []) C0 hP hD hS (c_M_program N hM hc14) k_M_program hl_M_program hi_M_program hs_M_program hini_M rfl rfl hd_M_program rfl (rm_M_read_M_program hR) hl.1 (Nat.le_of_ble_eq_true rfl) d_M_read_69 rfl ⟨Nat.zero_le _, Nat.zero_le _⟩ (fun H locs hP hD hS => ?_)
  refine lv_aload_n hx hb d_M_read_72 rfl (lv_at hl 0 rfl) ?_
  refine lv_iconst (v := 0) hx hb d_M_read_73 (by decide) ?_
  refine up_I hx hb ht hown hM hK hP hD hS 5 (by decide) lk_M_5 (by decide) rfl rfl rfl d_M_read_74 (fun H locs hP hD hS => ?_)
  obtain ⟨w15, e15, hf⟩ := lt_some hf
  rw [← e15] at hP hD
  refine lv_aload_n hx hb d_M_read_77 rfl (lv_at hl 0 rfl) ?_
  refine ug_I hx hb ht hown hM hK hP 67 (by decide) lk_M_67 (by decide) d_M_read_78 ?_
  refine lv_if_eq (tgt := 97) hx hb d_M_read_81 (by decide) (fun hc => ?_) (fun hc => ?_)
  · rw [br_p _ hc] at hf
    refine lv_aload_n hx hb d_M_read_97 rfl (lv_at hl 0 rfl) ?_
    obtain ⟨u16, r16, hc16, hf⟩ := bnd_some hf
    refine mV_v (As := []) (rest := []) C0 hP hD hS (c_M_calls N hM hc16) k_M_calls hl_M_calls hi_M_calls hs_M_calls hini_M rfl rfl hd_M_calls rfl (rm_M_read_M_calls hR) hl.1 (Nat.le_of_ble_eq_true rfl) d_M_read_98 rfl ⟨Nat.zero_le _, Nat.zero_le _⟩ (fun H locs hP hD hS => ?_)
    refine lv_aload_n hx hb d_M_read_101 rfl (lv_at hl 0 rfl) ?_
    refine ug_I hx hb ht hown hM hK hP 72 (by decide) lk_M_72 (by decide) d_M_read_102 ?_
    refine lv_if_eq (tgt := 126) hx hb d_M_read_105 (by decide) (fun hc => ?_) (fun hc => ?_)
    · rw [br_p _ hc] at hf
      refine lv_aload_n hx hb d_M_read_126 rfl (lv_at hl 0 rfl) ?_
      refine ug_I hx hb ht hown hM hK hP 66 (by decide) lk_M_66 (by decide) d_M_read_127 ?_
      refine lv_if_ne (tgt := 162) hx hb d_M_read_130 (by decide) (fun hc => ?_) (fun hc => ?_)
      · rw [br_n _ hc] at hf
        exact wb_M_read_162 C0 hR N G hG _ _ hf H locs hP hD hS ls (lv_sub hl [] rfl)
      · rw [br_p _ hc] at hf
        refine lv_aload_n hx hb d_M_read_133 rfl (lv_at hl 0 rfl) ?_
        refine ug_I hx hb ht hown hM hK hP 52 (by decide) lk_M_52 (by decide) d_M_read_134 ?_
        refine lv_bipush (v := 60) hx hb d_M_read_137 (by decide) ?_
        refine lv_icmp_gt (tgt := 162) hx hb d_M_read_139 (by decide) (fun hc => ?_) (fun hc => ?_)
        · rw [br_p _ hc] at hf
          exact wb_M_read_162 C0 hR N G hG _ _ hf H locs hP hD hS ls (lv_sub hl [] rfl)
        · rw [br_n _ hc] at hf
          refine lv_aload_n hx hb d_M_read_142 rfl (lv_at hl 0 rfl) ?_
          refine ug_I hx hb ht hown hM hK hP 14 (by decide) lk_M_14 (by decide) d_M_read_143 ?_
          refine lv_sipush (v := 200) hx hb d_M_read_146 (by decide) ?_
          refine lv_icmp_gt (tgt := 162) hx hb d_M_read_149 (by decide) (fun hc => ?_) (fun hc => ?_)
          · rw [br_p _ hc] at hf
            exact wb_M_read_162 C0 hR N G hG _ _ hf H locs hP hD hS ls (lv_sub hl [] rfl)
          · rw [br_n _ hc] at hf
            refine lv_aload_n hx hb d_M_read_152 rfl (lv_at hl 0 rfl) ?_
            refine ug_I hx hb ht hown hM hK hP 9 (by decide) lk_M_9 (by decide) d_M_read_153 ?_
            refine lv_sipush (v := 1500) hx hb d_M_read_156 (by decide) ?_
            refine lv_icmp_le (tgt := 165) hx hb d_M_read_159 (by decide) (fun hc => ?_) (fun hc => ?_)
            · rw [br_p _ hc] at hf
              refine lv_aload_n hx hb d_M_read_165 rfl (lv_at hl 0 rfl) ?_
              refine lv_iconst (v := 1) hx hb d_M_read_166 (by decide) ?_
              refine up_I hx hb ht hown hM hK hP hD hS 86 (by decide) lk_M_86 (by decide) rfl rfl rfl d_M_read_167 (fun H locs hP hD hS => ?_)
              obtain ⟨w17, e17, hf⟩ := lt_some hf
              rw [← e17] at hP hD
              refine lv_iconst (v := 0) hx hb d_M_read_170 (by decide) ?_
              exact mr_i C0 hP hD hS hf d_M_read_171
            · rw [br_n _ hc] at hf
              exact wb_M_read_162 C0 hR N G hG _ _ hf H locs hP hD hS ls (lv_sub hl [] rfl)
    · rw [br_n _ hc] at hf
      refine lv_aload_n hx hb d_M_read_108 rfl (lv_at hl 0 rfl) ?_
      refine ug_I hx hb ht hown hM hK hP 72 (by decide) lk_M_72 (by decide) d_M_read_109 ?_
      refine lv_bipush (v := 16) hx hb d_M_read_112 (by decide) ?_
      refine lv_aload_n hx hb d_M_read_114 rfl (lv_at hl 0 rfl) ?_
      refine ug_R hx hb ht hown hM hK hP 8 (by decide) lk_M_8 (by decide) d_M_read_115 ?_
      refine lv_aload_n hx hb d_M_read_118 rfl (lv_at hl 0 rfl) ?_
      refine ug_I hx hb ht hown hM hK hP 71 (by decide) lk_M_71 (by decide) d_M_read_119 ?_
      obtain ⟨hi9, hf⟩ := ck_some hf
      refine ul_I hx hb hK hP (by decide) (by decide) hi9 d_M_read_122 ?_
      refine lv_imul hx hb d_M_read_123 ?_
      refine lv_iadd hx hb d_M_read_124 ?_
      exact mr_i C0 hP hD hS hf d_M_read_125
  · rw [br_n _ hc] at hf
    refine lv_aload_n hx hb d_M_read_84 rfl (lv_at hl 0 rfl) ?_
    refine ug_I hx hb ht hown hM hK hP 67 (by decide) lk_M_67 (by decide) d_M_read_85 ?_
    refine lv_bipush (v := 16) hx hb d_M_read_88 (by decide) ?_
    refine lv_aload_n hx hb d_M_read_90 rfl (lv_at hl 0 rfl) ?_
    refine ug_I hx hb ht hown hM hK hP 68 (by decide) lk_M_68 (by decide) d_M_read_91 ?_
    refine lv_imul hx hb d_M_read_94 ?_
    refine lv_iadd hx hb d_M_read_95 ?_
    exact mr_i C0 hP hD hS hf d_M_read_96
def fm_M_read (N : Nat) (u : MS) : Option (MS × Int32) := fb_M_read_0 N () u
set_option maxRecDepth 100000 in
set_option maxHeartbeats 4000000 in
theorem c_M_read (N : Nat) {l : Launch} {D : va_G} {cl : List vw_C} {cB cI cJ cZ cS : ClassId} {iM h0 : Nat} {ad : Nat → Nat} {u : MS} {sz : Nat} {x : MS × Int32} (hM : cl[iM]? = some (R_M, F_M, 171)) (hf : fm_M_read N u = some x) : Met l y_M_read (wd_ws y_M_read b_M_read 1 (some .int)) rm_M_read (mPc D cl cB cI cJ cZ cS iM h0 ad u sz [.ref h0]) (mQi D cl cB cI cJ cZ cS iM h0 ad (mA cB cI cJ cZ cS iM h0 ad u sz) x) 0 0 (mA cB cI cJ cZ cS iM h0 ad u sz) :=
  mMet (by decide) rfl hM (Nat.le_of_ble_eq_true rfl) (fun p e s m below meth c ls hsz C0 hP hD hS hl => by
    have hR : rm_M_read = rm_M_read := rfl
    exact wb_M_read_0 C0 hR N () trivial u x hf s.heap [] hP hD hS ls (lv_sub hl [0] rfl))
abbrev b_M_function1 : ByteArray := prog_14_method_75_code
def y_M_function1 : MethodName := ⟨R_M, "function", "(II)I"⟩
def w_M_function1 : List Cond := wd_ws y_M_function1 b_M_function1 3 (some .int)
set_option maxRecDepth 100000 in
theorem k_M_function1 : Cond.code y_M_function1 b_M_function1 3 (some .int) ∈ wd_tbl := wd_of 2891 rfl rfl
theorem d_M_function1_0 : decode b_M_function1 0 = .ok (.aload_n 0, 1) := by decide +kernel
theorem d_M_function1_1 : decode b_M_function1 1 = .ok (.iconst 0, 1) := by decide +kernel
theorem d_M_function1_2 : decode b_M_function1 2 = .ok (.putfield 369, 3) := by decide +kernel
theorem d_M_function1_5 : decode b_M_function1 5 = .ok (.aload_n 0, 1) := by decide +kernel
theorem d_M_function1_6 : decode b_M_function1 6 = .ok (.getfield 654, 3) := by decide +kernel
theorem d_M_function1_9 : decode b_M_function1 9 = .ok (.ifCond .eq 24, 3) := by decide +kernel
theorem d_M_function1_12 : decode b_M_function1 12 = .ok (.iload_n 1, 1) := by decide +kernel
theorem d_M_function1_13 : decode b_M_function1 13 = .ok (.ifCond .lt 20, 3) := by decide +kernel
theorem d_M_function1_16 : decode b_M_function1 16 = .ok (.iload_n 1, 1) := by decide +kernel
theorem d_M_function1_17 : decode b_M_function1 17 = .ok (.aload_n 0, 1) := by decide +kernel
theorem d_M_function1_18 : decode b_M_function1 18 = .ok (.getfield 508, 3) := by decide +kernel
theorem d_M_function1_21 : decode b_M_function1 21 = .ok (.if_icmp .ge 12, 3) := by decide +kernel
theorem d_M_function1_24 : decode b_M_function1 24 = .ok (.iload_n 2, 1) := by decide +kernel
theorem d_M_function1_25 : decode b_M_function1 25 = .ok (.ifCond .lt 8, 3) := by decide +kernel
theorem d_M_function1_28 : decode b_M_function1 28 = .ok (.iload_n 2, 1) := by decide +kernel
theorem d_M_function1_29 : decode b_M_function1 29 = .ok (.iconst 3, 1) := by decide +kernel
theorem d_M_function1_30 : decode b_M_function1 30 = .ok (.if_icmp .le 5, 3) := by decide +kernel
theorem d_M_function1_33 : decode b_M_function1 33 = .ok (.iconst (-1), 1) := by decide +kernel
theorem d_M_function1_34 : decode b_M_function1 34 = .ok (.ireturn, 1) := by decide +kernel
theorem d_M_function1_35 : decode b_M_function1 35 = .ok (.iload_n 2, 1) := by decide +kernel
theorem d_M_function1_36 : decode b_M_function1 36 = .ok (.ifCond .ne 12, 3) := by decide +kernel
theorem d_M_function1_39 : decode b_M_function1 39 = .ok (.aload_n 0, 1) := by decide +kernel
theorem d_M_function1_40 : decode b_M_function1 40 = .ok (.getfield 122, 3) := by decide +kernel
theorem d_M_function1_43 : decode b_M_function1 43 = .ok (.iload_n 1, 1) := by decide +kernel
theorem d_M_function1_44 : decode b_M_function1 44 = .ok (.iaload, 1) := by decide +kernel
theorem d_M_function1_45 : decode b_M_function1 45 = .ok (.goto 42, 3) := by decide +kernel
theorem d_M_function1_48 : decode b_M_function1 48 = .ok (.iload_n 2, 1) := by decide +kernel
theorem d_M_function1_49 : decode b_M_function1 49 = .ok (.iconst 1, 1) := by decide +kernel
theorem d_M_function1_50 : decode b_M_function1 50 = .ok (.if_icmp .ne 12, 3) := by decide +kernel
theorem d_M_function1_53 : decode b_M_function1 53 = .ok (.aload_n 0, 1) := by decide +kernel
theorem d_M_function1_54 : decode b_M_function1 54 = .ok (.getfield 125, 3) := by decide +kernel
theorem d_M_function1_57 : decode b_M_function1 57 = .ok (.iload_n 1, 1) := by decide +kernel
theorem d_M_function1_58 : decode b_M_function1 58 = .ok (.iaload, 1) := by decide +kernel
theorem d_M_function1_59 : decode b_M_function1 59 = .ok (.goto 28, 3) := by decide +kernel
theorem d_M_function1_62 : decode b_M_function1 62 = .ok (.iload_n 2, 1) := by decide +kernel
theorem d_M_function1_63 : decode b_M_function1 63 = .ok (.iconst 2, 1) := by decide +kernel
theorem d_M_function1_64 : decode b_M_function1 64 = .ok (.if_icmp .ne 12, 3) := by decide +kernel
theorem d_M_function1_67 : decode b_M_function1 67 = .ok (.aload_n 0, 1) := by decide +kernel
theorem d_M_function1_68 : decode b_M_function1 68 = .ok (.getfield 134, 3) := by decide +kernel
theorem d_M_function1_71 : decode b_M_function1 71 = .ok (.iload_n 1, 1) := by decide +kernel
theorem d_M_function1_72 : decode b_M_function1 72 = .ok (.iaload, 1) := by decide +kernel
theorem d_M_function1_73 : decode b_M_function1 73 = .ok (.goto 14, 3) := by decide +kernel
theorem d_M_function1_76 : decode b_M_function1 76 = .ok (.aload_n 0, 1) := by decide +kernel
theorem d_M_function1_77 : decode b_M_function1 77 = .ok (.getfield 29, 3) := by decide +kernel
theorem d_M_function1_80 : decode b_M_function1 80 = .ok (.aload_n 0, 1) := by decide +kernel
theorem d_M_function1_81 : decode b_M_function1 81 = .ok (.getfield 128, 3) := by decide +kernel
theorem d_M_function1_84 : decode b_M_function1 84 = .ok (.iload_n 1, 1) := by decide +kernel
theorem d_M_function1_85 : decode b_M_function1 85 = .ok (.iaload, 1) := by decide +kernel
theorem d_M_function1_86 : decode b_M_function1 86 = .ok (.iaload, 1) := by decide +kernel
theorem d_M_function1_87 : decode b_M_function1 87 = .ok (.ireturn, 1) := by decide +kernel
def rm_M_function1 : Room := { frames := 0, cells := 0, slots := 0, locals := 0 }
