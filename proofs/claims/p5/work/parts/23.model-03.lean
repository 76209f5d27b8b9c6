def fb_M_patternAt_96 (N : Nat) (S : SG_M_rowPattern) (G : Unit) (u : MS) (v1 : Int32) (v2 : Int32) : Option (MS × Int32) := fb_M_patternAt_101 N S G u (v1) (v2) (1)
set_option maxRecDepth 100000 in
set_option maxHeartbeats 4000000 in
theorem wb_M_patternAt_96 {p : Program} {l : Launch} {e : Env} {R : Room} {s : State} {m : MethodId} {args : Array Value} {below : List Frame} {meth : Method} {c : Code} {D : va_G} {cl : List vw_C} {cB cI cJ cZ cS : ClassId} {A : Nat → Prop} {iM h0 : Nat} {ad : Nat → Nat} (C0 : MCx p s m args meth c b_M_patternAt 5 (some .int) D cl cB cI cJ cZ cS iM A) {d : Nat} (hR : R = rg_M_rowPattern (d + 1)) (N : Nat) (S : SG_M_rowPattern) (hSg : HS_M_rowPattern l D cl cB cI cJ cZ cS iM h0 ad (rg_M_rowPattern d) S) (G : Unit) (hG : True) : ∀ (u : MS) (v1 : Int32) (v2 : Int32) (x : MS × Int32), fb_M_patternAt_96 N S G u v1 v2 = some x → ∀ (H : Heap) (locs : List Loc), va_P D cl (wM cB cI cJ cZ cS iM h0 ad u) H → va_D A (wM cB cI cJ cZ cS iM h0 ad u) → va_S A s.heap H locs → ∀ (ls : Array Slot), lv_has ls 5 [(0, .ref h0), (1, .int v1), (2, .int v2)] → W p l e R s m args below meth c H locs 0 0 (MQ below (mQi D cl cB cI cJ cZ cS iM h0 ad A x) args s 0 0 A) (F0 m 96 ls []) := by
  intro u v1 v2 x hf H locs hP hD hS ls hl
  obtain ⟨hx, hb, hr, hml, ht, hown, hM, hK, hA, hlocks⟩ := id C0
  unfold fb_M_patternAt_96 at hf
  refine lv_iconst (v := 1) hx hb d_M_patternAt_96 (by decide) ?_
  refine lv_goto (tgt := 101) hx hb d_M_patternAt_97 (by decide) ?_
  exact wb_M_patternAt_101 C0 hR N S hSg G hG _ _ _ _ _ hf H locs hP hD hS ls (lv_sub hl [0, 1, 2] rfl)
def fb_M_patternAt_0 (N : Nat) (S : SG_M_rowPattern) (G : Unit) (u : MS) (v1 : Int32) : Option (MS × Int32) := br (decide ((u.1 67) = 0)) (bnd (fm_M_isSign N u 19) (fun u22 r22 => ck (inb (u22.1 69) (ln 6)) (br (decide ((u22.2.2.1 6 (u22.1 69).toNatClampNeg) = 2)) (fb_M_patternAt_96 N S G u22 (v1) (r22)) (ck (inb (u22.1 69) (ln 6)) (br (decide ((u22.2.2.1 6 (u22.1 69).toNatClampNeg) = 4)) (fb_M_patternAt_96 N S G u22 (v1) (r22)) (ck (inb (u22.1 69) (ln 6)) (br (decide ((u22.2.2.1 6 (u22.1 69).toNatClampNeg) = 1)) (fb_M_patternAt_96 N S G u22 (v1) (r22)) (ck (inb (u22.1 69) (ln 6)) (br (decide ((u22.2.2.1 6 (u22.1 69).toNatClampNeg) = 5)) (fb_M_patternAt_96 N S G u22 (v1) (r22)) (bnd (fm_M_isSign N u22 2) (fun u23 r23 => br (decide (r23 = 0)) (bnd (fm_M_isSign N u23 4) (fun u24 r24 => br (decide (r24 = 0)) (bnd (fm_M_isSign N u24 0) (fun u25 r25 => br (decide (r25 = 0)) (br (decide (r22 = 0)) (fb_M_patternAt_101 N S G u25 (v1) (r22) (0)) (fb_M_patternAt_96 N S G u25 (v1) (r22))) (fb_M_patternAt_96 N S G u25 (v1) (r22)))) (fb_M_patternAt_96 N S G u24 (v1) (r22)))) (fb_M_patternAt_96 N S G u23 (v1) (r22))))))))))))) (some (u, (-1)))
set_option maxRecDepth 100000 in
set_option maxHeartbeats 4000000 in
theorem wb_M_patternAt_0 {p : Program} {l : Launch} {e : Env} {R : Room} {s : State} {m : MethodId} {args : Array Value} {below : List Frame} {meth : Method} {c : Code} {D : va_G} {cl : List vw_C} {cB cI cJ cZ cS : ClassId} {A : Nat → Prop} {iM h0 : Nat} {ad : Nat → Nat} (C0 : MCx p s m args meth c b_M_patternAt 5 (some .int) D cl cB cI cJ cZ cS iM A) {d : Nat} (hR : R = rg_M_rowPattern (d + 1)) (N : Nat) (S : SG_M_rowPattern) (hSg : HS_M_rowPattern l D cl cB cI cJ cZ cS iM h0 ad (rg_M_rowPattern d) S) (G : Unit) (hG : True) : ∀ (u : MS) (v1 : Int32) (x : MS × Int32), fb_M_patternAt_0 N S G u v1 = some x → ∀ (H : Heap) (locs : List Loc), va_P D cl (wM cB cI cJ cZ cS iM h0 ad u) H → va_D A (wM cB cI cJ cZ cS iM h0 ad u) → va_S A s.heap H locs → ∀ (ls : Array Slot), lv_has ls 5 [(0, .ref h0), (1, .int v1)] → W p l e R s m args below meth c H locs 0 0 (MQ below (mQi D cl cB cI cJ cZ cS iM h0 ad A x) args s 0 0 A) (F0 m 0 ls []) := by
  intro u v1 x hf H locs hP hD hS ls hl
  obtain ⟨hx, hb, hr, hml, ht, hown, hM, hK, hA, hlocks⟩ := id C0
  unfold fb_M_patternAt_0 at hf
  refine lv_aload_n hx hb d_M_patternAt_0 rfl (lv_at hl 0 rfl) ?_
  refine ug_I hx hb ht hown hM hK hP 67 (by decide) lk_M_67 (by decide) d_M_patternAt_1 ?_
  refine lv_if_eq (tgt := 9) hx hb d_M_patternAt_4 (by decide) (fun hc => ?_) (fun hc => ?_)
  · rw [br_p _ hc] at hf
    refine lv_aload_n hx hb d_M_patternAt_9 rfl (lv_at hl 0 rfl) ?_
    refine lv_bipush (v := 19) hx hb d_M_patternAt_10 (by decide) ?_
    obtain ⟨u22, r22, hc22, hf⟩ := bnd_some hf
    refine mV_i (As := [.int 19]) (rest := []) C0 hP hD hS (c_M_isSign N hM hc22) k_M_isSign hl_M_isSign hi_M_isSign hs_M_isSign hini_M rfl rfl hd_M_isSign rfl (rm_M_patternAt_M_isSign hR) hl.1 (Nat.le_of_ble_eq_true rfl) d_M_patternAt_12 rfl ⟨Nat.zero_le _, Nat.zero_le _⟩ (fun H locs hP hD hS => ?_)
    refine lv_istore_n (lv' := [(2, .int r22), (0, .ref h0), (1, .int v1)]) hx hb d_M_patternAt_15 rfl hl (by decide) rfl (fun ls hl => ?_)
    refine lv_aload_n hx hb d_M_patternAt_16 rfl (lv_at hl 1 rfl) ?_
    refine ug_R hx hb ht hown hM hK hP 6 (by decide) lk_M_6 (by decide) d_M_patternAt_17 ?_
    refine lv_aload_n hx hb d_M_patternAt_20 rfl (lv_at hl 1 rfl) ?_
    refine ug_I hx hb ht hown hM hK hP 69 (by decide) lk_M_69 (by decide) d_M_patternAt_21 ?_
    obtain ⟨hi9, hf⟩ := ck_some hf
    refine ul_B hx hb hK hP (by decide) (by decide) hi9 d_M_patternAt_24 ?_
    refine lv_iconst (v := 2) hx hb d_M_patternAt_25 (by decide) ?_
    refine lv_icmp_eq (tgt := 96) hx hb d_M_patternAt_26 (by decide) (fun hc => ?_) (fun hc => ?_)
    · rw [br_p _ hc] at hf
      exact wb_M_patternAt_96 C0 hR N S hSg G hG _ _ _ _ hf H locs hP hD hS ls (lv_sub hl [1, 2, 0] rfl)
    · rw [br_n _ hc] at hf
      refine lv_aload_n hx hb d_M_patternAt_29 rfl (lv_at hl 1 rfl) ?_
      refine ug_R hx hb ht hown hM hK hP 6 (by decide) lk_M_6 (by decide) d_M_patternAt_30 ?_
      refine lv_aload_n hx hb d_M_patternAt_33 rfl (lv_at hl 1 rfl) ?_
      refine ug_I hx hb ht hown hM hK hP 69 (by decide) lk_M_69 (by decide) d_M_patternAt_34 ?_
      obtain ⟨hi9, hf⟩ := ck_some hf
      refine ul_B hx hb hK hP (by decide) (by decide) hi9 d_M_patternAt_37 ?_
      refine lv_iconst (v := 4) hx hb d_M_patternAt_38 (by decide) ?_
      refine lv_icmp_eq (tgt := 96) hx hb d_M_patternAt_39 (by decide) (fun hc => ?_) (fun hc => ?_)
      · rw [br_p _ hc] at hf
        exact wb_M_patternAt_96 C0 hR N S hSg G hG _ _ _ _ hf H locs hP hD hS ls (lv_sub hl [1, 2, 0] rfl)
      · rw [br_n _ hc] at hf
        refine lv_aload_n hx hb d_M_patternAt_42 rfl (lv_at hl 1 rfl) ?_
        refine ug_R hx hb ht hown hM hK hP 6 (by decide) lk_M_6 (by decide) d_M_patternAt_43 ?_
        refine lv_aload_n hx hb d_M_patternAt_46 rfl (lv_at hl 1 rfl) ?_
        refine ug_I hx hb ht hown hM hK hP 69 (by decide) lk_M_69 (by decide) d_M_patternAt_47 ?_
        obtain ⟨hi9, hf⟩ := ck_some hf
        refine ul_B hx hb hK hP (by decide) (by decide) hi9 d_M_patternAt_50 ?_
        refine lv_iconst (v := 1) hx hb d_M_patternAt_51 (by decide) ?_
        refine lv_icmp_eq (tgt := 96) hx hb d_M_patternAt_52 (by decide) (fun hc => ?_) (fun hc => ?_)
        · rw [br_p _ hc] at hf
          exact wb_M_patternAt_96 C0 hR N S hSg G hG _ _ _ _ hf H locs hP hD hS ls (lv_sub hl [1, 2, 0] rfl)
        · rw [br_n _ hc] at hf
          refine lv_aload_n hx hb d_M_patternAt_55 rfl (lv_at hl 1 rfl) ?_
          refine ug_R hx hb ht hown hM hK hP 6 (by decide) lk_M_6 (by decide) d_M_patternAt_56 ?_
          refine lv_aload_n hx hb d_M_patternAt_59 rfl (lv_at hl 1 rfl) ?_
          refine ug_I hx hb ht hown hM hK hP 69 (by decide) lk_M_69 (by decide) d_M_patternAt_60 ?_
          obtain ⟨hi9, hf⟩ := ck_some hf
          refine ul_B hx hb hK hP (by decide) (by decide) hi9 d_M_patternAt_63 ?_
          refine lv_iconst (v := 5) hx hb d_M_patternAt_64 (by decide) ?_
          refine lv_icmp_eq (tgt := 96) hx hb d_M_patternAt_65 (by decide) (fun hc => ?_) (fun hc => ?_)
          · rw [br_p _ hc] at hf
            exact wb_M_patternAt_96 C0 hR N S hSg G hG _ _ _ _ hf H locs hP hD hS ls (lv_sub hl [1, 2, 0] rfl)
          · rw [br_n _ hc] at hf
            refine lv_aload_n hx hb d_M_patternAt_68 rfl (lv_at hl 1 rfl) ?_
            refine lv_iconst (v := 2) hx hb d_M_patternAt_69 (by decide) ?_
            obtain ⟨u23, r23, hc23, hf⟩ := bnd_some hf
            refine mV_i (As := [.int 2]) (rest := []) C0 hP hD hS (c_M_isSign N hM hc23) k_M_isSign hl_M_isSign hi_M_isSign hs_M_isSign hini_M rfl rfl hd_M_isSign rfl (rm_M_patternAt_M_isSign hR) hl.1 (Nat.le_of_ble_eq_true rfl) d_M_patternAt_70 rfl ⟨Nat.zero_le _, Nat.zero_le _⟩ (fun H locs hP hD hS => ?_)
            refine lv_if_ne (tgt := 96) hx hb d_M_patternAt_73 (by decide) (fun hc => ?_) (fun hc => ?_)
            · rw [br_n _ hc] at hf
              exact wb_M_patternAt_96 C0 hR N S hSg G hG _ _ _ _ hf H locs hP hD hS ls (lv_sub hl [1, 2, 0] rfl)
            · rw [br_p _ hc] at hf
              refine lv_aload_n hx hb d_M_patternAt_76 rfl (lv_at hl 1 rfl) ?_
              refine lv_iconst (v := 4) hx hb d_M_patternAt_77 (by decide) ?_
              obtain ⟨u24, r24, hc24, hf⟩ := bnd_some hf
              refine mV_i (As := [.int 4]) (rest := []) C0 hP hD hS (c_M_isSign N hM hc24) k_M_isSign hl_M_isSign hi_M_isSign hs_M_isSign hini_M rfl rfl hd_M_isSign rfl (rm_M_patternAt_M_isSign hR) hl.1 (Nat.le_of_ble_eq_true rfl) d_M_patternAt_78 rfl ⟨Nat.zero_le _, Nat.zero_le _⟩ (fun H locs hP hD hS => ?_)
              refine lv_if_ne (tgt := 96) hx hb d_M_patternAt_81 (by decide) (fun hc => ?_) (fun hc => ?_)
              · rw [br_n _ hc] at hf
                exact wb_M_patternAt_96 C0 hR N S hSg G hG _ _ _ _ hf H locs hP hD hS ls (lv_sub hl [1, 2, 0] rfl)
              · rw [br_p _ hc] at hf
                refine lv_aload_n hx hb d_M_patternAt_84 rfl (lv_at hl 1 rfl) ?_
                refine lv_iconst (v := 0) hx hb d_M_patternAt_85 (by decide) ?_
                obtain ⟨u25, r25, hc25, hf⟩ := bnd_some hf
                refine mV_i (As := [.int 0]) (rest := []) C0 hP hD hS (c_M_isSign N hM hc25) k_M_isSign hl_M_isSign hi_M_isSign hs_M_isSign hini_M rfl rfl hd_M_isSign rfl (rm_M_patternAt_M_isSign hR) hl.1 (Nat.le_of_ble_eq_true rfl) d_M_patternAt_86 rfl ⟨Nat.zero_le _, Nat.zero_le _⟩ (fun H locs hP hD hS => ?_)
                refine lv_if_ne (tgt := 96) hx hb d_M_patternAt_89 (by decide) (fun hc => ?_) (fun hc => ?_)
                · rw [br_n _ hc] at hf
                  exact wb_M_patternAt_96 C0 hR N S hSg G hG _ _ _ _ hf H locs hP hD hS ls (lv_sub hl [1, 2, 0] rfl)
                · rw [br_p _ hc] at hf
                  refine lv_iload_n hx hb d_M_patternAt_92 rfl (lv_at hl 0 rfl) ?_
                  refine lv_if_eq (tgt := 100) hx hb d_M_patternAt_93 (by decide) (fun hc => ?_) (fun hc => ?_)
                  · rw [br_p _ hc] at hf
                    refine lv_iconst (v := 0) hx hb d_M_patternAt_100 (by decide) ?_
                    exact wb_M_patternAt_101 C0 hR N S hSg G hG _ _ _ _ _ hf H locs hP hD hS ls (lv_sub hl [1, 2, 0] rfl)
                  · rw [br_n _ hc] at hf
                    exact wb_M_patternAt_96 C0 hR N S hSg G hG _ _ _ _ hf H locs hP hD hS ls (lv_sub hl [1, 2, 0] rfl)
  · rw [br_n _ hc] at hf
    refine lv_iconst (v := (-1)) hx hb d_M_patternAt_7 (by decide) ?_
    exact mr_i C0 hP hD hS hf d_M_patternAt_8
def fm_M_patternAt (N : Nat) (S : SG_M_rowPattern) (u : MS) (v1 : Int32) : Option (MS × Int32) := fb_M_patternAt_0 N S () u v1
set_option maxRecDepth 100000 in
set_option maxHeartbeats 4000000 in
theorem cs_M_patternAt (N : Nat) {d : Nat} {l : Launch} {D : va_G} {cl : List vw_C} {cB cI cJ cZ cS : ClassId} {iM h0 : Nat} {ad : Nat → Nat} {u : MS} {sz : Nat} {v1 : Int32} {x : MS × Int32} (hM : cl[iM]? = some (R_M, F_M, 171)) (S : SG_M_rowPattern) (hSg : HS_M_rowPattern l D cl cB cI cJ cZ cS iM h0 ad (rg_M_rowPattern d) S) (hf : fm_M_patternAt N S u v1 = some x) : Met l y_M_patternAt (wd_ws y_M_patternAt b_M_patternAt 5 (some .int)) (rg_M_rowPattern (d + 1)) (mPc D cl cB cI cJ cZ cS iM h0 ad u sz [.ref h0, .int v1]) (mQi D cl cB cI cJ cZ cS iM h0 ad (mA cB cI cJ cZ cS iM h0 ad u sz) x) 0 0 (mA cB cI cJ cZ cS iM h0 ad u sz) :=
  mMet (by decide) rfl hM (Nat.le_of_ble_eq_true rfl) (fun p e s m below meth c ls hsz C0 hP hD hS hl => by
    have hR : (rg_M_rowPattern (d + 1)) = (rg_M_rowPattern (d + 1)) := rfl
    exact wb_M_patternAt_0 C0 hR N S hSg () trivial u _ x hf s.heap [] hP hD hS ls (lv_sub hl [0, 1] rfl))
def rc_M_rowPattern (N : Nat) : Nat → (SG_M_rowPattern)
  | 0 => (fun _ _ => none, fun _ _ => none)
  | d + 1 => (fm_M_rowPattern N (rc_M_rowPattern N d), fm_M_patternAt N (rc_M_rowPattern N d))
theorem cg_M_rowPattern (N : Nat) {l : Launch} {D : va_G} {cl : List vw_C} {cB cI cJ cZ cS : ClassId} {iM h0 : Nat} {ad : Nat → Nat} (hM : cl[iM]? = some (R_M, F_M, 171)) : ∀ d : Nat, HS_M_rowPattern l D cl cB cI cJ cZ cS iM h0 ad (rg_M_rowPattern d) (rc_M_rowPattern N d)
  | 0 => ⟨(fun u _ x sz hf => by cases hf), (fun u _ x sz hf => by cases hf)⟩
  | d + 1 => ⟨(fun u _ x sz hf => cs_M_rowPattern N hM (rc_M_rowPattern N d) (cg_M_rowPattern N hM d) hf), (fun u _ x sz hf => cs_M_patternAt N hM (rc_M_rowPattern N d) (cg_M_rowPattern N hM d) hf)⟩
def fr_M_rowPattern (N : Nat) (u : MS) (v1 : Int32) : Option (MS × Int32) := (rc_M_rowPattern N 60).1 u v1
def rm_M_rowPattern : Room := rg_M_rowPattern 60
theorem c_M_rowPattern (N : Nat) {l : Launch} {D : va_G} {cl : List vw_C} {cB cI cJ cZ cS : ClassId} {iM h0 : Nat} {ad : Nat → Nat} {u : MS} {sz : Nat} {v1 : Int32} {x : MS × Int32} (hM : cl[iM]? = some (R_M, F_M, 171)) (hf : fr_M_rowPattern N u v1 = some x) : Met l y_M_rowPattern (wd_ws y_M_rowPattern b_M_rowPattern 9 (some .int)) rm_M_rowPattern (mPc D cl cB cI cJ cZ cS iM h0 ad u sz [.ref h0, .int v1]) (mQi D cl cB cI cJ cZ cS iM h0 ad (mA cB cI cJ cZ cS iM h0 ad u sz) x) 0 0 (mA cB cI cJ cZ cS iM h0 ad u sz) := (cg_M_rowPattern N hM 60).1 _ _ _ _ hf
def fr_M_patternAt (N : Nat) (u : MS) (v1 : Int32) : Option (MS × Int32) := (rc_M_rowPattern N 60).2 u v1
def rm_M_patternAt : Room := rg_M_rowPattern 60
theorem c_M_patternAt (N : Nat) {l : Launch} {D : va_G} {cl : List vw_C} {cB cI cJ cZ cS : ClassId} {iM h0 : Nat} {ad : Nat → Nat} {u : MS} {sz : Nat} {v1 : Int32} {x : MS × Int32} (hM : cl[iM]? = some (R_M, F_M, 171)) (hf : fr_M_patternAt N u v1 = some x) : Met l y_M_patternAt (wd_ws y_M_patternAt b_M_patternAt 5 (some .int)) rm_M_patternAt (mPc D cl cB cI cJ cZ cS iM h0 ad u sz [.ref h0, .int v1]) (mQi D cl cB cI cJ cZ cS iM h0 ad (mA cB cI cJ cZ cS iM h0 ad u sz) x) 0 0 (mA cB cI cJ cZ cS iM h0 ad u sz) := (cg_M_rowPattern N hM 60).2 _ _ _ _ hf
abbrev b_M_beginsUnit : ByteArray := prog_14_method_52_code
def y_M_beginsUnit : MethodName := ⟨R_M, "beginsUnit", "()Z"⟩
def w_M_beginsUnit : List Cond := wd_ws y_M_beginsUnit b_M_beginsUnit 1 (some .boolean)
set_option maxRecDepth 100000 in
theorem k_M_beginsUnit : Cond.code y_M_beginsUnit b_M_beginsUnit 1 (some .boolean) ∈ wd_tbl := wd_of 2779 rfl rfl
theorem d_M_beginsUnit_0 : decode b_M_beginsUnit 0 = .ok (.aload_n 0, 1) := by decide +kernel
theorem d_M_beginsUnit_1 : decode b_M_beginsUnit 1 = .ok (.getfield 22, 3) := by decide +kernel
theorem d_M_beginsUnit_4 : decode b_M_beginsUnit 4 = .ok (.aload_n 0, 1) := by decide +kernel
theorem d_M_beginsUnit_5 : decode b_M_beginsUnit 5 = .ok (.getfield 457, 3) := by decide +kernel
theorem d_M_beginsUnit_8 : decode b_M_beginsUnit 8 = .ok (.baload, 1) := by decide +kernel
theorem d_M_beginsUnit_9 : decode b_M_beginsUnit 9 = .ok (.iconst 1, 1) := by decide +kernel
theorem d_M_beginsUnit_10 : decode b_M_beginsUnit 10 = .ok (.if_icmp .eq 127, 3) := by decide +kernel
theorem d_M_beginsUnit_13 : decode b_M_beginsUnit 13 = .ok (.aload_n 0, 1) := by decide +kernel
theorem d_M_beginsUnit_14 : decode b_M_beginsUnit 14 = .ok (.getfield 22, 3) := by decide +kernel
theorem d_M_beginsUnit_17 : decode b_M_beginsUnit 17 = .ok (.aload_n 0, 1) := by decide +kernel
theorem d_M_beginsUnit_18 : decode b_M_beginsUnit 18 = .ok (.getfield 457, 3) := by decide +kernel
theorem d_M_beginsUnit_21 : decode b_M_beginsUnit 21 = .ok (.baload, 1) := by decide +kernel
theorem d_M_beginsUnit_22 : decode b_M_beginsUnit 22 = .ok (.iconst 2, 1) := by decide +kernel
theorem d_M_beginsUnit_23 : decode b_M_beginsUnit 23 = .ok (.if_icmp .eq 114, 3) := by decide +kernel
theorem d_M_beginsUnit_26 : decode b_M_beginsUnit 26 = .ok (.aload_n 0, 1) := by decide +kernel
theorem d_M_beginsUnit_27 : decode b_M_beginsUnit 27 = .ok (.getfield 22, 3) := by decide +kernel
theorem d_M_beginsUnit_30 : decode b_M_beginsUnit 30 = .ok (.aload_n 0, 1) := by decide +kernel
theorem d_M_beginsUnit_31 : decode b_M_beginsUnit 31 = .ok (.getfield 457, 3) := by decide +kernel
theorem d_M_beginsUnit_34 : decode b_M_beginsUnit 34 = .ok (.baload, 1) := by decide +kernel
theorem d_M_beginsUnit_35 : decode b_M_beginsUnit 35 = .ok (.iconst 4, 1) := by decide +kernel
theorem d_M_beginsUnit_36 : decode b_M_beginsUnit 36 = .ok (.if_icmp .eq 101, 3) := by decide +kernel
theorem d_M_beginsUnit_39 : decode b_M_beginsUnit 39 = .ok (.aload_n 0, 1) := by decide +kernel
theorem d_M_beginsUnit_40 : decode b_M_beginsUnit 40 = .ok (.getfield 22, 3) := by decide +kernel
theorem d_M_beginsUnit_43 : decode b_M_beginsUnit 43 = .ok (.aload_n 0, 1) := by decide +kernel
theorem d_M_beginsUnit_44 : decode b_M_beginsUnit 44 = .ok (.getfield 457, 3) := by decide +kernel
theorem d_M_beginsUnit_47 : decode b_M_beginsUnit 47 = .ok (.baload, 1) := by decide +kernel
theorem d_M_beginsUnit_48 : decode b_M_beginsUnit 48 = .ok (.iconst 5, 1) := by decide +kernel
theorem d_M_beginsUnit_49 : decode b_M_beginsUnit 49 = .ok (.if_icmp .eq 88, 3) := by decide +kernel
theorem d_M_beginsUnit_52 : decode b_M_beginsUnit 52 = .ok (.aload_n 0, 1) := by decide +kernel
theorem d_M_beginsUnit_53 : decode b_M_beginsUnit 53 = .ok (.iconst 0, 1) := by decide +kernel
theorem d_M_beginsUnit_54 : decode b_M_beginsUnit 54 = .ok (.invokevirtual 469, 3) := by decide +kernel
theorem d_M_beginsUnit_57 : decode b_M_beginsUnit 57 = .ok (.ifCond .ne 80, 3) := by decide +kernel
theorem d_M_beginsUnit_60 : decode b_M_beginsUnit 60 = .ok (.aload_n 0, 1) := by decide +kernel
theorem d_M_beginsUnit_61 : decode b_M_beginsUnit 61 = .ok (.iconst 2, 1) := by decide +kernel
theorem d_M_beginsUnit_62 : decode b_M_beginsUnit 62 = .ok (.invokevirtual 469, 3) := by decide +kernel
theorem d_M_beginsUnit_65 : decode b_M_beginsUnit 65 = .ok (.ifCond .ne 72, 3) := by decide +kernel
theorem d_M_beginsUnit_68 : decode b_M_beginsUnit 68 = .ok (.aload_n 0, 1) := by decide +kernel
theorem d_M_beginsUnit_69 : decode b_M_beginsUnit 69 = .ok (.iconst 4, 1) := by decide +kernel
theorem d_M_beginsUnit_70 : decode b_M_beginsUnit 70 = .ok (.invokevirtual 469, 3) := by decide +kernel
theorem d_M_beginsUnit_73 : decode b_M_beginsUnit 73 = .ok (.ifCond .ne 64, 3) := by decide +kernel
theorem d_M_beginsUnit_76 : decode b_M_beginsUnit 76 = .ok (.aload_n 0, 1) := by decide +kernel
theorem d_M_beginsUnit_77 : decode b_M_beginsUnit 77 = .ok (.bipush 19, 2) := by decide +kernel
theorem d_M_beginsUnit_79 : decode b_M_beginsUnit 79 = .ok (.invokevirtual 469, 3) := by decide +kernel
theorem d_M_beginsUnit_82 : decode b_M_beginsUnit 82 = .ok (.ifCond .ne 55, 3) := by decide +kernel
theorem d_M_beginsUnit_85 : decode b_M_beginsUnit 85 = .ok (.aload_n 0, 1) := by decide +kernel
theorem d_M_beginsUnit_86 : decode b_M_beginsUnit 86 = .ok (.iconst 2, 1) := by decide +kernel
theorem d_M_beginsUnit_87 : decode b_M_beginsUnit 87 = .ok (.invokevirtual 472, 3) := by decide +kernel
theorem d_M_beginsUnit_90 : decode b_M_beginsUnit 90 = .ok (.ifCond .ne 47, 3) := by decide +kernel
theorem d_M_beginsUnit_93 : decode b_M_beginsUnit 93 = .ok (.aload_n 0, 1) := by decide +kernel
theorem d_M_beginsUnit_94 : decode b_M_beginsUnit 94 = .ok (.iconst 3, 1) := by decide +kernel
theorem d_M_beginsUnit_95 : decode b_M_beginsUnit 95 = .ok (.invokevirtual 472, 3) := by decide +kernel
theorem d_M_beginsUnit_98 : decode b_M_beginsUnit 98 = .ok (.ifCond .ne 39, 3) := by decide +kernel
theorem d_M_beginsUnit_101 : decode b_M_beginsUnit 101 = .ok (.aload_n 0, 1) := by decide +kernel
theorem d_M_beginsUnit_102 : decode b_M_beginsUnit 102 = .ok (.bipush 7, 2) := by decide +kernel
theorem d_M_beginsUnit_104 : decode b_M_beginsUnit 104 = .ok (.invokevirtual 472, 3) := by decide +kernel
theorem d_M_beginsUnit_107 : decode b_M_beginsUnit 107 = .ok (.ifCond .ne 30, 3) := by decide +kernel
theorem d_M_beginsUnit_110 : decode b_M_beginsUnit 110 = .ok (.aload_n 0, 1) := by decide +kernel
theorem d_M_beginsUnit_111 : decode b_M_beginsUnit 111 = .ok (.bipush 8, 2) := by decide +kernel
theorem d_M_beginsUnit_113 : decode b_M_beginsUnit 113 = .ok (.invokevirtual 472, 3) := by decide +kernel
theorem d_M_beginsUnit_116 : decode b_M_beginsUnit 116 = .ok (.ifCond .ne 21, 3) := by decide +kernel
theorem d_M_beginsUnit_119 : decode b_M_beginsUnit 119 = .ok (.aload_n 0, 1) := by decide +kernel
theorem d_M_beginsUnit_120 : decode b_M_beginsUnit 120 = .ok (.bipush 9, 2) := by decide +kernel
theorem d_M_beginsUnit_122 : decode b_M_beginsUnit 122 = .ok (.invokevirtual 472, 3) := by decide +kernel
theorem d_M_beginsUnit_125 : decode b_M_beginsUnit 125 = .ok (.ifCond .ne 12, 3) := by decide +kernel
theorem d_M_beginsUnit_128 : decode b_M_beginsUnit 128 = .ok (.aload_n 0, 1) := by decide +kernel
theorem d_M_beginsUnit_129 : decode b_M_beginsUnit 129 = .ok (.bipush 12, 2) := by decide +kernel
theorem d_M_beginsUnit_131 : decode b_M_beginsUnit 131 = .ok (.invokevirtual 472, 3) := by decide +kernel
theorem d_M_beginsUnit_134 : decode b_M_beginsUnit 134 = .ok (.ifCond .eq 7, 3) := by decide +kernel
theorem d_M_beginsUnit_137 : decode b_M_beginsUnit 137 = .ok (.iconst 1, 1) := by decide +kernel
theorem d_M_beginsUnit_138 : decode b_M_beginsUnit 138 = .ok (.goto 4, 3) := by decide +kernel
theorem d_M_beginsUnit_141 : decode b_M_beginsUnit 141 = .ok (.iconst 0, 1) := by decide +kernel
theorem d_M_beginsUnit_142 : decode b_M_beginsUnit 142 = .ok (.ireturn, 1) := by decide +kernel
set_option maxRecDepth 100000 in
theorem hl_M_beginsUnit : Cond.methodLink R_M 558 y_M_beginsUnit ∈ wd_tbl := wd_of 2776 (by decide +kernel) rfl
set_option maxRecDepth 100000 in
theorem hi_M_beginsUnit : Cond.instanceMethod y_M_beginsUnit ∈ wd_tbl := wd_of 2778 (by decide +kernel) rfl
set_option maxRecDepth 100000 in
theorem hs_M_beginsUnit : Cond.selects R_M y_M_beginsUnit y_M_beginsUnit ∈ wd_tbl := wd_of 158 (by decide +kernel) rfl
theorem hd_M_beginsUnit : y_M_beginsUnit.cls = R_M ∧ y_M_beginsUnit.cls ≠ "java/lang/invoke/MethodHandle" ∧ y_M_beginsUnit.cls ≠ "java/lang/invoke/VarHandle" ∧ (parseMethodDescriptor y_M_beginsUnit.desc).map (fun d => d.parameters.length) = some 0 := by decide +kernel
def rm_M_beginsUnit : Room := { frames := 1, cells := 0, slots := 0, locals := 21 }
theorem rm_M_beginsUnit_M_isSign {R : Room} (hR : R = rm_M_beginsUnit) : (rm_M_isSign).frames + 1 ≤ R.frames ∧ 8 + (2 + 11) + (rm_M_isSign).locals ≤ R.locals := by subst hR; decide
theorem rm_M_beginsUnit_M_isWord {R : Room} (hR : R = rm_M_beginsUnit) : (rm_M_isWord).frames + 1 ≤ R.frames ∧ 8 + (2 + 11) + (rm_M_isWord).locals ≤ R.locals := by subst hR; decide
def fb_M_beginsUnit_142 (N : Nat) (G : Unit) (u : MS) (t0 : Int32) : Option (MS × Int32) := ck (isb t0) (some (u, t0))
set_option maxRecDepth 100000 in
set_option maxHeartbeats 4000000 in
theorem wb_M_beginsUnit_142 {p : Program} {l : Launch} {e : Env} {R : Room} {s : State} {m : MethodId} {args : Array Value} {below : List Frame} {meth : Method} {c : Code} {D : va_G} {cl : List vw_C} {cB cI cJ cZ cS : ClassId} {A : Nat → Prop} {iM h0 : Nat} {ad : Nat → Nat} (C0 : MCx p s m args meth c b_M_beginsUnit 1 (some .boolean) D cl cB cI cJ cZ cS iM A) (hR : R = rm_M_beginsUnit) (N : Nat) (G : Unit) (hG : True) : ∀ (u : MS) (t0 : Int32) (x : MS × Int32), fb_M_beginsUnit_142 N G u t0 = some x → ∀ (H : Heap) (locs : List Loc), va_P D cl (wM cB cI cJ cZ cS iM h0 ad u) H → va_D A (wM cB cI cJ cZ cS iM h0 ad u) → va_S A s.heap H locs → ∀ (ls : Array Slot), lv_has ls 1 [] → W p l e R s m args below meth c H locs 0 0 (MQ below (mQi D cl cB cI cJ cZ cS iM h0 ad A x) args s 0 0 A) (F0 m 142 ls [.int t0]) := by
  intro u t0 x hf H locs hP hD hS ls hl
  obtain ⟨hx, hb, hr, hml, ht, hown, hM, hK, hA, hlocks⟩ := id C0
  unfold fb_M_beginsUnit_142 at hf
  obtain ⟨hz, hf⟩ := ck_some hf
  exact mr_z C0 hP hD hS hz hf d_M_beginsUnit_142
def fb_M_beginsUnit_137 (N : Nat) (G : Unit) (u : MS) : Option (MS × Int32) := fb_M_beginsUnit_142 N G u (1)
set_option maxRecDepth 100000 in
set_option maxHeartbeats 4000000 in
theorem wb_M_beginsUnit_137 {p : Program} {l : Launch} {e : Env} {R : Room} {s : State} {m : MethodId} {args : Array Value} {below : List Frame} {meth : Method} {c : Code} {D : va_G} {cl : List vw_C} {cB cI cJ cZ cS : ClassId} {A : Nat → Prop} {iM h0 : Nat} {ad : Nat → Nat} (C0 : MCx p s m args meth c b_M_beginsUnit 1 (some .boolean) D cl cB cI cJ cZ cS iM A) (hR : R = rm_M_beginsUnit) (N : Nat) (G : Unit) (hG : True) : ∀ (u : MS) (x : MS × Int32), fb_M_beginsUnit_137 N G u = some x → ∀ (H : Heap) (locs : List Loc), va_P D cl (wM cB cI cJ cZ cS iM h0 ad u) H → va_D A (wM cB cI cJ cZ cS iM h0 ad u) → va_S A s.heap H locs → ∀ (ls : Array Slot), lv_has ls 1 [] → W p l e R s m args below meth c H locs 0 0 (MQ below (mQi D cl cB cI cJ cZ cS iM h0 ad A x) args s 0 0 A) (F0 m 137 ls []) := by
  intro u x hf H locs hP hD hS ls hl
  obtain ⟨hx, hb, hr, hml, ht, hown, hM, hK, hA, hlocks⟩ := id C0
  unfold fb_M_beginsUnit_137 at hf
  refine lv_iconst (v := 1) hx hb d_M_beginsUnit_137 (by decide) ?_
  refine lv_goto (tgt := 142) hx hb d_M_beginsUnit_138 (by decide) ?_
  exact wb_M_beginsUnit_142 C0 hR N G hG _ _ _ hf H locs hP hD hS ls (lv_sub hl [] rfl)
def fb_M_beginsUnit_0 (N : Nat) (G : Unit) (u : MS) : Option (MS × Int32) := ck (inb (u.1 69) (ln 6)) (br (decide ((u.2.2.1 6 (u.1 69).toNatClampNeg) = 1)) (fb_M_beginsUnit_137 N G u) (ck (inb (u.1 69) (ln 6)) (br (decide ((u.2.2.1 6 (u.1 69).toNatClampNeg) = 2)) (fb_M_beginsUnit_137 N G u) (ck (inb (u.1 69) (ln 6)) (br (decide ((u.2.2.1 6 (u.1 69).toNatClampNeg) = 4)) (fb_M_beginsUnit_137 N G u) (ck (inb (u.1 69) (ln 6)) (br (decide ((u.2.2.1 6 (u.1 69).toNatClampNeg) = 5)) (fb_M_beginsUnit_137 N G u) (bnd (fm_M_isSign N u 0) (fun u1 r1 => br (decide (r1 = 0)) (bnd (fm_M_isSign N u1 2) (fun u2 r2 => br (decide (r2 = 0)) (bnd (fm_M_isSign N u2 4) (fun u3 r3 => br (decide (r3 = 0)) (bnd (fm_M_isSign N u3 19) (fun u4 r4 => br (decide (r4 = 0)) (bnd (fm_M_isWord N u4 2) (fun u5 r5 => br (decide (r5 = 0)) (bnd (fm_M_isWord N u5 3) (fun u6 r6 => br (decide (r6 = 0)) (bnd (fm_M_isWord N u6 7) (fun u7 r7 => br (decide (r7 = 0)) (bnd (fm_M_isWord N u7 8) (fun u8 r8 => br (decide (r8 = 0)) (bnd (fm_M_isWord N u8 9) (fun u9 r9 => br (decide (r9 = 0)) (bnd (fm_M_isWord N u9 12) (fun u10 r10 => br (decide (r10 = 0)) (fb_M_beginsUnit_142 N G u10 (0)) (fb_M_beginsUnit_137 N G u10))) (fb_M_beginsUnit_137 N G u9))) (fb_M_beginsUnit_137 N G u8))) (fb_M_beginsUnit_137 N G u7))) (fb_M_beginsUnit_137 N G u6))) (fb_M_beginsUnit_137 N G u5))) (fb_M_beginsUnit_137 N G u4))) (fb_M_beginsUnit_137 N G u3))) (fb_M_beginsUnit_137 N G u2))) (fb_M_beginsUnit_137 N G u1))))))))))
set_option maxRecDepth 100000 in
set_option maxHeartbeats 4000000 in
theorem wb_M_beginsUnit_0 {p : Program} {l : Launch} {e : Env} {R : Room} {s : State} {m : MethodId} {args : Array Value} {below : List Frame} {meth : Method} {c : Code} {D : va_G} {cl : List vw_C} {cB cI cJ cZ cS : ClassId} {A : Nat → Prop} {iM h0 : Nat} {ad : Nat → Nat} (C0 : MCx p s m args meth c b_M_beginsUnit 1 (some .boolean) D cl cB cI cJ cZ cS iM A) (hR : R = rm_M_beginsUnit) (N : Nat) (G : Unit) (hG : True) : ∀ (u : MS) (x : MS × Int32), fb_M_beginsUnit_0 N G u = some x → ∀ (H : Heap) (locs : List Loc), va_P D cl (wM cB cI cJ cZ cS iM h0 ad u) H → va_D A (wM cB cI cJ cZ cS iM h0 ad u) → va_S A s.heap H locs → ∀ (ls : Array Slot), lv_has ls 1 [(0, .ref h0)] → W p l e R s m args below meth c H locs 0 0 (MQ below (mQi D cl cB cI cJ cZ cS iM h0 ad A x) args s 0 0 A) (F0 m 0 ls []) := by
  intro u x hf H locs hP hD hS ls hl
  obtain ⟨hx, hb, hr, hml, ht, hown, hM, hK, hA, hlocks⟩ := id C0
  unfold fb_M_beginsUnit_0 at hf
  refine lv_aload_n hx hb d_M_beginsUnit_0 rfl (lv_at hl 0 rfl) ?_
  refine ug_R hx hb ht hown hM hK hP 6 (by decide) lk_M_6 (by decide) d_M_beginsUnit_1 ?_
  refine lv_aload_n hx hb d_M_beginsUnit_4 rfl (lv_at hl 0 rfl) ?_
  refine ug_I hx hb ht hown hM hK hP 69 (by decide) lk_M_69 (by decide) d_M_beginsUnit_5 ?_
  obtain ⟨hi9, hf⟩ := ck_some hf
  refine ul_B hx hb hK hP (by decide) (by decide) hi9 d_M_beginsUnit_8 ?_
  refine lv_iconst (v := 1) hx hb d_M_beginsUnit_9 (by decide) ?_
  refine lv_icmp_eq (tgt := 137) hx hb d_M_beginsUnit_10 (by decide) (fun hc => ?_) (fun hc => ?_)
  · rw [br_p _ hc] at hf
    exact wb_M_beginsUnit_137 C0 hR N G hG _ _ hf H locs hP hD hS ls (lv_sub hl [] rfl)
  · rw [br_n _ hc] at hf
    refine lv_aload_n hx hb d_M_beginsUnit_13 rfl (lv_at hl 0 rfl) ?_
    refine ug_R hx hb ht hown hM hK hP 6 (by decide) lk_M_6 (by decide) d_M_beginsUnit_14 ?_
    refine lv_aload_n hx hb d_M_beginsUnit_17 rfl (lv_at hl 0 rfl) ?_
    refine ug_I hx hb ht hown hM hK hP 69 (by decide) lk_M_69 (by decide) d_M_beginsUnit_18 ?_
    obtain ⟨hi9, hf⟩ := ck_some hf
    refine ul_B hx hb hK hP (by decide) (by decide) hi9 d_M_beginsUnit_21 ?_
    refine lv_iconst (v := 2) hx hb d_M_beginsUnit_22 (by decide) ?_
    refine lv_icmp_eq (tgt := 137) hx hb d_M_beginsUnit_23 (by decide) (fun hc => ?_) (fun hc => ?_)
    · rw [br_p _ hc] at hf
      exact wb_M_beginsUnit_137 C0 hR N G hG _ _ hf H locs hP hD hS ls (lv_sub hl [] rfl)
    · rw [br_n _ hc] at hf
      refine lv_aload_n hx hb d_M_beginsUnit_26 rfl (lv_at hl 0 rfl) ?_
      refine ug_R hx hb ht hown hM hK hP 6 (by decide) lk_M_6 (by decide) d_M_beginsUnit_27 ?_
      refine lv_aload_n hx hb d_M_beginsUnit_30 rfl (lv_at hl 0 rfl) ?_
      refine ug_I hx hb ht hown hM hK hP 69 (by decide) lk_M_69 (by decide) d_M_beginsUnit_31 ?_
      obtain ⟨hi9, hf⟩ := ck_some hf
      refine ul_B hx hb hK hP (by decide) (by decide) hi9 d_M_beginsUnit_34 ?_
      refine lv_iconst (v := 4) hx hb d_M_beginsUnit_35 (by decide) ?_
      refine lv_icmp_eq (tgt := 137) hx hb d_M_beginsUnit_36 (by decide) (fun hc => ?_) (fun hc => ?_)
      · rw [br_p _ hc] at hf
        exact wb_M_beginsUnit_137 C0 hR N G hG _ _ hf H locs hP hD hS ls (lv_sub hl [] rfl)
      · rw [br_n _ hc] at hf
        refine lv_aload_n hx hb d_M_beginsUnit_39 rfl (lv_at hl 0 rfl) ?_
        refine ug_R hx hb ht hown hM hK hP 6 (by decide) lk_M_6 (by decide) d_M_beginsUnit_40 ?_
        refine lv_aload_n hx hb d_M_beginsUnit_43 rfl (lv_at hl 0 rfl) ?_
        refine ug_I hx hb ht hown hM hK hP 69 (by decide) lk_M_69 (by decide) d_M_beginsUnit_44 ?_
        obtain ⟨hi9, hf⟩ := ck_some hf
        refine ul_B hx hb hK hP (by decide) (by decide) hi9 d_M_beginsUnit_47 ?_
        refine lv_iconst (v := 5) hx hb d_M_beginsUnit_48 (by decide) ?_
        refine lv_icmp_eq (tgt := 137) hx hb d_M_beginsUnit_49 (by decide) (fun hc => ?_) (fun hc => ?_)
        · rw [br_p _ hc] at hf
          exact wb_M_beginsUnit_137 C0 hR N G hG _ _ hf H locs hP hD hS ls (lv_sub hl [] rfl)
        · rw [br_n _ hc] at hf
          refine lv_aload_n hx hb d_M_beginsUnit_52 rfl (lv_at hl 0 rfl) ?_
          refine lv_iconst (v := 0) hx hb d_M_beginsUnit_53 (by decide) ?_
          obtain ⟨u1, r1, hc1, hf⟩ := bnd_some hf
          refine mV_i (As := [.int 0]) (rest := []) C0 hP hD hS (c_M_isSign N hM hc1) k_M_isSign hl_M_isSign hi_M_isSign hs_M_isSign hini_M rfl rfl hd_M_isSign rfl (rm_M_beginsUnit_M_isSign hR) hl.1 (Nat.le_of_ble_eq_true rfl) d_M_beginsUnit_54 rfl ⟨Nat.zero_le _, Nat.zero_le _⟩ (fun H locs hP hD hS => ?_)
          refine lv_if_ne (tgt := 137) hx hb d_M_beginsUnit_57 (by decide) (fun hc => ?_) (fun hc => ?_)
          · rw [br_n _ hc] at hf
            exact wb_M_beginsUnit_137 C0 hR N G hG _ _ hf H locs hP hD hS ls (lv_sub hl [] rfl)
          · rw [br_p _ hc] at hf
            refine lv_aload_n hx hb d_M_beginsUnit_60 rfl (lv_at hl 0 rfl) ?_
            refine lv_iconst (v := 2) hx hb d_M_beginsUnit_61 (by decide) ?_
            obtain ⟨u2, r2, hc2, hf⟩ := bnd_some hf
            refine mV_i (As := [.int 2]) (rest := []) C0 hP hD hS (c_M_isSign N hM hc2) k_M_isSign hl_M_isSign hi_M_isSign hs_M_isSign hini_M rfl rfl hd_M_isSign rfl (rm_M_beginsUnit_M_isSign hR) hl.1 (Nat.le_of_ble_eq_true rfl) d_M_beginsUnit_62 rfl ⟨Nat.zero_le _, Nat.zero_le _⟩ (fun H locs hP hD hS => ?_)
            refine lv_if_ne (tgt := 137) hx hb d_M_beginsUnit_65 (by decide) (fun hc => ?_) (fun hc => ?_)
            · rw [br_n _ hc] at hf
              exact wb_M_beginsUnit_137 C0 hR N G hG _ _ hf H locs hP hD hS ls (lv_sub hl [] rfl)
            · rw [br_p _ hc] at hf
              refine lv_aload_n hx hb d_M_beginsUnit_68 rfl (lv_at hl 0 rfl) ?_
              refine lv_iconst (v := 4) hx hb d_M_beginsUnit_69 (by decide) ?_
              obtain ⟨u3, r3, hc3, hf⟩ := bnd_some hf
              refine mV_i (As := [.int 4]) (rest := []) C0 hP hD hS (c_M_isSign N hM hc3) k_M_isSign hl_M_isSign hi_M_isSign hs_M_isSign hini_M rfl rfl hd_M_isSign rfl (rm_M_beginsUnit_M_isSign hR) hl.1 (Nat.le_of_ble_eq_true rfl) d_M_beginsUnit_70 rfl ⟨Nat.zero_le _, Nat.zero_le _⟩ (fun H locs hP hD hS => ?_)
              refine lv_if_ne (tgt := 137) hx hb d_M_beginsUnit_73 (by decide) (fun hc => ?_) (fun hc => ?_)
              · rw [br_n _ hc] at hf
                exact wb_M_beginsUnit_137 C0 hR N G hG _ _ hf H locs hP hD hS ls (lv_sub hl [] rfl)
              · rw [br_p _ hc] at hf
                refine lv_aload_n hx hb d_M_beginsUnit_76 rfl (lv_at hl 0 rfl) ?_
                refine lv_bipush (v := 19) hx hb d_M_beginsUnit_77 (by decide) ?_
                obtain ⟨u4, r4, hc4, hf⟩ := bnd_some hf
                refine mV_i (As := [.int 19]) (rest := []) C0 hP hD hS (c_M_isSign N hM hc4) k_M_isSign hl_M_isSign hi_M_isSign hs_M_isSign hini_M rfl rfl hd_M_isSign rfl (rm_M_beginsUnit_M_isSign hR) hl.1 (Nat.le_of_ble_eq_true rfl) d_M_beginsUnit_79 rfl ⟨Nat.zero_le _, Nat.zero_le _⟩ (fun H locs hP hD hS => ?_)
                refine lv_if_ne (tgt := 137) hx hb d_M_beginsUnit_82 (by decide) (fun hc => ?_) (fun hc => ?_)
                · rw [br_n _ hc] at hf
                  exact wb_M_beginsUnit_137 C0 hR N G hG _ _ hf H locs hP hD hS ls (lv_sub hl [] rfl)
                · rw [br_p _ hc] at hf
                  refine lv_aload_n hx hb d_M_beginsUnit_85 rfl (lv_at hl 0 rfl) ?_
                  refine lv_iconst (v := 2) hx hb d_M_beginsUnit_86 (by decide) ?_
                  obtain ⟨u5, r5, hc5, hf⟩ := bnd_some hf
                  refine mV_i (As := [.int 2]) (rest := []) C0 hP hD hS (c_M_isWord N hM hc5) k_M_isWord hl_M_isWord hi_M_isWord hs_M_isWord hini_M rfl rfl hd_M_isWord rfl (rm_M_beginsUnit_M_isWord hR) hl.1 (Nat.le_of_ble_eq_true rfl) d_M_beginsUnit_87 rfl ⟨Nat.zero_le _, Nat.zero_le _⟩ (fun H locs hP hD hS => ?_)
                  refine lv_if_ne (tgt := 137) hx hb d_M_beginsUnit_90 (by decide) (fun hc => ?_) (fun hc => ?_)
                  · rw [br_n _ hc] at hf
                    exact wb_M_beginsUnit_137 C0 hR N G hG _ _ hf H locs hP hD hS ls (lv_sub hl [] rfl)
                  · rw [br_p _ hc] at hf
                    refine lv_aload_n hx hb d_M_beginsUnit_93 rfl (lv_at hl 0 rfl) ?_
                    refine lv_iconst (v := 3) hx hb d_M_beginsUnit_94 (by decide) ?_
                    obtain ⟨u6, r6, hc6, hf⟩ := bnd_some hf
                    refine mV_i (As := [.int 3]) (rest := []) C0 hP hD hS (c_M_isWord N hM hc6) k_M_isWord hl_M_isWord hi_M_isWord hs_M_isWord hini_M rfl rfl hd_M_isWord rfl (rm_M_beginsUnit_M_isWord hR) hl.1 (Nat.le_of_ble_eq_true rfl) d_M_beginsUnit_95 rfl ⟨Nat.zero_le _, Nat.zero_le _⟩ (fun H locs hP hD hS => ?_)
                    refine lv_if_ne (tgt := 137) hx hb d_M_beginsUnit_98 (by decide) (fun hc => ?_) (fun hc => ?_)
                    · rw [br_n _ hc] at hf
                      exact wb_M_beginsUnit_137 C0 hR N G hG _ _ hf H locs hP hD hS ls (lv_sub hl [] rfl)
                    · rw [br_p _ hc] at hf
                      refine lv_aload_n hx hb d_M_beginsUnit_101 rfl (lv_at hl 0 rfl) ?_
                      refine lv_bipush (v := 7) hx hb d_M_beginsUnit_102 (by decide) ?_
                      obtain ⟨u7, r7, hc7, hf⟩ := bnd_some hf
                      refine mV_i (As := [.int 7]) (rest := []) C0 hP hD hS (c_M_isWord N hM hc7) k_M_isWord hl_M_isWord hi_M_isWord hs_M_isWord hini_M rfl rfl hd_M_isWord rfl (rm_M_beginsUnit_M_isWord hR) hl.1 (Nat.le_of_ble_eq_true rfl) d_M_beginsUnit_104 rfl ⟨Nat.zero_le _, Nat.zero_le _⟩ (fun H locs hP hD hS => ?_)
                      refine lv_if_ne (tgt := 137) hx hb d_M_beginsUnit_107 (by decide) (fun hc => ?_) (fun hc => ?_)
                      · rw [br_n _ hc] at hf
                        exact wb_M_beginsUnit_137 C0 hR N G hG _ _ hf H locs hP hD hS ls (lv_sub hl [] rfl)
                      · rw [br_p _ hc] at hf
                        refine lv_aload_n hx hb d_M_beginsUnit_110 rfl (lv_at hl 0 rfl) ?_
                        refine lv_bipush (v := 8) hx hb d_M_beginsUnit_111 (by decide) ?_
                        obtain ⟨u8, r8, hc8, hf⟩ := bnd_some hf
                        refine mV_i (As := [.int 8]) (rest := []) C0 hP hD hS (c_M_isWord N hM hc8) k_M_isWord hl_M_isWord hi_M_isWord hs_M_isWord hini_M rfl rfl hd_M_isWord rfl (rm_M_beginsUnit_M_isWord hR) hl.1 (Nat.le_of_ble_eq_true rfl) d_M_beginsUnit_113 rfl ⟨Nat.zero_le _, Nat.zero_le _⟩ (fun H locs hP hD hS => ?_)
                        refine lv_if_ne (tgt := 137) hx hb d_M_beginsUnit_116 (by decide) (fun hc => ?_) (fun hc => ?_)
                        · rw [br_n _ hc] at hf
                          exact wb_M_beginsUnit_137 C0 hR N G hG _ _ hf H locs hP hD hS ls (lv_sub hl [] rfl)
                        · rw [br_p _ hc] at hf
                          refine lv_aload_n hx hb d_M_beginsUnit_119 rfl (lv_at hl 0 rfl) ?_
                          refine lv_bipush (v := 9) hx hb d_M_beginsUnit_120 (by decide) ?_
                          obtain ⟨u9, r9, hc9, hf⟩ := bnd_some hf
                          refine mV_i (As := [.int 9]) (rest := []) C0 hP hD hS (c_M_isWord N hM hc9) k_M_isWord hl_M_isWord hi_M_isWord hs_M_isWord hini_M rfl rfl hd_M_isWord rfl (rm_M_beginsUnit_M_isWord hR) hl.1 (Nat.le_of_ble_eq_true rfl) d_M_beginsUnit_122 rfl ⟨Nat.zero_le _, Nat.zero_le _⟩ (fun H locs hP hD hS => ?_)
                          refine lv_if_ne (tgt := 137) hx hb d_M_beginsUnit_125 (by decide) (fun hc => ?_) (fun hc => ?_)
                          · rw [br_n _ hc] at hf
                            exact wb_M_beginsUnit_137 C0 hR N G hG _ _ hf H locs hP hD hS ls (lv_sub hl [] rfl)
                          · rw [br_p _ hc] at hf
                            refine lv_aload_n hx hb d_M_beginsUnit_128 rfl (lv_at hl 0 rfl) ?_
                            refine lv_bipush (v := 12) hx hb d_M_beginsUnit_129 (by decide) ?_
                            obtain ⟨u10, r10, hc10, hf⟩ := bnd_some hf
                            refine mV_i (As := [.int 12]) (rest := []) C0 hP hD hS (c_M_isWord N hM hc10) k_M_isWord hl_M_isWord hi_M_isWord hs_M_isWord hini_M rfl rfl hd_M_isWord rfl (rm_M_beginsUnit_M_isWord hR) hl.1 (Nat.le_of_ble_eq_true rfl) d_M_beginsUnit_131 rfl ⟨Nat.zero_le _, Nat.zero_le _⟩ (fun H locs hP hD hS => ?_)
                            refine lv_if_eq (tgt := 141) hx hb d_M_beginsUnit_134 (by decide) (fun hc => ?_) (fun hc => ?_)
                            · rw [br_p _ hc] at hf
                              refine lv_iconst (v := 0) hx hb d_M_beginsUnit_141 (by decide) ?_
                              exact wb_M_beginsUnit_142 C0 hR N G hG _ _ _ hf H locs hP hD hS ls (lv_sub hl [] rfl)
                            · rw [br_n _ hc] at hf
                              exact wb_M_beginsUnit_137 C0 hR N G hG _ _ hf H locs hP hD hS ls (lv_sub hl [] rfl)
def fm_M_beginsUnit (N : Nat) (u : MS) : Option (MS × Int32) := fb_M_beginsUnit_0 N () u
set_option maxRecDepth 100000 in
set_option maxHeartbeats 4000000 in
theorem c_M_beginsUnit (N : Nat) {l : Launch} {D : va_G} {cl : List vw_C} {cB cI cJ cZ cS : ClassId} {iM h0 : Nat} {ad : Nat → Nat} {u : MS} {sz : Nat} {x : MS × Int32} (hM : cl[iM]? = some (R_M, F_M, 171)) (hf : fm_M_beginsUnit N u = some x) : Met l y_M_beginsUnit (wd_ws y_M_beginsUnit b_M_beginsUnit 1 (some .boolean)) rm_M_beginsUnit (mPc D cl cB cI cJ cZ cS iM h0 ad u sz [.ref h0]) (mQi D cl cB cI cJ cZ cS iM h0 ad (mA cB cI cJ cZ cS iM h0 ad u sz) x) 0 0 (mA cB cI cJ cZ cS iM h0 ad u sz) :=
  mMet (by decide) rfl hM (Nat.le_of_ble_eq_true rfl) (fun p e s m below meth c ls hsz C0 hP hD hS hl => by
    have hR : rm_M_beginsUnit = rm_M_beginsUnit := rfl
    exact wb_M_beginsUnit_0 C0 hR N () trivial u x hf s.heap [] hP hD hS ls (lv_sub hl [0] rfl))
abbrev b_M_save : ByteArray := prog_14_method_54_code
def y_M_save : MethodName := ⟨R_M, "save", "()V"⟩
def w_M_save : List Cond := wd_ws y_M_save b_M_save 2 none
set_option maxRecDepth 100000 in
theorem k_M_save : Cond.code y_M_save b_M_save 2 none ∈ wd_tbl := wd_of 2799 rfl rfl
theorem d_M_save_0 : decode b_M_save 0 = .ok (.aload_n 0, 1) := by decide +kernel
theorem d_M_save_1 : decode b_M_save 1 = .ok (.getfield 168, 3) := by decide +kernel
theorem d_M_save_4 : decode b_M_save 4 = .ok (.aload_n 0, 1) := by decide +kernel
theorem d_M_save_5 : decode b_M_save 5 = .ok (.getfield 586, 3) := by decide +kernel
theorem d_M_save_8 : decode b_M_save 8 = .ok (.aload_n 0, 1) := by decide +kernel
theorem d_M_save_9 : decode b_M_save 9 = .ok (.getfield 448, 3) := by decide +kernel
theorem d_M_save_12 : decode b_M_save 12 = .ok (.iastore, 1) := by decide +kernel
theorem d_M_save_13 : decode b_M_save 13 = .ok (.aload_n 0, 1) := by decide +kernel
theorem d_M_save_14 : decode b_M_save 14 = .ok (.getfield 168, 3) := by decide +kernel
theorem d_M_save_17 : decode b_M_save 17 = .ok (.aload_n 0, 1) := by decide +kernel
theorem d_M_save_18 : decode b_M_save 18 = .ok (.getfield 586, 3) := by decide +kernel
theorem d_M_save_21 : decode b_M_save 21 = .ok (.iconst 1, 1) := by decide +kernel
theorem d_M_save_22 : decode b_M_save 22 = .ok (.iadd, 1) := by decide +kernel
theorem d_M_save_23 : decode b_M_save 23 = .ok (.aload_n 0, 1) := by decide +kernel
theorem d_M_save_24 : decode b_M_save 24 = .ok (.getfield 451, 3) := by decide +kernel
theorem d_M_save_27 : decode b_M_save 27 = .ok (.iastore, 1) := by decide +kernel
theorem d_M_save_28 : decode b_M_save 28 = .ok (.aload_n 0, 1) := by decide +kernel
theorem d_M_save_29 : decode b_M_save 29 = .ok (.getfield 168, 3) := by decide +kernel
theorem d_M_save_32 : decode b_M_save 32 = .ok (.aload_n 0, 1) := by decide +kernel
theorem d_M_save_33 : decode b_M_save 33 = .ok (.getfield 586, 3) := by decide +kernel
theorem d_M_save_36 : decode b_M_save 36 = .ok (.iconst 2, 1) := by decide +kernel
theorem d_M_save_37 : decode b_M_save 37 = .ok (.iadd, 1) := by decide +kernel
theorem d_M_save_38 : decode b_M_save 38 = .ok (.aload_n 0, 1) := by decide +kernel
theorem d_M_save_39 : decode b_M_save 39 = .ok (.getfield 505, 3) := by decide +kernel
theorem d_M_save_42 : decode b_M_save 42 = .ok (.iastore, 1) := by decide +kernel
theorem d_M_save_43 : decode b_M_save 43 = .ok (.aload_n 0, 1) := by decide +kernel
theorem d_M_save_44 : decode b_M_save 44 = .ok (.getfield 168, 3) := by decide +kernel
theorem d_M_save_47 : decode b_M_save 47 = .ok (.aload_n 0, 1) := by decide +kernel
theorem d_M_save_48 : decode b_M_save 48 = .ok (.getfield 586, 3) := by decide +kernel
theorem d_M_save_51 : decode b_M_save 51 = .ok (.iconst 3, 1) := by decide +kernel
theorem d_M_save_52 : decode b_M_save 52 = .ok (.iadd, 1) := by decide +kernel
theorem d_M_save_53 : decode b_M_save 53 = .ok (.aload_n 0, 1) := by decide +kernel
theorem d_M_save_54 : decode b_M_save 54 = .ok (.getfield 511, 3) := by decide +kernel
theorem d_M_save_57 : decode b_M_save 57 = .ok (.iastore, 1) := by decide +kernel
theorem d_M_save_58 : decode b_M_save 58 = .ok (.aload_n 0, 1) := by decide +kernel
theorem d_M_save_59 : decode b_M_save 59 = .ok (.getfield 168, 3) := by decide +kernel
theorem d_M_save_62 : decode b_M_save 62 = .ok (.aload_n 0, 1) := by decide +kernel
theorem d_M_save_63 : decode b_M_save 63 = .ok (.getfield 586, 3) := by decide +kernel
theorem d_M_save_66 : decode b_M_save 66 = .ok (.iconst 4, 1) := by decide +kernel
theorem d_M_save_67 : decode b_M_save 67 = .ok (.iadd, 1) := by decide +kernel
theorem d_M_save_68 : decode b_M_save 68 = .ok (.aload_n 0, 1) := by decide +kernel
theorem d_M_save_69 : decode b_M_save 69 = .ok (.getfield 514, 3) := by decide +kernel
theorem d_M_save_72 : decode b_M_save 72 = .ok (.iastore, 1) := by decide +kernel
theorem d_M_save_73 : decode b_M_save 73 = .ok (.aload_n 0, 1) := by decide +kernel
theorem d_M_save_74 : decode b_M_save 74 = .ok (.getfield 168, 3) := by decide +kernel
theorem d_M_save_77 : decode b_M_save 77 = .ok (.aload_n 0, 1) := by decide +kernel
theorem d_M_save_78 : decode b_M_save 78 = .ok (.getfield 586, 3) := by decide +kernel
theorem d_M_save_81 : decode b_M_save 81 = .ok (.iconst 5, 1) := by decide +kernel
theorem d_M_save_82 : decode b_M_save 82 = .ok (.iadd, 1) := by decide +kernel
theorem d_M_save_83 : decode b_M_save 83 = .ok (.aload_n 0, 1) := by decide +kernel
theorem d_M_save_84 : decode b_M_save 84 = .ok (.getfield 466, 3) := by decide +kernel
theorem d_M_save_87 : decode b_M_save 87 = .ok (.iastore, 1) := by decide +kernel
theorem d_M_save_88 : decode b_M_save 88 = .ok (.aload_n 0, 1) := by decide +kernel
theorem d_M_save_89 : decode b_M_save 89 = .ok (.getfield 168, 3) := by decide +kernel
theorem d_M_save_92 : decode b_M_save 92 = .ok (.aload_n 0, 1) := by decide +kernel
theorem d_M_save_93 : decode b_M_save 93 = .ok (.getfield 586, 3) := by decide +kernel
theorem d_M_save_96 : decode b_M_save 96 = .ok (.bipush 6, 2) := by decide +kernel
theorem d_M_save_98 : decode b_M_save 98 = .ok (.iadd, 1) := by decide +kernel
theorem d_M_save_99 : decode b_M_save 99 = .ok (.aload_n 0, 1) := by decide +kernel
theorem d_M_save_100 : decode b_M_save 100 = .ok (.getfield 463, 3) := by decide +kernel
theorem d_M_save_103 : decode b_M_save 103 = .ok (.iastore, 1) := by decide +kernel
theorem d_M_save_104 : decode b_M_save 104 = .ok (.aload_n 0, 1) := by decide +kernel
theorem d_M_save_105 : decode b_M_save 105 = .ok (.getfield 168, 3) := by decide +kernel
theorem d_M_save_108 : decode b_M_save 108 = .ok (.aload_n 0, 1) := by decide +kernel
theorem d_M_save_109 : decode b_M_save 109 = .ok (.getfield 586, 3) := by decide +kernel
theorem d_M_save_112 : decode b_M_save 112 = .ok (.bipush 7, 2) := by decide +kernel
theorem d_M_save_114 : decode b_M_save 114 = .ok (.iadd, 1) := by decide +kernel
theorem d_M_save_115 : decode b_M_save 115 = .ok (.aload_n 0, 1) := by decide +kernel
theorem d_M_save_116 : decode b_M_save 116 = .ok (.getfield 496, 3) := by decide +kernel
theorem d_M_save_119 : decode b_M_save 119 = .ok (.ifCond .eq 7, 3) := by decide +kernel
theorem d_M_save_122 : decode b_M_save 122 = .ok (.iconst 1, 1) := by decide +kernel
theorem d_M_save_123 : decode b_M_save 123 = .ok (.goto 4, 3) := by decide +kernel
theorem d_M_save_126 : decode b_M_save 126 = .ok (.iconst 0, 1) := by decide +kernel
theorem d_M_save_127 : decode b_M_save 127 = .ok (.iastore, 1) := by decide +kernel
theorem d_M_save_128 : decode b_M_save 128 = .ok (.aload_n 0, 1) := by decide +kernel
theorem d_M_save_129 : decode b_M_save 129 = .ok (.dup, 1) := by decide +kernel
theorem d_M_save_130 : decode b_M_save 130 = .ok (.getfield 586, 3) := by decide +kernel
theorem d_M_save_133 : decode b_M_save 133 = .ok (.bipush 8, 2) := by decide +kernel
theorem d_M_save_135 : decode b_M_save 135 = .ok (.iadd, 1) := by decide +kernel
theorem d_M_save_136 : decode b_M_save 136 = .ok (.putfield 586, 3) := by decide +kernel
theorem d_M_save_139 : decode b_M_save 139 = .ok (.iconst 0, 1) := by decide +kernel
theorem d_M_save_140 : decode b_M_save 140 = .ok (.istore_n 1, 1) := by decide +kernel
theorem d_M_save_141 : decode b_M_save 141 = .ok (.iload_n 1, 1) := by decide +kernel
theorem d_M_save_142 : decode b_M_save 142 = .ok (.aload_n 0, 1) := by decide +kernel
theorem d_M_save_143 : decode b_M_save 143 = .ok (.getfield 493, 3) := by decide +kernel
theorem d_M_save_146 : decode b_M_save 146 = .ok (.if_icmp .gt 49, 3) := by decide +kernel
theorem d_M_save_149 : decode b_M_save 149 = .ok (.aload_n 0, 1) := by decide +kernel
theorem d_M_save_150 : decode b_M_save 150 = .ok (.getfield 171, 3) := by decide +kernel
theorem d_M_save_153 : decode b_M_save 153 = .ok (.aload_n 0, 1) := by decide +kernel
theorem d_M_save_154 : decode b_M_save 154 = .ok (.getfield 589, 3) := by decide +kernel
theorem d_M_save_157 : decode b_M_save 157 = .ok (.iconst 2, 1) := by decide +kernel
theorem d_M_save_158 : decode b_M_save 158 = .ok (.iload_n 1, 1) := by decide +kernel
theorem d_M_save_159 : decode b_M_save 159 = .ok (.imul, 1) := by decide +kernel
theorem d_M_save_160 : decode b_M_save 160 = .ok (.iadd, 1) := by decide +kernel
theorem d_M_save_161 : decode b_M_save 161 = .ok (.aload_n 0, 1) := by decide +kernel
theorem d_M_save_162 : decode b_M_save 162 = .ok (.getfield 153, 3) := by decide +kernel
theorem d_M_save_165 : decode b_M_save 165 = .ok (.iload_n 1, 1) := by decide +kernel
theorem d_M_save_166 : decode b_M_save 166 = .ok (.iaload, 1) := by decide +kernel
theorem d_M_save_167 : decode b_M_save 167 = .ok (.iastore, 1) := by decide +kernel
theorem d_M_save_168 : decode b_M_save 168 = .ok (.aload_n 0, 1) := by decide +kernel
theorem d_M_save_169 : decode b_M_save 169 = .ok (.getfield 171, 3) := by decide +kernel
theorem d_M_save_172 : decode b_M_save 172 = .ok (.aload_n 0, 1) := by decide +kernel
theorem d_M_save_173 : decode b_M_save 173 = .ok (.getfield 589, 3) := by decide +kernel
theorem d_M_save_176 : decode b_M_save 176 = .ok (.iconst 2, 1) := by decide +kernel
theorem d_M_save_177 : decode b_M_save 177 = .ok (.iload_n 1, 1) := by decide +kernel
theorem d_M_save_178 : decode b_M_save 178 = .ok (.imul, 1) := by decide +kernel
theorem d_M_save_179 : decode b_M_save 179 = .ok (.iadd, 1) := by decide +kernel
theorem d_M_save_180 : decode b_M_save 180 = .ok (.iconst 1, 1) := by decide +kernel
theorem d_M_save_181 : decode b_M_save 181 = .ok (.iadd, 1) := by decide +kernel
theorem d_M_save_182 : decode b_M_save 182 = .ok (.aload_n 0, 1) := by decide +kernel
theorem d_M_save_183 : decode b_M_save 183 = .ok (.getfield 162, 3) := by decide +kernel
theorem d_M_save_186 : decode b_M_save 186 = .ok (.iload_n 1, 1) := by decide +kernel
theorem d_M_save_187 : decode b_M_save 187 = .ok (.iaload, 1) := by decide +kernel
theorem d_M_save_188 : decode b_M_save 188 = .ok (.iastore, 1) := by decide +kernel
theorem d_M_save_189 : decode b_M_save 189 = .ok (.iinc 1 1, 3) := by decide +kernel
theorem d_M_save_192 : decode b_M_save 192 = .ok (.goto (-51), 3) := by decide +kernel
theorem d_M_save_195 : decode b_M_save 195 = .ok (.aload_n 0, 1) := by decide +kernel
theorem d_M_save_196 : decode b_M_save 196 = .ok (.dup, 1) := by decide +kernel
theorem d_M_save_197 : decode b_M_save 197 = .ok (.getfield 589, 3) := by decide +kernel
theorem d_M_save_200 : decode b_M_save 200 = .ok (.bipush 54, 2) := by decide +kernel
theorem d_M_save_202 : decode b_M_save 202 = .ok (.iadd, 1) := by decide +kernel
theorem d_M_save_203 : decode b_M_save 203 = .ok (.putfield 589, 3) := by decide +kernel
theorem d_M_save_206 : decode b_M_save 206 = .ok (.return_, 1) := by decide +kernel
set_option maxRecDepth 100000 in
theorem hl_M_save : Cond.methodLink R_M 592 y_M_save ∈ wd_tbl := wd_of 2796 (by decide +kernel) rfl
set_option maxRecDepth 100000 in
theorem hi_M_save : Cond.instanceMethod y_M_save ∈ wd_tbl := wd_of 2798 (by decide +kernel) rfl
set_option maxRecDepth 100000 in
theorem hs_M_save : Cond.selects R_M y_M_save y_M_save ∈ wd_tbl := wd_of 163 (by decide +kernel) rfl
theorem hd_M_save : y_M_save.cls = R_M ∧ y_M_save.cls ≠ "java/lang/invoke/MethodHandle" ∧ y_M_save.cls ≠ "java/lang/invoke/VarHandle" ∧ (parseMethodDescriptor y_M_save.desc).map (fun d => d.parameters.length) = some 0 := by decide +kernel
def rm_M_save : Room := { frames := 0, cells := 0, slots := 0, locals := 0 }
def fb_M_save_141 (N : Nat) (G : (MS → Int32 → Option (MS × Unit))) (u : MS) (v1 : Int32) : Option (MS × Unit) := br (decide ((u.1 65) < v1)) (lt (upI u 77 ((u.1 77) + 54)) (fun w1 => some (w1, ()))) (ck (inb v1 (ln 60)) (ck (inb ((u.1 77) + (2 * v1)) (ln 76)) (lt (upA u 76 (upd (u.2.2.1 76) ((u.1 77) + (2 * v1)).toNatClampNeg (u.2.2.1 60 v1.toNatClampNeg))) (fun w2 => ck (inb v1 (ln 63)) (ck (inb (((w2.1 77) + (2 * v1)) + 1) (ln 76)) (lt (upA w2 76 (upd (w2.2.2.1 76) (((w2.1 77) + (2 * v1)) + 1).toNatClampNeg (w2.2.2.1 63 v1.toNatClampNeg))) (fun w3 => G w3 ((v1 + 1)))))))))
set_option maxRecDepth 100000 in
set_option maxHeartbeats 4000000 in
theorem wb_M_save_141 {p : Program} {l : Launch} {e : Env} {R : Room} {s : State} {m : MethodId} {args : Array Value} {below : List Frame} {meth : Method} {c : Code} {D : va_G} {cl : List vw_C} {cB cI cJ cZ cS : ClassId} {A : Nat → Prop} {iM h0 : Nat} {ad : Nat → Nat} (C0 : MCx p s m args meth c b_M_save 2 none D cl cB cI cJ cZ cS iM A) (hR : R = rm_M_save) (N : Nat) (G : (MS → Int32 → Option (MS × Unit))) (hG : (∀ (u : MS) (v1 : Int32) (x : MS × Unit), G u v1 = some x → ∀ (H : Heap) (locs : List Loc), va_P D cl (wM cB cI cJ cZ cS iM h0 ad u) H → va_D A (wM cB cI cJ cZ cS iM h0 ad u) → va_S A s.heap H locs → ∀ (ls : Array Slot), lv_has ls 2 [(0, .ref h0), (1, .int v1)] → W p l e R s m args below meth c H locs 0 0 (MQ below (mQv D cl cB cI cJ cZ cS iM h0 ad A x) args s 0 0 A) (F0 m 141 ls []))) : ∀ (u : MS) (v1 : Int32) (x : MS × Unit), fb_M_save_141 N G u v1 = some x → ∀ (H : Heap) (locs : List Loc), va_P D cl (wM cB cI cJ cZ cS iM h0 ad u) H → va_D A (wM cB cI cJ cZ cS iM h0 ad u) → va_S A s.heap H locs → ∀ (ls : Array Slot), lv_has ls 2 [(0, .ref h0), (1, .int v1)] → W p l e R s m args below meth c H locs 0 0 (MQ below (mQv D cl cB cI cJ cZ cS iM h0 ad A x) args s 0 0 A) (F0 m 141 ls []) := by
  intro u v1 x hf H locs hP hD hS ls hl
  obtain ⟨hx, hb, hr, hml, ht, hown, hM, hK, hA, hlocks⟩ := id C0
  unfold fb_M_save_141 at hf
  refine lv_iload_n hx hb d_M_save_141 rfl (lv_at hl 1 rfl) ?_
  refine lv_aload_n hx hb d_M_save_142 rfl (lv_at hl 0 rfl) ?_
  refine ug_I hx hb ht hown hM hK hP 65 (by decide) lk_M_65 (by decide) d_M_save_143 ?_
  refine lv_icmp_gt (tgt := 195) hx hb d_M_save_146 (by decide) (fun hc => ?_) (fun hc => ?_)
  · rw [br_p _ hc] at hf
    refine lv_aload_n hx hb d_M_save_195 rfl (lv_at hl 0 rfl) ?_
    refine lv_dup hx hb d_M_save_196 rfl ?_
    refine ug_I hx hb ht hown hM hK hP 77 (by decide) lk_M_77 (by decide) d_M_save_197 ?_
    refine lv_bipush (v := 54) hx hb d_M_save_200 (by decide) ?_
    refine lv_iadd hx hb d_M_save_202 ?_
    refine up_I hx hb ht hown hM hK hP hD hS 77 (by decide) lk_M_77 (by decide) rfl rfl rfl d_M_save_203 (fun H locs hP hD hS => ?_)
    obtain ⟨w1, e1, hf⟩ := lt_some hf
    rw [← e1] at hP hD
    exact mr_v C0 hP hD hS hf d_M_save_206
  · rw [br_n _ hc] at hf
    refine lv_aload_n hx hb d_M_save_149 rfl (lv_at hl 0 rfl) ?_
    refine ug_R hx hb ht hown hM hK hP 76 (by decide) lk_M_76 (by decide) d_M_save_150 ?_
    refine lv_aload_n hx hb d_M_save_153 rfl (lv_at hl 0 rfl) ?_
    refine ug_I hx hb ht hown hM hK hP 77 (by decide) lk_M_77 (by decide) d_M_save_154 ?_
    refine lv_iconst (v := 2) hx hb d_M_save_157 (by decide) ?_
    refine lv_iload_n hx hb d_M_save_158 rfl (lv_at hl 1 rfl) ?_
    refine lv_imul hx hb d_M_save_159 ?_
    refine lv_iadd hx hb d_M_save_160 ?_
    refine lv_aload_n hx hb d_M_save_161 rfl (lv_at hl 0 rfl) ?_
    refine ug_R hx hb ht hown hM hK hP 60 (by decide) lk_M_60 (by decide) d_M_save_162 ?_
    refine lv_iload_n hx hb d_M_save_165 rfl (lv_at hl 1 rfl) ?_
    obtain ⟨hi9, hf⟩ := ck_some hf
    refine ul_I hx hb hK hP (by decide) (by decide) hi9 d_M_save_166 ?_
    obtain ⟨hi9, hf⟩ := ck_some hf
    refine us_I hx hb hK hP hD hS (by decide) (by decide) hi9 d_M_save_167 (fun H locs hP hD hS => ?_)
    obtain ⟨w2, e2, hf⟩ := lt_some hf
    rw [← e2] at hP hD
    refine lv_aload_n hx hb d_M_save_168 rfl (lv_at hl 0 rfl) ?_
    refine ug_R hx hb ht hown hM hK hP 76 (by decide) lk_M_76 (by decide) d_M_save_169 ?_
    refine lv_aload_n hx hb d_M_save_172 rfl (lv_at hl 0 rfl) ?_
    refine ug_I hx hb ht hown hM hK hP 77 (by decide) lk_M_77 (by decide) d_M_save_173 ?_
    refine lv_iconst (v := 2) hx hb d_M_save_176 (by decide) ?_
    refine lv_iload_n hx hb d_M_save_177 rfl (lv_at hl 1 rfl) ?_
    refine lv_imul hx hb d_M_save_178 ?_
    refine lv_iadd hx hb d_M_save_179 ?_
    refine lv_iconst (v := 1) hx hb d_M_save_180 (by decide) ?_
    refine lv_iadd hx hb d_M_save_181 ?_
    refine lv_aload_n hx hb d_M_save_182 rfl (lv_at hl 0 rfl) ?_
    refine ug_R hx hb ht hown hM hK hP 63 (by decide) lk_M_63 (by decide) d_M_save_183 ?_
    refine lv_iload_n hx hb d_M_save_186 rfl (lv_at hl 1 rfl) ?_
    obtain ⟨hi9, hf⟩ := ck_some hf
    refine ul_I hx hb hK hP (by decide) (by decide) hi9 d_M_save_187 ?_
    obtain ⟨hi9, hf⟩ := ck_some hf
    refine us_I hx hb hK hP hD hS (by decide) (by decide) hi9 d_M_save_188 (fun H locs hP hD hS => ?_)
    obtain ⟨w3, e3, hf⟩ := lt_some hf
    rw [← e3] at hP hD
    refine lv_iinc (v := (v1 + 1)) (lv' := [(1, .int (v1 + 1)), (0, .ref h0)]) hx hb d_M_save_189 hl (k := 1) rfl rfl (by decide) rfl (fun ls hl => ?_)
    refine lv_goto (tgt := 141) hx hb d_M_save_192 (by decide) ?_
    exact hG _ _ _ hf H locs hP hD hS ls (lv_sub hl [1, 0] rfl)
def fb_M_save_127 (N : Nat) (G : (MS → Int32 → Option (MS × Unit))) (u : MS) (t0 : Nat) (t1 : Int32) (t2 : Int32) : Option (MS × Unit) := ck (isK t0 4) (ck (inb t1 (ln t0)) (lt (upA u t0 (upd (u.2.2.1 t0) t1.toNatClampNeg t2)) (fun w4 => lt (upI w4 75 ((w4.1 75) + 8)) (fun w5 => G w5 (0)))))
set_option maxRecDepth 100000 in
set_option maxHeartbeats 4000000 in
theorem wb_M_save_127 {p : Program} {l : Launch} {e : Env} {R : Room} {s : State} {m : MethodId} {args : Array Value} {below : List Frame} {meth : Method} {c : Code} {D : va_G} {cl : List vw_C} {cB cI cJ cZ cS : ClassId} {A : Nat → Prop} {iM h0 : Nat} {ad : Nat → Nat} (C0 : MCx p s m args meth c b_M_save 2 none D cl cB cI cJ cZ cS iM A) (hR : R = rm_M_save) (N : Nat) (G : (MS → Int32 → Option (MS × Unit))) (hG : (∀ (u : MS) (v1 : Int32) (x : MS × Unit), G u v1 = some x → ∀ (H : Heap) (locs : List Loc), va_P D cl (wM cB cI cJ cZ cS iM h0 ad u) H → va_D A (wM cB cI cJ cZ cS iM h0 ad u) → va_S A s.heap H locs → ∀ (ls : Array Slot), lv_has ls 2 [(0, .ref h0), (1, .int v1)] → W p l e R s m args below meth c H locs 0 0 (MQ below (mQv D cl cB cI cJ cZ cS iM h0 ad A x) args s 0 0 A) (F0 m 141 ls []))) : ∀ (u : MS) (t0 : Nat) (t1 : Int32) (t2 : Int32) (x : MS × Unit), fb_M_save_127 N G u t0 t1 t2 = some x → ∀ (H : Heap) (locs : List Loc), va_P D cl (wM cB cI cJ cZ cS iM h0 ad u) H → va_D A (wM cB cI cJ cZ cS iM h0 ad u) → va_S A s.heap H locs → ∀ (ls : Array Slot), lv_has ls 2 [(0, .ref h0)] → W p l e R s m args below meth c H locs 0 0 (MQ below (mQv D cl cB cI cJ cZ cS iM h0 ad A x) args s 0 0 A) (F0 m 127 ls [.int t2, .int t1, .ref (ad t0)]) := by
  intro u t0 t1 t2 x hf H locs hP hD hS ls hl
  obtain ⟨hx, hb, hr, hml, ht, hown, hM, hK, hA, hlocks⟩ := id C0
  unfold fb_M_save_127 at hf
  obtain ⟨hk9, hf⟩ := ck_some hf
  obtain ⟨hi9, hf⟩ := ck_some hf
  refine us_I hx hb hK hP hD hS (isK_1 hk9) (isK_2 hk9) hi9 d_M_save_127 (fun H locs hP hD hS => ?_)
  obtain ⟨w4, e4, hf⟩ := lt_some hf
  rw [← e4] at hP hD
  refine lv_aload_n hx hb d_M_save_128 rfl (lv_at hl 0 rfl) ?_
  refine lv_dup hx hb d_M_save_129 rfl ?_
  refine ug_I hx hb ht hown hM hK hP 75 (by decide) lk_M_75 (by decide) d_M_save_130 ?_
  refine lv_bipush (v := 8) hx hb d_M_save_133 (by decide) ?_
  refine lv_iadd hx hb d_M_save_135 ?_
  refine up_I hx hb ht hown hM hK hP hD hS 75 (by decide) lk_M_75 (by decide) rfl rfl rfl d_M_save_136 (fun H locs hP hD hS => ?_)
  obtain ⟨w5, e5, hf⟩ := lt_some hf
  rw [← e5] at hP hD
  refine lv_iconst (v := 0) hx hb d_M_save_139 (by decide) ?_
  refine lv_istore_n (lv' := [(1, .int 0), (0, .ref h0)]) hx hb d_M_save_140 rfl hl (by decide) rfl (fun ls hl => ?_)
  exact hG _ _ _ hf H locs hP hD hS ls (lv_sub hl [1, 0] rfl)
def fb_M_save_0 (N : Nat) (G : (MS → Int32 → Option (MS × Unit))) (u : MS) : Option (MS × Unit) := ck (inb (u.1 75) (ln 74)) (lt (upA u 74 (upd (u.2.2.1 74) (u.1 75).toNatClampNeg (u.1 32))) (fun w6 => ck (inb ((w6.1 75) + 1) (ln 74)) (lt (upA w6 74 (upd (w6.2.2.1 74) ((w6.1 75) + 1).toNatClampNeg (w6.1 39))) (fun w7 => ck (inb ((w7.1 75) + 2) (ln 74)) (lt (upA w7 74 (upd (w7.2.2.1 74) ((w7.1 75) + 2).toNatClampNeg (w7.1 46))) (fun w8 => ck (inb ((w8.1 75) + 3) (ln 74)) (lt (upA w8 74 (upd (w8.2.2.1 74) ((w8.1 75) + 3).toNatClampNeg (w8.1 56))) (fun w9 => ck (inb ((w9.1 75) + 4) (ln 74)) (lt (upA w9 74 (upd (w9.2.2.1 74) ((w9.1 75) + 4).toNatClampNeg (w9.1 58))) (fun w10 => ck (inb ((w10.1 75) + 5) (ln 74)) (lt (upA w10 74 (upd (w10.2.2.1 74) ((w10.1 75) + 5).toNatClampNeg (w10.1 71))) (fun w11 => ck (inb ((w11.1 75) + 6) (ln 74)) (lt (upA w11 74 (upd (w11.2.2.1 74) ((w11.1 75) + 6).toNatClampNeg (w11.1 72))) (fun w12 => br (decide ((w12.1 66) = 0)) (fb_M_save_127 N G w12 (74) (((w12.1 75) + 7)) (0)) (fb_M_save_127 N G w12 (74) (((w12.1 75) + 7)) (1))))))))))))))))
set_option maxRecDepth 100000 in
set_option maxHeartbeats 4000000 in
theorem wb_M_save_0 {p : Program} {l : Launch} {e : Env} {R : Room} {s : State} {m : MethodId} {args : Array Value} {below : List Frame} {meth : Method} {c : Code} {D : va_G} {cl : List vw_C} {cB cI cJ cZ cS : ClassId} {A : Nat → Prop} {iM h0 : Nat} {ad : Nat → Nat} (C0 : MCx p s m args meth c b_M_save 2 none D cl cB cI cJ cZ cS iM A) (hR : R = rm_M_save) (N : Nat) (G : (MS → Int32 → Option (MS × Unit))) (hG : (∀ (u : MS) (v1 : Int32) (x : MS × Unit), G u v1 = some x → ∀ (H : Heap) (locs : List Loc), va_P D cl (wM cB cI cJ cZ cS iM h0 ad u) H → va_D A (wM cB cI cJ cZ cS iM h0 ad u) → va_S A s.heap H locs → ∀ (ls : Array Slot), lv_has ls 2 [(0, .ref h0), (1, .int v1)] → W p l e R s m args below meth c H locs 0 0 (MQ below (mQv D cl cB cI cJ cZ cS iM h0 ad A x) args s 0 0 A) (F0 m 141 ls []))) : ∀ (u : MS) (x : MS × Unit), fb_M_save_0 N G u = some x → ∀ (H : Heap) (locs : List Loc), va_P D cl (wM cB cI cJ cZ cS iM h0 ad u) H → va_D A (wM cB cI cJ cZ cS iM h0 ad u) → va_S A s.heap H locs → ∀ (ls : Array Slot), lv_has ls 2 [(0, .ref h0)] → W p l e R s m args below meth c H locs 0 0 (MQ below (mQv D cl cB cI cJ cZ cS iM h0 ad A x) args s 0 0 A) (F0 m 0 ls []) := by
  intro u x hf H locs hP hD hS ls hl
  obtain ⟨hx, hb, hr, hml, ht, hown, hM, hK, hA, hlocks⟩ := id C0
  unfold fb_M_save_0 at hf
  refine lv_aload_n hx hb d_M_save_0 rfl (lv_at hl 0 rfl) ?_
  refine ug_R hx hb ht hown hM hK hP 74 (by decide) lk_M_74 (by decide) d_M_save_1 ?_
  refine lv_aload_n hx hb d_M_save_4 rfl (lv_at hl 0 rfl) ?_
  refine ug_I hx hb ht hown hM hK hP 75 (by decide) lk_M_75 (by decide) d_M_save_5 ?_
  refine lv_aload_n hx hb d_M_save_8 rfl (lv_at hl 0 rfl) ?_
  refine ug_I hx hb ht hown hM hK hP 32 (by decide) lk_M_32 (by decide) d_M_save_9 ?_
  obtain ⟨hi9, hf⟩ := ck_some hf
  refine us_I hx hb hK hP hD hS (by decide) (by decide) hi9 d_M_save_12 (fun H locs hP hD hS => ?_)
  obtain ⟨w6, e6, hf⟩ := lt_some hf
  rw [← e6] at hP hD
  refine lv_aload_n hx hb d_M_save_13 rfl (lv_at hl 0 rfl) ?_
  refine ug_R hx hb ht hown hM hK hP 74 (by decide) lk_M_74 (by decide) d_M_save_14 ?_
  refine lv_aload_n hx hb d_M_save_17 rfl (lv_at hl 0 rfl) ?_
  refine ug_I hx hb ht hown hM hK hP 75 (by decide) lk_M_75 (by decide) d_M_save_18 ?_
  refine lv_iconst (v := 1) hx hb d_M_save_21 (by decide) ?_
  refine lv_iadd hx hb d_M_save_22 ?_
  refine lv_aload_n hx hb d_M_save_23 rfl (lv_at hl 0 rfl) ?_
  refine ug_I hx hb ht hown hM hK hP 39 (by decide) lk_M_39 (by decide) d_M_save_24 ?_
  obtain ⟨hi9, hf⟩ := ck_some hf
  refine us_I hx hb hK hP hD hS (by decide) (by decide) hi9 d_M_save_27 (fun H locs hP hD hS => ?_)
  obtain ⟨w7, e7, hf⟩ := lt_some hf
  rw [← e7] at hP hD
  refine lv_aload_n hx hb d_M_save_28 rfl (lv_at hl 0 rfl) ?_
  refine ug_R hx hb ht hown hM hK hP 74 (by decide) lk_M_74 (by decide) d_M_save_29 ?_
  refine lv_aload_n hx hb d_M_save_32 rfl (lv_at hl 0 rfl) ?_
  refine ug_I hx hb ht hown hM hK hP 75 (by decide) lk_M_75 (by decide) d_M_save_33 ?_
  refine lv_iconst (v := 2) hx hb d_M_save_36 (by decide) ?_
  refine lv_iadd hx hb d_M_save_37 ?_
  refine lv_aload_n hx hb d_M_save_38 rfl (lv_at hl 0 rfl) ?_
  refine ug_I hx hb ht hown hM hK hP 46 (by decide) lk_M_46 (by decide) d_M_save_39 ?_
  obtain ⟨hi9, hf⟩ := ck_some hf
  refine us_I hx hb hK hP hD hS (by decide) (by decide) hi9 d_M_save_42 (fun H locs hP hD hS => ?_)
  obtain ⟨w8, e8, hf⟩ := lt_some hf
  rw [← e8] at hP hD
  refine lv_aload_n hx hb d_M_save_43 rfl (lv_at hl 0 rfl) ?_
  refine ug_R hx hb ht hown hM hK hP 74 (by decide) lk_M_74 (by decide) d_M_save_44 ?_
  refine lv_aload_n hx hb d_M_save_47 rfl (lv_at hl 0 rfl) ?_
  refine ug_I hx hb ht hown hM hK hP 75 (by decide) lk_M_75 (by decide) d_M_save_48 ?_
  refine lv_iconst (v := 3) hx hb d_M_save_51 (by decide) ?_
  refine lv_iadd hx hb d_M_save_52 ?_
  refine lv_aload_n hx hb d_M_save_53 rfl (lv_at hl 0 rfl) ?_
  refine ug_I hx hb ht hown hM hK hP 56 (by decide) lk_M_56 (by decide) d_M_save_54 ?_
  obtain ⟨hi9, hf⟩ := ck_some hf
  refine us_I hx hb hK hP hD hS (by decide) (by decide) hi9 d_M_save_57 (fun H locs hP hD hS => ?_)
  obtain ⟨w9, e9, hf⟩ := lt_some hf
  rw [← e9] at hP hD
  refine lv_aload_n hx hb d_M_save_58 rfl (lv_at hl 0 rfl) ?_
  refine ug_R hx hb ht hown hM hK hP 74 (by decide) lk_M_74 (by decide) d_M_save_59 ?_
  refine lv_aload_n hx hb d_M_save_62 rfl (lv_at hl 0 rfl) ?_
  refine ug_I hx hb ht hown hM hK hP 75 (by decide) lk_M_75 (by decide) d_M_save_63 ?_
  refine lv_iconst (v := 4) hx hb d_M_save_66 (by decide) ?_
  refine lv_iadd hx hb d_M_save_67 ?_
  refine lv_aload_n hx hb d_M_save_68 rfl (lv_at hl 0 rfl) ?_
  refine ug_I hx hb ht hown hM hK hP 58 (by decide) lk_M_58 (by decide) d_M_save_69 ?_
  obtain ⟨hi9, hf⟩ := ck_some hf
  refine us_I hx hb hK hP hD hS (by decide) (by decide) hi9 d_M_save_72 (fun H locs hP hD hS => ?_)
  obtain ⟨w10, e10, hf⟩ := lt_some hf
  rw [← e10] at hP hD
  refine lv_aload_n hx hb d_M_save_73 rfl (lv_at hl 0 rfl) ?_
  refine ug_R hx hb ht hown hM hK hP 74 (by decide) lk_M_74 (by decide) d_M_save_74 ?_
  refine lv_aload_n hx hb d_M_save_77 rfl (lv_at hl 0 rfl) ?_
  refine ug_I hx hb ht hown hM hK hP 75 (by decide) lk_M_75 (by decide) d_M_save_78 ?_
  refine lv_iconst (v := 5) hx hb d_M_save_81 (by decide) ?_
  refine lv_iadd hx hb d_M_save_82 ?_
  refine lv_aload_n hx hb d_M_save_83 rfl (lv_at hl 0 rfl) ?_
  refine ug_I hx hb ht hown hM hK hP 71 (by decide) lk_M_71 (by decide) d_M_save_84 ?_
  obtain ⟨hi9, hf⟩ := ck_some hf
  refine us_I hx hb hK hP hD hS (by decide) (by decide) hi9 d_M_save_87 (fun H locs hP hD hS => ?_)
  obtain ⟨w11, e11, hf⟩ := lt_some hf
  rw [← e11] at hP hD
  refine lv_aload_n hx hb d_M_save_88 rfl (lv_at hl 0 rfl) ?_
  refine ug_R hx hb ht hown hM hK hP 74 (by decide) lk_M_74 (by decide) d_M_save_89 ?_
  refine lv_aload_n hx hb d_M_save_92 rfl (lv_at hl 0 rfl) ?_
  refine ug_I hx hb ht hown hM hK hP 75 (by decide) lk_M_75 (by decide) d_M_save_93 ?_
  refine lv_bipush (v := 6) hx hb d_M_save_96 (by decide) ?_
  refine lv_iadd hx hb d_M_save_98 ?_
  refine lv_aload_n hx hb d_M_save_99 rfl (lv_at hl 0 rfl) ?_
  refine ug_I hx hb ht hown hM hK hP 72 (by decide) lk_M_72 (by decide) d_M_save_100 ?_
  obtain ⟨hi9, hf⟩ := ck_some hf
  refine us_I hx hb hK hP hD hS (by decide) (by decide) hi9 d_M_save_103 (fun H locs hP hD hS => ?_)
  obtain ⟨w12, e12, hf⟩ := lt_some hf
  rw [← e12] at hP hD
  refine lv_aload_n hx hb d_M_save_104 rfl (lv_at hl 0 rfl) ?_
  refine ug_R hx hb ht hown hM hK hP 74 (by decide) lk_M_74 (by decide) d_M_save_105 ?_
  refine lv_aload_n hx hb d_M_save_108 rfl (lv_at hl 0 rfl) ?_
  refine ug_I hx hb ht hown hM hK hP 75 (by decide) lk_M_75 (by decide) d_M_save_109 ?_
  refine lv_bipush (v := 7) hx hb d_M_save_112 (by decide) ?_
  refine lv_iadd hx hb d_M_save_114 ?_
  refine lv_aload_n hx hb d_M_save_115 rfl (lv_at hl 0 rfl) ?_
  refine ug_I hx hb ht hown hM hK hP 66 (by decide) lk_M_66 (by decide) d_M_save_116 ?_
  refine lv_if_eq (tgt := 126) hx hb d_M_save_119 (by decide) (fun hc => ?_) (fun hc => ?_)
  · rw [br_p _ hc] at hf
    refine lv_iconst (v := 0) hx hb d_M_save_126 (by decide) ?_
    exact wb_M_save_127 C0 hR N G hG _ _ _ _ _ hf H locs hP hD hS ls (lv_sub hl [0] rfl)
  · rw [br_n _ hc] at hf
    refine lv_iconst (v := 1) hx hb d_M_save_122 (by decide) ?_
    refine lv_goto (tgt := 127) hx hb d_M_save_123 (by decide) ?_
    exact wb_M_save_127 C0 hR N G hG _ _ _ _ _ hf H locs hP hD hS ls (lv_sub hl [0] rfl)
def gg_M_save (N : Nat) : Nat → ((MS → Int32 → Option (MS × Unit)))
  | 0 => fun _ _ => none
  | n + 1 => fb_M_save_141 N (gg_M_save N n)
theorem wg_M_save {p : Program} {l : Launch} {e : Env} {R : Room} {s : State} {m : MethodId} {args : Array Value} {below : List Frame} {meth : Method} {c : Code} {D : va_G} {cl : List vw_C} {cB cI cJ cZ cS : ClassId} {A : Nat → Prop} {iM h0 : Nat} {ad : Nat → Nat} (C0 : MCx p s m args meth c b_M_save 2 none D cl cB cI cJ cZ cS iM A) (hR : R = rm_M_save) (N : Nat) : ∀ n : Nat, (∀ (u : MS) (v1 : Int32) (x : MS × Unit), gg_M_save N n u v1 = some x → ∀ (H : Heap) (locs : List Loc), va_P D cl (wM cB cI cJ cZ cS iM h0 ad u) H → va_D A (wM cB cI cJ cZ cS iM h0 ad u) → va_S A s.heap H locs → ∀ (ls : Array Slot), lv_has ls 2 [(0, .ref h0), (1, .int v1)] → W p l e R s m args below meth c H locs 0 0 (MQ below (mQv D cl cB cI cJ cZ cS iM h0 ad A x) args s 0 0 A) (F0 m 141 ls []))
  | 0 => (fun u v1 x hf => by cases hf)
  | n + 1 => wb_M_save_141 C0 hR N (gg_M_save N n) (wg_M_save C0 hR N n)
def fm_M_save (N : Nat) (u : MS) : Option (MS × Unit) := fb_M_save_0 N (gg_M_save N N) u
set_option maxRecDepth 100000 in
set_option maxHeartbeats 4000000 in
theorem c_M_save (N : Nat) {l : Launch} {D : va_G} {cl : List vw_C} {cB cI cJ cZ cS : ClassId} {iM h0 : Nat} {ad : Nat → Nat} {u : MS} {sz : Nat} {x : MS × Unit} (hM : cl[iM]? = some (R_M, F_M, 171)) (hf : fm_M_save N u = some x) : Met l y_M_save (wd_ws y_M_save b_M_save 2 none) rm_M_save (mPc D cl cB cI cJ cZ cS iM h0 ad u sz [.ref h0]) (mQv D cl cB cI cJ cZ cS iM h0 ad (mA cB cI cJ cZ cS iM h0 ad u sz) x) 0 0 (mA cB cI cJ cZ cS iM h0 ad u sz) :=
  mMet (by decide) rfl hM (Nat.le_of_ble_eq_true rfl) (fun p e s m below meth c ls hsz C0 hP hD hS hl => by
    have hR : rm_M_save = rm_M_save := rfl
    exact wb_M_save_0 C0 hR N (gg_M_save N N) (wg_M_save C0 hR N N) u x hf s.heap [] hP hD hS ls (lv_sub hl [0] rfl))
abbrev b_M_addRoot : ByteArray := prog_14_method_45_code
def y_M_addRoot : MethodName := ⟨R_M, "addRoot", "(II)V"⟩
def w_M_addRoot : List Cond := wd_ws y_M_addRoot b_M_addRoot 3 none
set_option maxRecDepth 100000 in
theorem k_M_addRoot : Cond.code y_M_addRoot b_M_addRoot 3 none ∈ wd_tbl := wd_of 2839 rfl rfl
theorem d_M_addRoot_0 : decode b_M_addRoot 0 = .ok (.iload_n 2, 1) := by decide +kernel
theorem d_M_addRoot_1 : decode b_M_addRoot 1 = .ok (.iconst (-1), 1) := by decide +kernel
theorem d_M_addRoot_2 : decode b_M_addRoot 2 = .ok (.if_icmp .eq 22, 3) := by decide +kernel
theorem d_M_addRoot_5 : decode b_M_addRoot 5 = .ok (.aload_n 0, 1) := by decide +kernel
theorem d_M_addRoot_6 : decode b_M_addRoot 6 = .ok (.getfield 75, 3) := by decide +kernel
theorem d_M_addRoot_9 : decode b_M_addRoot 9 = .ok (.iload_n 2, 1) := by decide +kernel
theorem d_M_addRoot_10 : decode b_M_addRoot 10 = .ok (.aload_n 0, 1) := by decide +kernel
theorem d_M_addRoot_11 : decode b_M_addRoot 11 = .ok (.getfield 72, 3) := by decide +kernel
theorem d_M_addRoot_14 : decode b_M_addRoot 14 = .ok (.iload_n 1, 1) := by decide +kernel
theorem d_M_addRoot_15 : decode b_M_addRoot 15 = .ok (.iaload, 1) := by decide +kernel
theorem d_M_addRoot_16 : decode b_M_addRoot 16 = .ok (.iastore, 1) := by decide +kernel
theorem d_M_addRoot_17 : decode b_M_addRoot 17 = .ok (.aload_n 0, 1) := by decide +kernel
theorem d_M_addRoot_18 : decode b_M_addRoot 18 = .ok (.getfield 72, 3) := by decide +kernel
theorem d_M_addRoot_21 : decode b_M_addRoot 21 = .ok (.iload_n 1, 1) := by decide +kernel
theorem d_M_addRoot_22 : decode b_M_addRoot 22 = .ok (.iload_n 2, 1) := by decide +kernel
theorem d_M_addRoot_23 : decode b_M_addRoot 23 = .ok (.iastore, 1) := by decide +kernel
theorem d_M_addRoot_24 : decode b_M_addRoot 24 = .ok (.return_, 1) := by decide +kernel
set_option maxRecDepth 100000 in
theorem hl_M_addRoot : Cond.methodLink R_M 549 y_M_addRoot ∈ wd_tbl := wd_of 2836 (by decide +kernel) rfl
set_option maxRecDepth 100000 in
theorem hi_M_addRoot : Cond.instanceMethod y_M_addRoot ∈ wd_tbl := wd_of 2838 (by decide +kernel) rfl
set_option maxRecDepth 100000 in
theorem hs_M_addRoot : Cond.selects R_M y_M_addRoot y_M_addRoot ∈ wd_tbl := wd_of 173 (by decide +kernel) rfl
theorem hd_M_addRoot : y_M_addRoot.cls = R_M ∧ y_M_addRoot.cls ≠ "java/lang/invoke/MethodHandle" ∧ y_M_addRoot.cls ≠ "java/lang/invoke/VarHandle" ∧ (parseMethodDescriptor y_M_addRoot.desc).map (fun d => d.parameters.length) = some 2 := by decide +kernel
def rm_M_addRoot : Room := { frames := 0, cells := 0, slots := 0, locals := 0 }
def fb_M_addRoot_24 (N : Nat) (G : Unit) (u : MS) : Option (MS × Unit) := some (u, ())
set_option maxRecDepth 100000 in
set_option maxHeartbeats 4000000 in
theorem wb_M_addRoot_24 {p : Program} {l : Launch} {e : Env} {R : Room} {s : State} {m : MethodId} {args : Array Value} {below : List Frame} {meth : Method} {c : Code} {D : va_G} {cl : List vw_C} {cB cI cJ cZ cS : ClassId} {A : Nat → Prop} {iM h0 : Nat} {ad : Nat → Nat} (C0 : MCx p s m args meth c b_M_addRoot 3 none D cl cB cI cJ cZ cS iM A) (hR : R = rm_M_addRoot) (N : Nat) (G : Unit) (hG : True) : ∀ (u : MS) (x : MS × Unit), fb_M_addRoot_24 N G u = some x → ∀ (H : Heap) (locs : List Loc), va_P D cl (wM cB cI cJ cZ cS iM h0 ad u) H → va_D A (wM cB cI cJ cZ cS iM h0 ad u) → va_S A s.heap H locs → ∀ (ls : Array Slot), lv_has ls 3 [] → W p l e R s m args below meth c H locs 0 0 (MQ below (mQv D cl cB cI cJ cZ cS iM h0 ad A x) args s 0 0 A) (F0 m 24 ls []) := by
  intro u x hf H locs hP hD hS ls hl
  obtain ⟨hx, hb, hr, hml, ht, hown, hM, hK, hA, hlocks⟩ := id C0
  unfold fb_M_addRoot_24 at hf
  exact mr_v C0 hP hD hS hf d_M_addRoot_24
def fb_M_addRoot_0 (N : Nat) (G : Unit) (u : MS) (v1 : Int32) (v2 : Int32) : Option (MS × Unit) := br (decide (v2 = (-1))) (fb_M_addRoot_24 N G u) (ck (inb v1 (ln 28)) (ck (inb v2 (ln 29)) (lt (upA u 29 (upd (u.2.2.1 29) v2.toNatClampNeg (u.2.2.1 28 v1.toNatClampNeg))) (fun w1 => ck (inb v1 (ln 28)) (lt (upA w1 28 (upd (w1.2.2.1 28) v1.toNatClampNeg v2)) (fun w2 => fb_M_addRoot_24 N G w2))))))
set_option maxRecDepth 100000 in
set_option maxHeartbeats 4000000 in
theorem wb_M_addRoot_0 {p : Program} {l : Launch} {e : Env} {R : Room} {s : State} {m : MethodId} {args : Array Value} {below : List Frame} {meth : Method} {c : Code} {D : va_G} {cl : List vw_C} {cB cI cJ cZ cS : ClassId} {A : Nat → Prop} {iM h0 : Nat} {ad : Nat → Nat} (C0 : MCx p s m args meth c b_M_addRoot 3 none D cl cB cI cJ cZ cS iM A) (hR : R = rm_M_addRoot) (N : Nat) (G : Unit) (hG : True) : ∀ (u : MS) (v1 : Int32) (v2 : Int32) (x : MS × Unit), fb_M_addRoot_0 N G u v1 v2 = some x → ∀ (H : Heap) (locs : List Loc), va_P D cl (wM cB cI cJ cZ cS iM h0 ad u) H → va_D A (wM cB cI cJ cZ cS iM h0 ad u) → va_S A s.heap H locs → ∀ (ls : Array Slot), lv_has ls 3 [(0, .ref h0), (1, .int v1), (2, .int v2)] → W p l e R s m args below meth c H locs 0 0 (MQ below (mQv D cl cB cI cJ cZ cS iM h0 ad A x) args s 0 0 A) (F0 m 0 ls []) := by
  intro u v1 v2 x hf H locs hP hD hS ls hl
  obtain ⟨hx, hb, hr, hml, ht, hown, hM, hK, hA, hlocks⟩ := id C0
  unfold fb_M_addRoot_0 at hf
  refine lv_iload_n hx hb d_M_addRoot_0 rfl (lv_at hl 2 rfl) ?_
  refine lv_iconst (v := (-1)) hx hb d_M_addRoot_1 (by decide) ?_
  refine lv_icmp_eq (tgt := 24) hx hb d_M_addRoot_2 (by decide) (fun hc => ?_) (fun hc => ?_)
  · rw [br_p _ hc] at hf
    exact wb_M_addRoot_24 C0 hR N G hG _ _ hf H locs hP hD hS ls (lv_sub hl [] rfl)
  · rw [br_n _ hc] at hf
    refine lv_aload_n hx hb d_M_addRoot_5 rfl (lv_at hl 0 rfl) ?_
    refine ug_R hx hb ht hown hM hK hP 29 (by decide) lk_M_29 (by decide) d_M_addRoot_6 ?_
    refine lv_iload_n hx hb d_M_addRoot_9 rfl (lv_at hl 2 rfl) ?_
    refine lv_aload_n hx hb d_M_addRoot_10 rfl (lv_at hl 0 rfl) ?_
    refine ug_R hx hb ht hown hM hK hP 28 (by decide) lk_M_28 (by decide) d_M_addRoot_11 ?_
    refine lv_iload_n hx hb d_M_addRoot_14 rfl (lv_at hl 1 rfl) ?_
    obtain ⟨hi9, hf⟩ := ck_some hf
    refine ul_I hx hb hK hP (by decide) (by decide) hi9 d_M_addRoot_15 ?_
    obtain ⟨hi9, hf⟩ := ck_some hf
    refine us_I hx hb hK hP hD hS (by decide) (by decide) hi9 d_M_addRoot_16 (fun H locs hP hD hS => ?_)
    obtain ⟨w1, e1, hf⟩ := lt_some hf
    rw [← e1] at hP hD
    refine lv_aload_n hx hb d_M_addRoot_17 rfl (lv_at hl 0 rfl) ?_
    refine ug_R hx hb ht hown hM hK hP 28 (by decide) lk_M_28 (by decide) d_M_addRoot_18 ?_
    refine lv_iload_n hx hb d_M_addRoot_21 rfl (lv_at hl 1 rfl) ?_
    refine lv_iload_n hx hb d_M_addRoot_22 rfl (lv_at hl 2 rfl) ?_
    obtain ⟨hi9, hf⟩ := ck_some hf
    refine us_I hx hb hK hP hD hS (by decide) (by decide) hi9 d_M_addRoot_23 (fun H locs hP hD hS => ?_)
    obtain ⟨w2, e2, hf⟩ := lt_some hf
    rw [← e2] at hP hD
    exact wb_M_addRoot_24 C0 hR N G hG _ _ hf H locs hP hD hS ls (lv_sub hl [] rfl)
def fm_M_addRoot (N : Nat) (u : MS) (v1 : Int32) (v2 : Int32) : Option (MS × Unit) := fb_M_addRoot_0 N () u v1 v2
set_option maxRecDepth 100000 in
set_option maxHeartbeats 4000000 in
theorem c_M_addRoot (N : Nat) {l : Launch} {D : va_G} {cl : List vw_C} {cB cI cJ cZ cS : ClassId} {iM h0 : Nat} {ad : Nat → Nat} {u : MS} {sz : Nat} {v1 : Int32} {v2 : Int32} {x : MS × Unit} (hM : cl[iM]? = some (R_M, F_M, 171)) (hf : fm_M_addRoot N u v1 v2 = some x) : Met l y_M_addRoot (wd_ws y_M_addRoot b_M_addRoot 3 none) rm_M_addRoot (mPc D cl cB cI cJ cZ cS iM h0 ad u sz [.ref h0, .int v1, .int v2]) (mQv D cl cB cI cJ cZ cS iM h0 ad (mA cB cI cJ cZ cS iM h0 ad u sz) x) 0 0 (mA cB cI cJ cZ cS iM h0 ad u sz) :=
  mMet (by decide) rfl hM (Nat.le_of_ble_eq_true rfl) (fun p e s m below meth c ls hsz C0 hP hD hS hl => by
    have hR : rm_M_addRoot = rm_M_addRoot := rfl
    exact wb_M_addRoot_0 C0 hR N () trivial u _ _ x hf s.heap [] hP hD hS ls (lv_sub hl [0, 1, 2] rfl))
abbrev b_M_level : ByteArray := prog_14_method_60_code
def y_M_level : MethodName := ⟨R_M, "level", "()I"⟩
def w_M_level : List Cond := wd_ws y_M_level b_M_level 2 (some .int)
set_option maxRecDepth 100000 in
theorem k_M_level : Cond.code y_M_level b_M_level 2 (some .int) ∈ wd_tbl := wd_of 2851 rfl rfl
theorem d_M_level_0 : decode b_M_level 0 = .ok (.aload_n 0, 1) := by decide +kernel
theorem d_M_level_1 : decode b_M_level 1 = .ok (.getfield 22, 3) := by decide +kernel
theorem d_M_level_4 : decode b_M_level 4 = .ok (.aload_n 0, 1) := by decide +kernel
theorem d_M_level_5 : decode b_M_level 5 = .ok (.getfield 457, 3) := by decide +kernel
theorem d_M_level_8 : decode b_M_level 8 = .ok (.baload, 1) := by decide +kernel
theorem d_M_level_9 : decode b_M_level 9 = .ok (.iconst 3, 1) := by decide +kernel
theorem d_M_level_10 : decode b_M_level 10 = .ok (.if_icmp .ne 52, 3) := by decide +kernel
theorem d_M_level_13 : decode b_M_level 13 = .ok (.aload_n 0, 1) := by decide +kernel
theorem d_M_level_14 : decode b_M_level 14 = .ok (.bipush 11, 2) := by decide +kernel
theorem d_M_level_16 : decode b_M_level 16 = .ok (.invokevirtual 472, 3) := by decide +kernel
theorem d_M_level_19 : decode b_M_level 19 = .ok (.ifCond .eq 7, 3) := by decide +kernel
theorem d_M_level_22 : decode b_M_level 22 = .ok (.iconst 1, 1) := by decide +kernel
theorem d_M_level_23 : decode b_M_level 23 = .ok (.goto 38, 3) := by decide +kernel
theorem d_M_level_26 : decode b_M_level 26 = .ok (.aload_n 0, 1) := by decide +kernel
theorem d_M_level_27 : decode b_M_level 27 = .ok (.iconst 1, 1) := by decide +kernel
theorem d_M_level_28 : decode b_M_level 28 = .ok (.invokevirtual 472, 3) := by decide +kernel
theorem d_M_level_31 : decode b_M_level 31 = .ok (.ifCond .eq 7, 3) := by decide +kernel
theorem d_M_level_34 : decode b_M_level 34 = .ok (.iconst 2, 1) := by decide +kernel
theorem d_M_level_35 : decode b_M_level 35 = .ok (.goto 26, 3) := by decide +kernel
theorem d_M_level_38 : decode b_M_level 38 = .ok (.aload_n 0, 1) := by decide +kernel
theorem d_M_level_39 : decode b_M_level 39 = .ok (.iconst 5, 1) := by decide +kernel
theorem d_M_level_40 : decode b_M_level 40 = .ok (.invokevirtual 472, 3) := by decide +kernel
theorem d_M_level_43 : decode b_M_level 43 = .ok (.ifCond .ne 12, 3) := by decide +kernel
theorem d_M_level_46 : decode b_M_level 46 = .ok (.aload_n 0, 1) := by decide +kernel
theorem d_M_level_47 : decode b_M_level 47 = .ok (.bipush 13, 2) := by decide +kernel
theorem d_M_level_49 : decode b_M_level 49 = .ok (.invokevirtual 472, 3) := by decide +kernel
theorem d_M_level_52 : decode b_M_level 52 = .ok (.ifCond .eq 8, 3) := by decide +kernel
theorem d_M_level_55 : decode b_M_level 55 = .ok (.bipush 6, 2) := by decide +kernel
theorem d_M_level_57 : decode b_M_level 57 = .ok (.goto 4, 3) := by decide +kernel
theorem d_M_level_60 : decode b_M_level 60 = .ok (.iconst 0, 1) := by decide +kernel
theorem d_M_level_61 : decode b_M_level 61 = .ok (.ireturn, 1) := by decide +kernel
theorem d_M_level_62 : decode b_M_level 62 = .ok (.aload_n 0, 1) := by decide +kernel
theorem d_M_level_63 : decode b_M_level 63 = .ok (.getfield 22, 3) := by decide +kernel
theorem d_M_level_66 : decode b_M_level 66 = .ok (.aload_n 0, 1) := by decide +kernel
theorem d_M_level_67 : decode b_M_level 67 = .ok (.getfield 457, 3) := by decide +kernel
theorem d_M_level_70 : decode b_M_level 70 = .ok (.baload, 1) := by decide +kernel
theorem d_M_level_71 : decode b_M_level 71 = .ok (.bipush 6, 2) := by decide +kernel
theorem d_M_level_73 : decode b_M_level 73 = .ok (.if_icmp .eq 5, 3) := by decide +kernel
theorem d_M_level_76 : decode b_M_level 76 = .ok (.iconst 0, 1) := by decide +kernel
theorem d_M_level_77 : decode b_M_level 77 = .ok (.ireturn, 1) := by decide +kernel
theorem d_M_level_78 : decode b_M_level 78 = .ok (.aload_n 0, 1) := by decide +kernel
theorem d_M_level_79 : decode b_M_level 79 = .ok (.getfield 25, 3) := by decide +kernel
theorem d_M_level_82 : decode b_M_level 82 = .ok (.aload_n 0, 1) := by decide +kernel
theorem d_M_level_83 : decode b_M_level 83 = .ok (.getfield 457, 3) := by decide +kernel
theorem d_M_level_86 : decode b_M_level 86 = .ok (.iaload, 1) := by decide +kernel
theorem d_M_level_87 : decode b_M_level 87 = .ok (.istore_n 1, 1) := by decide +kernel
theorem d_M_level_88 : decode b_M_level 88 = .ok (.iload_n 1, 1) := by decide +kernel
theorem d_M_level_89 : decode b_M_level 89 = .ok (.bipush 12, 2) := by decide +kernel
theorem d_M_level_91 : decode b_M_level 91 = .ok (.if_icmp .lt 13, 3) := by decide +kernel
theorem d_M_level_94 : decode b_M_level 94 = .ok (.iload_n 1, 1) := by decide +kernel
theorem d_M_level_95 : decode b_M_level 95 = .ok (.bipush 17, 2) := by decide +kernel
theorem d_M_level_97 : decode b_M_level 97 = .ok (.if_icmp .gt 7, 3) := by decide +kernel
theorem d_M_level_100 : decode b_M_level 100 = .ok (.iconst 3, 1) := by decide +kernel
theorem d_M_level_101 : decode b_M_level 101 = .ok (.goto 47, 3) := by decide +kernel
theorem d_M_level_104 : decode b_M_level 104 = .ok (.iload_n 1, 1) := by decide +kernel
theorem d_M_level_105 : decode b_M_level 105 = .ok (.bipush 22, 2) := by decide +kernel
theorem d_M_level_107 : decode b_M_level 107 = .ok (.if_icmp .eq 9, 3) := by decide +kernel
theorem d_M_level_110 : decode b_M_level 110 = .ok (.iload_n 1, 1) := by decide +kernel
theorem d_M_level_111 : decode b_M_level 111 = .ok (.bipush 23, 2) := by decide +kernel
theorem d_M_level_113 : decode b_M_level 113 = .ok (.if_icmp .ne 7, 3) := by decide +kernel
theorem d_M_level_116 : decode b_M_level 116 = .ok (.iconst 4, 1) := by decide +kernel
theorem d_M_level_117 : decode b_M_level 117 = .ok (.goto 31, 3) := by decide +kernel
theorem d_M_level_120 : decode b_M_level 120 = .ok (.iload_n 1, 1) := by decide +kernel
theorem d_M_level_121 : decode b_M_level 121 = .ok (.bipush 18, 2) := by decide +kernel
theorem d_M_level_123 : decode b_M_level 123 = .ok (.if_icmp .eq 9, 3) := by decide +kernel
theorem d_M_level_126 : decode b_M_level 126 = .ok (.iload_n 1, 1) := by decide +kernel
theorem d_M_level_127 : decode b_M_level 127 = .ok (.bipush 19, 2) := by decide +kernel
theorem d_M_level_129 : decode b_M_level 129 = .ok (.if_icmp .ne 7, 3) := by decide +kernel
theorem d_M_level_132 : decode b_M_level 132 = .ok (.iconst 5, 1) := by decide +kernel
theorem d_M_level_133 : decode b_M_level 133 = .ok (.goto 15, 3) := by decide +kernel
theorem d_M_level_136 : decode b_M_level 136 = .ok (.iload_n 1, 1) := by decide +kernel
theorem d_M_level_137 : decode b_M_level 137 = .ok (.bipush 20, 2) := by decide +kernel
theorem d_M_level_139 : decode b_M_level 139 = .ok (.if_icmp .ne 8, 3) := by decide +kernel
theorem d_M_level_142 : decode b_M_level 142 = .ok (.bipush 6, 2) := by decide +kernel
theorem d_M_level_144 : decode b_M_level 144 = .ok (.goto 4, 3) := by decide +kernel
theorem d_M_level_147 : decode b_M_level 147 = .ok (.iconst 0, 1) := by decide +kernel
theorem d_M_level_148 : decode b_M_level 148 = .ok (.ireturn, 1) := by decide +kernel
set_option maxRecDepth 100000 in
theorem hl_M_level : Cond.methodLink R_M 616 y_M_level ∈ wd_tbl := wd_of 2848 (by decide +kernel) rfl
set_option maxRecDepth 100000 in
theorem hi_M_level : Cond.instanceMethod y_M_level ∈ wd_tbl := wd_of 2850 (by decide +kernel) rfl
set_option maxRecDepth 100000 in
theorem hs_M_level : Cond.selects R_M y_M_level y_M_level ∈ wd_tbl := wd_of 176 (by decide +kernel) rfl
theorem hd_M_level : y_M_level.cls = R_M ∧ y_M_level.cls ≠ "java/lang/invoke/MethodHandle" ∧ y_M_level.cls ≠ "java/lang/invoke/VarHandle" ∧ (parseMethodDescriptor y_M_level.desc).map (fun d => d.parameters.length) = some 0 := by decide +kernel
def rm_M_level : Room := { frames := 1, cells := 0, slots := 0, locals := 21 }
theorem rm_M_level_M_isWord {R : Room} (hR : R = rm_M_level) : (rm_M_isWord).frames + 1 ≤ R.frames ∧ 8 + (2 + 11) + (rm_M_isWord).locals ≤ R.locals := by subst hR; decide
def fb_M_level_148 (N : Nat) (G : Unit) (u : MS) (t0 : Int32) : Option (MS × Int32) := some (u, t0)
set_option maxRecDepth 100000 in
set_option maxHeartbeats 4000000 in
theorem wb_M_level_148 {p : Program} {l : Launch} {e : Env} {R : Room} {s : State} {m : MethodId} {args : Array Value} {below : List Frame} {meth : Method} {c : Code} {D : va_G} {cl : List vw_C} {cB cI cJ cZ cS : ClassId} {A : Nat → Prop} {iM h0 : Nat} {ad : Nat → Nat} (C0 : MCx p s m args meth c b_M_level 2 (some .int) D cl cB cI cJ cZ cS iM A) (hR : R = rm_M_level) (N : Nat) (G : Unit) (hG : True) : ∀ (u : MS) (t0 : Int32) (x : MS × Int32), fb_M_level_148 N G u t0 = some x → ∀ (H : Heap) (locs : List Loc), va_P D cl (wM cB cI cJ cZ cS iM h0 ad u) H → va_D A (wM cB cI cJ cZ cS iM h0 ad u) → va_S A s.heap H locs → ∀ (ls : Array Slot), lv_has ls 2 [] → W p l e R s m args below meth c H locs 0 0 (MQ below (mQi D cl cB cI cJ cZ cS iM h0 ad A x) args s 0 0 A) (F0 m 148 ls [.int t0]) := by
  intro u t0 x hf H locs hP hD hS ls hl
  obtain ⟨hx, hb, hr, hml, ht, hown, hM, hK, hA, hlocks⟩ := id C0
  unfold fb_M_level_148 at hf
  exact mr_i C0 hP hD hS hf d_M_level_148
def fb_M_level_132 (N : Nat) (G : Unit) (u : MS) : Option (MS × Int32) := fb_M_level_148 N G u (5)
set_option maxRecDepth 100000 in
set_option maxHeartbeats 4000000 in
theorem wb_M_level_132 {p : Program} {l : Launch} {e : Env} {R : Room} {s : State} {m : MethodId} {args : Array Value} {below : List Frame} {meth : Method} {c : Code} {D : va_G} {cl : List vw_C} {cB cI cJ cZ cS : ClassId} {A : Nat → Prop} {iM h0 : Nat} {ad : Nat → Nat} (C0 : MCx p s m args meth c b_M_level 2 (some .int) D cl cB cI cJ cZ cS iM A) (hR : R = rm_M_level) (N : Nat) (G : Unit) (hG : True) : ∀ (u : MS) (x : MS × Int32), fb_M_level_132 N G u = some x → ∀ (H : Heap) (locs : List Loc), va_P D cl (wM cB cI cJ cZ cS iM h0 ad u) H → va_D A (wM cB cI cJ cZ cS iM h0 ad u) → va_S A s.heap H locs → ∀ (ls : Array Slot), lv_has ls 2 [] → W p l e R s m args below meth c H locs 0 0 (MQ below (mQi D cl cB cI cJ cZ cS iM h0 ad A x) args s 0 0 A) (F0 m 132 ls []) := by
  intro u x hf H locs hP hD hS ls hl
  obtain ⟨hx, hb, hr, hml, ht, hown, hM, hK, hA, hlocks⟩ := id C0
  unfold fb_M_level_132 at hf
  refine lv_iconst (v := 5) hx hb d_M_level_132 (by decide) ?_
  refine lv_goto (tgt := 148) hx hb d_M_level_133 (by decide) ?_
  exact wb_M_level_148 C0 hR N G hG _ _ _ hf H locs hP hD hS ls (lv_sub hl [] rfl)
def fb_M_level_116 (N : Nat) (G : Unit) (u : MS) : Option (MS × Int32) := fb_M_level_148 N G u (4)
set_option maxRecDepth 100000 in
set_option maxHeartbeats 4000000 in
theorem wb_M_level_116 {p : Program} {l : Launch} {e : Env} {R : Room} {s : State} {m : MethodId} {args : Array Value} {below : List Frame} {meth : Method} {c : Code} {D : va_G} {cl : List vw_C} {cB cI cJ cZ cS : ClassId} {A : Nat → Prop} {iM h0 : Nat} {ad : Nat → Nat} (C0 : MCx p s m args meth c b_M_level 2 (some .int) D cl cB cI cJ cZ cS iM A) (hR : R = rm_M_level) (N : Nat) (G : Unit) (hG : True) : ∀ (u : MS) (x : MS × Int32), fb_M_level_116 N G u = some x → ∀ (H : Heap) (locs : List Loc), va_P D cl (wM cB cI cJ cZ cS iM h0 ad u) H → va_D A (wM cB cI cJ cZ cS iM h0 ad u) → va_S A s.heap H locs → ∀ (ls : Array Slot), lv_has ls 2 [] → W p l e R s m args below meth c H locs 0 0 (MQ below (mQi D cl cB cI cJ cZ cS iM h0 ad A x) args s 0 0 A) (F0 m 116 ls []) := by
  intro u x hf H locs hP hD hS ls hl
  obtain ⟨hx, hb, hr, hml, ht, hown, hM, hK, hA, hlocks⟩ := id C0
  unfold fb_M_level_116 at hf
  refine lv_iconst (v := 4) hx hb d_M_level_116 (by decide) ?_
  refine lv_goto (tgt := 148) hx hb d_M_level_117 (by decide) ?_
  exact wb_M_level_148 C0 hR N G hG _ _ _ hf H locs hP hD hS ls (lv_sub hl [] rfl)
def fb_M_level_104 (N : Nat) (G : Unit) (u : MS) (v1 : Int32) : Option (MS × Int32) := br (decide (v1 = 22)) (fb_M_level_116 N G u) (br (decide (v1 = 23)) (fb_M_level_116 N G u) (br (decide (v1 = 18)) (fb_M_level_132 N G u) (br (decide (v1 = 19)) (fb_M_level_132 N G u) (br (decide (v1 = 20)) (fb_M_level_148 N G u (6)) (fb_M_level_148 N G u (0))))))
set_option maxRecDepth 100000 in
set_option maxHeartbeats 4000000 in
theorem wb_M_level_104 {p : Program} {l : Launch} {e : Env} {R : Room} {s : State} {m : MethodId} {args : Array Value} {below : List Frame} {meth : Method} {c : Code} {D : va_G} {cl : List vw_C} {cB cI cJ cZ cS : ClassId} {A : Nat → Prop} {iM h0 : Nat} {ad : Nat → Nat} (C0 : MCx p s m args meth c b_M_level 2 (some .int) D cl cB cI cJ cZ cS iM A) (hR : R = rm_M_level) (N : Nat) (G : Unit) (hG : True) : ∀ (u : MS) (v1 : Int32) (x : MS × Int32), fb_M_level_104 N G u v1 = some x → ∀ (H : Heap) (locs : List Loc), va_P D cl (wM cB cI cJ cZ cS iM h0 ad u) H → va_D A (wM cB cI cJ cZ cS iM h0 ad u) → va_S A s.heap H locs → ∀ (ls : Array Slot), lv_has ls 2 [(1, .int v1)] → W p l e R s m args below meth c H locs 0 0 (MQ below (mQi D cl cB cI cJ cZ cS iM h0 ad A x) args s 0 0 A) (F0 m 104 ls []) := by
  intro u v1 x hf H locs hP hD hS ls hl
  obtain ⟨hx, hb, hr, hml, ht, hown, hM, hK, hA, hlocks⟩ := id C0
  unfold fb_M_level_104 at hf
  refine lv_iload_n hx hb d_M_level_104 rfl (lv_at hl 0 rfl) ?_
  refine lv_bipush (v := 22) hx hb d_M_level_105 (by decide) ?_
  refine lv_icmp_eq (tgt := 116) hx hb d_M_level_107 (by decide) (fun hc => ?_) (fun hc => ?_)
  · rw [br_p _ hc] at hf
    exact wb_M_level_116 C0 hR N G hG _ _ hf H locs hP hD hS ls (lv_sub hl [] rfl)
  · rw [br_n _ hc] at hf
    refine lv_iload_n hx hb d_M_level_110 rfl (lv_at hl 0 rfl) ?_
    refine lv_bipush (v := 23) hx hb d_M_level_111 (by decide) ?_
    refine lv_icmp_ne (tgt := 120) hx hb d_M_level_113 (by decide) (fun hc => ?_) (fun hc => ?_)
    · rw [br_n _ hc] at hf
      refine lv_iload_n hx hb d_M_level_120 rfl (lv_at hl 0 rfl) ?_
      refine lv_bipush (v := 18) hx hb d_M_level_121 (by decide) ?_
      refine lv_icmp_eq (tgt := 132) hx hb d_M_level_123 (by decide) (fun hc => ?_) (fun hc => ?_)
      · rw [br_p _ hc] at hf
        exact wb_M_level_132 C0 hR N G hG _ _ hf H locs hP hD hS ls (lv_sub hl [] rfl)
      · rw [br_n _ hc] at hf
        refine lv_iload_n hx hb d_M_level_126 rfl (lv_at hl 0 rfl) ?_
        refine lv_bipush (v := 19) hx hb d_M_level_127 (by decide) ?_
        refine lv_icmp_ne (tgt := 136) hx hb d_M_level_129 (by decide) (fun hc => ?_) (fun hc => ?_)
        · rw [br_n _ hc] at hf
          refine lv_iload_n hx hb d_M_level_136 rfl (lv_at hl 0 rfl) ?_
          refine lv_bipush (v := 20) hx hb d_M_level_137 (by decide) ?_
          refine lv_icmp_ne (tgt := 147) hx hb d_M_level_139 (by decide) (fun hc => ?_) (fun hc => ?_)
          · rw [br_n _ hc] at hf
            refine lv_iconst (v := 0) hx hb d_M_level_147 (by decide) ?_
            exact wb_M_level_148 C0 hR N G hG _ _ _ hf H locs hP hD hS ls (lv_sub hl [] rfl)
          · rw [br_p _ hc] at hf
            refine lv_bipush (v := 6) hx hb d_M_level_142 (by decide) ?_
            refine lv_goto (tgt := 148) hx hb d_M_level_144 (by decide) ?_
            exact wb_M_level_148 C0 hR N G hG _ _ _ hf H locs hP hD hS ls (lv_sub hl [] rfl)
        · rw [br_p _ hc] at hf
          exact wb_M_level_132 C0 hR N G hG _ _ hf H locs hP hD hS ls (lv_sub hl [] rfl)
    · rw [br_p _ hc] at hf
      exact wb_M_level_116 C0 hR N G hG _ _ hf H locs hP hD hS ls (lv_sub hl [] rfl)
def fb_M_level_61 (N : Nat) (G : Unit) (u : MS) (t0 : Int32) : Option (MS × Int32) := some (u, t0)
set_option maxRecDepth 100000 in
set_option maxHeartbeats 4000000 in
theorem wb_M_level_61 {p : Program} {l : Launch} {e : Env} {R : Room} {s : State} {m : MethodId} {args : Array Value} {below : List Frame} {meth : Method} {c : Code} {D : va_G} {cl : List vw_C} {cB cI cJ cZ cS : ClassId} {A : Nat → Prop} {iM h0 : Nat} {ad : Nat → Nat} (C0 : MCx p s m args meth c b_M_level 2 (some .int) D cl cB cI cJ cZ cS iM A) (hR : R = rm_M_level) (N : Nat) (G : Unit) (hG : True) : ∀ (u : MS) (t0 : Int32) (x : MS × Int32), fb_M_level_61 N G u t0 = some x → ∀ (H : Heap) (locs : List Loc), va_P D cl (wM cB cI cJ cZ cS iM h0 ad u) H → va_D A (wM cB cI cJ cZ cS iM h0 ad u) → va_S A s.heap H locs → ∀ (ls : Array Slot), lv_has ls 2 [] → W p l e R s m args below meth c H locs 0 0 (MQ below (mQi D cl cB cI cJ cZ cS iM h0 ad A x) args s 0 0 A) (F0 m 61 ls [.int t0]) := by
  intro u t0 x hf H locs hP hD hS ls hl
  obtain ⟨hx, hb, hr, hml, ht, hown, hM, hK, hA, hlocks⟩ := id C0
  unfold fb_M_level_61 at hf
  exact mr_i C0 hP hD hS hf d_M_level_61
def fb_M_level_55 (N : Nat) (G : Unit) (u : MS) : Option (MS × Int32) := fb_M_level_61 N G u (6)
set_option maxRecDepth 100000 in
set_option maxHeartbeats 4000000 in
theorem wb_M_level_55 {p : Program} {l : Launch} {e : Env} {R : Room} {s : State} {m : MethodId} {args : Array Value} {below : List Frame} {meth : Method} {c : Code} {D : va_G} {cl : List vw_C} {cB cI cJ cZ cS : ClassId} {A : Nat → Prop} {iM h0 : Nat} {ad : Nat → Nat} (C0 : MCx p s m args meth c b_M_level 2 (some .int) D cl cB cI cJ cZ cS iM A) (hR : R = rm_M_level) (N : Nat) (G : Unit) (hG : True) : ∀ (u : MS) (x : MS × Int32), fb_M_level_55 N G u = some x → ∀ (H : Heap) (locs : List Loc), va_P D cl (wM cB cI cJ cZ cS iM h0 ad u) H → va_D A (wM cB cI cJ cZ cS iM h0 ad u) → va_S A s.heap H locs → ∀ (ls : Array Slot), lv_has ls 2 [] → W p l e R s m args below meth c H locs 0 0 (MQ below (mQi D cl cB cI cJ cZ cS iM h0 ad A x) args s 0 0 A) (F0 m 55 ls []) := by
  intro u x hf H locs hP hD hS ls hl
  obtain ⟨hx, hb, hr, hml, ht, hown, hM, hK, hA, hlocks⟩ := id C0
  unfold fb_M_level_55 at hf
  refine lv_bipush (v := 6) hx hb d_M_level_55 (by decide) ?_
  refine lv_goto (tgt := 61) hx hb d_M_level_57 (by decide) ?_
  exact wb_M_level_61 C0 hR N G hG _ _ _ hf H locs hP hD hS ls (lv_sub hl [] rfl)
def fb_M_level_0 (N : Nat) (G : Unit) (u : MS) : Option (MS × Int32) := ck (inb (u.1 69) (ln 6)) (br (decide ((u.2.2.1 6 (u.1 69).toNatClampNeg) = 3)) (bnd (fm_M_isWord N u 11) (fun u2 r2 => br (decide (r2 = 0)) (bnd (fm_M_isWord N u2 1) (fun u3 r3 => br (decide (r3 = 0)) (bnd (fm_M_isWord N u3 5) (fun u4 r4 => br (decide (r4 = 0)) (bnd (fm_M_isWord N u4 13) (fun u5 r5 => br (decide (r5 = 0)) (fb_M_level_61 N G u5 (0)) (fb_M_level_55 N G u5))) (fb_M_level_55 N G u4))) (fb_M_level_61 N G u3 (2)))) (fb_M_level_61 N G u2 (1)))) (ck (inb (u.1 69) (ln 6)) (br (decide ((u.2.2.1 6 (u.1 69).toNatClampNeg) = 6)) (ck (inb (u.1 69) (ln 7)) (lt (u.2.2.1 7 (u.1 69).toNatClampNeg) (fun y1 => br (decide (y1 < 12)) (fb_M_level_104 N G u (y1)) (br (decide (17 < y1)) (fb_M_level_104 N G u (y1)) (fb_M_level_148 N G u (3)))))) (some (u, 0)))))
set_option maxRecDepth 100000 in
set_option maxHeartbeats 4000000 in
theorem wb_M_level_0 {p : Program} {l : Launch} {e : Env} {R : Room} {s : State} {m : MethodId} {args : Array Value} {below : List Frame} {meth : Method} {c : Code} {D : va_G} {cl : List vw_C} {cB cI cJ cZ cS : ClassId} {A : Nat → Prop} {iM h0 : Nat} {ad : Nat → Nat} (C0 : MCx p s m args meth c b_M_level 2 (some .int) D cl cB cI cJ cZ cS iM A) (hR : R = rm_M_level) (N : Nat) (G : Unit) (hG : True) : ∀ (u : MS) (x : MS × Int32), fb_M_level_0 N G u = some x → ∀ (H : Heap) (locs : List Loc), va_P D cl (wM cB cI cJ cZ cS iM h0 ad u) H → va_D A (wM cB cI cJ cZ cS iM h0 ad u) → va_S A s.heap H locs → ∀ (ls : Array Slot), lv_has ls 2 [(0, .ref h0)] → W p l e R s m args below meth c H locs 0 0 (MQ below (mQi D cl cB cI cJ cZ cS iM h0 ad A x) args s 0 0 A) (F0 m 0 ls []) := by
  intro u x hf H locs hP hD hS ls hl
  obtain ⟨hx, hb, hr, hml, ht, hown, hM, hK, hA, hlocks⟩ := id C0
  unfold fb_M_level_0 at hf
  refine lv_aload_n hx hb d_M_level_0 rfl (lv_at hl 0 rfl) ?_
  refine ug_R hx hb ht hown hM hK hP 6 (by decide) lk_M_6 (by decide) d_M_level_1 ?_
  refine lv_aload_n hx hb d_M_level_4 rfl (lv_at hl 0 rfl) ?_
  refine ug_I hx hb ht hown hM hK hP 69 (by decide) lk_M_69 (by decide) d_M_level_5 ?_
  obtain ⟨hi9, hf⟩ := ck_some hf
  refine ul_B hx hb hK hP (by decide) (by decide) hi9 d_M_level_8 ?_
  refine lv_iconst (v := 3) hx hb d_M_level_9 (by decide) ?_
  refine lv_icmp_ne (tgt := 62) hx hb d_M_level_10 (by decide) (fun hc => ?_) (fun hc => ?_)
  · rw [br_n _ hc] at hf
    refine lv_aload_n hx hb d_M_level_62 rfl (lv_at hl 0 rfl) ?_
    refine ug_R hx hb ht hown hM hK hP 6 (by decide) lk_M_6 (by decide) d_M_level_63 ?_
    refine lv_aload_n hx hb d_M_level_66 rfl (lv_at hl 0 rfl) ?_
    refine ug_I hx hb ht hown hM hK hP 69 (by decide) lk_M_69 (by decide) d_M_level_67 ?_
    obtain ⟨hi9, hf⟩ := ck_some hf
    refine ul_B hx hb hK hP (by decide) (by decide) hi9 d_M_level_70 ?_
    refine lv_bipush (v := 6) hx hb d_M_level_71 (by decide) ?_
    refine lv_icmp_eq (tgt := 78) hx hb d_M_level_73 (by decide) (fun hc => ?_) (fun hc => ?_)
    · rw [br_p _ hc] at hf
      refine lv_aload_n hx hb d_M_level_78 rfl (lv_at hl 0 rfl) ?_
      refine ug_R hx hb ht hown hM hK hP 7 (by decide) lk_M_7 (by decide) d_M_level_79 ?_
      refine lv_aload_n hx hb d_M_level_82 rfl (lv_at hl 0 rfl) ?_
      refine ug_I hx hb ht hown hM hK hP 69 (by decide) lk_M_69 (by decide) d_M_level_83 ?_
      obtain ⟨hi9, hf⟩ := ck_some hf
      refine ul_I hx hb hK hP (by decide) (by decide) hi9 d_M_level_86 ?_
      obtain ⟨y1, e1, hf⟩ := lt_some hf
      rw [← e1]
      refine lv_istore_n (lv' := [(1, .int y1), (0, .ref h0)]) hx hb d_M_level_87 rfl hl (by decide) rfl (fun ls hl => ?_)
      refine lv_iload_n hx hb d_M_level_88 rfl (lv_at hl 0 rfl) ?_
      refine lv_bipush (v := 12) hx hb d_M_level_89 (by decide) ?_
      refine lv_icmp_lt (tgt := 104) hx hb d_M_level_91 (by decide) (fun hc => ?_) (fun hc => ?_)
      · rw [br_p _ hc] at hf
        exact wb_M_level_104 C0 hR N G hG _ _ _ hf H locs hP hD hS ls (lv_sub hl [0] rfl)
      · rw [br_n _ hc] at hf
        refine lv_iload_n hx hb d_M_level_94 rfl (lv_at hl 0 rfl) ?_
        refine lv_bipush (v := 17) hx hb d_M_level_95 (by decide) ?_
        refine lv_icmp_gt (tgt := 104) hx hb d_M_level_97 (by decide) (fun hc => ?_) (fun hc => ?_)
        · rw [br_p _ hc] at hf
          exact wb_M_level_104 C0 hR N G hG _ _ _ hf H locs hP hD hS ls (lv_sub hl [0] rfl)
        · rw [br_n _ hc] at hf
          refine lv_iconst (v := 3) hx hb d_M_level_100 (by decide) ?_
          refine lv_goto (tgt := 148) hx hb d_M_level_101 (by decide) ?_
          exact wb_M_level_148 C0 hR N G hG _ _ _ hf H locs hP hD hS ls (lv_sub hl [] rfl)
    · rw [br_n _ hc] at hf
      refine lv_iconst (v := 0) hx hb d_M_level_76 (by decide) ?_
      exact mr_i C0 hP hD hS hf d_M_level_77
  · rw [br_p _ hc] at hf
    refine lv_aload_n hx hb d_M_level_13 rfl (lv_at hl 0 rfl) ?_
    refine lv_bipush (v := 11) hx hb d_M_level_14 (by decide) ?_
    obtain ⟨u2, r2, hc2, hf⟩ := bnd_some hf
    refine mV_i (As := [.int 11]) (rest := []) C0 hP hD hS (c_M_isWord N hM hc2) k_M_isWord hl_M_isWord hi_M_isWord hs_M_isWord hini_M rfl rfl hd_M_isWord rfl (rm_M_level_M_isWord hR) hl.1 (Nat.le_of_ble_eq_true rfl) d_M_level_16 rfl ⟨Nat.zero_le _, Nat.zero_le _⟩ (fun H locs hP hD hS => ?_)
    refine lv_if_eq (tgt := 26) hx hb d_M_level_19 (by decide) (fun hc => ?_) (fun hc => ?_)
    · rw [br_p _ hc] at hf
      refine lv_aload_n hx hb d_M_level_26 rfl (lv_at hl 0 rfl) ?_
      refine lv_iconst (v := 1) hx hb d_M_level_27 (by decide) ?_
      obtain ⟨u3, r3, hc3, hf⟩ := bnd_some hf
      refine mV_i (As := [.int 1]) (rest := []) C0 hP hD hS (c_M_isWord N hM hc3) k_M_isWord hl_M_isWord hi_M_isWord hs_M_isWord hini_M rfl rfl hd_M_isWord rfl (rm_M_level_M_isWord hR) hl.1 (Nat.le_of_ble_eq_true rfl) d_M_level_28 rfl ⟨Nat.zero_le _, Nat.zero_le _⟩ (fun H locs hP hD hS => ?_)
      refine lv_if_eq (tgt := 38) hx hb d_M_level_31 (by decide) (fun hc => ?_) (fun hc => ?_)
      · rw [br_p _ hc] at hf
        refine lv_aload_n hx hb d_M_level_38 rfl (lv_at hl 0 rfl) ?_
        refine lv_iconst (v := 5) hx hb d_M_level_39 (by decide) ?_
        obtain ⟨u4, r4, hc4, hf⟩ := bnd_some hf
        refine mV_i (As := [.int 5]) (rest := []) C0 hP hD hS (c_M_isWord N hM hc4) k_M_isWord hl_M_isWord hi_M_isWord hs_M_isWord hini_M rfl rfl hd_M_isWord rfl (rm_M_level_M_isWord hR) hl.1 (Nat.le_of_ble_eq_true rfl) d_M_level_40 rfl ⟨Nat.zero_le _, Nat.zero_le _⟩ (fun H locs hP hD hS => ?_)
        refine lv_if_ne (tgt := 55) hx hb d_M_level_43 (by decide) (fun hc => ?_) (fun hc => ?_)
        · rw [br_n _ hc] at hf
          exact wb_M_level_55 C0 hR N G hG _ _ hf H locs hP hD hS ls (lv_sub hl [] rfl)
        · rw [br_p _ hc] at hf
          refine lv_aload_n hx hb d_M_level_46 rfl (lv_at hl 0 rfl) ?_
          refine lv_bipush (v := 13) hx hb d_M_level_47 (by decide) ?_
          obtain ⟨u5, r5, hc5, hf⟩ := bnd_some hf
          refine mV_i (As := [.int 13]) (rest := []) C0 hP hD hS (c_M_isWord N hM hc5) k_M_isWord hl_M_isWord hi_M_isWord hs_M_isWord hini_M rfl rfl hd_M_isWord rfl (rm_M_level_M_isWord hR) hl.1 (Nat.le_of_ble_eq_true rfl) d_M_level_49 rfl ⟨Nat.zero_le _, Nat.zero_le _⟩ (fun H locs hP hD hS => ?_)
          refine lv_if_eq (tgt := 60) hx hb d_M_level_52 (by decide) (fun hc => ?_) (fun hc => ?_)
          · rw [br_p _ hc] at hf
            refine lv_iconst (v := 0) hx hb d_M_level_60 (by decide) ?_
            exact wb_M_level_61 C0 hR N G hG _ _ _ hf H locs hP hD hS ls (lv_sub hl [] rfl)
          · rw [br_n _ hc] at hf
            exact wb_M_level_55 C0 hR N G hG _ _ hf H locs hP hD hS ls (lv_sub hl [] rfl)
      · rw [br_n _ hc] at hf
        refine lv_iconst (v := 2) hx hb d_M_level_34 (by decide) ?_
        refine lv_goto (tgt := 61) hx hb d_M_level_35 (by decide) ?_
        exact wb_M_level_61 C0 hR N G hG _ _ _ hf H locs hP hD hS ls (lv_sub hl [] rfl)
    · rw [br_n _ hc] at hf
      refine lv_iconst (v := 1) hx hb d_M_level_22 (by decide) ?_
      refine lv_goto (tgt := 61) hx hb d_M_level_23 (by decide) ?_
      exact wb_M_level_61 C0 hR N G hG _ _ _ hf H locs hP hD hS ls (lv_sub hl [] rfl)
def fm_M_level (N : Nat) (u : MS) : Option (MS × Int32) := fb_M_level_0 N () u
set_option maxRecDepth 100000 in
set_option maxHeartbeats 4000000 in
theorem c_M_level (N : Nat) {l : Launch} {D : va_G} {cl : List vw_C} {cB cI cJ cZ cS : ClassId} {iM h0 : Nat} {ad : Nat → Nat} {u : MS} {sz : Nat} {x : MS × Int32} (hM : cl[iM]? = some (R_M, F_M, 171)) (hf : fm_M_level N u = some x) : Met l y_M_level (wd_ws y_M_level b_M_level 2 (some .int)) rm_M_level (mPc D cl cB cI cJ cZ cS iM h0 ad u sz [.ref h0]) (mQi D cl cB cI cJ cZ cS iM h0 ad (mA cB cI cJ cZ cS iM h0 ad u sz) x) 0 0 (mA cB cI cJ cZ cS iM h0 ad u sz) :=
  mMet (by decide) rfl hM (Nat.le_of_ble_eq_true rfl) (fun p e s m below meth c ls hsz C0 hP hD hS hl => by
    have hR : rm_M_level = rm_M_level := rfl
    exact wb_M_level_0 C0 hR N () trivial u x hf s.heap [] hP hD hS ls (lv_sub hl [0] rfl))
abbrev b_M_reduce : ByteArray := prog_14_method_62_code
def y_M_reduce : MethodName := ⟨R_M, "reduce", "(III)I"⟩
def w_M_reduce : List Cond := wd_ws y_M_reduce b_M_reduce 8 (some .int)
set_option maxRecDepth 100000 in
theorem k_M_reduce : Cond.code y_M_reduce b_M_reduce 8 (some .int) ∈ wd_tbl := wd_of 2855 rfl rfl
theorem d_M_reduce_0 : decode b_M_reduce 0 = .ok (.iload_n 3, 1) := by decide +kernel
theorem d_M_reduce_1 : decode b_M_reduce 1 = .ok (.istore 4, 2) := by decide +kernel
theorem d_M_reduce_3 : decode b_M_reduce 3 = .ok (.iconst 1, 1) := by decide +kernel
theorem d_M_reduce_4 : decode b_M_reduce 4 = .ok (.istore 5, 2) := by decide +kernel
theorem d_M_reduce_6 : decode b_M_reduce 6 = .ok (.iload 5, 2) := by decide +kernel
theorem d_M_reduce_8 : decode b_M_reduce 8 = .ok (.ifCond .eq 250, 3) := by decide +kernel
theorem d_M_reduce_11 : decode b_M_reduce 11 = .ok (.aload_n 0, 1) := by decide +kernel
theorem d_M_reduce_12 : decode b_M_reduce 12 = .ok (.getfield 610, 3) := by decide +kernel
theorem d_M_reduce_15 : decode b_M_reduce 15 = .ok (.iload_n 1, 1) := by decide +kernel
theorem d_M_reduce_16 : decode b_M_reduce 16 = .ok (.if_icmp .le 242, 3) := by decide +kernel
theorem d_M_reduce_19 : decode b_M_reduce 19 = .ok (.aload_n 0, 1) := by decide +kernel
theorem d_M_reduce_20 : decode b_M_reduce 20 = .ok (.getfield 177, 3) := by decide +kernel
theorem d_M_reduce_23 : decode b_M_reduce 23 = .ok (.aload_n 0, 1) := by decide +kernel
theorem d_M_reduce_24 : decode b_M_reduce 24 = .ok (.getfield 610, 3) := by decide +kernel
theorem d_M_reduce_27 : decode b_M_reduce 27 = .ok (.iconst 1, 1) := by decide +kernel
theorem d_M_reduce_28 : decode b_M_reduce 28 = .ok (.isub, 1) := by decide +kernel
theorem d_M_reduce_29 : decode b_M_reduce 29 = .ok (.baload, 1) := by decide +kernel
theorem d_M_reduce_30 : decode b_M_reduce 30 = .ok (.istore 6, 2) := by decide +kernel
theorem d_M_reduce_32 : decode b_M_reduce 32 = .ok (.iload 6, 2) := by decide +kernel
theorem d_M_reduce_34 : decode b_M_reduce 34 = .ok (.iload_n 2, 1) := by decide +kernel
theorem d_M_reduce_35 : decode b_M_reduce 35 = .ok (.if_icmp .gt 21, 3) := by decide +kernel
theorem d_M_reduce_38 : decode b_M_reduce 38 = .ok (.iload 6, 2) := by decide +kernel
theorem d_M_reduce_40 : decode b_M_reduce 40 = .ok (.iload_n 2, 1) := by decide +kernel
theorem d_M_reduce_41 : decode b_M_reduce 41 = .ok (.if_icmp .ne 19, 3) := by decide +kernel
theorem d_M_reduce_44 : decode b_M_reduce 44 = .ok (.iload 6, 2) := by decide +kernel
theorem d_M_reduce_46 : decode b_M_reduce 46 = .ok (.iconst 3, 1) := by decide +kernel
theorem d_M_reduce_47 : decode b_M_reduce 47 = .ok (.if_icmp .eq 13, 3) := by decide +kernel
theorem d_M_reduce_50 : decode b_M_reduce 50 = .ok (.iload 6, 2) := by decide +kernel
theorem d_M_reduce_52 : decode b_M_reduce 52 = .ok (.iconst 4, 1) := by decide +kernel
theorem d_M_reduce_53 : decode b_M_reduce 53 = .ok (.if_icmp .eq 7, 3) := by decide +kernel
theorem d_M_reduce_56 : decode b_M_reduce 56 = .ok (.iconst 1, 1) := by decide +kernel
theorem d_M_reduce_57 : decode b_M_reduce 57 = .ok (.goto 4, 3) := by decide +kernel
theorem d_M_reduce_60 : decode b_M_reduce 60 = .ok (.iconst 0, 1) := by decide +kernel
theorem d_M_reduce_61 : decode b_M_reduce 61 = .ok (.istore 5, 2) := by decide +kernel
theorem d_M_reduce_63 : decode b_M_reduce 63 = .ok (.iload 5, 2) := by decide +kernel
theorem d_M_reduce_65 : decode b_M_reduce 65 = .ok (.ifCond .eq 190, 3) := by decide +kernel
theorem d_M_reduce_68 : decode b_M_reduce 68 = .ok (.aload_n 0, 1) := by decide +kernel
theorem d_M_reduce_69 : decode b_M_reduce 69 = .ok (.dup, 1) := by decide +kernel
theorem d_M_reduce_70 : decode b_M_reduce 70 = .ok (.getfield 610, 3) := by decide +kernel
theorem d_M_reduce_73 : decode b_M_reduce 73 = .ok (.iconst 1, 1) := by decide +kernel
theorem d_M_reduce_74 : decode b_M_reduce 74 = .ok (.isub, 1) := by decide +kernel
theorem d_M_reduce_75 : decode b_M_reduce 75 = .ok (.putfield 610, 3) := by decide +kernel
theorem d_M_reduce_78 : decode b_M_reduce 78 = .ok (.iload 6, 2) := by decide +kernel
theorem d_M_reduce_80 : decode b_M_reduce 80 = .ok (.bipush 7, 2) := by decide +kernel
theorem d_M_reduce_82 : decode b_M_reduce 82 = .ok (.if_icmp .ne 56, 3) := by decide +kernel
theorem d_M_reduce_85 : decode b_M_reduce 85 = .ok (.aload_n 0, 1) := by decide +kernel
theorem d_M_reduce_86 : decode b_M_reduce 86 = .ok (.dup, 1) := by decide +kernel
theorem d_M_reduce_87 : decode b_M_reduce 87 = .ok (.getfield 484, 3) := by decide +kernel
theorem d_M_reduce_90 : decode b_M_reduce 90 = .ok (.iconst 1, 1) := by decide +kernel
theorem d_M_reduce_91 : decode b_M_reduce 91 = .ok (.isub, 1) := by decide +kernel
theorem d_M_reduce_92 : decode b_M_reduce 92 = .ok (.putfield 484, 3) := by decide +kernel
theorem d_M_reduce_95 : decode b_M_reduce 95 = .ok (.aload_n 0, 1) := by decide +kernel
theorem d_M_reduce_96 : decode b_M_reduce 96 = .ok (.aload_n 0, 1) := by decide +kernel
theorem d_M_reduce_97 : decode b_M_reduce 97 = .ok (.getfield 22, 3) := by decide +kernel
theorem d_M_reduce_100 : decode b_M_reduce 100 = .ok (.aload_n 0, 1) := by decide +kernel
theorem d_M_reduce_101 : decode b_M_reduce 101 = .ok (.getfield 180, 3) := by decide +kernel
theorem d_M_reduce_104 : decode b_M_reduce 104 = .ok (.aload_n 0, 1) := by decide +kernel
theorem d_M_reduce_105 : decode b_M_reduce 105 = .ok (.getfield 610, 3) := by decide +kernel
theorem d_M_reduce_108 : decode b_M_reduce 108 = .ok (.saload, 1) := by decide +kernel
theorem d_M_reduce_109 : decode b_M_reduce 109 = .ok (.baload, 1) := by decide +kernel
theorem d_M_reduce_110 : decode b_M_reduce 110 = .ok (.iconst 3, 1) := by decide +kernel
theorem d_M_reduce_111 : decode b_M_reduce 111 = .ok (.if_icmp .ne 8, 3) := by decide +kernel
theorem d_M_reduce_114 : decode b_M_reduce 114 = .ok (.bipush 7, 2) := by decide +kernel
theorem d_M_reduce_116 : decode b_M_reduce 116 = .ok (.goto 5, 3) := by decide +kernel
theorem d_M_reduce_119 : decode b_M_reduce 119 = .ok (.bipush 8, 2) := by decide +kernel
theorem d_M_reduce_121 : decode b_M_reduce 121 = .ok (.aload_n 0, 1) := by decide +kernel
theorem d_M_reduce_122 : decode b_M_reduce 122 = .ok (.getfield 180, 3) := by decide +kernel
theorem d_M_reduce_125 : decode b_M_reduce 125 = .ok (.aload_n 0, 1) := by decide +kernel
theorem d_M_reduce_126 : decode b_M_reduce 126 = .ok (.getfield 610, 3) := by decide +kernel
theorem d_M_reduce_129 : decode b_M_reduce 129 = .ok (.saload, 1) := by decide +kernel
theorem d_M_reduce_130 : decode b_M_reduce 130 = .ok (.invokevirtual 500, 3) := by decide +kernel
theorem d_M_reduce_133 : decode b_M_reduce 133 = .ok (.istore 4, 2) := by decide +kernel
theorem d_M_reduce_135 : decode b_M_reduce 135 = .ok (.goto 120, 3) := by decide +kernel
theorem d_M_reduce_138 : decode b_M_reduce 138 = .ok (.iload 6, 2) := by decide +kernel
theorem d_M_reduce_140 : decode b_M_reduce 140 = .ok (.iconst 3, 1) := by decide +kernel
theorem d_M_reduce_141 : decode b_M_reduce 141 = .ok (.if_icmp .ge 48, 3) := by decide +kernel
theorem d_M_reduce_144 : decode b_M_reduce 144 = .ok (.aload_n 0, 1) := by decide +kernel
theorem d_M_reduce_145 : decode b_M_reduce 145 = .ok (.aload_n 0, 1) := by decide +kernel
theorem d_M_reduce_146 : decode b_M_reduce 146 = .ok (.getfield 186, 3) := by decide +kernel
theorem d_M_reduce_149 : decode b_M_reduce 149 = .ok (.aload_n 0, 1) := by decide +kernel
theorem d_M_reduce_150 : decode b_M_reduce 150 = .ok (.getfield 610, 3) := by decide +kernel
theorem d_M_reduce_153 : decode b_M_reduce 153 = .ok (.iaload, 1) := by decide +kernel
theorem d_M_reduce_154 : decode b_M_reduce 154 = .ok (.invokevirtual 580, 3) := by decide +kernel
theorem d_M_reduce_157 : decode b_M_reduce 157 = .ok (.aload_n 0, 1) := by decide +kernel
theorem d_M_reduce_158 : decode b_M_reduce 158 = .ok (.getfield 63, 3) := by decide +kernel
theorem d_M_reduce_161 : decode b_M_reduce 161 = .ok (.aload_n 0, 1) := by decide +kernel
theorem d_M_reduce_162 : decode b_M_reduce 162 = .ok (.getfield 183, 3) := by decide +kernel
theorem d_M_reduce_165 : decode b_M_reduce 165 = .ok (.aload_n 0, 1) := by decide +kernel
theorem d_M_reduce_166 : decode b_M_reduce 166 = .ok (.getfield 610, 3) := by decide +kernel
theorem d_M_reduce_169 : decode b_M_reduce 169 = .ok (.iaload, 1) := by decide +kernel
theorem d_M_reduce_170 : decode b_M_reduce 170 = .ok (.aload_n 0, 1) := by decide +kernel
theorem d_M_reduce_171 : decode b_M_reduce 171 = .ok (.getfield 448, 3) := by decide +kernel
theorem d_M_reduce_174 : decode b_M_reduce 174 = .ok (.iastore, 1) := by decide +kernel
theorem d_M_reduce_175 : decode b_M_reduce 175 = .ok (.aload_n 0, 1) := by decide +kernel
theorem d_M_reduce_176 : decode b_M_reduce 176 = .ok (.getfield 183, 3) := by decide +kernel
theorem d_M_reduce_179 : decode b_M_reduce 179 = .ok (.aload_n 0, 1) := by decide +kernel
theorem d_M_reduce_180 : decode b_M_reduce 180 = .ok (.getfield 610, 3) := by decide +kernel
theorem d_M_reduce_183 : decode b_M_reduce 183 = .ok (.iaload, 1) := by decide +kernel
theorem d_M_reduce_184 : decode b_M_reduce 184 = .ok (.istore 4, 2) := by decide +kernel
theorem d_M_reduce_186 : decode b_M_reduce 186 = .ok (.goto 69, 3) := by decide +kernel
theorem d_M_reduce_189 : decode b_M_reduce 189 = .ok (.aload_n 0, 1) := by decide +kernel
theorem d_M_reduce_190 : decode b_M_reduce 190 = .ok (.bipush 6, 2) := by decide +kernel
theorem d_M_reduce_192 : decode b_M_reduce 192 = .ok (.aload_n 0, 1) := by decide +kernel
theorem d_M_reduce_193 : decode b_M_reduce 193 = .ok (.getfield 180, 3) := by decide +kernel
theorem d_M_reduce_196 : decode b_M_reduce 196 = .ok (.aload_n 0, 1) := by decide +kernel
theorem d_M_reduce_197 : decode b_M_reduce 197 = .ok (.getfield 610, 3) := by decide +kernel
theorem d_M_reduce_200 : decode b_M_reduce 200 = .ok (.saload, 1) := by decide +kernel
theorem d_M_reduce_201 : decode b_M_reduce 201 = .ok (.invokevirtual 500, 3) := by decide +kernel
theorem d_M_reduce_204 : decode b_M_reduce 204 = .ok (.istore 4, 2) := by decide +kernel
theorem d_M_reduce_206 : decode b_M_reduce 206 = .ok (.aload_n 0, 1) := by decide +kernel
theorem d_M_reduce_207 : decode b_M_reduce 207 = .ok (.getfield 180, 3) := by decide +kernel
theorem d_M_reduce_210 : decode b_M_reduce 210 = .ok (.aload_n 0, 1) := by decide +kernel
theorem d_M_reduce_211 : decode b_M_reduce 211 = .ok (.getfield 610, 3) := by decide +kernel
theorem d_M_reduce_214 : decode b_M_reduce 214 = .ok (.saload, 1) := by decide +kernel
theorem d_M_reduce_215 : decode b_M_reduce 215 = .ok (.istore 7, 2) := by decide +kernel
theorem d_M_reduce_217 : decode b_M_reduce 217 = .ok (.aload_n 0, 1) := by decide +kernel
theorem d_M_reduce_218 : decode b_M_reduce 218 = .ok (.getfield 63, 3) := by decide +kernel
theorem d_M_reduce_221 : decode b_M_reduce 221 = .ok (.iload 4, 2) := by decide +kernel
theorem d_M_reduce_223 : decode b_M_reduce 223 = .ok (.aload_n 0, 1) := by decide +kernel
theorem d_M_reduce_224 : decode b_M_reduce 224 = .ok (.getfield 22, 3) := by decide +kernel
theorem d_M_reduce_227 : decode b_M_reduce 227 = .ok (.iload 7, 2) := by decide +kernel
theorem d_M_reduce_229 : decode b_M_reduce 229 = .ok (.baload, 1) := by decide +kernel
theorem d_M_reduce_230 : decode b_M_reduce 230 = .ok (.iconst 3, 1) := by decide +kernel
theorem d_M_reduce_231 : decode b_M_reduce 231 = .ok (.if_icmp .ne 16, 3) := by decide +kernel
theorem d_M_reduce_234 : decode b_M_reduce 234 = .ok (.bipush 100, 2) := by decide +kernel
theorem d_M_reduce_236 : decode b_M_reduce 236 = .ok (.aload_n 0, 1) := by decide +kernel
theorem d_M_reduce_237 : decode b_M_reduce 237 = .ok (.getfield 25, 3) := by decide +kernel
theorem d_M_reduce_240 : decode b_M_reduce 240 = .ok (.iload 7, 2) := by decide +kernel
theorem d_M_reduce_242 : decode b_M_reduce 242 = .ok (.iaload, 1) := by decide +kernel
theorem d_M_reduce_243 : decode b_M_reduce 243 = .ok (.iadd, 1) := by decide +kernel
theorem d_M_reduce_244 : decode b_M_reduce 244 = .ok (.goto 10, 3) := by decide +kernel
theorem d_M_reduce_247 : decode b_M_reduce 247 = .ok (.aload_n 0, 1) := by decide +kernel
theorem d_M_reduce_248 : decode b_M_reduce 248 = .ok (.getfield 25, 3) := by decide +kernel
theorem d_M_reduce_251 : decode b_M_reduce 251 = .ok (.iload 7, 2) := by decide +kernel
theorem d_M_reduce_253 : decode b_M_reduce 253 = .ok (.iaload, 1) := by decide +kernel
theorem d_M_reduce_254 : decode b_M_reduce 254 = .ok (.iastore, 1) := by decide +kernel
theorem d_M_reduce_255 : decode b_M_reduce 255 = .ok (.goto (-249), 3) := by decide +kernel
theorem d_M_reduce_258 : decode b_M_reduce 258 = .ok (.iload 4, 2) := by decide +kernel
theorem d_M_reduce_260 : decode b_M_reduce 260 = .ok (.ireturn, 1) := by decide +kernel
set_option maxRecDepth 100000 in
theorem hl_M_reduce : Cond.methodLink R_M 619 y_M_reduce ∈ wd_tbl := wd_of 2852 (by decide +kernel) rfl
set_option maxRecDepth 100000 in
theorem hi_M_reduce : Cond.instanceMethod y_M_reduce ∈ wd_tbl := wd_of 2854 (by decide +kernel) rfl
set_option maxRecDepth 100000 in
theorem hs_M_reduce : Cond.selects R_M y_M_reduce y_M_reduce ∈ wd_tbl := wd_of 177 (by decide +kernel) rfl
theorem hd_M_reduce : y_M_reduce.cls = R_M ∧ y_M_reduce.cls ≠ "java/lang/invoke/MethodHandle" ∧ y_M_reduce.cls ≠ "java/lang/invoke/VarHandle" ∧ (parseMethodDescriptor y_M_reduce.desc).map (fun d => d.parameters.length) = some 3 := by decide +kernel
def rm_M_reduce : Room := { frames := 2, cells := 0, slots := 0, locals := 44 }
theorem rm_M_reduce_M_node {R : Room} (hR : R = rm_M_reduce) : (rm_M_node).frames + 1 ≤ R.frames ∧ 8 + (3 + 11) + (rm_M_node).locals ≤ R.locals := by subst hR; decide
theorem rm_M_reduce_M_unbind {R : Room} (hR : R = rm_M_reduce) : (rm_M_unbind).frames + 1 ≤ R.frames ∧ 8 + (3 + 11) + (rm_M_unbind).locals ≤ R.locals := by subst hR; decide
def fb_M_reduce_258 (N : Nat) (G : (MS → Int32 → Int32 → Int32 → Int32 → Option (MS × Int32))) (u : MS) (v4 : Int32) : Option (MS × Int32) := some (u, v4)
set_option maxRecDepth 100000 in
set_option maxHeartbeats 4000000 in
theorem wb_M_reduce_258 {p : Program} {l : Launch} {e : Env} {R : Room} {s : State} {m : MethodId} {args : Array Value} {below : List Frame} {meth : Method} {c : Code} {D : va_G} {cl : List vw_C} {cB cI cJ cZ cS : ClassId} {A : Nat → Prop} {iM h0 : Nat} {ad : Nat → Nat} (C0 : MCx p s m args meth c b_M_reduce 8 (some .int) D cl cB cI cJ cZ cS iM A) (hR : R = rm_M_reduce) (N : Nat) (G : (MS → Int32 → Int32 → Int32 → Int32 → Option (MS × Int32))) (hG : (∀ (u : MS) (v1 : Int32) (v2 : Int32) (v4 : Int32) (v5 : Int32) (x : MS × Int32), G u v1 v2 v4 v5 = some x → ∀ (H : Heap) (locs : List Loc), va_P D cl (wM cB cI cJ cZ cS iM h0 ad u) H → va_D A (wM cB cI cJ cZ cS iM h0 ad u) → va_S A s.heap H locs → ∀ (ls : Array Slot), lv_has ls 8 [(0, .ref h0), (1, .int v1), (2, .int v2), (4, .int v4), (5, .int v5)] → W p l e R s m args below meth c H locs 0 0 (MQ below (mQi D cl cB cI cJ cZ cS iM h0 ad A x) args s 0 0 A) (F0 m 6 ls []))) : ∀ (u : MS) (v4 : Int32) (x : MS × Int32), fb_M_reduce_258 N G u v4 = some x → ∀ (H : Heap) (locs : List Loc), va_P D cl (wM cB cI cJ cZ cS iM h0 ad u) H → va_D A (wM cB cI cJ cZ cS iM h0 ad u) → va_S A s.heap H locs → ∀ (ls : Array Slot), lv_has ls 8 [(4, .int v4)] → W p l e R s m args below meth c H locs 0 0 (MQ below (mQi D cl cB cI cJ cZ cS iM h0 ad A x) args s 0 0 A) (F0 m 258 ls []) := by
  intro u v4 x hf H locs hP hD hS ls hl
  obtain ⟨hx, hb, hr, hml, ht, hown, hM, hK, hA, hlocks⟩ := id C0
  unfold fb_M_reduce_258 at hf
  refine lv_iload hx hb d_M_reduce_258 (lv_at hl 0 rfl) ?_
  exact mr_i C0 hP hD hS hf d_M_reduce_260
def fb_M_reduce_255 (N : Nat) (G : (MS → Int32 → Int32 → Int32 → Int32 → Option (MS × Int32))) (u : MS) (v1 : Int32) (v2 : Int32) (v4 : Int32) (v5 : Int32) : Option (MS × Int32) := G u (v1) (v2) (v4) (v5)
set_option maxRecDepth 100000 in
set_option maxHeartbeats 4000000 in
theorem wb_M_reduce_255 {p : Program} {l : Launch} {e : Env} {R : Room} {s : State} {m : MethodId} {args : Array Value} {below : List Frame} {meth : Method} {c : Code} {D : va_G} {cl : List vw_C} {cB cI cJ cZ cS : ClassId} {A : Nat → Prop} {iM h0 : Nat} {ad : Nat → Nat} (C0 : MCx p s m args meth c b_M_reduce 8 (some .int) D cl cB cI cJ cZ cS iM A) (hR : R = rm_M_reduce) (N : Nat) (G : (MS → Int32 → Int32 → Int32 → Int32 → Option (MS × Int32))) (hG : (∀ (u : MS) (v1 : Int32) (v2 : Int32) (v4 : Int32) (v5 : Int32) (x : MS × Int32), G u v1 v2 v4 v5 = some x → ∀ (H : Heap) (locs : List Loc), va_P D cl (wM cB cI cJ cZ cS iM h0 ad u) H → va_D A (wM cB cI cJ cZ cS iM h0 ad u) → va_S A s.heap H locs → ∀ (ls : Array Slot), lv_has ls 8 [(0, .ref h0), (1, .int v1), (2, .int v2), (4, .int v4), (5, .int v5)] → W p l e R s m args below meth c H locs 0 0 (MQ below (mQi D cl cB cI cJ cZ cS iM h0 ad A x) args s 0 0 A) (F0 m 6 ls []))) : ∀ (u : MS) (v1 : Int32) (v2 : Int32) (v4 : Int32) (v5 : Int32) (x : MS × Int32), fb_M_reduce_255 N G u v1 v2 v4 v5 = some x → ∀ (H : Heap) (locs : List Loc), va_P D cl (wM cB cI cJ cZ cS iM h0 ad u) H → va_D A (wM cB cI cJ cZ cS iM h0 ad u) → va_S A s.heap H locs → ∀ (ls : Array Slot), lv_has ls 8 [(0, .ref h0), (1, .int v1), (2, .int v2), (4, .int v4), (5, .int v5)] → W p l e R s m args below meth c H locs 0 0 (MQ below (mQi D cl cB cI cJ cZ cS iM h0 ad A x) args s 0 0 A) (F0 m 255 ls []) := by
  intro u v1 v2 v4 v5 x hf H locs hP hD hS ls hl
  obtain ⟨hx, hb, hr, hml, ht, hown, hM, hK, hA, hlocks⟩ := id C0
  unfold fb_M_reduce_255 at hf
  refine lv_goto (tgt := 6) hx hb d_M_reduce_255 (by decide) ?_
  exact hG _ _ _ _ _ _ hf H locs hP hD hS ls (lv_sub hl [0, 1, 2, 3, 4] rfl)
def fb_M_reduce_254 (N : Nat) (G : (MS → Int32 → Int32 → Int32 → Int32 → Option (MS × Int32))) (u : MS) (v1 : Int32) (v2 : Int32) (v4 : Int32) (v5 : Int32) (t0 : Nat) (t1 : Int32) (t2 : Int32) : Option (MS × Int32) := ck (isK t0 4) (ck (inb t1 (ln t0)) (lt (upA u t0 (upd (u.2.2.1 t0) t1.toNatClampNeg t2)) (fun w1 => fb_M_reduce_255 N G w1 (v1) (v2) (v4) (v5))))
set_option maxRecDepth 100000 in
set_option maxHeartbeats 4000000 in
theorem wb_M_reduce_254 {p : Program} {l : Launch} {e : Env} {R : Room} {s : State} {m : MethodId} {args : Array Value} {below : List Frame} {meth : Method} {c : Code} {D : va_G} {cl : List vw_C} {cB cI cJ cZ cS : ClassId} {A : Nat → Prop} {iM h0 : Nat} {ad : Nat → Nat} (C0 : MCx p s m args meth c b_M_reduce 8 (some .int) D cl cB cI cJ cZ cS iM A) (hR : R = rm_M_reduce) (N : Nat) (G : (MS → Int32 → Int32 → Int32 → Int32 → Option (MS × Int32))) (hG : (∀ (u : MS) (v1 : Int32) (v2 : Int32) (v4 : Int32) (v5 : Int32) (x : MS × Int32), G u v1 v2 v4 v5 = some x → ∀ (H : Heap) (locs : List Loc), va_P D cl (wM cB cI cJ cZ cS iM h0 ad u) H → va_D A (wM cB cI cJ cZ cS iM h0 ad u) → va_S A s.heap H locs → ∀ (ls : Array Slot), lv_has ls 8 [(0, .ref h0), (1, .int v1), (2, .int v2), (4, .int v4), (5, .int v5)] → W p l e R s m args below meth c H locs 0 0 (MQ below (mQi D cl cB cI cJ cZ cS iM h0 ad A x) args s 0 0 A) (F0 m 6 ls []))) : ∀ (u : MS) (v1 : Int32) (v2 : Int32) (v4 : Int32) (v5 : Int32) (t0 : Nat) (t1 : Int32) (t2 : Int32) (x : MS × Int32), fb_M_reduce_254 N G u v1 v2 v4 v5 t0 t1 t2 = some x → ∀ (H : Heap) (locs : List Loc), va_P D cl (wM cB cI cJ cZ cS iM h0 ad u) H → va_D A (wM cB cI cJ cZ cS iM h0 ad u) → va_S A s.heap H locs → ∀ (ls : Array Slot), lv_has ls 8 [(0, .ref h0), (1, .int v1), (2, .int v2), (4, .int v4), (5, .int v5)] → W p l e R s m args below meth c H locs 0 0 (MQ below (mQi D cl cB cI cJ cZ cS iM h0 ad A x) args s 0 0 A) (F0 m 254 ls [.int t2, .int t1, .ref (ad t0)]) := by
  intro u v1 v2 v4 v5 t0 t1 t2 x hf H locs hP hD hS ls hl
  obtain ⟨hx, hb, hr, hml, ht, hown, hM, hK, hA, hlocks⟩ := id C0
  unfold fb_M_reduce_254 at hf
  obtain ⟨hk9, hf⟩ := ck_some hf
  obtain ⟨hi9, hf⟩ := ck_some hf
  refine us_I hx hb hK hP hD hS (isK_1 hk9) (isK_2 hk9) hi9 d_M_reduce_254 (fun H locs hP hD hS => ?_)
  obtain ⟨w1, e1, hf⟩ := lt_some hf
  rw [← e1] at hP hD
  exact wb_M_reduce_255 C0 hR N G hG _ _ _ _ _ _ hf H locs hP hD hS ls (lv_sub hl [0, 1, 2, 3, 4] rfl)
def fb_M_reduce_121 (N : Nat) (G : (MS → Int32 → Int32 → Int32 → Int32 → Option (MS × Int32))) (u : MS) (v1 : Int32) (v2 : Int32) (v5 : Int32) (t1 : Int32) : Option (MS × Int32) := ck (inb (u.1 83) (ln 80)) (bnd (fm_M_node N u t1 (u.2.2.1 80 (u.1 83).toNatClampNeg)) (fun u2 r2 => fb_M_reduce_255 N G u2 (v1) (v2) (r2) (v5)))
set_option maxRecDepth 100000 in
set_option maxHeartbeats 4000000 in
theorem wb_M_reduce_121 {p : Program} {l : Launch} {e : Env} {R : Room} {s : State} {m : MethodId} {args : Array Value} {below : List Frame} {meth : Method} {c : Code} {D : va_G} {cl : List vw_C} {cB cI cJ cZ cS : ClassId} {A : Nat → Prop} {iM h0 : Nat} {ad : Nat → Nat} (C0 : MCx p s m args meth c b_M_reduce 8 (some .int) D cl cB cI cJ cZ cS iM A) (hR : R = rm_M_reduce) (N : Nat) (G : (MS → Int32 → Int32 → Int32 → Int32 → Option (MS × Int32))) (hG : (∀ (u : MS) (v1 : Int32) (v2 : Int32) (v4 : Int32) (v5 : Int32) (x : MS × Int32), G u v1 v2 v4 v5 = some x → ∀ (H : Heap) (locs : List Loc), va_P D cl (wM cB cI cJ cZ cS iM h0 ad u) H → va_D A (wM cB cI cJ cZ cS iM h0 ad u) → va_S A s.heap H locs → ∀ (ls : Array Slot), lv_has ls 8 [(0, .ref h0), (1, .int v1), (2, .int v2), (4, .int v4), (5, .int v5)] → W p l e R s m args below meth c H locs 0 0 (MQ below (mQi D cl cB cI cJ cZ cS iM h0 ad A x) args s 0 0 A) (F0 m 6 ls []))) : ∀ (u : MS) (v1 : Int32) (v2 : Int32) (v5 : Int32) (t1 : Int32) (x : MS × Int32), fb_M_reduce_121 N G u v1 v2 v5 t1 = some x → ∀ (H : Heap) (locs : List Loc), va_P D cl (wM cB cI cJ cZ cS iM h0 ad u) H → va_D A (wM cB cI cJ cZ cS iM h0 ad u) → va_S A s.heap H locs → ∀ (ls : Array Slot), lv_has ls 8 [(0, .ref h0), (1, .int v1), (2, .int v2), (5, .int v5)] → W p l e R s m args below meth c H locs 0 0 (MQ below (mQi D cl cB cI cJ cZ cS iM h0 ad A x) args s 0 0 A) (F0 m 121 ls [.int t1, .ref h0]) := by
  intro u v1 v2 v5 t1 x hf H locs hP hD hS ls hl
  obtain ⟨hx, hb, hr, hml, ht, hown, hM, hK, hA, hlocks⟩ := id C0
  unfold fb_M_reduce_121 at hf
  refine lv_aload_n hx hb d_M_reduce_121 rfl (lv_at hl 0 rfl) ?_
  refine ug_R hx hb ht hown hM hK hP 80 (by decide) lk_M_80 (by decide) d_M_reduce_122 ?_
  refine lv_aload_n hx hb d_M_reduce_125 rfl (lv_at hl 0 rfl) ?_
  refine ug_I hx hb ht hown hM hK hP 83 (by decide) lk_M_83 (by decide) d_M_reduce_126 ?_
  obtain ⟨hi9, hf⟩ := ck_some hf
  refine ul_S hx hb hK hP (by decide) (by decide) hi9 d_M_reduce_129 ?_
  obtain ⟨u2, r2, hc2, hf⟩ := bnd_some hf
  refine mV_i (As := [.int t1, .int (u.2.2.1 80 (u.1 83).toNatClampNeg)]) (rest := []) C0 hP hD hS (c_M_node N hM hc2) k_M_node hl_M_node hi_M_node hs_M_node hini_M rfl rfl hd_M_node rfl (rm_M_reduce_M_node hR) hl.1 (Nat.le_of_ble_eq_true rfl) d_M_reduce_130 rfl ⟨Nat.zero_le _, Nat.zero_le _⟩ (fun H locs hP hD hS => ?_)
  refine lv_istore (lv' := [(4, .int r2), (0, .ref h0), (1, .int v1), (2, .int v2), (5, .int v5)]) hx hb d_M_reduce_133 hl (by decide) rfl (fun ls hl => ?_)
  refine lv_goto (tgt := 255) hx hb d_M_reduce_135 (by decide) ?_
  exact wb_M_reduce_255 C0 hR N G hG _ _ _ _ _ _ hf H locs hP hD hS ls (lv_sub hl [1, 2, 3, 0, 4] rfl)
def fb_M_reduce_61 (N : Nat) (G : (MS → Int32 → Int32 → Int32 → Int32 → Option (MS × Int32))) (u : MS) (v1 : Int32) (v2 : Int32) (v4 : Int32) (v6 : Int32) (t0 : Int32) : Option (MS × Int32) := br (decide (t0 = 0)) (fb_M_reduce_255 N G u (v1) (v2) (v4) (t0)) (lt (upI u 83 ((u.1 83) - 1)) (fun w3 => br (decide (v6 = 7)) (lt (upI w3 70 ((w3.1 70) - 1)) (fun w9 => ck (inb (w9.1 83) (ln 80)) (ck (inb (w9.2.2.1 80 (w9.1 83).toNatClampNeg) (ln 6)) (br (decide ((w9.2.2.1 6 (w9.2.2.1 80 (w9.1 83).toNatClampNeg).toNatClampNeg) = 3)) (fb_M_reduce_121 N G w9 (v1) (v2) (t0) (7)) (fb_M_reduce_121 N G w9 (v1) (v2) (t0) (8)))))) (br (decide (3 ≤ v6)) (ck (inb (w3.1 83) (ln 80)) (bnd (fm_M_node N w3 6 (w3.2.2.1 80 (w3.1 83).toNatClampNeg)) (fun u4 r4 => ck (inb (u4.1 83) (ln 80)) (lt (u4.2.2.1 80 (u4.1 83).toNatClampNeg) (fun y5 => ck (inb y5 (ln 6)) (br (decide ((u4.2.2.1 6 y5.toNatClampNeg) = 3)) (ck (inb y5 (ln 7)) (fb_M_reduce_254 N G u4 (v1) (v2) (r4) (t0) (25) (r4) ((100 + (u4.2.2.1 7 y5.toNatClampNeg))))) (ck (inb y5 (ln 7)) (fb_M_reduce_254 N G u4 (v1) (v2) (r4) (t0) (25) (r4) ((u4.2.2.1 7 y5.toNatClampNeg)))))))))) (ck (inb (w3.1 83) (ln 82)) (bnd (fm_M_unbind N w3 (w3.2.2.1 82 (w3.1 83).toNatClampNeg)) (fun u6 _ => ck (inb (u6.1 83) (ln 81)) (ck (inb (u6.2.2.1 81 (u6.1 83).toNatClampNeg) (ln 25)) (lt (upA u6 25 (upd (u6.2.2.1 25) (u6.2.2.1 81 (u6.1 83).toNatClampNeg).toNatClampNeg (u6.1 32))) (fun w7 => ck (inb (w7.1 83) (ln 81)) (lt (w7.2.2.1 81 (w7.1 83).toNatClampNeg) (fun y8 => fb_M_reduce_255 N G w7 (v1) (v2) (y8) (t0))))))))))))
set_option maxRecDepth 100000 in
set_option maxHeartbeats 4000000 in
theorem wb_M_reduce_61 {p : Program} {l : Launch} {e : Env} {R : Room} {s : State} {m : MethodId} {args : Array Value} {below : List Frame} {meth : Method} {c : Code} {D : va_G} {cl : List vw_C} {cB cI cJ cZ cS : ClassId} {A : Nat → Prop} {iM h0 : Nat} {ad : Nat → Nat} (C0 : MCx p s m args meth c b_M_reduce 8 (some .int) D cl cB cI cJ cZ cS iM A) (hR : R = rm_M_reduce) (N : Nat) (G : (MS → Int32 → Int32 → Int32 → Int32 → Option (MS × Int32))) (hG : (∀ (u : MS) (v1 : Int32) (v2 : Int32) (v4 : Int32) (v5 : Int32) (x : MS × Int32), G u v1 v2 v4 v5 = some x → ∀ (H : Heap) (locs : List Loc), va_P D cl (wM cB cI cJ cZ cS iM h0 ad u) H → va_D A (wM cB cI cJ cZ cS iM h0 ad u) → va_S A s.heap H locs → ∀ (ls : Array Slot), lv_has ls 8 [(0, .ref h0), (1, .int v1), (2, .int v2), (4, .int v4), (5, .int v5)] → W p l e R s m args below meth c H locs 0 0 (MQ below (mQi D cl cB cI cJ cZ cS iM h0 ad A x) args s 0 0 A) (F0 m 6 ls []))) : ∀ (u : MS) (v1 : Int32) (v2 : Int32) (v4 : Int32) (v6 : Int32) (t0 : Int32) (x : MS × Int32), fb_M_reduce_61 N G u v1 v2 v4 v6 t0 = some x → ∀ (H : Heap) (locs : List Loc), va_P D cl (wM cB cI cJ cZ cS iM h0 ad u) H → va_D A (wM cB cI cJ cZ cS iM h0 ad u) → va_S A s.heap H locs → ∀ (ls : Array Slot), lv_has ls 8 [(0, .ref h0), (1, .int v1), (2, .int v2), (4, .int v4), (6, .int v6)] → W p l e R s m args below meth c H locs 0 0 (MQ below (mQi D cl cB cI cJ cZ cS iM h0 ad A x) args s 0 0 A) (F0 m 61 ls [.int t0]) := by
  intro u v1 v2 v4 v6 t0 x hf H locs hP hD hS ls hl
  obtain ⟨hx, hb, hr, hml, ht, hown, hM, hK, hA, hlocks⟩ := id C0
  unfold fb_M_reduce_61 at hf
  refine lv_istore (lv' := [(5, .int t0), (0, .ref h0), (1, .int v1), (2, .int v2), (4, .int v4), (6, .int v6)]) hx hb d_M_reduce_61 hl (by decide) rfl (fun ls hl => ?_)
  refine lv_iload hx hb d_M_reduce_63 (lv_at hl 0 rfl) ?_
  refine lv_if_eq (tgt := 255) hx hb d_M_reduce_65 (by decide) (fun hc => ?_) (fun hc => ?_)
  · rw [br_p _ hc] at hf
    exact wb_M_reduce_255 C0 hR N G hG _ _ _ _ _ _ hf H locs hP hD hS ls (lv_sub hl [1, 2, 3, 4, 0] rfl)
  · rw [br_n _ hc] at hf
    refine lv_aload_n hx hb d_M_reduce_68 rfl (lv_at hl 1 rfl) ?_
    refine lv_dup hx hb d_M_reduce_69 rfl ?_
    refine ug_I hx hb ht hown hM hK hP 83 (by decide) lk_M_83 (by decide) d_M_reduce_70 ?_
    refine lv_iconst (v := 1) hx hb d_M_reduce_73 (by decide) ?_
    refine lv_isub hx hb d_M_reduce_74 ?_
    refine up_I hx hb ht hown hM hK hP hD hS 83 (by decide) lk_M_83 (by decide) rfl rfl rfl d_M_reduce_75 (fun H locs hP hD hS => ?_)
    obtain ⟨w3, e3, hf⟩ := lt_some hf
    rw [← e3] at hP hD
    refine lv_iload hx hb d_M_reduce_78 (lv_at hl 5 rfl) ?_
    refine lv_bipush (v := 7) hx hb d_M_reduce_80 (by decide) ?_
    refine lv_icmp_ne (tgt := 138) hx hb d_M_reduce_82 (by decide) (fun hc => ?_) (fun hc => ?_)
    · rw [br_n _ hc] at hf
      refine lv_iload hx hb d_M_reduce_138 (lv_at hl 5 rfl) ?_
      refine lv_iconst (v := 3) hx hb d_M_reduce_140 (by decide) ?_
      refine lv_icmp_ge (tgt := 189) hx hb d_M_reduce_141 (by decide) (fun hc => ?_) (fun hc => ?_)
      · rw [br_p _ hc] at hf
        refine lv_aload_n hx hb d_M_reduce_189 rfl (lv_at hl 1 rfl) ?_
        refine lv_bipush (v := 6) hx hb d_M_reduce_190 (by decide) ?_
        refine lv_aload_n hx hb d_M_reduce_192 rfl (lv_at hl 1 rfl) ?_
        refine ug_R hx hb ht hown hM hK hP 80 (by decide) lk_M_80 (by decide) d_M_reduce_193 ?_
        refine lv_aload_n hx hb d_M_reduce_196 rfl (lv_at hl 1 rfl) ?_
        refine ug_I hx hb ht hown hM hK hP 83 (by decide) lk_M_83 (by decide) d_M_reduce_197 ?_
        obtain ⟨hi9, hf⟩ := ck_some hf
        refine ul_S hx hb hK hP (by decide) (by decide) hi9 d_M_reduce_200 ?_
        obtain ⟨u4, r4, hc4, hf⟩ := bnd_some hf
        refine mV_i (As := [.int 6, .int (w3.2.2.1 80 (w3.1 83).toNatClampNeg)]) (rest := []) C0 hP hD hS (c_M_node N hM hc4) k_M_node hl_M_node hi_M_node hs_M_node hini_M rfl rfl hd_M_node rfl (rm_M_reduce_M_node hR) hl.1 (Nat.le_of_ble_eq_true rfl) d_M_reduce_201 rfl ⟨Nat.zero_le _, Nat.zero_le _⟩ (fun H locs hP hD hS => ?_)
        refine lv_istore (lv' := [(4, .int r4), (5, .int t0), (0, .ref h0), (1, .int v1), (2, .int v2), (6, .int v6)]) hx hb d_M_reduce_204 hl (by decide) rfl (fun ls hl => ?_)
        refine lv_aload_n hx hb d_M_reduce_206 rfl (lv_at hl 2 rfl) ?_
        refine ug_R hx hb ht hown hM hK hP 80 (by decide) lk_M_80 (by decide) d_M_reduce_207 ?_
        refine lv_aload_n hx hb d_M_reduce_210 rfl (lv_at hl 2 rfl) ?_
        refine ug_I hx hb ht hown hM hK hP 83 (by decide) lk_M_83 (by decide) d_M_reduce_211 ?_
        obtain ⟨hi9, hf⟩ := ck_some hf
        refine ul_S hx hb hK hP (by decide) (by decide) hi9 d_M_reduce_214 ?_
        obtain ⟨y5, e5, hf⟩ := lt_some hf
        rw [← e5]
        refine lv_istore (lv' := [(7, .int y5), (4, .int r4), (5, .int t0), (0, .ref h0), (1, .int v1), (2, .int v2), (6, .int v6)]) hx hb d_M_reduce_215 hl (by decide) rfl (fun ls hl => ?_)
        refine lv_aload_n hx hb d_M_reduce_217 rfl (lv_at hl 3 rfl) ?_
        refine ug_R hx hb ht hown hM hK hP 25 (by decide) lk_M_25 (by decide) d_M_reduce_218 ?_
        refine lv_iload hx hb d_M_reduce_221 (lv_at hl 1 rfl) ?_
        refine lv_aload_n hx hb d_M_reduce_223 rfl (lv_at hl 3 rfl) ?_
        refine ug_R hx hb ht hown hM hK hP 6 (by decide) lk_M_6 (by decide) d_M_reduce_224 ?_
        refine lv_iload hx hb d_M_reduce_227 (lv_at hl 0 rfl) ?_
        obtain ⟨hi9, hf⟩ := ck_some hf
        refine ul_B hx hb hK hP (by decide) (by decide) hi9 d_M_reduce_229 ?_
        refine lv_iconst (v := 3) hx hb d_M_reduce_230 (by decide) ?_
        refine lv_icmp_ne (tgt := 247) hx hb d_M_reduce_231 (by decide) (fun hc => ?_) (fun hc => ?_)
        · rw [br_n _ hc] at hf
          refine lv_aload_n hx hb d_M_reduce_247 rfl (lv_at hl 3 rfl) ?_
          refine ug_R hx hb ht hown hM hK hP 7 (by decide) lk_M_7 (by decide) d_M_reduce_248 ?_
          refine lv_iload hx hb d_M_reduce_251 (lv_at hl 0 rfl) ?_
          obtain ⟨hi9, hf⟩ := ck_some hf
          refine ul_I hx hb hK hP (by decide) (by decide) hi9 d_M_reduce_253 ?_
          exact wb_M_reduce_254 C0 hR N G hG _ _ _ _ _ _ _ _ _ hf H locs hP hD hS ls (lv_sub hl [3, 4, 5, 1, 2] rfl)
        · rw [br_p _ hc] at hf
          refine lv_bipush (v := 100) hx hb d_M_reduce_234 (by decide) ?_
          refine lv_aload_n hx hb d_M_reduce_236 rfl (lv_at hl 3 rfl) ?_
          refine ug_R hx hb ht hown hM hK hP 7 (by decide) lk_M_7 (by decide) d_M_reduce_237 ?_
          refine lv_iload hx hb d_M_reduce_240 (lv_at hl 0 rfl) ?_
          obtain ⟨hi9, hf⟩ := ck_some hf
          refine ul_I hx hb hK hP (by decide) (by decide) hi9 d_M_reduce_242 ?_
          refine lv_iadd hx hb d_M_reduce_243 ?_
          refine lv_goto (tgt := 254) hx hb d_M_reduce_244 (by decide) ?_
          exact wb_M_reduce_254 C0 hR N G hG _ _ _ _ _ _ _ _ _ hf H locs hP hD hS ls (lv_sub hl [3, 4, 5, 1, 2] rfl)
      · rw [br_n _ hc] at hf
        refine lv_aload_n hx hb d_M_reduce_144 rfl (lv_at hl 1 rfl) ?_
        refine lv_aload_n hx hb d_M_reduce_145 rfl (lv_at hl 1 rfl) ?_
        refine ug_R hx hb ht hown hM hK hP 82 (by decide) lk_M_82 (by decide) d_M_reduce_146 ?_
        refine lv_aload_n hx hb d_M_reduce_149 rfl (lv_at hl 1 rfl) ?_
        refine ug_I hx hb ht hown hM hK hP 83 (by decide) lk_M_83 (by decide) d_M_reduce_150 ?_
        obtain ⟨hi9, hf⟩ := ck_some hf
        refine ul_I hx hb hK hP (by decide) (by decide) hi9 d_M_reduce_153 ?_
        obtain ⟨u6, r6, hc6, hf⟩ := bnd_some hf
        refine mV_v (As := [.int (w3.2.2.1 82 (w3.1 83).toNatClampNeg)]) (rest := []) C0 hP hD hS (c_M_unbind N hM hc6) k_M_unbind hl_M_unbind hi_M_unbind hs_M_unbind hini_M rfl rfl hd_M_unbind rfl (rm_M_reduce_M_unbind hR) hl.1 (Nat.le_of_ble_eq_true rfl) d_M_reduce_154 rfl ⟨Nat.zero_le _, Nat.zero_le _⟩ (fun H locs hP hD hS => ?_)
        refine lv_aload_n hx hb d_M_reduce_157 rfl (lv_at hl 1 rfl) ?_
        refine ug_R hx hb ht hown hM hK hP 25 (by decide) lk_M_25 (by decide) d_M_reduce_158 ?_
        refine lv_aload_n hx hb d_M_reduce_161 rfl (lv_at hl 1 rfl) ?_
        refine ug_R hx hb ht hown hM hK hP 81 (by decide) lk_M_81 (by decide) d_M_reduce_162 ?_
        refine lv_aload_n hx hb d_M_reduce_165 rfl (lv_at hl 1 rfl) ?_
        refine ug_I hx hb ht hown hM hK hP 83 (by decide) lk_M_83 (by decide) d_M_reduce_166 ?_
        obtain ⟨hi9, hf⟩ := ck_some hf
        refine ul_I hx hb hK hP (by decide) (by decide) hi9 d_M_reduce_169 ?_
        refine lv_aload_n hx hb d_M_reduce_170 rfl (lv_at hl 1 rfl) ?_
        refine ug_I hx hb ht hown hM hK hP 32 (by decide) lk_M_32 (by decide) d_M_reduce_171 ?_
        obtain ⟨hi9, hf⟩ := ck_some hf
        refine us_I hx hb hK hP hD hS (by decide) (by decide) hi9 d_M_reduce_174 (fun H locs hP hD hS => ?_)
        obtain ⟨w7, e7, hf⟩ := lt_some hf
        rw [← e7] at hP hD
        refine lv_aload_n hx hb d_M_reduce_175 rfl (lv_at hl 1 rfl) ?_
        refine ug_R hx hb ht hown hM hK hP 81 (by decide) lk_M_81 (by decide) d_M_reduce_176 ?_
        refine lv_aload_n hx hb d_M_reduce_179 rfl (lv_at hl 1 rfl) ?_
        refine ug_I hx hb ht hown hM hK hP 83 (by decide) lk_M_83 (by decide) d_M_reduce_180 ?_
        obtain ⟨hi9, hf⟩ := ck_some hf
        refine ul_I hx hb hK hP (by decide) (by decide) hi9 d_M_reduce_183 ?_
        obtain ⟨y8, e8, hf⟩ := lt_some hf
        rw [← e8]
        refine lv_istore (lv' := [(4, .int y8), (5, .int t0), (0, .ref h0), (1, .int v1), (2, .int v2), (6, .int v6)]) hx hb d_M_reduce_184 hl (by decide) rfl (fun ls hl => ?_)
        refine lv_goto (tgt := 255) hx hb d_M_reduce_186 (by decide) ?_
        exact wb_M_reduce_255 C0 hR N G hG _ _ _ _ _ _ hf H locs hP hD hS ls (lv_sub hl [2, 3, 4, 0, 1] rfl)
    · rw [br_p _ hc] at hf
      refine lv_aload_n hx hb d_M_reduce_85 rfl (lv_at hl 1 rfl) ?_
      refine lv_dup hx hb d_M_reduce_86 rfl ?_
      refine ug_I hx hb ht hown hM hK hP 70 (by decide) lk_M_70 (by decide) d_M_reduce_87 ?_
      refine lv_iconst (v := 1) hx hb d_M_reduce_90 (by decide) ?_
      refine lv_isub hx hb d_M_reduce_91 ?_
      refine up_I hx hb ht hown hM hK hP hD hS 70 (by decide) lk_M_70 (by decide) rfl rfl rfl d_M_reduce_92 (fun H locs hP hD hS => ?_)
      obtain ⟨w9, e9, hf⟩ := lt_some hf
      rw [← e9] at hP hD
      refine lv_aload_n hx hb d_M_reduce_95 rfl (lv_at hl 1 rfl) ?_
      refine lv_aload_n hx hb d_M_reduce_96 rfl (lv_at hl 1 rfl) ?_
      refine ug_R hx hb ht hown hM hK hP 6 (by decide) lk_M_6 (by decide) d_M_reduce_97 ?_
      refine lv_aload_n hx hb d_M_reduce_100 rfl (lv_at hl 1 rfl) ?_
      refine ug_R hx hb ht hown hM hK hP 80 (by decide) lk_M_80 (by decide) d_M_reduce_101 ?_
      refine lv_aload_n hx hb d_M_reduce_104 rfl (lv_at hl 1 rfl) ?_
      refine ug_I hx hb ht hown hM hK hP 83 (by decide) lk_M_83 (by decide) d_M_reduce_105 ?_
      obtain ⟨hi9, hf⟩ := ck_some hf
      refine ul_S hx hb hK hP (by decide) (by decide) hi9 d_M_reduce_108 ?_
      obtain ⟨hi9, hf⟩ := ck_some hf
      refine ul_B hx hb hK hP (by decide) (by decide) hi9 d_M_reduce_109 ?_
      refine lv_iconst (v := 3) hx hb d_M_reduce_110 (by decide) ?_
      refine lv_icmp_ne (tgt := 119) hx hb d_M_reduce_111 (by decide) (fun hc => ?_) (fun hc => ?_)
      · rw [br_n _ hc] at hf
        refine lv_bipush (v := 8) hx hb d_M_reduce_119 (by decide) ?_
        exact wb_M_reduce_121 C0 hR N G hG _ _ _ _ _ _ hf H locs hP hD hS ls (lv_sub hl [1, 2, 3, 0] rfl)
      · rw [br_p _ hc] at hf
        refine lv_bipush (v := 7) hx hb d_M_reduce_114 (by decide) ?_
        refine lv_goto (tgt := 121) hx hb d_M_reduce_116 (by decide) ?_
        exact wb_M_reduce_121 C0 hR N G hG _ _ _ _ _ _ hf H locs hP hD hS ls (lv_sub hl [1, 2, 3, 0] rfl)
def fb_M_reduce_60 (N : Nat) (G : (MS → Int32 → Int32 → Int32 → Int32 → Option (MS × Int32))) (u : MS) (v1 : Int32) (v2 : Int32) (v4 : Int32) (v6 : Int32) : Option (MS × Int32) := fb_M_reduce_61 N G u (v1) (v2) (v4) (v6) (0)
set_option maxRecDepth 100000 in
set_option maxHeartbeats 4000000 in
theorem wb_M_reduce_60 {p : Program} {l : Launch} {e : Env} {R : Room} {s : State} {m : MethodId} {args : Array Value} {below : List Frame} {meth : Method} {c : Code} {D : va_G} {cl : List vw_C} {cB cI cJ cZ cS : ClassId} {A : Nat → Prop} {iM h0 : Nat} {ad : Nat → Nat} (C0 : MCx p s m args meth c b_M_reduce 8 (some .int) D cl cB cI cJ cZ cS iM A) (hR : R = rm_M_reduce) (N : Nat) (G : (MS → Int32 → Int32 → Int32 → Int32 → Option (MS × Int32))) (hG : (∀ (u : MS) (v1 : Int32) (v2 : Int32) (v4 : Int32) (v5 : Int32) (x : MS × Int32), G u v1 v2 v4 v5 = some x → ∀ (H : Heap) (locs : List Loc), va_P D cl (wM cB cI cJ cZ cS iM h0 ad u) H → va_D A (wM cB cI cJ cZ cS iM h0 ad u) → va_S A s.heap H locs → ∀ (ls : Array Slot), lv_has ls 8 [(0, .ref h0), (1, .int v1), (2, .int v2), (4, .int v4), (5, .int v5)] → W p l e R s m args below meth c H locs 0 0 (MQ below (mQi D cl cB cI cJ cZ cS iM h0 ad A x) args s 0 0 A) (F0 m 6 ls []))) : ∀ (u : MS) (v1 : Int32) (v2 : Int32) (v4 : Int32) (v6 : Int32) (x : MS × Int32), fb_M_reduce_60 N G u v1 v2 v4 v6 = some x → ∀ (H : Heap) (locs : List Loc), va_P D cl (wM cB cI cJ cZ cS iM h0 ad u) H → va_D A (wM cB cI cJ cZ cS iM h0 ad u) → va_S A s.heap H locs → ∀ (ls : Array Slot), lv_has ls 8 [(0, .ref h0), (1, .int v1), (2, .int v2), (4, .int v4), (6, .int v6)] → W p l e R s m args below meth c H locs 0 0 (MQ below (mQi D cl cB cI cJ cZ cS iM h0 ad A x) args s 0 0 A) (F0 m 60 ls []) := by
  intro u v1 v2 v4 v6 x hf H locs hP hD hS ls hl
  obtain ⟨hx, hb, hr, hml, ht, hown, hM, hK, hA, hlocks⟩ := id C0
  unfold fb_M_reduce_60 at hf
  refine lv_iconst (v := 0) hx hb d_M_reduce_60 (by decide) ?_
  exact wb_M_reduce_61 C0 hR N G hG _ _ _ _ _ _ _ hf H locs hP hD hS ls (lv_sub hl [0, 1, 2, 3, 4] rfl)
def fb_M_reduce_56 (N : Nat) (G : (MS → Int32 → Int32 → Int32 → Int32 → Option (MS × Int32))) (u : MS) (v1 : Int32) (v2 : Int32) (v4 : Int32) (v6 : Int32) : Option (MS × Int32) := fb_M_reduce_61 N G u (v1) (v2) (v4) (v6) (1)
set_option maxRecDepth 100000 in
set_option maxHeartbeats 4000000 in
theorem wb_M_reduce_56 {p : Program} {l : Launch} {e : Env} {R : Room} {s : State} {m : MethodId} {args : Array Value} {below : List Frame} {meth : Method} {c : Code} {D : va_G} {cl : List vw_C} {cB cI cJ cZ cS : ClassId} {A : Nat → Prop} {iM h0 : Nat} {ad : Nat → Nat} (C0 : MCx p s m args meth c b_M_reduce 8 (some .int) D cl cB cI cJ cZ cS iM A) (hR : R = rm_M_reduce) (N : Nat) (G : (MS → Int32 → Int32 → Int32 → Int32 → Option (MS × Int32))) (hG : (∀ (u : MS) (v1 : Int32) (v2 : Int32) (v4 : Int32) (v5 : Int32) (x : MS × Int32), G u v1 v2 v4 v5 = some x → ∀ (H : Heap) (locs : List Loc), va_P D cl (wM cB cI cJ cZ cS iM h0 ad u) H → va_D A (wM cB cI cJ cZ cS iM h0 ad u) → va_S A s.heap H locs → ∀ (ls : Array Slot), lv_has ls 8 [(0, .ref h0), (1, .int v1), (2, .int v2), (4, .int v4), (5, .int v5)] → W p l e R s m args below meth c H locs 0 0 (MQ below (mQi D cl cB cI cJ cZ cS iM h0 ad A x) args s 0 0 A) (F0 m 6 ls []))) : ∀ (u : MS) (v1 : Int32) (v2 : Int32) (v4 : Int32) (v6 : Int32) (x : MS × Int32), fb_M_reduce_56 N G u v1 v2 v4 v6 = some x → ∀ (H : Heap) (locs : List Loc), va_P D cl (wM cB cI cJ cZ cS iM h0 ad u) H → va_D A (wM cB cI cJ cZ cS iM h0 ad u) → va_S A s.heap H locs → ∀ (ls : Array Slot), lv_has ls 8 [(0, .ref h0), (1, .int v1), (2, .int v2), (4, .int v4), (6, .int v6)] → W p l e R s m args below meth c H locs 0 0 (MQ below (mQi D cl cB cI cJ cZ cS iM h0 ad A x) args s 0 0 A) (F0 m 56 ls []) := by
  intro u v1 v2 v4 v6 x hf H locs hP hD hS ls hl
  obtain ⟨hx, hb, hr, hml, ht, hown, hM, hK, hA, hlocks⟩ := id C0
  unfold fb_M_reduce_56 at hf
  refine lv_iconst (v := 1) hx hb d_M_reduce_56 (by decide) ?_
  refine lv_goto (tgt := 61) hx hb d_M_reduce_57 (by decide) ?_
  exact wb_M_reduce_61 C0 hR N G hG _ _ _ _ _ _ _ hf H locs hP hD hS ls (lv_sub hl [0, 1, 2, 3, 4] rfl)
def fb_M_reduce_6 (N : Nat) (G : (MS → Int32 → Int32 → Int32 → Int32 → Option (MS × Int32))) (u : MS) (v1 : Int32) (v2 : Int32) (v4 : Int32) (v5 : Int32) : Option (MS × Int32) := br (decide (v5 = 0)) (fb_M_reduce_258 N G u (v4)) (br (decide ((u.1 83) ≤ v1)) (fb_M_reduce_258 N G u (v4)) (ck (inb ((u.1 83) - 1) (ln 79)) (lt (u.2.2.1 79 ((u.1 83) - 1).toNatClampNeg) (fun y10 => br (decide (v2 < y10)) (fb_M_reduce_56 N G u (v1) (v2) (v4) (y10)) (br (decide (y10 = v2)) (br (decide (y10 = 3)) (fb_M_reduce_60 N G u (v1) (v2) (v4) (y10)) (br (decide (y10 = 4)) (fb_M_reduce_60 N G u (v1) (v2) (v4) (y10)) (fb_M_reduce_56 N G u (v1) (v2) (v4) (y10)))) (fb_M_reduce_60 N G u (v1) (v2) (v4) (y10)))))))
set_option maxRecDepth 100000 in
set_option maxHeartbeats 4000000 in
theorem wb_M_reduce_6 {p : Program} {l : Launch} {e : Env} {R : Room} {s : State} {m : MethodId} {args : Array Value} {below : List Frame} {meth : Method} {c : Code} {D : va_G} {cl : List vw_C} {cB cI cJ cZ cS : ClassId} {A : Nat → Prop} {iM h0 : Nat} {ad : Nat → Nat} (C0 : MCx p s m args meth c b_M_reduce 8 (some .int) D cl cB cI cJ cZ cS iM A) (hR : R = rm_M_reduce) (N : Nat) (G : (MS → Int32 → Int32 → Int32 → Int32 → Option (MS × Int32))) (hG : (∀ (u : MS) (v1 : Int32) (v2 : Int32) (v4 : Int32) (v5 : Int32) (x : MS × Int32), G u v1 v2 v4 v5 = some x → ∀ (H : Heap) (locs : List Loc), va_P D cl (wM cB cI cJ cZ cS iM h0 ad u) H → va_D A (wM cB cI cJ cZ cS iM h0 ad u) → va_S A s.heap H locs → ∀ (ls : Array Slot), lv_has ls 8 [(0, .ref h0), (1, .int v1), (2, .int v2), (4, .int v4), (5, .int v5)] → W p l e R s m args below meth c H locs 0 0 (MQ below (mQi D cl cB cI cJ cZ cS iM h0 ad A x) args s 0 0 A) (F0 m 6 ls []))) : ∀ (u : MS) (v1 : Int32) (v2 : Int32) (v4 : Int32) (v5 : Int32) (x : MS × Int32), fb_M_reduce_6 N G u v1 v2 v4 v5 = some x → ∀ (H : Heap) (locs : List Loc), va_P D cl (wM cB cI cJ cZ cS iM h0 ad u) H → va_D A (wM cB cI cJ cZ cS iM h0 ad u) → va_S A s.heap H locs → ∀ (ls : Array Slot), lv_has ls 8 [(0, .ref h0), (1, .int v1), (2, .int v2), (4, .int v4), (5, .int v5)] → W p l e R s m args below meth c H locs 0 0 (MQ below (mQi D cl cB cI cJ cZ cS iM h0 ad A x) args s 0 0 A) (F0 m 6 ls []) := by
  intro u v1 v2 v4 v5 x hf H locs hP hD hS ls hl
  obtain ⟨hx, hb, hr, hml, ht, hown, hM, hK, hA, hlocks⟩ := id C0
  unfold fb_M_reduce_6 at hf
  refine lv_iload hx hb d_M_reduce_6 (lv_at hl 4 rfl) ?_
  refine lv_if_eq (tgt := 258) hx hb d_M_reduce_8 (by decide) (fun hc => ?_) (fun hc => ?_)
  · rw [br_p _ hc] at hf
    exact wb_M_reduce_258 C0 hR N G hG _ _ _ hf H locs hP hD hS ls (lv_sub hl [3] rfl)
  · rw [br_n _ hc] at hf
    refine lv_aload_n hx hb d_M_reduce_11 rfl (lv_at hl 0 rfl) ?_
    refine ug_I hx hb ht hown hM hK hP 83 (by decide) lk_M_83 (by decide) d_M_reduce_12 ?_
    refine lv_iload_n hx hb d_M_reduce_15 rfl (lv_at hl 1 rfl) ?_
    refine lv_icmp_le (tgt := 258) hx hb d_M_reduce_16 (by decide) (fun hc => ?_) (fun hc => ?_)
    · rw [br_p _ hc] at hf
      exact wb_M_reduce_258 C0 hR N G hG _ _ _ hf H locs hP hD hS ls (lv_sub hl [3] rfl)
    · rw [br_n _ hc] at hf
      refine lv_aload_n hx hb d_M_reduce_19 rfl (lv_at hl 0 rfl) ?_
      refine ug_R hx hb ht hown hM hK hP 79 (by decide) lk_M_79 (by decide) d_M_reduce_20 ?_
      refine lv_aload_n hx hb d_M_reduce_23 rfl (lv_at hl 0 rfl) ?_
      refine ug_I hx hb ht hown hM hK hP 83 (by decide) lk_M_83 (by decide) d_M_reduce_24 ?_
      refine lv_iconst (v := 1) hx hb d_M_reduce_27 (by decide) ?_
      refine lv_isub hx hb d_M_reduce_28 ?_
      obtain ⟨hi9, hf⟩ := ck_some hf
      refine ul_B hx hb hK hP (by decide) (by decide) hi9 d_M_reduce_29 ?_
      obtain ⟨y10, e10, hf⟩ := lt_some hf
      rw [← e10]
      refine lv_istore (lv' := [(6, .int y10), (0, .ref h0), (1, .int v1), (2, .int v2), (4, .int v4), (5, .int v5)]) hx hb d_M_reduce_30 hl (by decide) rfl (fun ls hl => ?_)
      refine lv_iload hx hb d_M_reduce_32 (lv_at hl 0 rfl) ?_
      refine lv_iload_n hx hb d_M_reduce_34 rfl (lv_at hl 3 rfl) ?_
      refine lv_icmp_gt (tgt := 56) hx hb d_M_reduce_35 (by decide) (fun hc => ?_) (fun hc => ?_)
      · rw [br_p _ hc] at hf
        exact wb_M_reduce_56 C0 hR N G hG _ _ _ _ _ _ hf H locs hP hD hS ls (lv_sub hl [1, 2, 3, 4, 0] rfl)
      · rw [br_n _ hc] at hf
        refine lv_iload hx hb d_M_reduce_38 (lv_at hl 0 rfl) ?_
        refine lv_iload_n hx hb d_M_reduce_40 rfl (lv_at hl 3 rfl) ?_
        refine lv_icmp_ne (tgt := 60) hx hb d_M_reduce_41 (by decide) (fun hc => ?_) (fun hc => ?_)
        · rw [br_n _ hc] at hf
          exact wb_M_reduce_60 C0 hR N G hG _ _ _ _ _ _ hf H locs hP hD hS ls (lv_sub hl [1, 2, 3, 4, 0] rfl)
        · rw [br_p _ hc] at hf
          refine lv_iload hx hb d_M_reduce_44 (lv_at hl 0 rfl) ?_
          refine lv_iconst (v := 3) hx hb d_M_reduce_46 (by decide) ?_
          refine lv_icmp_eq (tgt := 60) hx hb d_M_reduce_47 (by decide) (fun hc => ?_) (fun hc => ?_)
          · rw [br_p _ hc] at hf
            exact wb_M_reduce_60 C0 hR N G hG _ _ _ _ _ _ hf H locs hP hD hS ls (lv_sub hl [1, 2, 3, 4, 0] rfl)
          · rw [br_n _ hc] at hf
            refine lv_iload hx hb d_M_reduce_50 (lv_at hl 0 rfl) ?_
            refine lv_iconst (v := 4) hx hb d_M_reduce_52 (by decide) ?_
            refine lv_icmp_eq (tgt := 60) hx hb d_M_reduce_53 (by decide) (fun hc => ?_) (fun hc => ?_)
            · rw [br_p _ hc] at hf
              exact wb_M_reduce_60 C0 hR N G hG _ _ _ _ _ _ hf H locs hP hD hS ls (lv_sub hl [1, 2, 3, 4, 0] rfl)
            · rw [br_n _ hc] at hf
              exact wb_M_reduce_56 C0 hR N G hG _ _ _ _ _ _ hf H locs hP hD hS ls (lv_sub hl [1, 2, 3, 4, 0] rfl)
def fb_M_reduce_0 (N : Nat) (G : (MS → Int32 → Int32 → Int32 → Int32 → Option (MS × Int32))) (u : MS) (v1 : Int32) (v2 : Int32) (v3 : Int32) : Option (MS × Int32) := G u (v1) (v2) (v3) (1)
set_option maxRecDepth 100000 in
set_option maxHeartbeats 4000000 in
theorem wb_M_reduce_0 {p : Program} {l : Launch} {e : Env} {R : Room} {s : State} {m : MethodId} {args : Array Value} {below : List Frame} {meth : Method} {c : Code} {D : va_G} {cl : List vw_C} {cB cI cJ cZ cS : ClassId} {A : Nat → Prop} {iM h0 : Nat} {ad : Nat → Nat} (C0 : MCx p s m args meth c b_M_reduce 8 (some .int) D cl cB cI cJ cZ cS iM A) (hR : R = rm_M_reduce) (N : Nat) (G : (MS → Int32 → Int32 → Int32 → Int32 → Option (MS × Int32))) (hG : (∀ (u : MS) (v1 : Int32) (v2 : Int32) (v4 : Int32) (v5 : Int32) (x : MS × Int32), G u v1 v2 v4 v5 = some x → ∀ (H : Heap) (locs : List Loc), va_P D cl (wM cB cI cJ cZ cS iM h0 ad u) H → va_D A (wM cB cI cJ cZ cS iM h0 ad u) → va_S A s.heap H locs → ∀ (ls : Array Slot), lv_has ls 8 [(0, .ref h0), (1, .int v1), (2, .int v2), (4, .int v4), (5, .int v5)] → W p l e R s m args below meth c H locs 0 0 (MQ below (mQi D cl cB cI cJ cZ cS iM h0 ad A x) args s 0 0 A) (F0 m 6 ls []))) : ∀ (u : MS) (v1 : Int32) (v2 : Int32) (v3 : Int32) (x : MS × Int32), fb_M_reduce_0 N G u v1 v2 v3 = some x → ∀ (H : Heap) (locs : List Loc), va_P D cl (wM cB cI cJ cZ cS iM h0 ad u) H → va_D A (wM cB cI cJ cZ cS iM h0 ad u) → va_S A s.heap H locs → ∀ (ls : Array Slot), lv_has ls 8 [(0, .ref h0), (1, .int v1), (2, .int v2), (3, .int v3)] → W p l e R s m args below meth c H locs 0 0 (MQ below (mQi D cl cB cI cJ cZ cS iM h0 ad A x) args s 0 0 A) (F0 m 0 ls []) := by
  intro u v1 v2 v3 x hf H locs hP hD hS ls hl
  obtain ⟨hx, hb, hr, hml, ht, hown, hM, hK, hA, hlocks⟩ := id C0
  unfold fb_M_reduce_0 at hf
  refine lv_iload_n hx hb d_M_reduce_0 rfl (lv_at hl 3 rfl) ?_
  refine lv_istore (lv' := [(4, .int v3), (0, .ref h0), (1, .int v1), (2, .int v2), (3, .int v3)]) hx hb d_M_reduce_1 hl (by decide) rfl (fun ls hl => ?_)
  refine lv_iconst (v := 1) hx hb d_M_reduce_3 (by decide) ?_
  refine lv_istore (lv' := [(5, .int 1), (4, .int v3), (0, .ref h0), (1, .int v1), (2, .int v2), (3, .int v3)]) hx hb d_M_reduce_4 hl (by decide) rfl (fun ls hl => ?_)
  exact hG _ _ _ _ _ _ hf H locs hP hD hS ls (lv_sub hl [2, 3, 4, 1, 0] rfl)
def gg_M_reduce (N : Nat) : Nat → ((MS → Int32 → Int32 → Int32 → Int32 → Option (MS × Int32)))
  | 0 => fun _ _ _ _ _ => none
  | n + 1 => fb_M_reduce_6 N (gg_M_reduce N n)
theorem wg_M_reduce {p : Program} {l : Launch} {e : Env} {R : Room} {s : State} {m : MethodId} {args : Array Value} {below : List Frame} {meth : Method} {c : Code} {D : va_G} {cl : List vw_C} {cB cI cJ cZ cS : ClassId} {A : Nat → Prop} {iM h0 : Nat} {ad : Nat → Nat} (C0 : MCx p s m args meth c b_M_reduce 8 (some .int) D cl cB cI cJ cZ cS iM A) (hR : R = rm_M_reduce) (N : Nat) : ∀ n : Nat, (∀ (u : MS) (v1 : Int32) (v2 : Int32) (v4 : Int32) (v5 : Int32) (x : MS × Int32), gg_M_reduce N n u v1 v2 v4 v5 = some x → ∀ (H : Heap) (locs : List Loc), va_P D cl (wM cB cI cJ cZ cS iM h0 ad u) H → va_D A (wM cB cI cJ cZ cS iM h0 ad u) → va_S A s.heap H locs → ∀ (ls : Array Slot), lv_has ls 8 [(0, .ref h0), (1, .int v1), (2, .int v2), (4, .int v4), (5, .int v5)] → W p l e R s m args below meth c H locs 0 0 (MQ below (mQi D cl cB cI cJ cZ cS iM h0 ad A x) args s 0 0 A) (F0 m 6 ls []))
  | 0 => (fun u v1 v2 v4 v5 x hf => by cases hf)
  | n + 1 => wb_M_reduce_6 C0 hR N (gg_M_reduce N n) (wg_M_reduce C0 hR N n)
def fm_M_reduce (N : Nat) (u : MS) (v1 : Int32) (v2 : Int32) (v3 : Int32) : Option (MS × Int32) := fb_M_reduce_0 N (gg_M_reduce N N) u v1 v2 v3
set_option maxRecDepth 100000 in
set_option maxHeartbeats 4000000 in
theorem c_M_reduce (N : Nat) {l : Launch} {D : va_G} {cl : List vw_C} {cB cI cJ cZ cS : ClassId} {iM h0 : Nat} {ad : Nat → Nat} {u : MS} {sz : Nat} {v1 : Int32} {v2 : Int32} {v3 : Int32} {x : MS × Int32} (hM : cl[iM]? = some (R_M, F_M, 171)) (hf : fm_M_reduce N u v1 v2 v3 = some x) : Met l y_M_reduce (wd_ws y_M_reduce b_M_reduce 8 (some .int)) rm_M_reduce (mPc D cl cB cI cJ cZ cS iM h0 ad u sz [.ref h0, .int v1, .int v2, .int v3]) (mQi D cl cB cI cJ cZ cS iM h0 ad (mA cB cI cJ cZ cS iM h0 ad u sz) x) 0 0 (mA cB cI cJ cZ cS iM h0 ad u sz) :=
  mMet (by decide) rfl hM (Nat.le_of_ble_eq_true rfl) (fun p e s m below meth c ls hsz C0 hP hD hS hl => by
    have hR : rm_M_reduce = rm_M_reduce := rfl
    exact wb_M_reduce_0 C0 hR N (gg_M_reduce N N) (wg_M_reduce C0 hR N N) u _ _ _ x hf s.heap [] hP hD hS ls (lv_sub hl [0, 1, 2, 3] rfl))
abbrev b_M_takeBack : ByteArray := prog_14_method_55_code
def y_M_takeBack : MethodName := ⟨R_M, "takeBack", "()V"⟩
def w_M_takeBack : List Cond := wd_ws y_M_takeBack b_M_takeBack 3 none
set_option maxRecDepth 100000 in
theorem k_M_takeBack : Cond.code y_M_takeBack b_M_takeBack 3 none ∈ wd_tbl := wd_of 2863 rfl rfl
theorem d_M_takeBack_0 : decode b_M_takeBack 0 = .ok (.aload_n 0, 1) := by decide +kernel
theorem d_M_takeBack_1 : decode b_M_takeBack 1 = .ok (.getfield 586, 3) := by decide +kernel
theorem d_M_takeBack_4 : decode b_M_takeBack 4 = .ok (.bipush 8, 2) := by decide +kernel
theorem d_M_takeBack_6 : decode b_M_takeBack 6 = .ok (.isub, 1) := by decide +kernel
theorem d_M_takeBack_7 : decode b_M_takeBack 7 = .ok (.istore_n 1, 1) := by decide +kernel
theorem d_M_takeBack_8 : decode b_M_takeBack 8 = .ok (.aload_n 0, 1) := by decide +kernel
theorem d_M_takeBack_9 : decode b_M_takeBack 9 = .ok (.aload_n 0, 1) := by decide +kernel
theorem d_M_takeBack_10 : decode b_M_takeBack 10 = .ok (.getfield 168, 3) := by decide +kernel
theorem d_M_takeBack_13 : decode b_M_takeBack 13 = .ok (.iload_n 1, 1) := by decide +kernel
theorem d_M_takeBack_14 : decode b_M_takeBack 14 = .ok (.iaload, 1) := by decide +kernel
theorem d_M_takeBack_15 : decode b_M_takeBack 15 = .ok (.putfield 448, 3) := by decide +kernel
theorem d_M_takeBack_18 : decode b_M_takeBack 18 = .ok (.aload_n 0, 1) := by decide +kernel
theorem d_M_takeBack_19 : decode b_M_takeBack 19 = .ok (.aload_n 0, 1) := by decide +kernel
theorem d_M_takeBack_20 : decode b_M_takeBack 20 = .ok (.getfield 168, 3) := by decide +kernel
theorem d_M_takeBack_23 : decode b_M_takeBack 23 = .ok (.iload_n 1, 1) := by decide +kernel
theorem d_M_takeBack_24 : decode b_M_takeBack 24 = .ok (.iconst 1, 1) := by decide +kernel
theorem d_M_takeBack_25 : decode b_M_takeBack 25 = .ok (.iadd, 1) := by decide +kernel
theorem d_M_takeBack_26 : decode b_M_takeBack 26 = .ok (.iaload, 1) := by decide +kernel
theorem d_M_takeBack_27 : decode b_M_takeBack 27 = .ok (.putfield 451, 3) := by decide +kernel
theorem d_M_takeBack_30 : decode b_M_takeBack 30 = .ok (.aload_n 0, 1) := by decide +kernel
theorem d_M_takeBack_31 : decode b_M_takeBack 31 = .ok (.aload_n 0, 1) := by decide +kernel
theorem d_M_takeBack_32 : decode b_M_takeBack 32 = .ok (.getfield 168, 3) := by decide +kernel
theorem d_M_takeBack_35 : decode b_M_takeBack 35 = .ok (.iload_n 1, 1) := by decide +kernel
theorem d_M_takeBack_36 : decode b_M_takeBack 36 = .ok (.iconst 2, 1) := by decide +kernel
theorem d_M_takeBack_37 : decode b_M_takeBack 37 = .ok (.iadd, 1) := by decide +kernel
theorem d_M_takeBack_38 : decode b_M_takeBack 38 = .ok (.iaload, 1) := by decide +kernel
theorem d_M_takeBack_39 : decode b_M_takeBack 39 = .ok (.putfield 505, 3) := by decide +kernel
theorem d_M_takeBack_42 : decode b_M_takeBack 42 = .ok (.aload_n 0, 1) := by decide +kernel
theorem d_M_takeBack_43 : decode b_M_takeBack 43 = .ok (.aload_n 0, 1) := by decide +kernel
theorem d_M_takeBack_44 : decode b_M_takeBack 44 = .ok (.getfield 168, 3) := by decide +kernel
theorem d_M_takeBack_47 : decode b_M_takeBack 47 = .ok (.iload_n 1, 1) := by decide +kernel
theorem d_M_takeBack_48 : decode b_M_takeBack 48 = .ok (.iconst 3, 1) := by decide +kernel
theorem d_M_takeBack_49 : decode b_M_takeBack 49 = .ok (.iadd, 1) := by decide +kernel
theorem d_M_takeBack_50 : decode b_M_takeBack 50 = .ok (.iaload, 1) := by decide +kernel
theorem d_M_takeBack_51 : decode b_M_takeBack 51 = .ok (.putfield 511, 3) := by decide +kernel
theorem d_M_takeBack_54 : decode b_M_takeBack 54 = .ok (.aload_n 0, 1) := by decide +kernel
theorem d_M_takeBack_55 : decode b_M_takeBack 55 = .ok (.aload_n 0, 1) := by decide +kernel
theorem d_M_takeBack_56 : decode b_M_takeBack 56 = .ok (.getfield 168, 3) := by decide +kernel
theorem d_M_takeBack_59 : decode b_M_takeBack 59 = .ok (.iload_n 1, 1) := by decide +kernel
theorem d_M_takeBack_60 : decode b_M_takeBack 60 = .ok (.iconst 4, 1) := by decide +kernel
theorem d_M_takeBack_61 : decode b_M_takeBack 61 = .ok (.iadd, 1) := by decide +kernel
theorem d_M_takeBack_62 : decode b_M_takeBack 62 = .ok (.iaload, 1) := by decide +kernel
theorem d_M_takeBack_63 : decode b_M_takeBack 63 = .ok (.putfield 514, 3) := by decide +kernel
theorem d_M_takeBack_66 : decode b_M_takeBack 66 = .ok (.aload_n 0, 1) := by decide +kernel
theorem d_M_takeBack_67 : decode b_M_takeBack 67 = .ok (.aload_n 0, 1) := by decide +kernel
theorem d_M_takeBack_68 : decode b_M_takeBack 68 = .ok (.getfield 168, 3) := by decide +kernel
theorem d_M_takeBack_71 : decode b_M_takeBack 71 = .ok (.iload_n 1, 1) := by decide +kernel
theorem d_M_takeBack_72 : decode b_M_takeBack 72 = .ok (.iconst 5, 1) := by decide +kernel
theorem d_M_takeBack_73 : decode b_M_takeBack 73 = .ok (.iadd, 1) := by decide +kernel
theorem d_M_takeBack_74 : decode b_M_takeBack 74 = .ok (.iaload, 1) := by decide +kernel
theorem d_M_takeBack_75 : decode b_M_takeBack 75 = .ok (.putfield 466, 3) := by decide +kernel
theorem d_M_takeBack_78 : decode b_M_takeBack 78 = .ok (.aload_n 0, 1) := by decide +kernel
theorem d_M_takeBack_79 : decode b_M_takeBack 79 = .ok (.aload_n 0, 1) := by decide +kernel
theorem d_M_takeBack_80 : decode b_M_takeBack 80 = .ok (.getfield 168, 3) := by decide +kernel
theorem d_M_takeBack_83 : decode b_M_takeBack 83 = .ok (.iload_n 1, 1) := by decide +kernel
theorem d_M_takeBack_84 : decode b_M_takeBack 84 = .ok (.bipush 6, 2) := by decide +kernel
theorem d_M_takeBack_86 : decode b_M_takeBack 86 = .ok (.iadd, 1) := by decide +kernel
theorem d_M_takeBack_87 : decode b_M_takeBack 87 = .ok (.iaload, 1) := by decide +kernel
theorem d_M_takeBack_88 : decode b_M_takeBack 88 = .ok (.putfield 463, 3) := by decide +kernel
theorem d_M_takeBack_91 : decode b_M_takeBack 91 = .ok (.aload_n 0, 1) := by decide +kernel
theorem d_M_takeBack_92 : decode b_M_takeBack 92 = .ok (.aload_n 0, 1) := by decide +kernel
theorem d_M_takeBack_93 : decode b_M_takeBack 93 = .ok (.getfield 168, 3) := by decide +kernel
theorem d_M_takeBack_96 : decode b_M_takeBack 96 = .ok (.iload_n 1, 1) := by decide +kernel
theorem d_M_takeBack_97 : decode b_M_takeBack 97 = .ok (.bipush 7, 2) := by decide +kernel
theorem d_M_takeBack_99 : decode b_M_takeBack 99 = .ok (.iadd, 1) := by decide +kernel
theorem d_M_takeBack_100 : decode b_M_takeBack 100 = .ok (.iaload, 1) := by decide +kernel
theorem d_M_takeBack_101 : decode b_M_takeBack 101 = .ok (.iconst 1, 1) := by decide +kernel
theorem d_M_takeBack_102 : decode b_M_takeBack 102 = .ok (.if_icmp .ne 7, 3) := by decide +kernel
theorem d_M_takeBack_105 : decode b_M_takeBack 105 = .ok (.iconst 1, 1) := by decide +kernel
theorem d_M_takeBack_106 : decode b_M_takeBack 106 = .ok (.goto 4, 3) := by decide +kernel
theorem d_M_takeBack_109 : decode b_M_takeBack 109 = .ok (.iconst 0, 1) := by decide +kernel
theorem d_M_takeBack_110 : decode b_M_takeBack 110 = .ok (.putfield 496, 3) := by decide +kernel
theorem d_M_takeBack_113 : decode b_M_takeBack 113 = .ok (.iconst 0, 1) := by decide +kernel
theorem d_M_takeBack_114 : decode b_M_takeBack 114 = .ok (.istore_n 2, 1) := by decide +kernel
theorem d_M_takeBack_115 : decode b_M_takeBack 115 = .ok (.iload_n 2, 1) := by decide +kernel
theorem d_M_takeBack_116 : decode b_M_takeBack 116 = .ok (.aload_n 0, 1) := by decide +kernel
theorem d_M_takeBack_117 : decode b_M_takeBack 117 = .ok (.getfield 493, 3) := by decide +kernel
theorem d_M_takeBack_120 : decode b_M_takeBack 120 = .ok (.if_icmp .gt 55, 3) := by decide +kernel
theorem d_M_takeBack_123 : decode b_M_takeBack 123 = .ok (.aload_n 0, 1) := by decide +kernel
theorem d_M_takeBack_124 : decode b_M_takeBack 124 = .ok (.getfield 153, 3) := by decide +kernel
theorem d_M_takeBack_127 : decode b_M_takeBack 127 = .ok (.iload_n 2, 1) := by decide +kernel
theorem d_M_takeBack_128 : decode b_M_takeBack 128 = .ok (.aload_n 0, 1) := by decide +kernel
theorem d_M_takeBack_129 : decode b_M_takeBack 129 = .ok (.getfield 171, 3) := by decide +kernel
theorem d_M_takeBack_132 : decode b_M_takeBack 132 = .ok (.aload_n 0, 1) := by decide +kernel
theorem d_M_takeBack_133 : decode b_M_takeBack 133 = .ok (.getfield 589, 3) := by decide +kernel
theorem d_M_takeBack_136 : decode b_M_takeBack 136 = .ok (.bipush 54, 2) := by decide +kernel
theorem d_M_takeBack_138 : decode b_M_takeBack 138 = .ok (.isub, 1) := by decide +kernel
theorem d_M_takeBack_139 : decode b_M_takeBack 139 = .ok (.iconst 2, 1) := by decide +kernel
theorem d_M_takeBack_140 : decode b_M_takeBack 140 = .ok (.iload_n 2, 1) := by decide +kernel
theorem d_M_takeBack_141 : decode b_M_takeBack 141 = .ok (.imul, 1) := by decide +kernel
theorem d_M_takeBack_142 : decode b_M_takeBack 142 = .ok (.iadd, 1) := by decide +kernel
theorem d_M_takeBack_143 : decode b_M_takeBack 143 = .ok (.iaload, 1) := by decide +kernel
theorem d_M_takeBack_144 : decode b_M_takeBack 144 = .ok (.iastore, 1) := by decide +kernel
theorem d_M_takeBack_145 : decode b_M_takeBack 145 = .ok (.aload_n 0, 1) := by decide +kernel
theorem d_M_takeBack_146 : decode b_M_takeBack 146 = .ok (.getfield 162, 3) := by decide +kernel
theorem d_M_takeBack_149 : decode b_M_takeBack 149 = .ok (.iload_n 2, 1) := by decide +kernel
theorem d_M_takeBack_150 : decode b_M_takeBack 150 = .ok (.aload_n 0, 1) := by decide +kernel
theorem d_M_takeBack_151 : decode b_M_takeBack 151 = .ok (.getfield 171, 3) := by decide +kernel
theorem d_M_takeBack_154 : decode b_M_takeBack 154 = .ok (.aload_n 0, 1) := by decide +kernel
theorem d_M_takeBack_155 : decode b_M_takeBack 155 = .ok (.getfield 589, 3) := by decide +kernel
theorem d_M_takeBack_158 : decode b_M_takeBack 158 = .ok (.bipush 54, 2) := by decide +kernel
theorem d_M_takeBack_160 : decode b_M_takeBack 160 = .ok (.isub, 1) := by decide +kernel
theorem d_M_takeBack_161 : decode b_M_takeBack 161 = .ok (.iconst 2, 1) := by decide +kernel
theorem d_M_takeBack_162 : decode b_M_takeBack 162 = .ok (.iload_n 2, 1) := by decide +kernel
theorem d_M_takeBack_163 : decode b_M_takeBack 163 = .ok (.imul, 1) := by decide +kernel
theorem d_M_takeBack_164 : decode b_M_takeBack 164 = .ok (.iadd, 1) := by decide +kernel
theorem d_M_takeBack_165 : decode b_M_takeBack 165 = .ok (.iconst 1, 1) := by decide +kernel
theorem d_M_takeBack_166 : decode b_M_takeBack 166 = .ok (.iadd, 1) := by decide +kernel
theorem d_M_takeBack_167 : decode b_M_takeBack 167 = .ok (.iaload, 1) := by decide +kernel
theorem d_M_takeBack_168 : decode b_M_takeBack 168 = .ok (.iastore, 1) := by decide +kernel
theorem d_M_takeBack_169 : decode b_M_takeBack 169 = .ok (.iinc 2 1, 3) := by decide +kernel
theorem d_M_takeBack_172 : decode b_M_takeBack 172 = .ok (.goto (-57), 3) := by decide +kernel
theorem d_M_takeBack_175 : decode b_M_takeBack 175 = .ok (.return_, 1) := by decide +kernel
set_option maxRecDepth 100000 in
theorem hl_M_takeBack : Cond.methodLink R_M 607 y_M_takeBack ∈ wd_tbl := wd_of 2860 (by decide +kernel) rfl
set_option maxRecDepth 100000 in
theorem hi_M_takeBack : Cond.instanceMethod y_M_takeBack ∈ wd_tbl := wd_of 2862 (by decide +kernel) rfl
set_option maxRecDepth 100000 in
theorem hs_M_takeBack : Cond.selects R_M y_M_takeBack y_M_takeBack ∈ wd_tbl := wd_of 179 (by decide +kernel) rfl
theorem hd_M_takeBack : y_M_takeBack.cls = R_M ∧ y_M_takeBack.cls ≠ "java/lang/invoke/MethodHandle" ∧ y_M_takeBack.cls ≠ "java/lang/invoke/VarHandle" ∧ (parseMethodDescriptor y_M_takeBack.desc).map (fun d => d.parameters.length) = some 0 := by decide +kernel
def rm_M_takeBack : Room := { frames := 0, cells := 0, slots := 0, locals := 0 }
def fb_M_takeBack_115 (N : Nat) (G : (MS → Int32 → Option (MS × Unit))) (u : MS) (v2 : Int32) : Option (MS × Unit) := br (decide ((u.1 65) < v2)) (some (u, ())) (ck (inb (((u.1 77) - 54) + (2 * v2)) (ln 76)) (ck (inb v2 (ln 60)) (lt (upA u 60 (upd (u.2.2.1 60) v2.toNatClampNeg (u.2.2.1 76 (((u.1 77) - 54) + (2 * v2)).toNatClampNeg))) (fun w1 => ck (inb ((((w1.1 77) - 54) + (2 * v2)) + 1) (ln 76)) (ck (inb v2 (ln 63)) (lt (upA w1 63 (upd (w1.2.2.1 63) v2.toNatClampNeg (w1.2.2.1 76 ((((w1.1 77) - 54) + (2 * v2)) + 1).toNatClampNeg))) (fun w2 => G w2 ((v2 + 1)))))))))
set_option maxRecDepth 100000 in
set_option maxHeartbeats 4000000 in
theorem wb_M_takeBack_115 {p : Program} {l : Launch} {e : Env} {R : Room} {s : State} {m : MethodId} {args : Array Value} {below : List Frame} {meth : Method} {c : Code} {D : va_G} {cl : List vw_C} {cB cI cJ cZ cS : ClassId} {A : Nat → Prop} {iM h0 : Nat} {ad : Nat → Nat} (C0 : MCx p s m args meth c b_M_takeBack 3 none D cl cB cI cJ cZ cS iM A) (hR : R = rm_M_takeBack) (N : Nat) (G : (MS → Int32 → Option (MS × Unit))) (hG : (∀ (u : MS) (v2 : Int32) (x : MS × Unit), G u v2 = some x → ∀ (H : Heap) (locs : List Loc), va_P D cl (wM cB cI cJ cZ cS iM h0 ad u) H → va_D A (wM cB cI cJ cZ cS iM h0 ad u) → va_S A s.heap H locs → ∀ (ls : Array Slot), lv_has ls 3 [(0, .ref h0), (2, .int v2)] → W p l e R s m args below meth c H locs 0 0 (MQ below (mQv D cl cB cI cJ cZ cS iM h0 ad A x) args s 0 0 A) (F0 m 115 ls []))) : ∀ (u : MS) (v2 : Int32) (x : MS × Unit), fb_M_takeBack_115 N G u v2 = some x → ∀ (H : Heap) (locs : List Loc), va_P D cl (wM cB cI cJ cZ cS iM h0 ad u) H → va_D A (wM cB cI cJ cZ cS iM h0 ad u) → va_S A s.heap H locs → ∀ (ls : Array Slot), lv_has ls 3 [(0, .ref h0), (2, .int v2)] → W p l e R s m args below meth c H locs 0 0 (MQ below (mQv D cl cB cI cJ cZ cS iM h0 ad A x) args s 0 0 A) (F0 m 115 ls []) := by
  intro u v2 x hf H locs hP hD hS ls hl
  obtain ⟨hx, hb, hr, hml, ht, hown, hM, hK, hA, hlocks⟩ := id C0
  unfold fb_M_takeBack_115 at hf
  refine lv_iload_n hx hb d_M_takeBack_115 rfl (lv_at hl 1 rfl) ?_
  refine lv_aload_n hx hb d_M_takeBack_116 rfl (lv_at hl 0 rfl) ?_
  refine ug_I hx hb ht hown hM hK hP 65 (by decide) lk_M_65 (by decide) d_M_takeBack_117 ?_
  refine lv_icmp_gt (tgt := 175) hx hb d_M_takeBack_120 (by decide) (fun hc => ?_) (fun hc => ?_)
  · rw [br_p _ hc] at hf
    exact mr_v C0 hP hD hS hf d_M_takeBack_175
  · rw [br_n _ hc] at hf
    refine lv_aload_n hx hb d_M_takeBack_123 rfl (lv_at hl 0 rfl) ?_
    refine ug_R hx hb ht hown hM hK hP 60 (by decide) lk_M_60 (by decide) d_M_takeBack_124 ?_
    refine lv_iload_n hx hb d_M_takeBack_127 rfl (lv_at hl 1 rfl) ?_
    refine lv_aload_n hx hb d_M_takeBack_128 rfl (lv_at hl 0 rfl) ?_
    refine ug_R hx hb ht hown hM hK hP 76 (by decide) lk_M_76 (by decide) d_M_takeBack_129 ?_
    refine lv_aload_n hx hb d_M_takeBack_132 rfl (lv_at hl 0 rfl) ?_
    refine ug_I hx hb ht hown hM hK hP 77 (by decide) lk_M_77 (by decide) d_M_takeBack_133 ?_
    refine lv_bipush (v := 54) hx hb d_M_takeBack_136 (by decide) ?_
    refine lv_isub hx hb d_M_takeBack_138 ?_
    refine lv_iconst (v := 2) hx hb d_M_takeBack_139 (by decide) ?_
    refine lv_iload_n hx hb d_M_takeBack_140 rfl (lv_at hl 1 rfl) ?_
    refine lv_imul hx hb d_M_takeBack_141 ?_
    refine lv_iadd hx hb d_M_takeBack_142 ?_
    obtain ⟨hi9, hf⟩ := ck_some hf
    refine ul_I hx hb hK hP (by decide) (by decide) hi9 d_M_takeBack_143 ?_
    obtain ⟨hi9, hf⟩ := ck_some hf
    refine us_I hx hb hK hP hD hS (by decide) (by decide) hi9 d_M_takeBack_144 (fun H locs hP hD hS => ?_)
    obtain ⟨w1, e1, hf⟩ := lt_some hf
    rw [← e1] at hP hD
    refine lv_aload_n hx hb d_M_takeBack_145 rfl (lv_at hl 0 rfl) ?_
    refine ug_R hx hb ht hown hM hK hP 63 (by decide) lk_M_63 (by decide) d_M_takeBack_146 ?_
    refine lv_iload_n hx hb d_M_takeBack_149 rfl (lv_at hl 1 rfl) ?_
    refine lv_aload_n hx hb d_M_takeBack_150 rfl (lv_at hl 0 rfl) ?_
    refine ug_R hx hb ht hown hM hK hP 76 (by decide) lk_M_76 (by decide) d_M_takeBack_151 ?_
    refine lv_aload_n hx hb d_M_takeBack_154 rfl (lv_at hl 0 rfl) ?_
    refine ug_I hx hb ht hown hM hK hP 77 (by decide) lk_M_77 (by decide) d_M_takeBack_155 ?_
    refine lv_bipush (v := 54) hx hb d_M_takeBack_158 (by decide) ?_
    refine lv_isub hx hb d_M_takeBack_160 ?_
    refine lv_iconst (v := 2) hx hb d_M_takeBack_161 (by decide) ?_
    refine lv_iload_n hx hb d_M_takeBack_162 rfl (lv_at hl 1 rfl) ?_
    refine lv_imul hx hb d_M_takeBack_163 ?_
    refine lv_iadd hx hb d_M_takeBack_164 ?_
    refine lv_iconst (v := 1) hx hb d_M_takeBack_165 (by decide) ?_
    refine lv_iadd hx hb d_M_takeBack_166 ?_
    obtain ⟨hi9, hf⟩ := ck_some hf
    refine ul_I hx hb hK hP (by decide) (by decide) hi9 d_M_takeBack_167 ?_
    obtain ⟨hi9, hf⟩ := ck_some hf
    refine us_I hx hb hK hP hD hS (by decide) (by decide) hi9 d_M_takeBack_168 (fun H locs hP hD hS => ?_)
    obtain ⟨w2, e2, hf⟩ := lt_some hf
    rw [← e2] at hP hD
    refine lv_iinc (v := (v2 + 1)) (lv' := [(2, .int (v2 + 1)), (0, .ref h0)]) hx hb d_M_takeBack_169 hl (k := 1) rfl rfl (by decide) rfl (fun ls hl => ?_)
    refine lv_goto (tgt := 115) hx hb d_M_takeBack_172 (by decide) ?_
    exact hG _ _ _ hf H locs hP hD hS ls (lv_sub hl [1, 0] rfl)
def fb_M_takeBack_110 (N : Nat) (G : (MS → Int32 → Option (MS × Unit))) (u : MS) (t1 : Int32) : Option (MS × Unit) := ck (isb t1) (lt (upI u 66 t1) (fun w3 => G w3 (0)))
set_option maxRecDepth 100000 in
set_option maxHeartbeats 4000000 in
theorem wb_M_takeBack_110 {p : Program} {l : Launch} {e : Env} {R : Room} {s : State} {m : MethodId} {args : Array Value} {below : List Frame} {meth : Method} {c : Code} {D : va_G} {cl : List vw_C} {cB cI cJ cZ cS : ClassId} {A : Nat → Prop} {iM h0 : Nat} {ad : Nat → Nat} (C0 : MCx p s m args meth c b_M_takeBack 3 none D cl cB cI cJ cZ cS iM A) (hR : R = rm_M_takeBack) (N : Nat) (G : (MS → Int32 → Option (MS × Unit))) (hG : (∀ (u : MS) (v2 : Int32) (x : MS × Unit), G u v2 = some x → ∀ (H : Heap) (locs : List Loc), va_P D cl (wM cB cI cJ cZ cS iM h0 ad u) H → va_D A (wM cB cI cJ cZ cS iM h0 ad u) → va_S A s.heap H locs → ∀ (ls : Array Slot), lv_has ls 3 [(0, .ref h0), (2, .int v2)] → W p l e R s m args below meth c H locs 0 0 (MQ below (mQv D cl cB cI cJ cZ cS iM h0 ad A x) args s 0 0 A) (F0 m 115 ls []))) : ∀ (u : MS) (t1 : Int32) (x : MS × Unit), fb_M_takeBack_110 N G u t1 = some x → ∀ (H : Heap) (locs : List Loc), va_P D cl (wM cB cI cJ cZ cS iM h0 ad u) H → va_D A (wM cB cI cJ cZ cS iM h0 ad u) → va_S A s.heap H locs → ∀ (ls : Array Slot), lv_has ls 3 [(0, .ref h0)] → W p l e R s m args below meth c H locs 0 0 (MQ below (mQv D cl cB cI cJ cZ cS iM h0 ad A x) args s 0 0 A) (F0 m 110 ls [.int t1, .ref h0]) := by
  intro u t1 x hf H locs hP hD hS ls hl
  obtain ⟨hx, hb, hr, hml, ht, hown, hM, hK, hA, hlocks⟩ := id C0
  unfold fb_M_takeBack_110 at hf
  obtain ⟨hz, hf⟩ := ck_some hf
  refine up_I hx hb ht hown hM hK hP hD hS 66 (by decide) lk_M_66 (by decide) rfl (isb_n hz) (isb_f hz) d_M_takeBack_110 (fun H locs hP hD hS => ?_)
  obtain ⟨w3, e3, hf⟩ := lt_some hf
  rw [← e3] at hP hD
  refine lv_iconst (v := 0) hx hb d_M_takeBack_113 (by decide) ?_
  refine lv_istore_n (lv' := [(2, .int 0), (0, .ref h0)]) hx hb d_M_takeBack_114 rfl hl (by decide) rfl (fun ls hl => ?_)
  exact hG _ _ _ hf H locs hP hD hS ls (lv_sub hl [1, 0] rfl)
def fb_M_takeBack_0 (N : Nat) (G : (MS → Int32 → Option (MS × Unit))) (u : MS) : Option (MS × Unit) := ck (inb ((u.1 75) - 8) (ln 74)) (lt (upI u 32 (u.2.2.1 74 ((u.1 75) - 8).toNatClampNeg)) (fun w4 => ck (inb (((u.1 75) - 8) + 1) (ln 74)) (lt (upI w4 39 (w4.2.2.1 74 (((u.1 75) - 8) + 1).toNatClampNeg)) (fun w5 => ck (inb (((u.1 75) - 8) + 2) (ln 74)) (lt (upI w5 46 (w5.2.2.1 74 (((u.1 75) - 8) + 2).toNatClampNeg)) (fun w6 => ck (inb (((u.1 75) - 8) + 3) (ln 74)) (lt (upI w6 56 (w6.2.2.1 74 (((u.1 75) - 8) + 3).toNatClampNeg)) (fun w7 => ck (inb (((u.1 75) - 8) + 4) (ln 74)) (lt (upI w7 58 (w7.2.2.1 74 (((u.1 75) - 8) + 4).toNatClampNeg)) (fun w8 => ck (inb (((u.1 75) - 8) + 5) (ln 74)) (lt (upI w8 71 (w8.2.2.1 74 (((u.1 75) - 8) + 5).toNatClampNeg)) (fun w9 => ck (inb (((u.1 75) - 8) + 6) (ln 74)) (lt (upI w9 72 (w9.2.2.1 74 (((u.1 75) - 8) + 6).toNatClampNeg)) (fun w10 => ck (inb (((u.1 75) - 8) + 7) (ln 74)) (br (decide ((w10.2.2.1 74 (((u.1 75) - 8) + 7).toNatClampNeg) = 1)) (fb_M_takeBack_110 N G w10 (1)) (fb_M_takeBack_110 N G w10 (0)))))))))))))))))
set_option maxRecDepth 100000 in
set_option maxHeartbeats 4000000 in
theorem wb_M_takeBack_0 {p : Program} {l : Launch} {e : Env} {R : Room} {s : State} {m : MethodId} {args : Array Value} {below : List Frame} {meth : Method} {c : Code} {D : va_G} {cl : List vw_C} {cB cI cJ cZ cS : ClassId} {A : Nat → Prop} {iM h0 : Nat} {ad : Nat → Nat} (C0 : MCx p s m args meth c b_M_takeBack 3 none D cl cB cI cJ cZ cS iM A) (hR : R = rm_M_takeBack) (N : Nat) (G : (MS → Int32 → Option (MS × Unit))) (hG : (∀ (u : MS) (v2 : Int32) (x : MS × Unit), G u v2 = some x → ∀ (H : Heap) (locs : List Loc), va_P D cl (wM cB cI cJ cZ cS iM h0 ad u) H → va_D A (wM cB cI cJ cZ cS iM h0 ad u) → va_S A s.heap H locs → ∀ (ls : Array Slot), lv_has ls 3 [(0, .ref h0), (2, .int v2)] → W p l e R s m args below meth c H locs 0 0 (MQ below (mQv D cl cB cI cJ cZ cS iM h0 ad A x) args s 0 0 A) (F0 m 115 ls []))) : ∀ (u : MS) (x : MS × Unit), fb_M_takeBack_0 N G u = some x → ∀ (H : Heap) (locs : List Loc), va_P D cl (wM cB cI cJ cZ cS iM h0 ad u) H → va_D A (wM cB cI cJ cZ cS iM h0 ad u) → va_S A s.heap H locs → ∀ (ls : Array Slot), lv_has ls 3 [(0, .ref h0)] → W p l e R s m args below meth c H locs 0 0 (MQ below (mQv D cl cB cI cJ cZ cS iM h0 ad A x) args s 0 0 A) (F0 m 0 ls []) := by
  intro u x hf H locs hP hD hS ls hl
  obtain ⟨hx, hb, hr, hml, ht, hown, hM, hK, hA, hlocks⟩ := id C0
  unfold fb_M_takeBack_0 at hf
  refine lv_aload_n hx hb d_M_takeBack_0 rfl (lv_at hl 0 rfl) ?_
  refine ug_I hx hb ht hown hM hK hP 75 (by decide) lk_M_75 (by decide) d_M_takeBack_1 ?_
  refine lv_bipush (v := 8) hx hb d_M_takeBack_4 (by decide) ?_
  refine lv_isub hx hb d_M_takeBack_6 ?_
  refine lv_istore_n (lv' := [(1, .int ((u.1 75) - 8)), (0, .ref h0)]) hx hb d_M_takeBack_7 rfl hl (by decide) rfl (fun ls hl => ?_)
  refine lv_aload_n hx hb d_M_takeBack_8 rfl (lv_at hl 1 rfl) ?_
  refine lv_aload_n hx hb d_M_takeBack_9 rfl (lv_at hl 1 rfl) ?_
  refine ug_R hx hb ht hown hM hK hP 74 (by decide) lk_M_74 (by decide) d_M_takeBack_10 ?_
  refine lv_iload_n hx hb d_M_takeBack_13 rfl (lv_at hl 0 rfl) ?_
  obtain ⟨hi9, hf⟩ := ck_some hf
  refine ul_I hx hb hK hP (by decide) (by decide) hi9 d_M_takeBack_14 ?_
  refine up_I hx hb ht hown hM hK hP hD hS 32 (by decide) lk_M_32 (by decide) rfl rfl rfl d_M_takeBack_15 (fun H locs hP hD hS => ?_)
  obtain ⟨w4, e4, hf⟩ := lt_some hf
  rw [← e4] at hP hD
  refine lv_aload_n hx hb d_M_takeBack_18 rfl (lv_at hl 1 rfl) ?_
  refine lv_aload_n hx hb d_M_takeBack_19 rfl (lv_at hl 1 rfl) ?_
  refine ug_R hx hb ht hown hM hK hP 74 (by decide) lk_M_74 (by decide) d_M_takeBack_20 ?_
  refine lv_iload_n hx hb d_M_takeBack_23 rfl (lv_at hl 0 rfl) ?_
  refine lv_iconst (v := 1) hx hb d_M_takeBack_24 (by decide) ?_
  refine lv_iadd hx hb d_M_takeBack_25 ?_
  obtain ⟨hi9, hf⟩ := ck_some hf
  refine ul_I hx hb hK hP (by decide) (by decide) hi9 d_M_takeBack_26 ?_
  refine up_I hx hb ht hown hM hK hP hD hS 39 (by decide) lk_M_39 (by decide) rfl rfl rfl d_M_takeBack_27 (fun H locs hP hD hS => ?_)
  obtain ⟨w5, e5, hf⟩ := lt_some hf
  rw [← e5] at hP hD
  refine lv_aload_n hx hb d_M_takeBack_30 rfl (lv_at hl 1 rfl) ?_
  refine lv_aload_n hx hb d_M_takeBack_31 rfl (lv_at hl 1 rfl) ?_
  refine ug_R hx hb ht hown hM hK hP 74 (by decide) lk_M_74 (by decide) d_M_takeBack_32 ?_
  refine lv_iload_n hx hb d_M_takeBack_35 rfl (lv_at hl 0 rfl) ?_
  refine lv_iconst (v := 2) hx hb d_M_takeBack_36 (by decide) ?_
  refine lv_iadd hx hb d_M_takeBack_37 ?_
  obtain ⟨hi9, hf⟩ := ck_some hf
  refine ul_I hx hb hK hP (by decide) (by decide) hi9 d_M_takeBack_38 ?_
  refine up_I hx hb ht hown hM hK hP hD hS 46 (by decide) lk_M_46 (by decide) rfl rfl rfl d_M_takeBack_39 (fun H locs hP hD hS => ?_)
  obtain ⟨w6, e6, hf⟩ := lt_some hf
  rw [← e6] at hP hD
  refine lv_aload_n hx hb d_M_takeBack_42 rfl (lv_at hl 1 rfl) ?_
  refine lv_aload_n hx hb d_M_takeBack_43 rfl (lv_at hl 1 rfl) ?_
  refine ug_R hx hb ht hown hM hK hP 74 (by decide) lk_M_74 (by decide) d_M_takeBack_44 ?_
  refine lv_iload_n hx hb d_M_takeBack_47 rfl (lv_at hl 0 rfl) ?_
  refine lv_iconst (v := 3) hx hb d_M_takeBack_48 (by decide) ?_
  refine lv_iadd hx hb d_M_takeBack_49 ?_
  obtain ⟨hi9, hf⟩ := ck_some hf
  refine ul_I hx hb hK hP (by decide) (by decide) hi9 d_M_takeBack_50 ?_
  refine up_I hx hb ht hown hM hK hP hD hS 56 (by decide) lk_M_56 (by decide) rfl rfl rfl d_M_takeBack_51 (fun H locs hP hD hS => ?_)
  obtain ⟨w7, e7, hf⟩ := lt_some hf
  rw [← e7] at hP hD
  refine lv_aload_n hx hb d_M_takeBack_54 rfl (lv_at hl 1 rfl) ?_
  refine lv_aload_n hx hb d_M_takeBack_55 rfl (lv_at hl 1 rfl) ?_
  refine ug_R hx hb ht hown hM hK hP 74 (by decide) lk_M_74 (by decide) d_M_takeBack_56 ?_
  refine lv_iload_n hx hb d_M_takeBack_59 rfl (lv_at hl 0 rfl) ?_
  refine lv_iconst (v := 4) hx hb d_M_takeBack_60 (by decide) ?_
  refine lv_iadd hx hb d_M_takeBack_61 ?_
  obtain ⟨hi9, hf⟩ := ck_some hf
  refine ul_I hx hb hK hP (by decide) (by decide) hi9 d_M_takeBack_62 ?_
  refine up_I hx hb ht hown hM hK hP hD hS 58 (by decide) lk_M_58 (by decide) rfl rfl rfl d_M_takeBack_63 (fun H locs hP hD hS => ?_)
  obtain ⟨w8, e8, hf⟩ := lt_some hf
  rw [← e8] at hP hD
  refine lv_aload_n hx hb d_M_takeBack_66 rfl (lv_at hl 1 rfl) ?_
  refine lv_aload_n hx hb d_M_takeBack_67 rfl (lv_at hl 1 rfl) ?_
  refine ug_R hx hb ht hown hM hK hP 74 (by decide) lk_M_74 (by decide) d_M_takeBack_68 ?_
  refine lv_iload_n hx hb d_M_takeBack_71 rfl (lv_at hl 0 rfl) ?_
  refine lv_iconst (v := 5) hx hb d_M_takeBack_72 (by decide) ?_
  refine lv_iadd hx hb d_M_takeBack_73 ?_
  obtain ⟨hi9, hf⟩ := ck_some hf
  refine ul_I hx hb hK hP (by decide) (by decide) hi9 d_M_takeBack_74 ?_
  refine up_I hx hb ht hown hM hK hP hD hS 71 (by decide) lk_M_71 (by decide) rfl rfl rfl d_M_takeBack_75 (fun H locs hP hD hS => ?_)
  obtain ⟨w9, e9, hf⟩ := lt_some hf
  rw [← e9] at hP hD
  refine lv_aload_n hx hb d_M_takeBack_78 rfl (lv_at hl 1 rfl) ?_
  refine lv_aload_n hx hb d_M_takeBack_79 rfl (lv_at hl 1 rfl) ?_
  refine ug_R hx hb ht hown hM hK hP 74 (by decide) lk_M_74 (by decide) d_M_takeBack_80 ?_
  refine lv_iload_n hx hb d_M_takeBack_83 rfl (lv_at hl 0 rfl) ?_
  refine lv_bipush (v := 6) hx hb d_M_takeBack_84 (by decide) ?_
  refine lv_iadd hx hb d_M_takeBack_86 ?_
  obtain ⟨hi9, hf⟩ := ck_some hf
  refine ul_I hx hb hK hP (by decide) (by decide) hi9 d_M_takeBack_87 ?_
  refine up_I hx hb ht hown hM hK hP hD hS 72 (by decide) lk_M_72 (by decide) rfl rfl rfl d_M_takeBack_88 (fun H locs hP hD hS => ?_)
  obtain ⟨w10, e10, hf⟩ := lt_some hf
  rw [← e10] at hP hD
  refine lv_aload_n hx hb d_M_takeBack_91 rfl (lv_at hl 1 rfl) ?_
  refine lv_aload_n hx hb d_M_takeBack_92 rfl (lv_at hl 1 rfl) ?_
  refine ug_R hx hb ht hown hM hK hP 74 (by decide) lk_M_74 (by decide) d_M_takeBack_93 ?_
  refine lv_iload_n hx hb d_M_takeBack_96 rfl (lv_at hl 0 rfl) ?_
  refine lv_bipush (v := 7) hx hb d_M_takeBack_97 (by decide) ?_
  refine lv_iadd hx hb d_M_takeBack_99 ?_
  obtain ⟨hi9, hf⟩ := ck_some hf
  refine ul_I hx hb hK hP (by decide) (by decide) hi9 d_M_takeBack_100 ?_
  refine lv_iconst (v := 1) hx hb d_M_takeBack_101 (by decide) ?_
  refine lv_icmp_ne (tgt := 109) hx hb d_M_takeBack_102 (by decide) (fun hc => ?_) (fun hc => ?_)
  · rw [br_n _ hc] at hf
    refine lv_iconst (v := 0) hx hb d_M_takeBack_109 (by decide) ?_
    exact wb_M_takeBack_110 C0 hR N G hG _ _ _ hf H locs hP hD hS ls (lv_sub hl [1] rfl)
  · rw [br_p _ hc] at hf
    refine lv_iconst (v := 1) hx hb d_M_takeBack_105 (by decide) ?_
    refine lv_goto (tgt := 110) hx hb d_M_takeBack_106 (by decide) ?_
    exact wb_M_takeBack_110 C0 hR N G hG _ _ _ hf H locs hP hD hS ls (lv_sub hl [1] rfl)
def gg_M_takeBack (N : Nat) : Nat → ((MS → Int32 → Option (MS × Unit)))
  | 0 => fun _ _ => none
  | n + 1 => fb_M_takeBack_115 N (gg_M_takeBack N n)
theorem wg_M_takeBack {p : Program} {l : Launch} {e : Env} {R : Room} {s : State} {m : MethodId} {args : Array Value} {below : List Frame} {meth : Method} {c : Code} {D : va_G} {cl : List vw_C} {cB cI cJ cZ cS : ClassId} {A : Nat → Prop} {iM h0 : Nat} {ad : Nat → Nat} (C0 : MCx p s m args meth c b_M_takeBack 3 none D cl cB cI cJ cZ cS iM A) (hR : R = rm_M_takeBack) (N : Nat) : ∀ n : Nat, (∀ (u : MS) (v2 : Int32) (x : MS × Unit), gg_M_takeBack N n u v2 = some x → ∀ (H : Heap) (locs : List Loc), va_P D cl (wM cB cI cJ cZ cS iM h0 ad u) H → va_D A (wM cB cI cJ cZ cS iM h0 ad u) → va_S A s.heap H locs → ∀ (ls : Array Slot), lv_has ls 3 [(0, .ref h0), (2, .int v2)] → W p l e R s m args below meth c H locs 0 0 (MQ below (mQv D cl cB cI cJ cZ cS iM h0 ad A x) args s 0 0 A) (F0 m 115 ls []))
  | 0 => (fun u v2 x hf => by cases hf)
  | n + 1 => wb_M_takeBack_115 C0 hR N (gg_M_takeBack N n) (wg_M_takeBack C0 hR N n)
def fm_M_takeBack (N : Nat) (u : MS) : Option (MS × Unit) := fb_M_takeBack_0 N (gg_M_takeBack N N) u
set_option maxRecDepth 100000 in
set_option maxHeartbeats 4000000 in
theorem c_M_takeBack (N : Nat) {l : Launch} {D : va_G} {cl : List vw_C} {cB cI cJ cZ cS : ClassId} {iM h0 : Nat} {ad : Nat → Nat} {u : MS} {sz : Nat} {x : MS × Unit} (hM : cl[iM]? = some (R_M, F_M, 171)) (hf : fm_M_takeBack N u = some x) : Met l y_M_takeBack (wd_ws y_M_takeBack b_M_takeBack 3 none) rm_M_takeBack (mPc D cl cB cI cJ cZ cS iM h0 ad u sz [.ref h0]) (mQv D cl cB cI cJ cZ cS iM h0 ad (mA cB cI cJ cZ cS iM h0 ad u sz) x) 0 0 (mA cB cI cJ cZ cS iM h0 ad u sz) :=
  mMet (by decide) rfl hM (Nat.le_of_ble_eq_true rfl) (fun p e s m below meth c ls hsz C0 hP hD hS hl => by
    have hR : rm_M_takeBack = rm_M_takeBack := rfl
    exact wb_M_takeBack_0 C0 hR N (gg_M_takeBack N N) (wg_M_takeBack C0 hR N N) u x hf s.heap [] hP hD hS ls (lv_sub hl [0] rfl))
abbrev b_M_forgetSaved : ByteArray := prog_14_method_56_code
def y_M_forgetSaved : MethodName := ⟨R_M, "forgetSaved", "()V"⟩
def w_M_forgetSaved : List Cond := wd_ws y_M_forgetSaved b_M_forgetSaved 1 none
set_option maxRecDepth 100000 in
theorem k_M_forgetSaved : Cond.code y_M_forgetSaved b_M_forgetSaved 1 none ∈ wd_tbl := wd_of 2871 rfl rfl
theorem d_M_forgetSaved_0 : decode b_M_forgetSaved 0 = .ok (.aload_n 0, 1) := by decide +kernel
theorem d_M_forgetSaved_1 : decode b_M_forgetSaved 1 = .ok (.dup, 1) := by decide +kernel
theorem d_M_forgetSaved_2 : decode b_M_forgetSaved 2 = .ok (.getfield 586, 3) := by decide +kernel
theorem d_M_forgetSaved_5 : decode b_M_forgetSaved 5 = .ok (.bipush 8, 2) := by decide +kernel
theorem d_M_forgetSaved_7 : decode b_M_forgetSaved 7 = .ok (.isub, 1) := by decide +kernel
theorem d_M_forgetSaved_8 : decode b_M_forgetSaved 8 = .ok (.putfield 586, 3) := by decide +kernel
theorem d_M_forgetSaved_11 : decode b_M_forgetSaved 11 = .ok (.aload_n 0, 1) := by decide +kernel
theorem d_M_forgetSaved_12 : decode b_M_forgetSaved 12 = .ok (.dup, 1) := by decide +kernel
theorem d_M_forgetSaved_13 : decode b_M_forgetSaved 13 = .ok (.getfield 589, 3) := by decide +kernel
theorem d_M_forgetSaved_16 : decode b_M_forgetSaved 16 = .ok (.bipush 54, 2) := by decide +kernel
theorem d_M_forgetSaved_18 : decode b_M_forgetSaved 18 = .ok (.isub, 1) := by decide +kernel
theorem d_M_forgetSaved_19 : decode b_M_forgetSaved 19 = .ok (.putfield 589, 3) := by decide +kernel
theorem d_M_forgetSaved_22 : decode b_M_forgetSaved 22 = .ok (.return_, 1) := by decide +kernel
set_option maxRecDepth 100000 in
theorem hl_M_forgetSaved : Cond.methodLink R_M 604 y_M_forgetSaved ∈ wd_tbl := wd_of 2868 (by decide +kernel) rfl
set_option maxRecDepth 100000 in
theorem hi_M_forgetSaved : Cond.instanceMethod y_M_forgetSaved ∈ wd_tbl := wd_of 2870 (by decide +kernel) rfl
set_option maxRecDepth 100000 in
theorem hs_M_forgetSaved : Cond.selects R_M y_M_forgetSaved y_M_forgetSaved ∈ wd_tbl := wd_of 181 (by decide +kernel) rfl
theorem hd_M_forgetSaved : y_M_forgetSaved.cls = R_M ∧ y_M_forgetSaved.cls ≠ "java/lang/invoke/MethodHandle" ∧ y_M_forgetSaved.cls ≠ "java/lang/invoke/VarHandle" ∧ (parseMethodDescriptor y_M_forgetSaved.desc).map (fun d => d.parameters.length) = some 0 := by decide +kernel
def rm_M_forgetSaved : Room := { frames := 0, cells := 0, slots := 0, locals := 0 }
def fb_M_forgetSaved_0 (N : Nat) (G : Unit) (u : MS) : Option (MS × Unit) := lt (upI u 75 ((u.1 75) - 8)) (fun w1 => lt (upI w1 77 ((w1.1 77) - 54)) (fun w2 => some (w2, ())))
set_option maxRecDepth 100000 in
set_option maxHeartbeats 4000000 in
theorem wb_M_forgetSaved_0 {p : Program} {l : Launch} {e : Env} {R : Room} {s : State} {m : MethodId} {args : Array Value} {below : List Frame} {meth : Method} {c : Code} {D : va_G} {cl : List vw_C} {cB cI cJ cZ cS : ClassId} {A : Nat → Prop} {iM h0 : Nat} {ad : Nat → Nat} (C0 : MCx p s m args meth c b_M_forgetSaved 1 none D cl cB cI cJ cZ cS iM A) (hR : R = rm_M_forgetSaved) (N : Nat) (G : Unit) (hG : True) : ∀ (u : MS) (x : MS × Unit), fb_M_forgetSaved_0 N G u = some x → ∀ (H : Heap) (locs : List Loc), va_P D cl (wM cB cI cJ cZ cS iM h0 ad u) H → va_D A (wM cB cI cJ cZ cS iM h0 ad u) → va_S A s.heap H locs → ∀ (ls : Array Slot), lv_has ls 1 [(0, .ref h0)] → W p l e R s m args below meth c H locs 0 0 (MQ below (mQv D cl cB cI cJ cZ cS iM h0 ad A x) args s 0 0 A) (F0 m 0 ls []) := by
  intro u x hf H locs hP hD hS ls hl
  obtain ⟨hx, hb, hr, hml, ht, hown, hM, hK, hA, hlocks⟩ := id C0
  unfold fb_M_forgetSaved_0 at hf
  refine lv_aload_n hx hb d_M_forgetSaved_0 rfl (lv_at hl 0 rfl) ?_
  refine lv_dup hx hb d_M_forgetSaved_1 rfl ?_
  refine ug_I hx hb ht hown hM hK hP 75 (by decide) lk_M_75 (by decide) d_M_forgetSaved_2 ?_
  refine lv_bipush (v := 8) hx hb d_M_forgetSaved_5 (by decide) ?_
  refine lv_isub hx hb d_M_forgetSaved_7 ?_
  refine up_I hx hb ht hown hM hK hP hD hS 75 (by decide) lk_M_75 (by decide) rfl rfl rfl d_M_forgetSaved_8 (fun H locs hP hD hS => ?_)
  obtain ⟨w1, e1, hf⟩ := lt_some hf
  rw [← e1] at hP hD
  refine lv_aload_n hx hb d_M_forgetSaved_11 rfl (lv_at hl 0 rfl) ?_
  refine lv_dup hx hb d_M_forgetSaved_12 rfl ?_
  refine ug_I hx hb ht hown hM hK hP 77 (by decide) lk_M_77 (by decide) d_M_forgetSaved_13 ?_
  refine lv_bipush (v := 54) hx hb d_M_forgetSaved_16 (by decide) ?_
  refine lv_isub hx hb d_M_forgetSaved_18 ?_
  refine up_I hx hb ht hown hM hK hP hD hS 77 (by decide) lk_M_77 (by decide) rfl rfl rfl d_M_forgetSaved_19 (fun H locs hP hD hS => ?_)
  obtain ⟨w2, e2, hf⟩ := lt_some hf
  rw [← e2] at hP hD
  exact mr_v C0 hP hD hS hf d_M_forgetSaved_22
def fm_M_forgetSaved (N : Nat) (u : MS) : Option (MS × Unit) := fb_M_forgetSaved_0 N () u
set_option maxRecDepth 100000 in
set_option maxHeartbeats 4000000 in
theorem c_M_forgetSaved (N : Nat) {l : Launch} {D : va_G} {cl : List vw_C} {cB cI cJ cZ cS : ClassId} {iM h0 : Nat} {ad : Nat → Nat} {u : MS} {sz : Nat} {x : MS × Unit} (hM : cl[iM]? = some (R_M, F_M, 171)) (hf : fm_M_forgetSaved N u = some x) : Met l y_M_forgetSaved (wd_ws y_M_forgetSaved b_M_forgetSaved 1 none) rm_M_forgetSaved (mPc D cl cB cI cJ cZ cS iM h0 ad u sz [.ref h0]) (mQv D cl cB cI cJ cZ cS iM h0 ad (mA cB cI cJ cZ cS iM h0 ad u sz) x) 0 0 (mA cB cI cJ cZ cS iM h0 ad u sz) :=
  mMet (by decide) rfl hM (Nat.le_of_ble_eq_true rfl) (fun p e s m below meth c ls hsz C0 hP hD hS hl => by
    have hR : rm_M_forgetSaved = rm_M_forgetSaved := rfl
    exact wb_M_forgetSaved_0 C0 hR N () trivial u x hf s.heap [] hP hD hS ls (lv_sub hl [0] rfl))
abbrev b_M_last : ByteArray := prog_14_method_43_code
def y_M_last : MethodName := ⟨R_M, "last", "(I)V"⟩
def w_M_last : List Cond := wd_ws y_M_last b_M_last 3 none
set_option maxRecDepth 100000 in
theorem k_M_last : Cond.code y_M_last b_M_last 3 none ∈ wd_tbl := wd_of 2875 rfl rfl
theorem d_M_last_0 : decode b_M_last 0 = .ok (.iload_n 1, 1) := by decide +kernel
theorem d_M_last_1 : decode b_M_last 1 = .ok (.iconst (-1), 1) := by decide +kernel
theorem d_M_last_2 : decode b_M_last 2 = .ok (.if_icmp .ne 4, 3) := by decide +kernel
theorem d_M_last_5 : decode b_M_last 5 = .ok (.return_, 1) := by decide +kernel
theorem d_M_last_6 : decode b_M_last 6 = .ok (.aload_n 0, 1) := by decide +kernel
theorem d_M_last_7 : decode b_M_last 7 = .ok (.getfield 56, 3) := by decide +kernel
theorem d_M_last_10 : decode b_M_last 10 = .ok (.iload_n 1, 1) := by decide +kernel
theorem d_M_last_11 : decode b_M_last 11 = .ok (.baload, 1) := by decide +kernel
theorem d_M_last_12 : decode b_M_last 12 = .ok (.bipush 12, 2) := by decide +kernel
theorem d_M_last_14 : decode b_M_last 14 = .ok (.if_icmp .eq 14, 3) := by decide +kernel
theorem d_M_last_17 : decode b_M_last 17 = .ok (.aload_n 0, 1) := by decide +kernel
theorem d_M_last_18 : decode b_M_last 18 = .ok (.getfield 56, 3) := by decide +kernel
theorem d_M_last_21 : decode b_M_last 21 = .ok (.iload_n 1, 1) := by decide +kernel
theorem d_M_last_22 : decode b_M_last 22 = .ok (.baload, 1) := by decide +kernel
theorem d_M_last_23 : decode b_M_last 23 = .ok (.bipush 13, 2) := by decide +kernel
theorem d_M_last_25 : decode b_M_last 25 = .ok (.if_icmp .ne 10, 3) := by decide +kernel
theorem d_M_last_28 : decode b_M_last 28 = .ok (.aload_n 0, 1) := by decide +kernel
theorem d_M_last_29 : decode b_M_last 29 = .ok (.getfield 78, 3) := by decide +kernel
theorem d_M_last_32 : decode b_M_last 32 = .ok (.iload_n 1, 1) := by decide +kernel
theorem d_M_last_33 : decode b_M_last 33 = .ok (.iconst 1, 1) := by decide +kernel
theorem d_M_last_34 : decode b_M_last 34 = .ok (.bastore, 1) := by decide +kernel
theorem d_M_last_35 : decode b_M_last 35 = .ok (.aload_n 0, 1) := by decide +kernel
theorem d_M_last_36 : decode b_M_last 36 = .ok (.getfield 72, 3) := by decide +kernel
theorem d_M_last_39 : decode b_M_last 39 = .ok (.iload_n 1, 1) := by decide +kernel
theorem d_M_last_40 : decode b_M_last 40 = .ok (.iaload, 1) := by decide +kernel
theorem d_M_last_41 : decode b_M_last 41 = .ok (.istore_n 2, 1) := by decide +kernel
theorem d_M_last_42 : decode b_M_last 42 = .ok (.iload_n 2, 1) := by decide +kernel
theorem d_M_last_43 : decode b_M_last 43 = .ok (.iconst (-1), 1) := by decide +kernel
theorem d_M_last_44 : decode b_M_last 44 = .ok (.if_icmp .eq 18, 3) := by decide +kernel
theorem d_M_last_47 : decode b_M_last 47 = .ok (.aload_n 0, 1) := by decide +kernel
theorem d_M_last_48 : decode b_M_last 48 = .ok (.iload_n 2, 1) := by decide +kernel
theorem d_M_last_49 : decode b_M_last 49 = .ok (.invokevirtual 546, 3) := by decide +kernel
theorem d_M_last_52 : decode b_M_last 52 = .ok (.aload_n 0, 1) := by decide +kernel
theorem d_M_last_53 : decode b_M_last 53 = .ok (.getfield 75, 3) := by decide +kernel
theorem d_M_last_56 : decode b_M_last 56 = .ok (.iload_n 2, 1) := by decide +kernel
theorem d_M_last_57 : decode b_M_last 57 = .ok (.iaload, 1) := by decide +kernel
theorem d_M_last_58 : decode b_M_last 58 = .ok (.istore_n 2, 1) := by decide +kernel
theorem d_M_last_59 : decode b_M_last 59 = .ok (.goto (-17), 3) := by decide +kernel
theorem d_M_last_62 : decode b_M_last 62 = .ok (.return_, 1) := by decide +kernel
set_option maxRecDepth 100000 in
theorem hl_M_last : Cond.methodLink R_M 546 y_M_last ∈ wd_tbl := wd_of 2872 (by decide +kernel) rfl
set_option maxRecDepth 100000 in
theorem hi_M_last : Cond.instanceMethod y_M_last ∈ wd_tbl := wd_of 2874 (by decide +kernel) rfl
set_option maxRecDepth 100000 in
theorem hs_M_last : Cond.selects R_M y_M_last y_M_last ∈ wd_tbl := wd_of 182 (by decide +kernel) rfl
theorem hd_M_last : y_M_last.cls = R_M ∧ y_M_last.cls ≠ "java/lang/invoke/MethodHandle" ∧ y_M_last.cls ≠ "java/lang/invoke/VarHandle" ∧ (parseMethodDescriptor y_M_last.desc).map (fun d => d.parameters.length) = some 1 := by decide +kernel
def rg_M_last (d : Nat) : Room := { frames := 0 + d, cells := 0, slots := 0, locals := 0 + 22 * d }
abbrev SG_M_last : Type := (MS → Int32 → Option (MS × Unit))
def HS_M_last (l : Launch) (D : va_G) (cl : List vw_C) (cB cI cJ cZ cS : ClassId) (iM h0 : Nat) (ad : Nat → Nat) (rm : Room) (S : SG_M_last) : Prop := (∀ (u : MS) (v1 : Int32) (x : MS × Unit) (sz : Nat), S u v1 = some x → Met l y_M_last (wd_ws y_M_last b_M_last 3 none) rm (mPc D cl cB cI cJ cZ cS iM h0 ad u sz [.ref h0, .int v1]) (mQv D cl cB cI cJ cZ cS iM h0 ad (mA cB cI cJ cZ cS iM h0 ad u sz) x) 0 0 (mA cB cI cJ cZ cS iM h0 ad u sz))
theorem rm_M_last_M_last {R : Room} {d : Nat} (hR : R = rg_M_last (d + 1)) : (rg_M_last d).frames + 1 ≤ R.frames ∧ 8 + (3 + 11) + (rg_M_last d).locals ≤ R.locals := by
  subst hR
  show 0 + d + 1 ≤ 0 + (d + 1) ∧ 8 + (3 + 11) + (0 + 22 * d) ≤ 0 + 22 * (d + 1)
  omega
def fb_M_last_42 (N : Nat) (S : SG_M_last) (G : (MS → Int32 → Option (MS × Unit))) (u : MS) (v2 : Int32) : Option (MS × Unit) := br (decide (v2 = (-1))) (some (u, ())) (bnd (S u v2) (fun u1 _ => ck (inb v2 (ln 29)) (G u1 ((u1.2.2.1 29 v2.toNatClampNeg)))))
set_option maxRecDepth 100000 in
set_option maxHeartbeats 4000000 in
theorem wb_M_last_42 {p : Program} {l : Launch} {e : Env} {R : Room} {s : State} {m : MethodId} {args : Array Value} {below : List Frame} {meth : Method} {c : Code} {D : va_G} {cl : List vw_C} {cB cI cJ cZ cS : ClassId} {A : Nat → Prop} {iM h0 : Nat} {ad : Nat → Nat} (C0 : MCx p s m args meth c b_M_last 3 none D cl cB cI cJ cZ cS iM A) {d : Nat} (hR : R = rg_M_last (d + 1)) (N : Nat) (S : SG_M_last) (hSg : HS_M_last l D cl cB cI cJ cZ cS iM h0 ad (rg_M_last d) S) (G : (MS → Int32 → Option (MS × Unit))) (hG : (∀ (u : MS) (v2 : Int32) (x : MS × Unit), G u v2 = some x → ∀ (H : Heap) (locs : List Loc), va_P D cl (wM cB cI cJ cZ cS iM h0 ad u) H → va_D A (wM cB cI cJ cZ cS iM h0 ad u) → va_S A s.heap H locs → ∀ (ls : Array Slot), lv_has ls 3 [(0, .ref h0), (2, .int v2)] → W p l e R s m args below meth c H locs 0 0 (MQ below (mQv D cl cB cI cJ cZ cS iM h0 ad A x) args s 0 0 A) (F0 m 42 ls []))) : ∀ (u : MS) (v2 : Int32) (x : MS × Unit), fb_M_last_42 N S G u v2 = some x → ∀ (H : Heap) (locs : List Loc), va_P D cl (wM cB cI cJ cZ cS iM h0 ad u) H → va_D A (wM cB cI cJ cZ cS iM h0 ad u) → va_S A s.heap H locs → ∀ (ls : Array Slot), lv_has ls 3 [(0, .ref h0), (2, .int v2)] → W p l e R s m args below meth c H locs 0 0 (MQ below (mQv D cl cB cI cJ cZ cS iM h0 ad A x) args s 0 0 A) (F0 m 42 ls []) := by
  intro u v2 x hf H locs hP hD hS ls hl
  obtain ⟨hx, hb, hr, hml, ht, hown, hM, hK, hA, hlocks⟩ := id C0
  unfold fb_M_last_42 at hf
  refine lv_iload_n hx hb d_M_last_42 rfl (lv_at hl 1 rfl) ?_
  refine lv_iconst (v := (-1)) hx hb d_M_last_43 (by decide) ?_
  refine lv_icmp_eq (tgt := 62) hx hb d_M_last_44 (by decide) (fun hc => ?_) (fun hc => ?_)
  · rw [br_p _ hc] at hf
    exact mr_v C0 hP hD hS hf d_M_last_62
  · rw [br_n _ hc] at hf
    refine lv_aload_n hx hb d_M_last_47 rfl (lv_at hl 0 rfl) ?_
    refine lv_iload_n hx hb d_M_last_48 rfl (lv_at hl 1 rfl) ?_
    obtain ⟨u1, r1, hc1, hf⟩ := bnd_some hf
    refine mV_v (As := [.int v2]) (rest := []) C0 hP hD hS (hSg _ _ _ _ hc1) k_M_last hl_M_last hi_M_last hs_M_last hini_M rfl rfl hd_M_last rfl (rm_M_last_M_last hR) hl.1 (Nat.le_of_ble_eq_true rfl) d_M_last_49 rfl ⟨Nat.zero_le _, Nat.zero_le _⟩ (fun H locs hP hD hS => ?_)
    refine lv_aload_n hx hb d_M_last_52 rfl (lv_at hl 0 rfl) ?_
    refine ug_R hx hb ht hown hM hK hP 29 (by decide) lk_M_29 (by decide) d_M_last_53 ?_
    refine lv_iload_n hx hb d_M_last_56 rfl (lv_at hl 1 rfl) ?_
    obtain ⟨hi9, hf⟩ := ck_some hf
    refine ul_I hx hb hK hP (by decide) (by decide) hi9 d_M_last_57 ?_
    refine lv_istore_n (lv' := [(2, .int (u1.2.2.1 29 v2.toNatClampNeg)), (0, .ref h0)]) hx hb d_M_last_58 rfl hl (by decide) rfl (fun ls hl => ?_)
    refine lv_goto (tgt := 42) hx hb d_M_last_59 (by decide) ?_
    exact hG _ _ _ hf H locs hP hD hS ls (lv_sub hl [1, 0] rfl)
def fb_M_last_35 (N : Nat) (S : SG_M_last) (G : (MS → Int32 → Option (MS × Unit))) (u : MS) (v1 : Int32) : Option (MS × Unit) := ck (inb v1 (ln 28)) (G u ((u.2.2.1 28 v1.toNatClampNeg)))
set_option maxRecDepth 100000 in
set_option maxHeartbeats 4000000 in
theorem wb_M_last_35 {p : Program} {l : Launch} {e : Env} {R : Room} {s : State} {m : MethodId} {args : Array Value} {below : List Frame} {meth : Method} {c : Code} {D : va_G} {cl : List vw_C} {cB cI cJ cZ cS : ClassId} {A : Nat → Prop} {iM h0 : Nat} {ad : Nat → Nat} (C0 : MCx p s m args meth c b_M_last 3 none D cl cB cI cJ cZ cS iM A) {d : Nat} (hR : R = rg_M_last (d + 1)) (N : Nat) (S : SG_M_last) (hSg : HS_M_last l D cl cB cI cJ cZ cS iM h0 ad (rg_M_last d) S) (G : (MS → Int32 → Option (MS × Unit))) (hG : (∀ (u : MS) (v2 : Int32) (x : MS × Unit), G u v2 = some x → ∀ (H : Heap) (locs : List Loc), va_P D cl (wM cB cI cJ cZ cS iM h0 ad u) H → va_D A (wM cB cI cJ cZ cS iM h0 ad u) → va_S A s.heap H locs → ∀ (ls : Array Slot), lv_has ls 3 [(0, .ref h0), (2, .int v2)] → W p l e R s m args below meth c H locs 0 0 (MQ below (mQv D cl cB cI cJ cZ cS iM h0 ad A x) args s 0 0 A) (F0 m 42 ls []))) : ∀ (u : MS) (v1 : Int32) (x : MS × Unit), fb_M_last_35 N S G u v1 = some x → ∀ (H : Heap) (locs : List Loc), va_P D cl (wM cB cI cJ cZ cS iM h0 ad u) H → va_D A (wM cB cI cJ cZ cS iM h0 ad u) → va_S A s.heap H locs → ∀ (ls : Array Slot), lv_has ls 3 [(0, .ref h0), (1, .int v1)] → W p l e R s m args below meth c H locs 0 0 (MQ below (mQv D cl cB cI cJ cZ cS iM h0 ad A x) args s 0 0 A) (F0 m 35 ls []) := by
  intro u v1 x hf H locs hP hD hS ls hl
  obtain ⟨hx, hb, hr, hml, ht, hown, hM, hK, hA, hlocks⟩ := id C0
  unfold fb_M_last_35 at hf
  refine lv_aload_n hx hb d_M_last_35 rfl (lv_at hl 0 rfl) ?_
  refine ug_R hx hb ht hown hM hK hP 28 (by decide) lk_M_28 (by decide) d_M_last_36 ?_
  refine lv_iload_n hx hb d_M_last_39 rfl (lv_at hl 1 rfl) ?_
  obtain ⟨hi9, hf⟩ := ck_some hf
  refine ul_I hx hb hK hP (by decide) (by decide) hi9 d_M_last_40 ?_
  refine lv_istore_n (lv' := [(2, .int (u.2.2.1 28 v1.toNatClampNeg)), (0, .ref h0), (1, .int v1)]) hx hb d_M_last_41 rfl hl (by decide) rfl (fun ls hl => ?_)
  exact hG _ _ _ hf H locs hP hD hS ls (lv_sub hl [1, 0] rfl)
def fb_M_last_28 (N : Nat) (S : SG_M_last) (G : (MS → Int32 → Option (MS × Unit))) (u : MS) (v1 : Int32) : Option (MS × Unit) := ck (inb v1 (ln 30)) (lt (upA u 30 (upd (u.2.2.1 30) v1.toNatClampNeg (vp_nar .boolean 1))) (fun w2 => fb_M_last_35 N S G w2 (v1)))
set_option maxRecDepth 100000 in
set_option maxHeartbeats 4000000 in
theorem wb_M_last_28 {p : Program} {l : Launch} {e : Env} {R : Room} {s : State} {m : MethodId} {args : Array Value} {below : List Frame} {meth : Method} {c : Code} {D : va_G} {cl : List vw_C} {cB cI cJ cZ cS : ClassId} {A : Nat → Prop} {iM h0 : Nat} {ad : Nat → Nat} (C0 : MCx p s m args meth c b_M_last 3 none D cl cB cI cJ cZ cS iM A) {d : Nat} (hR : R = rg_M_last (d + 1)) (N : Nat) (S : SG_M_last) (hSg : HS_M_last l D cl cB cI cJ cZ cS iM h0 ad (rg_M_last d) S) (G : (MS → Int32 → Option (MS × Unit))) (hG : (∀ (u : MS) (v2 : Int32) (x : MS × Unit), G u v2 = some x → ∀ (H : Heap) (locs : List Loc), va_P D cl (wM cB cI cJ cZ cS iM h0 ad u) H → va_D A (wM cB cI cJ cZ cS iM h0 ad u) → va_S A s.heap H locs → ∀ (ls : Array Slot), lv_has ls 3 [(0, .ref h0), (2, .int v2)] → W p l e R s m args below meth c H locs 0 0 (MQ below (mQv D cl cB cI cJ cZ cS iM h0 ad A x) args s 0 0 A) (F0 m 42 ls []))) : ∀ (u : MS) (v1 : Int32) (x : MS × Unit), fb_M_last_28 N S G u v1 = some x → ∀ (H : Heap) (locs : List Loc), va_P D cl (wM cB cI cJ cZ cS iM h0 ad u) H → va_D A (wM cB cI cJ cZ cS iM h0 ad u) → va_S A s.heap H locs → ∀ (ls : Array Slot), lv_has ls 3 [(0, .ref h0), (1, .int v1)] → W p l e R s m args below meth c H locs 0 0 (MQ below (mQv D cl cB cI cJ cZ cS iM h0 ad A x) args s 0 0 A) (F0 m 28 ls []) := by
  intro u v1 x hf H locs hP hD hS ls hl
  obtain ⟨hx, hb, hr, hml, ht, hown, hM, hK, hA, hlocks⟩ := id C0
  unfold fb_M_last_28 at hf
  refine lv_aload_n hx hb d_M_last_28 rfl (lv_at hl 0 rfl) ?_
  refine ug_R hx hb ht hown hM hK hP 30 (by decide) lk_M_30 (by decide) d_M_last_29 ?_
  refine lv_iload_n hx hb d_M_last_32 rfl (lv_at hl 1 rfl) ?_
  refine lv_iconst (v := 1) hx hb d_M_last_33 (by decide) ?_
  obtain ⟨hi9, hf⟩ := ck_some hf
  refine us_Z hx hb hK hP hD hS (by decide) (by decide) hi9 d_M_last_34 (fun H locs hP hD hS => ?_)
  obtain ⟨w2, e2, hf⟩ := lt_some hf
  rw [← e2] at hP hD
  exact wb_M_last_35 C0 hR N S hSg G hG _ _ _ hf H locs hP hD hS ls (lv_sub hl [0, 1] rfl)
def fb_M_last_0 (N : Nat) (S : SG_M_last) (G : (MS → Int32 → Option (MS × Unit))) (u : MS) (v1 : Int32) : Option (MS × Unit) := br (decide (v1 = (-1))) (some (u, ())) (ck (inb v1 (ln 23)) (br (decide ((u.2.2.1 23 v1.toNatClampNeg) = 12)) (fb_M_last_28 N S G u (v1)) (ck (inb v1 (ln 23)) (br (decide ((u.2.2.1 23 v1.toNatClampNeg) = 13)) (fb_M_last_28 N S G u (v1)) (fb_M_last_35 N S G u (v1))))))
set_option maxRecDepth 100000 in
set_option maxHeartbeats 4000000 in
theorem wb_M_last_0 {p : Program} {l : Launch} {e : Env} {R : Room} {s : State} {m : MethodId} {args : Array Value} {below : List Frame} {meth : Method} {c : Code} {D : va_G} {cl : List vw_C} {cB cI cJ cZ cS : ClassId} {A : Nat → Prop} {iM h0 : Nat} {ad : Nat → Nat} (C0 : MCx p s m args meth c b_M_last 3 none D cl cB cI cJ cZ cS iM A) {d : Nat} (hR : R = rg_M_last (d + 1)) (N : Nat) (S : SG_M_last) (hSg : HS_M_last l D cl cB cI cJ cZ cS iM h0 ad (rg_M_last d) S) (G : (MS → Int32 → Option (MS × Unit))) (hG : (∀ (u : MS) (v2 : Int32) (x : MS × Unit), G u v2 = some x → ∀ (H : Heap) (locs : List Loc), va_P D cl (wM cB cI cJ cZ cS iM h0 ad u) H → va_D A (wM cB cI cJ cZ cS iM h0 ad u) → va_S A s.heap H locs → ∀ (ls : Array Slot), lv_has ls 3 [(0, .ref h0), (2, .int v2)] → W p l e R s m args below meth c H locs 0 0 (MQ below (mQv D cl cB cI cJ cZ cS iM h0 ad A x) args s 0 0 A) (F0 m 42 ls []))) : ∀ (u : MS) (v1 : Int32) (x : MS × Unit), fb_M_last_0 N S G u v1 = some x → ∀ (H : Heap) (locs : List Loc), va_P D cl (wM cB cI cJ cZ cS iM h0 ad u) H → va_D A (wM cB cI cJ cZ cS iM h0 ad u) → va_S A s.heap H locs → ∀ (ls : Array Slot), lv_has ls 3 [(0, .ref h0), (1, .int v1)] → W p l e R s m args below meth c H locs 0 0 (MQ below (mQv D cl cB cI cJ cZ cS iM h0 ad A x) args s 0 0 A) (F0 m 0 ls []) := by
  intro u v1 x hf H locs hP hD hS ls hl
  obtain ⟨hx, hb, hr, hml, ht, hown, hM, hK, hA, hlocks⟩ := id C0
  unfold fb_M_last_0 at hf
  refine lv_iload_n hx hb d_M_last_0 rfl (lv_at hl 1 rfl) ?_
  refine lv_iconst (v := (-1)) hx hb d_M_last_1 (by decide) ?_
  refine lv_icmp_ne (tgt := 6) hx hb d_M_last_2 (by decide) (fun hc => ?_) (fun hc => ?_)
  · rw [br_n _ hc] at hf
    refine lv_aload_n hx hb d_M_last_6 rfl (lv_at hl 0 rfl) ?_
    refine ug_R hx hb ht hown hM hK hP 23 (by decide) lk_M_23 (by decide) d_M_last_7 ?_
    refine lv_iload_n hx hb d_M_last_10 rfl (lv_at hl 1 rfl) ?_
    obtain ⟨hi9, hf⟩ := ck_some hf
    refine ul_B hx hb hK hP (by decide) (by decide) hi9 d_M_last_11 ?_
    refine lv_bipush (v := 12) hx hb d_M_last_12 (by decide) ?_
    refine lv_icmp_eq (tgt := 28) hx hb d_M_last_14 (by decide) (fun hc => ?_) (fun hc => ?_)
    · rw [br_p _ hc] at hf
      exact wb_M_last_28 C0 hR N S hSg G hG _ _ _ hf H locs hP hD hS ls (lv_sub hl [0, 1] rfl)
    · rw [br_n _ hc] at hf
      refine lv_aload_n hx hb d_M_last_17 rfl (lv_at hl 0 rfl) ?_
      refine ug_R hx hb ht hown hM hK hP 23 (by decide) lk_M_23 (by decide) d_M_last_18 ?_
      refine lv_iload_n hx hb d_M_last_21 rfl (lv_at hl 1 rfl) ?_
      obtain ⟨hi9, hf⟩ := ck_some hf
      refine ul_B hx hb hK hP (by decide) (by decide) hi9 d_M_last_22 ?_
      refine lv_bipush (v := 13) hx hb d_M_last_23 (by decide) ?_
      refine lv_icmp_ne (tgt := 35) hx hb d_M_last_25 (by decide) (fun hc => ?_) (fun hc => ?_)
      · rw [br_n _ hc] at hf
        exact wb_M_last_35 C0 hR N S hSg G hG _ _ _ hf H locs hP hD hS ls (lv_sub hl [0, 1] rfl)
      · rw [br_p _ hc] at hf
        exact wb_M_last_28 C0 hR N S hSg G hG _ _ _ hf H locs hP hD hS ls (lv_sub hl [0, 1] rfl)
  · rw [br_p _ hc] at hf
    exact mr_v C0 hP hD hS hf d_M_last_5
def gg_M_last (N : Nat) (S : SG_M_last) : Nat → ((MS → Int32 → Option (MS × Unit)))
  | 0 => fun _ _ => none
  | n + 1 => fb_M_last_42 N S (gg_M_last N S n)
theorem wg_M_last {p : Program} {l : Launch} {e : Env} {R : Room} {s : State} {m : MethodId} {args : Array Value} {below : List Frame} {meth : Method} {c : Code} {D : va_G} {cl : List vw_C} {cB cI cJ cZ cS : ClassId} {A : Nat → Prop} {iM h0 : Nat} {ad : Nat → Nat} (C0 : MCx p s m args meth c b_M_last 3 none D cl cB cI cJ cZ cS iM A) {d : Nat} (hR : R = rg_M_last (d + 1)) (N : Nat) (S : SG_M_last) (hSg : HS_M_last l D cl cB cI cJ cZ cS iM h0 ad (rg_M_last d) S) : ∀ n : Nat, (∀ (u : MS) (v2 : Int32) (x : MS × Unit), gg_M_last N S n u v2 = some x → ∀ (H : Heap) (locs : List Loc), va_P D cl (wM cB cI cJ cZ cS iM h0 ad u) H → va_D A (wM cB cI cJ cZ cS iM h0 ad u) → va_S A s.heap H locs → ∀ (ls : Array Slot), lv_has ls 3 [(0, .ref h0), (2, .int v2)] → W p l e R s m args below meth c H locs 0 0 (MQ below (mQv D cl cB cI cJ cZ cS iM h0 ad A x) args s 0 0 A) (F0 m 42 ls []))
  | 0 => (fun u v2 x hf => by cases hf)
  | n + 1 => wb_M_last_42 C0 hR N S hSg (gg_M_last N S n) (wg_M_last C0 hR N S hSg n)
def fm_M_last (N : Nat) (S : SG_M_last) (u : MS) (v1 : Int32) : Option (MS × Unit) := fb_M_last_0 N S (gg_M_last N S N) u v1
set_option maxRecDepth 100000 in
set_option maxHeartbeats 4000000 in
theorem cs_M_last (N : Nat) {d : Nat} {l : Launch} {D : va_G} {cl : List vw_C} {cB cI cJ cZ cS : ClassId} {iM h0 : Nat} {ad : Nat → Nat} {u : MS} {sz : Nat} {v1 : Int32} {x : MS × Unit} (hM : cl[iM]? = some (R_M, F_M, 171)) (S : SG_M_last) (hSg : HS_M_last l D cl cB cI cJ cZ cS iM h0 ad (rg_M_last d) S) (hf : fm_M_last N S u v1 = some x) : Met l y_M_last (wd_ws y_M_last b_M_last 3 none) (rg_M_last (d + 1)) (mPc D cl cB cI cJ cZ cS iM h0 ad u sz [.ref h0, .int v1]) (mQv D cl cB cI cJ cZ cS iM h0 ad (mA cB cI cJ cZ cS iM h0 ad u sz) x) 0 0 (mA cB cI cJ cZ cS iM h0 ad u sz) :=
  mMet (by decide) rfl hM (Nat.le_of_ble_eq_true rfl) (fun p e s m below meth c ls hsz C0 hP hD hS hl => by
    have hR : (rg_M_last (d + 1)) = (rg_M_last (d + 1)) := rfl
    exact wb_M_last_0 C0 hR N S hSg (gg_M_last N S N) (wg_M_last C0 hR N S hSg N) u _ x hf s.heap [] hP hD hS ls (lv_sub hl [0, 1] rfl))
def rc_M_last (N : Nat) : Nat → (SG_M_last)
  | 0 => fun _ _ => none
  | d + 1 => fm_M_last N (rc_M_last N d)
theorem cg_M_last (N : Nat) {l : Launch} {D : va_G} {cl : List vw_C} {cB cI cJ cZ cS : ClassId} {iM h0 : Nat} {ad : Nat → Nat} (hM : cl[iM]? = some (R_M, F_M, 171)) : ∀ d : Nat, HS_M_last l D cl cB cI cJ cZ cS iM h0 ad (rg_M_last d) (rc_M_last N d)
  | 0 => (fun u _ x sz hf => by cases hf)
  | d + 1 => (fun u _ x sz hf => cs_M_last N hM (rc_M_last N d) (cg_M_last N hM d) hf)
def fr_M_last (N : Nat) (u : MS) (v1 : Int32) : Option (MS × Unit) := (rc_M_last N 60) u v1
def rm_M_last : Room := rg_M_last 60
theorem c_M_last (N : Nat) {l : Launch} {D : va_G} {cl : List vw_C} {cB cI cJ cZ cS : ClassId} {iM h0 : Nat} {ad : Nat → Nat} {u : MS} {sz : Nat} {v1 : Int32} {x : MS × Unit} (hM : cl[iM]? = some (R_M, F_M, 171)) (hf : fr_M_last N u v1 = some x) : Met l y_M_last (wd_ws y_M_last b_M_last 3 none) rm_M_last (mPc D cl cB cI cJ cZ cS iM h0 ad u sz [.ref h0, .int v1]) (mQv D cl cB cI cJ cZ cS iM h0 ad (mA cB cI cJ cZ cS iM h0 ad u sz) x) 0 0 (mA cB cI cJ cZ cS iM h0 ad u sz) := (cg_M_last N hM 60) _ _ _ _ hf
