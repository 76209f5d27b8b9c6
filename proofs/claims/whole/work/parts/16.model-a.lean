theorem tiN {x k : Int32} (h : ¬ x = k) : x.toInt ≠ k.toInt := fun z => h (Int32.toInt_inj.mp z)
abbrev b_M_thrown : ByteArray := prog_14_method_2_code
def y_M_thrown : MethodName := ⟨R_M, "thrown", "()I"⟩
def w_M_thrown : List Cond := wd_ws y_M_thrown b_M_thrown 1 (some .int)
set_option maxRecDepth 100000 in
theorem k_M_thrown : Cond.code y_M_thrown b_M_thrown 1 (some .int) ∈ wd_tbl := wd_of 2623 rfl rfl
theorem d_M_thrown_0 : decode b_M_thrown 0 = .ok (.aload_n 0, 1) := by decide +kernel
theorem d_M_thrown_1 : decode b_M_thrown 1 = .ok (.getfield 369, 3) := by decide +kernel
theorem d_M_thrown_4 : decode b_M_thrown 4 = .ok (.ireturn, 1) := by decide +kernel
def rm_M_thrown : Room := { frames := 0, cells := 0, slots := 0, locals := 0 }
def fb_M_thrown_0 (N : Nat) (G : Unit) (u : MS) : Option (MS × Int32) := some (u, (u.1 3))
set_option maxRecDepth 100000 in
set_option maxHeartbeats 4000000 in
theorem wb_M_thrown_0 {p : Program} {l : Launch} {e : Env} {R : Room} {s : State} {m : MethodId} {args : Array Value} {below : List Frame} {meth : Method} {c : Code} {D : va_G} {cl : List vw_C} {cB cI cJ cZ cS : ClassId} {A : Nat → Prop} {iM h0 : Nat} {ad : Nat → Nat} (C0 : MCx p s m args meth c b_M_thrown 1 (some .int) D cl cB cI cJ cZ cS iM A) (hR : R = rm_M_thrown) (N : Nat) (G : Unit) (hG : True) : ∀ (u : MS) (x : MS × Int32), fb_M_thrown_0 N G u = some x → ∀ (H : Heap) (locs : List Loc), va_P D cl (wM cB cI cJ cZ cS iM h0 ad u) H → va_D A (wM cB cI cJ cZ cS iM h0 ad u) → va_S A s.heap H locs → ∀ (ls : Array Slot), lv_has ls 1 [(0, .ref h0)] → W p l e R s m args below meth c H locs 0 0 (MQ below (mQi D cl cB cI cJ cZ cS iM h0 ad A x) args s 0 0 A) (F0 m 0 ls []) := by
  intro u x hf H locs hP hD hS ls hl
  obtain ⟨hx, hb, hr, hml, ht, hown, hM, hK, hA, hlocks⟩ := id C0
  unfold fb_M_thrown_0 at hf
  refine lv_aload_n hx hb d_M_thrown_0 rfl (lv_at hl 0 rfl) ?_
  refine ug_I hx hb ht hown hM hK hP 3 (by decide) lk_M_3 (by decide) d_M_thrown_1 ?_
  exact mr_i C0 hP hD hS hf d_M_thrown_4
def fm_M_thrown (N : Nat) (u : MS) : Option (MS × Int32) := fb_M_thrown_0 N () u
set_option maxRecDepth 100000 in
set_option maxHeartbeats 4000000 in
theorem c_M_thrown (N : Nat) {l : Launch} {D : va_G} {cl : List vw_C} {cB cI cJ cZ cS : ClassId} {iM h0 : Nat} {ad : Nat → Nat} {u : MS} {sz : Nat} {x : MS × Int32} (hM : cl[iM]? = some (R_M, F_M, 171)) (hf : fm_M_thrown N u = some x) : Met l y_M_thrown (wd_ws y_M_thrown b_M_thrown 1 (some .int)) rm_M_thrown (mPc D cl cB cI cJ cZ cS iM h0 ad u sz [.ref h0]) (mQi D cl cB cI cJ cZ cS iM h0 ad (mA cB cI cJ cZ cS iM h0 ad u sz) x) 0 0 (mA cB cI cJ cZ cS iM h0 ad u sz) :=
  mMet (by decide) rfl hM (Nat.le_of_ble_eq_true rfl) (fun p e s m below meth c ls hsz C0 hP hD hS hl => by
    have hR : rm_M_thrown = rm_M_thrown := rfl
    exact wb_M_thrown_0 C0 hR N () trivial u x hf s.heap [] hP hD hS ls (lv_sub hl [0] rfl))
abbrev b_M_back : ByteArray := prog_14_method_4_code
def y_M_back : MethodName := ⟨R_M, "back", "(I)I"⟩
def w_M_back : List Cond := wd_ws y_M_back b_M_back 2 (some .int)
set_option maxRecDepth 100000 in
theorem k_M_back : Cond.code y_M_back b_M_back 2 (some .int) ∈ wd_tbl := wd_of 2631 rfl rfl
theorem d_M_back_0 : decode b_M_back 0 = .ok (.aload_n 0, 1) := by decide +kernel
theorem d_M_back_1 : decode b_M_back 1 = .ok (.iconst 0, 1) := by decide +kernel
theorem d_M_back_2 : decode b_M_back 2 = .ok (.putfield 369, 3) := by decide +kernel
theorem d_M_back_5 : decode b_M_back 5 = .ok (.iload_n 1, 1) := by decide +kernel
theorem d_M_back_6 : decode b_M_back 6 = .ok (.ifCond .lt 11, 3) := by decide +kernel
theorem d_M_back_9 : decode b_M_back 9 = .ok (.iload_n 1, 1) := by decide +kernel
theorem d_M_back_10 : decode b_M_back 10 = .ok (.aload_n 0, 1) := by decide +kernel
theorem d_M_back_11 : decode b_M_back 11 = .ok (.getfield 372, 3) := by decide +kernel
theorem d_M_back_14 : decode b_M_back 14 = .ok (.if_icmp .le 5, 3) := by decide +kernel
theorem d_M_back_17 : decode b_M_back 17 = .ok (.iconst (-1), 1) := by decide +kernel
theorem d_M_back_18 : decode b_M_back 18 = .ok (.ireturn, 1) := by decide +kernel
theorem d_M_back_19 : decode b_M_back 19 = .ok (.aload_n 0, 1) := by decide +kernel
theorem d_M_back_20 : decode b_M_back 20 = .ok (.dup, 1) := by decide +kernel
theorem d_M_back_21 : decode b_M_back 21 = .ok (.getfield 372, 3) := by decide +kernel
theorem d_M_back_24 : decode b_M_back 24 = .ok (.iload_n 1, 1) := by decide +kernel
theorem d_M_back_25 : decode b_M_back 25 = .ok (.isub, 1) := by decide +kernel
theorem d_M_back_26 : decode b_M_back 26 = .ok (.putfield 372, 3) := by decide +kernel
theorem d_M_back_29 : decode b_M_back 29 = .ok (.aload_n 0, 1) := by decide +kernel
theorem d_M_back_30 : decode b_M_back 30 = .ok (.getfield 372, 3) := by decide +kernel
theorem d_M_back_33 : decode b_M_back 33 = .ok (.ireturn, 1) := by decide +kernel
def rm_M_back : Room := { frames := 0, cells := 0, slots := 0, locals := 0 }
def fb_M_back_17 (N : Nat) (G : Unit) (u : MS) : Option (MS × Int32) := some (u, (-1))
set_option maxRecDepth 100000 in
set_option maxHeartbeats 4000000 in
theorem wb_M_back_17 {p : Program} {l : Launch} {e : Env} {R : Room} {s : State} {m : MethodId} {args : Array Value} {below : List Frame} {meth : Method} {c : Code} {D : va_G} {cl : List vw_C} {cB cI cJ cZ cS : ClassId} {A : Nat → Prop} {iM h0 : Nat} {ad : Nat → Nat} (C0 : MCx p s m args meth c b_M_back 2 (some .int) D cl cB cI cJ cZ cS iM A) (hR : R = rm_M_back) (N : Nat) (G : Unit) (hG : True) : ∀ (u : MS) (x : MS × Int32), fb_M_back_17 N G u = some x → ∀ (H : Heap) (locs : List Loc), va_P D cl (wM cB cI cJ cZ cS iM h0 ad u) H → va_D A (wM cB cI cJ cZ cS iM h0 ad u) → va_S A s.heap H locs → ∀ (ls : Array Slot), lv_has ls 2 [] → W p l e R s m args below meth c H locs 0 0 (MQ below (mQi D cl cB cI cJ cZ cS iM h0 ad A x) args s 0 0 A) (F0 m 17 ls []) := by
  intro u x hf H locs hP hD hS ls hl
  obtain ⟨hx, hb, hr, hml, ht, hown, hM, hK, hA, hlocks⟩ := id C0
  unfold fb_M_back_17 at hf
  refine lv_iconst (v := (-1)) hx hb d_M_back_17 (by decide) ?_
  exact mr_i C0 hP hD hS hf d_M_back_18
def fb_M_back_0 (N : Nat) (G : Unit) (u : MS) (v1 : Int32) : Option (MS × Int32) := br (decide (v1 < 0)) (fb_M_back_17 N G (upI u 3 0)) (br (decide (v1 ≤ ((upI u 3 0).1 5))) (some ((upI (upI u 3 0) 5 (((upI u 3 0).1 5) - v1)), ((upI (upI u 3 0) 5 (((upI u 3 0).1 5) - v1)).1 5))) (fb_M_back_17 N G (upI u 3 0)))
set_option maxRecDepth 100000 in
set_option maxHeartbeats 4000000 in
theorem wb_M_back_0 {p : Program} {l : Launch} {e : Env} {R : Room} {s : State} {m : MethodId} {args : Array Value} {below : List Frame} {meth : Method} {c : Code} {D : va_G} {cl : List vw_C} {cB cI cJ cZ cS : ClassId} {A : Nat → Prop} {iM h0 : Nat} {ad : Nat → Nat} (C0 : MCx p s m args meth c b_M_back 2 (some .int) D cl cB cI cJ cZ cS iM A) (hR : R = rm_M_back) (N : Nat) (G : Unit) (hG : True) : ∀ (u : MS) (v1 : Int32) (x : MS × Int32), fb_M_back_0 N G u v1 = some x → ∀ (H : Heap) (locs : List Loc), va_P D cl (wM cB cI cJ cZ cS iM h0 ad u) H → va_D A (wM cB cI cJ cZ cS iM h0 ad u) → va_S A s.heap H locs → ∀ (ls : Array Slot), lv_has ls 2 [(0, .ref h0), (1, .int v1)] → W p l e R s m args below meth c H locs 0 0 (MQ below (mQi D cl cB cI cJ cZ cS iM h0 ad A x) args s 0 0 A) (F0 m 0 ls []) := by
  intro u v1 x hf H locs hP hD hS ls hl
  obtain ⟨hx, hb, hr, hml, ht, hown, hM, hK, hA, hlocks⟩ := id C0
  unfold fb_M_back_0 at hf
  refine lv_aload_n hx hb d_M_back_0 rfl (lv_at hl 0 rfl) ?_
  refine lv_iconst (v := 0) hx hb d_M_back_1 (by decide) ?_
  refine up_I hx hb ht hown hM hK hP hD hS 3 (by decide) lk_M_3 (by decide) rfl rfl rfl d_M_back_2 (fun H locs hP hD hS => ?_)
  refine lv_iload_n hx hb d_M_back_5 rfl (lv_at hl 1 rfl) ?_
  refine lv_if_lt (tgt := 17) hx hb d_M_back_6 (by decide) (fun hc => ?_) (fun hc => ?_)
  · rw [br_p _ hc] at hf
    exact wb_M_back_17 C0 hR N G hG _ _ hf H locs hP hD hS ls (lv_sub hl [] rfl)
  · rw [br_n _ hc] at hf
    refine lv_iload_n hx hb d_M_back_9 rfl (lv_at hl 1 rfl) ?_
    refine lv_aload_n hx hb d_M_back_10 rfl (lv_at hl 0 rfl) ?_
    refine ug_I hx hb ht hown hM hK hP 5 (by decide) lk_M_5 (by decide) d_M_back_11 ?_
    refine lv_icmp_le (tgt := 19) hx hb d_M_back_14 (by decide) (fun hc => ?_) (fun hc => ?_)
    · rw [br_p _ hc] at hf
      refine lv_aload_n hx hb d_M_back_19 rfl (lv_at hl 0 rfl) ?_
      refine lv_dup hx hb d_M_back_20 rfl ?_
      refine ug_I hx hb ht hown hM hK hP 5 (by decide) lk_M_5 (by decide) d_M_back_21 ?_
      refine lv_iload_n hx hb d_M_back_24 rfl (lv_at hl 1 rfl) ?_
      refine lv_isub hx hb d_M_back_25 ?_
      refine up_I hx hb ht hown hM hK hP hD hS 5 (by decide) lk_M_5 (by decide) rfl rfl rfl d_M_back_26 (fun H locs hP hD hS => ?_)
      refine lv_aload_n hx hb d_M_back_29 rfl (lv_at hl 0 rfl) ?_
      refine ug_I hx hb ht hown hM hK hP 5 (by decide) lk_M_5 (by decide) d_M_back_30 ?_
      exact mr_i C0 hP hD hS hf d_M_back_33
    · rw [br_n _ hc] at hf
      exact wb_M_back_17 C0 hR N G hG _ _ hf H locs hP hD hS ls (lv_sub hl [] rfl)
def fm_M_back (N : Nat) (u : MS) (v1 : Int32) : Option (MS × Int32) := fb_M_back_0 N () u v1
set_option maxRecDepth 100000 in
set_option maxHeartbeats 4000000 in
theorem c_M_back (N : Nat) {l : Launch} {D : va_G} {cl : List vw_C} {cB cI cJ cZ cS : ClassId} {iM h0 : Nat} {ad : Nat → Nat} {u : MS} {sz : Nat} {v1 : Int32} {x : MS × Int32} (hM : cl[iM]? = some (R_M, F_M, 171)) (hf : fm_M_back N u v1 = some x) : Met l y_M_back (wd_ws y_M_back b_M_back 2 (some .int)) rm_M_back (mPc D cl cB cI cJ cZ cS iM h0 ad u sz [.ref h0, .int v1]) (mQi D cl cB cI cJ cZ cS iM h0 ad (mA cB cI cJ cZ cS iM h0 ad u sz) x) 0 0 (mA cB cI cJ cZ cS iM h0 ad u sz) :=
  mMet (by decide) rfl hM (Nat.le_of_ble_eq_true rfl) (fun p e s m below meth c ls hsz C0 hP hD hS hl => by
    have hR : rm_M_back = rm_M_back := rfl
    exact wb_M_back_0 C0 hR N () trivial u _ x hf s.heap [] hP hD hS ls (lv_sub hl [0, 1] rfl))
abbrev b_M_isProcess : ByteArray := prog_14_method_161_code
def y_M_isProcess : MethodName := ⟨R_M, "isProcess", "(I)Z"⟩
def w_M_isProcess : List Cond := wd_ws y_M_isProcess b_M_isProcess 2 (some .boolean)
set_option maxRecDepth 100000 in
theorem k_M_isProcess : Cond.code y_M_isProcess b_M_isProcess 2 (some .boolean) ∈ wd_tbl := wd_of 2905 rfl rfl
theorem d_M_isProcess_0 : decode b_M_isProcess 0 = .ok (.aload_n 0, 1) := by decide +kernel
theorem d_M_isProcess_1 : decode b_M_isProcess 1 = .ok (.getfield 657, 3) := by decide +kernel
theorem d_M_isProcess_4 : decode b_M_isProcess 4 = .ok (.ifCond .eq 19, 3) := by decide +kernel
theorem d_M_isProcess_7 : decode b_M_isProcess 7 = .ok (.iload_n 1, 1) := by decide +kernel
theorem d_M_isProcess_8 : decode b_M_isProcess 8 = .ok (.ifCond .lt 15, 3) := by decide +kernel
theorem d_M_isProcess_11 : decode b_M_isProcess 11 = .ok (.iload_n 1, 1) := by decide +kernel
theorem d_M_isProcess_12 : decode b_M_isProcess 12 = .ok (.aload_n 0, 1) := by decide +kernel
theorem d_M_isProcess_13 : decode b_M_isProcess 13 = .ok (.getfield 989, 3) := by decide +kernel
theorem d_M_isProcess_16 : decode b_M_isProcess 16 = .ok (.if_icmp .ge 7, 3) := by decide +kernel
theorem d_M_isProcess_19 : decode b_M_isProcess 19 = .ok (.iconst 1, 1) := by decide +kernel
theorem d_M_isProcess_20 : decode b_M_isProcess 20 = .ok (.goto 4, 3) := by decide +kernel
theorem d_M_isProcess_23 : decode b_M_isProcess 23 = .ok (.iconst 0, 1) := by decide +kernel
theorem d_M_isProcess_24 : decode b_M_isProcess 24 = .ok (.ireturn, 1) := by decide +kernel
def rm_M_isProcess : Room := { frames := 0, cells := 0, slots := 0, locals := 0 }
def fb_M_isProcess_24 (N : Nat) (G : Unit) (u : MS) (t0 : Int32) : Option (MS × Int32) := ck (isb t0) (some (u, t0))
set_option maxRecDepth 100000 in
set_option maxHeartbeats 4000000 in
theorem wb_M_isProcess_24 {p : Program} {l : Launch} {e : Env} {R : Room} {s : State} {m : MethodId} {args : Array Value} {below : List Frame} {meth : Method} {c : Code} {D : va_G} {cl : List vw_C} {cB cI cJ cZ cS : ClassId} {A : Nat → Prop} {iM h0 : Nat} {ad : Nat → Nat} (C0 : MCx p s m args meth c b_M_isProcess 2 (some .boolean) D cl cB cI cJ cZ cS iM A) (hR : R = rm_M_isProcess) (N : Nat) (G : Unit) (hG : True) : ∀ (u : MS) (t0 : Int32) (x : MS × Int32), fb_M_isProcess_24 N G u t0 = some x → ∀ (H : Heap) (locs : List Loc), va_P D cl (wM cB cI cJ cZ cS iM h0 ad u) H → va_D A (wM cB cI cJ cZ cS iM h0 ad u) → va_S A s.heap H locs → ∀ (ls : Array Slot), lv_has ls 2 [] → W p l e R s m args below meth c H locs 0 0 (MQ below (mQi D cl cB cI cJ cZ cS iM h0 ad A x) args s 0 0 A) (F0 m 24 ls [.int t0]) := by
  intro u t0 x hf H locs hP hD hS ls hl
  obtain ⟨hx, hb, hr, hml, ht, hown, hM, hK, hA, hlocks⟩ := id C0
  unfold fb_M_isProcess_24 at hf
  obtain ⟨hz, hf⟩ := ck_some hf
  exact mr_z C0 hP hD hS hz hf d_M_isProcess_24
def fb_M_isProcess_23 (N : Nat) (G : Unit) (u : MS) : Option (MS × Int32) := fb_M_isProcess_24 N G u (0)
set_option maxRecDepth 100000 in
set_option maxHeartbeats 4000000 in
theorem wb_M_isProcess_23 {p : Program} {l : Launch} {e : Env} {R : Room} {s : State} {m : MethodId} {args : Array Value} {below : List Frame} {meth : Method} {c : Code} {D : va_G} {cl : List vw_C} {cB cI cJ cZ cS : ClassId} {A : Nat → Prop} {iM h0 : Nat} {ad : Nat → Nat} (C0 : MCx p s m args meth c b_M_isProcess 2 (some .boolean) D cl cB cI cJ cZ cS iM A) (hR : R = rm_M_isProcess) (N : Nat) (G : Unit) (hG : True) : ∀ (u : MS) (x : MS × Int32), fb_M_isProcess_23 N G u = some x → ∀ (H : Heap) (locs : List Loc), va_P D cl (wM cB cI cJ cZ cS iM h0 ad u) H → va_D A (wM cB cI cJ cZ cS iM h0 ad u) → va_S A s.heap H locs → ∀ (ls : Array Slot), lv_has ls 2 [] → W p l e R s m args below meth c H locs 0 0 (MQ below (mQi D cl cB cI cJ cZ cS iM h0 ad A x) args s 0 0 A) (F0 m 23 ls []) := by
  intro u x hf H locs hP hD hS ls hl
  obtain ⟨hx, hb, hr, hml, ht, hown, hM, hK, hA, hlocks⟩ := id C0
  unfold fb_M_isProcess_23 at hf
  refine lv_iconst (v := 0) hx hb d_M_isProcess_23 (by decide) ?_
  exact wb_M_isProcess_24 C0 hR N G hG _ _ _ hf H locs hP hD hS ls (lv_sub hl [] rfl)
def fb_M_isProcess_0 (N : Nat) (G : Unit) (u : MS) (v1 : Int32) : Option (MS × Int32) := br (decide ((u.1 87) = 0)) (fb_M_isProcess_23 N G u) (br (decide (v1 < 0)) (fb_M_isProcess_23 N G u) (br (decide ((u.1 118) ≤ v1)) (fb_M_isProcess_23 N G u) (fb_M_isProcess_24 N G u (1))))
set_option maxRecDepth 100000 in
set_option maxHeartbeats 4000000 in
theorem wb_M_isProcess_0 {p : Program} {l : Launch} {e : Env} {R : Room} {s : State} {m : MethodId} {args : Array Value} {below : List Frame} {meth : Method} {c : Code} {D : va_G} {cl : List vw_C} {cB cI cJ cZ cS : ClassId} {A : Nat → Prop} {iM h0 : Nat} {ad : Nat → Nat} (C0 : MCx p s m args meth c b_M_isProcess 2 (some .boolean) D cl cB cI cJ cZ cS iM A) (hR : R = rm_M_isProcess) (N : Nat) (G : Unit) (hG : True) : ∀ (u : MS) (v1 : Int32) (x : MS × Int32), fb_M_isProcess_0 N G u v1 = some x → ∀ (H : Heap) (locs : List Loc), va_P D cl (wM cB cI cJ cZ cS iM h0 ad u) H → va_D A (wM cB cI cJ cZ cS iM h0 ad u) → va_S A s.heap H locs → ∀ (ls : Array Slot), lv_has ls 2 [(0, .ref h0), (1, .int v1)] → W p l e R s m args below meth c H locs 0 0 (MQ below (mQi D cl cB cI cJ cZ cS iM h0 ad A x) args s 0 0 A) (F0 m 0 ls []) := by
  intro u v1 x hf H locs hP hD hS ls hl
  obtain ⟨hx, hb, hr, hml, ht, hown, hM, hK, hA, hlocks⟩ := id C0
  unfold fb_M_isProcess_0 at hf
  refine lv_aload_n hx hb d_M_isProcess_0 rfl (lv_at hl 0 rfl) ?_
  refine ug_I hx hb ht hown hM hK hP 87 (by decide) lk_M_87 (by decide) d_M_isProcess_1 ?_
  refine lv_if_eq (tgt := 23) hx hb d_M_isProcess_4 (by decide) (fun hc => ?_) (fun hc => ?_)
  · rw [br_p _ hc] at hf
    exact wb_M_isProcess_23 C0 hR N G hG _ _ hf H locs hP hD hS ls (lv_sub hl [] rfl)
  · rw [br_n _ hc] at hf
    refine lv_iload_n hx hb d_M_isProcess_7 rfl (lv_at hl 1 rfl) ?_
    refine lv_if_lt (tgt := 23) hx hb d_M_isProcess_8 (by decide) (fun hc => ?_) (fun hc => ?_)
    · rw [br_p _ hc] at hf
      exact wb_M_isProcess_23 C0 hR N G hG _ _ hf H locs hP hD hS ls (lv_sub hl [] rfl)
    · rw [br_n _ hc] at hf
      refine lv_iload_n hx hb d_M_isProcess_11 rfl (lv_at hl 1 rfl) ?_
      refine lv_aload_n hx hb d_M_isProcess_12 rfl (lv_at hl 0 rfl) ?_
      refine ug_I hx hb ht hown hM hK hP 118 (by decide) lk_M_118 (by decide) d_M_isProcess_13 ?_
      refine lv_icmp_ge (tgt := 23) hx hb d_M_isProcess_16 (by decide) (fun hc => ?_) (fun hc => ?_)
      · rw [br_p _ hc] at hf
        exact wb_M_isProcess_23 C0 hR N G hG _ _ hf H locs hP hD hS ls (lv_sub hl [] rfl)
      · rw [br_n _ hc] at hf
        refine lv_iconst (v := 1) hx hb d_M_isProcess_19 (by decide) ?_
        refine lv_goto (tgt := 24) hx hb d_M_isProcess_20 (by decide) ?_
        exact wb_M_isProcess_24 C0 hR N G hG _ _ _ hf H locs hP hD hS ls (lv_sub hl [] rfl)
def fm_M_isProcess (N : Nat) (u : MS) (v1 : Int32) : Option (MS × Int32) := fb_M_isProcess_0 N () u v1
set_option maxRecDepth 100000 in
set_option maxHeartbeats 4000000 in
theorem c_M_isProcess (N : Nat) {l : Launch} {D : va_G} {cl : List vw_C} {cB cI cJ cZ cS : ClassId} {iM h0 : Nat} {ad : Nat → Nat} {u : MS} {sz : Nat} {v1 : Int32} {x : MS × Int32} (hM : cl[iM]? = some (R_M, F_M, 171)) (hf : fm_M_isProcess N u v1 = some x) : Met l y_M_isProcess (wd_ws y_M_isProcess b_M_isProcess 2 (some .boolean)) rm_M_isProcess (mPc D cl cB cI cJ cZ cS iM h0 ad u sz [.ref h0, .int v1]) (mQi D cl cB cI cJ cZ cS iM h0 ad (mA cB cI cJ cZ cS iM h0 ad u sz) x) 0 0 (mA cB cI cJ cZ cS iM h0 ad u sz) :=
  mMet (by decide) rfl hM (Nat.le_of_ble_eq_true rfl) (fun p e s m below meth c ls hsz C0 hP hD hS hl => by
    have hR : rm_M_isProcess = rm_M_isProcess := rfl
    exact wb_M_isProcess_0 C0 hR N () trivial u _ x hf s.heap [] hP hD hS ls (lv_sub hl [0, 1] rfl))
