abbrev b_M_lengthOf : ByteArray := prog_14_method_144_code
def y_M_lengthOf : MethodName := ⟨R_M, "lengthOf", "(J)I"⟩
def w_M_lengthOf : List Cond := wd_ws y_M_lengthOf b_M_lengthOf 6 (some .int)
set_option maxRecDepth 100000 in
theorem k_M_lengthOf : Cond.code y_M_lengthOf b_M_lengthOf 6 (some .int) ∈ wd_tbl := wd_of 3089 rfl rfl
theorem d_M_lengthOf_0 : decode b_M_lengthOf 0 = .ok (.lload_n 1, 1) := by decide +kernel
theorem d_M_lengthOf_1 : decode b_M_lengthOf 1 = .ok (.lstore_n 3, 1) := by decide +kernel
theorem d_M_lengthOf_2 : decode b_M_lengthOf 2 = .ok (.iconst 0, 1) := by decide +kernel
theorem d_M_lengthOf_3 : decode b_M_lengthOf 3 = .ok (.istore 5, 2) := by decide +kernel
theorem d_M_lengthOf_5 : decode b_M_lengthOf 5 = .ok (.lload_n 3, 1) := by decide +kernel
theorem d_M_lengthOf_6 : decode b_M_lengthOf 6 = .ok (.invokestatic 676, 3) := by decide +kernel
theorem d_M_lengthOf_9 : decode b_M_lengthOf 9 = .ok (.bipush 7, 2) := by decide +kernel
theorem d_M_lengthOf_11 : decode b_M_lengthOf 11 = .ok (.if_icmp .ne 24, 3) := by decide +kernel
theorem d_M_lengthOf_14 : decode b_M_lengthOf 14 = .ok (.aload_n 0, 1) := by decide +kernel
theorem d_M_lengthOf_15 : decode b_M_lengthOf 15 = .ok (.aload_n 0, 1) := by decide +kernel
theorem d_M_lengthOf_16 : decode b_M_lengthOf 16 = .ok (.getfield 669, 3) := by decide +kernel
theorem d_M_lengthOf_19 : decode b_M_lengthOf 19 = .ok (.lload_n 3, 1) := by decide +kernel
theorem d_M_lengthOf_20 : decode b_M_lengthOf 20 = .ok (.invokestatic 680, 3) := by decide +kernel
theorem d_M_lengthOf_23 : decode b_M_lengthOf 23 = .ok (.iconst 1, 1) := by decide +kernel
theorem d_M_lengthOf_24 : decode b_M_lengthOf 24 = .ok (.iadd, 1) := by decide +kernel
theorem d_M_lengthOf_25 : decode b_M_lengthOf 25 = .ok (.invokevirtual 683, 3) := by decide +kernel
theorem d_M_lengthOf_28 : decode b_M_lengthOf 28 = .ok (.lstore_n 3, 1) := by decide +kernel
theorem d_M_lengthOf_29 : decode b_M_lengthOf 29 = .ok (.iinc 5 1, 3) := by decide +kernel
theorem d_M_lengthOf_32 : decode b_M_lengthOf 32 = .ok (.goto (-27), 3) := by decide +kernel
theorem d_M_lengthOf_35 : decode b_M_lengthOf 35 = .ok (.lload_n 3, 1) := by decide +kernel
theorem d_M_lengthOf_36 : decode b_M_lengthOf 36 = .ok (.invokestatic 676, 3) := by decide +kernel
theorem d_M_lengthOf_39 : decode b_M_lengthOf 39 = .ok (.bipush 6, 2) := by decide +kernel
theorem d_M_lengthOf_41 : decode b_M_lengthOf 41 = .ok (.if_icmp .ne 8, 3) := by decide +kernel
theorem d_M_lengthOf_44 : decode b_M_lengthOf 44 = .ok (.iload 5, 2) := by decide +kernel
theorem d_M_lengthOf_46 : decode b_M_lengthOf 46 = .ok (.goto 4, 3) := by decide +kernel
theorem d_M_lengthOf_49 : decode b_M_lengthOf 49 = .ok (.iconst (-1), 1) := by decide +kernel
theorem d_M_lengthOf_50 : decode b_M_lengthOf 50 = .ok (.ireturn, 1) := by decide +kernel
set_option maxRecDepth 100000 in
theorem hl_M_lengthOf : Cond.methodLink R_M 980 y_M_lengthOf ∈ wd_tbl := wd_of 3086 (by decide +kernel) rfl
set_option maxRecDepth 100000 in
theorem hi_M_lengthOf : Cond.instanceMethod y_M_lengthOf ∈ wd_tbl := wd_of 3088 (by decide +kernel) rfl
set_option maxRecDepth 100000 in
theorem hs_M_lengthOf : Cond.selects R_M y_M_lengthOf y_M_lengthOf ∈ wd_tbl := wd_of 227 (by decide +kernel) rfl
theorem hd_M_lengthOf : y_M_lengthOf.cls = R_M ∧ y_M_lengthOf.cls ≠ "java/lang/invoke/MethodHandle" ∧ y_M_lengthOf.cls ≠ "java/lang/invoke/VarHandle" ∧ (parseMethodDescriptor y_M_lengthOf.desc).map (fun d => d.parameters.length) = some 1 := by decide +kernel
def rm_M_lengthOf : Room := { frames := 1, cells := 0, slots := 0, locals := 22 }
theorem rm_M_lengthOf_M_sortOf {R : Room} (hR : R = rm_M_lengthOf) : (rm_M_sortOf).frames + 1 ≤ R.frames ∧ 8 + (2 + 11) + (rm_M_sortOf).locals ≤ R.locals := by subst hR; decide
theorem rm_M_lengthOf_M_valueOf {R : Room} (hR : R = rm_M_lengthOf) : (rm_M_valueOf).frames + 1 ≤ R.frames ∧ 8 + (2 + 11) + (rm_M_valueOf).locals ≤ R.locals := by subst hR; decide
theorem rm_M_lengthOf_M_cell {R : Room} (hR : R = rm_M_lengthOf) : (rm_M_cell).frames + 1 ≤ R.frames ∧ 8 + (3 + 11) + (rm_M_cell).locals ≤ R.locals := by subst hR; decide
def fb_M_lengthOf_50 (N : Nat) (G : (MS → Int64 → Int32 → Option (MS × Int32))) (u : MS) (t0 : Int32) : Option (MS × Int32) := some (u, t0)
set_option maxRecDepth 100000 in
set_option maxHeartbeats 4000000 in
theorem wb_M_lengthOf_50 {p : Program} {l : Launch} {e : Env} {R : Room} {s : State} {m : MethodId} {args : Array Value} {below : List Frame} {meth : Method} {c : Code} {D : va_G} {cl : List vw_C} {cB cI cJ cZ cS : ClassId} {A : Nat → Prop} {iM h0 : Nat} {ad : Nat → Nat} (C0 : MCx p s m args meth c b_M_lengthOf 6 (some .int) D cl cB cI cJ cZ cS iM A) (hR : R = rm_M_lengthOf) (N : Nat) (G : (MS → Int64 → Int32 → Option (MS × Int32))) (hG : (∀ (u : MS) (v3 : Int64) (v5 : Int32) (x : MS × Int32), G u v3 v5 = some x → ∀ (H : Heap) (locs : List Loc), va_P D cl (wM cB cI cJ cZ cS iM h0 ad u) H → va_D A (wM cB cI cJ cZ cS iM h0 ad u) → va_S A s.heap H locs → ∀ (ls : Array Slot), lv_has ls 6 [(0, .ref h0), (3, .long v3), (5, .int v5)] → W p l e R s m args below meth c H locs 0 0 (MQ below (mQi D cl cB cI cJ cZ cS iM h0 ad A x) args s 0 0 A) (F0 m 5 ls []))) : ∀ (u : MS) (t0 : Int32) (x : MS × Int32), fb_M_lengthOf_50 N G u t0 = some x → ∀ (H : Heap) (locs : List Loc), va_P D cl (wM cB cI cJ cZ cS iM h0 ad u) H → va_D A (wM cB cI cJ cZ cS iM h0 ad u) → va_S A s.heap H locs → ∀ (ls : Array Slot), lv_has ls 6 [] → W p l e R s m args below meth c H locs 0 0 (MQ below (mQi D cl cB cI cJ cZ cS iM h0 ad A x) args s 0 0 A) (F0 m 50 ls [.int t0]) := by
  intro u t0 x hf H locs hP hD hS ls hl
  obtain ⟨hx, hb, hr, hml, ht, hown, hM, hK, hA, hlocks⟩ := id C0
  unfold fb_M_lengthOf_50 at hf
  exact mr_i C0 hP hD hS hf d_M_lengthOf_50
def fb_M_lengthOf_5 (N : Nat) (G : (MS → Int64 → Int32 → Option (MS × Int32))) (u : MS) (v3 : Int64) (v5 : Int32) : Option (MS × Int32) := bnd (fm_M_sortOf N u v3) (fun u1 r1 => br (decide (r1 = 7)) (bnd (fm_M_valueOf N u1 v3) (fun u3 r3 => bnd (fm_M_cell N u3 (u1.1 133) (r3 + 1)) (fun u4 r4 => G u4 (r4) ((v5 + 1))))) (bnd (fm_M_sortOf N u1 v3) (fun u2 r2 => br (decide (r2 = 6)) (fb_M_lengthOf_50 N G u2 (v5)) (fb_M_lengthOf_50 N G u2 ((-1))))))
set_option maxRecDepth 100000 in
set_option maxHeartbeats 4000000 in
theorem wb_M_lengthOf_5 {p : Program} {l : Launch} {e : Env} {R : Room} {s : State} {m : MethodId} {args : Array Value} {below : List Frame} {meth : Method} {c : Code} {D : va_G} {cl : List vw_C} {cB cI cJ cZ cS : ClassId} {A : Nat → Prop} {iM h0 : Nat} {ad : Nat → Nat} (C0 : MCx p s m args meth c b_M_lengthOf 6 (some .int) D cl cB cI cJ cZ cS iM A) (hR : R = rm_M_lengthOf) (N : Nat) (G : (MS → Int64 → Int32 → Option (MS × Int32))) (hG : (∀ (u : MS) (v3 : Int64) (v5 : Int32) (x : MS × Int32), G u v3 v5 = some x → ∀ (H : Heap) (locs : List Loc), va_P D cl (wM cB cI cJ cZ cS iM h0 ad u) H → va_D A (wM cB cI cJ cZ cS iM h0 ad u) → va_S A s.heap H locs → ∀ (ls : Array Slot), lv_has ls 6 [(0, .ref h0), (3, .long v3), (5, .int v5)] → W p l e R s m args below meth c H locs 0 0 (MQ below (mQi D cl cB cI cJ cZ cS iM h0 ad A x) args s 0 0 A) (F0 m 5 ls []))) : ∀ (u : MS) (v3 : Int64) (v5 : Int32) (x : MS × Int32), fb_M_lengthOf_5 N G u v3 v5 = some x → ∀ (H : Heap) (locs : List Loc), va_P D cl (wM cB cI cJ cZ cS iM h0 ad u) H → va_D A (wM cB cI cJ cZ cS iM h0 ad u) → va_S A s.heap H locs → ∀ (ls : Array Slot), lv_has ls 6 [(0, .ref h0), (3, .long v3), (5, .int v5)] → W p l e R s m args below meth c H locs 0 0 (MQ below (mQi D cl cB cI cJ cZ cS iM h0 ad A x) args s 0 0 A) (F0 m 5 ls []) := by
  intro u v3 v5 x hf H locs hP hD hS ls hl
  obtain ⟨hx, hb, hr, hml, ht, hown, hM, hK, hA, hlocks⟩ := id C0
  unfold fb_M_lengthOf_5 at hf
  refine lv_lload_n hx hb d_M_lengthOf_5 rfl (lv_at hl 1 rfl) ?_
  obtain ⟨u1, r1, hc1, hf⟩ := bnd_some hf
  refine mS_i (As := [.long v3]) (rest := []) C0 hP hD hS (c_M_sortOf N hM hc1) k_M_sortOf hl_M_sortOf ht_M_sortOf hini_M rfl rfl hd_M_sortOf rfl (rm_M_lengthOf_M_sortOf hR) hl.1 (Nat.le_of_ble_eq_true rfl) d_M_lengthOf_6 rfl ⟨Nat.zero_le _, Nat.zero_le _⟩ (fun H locs hP hD hS => ?_)
  refine lv_bipush (v := 7) hx hb d_M_lengthOf_9 (by decide) ?_
  refine lv_icmp_ne (tgt := 35) hx hb d_M_lengthOf_11 (by decide) (fun hc => ?_) (fun hc => ?_)
  · rw [br_n _ hc] at hf
    refine lv_lload_n hx hb d_M_lengthOf_35 rfl (lv_at hl 1 rfl) ?_
    obtain ⟨u2, r2, hc2, hf⟩ := bnd_some hf
    refine mS_i (As := [.long v3]) (rest := []) C0 hP hD hS (c_M_sortOf N hM hc2) k_M_sortOf hl_M_sortOf ht_M_sortOf hini_M rfl rfl hd_M_sortOf rfl (rm_M_lengthOf_M_sortOf hR) hl.1 (Nat.le_of_ble_eq_true rfl) d_M_lengthOf_36 rfl ⟨Nat.zero_le _, Nat.zero_le _⟩ (fun H locs hP hD hS => ?_)
    refine lv_bipush (v := 6) hx hb d_M_lengthOf_39 (by decide) ?_
    refine lv_icmp_ne (tgt := 49) hx hb d_M_lengthOf_41 (by decide) (fun hc => ?_) (fun hc => ?_)
    · rw [br_n _ hc] at hf
      refine lv_iconst (v := (-1)) hx hb d_M_lengthOf_49 (by decide) ?_
      exact wb_M_lengthOf_50 C0 hR N G hG _ _ _ hf H locs hP hD hS ls (lv_sub hl [] rfl)
    · rw [br_p _ hc] at hf
      refine lv_iload hx hb d_M_lengthOf_44 (lv_at hl 2 rfl) ?_
      refine lv_goto (tgt := 50) hx hb d_M_lengthOf_46 (by decide) ?_
      exact wb_M_lengthOf_50 C0 hR N G hG _ _ _ hf H locs hP hD hS ls (lv_sub hl [] rfl)
  · rw [br_p _ hc] at hf
    refine lv_aload_n hx hb d_M_lengthOf_14 rfl (lv_at hl 0 rfl) ?_
    refine lv_aload_n hx hb d_M_lengthOf_15 rfl (lv_at hl 0 rfl) ?_
    refine ug_I hx hb ht hown hM hK hP 133 (by decide) lk_M_133 (by decide) d_M_lengthOf_16 ?_
    refine lv_lload_n hx hb d_M_lengthOf_19 rfl (lv_at hl 1 rfl) ?_
    obtain ⟨u3, r3, hc3, hf⟩ := bnd_some hf
    refine mS_i (As := [.long v3]) (rest := [.int (u1.1 133), .ref h0]) C0 hP hD hS (c_M_valueOf N hM hc3) k_M_valueOf hl_M_valueOf ht_M_valueOf hini_M rfl rfl hd_M_valueOf rfl (rm_M_lengthOf_M_valueOf hR) hl.1 (Nat.le_of_ble_eq_true rfl) d_M_lengthOf_20 rfl ⟨Nat.zero_le _, Nat.zero_le _⟩ (fun H locs hP hD hS => ?_)
    refine lv_iconst (v := 1) hx hb d_M_lengthOf_23 (by decide) ?_
    refine lv_iadd hx hb d_M_lengthOf_24 ?_
    obtain ⟨u4, r4, hc4, hf⟩ := bnd_some hf
    refine mV_l (As := [.int (u1.1 133), .int (r3 + 1)]) (rest := []) C0 hP hD hS (c_M_cell N hM hc4) k_M_cell hl_M_cell hi_M_cell hs_M_cell hini_M rfl rfl hd_M_cell rfl (rm_M_lengthOf_M_cell hR) hl.1 (Nat.le_of_ble_eq_true rfl) d_M_lengthOf_25 rfl ⟨Nat.zero_le _, Nat.zero_le _⟩ (fun H locs hP hD hS => ?_)
    refine lv_lstore_n (lv' := [(3, .long r4), (0, .ref h0), (5, .int v5)]) hx hb d_M_lengthOf_28 rfl hl (by decide) rfl (fun ls hl => ?_)
    refine lv_iinc (v := (v5 + 1)) (lv' := [(5, .int (v5 + 1)), (3, .long r4), (0, .ref h0)]) hx hb d_M_lengthOf_29 hl (k := 2) rfl rfl (by decide) rfl (fun ls hl => ?_)
    refine lv_goto (tgt := 5) hx hb d_M_lengthOf_32 (by decide) ?_
    exact hG _ _ _ _ hf H locs hP hD hS ls (lv_sub hl [2, 1, 0] rfl)
def fb_M_lengthOf_0 (N : Nat) (G : (MS → Int64 → Int32 → Option (MS × Int32))) (u : MS) (v1 : Int64) : Option (MS × Int32) := G u (v1) (0)
set_option maxRecDepth 100000 in
set_option maxHeartbeats 4000000 in
theorem wb_M_lengthOf_0 {p : Program} {l : Launch} {e : Env} {R : Room} {s : State} {m : MethodId} {args : Array Value} {below : List Frame} {meth : Method} {c : Code} {D : va_G} {cl : List vw_C} {cB cI cJ cZ cS : ClassId} {A : Nat → Prop} {iM h0 : Nat} {ad : Nat → Nat} (C0 : MCx p s m args meth c b_M_lengthOf 6 (some .int) D cl cB cI cJ cZ cS iM A) (hR : R = rm_M_lengthOf) (N : Nat) (G : (MS → Int64 → Int32 → Option (MS × Int32))) (hG : (∀ (u : MS) (v3 : Int64) (v5 : Int32) (x : MS × Int32), G u v3 v5 = some x → ∀ (H : Heap) (locs : List Loc), va_P D cl (wM cB cI cJ cZ cS iM h0 ad u) H → va_D A (wM cB cI cJ cZ cS iM h0 ad u) → va_S A s.heap H locs → ∀ (ls : Array Slot), lv_has ls 6 [(0, .ref h0), (3, .long v3), (5, .int v5)] → W p l e R s m args below meth c H locs 0 0 (MQ below (mQi D cl cB cI cJ cZ cS iM h0 ad A x) args s 0 0 A) (F0 m 5 ls []))) : ∀ (u : MS) (v1 : Int64) (x : MS × Int32), fb_M_lengthOf_0 N G u v1 = some x → ∀ (H : Heap) (locs : List Loc), va_P D cl (wM cB cI cJ cZ cS iM h0 ad u) H → va_D A (wM cB cI cJ cZ cS iM h0 ad u) → va_S A s.heap H locs → ∀ (ls : Array Slot), lv_has ls 6 [(0, .ref h0), (1, .long v1)] → W p l e R s m args below meth c H locs 0 0 (MQ below (mQi D cl cB cI cJ cZ cS iM h0 ad A x) args s 0 0 A) (F0 m 0 ls []) := by
  intro u v1 x hf H locs hP hD hS ls hl
  obtain ⟨hx, hb, hr, hml, ht, hown, hM, hK, hA, hlocks⟩ := id C0
  unfold fb_M_lengthOf_0 at hf
  refine lv_lload_n hx hb d_M_lengthOf_0 rfl (lv_at hl 1 rfl) ?_
  refine lv_lstore_n (lv' := [(3, .long v1), (0, .ref h0), (1, .long v1)]) hx hb d_M_lengthOf_1 rfl hl (by decide) rfl (fun ls hl => ?_)
  refine lv_iconst (v := 0) hx hb d_M_lengthOf_2 (by decide) ?_
  refine lv_istore (lv' := [(5, .int 0), (3, .long v1), (0, .ref h0), (1, .long v1)]) hx hb d_M_lengthOf_3 hl (by decide) rfl (fun ls hl => ?_)
  exact hG _ _ _ _ hf H locs hP hD hS ls (lv_sub hl [2, 1, 0] rfl)
def gg_M_lengthOf (N : Nat) : Nat → ((MS → Int64 → Int32 → Option (MS × Int32)))
  | 0 => fun _ _ _ => none
  | n + 1 => fb_M_lengthOf_5 N (gg_M_lengthOf N n)
theorem wg_M_lengthOf {p : Program} {l : Launch} {e : Env} {R : Room} {s : State} {m : MethodId} {args : Array Value} {below : List Frame} {meth : Method} {c : Code} {D : va_G} {cl : List vw_C} {cB cI cJ cZ cS : ClassId} {A : Nat → Prop} {iM h0 : Nat} {ad : Nat → Nat} (C0 : MCx p s m args meth c b_M_lengthOf 6 (some .int) D cl cB cI cJ cZ cS iM A) (hR : R = rm_M_lengthOf) (N : Nat) : ∀ n : Nat, (∀ (u : MS) (v3 : Int64) (v5 : Int32) (x : MS × Int32), gg_M_lengthOf N n u v3 v5 = some x → ∀ (H : Heap) (locs : List Loc), va_P D cl (wM cB cI cJ cZ cS iM h0 ad u) H → va_D A (wM cB cI cJ cZ cS iM h0 ad u) → va_S A s.heap H locs → ∀ (ls : Array Slot), lv_has ls 6 [(0, .ref h0), (3, .long v3), (5, .int v5)] → W p l e R s m args below meth c H locs 0 0 (MQ below (mQi D cl cB cI cJ cZ cS iM h0 ad A x) args s 0 0 A) (F0 m 5 ls []))
  | 0 => (fun u v3 v5 x hf => by cases hf)
  | n + 1 => wb_M_lengthOf_5 C0 hR N (gg_M_lengthOf N n) (wg_M_lengthOf C0 hR N n)
def fm_M_lengthOf (N : Nat) (u : MS) (v1 : Int64) : Option (MS × Int32) := fb_M_lengthOf_0 N (gg_M_lengthOf N N) u v1
set_option maxRecDepth 100000 in
set_option maxHeartbeats 4000000 in
theorem c_M_lengthOf (N : Nat) {l : Launch} {D : va_G} {cl : List vw_C} {cB cI cJ cZ cS : ClassId} {iM h0 : Nat} {ad : Nat → Nat} {u : MS} {sz : Nat} {v1 : Int64} {x : MS × Int32} (hM : cl[iM]? = some (R_M, F_M, 171)) (hf : fm_M_lengthOf N u v1 = some x) : Met l y_M_lengthOf (wd_ws y_M_lengthOf b_M_lengthOf 6 (some .int)) rm_M_lengthOf (mPc D cl cB cI cJ cZ cS iM h0 ad u sz [.ref h0, .long v1]) (mQi D cl cB cI cJ cZ cS iM h0 ad (mA cB cI cJ cZ cS iM h0 ad u sz) x) 0 0 (mA cB cI cJ cZ cS iM h0 ad u sz) :=
  mMet (by decide) rfl hM (Nat.le_of_ble_eq_true rfl) (fun p e s m below meth c ls hsz C0 hP hD hS hl => by
    have hR : rm_M_lengthOf = rm_M_lengthOf := rfl
    exact wb_M_lengthOf_0 C0 hR N (gg_M_lengthOf N N) (wg_M_lengthOf C0 hR N N) u _ x hf s.heap [] hP hD hS ls (lv_sub hl [0, 1] rfl))
abbrev b_M_testRun : ByteArray := prog_14_method_159_code
def y_M_testRun : MethodName := ⟨R_M, "testRun", "(I)V"⟩
def w_M_testRun : List Cond := wd_ws y_M_testRun b_M_testRun 8 none
set_option maxRecDepth 100000 in
theorem k_M_testRun : Cond.code y_M_testRun b_M_testRun 8 none ∈ wd_tbl := wd_of 3078 rfl rfl
theorem d_M_testRun_0 : decode b_M_testRun 0 = .ok (.iload_n 1, 1) := by decide +kernel
theorem d_M_testRun_1 : decode b_M_testRun 1 = .ok (.bipush 18, 2) := by decide +kernel
theorem d_M_testRun_3 : decode b_M_testRun 3 = .ok (.isub, 1) := by decide +kernel
theorem d_M_testRun_4 : decode b_M_testRun 4 = .ok (.istore_n 2, 1) := by decide +kernel
theorem d_M_testRun_5 : decode b_M_testRun 5 = .ok (.aload_n 0, 1) := by decide +kernel
theorem d_M_testRun_6 : decode b_M_testRun 6 = .ok (.invokevirtual 930, 3) := by decide +kernel
theorem d_M_testRun_9 : decode b_M_testRun 9 = .ok (.lstore_n 3, 1) := by decide +kernel
theorem d_M_testRun_10 : decode b_M_testRun 10 = .ok (.lload_n 3, 1) := by decide +kernel
theorem d_M_testRun_11 : decode b_M_testRun 11 = .ok (.invokestatic 676, 3) := by decide +kernel
theorem d_M_testRun_14 : decode b_M_testRun 14 = .ok (.istore 5, 2) := by decide +kernel
theorem d_M_testRun_16 : decode b_M_testRun 16 = .ok (.iload_n 2, 1) := by decide +kernel
theorem d_M_testRun_17 : decode b_M_testRun 17 = .ok (.bipush 7, 2) := by decide +kernel
theorem d_M_testRun_19 : decode b_M_testRun 19 = .ok (.if_icmp .ge 148, 3) := by decide +kernel
theorem d_M_testRun_22 : decode b_M_testRun 22 = .ok (.iload_n 2, 1) := by decide +kernel
theorem d_M_testRun_23 : decode b_M_testRun 23 = .ok (.ifCond .ne 16, 3) := by decide +kernel
theorem d_M_testRun_26 : decode b_M_testRun 26 = .ok (.iload 5, 2) := by decide +kernel
theorem d_M_testRun_28 : decode b_M_testRun 28 = .ok (.ifCond .ne 7, 3) := by decide +kernel
theorem d_M_testRun_31 : decode b_M_testRun 31 = .ok (.iconst 1, 1) := by decide +kernel
theorem d_M_testRun_32 : decode b_M_testRun 32 = .ok (.goto 121, 3) := by decide +kernel
theorem d_M_testRun_35 : decode b_M_testRun 35 = .ok (.iconst 0, 1) := by decide +kernel
theorem d_M_testRun_36 : decode b_M_testRun 36 = .ok (.goto 117, 3) := by decide +kernel
theorem d_M_testRun_39 : decode b_M_testRun 39 = .ok (.iload_n 2, 1) := by decide +kernel
theorem d_M_testRun_40 : decode b_M_testRun 40 = .ok (.iconst 1, 1) := by decide +kernel
theorem d_M_testRun_41 : decode b_M_testRun 41 = .ok (.if_icmp .ne 17, 3) := by decide +kernel
theorem d_M_testRun_44 : decode b_M_testRun 44 = .ok (.iload 5, 2) := by decide +kernel
theorem d_M_testRun_46 : decode b_M_testRun 46 = .ok (.iconst 1, 1) := by decide +kernel
theorem d_M_testRun_47 : decode b_M_testRun 47 = .ok (.if_icmp .ne 7, 3) := by decide +kernel
theorem d_M_testRun_50 : decode b_M_testRun 50 = .ok (.iconst 1, 1) := by decide +kernel
theorem d_M_testRun_51 : decode b_M_testRun 51 = .ok (.goto 102, 3) := by decide +kernel
theorem d_M_testRun_54 : decode b_M_testRun 54 = .ok (.iconst 0, 1) := by decide +kernel
theorem d_M_testRun_55 : decode b_M_testRun 55 = .ok (.goto 98, 3) := by decide +kernel
theorem d_M_testRun_58 : decode b_M_testRun 58 = .ok (.iload_n 2, 1) := by decide +kernel
theorem d_M_testRun_59 : decode b_M_testRun 59 = .ok (.iconst 2, 1) := by decide +kernel
theorem d_M_testRun_60 : decode b_M_testRun 60 = .ok (.if_icmp .ne 25, 3) := by decide +kernel
theorem d_M_testRun_63 : decode b_M_testRun 63 = .ok (.iload 5, 2) := by decide +kernel
theorem d_M_testRun_65 : decode b_M_testRun 65 = .ok (.bipush 6, 2) := by decide +kernel
theorem d_M_testRun_67 : decode b_M_testRun 67 = .ok (.if_icmp .eq 10, 3) := by decide +kernel
theorem d_M_testRun_70 : decode b_M_testRun 70 = .ok (.iload 5, 2) := by decide +kernel
theorem d_M_testRun_72 : decode b_M_testRun 72 = .ok (.bipush 7, 2) := by decide +kernel
theorem d_M_testRun_74 : decode b_M_testRun 74 = .ok (.if_icmp .ne 7, 3) := by decide +kernel
theorem d_M_testRun_77 : decode b_M_testRun 77 = .ok (.iconst 1, 1) := by decide +kernel
theorem d_M_testRun_78 : decode b_M_testRun 78 = .ok (.goto 75, 3) := by decide +kernel
theorem d_M_testRun_81 : decode b_M_testRun 81 = .ok (.iconst 0, 1) := by decide +kernel
theorem d_M_testRun_82 : decode b_M_testRun 82 = .ok (.goto 71, 3) := by decide +kernel
theorem d_M_testRun_85 : decode b_M_testRun 85 = .ok (.iload_n 2, 1) := by decide +kernel
theorem d_M_testRun_86 : decode b_M_testRun 86 = .ok (.iconst 3, 1) := by decide +kernel
theorem d_M_testRun_87 : decode b_M_testRun 87 = .ok (.if_icmp .ne 17, 3) := by decide +kernel
theorem d_M_testRun_90 : decode b_M_testRun 90 = .ok (.iload 5, 2) := by decide +kernel
theorem d_M_testRun_92 : decode b_M_testRun 92 = .ok (.iconst 5, 1) := by decide +kernel
theorem d_M_testRun_93 : decode b_M_testRun 93 = .ok (.if_icmp .ne 7, 3) := by decide +kernel
theorem d_M_testRun_96 : decode b_M_testRun 96 = .ok (.iconst 1, 1) := by decide +kernel
theorem d_M_testRun_97 : decode b_M_testRun 97 = .ok (.goto 56, 3) := by decide +kernel
theorem d_M_testRun_100 : decode b_M_testRun 100 = .ok (.iconst 0, 1) := by decide +kernel
theorem d_M_testRun_101 : decode b_M_testRun 101 = .ok (.goto 52, 3) := by decide +kernel
theorem d_M_testRun_104 : decode b_M_testRun 104 = .ok (.iload_n 2, 1) := by decide +kernel
theorem d_M_testRun_105 : decode b_M_testRun 105 = .ok (.iconst 4, 1) := by decide +kernel
theorem d_M_testRun_106 : decode b_M_testRun 106 = .ok (.if_icmp .ne 17, 3) := by decide +kernel
theorem d_M_testRun_109 : decode b_M_testRun 109 = .ok (.iload 5, 2) := by decide +kernel
theorem d_M_testRun_111 : decode b_M_testRun 111 = .ok (.iconst 3, 1) := by decide +kernel
theorem d_M_testRun_112 : decode b_M_testRun 112 = .ok (.if_icmp .ne 7, 3) := by decide +kernel
theorem d_M_testRun_115 : decode b_M_testRun 115 = .ok (.iconst 1, 1) := by decide +kernel
theorem d_M_testRun_116 : decode b_M_testRun 116 = .ok (.goto 37, 3) := by decide +kernel
theorem d_M_testRun_119 : decode b_M_testRun 119 = .ok (.iconst 0, 1) := by decide +kernel
theorem d_M_testRun_120 : decode b_M_testRun 120 = .ok (.goto 33, 3) := by decide +kernel
theorem d_M_testRun_123 : decode b_M_testRun 123 = .ok (.iload_n 2, 1) := by decide +kernel
theorem d_M_testRun_124 : decode b_M_testRun 124 = .ok (.iconst 5, 1) := by decide +kernel
theorem d_M_testRun_125 : decode b_M_testRun 125 = .ok (.if_icmp .ne 17, 3) := by decide +kernel
theorem d_M_testRun_128 : decode b_M_testRun 128 = .ok (.iload 5, 2) := by decide +kernel
theorem d_M_testRun_130 : decode b_M_testRun 130 = .ok (.iconst 4, 1) := by decide +kernel
theorem d_M_testRun_131 : decode b_M_testRun 131 = .ok (.if_icmp .ne 7, 3) := by decide +kernel
theorem d_M_testRun_134 : decode b_M_testRun 134 = .ok (.iconst 1, 1) := by decide +kernel
theorem d_M_testRun_135 : decode b_M_testRun 135 = .ok (.goto 18, 3) := by decide +kernel
theorem d_M_testRun_138 : decode b_M_testRun 138 = .ok (.iconst 0, 1) := by decide +kernel
theorem d_M_testRun_139 : decode b_M_testRun 139 = .ok (.goto 14, 3) := by decide +kernel
theorem d_M_testRun_142 : decode b_M_testRun 142 = .ok (.iload 5, 2) := by decide +kernel
theorem d_M_testRun_144 : decode b_M_testRun 144 = .ok (.iconst 2, 1) := by decide +kernel
theorem d_M_testRun_145 : decode b_M_testRun 145 = .ok (.if_icmp .ne 7, 3) := by decide +kernel
theorem d_M_testRun_148 : decode b_M_testRun 148 = .ok (.iconst 1, 1) := by decide +kernel
theorem d_M_testRun_149 : decode b_M_testRun 149 = .ok (.goto 4, 3) := by decide +kernel
theorem d_M_testRun_152 : decode b_M_testRun 152 = .ok (.iconst 0, 1) := by decide +kernel
theorem d_M_testRun_153 : decode b_M_testRun 153 = .ok (.istore 6, 2) := by decide +kernel
theorem d_M_testRun_155 : decode b_M_testRun 155 = .ok (.aload_n 0, 1) := by decide +kernel
theorem d_M_testRun_156 : decode b_M_testRun 156 = .ok (.iload 6, 2) := by decide +kernel
theorem d_M_testRun_158 : decode b_M_testRun 158 = .ok (.invokestatic 940, 3) := by decide +kernel
theorem d_M_testRun_161 : decode b_M_testRun 161 = .ok (.invokevirtual 801, 3) := by decide +kernel
theorem d_M_testRun_164 : decode b_M_testRun 164 = .ok (.goto 217, 3) := by decide +kernel
theorem d_M_testRun_167 : decode b_M_testRun 167 = .ok (.iload_n 2, 1) := by decide +kernel
theorem d_M_testRun_168 : decode b_M_testRun 168 = .ok (.bipush 9, 2) := by decide +kernel
theorem d_M_testRun_170 : decode b_M_testRun 170 = .ok (.if_icmp .ge 43, 3) := by decide +kernel
theorem d_M_testRun_173 : decode b_M_testRun 173 = .ok (.iload 5, 2) := by decide +kernel
theorem d_M_testRun_175 : decode b_M_testRun 175 = .ok (.bipush 7, 2) := by decide +kernel
theorem d_M_testRun_177 : decode b_M_testRun 177 = .ok (.if_icmp .eq 12, 3) := by decide +kernel
theorem d_M_testRun_180 : decode b_M_testRun 180 = .ok (.aload_n 0, 1) := by decide +kernel
theorem d_M_testRun_181 : decode b_M_testRun 181 = .ok (.bipush 11, 2) := by decide +kernel
theorem d_M_testRun_183 : decode b_M_testRun 183 = .ok (.invokevirtual 861, 3) := by decide +kernel
theorem d_M_testRun_186 : decode b_M_testRun 186 = .ok (.goto 195, 3) := by decide +kernel
theorem d_M_testRun_189 : decode b_M_testRun 189 = .ok (.aload_n 0, 1) := by decide +kernel
theorem d_M_testRun_190 : decode b_M_testRun 190 = .ok (.aload_n 0, 1) := by decide +kernel
theorem d_M_testRun_191 : decode b_M_testRun 191 = .ok (.aload_n 0, 1) := by decide +kernel
theorem d_M_testRun_192 : decode b_M_testRun 192 = .ok (.getfield 669, 3) := by decide +kernel
theorem d_M_testRun_195 : decode b_M_testRun 195 = .ok (.lload_n 3, 1) := by decide +kernel
theorem d_M_testRun_196 : decode b_M_testRun 196 = .ok (.invokestatic 680, 3) := by decide +kernel
theorem d_M_testRun_199 : decode b_M_testRun 199 = .ok (.iload_n 2, 1) := by decide +kernel
theorem d_M_testRun_200 : decode b_M_testRun 200 = .ok (.iadd, 1) := by decide +kernel
theorem d_M_testRun_201 : decode b_M_testRun 201 = .ok (.bipush 7, 2) := by decide +kernel
theorem d_M_testRun_203 : decode b_M_testRun 203 = .ok (.isub, 1) := by decide +kernel
theorem d_M_testRun_204 : decode b_M_testRun 204 = .ok (.invokevirtual 683, 3) := by decide +kernel
theorem d_M_testRun_207 : decode b_M_testRun 207 = .ok (.invokevirtual 801, 3) := by decide +kernel
theorem d_M_testRun_210 : decode b_M_testRun 210 = .ok (.goto 171, 3) := by decide +kernel
theorem d_M_testRun_213 : decode b_M_testRun 213 = .ok (.iload_n 2, 1) := by decide +kernel
theorem d_M_testRun_214 : decode b_M_testRun 214 = .ok (.bipush 9, 2) := by decide +kernel
theorem d_M_testRun_216 : decode b_M_testRun 216 = .ok (.if_icmp .ne 38, 3) := by decide +kernel
theorem d_M_testRun_219 : decode b_M_testRun 219 = .ok (.aload_n 0, 1) := by decide +kernel
theorem d_M_testRun_220 : decode b_M_testRun 220 = .ok (.lload_n 3, 1) := by decide +kernel
theorem d_M_testRun_221 : decode b_M_testRun 221 = .ok (.invokevirtual 980, 3) := by decide +kernel
theorem d_M_testRun_224 : decode b_M_testRun 224 = .ok (.istore 6, 2) := by decide +kernel
theorem d_M_testRun_226 : decode b_M_testRun 226 = .ok (.iload 6, 2) := by decide +kernel
theorem d_M_testRun_228 : decode b_M_testRun 228 = .ok (.iconst (-1), 1) := by decide +kernel
theorem d_M_testRun_229 : decode b_M_testRun 229 = .ok (.if_icmp .ne 12, 3) := by decide +kernel
theorem d_M_testRun_232 : decode b_M_testRun 232 = .ok (.aload_n 0, 1) := by decide +kernel
theorem d_M_testRun_233 : decode b_M_testRun 233 = .ok (.bipush 11, 2) := by decide +kernel
theorem d_M_testRun_235 : decode b_M_testRun 235 = .ok (.invokevirtual 861, 3) := by decide +kernel
theorem d_M_testRun_238 : decode b_M_testRun 238 = .ok (.goto 13, 3) := by decide +kernel
theorem d_M_testRun_241 : decode b_M_testRun 241 = .ok (.aload_n 0, 1) := by decide +kernel
theorem d_M_testRun_242 : decode b_M_testRun 242 = .ok (.iconst 0, 1) := by decide +kernel
theorem d_M_testRun_243 : decode b_M_testRun 243 = .ok (.iload 6, 2) := by decide +kernel
theorem d_M_testRun_245 : decode b_M_testRun 245 = .ok (.invokestatic 315, 3) := by decide +kernel
theorem d_M_testRun_248 : decode b_M_testRun 248 = .ok (.invokevirtual 801, 3) := by decide +kernel
theorem d_M_testRun_251 : decode b_M_testRun 251 = .ok (.goto 130, 3) := by decide +kernel
theorem d_M_testRun_254 : decode b_M_testRun 254 = .ok (.iload_n 2, 1) := by decide +kernel
theorem d_M_testRun_255 : decode b_M_testRun 255 = .ok (.bipush 10, 2) := by decide +kernel
theorem d_M_testRun_257 : decode b_M_testRun 257 = .ok (.if_icmp .ne 88, 3) := by decide +kernel
theorem d_M_testRun_260 : decode b_M_testRun 260 = .ok (.aload_n 0, 1) := by decide +kernel
theorem d_M_testRun_261 : decode b_M_testRun 261 = .ok (.invokevirtual 930, 3) := by decide +kernel
theorem d_M_testRun_264 : decode b_M_testRun 264 = .ok (.lstore 6, 2) := by decide +kernel
theorem d_M_testRun_266 : decode b_M_testRun 266 = .ok (.lload 6, 2) := by decide +kernel
theorem d_M_testRun_268 : decode b_M_testRun 268 = .ok (.invokestatic 676, 3) := by decide +kernel
theorem d_M_testRun_271 : decode b_M_testRun 271 = .ok (.ifCond .ne 40, 3) := by decide +kernel
theorem d_M_testRun_274 : decode b_M_testRun 274 = .ok (.iload 5, 2) := by decide +kernel
theorem d_M_testRun_276 : decode b_M_testRun 276 = .ok (.iconst 5, 1) := by decide +kernel
theorem d_M_testRun_277 : decode b_M_testRun 277 = .ok (.if_icmp .ne 34, 3) := by decide +kernel
theorem d_M_testRun_280 : decode b_M_testRun 280 = .ok (.lload 6, 2) := by decide +kernel
theorem d_M_testRun_282 : decode b_M_testRun 282 = .ok (.invokestatic 680, 3) := by decide +kernel
theorem d_M_testRun_285 : decode b_M_testRun 285 = .ok (.iconst 1, 1) := by decide +kernel
theorem d_M_testRun_286 : decode b_M_testRun 286 = .ok (.if_icmp .lt 25, 3) := by decide +kernel
theorem d_M_testRun_289 : decode b_M_testRun 289 = .ok (.lload 6, 2) := by decide +kernel
theorem d_M_testRun_291 : decode b_M_testRun 291 = .ok (.invokestatic 680, 3) := by decide +kernel
theorem d_M_testRun_294 : decode b_M_testRun 294 = .ok (.i2l, 1) := by decide +kernel
theorem d_M_testRun_295 : decode b_M_testRun 295 = .ok (.aload_n 0, 1) := by decide +kernel
theorem d_M_testRun_296 : decode b_M_testRun 296 = .ok (.aload_n 0, 1) := by decide +kernel
theorem d_M_testRun_297 : decode b_M_testRun 297 = .ok (.getfield 669, 3) := by decide +kernel
theorem d_M_testRun_300 : decode b_M_testRun 300 = .ok (.lload_n 3, 1) := by decide +kernel
theorem d_M_testRun_301 : decode b_M_testRun 301 = .ok (.invokestatic 680, 3) := by decide +kernel
theorem d_M_testRun_304 : decode b_M_testRun 304 = .ok (.invokevirtual 683, 3) := by decide +kernel
theorem d_M_testRun_307 : decode b_M_testRun 307 = .ok (.lcmp, 1) := by decide +kernel
theorem d_M_testRun_308 : decode b_M_testRun 308 = .ok (.ifCond .le 12, 3) := by decide +kernel
theorem d_M_testRun_311 : decode b_M_testRun 311 = .ok (.aload_n 0, 1) := by decide +kernel
theorem d_M_testRun_312 : decode b_M_testRun 312 = .ok (.bipush 11, 2) := by decide +kernel
theorem d_M_testRun_314 : decode b_M_testRun 314 = .ok (.invokevirtual 861, 3) := by decide +kernel
theorem d_M_testRun_317 : decode b_M_testRun 317 = .ok (.goto 25, 3) := by decide +kernel
theorem d_M_testRun_320 : decode b_M_testRun 320 = .ok (.aload_n 0, 1) := by decide +kernel
theorem d_M_testRun_321 : decode b_M_testRun 321 = .ok (.aload_n 0, 1) := by decide +kernel
theorem d_M_testRun_322 : decode b_M_testRun 322 = .ok (.aload_n 0, 1) := by decide +kernel
theorem d_M_testRun_323 : decode b_M_testRun 323 = .ok (.getfield 669, 3) := by decide +kernel
theorem d_M_testRun_326 : decode b_M_testRun 326 = .ok (.lload_n 3, 1) := by decide +kernel
theorem d_M_testRun_327 : decode b_M_testRun 327 = .ok (.invokestatic 680, 3) := by decide +kernel
theorem d_M_testRun_330 : decode b_M_testRun 330 = .ok (.lload 6, 2) := by decide +kernel
theorem d_M_testRun_332 : decode b_M_testRun 332 = .ok (.invokestatic 680, 3) := by decide +kernel
theorem d_M_testRun_335 : decode b_M_testRun 335 = .ok (.iadd, 1) := by decide +kernel
theorem d_M_testRun_336 : decode b_M_testRun 336 = .ok (.invokevirtual 683, 3) := by decide +kernel
theorem d_M_testRun_339 : decode b_M_testRun 339 = .ok (.invokevirtual 801, 3) := by decide +kernel
theorem d_M_testRun_342 : decode b_M_testRun 342 = .ok (.goto 39, 3) := by decide +kernel
theorem d_M_testRun_345 : decode b_M_testRun 345 = .ok (.iload 5, 2) := by decide +kernel
theorem d_M_testRun_347 : decode b_M_testRun 347 = .ok (.iconst 5, 1) := by decide +kernel
theorem d_M_testRun_348 : decode b_M_testRun 348 = .ok (.if_icmp .eq 12, 3) := by decide +kernel
theorem d_M_testRun_351 : decode b_M_testRun 351 = .ok (.aload_n 0, 1) := by decide +kernel
theorem d_M_testRun_352 : decode b_M_testRun 352 = .ok (.bipush 11, 2) := by decide +kernel
theorem d_M_testRun_354 : decode b_M_testRun 354 = .ok (.invokevirtual 861, 3) := by decide +kernel
theorem d_M_testRun_357 : decode b_M_testRun 357 = .ok (.goto 24, 3) := by decide +kernel
theorem d_M_testRun_360 : decode b_M_testRun 360 = .ok (.aload_n 0, 1) := by decide +kernel
theorem d_M_testRun_361 : decode b_M_testRun 361 = .ok (.iconst 0, 1) := by decide +kernel
theorem d_M_testRun_362 : decode b_M_testRun 362 = .ok (.aload_n 0, 1) := by decide +kernel
theorem d_M_testRun_363 : decode b_M_testRun 363 = .ok (.aload_n 0, 1) := by decide +kernel
theorem d_M_testRun_364 : decode b_M_testRun 364 = .ok (.getfield 669, 3) := by decide +kernel
theorem d_M_testRun_367 : decode b_M_testRun 367 = .ok (.lload_n 3, 1) := by decide +kernel
theorem d_M_testRun_368 : decode b_M_testRun 368 = .ok (.invokestatic 680, 3) := by decide +kernel
theorem d_M_testRun_371 : decode b_M_testRun 371 = .ok (.invokevirtual 683, 3) := by decide +kernel
theorem d_M_testRun_374 : decode b_M_testRun 374 = .ok (.l2i, 1) := by decide +kernel
theorem d_M_testRun_375 : decode b_M_testRun 375 = .ok (.invokestatic 315, 3) := by decide +kernel
theorem d_M_testRun_378 : decode b_M_testRun 378 = .ok (.invokevirtual 801, 3) := by decide +kernel
theorem d_M_testRun_381 : decode b_M_testRun 381 = .ok (.return_, 1) := by decide +kernel
set_option maxRecDepth 100000 in
theorem hl_M_testRun : Cond.methodLink R_M 992 y_M_testRun ∈ wd_tbl := wd_of 3075 (by decide +kernel) rfl
set_option maxRecDepth 100000 in
theorem hi_M_testRun : Cond.instanceMethod y_M_testRun ∈ wd_tbl := wd_of 3077 (by decide +kernel) rfl
set_option maxRecDepth 100000 in
theorem hs_M_testRun : Cond.selects R_M y_M_testRun y_M_testRun ∈ wd_tbl := wd_of 225 (by decide +kernel) rfl
theorem hd_M_testRun : y_M_testRun.cls = R_M ∧ y_M_testRun.cls ≠ "java/lang/invoke/MethodHandle" ∧ y_M_testRun.cls ≠ "java/lang/invoke/VarHandle" ∧ (parseMethodDescriptor y_M_testRun.desc).map (fun d => d.parameters.length) = some 1 := by decide +kernel
def rm_M_testRun : Room := { frames := 27, cells := 0, slots := 0, locals := 704 }
theorem rm_M_testRun_M_take {R : Room} (hR : R = rm_M_testRun) : (rm_M_take).frames + 1 ≤ R.frames ∧ 8 + (1 + 11) + (rm_M_take).locals ≤ R.locals := by subst hR; decide
theorem rm_M_testRun_M_sortOf {R : Room} (hR : R = rm_M_testRun) : (rm_M_sortOf).frames + 1 ≤ R.frames ∧ 8 + (2 + 11) + (rm_M_sortOf).locals ≤ R.locals := by subst hR; decide
theorem rm_M_testRun_M_truth {R : Room} (hR : R = rm_M_testRun) : (rm_M_truth).frames + 1 ≤ R.frames ∧ 8 + (1 + 11) + (rm_M_truth).locals ≤ R.locals := by subst hR; decide
theorem rm_M_testRun_M_put {R : Room} (hR : R = rm_M_testRun) : (rm_M_put).frames + 1 ≤ R.frames ∧ 8 + (3 + 11) + (rm_M_put).locals ≤ R.locals := by subst hR; decide
theorem rm_M_testRun_M_error {R : Room} (hR : R = rm_M_testRun) : (rm_M_error).frames + 1 ≤ R.frames ∧ 8 + (2 + 11) + (rm_M_error).locals ≤ R.locals := by subst hR; decide
theorem rm_M_testRun_M_valueOf {R : Room} (hR : R = rm_M_testRun) : (rm_M_valueOf).frames + 1 ≤ R.frames ∧ 8 + (2 + 11) + (rm_M_valueOf).locals ≤ R.locals := by subst hR; decide
theorem rm_M_testRun_M_cell {R : Room} (hR : R = rm_M_testRun) : (rm_M_cell).frames + 1 ≤ R.frames ∧ 8 + (3 + 11) + (rm_M_cell).locals ≤ R.locals := by subst hR; decide
theorem rm_M_testRun_M_lengthOf {R : Room} (hR : R = rm_M_testRun) : (rm_M_lengthOf).frames + 1 ≤ R.frames ∧ 8 + (6 + 11) + (rm_M_lengthOf).locals ≤ R.locals := by subst hR; decide
theorem rm_M_testRun_M_term {R : Room} (hR : R = rm_M_testRun) : (rm_M_term).frames + 1 ≤ R.frames ∧ 8 + (2 + 11) + (rm_M_term).locals ≤ R.locals := by subst hR; decide
def fb_M_testRun_381 (N : Nat) (G : Unit) (u : MS) : Option (MS × Unit) := some (u, ())
set_option maxRecDepth 100000 in
set_option maxHeartbeats 4000000 in
theorem wb_M_testRun_381 {p : Program} {l : Launch} {e : Env} {R : Room} {s : State} {m : MethodId} {args : Array Value} {below : List Frame} {meth : Method} {c : Code} {D : va_G} {cl : List vw_C} {cB cI cJ cZ cS : ClassId} {A : Nat → Prop} {iM h0 : Nat} {ad : Nat → Nat} (C0 : MCx p s m args meth c b_M_testRun 8 none D cl cB cI cJ cZ cS iM A) (hR : R = rm_M_testRun) (N : Nat) (G : Unit) (hG : True) : ∀ (u : MS) (x : MS × Unit), fb_M_testRun_381 N G u = some x → ∀ (H : Heap) (locs : List Loc), va_P D cl (wM cB cI cJ cZ cS iM h0 ad u) H → va_D A (wM cB cI cJ cZ cS iM h0 ad u) → va_S A s.heap H locs → ∀ (ls : Array Slot), lv_has ls 8 [] → W p l e R s m args below meth c H locs 0 0 (MQ below (mQv D cl cB cI cJ cZ cS iM h0 ad A x) args s 0 0 A) (F0 m 381 ls []) := by
  intro u x hf H locs hP hD hS ls hl
  obtain ⟨hx, hb, hr, hml, ht, hown, hM, hK, hA, hlocks⟩ := id C0
  unfold fb_M_testRun_381 at hf
  exact mr_v C0 hP hD hS hf d_M_testRun_381
def fb_M_testRun_342 (N : Nat) (G : Unit) (u : MS) : Option (MS × Unit) := fb_M_testRun_381 N G u
set_option maxRecDepth 100000 in
set_option maxHeartbeats 4000000 in
theorem wb_M_testRun_342 {p : Program} {l : Launch} {e : Env} {R : Room} {s : State} {m : MethodId} {args : Array Value} {below : List Frame} {meth : Method} {c : Code} {D : va_G} {cl : List vw_C} {cB cI cJ cZ cS : ClassId} {A : Nat → Prop} {iM h0 : Nat} {ad : Nat → Nat} (C0 : MCx p s m args meth c b_M_testRun 8 none D cl cB cI cJ cZ cS iM A) (hR : R = rm_M_testRun) (N : Nat) (G : Unit) (hG : True) : ∀ (u : MS) (x : MS × Unit), fb_M_testRun_342 N G u = some x → ∀ (H : Heap) (locs : List Loc), va_P D cl (wM cB cI cJ cZ cS iM h0 ad u) H → va_D A (wM cB cI cJ cZ cS iM h0 ad u) → va_S A s.heap H locs → ∀ (ls : Array Slot), lv_has ls 8 [] → W p l e R s m args below meth c H locs 0 0 (MQ below (mQv D cl cB cI cJ cZ cS iM h0 ad A x) args s 0 0 A) (F0 m 342 ls []) := by
  intro u x hf H locs hP hD hS ls hl
  obtain ⟨hx, hb, hr, hml, ht, hown, hM, hK, hA, hlocks⟩ := id C0
  unfold fb_M_testRun_342 at hf
  refine lv_goto (tgt := 381) hx hb d_M_testRun_342 (by decide) ?_
  exact wb_M_testRun_381 C0 hR N G hG _ _ hf H locs hP hD hS ls (lv_sub hl [] rfl)
def fb_M_testRun_311 (N : Nat) (G : Unit) (u : MS) : Option (MS × Unit) := bnd (fr_M_error N u 11) (fun u1 _ => fb_M_testRun_342 N G u1)
set_option maxRecDepth 100000 in
set_option maxHeartbeats 4000000 in
theorem wb_M_testRun_311 {p : Program} {l : Launch} {e : Env} {R : Room} {s : State} {m : MethodId} {args : Array Value} {below : List Frame} {meth : Method} {c : Code} {D : va_G} {cl : List vw_C} {cB cI cJ cZ cS : ClassId} {A : Nat → Prop} {iM h0 : Nat} {ad : Nat → Nat} (C0 : MCx p s m args meth c b_M_testRun 8 none D cl cB cI cJ cZ cS iM A) (hR : R = rm_M_testRun) (N : Nat) (G : Unit) (hG : True) : ∀ (u : MS) (x : MS × Unit), fb_M_testRun_311 N G u = some x → ∀ (H : Heap) (locs : List Loc), va_P D cl (wM cB cI cJ cZ cS iM h0 ad u) H → va_D A (wM cB cI cJ cZ cS iM h0 ad u) → va_S A s.heap H locs → ∀ (ls : Array Slot), lv_has ls 8 [(0, .ref h0)] → W p l e R s m args below meth c H locs 0 0 (MQ below (mQv D cl cB cI cJ cZ cS iM h0 ad A x) args s 0 0 A) (F0 m 311 ls []) := by
  intro u x hf H locs hP hD hS ls hl
  obtain ⟨hx, hb, hr, hml, ht, hown, hM, hK, hA, hlocks⟩ := id C0
  unfold fb_M_testRun_311 at hf
  refine lv_aload_n hx hb d_M_testRun_311 rfl (lv_at hl 0 rfl) ?_
  refine lv_bipush (v := 11) hx hb d_M_testRun_312 (by decide) ?_
  obtain ⟨u1, r1, hc1, hf⟩ := bnd_some hf
  refine mV_v (As := [.int 11]) (rest := []) C0 hP hD hS (c_M_error N hM hc1) k_M_error hl_M_error hi_M_error hs_M_error hini_M rfl rfl hd_M_error rfl (rm_M_testRun_M_error hR) hl.1 (Nat.le_of_ble_eq_true rfl) d_M_testRun_314 rfl ⟨Nat.zero_le _, Nat.zero_le _⟩ (fun H locs hP hD hS => ?_)
  refine lv_goto (tgt := 342) hx hb d_M_testRun_317 (by decide) ?_
  exact wb_M_testRun_342 C0 hR N G hG _ _ hf H locs hP hD hS ls (lv_sub hl [] rfl)
def fb_M_testRun_251 (N : Nat) (G : Unit) (u : MS) : Option (MS × Unit) := fb_M_testRun_381 N G u
set_option maxRecDepth 100000 in
set_option maxHeartbeats 4000000 in
theorem wb_M_testRun_251 {p : Program} {l : Launch} {e : Env} {R : Room} {s : State} {m : MethodId} {args : Array Value} {below : List Frame} {meth : Method} {c : Code} {D : va_G} {cl : List vw_C} {cB cI cJ cZ cS : ClassId} {A : Nat → Prop} {iM h0 : Nat} {ad : Nat → Nat} (C0 : MCx p s m args meth c b_M_testRun 8 none D cl cB cI cJ cZ cS iM A) (hR : R = rm_M_testRun) (N : Nat) (G : Unit) (hG : True) : ∀ (u : MS) (x : MS × Unit), fb_M_testRun_251 N G u = some x → ∀ (H : Heap) (locs : List Loc), va_P D cl (wM cB cI cJ cZ cS iM h0 ad u) H → va_D A (wM cB cI cJ cZ cS iM h0 ad u) → va_S A s.heap H locs → ∀ (ls : Array Slot), lv_has ls 8 [] → W p l e R s m args below meth c H locs 0 0 (MQ below (mQv D cl cB cI cJ cZ cS iM h0 ad A x) args s 0 0 A) (F0 m 251 ls []) := by
  intro u x hf H locs hP hD hS ls hl
  obtain ⟨hx, hb, hr, hml, ht, hown, hM, hK, hA, hlocks⟩ := id C0
  unfold fb_M_testRun_251 at hf
  refine lv_goto (tgt := 381) hx hb d_M_testRun_251 (by decide) ?_
  exact wb_M_testRun_381 C0 hR N G hG _ _ hf H locs hP hD hS ls (lv_sub hl [] rfl)
def fb_M_testRun_153 (N : Nat) (G : Unit) (u : MS) (t0 : Int32) : Option (MS × Unit) := bnd (fm_M_truth N u t0) (fun u2 r2 => bnd (fm_M_put N u2 r2) (fun u3 _ => fb_M_testRun_381 N G u3))
set_option maxRecDepth 100000 in
set_option maxHeartbeats 4000000 in
theorem wb_M_testRun_153 {p : Program} {l : Launch} {e : Env} {R : Room} {s : State} {m : MethodId} {args : Array Value} {below : List Frame} {meth : Method} {c : Code} {D : va_G} {cl : List vw_C} {cB cI cJ cZ cS : ClassId} {A : Nat → Prop} {iM h0 : Nat} {ad : Nat → Nat} (C0 : MCx p s m args meth c b_M_testRun 8 none D cl cB cI cJ cZ cS iM A) (hR : R = rm_M_testRun) (N : Nat) (G : Unit) (hG : True) : ∀ (u : MS) (t0 : Int32) (x : MS × Unit), fb_M_testRun_153 N G u t0 = some x → ∀ (H : Heap) (locs : List Loc), va_P D cl (wM cB cI cJ cZ cS iM h0 ad u) H → va_D A (wM cB cI cJ cZ cS iM h0 ad u) → va_S A s.heap H locs → ∀ (ls : Array Slot), lv_has ls 8 [(0, .ref h0)] → W p l e R s m args below meth c H locs 0 0 (MQ below (mQv D cl cB cI cJ cZ cS iM h0 ad A x) args s 0 0 A) (F0 m 153 ls [.int t0]) := by
  intro u t0 x hf H locs hP hD hS ls hl
  obtain ⟨hx, hb, hr, hml, ht, hown, hM, hK, hA, hlocks⟩ := id C0
  unfold fb_M_testRun_153 at hf
  refine lv_istore (lv' := [(6, .int t0), (0, .ref h0)]) hx hb d_M_testRun_153 hl (by decide) rfl (fun ls hl => ?_)
  refine lv_aload_n hx hb d_M_testRun_155 rfl (lv_at hl 1 rfl) ?_
  refine lv_iload hx hb d_M_testRun_156 (lv_at hl 0 rfl) ?_
  obtain ⟨u2, r2, hc2, hf⟩ := bnd_some hf
  refine mS_l (As := [.int t0]) (rest := [.ref h0]) C0 hP hD hS (c_M_truth N hM hc2) k_M_truth hl_M_truth ht_M_truth hini_M rfl rfl hd_M_truth rfl (rm_M_testRun_M_truth hR) hl.1 (Nat.le_of_ble_eq_true rfl) d_M_testRun_158 rfl ⟨Nat.zero_le _, Nat.zero_le _⟩ (fun H locs hP hD hS => ?_)
  obtain ⟨u3, r3, hc3, hf⟩ := bnd_some hf
  refine mV_v (As := [.long r2]) (rest := []) C0 hP hD hS (c_M_put N hM hc3) k_M_put hl_M_put hi_M_put hs_M_put hini_M rfl rfl hd_M_put rfl (rm_M_testRun_M_put hR) hl.1 (Nat.le_of_ble_eq_true rfl) d_M_testRun_161 rfl ⟨Nat.zero_le _, Nat.zero_le _⟩ (fun H locs hP hD hS => ?_)
  refine lv_goto (tgt := 381) hx hb d_M_testRun_164 (by decide) ?_
  exact wb_M_testRun_381 C0 hR N G hG _ _ hf H locs hP hD hS ls (lv_sub hl [] rfl)
def fb_M_testRun_77 (N : Nat) (G : Unit) (u : MS) : Option (MS × Unit) := fb_M_testRun_153 N G u (1)
set_option maxRecDepth 100000 in
set_option maxHeartbeats 4000000 in
theorem wb_M_testRun_77 {p : Program} {l : Launch} {e : Env} {R : Room} {s : State} {m : MethodId} {args : Array Value} {below : List Frame} {meth : Method} {c : Code} {D : va_G} {cl : List vw_C} {cB cI cJ cZ cS : ClassId} {A : Nat → Prop} {iM h0 : Nat} {ad : Nat → Nat} (C0 : MCx p s m args meth c b_M_testRun 8 none D cl cB cI cJ cZ cS iM A) (hR : R = rm_M_testRun) (N : Nat) (G : Unit) (hG : True) : ∀ (u : MS) (x : MS × Unit), fb_M_testRun_77 N G u = some x → ∀ (H : Heap) (locs : List Loc), va_P D cl (wM cB cI cJ cZ cS iM h0 ad u) H → va_D A (wM cB cI cJ cZ cS iM h0 ad u) → va_S A s.heap H locs → ∀ (ls : Array Slot), lv_has ls 8 [(0, .ref h0)] → W p l e R s m args below meth c H locs 0 0 (MQ below (mQv D cl cB cI cJ cZ cS iM h0 ad A x) args s 0 0 A) (F0 m 77 ls []) := by
  intro u x hf H locs hP hD hS ls hl
  obtain ⟨hx, hb, hr, hml, ht, hown, hM, hK, hA, hlocks⟩ := id C0
  unfold fb_M_testRun_77 at hf
  refine lv_iconst (v := 1) hx hb d_M_testRun_77 (by decide) ?_
  refine lv_goto (tgt := 153) hx hb d_M_testRun_78 (by decide) ?_
  exact wb_M_testRun_153 C0 hR N G hG _ _ _ hf H locs hP hD hS ls (lv_sub hl [0] rfl)
def fb_M_testRun_0 (N : Nat) (G : Unit) (u : MS) (v1 : Int32) : Option (MS × Unit) := bnd (fm_M_take N u) (fun u4 r4 => bnd (fm_M_sortOf N u4 r4) (fun u5 r5 => br (decide (7 ≤ (v1 - 18))) (br (decide (9 ≤ (v1 - 18))) (br (decide ((v1 - 18) = 9)) (bnd (fm_M_lengthOf N u5 r4) (fun u21 r21 => br (decide (r21 = (-1))) (bnd (fr_M_error N u21 11) (fun u24 _ => fb_M_testRun_251 N G u24)) (bnd (fm_M_term N u21 0 r21) (fun u22 r22 => bnd (fm_M_put N u22 r22) (fun u23 _ => fb_M_testRun_251 N G u23))))) (br (decide ((v1 - 18) = 10)) (bnd (fm_M_take N u5) (fun u11 r11 => bnd (fm_M_sortOf N u11 r11) (fun u12 r12 => br (decide (r12 = 0)) (br (decide (r5 = 5)) (bnd (fm_M_valueOf N u12 r11) (fun u13 r13 => br (decide (r13 < 1)) (fb_M_testRun_311 N G u13) (bnd (fm_M_valueOf N u13 r11) (fun u14 r14 => bnd (fm_M_valueOf N u14 r4) (fun u15 r15 => bnd (fm_M_cell N u15 (u14.1 133) r15) (fun u16 r16 => br (decide ((lg_cmp (r14.toInt64) r16) ≤ 0)) (bnd (fm_M_valueOf N u16 r4) (fun u17 r17 => bnd (fm_M_valueOf N u17 r11) (fun u18 r18 => bnd (fm_M_cell N u18 (u16.1 133) (r17 + r18)) (fun u19 r19 => bnd (fm_M_put N u19 r19) (fun u20 _ => fb_M_testRun_342 N G u20))))) (fb_M_testRun_311 N G u16))))))) (fb_M_testRun_311 N G u12)) (fb_M_testRun_311 N G u12)))) (br (decide (r5 = 5)) (bnd (fm_M_valueOf N u5 r4) (fun u6 r6 => bnd (fm_M_cell N u6 (u5.1 133) r6) (fun u7 r7 => bnd (fm_M_term N u7 0 (r7.toInt32)) (fun u8 r8 => bnd (fm_M_put N u8 r8) (fun u9 _ => fb_M_testRun_381 N G u9))))) (bnd (fr_M_error N u5 11) (fun u10 _ => fb_M_testRun_381 N G u10))))) (br (decide (r5 = 7)) (bnd (fm_M_valueOf N u5 r4) (fun u25 r25 => bnd (fm_M_cell N u25 (u5.1 133) ((r25 + (v1 - 18)) - 7)) (fun u26 r26 => bnd (fm_M_put N u26 r26) (fun u27 _ => fb_M_testRun_381 N G u27)))) (bnd (fr_M_error N u5 11) (fun u28 _ => fb_M_testRun_381 N G u28)))) (br (decide ((v1 - 18) = 0)) (br (decide (r5 = 0)) (fb_M_testRun_153 N G u5 (1)) (fb_M_testRun_153 N G u5 (0))) (br (decide ((v1 - 18) = 1)) (br (decide (r5 = 1)) (fb_M_testRun_153 N G u5 (1)) (fb_M_testRun_153 N G u5 (0))) (br (decide ((v1 - 18) = 2)) (br (decide (r5 = 6)) (fb_M_testRun_77 N G u5) (br (decide (r5 = 7)) (fb_M_testRun_77 N G u5) (fb_M_testRun_153 N G u5 (0)))) (br (decide ((v1 - 18) = 3)) (br (decide (r5 = 5)) (fb_M_testRun_153 N G u5 (1)) (fb_M_testRun_153 N G u5 (0))) (br (decide ((v1 - 18) = 4)) (br (decide (r5 = 3)) (fb_M_testRun_153 N G u5 (1)) (fb_M_testRun_153 N G u5 (0))) (br (decide ((v1 - 18) = 5)) (br (decide (r5 = 4)) (fb_M_testRun_153 N G u5 (1)) (fb_M_testRun_153 N G u5 (0))) (br (decide (r5 = 2)) (fb_M_testRun_153 N G u5 (1)) (fb_M_testRun_153 N G u5 (0)))))))))))
set_option maxRecDepth 100000 in
set_option maxHeartbeats 4000000 in
theorem wb_M_testRun_0 {p : Program} {l : Launch} {e : Env} {R : Room} {s : State} {m : MethodId} {args : Array Value} {below : List Frame} {meth : Method} {c : Code} {D : va_G} {cl : List vw_C} {cB cI cJ cZ cS : ClassId} {A : Nat → Prop} {iM h0 : Nat} {ad : Nat → Nat} (C0 : MCx p s m args meth c b_M_testRun 8 none D cl cB cI cJ cZ cS iM A) (hR : R = rm_M_testRun) (N : Nat) (G : Unit) (hG : True) : ∀ (u : MS) (v1 : Int32) (x : MS × Unit), fb_M_testRun_0 N G u v1 = some x → ∀ (H : Heap) (locs : List Loc), va_P D cl (wM cB cI cJ cZ cS iM h0 ad u) H → va_D A (wM cB cI cJ cZ cS iM h0 ad u) → va_S A s.heap H locs → ∀ (ls : Array Slot), lv_has ls 8 [(0, .ref h0), (1, .int v1)] → W p l e R s m args below meth c H locs 0 0 (MQ below (mQv D cl cB cI cJ cZ cS iM h0 ad A x) args s 0 0 A) (F0 m 0 ls []) := by
  intro u v1 x hf H locs hP hD hS ls hl
  obtain ⟨hx, hb, hr, hml, ht, hown, hM, hK, hA, hlocks⟩ := id C0
  unfold fb_M_testRun_0 at hf
  refine lv_iload_n hx hb d_M_testRun_0 rfl (lv_at hl 1 rfl) ?_
  refine lv_bipush (v := 18) hx hb d_M_testRun_1 (by decide) ?_
  refine lv_isub hx hb d_M_testRun_3 ?_
  refine lv_istore_n (lv' := [(2, .int (v1 - 18)), (0, .ref h0), (1, .int v1)]) hx hb d_M_testRun_4 rfl hl (by decide) rfl (fun ls hl => ?_)
  refine lv_aload_n hx hb d_M_testRun_5 rfl (lv_at hl 1 rfl) ?_
  obtain ⟨u4, r4, hc4, hf⟩ := bnd_some hf
  refine mV_l (As := []) (rest := []) C0 hP hD hS (c_M_take N hM hc4) k_M_take hl_M_take hi_M_take hs_M_take hini_M rfl rfl hd_M_take rfl (rm_M_testRun_M_take hR) hl.1 (Nat.le_of_ble_eq_true rfl) d_M_testRun_6 rfl ⟨Nat.zero_le _, Nat.zero_le _⟩ (fun H locs hP hD hS => ?_)
  refine lv_lstore_n (lv' := [(3, .long r4), (2, .int (v1 - 18)), (0, .ref h0), (1, .int v1)]) hx hb d_M_testRun_9 rfl hl (by decide) rfl (fun ls hl => ?_)
  refine lv_lload_n hx hb d_M_testRun_10 rfl (lv_at hl 0 rfl) ?_
  obtain ⟨u5, r5, hc5, hf⟩ := bnd_some hf
  refine mS_i (As := [.long r4]) (rest := []) C0 hP hD hS (c_M_sortOf N hM hc5) k_M_sortOf hl_M_sortOf ht_M_sortOf hini_M rfl rfl hd_M_sortOf rfl (rm_M_testRun_M_sortOf hR) hl.1 (Nat.le_of_ble_eq_true rfl) d_M_testRun_11 rfl ⟨Nat.zero_le _, Nat.zero_le _⟩ (fun H locs hP hD hS => ?_)
  refine lv_istore (lv' := [(5, .int r5), (3, .long r4), (2, .int (v1 - 18)), (0, .ref h0), (1, .int v1)]) hx hb d_M_testRun_14 hl (by decide) rfl (fun ls hl => ?_)
  refine lv_iload_n hx hb d_M_testRun_16 rfl (lv_at hl 2 rfl) ?_
  refine lv_bipush (v := 7) hx hb d_M_testRun_17 (by decide) ?_
  refine lv_icmp_ge (tgt := 167) hx hb d_M_testRun_19 (by decide) (fun hc => ?_) (fun hc => ?_)
  · rw [br_p _ hc] at hf
    refine lv_iload_n hx hb d_M_testRun_167 rfl (lv_at hl 2 rfl) ?_
    refine lv_bipush (v := 9) hx hb d_M_testRun_168 (by decide) ?_
    refine lv_icmp_ge (tgt := 213) hx hb d_M_testRun_170 (by decide) (fun hc => ?_) (fun hc => ?_)
    · rw [br_p _ hc] at hf
      refine lv_iload_n hx hb d_M_testRun_213 rfl (lv_at hl 2 rfl) ?_
      refine lv_bipush (v := 9) hx hb d_M_testRun_214 (by decide) ?_
      refine lv_icmp_ne (tgt := 254) hx hb d_M_testRun_216 (by decide) (fun hc => ?_) (fun hc => ?_)
      · rw [br_n _ hc] at hf
        refine lv_iload_n hx hb d_M_testRun_254 rfl (lv_at hl 2 rfl) ?_
        refine lv_bipush (v := 10) hx hb d_M_testRun_255 (by decide) ?_
        refine lv_icmp_ne (tgt := 345) hx hb d_M_testRun_257 (by decide) (fun hc => ?_) (fun hc => ?_)
        · rw [br_n _ hc] at hf
          refine lv_iload hx hb d_M_testRun_345 (lv_at hl 0 rfl) ?_
          refine lv_iconst (v := 5) hx hb d_M_testRun_347 (by decide) ?_
          refine lv_icmp_eq (tgt := 360) hx hb d_M_testRun_348 (by decide) (fun hc => ?_) (fun hc => ?_)
          · rw [br_p _ hc] at hf
            refine lv_aload_n hx hb d_M_testRun_360 rfl (lv_at hl 3 rfl) ?_
            refine lv_iconst (v := 0) hx hb d_M_testRun_361 (by decide) ?_
            refine lv_aload_n hx hb d_M_testRun_362 rfl (lv_at hl 3 rfl) ?_
            refine lv_aload_n hx hb d_M_testRun_363 rfl (lv_at hl 3 rfl) ?_
            refine ug_I hx hb ht hown hM hK hP 133 (by decide) lk_M_133 (by decide) d_M_testRun_364 ?_
            refine lv_lload_n hx hb d_M_testRun_367 rfl (lv_at hl 1 rfl) ?_
            obtain ⟨u6, r6, hc6, hf⟩ := bnd_some hf
            refine mS_i (As := [.long r4]) (rest := [.int (u5.1 133), .ref h0, .int 0, .ref h0]) C0 hP hD hS (c_M_valueOf N hM hc6) k_M_valueOf hl_M_valueOf ht_M_valueOf hini_M rfl rfl hd_M_valueOf rfl (rm_M_testRun_M_valueOf hR) hl.1 (Nat.le_of_ble_eq_true rfl) d_M_testRun_368 rfl ⟨Nat.zero_le _, Nat.zero_le _⟩ (fun H locs hP hD hS => ?_)
            obtain ⟨u7, r7, hc7, hf⟩ := bnd_some hf
            refine mV_l (As := [.int (u5.1 133), .int r6]) (rest := [.int 0, .ref h0]) C0 hP hD hS (c_M_cell N hM hc7) k_M_cell hl_M_cell hi_M_cell hs_M_cell hini_M rfl rfl hd_M_cell rfl (rm_M_testRun_M_cell hR) hl.1 (Nat.le_of_ble_eq_true rfl) d_M_testRun_371 rfl ⟨Nat.zero_le _, Nat.zero_le _⟩ (fun H locs hP hD hS => ?_)
            refine lv_l2i hx hb d_M_testRun_374 rfl ?_
            obtain ⟨u8, r8, hc8, hf⟩ := bnd_some hf
            refine mS_l (As := [.int 0, .int r7.toInt32]) (rest := [.ref h0]) C0 hP hD hS (c_M_term N hM hc8) k_M_term hl_M_term ht_M_term hini_M rfl rfl hd_M_term rfl (rm_M_testRun_M_term hR) hl.1 (Nat.le_of_ble_eq_true rfl) d_M_testRun_375 rfl ⟨Nat.zero_le _, Nat.zero_le _⟩ (fun H locs hP hD hS => ?_)
            obtain ⟨u9, r9, hc9, hf⟩ := bnd_some hf
            refine mV_v (As := [.long r8]) (rest := []) C0 hP hD hS (c_M_put N hM hc9) k_M_put hl_M_put hi_M_put hs_M_put hini_M rfl rfl hd_M_put rfl (rm_M_testRun_M_put hR) hl.1 (Nat.le_of_ble_eq_true rfl) d_M_testRun_378 rfl ⟨Nat.zero_le _, Nat.zero_le _⟩ (fun H locs hP hD hS => ?_)
            exact wb_M_testRun_381 C0 hR N G hG _ _ hf H locs hP hD hS ls (lv_sub hl [] rfl)
          · rw [br_n _ hc] at hf
            refine lv_aload_n hx hb d_M_testRun_351 rfl (lv_at hl 3 rfl) ?_
            refine lv_bipush (v := 11) hx hb d_M_testRun_352 (by decide) ?_
            obtain ⟨u10, r10, hc10, hf⟩ := bnd_some hf
            refine mV_v (As := [.int 11]) (rest := []) C0 hP hD hS (c_M_error N hM hc10) k_M_error hl_M_error hi_M_error hs_M_error hini_M rfl rfl hd_M_error rfl (rm_M_testRun_M_error hR) hl.1 (Nat.le_of_ble_eq_true rfl) d_M_testRun_354 rfl ⟨Nat.zero_le _, Nat.zero_le _⟩ (fun H locs hP hD hS => ?_)
            refine lv_goto (tgt := 381) hx hb d_M_testRun_357 (by decide) ?_
            exact wb_M_testRun_381 C0 hR N G hG _ _ hf H locs hP hD hS ls (lv_sub hl [] rfl)
        · rw [br_p _ hc] at hf
          refine lv_aload_n hx hb d_M_testRun_260 rfl (lv_at hl 3 rfl) ?_
          obtain ⟨u11, r11, hc11, hf⟩ := bnd_some hf
          refine mV_l (As := []) (rest := []) C0 hP hD hS (c_M_take N hM hc11) k_M_take hl_M_take hi_M_take hs_M_take hini_M rfl rfl hd_M_take rfl (rm_M_testRun_M_take hR) hl.1 (Nat.le_of_ble_eq_true rfl) d_M_testRun_261 rfl ⟨Nat.zero_le _, Nat.zero_le _⟩ (fun H locs hP hD hS => ?_)
          refine lv_lstore (lv' := [(6, .long r11), (5, .int r5), (3, .long r4), (2, .int (v1 - 18)), (0, .ref h0), (1, .int v1)]) hx hb d_M_testRun_264 hl (by decide) rfl (fun ls hl => ?_)
          refine lv_lload hx hb d_M_testRun_266 (lv_at hl 0 rfl) ?_
          obtain ⟨u12, r12, hc12, hf⟩ := bnd_some hf
          refine mS_i (As := [.long r11]) (rest := []) C0 hP hD hS (c_M_sortOf N hM hc12) k_M_sortOf hl_M_sortOf ht_M_sortOf hini_M rfl rfl hd_M_sortOf rfl (rm_M_testRun_M_sortOf hR) hl.1 (Nat.le_of_ble_eq_true rfl) d_M_testRun_268 rfl ⟨Nat.zero_le _, Nat.zero_le _⟩ (fun H locs hP hD hS => ?_)
          refine lv_if_ne (tgt := 311) hx hb d_M_testRun_271 (by decide) (fun hc => ?_) (fun hc => ?_)
          · rw [br_n _ hc] at hf
            exact wb_M_testRun_311 C0 hR N G hG _ _ hf H locs hP hD hS ls (lv_sub hl [4] rfl)
          · rw [br_p _ hc] at hf
            refine lv_iload hx hb d_M_testRun_274 (lv_at hl 1 rfl) ?_
            refine lv_iconst (v := 5) hx hb d_M_testRun_276 (by decide) ?_
            refine lv_icmp_ne (tgt := 311) hx hb d_M_testRun_277 (by decide) (fun hc => ?_) (fun hc => ?_)
            · rw [br_n _ hc] at hf
              exact wb_M_testRun_311 C0 hR N G hG _ _ hf H locs hP hD hS ls (lv_sub hl [4] rfl)
            · rw [br_p _ hc] at hf
              refine lv_lload hx hb d_M_testRun_280 (lv_at hl 0 rfl) ?_
              obtain ⟨u13, r13, hc13, hf⟩ := bnd_some hf
              refine mS_i (As := [.long r11]) (rest := []) C0 hP hD hS (c_M_valueOf N hM hc13) k_M_valueOf hl_M_valueOf ht_M_valueOf hini_M rfl rfl hd_M_valueOf rfl (rm_M_testRun_M_valueOf hR) hl.1 (Nat.le_of_ble_eq_true rfl) d_M_testRun_282 rfl ⟨Nat.zero_le _, Nat.zero_le _⟩ (fun H locs hP hD hS => ?_)
              refine lv_iconst (v := 1) hx hb d_M_testRun_285 (by decide) ?_
              refine lv_icmp_lt (tgt := 311) hx hb d_M_testRun_286 (by decide) (fun hc => ?_) (fun hc => ?_)
              · rw [br_p _ hc] at hf
                exact wb_M_testRun_311 C0 hR N G hG _ _ hf H locs hP hD hS ls (lv_sub hl [4] rfl)
              · rw [br_n _ hc] at hf
                refine lv_lload hx hb d_M_testRun_289 (lv_at hl 0 rfl) ?_
                obtain ⟨u14, r14, hc14, hf⟩ := bnd_some hf
                refine mS_i (As := [.long r11]) (rest := []) C0 hP hD hS (c_M_valueOf N hM hc14) k_M_valueOf hl_M_valueOf ht_M_valueOf hini_M rfl rfl hd_M_valueOf rfl (rm_M_testRun_M_valueOf hR) hl.1 (Nat.le_of_ble_eq_true rfl) d_M_testRun_291 rfl ⟨Nat.zero_le _, Nat.zero_le _⟩ (fun H locs hP hD hS => ?_)
                refine lv_i2l hx hb d_M_testRun_294 rfl ?_
                refine lv_aload_n hx hb d_M_testRun_295 rfl (lv_at hl 4 rfl) ?_
                refine lv_aload_n hx hb d_M_testRun_296 rfl (lv_at hl 4 rfl) ?_
                refine ug_I hx hb ht hown hM hK hP 133 (by decide) lk_M_133 (by decide) d_M_testRun_297 ?_
                refine lv_lload_n hx hb d_M_testRun_300 rfl (lv_at hl 2 rfl) ?_
                obtain ⟨u15, r15, hc15, hf⟩ := bnd_some hf
                refine mS_i (As := [.long r4]) (rest := [.int (u14.1 133), .ref h0, .long r14.toInt64]) C0 hP hD hS (c_M_valueOf N hM hc15) k_M_valueOf hl_M_valueOf ht_M_valueOf hini_M rfl rfl hd_M_valueOf rfl (rm_M_testRun_M_valueOf hR) hl.1 (Nat.le_of_ble_eq_true rfl) d_M_testRun_301 rfl ⟨Nat.zero_le _, Nat.zero_le _⟩ (fun H locs hP hD hS => ?_)
                obtain ⟨u16, r16, hc16, hf⟩ := bnd_some hf
                refine mV_l (As := [.int (u14.1 133), .int r15]) (rest := [.long r14.toInt64]) C0 hP hD hS (c_M_cell N hM hc16) k_M_cell hl_M_cell hi_M_cell hs_M_cell hini_M rfl rfl hd_M_cell rfl (rm_M_testRun_M_cell hR) hl.1 (Nat.le_of_ble_eq_true rfl) d_M_testRun_304 rfl ⟨Nat.zero_le _, Nat.zero_le _⟩ (fun H locs hP hD hS => ?_)
                refine W.lcmp hx hb d_M_testRun_307 ?_
                refine lv_if_le (tgt := 320) hx hb d_M_testRun_308 (by decide) (fun hc => ?_) (fun hc => ?_)
                · rw [br_p _ hc] at hf
                  refine lv_aload_n hx hb d_M_testRun_320 rfl (lv_at hl 4 rfl) ?_
                  refine lv_aload_n hx hb d_M_testRun_321 rfl (lv_at hl 4 rfl) ?_
                  refine lv_aload_n hx hb d_M_testRun_322 rfl (lv_at hl 4 rfl) ?_
                  refine ug_I hx hb ht hown hM hK hP 133 (by decide) lk_M_133 (by decide) d_M_testRun_323 ?_
                  refine lv_lload_n hx hb d_M_testRun_326 rfl (lv_at hl 2 rfl) ?_
                  obtain ⟨u17, r17, hc17, hf⟩ := bnd_some hf
                  refine mS_i (As := [.long r4]) (rest := [.int (u16.1 133), .ref h0, .ref h0]) C0 hP hD hS (c_M_valueOf N hM hc17) k_M_valueOf hl_M_valueOf ht_M_valueOf hini_M rfl rfl hd_M_valueOf rfl (rm_M_testRun_M_valueOf hR) hl.1 (Nat.le_of_ble_eq_true rfl) d_M_testRun_327 rfl ⟨Nat.zero_le _, Nat.zero_le _⟩ (fun H locs hP hD hS => ?_)
                  refine lv_lload hx hb d_M_testRun_330 (lv_at hl 0 rfl) ?_
                  obtain ⟨u18, r18, hc18, hf⟩ := bnd_some hf
                  refine mS_i (As := [.long r11]) (rest := [.int r17, .int (u16.1 133), .ref h0, .ref h0]) C0 hP hD hS (c_M_valueOf N hM hc18) k_M_valueOf hl_M_valueOf ht_M_valueOf hini_M rfl rfl hd_M_valueOf rfl (rm_M_testRun_M_valueOf hR) hl.1 (Nat.le_of_ble_eq_true rfl) d_M_testRun_332 rfl ⟨Nat.zero_le _, Nat.zero_le _⟩ (fun H locs hP hD hS => ?_)
                  refine lv_iadd hx hb d_M_testRun_335 ?_
                  obtain ⟨u19, r19, hc19, hf⟩ := bnd_some hf
                  refine mV_l (As := [.int (u16.1 133), .int (r17 + r18)]) (rest := [.ref h0]) C0 hP hD hS (c_M_cell N hM hc19) k_M_cell hl_M_cell hi_M_cell hs_M_cell hini_M rfl rfl hd_M_cell rfl (rm_M_testRun_M_cell hR) hl.1 (Nat.le_of_ble_eq_true rfl) d_M_testRun_336 rfl ⟨Nat.zero_le _, Nat.zero_le _⟩ (fun H locs hP hD hS => ?_)
                  obtain ⟨u20, r20, hc20, hf⟩ := bnd_some hf
                  refine mV_v (As := [.long r19]) (rest := []) C0 hP hD hS (c_M_put N hM hc20) k_M_put hl_M_put hi_M_put hs_M_put hini_M rfl rfl hd_M_put rfl (rm_M_testRun_M_put hR) hl.1 (Nat.le_of_ble_eq_true rfl) d_M_testRun_339 rfl ⟨Nat.zero_le _, Nat.zero_le _⟩ (fun H locs hP hD hS => ?_)
                  exact wb_M_testRun_342 C0 hR N G hG _ _ hf H locs hP hD hS ls (lv_sub hl [] rfl)
                · rw [br_n _ hc] at hf
                  exact wb_M_testRun_311 C0 hR N G hG _ _ hf H locs hP hD hS ls (lv_sub hl [4] rfl)
      · rw [br_p _ hc] at hf
        refine lv_aload_n hx hb d_M_testRun_219 rfl (lv_at hl 3 rfl) ?_
        refine lv_lload_n hx hb d_M_testRun_220 rfl (lv_at hl 1 rfl) ?_
        obtain ⟨u21, r21, hc21, hf⟩ := bnd_some hf
        refine mV_i (As := [.long r4]) (rest := []) C0 hP hD hS (c_M_lengthOf N hM hc21) k_M_lengthOf hl_M_lengthOf hi_M_lengthOf hs_M_lengthOf hini_M rfl rfl hd_M_lengthOf rfl (rm_M_testRun_M_lengthOf hR) hl.1 (Nat.le_of_ble_eq_true rfl) d_M_testRun_221 rfl ⟨Nat.zero_le _, Nat.zero_le _⟩ (fun H locs hP hD hS => ?_)
        refine lv_istore (lv' := [(6, .int r21), (5, .int r5), (3, .long r4), (2, .int (v1 - 18)), (0, .ref h0), (1, .int v1)]) hx hb d_M_testRun_224 hl (by decide) rfl (fun ls hl => ?_)
        refine lv_iload hx hb d_M_testRun_226 (lv_at hl 0 rfl) ?_
        refine lv_iconst (v := (-1)) hx hb d_M_testRun_228 (by decide) ?_
        refine lv_icmp_ne (tgt := 241) hx hb d_M_testRun_229 (by decide) (fun hc => ?_) (fun hc => ?_)
        · rw [br_n _ hc] at hf
          refine lv_aload_n hx hb d_M_testRun_241 rfl (lv_at hl 4 rfl) ?_
          refine lv_iconst (v := 0) hx hb d_M_testRun_242 (by decide) ?_
          refine lv_iload hx hb d_M_testRun_243 (lv_at hl 0 rfl) ?_
          obtain ⟨u22, r22, hc22, hf⟩ := bnd_some hf
          refine mS_l (As := [.int 0, .int r21]) (rest := [.ref h0]) C0 hP hD hS (c_M_term N hM hc22) k_M_term hl_M_term ht_M_term hini_M rfl rfl hd_M_term rfl (rm_M_testRun_M_term hR) hl.1 (Nat.le_of_ble_eq_true rfl) d_M_testRun_245 rfl ⟨Nat.zero_le _, Nat.zero_le _⟩ (fun H locs hP hD hS => ?_)
          obtain ⟨u23, r23, hc23, hf⟩ := bnd_some hf
          refine mV_v (As := [.long r22]) (rest := []) C0 hP hD hS (c_M_put N hM hc23) k_M_put hl_M_put hi_M_put hs_M_put hini_M rfl rfl hd_M_put rfl (rm_M_testRun_M_put hR) hl.1 (Nat.le_of_ble_eq_true rfl) d_M_testRun_248 rfl ⟨Nat.zero_le _, Nat.zero_le _⟩ (fun H locs hP hD hS => ?_)
          exact wb_M_testRun_251 C0 hR N G hG _ _ hf H locs hP hD hS ls (lv_sub hl [] rfl)
        · rw [br_p _ hc] at hf
          refine lv_aload_n hx hb d_M_testRun_232 rfl (lv_at hl 4 rfl) ?_
          refine lv_bipush (v := 11) hx hb d_M_testRun_233 (by decide) ?_
          obtain ⟨u24, r24, hc24, hf⟩ := bnd_some hf
          refine mV_v (As := [.int 11]) (rest := []) C0 hP hD hS (c_M_error N hM hc24) k_M_error hl_M_error hi_M_error hs_M_error hini_M rfl rfl hd_M_error rfl (rm_M_testRun_M_error hR) hl.1 (Nat.le_of_ble_eq_true rfl) d_M_testRun_235 rfl ⟨Nat.zero_le _, Nat.zero_le _⟩ (fun H locs hP hD hS => ?_)
          refine lv_goto (tgt := 251) hx hb d_M_testRun_238 (by decide) ?_
          exact wb_M_testRun_251 C0 hR N G hG _ _ hf H locs hP hD hS ls (lv_sub hl [] rfl)
    · rw [br_n _ hc] at hf
      refine lv_iload hx hb d_M_testRun_173 (lv_at hl 0 rfl) ?_
      refine lv_bipush (v := 7) hx hb d_M_testRun_175 (by decide) ?_
      refine lv_icmp_eq (tgt := 189) hx hb d_M_testRun_177 (by decide) (fun hc => ?_) (fun hc => ?_)
      · rw [br_p _ hc] at hf
        refine lv_aload_n hx hb d_M_testRun_189 rfl (lv_at hl 3 rfl) ?_
        refine lv_aload_n hx hb d_M_testRun_190 rfl (lv_at hl 3 rfl) ?_
        refine lv_aload_n hx hb d_M_testRun_191 rfl (lv_at hl 3 rfl) ?_
        refine ug_I hx hb ht hown hM hK hP 133 (by decide) lk_M_133 (by decide) d_M_testRun_192 ?_
        refine lv_lload_n hx hb d_M_testRun_195 rfl (lv_at hl 1 rfl) ?_
        obtain ⟨u25, r25, hc25, hf⟩ := bnd_some hf
        refine mS_i (As := [.long r4]) (rest := [.int (u5.1 133), .ref h0, .ref h0]) C0 hP hD hS (c_M_valueOf N hM hc25) k_M_valueOf hl_M_valueOf ht_M_valueOf hini_M rfl rfl hd_M_valueOf rfl (rm_M_testRun_M_valueOf hR) hl.1 (Nat.le_of_ble_eq_true rfl) d_M_testRun_196 rfl ⟨Nat.zero_le _, Nat.zero_le _⟩ (fun H locs hP hD hS => ?_)
        refine lv_iload_n hx hb d_M_testRun_199 rfl (lv_at hl 2 rfl) ?_
        refine lv_iadd hx hb d_M_testRun_200 ?_
        refine lv_bipush (v := 7) hx hb d_M_testRun_201 (by decide) ?_
        refine lv_isub hx hb d_M_testRun_203 ?_
        obtain ⟨u26, r26, hc26, hf⟩ := bnd_some hf
        refine mV_l (As := [.int (u5.1 133), .int ((r25 + (v1 - 18)) - 7)]) (rest := [.ref h0]) C0 hP hD hS (c_M_cell N hM hc26) k_M_cell hl_M_cell hi_M_cell hs_M_cell hini_M rfl rfl hd_M_cell rfl (rm_M_testRun_M_cell hR) hl.1 (Nat.le_of_ble_eq_true rfl) d_M_testRun_204 rfl ⟨Nat.zero_le _, Nat.zero_le _⟩ (fun H locs hP hD hS => ?_)
        obtain ⟨u27, r27, hc27, hf⟩ := bnd_some hf
        refine mV_v (As := [.long r26]) (rest := []) C0 hP hD hS (c_M_put N hM hc27) k_M_put hl_M_put hi_M_put hs_M_put hini_M rfl rfl hd_M_put rfl (rm_M_testRun_M_put hR) hl.1 (Nat.le_of_ble_eq_true rfl) d_M_testRun_207 rfl ⟨Nat.zero_le _, Nat.zero_le _⟩ (fun H locs hP hD hS => ?_)
        refine lv_goto (tgt := 381) hx hb d_M_testRun_210 (by decide) ?_
        exact wb_M_testRun_381 C0 hR N G hG _ _ hf H locs hP hD hS ls (lv_sub hl [] rfl)
      · rw [br_n _ hc] at hf
        refine lv_aload_n hx hb d_M_testRun_180 rfl (lv_at hl 3 rfl) ?_
        refine lv_bipush (v := 11) hx hb d_M_testRun_181 (by decide) ?_
        obtain ⟨u28, r28, hc28, hf⟩ := bnd_some hf
        refine mV_v (As := [.int 11]) (rest := []) C0 hP hD hS (c_M_error N hM hc28) k_M_error hl_M_error hi_M_error hs_M_error hini_M rfl rfl hd_M_error rfl (rm_M_testRun_M_error hR) hl.1 (Nat.le_of_ble_eq_true rfl) d_M_testRun_183 rfl ⟨Nat.zero_le _, Nat.zero_le _⟩ (fun H locs hP hD hS => ?_)
        refine lv_goto (tgt := 381) hx hb d_M_testRun_186 (by decide) ?_
        exact wb_M_testRun_381 C0 hR N G hG _ _ hf H locs hP hD hS ls (lv_sub hl [] rfl)
  · rw [br_n _ hc] at hf
    refine lv_iload_n hx hb d_M_testRun_22 rfl (lv_at hl 2 rfl) ?_
    refine lv_if_ne (tgt := 39) hx hb d_M_testRun_23 (by decide) (fun hc => ?_) (fun hc => ?_)
    · rw [br_n _ hc] at hf
      refine lv_iload_n hx hb d_M_testRun_39 rfl (lv_at hl 2 rfl) ?_
      refine lv_iconst (v := 1) hx hb d_M_testRun_40 (by decide) ?_
      refine lv_icmp_ne (tgt := 58) hx hb d_M_testRun_41 (by decide) (fun hc => ?_) (fun hc => ?_)
      · rw [br_n _ hc] at hf
        refine lv_iload_n hx hb d_M_testRun_58 rfl (lv_at hl 2 rfl) ?_
        refine lv_iconst (v := 2) hx hb d_M_testRun_59 (by decide) ?_
        refine lv_icmp_ne (tgt := 85) hx hb d_M_testRun_60 (by decide) (fun hc => ?_) (fun hc => ?_)
        · rw [br_n _ hc] at hf
          refine lv_iload_n hx hb d_M_testRun_85 rfl (lv_at hl 2 rfl) ?_
          refine lv_iconst (v := 3) hx hb d_M_testRun_86 (by decide) ?_
          refine lv_icmp_ne (tgt := 104) hx hb d_M_testRun_87 (by decide) (fun hc => ?_) (fun hc => ?_)
          · rw [br_n _ hc] at hf
            refine lv_iload_n hx hb d_M_testRun_104 rfl (lv_at hl 2 rfl) ?_
            refine lv_iconst (v := 4) hx hb d_M_testRun_105 (by decide) ?_
            refine lv_icmp_ne (tgt := 123) hx hb d_M_testRun_106 (by decide) (fun hc => ?_) (fun hc => ?_)
            · rw [br_n _ hc] at hf
              refine lv_iload_n hx hb d_M_testRun_123 rfl (lv_at hl 2 rfl) ?_
              refine lv_iconst (v := 5) hx hb d_M_testRun_124 (by decide) ?_
              refine lv_icmp_ne (tgt := 142) hx hb d_M_testRun_125 (by decide) (fun hc => ?_) (fun hc => ?_)
              · rw [br_n _ hc] at hf
                refine lv_iload hx hb d_M_testRun_142 (lv_at hl 0 rfl) ?_
                refine lv_iconst (v := 2) hx hb d_M_testRun_144 (by decide) ?_
                refine lv_icmp_ne (tgt := 152) hx hb d_M_testRun_145 (by decide) (fun hc => ?_) (fun hc => ?_)
                · rw [br_n _ hc] at hf
                  refine lv_iconst (v := 0) hx hb d_M_testRun_152 (by decide) ?_
                  exact wb_M_testRun_153 C0 hR N G hG _ _ _ hf H locs hP hD hS ls (lv_sub hl [3] rfl)
                · rw [br_p _ hc] at hf
                  refine lv_iconst (v := 1) hx hb d_M_testRun_148 (by decide) ?_
                  refine lv_goto (tgt := 153) hx hb d_M_testRun_149 (by decide) ?_
                  exact wb_M_testRun_153 C0 hR N G hG _ _ _ hf H locs hP hD hS ls (lv_sub hl [3] rfl)
              · rw [br_p _ hc] at hf
                refine lv_iload hx hb d_M_testRun_128 (lv_at hl 0 rfl) ?_
                refine lv_iconst (v := 4) hx hb d_M_testRun_130 (by decide) ?_
                refine lv_icmp_ne (tgt := 138) hx hb d_M_testRun_131 (by decide) (fun hc => ?_) (fun hc => ?_)
                · rw [br_n _ hc] at hf
                  refine lv_iconst (v := 0) hx hb d_M_testRun_138 (by decide) ?_
                  refine lv_goto (tgt := 153) hx hb d_M_testRun_139 (by decide) ?_
                  exact wb_M_testRun_153 C0 hR N G hG _ _ _ hf H locs hP hD hS ls (lv_sub hl [3] rfl)
                · rw [br_p _ hc] at hf
                  refine lv_iconst (v := 1) hx hb d_M_testRun_134 (by decide) ?_
                  refine lv_goto (tgt := 153) hx hb d_M_testRun_135 (by decide) ?_
                  exact wb_M_testRun_153 C0 hR N G hG _ _ _ hf H locs hP hD hS ls (lv_sub hl [3] rfl)
            · rw [br_p _ hc] at hf
              refine lv_iload hx hb d_M_testRun_109 (lv_at hl 0 rfl) ?_
              refine lv_iconst (v := 3) hx hb d_M_testRun_111 (by decide) ?_
              refine lv_icmp_ne (tgt := 119) hx hb d_M_testRun_112 (by decide) (fun hc => ?_) (fun hc => ?_)
              · rw [br_n _ hc] at hf
                refine lv_iconst (v := 0) hx hb d_M_testRun_119 (by decide) ?_
                refine lv_goto (tgt := 153) hx hb d_M_testRun_120 (by decide) ?_
                exact wb_M_testRun_153 C0 hR N G hG _ _ _ hf H locs hP hD hS ls (lv_sub hl [3] rfl)
              · rw [br_p _ hc] at hf
                refine lv_iconst (v := 1) hx hb d_M_testRun_115 (by decide) ?_
                refine lv_goto (tgt := 153) hx hb d_M_testRun_116 (by decide) ?_
                exact wb_M_testRun_153 C0 hR N G hG _ _ _ hf H locs hP hD hS ls (lv_sub hl [3] rfl)
          · rw [br_p _ hc] at hf
            refine lv_iload hx hb d_M_testRun_90 (lv_at hl 0 rfl) ?_
            refine lv_iconst (v := 5) hx hb d_M_testRun_92 (by decide) ?_
            refine lv_icmp_ne (tgt := 100) hx hb d_M_testRun_93 (by decide) (fun hc => ?_) (fun hc => ?_)
            · rw [br_n _ hc] at hf
              refine lv_iconst (v := 0) hx hb d_M_testRun_100 (by decide) ?_
              refine lv_goto (tgt := 153) hx hb d_M_testRun_101 (by decide) ?_
              exact wb_M_testRun_153 C0 hR N G hG _ _ _ hf H locs hP hD hS ls (lv_sub hl [3] rfl)
            · rw [br_p _ hc] at hf
              refine lv_iconst (v := 1) hx hb d_M_testRun_96 (by decide) ?_
              refine lv_goto (tgt := 153) hx hb d_M_testRun_97 (by decide) ?_
              exact wb_M_testRun_153 C0 hR N G hG _ _ _ hf H locs hP hD hS ls (lv_sub hl [3] rfl)
        · rw [br_p _ hc] at hf
          refine lv_iload hx hb d_M_testRun_63 (lv_at hl 0 rfl) ?_
          refine lv_bipush (v := 6) hx hb d_M_testRun_65 (by decide) ?_
          refine lv_icmp_eq (tgt := 77) hx hb d_M_testRun_67 (by decide) (fun hc => ?_) (fun hc => ?_)
          · rw [br_p _ hc] at hf
            exact wb_M_testRun_77 C0 hR N G hG _ _ hf H locs hP hD hS ls (lv_sub hl [3] rfl)
          · rw [br_n _ hc] at hf
            refine lv_iload hx hb d_M_testRun_70 (lv_at hl 0 rfl) ?_
            refine lv_bipush (v := 7) hx hb d_M_testRun_72 (by decide) ?_
            refine lv_icmp_ne (tgt := 81) hx hb d_M_testRun_74 (by decide) (fun hc => ?_) (fun hc => ?_)
            · rw [br_n _ hc] at hf
              refine lv_iconst (v := 0) hx hb d_M_testRun_81 (by decide) ?_
              refine lv_goto (tgt := 153) hx hb d_M_testRun_82 (by decide) ?_
              exact wb_M_testRun_153 C0 hR N G hG _ _ _ hf H locs hP hD hS ls (lv_sub hl [3] rfl)
            · rw [br_p _ hc] at hf
              exact wb_M_testRun_77 C0 hR N G hG _ _ hf H locs hP hD hS ls (lv_sub hl [3] rfl)
      · rw [br_p _ hc] at hf
        refine lv_iload hx hb d_M_testRun_44 (lv_at hl 0 rfl) ?_
        refine lv_iconst (v := 1) hx hb d_M_testRun_46 (by decide) ?_
        refine lv_icmp_ne (tgt := 54) hx hb d_M_testRun_47 (by decide) (fun hc => ?_) (fun hc => ?_)
        · rw [br_n _ hc] at hf
          refine lv_iconst (v := 0) hx hb d_M_testRun_54 (by decide) ?_
          refine lv_goto (tgt := 153) hx hb d_M_testRun_55 (by decide) ?_
          exact wb_M_testRun_153 C0 hR N G hG _ _ _ hf H locs hP hD hS ls (lv_sub hl [3] rfl)
        · rw [br_p _ hc] at hf
          refine lv_iconst (v := 1) hx hb d_M_testRun_50 (by decide) ?_
          refine lv_goto (tgt := 153) hx hb d_M_testRun_51 (by decide) ?_
          exact wb_M_testRun_153 C0 hR N G hG _ _ _ hf H locs hP hD hS ls (lv_sub hl [3] rfl)
    · rw [br_p _ hc] at hf
      refine lv_iload hx hb d_M_testRun_26 (lv_at hl 0 rfl) ?_
      refine lv_if_ne (tgt := 35) hx hb d_M_testRun_28 (by decide) (fun hc => ?_) (fun hc => ?_)
      · rw [br_n _ hc] at hf
        refine lv_iconst (v := 0) hx hb d_M_testRun_35 (by decide) ?_
        refine lv_goto (tgt := 153) hx hb d_M_testRun_36 (by decide) ?_
        exact wb_M_testRun_153 C0 hR N G hG _ _ _ hf H locs hP hD hS ls (lv_sub hl [3] rfl)
      · rw [br_p _ hc] at hf
        refine lv_iconst (v := 1) hx hb d_M_testRun_31 (by decide) ?_
        refine lv_goto (tgt := 153) hx hb d_M_testRun_32 (by decide) ?_
        exact wb_M_testRun_153 C0 hR N G hG _ _ _ hf H locs hP hD hS ls (lv_sub hl [3] rfl)
def fm_M_testRun (N : Nat) (u : MS) (v1 : Int32) : Option (MS × Unit) := fb_M_testRun_0 N () u v1
set_option maxRecDepth 100000 in
set_option maxHeartbeats 4000000 in
theorem c_M_testRun (N : Nat) {l : Launch} {D : va_G} {cl : List vw_C} {cB cI cJ cZ cS : ClassId} {iM h0 : Nat} {ad : Nat → Nat} {u : MS} {sz : Nat} {v1 : Int32} {x : MS × Unit} (hM : cl[iM]? = some (R_M, F_M, 171)) (hf : fm_M_testRun N u v1 = some x) : Met l y_M_testRun (wd_ws y_M_testRun b_M_testRun 8 none) rm_M_testRun (mPc D cl cB cI cJ cZ cS iM h0 ad u sz [.ref h0, .int v1]) (mQv D cl cB cI cJ cZ cS iM h0 ad (mA cB cI cJ cZ cS iM h0 ad u sz) x) 0 0 (mA cB cI cJ cZ cS iM h0 ad u sz) :=
  mMet (by decide) rfl hM (Nat.le_of_ble_eq_true rfl) (fun p e s m below meth c ls hsz C0 hP hD hS hl => by
    have hR : rm_M_testRun = rm_M_testRun := rfl
    exact wb_M_testRun_0 C0 hR N () trivial u _ x hf s.heap [] hP hD hS ls (lv_sub hl [0, 1] rfl))
abbrev b_M_newProcess : ByteArray := prog_14_method_153_code
def y_M_newProcess : MethodName := ⟨R_M, "newProcess", "()I"⟩
def w_M_newProcess : List Cond := wd_ws y_M_newProcess b_M_newProcess 3 (some .int)
set_option maxRecDepth 100000 in
theorem k_M_newProcess : Cond.code y_M_newProcess b_M_newProcess 3 (some .int) ∈ wd_tbl := wd_of 3098 rfl rfl
theorem d_M_newProcess_0 : decode b_M_newProcess 0 = .ok (.aload_n 0, 1) := by decide +kernel
theorem d_M_newProcess_1 : decode b_M_newProcess 1 = .ok (.getfield 989, 3) := by decide +kernel
theorem d_M_newProcess_4 : decode b_M_newProcess 4 = .ok (.istore_n 1, 1) := by decide +kernel
theorem d_M_newProcess_5 : decode b_M_newProcess 5 = .ok (.aload_n 0, 1) := by decide +kernel
theorem d_M_newProcess_6 : decode b_M_newProcess 6 = .ok (.dup, 1) := by decide +kernel
theorem d_M_newProcess_7 : decode b_M_newProcess 7 = .ok (.getfield 989, 3) := by decide +kernel
theorem d_M_newProcess_10 : decode b_M_newProcess 10 = .ok (.iconst 1, 1) := by decide +kernel
theorem d_M_newProcess_11 : decode b_M_newProcess 11 = .ok (.iadd, 1) := by decide +kernel
theorem d_M_newProcess_12 : decode b_M_newProcess 12 = .ok (.putfield 989, 3) := by decide +kernel
theorem d_M_newProcess_15 : decode b_M_newProcess 15 = .ok (.aload_n 0, 1) := by decide +kernel
theorem d_M_newProcess_16 : decode b_M_newProcess 16 = .ok (.getfield 192, 3) := by decide +kernel
theorem d_M_newProcess_19 : decode b_M_newProcess 19 = .ok (.iload_n 1, 1) := by decide +kernel
theorem d_M_newProcess_20 : decode b_M_newProcess 20 = .ok (.iconst 0, 1) := by decide +kernel
theorem d_M_newProcess_21 : decode b_M_newProcess 21 = .ok (.iastore, 1) := by decide +kernel
theorem d_M_newProcess_22 : decode b_M_newProcess 22 = .ok (.aload_n 0, 1) := by decide +kernel
theorem d_M_newProcess_23 : decode b_M_newProcess 23 = .ok (.getfield 195, 3) := by decide +kernel
theorem d_M_newProcess_26 : decode b_M_newProcess 26 = .ok (.iload_n 1, 1) := by decide +kernel
theorem d_M_newProcess_27 : decode b_M_newProcess 27 = .ok (.iconst 0, 1) := by decide +kernel
theorem d_M_newProcess_28 : decode b_M_newProcess 28 = .ok (.iastore, 1) := by decide +kernel
theorem d_M_newProcess_29 : decode b_M_newProcess 29 = .ok (.aload_n 0, 1) := by decide +kernel
theorem d_M_newProcess_30 : decode b_M_newProcess 30 = .ok (.getfield 202, 3) := by decide +kernel
theorem d_M_newProcess_33 : decode b_M_newProcess 33 = .ok (.iload_n 1, 1) := by decide +kernel
theorem d_M_newProcess_34 : decode b_M_newProcess 34 = .ok (.iconst 0, 1) := by decide +kernel
theorem d_M_newProcess_35 : decode b_M_newProcess 35 = .ok (.iastore, 1) := by decide +kernel
theorem d_M_newProcess_36 : decode b_M_newProcess 36 = .ok (.aload_n 0, 1) := by decide +kernel
theorem d_M_newProcess_37 : decode b_M_newProcess 37 = .ok (.getfield 209, 3) := by decide +kernel
theorem d_M_newProcess_40 : decode b_M_newProcess 40 = .ok (.iload_n 1, 1) := by decide +kernel
theorem d_M_newProcess_41 : decode b_M_newProcess 41 = .ok (.iconst 0, 1) := by decide +kernel
theorem d_M_newProcess_42 : decode b_M_newProcess 42 = .ok (.iastore, 1) := by decide +kernel
theorem d_M_newProcess_43 : decode b_M_newProcess 43 = .ok (.aload_n 0, 1) := by decide +kernel
theorem d_M_newProcess_44 : decode b_M_newProcess 44 = .ok (.getfield 212, 3) := by decide +kernel
theorem d_M_newProcess_47 : decode b_M_newProcess 47 = .ok (.iload_n 1, 1) := by decide +kernel
theorem d_M_newProcess_48 : decode b_M_newProcess 48 = .ok (.iconst 1, 1) := by decide +kernel
theorem d_M_newProcess_49 : decode b_M_newProcess 49 = .ok (.iastore, 1) := by decide +kernel
theorem d_M_newProcess_50 : decode b_M_newProcess 50 = .ok (.aload_n 0, 1) := by decide +kernel
theorem d_M_newProcess_51 : decode b_M_newProcess 51 = .ok (.getfield 246, 3) := by decide +kernel
theorem d_M_newProcess_54 : decode b_M_newProcess 54 = .ok (.iload_n 1, 1) := by decide +kernel
theorem d_M_newProcess_55 : decode b_M_newProcess 55 = .ok (.iconst 0, 1) := by decide +kernel
theorem d_M_newProcess_56 : decode b_M_newProcess 56 = .ok (.iastore, 1) := by decide +kernel
theorem d_M_newProcess_57 : decode b_M_newProcess 57 = .ok (.aload_n 0, 1) := by decide +kernel
theorem d_M_newProcess_58 : decode b_M_newProcess 58 = .ok (.getfield 252, 3) := by decide +kernel
theorem d_M_newProcess_61 : decode b_M_newProcess 61 = .ok (.iload_n 1, 1) := by decide +kernel
theorem d_M_newProcess_62 : decode b_M_newProcess 62 = .ok (.iconst 0, 1) := by decide +kernel
theorem d_M_newProcess_63 : decode b_M_newProcess 63 = .ok (.iastore, 1) := by decide +kernel
theorem d_M_newProcess_64 : decode b_M_newProcess 64 = .ok (.aload_n 0, 1) := by decide +kernel
theorem d_M_newProcess_65 : decode b_M_newProcess 65 = .ok (.getfield 255, 3) := by decide +kernel
theorem d_M_newProcess_68 : decode b_M_newProcess 68 = .ok (.iload_n 1, 1) := by decide +kernel
theorem d_M_newProcess_69 : decode b_M_newProcess 69 = .ok (.iconst 5, 1) := by decide +kernel
theorem d_M_newProcess_70 : decode b_M_newProcess 70 = .ok (.iastore, 1) := by decide +kernel
theorem d_M_newProcess_71 : decode b_M_newProcess 71 = .ok (.aload_n 0, 1) := by decide +kernel
theorem d_M_newProcess_72 : decode b_M_newProcess 72 = .ok (.getfield 258, 3) := by decide +kernel
theorem d_M_newProcess_75 : decode b_M_newProcess 75 = .ok (.iload_n 1, 1) := by decide +kernel
theorem d_M_newProcess_76 : decode b_M_newProcess 76 = .ok (.iconst 0, 1) := by decide +kernel
theorem d_M_newProcess_77 : decode b_M_newProcess 77 = .ok (.iastore, 1) := by decide +kernel
theorem d_M_newProcess_78 : decode b_M_newProcess 78 = .ok (.aload_n 0, 1) := by decide +kernel
theorem d_M_newProcess_79 : decode b_M_newProcess 79 = .ok (.getfield 261, 3) := by decide +kernel
theorem d_M_newProcess_82 : decode b_M_newProcess 82 = .ok (.iload_n 1, 1) := by decide +kernel
theorem d_M_newProcess_83 : decode b_M_newProcess 83 = .ok (.ldc2_w 913, 3) := by decide +kernel
theorem d_M_newProcess_86 : decode b_M_newProcess 86 = .ok (.lastore, 1) := by decide +kernel
theorem d_M_newProcess_87 : decode b_M_newProcess 87 = .ok (.aload_n 0, 1) := by decide +kernel
theorem d_M_newProcess_88 : decode b_M_newProcess 88 = .ok (.getfield 264, 3) := by decide +kernel
theorem d_M_newProcess_91 : decode b_M_newProcess 91 = .ok (.iload_n 1, 1) := by decide +kernel
theorem d_M_newProcess_92 : decode b_M_newProcess 92 = .ok (.iconst 0, 1) := by decide +kernel
theorem d_M_newProcess_93 : decode b_M_newProcess 93 = .ok (.bastore, 1) := by decide +kernel
theorem d_M_newProcess_94 : decode b_M_newProcess 94 = .ok (.aload_n 0, 1) := by decide +kernel
theorem d_M_newProcess_95 : decode b_M_newProcess 95 = .ok (.getfield 267, 3) := by decide +kernel
theorem d_M_newProcess_98 : decode b_M_newProcess 98 = .ok (.iload_n 1, 1) := by decide +kernel
theorem d_M_newProcess_99 : decode b_M_newProcess 99 = .ok (.iconst (-1), 1) := by decide +kernel
theorem d_M_newProcess_100 : decode b_M_newProcess 100 = .ok (.iastore, 1) := by decide +kernel
theorem d_M_newProcess_101 : decode b_M_newProcess 101 = .ok (.aload_n 0, 1) := by decide +kernel
theorem d_M_newProcess_102 : decode b_M_newProcess 102 = .ok (.getfield 270, 3) := by decide +kernel
theorem d_M_newProcess_105 : decode b_M_newProcess 105 = .ok (.iload_n 1, 1) := by decide +kernel
theorem d_M_newProcess_106 : decode b_M_newProcess 106 = .ok (.iconst 0, 1) := by decide +kernel
theorem d_M_newProcess_107 : decode b_M_newProcess 107 = .ok (.iastore, 1) := by decide +kernel
theorem d_M_newProcess_108 : decode b_M_newProcess 108 = .ok (.aload_n 0, 1) := by decide +kernel
theorem d_M_newProcess_109 : decode b_M_newProcess 109 = .ok (.getfield 273, 3) := by decide +kernel
theorem d_M_newProcess_112 : decode b_M_newProcess 112 = .ok (.iload_n 1, 1) := by decide +kernel
theorem d_M_newProcess_113 : decode b_M_newProcess 113 = .ok (.iconst 0, 1) := by decide +kernel
theorem d_M_newProcess_114 : decode b_M_newProcess 114 = .ok (.iastore, 1) := by decide +kernel
theorem d_M_newProcess_115 : decode b_M_newProcess 115 = .ok (.aload_n 0, 1) := by decide +kernel
theorem d_M_newProcess_116 : decode b_M_newProcess 116 = .ok (.getfield 279, 3) := by decide +kernel
theorem d_M_newProcess_119 : decode b_M_newProcess 119 = .ok (.iload_n 1, 1) := by decide +kernel
theorem d_M_newProcess_120 : decode b_M_newProcess 120 = .ok (.iconst 0, 1) := by decide +kernel
theorem d_M_newProcess_121 : decode b_M_newProcess 121 = .ok (.iastore, 1) := by decide +kernel
theorem d_M_newProcess_122 : decode b_M_newProcess 122 = .ok (.aload_n 0, 1) := by decide +kernel
theorem d_M_newProcess_123 : decode b_M_newProcess 123 = .ok (.getfield 303, 3) := by decide +kernel
theorem d_M_newProcess_126 : decode b_M_newProcess 126 = .ok (.iload_n 1, 1) := by decide +kernel
theorem d_M_newProcess_127 : decode b_M_newProcess 127 = .ok (.iconst 0, 1) := by decide +kernel
theorem d_M_newProcess_128 : decode b_M_newProcess 128 = .ok (.iastore, 1) := by decide +kernel
theorem d_M_newProcess_129 : decode b_M_newProcess 129 = .ok (.iload_n 1, 1) := by decide +kernel
theorem d_M_newProcess_130 : decode b_M_newProcess 130 = .ok (.bipush 60, 2) := by decide +kernel
theorem d_M_newProcess_132 : decode b_M_newProcess 132 = .ok (.imul, 1) := by decide +kernel
theorem d_M_newProcess_133 : decode b_M_newProcess 133 = .ok (.istore_n 2, 1) := by decide +kernel
theorem d_M_newProcess_134 : decode b_M_newProcess 134 = .ok (.aload_n 0, 1) := by decide +kernel
theorem d_M_newProcess_135 : decode b_M_newProcess 135 = .ok (.getfield 215, 3) := by decide +kernel
theorem d_M_newProcess_138 : decode b_M_newProcess 138 = .ok (.iload_n 2, 1) := by decide +kernel
theorem d_M_newProcess_139 : decode b_M_newProcess 139 = .ok (.iconst (-1), 1) := by decide +kernel
theorem d_M_newProcess_140 : decode b_M_newProcess 140 = .ok (.iastore, 1) := by decide +kernel
theorem d_M_newProcess_141 : decode b_M_newProcess 141 = .ok (.aload_n 0, 1) := by decide +kernel
theorem d_M_newProcess_142 : decode b_M_newProcess 142 = .ok (.getfield 218, 3) := by decide +kernel
theorem d_M_newProcess_145 : decode b_M_newProcess 145 = .ok (.iload_n 2, 1) := by decide +kernel
theorem d_M_newProcess_146 : decode b_M_newProcess 146 = .ok (.iconst (-1), 1) := by decide +kernel
theorem d_M_newProcess_147 : decode b_M_newProcess 147 = .ok (.iastore, 1) := by decide +kernel
theorem d_M_newProcess_148 : decode b_M_newProcess 148 = .ok (.aload_n 0, 1) := by decide +kernel
theorem d_M_newProcess_149 : decode b_M_newProcess 149 = .ok (.getfield 221, 3) := by decide +kernel
theorem d_M_newProcess_152 : decode b_M_newProcess 152 = .ok (.iload_n 2, 1) := by decide +kernel
theorem d_M_newProcess_153 : decode b_M_newProcess 153 = .ok (.iconst 0, 1) := by decide +kernel
theorem d_M_newProcess_154 : decode b_M_newProcess 154 = .ok (.iastore, 1) := by decide +kernel
theorem d_M_newProcess_155 : decode b_M_newProcess 155 = .ok (.aload_n 0, 1) := by decide +kernel
theorem d_M_newProcess_156 : decode b_M_newProcess 156 = .ok (.getfield 224, 3) := by decide +kernel
theorem d_M_newProcess_159 : decode b_M_newProcess 159 = .ok (.iload_n 2, 1) := by decide +kernel
theorem d_M_newProcess_160 : decode b_M_newProcess 160 = .ok (.iconst 0, 1) := by decide +kernel
theorem d_M_newProcess_161 : decode b_M_newProcess 161 = .ok (.iastore, 1) := by decide +kernel
theorem d_M_newProcess_162 : decode b_M_newProcess 162 = .ok (.aload_n 0, 1) := by decide +kernel
theorem d_M_newProcess_163 : decode b_M_newProcess 163 = .ok (.getfield 227, 3) := by decide +kernel
theorem d_M_newProcess_166 : decode b_M_newProcess 166 = .ok (.iload_n 2, 1) := by decide +kernel
theorem d_M_newProcess_167 : decode b_M_newProcess 167 = .ok (.iconst 0, 1) := by decide +kernel
theorem d_M_newProcess_168 : decode b_M_newProcess 168 = .ok (.iastore, 1) := by decide +kernel
theorem d_M_newProcess_169 : decode b_M_newProcess 169 = .ok (.aload_n 0, 1) := by decide +kernel
theorem d_M_newProcess_170 : decode b_M_newProcess 170 = .ok (.getfield 230, 3) := by decide +kernel
theorem d_M_newProcess_173 : decode b_M_newProcess 173 = .ok (.iload_n 2, 1) := by decide +kernel
theorem d_M_newProcess_174 : decode b_M_newProcess 174 = .ok (.iconst 0, 1) := by decide +kernel
theorem d_M_newProcess_175 : decode b_M_newProcess 175 = .ok (.iastore, 1) := by decide +kernel
theorem d_M_newProcess_176 : decode b_M_newProcess 176 = .ok (.iload_n 1, 1) := by decide +kernel
theorem d_M_newProcess_177 : decode b_M_newProcess 177 = .ok (.ireturn, 1) := by decide +kernel
set_option maxRecDepth 100000 in
theorem hl_M_newProcess : Cond.methodLink R_M 1016 y_M_newProcess ∈ wd_tbl := wd_of 3095 (by decide +kernel) rfl
set_option maxRecDepth 100000 in
theorem hi_M_newProcess : Cond.instanceMethod y_M_newProcess ∈ wd_tbl := wd_of 3097 (by decide +kernel) rfl
set_option maxRecDepth 100000 in
theorem hs_M_newProcess : Cond.selects R_M y_M_newProcess y_M_newProcess ∈ wd_tbl := wd_of 229 (by decide +kernel) rfl
theorem hd_M_newProcess : y_M_newProcess.cls = R_M ∧ y_M_newProcess.cls ≠ "java/lang/invoke/MethodHandle" ∧ y_M_newProcess.cls ≠ "java/lang/invoke/VarHandle" ∧ (parseMethodDescriptor y_M_newProcess.desc).map (fun d => d.parameters.length) = some 0 := by decide +kernel
def rm_M_newProcess : Room := { frames := 0, cells := 0, slots := 0, locals := 0 }
def fb_M_newProcess_0 (N : Nat) (G : Unit) (u : MS) : Option (MS × Int32) := lt (upI u 118 ((u.1 118) + 1)) (fun w1 => ck (inb (u.1 118) (ln 89)) (lt (upA w1 89 (upd (w1.2.2.1 89) (u.1 118).toNatClampNeg 0)) (fun w2 => ck (inb (u.1 118) (ln 90)) (lt (upA w2 90 (upd (w2.2.2.1 90) (u.1 118).toNatClampNeg 0)) (fun w3 => ck (inb (u.1 118) (ln 92)) (lt (upA w3 92 (upd (w3.2.2.1 92) (u.1 118).toNatClampNeg 0)) (fun w4 => ck (inb (u.1 118) (ln 94)) (lt (upA w4 94 (upd (w4.2.2.1 94) (u.1 118).toNatClampNeg 0)) (fun w5 => ck (inb (u.1 118) (ln 95)) (lt (upA w5 95 (upd (w5.2.2.1 95) (u.1 118).toNatClampNeg 1)) (fun w6 => ck (inb (u.1 118) (ln 106)) (lt (upA w6 106 (upd (w6.2.2.1 106) (u.1 118).toNatClampNeg 0)) (fun w7 => ck (inb (u.1 118) (ln 108)) (lt (upA w7 108 (upd (w7.2.2.1 108) (u.1 118).toNatClampNeg 0)) (fun w8 => ck (inb (u.1 118) (ln 109)) (lt (upA w8 109 (upd (w8.2.2.1 109) (u.1 118).toNatClampNeg 5)) (fun w9 => ck (inb (u.1 118) (ln 110)) (lt (upA w9 110 (upd (w9.2.2.1 110) (u.1 118).toNatClampNeg 0)) (fun w10 => ck (inb (u.1 118) (ln 111)) (lt (upJ w10 111 (vp_updL (w10.2.2.2 111) (u.1 118).toNatClampNeg (-1))) (fun w11 => ck (inb (u.1 118) (ln 112)) (lt (upA w11 112 (upd (w11.2.2.1 112) (u.1 118).toNatClampNeg (vp_nar .boolean 0))) (fun w12 => ck (inb (u.1 118) (ln 113)) (lt (upA w12 113 (upd (w12.2.2.1 113) (u.1 118).toNatClampNeg (-1))) (fun w13 => ck (inb (u.1 118) (ln 114)) (lt (upA w13 114 (upd (w13.2.2.1 114) (u.1 118).toNatClampNeg 0)) (fun w14 => ck (inb (u.1 118) (ln 115)) (lt (upA w14 115 (upd (w14.2.2.1 115) (u.1 118).toNatClampNeg 0)) (fun w15 => ck (inb (u.1 118) (ln 117)) (lt (upA w15 117 (upd (w15.2.2.1 117) (u.1 118).toNatClampNeg 0)) (fun w16 => ck (inb (u.1 118) (ln 132)) (lt (upA w16 132 (upd (w16.2.2.1 132) (u.1 118).toNatClampNeg 0)) (fun w17 => ck (inb ((u.1 118) * 60) (ln 96)) (lt (upA w17 96 (upd (w17.2.2.1 96) ((u.1 118) * 60).toNatClampNeg (-1))) (fun w18 => ck (inb ((u.1 118) * 60) (ln 97)) (lt (upA w18 97 (upd (w18.2.2.1 97) ((u.1 118) * 60).toNatClampNeg (-1))) (fun w19 => ck (inb ((u.1 118) * 60) (ln 98)) (lt (upA w19 98 (upd (w19.2.2.1 98) ((u.1 118) * 60).toNatClampNeg 0)) (fun w20 => ck (inb ((u.1 118) * 60) (ln 99)) (lt (upA w20 99 (upd (w20.2.2.1 99) ((u.1 118) * 60).toNatClampNeg 0)) (fun w21 => ck (inb ((u.1 118) * 60) (ln 100)) (lt (upA w21 100 (upd (w21.2.2.1 100) ((u.1 118) * 60).toNatClampNeg 0)) (fun w22 => ck (inb ((u.1 118) * 60) (ln 101)) (lt (upA w22 101 (upd (w22.2.2.1 101) ((u.1 118) * 60).toNatClampNeg 0)) (fun w23 => some (w23, (u.1 118)))))))))))))))))))))))))))))))))))))))))))))))
set_option maxRecDepth 100000 in
set_option maxHeartbeats 4000000 in
theorem wb_M_newProcess_0 {p : Program} {l : Launch} {e : Env} {R : Room} {s : State} {m : MethodId} {args : Array Value} {below : List Frame} {meth : Method} {c : Code} {D : va_G} {cl : List vw_C} {cB cI cJ cZ cS : ClassId} {A : Nat → Prop} {iM h0 : Nat} {ad : Nat → Nat} (C0 : MCx p s m args meth c b_M_newProcess 3 (some .int) D cl cB cI cJ cZ cS iM A) (hR : R = rm_M_newProcess) (N : Nat) (G : Unit) (hG : True) : ∀ (u : MS) (x : MS × Int32), fb_M_newProcess_0 N G u = some x → ∀ (H : Heap) (locs : List Loc), va_P D cl (wM cB cI cJ cZ cS iM h0 ad u) H → va_D A (wM cB cI cJ cZ cS iM h0 ad u) → va_S A s.heap H locs → ∀ (ls : Array Slot), lv_has ls 3 [(0, .ref h0)] → W p l e R s m args below meth c H locs 0 0 (MQ below (mQi D cl cB cI cJ cZ cS iM h0 ad A x) args s 0 0 A) (F0 m 0 ls []) := by
  intro u x hf H locs hP hD hS ls hl
  obtain ⟨hx, hb, hr, hml, ht, hown, hM, hK, hA, hlocks⟩ := id C0
  unfold fb_M_newProcess_0 at hf
  refine lv_aload_n hx hb d_M_newProcess_0 rfl (lv_at hl 0 rfl) ?_
  refine ug_I hx hb ht hown hM hK hP 118 (by decide) lk_M_118 (by decide) d_M_newProcess_1 ?_
  refine lv_istore_n (lv' := [(1, .int (u.1 118)), (0, .ref h0)]) hx hb d_M_newProcess_4 rfl hl (by decide) rfl (fun ls hl => ?_)
  refine lv_aload_n hx hb d_M_newProcess_5 rfl (lv_at hl 1 rfl) ?_
  refine lv_dup hx hb d_M_newProcess_6 rfl ?_
  refine ug_I hx hb ht hown hM hK hP 118 (by decide) lk_M_118 (by decide) d_M_newProcess_7 ?_
  refine lv_iconst (v := 1) hx hb d_M_newProcess_10 (by decide) ?_
  refine lv_iadd hx hb d_M_newProcess_11 ?_
  refine up_I hx hb ht hown hM hK hP hD hS 118 (by decide) lk_M_118 (by decide) rfl rfl rfl d_M_newProcess_12 (fun H locs hP hD hS => ?_)
  obtain ⟨w1, e1, hf⟩ := lt_some hf
  rw [← e1] at hP hD
  refine lv_aload_n hx hb d_M_newProcess_15 rfl (lv_at hl 1 rfl) ?_
  refine ug_R hx hb ht hown hM hK hP 89 (by decide) lk_M_89 (by decide) d_M_newProcess_16 ?_
  refine lv_iload_n hx hb d_M_newProcess_19 rfl (lv_at hl 0 rfl) ?_
  refine lv_iconst (v := 0) hx hb d_M_newProcess_20 (by decide) ?_
  obtain ⟨hi9, hf⟩ := ck_some hf
  refine us_I hx hb hK hP hD hS (by decide) (by decide) hi9 d_M_newProcess_21 (fun H locs hP hD hS => ?_)
  obtain ⟨w2, e2, hf⟩ := lt_some hf
  rw [← e2] at hP hD
  refine lv_aload_n hx hb d_M_newProcess_22 rfl (lv_at hl 1 rfl) ?_
  refine ug_R hx hb ht hown hM hK hP 90 (by decide) lk_M_90 (by decide) d_M_newProcess_23 ?_
  refine lv_iload_n hx hb d_M_newProcess_26 rfl (lv_at hl 0 rfl) ?_
  refine lv_iconst (v := 0) hx hb d_M_newProcess_27 (by decide) ?_
  obtain ⟨hi9, hf⟩ := ck_some hf
  refine us_I hx hb hK hP hD hS (by decide) (by decide) hi9 d_M_newProcess_28 (fun H locs hP hD hS => ?_)
  obtain ⟨w3, e3, hf⟩ := lt_some hf
  rw [← e3] at hP hD
  refine lv_aload_n hx hb d_M_newProcess_29 rfl (lv_at hl 1 rfl) ?_
  refine ug_R hx hb ht hown hM hK hP 92 (by decide) lk_M_92 (by decide) d_M_newProcess_30 ?_
  refine lv_iload_n hx hb d_M_newProcess_33 rfl (lv_at hl 0 rfl) ?_
  refine lv_iconst (v := 0) hx hb d_M_newProcess_34 (by decide) ?_
  obtain ⟨hi9, hf⟩ := ck_some hf
  refine us_I hx hb hK hP hD hS (by decide) (by decide) hi9 d_M_newProcess_35 (fun H locs hP hD hS => ?_)
  obtain ⟨w4, e4, hf⟩ := lt_some hf
  rw [← e4] at hP hD
  refine lv_aload_n hx hb d_M_newProcess_36 rfl (lv_at hl 1 rfl) ?_
  refine ug_R hx hb ht hown hM hK hP 94 (by decide) lk_M_94 (by decide) d_M_newProcess_37 ?_
  refine lv_iload_n hx hb d_M_newProcess_40 rfl (lv_at hl 0 rfl) ?_
  refine lv_iconst (v := 0) hx hb d_M_newProcess_41 (by decide) ?_
  obtain ⟨hi9, hf⟩ := ck_some hf
  refine us_I hx hb hK hP hD hS (by decide) (by decide) hi9 d_M_newProcess_42 (fun H locs hP hD hS => ?_)
  obtain ⟨w5, e5, hf⟩ := lt_some hf
  rw [← e5] at hP hD
  refine lv_aload_n hx hb d_M_newProcess_43 rfl (lv_at hl 1 rfl) ?_
  refine ug_R hx hb ht hown hM hK hP 95 (by decide) lk_M_95 (by decide) d_M_newProcess_44 ?_
  refine lv_iload_n hx hb d_M_newProcess_47 rfl (lv_at hl 0 rfl) ?_
  refine lv_iconst (v := 1) hx hb d_M_newProcess_48 (by decide) ?_
  obtain ⟨hi9, hf⟩ := ck_some hf
  refine us_I hx hb hK hP hD hS (by decide) (by decide) hi9 d_M_newProcess_49 (fun H locs hP hD hS => ?_)
  obtain ⟨w6, e6, hf⟩ := lt_some hf
  rw [← e6] at hP hD
  refine lv_aload_n hx hb d_M_newProcess_50 rfl (lv_at hl 1 rfl) ?_
  refine ug_R hx hb ht hown hM hK hP 106 (by decide) lk_M_106 (by decide) d_M_newProcess_51 ?_
  refine lv_iload_n hx hb d_M_newProcess_54 rfl (lv_at hl 0 rfl) ?_
  refine lv_iconst (v := 0) hx hb d_M_newProcess_55 (by decide) ?_
  obtain ⟨hi9, hf⟩ := ck_some hf
  refine us_I hx hb hK hP hD hS (by decide) (by decide) hi9 d_M_newProcess_56 (fun H locs hP hD hS => ?_)
  obtain ⟨w7, e7, hf⟩ := lt_some hf
  rw [← e7] at hP hD
  refine lv_aload_n hx hb d_M_newProcess_57 rfl (lv_at hl 1 rfl) ?_
  refine ug_R hx hb ht hown hM hK hP 108 (by decide) lk_M_108 (by decide) d_M_newProcess_58 ?_
  refine lv_iload_n hx hb d_M_newProcess_61 rfl (lv_at hl 0 rfl) ?_
  refine lv_iconst (v := 0) hx hb d_M_newProcess_62 (by decide) ?_
  obtain ⟨hi9, hf⟩ := ck_some hf
  refine us_I hx hb hK hP hD hS (by decide) (by decide) hi9 d_M_newProcess_63 (fun H locs hP hD hS => ?_)
  obtain ⟨w8, e8, hf⟩ := lt_some hf
  rw [← e8] at hP hD
  refine lv_aload_n hx hb d_M_newProcess_64 rfl (lv_at hl 1 rfl) ?_
  refine ug_R hx hb ht hown hM hK hP 109 (by decide) lk_M_109 (by decide) d_M_newProcess_65 ?_
  refine lv_iload_n hx hb d_M_newProcess_68 rfl (lv_at hl 0 rfl) ?_
  refine lv_iconst (v := 5) hx hb d_M_newProcess_69 (by decide) ?_
  obtain ⟨hi9, hf⟩ := ck_some hf
  refine us_I hx hb hK hP hD hS (by decide) (by decide) hi9 d_M_newProcess_70 (fun H locs hP hD hS => ?_)
  obtain ⟨w9, e9, hf⟩ := lt_some hf
  rw [← e9] at hP hD
  refine lv_aload_n hx hb d_M_newProcess_71 rfl (lv_at hl 1 rfl) ?_
  refine ug_R hx hb ht hown hM hK hP 110 (by decide) lk_M_110 (by decide) d_M_newProcess_72 ?_
  refine lv_iload_n hx hb d_M_newProcess_75 rfl (lv_at hl 0 rfl) ?_
  refine lv_iconst (v := 0) hx hb d_M_newProcess_76 (by decide) ?_
  obtain ⟨hi9, hf⟩ := ck_some hf
  refine us_I hx hb hK hP hD hS (by decide) (by decide) hi9 d_M_newProcess_77 (fun H locs hP hD hS => ?_)
  obtain ⟨w10, e10, hf⟩ := lt_some hf
  rw [← e10] at hP hD
  refine lv_aload_n hx hb d_M_newProcess_78 rfl (lv_at hl 1 rfl) ?_
  refine ug_R hx hb ht hown hM hK hP 111 (by decide) lk_M_111 (by decide) d_M_newProcess_79 ?_
  refine lv_iload_n hx hb d_M_newProcess_82 rfl (lv_at hl 0 rfl) ?_
  refine lv_ldc2 (v := (-1)) hx hb hown (ht _ (wd_of 3094 (by decide +kernel) rfl)) d_M_newProcess_83 ?_
  obtain ⟨hi9, hf⟩ := ck_some hf
  refine us_J hx hb hK hP hD hS (by decide) (by decide) hi9 d_M_newProcess_86 (fun H locs hP hD hS => ?_)
  obtain ⟨w11, e11, hf⟩ := lt_some hf
  rw [← e11] at hP hD
  refine lv_aload_n hx hb d_M_newProcess_87 rfl (lv_at hl 1 rfl) ?_
  refine ug_R hx hb ht hown hM hK hP 112 (by decide) lk_M_112 (by decide) d_M_newProcess_88 ?_
  refine lv_iload_n hx hb d_M_newProcess_91 rfl (lv_at hl 0 rfl) ?_
  refine lv_iconst (v := 0) hx hb d_M_newProcess_92 (by decide) ?_
  obtain ⟨hi9, hf⟩ := ck_some hf
  refine us_Z hx hb hK hP hD hS (by decide) (by decide) hi9 d_M_newProcess_93 (fun H locs hP hD hS => ?_)
  obtain ⟨w12, e12, hf⟩ := lt_some hf
  rw [← e12] at hP hD
  refine lv_aload_n hx hb d_M_newProcess_94 rfl (lv_at hl 1 rfl) ?_
  refine ug_R hx hb ht hown hM hK hP 113 (by decide) lk_M_113 (by decide) d_M_newProcess_95 ?_
  refine lv_iload_n hx hb d_M_newProcess_98 rfl (lv_at hl 0 rfl) ?_
  refine lv_iconst (v := (-1)) hx hb d_M_newProcess_99 (by decide) ?_
  obtain ⟨hi9, hf⟩ := ck_some hf
  refine us_I hx hb hK hP hD hS (by decide) (by decide) hi9 d_M_newProcess_100 (fun H locs hP hD hS => ?_)
  obtain ⟨w13, e13, hf⟩ := lt_some hf
  rw [← e13] at hP hD
  refine lv_aload_n hx hb d_M_newProcess_101 rfl (lv_at hl 1 rfl) ?_
  refine ug_R hx hb ht hown hM hK hP 114 (by decide) lk_M_114 (by decide) d_M_newProcess_102 ?_
  refine lv_iload_n hx hb d_M_newProcess_105 rfl (lv_at hl 0 rfl) ?_
  refine lv_iconst (v := 0) hx hb d_M_newProcess_106 (by decide) ?_
  obtain ⟨hi9, hf⟩ := ck_some hf
  refine us_I hx hb hK hP hD hS (by decide) (by decide) hi9 d_M_newProcess_107 (fun H locs hP hD hS => ?_)
  obtain ⟨w14, e14, hf⟩ := lt_some hf
  rw [← e14] at hP hD
  refine lv_aload_n hx hb d_M_newProcess_108 rfl (lv_at hl 1 rfl) ?_
  refine ug_R hx hb ht hown hM hK hP 115 (by decide) lk_M_115 (by decide) d_M_newProcess_109 ?_
  refine lv_iload_n hx hb d_M_newProcess_112 rfl (lv_at hl 0 rfl) ?_
  refine lv_iconst (v := 0) hx hb d_M_newProcess_113 (by decide) ?_
  obtain ⟨hi9, hf⟩ := ck_some hf
  refine us_I hx hb hK hP hD hS (by decide) (by decide) hi9 d_M_newProcess_114 (fun H locs hP hD hS => ?_)
  obtain ⟨w15, e15, hf⟩ := lt_some hf
  rw [← e15] at hP hD
  refine lv_aload_n hx hb d_M_newProcess_115 rfl (lv_at hl 1 rfl) ?_
  refine ug_R hx hb ht hown hM hK hP 117 (by decide) lk_M_117 (by decide) d_M_newProcess_116 ?_
  refine lv_iload_n hx hb d_M_newProcess_119 rfl (lv_at hl 0 rfl) ?_
  refine lv_iconst (v := 0) hx hb d_M_newProcess_120 (by decide) ?_
  obtain ⟨hi9, hf⟩ := ck_some hf
  refine us_I hx hb hK hP hD hS (by decide) (by decide) hi9 d_M_newProcess_121 (fun H locs hP hD hS => ?_)
  obtain ⟨w16, e16, hf⟩ := lt_some hf
  rw [← e16] at hP hD
  refine lv_aload_n hx hb d_M_newProcess_122 rfl (lv_at hl 1 rfl) ?_
  refine ug_R hx hb ht hown hM hK hP 132 (by decide) lk_M_132 (by decide) d_M_newProcess_123 ?_
  refine lv_iload_n hx hb d_M_newProcess_126 rfl (lv_at hl 0 rfl) ?_
  refine lv_iconst (v := 0) hx hb d_M_newProcess_127 (by decide) ?_
  obtain ⟨hi9, hf⟩ := ck_some hf
  refine us_I hx hb hK hP hD hS (by decide) (by decide) hi9 d_M_newProcess_128 (fun H locs hP hD hS => ?_)
  obtain ⟨w17, e17, hf⟩ := lt_some hf
  rw [← e17] at hP hD
  refine lv_iload_n hx hb d_M_newProcess_129 rfl (lv_at hl 0 rfl) ?_
  refine lv_bipush (v := 60) hx hb d_M_newProcess_130 (by decide) ?_
  refine lv_imul hx hb d_M_newProcess_132 ?_
  refine lv_istore_n (lv' := [(2, .int ((u.1 118) * 60)), (1, .int (u.1 118)), (0, .ref h0)]) hx hb d_M_newProcess_133 rfl hl (by decide) rfl (fun ls hl => ?_)
  refine lv_aload_n hx hb d_M_newProcess_134 rfl (lv_at hl 2 rfl) ?_
  refine ug_R hx hb ht hown hM hK hP 96 (by decide) lk_M_96 (by decide) d_M_newProcess_135 ?_
  refine lv_iload_n hx hb d_M_newProcess_138 rfl (lv_at hl 0 rfl) ?_
  refine lv_iconst (v := (-1)) hx hb d_M_newProcess_139 (by decide) ?_
  obtain ⟨hi9, hf⟩ := ck_some hf
  refine us_I hx hb hK hP hD hS (by decide) (by decide) hi9 d_M_newProcess_140 (fun H locs hP hD hS => ?_)
  obtain ⟨w18, e18, hf⟩ := lt_some hf
  rw [← e18] at hP hD
  refine lv_aload_n hx hb d_M_newProcess_141 rfl (lv_at hl 2 rfl) ?_
  refine ug_R hx hb ht hown hM hK hP 97 (by decide) lk_M_97 (by decide) d_M_newProcess_142 ?_
  refine lv_iload_n hx hb d_M_newProcess_145 rfl (lv_at hl 0 rfl) ?_
  refine lv_iconst (v := (-1)) hx hb d_M_newProcess_146 (by decide) ?_
  obtain ⟨hi9, hf⟩ := ck_some hf
  refine us_I hx hb hK hP hD hS (by decide) (by decide) hi9 d_M_newProcess_147 (fun H locs hP hD hS => ?_)
  obtain ⟨w19, e19, hf⟩ := lt_some hf
  rw [← e19] at hP hD
  refine lv_aload_n hx hb d_M_newProcess_148 rfl (lv_at hl 2 rfl) ?_
  refine ug_R hx hb ht hown hM hK hP 98 (by decide) lk_M_98 (by decide) d_M_newProcess_149 ?_
  refine lv_iload_n hx hb d_M_newProcess_152 rfl (lv_at hl 0 rfl) ?_
  refine lv_iconst (v := 0) hx hb d_M_newProcess_153 (by decide) ?_
  obtain ⟨hi9, hf⟩ := ck_some hf
  refine us_I hx hb hK hP hD hS (by decide) (by decide) hi9 d_M_newProcess_154 (fun H locs hP hD hS => ?_)
  obtain ⟨w20, e20, hf⟩ := lt_some hf
  rw [← e20] at hP hD
  refine lv_aload_n hx hb d_M_newProcess_155 rfl (lv_at hl 2 rfl) ?_
  refine ug_R hx hb ht hown hM hK hP 99 (by decide) lk_M_99 (by decide) d_M_newProcess_156 ?_
  refine lv_iload_n hx hb d_M_newProcess_159 rfl (lv_at hl 0 rfl) ?_
  refine lv_iconst (v := 0) hx hb d_M_newProcess_160 (by decide) ?_
  obtain ⟨hi9, hf⟩ := ck_some hf
  refine us_I hx hb hK hP hD hS (by decide) (by decide) hi9 d_M_newProcess_161 (fun H locs hP hD hS => ?_)
  obtain ⟨w21, e21, hf⟩ := lt_some hf
  rw [← e21] at hP hD
  refine lv_aload_n hx hb d_M_newProcess_162 rfl (lv_at hl 2 rfl) ?_
  refine ug_R hx hb ht hown hM hK hP 100 (by decide) lk_M_100 (by decide) d_M_newProcess_163 ?_
  refine lv_iload_n hx hb d_M_newProcess_166 rfl (lv_at hl 0 rfl) ?_
  refine lv_iconst (v := 0) hx hb d_M_newProcess_167 (by decide) ?_
  obtain ⟨hi9, hf⟩ := ck_some hf
  refine us_I hx hb hK hP hD hS (by decide) (by decide) hi9 d_M_newProcess_168 (fun H locs hP hD hS => ?_)
  obtain ⟨w22, e22, hf⟩ := lt_some hf
  rw [← e22] at hP hD
  refine lv_aload_n hx hb d_M_newProcess_169 rfl (lv_at hl 2 rfl) ?_
  refine ug_R hx hb ht hown hM hK hP 101 (by decide) lk_M_101 (by decide) d_M_newProcess_170 ?_
  refine lv_iload_n hx hb d_M_newProcess_173 rfl (lv_at hl 0 rfl) ?_
  refine lv_iconst (v := 0) hx hb d_M_newProcess_174 (by decide) ?_
  obtain ⟨hi9, hf⟩ := ck_some hf
  refine us_I hx hb hK hP hD hS (by decide) (by decide) hi9 d_M_newProcess_175 (fun H locs hP hD hS => ?_)
  obtain ⟨w23, e23, hf⟩ := lt_some hf
  rw [← e23] at hP hD
  refine lv_iload_n hx hb d_M_newProcess_176 rfl (lv_at hl 1 rfl) ?_
  exact mr_i C0 hP hD hS hf d_M_newProcess_177
def fm_M_newProcess (N : Nat) (u : MS) : Option (MS × Int32) := fb_M_newProcess_0 N () u
set_option maxRecDepth 100000 in
set_option maxHeartbeats 4000000 in
theorem c_M_newProcess (N : Nat) {l : Launch} {D : va_G} {cl : List vw_C} {cB cI cJ cZ cS : ClassId} {iM h0 : Nat} {ad : Nat → Nat} {u : MS} {sz : Nat} {x : MS × Int32} (hM : cl[iM]? = some (R_M, F_M, 171)) (hf : fm_M_newProcess N u = some x) : Met l y_M_newProcess (wd_ws y_M_newProcess b_M_newProcess 3 (some .int)) rm_M_newProcess (mPc D cl cB cI cJ cZ cS iM h0 ad u sz [.ref h0]) (mQi D cl cB cI cJ cZ cS iM h0 ad (mA cB cI cJ cZ cS iM h0 ad u sz) x) 0 0 (mA cB cI cJ cZ cS iM h0 ad u sz) :=
  mMet (by decide) rfl hM (Nat.le_of_ble_eq_true rfl) (fun p e s m below meth c ls hsz C0 hP hD hS hl => by
    have hR : rm_M_newProcess = rm_M_newProcess := rfl
    exact wb_M_newProcess_0 C0 hR N () trivial u x hf s.heap [] hP hD hS ls (lv_sub hl [0] rfl))
abbrev b_M_spawnRun : ByteArray := prog_14_method_154_code
def y_M_spawnRun : MethodName := ⟨R_M, "spawnRun", "()V"⟩
def w_M_spawnRun : List Cond := wd_ws y_M_spawnRun b_M_spawnRun 13 none
set_option maxRecDepth 100000 in
theorem k_M_spawnRun : Cond.code y_M_spawnRun b_M_spawnRun 13 none ∈ wd_tbl := wd_of 3093 rfl rfl
theorem d_M_spawnRun_0 : decode b_M_spawnRun 0 = .ok (.aload_n 0, 1) := by decide +kernel
theorem d_M_spawnRun_1 : decode b_M_spawnRun 1 = .ok (.iconst 0, 1) := by decide +kernel
theorem d_M_spawnRun_2 : decode b_M_spawnRun 2 = .ok (.invokevirtual 848, 3) := by decide +kernel
theorem d_M_spawnRun_5 : decode b_M_spawnRun 5 = .ok (.lstore_n 1, 1) := by decide +kernel
theorem d_M_spawnRun_6 : decode b_M_spawnRun 6 = .ok (.lload_n 1, 1) := by decide +kernel
theorem d_M_spawnRun_7 : decode b_M_spawnRun 7 = .ok (.invokestatic 676, 3) := by decide +kernel
theorem d_M_spawnRun_10 : decode b_M_spawnRun 10 = .ok (.iconst 3, 1) := by decide +kernel
theorem d_M_spawnRun_11 : decode b_M_spawnRun 11 = .ok (.if_icmp .ne 18, 3) := by decide +kernel
theorem d_M_spawnRun_14 : decode b_M_spawnRun 14 = .ok (.aload_n 0, 1) := by decide +kernel
theorem d_M_spawnRun_15 : decode b_M_spawnRun 15 = .ok (.aload_n 0, 1) := by decide +kernel
theorem d_M_spawnRun_16 : decode b_M_spawnRun 16 = .ok (.getfield 669, 3) := by decide +kernel
theorem d_M_spawnRun_19 : decode b_M_spawnRun 19 = .ok (.lload_n 1, 1) := by decide +kernel
theorem d_M_spawnRun_20 : decode b_M_spawnRun 20 = .ok (.invokestatic 680, 3) := by decide +kernel
theorem d_M_spawnRun_23 : decode b_M_spawnRun 23 = .ok (.invokevirtual 683, 3) := by decide +kernel
theorem d_M_spawnRun_26 : decode b_M_spawnRun 26 = .ok (.goto 4, 3) := by decide +kernel
theorem d_M_spawnRun_29 : decode b_M_spawnRun 29 = .ok (.lconst 0, 1) := by decide +kernel
theorem d_M_spawnRun_30 : decode b_M_spawnRun 30 = .ok (.lstore_n 3, 1) := by decide +kernel
theorem d_M_spawnRun_31 : decode b_M_spawnRun 31 = .ok (.lload_n 1, 1) := by decide +kernel
theorem d_M_spawnRun_32 : decode b_M_spawnRun 32 = .ok (.invokestatic 676, 3) := by decide +kernel
theorem d_M_spawnRun_35 : decode b_M_spawnRun 35 = .ok (.iconst 3, 1) := by decide +kernel
theorem d_M_spawnRun_36 : decode b_M_spawnRun 36 = .ok (.if_icmp .eq 7, 3) := by decide +kernel
theorem d_M_spawnRun_39 : decode b_M_spawnRun 39 = .ok (.iconst (-1), 1) := by decide +kernel
theorem d_M_spawnRun_40 : decode b_M_spawnRun 40 = .ok (.goto 35, 3) := by decide +kernel
theorem d_M_spawnRun_43 : decode b_M_spawnRun 43 = .ok (.lload_n 3, 1) := by decide +kernel
theorem d_M_spawnRun_44 : decode b_M_spawnRun 44 = .ok (.lconst 0, 1) := by decide +kernel
theorem d_M_spawnRun_45 : decode b_M_spawnRun 45 = .ok (.lcmp, 1) := by decide +kernel
theorem d_M_spawnRun_46 : decode b_M_spawnRun 46 = .ok (.ifCond .ge 17, 3) := by decide +kernel
theorem d_M_spawnRun_49 : decode b_M_spawnRun 49 = .ok (.aload_n 0, 1) := by decide +kernel
theorem d_M_spawnRun_50 : decode b_M_spawnRun 50 = .ok (.getfield 125, 3) := by decide +kernel
theorem d_M_spawnRun_53 : decode b_M_spawnRun 53 = .ok (.ldc2_w 913, 3) := by decide +kernel
theorem d_M_spawnRun_56 : decode b_M_spawnRun 56 = .ok (.lload_n 3, 1) := by decide +kernel
theorem d_M_spawnRun_57 : decode b_M_spawnRun 57 = .ok (.lsub, 1) := by decide +kernel
theorem d_M_spawnRun_58 : decode b_M_spawnRun 58 = .ok (.l2i, 1) := by decide +kernel
theorem d_M_spawnRun_59 : decode b_M_spawnRun 59 = .ok (.iaload, 1) := by decide +kernel
theorem d_M_spawnRun_60 : decode b_M_spawnRun 60 = .ok (.goto 15, 3) := by decide +kernel
theorem d_M_spawnRun_63 : decode b_M_spawnRun 63 = .ok (.aload_n 0, 1) := by decide +kernel
theorem d_M_spawnRun_64 : decode b_M_spawnRun 64 = .ok (.getfield 107, 3) := by decide +kernel
theorem d_M_spawnRun_67 : decode b_M_spawnRun 67 = .ok (.aload_n 0, 1) := by decide +kernel
theorem d_M_spawnRun_68 : decode b_M_spawnRun 68 = .ok (.getfield 137, 3) := by decide +kernel
theorem d_M_spawnRun_71 : decode b_M_spawnRun 71 = .ok (.lload_n 3, 1) := by decide +kernel
theorem d_M_spawnRun_72 : decode b_M_spawnRun 72 = .ok (.l2i, 1) := by decide +kernel
theorem d_M_spawnRun_73 : decode b_M_spawnRun 73 = .ok (.iaload, 1) := by decide +kernel
theorem d_M_spawnRun_74 : decode b_M_spawnRun 74 = .ok (.iaload, 1) := by decide +kernel
theorem d_M_spawnRun_75 : decode b_M_spawnRun 75 = .ok (.istore 5, 2) := by decide +kernel
theorem d_M_spawnRun_77 : decode b_M_spawnRun 77 = .ok (.iload 5, 2) := by decide +kernel
theorem d_M_spawnRun_79 : decode b_M_spawnRun 79 = .ok (.ifCond .ne 12, 3) := by decide +kernel
theorem d_M_spawnRun_82 : decode b_M_spawnRun 82 = .ok (.aload_n 0, 1) := by decide +kernel
theorem d_M_spawnRun_83 : decode b_M_spawnRun 83 = .ok (.getfield 989, 3) := by decide +kernel
theorem d_M_spawnRun_86 : decode b_M_spawnRun 86 = .ok (.bipush 24, 2) := by decide +kernel
theorem d_M_spawnRun_88 : decode b_M_spawnRun 88 = .ok (.if_icmp .ne 10, 3) := by decide +kernel
theorem d_M_spawnRun_91 : decode b_M_spawnRun 91 = .ok (.aload_n 0, 1) := by decide +kernel
theorem d_M_spawnRun_92 : decode b_M_spawnRun 92 = .ok (.bipush 11, 2) := by decide +kernel
theorem d_M_spawnRun_94 : decode b_M_spawnRun 94 = .ok (.invokevirtual 861, 3) := by decide +kernel
theorem d_M_spawnRun_97 : decode b_M_spawnRun 97 = .ok (.return_, 1) := by decide +kernel
theorem d_M_spawnRun_98 : decode b_M_spawnRun 98 = .ok (.aload_n 0, 1) := by decide +kernel
theorem d_M_spawnRun_99 : decode b_M_spawnRun 99 = .ok (.invokevirtual 1016, 3) := by decide +kernel
theorem d_M_spawnRun_102 : decode b_M_spawnRun 102 = .ok (.istore 6, 2) := by decide +kernel
theorem d_M_spawnRun_104 : decode b_M_spawnRun 104 = .ok (.iload 6, 2) := by decide +kernel
theorem d_M_spawnRun_106 : decode b_M_spawnRun 106 = .ok (.bipush 60, 2) := by decide +kernel
theorem d_M_spawnRun_108 : decode b_M_spawnRun 108 = .ok (.imul, 1) := by decide +kernel
theorem d_M_spawnRun_109 : decode b_M_spawnRun 109 = .ok (.istore 7, 2) := by decide +kernel
theorem d_M_spawnRun_111 : decode b_M_spawnRun 111 = .ok (.aload_n 0, 1) := by decide +kernel
theorem d_M_spawnRun_112 : decode b_M_spawnRun 112 = .ok (.getfield 366, 3) := by decide +kernel
theorem d_M_spawnRun_115 : decode b_M_spawnRun 115 = .ok (.iload 6, 2) := by decide +kernel
theorem d_M_spawnRun_117 : decode b_M_spawnRun 117 = .ok (.iconst (-1), 1) := by decide +kernel
theorem d_M_spawnRun_118 : decode b_M_spawnRun 118 = .ok (.iastore, 1) := by decide +kernel
theorem d_M_spawnRun_119 : decode b_M_spawnRun 119 = .ok (.lload_n 3, 1) := by decide +kernel
theorem d_M_spawnRun_120 : decode b_M_spawnRun 120 = .ok (.lconst 0, 1) := by decide +kernel
theorem d_M_spawnRun_121 : decode b_M_spawnRun 121 = .ok (.lcmp, 1) := by decide +kernel
theorem d_M_spawnRun_122 : decode b_M_spawnRun 122 = .ok (.ifCond .ge 19, 3) := by decide +kernel
theorem d_M_spawnRun_125 : decode b_M_spawnRun 125 = .ok (.aload_n 0, 1) := by decide +kernel
theorem d_M_spawnRun_126 : decode b_M_spawnRun 126 = .ok (.getfield 215, 3) := by decide +kernel
theorem d_M_spawnRun_129 : decode b_M_spawnRun 129 = .ok (.iload 7, 2) := by decide +kernel
theorem d_M_spawnRun_131 : decode b_M_spawnRun 131 = .ok (.ldc2_w 913, 3) := by decide +kernel
theorem d_M_spawnRun_134 : decode b_M_spawnRun 134 = .ok (.lload_n 3, 1) := by decide +kernel
theorem d_M_spawnRun_135 : decode b_M_spawnRun 135 = .ok (.lsub, 1) := by decide +kernel
theorem d_M_spawnRun_136 : decode b_M_spawnRun 136 = .ok (.l2i, 1) := by decide +kernel
theorem d_M_spawnRun_137 : decode b_M_spawnRun 137 = .ok (.iastore, 1) := by decide +kernel
theorem d_M_spawnRun_138 : decode b_M_spawnRun 138 = .ok (.goto 12, 3) := by decide +kernel
theorem d_M_spawnRun_141 : decode b_M_spawnRun 141 = .ok (.aload_n 0, 1) := by decide +kernel
theorem d_M_spawnRun_142 : decode b_M_spawnRun 142 = .ok (.getfield 366, 3) := by decide +kernel
theorem d_M_spawnRun_145 : decode b_M_spawnRun 145 = .ok (.iload 6, 2) := by decide +kernel
theorem d_M_spawnRun_147 : decode b_M_spawnRun 147 = .ok (.lload_n 3, 1) := by decide +kernel
theorem d_M_spawnRun_148 : decode b_M_spawnRun 148 = .ok (.l2i, 1) := by decide +kernel
theorem d_M_spawnRun_149 : decode b_M_spawnRun 149 = .ok (.iastore, 1) := by decide +kernel
theorem d_M_spawnRun_150 : decode b_M_spawnRun 150 = .ok (.aload_n 0, 1) := by decide +kernel
theorem d_M_spawnRun_151 : decode b_M_spawnRun 151 = .ok (.aload_n 0, 1) := by decide +kernel
theorem d_M_spawnRun_152 : decode b_M_spawnRun 152 = .ok (.getfield 669, 3) := by decide +kernel
theorem d_M_spawnRun_155 : decode b_M_spawnRun 155 = .ok (.lload_n 1, 1) := by decide +kernel
theorem d_M_spawnRun_156 : decode b_M_spawnRun 156 = .ok (.invokevirtual 770, 3) := by decide +kernel
theorem d_M_spawnRun_159 : decode b_M_spawnRun 159 = .ok (.istore 8, 2) := by decide +kernel
theorem d_M_spawnRun_161 : decode b_M_spawnRun 161 = .ok (.iload 8, 2) := by decide +kernel
theorem d_M_spawnRun_163 : decode b_M_spawnRun 163 = .ok (.sipush 500, 3) := by decide +kernel
theorem d_M_spawnRun_166 : decode b_M_spawnRun 166 = .ok (.if_icmp .le 21, 3) := by decide +kernel
theorem d_M_spawnRun_169 : decode b_M_spawnRun 169 = .ok (.aload_n 0, 1) := by decide +kernel
theorem d_M_spawnRun_170 : decode b_M_spawnRun 170 = .ok (.iload 6, 2) := by decide +kernel
theorem d_M_spawnRun_172 : decode b_M_spawnRun 172 = .ok (.iconst 0, 1) := by decide +kernel
theorem d_M_spawnRun_173 : decode b_M_spawnRun 173 = .ok (.iload 6, 2) := by decide +kernel
theorem d_M_spawnRun_175 : decode b_M_spawnRun 175 = .ok (.iconst 1, 1) := by decide +kernel
theorem d_M_spawnRun_176 : decode b_M_spawnRun 176 = .ok (.bipush 20, 2) := by decide +kernel
theorem d_M_spawnRun_178 : decode b_M_spawnRun 178 = .ok (.invokestatic 315, 3) := by decide +kernel
theorem d_M_spawnRun_181 : decode b_M_spawnRun 181 = .ok (.invokevirtual 767, 3) := by decide +kernel
theorem d_M_spawnRun_184 : decode b_M_spawnRun 184 = .ok (.goto 102, 3) := by decide +kernel
theorem d_M_spawnRun_187 : decode b_M_spawnRun 187 = .ok (.aload_n 0, 1) := by decide +kernel
theorem d_M_spawnRun_188 : decode b_M_spawnRun 188 = .ok (.aload_n 0, 1) := by decide +kernel
theorem d_M_spawnRun_189 : decode b_M_spawnRun 189 = .ok (.getfield 669, 3) := by decide +kernel
theorem d_M_spawnRun_192 : decode b_M_spawnRun 192 = .ok (.lload_n 1, 1) := by decide +kernel
theorem d_M_spawnRun_193 : decode b_M_spawnRun 193 = .ok (.iload 6, 2) := by decide +kernel
theorem d_M_spawnRun_195 : decode b_M_spawnRun 195 = .ok (.invokevirtual 785, 3) := by decide +kernel
theorem d_M_spawnRun_198 : decode b_M_spawnRun 198 = .ok (.lstore 9, 2) := by decide +kernel
theorem d_M_spawnRun_200 : decode b_M_spawnRun 200 = .ok (.lload_n 3, 1) := by decide +kernel
theorem d_M_spawnRun_201 : decode b_M_spawnRun 201 = .ok (.lconst 0, 1) := by decide +kernel
theorem d_M_spawnRun_202 : decode b_M_spawnRun 202 = .ok (.lcmp, 1) := by decide +kernel
theorem d_M_spawnRun_203 : decode b_M_spawnRun 203 = .ok (.ifCond .lt 83, 3) := by decide +kernel
theorem d_M_spawnRun_206 : decode b_M_spawnRun 206 = .ok (.aload_n 0, 1) := by decide +kernel
theorem d_M_spawnRun_207 : decode b_M_spawnRun 207 = .ok (.iload 6, 2) := by decide +kernel
theorem d_M_spawnRun_209 : decode b_M_spawnRun 209 = .ok (.lload 9, 2) := by decide +kernel
theorem d_M_spawnRun_211 : decode b_M_spawnRun 211 = .ok (.invokestatic 680, 3) := by decide +kernel
theorem d_M_spawnRun_214 : decode b_M_spawnRun 214 = .ok (.iconst 1, 1) := by decide +kernel
theorem d_M_spawnRun_215 : decode b_M_spawnRun 215 = .ok (.iadd, 1) := by decide +kernel
theorem d_M_spawnRun_216 : decode b_M_spawnRun 216 = .ok (.invokevirtual 683, 3) := by decide +kernel
theorem d_M_spawnRun_219 : decode b_M_spawnRun 219 = .ok (.l2i, 1) := by decide +kernel
theorem d_M_spawnRun_220 : decode b_M_spawnRun 220 = .ok (.istore 11, 2) := by decide +kernel
theorem d_M_spawnRun_222 : decode b_M_spawnRun 222 = .ok (.aload_n 0, 1) := by decide +kernel
theorem d_M_spawnRun_223 : decode b_M_spawnRun 223 = .ok (.getfield 230, 3) := by decide +kernel
theorem d_M_spawnRun_226 : decode b_M_spawnRun 226 = .ok (.iload 7, 2) := by decide +kernel
theorem d_M_spawnRun_228 : decode b_M_spawnRun 228 = .ok (.iload 11, 2) := by decide +kernel
theorem d_M_spawnRun_230 : decode b_M_spawnRun 230 = .ok (.iastore, 1) := by decide +kernel
theorem d_M_spawnRun_231 : decode b_M_spawnRun 231 = .ok (.iconst 0, 1) := by decide +kernel
theorem d_M_spawnRun_232 : decode b_M_spawnRun 232 = .ok (.istore 12, 2) := by decide +kernel
theorem d_M_spawnRun_234 : decode b_M_spawnRun 234 = .ok (.iload 12, 2) := by decide +kernel
theorem d_M_spawnRun_236 : decode b_M_spawnRun 236 = .ok (.iload 11, 2) := by decide +kernel
theorem d_M_spawnRun_238 : decode b_M_spawnRun 238 = .ok (.if_icmp .ge 39, 3) := by decide +kernel
theorem d_M_spawnRun_241 : decode b_M_spawnRun 241 = .ok (.aload_n 0, 1) := by decide +kernel
theorem d_M_spawnRun_242 : decode b_M_spawnRun 242 = .ok (.getfield 206, 3) := by decide +kernel
theorem d_M_spawnRun_245 : decode b_M_spawnRun 245 = .ok (.iload 6, 2) := by decide +kernel
theorem d_M_spawnRun_247 : decode b_M_spawnRun 247 = .ok (.sipush 2500, 3) := by decide +kernel
theorem d_M_spawnRun_250 : decode b_M_spawnRun 250 = .ok (.imul, 1) := by decide +kernel
theorem d_M_spawnRun_251 : decode b_M_spawnRun 251 = .ok (.iload 12, 2) := by decide +kernel
theorem d_M_spawnRun_253 : decode b_M_spawnRun 253 = .ok (.iadd, 1) := by decide +kernel
theorem d_M_spawnRun_254 : decode b_M_spawnRun 254 = .ok (.aload_n 0, 1) := by decide +kernel
theorem d_M_spawnRun_255 : decode b_M_spawnRun 255 = .ok (.iload 6, 2) := by decide +kernel
theorem d_M_spawnRun_257 : decode b_M_spawnRun 257 = .ok (.lload 9, 2) := by decide +kernel
theorem d_M_spawnRun_259 : decode b_M_spawnRun 259 = .ok (.invokestatic 680, 3) := by decide +kernel
theorem d_M_spawnRun_262 : decode b_M_spawnRun 262 = .ok (.iconst 2, 1) := by decide +kernel
theorem d_M_spawnRun_263 : decode b_M_spawnRun 263 = .ok (.iadd, 1) := by decide +kernel
theorem d_M_spawnRun_264 : decode b_M_spawnRun 264 = .ok (.iload 12, 2) := by decide +kernel
theorem d_M_spawnRun_266 : decode b_M_spawnRun 266 = .ok (.iadd, 1) := by decide +kernel
theorem d_M_spawnRun_267 : decode b_M_spawnRun 267 = .ok (.invokevirtual 683, 3) := by decide +kernel
theorem d_M_spawnRun_270 : decode b_M_spawnRun 270 = .ok (.lastore, 1) := by decide +kernel
theorem d_M_spawnRun_271 : decode b_M_spawnRun 271 = .ok (.iinc 12 1, 3) := by decide +kernel
theorem d_M_spawnRun_274 : decode b_M_spawnRun 274 = .ok (.goto (-40), 3) := by decide +kernel
theorem d_M_spawnRun_277 : decode b_M_spawnRun 277 = .ok (.aload_n 0, 1) := by decide +kernel
theorem d_M_spawnRun_278 : decode b_M_spawnRun 278 = .ok (.getfield 209, 3) := by decide +kernel
theorem d_M_spawnRun_281 : decode b_M_spawnRun 281 = .ok (.iload 6, 2) := by decide +kernel
theorem d_M_spawnRun_283 : decode b_M_spawnRun 283 = .ok (.iload 11, 2) := by decide +kernel
theorem d_M_spawnRun_285 : decode b_M_spawnRun 285 = .ok (.iastore, 1) := by decide +kernel
theorem d_M_spawnRun_286 : decode b_M_spawnRun 286 = .ok (.aload_n 0, 1) := by decide +kernel
theorem d_M_spawnRun_287 : decode b_M_spawnRun 287 = .ok (.invokevirtual 930, 3) := by decide +kernel
theorem d_M_spawnRun_290 : decode b_M_spawnRun 290 = .ok (.lstore_n 1, 1) := by decide +kernel
theorem d_M_spawnRun_291 : decode b_M_spawnRun 291 = .ok (.aload_n 0, 1) := by decide +kernel
theorem d_M_spawnRun_292 : decode b_M_spawnRun 292 = .ok (.iconst 4, 1) := by decide +kernel
theorem d_M_spawnRun_293 : decode b_M_spawnRun 293 = .ok (.iload 6, 2) := by decide +kernel
theorem d_M_spawnRun_295 : decode b_M_spawnRun 295 = .ok (.invokestatic 315, 3) := by decide +kernel
theorem d_M_spawnRun_298 : decode b_M_spawnRun 298 = .ok (.invokevirtual 801, 3) := by decide +kernel
theorem d_M_spawnRun_301 : decode b_M_spawnRun 301 = .ok (.return_, 1) := by decide +kernel
set_option maxRecDepth 100000 in
theorem hl_M_spawnRun : Cond.methodLink R_M 995 y_M_spawnRun ∈ wd_tbl := wd_of 3090 (by decide +kernel) rfl
set_option maxRecDepth 100000 in
theorem hi_M_spawnRun : Cond.instanceMethod y_M_spawnRun ∈ wd_tbl := wd_of 3092 (by decide +kernel) rfl
set_option maxRecDepth 100000 in
theorem hs_M_spawnRun : Cond.selects R_M y_M_spawnRun y_M_spawnRun ∈ wd_tbl := wd_of 228 (by decide +kernel) rfl
theorem hd_M_spawnRun : y_M_spawnRun.cls = R_M ∧ y_M_spawnRun.cls ≠ "java/lang/invoke/MethodHandle" ∧ y_M_spawnRun.cls ≠ "java/lang/invoke/VarHandle" ∧ (parseMethodDescriptor y_M_spawnRun.desc).map (fun d => d.parameters.length) = some 0 := by decide +kernel
def rm_M_spawnRun : Room := { frames := 27, cells := 0, slots := 0, locals := 704 }
theorem rm_M_spawnRun_M_top {R : Room} (hR : R = rm_M_spawnRun) : (rm_M_top).frames + 1 ≤ R.frames ∧ 8 + (2 + 11) + (rm_M_top).locals ≤ R.locals := by subst hR; decide
theorem rm_M_spawnRun_M_sortOf {R : Room} (hR : R = rm_M_spawnRun) : (rm_M_sortOf).frames + 1 ≤ R.frames ∧ 8 + (2 + 11) + (rm_M_sortOf).locals ≤ R.locals := by subst hR; decide
theorem rm_M_spawnRun_M_valueOf {R : Room} (hR : R = rm_M_spawnRun) : (rm_M_valueOf).frames + 1 ≤ R.frames ∧ 8 + (2 + 11) + (rm_M_valueOf).locals ≤ R.locals := by subst hR; decide
theorem rm_M_spawnRun_M_cell {R : Room} (hR : R = rm_M_spawnRun) : (rm_M_cell).frames + 1 ≤ R.frames ∧ 8 + (3 + 11) + (rm_M_cell).locals ≤ R.locals := by subst hR; decide
theorem rm_M_spawnRun_M_error {R : Room} (hR : R = rm_M_spawnRun) : (rm_M_error).frames + 1 ≤ R.frames ∧ 8 + (2 + 11) + (rm_M_error).locals ≤ R.locals := by subst hR; decide
theorem rm_M_spawnRun_M_newProcess {R : Room} (hR : R = rm_M_spawnRun) : (rm_M_newProcess).frames + 1 ≤ R.frames ∧ 8 + (3 + 11) + (rm_M_newProcess).locals ≤ R.locals := by subst hR; decide
theorem rm_M_spawnRun_M_copySize {R : Room} (hR : R = rm_M_spawnRun) : (rm_M_copySize).frames + 1 ≤ R.frames ∧ 8 + (10 + 11) + (rm_M_copySize).locals ≤ R.locals := by subst hR; decide
theorem rm_M_spawnRun_M_term {R : Room} (hR : R = rm_M_spawnRun) : (rm_M_term).frames + 1 ≤ R.frames ∧ 8 + (2 + 11) + (rm_M_term).locals ≤ R.locals := by subst hR; decide
theorem rm_M_spawnRun_M_willEnd {R : Room} (hR : R = rm_M_spawnRun) : (rm_M_willEnd).frames + 1 ≤ R.frames ∧ 8 + (6 + 11) + (rm_M_willEnd).locals ≤ R.locals := by subst hR; decide
theorem rm_M_spawnRun_M_copy {R : Room} (hR : R = rm_M_spawnRun) : (rm_M_copy).frames + 1 ≤ R.frames ∧ 8 + (16 + 11) + (rm_M_copy).locals ≤ R.locals := by subst hR; decide
theorem rm_M_spawnRun_M_take {R : Room} (hR : R = rm_M_spawnRun) : (rm_M_take).frames + 1 ≤ R.frames ∧ 8 + (1 + 11) + (rm_M_take).locals ≤ R.locals := by subst hR; decide
theorem rm_M_spawnRun_M_put {R : Room} (hR : R = rm_M_spawnRun) : (rm_M_put).frames + 1 ≤ R.frames ∧ 8 + (3 + 11) + (rm_M_put).locals ≤ R.locals := by subst hR; decide
def fb_M_spawnRun_286 (N : Nat) (G : (MS → Int32 → Int64 → Int32 → Int32 → Option (MS × Unit))) (u : MS) (v6 : Int32) : Option (MS × Unit) := bnd (fm_M_take N u) (fun u1 r1 => bnd (fm_M_term N u1 4 v6) (fun u2 r2 => bnd (fm_M_put N u2 r2) (fun u3 _ => some (u3, ()))))
set_option maxRecDepth 100000 in
set_option maxHeartbeats 4000000 in
theorem wb_M_spawnRun_286 {p : Program} {l : Launch} {e : Env} {R : Room} {s : State} {m : MethodId} {args : Array Value} {below : List Frame} {meth : Method} {c : Code} {D : va_G} {cl : List vw_C} {cB cI cJ cZ cS : ClassId} {A : Nat → Prop} {iM h0 : Nat} {ad : Nat → Nat} (C0 : MCx p s m args meth c b_M_spawnRun 13 none D cl cB cI cJ cZ cS iM A) (hR : R = rm_M_spawnRun) (N : Nat) (G : (MS → Int32 → Int64 → Int32 → Int32 → Option (MS × Unit))) (hG : (∀ (u : MS) (v6 : Int32) (v9 : Int64) (v11 : Int32) (v12 : Int32) (x : MS × Unit), G u v6 v9 v11 v12 = some x → ∀ (H : Heap) (locs : List Loc), va_P D cl (wM cB cI cJ cZ cS iM h0 ad u) H → va_D A (wM cB cI cJ cZ cS iM h0 ad u) → va_S A s.heap H locs → ∀ (ls : Array Slot), lv_has ls 13 [(0, .ref h0), (6, .int v6), (9, .long v9), (11, .int v11), (12, .int v12)] → W p l e R s m args below meth c H locs 0 0 (MQ below (mQv D cl cB cI cJ cZ cS iM h0 ad A x) args s 0 0 A) (F0 m 234 ls []))) : ∀ (u : MS) (v6 : Int32) (x : MS × Unit), fb_M_spawnRun_286 N G u v6 = some x → ∀ (H : Heap) (locs : List Loc), va_P D cl (wM cB cI cJ cZ cS iM h0 ad u) H → va_D A (wM cB cI cJ cZ cS iM h0 ad u) → va_S A s.heap H locs → ∀ (ls : Array Slot), lv_has ls 13 [(0, .ref h0), (6, .int v6)] → W p l e R s m args below meth c H locs 0 0 (MQ below (mQv D cl cB cI cJ cZ cS iM h0 ad A x) args s 0 0 A) (F0 m 286 ls []) := by
  intro u v6 x hf H locs hP hD hS ls hl
  obtain ⟨hx, hb, hr, hml, ht, hown, hM, hK, hA, hlocks⟩ := id C0
  unfold fb_M_spawnRun_286 at hf
  refine lv_aload_n hx hb d_M_spawnRun_286 rfl (lv_at hl 0 rfl) ?_
  obtain ⟨u1, r1, hc1, hf⟩ := bnd_some hf
  refine mV_l (As := []) (rest := []) C0 hP hD hS (c_M_take N hM hc1) k_M_take hl_M_take hi_M_take hs_M_take hini_M rfl rfl hd_M_take rfl (rm_M_spawnRun_M_take hR) hl.1 (Nat.le_of_ble_eq_true rfl) d_M_spawnRun_287 rfl ⟨Nat.zero_le _, Nat.zero_le _⟩ (fun H locs hP hD hS => ?_)
  refine lv_lstore_n (lv' := [(1, .long r1), (0, .ref h0), (6, .int v6)]) hx hb d_M_spawnRun_290 rfl hl (by decide) rfl (fun ls hl => ?_)
  refine lv_aload_n hx hb d_M_spawnRun_291 rfl (lv_at hl 1 rfl) ?_
  refine lv_iconst (v := 4) hx hb d_M_spawnRun_292 (by decide) ?_
  refine lv_iload hx hb d_M_spawnRun_293 (lv_at hl 2 rfl) ?_
  obtain ⟨u2, r2, hc2, hf⟩ := bnd_some hf
  refine mS_l (As := [.int 4, .int v6]) (rest := [.ref h0]) C0 hP hD hS (c_M_term N hM hc2) k_M_term hl_M_term ht_M_term hini_M rfl rfl hd_M_term rfl (rm_M_spawnRun_M_term hR) hl.1 (Nat.le_of_ble_eq_true rfl) d_M_spawnRun_295 rfl ⟨Nat.zero_le _, Nat.zero_le _⟩ (fun H locs hP hD hS => ?_)
  obtain ⟨u3, r3, hc3, hf⟩ := bnd_some hf
  refine mV_v (As := [.long r2]) (rest := []) C0 hP hD hS (c_M_put N hM hc3) k_M_put hl_M_put hi_M_put hs_M_put hini_M rfl rfl hd_M_put rfl (rm_M_spawnRun_M_put hR) hl.1 (Nat.le_of_ble_eq_true rfl) d_M_spawnRun_298 rfl ⟨Nat.zero_le _, Nat.zero_le _⟩ (fun H locs hP hD hS => ?_)
  exact mr_v C0 hP hD hS hf d_M_spawnRun_301
def fb_M_spawnRun_234 (N : Nat) (G : (MS → Int32 → Int64 → Int32 → Int32 → Option (MS × Unit))) (u : MS) (v6 : Int32) (v9 : Int64) (v11 : Int32) (v12 : Int32) : Option (MS × Unit) := br (decide (v11 ≤ v12)) (ck (inb v6 (ln 94)) (lt (upA u 94 (upd (u.2.2.1 94) v6.toNatClampNeg v11)) (fun w4 => fb_M_spawnRun_286 N G w4 (v6)))) (bnd (fm_M_valueOf N u v9) (fun u5 r5 => bnd (fm_M_cell N u5 v6 ((r5 + 2) + v12)) (fun u6 r6 => ck (inb ((v6 * 2500) + v12) (ln 93)) (lt (upJ u6 93 (vp_updL (u6.2.2.2 93) ((v6 * 2500) + v12).toNatClampNeg r6)) (fun w7 => G w7 (v6) (v9) (v11) ((v12 + 1)))))))
set_option maxRecDepth 100000 in
set_option maxHeartbeats 4000000 in
theorem wb_M_spawnRun_234 {p : Program} {l : Launch} {e : Env} {R : Room} {s : State} {m : MethodId} {args : Array Value} {below : List Frame} {meth : Method} {c : Code} {D : va_G} {cl : List vw_C} {cB cI cJ cZ cS : ClassId} {A : Nat → Prop} {iM h0 : Nat} {ad : Nat → Nat} (C0 : MCx p s m args meth c b_M_spawnRun 13 none D cl cB cI cJ cZ cS iM A) (hR : R = rm_M_spawnRun) (N : Nat) (G : (MS → Int32 → Int64 → Int32 → Int32 → Option (MS × Unit))) (hG : (∀ (u : MS) (v6 : Int32) (v9 : Int64) (v11 : Int32) (v12 : Int32) (x : MS × Unit), G u v6 v9 v11 v12 = some x → ∀ (H : Heap) (locs : List Loc), va_P D cl (wM cB cI cJ cZ cS iM h0 ad u) H → va_D A (wM cB cI cJ cZ cS iM h0 ad u) → va_S A s.heap H locs → ∀ (ls : Array Slot), lv_has ls 13 [(0, .ref h0), (6, .int v6), (9, .long v9), (11, .int v11), (12, .int v12)] → W p l e R s m args below meth c H locs 0 0 (MQ below (mQv D cl cB cI cJ cZ cS iM h0 ad A x) args s 0 0 A) (F0 m 234 ls []))) : ∀ (u : MS) (v6 : Int32) (v9 : Int64) (v11 : Int32) (v12 : Int32) (x : MS × Unit), fb_M_spawnRun_234 N G u v6 v9 v11 v12 = some x → ∀ (H : Heap) (locs : List Loc), va_P D cl (wM cB cI cJ cZ cS iM h0 ad u) H → va_D A (wM cB cI cJ cZ cS iM h0 ad u) → va_S A s.heap H locs → ∀ (ls : Array Slot), lv_has ls 13 [(0, .ref h0), (6, .int v6), (9, .long v9), (11, .int v11), (12, .int v12)] → W p l e R s m args below meth c H locs 0 0 (MQ below (mQv D cl cB cI cJ cZ cS iM h0 ad A x) args s 0 0 A) (F0 m 234 ls []) := by
  intro u v6 v9 v11 v12 x hf H locs hP hD hS ls hl
  obtain ⟨hx, hb, hr, hml, ht, hown, hM, hK, hA, hlocks⟩ := id C0
  unfold fb_M_spawnRun_234 at hf
  refine lv_iload hx hb d_M_spawnRun_234 (lv_at hl 4 rfl) ?_
  refine lv_iload hx hb d_M_spawnRun_236 (lv_at hl 3 rfl) ?_
  refine lv_icmp_ge (tgt := 277) hx hb d_M_spawnRun_238 (by decide) (fun hc => ?_) (fun hc => ?_)
  · rw [br_p _ hc] at hf
    refine lv_aload_n hx hb d_M_spawnRun_277 rfl (lv_at hl 0 rfl) ?_
    refine ug_R hx hb ht hown hM hK hP 94 (by decide) lk_M_94 (by decide) d_M_spawnRun_278 ?_
    refine lv_iload hx hb d_M_spawnRun_281 (lv_at hl 1 rfl) ?_
    refine lv_iload hx hb d_M_spawnRun_283 (lv_at hl 3 rfl) ?_
    obtain ⟨hi9, hf⟩ := ck_some hf
    refine us_I hx hb hK hP hD hS (by decide) (by decide) hi9 d_M_spawnRun_285 (fun H locs hP hD hS => ?_)
    obtain ⟨w4, e4, hf⟩ := lt_some hf
    rw [← e4] at hP hD
    exact wb_M_spawnRun_286 C0 hR N G hG _ _ _ hf H locs hP hD hS ls (lv_sub hl [0, 1] rfl)
  · rw [br_n _ hc] at hf
    refine lv_aload_n hx hb d_M_spawnRun_241 rfl (lv_at hl 0 rfl) ?_
    refine ug_R hx hb ht hown hM hK hP 93 (by decide) lk_M_93 (by decide) d_M_spawnRun_242 ?_
    refine lv_iload hx hb d_M_spawnRun_245 (lv_at hl 1 rfl) ?_
    refine lv_sipush (v := 2500) hx hb d_M_spawnRun_247 (by decide) ?_
    refine lv_imul hx hb d_M_spawnRun_250 ?_
    refine lv_iload hx hb d_M_spawnRun_251 (lv_at hl 4 rfl) ?_
    refine lv_iadd hx hb d_M_spawnRun_253 ?_
    refine lv_aload_n hx hb d_M_spawnRun_254 rfl (lv_at hl 0 rfl) ?_
    refine lv_iload hx hb d_M_spawnRun_255 (lv_at hl 1 rfl) ?_
    refine lv_lload hx hb d_M_spawnRun_257 (lv_at hl 2 rfl) ?_
    obtain ⟨u5, r5, hc5, hf⟩ := bnd_some hf
    refine mS_i (As := [.long v9]) (rest := [.int v6, .ref h0, .int ((v6 * 2500) + v12), .ref (ad 93)]) C0 hP hD hS (c_M_valueOf N hM hc5) k_M_valueOf hl_M_valueOf ht_M_valueOf hini_M rfl rfl hd_M_valueOf rfl (rm_M_spawnRun_M_valueOf hR) hl.1 (Nat.le_of_ble_eq_true rfl) d_M_spawnRun_259 rfl ⟨Nat.zero_le _, Nat.zero_le _⟩ (fun H locs hP hD hS => ?_)
    refine lv_iconst (v := 2) hx hb d_M_spawnRun_262 (by decide) ?_
    refine lv_iadd hx hb d_M_spawnRun_263 ?_
    refine lv_iload hx hb d_M_spawnRun_264 (lv_at hl 4 rfl) ?_
    refine lv_iadd hx hb d_M_spawnRun_266 ?_
    obtain ⟨u6, r6, hc6, hf⟩ := bnd_some hf
    refine mV_l (As := [.int v6, .int ((r5 + 2) + v12)]) (rest := [.int ((v6 * 2500) + v12), .ref (ad 93)]) C0 hP hD hS (c_M_cell N hM hc6) k_M_cell hl_M_cell hi_M_cell hs_M_cell hini_M rfl rfl hd_M_cell rfl (rm_M_spawnRun_M_cell hR) hl.1 (Nat.le_of_ble_eq_true rfl) d_M_spawnRun_267 rfl ⟨Nat.zero_le _, Nat.zero_le _⟩ (fun H locs hP hD hS => ?_)
    obtain ⟨hi9, hf⟩ := ck_some hf
    refine us_J hx hb hK hP hD hS (by decide) (by decide) hi9 d_M_spawnRun_270 (fun H locs hP hD hS => ?_)
    obtain ⟨w7, e7, hf⟩ := lt_some hf
    rw [← e7] at hP hD
    refine lv_iinc (v := (v12 + 1)) (lv' := [(12, .int (v12 + 1)), (0, .ref h0), (6, .int v6), (9, .long v9), (11, .int v11)]) hx hb d_M_spawnRun_271 hl (k := 4) rfl rfl (by decide) rfl (fun ls hl => ?_)
    refine lv_goto (tgt := 234) hx hb d_M_spawnRun_274 (by decide) ?_
    exact hG _ _ _ _ _ _ hf H locs hP hD hS ls (lv_sub hl [1, 2, 3, 4, 0] rfl)
def fb_M_spawnRun_150 (N : Nat) (G : (MS → Int32 → Int64 → Int32 → Int32 → Option (MS × Unit))) (u : MS) (v1 : Int64) (v3 : Int64) (v6 : Int32) (v7 : Int32) : Option (MS × Unit) := bnd (fm_M_copySize N u (u.1 133) v1) (fun u8 r8 => br (decide (r8 ≤ 500)) (bnd (fm_M_copy N u8 (u8.1 133) v1 v6) (fun u9 r9 => br (decide ((lg_cmp v3 0) < 0)) (fb_M_spawnRun_286 N G u9 (v6)) (bnd (fm_M_valueOf N u9 r9) (fun u10 r10 => bnd (fm_M_cell N u10 v6 (r10 + 1)) (fun u11 r11 => ck (inb v7 (ln 101)) (lt (upA u11 101 (upd (u11.2.2.1 101) v7.toNatClampNeg (r11.toInt32))) (fun w12 => G w12 (v6) (r9) (r11.toInt32) (0)))))))) (bnd (fm_M_term N u8 1 20) (fun u13 r13 => bnd (fm_M_willEnd N u13 v6 0 v6 r13) (fun u14 _ => fb_M_spawnRun_286 N G u14 (v6)))))
set_option maxRecDepth 100000 in
set_option maxHeartbeats 4000000 in
theorem wb_M_spawnRun_150 {p : Program} {l : Launch} {e : Env} {R : Room} {s : State} {m : MethodId} {args : Array Value} {below : List Frame} {meth : Method} {c : Code} {D : va_G} {cl : List vw_C} {cB cI cJ cZ cS : ClassId} {A : Nat → Prop} {iM h0 : Nat} {ad : Nat → Nat} (C0 : MCx p s m args meth c b_M_spawnRun 13 none D cl cB cI cJ cZ cS iM A) (hR : R = rm_M_spawnRun) (N : Nat) (G : (MS → Int32 → Int64 → Int32 → Int32 → Option (MS × Unit))) (hG : (∀ (u : MS) (v6 : Int32) (v9 : Int64) (v11 : Int32) (v12 : Int32) (x : MS × Unit), G u v6 v9 v11 v12 = some x → ∀ (H : Heap) (locs : List Loc), va_P D cl (wM cB cI cJ cZ cS iM h0 ad u) H → va_D A (wM cB cI cJ cZ cS iM h0 ad u) → va_S A s.heap H locs → ∀ (ls : Array Slot), lv_has ls 13 [(0, .ref h0), (6, .int v6), (9, .long v9), (11, .int v11), (12, .int v12)] → W p l e R s m args below meth c H locs 0 0 (MQ below (mQv D cl cB cI cJ cZ cS iM h0 ad A x) args s 0 0 A) (F0 m 234 ls []))) : ∀ (u : MS) (v1 : Int64) (v3 : Int64) (v6 : Int32) (v7 : Int32) (x : MS × Unit), fb_M_spawnRun_150 N G u v1 v3 v6 v7 = some x → ∀ (H : Heap) (locs : List Loc), va_P D cl (wM cB cI cJ cZ cS iM h0 ad u) H → va_D A (wM cB cI cJ cZ cS iM h0 ad u) → va_S A s.heap H locs → ∀ (ls : Array Slot), lv_has ls 13 [(0, .ref h0), (1, .long v1), (3, .long v3), (6, .int v6), (7, .int v7)] → W p l e R s m args below meth c H locs 0 0 (MQ below (mQv D cl cB cI cJ cZ cS iM h0 ad A x) args s 0 0 A) (F0 m 150 ls []) := by
  intro u v1 v3 v6 v7 x hf H locs hP hD hS ls hl
  obtain ⟨hx, hb, hr, hml, ht, hown, hM, hK, hA, hlocks⟩ := id C0
  unfold fb_M_spawnRun_150 at hf
  refine lv_aload_n hx hb d_M_spawnRun_150 rfl (lv_at hl 0 rfl) ?_
  refine lv_aload_n hx hb d_M_spawnRun_151 rfl (lv_at hl 0 rfl) ?_
  refine ug_I hx hb ht hown hM hK hP 133 (by decide) lk_M_133 (by decide) d_M_spawnRun_152 ?_
  refine lv_lload_n hx hb d_M_spawnRun_155 rfl (lv_at hl 1 rfl) ?_
  obtain ⟨u8, r8, hc8, hf⟩ := bnd_some hf
  refine mV_i (As := [.int (u.1 133), .long v1]) (rest := []) C0 hP hD hS (c_M_copySize N hM hc8) k_M_copySize hl_M_copySize hi_M_copySize hs_M_copySize hini_M rfl rfl hd_M_copySize rfl (rm_M_spawnRun_M_copySize hR) hl.1 (Nat.le_of_ble_eq_true rfl) d_M_spawnRun_156 rfl ⟨Nat.zero_le _, Nat.zero_le _⟩ (fun H locs hP hD hS => ?_)
  refine lv_istore (lv' := [(8, .int r8), (0, .ref h0), (1, .long v1), (3, .long v3), (6, .int v6), (7, .int v7)]) hx hb d_M_spawnRun_159 hl (by decide) rfl (fun ls hl => ?_)
  refine lv_iload hx hb d_M_spawnRun_161 (lv_at hl 0 rfl) ?_
  refine lv_sipush (v := 500) hx hb d_M_spawnRun_163 (by decide) ?_
  refine lv_icmp_le (tgt := 187) hx hb d_M_spawnRun_166 (by decide) (fun hc => ?_) (fun hc => ?_)
  · rw [br_p _ hc] at hf
    refine lv_aload_n hx hb d_M_spawnRun_187 rfl (lv_at hl 1 rfl) ?_
    refine lv_aload_n hx hb d_M_spawnRun_188 rfl (lv_at hl 1 rfl) ?_
    refine ug_I hx hb ht hown hM hK hP 133 (by decide) lk_M_133 (by decide) d_M_spawnRun_189 ?_
    refine lv_lload_n hx hb d_M_spawnRun_192 rfl (lv_at hl 2 rfl) ?_
    refine lv_iload hx hb d_M_spawnRun_193 (lv_at hl 4 rfl) ?_
    obtain ⟨u9, r9, hc9, hf⟩ := bnd_some hf
    refine mV_l (As := [.int (u8.1 133), .long v1, .int v6]) (rest := []) C0 hP hD hS (c_M_copy N hM hc9) k_M_copy hl_M_copy hi_M_copy hs_M_copy hini_M rfl rfl hd_M_copy rfl (rm_M_spawnRun_M_copy hR) hl.1 (Nat.le_of_ble_eq_true rfl) d_M_spawnRun_195 rfl ⟨Nat.zero_le _, Nat.zero_le _⟩ (fun H locs hP hD hS => ?_)
    refine lv_lstore (lv' := [(9, .long r9), (8, .int r8), (0, .ref h0), (1, .long v1), (3, .long v3), (6, .int v6), (7, .int v7)]) hx hb d_M_spawnRun_198 hl (by decide) rfl (fun ls hl => ?_)
    refine lv_lload_n hx hb d_M_spawnRun_200 rfl (lv_at hl 4 rfl) ?_
    refine lv_lconst (v := 0) hx hb d_M_spawnRun_201 (by decide) ?_
    refine W.lcmp hx hb d_M_spawnRun_202 ?_
    refine lv_if_lt (tgt := 286) hx hb d_M_spawnRun_203 (by decide) (fun hc => ?_) (fun hc => ?_)
    · rw [br_p _ hc] at hf
      exact wb_M_spawnRun_286 C0 hR N G hG _ _ _ hf H locs hP hD hS ls (lv_sub hl [2, 5] rfl)
    · rw [br_n _ hc] at hf
      refine lv_aload_n hx hb d_M_spawnRun_206 rfl (lv_at hl 2 rfl) ?_
      refine lv_iload hx hb d_M_spawnRun_207 (lv_at hl 5 rfl) ?_
      refine lv_lload hx hb d_M_spawnRun_209 (lv_at hl 0 rfl) ?_
      obtain ⟨u10, r10, hc10, hf⟩ := bnd_some hf
      refine mS_i (As := [.long r9]) (rest := [.int v6, .ref h0]) C0 hP hD hS (c_M_valueOf N hM hc10) k_M_valueOf hl_M_valueOf ht_M_valueOf hini_M rfl rfl hd_M_valueOf rfl (rm_M_spawnRun_M_valueOf hR) hl.1 (Nat.le_of_ble_eq_true rfl) d_M_spawnRun_211 rfl ⟨Nat.zero_le _, Nat.zero_le _⟩ (fun H locs hP hD hS => ?_)
      refine lv_iconst (v := 1) hx hb d_M_spawnRun_214 (by decide) ?_
      refine lv_iadd hx hb d_M_spawnRun_215 ?_
      obtain ⟨u11, r11, hc11, hf⟩ := bnd_some hf
      refine mV_l (As := [.int v6, .int (r10 + 1)]) (rest := []) C0 hP hD hS (c_M_cell N hM hc11) k_M_cell hl_M_cell hi_M_cell hs_M_cell hini_M rfl rfl hd_M_cell rfl (rm_M_spawnRun_M_cell hR) hl.1 (Nat.le_of_ble_eq_true rfl) d_M_spawnRun_216 rfl ⟨Nat.zero_le _, Nat.zero_le _⟩ (fun H locs hP hD hS => ?_)
      refine lv_l2i hx hb d_M_spawnRun_219 rfl ?_
      refine lv_istore (lv' := [(11, .int r11.toInt32), (9, .long r9), (8, .int r8), (0, .ref h0), (1, .long v1), (3, .long v3), (6, .int v6), (7, .int v7)]) hx hb d_M_spawnRun_220 hl (by decide) rfl (fun ls hl => ?_)
      refine lv_aload_n hx hb d_M_spawnRun_222 rfl (lv_at hl 3 rfl) ?_
      refine ug_R hx hb ht hown hM hK hP 101 (by decide) lk_M_101 (by decide) d_M_spawnRun_223 ?_
      refine lv_iload hx hb d_M_spawnRun_226 (lv_at hl 7 rfl) ?_
      refine lv_iload hx hb d_M_spawnRun_228 (lv_at hl 0 rfl) ?_
      obtain ⟨hi9, hf⟩ := ck_some hf
      refine us_I hx hb hK hP hD hS (by decide) (by decide) hi9 d_M_spawnRun_230 (fun H locs hP hD hS => ?_)
      obtain ⟨w12, e12, hf⟩ := lt_some hf
      rw [← e12] at hP hD
      refine lv_iconst (v := 0) hx hb d_M_spawnRun_231 (by decide) ?_
      refine lv_istore (lv' := [(12, .int 0), (11, .int r11.toInt32), (9, .long r9), (8, .int r8), (0, .ref h0), (1, .long v1), (3, .long v3), (6, .int v6), (7, .int v7)]) hx hb d_M_spawnRun_232 hl (by decide) rfl (fun ls hl => ?_)
      exact hG _ _ _ _ _ _ hf H locs hP hD hS ls (lv_sub hl [4, 7, 2, 1, 0] rfl)
  · rw [br_n _ hc] at hf
    refine lv_aload_n hx hb d_M_spawnRun_169 rfl (lv_at hl 1 rfl) ?_
    refine lv_iload hx hb d_M_spawnRun_170 (lv_at hl 4 rfl) ?_
    refine lv_iconst (v := 0) hx hb d_M_spawnRun_172 (by decide) ?_
    refine lv_iload hx hb d_M_spawnRun_173 (lv_at hl 4 rfl) ?_
    refine lv_iconst (v := 1) hx hb d_M_spawnRun_175 (by decide) ?_
    refine lv_bipush (v := 20) hx hb d_M_spawnRun_176 (by decide) ?_
    obtain ⟨u13, r13, hc13, hf⟩ := bnd_some hf
    refine mS_l (As := [.int 1, .int 20]) (rest := [.int v6, .int 0, .int v6, .ref h0]) C0 hP hD hS (c_M_term N hM hc13) k_M_term hl_M_term ht_M_term hini_M rfl rfl hd_M_term rfl (rm_M_spawnRun_M_term hR) hl.1 (Nat.le_of_ble_eq_true rfl) d_M_spawnRun_178 rfl ⟨Nat.zero_le _, Nat.zero_le _⟩ (fun H locs hP hD hS => ?_)
    obtain ⟨u14, r14, hc14, hf⟩ := bnd_some hf
    refine mV_v (As := [.int v6, .int 0, .int v6, .long r13]) (rest := []) C0 hP hD hS (c_M_willEnd N hM hc14) k_M_willEnd hl_M_willEnd hi_M_willEnd hs_M_willEnd hini_M rfl rfl hd_M_willEnd rfl (rm_M_spawnRun_M_willEnd hR) hl.1 (Nat.le_of_ble_eq_true rfl) d_M_spawnRun_181 rfl ⟨Nat.zero_le _, Nat.zero_le _⟩ (fun H locs hP hD hS => ?_)
    refine lv_goto (tgt := 286) hx hb d_M_spawnRun_184 (by decide) ?_
    exact wb_M_spawnRun_286 C0 hR N G hG _ _ _ hf H locs hP hD hS ls (lv_sub hl [1, 4] rfl)
def fb_M_spawnRun_91 (N : Nat) (G : (MS → Int32 → Int64 → Int32 → Int32 → Option (MS × Unit))) (u : MS) : Option (MS × Unit) := bnd (fr_M_error N u 11) (fun u15 _ => some (u15, ()))
set_option maxRecDepth 100000 in
set_option maxHeartbeats 4000000 in
theorem wb_M_spawnRun_91 {p : Program} {l : Launch} {e : Env} {R : Room} {s : State} {m : MethodId} {args : Array Value} {below : List Frame} {meth : Method} {c : Code} {D : va_G} {cl : List vw_C} {cB cI cJ cZ cS : ClassId} {A : Nat → Prop} {iM h0 : Nat} {ad : Nat → Nat} (C0 : MCx p s m args meth c b_M_spawnRun 13 none D cl cB cI cJ cZ cS iM A) (hR : R = rm_M_spawnRun) (N : Nat) (G : (MS → Int32 → Int64 → Int32 → Int32 → Option (MS × Unit))) (hG : (∀ (u : MS) (v6 : Int32) (v9 : Int64) (v11 : Int32) (v12 : Int32) (x : MS × Unit), G u v6 v9 v11 v12 = some x → ∀ (H : Heap) (locs : List Loc), va_P D cl (wM cB cI cJ cZ cS iM h0 ad u) H → va_D A (wM cB cI cJ cZ cS iM h0 ad u) → va_S A s.heap H locs → ∀ (ls : Array Slot), lv_has ls 13 [(0, .ref h0), (6, .int v6), (9, .long v9), (11, .int v11), (12, .int v12)] → W p l e R s m args below meth c H locs 0 0 (MQ below (mQv D cl cB cI cJ cZ cS iM h0 ad A x) args s 0 0 A) (F0 m 234 ls []))) : ∀ (u : MS) (x : MS × Unit), fb_M_spawnRun_91 N G u = some x → ∀ (H : Heap) (locs : List Loc), va_P D cl (wM cB cI cJ cZ cS iM h0 ad u) H → va_D A (wM cB cI cJ cZ cS iM h0 ad u) → va_S A s.heap H locs → ∀ (ls : Array Slot), lv_has ls 13 [(0, .ref h0)] → W p l e R s m args below meth c H locs 0 0 (MQ below (mQv D cl cB cI cJ cZ cS iM h0 ad A x) args s 0 0 A) (F0 m 91 ls []) := by
  intro u x hf H locs hP hD hS ls hl
  obtain ⟨hx, hb, hr, hml, ht, hown, hM, hK, hA, hlocks⟩ := id C0
  unfold fb_M_spawnRun_91 at hf
  refine lv_aload_n hx hb d_M_spawnRun_91 rfl (lv_at hl 0 rfl) ?_
  refine lv_bipush (v := 11) hx hb d_M_spawnRun_92 (by decide) ?_
  obtain ⟨u15, r15, hc15, hf⟩ := bnd_some hf
  refine mV_v (As := [.int 11]) (rest := []) C0 hP hD hS (c_M_error N hM hc15) k_M_error hl_M_error hi_M_error hs_M_error hini_M rfl rfl hd_M_error rfl (rm_M_spawnRun_M_error hR) hl.1 (Nat.le_of_ble_eq_true rfl) d_M_spawnRun_94 rfl ⟨Nat.zero_le _, Nat.zero_le _⟩ (fun H locs hP hD hS => ?_)
  exact mr_v C0 hP hD hS hf d_M_spawnRun_97
def fb_M_spawnRun_75 (N : Nat) (G : (MS → Int32 → Int64 → Int32 → Int32 → Option (MS × Unit))) (u : MS) (v1 : Int64) (v3 : Int64) (t0 : Int32) : Option (MS × Unit) := br (decide (t0 = 0)) (br (decide ((u.1 118) = 24)) (fb_M_spawnRun_91 N G u) (bnd (fm_M_newProcess N u) (fun u16 r16 => ck (inb r16 (ln 170)) (lt (upA u16 170 (upd (u16.2.2.1 170) r16.toNatClampNeg (-1))) (fun w17 => br (decide (0 ≤ (lg_cmp v3 0))) (ck (inb r16 (ln 170)) (lt (upA w17 170 (upd (w17.2.2.1 170) r16.toNatClampNeg (v3.toInt32))) (fun w18 => fb_M_spawnRun_150 N G w18 (v1) (v3) (r16) ((r16 * 60))))) (ck (inb (r16 * 60) (ln 96)) (lt (upA w17 96 (upd (w17.2.2.1 96) (r16 * 60).toNatClampNeg (((-1) - v3).toInt32))) (fun w19 => fb_M_spawnRun_150 N G w19 (v1) (v3) (r16) ((r16 * 60)))))))))) (fb_M_spawnRun_91 N G u)
set_option maxRecDepth 100000 in
set_option maxHeartbeats 4000000 in
theorem wb_M_spawnRun_75 {p : Program} {l : Launch} {e : Env} {R : Room} {s : State} {m : MethodId} {args : Array Value} {below : List Frame} {meth : Method} {c : Code} {D : va_G} {cl : List vw_C} {cB cI cJ cZ cS : ClassId} {A : Nat → Prop} {iM h0 : Nat} {ad : Nat → Nat} (C0 : MCx p s m args meth c b_M_spawnRun 13 none D cl cB cI cJ cZ cS iM A) (hR : R = rm_M_spawnRun) (N : Nat) (G : (MS → Int32 → Int64 → Int32 → Int32 → Option (MS × Unit))) (hG : (∀ (u : MS) (v6 : Int32) (v9 : Int64) (v11 : Int32) (v12 : Int32) (x : MS × Unit), G u v6 v9 v11 v12 = some x → ∀ (H : Heap) (locs : List Loc), va_P D cl (wM cB cI cJ cZ cS iM h0 ad u) H → va_D A (wM cB cI cJ cZ cS iM h0 ad u) → va_S A s.heap H locs → ∀ (ls : Array Slot), lv_has ls 13 [(0, .ref h0), (6, .int v6), (9, .long v9), (11, .int v11), (12, .int v12)] → W p l e R s m args below meth c H locs 0 0 (MQ below (mQv D cl cB cI cJ cZ cS iM h0 ad A x) args s 0 0 A) (F0 m 234 ls []))) : ∀ (u : MS) (v1 : Int64) (v3 : Int64) (t0 : Int32) (x : MS × Unit), fb_M_spawnRun_75 N G u v1 v3 t0 = some x → ∀ (H : Heap) (locs : List Loc), va_P D cl (wM cB cI cJ cZ cS iM h0 ad u) H → va_D A (wM cB cI cJ cZ cS iM h0 ad u) → va_S A s.heap H locs → ∀ (ls : Array Slot), lv_has ls 13 [(0, .ref h0), (1, .long v1), (3, .long v3)] → W p l e R s m args below meth c H locs 0 0 (MQ below (mQv D cl cB cI cJ cZ cS iM h0 ad A x) args s 0 0 A) (F0 m 75 ls [.int t0]) := by
  intro u v1 v3 t0 x hf H locs hP hD hS ls hl
  obtain ⟨hx, hb, hr, hml, ht, hown, hM, hK, hA, hlocks⟩ := id C0
  unfold fb_M_spawnRun_75 at hf
  refine lv_istore (lv' := [(5, .int t0), (0, .ref h0), (1, .long v1), (3, .long v3)]) hx hb d_M_spawnRun_75 hl (by decide) rfl (fun ls hl => ?_)
  refine lv_iload hx hb d_M_spawnRun_77 (lv_at hl 0 rfl) ?_
  refine lv_if_ne (tgt := 91) hx hb d_M_spawnRun_79 (by decide) (fun hc => ?_) (fun hc => ?_)
  · rw [br_n _ hc] at hf
    exact wb_M_spawnRun_91 C0 hR N G hG _ _ hf H locs hP hD hS ls (lv_sub hl [1] rfl)
  · rw [br_p _ hc] at hf
    refine lv_aload_n hx hb d_M_spawnRun_82 rfl (lv_at hl 1 rfl) ?_
    refine ug_I hx hb ht hown hM hK hP 118 (by decide) lk_M_118 (by decide) d_M_spawnRun_83 ?_
    refine lv_bipush (v := 24) hx hb d_M_spawnRun_86 (by decide) ?_
    refine lv_icmp_ne (tgt := 98) hx hb d_M_spawnRun_88 (by decide) (fun hc => ?_) (fun hc => ?_)
    · rw [br_n _ hc] at hf
      refine lv_aload_n hx hb d_M_spawnRun_98 rfl (lv_at hl 1 rfl) ?_
      obtain ⟨u16, r16, hc16, hf⟩ := bnd_some hf
      refine mV_i (As := []) (rest := []) C0 hP hD hS (c_M_newProcess N hM hc16) k_M_newProcess hl_M_newProcess hi_M_newProcess hs_M_newProcess hini_M rfl rfl hd_M_newProcess rfl (rm_M_spawnRun_M_newProcess hR) hl.1 (Nat.le_of_ble_eq_true rfl) d_M_spawnRun_99 rfl ⟨Nat.zero_le _, Nat.zero_le _⟩ (fun H locs hP hD hS => ?_)
      refine lv_istore (lv' := [(6, .int r16), (5, .int t0), (0, .ref h0), (1, .long v1), (3, .long v3)]) hx hb d_M_spawnRun_102 hl (by decide) rfl (fun ls hl => ?_)
      refine lv_iload hx hb d_M_spawnRun_104 (lv_at hl 0 rfl) ?_
      refine lv_bipush (v := 60) hx hb d_M_spawnRun_106 (by decide) ?_
      refine lv_imul hx hb d_M_spawnRun_108 ?_
      refine lv_istore (lv' := [(7, .int (r16 * 60)), (6, .int r16), (5, .int t0), (0, .ref h0), (1, .long v1), (3, .long v3)]) hx hb d_M_spawnRun_109 hl (by decide) rfl (fun ls hl => ?_)
      refine lv_aload_n hx hb d_M_spawnRun_111 rfl (lv_at hl 3 rfl) ?_
      refine ug_R hx hb ht hown hM hK hP 170 (by decide) lk_M_170 (by decide) d_M_spawnRun_112 ?_
      refine lv_iload hx hb d_M_spawnRun_115 (lv_at hl 1 rfl) ?_
      refine lv_iconst (v := (-1)) hx hb d_M_spawnRun_117 (by decide) ?_
      obtain ⟨hi9, hf⟩ := ck_some hf
      refine us_I hx hb hK hP hD hS (by decide) (by decide) hi9 d_M_spawnRun_118 (fun H locs hP hD hS => ?_)
      obtain ⟨w17, e17, hf⟩ := lt_some hf
      rw [← e17] at hP hD
      refine lv_lload_n hx hb d_M_spawnRun_119 rfl (lv_at hl 5 rfl) ?_
      refine lv_lconst (v := 0) hx hb d_M_spawnRun_120 (by decide) ?_
      refine W.lcmp hx hb d_M_spawnRun_121 ?_
      refine lv_if_ge (tgt := 141) hx hb d_M_spawnRun_122 (by decide) (fun hc => ?_) (fun hc => ?_)
      · rw [br_p _ hc] at hf
        refine lv_aload_n hx hb d_M_spawnRun_141 rfl (lv_at hl 3 rfl) ?_
        refine ug_R hx hb ht hown hM hK hP 170 (by decide) lk_M_170 (by decide) d_M_spawnRun_142 ?_
        refine lv_iload hx hb d_M_spawnRun_145 (lv_at hl 1 rfl) ?_
        refine lv_lload_n hx hb d_M_spawnRun_147 rfl (lv_at hl 5 rfl) ?_
        refine lv_l2i hx hb d_M_spawnRun_148 rfl ?_
        obtain ⟨hi9, hf⟩ := ck_some hf
        refine us_I hx hb hK hP hD hS (by decide) (by decide) hi9 d_M_spawnRun_149 (fun H locs hP hD hS => ?_)
        obtain ⟨w18, e18, hf⟩ := lt_some hf
        rw [← e18] at hP hD
        exact wb_M_spawnRun_150 C0 hR N G hG _ _ _ _ _ _ hf H locs hP hD hS ls (lv_sub hl [3, 4, 5, 1, 0] rfl)
      · rw [br_n _ hc] at hf
        refine lv_aload_n hx hb d_M_spawnRun_125 rfl (lv_at hl 3 rfl) ?_
        refine ug_R hx hb ht hown hM hK hP 96 (by decide) lk_M_96 (by decide) d_M_spawnRun_126 ?_
        refine lv_iload hx hb d_M_spawnRun_129 (lv_at hl 0 rfl) ?_
        refine lv_ldc2 (v := (-1)) hx hb hown (ht _ (wd_of 3094 (by decide +kernel) rfl)) d_M_spawnRun_131 ?_
        refine lv_lload_n hx hb d_M_spawnRun_134 rfl (lv_at hl 5 rfl) ?_
        refine lv_lsub hx hb d_M_spawnRun_135 ?_
        refine lv_l2i hx hb d_M_spawnRun_136 rfl ?_
        obtain ⟨hi9, hf⟩ := ck_some hf
        refine us_I hx hb hK hP hD hS (by decide) (by decide) hi9 d_M_spawnRun_137 (fun H locs hP hD hS => ?_)
        obtain ⟨w19, e19, hf⟩ := lt_some hf
        rw [← e19] at hP hD
        refine lv_goto (tgt := 150) hx hb d_M_spawnRun_138 (by decide) ?_
        exact wb_M_spawnRun_150 C0 hR N G hG _ _ _ _ _ _ hf H locs hP hD hS ls (lv_sub hl [3, 4, 5, 1, 0] rfl)
    · rw [br_p _ hc] at hf
      exact wb_M_spawnRun_91 C0 hR N G hG _ _ hf H locs hP hD hS ls (lv_sub hl [1] rfl)
def fb_M_spawnRun_30 (N : Nat) (G : (MS → Int32 → Int64 → Int32 → Int32 → Option (MS × Unit))) (u : MS) (v1 : Int64) (t0 : Int64) : Option (MS × Unit) := bnd (fm_M_sortOf N u v1) (fun u20 r20 => br (decide (r20 = 3)) (br (decide (0 ≤ (lg_cmp t0 0))) (ck (inb (t0.toInt32) (ln 53)) (ck (inb (u20.2.2.1 53 (t0.toInt32).toNatClampNeg) (ln 41)) (fb_M_spawnRun_75 N G u20 (v1) (t0) ((u20.2.2.1 41 (u20.2.2.1 53 (t0.toInt32).toNatClampNeg).toNatClampNeg))))) (ck (inb (((-1) - t0).toInt32) (ln 48)) (fb_M_spawnRun_75 N G u20 (v1) (t0) ((u20.2.2.1 48 (((-1) - t0).toInt32).toNatClampNeg))))) (fb_M_spawnRun_75 N G u20 (v1) (t0) ((-1))))
set_option maxRecDepth 100000 in
set_option maxHeartbeats 4000000 in
theorem wb_M_spawnRun_30 {p : Program} {l : Launch} {e : Env} {R : Room} {s : State} {m : MethodId} {args : Array Value} {below : List Frame} {meth : Method} {c : Code} {D : va_G} {cl : List vw_C} {cB cI cJ cZ cS : ClassId} {A : Nat → Prop} {iM h0 : Nat} {ad : Nat → Nat} (C0 : MCx p s m args meth c b_M_spawnRun 13 none D cl cB cI cJ cZ cS iM A) (hR : R = rm_M_spawnRun) (N : Nat) (G : (MS → Int32 → Int64 → Int32 → Int32 → Option (MS × Unit))) (hG : (∀ (u : MS) (v6 : Int32) (v9 : Int64) (v11 : Int32) (v12 : Int32) (x : MS × Unit), G u v6 v9 v11 v12 = some x → ∀ (H : Heap) (locs : List Loc), va_P D cl (wM cB cI cJ cZ cS iM h0 ad u) H → va_D A (wM cB cI cJ cZ cS iM h0 ad u) → va_S A s.heap H locs → ∀ (ls : Array Slot), lv_has ls 13 [(0, .ref h0), (6, .int v6), (9, .long v9), (11, .int v11), (12, .int v12)] → W p l e R s m args below meth c H locs 0 0 (MQ below (mQv D cl cB cI cJ cZ cS iM h0 ad A x) args s 0 0 A) (F0 m 234 ls []))) : ∀ (u : MS) (v1 : Int64) (t0 : Int64) (x : MS × Unit), fb_M_spawnRun_30 N G u v1 t0 = some x → ∀ (H : Heap) (locs : List Loc), va_P D cl (wM cB cI cJ cZ cS iM h0 ad u) H → va_D A (wM cB cI cJ cZ cS iM h0 ad u) → va_S A s.heap H locs → ∀ (ls : Array Slot), lv_has ls 13 [(0, .ref h0), (1, .long v1)] → W p l e R s m args below meth c H locs 0 0 (MQ below (mQv D cl cB cI cJ cZ cS iM h0 ad A x) args s 0 0 A) (F0 m 30 ls [.long t0]) := by
  intro u v1 t0 x hf H locs hP hD hS ls hl
  obtain ⟨hx, hb, hr, hml, ht, hown, hM, hK, hA, hlocks⟩ := id C0
  unfold fb_M_spawnRun_30 at hf
  refine lv_lstore_n (lv' := [(3, .long t0), (0, .ref h0), (1, .long v1)]) hx hb d_M_spawnRun_30 rfl hl (by decide) rfl (fun ls hl => ?_)
  refine lv_lload_n hx hb d_M_spawnRun_31 rfl (lv_at hl 2 rfl) ?_
  obtain ⟨u20, r20, hc20, hf⟩ := bnd_some hf
  refine mS_i (As := [.long v1]) (rest := []) C0 hP hD hS (c_M_sortOf N hM hc20) k_M_sortOf hl_M_sortOf ht_M_sortOf hini_M rfl rfl hd_M_sortOf rfl (rm_M_spawnRun_M_sortOf hR) hl.1 (Nat.le_of_ble_eq_true rfl) d_M_spawnRun_32 rfl ⟨Nat.zero_le _, Nat.zero_le _⟩ (fun H locs hP hD hS => ?_)
  refine lv_iconst (v := 3) hx hb d_M_spawnRun_35 (by decide) ?_
  refine lv_icmp_eq (tgt := 43) hx hb d_M_spawnRun_36 (by decide) (fun hc => ?_) (fun hc => ?_)
  · rw [br_p _ hc] at hf
    refine lv_lload_n hx hb d_M_spawnRun_43 rfl (lv_at hl 0 rfl) ?_
    refine lv_lconst (v := 0) hx hb d_M_spawnRun_44 (by decide) ?_
    refine W.lcmp hx hb d_M_spawnRun_45 ?_
    refine lv_if_ge (tgt := 63) hx hb d_M_spawnRun_46 (by decide) (fun hc => ?_) (fun hc => ?_)
    · rw [br_p _ hc] at hf
      refine lv_aload_n hx hb d_M_spawnRun_63 rfl (lv_at hl 1 rfl) ?_
      refine ug_R hx hb ht hown hM hK hP 41 (by decide) lk_M_41 (by decide) d_M_spawnRun_64 ?_
      refine lv_aload_n hx hb d_M_spawnRun_67 rfl (lv_at hl 1 rfl) ?_
      refine ug_R hx hb ht hown hM hK hP 53 (by decide) lk_M_53 (by decide) d_M_spawnRun_68 ?_
      refine lv_lload_n hx hb d_M_spawnRun_71 rfl (lv_at hl 0 rfl) ?_
      refine lv_l2i hx hb d_M_spawnRun_72 rfl ?_
      obtain ⟨hi9, hf⟩ := ck_some hf
      refine ul_I hx hb hK hP (by decide) (by decide) hi9 d_M_spawnRun_73 ?_
      obtain ⟨hi9, hf⟩ := ck_some hf
      refine ul_I hx hb hK hP (by decide) (by decide) hi9 d_M_spawnRun_74 ?_
      exact wb_M_spawnRun_75 C0 hR N G hG _ _ _ _ _ hf H locs hP hD hS ls (lv_sub hl [1, 2, 0] rfl)
    · rw [br_n _ hc] at hf
      refine lv_aload_n hx hb d_M_spawnRun_49 rfl (lv_at hl 1 rfl) ?_
      refine ug_R hx hb ht hown hM hK hP 48 (by decide) lk_M_48 (by decide) d_M_spawnRun_50 ?_
      refine lv_ldc2 (v := (-1)) hx hb hown (ht _ (wd_of 3094 (by decide +kernel) rfl)) d_M_spawnRun_53 ?_
      refine lv_lload_n hx hb d_M_spawnRun_56 rfl (lv_at hl 0 rfl) ?_
      refine lv_lsub hx hb d_M_spawnRun_57 ?_
      refine lv_l2i hx hb d_M_spawnRun_58 rfl ?_
      obtain ⟨hi9, hf⟩ := ck_some hf
      refine ul_I hx hb hK hP (by decide) (by decide) hi9 d_M_spawnRun_59 ?_
      refine lv_goto (tgt := 75) hx hb d_M_spawnRun_60 (by decide) ?_
      exact wb_M_spawnRun_75 C0 hR N G hG _ _ _ _ _ hf H locs hP hD hS ls (lv_sub hl [1, 2, 0] rfl)
  · rw [br_n _ hc] at hf
    refine lv_iconst (v := (-1)) hx hb d_M_spawnRun_39 (by decide) ?_
    refine lv_goto (tgt := 75) hx hb d_M_spawnRun_40 (by decide) ?_
    exact wb_M_spawnRun_75 C0 hR N G hG _ _ _ _ _ hf H locs hP hD hS ls (lv_sub hl [1, 2, 0] rfl)
def fb_M_spawnRun_0 (N : Nat) (G : (MS → Int32 → Int64 → Int32 → Int32 → Option (MS × Unit))) (u : MS) : Option (MS × Unit) := bnd (fm_M_top N u 0) (fun u21 r21 => bnd (fm_M_sortOf N u21 r21) (fun u22 r22 => br (decide (r22 = 3)) (bnd (fm_M_valueOf N u22 r21) (fun u23 r23 => bnd (fm_M_cell N u23 (u22.1 133) r23) (fun u24 r24 => fb_M_spawnRun_30 N G u24 (r21) (r24)))) (fb_M_spawnRun_30 N G u22 (r21) (0))))
set_option maxRecDepth 100000 in
set_option maxHeartbeats 4000000 in
theorem wb_M_spawnRun_0 {p : Program} {l : Launch} {e : Env} {R : Room} {s : State} {m : MethodId} {args : Array Value} {below : List Frame} {meth : Method} {c : Code} {D : va_G} {cl : List vw_C} {cB cI cJ cZ cS : ClassId} {A : Nat → Prop} {iM h0 : Nat} {ad : Nat → Nat} (C0 : MCx p s m args meth c b_M_spawnRun 13 none D cl cB cI cJ cZ cS iM A) (hR : R = rm_M_spawnRun) (N : Nat) (G : (MS → Int32 → Int64 → Int32 → Int32 → Option (MS × Unit))) (hG : (∀ (u : MS) (v6 : Int32) (v9 : Int64) (v11 : Int32) (v12 : Int32) (x : MS × Unit), G u v6 v9 v11 v12 = some x → ∀ (H : Heap) (locs : List Loc), va_P D cl (wM cB cI cJ cZ cS iM h0 ad u) H → va_D A (wM cB cI cJ cZ cS iM h0 ad u) → va_S A s.heap H locs → ∀ (ls : Array Slot), lv_has ls 13 [(0, .ref h0), (6, .int v6), (9, .long v9), (11, .int v11), (12, .int v12)] → W p l e R s m args below meth c H locs 0 0 (MQ below (mQv D cl cB cI cJ cZ cS iM h0 ad A x) args s 0 0 A) (F0 m 234 ls []))) : ∀ (u : MS) (x : MS × Unit), fb_M_spawnRun_0 N G u = some x → ∀ (H : Heap) (locs : List Loc), va_P D cl (wM cB cI cJ cZ cS iM h0 ad u) H → va_D A (wM cB cI cJ cZ cS iM h0 ad u) → va_S A s.heap H locs → ∀ (ls : Array Slot), lv_has ls 13 [(0, .ref h0)] → W p l e R s m args below meth c H locs 0 0 (MQ below (mQv D cl cB cI cJ cZ cS iM h0 ad A x) args s 0 0 A) (F0 m 0 ls []) := by
  intro u x hf H locs hP hD hS ls hl
  obtain ⟨hx, hb, hr, hml, ht, hown, hM, hK, hA, hlocks⟩ := id C0
  unfold fb_M_spawnRun_0 at hf
  refine lv_aload_n hx hb d_M_spawnRun_0 rfl (lv_at hl 0 rfl) ?_
  refine lv_iconst (v := 0) hx hb d_M_spawnRun_1 (by decide) ?_
  obtain ⟨u21, r21, hc21, hf⟩ := bnd_some hf
  refine mV_l (As := [.int 0]) (rest := []) C0 hP hD hS (c_M_top N hM hc21) k_M_top hl_M_top hi_M_top hs_M_top hini_M rfl rfl hd_M_top rfl (rm_M_spawnRun_M_top hR) hl.1 (Nat.le_of_ble_eq_true rfl) d_M_spawnRun_2 rfl ⟨Nat.zero_le _, Nat.zero_le _⟩ (fun H locs hP hD hS => ?_)
  refine lv_lstore_n (lv' := [(1, .long r21), (0, .ref h0)]) hx hb d_M_spawnRun_5 rfl hl (by decide) rfl (fun ls hl => ?_)
  refine lv_lload_n hx hb d_M_spawnRun_6 rfl (lv_at hl 0 rfl) ?_
  obtain ⟨u22, r22, hc22, hf⟩ := bnd_some hf
  refine mS_i (As := [.long r21]) (rest := []) C0 hP hD hS (c_M_sortOf N hM hc22) k_M_sortOf hl_M_sortOf ht_M_sortOf hini_M rfl rfl hd_M_sortOf rfl (rm_M_spawnRun_M_sortOf hR) hl.1 (Nat.le_of_ble_eq_true rfl) d_M_spawnRun_7 rfl ⟨Nat.zero_le _, Nat.zero_le _⟩ (fun H locs hP hD hS => ?_)
  refine lv_iconst (v := 3) hx hb d_M_spawnRun_10 (by decide) ?_
  refine lv_icmp_ne (tgt := 29) hx hb d_M_spawnRun_11 (by decide) (fun hc => ?_) (fun hc => ?_)
  · rw [br_n _ hc] at hf
    refine lv_lconst (v := 0) hx hb d_M_spawnRun_29 (by decide) ?_
    exact wb_M_spawnRun_30 C0 hR N G hG _ _ _ _ hf H locs hP hD hS ls (lv_sub hl [1, 0] rfl)
  · rw [br_p _ hc] at hf
    refine lv_aload_n hx hb d_M_spawnRun_14 rfl (lv_at hl 1 rfl) ?_
    refine lv_aload_n hx hb d_M_spawnRun_15 rfl (lv_at hl 1 rfl) ?_
    refine ug_I hx hb ht hown hM hK hP 133 (by decide) lk_M_133 (by decide) d_M_spawnRun_16 ?_
    refine lv_lload_n hx hb d_M_spawnRun_19 rfl (lv_at hl 0 rfl) ?_
    obtain ⟨u23, r23, hc23, hf⟩ := bnd_some hf
    refine mS_i (As := [.long r21]) (rest := [.int (u22.1 133), .ref h0]) C0 hP hD hS (c_M_valueOf N hM hc23) k_M_valueOf hl_M_valueOf ht_M_valueOf hini_M rfl rfl hd_M_valueOf rfl (rm_M_spawnRun_M_valueOf hR) hl.1 (Nat.le_of_ble_eq_true rfl) d_M_spawnRun_20 rfl ⟨Nat.zero_le _, Nat.zero_le _⟩ (fun H locs hP hD hS => ?_)
    obtain ⟨u24, r24, hc24, hf⟩ := bnd_some hf
    refine mV_l (As := [.int (u22.1 133), .int r23]) (rest := []) C0 hP hD hS (c_M_cell N hM hc24) k_M_cell hl_M_cell hi_M_cell hs_M_cell hini_M rfl rfl hd_M_cell rfl (rm_M_spawnRun_M_cell hR) hl.1 (Nat.le_of_ble_eq_true rfl) d_M_spawnRun_23 rfl ⟨Nat.zero_le _, Nat.zero_le _⟩ (fun H locs hP hD hS => ?_)
    refine lv_goto (tgt := 30) hx hb d_M_spawnRun_26 (by decide) ?_
    exact wb_M_spawnRun_30 C0 hR N G hG _ _ _ _ hf H locs hP hD hS ls (lv_sub hl [1, 0] rfl)
def gg_M_spawnRun (N : Nat) : Nat → ((MS → Int32 → Int64 → Int32 → Int32 → Option (MS × Unit)))
  | 0 => fun _ _ _ _ _ => none
  | n + 1 => fb_M_spawnRun_234 N (gg_M_spawnRun N n)
theorem wg_M_spawnRun {p : Program} {l : Launch} {e : Env} {R : Room} {s : State} {m : MethodId} {args : Array Value} {below : List Frame} {meth : Method} {c : Code} {D : va_G} {cl : List vw_C} {cB cI cJ cZ cS : ClassId} {A : Nat → Prop} {iM h0 : Nat} {ad : Nat → Nat} (C0 : MCx p s m args meth c b_M_spawnRun 13 none D cl cB cI cJ cZ cS iM A) (hR : R = rm_M_spawnRun) (N : Nat) : ∀ n : Nat, (∀ (u : MS) (v6 : Int32) (v9 : Int64) (v11 : Int32) (v12 : Int32) (x : MS × Unit), gg_M_spawnRun N n u v6 v9 v11 v12 = some x → ∀ (H : Heap) (locs : List Loc), va_P D cl (wM cB cI cJ cZ cS iM h0 ad u) H → va_D A (wM cB cI cJ cZ cS iM h0 ad u) → va_S A s.heap H locs → ∀ (ls : Array Slot), lv_has ls 13 [(0, .ref h0), (6, .int v6), (9, .long v9), (11, .int v11), (12, .int v12)] → W p l e R s m args below meth c H locs 0 0 (MQ below (mQv D cl cB cI cJ cZ cS iM h0 ad A x) args s 0 0 A) (F0 m 234 ls []))
  | 0 => (fun u v6 v9 v11 v12 x hf => by cases hf)
  | n + 1 => wb_M_spawnRun_234 C0 hR N (gg_M_spawnRun N n) (wg_M_spawnRun C0 hR N n)
def fm_M_spawnRun (N : Nat) (u : MS) : Option (MS × Unit) := fb_M_spawnRun_0 N (gg_M_spawnRun N N) u
set_option maxRecDepth 100000 in
set_option maxHeartbeats 4000000 in
theorem c_M_spawnRun (N : Nat) {l : Launch} {D : va_G} {cl : List vw_C} {cB cI cJ cZ cS : ClassId} {iM h0 : Nat} {ad : Nat → Nat} {u : MS} {sz : Nat} {x : MS × Unit} (hM : cl[iM]? = some (R_M, F_M, 171)) (hf : fm_M_spawnRun N u = some x) : Met l y_M_spawnRun (wd_ws y_M_spawnRun b_M_spawnRun 13 none) rm_M_spawnRun (mPc D cl cB cI cJ cZ cS iM h0 ad u sz [.ref h0]) (mQv D cl cB cI cJ cZ cS iM h0 ad (mA cB cI cJ cZ cS iM h0 ad u sz) x) 0 0 (mA cB cI cJ cZ cS iM h0 ad u sz) :=
  mMet (by decide) rfl hM (Nat.le_of_ble_eq_true rfl) (fun p e s m below meth c ls hsz C0 hP hD hS hl => by
    have hR : rm_M_spawnRun = rm_M_spawnRun := rfl
    exact wb_M_spawnRun_0 C0 hR N (gg_M_spawnRun N N) (wg_M_spawnRun C0 hR N N) u x hf s.heap [] hP hD hS ls (lv_sub hl [0] rfl))
abbrev b_M_printRun : ByteArray := prog_14_method_151_code
def y_M_printRun : MethodName := ⟨R_M, "printRun", "(J)V"⟩
def w_M_printRun : List Cond := wd_ws y_M_printRun b_M_printRun 4 none
set_option maxRecDepth 100000 in
theorem k_M_printRun : Cond.code y_M_printRun b_M_printRun 4 none ∈ wd_tbl := wd_of 3110 rfl rfl
theorem d_M_printRun_0 : decode b_M_printRun 0 = .ok (.aload_n 0, 1) := by decide +kernel
theorem d_M_printRun_1 : decode b_M_printRun 1 = .ok (.getfield 1010, 3) := by decide +kernel
theorem d_M_printRun_4 : decode b_M_printRun 4 = .ok (.sipush 200, 3) := by decide +kernel
theorem d_M_printRun_7 : decode b_M_printRun 7 = .ok (.if_icmp .ge 71, 3) := by decide +kernel
theorem d_M_printRun_10 : decode b_M_printRun 10 = .ok (.aload_n 0, 1) := by decide +kernel
theorem d_M_printRun_11 : decode b_M_printRun 11 = .ok (.aload_n 0, 1) := by decide +kernel
theorem d_M_printRun_12 : decode b_M_printRun 12 = .ok (.getfield 669, 3) := by decide +kernel
theorem d_M_printRun_15 : decode b_M_printRun 15 = .ok (.lload_n 1, 1) := by decide +kernel
theorem d_M_printRun_16 : decode b_M_printRun 16 = .ok (.invokevirtual 1013, 3) := by decide +kernel
theorem d_M_printRun_19 : decode b_M_printRun 19 = .ok (.iconst 0, 1) := by decide +kernel
theorem d_M_printRun_20 : decode b_M_printRun 20 = .ok (.istore_n 3, 1) := by decide +kernel
theorem d_M_printRun_21 : decode b_M_printRun 21 = .ok (.iload_n 3, 1) := by decide +kernel
theorem d_M_printRun_22 : decode b_M_printRun 22 = .ok (.aload_n 0, 1) := by decide +kernel
theorem d_M_printRun_23 : decode b_M_printRun 23 = .ok (.getfield 724, 3) := by decide +kernel
theorem d_M_printRun_26 : decode b_M_printRun 26 = .ok (.if_icmp .ge 29, 3) := by decide +kernel
theorem d_M_printRun_29 : decode b_M_printRun 29 = .ok (.aload_n 0, 1) := by decide +kernel
theorem d_M_printRun_30 : decode b_M_printRun 30 = .ok (.getfield 291, 3) := by decide +kernel
theorem d_M_printRun_33 : decode b_M_printRun 33 = .ok (.bipush 100, 2) := by decide +kernel
theorem d_M_printRun_35 : decode b_M_printRun 35 = .ok (.aload_n 0, 1) := by decide +kernel
theorem d_M_printRun_36 : decode b_M_printRun 36 = .ok (.getfield 1010, 3) := by decide +kernel
theorem d_M_printRun_39 : decode b_M_printRun 39 = .ok (.imul, 1) := by decide +kernel
theorem d_M_printRun_40 : decode b_M_printRun 40 = .ok (.iload_n 3, 1) := by decide +kernel
theorem d_M_printRun_41 : decode b_M_printRun 41 = .ok (.iadd, 1) := by decide +kernel
theorem d_M_printRun_42 : decode b_M_printRun 42 = .ok (.aload_n 0, 1) := by decide +kernel
theorem d_M_printRun_43 : decode b_M_printRun 43 = .ok (.getfield 333, 3) := by decide +kernel
theorem d_M_printRun_46 : decode b_M_printRun 46 = .ok (.iload_n 3, 1) := by decide +kernel
theorem d_M_printRun_47 : decode b_M_printRun 47 = .ok (.baload, 1) := by decide +kernel
theorem d_M_printRun_48 : decode b_M_printRun 48 = .ok (.bastore, 1) := by decide +kernel
theorem d_M_printRun_49 : decode b_M_printRun 49 = .ok (.iinc 3 1, 3) := by decide +kernel
theorem d_M_printRun_52 : decode b_M_printRun 52 = .ok (.goto (-31), 3) := by decide +kernel
theorem d_M_printRun_55 : decode b_M_printRun 55 = .ok (.aload_n 0, 1) := by decide +kernel
theorem d_M_printRun_56 : decode b_M_printRun 56 = .ok (.getfield 294, 3) := by decide +kernel
theorem d_M_printRun_59 : decode b_M_printRun 59 = .ok (.aload_n 0, 1) := by decide +kernel
theorem d_M_printRun_60 : decode b_M_printRun 60 = .ok (.getfield 1010, 3) := by decide +kernel
theorem d_M_printRun_63 : decode b_M_printRun 63 = .ok (.aload_n 0, 1) := by decide +kernel
theorem d_M_printRun_64 : decode b_M_printRun 64 = .ok (.getfield 724, 3) := by decide +kernel
theorem d_M_printRun_67 : decode b_M_printRun 67 = .ok (.iastore, 1) := by decide +kernel
theorem d_M_printRun_68 : decode b_M_printRun 68 = .ok (.aload_n 0, 1) := by decide +kernel
theorem d_M_printRun_69 : decode b_M_printRun 69 = .ok (.dup, 1) := by decide +kernel
theorem d_M_printRun_70 : decode b_M_printRun 70 = .ok (.getfield 1010, 3) := by decide +kernel
theorem d_M_printRun_73 : decode b_M_printRun 73 = .ok (.iconst 1, 1) := by decide +kernel
theorem d_M_printRun_74 : decode b_M_printRun 74 = .ok (.iadd, 1) := by decide +kernel
theorem d_M_printRun_75 : decode b_M_printRun 75 = .ok (.putfield 1010, 3) := by decide +kernel
theorem d_M_printRun_78 : decode b_M_printRun 78 = .ok (.return_, 1) := by decide +kernel
set_option maxRecDepth 100000 in
theorem hl_M_printRun : Cond.methodLink R_M 998 y_M_printRun ∈ wd_tbl := wd_of 3107 (by decide +kernel) rfl
set_option maxRecDepth 100000 in
theorem hi_M_printRun : Cond.instanceMethod y_M_printRun ∈ wd_tbl := wd_of 3109 (by decide +kernel) rfl
set_option maxRecDepth 100000 in
theorem hs_M_printRun : Cond.selects R_M y_M_printRun y_M_printRun ∈ wd_tbl := wd_of 232 (by decide +kernel) rfl
theorem hd_M_printRun : y_M_printRun.cls = R_M ∧ y_M_printRun.cls ≠ "java/lang/invoke/MethodHandle" ∧ y_M_printRun.cls ≠ "java/lang/invoke/VarHandle" ∧ (parseMethodDescriptor y_M_printRun.desc).map (fun d => d.parameters.length) = some 1 := by decide +kernel
def rm_M_printRun : Room := { frames := 4, cells := 0, slots := 0, locals := 100 }
theorem rm_M_printRun_M_write {R : Room} (hR : R = rm_M_printRun) : (rm_M_write).frames + 1 ≤ R.frames ∧ 8 + (4 + 11) + (rm_M_write).locals ≤ R.locals := by subst hR; decide
def fb_M_printRun_78 (N : Nat) (G : (MS → Int32 → Option (MS × Unit))) (u : MS) : Option (MS × Unit) := some (u, ())
set_option maxRecDepth 100000 in
set_option maxHeartbeats 4000000 in
theorem wb_M_printRun_78 {p : Program} {l : Launch} {e : Env} {R : Room} {s : State} {m : MethodId} {args : Array Value} {below : List Frame} {meth : Method} {c : Code} {D : va_G} {cl : List vw_C} {cB cI cJ cZ cS : ClassId} {A : Nat → Prop} {iM h0 : Nat} {ad : Nat → Nat} (C0 : MCx p s m args meth c b_M_printRun 4 none D cl cB cI cJ cZ cS iM A) (hR : R = rm_M_printRun) (N : Nat) (G : (MS → Int32 → Option (MS × Unit))) (hG : (∀ (u : MS) (v3 : Int32) (x : MS × Unit), G u v3 = some x → ∀ (H : Heap) (locs : List Loc), va_P D cl (wM cB cI cJ cZ cS iM h0 ad u) H → va_D A (wM cB cI cJ cZ cS iM h0 ad u) → va_S A s.heap H locs → ∀ (ls : Array Slot), lv_has ls 4 [(0, .ref h0), (3, .int v3)] → W p l e R s m args below meth c H locs 0 0 (MQ below (mQv D cl cB cI cJ cZ cS iM h0 ad A x) args s 0 0 A) (F0 m 21 ls []))) : ∀ (u : MS) (x : MS × Unit), fb_M_printRun_78 N G u = some x → ∀ (H : Heap) (locs : List Loc), va_P D cl (wM cB cI cJ cZ cS iM h0 ad u) H → va_D A (wM cB cI cJ cZ cS iM h0 ad u) → va_S A s.heap H locs → ∀ (ls : Array Slot), lv_has ls 4 [] → W p l e R s m args below meth c H locs 0 0 (MQ below (mQv D cl cB cI cJ cZ cS iM h0 ad A x) args s 0 0 A) (F0 m 78 ls []) := by
  intro u x hf H locs hP hD hS ls hl
  obtain ⟨hx, hb, hr, hml, ht, hown, hM, hK, hA, hlocks⟩ := id C0
  unfold fb_M_printRun_78 at hf
  exact mr_v C0 hP hD hS hf d_M_printRun_78
def fb_M_printRun_21 (N : Nat) (G : (MS → Int32 → Option (MS × Unit))) (u : MS) (v3 : Int32) : Option (MS × Unit) := br (decide ((u.1 144) ≤ v3)) (ck (inb (u.1 128) (ln 127)) (lt (upA u 127 (upd (u.2.2.1 127) (u.1 128).toNatClampNeg (u.1 144))) (fun w1 => lt (upI w1 128 ((w1.1 128) + 1)) (fun w2 => fb_M_printRun_78 N G w2)))) (ck (inb v3 (ln 143)) (ck (inb ((100 * (u.1 128)) + v3) (ln 126)) (lt (upA u 126 (upd (u.2.2.1 126) ((100 * (u.1 128)) + v3).toNatClampNeg (vp_nar .byte (u.2.2.1 143 v3.toNatClampNeg)))) (fun w3 => G w3 ((v3 + 1))))))
set_option maxRecDepth 100000 in
set_option maxHeartbeats 4000000 in
theorem wb_M_printRun_21 {p : Program} {l : Launch} {e : Env} {R : Room} {s : State} {m : MethodId} {args : Array Value} {below : List Frame} {meth : Method} {c : Code} {D : va_G} {cl : List vw_C} {cB cI cJ cZ cS : ClassId} {A : Nat → Prop} {iM h0 : Nat} {ad : Nat → Nat} (C0 : MCx p s m args meth c b_M_printRun 4 none D cl cB cI cJ cZ cS iM A) (hR : R = rm_M_printRun) (N : Nat) (G : (MS → Int32 → Option (MS × Unit))) (hG : (∀ (u : MS) (v3 : Int32) (x : MS × Unit), G u v3 = some x → ∀ (H : Heap) (locs : List Loc), va_P D cl (wM cB cI cJ cZ cS iM h0 ad u) H → va_D A (wM cB cI cJ cZ cS iM h0 ad u) → va_S A s.heap H locs → ∀ (ls : Array Slot), lv_has ls 4 [(0, .ref h0), (3, .int v3)] → W p l e R s m args below meth c H locs 0 0 (MQ below (mQv D cl cB cI cJ cZ cS iM h0 ad A x) args s 0 0 A) (F0 m 21 ls []))) : ∀ (u : MS) (v3 : Int32) (x : MS × Unit), fb_M_printRun_21 N G u v3 = some x → ∀ (H : Heap) (locs : List Loc), va_P D cl (wM cB cI cJ cZ cS iM h0 ad u) H → va_D A (wM cB cI cJ cZ cS iM h0 ad u) → va_S A s.heap H locs → ∀ (ls : Array Slot), lv_has ls 4 [(0, .ref h0), (3, .int v3)] → W p l e R s m args below meth c H locs 0 0 (MQ below (mQv D cl cB cI cJ cZ cS iM h0 ad A x) args s 0 0 A) (F0 m 21 ls []) := by
  intro u v3 x hf H locs hP hD hS ls hl
  obtain ⟨hx, hb, hr, hml, ht, hown, hM, hK, hA, hlocks⟩ := id C0
  unfold fb_M_printRun_21 at hf
  refine lv_iload_n hx hb d_M_printRun_21 rfl (lv_at hl 1 rfl) ?_
  refine lv_aload_n hx hb d_M_printRun_22 rfl (lv_at hl 0 rfl) ?_
  refine ug_I hx hb ht hown hM hK hP 144 (by decide) lk_M_144 (by decide) d_M_printRun_23 ?_
  refine lv_icmp_ge (tgt := 55) hx hb d_M_printRun_26 (by decide) (fun hc => ?_) (fun hc => ?_)
  · rw [br_p _ hc] at hf
    refine lv_aload_n hx hb d_M_printRun_55 rfl (lv_at hl 0 rfl) ?_
    refine ug_R hx hb ht hown hM hK hP 127 (by decide) lk_M_127 (by decide) d_M_printRun_56 ?_
    refine lv_aload_n hx hb d_M_printRun_59 rfl (lv_at hl 0 rfl) ?_
    refine ug_I hx hb ht hown hM hK hP 128 (by decide) lk_M_128 (by decide) d_M_printRun_60 ?_
    refine lv_aload_n hx hb d_M_printRun_63 rfl (lv_at hl 0 rfl) ?_
    refine ug_I hx hb ht hown hM hK hP 144 (by decide) lk_M_144 (by decide) d_M_printRun_64 ?_
    obtain ⟨hi9, hf⟩ := ck_some hf
    refine us_I hx hb hK hP hD hS (by decide) (by decide) hi9 d_M_printRun_67 (fun H locs hP hD hS => ?_)
    obtain ⟨w1, e1, hf⟩ := lt_some hf
    rw [← e1] at hP hD
    refine lv_aload_n hx hb d_M_printRun_68 rfl (lv_at hl 0 rfl) ?_
    refine lv_dup hx hb d_M_printRun_69 rfl ?_
    refine ug_I hx hb ht hown hM hK hP 128 (by decide) lk_M_128 (by decide) d_M_printRun_70 ?_
    refine lv_iconst (v := 1) hx hb d_M_printRun_73 (by decide) ?_
    refine lv_iadd hx hb d_M_printRun_74 ?_
    refine up_I hx hb ht hown hM hK hP hD hS 128 (by decide) lk_M_128 (by decide) rfl rfl rfl d_M_printRun_75 (fun H locs hP hD hS => ?_)
    obtain ⟨w2, e2, hf⟩ := lt_some hf
    rw [← e2] at hP hD
    exact wb_M_printRun_78 C0 hR N G hG _ _ hf H locs hP hD hS ls (lv_sub hl [] rfl)
  · rw [br_n _ hc] at hf
    refine lv_aload_n hx hb d_M_printRun_29 rfl (lv_at hl 0 rfl) ?_
    refine ug_R hx hb ht hown hM hK hP 126 (by decide) lk_M_126 (by decide) d_M_printRun_30 ?_
    refine lv_bipush (v := 100) hx hb d_M_printRun_33 (by decide) ?_
    refine lv_aload_n hx hb d_M_printRun_35 rfl (lv_at hl 0 rfl) ?_
    refine ug_I hx hb ht hown hM hK hP 128 (by decide) lk_M_128 (by decide) d_M_printRun_36 ?_
    refine lv_imul hx hb d_M_printRun_39 ?_
    refine lv_iload_n hx hb d_M_printRun_40 rfl (lv_at hl 1 rfl) ?_
    refine lv_iadd hx hb d_M_printRun_41 ?_
    refine lv_aload_n hx hb d_M_printRun_42 rfl (lv_at hl 0 rfl) ?_
    refine ug_R hx hb ht hown hM hK hP 143 (by decide) lk_M_143 (by decide) d_M_printRun_43 ?_
    refine lv_iload_n hx hb d_M_printRun_46 rfl (lv_at hl 1 rfl) ?_
    obtain ⟨hi9, hf⟩ := ck_some hf
    refine ul_B hx hb hK hP (by decide) (by decide) hi9 d_M_printRun_47 ?_
    obtain ⟨hi9, hf⟩ := ck_some hf
    refine us_B hx hb hK hP hD hS (by decide) (by decide) hi9 d_M_printRun_48 (fun H locs hP hD hS => ?_)
    obtain ⟨w3, e3, hf⟩ := lt_some hf
    rw [← e3] at hP hD
    refine lv_iinc (v := (v3 + 1)) (lv' := [(3, .int (v3 + 1)), (0, .ref h0)]) hx hb d_M_printRun_49 hl (k := 1) rfl rfl (by decide) rfl (fun ls hl => ?_)
    refine lv_goto (tgt := 21) hx hb d_M_printRun_52 (by decide) ?_
    exact hG _ _ _ hf H locs hP hD hS ls (lv_sub hl [1, 0] rfl)
def fb_M_printRun_0 (N : Nat) (G : (MS → Int32 → Option (MS × Unit))) (u : MS) (v1 : Int64) : Option (MS × Unit) := br (decide (200 ≤ (u.1 128))) (fb_M_printRun_78 N G u) (bnd (fm_M_write N u (u.1 133) v1) (fun u4 _ => G u4 (0)))
set_option maxRecDepth 100000 in
set_option maxHeartbeats 4000000 in
theorem wb_M_printRun_0 {p : Program} {l : Launch} {e : Env} {R : Room} {s : State} {m : MethodId} {args : Array Value} {below : List Frame} {meth : Method} {c : Code} {D : va_G} {cl : List vw_C} {cB cI cJ cZ cS : ClassId} {A : Nat → Prop} {iM h0 : Nat} {ad : Nat → Nat} (C0 : MCx p s m args meth c b_M_printRun 4 none D cl cB cI cJ cZ cS iM A) (hR : R = rm_M_printRun) (N : Nat) (G : (MS → Int32 → Option (MS × Unit))) (hG : (∀ (u : MS) (v3 : Int32) (x : MS × Unit), G u v3 = some x → ∀ (H : Heap) (locs : List Loc), va_P D cl (wM cB cI cJ cZ cS iM h0 ad u) H → va_D A (wM cB cI cJ cZ cS iM h0 ad u) → va_S A s.heap H locs → ∀ (ls : Array Slot), lv_has ls 4 [(0, .ref h0), (3, .int v3)] → W p l e R s m args below meth c H locs 0 0 (MQ below (mQv D cl cB cI cJ cZ cS iM h0 ad A x) args s 0 0 A) (F0 m 21 ls []))) : ∀ (u : MS) (v1 : Int64) (x : MS × Unit), fb_M_printRun_0 N G u v1 = some x → ∀ (H : Heap) (locs : List Loc), va_P D cl (wM cB cI cJ cZ cS iM h0 ad u) H → va_D A (wM cB cI cJ cZ cS iM h0 ad u) → va_S A s.heap H locs → ∀ (ls : Array Slot), lv_has ls 4 [(0, .ref h0), (1, .long v1)] → W p l e R s m args below meth c H locs 0 0 (MQ below (mQv D cl cB cI cJ cZ cS iM h0 ad A x) args s 0 0 A) (F0 m 0 ls []) := by
  intro u v1 x hf H locs hP hD hS ls hl
  obtain ⟨hx, hb, hr, hml, ht, hown, hM, hK, hA, hlocks⟩ := id C0
  unfold fb_M_printRun_0 at hf
  refine lv_aload_n hx hb d_M_printRun_0 rfl (lv_at hl 0 rfl) ?_
  refine ug_I hx hb ht hown hM hK hP 128 (by decide) lk_M_128 (by decide) d_M_printRun_1 ?_
  refine lv_sipush (v := 200) hx hb d_M_printRun_4 (by decide) ?_
  refine lv_icmp_ge (tgt := 78) hx hb d_M_printRun_7 (by decide) (fun hc => ?_) (fun hc => ?_)
  · rw [br_p _ hc] at hf
    exact wb_M_printRun_78 C0 hR N G hG _ _ hf H locs hP hD hS ls (lv_sub hl [] rfl)
  · rw [br_n _ hc] at hf
    refine lv_aload_n hx hb d_M_printRun_10 rfl (lv_at hl 0 rfl) ?_
    refine lv_aload_n hx hb d_M_printRun_11 rfl (lv_at hl 0 rfl) ?_
    refine ug_I hx hb ht hown hM hK hP 133 (by decide) lk_M_133 (by decide) d_M_printRun_12 ?_
    refine lv_lload_n hx hb d_M_printRun_15 rfl (lv_at hl 1 rfl) ?_
    obtain ⟨u4, r4, hc4, hf⟩ := bnd_some hf
    refine mV_v (As := [.int (u.1 133), .long v1]) (rest := []) C0 hP hD hS (c_M_write N hM hc4) k_M_write hl_M_write hi_M_write hs_M_write hini_M rfl rfl hd_M_write rfl (rm_M_printRun_M_write hR) hl.1 (Nat.le_of_ble_eq_true rfl) d_M_printRun_16 rfl ⟨Nat.zero_le _, Nat.zero_le _⟩ (fun H locs hP hD hS => ?_)
    refine lv_iconst (v := 0) hx hb d_M_printRun_19 (by decide) ?_
    refine lv_istore_n (lv' := [(3, .int 0), (0, .ref h0), (1, .long v1)]) hx hb d_M_printRun_20 rfl hl (by decide) rfl (fun ls hl => ?_)
    exact hG _ _ _ hf H locs hP hD hS ls (lv_sub hl [1, 0] rfl)
def gg_M_printRun (N : Nat) : Nat → ((MS → Int32 → Option (MS × Unit)))
  | 0 => fun _ _ => none
  | n + 1 => fb_M_printRun_21 N (gg_M_printRun N n)
theorem wg_M_printRun {p : Program} {l : Launch} {e : Env} {R : Room} {s : State} {m : MethodId} {args : Array Value} {below : List Frame} {meth : Method} {c : Code} {D : va_G} {cl : List vw_C} {cB cI cJ cZ cS : ClassId} {A : Nat → Prop} {iM h0 : Nat} {ad : Nat → Nat} (C0 : MCx p s m args meth c b_M_printRun 4 none D cl cB cI cJ cZ cS iM A) (hR : R = rm_M_printRun) (N : Nat) : ∀ n : Nat, (∀ (u : MS) (v3 : Int32) (x : MS × Unit), gg_M_printRun N n u v3 = some x → ∀ (H : Heap) (locs : List Loc), va_P D cl (wM cB cI cJ cZ cS iM h0 ad u) H → va_D A (wM cB cI cJ cZ cS iM h0 ad u) → va_S A s.heap H locs → ∀ (ls : Array Slot), lv_has ls 4 [(0, .ref h0), (3, .int v3)] → W p l e R s m args below meth c H locs 0 0 (MQ below (mQv D cl cB cI cJ cZ cS iM h0 ad A x) args s 0 0 A) (F0 m 21 ls []))
  | 0 => (fun u v3 x hf => by cases hf)
  | n + 1 => wb_M_printRun_21 C0 hR N (gg_M_printRun N n) (wg_M_printRun C0 hR N n)
def fm_M_printRun (N : Nat) (u : MS) (v1 : Int64) : Option (MS × Unit) := fb_M_printRun_0 N (gg_M_printRun N N) u v1
set_option maxRecDepth 100000 in
set_option maxHeartbeats 4000000 in
theorem c_M_printRun (N : Nat) {l : Launch} {D : va_G} {cl : List vw_C} {cB cI cJ cZ cS : ClassId} {iM h0 : Nat} {ad : Nat → Nat} {u : MS} {sz : Nat} {v1 : Int64} {x : MS × Unit} (hM : cl[iM]? = some (R_M, F_M, 171)) (hf : fm_M_printRun N u v1 = some x) : Met l y_M_printRun (wd_ws y_M_printRun b_M_printRun 4 none) rm_M_printRun (mPc D cl cB cI cJ cZ cS iM h0 ad u sz [.ref h0, .long v1]) (mQv D cl cB cI cJ cZ cS iM h0 ad (mA cB cI cJ cZ cS iM h0 ad u sz) x) 0 0 (mA cB cI cJ cZ cS iM h0 ad u sz) :=
  mMet (by decide) rfl hM (Nat.le_of_ble_eq_true rfl) (fun p e s m below meth c ls hsz C0 hP hD hS hl => by
    have hR : rm_M_printRun = rm_M_printRun := rfl
    exact wb_M_printRun_0 C0 hR N (gg_M_printRun N N) (wg_M_printRun C0 hR N N) u _ x hf s.heap [] hP hD hS ls (lv_sub hl [0, 1] rfl))
abbrev b_M_isTruth : ByteArray := prog_14_method_132_code
def y_M_isTruth : MethodName := ⟨R_M, "isTruth", "(J)Z"⟩
def w_M_isTruth : List Cond := wd_ws y_M_isTruth b_M_isTruth 2 (some .boolean)
set_option maxRecDepth 100000 in
theorem k_M_isTruth : Cond.code y_M_isTruth b_M_isTruth 2 (some .boolean) ∈ wd_tbl := wd_of 3133 rfl rfl
theorem d_M_isTruth_0 : decode b_M_isTruth 0 = .ok (.lload_n 0, 1) := by decide +kernel
theorem d_M_isTruth_1 : decode b_M_isTruth 1 = .ok (.iconst 1, 1) := by decide +kernel
theorem d_M_isTruth_2 : decode b_M_isTruth 2 = .ok (.invokestatic 940, 3) := by decide +kernel
theorem d_M_isTruth_5 : decode b_M_isTruth 5 = .ok (.lcmp, 1) := by decide +kernel
theorem d_M_isTruth_6 : decode b_M_isTruth 6 = .ok (.ifCond .eq 12, 3) := by decide +kernel
theorem d_M_isTruth_9 : decode b_M_isTruth 9 = .ok (.lload_n 0, 1) := by decide +kernel
theorem d_M_isTruth_10 : decode b_M_isTruth 10 = .ok (.iconst 0, 1) := by decide +kernel
theorem d_M_isTruth_11 : decode b_M_isTruth 11 = .ok (.invokestatic 940, 3) := by decide +kernel
theorem d_M_isTruth_14 : decode b_M_isTruth 14 = .ok (.lcmp, 1) := by decide +kernel
theorem d_M_isTruth_15 : decode b_M_isTruth 15 = .ok (.ifCond .ne 7, 3) := by decide +kernel
theorem d_M_isTruth_18 : decode b_M_isTruth 18 = .ok (.iconst 1, 1) := by decide +kernel
theorem d_M_isTruth_19 : decode b_M_isTruth 19 = .ok (.goto 4, 3) := by decide +kernel
theorem d_M_isTruth_22 : decode b_M_isTruth 22 = .ok (.iconst 0, 1) := by decide +kernel
theorem d_M_isTruth_23 : decode b_M_isTruth 23 = .ok (.ireturn, 1) := by decide +kernel
set_option maxRecDepth 100000 in
theorem hl_M_isTruth : Cond.methodLink R_M 947 y_M_isTruth ∈ wd_tbl := wd_of 3131 (by decide +kernel) rfl
set_option maxRecDepth 100000 in
theorem ht_M_isTruth : Cond.static y_M_isTruth ∈ wd_tbl := wd_of 3132 (by decide +kernel) rfl
theorem hd_M_isTruth : y_M_isTruth.cls = R_M ∧ y_M_isTruth.cls ≠ "java/lang/invoke/MethodHandle" ∧ y_M_isTruth.cls ≠ "java/lang/invoke/VarHandle" ∧ (parseMethodDescriptor y_M_isTruth.desc).map (fun d => d.parameters.length) = some 1 := by decide +kernel
def rm_M_isTruth : Room := { frames := 2, cells := 0, slots := 0, locals := 41 }
theorem rm_M_isTruth_M_truth {R : Room} (hR : R = rm_M_isTruth) : (rm_M_truth).frames + 1 ≤ R.frames ∧ 8 + (1 + 11) + (rm_M_truth).locals ≤ R.locals := by subst hR; decide
def fb_M_isTruth_23 (N : Nat) (G : Unit) (u : MS) (t0 : Int32) : Option (MS × Int32) := ck (isb t0) (some (u, t0))
set_option maxRecDepth 100000 in
set_option maxHeartbeats 4000000 in
theorem wb_M_isTruth_23 {p : Program} {l : Launch} {e : Env} {R : Room} {s : State} {m : MethodId} {args : Array Value} {below : List Frame} {meth : Method} {c : Code} {D : va_G} {cl : List vw_C} {cB cI cJ cZ cS : ClassId} {A : Nat → Prop} {iM h0 : Nat} {ad : Nat → Nat} (C0 : MCx p s m args meth c b_M_isTruth 2 (some .boolean) D cl cB cI cJ cZ cS iM A) (hR : R = rm_M_isTruth) (N : Nat) (G : Unit) (hG : True) : ∀ (u : MS) (t0 : Int32) (x : MS × Int32), fb_M_isTruth_23 N G u t0 = some x → ∀ (H : Heap) (locs : List Loc), va_P D cl (wM cB cI cJ cZ cS iM h0 ad u) H → va_D A (wM cB cI cJ cZ cS iM h0 ad u) → va_S A s.heap H locs → ∀ (ls : Array Slot), lv_has ls 2 [] → W p l e R s m args below meth c H locs 0 0 (MQ below (mQi D cl cB cI cJ cZ cS iM h0 ad A x) args s 0 0 A) (F0 m 23 ls [.int t0]) := by
  intro u t0 x hf H locs hP hD hS ls hl
  obtain ⟨hx, hb, hr, hml, ht, hown, hM, hK, hA, hlocks⟩ := id C0
  unfold fb_M_isTruth_23 at hf
  obtain ⟨hz, hf⟩ := ck_some hf
  exact mr_z C0 hP hD hS hz hf d_M_isTruth_23
def fb_M_isTruth_18 (N : Nat) (G : Unit) (u : MS) : Option (MS × Int32) := fb_M_isTruth_23 N G u (1)
set_option maxRecDepth 100000 in
set_option maxHeartbeats 4000000 in
theorem wb_M_isTruth_18 {p : Program} {l : Launch} {e : Env} {R : Room} {s : State} {m : MethodId} {args : Array Value} {below : List Frame} {meth : Method} {c : Code} {D : va_G} {cl : List vw_C} {cB cI cJ cZ cS : ClassId} {A : Nat → Prop} {iM h0 : Nat} {ad : Nat → Nat} (C0 : MCx p s m args meth c b_M_isTruth 2 (some .boolean) D cl cB cI cJ cZ cS iM A) (hR : R = rm_M_isTruth) (N : Nat) (G : Unit) (hG : True) : ∀ (u : MS) (x : MS × Int32), fb_M_isTruth_18 N G u = some x → ∀ (H : Heap) (locs : List Loc), va_P D cl (wM cB cI cJ cZ cS iM h0 ad u) H → va_D A (wM cB cI cJ cZ cS iM h0 ad u) → va_S A s.heap H locs → ∀ (ls : Array Slot), lv_has ls 2 [] → W p l e R s m args below meth c H locs 0 0 (MQ below (mQi D cl cB cI cJ cZ cS iM h0 ad A x) args s 0 0 A) (F0 m 18 ls []) := by
  intro u x hf H locs hP hD hS ls hl
  obtain ⟨hx, hb, hr, hml, ht, hown, hM, hK, hA, hlocks⟩ := id C0
  unfold fb_M_isTruth_18 at hf
  refine lv_iconst (v := 1) hx hb d_M_isTruth_18 (by decide) ?_
  refine lv_goto (tgt := 23) hx hb d_M_isTruth_19 (by decide) ?_
  exact wb_M_isTruth_23 C0 hR N G hG _ _ _ hf H locs hP hD hS ls (lv_sub hl [] rfl)
def fb_M_isTruth_0 (N : Nat) (G : Unit) (u : MS) (v0 : Int64) : Option (MS × Int32) := bnd (fm_M_truth N u 1) (fun u1 r1 => br (decide ((lg_cmp v0 r1) = 0)) (fb_M_isTruth_18 N G u1) (bnd (fm_M_truth N u1 0) (fun u2 r2 => br (decide ((lg_cmp v0 r2) = 0)) (fb_M_isTruth_18 N G u2) (fb_M_isTruth_23 N G u2 (0)))))
set_option maxRecDepth 100000 in
set_option maxHeartbeats 4000000 in
theorem wb_M_isTruth_0 {p : Program} {l : Launch} {e : Env} {R : Room} {s : State} {m : MethodId} {args : Array Value} {below : List Frame} {meth : Method} {c : Code} {D : va_G} {cl : List vw_C} {cB cI cJ cZ cS : ClassId} {A : Nat → Prop} {iM h0 : Nat} {ad : Nat → Nat} (C0 : MCx p s m args meth c b_M_isTruth 2 (some .boolean) D cl cB cI cJ cZ cS iM A) (hR : R = rm_M_isTruth) (N : Nat) (G : Unit) (hG : True) : ∀ (u : MS) (v0 : Int64) (x : MS × Int32), fb_M_isTruth_0 N G u v0 = some x → ∀ (H : Heap) (locs : List Loc), va_P D cl (wM cB cI cJ cZ cS iM h0 ad u) H → va_D A (wM cB cI cJ cZ cS iM h0 ad u) → va_S A s.heap H locs → ∀ (ls : Array Slot), lv_has ls 2 [(0, .long v0)] → W p l e R s m args below meth c H locs 0 0 (MQ below (mQi D cl cB cI cJ cZ cS iM h0 ad A x) args s 0 0 A) (F0 m 0 ls []) := by
  intro u v0 x hf H locs hP hD hS ls hl
  obtain ⟨hx, hb, hr, hml, ht, hown, hM, hK, hA, hlocks⟩ := id C0
  unfold fb_M_isTruth_0 at hf
  refine lv_lload_n hx hb d_M_isTruth_0 rfl (lv_at hl 0 rfl) ?_
  refine lv_iconst (v := 1) hx hb d_M_isTruth_1 (by decide) ?_
  obtain ⟨u1, r1, hc1, hf⟩ := bnd_some hf
  refine mS_l (As := [.int 1]) (rest := [.long v0]) C0 hP hD hS (c_M_truth N hM hc1) k_M_truth hl_M_truth ht_M_truth hini_M rfl rfl hd_M_truth rfl (rm_M_isTruth_M_truth hR) hl.1 (Nat.le_of_ble_eq_true rfl) d_M_isTruth_2 rfl ⟨Nat.zero_le _, Nat.zero_le _⟩ (fun H locs hP hD hS => ?_)
  refine W.lcmp hx hb d_M_isTruth_5 ?_
  refine lv_if_eq (tgt := 18) hx hb d_M_isTruth_6 (by decide) (fun hc => ?_) (fun hc => ?_)
  · rw [br_p _ hc] at hf
    exact wb_M_isTruth_18 C0 hR N G hG _ _ hf H locs hP hD hS ls (lv_sub hl [] rfl)
  · rw [br_n _ hc] at hf
    refine lv_lload_n hx hb d_M_isTruth_9 rfl (lv_at hl 0 rfl) ?_
    refine lv_iconst (v := 0) hx hb d_M_isTruth_10 (by decide) ?_
    obtain ⟨u2, r2, hc2, hf⟩ := bnd_some hf
    refine mS_l (As := [.int 0]) (rest := [.long v0]) C0 hP hD hS (c_M_truth N hM hc2) k_M_truth hl_M_truth ht_M_truth hini_M rfl rfl hd_M_truth rfl (rm_M_isTruth_M_truth hR) hl.1 (Nat.le_of_ble_eq_true rfl) d_M_isTruth_11 rfl ⟨Nat.zero_le _, Nat.zero_le _⟩ (fun H locs hP hD hS => ?_)
    refine W.lcmp hx hb d_M_isTruth_14 ?_
    refine lv_if_ne (tgt := 22) hx hb d_M_isTruth_15 (by decide) (fun hc => ?_) (fun hc => ?_)
    · rw [br_n _ hc] at hf
      refine lv_iconst (v := 0) hx hb d_M_isTruth_22 (by decide) ?_
      exact wb_M_isTruth_23 C0 hR N G hG _ _ _ hf H locs hP hD hS ls (lv_sub hl [] rfl)
    · rw [br_p _ hc] at hf
      exact wb_M_isTruth_18 C0 hR N G hG _ _ hf H locs hP hD hS ls (lv_sub hl [] rfl)
def fm_M_isTruth (N : Nat) (u : MS) (v0 : Int64) : Option (MS × Int32) := fb_M_isTruth_0 N () u v0
set_option maxRecDepth 100000 in
set_option maxHeartbeats 4000000 in
theorem c_M_isTruth (N : Nat) {l : Launch} {D : va_G} {cl : List vw_C} {cB cI cJ cZ cS : ClassId} {iM h0 : Nat} {ad : Nat → Nat} {u : MS} {sz : Nat} {v0 : Int64} {x : MS × Int32} (hM : cl[iM]? = some (R_M, F_M, 171)) (hf : fm_M_isTruth N u v0 = some x) : Met l y_M_isTruth (wd_ws y_M_isTruth b_M_isTruth 2 (some .boolean)) rm_M_isTruth (mPc D cl cB cI cJ cZ cS iM h0 ad u sz [.long v0]) (mQi D cl cB cI cJ cZ cS iM h0 ad (mA cB cI cJ cZ cS iM h0 ad u sz) x) 0 0 (mA cB cI cJ cZ cS iM h0 ad u sz) :=
  mMet (by decide) rfl hM (Nat.le_of_ble_eq_true rfl) (fun p e s m below meth c ls hsz C0 hP hD hS hl => by
    have hR : rm_M_isTruth = rm_M_isTruth := rfl
    exact wb_M_isTruth_0 C0 hR N () trivial u _ x hf s.heap [] hP hD hS ls (lv_sub hl [0] rfl))
abbrev b_M_namedBy : ByteArray := prog_14_method_149_code
def y_M_namedBy : MethodName := ⟨R_M, "namedBy", "(I)I"⟩
def w_M_namedBy : List Cond := wd_ws y_M_namedBy b_M_namedBy 3 (some .int)
set_option maxRecDepth 100000 in
theorem k_M_namedBy : Cond.code y_M_namedBy b_M_namedBy 3 (some .int) ∈ wd_tbl := wd_of 3141 rfl rfl
theorem d_M_namedBy_0 : decode b_M_namedBy 0 = .ok (.iconst 0, 1) := by decide +kernel
theorem d_M_namedBy_1 : decode b_M_namedBy 1 = .ok (.istore_n 2, 1) := by decide +kernel
theorem d_M_namedBy_2 : decode b_M_namedBy 2 = .ok (.iload_n 2, 1) := by decide +kernel
theorem d_M_namedBy_3 : decode b_M_namedBy 3 = .ok (.aload_n 0, 1) := by decide +kernel
theorem d_M_namedBy_4 : decode b_M_namedBy 4 = .ok (.getfield 989, 3) := by decide +kernel
theorem d_M_namedBy_7 : decode b_M_namedBy 7 = .ok (.if_icmp .ge 31, 3) := by decide +kernel
theorem d_M_namedBy_10 : decode b_M_namedBy 10 = .ok (.aload_n 0, 1) := by decide +kernel
theorem d_M_namedBy_11 : decode b_M_namedBy 11 = .ok (.getfield 267, 3) := by decide +kernel
theorem d_M_namedBy_14 : decode b_M_namedBy 14 = .ok (.iload_n 2, 1) := by decide +kernel
theorem d_M_namedBy_15 : decode b_M_namedBy 15 = .ok (.iaload, 1) := by decide +kernel
theorem d_M_namedBy_16 : decode b_M_namedBy 16 = .ok (.iload_n 1, 1) := by decide +kernel
theorem d_M_namedBy_17 : decode b_M_namedBy 17 = .ok (.if_icmp .ne 15, 3) := by decide +kernel
theorem d_M_namedBy_20 : decode b_M_namedBy 20 = .ok (.aload_n 0, 1) := by decide +kernel
theorem d_M_namedBy_21 : decode b_M_namedBy 21 = .ok (.getfield 255, 3) := by decide +kernel
theorem d_M_namedBy_24 : decode b_M_namedBy 24 = .ok (.iload_n 2, 1) := by decide +kernel
theorem d_M_namedBy_25 : decode b_M_namedBy 25 = .ok (.iaload, 1) := by decide +kernel
theorem d_M_namedBy_26 : decode b_M_namedBy 26 = .ok (.iconst 3, 1) := by decide +kernel
theorem d_M_namedBy_27 : decode b_M_namedBy 27 = .ok (.if_icmp .eq 5, 3) := by decide +kernel
theorem d_M_namedBy_30 : decode b_M_namedBy 30 = .ok (.iload_n 2, 1) := by decide +kernel
theorem d_M_namedBy_31 : decode b_M_namedBy 31 = .ok (.ireturn, 1) := by decide +kernel
theorem d_M_namedBy_32 : decode b_M_namedBy 32 = .ok (.iinc 2 1, 3) := by decide +kernel
theorem d_M_namedBy_35 : decode b_M_namedBy 35 = .ok (.goto (-33), 3) := by decide +kernel
theorem d_M_namedBy_38 : decode b_M_namedBy 38 = .ok (.iconst (-1), 1) := by decide +kernel
theorem d_M_namedBy_39 : decode b_M_namedBy 39 = .ok (.ireturn, 1) := by decide +kernel
set_option maxRecDepth 100000 in
theorem hl_M_namedBy : Cond.methodLink R_M 986 y_M_namedBy ∈ wd_tbl := wd_of 3138 (by decide +kernel) rfl
set_option maxRecDepth 100000 in
theorem hi_M_namedBy : Cond.instanceMethod y_M_namedBy ∈ wd_tbl := wd_of 3140 (by decide +kernel) rfl
set_option maxRecDepth 100000 in
theorem hs_M_namedBy : Cond.selects R_M y_M_namedBy y_M_namedBy ∈ wd_tbl := wd_of 239 (by decide +kernel) rfl
theorem hd_M_namedBy : y_M_namedBy.cls = R_M ∧ y_M_namedBy.cls ≠ "java/lang/invoke/MethodHandle" ∧ y_M_namedBy.cls ≠ "java/lang/invoke/VarHandle" ∧ (parseMethodDescriptor y_M_namedBy.desc).map (fun d => d.parameters.length) = some 1 := by decide +kernel
def rm_M_namedBy : Room := { frames := 0, cells := 0, slots := 0, locals := 0 }
def fb_M_namedBy_32 (N : Nat) (G : (MS → Int32 → Int32 → Option (MS × Int32))) (u : MS) (v1 : Int32) (v2 : Int32) : Option (MS × Int32) := G u (v1) ((v2 + 1))
set_option maxRecDepth 100000 in
set_option maxHeartbeats 4000000 in
theorem wb_M_namedBy_32 {p : Program} {l : Launch} {e : Env} {R : Room} {s : State} {m : MethodId} {args : Array Value} {below : List Frame} {meth : Method} {c : Code} {D : va_G} {cl : List vw_C} {cB cI cJ cZ cS : ClassId} {A : Nat → Prop} {iM h0 : Nat} {ad : Nat → Nat} (C0 : MCx p s m args meth c b_M_namedBy 3 (some .int) D cl cB cI cJ cZ cS iM A) (hR : R = rm_M_namedBy) (N : Nat) (G : (MS → Int32 → Int32 → Option (MS × Int32))) (hG : (∀ (u : MS) (v1 : Int32) (v2 : Int32) (x : MS × Int32), G u v1 v2 = some x → ∀ (H : Heap) (locs : List Loc), va_P D cl (wM cB cI cJ cZ cS iM h0 ad u) H → va_D A (wM cB cI cJ cZ cS iM h0 ad u) → va_S A s.heap H locs → ∀ (ls : Array Slot), lv_has ls 3 [(0, .ref h0), (1, .int v1), (2, .int v2)] → W p l e R s m args below meth c H locs 0 0 (MQ below (mQi D cl cB cI cJ cZ cS iM h0 ad A x) args s 0 0 A) (F0 m 2 ls []))) : ∀ (u : MS) (v1 : Int32) (v2 : Int32) (x : MS × Int32), fb_M_namedBy_32 N G u v1 v2 = some x → ∀ (H : Heap) (locs : List Loc), va_P D cl (wM cB cI cJ cZ cS iM h0 ad u) H → va_D A (wM cB cI cJ cZ cS iM h0 ad u) → va_S A s.heap H locs → ∀ (ls : Array Slot), lv_has ls 3 [(0, .ref h0), (1, .int v1), (2, .int v2)] → W p l e R s m args below meth c H locs 0 0 (MQ below (mQi D cl cB cI cJ cZ cS iM h0 ad A x) args s 0 0 A) (F0 m 32 ls []) := by
  intro u v1 v2 x hf H locs hP hD hS ls hl
  obtain ⟨hx, hb, hr, hml, ht, hown, hM, hK, hA, hlocks⟩ := id C0
  unfold fb_M_namedBy_32 at hf
  refine lv_iinc (v := (v2 + 1)) (lv' := [(2, .int (v2 + 1)), (0, .ref h0), (1, .int v1)]) hx hb d_M_namedBy_32 hl (k := 2) rfl rfl (by decide) rfl (fun ls hl => ?_)
  refine lv_goto (tgt := 2) hx hb d_M_namedBy_35 (by decide) ?_
  exact hG _ _ _ _ hf H locs hP hD hS ls (lv_sub hl [1, 2, 0] rfl)
def fb_M_namedBy_2 (N : Nat) (G : (MS → Int32 → Int32 → Option (MS × Int32))) (u : MS) (v1 : Int32) (v2 : Int32) : Option (MS × Int32) := br (decide ((u.1 118) ≤ v2)) (some (u, (-1))) (ck (inb v2 (ln 113)) (br (decide ((u.2.2.1 113 v2.toNatClampNeg) = v1)) (ck (inb v2 (ln 109)) (br (decide ((u.2.2.1 109 v2.toNatClampNeg) = 3)) (fb_M_namedBy_32 N G u (v1) (v2)) (some (u, v2)))) (fb_M_namedBy_32 N G u (v1) (v2))))
set_option maxRecDepth 100000 in
set_option maxHeartbeats 4000000 in
theorem wb_M_namedBy_2 {p : Program} {l : Launch} {e : Env} {R : Room} {s : State} {m : MethodId} {args : Array Value} {below : List Frame} {meth : Method} {c : Code} {D : va_G} {cl : List vw_C} {cB cI cJ cZ cS : ClassId} {A : Nat → Prop} {iM h0 : Nat} {ad : Nat → Nat} (C0 : MCx p s m args meth c b_M_namedBy 3 (some .int) D cl cB cI cJ cZ cS iM A) (hR : R = rm_M_namedBy) (N : Nat) (G : (MS → Int32 → Int32 → Option (MS × Int32))) (hG : (∀ (u : MS) (v1 : Int32) (v2 : Int32) (x : MS × Int32), G u v1 v2 = some x → ∀ (H : Heap) (locs : List Loc), va_P D cl (wM cB cI cJ cZ cS iM h0 ad u) H → va_D A (wM cB cI cJ cZ cS iM h0 ad u) → va_S A s.heap H locs → ∀ (ls : Array Slot), lv_has ls 3 [(0, .ref h0), (1, .int v1), (2, .int v2)] → W p l e R s m args below meth c H locs 0 0 (MQ below (mQi D cl cB cI cJ cZ cS iM h0 ad A x) args s 0 0 A) (F0 m 2 ls []))) : ∀ (u : MS) (v1 : Int32) (v2 : Int32) (x : MS × Int32), fb_M_namedBy_2 N G u v1 v2 = some x → ∀ (H : Heap) (locs : List Loc), va_P D cl (wM cB cI cJ cZ cS iM h0 ad u) H → va_D A (wM cB cI cJ cZ cS iM h0 ad u) → va_S A s.heap H locs → ∀ (ls : Array Slot), lv_has ls 3 [(0, .ref h0), (1, .int v1), (2, .int v2)] → W p l e R s m args below meth c H locs 0 0 (MQ below (mQi D cl cB cI cJ cZ cS iM h0 ad A x) args s 0 0 A) (F0 m 2 ls []) := by
  intro u v1 v2 x hf H locs hP hD hS ls hl
  obtain ⟨hx, hb, hr, hml, ht, hown, hM, hK, hA, hlocks⟩ := id C0
  unfold fb_M_namedBy_2 at hf
  refine lv_iload_n hx hb d_M_namedBy_2 rfl (lv_at hl 2 rfl) ?_
  refine lv_aload_n hx hb d_M_namedBy_3 rfl (lv_at hl 0 rfl) ?_
  refine ug_I hx hb ht hown hM hK hP 118 (by decide) lk_M_118 (by decide) d_M_namedBy_4 ?_
  refine lv_icmp_ge (tgt := 38) hx hb d_M_namedBy_7 (by decide) (fun hc => ?_) (fun hc => ?_)
  · rw [br_p _ hc] at hf
    refine lv_iconst (v := (-1)) hx hb d_M_namedBy_38 (by decide) ?_
    exact mr_i C0 hP hD hS hf d_M_namedBy_39
  · rw [br_n _ hc] at hf
    refine lv_aload_n hx hb d_M_namedBy_10 rfl (lv_at hl 0 rfl) ?_
    refine ug_R hx hb ht hown hM hK hP 113 (by decide) lk_M_113 (by decide) d_M_namedBy_11 ?_
    refine lv_iload_n hx hb d_M_namedBy_14 rfl (lv_at hl 2 rfl) ?_
    obtain ⟨hi9, hf⟩ := ck_some hf
    refine ul_I hx hb hK hP (by decide) (by decide) hi9 d_M_namedBy_15 ?_
    refine lv_iload_n hx hb d_M_namedBy_16 rfl (lv_at hl 1 rfl) ?_
    refine lv_icmp_ne (tgt := 32) hx hb d_M_namedBy_17 (by decide) (fun hc => ?_) (fun hc => ?_)
    · rw [br_n _ hc] at hf
      exact wb_M_namedBy_32 C0 hR N G hG _ _ _ _ hf H locs hP hD hS ls (lv_sub hl [0, 1, 2] rfl)
    · rw [br_p _ hc] at hf
      refine lv_aload_n hx hb d_M_namedBy_20 rfl (lv_at hl 0 rfl) ?_
      refine ug_R hx hb ht hown hM hK hP 109 (by decide) lk_M_109 (by decide) d_M_namedBy_21 ?_
      refine lv_iload_n hx hb d_M_namedBy_24 rfl (lv_at hl 2 rfl) ?_
      obtain ⟨hi9, hf⟩ := ck_some hf
      refine ul_I hx hb hK hP (by decide) (by decide) hi9 d_M_namedBy_25 ?_
      refine lv_iconst (v := 3) hx hb d_M_namedBy_26 (by decide) ?_
      refine lv_icmp_eq (tgt := 32) hx hb d_M_namedBy_27 (by decide) (fun hc => ?_) (fun hc => ?_)
      · rw [br_p _ hc] at hf
        exact wb_M_namedBy_32 C0 hR N G hG _ _ _ _ hf H locs hP hD hS ls (lv_sub hl [0, 1, 2] rfl)
      · rw [br_n _ hc] at hf
        refine lv_iload_n hx hb d_M_namedBy_30 rfl (lv_at hl 2 rfl) ?_
        exact mr_i C0 hP hD hS hf d_M_namedBy_31
def fb_M_namedBy_0 (N : Nat) (G : (MS → Int32 → Int32 → Option (MS × Int32))) (u : MS) (v1 : Int32) : Option (MS × Int32) := G u (v1) (0)
set_option maxRecDepth 100000 in
set_option maxHeartbeats 4000000 in
theorem wb_M_namedBy_0 {p : Program} {l : Launch} {e : Env} {R : Room} {s : State} {m : MethodId} {args : Array Value} {below : List Frame} {meth : Method} {c : Code} {D : va_G} {cl : List vw_C} {cB cI cJ cZ cS : ClassId} {A : Nat → Prop} {iM h0 : Nat} {ad : Nat → Nat} (C0 : MCx p s m args meth c b_M_namedBy 3 (some .int) D cl cB cI cJ cZ cS iM A) (hR : R = rm_M_namedBy) (N : Nat) (G : (MS → Int32 → Int32 → Option (MS × Int32))) (hG : (∀ (u : MS) (v1 : Int32) (v2 : Int32) (x : MS × Int32), G u v1 v2 = some x → ∀ (H : Heap) (locs : List Loc), va_P D cl (wM cB cI cJ cZ cS iM h0 ad u) H → va_D A (wM cB cI cJ cZ cS iM h0 ad u) → va_S A s.heap H locs → ∀ (ls : Array Slot), lv_has ls 3 [(0, .ref h0), (1, .int v1), (2, .int v2)] → W p l e R s m args below meth c H locs 0 0 (MQ below (mQi D cl cB cI cJ cZ cS iM h0 ad A x) args s 0 0 A) (F0 m 2 ls []))) : ∀ (u : MS) (v1 : Int32) (x : MS × Int32), fb_M_namedBy_0 N G u v1 = some x → ∀ (H : Heap) (locs : List Loc), va_P D cl (wM cB cI cJ cZ cS iM h0 ad u) H → va_D A (wM cB cI cJ cZ cS iM h0 ad u) → va_S A s.heap H locs → ∀ (ls : Array Slot), lv_has ls 3 [(0, .ref h0), (1, .int v1)] → W p l e R s m args below meth c H locs 0 0 (MQ below (mQi D cl cB cI cJ cZ cS iM h0 ad A x) args s 0 0 A) (F0 m 0 ls []) := by
  intro u v1 x hf H locs hP hD hS ls hl
  obtain ⟨hx, hb, hr, hml, ht, hown, hM, hK, hA, hlocks⟩ := id C0
  unfold fb_M_namedBy_0 at hf
  refine lv_iconst (v := 0) hx hb d_M_namedBy_0 (by decide) ?_
  refine lv_istore_n (lv' := [(2, .int 0), (0, .ref h0), (1, .int v1)]) hx hb d_M_namedBy_1 rfl hl (by decide) rfl (fun ls hl => ?_)
  exact hG _ _ _ _ hf H locs hP hD hS ls (lv_sub hl [1, 2, 0] rfl)
def gg_M_namedBy (N : Nat) : Nat → ((MS → Int32 → Int32 → Option (MS × Int32)))
  | 0 => fun _ _ _ => none
  | n + 1 => fb_M_namedBy_2 N (gg_M_namedBy N n)
theorem wg_M_namedBy {p : Program} {l : Launch} {e : Env} {R : Room} {s : State} {m : MethodId} {args : Array Value} {below : List Frame} {meth : Method} {c : Code} {D : va_G} {cl : List vw_C} {cB cI cJ cZ cS : ClassId} {A : Nat → Prop} {iM h0 : Nat} {ad : Nat → Nat} (C0 : MCx p s m args meth c b_M_namedBy 3 (some .int) D cl cB cI cJ cZ cS iM A) (hR : R = rm_M_namedBy) (N : Nat) : ∀ n : Nat, (∀ (u : MS) (v1 : Int32) (v2 : Int32) (x : MS × Int32), gg_M_namedBy N n u v1 v2 = some x → ∀ (H : Heap) (locs : List Loc), va_P D cl (wM cB cI cJ cZ cS iM h0 ad u) H → va_D A (wM cB cI cJ cZ cS iM h0 ad u) → va_S A s.heap H locs → ∀ (ls : Array Slot), lv_has ls 3 [(0, .ref h0), (1, .int v1), (2, .int v2)] → W p l e R s m args below meth c H locs 0 0 (MQ below (mQi D cl cB cI cJ cZ cS iM h0 ad A x) args s 0 0 A) (F0 m 2 ls []))
  | 0 => (fun u v1 v2 x hf => by cases hf)
  | n + 1 => wb_M_namedBy_2 C0 hR N (gg_M_namedBy N n) (wg_M_namedBy C0 hR N n)
def fm_M_namedBy (N : Nat) (u : MS) (v1 : Int32) : Option (MS × Int32) := fb_M_namedBy_0 N (gg_M_namedBy N N) u v1
set_option maxRecDepth 100000 in
set_option maxHeartbeats 4000000 in
theorem c_M_namedBy (N : Nat) {l : Launch} {D : va_G} {cl : List vw_C} {cB cI cJ cZ cS : ClassId} {iM h0 : Nat} {ad : Nat → Nat} {u : MS} {sz : Nat} {v1 : Int32} {x : MS × Int32} (hM : cl[iM]? = some (R_M, F_M, 171)) (hf : fm_M_namedBy N u v1 = some x) : Met l y_M_namedBy (wd_ws y_M_namedBy b_M_namedBy 3 (some .int)) rm_M_namedBy (mPc D cl cB cI cJ cZ cS iM h0 ad u sz [.ref h0, .int v1]) (mQi D cl cB cI cJ cZ cS iM h0 ad (mA cB cI cJ cZ cS iM h0 ad u sz) x) 0 0 (mA cB cI cJ cZ cS iM h0 ad u sz) :=
  mMet (by decide) rfl hM (Nat.le_of_ble_eq_true rfl) (fun p e s m below meth c ls hsz C0 hP hD hS hl => by
    have hR : rm_M_namedBy = rm_M_namedBy := rfl
    exact wb_M_namedBy_0 C0 hR N (gg_M_namedBy N N) (wg_M_namedBy C0 hR N N) u _ x hf s.heap [] hP hD hS ls (lv_sub hl [0, 1] rfl))
abbrev b_M_nameRun : ByteArray := prog_14_method_152_code
def y_M_nameRun : MethodName := ⟨R_M, "nameRun", "(I)V"⟩
def w_M_nameRun : List Cond := wd_ws y_M_nameRun b_M_nameRun 8 none
set_option maxRecDepth 100000 in
theorem k_M_nameRun : Cond.code y_M_nameRun b_M_nameRun 8 none ∈ wd_tbl := wd_of 3137 rfl rfl
theorem d_M_nameRun_0 : decode b_M_nameRun 0 = .ok (.iload_n 1, 1) := by decide +kernel
theorem d_M_nameRun_1 : decode b_M_nameRun 1 = .ok (.bipush 13, 2) := by decide +kernel
theorem d_M_nameRun_3 : decode b_M_nameRun 3 = .ok (.if_icmp .ne 10, 3) := by decide +kernel
theorem d_M_nameRun_6 : decode b_M_nameRun 6 = .ok (.aload_n 0, 1) := by decide +kernel
theorem d_M_nameRun_7 : decode b_M_nameRun 7 = .ok (.invokevirtual 930, 3) := by decide +kernel
theorem d_M_nameRun_10 : decode b_M_nameRun 10 = .ok (.goto 4, 3) := by decide +kernel
theorem d_M_nameRun_13 : decode b_M_nameRun 13 = .ok (.lconst 0, 1) := by decide +kernel
theorem d_M_nameRun_14 : decode b_M_nameRun 14 = .ok (.lstore_n 2, 1) := by decide +kernel
theorem d_M_nameRun_15 : decode b_M_nameRun 15 = .ok (.aload_n 0, 1) := by decide +kernel
theorem d_M_nameRun_16 : decode b_M_nameRun 16 = .ok (.invokevirtual 930, 3) := by decide +kernel
theorem d_M_nameRun_19 : decode b_M_nameRun 19 = .ok (.lstore 4, 2) := by decide +kernel
theorem d_M_nameRun_21 : decode b_M_nameRun 21 = .ok (.lload 4, 2) := by decide +kernel
theorem d_M_nameRun_23 : decode b_M_nameRun 23 = .ok (.invokestatic 676, 3) := by decide +kernel
theorem d_M_nameRun_26 : decode b_M_nameRun 26 = .ok (.iconst 1, 1) := by decide +kernel
theorem d_M_nameRun_27 : decode b_M_nameRun 27 = .ok (.if_icmp .ne 15, 3) := by decide +kernel
theorem d_M_nameRun_30 : decode b_M_nameRun 30 = .ok (.aload_n 0, 1) := by decide +kernel
theorem d_M_nameRun_31 : decode b_M_nameRun 31 = .ok (.lload 4, 2) := by decide +kernel
theorem d_M_nameRun_33 : decode b_M_nameRun 33 = .ok (.invokestatic 680, 3) := by decide +kernel
theorem d_M_nameRun_36 : decode b_M_nameRun 36 = .ok (.invokevirtual 986, 3) := by decide +kernel
theorem d_M_nameRun_39 : decode b_M_nameRun 39 = .ok (.goto 4, 3) := by decide +kernel
theorem d_M_nameRun_42 : decode b_M_nameRun 42 = .ok (.iconst (-1), 1) := by decide +kernel
theorem d_M_nameRun_43 : decode b_M_nameRun 43 = .ok (.istore 6, 2) := by decide +kernel
theorem d_M_nameRun_45 : decode b_M_nameRun 45 = .ok (.lload 4, 2) := by decide +kernel
theorem d_M_nameRun_47 : decode b_M_nameRun 47 = .ok (.invokestatic 676, 3) := by decide +kernel
theorem d_M_nameRun_50 : decode b_M_nameRun 50 = .ok (.iconst 1, 1) := by decide +kernel
theorem d_M_nameRun_51 : decode b_M_nameRun 51 = .ok (.if_icmp .ne 7, 3) := by decide +kernel
theorem d_M_nameRun_54 : decode b_M_nameRun 54 = .ok (.iconst 1, 1) := by decide +kernel
theorem d_M_nameRun_55 : decode b_M_nameRun 55 = .ok (.goto 4, 3) := by decide +kernel
theorem d_M_nameRun_58 : decode b_M_nameRun 58 = .ok (.iconst 0, 1) := by decide +kernel
theorem d_M_nameRun_59 : decode b_M_nameRun 59 = .ok (.istore 7, 2) := by decide +kernel
theorem d_M_nameRun_61 : decode b_M_nameRun 61 = .ok (.iload_n 1, 1) := by decide +kernel
theorem d_M_nameRun_62 : decode b_M_nameRun 62 = .ok (.bipush 13, 2) := by decide +kernel
theorem d_M_nameRun_64 : decode b_M_nameRun 64 = .ok (.if_icmp .ne 58, 3) := by decide +kernel
theorem d_M_nameRun_67 : decode b_M_nameRun 67 = .ok (.iload 7, 2) := by decide +kernel
theorem d_M_nameRun_69 : decode b_M_nameRun 69 = .ok (.ifCond .eq 47, 3) := by decide +kernel
theorem d_M_nameRun_72 : decode b_M_nameRun 72 = .ok (.iload 6, 2) := by decide +kernel
theorem d_M_nameRun_74 : decode b_M_nameRun 74 = .ok (.iconst (-1), 1) := by decide +kernel
theorem d_M_nameRun_75 : decode b_M_nameRun 75 = .ok (.if_icmp .ne 41, 3) := by decide +kernel
theorem d_M_nameRun_78 : decode b_M_nameRun 78 = .ok (.lload_n 2, 1) := by decide +kernel
theorem d_M_nameRun_79 : decode b_M_nameRun 79 = .ok (.invokestatic 676, 3) := by decide +kernel
theorem d_M_nameRun_82 : decode b_M_nameRun 82 = .ok (.iconst 4, 1) := by decide +kernel
theorem d_M_nameRun_83 : decode b_M_nameRun 83 = .ok (.if_icmp .ne 33, 3) := by decide +kernel
theorem d_M_nameRun_86 : decode b_M_nameRun 86 = .ok (.aload_n 0, 1) := by decide +kernel
theorem d_M_nameRun_87 : decode b_M_nameRun 87 = .ok (.getfield 255, 3) := by decide +kernel
theorem d_M_nameRun_90 : decode b_M_nameRun 90 = .ok (.lload_n 2, 1) := by decide +kernel
theorem d_M_nameRun_91 : decode b_M_nameRun 91 = .ok (.invokestatic 680, 3) := by decide +kernel
theorem d_M_nameRun_94 : decode b_M_nameRun 94 = .ok (.iaload, 1) := by decide +kernel
theorem d_M_nameRun_95 : decode b_M_nameRun 95 = .ok (.iconst 3, 1) := by decide +kernel
theorem d_M_nameRun_96 : decode b_M_nameRun 96 = .ok (.if_icmp .eq 20, 3) := by decide +kernel
theorem d_M_nameRun_99 : decode b_M_nameRun 99 = .ok (.aload_n 0, 1) := by decide +kernel
theorem d_M_nameRun_100 : decode b_M_nameRun 100 = .ok (.getfield 267, 3) := by decide +kernel
theorem d_M_nameRun_103 : decode b_M_nameRun 103 = .ok (.lload_n 2, 1) := by decide +kernel
theorem d_M_nameRun_104 : decode b_M_nameRun 104 = .ok (.invokestatic 680, 3) := by decide +kernel
theorem d_M_nameRun_107 : decode b_M_nameRun 107 = .ok (.iaload, 1) := by decide +kernel
theorem d_M_nameRun_108 : decode b_M_nameRun 108 = .ok (.iconst (-1), 1) := by decide +kernel
theorem d_M_nameRun_109 : decode b_M_nameRun 109 = .ok (.if_icmp .ne 7, 3) := by decide +kernel
theorem d_M_nameRun_112 : decode b_M_nameRun 112 = .ok (.iconst 1, 1) := by decide +kernel
theorem d_M_nameRun_113 : decode b_M_nameRun 113 = .ok (.goto 4, 3) := by decide +kernel
theorem d_M_nameRun_116 : decode b_M_nameRun 116 = .ok (.iconst 0, 1) := by decide +kernel
theorem d_M_nameRun_117 : decode b_M_nameRun 117 = .ok (.istore 7, 2) := by decide +kernel
theorem d_M_nameRun_119 : decode b_M_nameRun 119 = .ok (.goto 27, 3) := by decide +kernel
theorem d_M_nameRun_122 : decode b_M_nameRun 122 = .ok (.iload_n 1, 1) := by decide +kernel
theorem d_M_nameRun_123 : decode b_M_nameRun 123 = .ok (.bipush 14, 2) := by decide +kernel
theorem d_M_nameRun_125 : decode b_M_nameRun 125 = .ok (.if_icmp .ne 21, 3) := by decide +kernel
theorem d_M_nameRun_128 : decode b_M_nameRun 128 = .ok (.iload 7, 2) := by decide +kernel
theorem d_M_nameRun_130 : decode b_M_nameRun 130 = .ok (.ifCond .eq 13, 3) := by decide +kernel
theorem d_M_nameRun_133 : decode b_M_nameRun 133 = .ok (.iload 6, 2) := by decide +kernel
theorem d_M_nameRun_135 : decode b_M_nameRun 135 = .ok (.iconst (-1), 1) := by decide +kernel
theorem d_M_nameRun_136 : decode b_M_nameRun 136 = .ok (.if_icmp .eq 7, 3) := by decide +kernel
theorem d_M_nameRun_139 : decode b_M_nameRun 139 = .ok (.iconst 1, 1) := by decide +kernel
theorem d_M_nameRun_140 : decode b_M_nameRun 140 = .ok (.goto 4, 3) := by decide +kernel
theorem d_M_nameRun_143 : decode b_M_nameRun 143 = .ok (.iconst 0, 1) := by decide +kernel
theorem d_M_nameRun_144 : decode b_M_nameRun 144 = .ok (.istore 7, 2) := by decide +kernel
theorem d_M_nameRun_146 : decode b_M_nameRun 146 = .ok (.iload 7, 2) := by decide +kernel
theorem d_M_nameRun_148 : decode b_M_nameRun 148 = .ok (.ifCond .ne 12, 3) := by decide +kernel
theorem d_M_nameRun_151 : decode b_M_nameRun 151 = .ok (.aload_n 0, 1) := by decide +kernel
theorem d_M_nameRun_152 : decode b_M_nameRun 152 = .ok (.bipush 11, 2) := by decide +kernel
theorem d_M_nameRun_154 : decode b_M_nameRun 154 = .ok (.invokevirtual 861, 3) := by decide +kernel
theorem d_M_nameRun_157 : decode b_M_nameRun 157 = .ok (.goto 79, 3) := by decide +kernel
theorem d_M_nameRun_160 : decode b_M_nameRun 160 = .ok (.iload_n 1, 1) := by decide +kernel
theorem d_M_nameRun_161 : decode b_M_nameRun 161 = .ok (.bipush 15, 2) := by decide +kernel
theorem d_M_nameRun_163 : decode b_M_nameRun 163 = .ok (.if_icmp .ne 30, 3) := by decide +kernel
theorem d_M_nameRun_166 : decode b_M_nameRun 166 = .ok (.aload_n 0, 1) := by decide +kernel
theorem d_M_nameRun_167 : decode b_M_nameRun 167 = .ok (.iload 6, 2) := by decide +kernel
theorem d_M_nameRun_169 : decode b_M_nameRun 169 = .ok (.iconst (-1), 1) := by decide +kernel
theorem d_M_nameRun_170 : decode b_M_nameRun 170 = .ok (.if_icmp .ne 11, 3) := by decide +kernel
theorem d_M_nameRun_173 : decode b_M_nameRun 173 = .ok (.iconst 1, 1) := by decide +kernel
theorem d_M_nameRun_174 : decode b_M_nameRun 174 = .ok (.iconst 3, 1) := by decide +kernel
theorem d_M_nameRun_175 : decode b_M_nameRun 175 = .ok (.invokestatic 315, 3) := by decide +kernel
theorem d_M_nameRun_178 : decode b_M_nameRun 178 = .ok (.goto 9, 3) := by decide +kernel
theorem d_M_nameRun_181 : decode b_M_nameRun 181 = .ok (.iconst 4, 1) := by decide +kernel
theorem d_M_nameRun_182 : decode b_M_nameRun 182 = .ok (.iload 6, 2) := by decide +kernel
theorem d_M_nameRun_184 : decode b_M_nameRun 184 = .ok (.invokestatic 315, 3) := by decide +kernel
theorem d_M_nameRun_187 : decode b_M_nameRun 187 = .ok (.invokevirtual 801, 3) := by decide +kernel
theorem d_M_nameRun_190 : decode b_M_nameRun 190 = .ok (.goto 46, 3) := by decide +kernel
theorem d_M_nameRun_193 : decode b_M_nameRun 193 = .ok (.aload_n 0, 1) := by decide +kernel
theorem d_M_nameRun_194 : decode b_M_nameRun 194 = .ok (.getfield 267, 3) := by decide +kernel
theorem d_M_nameRun_197 : decode b_M_nameRun 197 = .ok (.iload_n 1, 1) := by decide +kernel
theorem d_M_nameRun_198 : decode b_M_nameRun 198 = .ok (.bipush 13, 2) := by decide +kernel
theorem d_M_nameRun_200 : decode b_M_nameRun 200 = .ok (.if_icmp .ne 10, 3) := by decide +kernel
theorem d_M_nameRun_203 : decode b_M_nameRun 203 = .ok (.lload_n 2, 1) := by decide +kernel
theorem d_M_nameRun_204 : decode b_M_nameRun 204 = .ok (.invokestatic 680, 3) := by decide +kernel
theorem d_M_nameRun_207 : decode b_M_nameRun 207 = .ok (.goto 5, 3) := by decide +kernel
theorem d_M_nameRun_210 : decode b_M_nameRun 210 = .ok (.iload 6, 2) := by decide +kernel
theorem d_M_nameRun_212 : decode b_M_nameRun 212 = .ok (.iload_n 1, 1) := by decide +kernel
theorem d_M_nameRun_213 : decode b_M_nameRun 213 = .ok (.bipush 13, 2) := by decide +kernel
theorem d_M_nameRun_215 : decode b_M_nameRun 215 = .ok (.if_icmp .ne 11, 3) := by decide +kernel
theorem d_M_nameRun_218 : decode b_M_nameRun 218 = .ok (.lload 4, 2) := by decide +kernel
theorem d_M_nameRun_220 : decode b_M_nameRun 220 = .ok (.invokestatic 680, 3) := by decide +kernel
theorem d_M_nameRun_223 : decode b_M_nameRun 223 = .ok (.goto 4, 3) := by decide +kernel
theorem d_M_nameRun_226 : decode b_M_nameRun 226 = .ok (.iconst (-1), 1) := by decide +kernel
theorem d_M_nameRun_227 : decode b_M_nameRun 227 = .ok (.iastore, 1) := by decide +kernel
theorem d_M_nameRun_228 : decode b_M_nameRun 228 = .ok (.aload_n 0, 1) := by decide +kernel
theorem d_M_nameRun_229 : decode b_M_nameRun 229 = .ok (.iconst 1, 1) := by decide +kernel
theorem d_M_nameRun_230 : decode b_M_nameRun 230 = .ok (.invokestatic 940, 3) := by decide +kernel
theorem d_M_nameRun_233 : decode b_M_nameRun 233 = .ok (.invokevirtual 801, 3) := by decide +kernel
theorem d_M_nameRun_236 : decode b_M_nameRun 236 = .ok (.return_, 1) := by decide +kernel
set_option maxRecDepth 100000 in
theorem hl_M_nameRun : Cond.methodLink R_M 1004 y_M_nameRun ∈ wd_tbl := wd_of 3134 (by decide +kernel) rfl
set_option maxRecDepth 100000 in
theorem hi_M_nameRun : Cond.instanceMethod y_M_nameRun ∈ wd_tbl := wd_of 3136 (by decide +kernel) rfl
set_option maxRecDepth 100000 in
theorem hs_M_nameRun : Cond.selects R_M y_M_nameRun y_M_nameRun ∈ wd_tbl := wd_of 238 (by decide +kernel) rfl
theorem hd_M_nameRun : y_M_nameRun.cls = R_M ∧ y_M_nameRun.cls ≠ "java/lang/invoke/MethodHandle" ∧ y_M_nameRun.cls ≠ "java/lang/invoke/VarHandle" ∧ (parseMethodDescriptor y_M_nameRun.desc).map (fun d => d.parameters.length) = some 1 := by decide +kernel
def rm_M_nameRun : Room := { frames := 27, cells := 0, slots := 0, locals := 704 }
theorem rm_M_nameRun_M_take {R : Room} (hR : R = rm_M_nameRun) : (rm_M_take).frames + 1 ≤ R.frames ∧ 8 + (1 + 11) + (rm_M_take).locals ≤ R.locals := by subst hR; decide
theorem rm_M_nameRun_M_sortOf {R : Room} (hR : R = rm_M_nameRun) : (rm_M_sortOf).frames + 1 ≤ R.frames ∧ 8 + (2 + 11) + (rm_M_sortOf).locals ≤ R.locals := by subst hR; decide
theorem rm_M_nameRun_M_valueOf {R : Room} (hR : R = rm_M_nameRun) : (rm_M_valueOf).frames + 1 ≤ R.frames ∧ 8 + (2 + 11) + (rm_M_valueOf).locals ≤ R.locals := by subst hR; decide
theorem rm_M_nameRun_M_namedBy {R : Room} (hR : R = rm_M_nameRun) : (rm_M_namedBy).frames + 1 ≤ R.frames ∧ 8 + (3 + 11) + (rm_M_namedBy).locals ≤ R.locals := by subst hR; decide
theorem rm_M_nameRun_M_error {R : Room} (hR : R = rm_M_nameRun) : (rm_M_error).frames + 1 ≤ R.frames ∧ 8 + (2 + 11) + (rm_M_error).locals ≤ R.locals := by subst hR; decide
theorem rm_M_nameRun_M_term {R : Room} (hR : R = rm_M_nameRun) : (rm_M_term).frames + 1 ≤ R.frames ∧ 8 + (2 + 11) + (rm_M_term).locals ≤ R.locals := by subst hR; decide
theorem rm_M_nameRun_M_put {R : Room} (hR : R = rm_M_nameRun) : (rm_M_put).frames + 1 ≤ R.frames ∧ 8 + (3 + 11) + (rm_M_put).locals ≤ R.locals := by subst hR; decide
theorem rm_M_nameRun_M_truth {R : Room} (hR : R = rm_M_nameRun) : (rm_M_truth).frames + 1 ≤ R.frames ∧ 8 + (1 + 11) + (rm_M_truth).locals ≤ R.locals := by subst hR; decide
def fb_M_nameRun_236 (N : Nat) (G : Unit) (u : MS) : Option (MS × Unit) := some (u, ())
set_option maxRecDepth 100000 in
set_option maxHeartbeats 4000000 in
theorem wb_M_nameRun_236 {p : Program} {l : Launch} {e : Env} {R : Room} {s : State} {m : MethodId} {args : Array Value} {below : List Frame} {meth : Method} {c : Code} {D : va_G} {cl : List vw_C} {cB cI cJ cZ cS : ClassId} {A : Nat → Prop} {iM h0 : Nat} {ad : Nat → Nat} (C0 : MCx p s m args meth c b_M_nameRun 8 none D cl cB cI cJ cZ cS iM A) (hR : R = rm_M_nameRun) (N : Nat) (G : Unit) (hG : True) : ∀ (u : MS) (x : MS × Unit), fb_M_nameRun_236 N G u = some x → ∀ (H : Heap) (locs : List Loc), va_P D cl (wM cB cI cJ cZ cS iM h0 ad u) H → va_D A (wM cB cI cJ cZ cS iM h0 ad u) → va_S A s.heap H locs → ∀ (ls : Array Slot), lv_has ls 8 [] → W p l e R s m args below meth c H locs 0 0 (MQ below (mQv D cl cB cI cJ cZ cS iM h0 ad A x) args s 0 0 A) (F0 m 236 ls []) := by
  intro u x hf H locs hP hD hS ls hl
  obtain ⟨hx, hb, hr, hml, ht, hown, hM, hK, hA, hlocks⟩ := id C0
  unfold fb_M_nameRun_236 at hf
  exact mr_v C0 hP hD hS hf d_M_nameRun_236
