theorem tiN {x k : Int32} (h : ¬ x = k) : x.toInt ≠ k.toInt := fun z => h (Int32.toInt_inj.mp z)
set_option maxRecDepth 100000 in
theorem hini_M : Cond.initialized R_M ∈ wd_tbl := wd_of 279 (by decide +kernel) rfl
abbrev b_M_thrown : ByteArray := prog_14_method_2_code
def y_M_thrown : MethodName := ⟨R_M, "thrown", "()I"⟩
def w_M_thrown : List Cond := wd_ws y_M_thrown b_M_thrown 1 (some .int)
set_option maxRecDepth 100000 in
theorem k_M_thrown : Cond.code y_M_thrown b_M_thrown 1 (some .int) ∈ wd_tbl := wd_of 2623 rfl rfl
theorem d_M_thrown_0 : decode b_M_thrown 0 = .ok (.aload_n 0, 1) := by decide +kernel
theorem d_M_thrown_1 : decode b_M_thrown 1 = .ok (.getfield 369, 3) := by decide +kernel
theorem d_M_thrown_4 : decode b_M_thrown 4 = .ok (.ireturn, 1) := by decide +kernel
def rm_M_thrown : Room := { frames := 0, cells := 0, slots := 0, locals := 0 }
def fb_M_thrown_0 (N : Nat) (G : Unit) (u : MS) : Option (MS × Int32) := some (u, (u.1 3))
set_option maxRecDepth 100000 in
set_option maxHeartbeats 4000000 in
theorem wb_M_thrown_0 {p : Program} {l : Launch} {e : Env} {R : Room} {s : State} {m : MethodId} {args : Array Value} {below : List Frame} {meth : Method} {c : Code} {D : va_G} {cl : List vw_C} {cB cI cJ cZ cS : ClassId} {A : Nat → Prop} {iM h0 : Nat} {ad : Nat → Nat} (C0 : MCx p s m args meth c b_M_thrown 1 (some .int) D cl cB cI cJ cZ cS iM A) (hR : R = rm_M_thrown) (N : Nat) (G : Unit) (hG : True) : ∀ (u : MS) (x : MS × Int32), fb_M_thrown_0 N G u = some x → ∀ (H : Heap) (locs : List Loc), va_P D cl (wM cB cI cJ cZ cS iM h0 ad u) H → va_D A (wM cB cI cJ cZ cS iM h0 ad u) → va_S A s.heap H locs → ∀ (ls : Array Slot), lv_has ls 1 [(0, .ref h0)] → W p l e R s m args below meth c H locs 0 0 (MQ below (mQi D cl cB cI cJ cZ cS iM h0 ad A x) args s 0 0 A) (F0 m 0 ls []) := by
  intro u x hf H locs hP hD hS ls hl
  obtain ⟨hx, hb, hr, hml, ht, hown, hM, hK, hA, hlocks⟩ := id C0
  unfold fb_M_thrown_0 at hf
  refine lv_aload_n hx hb d_M_thrown_0 rfl (lv_at hl 0 rfl) ?_
  refine ug_I hx hb ht hown hM hK hP 3 (by decide) lk_M_3 (by decide) d_M_thrown_1 ?_
  exact mr_i C0 hP hD hS hf d_M_thrown_4
def fm_M_thrown (N : Nat) (u : MS) : Option (MS × Int32) := fb_M_thrown_0 N () u
set_option maxRecDepth 100000 in
set_option maxHeartbeats 4000000 in
theorem c_M_thrown (N : Nat) {l : Launch} {D : va_G} {cl : List vw_C} {cB cI cJ cZ cS : ClassId} {iM h0 : Nat} {ad : Nat → Nat} {u : MS} {sz : Nat} {x : MS × Int32} (hM : cl[iM]? = some (R_M, F_M, 171)) (hf : fm_M_thrown N u = some x) : Met l y_M_thrown (wd_ws y_M_thrown b_M_thrown 1 (some .int)) rm_M_thrown (mPc D cl cB cI cJ cZ cS iM h0 ad u sz [.ref h0]) (mQi D cl cB cI cJ cZ cS iM h0 ad (mA cB cI cJ cZ cS iM h0 ad u sz) x) 0 0 (mA cB cI cJ cZ cS iM h0 ad u sz) :=
  mMet (by decide) rfl hM (Nat.le_of_ble_eq_true rfl) (fun p e s m below meth c ls hsz C0 hP hD hS hl => by
    have hR : rm_M_thrown = rm_M_thrown := rfl
    exact wb_M_thrown_0 C0 hR N () trivial u x hf s.heap [] hP hD hS ls (lv_sub hl [0] rfl))
abbrev b_M_back : ByteArray := prog_14_method_4_code
def y_M_back : MethodName := ⟨R_M, "back", "(I)I"⟩
def w_M_back : List Cond := wd_ws y_M_back b_M_back 2 (some .int)
set_option maxRecDepth 100000 in
theorem k_M_back : Cond.code y_M_back b_M_back 2 (some .int) ∈ wd_tbl := wd_of 2631 rfl rfl
theorem d_M_back_0 : decode b_M_back 0 = .ok (.aload_n 0, 1) := by decide +kernel
theorem d_M_back_1 : decode b_M_back 1 = .ok (.iconst 0, 1) := by decide +kernel
theorem d_M_back_2 : decode b_M_back 2 = .ok (.putfield 369, 3) := by decide +kernel
theorem d_M_back_5 : decode b_M_back 5 = .ok (.iload_n 1, 1) := by decide +kernel
theorem d_M_back_6 : decode b_M_back 6 = .ok (.ifCond .lt 11, 3) := by decide +kernel
theorem d_M_back_9 : decode b_M_back 9 = .ok (.iload_n 1, 1) := by decide +kernel
theorem d_M_back_10 : decode b_M_back 10 = .ok (.aload_n 0, 1) := by decide +kernel
theorem d_M_back_11 : decode b_M_back 11 = .ok (.getfield 372, 3) := by decide +kernel
theorem d_M_back_14 : decode b_M_back 14 = .ok (.if_icmp .le 5, 3) := by decide +kernel
theorem d_M_back_17 : decode b_M_back 17 = .ok (.iconst (-1), 1) := by decide +kernel
theorem d_M_back_18 : decode b_M_back 18 = .ok (.ireturn, 1) := by decide +kernel
theorem d_M_back_19 : decode b_M_back 19 = .ok (.aload_n 0, 1) := by decide +kernel
theorem d_M_back_20 : decode b_M_back 20 = .ok (.dup, 1) := by decide +kernel
theorem d_M_back_21 : decode b_M_back 21 = .ok (.getfield 372, 3) := by decide +kernel
theorem d_M_back_24 : decode b_M_back 24 = .ok (.iload_n 1, 1) := by decide +kernel
theorem d_M_back_25 : decode b_M_back 25 = .ok (.isub, 1) := by decide +kernel
theorem d_M_back_26 : decode b_M_back 26 = .ok (.putfield 372, 3) := by decide +kernel
theorem d_M_back_29 : decode b_M_back 29 = .ok (.aload_n 0, 1) := by decide +kernel
theorem d_M_back_30 : decode b_M_back 30 = .ok (.getfield 372, 3) := by decide +kernel
theorem d_M_back_33 : decode b_M_back 33 = .ok (.ireturn, 1) := by decide +kernel
def rm_M_back : Room := { frames := 0, cells := 0, slots := 0, locals := 0 }
def fb_M_back_17 (N : Nat) (G : Unit) (u : MS) : Option (MS × Int32) := some (u, (-1))
set_option maxRecDepth 100000 in
set_option maxHeartbeats 4000000 in
theorem wb_M_back_17 {p : Program} {l : Launch} {e : Env} {R : Room} {s : State} {m : MethodId} {args : Array Value} {below : List Frame} {meth : Method} {c : Code} {D : va_G} {cl : List vw_C} {cB cI cJ cZ cS : ClassId} {A : Nat → Prop} {iM h0 : Nat} {ad : Nat → Nat} (C0 : MCx p s m args meth c b_M_back 2 (some .int) D cl cB cI cJ cZ cS iM A) (hR : R = rm_M_back) (N : Nat) (G : Unit) (hG : True) : ∀ (u : MS) (x : MS × Int32), fb_M_back_17 N G u = some x → ∀ (H : Heap) (locs : List Loc), va_P D cl (wM cB cI cJ cZ cS iM h0 ad u) H → va_D A (wM cB cI cJ cZ cS iM h0 ad u) → va_S A s.heap H locs → ∀ (ls : Array Slot), lv_has ls 2 [] → W p l e R s m args below meth c H locs 0 0 (MQ below (mQi D cl cB cI cJ cZ cS iM h0 ad A x) args s 0 0 A) (F0 m 17 ls []) := by
  intro u x hf H locs hP hD hS ls hl
  obtain ⟨hx, hb, hr, hml, ht, hown, hM, hK, hA, hlocks⟩ := id C0
  unfold fb_M_back_17 at hf
  refine lv_iconst (v := (-1)) hx hb d_M_back_17 (by decide) ?_
  exact mr_i C0 hP hD hS hf d_M_back_18
def fb_M_back_0 (N : Nat) (G : Unit) (u : MS) (v1 : Int32) : Option (MS × Int32) := br (decide (v1 < 0)) (fb_M_back_17 N G (upI u 3 0)) (br (decide (v1 ≤ ((upI u 3 0).1 5))) (some ((upI (upI u 3 0) 5 (((upI u 3 0).1 5) - v1)), ((upI (upI u 3 0) 5 (((upI u 3 0).1 5) - v1)).1 5))) (fb_M_back_17 N G (upI u 3 0)))
set_option maxRecDepth 100000 in
set_option maxHeartbeats 4000000 in
theorem wb_M_back_0 {p : Program} {l : Launch} {e : Env} {R : Room} {s : State} {m : MethodId} {args : Array Value} {below : List Frame} {meth : Method} {c : Code} {D : va_G} {cl : List vw_C} {cB cI cJ cZ cS : ClassId} {A : Nat → Prop} {iM h0 : Nat} {ad : Nat → Nat} (C0 : MCx p s m args meth c b_M_back 2 (some .int) D cl cB cI cJ cZ cS iM A) (hR : R = rm_M_back) (N : Nat) (G : Unit) (hG : True) : ∀ (u : MS) (v1 : Int32) (x : MS × Int32), fb_M_back_0 N G u v1 = some x → ∀ (H : Heap) (locs : List Loc), va_P D cl (wM cB cI cJ cZ cS iM h0 ad u) H → va_D A (wM cB cI cJ cZ cS iM h0 ad u) → va_S A s.heap H locs → ∀ (ls : Array Slot), lv_has ls 2 [(0, .ref h0), (1, .int v1)] → W p l e R s m args below meth c H locs 0 0 (MQ below (mQi D cl cB cI cJ cZ cS iM h0 ad A x) args s 0 0 A) (F0 m 0 ls []) := by
  intro u v1 x hf H locs hP hD hS ls hl
  obtain ⟨hx, hb, hr, hml, ht, hown, hM, hK, hA, hlocks⟩ := id C0
  unfold fb_M_back_0 at hf
  refine lv_aload_n hx hb d_M_back_0 rfl (lv_at hl 0 rfl) ?_
  refine lv_iconst (v := 0) hx hb d_M_back_1 (by decide) ?_
  refine up_I hx hb ht hown hM hK hP hD hS 3 (by decide) lk_M_3 (by decide) rfl rfl rfl d_M_back_2 (fun H locs hP hD hS => ?_)
  refine lv_iload_n hx hb d_M_back_5 rfl (lv_at hl 1 rfl) ?_
  refine lv_if_lt (tgt := 17) hx hb d_M_back_6 (by decide) (fun hc => ?_) (fun hc => ?_)
  · rw [br_p _ hc] at hf
    exact wb_M_back_17 C0 hR N G hG _ _ hf H locs hP hD hS ls (lv_sub hl [] rfl)
  · rw [br_n _ hc] at hf
    refine lv_iload_n hx hb d_M_back_9 rfl (lv_at hl 1 rfl) ?_
    refine lv_aload_n hx hb d_M_back_10 rfl (lv_at hl 0 rfl) ?_
    refine ug_I hx hb ht hown hM hK hP 5 (by decide) lk_M_5 (by decide) d_M_back_11 ?_
    refine lv_icmp_le (tgt := 19) hx hb d_M_back_14 (by decide) (fun hc => ?_) (fun hc => ?_)
    · rw [br_p _ hc] at hf
      refine lv_aload_n hx hb d_M_back_19 rfl (lv_at hl 0 rfl) ?_
      refine lv_dup hx hb d_M_back_20 rfl ?_
      refine ug_I hx hb ht hown hM hK hP 5 (by decide) lk_M_5 (by decide) d_M_back_21 ?_
      refine lv_iload_n hx hb d_M_back_24 rfl (lv_at hl 1 rfl) ?_
      refine lv_isub hx hb d_M_back_25 ?_
      refine up_I hx hb ht hown hM hK hP hD hS 5 (by decide) lk_M_5 (by decide) rfl rfl rfl d_M_back_26 (fun H locs hP hD hS => ?_)
      refine lv_aload_n hx hb d_M_back_29 rfl (lv_at hl 0 rfl) ?_
      refine ug_I hx hb ht hown hM hK hP 5 (by decide) lk_M_5 (by decide) d_M_back_30 ?_
      exact mr_i C0 hP hD hS hf d_M_back_33
    · rw [br_n _ hc] at hf
      exact wb_M_back_17 C0 hR N G hG _ _ hf H locs hP hD hS ls (lv_sub hl [] rfl)
def fm_M_back (N : Nat) (u : MS) (v1 : Int32) : Option (MS × Int32) := fb_M_back_0 N () u v1
set_option maxRecDepth 100000 in
set_option maxHeartbeats 4000000 in
theorem c_M_back (N : Nat) {l : Launch} {D : va_G} {cl : List vw_C} {cB cI cJ cZ cS : ClassId} {iM h0 : Nat} {ad : Nat → Nat} {u : MS} {sz : Nat} {v1 : Int32} {x : MS × Int32} (hM : cl[iM]? = some (R_M, F_M, 171)) (hf : fm_M_back N u v1 = some x) : Met l y_M_back (wd_ws y_M_back b_M_back 2 (some .int)) rm_M_back (mPc D cl cB cI cJ cZ cS iM h0 ad u sz [.ref h0, .int v1]) (mQi D cl cB cI cJ cZ cS iM h0 ad (mA cB cI cJ cZ cS iM h0 ad u sz) x) 0 0 (mA cB cI cJ cZ cS iM h0 ad u sz) :=
  mMet (by decide) rfl hM (Nat.le_of_ble_eq_true rfl) (fun p e s m below meth c ls hsz C0 hP hD hS hl => by
    have hR : rm_M_back = rm_M_back := rfl
    exact wb_M_back_0 C0 hR N () trivial u _ x hf s.heap [] hP hD hS ls (lv_sub hl [0, 1] rfl))
abbrev b_M_feed : ByteArray := prog_14_method_3_code
def y_M_feed : MethodName := ⟨R_M, "feed", "(IIIII)I"⟩
def w_M_feed : List Cond := wd_ws y_M_feed b_M_feed 8 (some .int)
set_option maxRecDepth 100000 in
theorem k_M_feed : Cond.code y_M_feed b_M_feed 8 (some .int) ∈ wd_tbl := wd_of 2627 rfl rfl
theorem d_M_feed_0 : decode b_M_feed 0 = .ok (.aload_n 0, 1) := by decide +kernel
theorem d_M_feed_1 : decode b_M_feed 1 = .ok (.iconst 0, 1) := by decide +kernel
theorem d_M_feed_2 : decode b_M_feed 2 = .ok (.putfield 369, 3) := by decide +kernel
theorem d_M_feed_5 : decode b_M_feed 5 = .ok (.aload_n 0, 1) := by decide +kernel
theorem d_M_feed_6 : decode b_M_feed 6 = .ok (.getfield 372, 3) := by decide +kernel
theorem d_M_feed_9 : decode b_M_feed 9 = .ok (.bipush 20, 2) := by decide +kernel
theorem d_M_feed_11 : decode b_M_feed 11 = .ok (.iadd, 1) := by decide +kernel
theorem d_M_feed_12 : decode b_M_feed 12 = .ok (.sipush 4000, 3) := by decide +kernel
theorem d_M_feed_15 : decode b_M_feed 15 = .ok (.if_icmp .le 5, 3) := by decide +kernel
theorem d_M_feed_18 : decode b_M_feed 18 = .ok (.iconst (-1), 1) := by decide +kernel
theorem d_M_feed_19 : decode b_M_feed 19 = .ok (.ireturn, 1) := by decide +kernel
theorem d_M_feed_20 : decode b_M_feed 20 = .ok (.iconst 0, 1) := by decide +kernel
theorem d_M_feed_21 : decode b_M_feed 21 = .ok (.istore 6, 2) := by decide +kernel
theorem d_M_feed_23 : decode b_M_feed 23 = .ok (.iload 6, 2) := by decide +kernel
theorem d_M_feed_25 : decode b_M_feed 25 = .ok (.bipush 20, 2) := by decide +kernel
theorem d_M_feed_27 : decode b_M_feed 27 = .ok (.if_icmp .ge 90, 3) := by decide +kernel
theorem d_M_feed_30 : decode b_M_feed 30 = .ok (.iload 6, 2) := by decide +kernel
theorem d_M_feed_32 : decode b_M_feed 32 = .ok (.iconst 4, 1) := by decide +kernel
theorem d_M_feed_33 : decode b_M_feed 33 = .ok (.if_icmp .ge 7, 3) := by decide +kernel
theorem d_M_feed_36 : decode b_M_feed 36 = .ok (.iload_n 1, 1) := by decide +kernel
theorem d_M_feed_37 : decode b_M_feed 37 = .ok (.goto 39, 3) := by decide +kernel
theorem d_M_feed_40 : decode b_M_feed 40 = .ok (.iload 6, 2) := by decide +kernel
theorem d_M_feed_42 : decode b_M_feed 42 = .ok (.bipush 8, 2) := by decide +kernel
theorem d_M_feed_44 : decode b_M_feed 44 = .ok (.if_icmp .ge 7, 3) := by decide +kernel
theorem d_M_feed_47 : decode b_M_feed 47 = .ok (.iload_n 2, 1) := by decide +kernel
theorem d_M_feed_48 : decode b_M_feed 48 = .ok (.goto 28, 3) := by decide +kernel
theorem d_M_feed_51 : decode b_M_feed 51 = .ok (.iload 6, 2) := by decide +kernel
theorem d_M_feed_53 : decode b_M_feed 53 = .ok (.bipush 12, 2) := by decide +kernel
theorem d_M_feed_55 : decode b_M_feed 55 = .ok (.if_icmp .ge 7, 3) := by decide +kernel
theorem d_M_feed_58 : decode b_M_feed 58 = .ok (.iload_n 3, 1) := by decide +kernel
theorem d_M_feed_59 : decode b_M_feed 59 = .ok (.goto 17, 3) := by decide +kernel
theorem d_M_feed_62 : decode b_M_feed 62 = .ok (.iload 6, 2) := by decide +kernel
theorem d_M_feed_64 : decode b_M_feed 64 = .ok (.bipush 16, 2) := by decide +kernel
theorem d_M_feed_66 : decode b_M_feed 66 = .ok (.if_icmp .ge 8, 3) := by decide +kernel
theorem d_M_feed_69 : decode b_M_feed 69 = .ok (.iload 4, 2) := by decide +kernel
theorem d_M_feed_71 : decode b_M_feed 71 = .ok (.goto 5, 3) := by decide +kernel
theorem d_M_feed_74 : decode b_M_feed 74 = .ok (.iload 5, 2) := by decide +kernel
theorem d_M_feed_76 : decode b_M_feed 76 = .ok (.istore 7, 2) := by decide +kernel
theorem d_M_feed_78 : decode b_M_feed 78 = .ok (.aload_n 0, 1) := by decide +kernel
theorem d_M_feed_79 : decode b_M_feed 79 = .ok (.getfield 19, 3) := by decide +kernel
theorem d_M_feed_82 : decode b_M_feed 82 = .ok (.aload_n 0, 1) := by decide +kernel
theorem d_M_feed_83 : decode b_M_feed 83 = .ok (.getfield 372, 3) := by decide +kernel
theorem d_M_feed_86 : decode b_M_feed 86 = .ok (.iload 7, 2) := by decide +kernel
theorem d_M_feed_88 : decode b_M_feed 88 = .ok (.bipush 24, 2) := by decide +kernel
theorem d_M_feed_90 : decode b_M_feed 90 = .ok (.bipush 8, 2) := by decide +kernel
theorem d_M_feed_92 : decode b_M_feed 92 = .ok (.iload 6, 2) := by decide +kernel
theorem d_M_feed_94 : decode b_M_feed 94 = .ok (.iconst 4, 1) := by decide +kernel
theorem d_M_feed_95 : decode b_M_feed 95 = .ok (.irem, 1) := by decide +kernel
theorem d_M_feed_96 : decode b_M_feed 96 = .ok (.imul, 1) := by decide +kernel
theorem d_M_feed_97 : decode b_M_feed 97 = .ok (.isub, 1) := by decide +kernel
theorem d_M_feed_98 : decode b_M_feed 98 = .ok (.iushr, 1) := by decide +kernel
theorem d_M_feed_99 : decode b_M_feed 99 = .ok (.i2b, 1) := by decide +kernel
theorem d_M_feed_100 : decode b_M_feed 100 = .ok (.bastore, 1) := by decide +kernel
theorem d_M_feed_101 : decode b_M_feed 101 = .ok (.aload_n 0, 1) := by decide +kernel
theorem d_M_feed_102 : decode b_M_feed 102 = .ok (.dup, 1) := by decide +kernel
theorem d_M_feed_103 : decode b_M_feed 103 = .ok (.getfield 372, 3) := by decide +kernel
theorem d_M_feed_106 : decode b_M_feed 106 = .ok (.iconst 1, 1) := by decide +kernel
theorem d_M_feed_107 : decode b_M_feed 107 = .ok (.iadd, 1) := by decide +kernel
theorem d_M_feed_108 : decode b_M_feed 108 = .ok (.putfield 372, 3) := by decide +kernel
theorem d_M_feed_111 : decode b_M_feed 111 = .ok (.iinc 6 1, 3) := by decide +kernel
theorem d_M_feed_114 : decode b_M_feed 114 = .ok (.goto (-91), 3) := by decide +kernel
theorem d_M_feed_117 : decode b_M_feed 117 = .ok (.aload_n 0, 1) := by decide +kernel
theorem d_M_feed_118 : decode b_M_feed 118 = .ok (.getfield 372, 3) := by decide +kernel
theorem d_M_feed_121 : decode b_M_feed 121 = .ok (.ireturn, 1) := by decide +kernel
def rm_M_feed : Room := { frames := 0, cells := 0, slots := 0, locals := 0 }
def fb_M_feed_76 (N : Nat) (G : (MS → Int32 → Int32 → Int32 → Int32 → Int32 → Int32 → Option (MS × Int32))) (u : MS) (v1 : Int32) (v2 : Int32) (v3 : Int32) (v4 : Int32) (v5 : Int32) (v6 : Int32) (t0 : Int32) : Option (MS × Int32) := ck (inb (u.1 5) (ln 4)) (G (upI (upA u 4 (upd (u.2.2.1 4) (u.1 5).toNatClampNeg (vp_nar .byte (((t0.toUInt32 >>> ((24 - (8 * (v6 - v6 / 4 * 4))).toUInt32 &&& Int32.toUInt32 31)).toInt32).toInt8.toInt32)))) 5 (((upA u 4 (upd (u.2.2.1 4) (u.1 5).toNatClampNeg (vp_nar .byte (((t0.toUInt32 >>> ((24 - (8 * (v6 - v6 / 4 * 4))).toUInt32 &&& Int32.toUInt32 31)).toInt32).toInt8.toInt32)))).1 5) + 1)) (v1) (v2) (v3) (v4) (v5) ((v6 + 1)))
set_option maxRecDepth 100000 in
set_option maxHeartbeats 4000000 in
theorem wb_M_feed_76 {p : Program} {l : Launch} {e : Env} {R : Room} {s : State} {m : MethodId} {args : Array Value} {below : List Frame} {meth : Method} {c : Code} {D : va_G} {cl : List vw_C} {cB cI cJ cZ cS : ClassId} {A : Nat → Prop} {iM h0 : Nat} {ad : Nat → Nat} (C0 : MCx p s m args meth c b_M_feed 8 (some .int) D cl cB cI cJ cZ cS iM A) (hR : R = rm_M_feed) (N : Nat) (G : (MS → Int32 → Int32 → Int32 → Int32 → Int32 → Int32 → Option (MS × Int32))) (hG : (∀ (u : MS) (v1 : Int32) (v2 : Int32) (v3 : Int32) (v4 : Int32) (v5 : Int32) (v6 : Int32) (x : MS × Int32), G u v1 v2 v3 v4 v5 v6 = some x → ∀ (H : Heap) (locs : List Loc), va_P D cl (wM cB cI cJ cZ cS iM h0 ad u) H → va_D A (wM cB cI cJ cZ cS iM h0 ad u) → va_S A s.heap H locs → ∀ (ls : Array Slot), lv_has ls 8 [(0, .ref h0), (1, .int v1), (2, .int v2), (3, .int v3), (4, .int v4), (5, .int v5), (6, .int v6)] → W p l e R s m args below meth c H locs 0 0 (MQ below (mQi D cl cB cI cJ cZ cS iM h0 ad A x) args s 0 0 A) (F0 m 23 ls []))) : ∀ (u : MS) (v1 : Int32) (v2 : Int32) (v3 : Int32) (v4 : Int32) (v5 : Int32) (v6 : Int32) (t0 : Int32) (x : MS × Int32), fb_M_feed_76 N G u v1 v2 v3 v4 v5 v6 t0 = some x → ∀ (H : Heap) (locs : List Loc), va_P D cl (wM cB cI cJ cZ cS iM h0 ad u) H → va_D A (wM cB cI cJ cZ cS iM h0 ad u) → va_S A s.heap H locs → ∀ (ls : Array Slot), lv_has ls 8 [(0, .ref h0), (1, .int v1), (2, .int v2), (3, .int v3), (4, .int v4), (5, .int v5), (6, .int v6)] → W p l e R s m args below meth c H locs 0 0 (MQ below (mQi D cl cB cI cJ cZ cS iM h0 ad A x) args s 0 0 A) (F0 m 76 ls [.int t0]) := by
  intro u v1 v2 v3 v4 v5 v6 t0 x hf H locs hP hD hS ls hl
  obtain ⟨hx, hb, hr, hml, ht, hown, hM, hK, hA, hlocks⟩ := id C0
  unfold fb_M_feed_76 at hf
  refine lv_istore (lv' := [(7, .int t0), (0, .ref h0), (1, .int v1), (2, .int v2), (3, .int v3), (4, .int v4), (5, .int v5), (6, .int v6)]) hx hb d_M_feed_76 hl (by decide) rfl (fun ls hl => ?_)
  refine lv_aload_n hx hb d_M_feed_78 rfl (lv_at hl 1 rfl) ?_
  refine ug_R hx hb ht hown hM hK hP 4 (by decide) lk_M_4 (by decide) d_M_feed_79 ?_
  refine lv_aload_n hx hb d_M_feed_82 rfl (lv_at hl 1 rfl) ?_
  refine ug_I hx hb ht hown hM hK hP 5 (by decide) lk_M_5 (by decide) d_M_feed_83 ?_
  refine lv_iload hx hb d_M_feed_86 (lv_at hl 0 rfl) ?_
  refine lv_bipush (v := 24) hx hb d_M_feed_88 (by decide) ?_
  refine lv_bipush (v := 8) hx hb d_M_feed_90 (by decide) ?_
  refine lv_iload hx hb d_M_feed_92 (lv_at hl 7 rfl) ?_
  refine lv_iconst (v := 4) hx hb d_M_feed_94 (by decide) ?_
  refine lv_irem hx hb d_M_feed_95 (by decide) ?_
  refine lv_imul hx hb d_M_feed_96 ?_
  refine lv_isub hx hb d_M_feed_97 ?_
  refine lv_iushr hx hb d_M_feed_98 rfl ?_
  refine lv_i2b hx hb d_M_feed_99 rfl ?_
  obtain ⟨hi9, hf⟩ := ck_some hf
  refine us_B hx hb hK hP hD hS (by decide) (by decide) hi9 d_M_feed_100 (fun H locs hP hD hS => ?_)
  refine lv_aload_n hx hb d_M_feed_101 rfl (lv_at hl 1 rfl) ?_
  refine lv_dup hx hb d_M_feed_102 rfl ?_
  refine ug_I hx hb ht hown hM hK hP 5 (by decide) lk_M_5 (by decide) d_M_feed_103 ?_
  refine lv_iconst (v := 1) hx hb d_M_feed_106 (by decide) ?_
  refine lv_iadd hx hb d_M_feed_107 ?_
  refine up_I hx hb ht hown hM hK hP hD hS 5 (by decide) lk_M_5 (by decide) rfl rfl rfl d_M_feed_108 (fun H locs hP hD hS => ?_)
  refine lv_iinc (v := (v6 + 1)) (lv' := [(6, .int (v6 + 1)), (7, .int t0), (0, .ref h0), (1, .int v1), (2, .int v2), (3, .int v3), (4, .int v4), (5, .int v5)]) hx hb d_M_feed_111 hl (k := 7) rfl rfl (by decide) rfl (fun ls hl => ?_)
  refine lv_goto (tgt := 23) hx hb d_M_feed_114 (by decide) ?_
  exact hG _ _ _ _ _ _ _ _ hf H locs hP hD hS ls (lv_sub hl [2, 3, 4, 5, 6, 7, 0] rfl)
def fb_M_feed_23 (N : Nat) (G : (MS → Int32 → Int32 → Int32 → Int32 → Int32 → Int32 → Option (MS × Int32))) (u : MS) (v1 : Int32) (v2 : Int32) (v3 : Int32) (v4 : Int32) (v5 : Int32) (v6 : Int32) : Option (MS × Int32) := br (decide (20 ≤ v6)) (some (u, (u.1 5))) (br (decide (4 ≤ v6)) (br (decide (8 ≤ v6)) (br (decide (12 ≤ v6)) (br (decide (16 ≤ v6)) (fb_M_feed_76 N G u (v1) (v2) (v3) (v4) (v5) (v6) (v5)) (fb_M_feed_76 N G u (v1) (v2) (v3) (v4) (v5) (v6) (v4))) (fb_M_feed_76 N G u (v1) (v2) (v3) (v4) (v5) (v6) (v3))) (fb_M_feed_76 N G u (v1) (v2) (v3) (v4) (v5) (v6) (v2))) (fb_M_feed_76 N G u (v1) (v2) (v3) (v4) (v5) (v6) (v1)))
set_option maxRecDepth 100000 in
set_option maxHeartbeats 4000000 in
theorem wb_M_feed_23 {p : Program} {l : Launch} {e : Env} {R : Room} {s : State} {m : MethodId} {args : Array Value} {below : List Frame} {meth : Method} {c : Code} {D : va_G} {cl : List vw_C} {cB cI cJ cZ cS : ClassId} {A : Nat → Prop} {iM h0 : Nat} {ad : Nat → Nat} (C0 : MCx p s m args meth c b_M_feed 8 (some .int) D cl cB cI cJ cZ cS iM A) (hR : R = rm_M_feed) (N : Nat) (G : (MS → Int32 → Int32 → Int32 → Int32 → Int32 → Int32 → Option (MS × Int32))) (hG : (∀ (u : MS) (v1 : Int32) (v2 : Int32) (v3 : Int32) (v4 : Int32) (v5 : Int32) (v6 : Int32) (x : MS × Int32), G u v1 v2 v3 v4 v5 v6 = some x → ∀ (H : Heap) (locs : List Loc), va_P D cl (wM cB cI cJ cZ cS iM h0 ad u) H → va_D A (wM cB cI cJ cZ cS iM h0 ad u) → va_S A s.heap H locs → ∀ (ls : Array Slot), lv_has ls 8 [(0, .ref h0), (1, .int v1), (2, .int v2), (3, .int v3), (4, .int v4), (5, .int v5), (6, .int v6)] → W p l e R s m args below meth c H locs 0 0 (MQ below (mQi D cl cB cI cJ cZ cS iM h0 ad A x) args s 0 0 A) (F0 m 23 ls []))) : ∀ (u : MS) (v1 : Int32) (v2 : Int32) (v3 : Int32) (v4 : Int32) (v5 : Int32) (v6 : Int32) (x : MS × Int32), fb_M_feed_23 N G u v1 v2 v3 v4 v5 v6 = some x → ∀ (H : Heap) (locs : List Loc), va_P D cl (wM cB cI cJ cZ cS iM h0 ad u) H → va_D A (wM cB cI cJ cZ cS iM h0 ad u) → va_S A s.heap H locs → ∀ (ls : Array Slot), lv_has ls 8 [(0, .ref h0), (1, .int v1), (2, .int v2), (3, .int v3), (4, .int v4), (5, .int v5), (6, .int v6)] → W p l e R s m args below meth c H locs 0 0 (MQ below (mQi D cl cB cI cJ cZ cS iM h0 ad A x) args s 0 0 A) (F0 m 23 ls []) := by
  intro u v1 v2 v3 v4 v5 v6 x hf H locs hP hD hS ls hl
  obtain ⟨hx, hb, hr, hml, ht, hown, hM, hK, hA, hlocks⟩ := id C0
  unfold fb_M_feed_23 at hf
  refine lv_iload hx hb d_M_feed_23 (lv_at hl 6 rfl) ?_
  refine lv_bipush (v := 20) hx hb d_M_feed_25 (by decide) ?_
  refine lv_icmp_ge (tgt := 117) hx hb d_M_feed_27 (by decide) (fun hc => ?_) (fun hc => ?_)
  · rw [br_p _ hc] at hf
    refine lv_aload_n hx hb d_M_feed_117 rfl (lv_at hl 0 rfl) ?_
    refine ug_I hx hb ht hown hM hK hP 5 (by decide) lk_M_5 (by decide) d_M_feed_118 ?_
    exact mr_i C0 hP hD hS hf d_M_feed_121
  · rw [br_n _ hc] at hf
    refine lv_iload hx hb d_M_feed_30 (lv_at hl 6 rfl) ?_
    refine lv_iconst (v := 4) hx hb d_M_feed_32 (by decide) ?_
    refine lv_icmp_ge (tgt := 40) hx hb d_M_feed_33 (by decide) (fun hc => ?_) (fun hc => ?_)
    · rw [br_p _ hc] at hf
      refine lv_iload hx hb d_M_feed_40 (lv_at hl 6 rfl) ?_
      refine lv_bipush (v := 8) hx hb d_M_feed_42 (by decide) ?_
      refine lv_icmp_ge (tgt := 51) hx hb d_M_feed_44 (by decide) (fun hc => ?_) (fun hc => ?_)
      · rw [br_p _ hc] at hf
        refine lv_iload hx hb d_M_feed_51 (lv_at hl 6 rfl) ?_
        refine lv_bipush (v := 12) hx hb d_M_feed_53 (by decide) ?_
        refine lv_icmp_ge (tgt := 62) hx hb d_M_feed_55 (by decide) (fun hc => ?_) (fun hc => ?_)
        · rw [br_p _ hc] at hf
          refine lv_iload hx hb d_M_feed_62 (lv_at hl 6 rfl) ?_
          refine lv_bipush (v := 16) hx hb d_M_feed_64 (by decide) ?_
          refine lv_icmp_ge (tgt := 74) hx hb d_M_feed_66 (by decide) (fun hc => ?_) (fun hc => ?_)
          · rw [br_p _ hc] at hf
            refine lv_iload hx hb d_M_feed_74 (lv_at hl 5 rfl) ?_
            exact wb_M_feed_76 C0 hR N G hG _ _ _ _ _ _ _ _ _ hf H locs hP hD hS ls (lv_sub hl [0, 1, 2, 3, 4, 5, 6] rfl)
          · rw [br_n _ hc] at hf
            refine lv_iload hx hb d_M_feed_69 (lv_at hl 4 rfl) ?_
            refine lv_goto (tgt := 76) hx hb d_M_feed_71 (by decide) ?_
            exact wb_M_feed_76 C0 hR N G hG _ _ _ _ _ _ _ _ _ hf H locs hP hD hS ls (lv_sub hl [0, 1, 2, 3, 4, 5, 6] rfl)
        · rw [br_n _ hc] at hf
          refine lv_iload_n hx hb d_M_feed_58 rfl (lv_at hl 3 rfl) ?_
          refine lv_goto (tgt := 76) hx hb d_M_feed_59 (by decide) ?_
          exact wb_M_feed_76 C0 hR N G hG _ _ _ _ _ _ _ _ _ hf H locs hP hD hS ls (lv_sub hl [0, 1, 2, 3, 4, 5, 6] rfl)
      · rw [br_n _ hc] at hf
        refine lv_iload_n hx hb d_M_feed_47 rfl (lv_at hl 2 rfl) ?_
        refine lv_goto (tgt := 76) hx hb d_M_feed_48 (by decide) ?_
        exact wb_M_feed_76 C0 hR N G hG _ _ _ _ _ _ _ _ _ hf H locs hP hD hS ls (lv_sub hl [0, 1, 2, 3, 4, 5, 6] rfl)
    · rw [br_n _ hc] at hf
      refine lv_iload_n hx hb d_M_feed_36 rfl (lv_at hl 1 rfl) ?_
      refine lv_goto (tgt := 76) hx hb d_M_feed_37 (by decide) ?_
      exact wb_M_feed_76 C0 hR N G hG _ _ _ _ _ _ _ _ _ hf H locs hP hD hS ls (lv_sub hl [0, 1, 2, 3, 4, 5, 6] rfl)
def fb_M_feed_0 (N : Nat) (G : (MS → Int32 → Int32 → Int32 → Int32 → Int32 → Int32 → Option (MS × Int32))) (u : MS) (v1 : Int32) (v2 : Int32) (v3 : Int32) (v4 : Int32) (v5 : Int32) : Option (MS × Int32) := br (decide ((((upI u 3 0).1 5) + 20) ≤ 4000)) (G (upI u 3 0) (v1) (v2) (v3) (v4) (v5) (0)) (some ((upI u 3 0), (-1)))
set_option maxRecDepth 100000 in
set_option maxHeartbeats 4000000 in
theorem wb_M_feed_0 {p : Program} {l : Launch} {e : Env} {R : Room} {s : State} {m : MethodId} {args : Array Value} {below : List Frame} {meth : Method} {c : Code} {D : va_G} {cl : List vw_C} {cB cI cJ cZ cS : ClassId} {A : Nat → Prop} {iM h0 : Nat} {ad : Nat → Nat} (C0 : MCx p s m args meth c b_M_feed 8 (some .int) D cl cB cI cJ cZ cS iM A) (hR : R = rm_M_feed) (N : Nat) (G : (MS → Int32 → Int32 → Int32 → Int32 → Int32 → Int32 → Option (MS × Int32))) (hG : (∀ (u : MS) (v1 : Int32) (v2 : Int32) (v3 : Int32) (v4 : Int32) (v5 : Int32) (v6 : Int32) (x : MS × Int32), G u v1 v2 v3 v4 v5 v6 = some x → ∀ (H : Heap) (locs : List Loc), va_P D cl (wM cB cI cJ cZ cS iM h0 ad u) H → va_D A (wM cB cI cJ cZ cS iM h0 ad u) → va_S A s.heap H locs → ∀ (ls : Array Slot), lv_has ls 8 [(0, .ref h0), (1, .int v1), (2, .int v2), (3, .int v3), (4, .int v4), (5, .int v5), (6, .int v6)] → W p l e R s m args below meth c H locs 0 0 (MQ below (mQi D cl cB cI cJ cZ cS iM h0 ad A x) args s 0 0 A) (F0 m 23 ls []))) : ∀ (u : MS) (v1 : Int32) (v2 : Int32) (v3 : Int32) (v4 : Int32) (v5 : Int32) (x : MS × Int32), fb_M_feed_0 N G u v1 v2 v3 v4 v5 = some x → ∀ (H : Heap) (locs : List Loc), va_P D cl (wM cB cI cJ cZ cS iM h0 ad u) H → va_D A (wM cB cI cJ cZ cS iM h0 ad u) → va_S A s.heap H locs → ∀ (ls : Array Slot), lv_has ls 8 [(0, .ref h0), (1, .int v1), (2, .int v2), (3, .int v3), (4, .int v4), (5, .int v5)] → W p l e R s m args below meth c H locs 0 0 (MQ below (mQi D cl cB cI cJ cZ cS iM h0 ad A x) args s 0 0 A) (F0 m 0 ls []) := by
  intro u v1 v2 v3 v4 v5 x hf H locs hP hD hS ls hl
  obtain ⟨hx, hb, hr, hml, ht, hown, hM, hK, hA, hlocks⟩ := id C0
  unfold fb_M_feed_0 at hf
  refine lv_aload_n hx hb d_M_feed_0 rfl (lv_at hl 0 rfl) ?_
  refine lv_iconst (v := 0) hx hb d_M_feed_1 (by decide) ?_
  refine up_I hx hb ht hown hM hK hP hD hS 3 (by decide) lk_M_3 (by decide) rfl rfl rfl d_M_feed_2 (fun H locs hP hD hS => ?_)
  refine lv_aload_n hx hb d_M_feed_5 rfl (lv_at hl 0 rfl) ?_
  refine ug_I hx hb ht hown hM hK hP 5 (by decide) lk_M_5 (by decide) d_M_feed_6 ?_
  refine lv_bipush (v := 20) hx hb d_M_feed_9 (by decide) ?_
  refine lv_iadd hx hb d_M_feed_11 ?_
  refine lv_sipush (v := 4000) hx hb d_M_feed_12 (by decide) ?_
  refine lv_icmp_le (tgt := 20) hx hb d_M_feed_15 (by decide) (fun hc => ?_) (fun hc => ?_)
  · rw [br_p _ hc] at hf
    refine lv_iconst (v := 0) hx hb d_M_feed_20 (by decide) ?_
    refine lv_istore (lv' := [(6, .int 0), (0, .ref h0), (1, .int v1), (2, .int v2), (3, .int v3), (4, .int v4), (5, .int v5)]) hx hb d_M_feed_21 hl (by decide) rfl (fun ls hl => ?_)
    exact hG _ _ _ _ _ _ _ _ hf H locs hP hD hS ls (lv_sub hl [1, 2, 3, 4, 5, 6, 0] rfl)
  · rw [br_n _ hc] at hf
    refine lv_iconst (v := (-1)) hx hb d_M_feed_18 (by decide) ?_
    exact mr_i C0 hP hD hS hf d_M_feed_19
def gg_M_feed (N : Nat) : Nat → ((MS → Int32 → Int32 → Int32 → Int32 → Int32 → Int32 → Option (MS × Int32)))
  | 0 => fun _ _ _ _ _ _ _ => none
  | n + 1 => fb_M_feed_23 N (gg_M_feed N n)
theorem wg_M_feed {p : Program} {l : Launch} {e : Env} {R : Room} {s : State} {m : MethodId} {args : Array Value} {below : List Frame} {meth : Method} {c : Code} {D : va_G} {cl : List vw_C} {cB cI cJ cZ cS : ClassId} {A : Nat → Prop} {iM h0 : Nat} {ad : Nat → Nat} (C0 : MCx p s m args meth c b_M_feed 8 (some .int) D cl cB cI cJ cZ cS iM A) (hR : R = rm_M_feed) (N : Nat) : ∀ n : Nat, (∀ (u : MS) (v1 : Int32) (v2 : Int32) (v3 : Int32) (v4 : Int32) (v5 : Int32) (v6 : Int32) (x : MS × Int32), gg_M_feed N n u v1 v2 v3 v4 v5 v6 = some x → ∀ (H : Heap) (locs : List Loc), va_P D cl (wM cB cI cJ cZ cS iM h0 ad u) H → va_D A (wM cB cI cJ cZ cS iM h0 ad u) → va_S A s.heap H locs → ∀ (ls : Array Slot), lv_has ls 8 [(0, .ref h0), (1, .int v1), (2, .int v2), (3, .int v3), (4, .int v4), (5, .int v5), (6, .int v6)] → W p l e R s m args below meth c H locs 0 0 (MQ below (mQi D cl cB cI cJ cZ cS iM h0 ad A x) args s 0 0 A) (F0 m 23 ls []))
  | 0 => (fun u v1 v2 v3 v4 v5 v6 x hf => by cases hf)
  | n + 1 => wb_M_feed_23 C0 hR N (gg_M_feed N n) (wg_M_feed C0 hR N n)
def fm_M_feed (N : Nat) (u : MS) (v1 : Int32) (v2 : Int32) (v3 : Int32) (v4 : Int32) (v5 : Int32) : Option (MS × Int32) := fb_M_feed_0 N (gg_M_feed N N) u v1 v2 v3 v4 v5
set_option maxRecDepth 100000 in
set_option maxHeartbeats 4000000 in
theorem c_M_feed (N : Nat) {l : Launch} {D : va_G} {cl : List vw_C} {cB cI cJ cZ cS : ClassId} {iM h0 : Nat} {ad : Nat → Nat} {u : MS} {sz : Nat} {v1 : Int32} {v2 : Int32} {v3 : Int32} {v4 : Int32} {v5 : Int32} {x : MS × Int32} (hM : cl[iM]? = some (R_M, F_M, 171)) (hf : fm_M_feed N u v1 v2 v3 v4 v5 = some x) : Met l y_M_feed (wd_ws y_M_feed b_M_feed 8 (some .int)) rm_M_feed (mPc D cl cB cI cJ cZ cS iM h0 ad u sz [.ref h0, .int v1, .int v2, .int v3, .int v4, .int v5]) (mQi D cl cB cI cJ cZ cS iM h0 ad (mA cB cI cJ cZ cS iM h0 ad u sz) x) 0 0 (mA cB cI cJ cZ cS iM h0 ad u sz) :=
  mMet (by decide) rfl hM (Nat.le_of_ble_eq_true rfl) (fun p e s m below meth c ls hsz C0 hP hD hS hl => by
    have hR : rm_M_feed = rm_M_feed := rfl
    exact wb_M_feed_0 C0 hR N (gg_M_feed N N) (wg_M_feed C0 hR N N) u _ _ _ _ _ x hf s.heap [] hP hD hS ls (lv_sub hl [0, 1, 2, 3, 4, 5] rfl))
abbrev b_M_isSmall : ByteArray := prog_14_method_5_code
def y_M_isSmall : MethodName := ⟨R_M, "isSmall", "(I)Z"⟩
def w_M_isSmall : List Cond := wd_ws y_M_isSmall b_M_isSmall 1 (some .boolean)
set_option maxRecDepth 100000 in
theorem k_M_isSmall : Cond.code y_M_isSmall b_M_isSmall 1 (some .boolean) ∈ wd_tbl := wd_of 2657 rfl rfl
theorem d_M_isSmall_0 : decode b_M_isSmall 0 = .ok (.iload_n 0, 1) := by decide +kernel
theorem d_M_isSmall_1 : decode b_M_isSmall 1 = .ok (.bipush 97, 2) := by decide +kernel
theorem d_M_isSmall_3 : decode b_M_isSmall 3 = .ok (.if_icmp .lt 13, 3) := by decide +kernel
theorem d_M_isSmall_6 : decode b_M_isSmall 6 = .ok (.iload_n 0, 1) := by decide +kernel
theorem d_M_isSmall_7 : decode b_M_isSmall 7 = .ok (.bipush 122, 2) := by decide +kernel
theorem d_M_isSmall_9 : decode b_M_isSmall 9 = .ok (.if_icmp .gt 7, 3) := by decide +kernel
theorem d_M_isSmall_12 : decode b_M_isSmall 12 = .ok (.iconst 1, 1) := by decide +kernel
theorem d_M_isSmall_13 : decode b_M_isSmall 13 = .ok (.goto 4, 3) := by decide +kernel
theorem d_M_isSmall_16 : decode b_M_isSmall 16 = .ok (.iconst 0, 1) := by decide +kernel
theorem d_M_isSmall_17 : decode b_M_isSmall 17 = .ok (.ireturn, 1) := by decide +kernel
set_option maxRecDepth 100000 in
theorem hl_M_isSmall : Cond.methodLink R_M 375 y_M_isSmall ∈ wd_tbl := wd_of 2655 (by decide +kernel) rfl
set_option maxRecDepth 100000 in
theorem ht_M_isSmall : Cond.static y_M_isSmall ∈ wd_tbl := wd_of 2656 (by decide +kernel) rfl
theorem hd_M_isSmall : y_M_isSmall.cls = R_M ∧ y_M_isSmall.cls ≠ "java/lang/invoke/MethodHandle" ∧ y_M_isSmall.cls ≠ "java/lang/invoke/VarHandle" ∧ (parseMethodDescriptor y_M_isSmall.desc).map (fun d => d.parameters.length) = some 1 := by decide +kernel
def rm_M_isSmall : Room := { frames := 0, cells := 0, slots := 0, locals := 0 }
def fb_M_isSmall_17 (N : Nat) (G : Unit) (u : MS) (t0 : Int32) : Option (MS × Int32) := ck (isb t0) (some (u, t0))
set_option maxRecDepth 100000 in
set_option maxHeartbeats 4000000 in
theorem wb_M_isSmall_17 {p : Program} {l : Launch} {e : Env} {R : Room} {s : State} {m : MethodId} {args : Array Value} {below : List Frame} {meth : Method} {c : Code} {D : va_G} {cl : List vw_C} {cB cI cJ cZ cS : ClassId} {A : Nat → Prop} {iM h0 : Nat} {ad : Nat → Nat} (C0 : MCx p s m args meth c b_M_isSmall 1 (some .boolean) D cl cB cI cJ cZ cS iM A) (hR : R = rm_M_isSmall) (N : Nat) (G : Unit) (hG : True) : ∀ (u : MS) (t0 : Int32) (x : MS × Int32), fb_M_isSmall_17 N G u t0 = some x → ∀ (H : Heap) (locs : List Loc), va_P D cl (wM cB cI cJ cZ cS iM h0 ad u) H → va_D A (wM cB cI cJ cZ cS iM h0 ad u) → va_S A s.heap H locs → ∀ (ls : Array Slot), lv_has ls 1 [] → W p l e R s m args below meth c H locs 0 0 (MQ below (mQi D cl cB cI cJ cZ cS iM h0 ad A x) args s 0 0 A) (F0 m 17 ls [.int t0]) := by
  intro u t0 x hf H locs hP hD hS ls hl
  obtain ⟨hx, hb, hr, hml, ht, hown, hM, hK, hA, hlocks⟩ := id C0
  unfold fb_M_isSmall_17 at hf
  obtain ⟨hz, hf⟩ := ck_some hf
  exact mr_z C0 hP hD hS hz hf d_M_isSmall_17
def fb_M_isSmall_16 (N : Nat) (G : Unit) (u : MS) : Option (MS × Int32) := fb_M_isSmall_17 N G u (0)
set_option maxRecDepth 100000 in
set_option maxHeartbeats 4000000 in
theorem wb_M_isSmall_16 {p : Program} {l : Launch} {e : Env} {R : Room} {s : State} {m : MethodId} {args : Array Value} {below : List Frame} {meth : Method} {c : Code} {D : va_G} {cl : List vw_C} {cB cI cJ cZ cS : ClassId} {A : Nat → Prop} {iM h0 : Nat} {ad : Nat → Nat} (C0 : MCx p s m args meth c b_M_isSmall 1 (some .boolean) D cl cB cI cJ cZ cS iM A) (hR : R = rm_M_isSmall) (N : Nat) (G : Unit) (hG : True) : ∀ (u : MS) (x : MS × Int32), fb_M_isSmall_16 N G u = some x → ∀ (H : Heap) (locs : List Loc), va_P D cl (wM cB cI cJ cZ cS iM h0 ad u) H → va_D A (wM cB cI cJ cZ cS iM h0 ad u) → va_S A s.heap H locs → ∀ (ls : Array Slot), lv_has ls 1 [] → W p l e R s m args below meth c H locs 0 0 (MQ below (mQi D cl cB cI cJ cZ cS iM h0 ad A x) args s 0 0 A) (F0 m 16 ls []) := by
  intro u x hf H locs hP hD hS ls hl
  obtain ⟨hx, hb, hr, hml, ht, hown, hM, hK, hA, hlocks⟩ := id C0
  unfold fb_M_isSmall_16 at hf
  refine lv_iconst (v := 0) hx hb d_M_isSmall_16 (by decide) ?_
  exact wb_M_isSmall_17 C0 hR N G hG _ _ _ hf H locs hP hD hS ls (lv_sub hl [] rfl)
def fb_M_isSmall_0 (N : Nat) (G : Unit) (u : MS) (v0 : Int32) : Option (MS × Int32) := br (decide (v0 < 97)) (fb_M_isSmall_16 N G u) (br (decide (122 < v0)) (fb_M_isSmall_16 N G u) (fb_M_isSmall_17 N G u (1)))
set_option maxRecDepth 100000 in
set_option maxHeartbeats 4000000 in
theorem wb_M_isSmall_0 {p : Program} {l : Launch} {e : Env} {R : Room} {s : State} {m : MethodId} {args : Array Value} {below : List Frame} {meth : Method} {c : Code} {D : va_G} {cl : List vw_C} {cB cI cJ cZ cS : ClassId} {A : Nat → Prop} {iM h0 : Nat} {ad : Nat → Nat} (C0 : MCx p s m args meth c b_M_isSmall 1 (some .boolean) D cl cB cI cJ cZ cS iM A) (hR : R = rm_M_isSmall) (N : Nat) (G : Unit) (hG : True) : ∀ (u : MS) (v0 : Int32) (x : MS × Int32), fb_M_isSmall_0 N G u v0 = some x → ∀ (H : Heap) (locs : List Loc), va_P D cl (wM cB cI cJ cZ cS iM h0 ad u) H → va_D A (wM cB cI cJ cZ cS iM h0 ad u) → va_S A s.heap H locs → ∀ (ls : Array Slot), lv_has ls 1 [(0, .int v0)] → W p l e R s m args below meth c H locs 0 0 (MQ below (mQi D cl cB cI cJ cZ cS iM h0 ad A x) args s 0 0 A) (F0 m 0 ls []) := by
  intro u v0 x hf H locs hP hD hS ls hl
  obtain ⟨hx, hb, hr, hml, ht, hown, hM, hK, hA, hlocks⟩ := id C0
  unfold fb_M_isSmall_0 at hf
  refine lv_iload_n hx hb d_M_isSmall_0 rfl (lv_at hl 0 rfl) ?_
  refine lv_bipush (v := 97) hx hb d_M_isSmall_1 (by decide) ?_
  refine lv_icmp_lt (tgt := 16) hx hb d_M_isSmall_3 (by decide) (fun hc => ?_) (fun hc => ?_)
  · rw [br_p _ hc] at hf
    exact wb_M_isSmall_16 C0 hR N G hG _ _ hf H locs hP hD hS ls (lv_sub hl [] rfl)
  · rw [br_n _ hc] at hf
    refine lv_iload_n hx hb d_M_isSmall_6 rfl (lv_at hl 0 rfl) ?_
    refine lv_bipush (v := 122) hx hb d_M_isSmall_7 (by decide) ?_
    refine lv_icmp_gt (tgt := 16) hx hb d_M_isSmall_9 (by decide) (fun hc => ?_) (fun hc => ?_)
    · rw [br_p _ hc] at hf
      exact wb_M_isSmall_16 C0 hR N G hG _ _ hf H locs hP hD hS ls (lv_sub hl [] rfl)
    · rw [br_n _ hc] at hf
      refine lv_iconst (v := 1) hx hb d_M_isSmall_12 (by decide) ?_
      refine lv_goto (tgt := 17) hx hb d_M_isSmall_13 (by decide) ?_
      exact wb_M_isSmall_17 C0 hR N G hG _ _ _ hf H locs hP hD hS ls (lv_sub hl [] rfl)
def fm_M_isSmall (N : Nat) (u : MS) (v0 : Int32) : Option (MS × Int32) := fb_M_isSmall_0 N () u v0
set_option maxRecDepth 100000 in
set_option maxHeartbeats 4000000 in
theorem c_M_isSmall (N : Nat) {l : Launch} {D : va_G} {cl : List vw_C} {cB cI cJ cZ cS : ClassId} {iM h0 : Nat} {ad : Nat → Nat} {u : MS} {sz : Nat} {v0 : Int32} {x : MS × Int32} (hM : cl[iM]? = some (R_M, F_M, 171)) (hf : fm_M_isSmall N u v0 = some x) : Met l y_M_isSmall (wd_ws y_M_isSmall b_M_isSmall 1 (some .boolean)) rm_M_isSmall (mPc D cl cB cI cJ cZ cS iM h0 ad u sz [.int v0]) (mQi D cl cB cI cJ cZ cS iM h0 ad (mA cB cI cJ cZ cS iM h0 ad u sz) x) 0 0 (mA cB cI cJ cZ cS iM h0 ad u sz) :=
  mMet (by decide) rfl hM (Nat.le_of_ble_eq_true rfl) (fun p e s m below meth c ls hsz C0 hP hD hS hl => by
    have hR : rm_M_isSmall = rm_M_isSmall := rfl
    exact wb_M_isSmall_0 C0 hR N () trivial u _ x hf s.heap [] hP hD hS ls (lv_sub hl [0] rfl))
abbrev b_M_isGreat : ByteArray := prog_14_method_6_code
def y_M_isGreat : MethodName := ⟨R_M, "isGreat", "(I)Z"⟩
def w_M_isGreat : List Cond := wd_ws y_M_isGreat b_M_isGreat 1 (some .boolean)
set_option maxRecDepth 100000 in
theorem k_M_isGreat : Cond.code y_M_isGreat b_M_isGreat 1 (some .boolean) ∈ wd_tbl := wd_of 2660 rfl rfl
theorem d_M_isGreat_0 : decode b_M_isGreat 0 = .ok (.iload_n 0, 1) := by decide +kernel
theorem d_M_isGreat_1 : decode b_M_isGreat 1 = .ok (.bipush 65, 2) := by decide +kernel
theorem d_M_isGreat_3 : decode b_M_isGreat 3 = .ok (.if_icmp .lt 9, 3) := by decide +kernel
theorem d_M_isGreat_6 : decode b_M_isGreat 6 = .ok (.iload_n 0, 1) := by decide +kernel
theorem d_M_isGreat_7 : decode b_M_isGreat 7 = .ok (.bipush 90, 2) := by decide +kernel
theorem d_M_isGreat_9 : decode b_M_isGreat 9 = .ok (.if_icmp .le 9, 3) := by decide +kernel
theorem d_M_isGreat_12 : decode b_M_isGreat 12 = .ok (.iload_n 0, 1) := by decide +kernel
theorem d_M_isGreat_13 : decode b_M_isGreat 13 = .ok (.bipush 95, 2) := by decide +kernel
theorem d_M_isGreat_15 : decode b_M_isGreat 15 = .ok (.if_icmp .ne 7, 3) := by decide +kernel
theorem d_M_isGreat_18 : decode b_M_isGreat 18 = .ok (.iconst 1, 1) := by decide +kernel
theorem d_M_isGreat_19 : decode b_M_isGreat 19 = .ok (.goto 4, 3) := by decide +kernel
theorem d_M_isGreat_22 : decode b_M_isGreat 22 = .ok (.iconst 0, 1) := by decide +kernel
theorem d_M_isGreat_23 : decode b_M_isGreat 23 = .ok (.ireturn, 1) := by decide +kernel
set_option maxRecDepth 100000 in
theorem hl_M_isGreat : Cond.methodLink R_M 379 y_M_isGreat ∈ wd_tbl := wd_of 2658 (by decide +kernel) rfl
set_option maxRecDepth 100000 in
theorem ht_M_isGreat : Cond.static y_M_isGreat ∈ wd_tbl := wd_of 2659 (by decide +kernel) rfl
theorem hd_M_isGreat : y_M_isGreat.cls = R_M ∧ y_M_isGreat.cls ≠ "java/lang/invoke/MethodHandle" ∧ y_M_isGreat.cls ≠ "java/lang/invoke/VarHandle" ∧ (parseMethodDescriptor y_M_isGreat.desc).map (fun d => d.parameters.length) = some 1 := by decide +kernel
def rm_M_isGreat : Room := { frames := 0, cells := 0, slots := 0, locals := 0 }
def fb_M_isGreat_23 (N : Nat) (G : Unit) (u : MS) (t0 : Int32) : Option (MS × Int32) := ck (isb t0) (some (u, t0))
set_option maxRecDepth 100000 in
set_option maxHeartbeats 4000000 in
theorem wb_M_isGreat_23 {p : Program} {l : Launch} {e : Env} {R : Room} {s : State} {m : MethodId} {args : Array Value} {below : List Frame} {meth : Method} {c : Code} {D : va_G} {cl : List vw_C} {cB cI cJ cZ cS : ClassId} {A : Nat → Prop} {iM h0 : Nat} {ad : Nat → Nat} (C0 : MCx p s m args meth c b_M_isGreat 1 (some .boolean) D cl cB cI cJ cZ cS iM A) (hR : R = rm_M_isGreat) (N : Nat) (G : Unit) (hG : True) : ∀ (u : MS) (t0 : Int32) (x : MS × Int32), fb_M_isGreat_23 N G u t0 = some x → ∀ (H : Heap) (locs : List Loc), va_P D cl (wM cB cI cJ cZ cS iM h0 ad u) H → va_D A (wM cB cI cJ cZ cS iM h0 ad u) → va_S A s.heap H locs → ∀ (ls : Array Slot), lv_has ls 1 [] → W p l e R s m args below meth c H locs 0 0 (MQ below (mQi D cl cB cI cJ cZ cS iM h0 ad A x) args s 0 0 A) (F0 m 23 ls [.int t0]) := by
  intro u t0 x hf H locs hP hD hS ls hl
  obtain ⟨hx, hb, hr, hml, ht, hown, hM, hK, hA, hlocks⟩ := id C0
  unfold fb_M_isGreat_23 at hf
  obtain ⟨hz, hf⟩ := ck_some hf
  exact mr_z C0 hP hD hS hz hf d_M_isGreat_23
def fb_M_isGreat_18 (N : Nat) (G : Unit) (u : MS) : Option (MS × Int32) := fb_M_isGreat_23 N G u (1)
set_option maxRecDepth 100000 in
set_option maxHeartbeats 4000000 in
theorem wb_M_isGreat_18 {p : Program} {l : Launch} {e : Env} {R : Room} {s : State} {m : MethodId} {args : Array Value} {below : List Frame} {meth : Method} {c : Code} {D : va_G} {cl : List vw_C} {cB cI cJ cZ cS : ClassId} {A : Nat → Prop} {iM h0 : Nat} {ad : Nat → Nat} (C0 : MCx p s m args meth c b_M_isGreat 1 (some .boolean) D cl cB cI cJ cZ cS iM A) (hR : R = rm_M_isGreat) (N : Nat) (G : Unit) (hG : True) : ∀ (u : MS) (x : MS × Int32), fb_M_isGreat_18 N G u = some x → ∀ (H : Heap) (locs : List Loc), va_P D cl (wM cB cI cJ cZ cS iM h0 ad u) H → va_D A (wM cB cI cJ cZ cS iM h0 ad u) → va_S A s.heap H locs → ∀ (ls : Array Slot), lv_has ls 1 [] → W p l e R s m args below meth c H locs 0 0 (MQ below (mQi D cl cB cI cJ cZ cS iM h0 ad A x) args s 0 0 A) (F0 m 18 ls []) := by
  intro u x hf H locs hP hD hS ls hl
  obtain ⟨hx, hb, hr, hml, ht, hown, hM, hK, hA, hlocks⟩ := id C0
  unfold fb_M_isGreat_18 at hf
  refine lv_iconst (v := 1) hx hb d_M_isGreat_18 (by decide) ?_
  refine lv_goto (tgt := 23) hx hb d_M_isGreat_19 (by decide) ?_
  exact wb_M_isGreat_23 C0 hR N G hG _ _ _ hf H locs hP hD hS ls (lv_sub hl [] rfl)
def fb_M_isGreat_12 (N : Nat) (G : Unit) (u : MS) (v0 : Int32) : Option (MS × Int32) := br (decide (v0 = 95)) (fb_M_isGreat_18 N G u) (fb_M_isGreat_23 N G u (0))
set_option maxRecDepth 100000 in
set_option maxHeartbeats 4000000 in
theorem wb_M_isGreat_12 {p : Program} {l : Launch} {e : Env} {R : Room} {s : State} {m : MethodId} {args : Array Value} {below : List Frame} {meth : Method} {c : Code} {D : va_G} {cl : List vw_C} {cB cI cJ cZ cS : ClassId} {A : Nat → Prop} {iM h0 : Nat} {ad : Nat → Nat} (C0 : MCx p s m args meth c b_M_isGreat 1 (some .boolean) D cl cB cI cJ cZ cS iM A) (hR : R = rm_M_isGreat) (N : Nat) (G : Unit) (hG : True) : ∀ (u : MS) (v0 : Int32) (x : MS × Int32), fb_M_isGreat_12 N G u v0 = some x → ∀ (H : Heap) (locs : List Loc), va_P D cl (wM cB cI cJ cZ cS iM h0 ad u) H → va_D A (wM cB cI cJ cZ cS iM h0 ad u) → va_S A s.heap H locs → ∀ (ls : Array Slot), lv_has ls 1 [(0, .int v0)] → W p l e R s m args below meth c H locs 0 0 (MQ below (mQi D cl cB cI cJ cZ cS iM h0 ad A x) args s 0 0 A) (F0 m 12 ls []) := by
  intro u v0 x hf H locs hP hD hS ls hl
  obtain ⟨hx, hb, hr, hml, ht, hown, hM, hK, hA, hlocks⟩ := id C0
  unfold fb_M_isGreat_12 at hf
  refine lv_iload_n hx hb d_M_isGreat_12 rfl (lv_at hl 0 rfl) ?_
  refine lv_bipush (v := 95) hx hb d_M_isGreat_13 (by decide) ?_
  refine lv_icmp_ne (tgt := 22) hx hb d_M_isGreat_15 (by decide) (fun hc => ?_) (fun hc => ?_)
  · rw [br_n _ hc] at hf
    refine lv_iconst (v := 0) hx hb d_M_isGreat_22 (by decide) ?_
    exact wb_M_isGreat_23 C0 hR N G hG _ _ _ hf H locs hP hD hS ls (lv_sub hl [] rfl)
  · rw [br_p _ hc] at hf
    exact wb_M_isGreat_18 C0 hR N G hG _ _ hf H locs hP hD hS ls (lv_sub hl [] rfl)
def fb_M_isGreat_0 (N : Nat) (G : Unit) (u : MS) (v0 : Int32) : Option (MS × Int32) := br (decide (v0 < 65)) (fb_M_isGreat_12 N G u (v0)) (br (decide (v0 ≤ 90)) (fb_M_isGreat_18 N G u) (fb_M_isGreat_12 N G u (v0)))
set_option maxRecDepth 100000 in
set_option maxHeartbeats 4000000 in
theorem wb_M_isGreat_0 {p : Program} {l : Launch} {e : Env} {R : Room} {s : State} {m : MethodId} {args : Array Value} {below : List Frame} {meth : Method} {c : Code} {D : va_G} {cl : List vw_C} {cB cI cJ cZ cS : ClassId} {A : Nat → Prop} {iM h0 : Nat} {ad : Nat → Nat} (C0 : MCx p s m args meth c b_M_isGreat 1 (some .boolean) D cl cB cI cJ cZ cS iM A) (hR : R = rm_M_isGreat) (N : Nat) (G : Unit) (hG : True) : ∀ (u : MS) (v0 : Int32) (x : MS × Int32), fb_M_isGreat_0 N G u v0 = some x → ∀ (H : Heap) (locs : List Loc), va_P D cl (wM cB cI cJ cZ cS iM h0 ad u) H → va_D A (wM cB cI cJ cZ cS iM h0 ad u) → va_S A s.heap H locs → ∀ (ls : Array Slot), lv_has ls 1 [(0, .int v0)] → W p l e R s m args below meth c H locs 0 0 (MQ below (mQi D cl cB cI cJ cZ cS iM h0 ad A x) args s 0 0 A) (F0 m 0 ls []) := by
  intro u v0 x hf H locs hP hD hS ls hl
  obtain ⟨hx, hb, hr, hml, ht, hown, hM, hK, hA, hlocks⟩ := id C0
  unfold fb_M_isGreat_0 at hf
  refine lv_iload_n hx hb d_M_isGreat_0 rfl (lv_at hl 0 rfl) ?_
  refine lv_bipush (v := 65) hx hb d_M_isGreat_1 (by decide) ?_
  refine lv_icmp_lt (tgt := 12) hx hb d_M_isGreat_3 (by decide) (fun hc => ?_) (fun hc => ?_)
  · rw [br_p _ hc] at hf
    exact wb_M_isGreat_12 C0 hR N G hG _ _ _ hf H locs hP hD hS ls (lv_sub hl [0] rfl)
  · rw [br_n _ hc] at hf
    refine lv_iload_n hx hb d_M_isGreat_6 rfl (lv_at hl 0 rfl) ?_
    refine lv_bipush (v := 90) hx hb d_M_isGreat_7 (by decide) ?_
    refine lv_icmp_le (tgt := 18) hx hb d_M_isGreat_9 (by decide) (fun hc => ?_) (fun hc => ?_)
    · rw [br_p _ hc] at hf
      exact wb_M_isGreat_18 C0 hR N G hG _ _ hf H locs hP hD hS ls (lv_sub hl [] rfl)
    · rw [br_n _ hc] at hf
      exact wb_M_isGreat_12 C0 hR N G hG _ _ _ hf H locs hP hD hS ls (lv_sub hl [0] rfl)
def fm_M_isGreat (N : Nat) (u : MS) (v0 : Int32) : Option (MS × Int32) := fb_M_isGreat_0 N () u v0
set_option maxRecDepth 100000 in
set_option maxHeartbeats 4000000 in
theorem c_M_isGreat (N : Nat) {l : Launch} {D : va_G} {cl : List vw_C} {cB cI cJ cZ cS : ClassId} {iM h0 : Nat} {ad : Nat → Nat} {u : MS} {sz : Nat} {v0 : Int32} {x : MS × Int32} (hM : cl[iM]? = some (R_M, F_M, 171)) (hf : fm_M_isGreat N u v0 = some x) : Met l y_M_isGreat (wd_ws y_M_isGreat b_M_isGreat 1 (some .boolean)) rm_M_isGreat (mPc D cl cB cI cJ cZ cS iM h0 ad u sz [.int v0]) (mQi D cl cB cI cJ cZ cS iM h0 ad (mA cB cI cJ cZ cS iM h0 ad u sz) x) 0 0 (mA cB cI cJ cZ cS iM h0 ad u sz) :=
  mMet (by decide) rfl hM (Nat.le_of_ble_eq_true rfl) (fun p e s m below meth c ls hsz C0 hP hD hS hl => by
    have hR : rm_M_isGreat = rm_M_isGreat := rfl
    exact wb_M_isGreat_0 C0 hR N () trivial u _ x hf s.heap [] hP hD hS ls (lv_sub hl [0] rfl))
abbrev b_M_isDigit : ByteArray := prog_14_method_7_code
def y_M_isDigit : MethodName := ⟨R_M, "isDigit", "(I)Z"⟩
def w_M_isDigit : List Cond := wd_ws y_M_isDigit b_M_isDigit 1 (some .boolean)
set_option maxRecDepth 100000 in
theorem k_M_isDigit : Cond.code y_M_isDigit b_M_isDigit 1 (some .boolean) ∈ wd_tbl := wd_of 2670 rfl rfl
theorem d_M_isDigit_0 : decode b_M_isDigit 0 = .ok (.iload_n 0, 1) := by decide +kernel
theorem d_M_isDigit_1 : decode b_M_isDigit 1 = .ok (.bipush 48, 2) := by decide +kernel
theorem d_M_isDigit_3 : decode b_M_isDigit 3 = .ok (.if_icmp .lt 13, 3) := by decide +kernel
theorem d_M_isDigit_6 : decode b_M_isDigit 6 = .ok (.iload_n 0, 1) := by decide +kernel
theorem d_M_isDigit_7 : decode b_M_isDigit 7 = .ok (.bipush 57, 2) := by decide +kernel
theorem d_M_isDigit_9 : decode b_M_isDigit 9 = .ok (.if_icmp .gt 7, 3) := by decide +kernel
theorem d_M_isDigit_12 : decode b_M_isDigit 12 = .ok (.iconst 1, 1) := by decide +kernel
theorem d_M_isDigit_13 : decode b_M_isDigit 13 = .ok (.goto 4, 3) := by decide +kernel
theorem d_M_isDigit_16 : decode b_M_isDigit 16 = .ok (.iconst 0, 1) := by decide +kernel
theorem d_M_isDigit_17 : decode b_M_isDigit 17 = .ok (.ireturn, 1) := by decide +kernel
set_option maxRecDepth 100000 in
theorem hl_M_isDigit : Cond.methodLink R_M 382 y_M_isDigit ∈ wd_tbl := wd_of 2668 (by decide +kernel) rfl
set_option maxRecDepth 100000 in
theorem ht_M_isDigit : Cond.static y_M_isDigit ∈ wd_tbl := wd_of 2669 (by decide +kernel) rfl
theorem hd_M_isDigit : y_M_isDigit.cls = R_M ∧ y_M_isDigit.cls ≠ "java/lang/invoke/MethodHandle" ∧ y_M_isDigit.cls ≠ "java/lang/invoke/VarHandle" ∧ (parseMethodDescriptor y_M_isDigit.desc).map (fun d => d.parameters.length) = some 1 := by decide +kernel
def rm_M_isDigit : Room := { frames := 0, cells := 0, slots := 0, locals := 0 }
def fb_M_isDigit_17 (N : Nat) (G : Unit) (u : MS) (t0 : Int32) : Option (MS × Int32) := ck (isb t0) (some (u, t0))
set_option maxRecDepth 100000 in
set_option maxHeartbeats 4000000 in
theorem wb_M_isDigit_17 {p : Program} {l : Launch} {e : Env} {R : Room} {s : State} {m : MethodId} {args : Array Value} {below : List Frame} {meth : Method} {c : Code} {D : va_G} {cl : List vw_C} {cB cI cJ cZ cS : ClassId} {A : Nat → Prop} {iM h0 : Nat} {ad : Nat → Nat} (C0 : MCx p s m args meth c b_M_isDigit 1 (some .boolean) D cl cB cI cJ cZ cS iM A) (hR : R = rm_M_isDigit) (N : Nat) (G : Unit) (hG : True) : ∀ (u : MS) (t0 : Int32) (x : MS × Int32), fb_M_isDigit_17 N G u t0 = some x → ∀ (H : Heap) (locs : List Loc), va_P D cl (wM cB cI cJ cZ cS iM h0 ad u) H → va_D A (wM cB cI cJ cZ cS iM h0 ad u) → va_S A s.heap H locs → ∀ (ls : Array Slot), lv_has ls 1 [] → W p l e R s m args below meth c H locs 0 0 (MQ below (mQi D cl cB cI cJ cZ cS iM h0 ad A x) args s 0 0 A) (F0 m 17 ls [.int t0]) := by
  intro u t0 x hf H locs hP hD hS ls hl
  obtain ⟨hx, hb, hr, hml, ht, hown, hM, hK, hA, hlocks⟩ := id C0
  unfold fb_M_isDigit_17 at hf
  obtain ⟨hz, hf⟩ := ck_some hf
  exact mr_z C0 hP hD hS hz hf d_M_isDigit_17
def fb_M_isDigit_16 (N : Nat) (G : Unit) (u : MS) : Option (MS × Int32) := fb_M_isDigit_17 N G u (0)
set_option maxRecDepth 100000 in
set_option maxHeartbeats 4000000 in
theorem wb_M_isDigit_16 {p : Program} {l : Launch} {e : Env} {R : Room} {s : State} {m : MethodId} {args : Array Value} {below : List Frame} {meth : Method} {c : Code} {D : va_G} {cl : List vw_C} {cB cI cJ cZ cS : ClassId} {A : Nat → Prop} {iM h0 : Nat} {ad : Nat → Nat} (C0 : MCx p s m args meth c b_M_isDigit 1 (some .boolean) D cl cB cI cJ cZ cS iM A) (hR : R = rm_M_isDigit) (N : Nat) (G : Unit) (hG : True) : ∀ (u : MS) (x : MS × Int32), fb_M_isDigit_16 N G u = some x → ∀ (H : Heap) (locs : List Loc), va_P D cl (wM cB cI cJ cZ cS iM h0 ad u) H → va_D A (wM cB cI cJ cZ cS iM h0 ad u) → va_S A s.heap H locs → ∀ (ls : Array Slot), lv_has ls 1 [] → W p l e R s m args below meth c H locs 0 0 (MQ below (mQi D cl cB cI cJ cZ cS iM h0 ad A x) args s 0 0 A) (F0 m 16 ls []) := by
  intro u x hf H locs hP hD hS ls hl
  obtain ⟨hx, hb, hr, hml, ht, hown, hM, hK, hA, hlocks⟩ := id C0
  unfold fb_M_isDigit_16 at hf
  refine lv_iconst (v := 0) hx hb d_M_isDigit_16 (by decide) ?_
  exact wb_M_isDigit_17 C0 hR N G hG _ _ _ hf H locs hP hD hS ls (lv_sub hl [] rfl)
def fb_M_isDigit_0 (N : Nat) (G : Unit) (u : MS) (v0 : Int32) : Option (MS × Int32) := br (decide (v0 < 48)) (fb_M_isDigit_16 N G u) (br (decide (57 < v0)) (fb_M_isDigit_16 N G u) (fb_M_isDigit_17 N G u (1)))
set_option maxRecDepth 100000 in
set_option maxHeartbeats 4000000 in
theorem wb_M_isDigit_0 {p : Program} {l : Launch} {e : Env} {R : Room} {s : State} {m : MethodId} {args : Array Value} {below : List Frame} {meth : Method} {c : Code} {D : va_G} {cl : List vw_C} {cB cI cJ cZ cS : ClassId} {A : Nat → Prop} {iM h0 : Nat} {ad : Nat → Nat} (C0 : MCx p s m args meth c b_M_isDigit 1 (some .boolean) D cl cB cI cJ cZ cS iM A) (hR : R = rm_M_isDigit) (N : Nat) (G : Unit) (hG : True) : ∀ (u : MS) (v0 : Int32) (x : MS × Int32), fb_M_isDigit_0 N G u v0 = some x → ∀ (H : Heap) (locs : List Loc), va_P D cl (wM cB cI cJ cZ cS iM h0 ad u) H → va_D A (wM cB cI cJ cZ cS iM h0 ad u) → va_S A s.heap H locs → ∀ (ls : Array Slot), lv_has ls 1 [(0, .int v0)] → W p l e R s m args below meth c H locs 0 0 (MQ below (mQi D cl cB cI cJ cZ cS iM h0 ad A x) args s 0 0 A) (F0 m 0 ls []) := by
  intro u v0 x hf H locs hP hD hS ls hl
  obtain ⟨hx, hb, hr, hml, ht, hown, hM, hK, hA, hlocks⟩ := id C0
  unfold fb_M_isDigit_0 at hf
  refine lv_iload_n hx hb d_M_isDigit_0 rfl (lv_at hl 0 rfl) ?_
  refine lv_bipush (v := 48) hx hb d_M_isDigit_1 (by decide) ?_
  refine lv_icmp_lt (tgt := 16) hx hb d_M_isDigit_3 (by decide) (fun hc => ?_) (fun hc => ?_)
  · rw [br_p _ hc] at hf
    exact wb_M_isDigit_16 C0 hR N G hG _ _ hf H locs hP hD hS ls (lv_sub hl [] rfl)
  · rw [br_n _ hc] at hf
    refine lv_iload_n hx hb d_M_isDigit_6 rfl (lv_at hl 0 rfl) ?_
    refine lv_bipush (v := 57) hx hb d_M_isDigit_7 (by decide) ?_
    refine lv_icmp_gt (tgt := 16) hx hb d_M_isDigit_9 (by decide) (fun hc => ?_) (fun hc => ?_)
    · rw [br_p _ hc] at hf
      exact wb_M_isDigit_16 C0 hR N G hG _ _ hf H locs hP hD hS ls (lv_sub hl [] rfl)
    · rw [br_n _ hc] at hf
      refine lv_iconst (v := 1) hx hb d_M_isDigit_12 (by decide) ?_
      refine lv_goto (tgt := 17) hx hb d_M_isDigit_13 (by decide) ?_
      exact wb_M_isDigit_17 C0 hR N G hG _ _ _ hf H locs hP hD hS ls (lv_sub hl [] rfl)
def fm_M_isDigit (N : Nat) (u : MS) (v0 : Int32) : Option (MS × Int32) := fb_M_isDigit_0 N () u v0
set_option maxRecDepth 100000 in
set_option maxHeartbeats 4000000 in
theorem c_M_isDigit (N : Nat) {l : Launch} {D : va_G} {cl : List vw_C} {cB cI cJ cZ cS : ClassId} {iM h0 : Nat} {ad : Nat → Nat} {u : MS} {sz : Nat} {v0 : Int32} {x : MS × Int32} (hM : cl[iM]? = some (R_M, F_M, 171)) (hf : fm_M_isDigit N u v0 = some x) : Met l y_M_isDigit (wd_ws y_M_isDigit b_M_isDigit 1 (some .boolean)) rm_M_isDigit (mPc D cl cB cI cJ cZ cS iM h0 ad u sz [.int v0]) (mQi D cl cB cI cJ cZ cS iM h0 ad (mA cB cI cJ cZ cS iM h0 ad u sz) x) 0 0 (mA cB cI cJ cZ cS iM h0 ad u sz) :=
  mMet (by decide) rfl hM (Nat.le_of_ble_eq_true rfl) (fun p e s m below meth c ls hsz C0 hP hD hS hl => by
    have hR : rm_M_isDigit = rm_M_isDigit := rfl
    exact wb_M_isDigit_0 C0 hR N () trivial u _ x hf s.heap [] hP hD hS ls (lv_sub hl [0] rfl))
abbrev b_M_isInner : ByteArray := prog_14_method_8_code
def y_M_isInner : MethodName := ⟨R_M, "isInner", "(I)Z"⟩
def w_M_isInner : List Cond := wd_ws y_M_isInner b_M_isInner 1 (some .boolean)
set_option maxRecDepth 100000 in
theorem k_M_isInner : Cond.code y_M_isInner b_M_isInner 1 (some .boolean) ∈ wd_tbl := wd_of 2667 rfl rfl
theorem d_M_isInner_0 : decode b_M_isInner 0 = .ok (.iload_n 0, 1) := by decide +kernel
theorem d_M_isInner_1 : decode b_M_isInner 1 = .ok (.invokestatic 375, 3) := by decide +kernel
theorem d_M_isInner_4 : decode b_M_isInner 4 = .ok (.ifCond .ne 17, 3) := by decide +kernel
theorem d_M_isInner_7 : decode b_M_isInner 7 = .ok (.iload_n 0, 1) := by decide +kernel
theorem d_M_isInner_8 : decode b_M_isInner 8 = .ok (.invokestatic 379, 3) := by decide +kernel
theorem d_M_isInner_11 : decode b_M_isInner 11 = .ok (.ifCond .ne 10, 3) := by decide +kernel
theorem d_M_isInner_14 : decode b_M_isInner 14 = .ok (.iload_n 0, 1) := by decide +kernel
theorem d_M_isInner_15 : decode b_M_isInner 15 = .ok (.invokestatic 382, 3) := by decide +kernel
theorem d_M_isInner_18 : decode b_M_isInner 18 = .ok (.ifCond .eq 7, 3) := by decide +kernel
theorem d_M_isInner_21 : decode b_M_isInner 21 = .ok (.iconst 1, 1) := by decide +kernel
theorem d_M_isInner_22 : decode b_M_isInner 22 = .ok (.goto 4, 3) := by decide +kernel
theorem d_M_isInner_25 : decode b_M_isInner 25 = .ok (.iconst 0, 1) := by decide +kernel
theorem d_M_isInner_26 : decode b_M_isInner 26 = .ok (.ireturn, 1) := by decide +kernel
set_option maxRecDepth 100000 in
theorem hl_M_isInner : Cond.methodLink R_M 435 y_M_isInner ∈ wd_tbl := wd_of 2665 (by decide +kernel) rfl
set_option maxRecDepth 100000 in
theorem ht_M_isInner : Cond.static y_M_isInner ∈ wd_tbl := wd_of 2666 (by decide +kernel) rfl
theorem hd_M_isInner : y_M_isInner.cls = R_M ∧ y_M_isInner.cls ≠ "java/lang/invoke/MethodHandle" ∧ y_M_isInner.cls ≠ "java/lang/invoke/VarHandle" ∧ (parseMethodDescriptor y_M_isInner.desc).map (fun d => d.parameters.length) = some 1 := by decide +kernel
def rm_M_isInner : Room := { frames := 1, cells := 0, slots := 0, locals := 20 }
theorem rm_M_isInner_M_isSmall {R : Room} (hR : R = rm_M_isInner) : (rm_M_isSmall).frames + 1 ≤ R.frames ∧ 8 + (1 + 11) + (rm_M_isSmall).locals ≤ R.locals := by subst hR; decide
theorem rm_M_isInner_M_isGreat {R : Room} (hR : R = rm_M_isInner) : (rm_M_isGreat).frames + 1 ≤ R.frames ∧ 8 + (1 + 11) + (rm_M_isGreat).locals ≤ R.locals := by subst hR; decide
theorem rm_M_isInner_M_isDigit {R : Room} (hR : R = rm_M_isInner) : (rm_M_isDigit).frames + 1 ≤ R.frames ∧ 8 + (1 + 11) + (rm_M_isDigit).locals ≤ R.locals := by subst hR; decide
def fb_M_isInner_26 (N : Nat) (G : Unit) (u : MS) (t0 : Int32) : Option (MS × Int32) := ck (isb t0) (some (u, t0))
set_option maxRecDepth 100000 in
set_option maxHeartbeats 4000000 in
theorem wb_M_isInner_26 {p : Program} {l : Launch} {e : Env} {R : Room} {s : State} {m : MethodId} {args : Array Value} {below : List Frame} {meth : Method} {c : Code} {D : va_G} {cl : List vw_C} {cB cI cJ cZ cS : ClassId} {A : Nat → Prop} {iM h0 : Nat} {ad : Nat → Nat} (C0 : MCx p s m args meth c b_M_isInner 1 (some .boolean) D cl cB cI cJ cZ cS iM A) (hR : R = rm_M_isInner) (N : Nat) (G : Unit) (hG : True) : ∀ (u : MS) (t0 : Int32) (x : MS × Int32), fb_M_isInner_26 N G u t0 = some x → ∀ (H : Heap) (locs : List Loc), va_P D cl (wM cB cI cJ cZ cS iM h0 ad u) H → va_D A (wM cB cI cJ cZ cS iM h0 ad u) → va_S A s.heap H locs → ∀ (ls : Array Slot), lv_has ls 1 [] → W p l e R s m args below meth c H locs 0 0 (MQ below (mQi D cl cB cI cJ cZ cS iM h0 ad A x) args s 0 0 A) (F0 m 26 ls [.int t0]) := by
  intro u t0 x hf H locs hP hD hS ls hl
  obtain ⟨hx, hb, hr, hml, ht, hown, hM, hK, hA, hlocks⟩ := id C0
  unfold fb_M_isInner_26 at hf
  obtain ⟨hz, hf⟩ := ck_some hf
  exact mr_z C0 hP hD hS hz hf d_M_isInner_26
def fb_M_isInner_21 (N : Nat) (G : Unit) (u : MS) : Option (MS × Int32) := fb_M_isInner_26 N G u (1)
set_option maxRecDepth 100000 in
set_option maxHeartbeats 4000000 in
theorem wb_M_isInner_21 {p : Program} {l : Launch} {e : Env} {R : Room} {s : State} {m : MethodId} {args : Array Value} {below : List Frame} {meth : Method} {c : Code} {D : va_G} {cl : List vw_C} {cB cI cJ cZ cS : ClassId} {A : Nat → Prop} {iM h0 : Nat} {ad : Nat → Nat} (C0 : MCx p s m args meth c b_M_isInner 1 (some .boolean) D cl cB cI cJ cZ cS iM A) (hR : R = rm_M_isInner) (N : Nat) (G : Unit) (hG : True) : ∀ (u : MS) (x : MS × Int32), fb_M_isInner_21 N G u = some x → ∀ (H : Heap) (locs : List Loc), va_P D cl (wM cB cI cJ cZ cS iM h0 ad u) H → va_D A (wM cB cI cJ cZ cS iM h0 ad u) → va_S A s.heap H locs → ∀ (ls : Array Slot), lv_has ls 1 [] → W p l e R s m args below meth c H locs 0 0 (MQ below (mQi D cl cB cI cJ cZ cS iM h0 ad A x) args s 0 0 A) (F0 m 21 ls []) := by
  intro u x hf H locs hP hD hS ls hl
  obtain ⟨hx, hb, hr, hml, ht, hown, hM, hK, hA, hlocks⟩ := id C0
  unfold fb_M_isInner_21 at hf
  refine lv_iconst (v := 1) hx hb d_M_isInner_21 (by decide) ?_
  refine lv_goto (tgt := 26) hx hb d_M_isInner_22 (by decide) ?_
  exact wb_M_isInner_26 C0 hR N G hG _ _ _ hf H locs hP hD hS ls (lv_sub hl [] rfl)
def fb_M_isInner_0 (N : Nat) (G : Unit) (u : MS) (v0 : Int32) : Option (MS × Int32) := bnd (fm_M_isSmall N u v0) (fun u1 r1 => br (decide (r1 = 0)) (bnd (fm_M_isGreat N u1 v0) (fun u2 r2 => br (decide (r2 = 0)) (bnd (fm_M_isDigit N u2 v0) (fun u3 r3 => br (decide (r3 = 0)) (fb_M_isInner_26 N G u3 (0)) (fb_M_isInner_21 N G u3))) (fb_M_isInner_21 N G u2))) (fb_M_isInner_21 N G u1))
set_option maxRecDepth 100000 in
set_option maxHeartbeats 4000000 in
theorem wb_M_isInner_0 {p : Program} {l : Launch} {e : Env} {R : Room} {s : State} {m : MethodId} {args : Array Value} {below : List Frame} {meth : Method} {c : Code} {D : va_G} {cl : List vw_C} {cB cI cJ cZ cS : ClassId} {A : Nat → Prop} {iM h0 : Nat} {ad : Nat → Nat} (C0 : MCx p s m args meth c b_M_isInner 1 (some .boolean) D cl cB cI cJ cZ cS iM A) (hR : R = rm_M_isInner) (N : Nat) (G : Unit) (hG : True) : ∀ (u : MS) (v0 : Int32) (x : MS × Int32), fb_M_isInner_0 N G u v0 = some x → ∀ (H : Heap) (locs : List Loc), va_P D cl (wM cB cI cJ cZ cS iM h0 ad u) H → va_D A (wM cB cI cJ cZ cS iM h0 ad u) → va_S A s.heap H locs → ∀ (ls : Array Slot), lv_has ls 1 [(0, .int v0)] → W p l e R s m args below meth c H locs 0 0 (MQ below (mQi D cl cB cI cJ cZ cS iM h0 ad A x) args s 0 0 A) (F0 m 0 ls []) := by
  intro u v0 x hf H locs hP hD hS ls hl
  obtain ⟨hx, hb, hr, hml, ht, hown, hM, hK, hA, hlocks⟩ := id C0
  unfold fb_M_isInner_0 at hf
  refine lv_iload_n hx hb d_M_isInner_0 rfl (lv_at hl 0 rfl) ?_
  obtain ⟨u1, r1, hc1, hf⟩ := bnd_some hf
  refine mS_i (As := [.int v0]) (rest := []) C0 hP hD hS (c_M_isSmall N hM hc1) k_M_isSmall hl_M_isSmall ht_M_isSmall hini_M rfl rfl hd_M_isSmall rfl (rm_M_isInner_M_isSmall hR) hl.1 (Nat.le_of_ble_eq_true rfl) d_M_isInner_1 rfl ⟨Nat.zero_le _, Nat.zero_le _⟩ (fun H locs hP hD hS => ?_)
  refine lv_if_ne (tgt := 21) hx hb d_M_isInner_4 (by decide) (fun hc => ?_) (fun hc => ?_)
  · rw [br_n _ hc] at hf
    exact wb_M_isInner_21 C0 hR N G hG _ _ hf H locs hP hD hS ls (lv_sub hl [] rfl)
  · rw [br_p _ hc] at hf
    refine lv_iload_n hx hb d_M_isInner_7 rfl (lv_at hl 0 rfl) ?_
    obtain ⟨u2, r2, hc2, hf⟩ := bnd_some hf
    refine mS_i (As := [.int v0]) (rest := []) C0 hP hD hS (c_M_isGreat N hM hc2) k_M_isGreat hl_M_isGreat ht_M_isGreat hini_M rfl rfl hd_M_isGreat rfl (rm_M_isInner_M_isGreat hR) hl.1 (Nat.le_of_ble_eq_true rfl) d_M_isInner_8 rfl ⟨Nat.zero_le _, Nat.zero_le _⟩ (fun H locs hP hD hS => ?_)
    refine lv_if_ne (tgt := 21) hx hb d_M_isInner_11 (by decide) (fun hc => ?_) (fun hc => ?_)
    · rw [br_n _ hc] at hf
      exact wb_M_isInner_21 C0 hR N G hG _ _ hf H locs hP hD hS ls (lv_sub hl [] rfl)
    · rw [br_p _ hc] at hf
      refine lv_iload_n hx hb d_M_isInner_14 rfl (lv_at hl 0 rfl) ?_
      obtain ⟨u3, r3, hc3, hf⟩ := bnd_some hf
      refine mS_i (As := [.int v0]) (rest := []) C0 hP hD hS (c_M_isDigit N hM hc3) k_M_isDigit hl_M_isDigit ht_M_isDigit hini_M rfl rfl hd_M_isDigit rfl (rm_M_isInner_M_isDigit hR) hl.1 (Nat.le_of_ble_eq_true rfl) d_M_isInner_15 rfl ⟨Nat.zero_le _, Nat.zero_le _⟩ (fun H locs hP hD hS => ?_)
      refine lv_if_eq (tgt := 25) hx hb d_M_isInner_18 (by decide) (fun hc => ?_) (fun hc => ?_)
      · rw [br_p _ hc] at hf
        refine lv_iconst (v := 0) hx hb d_M_isInner_25 (by decide) ?_
        exact wb_M_isInner_26 C0 hR N G hG _ _ _ hf H locs hP hD hS ls (lv_sub hl [] rfl)
      · rw [br_n _ hc] at hf
        exact wb_M_isInner_21 C0 hR N G hG _ _ hf H locs hP hD hS ls (lv_sub hl [] rfl)
def fm_M_isInner (N : Nat) (u : MS) (v0 : Int32) : Option (MS × Int32) := fb_M_isInner_0 N () u v0
set_option maxRecDepth 100000 in
set_option maxHeartbeats 4000000 in
theorem c_M_isInner (N : Nat) {l : Launch} {D : va_G} {cl : List vw_C} {cB cI cJ cZ cS : ClassId} {iM h0 : Nat} {ad : Nat → Nat} {u : MS} {sz : Nat} {v0 : Int32} {x : MS × Int32} (hM : cl[iM]? = some (R_M, F_M, 171)) (hf : fm_M_isInner N u v0 = some x) : Met l y_M_isInner (wd_ws y_M_isInner b_M_isInner 1 (some .boolean)) rm_M_isInner (mPc D cl cB cI cJ cZ cS iM h0 ad u sz [.int v0]) (mQi D cl cB cI cJ cZ cS iM h0 ad (mA cB cI cJ cZ cS iM h0 ad u sz) x) 0 0 (mA cB cI cJ cZ cS iM h0 ad u sz) :=
  mMet (by decide) rfl hM (Nat.le_of_ble_eq_true rfl) (fun p e s m below meth c ls hsz C0 hP hD hS hl => by
    have hR : rm_M_isInner = rm_M_isInner := rfl
    exact wb_M_isInner_0 C0 hR N () trivial u _ x hf s.heap [] hP hD hS ls (lv_sub hl [0] rfl))
abbrev b_M_byteAt : ByteArray := prog_14_method_9_code
def y_M_byteAt : MethodName := ⟨R_M, "byteAt", "(I)I"⟩
def w_M_byteAt : List Cond := wd_ws y_M_byteAt b_M_byteAt 2 (some .int)
set_option maxRecDepth 100000 in
theorem k_M_byteAt : Cond.code y_M_byteAt b_M_byteAt 2 (some .int) ∈ wd_tbl := wd_of 2654 rfl rfl
theorem d_M_byteAt_0 : decode b_M_byteAt 0 = .ok (.iload_n 1, 1) := by decide +kernel
theorem d_M_byteAt_1 : decode b_M_byteAt 1 = .ok (.aload_n 0, 1) := by decide +kernel
theorem d_M_byteAt_2 : decode b_M_byteAt 2 = .ok (.getfield 372, 3) := by decide +kernel
theorem d_M_byteAt_5 : decode b_M_byteAt 5 = .ok (.if_icmp .ge 16, 3) := by decide +kernel
theorem d_M_byteAt_8 : decode b_M_byteAt 8 = .ok (.aload_n 0, 1) := by decide +kernel
theorem d_M_byteAt_9 : decode b_M_byteAt 9 = .ok (.getfield 19, 3) := by decide +kernel
theorem d_M_byteAt_12 : decode b_M_byteAt 12 = .ok (.iload_n 1, 1) := by decide +kernel
theorem d_M_byteAt_13 : decode b_M_byteAt 13 = .ok (.baload, 1) := by decide +kernel
theorem d_M_byteAt_14 : decode b_M_byteAt 14 = .ok (.sipush 255, 3) := by decide +kernel
theorem d_M_byteAt_17 : decode b_M_byteAt 17 = .ok (.iand, 1) := by decide +kernel
theorem d_M_byteAt_18 : decode b_M_byteAt 18 = .ok (.goto 4, 3) := by decide +kernel
theorem d_M_byteAt_21 : decode b_M_byteAt 21 = .ok (.iconst (-1), 1) := by decide +kernel
theorem d_M_byteAt_22 : decode b_M_byteAt 22 = .ok (.ireturn, 1) := by decide +kernel
set_option maxRecDepth 100000 in
theorem hl_M_byteAt : Cond.methodLink R_M 414 y_M_byteAt ∈ wd_tbl := wd_of 2651 (by decide +kernel) rfl
set_option maxRecDepth 100000 in
theorem hi_M_byteAt : Cond.instanceMethod y_M_byteAt ∈ wd_tbl := wd_of 2653 (by decide +kernel) rfl
set_option maxRecDepth 100000 in
theorem hs_M_byteAt : Cond.selects R_M y_M_byteAt y_M_byteAt ∈ wd_tbl := wd_of 129 (by decide +kernel) rfl
theorem hd_M_byteAt : y_M_byteAt.cls = R_M ∧ y_M_byteAt.cls ≠ "java/lang/invoke/MethodHandle" ∧ y_M_byteAt.cls ≠ "java/lang/invoke/VarHandle" ∧ (parseMethodDescriptor y_M_byteAt.desc).map (fun d => d.parameters.length) = some 1 := by decide +kernel
def rm_M_byteAt : Room := { frames := 0, cells := 0, slots := 0, locals := 0 }
def fb_M_byteAt_22 (N : Nat) (G : Unit) (u : MS) (t0 : Int32) : Option (MS × Int32) := some (u, t0)
set_option maxRecDepth 100000 in
set_option maxHeartbeats 4000000 in
theorem wb_M_byteAt_22 {p : Program} {l : Launch} {e : Env} {R : Room} {s : State} {m : MethodId} {args : Array Value} {below : List Frame} {meth : Method} {c : Code} {D : va_G} {cl : List vw_C} {cB cI cJ cZ cS : ClassId} {A : Nat → Prop} {iM h0 : Nat} {ad : Nat → Nat} (C0 : MCx p s m args meth c b_M_byteAt 2 (some .int) D cl cB cI cJ cZ cS iM A) (hR : R = rm_M_byteAt) (N : Nat) (G : Unit) (hG : True) : ∀ (u : MS) (t0 : Int32) (x : MS × Int32), fb_M_byteAt_22 N G u t0 = some x → ∀ (H : Heap) (locs : List Loc), va_P D cl (wM cB cI cJ cZ cS iM h0 ad u) H → va_D A (wM cB cI cJ cZ cS iM h0 ad u) → va_S A s.heap H locs → ∀ (ls : Array Slot), lv_has ls 2 [] → W p l e R s m args below meth c H locs 0 0 (MQ below (mQi D cl cB cI cJ cZ cS iM h0 ad A x) args s 0 0 A) (F0 m 22 ls [.int t0]) := by
  intro u t0 x hf H locs hP hD hS ls hl
  obtain ⟨hx, hb, hr, hml, ht, hown, hM, hK, hA, hlocks⟩ := id C0
  unfold fb_M_byteAt_22 at hf
  exact mr_i C0 hP hD hS hf d_M_byteAt_22
def fb_M_byteAt_0 (N : Nat) (G : Unit) (u : MS) (v1 : Int32) : Option (MS × Int32) := br (decide ((u.1 5) ≤ v1)) (fb_M_byteAt_22 N G u ((-1))) (ck (inb v1 (ln 4)) (fb_M_byteAt_22 N G u (((u.2.2.1 4 v1.toNatClampNeg) &&& 255))))
set_option maxRecDepth 100000 in
set_option maxHeartbeats 4000000 in
theorem wb_M_byteAt_0 {p : Program} {l : Launch} {e : Env} {R : Room} {s : State} {m : MethodId} {args : Array Value} {below : List Frame} {meth : Method} {c : Code} {D : va_G} {cl : List vw_C} {cB cI cJ cZ cS : ClassId} {A : Nat → Prop} {iM h0 : Nat} {ad : Nat → Nat} (C0 : MCx p s m args meth c b_M_byteAt 2 (some .int) D cl cB cI cJ cZ cS iM A) (hR : R = rm_M_byteAt) (N : Nat) (G : Unit) (hG : True) : ∀ (u : MS) (v1 : Int32) (x : MS × Int32), fb_M_byteAt_0 N G u v1 = some x → ∀ (H : Heap) (locs : List Loc), va_P D cl (wM cB cI cJ cZ cS iM h0 ad u) H → va_D A (wM cB cI cJ cZ cS iM h0 ad u) → va_S A s.heap H locs → ∀ (ls : Array Slot), lv_has ls 2 [(0, .ref h0), (1, .int v1)] → W p l e R s m args below meth c H locs 0 0 (MQ below (mQi D cl cB cI cJ cZ cS iM h0 ad A x) args s 0 0 A) (F0 m 0 ls []) := by
  intro u v1 x hf H locs hP hD hS ls hl
  obtain ⟨hx, hb, hr, hml, ht, hown, hM, hK, hA, hlocks⟩ := id C0
  unfold fb_M_byteAt_0 at hf
  refine lv_iload_n hx hb d_M_byteAt_0 rfl (lv_at hl 1 rfl) ?_
  refine lv_aload_n hx hb d_M_byteAt_1 rfl (lv_at hl 0 rfl) ?_
  refine ug_I hx hb ht hown hM hK hP 5 (by decide) lk_M_5 (by decide) d_M_byteAt_2 ?_
  refine lv_icmp_ge (tgt := 21) hx hb d_M_byteAt_5 (by decide) (fun hc => ?_) (fun hc => ?_)
  · rw [br_p _ hc] at hf
    refine lv_iconst (v := (-1)) hx hb d_M_byteAt_21 (by decide) ?_
    exact wb_M_byteAt_22 C0 hR N G hG _ _ _ hf H locs hP hD hS ls (lv_sub hl [] rfl)
  · rw [br_n _ hc] at hf
    refine lv_aload_n hx hb d_M_byteAt_8 rfl (lv_at hl 0 rfl) ?_
    refine ug_R hx hb ht hown hM hK hP 4 (by decide) lk_M_4 (by decide) d_M_byteAt_9 ?_
    refine lv_iload_n hx hb d_M_byteAt_12 rfl (lv_at hl 1 rfl) ?_
    obtain ⟨hi9, hf⟩ := ck_some hf
    refine ul_B hx hb hK hP (by decide) (by decide) hi9 d_M_byteAt_13 ?_
    refine lv_sipush (v := 255) hx hb d_M_byteAt_14 (by decide) ?_
    refine lv_iand hx hb d_M_byteAt_17 ?_
    refine lv_goto (tgt := 22) hx hb d_M_byteAt_18 (by decide) ?_
    exact wb_M_byteAt_22 C0 hR N G hG _ _ _ hf H locs hP hD hS ls (lv_sub hl [] rfl)
def fm_M_byteAt (N : Nat) (u : MS) (v1 : Int32) : Option (MS × Int32) := fb_M_byteAt_0 N () u v1
set_option maxRecDepth 100000 in
set_option maxHeartbeats 4000000 in
theorem c_M_byteAt (N : Nat) {l : Launch} {D : va_G} {cl : List vw_C} {cB cI cJ cZ cS : ClassId} {iM h0 : Nat} {ad : Nat → Nat} {u : MS} {sz : Nat} {v1 : Int32} {x : MS × Int32} (hM : cl[iM]? = some (R_M, F_M, 171)) (hf : fm_M_byteAt N u v1 = some x) : Met l y_M_byteAt (wd_ws y_M_byteAt b_M_byteAt 2 (some .int)) rm_M_byteAt (mPc D cl cB cI cJ cZ cS iM h0 ad u sz [.ref h0, .int v1]) (mQi D cl cB cI cJ cZ cS iM h0 ad (mA cB cI cJ cZ cS iM h0 ad u sz) x) 0 0 (mA cB cI cJ cZ cS iM h0 ad u sz) :=
  mMet (by decide) rfl hM (Nat.le_of_ble_eq_true rfl) (fun p e s m below meth c ls hsz C0 hP hD hS hl => by
    have hR : rm_M_byteAt = rm_M_byteAt := rfl
    exact wb_M_byteAt_0 C0 hR N () trivial u _ x hf s.heap [] hP hD hS ls (lv_sub hl [0, 1] rfl))
abbrev b_M_textOf : ByteArray := prog_14_method_10_code
def y_M_textOf : MethodName := ⟨R_M, "textOf", "([B[II[BII)I"⟩
def w_M_textOf : List Cond := wd_ws y_M_textOf b_M_textOf 9 (some .int)
set_option maxRecDepth 100000 in
theorem k_M_textOf : Cond.code y_M_textOf b_M_textOf 9 (some .int) ∈ wd_tbl := wd_of 2650 rfl rfl
theorem d_M_textOf_0 : decode b_M_textOf 0 = .ok (.iconst 0, 1) := by decide +kernel
theorem d_M_textOf_1 : decode b_M_textOf 1 = .ok (.istore 6, 2) := by decide +kernel
theorem d_M_textOf_3 : decode b_M_textOf 3 = .ok (.iload 6, 2) := by decide +kernel
theorem d_M_textOf_5 : decode b_M_textOf 5 = .ok (.iload_n 2, 1) := by decide +kernel
theorem d_M_textOf_6 : decode b_M_textOf 6 = .ok (.if_icmp .ge 87, 3) := by decide +kernel
theorem d_M_textOf_9 : decode b_M_textOf 9 = .ok (.aload_n 1, 1) := by decide +kernel
theorem d_M_textOf_10 : decode b_M_textOf 10 = .ok (.iload 6, 2) := by decide +kernel
theorem d_M_textOf_12 : decode b_M_textOf 12 = .ok (.iconst 1, 1) := by decide +kernel
theorem d_M_textOf_13 : decode b_M_textOf 13 = .ok (.iadd, 1) := by decide +kernel
theorem d_M_textOf_14 : decode b_M_textOf 14 = .ok (.iaload, 1) := by decide +kernel
theorem d_M_textOf_15 : decode b_M_textOf 15 = .ok (.aload_n 1, 1) := by decide +kernel
theorem d_M_textOf_16 : decode b_M_textOf 16 = .ok (.iload 6, 2) := by decide +kernel
theorem d_M_textOf_18 : decode b_M_textOf 18 = .ok (.iaload, 1) := by decide +kernel
theorem d_M_textOf_19 : decode b_M_textOf 19 = .ok (.isub, 1) := by decide +kernel
theorem d_M_textOf_20 : decode b_M_textOf 20 = .ok (.iload 5, 2) := by decide +kernel
theorem d_M_textOf_22 : decode b_M_textOf 22 = .ok (.if_icmp .ne 7, 3) := by decide +kernel
theorem d_M_textOf_25 : decode b_M_textOf 25 = .ok (.iconst 1, 1) := by decide +kernel
theorem d_M_textOf_26 : decode b_M_textOf 26 = .ok (.goto 4, 3) := by decide +kernel
theorem d_M_textOf_29 : decode b_M_textOf 29 = .ok (.iconst 0, 1) := by decide +kernel
theorem d_M_textOf_30 : decode b_M_textOf 30 = .ok (.istore 7, 2) := by decide +kernel
theorem d_M_textOf_32 : decode b_M_textOf 32 = .ok (.iconst 0, 1) := by decide +kernel
theorem d_M_textOf_33 : decode b_M_textOf 33 = .ok (.istore 8, 2) := by decide +kernel
theorem d_M_textOf_35 : decode b_M_textOf 35 = .ok (.iload 8, 2) := by decide +kernel
theorem d_M_textOf_37 : decode b_M_textOf 37 = .ok (.iload 5, 2) := by decide +kernel
theorem d_M_textOf_39 : decode b_M_textOf 39 = .ok (.if_icmp .ge 40, 3) := by decide +kernel
theorem d_M_textOf_42 : decode b_M_textOf 42 = .ok (.iload 7, 2) := by decide +kernel
theorem d_M_textOf_44 : decode b_M_textOf 44 = .ok (.ifCond .eq 35, 3) := by decide +kernel
theorem d_M_textOf_47 : decode b_M_textOf 47 = .ok (.aload_n 0, 1) := by decide +kernel
theorem d_M_textOf_48 : decode b_M_textOf 48 = .ok (.aload_n 1, 1) := by decide +kernel
theorem d_M_textOf_49 : decode b_M_textOf 49 = .ok (.iload 6, 2) := by decide +kernel
theorem d_M_textOf_51 : decode b_M_textOf 51 = .ok (.iaload, 1) := by decide +kernel
theorem d_M_textOf_52 : decode b_M_textOf 52 = .ok (.iload 8, 2) := by decide +kernel
theorem d_M_textOf_54 : decode b_M_textOf 54 = .ok (.iadd, 1) := by decide +kernel
theorem d_M_textOf_55 : decode b_M_textOf 55 = .ok (.baload, 1) := by decide +kernel
theorem d_M_textOf_56 : decode b_M_textOf 56 = .ok (.aload_n 3, 1) := by decide +kernel
theorem d_M_textOf_57 : decode b_M_textOf 57 = .ok (.iload 4, 2) := by decide +kernel
theorem d_M_textOf_59 : decode b_M_textOf 59 = .ok (.iload 8, 2) := by decide +kernel
theorem d_M_textOf_61 : decode b_M_textOf 61 = .ok (.iadd, 1) := by decide +kernel
theorem d_M_textOf_62 : decode b_M_textOf 62 = .ok (.baload, 1) := by decide +kernel
theorem d_M_textOf_63 : decode b_M_textOf 63 = .ok (.if_icmp .ne 7, 3) := by decide +kernel
theorem d_M_textOf_66 : decode b_M_textOf 66 = .ok (.iconst 1, 1) := by decide +kernel
theorem d_M_textOf_67 : decode b_M_textOf 67 = .ok (.goto 4, 3) := by decide +kernel
theorem d_M_textOf_70 : decode b_M_textOf 70 = .ok (.iconst 0, 1) := by decide +kernel
theorem d_M_textOf_71 : decode b_M_textOf 71 = .ok (.istore 7, 2) := by decide +kernel
theorem d_M_textOf_73 : decode b_M_textOf 73 = .ok (.iinc 8 1, 3) := by decide +kernel
theorem d_M_textOf_76 : decode b_M_textOf 76 = .ok (.goto (-41), 3) := by decide +kernel
theorem d_M_textOf_79 : decode b_M_textOf 79 = .ok (.iload 7, 2) := by decide +kernel
theorem d_M_textOf_81 : decode b_M_textOf 81 = .ok (.ifCond .eq 6, 3) := by decide +kernel
theorem d_M_textOf_84 : decode b_M_textOf 84 = .ok (.iload 6, 2) := by decide +kernel
theorem d_M_textOf_86 : decode b_M_textOf 86 = .ok (.ireturn, 1) := by decide +kernel
theorem d_M_textOf_87 : decode b_M_textOf 87 = .ok (.iinc 6 1, 3) := by decide +kernel
theorem d_M_textOf_90 : decode b_M_textOf 90 = .ok (.goto (-87), 3) := by decide +kernel
theorem d_M_textOf_93 : decode b_M_textOf 93 = .ok (.iconst 0, 1) := by decide +kernel
theorem d_M_textOf_94 : decode b_M_textOf 94 = .ok (.istore 6, 2) := by decide +kernel
theorem d_M_textOf_96 : decode b_M_textOf 96 = .ok (.iload 6, 2) := by decide +kernel
theorem d_M_textOf_98 : decode b_M_textOf 98 = .ok (.iload 5, 2) := by decide +kernel
theorem d_M_textOf_100 : decode b_M_textOf 100 = .ok (.if_icmp .ge 24, 3) := by decide +kernel
theorem d_M_textOf_103 : decode b_M_textOf 103 = .ok (.aload_n 0, 1) := by decide +kernel
theorem d_M_textOf_104 : decode b_M_textOf 104 = .ok (.aload_n 1, 1) := by decide +kernel
theorem d_M_textOf_105 : decode b_M_textOf 105 = .ok (.iload_n 2, 1) := by decide +kernel
theorem d_M_textOf_106 : decode b_M_textOf 106 = .ok (.iaload, 1) := by decide +kernel
theorem d_M_textOf_107 : decode b_M_textOf 107 = .ok (.iload 6, 2) := by decide +kernel
theorem d_M_textOf_109 : decode b_M_textOf 109 = .ok (.iadd, 1) := by decide +kernel
theorem d_M_textOf_110 : decode b_M_textOf 110 = .ok (.aload_n 3, 1) := by decide +kernel
theorem d_M_textOf_111 : decode b_M_textOf 111 = .ok (.iload 4, 2) := by decide +kernel
theorem d_M_textOf_113 : decode b_M_textOf 113 = .ok (.iload 6, 2) := by decide +kernel
theorem d_M_textOf_115 : decode b_M_textOf 115 = .ok (.iadd, 1) := by decide +kernel
theorem d_M_textOf_116 : decode b_M_textOf 116 = .ok (.baload, 1) := by decide +kernel
theorem d_M_textOf_117 : decode b_M_textOf 117 = .ok (.bastore, 1) := by decide +kernel
theorem d_M_textOf_118 : decode b_M_textOf 118 = .ok (.iinc 6 1, 3) := by decide +kernel
theorem d_M_textOf_121 : decode b_M_textOf 121 = .ok (.goto (-25), 3) := by decide +kernel
theorem d_M_textOf_124 : decode b_M_textOf 124 = .ok (.aload_n 1, 1) := by decide +kernel
theorem d_M_textOf_125 : decode b_M_textOf 125 = .ok (.iload_n 2, 1) := by decide +kernel
theorem d_M_textOf_126 : decode b_M_textOf 126 = .ok (.iconst 1, 1) := by decide +kernel
theorem d_M_textOf_127 : decode b_M_textOf 127 = .ok (.iadd, 1) := by decide +kernel
theorem d_M_textOf_128 : decode b_M_textOf 128 = .ok (.aload_n 1, 1) := by decide +kernel
theorem d_M_textOf_129 : decode b_M_textOf 129 = .ok (.iload_n 2, 1) := by decide +kernel
theorem d_M_textOf_130 : decode b_M_textOf 130 = .ok (.iaload, 1) := by decide +kernel
theorem d_M_textOf_131 : decode b_M_textOf 131 = .ok (.iload 5, 2) := by decide +kernel
theorem d_M_textOf_133 : decode b_M_textOf 133 = .ok (.iadd, 1) := by decide +kernel
theorem d_M_textOf_134 : decode b_M_textOf 134 = .ok (.iastore, 1) := by decide +kernel
theorem d_M_textOf_135 : decode b_M_textOf 135 = .ok (.iload_n 2, 1) := by decide +kernel
theorem d_M_textOf_136 : decode b_M_textOf 136 = .ok (.ireturn, 1) := by decide +kernel
set_option maxRecDepth 100000 in
theorem hl_M_textOf : Cond.methodLink R_M 388 y_M_textOf ∈ wd_tbl := wd_of 2648 (by decide +kernel) rfl
set_option maxRecDepth 100000 in
theorem ht_M_textOf : Cond.static y_M_textOf ∈ wd_tbl := wd_of 2649 (by decide +kernel) rfl
theorem hd_M_textOf : y_M_textOf.cls = R_M ∧ y_M_textOf.cls ≠ "java/lang/invoke/MethodHandle" ∧ y_M_textOf.cls ≠ "java/lang/invoke/VarHandle" ∧ (parseMethodDescriptor y_M_textOf.desc).map (fun d => d.parameters.length) = some 6 := by decide +kernel
def rm_M_textOf : Room := { frames := 0, cells := 0, slots := 0, locals := 0 }
def fb_M_textOf_96 (N : Nat) (G : (MS → Nat → Nat → Int32 → Nat → Int32 → Int32 → Int32 → Option (MS × Int32)) × (MS → Nat → Nat → Int32 → Nat → Int32 → Int32 → Int32 → Int32 → Int32 → Option (MS × Int32)) × (MS → Nat → Nat → Int32 → Nat → Int32 → Int32 → Int32 → Option (MS × Int32))) (u : MS) (v0 : Nat) (v1 : Nat) (v2 : Int32) (v3 : Nat) (v4 : Int32) (v5 : Int32) (v6 : Int32) : Option (MS × Int32) := br (decide (v5 ≤ v6)) (ck (isK v1 4) (ck (inb v2 (ln v1)) (ck (isK v1 4) (ck (inb (v2 + 1) (ln v1)) (some ((upA u v1 (upd (u.2.2.1 v1) (v2 + 1).toNatClampNeg ((u.2.2.1 v1 v2.toNatClampNeg) + v5))), v2)))))) (ck (isK v1 4) (ck (inb v2 (ln v1)) (ck (isK v3 3) (ck (inb (v4 + v6) (ln v3)) (ck (isK v0 3) (ck (inb ((u.2.2.1 v1 v2.toNatClampNeg) + v6) (ln v0)) (G.2.2 (upA u v0 (upd (u.2.2.1 v0) ((u.2.2.1 v1 v2.toNatClampNeg) + v6).toNatClampNeg (vp_nar .byte (u.2.2.1 v3 (v4 + v6).toNatClampNeg)))) (v0) (v1) (v2) (v3) (v4) (v5) ((v6 + 1)))))))))
set_option maxRecDepth 100000 in
set_option maxHeartbeats 4000000 in
theorem wb_M_textOf_96 {p : Program} {l : Launch} {e : Env} {R : Room} {s : State} {m : MethodId} {args : Array Value} {below : List Frame} {meth : Method} {c : Code} {D : va_G} {cl : List vw_C} {cB cI cJ cZ cS : ClassId} {A : Nat → Prop} {iM h0 : Nat} {ad : Nat → Nat} (C0 : MCx p s m args meth c b_M_textOf 9 (some .int) D cl cB cI cJ cZ cS iM A) (hR : R = rm_M_textOf) (N : Nat) (G : (MS → Nat → Nat → Int32 → Nat → Int32 → Int32 → Int32 → Option (MS × Int32)) × (MS → Nat → Nat → Int32 → Nat → Int32 → Int32 → Int32 → Int32 → Int32 → Option (MS × Int32)) × (MS → Nat → Nat → Int32 → Nat → Int32 → Int32 → Int32 → Option (MS × Int32))) (hG : (∀ (u : MS) (v0 : Nat) (v1 : Nat) (v2 : Int32) (v3 : Nat) (v4 : Int32) (v5 : Int32) (v6 : Int32) (x : MS × Int32), G.1 u v0 v1 v2 v3 v4 v5 v6 = some x → ∀ (H : Heap) (locs : List Loc), va_P D cl (wM cB cI cJ cZ cS iM h0 ad u) H → va_D A (wM cB cI cJ cZ cS iM h0 ad u) → va_S A s.heap H locs → ∀ (ls : Array Slot), lv_has ls 9 [(0, .ref (ad v0)), (1, .ref (ad v1)), (2, .int v2), (3, .ref (ad v3)), (4, .int v4), (5, .int v5), (6, .int v6)] → W p l e R s m args below meth c H locs 0 0 (MQ below (mQi D cl cB cI cJ cZ cS iM h0 ad A x) args s 0 0 A) (F0 m 3 ls [])) ∧ (∀ (u : MS) (v0 : Nat) (v1 : Nat) (v2 : Int32) (v3 : Nat) (v4 : Int32) (v5 : Int32) (v6 : Int32) (v7 : Int32) (v8 : Int32) (x : MS × Int32), G.2.1 u v0 v1 v2 v3 v4 v5 v6 v7 v8 = some x → ∀ (H : Heap) (locs : List Loc), va_P D cl (wM cB cI cJ cZ cS iM h0 ad u) H → va_D A (wM cB cI cJ cZ cS iM h0 ad u) → va_S A s.heap H locs → ∀ (ls : Array Slot), lv_has ls 9 [(0, .ref (ad v0)), (1, .ref (ad v1)), (2, .int v2), (3, .ref (ad v3)), (4, .int v4), (5, .int v5), (6, .int v6), (7, .int v7), (8, .int v8)] → W p l e R s m args below meth c H locs 0 0 (MQ below (mQi D cl cB cI cJ cZ cS iM h0 ad A x) args s 0 0 A) (F0 m 35 ls [])) ∧ (∀ (u : MS) (v0 : Nat) (v1 : Nat) (v2 : Int32) (v3 : Nat) (v4 : Int32) (v5 : Int32) (v6 : Int32) (x : MS × Int32), G.2.2 u v0 v1 v2 v3 v4 v5 v6 = some x → ∀ (H : Heap) (locs : List Loc), va_P D cl (wM cB cI cJ cZ cS iM h0 ad u) H → va_D A (wM cB cI cJ cZ cS iM h0 ad u) → va_S A s.heap H locs → ∀ (ls : Array Slot), lv_has ls 9 [(0, .ref (ad v0)), (1, .ref (ad v1)), (2, .int v2), (3, .ref (ad v3)), (4, .int v4), (5, .int v5), (6, .int v6)] → W p l e R s m args below meth c H locs 0 0 (MQ below (mQi D cl cB cI cJ cZ cS iM h0 ad A x) args s 0 0 A) (F0 m 96 ls []))) : ∀ (u : MS) (v0 : Nat) (v1 : Nat) (v2 : Int32) (v3 : Nat) (v4 : Int32) (v5 : Int32) (v6 : Int32) (x : MS × Int32), fb_M_textOf_96 N G u v0 v1 v2 v3 v4 v5 v6 = some x → ∀ (H : Heap) (locs : List Loc), va_P D cl (wM cB cI cJ cZ cS iM h0 ad u) H → va_D A (wM cB cI cJ cZ cS iM h0 ad u) → va_S A s.heap H locs → ∀ (ls : Array Slot), lv_has ls 9 [(0, .ref (ad v0)), (1, .ref (ad v1)), (2, .int v2), (3, .ref (ad v3)), (4, .int v4), (5, .int v5), (6, .int v6)] → W p l e R s m args below meth c H locs 0 0 (MQ below (mQi D cl cB cI cJ cZ cS iM h0 ad A x) args s 0 0 A) (F0 m 96 ls []) := by
  intro u v0 v1 v2 v3 v4 v5 v6 x hf H locs hP hD hS ls hl
  obtain ⟨hx, hb, hr, hml, ht, hown, hM, hK, hA, hlocks⟩ := id C0
  unfold fb_M_textOf_96 at hf
  refine lv_iload hx hb d_M_textOf_96 (lv_at hl 6 rfl) ?_
  refine lv_iload hx hb d_M_textOf_98 (lv_at hl 5 rfl) ?_
  refine lv_icmp_ge (tgt := 124) hx hb d_M_textOf_100 (by decide) (fun hc => ?_) (fun hc => ?_)
  · rw [br_p _ hc] at hf
    refine lv_aload_n hx hb d_M_textOf_124 rfl (lv_at hl 1 rfl) ?_
    refine lv_iload_n hx hb d_M_textOf_125 rfl (lv_at hl 2 rfl) ?_
    refine lv_iconst (v := 1) hx hb d_M_textOf_126 (by decide) ?_
    refine lv_iadd hx hb d_M_textOf_127 ?_
    refine lv_aload_n hx hb d_M_textOf_128 rfl (lv_at hl 1 rfl) ?_
    refine lv_iload_n hx hb d_M_textOf_129 rfl (lv_at hl 2 rfl) ?_
    obtain ⟨hk9, hf⟩ := ck_some hf
    obtain ⟨hi9, hf⟩ := ck_some hf
    refine ul_I hx hb hK hP (isK_1 hk9) (isK_2 hk9) hi9 d_M_textOf_130 ?_
    refine lv_iload hx hb d_M_textOf_131 (lv_at hl 5 rfl) ?_
    refine lv_iadd hx hb d_M_textOf_133 ?_
    obtain ⟨hk9, hf⟩ := ck_some hf
    obtain ⟨hi9, hf⟩ := ck_some hf
    refine us_I hx hb hK hP hD hS (isK_1 hk9) (isK_2 hk9) hi9 d_M_textOf_134 (fun H locs hP hD hS => ?_)
    refine lv_iload_n hx hb d_M_textOf_135 rfl (lv_at hl 2 rfl) ?_
    exact mr_i C0 hP hD hS hf d_M_textOf_136
  · rw [br_n _ hc] at hf
    refine lv_aload_n hx hb d_M_textOf_103 rfl (lv_at hl 0 rfl) ?_
    refine lv_aload_n hx hb d_M_textOf_104 rfl (lv_at hl 1 rfl) ?_
    refine lv_iload_n hx hb d_M_textOf_105 rfl (lv_at hl 2 rfl) ?_
    obtain ⟨hk9, hf⟩ := ck_some hf
    obtain ⟨hi9, hf⟩ := ck_some hf
    refine ul_I hx hb hK hP (isK_1 hk9) (isK_2 hk9) hi9 d_M_textOf_106 ?_
    refine lv_iload hx hb d_M_textOf_107 (lv_at hl 6 rfl) ?_
    refine lv_iadd hx hb d_M_textOf_109 ?_
    refine lv_aload_n hx hb d_M_textOf_110 rfl (lv_at hl 3 rfl) ?_
    refine lv_iload hx hb d_M_textOf_111 (lv_at hl 4 rfl) ?_
    refine lv_iload hx hb d_M_textOf_113 (lv_at hl 6 rfl) ?_
    refine lv_iadd hx hb d_M_textOf_115 ?_
    obtain ⟨hk9, hf⟩ := ck_some hf
    obtain ⟨hi9, hf⟩ := ck_some hf
    refine ul_B hx hb hK hP (isK_1 hk9) (isK_2 hk9) hi9 d_M_textOf_116 ?_
    obtain ⟨hk9, hf⟩ := ck_some hf
    obtain ⟨hi9, hf⟩ := ck_some hf
    refine us_B hx hb hK hP hD hS (isK_1 hk9) (isK_2 hk9) hi9 d_M_textOf_117 (fun H locs hP hD hS => ?_)
    refine lv_iinc (v := (v6 + 1)) (lv' := [(6, .int (v6 + 1)), (0, .ref (ad v0)), (1, .ref (ad v1)), (2, .int v2), (3, .ref (ad v3)), (4, .int v4), (5, .int v5)]) hx hb d_M_textOf_118 hl (k := 6) rfl rfl (by decide) rfl (fun ls hl => ?_)
    refine lv_goto (tgt := 96) hx hb d_M_textOf_121 (by decide) ?_
    exact hG.2.2 _ _ _ _ _ _ _ _ _ hf H locs hP hD hS ls (lv_sub hl [1, 2, 3, 4, 5, 6, 0] rfl)
def fb_M_textOf_79 (N : Nat) (G : (MS → Nat → Nat → Int32 → Nat → Int32 → Int32 → Int32 → Option (MS × Int32)) × (MS → Nat → Nat → Int32 → Nat → Int32 → Int32 → Int32 → Int32 → Int32 → Option (MS × Int32)) × (MS → Nat → Nat → Int32 → Nat → Int32 → Int32 → Int32 → Option (MS × Int32))) (u : MS) (v0 : Nat) (v1 : Nat) (v2 : Int32) (v3 : Nat) (v4 : Int32) (v5 : Int32) (v6 : Int32) (v7 : Int32) : Option (MS × Int32) := br (decide (v7 = 0)) (G.1 u (v0) (v1) (v2) (v3) (v4) (v5) ((v6 + 1))) (some (u, v6))
set_option maxRecDepth 100000 in
set_option maxHeartbeats 4000000 in
theorem wb_M_textOf_79 {p : Program} {l : Launch} {e : Env} {R : Room} {s : State} {m : MethodId} {args : Array Value} {below : List Frame} {meth : Method} {c : Code} {D : va_G} {cl : List vw_C} {cB cI cJ cZ cS : ClassId} {A : Nat → Prop} {iM h0 : Nat} {ad : Nat → Nat} (C0 : MCx p s m args meth c b_M_textOf 9 (some .int) D cl cB cI cJ cZ cS iM A) (hR : R = rm_M_textOf) (N : Nat) (G : (MS → Nat → Nat → Int32 → Nat → Int32 → Int32 → Int32 → Option (MS × Int32)) × (MS → Nat → Nat → Int32 → Nat → Int32 → Int32 → Int32 → Int32 → Int32 → Option (MS × Int32)) × (MS → Nat → Nat → Int32 → Nat → Int32 → Int32 → Int32 → Option (MS × Int32))) (hG : (∀ (u : MS) (v0 : Nat) (v1 : Nat) (v2 : Int32) (v3 : Nat) (v4 : Int32) (v5 : Int32) (v6 : Int32) (x : MS × Int32), G.1 u v0 v1 v2 v3 v4 v5 v6 = some x → ∀ (H : Heap) (locs : List Loc), va_P D cl (wM cB cI cJ cZ cS iM h0 ad u) H → va_D A (wM cB cI cJ cZ cS iM h0 ad u) → va_S A s.heap H locs → ∀ (ls : Array Slot), lv_has ls 9 [(0, .ref (ad v0)), (1, .ref (ad v1)), (2, .int v2), (3, .ref (ad v3)), (4, .int v4), (5, .int v5), (6, .int v6)] → W p l e R s m args below meth c H locs 0 0 (MQ below (mQi D cl cB cI cJ cZ cS iM h0 ad A x) args s 0 0 A) (F0 m 3 ls [])) ∧ (∀ (u : MS) (v0 : Nat) (v1 : Nat) (v2 : Int32) (v3 : Nat) (v4 : Int32) (v5 : Int32) (v6 : Int32) (v7 : Int32) (v8 : Int32) (x : MS × Int32), G.2.1 u v0 v1 v2 v3 v4 v5 v6 v7 v8 = some x → ∀ (H : Heap) (locs : List Loc), va_P D cl (wM cB cI cJ cZ cS iM h0 ad u) H → va_D A (wM cB cI cJ cZ cS iM h0 ad u) → va_S A s.heap H locs → ∀ (ls : Array Slot), lv_has ls 9 [(0, .ref (ad v0)), (1, .ref (ad v1)), (2, .int v2), (3, .ref (ad v3)), (4, .int v4), (5, .int v5), (6, .int v6), (7, .int v7), (8, .int v8)] → W p l e R s m args below meth c H locs 0 0 (MQ below (mQi D cl cB cI cJ cZ cS iM h0 ad A x) args s 0 0 A) (F0 m 35 ls [])) ∧ (∀ (u : MS) (v0 : Nat) (v1 : Nat) (v2 : Int32) (v3 : Nat) (v4 : Int32) (v5 : Int32) (v6 : Int32) (x : MS × Int32), G.2.2 u v0 v1 v2 v3 v4 v5 v6 = some x → ∀ (H : Heap) (locs : List Loc), va_P D cl (wM cB cI cJ cZ cS iM h0 ad u) H → va_D A (wM cB cI cJ cZ cS iM h0 ad u) → va_S A s.heap H locs → ∀ (ls : Array Slot), lv_has ls 9 [(0, .ref (ad v0)), (1, .ref (ad v1)), (2, .int v2), (3, .ref (ad v3)), (4, .int v4), (5, .int v5), (6, .int v6)] → W p l e R s m args below meth c H locs 0 0 (MQ below (mQi D cl cB cI cJ cZ cS iM h0 ad A x) args s 0 0 A) (F0 m 96 ls []))) : ∀ (u : MS) (v0 : Nat) (v1 : Nat) (v2 : Int32) (v3 : Nat) (v4 : Int32) (v5 : Int32) (v6 : Int32) (v7 : Int32) (x : MS × Int32), fb_M_textOf_79 N G u v0 v1 v2 v3 v4 v5 v6 v7 = some x → ∀ (H : Heap) (locs : List Loc), va_P D cl (wM cB cI cJ cZ cS iM h0 ad u) H → va_D A (wM cB cI cJ cZ cS iM h0 ad u) → va_S A s.heap H locs → ∀ (ls : Array Slot), lv_has ls 9 [(0, .ref (ad v0)), (1, .ref (ad v1)), (2, .int v2), (3, .ref (ad v3)), (4, .int v4), (5, .int v5), (6, .int v6), (7, .int v7)] → W p l e R s m args below meth c H locs 0 0 (MQ below (mQi D cl cB cI cJ cZ cS iM h0 ad A x) args s 0 0 A) (F0 m 79 ls []) := by
  intro u v0 v1 v2 v3 v4 v5 v6 v7 x hf H locs hP hD hS ls hl
  obtain ⟨hx, hb, hr, hml, ht, hown, hM, hK, hA, hlocks⟩ := id C0
  unfold fb_M_textOf_79 at hf
  refine lv_iload hx hb d_M_textOf_79 (lv_at hl 7 rfl) ?_
  refine lv_if_eq (tgt := 87) hx hb d_M_textOf_81 (by decide) (fun hc => ?_) (fun hc => ?_)
  · rw [br_p _ hc] at hf
    refine lv_iinc (v := (v6 + 1)) (lv' := [(6, .int (v6 + 1)), (0, .ref (ad v0)), (1, .ref (ad v1)), (2, .int v2), (3, .ref (ad v3)), (4, .int v4), (5, .int v5), (7, .int v7)]) hx hb d_M_textOf_87 hl (k := 6) rfl rfl (by decide) rfl (fun ls hl => ?_)
    refine lv_goto (tgt := 3) hx hb d_M_textOf_90 (by decide) ?_
    exact hG.1 _ _ _ _ _ _ _ _ _ hf H locs hP hD hS ls (lv_sub hl [1, 2, 3, 4, 5, 6, 0] rfl)
  · rw [br_n _ hc] at hf
    refine lv_iload hx hb d_M_textOf_84 (lv_at hl 6 rfl) ?_
    exact mr_i C0 hP hD hS hf d_M_textOf_86
def fb_M_textOf_71 (N : Nat) (G : (MS → Nat → Nat → Int32 → Nat → Int32 → Int32 → Int32 → Option (MS × Int32)) × (MS → Nat → Nat → Int32 → Nat → Int32 → Int32 → Int32 → Int32 → Int32 → Option (MS × Int32)) × (MS → Nat → Nat → Int32 → Nat → Int32 → Int32 → Int32 → Option (MS × Int32))) (u : MS) (v0 : Nat) (v1 : Nat) (v2 : Int32) (v3 : Nat) (v4 : Int32) (v5 : Int32) (v6 : Int32) (v8 : Int32) (t0 : Int32) : Option (MS × Int32) := G.2.1 u (v0) (v1) (v2) (v3) (v4) (v5) (v6) (t0) ((v8 + 1))
set_option maxRecDepth 100000 in
set_option maxHeartbeats 4000000 in
theorem wb_M_textOf_71 {p : Program} {l : Launch} {e : Env} {R : Room} {s : State} {m : MethodId} {args : Array Value} {below : List Frame} {meth : Method} {c : Code} {D : va_G} {cl : List vw_C} {cB cI cJ cZ cS : ClassId} {A : Nat → Prop} {iM h0 : Nat} {ad : Nat → Nat} (C0 : MCx p s m args meth c b_M_textOf 9 (some .int) D cl cB cI cJ cZ cS iM A) (hR : R = rm_M_textOf) (N : Nat) (G : (MS → Nat → Nat → Int32 → Nat → Int32 → Int32 → Int32 → Option (MS × Int32)) × (MS → Nat → Nat → Int32 → Nat → Int32 → Int32 → Int32 → Int32 → Int32 → Option (MS × Int32)) × (MS → Nat → Nat → Int32 → Nat → Int32 → Int32 → Int32 → Option (MS × Int32))) (hG : (∀ (u : MS) (v0 : Nat) (v1 : Nat) (v2 : Int32) (v3 : Nat) (v4 : Int32) (v5 : Int32) (v6 : Int32) (x : MS × Int32), G.1 u v0 v1 v2 v3 v4 v5 v6 = some x → ∀ (H : Heap) (locs : List Loc), va_P D cl (wM cB cI cJ cZ cS iM h0 ad u) H → va_D A (wM cB cI cJ cZ cS iM h0 ad u) → va_S A s.heap H locs → ∀ (ls : Array Slot), lv_has ls 9 [(0, .ref (ad v0)), (1, .ref (ad v1)), (2, .int v2), (3, .ref (ad v3)), (4, .int v4), (5, .int v5), (6, .int v6)] → W p l e R s m args below meth c H locs 0 0 (MQ below (mQi D cl cB cI cJ cZ cS iM h0 ad A x) args s 0 0 A) (F0 m 3 ls [])) ∧ (∀ (u : MS) (v0 : Nat) (v1 : Nat) (v2 : Int32) (v3 : Nat) (v4 : Int32) (v5 : Int32) (v6 : Int32) (v7 : Int32) (v8 : Int32) (x : MS × Int32), G.2.1 u v0 v1 v2 v3 v4 v5 v6 v7 v8 = some x → ∀ (H : Heap) (locs : List Loc), va_P D cl (wM cB cI cJ cZ cS iM h0 ad u) H → va_D A (wM cB cI cJ cZ cS iM h0 ad u) → va_S A s.heap H locs → ∀ (ls : Array Slot), lv_has ls 9 [(0, .ref (ad v0)), (1, .ref (ad v1)), (2, .int v2), (3, .ref (ad v3)), (4, .int v4), (5, .int v5), (6, .int v6), (7, .int v7), (8, .int v8)] → W p l e R s m args below meth c H locs 0 0 (MQ below (mQi D cl cB cI cJ cZ cS iM h0 ad A x) args s 0 0 A) (F0 m 35 ls [])) ∧ (∀ (u : MS) (v0 : Nat) (v1 : Nat) (v2 : Int32) (v3 : Nat) (v4 : Int32) (v5 : Int32) (v6 : Int32) (x : MS × Int32), G.2.2 u v0 v1 v2 v3 v4 v5 v6 = some x → ∀ (H : Heap) (locs : List Loc), va_P D cl (wM cB cI cJ cZ cS iM h0 ad u) H → va_D A (wM cB cI cJ cZ cS iM h0 ad u) → va_S A s.heap H locs → ∀ (ls : Array Slot), lv_has ls 9 [(0, .ref (ad v0)), (1, .ref (ad v1)), (2, .int v2), (3, .ref (ad v3)), (4, .int v4), (5, .int v5), (6, .int v6)] → W p l e R s m args below meth c H locs 0 0 (MQ below (mQi D cl cB cI cJ cZ cS iM h0 ad A x) args s 0 0 A) (F0 m 96 ls []))) : ∀ (u : MS) (v0 : Nat) (v1 : Nat) (v2 : Int32) (v3 : Nat) (v4 : Int32) (v5 : Int32) (v6 : Int32) (v8 : Int32) (t0 : Int32) (x : MS × Int32), fb_M_textOf_71 N G u v0 v1 v2 v3 v4 v5 v6 v8 t0 = some x → ∀ (H : Heap) (locs : List Loc), va_P D cl (wM cB cI cJ cZ cS iM h0 ad u) H → va_D A (wM cB cI cJ cZ cS iM h0 ad u) → va_S A s.heap H locs → ∀ (ls : Array Slot), lv_has ls 9 [(0, .ref (ad v0)), (1, .ref (ad v1)), (2, .int v2), (3, .ref (ad v3)), (4, .int v4), (5, .int v5), (6, .int v6), (8, .int v8)] → W p l e R s m args below meth c H locs 0 0 (MQ below (mQi D cl cB cI cJ cZ cS iM h0 ad A x) args s 0 0 A) (F0 m 71 ls [.int t0]) := by
  intro u v0 v1 v2 v3 v4 v5 v6 v8 t0 x hf H locs hP hD hS ls hl
  obtain ⟨hx, hb, hr, hml, ht, hown, hM, hK, hA, hlocks⟩ := id C0
  unfold fb_M_textOf_71 at hf
  refine lv_istore (lv' := [(7, .int t0), (0, .ref (ad v0)), (1, .ref (ad v1)), (2, .int v2), (3, .ref (ad v3)), (4, .int v4), (5, .int v5), (6, .int v6), (8, .int v8)]) hx hb d_M_textOf_71 hl (by decide) rfl (fun ls hl => ?_)
  refine lv_iinc (v := (v8 + 1)) (lv' := [(8, .int (v8 + 1)), (7, .int t0), (0, .ref (ad v0)), (1, .ref (ad v1)), (2, .int v2), (3, .ref (ad v3)), (4, .int v4), (5, .int v5), (6, .int v6)]) hx hb d_M_textOf_73 hl (k := 8) rfl rfl (by decide) rfl (fun ls hl => ?_)
  refine lv_goto (tgt := 35) hx hb d_M_textOf_76 (by decide) ?_
  exact hG.2.1 _ _ _ _ _ _ _ _ _ _ _ hf H locs hP hD hS ls (lv_sub hl [2, 3, 4, 5, 6, 7, 8, 1, 0] rfl)
def fb_M_textOf_35 (N : Nat) (G : (MS → Nat → Nat → Int32 → Nat → Int32 → Int32 → Int32 → Option (MS × Int32)) × (MS → Nat → Nat → Int32 → Nat → Int32 → Int32 → Int32 → Int32 → Int32 → Option (MS × Int32)) × (MS → Nat → Nat → Int32 → Nat → Int32 → Int32 → Int32 → Option (MS × Int32))) (u : MS) (v0 : Nat) (v1 : Nat) (v2 : Int32) (v3 : Nat) (v4 : Int32) (v5 : Int32) (v6 : Int32) (v7 : Int32) (v8 : Int32) : Option (MS × Int32) := br (decide (v5 ≤ v8)) (fb_M_textOf_79 N G u (v0) (v1) (v2) (v3) (v4) (v5) (v6) (v7)) (br (decide (v7 = 0)) (fb_M_textOf_79 N G u (v0) (v1) (v2) (v3) (v4) (v5) (v6) (v7)) (ck (isK v1 4) (ck (inb v6 (ln v1)) (ck (isK v0 3) (ck (inb ((u.2.2.1 v1 v6.toNatClampNeg) + v8) (ln v0)) (ck (isK v3 3) (ck (inb (v4 + v8) (ln v3)) (br (decide ((u.2.2.1 v0 ((u.2.2.1 v1 v6.toNatClampNeg) + v8).toNatClampNeg) = (u.2.2.1 v3 (v4 + v8).toNatClampNeg))) (fb_M_textOf_71 N G u (v0) (v1) (v2) (v3) (v4) (v5) (v6) (v8) (1)) (fb_M_textOf_71 N G u (v0) (v1) (v2) (v3) (v4) (v5) (v6) (v8) (0))))))))))
set_option maxRecDepth 100000 in
set_option maxHeartbeats 4000000 in
theorem wb_M_textOf_35 {p : Program} {l : Launch} {e : Env} {R : Room} {s : State} {m : MethodId} {args : Array Value} {below : List Frame} {meth : Method} {c : Code} {D : va_G} {cl : List vw_C} {cB cI cJ cZ cS : ClassId} {A : Nat → Prop} {iM h0 : Nat} {ad : Nat → Nat} (C0 : MCx p s m args meth c b_M_textOf 9 (some .int) D cl cB cI cJ cZ cS iM A) (hR : R = rm_M_textOf) (N : Nat) (G : (MS → Nat → Nat → Int32 → Nat → Int32 → Int32 → Int32 → Option (MS × Int32)) × (MS → Nat → Nat → Int32 → Nat → Int32 → Int32 → Int32 → Int32 → Int32 → Option (MS × Int32)) × (MS → Nat → Nat → Int32 → Nat → Int32 → Int32 → Int32 → Option (MS × Int32))) (hG : (∀ (u : MS) (v0 : Nat) (v1 : Nat) (v2 : Int32) (v3 : Nat) (v4 : Int32) (v5 : Int32) (v6 : Int32) (x : MS × Int32), G.1 u v0 v1 v2 v3 v4 v5 v6 = some x → ∀ (H : Heap) (locs : List Loc), va_P D cl (wM cB cI cJ cZ cS iM h0 ad u) H → va_D A (wM cB cI cJ cZ cS iM h0 ad u) → va_S A s.heap H locs → ∀ (ls : Array Slot), lv_has ls 9 [(0, .ref (ad v0)), (1, .ref (ad v1)), (2, .int v2), (3, .ref (ad v3)), (4, .int v4), (5, .int v5), (6, .int v6)] → W p l e R s m args below meth c H locs 0 0 (MQ below (mQi D cl cB cI cJ cZ cS iM h0 ad A x) args s 0 0 A) (F0 m 3 ls [])) ∧ (∀ (u : MS) (v0 : Nat) (v1 : Nat) (v2 : Int32) (v3 : Nat) (v4 : Int32) (v5 : Int32) (v6 : Int32) (v7 : Int32) (v8 : Int32) (x : MS × Int32), G.2.1 u v0 v1 v2 v3 v4 v5 v6 v7 v8 = some x → ∀ (H : Heap) (locs : List Loc), va_P D cl (wM cB cI cJ cZ cS iM h0 ad u) H → va_D A (wM cB cI cJ cZ cS iM h0 ad u) → va_S A s.heap H locs → ∀ (ls : Array Slot), lv_has ls 9 [(0, .ref (ad v0)), (1, .ref (ad v1)), (2, .int v2), (3, .ref (ad v3)), (4, .int v4), (5, .int v5), (6, .int v6), (7, .int v7), (8, .int v8)] → W p l e R s m args below meth c H locs 0 0 (MQ below (mQi D cl cB cI cJ cZ cS iM h0 ad A x) args s 0 0 A) (F0 m 35 ls [])) ∧ (∀ (u : MS) (v0 : Nat) (v1 : Nat) (v2 : Int32) (v3 : Nat) (v4 : Int32) (v5 : Int32) (v6 : Int32) (x : MS × Int32), G.2.2 u v0 v1 v2 v3 v4 v5 v6 = some x → ∀ (H : Heap) (locs : List Loc), va_P D cl (wM cB cI cJ cZ cS iM h0 ad u) H → va_D A (wM cB cI cJ cZ cS iM h0 ad u) → va_S A s.heap H locs → ∀ (ls : Array Slot), lv_has ls 9 [(0, .ref (ad v0)), (1, .ref (ad v1)), (2, .int v2), (3, .ref (ad v3)), (4, .int v4), (5, .int v5), (6, .int v6)] → W p l e R s m args below meth c H locs 0 0 (MQ below (mQi D cl cB cI cJ cZ cS iM h0 ad A x) args s 0 0 A) (F0 m 96 ls []))) : ∀ (u : MS) (v0 : Nat) (v1 : Nat) (v2 : Int32) (v3 : Nat) (v4 : Int32) (v5 : Int32) (v6 : Int32) (v7 : Int32) (v8 : Int32) (x : MS × Int32), fb_M_textOf_35 N G u v0 v1 v2 v3 v4 v5 v6 v7 v8 = some x → ∀ (H : Heap) (locs : List Loc), va_P D cl (wM cB cI cJ cZ cS iM h0 ad u) H → va_D A (wM cB cI cJ cZ cS iM h0 ad u) → va_S A s.heap H locs → ∀ (ls : Array Slot), lv_has ls 9 [(0, .ref (ad v0)), (1, .ref (ad v1)), (2, .int v2), (3, .ref (ad v3)), (4, .int v4), (5, .int v5), (6, .int v6), (7, .int v7), (8, .int v8)] → W p l e R s m args below meth c H locs 0 0 (MQ below (mQi D cl cB cI cJ cZ cS iM h0 ad A x) args s 0 0 A) (F0 m 35 ls []) := by
  intro u v0 v1 v2 v3 v4 v5 v6 v7 v8 x hf H locs hP hD hS ls hl
  obtain ⟨hx, hb, hr, hml, ht, hown, hM, hK, hA, hlocks⟩ := id C0
  unfold fb_M_textOf_35 at hf
  refine lv_iload hx hb d_M_textOf_35 (lv_at hl 8 rfl) ?_
  refine lv_iload hx hb d_M_textOf_37 (lv_at hl 5 rfl) ?_
  refine lv_icmp_ge (tgt := 79) hx hb d_M_textOf_39 (by decide) (fun hc => ?_) (fun hc => ?_)
  · rw [br_p _ hc] at hf
    exact wb_M_textOf_79 C0 hR N G hG _ _ _ _ _ _ _ _ _ _ hf H locs hP hD hS ls (lv_sub hl [0, 1, 2, 3, 4, 5, 6, 7] rfl)
  · rw [br_n _ hc] at hf
    refine lv_iload hx hb d_M_textOf_42 (lv_at hl 7 rfl) ?_
    refine lv_if_eq (tgt := 79) hx hb d_M_textOf_44 (by decide) (fun hc => ?_) (fun hc => ?_)
    · rw [br_p _ hc] at hf
      exact wb_M_textOf_79 C0 hR N G hG _ _ _ _ _ _ _ _ _ _ hf H locs hP hD hS ls (lv_sub hl [0, 1, 2, 3, 4, 5, 6, 7] rfl)
    · rw [br_n _ hc] at hf
      refine lv_aload_n hx hb d_M_textOf_47 rfl (lv_at hl 0 rfl) ?_
      refine lv_aload_n hx hb d_M_textOf_48 rfl (lv_at hl 1 rfl) ?_
      refine lv_iload hx hb d_M_textOf_49 (lv_at hl 6 rfl) ?_
      obtain ⟨hk9, hf⟩ := ck_some hf
      obtain ⟨hi9, hf⟩ := ck_some hf
      refine ul_I hx hb hK hP (isK_1 hk9) (isK_2 hk9) hi9 d_M_textOf_51 ?_
      refine lv_iload hx hb d_M_textOf_52 (lv_at hl 8 rfl) ?_
      refine lv_iadd hx hb d_M_textOf_54 ?_
      obtain ⟨hk9, hf⟩ := ck_some hf
      obtain ⟨hi9, hf⟩ := ck_some hf
      refine ul_B hx hb hK hP (isK_1 hk9) (isK_2 hk9) hi9 d_M_textOf_55 ?_
      refine lv_aload_n hx hb d_M_textOf_56 rfl (lv_at hl 3 rfl) ?_
      refine lv_iload hx hb d_M_textOf_57 (lv_at hl 4 rfl) ?_
      refine lv_iload hx hb d_M_textOf_59 (lv_at hl 8 rfl) ?_
      refine lv_iadd hx hb d_M_textOf_61 ?_
      obtain ⟨hk9, hf⟩ := ck_some hf
      obtain ⟨hi9, hf⟩ := ck_some hf
      refine ul_B hx hb hK hP (isK_1 hk9) (isK_2 hk9) hi9 d_M_textOf_62 ?_
      refine lv_icmp_ne (tgt := 70) hx hb d_M_textOf_63 (by decide) (fun hc => ?_) (fun hc => ?_)
      · rw [br_n _ hc] at hf
        refine lv_iconst (v := 0) hx hb d_M_textOf_70 (by decide) ?_
        exact wb_M_textOf_71 C0 hR N G hG _ _ _ _ _ _ _ _ _ _ _ hf H locs hP hD hS ls (lv_sub hl [0, 1, 2, 3, 4, 5, 6, 8] rfl)
      · rw [br_p _ hc] at hf
        refine lv_iconst (v := 1) hx hb d_M_textOf_66 (by decide) ?_
        refine lv_goto (tgt := 71) hx hb d_M_textOf_67 (by decide) ?_
        exact wb_M_textOf_71 C0 hR N G hG _ _ _ _ _ _ _ _ _ _ _ hf H locs hP hD hS ls (lv_sub hl [0, 1, 2, 3, 4, 5, 6, 8] rfl)
def fb_M_textOf_30 (N : Nat) (G : (MS → Nat → Nat → Int32 → Nat → Int32 → Int32 → Int32 → Option (MS × Int32)) × (MS → Nat → Nat → Int32 → Nat → Int32 → Int32 → Int32 → Int32 → Int32 → Option (MS × Int32)) × (MS → Nat → Nat → Int32 → Nat → Int32 → Int32 → Int32 → Option (MS × Int32))) (u : MS) (v0 : Nat) (v1 : Nat) (v2 : Int32) (v3 : Nat) (v4 : Int32) (v5 : Int32) (v6 : Int32) (t0 : Int32) : Option (MS × Int32) := G.2.1 u (v0) (v1) (v2) (v3) (v4) (v5) (v6) (t0) (0)
set_option maxRecDepth 100000 in
set_option maxHeartbeats 4000000 in
theorem wb_M_textOf_30 {p : Program} {l : Launch} {e : Env} {R : Room} {s : State} {m : MethodId} {args : Array Value} {below : List Frame} {meth : Method} {c : Code} {D : va_G} {cl : List vw_C} {cB cI cJ cZ cS : ClassId} {A : Nat → Prop} {iM h0 : Nat} {ad : Nat → Nat} (C0 : MCx p s m args meth c b_M_textOf 9 (some .int) D cl cB cI cJ cZ cS iM A) (hR : R = rm_M_textOf) (N : Nat) (G : (MS → Nat → Nat → Int32 → Nat → Int32 → Int32 → Int32 → Option (MS × Int32)) × (MS → Nat → Nat → Int32 → Nat → Int32 → Int32 → Int32 → Int32 → Int32 → Option (MS × Int32)) × (MS → Nat → Nat → Int32 → Nat → Int32 → Int32 → Int32 → Option (MS × Int32))) (hG : (∀ (u : MS) (v0 : Nat) (v1 : Nat) (v2 : Int32) (v3 : Nat) (v4 : Int32) (v5 : Int32) (v6 : Int32) (x : MS × Int32), G.1 u v0 v1 v2 v3 v4 v5 v6 = some x → ∀ (H : Heap) (locs : List Loc), va_P D cl (wM cB cI cJ cZ cS iM h0 ad u) H → va_D A (wM cB cI cJ cZ cS iM h0 ad u) → va_S A s.heap H locs → ∀ (ls : Array Slot), lv_has ls 9 [(0, .ref (ad v0)), (1, .ref (ad v1)), (2, .int v2), (3, .ref (ad v3)), (4, .int v4), (5, .int v5), (6, .int v6)] → W p l e R s m args below meth c H locs 0 0 (MQ below (mQi D cl cB cI cJ cZ cS iM h0 ad A x) args s 0 0 A) (F0 m 3 ls [])) ∧ (∀ (u : MS) (v0 : Nat) (v1 : Nat) (v2 : Int32) (v3 : Nat) (v4 : Int32) (v5 : Int32) (v6 : Int32) (v7 : Int32) (v8 : Int32) (x : MS × Int32), G.2.1 u v0 v1 v2 v3 v4 v5 v6 v7 v8 = some x → ∀ (H : Heap) (locs : List Loc), va_P D cl (wM cB cI cJ cZ cS iM h0 ad u) H → va_D A (wM cB cI cJ cZ cS iM h0 ad u) → va_S A s.heap H locs → ∀ (ls : Array Slot), lv_has ls 9 [(0, .ref (ad v0)), (1, .ref (ad v1)), (2, .int v2), (3, .ref (ad v3)), (4, .int v4), (5, .int v5), (6, .int v6), (7, .int v7), (8, .int v8)] → W p l e R s m args below meth c H locs 0 0 (MQ below (mQi D cl cB cI cJ cZ cS iM h0 ad A x) args s 0 0 A) (F0 m 35 ls [])) ∧ (∀ (u : MS) (v0 : Nat) (v1 : Nat) (v2 : Int32) (v3 : Nat) (v4 : Int32) (v5 : Int32) (v6 : Int32) (x : MS × Int32), G.2.2 u v0 v1 v2 v3 v4 v5 v6 = some x → ∀ (H : Heap) (locs : List Loc), va_P D cl (wM cB cI cJ cZ cS iM h0 ad u) H → va_D A (wM cB cI cJ cZ cS iM h0 ad u) → va_S A s.heap H locs → ∀ (ls : Array Slot), lv_has ls 9 [(0, .ref (ad v0)), (1, .ref (ad v1)), (2, .int v2), (3, .ref (ad v3)), (4, .int v4), (5, .int v5), (6, .int v6)] → W p l e R s m args below meth c H locs 0 0 (MQ below (mQi D cl cB cI cJ cZ cS iM h0 ad A x) args s 0 0 A) (F0 m 96 ls []))) : ∀ (u : MS) (v0 : Nat) (v1 : Nat) (v2 : Int32) (v3 : Nat) (v4 : Int32) (v5 : Int32) (v6 : Int32) (t0 : Int32) (x : MS × Int32), fb_M_textOf_30 N G u v0 v1 v2 v3 v4 v5 v6 t0 = some x → ∀ (H : Heap) (locs : List Loc), va_P D cl (wM cB cI cJ cZ cS iM h0 ad u) H → va_D A (wM cB cI cJ cZ cS iM h0 ad u) → va_S A s.heap H locs → ∀ (ls : Array Slot), lv_has ls 9 [(0, .ref (ad v0)), (1, .ref (ad v1)), (2, .int v2), (3, .ref (ad v3)), (4, .int v4), (5, .int v5), (6, .int v6)] → W p l e R s m args below meth c H locs 0 0 (MQ below (mQi D cl cB cI cJ cZ cS iM h0 ad A x) args s 0 0 A) (F0 m 30 ls [.int t0]) := by
  intro u v0 v1 v2 v3 v4 v5 v6 t0 x hf H locs hP hD hS ls hl
  obtain ⟨hx, hb, hr, hml, ht, hown, hM, hK, hA, hlocks⟩ := id C0
  unfold fb_M_textOf_30 at hf
  refine lv_istore (lv' := [(7, .int t0), (0, .ref (ad v0)), (1, .ref (ad v1)), (2, .int v2), (3, .ref (ad v3)), (4, .int v4), (5, .int v5), (6, .int v6)]) hx hb d_M_textOf_30 hl (by decide) rfl (fun ls hl => ?_)
  refine lv_iconst (v := 0) hx hb d_M_textOf_32 (by decide) ?_
  refine lv_istore (lv' := [(8, .int 0), (7, .int t0), (0, .ref (ad v0)), (1, .ref (ad v1)), (2, .int v2), (3, .ref (ad v3)), (4, .int v4), (5, .int v5), (6, .int v6)]) hx hb d_M_textOf_33 hl (by decide) rfl (fun ls hl => ?_)
  exact hG.2.1 _ _ _ _ _ _ _ _ _ _ _ hf H locs hP hD hS ls (lv_sub hl [2, 3, 4, 5, 6, 7, 8, 1, 0] rfl)
def fb_M_textOf_3 (N : Nat) (G : (MS → Nat → Nat → Int32 → Nat → Int32 → Int32 → Int32 → Option (MS × Int32)) × (MS → Nat → Nat → Int32 → Nat → Int32 → Int32 → Int32 → Int32 → Int32 → Option (MS × Int32)) × (MS → Nat → Nat → Int32 → Nat → Int32 → Int32 → Int32 → Option (MS × Int32))) (u : MS) (v0 : Nat) (v1 : Nat) (v2 : Int32) (v3 : Nat) (v4 : Int32) (v5 : Int32) (v6 : Int32) : Option (MS × Int32) := br (decide (v2 ≤ v6)) (G.2.2 u (v0) (v1) (v2) (v3) (v4) (v5) (0)) (ck (isK v1 4) (ck (inb (v6 + 1) (ln v1)) (ck (isK v1 4) (ck (inb v6 (ln v1)) (br (decide (((u.2.2.1 v1 (v6 + 1).toNatClampNeg) - (u.2.2.1 v1 v6.toNatClampNeg)) = v5)) (fb_M_textOf_30 N G u (v0) (v1) (v2) (v3) (v4) (v5) (v6) (1)) (fb_M_textOf_30 N G u (v0) (v1) (v2) (v3) (v4) (v5) (v6) (0)))))))
set_option maxRecDepth 100000 in
set_option maxHeartbeats 4000000 in
theorem wb_M_textOf_3 {p : Program} {l : Launch} {e : Env} {R : Room} {s : State} {m : MethodId} {args : Array Value} {below : List Frame} {meth : Method} {c : Code} {D : va_G} {cl : List vw_C} {cB cI cJ cZ cS : ClassId} {A : Nat → Prop} {iM h0 : Nat} {ad : Nat → Nat} (C0 : MCx p s m args meth c b_M_textOf 9 (some .int) D cl cB cI cJ cZ cS iM A) (hR : R = rm_M_textOf) (N : Nat) (G : (MS → Nat → Nat → Int32 → Nat → Int32 → Int32 → Int32 → Option (MS × Int32)) × (MS → Nat → Nat → Int32 → Nat → Int32 → Int32 → Int32 → Int32 → Int32 → Option (MS × Int32)) × (MS → Nat → Nat → Int32 → Nat → Int32 → Int32 → Int32 → Option (MS × Int32))) (hG : (∀ (u : MS) (v0 : Nat) (v1 : Nat) (v2 : Int32) (v3 : Nat) (v4 : Int32) (v5 : Int32) (v6 : Int32) (x : MS × Int32), G.1 u v0 v1 v2 v3 v4 v5 v6 = some x → ∀ (H : Heap) (locs : List Loc), va_P D cl (wM cB cI cJ cZ cS iM h0 ad u) H → va_D A (wM cB cI cJ cZ cS iM h0 ad u) → va_S A s.heap H locs → ∀ (ls : Array Slot), lv_has ls 9 [(0, .ref (ad v0)), (1, .ref (ad v1)), (2, .int v2), (3, .ref (ad v3)), (4, .int v4), (5, .int v5), (6, .int v6)] → W p l e R s m args below meth c H locs 0 0 (MQ below (mQi D cl cB cI cJ cZ cS iM h0 ad A x) args s 0 0 A) (F0 m 3 ls [])) ∧ (∀ (u : MS) (v0 : Nat) (v1 : Nat) (v2 : Int32) (v3 : Nat) (v4 : Int32) (v5 : Int32) (v6 : Int32) (v7 : Int32) (v8 : Int32) (x : MS × Int32), G.2.1 u v0 v1 v2 v3 v4 v5 v6 v7 v8 = some x → ∀ (H : Heap) (locs : List Loc), va_P D cl (wM cB cI cJ cZ cS iM h0 ad u) H → va_D A (wM cB cI cJ cZ cS iM h0 ad u) → va_S A s.heap H locs → ∀ (ls : Array Slot), lv_has ls 9 [(0, .ref (ad v0)), (1, .ref (ad v1)), (2, .int v2), (3, .ref (ad v3)), (4, .int v4), (5, .int v5), (6, .int v6), (7, .int v7), (8, .int v8)] → W p l e R s m args below meth c H locs 0 0 (MQ below (mQi D cl cB cI cJ cZ cS iM h0 ad A x) args s 0 0 A) (F0 m 35 ls [])) ∧ (∀ (u : MS) (v0 : Nat) (v1 : Nat) (v2 : Int32) (v3 : Nat) (v4 : Int32) (v5 : Int32) (v6 : Int32) (x : MS × Int32), G.2.2 u v0 v1 v2 v3 v4 v5 v6 = some x → ∀ (H : Heap) (locs : List Loc), va_P D cl (wM cB cI cJ cZ cS iM h0 ad u) H → va_D A (wM cB cI cJ cZ cS iM h0 ad u) → va_S A s.heap H locs → ∀ (ls : Array Slot), lv_has ls 9 [(0, .ref (ad v0)), (1, .ref (ad v1)), (2, .int v2), (3, .ref (ad v3)), (4, .int v4), (5, .int v5), (6, .int v6)] → W p l e R s m args below meth c H locs 0 0 (MQ below (mQi D cl cB cI cJ cZ cS iM h0 ad A x) args s 0 0 A) (F0 m 96 ls []))) : ∀ (u : MS) (v0 : Nat) (v1 : Nat) (v2 : Int32) (v3 : Nat) (v4 : Int32) (v5 : Int32) (v6 : Int32) (x : MS × Int32), fb_M_textOf_3 N G u v0 v1 v2 v3 v4 v5 v6 = some x → ∀ (H : Heap) (locs : List Loc), va_P D cl (wM cB cI cJ cZ cS iM h0 ad u) H → va_D A (wM cB cI cJ cZ cS iM h0 ad u) → va_S A s.heap H locs → ∀ (ls : Array Slot), lv_has ls 9 [(0, .ref (ad v0)), (1, .ref (ad v1)), (2, .int v2), (3, .ref (ad v3)), (4, .int v4), (5, .int v5), (6, .int v6)] → W p l e R s m args below meth c H locs 0 0 (MQ below (mQi D cl cB cI cJ cZ cS iM h0 ad A x) args s 0 0 A) (F0 m 3 ls []) := by
  intro u v0 v1 v2 v3 v4 v5 v6 x hf H locs hP hD hS ls hl
  obtain ⟨hx, hb, hr, hml, ht, hown, hM, hK, hA, hlocks⟩ := id C0
  unfold fb_M_textOf_3 at hf
  refine lv_iload hx hb d_M_textOf_3 (lv_at hl 6 rfl) ?_
  refine lv_iload_n hx hb d_M_textOf_5 rfl (lv_at hl 2 rfl) ?_
  refine lv_icmp_ge (tgt := 93) hx hb d_M_textOf_6 (by decide) (fun hc => ?_) (fun hc => ?_)
  · rw [br_p _ hc] at hf
    refine lv_iconst (v := 0) hx hb d_M_textOf_93 (by decide) ?_
    refine lv_istore (lv' := [(6, .int 0), (0, .ref (ad v0)), (1, .ref (ad v1)), (2, .int v2), (3, .ref (ad v3)), (4, .int v4), (5, .int v5)]) hx hb d_M_textOf_94 hl (by decide) rfl (fun ls hl => ?_)
    exact hG.2.2 _ _ _ _ _ _ _ _ _ hf H locs hP hD hS ls (lv_sub hl [1, 2, 3, 4, 5, 6, 0] rfl)
  · rw [br_n _ hc] at hf
    refine lv_aload_n hx hb d_M_textOf_9 rfl (lv_at hl 1 rfl) ?_
    refine lv_iload hx hb d_M_textOf_10 (lv_at hl 6 rfl) ?_
    refine lv_iconst (v := 1) hx hb d_M_textOf_12 (by decide) ?_
    refine lv_iadd hx hb d_M_textOf_13 ?_
    obtain ⟨hk9, hf⟩ := ck_some hf
    obtain ⟨hi9, hf⟩ := ck_some hf
    refine ul_I hx hb hK hP (isK_1 hk9) (isK_2 hk9) hi9 d_M_textOf_14 ?_
    refine lv_aload_n hx hb d_M_textOf_15 rfl (lv_at hl 1 rfl) ?_
    refine lv_iload hx hb d_M_textOf_16 (lv_at hl 6 rfl) ?_
    obtain ⟨hk9, hf⟩ := ck_some hf
    obtain ⟨hi9, hf⟩ := ck_some hf
    refine ul_I hx hb hK hP (isK_1 hk9) (isK_2 hk9) hi9 d_M_textOf_18 ?_
    refine lv_isub hx hb d_M_textOf_19 ?_
    refine lv_iload hx hb d_M_textOf_20 (lv_at hl 5 rfl) ?_
    refine lv_icmp_ne (tgt := 29) hx hb d_M_textOf_22 (by decide) (fun hc => ?_) (fun hc => ?_)
    · rw [br_n _ hc] at hf
      refine lv_iconst (v := 0) hx hb d_M_textOf_29 (by decide) ?_
      exact wb_M_textOf_30 C0 hR N G hG _ _ _ _ _ _ _ _ _ _ hf H locs hP hD hS ls (lv_sub hl [0, 1, 2, 3, 4, 5, 6] rfl)
    · rw [br_p _ hc] at hf
      refine lv_iconst (v := 1) hx hb d_M_textOf_25 (by decide) ?_
      refine lv_goto (tgt := 30) hx hb d_M_textOf_26 (by decide) ?_
      exact wb_M_textOf_30 C0 hR N G hG _ _ _ _ _ _ _ _ _ _ hf H locs hP hD hS ls (lv_sub hl [0, 1, 2, 3, 4, 5, 6] rfl)
def fb_M_textOf_0 (N : Nat) (G : (MS → Nat → Nat → Int32 → Nat → Int32 → Int32 → Int32 → Option (MS × Int32)) × (MS → Nat → Nat → Int32 → Nat → Int32 → Int32 → Int32 → Int32 → Int32 → Option (MS × Int32)) × (MS → Nat → Nat → Int32 → Nat → Int32 → Int32 → Int32 → Option (MS × Int32))) (u : MS) (v0 : Nat) (v1 : Nat) (v2 : Int32) (v3 : Nat) (v4 : Int32) (v5 : Int32) : Option (MS × Int32) := G.1 u (v0) (v1) (v2) (v3) (v4) (v5) (0)
set_option maxRecDepth 100000 in
set_option maxHeartbeats 4000000 in
theorem wb_M_textOf_0 {p : Program} {l : Launch} {e : Env} {R : Room} {s : State} {m : MethodId} {args : Array Value} {below : List Frame} {meth : Method} {c : Code} {D : va_G} {cl : List vw_C} {cB cI cJ cZ cS : ClassId} {A : Nat → Prop} {iM h0 : Nat} {ad : Nat → Nat} (C0 : MCx p s m args meth c b_M_textOf 9 (some .int) D cl cB cI cJ cZ cS iM A) (hR : R = rm_M_textOf) (N : Nat) (G : (MS → Nat → Nat → Int32 → Nat → Int32 → Int32 → Int32 → Option (MS × Int32)) × (MS → Nat → Nat → Int32 → Nat → Int32 → Int32 → Int32 → Int32 → Int32 → Option (MS × Int32)) × (MS → Nat → Nat → Int32 → Nat → Int32 → Int32 → Int32 → Option (MS × Int32))) (hG : (∀ (u : MS) (v0 : Nat) (v1 : Nat) (v2 : Int32) (v3 : Nat) (v4 : Int32) (v5 : Int32) (v6 : Int32) (x : MS × Int32), G.1 u v0 v1 v2 v3 v4 v5 v6 = some x → ∀ (H : Heap) (locs : List Loc), va_P D cl (wM cB cI cJ cZ cS iM h0 ad u) H → va_D A (wM cB cI cJ cZ cS iM h0 ad u) → va_S A s.heap H locs → ∀ (ls : Array Slot), lv_has ls 9 [(0, .ref (ad v0)), (1, .ref (ad v1)), (2, .int v2), (3, .ref (ad v3)), (4, .int v4), (5, .int v5), (6, .int v6)] → W p l e R s m args below meth c H locs 0 0 (MQ below (mQi D cl cB cI cJ cZ cS iM h0 ad A x) args s 0 0 A) (F0 m 3 ls [])) ∧ (∀ (u : MS) (v0 : Nat) (v1 : Nat) (v2 : Int32) (v3 : Nat) (v4 : Int32) (v5 : Int32) (v6 : Int32) (v7 : Int32) (v8 : Int32) (x : MS × Int32), G.2.1 u v0 v1 v2 v3 v4 v5 v6 v7 v8 = some x → ∀ (H : Heap) (locs : List Loc), va_P D cl (wM cB cI cJ cZ cS iM h0 ad u) H → va_D A (wM cB cI cJ cZ cS iM h0 ad u) → va_S A s.heap H locs → ∀ (ls : Array Slot), lv_has ls 9 [(0, .ref (ad v0)), (1, .ref (ad v1)), (2, .int v2), (3, .ref (ad v3)), (4, .int v4), (5, .int v5), (6, .int v6), (7, .int v7), (8, .int v8)] → W p l e R s m args below meth c H locs 0 0 (MQ below (mQi D cl cB cI cJ cZ cS iM h0 ad A x) args s 0 0 A) (F0 m 35 ls [])) ∧ (∀ (u : MS) (v0 : Nat) (v1 : Nat) (v2 : Int32) (v3 : Nat) (v4 : Int32) (v5 : Int32) (v6 : Int32) (x : MS × Int32), G.2.2 u v0 v1 v2 v3 v4 v5 v6 = some x → ∀ (H : Heap) (locs : List Loc), va_P D cl (wM cB cI cJ cZ cS iM h0 ad u) H → va_D A (wM cB cI cJ cZ cS iM h0 ad u) → va_S A s.heap H locs → ∀ (ls : Array Slot), lv_has ls 9 [(0, .ref (ad v0)), (1, .ref (ad v1)), (2, .int v2), (3, .ref (ad v3)), (4, .int v4), (5, .int v5), (6, .int v6)] → W p l e R s m args below meth c H locs 0 0 (MQ below (mQi D cl cB cI cJ cZ cS iM h0 ad A x) args s 0 0 A) (F0 m 96 ls []))) : ∀ (u : MS) (v0 : Nat) (v1 : Nat) (v2 : Int32) (v3 : Nat) (v4 : Int32) (v5 : Int32) (x : MS × Int32), fb_M_textOf_0 N G u v0 v1 v2 v3 v4 v5 = some x → ∀ (H : Heap) (locs : List Loc), va_P D cl (wM cB cI cJ cZ cS iM h0 ad u) H → va_D A (wM cB cI cJ cZ cS iM h0 ad u) → va_S A s.heap H locs → ∀ (ls : Array Slot), lv_has ls 9 [(0, .ref (ad v0)), (1, .ref (ad v1)), (2, .int v2), (3, .ref (ad v3)), (4, .int v4), (5, .int v5)] → W p l e R s m args below meth c H locs 0 0 (MQ below (mQi D cl cB cI cJ cZ cS iM h0 ad A x) args s 0 0 A) (F0 m 0 ls []) := by
  intro u v0 v1 v2 v3 v4 v5 x hf H locs hP hD hS ls hl
  obtain ⟨hx, hb, hr, hml, ht, hown, hM, hK, hA, hlocks⟩ := id C0
  unfold fb_M_textOf_0 at hf
  refine lv_iconst (v := 0) hx hb d_M_textOf_0 (by decide) ?_
  refine lv_istore (lv' := [(6, .int 0), (0, .ref (ad v0)), (1, .ref (ad v1)), (2, .int v2), (3, .ref (ad v3)), (4, .int v4), (5, .int v5)]) hx hb d_M_textOf_1 hl (by decide) rfl (fun ls hl => ?_)
  exact hG.1 _ _ _ _ _ _ _ _ _ hf H locs hP hD hS ls (lv_sub hl [1, 2, 3, 4, 5, 6, 0] rfl)
def gg_M_textOf (N : Nat) : Nat → ((MS → Nat → Nat → Int32 → Nat → Int32 → Int32 → Int32 → Option (MS × Int32)) × (MS → Nat → Nat → Int32 → Nat → Int32 → Int32 → Int32 → Int32 → Int32 → Option (MS × Int32)) × (MS → Nat → Nat → Int32 → Nat → Int32 → Int32 → Int32 → Option (MS × Int32)))
  | 0 => (fun _ _ _ _ _ _ _ _ => none, fun _ _ _ _ _ _ _ _ _ _ => none, fun _ _ _ _ _ _ _ _ => none)
  | n + 1 => (fb_M_textOf_3 N (gg_M_textOf N n), fb_M_textOf_35 N (gg_M_textOf N n), fb_M_textOf_96 N (gg_M_textOf N n))
theorem wg_M_textOf {p : Program} {l : Launch} {e : Env} {R : Room} {s : State} {m : MethodId} {args : Array Value} {below : List Frame} {meth : Method} {c : Code} {D : va_G} {cl : List vw_C} {cB cI cJ cZ cS : ClassId} {A : Nat → Prop} {iM h0 : Nat} {ad : Nat → Nat} (C0 : MCx p s m args meth c b_M_textOf 9 (some .int) D cl cB cI cJ cZ cS iM A) (hR : R = rm_M_textOf) (N : Nat) : ∀ n : Nat, (∀ (u : MS) (v0 : Nat) (v1 : Nat) (v2 : Int32) (v3 : Nat) (v4 : Int32) (v5 : Int32) (v6 : Int32) (x : MS × Int32), (gg_M_textOf N n).1 u v0 v1 v2 v3 v4 v5 v6 = some x → ∀ (H : Heap) (locs : List Loc), va_P D cl (wM cB cI cJ cZ cS iM h0 ad u) H → va_D A (wM cB cI cJ cZ cS iM h0 ad u) → va_S A s.heap H locs → ∀ (ls : Array Slot), lv_has ls 9 [(0, .ref (ad v0)), (1, .ref (ad v1)), (2, .int v2), (3, .ref (ad v3)), (4, .int v4), (5, .int v5), (6, .int v6)] → W p l e R s m args below meth c H locs 0 0 (MQ below (mQi D cl cB cI cJ cZ cS iM h0 ad A x) args s 0 0 A) (F0 m 3 ls [])) ∧ (∀ (u : MS) (v0 : Nat) (v1 : Nat) (v2 : Int32) (v3 : Nat) (v4 : Int32) (v5 : Int32) (v6 : Int32) (v7 : Int32) (v8 : Int32) (x : MS × Int32), (gg_M_textOf N n).2.1 u v0 v1 v2 v3 v4 v5 v6 v7 v8 = some x → ∀ (H : Heap) (locs : List Loc), va_P D cl (wM cB cI cJ cZ cS iM h0 ad u) H → va_D A (wM cB cI cJ cZ cS iM h0 ad u) → va_S A s.heap H locs → ∀ (ls : Array Slot), lv_has ls 9 [(0, .ref (ad v0)), (1, .ref (ad v1)), (2, .int v2), (3, .ref (ad v3)), (4, .int v4), (5, .int v5), (6, .int v6), (7, .int v7), (8, .int v8)] → W p l e R s m args below meth c H locs 0 0 (MQ below (mQi D cl cB cI cJ cZ cS iM h0 ad A x) args s 0 0 A) (F0 m 35 ls [])) ∧ (∀ (u : MS) (v0 : Nat) (v1 : Nat) (v2 : Int32) (v3 : Nat) (v4 : Int32) (v5 : Int32) (v6 : Int32) (x : MS × Int32), (gg_M_textOf N n).2.2 u v0 v1 v2 v3 v4 v5 v6 = some x → ∀ (H : Heap) (locs : List Loc), va_P D cl (wM cB cI cJ cZ cS iM h0 ad u) H → va_D A (wM cB cI cJ cZ cS iM h0 ad u) → va_S A s.heap H locs → ∀ (ls : Array Slot), lv_has ls 9 [(0, .ref (ad v0)), (1, .ref (ad v1)), (2, .int v2), (3, .ref (ad v3)), (4, .int v4), (5, .int v5), (6, .int v6)] → W p l e R s m args below meth c H locs 0 0 (MQ below (mQi D cl cB cI cJ cZ cS iM h0 ad A x) args s 0 0 A) (F0 m 96 ls []))
  | 0 => ⟨(fun u v0 v1 v2 v3 v4 v5 v6 x hf => by cases hf), (fun u v0 v1 v2 v3 v4 v5 v6 v7 v8 x hf => by cases hf), (fun u v0 v1 v2 v3 v4 v5 v6 x hf => by cases hf)⟩
  | n + 1 => ⟨wb_M_textOf_3 C0 hR N (gg_M_textOf N n) (wg_M_textOf C0 hR N n), wb_M_textOf_35 C0 hR N (gg_M_textOf N n) (wg_M_textOf C0 hR N n), wb_M_textOf_96 C0 hR N (gg_M_textOf N n) (wg_M_textOf C0 hR N n)⟩
def fm_M_textOf (N : Nat) (u : MS) (v0 : Nat) (v1 : Nat) (v2 : Int32) (v3 : Nat) (v4 : Int32) (v5 : Int32) : Option (MS × Int32) := fb_M_textOf_0 N (gg_M_textOf N N) u v0 v1 v2 v3 v4 v5
set_option maxRecDepth 100000 in
set_option maxHeartbeats 4000000 in
theorem c_M_textOf (N : Nat) {l : Launch} {D : va_G} {cl : List vw_C} {cB cI cJ cZ cS : ClassId} {iM h0 : Nat} {ad : Nat → Nat} {u : MS} {sz : Nat} {v0 : Nat} {v1 : Nat} {v2 : Int32} {v3 : Nat} {v4 : Int32} {v5 : Int32} {x : MS × Int32} (hM : cl[iM]? = some (R_M, F_M, 171)) (hf : fm_M_textOf N u v0 v1 v2 v3 v4 v5 = some x) : Met l y_M_textOf (wd_ws y_M_textOf b_M_textOf 9 (some .int)) rm_M_textOf (mPc D cl cB cI cJ cZ cS iM h0 ad u sz [.ref (ad v0), .ref (ad v1), .int v2, .ref (ad v3), .int v4, .int v5]) (mQi D cl cB cI cJ cZ cS iM h0 ad (mA cB cI cJ cZ cS iM h0 ad u sz) x) 0 0 (mA cB cI cJ cZ cS iM h0 ad u sz) :=
  mMet (by decide) rfl hM (Nat.le_of_ble_eq_true rfl) (fun p e s m below meth c ls hsz C0 hP hD hS hl => by
    have hR : rm_M_textOf = rm_M_textOf := rfl
    exact wb_M_textOf_0 C0 hR N (gg_M_textOf N N) (wg_M_textOf C0 hR N N) u _ _ _ _ _ _ x hf s.heap [] hP hD hS ls (lv_sub hl [0, 1, 2, 3, 4, 5] rfl))
abbrev b_M_atom : ByteArray := prog_14_method_11_code
def y_M_atom : MethodName := ⟨R_M, "atom", "([BII)I"⟩
def w_M_atom : List Cond := wd_ws y_M_atom b_M_atom 5 (some .int)
set_option maxRecDepth 100000 in
theorem k_M_atom : Cond.code y_M_atom b_M_atom 5 (some .int) ∈ wd_tbl := wd_of 2647 rfl rfl
theorem d_M_atom_0 : decode b_M_atom 0 = .ok (.aload_n 0, 1) := by decide +kernel
theorem d_M_atom_1 : decode b_M_atom 1 = .ok (.getfield 32, 3) := by decide +kernel
theorem d_M_atom_4 : decode b_M_atom 4 = .ok (.aload_n 0, 1) := by decide +kernel
theorem d_M_atom_5 : decode b_M_atom 5 = .ok (.getfield 35, 3) := by decide +kernel
theorem d_M_atom_8 : decode b_M_atom 8 = .ok (.aload_n 0, 1) := by decide +kernel
theorem d_M_atom_9 : decode b_M_atom 9 = .ok (.getfield 385, 3) := by decide +kernel
theorem d_M_atom_12 : decode b_M_atom 12 = .ok (.aload_n 1, 1) := by decide +kernel
theorem d_M_atom_13 : decode b_M_atom 13 = .ok (.iload_n 2, 1) := by decide +kernel
theorem d_M_atom_14 : decode b_M_atom 14 = .ok (.iload_n 3, 1) := by decide +kernel
theorem d_M_atom_15 : decode b_M_atom 15 = .ok (.invokestatic 388, 3) := by decide +kernel
theorem d_M_atom_18 : decode b_M_atom 18 = .ok (.istore 4, 2) := by decide +kernel
theorem d_M_atom_20 : decode b_M_atom 20 = .ok (.aload_n 0, 1) := by decide +kernel
theorem d_M_atom_21 : decode b_M_atom 21 = .ok (.iload 4, 2) := by decide +kernel
theorem d_M_atom_23 : decode b_M_atom 23 = .ok (.aload_n 0, 1) := by decide +kernel
theorem d_M_atom_24 : decode b_M_atom 24 = .ok (.getfield 385, 3) := by decide +kernel
theorem d_M_atom_27 : decode b_M_atom 27 = .ok (.if_icmp .ne 12, 3) := by decide +kernel
theorem d_M_atom_30 : decode b_M_atom 30 = .ok (.aload_n 0, 1) := by decide +kernel
theorem d_M_atom_31 : decode b_M_atom 31 = .ok (.getfield 385, 3) := by decide +kernel
theorem d_M_atom_34 : decode b_M_atom 34 = .ok (.iconst 1, 1) := by decide +kernel
theorem d_M_atom_35 : decode b_M_atom 35 = .ok (.iadd, 1) := by decide +kernel
theorem d_M_atom_36 : decode b_M_atom 36 = .ok (.goto 7, 3) := by decide +kernel
theorem d_M_atom_39 : decode b_M_atom 39 = .ok (.aload_n 0, 1) := by decide +kernel
theorem d_M_atom_40 : decode b_M_atom 40 = .ok (.getfield 385, 3) := by decide +kernel
theorem d_M_atom_43 : decode b_M_atom 43 = .ok (.putfield 385, 3) := by decide +kernel
theorem d_M_atom_46 : decode b_M_atom 46 = .ok (.iload 4, 2) := by decide +kernel
theorem d_M_atom_48 : decode b_M_atom 48 = .ok (.ireturn, 1) := by decide +kernel
set_option maxRecDepth 100000 in
theorem hl_M_atom : Cond.methodLink R_M 398 y_M_atom ∈ wd_tbl := wd_of 2644 (by decide +kernel) rfl
set_option maxRecDepth 100000 in
theorem hi_M_atom : Cond.instanceMethod y_M_atom ∈ wd_tbl := wd_of 2646 (by decide +kernel) rfl
set_option maxRecDepth 100000 in
theorem hs_M_atom : Cond.selects R_M y_M_atom y_M_atom ∈ wd_tbl := wd_of 128 (by decide +kernel) rfl
theorem hd_M_atom : y_M_atom.cls = R_M ∧ y_M_atom.cls ≠ "java/lang/invoke/MethodHandle" ∧ y_M_atom.cls ≠ "java/lang/invoke/VarHandle" ∧ (parseMethodDescriptor y_M_atom.desc).map (fun d => d.parameters.length) = some 3 := by decide +kernel
def rm_M_atom : Room := { frames := 1, cells := 0, slots := 0, locals := 28 }
theorem rm_M_atom_M_textOf {R : Room} (hR : R = rm_M_atom) : (rm_M_textOf).frames + 1 ≤ R.frames ∧ 8 + (9 + 11) + (rm_M_textOf).locals ≤ R.locals := by subst hR; decide
def fb_M_atom_43 (N : Nat) (G : Unit) (u : MS) (v4 : Int32) (t1 : Int32) : Option (MS × Int32) := some ((upI u 14 t1), v4)
set_option maxRecDepth 100000 in
set_option maxHeartbeats 4000000 in
theorem wb_M_atom_43 {p : Program} {l : Launch} {e : Env} {R : Room} {s : State} {m : MethodId} {args : Array Value} {below : List Frame} {meth : Method} {c : Code} {D : va_G} {cl : List vw_C} {cB cI cJ cZ cS : ClassId} {A : Nat → Prop} {iM h0 : Nat} {ad : Nat → Nat} (C0 : MCx p s m args meth c b_M_atom 5 (some .int) D cl cB cI cJ cZ cS iM A) (hR : R = rm_M_atom) (N : Nat) (G : Unit) (hG : True) : ∀ (u : MS) (v4 : Int32) (t1 : Int32) (x : MS × Int32), fb_M_atom_43 N G u v4 t1 = some x → ∀ (H : Heap) (locs : List Loc), va_P D cl (wM cB cI cJ cZ cS iM h0 ad u) H → va_D A (wM cB cI cJ cZ cS iM h0 ad u) → va_S A s.heap H locs → ∀ (ls : Array Slot), lv_has ls 5 [(4, .int v4)] → W p l e R s m args below meth c H locs 0 0 (MQ below (mQi D cl cB cI cJ cZ cS iM h0 ad A x) args s 0 0 A) (F0 m 43 ls [.int t1, .ref h0]) := by
  intro u v4 t1 x hf H locs hP hD hS ls hl
  obtain ⟨hx, hb, hr, hml, ht, hown, hM, hK, hA, hlocks⟩ := id C0
  unfold fb_M_atom_43 at hf
  refine up_I hx hb ht hown hM hK hP hD hS 14 (by decide) lk_M_14 (by decide) rfl rfl rfl d_M_atom_43 (fun H locs hP hD hS => ?_)
  refine lv_iload hx hb d_M_atom_46 (lv_at hl 0 rfl) ?_
  exact mr_i C0 hP hD hS hf d_M_atom_48
def fb_M_atom_0 (N : Nat) (G : Unit) (u : MS) (v1 : Nat) (v2 : Int32) (v3 : Int32) : Option (MS × Int32) := bnd (fm_M_textOf N u 12 13 (u.1 14) v1 v2 v3) (fun u1 r1 => br (decide (r1 = (u1.1 14))) (fb_M_atom_43 N G u1 (r1) (((u1.1 14) + 1))) (fb_M_atom_43 N G u1 (r1) ((u1.1 14))))
set_option maxRecDepth 100000 in
set_option maxHeartbeats 4000000 in
theorem wb_M_atom_0 {p : Program} {l : Launch} {e : Env} {R : Room} {s : State} {m : MethodId} {args : Array Value} {below : List Frame} {meth : Method} {c : Code} {D : va_G} {cl : List vw_C} {cB cI cJ cZ cS : ClassId} {A : Nat → Prop} {iM h0 : Nat} {ad : Nat → Nat} (C0 : MCx p s m args meth c b_M_atom 5 (some .int) D cl cB cI cJ cZ cS iM A) (hR : R = rm_M_atom) (N : Nat) (G : Unit) (hG : True) : ∀ (u : MS) (v1 : Nat) (v2 : Int32) (v3 : Int32) (x : MS × Int32), fb_M_atom_0 N G u v1 v2 v3 = some x → ∀ (H : Heap) (locs : List Loc), va_P D cl (wM cB cI cJ cZ cS iM h0 ad u) H → va_D A (wM cB cI cJ cZ cS iM h0 ad u) → va_S A s.heap H locs → ∀ (ls : Array Slot), lv_has ls 5 [(0, .ref h0), (1, .ref (ad v1)), (2, .int v2), (3, .int v3)] → W p l e R s m args below meth c H locs 0 0 (MQ below (mQi D cl cB cI cJ cZ cS iM h0 ad A x) args s 0 0 A) (F0 m 0 ls []) := by
  intro u v1 v2 v3 x hf H locs hP hD hS ls hl
  obtain ⟨hx, hb, hr, hml, ht, hown, hM, hK, hA, hlocks⟩ := id C0
  unfold fb_M_atom_0 at hf
  refine lv_aload_n hx hb d_M_atom_0 rfl (lv_at hl 0 rfl) ?_
  refine ug_R hx hb ht hown hM hK hP 12 (by decide) lk_M_12 (by decide) d_M_atom_1 ?_
  refine lv_aload_n hx hb d_M_atom_4 rfl (lv_at hl 0 rfl) ?_
  refine ug_R hx hb ht hown hM hK hP 13 (by decide) lk_M_13 (by decide) d_M_atom_5 ?_
  refine lv_aload_n hx hb d_M_atom_8 rfl (lv_at hl 0 rfl) ?_
  refine ug_I hx hb ht hown hM hK hP 14 (by decide) lk_M_14 (by decide) d_M_atom_9 ?_
  refine lv_aload_n hx hb d_M_atom_12 rfl (lv_at hl 1 rfl) ?_
  refine lv_iload_n hx hb d_M_atom_13 rfl (lv_at hl 2 rfl) ?_
  refine lv_iload_n hx hb d_M_atom_14 rfl (lv_at hl 3 rfl) ?_
  obtain ⟨u1, r1, hc1, hf⟩ := bnd_some hf
  refine mS_i (As := [.ref (ad 12), .ref (ad 13), .int (u.1 14), .ref (ad v1), .int v2, .int v3]) (rest := []) C0 hP hD hS (c_M_textOf N hM hc1) k_M_textOf hl_M_textOf ht_M_textOf hini_M rfl rfl hd_M_textOf rfl (rm_M_atom_M_textOf hR) hl.1 (Nat.le_of_ble_eq_true rfl) d_M_atom_15 rfl ⟨Nat.zero_le _, Nat.zero_le _⟩ (fun H locs hP hD hS => ?_)
  refine lv_istore (lv' := [(4, .int r1), (0, .ref h0), (1, .ref (ad v1)), (2, .int v2), (3, .int v3)]) hx hb d_M_atom_18 hl (by decide) rfl (fun ls hl => ?_)
  refine lv_aload_n hx hb d_M_atom_20 rfl (lv_at hl 1 rfl) ?_
  refine lv_iload hx hb d_M_atom_21 (lv_at hl 0 rfl) ?_
  refine lv_aload_n hx hb d_M_atom_23 rfl (lv_at hl 1 rfl) ?_
  refine ug_I hx hb ht hown hM hK hP 14 (by decide) lk_M_14 (by decide) d_M_atom_24 ?_
  refine lv_icmp_ne (tgt := 39) hx hb d_M_atom_27 (by decide) (fun hc => ?_) (fun hc => ?_)
  · rw [br_n _ hc] at hf
    refine lv_aload_n hx hb d_M_atom_39 rfl (lv_at hl 1 rfl) ?_
    refine ug_I hx hb ht hown hM hK hP 14 (by decide) lk_M_14 (by decide) d_M_atom_40 ?_
    exact wb_M_atom_43 C0 hR N G hG _ _ _ _ hf H locs hP hD hS ls (lv_sub hl [0] rfl)
  · rw [br_p _ hc] at hf
    refine lv_aload_n hx hb d_M_atom_30 rfl (lv_at hl 1 rfl) ?_
    refine ug_I hx hb ht hown hM hK hP 14 (by decide) lk_M_14 (by decide) d_M_atom_31 ?_
    refine lv_iconst (v := 1) hx hb d_M_atom_34 (by decide) ?_
    refine lv_iadd hx hb d_M_atom_35 ?_
    refine lv_goto (tgt := 43) hx hb d_M_atom_36 (by decide) ?_
    exact wb_M_atom_43 C0 hR N G hG _ _ _ _ hf H locs hP hD hS ls (lv_sub hl [0] rfl)
def fm_M_atom (N : Nat) (u : MS) (v1 : Nat) (v2 : Int32) (v3 : Int32) : Option (MS × Int32) := fb_M_atom_0 N () u v1 v2 v3
set_option maxRecDepth 100000 in
set_option maxHeartbeats 4000000 in
theorem c_M_atom (N : Nat) {l : Launch} {D : va_G} {cl : List vw_C} {cB cI cJ cZ cS : ClassId} {iM h0 : Nat} {ad : Nat → Nat} {u : MS} {sz : Nat} {v1 : Nat} {v2 : Int32} {v3 : Int32} {x : MS × Int32} (hM : cl[iM]? = some (R_M, F_M, 171)) (hf : fm_M_atom N u v1 v2 v3 = some x) : Met l y_M_atom (wd_ws y_M_atom b_M_atom 5 (some .int)) rm_M_atom (mPc D cl cB cI cJ cZ cS iM h0 ad u sz [.ref h0, .ref (ad v1), .int v2, .int v3]) (mQi D cl cB cI cJ cZ cS iM h0 ad (mA cB cI cJ cZ cS iM h0 ad u sz) x) 0 0 (mA cB cI cJ cZ cS iM h0 ad u sz) :=
  mMet (by decide) rfl hM (Nat.le_of_ble_eq_true rfl) (fun p e s m below meth c ls hsz C0 hP hD hS hl => by
    have hR : rm_M_atom = rm_M_atom := rfl
    exact wb_M_atom_0 C0 hR N () trivial u _ _ _ x hf s.heap [] hP hD hS ls (lv_sub hl [0, 1, 2, 3] rfl))
abbrev b_M_allFirstAtoms : ByteArray := prog_14_method_12_code
def y_M_allFirstAtoms : MethodName := ⟨R_M, "allFirstAtoms", "()V"⟩
def w_M_allFirstAtoms : List Cond := wd_ws y_M_allFirstAtoms b_M_allFirstAtoms 3 none
set_option maxRecDepth 100000 in
theorem k_M_allFirstAtoms : Cond.code y_M_allFirstAtoms b_M_allFirstAtoms 3 none ∈ wd_tbl := wd_of 2643 rfl rfl
theorem d_M_allFirstAtoms_0 : decode b_M_allFirstAtoms 0 = .ok (.aload_n 0, 1) := by decide +kernel
theorem d_M_allFirstAtoms_1 : decode b_M_allFirstAtoms 1 = .ok (.iconst 0, 1) := by decide +kernel
theorem d_M_allFirstAtoms_2 : decode b_M_allFirstAtoms 2 = .ok (.putfield 385, 3) := by decide +kernel
theorem d_M_allFirstAtoms_5 : decode b_M_allFirstAtoms 5 = .ok (.aload_n 0, 1) := by decide +kernel
theorem d_M_allFirstAtoms_6 : decode b_M_allFirstAtoms 6 = .ok (.iconst 0, 1) := by decide +kernel
theorem d_M_allFirstAtoms_7 : decode b_M_allFirstAtoms 7 = .ok (.putfield 392, 3) := by decide +kernel
theorem d_M_allFirstAtoms_10 : decode b_M_allFirstAtoms 10 = .ok (.aload_n 0, 1) := by decide +kernel
theorem d_M_allFirstAtoms_11 : decode b_M_allFirstAtoms 11 = .ok (.iconst 0, 1) := by decide +kernel
theorem d_M_allFirstAtoms_12 : decode b_M_allFirstAtoms 12 = .ok (.putfield 395, 3) := by decide +kernel
theorem d_M_allFirstAtoms_15 : decode b_M_allFirstAtoms 15 = .ok (.iconst 0, 1) := by decide +kernel
theorem d_M_allFirstAtoms_16 : decode b_M_allFirstAtoms 16 = .ok (.istore_n 1, 1) := by decide +kernel
theorem d_M_allFirstAtoms_17 : decode b_M_allFirstAtoms 17 = .ok (.iload_n 1, 1) := by decide +kernel
theorem d_M_allFirstAtoms_18 : decode b_M_allFirstAtoms 18 = .ok (.aload_n 0, 1) := by decide +kernel
theorem d_M_allFirstAtoms_19 : decode b_M_allFirstAtoms 19 = .ok (.getfield 13, 3) := by decide +kernel
theorem d_M_allFirstAtoms_22 : decode b_M_allFirstAtoms 22 = .ok (.arraylength, 1) := by decide +kernel
theorem d_M_allFirstAtoms_23 : decode b_M_allFirstAtoms 23 = .ok (.if_icmp .ge 35, 3) := by decide +kernel
theorem d_M_allFirstAtoms_26 : decode b_M_allFirstAtoms 26 = .ok (.aload_n 0, 1) := by decide +kernel
theorem d_M_allFirstAtoms_27 : decode b_M_allFirstAtoms 27 = .ok (.aload_n 0, 1) := by decide +kernel
theorem d_M_allFirstAtoms_28 : decode b_M_allFirstAtoms 28 = .ok (.getfield 13, 3) := by decide +kernel
theorem d_M_allFirstAtoms_31 : decode b_M_allFirstAtoms 31 = .ok (.iload_n 1, 1) := by decide +kernel
theorem d_M_allFirstAtoms_32 : decode b_M_allFirstAtoms 32 = .ok (.iconst 1, 1) := by decide +kernel
theorem d_M_allFirstAtoms_33 : decode b_M_allFirstAtoms 33 = .ok (.iadd, 1) := by decide +kernel
theorem d_M_allFirstAtoms_34 : decode b_M_allFirstAtoms 34 = .ok (.aload_n 0, 1) := by decide +kernel
theorem d_M_allFirstAtoms_35 : decode b_M_allFirstAtoms 35 = .ok (.getfield 13, 3) := by decide +kernel
theorem d_M_allFirstAtoms_38 : decode b_M_allFirstAtoms 38 = .ok (.iload_n 1, 1) := by decide +kernel
theorem d_M_allFirstAtoms_39 : decode b_M_allFirstAtoms 39 = .ok (.baload, 1) := by decide +kernel
theorem d_M_allFirstAtoms_40 : decode b_M_allFirstAtoms 40 = .ok (.invokevirtual 398, 3) := by decide +kernel
theorem d_M_allFirstAtoms_43 : decode b_M_allFirstAtoms 43 = .ok (.istore_n 2, 1) := by decide +kernel
theorem d_M_allFirstAtoms_44 : decode b_M_allFirstAtoms 44 = .ok (.iload_n 1, 1) := by decide +kernel
theorem d_M_allFirstAtoms_45 : decode b_M_allFirstAtoms 45 = .ok (.aload_n 0, 1) := by decide +kernel
theorem d_M_allFirstAtoms_46 : decode b_M_allFirstAtoms 46 = .ok (.getfield 13, 3) := by decide +kernel
theorem d_M_allFirstAtoms_49 : decode b_M_allFirstAtoms 49 = .ok (.iload_n 1, 1) := by decide +kernel
theorem d_M_allFirstAtoms_50 : decode b_M_allFirstAtoms 50 = .ok (.baload, 1) := by decide +kernel
theorem d_M_allFirstAtoms_51 : decode b_M_allFirstAtoms 51 = .ok (.iconst 1, 1) := by decide +kernel
theorem d_M_allFirstAtoms_52 : decode b_M_allFirstAtoms 52 = .ok (.iadd, 1) := by decide +kernel
theorem d_M_allFirstAtoms_53 : decode b_M_allFirstAtoms 53 = .ok (.iadd, 1) := by decide +kernel
theorem d_M_allFirstAtoms_54 : decode b_M_allFirstAtoms 54 = .ok (.istore_n 1, 1) := by decide +kernel
theorem d_M_allFirstAtoms_55 : decode b_M_allFirstAtoms 55 = .ok (.goto (-38), 3) := by decide +kernel
theorem d_M_allFirstAtoms_58 : decode b_M_allFirstAtoms 58 = .ok (.return_, 1) := by decide +kernel
set_option maxRecDepth 100000 in
theorem hl_M_allFirstAtoms : Cond.methodLink R_M 411 y_M_allFirstAtoms ∈ wd_tbl := wd_of 2640 (by decide +kernel) rfl
set_option maxRecDepth 100000 in
theorem hi_M_allFirstAtoms : Cond.instanceMethod y_M_allFirstAtoms ∈ wd_tbl := wd_of 2642 (by decide +kernel) rfl
set_option maxRecDepth 100000 in
theorem hs_M_allFirstAtoms : Cond.selects R_M y_M_allFirstAtoms y_M_allFirstAtoms ∈ wd_tbl := wd_of 127 (by decide +kernel) rfl
theorem hd_M_allFirstAtoms : y_M_allFirstAtoms.cls = R_M ∧ y_M_allFirstAtoms.cls ≠ "java/lang/invoke/MethodHandle" ∧ y_M_allFirstAtoms.cls ≠ "java/lang/invoke/VarHandle" ∧ (parseMethodDescriptor y_M_allFirstAtoms.desc).map (fun d => d.parameters.length) = some 0 := by decide +kernel
def rm_M_allFirstAtoms : Room := { frames := 2, cells := 0, slots := 0, locals := 52 }
theorem rm_M_allFirstAtoms_M_atom {R : Room} (hR : R = rm_M_allFirstAtoms) : (rm_M_atom).frames + 1 ≤ R.frames ∧ 8 + (5 + 11) + (rm_M_atom).locals ≤ R.locals := by subst hR; decide
def fb_M_allFirstAtoms_17 (N : Nat) (G : (MS → Int32 → Option (MS × Unit))) (u : MS) (v1 : Int32) : Option (MS × Unit) := br (decide ((Int32.ofNat (ln 1)) ≤ v1)) (some (u, ())) (ck (inb v1 (ln 1)) (bnd (fm_M_atom N u 1 (v1 + 1) (u.2.2.1 1 v1.toNatClampNeg)) (fun u1 r1 => ck (inb v1 (ln 1)) (G u1 ((v1 + ((u1.2.2.1 1 v1.toNatClampNeg) + 1)))))))
set_option maxRecDepth 100000 in
set_option maxHeartbeats 4000000 in
theorem wb_M_allFirstAtoms_17 {p : Program} {l : Launch} {e : Env} {R : Room} {s : State} {m : MethodId} {args : Array Value} {below : List Frame} {meth : Method} {c : Code} {D : va_G} {cl : List vw_C} {cB cI cJ cZ cS : ClassId} {A : Nat → Prop} {iM h0 : Nat} {ad : Nat → Nat} (C0 : MCx p s m args meth c b_M_allFirstAtoms 3 none D cl cB cI cJ cZ cS iM A) (hR : R = rm_M_allFirstAtoms) (N : Nat) (G : (MS → Int32 → Option (MS × Unit))) (hG : (∀ (u : MS) (v1 : Int32) (x : MS × Unit), G u v1 = some x → ∀ (H : Heap) (locs : List Loc), va_P D cl (wM cB cI cJ cZ cS iM h0 ad u) H → va_D A (wM cB cI cJ cZ cS iM h0 ad u) → va_S A s.heap H locs → ∀ (ls : Array Slot), lv_has ls 3 [(0, .ref h0), (1, .int v1)] → W p l e R s m args below meth c H locs 0 0 (MQ below (mQv D cl cB cI cJ cZ cS iM h0 ad A x) args s 0 0 A) (F0 m 17 ls []))) : ∀ (u : MS) (v1 : Int32) (x : MS × Unit), fb_M_allFirstAtoms_17 N G u v1 = some x → ∀ (H : Heap) (locs : List Loc), va_P D cl (wM cB cI cJ cZ cS iM h0 ad u) H → va_D A (wM cB cI cJ cZ cS iM h0 ad u) → va_S A s.heap H locs → ∀ (ls : Array Slot), lv_has ls 3 [(0, .ref h0), (1, .int v1)] → W p l e R s m args below meth c H locs 0 0 (MQ below (mQv D cl cB cI cJ cZ cS iM h0 ad A x) args s 0 0 A) (F0 m 17 ls []) := by
  intro u v1 x hf H locs hP hD hS ls hl
  obtain ⟨hx, hb, hr, hml, ht, hown, hM, hK, hA, hlocks⟩ := id C0
  unfold fb_M_allFirstAtoms_17 at hf
  refine lv_iload_n hx hb d_M_allFirstAtoms_17 rfl (lv_at hl 1 rfl) ?_
  refine lv_aload_n hx hb d_M_allFirstAtoms_18 rfl (lv_at hl 0 rfl) ?_
  refine ug_R hx hb ht hown hM hK hP 1 (by decide) lk_M_1 (by decide) d_M_allFirstAtoms_19 ?_
  refine un_A hx hb hK hP (k := 1) (by decide) (by decide) d_M_allFirstAtoms_22 ?_
  refine lv_icmp_ge (tgt := 58) hx hb d_M_allFirstAtoms_23 (by decide) (fun hc => ?_) (fun hc => ?_)
  · rw [br_p _ hc] at hf
    exact mr_v C0 hP hD hS hf d_M_allFirstAtoms_58
  · rw [br_n _ hc] at hf
    refine lv_aload_n hx hb d_M_allFirstAtoms_26 rfl (lv_at hl 0 rfl) ?_
    refine lv_aload_n hx hb d_M_allFirstAtoms_27 rfl (lv_at hl 0 rfl) ?_
    refine ug_R hx hb ht hown hM hK hP 1 (by decide) lk_M_1 (by decide) d_M_allFirstAtoms_28 ?_
    refine lv_iload_n hx hb d_M_allFirstAtoms_31 rfl (lv_at hl 1 rfl) ?_
    refine lv_iconst (v := 1) hx hb d_M_allFirstAtoms_32 (by decide) ?_
    refine lv_iadd hx hb d_M_allFirstAtoms_33 ?_
    refine lv_aload_n hx hb d_M_allFirstAtoms_34 rfl (lv_at hl 0 rfl) ?_
    refine ug_R hx hb ht hown hM hK hP 1 (by decide) lk_M_1 (by decide) d_M_allFirstAtoms_35 ?_
    refine lv_iload_n hx hb d_M_allFirstAtoms_38 rfl (lv_at hl 1 rfl) ?_
    obtain ⟨hi9, hf⟩ := ck_some hf
    refine ul_B hx hb hK hP (by decide) (by decide) hi9 d_M_allFirstAtoms_39 ?_
    obtain ⟨u1, r1, hc1, hf⟩ := bnd_some hf
    refine mV_i (As := [.ref (ad 1), .int (v1 + 1), .int (u.2.2.1 1 v1.toNatClampNeg)]) (rest := []) C0 hP hD hS (c_M_atom N hM hc1) k_M_atom hl_M_atom hi_M_atom hs_M_atom hini_M rfl rfl hd_M_atom rfl (rm_M_allFirstAtoms_M_atom hR) hl.1 (Nat.le_of_ble_eq_true rfl) d_M_allFirstAtoms_40 rfl ⟨Nat.zero_le _, Nat.zero_le _⟩ (fun H locs hP hD hS => ?_)
    refine lv_istore_n (lv' := [(2, .int r1), (0, .ref h0), (1, .int v1)]) hx hb d_M_allFirstAtoms_43 rfl hl (by decide) rfl (fun ls hl => ?_)
    refine lv_iload_n hx hb d_M_allFirstAtoms_44 rfl (lv_at hl 2 rfl) ?_
    refine lv_aload_n hx hb d_M_allFirstAtoms_45 rfl (lv_at hl 1 rfl) ?_
    refine ug_R hx hb ht hown hM hK hP 1 (by decide) lk_M_1 (by decide) d_M_allFirstAtoms_46 ?_
    refine lv_iload_n hx hb d_M_allFirstAtoms_49 rfl (lv_at hl 2 rfl) ?_
    obtain ⟨hi9, hf⟩ := ck_some hf
    refine ul_B hx hb hK hP (by decide) (by decide) hi9 d_M_allFirstAtoms_50 ?_
    refine lv_iconst (v := 1) hx hb d_M_allFirstAtoms_51 (by decide) ?_
    refine lv_iadd hx hb d_M_allFirstAtoms_52 ?_
    refine lv_iadd hx hb d_M_allFirstAtoms_53 ?_
    refine lv_istore_n (lv' := [(1, .int (v1 + ((u1.2.2.1 1 v1.toNatClampNeg) + 1))), (2, .int r1), (0, .ref h0)]) hx hb d_M_allFirstAtoms_54 rfl hl (by decide) rfl (fun ls hl => ?_)
    refine lv_goto (tgt := 17) hx hb d_M_allFirstAtoms_55 (by decide) ?_
    exact hG _ _ _ hf H locs hP hD hS ls (lv_sub hl [2, 0] rfl)
def fb_M_allFirstAtoms_0 (N : Nat) (G : (MS → Int32 → Option (MS × Unit))) (u : MS) : Option (MS × Unit) := G (upI (upI (upI u 14 0) 17 0) 20 0) (0)
set_option maxRecDepth 100000 in
set_option maxHeartbeats 4000000 in
theorem wb_M_allFirstAtoms_0 {p : Program} {l : Launch} {e : Env} {R : Room} {s : State} {m : MethodId} {args : Array Value} {below : List Frame} {meth : Method} {c : Code} {D : va_G} {cl : List vw_C} {cB cI cJ cZ cS : ClassId} {A : Nat → Prop} {iM h0 : Nat} {ad : Nat → Nat} (C0 : MCx p s m args meth c b_M_allFirstAtoms 3 none D cl cB cI cJ cZ cS iM A) (hR : R = rm_M_allFirstAtoms) (N : Nat) (G : (MS → Int32 → Option (MS × Unit))) (hG : (∀ (u : MS) (v1 : Int32) (x : MS × Unit), G u v1 = some x → ∀ (H : Heap) (locs : List Loc), va_P D cl (wM cB cI cJ cZ cS iM h0 ad u) H → va_D A (wM cB cI cJ cZ cS iM h0 ad u) → va_S A s.heap H locs → ∀ (ls : Array Slot), lv_has ls 3 [(0, .ref h0), (1, .int v1)] → W p l e R s m args below meth c H locs 0 0 (MQ below (mQv D cl cB cI cJ cZ cS iM h0 ad A x) args s 0 0 A) (F0 m 17 ls []))) : ∀ (u : MS) (x : MS × Unit), fb_M_allFirstAtoms_0 N G u = some x → ∀ (H : Heap) (locs : List Loc), va_P D cl (wM cB cI cJ cZ cS iM h0 ad u) H → va_D A (wM cB cI cJ cZ cS iM h0 ad u) → va_S A s.heap H locs → ∀ (ls : Array Slot), lv_has ls 3 [(0, .ref h0)] → W p l e R s m args below meth c H locs 0 0 (MQ below (mQv D cl cB cI cJ cZ cS iM h0 ad A x) args s 0 0 A) (F0 m 0 ls []) := by
  intro u x hf H locs hP hD hS ls hl
  obtain ⟨hx, hb, hr, hml, ht, hown, hM, hK, hA, hlocks⟩ := id C0
  unfold fb_M_allFirstAtoms_0 at hf
  refine lv_aload_n hx hb d_M_allFirstAtoms_0 rfl (lv_at hl 0 rfl) ?_
  refine lv_iconst (v := 0) hx hb d_M_allFirstAtoms_1 (by decide) ?_
  refine up_I hx hb ht hown hM hK hP hD hS 14 (by decide) lk_M_14 (by decide) rfl rfl rfl d_M_allFirstAtoms_2 (fun H locs hP hD hS => ?_)
  refine lv_aload_n hx hb d_M_allFirstAtoms_5 rfl (lv_at hl 0 rfl) ?_
  refine lv_iconst (v := 0) hx hb d_M_allFirstAtoms_6 (by decide) ?_
  refine up_I hx hb ht hown hM hK hP hD hS 17 (by decide) lk_M_17 (by decide) rfl rfl rfl d_M_allFirstAtoms_7 (fun H locs hP hD hS => ?_)
  refine lv_aload_n hx hb d_M_allFirstAtoms_10 rfl (lv_at hl 0 rfl) ?_
  refine lv_iconst (v := 0) hx hb d_M_allFirstAtoms_11 (by decide) ?_
  refine up_I hx hb ht hown hM hK hP hD hS 20 (by decide) lk_M_20 (by decide) rfl rfl rfl d_M_allFirstAtoms_12 (fun H locs hP hD hS => ?_)
  refine lv_iconst (v := 0) hx hb d_M_allFirstAtoms_15 (by decide) ?_
  refine lv_istore_n (lv' := [(1, .int 0), (0, .ref h0)]) hx hb d_M_allFirstAtoms_16 rfl hl (by decide) rfl (fun ls hl => ?_)
  exact hG _ _ _ hf H locs hP hD hS ls (lv_sub hl [1, 0] rfl)
def gg_M_allFirstAtoms (N : Nat) : Nat → ((MS → Int32 → Option (MS × Unit)))
  | 0 => fun _ _ => none
  | n + 1 => fb_M_allFirstAtoms_17 N (gg_M_allFirstAtoms N n)
theorem wg_M_allFirstAtoms {p : Program} {l : Launch} {e : Env} {R : Room} {s : State} {m : MethodId} {args : Array Value} {below : List Frame} {meth : Method} {c : Code} {D : va_G} {cl : List vw_C} {cB cI cJ cZ cS : ClassId} {A : Nat → Prop} {iM h0 : Nat} {ad : Nat → Nat} (C0 : MCx p s m args meth c b_M_allFirstAtoms 3 none D cl cB cI cJ cZ cS iM A) (hR : R = rm_M_allFirstAtoms) (N : Nat) : ∀ n : Nat, (∀ (u : MS) (v1 : Int32) (x : MS × Unit), gg_M_allFirstAtoms N n u v1 = some x → ∀ (H : Heap) (locs : List Loc), va_P D cl (wM cB cI cJ cZ cS iM h0 ad u) H → va_D A (wM cB cI cJ cZ cS iM h0 ad u) → va_S A s.heap H locs → ∀ (ls : Array Slot), lv_has ls 3 [(0, .ref h0), (1, .int v1)] → W p l e R s m args below meth c H locs 0 0 (MQ below (mQv D cl cB cI cJ cZ cS iM h0 ad A x) args s 0 0 A) (F0 m 17 ls []))
  | 0 => (fun u v1 x hf => by cases hf)
  | n + 1 => wb_M_allFirstAtoms_17 C0 hR N (gg_M_allFirstAtoms N n) (wg_M_allFirstAtoms C0 hR N n)
def fm_M_allFirstAtoms (N : Nat) (u : MS) : Option (MS × Unit) := fb_M_allFirstAtoms_0 N (gg_M_allFirstAtoms N N) u
set_option maxRecDepth 100000 in
set_option maxHeartbeats 4000000 in
theorem c_M_allFirstAtoms (N : Nat) {l : Launch} {D : va_G} {cl : List vw_C} {cB cI cJ cZ cS : ClassId} {iM h0 : Nat} {ad : Nat → Nat} {u : MS} {sz : Nat} {x : MS × Unit} (hM : cl[iM]? = some (R_M, F_M, 171)) (hf : fm_M_allFirstAtoms N u = some x) : Met l y_M_allFirstAtoms (wd_ws y_M_allFirstAtoms b_M_allFirstAtoms 3 none) rm_M_allFirstAtoms (mPc D cl cB cI cJ cZ cS iM h0 ad u sz [.ref h0]) (mQv D cl cB cI cJ cZ cS iM h0 ad (mA cB cI cJ cZ cS iM h0 ad u sz) x) 0 0 (mA cB cI cJ cZ cS iM h0 ad u sz) :=
  mMet (by decide) rfl hM (Nat.le_of_ble_eq_true rfl) (fun p e s m below meth c ls hsz C0 hP hD hS hl => by
    have hR : rm_M_allFirstAtoms = rm_M_allFirstAtoms := rfl
    exact wb_M_allFirstAtoms_0 C0 hR N (gg_M_allFirstAtoms N N) (wg_M_allFirstAtoms C0 hR N N) u x hf s.heap [] hP hD hS ls (lv_sub hl [0] rfl))
abbrev b_M_token : ByteArray := prog_14_method_14_code
def y_M_token : MethodName := ⟨R_M, "token", "(II)V"⟩
def w_M_token : List Cond := wd_ws y_M_token b_M_token 3 none
set_option maxRecDepth 100000 in
theorem k_M_token : Cond.code y_M_token b_M_token 3 none ∈ wd_tbl := wd_of 2678 rfl rfl
theorem d_M_token_0 : decode b_M_token 0 = .ok (.aload_n 0, 1) := by decide +kernel
theorem d_M_token_1 : decode b_M_token 1 = .ok (.getfield 22, 3) := by decide +kernel
theorem d_M_token_4 : decode b_M_token 4 = .ok (.aload_n 0, 1) := by decide +kernel
theorem d_M_token_5 : decode b_M_token 5 = .ok (.getfield 402, 3) := by decide +kernel
theorem d_M_token_8 : decode b_M_token 8 = .ok (.iload_n 1, 1) := by decide +kernel
theorem d_M_token_9 : decode b_M_token 9 = .ok (.i2b, 1) := by decide +kernel
theorem d_M_token_10 : decode b_M_token 10 = .ok (.bastore, 1) := by decide +kernel
theorem d_M_token_11 : decode b_M_token 11 = .ok (.aload_n 0, 1) := by decide +kernel
theorem d_M_token_12 : decode b_M_token 12 = .ok (.getfield 25, 3) := by decide +kernel
theorem d_M_token_15 : decode b_M_token 15 = .ok (.aload_n 0, 1) := by decide +kernel
theorem d_M_token_16 : decode b_M_token 16 = .ok (.getfield 402, 3) := by decide +kernel
theorem d_M_token_19 : decode b_M_token 19 = .ok (.iload_n 2, 1) := by decide +kernel
theorem d_M_token_20 : decode b_M_token 20 = .ok (.iastore, 1) := by decide +kernel
theorem d_M_token_21 : decode b_M_token 21 = .ok (.aload_n 0, 1) := by decide +kernel
theorem d_M_token_22 : decode b_M_token 22 = .ok (.getfield 29, 3) := by decide +kernel
theorem d_M_token_25 : decode b_M_token 25 = .ok (.aload_n 0, 1) := by decide +kernel
theorem d_M_token_26 : decode b_M_token 26 = .ok (.getfield 402, 3) := by decide +kernel
theorem d_M_token_29 : decode b_M_token 29 = .ok (.aload_n 0, 1) := by decide +kernel
theorem d_M_token_30 : decode b_M_token 30 = .ok (.getfield 405, 3) := by decide +kernel
theorem d_M_token_33 : decode b_M_token 33 = .ok (.iastore, 1) := by decide +kernel
theorem d_M_token_34 : decode b_M_token 34 = .ok (.aload_n 0, 1) := by decide +kernel
theorem d_M_token_35 : decode b_M_token 35 = .ok (.dup, 1) := by decide +kernel
theorem d_M_token_36 : decode b_M_token 36 = .ok (.getfield 402, 3) := by decide +kernel
theorem d_M_token_39 : decode b_M_token 39 = .ok (.iconst 1, 1) := by decide +kernel
theorem d_M_token_40 : decode b_M_token 40 = .ok (.iadd, 1) := by decide +kernel
theorem d_M_token_41 : decode b_M_token 41 = .ok (.putfield 402, 3) := by decide +kernel
theorem d_M_token_44 : decode b_M_token 44 = .ok (.return_, 1) := by decide +kernel
set_option maxRecDepth 100000 in
theorem hl_M_token : Cond.methodLink R_M 431 y_M_token ∈ wd_tbl := wd_of 2675 (by decide +kernel) rfl
set_option maxRecDepth 100000 in
theorem hi_M_token : Cond.instanceMethod y_M_token ∈ wd_tbl := wd_of 2677 (by decide +kernel) rfl
set_option maxRecDepth 100000 in
theorem hs_M_token : Cond.selects R_M y_M_token y_M_token ∈ wd_tbl := wd_of 132 (by decide +kernel) rfl
theorem hd_M_token : y_M_token.cls = R_M ∧ y_M_token.cls ≠ "java/lang/invoke/MethodHandle" ∧ y_M_token.cls ≠ "java/lang/invoke/VarHandle" ∧ (parseMethodDescriptor y_M_token.desc).map (fun d => d.parameters.length) = some 2 := by decide +kernel
def rm_M_token : Room := { frames := 0, cells := 0, slots := 0, locals := 0 }
def fb_M_token_0 (N : Nat) (G : Unit) (u : MS) (v1 : Int32) (v2 : Int32) : Option (MS × Unit) := ck (inb (u.1 9) (ln 6)) (ck (inb ((upA u 6 (upd (u.2.2.1 6) (u.1 9).toNatClampNeg (vp_nar .byte (v1.toInt8.toInt32)))).1 9) (ln 7)) (ck (inb ((upA (upA u 6 (upd (u.2.2.1 6) (u.1 9).toNatClampNeg (vp_nar .byte (v1.toInt8.toInt32)))) 7 (upd ((upA u 6 (upd (u.2.2.1 6) (u.1 9).toNatClampNeg (vp_nar .byte (v1.toInt8.toInt32)))).2.2.1 7) ((upA u 6 (upd (u.2.2.1 6) (u.1 9).toNatClampNeg (vp_nar .byte (v1.toInt8.toInt32)))).1 9).toNatClampNeg v2)).1 9) (ln 8)) (some ((upI (upA (upA (upA u 6 (upd (u.2.2.1 6) (u.1 9).toNatClampNeg (vp_nar .byte (v1.toInt8.toInt32)))) 7 (upd ((upA u 6 (upd (u.2.2.1 6) (u.1 9).toNatClampNeg (vp_nar .byte (v1.toInt8.toInt32)))).2.2.1 7) ((upA u 6 (upd (u.2.2.1 6) (u.1 9).toNatClampNeg (vp_nar .byte (v1.toInt8.toInt32)))).1 9).toNatClampNeg v2)) 8 (upd ((upA (upA u 6 (upd (u.2.2.1 6) (u.1 9).toNatClampNeg (vp_nar .byte (v1.toInt8.toInt32)))) 7 (upd ((upA u 6 (upd (u.2.2.1 6) (u.1 9).toNatClampNeg (vp_nar .byte (v1.toInt8.toInt32)))).2.2.1 7) ((upA u 6 (upd (u.2.2.1 6) (u.1 9).toNatClampNeg (vp_nar .byte (v1.toInt8.toInt32)))).1 9).toNatClampNeg v2)).2.2.1 8) ((upA (upA u 6 (upd (u.2.2.1 6) (u.1 9).toNatClampNeg (vp_nar .byte (v1.toInt8.toInt32)))) 7 (upd ((upA u 6 (upd (u.2.2.1 6) (u.1 9).toNatClampNeg (vp_nar .byte (v1.toInt8.toInt32)))).2.2.1 7) ((upA u 6 (upd (u.2.2.1 6) (u.1 9).toNatClampNeg (vp_nar .byte (v1.toInt8.toInt32)))).1 9).toNatClampNeg v2)).1 9).toNatClampNeg ((upA (upA u 6 (upd (u.2.2.1 6) (u.1 9).toNatClampNeg (vp_nar .byte (v1.toInt8.toInt32)))) 7 (upd ((upA u 6 (upd (u.2.2.1 6) (u.1 9).toNatClampNeg (vp_nar .byte (v1.toInt8.toInt32)))).2.2.1 7) ((upA u 6 (upd (u.2.2.1 6) (u.1 9).toNatClampNeg (vp_nar .byte (v1.toInt8.toInt32)))).1 9).toNatClampNeg v2)).1 11))) 9 (((upA (upA (upA u 6 (upd (u.2.2.1 6) (u.1 9).toNatClampNeg (vp_nar .byte (v1.toInt8.toInt32)))) 7 (upd ((upA u 6 (upd (u.2.2.1 6) (u.1 9).toNatClampNeg (vp_nar .byte (v1.toInt8.toInt32)))).2.2.1 7) ((upA u 6 (upd (u.2.2.1 6) (u.1 9).toNatClampNeg (vp_nar .byte (v1.toInt8.toInt32)))).1 9).toNatClampNeg v2)) 8 (upd ((upA (upA u 6 (upd (u.2.2.1 6) (u.1 9).toNatClampNeg (vp_nar .byte (v1.toInt8.toInt32)))) 7 (upd ((upA u 6 (upd (u.2.2.1 6) (u.1 9).toNatClampNeg (vp_nar .byte (v1.toInt8.toInt32)))).2.2.1 7) ((upA u 6 (upd (u.2.2.1 6) (u.1 9).toNatClampNeg (vp_nar .byte (v1.toInt8.toInt32)))).1 9).toNatClampNeg v2)).2.2.1 8) ((upA (upA u 6 (upd (u.2.2.1 6) (u.1 9).toNatClampNeg (vp_nar .byte (v1.toInt8.toInt32)))) 7 (upd ((upA u 6 (upd (u.2.2.1 6) (u.1 9).toNatClampNeg (vp_nar .byte (v1.toInt8.toInt32)))).2.2.1 7) ((upA u 6 (upd (u.2.2.1 6) (u.1 9).toNatClampNeg (vp_nar .byte (v1.toInt8.toInt32)))).1 9).toNatClampNeg v2)).1 9).toNatClampNeg ((upA (upA u 6 (upd (u.2.2.1 6) (u.1 9).toNatClampNeg (vp_nar .byte (v1.toInt8.toInt32)))) 7 (upd ((upA u 6 (upd (u.2.2.1 6) (u.1 9).toNatClampNeg (vp_nar .byte (v1.toInt8.toInt32)))).2.2.1 7) ((upA u 6 (upd (u.2.2.1 6) (u.1 9).toNatClampNeg (vp_nar .byte (v1.toInt8.toInt32)))).1 9).toNatClampNeg v2)).1 11))).1 9) + 1)), ()))))
set_option maxRecDepth 100000 in
set_option maxHeartbeats 4000000 in
theorem wb_M_token_0 {p : Program} {l : Launch} {e : Env} {R : Room} {s : State} {m : MethodId} {args : Array Value} {below : List Frame} {meth : Method} {c : Code} {D : va_G} {cl : List vw_C} {cB cI cJ cZ cS : ClassId} {A : Nat → Prop} {iM h0 : Nat} {ad : Nat → Nat} (C0 : MCx p s m args meth c b_M_token 3 none D cl cB cI cJ cZ cS iM A) (hR : R = rm_M_token) (N : Nat) (G : Unit) (hG : True) : ∀ (u : MS) (v1 : Int32) (v2 : Int32) (x : MS × Unit), fb_M_token_0 N G u v1 v2 = some x → ∀ (H : Heap) (locs : List Loc), va_P D cl (wM cB cI cJ cZ cS iM h0 ad u) H → va_D A (wM cB cI cJ cZ cS iM h0 ad u) → va_S A s.heap H locs → ∀ (ls : Array Slot), lv_has ls 3 [(0, .ref h0), (1, .int v1), (2, .int v2)] → W p l e R s m args below meth c H locs 0 0 (MQ below (mQv D cl cB cI cJ cZ cS iM h0 ad A x) args s 0 0 A) (F0 m 0 ls []) := by
  intro u v1 v2 x hf H locs hP hD hS ls hl
  obtain ⟨hx, hb, hr, hml, ht, hown, hM, hK, hA, hlocks⟩ := id C0
  unfold fb_M_token_0 at hf
  refine lv_aload_n hx hb d_M_token_0 rfl (lv_at hl 0 rfl) ?_
  refine ug_R hx hb ht hown hM hK hP 6 (by decide) lk_M_6 (by decide) d_M_token_1 ?_
  refine lv_aload_n hx hb d_M_token_4 rfl (lv_at hl 0 rfl) ?_
  refine ug_I hx hb ht hown hM hK hP 9 (by decide) lk_M_9 (by decide) d_M_token_5 ?_
  refine lv_iload_n hx hb d_M_token_8 rfl (lv_at hl 1 rfl) ?_
  refine lv_i2b hx hb d_M_token_9 rfl ?_
  obtain ⟨hi9, hf⟩ := ck_some hf
  refine us_B hx hb hK hP hD hS (by decide) (by decide) hi9 d_M_token_10 (fun H locs hP hD hS => ?_)
  refine lv_aload_n hx hb d_M_token_11 rfl (lv_at hl 0 rfl) ?_
  refine ug_R hx hb ht hown hM hK hP 7 (by decide) lk_M_7 (by decide) d_M_token_12 ?_
  refine lv_aload_n hx hb d_M_token_15 rfl (lv_at hl 0 rfl) ?_
  refine ug_I hx hb ht hown hM hK hP 9 (by decide) lk_M_9 (by decide) d_M_token_16 ?_
  refine lv_iload_n hx hb d_M_token_19 rfl (lv_at hl 2 rfl) ?_
  obtain ⟨hi9, hf⟩ := ck_some hf
  refine us_I hx hb hK hP hD hS (by decide) (by decide) hi9 d_M_token_20 (fun H locs hP hD hS => ?_)
  refine lv_aload_n hx hb d_M_token_21 rfl (lv_at hl 0 rfl) ?_
  refine ug_R hx hb ht hown hM hK hP 8 (by decide) lk_M_8 (by decide) d_M_token_22 ?_
  refine lv_aload_n hx hb d_M_token_25 rfl (lv_at hl 0 rfl) ?_
  refine ug_I hx hb ht hown hM hK hP 9 (by decide) lk_M_9 (by decide) d_M_token_26 ?_
  refine lv_aload_n hx hb d_M_token_29 rfl (lv_at hl 0 rfl) ?_
  refine ug_I hx hb ht hown hM hK hP 11 (by decide) lk_M_11 (by decide) d_M_token_30 ?_
  obtain ⟨hi9, hf⟩ := ck_some hf
  refine us_I hx hb hK hP hD hS (by decide) (by decide) hi9 d_M_token_33 (fun H locs hP hD hS => ?_)
  refine lv_aload_n hx hb d_M_token_34 rfl (lv_at hl 0 rfl) ?_
  refine lv_dup hx hb d_M_token_35 rfl ?_
  refine ug_I hx hb ht hown hM hK hP 9 (by decide) lk_M_9 (by decide) d_M_token_36 ?_
  refine lv_iconst (v := 1) hx hb d_M_token_39 (by decide) ?_
  refine lv_iadd hx hb d_M_token_40 ?_
  refine up_I hx hb ht hown hM hK hP hD hS 9 (by decide) lk_M_9 (by decide) rfl rfl rfl d_M_token_41 (fun H locs hP hD hS => ?_)
  exact mr_v C0 hP hD hS hf d_M_token_44
def fm_M_token (N : Nat) (u : MS) (v1 : Int32) (v2 : Int32) : Option (MS × Unit) := fb_M_token_0 N () u v1 v2
set_option maxRecDepth 100000 in
set_option maxHeartbeats 4000000 in
theorem c_M_token (N : Nat) {l : Launch} {D : va_G} {cl : List vw_C} {cB cI cJ cZ cS : ClassId} {iM h0 : Nat} {ad : Nat → Nat} {u : MS} {sz : Nat} {v1 : Int32} {v2 : Int32} {x : MS × Unit} (hM : cl[iM]? = some (R_M, F_M, 171)) (hf : fm_M_token N u v1 v2 = some x) : Met l y_M_token (wd_ws y_M_token b_M_token 3 none) rm_M_token (mPc D cl cB cI cJ cZ cS iM h0 ad u sz [.ref h0, .int v1, .int v2]) (mQv D cl cB cI cJ cZ cS iM h0 ad (mA cB cI cJ cZ cS iM h0 ad u sz) x) 0 0 (mA cB cI cJ cZ cS iM h0 ad u sz) :=
  mMet (by decide) rfl hM (Nat.le_of_ble_eq_true rfl) (fun p e s m below meth c ls hsz C0 hP hD hS hl => by
    have hR : rm_M_token = rm_M_token := rfl
    exact wb_M_token_0 C0 hR N () trivial u _ _ x hf s.heap [] hP hD hS ls (lv_sub hl [0, 1, 2] rfl))
abbrev b_M_isProcess : ByteArray := prog_14_method_161_code
def y_M_isProcess : MethodName := ⟨R_M, "isProcess", "(I)Z"⟩
def w_M_isProcess : List Cond := wd_ws y_M_isProcess b_M_isProcess 2 (some .boolean)
set_option maxRecDepth 100000 in
theorem k_M_isProcess : Cond.code y_M_isProcess b_M_isProcess 2 (some .boolean) ∈ wd_tbl := wd_of 2905 rfl rfl
theorem d_M_isProcess_0 : decode b_M_isProcess 0 = .ok (.aload_n 0, 1) := by decide +kernel
theorem d_M_isProcess_1 : decode b_M_isProcess 1 = .ok (.getfield 657, 3) := by decide +kernel
theorem d_M_isProcess_4 : decode b_M_isProcess 4 = .ok (.ifCond .eq 19, 3) := by decide +kernel
theorem d_M_isProcess_7 : decode b_M_isProcess 7 = .ok (.iload_n 1, 1) := by decide +kernel
theorem d_M_isProcess_8 : decode b_M_isProcess 8 = .ok (.ifCond .lt 15, 3) := by decide +kernel
theorem d_M_isProcess_11 : decode b_M_isProcess 11 = .ok (.iload_n 1, 1) := by decide +kernel
theorem d_M_isProcess_12 : decode b_M_isProcess 12 = .ok (.aload_n 0, 1) := by decide +kernel
theorem d_M_isProcess_13 : decode b_M_isProcess 13 = .ok (.getfield 989, 3) := by decide +kernel
theorem d_M_isProcess_16 : decode b_M_isProcess 16 = .ok (.if_icmp .ge 7, 3) := by decide +kernel
theorem d_M_isProcess_19 : decode b_M_isProcess 19 = .ok (.iconst 1, 1) := by decide +kernel
theorem d_M_isProcess_20 : decode b_M_isProcess 20 = .ok (.goto 4, 3) := by decide +kernel
theorem d_M_isProcess_23 : decode b_M_isProcess 23 = .ok (.iconst 0, 1) := by decide +kernel
theorem d_M_isProcess_24 : decode b_M_isProcess 24 = .ok (.ireturn, 1) := by decide +kernel
set_option maxRecDepth 100000 in
theorem hl_M_isProcess : Cond.methodLink R_M 880 y_M_isProcess ∈ wd_tbl := wd_of 2902 (by decide +kernel) rfl
set_option maxRecDepth 100000 in
theorem hi_M_isProcess : Cond.instanceMethod y_M_isProcess ∈ wd_tbl := wd_of 2904 (by decide +kernel) rfl
set_option maxRecDepth 100000 in
theorem hs_M_isProcess : Cond.selects R_M y_M_isProcess y_M_isProcess ∈ wd_tbl := wd_of 185 (by decide +kernel) rfl
theorem hd_M_isProcess : y_M_isProcess.cls = R_M ∧ y_M_isProcess.cls ≠ "java/lang/invoke/MethodHandle" ∧ y_M_isProcess.cls ≠ "java/lang/invoke/VarHandle" ∧ (parseMethodDescriptor y_M_isProcess.desc).map (fun d => d.parameters.length) = some 1 := by decide +kernel
def rm_M_isProcess : Room := { frames := 0, cells := 0, slots := 0, locals := 0 }
def fb_M_isProcess_24 (N : Nat) (G : Unit) (u : MS) (t0 : Int32) : Option (MS × Int32) := ck (isb t0) (some (u, t0))
set_option maxRecDepth 100000 in
set_option maxHeartbeats 4000000 in
theorem wb_M_isProcess_24 {p : Program} {l : Launch} {e : Env} {R : Room} {s : State} {m : MethodId} {args : Array Value} {below : List Frame} {meth : Method} {c : Code} {D : va_G} {cl : List vw_C} {cB cI cJ cZ cS : ClassId} {A : Nat → Prop} {iM h0 : Nat} {ad : Nat → Nat} (C0 : MCx p s m args meth c b_M_isProcess 2 (some .boolean) D cl cB cI cJ cZ cS iM A) (hR : R = rm_M_isProcess) (N : Nat) (G : Unit) (hG : True) : ∀ (u : MS) (t0 : Int32) (x : MS × Int32), fb_M_isProcess_24 N G u t0 = some x → ∀ (H : Heap) (locs : List Loc), va_P D cl (wM cB cI cJ cZ cS iM h0 ad u) H → va_D A (wM cB cI cJ cZ cS iM h0 ad u) → va_S A s.heap H locs → ∀ (ls : Array Slot), lv_has ls 2 [] → W p l e R s m args below meth c H locs 0 0 (MQ below (mQi D cl cB cI cJ cZ cS iM h0 ad A x) args s 0 0 A) (F0 m 24 ls [.int t0]) := by
  intro u t0 x hf H locs hP hD hS ls hl
  obtain ⟨hx, hb, hr, hml, ht, hown, hM, hK, hA, hlocks⟩ := id C0
  unfold fb_M_isProcess_24 at hf
  obtain ⟨hz, hf⟩ := ck_some hf
  exact mr_z C0 hP hD hS hz hf d_M_isProcess_24
def fb_M_isProcess_23 (N : Nat) (G : Unit) (u : MS) : Option (MS × Int32) := fb_M_isProcess_24 N G u (0)
set_option maxRecDepth 100000 in
set_option maxHeartbeats 4000000 in
theorem wb_M_isProcess_23 {p : Program} {l : Launch} {e : Env} {R : Room} {s : State} {m : MethodId} {args : Array Value} {below : List Frame} {meth : Method} {c : Code} {D : va_G} {cl : List vw_C} {cB cI cJ cZ cS : ClassId} {A : Nat → Prop} {iM h0 : Nat} {ad : Nat → Nat} (C0 : MCx p s m args meth c b_M_isProcess 2 (some .boolean) D cl cB cI cJ cZ cS iM A) (hR : R = rm_M_isProcess) (N : Nat) (G : Unit) (hG : True) : ∀ (u : MS) (x : MS × Int32), fb_M_isProcess_23 N G u = some x → ∀ (H : Heap) (locs : List Loc), va_P D cl (wM cB cI cJ cZ cS iM h0 ad u) H → va_D A (wM cB cI cJ cZ cS iM h0 ad u) → va_S A s.heap H locs → ∀ (ls : Array Slot), lv_has ls 2 [] → W p l e R s m args below meth c H locs 0 0 (MQ below (mQi D cl cB cI cJ cZ cS iM h0 ad A x) args s 0 0 A) (F0 m 23 ls []) := by
  intro u x hf H locs hP hD hS ls hl
  obtain ⟨hx, hb, hr, hml, ht, hown, hM, hK, hA, hlocks⟩ := id C0
  unfold fb_M_isProcess_23 at hf
  refine lv_iconst (v := 0) hx hb d_M_isProcess_23 (by decide) ?_
  exact wb_M_isProcess_24 C0 hR N G hG _ _ _ hf H locs hP hD hS ls (lv_sub hl [] rfl)
def fb_M_isProcess_0 (N : Nat) (G : Unit) (u : MS) (v1 : Int32) : Option (MS × Int32) := br (decide ((u.1 87) = 0)) (fb_M_isProcess_23 N G u) (br (decide (v1 < 0)) (fb_M_isProcess_23 N G u) (br (decide ((u.1 118) ≤ v1)) (fb_M_isProcess_23 N G u) (fb_M_isProcess_24 N G u (1))))
set_option maxRecDepth 100000 in
set_option maxHeartbeats 4000000 in
theorem wb_M_isProcess_0 {p : Program} {l : Launch} {e : Env} {R : Room} {s : State} {m : MethodId} {args : Array Value} {below : List Frame} {meth : Method} {c : Code} {D : va_G} {cl : List vw_C} {cB cI cJ cZ cS : ClassId} {A : Nat → Prop} {iM h0 : Nat} {ad : Nat → Nat} (C0 : MCx p s m args meth c b_M_isProcess 2 (some .boolean) D cl cB cI cJ cZ cS iM A) (hR : R = rm_M_isProcess) (N : Nat) (G : Unit) (hG : True) : ∀ (u : MS) (v1 : Int32) (x : MS × Int32), fb_M_isProcess_0 N G u v1 = some x → ∀ (H : Heap) (locs : List Loc), va_P D cl (wM cB cI cJ cZ cS iM h0 ad u) H → va_D A (wM cB cI cJ cZ cS iM h0 ad u) → va_S A s.heap H locs → ∀ (ls : Array Slot), lv_has ls 2 [(0, .ref h0), (1, .int v1)] → W p l e R s m args below meth c H locs 0 0 (MQ below (mQi D cl cB cI cJ cZ cS iM h0 ad A x) args s 0 0 A) (F0 m 0 ls []) := by
  intro u v1 x hf H locs hP hD hS ls hl
  obtain ⟨hx, hb, hr, hml, ht, hown, hM, hK, hA, hlocks⟩ := id C0
  unfold fb_M_isProcess_0 at hf
  refine lv_aload_n hx hb d_M_isProcess_0 rfl (lv_at hl 0 rfl) ?_
  refine ug_I hx hb ht hown hM hK hP 87 (by decide) lk_M_87 (by decide) d_M_isProcess_1 ?_
  refine lv_if_eq (tgt := 23) hx hb d_M_isProcess_4 (by decide) (fun hc => ?_) (fun hc => ?_)
  · rw [br_p _ hc] at hf
    exact wb_M_isProcess_23 C0 hR N G hG _ _ hf H locs hP hD hS ls (lv_sub hl [] rfl)
  · rw [br_n _ hc] at hf
    refine lv_iload_n hx hb d_M_isProcess_7 rfl (lv_at hl 1 rfl) ?_
    refine lv_if_lt (tgt := 23) hx hb d_M_isProcess_8 (by decide) (fun hc => ?_) (fun hc => ?_)
    · rw [br_p _ hc] at hf
      exact wb_M_isProcess_23 C0 hR N G hG _ _ hf H locs hP hD hS ls (lv_sub hl [] rfl)
    · rw [br_n _ hc] at hf
      refine lv_iload_n hx hb d_M_isProcess_11 rfl (lv_at hl 1 rfl) ?_
      refine lv_aload_n hx hb d_M_isProcess_12 rfl (lv_at hl 0 rfl) ?_
      refine ug_I hx hb ht hown hM hK hP 118 (by decide) lk_M_118 (by decide) d_M_isProcess_13 ?_
      refine lv_icmp_ge (tgt := 23) hx hb d_M_isProcess_16 (by decide) (fun hc => ?_) (fun hc => ?_)
      · rw [br_p _ hc] at hf
        exact wb_M_isProcess_23 C0 hR N G hG _ _ hf H locs hP hD hS ls (lv_sub hl [] rfl)
      · rw [br_n _ hc] at hf
        refine lv_iconst (v := 1) hx hb d_M_isProcess_19 (by decide) ?_
        refine lv_goto (tgt := 24) hx hb d_M_isProcess_20 (by decide) ?_
        exact wb_M_isProcess_24 C0 hR N G hG _ _ _ hf H locs hP hD hS ls (lv_sub hl [] rfl)
def fm_M_isProcess (N : Nat) (u : MS) (v1 : Int32) : Option (MS × Int32) := fb_M_isProcess_0 N () u v1
set_option maxRecDepth 100000 in
set_option maxHeartbeats 4000000 in
theorem c_M_isProcess (N : Nat) {l : Launch} {D : va_G} {cl : List vw_C} {cB cI cJ cZ cS : ClassId} {iM h0 : Nat} {ad : Nat → Nat} {u : MS} {sz : Nat} {v1 : Int32} {x : MS × Int32} (hM : cl[iM]? = some (R_M, F_M, 171)) (hf : fm_M_isProcess N u v1 = some x) : Met l y_M_isProcess (wd_ws y_M_isProcess b_M_isProcess 2 (some .boolean)) rm_M_isProcess (mPc D cl cB cI cJ cZ cS iM h0 ad u sz [.ref h0, .int v1]) (mQi D cl cB cI cJ cZ cS iM h0 ad (mA cB cI cJ cZ cS iM h0 ad u sz) x) 0 0 (mA cB cI cJ cZ cS iM h0 ad u sz) :=
  mMet (by decide) rfl hM (Nat.le_of_ble_eq_true rfl) (fun p e s m below meth c ls hsz C0 hP hD hS hl => by
    have hR : rm_M_isProcess = rm_M_isProcess := rfl
    exact wb_M_isProcess_0 C0 hR N () trivial u _ x hf s.heap [] hP hD hS ls (lv_sub hl [0, 1] rfl))
abbrev b_M_count : ByteArray := prog_14_method_164_code
def y_M_count : MethodName := ⟨R_M, "count", "(I)I"⟩
def w_M_count : List Cond := wd_ws y_M_count b_M_count 2 (some .int)
set_option maxRecDepth 100000 in
theorem k_M_count : Cond.code y_M_count b_M_count 2 (some .int) ∈ wd_tbl := wd_of 3261 rfl rfl
theorem d_M_count_0 : decode b_M_count 0 = .ok (.aload_n 0, 1) := by decide +kernel
theorem d_M_count_1 : decode b_M_count 1 = .ok (.iconst 0, 1) := by decide +kernel
theorem d_M_count_2 : decode b_M_count 2 = .ok (.putfield 369, 3) := by decide +kernel
theorem d_M_count_5 : decode b_M_count 5 = .ok (.iload_n 1, 1) := by decide +kernel
theorem d_M_count_6 : decode b_M_count 6 = .ok (.tableswitch 183 0 8 #[50, 66, 82, 98, 103, 119, 135, 151, 167], 50) := by decide +kernel
theorem d_M_count_56 : decode b_M_count 56 = .ok (.aload_n 0, 1) := by decide +kernel
theorem d_M_count_57 : decode b_M_count 57 = .ok (.getfield 654, 3) := by decide +kernel
theorem d_M_count_60 : decode b_M_count 60 = .ok (.ifCond .eq 10, 3) := by decide +kernel
theorem d_M_count_63 : decode b_M_count 63 = .ok (.aload_n 0, 1) := by decide +kernel
theorem d_M_count_64 : decode b_M_count 64 = .ok (.getfield 402, 3) := by decide +kernel
theorem d_M_count_67 : decode b_M_count 67 = .ok (.goto 4, 3) := by decide +kernel
theorem d_M_count_70 : decode b_M_count 70 = .ok (.iconst 0, 1) := by decide +kernel
theorem d_M_count_71 : decode b_M_count 71 = .ok (.ireturn, 1) := by decide +kernel
theorem d_M_count_72 : decode b_M_count 72 = .ok (.aload_n 0, 1) := by decide +kernel
theorem d_M_count_73 : decode b_M_count 73 = .ok (.getfield 654, 3) := by decide +kernel
theorem d_M_count_76 : decode b_M_count 76 = .ok (.ifCond .eq 10, 3) := by decide +kernel
theorem d_M_count_79 : decode b_M_count 79 = .ok (.aload_n 0, 1) := by decide +kernel
theorem d_M_count_80 : decode b_M_count 80 = .ok (.getfield 508, 3) := by decide +kernel
theorem d_M_count_83 : decode b_M_count 83 = .ok (.goto 4, 3) := by decide +kernel
theorem d_M_count_86 : decode b_M_count 86 = .ok (.iconst 0, 1) := by decide +kernel
theorem d_M_count_87 : decode b_M_count 87 = .ok (.ireturn, 1) := by decide +kernel
theorem d_M_count_88 : decode b_M_count 88 = .ok (.aload_n 0, 1) := by decide +kernel
theorem d_M_count_89 : decode b_M_count 89 = .ok (.getfield 654, 3) := by decide +kernel
theorem d_M_count_92 : decode b_M_count 92 = .ok (.ifCond .eq 10, 3) := by decide +kernel
theorem d_M_count_95 : decode b_M_count 95 = .ok (.aload_n 0, 1) := by decide +kernel
theorem d_M_count_96 : decode b_M_count 96 = .ok (.getfield 385, 3) := by decide +kernel
theorem d_M_count_99 : decode b_M_count 99 = .ok (.goto 4, 3) := by decide +kernel
theorem d_M_count_102 : decode b_M_count 102 = .ok (.iconst 0, 1) := by decide +kernel
theorem d_M_count_103 : decode b_M_count 103 = .ok (.ireturn, 1) := by decide +kernel
theorem d_M_count_104 : decode b_M_count 104 = .ok (.aload_n 0, 1) := by decide +kernel
theorem d_M_count_105 : decode b_M_count 105 = .ok (.getfield 372, 3) := by decide +kernel
theorem d_M_count_108 : decode b_M_count 108 = .ok (.ireturn, 1) := by decide +kernel
theorem d_M_count_109 : decode b_M_count 109 = .ok (.aload_n 0, 1) := by decide +kernel
theorem d_M_count_110 : decode b_M_count 110 = .ok (.getfield 657, 3) := by decide +kernel
theorem d_M_count_113 : decode b_M_count 113 = .ok (.ifCond .eq 10, 3) := by decide +kernel
theorem d_M_count_116 : decode b_M_count 116 = .ok (.aload_n 0, 1) := by decide +kernel
theorem d_M_count_117 : decode b_M_count 117 = .ok (.getfield 989, 3) := by decide +kernel
theorem d_M_count_120 : decode b_M_count 120 = .ok (.goto 4, 3) := by decide +kernel
theorem d_M_count_123 : decode b_M_count 123 = .ok (.iconst 0, 1) := by decide +kernel
theorem d_M_count_124 : decode b_M_count 124 = .ok (.ireturn, 1) := by decide +kernel
theorem d_M_count_125 : decode b_M_count 125 = .ok (.aload_n 0, 1) := by decide +kernel
theorem d_M_count_126 : decode b_M_count 126 = .ok (.getfield 657, 3) := by decide +kernel
theorem d_M_count_129 : decode b_M_count 129 = .ok (.ifCond .eq 10, 3) := by decide +kernel
theorem d_M_count_132 : decode b_M_count 132 = .ok (.aload_n 0, 1) := by decide +kernel
theorem d_M_count_133 : decode b_M_count 133 = .ok (.getfield 1010, 3) := by decide +kernel
theorem d_M_count_136 : decode b_M_count 136 = .ok (.goto 4, 3) := by decide +kernel
theorem d_M_count_139 : decode b_M_count 139 = .ok (.iconst 0, 1) := by decide +kernel
theorem d_M_count_140 : decode b_M_count 140 = .ok (.ireturn, 1) := by decide +kernel
theorem d_M_count_141 : decode b_M_count 141 = .ok (.aload_n 0, 1) := by decide +kernel
theorem d_M_count_142 : decode b_M_count 142 = .ok (.getfield 657, 3) := by decide +kernel
theorem d_M_count_145 : decode b_M_count 145 = .ok (.ifCond .eq 10, 3) := by decide +kernel
theorem d_M_count_148 : decode b_M_count 148 = .ok (.aload_n 0, 1) := by decide +kernel
theorem d_M_count_149 : decode b_M_count 149 = .ok (.getfield 962, 3) := by decide +kernel
theorem d_M_count_152 : decode b_M_count 152 = .ok (.goto 4, 3) := by decide +kernel
theorem d_M_count_155 : decode b_M_count 155 = .ok (.iconst 0, 1) := by decide +kernel
theorem d_M_count_156 : decode b_M_count 156 = .ok (.ireturn, 1) := by decide +kernel
theorem d_M_count_157 : decode b_M_count 157 = .ok (.aload_n 0, 1) := by decide +kernel
theorem d_M_count_158 : decode b_M_count 158 = .ok (.getfield 657, 3) := by decide +kernel
theorem d_M_count_161 : decode b_M_count 161 = .ok (.ifCond .eq 10, 3) := by decide +kernel
theorem d_M_count_164 : decode b_M_count 164 = .ok (.aload_n 0, 1) := by decide +kernel
theorem d_M_count_165 : decode b_M_count 165 = .ok (.getfield 904, 3) := by decide +kernel
theorem d_M_count_168 : decode b_M_count 168 = .ok (.goto 4, 3) := by decide +kernel
theorem d_M_count_171 : decode b_M_count 171 = .ok (.iconst 0, 1) := by decide +kernel
theorem d_M_count_172 : decode b_M_count 172 = .ok (.ireturn, 1) := by decide +kernel
theorem d_M_count_173 : decode b_M_count 173 = .ok (.aload_n 0, 1) := by decide +kernel
theorem d_M_count_174 : decode b_M_count 174 = .ok (.getfield 657, 3) := by decide +kernel
theorem d_M_count_177 : decode b_M_count 177 = .ok (.ifCond .eq 10, 3) := by decide +kernel
theorem d_M_count_180 : decode b_M_count 180 = .ok (.aload_n 0, 1) := by decide +kernel
theorem d_M_count_181 : decode b_M_count 181 = .ok (.getfield 1001, 3) := by decide +kernel
theorem d_M_count_184 : decode b_M_count 184 = .ok (.goto 4, 3) := by decide +kernel
theorem d_M_count_187 : decode b_M_count 187 = .ok (.iconst 0, 1) := by decide +kernel
theorem d_M_count_188 : decode b_M_count 188 = .ok (.ireturn, 1) := by decide +kernel
theorem d_M_count_189 : decode b_M_count 189 = .ok (.iconst (-1), 1) := by decide +kernel
theorem d_M_count_190 : decode b_M_count 190 = .ok (.ireturn, 1) := by decide +kernel
def rm_M_count : Room := { frames := 0, cells := 0, slots := 0, locals := 0 }
def fb_M_count_188 (N : Nat) (G : Unit) (u : MS) (t0 : Int32) : Option (MS × Int32) := some (u, t0)
set_option maxRecDepth 100000 in
set_option maxHeartbeats 4000000 in
theorem wb_M_count_188 {p : Program} {l : Launch} {e : Env} {R : Room} {s : State} {m : MethodId} {args : Array Value} {below : List Frame} {meth : Method} {c : Code} {D : va_G} {cl : List vw_C} {cB cI cJ cZ cS : ClassId} {A : Nat → Prop} {iM h0 : Nat} {ad : Nat → Nat} (C0 : MCx p s m args meth c b_M_count 2 (some .int) D cl cB cI cJ cZ cS iM A) (hR : R = rm_M_count) (N : Nat) (G : Unit) (hG : True) : ∀ (u : MS) (t0 : Int32) (x : MS × Int32), fb_M_count_188 N G u t0 = some x → ∀ (H : Heap) (locs : List Loc), va_P D cl (wM cB cI cJ cZ cS iM h0 ad u) H → va_D A (wM cB cI cJ cZ cS iM h0 ad u) → va_S A s.heap H locs → ∀ (ls : Array Slot), lv_has ls 2 [] → W p l e R s m args below meth c H locs 0 0 (MQ below (mQi D cl cB cI cJ cZ cS iM h0 ad A x) args s 0 0 A) (F0 m 188 ls [.int t0]) := by
  intro u t0 x hf H locs hP hD hS ls hl
  obtain ⟨hx, hb, hr, hml, ht, hown, hM, hK, hA, hlocks⟩ := id C0
  unfold fb_M_count_188 at hf
  exact mr_i C0 hP hD hS hf d_M_count_188
def fb_M_count_172 (N : Nat) (G : Unit) (u : MS) (t0 : Int32) : Option (MS × Int32) := some (u, t0)
set_option maxRecDepth 100000 in
set_option maxHeartbeats 4000000 in
theorem wb_M_count_172 {p : Program} {l : Launch} {e : Env} {R : Room} {s : State} {m : MethodId} {args : Array Value} {below : List Frame} {meth : Method} {c : Code} {D : va_G} {cl : List vw_C} {cB cI cJ cZ cS : ClassId} {A : Nat → Prop} {iM h0 : Nat} {ad : Nat → Nat} (C0 : MCx p s m args meth c b_M_count 2 (some .int) D cl cB cI cJ cZ cS iM A) (hR : R = rm_M_count) (N : Nat) (G : Unit) (hG : True) : ∀ (u : MS) (t0 : Int32) (x : MS × Int32), fb_M_count_172 N G u t0 = some x → ∀ (H : Heap) (locs : List Loc), va_P D cl (wM cB cI cJ cZ cS iM h0 ad u) H → va_D A (wM cB cI cJ cZ cS iM h0 ad u) → va_S A s.heap H locs → ∀ (ls : Array Slot), lv_has ls 2 [] → W p l e R s m args below meth c H locs 0 0 (MQ below (mQi D cl cB cI cJ cZ cS iM h0 ad A x) args s 0 0 A) (F0 m 172 ls [.int t0]) := by
  intro u t0 x hf H locs hP hD hS ls hl
  obtain ⟨hx, hb, hr, hml, ht, hown, hM, hK, hA, hlocks⟩ := id C0
  unfold fb_M_count_172 at hf
  exact mr_i C0 hP hD hS hf d_M_count_172
def fb_M_count_156 (N : Nat) (G : Unit) (u : MS) (t0 : Int32) : Option (MS × Int32) := some (u, t0)
set_option maxRecDepth 100000 in
set_option maxHeartbeats 4000000 in
theorem wb_M_count_156 {p : Program} {l : Launch} {e : Env} {R : Room} {s : State} {m : MethodId} {args : Array Value} {below : List Frame} {meth : Method} {c : Code} {D : va_G} {cl : List vw_C} {cB cI cJ cZ cS : ClassId} {A : Nat → Prop} {iM h0 : Nat} {ad : Nat → Nat} (C0 : MCx p s m args meth c b_M_count 2 (some .int) D cl cB cI cJ cZ cS iM A) (hR : R = rm_M_count) (N : Nat) (G : Unit) (hG : True) : ∀ (u : MS) (t0 : Int32) (x : MS × Int32), fb_M_count_156 N G u t0 = some x → ∀ (H : Heap) (locs : List Loc), va_P D cl (wM cB cI cJ cZ cS iM h0 ad u) H → va_D A (wM cB cI cJ cZ cS iM h0 ad u) → va_S A s.heap H locs → ∀ (ls : Array Slot), lv_has ls 2 [] → W p l e R s m args below meth c H locs 0 0 (MQ below (mQi D cl cB cI cJ cZ cS iM h0 ad A x) args s 0 0 A) (F0 m 156 ls [.int t0]) := by
  intro u t0 x hf H locs hP hD hS ls hl
  obtain ⟨hx, hb, hr, hml, ht, hown, hM, hK, hA, hlocks⟩ := id C0
  unfold fb_M_count_156 at hf
  exact mr_i C0 hP hD hS hf d_M_count_156
def fb_M_count_140 (N : Nat) (G : Unit) (u : MS) (t0 : Int32) : Option (MS × Int32) := some (u, t0)
set_option maxRecDepth 100000 in
set_option maxHeartbeats 4000000 in
theorem wb_M_count_140 {p : Program} {l : Launch} {e : Env} {R : Room} {s : State} {m : MethodId} {args : Array Value} {below : List Frame} {meth : Method} {c : Code} {D : va_G} {cl : List vw_C} {cB cI cJ cZ cS : ClassId} {A : Nat → Prop} {iM h0 : Nat} {ad : Nat → Nat} (C0 : MCx p s m args meth c b_M_count 2 (some .int) D cl cB cI cJ cZ cS iM A) (hR : R = rm_M_count) (N : Nat) (G : Unit) (hG : True) : ∀ (u : MS) (t0 : Int32) (x : MS × Int32), fb_M_count_140 N G u t0 = some x → ∀ (H : Heap) (locs : List Loc), va_P D cl (wM cB cI cJ cZ cS iM h0 ad u) H → va_D A (wM cB cI cJ cZ cS iM h0 ad u) → va_S A s.heap H locs → ∀ (ls : Array Slot), lv_has ls 2 [] → W p l e R s m args below meth c H locs 0 0 (MQ below (mQi D cl cB cI cJ cZ cS iM h0 ad A x) args s 0 0 A) (F0 m 140 ls [.int t0]) := by
  intro u t0 x hf H locs hP hD hS ls hl
  obtain ⟨hx, hb, hr, hml, ht, hown, hM, hK, hA, hlocks⟩ := id C0
  unfold fb_M_count_140 at hf
  exact mr_i C0 hP hD hS hf d_M_count_140
def fb_M_count_124 (N : Nat) (G : Unit) (u : MS) (t0 : Int32) : Option (MS × Int32) := some (u, t0)
set_option maxRecDepth 100000 in
set_option maxHeartbeats 4000000 in
theorem wb_M_count_124 {p : Program} {l : Launch} {e : Env} {R : Room} {s : State} {m : MethodId} {args : Array Value} {below : List Frame} {meth : Method} {c : Code} {D : va_G} {cl : List vw_C} {cB cI cJ cZ cS : ClassId} {A : Nat → Prop} {iM h0 : Nat} {ad : Nat → Nat} (C0 : MCx p s m args meth c b_M_count 2 (some .int) D cl cB cI cJ cZ cS iM A) (hR : R = rm_M_count) (N : Nat) (G : Unit) (hG : True) : ∀ (u : MS) (t0 : Int32) (x : MS × Int32), fb_M_count_124 N G u t0 = some x → ∀ (H : Heap) (locs : List Loc), va_P D cl (wM cB cI cJ cZ cS iM h0 ad u) H → va_D A (wM cB cI cJ cZ cS iM h0 ad u) → va_S A s.heap H locs → ∀ (ls : Array Slot), lv_has ls 2 [] → W p l e R s m args below meth c H locs 0 0 (MQ below (mQi D cl cB cI cJ cZ cS iM h0 ad A x) args s 0 0 A) (F0 m 124 ls [.int t0]) := by
  intro u t0 x hf H locs hP hD hS ls hl
  obtain ⟨hx, hb, hr, hml, ht, hown, hM, hK, hA, hlocks⟩ := id C0
  unfold fb_M_count_124 at hf
  exact mr_i C0 hP hD hS hf d_M_count_124
def fb_M_count_103 (N : Nat) (G : Unit) (u : MS) (t0 : Int32) : Option (MS × Int32) := some (u, t0)
set_option maxRecDepth 100000 in
set_option maxHeartbeats 4000000 in
theorem wb_M_count_103 {p : Program} {l : Launch} {e : Env} {R : Room} {s : State} {m : MethodId} {args : Array Value} {below : List Frame} {meth : Method} {c : Code} {D : va_G} {cl : List vw_C} {cB cI cJ cZ cS : ClassId} {A : Nat → Prop} {iM h0 : Nat} {ad : Nat → Nat} (C0 : MCx p s m args meth c b_M_count 2 (some .int) D cl cB cI cJ cZ cS iM A) (hR : R = rm_M_count) (N : Nat) (G : Unit) (hG : True) : ∀ (u : MS) (t0 : Int32) (x : MS × Int32), fb_M_count_103 N G u t0 = some x → ∀ (H : Heap) (locs : List Loc), va_P D cl (wM cB cI cJ cZ cS iM h0 ad u) H → va_D A (wM cB cI cJ cZ cS iM h0 ad u) → va_S A s.heap H locs → ∀ (ls : Array Slot), lv_has ls 2 [] → W p l e R s m args below meth c H locs 0 0 (MQ below (mQi D cl cB cI cJ cZ cS iM h0 ad A x) args s 0 0 A) (F0 m 103 ls [.int t0]) := by
  intro u t0 x hf H locs hP hD hS ls hl
  obtain ⟨hx, hb, hr, hml, ht, hown, hM, hK, hA, hlocks⟩ := id C0
  unfold fb_M_count_103 at hf
  exact mr_i C0 hP hD hS hf d_M_count_103
def fb_M_count_87 (N : Nat) (G : Unit) (u : MS) (t0 : Int32) : Option (MS × Int32) := some (u, t0)
set_option maxRecDepth 100000 in
set_option maxHeartbeats 4000000 in
theorem wb_M_count_87 {p : Program} {l : Launch} {e : Env} {R : Room} {s : State} {m : MethodId} {args : Array Value} {below : List Frame} {meth : Method} {c : Code} {D : va_G} {cl : List vw_C} {cB cI cJ cZ cS : ClassId} {A : Nat → Prop} {iM h0 : Nat} {ad : Nat → Nat} (C0 : MCx p s m args meth c b_M_count 2 (some .int) D cl cB cI cJ cZ cS iM A) (hR : R = rm_M_count) (N : Nat) (G : Unit) (hG : True) : ∀ (u : MS) (t0 : Int32) (x : MS × Int32), fb_M_count_87 N G u t0 = some x → ∀ (H : Heap) (locs : List Loc), va_P D cl (wM cB cI cJ cZ cS iM h0 ad u) H → va_D A (wM cB cI cJ cZ cS iM h0 ad u) → va_S A s.heap H locs → ∀ (ls : Array Slot), lv_has ls 2 [] → W p l e R s m args below meth c H locs 0 0 (MQ below (mQi D cl cB cI cJ cZ cS iM h0 ad A x) args s 0 0 A) (F0 m 87 ls [.int t0]) := by
  intro u t0 x hf H locs hP hD hS ls hl
  obtain ⟨hx, hb, hr, hml, ht, hown, hM, hK, hA, hlocks⟩ := id C0
  unfold fb_M_count_87 at hf
  exact mr_i C0 hP hD hS hf d_M_count_87
def fb_M_count_71 (N : Nat) (G : Unit) (u : MS) (t0 : Int32) : Option (MS × Int32) := some (u, t0)
set_option maxRecDepth 100000 in
set_option maxHeartbeats 4000000 in
theorem wb_M_count_71 {p : Program} {l : Launch} {e : Env} {R : Room} {s : State} {m : MethodId} {args : Array Value} {below : List Frame} {meth : Method} {c : Code} {D : va_G} {cl : List vw_C} {cB cI cJ cZ cS : ClassId} {A : Nat → Prop} {iM h0 : Nat} {ad : Nat → Nat} (C0 : MCx p s m args meth c b_M_count 2 (some .int) D cl cB cI cJ cZ cS iM A) (hR : R = rm_M_count) (N : Nat) (G : Unit) (hG : True) : ∀ (u : MS) (t0 : Int32) (x : MS × Int32), fb_M_count_71 N G u t0 = some x → ∀ (H : Heap) (locs : List Loc), va_P D cl (wM cB cI cJ cZ cS iM h0 ad u) H → va_D A (wM cB cI cJ cZ cS iM h0 ad u) → va_S A s.heap H locs → ∀ (ls : Array Slot), lv_has ls 2 [] → W p l e R s m args below meth c H locs 0 0 (MQ below (mQi D cl cB cI cJ cZ cS iM h0 ad A x) args s 0 0 A) (F0 m 71 ls [.int t0]) := by
  intro u t0 x hf H locs hP hD hS ls hl
  obtain ⟨hx, hb, hr, hml, ht, hown, hM, hK, hA, hlocks⟩ := id C0
  unfold fb_M_count_71 at hf
  exact mr_i C0 hP hD hS hf d_M_count_71
def fb_M_count_0 (N : Nat) (G : Unit) (u : MS) (v1 : Int32) : Option (MS × Int32) := br (decide (v1 = 0)) (br (decide (((upI u 3 0).1 86) = 0)) (fb_M_count_71 N G (upI u 3 0) (0)) (fb_M_count_71 N G (upI u 3 0) (((upI u 3 0).1 9)))) (br (decide (v1 = 1)) (br (decide (((upI u 3 0).1 86) = 0)) (fb_M_count_87 N G (upI u 3 0) (0)) (fb_M_count_87 N G (upI u 3 0) (((upI u 3 0).1 52)))) (br (decide (v1 = 2)) (br (decide (((upI u 3 0).1 86) = 0)) (fb_M_count_103 N G (upI u 3 0) (0)) (fb_M_count_103 N G (upI u 3 0) (((upI u 3 0).1 14)))) (br (decide (v1 = 3)) (some ((upI u 3 0), ((upI u 3 0).1 5))) (br (decide (v1 = 4)) (br (decide (((upI u 3 0).1 87) = 0)) (fb_M_count_124 N G (upI u 3 0) (0)) (fb_M_count_124 N G (upI u 3 0) (((upI u 3 0).1 118)))) (br (decide (v1 = 5)) (br (decide (((upI u 3 0).1 87) = 0)) (fb_M_count_140 N G (upI u 3 0) (0)) (fb_M_count_140 N G (upI u 3 0) (((upI u 3 0).1 128)))) (br (decide (v1 = 6)) (br (decide (((upI u 3 0).1 87) = 0)) (fb_M_count_156 N G (upI u 3 0) (0)) (fb_M_count_156 N G (upI u 3 0) (((upI u 3 0).1 119)))) (br (decide (v1 = 7)) (br (decide (((upI u 3 0).1 87) = 0)) (fb_M_count_172 N G (upI u 3 0) (0)) (fb_M_count_172 N G (upI u 3 0) (((upI u 3 0).1 120)))) (br (decide (v1 = 8)) (br (decide (((upI u 3 0).1 87) = 0)) (fb_M_count_188 N G (upI u 3 0) (0)) (fb_M_count_188 N G (upI u 3 0) (((upI u 3 0).1 121)))) (some ((upI u 3 0), (-1)))))))))))
set_option maxRecDepth 100000 in
set_option maxHeartbeats 4000000 in
theorem wb_M_count_0 {p : Program} {l : Launch} {e : Env} {R : Room} {s : State} {m : MethodId} {args : Array Value} {below : List Frame} {meth : Method} {c : Code} {D : va_G} {cl : List vw_C} {cB cI cJ cZ cS : ClassId} {A : Nat → Prop} {iM h0 : Nat} {ad : Nat → Nat} (C0 : MCx p s m args meth c b_M_count 2 (some .int) D cl cB cI cJ cZ cS iM A) (hR : R = rm_M_count) (N : Nat) (G : Unit) (hG : True) : ∀ (u : MS) (v1 : Int32) (x : MS × Int32), fb_M_count_0 N G u v1 = some x → ∀ (H : Heap) (locs : List Loc), va_P D cl (wM cB cI cJ cZ cS iM h0 ad u) H → va_D A (wM cB cI cJ cZ cS iM h0 ad u) → va_S A s.heap H locs → ∀ (ls : Array Slot), lv_has ls 2 [(0, .ref h0), (1, .int v1)] → W p l e R s m args below meth c H locs 0 0 (MQ below (mQi D cl cB cI cJ cZ cS iM h0 ad A x) args s 0 0 A) (F0 m 0 ls []) := by
  intro u v1 x hf H locs hP hD hS ls hl
  obtain ⟨hx, hb, hr, hml, ht, hown, hM, hK, hA, hlocks⟩ := id C0
  unfold fb_M_count_0 at hf
  refine lv_aload_n hx hb d_M_count_0 rfl (lv_at hl 0 rfl) ?_
  refine lv_iconst (v := 0) hx hb d_M_count_1 (by decide) ?_
  refine up_I hx hb ht hown hM hK hP hD hS 3 (by decide) lk_M_3 (by decide) rfl rfl rfl d_M_count_2 (fun H locs hP hD hS => ?_)
  refine lv_iload_n hx hb d_M_count_5 rfl (lv_at hl 1 rfl) ?_
  by_cases hc0 : v1 = 0
  · rw [br_p _ hc0] at hf
    refine lv_tableIn (tgt := 56) hx hb d_M_count_6 (by rw [hc0]; decide) (by rw [hc0]; decide) (by rw [hc0]; rfl) (by decide) ?_
    refine lv_aload_n hx hb d_M_count_56 rfl (lv_at hl 0 rfl) ?_
    refine ug_I hx hb ht hown hM hK hP 86 (by decide) lk_M_86 (by decide) d_M_count_57 ?_
    refine lv_if_eq (tgt := 70) hx hb d_M_count_60 (by decide) (fun hc => ?_) (fun hc => ?_)
    · rw [br_p _ hc] at hf
      refine lv_iconst (v := 0) hx hb d_M_count_70 (by decide) ?_
      exact wb_M_count_71 C0 hR N G hG _ _ _ hf H locs hP hD hS ls (lv_sub hl [] rfl)
    · rw [br_n _ hc] at hf
      refine lv_aload_n hx hb d_M_count_63 rfl (lv_at hl 0 rfl) ?_
      refine ug_I hx hb ht hown hM hK hP 9 (by decide) lk_M_9 (by decide) d_M_count_64 ?_
      refine lv_goto (tgt := 71) hx hb d_M_count_67 (by decide) ?_
      exact wb_M_count_71 C0 hR N G hG _ _ _ hf H locs hP hD hS ls (lv_sub hl [] rfl)
  · rw [br_n _ hc0] at hf
    by_cases hc1 : v1 = 1
    · rw [br_p _ hc1] at hf
      refine lv_tableIn (tgt := 72) hx hb d_M_count_6 (by rw [hc1]; decide) (by rw [hc1]; decide) (by rw [hc1]; rfl) (by decide) ?_
      refine lv_aload_n hx hb d_M_count_72 rfl (lv_at hl 0 rfl) ?_
      refine ug_I hx hb ht hown hM hK hP 86 (by decide) lk_M_86 (by decide) d_M_count_73 ?_
      refine lv_if_eq (tgt := 86) hx hb d_M_count_76 (by decide) (fun hc => ?_) (fun hc => ?_)
      · rw [br_p _ hc] at hf
        refine lv_iconst (v := 0) hx hb d_M_count_86 (by decide) ?_
        exact wb_M_count_87 C0 hR N G hG _ _ _ hf H locs hP hD hS ls (lv_sub hl [] rfl)
      · rw [br_n _ hc] at hf
        refine lv_aload_n hx hb d_M_count_79 rfl (lv_at hl 0 rfl) ?_
        refine ug_I hx hb ht hown hM hK hP 52 (by decide) lk_M_52 (by decide) d_M_count_80 ?_
        refine lv_goto (tgt := 87) hx hb d_M_count_83 (by decide) ?_
        exact wb_M_count_87 C0 hR N G hG _ _ _ hf H locs hP hD hS ls (lv_sub hl [] rfl)
    · rw [br_n _ hc1] at hf
      by_cases hc2 : v1 = 2
      · rw [br_p _ hc2] at hf
        refine lv_tableIn (tgt := 88) hx hb d_M_count_6 (by rw [hc2]; decide) (by rw [hc2]; decide) (by rw [hc2]; rfl) (by decide) ?_
        refine lv_aload_n hx hb d_M_count_88 rfl (lv_at hl 0 rfl) ?_
        refine ug_I hx hb ht hown hM hK hP 86 (by decide) lk_M_86 (by decide) d_M_count_89 ?_
        refine lv_if_eq (tgt := 102) hx hb d_M_count_92 (by decide) (fun hc => ?_) (fun hc => ?_)
        · rw [br_p _ hc] at hf
          refine lv_iconst (v := 0) hx hb d_M_count_102 (by decide) ?_
          exact wb_M_count_103 C0 hR N G hG _ _ _ hf H locs hP hD hS ls (lv_sub hl [] rfl)
        · rw [br_n _ hc] at hf
          refine lv_aload_n hx hb d_M_count_95 rfl (lv_at hl 0 rfl) ?_
          refine ug_I hx hb ht hown hM hK hP 14 (by decide) lk_M_14 (by decide) d_M_count_96 ?_
          refine lv_goto (tgt := 103) hx hb d_M_count_99 (by decide) ?_
          exact wb_M_count_103 C0 hR N G hG _ _ _ hf H locs hP hD hS ls (lv_sub hl [] rfl)
      · rw [br_n _ hc2] at hf
        by_cases hc3 : v1 = 3
        · rw [br_p _ hc3] at hf
          refine lv_tableIn (tgt := 104) hx hb d_M_count_6 (by rw [hc3]; decide) (by rw [hc3]; decide) (by rw [hc3]; rfl) (by decide) ?_
          refine lv_aload_n hx hb d_M_count_104 rfl (lv_at hl 0 rfl) ?_
          refine ug_I hx hb ht hown hM hK hP 5 (by decide) lk_M_5 (by decide) d_M_count_105 ?_
          exact mr_i C0 hP hD hS hf d_M_count_108
        · rw [br_n _ hc3] at hf
          by_cases hc4 : v1 = 4
          · rw [br_p _ hc4] at hf
            refine lv_tableIn (tgt := 109) hx hb d_M_count_6 (by rw [hc4]; decide) (by rw [hc4]; decide) (by rw [hc4]; rfl) (by decide) ?_
            refine lv_aload_n hx hb d_M_count_109 rfl (lv_at hl 0 rfl) ?_
            refine ug_I hx hb ht hown hM hK hP 87 (by decide) lk_M_87 (by decide) d_M_count_110 ?_
            refine lv_if_eq (tgt := 123) hx hb d_M_count_113 (by decide) (fun hc => ?_) (fun hc => ?_)
            · rw [br_p _ hc] at hf
              refine lv_iconst (v := 0) hx hb d_M_count_123 (by decide) ?_
              exact wb_M_count_124 C0 hR N G hG _ _ _ hf H locs hP hD hS ls (lv_sub hl [] rfl)
            · rw [br_n _ hc] at hf
              refine lv_aload_n hx hb d_M_count_116 rfl (lv_at hl 0 rfl) ?_
              refine ug_I hx hb ht hown hM hK hP 118 (by decide) lk_M_118 (by decide) d_M_count_117 ?_
              refine lv_goto (tgt := 124) hx hb d_M_count_120 (by decide) ?_
              exact wb_M_count_124 C0 hR N G hG _ _ _ hf H locs hP hD hS ls (lv_sub hl [] rfl)
          · rw [br_n _ hc4] at hf
            by_cases hc5 : v1 = 5
            · rw [br_p _ hc5] at hf
              refine lv_tableIn (tgt := 125) hx hb d_M_count_6 (by rw [hc5]; decide) (by rw [hc5]; decide) (by rw [hc5]; rfl) (by decide) ?_
              refine lv_aload_n hx hb d_M_count_125 rfl (lv_at hl 0 rfl) ?_
              refine ug_I hx hb ht hown hM hK hP 87 (by decide) lk_M_87 (by decide) d_M_count_126 ?_
              refine lv_if_eq (tgt := 139) hx hb d_M_count_129 (by decide) (fun hc => ?_) (fun hc => ?_)
              · rw [br_p _ hc] at hf
                refine lv_iconst (v := 0) hx hb d_M_count_139 (by decide) ?_
                exact wb_M_count_140 C0 hR N G hG _ _ _ hf H locs hP hD hS ls (lv_sub hl [] rfl)
              · rw [br_n _ hc] at hf
                refine lv_aload_n hx hb d_M_count_132 rfl (lv_at hl 0 rfl) ?_
                refine ug_I hx hb ht hown hM hK hP 128 (by decide) lk_M_128 (by decide) d_M_count_133 ?_
                refine lv_goto (tgt := 140) hx hb d_M_count_136 (by decide) ?_
                exact wb_M_count_140 C0 hR N G hG _ _ _ hf H locs hP hD hS ls (lv_sub hl [] rfl)
            · rw [br_n _ hc5] at hf
              by_cases hc6 : v1 = 6
              · rw [br_p _ hc6] at hf
                refine lv_tableIn (tgt := 141) hx hb d_M_count_6 (by rw [hc6]; decide) (by rw [hc6]; decide) (by rw [hc6]; rfl) (by decide) ?_
                refine lv_aload_n hx hb d_M_count_141 rfl (lv_at hl 0 rfl) ?_
                refine ug_I hx hb ht hown hM hK hP 87 (by decide) lk_M_87 (by decide) d_M_count_142 ?_
                refine lv_if_eq (tgt := 155) hx hb d_M_count_145 (by decide) (fun hc => ?_) (fun hc => ?_)
                · rw [br_p _ hc] at hf
                  refine lv_iconst (v := 0) hx hb d_M_count_155 (by decide) ?_
                  exact wb_M_count_156 C0 hR N G hG _ _ _ hf H locs hP hD hS ls (lv_sub hl [] rfl)
                · rw [br_n _ hc] at hf
                  refine lv_aload_n hx hb d_M_count_148 rfl (lv_at hl 0 rfl) ?_
                  refine ug_I hx hb ht hown hM hK hP 119 (by decide) lk_M_119 (by decide) d_M_count_149 ?_
                  refine lv_goto (tgt := 156) hx hb d_M_count_152 (by decide) ?_
                  exact wb_M_count_156 C0 hR N G hG _ _ _ hf H locs hP hD hS ls (lv_sub hl [] rfl)
              · rw [br_n _ hc6] at hf
                by_cases hc7 : v1 = 7
                · rw [br_p _ hc7] at hf
                  refine lv_tableIn (tgt := 157) hx hb d_M_count_6 (by rw [hc7]; decide) (by rw [hc7]; decide) (by rw [hc7]; rfl) (by decide) ?_
                  refine lv_aload_n hx hb d_M_count_157 rfl (lv_at hl 0 rfl) ?_
                  refine ug_I hx hb ht hown hM hK hP 87 (by decide) lk_M_87 (by decide) d_M_count_158 ?_
                  refine lv_if_eq (tgt := 171) hx hb d_M_count_161 (by decide) (fun hc => ?_) (fun hc => ?_)
                  · rw [br_p _ hc] at hf
                    refine lv_iconst (v := 0) hx hb d_M_count_171 (by decide) ?_
                    exact wb_M_count_172 C0 hR N G hG _ _ _ hf H locs hP hD hS ls (lv_sub hl [] rfl)
                  · rw [br_n _ hc] at hf
                    refine lv_aload_n hx hb d_M_count_164 rfl (lv_at hl 0 rfl) ?_
                    refine ug_I hx hb ht hown hM hK hP 120 (by decide) lk_M_120 (by decide) d_M_count_165 ?_
                    refine lv_goto (tgt := 172) hx hb d_M_count_168 (by decide) ?_
                    exact wb_M_count_172 C0 hR N G hG _ _ _ hf H locs hP hD hS ls (lv_sub hl [] rfl)
                · rw [br_n _ hc7] at hf
                  by_cases hc8 : v1 = 8
                  · rw [br_p _ hc8] at hf
                    refine lv_tableIn (tgt := 173) hx hb d_M_count_6 (by rw [hc8]; decide) (by rw [hc8]; decide) (by rw [hc8]; rfl) (by decide) ?_
                    refine lv_aload_n hx hb d_M_count_173 rfl (lv_at hl 0 rfl) ?_
                    refine ug_I hx hb ht hown hM hK hP 87 (by decide) lk_M_87 (by decide) d_M_count_174 ?_
                    refine lv_if_eq (tgt := 187) hx hb d_M_count_177 (by decide) (fun hc => ?_) (fun hc => ?_)
                    · rw [br_p _ hc] at hf
                      refine lv_iconst (v := 0) hx hb d_M_count_187 (by decide) ?_
                      exact wb_M_count_188 C0 hR N G hG _ _ _ hf H locs hP hD hS ls (lv_sub hl [] rfl)
                    · rw [br_n _ hc] at hf
                      refine lv_aload_n hx hb d_M_count_180 rfl (lv_at hl 0 rfl) ?_
                      refine ug_I hx hb ht hown hM hK hP 121 (by decide) lk_M_121 (by decide) d_M_count_181 ?_
                      refine lv_goto (tgt := 188) hx hb d_M_count_184 (by decide) ?_
                      exact wb_M_count_188 C0 hR N G hG _ _ _ hf H locs hP hD hS ls (lv_sub hl [] rfl)
                  · rw [br_n _ hc8] at hf
                    refine lv_tableOut (tgt := 189) hx hb d_M_count_6 (by have z0 := tiN hc0; have z1 := tiN hc1; have z2 := tiN hc2; have z3 := tiN hc3; have z4 := tiN hc4; have z5 := tiN hc5; have z6 := tiN hc6; have z7 := tiN hc7; have z8 := tiN hc8; rw [show (0 : Int32).toInt = 0 from by decide] at z0; rw [show (1 : Int32).toInt = 1 from by decide] at z1; rw [show (2 : Int32).toInt = 2 from by decide] at z2; rw [show (3 : Int32).toInt = 3 from by decide] at z3; rw [show (4 : Int32).toInt = 4 from by decide] at z4; rw [show (5 : Int32).toInt = 5 from by decide] at z5; rw [show (6 : Int32).toInt = 6 from by decide] at z6; rw [show (7 : Int32).toInt = 7 from by decide] at z7; rw [show (8 : Int32).toInt = 8 from by decide] at z8; omega) (by decide) ?_
                    refine lv_iconst (v := (-1)) hx hb d_M_count_189 (by decide) ?_
                    exact mr_i C0 hP hD hS hf d_M_count_190
def fm_M_count (N : Nat) (u : MS) (v1 : Int32) : Option (MS × Int32) := fb_M_count_0 N () u v1
set_option maxRecDepth 100000 in
set_option maxHeartbeats 4000000 in
theorem c_M_count (N : Nat) {l : Launch} {D : va_G} {cl : List vw_C} {cB cI cJ cZ cS : ClassId} {iM h0 : Nat} {ad : Nat → Nat} {u : MS} {sz : Nat} {v1 : Int32} {x : MS × Int32} (hM : cl[iM]? = some (R_M, F_M, 171)) (hf : fm_M_count N u v1 = some x) : Met l y_M_count (wd_ws y_M_count b_M_count 2 (some .int)) rm_M_count (mPc D cl cB cI cJ cZ cS iM h0 ad u sz [.ref h0, .int v1]) (mQi D cl cB cI cJ cZ cS iM h0 ad (mA cB cI cJ cZ cS iM h0 ad u sz) x) 0 0 (mA cB cI cJ cZ cS iM h0 ad u sz) :=
  mMet (by decide) rfl hM (Nat.le_of_ble_eq_true rfl) (fun p e s m below meth c ls hsz C0 hP hD hS hl => by
    have hR : rm_M_count = rm_M_count := rfl
    exact wb_M_count_0 C0 hR N () trivial u _ x hf s.heap [] hP hD hS ls (lv_sub hl [0, 1] rfl))
abbrev b_M_function0 : ByteArray := prog_14_method_41_code
def y_M_function0 : MethodName := ⟨R_M, "function", "()V"⟩
def w_M_function0 : List Cond := wd_ws y_M_function0 b_M_function0 6 none
set_option maxRecDepth 100000 in
theorem k_M_function0 : Cond.code y_M_function0 b_M_function0 6 none ∈ wd_tbl := wd_of 2701 rfl rfl
theorem d_M_function0_0 : decode b_M_function0 0 = .ok (.aload_n 0, 1) := by decide +kernel
theorem d_M_function0_1 : decode b_M_function0 1 = .ok (.getfield 508, 3) := by decide +kernel
theorem d_M_function0_4 : decode b_M_function0 4 = .ok (.istore_n 1, 1) := by decide +kernel
theorem d_M_function0_5 : decode b_M_function0 5 = .ok (.aload_n 0, 1) := by decide +kernel
theorem d_M_function0_6 : decode b_M_function0 6 = .ok (.dup, 1) := by decide +kernel
theorem d_M_function0_7 : decode b_M_function0 7 = .ok (.getfield 508, 3) := by decide +kernel
theorem d_M_function0_10 : decode b_M_function0 10 = .ok (.iconst 1, 1) := by decide +kernel
theorem d_M_function0_11 : decode b_M_function0 11 = .ok (.iadd, 1) := by decide +kernel
theorem d_M_function0_12 : decode b_M_function0 12 = .ok (.putfield 508, 3) := by decide +kernel
theorem d_M_function0_15 : decode b_M_function0 15 = .ok (.aload_n 0, 1) := by decide +kernel
theorem d_M_function0_16 : decode b_M_function0 16 = .ok (.getfield 128, 3) := by decide +kernel
theorem d_M_function0_19 : decode b_M_function0 19 = .ok (.iload_n 1, 1) := by decide +kernel
theorem d_M_function0_20 : decode b_M_function0 20 = .ok (.aload_n 0, 1) := by decide +kernel
theorem d_M_function0_21 : decode b_M_function0 21 = .ok (.getfield 457, 3) := by decide +kernel
theorem d_M_function0_24 : decode b_M_function0 24 = .ok (.iastore, 1) := by decide +kernel
theorem d_M_function0_25 : decode b_M_function0 25 = .ok (.aload_n 0, 1) := by decide +kernel
theorem d_M_function0_26 : decode b_M_function0 26 = .ok (.getfield 134, 3) := by decide +kernel
theorem d_M_function0_29 : decode b_M_function0 29 = .ok (.iload_n 1, 1) := by decide +kernel
theorem d_M_function0_30 : decode b_M_function0 30 = .ok (.iconst 0, 1) := by decide +kernel
theorem d_M_function0_31 : decode b_M_function0 31 = .ok (.iastore, 1) := by decide +kernel
theorem d_M_function0_32 : decode b_M_function0 32 = .ok (.iconst (-1), 1) := by decide +kernel
theorem d_M_function0_33 : decode b_M_function0 33 = .ok (.istore_n 2, 1) := by decide +kernel
theorem d_M_function0_34 : decode b_M_function0 34 = .ok (.iconst 1, 1) := by decide +kernel
theorem d_M_function0_35 : decode b_M_function0 35 = .ok (.istore_n 3, 1) := by decide +kernel
theorem d_M_function0_36 : decode b_M_function0 36 = .ok (.iload_n 3, 1) := by decide +kernel
theorem d_M_function0_37 : decode b_M_function0 37 = .ok (.ifCond .eq 191, 3) := by decide +kernel
theorem d_M_function0_40 : decode b_M_function0 40 = .ok (.aload_n 0, 1) := by decide +kernel
theorem d_M_function0_41 : decode b_M_function0 41 = .ok (.getfield 454, 3) := by decide +kernel
theorem d_M_function0_44 : decode b_M_function0 44 = .ok (.ifCond .ne 184, 3) := by decide +kernel
theorem d_M_function0_47 : decode b_M_function0 47 = .ok (.aload_n 0, 1) := by decide +kernel
theorem d_M_function0_48 : decode b_M_function0 48 = .ok (.getfield 22, 3) := by decide +kernel
theorem d_M_function0_51 : decode b_M_function0 51 = .ok (.aload_n 0, 1) := by decide +kernel
theorem d_M_function0_52 : decode b_M_function0 52 = .ok (.getfield 457, 3) := by decide +kernel
theorem d_M_function0_55 : decode b_M_function0 55 = .ok (.baload, 1) := by decide +kernel
theorem d_M_function0_56 : decode b_M_function0 56 = .ok (.iconst 1, 1) := by decide +kernel
theorem d_M_function0_57 : decode b_M_function0 57 = .ok (.if_icmp .eq 9, 3) := by decide +kernel
theorem d_M_function0_60 : decode b_M_function0 60 = .ok (.aload_n 0, 1) := by decide +kernel
theorem d_M_function0_61 : decode b_M_function0 61 = .ok (.iconst 2, 1) := by decide +kernel
theorem d_M_function0_62 : decode b_M_function0 62 = .ok (.invokevirtual 478, 3) := by decide +kernel
theorem d_M_function0_65 : decode b_M_function0 65 = .ok (.return_, 1) := by decide +kernel
theorem d_M_function0_66 : decode b_M_function0 66 = .ok (.aload_n 0, 1) := by decide +kernel
theorem d_M_function0_67 : decode b_M_function0 67 = .ok (.getfield 457, 3) := by decide +kernel
theorem d_M_function0_70 : decode b_M_function0 70 = .ok (.istore 4, 2) := by decide +kernel
theorem d_M_function0_72 : decode b_M_function0 72 = .ok (.aload_n 0, 1) := by decide +kernel
theorem d_M_function0_73 : decode b_M_function0 73 = .ok (.dup, 1) := by decide +kernel
theorem d_M_function0_74 : decode b_M_function0 74 = .ok (.getfield 457, 3) := by decide +kernel
theorem d_M_function0_77 : decode b_M_function0 77 = .ok (.iconst 1, 1) := by decide +kernel
theorem d_M_function0_78 : decode b_M_function0 78 = .ok (.iadd, 1) := by decide +kernel
theorem d_M_function0_79 : decode b_M_function0 79 = .ok (.putfield 457, 3) := by decide +kernel
theorem d_M_function0_82 : decode b_M_function0 82 = .ok (.aload_n 0, 1) := by decide +kernel
theorem d_M_function0_83 : decode b_M_function0 83 = .ok (.iconst 0, 1) := by decide +kernel
theorem d_M_function0_84 : decode b_M_function0 84 = .ok (.putfield 493, 3) := by decide +kernel
theorem d_M_function0_87 : decode b_M_function0 87 = .ok (.aload_n 0, 1) := by decide +kernel
theorem d_M_function0_88 : decode b_M_function0 88 = .ok (.getfield 153, 3) := by decide +kernel
theorem d_M_function0_91 : decode b_M_function0 91 = .ok (.iconst 0, 1) := by decide +kernel
theorem d_M_function0_92 : decode b_M_function0 92 = .ok (.iconst 0, 1) := by decide +kernel
theorem d_M_function0_93 : decode b_M_function0 93 = .ok (.iastore, 1) := by decide +kernel
theorem d_M_function0_94 : decode b_M_function0 94 = .ok (.aload_n 0, 1) := by decide +kernel
theorem d_M_function0_95 : decode b_M_function0 95 = .ok (.getfield 162, 3) := by decide +kernel
theorem d_M_function0_98 : decode b_M_function0 98 = .ok (.iconst 0, 1) := by decide +kernel
theorem d_M_function0_99 : decode b_M_function0 99 = .ok (.iconst 0, 1) := by decide +kernel
theorem d_M_function0_100 : decode b_M_function0 100 = .ok (.iastore, 1) := by decide +kernel
theorem d_M_function0_101 : decode b_M_function0 101 = .ok (.aload_n 0, 1) := by decide +kernel
theorem d_M_function0_102 : decode b_M_function0 102 = .ok (.getfield 165, 3) := by decide +kernel
theorem d_M_function0_105 : decode b_M_function0 105 = .ok (.iconst 0, 1) := by decide +kernel
theorem d_M_function0_106 : decode b_M_function0 106 = .ok (.iconst 0, 1) := by decide +kernel
theorem d_M_function0_107 : decode b_M_function0 107 = .ok (.iastore, 1) := by decide +kernel
theorem d_M_function0_108 : decode b_M_function0 108 = .ok (.aload_n 0, 1) := by decide +kernel
theorem d_M_function0_109 : decode b_M_function0 109 = .ok (.iload 4, 2) := by decide +kernel
theorem d_M_function0_111 : decode b_M_function0 111 = .ok (.invokevirtual 523, 3) := by decide +kernel
theorem d_M_function0_114 : decode b_M_function0 114 = .ok (.istore 5, 2) := by decide +kernel
theorem d_M_function0_116 : decode b_M_function0 116 = .ok (.iload_n 2, 1) := by decide +kernel
theorem d_M_function0_117 : decode b_M_function0 117 = .ok (.iconst (-1), 1) := by decide +kernel
theorem d_M_function0_118 : decode b_M_function0 118 = .ok (.if_icmp .ne 40, 3) := by decide +kernel
theorem d_M_function0_121 : decode b_M_function0 121 = .ok (.aload_n 0, 1) := by decide +kernel
theorem d_M_function0_122 : decode b_M_function0 122 = .ok (.getfield 122, 3) := by decide +kernel
theorem d_M_function0_125 : decode b_M_function0 125 = .ok (.iload_n 1, 1) := by decide +kernel
theorem d_M_function0_126 : decode b_M_function0 126 = .ok (.aload_n 0, 1) := by decide +kernel
theorem d_M_function0_127 : decode b_M_function0 127 = .ok (.getfield 25, 3) := by decide +kernel
theorem d_M_function0_130 : decode b_M_function0 130 = .ok (.iload 4, 2) := by decide +kernel
theorem d_M_function0_132 : decode b_M_function0 132 = .ok (.iaload, 1) := by decide +kernel
theorem d_M_function0_133 : decode b_M_function0 133 = .ok (.iastore, 1) := by decide +kernel
theorem d_M_function0_134 : decode b_M_function0 134 = .ok (.aload_n 0, 1) := by decide +kernel
theorem d_M_function0_135 : decode b_M_function0 135 = .ok (.getfield 125, 3) := by decide +kernel
theorem d_M_function0_138 : decode b_M_function0 138 = .ok (.iload_n 1, 1) := by decide +kernel
theorem d_M_function0_139 : decode b_M_function0 139 = .ok (.aload_n 0, 1) := by decide +kernel
theorem d_M_function0_140 : decode b_M_function0 140 = .ok (.getfield 107, 3) := by decide +kernel
theorem d_M_function0_143 : decode b_M_function0 143 = .ok (.iload 5, 2) := by decide +kernel
theorem d_M_function0_145 : decode b_M_function0 145 = .ok (.iaload, 1) := by decide +kernel
theorem d_M_function0_146 : decode b_M_function0 146 = .ok (.iastore, 1) := by decide +kernel
theorem d_M_function0_147 : decode b_M_function0 147 = .ok (.aload_n 0, 1) := by decide +kernel
theorem d_M_function0_148 : decode b_M_function0 148 = .ok (.getfield 131, 3) := by decide +kernel
theorem d_M_function0_151 : decode b_M_function0 151 = .ok (.iload_n 1, 1) := by decide +kernel
theorem d_M_function0_152 : decode b_M_function0 152 = .ok (.iload 5, 2) := by decide +kernel
theorem d_M_function0_154 : decode b_M_function0 154 = .ok (.iastore, 1) := by decide +kernel
theorem d_M_function0_155 : decode b_M_function0 155 = .ok (.goto 50, 3) := by decide +kernel
theorem d_M_function0_158 : decode b_M_function0 158 = .ok (.aload_n 0, 1) := by decide +kernel
theorem d_M_function0_159 : decode b_M_function0 159 = .ok (.getfield 119, 3) := by decide +kernel
theorem d_M_function0_162 : decode b_M_function0 162 = .ok (.iload_n 2, 1) := by decide +kernel
theorem d_M_function0_163 : decode b_M_function0 163 = .ok (.iload 5, 2) := by decide +kernel
theorem d_M_function0_165 : decode b_M_function0 165 = .ok (.iastore, 1) := by decide +kernel
theorem d_M_function0_166 : decode b_M_function0 166 = .ok (.aload_n 0, 1) := by decide +kernel
theorem d_M_function0_167 : decode b_M_function0 167 = .ok (.getfield 25, 3) := by decide +kernel
theorem d_M_function0_170 : decode b_M_function0 170 = .ok (.iload 4, 2) := by decide +kernel
theorem d_M_function0_172 : decode b_M_function0 172 = .ok (.iaload, 1) := by decide +kernel
theorem d_M_function0_173 : decode b_M_function0 173 = .ok (.aload_n 0, 1) := by decide +kernel
theorem d_M_function0_174 : decode b_M_function0 174 = .ok (.getfield 122, 3) := by decide +kernel
theorem d_M_function0_177 : decode b_M_function0 177 = .ok (.iload_n 1, 1) := by decide +kernel
theorem d_M_function0_178 : decode b_M_function0 178 = .ok (.iaload, 1) := by decide +kernel
theorem d_M_function0_179 : decode b_M_function0 179 = .ok (.if_icmp .ne 19, 3) := by decide +kernel
theorem d_M_function0_182 : decode b_M_function0 182 = .ok (.aload_n 0, 1) := by decide +kernel
theorem d_M_function0_183 : decode b_M_function0 183 = .ok (.getfield 107, 3) := by decide +kernel
theorem d_M_function0_186 : decode b_M_function0 186 = .ok (.iload 5, 2) := by decide +kernel
theorem d_M_function0_188 : decode b_M_function0 188 = .ok (.iaload, 1) := by decide +kernel
theorem d_M_function0_189 : decode b_M_function0 189 = .ok (.aload_n 0, 1) := by decide +kernel
theorem d_M_function0_190 : decode b_M_function0 190 = .ok (.getfield 125, 3) := by decide +kernel
theorem d_M_function0_193 : decode b_M_function0 193 = .ok (.iload_n 1, 1) := by decide +kernel
theorem d_M_function0_194 : decode b_M_function0 194 = .ok (.iaload, 1) := by decide +kernel
theorem d_M_function0_195 : decode b_M_function0 195 = .ok (.if_icmp .eq 10, 3) := by decide +kernel
theorem d_M_function0_198 : decode b_M_function0 198 = .ok (.aload_n 0, 1) := by decide +kernel
theorem d_M_function0_199 : decode b_M_function0 199 = .ok (.iconst 4, 1) := by decide +kernel
theorem d_M_function0_200 : decode b_M_function0 200 = .ok (.iload 4, 2) := by decide +kernel
theorem d_M_function0_202 : decode b_M_function0 202 = .ok (.invokevirtual 526, 3) := by decide +kernel
theorem d_M_function0_205 : decode b_M_function0 205 = .ok (.iload 5, 2) := by decide +kernel
theorem d_M_function0_207 : decode b_M_function0 207 = .ok (.istore_n 2, 1) := by decide +kernel
theorem d_M_function0_208 : decode b_M_function0 208 = .ok (.aload_n 0, 1) := by decide +kernel
theorem d_M_function0_209 : decode b_M_function0 209 = .ok (.getfield 134, 3) := by decide +kernel
theorem d_M_function0_212 : decode b_M_function0 212 = .ok (.iload_n 1, 1) := by decide +kernel
theorem d_M_function0_213 : decode b_M_function0 213 = .ok (.dup2, 1) := by decide +kernel
theorem d_M_function0_214 : decode b_M_function0 214 = .ok (.iaload, 1) := by decide +kernel
theorem d_M_function0_215 : decode b_M_function0 215 = .ok (.iconst 1, 1) := by decide +kernel
theorem d_M_function0_216 : decode b_M_function0 216 = .ok (.iadd, 1) := by decide +kernel
theorem d_M_function0_217 : decode b_M_function0 217 = .ok (.iastore, 1) := by decide +kernel
theorem d_M_function0_218 : decode b_M_function0 218 = .ok (.aload_n 0, 1) := by decide +kernel
theorem d_M_function0_219 : decode b_M_function0 219 = .ok (.bipush 7, 2) := by decide +kernel
theorem d_M_function0_221 : decode b_M_function0 221 = .ok (.invokevirtual 475, 3) := by decide +kernel
theorem d_M_function0_224 : decode b_M_function0 224 = .ok (.istore_n 3, 1) := by decide +kernel
theorem d_M_function0_225 : decode b_M_function0 225 = .ok (.goto (-189), 3) := by decide +kernel
theorem d_M_function0_228 : decode b_M_function0 228 = .ok (.aload_n 0, 1) := by decide +kernel
theorem d_M_function0_229 : decode b_M_function0 229 = .ok (.bipush 8, 2) := by decide +kernel
theorem d_M_function0_231 : decode b_M_function0 231 = .ok (.invokevirtual 529, 3) := by decide +kernel
theorem d_M_function0_234 : decode b_M_function0 234 = .ok (.aload_n 0, 1) := by decide +kernel
theorem d_M_function0_235 : decode b_M_function0 235 = .ok (.aload_n 0, 1) := by decide +kernel
theorem d_M_function0_236 : decode b_M_function0 236 = .ok (.getfield 122, 3) := by decide +kernel
theorem d_M_function0_239 : decode b_M_function0 239 = .ok (.iload_n 1, 1) := by decide +kernel
theorem d_M_function0_240 : decode b_M_function0 240 = .ok (.iaload, 1) := by decide +kernel
theorem d_M_function0_241 : decode b_M_function0 241 = .ok (.aload_n 0, 1) := by decide +kernel
theorem d_M_function0_242 : decode b_M_function0 242 = .ok (.getfield 125, 3) := by decide +kernel
theorem d_M_function0_245 : decode b_M_function0 245 = .ok (.iload_n 1, 1) := by decide +kernel
theorem d_M_function0_246 : decode b_M_function0 246 = .ok (.iaload, 1) := by decide +kernel
theorem d_M_function0_247 : decode b_M_function0 247 = .ok (.invokevirtual 532, 3) := by decide +kernel
theorem d_M_function0_250 : decode b_M_function0 250 = .ok (.iconst (-1), 1) := by decide +kernel
theorem d_M_function0_251 : decode b_M_function0 251 = .ok (.if_icmp .eq 7, 3) := by decide +kernel
theorem d_M_function0_254 : decode b_M_function0 254 = .ok (.iconst 1, 1) := by decide +kernel
theorem d_M_function0_255 : decode b_M_function0 255 = .ok (.goto 4, 3) := by decide +kernel
theorem d_M_function0_258 : decode b_M_function0 258 = .ok (.iconst 0, 1) := by decide +kernel
theorem d_M_function0_259 : decode b_M_function0 259 = .ok (.istore 4, 2) := by decide +kernel
theorem d_M_function0_261 : decode b_M_function0 261 = .ok (.iconst 0, 1) := by decide +kernel
theorem d_M_function0_262 : decode b_M_function0 262 = .ok (.istore 5, 2) := by decide +kernel
theorem d_M_function0_264 : decode b_M_function0 264 = .ok (.iload 5, 2) := by decide +kernel
theorem d_M_function0_266 : decode b_M_function0 266 = .ok (.iload_n 1, 1) := by decide +kernel
theorem d_M_function0_267 : decode b_M_function0 267 = .ok (.if_icmp .ge 51, 3) := by decide +kernel
theorem d_M_function0_270 : decode b_M_function0 270 = .ok (.iload 4, 2) := by decide +kernel
theorem d_M_function0_272 : decode b_M_function0 272 = .ok (.aload_n 0, 1) := by decide +kernel
theorem d_M_function0_273 : decode b_M_function0 273 = .ok (.getfield 122, 3) := by decide +kernel
theorem d_M_function0_276 : decode b_M_function0 276 = .ok (.iload 5, 2) := by decide +kernel
theorem d_M_function0_278 : decode b_M_function0 278 = .ok (.iaload, 1) := by decide +kernel
theorem d_M_function0_279 : decode b_M_function0 279 = .ok (.aload_n 0, 1) := by decide +kernel
theorem d_M_function0_280 : decode b_M_function0 280 = .ok (.getfield 122, 3) := by decide +kernel
theorem d_M_function0_283 : decode b_M_function0 283 = .ok (.iload_n 1, 1) := by decide +kernel
theorem d_M_function0_284 : decode b_M_function0 284 = .ok (.iaload, 1) := by decide +kernel
theorem d_M_function0_285 : decode b_M_function0 285 = .ok (.if_icmp .ne 23, 3) := by decide +kernel
theorem d_M_function0_288 : decode b_M_function0 288 = .ok (.aload_n 0, 1) := by decide +kernel
theorem d_M_function0_289 : decode b_M_function0 289 = .ok (.getfield 125, 3) := by decide +kernel
theorem d_M_function0_292 : decode b_M_function0 292 = .ok (.iload 5, 2) := by decide +kernel
theorem d_M_function0_294 : decode b_M_function0 294 = .ok (.iaload, 1) := by decide +kernel
theorem d_M_function0_295 : decode b_M_function0 295 = .ok (.aload_n 0, 1) := by decide +kernel
theorem d_M_function0_296 : decode b_M_function0 296 = .ok (.getfield 125, 3) := by decide +kernel
theorem d_M_function0_299 : decode b_M_function0 299 = .ok (.iload_n 1, 1) := by decide +kernel
theorem d_M_function0_300 : decode b_M_function0 300 = .ok (.iaload, 1) := by decide +kernel
theorem d_M_function0_301 : decode b_M_function0 301 = .ok (.if_icmp .ne 7, 3) := by decide +kernel
theorem d_M_function0_304 : decode b_M_function0 304 = .ok (.iconst 1, 1) := by decide +kernel
theorem d_M_function0_305 : decode b_M_function0 305 = .ok (.goto 4, 3) := by decide +kernel
theorem d_M_function0_308 : decode b_M_function0 308 = .ok (.iconst 0, 1) := by decide +kernel
theorem d_M_function0_309 : decode b_M_function0 309 = .ok (.ior, 1) := by decide +kernel
theorem d_M_function0_310 : decode b_M_function0 310 = .ok (.istore 4, 2) := by decide +kernel
theorem d_M_function0_312 : decode b_M_function0 312 = .ok (.iinc 5 1, 3) := by decide +kernel
theorem d_M_function0_315 : decode b_M_function0 315 = .ok (.goto (-51), 3) := by decide +kernel
theorem d_M_function0_318 : decode b_M_function0 318 = .ok (.iload 4, 2) := by decide +kernel
theorem d_M_function0_320 : decode b_M_function0 320 = .ok (.ifCond .eq 21, 3) := by decide +kernel
theorem d_M_function0_323 : decode b_M_function0 323 = .ok (.aload_n 0, 1) := by decide +kernel
theorem d_M_function0_324 : decode b_M_function0 324 = .ok (.getfield 454, 3) := by decide +kernel
theorem d_M_function0_327 : decode b_M_function0 327 = .ok (.ifCond .ne 14, 3) := by decide +kernel
theorem d_M_function0_330 : decode b_M_function0 330 = .ok (.aload_n 0, 1) := by decide +kernel
theorem d_M_function0_331 : decode b_M_function0 331 = .ok (.iconst 4, 1) := by decide +kernel
theorem d_M_function0_332 : decode b_M_function0 332 = .ok (.aload_n 0, 1) := by decide +kernel
theorem d_M_function0_333 : decode b_M_function0 333 = .ok (.getfield 128, 3) := by decide +kernel
theorem d_M_function0_336 : decode b_M_function0 336 = .ok (.iload_n 1, 1) := by decide +kernel
theorem d_M_function0_337 : decode b_M_function0 337 = .ok (.iaload, 1) := by decide +kernel
theorem d_M_function0_338 : decode b_M_function0 338 = .ok (.invokevirtual 526, 3) := by decide +kernel
theorem d_M_function0_341 : decode b_M_function0 341 = .ok (.return_, 1) := by decide +kernel
set_option maxRecDepth 100000 in
theorem hl_M_function0 : Cond.methodLink R_M 520 y_M_function0 ∈ wd_tbl := wd_of 2698 (by decide +kernel) rfl
set_option maxRecDepth 100000 in
theorem hi_M_function0 : Cond.instanceMethod y_M_function0 ∈ wd_tbl := wd_of 2700 (by decide +kernel) rfl
set_option maxRecDepth 100000 in
theorem hs_M_function0 : Cond.selects R_M y_M_function0 y_M_function0 ∈ wd_tbl := wd_of 137 (by decide +kernel) rfl
theorem hd_M_function0 : y_M_function0.cls = R_M ∧ y_M_function0.cls ≠ "java/lang/invoke/MethodHandle" ∧ y_M_function0.cls ≠ "java/lang/invoke/VarHandle" ∧ (parseMethodDescriptor y_M_function0.desc).map (fun d => d.parameters.length) = some 0 := by decide +kernel
def rm_M_function0 : Room := { frames := 0, cells := 0, slots := 0, locals := 0 }
def fb_M_function0_341 (N : Nat) (G : (MS → Int32 → Int32 → Int32 → Option (MS × Unit)) × (MS → Int32 → Int32 → Int32 → Option (MS × Unit))) (u : MS) : Option (MS × Unit) := some (u, ())
set_option maxRecDepth 100000 in
set_option maxHeartbeats 4000000 in
theorem wb_M_function0_341 {p : Program} {l : Launch} {e : Env} {R : Room} {s : State} {m : MethodId} {args : Array Value} {below : List Frame} {meth : Method} {c : Code} {D : va_G} {cl : List vw_C} {cB cI cJ cZ cS : ClassId} {A : Nat → Prop} {iM h0 : Nat} {ad : Nat → Nat} (C0 : MCx p s m args meth c b_M_function0 6 none D cl cB cI cJ cZ cS iM A) (hR : R = rm_M_function0) (N : Nat) (G : (MS → Int32 → Int32 → Int32 → Option (MS × Unit)) × (MS → Int32 → Int32 → Int32 → Option (MS × Unit))) (hG : (∀ (u : MS) (v1 : Int32) (v2 : Int32) (v3 : Int32) (x : MS × Unit), G.1 u v1 v2 v3 = some x → ∀ (H : Heap) (locs : List Loc), va_P D cl (wM cB cI cJ cZ cS iM h0 ad u) H → va_D A (wM cB cI cJ cZ cS iM h0 ad u) → va_S A s.heap H locs → ∀ (ls : Array Slot), lv_has ls 6 [(0, .ref h0), (1, .int v1), (2, .int v2), (3, .int v3)] → W p l e R s m args below meth c H locs 0 0 (MQ below (mQv D cl cB cI cJ cZ cS iM h0 ad A x) args s 0 0 A) (F0 m 36 ls [])) ∧ (∀ (u : MS) (v1 : Int32) (v4 : Int32) (v5 : Int32) (x : MS × Unit), G.2 u v1 v4 v5 = some x → ∀ (H : Heap) (locs : List Loc), va_P D cl (wM cB cI cJ cZ cS iM h0 ad u) H → va_D A (wM cB cI cJ cZ cS iM h0 ad u) → va_S A s.heap H locs → ∀ (ls : Array Slot), lv_has ls 6 [(0, .ref h0), (1, .int v1), (4, .int v4), (5, .int v5)] → W p l e R s m args below meth c H locs 0 0 (MQ below (mQv D cl cB cI cJ cZ cS iM h0 ad A x) args s 0 0 A) (F0 m 264 ls []))) : ∀ (u : MS) (x : MS × Unit), fb_M_function0_341 N G u = some x → ∀ (H : Heap) (locs : List Loc), va_P D cl (wM cB cI cJ cZ cS iM h0 ad u) H → va_D A (wM cB cI cJ cZ cS iM h0 ad u) → va_S A s.heap H locs → ∀ (ls : Array Slot), lv_has ls 6 [] → W p l e R s m args below meth c H locs 0 0 (MQ below (mQv D cl cB cI cJ cZ cS iM h0 ad A x) args s 0 0 A) (F0 m 341 ls []) := by
  intro u x hf H locs hP hD hS ls hl
  obtain ⟨hx, hb, hr, hml, ht, hown, hM, hK, hA, hlocks⟩ := id C0
  unfold fb_M_function0_341 at hf
  exact mr_v C0 hP hD hS hf d_M_function0_341
def fb_M_function0_309 (N : Nat) (G : (MS → Int32 → Int32 → Int32 → Option (MS × Unit)) × (MS → Int32 → Int32 → Int32 → Option (MS × Unit))) (u : MS) (v1 : Int32) (v5 : Int32) (t0 : Int32) (t1 : Int32) : Option (MS × Unit) := G.2 u (v1) ((t0 ||| t1)) ((v5 + 1))
set_option maxRecDepth 100000 in
set_option maxHeartbeats 4000000 in
theorem wb_M_function0_309 {p : Program} {l : Launch} {e : Env} {R : Room} {s : State} {m : MethodId} {args : Array Value} {below : List Frame} {meth : Method} {c : Code} {D : va_G} {cl : List vw_C} {cB cI cJ cZ cS : ClassId} {A : Nat → Prop} {iM h0 : Nat} {ad : Nat → Nat} (C0 : MCx p s m args meth c b_M_function0 6 none D cl cB cI cJ cZ cS iM A) (hR : R = rm_M_function0) (N : Nat) (G : (MS → Int32 → Int32 → Int32 → Option (MS × Unit)) × (MS → Int32 → Int32 → Int32 → Option (MS × Unit))) (hG : (∀ (u : MS) (v1 : Int32) (v2 : Int32) (v3 : Int32) (x : MS × Unit), G.1 u v1 v2 v3 = some x → ∀ (H : Heap) (locs : List Loc), va_P D cl (wM cB cI cJ cZ cS iM h0 ad u) H → va_D A (wM cB cI cJ cZ cS iM h0 ad u) → va_S A s.heap H locs → ∀ (ls : Array Slot), lv_has ls 6 [(0, .ref h0), (1, .int v1), (2, .int v2), (3, .int v3)] → W p l e R s m args below meth c H locs 0 0 (MQ below (mQv D cl cB cI cJ cZ cS iM h0 ad A x) args s 0 0 A) (F0 m 36 ls [])) ∧ (∀ (u : MS) (v1 : Int32) (v4 : Int32) (v5 : Int32) (x : MS × Unit), G.2 u v1 v4 v5 = some x → ∀ (H : Heap) (locs : List Loc), va_P D cl (wM cB cI cJ cZ cS iM h0 ad u) H → va_D A (wM cB cI cJ cZ cS iM h0 ad u) → va_S A s.heap H locs → ∀ (ls : Array Slot), lv_has ls 6 [(0, .ref h0), (1, .int v1), (4, .int v4), (5, .int v5)] → W p l e R s m args below meth c H locs 0 0 (MQ below (mQv D cl cB cI cJ cZ cS iM h0 ad A x) args s 0 0 A) (F0 m 264 ls []))) : ∀ (u : MS) (v1 : Int32) (v5 : Int32) (t0 : Int32) (t1 : Int32) (x : MS × Unit), fb_M_function0_309 N G u v1 v5 t0 t1 = some x → ∀ (H : Heap) (locs : List Loc), va_P D cl (wM cB cI cJ cZ cS iM h0 ad u) H → va_D A (wM cB cI cJ cZ cS iM h0 ad u) → va_S A s.heap H locs → ∀ (ls : Array Slot), lv_has ls 6 [(0, .ref h0), (1, .int v1), (5, .int v5)] → W p l e R s m args below meth c H locs 0 0 (MQ below (mQv D cl cB cI cJ cZ cS iM h0 ad A x) args s 0 0 A) (F0 m 309 ls [.int t1, .int t0]) := by
  intro u v1 v5 t0 t1 x hf H locs hP hD hS ls hl
  obtain ⟨hx, hb, hr, hml, ht, hown, hM, hK, hA, hlocks⟩ := id C0
  unfold fb_M_function0_309 at hf
  refine lv_ior hx hb d_M_function0_309 ?_
  refine lv_istore (lv' := [(4, .int (t0 ||| t1)), (0, .ref h0), (1, .int v1), (5, .int v5)]) hx hb d_M_function0_310 hl (by decide) rfl (fun ls hl => ?_)
  refine lv_iinc (v := (v5 + 1)) (lv' := [(5, .int (v5 + 1)), (4, .int (t0 ||| t1)), (0, .ref h0), (1, .int v1)]) hx hb d_M_function0_312 hl (k := 3) rfl rfl (by decide) rfl (fun ls hl => ?_)
  refine lv_goto (tgt := 264) hx hb d_M_function0_315 (by decide) ?_
  exact hG.2 _ _ _ _ _ hf H locs hP hD hS ls (lv_sub hl [2, 3, 1, 0] rfl)
def fb_M_function0_308 (N : Nat) (G : (MS → Int32 → Int32 → Int32 → Option (MS × Unit)) × (MS → Int32 → Int32 → Int32 → Option (MS × Unit))) (u : MS) (v1 : Int32) (v5 : Int32) (t0 : Int32) : Option (MS × Unit) := fb_M_function0_309 N G u (v1) (v5) (t0) (0)
set_option maxRecDepth 100000 in
set_option maxHeartbeats 4000000 in
theorem wb_M_function0_308 {p : Program} {l : Launch} {e : Env} {R : Room} {s : State} {m : MethodId} {args : Array Value} {below : List Frame} {meth : Method} {c : Code} {D : va_G} {cl : List vw_C} {cB cI cJ cZ cS : ClassId} {A : Nat → Prop} {iM h0 : Nat} {ad : Nat → Nat} (C0 : MCx p s m args meth c b_M_function0 6 none D cl cB cI cJ cZ cS iM A) (hR : R = rm_M_function0) (N : Nat) (G : (MS → Int32 → Int32 → Int32 → Option (MS × Unit)) × (MS → Int32 → Int32 → Int32 → Option (MS × Unit))) (hG : (∀ (u : MS) (v1 : Int32) (v2 : Int32) (v3 : Int32) (x : MS × Unit), G.1 u v1 v2 v3 = some x → ∀ (H : Heap) (locs : List Loc), va_P D cl (wM cB cI cJ cZ cS iM h0 ad u) H → va_D A (wM cB cI cJ cZ cS iM h0 ad u) → va_S A s.heap H locs → ∀ (ls : Array Slot), lv_has ls 6 [(0, .ref h0), (1, .int v1), (2, .int v2), (3, .int v3)] → W p l e R s m args below meth c H locs 0 0 (MQ below (mQv D cl cB cI cJ cZ cS iM h0 ad A x) args s 0 0 A) (F0 m 36 ls [])) ∧ (∀ (u : MS) (v1 : Int32) (v4 : Int32) (v5 : Int32) (x : MS × Unit), G.2 u v1 v4 v5 = some x → ∀ (H : Heap) (locs : List Loc), va_P D cl (wM cB cI cJ cZ cS iM h0 ad u) H → va_D A (wM cB cI cJ cZ cS iM h0 ad u) → va_S A s.heap H locs → ∀ (ls : Array Slot), lv_has ls 6 [(0, .ref h0), (1, .int v1), (4, .int v4), (5, .int v5)] → W p l e R s m args below meth c H locs 0 0 (MQ below (mQv D cl cB cI cJ cZ cS iM h0 ad A x) args s 0 0 A) (F0 m 264 ls []))) : ∀ (u : MS) (v1 : Int32) (v5 : Int32) (t0 : Int32) (x : MS × Unit), fb_M_function0_308 N G u v1 v5 t0 = some x → ∀ (H : Heap) (locs : List Loc), va_P D cl (wM cB cI cJ cZ cS iM h0 ad u) H → va_D A (wM cB cI cJ cZ cS iM h0 ad u) → va_S A s.heap H locs → ∀ (ls : Array Slot), lv_has ls 6 [(0, .ref h0), (1, .int v1), (5, .int v5)] → W p l e R s m args below meth c H locs 0 0 (MQ below (mQv D cl cB cI cJ cZ cS iM h0 ad A x) args s 0 0 A) (F0 m 308 ls [.int t0]) := by
  intro u v1 v5 t0 x hf H locs hP hD hS ls hl
  obtain ⟨hx, hb, hr, hml, ht, hown, hM, hK, hA, hlocks⟩ := id C0
  unfold fb_M_function0_308 at hf
  refine lv_iconst (v := 0) hx hb d_M_function0_308 (by decide) ?_
  exact wb_M_function0_309 C0 hR N G hG _ _ _ _ _ _ hf H locs hP hD hS ls (lv_sub hl [0, 1, 2] rfl)
def fb_M_function0_264 (N : Nat) (G : (MS → Int32 → Int32 → Int32 → Option (MS × Unit)) × (MS → Int32 → Int32 → Int32 → Option (MS × Unit))) (u : MS) (v1 : Int32) (v4 : Int32) (v5 : Int32) : Option (MS × Unit) := br (decide (v1 ≤ v5)) (br (decide (v4 = 0)) (fb_M_function0_341 N G u) (br (decide ((u.1 67) = 0)) (ck (inb v1 (ln 49)) (none)) (fb_M_function0_341 N G u))) (ck (inb v5 (ln 47)) (ck (inb v1 (ln 47)) (br (decide ((u.2.2.1 47 v5.toNatClampNeg) = (u.2.2.1 47 v1.toNatClampNeg))) (ck (inb v5 (ln 48)) (ck (inb v1 (ln 48)) (br (decide ((u.2.2.1 48 v5.toNatClampNeg) = (u.2.2.1 48 v1.toNatClampNeg))) (fb_M_function0_309 N G u (v1) (v5) (v4) (1)) (fb_M_function0_308 N G u (v1) (v5) (v4))))) (fb_M_function0_308 N G u (v1) (v5) (v4)))))
set_option maxRecDepth 100000 in
set_option maxHeartbeats 4000000 in
theorem wb_M_function0_264 {p : Program} {l : Launch} {e : Env} {R : Room} {s : State} {m : MethodId} {args : Array Value} {below : List Frame} {meth : Method} {c : Code} {D : va_G} {cl : List vw_C} {cB cI cJ cZ cS : ClassId} {A : Nat → Prop} {iM h0 : Nat} {ad : Nat → Nat} (C0 : MCx p s m args meth c b_M_function0 6 none D cl cB cI cJ cZ cS iM A) (hR : R = rm_M_function0) (N : Nat) (G : (MS → Int32 → Int32 → Int32 → Option (MS × Unit)) × (MS → Int32 → Int32 → Int32 → Option (MS × Unit))) (hG : (∀ (u : MS) (v1 : Int32) (v2 : Int32) (v3 : Int32) (x : MS × Unit), G.1 u v1 v2 v3 = some x → ∀ (H : Heap) (locs : List Loc), va_P D cl (wM cB cI cJ cZ cS iM h0 ad u) H → va_D A (wM cB cI cJ cZ cS iM h0 ad u) → va_S A s.heap H locs → ∀ (ls : Array Slot), lv_has ls 6 [(0, .ref h0), (1, .int v1), (2, .int v2), (3, .int v3)] → W p l e R s m args below meth c H locs 0 0 (MQ below (mQv D cl cB cI cJ cZ cS iM h0 ad A x) args s 0 0 A) (F0 m 36 ls [])) ∧ (∀ (u : MS) (v1 : Int32) (v4 : Int32) (v5 : Int32) (x : MS × Unit), G.2 u v1 v4 v5 = some x → ∀ (H : Heap) (locs : List Loc), va_P D cl (wM cB cI cJ cZ cS iM h0 ad u) H → va_D A (wM cB cI cJ cZ cS iM h0 ad u) → va_S A s.heap H locs → ∀ (ls : Array Slot), lv_has ls 6 [(0, .ref h0), (1, .int v1), (4, .int v4), (5, .int v5)] → W p l e R s m args below meth c H locs 0 0 (MQ below (mQv D cl cB cI cJ cZ cS iM h0 ad A x) args s 0 0 A) (F0 m 264 ls []))) : ∀ (u : MS) (v1 : Int32) (v4 : Int32) (v5 : Int32) (x : MS × Unit), fb_M_function0_264 N G u v1 v4 v5 = some x → ∀ (H : Heap) (locs : List Loc), va_P D cl (wM cB cI cJ cZ cS iM h0 ad u) H → va_D A (wM cB cI cJ cZ cS iM h0 ad u) → va_S A s.heap H locs → ∀ (ls : Array Slot), lv_has ls 6 [(0, .ref h0), (1, .int v1), (4, .int v4), (5, .int v5)] → W p l e R s m args below meth c H locs 0 0 (MQ below (mQv D cl cB cI cJ cZ cS iM h0 ad A x) args s 0 0 A) (F0 m 264 ls []) := by
  intro u v1 v4 v5 x hf H locs hP hD hS ls hl
  obtain ⟨hx, hb, hr, hml, ht, hown, hM, hK, hA, hlocks⟩ := id C0
  unfold fb_M_function0_264 at hf
  refine lv_iload hx hb d_M_function0_264 (lv_at hl 3 rfl) ?_
  refine lv_iload_n hx hb d_M_function0_266 rfl (lv_at hl 1 rfl) ?_
  refine lv_icmp_ge (tgt := 318) hx hb d_M_function0_267 (by decide) (fun hc => ?_) (fun hc => ?_)
  · rw [br_p _ hc] at hf
    refine lv_iload hx hb d_M_function0_318 (lv_at hl 2 rfl) ?_
    refine lv_if_eq (tgt := 341) hx hb d_M_function0_320 (by decide) (fun hc => ?_) (fun hc => ?_)
    · rw [br_p _ hc] at hf
      exact wb_M_function0_341 C0 hR N G hG _ _ hf H locs hP hD hS ls (lv_sub hl [] rfl)
    · rw [br_n _ hc] at hf
      refine lv_aload_n hx hb d_M_function0_323 rfl (lv_at hl 0 rfl) ?_
      refine ug_I hx hb ht hown hM hK hP 67 (by decide) lk_M_67 (by decide) d_M_function0_324 ?_
      refine lv_if_ne (tgt := 341) hx hb d_M_function0_327 (by decide) (fun hc => ?_) (fun hc => ?_)
      · rw [br_n _ hc] at hf
        exact wb_M_function0_341 C0 hR N G hG _ _ hf H locs hP hD hS ls (lv_sub hl [] rfl)
      · rw [br_p _ hc] at hf
        refine lv_aload_n hx hb d_M_function0_330 rfl (lv_at hl 0 rfl) ?_
        refine lv_iconst (v := 4) hx hb d_M_function0_331 (by decide) ?_
        refine lv_aload_n hx hb d_M_function0_332 rfl (lv_at hl 0 rfl) ?_
        refine ug_R hx hb ht hown hM hK hP 49 (by decide) lk_M_49 (by decide) d_M_function0_333 ?_
        refine lv_iload_n hx hb d_M_function0_336 rfl (lv_at hl 1 rfl) ?_
        obtain ⟨hi9, hf⟩ := ck_some hf
        refine ul_I hx hb hK hP (by decide) (by decide) hi9 d_M_function0_337 ?_
        cases hf
  · rw [br_n _ hc] at hf
    refine lv_iload hx hb d_M_function0_270 (lv_at hl 2 rfl) ?_
    refine lv_aload_n hx hb d_M_function0_272 rfl (lv_at hl 0 rfl) ?_
    refine ug_R hx hb ht hown hM hK hP 47 (by decide) lk_M_47 (by decide) d_M_function0_273 ?_
    refine lv_iload hx hb d_M_function0_276 (lv_at hl 3 rfl) ?_
    obtain ⟨hi9, hf⟩ := ck_some hf
    refine ul_I hx hb hK hP (by decide) (by decide) hi9 d_M_function0_278 ?_
    refine lv_aload_n hx hb d_M_function0_279 rfl (lv_at hl 0 rfl) ?_
    refine ug_R hx hb ht hown hM hK hP 47 (by decide) lk_M_47 (by decide) d_M_function0_280 ?_
    refine lv_iload_n hx hb d_M_function0_283 rfl (lv_at hl 1 rfl) ?_
    obtain ⟨hi9, hf⟩ := ck_some hf
    refine ul_I hx hb hK hP (by decide) (by decide) hi9 d_M_function0_284 ?_
    refine lv_icmp_ne (tgt := 308) hx hb d_M_function0_285 (by decide) (fun hc => ?_) (fun hc => ?_)
    · rw [br_n _ hc] at hf
      exact wb_M_function0_308 C0 hR N G hG _ _ _ _ _ hf H locs hP hD hS ls (lv_sub hl [0, 1, 3] rfl)
    · rw [br_p _ hc] at hf
      refine lv_aload_n hx hb d_M_function0_288 rfl (lv_at hl 0 rfl) ?_
      refine ug_R hx hb ht hown hM hK hP 48 (by decide) lk_M_48 (by decide) d_M_function0_289 ?_
      refine lv_iload hx hb d_M_function0_292 (lv_at hl 3 rfl) ?_
      obtain ⟨hi9, hf⟩ := ck_some hf
      refine ul_I hx hb hK hP (by decide) (by decide) hi9 d_M_function0_294 ?_
      refine lv_aload_n hx hb d_M_function0_295 rfl (lv_at hl 0 rfl) ?_
      refine ug_R hx hb ht hown hM hK hP 48 (by decide) lk_M_48 (by decide) d_M_function0_296 ?_
      refine lv_iload_n hx hb d_M_function0_299 rfl (lv_at hl 1 rfl) ?_
      obtain ⟨hi9, hf⟩ := ck_some hf
      refine ul_I hx hb hK hP (by decide) (by decide) hi9 d_M_function0_300 ?_
      refine lv_icmp_ne (tgt := 308) hx hb d_M_function0_301 (by decide) (fun hc => ?_) (fun hc => ?_)
      · rw [br_n _ hc] at hf
        exact wb_M_function0_308 C0 hR N G hG _ _ _ _ _ hf H locs hP hD hS ls (lv_sub hl [0, 1, 3] rfl)
      · rw [br_p _ hc] at hf
        refine lv_iconst (v := 1) hx hb d_M_function0_304 (by decide) ?_
        refine lv_goto (tgt := 309) hx hb d_M_function0_305 (by decide) ?_
        exact wb_M_function0_309 C0 hR N G hG _ _ _ _ _ _ hf H locs hP hD hS ls (lv_sub hl [0, 1, 3] rfl)
def fb_M_function0_259 (N : Nat) (G : (MS → Int32 → Int32 → Int32 → Option (MS × Unit)) × (MS → Int32 → Int32 → Int32 → Option (MS × Unit))) (u : MS) (v1 : Int32) (t0 : Int32) : Option (MS × Unit) := G.2 u (v1) (t0) (0)
set_option maxRecDepth 100000 in
set_option maxHeartbeats 4000000 in
theorem wb_M_function0_259 {p : Program} {l : Launch} {e : Env} {R : Room} {s : State} {m : MethodId} {args : Array Value} {below : List Frame} {meth : Method} {c : Code} {D : va_G} {cl : List vw_C} {cB cI cJ cZ cS : ClassId} {A : Nat → Prop} {iM h0 : Nat} {ad : Nat → Nat} (C0 : MCx p s m args meth c b_M_function0 6 none D cl cB cI cJ cZ cS iM A) (hR : R = rm_M_function0) (N : Nat) (G : (MS → Int32 → Int32 → Int32 → Option (MS × Unit)) × (MS → Int32 → Int32 → Int32 → Option (MS × Unit))) (hG : (∀ (u : MS) (v1 : Int32) (v2 : Int32) (v3 : Int32) (x : MS × Unit), G.1 u v1 v2 v3 = some x → ∀ (H : Heap) (locs : List Loc), va_P D cl (wM cB cI cJ cZ cS iM h0 ad u) H → va_D A (wM cB cI cJ cZ cS iM h0 ad u) → va_S A s.heap H locs → ∀ (ls : Array Slot), lv_has ls 6 [(0, .ref h0), (1, .int v1), (2, .int v2), (3, .int v3)] → W p l e R s m args below meth c H locs 0 0 (MQ below (mQv D cl cB cI cJ cZ cS iM h0 ad A x) args s 0 0 A) (F0 m 36 ls [])) ∧ (∀ (u : MS) (v1 : Int32) (v4 : Int32) (v5 : Int32) (x : MS × Unit), G.2 u v1 v4 v5 = some x → ∀ (H : Heap) (locs : List Loc), va_P D cl (wM cB cI cJ cZ cS iM h0 ad u) H → va_D A (wM cB cI cJ cZ cS iM h0 ad u) → va_S A s.heap H locs → ∀ (ls : Array Slot), lv_has ls 6 [(0, .ref h0), (1, .int v1), (4, .int v4), (5, .int v5)] → W p l e R s m args below meth c H locs 0 0 (MQ below (mQv D cl cB cI cJ cZ cS iM h0 ad A x) args s 0 0 A) (F0 m 264 ls []))) : ∀ (u : MS) (v1 : Int32) (t0 : Int32) (x : MS × Unit), fb_M_function0_259 N G u v1 t0 = some x → ∀ (H : Heap) (locs : List Loc), va_P D cl (wM cB cI cJ cZ cS iM h0 ad u) H → va_D A (wM cB cI cJ cZ cS iM h0 ad u) → va_S A s.heap H locs → ∀ (ls : Array Slot), lv_has ls 6 [(0, .ref h0), (1, .int v1)] → W p l e R s m args below meth c H locs 0 0 (MQ below (mQv D cl cB cI cJ cZ cS iM h0 ad A x) args s 0 0 A) (F0 m 259 ls [.int t0]) := by
  intro u v1 t0 x hf H locs hP hD hS ls hl
  obtain ⟨hx, hb, hr, hml, ht, hown, hM, hK, hA, hlocks⟩ := id C0
  unfold fb_M_function0_259 at hf
  refine lv_istore (lv' := [(4, .int t0), (0, .ref h0), (1, .int v1)]) hx hb d_M_function0_259 hl (by decide) rfl (fun ls hl => ?_)
  refine lv_iconst (v := 0) hx hb d_M_function0_261 (by decide) ?_
  refine lv_istore (lv' := [(5, .int 0), (4, .int t0), (0, .ref h0), (1, .int v1)]) hx hb d_M_function0_262 hl (by decide) rfl (fun ls hl => ?_)
  exact hG.2 _ _ _ _ _ hf H locs hP hD hS ls (lv_sub hl [2, 3, 1, 0] rfl)
def fb_M_function0_228 (N : Nat) (G : (MS → Int32 → Int32 → Int32 → Option (MS × Unit)) × (MS → Int32 → Int32 → Int32 → Option (MS × Unit))) (u : MS) (v1 : Int32) : Option (MS × Unit) := none
set_option maxRecDepth 100000 in
set_option maxHeartbeats 4000000 in
theorem wb_M_function0_228 {p : Program} {l : Launch} {e : Env} {R : Room} {s : State} {m : MethodId} {args : Array Value} {below : List Frame} {meth : Method} {c : Code} {D : va_G} {cl : List vw_C} {cB cI cJ cZ cS : ClassId} {A : Nat → Prop} {iM h0 : Nat} {ad : Nat → Nat} (C0 : MCx p s m args meth c b_M_function0 6 none D cl cB cI cJ cZ cS iM A) (hR : R = rm_M_function0) (N : Nat) (G : (MS → Int32 → Int32 → Int32 → Option (MS × Unit)) × (MS → Int32 → Int32 → Int32 → Option (MS × Unit))) (hG : (∀ (u : MS) (v1 : Int32) (v2 : Int32) (v3 : Int32) (x : MS × Unit), G.1 u v1 v2 v3 = some x → ∀ (H : Heap) (locs : List Loc), va_P D cl (wM cB cI cJ cZ cS iM h0 ad u) H → va_D A (wM cB cI cJ cZ cS iM h0 ad u) → va_S A s.heap H locs → ∀ (ls : Array Slot), lv_has ls 6 [(0, .ref h0), (1, .int v1), (2, .int v2), (3, .int v3)] → W p l e R s m args below meth c H locs 0 0 (MQ below (mQv D cl cB cI cJ cZ cS iM h0 ad A x) args s 0 0 A) (F0 m 36 ls [])) ∧ (∀ (u : MS) (v1 : Int32) (v4 : Int32) (v5 : Int32) (x : MS × Unit), G.2 u v1 v4 v5 = some x → ∀ (H : Heap) (locs : List Loc), va_P D cl (wM cB cI cJ cZ cS iM h0 ad u) H → va_D A (wM cB cI cJ cZ cS iM h0 ad u) → va_S A s.heap H locs → ∀ (ls : Array Slot), lv_has ls 6 [(0, .ref h0), (1, .int v1), (4, .int v4), (5, .int v5)] → W p l e R s m args below meth c H locs 0 0 (MQ below (mQv D cl cB cI cJ cZ cS iM h0 ad A x) args s 0 0 A) (F0 m 264 ls []))) : ∀ (u : MS) (v1 : Int32) (x : MS × Unit), fb_M_function0_228 N G u v1 = some x → ∀ (H : Heap) (locs : List Loc), va_P D cl (wM cB cI cJ cZ cS iM h0 ad u) H → va_D A (wM cB cI cJ cZ cS iM h0 ad u) → va_S A s.heap H locs → ∀ (ls : Array Slot), lv_has ls 6 [(0, .ref h0), (1, .int v1)] → W p l e R s m args below meth c H locs 0 0 (MQ below (mQv D cl cB cI cJ cZ cS iM h0 ad A x) args s 0 0 A) (F0 m 228 ls []) := by
  intro u v1 x hf H locs hP hD hS ls hl
  obtain ⟨hx, hb, hr, hml, ht, hown, hM, hK, hA, hlocks⟩ := id C0
  unfold fb_M_function0_228 at hf
  refine lv_aload_n hx hb d_M_function0_228 rfl (lv_at hl 0 rfl) ?_
  refine lv_bipush (v := 8) hx hb d_M_function0_229 (by decide) ?_
  cases hf
def fb_M_function0_205 (N : Nat) (G : (MS → Int32 → Int32 → Int32 → Option (MS × Unit)) × (MS → Int32 → Int32 → Int32 → Option (MS × Unit))) (u : MS) (v1 : Int32) (v5 : Int32) : Option (MS × Unit) := ck (inb v1 (ln 51)) (ck (inb v1 (ln 51)) (none))
set_option maxRecDepth 100000 in
set_option maxHeartbeats 4000000 in
theorem wb_M_function0_205 {p : Program} {l : Launch} {e : Env} {R : Room} {s : State} {m : MethodId} {args : Array Value} {below : List Frame} {meth : Method} {c : Code} {D : va_G} {cl : List vw_C} {cB cI cJ cZ cS : ClassId} {A : Nat → Prop} {iM h0 : Nat} {ad : Nat → Nat} (C0 : MCx p s m args meth c b_M_function0 6 none D cl cB cI cJ cZ cS iM A) (hR : R = rm_M_function0) (N : Nat) (G : (MS → Int32 → Int32 → Int32 → Option (MS × Unit)) × (MS → Int32 → Int32 → Int32 → Option (MS × Unit))) (hG : (∀ (u : MS) (v1 : Int32) (v2 : Int32) (v3 : Int32) (x : MS × Unit), G.1 u v1 v2 v3 = some x → ∀ (H : Heap) (locs : List Loc), va_P D cl (wM cB cI cJ cZ cS iM h0 ad u) H → va_D A (wM cB cI cJ cZ cS iM h0 ad u) → va_S A s.heap H locs → ∀ (ls : Array Slot), lv_has ls 6 [(0, .ref h0), (1, .int v1), (2, .int v2), (3, .int v3)] → W p l e R s m args below meth c H locs 0 0 (MQ below (mQv D cl cB cI cJ cZ cS iM h0 ad A x) args s 0 0 A) (F0 m 36 ls [])) ∧ (∀ (u : MS) (v1 : Int32) (v4 : Int32) (v5 : Int32) (x : MS × Unit), G.2 u v1 v4 v5 = some x → ∀ (H : Heap) (locs : List Loc), va_P D cl (wM cB cI cJ cZ cS iM h0 ad u) H → va_D A (wM cB cI cJ cZ cS iM h0 ad u) → va_S A s.heap H locs → ∀ (ls : Array Slot), lv_has ls 6 [(0, .ref h0), (1, .int v1), (4, .int v4), (5, .int v5)] → W p l e R s m args below meth c H locs 0 0 (MQ below (mQv D cl cB cI cJ cZ cS iM h0 ad A x) args s 0 0 A) (F0 m 264 ls []))) : ∀ (u : MS) (v1 : Int32) (v5 : Int32) (x : MS × Unit), fb_M_function0_205 N G u v1 v5 = some x → ∀ (H : Heap) (locs : List Loc), va_P D cl (wM cB cI cJ cZ cS iM h0 ad u) H → va_D A (wM cB cI cJ cZ cS iM h0 ad u) → va_S A s.heap H locs → ∀ (ls : Array Slot), lv_has ls 6 [(0, .ref h0), (1, .int v1), (5, .int v5)] → W p l e R s m args below meth c H locs 0 0 (MQ below (mQv D cl cB cI cJ cZ cS iM h0 ad A x) args s 0 0 A) (F0 m 205 ls []) := by
  intro u v1 v5 x hf H locs hP hD hS ls hl
  obtain ⟨hx, hb, hr, hml, ht, hown, hM, hK, hA, hlocks⟩ := id C0
  unfold fb_M_function0_205 at hf
  refine lv_iload hx hb d_M_function0_205 (lv_at hl 2 rfl) ?_
  refine lv_istore_n (lv' := [(2, .int v5), (0, .ref h0), (1, .int v1), (5, .int v5)]) hx hb d_M_function0_207 rfl hl (by decide) rfl (fun ls hl => ?_)
  refine lv_aload_n hx hb d_M_function0_208 rfl (lv_at hl 1 rfl) ?_
  refine ug_R hx hb ht hown hM hK hP 51 (by decide) lk_M_51 (by decide) d_M_function0_209 ?_
  refine lv_iload_n hx hb d_M_function0_212 rfl (lv_at hl 2 rfl) ?_
  refine lv_dup2_11 hx hb d_M_function0_213 rfl rfl ?_
  obtain ⟨hi9, hf⟩ := ck_some hf
  refine ul_I hx hb hK hP (by decide) (by decide) hi9 d_M_function0_214 ?_
  refine lv_iconst (v := 1) hx hb d_M_function0_215 (by decide) ?_
  refine lv_iadd hx hb d_M_function0_216 ?_
  obtain ⟨hi9, hf⟩ := ck_some hf
  refine us_I hx hb hK hP hD hS (by decide) (by decide) hi9 d_M_function0_217 (fun H locs hP hD hS => ?_)
  refine lv_aload_n hx hb d_M_function0_218 rfl (lv_at hl 1 rfl) ?_
  refine lv_bipush (v := 7) hx hb d_M_function0_219 (by decide) ?_
  cases hf
def fb_M_function0_198 (N : Nat) (G : (MS → Int32 → Int32 → Int32 → Option (MS × Unit)) × (MS → Int32 → Int32 → Int32 → Option (MS × Unit))) (u : MS) (v1 : Int32) (v4 : Int32) (v5 : Int32) : Option (MS × Unit) := none
set_option maxRecDepth 100000 in
set_option maxHeartbeats 4000000 in
theorem wb_M_function0_198 {p : Program} {l : Launch} {e : Env} {R : Room} {s : State} {m : MethodId} {args : Array Value} {below : List Frame} {meth : Method} {c : Code} {D : va_G} {cl : List vw_C} {cB cI cJ cZ cS : ClassId} {A : Nat → Prop} {iM h0 : Nat} {ad : Nat → Nat} (C0 : MCx p s m args meth c b_M_function0 6 none D cl cB cI cJ cZ cS iM A) (hR : R = rm_M_function0) (N : Nat) (G : (MS → Int32 → Int32 → Int32 → Option (MS × Unit)) × (MS → Int32 → Int32 → Int32 → Option (MS × Unit))) (hG : (∀ (u : MS) (v1 : Int32) (v2 : Int32) (v3 : Int32) (x : MS × Unit), G.1 u v1 v2 v3 = some x → ∀ (H : Heap) (locs : List Loc), va_P D cl (wM cB cI cJ cZ cS iM h0 ad u) H → va_D A (wM cB cI cJ cZ cS iM h0 ad u) → va_S A s.heap H locs → ∀ (ls : Array Slot), lv_has ls 6 [(0, .ref h0), (1, .int v1), (2, .int v2), (3, .int v3)] → W p l e R s m args below meth c H locs 0 0 (MQ below (mQv D cl cB cI cJ cZ cS iM h0 ad A x) args s 0 0 A) (F0 m 36 ls [])) ∧ (∀ (u : MS) (v1 : Int32) (v4 : Int32) (v5 : Int32) (x : MS × Unit), G.2 u v1 v4 v5 = some x → ∀ (H : Heap) (locs : List Loc), va_P D cl (wM cB cI cJ cZ cS iM h0 ad u) H → va_D A (wM cB cI cJ cZ cS iM h0 ad u) → va_S A s.heap H locs → ∀ (ls : Array Slot), lv_has ls 6 [(0, .ref h0), (1, .int v1), (4, .int v4), (5, .int v5)] → W p l e R s m args below meth c H locs 0 0 (MQ below (mQv D cl cB cI cJ cZ cS iM h0 ad A x) args s 0 0 A) (F0 m 264 ls []))) : ∀ (u : MS) (v1 : Int32) (v4 : Int32) (v5 : Int32) (x : MS × Unit), fb_M_function0_198 N G u v1 v4 v5 = some x → ∀ (H : Heap) (locs : List Loc), va_P D cl (wM cB cI cJ cZ cS iM h0 ad u) H → va_D A (wM cB cI cJ cZ cS iM h0 ad u) → va_S A s.heap H locs → ∀ (ls : Array Slot), lv_has ls 6 [(0, .ref h0), (1, .int v1), (4, .int v4), (5, .int v5)] → W p l e R s m args below meth c H locs 0 0 (MQ below (mQv D cl cB cI cJ cZ cS iM h0 ad A x) args s 0 0 A) (F0 m 198 ls []) := by
  intro u v1 v4 v5 x hf H locs hP hD hS ls hl
  obtain ⟨hx, hb, hr, hml, ht, hown, hM, hK, hA, hlocks⟩ := id C0
  unfold fb_M_function0_198 at hf
  refine lv_aload_n hx hb d_M_function0_198 rfl (lv_at hl 0 rfl) ?_
  refine lv_iconst (v := 4) hx hb d_M_function0_199 (by decide) ?_
  refine lv_iload hx hb d_M_function0_200 (lv_at hl 2 rfl) ?_
  cases hf
def fb_M_function0_36 (N : Nat) (G : (MS → Int32 → Int32 → Int32 → Option (MS × Unit)) × (MS → Int32 → Int32 → Int32 → Option (MS × Unit))) (u : MS) (v1 : Int32) (v2 : Int32) (v3 : Int32) : Option (MS × Unit) := br (decide (v3 = 0)) (fb_M_function0_228 N G u (v1)) (br (decide ((u.1 67) = 0)) (ck (inb (u.1 69) (ln 6)) (br (decide ((u.2.2.1 6 (u.1 69).toNatClampNeg) = 1)) (ck (inb 0 (ln 60)) (ck (inb 0 (ln 63)) (ck (inb 0 (ln 64)) (none)))) (none))) (fb_M_function0_228 N G u (v1)))
set_option maxRecDepth 100000 in
set_option maxHeartbeats 4000000 in
theorem wb_M_function0_36 {p : Program} {l : Launch} {e : Env} {R : Room} {s : State} {m : MethodId} {args : Array Value} {below : List Frame} {meth : Method} {c : Code} {D : va_G} {cl : List vw_C} {cB cI cJ cZ cS : ClassId} {A : Nat → Prop} {iM h0 : Nat} {ad : Nat → Nat} (C0 : MCx p s m args meth c b_M_function0 6 none D cl cB cI cJ cZ cS iM A) (hR : R = rm_M_function0) (N : Nat) (G : (MS → Int32 → Int32 → Int32 → Option (MS × Unit)) × (MS → Int32 → Int32 → Int32 → Option (MS × Unit))) (hG : (∀ (u : MS) (v1 : Int32) (v2 : Int32) (v3 : Int32) (x : MS × Unit), G.1 u v1 v2 v3 = some x → ∀ (H : Heap) (locs : List Loc), va_P D cl (wM cB cI cJ cZ cS iM h0 ad u) H → va_D A (wM cB cI cJ cZ cS iM h0 ad u) → va_S A s.heap H locs → ∀ (ls : Array Slot), lv_has ls 6 [(0, .ref h0), (1, .int v1), (2, .int v2), (3, .int v3)] → W p l e R s m args below meth c H locs 0 0 (MQ below (mQv D cl cB cI cJ cZ cS iM h0 ad A x) args s 0 0 A) (F0 m 36 ls [])) ∧ (∀ (u : MS) (v1 : Int32) (v4 : Int32) (v5 : Int32) (x : MS × Unit), G.2 u v1 v4 v5 = some x → ∀ (H : Heap) (locs : List Loc), va_P D cl (wM cB cI cJ cZ cS iM h0 ad u) H → va_D A (wM cB cI cJ cZ cS iM h0 ad u) → va_S A s.heap H locs → ∀ (ls : Array Slot), lv_has ls 6 [(0, .ref h0), (1, .int v1), (4, .int v4), (5, .int v5)] → W p l e R s m args below meth c H locs 0 0 (MQ below (mQv D cl cB cI cJ cZ cS iM h0 ad A x) args s 0 0 A) (F0 m 264 ls []))) : ∀ (u : MS) (v1 : Int32) (v2 : Int32) (v3 : Int32) (x : MS × Unit), fb_M_function0_36 N G u v1 v2 v3 = some x → ∀ (H : Heap) (locs : List Loc), va_P D cl (wM cB cI cJ cZ cS iM h0 ad u) H → va_D A (wM cB cI cJ cZ cS iM h0 ad u) → va_S A s.heap H locs → ∀ (ls : Array Slot), lv_has ls 6 [(0, .ref h0), (1, .int v1), (2, .int v2), (3, .int v3)] → W p l e R s m args below meth c H locs 0 0 (MQ below (mQv D cl cB cI cJ cZ cS iM h0 ad A x) args s 0 0 A) (F0 m 36 ls []) := by
  intro u v1 v2 v3 x hf H locs hP hD hS ls hl
  obtain ⟨hx, hb, hr, hml, ht, hown, hM, hK, hA, hlocks⟩ := id C0
  unfold fb_M_function0_36 at hf
  refine lv_iload_n hx hb d_M_function0_36 rfl (lv_at hl 3 rfl) ?_
  refine lv_if_eq (tgt := 228) hx hb d_M_function0_37 (by decide) (fun hc => ?_) (fun hc => ?_)
  · rw [br_p _ hc] at hf
    exact wb_M_function0_228 C0 hR N G hG _ _ _ hf H locs hP hD hS ls (lv_sub hl [0, 1] rfl)
  · rw [br_n _ hc] at hf
    refine lv_aload_n hx hb d_M_function0_40 rfl (lv_at hl 0 rfl) ?_
    refine ug_I hx hb ht hown hM hK hP 67 (by decide) lk_M_67 (by decide) d_M_function0_41 ?_
    refine lv_if_ne (tgt := 228) hx hb d_M_function0_44 (by decide) (fun hc => ?_) (fun hc => ?_)
    · rw [br_n _ hc] at hf
      exact wb_M_function0_228 C0 hR N G hG _ _ _ hf H locs hP hD hS ls (lv_sub hl [0, 1] rfl)
    · rw [br_p _ hc] at hf
      refine lv_aload_n hx hb d_M_function0_47 rfl (lv_at hl 0 rfl) ?_
      refine ug_R hx hb ht hown hM hK hP 6 (by decide) lk_M_6 (by decide) d_M_function0_48 ?_
      refine lv_aload_n hx hb d_M_function0_51 rfl (lv_at hl 0 rfl) ?_
      refine ug_I hx hb ht hown hM hK hP 69 (by decide) lk_M_69 (by decide) d_M_function0_52 ?_
      obtain ⟨hi9, hf⟩ := ck_some hf
      refine ul_B hx hb hK hP (by decide) (by decide) hi9 d_M_function0_55 ?_
      refine lv_iconst (v := 1) hx hb d_M_function0_56 (by decide) ?_
      refine lv_icmp_eq (tgt := 66) hx hb d_M_function0_57 (by decide) (fun hc => ?_) (fun hc => ?_)
      · rw [br_p _ hc] at hf
        refine lv_aload_n hx hb d_M_function0_66 rfl (lv_at hl 0 rfl) ?_
        refine ug_I hx hb ht hown hM hK hP 69 (by decide) lk_M_69 (by decide) d_M_function0_67 ?_
        refine lv_istore (lv' := [(4, .int (u.1 69)), (0, .ref h0), (1, .int v1), (2, .int v2), (3, .int v3)]) hx hb d_M_function0_70 hl (by decide) rfl (fun ls hl => ?_)
        refine lv_aload_n hx hb d_M_function0_72 rfl (lv_at hl 1 rfl) ?_
        refine lv_dup hx hb d_M_function0_73 rfl ?_
        refine ug_I hx hb ht hown hM hK hP 69 (by decide) lk_M_69 (by decide) d_M_function0_74 ?_
        refine lv_iconst (v := 1) hx hb d_M_function0_77 (by decide) ?_
        refine lv_iadd hx hb d_M_function0_78 ?_
        refine up_I hx hb ht hown hM hK hP hD hS 69 (by decide) lk_M_69 (by decide) rfl rfl rfl d_M_function0_79 (fun H locs hP hD hS => ?_)
        refine lv_aload_n hx hb d_M_function0_82 rfl (lv_at hl 1 rfl) ?_
        refine lv_iconst (v := 0) hx hb d_M_function0_83 (by decide) ?_
        refine up_I hx hb ht hown hM hK hP hD hS 65 (by decide) lk_M_65 (by decide) rfl rfl rfl d_M_function0_84 (fun H locs hP hD hS => ?_)
        refine lv_aload_n hx hb d_M_function0_87 rfl (lv_at hl 1 rfl) ?_
        refine ug_R hx hb ht hown hM hK hP 60 (by decide) lk_M_60 (by decide) d_M_function0_88 ?_
        refine lv_iconst (v := 0) hx hb d_M_function0_91 (by decide) ?_
        refine lv_iconst (v := 0) hx hb d_M_function0_92 (by decide) ?_
        obtain ⟨hi9, hf⟩ := ck_some hf
        refine us_I hx hb hK hP hD hS (by decide) (by decide) hi9 d_M_function0_93 (fun H locs hP hD hS => ?_)
        refine lv_aload_n hx hb d_M_function0_94 rfl (lv_at hl 1 rfl) ?_
        refine ug_R hx hb ht hown hM hK hP 63 (by decide) lk_M_63 (by decide) d_M_function0_95 ?_
        refine lv_iconst (v := 0) hx hb d_M_function0_98 (by decide) ?_
        refine lv_iconst (v := 0) hx hb d_M_function0_99 (by decide) ?_
        obtain ⟨hi9, hf⟩ := ck_some hf
        refine us_I hx hb hK hP hD hS (by decide) (by decide) hi9 d_M_function0_100 (fun H locs hP hD hS => ?_)
        refine lv_aload_n hx hb d_M_function0_101 rfl (lv_at hl 1 rfl) ?_
        refine ug_R hx hb ht hown hM hK hP 64 (by decide) lk_M_64 (by decide) d_M_function0_102 ?_
        refine lv_iconst (v := 0) hx hb d_M_function0_105 (by decide) ?_
        refine lv_iconst (v := 0) hx hb d_M_function0_106 (by decide) ?_
        obtain ⟨hi9, hf⟩ := ck_some hf
        refine us_I hx hb hK hP hD hS (by decide) (by decide) hi9 d_M_function0_107 (fun H locs hP hD hS => ?_)
        refine lv_aload_n hx hb d_M_function0_108 rfl (lv_at hl 1 rfl) ?_
        refine lv_iload hx hb d_M_function0_109 (lv_at hl 0 rfl) ?_
        cases hf
      · rw [br_n _ hc] at hf
        refine lv_aload_n hx hb d_M_function0_60 rfl (lv_at hl 0 rfl) ?_
        refine lv_iconst (v := 2) hx hb d_M_function0_61 (by decide) ?_
        cases hf
def fb_M_function0_0 (N : Nat) (G : (MS → Int32 → Int32 → Int32 → Option (MS × Unit)) × (MS → Int32 → Int32 → Int32 → Option (MS × Unit))) (u : MS) : Option (MS × Unit) := ck (inb (u.1 52) (ln 49)) (ck (inb (u.1 52) (ln 51)) (G.1 (upA (upA (upI u 52 ((u.1 52) + 1)) 49 (upd ((upI u 52 ((u.1 52) + 1)).2.2.1 49) (u.1 52).toNatClampNeg ((upI u 52 ((u.1 52) + 1)).1 69))) 51 (upd ((upA (upI u 52 ((u.1 52) + 1)) 49 (upd ((upI u 52 ((u.1 52) + 1)).2.2.1 49) (u.1 52).toNatClampNeg ((upI u 52 ((u.1 52) + 1)).1 69))).2.2.1 51) (u.1 52).toNatClampNeg 0)) ((u.1 52)) ((-1)) (1)))
set_option maxRecDepth 100000 in
set_option maxHeartbeats 4000000 in
theorem wb_M_function0_0 {p : Program} {l : Launch} {e : Env} {R : Room} {s : State} {m : MethodId} {args : Array Value} {below : List Frame} {meth : Method} {c : Code} {D : va_G} {cl : List vw_C} {cB cI cJ cZ cS : ClassId} {A : Nat → Prop} {iM h0 : Nat} {ad : Nat → Nat} (C0 : MCx p s m args meth c b_M_function0 6 none D cl cB cI cJ cZ cS iM A) (hR : R = rm_M_function0) (N : Nat) (G : (MS → Int32 → Int32 → Int32 → Option (MS × Unit)) × (MS → Int32 → Int32 → Int32 → Option (MS × Unit))) (hG : (∀ (u : MS) (v1 : Int32) (v2 : Int32) (v3 : Int32) (x : MS × Unit), G.1 u v1 v2 v3 = some x → ∀ (H : Heap) (locs : List Loc), va_P D cl (wM cB cI cJ cZ cS iM h0 ad u) H → va_D A (wM cB cI cJ cZ cS iM h0 ad u) → va_S A s.heap H locs → ∀ (ls : Array Slot), lv_has ls 6 [(0, .ref h0), (1, .int v1), (2, .int v2), (3, .int v3)] → W p l e R s m args below meth c H locs 0 0 (MQ below (mQv D cl cB cI cJ cZ cS iM h0 ad A x) args s 0 0 A) (F0 m 36 ls [])) ∧ (∀ (u : MS) (v1 : Int32) (v4 : Int32) (v5 : Int32) (x : MS × Unit), G.2 u v1 v4 v5 = some x → ∀ (H : Heap) (locs : List Loc), va_P D cl (wM cB cI cJ cZ cS iM h0 ad u) H → va_D A (wM cB cI cJ cZ cS iM h0 ad u) → va_S A s.heap H locs → ∀ (ls : Array Slot), lv_has ls 6 [(0, .ref h0), (1, .int v1), (4, .int v4), (5, .int v5)] → W p l e R s m args below meth c H locs 0 0 (MQ below (mQv D cl cB cI cJ cZ cS iM h0 ad A x) args s 0 0 A) (F0 m 264 ls []))) : ∀ (u : MS) (x : MS × Unit), fb_M_function0_0 N G u = some x → ∀ (H : Heap) (locs : List Loc), va_P D cl (wM cB cI cJ cZ cS iM h0 ad u) H → va_D A (wM cB cI cJ cZ cS iM h0 ad u) → va_S A s.heap H locs → ∀ (ls : Array Slot), lv_has ls 6 [(0, .ref h0)] → W p l e R s m args below meth c H locs 0 0 (MQ below (mQv D cl cB cI cJ cZ cS iM h0 ad A x) args s 0 0 A) (F0 m 0 ls []) := by
  intro u x hf H locs hP hD hS ls hl
  obtain ⟨hx, hb, hr, hml, ht, hown, hM, hK, hA, hlocks⟩ := id C0
  unfold fb_M_function0_0 at hf
  refine lv_aload_n hx hb d_M_function0_0 rfl (lv_at hl 0 rfl) ?_
  refine ug_I hx hb ht hown hM hK hP 52 (by decide) lk_M_52 (by decide) d_M_function0_1 ?_
  refine lv_istore_n (lv' := [(1, .int (u.1 52)), (0, .ref h0)]) hx hb d_M_function0_4 rfl hl (by decide) rfl (fun ls hl => ?_)
  refine lv_aload_n hx hb d_M_function0_5 rfl (lv_at hl 1 rfl) ?_
  refine lv_dup hx hb d_M_function0_6 rfl ?_
  refine ug_I hx hb ht hown hM hK hP 52 (by decide) lk_M_52 (by decide) d_M_function0_7 ?_
  refine lv_iconst (v := 1) hx hb d_M_function0_10 (by decide) ?_
  refine lv_iadd hx hb d_M_function0_11 ?_
  refine up_I hx hb ht hown hM hK hP hD hS 52 (by decide) lk_M_52 (by decide) rfl rfl rfl d_M_function0_12 (fun H locs hP hD hS => ?_)
  refine lv_aload_n hx hb d_M_function0_15 rfl (lv_at hl 1 rfl) ?_
  refine ug_R hx hb ht hown hM hK hP 49 (by decide) lk_M_49 (by decide) d_M_function0_16 ?_
  refine lv_iload_n hx hb d_M_function0_19 rfl (lv_at hl 0 rfl) ?_
  refine lv_aload_n hx hb d_M_function0_20 rfl (lv_at hl 1 rfl) ?_
  refine ug_I hx hb ht hown hM hK hP 69 (by decide) lk_M_69 (by decide) d_M_function0_21 ?_
  obtain ⟨hi9, hf⟩ := ck_some hf
  refine us_I hx hb hK hP hD hS (by decide) (by decide) hi9 d_M_function0_24 (fun H locs hP hD hS => ?_)
  refine lv_aload_n hx hb d_M_function0_25 rfl (lv_at hl 1 rfl) ?_
  refine ug_R hx hb ht hown hM hK hP 51 (by decide) lk_M_51 (by decide) d_M_function0_26 ?_
  refine lv_iload_n hx hb d_M_function0_29 rfl (lv_at hl 0 rfl) ?_
  refine lv_iconst (v := 0) hx hb d_M_function0_30 (by decide) ?_
  obtain ⟨hi9, hf⟩ := ck_some hf
  refine us_I hx hb hK hP hD hS (by decide) (by decide) hi9 d_M_function0_31 (fun H locs hP hD hS => ?_)
  refine lv_iconst (v := (-1)) hx hb d_M_function0_32 (by decide) ?_
  refine lv_istore_n (lv' := [(2, .int (-1)), (1, .int (u.1 52)), (0, .ref h0)]) hx hb d_M_function0_33 rfl hl (by decide) rfl (fun ls hl => ?_)
  refine lv_iconst (v := 1) hx hb d_M_function0_34 (by decide) ?_
  refine lv_istore_n (lv' := [(3, .int 1), (2, .int (-1)), (1, .int (u.1 52)), (0, .ref h0)]) hx hb d_M_function0_35 rfl hl (by decide) rfl (fun ls hl => ?_)
  exact hG.1 _ _ _ _ _ hf H locs hP hD hS ls (lv_sub hl [3, 2, 1, 0] rfl)
def gg_M_function0 (N : Nat) : Nat → ((MS → Int32 → Int32 → Int32 → Option (MS × Unit)) × (MS → Int32 → Int32 → Int32 → Option (MS × Unit)))
  | 0 => (fun _ _ _ _ => none, fun _ _ _ _ => none)
  | n + 1 => (fb_M_function0_36 N (gg_M_function0 N n), fb_M_function0_264 N (gg_M_function0 N n))
theorem wg_M_function0 {p : Program} {l : Launch} {e : Env} {R : Room} {s : State} {m : MethodId} {args : Array Value} {below : List Frame} {meth : Method} {c : Code} {D : va_G} {cl : List vw_C} {cB cI cJ cZ cS : ClassId} {A : Nat → Prop} {iM h0 : Nat} {ad : Nat → Nat} (C0 : MCx p s m args meth c b_M_function0 6 none D cl cB cI cJ cZ cS iM A) (hR : R = rm_M_function0) (N : Nat) : ∀ n : Nat, (∀ (u : MS) (v1 : Int32) (v2 : Int32) (v3 : Int32) (x : MS × Unit), (gg_M_function0 N n).1 u v1 v2 v3 = some x → ∀ (H : Heap) (locs : List Loc), va_P D cl (wM cB cI cJ cZ cS iM h0 ad u) H → va_D A (wM cB cI cJ cZ cS iM h0 ad u) → va_S A s.heap H locs → ∀ (ls : Array Slot), lv_has ls 6 [(0, .ref h0), (1, .int v1), (2, .int v2), (3, .int v3)] → W p l e R s m args below meth c H locs 0 0 (MQ below (mQv D cl cB cI cJ cZ cS iM h0 ad A x) args s 0 0 A) (F0 m 36 ls [])) ∧ (∀ (u : MS) (v1 : Int32) (v4 : Int32) (v5 : Int32) (x : MS × Unit), (gg_M_function0 N n).2 u v1 v4 v5 = some x → ∀ (H : Heap) (locs : List Loc), va_P D cl (wM cB cI cJ cZ cS iM h0 ad u) H → va_D A (wM cB cI cJ cZ cS iM h0 ad u) → va_S A s.heap H locs → ∀ (ls : Array Slot), lv_has ls 6 [(0, .ref h0), (1, .int v1), (4, .int v4), (5, .int v5)] → W p l e R s m args below meth c H locs 0 0 (MQ below (mQv D cl cB cI cJ cZ cS iM h0 ad A x) args s 0 0 A) (F0 m 264 ls []))
  | 0 => ⟨(fun u v1 v2 v3 x hf => by cases hf), (fun u v1 v4 v5 x hf => by cases hf)⟩
  | n + 1 => ⟨wb_M_function0_36 C0 hR N (gg_M_function0 N n) (wg_M_function0 C0 hR N n), wb_M_function0_264 C0 hR N (gg_M_function0 N n) (wg_M_function0 C0 hR N n)⟩
def fm_M_function0 (N : Nat) (u : MS) : Option (MS × Unit) := fb_M_function0_0 N (gg_M_function0 N N) u
set_option maxRecDepth 100000 in
set_option maxHeartbeats 4000000 in
theorem c_M_function0 (N : Nat) {l : Launch} {D : va_G} {cl : List vw_C} {cB cI cJ cZ cS : ClassId} {iM h0 : Nat} {ad : Nat → Nat} {u : MS} {sz : Nat} {x : MS × Unit} (hM : cl[iM]? = some (R_M, F_M, 171)) (hf : fm_M_function0 N u = some x) : Met l y_M_function0 (wd_ws y_M_function0 b_M_function0 6 none) rm_M_function0 (mPc D cl cB cI cJ cZ cS iM h0 ad u sz [.ref h0]) (mQv D cl cB cI cJ cZ cS iM h0 ad (mA cB cI cJ cZ cS iM h0 ad u sz) x) 0 0 (mA cB cI cJ cZ cS iM h0 ad u sz) :=
  mMet (by decide) rfl hM (Nat.le_of_ble_eq_true rfl) (fun p e s m below meth c ls hsz C0 hP hD hS hl => by
    have hR : rm_M_function0 = rm_M_function0 := rfl
    exact wb_M_function0_0 C0 hR N (gg_M_function0 N N) (wg_M_function0 C0 hR N N) u x hf s.heap [] hP hD hS ls (lv_sub hl [0] rfl))
abbrev b_M_letter : ByteArray := prog_14_method_76_code
def y_M_letter : MethodName := ⟨R_M, "letter", "(II)I"⟩
def w_M_letter : List Cond := wd_ws y_M_letter b_M_letter 3 (some .int)
set_option maxRecDepth 100000 in
theorem k_M_letter : Cond.code y_M_letter b_M_letter 3 (some .int) ∈ wd_tbl := wd_of 2897 rfl rfl
theorem d_M_letter_0 : decode b_M_letter 0 = .ok (.aload_n 0, 1) := by decide +kernel
theorem d_M_letter_1 : decode b_M_letter 1 = .ok (.iconst 0, 1) := by decide +kernel
theorem d_M_letter_2 : decode b_M_letter 2 = .ok (.putfield 369, 3) := by decide +kernel
theorem d_M_letter_5 : decode b_M_letter 5 = .ok (.aload_n 0, 1) := by decide +kernel
theorem d_M_letter_6 : decode b_M_letter 6 = .ok (.getfield 654, 3) := by decide +kernel
theorem d_M_letter_9 : decode b_M_letter 9 = .ok (.ifCond .eq 38, 3) := by decide +kernel
theorem d_M_letter_12 : decode b_M_letter 12 = .ok (.iload_n 1, 1) := by decide +kernel
theorem d_M_letter_13 : decode b_M_letter 13 = .ok (.ifCond .lt 34, 3) := by decide +kernel
theorem d_M_letter_16 : decode b_M_letter 16 = .ok (.iload_n 1, 1) := by decide +kernel
theorem d_M_letter_17 : decode b_M_letter 17 = .ok (.aload_n 0, 1) := by decide +kernel
theorem d_M_letter_18 : decode b_M_letter 18 = .ok (.getfield 385, 3) := by decide +kernel
theorem d_M_letter_21 : decode b_M_letter 21 = .ok (.if_icmp .ge 26, 3) := by decide +kernel
theorem d_M_letter_24 : decode b_M_letter 24 = .ok (.iload_n 2, 1) := by decide +kernel
theorem d_M_letter_25 : decode b_M_letter 25 = .ok (.ifCond .lt 22, 3) := by decide +kernel
theorem d_M_letter_28 : decode b_M_letter 28 = .ok (.iload_n 2, 1) := by decide +kernel
theorem d_M_letter_29 : decode b_M_letter 29 = .ok (.aload_n 0, 1) := by decide +kernel
theorem d_M_letter_30 : decode b_M_letter 30 = .ok (.getfield 35, 3) := by decide +kernel
theorem d_M_letter_33 : decode b_M_letter 33 = .ok (.iload_n 1, 1) := by decide +kernel
theorem d_M_letter_34 : decode b_M_letter 34 = .ok (.iconst 1, 1) := by decide +kernel
theorem d_M_letter_35 : decode b_M_letter 35 = .ok (.iadd, 1) := by decide +kernel
theorem d_M_letter_36 : decode b_M_letter 36 = .ok (.iaload, 1) := by decide +kernel
theorem d_M_letter_37 : decode b_M_letter 37 = .ok (.aload_n 0, 1) := by decide +kernel
theorem d_M_letter_38 : decode b_M_letter 38 = .ok (.getfield 35, 3) := by decide +kernel
theorem d_M_letter_41 : decode b_M_letter 41 = .ok (.iload_n 1, 1) := by decide +kernel
theorem d_M_letter_42 : decode b_M_letter 42 = .ok (.iaload, 1) := by decide +kernel
theorem d_M_letter_43 : decode b_M_letter 43 = .ok (.isub, 1) := by decide +kernel
theorem d_M_letter_44 : decode b_M_letter 44 = .ok (.if_icmp .lt 5, 3) := by decide +kernel
theorem d_M_letter_47 : decode b_M_letter 47 = .ok (.iconst (-1), 1) := by decide +kernel
theorem d_M_letter_48 : decode b_M_letter 48 = .ok (.ireturn, 1) := by decide +kernel
theorem d_M_letter_49 : decode b_M_letter 49 = .ok (.aload_n 0, 1) := by decide +kernel
theorem d_M_letter_50 : decode b_M_letter 50 = .ok (.getfield 32, 3) := by decide +kernel
theorem d_M_letter_53 : decode b_M_letter 53 = .ok (.aload_n 0, 1) := by decide +kernel
theorem d_M_letter_54 : decode b_M_letter 54 = .ok (.getfield 35, 3) := by decide +kernel
theorem d_M_letter_57 : decode b_M_letter 57 = .ok (.iload_n 1, 1) := by decide +kernel
theorem d_M_letter_58 : decode b_M_letter 58 = .ok (.iaload, 1) := by decide +kernel
theorem d_M_letter_59 : decode b_M_letter 59 = .ok (.iload_n 2, 1) := by decide +kernel
theorem d_M_letter_60 : decode b_M_letter 60 = .ok (.iadd, 1) := by decide +kernel
theorem d_M_letter_61 : decode b_M_letter 61 = .ok (.baload, 1) := by decide +kernel
theorem d_M_letter_62 : decode b_M_letter 62 = .ok (.ireturn, 1) := by decide +kernel
def rm_M_letter : Room := { frames := 0, cells := 0, slots := 0, locals := 0 }
def fb_M_letter_47 (N : Nat) (G : Unit) (u : MS) : Option (MS × Int32) := some (u, (-1))
set_option maxRecDepth 100000 in
set_option maxHeartbeats 4000000 in
theorem wb_M_letter_47 {p : Program} {l : Launch} {e : Env} {R : Room} {s : State} {m : MethodId} {args : Array Value} {below : List Frame} {meth : Method} {c : Code} {D : va_G} {cl : List vw_C} {cB cI cJ cZ cS : ClassId} {A : Nat → Prop} {iM h0 : Nat} {ad : Nat → Nat} (C0 : MCx p s m args meth c b_M_letter 3 (some .int) D cl cB cI cJ cZ cS iM A) (hR : R = rm_M_letter) (N : Nat) (G : Unit) (hG : True) : ∀ (u : MS) (x : MS × Int32), fb_M_letter_47 N G u = some x → ∀ (H : Heap) (locs : List Loc), va_P D cl (wM cB cI cJ cZ cS iM h0 ad u) H → va_D A (wM cB cI cJ cZ cS iM h0 ad u) → va_S A s.heap H locs → ∀ (ls : Array Slot), lv_has ls 3 [] → W p l e R s m args below meth c H locs 0 0 (MQ below (mQi D cl cB cI cJ cZ cS iM h0 ad A x) args s 0 0 A) (F0 m 47 ls []) := by
  intro u x hf H locs hP hD hS ls hl
  obtain ⟨hx, hb, hr, hml, ht, hown, hM, hK, hA, hlocks⟩ := id C0
  unfold fb_M_letter_47 at hf
  refine lv_iconst (v := (-1)) hx hb d_M_letter_47 (by decide) ?_
  exact mr_i C0 hP hD hS hf d_M_letter_48
def fb_M_letter_0 (N : Nat) (G : Unit) (u : MS) (v1 : Int32) (v2 : Int32) : Option (MS × Int32) := br (decide (((upI u 3 0).1 86) = 0)) (fb_M_letter_47 N G (upI u 3 0)) (br (decide (v1 < 0)) (fb_M_letter_47 N G (upI u 3 0)) (br (decide (((upI u 3 0).1 14) ≤ v1)) (fb_M_letter_47 N G (upI u 3 0)) (br (decide (v2 < 0)) (fb_M_letter_47 N G (upI u 3 0)) (ck (inb (v1 + 1) (ln 13)) (ck (inb v1 (ln 13)) (br (decide (v2 < (((upI u 3 0).2.2.1 13 (v1 + 1).toNatClampNeg) - ((upI u 3 0).2.2.1 13 v1.toNatClampNeg)))) (ck (inb v1 (ln 13)) (ck (inb (((upI u 3 0).2.2.1 13 v1.toNatClampNeg) + v2) (ln 12)) (some ((upI u 3 0), ((upI u 3 0).2.2.1 12 (((upI u 3 0).2.2.1 13 v1.toNatClampNeg) + v2).toNatClampNeg))))) (fb_M_letter_47 N G (upI u 3 0))))))))
set_option maxRecDepth 100000 in
set_option maxHeartbeats 4000000 in
theorem wb_M_letter_0 {p : Program} {l : Launch} {e : Env} {R : Room} {s : State} {m : MethodId} {args : Array Value} {below : List Frame} {meth : Method} {c : Code} {D : va_G} {cl : List vw_C} {cB cI cJ cZ cS : ClassId} {A : Nat → Prop} {iM h0 : Nat} {ad : Nat → Nat} (C0 : MCx p s m args meth c b_M_letter 3 (some .int) D cl cB cI cJ cZ cS iM A) (hR : R = rm_M_letter) (N : Nat) (G : Unit) (hG : True) : ∀ (u : MS) (v1 : Int32) (v2 : Int32) (x : MS × Int32), fb_M_letter_0 N G u v1 v2 = some x → ∀ (H : Heap) (locs : List Loc), va_P D cl (wM cB cI cJ cZ cS iM h0 ad u) H → va_D A (wM cB cI cJ cZ cS iM h0 ad u) → va_S A s.heap H locs → ∀ (ls : Array Slot), lv_has ls 3 [(0, .ref h0), (1, .int v1), (2, .int v2)] → W p l e R s m args below meth c H locs 0 0 (MQ below (mQi D cl cB cI cJ cZ cS iM h0 ad A x) args s 0 0 A) (F0 m 0 ls []) := by
  intro u v1 v2 x hf H locs hP hD hS ls hl
  obtain ⟨hx, hb, hr, hml, ht, hown, hM, hK, hA, hlocks⟩ := id C0
  unfold fb_M_letter_0 at hf
  refine lv_aload_n hx hb d_M_letter_0 rfl (lv_at hl 0 rfl) ?_
  refine lv_iconst (v := 0) hx hb d_M_letter_1 (by decide) ?_
  refine up_I hx hb ht hown hM hK hP hD hS 3 (by decide) lk_M_3 (by decide) rfl rfl rfl d_M_letter_2 (fun H locs hP hD hS => ?_)
  refine lv_aload_n hx hb d_M_letter_5 rfl (lv_at hl 0 rfl) ?_
  refine ug_I hx hb ht hown hM hK hP 86 (by decide) lk_M_86 (by decide) d_M_letter_6 ?_
  refine lv_if_eq (tgt := 47) hx hb d_M_letter_9 (by decide) (fun hc => ?_) (fun hc => ?_)
  · rw [br_p _ hc] at hf
    exact wb_M_letter_47 C0 hR N G hG _ _ hf H locs hP hD hS ls (lv_sub hl [] rfl)
  · rw [br_n _ hc] at hf
    refine lv_iload_n hx hb d_M_letter_12 rfl (lv_at hl 1 rfl) ?_
    refine lv_if_lt (tgt := 47) hx hb d_M_letter_13 (by decide) (fun hc => ?_) (fun hc => ?_)
    · rw [br_p _ hc] at hf
      exact wb_M_letter_47 C0 hR N G hG _ _ hf H locs hP hD hS ls (lv_sub hl [] rfl)
    · rw [br_n _ hc] at hf
      refine lv_iload_n hx hb d_M_letter_16 rfl (lv_at hl 1 rfl) ?_
      refine lv_aload_n hx hb d_M_letter_17 rfl (lv_at hl 0 rfl) ?_
      refine ug_I hx hb ht hown hM hK hP 14 (by decide) lk_M_14 (by decide) d_M_letter_18 ?_
      refine lv_icmp_ge (tgt := 47) hx hb d_M_letter_21 (by decide) (fun hc => ?_) (fun hc => ?_)
      · rw [br_p _ hc] at hf
        exact wb_M_letter_47 C0 hR N G hG _ _ hf H locs hP hD hS ls (lv_sub hl [] rfl)
      · rw [br_n _ hc] at hf
        refine lv_iload_n hx hb d_M_letter_24 rfl (lv_at hl 2 rfl) ?_
        refine lv_if_lt (tgt := 47) hx hb d_M_letter_25 (by decide) (fun hc => ?_) (fun hc => ?_)
        · rw [br_p _ hc] at hf
          exact wb_M_letter_47 C0 hR N G hG _ _ hf H locs hP hD hS ls (lv_sub hl [] rfl)
        · rw [br_n _ hc] at hf
          refine lv_iload_n hx hb d_M_letter_28 rfl (lv_at hl 2 rfl) ?_
          refine lv_aload_n hx hb d_M_letter_29 rfl (lv_at hl 0 rfl) ?_
          refine ug_R hx hb ht hown hM hK hP 13 (by decide) lk_M_13 (by decide) d_M_letter_30 ?_
          refine lv_iload_n hx hb d_M_letter_33 rfl (lv_at hl 1 rfl) ?_
          refine lv_iconst (v := 1) hx hb d_M_letter_34 (by decide) ?_
          refine lv_iadd hx hb d_M_letter_35 ?_
          obtain ⟨hi9, hf⟩ := ck_some hf
          refine ul_I hx hb hK hP (by decide) (by decide) hi9 d_M_letter_36 ?_
          refine lv_aload_n hx hb d_M_letter_37 rfl (lv_at hl 0 rfl) ?_
          refine ug_R hx hb ht hown hM hK hP 13 (by decide) lk_M_13 (by decide) d_M_letter_38 ?_
          refine lv_iload_n hx hb d_M_letter_41 rfl (lv_at hl 1 rfl) ?_
          obtain ⟨hi9, hf⟩ := ck_some hf
          refine ul_I hx hb hK hP (by decide) (by decide) hi9 d_M_letter_42 ?_
          refine lv_isub hx hb d_M_letter_43 ?_
          refine lv_icmp_lt (tgt := 49) hx hb d_M_letter_44 (by decide) (fun hc => ?_) (fun hc => ?_)
          · rw [br_p _ hc] at hf
            refine lv_aload_n hx hb d_M_letter_49 rfl (lv_at hl 0 rfl) ?_
            refine ug_R hx hb ht hown hM hK hP 12 (by decide) lk_M_12 (by decide) d_M_letter_50 ?_
            refine lv_aload_n hx hb d_M_letter_53 rfl (lv_at hl 0 rfl) ?_
            refine ug_R hx hb ht hown hM hK hP 13 (by decide) lk_M_13 (by decide) d_M_letter_54 ?_
            refine lv_iload_n hx hb d_M_letter_57 rfl (lv_at hl 1 rfl) ?_
            obtain ⟨hi9, hf⟩ := ck_some hf
            refine ul_I hx hb hK hP (by decide) (by decide) hi9 d_M_letter_58 ?_
            refine lv_iload_n hx hb d_M_letter_59 rfl (lv_at hl 2 rfl) ?_
            refine lv_iadd hx hb d_M_letter_60 ?_
            obtain ⟨hi9, hf⟩ := ck_some hf
            refine ul_B hx hb hK hP (by decide) (by decide) hi9 d_M_letter_61 ?_
            exact mr_i C0 hP hD hS hf d_M_letter_62
          · rw [br_n _ hc] at hf
            exact wb_M_letter_47 C0 hR N G hG _ _ hf H locs hP hD hS ls (lv_sub hl [] rfl)
def fm_M_letter (N : Nat) (u : MS) (v1 : Int32) (v2 : Int32) : Option (MS × Int32) := fb_M_letter_0 N () u v1 v2
set_option maxRecDepth 100000 in
set_option maxHeartbeats 4000000 in
theorem c_M_letter (N : Nat) {l : Launch} {D : va_G} {cl : List vw_C} {cB cI cJ cZ cS : ClassId} {iM h0 : Nat} {ad : Nat → Nat} {u : MS} {sz : Nat} {v1 : Int32} {v2 : Int32} {x : MS × Int32} (hM : cl[iM]? = some (R_M, F_M, 171)) (hf : fm_M_letter N u v1 v2 = some x) : Met l y_M_letter (wd_ws y_M_letter b_M_letter 3 (some .int)) rm_M_letter (mPc D cl cB cI cJ cZ cS iM h0 ad u sz [.ref h0, .int v1, .int v2]) (mQi D cl cB cI cJ cZ cS iM h0 ad (mA cB cI cJ cZ cS iM h0 ad u sz) x) 0 0 (mA cB cI cJ cZ cS iM h0 ad u sz) :=
  mMet (by decide) rfl hM (Nat.le_of_ble_eq_true rfl) (fun p e s m below meth c ls hsz C0 hP hD hS hl => by
    have hR : rm_M_letter = rm_M_letter := rfl
    exact wb_M_letter_0 C0 hR N () trivial u _ _ x hf s.heap [] hP hD hS ls (lv_sub hl [0, 1, 2] rfl))
abbrev b_M_shown : ByteArray := prog_14_method_169_code
def y_M_shown : MethodName := ⟨R_M, "shown", "(I)I"⟩
def w_M_shown : List Cond := wd_ws y_M_shown b_M_shown 2 (some .int)
set_option maxRecDepth 100000 in
theorem k_M_shown : Cond.code y_M_shown b_M_shown 2 (some .int) ∈ wd_tbl := wd_of 3282 rfl rfl
theorem d_M_shown_0 : decode b_M_shown 0 = .ok (.aload_n 0, 1) := by decide +kernel
theorem d_M_shown_1 : decode b_M_shown 1 = .ok (.iconst 0, 1) := by decide +kernel
theorem d_M_shown_2 : decode b_M_shown 2 = .ok (.putfield 369, 3) := by decide +kernel
theorem d_M_shown_5 : decode b_M_shown 5 = .ok (.iload_n 1, 1) := by decide +kernel
theorem d_M_shown_6 : decode b_M_shown 6 = .ok (.ifCond .lt 11, 3) := by decide +kernel
theorem d_M_shown_9 : decode b_M_shown 9 = .ok (.iload_n 1, 1) := by decide +kernel
theorem d_M_shown_10 : decode b_M_shown 10 = .ok (.aload_n 0, 1) := by decide +kernel
theorem d_M_shown_11 : decode b_M_shown 11 = .ok (.getfield 1032, 3) := by decide +kernel
theorem d_M_shown_14 : decode b_M_shown 14 = .ok (.if_icmp .lt 7, 3) := by decide +kernel
theorem d_M_shown_17 : decode b_M_shown 17 = .ok (.iconst (-1), 1) := by decide +kernel
theorem d_M_shown_18 : decode b_M_shown 18 = .ok (.goto 9, 3) := by decide +kernel
theorem d_M_shown_21 : decode b_M_shown 21 = .ok (.aload_n 0, 1) := by decide +kernel
theorem d_M_shown_22 : decode b_M_shown 22 = .ok (.getfield 297, 3) := by decide +kernel
theorem d_M_shown_25 : decode b_M_shown 25 = .ok (.iload_n 1, 1) := by decide +kernel
theorem d_M_shown_26 : decode b_M_shown 26 = .ok (.baload, 1) := by decide +kernel
theorem d_M_shown_27 : decode b_M_shown 27 = .ok (.ireturn, 1) := by decide +kernel
def rm_M_shown : Room := { frames := 0, cells := 0, slots := 0, locals := 0 }
def fb_M_shown_27 (N : Nat) (G : Unit) (u : MS) (t0 : Int32) : Option (MS × Int32) := some (u, t0)
set_option maxRecDepth 100000 in
set_option maxHeartbeats 4000000 in
theorem wb_M_shown_27 {p : Program} {l : Launch} {e : Env} {R : Room} {s : State} {m : MethodId} {args : Array Value} {below : List Frame} {meth : Method} {c : Code} {D : va_G} {cl : List vw_C} {cB cI cJ cZ cS : ClassId} {A : Nat → Prop} {iM h0 : Nat} {ad : Nat → Nat} (C0 : MCx p s m args meth c b_M_shown 2 (some .int) D cl cB cI cJ cZ cS iM A) (hR : R = rm_M_shown) (N : Nat) (G : Unit) (hG : True) : ∀ (u : MS) (t0 : Int32) (x : MS × Int32), fb_M_shown_27 N G u t0 = some x → ∀ (H : Heap) (locs : List Loc), va_P D cl (wM cB cI cJ cZ cS iM h0 ad u) H → va_D A (wM cB cI cJ cZ cS iM h0 ad u) → va_S A s.heap H locs → ∀ (ls : Array Slot), lv_has ls 2 [] → W p l e R s m args below meth c H locs 0 0 (MQ below (mQi D cl cB cI cJ cZ cS iM h0 ad A x) args s 0 0 A) (F0 m 27 ls [.int t0]) := by
  intro u t0 x hf H locs hP hD hS ls hl
  obtain ⟨hx, hb, hr, hml, ht, hown, hM, hK, hA, hlocks⟩ := id C0
  unfold fb_M_shown_27 at hf
  exact mr_i C0 hP hD hS hf d_M_shown_27
def fb_M_shown_17 (N : Nat) (G : Unit) (u : MS) : Option (MS × Int32) := fb_M_shown_27 N G u ((-1))
set_option maxRecDepth 100000 in
set_option maxHeartbeats 4000000 in
theorem wb_M_shown_17 {p : Program} {l : Launch} {e : Env} {R : Room} {s : State} {m : MethodId} {args : Array Value} {below : List Frame} {meth : Method} {c : Code} {D : va_G} {cl : List vw_C} {cB cI cJ cZ cS : ClassId} {A : Nat → Prop} {iM h0 : Nat} {ad : Nat → Nat} (C0 : MCx p s m args meth c b_M_shown 2 (some .int) D cl cB cI cJ cZ cS iM A) (hR : R = rm_M_shown) (N : Nat) (G : Unit) (hG : True) : ∀ (u : MS) (x : MS × Int32), fb_M_shown_17 N G u = some x → ∀ (H : Heap) (locs : List Loc), va_P D cl (wM cB cI cJ cZ cS iM h0 ad u) H → va_D A (wM cB cI cJ cZ cS iM h0 ad u) → va_S A s.heap H locs → ∀ (ls : Array Slot), lv_has ls 2 [] → W p l e R s m args below meth c H locs 0 0 (MQ below (mQi D cl cB cI cJ cZ cS iM h0 ad A x) args s 0 0 A) (F0 m 17 ls []) := by
  intro u x hf H locs hP hD hS ls hl
  obtain ⟨hx, hb, hr, hml, ht, hown, hM, hK, hA, hlocks⟩ := id C0
  unfold fb_M_shown_17 at hf
  refine lv_iconst (v := (-1)) hx hb d_M_shown_17 (by decide) ?_
  refine lv_goto (tgt := 27) hx hb d_M_shown_18 (by decide) ?_
  exact wb_M_shown_27 C0 hR N G hG _ _ _ hf H locs hP hD hS ls (lv_sub hl [] rfl)
def fb_M_shown_0 (N : Nat) (G : Unit) (u : MS) (v1 : Int32) : Option (MS × Int32) := br (decide (v1 < 0)) (fb_M_shown_17 N G (upI u 3 0)) (br (decide (v1 < ((upI u 3 0).1 130))) (ck (inb v1 (ln 129)) (fb_M_shown_27 N G (upI u 3 0) (((upI u 3 0).2.2.1 129 v1.toNatClampNeg)))) (fb_M_shown_17 N G (upI u 3 0)))
set_option maxRecDepth 100000 in
set_option maxHeartbeats 4000000 in
theorem wb_M_shown_0 {p : Program} {l : Launch} {e : Env} {R : Room} {s : State} {m : MethodId} {args : Array Value} {below : List Frame} {meth : Method} {c : Code} {D : va_G} {cl : List vw_C} {cB cI cJ cZ cS : ClassId} {A : Nat → Prop} {iM h0 : Nat} {ad : Nat → Nat} (C0 : MCx p s m args meth c b_M_shown 2 (some .int) D cl cB cI cJ cZ cS iM A) (hR : R = rm_M_shown) (N : Nat) (G : Unit) (hG : True) : ∀ (u : MS) (v1 : Int32) (x : MS × Int32), fb_M_shown_0 N G u v1 = some x → ∀ (H : Heap) (locs : List Loc), va_P D cl (wM cB cI cJ cZ cS iM h0 ad u) H → va_D A (wM cB cI cJ cZ cS iM h0 ad u) → va_S A s.heap H locs → ∀ (ls : Array Slot), lv_has ls 2 [(0, .ref h0), (1, .int v1)] → W p l e R s m args below meth c H locs 0 0 (MQ below (mQi D cl cB cI cJ cZ cS iM h0 ad A x) args s 0 0 A) (F0 m 0 ls []) := by
  intro u v1 x hf H locs hP hD hS ls hl
  obtain ⟨hx, hb, hr, hml, ht, hown, hM, hK, hA, hlocks⟩ := id C0
  unfold fb_M_shown_0 at hf
  refine lv_aload_n hx hb d_M_shown_0 rfl (lv_at hl 0 rfl) ?_
  refine lv_iconst (v := 0) hx hb d_M_shown_1 (by decide) ?_
  refine up_I hx hb ht hown hM hK hP hD hS 3 (by decide) lk_M_3 (by decide) rfl rfl rfl d_M_shown_2 (fun H locs hP hD hS => ?_)
  refine lv_iload_n hx hb d_M_shown_5 rfl (lv_at hl 1 rfl) ?_
  refine lv_if_lt (tgt := 17) hx hb d_M_shown_6 (by decide) (fun hc => ?_) (fun hc => ?_)
  · rw [br_p _ hc] at hf
    exact wb_M_shown_17 C0 hR N G hG _ _ hf H locs hP hD hS ls (lv_sub hl [] rfl)
  · rw [br_n _ hc] at hf
    refine lv_iload_n hx hb d_M_shown_9 rfl (lv_at hl 1 rfl) ?_
    refine lv_aload_n hx hb d_M_shown_10 rfl (lv_at hl 0 rfl) ?_
    refine ug_I hx hb ht hown hM hK hP 130 (by decide) lk_M_130 (by decide) d_M_shown_11 ?_
    refine lv_icmp_lt (tgt := 21) hx hb d_M_shown_14 (by decide) (fun hc => ?_) (fun hc => ?_)
    · rw [br_p _ hc] at hf
      refine lv_aload_n hx hb d_M_shown_21 rfl (lv_at hl 0 rfl) ?_
      refine ug_R hx hb ht hown hM hK hP 129 (by decide) lk_M_129 (by decide) d_M_shown_22 ?_
      refine lv_iload_n hx hb d_M_shown_25 rfl (lv_at hl 1 rfl) ?_
      obtain ⟨hi9, hf⟩ := ck_some hf
      refine ul_B hx hb hK hP (by decide) (by decide) hi9 d_M_shown_26 ?_
      exact wb_M_shown_27 C0 hR N G hG _ _ _ hf H locs hP hD hS ls (lv_sub hl [] rfl)
    · rw [br_n _ hc] at hf
      exact wb_M_shown_17 C0 hR N G hG _ _ hf H locs hP hD hS ls (lv_sub hl [] rfl)
def fm_M_shown (N : Nat) (u : MS) (v1 : Int32) : Option (MS × Int32) := fb_M_shown_0 N () u v1
set_option maxRecDepth 100000 in
set_option maxHeartbeats 4000000 in
theorem c_M_shown (N : Nat) {l : Launch} {D : va_G} {cl : List vw_C} {cB cI cJ cZ cS : ClassId} {iM h0 : Nat} {ad : Nat → Nat} {u : MS} {sz : Nat} {v1 : Int32} {x : MS × Int32} (hM : cl[iM]? = some (R_M, F_M, 171)) (hf : fm_M_shown N u v1 = some x) : Met l y_M_shown (wd_ws y_M_shown b_M_shown 2 (some .int)) rm_M_shown (mPc D cl cB cI cJ cZ cS iM h0 ad u sz [.ref h0, .int v1]) (mQi D cl cB cI cJ cZ cS iM h0 ad (mA cB cI cJ cZ cS iM h0 ad u sz) x) 0 0 (mA cB cI cJ cZ cS iM h0 ad u sz) :=
  mMet (by decide) rfl hM (Nat.le_of_ble_eq_true rfl) (fun p e s m below meth c ls hsz C0 hP hD hS hl => by
    have hR : rm_M_shown = rm_M_shown := rfl
    exact wb_M_shown_0 C0 hR N () trivial u _ x hf s.heap [] hP hD hS ls (lv_sub hl [0, 1] rfl))
abbrev b_M_printed : ByteArray := prog_14_method_170_code
def y_M_printed : MethodName := ⟨R_M, "printed", "(II)I"⟩
def w_M_printed : List Cond := wd_ws y_M_printed b_M_printed 3 (some .int)
set_option maxRecDepth 100000 in
theorem k_M_printed : Cond.code y_M_printed b_M_printed 3 (some .int) ∈ wd_tbl := wd_of 3286 rfl rfl
theorem d_M_printed_0 : decode b_M_printed 0 = .ok (.aload_n 0, 1) := by decide +kernel
theorem d_M_printed_1 : decode b_M_printed 1 = .ok (.iconst 0, 1) := by decide +kernel
theorem d_M_printed_2 : decode b_M_printed 2 = .ok (.putfield 369, 3) := by decide +kernel
theorem d_M_printed_5 : decode b_M_printed 5 = .ok (.aload_n 0, 1) := by decide +kernel
theorem d_M_printed_6 : decode b_M_printed 6 = .ok (.getfield 657, 3) := by decide +kernel
theorem d_M_printed_9 : decode b_M_printed 9 = .ok (.ifCond .eq 29, 3) := by decide +kernel
theorem d_M_printed_12 : decode b_M_printed 12 = .ok (.iload_n 1, 1) := by decide +kernel
theorem d_M_printed_13 : decode b_M_printed 13 = .ok (.ifCond .lt 25, 3) := by decide +kernel
theorem d_M_printed_16 : decode b_M_printed 16 = .ok (.iload_n 1, 1) := by decide +kernel
theorem d_M_printed_17 : decode b_M_printed 17 = .ok (.aload_n 0, 1) := by decide +kernel
theorem d_M_printed_18 : decode b_M_printed 18 = .ok (.getfield 1010, 3) := by decide +kernel
theorem d_M_printed_21 : decode b_M_printed 21 = .ok (.if_icmp .ge 17, 3) := by decide +kernel
theorem d_M_printed_24 : decode b_M_printed 24 = .ok (.iload_n 2, 1) := by decide +kernel
theorem d_M_printed_25 : decode b_M_printed 25 = .ok (.ifCond .lt 13, 3) := by decide +kernel
theorem d_M_printed_28 : decode b_M_printed 28 = .ok (.iload_n 2, 1) := by decide +kernel
theorem d_M_printed_29 : decode b_M_printed 29 = .ok (.aload_n 0, 1) := by decide +kernel
theorem d_M_printed_30 : decode b_M_printed 30 = .ok (.getfield 294, 3) := by decide +kernel
theorem d_M_printed_33 : decode b_M_printed 33 = .ok (.iload_n 1, 1) := by decide +kernel
theorem d_M_printed_34 : decode b_M_printed 34 = .ok (.iaload, 1) := by decide +kernel
theorem d_M_printed_35 : decode b_M_printed 35 = .ok (.if_icmp .lt 7, 3) := by decide +kernel
theorem d_M_printed_38 : decode b_M_printed 38 = .ok (.iconst (-1), 1) := by decide +kernel
theorem d_M_printed_39 : decode b_M_printed 39 = .ok (.goto 14, 3) := by decide +kernel
theorem d_M_printed_42 : decode b_M_printed 42 = .ok (.aload_n 0, 1) := by decide +kernel
theorem d_M_printed_43 : decode b_M_printed 43 = .ok (.getfield 291, 3) := by decide +kernel
theorem d_M_printed_46 : decode b_M_printed 46 = .ok (.bipush 100, 2) := by decide +kernel
theorem d_M_printed_48 : decode b_M_printed 48 = .ok (.iload_n 1, 1) := by decide +kernel
theorem d_M_printed_49 : decode b_M_printed 49 = .ok (.imul, 1) := by decide +kernel
theorem d_M_printed_50 : decode b_M_printed 50 = .ok (.iload_n 2, 1) := by decide +kernel
theorem d_M_printed_51 : decode b_M_printed 51 = .ok (.iadd, 1) := by decide +kernel
theorem d_M_printed_52 : decode b_M_printed 52 = .ok (.baload, 1) := by decide +kernel
theorem d_M_printed_53 : decode b_M_printed 53 = .ok (.ireturn, 1) := by decide +kernel
def rm_M_printed : Room := { frames := 0, cells := 0, slots := 0, locals := 0 }
def fb_M_printed_53 (N : Nat) (G : Unit) (u : MS) (t0 : Int32) : Option (MS × Int32) := some (u, t0)
set_option maxRecDepth 100000 in
set_option maxHeartbeats 4000000 in
theorem wb_M_printed_53 {p : Program} {l : Launch} {e : Env} {R : Room} {s : State} {m : MethodId} {args : Array Value} {below : List Frame} {meth : Method} {c : Code} {D : va_G} {cl : List vw_C} {cB cI cJ cZ cS : ClassId} {A : Nat → Prop} {iM h0 : Nat} {ad : Nat → Nat} (C0 : MCx p s m args meth c b_M_printed 3 (some .int) D cl cB cI cJ cZ cS iM A) (hR : R = rm_M_printed) (N : Nat) (G : Unit) (hG : True) : ∀ (u : MS) (t0 : Int32) (x : MS × Int32), fb_M_printed_53 N G u t0 = some x → ∀ (H : Heap) (locs : List Loc), va_P D cl (wM cB cI cJ cZ cS iM h0 ad u) H → va_D A (wM cB cI cJ cZ cS iM h0 ad u) → va_S A s.heap H locs → ∀ (ls : Array Slot), lv_has ls 3 [] → W p l e R s m args below meth c H locs 0 0 (MQ below (mQi D cl cB cI cJ cZ cS iM h0 ad A x) args s 0 0 A) (F0 m 53 ls [.int t0]) := by
  intro u t0 x hf H locs hP hD hS ls hl
  obtain ⟨hx, hb, hr, hml, ht, hown, hM, hK, hA, hlocks⟩ := id C0
  unfold fb_M_printed_53 at hf
  exact mr_i C0 hP hD hS hf d_M_printed_53
def fb_M_printed_38 (N : Nat) (G : Unit) (u : MS) : Option (MS × Int32) := fb_M_printed_53 N G u ((-1))
set_option maxRecDepth 100000 in
set_option maxHeartbeats 4000000 in
theorem wb_M_printed_38 {p : Program} {l : Launch} {e : Env} {R : Room} {s : State} {m : MethodId} {args : Array Value} {below : List Frame} {meth : Method} {c : Code} {D : va_G} {cl : List vw_C} {cB cI cJ cZ cS : ClassId} {A : Nat → Prop} {iM h0 : Nat} {ad : Nat → Nat} (C0 : MCx p s m args meth c b_M_printed 3 (some .int) D cl cB cI cJ cZ cS iM A) (hR : R = rm_M_printed) (N : Nat) (G : Unit) (hG : True) : ∀ (u : MS) (x : MS × Int32), fb_M_printed_38 N G u = some x → ∀ (H : Heap) (locs : List Loc), va_P D cl (wM cB cI cJ cZ cS iM h0 ad u) H → va_D A (wM cB cI cJ cZ cS iM h0 ad u) → va_S A s.heap H locs → ∀ (ls : Array Slot), lv_has ls 3 [] → W p l e R s m args below meth c H locs 0 0 (MQ below (mQi D cl cB cI cJ cZ cS iM h0 ad A x) args s 0 0 A) (F0 m 38 ls []) := by
  intro u x hf H locs hP hD hS ls hl
  obtain ⟨hx, hb, hr, hml, ht, hown, hM, hK, hA, hlocks⟩ := id C0
  unfold fb_M_printed_38 at hf
  refine lv_iconst (v := (-1)) hx hb d_M_printed_38 (by decide) ?_
  refine lv_goto (tgt := 53) hx hb d_M_printed_39 (by decide) ?_
  exact wb_M_printed_53 C0 hR N G hG _ _ _ hf H locs hP hD hS ls (lv_sub hl [] rfl)
def fb_M_printed_0 (N : Nat) (G : Unit) (u : MS) (v1 : Int32) (v2 : Int32) : Option (MS × Int32) := br (decide (((upI u 3 0).1 87) = 0)) (fb_M_printed_38 N G (upI u 3 0)) (br (decide (v1 < 0)) (fb_M_printed_38 N G (upI u 3 0)) (br (decide (((upI u 3 0).1 128) ≤ v1)) (fb_M_printed_38 N G (upI u 3 0)) (br (decide (v2 < 0)) (fb_M_printed_38 N G (upI u 3 0)) (ck (inb v1 (ln 127)) (br (decide (v2 < ((upI u 3 0).2.2.1 127 v1.toNatClampNeg))) (ck (inb ((100 * v1) + v2) (ln 126)) (fb_M_printed_53 N G (upI u 3 0) (((upI u 3 0).2.2.1 126 ((100 * v1) + v2).toNatClampNeg)))) (fb_M_printed_38 N G (upI u 3 0)))))))
set_option maxRecDepth 100000 in
set_option maxHeartbeats 4000000 in
theorem wb_M_printed_0 {p : Program} {l : Launch} {e : Env} {R : Room} {s : State} {m : MethodId} {args : Array Value} {below : List Frame} {meth : Method} {c : Code} {D : va_G} {cl : List vw_C} {cB cI cJ cZ cS : ClassId} {A : Nat → Prop} {iM h0 : Nat} {ad : Nat → Nat} (C0 : MCx p s m args meth c b_M_printed 3 (some .int) D cl cB cI cJ cZ cS iM A) (hR : R = rm_M_printed) (N : Nat) (G : Unit) (hG : True) : ∀ (u : MS) (v1 : Int32) (v2 : Int32) (x : MS × Int32), fb_M_printed_0 N G u v1 v2 = some x → ∀ (H : Heap) (locs : List Loc), va_P D cl (wM cB cI cJ cZ cS iM h0 ad u) H → va_D A (wM cB cI cJ cZ cS iM h0 ad u) → va_S A s.heap H locs → ∀ (ls : Array Slot), lv_has ls 3 [(0, .ref h0), (1, .int v1), (2, .int v2)] → W p l e R s m args below meth c H locs 0 0 (MQ below (mQi D cl cB cI cJ cZ cS iM h0 ad A x) args s 0 0 A) (F0 m 0 ls []) := by
  intro u v1 v2 x hf H locs hP hD hS ls hl
  obtain ⟨hx, hb, hr, hml, ht, hown, hM, hK, hA, hlocks⟩ := id C0
  unfold fb_M_printed_0 at hf
  refine lv_aload_n hx hb d_M_printed_0 rfl (lv_at hl 0 rfl) ?_
  refine lv_iconst (v := 0) hx hb d_M_printed_1 (by decide) ?_
  refine up_I hx hb ht hown hM hK hP hD hS 3 (by decide) lk_M_3 (by decide) rfl rfl rfl d_M_printed_2 (fun H locs hP hD hS => ?_)
  refine lv_aload_n hx hb d_M_printed_5 rfl (lv_at hl 0 rfl) ?_
  refine ug_I hx hb ht hown hM hK hP 87 (by decide) lk_M_87 (by decide) d_M_printed_6 ?_
  refine lv_if_eq (tgt := 38) hx hb d_M_printed_9 (by decide) (fun hc => ?_) (fun hc => ?_)
  · rw [br_p _ hc] at hf
    exact wb_M_printed_38 C0 hR N G hG _ _ hf H locs hP hD hS ls (lv_sub hl [] rfl)
  · rw [br_n _ hc] at hf
    refine lv_iload_n hx hb d_M_printed_12 rfl (lv_at hl 1 rfl) ?_
    refine lv_if_lt (tgt := 38) hx hb d_M_printed_13 (by decide) (fun hc => ?_) (fun hc => ?_)
    · rw [br_p _ hc] at hf
      exact wb_M_printed_38 C0 hR N G hG _ _ hf H locs hP hD hS ls (lv_sub hl [] rfl)
    · rw [br_n _ hc] at hf
      refine lv_iload_n hx hb d_M_printed_16 rfl (lv_at hl 1 rfl) ?_
      refine lv_aload_n hx hb d_M_printed_17 rfl (lv_at hl 0 rfl) ?_
      refine ug_I hx hb ht hown hM hK hP 128 (by decide) lk_M_128 (by decide) d_M_printed_18 ?_
      refine lv_icmp_ge (tgt := 38) hx hb d_M_printed_21 (by decide) (fun hc => ?_) (fun hc => ?_)
      · rw [br_p _ hc] at hf
        exact wb_M_printed_38 C0 hR N G hG _ _ hf H locs hP hD hS ls (lv_sub hl [] rfl)
      · rw [br_n _ hc] at hf
        refine lv_iload_n hx hb d_M_printed_24 rfl (lv_at hl 2 rfl) ?_
        refine lv_if_lt (tgt := 38) hx hb d_M_printed_25 (by decide) (fun hc => ?_) (fun hc => ?_)
        · rw [br_p _ hc] at hf
          exact wb_M_printed_38 C0 hR N G hG _ _ hf H locs hP hD hS ls (lv_sub hl [] rfl)
        · rw [br_n _ hc] at hf
          refine lv_iload_n hx hb d_M_printed_28 rfl (lv_at hl 2 rfl) ?_
          refine lv_aload_n hx hb d_M_printed_29 rfl (lv_at hl 0 rfl) ?_
          refine ug_R hx hb ht hown hM hK hP 127 (by decide) lk_M_127 (by decide) d_M_printed_30 ?_
          refine lv_iload_n hx hb d_M_printed_33 rfl (lv_at hl 1 rfl) ?_
          obtain ⟨hi9, hf⟩ := ck_some hf
          refine ul_I hx hb hK hP (by decide) (by decide) hi9 d_M_printed_34 ?_
          refine lv_icmp_lt (tgt := 42) hx hb d_M_printed_35 (by decide) (fun hc => ?_) (fun hc => ?_)
          · rw [br_p _ hc] at hf
            refine lv_aload_n hx hb d_M_printed_42 rfl (lv_at hl 0 rfl) ?_
            refine ug_R hx hb ht hown hM hK hP 126 (by decide) lk_M_126 (by decide) d_M_printed_43 ?_
            refine lv_bipush (v := 100) hx hb d_M_printed_46 (by decide) ?_
            refine lv_iload_n hx hb d_M_printed_48 rfl (lv_at hl 1 rfl) ?_
            refine lv_imul hx hb d_M_printed_49 ?_
            refine lv_iload_n hx hb d_M_printed_50 rfl (lv_at hl 2 rfl) ?_
            refine lv_iadd hx hb d_M_printed_51 ?_
            obtain ⟨hi9, hf⟩ := ck_some hf
            refine ul_B hx hb hK hP (by decide) (by decide) hi9 d_M_printed_52 ?_
            exact wb_M_printed_53 C0 hR N G hG _ _ _ hf H locs hP hD hS ls (lv_sub hl [] rfl)
          · rw [br_n _ hc] at hf
            exact wb_M_printed_38 C0 hR N G hG _ _ hf H locs hP hD hS ls (lv_sub hl [] rfl)
def fm_M_printed (N : Nat) (u : MS) (v1 : Int32) (v2 : Int32) : Option (MS × Int32) := fb_M_printed_0 N () u v1 v2
set_option maxRecDepth 100000 in
set_option maxHeartbeats 4000000 in
theorem c_M_printed (N : Nat) {l : Launch} {D : va_G} {cl : List vw_C} {cB cI cJ cZ cS : ClassId} {iM h0 : Nat} {ad : Nat → Nat} {u : MS} {sz : Nat} {v1 : Int32} {v2 : Int32} {x : MS × Int32} (hM : cl[iM]? = some (R_M, F_M, 171)) (hf : fm_M_printed N u v1 v2 = some x) : Met l y_M_printed (wd_ws y_M_printed b_M_printed 3 (some .int)) rm_M_printed (mPc D cl cB cI cJ cZ cS iM h0 ad u sz [.ref h0, .int v1, .int v2]) (mQi D cl cB cI cJ cZ cS iM h0 ad (mA cB cI cJ cZ cS iM h0 ad u sz) x) 0 0 (mA cB cI cJ cZ cS iM h0 ad u sz) :=
  mMet (by decide) rfl hM (Nat.le_of_ble_eq_true rfl) (fun p e s m below meth c ls hsz C0 hP hD hS hl => by
    have hR : rm_M_printed = rm_M_printed := rfl
    exact wb_M_printed_0 C0 hR N () trivial u _ _ x hf s.heap [] hP hD hS ls (lv_sub hl [0, 1, 2] rfl))
abbrev b_M_link : ByteArray := prog_14_method_167_code
def y_M_link : MethodName := ⟨R_M, "link", "(II)I"⟩
def w_M_link : List Cond := wd_ws y_M_link b_M_link 3 (some .int)
set_option maxRecDepth 100000 in
theorem k_M_link : Cond.code y_M_link b_M_link 3 (some .int) ∈ wd_tbl := wd_of 3274 rfl rfl
theorem d_M_link_0 : decode b_M_link 0 = .ok (.aload_n 0, 1) := by decide +kernel
theorem d_M_link_1 : decode b_M_link 1 = .ok (.iconst 0, 1) := by decide +kernel
theorem d_M_link_2 : decode b_M_link 2 = .ok (.putfield 369, 3) := by decide +kernel
theorem d_M_link_5 : decode b_M_link 5 = .ok (.aload_n 0, 1) := by decide +kernel
theorem d_M_link_6 : decode b_M_link 6 = .ok (.iload_n 1, 1) := by decide +kernel
theorem d_M_link_7 : decode b_M_link 7 = .ok (.invokevirtual 880, 3) := by decide +kernel
theorem d_M_link_10 : decode b_M_link 10 = .ok (.ifCond .eq 17, 3) := by decide +kernel
theorem d_M_link_13 : decode b_M_link 13 = .ok (.iload_n 2, 1) := by decide +kernel
theorem d_M_link_14 : decode b_M_link 14 = .ok (.ifCond .lt 13, 3) := by decide +kernel
theorem d_M_link_17 : decode b_M_link 17 = .ok (.iload_n 2, 1) := by decide +kernel
theorem d_M_link_18 : decode b_M_link 18 = .ok (.aload_n 0, 1) := by decide +kernel
theorem d_M_link_19 : decode b_M_link 19 = .ok (.getfield 279, 3) := by decide +kernel
theorem d_M_link_22 : decode b_M_link 22 = .ok (.iload_n 1, 1) := by decide +kernel
theorem d_M_link_23 : decode b_M_link 23 = .ok (.iaload, 1) := by decide +kernel
theorem d_M_link_24 : decode b_M_link 24 = .ok (.if_icmp .lt 7, 3) := by decide +kernel
theorem d_M_link_27 : decode b_M_link 27 = .ok (.iconst (-1), 1) := by decide +kernel
theorem d_M_link_28 : decode b_M_link 28 = .ok (.goto 14, 3) := by decide +kernel
theorem d_M_link_31 : decode b_M_link 31 = .ok (.aload_n 0, 1) := by decide +kernel
theorem d_M_link_32 : decode b_M_link 32 = .ok (.getfield 276, 3) := by decide +kernel
theorem d_M_link_35 : decode b_M_link 35 = .ok (.bipush 24, 2) := by decide +kernel
theorem d_M_link_37 : decode b_M_link 37 = .ok (.iload_n 1, 1) := by decide +kernel
theorem d_M_link_38 : decode b_M_link 38 = .ok (.imul, 1) := by decide +kernel
theorem d_M_link_39 : decode b_M_link 39 = .ok (.iload_n 2, 1) := by decide +kernel
theorem d_M_link_40 : decode b_M_link 40 = .ok (.iadd, 1) := by decide +kernel
theorem d_M_link_41 : decode b_M_link 41 = .ok (.iaload, 1) := by decide +kernel
theorem d_M_link_42 : decode b_M_link 42 = .ok (.ireturn, 1) := by decide +kernel
def rm_M_link : Room := { frames := 1, cells := 0, slots := 0, locals := 21 }
theorem rm_M_link_M_isProcess {R : Room} (hR : R = rm_M_link) : (rm_M_isProcess).frames + 1 ≤ R.frames ∧ 8 + (2 + 11) + (rm_M_isProcess).locals ≤ R.locals := by subst hR; decide
def fb_M_link_42 (N : Nat) (G : Unit) (u : MS) (t0 : Int32) : Option (MS × Int32) := some (u, t0)
set_option maxRecDepth 100000 in
set_option maxHeartbeats 4000000 in
theorem wb_M_link_42 {p : Program} {l : Launch} {e : Env} {R : Room} {s : State} {m : MethodId} {args : Array Value} {below : List Frame} {meth : Method} {c : Code} {D : va_G} {cl : List vw_C} {cB cI cJ cZ cS : ClassId} {A : Nat → Prop} {iM h0 : Nat} {ad : Nat → Nat} (C0 : MCx p s m args meth c b_M_link 3 (some .int) D cl cB cI cJ cZ cS iM A) (hR : R = rm_M_link) (N : Nat) (G : Unit) (hG : True) : ∀ (u : MS) (t0 : Int32) (x : MS × Int32), fb_M_link_42 N G u t0 = some x → ∀ (H : Heap) (locs : List Loc), va_P D cl (wM cB cI cJ cZ cS iM h0 ad u) H → va_D A (wM cB cI cJ cZ cS iM h0 ad u) → va_S A s.heap H locs → ∀ (ls : Array Slot), lv_has ls 3 [] → W p l e R s m args below meth c H locs 0 0 (MQ below (mQi D cl cB cI cJ cZ cS iM h0 ad A x) args s 0 0 A) (F0 m 42 ls [.int t0]) := by
  intro u t0 x hf H locs hP hD hS ls hl
  obtain ⟨hx, hb, hr, hml, ht, hown, hM, hK, hA, hlocks⟩ := id C0
  unfold fb_M_link_42 at hf
  exact mr_i C0 hP hD hS hf d_M_link_42
def fb_M_link_27 (N : Nat) (G : Unit) (u : MS) : Option (MS × Int32) := fb_M_link_42 N G u ((-1))
set_option maxRecDepth 100000 in
set_option maxHeartbeats 4000000 in
theorem wb_M_link_27 {p : Program} {l : Launch} {e : Env} {R : Room} {s : State} {m : MethodId} {args : Array Value} {below : List Frame} {meth : Method} {c : Code} {D : va_G} {cl : List vw_C} {cB cI cJ cZ cS : ClassId} {A : Nat → Prop} {iM h0 : Nat} {ad : Nat → Nat} (C0 : MCx p s m args meth c b_M_link 3 (some .int) D cl cB cI cJ cZ cS iM A) (hR : R = rm_M_link) (N : Nat) (G : Unit) (hG : True) : ∀ (u : MS) (x : MS × Int32), fb_M_link_27 N G u = some x → ∀ (H : Heap) (locs : List Loc), va_P D cl (wM cB cI cJ cZ cS iM h0 ad u) H → va_D A (wM cB cI cJ cZ cS iM h0 ad u) → va_S A s.heap H locs → ∀ (ls : Array Slot), lv_has ls 3 [] → W p l e R s m args below meth c H locs 0 0 (MQ below (mQi D cl cB cI cJ cZ cS iM h0 ad A x) args s 0 0 A) (F0 m 27 ls []) := by
  intro u x hf H locs hP hD hS ls hl
  obtain ⟨hx, hb, hr, hml, ht, hown, hM, hK, hA, hlocks⟩ := id C0
  unfold fb_M_link_27 at hf
  refine lv_iconst (v := (-1)) hx hb d_M_link_27 (by decide) ?_
  refine lv_goto (tgt := 42) hx hb d_M_link_28 (by decide) ?_
  exact wb_M_link_42 C0 hR N G hG _ _ _ hf H locs hP hD hS ls (lv_sub hl [] rfl)
def fb_M_link_0 (N : Nat) (G : Unit) (u : MS) (v1 : Int32) (v2 : Int32) : Option (MS × Int32) := bnd (fm_M_isProcess N (upI u 3 0) v1) (fun u1 r1 => br (decide (r1 = 0)) (fb_M_link_27 N G u1) (br (decide (v2 < 0)) (fb_M_link_27 N G u1) (ck (inb v1 (ln 117)) (br (decide (v2 < (u1.2.2.1 117 v1.toNatClampNeg))) (ck (inb ((24 * v1) + v2) (ln 116)) (fb_M_link_42 N G u1 ((u1.2.2.1 116 ((24 * v1) + v2).toNatClampNeg)))) (fb_M_link_27 N G u1)))))
set_option maxRecDepth 100000 in
set_option maxHeartbeats 4000000 in
theorem wb_M_link_0 {p : Program} {l : Launch} {e : Env} {R : Room} {s : State} {m : MethodId} {args : Array Value} {below : List Frame} {meth : Method} {c : Code} {D : va_G} {cl : List vw_C} {cB cI cJ cZ cS : ClassId} {A : Nat → Prop} {iM h0 : Nat} {ad : Nat → Nat} (C0 : MCx p s m args meth c b_M_link 3 (some .int) D cl cB cI cJ cZ cS iM A) (hR : R = rm_M_link) (N : Nat) (G : Unit) (hG : True) : ∀ (u : MS) (v1 : Int32) (v2 : Int32) (x : MS × Int32), fb_M_link_0 N G u v1 v2 = some x → ∀ (H : Heap) (locs : List Loc), va_P D cl (wM cB cI cJ cZ cS iM h0 ad u) H → va_D A (wM cB cI cJ cZ cS iM h0 ad u) → va_S A s.heap H locs → ∀ (ls : Array Slot), lv_has ls 3 [(0, .ref h0), (1, .int v1), (2, .int v2)] → W p l e R s m args below meth c H locs 0 0 (MQ below (mQi D cl cB cI cJ cZ cS iM h0 ad A x) args s 0 0 A) (F0 m 0 ls []) := by
  intro u v1 v2 x hf H locs hP hD hS ls hl
  obtain ⟨hx, hb, hr, hml, ht, hown, hM, hK, hA, hlocks⟩ := id C0
  unfold fb_M_link_0 at hf
  refine lv_aload_n hx hb d_M_link_0 rfl (lv_at hl 0 rfl) ?_
  refine lv_iconst (v := 0) hx hb d_M_link_1 (by decide) ?_
  refine up_I hx hb ht hown hM hK hP hD hS 3 (by decide) lk_M_3 (by decide) rfl rfl rfl d_M_link_2 (fun H locs hP hD hS => ?_)
  refine lv_aload_n hx hb d_M_link_5 rfl (lv_at hl 0 rfl) ?_
  refine lv_iload_n hx hb d_M_link_6 rfl (lv_at hl 1 rfl) ?_
  obtain ⟨u1, r1, hc1, hf⟩ := bnd_some hf
  refine mV_i (As := [.int v1]) (rest := []) C0 hP hD hS (c_M_isProcess N hM hc1) k_M_isProcess hl_M_isProcess hi_M_isProcess hs_M_isProcess hini_M rfl rfl hd_M_isProcess rfl (rm_M_link_M_isProcess hR) hl.1 (Nat.le_of_ble_eq_true rfl) d_M_link_7 rfl ⟨Nat.zero_le _, Nat.zero_le _⟩ (fun H locs hP hD hS => ?_)
  refine lv_if_eq (tgt := 27) hx hb d_M_link_10 (by decide) (fun hc => ?_) (fun hc => ?_)
  · rw [br_p _ hc] at hf
    exact wb_M_link_27 C0 hR N G hG _ _ hf H locs hP hD hS ls (lv_sub hl [] rfl)
  · rw [br_n _ hc] at hf
    refine lv_iload_n hx hb d_M_link_13 rfl (lv_at hl 2 rfl) ?_
    refine lv_if_lt (tgt := 27) hx hb d_M_link_14 (by decide) (fun hc => ?_) (fun hc => ?_)
    · rw [br_p _ hc] at hf
      exact wb_M_link_27 C0 hR N G hG _ _ hf H locs hP hD hS ls (lv_sub hl [] rfl)
    · rw [br_n _ hc] at hf
      refine lv_iload_n hx hb d_M_link_17 rfl (lv_at hl 2 rfl) ?_
      refine lv_aload_n hx hb d_M_link_18 rfl (lv_at hl 0 rfl) ?_
      refine ug_R hx hb ht hown hM hK hP 117 (by decide) lk_M_117 (by decide) d_M_link_19 ?_
      refine lv_iload_n hx hb d_M_link_22 rfl (lv_at hl 1 rfl) ?_
      obtain ⟨hi9, hf⟩ := ck_some hf
      refine ul_I hx hb hK hP (by decide) (by decide) hi9 d_M_link_23 ?_
      refine lv_icmp_lt (tgt := 31) hx hb d_M_link_24 (by decide) (fun hc => ?_) (fun hc => ?_)
      · rw [br_p _ hc] at hf
        refine lv_aload_n hx hb d_M_link_31 rfl (lv_at hl 0 rfl) ?_
        refine ug_R hx hb ht hown hM hK hP 116 (by decide) lk_M_116 (by decide) d_M_link_32 ?_
        refine lv_bipush (v := 24) hx hb d_M_link_35 (by decide) ?_
        refine lv_iload_n hx hb d_M_link_37 rfl (lv_at hl 1 rfl) ?_
        refine lv_imul hx hb d_M_link_38 ?_
        refine lv_iload_n hx hb d_M_link_39 rfl (lv_at hl 2 rfl) ?_
        refine lv_iadd hx hb d_M_link_40 ?_
        obtain ⟨hi9, hf⟩ := ck_some hf
        refine ul_I hx hb hK hP (by decide) (by decide) hi9 d_M_link_41 ?_
        exact wb_M_link_42 C0 hR N G hG _ _ _ hf H locs hP hD hS ls (lv_sub hl [] rfl)
      · rw [br_n _ hc] at hf
        exact wb_M_link_27 C0 hR N G hG _ _ hf H locs hP hD hS ls (lv_sub hl [] rfl)
def fm_M_link (N : Nat) (u : MS) (v1 : Int32) (v2 : Int32) : Option (MS × Int32) := fb_M_link_0 N () u v1 v2
set_option maxRecDepth 100000 in
set_option maxHeartbeats 4000000 in
theorem c_M_link (N : Nat) {l : Launch} {D : va_G} {cl : List vw_C} {cB cI cJ cZ cS : ClassId} {iM h0 : Nat} {ad : Nat → Nat} {u : MS} {sz : Nat} {v1 : Int32} {v2 : Int32} {x : MS × Int32} (hM : cl[iM]? = some (R_M, F_M, 171)) (hf : fm_M_link N u v1 v2 = some x) : Met l y_M_link (wd_ws y_M_link b_M_link 3 (some .int)) rm_M_link (mPc D cl cB cI cJ cZ cS iM h0 ad u sz [.ref h0, .int v1, .int v2]) (mQi D cl cB cI cJ cZ cS iM h0 ad (mA cB cI cJ cZ cS iM h0 ad u sz) x) 0 0 (mA cB cI cJ cZ cS iM h0 ad u sz) :=
  mMet (by decide) rfl hM (Nat.le_of_ble_eq_true rfl) (fun p e s m below meth c ls hsz C0 hP hD hS hl => by
    have hR : rm_M_link = rm_M_link := rfl
    exact wb_M_link_0 C0 hR N () trivial u _ _ x hf s.heap [] hP hD hS ls (lv_sub hl [0, 1, 2] rfl))
abbrev b_M_frame0 : ByteArray := prog_14_method_80_code
def y_M_frame0 : MethodName := ⟨R_M, "frame", "()I"⟩
def w_M_frame0 : List Cond := wd_ws y_M_frame0 b_M_frame0 1 (some .int)
set_option maxRecDepth 100000 in
theorem k_M_frame0 : Cond.code y_M_frame0 b_M_frame0 1 (some .int) ∈ wd_tbl := wd_of 2913 rfl rfl
theorem d_M_frame0_0 : decode b_M_frame0 0 = .ok (.aload_n 0, 1) := by decide +kernel
theorem d_M_frame0_1 : decode b_M_frame0 1 = .ok (.getfield 669, 3) := by decide +kernel
theorem d_M_frame0_4 : decode b_M_frame0 4 = .ok (.bipush 60, 2) := by decide +kernel
theorem d_M_frame0_6 : decode b_M_frame0 6 = .ok (.imul, 1) := by decide +kernel
theorem d_M_frame0_7 : decode b_M_frame0 7 = .ok (.aload_n 0, 1) := by decide +kernel
theorem d_M_frame0_8 : decode b_M_frame0 8 = .ok (.getfield 212, 3) := by decide +kernel
theorem d_M_frame0_11 : decode b_M_frame0 11 = .ok (.aload_n 0, 1) := by decide +kernel
theorem d_M_frame0_12 : decode b_M_frame0 12 = .ok (.getfield 669, 3) := by decide +kernel
theorem d_M_frame0_15 : decode b_M_frame0 15 = .ok (.iaload, 1) := by decide +kernel
theorem d_M_frame0_16 : decode b_M_frame0 16 = .ok (.iadd, 1) := by decide +kernel
theorem d_M_frame0_17 : decode b_M_frame0 17 = .ok (.iconst 1, 1) := by decide +kernel
theorem d_M_frame0_18 : decode b_M_frame0 18 = .ok (.isub, 1) := by decide +kernel
theorem d_M_frame0_19 : decode b_M_frame0 19 = .ok (.ireturn, 1) := by decide +kernel
set_option maxRecDepth 100000 in
theorem hl_M_frame0 : Cond.methodLink R_M 673 y_M_frame0 ∈ wd_tbl := wd_of 2910 (by decide +kernel) rfl
set_option maxRecDepth 100000 in
theorem hi_M_frame0 : Cond.instanceMethod y_M_frame0 ∈ wd_tbl := wd_of 2912 (by decide +kernel) rfl
set_option maxRecDepth 100000 in
theorem hs_M_frame0 : Cond.selects R_M y_M_frame0 y_M_frame0 ∈ wd_tbl := wd_of 187 (by decide +kernel) rfl
theorem hd_M_frame0 : y_M_frame0.cls = R_M ∧ y_M_frame0.cls ≠ "java/lang/invoke/MethodHandle" ∧ y_M_frame0.cls ≠ "java/lang/invoke/VarHandle" ∧ (parseMethodDescriptor y_M_frame0.desc).map (fun d => d.parameters.length) = some 0 := by decide +kernel
def rm_M_frame0 : Room := { frames := 0, cells := 0, slots := 0, locals := 0 }
def fb_M_frame0_0 (N : Nat) (G : Unit) (u : MS) : Option (MS × Int32) := ck (inb (u.1 133) (ln 95)) (some (u, ((((u.1 133) * 60) + (u.2.2.1 95 (u.1 133).toNatClampNeg)) - 1)))
set_option maxRecDepth 100000 in
set_option maxHeartbeats 4000000 in
theorem wb_M_frame0_0 {p : Program} {l : Launch} {e : Env} {R : Room} {s : State} {m : MethodId} {args : Array Value} {below : List Frame} {meth : Method} {c : Code} {D : va_G} {cl : List vw_C} {cB cI cJ cZ cS : ClassId} {A : Nat → Prop} {iM h0 : Nat} {ad : Nat → Nat} (C0 : MCx p s m args meth c b_M_frame0 1 (some .int) D cl cB cI cJ cZ cS iM A) (hR : R = rm_M_frame0) (N : Nat) (G : Unit) (hG : True) : ∀ (u : MS) (x : MS × Int32), fb_M_frame0_0 N G u = some x → ∀ (H : Heap) (locs : List Loc), va_P D cl (wM cB cI cJ cZ cS iM h0 ad u) H → va_D A (wM cB cI cJ cZ cS iM h0 ad u) → va_S A s.heap H locs → ∀ (ls : Array Slot), lv_has ls 1 [(0, .ref h0)] → W p l e R s m args below meth c H locs 0 0 (MQ below (mQi D cl cB cI cJ cZ cS iM h0 ad A x) args s 0 0 A) (F0 m 0 ls []) := by
  intro u x hf H locs hP hD hS ls hl
  obtain ⟨hx, hb, hr, hml, ht, hown, hM, hK, hA, hlocks⟩ := id C0
  unfold fb_M_frame0_0 at hf
  refine lv_aload_n hx hb d_M_frame0_0 rfl (lv_at hl 0 rfl) ?_
  refine ug_I hx hb ht hown hM hK hP 133 (by decide) lk_M_133 (by decide) d_M_frame0_1 ?_
  refine lv_bipush (v := 60) hx hb d_M_frame0_4 (by decide) ?_
  refine lv_imul hx hb d_M_frame0_6 ?_
  refine lv_aload_n hx hb d_M_frame0_7 rfl (lv_at hl 0 rfl) ?_
  refine ug_R hx hb ht hown hM hK hP 95 (by decide) lk_M_95 (by decide) d_M_frame0_8 ?_
  refine lv_aload_n hx hb d_M_frame0_11 rfl (lv_at hl 0 rfl) ?_
  refine ug_I hx hb ht hown hM hK hP 133 (by decide) lk_M_133 (by decide) d_M_frame0_12 ?_
  obtain ⟨hi9, hf⟩ := ck_some hf
  refine ul_I hx hb hK hP (by decide) (by decide) hi9 d_M_frame0_15 ?_
  refine lv_iadd hx hb d_M_frame0_16 ?_
  refine lv_iconst (v := 1) hx hb d_M_frame0_17 (by decide) ?_
  refine lv_isub hx hb d_M_frame0_18 ?_
  exact mr_i C0 hP hD hS hf d_M_frame0_19
def fm_M_frame0 (N : Nat) (u : MS) : Option (MS × Int32) := fb_M_frame0_0 N () u
set_option maxRecDepth 100000 in
set_option maxHeartbeats 4000000 in
theorem c_M_frame0 (N : Nat) {l : Launch} {D : va_G} {cl : List vw_C} {cB cI cJ cZ cS : ClassId} {iM h0 : Nat} {ad : Nat → Nat} {u : MS} {sz : Nat} {x : MS × Int32} (hM : cl[iM]? = some (R_M, F_M, 171)) (hf : fm_M_frame0 N u = some x) : Met l y_M_frame0 (wd_ws y_M_frame0 b_M_frame0 1 (some .int)) rm_M_frame0 (mPc D cl cB cI cJ cZ cS iM h0 ad u sz [.ref h0]) (mQi D cl cB cI cJ cZ cS iM h0 ad (mA cB cI cJ cZ cS iM h0 ad u sz) x) 0 0 (mA cB cI cJ cZ cS iM h0 ad u sz) :=
  mMet (by decide) rfl hM (Nat.le_of_ble_eq_true rfl) (fun p e s m below meth c ls hsz C0 hP hD hS hl => by
    have hR : rm_M_frame0 = rm_M_frame0 := rfl
    exact wb_M_frame0_0 C0 hR N () trivial u x hf s.heap [] hP hD hS ls (lv_sub hl [0] rfl))
abbrev b_M_clock : ByteArray := prog_14_method_162_code
def y_M_clock : MethodName := ⟨R_M, "clock", "(I)I"⟩
def w_M_clock : List Cond := wd_ws y_M_clock b_M_clock 2 (some .int)
set_option maxRecDepth 100000 in
theorem k_M_clock : Cond.code y_M_clock b_M_clock 2 (some .int) ∈ wd_tbl := wd_of 3251 rfl rfl
theorem d_M_clock_0 : decode b_M_clock 0 = .ok (.aload_n 0, 1) := by decide +kernel
theorem d_M_clock_1 : decode b_M_clock 1 = .ok (.iload_n 1, 1) := by decide +kernel
theorem d_M_clock_2 : decode b_M_clock 2 = .ok (.ifCond .lt 32, 3) := by decide +kernel
theorem d_M_clock_5 : decode b_M_clock 5 = .ok (.iload_n 1, 1) := by decide +kernel
theorem d_M_clock_6 : decode b_M_clock 6 = .ok (.ldc_w 1028, 3) := by decide +kernel
theorem d_M_clock_9 : decode b_M_clock 9 = .ok (.if_icmp .gt 25, 3) := by decide +kernel
theorem d_M_clock_12 : decode b_M_clock 12 = .ok (.aload_n 0, 1) := by decide +kernel
theorem d_M_clock_13 : decode b_M_clock 13 = .ok (.getfield 657, 3) := by decide +kernel
theorem d_M_clock_16 : decode b_M_clock 16 = .ok (.ifCond .eq 22, 3) := by decide +kernel
theorem d_M_clock_19 : decode b_M_clock 19 = .ok (.aload_n 0, 1) := by decide +kernel
theorem d_M_clock_20 : decode b_M_clock 20 = .ok (.getfield 904, 3) := by decide +kernel
theorem d_M_clock_23 : decode b_M_clock 23 = .ok (.i2l, 1) := by decide +kernel
theorem d_M_clock_24 : decode b_M_clock 24 = .ok (.iload_n 1, 1) := by decide +kernel
theorem d_M_clock_25 : decode b_M_clock 25 = .ok (.i2l, 1) := by decide +kernel
theorem d_M_clock_26 : decode b_M_clock 26 = .ok (.ladd, 1) := by decide +kernel
theorem d_M_clock_27 : decode b_M_clock 27 = .ok (.ldc2_w 1029, 3) := by decide +kernel
theorem d_M_clock_30 : decode b_M_clock 30 = .ok (.lcmp, 1) := by decide +kernel
theorem d_M_clock_31 : decode b_M_clock 31 = .ok (.ifCond .le 7, 3) := by decide +kernel
theorem d_M_clock_34 : decode b_M_clock 34 = .ok (.iconst 1, 1) := by decide +kernel
theorem d_M_clock_35 : decode b_M_clock 35 = .ok (.goto 15, 3) := by decide +kernel
theorem d_M_clock_38 : decode b_M_clock 38 = .ok (.aload_n 0, 1) := by decide +kernel
theorem d_M_clock_39 : decode b_M_clock 39 = .ok (.getfield 657, 3) := by decide +kernel
theorem d_M_clock_42 : decode b_M_clock 42 = .ok (.ifCond .ne 7, 3) := by decide +kernel
theorem d_M_clock_45 : decode b_M_clock 45 = .ok (.iconst 2, 1) := by decide +kernel
theorem d_M_clock_46 : decode b_M_clock 46 = .ok (.goto 4, 3) := by decide +kernel
theorem d_M_clock_49 : decode b_M_clock 49 = .ok (.iconst 0, 1) := by decide +kernel
theorem d_M_clock_50 : decode b_M_clock 50 = .ok (.putfield 369, 3) := by decide +kernel
theorem d_M_clock_53 : decode b_M_clock 53 = .ok (.aload_n 0, 1) := by decide +kernel
theorem d_M_clock_54 : decode b_M_clock 54 = .ok (.getfield 369, 3) := by decide +kernel
theorem d_M_clock_57 : decode b_M_clock 57 = .ok (.ifCond .eq 5, 3) := by decide +kernel
theorem d_M_clock_60 : decode b_M_clock 60 = .ok (.iconst 0, 1) := by decide +kernel
theorem d_M_clock_61 : decode b_M_clock 61 = .ok (.ireturn, 1) := by decide +kernel
theorem d_M_clock_62 : decode b_M_clock 62 = .ok (.aload_n 0, 1) := by decide +kernel
theorem d_M_clock_63 : decode b_M_clock 63 = .ok (.dup, 1) := by decide +kernel
theorem d_M_clock_64 : decode b_M_clock 64 = .ok (.getfield 904, 3) := by decide +kernel
theorem d_M_clock_67 : decode b_M_clock 67 = .ok (.iload_n 1, 1) := by decide +kernel
theorem d_M_clock_68 : decode b_M_clock 68 = .ok (.iadd, 1) := by decide +kernel
theorem d_M_clock_69 : decode b_M_clock 69 = .ok (.putfield 904, 3) := by decide +kernel
theorem d_M_clock_72 : decode b_M_clock 72 = .ok (.aload_n 0, 1) := by decide +kernel
theorem d_M_clock_73 : decode b_M_clock 73 = .ok (.getfield 904, 3) := by decide +kernel
theorem d_M_clock_76 : decode b_M_clock 76 = .ok (.ireturn, 1) := by decide +kernel
def rm_M_clock : Room := { frames := 0, cells := 0, slots := 0, locals := 0 }
def fb_M_clock_50 (N : Nat) (G : Unit) (u : MS) (v1 : Int32) (t1 : Int32) : Option (MS × Int32) := br (decide (((upI u 3 t1).1 3) = 0)) (some ((upI (upI u 3 t1) 120 (((upI u 3 t1).1 120) + v1)), ((upI (upI u 3 t1) 120 (((upI u 3 t1).1 120) + v1)).1 120))) (some ((upI u 3 t1), 0))
set_option maxRecDepth 100000 in
set_option maxHeartbeats 4000000 in
theorem wb_M_clock_50 {p : Program} {l : Launch} {e : Env} {R : Room} {s : State} {m : MethodId} {args : Array Value} {below : List Frame} {meth : Method} {c : Code} {D : va_G} {cl : List vw_C} {cB cI cJ cZ cS : ClassId} {A : Nat → Prop} {iM h0 : Nat} {ad : Nat → Nat} (C0 : MCx p s m args meth c b_M_clock 2 (some .int) D cl cB cI cJ cZ cS iM A) (hR : R = rm_M_clock) (N : Nat) (G : Unit) (hG : True) : ∀ (u : MS) (v1 : Int32) (t1 : Int32) (x : MS × Int32), fb_M_clock_50 N G u v1 t1 = some x → ∀ (H : Heap) (locs : List Loc), va_P D cl (wM cB cI cJ cZ cS iM h0 ad u) H → va_D A (wM cB cI cJ cZ cS iM h0 ad u) → va_S A s.heap H locs → ∀ (ls : Array Slot), lv_has ls 2 [(0, .ref h0), (1, .int v1)] → W p l e R s m args below meth c H locs 0 0 (MQ below (mQi D cl cB cI cJ cZ cS iM h0 ad A x) args s 0 0 A) (F0 m 50 ls [.int t1, .ref h0]) := by
  intro u v1 t1 x hf H locs hP hD hS ls hl
  obtain ⟨hx, hb, hr, hml, ht, hown, hM, hK, hA, hlocks⟩ := id C0
  unfold fb_M_clock_50 at hf
  refine up_I hx hb ht hown hM hK hP hD hS 3 (by decide) lk_M_3 (by decide) rfl rfl rfl d_M_clock_50 (fun H locs hP hD hS => ?_)
  refine lv_aload_n hx hb d_M_clock_53 rfl (lv_at hl 0 rfl) ?_
  refine ug_I hx hb ht hown hM hK hP 3 (by decide) lk_M_3 (by decide) d_M_clock_54 ?_
  refine lv_if_eq (tgt := 62) hx hb d_M_clock_57 (by decide) (fun hc => ?_) (fun hc => ?_)
  · rw [br_p _ hc] at hf
    refine lv_aload_n hx hb d_M_clock_62 rfl (lv_at hl 0 rfl) ?_
    refine lv_dup hx hb d_M_clock_63 rfl ?_
    refine ug_I hx hb ht hown hM hK hP 120 (by decide) lk_M_120 (by decide) d_M_clock_64 ?_
    refine lv_iload_n hx hb d_M_clock_67 rfl (lv_at hl 1 rfl) ?_
    refine lv_iadd hx hb d_M_clock_68 ?_
    refine up_I hx hb ht hown hM hK hP hD hS 120 (by decide) lk_M_120 (by decide) rfl rfl rfl d_M_clock_69 (fun H locs hP hD hS => ?_)
    refine lv_aload_n hx hb d_M_clock_72 rfl (lv_at hl 0 rfl) ?_
    refine ug_I hx hb ht hown hM hK hP 120 (by decide) lk_M_120 (by decide) d_M_clock_73 ?_
    exact mr_i C0 hP hD hS hf d_M_clock_76
  · rw [br_n _ hc] at hf
    refine lv_iconst (v := 0) hx hb d_M_clock_60 (by decide) ?_
    exact mr_i C0 hP hD hS hf d_M_clock_61
def fb_M_clock_38 (N : Nat) (G : Unit) (u : MS) (v1 : Int32) : Option (MS × Int32) := br (decide ((u.1 87) = 0)) (fb_M_clock_50 N G u (v1) (2)) (fb_M_clock_50 N G u (v1) (0))
set_option maxRecDepth 100000 in
set_option maxHeartbeats 4000000 in
theorem wb_M_clock_38 {p : Program} {l : Launch} {e : Env} {R : Room} {s : State} {m : MethodId} {args : Array Value} {below : List Frame} {meth : Method} {c : Code} {D : va_G} {cl : List vw_C} {cB cI cJ cZ cS : ClassId} {A : Nat → Prop} {iM h0 : Nat} {ad : Nat → Nat} (C0 : MCx p s m args meth c b_M_clock 2 (some .int) D cl cB cI cJ cZ cS iM A) (hR : R = rm_M_clock) (N : Nat) (G : Unit) (hG : True) : ∀ (u : MS) (v1 : Int32) (x : MS × Int32), fb_M_clock_38 N G u v1 = some x → ∀ (H : Heap) (locs : List Loc), va_P D cl (wM cB cI cJ cZ cS iM h0 ad u) H → va_D A (wM cB cI cJ cZ cS iM h0 ad u) → va_S A s.heap H locs → ∀ (ls : Array Slot), lv_has ls 2 [(0, .ref h0), (1, .int v1)] → W p l e R s m args below meth c H locs 0 0 (MQ below (mQi D cl cB cI cJ cZ cS iM h0 ad A x) args s 0 0 A) (F0 m 38 ls [.ref h0]) := by
  intro u v1 x hf H locs hP hD hS ls hl
  obtain ⟨hx, hb, hr, hml, ht, hown, hM, hK, hA, hlocks⟩ := id C0
  unfold fb_M_clock_38 at hf
  refine lv_aload_n hx hb d_M_clock_38 rfl (lv_at hl 0 rfl) ?_
  refine ug_I hx hb ht hown hM hK hP 87 (by decide) lk_M_87 (by decide) d_M_clock_39 ?_
  refine lv_if_ne (tgt := 49) hx hb d_M_clock_42 (by decide) (fun hc => ?_) (fun hc => ?_)
  · rw [br_n _ hc] at hf
    refine lv_iconst (v := 0) hx hb d_M_clock_49 (by decide) ?_
    exact wb_M_clock_50 C0 hR N G hG _ _ _ _ hf H locs hP hD hS ls (lv_sub hl [0, 1] rfl)
  · rw [br_p _ hc] at hf
    refine lv_iconst (v := 2) hx hb d_M_clock_45 (by decide) ?_
    refine lv_goto (tgt := 50) hx hb d_M_clock_46 (by decide) ?_
    exact wb_M_clock_50 C0 hR N G hG _ _ _ _ hf H locs hP hD hS ls (lv_sub hl [0, 1] rfl)
def fb_M_clock_34 (N : Nat) (G : Unit) (u : MS) (v1 : Int32) : Option (MS × Int32) := fb_M_clock_50 N G u (v1) (1)
set_option maxRecDepth 100000 in
set_option maxHeartbeats 4000000 in
theorem wb_M_clock_34 {p : Program} {l : Launch} {e : Env} {R : Room} {s : State} {m : MethodId} {args : Array Value} {below : List Frame} {meth : Method} {c : Code} {D : va_G} {cl : List vw_C} {cB cI cJ cZ cS : ClassId} {A : Nat → Prop} {iM h0 : Nat} {ad : Nat → Nat} (C0 : MCx p s m args meth c b_M_clock 2 (some .int) D cl cB cI cJ cZ cS iM A) (hR : R = rm_M_clock) (N : Nat) (G : Unit) (hG : True) : ∀ (u : MS) (v1 : Int32) (x : MS × Int32), fb_M_clock_34 N G u v1 = some x → ∀ (H : Heap) (locs : List Loc), va_P D cl (wM cB cI cJ cZ cS iM h0 ad u) H → va_D A (wM cB cI cJ cZ cS iM h0 ad u) → va_S A s.heap H locs → ∀ (ls : Array Slot), lv_has ls 2 [(0, .ref h0), (1, .int v1)] → W p l e R s m args below meth c H locs 0 0 (MQ below (mQi D cl cB cI cJ cZ cS iM h0 ad A x) args s 0 0 A) (F0 m 34 ls [.ref h0]) := by
  intro u v1 x hf H locs hP hD hS ls hl
  obtain ⟨hx, hb, hr, hml, ht, hown, hM, hK, hA, hlocks⟩ := id C0
  unfold fb_M_clock_34 at hf
  refine lv_iconst (v := 1) hx hb d_M_clock_34 (by decide) ?_
  refine lv_goto (tgt := 50) hx hb d_M_clock_35 (by decide) ?_
  exact wb_M_clock_50 C0 hR N G hG _ _ _ _ hf H locs hP hD hS ls (lv_sub hl [0, 1] rfl)
def fb_M_clock_0 (N : Nat) (G : Unit) (u : MS) (v1 : Int32) : Option (MS × Int32) := br (decide (v1 < 0)) (fb_M_clock_34 N G u (v1)) (br (decide (1000000000 < v1)) (fb_M_clock_34 N G u (v1)) (br (decide ((u.1 87) = 0)) (fb_M_clock_38 N G u (v1)) (br (decide ((lg_cmp ((u.1 120).toInt64 + v1.toInt64) 1000000000) ≤ 0)) (fb_M_clock_38 N G u (v1)) (fb_M_clock_34 N G u (v1)))))
set_option maxRecDepth 100000 in
set_option maxHeartbeats 4000000 in
theorem wb_M_clock_0 {p : Program} {l : Launch} {e : Env} {R : Room} {s : State} {m : MethodId} {args : Array Value} {below : List Frame} {meth : Method} {c : Code} {D : va_G} {cl : List vw_C} {cB cI cJ cZ cS : ClassId} {A : Nat → Prop} {iM h0 : Nat} {ad : Nat → Nat} (C0 : MCx p s m args meth c b_M_clock 2 (some .int) D cl cB cI cJ cZ cS iM A) (hR : R = rm_M_clock) (N : Nat) (G : Unit) (hG : True) : ∀ (u : MS) (v1 : Int32) (x : MS × Int32), fb_M_clock_0 N G u v1 = some x → ∀ (H : Heap) (locs : List Loc), va_P D cl (wM cB cI cJ cZ cS iM h0 ad u) H → va_D A (wM cB cI cJ cZ cS iM h0 ad u) → va_S A s.heap H locs → ∀ (ls : Array Slot), lv_has ls 2 [(0, .ref h0), (1, .int v1)] → W p l e R s m args below meth c H locs 0 0 (MQ below (mQi D cl cB cI cJ cZ cS iM h0 ad A x) args s 0 0 A) (F0 m 0 ls []) := by
  intro u v1 x hf H locs hP hD hS ls hl
  obtain ⟨hx, hb, hr, hml, ht, hown, hM, hK, hA, hlocks⟩ := id C0
  unfold fb_M_clock_0 at hf
  refine lv_aload_n hx hb d_M_clock_0 rfl (lv_at hl 0 rfl) ?_
  refine lv_iload_n hx hb d_M_clock_1 rfl (lv_at hl 1 rfl) ?_
  refine lv_if_lt (tgt := 34) hx hb d_M_clock_2 (by decide) (fun hc => ?_) (fun hc => ?_)
  · rw [br_p _ hc] at hf
    exact wb_M_clock_34 C0 hR N G hG _ _ _ hf H locs hP hD hS ls (lv_sub hl [0, 1] rfl)
  · rw [br_n _ hc] at hf
    refine lv_iload_n hx hb d_M_clock_5 rfl (lv_at hl 1 rfl) ?_
    refine lv_ldcw (v := 1000000000) hx hb hown (ht _ (wd_of 3252 (by decide +kernel) rfl)) d_M_clock_6 ?_
    refine lv_icmp_gt (tgt := 34) hx hb d_M_clock_9 (by decide) (fun hc => ?_) (fun hc => ?_)
    · rw [br_p _ hc] at hf
      exact wb_M_clock_34 C0 hR N G hG _ _ _ hf H locs hP hD hS ls (lv_sub hl [0, 1] rfl)
    · rw [br_n _ hc] at hf
      refine lv_aload_n hx hb d_M_clock_12 rfl (lv_at hl 0 rfl) ?_
      refine ug_I hx hb ht hown hM hK hP 87 (by decide) lk_M_87 (by decide) d_M_clock_13 ?_
      refine lv_if_eq (tgt := 38) hx hb d_M_clock_16 (by decide) (fun hc => ?_) (fun hc => ?_)
      · rw [br_p _ hc] at hf
        exact wb_M_clock_38 C0 hR N G hG _ _ _ hf H locs hP hD hS ls (lv_sub hl [0, 1] rfl)
      · rw [br_n _ hc] at hf
        refine lv_aload_n hx hb d_M_clock_19 rfl (lv_at hl 0 rfl) ?_
        refine ug_I hx hb ht hown hM hK hP 120 (by decide) lk_M_120 (by decide) d_M_clock_20 ?_
        refine lv_i2l hx hb d_M_clock_23 rfl ?_
        refine lv_iload_n hx hb d_M_clock_24 rfl (lv_at hl 1 rfl) ?_
        refine lv_i2l hx hb d_M_clock_25 rfl ?_
        refine lv_ladd hx hb d_M_clock_26 ?_
        refine lv_ldc2 (v := 1000000000) hx hb hown (ht _ (wd_of 3253 (by decide +kernel) rfl)) d_M_clock_27 ?_
        refine W.lcmp hx hb d_M_clock_30 ?_
        refine lv_if_le (tgt := 38) hx hb d_M_clock_31 (by decide) (fun hc => ?_) (fun hc => ?_)
        · rw [br_p _ hc] at hf
          exact wb_M_clock_38 C0 hR N G hG _ _ _ hf H locs hP hD hS ls (lv_sub hl [0, 1] rfl)
        · rw [br_n _ hc] at hf
          exact wb_M_clock_34 C0 hR N G hG _ _ _ hf H locs hP hD hS ls (lv_sub hl [0, 1] rfl)
def fm_M_clock (N : Nat) (u : MS) (v1 : Int32) : Option (MS × Int32) := fb_M_clock_0 N () u v1
set_option maxRecDepth 100000 in
set_option maxHeartbeats 4000000 in
theorem c_M_clock (N : Nat) {l : Launch} {D : va_G} {cl : List vw_C} {cB cI cJ cZ cS : ClassId} {iM h0 : Nat} {ad : Nat → Nat} {u : MS} {sz : Nat} {v1 : Int32} {x : MS × Int32} (hM : cl[iM]? = some (R_M, F_M, 171)) (hf : fm_M_clock N u v1 = some x) : Met l y_M_clock (wd_ws y_M_clock b_M_clock 2 (some .int)) rm_M_clock (mPc D cl cB cI cJ cZ cS iM h0 ad u sz [.ref h0, .int v1]) (mQi D cl cB cI cJ cZ cS iM h0 ad (mA cB cI cJ cZ cS iM h0 ad u sz) x) 0 0 (mA cB cI cJ cZ cS iM h0 ad u sz) :=
  mMet (by decide) rfl hM (Nat.le_of_ble_eq_true rfl) (fun p e s m below meth c ls hsz C0 hP hD hS hl => by
    have hR : rm_M_clock = rm_M_clock := rfl
    exact wb_M_clock_0 C0 hR N () trivial u _ x hf s.heap [] hP hD hS ls (lv_sub hl [0, 1] rfl))
