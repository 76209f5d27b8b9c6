abbrev b_Wl_print : ByteArray := prog_12_method_11_code
def y_Wl_print : MethodName := ⟨R_Wl, "print", "([JJ)V"⟩
def w_Wl_print : List Cond := wd_ws y_Wl_print b_Wl_print 4 none
set_option maxRecDepth 100000 in
theorem k_Wl_print : Cond.code y_Wl_print b_Wl_print 4 none ∈ wd_tbl := wd_of 1760 rfl rfl
theorem d_Wl_print_0 : decode b_Wl_print 0 = .ok (.aload_n 0, 1) := by decide +kernel
theorem d_Wl_print_1 : decode b_Wl_print 1 = .ok (.getfield 61, 3) := by decide +kernel
theorem d_Wl_print_4 : decode b_Wl_print 4 = .ok (.sipush 200, 3) := by decide +kernel
theorem d_Wl_print_7 : decode b_Wl_print 7 = .ok (.if_icmp .ge 42, 3) := by decide +kernel
theorem d_Wl_print_10 : decode b_Wl_print 10 = .ok (.aload_n 0, 1) := by decide +kernel
theorem d_Wl_print_11 : decode b_Wl_print 11 = .ok (.getfield 31, 3) := by decide +kernel
theorem d_Wl_print_14 : decode b_Wl_print 14 = .ok (.aload_n 0, 1) := by decide +kernel
theorem d_Wl_print_15 : decode b_Wl_print 15 = .ok (.getfield 61, 3) := by decide +kernel
theorem d_Wl_print_18 : decode b_Wl_print 18 = .ok (.aload_n 0, 1) := by decide +kernel
theorem d_Wl_print_19 : decode b_Wl_print 19 = .ok (.getfield 37, 3) := by decide +kernel
theorem d_Wl_print_22 : decode b_Wl_print 22 = .ok (.aload_n 1, 1) := by decide +kernel
theorem d_Wl_print_23 : decode b_Wl_print 23 = .ok (.lload_n 2, 1) := by decide +kernel
theorem d_Wl_print_24 : decode b_Wl_print 24 = .ok (.aload_n 0, 1) := by decide +kernel
theorem d_Wl_print_25 : decode b_Wl_print 25 = .ok (.getfield 27, 3) := by decide +kernel
theorem d_Wl_print_28 : decode b_Wl_print 28 = .ok (.aload_n 0, 1) := by decide +kernel
theorem d_Wl_print_29 : decode b_Wl_print 29 = .ok (.getfield 61, 3) := by decide +kernel
theorem d_Wl_print_32 : decode b_Wl_print 32 = .ok (.bipush 100, 2) := by decide +kernel
theorem d_Wl_print_34 : decode b_Wl_print 34 = .ok (.imul, 1) := by decide +kernel
theorem d_Wl_print_35 : decode b_Wl_print 35 = .ok (.invokevirtual 98, 3) := by decide +kernel
theorem d_Wl_print_38 : decode b_Wl_print 38 = .ok (.iastore, 1) := by decide +kernel
theorem d_Wl_print_39 : decode b_Wl_print 39 = .ok (.aload_n 0, 1) := by decide +kernel
theorem d_Wl_print_40 : decode b_Wl_print 40 = .ok (.dup, 1) := by decide +kernel
theorem d_Wl_print_41 : decode b_Wl_print 41 = .ok (.getfield 61, 3) := by decide +kernel
theorem d_Wl_print_44 : decode b_Wl_print 44 = .ok (.iconst 1, 1) := by decide +kernel
theorem d_Wl_print_45 : decode b_Wl_print 45 = .ok (.iadd, 1) := by decide +kernel
theorem d_Wl_print_46 : decode b_Wl_print 46 = .ok (.putfield 61, 3) := by decide +kernel
theorem d_Wl_print_49 : decode b_Wl_print 49 = .ok (.return_, 1) := by decide +kernel
set_option maxRecDepth 100000 in
theorem hi_Wl_print : Cond.instanceMethod y_Wl_print ∈ wd_tbl := wd_of 1758 (by decide +kernel) rfl
set_option maxRecDepth 100000 in
theorem hs_Wl_print : Cond.selects R_Wl y_Wl_print y_Wl_print ∈ wd_tbl := wd_of 1759 (by decide +kernel) rfl
theorem hd_Wl_print : y_Wl_print.cls = R_Wl ∧ y_Wl_print.cls ≠ "java/lang/invoke/MethodHandle" ∧ y_Wl_print.cls ≠ "java/lang/invoke/VarHandle" ∧ (parseMethodDescriptor y_Wl_print.desc).map (fun d => d.parameters.length) = some 2 := by decide +kernel
def rm_Wl_print : Room := { frames := 4, cells := 0, slots := 0, locals := 102 }
theorem rm_Wl_print_Te_text : (rm_Te_text).frames + 1 ≤ rm_Wl_print.frames ∧ 8 + (11 + 11) + (rm_Te_text).locals ≤ rm_Wl_print.locals := by
  show 3 + 1 ≤ 4 ∧ 8 + (11 + 11) + 72 ≤ 102
  decide
def fb_Wl_print_49 (N : Nat) (G : Unit) (u : CS) : Option (CS × Unit) := some (u, ())
set_option maxRecDepth 100000 in
set_option maxHeartbeats 4000000 in
theorem wb_Wl_print_49 {p : Program} {l : Launch} {e : Env} {s : State} {m : MethodId} {args : Array Value} {below : List Frame} {meth : Method} {c : Code} {s0 : State} {b0 : Nat} {D : va_G} {cB cI cJ cZ cS cP : ClassId} {A : Nat → Prop} {sk sv : Nat → Nat} {ad : Nat → Nat} (C0 : XCx p s s0 b0 m args meth c R_Wl b_Wl_print 4 none D cB cI cJ cZ cS cP A) (hE : ENV s0 b0 sk sv) (N : Nat) (G : Unit) (hG : True) : ∀ (u : CS) (x : CS × Unit), fb_Wl_print_49 N G u = some x → ∀ (H : Heap) (locs : List Loc), va_P D cls (wC cB cI cJ cZ cS cP ad u) H → va_D A (wC cB cI cJ cZ cS cP ad u) → va_S A s.heap H locs → ∀ (ls : Array Slot), lv_has ls 4 [] → W p l e rm_Wl_print s m args below meth c H locs 0 0 (MQ below (xQ0 D cB cI cJ cZ cS cP A ad x.1 none) args s 0 0 A) (F0 m 49 ls []) := by
  intro u x hf H locs hP hD hS ls hl
  obtain ⟨hx, hb, hr, hml, ht, hown, hK, hA, hlocks, hA0, hO, hbs⟩ := id C0
  unfold fb_Wl_print_49 at hf
  exact xr0_v C0 hP hD hS hf d_Wl_print_49
def fb_Wl_print_0 (N : Nat) (G : Unit) (u : CS) (v0 : Nat) (v1 : Option Nat) (v2 : Int64) : Option (CS × Unit) := bo (gI u v0 12 13) (fun r1 => br (decide (200 ≤ r1)) (fb_Wl_print_49 N G u) (bo (gR u v0 12 12) (fun r2 => bo (gI u v0 12 13) (fun r3 => bo (gR u v0 12 0) (fun r4 => bo (gR u v0 12 11) (fun r5 => bo (gI u v0 12 13) (fun r6 => bo r4 (fun j8 => ck (isO u j8 8) (bx (fm_Te_text N u j8 v1 v2 r5 (r6 * 100)) (fun u7 r7 => bo r2 (fun j9 => bo (sI u7 j9 4 r3 r7) (fun w10 => bo (gI w10 v0 12 13) (fun r11 => bo (pF w10 v0 12 13 (.inl (r11 + 1))) (fun w12 => fb_Wl_print_49 N G w12))))))))))))))
set_option maxRecDepth 100000 in
set_option maxHeartbeats 4000000 in
theorem wb_Wl_print_0 {p : Program} {l : Launch} {e : Env} {s : State} {m : MethodId} {args : Array Value} {below : List Frame} {meth : Method} {c : Code} {s0 : State} {b0 : Nat} {D : va_G} {cB cI cJ cZ cS cP : ClassId} {A : Nat → Prop} {sk sv : Nat → Nat} {ad : Nat → Nat} (C0 : XCx p s s0 b0 m args meth c R_Wl b_Wl_print 4 none D cB cI cJ cZ cS cP A) (hE : ENV s0 b0 sk sv) (N : Nat) (G : Unit) (hG : True) : ∀ (u : CS) (v0 : Nat) (v1 : Option Nat) (v2 : Int64) (x : CS × Unit), fb_Wl_print_0 N G u v0 v1 v2 = some x → ∀ (H : Heap) (locs : List Loc), va_P D cls (wC cB cI cJ cZ cS cP ad u) H → va_D A (wC cB cI cJ cZ cS cP ad u) → va_S A s.heap H locs → ∀ (ls : Array Slot), lv_has ls 4 [(0, .ref (ad v0)), (1, va_rf (Option.map ad v1)), (2, .long v2)] → W p l e rm_Wl_print s m args below meth c H locs 0 0 (MQ below (xQ0 D cB cI cJ cZ cS cP A ad x.1 none) args s 0 0 A) (F0 m 0 ls []) := by
  intro u v0 v1 v2 x hf H locs hP hD hS ls hl
  obtain ⟨hx, hb, hr, hml, ht, hown, hK, hA, hlocks, hA0, hO, hbs⟩ := id C0
  unfold fb_Wl_print_0 at hf
  refine lv_aload_n hx hb d_Wl_print_0 rfl (lv_at hl 0 rfl) ?_
  obtain ⟨r1, g1, hf⟩ := bo_some hf
  refine xg_I (i := v0) (k := 13) hx hb ht hown ck_Wl hK hP (by decide) fk_Wl_61 g1 d_Wl_print_1 ?_
  refine lv_sipush (v := 200) hx hb d_Wl_print_4 (by decide) ?_
  refine lv_icmp_ge (tgt := 49) hx hb d_Wl_print_7 (by decide) (fun hc => ?_) (fun hc => ?_)
  · rw [br_p _ hc] at hf
    exact wb_Wl_print_49 C0 hE N G hG _ _ hf H locs hP hD hS ls (lv_sub hl [] rfl)
  · rw [br_n _ hc] at hf
    refine lv_aload_n hx hb d_Wl_print_10 rfl (lv_at hl 0 rfl) ?_
    obtain ⟨r2, g2, hf⟩ := bo_some hf
    refine xg_R (i := v0) (k := 12) hx hb ht hown ck_Wl hK hP (by decide) fk_Wl_31 g2 d_Wl_print_11 ?_
    refine lv_aload_n hx hb d_Wl_print_14 rfl (lv_at hl 0 rfl) ?_
    obtain ⟨r3, g3, hf⟩ := bo_some hf
    refine xg_I (i := v0) (k := 13) hx hb ht hown ck_Wl hK hP (by decide) fk_Wl_61 g3 d_Wl_print_15 ?_
    refine lv_aload_n hx hb d_Wl_print_18 rfl (lv_at hl 0 rfl) ?_
    obtain ⟨r4, g4, hf⟩ := bo_some hf
    refine xg_R (i := v0) (k := 0) hx hb ht hown ck_Wl hK hP (by decide) fk_Wl_37 g4 d_Wl_print_19 ?_
    refine x_aload_n hx hb d_Wl_print_22 rfl (lv_at hl 1 rfl) ?_
    refine lv_lload_n hx hb d_Wl_print_23 rfl (lv_at hl 2 rfl) ?_
    refine lv_aload_n hx hb d_Wl_print_24 rfl (lv_at hl 0 rfl) ?_
    obtain ⟨r5, g5, hf⟩ := bo_some hf
    refine xg_R (i := v0) (k := 11) hx hb ht hown ck_Wl hK hP (by decide) fk_Wl_27 g5 d_Wl_print_25 ?_
    refine lv_aload_n hx hb d_Wl_print_28 rfl (lv_at hl 0 rfl) ?_
    obtain ⟨r6, g6, hf⟩ := bo_some hf
    refine xg_I (i := v0) (k := 13) hx hb ht hown ck_Wl hK hP (by decide) fk_Wl_61 g6 d_Wl_print_29 ?_
    refine lv_bipush (v := 100) hx hb d_Wl_print_32 (by decide) ?_
    refine lv_imul hx hb d_Wl_print_34 ?_
    obtain ⟨j8, ej8, hf⟩ := bo_some hf
    rw [ej8]
    obtain ⟨hO9, hf⟩ := ck_some hf
    obtain ⟨u7, r7, hc7, hf⟩ := bx_some hf
    refine xV0 (i := j8) (As := [va_rf (Option.map ad v1), .long v2, va_rf (Option.map ad r5), .int (r6 * 100)]) (rest := [.int r3, va_rf (Option.map ad r2)]) C0 hP hD hS ck_Te hO9 (c_Te_text N hE hc7) k_Te_text (wd_of 1761 (by decide +kernel) rfl) hi_Te_text hs_Te_text hini_Te rfl rfl hd_Te_text rfl rm_Wl_print_Te_text hl.1 (c8 (Nat.le_of_ble_eq_true rfl)) d_Wl_print_35 rfl ⟨Nat.zero_le _, Nat.zero_le _⟩ (fun H locs hP hD hS => ?_)
    obtain ⟨j9, ej9, hf⟩ := bo_some hf
    rw [ej9]
    obtain ⟨w10, g10, hf⟩ := bo_some hf
    refine xs_I (i := j9) hx hb hK hP hD hS g10 d_Wl_print_38 (fun H locs hP hD hS => ?_)
    refine lv_aload_n hx hb d_Wl_print_39 rfl (lv_at hl 0 rfl) ?_
    refine lv_dup hx hb d_Wl_print_40 rfl ?_
    obtain ⟨r11, g11, hf⟩ := bo_some hf
    refine xg_I (i := v0) (k := 13) hx hb ht hown ck_Wl hK hP (by decide) fk_Wl_61 g11 d_Wl_print_41 ?_
    refine lv_iconst (v := 1) hx hb d_Wl_print_44 (by decide) ?_
    refine lv_iadd hx hb d_Wl_print_45 ?_
    obtain ⟨w12, g12, hf⟩ := bo_some hf
    refine xp (i := v0) (k := 13) (v := (.inl (r11 + 1))) hx hb ht hown ck_Wl hK hP hD hS (by decide) fk_Wl_61 rfl g12 rfl rfl d_Wl_print_46 (fun H locs hP hD hS => ?_)
    exact wb_Wl_print_49 C0 hE N G hG _ _ hf H locs hP hD hS ls (lv_sub hl [] rfl)
def fm_Wl_print (N : Nat) (u : CS) (v0 : Nat) (v1 : Option Nat) (v2 : Int64) : Option (CS × Unit) := fb_Wl_print_0 N () u v0 v1 v2
set_option maxRecDepth 100000 in
set_option maxHeartbeats 4000000 in
theorem c_Wl_print (N : Nat) {l : Launch} {s0 : State} {b0 : Nat} {D : va_G} {cB cI cJ cZ cS cP : ClassId} {sk sv : Nat → Nat} {ad : Nat → Nat} {u : CS} {sz : Nat} {v0 : Nat} {v1 : Option Nat} {v2 : Int64} {x : CS × Unit} (hE : ENV s0 b0 sk sv) (hf : fm_Wl_print N u v0 v1 v2 = some x) : Met l y_Wl_print (wd_ws y_Wl_print b_Wl_print 4 none) rm_Wl_print (xPc s0 b0 D cB cI cJ cZ cS cP ad u sz [.ref (ad v0), va_rf (Option.map ad v1), .long v2]) (xQ0 D cB cI cJ cZ cS cP (xA cB cI cJ cZ cS cP ad u sz) ad x.1 none) 0 0 (xA cB cI cJ cZ cS cP ad u sz) :=
  xMet (by decide) rfl (by cases v1 <;> exact Nat.le_of_ble_eq_true rfl) (fun p e s m below meth c ls hsz hnm C0 hP hD hS hl =>
    wb_Wl_print_0 C0 hE N () trivial u _ _ _ x hf s.heap [] hP hD hS ls (by rw [show lv_args 0 [.ref (ad v0), va_rf (Option.map ad v1), .long v2] = [(0, .ref (ad v0)), (1, va_rf (Option.map ad v1)), (2, .long v2)] from by cases v1 <;> rfl] at hl; exact lv_sub hl [0, 1, 2] rfl))
abbrev b_Wl_named : ByteArray := prog_12_method_6_code
def y_Wl_named : MethodName := ⟨R_Wl, "named", "(I)LMailHouse$Process;"⟩
def w_Wl_named : List Cond := wd_ws y_Wl_named b_Wl_named 4 (some (.object "MailHouse$Process"))
set_option maxRecDepth 100000 in
theorem k_Wl_named : Cond.code y_Wl_named b_Wl_named 4 (some (.object "MailHouse$Process")) ∈ wd_tbl := wd_of 1769 rfl rfl
theorem d_Wl_named_0 : decode b_Wl_named 0 = .ok (.iconst 0, 1) := by decide +kernel
theorem d_Wl_named_1 : decode b_Wl_named 1 = .ok (.istore_n 2, 1) := by decide +kernel
theorem d_Wl_named_2 : decode b_Wl_named 2 = .ok (.iload_n 2, 1) := by decide +kernel
theorem d_Wl_named_3 : decode b_Wl_named 3 = .ok (.aload_n 0, 1) := by decide +kernel
theorem d_Wl_named_4 : decode b_Wl_named 4 = .ok (.getfield 41, 3) := by decide +kernel
theorem d_Wl_named_7 : decode b_Wl_named 7 = .ok (.if_icmp .ge 38, 3) := by decide +kernel
theorem d_Wl_named_10 : decode b_Wl_named 10 = .ok (.aload_n 0, 1) := by decide +kernel
theorem d_Wl_named_11 : decode b_Wl_named 11 = .ok (.getfield 11, 3) := by decide +kernel
theorem d_Wl_named_14 : decode b_Wl_named 14 = .ok (.iload_n 2, 1) := by decide +kernel
theorem d_Wl_named_15 : decode b_Wl_named 15 = .ok (.aaload, 1) := by decide +kernel
theorem d_Wl_named_16 : decode b_Wl_named 16 = .ok (.astore_n 3, 1) := by decide +kernel
theorem d_Wl_named_17 : decode b_Wl_named 17 = .ok (.aload_n 3, 1) := by decide +kernel
theorem d_Wl_named_18 : decode b_Wl_named 18 = .ok (.ifnull 21, 3) := by decide +kernel
theorem d_Wl_named_21 : decode b_Wl_named 21 = .ok (.aload_n 3, 1) := by decide +kernel
theorem d_Wl_named_22 : decode b_Wl_named 22 = .ok (.getfield 88, 3) := by decide +kernel
theorem d_Wl_named_25 : decode b_Wl_named 25 = .ok (.iload_n 1, 1) := by decide +kernel
theorem d_Wl_named_26 : decode b_Wl_named 26 = .ok (.if_icmp .ne 13, 3) := by decide +kernel
theorem d_Wl_named_29 : decode b_Wl_named 29 = .ok (.aload_n 3, 1) := by decide +kernel
theorem d_Wl_named_30 : decode b_Wl_named 30 = .ok (.getfield 91, 3) := by decide +kernel
theorem d_Wl_named_33 : decode b_Wl_named 33 = .ok (.iconst 3, 1) := by decide +kernel
theorem d_Wl_named_34 : decode b_Wl_named 34 = .ok (.if_icmp .eq 5, 3) := by decide +kernel
theorem d_Wl_named_37 : decode b_Wl_named 37 = .ok (.aload_n 3, 1) := by decide +kernel
theorem d_Wl_named_38 : decode b_Wl_named 38 = .ok (.areturn, 1) := by decide +kernel
theorem d_Wl_named_39 : decode b_Wl_named 39 = .ok (.iinc 2 1, 3) := by decide +kernel
theorem d_Wl_named_42 : decode b_Wl_named 42 = .ok (.goto (-40), 3) := by decide +kernel
theorem d_Wl_named_45 : decode b_Wl_named 45 = .ok (.aconst_null, 1) := by decide +kernel
theorem d_Wl_named_46 : decode b_Wl_named 46 = .ok (.areturn, 1) := by decide +kernel
set_option maxRecDepth 100000 in
theorem hi_Wl_named : Cond.instanceMethod y_Wl_named ∈ wd_tbl := wd_of 1767 (by decide +kernel) rfl
set_option maxRecDepth 100000 in
theorem hs_Wl_named : Cond.selects R_Wl y_Wl_named y_Wl_named ∈ wd_tbl := wd_of 1768 (by decide +kernel) rfl
theorem hd_Wl_named : y_Wl_named.cls = R_Wl ∧ y_Wl_named.cls ≠ "java/lang/invoke/MethodHandle" ∧ y_Wl_named.cls ≠ "java/lang/invoke/VarHandle" ∧ (parseMethodDescriptor y_Wl_named.desc).map (fun d => d.parameters.length) = some 1 := by decide +kernel
def rm_Wl_named : Room := { frames := 0, cells := 0, slots := 0, locals := 0 }
def fb_Wl_named_39 (N : Nat) (G : (CS → Nat → Int32 → Int32 → Option (CS × Option Nat))) (u : CS) (v0 : Nat) (v1 : Int32) (v2 : Int32) : Option (CS × Option Nat) := G u (v0) (v1) ((v2 + 1))
set_option maxRecDepth 100000 in
set_option maxHeartbeats 4000000 in
theorem wb_Wl_named_39 {p : Program} {l : Launch} {e : Env} {s : State} {m : MethodId} {args : Array Value} {below : List Frame} {meth : Method} {c : Code} {s0 : State} {b0 : Nat} {D : va_G} {cB cI cJ cZ cS cP : ClassId} {A : Nat → Prop} {sk sv : Nat → Nat} {ad : Nat → Nat} (C0 : XCx p s s0 b0 m args meth c R_Wl b_Wl_named 4 (some (.object "MailHouse$Process")) D cB cI cJ cZ cS cP A) (hE : ENV s0 b0 sk sv) (N : Nat) (G : (CS → Nat → Int32 → Int32 → Option (CS × Option Nat))) (hG : (∀ (u : CS) (v0 : Nat) (v1 : Int32) (v2 : Int32) (x : CS × Option Nat), G u v0 v1 v2 = some x → ∀ (H : Heap) (locs : List Loc), va_P D cls (wC cB cI cJ cZ cS cP ad u) H → va_D A (wC cB cI cJ cZ cS cP ad u) → va_S A s.heap H locs → ∀ (ls : Array Slot), lv_has ls 4 [(0, .ref (ad v0)), (1, .int v1), (2, .int v2)] → W p l e rm_Wl_named s m args below meth c H locs 0 0 (MQ below (xQ0 D cB cI cJ cZ cS cP A ad x.1 (some (.inr (.inr x.2)))) args s 0 0 A) (F0 m 2 ls []))) : ∀ (u : CS) (v0 : Nat) (v1 : Int32) (v2 : Int32) (x : CS × Option Nat), fb_Wl_named_39 N G u v0 v1 v2 = some x → ∀ (H : Heap) (locs : List Loc), va_P D cls (wC cB cI cJ cZ cS cP ad u) H → va_D A (wC cB cI cJ cZ cS cP ad u) → va_S A s.heap H locs → ∀ (ls : Array Slot), lv_has ls 4 [(0, .ref (ad v0)), (1, .int v1), (2, .int v2)] → W p l e rm_Wl_named s m args below meth c H locs 0 0 (MQ below (xQ0 D cB cI cJ cZ cS cP A ad x.1 (some (.inr (.inr x.2)))) args s 0 0 A) (F0 m 39 ls []) := by
  intro u v0 v1 v2 x hf H locs hP hD hS ls hl
  obtain ⟨hx, hb, hr, hml, ht, hown, hK, hA, hlocks, hA0, hO, hbs⟩ := id C0
  unfold fb_Wl_named_39 at hf
  refine lv_iinc (v := (v2 + 1)) (lv' := [(2, .int (v2 + 1)), (0, .ref (ad v0)), (1, .int v1)]) hx hb d_Wl_named_39 hl (k := 2) rfl rfl (by decide) (by first | rfl | simp [List.filter, cat_rf]) (fun ls hl => ?_)
  refine lv_goto (tgt := 2) hx hb d_Wl_named_42 (by decide) ?_
  exact hG _ _ _ _ _ hf H locs hP hD hS ls (lv_sub hl [1, 2, 0] rfl)
def fb_Wl_named_2 (N : Nat) (G : (CS → Nat → Int32 → Int32 → Option (CS × Option Nat))) (u : CS) (v0 : Nat) (v1 : Int32) (v2 : Int32) : Option (CS × Option Nat) := bo (gI u v0 12 2) (fun r1 => br (decide (r1 ≤ v2)) (some (u, none)) (bo (gR u v0 12 1) (fun r2 => bo r2 (fun j3 => bo (aP u j3 v2) (fun r4 => br (decide (r4 = none)) (fb_Wl_named_39 N G u (v0) (v1) (v2)) (bo r4 (fun j5 => bo (gI u j5 7 12) (fun r6 => br (decide (r6 = v1)) (bo r4 (fun j7 => bo (gI u j7 7 9) (fun r8 => br (decide (r8 = 3)) (fb_Wl_named_39 N G u (v0) (v1) (v2)) (some (u, r4))))) (fb_Wl_named_39 N G u (v0) (v1) (v2))))))))))
set_option maxRecDepth 100000 in
set_option maxHeartbeats 4000000 in
theorem wb_Wl_named_2 {p : Program} {l : Launch} {e : Env} {s : State} {m : MethodId} {args : Array Value} {below : List Frame} {meth : Method} {c : Code} {s0 : State} {b0 : Nat} {D : va_G} {cB cI cJ cZ cS cP : ClassId} {A : Nat → Prop} {sk sv : Nat → Nat} {ad : Nat → Nat} (C0 : XCx p s s0 b0 m args meth c R_Wl b_Wl_named 4 (some (.object "MailHouse$Process")) D cB cI cJ cZ cS cP A) (hE : ENV s0 b0 sk sv) (N : Nat) (G : (CS → Nat → Int32 → Int32 → Option (CS × Option Nat))) (hG : (∀ (u : CS) (v0 : Nat) (v1 : Int32) (v2 : Int32) (x : CS × Option Nat), G u v0 v1 v2 = some x → ∀ (H : Heap) (locs : List Loc), va_P D cls (wC cB cI cJ cZ cS cP ad u) H → va_D A (wC cB cI cJ cZ cS cP ad u) → va_S A s.heap H locs → ∀ (ls : Array Slot), lv_has ls 4 [(0, .ref (ad v0)), (1, .int v1), (2, .int v2)] → W p l e rm_Wl_named s m args below meth c H locs 0 0 (MQ below (xQ0 D cB cI cJ cZ cS cP A ad x.1 (some (.inr (.inr x.2)))) args s 0 0 A) (F0 m 2 ls []))) : ∀ (u : CS) (v0 : Nat) (v1 : Int32) (v2 : Int32) (x : CS × Option Nat), fb_Wl_named_2 N G u v0 v1 v2 = some x → ∀ (H : Heap) (locs : List Loc), va_P D cls (wC cB cI cJ cZ cS cP ad u) H → va_D A (wC cB cI cJ cZ cS cP ad u) → va_S A s.heap H locs → ∀ (ls : Array Slot), lv_has ls 4 [(0, .ref (ad v0)), (1, .int v1), (2, .int v2)] → W p l e rm_Wl_named s m args below meth c H locs 0 0 (MQ below (xQ0 D cB cI cJ cZ cS cP A ad x.1 (some (.inr (.inr x.2)))) args s 0 0 A) (F0 m 2 ls []) := by
  intro u v0 v1 v2 x hf H locs hP hD hS ls hl
  obtain ⟨hx, hb, hr, hml, ht, hown, hK, hA, hlocks, hA0, hO, hbs⟩ := id C0
  unfold fb_Wl_named_2 at hf
  refine lv_iload_n hx hb d_Wl_named_2 rfl (lv_at hl 2 rfl) ?_
  refine lv_aload_n hx hb d_Wl_named_3 rfl (lv_at hl 0 rfl) ?_
  obtain ⟨r1, g1, hf⟩ := bo_some hf
  refine xg_I (i := v0) (k := 2) hx hb ht hown ck_Wl hK hP (by decide) fk_Wl_41 g1 d_Wl_named_4 ?_
  refine lv_icmp_ge (tgt := 45) hx hb d_Wl_named_7 (by decide) (fun hc => ?_) (fun hc => ?_)
  · rw [br_p _ hc] at hf
    refine lv_null hx hb d_Wl_named_45 ?_
    exact xr0_r (v := none) C0 hP hD hS hf d_Wl_named_46
  · rw [br_n _ hc] at hf
    refine lv_aload_n hx hb d_Wl_named_10 rfl (lv_at hl 0 rfl) ?_
    obtain ⟨r2, g2, hf⟩ := bo_some hf
    refine xg_R (i := v0) (k := 1) hx hb ht hown ck_Wl hK hP (by decide) fk_Wl_11 g2 d_Wl_named_11 ?_
    refine lv_iload_n hx hb d_Wl_named_14 rfl (lv_at hl 2 rfl) ?_
    obtain ⟨j3, ej3, hf⟩ := bo_some hf
    rw [ej3]
    obtain ⟨r4, g4, hf⟩ := bo_some hf
    refine xl_P (i := j3) hx hb hK hP g4 d_Wl_named_15 ?_
    refine x_astore_n (lv' := [(3, va_rf (Option.map ad r4)), (0, .ref (ad v0)), (1, .int v1), (2, .int v2)]) hx hb d_Wl_named_16 rfl hl (by decide) (by first | rfl | simp [List.filter, cat_rf]) (fun ls hl => ?_)
    refine x_aload_n hx hb d_Wl_named_17 rfl (lv_at hl 0 rfl) ?_
    refine x_ifnull (r := r4) (tgt := 39) hx hb d_Wl_named_18 (by decide) (fun hc => ?_) (fun hc => ?_)
    · rw [br_p _ hc] at hf
      exact wb_Wl_named_39 C0 hE N G hG _ _ _ _ _ hf H locs hP hD hS ls (lv_sub hl [1, 2, 3] rfl)
    · rw [br_n _ hc] at hf
      refine x_aload_n hx hb d_Wl_named_21 rfl (lv_at hl 0 rfl) ?_
      obtain ⟨j5, ej5, hf⟩ := bo_some hf
      rw [ej5]
      obtain ⟨r6, g6, hf⟩ := bo_some hf
      refine xg_I (i := j5) (k := 12) hx hb ht hown ck_Pr hK hP (by decide) fk_Wl_88 g6 d_Wl_named_22 ?_
      refine lv_iload_n hx hb d_Wl_named_25 rfl (lv_at hl 2 rfl) ?_
      refine lv_icmp_ne (tgt := 39) hx hb d_Wl_named_26 (by decide) (fun hc => ?_) (fun hc => ?_)
      · rw [br_n _ hc] at hf
        exact wb_Wl_named_39 C0 hE N G hG _ _ _ _ _ hf H locs hP hD hS ls (lv_sub hl [1, 2, 3] rfl)
      · rw [br_p _ hc] at hf
        refine x_aload_n hx hb d_Wl_named_29 rfl (lv_at hl 0 rfl) ?_
        obtain ⟨j7, ej7, hf⟩ := bo_some hf
        rw [ej7]
        obtain ⟨r8, g8, hf⟩ := bo_some hf
        refine xg_I (i := j7) (k := 9) hx hb ht hown ck_Pr hK hP (by decide) fk_Wl_91 g8 d_Wl_named_30 ?_
        refine lv_iconst (v := 3) hx hb d_Wl_named_33 (by decide) ?_
        refine lv_icmp_eq (tgt := 39) hx hb d_Wl_named_34 (by decide) (fun hc => ?_) (fun hc => ?_)
        · rw [br_p _ hc] at hf
          exact wb_Wl_named_39 C0 hE N G hG _ _ _ _ _ hf H locs hP hD hS ls (lv_sub hl [1, 2, 3] rfl)
        · rw [br_n _ hc] at hf
          refine x_aload_n hx hb d_Wl_named_37 rfl (lv_at hl 0 rfl) ?_
          exact xr0_r (v := r4) C0 hP hD hS hf d_Wl_named_38
def fb_Wl_named_0 (N : Nat) (G : (CS → Nat → Int32 → Int32 → Option (CS × Option Nat))) (u : CS) (v0 : Nat) (v1 : Int32) : Option (CS × Option Nat) := G u (v0) (v1) (0)
set_option maxRecDepth 100000 in
set_option maxHeartbeats 4000000 in
theorem wb_Wl_named_0 {p : Program} {l : Launch} {e : Env} {s : State} {m : MethodId} {args : Array Value} {below : List Frame} {meth : Method} {c : Code} {s0 : State} {b0 : Nat} {D : va_G} {cB cI cJ cZ cS cP : ClassId} {A : Nat → Prop} {sk sv : Nat → Nat} {ad : Nat → Nat} (C0 : XCx p s s0 b0 m args meth c R_Wl b_Wl_named 4 (some (.object "MailHouse$Process")) D cB cI cJ cZ cS cP A) (hE : ENV s0 b0 sk sv) (N : Nat) (G : (CS → Nat → Int32 → Int32 → Option (CS × Option Nat))) (hG : (∀ (u : CS) (v0 : Nat) (v1 : Int32) (v2 : Int32) (x : CS × Option Nat), G u v0 v1 v2 = some x → ∀ (H : Heap) (locs : List Loc), va_P D cls (wC cB cI cJ cZ cS cP ad u) H → va_D A (wC cB cI cJ cZ cS cP ad u) → va_S A s.heap H locs → ∀ (ls : Array Slot), lv_has ls 4 [(0, .ref (ad v0)), (1, .int v1), (2, .int v2)] → W p l e rm_Wl_named s m args below meth c H locs 0 0 (MQ below (xQ0 D cB cI cJ cZ cS cP A ad x.1 (some (.inr (.inr x.2)))) args s 0 0 A) (F0 m 2 ls []))) : ∀ (u : CS) (v0 : Nat) (v1 : Int32) (x : CS × Option Nat), fb_Wl_named_0 N G u v0 v1 = some x → ∀ (H : Heap) (locs : List Loc), va_P D cls (wC cB cI cJ cZ cS cP ad u) H → va_D A (wC cB cI cJ cZ cS cP ad u) → va_S A s.heap H locs → ∀ (ls : Array Slot), lv_has ls 4 [(0, .ref (ad v0)), (1, .int v1)] → W p l e rm_Wl_named s m args below meth c H locs 0 0 (MQ below (xQ0 D cB cI cJ cZ cS cP A ad x.1 (some (.inr (.inr x.2)))) args s 0 0 A) (F0 m 0 ls []) := by
  intro u v0 v1 x hf H locs hP hD hS ls hl
  obtain ⟨hx, hb, hr, hml, ht, hown, hK, hA, hlocks, hA0, hO, hbs⟩ := id C0
  unfold fb_Wl_named_0 at hf
  refine lv_iconst (v := 0) hx hb d_Wl_named_0 (by decide) ?_
  refine lv_istore_n (lv' := [(2, .int 0), (0, .ref (ad v0)), (1, .int v1)]) hx hb d_Wl_named_1 rfl hl (by decide) (by first | rfl | simp [List.filter, cat_rf]) (fun ls hl => ?_)
  exact hG _ _ _ _ _ hf H locs hP hD hS ls (lv_sub hl [1, 2, 0] rfl)
def gg_Wl_named (N : Nat) : Nat → ((CS → Nat → Int32 → Int32 → Option (CS × Option Nat)))
  | 0 => fun _ _ _ _ => none
  | n + 1 => fb_Wl_named_2 N (gg_Wl_named N n)
theorem wg_Wl_named {p : Program} {l : Launch} {e : Env} {s : State} {m : MethodId} {args : Array Value} {below : List Frame} {meth : Method} {c : Code} {s0 : State} {b0 : Nat} {D : va_G} {cB cI cJ cZ cS cP : ClassId} {A : Nat → Prop} {sk sv : Nat → Nat} {ad : Nat → Nat} (C0 : XCx p s s0 b0 m args meth c R_Wl b_Wl_named 4 (some (.object "MailHouse$Process")) D cB cI cJ cZ cS cP A) (hE : ENV s0 b0 sk sv) (N : Nat) : ∀ n : Nat, (∀ (u : CS) (v0 : Nat) (v1 : Int32) (v2 : Int32) (x : CS × Option Nat), gg_Wl_named N n u v0 v1 v2 = some x → ∀ (H : Heap) (locs : List Loc), va_P D cls (wC cB cI cJ cZ cS cP ad u) H → va_D A (wC cB cI cJ cZ cS cP ad u) → va_S A s.heap H locs → ∀ (ls : Array Slot), lv_has ls 4 [(0, .ref (ad v0)), (1, .int v1), (2, .int v2)] → W p l e rm_Wl_named s m args below meth c H locs 0 0 (MQ below (xQ0 D cB cI cJ cZ cS cP A ad x.1 (some (.inr (.inr x.2)))) args s 0 0 A) (F0 m 2 ls []))
  | 0 => (fun u v0 v1 v2 x hf => by cases hf)
  | n + 1 => wb_Wl_named_2 C0 hE N (gg_Wl_named N n) (wg_Wl_named C0 hE N n)
def fm_Wl_named (N : Nat) (u : CS) (v0 : Nat) (v1 : Int32) : Option (CS × Option Nat) := fb_Wl_named_0 N (gg_Wl_named N N) u v0 v1
set_option maxRecDepth 100000 in
set_option maxHeartbeats 4000000 in
theorem c_Wl_named (N : Nat) {l : Launch} {s0 : State} {b0 : Nat} {D : va_G} {cB cI cJ cZ cS cP : ClassId} {sk sv : Nat → Nat} {ad : Nat → Nat} {u : CS} {sz : Nat} {v0 : Nat} {v1 : Int32} {x : CS × Option Nat} (hE : ENV s0 b0 sk sv) (hf : fm_Wl_named N u v0 v1 = some x) : Met l y_Wl_named (wd_ws y_Wl_named b_Wl_named 4 (some (.object "MailHouse$Process"))) rm_Wl_named (xPc s0 b0 D cB cI cJ cZ cS cP ad u sz [.ref (ad v0), .int v1]) (xQ0 D cB cI cJ cZ cS cP (xA cB cI cJ cZ cS cP ad u sz) ad x.1 (some (.inr (.inr x.2)))) 0 0 (xA cB cI cJ cZ cS cP ad u sz) :=
  xMet (by decide) rfl (Nat.le_of_ble_eq_true rfl) (fun p e s m below meth c ls hsz hnm C0 hP hD hS hl =>
    wb_Wl_named_0 C0 hE N (gg_Wl_named N N) (wg_Wl_named C0 hE N N) u _ _ x hf s.heap [] hP hD hS ls (lv_sub hl [0, 1] rfl))
abbrev b_Ma_processAt : ByteArray := prog_5_method_49_code
def y_Ma_processAt : MethodName := ⟨R_Ma, "processAt", "(I)LMailHouse$Process;"⟩
def w_Ma_processAt : List Cond := wd_ws y_Ma_processAt b_Ma_processAt 4 (some (.object "MailHouse$Process"))
set_option maxRecDepth 100000 in
theorem k_Ma_processAt : Cond.code y_Ma_processAt b_Ma_processAt 4 (some (.object "MailHouse$Process")) ∈ wd_tbl := wd_of 1773 rfl rfl
theorem d_Ma_processAt_0 : decode b_Ma_processAt 0 = .ok (.aload_n 0, 1) := by decide +kernel
theorem d_Ma_processAt_1 : decode b_Ma_processAt 1 = .ok (.getfield 33, 3) := by decide +kernel
theorem d_Ma_processAt_4 : decode b_Ma_processAt 4 = .ok (.iload_n 1, 1) := by decide +kernel
theorem d_Ma_processAt_5 : decode b_Ma_processAt 5 = .ok (.invokevirtual 138, 3) := by decide +kernel
theorem d_Ma_processAt_8 : decode b_Ma_processAt 8 = .ok (.lstore_n 2, 1) := by decide +kernel
theorem d_Ma_processAt_9 : decode b_Ma_processAt 9 = .ok (.lload_n 2, 1) := by decide +kernel
theorem d_Ma_processAt_10 : decode b_Ma_processAt 10 = .ok (.invokestatic 253, 3) := by decide +kernel
theorem d_Ma_processAt_13 : decode b_Ma_processAt 13 = .ok (.iconst 4, 1) := by decide +kernel
theorem d_Ma_processAt_14 : decode b_Ma_processAt 14 = .ok (.if_icmp .ne 15, 3) := by decide +kernel
theorem d_Ma_processAt_17 : decode b_Ma_processAt 17 = .ok (.aload_n 0, 1) := by decide +kernel
theorem d_Ma_processAt_18 : decode b_Ma_processAt 18 = .ok (.getfield 15, 3) := by decide +kernel
theorem d_Ma_processAt_21 : decode b_Ma_processAt 21 = .ok (.lload_n 2, 1) := by decide +kernel
theorem d_Ma_processAt_22 : decode b_Ma_processAt 22 = .ok (.l2i, 1) := by decide +kernel
theorem d_Ma_processAt_23 : decode b_Ma_processAt 23 = .ok (.invokevirtual 439, 3) := by decide +kernel
theorem d_Ma_processAt_26 : decode b_Ma_processAt 26 = .ok (.goto 4, 3) := by decide +kernel
theorem d_Ma_processAt_29 : decode b_Ma_processAt 29 = .ok (.aconst_null, 1) := by decide +kernel
theorem d_Ma_processAt_30 : decode b_Ma_processAt 30 = .ok (.areturn, 1) := by decide +kernel
set_option maxRecDepth 100000 in
theorem hl_Ma_processAt : Cond.methodLink R_Ma 279 y_Ma_processAt ∈ wd_tbl := wd_of 1770 (by decide +kernel) rfl
set_option maxRecDepth 100000 in
theorem hi_Ma_processAt : Cond.instanceMethod y_Ma_processAt ∈ wd_tbl := wd_of 1772 (by decide +kernel) rfl
set_option maxRecDepth 100000 in
theorem hs_Ma_processAt : Cond.selects R_Ma y_Ma_processAt y_Ma_processAt ∈ wd_tbl := wd_of 83 (by decide +kernel) rfl
theorem hd_Ma_processAt : y_Ma_processAt.cls = R_Ma ∧ y_Ma_processAt.cls ≠ "java/lang/invoke/MethodHandle" ∧ y_Ma_processAt.cls ≠ "java/lang/invoke/VarHandle" ∧ (parseMethodDescriptor y_Ma_processAt.desc).map (fun d => d.parameters.length) = some 1 := by decide +kernel
def rm_Ma_processAt : Room := { frames := 1, cells := 0, slots := 0, locals := 22 }
theorem rm_Ma_processAt_Fr_below : (rm_Fr_below).frames + 1 ≤ rm_Ma_processAt.frames ∧ 8 + (3 + 11) + (rm_Fr_below).locals ≤ rm_Ma_processAt.locals := by
  show 0 + 1 ≤ 1 ∧ 8 + (3 + 11) + 0 ≤ 22
  decide
theorem rm_Ma_processAt_Te_tag : (rm_Te_tag).frames + 1 ≤ rm_Ma_processAt.frames ∧ 8 + (2 + 11) + (rm_Te_tag).locals ≤ rm_Ma_processAt.locals := by
  show 0 + 1 ≤ 1 ∧ 8 + (2 + 11) + 0 ≤ 22
  decide
theorem rm_Ma_processAt_Wl_find : (rm_Wl_find).frames + 1 ≤ rm_Ma_processAt.frames ∧ 8 + (2 + 11) + (rm_Wl_find).locals ≤ rm_Ma_processAt.locals := by
  show 0 + 1 ≤ 1 ∧ 8 + (2 + 11) + 0 ≤ 22
  decide
def fb_Ma_processAt_30 (N : Nat) (G : Unit) (u : CS) (t0 : Option Nat) : Option (CS × Option Nat) := some (u, t0)
set_option maxRecDepth 100000 in
set_option maxHeartbeats 4000000 in
theorem wb_Ma_processAt_30 {p : Program} {l : Launch} {e : Env} {s : State} {m : MethodId} {args : Array Value} {below : List Frame} {meth : Method} {c : Code} {s0 : State} {b0 : Nat} {D : va_G} {cB cI cJ cZ cS cP : ClassId} {A : Nat → Prop} {sk sv : Nat → Nat} {ad : Nat → Nat} (C0 : XCx p s s0 b0 m args meth c R_Ma b_Ma_processAt 4 (some (.object "MailHouse$Process")) D cB cI cJ cZ cS cP A) (hE : ENV s0 b0 sk sv) (N : Nat) (G : Unit) (hG : True) : ∀ (u : CS) (t0 : Option Nat) (x : CS × Option Nat), fb_Ma_processAt_30 N G u t0 = some x → ∀ (H : Heap) (locs : List Loc), va_P D cls (wC cB cI cJ cZ cS cP ad u) H → va_D A (wC cB cI cJ cZ cS cP ad u) → va_S A s.heap H locs → ∀ (ls : Array Slot), lv_has ls 4 [] → W p l e rm_Ma_processAt s m args below meth c H locs 0 0 (MQ below (xQ0 D cB cI cJ cZ cS cP A ad x.1 (some (.inr (.inr x.2)))) args s 0 0 A) (F0 m 30 ls [va_rf (Option.map ad t0)]) := by
  intro u t0 x hf H locs hP hD hS ls hl
  obtain ⟨hx, hb, hr, hml, ht, hown, hK, hA, hlocks, hA0, hO, hbs⟩ := id C0
  unfold fb_Ma_processAt_30 at hf
  exact xr0_r (v := t0) C0 hP hD hS hf d_Ma_processAt_30
def fb_Ma_processAt_0 (N : Nat) (G : Unit) (u : CS) (v0 : Nat) (v1 : Int32) : Option (CS × Option Nat) := bo (gR u v0 5 4) (fun r1 => bo r1 (fun j3 => ck (isO u j3 4) (bx (fm_Fr_below N u j3 v1) (fun u2 r2 => bx (fm_Te_tag N u2 r2) (fun u4 r4 => br (decide (r4 = 4)) (bo (gR u4 v0 5 1) (fun r5 => bo r5 (fun j7 => ck (isO u4 j7 12) (bx (fm_Wl_find N u4 j7 (r2.toInt32)) (fun u6 r6 => fb_Ma_processAt_30 N G u6 (r6)))))) (fb_Ma_processAt_30 N G u4 (none)))))))
set_option maxRecDepth 100000 in
set_option maxHeartbeats 4000000 in
theorem wb_Ma_processAt_0 {p : Program} {l : Launch} {e : Env} {s : State} {m : MethodId} {args : Array Value} {below : List Frame} {meth : Method} {c : Code} {s0 : State} {b0 : Nat} {D : va_G} {cB cI cJ cZ cS cP : ClassId} {A : Nat → Prop} {sk sv : Nat → Nat} {ad : Nat → Nat} (C0 : XCx p s s0 b0 m args meth c R_Ma b_Ma_processAt 4 (some (.object "MailHouse$Process")) D cB cI cJ cZ cS cP A) (hE : ENV s0 b0 sk sv) (N : Nat) (G : Unit) (hG : True) : ∀ (u : CS) (v0 : Nat) (v1 : Int32) (x : CS × Option Nat), fb_Ma_processAt_0 N G u v0 v1 = some x → ∀ (H : Heap) (locs : List Loc), va_P D cls (wC cB cI cJ cZ cS cP ad u) H → va_D A (wC cB cI cJ cZ cS cP ad u) → va_S A s.heap H locs → ∀ (ls : Array Slot), lv_has ls 4 [(0, .ref (ad v0)), (1, .int v1)] → W p l e rm_Ma_processAt s m args below meth c H locs 0 0 (MQ below (xQ0 D cB cI cJ cZ cS cP A ad x.1 (some (.inr (.inr x.2)))) args s 0 0 A) (F0 m 0 ls []) := by
  intro u v0 v1 x hf H locs hP hD hS ls hl
  obtain ⟨hx, hb, hr, hml, ht, hown, hK, hA, hlocks, hA0, hO, hbs⟩ := id C0
  unfold fb_Ma_processAt_0 at hf
  refine lv_aload_n hx hb d_Ma_processAt_0 rfl (lv_at hl 0 rfl) ?_
  obtain ⟨r1, g1, hf⟩ := bo_some hf
  refine xg_R (i := v0) (k := 4) hx hb ht hown ck_Ma hK hP (by decide) fk_Ma_33 g1 d_Ma_processAt_1 ?_
  refine lv_iload_n hx hb d_Ma_processAt_4 rfl (lv_at hl 1 rfl) ?_
  obtain ⟨j3, ej3, hf⟩ := bo_some hf
  rw [ej3]
  obtain ⟨hO9, hf⟩ := ck_some hf
  obtain ⟨u2, r2, hc2, hf⟩ := bx_some hf
  refine xV0 (i := j3) (As := [.int v1]) (rest := []) C0 hP hD hS ck_Fr hO9 (c_Fr_below N hc2) k_Fr_below (wd_of 1653 (by decide +kernel) rfl) hi_Fr_below hs_Fr_below hini_Fr rfl rfl hd_Fr_below rfl rm_Ma_processAt_Fr_below hl.1 (Nat.le_of_ble_eq_true rfl) d_Ma_processAt_5 rfl ⟨Nat.zero_le _, Nat.zero_le _⟩ (fun H locs hP hD hS => ?_)
  refine lv_lstore_n (lv' := [(2, .long r2), (0, .ref (ad v0)), (1, .int v1)]) hx hb d_Ma_processAt_8 rfl hl (by decide) (by first | rfl | simp [List.filter, cat_rf]) (fun ls hl => ?_)
  refine lv_lload_n hx hb d_Ma_processAt_9 rfl (lv_at hl 0 rfl) ?_
  obtain ⟨u4, r4, hc4, hf⟩ := bx_some hf
  refine xS0 (As := [.long r2]) (rest := []) C0 hP hD hS (c_Te_tag N hc4) k_Te_tag (wd_of 1657 (by decide +kernel) rfl) ht_Te_tag hini_Te rfl rfl hd_Te_tag rfl rm_Ma_processAt_Te_tag hl.1 (Nat.le_of_ble_eq_true rfl) d_Ma_processAt_10 rfl ⟨Nat.zero_le _, Nat.zero_le _⟩ (fun H locs hP hD hS => ?_)
  refine lv_iconst (v := 4) hx hb d_Ma_processAt_13 (by decide) ?_
  refine lv_icmp_ne (tgt := 29) hx hb d_Ma_processAt_14 (by decide) (fun hc => ?_) (fun hc => ?_)
  · rw [br_n _ hc] at hf
    refine lv_null hx hb d_Ma_processAt_29 ?_
    exact wb_Ma_processAt_30 C0 hE N G hG _ _ _ hf H locs hP hD hS ls (lv_sub hl [] rfl)
  · rw [br_p _ hc] at hf
    refine lv_aload_n hx hb d_Ma_processAt_17 rfl (lv_at hl 1 rfl) ?_
    obtain ⟨r5, g5, hf⟩ := bo_some hf
    refine xg_R (i := v0) (k := 1) hx hb ht hown ck_Ma hK hP (by decide) fk_Ma_15 g5 d_Ma_processAt_18 ?_
    refine lv_lload_n hx hb d_Ma_processAt_21 rfl (lv_at hl 0 rfl) ?_
    refine lv_l2i hx hb d_Ma_processAt_22 rfl ?_
    obtain ⟨j7, ej7, hf⟩ := bo_some hf
    rw [ej7]
    obtain ⟨hO9, hf⟩ := ck_some hf
    obtain ⟨u6, r6, hc6, hf⟩ := bx_some hf
    refine xV0 (i := j7) (As := [.int r2.toInt32]) (rest := []) C0 hP hD hS ck_Wl hO9 (c_Wl_find N hE hc6) k_Wl_find (wd_of 1774 (by decide +kernel) rfl) hi_Wl_find hs_Wl_find hini_Wl rfl rfl hd_Wl_find rfl rm_Ma_processAt_Wl_find hl.1 (Nat.le_of_ble_eq_true rfl) d_Ma_processAt_23 rfl ⟨Nat.zero_le _, Nat.zero_le _⟩ (fun H locs hP hD hS => ?_)
    refine lv_goto (tgt := 30) hx hb d_Ma_processAt_26 (by decide) ?_
    exact wb_Ma_processAt_30 C0 hE N G hG _ _ _ hf H locs hP hD hS ls (lv_sub hl [] rfl)
def fm_Ma_processAt (N : Nat) (u : CS) (v0 : Nat) (v1 : Int32) : Option (CS × Option Nat) := fb_Ma_processAt_0 N () u v0 v1
set_option maxRecDepth 100000 in
set_option maxHeartbeats 4000000 in
theorem c_Ma_processAt (N : Nat) {l : Launch} {s0 : State} {b0 : Nat} {D : va_G} {cB cI cJ cZ cS cP : ClassId} {sk sv : Nat → Nat} {ad : Nat → Nat} {u : CS} {sz : Nat} {v0 : Nat} {v1 : Int32} {x : CS × Option Nat} (hE : ENV s0 b0 sk sv) (hf : fm_Ma_processAt N u v0 v1 = some x) : Met l y_Ma_processAt (wd_ws y_Ma_processAt b_Ma_processAt 4 (some (.object "MailHouse$Process"))) rm_Ma_processAt (xPc s0 b0 D cB cI cJ cZ cS cP ad u sz [.ref (ad v0), .int v1]) (xQ0 D cB cI cJ cZ cS cP (xA cB cI cJ cZ cS cP ad u sz) ad x.1 (some (.inr (.inr x.2)))) 0 0 (xA cB cI cJ cZ cS cP ad u sz) :=
  xMet (by decide) rfl (Nat.le_of_ble_eq_true rfl) (fun p e s m below meth c ls hsz hnm C0 hP hD hS hl =>
    wb_Ma_processAt_0 C0 hE N () trivial u _ _ x hf s.heap [] hP hD hS ls (lv_sub hl [0, 1] rfl))
abbrev b_Ma_naming : ByteArray := prog_5_method_52_code
def y_Ma_naming : MethodName := ⟨R_Ma, "naming", "(I)V"⟩
def w_Ma_naming : List Cond := wd_ws y_Ma_naming b_Ma_naming 6 none
set_option maxRecDepth 100000 in
theorem k_Ma_naming : Cond.code y_Ma_naming b_Ma_naming 6 none ∈ wd_tbl := wd_of 1765 rfl rfl
theorem d_Ma_naming_0 : decode b_Ma_naming 0 = .ok (.aload_n 0, 1) := by decide +kernel
theorem d_Ma_naming_1 : decode b_Ma_naming 1 = .ok (.getfield 33, 3) := by decide +kernel
theorem d_Ma_naming_4 : decode b_Ma_naming 4 = .ok (.iload_n 1, 1) := by decide +kernel
theorem d_Ma_naming_5 : decode b_Ma_naming 5 = .ok (.bipush 12, 2) := by decide +kernel
theorem d_Ma_naming_7 : decode b_Ma_naming 7 = .ok (.if_icmp .ne 7, 3) := by decide +kernel
theorem d_Ma_naming_10 : decode b_Ma_naming 10 = .ok (.iconst 1, 1) := by decide +kernel
theorem d_Ma_naming_11 : decode b_Ma_naming 11 = .ok (.goto 4, 3) := by decide +kernel
theorem d_Ma_naming_14 : decode b_Ma_naming 14 = .ok (.iconst 0, 1) := by decide +kernel
theorem d_Ma_naming_15 : decode b_Ma_naming 15 = .ok (.invokevirtual 138, 3) := by decide +kernel
theorem d_Ma_naming_18 : decode b_Ma_naming 18 = .ok (.lstore_n 2, 1) := by decide +kernel
theorem d_Ma_naming_19 : decode b_Ma_naming 19 = .ok (.lload_n 2, 1) := by decide +kernel
theorem d_Ma_naming_20 : decode b_Ma_naming 20 = .ok (.invokestatic 253, 3) := by decide +kernel
theorem d_Ma_naming_23 : decode b_Ma_naming 23 = .ok (.iconst 1, 1) := by decide +kernel
theorem d_Ma_naming_24 : decode b_Ma_naming 24 = .ok (.if_icmp .eq 10, 3) := by decide +kernel
theorem d_Ma_naming_27 : decode b_Ma_naming 27 = .ok (.aload_n 0, 1) := by decide +kernel
theorem d_Ma_naming_28 : decode b_Ma_naming 28 = .ok (.bipush 11, 2) := by decide +kernel
theorem d_Ma_naming_30 : decode b_Ma_naming 30 = .ok (.invokevirtual 249, 3) := by decide +kernel
theorem d_Ma_naming_33 : decode b_Ma_naming 33 = .ok (.return_, 1) := by decide +kernel
theorem d_Ma_naming_34 : decode b_Ma_naming 34 = .ok (.aload_n 0, 1) := by decide +kernel
theorem d_Ma_naming_35 : decode b_Ma_naming 35 = .ok (.getfield 15, 3) := by decide +kernel
theorem d_Ma_naming_38 : decode b_Ma_naming 38 = .ok (.lload_n 2, 1) := by decide +kernel
theorem d_Ma_naming_39 : decode b_Ma_naming 39 = .ok (.l2i, 1) := by decide +kernel
theorem d_Ma_naming_40 : decode b_Ma_naming 40 = .ok (.invokevirtual 275, 3) := by decide +kernel
theorem d_Ma_naming_43 : decode b_Ma_naming 43 = .ok (.astore 4, 2) := by decide +kernel
theorem d_Ma_naming_45 : decode b_Ma_naming 45 = .ok (.iload_n 1, 1) := by decide +kernel
theorem d_Ma_naming_46 : decode b_Ma_naming 46 = .ok (.bipush 14, 2) := by decide +kernel
theorem d_Ma_naming_48 : decode b_Ma_naming 48 = .ok (.if_icmp .ne 30, 3) := by decide +kernel
theorem d_Ma_naming_51 : decode b_Ma_naming 51 = .ok (.aload_n 0, 1) := by decide +kernel
theorem d_Ma_naming_52 : decode b_Ma_naming 52 = .ok (.iconst 1, 1) := by decide +kernel
theorem d_Ma_naming_53 : decode b_Ma_naming 53 = .ok (.aload 4, 2) := by decide +kernel
theorem d_Ma_naming_55 : decode b_Ma_naming 55 = .ok (.ifnonnull 10, 3) := by decide +kernel
theorem d_Ma_naming_58 : decode b_Ma_naming 58 = .ok (.iconst 3, 1) := by decide +kernel
theorem d_Ma_naming_59 : decode b_Ma_naming 59 = .ok (.invokestatic 105, 3) := by decide +kernel
theorem d_Ma_naming_62 : decode b_Ma_naming 62 = .ok (.goto 12, 3) := by decide +kernel
theorem d_Ma_naming_65 : decode b_Ma_naming 65 = .ok (.iconst 4, 1) := by decide +kernel
theorem d_Ma_naming_66 : decode b_Ma_naming 66 = .ok (.aload 4, 2) := by decide +kernel
theorem d_Ma_naming_68 : decode b_Ma_naming 68 = .ok (.getfield 282, 3) := by decide +kernel
theorem d_Ma_naming_71 : decode b_Ma_naming 71 = .ok (.invokestatic 101, 3) := by decide +kernel
theorem d_Ma_naming_74 : decode b_Ma_naming 74 = .ok (.invokevirtual 145, 3) := by decide +kernel
theorem d_Ma_naming_77 : decode b_Ma_naming 77 = .ok (.return_, 1) := by decide +kernel
theorem d_Ma_naming_78 : decode b_Ma_naming 78 = .ok (.iload_n 1, 1) := by decide +kernel
theorem d_Ma_naming_79 : decode b_Ma_naming 79 = .ok (.bipush 13, 2) := by decide +kernel
theorem d_Ma_naming_81 : decode b_Ma_naming 81 = .ok (.if_icmp .ne 31, 3) := by decide +kernel
theorem d_Ma_naming_84 : decode b_Ma_naming 84 = .ok (.aload 4, 2) := by decide +kernel
theorem d_Ma_naming_86 : decode b_Ma_naming 86 = .ok (.ifnonnull 10, 3) := by decide +kernel
theorem d_Ma_naming_89 : decode b_Ma_naming 89 = .ok (.aload_n 0, 1) := by decide +kernel
theorem d_Ma_naming_90 : decode b_Ma_naming 90 = .ok (.bipush 11, 2) := by decide +kernel
theorem d_Ma_naming_92 : decode b_Ma_naming 92 = .ok (.invokevirtual 249, 3) := by decide +kernel
theorem d_Ma_naming_95 : decode b_Ma_naming 95 = .ok (.return_, 1) := by decide +kernel
theorem d_Ma_naming_96 : decode b_Ma_naming 96 = .ok (.aload 4, 2) := by decide +kernel
theorem d_Ma_naming_98 : decode b_Ma_naming 98 = .ok (.iconst (-1), 1) := by decide +kernel
theorem d_Ma_naming_99 : decode b_Ma_naming 99 = .ok (.putfield 468, 3) := by decide +kernel
theorem d_Ma_naming_102 : decode b_Ma_naming 102 = .ok (.aload_n 0, 1) := by decide +kernel
theorem d_Ma_naming_103 : decode b_Ma_naming 103 = .ok (.iconst 1, 1) := by decide +kernel
theorem d_Ma_naming_104 : decode b_Ma_naming 104 = .ok (.iconst 0, 1) := by decide +kernel
theorem d_Ma_naming_105 : decode b_Ma_naming 105 = .ok (.invokestatic 105, 3) := by decide +kernel
theorem d_Ma_naming_108 : decode b_Ma_naming 108 = .ok (.invokevirtual 145, 3) := by decide +kernel
theorem d_Ma_naming_111 : decode b_Ma_naming 111 = .ok (.return_, 1) := by decide +kernel
theorem d_Ma_naming_112 : decode b_Ma_naming 112 = .ok (.aload_n 0, 1) := by decide +kernel
theorem d_Ma_naming_113 : decode b_Ma_naming 113 = .ok (.iconst 0, 1) := by decide +kernel
theorem d_Ma_naming_114 : decode b_Ma_naming 114 = .ok (.invokevirtual 279, 3) := by decide +kernel
theorem d_Ma_naming_117 : decode b_Ma_naming 117 = .ok (.astore 5, 2) := by decide +kernel
theorem d_Ma_naming_119 : decode b_Ma_naming 119 = .ok (.aload 5, 2) := by decide +kernel
theorem d_Ma_naming_121 : decode b_Ma_naming 121 = .ok (.ifnull 26, 3) := by decide +kernel
theorem d_Ma_naming_124 : decode b_Ma_naming 124 = .ok (.aload 4, 2) := by decide +kernel
theorem d_Ma_naming_126 : decode b_Ma_naming 126 = .ok (.ifnonnull 21, 3) := by decide +kernel
theorem d_Ma_naming_129 : decode b_Ma_naming 129 = .ok (.aload 5, 2) := by decide +kernel
theorem d_Ma_naming_131 : decode b_Ma_naming 131 = .ok (.getfield 468, 3) := by decide +kernel
theorem d_Ma_naming_134 : decode b_Ma_naming 134 = .ok (.iconst (-1), 1) := by decide +kernel
theorem d_Ma_naming_135 : decode b_Ma_naming 135 = .ok (.if_icmp .ne 12, 3) := by decide +kernel
theorem d_Ma_naming_138 : decode b_Ma_naming 138 = .ok (.aload 5, 2) := by decide +kernel
theorem d_Ma_naming_140 : decode b_Ma_naming 140 = .ok (.getfield 60, 3) := by decide +kernel
theorem d_Ma_naming_143 : decode b_Ma_naming 143 = .ok (.iconst 3, 1) := by decide +kernel
theorem d_Ma_naming_144 : decode b_Ma_naming 144 = .ok (.if_icmp .ne 10, 3) := by decide +kernel
theorem d_Ma_naming_147 : decode b_Ma_naming 147 = .ok (.aload_n 0, 1) := by decide +kernel
theorem d_Ma_naming_148 : decode b_Ma_naming 148 = .ok (.bipush 11, 2) := by decide +kernel
theorem d_Ma_naming_150 : decode b_Ma_naming 150 = .ok (.invokevirtual 249, 3) := by decide +kernel
theorem d_Ma_naming_153 : decode b_Ma_naming 153 = .ok (.return_, 1) := by decide +kernel
theorem d_Ma_naming_154 : decode b_Ma_naming 154 = .ok (.aload 5, 2) := by decide +kernel
theorem d_Ma_naming_156 : decode b_Ma_naming 156 = .ok (.lload_n 2, 1) := by decide +kernel
theorem d_Ma_naming_157 : decode b_Ma_naming 157 = .ok (.l2i, 1) := by decide +kernel
theorem d_Ma_naming_158 : decode b_Ma_naming 158 = .ok (.putfield 468, 3) := by decide +kernel
theorem d_Ma_naming_161 : decode b_Ma_naming 161 = .ok (.aload_n 0, 1) := by decide +kernel
theorem d_Ma_naming_162 : decode b_Ma_naming 162 = .ok (.iconst 2, 1) := by decide +kernel
theorem d_Ma_naming_163 : decode b_Ma_naming 163 = .ok (.iconst 0, 1) := by decide +kernel
theorem d_Ma_naming_164 : decode b_Ma_naming 164 = .ok (.invokestatic 105, 3) := by decide +kernel
theorem d_Ma_naming_167 : decode b_Ma_naming 167 = .ok (.invokevirtual 145, 3) := by decide +kernel
theorem d_Ma_naming_170 : decode b_Ma_naming 170 = .ok (.return_, 1) := by decide +kernel
set_option maxRecDepth 100000 in
theorem hl_Ma_naming : Cond.methodLink R_Ma 422 y_Ma_naming ∈ wd_tbl := wd_of 1762 (by decide +kernel) rfl
set_option maxRecDepth 100000 in
theorem hi_Ma_naming : Cond.instanceMethod y_Ma_naming ∈ wd_tbl := wd_of 1764 (by decide +kernel) rfl
set_option maxRecDepth 100000 in
theorem hs_Ma_naming : Cond.selects R_Ma y_Ma_naming y_Ma_naming ∈ wd_tbl := wd_of 82 (by decide +kernel) rfl
theorem hd_Ma_naming : y_Ma_naming.cls = R_Ma ∧ y_Ma_naming.cls ≠ "java/lang/invoke/MethodHandle" ∧ y_Ma_naming.cls ≠ "java/lang/invoke/VarHandle" ∧ (parseMethodDescriptor y_Ma_naming.desc).map (fun d => d.parameters.length) = some 1 := by decide +kernel
def rm_Ma_naming (mc ms : Nat) : Room := { frames := 4, cells := mc, slots := ms, locals := 127 }
theorem rm_Ma_naming_Fr_below {mc ms : Nat} : (rm_Fr_below).frames + 1 ≤ (rm_Ma_naming mc ms).frames ∧ 8 + (3 + 11) + (rm_Fr_below).locals ≤ (rm_Ma_naming mc ms).locals := by
  show 0 + 1 ≤ 4 ∧ 8 + (3 + 11) + 0 ≤ 127
  decide
theorem rm_Ma_naming_Te_tag {mc ms : Nat} : (rm_Te_tag).frames + 1 ≤ (rm_Ma_naming mc ms).frames ∧ 8 + (2 + 11) + (rm_Te_tag).locals ≤ (rm_Ma_naming mc ms).locals := by
  show 0 + 1 ≤ 4 ∧ 8 + (2 + 11) + 0 ≤ 127
  decide
theorem rm_Ma_naming_Ma_wrong {mc ms : Nat} : (rm_Ma_wrong).frames + 1 ≤ (rm_Ma_naming mc ms).frames ∧ 8 + (2 + 11) + (rm_Ma_wrong).locals ≤ (rm_Ma_naming mc ms).locals := by
  show 2 + 1 ≤ 4 ∧ 8 + (2 + 11) + 41 ≤ 127
  decide
theorem rm_Ma_naming_Wl_named {mc ms : Nat} : (rm_Wl_named).frames + 1 ≤ (rm_Ma_naming mc ms).frames ∧ 8 + (4 + 11) + (rm_Wl_named).locals ≤ (rm_Ma_naming mc ms).locals := by
  show 0 + 1 ≤ 4 ∧ 8 + (4 + 11) + 0 ≤ 127
  decide
theorem rm_Ma_naming_Ma_atom {mc ms : Nat} : (rm_Ma_atom).frames + 1 ≤ (rm_Ma_naming mc ms).frames ∧ 8 + (1 + 11) + (rm_Ma_atom).locals ≤ (rm_Ma_naming mc ms).locals := by
  show 1 + 1 ≤ 4 ∧ 8 + (1 + 11) + 21 ≤ 127
  decide
theorem rm_Ma_naming_Te_make {mc ms : Nat} : (rm_Te_make).frames + 1 ≤ (rm_Ma_naming mc ms).frames ∧ 8 + (2 + 11) + (rm_Te_make).locals ≤ (rm_Ma_naming mc ms).locals := by
  show 0 + 1 ≤ 4 ∧ 8 + (2 + 11) + 0 ≤ 127
  decide
theorem rm_Ma_naming_Ma_answer {mc ms : Nat} {mc2 ms2 : Nat} : (rm_Ma_answer mc2 ms2).frames + 1 ≤ (rm_Ma_naming mc ms).frames ∧ 8 + (4 + 11) + (rm_Ma_answer mc2 ms2).locals ≤ (rm_Ma_naming mc ms).locals := by
  show 3 + 1 ≤ 4 ∧ 8 + (4 + 11) + 104 ≤ 127
  decide
theorem rm_Ma_naming_Ma_processAt {mc ms : Nat} : (rm_Ma_processAt).frames + 1 ≤ (rm_Ma_naming mc ms).frames ∧ 8 + (4 + 11) + (rm_Ma_processAt).locals ≤ (rm_Ma_naming mc ms).locals := by
  show 1 + 1 ≤ 4 ∧ 8 + (4 + 11) + 22 ≤ 127
  decide
def fb_Ma_naming_147 (N : Nat) (G : Unit) (u : CS) (v0 : Nat) : Option (CS × Unit) := ck (isO u v0 5) (bx (gz u (fm_Ma_wrong N u v0 11)) (fun u1 r1 => gw u1 (some (u1, ()))))
set_option maxRecDepth 100000 in
set_option maxHeartbeats 4000000 in
theorem wb_Ma_naming_147 {p : Program} {l : Launch} {e : Env} {s : State} {m : MethodId} {args : Array Value} {below : List Frame} {meth : Method} {c : Code} {s0 : State} {b0 : Nat} {D : va_G} {cB cI cJ cZ cS cP : ClassId} {A : Nat → Prop} {sk sv : Nat → Nat} {uN uS mc ms : Nat} {ad0 : Nat → Nat} (C0 : XCx p s s0 b0 m args meth c R_Ma b_Ma_naming 6 none D cB cI cJ cZ cS cP A) (hE : ENV s0 b0 sk sv) (N : Nat) (G : Unit) (hG : True) : ∀ (u : CS) (v0 : Nat) (x : CS × Unit), fb_Ma_naming_147 N G u v0 = some x → (uN + mc = x.1.1.1 ∧ uS + ms = x.1.1.2) → ∀ (ad : Nat → Nat) (ce sl : Nat), AB uN uS ad0 u ad ce sl → ∀ (H : Heap) (locs : List Loc), va_P D cls (wC cB cI cJ cZ cS cP ad u) H → va_D A (wC cB cI cJ cZ cS cP ad u) → va_S A s.heap H locs → ∀ (ls : Array Slot), lv_has ls 6 [(0, .ref (ad v0))] → W p l e (rm_Ma_naming mc ms) s m args below meth c H locs ce sl (MQ below (xQ D cB cI cJ cZ cS cP A ad0 uN x.1 none) args s mc ms A) (F0 m 147 ls []) := by
  intro u v0 x hf hm ad ce sl hB H locs hP hD hS ls hl
  obtain ⟨hx, hb, hr, hml, ht, hown, hK, hA, hlocks, hA0, hO, hbs⟩ := id C0
  unfold fb_Ma_naming_147 at hf
  refine lv_aload_n hx hb d_Ma_naming_147 rfl (lv_at hl 0 rfl) ?_
  refine lv_bipush (v := 11) hx hb d_Ma_naming_148 (by decide) ?_
  obtain ⟨hO9, hf⟩ := ck_some hf
  obtain ⟨u1, r1, hc1, hf⟩ := bx_some hf
  obtain ⟨hc1, hz1⟩ := gz_some hc1
  obtain ⟨hf, hw1⟩ := gw_some hf
  refine xV0 (i := v0) (As := [.int 11]) (rest := []) C0 hP hD hS ck_Ma hO9 (c_Ma_wrong N hc1) k_Ma_wrong (wd_of 1664 (by decide +kernel) rfl) hi_Ma_wrong hs_Ma_wrong hini_Ma rfl rfl hd_Ma_wrong rfl rm_Ma_naming_Ma_wrong hl.1 (Nat.le_of_ble_eq_true rfl) d_Ma_naming_150 rfl (hB.fit hm hz1 hw1) (fun H locs hP hD hS => ?_)
  have hB := hB.same2 hz1
  exact yr_v C0 hP hD hS hB hm hf d_Ma_naming_153
def fb_Ma_naming_74 (N : Nat) (G : Unit) (u : CS) (t0 : Nat) (t1 : Int32) (t2 : Int64) : Option (CS × Unit) := ck (isO u t0 5) (bx (gw u (fm_Ma_answer N u t0 t1 t2)) (fun u2 r2 => gw u2 (some (u2, ()))))
set_option maxRecDepth 100000 in
set_option maxHeartbeats 4000000 in
theorem wb_Ma_naming_74 {p : Program} {l : Launch} {e : Env} {s : State} {m : MethodId} {args : Array Value} {below : List Frame} {meth : Method} {c : Code} {s0 : State} {b0 : Nat} {D : va_G} {cB cI cJ cZ cS cP : ClassId} {A : Nat → Prop} {sk sv : Nat → Nat} {uN uS mc ms : Nat} {ad0 : Nat → Nat} (C0 : XCx p s s0 b0 m args meth c R_Ma b_Ma_naming 6 none D cB cI cJ cZ cS cP A) (hE : ENV s0 b0 sk sv) (N : Nat) (G : Unit) (hG : True) : ∀ (u : CS) (t0 : Nat) (t1 : Int32) (t2 : Int64) (x : CS × Unit), fb_Ma_naming_74 N G u t0 t1 t2 = some x → (uN + mc = x.1.1.1 ∧ uS + ms = x.1.1.2) → ∀ (ad : Nat → Nat) (ce sl : Nat), AB uN uS ad0 u ad ce sl → ∀ (H : Heap) (locs : List Loc), va_P D cls (wC cB cI cJ cZ cS cP ad u) H → va_D A (wC cB cI cJ cZ cS cP ad u) → va_S A s.heap H locs → ∀ (ls : Array Slot), lv_has ls 6 [] → W p l e (rm_Ma_naming mc ms) s m args below meth c H locs ce sl (MQ below (xQ D cB cI cJ cZ cS cP A ad0 uN x.1 none) args s mc ms A) (F0 m 74 ls [.long t2, .int t1, .ref (ad t0)]) := by
  intro u t0 t1 t2 x hf hm ad ce sl hB H locs hP hD hS ls hl
  obtain ⟨hx, hb, hr, hml, ht, hown, hK, hA, hlocks, hA0, hO, hbs⟩ := id C0
  unfold fb_Ma_naming_74 at hf
  obtain ⟨hO9, hf⟩ := ck_some hf
  obtain ⟨u2, r2, hc2, hf⟩ := bx_some hf
  obtain ⟨hc2, hq2⟩ := gw_some hc2
  obtain ⟨hf, hw2⟩ := gw_some hf
  refine yV (i := t0) (As := [.int t1, .long t2]) (rest := []) C0 hP hD hS ck_Ma hO9 (c_Ma_answer N hE hc2 (gm hq2)) k_Ma_answer (wd_of 1744 (by decide +kernel) rfl) hi_Ma_answer hs_Ma_answer hini_Ma rfl rfl hd_Ma_answer rfl rm_Ma_naming_Ma_answer hl.1 (Nat.le_of_ble_eq_true rfl) d_Ma_naming_74 rfl (gm hq2) hB hm hw2 (fun ad2 H locs ce sl hg2 hB hP hD hS => ?_)
  exact yr_v C0 hP hD hS hB hm hf d_Ma_naming_77
def fb_Ma_naming_15 (N : Nat) (G : Unit) (u : CS) (v0 : Nat) (v1 : Int32) (t0 : Option Nat) (t1 : Int32) : Option (CS × Unit) := bo t0 (fun j4 => ck (isO u j4 4) (bx (gz u (fm_Fr_below N u j4 t1)) (fun u3 r3 => gw u3 (bx (gz u3 (fm_Te_tag N u3 r3)) (fun u5 r5 => gw u5 (br (decide (r5 = 1)) (bo (gR u5 v0 5 1) (fun r6 => bo r6 (fun j8 => ck (isO u5 j8 12) (bx (gz u5 (fm_Wl_named N u5 j8 (r3.toInt32))) (fun u7 r7 => gw u7 (br (decide (v1 = 14)) (br (decide (r7 = none)) (bx (gz u7 (fm_Ma_atom N u7 3)) (fun u26 r26 => gw u26 (fb_Ma_naming_74 N G u26 (v0) (1) (r26)))) (bo r7 (fun j23 => bo (gI u7 j23 7 0) (fun r24 => bx (gz u7 (fm_Te_make N u7 4 r24)) (fun u25 r25 => gw u25 (fb_Ma_naming_74 N G u25 (v0) (1) (r25))))))) (br (decide (v1 = 13)) (br (decide (r7 = none)) (ck (isO u7 v0 5) (bx (gz u7 (fm_Ma_wrong N u7 v0 11)) (fun u22 r22 => gw u22 (some (u22, ()))))) (bo r7 (fun j18 => bo (pF u7 j18 7 12 (.inl (-1))) (fun w19 => bx (gz w19 (fm_Ma_atom N w19 0)) (fun u20 r20 => gw u20 (ck (isO u20 v0 5) (ck (List.all [r7, some v0] (okR u20.1.1)) (bx (gw u20 (fm_Ma_answer N u20 v0 1 r20)) (fun u21 r21 => gw u21 (some (u21, ()))))))))))) (ck (isO u7 v0 5) (bx (gz u7 (fm_Ma_processAt N u7 v0 0)) (fun u9 r9 => gw u9 (br (decide (r9 = none)) (fb_Ma_naming_147 N G u9 (v0)) (br (decide (r7 = none)) (bo r9 (fun j10 => bo (gI u9 j10 7 12) (fun r11 => br (decide (r11 = (-1))) (bo r9 (fun j12 => bo (gI u9 j12 7 9) (fun r13 => br (decide (r13 = 3)) (fb_Ma_naming_147 N G u9 (v0)) (bo r9 (fun j14 => bo (pF u9 j14 7 12 (.inl (r3.toInt32))) (fun w15 => bx (gz w15 (fm_Ma_atom N w15 0)) (fun u16 r16 => gw u16 (ck (isO u16 v0 5) (ck (List.all [r9, r7, some v0] (okR u16.1.1)) (bx (gw u16 (fm_Ma_answer N u16 v0 2 r16)) (fun u17 r17 => gw u17 (some (u17, ()))))))))))))) (fb_Ma_naming_147 N G u9 (v0))))) (fb_Ma_naming_147 N G u9 (v0)))))))))))))) (ck (isO u5 v0 5) (bx (gz u5 (fm_Ma_wrong N u5 v0 11)) (fun u27 r27 => gw u27 (some (u27, ())))))))))))
set_option maxRecDepth 100000 in
set_option maxHeartbeats 4000000 in
theorem wb_Ma_naming_15 {p : Program} {l : Launch} {e : Env} {s : State} {m : MethodId} {args : Array Value} {below : List Frame} {meth : Method} {c : Code} {s0 : State} {b0 : Nat} {D : va_G} {cB cI cJ cZ cS cP : ClassId} {A : Nat → Prop} {sk sv : Nat → Nat} {uN uS mc ms : Nat} {ad0 : Nat → Nat} (C0 : XCx p s s0 b0 m args meth c R_Ma b_Ma_naming 6 none D cB cI cJ cZ cS cP A) (hE : ENV s0 b0 sk sv) (N : Nat) (G : Unit) (hG : True) : ∀ (u : CS) (v0 : Nat) (v1 : Int32) (t0 : Option Nat) (t1 : Int32) (x : CS × Unit), fb_Ma_naming_15 N G u v0 v1 t0 t1 = some x → (uN + mc = x.1.1.1 ∧ uS + ms = x.1.1.2) → ∀ (ad : Nat → Nat) (ce sl : Nat), AB uN uS ad0 u ad ce sl → ∀ (H : Heap) (locs : List Loc), va_P D cls (wC cB cI cJ cZ cS cP ad u) H → va_D A (wC cB cI cJ cZ cS cP ad u) → va_S A s.heap H locs → ∀ (ls : Array Slot), lv_has ls 6 [(0, .ref (ad v0)), (1, .int v1)] → W p l e (rm_Ma_naming mc ms) s m args below meth c H locs ce sl (MQ below (xQ D cB cI cJ cZ cS cP A ad0 uN x.1 none) args s mc ms A) (F0 m 15 ls [.int t1, va_rf (Option.map ad t0)]) := by
  intro u v0 v1 t0 t1 x hf hm ad ce sl hB H locs hP hD hS ls hl
  obtain ⟨hx, hb, hr, hml, ht, hown, hK, hA, hlocks, hA0, hO, hbs⟩ := id C0
  unfold fb_Ma_naming_15 at hf
  obtain ⟨j4, ej4, hf⟩ := bo_some hf
  rw [ej4]
  obtain ⟨hO9, hf⟩ := ck_some hf
  obtain ⟨u3, r3, hc3, hf⟩ := bx_some hf
  obtain ⟨hc3, hz3⟩ := gz_some hc3
  obtain ⟨hf, hw3⟩ := gw_some hf
  refine xV0 (i := j4) (As := [.int t1]) (rest := []) C0 hP hD hS ck_Fr hO9 (c_Fr_below N hc3) k_Fr_below (wd_of 1653 (by decide +kernel) rfl) hi_Fr_below hs_Fr_below hini_Fr rfl rfl hd_Fr_below rfl rm_Ma_naming_Fr_below hl.1 (Nat.le_of_ble_eq_true rfl) d_Ma_naming_15 rfl (hB.fit hm hz3 hw3) (fun H locs hP hD hS => ?_)
  have hB := hB.same2 hz3
  refine lv_lstore_n (lv' := [(2, .long r3), (0, .ref (ad v0)), (1, .int v1)]) hx hb d_Ma_naming_18 rfl hl (by decide) (by first | rfl | simp [List.filter, cat_rf]) (fun ls hl => ?_)
  refine lv_lload_n hx hb d_Ma_naming_19 rfl (lv_at hl 0 rfl) ?_
  obtain ⟨u5, r5, hc5, hf⟩ := bx_some hf
  obtain ⟨hc5, hz5⟩ := gz_some hc5
  obtain ⟨hf, hw5⟩ := gw_some hf
  refine xS0 (As := [.long r3]) (rest := []) C0 hP hD hS (c_Te_tag N hc5) k_Te_tag (wd_of 1657 (by decide +kernel) rfl) ht_Te_tag hini_Te rfl rfl hd_Te_tag rfl rm_Ma_naming_Te_tag hl.1 (Nat.le_of_ble_eq_true rfl) d_Ma_naming_20 rfl (hB.fit hm hz5 hw5) (fun H locs hP hD hS => ?_)
  have hB := hB.same2 hz5
  refine lv_iconst (v := 1) hx hb d_Ma_naming_23 (by decide) ?_
  refine lv_icmp_eq (tgt := 34) hx hb d_Ma_naming_24 (by decide) (fun hc => ?_) (fun hc => ?_)
  · rw [br_p _ hc] at hf
    refine lv_aload_n hx hb d_Ma_naming_34 rfl (lv_at hl 1 rfl) ?_
    obtain ⟨r6, g6, hf⟩ := bo_some hf
    refine xg_R (i := v0) (k := 1) hx hb ht hown ck_Ma hK hP (by decide) fk_Ma_15 g6 d_Ma_naming_35 ?_
    refine lv_lload_n hx hb d_Ma_naming_38 rfl (lv_at hl 0 rfl) ?_
    refine lv_l2i hx hb d_Ma_naming_39 rfl ?_
    obtain ⟨j8, ej8, hf⟩ := bo_some hf
    rw [ej8]
    obtain ⟨hO9, hf⟩ := ck_some hf
    obtain ⟨u7, r7, hc7, hf⟩ := bx_some hf
    obtain ⟨hc7, hz7⟩ := gz_some hc7
    obtain ⟨hf, hw7⟩ := gw_some hf
    refine xV0 (i := j8) (As := [.int r3.toInt32]) (rest := []) C0 hP hD hS ck_Wl hO9 (c_Wl_named N hE hc7) k_Wl_named (wd_of 1766 (by decide +kernel) rfl) hi_Wl_named hs_Wl_named hini_Wl rfl rfl hd_Wl_named rfl rm_Ma_naming_Wl_named hl.1 (Nat.le_of_ble_eq_true rfl) d_Ma_naming_40 rfl (hB.fit hm hz7 hw7) (fun H locs hP hD hS => ?_)
    have hB := hB.same2 hz7
    refine x_astore (lv' := [(4, va_rf (Option.map ad r7)), (2, .long r3), (0, .ref (ad v0)), (1, .int v1)]) hx hb d_Ma_naming_43 hl (by decide) (by first | rfl | simp [List.filter, cat_rf]) (fun ls hl => ?_)
    refine lv_iload_n hx hb d_Ma_naming_45 rfl (lv_at hl 3 rfl) ?_
    refine lv_bipush (v := 14) hx hb d_Ma_naming_46 (by decide) ?_
    refine lv_icmp_ne (tgt := 78) hx hb d_Ma_naming_48 (by decide) (fun hc => ?_) (fun hc => ?_)
    · rw [br_n _ hc] at hf
      refine lv_iload_n hx hb d_Ma_naming_78 rfl (lv_at hl 3 rfl) ?_
      refine lv_bipush (v := 13) hx hb d_Ma_naming_79 (by decide) ?_
      refine lv_icmp_ne (tgt := 112) hx hb d_Ma_naming_81 (by decide) (fun hc => ?_) (fun hc => ?_)
      · rw [br_n _ hc] at hf
        refine lv_aload_n hx hb d_Ma_naming_112 rfl (lv_at hl 2 rfl) ?_
        refine lv_iconst (v := 0) hx hb d_Ma_naming_113 (by decide) ?_
        obtain ⟨hO9, hf⟩ := ck_some hf
        obtain ⟨u9, r9, hc9, hf⟩ := bx_some hf
        obtain ⟨hc9, hz9⟩ := gz_some hc9
        obtain ⟨hf, hw9⟩ := gw_some hf
        refine xV0 (i := v0) (As := [.int 0]) (rest := []) C0 hP hD hS ck_Ma hO9 (c_Ma_processAt N hE hc9) k_Ma_processAt (wd_of 1770 (by decide +kernel) rfl) hi_Ma_processAt hs_Ma_processAt hini_Ma rfl rfl hd_Ma_processAt rfl rm_Ma_naming_Ma_processAt hl.1 (Nat.le_of_ble_eq_true rfl) d_Ma_naming_114 rfl (hB.fit hm hz9 hw9) (fun H locs hP hD hS => ?_)
        have hB := hB.same2 hz9
        refine x_astore (lv' := [(5, va_rf (Option.map ad r9)), (4, va_rf (Option.map ad r7)), (2, .long r3), (0, .ref (ad v0)), (1, .int v1)]) hx hb d_Ma_naming_117 hl (by decide) (by first | rfl | simp [List.filter, cat_rf]) (fun ls hl => ?_)
        refine x_aload hx hb d_Ma_naming_119 (lv_at hl 0 rfl) ?_
        refine x_ifnull (r := r9) (tgt := 147) hx hb d_Ma_naming_121 (by decide) (fun hc => ?_) (fun hc => ?_)
        · rw [br_p _ hc] at hf
          exact wb_Ma_naming_147 C0 hE N G hG _ _ _ hf hm _ _ _ hB H locs hP hD hS ls (lv_sub hl [3] rfl)
        · rw [br_n _ hc] at hf
          refine x_aload hx hb d_Ma_naming_124 (lv_at hl 1 rfl) ?_
          refine x_ifnonnull (r := r7) (tgt := 147) hx hb d_Ma_naming_126 (by decide) (fun hc => ?_) (fun hc => ?_)
          · rw [br_n _ hc] at hf
            exact wb_Ma_naming_147 C0 hE N G hG _ _ _ hf hm _ _ _ hB H locs hP hD hS ls (lv_sub hl [3] rfl)
          · rw [br_p _ hc] at hf
            refine x_aload hx hb d_Ma_naming_129 (lv_at hl 0 rfl) ?_
            obtain ⟨j10, ej10, hf⟩ := bo_some hf
            rw [ej10]
            obtain ⟨r11, g11, hf⟩ := bo_some hf
            refine xg_I (i := j10) (k := 12) hx hb ht hown ck_Pr hK hP (by decide) fk_Ma_468 g11 d_Ma_naming_131 ?_
            refine lv_iconst (v := (-1)) hx hb d_Ma_naming_134 (by decide) ?_
            refine lv_icmp_ne (tgt := 147) hx hb d_Ma_naming_135 (by decide) (fun hc => ?_) (fun hc => ?_)
            · rw [br_n _ hc] at hf
              exact wb_Ma_naming_147 C0 hE N G hG _ _ _ hf hm _ _ _ hB H locs hP hD hS ls (lv_sub hl [3] rfl)
            · rw [br_p _ hc] at hf
              refine x_aload hx hb d_Ma_naming_138 (lv_at hl 0 rfl) ?_
              obtain ⟨j12, ej12, hf⟩ := bo_some hf
              rw [ej12]
              obtain ⟨r13, g13, hf⟩ := bo_some hf
              refine xg_I (i := j12) (k := 9) hx hb ht hown ck_Pr hK hP (by decide) fk_Ma_60 g13 d_Ma_naming_140 ?_
              refine lv_iconst (v := 3) hx hb d_Ma_naming_143 (by decide) ?_
              refine lv_icmp_ne (tgt := 154) hx hb d_Ma_naming_144 (by decide) (fun hc => ?_) (fun hc => ?_)
              · rw [br_n _ hc] at hf
                refine x_aload hx hb d_Ma_naming_154 (lv_at hl 0 rfl) ?_
                refine lv_lload_n hx hb d_Ma_naming_156 rfl (lv_at hl 2 rfl) ?_
                refine lv_l2i hx hb d_Ma_naming_157 rfl ?_
                obtain ⟨j14, ej14, hf⟩ := bo_some hf
                rw [ej14]
                obtain ⟨w15, g15, hf⟩ := bo_some hf
                refine xp (i := j14) (k := 12) (v := (.inl (r3.toInt32))) hx hb ht hown ck_Pr hK hP hD hS (by decide) fk_Ma_468 rfl g15 rfl rfl d_Ma_naming_158 (fun H locs hP hD hS => ?_)
                have hB := hB.same (pF_c g15)
                refine lv_aload_n hx hb d_Ma_naming_161 rfl (lv_at hl 3 rfl) ?_
                refine lv_iconst (v := 2) hx hb d_Ma_naming_162 (by decide) ?_
                refine lv_iconst (v := 0) hx hb d_Ma_naming_163 (by decide) ?_
                obtain ⟨u16, r16, hc16, hf⟩ := bx_some hf
                obtain ⟨hc16, hz16⟩ := gz_some hc16
                obtain ⟨hf, hw16⟩ := gw_some hf
                refine xS0 (As := [.int 0]) (rest := [.int 2, .ref (ad v0)]) C0 hP hD hS (c_Ma_atom N hc16) k_Ma_atom (wd_of 1668 (by decide +kernel) rfl) ht_Ma_atom hini_Ma rfl rfl hd_Ma_atom rfl rm_Ma_naming_Ma_atom hl.1 (Nat.le_of_ble_eq_true rfl) d_Ma_naming_164 rfl (hB.fit hm hz16 hw16) (fun H locs hP hD hS => ?_)
                have hB := hB.same2 hz16
                obtain ⟨hO9, hf⟩ := ck_some hf
                obtain ⟨hk17, hf⟩ := ck_some hf
                obtain ⟨u17, r17, hc17, hf⟩ := bx_some hf
                obtain ⟨hc17, hq17⟩ := gw_some hc17
                obtain ⟨hf, hw17⟩ := gw_some hf
                refine yV (i := v0) (As := [.int 2, .long r16]) (rest := []) C0 hP hD hS ck_Ma hO9 (c_Ma_answer N hE hc17 (gm hq17)) k_Ma_answer (wd_of 1744 (by decide +kernel) rfl) hi_Ma_answer hs_Ma_answer hini_Ma rfl rfl hd_Ma_answer rfl rm_Ma_naming_Ma_answer hl.1 (Nat.le_of_ble_eq_true rfl) d_Ma_naming_167 rfl (gm hq17) hB hm hw17 (fun ad17 H locs ce sl hg17 hB hP hD hS => ?_)
                have q17_0 : Option.map ad17 r9 = Option.map ad r9 := ko_N (k := 0) hk17 rfl hg17
                have q17_1 : Option.map ad17 r7 = Option.map ad r7 := ko_N (k := 1) hk17 rfl hg17
                have q17_2 : ad17 v0 = ad v0 := ko_O (k := 2) hk17 rfl hg17
                have hl : lv_has ls 6 [(5, va_rf (Option.map ad17 r9)), (4, va_rf (Option.map ad17 r7)), (2, .long r3), (0, .ref (ad17 v0)), (1, .int v1)] := by simp only [q17_0, q17_1, q17_2]; exact hl
                exact yr_v C0 hP hD hS hB hm hf d_Ma_naming_170
              · rw [br_p _ hc] at hf
                exact wb_Ma_naming_147 C0 hE N G hG _ _ _ hf hm _ _ _ hB H locs hP hD hS ls (lv_sub hl [3] rfl)
      · rw [br_p _ hc] at hf
        refine x_aload hx hb d_Ma_naming_84 (lv_at hl 0 rfl) ?_
        refine x_ifnonnull (r := r7) (tgt := 96) hx hb d_Ma_naming_86 (by decide) (fun hc => ?_) (fun hc => ?_)
        · rw [br_n _ hc] at hf
          refine x_aload hx hb d_Ma_naming_96 (lv_at hl 0 rfl) ?_
          refine lv_iconst (v := (-1)) hx hb d_Ma_naming_98 (by decide) ?_
          obtain ⟨j18, ej18, hf⟩ := bo_some hf
          rw [ej18]
          obtain ⟨w19, g19, hf⟩ := bo_some hf
          refine xp (i := j18) (k := 12) (v := (.inl (-1))) hx hb ht hown ck_Pr hK hP hD hS (by decide) fk_Ma_468 rfl g19 rfl rfl d_Ma_naming_99 (fun H locs hP hD hS => ?_)
          have hB := hB.same (pF_c g19)
          refine lv_aload_n hx hb d_Ma_naming_102 rfl (lv_at hl 2 rfl) ?_
          refine lv_iconst (v := 1) hx hb d_Ma_naming_103 (by decide) ?_
          refine lv_iconst (v := 0) hx hb d_Ma_naming_104 (by decide) ?_
          obtain ⟨u20, r20, hc20, hf⟩ := bx_some hf
          obtain ⟨hc20, hz20⟩ := gz_some hc20
          obtain ⟨hf, hw20⟩ := gw_some hf
          refine xS0 (As := [.int 0]) (rest := [.int 1, .ref (ad v0)]) C0 hP hD hS (c_Ma_atom N hc20) k_Ma_atom (wd_of 1668 (by decide +kernel) rfl) ht_Ma_atom hini_Ma rfl rfl hd_Ma_atom rfl rm_Ma_naming_Ma_atom hl.1 (Nat.le_of_ble_eq_true rfl) d_Ma_naming_105 rfl (hB.fit hm hz20 hw20) (fun H locs hP hD hS => ?_)
          have hB := hB.same2 hz20
          obtain ⟨hO9, hf⟩ := ck_some hf
          obtain ⟨hk21, hf⟩ := ck_some hf
          obtain ⟨u21, r21, hc21, hf⟩ := bx_some hf
          obtain ⟨hc21, hq21⟩ := gw_some hc21
          obtain ⟨hf, hw21⟩ := gw_some hf
          refine yV (i := v0) (As := [.int 1, .long r20]) (rest := []) C0 hP hD hS ck_Ma hO9 (c_Ma_answer N hE hc21 (gm hq21)) k_Ma_answer (wd_of 1744 (by decide +kernel) rfl) hi_Ma_answer hs_Ma_answer hini_Ma rfl rfl hd_Ma_answer rfl rm_Ma_naming_Ma_answer hl.1 (Nat.le_of_ble_eq_true rfl) d_Ma_naming_108 rfl (gm hq21) hB hm hw21 (fun ad21 H locs ce sl hg21 hB hP hD hS => ?_)
          have q21_0 : Option.map ad21 r7 = Option.map ad r7 := ko_N (k := 0) hk21 rfl hg21
          have q21_1 : ad21 v0 = ad v0 := ko_O (k := 1) hk21 rfl hg21
          have hl : lv_has ls 6 [(4, va_rf (Option.map ad21 r7)), (2, .long r3), (0, .ref (ad21 v0)), (1, .int v1)] := by simp only [q21_0, q21_1]; exact hl
          exact yr_v C0 hP hD hS hB hm hf d_Ma_naming_111
        · rw [br_p _ hc] at hf
          refine lv_aload_n hx hb d_Ma_naming_89 rfl (lv_at hl 2 rfl) ?_
          refine lv_bipush (v := 11) hx hb d_Ma_naming_90 (by decide) ?_
          obtain ⟨hO9, hf⟩ := ck_some hf
          obtain ⟨u22, r22, hc22, hf⟩ := bx_some hf
          obtain ⟨hc22, hz22⟩ := gz_some hc22
          obtain ⟨hf, hw22⟩ := gw_some hf
          refine xV0 (i := v0) (As := [.int 11]) (rest := []) C0 hP hD hS ck_Ma hO9 (c_Ma_wrong N hc22) k_Ma_wrong (wd_of 1664 (by decide +kernel) rfl) hi_Ma_wrong hs_Ma_wrong hini_Ma rfl rfl hd_Ma_wrong rfl rm_Ma_naming_Ma_wrong hl.1 (Nat.le_of_ble_eq_true rfl) d_Ma_naming_92 rfl (hB.fit hm hz22 hw22) (fun H locs hP hD hS => ?_)
          have hB := hB.same2 hz22
          exact yr_v C0 hP hD hS hB hm hf d_Ma_naming_95
    · rw [br_p _ hc] at hf
      refine lv_aload_n hx hb d_Ma_naming_51 rfl (lv_at hl 2 rfl) ?_
      refine lv_iconst (v := 1) hx hb d_Ma_naming_52 (by decide) ?_
      refine x_aload hx hb d_Ma_naming_53 (lv_at hl 0 rfl) ?_
      refine x_ifnonnull (r := r7) (tgt := 65) hx hb d_Ma_naming_55 (by decide) (fun hc => ?_) (fun hc => ?_)
      · rw [br_n _ hc] at hf
        refine lv_iconst (v := 4) hx hb d_Ma_naming_65 (by decide) ?_
        refine x_aload hx hb d_Ma_naming_66 (lv_at hl 0 rfl) ?_
        obtain ⟨j23, ej23, hf⟩ := bo_some hf
        rw [ej23]
        obtain ⟨r24, g24, hf⟩ := bo_some hf
        refine xg_I (i := j23) (k := 0) hx hb ht hown ck_Pr hK hP (by decide) fk_Ma_282 g24 d_Ma_naming_68 ?_
        obtain ⟨u25, r25, hc25, hf⟩ := bx_some hf
        obtain ⟨hc25, hz25⟩ := gz_some hc25
        obtain ⟨hf, hw25⟩ := gw_some hf
        refine xS0 (As := [.int 4, .int r24]) (rest := [.int 1, .ref (ad v0)]) C0 hP hD hS (c_Te_make N hc25) k_Te_make (wd_of 1671 (by decide +kernel) rfl) ht_Te_make hini_Te rfl rfl hd_Te_make rfl rm_Ma_naming_Te_make hl.1 (Nat.le_of_ble_eq_true rfl) d_Ma_naming_71 rfl (hB.fit hm hz25 hw25) (fun H locs hP hD hS => ?_)
        have hB := hB.same2 hz25
        exact wb_Ma_naming_74 C0 hE N G hG _ _ _ _ _ hf hm _ _ _ hB H locs hP hD hS ls (lv_sub hl [] rfl)
      · rw [br_p _ hc] at hf
        refine lv_iconst (v := 3) hx hb d_Ma_naming_58 (by decide) ?_
        obtain ⟨u26, r26, hc26, hf⟩ := bx_some hf
        obtain ⟨hc26, hz26⟩ := gz_some hc26
        obtain ⟨hf, hw26⟩ := gw_some hf
        refine xS0 (As := [.int 3]) (rest := [.int 1, .ref (ad v0)]) C0 hP hD hS (c_Ma_atom N hc26) k_Ma_atom (wd_of 1668 (by decide +kernel) rfl) ht_Ma_atom hini_Ma rfl rfl hd_Ma_atom rfl rm_Ma_naming_Ma_atom hl.1 (Nat.le_of_ble_eq_true rfl) d_Ma_naming_59 rfl (hB.fit hm hz26 hw26) (fun H locs hP hD hS => ?_)
        have hB := hB.same2 hz26
        refine lv_goto (tgt := 74) hx hb d_Ma_naming_62 (by decide) ?_
        exact wb_Ma_naming_74 C0 hE N G hG _ _ _ _ _ hf hm _ _ _ hB H locs hP hD hS ls (lv_sub hl [] rfl)
  · rw [br_n _ hc] at hf
    refine lv_aload_n hx hb d_Ma_naming_27 rfl (lv_at hl 1 rfl) ?_
    refine lv_bipush (v := 11) hx hb d_Ma_naming_28 (by decide) ?_
    obtain ⟨hO9, hf⟩ := ck_some hf
    obtain ⟨u27, r27, hc27, hf⟩ := bx_some hf
    obtain ⟨hc27, hz27⟩ := gz_some hc27
    obtain ⟨hf, hw27⟩ := gw_some hf
    refine xV0 (i := v0) (As := [.int 11]) (rest := []) C0 hP hD hS ck_Ma hO9 (c_Ma_wrong N hc27) k_Ma_wrong (wd_of 1664 (by decide +kernel) rfl) hi_Ma_wrong hs_Ma_wrong hini_Ma rfl rfl hd_Ma_wrong rfl rm_Ma_naming_Ma_wrong hl.1 (Nat.le_of_ble_eq_true rfl) d_Ma_naming_30 rfl (hB.fit hm hz27 hw27) (fun H locs hP hD hS => ?_)
    have hB := hB.same2 hz27
    exact yr_v C0 hP hD hS hB hm hf d_Ma_naming_33
def fb_Ma_naming_0 (N : Nat) (G : Unit) (u : CS) (v0 : Nat) (v1 : Int32) : Option (CS × Unit) := bo (gR u v0 5 4) (fun r28 => br (decide (v1 = 12)) (fb_Ma_naming_15 N G u (v0) (v1) (r28) (1)) (fb_Ma_naming_15 N G u (v0) (v1) (r28) (0)))
set_option maxRecDepth 100000 in
set_option maxHeartbeats 4000000 in
theorem wb_Ma_naming_0 {p : Program} {l : Launch} {e : Env} {s : State} {m : MethodId} {args : Array Value} {below : List Frame} {meth : Method} {c : Code} {s0 : State} {b0 : Nat} {D : va_G} {cB cI cJ cZ cS cP : ClassId} {A : Nat → Prop} {sk sv : Nat → Nat} {uN uS mc ms : Nat} {ad0 : Nat → Nat} (C0 : XCx p s s0 b0 m args meth c R_Ma b_Ma_naming 6 none D cB cI cJ cZ cS cP A) (hE : ENV s0 b0 sk sv) (N : Nat) (G : Unit) (hG : True) : ∀ (u : CS) (v0 : Nat) (v1 : Int32) (x : CS × Unit), fb_Ma_naming_0 N G u v0 v1 = some x → (uN + mc = x.1.1.1 ∧ uS + ms = x.1.1.2) → ∀ (ad : Nat → Nat) (ce sl : Nat), AB uN uS ad0 u ad ce sl → ∀ (H : Heap) (locs : List Loc), va_P D cls (wC cB cI cJ cZ cS cP ad u) H → va_D A (wC cB cI cJ cZ cS cP ad u) → va_S A s.heap H locs → ∀ (ls : Array Slot), lv_has ls 6 [(0, .ref (ad v0)), (1, .int v1)] → W p l e (rm_Ma_naming mc ms) s m args below meth c H locs ce sl (MQ below (xQ D cB cI cJ cZ cS cP A ad0 uN x.1 none) args s mc ms A) (F0 m 0 ls []) := by
  intro u v0 v1 x hf hm ad ce sl hB H locs hP hD hS ls hl
  obtain ⟨hx, hb, hr, hml, ht, hown, hK, hA, hlocks, hA0, hO, hbs⟩ := id C0
  unfold fb_Ma_naming_0 at hf
  refine lv_aload_n hx hb d_Ma_naming_0 rfl (lv_at hl 0 rfl) ?_
  obtain ⟨r28, g28, hf⟩ := bo_some hf
  refine xg_R (i := v0) (k := 4) hx hb ht hown ck_Ma hK hP (by decide) fk_Ma_33 g28 d_Ma_naming_1 ?_
  refine lv_iload_n hx hb d_Ma_naming_4 rfl (lv_at hl 1 rfl) ?_
  refine lv_bipush (v := 12) hx hb d_Ma_naming_5 (by decide) ?_
  refine lv_icmp_ne (tgt := 14) hx hb d_Ma_naming_7 (by decide) (fun hc => ?_) (fun hc => ?_)
  · rw [br_n _ hc] at hf
    refine lv_iconst (v := 0) hx hb d_Ma_naming_14 (by decide) ?_
    exact wb_Ma_naming_15 C0 hE N G hG _ _ _ _ _ _ hf hm _ _ _ hB H locs hP hD hS ls (lv_sub hl [0, 1] rfl)
  · rw [br_p _ hc] at hf
    refine lv_iconst (v := 1) hx hb d_Ma_naming_10 (by decide) ?_
    refine lv_goto (tgt := 15) hx hb d_Ma_naming_11 (by decide) ?_
    exact wb_Ma_naming_15 C0 hE N G hG _ _ _ _ _ _ hf hm _ _ _ hB H locs hP hD hS ls (lv_sub hl [0, 1] rfl)
def fm_Ma_naming (N : Nat) (u : CS) (v0 : Nat) (v1 : Int32) : Option (CS × Unit) := fb_Ma_naming_0 N () u v0 v1
set_option maxRecDepth 100000 in
set_option maxHeartbeats 4000000 in
theorem c_Ma_naming (N : Nat) {l : Launch} {s0 : State} {b0 : Nat} {D : va_G} {cB cI cJ cZ cS cP : ClassId} {sk sv : Nat → Nat} {ad : Nat → Nat} {u : CS} {sz mc ms : Nat} {v0 : Nat} {v1 : Int32} {x : CS × Unit} (hE : ENV s0 b0 sk sv) (hf : fm_Ma_naming N u v0 v1 = some x) (hm : u.1.1 + mc = x.1.1.1 ∧ u.1.2 + ms = x.1.1.2) : Met l y_Ma_naming (wd_ws y_Ma_naming b_Ma_naming 6 none) (rm_Ma_naming mc ms) (xPc s0 b0 D cB cI cJ cZ cS cP ad u sz [.ref (ad v0), .int v1]) (xQ D cB cI cJ cZ cS cP (xA cB cI cJ cZ cS cP ad u sz) ad u.1.1 x.1 none) mc ms (xA cB cI cJ cZ cS cP ad u sz) :=
  xMet (by decide) rfl (Nat.le_of_ble_eq_true rfl) (fun p e s m below meth c ls hsz hnm C0 hP hD hS hl =>
    wb_Ma_naming_0 C0 hE N () trivial u _ _ x hf hm ad 0 0 ⟨rfl, rfl, fun _ _ => rfl⟩ s.heap [] hP hD hS ls (lv_sub hl [0, 1] rfl))
abbrev b_Ma_part : ByteArray := prog_5_method_55_code
def y_Ma_part : MethodName := ⟨R_Ma, "part", "(IJI)V"⟩
def w_Ma_part : List Cond := wd_ws y_Ma_part b_Ma_part 9 none
set_option maxRecDepth 100000 in
theorem k_Ma_part : Cond.code y_Ma_part b_Ma_part 9 none ∈ wd_tbl := wd_of 1785 rfl rfl
theorem d_Ma_part_0 : decode b_Ma_part 0 = .ok (.lload_n 2, 1) := by decide +kernel
theorem d_Ma_part_1 : decode b_Ma_part 1 = .ok (.l2i, 1) := by decide +kernel
theorem d_Ma_part_2 : decode b_Ma_part 2 = .ok (.istore 5, 2) := by decide +kernel
theorem d_Ma_part_4 : decode b_Ma_part 4 = .ok (.iload_n 1, 1) := by decide +kernel
theorem d_Ma_part_5 : decode b_Ma_part 5 = .ok (.bipush 26, 2) := by decide +kernel
theorem d_Ma_part_7 : decode b_Ma_part 7 = .ok (.if_icmp .ne 47, 3) := by decide +kernel
theorem d_Ma_part_10 : decode b_Ma_part 10 = .ok (.aload_n 0, 1) := by decide +kernel
theorem d_Ma_part_11 : decode b_Ma_part 11 = .ok (.getfield 19, 3) := by decide +kernel
theorem d_Ma_part_14 : decode b_Ma_part 14 = .ok (.aload_n 0, 1) := by decide +kernel
theorem d_Ma_part_15 : decode b_Ma_part 15 = .ok (.getfield 23, 3) := by decide +kernel
theorem d_Ma_part_18 : decode b_Ma_part 18 = .ok (.getfield 195, 3) := by decide +kernel
theorem d_Ma_part_21 : decode b_Ma_part 21 = .ok (.lload_n 2, 1) := by decide +kernel
theorem d_Ma_part_22 : decode b_Ma_part 22 = .ok (.invokevirtual 261, 3) := by decide +kernel
theorem d_Ma_part_25 : decode b_Ma_part 25 = .ok (.istore 6, 2) := by decide +kernel
theorem d_Ma_part_27 : decode b_Ma_part 27 = .ok (.iload 6, 2) := by decide +kernel
theorem d_Ma_part_29 : decode b_Ma_part 29 = .ok (.iconst (-1), 1) := by decide +kernel
theorem d_Ma_part_30 : decode b_Ma_part 30 = .ok (.if_icmp .ne 12, 3) := by decide +kernel
theorem d_Ma_part_33 : decode b_Ma_part 33 = .ok (.aload_n 0, 1) := by decide +kernel
theorem d_Ma_part_34 : decode b_Ma_part 34 = .ok (.bipush 11, 2) := by decide +kernel
theorem d_Ma_part_36 : decode b_Ma_part 36 = .ok (.invokevirtual 249, 3) := by decide +kernel
theorem d_Ma_part_39 : decode b_Ma_part 39 = .ok (.goto 14, 3) := by decide +kernel
theorem d_Ma_part_42 : decode b_Ma_part 42 = .ok (.aload_n 0, 1) := by decide +kernel
theorem d_Ma_part_43 : decode b_Ma_part 43 = .ok (.iconst 1, 1) := by decide +kernel
theorem d_Ma_part_44 : decode b_Ma_part 44 = .ok (.iconst 0, 1) := by decide +kernel
theorem d_Ma_part_45 : decode b_Ma_part 45 = .ok (.iload 6, 2) := by decide +kernel
theorem d_Ma_part_47 : decode b_Ma_part 47 = .ok (.invokestatic 101, 3) := by decide +kernel
theorem d_Ma_part_50 : decode b_Ma_part 50 = .ok (.invokevirtual 145, 3) := by decide +kernel
theorem d_Ma_part_53 : decode b_Ma_part 53 = .ok (.return_, 1) := by decide +kernel
theorem d_Ma_part_54 : decode b_Ma_part 54 = .ok (.iload 4, 2) := by decide +kernel
theorem d_Ma_part_56 : decode b_Ma_part 56 = .ok (.iload_n 1, 1) := by decide +kernel
theorem d_Ma_part_57 : decode b_Ma_part 57 = .ok (.bipush 24, 2) := by decide +kernel
theorem d_Ma_part_59 : decode b_Ma_part 59 = .ok (.if_icmp .eq 9, 3) := by decide +kernel
theorem d_Ma_part_62 : decode b_Ma_part 62 = .ok (.iload_n 1, 1) := by decide +kernel
theorem d_Ma_part_63 : decode b_Ma_part 63 = .ok (.bipush 25, 2) := by decide +kernel
theorem d_Ma_part_65 : decode b_Ma_part 65 = .ok (.if_icmp .ne 8, 3) := by decide +kernel
theorem d_Ma_part_68 : decode b_Ma_part 68 = .ok (.bipush 7, 2) := by decide +kernel
theorem d_Ma_part_70 : decode b_Ma_part 70 = .ok (.goto 4, 3) := by decide +kernel
theorem d_Ma_part_73 : decode b_Ma_part 73 = .ok (.iconst 5, 1) := by decide +kernel
theorem d_Ma_part_74 : decode b_Ma_part 74 = .ok (.if_icmp .eq 10, 3) := by decide +kernel
theorem d_Ma_part_77 : decode b_Ma_part 77 = .ok (.aload_n 0, 1) := by decide +kernel
theorem d_Ma_part_78 : decode b_Ma_part 78 = .ok (.bipush 11, 2) := by decide +kernel
theorem d_Ma_part_80 : decode b_Ma_part 80 = .ok (.invokevirtual 249, 3) := by decide +kernel
theorem d_Ma_part_83 : decode b_Ma_part 83 = .ok (.return_, 1) := by decide +kernel
theorem d_Ma_part_84 : decode b_Ma_part 84 = .ok (.iload_n 1, 1) := by decide +kernel
theorem d_Ma_part_85 : decode b_Ma_part 85 = .ok (.bipush 24, 2) := by decide +kernel
theorem d_Ma_part_87 : decode b_Ma_part 87 = .ok (.if_icmp .eq 9, 3) := by decide +kernel
theorem d_Ma_part_90 : decode b_Ma_part 90 = .ok (.iload_n 1, 1) := by decide +kernel
theorem d_Ma_part_91 : decode b_Ma_part 91 = .ok (.bipush 25, 2) := by decide +kernel
theorem d_Ma_part_93 : decode b_Ma_part 93 = .ok (.if_icmp .ne 32, 3) := by decide +kernel
theorem d_Ma_part_96 : decode b_Ma_part 96 = .ok (.aload_n 0, 1) := by decide +kernel
theorem d_Ma_part_97 : decode b_Ma_part 97 = .ok (.iconst 1, 1) := by decide +kernel
theorem d_Ma_part_98 : decode b_Ma_part 98 = .ok (.aload_n 0, 1) := by decide +kernel
theorem d_Ma_part_99 : decode b_Ma_part 99 = .ok (.getfield 23, 3) := by decide +kernel
theorem d_Ma_part_102 : decode b_Ma_part 102 = .ok (.getfield 195, 3) := by decide +kernel
theorem d_Ma_part_105 : decode b_Ma_part 105 = .ok (.iload_n 1, 1) := by decide +kernel
theorem d_Ma_part_106 : decode b_Ma_part 106 = .ok (.bipush 24, 2) := by decide +kernel
theorem d_Ma_part_108 : decode b_Ma_part 108 = .ok (.if_icmp .ne 8, 3) := by decide +kernel
theorem d_Ma_part_111 : decode b_Ma_part 111 = .ok (.iload 5, 2) := by decide +kernel
theorem d_Ma_part_113 : decode b_Ma_part 113 = .ok (.goto 7, 3) := by decide +kernel
theorem d_Ma_part_116 : decode b_Ma_part 116 = .ok (.iload 5, 2) := by decide +kernel
theorem d_Ma_part_118 : decode b_Ma_part 118 = .ok (.iconst 1, 1) := by decide +kernel
theorem d_Ma_part_119 : decode b_Ma_part 119 = .ok (.iadd, 1) := by decide +kernel
theorem d_Ma_part_120 : decode b_Ma_part 120 = .ok (.laload, 1) := by decide +kernel
theorem d_Ma_part_121 : decode b_Ma_part 121 = .ok (.invokevirtual 145, 3) := by decide +kernel
theorem d_Ma_part_124 : decode b_Ma_part 124 = .ok (.return_, 1) := by decide +kernel
theorem d_Ma_part_125 : decode b_Ma_part 125 = .ok (.aload_n 0, 1) := by decide +kernel
theorem d_Ma_part_126 : decode b_Ma_part 126 = .ok (.getfield 23, 3) := by decide +kernel
theorem d_Ma_part_129 : decode b_Ma_part 129 = .ok (.getfield 195, 3) := by decide +kernel
theorem d_Ma_part_132 : decode b_Ma_part 132 = .ok (.iload 5, 2) := by decide +kernel
theorem d_Ma_part_134 : decode b_Ma_part 134 = .ok (.laload, 1) := by decide +kernel
theorem d_Ma_part_135 : decode b_Ma_part 135 = .ok (.l2i, 1) := by decide +kernel
theorem d_Ma_part_136 : decode b_Ma_part 136 = .ok (.istore 6, 2) := by decide +kernel
theorem d_Ma_part_138 : decode b_Ma_part 138 = .ok (.iload_n 1, 1) := by decide +kernel
theorem d_Ma_part_139 : decode b_Ma_part 139 = .ok (.bipush 28, 2) := by decide +kernel
theorem d_Ma_part_141 : decode b_Ma_part 141 = .ok (.if_icmp .ne 15, 3) := by decide +kernel
theorem d_Ma_part_144 : decode b_Ma_part 144 = .ok (.aload_n 0, 1) := by decide +kernel
theorem d_Ma_part_145 : decode b_Ma_part 145 = .ok (.iconst 1, 1) := by decide +kernel
theorem d_Ma_part_146 : decode b_Ma_part 146 = .ok (.iconst 0, 1) := by decide +kernel
theorem d_Ma_part_147 : decode b_Ma_part 147 = .ok (.iload 6, 2) := by decide +kernel
theorem d_Ma_part_149 : decode b_Ma_part 149 = .ok (.invokestatic 101, 3) := by decide +kernel
theorem d_Ma_part_152 : decode b_Ma_part 152 = .ok (.invokevirtual 145, 3) := by decide +kernel
theorem d_Ma_part_155 : decode b_Ma_part 155 = .ok (.return_, 1) := by decide +kernel
theorem d_Ma_part_156 : decode b_Ma_part 156 = .ok (.aload_n 0, 1) := by decide +kernel
theorem d_Ma_part_157 : decode b_Ma_part 157 = .ok (.getfield 33, 3) := by decide +kernel
theorem d_Ma_part_160 : decode b_Ma_part 160 = .ok (.iconst 1, 1) := by decide +kernel
theorem d_Ma_part_161 : decode b_Ma_part 161 = .ok (.invokevirtual 138, 3) := by decide +kernel
theorem d_Ma_part_164 : decode b_Ma_part 164 = .ok (.lstore 7, 2) := by decide +kernel
theorem d_Ma_part_166 : decode b_Ma_part 166 = .ok (.lload 7, 2) := by decide +kernel
theorem d_Ma_part_168 : decode b_Ma_part 168 = .ok (.invokestatic 253, 3) := by decide +kernel
theorem d_Ma_part_171 : decode b_Ma_part 171 = .ok (.ifCond .ne 18, 3) := by decide +kernel
theorem d_Ma_part_174 : decode b_Ma_part 174 = .ok (.lload 7, 2) := by decide +kernel
theorem d_Ma_part_176 : decode b_Ma_part 176 = .ok (.l2i, 1) := by decide +kernel
theorem d_Ma_part_177 : decode b_Ma_part 177 = .ok (.iconst 1, 1) := by decide +kernel
theorem d_Ma_part_178 : decode b_Ma_part 178 = .ok (.if_icmp .lt 11, 3) := by decide +kernel
theorem d_Ma_part_181 : decode b_Ma_part 181 = .ok (.lload 7, 2) := by decide +kernel
theorem d_Ma_part_183 : decode b_Ma_part 183 = .ok (.l2i, 1) := by decide +kernel
theorem d_Ma_part_184 : decode b_Ma_part 184 = .ok (.iload 6, 2) := by decide +kernel
theorem d_Ma_part_186 : decode b_Ma_part 186 = .ok (.if_icmp .le 10, 3) := by decide +kernel
theorem d_Ma_part_189 : decode b_Ma_part 189 = .ok (.aload_n 0, 1) := by decide +kernel
theorem d_Ma_part_190 : decode b_Ma_part 190 = .ok (.bipush 11, 2) := by decide +kernel
theorem d_Ma_part_192 : decode b_Ma_part 192 = .ok (.invokevirtual 249, 3) := by decide +kernel
theorem d_Ma_part_195 : decode b_Ma_part 195 = .ok (.return_, 1) := by decide +kernel
theorem d_Ma_part_196 : decode b_Ma_part 196 = .ok (.aload_n 0, 1) := by decide +kernel
theorem d_Ma_part_197 : decode b_Ma_part 197 = .ok (.iconst 2, 1) := by decide +kernel
theorem d_Ma_part_198 : decode b_Ma_part 198 = .ok (.aload_n 0, 1) := by decide +kernel
theorem d_Ma_part_199 : decode b_Ma_part 199 = .ok (.getfield 23, 3) := by decide +kernel
theorem d_Ma_part_202 : decode b_Ma_part 202 = .ok (.getfield 195, 3) := by decide +kernel
theorem d_Ma_part_205 : decode b_Ma_part 205 = .ok (.iload 5, 2) := by decide +kernel
theorem d_Ma_part_207 : decode b_Ma_part 207 = .ok (.lload 7, 2) := by decide +kernel
theorem d_Ma_part_209 : decode b_Ma_part 209 = .ok (.l2i, 1) := by decide +kernel
theorem d_Ma_part_210 : decode b_Ma_part 210 = .ok (.iadd, 1) := by decide +kernel
theorem d_Ma_part_211 : decode b_Ma_part 211 = .ok (.laload, 1) := by decide +kernel
theorem d_Ma_part_212 : decode b_Ma_part 212 = .ok (.invokevirtual 145, 3) := by decide +kernel
theorem d_Ma_part_215 : decode b_Ma_part 215 = .ok (.return_, 1) := by decide +kernel
set_option maxRecDepth 100000 in
theorem hl_Ma_part : Cond.methodLink R_Ma 477 y_Ma_part ∈ wd_tbl := wd_of 1782 (by decide +kernel) rfl
set_option maxRecDepth 100000 in
theorem hi_Ma_part : Cond.instanceMethod y_Ma_part ∈ wd_tbl := wd_of 1784 (by decide +kernel) rfl
set_option maxRecDepth 100000 in
theorem hs_Ma_part : Cond.selects R_Ma y_Ma_part y_Ma_part ∈ wd_tbl := wd_of 85 (by decide +kernel) rfl
theorem hd_Ma_part : y_Ma_part.cls = R_Ma ∧ y_Ma_part.cls ≠ "java/lang/invoke/MethodHandle" ∧ y_Ma_part.cls ≠ "java/lang/invoke/VarHandle" ∧ (parseMethodDescriptor y_Ma_part.desc).map (fun d => d.parameters.length) = some 3 := by decide +kernel
def rm_Ma_part (mc ms : Nat) : Room := { frames := 4, cells := mc, slots := ms, locals := 127 }
theorem rm_Ma_part_Te_listLength {mc ms : Nat} : (rm_Te_listLength).frames + 1 ≤ (rm_Ma_part mc ms).frames ∧ 8 + (7 + 11) + (rm_Te_listLength).locals ≤ (rm_Ma_part mc ms).locals := by
  show 1 + 1 ≤ 4 ∧ 8 + (7 + 11) + 21 ≤ 127
  decide
theorem rm_Ma_part_Ma_wrong {mc ms : Nat} : (rm_Ma_wrong).frames + 1 ≤ (rm_Ma_part mc ms).frames ∧ 8 + (2 + 11) + (rm_Ma_wrong).locals ≤ (rm_Ma_part mc ms).locals := by
  show 2 + 1 ≤ 4 ∧ 8 + (2 + 11) + 41 ≤ 127
  decide
theorem rm_Ma_part_Te_make {mc ms : Nat} : (rm_Te_make).frames + 1 ≤ (rm_Ma_part mc ms).frames ∧ 8 + (2 + 11) + (rm_Te_make).locals ≤ (rm_Ma_part mc ms).locals := by
  show 0 + 1 ≤ 4 ∧ 8 + (2 + 11) + 0 ≤ 127
  decide
theorem rm_Ma_part_Ma_answer {mc ms : Nat} {mc2 ms2 : Nat} : (rm_Ma_answer mc2 ms2).frames + 1 ≤ (rm_Ma_part mc ms).frames ∧ 8 + (4 + 11) + (rm_Ma_answer mc2 ms2).locals ≤ (rm_Ma_part mc ms).locals := by
  show 3 + 1 ≤ 4 ∧ 8 + (4 + 11) + 104 ≤ 127
  decide
theorem rm_Ma_part_Fr_below {mc ms : Nat} : (rm_Fr_below).frames + 1 ≤ (rm_Ma_part mc ms).frames ∧ 8 + (3 + 11) + (rm_Fr_below).locals ≤ (rm_Ma_part mc ms).locals := by
  show 0 + 1 ≤ 4 ∧ 8 + (3 + 11) + 0 ≤ 127
  decide
theorem rm_Ma_part_Te_tag {mc ms : Nat} : (rm_Te_tag).frames + 1 ≤ (rm_Ma_part mc ms).frames ∧ 8 + (2 + 11) + (rm_Te_tag).locals ≤ (rm_Ma_part mc ms).locals := by
  show 0 + 1 ≤ 4 ∧ 8 + (2 + 11) + 0 ≤ 127
  decide
def fb_Ma_part_189 (N : Nat) (G : Unit) (u : CS) (v0 : Nat) : Option (CS × Unit) := ck (isO u v0 5) (bx (gz u (fm_Ma_wrong N u v0 11)) (fun u1 r1 => gw u1 (some (u1, ()))))
set_option maxRecDepth 100000 in
set_option maxHeartbeats 4000000 in
theorem wb_Ma_part_189 {p : Program} {l : Launch} {e : Env} {s : State} {m : MethodId} {args : Array Value} {below : List Frame} {meth : Method} {c : Code} {s0 : State} {b0 : Nat} {D : va_G} {cB cI cJ cZ cS cP : ClassId} {A : Nat → Prop} {sk sv : Nat → Nat} {uN uS mc ms : Nat} {ad0 : Nat → Nat} (C0 : XCx p s s0 b0 m args meth c R_Ma b_Ma_part 9 none D cB cI cJ cZ cS cP A) (hE : ENV s0 b0 sk sv) (N : Nat) (G : Unit) (hG : True) : ∀ (u : CS) (v0 : Nat) (x : CS × Unit), fb_Ma_part_189 N G u v0 = some x → (uN + mc = x.1.1.1 ∧ uS + ms = x.1.1.2) → ∀ (ad : Nat → Nat) (ce sl : Nat), AB uN uS ad0 u ad ce sl → ∀ (H : Heap) (locs : List Loc), va_P D cls (wC cB cI cJ cZ cS cP ad u) H → va_D A (wC cB cI cJ cZ cS cP ad u) → va_S A s.heap H locs → ∀ (ls : Array Slot), lv_has ls 9 [(0, .ref (ad v0))] → W p l e (rm_Ma_part mc ms) s m args below meth c H locs ce sl (MQ below (xQ D cB cI cJ cZ cS cP A ad0 uN x.1 none) args s mc ms A) (F0 m 189 ls []) := by
  intro u v0 x hf hm ad ce sl hB H locs hP hD hS ls hl
  obtain ⟨hx, hb, hr, hml, ht, hown, hK, hA, hlocks, hA0, hO, hbs⟩ := id C0
  unfold fb_Ma_part_189 at hf
  refine lv_aload_n hx hb d_Ma_part_189 rfl (lv_at hl 0 rfl) ?_
  refine lv_bipush (v := 11) hx hb d_Ma_part_190 (by decide) ?_
  obtain ⟨hO9, hf⟩ := ck_some hf
  obtain ⟨u1, r1, hc1, hf⟩ := bx_some hf
  obtain ⟨hc1, hz1⟩ := gz_some hc1
  obtain ⟨hf, hw1⟩ := gw_some hf
  refine xV0 (i := v0) (As := [.int 11]) (rest := []) C0 hP hD hS ck_Ma hO9 (c_Ma_wrong N hc1) k_Ma_wrong (wd_of 1664 (by decide +kernel) rfl) hi_Ma_wrong hs_Ma_wrong hini_Ma rfl rfl hd_Ma_wrong rfl rm_Ma_part_Ma_wrong hl.1 (Nat.le_of_ble_eq_true rfl) d_Ma_part_192 rfl (hB.fit hm hz1 hw1) (fun H locs hP hD hS => ?_)
  have hB := hB.same2 hz1
  exact yr_v C0 hP hD hS hB hm hf d_Ma_part_195
def fb_Ma_part_120 (N : Nat) (G : Unit) (u : CS) (t0 : Nat) (t1 : Int32) (t2 : Option Nat) (t3 : Int32) : Option (CS × Unit) := bo t2 (fun j2 => bo (aJ u j2 t3) (fun r3 => ck (isO u t0 5) (bx (gw u (fm_Ma_answer N u t0 t1 r3)) (fun u4 r4 => gw u4 (some (u4, ()))))))
set_option maxRecDepth 100000 in
set_option maxHeartbeats 4000000 in
theorem wb_Ma_part_120 {p : Program} {l : Launch} {e : Env} {s : State} {m : MethodId} {args : Array Value} {below : List Frame} {meth : Method} {c : Code} {s0 : State} {b0 : Nat} {D : va_G} {cB cI cJ cZ cS cP : ClassId} {A : Nat → Prop} {sk sv : Nat → Nat} {uN uS mc ms : Nat} {ad0 : Nat → Nat} (C0 : XCx p s s0 b0 m args meth c R_Ma b_Ma_part 9 none D cB cI cJ cZ cS cP A) (hE : ENV s0 b0 sk sv) (N : Nat) (G : Unit) (hG : True) : ∀ (u : CS) (t0 : Nat) (t1 : Int32) (t2 : Option Nat) (t3 : Int32) (x : CS × Unit), fb_Ma_part_120 N G u t0 t1 t2 t3 = some x → (uN + mc = x.1.1.1 ∧ uS + ms = x.1.1.2) → ∀ (ad : Nat → Nat) (ce sl : Nat), AB uN uS ad0 u ad ce sl → ∀ (H : Heap) (locs : List Loc), va_P D cls (wC cB cI cJ cZ cS cP ad u) H → va_D A (wC cB cI cJ cZ cS cP ad u) → va_S A s.heap H locs → ∀ (ls : Array Slot), lv_has ls 9 [] → W p l e (rm_Ma_part mc ms) s m args below meth c H locs ce sl (MQ below (xQ D cB cI cJ cZ cS cP A ad0 uN x.1 none) args s mc ms A) (F0 m 120 ls [.int t3, va_rf (Option.map ad t2), .int t1, .ref (ad t0)]) := by
  intro u t0 t1 t2 t3 x hf hm ad ce sl hB H locs hP hD hS ls hl
  obtain ⟨hx, hb, hr, hml, ht, hown, hK, hA, hlocks, hA0, hO, hbs⟩ := id C0
  unfold fb_Ma_part_120 at hf
  obtain ⟨j2, ej2, hf⟩ := bo_some hf
  rw [ej2]
  obtain ⟨r3, g3, hf⟩ := bo_some hf
  refine xl_J (i := j2) hx hb hK hP g3 d_Ma_part_120 ?_
  obtain ⟨hO9, hf⟩ := ck_some hf
  obtain ⟨u4, r4, hc4, hf⟩ := bx_some hf
  obtain ⟨hc4, hq4⟩ := gw_some hc4
  obtain ⟨hf, hw4⟩ := gw_some hf
  refine yV (i := t0) (As := [.int t1, .long r3]) (rest := []) C0 hP hD hS ck_Ma hO9 (c_Ma_answer N hE hc4 (gm hq4)) k_Ma_answer (wd_of 1744 (by decide +kernel) rfl) hi_Ma_answer hs_Ma_answer hini_Ma rfl rfl hd_Ma_answer rfl rm_Ma_part_Ma_answer hl.1 (Nat.le_of_ble_eq_true rfl) d_Ma_part_121 rfl (gm hq4) hB hm hw4 (fun ad4 H locs ce sl hg4 hB hP hD hS => ?_)
  exact yr_v C0 hP hD hS hB hm hf d_Ma_part_124
def fb_Ma_part_96 (N : Nat) (G : Unit) (u : CS) (v0 : Nat) (v1 : Int32) (v5 : Int32) : Option (CS × Unit) := bo (gR u v0 5 3) (fun r5 => bo r5 (fun j6 => bo (gR u j6 7 2) (fun r7 => br (decide (v1 = 24)) (fb_Ma_part_120 N G u (v0) (1) (r7) (v5)) (fb_Ma_part_120 N G u (v0) (1) (r7) ((v5 + 1))))))
set_option maxRecDepth 100000 in
set_option maxHeartbeats 4000000 in
theorem wb_Ma_part_96 {p : Program} {l : Launch} {e : Env} {s : State} {m : MethodId} {args : Array Value} {below : List Frame} {meth : Method} {c : Code} {s0 : State} {b0 : Nat} {D : va_G} {cB cI cJ cZ cS cP : ClassId} {A : Nat → Prop} {sk sv : Nat → Nat} {uN uS mc ms : Nat} {ad0 : Nat → Nat} (C0 : XCx p s s0 b0 m args meth c R_Ma b_Ma_part 9 none D cB cI cJ cZ cS cP A) (hE : ENV s0 b0 sk sv) (N : Nat) (G : Unit) (hG : True) : ∀ (u : CS) (v0 : Nat) (v1 : Int32) (v5 : Int32) (x : CS × Unit), fb_Ma_part_96 N G u v0 v1 v5 = some x → (uN + mc = x.1.1.1 ∧ uS + ms = x.1.1.2) → ∀ (ad : Nat → Nat) (ce sl : Nat), AB uN uS ad0 u ad ce sl → ∀ (H : Heap) (locs : List Loc), va_P D cls (wC cB cI cJ cZ cS cP ad u) H → va_D A (wC cB cI cJ cZ cS cP ad u) → va_S A s.heap H locs → ∀ (ls : Array Slot), lv_has ls 9 [(0, .ref (ad v0)), (1, .int v1), (5, .int v5)] → W p l e (rm_Ma_part mc ms) s m args below meth c H locs ce sl (MQ below (xQ D cB cI cJ cZ cS cP A ad0 uN x.1 none) args s mc ms A) (F0 m 96 ls []) := by
  intro u v0 v1 v5 x hf hm ad ce sl hB H locs hP hD hS ls hl
  obtain ⟨hx, hb, hr, hml, ht, hown, hK, hA, hlocks, hA0, hO, hbs⟩ := id C0
  unfold fb_Ma_part_96 at hf
  refine lv_aload_n hx hb d_Ma_part_96 rfl (lv_at hl 0 rfl) ?_
  refine lv_iconst (v := 1) hx hb d_Ma_part_97 (by decide) ?_
  refine lv_aload_n hx hb d_Ma_part_98 rfl (lv_at hl 0 rfl) ?_
  obtain ⟨r5, g5, hf⟩ := bo_some hf
  refine xg_R (i := v0) (k := 3) hx hb ht hown ck_Ma hK hP (by decide) fk_Ma_23 g5 d_Ma_part_99 ?_
  obtain ⟨j6, ej6, hf⟩ := bo_some hf
  rw [ej6]
  obtain ⟨r7, g7, hf⟩ := bo_some hf
  refine xg_R (i := j6) (k := 2) hx hb ht hown ck_Pr hK hP (by decide) fk_Ma_195 g7 d_Ma_part_102 ?_
  refine lv_iload_n hx hb d_Ma_part_105 rfl (lv_at hl 1 rfl) ?_
  refine lv_bipush (v := 24) hx hb d_Ma_part_106 (by decide) ?_
  refine lv_icmp_ne (tgt := 116) hx hb d_Ma_part_108 (by decide) (fun hc => ?_) (fun hc => ?_)
  · rw [br_n _ hc] at hf
    refine lv_iload hx hb d_Ma_part_116 (lv_at hl 2 rfl) ?_
    refine lv_iconst (v := 1) hx hb d_Ma_part_118 (by decide) ?_
    refine lv_iadd hx hb d_Ma_part_119 ?_
    exact wb_Ma_part_120 C0 hE N G hG _ _ _ _ _ _ hf hm _ _ _ hB H locs hP hD hS ls (lv_sub hl [] rfl)
  · rw [br_p _ hc] at hf
    refine lv_iload hx hb d_Ma_part_111 (lv_at hl 2 rfl) ?_
    refine lv_goto (tgt := 120) hx hb d_Ma_part_113 (by decide) ?_
    exact wb_Ma_part_120 C0 hE N G hG _ _ _ _ _ _ hf hm _ _ _ hB H locs hP hD hS ls (lv_sub hl [] rfl)
def fb_Ma_part_74 (N : Nat) (G : Unit) (u : CS) (v0 : Nat) (v1 : Int32) (v5 : Int32) (t0 : Int32) (t1 : Int32) : Option (CS × Unit) := br (decide (t0 = t1)) (br (decide (v1 = 24)) (fb_Ma_part_96 N G u (v0) (v1) (v5)) (br (decide (v1 = 25)) (fb_Ma_part_96 N G u (v0) (v1) (v5)) (bo (gR u v0 5 3) (fun r8 => bo r8 (fun j9 => bo (gR u j9 7 2) (fun r10 => bo r10 (fun j11 => bo (aJ u j11 v5) (fun r12 => br (decide (v1 = 28)) (bx (gz u (fm_Te_make N u 0 (r12.toInt32))) (fun u23 r23 => gw u23 (ck (isO u23 v0 5) (ck (List.all [some v0] (okR u23.1.1)) (bx (gw u23 (fm_Ma_answer N u23 v0 1 r23)) (fun u24 r24 => gw u24 (some (u24, ())))))))) (bo (gR u v0 5 4) (fun r13 => bo r13 (fun j15 => ck (isO u j15 4) (bx (gz u (fm_Fr_below N u j15 1)) (fun u14 r14 => gw u14 (bx (gz u14 (fm_Te_tag N u14 r14)) (fun u16 r16 => gw u16 (br (decide (r16 = 0)) (br (decide (r14.toInt32 < 1)) (fb_Ma_part_189 N G u16 (v0)) (br (decide (r14.toInt32 ≤ r12.toInt32)) (bo (gR u16 v0 5 3) (fun r17 => bo r17 (fun j18 => bo (gR u16 j18 7 2) (fun r19 => bo r19 (fun j20 => bo (aJ u16 j20 (v5 + r14.toInt32)) (fun r21 => ck (isO u16 v0 5) (ck (List.all [some v0] (okR u16.1.1)) (bx (gw u16 (fm_Ma_answer N u16 v0 2 r21)) (fun u22 r22 => gw u22 (some (u22, ()))))))))))) (fb_Ma_part_189 N G u16 (v0)))) (fb_Ma_part_189 N G u16 (v0)))))))))))))))))) (ck (isO u v0 5) (bx (gz u (fm_Ma_wrong N u v0 11)) (fun u25 r25 => gw u25 (some (u25, ())))))
set_option maxRecDepth 100000 in
set_option maxHeartbeats 4000000 in
theorem wb_Ma_part_74 {p : Program} {l : Launch} {e : Env} {s : State} {m : MethodId} {args : Array Value} {below : List Frame} {meth : Method} {c : Code} {s0 : State} {b0 : Nat} {D : va_G} {cB cI cJ cZ cS cP : ClassId} {A : Nat → Prop} {sk sv : Nat → Nat} {uN uS mc ms : Nat} {ad0 : Nat → Nat} (C0 : XCx p s s0 b0 m args meth c R_Ma b_Ma_part 9 none D cB cI cJ cZ cS cP A) (hE : ENV s0 b0 sk sv) (N : Nat) (G : Unit) (hG : True) : ∀ (u : CS) (v0 : Nat) (v1 : Int32) (v5 : Int32) (t0 : Int32) (t1 : Int32) (x : CS × Unit), fb_Ma_part_74 N G u v0 v1 v5 t0 t1 = some x → (uN + mc = x.1.1.1 ∧ uS + ms = x.1.1.2) → ∀ (ad : Nat → Nat) (ce sl : Nat), AB uN uS ad0 u ad ce sl → ∀ (H : Heap) (locs : List Loc), va_P D cls (wC cB cI cJ cZ cS cP ad u) H → va_D A (wC cB cI cJ cZ cS cP ad u) → va_S A s.heap H locs → ∀ (ls : Array Slot), lv_has ls 9 [(0, .ref (ad v0)), (1, .int v1), (5, .int v5)] → W p l e (rm_Ma_part mc ms) s m args below meth c H locs ce sl (MQ below (xQ D cB cI cJ cZ cS cP A ad0 uN x.1 none) args s mc ms A) (F0 m 74 ls [.int t1, .int t0]) := by
  intro u v0 v1 v5 t0 t1 x hf hm ad ce sl hB H locs hP hD hS ls hl
  obtain ⟨hx, hb, hr, hml, ht, hown, hK, hA, hlocks, hA0, hO, hbs⟩ := id C0
  unfold fb_Ma_part_74 at hf
  refine lv_icmp_eq (tgt := 84) hx hb d_Ma_part_74 (by decide) (fun hc => ?_) (fun hc => ?_)
  · rw [br_p _ hc] at hf
    refine lv_iload_n hx hb d_Ma_part_84 rfl (lv_at hl 1 rfl) ?_
    refine lv_bipush (v := 24) hx hb d_Ma_part_85 (by decide) ?_
    refine lv_icmp_eq (tgt := 96) hx hb d_Ma_part_87 (by decide) (fun hc => ?_) (fun hc => ?_)
    · rw [br_p _ hc] at hf
      exact wb_Ma_part_96 C0 hE N G hG _ _ _ _ _ hf hm _ _ _ hB H locs hP hD hS ls (lv_sub hl [0, 1, 2] rfl)
    · rw [br_n _ hc] at hf
      refine lv_iload_n hx hb d_Ma_part_90 rfl (lv_at hl 1 rfl) ?_
      refine lv_bipush (v := 25) hx hb d_Ma_part_91 (by decide) ?_
      refine lv_icmp_ne (tgt := 125) hx hb d_Ma_part_93 (by decide) (fun hc => ?_) (fun hc => ?_)
      · rw [br_n _ hc] at hf
        refine lv_aload_n hx hb d_Ma_part_125 rfl (lv_at hl 0 rfl) ?_
        obtain ⟨r8, g8, hf⟩ := bo_some hf
        refine xg_R (i := v0) (k := 3) hx hb ht hown ck_Ma hK hP (by decide) fk_Ma_23 g8 d_Ma_part_126 ?_
        obtain ⟨j9, ej9, hf⟩ := bo_some hf
        rw [ej9]
        obtain ⟨r10, g10, hf⟩ := bo_some hf
        refine xg_R (i := j9) (k := 2) hx hb ht hown ck_Pr hK hP (by decide) fk_Ma_195 g10 d_Ma_part_129 ?_
        refine lv_iload hx hb d_Ma_part_132 (lv_at hl 2 rfl) ?_
        obtain ⟨j11, ej11, hf⟩ := bo_some hf
        rw [ej11]
        obtain ⟨r12, g12, hf⟩ := bo_some hf
        refine xl_J (i := j11) hx hb hK hP g12 d_Ma_part_134 ?_
        refine lv_l2i hx hb d_Ma_part_135 rfl ?_
        refine lv_istore (lv' := [(6, .int r12.toInt32), (0, .ref (ad v0)), (1, .int v1), (5, .int v5)]) hx hb d_Ma_part_136 hl (by decide) (by first | rfl | simp [List.filter, cat_rf]) (fun ls hl => ?_)
        refine lv_iload_n hx hb d_Ma_part_138 rfl (lv_at hl 2 rfl) ?_
        refine lv_bipush (v := 28) hx hb d_Ma_part_139 (by decide) ?_
        refine lv_icmp_ne (tgt := 156) hx hb d_Ma_part_141 (by decide) (fun hc => ?_) (fun hc => ?_)
        · rw [br_n _ hc] at hf
          refine lv_aload_n hx hb d_Ma_part_156 rfl (lv_at hl 1 rfl) ?_
          obtain ⟨r13, g13, hf⟩ := bo_some hf
          refine xg_R (i := v0) (k := 4) hx hb ht hown ck_Ma hK hP (by decide) fk_Ma_33 g13 d_Ma_part_157 ?_
          refine lv_iconst (v := 1) hx hb d_Ma_part_160 (by decide) ?_
          obtain ⟨j15, ej15, hf⟩ := bo_some hf
          rw [ej15]
          obtain ⟨hO9, hf⟩ := ck_some hf
          obtain ⟨u14, r14, hc14, hf⟩ := bx_some hf
          obtain ⟨hc14, hz14⟩ := gz_some hc14
          obtain ⟨hf, hw14⟩ := gw_some hf
          refine xV0 (i := j15) (As := [.int 1]) (rest := []) C0 hP hD hS ck_Fr hO9 (c_Fr_below N hc14) k_Fr_below (wd_of 1653 (by decide +kernel) rfl) hi_Fr_below hs_Fr_below hini_Fr rfl rfl hd_Fr_below rfl rm_Ma_part_Fr_below hl.1 (Nat.le_of_ble_eq_true rfl) d_Ma_part_161 rfl (hB.fit hm hz14 hw14) (fun H locs hP hD hS => ?_)
          have hB := hB.same2 hz14
          refine lv_lstore (lv' := [(7, .long r14), (6, .int r12.toInt32), (0, .ref (ad v0)), (1, .int v1), (5, .int v5)]) hx hb d_Ma_part_164 hl (by decide) (by first | rfl | simp [List.filter, cat_rf]) (fun ls hl => ?_)
          refine lv_lload hx hb d_Ma_part_166 (lv_at hl 0 rfl) ?_
          obtain ⟨u16, r16, hc16, hf⟩ := bx_some hf
          obtain ⟨hc16, hz16⟩ := gz_some hc16
          obtain ⟨hf, hw16⟩ := gw_some hf
          refine xS0 (As := [.long r14]) (rest := []) C0 hP hD hS (c_Te_tag N hc16) k_Te_tag (wd_of 1657 (by decide +kernel) rfl) ht_Te_tag hini_Te rfl rfl hd_Te_tag rfl rm_Ma_part_Te_tag hl.1 (Nat.le_of_ble_eq_true rfl) d_Ma_part_168 rfl (hB.fit hm hz16 hw16) (fun H locs hP hD hS => ?_)
          have hB := hB.same2 hz16
          refine lv_if_ne (tgt := 189) hx hb d_Ma_part_171 (by decide) (fun hc => ?_) (fun hc => ?_)
          · rw [br_n _ hc] at hf
            exact wb_Ma_part_189 C0 hE N G hG _ _ _ hf hm _ _ _ hB H locs hP hD hS ls (lv_sub hl [2] rfl)
          · rw [br_p _ hc] at hf
            refine lv_lload hx hb d_Ma_part_174 (lv_at hl 0 rfl) ?_
            refine lv_l2i hx hb d_Ma_part_176 rfl ?_
            refine lv_iconst (v := 1) hx hb d_Ma_part_177 (by decide) ?_
            refine lv_icmp_lt (tgt := 189) hx hb d_Ma_part_178 (by decide) (fun hc => ?_) (fun hc => ?_)
            · rw [br_p _ hc] at hf
              exact wb_Ma_part_189 C0 hE N G hG _ _ _ hf hm _ _ _ hB H locs hP hD hS ls (lv_sub hl [2] rfl)
            · rw [br_n _ hc] at hf
              refine lv_lload hx hb d_Ma_part_181 (lv_at hl 0 rfl) ?_
              refine lv_l2i hx hb d_Ma_part_183 rfl ?_
              refine lv_iload hx hb d_Ma_part_184 (lv_at hl 1 rfl) ?_
              refine lv_icmp_le (tgt := 196) hx hb d_Ma_part_186 (by decide) (fun hc => ?_) (fun hc => ?_)
              · rw [br_p _ hc] at hf
                refine lv_aload_n hx hb d_Ma_part_196 rfl (lv_at hl 2 rfl) ?_
                refine lv_iconst (v := 2) hx hb d_Ma_part_197 (by decide) ?_
                refine lv_aload_n hx hb d_Ma_part_198 rfl (lv_at hl 2 rfl) ?_
                obtain ⟨r17, g17, hf⟩ := bo_some hf
                refine xg_R (i := v0) (k := 3) hx hb ht hown ck_Ma hK hP (by decide) fk_Ma_23 g17 d_Ma_part_199 ?_
                obtain ⟨j18, ej18, hf⟩ := bo_some hf
                rw [ej18]
                obtain ⟨r19, g19, hf⟩ := bo_some hf
                refine xg_R (i := j18) (k := 2) hx hb ht hown ck_Pr hK hP (by decide) fk_Ma_195 g19 d_Ma_part_202 ?_
                refine lv_iload hx hb d_Ma_part_205 (lv_at hl 4 rfl) ?_
                refine lv_lload hx hb d_Ma_part_207 (lv_at hl 0 rfl) ?_
                refine lv_l2i hx hb d_Ma_part_209 rfl ?_
                refine lv_iadd hx hb d_Ma_part_210 ?_
                obtain ⟨j20, ej20, hf⟩ := bo_some hf
                rw [ej20]
                obtain ⟨r21, g21, hf⟩ := bo_some hf
                refine xl_J (i := j20) hx hb hK hP g21 d_Ma_part_211 ?_
                obtain ⟨hO9, hf⟩ := ck_some hf
                obtain ⟨hk22, hf⟩ := ck_some hf
                obtain ⟨u22, r22, hc22, hf⟩ := bx_some hf
                obtain ⟨hc22, hq22⟩ := gw_some hc22
                obtain ⟨hf, hw22⟩ := gw_some hf
                refine yV (i := v0) (As := [.int 2, .long r21]) (rest := []) C0 hP hD hS ck_Ma hO9 (c_Ma_answer N hE hc22 (gm hq22)) k_Ma_answer (wd_of 1744 (by decide +kernel) rfl) hi_Ma_answer hs_Ma_answer hini_Ma rfl rfl hd_Ma_answer rfl rm_Ma_part_Ma_answer hl.1 (Nat.le_of_ble_eq_true rfl) d_Ma_part_212 rfl (gm hq22) hB hm hw22 (fun ad22 H locs ce sl hg22 hB hP hD hS => ?_)
                have q22_0 : ad22 v0 = ad v0 := ko_O (k := 0) hk22 rfl hg22
                have hl : lv_has ls 9 [(7, .long r14), (6, .int r12.toInt32), (0, .ref (ad22 v0)), (1, .int v1), (5, .int v5)] := by simp only [q22_0]; exact hl
                exact yr_v C0 hP hD hS hB hm hf d_Ma_part_215
              · rw [br_n _ hc] at hf
                exact wb_Ma_part_189 C0 hE N G hG _ _ _ hf hm _ _ _ hB H locs hP hD hS ls (lv_sub hl [2] rfl)
        · rw [br_p _ hc] at hf
          refine lv_aload_n hx hb d_Ma_part_144 rfl (lv_at hl 1 rfl) ?_
          refine lv_iconst (v := 1) hx hb d_Ma_part_145 (by decide) ?_
          refine lv_iconst (v := 0) hx hb d_Ma_part_146 (by decide) ?_
          refine lv_iload hx hb d_Ma_part_147 (lv_at hl 0 rfl) ?_
          obtain ⟨u23, r23, hc23, hf⟩ := bx_some hf
          obtain ⟨hc23, hz23⟩ := gz_some hc23
          obtain ⟨hf, hw23⟩ := gw_some hf
          refine xS0 (As := [.int 0, .int r12.toInt32]) (rest := [.int 1, .ref (ad v0)]) C0 hP hD hS (c_Te_make N hc23) k_Te_make (wd_of 1671 (by decide +kernel) rfl) ht_Te_make hini_Te rfl rfl hd_Te_make rfl rm_Ma_part_Te_make hl.1 (Nat.le_of_ble_eq_true rfl) d_Ma_part_149 rfl (hB.fit hm hz23 hw23) (fun H locs hP hD hS => ?_)
          have hB := hB.same2 hz23
          obtain ⟨hO9, hf⟩ := ck_some hf
          obtain ⟨hk24, hf⟩ := ck_some hf
          obtain ⟨u24, r24, hc24, hf⟩ := bx_some hf
          obtain ⟨hc24, hq24⟩ := gw_some hc24
          obtain ⟨hf, hw24⟩ := gw_some hf
          refine yV (i := v0) (As := [.int 1, .long r23]) (rest := []) C0 hP hD hS ck_Ma hO9 (c_Ma_answer N hE hc24 (gm hq24)) k_Ma_answer (wd_of 1744 (by decide +kernel) rfl) hi_Ma_answer hs_Ma_answer hini_Ma rfl rfl hd_Ma_answer rfl rm_Ma_part_Ma_answer hl.1 (Nat.le_of_ble_eq_true rfl) d_Ma_part_152 rfl (gm hq24) hB hm hw24 (fun ad24 H locs ce sl hg24 hB hP hD hS => ?_)
          have q24_0 : ad24 v0 = ad v0 := ko_O (k := 0) hk24 rfl hg24
          have hl : lv_has ls 9 [(6, .int r12.toInt32), (0, .ref (ad24 v0)), (1, .int v1), (5, .int v5)] := by simp only [q24_0]; exact hl
          exact yr_v C0 hP hD hS hB hm hf d_Ma_part_155
      · rw [br_p _ hc] at hf
        exact wb_Ma_part_96 C0 hE N G hG _ _ _ _ _ hf hm _ _ _ hB H locs hP hD hS ls (lv_sub hl [0, 1, 2] rfl)
  · rw [br_n _ hc] at hf
    refine lv_aload_n hx hb d_Ma_part_77 rfl (lv_at hl 0 rfl) ?_
    refine lv_bipush (v := 11) hx hb d_Ma_part_78 (by decide) ?_
    obtain ⟨hO9, hf⟩ := ck_some hf
    obtain ⟨u25, r25, hc25, hf⟩ := bx_some hf
    obtain ⟨hc25, hz25⟩ := gz_some hc25
    obtain ⟨hf, hw25⟩ := gw_some hf
    refine xV0 (i := v0) (As := [.int 11]) (rest := []) C0 hP hD hS ck_Ma hO9 (c_Ma_wrong N hc25) k_Ma_wrong (wd_of 1664 (by decide +kernel) rfl) hi_Ma_wrong hs_Ma_wrong hini_Ma rfl rfl hd_Ma_wrong rfl rm_Ma_part_Ma_wrong hl.1 (Nat.le_of_ble_eq_true rfl) d_Ma_part_80 rfl (hB.fit hm hz25 hw25) (fun H locs hP hD hS => ?_)
    have hB := hB.same2 hz25
    exact yr_v C0 hP hD hS hB hm hf d_Ma_part_83
def fb_Ma_part_68 (N : Nat) (G : Unit) (u : CS) (v0 : Nat) (v1 : Int32) (v5 : Int32) (t0 : Int32) : Option (CS × Unit) := fb_Ma_part_74 N G u (v0) (v1) (v5) (t0) (7)
set_option maxRecDepth 100000 in
set_option maxHeartbeats 4000000 in
theorem wb_Ma_part_68 {p : Program} {l : Launch} {e : Env} {s : State} {m : MethodId} {args : Array Value} {below : List Frame} {meth : Method} {c : Code} {s0 : State} {b0 : Nat} {D : va_G} {cB cI cJ cZ cS cP : ClassId} {A : Nat → Prop} {sk sv : Nat → Nat} {uN uS mc ms : Nat} {ad0 : Nat → Nat} (C0 : XCx p s s0 b0 m args meth c R_Ma b_Ma_part 9 none D cB cI cJ cZ cS cP A) (hE : ENV s0 b0 sk sv) (N : Nat) (G : Unit) (hG : True) : ∀ (u : CS) (v0 : Nat) (v1 : Int32) (v5 : Int32) (t0 : Int32) (x : CS × Unit), fb_Ma_part_68 N G u v0 v1 v5 t0 = some x → (uN + mc = x.1.1.1 ∧ uS + ms = x.1.1.2) → ∀ (ad : Nat → Nat) (ce sl : Nat), AB uN uS ad0 u ad ce sl → ∀ (H : Heap) (locs : List Loc), va_P D cls (wC cB cI cJ cZ cS cP ad u) H → va_D A (wC cB cI cJ cZ cS cP ad u) → va_S A s.heap H locs → ∀ (ls : Array Slot), lv_has ls 9 [(0, .ref (ad v0)), (1, .int v1), (5, .int v5)] → W p l e (rm_Ma_part mc ms) s m args below meth c H locs ce sl (MQ below (xQ D cB cI cJ cZ cS cP A ad0 uN x.1 none) args s mc ms A) (F0 m 68 ls [.int t0]) := by
  intro u v0 v1 v5 t0 x hf hm ad ce sl hB H locs hP hD hS ls hl
  obtain ⟨hx, hb, hr, hml, ht, hown, hK, hA, hlocks, hA0, hO, hbs⟩ := id C0
  unfold fb_Ma_part_68 at hf
  refine lv_bipush (v := 7) hx hb d_Ma_part_68 (by decide) ?_
  refine lv_goto (tgt := 74) hx hb d_Ma_part_70 (by decide) ?_
  exact wb_Ma_part_74 C0 hE N G hG _ _ _ _ _ _ _ hf hm _ _ _ hB H locs hP hD hS ls (lv_sub hl [0, 1, 2] rfl)
def fb_Ma_part_53 (N : Nat) (G : Unit) (u : CS) : Option (CS × Unit) := some (u, ())
set_option maxRecDepth 100000 in
set_option maxHeartbeats 4000000 in
theorem wb_Ma_part_53 {p : Program} {l : Launch} {e : Env} {s : State} {m : MethodId} {args : Array Value} {below : List Frame} {meth : Method} {c : Code} {s0 : State} {b0 : Nat} {D : va_G} {cB cI cJ cZ cS cP : ClassId} {A : Nat → Prop} {sk sv : Nat → Nat} {uN uS mc ms : Nat} {ad0 : Nat → Nat} (C0 : XCx p s s0 b0 m args meth c R_Ma b_Ma_part 9 none D cB cI cJ cZ cS cP A) (hE : ENV s0 b0 sk sv) (N : Nat) (G : Unit) (hG : True) : ∀ (u : CS) (x : CS × Unit), fb_Ma_part_53 N G u = some x → (uN + mc = x.1.1.1 ∧ uS + ms = x.1.1.2) → ∀ (ad : Nat → Nat) (ce sl : Nat), AB uN uS ad0 u ad ce sl → ∀ (H : Heap) (locs : List Loc), va_P D cls (wC cB cI cJ cZ cS cP ad u) H → va_D A (wC cB cI cJ cZ cS cP ad u) → va_S A s.heap H locs → ∀ (ls : Array Slot), lv_has ls 9 [] → W p l e (rm_Ma_part mc ms) s m args below meth c H locs ce sl (MQ below (xQ D cB cI cJ cZ cS cP A ad0 uN x.1 none) args s mc ms A) (F0 m 53 ls []) := by
  intro u x hf hm ad ce sl hB H locs hP hD hS ls hl
  obtain ⟨hx, hb, hr, hml, ht, hown, hK, hA, hlocks, hA0, hO, hbs⟩ := id C0
  unfold fb_Ma_part_53 at hf
  exact yr_v C0 hP hD hS hB hm hf d_Ma_part_53
def fb_Ma_part_0 (N : Nat) (G : Unit) (u : CS) (v0 : Nat) (v1 : Int32) (v2 : Int64) (v4 : Int32) : Option (CS × Unit) := br (decide (v1 = 26)) (bo (gR u v0 5 2) (fun r26 => bo (gR u v0 5 3) (fun r27 => bo r27 (fun j28 => bo (gR u j28 7 2) (fun r29 => bo r26 (fun j31 => ck (isO u j31 8) (bx (gz u (fm_Te_listLength N u j31 r29 v2)) (fun u30 r30 => gw u30 (br (decide (r30 = (-1))) (ck (isO u30 v0 5) (bx (gz u30 (fm_Ma_wrong N u30 v0 11)) (fun u34 r34 => gw u34 (fb_Ma_part_53 N G u34)))) (bx (gz u30 (fm_Te_make N u30 0 r30)) (fun u32 r32 => gw u32 (ck (isO u32 v0 5) (ck (List.all [some v0] (okR u32.1.1)) (bx (gw u32 (fm_Ma_answer N u32 v0 1 r32)) (fun u33 r33 => gw u33 (fb_Ma_part_53 N G u33)))))))))))))))) (br (decide (v1 = 24)) (fb_Ma_part_68 N G u (v0) (v1) (v2.toInt32) (v4)) (br (decide (v1 = 25)) (fb_Ma_part_68 N G u (v0) (v1) (v2.toInt32) (v4)) (fb_Ma_part_74 N G u (v0) (v1) (v2.toInt32) (v4) (5))))
set_option maxRecDepth 100000 in
set_option maxHeartbeats 4000000 in
theorem wb_Ma_part_0 {p : Program} {l : Launch} {e : Env} {s : State} {m : MethodId} {args : Array Value} {below : List Frame} {meth : Method} {c : Code} {s0 : State} {b0 : Nat} {D : va_G} {cB cI cJ cZ cS cP : ClassId} {A : Nat → Prop} {sk sv : Nat → Nat} {uN uS mc ms : Nat} {ad0 : Nat → Nat} (C0 : XCx p s s0 b0 m args meth c R_Ma b_Ma_part 9 none D cB cI cJ cZ cS cP A) (hE : ENV s0 b0 sk sv) (N : Nat) (G : Unit) (hG : True) : ∀ (u : CS) (v0 : Nat) (v1 : Int32) (v2 : Int64) (v4 : Int32) (x : CS × Unit), fb_Ma_part_0 N G u v0 v1 v2 v4 = some x → (uN + mc = x.1.1.1 ∧ uS + ms = x.1.1.2) → ∀ (ad : Nat → Nat) (ce sl : Nat), AB uN uS ad0 u ad ce sl → ∀ (H : Heap) (locs : List Loc), va_P D cls (wC cB cI cJ cZ cS cP ad u) H → va_D A (wC cB cI cJ cZ cS cP ad u) → va_S A s.heap H locs → ∀ (ls : Array Slot), lv_has ls 9 [(0, .ref (ad v0)), (1, .int v1), (2, .long v2), (4, .int v4)] → W p l e (rm_Ma_part mc ms) s m args below meth c H locs ce sl (MQ below (xQ D cB cI cJ cZ cS cP A ad0 uN x.1 none) args s mc ms A) (F0 m 0 ls []) := by
  intro u v0 v1 v2 v4 x hf hm ad ce sl hB H locs hP hD hS ls hl
  obtain ⟨hx, hb, hr, hml, ht, hown, hK, hA, hlocks, hA0, hO, hbs⟩ := id C0
  unfold fb_Ma_part_0 at hf
  refine lv_lload_n hx hb d_Ma_part_0 rfl (lv_at hl 2 rfl) ?_
  refine lv_l2i hx hb d_Ma_part_1 rfl ?_
  refine lv_istore (lv' := [(5, .int v2.toInt32), (0, .ref (ad v0)), (1, .int v1), (2, .long v2), (4, .int v4)]) hx hb d_Ma_part_2 hl (by decide) (by first | rfl | simp [List.filter, cat_rf]) (fun ls hl => ?_)
  refine lv_iload_n hx hb d_Ma_part_4 rfl (lv_at hl 2 rfl) ?_
  refine lv_bipush (v := 26) hx hb d_Ma_part_5 (by decide) ?_
  refine lv_icmp_ne (tgt := 54) hx hb d_Ma_part_7 (by decide) (fun hc => ?_) (fun hc => ?_)
  · rw [br_n _ hc] at hf
    refine lv_iload hx hb d_Ma_part_54 (lv_at hl 4 rfl) ?_
    refine lv_iload_n hx hb d_Ma_part_56 rfl (lv_at hl 2 rfl) ?_
    refine lv_bipush (v := 24) hx hb d_Ma_part_57 (by decide) ?_
    refine lv_icmp_eq (tgt := 68) hx hb d_Ma_part_59 (by decide) (fun hc => ?_) (fun hc => ?_)
    · rw [br_p _ hc] at hf
      exact wb_Ma_part_68 C0 hE N G hG _ _ _ _ _ _ hf hm _ _ _ hB H locs hP hD hS ls (lv_sub hl [1, 2, 0] rfl)
    · rw [br_n _ hc] at hf
      refine lv_iload_n hx hb d_Ma_part_62 rfl (lv_at hl 2 rfl) ?_
      refine lv_bipush (v := 25) hx hb d_Ma_part_63 (by decide) ?_
      refine lv_icmp_ne (tgt := 73) hx hb d_Ma_part_65 (by decide) (fun hc => ?_) (fun hc => ?_)
      · rw [br_n _ hc] at hf
        refine lv_iconst (v := 5) hx hb d_Ma_part_73 (by decide) ?_
        exact wb_Ma_part_74 C0 hE N G hG _ _ _ _ _ _ _ hf hm _ _ _ hB H locs hP hD hS ls (lv_sub hl [1, 2, 0] rfl)
      · rw [br_p _ hc] at hf
        exact wb_Ma_part_68 C0 hE N G hG _ _ _ _ _ _ hf hm _ _ _ hB H locs hP hD hS ls (lv_sub hl [1, 2, 0] rfl)
  · rw [br_p _ hc] at hf
    refine lv_aload_n hx hb d_Ma_part_10 rfl (lv_at hl 1 rfl) ?_
    obtain ⟨r26, g26, hf⟩ := bo_some hf
    refine xg_R (i := v0) (k := 2) hx hb ht hown ck_Ma hK hP (by decide) fk_Ma_19 g26 d_Ma_part_11 ?_
    refine lv_aload_n hx hb d_Ma_part_14 rfl (lv_at hl 1 rfl) ?_
    obtain ⟨r27, g27, hf⟩ := bo_some hf
    refine xg_R (i := v0) (k := 3) hx hb ht hown ck_Ma hK hP (by decide) fk_Ma_23 g27 d_Ma_part_15 ?_
    obtain ⟨j28, ej28, hf⟩ := bo_some hf
    rw [ej28]
    obtain ⟨r29, g29, hf⟩ := bo_some hf
    refine xg_R (i := j28) (k := 2) hx hb ht hown ck_Pr hK hP (by decide) fk_Ma_195 g29 d_Ma_part_18 ?_
    refine lv_lload_n hx hb d_Ma_part_21 rfl (lv_at hl 3 rfl) ?_
    obtain ⟨j31, ej31, hf⟩ := bo_some hf
    rw [ej31]
    obtain ⟨hO9, hf⟩ := ck_some hf
    obtain ⟨u30, r30, hc30, hf⟩ := bx_some hf
    obtain ⟨hc30, hz30⟩ := gz_some hc30
    obtain ⟨hf, hw30⟩ := gw_some hf
    refine xV0 (i := j31) (As := [va_rf (Option.map ad r29), .long v2]) (rest := []) C0 hP hD hS ck_Te hO9 (c_Te_listLength N hc30) k_Te_listLength (wd_of 1786 (by decide +kernel) rfl) hi_Te_listLength hs_Te_listLength hini_Te rfl rfl hd_Te_listLength rfl rm_Ma_part_Te_listLength hl.1 (Nat.le_of_ble_eq_true rfl) d_Ma_part_22 rfl (hB.fit hm hz30 hw30) (fun H locs hP hD hS => ?_)
    have hB := hB.same2 hz30
    refine lv_istore (lv' := [(6, .int r30), (5, .int v2.toInt32), (0, .ref (ad v0)), (1, .int v1), (2, .long v2), (4, .int v4)]) hx hb d_Ma_part_25 hl (by decide) (by first | rfl | simp [List.filter, cat_rf]) (fun ls hl => ?_)
    refine lv_iload hx hb d_Ma_part_27 (lv_at hl 0 rfl) ?_
    refine lv_iconst (v := (-1)) hx hb d_Ma_part_29 (by decide) ?_
    refine lv_icmp_ne (tgt := 42) hx hb d_Ma_part_30 (by decide) (fun hc => ?_) (fun hc => ?_)
    · rw [br_n _ hc] at hf
      refine lv_aload_n hx hb d_Ma_part_42 rfl (lv_at hl 2 rfl) ?_
      refine lv_iconst (v := 1) hx hb d_Ma_part_43 (by decide) ?_
      refine lv_iconst (v := 0) hx hb d_Ma_part_44 (by decide) ?_
      refine lv_iload hx hb d_Ma_part_45 (lv_at hl 0 rfl) ?_
      obtain ⟨u32, r32, hc32, hf⟩ := bx_some hf
      obtain ⟨hc32, hz32⟩ := gz_some hc32
      obtain ⟨hf, hw32⟩ := gw_some hf
      refine xS0 (As := [.int 0, .int r30]) (rest := [.int 1, .ref (ad v0)]) C0 hP hD hS (c_Te_make N hc32) k_Te_make (wd_of 1671 (by decide +kernel) rfl) ht_Te_make hini_Te rfl rfl hd_Te_make rfl rm_Ma_part_Te_make hl.1 (Nat.le_of_ble_eq_true rfl) d_Ma_part_47 rfl (hB.fit hm hz32 hw32) (fun H locs hP hD hS => ?_)
      have hB := hB.same2 hz32
      obtain ⟨hO9, hf⟩ := ck_some hf
      obtain ⟨hk33, hf⟩ := ck_some hf
      obtain ⟨u33, r33, hc33, hf⟩ := bx_some hf
      obtain ⟨hc33, hq33⟩ := gw_some hc33
      obtain ⟨hf, hw33⟩ := gw_some hf
      refine yV (i := v0) (As := [.int 1, .long r32]) (rest := []) C0 hP hD hS ck_Ma hO9 (c_Ma_answer N hE hc33 (gm hq33)) k_Ma_answer (wd_of 1744 (by decide +kernel) rfl) hi_Ma_answer hs_Ma_answer hini_Ma rfl rfl hd_Ma_answer rfl rm_Ma_part_Ma_answer hl.1 (Nat.le_of_ble_eq_true rfl) d_Ma_part_50 rfl (gm hq33) hB hm hw33 (fun ad33 H locs ce sl hg33 hB hP hD hS => ?_)
      have q33_0 : ad33 v0 = ad v0 := ko_O (k := 0) hk33 rfl hg33
      have hl : lv_has ls 9 [(6, .int r30), (5, .int v2.toInt32), (0, .ref (ad33 v0)), (1, .int v1), (2, .long v2), (4, .int v4)] := by simp only [q33_0]; exact hl
      exact wb_Ma_part_53 C0 hE N G hG _ _ hf hm _ _ _ hB H locs hP hD hS ls (lv_sub hl [] rfl)
    · rw [br_p _ hc] at hf
      refine lv_aload_n hx hb d_Ma_part_33 rfl (lv_at hl 2 rfl) ?_
      refine lv_bipush (v := 11) hx hb d_Ma_part_34 (by decide) ?_
      obtain ⟨hO9, hf⟩ := ck_some hf
      obtain ⟨u34, r34, hc34, hf⟩ := bx_some hf
      obtain ⟨hc34, hz34⟩ := gz_some hc34
      obtain ⟨hf, hw34⟩ := gw_some hf
      refine xV0 (i := v0) (As := [.int 11]) (rest := []) C0 hP hD hS ck_Ma hO9 (c_Ma_wrong N hc34) k_Ma_wrong (wd_of 1664 (by decide +kernel) rfl) hi_Ma_wrong hs_Ma_wrong hini_Ma rfl rfl hd_Ma_wrong rfl rm_Ma_part_Ma_wrong hl.1 (Nat.le_of_ble_eq_true rfl) d_Ma_part_36 rfl (hB.fit hm hz34 hw34) (fun H locs hP hD hS => ?_)
      have hB := hB.same2 hz34
      refine lv_goto (tgt := 53) hx hb d_Ma_part_39 (by decide) ?_
      exact wb_Ma_part_53 C0 hE N G hG _ _ hf hm _ _ _ hB H locs hP hD hS ls (lv_sub hl [] rfl)
def fm_Ma_part (N : Nat) (u : CS) (v0 : Nat) (v1 : Int32) (v2 : Int64) (v4 : Int32) : Option (CS × Unit) := fb_Ma_part_0 N () u v0 v1 v2 v4
set_option maxRecDepth 100000 in
set_option maxHeartbeats 4000000 in
theorem c_Ma_part (N : Nat) {l : Launch} {s0 : State} {b0 : Nat} {D : va_G} {cB cI cJ cZ cS cP : ClassId} {sk sv : Nat → Nat} {ad : Nat → Nat} {u : CS} {sz mc ms : Nat} {v0 : Nat} {v1 : Int32} {v2 : Int64} {v4 : Int32} {x : CS × Unit} (hE : ENV s0 b0 sk sv) (hf : fm_Ma_part N u v0 v1 v2 v4 = some x) (hm : u.1.1 + mc = x.1.1.1 ∧ u.1.2 + ms = x.1.1.2) : Met l y_Ma_part (wd_ws y_Ma_part b_Ma_part 9 none) (rm_Ma_part mc ms) (xPc s0 b0 D cB cI cJ cZ cS cP ad u sz [.ref (ad v0), .int v1, .long v2, .int v4]) (xQ D cB cI cJ cZ cS cP (xA cB cI cJ cZ cS cP ad u sz) ad u.1.1 x.1 none) mc ms (xA cB cI cJ cZ cS cP ad u sz) :=
  xMet (by decide) rfl (Nat.le_of_ble_eq_true rfl) (fun p e s m below meth c ls hsz hnm C0 hP hD hS hl =>
    wb_Ma_part_0 C0 hE N () trivial u _ _ _ _ x hf hm ad 0 0 ⟨rfl, rfl, fun _ _ => rfl⟩ s.heap [] hP hD hS ls (lv_sub hl [0, 1, 2, 3] rfl))
abbrev b_Ma_test : ByteArray := prog_5_method_54_code
def y_Ma_test : MethodName := ⟨R_Ma, "test", "(I)V"⟩
def w_Ma_test : List Cond := wd_ws y_Ma_test b_Ma_test 5 none
set_option maxRecDepth 100000 in
theorem k_Ma_test : Cond.code y_Ma_test b_Ma_test 5 none ∈ wd_tbl := wd_of 1778 rfl rfl
theorem d_Ma_test_0 : decode b_Ma_test 0 = .ok (.aload_n 0, 1) := by decide +kernel
theorem d_Ma_test_1 : decode b_Ma_test 1 = .ok (.getfield 33, 3) := by decide +kernel
theorem d_Ma_test_4 : decode b_Ma_test 4 = .ok (.iconst 0, 1) := by decide +kernel
theorem d_Ma_test_5 : decode b_Ma_test 5 = .ok (.invokevirtual 138, 3) := by decide +kernel
theorem d_Ma_test_8 : decode b_Ma_test 8 = .ok (.lstore_n 2, 1) := by decide +kernel
theorem d_Ma_test_9 : decode b_Ma_test 9 = .ok (.lload_n 2, 1) := by decide +kernel
theorem d_Ma_test_10 : decode b_Ma_test 10 = .ok (.invokestatic 253, 3) := by decide +kernel
theorem d_Ma_test_13 : decode b_Ma_test 13 = .ok (.istore 4, 2) := by decide +kernel
theorem d_Ma_test_15 : decode b_Ma_test 15 = .ok (.iload_n 1, 1) := by decide +kernel
theorem d_Ma_test_16 : decode b_Ma_test 16 = .ok (.tableswitch 205 17 23 #[44, 65, 87, 117, 139, 161, 183], 44) := by decide +kernel
theorem d_Ma_test_60 : decode b_Ma_test 60 = .ok (.aload_n 0, 1) := by decide +kernel
theorem d_Ma_test_61 : decode b_Ma_test 61 = .ok (.iconst 1, 1) := by decide +kernel
theorem d_Ma_test_62 : decode b_Ma_test 62 = .ok (.iload 4, 2) := by decide +kernel
theorem d_Ma_test_64 : decode b_Ma_test 64 = .ok (.ifCond .ne 7, 3) := by decide +kernel
theorem d_Ma_test_67 : decode b_Ma_test 67 = .ok (.iconst 1, 1) := by decide +kernel
theorem d_Ma_test_68 : decode b_Ma_test 68 = .ok (.goto 4, 3) := by decide +kernel
theorem d_Ma_test_71 : decode b_Ma_test 71 = .ok (.iconst 0, 1) := by decide +kernel
theorem d_Ma_test_72 : decode b_Ma_test 72 = .ok (.invokestatic 207, 3) := by decide +kernel
theorem d_Ma_test_75 : decode b_Ma_test 75 = .ok (.invokevirtual 145, 3) := by decide +kernel
theorem d_Ma_test_78 : decode b_Ma_test 78 = .ok (.goto 151, 3) := by decide +kernel
theorem d_Ma_test_81 : decode b_Ma_test 81 = .ok (.aload_n 0, 1) := by decide +kernel
theorem d_Ma_test_82 : decode b_Ma_test 82 = .ok (.iconst 1, 1) := by decide +kernel
theorem d_Ma_test_83 : decode b_Ma_test 83 = .ok (.iload 4, 2) := by decide +kernel
theorem d_Ma_test_85 : decode b_Ma_test 85 = .ok (.iconst 1, 1) := by decide +kernel
theorem d_Ma_test_86 : decode b_Ma_test 86 = .ok (.if_icmp .ne 7, 3) := by decide +kernel
theorem d_Ma_test_89 : decode b_Ma_test 89 = .ok (.iconst 1, 1) := by decide +kernel
theorem d_Ma_test_90 : decode b_Ma_test 90 = .ok (.goto 4, 3) := by decide +kernel
theorem d_Ma_test_93 : decode b_Ma_test 93 = .ok (.iconst 0, 1) := by decide +kernel
theorem d_Ma_test_94 : decode b_Ma_test 94 = .ok (.invokestatic 207, 3) := by decide +kernel
theorem d_Ma_test_97 : decode b_Ma_test 97 = .ok (.invokevirtual 145, 3) := by decide +kernel
theorem d_Ma_test_100 : decode b_Ma_test 100 = .ok (.goto 129, 3) := by decide +kernel
theorem d_Ma_test_103 : decode b_Ma_test 103 = .ok (.aload_n 0, 1) := by decide +kernel
theorem d_Ma_test_104 : decode b_Ma_test 104 = .ok (.iconst 1, 1) := by decide +kernel
theorem d_Ma_test_105 : decode b_Ma_test 105 = .ok (.iload 4, 2) := by decide +kernel
theorem d_Ma_test_107 : decode b_Ma_test 107 = .ok (.bipush 6, 2) := by decide +kernel
theorem d_Ma_test_109 : decode b_Ma_test 109 = .ok (.if_icmp .eq 10, 3) := by decide +kernel
theorem d_Ma_test_112 : decode b_Ma_test 112 = .ok (.iload 4, 2) := by decide +kernel
theorem d_Ma_test_114 : decode b_Ma_test 114 = .ok (.bipush 7, 2) := by decide +kernel
theorem d_Ma_test_116 : decode b_Ma_test 116 = .ok (.if_icmp .ne 7, 3) := by decide +kernel
theorem d_Ma_test_119 : decode b_Ma_test 119 = .ok (.iconst 1, 1) := by decide +kernel
theorem d_Ma_test_120 : decode b_Ma_test 120 = .ok (.goto 4, 3) := by decide +kernel
theorem d_Ma_test_123 : decode b_Ma_test 123 = .ok (.iconst 0, 1) := by decide +kernel
theorem d_Ma_test_124 : decode b_Ma_test 124 = .ok (.invokestatic 207, 3) := by decide +kernel
theorem d_Ma_test_127 : decode b_Ma_test 127 = .ok (.invokevirtual 145, 3) := by decide +kernel
theorem d_Ma_test_130 : decode b_Ma_test 130 = .ok (.goto 99, 3) := by decide +kernel
theorem d_Ma_test_133 : decode b_Ma_test 133 = .ok (.aload_n 0, 1) := by decide +kernel
theorem d_Ma_test_134 : decode b_Ma_test 134 = .ok (.iconst 1, 1) := by decide +kernel
theorem d_Ma_test_135 : decode b_Ma_test 135 = .ok (.iload 4, 2) := by decide +kernel
theorem d_Ma_test_137 : decode b_Ma_test 137 = .ok (.iconst 5, 1) := by decide +kernel
theorem d_Ma_test_138 : decode b_Ma_test 138 = .ok (.if_icmp .ne 7, 3) := by decide +kernel
theorem d_Ma_test_141 : decode b_Ma_test 141 = .ok (.iconst 1, 1) := by decide +kernel
theorem d_Ma_test_142 : decode b_Ma_test 142 = .ok (.goto 4, 3) := by decide +kernel
theorem d_Ma_test_145 : decode b_Ma_test 145 = .ok (.iconst 0, 1) := by decide +kernel
theorem d_Ma_test_146 : decode b_Ma_test 146 = .ok (.invokestatic 207, 3) := by decide +kernel
theorem d_Ma_test_149 : decode b_Ma_test 149 = .ok (.invokevirtual 145, 3) := by decide +kernel
theorem d_Ma_test_152 : decode b_Ma_test 152 = .ok (.goto 77, 3) := by decide +kernel
theorem d_Ma_test_155 : decode b_Ma_test 155 = .ok (.aload_n 0, 1) := by decide +kernel
theorem d_Ma_test_156 : decode b_Ma_test 156 = .ok (.iconst 1, 1) := by decide +kernel
theorem d_Ma_test_157 : decode b_Ma_test 157 = .ok (.iload 4, 2) := by decide +kernel
theorem d_Ma_test_159 : decode b_Ma_test 159 = .ok (.iconst 3, 1) := by decide +kernel
theorem d_Ma_test_160 : decode b_Ma_test 160 = .ok (.if_icmp .ne 7, 3) := by decide +kernel
theorem d_Ma_test_163 : decode b_Ma_test 163 = .ok (.iconst 1, 1) := by decide +kernel
theorem d_Ma_test_164 : decode b_Ma_test 164 = .ok (.goto 4, 3) := by decide +kernel
theorem d_Ma_test_167 : decode b_Ma_test 167 = .ok (.iconst 0, 1) := by decide +kernel
theorem d_Ma_test_168 : decode b_Ma_test 168 = .ok (.invokestatic 207, 3) := by decide +kernel
theorem d_Ma_test_171 : decode b_Ma_test 171 = .ok (.invokevirtual 145, 3) := by decide +kernel
theorem d_Ma_test_174 : decode b_Ma_test 174 = .ok (.goto 55, 3) := by decide +kernel
theorem d_Ma_test_177 : decode b_Ma_test 177 = .ok (.aload_n 0, 1) := by decide +kernel
theorem d_Ma_test_178 : decode b_Ma_test 178 = .ok (.iconst 1, 1) := by decide +kernel
theorem d_Ma_test_179 : decode b_Ma_test 179 = .ok (.iload 4, 2) := by decide +kernel
theorem d_Ma_test_181 : decode b_Ma_test 181 = .ok (.iconst 4, 1) := by decide +kernel
theorem d_Ma_test_182 : decode b_Ma_test 182 = .ok (.if_icmp .ne 7, 3) := by decide +kernel
theorem d_Ma_test_185 : decode b_Ma_test 185 = .ok (.iconst 1, 1) := by decide +kernel
theorem d_Ma_test_186 : decode b_Ma_test 186 = .ok (.goto 4, 3) := by decide +kernel
theorem d_Ma_test_189 : decode b_Ma_test 189 = .ok (.iconst 0, 1) := by decide +kernel
theorem d_Ma_test_190 : decode b_Ma_test 190 = .ok (.invokestatic 207, 3) := by decide +kernel
theorem d_Ma_test_193 : decode b_Ma_test 193 = .ok (.invokevirtual 145, 3) := by decide +kernel
theorem d_Ma_test_196 : decode b_Ma_test 196 = .ok (.goto 33, 3) := by decide +kernel
theorem d_Ma_test_199 : decode b_Ma_test 199 = .ok (.aload_n 0, 1) := by decide +kernel
theorem d_Ma_test_200 : decode b_Ma_test 200 = .ok (.iconst 1, 1) := by decide +kernel
theorem d_Ma_test_201 : decode b_Ma_test 201 = .ok (.iload 4, 2) := by decide +kernel
theorem d_Ma_test_203 : decode b_Ma_test 203 = .ok (.iconst 2, 1) := by decide +kernel
theorem d_Ma_test_204 : decode b_Ma_test 204 = .ok (.if_icmp .ne 7, 3) := by decide +kernel
theorem d_Ma_test_207 : decode b_Ma_test 207 = .ok (.iconst 1, 1) := by decide +kernel
theorem d_Ma_test_208 : decode b_Ma_test 208 = .ok (.goto 4, 3) := by decide +kernel
theorem d_Ma_test_211 : decode b_Ma_test 211 = .ok (.iconst 0, 1) := by decide +kernel
theorem d_Ma_test_212 : decode b_Ma_test 212 = .ok (.invokestatic 207, 3) := by decide +kernel
theorem d_Ma_test_215 : decode b_Ma_test 215 = .ok (.invokevirtual 145, 3) := by decide +kernel
theorem d_Ma_test_218 : decode b_Ma_test 218 = .ok (.goto 11, 3) := by decide +kernel
theorem d_Ma_test_221 : decode b_Ma_test 221 = .ok (.aload_n 0, 1) := by decide +kernel
theorem d_Ma_test_222 : decode b_Ma_test 222 = .ok (.iload_n 1, 1) := by decide +kernel
theorem d_Ma_test_223 : decode b_Ma_test 223 = .ok (.lload_n 2, 1) := by decide +kernel
theorem d_Ma_test_224 : decode b_Ma_test 224 = .ok (.iload 4, 2) := by decide +kernel
theorem d_Ma_test_226 : decode b_Ma_test 226 = .ok (.invokevirtual 477, 3) := by decide +kernel
theorem d_Ma_test_229 : decode b_Ma_test 229 = .ok (.return_, 1) := by decide +kernel
set_option maxRecDepth 100000 in
theorem hl_Ma_test : Cond.methodLink R_Ma 425 y_Ma_test ∈ wd_tbl := wd_of 1775 (by decide +kernel) rfl
set_option maxRecDepth 100000 in
theorem hi_Ma_test : Cond.instanceMethod y_Ma_test ∈ wd_tbl := wd_of 1777 (by decide +kernel) rfl
set_option maxRecDepth 100000 in
theorem hs_Ma_test : Cond.selects R_Ma y_Ma_test y_Ma_test ∈ wd_tbl := wd_of 84 (by decide +kernel) rfl
theorem hd_Ma_test : y_Ma_test.cls = R_Ma ∧ y_Ma_test.cls ≠ "java/lang/invoke/MethodHandle" ∧ y_Ma_test.cls ≠ "java/lang/invoke/VarHandle" ∧ (parseMethodDescriptor y_Ma_test.desc).map (fun d => d.parameters.length) = some 1 := by decide +kernel
def rm_Ma_test (mc ms : Nat) : Room := { frames := 5, cells := mc, slots := ms, locals := 155 }
theorem rm_Ma_test_Fr_below {mc ms : Nat} : (rm_Fr_below).frames + 1 ≤ (rm_Ma_test mc ms).frames ∧ 8 + (3 + 11) + (rm_Fr_below).locals ≤ (rm_Ma_test mc ms).locals := by
  show 0 + 1 ≤ 5 ∧ 8 + (3 + 11) + 0 ≤ 155
  decide
theorem rm_Ma_test_Te_tag {mc ms : Nat} : (rm_Te_tag).frames + 1 ≤ (rm_Ma_test mc ms).frames ∧ 8 + (2 + 11) + (rm_Te_tag).locals ≤ (rm_Ma_test mc ms).locals := by
  show 0 + 1 ≤ 5 ∧ 8 + (2 + 11) + 0 ≤ 155
  decide
theorem rm_Ma_test_Ma_truth {mc ms : Nat} : (rm_Ma_truth).frames + 1 ≤ (rm_Ma_test mc ms).frames ∧ 8 + (1 + 11) + (rm_Ma_truth).locals ≤ (rm_Ma_test mc ms).locals := by
  show 2 + 1 ≤ 5 ∧ 8 + (1 + 11) + 41 ≤ 155
  decide
theorem rm_Ma_test_Ma_answer {mc ms : Nat} {mc2 ms2 : Nat} : (rm_Ma_answer mc2 ms2).frames + 1 ≤ (rm_Ma_test mc ms).frames ∧ 8 + (4 + 11) + (rm_Ma_answer mc2 ms2).locals ≤ (rm_Ma_test mc ms).locals := by
  show 3 + 1 ≤ 5 ∧ 8 + (4 + 11) + 104 ≤ 155
  decide
theorem rm_Ma_test_Ma_part {mc ms : Nat} {mc2 ms2 : Nat} : (rm_Ma_part mc2 ms2).frames + 1 ≤ (rm_Ma_test mc ms).frames ∧ 8 + (9 + 11) + (rm_Ma_part mc2 ms2).locals ≤ (rm_Ma_test mc ms).locals := by
  show 4 + 1 ≤ 5 ∧ 8 + (9 + 11) + 127 ≤ 155
  decide
def fb_Ma_test_229 (N : Nat) (G : Unit) (u : CS) : Option (CS × Unit) := some (u, ())
set_option maxRecDepth 100000 in
set_option maxHeartbeats 4000000 in
theorem wb_Ma_test_229 {p : Program} {l : Launch} {e : Env} {s : State} {m : MethodId} {args : Array Value} {below : List Frame} {meth : Method} {c : Code} {s0 : State} {b0 : Nat} {D : va_G} {cB cI cJ cZ cS cP : ClassId} {A : Nat → Prop} {sk sv : Nat → Nat} {uN uS mc ms : Nat} {ad0 : Nat → Nat} (C0 : XCx p s s0 b0 m args meth c R_Ma b_Ma_test 5 none D cB cI cJ cZ cS cP A) (hE : ENV s0 b0 sk sv) (N : Nat) (G : Unit) (hG : True) : ∀ (u : CS) (x : CS × Unit), fb_Ma_test_229 N G u = some x → (uN + mc = x.1.1.1 ∧ uS + ms = x.1.1.2) → ∀ (ad : Nat → Nat) (ce sl : Nat), AB uN uS ad0 u ad ce sl → ∀ (H : Heap) (locs : List Loc), va_P D cls (wC cB cI cJ cZ cS cP ad u) H → va_D A (wC cB cI cJ cZ cS cP ad u) → va_S A s.heap H locs → ∀ (ls : Array Slot), lv_has ls 5 [] → W p l e (rm_Ma_test mc ms) s m args below meth c H locs ce sl (MQ below (xQ D cB cI cJ cZ cS cP A ad0 uN x.1 none) args s mc ms A) (F0 m 229 ls []) := by
  intro u x hf hm ad ce sl hB H locs hP hD hS ls hl
  obtain ⟨hx, hb, hr, hml, ht, hown, hK, hA, hlocks, hA0, hO, hbs⟩ := id C0
  unfold fb_Ma_test_229 at hf
  exact yr_v C0 hP hD hS hB hm hf d_Ma_test_229
def fb_Ma_test_212 (N : Nat) (G : Unit) (u : CS) (t0 : Nat) (t1 : Int32) (t2 : Int32) : Option (CS × Unit) := bx (gz u (fm_Ma_truth N u t2)) (fun u1 r1 => gw u1 (ck (isO u1 t0 5) (bx (gw u1 (fm_Ma_answer N u1 t0 t1 r1)) (fun u2 r2 => gw u2 (fb_Ma_test_229 N G u2)))))
set_option maxRecDepth 100000 in
set_option maxHeartbeats 4000000 in
theorem wb_Ma_test_212 {p : Program} {l : Launch} {e : Env} {s : State} {m : MethodId} {args : Array Value} {below : List Frame} {meth : Method} {c : Code} {s0 : State} {b0 : Nat} {D : va_G} {cB cI cJ cZ cS cP : ClassId} {A : Nat → Prop} {sk sv : Nat → Nat} {uN uS mc ms : Nat} {ad0 : Nat → Nat} (C0 : XCx p s s0 b0 m args meth c R_Ma b_Ma_test 5 none D cB cI cJ cZ cS cP A) (hE : ENV s0 b0 sk sv) (N : Nat) (G : Unit) (hG : True) : ∀ (u : CS) (t0 : Nat) (t1 : Int32) (t2 : Int32) (x : CS × Unit), fb_Ma_test_212 N G u t0 t1 t2 = some x → (uN + mc = x.1.1.1 ∧ uS + ms = x.1.1.2) → ∀ (ad : Nat → Nat) (ce sl : Nat), AB uN uS ad0 u ad ce sl → ∀ (H : Heap) (locs : List Loc), va_P D cls (wC cB cI cJ cZ cS cP ad u) H → va_D A (wC cB cI cJ cZ cS cP ad u) → va_S A s.heap H locs → ∀ (ls : Array Slot), lv_has ls 5 [] → W p l e (rm_Ma_test mc ms) s m args below meth c H locs ce sl (MQ below (xQ D cB cI cJ cZ cS cP A ad0 uN x.1 none) args s mc ms A) (F0 m 212 ls [.int t2, .int t1, .ref (ad t0)]) := by
  intro u t0 t1 t2 x hf hm ad ce sl hB H locs hP hD hS ls hl
  obtain ⟨hx, hb, hr, hml, ht, hown, hK, hA, hlocks, hA0, hO, hbs⟩ := id C0
  unfold fb_Ma_test_212 at hf
  obtain ⟨u1, r1, hc1, hf⟩ := bx_some hf
  obtain ⟨hc1, hz1⟩ := gz_some hc1
  obtain ⟨hf, hw1⟩ := gw_some hf
  refine xS0 (As := [.int t2]) (rest := [.int t1, .ref (ad t0)]) C0 hP hD hS (c_Ma_truth N hc1) k_Ma_truth (wd_of 1779 (by decide +kernel) rfl) ht_Ma_truth hini_Ma rfl rfl hd_Ma_truth rfl rm_Ma_test_Ma_truth hl.1 (Nat.le_of_ble_eq_true rfl) d_Ma_test_212 rfl (hB.fit hm hz1 hw1) (fun H locs hP hD hS => ?_)
  have hB := hB.same2 hz1
  obtain ⟨hO9, hf⟩ := ck_some hf
  obtain ⟨u2, r2, hc2, hf⟩ := bx_some hf
  obtain ⟨hc2, hq2⟩ := gw_some hc2
  obtain ⟨hf, hw2⟩ := gw_some hf
  refine yV (i := t0) (As := [.int t1, .long r1]) (rest := []) C0 hP hD hS ck_Ma hO9 (c_Ma_answer N hE hc2 (gm hq2)) k_Ma_answer (wd_of 1744 (by decide +kernel) rfl) hi_Ma_answer hs_Ma_answer hini_Ma rfl rfl hd_Ma_answer rfl rm_Ma_test_Ma_answer hl.1 (Nat.le_of_ble_eq_true rfl) d_Ma_test_215 rfl (gm hq2) hB hm hw2 (fun ad2 H locs ce sl hg2 hB hP hD hS => ?_)
  refine lv_goto (tgt := 229) hx hb d_Ma_test_218 (by decide) ?_
  exact wb_Ma_test_229 C0 hE N G hG _ _ hf hm _ _ _ hB H locs hP hD hS ls (lv_sub hl [] rfl)
def fb_Ma_test_190 (N : Nat) (G : Unit) (u : CS) (t0 : Nat) (t1 : Int32) (t2 : Int32) : Option (CS × Unit) := bx (gz u (fm_Ma_truth N u t2)) (fun u3 r3 => gw u3 (ck (isO u3 t0 5) (bx (gw u3 (fm_Ma_answer N u3 t0 t1 r3)) (fun u4 r4 => gw u4 (fb_Ma_test_229 N G u4)))))
set_option maxRecDepth 100000 in
set_option maxHeartbeats 4000000 in
theorem wb_Ma_test_190 {p : Program} {l : Launch} {e : Env} {s : State} {m : MethodId} {args : Array Value} {below : List Frame} {meth : Method} {c : Code} {s0 : State} {b0 : Nat} {D : va_G} {cB cI cJ cZ cS cP : ClassId} {A : Nat → Prop} {sk sv : Nat → Nat} {uN uS mc ms : Nat} {ad0 : Nat → Nat} (C0 : XCx p s s0 b0 m args meth c R_Ma b_Ma_test 5 none D cB cI cJ cZ cS cP A) (hE : ENV s0 b0 sk sv) (N : Nat) (G : Unit) (hG : True) : ∀ (u : CS) (t0 : Nat) (t1 : Int32) (t2 : Int32) (x : CS × Unit), fb_Ma_test_190 N G u t0 t1 t2 = some x → (uN + mc = x.1.1.1 ∧ uS + ms = x.1.1.2) → ∀ (ad : Nat → Nat) (ce sl : Nat), AB uN uS ad0 u ad ce sl → ∀ (H : Heap) (locs : List Loc), va_P D cls (wC cB cI cJ cZ cS cP ad u) H → va_D A (wC cB cI cJ cZ cS cP ad u) → va_S A s.heap H locs → ∀ (ls : Array Slot), lv_has ls 5 [] → W p l e (rm_Ma_test mc ms) s m args below meth c H locs ce sl (MQ below (xQ D cB cI cJ cZ cS cP A ad0 uN x.1 none) args s mc ms A) (F0 m 190 ls [.int t2, .int t1, .ref (ad t0)]) := by
  intro u t0 t1 t2 x hf hm ad ce sl hB H locs hP hD hS ls hl
  obtain ⟨hx, hb, hr, hml, ht, hown, hK, hA, hlocks, hA0, hO, hbs⟩ := id C0
  unfold fb_Ma_test_190 at hf
  obtain ⟨u3, r3, hc3, hf⟩ := bx_some hf
  obtain ⟨hc3, hz3⟩ := gz_some hc3
  obtain ⟨hf, hw3⟩ := gw_some hf
  refine xS0 (As := [.int t2]) (rest := [.int t1, .ref (ad t0)]) C0 hP hD hS (c_Ma_truth N hc3) k_Ma_truth (wd_of 1779 (by decide +kernel) rfl) ht_Ma_truth hini_Ma rfl rfl hd_Ma_truth rfl rm_Ma_test_Ma_truth hl.1 (Nat.le_of_ble_eq_true rfl) d_Ma_test_190 rfl (hB.fit hm hz3 hw3) (fun H locs hP hD hS => ?_)
  have hB := hB.same2 hz3
  obtain ⟨hO9, hf⟩ := ck_some hf
  obtain ⟨u4, r4, hc4, hf⟩ := bx_some hf
  obtain ⟨hc4, hq4⟩ := gw_some hc4
  obtain ⟨hf, hw4⟩ := gw_some hf
  refine yV (i := t0) (As := [.int t1, .long r3]) (rest := []) C0 hP hD hS ck_Ma hO9 (c_Ma_answer N hE hc4 (gm hq4)) k_Ma_answer (wd_of 1744 (by decide +kernel) rfl) hi_Ma_answer hs_Ma_answer hini_Ma rfl rfl hd_Ma_answer rfl rm_Ma_test_Ma_answer hl.1 (Nat.le_of_ble_eq_true rfl) d_Ma_test_193 rfl (gm hq4) hB hm hw4 (fun ad4 H locs ce sl hg4 hB hP hD hS => ?_)
  refine lv_goto (tgt := 229) hx hb d_Ma_test_196 (by decide) ?_
  exact wb_Ma_test_229 C0 hE N G hG _ _ hf hm _ _ _ hB H locs hP hD hS ls (lv_sub hl [] rfl)
def fb_Ma_test_168 (N : Nat) (G : Unit) (u : CS) (t0 : Nat) (t1 : Int32) (t2 : Int32) : Option (CS × Unit) := bx (gz u (fm_Ma_truth N u t2)) (fun u5 r5 => gw u5 (ck (isO u5 t0 5) (bx (gw u5 (fm_Ma_answer N u5 t0 t1 r5)) (fun u6 r6 => gw u6 (fb_Ma_test_229 N G u6)))))
set_option maxRecDepth 100000 in
set_option maxHeartbeats 4000000 in
theorem wb_Ma_test_168 {p : Program} {l : Launch} {e : Env} {s : State} {m : MethodId} {args : Array Value} {below : List Frame} {meth : Method} {c : Code} {s0 : State} {b0 : Nat} {D : va_G} {cB cI cJ cZ cS cP : ClassId} {A : Nat → Prop} {sk sv : Nat → Nat} {uN uS mc ms : Nat} {ad0 : Nat → Nat} (C0 : XCx p s s0 b0 m args meth c R_Ma b_Ma_test 5 none D cB cI cJ cZ cS cP A) (hE : ENV s0 b0 sk sv) (N : Nat) (G : Unit) (hG : True) : ∀ (u : CS) (t0 : Nat) (t1 : Int32) (t2 : Int32) (x : CS × Unit), fb_Ma_test_168 N G u t0 t1 t2 = some x → (uN + mc = x.1.1.1 ∧ uS + ms = x.1.1.2) → ∀ (ad : Nat → Nat) (ce sl : Nat), AB uN uS ad0 u ad ce sl → ∀ (H : Heap) (locs : List Loc), va_P D cls (wC cB cI cJ cZ cS cP ad u) H → va_D A (wC cB cI cJ cZ cS cP ad u) → va_S A s.heap H locs → ∀ (ls : Array Slot), lv_has ls 5 [] → W p l e (rm_Ma_test mc ms) s m args below meth c H locs ce sl (MQ below (xQ D cB cI cJ cZ cS cP A ad0 uN x.1 none) args s mc ms A) (F0 m 168 ls [.int t2, .int t1, .ref (ad t0)]) := by
  intro u t0 t1 t2 x hf hm ad ce sl hB H locs hP hD hS ls hl
  obtain ⟨hx, hb, hr, hml, ht, hown, hK, hA, hlocks, hA0, hO, hbs⟩ := id C0
  unfold fb_Ma_test_168 at hf
  obtain ⟨u5, r5, hc5, hf⟩ := bx_some hf
  obtain ⟨hc5, hz5⟩ := gz_some hc5
  obtain ⟨hf, hw5⟩ := gw_some hf
  refine xS0 (As := [.int t2]) (rest := [.int t1, .ref (ad t0)]) C0 hP hD hS (c_Ma_truth N hc5) k_Ma_truth (wd_of 1779 (by decide +kernel) rfl) ht_Ma_truth hini_Ma rfl rfl hd_Ma_truth rfl rm_Ma_test_Ma_truth hl.1 (Nat.le_of_ble_eq_true rfl) d_Ma_test_168 rfl (hB.fit hm hz5 hw5) (fun H locs hP hD hS => ?_)
  have hB := hB.same2 hz5
  obtain ⟨hO9, hf⟩ := ck_some hf
  obtain ⟨u6, r6, hc6, hf⟩ := bx_some hf
  obtain ⟨hc6, hq6⟩ := gw_some hc6
  obtain ⟨hf, hw6⟩ := gw_some hf
  refine yV (i := t0) (As := [.int t1, .long r5]) (rest := []) C0 hP hD hS ck_Ma hO9 (c_Ma_answer N hE hc6 (gm hq6)) k_Ma_answer (wd_of 1744 (by decide +kernel) rfl) hi_Ma_answer hs_Ma_answer hini_Ma rfl rfl hd_Ma_answer rfl rm_Ma_test_Ma_answer hl.1 (Nat.le_of_ble_eq_true rfl) d_Ma_test_171 rfl (gm hq6) hB hm hw6 (fun ad6 H locs ce sl hg6 hB hP hD hS => ?_)
  refine lv_goto (tgt := 229) hx hb d_Ma_test_174 (by decide) ?_
  exact wb_Ma_test_229 C0 hE N G hG _ _ hf hm _ _ _ hB H locs hP hD hS ls (lv_sub hl [] rfl)
def fb_Ma_test_146 (N : Nat) (G : Unit) (u : CS) (t0 : Nat) (t1 : Int32) (t2 : Int32) : Option (CS × Unit) := bx (gz u (fm_Ma_truth N u t2)) (fun u7 r7 => gw u7 (ck (isO u7 t0 5) (bx (gw u7 (fm_Ma_answer N u7 t0 t1 r7)) (fun u8 r8 => gw u8 (fb_Ma_test_229 N G u8)))))
set_option maxRecDepth 100000 in
set_option maxHeartbeats 4000000 in
theorem wb_Ma_test_146 {p : Program} {l : Launch} {e : Env} {s : State} {m : MethodId} {args : Array Value} {below : List Frame} {meth : Method} {c : Code} {s0 : State} {b0 : Nat} {D : va_G} {cB cI cJ cZ cS cP : ClassId} {A : Nat → Prop} {sk sv : Nat → Nat} {uN uS mc ms : Nat} {ad0 : Nat → Nat} (C0 : XCx p s s0 b0 m args meth c R_Ma b_Ma_test 5 none D cB cI cJ cZ cS cP A) (hE : ENV s0 b0 sk sv) (N : Nat) (G : Unit) (hG : True) : ∀ (u : CS) (t0 : Nat) (t1 : Int32) (t2 : Int32) (x : CS × Unit), fb_Ma_test_146 N G u t0 t1 t2 = some x → (uN + mc = x.1.1.1 ∧ uS + ms = x.1.1.2) → ∀ (ad : Nat → Nat) (ce sl : Nat), AB uN uS ad0 u ad ce sl → ∀ (H : Heap) (locs : List Loc), va_P D cls (wC cB cI cJ cZ cS cP ad u) H → va_D A (wC cB cI cJ cZ cS cP ad u) → va_S A s.heap H locs → ∀ (ls : Array Slot), lv_has ls 5 [] → W p l e (rm_Ma_test mc ms) s m args below meth c H locs ce sl (MQ below (xQ D cB cI cJ cZ cS cP A ad0 uN x.1 none) args s mc ms A) (F0 m 146 ls [.int t2, .int t1, .ref (ad t0)]) := by
  intro u t0 t1 t2 x hf hm ad ce sl hB H locs hP hD hS ls hl
  obtain ⟨hx, hb, hr, hml, ht, hown, hK, hA, hlocks, hA0, hO, hbs⟩ := id C0
  unfold fb_Ma_test_146 at hf
  obtain ⟨u7, r7, hc7, hf⟩ := bx_some hf
  obtain ⟨hc7, hz7⟩ := gz_some hc7
  obtain ⟨hf, hw7⟩ := gw_some hf
  refine xS0 (As := [.int t2]) (rest := [.int t1, .ref (ad t0)]) C0 hP hD hS (c_Ma_truth N hc7) k_Ma_truth (wd_of 1779 (by decide +kernel) rfl) ht_Ma_truth hini_Ma rfl rfl hd_Ma_truth rfl rm_Ma_test_Ma_truth hl.1 (Nat.le_of_ble_eq_true rfl) d_Ma_test_146 rfl (hB.fit hm hz7 hw7) (fun H locs hP hD hS => ?_)
  have hB := hB.same2 hz7
  obtain ⟨hO9, hf⟩ := ck_some hf
  obtain ⟨u8, r8, hc8, hf⟩ := bx_some hf
  obtain ⟨hc8, hq8⟩ := gw_some hc8
  obtain ⟨hf, hw8⟩ := gw_some hf
  refine yV (i := t0) (As := [.int t1, .long r7]) (rest := []) C0 hP hD hS ck_Ma hO9 (c_Ma_answer N hE hc8 (gm hq8)) k_Ma_answer (wd_of 1744 (by decide +kernel) rfl) hi_Ma_answer hs_Ma_answer hini_Ma rfl rfl hd_Ma_answer rfl rm_Ma_test_Ma_answer hl.1 (Nat.le_of_ble_eq_true rfl) d_Ma_test_149 rfl (gm hq8) hB hm hw8 (fun ad8 H locs ce sl hg8 hB hP hD hS => ?_)
  refine lv_goto (tgt := 229) hx hb d_Ma_test_152 (by decide) ?_
  exact wb_Ma_test_229 C0 hE N G hG _ _ hf hm _ _ _ hB H locs hP hD hS ls (lv_sub hl [] rfl)
def fb_Ma_test_124 (N : Nat) (G : Unit) (u : CS) (t0 : Nat) (t1 : Int32) (t2 : Int32) : Option (CS × Unit) := bx (gz u (fm_Ma_truth N u t2)) (fun u9 r9 => gw u9 (ck (isO u9 t0 5) (bx (gw u9 (fm_Ma_answer N u9 t0 t1 r9)) (fun u10 r10 => gw u10 (fb_Ma_test_229 N G u10)))))
set_option maxRecDepth 100000 in
set_option maxHeartbeats 4000000 in
theorem wb_Ma_test_124 {p : Program} {l : Launch} {e : Env} {s : State} {m : MethodId} {args : Array Value} {below : List Frame} {meth : Method} {c : Code} {s0 : State} {b0 : Nat} {D : va_G} {cB cI cJ cZ cS cP : ClassId} {A : Nat → Prop} {sk sv : Nat → Nat} {uN uS mc ms : Nat} {ad0 : Nat → Nat} (C0 : XCx p s s0 b0 m args meth c R_Ma b_Ma_test 5 none D cB cI cJ cZ cS cP A) (hE : ENV s0 b0 sk sv) (N : Nat) (G : Unit) (hG : True) : ∀ (u : CS) (t0 : Nat) (t1 : Int32) (t2 : Int32) (x : CS × Unit), fb_Ma_test_124 N G u t0 t1 t2 = some x → (uN + mc = x.1.1.1 ∧ uS + ms = x.1.1.2) → ∀ (ad : Nat → Nat) (ce sl : Nat), AB uN uS ad0 u ad ce sl → ∀ (H : Heap) (locs : List Loc), va_P D cls (wC cB cI cJ cZ cS cP ad u) H → va_D A (wC cB cI cJ cZ cS cP ad u) → va_S A s.heap H locs → ∀ (ls : Array Slot), lv_has ls 5 [] → W p l e (rm_Ma_test mc ms) s m args below meth c H locs ce sl (MQ below (xQ D cB cI cJ cZ cS cP A ad0 uN x.1 none) args s mc ms A) (F0 m 124 ls [.int t2, .int t1, .ref (ad t0)]) := by
  intro u t0 t1 t2 x hf hm ad ce sl hB H locs hP hD hS ls hl
  obtain ⟨hx, hb, hr, hml, ht, hown, hK, hA, hlocks, hA0, hO, hbs⟩ := id C0
  unfold fb_Ma_test_124 at hf
  obtain ⟨u9, r9, hc9, hf⟩ := bx_some hf
  obtain ⟨hc9, hz9⟩ := gz_some hc9
  obtain ⟨hf, hw9⟩ := gw_some hf
  refine xS0 (As := [.int t2]) (rest := [.int t1, .ref (ad t0)]) C0 hP hD hS (c_Ma_truth N hc9) k_Ma_truth (wd_of 1779 (by decide +kernel) rfl) ht_Ma_truth hini_Ma rfl rfl hd_Ma_truth rfl rm_Ma_test_Ma_truth hl.1 (Nat.le_of_ble_eq_true rfl) d_Ma_test_124 rfl (hB.fit hm hz9 hw9) (fun H locs hP hD hS => ?_)
  have hB := hB.same2 hz9
  obtain ⟨hO9, hf⟩ := ck_some hf
  obtain ⟨u10, r10, hc10, hf⟩ := bx_some hf
  obtain ⟨hc10, hq10⟩ := gw_some hc10
  obtain ⟨hf, hw10⟩ := gw_some hf
  refine yV (i := t0) (As := [.int t1, .long r9]) (rest := []) C0 hP hD hS ck_Ma hO9 (c_Ma_answer N hE hc10 (gm hq10)) k_Ma_answer (wd_of 1744 (by decide +kernel) rfl) hi_Ma_answer hs_Ma_answer hini_Ma rfl rfl hd_Ma_answer rfl rm_Ma_test_Ma_answer hl.1 (Nat.le_of_ble_eq_true rfl) d_Ma_test_127 rfl (gm hq10) hB hm hw10 (fun ad10 H locs ce sl hg10 hB hP hD hS => ?_)
  refine lv_goto (tgt := 229) hx hb d_Ma_test_130 (by decide) ?_
  exact wb_Ma_test_229 C0 hE N G hG _ _ hf hm _ _ _ hB H locs hP hD hS ls (lv_sub hl [] rfl)
def fb_Ma_test_119 (N : Nat) (G : Unit) (u : CS) (t0 : Nat) (t1 : Int32) : Option (CS × Unit) := fb_Ma_test_124 N G u (t0) (t1) (1)
set_option maxRecDepth 100000 in
set_option maxHeartbeats 4000000 in
theorem wb_Ma_test_119 {p : Program} {l : Launch} {e : Env} {s : State} {m : MethodId} {args : Array Value} {below : List Frame} {meth : Method} {c : Code} {s0 : State} {b0 : Nat} {D : va_G} {cB cI cJ cZ cS cP : ClassId} {A : Nat → Prop} {sk sv : Nat → Nat} {uN uS mc ms : Nat} {ad0 : Nat → Nat} (C0 : XCx p s s0 b0 m args meth c R_Ma b_Ma_test 5 none D cB cI cJ cZ cS cP A) (hE : ENV s0 b0 sk sv) (N : Nat) (G : Unit) (hG : True) : ∀ (u : CS) (t0 : Nat) (t1 : Int32) (x : CS × Unit), fb_Ma_test_119 N G u t0 t1 = some x → (uN + mc = x.1.1.1 ∧ uS + ms = x.1.1.2) → ∀ (ad : Nat → Nat) (ce sl : Nat), AB uN uS ad0 u ad ce sl → ∀ (H : Heap) (locs : List Loc), va_P D cls (wC cB cI cJ cZ cS cP ad u) H → va_D A (wC cB cI cJ cZ cS cP ad u) → va_S A s.heap H locs → ∀ (ls : Array Slot), lv_has ls 5 [] → W p l e (rm_Ma_test mc ms) s m args below meth c H locs ce sl (MQ below (xQ D cB cI cJ cZ cS cP A ad0 uN x.1 none) args s mc ms A) (F0 m 119 ls [.int t1, .ref (ad t0)]) := by
  intro u t0 t1 x hf hm ad ce sl hB H locs hP hD hS ls hl
  obtain ⟨hx, hb, hr, hml, ht, hown, hK, hA, hlocks, hA0, hO, hbs⟩ := id C0
  unfold fb_Ma_test_119 at hf
  refine lv_iconst (v := 1) hx hb d_Ma_test_119 (by decide) ?_
  refine lv_goto (tgt := 124) hx hb d_Ma_test_120 (by decide) ?_
  exact wb_Ma_test_124 C0 hE N G hG _ _ _ _ _ hf hm _ _ _ hB H locs hP hD hS ls (lv_sub hl [] rfl)
def fb_Ma_test_94 (N : Nat) (G : Unit) (u : CS) (t0 : Nat) (t1 : Int32) (t2 : Int32) : Option (CS × Unit) := bx (gz u (fm_Ma_truth N u t2)) (fun u11 r11 => gw u11 (ck (isO u11 t0 5) (bx (gw u11 (fm_Ma_answer N u11 t0 t1 r11)) (fun u12 r12 => gw u12 (fb_Ma_test_229 N G u12)))))
set_option maxRecDepth 100000 in
set_option maxHeartbeats 4000000 in
theorem wb_Ma_test_94 {p : Program} {l : Launch} {e : Env} {s : State} {m : MethodId} {args : Array Value} {below : List Frame} {meth : Method} {c : Code} {s0 : State} {b0 : Nat} {D : va_G} {cB cI cJ cZ cS cP : ClassId} {A : Nat → Prop} {sk sv : Nat → Nat} {uN uS mc ms : Nat} {ad0 : Nat → Nat} (C0 : XCx p s s0 b0 m args meth c R_Ma b_Ma_test 5 none D cB cI cJ cZ cS cP A) (hE : ENV s0 b0 sk sv) (N : Nat) (G : Unit) (hG : True) : ∀ (u : CS) (t0 : Nat) (t1 : Int32) (t2 : Int32) (x : CS × Unit), fb_Ma_test_94 N G u t0 t1 t2 = some x → (uN + mc = x.1.1.1 ∧ uS + ms = x.1.1.2) → ∀ (ad : Nat → Nat) (ce sl : Nat), AB uN uS ad0 u ad ce sl → ∀ (H : Heap) (locs : List Loc), va_P D cls (wC cB cI cJ cZ cS cP ad u) H → va_D A (wC cB cI cJ cZ cS cP ad u) → va_S A s.heap H locs → ∀ (ls : Array Slot), lv_has ls 5 [] → W p l e (rm_Ma_test mc ms) s m args below meth c H locs ce sl (MQ below (xQ D cB cI cJ cZ cS cP A ad0 uN x.1 none) args s mc ms A) (F0 m 94 ls [.int t2, .int t1, .ref (ad t0)]) := by
  intro u t0 t1 t2 x hf hm ad ce sl hB H locs hP hD hS ls hl
  obtain ⟨hx, hb, hr, hml, ht, hown, hK, hA, hlocks, hA0, hO, hbs⟩ := id C0
  unfold fb_Ma_test_94 at hf
  obtain ⟨u11, r11, hc11, hf⟩ := bx_some hf
  obtain ⟨hc11, hz11⟩ := gz_some hc11
  obtain ⟨hf, hw11⟩ := gw_some hf
  refine xS0 (As := [.int t2]) (rest := [.int t1, .ref (ad t0)]) C0 hP hD hS (c_Ma_truth N hc11) k_Ma_truth (wd_of 1779 (by decide +kernel) rfl) ht_Ma_truth hini_Ma rfl rfl hd_Ma_truth rfl rm_Ma_test_Ma_truth hl.1 (Nat.le_of_ble_eq_true rfl) d_Ma_test_94 rfl (hB.fit hm hz11 hw11) (fun H locs hP hD hS => ?_)
  have hB := hB.same2 hz11
  obtain ⟨hO9, hf⟩ := ck_some hf
  obtain ⟨u12, r12, hc12, hf⟩ := bx_some hf
  obtain ⟨hc12, hq12⟩ := gw_some hc12
  obtain ⟨hf, hw12⟩ := gw_some hf
  refine yV (i := t0) (As := [.int t1, .long r11]) (rest := []) C0 hP hD hS ck_Ma hO9 (c_Ma_answer N hE hc12 (gm hq12)) k_Ma_answer (wd_of 1744 (by decide +kernel) rfl) hi_Ma_answer hs_Ma_answer hini_Ma rfl rfl hd_Ma_answer rfl rm_Ma_test_Ma_answer hl.1 (Nat.le_of_ble_eq_true rfl) d_Ma_test_97 rfl (gm hq12) hB hm hw12 (fun ad12 H locs ce sl hg12 hB hP hD hS => ?_)
  refine lv_goto (tgt := 229) hx hb d_Ma_test_100 (by decide) ?_
  exact wb_Ma_test_229 C0 hE N G hG _ _ hf hm _ _ _ hB H locs hP hD hS ls (lv_sub hl [] rfl)
def fb_Ma_test_72 (N : Nat) (G : Unit) (u : CS) (t0 : Nat) (t1 : Int32) (t2 : Int32) : Option (CS × Unit) := bx (gz u (fm_Ma_truth N u t2)) (fun u13 r13 => gw u13 (ck (isO u13 t0 5) (bx (gw u13 (fm_Ma_answer N u13 t0 t1 r13)) (fun u14 r14 => gw u14 (fb_Ma_test_229 N G u14)))))
set_option maxRecDepth 100000 in
set_option maxHeartbeats 4000000 in
theorem wb_Ma_test_72 {p : Program} {l : Launch} {e : Env} {s : State} {m : MethodId} {args : Array Value} {below : List Frame} {meth : Method} {c : Code} {s0 : State} {b0 : Nat} {D : va_G} {cB cI cJ cZ cS cP : ClassId} {A : Nat → Prop} {sk sv : Nat → Nat} {uN uS mc ms : Nat} {ad0 : Nat → Nat} (C0 : XCx p s s0 b0 m args meth c R_Ma b_Ma_test 5 none D cB cI cJ cZ cS cP A) (hE : ENV s0 b0 sk sv) (N : Nat) (G : Unit) (hG : True) : ∀ (u : CS) (t0 : Nat) (t1 : Int32) (t2 : Int32) (x : CS × Unit), fb_Ma_test_72 N G u t0 t1 t2 = some x → (uN + mc = x.1.1.1 ∧ uS + ms = x.1.1.2) → ∀ (ad : Nat → Nat) (ce sl : Nat), AB uN uS ad0 u ad ce sl → ∀ (H : Heap) (locs : List Loc), va_P D cls (wC cB cI cJ cZ cS cP ad u) H → va_D A (wC cB cI cJ cZ cS cP ad u) → va_S A s.heap H locs → ∀ (ls : Array Slot), lv_has ls 5 [] → W p l e (rm_Ma_test mc ms) s m args below meth c H locs ce sl (MQ below (xQ D cB cI cJ cZ cS cP A ad0 uN x.1 none) args s mc ms A) (F0 m 72 ls [.int t2, .int t1, .ref (ad t0)]) := by
  intro u t0 t1 t2 x hf hm ad ce sl hB H locs hP hD hS ls hl
  obtain ⟨hx, hb, hr, hml, ht, hown, hK, hA, hlocks, hA0, hO, hbs⟩ := id C0
  unfold fb_Ma_test_72 at hf
  obtain ⟨u13, r13, hc13, hf⟩ := bx_some hf
  obtain ⟨hc13, hz13⟩ := gz_some hc13
  obtain ⟨hf, hw13⟩ := gw_some hf
  refine xS0 (As := [.int t2]) (rest := [.int t1, .ref (ad t0)]) C0 hP hD hS (c_Ma_truth N hc13) k_Ma_truth (wd_of 1779 (by decide +kernel) rfl) ht_Ma_truth hini_Ma rfl rfl hd_Ma_truth rfl rm_Ma_test_Ma_truth hl.1 (Nat.le_of_ble_eq_true rfl) d_Ma_test_72 rfl (hB.fit hm hz13 hw13) (fun H locs hP hD hS => ?_)
  have hB := hB.same2 hz13
  obtain ⟨hO9, hf⟩ := ck_some hf
  obtain ⟨u14, r14, hc14, hf⟩ := bx_some hf
  obtain ⟨hc14, hq14⟩ := gw_some hc14
  obtain ⟨hf, hw14⟩ := gw_some hf
  refine yV (i := t0) (As := [.int t1, .long r13]) (rest := []) C0 hP hD hS ck_Ma hO9 (c_Ma_answer N hE hc14 (gm hq14)) k_Ma_answer (wd_of 1744 (by decide +kernel) rfl) hi_Ma_answer hs_Ma_answer hini_Ma rfl rfl hd_Ma_answer rfl rm_Ma_test_Ma_answer hl.1 (Nat.le_of_ble_eq_true rfl) d_Ma_test_75 rfl (gm hq14) hB hm hw14 (fun ad14 H locs ce sl hg14 hB hP hD hS => ?_)
  refine lv_goto (tgt := 229) hx hb d_Ma_test_78 (by decide) ?_
  exact wb_Ma_test_229 C0 hE N G hG _ _ hf hm _ _ _ hB H locs hP hD hS ls (lv_sub hl [] rfl)
def fb_Ma_test_0 (N : Nat) (G : Unit) (u : CS) (v0 : Nat) (v1 : Int32) : Option (CS × Unit) := bo (gR u v0 5 4) (fun r15 => bo r15 (fun j17 => ck (isO u j17 4) (bx (gz u (fm_Fr_below N u j17 0)) (fun u16 r16 => gw u16 (bx (gz u16 (fm_Te_tag N u16 r16)) (fun u18 r18 => gw u18 (br (decide (v1 = 17)) (br (decide (r18 = 0)) (fb_Ma_test_72 N G u18 (v0) (1) (1)) (fb_Ma_test_72 N G u18 (v0) (1) (0))) (br (decide (v1 = 18)) (br (decide (r18 = 1)) (fb_Ma_test_94 N G u18 (v0) (1) (1)) (fb_Ma_test_94 N G u18 (v0) (1) (0))) (br (decide (v1 = 19)) (br (decide (r18 = 6)) (fb_Ma_test_119 N G u18 (v0) (1)) (br (decide (r18 = 7)) (fb_Ma_test_119 N G u18 (v0) (1)) (fb_Ma_test_124 N G u18 (v0) (1) (0)))) (br (decide (v1 = 20)) (br (decide (r18 = 5)) (fb_Ma_test_146 N G u18 (v0) (1) (1)) (fb_Ma_test_146 N G u18 (v0) (1) (0))) (br (decide (v1 = 21)) (br (decide (r18 = 3)) (fb_Ma_test_168 N G u18 (v0) (1) (1)) (fb_Ma_test_168 N G u18 (v0) (1) (0))) (br (decide (v1 = 22)) (br (decide (r18 = 4)) (fb_Ma_test_190 N G u18 (v0) (1) (1)) (fb_Ma_test_190 N G u18 (v0) (1) (0))) (br (decide (v1 = 23)) (br (decide (r18 = 2)) (fb_Ma_test_212 N G u18 (v0) (1) (1)) (fb_Ma_test_212 N G u18 (v0) (1) (0))) (ck (isO u18 v0 5) (ck (List.all [some v0] (okR u18.1.1)) (bx (gw u18 (fm_Ma_part N u18 v0 v1 r16 r18)) (fun u19 r19 => gw u19 (fb_Ma_test_229 N G u19))))))))))))))))))
set_option maxRecDepth 100000 in
set_option maxHeartbeats 4000000 in
theorem wb_Ma_test_0 {p : Program} {l : Launch} {e : Env} {s : State} {m : MethodId} {args : Array Value} {below : List Frame} {meth : Method} {c : Code} {s0 : State} {b0 : Nat} {D : va_G} {cB cI cJ cZ cS cP : ClassId} {A : Nat → Prop} {sk sv : Nat → Nat} {uN uS mc ms : Nat} {ad0 : Nat → Nat} (C0 : XCx p s s0 b0 m args meth c R_Ma b_Ma_test 5 none D cB cI cJ cZ cS cP A) (hE : ENV s0 b0 sk sv) (N : Nat) (G : Unit) (hG : True) : ∀ (u : CS) (v0 : Nat) (v1 : Int32) (x : CS × Unit), fb_Ma_test_0 N G u v0 v1 = some x → (uN + mc = x.1.1.1 ∧ uS + ms = x.1.1.2) → ∀ (ad : Nat → Nat) (ce sl : Nat), AB uN uS ad0 u ad ce sl → ∀ (H : Heap) (locs : List Loc), va_P D cls (wC cB cI cJ cZ cS cP ad u) H → va_D A (wC cB cI cJ cZ cS cP ad u) → va_S A s.heap H locs → ∀ (ls : Array Slot), lv_has ls 5 [(0, .ref (ad v0)), (1, .int v1)] → W p l e (rm_Ma_test mc ms) s m args below meth c H locs ce sl (MQ below (xQ D cB cI cJ cZ cS cP A ad0 uN x.1 none) args s mc ms A) (F0 m 0 ls []) := by
  intro u v0 v1 x hf hm ad ce sl hB H locs hP hD hS ls hl
  obtain ⟨hx, hb, hr, hml, ht, hown, hK, hA, hlocks, hA0, hO, hbs⟩ := id C0
  unfold fb_Ma_test_0 at hf
  refine lv_aload_n hx hb d_Ma_test_0 rfl (lv_at hl 0 rfl) ?_
  obtain ⟨r15, g15, hf⟩ := bo_some hf
  refine xg_R (i := v0) (k := 4) hx hb ht hown ck_Ma hK hP (by decide) fk_Ma_33 g15 d_Ma_test_1 ?_
  refine lv_iconst (v := 0) hx hb d_Ma_test_4 (by decide) ?_
  obtain ⟨j17, ej17, hf⟩ := bo_some hf
  rw [ej17]
  obtain ⟨hO9, hf⟩ := ck_some hf
  obtain ⟨u16, r16, hc16, hf⟩ := bx_some hf
  obtain ⟨hc16, hz16⟩ := gz_some hc16
  obtain ⟨hf, hw16⟩ := gw_some hf
  refine xV0 (i := j17) (As := [.int 0]) (rest := []) C0 hP hD hS ck_Fr hO9 (c_Fr_below N hc16) k_Fr_below (wd_of 1653 (by decide +kernel) rfl) hi_Fr_below hs_Fr_below hini_Fr rfl rfl hd_Fr_below rfl rm_Ma_test_Fr_below hl.1 (Nat.le_of_ble_eq_true rfl) d_Ma_test_5 rfl (hB.fit hm hz16 hw16) (fun H locs hP hD hS => ?_)
  have hB := hB.same2 hz16
  refine lv_lstore_n (lv' := [(2, .long r16), (0, .ref (ad v0)), (1, .int v1)]) hx hb d_Ma_test_8 rfl hl (by decide) (by first | rfl | simp [List.filter, cat_rf]) (fun ls hl => ?_)
  refine lv_lload_n hx hb d_Ma_test_9 rfl (lv_at hl 0 rfl) ?_
  obtain ⟨u18, r18, hc18, hf⟩ := bx_some hf
  obtain ⟨hc18, hz18⟩ := gz_some hc18
  obtain ⟨hf, hw18⟩ := gw_some hf
  refine xS0 (As := [.long r16]) (rest := []) C0 hP hD hS (c_Te_tag N hc18) k_Te_tag (wd_of 1657 (by decide +kernel) rfl) ht_Te_tag hini_Te rfl rfl hd_Te_tag rfl rm_Ma_test_Te_tag hl.1 (Nat.le_of_ble_eq_true rfl) d_Ma_test_10 rfl (hB.fit hm hz18 hw18) (fun H locs hP hD hS => ?_)
  have hB := hB.same2 hz18
  refine lv_istore (lv' := [(4, .int r18), (2, .long r16), (0, .ref (ad v0)), (1, .int v1)]) hx hb d_Ma_test_13 hl (by decide) (by first | rfl | simp [List.filter, cat_rf]) (fun ls hl => ?_)
  refine lv_iload_n hx hb d_Ma_test_15 rfl (lv_at hl 3 rfl) ?_
  by_cases hc17 : v1 = 17
  · rw [br_p _ hc17] at hf
    refine lv_tableIn (tgt := 60) hx hb d_Ma_test_16 (by rw [hc17]; decide) (by rw [hc17]; decide) (by rw [hc17]; rfl) (by decide) ?_
    refine lv_aload_n hx hb d_Ma_test_60 rfl (lv_at hl 2 rfl) ?_
    refine lv_iconst (v := 1) hx hb d_Ma_test_61 (by decide) ?_
    refine lv_iload hx hb d_Ma_test_62 (lv_at hl 0 rfl) ?_
    refine lv_if_ne (tgt := 71) hx hb d_Ma_test_64 (by decide) (fun hc => ?_) (fun hc => ?_)
    · rw [br_n _ hc] at hf
      refine lv_iconst (v := 0) hx hb d_Ma_test_71 (by decide) ?_
      exact wb_Ma_test_72 C0 hE N G hG _ _ _ _ _ hf hm _ _ _ hB H locs hP hD hS ls (lv_sub hl [] rfl)
    · rw [br_p _ hc] at hf
      refine lv_iconst (v := 1) hx hb d_Ma_test_67 (by decide) ?_
      refine lv_goto (tgt := 72) hx hb d_Ma_test_68 (by decide) ?_
      exact wb_Ma_test_72 C0 hE N G hG _ _ _ _ _ hf hm _ _ _ hB H locs hP hD hS ls (lv_sub hl [] rfl)
  · rw [br_n _ hc17] at hf
    by_cases hc18 : v1 = 18
    · rw [br_p _ hc18] at hf
      refine lv_tableIn (tgt := 81) hx hb d_Ma_test_16 (by rw [hc18]; decide) (by rw [hc18]; decide) (by rw [hc18]; rfl) (by decide) ?_
      refine lv_aload_n hx hb d_Ma_test_81 rfl (lv_at hl 2 rfl) ?_
      refine lv_iconst (v := 1) hx hb d_Ma_test_82 (by decide) ?_
      refine lv_iload hx hb d_Ma_test_83 (lv_at hl 0 rfl) ?_
      refine lv_iconst (v := 1) hx hb d_Ma_test_85 (by decide) ?_
      refine lv_icmp_ne (tgt := 93) hx hb d_Ma_test_86 (by decide) (fun hc => ?_) (fun hc => ?_)
      · rw [br_n _ hc] at hf
        refine lv_iconst (v := 0) hx hb d_Ma_test_93 (by decide) ?_
        exact wb_Ma_test_94 C0 hE N G hG _ _ _ _ _ hf hm _ _ _ hB H locs hP hD hS ls (lv_sub hl [] rfl)
      · rw [br_p _ hc] at hf
        refine lv_iconst (v := 1) hx hb d_Ma_test_89 (by decide) ?_
        refine lv_goto (tgt := 94) hx hb d_Ma_test_90 (by decide) ?_
        exact wb_Ma_test_94 C0 hE N G hG _ _ _ _ _ hf hm _ _ _ hB H locs hP hD hS ls (lv_sub hl [] rfl)
    · rw [br_n _ hc18] at hf
      by_cases hc19 : v1 = 19
      · rw [br_p _ hc19] at hf
        refine lv_tableIn (tgt := 103) hx hb d_Ma_test_16 (by rw [hc19]; decide) (by rw [hc19]; decide) (by rw [hc19]; rfl) (by decide) ?_
        refine lv_aload_n hx hb d_Ma_test_103 rfl (lv_at hl 2 rfl) ?_
        refine lv_iconst (v := 1) hx hb d_Ma_test_104 (by decide) ?_
        refine lv_iload hx hb d_Ma_test_105 (lv_at hl 0 rfl) ?_
        refine lv_bipush (v := 6) hx hb d_Ma_test_107 (by decide) ?_
        refine lv_icmp_eq (tgt := 119) hx hb d_Ma_test_109 (by decide) (fun hc => ?_) (fun hc => ?_)
        · rw [br_p _ hc] at hf
          exact wb_Ma_test_119 C0 hE N G hG _ _ _ _ hf hm _ _ _ hB H locs hP hD hS ls (lv_sub hl [] rfl)
        · rw [br_n _ hc] at hf
          refine lv_iload hx hb d_Ma_test_112 (lv_at hl 0 rfl) ?_
          refine lv_bipush (v := 7) hx hb d_Ma_test_114 (by decide) ?_
          refine lv_icmp_ne (tgt := 123) hx hb d_Ma_test_116 (by decide) (fun hc => ?_) (fun hc => ?_)
          · rw [br_n _ hc] at hf
            refine lv_iconst (v := 0) hx hb d_Ma_test_123 (by decide) ?_
            exact wb_Ma_test_124 C0 hE N G hG _ _ _ _ _ hf hm _ _ _ hB H locs hP hD hS ls (lv_sub hl [] rfl)
          · rw [br_p _ hc] at hf
            exact wb_Ma_test_119 C0 hE N G hG _ _ _ _ hf hm _ _ _ hB H locs hP hD hS ls (lv_sub hl [] rfl)
      · rw [br_n _ hc19] at hf
        by_cases hc20 : v1 = 20
        · rw [br_p _ hc20] at hf
          refine lv_tableIn (tgt := 133) hx hb d_Ma_test_16 (by rw [hc20]; decide) (by rw [hc20]; decide) (by rw [hc20]; rfl) (by decide) ?_
          refine lv_aload_n hx hb d_Ma_test_133 rfl (lv_at hl 2 rfl) ?_
          refine lv_iconst (v := 1) hx hb d_Ma_test_134 (by decide) ?_
          refine lv_iload hx hb d_Ma_test_135 (lv_at hl 0 rfl) ?_
          refine lv_iconst (v := 5) hx hb d_Ma_test_137 (by decide) ?_
          refine lv_icmp_ne (tgt := 145) hx hb d_Ma_test_138 (by decide) (fun hc => ?_) (fun hc => ?_)
          · rw [br_n _ hc] at hf
            refine lv_iconst (v := 0) hx hb d_Ma_test_145 (by decide) ?_
            exact wb_Ma_test_146 C0 hE N G hG _ _ _ _ _ hf hm _ _ _ hB H locs hP hD hS ls (lv_sub hl [] rfl)
          · rw [br_p _ hc] at hf
            refine lv_iconst (v := 1) hx hb d_Ma_test_141 (by decide) ?_
            refine lv_goto (tgt := 146) hx hb d_Ma_test_142 (by decide) ?_
            exact wb_Ma_test_146 C0 hE N G hG _ _ _ _ _ hf hm _ _ _ hB H locs hP hD hS ls (lv_sub hl [] rfl)
        · rw [br_n _ hc20] at hf
          by_cases hc21 : v1 = 21
          · rw [br_p _ hc21] at hf
            refine lv_tableIn (tgt := 155) hx hb d_Ma_test_16 (by rw [hc21]; decide) (by rw [hc21]; decide) (by rw [hc21]; rfl) (by decide) ?_
            refine lv_aload_n hx hb d_Ma_test_155 rfl (lv_at hl 2 rfl) ?_
            refine lv_iconst (v := 1) hx hb d_Ma_test_156 (by decide) ?_
            refine lv_iload hx hb d_Ma_test_157 (lv_at hl 0 rfl) ?_
            refine lv_iconst (v := 3) hx hb d_Ma_test_159 (by decide) ?_
            refine lv_icmp_ne (tgt := 167) hx hb d_Ma_test_160 (by decide) (fun hc => ?_) (fun hc => ?_)
            · rw [br_n _ hc] at hf
              refine lv_iconst (v := 0) hx hb d_Ma_test_167 (by decide) ?_
              exact wb_Ma_test_168 C0 hE N G hG _ _ _ _ _ hf hm _ _ _ hB H locs hP hD hS ls (lv_sub hl [] rfl)
            · rw [br_p _ hc] at hf
              refine lv_iconst (v := 1) hx hb d_Ma_test_163 (by decide) ?_
              refine lv_goto (tgt := 168) hx hb d_Ma_test_164 (by decide) ?_
              exact wb_Ma_test_168 C0 hE N G hG _ _ _ _ _ hf hm _ _ _ hB H locs hP hD hS ls (lv_sub hl [] rfl)
          · rw [br_n _ hc21] at hf
            by_cases hc22 : v1 = 22
            · rw [br_p _ hc22] at hf
              refine lv_tableIn (tgt := 177) hx hb d_Ma_test_16 (by rw [hc22]; decide) (by rw [hc22]; decide) (by rw [hc22]; rfl) (by decide) ?_
              refine lv_aload_n hx hb d_Ma_test_177 rfl (lv_at hl 2 rfl) ?_
              refine lv_iconst (v := 1) hx hb d_Ma_test_178 (by decide) ?_
              refine lv_iload hx hb d_Ma_test_179 (lv_at hl 0 rfl) ?_
              refine lv_iconst (v := 4) hx hb d_Ma_test_181 (by decide) ?_
              refine lv_icmp_ne (tgt := 189) hx hb d_Ma_test_182 (by decide) (fun hc => ?_) (fun hc => ?_)
              · rw [br_n _ hc] at hf
                refine lv_iconst (v := 0) hx hb d_Ma_test_189 (by decide) ?_
                exact wb_Ma_test_190 C0 hE N G hG _ _ _ _ _ hf hm _ _ _ hB H locs hP hD hS ls (lv_sub hl [] rfl)
              · rw [br_p _ hc] at hf
                refine lv_iconst (v := 1) hx hb d_Ma_test_185 (by decide) ?_
                refine lv_goto (tgt := 190) hx hb d_Ma_test_186 (by decide) ?_
                exact wb_Ma_test_190 C0 hE N G hG _ _ _ _ _ hf hm _ _ _ hB H locs hP hD hS ls (lv_sub hl [] rfl)
            · rw [br_n _ hc22] at hf
              by_cases hc23 : v1 = 23
              · rw [br_p _ hc23] at hf
                refine lv_tableIn (tgt := 199) hx hb d_Ma_test_16 (by rw [hc23]; decide) (by rw [hc23]; decide) (by rw [hc23]; rfl) (by decide) ?_
                refine lv_aload_n hx hb d_Ma_test_199 rfl (lv_at hl 2 rfl) ?_
                refine lv_iconst (v := 1) hx hb d_Ma_test_200 (by decide) ?_
                refine lv_iload hx hb d_Ma_test_201 (lv_at hl 0 rfl) ?_
                refine lv_iconst (v := 2) hx hb d_Ma_test_203 (by decide) ?_
                refine lv_icmp_ne (tgt := 211) hx hb d_Ma_test_204 (by decide) (fun hc => ?_) (fun hc => ?_)
                · rw [br_n _ hc] at hf
                  refine lv_iconst (v := 0) hx hb d_Ma_test_211 (by decide) ?_
                  exact wb_Ma_test_212 C0 hE N G hG _ _ _ _ _ hf hm _ _ _ hB H locs hP hD hS ls (lv_sub hl [] rfl)
                · rw [br_p _ hc] at hf
                  refine lv_iconst (v := 1) hx hb d_Ma_test_207 (by decide) ?_
                  refine lv_goto (tgt := 212) hx hb d_Ma_test_208 (by decide) ?_
                  exact wb_Ma_test_212 C0 hE N G hG _ _ _ _ _ hf hm _ _ _ hB H locs hP hD hS ls (lv_sub hl [] rfl)
              · rw [br_n _ hc23] at hf
                refine lv_tableOut (tgt := 221) hx hb d_Ma_test_16 (by have z0 := tiN hc17; have z1 := tiN hc18; have z2 := tiN hc19; have z3 := tiN hc20; have z4 := tiN hc21; have z5 := tiN hc22; have z6 := tiN hc23; rw [show (17 : Int32).toInt = 17 from by decide] at z0; rw [show (18 : Int32).toInt = 18 from by decide] at z1; rw [show (19 : Int32).toInt = 19 from by decide] at z2; rw [show (20 : Int32).toInt = 20 from by decide] at z3; rw [show (21 : Int32).toInt = 21 from by decide] at z4; rw [show (22 : Int32).toInt = 22 from by decide] at z5; rw [show (23 : Int32).toInt = 23 from by decide] at z6; omega) (by decide) ?_
                refine lv_aload_n hx hb d_Ma_test_221 rfl (lv_at hl 2 rfl) ?_
                refine lv_iload_n hx hb d_Ma_test_222 rfl (lv_at hl 3 rfl) ?_
                refine lv_lload_n hx hb d_Ma_test_223 rfl (lv_at hl 1 rfl) ?_
                refine lv_iload hx hb d_Ma_test_224 (lv_at hl 0 rfl) ?_
                obtain ⟨hO9, hf⟩ := ck_some hf
                obtain ⟨hk19, hf⟩ := ck_some hf
                obtain ⟨u19, r19, hc19, hf⟩ := bx_some hf
                obtain ⟨hc19, hq19⟩ := gw_some hc19
                obtain ⟨hf, hw19⟩ := gw_some hf
                refine yV (i := v0) (As := [.int v1, .long r16, .int r18]) (rest := []) C0 hP hD hS ck_Ma hO9 (c_Ma_part N hE hc19 (gm hq19)) k_Ma_part (wd_of 1782 (by decide +kernel) rfl) hi_Ma_part hs_Ma_part hini_Ma rfl rfl hd_Ma_part rfl rm_Ma_test_Ma_part hl.1 (Nat.le_of_ble_eq_true rfl) d_Ma_test_226 rfl (gm hq19) hB hm hw19 (fun ad19 H locs ce sl hg19 hB hP hD hS => ?_)
                have q19_0 : ad19 v0 = ad v0 := ko_O (k := 0) hk19 rfl hg19
                have hl : lv_has ls 5 [(4, .int r18), (2, .long r16), (0, .ref (ad19 v0)), (1, .int v1)] := by simp only [q19_0]; exact hl
                exact wb_Ma_test_229 C0 hE N G hG _ _ hf hm _ _ _ hB H locs hP hD hS ls (lv_sub hl [] rfl)
def fm_Ma_test (N : Nat) (u : CS) (v0 : Nat) (v1 : Int32) : Option (CS × Unit) := fb_Ma_test_0 N () u v0 v1
set_option maxRecDepth 100000 in
set_option maxHeartbeats 4000000 in
theorem c_Ma_test (N : Nat) {l : Launch} {s0 : State} {b0 : Nat} {D : va_G} {cB cI cJ cZ cS cP : ClassId} {sk sv : Nat → Nat} {ad : Nat → Nat} {u : CS} {sz mc ms : Nat} {v0 : Nat} {v1 : Int32} {x : CS × Unit} (hE : ENV s0 b0 sk sv) (hf : fm_Ma_test N u v0 v1 = some x) (hm : u.1.1 + mc = x.1.1.1 ∧ u.1.2 + ms = x.1.1.2) : Met l y_Ma_test (wd_ws y_Ma_test b_Ma_test 5 none) (rm_Ma_test mc ms) (xPc s0 b0 D cB cI cJ cZ cS cP ad u sz [.ref (ad v0), .int v1]) (xQ D cB cI cJ cZ cS cP (xA cB cI cJ cZ cS cP ad u sz) ad u.1.1 x.1 none) mc ms (xA cB cI cJ cZ cS cP ad u sz) :=
  xMet (by decide) rfl (Nat.le_of_ble_eq_true rfl) (fun p e s m below meth c ls hsz hnm C0 hP hD hS hl =>
    wb_Ma_test_0 C0 hE N () trivial u _ _ x hf hm ad 0 0 ⟨rfl, rfl, fun _ _ => rfl⟩ s.heap [] hP hD hS ls (lv_sub hl [0, 1] rfl))
abbrev b_Ma_alone : ByteArray := prog_5_method_53_code
def y_Ma_alone : MethodName := ⟨R_Ma, "alone", "(I)V"⟩
def w_Ma_alone : List Cond := wd_ws y_Ma_alone b_Ma_alone 4 none
set_option maxRecDepth 100000 in
theorem k_Ma_alone : Cond.code y_Ma_alone b_Ma_alone 4 none ∈ wd_tbl := wd_of 1793 rfl rfl
theorem d_Ma_alone_0 : decode b_Ma_alone 0 = .ok (.aload_n 0, 1) := by decide +kernel
theorem d_Ma_alone_1 : decode b_Ma_alone 1 = .ok (.getfield 33, 3) := by decide +kernel
theorem d_Ma_alone_4 : decode b_Ma_alone 4 = .ok (.iconst 0, 1) := by decide +kernel
theorem d_Ma_alone_5 : decode b_Ma_alone 5 = .ok (.invokevirtual 138, 3) := by decide +kernel
theorem d_Ma_alone_8 : decode b_Ma_alone 8 = .ok (.lstore_n 2, 1) := by decide +kernel
theorem d_Ma_alone_9 : decode b_Ma_alone 9 = .ok (.iload_n 1, 1) := by decide +kernel
theorem d_Ma_alone_10 : decode b_Ma_alone 10 = .ok (.tableswitch 293 0 16 #[82, 293, 293, 293, 293, 101, 146, 212, 222, 232, 293, 242, 293, 293, 293, 293, 274], 82) := by decide +kernel
theorem d_Ma_alone_92 : decode b_Ma_alone 92 = .ok (.aload_n 0, 1) := by decide +kernel
theorem d_Ma_alone_93 : decode b_Ma_alone 93 = .ok (.iconst 0, 1) := by decide +kernel
theorem d_Ma_alone_94 : decode b_Ma_alone 94 = .ok (.iconst 4, 1) := by decide +kernel
theorem d_Ma_alone_95 : decode b_Ma_alone 95 = .ok (.aload_n 0, 1) := by decide +kernel
theorem d_Ma_alone_96 : decode b_Ma_alone 96 = .ok (.getfield 23, 3) := by decide +kernel
theorem d_Ma_alone_99 : decode b_Ma_alone 99 = .ok (.getfield 282, 3) := by decide +kernel
theorem d_Ma_alone_102 : decode b_Ma_alone 102 = .ok (.invokestatic 101, 3) := by decide +kernel
theorem d_Ma_alone_105 : decode b_Ma_alone 105 = .ok (.invokevirtual 145, 3) := by decide +kernel
theorem d_Ma_alone_108 : decode b_Ma_alone 108 = .ok (.goto 201, 3) := by decide +kernel
theorem d_Ma_alone_111 : decode b_Ma_alone 111 = .ok (.lload_n 2, 1) := by decide +kernel
theorem d_Ma_alone_112 : decode b_Ma_alone 112 = .ok (.invokestatic 253, 3) := by decide +kernel
theorem d_Ma_alone_115 : decode b_Ma_alone 115 = .ok (.iconst 2, 1) := by decide +kernel
theorem d_Ma_alone_116 : decode b_Ma_alone 116 = .ok (.if_icmp .eq 12, 3) := by decide +kernel
theorem d_Ma_alone_119 : decode b_Ma_alone 119 = .ok (.aload_n 0, 1) := by decide +kernel
theorem d_Ma_alone_120 : decode b_Ma_alone 120 = .ok (.bipush 11, 2) := by decide +kernel
theorem d_Ma_alone_122 : decode b_Ma_alone 122 = .ok (.invokevirtual 249, 3) := by decide +kernel
theorem d_Ma_alone_125 : decode b_Ma_alone 125 = .ok (.goto 184, 3) := by decide +kernel
theorem d_Ma_alone_128 : decode b_Ma_alone 128 = .ok (.aload_n 0, 1) := by decide +kernel
theorem d_Ma_alone_129 : decode b_Ma_alone 129 = .ok (.getfield 15, 3) := by decide +kernel
theorem d_Ma_alone_132 : decode b_Ma_alone 132 = .ok (.aload_n 0, 1) := by decide +kernel
theorem d_Ma_alone_133 : decode b_Ma_alone 133 = .ok (.getfield 23, 3) := by decide +kernel
theorem d_Ma_alone_136 : decode b_Ma_alone 136 = .ok (.getfield 282, 3) := by decide +kernel
theorem d_Ma_alone_139 : decode b_Ma_alone 139 = .ok (.lload_n 2, 1) := by decide +kernel
theorem d_Ma_alone_140 : decode b_Ma_alone 140 = .ok (.l2i, 1) := by decide +kernel
theorem d_Ma_alone_141 : decode b_Ma_alone 141 = .ok (.invokevirtual 471, 3) := by decide +kernel
theorem d_Ma_alone_144 : decode b_Ma_alone 144 = .ok (.aload_n 0, 1) := by decide +kernel
theorem d_Ma_alone_145 : decode b_Ma_alone 145 = .ok (.iconst 1, 1) := by decide +kernel
theorem d_Ma_alone_146 : decode b_Ma_alone 146 = .ok (.iconst 0, 1) := by decide +kernel
theorem d_Ma_alone_147 : decode b_Ma_alone 147 = .ok (.invokestatic 105, 3) := by decide +kernel
theorem d_Ma_alone_150 : decode b_Ma_alone 150 = .ok (.invokevirtual 145, 3) := by decide +kernel
theorem d_Ma_alone_153 : decode b_Ma_alone 153 = .ok (.goto 156, 3) := by decide +kernel
theorem d_Ma_alone_156 : decode b_Ma_alone 156 = .ok (.lload_n 2, 1) := by decide +kernel
theorem d_Ma_alone_157 : decode b_Ma_alone 157 = .ok (.iconst 0, 1) := by decide +kernel
theorem d_Ma_alone_158 : decode b_Ma_alone 158 = .ok (.invokestatic 105, 3) := by decide +kernel
theorem d_Ma_alone_161 : decode b_Ma_alone 161 = .ok (.lcmp, 1) := by decide +kernel
theorem d_Ma_alone_162 : decode b_Ma_alone 162 = .ok (.ifCond .eq 21, 3) := by decide +kernel
theorem d_Ma_alone_165 : decode b_Ma_alone 165 = .ok (.lload_n 2, 1) := by decide +kernel
theorem d_Ma_alone_166 : decode b_Ma_alone 166 = .ok (.iconst 1, 1) := by decide +kernel
theorem d_Ma_alone_167 : decode b_Ma_alone 167 = .ok (.invokestatic 105, 3) := by decide +kernel
theorem d_Ma_alone_170 : decode b_Ma_alone 170 = .ok (.lcmp, 1) := by decide +kernel
theorem d_Ma_alone_171 : decode b_Ma_alone 171 = .ok (.ifCond .eq 12, 3) := by decide +kernel
theorem d_Ma_alone_174 : decode b_Ma_alone 174 = .ok (.aload_n 0, 1) := by decide +kernel
theorem d_Ma_alone_175 : decode b_Ma_alone 175 = .ok (.bipush 11, 2) := by decide +kernel
theorem d_Ma_alone_177 : decode b_Ma_alone 177 = .ok (.invokevirtual 249, 3) := by decide +kernel
theorem d_Ma_alone_180 : decode b_Ma_alone 180 = .ok (.goto 129, 3) := by decide +kernel
theorem d_Ma_alone_183 : decode b_Ma_alone 183 = .ok (.aload_n 0, 1) := by decide +kernel
theorem d_Ma_alone_184 : decode b_Ma_alone 184 = .ok (.iconst 1, 1) := by decide +kernel
theorem d_Ma_alone_185 : decode b_Ma_alone 185 = .ok (.aload_n 0, 1) := by decide +kernel
theorem d_Ma_alone_186 : decode b_Ma_alone 186 = .ok (.getfield 23, 3) := by decide +kernel
theorem d_Ma_alone_189 : decode b_Ma_alone 189 = .ok (.getfield 474, 3) := by decide +kernel
theorem d_Ma_alone_192 : decode b_Ma_alone 192 = .ok (.invokestatic 207, 3) := by decide +kernel
theorem d_Ma_alone_195 : decode b_Ma_alone 195 = .ok (.invokevirtual 145, 3) := by decide +kernel
theorem d_Ma_alone_198 : decode b_Ma_alone 198 = .ok (.aload_n 0, 1) := by decide +kernel
theorem d_Ma_alone_199 : decode b_Ma_alone 199 = .ok (.getfield 23, 3) := by decide +kernel
theorem d_Ma_alone_202 : decode b_Ma_alone 202 = .ok (.lload_n 2, 1) := by decide +kernel
theorem d_Ma_alone_203 : decode b_Ma_alone 203 = .ok (.iconst 0, 1) := by decide +kernel
theorem d_Ma_alone_204 : decode b_Ma_alone 204 = .ok (.invokestatic 105, 3) := by decide +kernel
theorem d_Ma_alone_207 : decode b_Ma_alone 207 = .ok (.lcmp, 1) := by decide +kernel
theorem d_Ma_alone_208 : decode b_Ma_alone 208 = .ok (.ifCond .ne 7, 3) := by decide +kernel
theorem d_Ma_alone_211 : decode b_Ma_alone 211 = .ok (.iconst 1, 1) := by decide +kernel
theorem d_Ma_alone_212 : decode b_Ma_alone 212 = .ok (.goto 4, 3) := by decide +kernel
theorem d_Ma_alone_215 : decode b_Ma_alone 215 = .ok (.iconst 0, 1) := by decide +kernel
theorem d_Ma_alone_216 : decode b_Ma_alone 216 = .ok (.putfield 474, 3) := by decide +kernel
theorem d_Ma_alone_219 : decode b_Ma_alone 219 = .ok (.goto 90, 3) := by decide +kernel
theorem d_Ma_alone_222 : decode b_Ma_alone 222 = .ok (.aload_n 0, 1) := by decide +kernel
theorem d_Ma_alone_223 : decode b_Ma_alone 223 = .ok (.iconst 2, 1) := by decide +kernel
theorem d_Ma_alone_224 : decode b_Ma_alone 224 = .ok (.iconst (-1), 1) := by decide +kernel
theorem d_Ma_alone_225 : decode b_Ma_alone 225 = .ok (.lload_n 2, 1) := by decide +kernel
theorem d_Ma_alone_226 : decode b_Ma_alone 226 = .ok (.invokevirtual 123, 3) := by decide +kernel
theorem d_Ma_alone_229 : decode b_Ma_alone 229 = .ok (.goto 80, 3) := by decide +kernel
theorem d_Ma_alone_232 : decode b_Ma_alone 232 = .ok (.aload_n 0, 1) := by decide +kernel
theorem d_Ma_alone_233 : decode b_Ma_alone 233 = .ok (.iconst 3, 1) := by decide +kernel
theorem d_Ma_alone_234 : decode b_Ma_alone 234 = .ok (.iconst (-1), 1) := by decide +kernel
theorem d_Ma_alone_235 : decode b_Ma_alone 235 = .ok (.lload_n 2, 1) := by decide +kernel
theorem d_Ma_alone_236 : decode b_Ma_alone 236 = .ok (.invokevirtual 123, 3) := by decide +kernel
theorem d_Ma_alone_239 : decode b_Ma_alone 239 = .ok (.goto 70, 3) := by decide +kernel
theorem d_Ma_alone_242 : decode b_Ma_alone 242 = .ok (.aload_n 0, 1) := by decide +kernel
theorem d_Ma_alone_243 : decode b_Ma_alone 243 = .ok (.iconst 1, 1) := by decide +kernel
theorem d_Ma_alone_244 : decode b_Ma_alone 244 = .ok (.iconst (-1), 1) := by decide +kernel
theorem d_Ma_alone_245 : decode b_Ma_alone 245 = .ok (.lload_n 2, 1) := by decide +kernel
theorem d_Ma_alone_246 : decode b_Ma_alone 246 = .ok (.invokevirtual 123, 3) := by decide +kernel
theorem d_Ma_alone_249 : decode b_Ma_alone 249 = .ok (.goto 60, 3) := by decide +kernel
theorem d_Ma_alone_252 : decode b_Ma_alone 252 = .ok (.aload_n 0, 1) := by decide +kernel
theorem d_Ma_alone_253 : decode b_Ma_alone 253 = .ok (.iconst 0, 1) := by decide +kernel
theorem d_Ma_alone_254 : decode b_Ma_alone 254 = .ok (.iconst 2, 1) := by decide +kernel
theorem d_Ma_alone_255 : decode b_Ma_alone 255 = .ok (.aload_n 0, 1) := by decide +kernel
theorem d_Ma_alone_256 : decode b_Ma_alone 256 = .ok (.getfield 15, 3) := by decide +kernel
theorem d_Ma_alone_259 : decode b_Ma_alone 259 = .ok (.getfield 462, 3) := by decide +kernel
theorem d_Ma_alone_262 : decode b_Ma_alone 262 = .ok (.invokestatic 101, 3) := by decide +kernel
theorem d_Ma_alone_265 : decode b_Ma_alone 265 = .ok (.invokevirtual 145, 3) := by decide +kernel
theorem d_Ma_alone_268 : decode b_Ma_alone 268 = .ok (.aload_n 0, 1) := by decide +kernel
theorem d_Ma_alone_269 : decode b_Ma_alone 269 = .ok (.getfield 15, 3) := by decide +kernel
theorem d_Ma_alone_272 : decode b_Ma_alone 272 = .ok (.dup, 1) := by decide +kernel
theorem d_Ma_alone_273 : decode b_Ma_alone 273 = .ok (.getfield 462, 3) := by decide +kernel
theorem d_Ma_alone_276 : decode b_Ma_alone 276 = .ok (.iconst 1, 1) := by decide +kernel
theorem d_Ma_alone_277 : decode b_Ma_alone 277 = .ok (.iadd, 1) := by decide +kernel
theorem d_Ma_alone_278 : decode b_Ma_alone 278 = .ok (.putfield 462, 3) := by decide +kernel
theorem d_Ma_alone_281 : decode b_Ma_alone 281 = .ok (.goto 28, 3) := by decide +kernel
theorem d_Ma_alone_284 : decode b_Ma_alone 284 = .ok (.aload_n 0, 1) := by decide +kernel
theorem d_Ma_alone_285 : decode b_Ma_alone 285 = .ok (.iconst 0, 1) := by decide +kernel
theorem d_Ma_alone_286 : decode b_Ma_alone 286 = .ok (.iconst 0, 1) := by decide +kernel
theorem d_Ma_alone_287 : decode b_Ma_alone 287 = .ok (.aload_n 0, 1) := by decide +kernel
theorem d_Ma_alone_288 : decode b_Ma_alone 288 = .ok (.getfield 15, 3) := by decide +kernel
theorem d_Ma_alone_291 : decode b_Ma_alone 291 = .ok (.getfield 402, 3) := by decide +kernel
theorem d_Ma_alone_294 : decode b_Ma_alone 294 = .ok (.invokestatic 101, 3) := by decide +kernel
theorem d_Ma_alone_297 : decode b_Ma_alone 297 = .ok (.invokevirtual 145, 3) := by decide +kernel
theorem d_Ma_alone_300 : decode b_Ma_alone 300 = .ok (.goto 9, 3) := by decide +kernel
theorem d_Ma_alone_303 : decode b_Ma_alone 303 = .ok (.aload_n 0, 1) := by decide +kernel
theorem d_Ma_alone_304 : decode b_Ma_alone 304 = .ok (.bipush 11, 2) := by decide +kernel
theorem d_Ma_alone_306 : decode b_Ma_alone 306 = .ok (.invokevirtual 249, 3) := by decide +kernel
theorem d_Ma_alone_309 : decode b_Ma_alone 309 = .ok (.return_, 1) := by decide +kernel
set_option maxRecDepth 100000 in
theorem hl_Ma_alone : Cond.methodLink R_Ma 428 y_Ma_alone ∈ wd_tbl := wd_of 1790 (by decide +kernel) rfl
set_option maxRecDepth 100000 in
theorem hi_Ma_alone : Cond.instanceMethod y_Ma_alone ∈ wd_tbl := wd_of 1792 (by decide +kernel) rfl
set_option maxRecDepth 100000 in
theorem hs_Ma_alone : Cond.selects R_Ma y_Ma_alone y_Ma_alone ∈ wd_tbl := wd_of 86 (by decide +kernel) rfl
theorem hd_Ma_alone : y_Ma_alone.cls = R_Ma ∧ y_Ma_alone.cls ≠ "java/lang/invoke/MethodHandle" ∧ y_Ma_alone.cls ≠ "java/lang/invoke/VarHandle" ∧ (parseMethodDescriptor y_Ma_alone.desc).map (fun d => d.parameters.length) = some 1 := by decide +kernel
def rm_Ma_alone (mc ms : Nat) : Room := { frames := 4, cells := mc, slots := ms, locals := 127 }
theorem rm_Ma_alone_Fr_below {mc ms : Nat} : (rm_Fr_below).frames + 1 ≤ (rm_Ma_alone mc ms).frames ∧ 8 + (3 + 11) + (rm_Fr_below).locals ≤ (rm_Ma_alone mc ms).locals := by
  show 0 + 1 ≤ 4 ∧ 8 + (3 + 11) + 0 ≤ 127
  decide
theorem rm_Ma_alone_Te_make {mc ms : Nat} : (rm_Te_make).frames + 1 ≤ (rm_Ma_alone mc ms).frames ∧ 8 + (2 + 11) + (rm_Te_make).locals ≤ (rm_Ma_alone mc ms).locals := by
  show 0 + 1 ≤ 4 ∧ 8 + (2 + 11) + 0 ≤ 127
  decide
theorem rm_Ma_alone_Ma_answer {mc ms : Nat} {mc2 ms2 : Nat} : (rm_Ma_answer mc2 ms2).frames + 1 ≤ (rm_Ma_alone mc ms).frames ∧ 8 + (4 + 11) + (rm_Ma_answer mc2 ms2).locals ≤ (rm_Ma_alone mc ms).locals := by
  show 3 + 1 ≤ 4 ∧ 8 + (4 + 11) + 104 ≤ 127
  decide
theorem rm_Ma_alone_Te_tag {mc ms : Nat} : (rm_Te_tag).frames + 1 ≤ (rm_Ma_alone mc ms).frames ∧ 8 + (2 + 11) + (rm_Te_tag).locals ≤ (rm_Ma_alone mc ms).locals := by
  show 0 + 1 ≤ 4 ∧ 8 + (2 + 11) + 0 ≤ 127
  decide
theorem rm_Ma_alone_Ma_wrong {mc ms : Nat} : (rm_Ma_wrong).frames + 1 ≤ (rm_Ma_alone mc ms).frames ∧ 8 + (2 + 11) + (rm_Ma_wrong).locals ≤ (rm_Ma_alone mc ms).locals := by
  show 2 + 1 ≤ 4 ∧ 8 + (2 + 11) + 41 ≤ 127
  decide
theorem rm_Ma_alone_Wl_removeWatch {mc ms : Nat} : (rm_Wl_removeWatch).frames + 1 ≤ (rm_Ma_alone mc ms).frames ∧ 8 + (5 + 11) + (rm_Wl_removeWatch).locals ≤ (rm_Ma_alone mc ms).locals := by
  show 1 + 1 ≤ 4 ∧ 8 + (5 + 11) + 22 ≤ 127
  decide
theorem rm_Ma_alone_Ma_atom {mc ms : Nat} : (rm_Ma_atom).frames + 1 ≤ (rm_Ma_alone mc ms).frames ∧ 8 + (1 + 11) + (rm_Ma_atom).locals ≤ (rm_Ma_alone mc ms).locals := by
  show 1 + 1 ≤ 4 ∧ 8 + (1 + 11) + 21 ≤ 127
  decide
theorem rm_Ma_alone_Ma_truth {mc ms : Nat} : (rm_Ma_truth).frames + 1 ≤ (rm_Ma_alone mc ms).frames ∧ 8 + (1 + 11) + (rm_Ma_truth).locals ≤ (rm_Ma_alone mc ms).locals := by
  show 2 + 1 ≤ 4 ∧ 8 + (1 + 11) + 41 ≤ 127
  decide
theorem rm_Ma_alone_Ma_tell {mc ms : Nat} : (rm_Ma_tell).frames + 1 ≤ (rm_Ma_alone mc ms).frames ∧ 8 + (5 + 11) + (rm_Ma_tell).locals ≤ (rm_Ma_alone mc ms).locals := by
  show 0 + 1 ≤ 4 ∧ 8 + (5 + 11) + 0 ≤ 127
  decide
def fb_Ma_alone_309 (N : Nat) (G : Unit) (u : CS) : Option (CS × Unit) := some (u, ())
set_option maxRecDepth 100000 in
set_option maxHeartbeats 4000000 in
theorem wb_Ma_alone_309 {p : Program} {l : Launch} {e : Env} {s : State} {m : MethodId} {args : Array Value} {below : List Frame} {meth : Method} {c : Code} {s0 : State} {b0 : Nat} {D : va_G} {cB cI cJ cZ cS cP : ClassId} {A : Nat → Prop} {sk sv : Nat → Nat} {uN uS mc ms : Nat} {ad0 : Nat → Nat} (C0 : XCx p s s0 b0 m args meth c R_Ma b_Ma_alone 4 none D cB cI cJ cZ cS cP A) (hE : ENV s0 b0 sk sv) (N : Nat) (G : Unit) (hG : True) : ∀ (u : CS) (x : CS × Unit), fb_Ma_alone_309 N G u = some x → (uN + mc = x.1.1.1 ∧ uS + ms = x.1.1.2) → ∀ (ad : Nat → Nat) (ce sl : Nat), AB uN uS ad0 u ad ce sl → ∀ (H : Heap) (locs : List Loc), va_P D cls (wC cB cI cJ cZ cS cP ad u) H → va_D A (wC cB cI cJ cZ cS cP ad u) → va_S A s.heap H locs → ∀ (ls : Array Slot), lv_has ls 4 [] → W p l e (rm_Ma_alone mc ms) s m args below meth c H locs ce sl (MQ below (xQ D cB cI cJ cZ cS cP A ad0 uN x.1 none) args s mc ms A) (F0 m 309 ls []) := by
  intro u x hf hm ad ce sl hB H locs hP hD hS ls hl
  obtain ⟨hx, hb, hr, hml, ht, hown, hK, hA, hlocks, hA0, hO, hbs⟩ := id C0
  unfold fb_Ma_alone_309 at hf
  exact yr_v C0 hP hD hS hB hm hf d_Ma_alone_309
def fb_Ma_alone_216 (N : Nat) (G : Unit) (u : CS) (t0 : Option Nat) (t1 : Int32) : Option (CS × Unit) := bo t0 (fun j1 => ck (isb t1) (bo (pF u j1 7 11 (.inl t1)) (fun w2 => fb_Ma_alone_309 N G w2)))
set_option maxRecDepth 100000 in
set_option maxHeartbeats 4000000 in
theorem wb_Ma_alone_216 {p : Program} {l : Launch} {e : Env} {s : State} {m : MethodId} {args : Array Value} {below : List Frame} {meth : Method} {c : Code} {s0 : State} {b0 : Nat} {D : va_G} {cB cI cJ cZ cS cP : ClassId} {A : Nat → Prop} {sk sv : Nat → Nat} {uN uS mc ms : Nat} {ad0 : Nat → Nat} (C0 : XCx p s s0 b0 m args meth c R_Ma b_Ma_alone 4 none D cB cI cJ cZ cS cP A) (hE : ENV s0 b0 sk sv) (N : Nat) (G : Unit) (hG : True) : ∀ (u : CS) (t0 : Option Nat) (t1 : Int32) (x : CS × Unit), fb_Ma_alone_216 N G u t0 t1 = some x → (uN + mc = x.1.1.1 ∧ uS + ms = x.1.1.2) → ∀ (ad : Nat → Nat) (ce sl : Nat), AB uN uS ad0 u ad ce sl → ∀ (H : Heap) (locs : List Loc), va_P D cls (wC cB cI cJ cZ cS cP ad u) H → va_D A (wC cB cI cJ cZ cS cP ad u) → va_S A s.heap H locs → ∀ (ls : Array Slot), lv_has ls 4 [] → W p l e (rm_Ma_alone mc ms) s m args below meth c H locs ce sl (MQ below (xQ D cB cI cJ cZ cS cP A ad0 uN x.1 none) args s mc ms A) (F0 m 216 ls [.int t1, va_rf (Option.map ad t0)]) := by
  intro u t0 t1 x hf hm ad ce sl hB H locs hP hD hS ls hl
  obtain ⟨hx, hb, hr, hml, ht, hown, hK, hA, hlocks, hA0, hO, hbs⟩ := id C0
  unfold fb_Ma_alone_216 at hf
  obtain ⟨j1, ej1, hf⟩ := bo_some hf
  rw [ej1]
  obtain ⟨hz, hf⟩ := ck_some hf
  obtain ⟨w2, g2, hf⟩ := bo_some hf
  refine xp (i := j1) (k := 11) (v := (.inl t1)) hx hb ht hown ck_Pr hK hP hD hS (by decide) fk_Ma_474 rfl g2 (isb_n hz) (isb_f hz) d_Ma_alone_216 (fun H locs hP hD hS => ?_)
  have hB := hB.same (pF_c g2)
  refine lv_goto (tgt := 309) hx hb d_Ma_alone_219 (by decide) ?_
  exact wb_Ma_alone_309 C0 hE N G hG _ _ hf hm _ _ _ hB H locs hP hD hS ls (lv_sub hl [] rfl)
def fb_Ma_alone_183 (N : Nat) (G : Unit) (u : CS) (v0 : Nat) (v2 : Int64) : Option (CS × Unit) := bo (gR u v0 5 3) (fun r3 => bo r3 (fun j4 => bo (gI u j4 7 11) (fun r5 => bx (gz u (fm_Ma_truth N u r5)) (fun u6 r6 => gw u6 (ck (isO u6 v0 5) (ck (List.all [some v0] (okR u6.1.1)) (bx (gw u6 (fm_Ma_answer N u6 v0 1 r6)) (fun u7 r7 => gw u7 (bo (gR u7 v0 5 3) (fun r8 => bx (gz u7 (fm_Ma_atom N u7 0)) (fun u9 r9 => gw u9 (br (decide ((lg_cmp v2 r9) = 0)) (fb_Ma_alone_216 N G u9 (r8) (1)) (fb_Ma_alone_216 N G u9 (r8) (0))))))))))))))
set_option maxRecDepth 100000 in
set_option maxHeartbeats 4000000 in
theorem wb_Ma_alone_183 {p : Program} {l : Launch} {e : Env} {s : State} {m : MethodId} {args : Array Value} {below : List Frame} {meth : Method} {c : Code} {s0 : State} {b0 : Nat} {D : va_G} {cB cI cJ cZ cS cP : ClassId} {A : Nat → Prop} {sk sv : Nat → Nat} {uN uS mc ms : Nat} {ad0 : Nat → Nat} (C0 : XCx p s s0 b0 m args meth c R_Ma b_Ma_alone 4 none D cB cI cJ cZ cS cP A) (hE : ENV s0 b0 sk sv) (N : Nat) (G : Unit) (hG : True) : ∀ (u : CS) (v0 : Nat) (v2 : Int64) (x : CS × Unit), fb_Ma_alone_183 N G u v0 v2 = some x → (uN + mc = x.1.1.1 ∧ uS + ms = x.1.1.2) → ∀ (ad : Nat → Nat) (ce sl : Nat), AB uN uS ad0 u ad ce sl → ∀ (H : Heap) (locs : List Loc), va_P D cls (wC cB cI cJ cZ cS cP ad u) H → va_D A (wC cB cI cJ cZ cS cP ad u) → va_S A s.heap H locs → ∀ (ls : Array Slot), lv_has ls 4 [(0, .ref (ad v0)), (2, .long v2)] → W p l e (rm_Ma_alone mc ms) s m args below meth c H locs ce sl (MQ below (xQ D cB cI cJ cZ cS cP A ad0 uN x.1 none) args s mc ms A) (F0 m 183 ls []) := by
  intro u v0 v2 x hf hm ad ce sl hB H locs hP hD hS ls hl
  obtain ⟨hx, hb, hr, hml, ht, hown, hK, hA, hlocks, hA0, hO, hbs⟩ := id C0
  unfold fb_Ma_alone_183 at hf
  refine lv_aload_n hx hb d_Ma_alone_183 rfl (lv_at hl 0 rfl) ?_
  refine lv_iconst (v := 1) hx hb d_Ma_alone_184 (by decide) ?_
  refine lv_aload_n hx hb d_Ma_alone_185 rfl (lv_at hl 0 rfl) ?_
  obtain ⟨r3, g3, hf⟩ := bo_some hf
  refine xg_R (i := v0) (k := 3) hx hb ht hown ck_Ma hK hP (by decide) fk_Ma_23 g3 d_Ma_alone_186 ?_
  obtain ⟨j4, ej4, hf⟩ := bo_some hf
  rw [ej4]
  obtain ⟨r5, g5, hf⟩ := bo_some hf
  refine xg_I (i := j4) (k := 11) hx hb ht hown ck_Pr hK hP (by decide) fk_Ma_474 g5 d_Ma_alone_189 ?_
  obtain ⟨u6, r6, hc6, hf⟩ := bx_some hf
  obtain ⟨hc6, hz6⟩ := gz_some hc6
  obtain ⟨hf, hw6⟩ := gw_some hf
  refine xS0 (As := [.int r5]) (rest := [.int 1, .ref (ad v0)]) C0 hP hD hS (c_Ma_truth N hc6) k_Ma_truth (wd_of 1779 (by decide +kernel) rfl) ht_Ma_truth hini_Ma rfl rfl hd_Ma_truth rfl rm_Ma_alone_Ma_truth hl.1 (Nat.le_of_ble_eq_true rfl) d_Ma_alone_192 rfl (hB.fit hm hz6 hw6) (fun H locs hP hD hS => ?_)
  have hB := hB.same2 hz6
  obtain ⟨hO9, hf⟩ := ck_some hf
  obtain ⟨hk7, hf⟩ := ck_some hf
  obtain ⟨u7, r7, hc7, hf⟩ := bx_some hf
  obtain ⟨hc7, hq7⟩ := gw_some hc7
  obtain ⟨hf, hw7⟩ := gw_some hf
  refine yV (i := v0) (As := [.int 1, .long r6]) (rest := []) C0 hP hD hS ck_Ma hO9 (c_Ma_answer N hE hc7 (gm hq7)) k_Ma_answer (wd_of 1744 (by decide +kernel) rfl) hi_Ma_answer hs_Ma_answer hini_Ma rfl rfl hd_Ma_answer rfl rm_Ma_alone_Ma_answer hl.1 (Nat.le_of_ble_eq_true rfl) d_Ma_alone_195 rfl (gm hq7) hB hm hw7 (fun ad7 H locs ce sl hg7 hB hP hD hS => ?_)
  have q7_0 : ad7 v0 = ad v0 := ko_O (k := 0) hk7 rfl hg7
  have hl : lv_has ls 4 [(0, .ref (ad7 v0)), (2, .long v2)] := by simp only [q7_0]; exact hl
  refine lv_aload_n hx hb d_Ma_alone_198 rfl (lv_at hl 0 rfl) ?_
  obtain ⟨r8, g8, hf⟩ := bo_some hf
  refine xg_R (i := v0) (k := 3) hx hb ht hown ck_Ma hK hP (by decide) fk_Ma_23 g8 d_Ma_alone_199 ?_
  refine lv_lload_n hx hb d_Ma_alone_202 rfl (lv_at hl 1 rfl) ?_
  refine lv_iconst (v := 0) hx hb d_Ma_alone_203 (by decide) ?_
  obtain ⟨u9, r9, hc9, hf⟩ := bx_some hf
  obtain ⟨hc9, hz9⟩ := gz_some hc9
  obtain ⟨hf, hw9⟩ := gw_some hf
  refine xS0 (As := [.int 0]) (rest := [.long v2, va_rf (Option.map ad7 r8)]) C0 hP hD hS (c_Ma_atom N hc9) k_Ma_atom (wd_of 1668 (by decide +kernel) rfl) ht_Ma_atom hini_Ma rfl rfl hd_Ma_atom rfl rm_Ma_alone_Ma_atom hl.1 (c8 (Nat.le_of_ble_eq_true rfl)) d_Ma_alone_204 rfl (hB.fit hm hz9 hw9) (fun H locs hP hD hS => ?_)
  have hB := hB.same2 hz9
  refine W.lcmp hx hb d_Ma_alone_207 ?_
  refine lv_if_ne (tgt := 215) hx hb d_Ma_alone_208 (by decide) (fun hc => ?_) (fun hc => ?_)
  · rw [br_n _ hc] at hf
    refine lv_iconst (v := 0) hx hb d_Ma_alone_215 (by decide) ?_
    exact wb_Ma_alone_216 C0 hE N G hG _ _ _ _ hf hm _ _ _ hB H locs hP hD hS ls (lv_sub hl [] rfl)
  · rw [br_p _ hc] at hf
    refine lv_iconst (v := 1) hx hb d_Ma_alone_211 (by decide) ?_
    refine lv_goto (tgt := 216) hx hb d_Ma_alone_212 (by decide) ?_
    exact wb_Ma_alone_216 C0 hE N G hG _ _ _ _ hf hm _ _ _ hB H locs hP hD hS ls (lv_sub hl [] rfl)
def fb_Ma_alone_0 (N : Nat) (G : Unit) (u : CS) (v0 : Nat) (v1 : Int32) : Option (CS × Unit) := bo (gR u v0 5 4) (fun r10 => bo r10 (fun j12 => ck (isO u j12 4) (bx (gz u (fm_Fr_below N u j12 0)) (fun u11 r11 => gw u11 (br (decide (v1 = 0)) (bo (gR u11 v0 5 3) (fun r13 => bo r13 (fun j14 => bo (gI u11 j14 7 0) (fun r15 => bx (gz u11 (fm_Te_make N u11 4 r15)) (fun u16 r16 => gw u16 (ck (isO u16 v0 5) (ck (List.all [some v0] (okR u16.1.1)) (bx (gw u16 (fm_Ma_answer N u16 v0 0 r16)) (fun u17 r17 => gw u17 (fb_Ma_alone_309 N G u17)))))))))) (br (decide (v1 = 1)) (ck (isO u11 v0 5) (bx (gz u11 (fm_Ma_wrong N u11 v0 11)) (fun u18 r18 => gw u18 (fb_Ma_alone_309 N G u18)))) (br (decide (v1 = 2)) (ck (isO u11 v0 5) (bx (gz u11 (fm_Ma_wrong N u11 v0 11)) (fun u19 r19 => gw u19 (fb_Ma_alone_309 N G u19)))) (br (decide (v1 = 3)) (ck (isO u11 v0 5) (bx (gz u11 (fm_Ma_wrong N u11 v0 11)) (fun u20 r20 => gw u20 (fb_Ma_alone_309 N G u20)))) (br (decide (v1 = 4)) (ck (isO u11 v0 5) (bx (gz u11 (fm_Ma_wrong N u11 v0 11)) (fun u21 r21 => gw u21 (fb_Ma_alone_309 N G u21)))) (br (decide (v1 = 5)) (bx (gz u11 (fm_Te_tag N u11 r11)) (fun u22 r22 => gw u22 (br (decide (r22 = 2)) (bo (gR u22 v0 5 1) (fun r23 => bo (gR u22 v0 5 3) (fun r24 => bo r24 (fun j25 => bo (gI u22 j25 7 0) (fun r26 => bo r23 (fun j28 => ck (isO u22 j28 12) (bx (gz u22 (fm_Wl_removeWatch N u22 j28 r26 (r11.toInt32))) (fun u27 r27 => gw u27 (bx (gz u27 (fm_Ma_atom N u27 0)) (fun u29 r29 => gw u29 (ck (isO u29 v0 5) (ck (List.all [some v0] (okR u29.1.1)) (bx (gw u29 (fm_Ma_answer N u29 v0 1 r29)) (fun u30 r30 => gw u30 (fb_Ma_alone_309 N G u30))))))))))))))) (ck (isO u22 v0 5) (bx (gz u22 (fm_Ma_wrong N u22 v0 11)) (fun u31 r31 => gw u31 (fb_Ma_alone_309 N G u31))))))) (br (decide (v1 = 6)) (bx (gz u11 (fm_Ma_atom N u11 0)) (fun u32 r32 => gw u32 (br (decide ((lg_cmp r11 r32) = 0)) (fb_Ma_alone_183 N G u32 (v0) (r11)) (bx (gz u32 (fm_Ma_atom N u32 1)) (fun u33 r33 => gw u33 (br (decide ((lg_cmp r11 r33) = 0)) (fb_Ma_alone_183 N G u33 (v0) (r11)) (ck (isO u33 v0 5) (bx (gz u33 (fm_Ma_wrong N u33 v0 11)) (fun u34 r34 => gw u34 (fb_Ma_alone_309 N G u34)))))))))) (br (decide (v1 = 7)) (ck (isO u11 v0 5) (bx (gz u11 (fm_Ma_tell N u11 v0 2 (-1) r11)) (fun u35 r35 => gw u35 (fb_Ma_alone_309 N G u35)))) (br (decide (v1 = 8)) (ck (isO u11 v0 5) (bx (gz u11 (fm_Ma_tell N u11 v0 3 (-1) r11)) (fun u36 r36 => gw u36 (fb_Ma_alone_309 N G u36)))) (br (decide (v1 = 9)) (ck (isO u11 v0 5) (bx (gz u11 (fm_Ma_tell N u11 v0 1 (-1) r11)) (fun u37 r37 => gw u37 (fb_Ma_alone_309 N G u37)))) (br (decide (v1 = 10)) (ck (isO u11 v0 5) (bx (gz u11 (fm_Ma_wrong N u11 v0 11)) (fun u38 r38 => gw u38 (fb_Ma_alone_309 N G u38)))) (br (decide (v1 = 11)) (bo (gR u11 v0 5 1) (fun r39 => bo r39 (fun j40 => bo (gI u11 j40 12 5) (fun r41 => bx (gz u11 (fm_Te_make N u11 2 r41)) (fun u42 r42 => gw u42 (ck (isO u42 v0 5) (ck (List.all [some v0] (okR u42.1.1)) (bx (gw u42 (fm_Ma_answer N u42 v0 0 r42)) (fun u43 r43 => gw u43 (bo (gR u43 v0 5 1) (fun r44 => bo r44 (fun j45 => bo (gI u43 j45 12 5) (fun r46 => bo (pF u43 j45 12 5 (.inl (r46 + 1))) (fun w47 => fb_Ma_alone_309 N G w47)))))))))))))) (br (decide (v1 = 12)) (ck (isO u11 v0 5) (bx (gz u11 (fm_Ma_wrong N u11 v0 11)) (fun u48 r48 => gw u48 (fb_Ma_alone_309 N G u48)))) (br (decide (v1 = 13)) (ck (isO u11 v0 5) (bx (gz u11 (fm_Ma_wrong N u11 v0 11)) (fun u49 r49 => gw u49 (fb_Ma_alone_309 N G u49)))) (br (decide (v1 = 14)) (ck (isO u11 v0 5) (bx (gz u11 (fm_Ma_wrong N u11 v0 11)) (fun u50 r50 => gw u50 (fb_Ma_alone_309 N G u50)))) (br (decide (v1 = 15)) (ck (isO u11 v0 5) (bx (gz u11 (fm_Ma_wrong N u11 v0 11)) (fun u51 r51 => gw u51 (fb_Ma_alone_309 N G u51)))) (br (decide (v1 = 16)) (bo (gR u11 v0 5 1) (fun r52 => bo r52 (fun j53 => bo (gI u11 j53 12 4) (fun r54 => bx (gz u11 (fm_Te_make N u11 0 r54)) (fun u55 r55 => gw u55 (ck (isO u55 v0 5) (ck (List.all [some v0] (okR u55.1.1)) (bx (gw u55 (fm_Ma_answer N u55 v0 0 r55)) (fun u56 r56 => gw u56 (fb_Ma_alone_309 N G u56)))))))))) (ck (isO u11 v0 5) (bx (gz u11 (fm_Ma_wrong N u11 v0 11)) (fun u57 r57 => gw u57 (fb_Ma_alone_309 N G u57)))))))))))))))))))))))))
set_option maxRecDepth 100000 in
set_option maxHeartbeats 4000000 in
theorem wb_Ma_alone_0 {p : Program} {l : Launch} {e : Env} {s : State} {m : MethodId} {args : Array Value} {below : List Frame} {meth : Method} {c : Code} {s0 : State} {b0 : Nat} {D : va_G} {cB cI cJ cZ cS cP : ClassId} {A : Nat → Prop} {sk sv : Nat → Nat} {uN uS mc ms : Nat} {ad0 : Nat → Nat} (C0 : XCx p s s0 b0 m args meth c R_Ma b_Ma_alone 4 none D cB cI cJ cZ cS cP A) (hE : ENV s0 b0 sk sv) (N : Nat) (G : Unit) (hG : True) : ∀ (u : CS) (v0 : Nat) (v1 : Int32) (x : CS × Unit), fb_Ma_alone_0 N G u v0 v1 = some x → (uN + mc = x.1.1.1 ∧ uS + ms = x.1.1.2) → ∀ (ad : Nat → Nat) (ce sl : Nat), AB uN uS ad0 u ad ce sl → ∀ (H : Heap) (locs : List Loc), va_P D cls (wC cB cI cJ cZ cS cP ad u) H → va_D A (wC cB cI cJ cZ cS cP ad u) → va_S A s.heap H locs → ∀ (ls : Array Slot), lv_has ls 4 [(0, .ref (ad v0)), (1, .int v1)] → W p l e (rm_Ma_alone mc ms) s m args below meth c H locs ce sl (MQ below (xQ D cB cI cJ cZ cS cP A ad0 uN x.1 none) args s mc ms A) (F0 m 0 ls []) := by
  intro u v0 v1 x hf hm ad ce sl hB H locs hP hD hS ls hl
  obtain ⟨hx, hb, hr, hml, ht, hown, hK, hA, hlocks, hA0, hO, hbs⟩ := id C0
  unfold fb_Ma_alone_0 at hf
  refine lv_aload_n hx hb d_Ma_alone_0 rfl (lv_at hl 0 rfl) ?_
  obtain ⟨r10, g10, hf⟩ := bo_some hf
  refine xg_R (i := v0) (k := 4) hx hb ht hown ck_Ma hK hP (by decide) fk_Ma_33 g10 d_Ma_alone_1 ?_
  refine lv_iconst (v := 0) hx hb d_Ma_alone_4 (by decide) ?_
  obtain ⟨j12, ej12, hf⟩ := bo_some hf
  rw [ej12]
  obtain ⟨hO9, hf⟩ := ck_some hf
  obtain ⟨u11, r11, hc11, hf⟩ := bx_some hf
  obtain ⟨hc11, hz11⟩ := gz_some hc11
  obtain ⟨hf, hw11⟩ := gw_some hf
  refine xV0 (i := j12) (As := [.int 0]) (rest := []) C0 hP hD hS ck_Fr hO9 (c_Fr_below N hc11) k_Fr_below (wd_of 1653 (by decide +kernel) rfl) hi_Fr_below hs_Fr_below hini_Fr rfl rfl hd_Fr_below rfl rm_Ma_alone_Fr_below hl.1 (Nat.le_of_ble_eq_true rfl) d_Ma_alone_5 rfl (hB.fit hm hz11 hw11) (fun H locs hP hD hS => ?_)
  have hB := hB.same2 hz11
  refine lv_lstore_n (lv' := [(2, .long r11), (0, .ref (ad v0)), (1, .int v1)]) hx hb d_Ma_alone_8 rfl hl (by decide) (by first | rfl | simp [List.filter, cat_rf]) (fun ls hl => ?_)
  refine lv_iload_n hx hb d_Ma_alone_9 rfl (lv_at hl 2 rfl) ?_
  by_cases hc0 : v1 = 0
  · rw [br_p _ hc0] at hf
    refine lv_tableIn (tgt := 92) hx hb d_Ma_alone_10 (by rw [hc0]; decide) (by rw [hc0]; decide) (by rw [hc0]; rfl) (by decide) ?_
    refine lv_aload_n hx hb d_Ma_alone_92 rfl (lv_at hl 1 rfl) ?_
    refine lv_iconst (v := 0) hx hb d_Ma_alone_93 (by decide) ?_
    refine lv_iconst (v := 4) hx hb d_Ma_alone_94 (by decide) ?_
    refine lv_aload_n hx hb d_Ma_alone_95 rfl (lv_at hl 1 rfl) ?_
    obtain ⟨r13, g13, hf⟩ := bo_some hf
    refine xg_R (i := v0) (k := 3) hx hb ht hown ck_Ma hK hP (by decide) fk_Ma_23 g13 d_Ma_alone_96 ?_
    obtain ⟨j14, ej14, hf⟩ := bo_some hf
    rw [ej14]
    obtain ⟨r15, g15, hf⟩ := bo_some hf
    refine xg_I (i := j14) (k := 0) hx hb ht hown ck_Pr hK hP (by decide) fk_Ma_282 g15 d_Ma_alone_99 ?_
    obtain ⟨u16, r16, hc16, hf⟩ := bx_some hf
    obtain ⟨hc16, hz16⟩ := gz_some hc16
    obtain ⟨hf, hw16⟩ := gw_some hf
    refine xS0 (As := [.int 4, .int r15]) (rest := [.int 0, .ref (ad v0)]) C0 hP hD hS (c_Te_make N hc16) k_Te_make (wd_of 1671 (by decide +kernel) rfl) ht_Te_make hini_Te rfl rfl hd_Te_make rfl rm_Ma_alone_Te_make hl.1 (Nat.le_of_ble_eq_true rfl) d_Ma_alone_102 rfl (hB.fit hm hz16 hw16) (fun H locs hP hD hS => ?_)
    have hB := hB.same2 hz16
    obtain ⟨hO9, hf⟩ := ck_some hf
    obtain ⟨hk17, hf⟩ := ck_some hf
    obtain ⟨u17, r17, hc17, hf⟩ := bx_some hf
    obtain ⟨hc17, hq17⟩ := gw_some hc17
    obtain ⟨hf, hw17⟩ := gw_some hf
    refine yV (i := v0) (As := [.int 0, .long r16]) (rest := []) C0 hP hD hS ck_Ma hO9 (c_Ma_answer N hE hc17 (gm hq17)) k_Ma_answer (wd_of 1744 (by decide +kernel) rfl) hi_Ma_answer hs_Ma_answer hini_Ma rfl rfl hd_Ma_answer rfl rm_Ma_alone_Ma_answer hl.1 (Nat.le_of_ble_eq_true rfl) d_Ma_alone_105 rfl (gm hq17) hB hm hw17 (fun ad17 H locs ce sl hg17 hB hP hD hS => ?_)
    have q17_0 : ad17 v0 = ad v0 := ko_O (k := 0) hk17 rfl hg17
    have hl : lv_has ls 4 [(2, .long r11), (0, .ref (ad17 v0)), (1, .int v1)] := by simp only [q17_0]; exact hl
    refine lv_goto (tgt := 309) hx hb d_Ma_alone_108 (by decide) ?_
    exact wb_Ma_alone_309 C0 hE N G hG _ _ hf hm _ _ _ hB H locs hP hD hS ls (lv_sub hl [] rfl)
  · rw [br_n _ hc0] at hf
    by_cases hc1 : v1 = 1
    · rw [br_p _ hc1] at hf
      refine lv_tableIn (tgt := 303) hx hb d_Ma_alone_10 (by rw [hc1]; decide) (by rw [hc1]; decide) (by rw [hc1]; rfl) (by decide) ?_
      refine lv_aload_n hx hb d_Ma_alone_303 rfl (lv_at hl 1 rfl) ?_
      refine lv_bipush (v := 11) hx hb d_Ma_alone_304 (by decide) ?_
      obtain ⟨hO9, hf⟩ := ck_some hf
      obtain ⟨u18, r18, hc18, hf⟩ := bx_some hf
      obtain ⟨hc18, hz18⟩ := gz_some hc18
      obtain ⟨hf, hw18⟩ := gw_some hf
      refine xV0 (i := v0) (As := [.int 11]) (rest := []) C0 hP hD hS ck_Ma hO9 (c_Ma_wrong N hc18) k_Ma_wrong (wd_of 1664 (by decide +kernel) rfl) hi_Ma_wrong hs_Ma_wrong hini_Ma rfl rfl hd_Ma_wrong rfl rm_Ma_alone_Ma_wrong hl.1 (Nat.le_of_ble_eq_true rfl) d_Ma_alone_306 rfl (hB.fit hm hz18 hw18) (fun H locs hP hD hS => ?_)
      have hB := hB.same2 hz18
      exact wb_Ma_alone_309 C0 hE N G hG _ _ hf hm _ _ _ hB H locs hP hD hS ls (lv_sub hl [] rfl)
    · rw [br_n _ hc1] at hf
      by_cases hc2 : v1 = 2
      · rw [br_p _ hc2] at hf
        refine lv_tableIn (tgt := 303) hx hb d_Ma_alone_10 (by rw [hc2]; decide) (by rw [hc2]; decide) (by rw [hc2]; rfl) (by decide) ?_
        refine lv_aload_n hx hb d_Ma_alone_303 rfl (lv_at hl 1 rfl) ?_
        refine lv_bipush (v := 11) hx hb d_Ma_alone_304 (by decide) ?_
        obtain ⟨hO9, hf⟩ := ck_some hf
        obtain ⟨u19, r19, hc19, hf⟩ := bx_some hf
        obtain ⟨hc19, hz19⟩ := gz_some hc19
        obtain ⟨hf, hw19⟩ := gw_some hf
        refine xV0 (i := v0) (As := [.int 11]) (rest := []) C0 hP hD hS ck_Ma hO9 (c_Ma_wrong N hc19) k_Ma_wrong (wd_of 1664 (by decide +kernel) rfl) hi_Ma_wrong hs_Ma_wrong hini_Ma rfl rfl hd_Ma_wrong rfl rm_Ma_alone_Ma_wrong hl.1 (Nat.le_of_ble_eq_true rfl) d_Ma_alone_306 rfl (hB.fit hm hz19 hw19) (fun H locs hP hD hS => ?_)
        have hB := hB.same2 hz19
        exact wb_Ma_alone_309 C0 hE N G hG _ _ hf hm _ _ _ hB H locs hP hD hS ls (lv_sub hl [] rfl)
      · rw [br_n _ hc2] at hf
        by_cases hc3 : v1 = 3
        · rw [br_p _ hc3] at hf
          refine lv_tableIn (tgt := 303) hx hb d_Ma_alone_10 (by rw [hc3]; decide) (by rw [hc3]; decide) (by rw [hc3]; rfl) (by decide) ?_
          refine lv_aload_n hx hb d_Ma_alone_303 rfl (lv_at hl 1 rfl) ?_
          refine lv_bipush (v := 11) hx hb d_Ma_alone_304 (by decide) ?_
          obtain ⟨hO9, hf⟩ := ck_some hf
          obtain ⟨u20, r20, hc20, hf⟩ := bx_some hf
          obtain ⟨hc20, hz20⟩ := gz_some hc20
          obtain ⟨hf, hw20⟩ := gw_some hf
          refine xV0 (i := v0) (As := [.int 11]) (rest := []) C0 hP hD hS ck_Ma hO9 (c_Ma_wrong N hc20) k_Ma_wrong (wd_of 1664 (by decide +kernel) rfl) hi_Ma_wrong hs_Ma_wrong hini_Ma rfl rfl hd_Ma_wrong rfl rm_Ma_alone_Ma_wrong hl.1 (Nat.le_of_ble_eq_true rfl) d_Ma_alone_306 rfl (hB.fit hm hz20 hw20) (fun H locs hP hD hS => ?_)
          have hB := hB.same2 hz20
          exact wb_Ma_alone_309 C0 hE N G hG _ _ hf hm _ _ _ hB H locs hP hD hS ls (lv_sub hl [] rfl)
        · rw [br_n _ hc3] at hf
          by_cases hc4 : v1 = 4
          · rw [br_p _ hc4] at hf
            refine lv_tableIn (tgt := 303) hx hb d_Ma_alone_10 (by rw [hc4]; decide) (by rw [hc4]; decide) (by rw [hc4]; rfl) (by decide) ?_
            refine lv_aload_n hx hb d_Ma_alone_303 rfl (lv_at hl 1 rfl) ?_
            refine lv_bipush (v := 11) hx hb d_Ma_alone_304 (by decide) ?_
            obtain ⟨hO9, hf⟩ := ck_some hf
            obtain ⟨u21, r21, hc21, hf⟩ := bx_some hf
            obtain ⟨hc21, hz21⟩ := gz_some hc21
            obtain ⟨hf, hw21⟩ := gw_some hf
            refine xV0 (i := v0) (As := [.int 11]) (rest := []) C0 hP hD hS ck_Ma hO9 (c_Ma_wrong N hc21) k_Ma_wrong (wd_of 1664 (by decide +kernel) rfl) hi_Ma_wrong hs_Ma_wrong hini_Ma rfl rfl hd_Ma_wrong rfl rm_Ma_alone_Ma_wrong hl.1 (Nat.le_of_ble_eq_true rfl) d_Ma_alone_306 rfl (hB.fit hm hz21 hw21) (fun H locs hP hD hS => ?_)
            have hB := hB.same2 hz21
            exact wb_Ma_alone_309 C0 hE N G hG _ _ hf hm _ _ _ hB H locs hP hD hS ls (lv_sub hl [] rfl)
          · rw [br_n _ hc4] at hf
            by_cases hc5 : v1 = 5
            · rw [br_p _ hc5] at hf
              refine lv_tableIn (tgt := 111) hx hb d_Ma_alone_10 (by rw [hc5]; decide) (by rw [hc5]; decide) (by rw [hc5]; rfl) (by decide) ?_
              refine lv_lload_n hx hb d_Ma_alone_111 rfl (lv_at hl 0 rfl) ?_
              obtain ⟨u22, r22, hc22, hf⟩ := bx_some hf
              obtain ⟨hc22, hz22⟩ := gz_some hc22
              obtain ⟨hf, hw22⟩ := gw_some hf
              refine xS0 (As := [.long r11]) (rest := []) C0 hP hD hS (c_Te_tag N hc22) k_Te_tag (wd_of 1657 (by decide +kernel) rfl) ht_Te_tag hini_Te rfl rfl hd_Te_tag rfl rm_Ma_alone_Te_tag hl.1 (Nat.le_of_ble_eq_true rfl) d_Ma_alone_112 rfl (hB.fit hm hz22 hw22) (fun H locs hP hD hS => ?_)
              have hB := hB.same2 hz22
              refine lv_iconst (v := 2) hx hb d_Ma_alone_115 (by decide) ?_
              refine lv_icmp_eq (tgt := 128) hx hb d_Ma_alone_116 (by decide) (fun hc => ?_) (fun hc => ?_)
              · rw [br_p _ hc] at hf
                refine lv_aload_n hx hb d_Ma_alone_128 rfl (lv_at hl 1 rfl) ?_
                obtain ⟨r23, g23, hf⟩ := bo_some hf
                refine xg_R (i := v0) (k := 1) hx hb ht hown ck_Ma hK hP (by decide) fk_Ma_15 g23 d_Ma_alone_129 ?_
                refine lv_aload_n hx hb d_Ma_alone_132 rfl (lv_at hl 1 rfl) ?_
                obtain ⟨r24, g24, hf⟩ := bo_some hf
                refine xg_R (i := v0) (k := 3) hx hb ht hown ck_Ma hK hP (by decide) fk_Ma_23 g24 d_Ma_alone_133 ?_
                obtain ⟨j25, ej25, hf⟩ := bo_some hf
                rw [ej25]
                obtain ⟨r26, g26, hf⟩ := bo_some hf
                refine xg_I (i := j25) (k := 0) hx hb ht hown ck_Pr hK hP (by decide) fk_Ma_282 g26 d_Ma_alone_136 ?_
                refine lv_lload_n hx hb d_Ma_alone_139 rfl (lv_at hl 0 rfl) ?_
                refine lv_l2i hx hb d_Ma_alone_140 rfl ?_
                obtain ⟨j28, ej28, hf⟩ := bo_some hf
                rw [ej28]
                obtain ⟨hO9, hf⟩ := ck_some hf
                obtain ⟨u27, r27, hc27, hf⟩ := bx_some hf
                obtain ⟨hc27, hz27⟩ := gz_some hc27
                obtain ⟨hf, hw27⟩ := gw_some hf
                refine xV0 (i := j28) (As := [.int r26, .int r11.toInt32]) (rest := []) C0 hP hD hS ck_Wl hO9 (c_Wl_removeWatch N hc27) k_Wl_removeWatch (wd_of 1794 (by decide +kernel) rfl) hi_Wl_removeWatch hs_Wl_removeWatch hini_Wl rfl rfl hd_Wl_removeWatch rfl rm_Ma_alone_Wl_removeWatch hl.1 (Nat.le_of_ble_eq_true rfl) d_Ma_alone_141 rfl (hB.fit hm hz27 hw27) (fun H locs hP hD hS => ?_)
                have hB := hB.same2 hz27
                refine lv_aload_n hx hb d_Ma_alone_144 rfl (lv_at hl 1 rfl) ?_
                refine lv_iconst (v := 1) hx hb d_Ma_alone_145 (by decide) ?_
                refine lv_iconst (v := 0) hx hb d_Ma_alone_146 (by decide) ?_
                obtain ⟨u29, r29, hc29, hf⟩ := bx_some hf
                obtain ⟨hc29, hz29⟩ := gz_some hc29
                obtain ⟨hf, hw29⟩ := gw_some hf
                refine xS0 (As := [.int 0]) (rest := [.int 1, .ref (ad v0)]) C0 hP hD hS (c_Ma_atom N hc29) k_Ma_atom (wd_of 1668 (by decide +kernel) rfl) ht_Ma_atom hini_Ma rfl rfl hd_Ma_atom rfl rm_Ma_alone_Ma_atom hl.1 (Nat.le_of_ble_eq_true rfl) d_Ma_alone_147 rfl (hB.fit hm hz29 hw29) (fun H locs hP hD hS => ?_)
                have hB := hB.same2 hz29
                obtain ⟨hO9, hf⟩ := ck_some hf
                obtain ⟨hk30, hf⟩ := ck_some hf
                obtain ⟨u30, r30, hc30, hf⟩ := bx_some hf
                obtain ⟨hc30, hq30⟩ := gw_some hc30
                obtain ⟨hf, hw30⟩ := gw_some hf
                refine yV (i := v0) (As := [.int 1, .long r29]) (rest := []) C0 hP hD hS ck_Ma hO9 (c_Ma_answer N hE hc30 (gm hq30)) k_Ma_answer (wd_of 1744 (by decide +kernel) rfl) hi_Ma_answer hs_Ma_answer hini_Ma rfl rfl hd_Ma_answer rfl rm_Ma_alone_Ma_answer hl.1 (Nat.le_of_ble_eq_true rfl) d_Ma_alone_150 rfl (gm hq30) hB hm hw30 (fun ad30 H locs ce sl hg30 hB hP hD hS => ?_)
                have q30_0 : ad30 v0 = ad v0 := ko_O (k := 0) hk30 rfl hg30
                have hl : lv_has ls 4 [(2, .long r11), (0, .ref (ad30 v0)), (1, .int v1)] := by simp only [q30_0]; exact hl
                refine lv_goto (tgt := 309) hx hb d_Ma_alone_153 (by decide) ?_
                exact wb_Ma_alone_309 C0 hE N G hG _ _ hf hm _ _ _ hB H locs hP hD hS ls (lv_sub hl [] rfl)
              · rw [br_n _ hc] at hf
                refine lv_aload_n hx hb d_Ma_alone_119 rfl (lv_at hl 1 rfl) ?_
                refine lv_bipush (v := 11) hx hb d_Ma_alone_120 (by decide) ?_
                obtain ⟨hO9, hf⟩ := ck_some hf
                obtain ⟨u31, r31, hc31, hf⟩ := bx_some hf
                obtain ⟨hc31, hz31⟩ := gz_some hc31
                obtain ⟨hf, hw31⟩ := gw_some hf
                refine xV0 (i := v0) (As := [.int 11]) (rest := []) C0 hP hD hS ck_Ma hO9 (c_Ma_wrong N hc31) k_Ma_wrong (wd_of 1664 (by decide +kernel) rfl) hi_Ma_wrong hs_Ma_wrong hini_Ma rfl rfl hd_Ma_wrong rfl rm_Ma_alone_Ma_wrong hl.1 (Nat.le_of_ble_eq_true rfl) d_Ma_alone_122 rfl (hB.fit hm hz31 hw31) (fun H locs hP hD hS => ?_)
                have hB := hB.same2 hz31
                refine lv_goto (tgt := 309) hx hb d_Ma_alone_125 (by decide) ?_
                exact wb_Ma_alone_309 C0 hE N G hG _ _ hf hm _ _ _ hB H locs hP hD hS ls (lv_sub hl [] rfl)
            · rw [br_n _ hc5] at hf
              by_cases hc6 : v1 = 6
              · rw [br_p _ hc6] at hf
                refine lv_tableIn (tgt := 156) hx hb d_Ma_alone_10 (by rw [hc6]; decide) (by rw [hc6]; decide) (by rw [hc6]; rfl) (by decide) ?_
                refine lv_lload_n hx hb d_Ma_alone_156 rfl (lv_at hl 0 rfl) ?_
                refine lv_iconst (v := 0) hx hb d_Ma_alone_157 (by decide) ?_
                obtain ⟨u32, r32, hc32, hf⟩ := bx_some hf
                obtain ⟨hc32, hz32⟩ := gz_some hc32
                obtain ⟨hf, hw32⟩ := gw_some hf
                refine xS0 (As := [.int 0]) (rest := [.long r11]) C0 hP hD hS (c_Ma_atom N hc32) k_Ma_atom (wd_of 1668 (by decide +kernel) rfl) ht_Ma_atom hini_Ma rfl rfl hd_Ma_atom rfl rm_Ma_alone_Ma_atom hl.1 (Nat.le_of_ble_eq_true rfl) d_Ma_alone_158 rfl (hB.fit hm hz32 hw32) (fun H locs hP hD hS => ?_)
                have hB := hB.same2 hz32
                refine W.lcmp hx hb d_Ma_alone_161 ?_
                refine lv_if_eq (tgt := 183) hx hb d_Ma_alone_162 (by decide) (fun hc => ?_) (fun hc => ?_)
                · rw [br_p _ hc] at hf
                  exact wb_Ma_alone_183 C0 hE N G hG _ _ _ _ hf hm _ _ _ hB H locs hP hD hS ls (lv_sub hl [1, 0] rfl)
                · rw [br_n _ hc] at hf
                  refine lv_lload_n hx hb d_Ma_alone_165 rfl (lv_at hl 0 rfl) ?_
                  refine lv_iconst (v := 1) hx hb d_Ma_alone_166 (by decide) ?_
                  obtain ⟨u33, r33, hc33, hf⟩ := bx_some hf
                  obtain ⟨hc33, hz33⟩ := gz_some hc33
                  obtain ⟨hf, hw33⟩ := gw_some hf
                  refine xS0 (As := [.int 1]) (rest := [.long r11]) C0 hP hD hS (c_Ma_atom N hc33) k_Ma_atom (wd_of 1668 (by decide +kernel) rfl) ht_Ma_atom hini_Ma rfl rfl hd_Ma_atom rfl rm_Ma_alone_Ma_atom hl.1 (Nat.le_of_ble_eq_true rfl) d_Ma_alone_167 rfl (hB.fit hm hz33 hw33) (fun H locs hP hD hS => ?_)
                  have hB := hB.same2 hz33
                  refine W.lcmp hx hb d_Ma_alone_170 ?_
                  refine lv_if_eq (tgt := 183) hx hb d_Ma_alone_171 (by decide) (fun hc => ?_) (fun hc => ?_)
                  · rw [br_p _ hc] at hf
                    exact wb_Ma_alone_183 C0 hE N G hG _ _ _ _ hf hm _ _ _ hB H locs hP hD hS ls (lv_sub hl [1, 0] rfl)
                  · rw [br_n _ hc] at hf
                    refine lv_aload_n hx hb d_Ma_alone_174 rfl (lv_at hl 1 rfl) ?_
                    refine lv_bipush (v := 11) hx hb d_Ma_alone_175 (by decide) ?_
                    obtain ⟨hO9, hf⟩ := ck_some hf
                    obtain ⟨u34, r34, hc34, hf⟩ := bx_some hf
                    obtain ⟨hc34, hz34⟩ := gz_some hc34
                    obtain ⟨hf, hw34⟩ := gw_some hf
                    refine xV0 (i := v0) (As := [.int 11]) (rest := []) C0 hP hD hS ck_Ma hO9 (c_Ma_wrong N hc34) k_Ma_wrong (wd_of 1664 (by decide +kernel) rfl) hi_Ma_wrong hs_Ma_wrong hini_Ma rfl rfl hd_Ma_wrong rfl rm_Ma_alone_Ma_wrong hl.1 (Nat.le_of_ble_eq_true rfl) d_Ma_alone_177 rfl (hB.fit hm hz34 hw34) (fun H locs hP hD hS => ?_)
                    have hB := hB.same2 hz34
                    refine lv_goto (tgt := 309) hx hb d_Ma_alone_180 (by decide) ?_
                    exact wb_Ma_alone_309 C0 hE N G hG _ _ hf hm _ _ _ hB H locs hP hD hS ls (lv_sub hl [] rfl)
              · rw [br_n _ hc6] at hf
                by_cases hc7 : v1 = 7
                · rw [br_p _ hc7] at hf
                  refine lv_tableIn (tgt := 222) hx hb d_Ma_alone_10 (by rw [hc7]; decide) (by rw [hc7]; decide) (by rw [hc7]; rfl) (by decide) ?_
                  refine lv_aload_n hx hb d_Ma_alone_222 rfl (lv_at hl 1 rfl) ?_
                  refine lv_iconst (v := 2) hx hb d_Ma_alone_223 (by decide) ?_
                  refine lv_iconst (v := (-1)) hx hb d_Ma_alone_224 (by decide) ?_
                  refine lv_lload_n hx hb d_Ma_alone_225 rfl (lv_at hl 0 rfl) ?_
                  obtain ⟨hO9, hf⟩ := ck_some hf
                  obtain ⟨u35, r35, hc35, hf⟩ := bx_some hf
                  obtain ⟨hc35, hz35⟩ := gz_some hc35
                  obtain ⟨hf, hw35⟩ := gw_some hf
                  refine xV0 (i := v0) (As := [.int 2, .int (-1), .long r11]) (rest := []) C0 hP hD hS ck_Ma hO9 (c_Ma_tell N hc35) k_Ma_tell (wd_of 1672 (by decide +kernel) rfl) hi_Ma_tell hs_Ma_tell hini_Ma rfl rfl hd_Ma_tell rfl rm_Ma_alone_Ma_tell hl.1 (Nat.le_of_ble_eq_true rfl) d_Ma_alone_226 rfl (hB.fit hm hz35 hw35) (fun H locs hP hD hS => ?_)
                  have hB := hB.same2 hz35
                  refine lv_goto (tgt := 309) hx hb d_Ma_alone_229 (by decide) ?_
                  exact wb_Ma_alone_309 C0 hE N G hG _ _ hf hm _ _ _ hB H locs hP hD hS ls (lv_sub hl [] rfl)
                · rw [br_n _ hc7] at hf
                  by_cases hc8 : v1 = 8
                  · rw [br_p _ hc8] at hf
                    refine lv_tableIn (tgt := 232) hx hb d_Ma_alone_10 (by rw [hc8]; decide) (by rw [hc8]; decide) (by rw [hc8]; rfl) (by decide) ?_
                    refine lv_aload_n hx hb d_Ma_alone_232 rfl (lv_at hl 1 rfl) ?_
                    refine lv_iconst (v := 3) hx hb d_Ma_alone_233 (by decide) ?_
                    refine lv_iconst (v := (-1)) hx hb d_Ma_alone_234 (by decide) ?_
                    refine lv_lload_n hx hb d_Ma_alone_235 rfl (lv_at hl 0 rfl) ?_
                    obtain ⟨hO9, hf⟩ := ck_some hf
                    obtain ⟨u36, r36, hc36, hf⟩ := bx_some hf
                    obtain ⟨hc36, hz36⟩ := gz_some hc36
                    obtain ⟨hf, hw36⟩ := gw_some hf
                    refine xV0 (i := v0) (As := [.int 3, .int (-1), .long r11]) (rest := []) C0 hP hD hS ck_Ma hO9 (c_Ma_tell N hc36) k_Ma_tell (wd_of 1672 (by decide +kernel) rfl) hi_Ma_tell hs_Ma_tell hini_Ma rfl rfl hd_Ma_tell rfl rm_Ma_alone_Ma_tell hl.1 (Nat.le_of_ble_eq_true rfl) d_Ma_alone_236 rfl (hB.fit hm hz36 hw36) (fun H locs hP hD hS => ?_)
                    have hB := hB.same2 hz36
                    refine lv_goto (tgt := 309) hx hb d_Ma_alone_239 (by decide) ?_
                    exact wb_Ma_alone_309 C0 hE N G hG _ _ hf hm _ _ _ hB H locs hP hD hS ls (lv_sub hl [] rfl)
                  · rw [br_n _ hc8] at hf
                    by_cases hc9 : v1 = 9
                    · rw [br_p _ hc9] at hf
                      refine lv_tableIn (tgt := 242) hx hb d_Ma_alone_10 (by rw [hc9]; decide) (by rw [hc9]; decide) (by rw [hc9]; rfl) (by decide) ?_
                      refine lv_aload_n hx hb d_Ma_alone_242 rfl (lv_at hl 1 rfl) ?_
                      refine lv_iconst (v := 1) hx hb d_Ma_alone_243 (by decide) ?_
                      refine lv_iconst (v := (-1)) hx hb d_Ma_alone_244 (by decide) ?_
                      refine lv_lload_n hx hb d_Ma_alone_245 rfl (lv_at hl 0 rfl) ?_
                      obtain ⟨hO9, hf⟩ := ck_some hf
                      obtain ⟨u37, r37, hc37, hf⟩ := bx_some hf
                      obtain ⟨hc37, hz37⟩ := gz_some hc37
                      obtain ⟨hf, hw37⟩ := gw_some hf
                      refine xV0 (i := v0) (As := [.int 1, .int (-1), .long r11]) (rest := []) C0 hP hD hS ck_Ma hO9 (c_Ma_tell N hc37) k_Ma_tell (wd_of 1672 (by decide +kernel) rfl) hi_Ma_tell hs_Ma_tell hini_Ma rfl rfl hd_Ma_tell rfl rm_Ma_alone_Ma_tell hl.1 (Nat.le_of_ble_eq_true rfl) d_Ma_alone_246 rfl (hB.fit hm hz37 hw37) (fun H locs hP hD hS => ?_)
                      have hB := hB.same2 hz37
                      refine lv_goto (tgt := 309) hx hb d_Ma_alone_249 (by decide) ?_
                      exact wb_Ma_alone_309 C0 hE N G hG _ _ hf hm _ _ _ hB H locs hP hD hS ls (lv_sub hl [] rfl)
                    · rw [br_n _ hc9] at hf
                      by_cases hc10 : v1 = 10
                      · rw [br_p _ hc10] at hf
                        refine lv_tableIn (tgt := 303) hx hb d_Ma_alone_10 (by rw [hc10]; decide) (by rw [hc10]; decide) (by rw [hc10]; rfl) (by decide) ?_
                        refine lv_aload_n hx hb d_Ma_alone_303 rfl (lv_at hl 1 rfl) ?_
                        refine lv_bipush (v := 11) hx hb d_Ma_alone_304 (by decide) ?_
                        obtain ⟨hO9, hf⟩ := ck_some hf
                        obtain ⟨u38, r38, hc38, hf⟩ := bx_some hf
                        obtain ⟨hc38, hz38⟩ := gz_some hc38
                        obtain ⟨hf, hw38⟩ := gw_some hf
                        refine xV0 (i := v0) (As := [.int 11]) (rest := []) C0 hP hD hS ck_Ma hO9 (c_Ma_wrong N hc38) k_Ma_wrong (wd_of 1664 (by decide +kernel) rfl) hi_Ma_wrong hs_Ma_wrong hini_Ma rfl rfl hd_Ma_wrong rfl rm_Ma_alone_Ma_wrong hl.1 (Nat.le_of_ble_eq_true rfl) d_Ma_alone_306 rfl (hB.fit hm hz38 hw38) (fun H locs hP hD hS => ?_)
                        have hB := hB.same2 hz38
                        exact wb_Ma_alone_309 C0 hE N G hG _ _ hf hm _ _ _ hB H locs hP hD hS ls (lv_sub hl [] rfl)
                      · rw [br_n _ hc10] at hf
                        by_cases hc11 : v1 = 11
                        · rw [br_p _ hc11] at hf
                          refine lv_tableIn (tgt := 252) hx hb d_Ma_alone_10 (by rw [hc11]; decide) (by rw [hc11]; decide) (by rw [hc11]; rfl) (by decide) ?_
                          refine lv_aload_n hx hb d_Ma_alone_252 rfl (lv_at hl 1 rfl) ?_
                          refine lv_iconst (v := 0) hx hb d_Ma_alone_253 (by decide) ?_
                          refine lv_iconst (v := 2) hx hb d_Ma_alone_254 (by decide) ?_
                          refine lv_aload_n hx hb d_Ma_alone_255 rfl (lv_at hl 1 rfl) ?_
                          obtain ⟨r39, g39, hf⟩ := bo_some hf
                          refine xg_R (i := v0) (k := 1) hx hb ht hown ck_Ma hK hP (by decide) fk_Ma_15 g39 d_Ma_alone_256 ?_
                          obtain ⟨j40, ej40, hf⟩ := bo_some hf
                          rw [ej40]
                          obtain ⟨r41, g41, hf⟩ := bo_some hf
                          refine xg_I (i := j40) (k := 5) hx hb ht hown ck_Wl hK hP (by decide) fk_Ma_462 g41 d_Ma_alone_259 ?_
                          obtain ⟨u42, r42, hc42, hf⟩ := bx_some hf
                          obtain ⟨hc42, hz42⟩ := gz_some hc42
                          obtain ⟨hf, hw42⟩ := gw_some hf
                          refine xS0 (As := [.int 2, .int r41]) (rest := [.int 0, .ref (ad v0)]) C0 hP hD hS (c_Te_make N hc42) k_Te_make (wd_of 1671 (by decide +kernel) rfl) ht_Te_make hini_Te rfl rfl hd_Te_make rfl rm_Ma_alone_Te_make hl.1 (Nat.le_of_ble_eq_true rfl) d_Ma_alone_262 rfl (hB.fit hm hz42 hw42) (fun H locs hP hD hS => ?_)
                          have hB := hB.same2 hz42
                          obtain ⟨hO9, hf⟩ := ck_some hf
                          obtain ⟨hk43, hf⟩ := ck_some hf
                          obtain ⟨u43, r43, hc43, hf⟩ := bx_some hf
                          obtain ⟨hc43, hq43⟩ := gw_some hc43
                          obtain ⟨hf, hw43⟩ := gw_some hf
                          refine yV (i := v0) (As := [.int 0, .long r42]) (rest := []) C0 hP hD hS ck_Ma hO9 (c_Ma_answer N hE hc43 (gm hq43)) k_Ma_answer (wd_of 1744 (by decide +kernel) rfl) hi_Ma_answer hs_Ma_answer hini_Ma rfl rfl hd_Ma_answer rfl rm_Ma_alone_Ma_answer hl.1 (Nat.le_of_ble_eq_true rfl) d_Ma_alone_265 rfl (gm hq43) hB hm hw43 (fun ad43 H locs ce sl hg43 hB hP hD hS => ?_)
                          have q43_0 : ad43 v0 = ad v0 := ko_O (k := 0) hk43 rfl hg43
                          have hl : lv_has ls 4 [(2, .long r11), (0, .ref (ad43 v0)), (1, .int v1)] := by simp only [q43_0]; exact hl
                          refine lv_aload_n hx hb d_Ma_alone_268 rfl (lv_at hl 1 rfl) ?_
                          obtain ⟨r44, g44, hf⟩ := bo_some hf
                          refine xg_R (i := v0) (k := 1) hx hb ht hown ck_Ma hK hP (by decide) fk_Ma_15 g44 d_Ma_alone_269 ?_
                          refine lv_dup hx hb d_Ma_alone_272 (cat_rf _) ?_
                          obtain ⟨j45, ej45, hf⟩ := bo_some hf
                          rw [ej45]
                          obtain ⟨r46, g46, hf⟩ := bo_some hf
                          refine xg_I (i := j45) (k := 5) hx hb ht hown ck_Wl hK hP (by decide) fk_Ma_462 g46 d_Ma_alone_273 ?_
                          refine lv_iconst (v := 1) hx hb d_Ma_alone_276 (by decide) ?_
                          refine lv_iadd hx hb d_Ma_alone_277 ?_
                          obtain ⟨w47, g47, hf⟩ := bo_some hf
                          refine xp (i := j45) (k := 5) (v := (.inl (r46 + 1))) hx hb ht hown ck_Wl hK hP hD hS (by decide) fk_Ma_462 rfl g47 rfl rfl d_Ma_alone_278 (fun H locs hP hD hS => ?_)
                          have hB := hB.same (pF_c g47)
                          refine lv_goto (tgt := 309) hx hb d_Ma_alone_281 (by decide) ?_
                          exact wb_Ma_alone_309 C0 hE N G hG _ _ hf hm _ _ _ hB H locs hP hD hS ls (lv_sub hl [] rfl)
                        · rw [br_n _ hc11] at hf
                          by_cases hc12 : v1 = 12
                          · rw [br_p _ hc12] at hf
                            refine lv_tableIn (tgt := 303) hx hb d_Ma_alone_10 (by rw [hc12]; decide) (by rw [hc12]; decide) (by rw [hc12]; rfl) (by decide) ?_
                            refine lv_aload_n hx hb d_Ma_alone_303 rfl (lv_at hl 1 rfl) ?_
                            refine lv_bipush (v := 11) hx hb d_Ma_alone_304 (by decide) ?_
                            obtain ⟨hO9, hf⟩ := ck_some hf
                            obtain ⟨u48, r48, hc48, hf⟩ := bx_some hf
                            obtain ⟨hc48, hz48⟩ := gz_some hc48
                            obtain ⟨hf, hw48⟩ := gw_some hf
                            refine xV0 (i := v0) (As := [.int 11]) (rest := []) C0 hP hD hS ck_Ma hO9 (c_Ma_wrong N hc48) k_Ma_wrong (wd_of 1664 (by decide +kernel) rfl) hi_Ma_wrong hs_Ma_wrong hini_Ma rfl rfl hd_Ma_wrong rfl rm_Ma_alone_Ma_wrong hl.1 (Nat.le_of_ble_eq_true rfl) d_Ma_alone_306 rfl (hB.fit hm hz48 hw48) (fun H locs hP hD hS => ?_)
                            have hB := hB.same2 hz48
                            exact wb_Ma_alone_309 C0 hE N G hG _ _ hf hm _ _ _ hB H locs hP hD hS ls (lv_sub hl [] rfl)
                          · rw [br_n _ hc12] at hf
                            by_cases hc13 : v1 = 13
                            · rw [br_p _ hc13] at hf
                              refine lv_tableIn (tgt := 303) hx hb d_Ma_alone_10 (by rw [hc13]; decide) (by rw [hc13]; decide) (by rw [hc13]; rfl) (by decide) ?_
                              refine lv_aload_n hx hb d_Ma_alone_303 rfl (lv_at hl 1 rfl) ?_
                              refine lv_bipush (v := 11) hx hb d_Ma_alone_304 (by decide) ?_
                              obtain ⟨hO9, hf⟩ := ck_some hf
                              obtain ⟨u49, r49, hc49, hf⟩ := bx_some hf
                              obtain ⟨hc49, hz49⟩ := gz_some hc49
                              obtain ⟨hf, hw49⟩ := gw_some hf
                              refine xV0 (i := v0) (As := [.int 11]) (rest := []) C0 hP hD hS ck_Ma hO9 (c_Ma_wrong N hc49) k_Ma_wrong (wd_of 1664 (by decide +kernel) rfl) hi_Ma_wrong hs_Ma_wrong hini_Ma rfl rfl hd_Ma_wrong rfl rm_Ma_alone_Ma_wrong hl.1 (Nat.le_of_ble_eq_true rfl) d_Ma_alone_306 rfl (hB.fit hm hz49 hw49) (fun H locs hP hD hS => ?_)
                              have hB := hB.same2 hz49
                              exact wb_Ma_alone_309 C0 hE N G hG _ _ hf hm _ _ _ hB H locs hP hD hS ls (lv_sub hl [] rfl)
                            · rw [br_n _ hc13] at hf
                              by_cases hc14 : v1 = 14
                              · rw [br_p _ hc14] at hf
                                refine lv_tableIn (tgt := 303) hx hb d_Ma_alone_10 (by rw [hc14]; decide) (by rw [hc14]; decide) (by rw [hc14]; rfl) (by decide) ?_
                                refine lv_aload_n hx hb d_Ma_alone_303 rfl (lv_at hl 1 rfl) ?_
                                refine lv_bipush (v := 11) hx hb d_Ma_alone_304 (by decide) ?_
                                obtain ⟨hO9, hf⟩ := ck_some hf
                                obtain ⟨u50, r50, hc50, hf⟩ := bx_some hf
                                obtain ⟨hc50, hz50⟩ := gz_some hc50
                                obtain ⟨hf, hw50⟩ := gw_some hf
                                refine xV0 (i := v0) (As := [.int 11]) (rest := []) C0 hP hD hS ck_Ma hO9 (c_Ma_wrong N hc50) k_Ma_wrong (wd_of 1664 (by decide +kernel) rfl) hi_Ma_wrong hs_Ma_wrong hini_Ma rfl rfl hd_Ma_wrong rfl rm_Ma_alone_Ma_wrong hl.1 (Nat.le_of_ble_eq_true rfl) d_Ma_alone_306 rfl (hB.fit hm hz50 hw50) (fun H locs hP hD hS => ?_)
                                have hB := hB.same2 hz50
                                exact wb_Ma_alone_309 C0 hE N G hG _ _ hf hm _ _ _ hB H locs hP hD hS ls (lv_sub hl [] rfl)
                              · rw [br_n _ hc14] at hf
                                by_cases hc15 : v1 = 15
                                · rw [br_p _ hc15] at hf
                                  refine lv_tableIn (tgt := 303) hx hb d_Ma_alone_10 (by rw [hc15]; decide) (by rw [hc15]; decide) (by rw [hc15]; rfl) (by decide) ?_
                                  refine lv_aload_n hx hb d_Ma_alone_303 rfl (lv_at hl 1 rfl) ?_
                                  refine lv_bipush (v := 11) hx hb d_Ma_alone_304 (by decide) ?_
                                  obtain ⟨hO9, hf⟩ := ck_some hf
                                  obtain ⟨u51, r51, hc51, hf⟩ := bx_some hf
                                  obtain ⟨hc51, hz51⟩ := gz_some hc51
                                  obtain ⟨hf, hw51⟩ := gw_some hf
                                  refine xV0 (i := v0) (As := [.int 11]) (rest := []) C0 hP hD hS ck_Ma hO9 (c_Ma_wrong N hc51) k_Ma_wrong (wd_of 1664 (by decide +kernel) rfl) hi_Ma_wrong hs_Ma_wrong hini_Ma rfl rfl hd_Ma_wrong rfl rm_Ma_alone_Ma_wrong hl.1 (Nat.le_of_ble_eq_true rfl) d_Ma_alone_306 rfl (hB.fit hm hz51 hw51) (fun H locs hP hD hS => ?_)
                                  have hB := hB.same2 hz51
                                  exact wb_Ma_alone_309 C0 hE N G hG _ _ hf hm _ _ _ hB H locs hP hD hS ls (lv_sub hl [] rfl)
                                · rw [br_n _ hc15] at hf
                                  by_cases hc16 : v1 = 16
                                  · rw [br_p _ hc16] at hf
                                    refine lv_tableIn (tgt := 284) hx hb d_Ma_alone_10 (by rw [hc16]; decide) (by rw [hc16]; decide) (by rw [hc16]; rfl) (by decide) ?_
                                    refine lv_aload_n hx hb d_Ma_alone_284 rfl (lv_at hl 1 rfl) ?_
                                    refine lv_iconst (v := 0) hx hb d_Ma_alone_285 (by decide) ?_
                                    refine lv_iconst (v := 0) hx hb d_Ma_alone_286 (by decide) ?_
                                    refine lv_aload_n hx hb d_Ma_alone_287 rfl (lv_at hl 1 rfl) ?_
                                    obtain ⟨r52, g52, hf⟩ := bo_some hf
                                    refine xg_R (i := v0) (k := 1) hx hb ht hown ck_Ma hK hP (by decide) fk_Ma_15 g52 d_Ma_alone_288 ?_
                                    obtain ⟨j53, ej53, hf⟩ := bo_some hf
                                    rw [ej53]
                                    obtain ⟨r54, g54, hf⟩ := bo_some hf
                                    refine xg_I (i := j53) (k := 4) hx hb ht hown ck_Wl hK hP (by decide) fk_Ma_402 g54 d_Ma_alone_291 ?_
                                    obtain ⟨u55, r55, hc55, hf⟩ := bx_some hf
                                    obtain ⟨hc55, hz55⟩ := gz_some hc55
                                    obtain ⟨hf, hw55⟩ := gw_some hf
                                    refine xS0 (As := [.int 0, .int r54]) (rest := [.int 0, .ref (ad v0)]) C0 hP hD hS (c_Te_make N hc55) k_Te_make (wd_of 1671 (by decide +kernel) rfl) ht_Te_make hini_Te rfl rfl hd_Te_make rfl rm_Ma_alone_Te_make hl.1 (Nat.le_of_ble_eq_true rfl) d_Ma_alone_294 rfl (hB.fit hm hz55 hw55) (fun H locs hP hD hS => ?_)
                                    have hB := hB.same2 hz55
                                    obtain ⟨hO9, hf⟩ := ck_some hf
                                    obtain ⟨hk56, hf⟩ := ck_some hf
                                    obtain ⟨u56, r56, hc56, hf⟩ := bx_some hf
                                    obtain ⟨hc56, hq56⟩ := gw_some hc56
                                    obtain ⟨hf, hw56⟩ := gw_some hf
                                    refine yV (i := v0) (As := [.int 0, .long r55]) (rest := []) C0 hP hD hS ck_Ma hO9 (c_Ma_answer N hE hc56 (gm hq56)) k_Ma_answer (wd_of 1744 (by decide +kernel) rfl) hi_Ma_answer hs_Ma_answer hini_Ma rfl rfl hd_Ma_answer rfl rm_Ma_alone_Ma_answer hl.1 (Nat.le_of_ble_eq_true rfl) d_Ma_alone_297 rfl (gm hq56) hB hm hw56 (fun ad56 H locs ce sl hg56 hB hP hD hS => ?_)
                                    have q56_0 : ad56 v0 = ad v0 := ko_O (k := 0) hk56 rfl hg56
                                    have hl : lv_has ls 4 [(2, .long r11), (0, .ref (ad56 v0)), (1, .int v1)] := by simp only [q56_0]; exact hl
                                    refine lv_goto (tgt := 309) hx hb d_Ma_alone_300 (by decide) ?_
                                    exact wb_Ma_alone_309 C0 hE N G hG _ _ hf hm _ _ _ hB H locs hP hD hS ls (lv_sub hl [] rfl)
                                  · rw [br_n _ hc16] at hf
                                    refine lv_tableOut (tgt := 303) hx hb d_Ma_alone_10 (by have z0 := tiN hc0; have z1 := tiN hc1; have z2 := tiN hc2; have z3 := tiN hc3; have z4 := tiN hc4; have z5 := tiN hc5; have z6 := tiN hc6; have z7 := tiN hc7; have z8 := tiN hc8; have z9 := tiN hc9; have z10 := tiN hc10; have z11 := tiN hc11; have z12 := tiN hc12; have z13 := tiN hc13; have z14 := tiN hc14; have z15 := tiN hc15; have z16 := tiN hc16; rw [show (0 : Int32).toInt = 0 from by decide] at z0; rw [show (1 : Int32).toInt = 1 from by decide] at z1; rw [show (2 : Int32).toInt = 2 from by decide] at z2; rw [show (3 : Int32).toInt = 3 from by decide] at z3; rw [show (4 : Int32).toInt = 4 from by decide] at z4; rw [show (5 : Int32).toInt = 5 from by decide] at z5; rw [show (6 : Int32).toInt = 6 from by decide] at z6; rw [show (7 : Int32).toInt = 7 from by decide] at z7; rw [show (8 : Int32).toInt = 8 from by decide] at z8; rw [show (9 : Int32).toInt = 9 from by decide] at z9; rw [show (10 : Int32).toInt = 10 from by decide] at z10; rw [show (11 : Int32).toInt = 11 from by decide] at z11; rw [show (12 : Int32).toInt = 12 from by decide] at z12; rw [show (13 : Int32).toInt = 13 from by decide] at z13; rw [show (14 : Int32).toInt = 14 from by decide] at z14; rw [show (15 : Int32).toInt = 15 from by decide] at z15; rw [show (16 : Int32).toInt = 16 from by decide] at z16; omega) (by decide) ?_
                                    refine lv_aload_n hx hb d_Ma_alone_303 rfl (lv_at hl 1 rfl) ?_
                                    refine lv_bipush (v := 11) hx hb d_Ma_alone_304 (by decide) ?_
                                    obtain ⟨hO9, hf⟩ := ck_some hf
                                    obtain ⟨u57, r57, hc57, hf⟩ := bx_some hf
                                    obtain ⟨hc57, hz57⟩ := gz_some hc57
                                    obtain ⟨hf, hw57⟩ := gw_some hf
                                    refine xV0 (i := v0) (As := [.int 11]) (rest := []) C0 hP hD hS ck_Ma hO9 (c_Ma_wrong N hc57) k_Ma_wrong (wd_of 1664 (by decide +kernel) rfl) hi_Ma_wrong hs_Ma_wrong hini_Ma rfl rfl hd_Ma_wrong rfl rm_Ma_alone_Ma_wrong hl.1 (Nat.le_of_ble_eq_true rfl) d_Ma_alone_306 rfl (hB.fit hm hz57 hw57) (fun H locs hP hD hS => ?_)
                                    have hB := hB.same2 hz57
                                    exact wb_Ma_alone_309 C0 hE N G hG _ _ hf hm _ _ _ hB H locs hP hD hS ls (lv_sub hl [] rfl)
def fm_Ma_alone (N : Nat) (u : CS) (v0 : Nat) (v1 : Int32) : Option (CS × Unit) := fb_Ma_alone_0 N () u v0 v1
set_option maxRecDepth 100000 in
set_option maxHeartbeats 4000000 in
theorem c_Ma_alone (N : Nat) {l : Launch} {s0 : State} {b0 : Nat} {D : va_G} {cB cI cJ cZ cS cP : ClassId} {sk sv : Nat → Nat} {ad : Nat → Nat} {u : CS} {sz mc ms : Nat} {v0 : Nat} {v1 : Int32} {x : CS × Unit} (hE : ENV s0 b0 sk sv) (hf : fm_Ma_alone N u v0 v1 = some x) (hm : u.1.1 + mc = x.1.1.1 ∧ u.1.2 + ms = x.1.1.2) : Met l y_Ma_alone (wd_ws y_Ma_alone b_Ma_alone 4 none) (rm_Ma_alone mc ms) (xPc s0 b0 D cB cI cJ cZ cS cP ad u sz [.ref (ad v0), .int v1]) (xQ D cB cI cJ cZ cS cP (xA cB cI cJ cZ cS cP ad u sz) ad u.1.1 x.1 none) mc ms (xA cB cI cJ cZ cS cP ad u sz) :=
  xMet (by decide) rfl (Nat.le_of_ble_eq_true rfl) (fun p e s m below meth c ls hsz hnm C0 hP hD hS hl =>
    wb_Ma_alone_0 C0 hE N () trivial u _ _ x hf hm ad 0 0 ⟨rfl, rfl, fun _ _ => rfl⟩ s.heap [] hP hD hS ls (lv_sub hl [0, 1] rfl))
abbrev b_Ma_predefined : ByteArray := prog_5_method_47_code
def y_Ma_predefined : MethodName := ⟨R_Ma, "predefined", "(I)V"⟩
def w_Ma_predefined : List Cond := wd_ws y_Ma_predefined b_Ma_predefined 2 none
set_option maxRecDepth 100000 in
theorem k_Ma_predefined : Cond.code y_Ma_predefined b_Ma_predefined 2 none ∈ wd_tbl := wd_of 1648 rfl rfl
theorem d_Ma_predefined_0 : decode b_Ma_predefined 0 = .ok (.iload_n 1, 1) := by decide +kernel
theorem d_Ma_predefined_1 : decode b_Ma_predefined 1 = .ok (.tableswitch 120 1 14 #[71, 120, 120, 120, 120, 120, 120, 120, 120, 78, 120, 112, 112, 112], 71) := by decide +kernel
theorem d_Ma_predefined_72 : decode b_Ma_predefined 72 = .ok (.aload_n 0, 1) := by decide +kernel
theorem d_Ma_predefined_73 : decode b_Ma_predefined 73 = .ok (.invokevirtual 415, 3) := by decide +kernel
theorem d_Ma_predefined_76 : decode b_Ma_predefined 76 = .ok (.goto 70, 3) := by decide +kernel
theorem d_Ma_predefined_79 : decode b_Ma_predefined 79 = .ok (.aload_n 0, 1) := by decide +kernel
theorem d_Ma_predefined_80 : decode b_Ma_predefined 80 = .ok (.getfield 15, 3) := by decide +kernel
theorem d_Ma_predefined_83 : decode b_Ma_predefined 83 = .ok (.aload_n 0, 1) := by decide +kernel
theorem d_Ma_predefined_84 : decode b_Ma_predefined 84 = .ok (.getfield 23, 3) := by decide +kernel
theorem d_Ma_predefined_87 : decode b_Ma_predefined 87 = .ok (.getfield 195, 3) := by decide +kernel
theorem d_Ma_predefined_90 : decode b_Ma_predefined 90 = .ok (.aload_n 0, 1) := by decide +kernel
theorem d_Ma_predefined_91 : decode b_Ma_predefined 91 = .ok (.getfield 33, 3) := by decide +kernel
theorem d_Ma_predefined_94 : decode b_Ma_predefined 94 = .ok (.iconst 0, 1) := by decide +kernel
theorem d_Ma_predefined_95 : decode b_Ma_predefined 95 = .ok (.invokevirtual 138, 3) := by decide +kernel
theorem d_Ma_predefined_98 : decode b_Ma_predefined 98 = .ok (.invokevirtual 418, 3) := by decide +kernel
theorem d_Ma_predefined_101 : decode b_Ma_predefined 101 = .ok (.aload_n 0, 1) := by decide +kernel
theorem d_Ma_predefined_102 : decode b_Ma_predefined 102 = .ok (.iconst 1, 1) := by decide +kernel
theorem d_Ma_predefined_103 : decode b_Ma_predefined 103 = .ok (.iconst 2, 1) := by decide +kernel
theorem d_Ma_predefined_104 : decode b_Ma_predefined 104 = .ok (.invokestatic 105, 3) := by decide +kernel
theorem d_Ma_predefined_107 : decode b_Ma_predefined 107 = .ok (.invokevirtual 145, 3) := by decide +kernel
theorem d_Ma_predefined_110 : decode b_Ma_predefined 110 = .ok (.goto 36, 3) := by decide +kernel
theorem d_Ma_predefined_113 : decode b_Ma_predefined 113 = .ok (.aload_n 0, 1) := by decide +kernel
theorem d_Ma_predefined_114 : decode b_Ma_predefined 114 = .ok (.iload_n 1, 1) := by decide +kernel
theorem d_Ma_predefined_115 : decode b_Ma_predefined 115 = .ok (.invokevirtual 422, 3) := by decide +kernel
theorem d_Ma_predefined_118 : decode b_Ma_predefined 118 = .ok (.goto 28, 3) := by decide +kernel
theorem d_Ma_predefined_121 : decode b_Ma_predefined 121 = .ok (.iload_n 1, 1) := by decide +kernel
theorem d_Ma_predefined_122 : decode b_Ma_predefined 122 = .ok (.bipush 17, 2) := by decide +kernel
theorem d_Ma_predefined_124 : decode b_Ma_predefined 124 = .ok (.if_icmp .lt 17, 3) := by decide +kernel
theorem d_Ma_predefined_127 : decode b_Ma_predefined 127 = .ok (.iload_n 1, 1) := by decide +kernel
theorem d_Ma_predefined_128 : decode b_Ma_predefined 128 = .ok (.bipush 28, 2) := by decide +kernel
theorem d_Ma_predefined_130 : decode b_Ma_predefined 130 = .ok (.if_icmp .gt 11, 3) := by decide +kernel
theorem d_Ma_predefined_133 : decode b_Ma_predefined 133 = .ok (.aload_n 0, 1) := by decide +kernel
theorem d_Ma_predefined_134 : decode b_Ma_predefined 134 = .ok (.iload_n 1, 1) := by decide +kernel
theorem d_Ma_predefined_135 : decode b_Ma_predefined 135 = .ok (.invokevirtual 425, 3) := by decide +kernel
theorem d_Ma_predefined_138 : decode b_Ma_predefined 138 = .ok (.goto 8, 3) := by decide +kernel
theorem d_Ma_predefined_141 : decode b_Ma_predefined 141 = .ok (.aload_n 0, 1) := by decide +kernel
theorem d_Ma_predefined_142 : decode b_Ma_predefined 142 = .ok (.iload_n 1, 1) := by decide +kernel
theorem d_Ma_predefined_143 : decode b_Ma_predefined 143 = .ok (.invokevirtual 428, 3) := by decide +kernel
theorem d_Ma_predefined_146 : decode b_Ma_predefined 146 = .ok (.aload_n 0, 1) := by decide +kernel
theorem d_Ma_predefined_147 : decode b_Ma_predefined 147 = .ok (.getfield 54, 3) := by decide +kernel
theorem d_Ma_predefined_150 : decode b_Ma_predefined 150 = .ok (.ifCond .ne 13, 3) := by decide +kernel
theorem d_Ma_predefined_153 : decode b_Ma_predefined 153 = .ok (.aload_n 0, 1) := by decide +kernel
theorem d_Ma_predefined_154 : decode b_Ma_predefined 154 = .ok (.dup, 1) := by decide +kernel
theorem d_Ma_predefined_155 : decode b_Ma_predefined 155 = .ok (.getfield 40, 3) := by decide +kernel
theorem d_Ma_predefined_158 : decode b_Ma_predefined 158 = .ok (.iconst 2, 1) := by decide +kernel
theorem d_Ma_predefined_159 : decode b_Ma_predefined 159 = .ok (.iadd, 1) := by decide +kernel
theorem d_Ma_predefined_160 : decode b_Ma_predefined 160 = .ok (.putfield 40, 3) := by decide +kernel
theorem d_Ma_predefined_163 : decode b_Ma_predefined 163 = .ok (.return_, 1) := by decide +kernel
set_option maxRecDepth 100000 in
theorem hl_Ma_predefined : Cond.methodLink R_Ma 72 y_Ma_predefined ∈ wd_tbl := wd_of 1645 (by decide +kernel) rfl
set_option maxRecDepth 100000 in
theorem hi_Ma_predefined : Cond.instanceMethod y_Ma_predefined ∈ wd_tbl := wd_of 1647 (by decide +kernel) rfl
set_option maxRecDepth 100000 in
theorem hs_Ma_predefined : Cond.selects R_Ma y_Ma_predefined y_Ma_predefined ∈ wd_tbl := wd_of 74 (by decide +kernel) rfl
theorem hd_Ma_predefined : y_Ma_predefined.cls = R_Ma ∧ y_Ma_predefined.cls ≠ "java/lang/invoke/MethodHandle" ∧ y_Ma_predefined.cls ≠ "java/lang/invoke/VarHandle" ∧ (parseMethodDescriptor y_Ma_predefined.desc).map (fun d => d.parameters.length) = some 1 := by decide +kernel
def rm_Ma_predefined (mc ms : Nat) : Room := { frames := 6, cells := mc, slots := ms, locals := 179 }
theorem rm_Ma_predefined_Ma_spawn {mc ms : Nat} {mc2 ms2 : Nat} : (rm_Ma_spawn mc2 ms2).frames + 1 ≤ (rm_Ma_predefined mc ms).frames ∧ 8 + (6 + 11) + (rm_Ma_spawn mc2 ms2).locals ≤ (rm_Ma_predefined mc ms).locals := by
  show 4 + 1 ≤ 6 ∧ 8 + (6 + 11) + 132 ≤ 179
  decide
theorem rm_Ma_predefined_Fr_below {mc ms : Nat} : (rm_Fr_below).frames + 1 ≤ (rm_Ma_predefined mc ms).frames ∧ 8 + (3 + 11) + (rm_Fr_below).locals ≤ (rm_Ma_predefined mc ms).locals := by
  show 0 + 1 ≤ 6 ∧ 8 + (3 + 11) + 0 ≤ 179
  decide
theorem rm_Ma_predefined_Wl_print {mc ms : Nat} : (rm_Wl_print).frames + 1 ≤ (rm_Ma_predefined mc ms).frames ∧ 8 + (4 + 11) + (rm_Wl_print).locals ≤ (rm_Ma_predefined mc ms).locals := by
  show 4 + 1 ≤ 6 ∧ 8 + (4 + 11) + 102 ≤ 179
  decide
theorem rm_Ma_predefined_Ma_atom {mc ms : Nat} : (rm_Ma_atom).frames + 1 ≤ (rm_Ma_predefined mc ms).frames ∧ 8 + (1 + 11) + (rm_Ma_atom).locals ≤ (rm_Ma_predefined mc ms).locals := by
  show 1 + 1 ≤ 6 ∧ 8 + (1 + 11) + 21 ≤ 179
  decide
theorem rm_Ma_predefined_Ma_answer {mc ms : Nat} {mc2 ms2 : Nat} : (rm_Ma_answer mc2 ms2).frames + 1 ≤ (rm_Ma_predefined mc ms).frames ∧ 8 + (4 + 11) + (rm_Ma_answer mc2 ms2).locals ≤ (rm_Ma_predefined mc ms).locals := by
  show 3 + 1 ≤ 6 ∧ 8 + (4 + 11) + 104 ≤ 179
  decide
theorem rm_Ma_predefined_Ma_naming {mc ms : Nat} {mc2 ms2 : Nat} : (rm_Ma_naming mc2 ms2).frames + 1 ≤ (rm_Ma_predefined mc ms).frames ∧ 8 + (6 + 11) + (rm_Ma_naming mc2 ms2).locals ≤ (rm_Ma_predefined mc ms).locals := by
  show 4 + 1 ≤ 6 ∧ 8 + (6 + 11) + 127 ≤ 179
  decide
theorem rm_Ma_predefined_Ma_test {mc ms : Nat} {mc2 ms2 : Nat} : (rm_Ma_test mc2 ms2).frames + 1 ≤ (rm_Ma_predefined mc ms).frames ∧ 8 + (5 + 11) + (rm_Ma_test mc2 ms2).locals ≤ (rm_Ma_predefined mc ms).locals := by
  show 5 + 1 ≤ 6 ∧ 8 + (5 + 11) + 155 ≤ 179
  decide
theorem rm_Ma_predefined_Ma_alone {mc ms : Nat} {mc2 ms2 : Nat} : (rm_Ma_alone mc2 ms2).frames + 1 ≤ (rm_Ma_predefined mc ms).frames ∧ 8 + (4 + 11) + (rm_Ma_alone mc2 ms2).locals ≤ (rm_Ma_predefined mc ms).locals := by
  show 4 + 1 ≤ 6 ∧ 8 + (4 + 11) + 127 ≤ 179
  decide
def fb_Ma_predefined_163 (N : Nat) (G : Unit) (u : CS) : Option (CS × Unit) := some (u, ())
set_option maxRecDepth 100000 in
set_option maxHeartbeats 4000000 in
theorem wb_Ma_predefined_163 {p : Program} {l : Launch} {e : Env} {s : State} {m : MethodId} {args : Array Value} {below : List Frame} {meth : Method} {c : Code} {s0 : State} {b0 : Nat} {D : va_G} {cB cI cJ cZ cS cP : ClassId} {A : Nat → Prop} {sk sv : Nat → Nat} {uN uS mc ms : Nat} {ad0 : Nat → Nat} (C0 : XCx p s s0 b0 m args meth c R_Ma b_Ma_predefined 2 none D cB cI cJ cZ cS cP A) (hE : ENV s0 b0 sk sv) (N : Nat) (G : Unit) (hG : True) : ∀ (u : CS) (x : CS × Unit), fb_Ma_predefined_163 N G u = some x → (uN + mc = x.1.1.1 ∧ uS + ms = x.1.1.2) → ∀ (ad : Nat → Nat) (ce sl : Nat), AB uN uS ad0 u ad ce sl → ∀ (H : Heap) (locs : List Loc), va_P D cls (wC cB cI cJ cZ cS cP ad u) H → va_D A (wC cB cI cJ cZ cS cP ad u) → va_S A s.heap H locs → ∀ (ls : Array Slot), lv_has ls 2 [] → W p l e (rm_Ma_predefined mc ms) s m args below meth c H locs ce sl (MQ below (xQ D cB cI cJ cZ cS cP A ad0 uN x.1 none) args s mc ms A) (F0 m 163 ls []) := by
  intro u x hf hm ad ce sl hB H locs hP hD hS ls hl
  obtain ⟨hx, hb, hr, hml, ht, hown, hK, hA, hlocks, hA0, hO, hbs⟩ := id C0
  unfold fb_Ma_predefined_163 at hf
  exact yr_v C0 hP hD hS hB hm hf d_Ma_predefined_163
def fb_Ma_predefined_146 (N : Nat) (G : Unit) (u : CS) (v0 : Nat) : Option (CS × Unit) := bo (gI u v0 5 9) (fun r1 => br (decide (r1 = 0)) (bo (gI u v0 5 5) (fun r2 => bo (pF u v0 5 5 (.inl (r2 + 2))) (fun w3 => fb_Ma_predefined_163 N G w3))) (fb_Ma_predefined_163 N G u))
set_option maxRecDepth 100000 in
set_option maxHeartbeats 4000000 in
theorem wb_Ma_predefined_146 {p : Program} {l : Launch} {e : Env} {s : State} {m : MethodId} {args : Array Value} {below : List Frame} {meth : Method} {c : Code} {s0 : State} {b0 : Nat} {D : va_G} {cB cI cJ cZ cS cP : ClassId} {A : Nat → Prop} {sk sv : Nat → Nat} {uN uS mc ms : Nat} {ad0 : Nat → Nat} (C0 : XCx p s s0 b0 m args meth c R_Ma b_Ma_predefined 2 none D cB cI cJ cZ cS cP A) (hE : ENV s0 b0 sk sv) (N : Nat) (G : Unit) (hG : True) : ∀ (u : CS) (v0 : Nat) (x : CS × Unit), fb_Ma_predefined_146 N G u v0 = some x → (uN + mc = x.1.1.1 ∧ uS + ms = x.1.1.2) → ∀ (ad : Nat → Nat) (ce sl : Nat), AB uN uS ad0 u ad ce sl → ∀ (H : Heap) (locs : List Loc), va_P D cls (wC cB cI cJ cZ cS cP ad u) H → va_D A (wC cB cI cJ cZ cS cP ad u) → va_S A s.heap H locs → ∀ (ls : Array Slot), lv_has ls 2 [(0, .ref (ad v0))] → W p l e (rm_Ma_predefined mc ms) s m args below meth c H locs ce sl (MQ below (xQ D cB cI cJ cZ cS cP A ad0 uN x.1 none) args s mc ms A) (F0 m 146 ls []) := by
  intro u v0 x hf hm ad ce sl hB H locs hP hD hS ls hl
  obtain ⟨hx, hb, hr, hml, ht, hown, hK, hA, hlocks, hA0, hO, hbs⟩ := id C0
  unfold fb_Ma_predefined_146 at hf
  refine lv_aload_n hx hb d_Ma_predefined_146 rfl (lv_at hl 0 rfl) ?_
  obtain ⟨r1, g1, hf⟩ := bo_some hf
  refine xg_I (i := v0) (k := 9) hx hb ht hown ck_Ma hK hP (by decide) fk_Ma_54 g1 d_Ma_predefined_147 ?_
  refine lv_if_ne (tgt := 163) hx hb d_Ma_predefined_150 (by decide) (fun hc => ?_) (fun hc => ?_)
  · rw [br_n _ hc] at hf
    exact wb_Ma_predefined_163 C0 hE N G hG _ _ hf hm _ _ _ hB H locs hP hD hS ls (lv_sub hl [] rfl)
  · rw [br_p _ hc] at hf
    refine lv_aload_n hx hb d_Ma_predefined_153 rfl (lv_at hl 0 rfl) ?_
    refine lv_dup hx hb d_Ma_predefined_154 rfl ?_
    obtain ⟨r2, g2, hf⟩ := bo_some hf
    refine xg_I (i := v0) (k := 5) hx hb ht hown ck_Ma hK hP (by decide) fk_Ma_40 g2 d_Ma_predefined_155 ?_
    refine lv_iconst (v := 2) hx hb d_Ma_predefined_158 (by decide) ?_
    refine lv_iadd hx hb d_Ma_predefined_159 ?_
    obtain ⟨w3, g3, hf⟩ := bo_some hf
    refine xp (i := v0) (k := 5) (v := (.inl (r2 + 2))) hx hb ht hown ck_Ma hK hP hD hS (by decide) fk_Ma_40 rfl g3 rfl rfl d_Ma_predefined_160 (fun H locs hP hD hS => ?_)
    have hB := hB.same (pF_c g3)
    exact wb_Ma_predefined_163 C0 hE N G hG _ _ hf hm _ _ _ hB H locs hP hD hS ls (lv_sub hl [] rfl)
def fb_Ma_predefined_141 (N : Nat) (G : Unit) (u : CS) (v0 : Nat) (v1 : Int32) : Option (CS × Unit) := ck (isO u v0 5) (ck (List.all [some v0] (okR u.1.1)) (bx (gw u (fm_Ma_alone N u v0 v1)) (fun u4 r4 => gw u4 (fb_Ma_predefined_146 N G u4 (v0)))))
set_option maxRecDepth 100000 in
set_option maxHeartbeats 4000000 in
theorem wb_Ma_predefined_141 {p : Program} {l : Launch} {e : Env} {s : State} {m : MethodId} {args : Array Value} {below : List Frame} {meth : Method} {c : Code} {s0 : State} {b0 : Nat} {D : va_G} {cB cI cJ cZ cS cP : ClassId} {A : Nat → Prop} {sk sv : Nat → Nat} {uN uS mc ms : Nat} {ad0 : Nat → Nat} (C0 : XCx p s s0 b0 m args meth c R_Ma b_Ma_predefined 2 none D cB cI cJ cZ cS cP A) (hE : ENV s0 b0 sk sv) (N : Nat) (G : Unit) (hG : True) : ∀ (u : CS) (v0 : Nat) (v1 : Int32) (x : CS × Unit), fb_Ma_predefined_141 N G u v0 v1 = some x → (uN + mc = x.1.1.1 ∧ uS + ms = x.1.1.2) → ∀ (ad : Nat → Nat) (ce sl : Nat), AB uN uS ad0 u ad ce sl → ∀ (H : Heap) (locs : List Loc), va_P D cls (wC cB cI cJ cZ cS cP ad u) H → va_D A (wC cB cI cJ cZ cS cP ad u) → va_S A s.heap H locs → ∀ (ls : Array Slot), lv_has ls 2 [(0, .ref (ad v0)), (1, .int v1)] → W p l e (rm_Ma_predefined mc ms) s m args below meth c H locs ce sl (MQ below (xQ D cB cI cJ cZ cS cP A ad0 uN x.1 none) args s mc ms A) (F0 m 141 ls []) := by
  intro u v0 v1 x hf hm ad ce sl hB H locs hP hD hS ls hl
  obtain ⟨hx, hb, hr, hml, ht, hown, hK, hA, hlocks, hA0, hO, hbs⟩ := id C0
  unfold fb_Ma_predefined_141 at hf
  refine lv_aload_n hx hb d_Ma_predefined_141 rfl (lv_at hl 0 rfl) ?_
  refine lv_iload_n hx hb d_Ma_predefined_142 rfl (lv_at hl 1 rfl) ?_
  obtain ⟨hO9, hf⟩ := ck_some hf
  obtain ⟨hk4, hf⟩ := ck_some hf
  obtain ⟨u4, r4, hc4, hf⟩ := bx_some hf
  obtain ⟨hc4, hq4⟩ := gw_some hc4
  obtain ⟨hf, hw4⟩ := gw_some hf
  refine yV (i := v0) (As := [.int v1]) (rest := []) C0 hP hD hS ck_Ma hO9 (c_Ma_alone N hE hc4 (gm hq4)) k_Ma_alone (wd_of 1790 (by decide +kernel) rfl) hi_Ma_alone hs_Ma_alone hini_Ma rfl rfl hd_Ma_alone rfl rm_Ma_predefined_Ma_alone hl.1 (Nat.le_of_ble_eq_true rfl) d_Ma_predefined_143 rfl (gm hq4) hB hm hw4 (fun ad4 H locs ce sl hg4 hB hP hD hS => ?_)
  have q4_0 : ad4 v0 = ad v0 := ko_O (k := 0) hk4 rfl hg4
  have hl : lv_has ls 2 [(0, .ref (ad4 v0)), (1, .int v1)] := by simp only [q4_0]; exact hl
  exact wb_Ma_predefined_146 C0 hE N G hG _ _ _ hf hm _ _ _ hB H locs hP hD hS ls (lv_sub hl [0] rfl)
def fb_Ma_predefined_0 (N : Nat) (G : Unit) (u : CS) (v0 : Nat) (v1 : Int32) : Option (CS × Unit) := br (decide (v1 = 1)) (ck (isO u v0 5) (ck (List.all [some v0] (okR u.1.1)) (bx (gw u (fm_Ma_spawn N u v0)) (fun u5 r5 => gw u5 (fb_Ma_predefined_146 N G u5 (v0)))))) (br (decide (v1 = 2)) (br (decide (v1 < 17)) (fb_Ma_predefined_141 N G u (v0) (v1)) (br (decide (28 < v1)) (fb_Ma_predefined_141 N G u (v0) (v1)) (ck (isO u v0 5) (ck (List.all [some v0] (okR u.1.1)) (bx (gw u (fm_Ma_test N u v0 v1)) (fun u6 r6 => gw u6 (fb_Ma_predefined_146 N G u6 (v0)))))))) (br (decide (v1 = 3)) (br (decide (v1 < 17)) (fb_Ma_predefined_141 N G u (v0) (v1)) (br (decide (28 < v1)) (fb_Ma_predefined_141 N G u (v0) (v1)) (ck (isO u v0 5) (ck (List.all [some v0] (okR u.1.1)) (bx (gw u (fm_Ma_test N u v0 v1)) (fun u7 r7 => gw u7 (fb_Ma_predefined_146 N G u7 (v0)))))))) (br (decide (v1 = 4)) (br (decide (v1 < 17)) (fb_Ma_predefined_141 N G u (v0) (v1)) (br (decide (28 < v1)) (fb_Ma_predefined_141 N G u (v0) (v1)) (ck (isO u v0 5) (ck (List.all [some v0] (okR u.1.1)) (bx (gw u (fm_Ma_test N u v0 v1)) (fun u8 r8 => gw u8 (fb_Ma_predefined_146 N G u8 (v0)))))))) (br (decide (v1 = 5)) (br (decide (v1 < 17)) (fb_Ma_predefined_141 N G u (v0) (v1)) (br (decide (28 < v1)) (fb_Ma_predefined_141 N G u (v0) (v1)) (ck (isO u v0 5) (ck (List.all [some v0] (okR u.1.1)) (bx (gw u (fm_Ma_test N u v0 v1)) (fun u9 r9 => gw u9 (fb_Ma_predefined_146 N G u9 (v0)))))))) (br (decide (v1 = 6)) (br (decide (v1 < 17)) (fb_Ma_predefined_141 N G u (v0) (v1)) (br (decide (28 < v1)) (fb_Ma_predefined_141 N G u (v0) (v1)) (ck (isO u v0 5) (ck (List.all [some v0] (okR u.1.1)) (bx (gw u (fm_Ma_test N u v0 v1)) (fun u10 r10 => gw u10 (fb_Ma_predefined_146 N G u10 (v0)))))))) (br (decide (v1 = 7)) (br (decide (v1 < 17)) (fb_Ma_predefined_141 N G u (v0) (v1)) (br (decide (28 < v1)) (fb_Ma_predefined_141 N G u (v0) (v1)) (ck (isO u v0 5) (ck (List.all [some v0] (okR u.1.1)) (bx (gw u (fm_Ma_test N u v0 v1)) (fun u11 r11 => gw u11 (fb_Ma_predefined_146 N G u11 (v0)))))))) (br (decide (v1 = 8)) (br (decide (v1 < 17)) (fb_Ma_predefined_141 N G u (v0) (v1)) (br (decide (28 < v1)) (fb_Ma_predefined_141 N G u (v0) (v1)) (ck (isO u v0 5) (ck (List.all [some v0] (okR u.1.1)) (bx (gw u (fm_Ma_test N u v0 v1)) (fun u12 r12 => gw u12 (fb_Ma_predefined_146 N G u12 (v0)))))))) (br (decide (v1 = 9)) (br (decide (v1 < 17)) (fb_Ma_predefined_141 N G u (v0) (v1)) (br (decide (28 < v1)) (fb_Ma_predefined_141 N G u (v0) (v1)) (ck (isO u v0 5) (ck (List.all [some v0] (okR u.1.1)) (bx (gw u (fm_Ma_test N u v0 v1)) (fun u13 r13 => gw u13 (fb_Ma_predefined_146 N G u13 (v0)))))))) (br (decide (v1 = 10)) (bo (gR u v0 5 1) (fun r14 => bo (gR u v0 5 3) (fun r15 => bo r15 (fun j16 => bo (gR u j16 7 2) (fun r17 => bo (gR u v0 5 4) (fun r18 => bo r18 (fun j20 => ck (isO u j20 4) (bx (gz u (fm_Fr_below N u j20 0)) (fun u19 r19 => gw u19 (bo r14 (fun j22 => ck (isO u19 j22 12) (bx (gz u19 (fm_Wl_print N u19 j22 r17 r19)) (fun u21 r21 => gw u21 (bx (gz u21 (fm_Ma_atom N u21 2)) (fun u23 r23 => gw u23 (ck (isO u23 v0 5) (ck (List.all [some v0] (okR u23.1.1)) (bx (gw u23 (fm_Ma_answer N u23 v0 1 r23)) (fun u24 r24 => gw u24 (fb_Ma_predefined_146 N G u24 (v0))))))))))))))))))))) (br (decide (v1 = 11)) (br (decide (v1 < 17)) (fb_Ma_predefined_141 N G u (v0) (v1)) (br (decide (28 < v1)) (fb_Ma_predefined_141 N G u (v0) (v1)) (ck (isO u v0 5) (ck (List.all [some v0] (okR u.1.1)) (bx (gw u (fm_Ma_test N u v0 v1)) (fun u25 r25 => gw u25 (fb_Ma_predefined_146 N G u25 (v0)))))))) (br (decide (v1 = 12)) (ck (isO u v0 5) (ck (List.all [some v0] (okR u.1.1)) (bx (gw u (fm_Ma_naming N u v0 v1)) (fun u26 r26 => gw u26 (fb_Ma_predefined_146 N G u26 (v0)))))) (br (decide (v1 = 13)) (ck (isO u v0 5) (ck (List.all [some v0] (okR u.1.1)) (bx (gw u (fm_Ma_naming N u v0 v1)) (fun u27 r27 => gw u27 (fb_Ma_predefined_146 N G u27 (v0)))))) (br (decide (v1 = 14)) (ck (isO u v0 5) (ck (List.all [some v0] (okR u.1.1)) (bx (gw u (fm_Ma_naming N u v0 v1)) (fun u28 r28 => gw u28 (fb_Ma_predefined_146 N G u28 (v0)))))) (br (decide (v1 < 17)) (fb_Ma_predefined_141 N G u (v0) (v1)) (br (decide (28 < v1)) (fb_Ma_predefined_141 N G u (v0) (v1)) (ck (isO u v0 5) (ck (List.all [some v0] (okR u.1.1)) (bx (gw u (fm_Ma_test N u v0 v1)) (fun u29 r29 => gw u29 (fb_Ma_predefined_146 N G u29 (v0)))))))))))))))))))))
set_option maxRecDepth 100000 in
set_option maxHeartbeats 4000000 in
theorem wb_Ma_predefined_0 {p : Program} {l : Launch} {e : Env} {s : State} {m : MethodId} {args : Array Value} {below : List Frame} {meth : Method} {c : Code} {s0 : State} {b0 : Nat} {D : va_G} {cB cI cJ cZ cS cP : ClassId} {A : Nat → Prop} {sk sv : Nat → Nat} {uN uS mc ms : Nat} {ad0 : Nat → Nat} (C0 : XCx p s s0 b0 m args meth c R_Ma b_Ma_predefined 2 none D cB cI cJ cZ cS cP A) (hE : ENV s0 b0 sk sv) (N : Nat) (G : Unit) (hG : True) : ∀ (u : CS) (v0 : Nat) (v1 : Int32) (x : CS × Unit), fb_Ma_predefined_0 N G u v0 v1 = some x → (uN + mc = x.1.1.1 ∧ uS + ms = x.1.1.2) → ∀ (ad : Nat → Nat) (ce sl : Nat), AB uN uS ad0 u ad ce sl → ∀ (H : Heap) (locs : List Loc), va_P D cls (wC cB cI cJ cZ cS cP ad u) H → va_D A (wC cB cI cJ cZ cS cP ad u) → va_S A s.heap H locs → ∀ (ls : Array Slot), lv_has ls 2 [(0, .ref (ad v0)), (1, .int v1)] → W p l e (rm_Ma_predefined mc ms) s m args below meth c H locs ce sl (MQ below (xQ D cB cI cJ cZ cS cP A ad0 uN x.1 none) args s mc ms A) (F0 m 0 ls []) := by
  intro u v0 v1 x hf hm ad ce sl hB H locs hP hD hS ls hl
  obtain ⟨hx, hb, hr, hml, ht, hown, hK, hA, hlocks, hA0, hO, hbs⟩ := id C0
  unfold fb_Ma_predefined_0 at hf
  refine lv_iload_n hx hb d_Ma_predefined_0 rfl (lv_at hl 1 rfl) ?_
  by_cases hc1 : v1 = 1
  · rw [br_p _ hc1] at hf
    refine lv_tableIn (tgt := 72) hx hb d_Ma_predefined_1 (by rw [hc1]; decide) (by rw [hc1]; decide) (by rw [hc1]; rfl) (by decide) ?_
    refine lv_aload_n hx hb d_Ma_predefined_72 rfl (lv_at hl 0 rfl) ?_
    obtain ⟨hO9, hf⟩ := ck_some hf
    obtain ⟨hk5, hf⟩ := ck_some hf
    obtain ⟨u5, r5, hc5, hf⟩ := bx_some hf
    obtain ⟨hc5, hq5⟩ := gw_some hc5
    obtain ⟨hf, hw5⟩ := gw_some hf
    refine yV (i := v0) (As := []) (rest := []) C0 hP hD hS ck_Ma hO9 (c_Ma_spawn N hE hc5 (gm hq5)) k_Ma_spawn (wd_of 1649 (by decide +kernel) rfl) hi_Ma_spawn hs_Ma_spawn hini_Ma rfl rfl hd_Ma_spawn rfl rm_Ma_predefined_Ma_spawn hl.1 (Nat.le_of_ble_eq_true rfl) d_Ma_predefined_73 rfl (gm hq5) hB hm hw5 (fun ad5 H locs ce sl hg5 hB hP hD hS => ?_)
    have q5_0 : ad5 v0 = ad v0 := ko_O (k := 0) hk5 rfl hg5
    have hl : lv_has ls 2 [(0, .ref (ad5 v0)), (1, .int v1)] := by simp only [q5_0]; exact hl
    refine lv_goto (tgt := 146) hx hb d_Ma_predefined_76 (by decide) ?_
    exact wb_Ma_predefined_146 C0 hE N G hG _ _ _ hf hm _ _ _ hB H locs hP hD hS ls (lv_sub hl [0] rfl)
  · rw [br_n _ hc1] at hf
    by_cases hc2 : v1 = 2
    · rw [br_p _ hc2] at hf
      refine lv_tableIn (tgt := 121) hx hb d_Ma_predefined_1 (by rw [hc2]; decide) (by rw [hc2]; decide) (by rw [hc2]; rfl) (by decide) ?_
      refine lv_iload_n hx hb d_Ma_predefined_121 rfl (lv_at hl 1 rfl) ?_
      refine lv_bipush (v := 17) hx hb d_Ma_predefined_122 (by decide) ?_
      refine lv_icmp_lt (tgt := 141) hx hb d_Ma_predefined_124 (by decide) (fun hc => ?_) (fun hc => ?_)
      · rw [br_p _ hc] at hf
        exact wb_Ma_predefined_141 C0 hE N G hG _ _ _ _ hf hm _ _ _ hB H locs hP hD hS ls (lv_sub hl [0, 1] rfl)
      · rw [br_n _ hc] at hf
        refine lv_iload_n hx hb d_Ma_predefined_127 rfl (lv_at hl 1 rfl) ?_
        refine lv_bipush (v := 28) hx hb d_Ma_predefined_128 (by decide) ?_
        refine lv_icmp_gt (tgt := 141) hx hb d_Ma_predefined_130 (by decide) (fun hc => ?_) (fun hc => ?_)
        · rw [br_p _ hc] at hf
          exact wb_Ma_predefined_141 C0 hE N G hG _ _ _ _ hf hm _ _ _ hB H locs hP hD hS ls (lv_sub hl [0, 1] rfl)
        · rw [br_n _ hc] at hf
          refine lv_aload_n hx hb d_Ma_predefined_133 rfl (lv_at hl 0 rfl) ?_
          refine lv_iload_n hx hb d_Ma_predefined_134 rfl (lv_at hl 1 rfl) ?_
          obtain ⟨hO9, hf⟩ := ck_some hf
          obtain ⟨hk6, hf⟩ := ck_some hf
          obtain ⟨u6, r6, hc6, hf⟩ := bx_some hf
          obtain ⟨hc6, hq6⟩ := gw_some hc6
          obtain ⟨hf, hw6⟩ := gw_some hf
          refine yV (i := v0) (As := [.int v1]) (rest := []) C0 hP hD hS ck_Ma hO9 (c_Ma_test N hE hc6 (gm hq6)) k_Ma_test (wd_of 1775 (by decide +kernel) rfl) hi_Ma_test hs_Ma_test hini_Ma rfl rfl hd_Ma_test rfl rm_Ma_predefined_Ma_test hl.1 (Nat.le_of_ble_eq_true rfl) d_Ma_predefined_135 rfl (gm hq6) hB hm hw6 (fun ad6 H locs ce sl hg6 hB hP hD hS => ?_)
          have q6_0 : ad6 v0 = ad v0 := ko_O (k := 0) hk6 rfl hg6
          have hl : lv_has ls 2 [(0, .ref (ad6 v0)), (1, .int v1)] := by simp only [q6_0]; exact hl
          refine lv_goto (tgt := 146) hx hb d_Ma_predefined_138 (by decide) ?_
          exact wb_Ma_predefined_146 C0 hE N G hG _ _ _ hf hm _ _ _ hB H locs hP hD hS ls (lv_sub hl [0] rfl)
    · rw [br_n _ hc2] at hf
      by_cases hc3 : v1 = 3
      · rw [br_p _ hc3] at hf
        refine lv_tableIn (tgt := 121) hx hb d_Ma_predefined_1 (by rw [hc3]; decide) (by rw [hc3]; decide) (by rw [hc3]; rfl) (by decide) ?_
        refine lv_iload_n hx hb d_Ma_predefined_121 rfl (lv_at hl 1 rfl) ?_
        refine lv_bipush (v := 17) hx hb d_Ma_predefined_122 (by decide) ?_
        refine lv_icmp_lt (tgt := 141) hx hb d_Ma_predefined_124 (by decide) (fun hc => ?_) (fun hc => ?_)
        · rw [br_p _ hc] at hf
          exact wb_Ma_predefined_141 C0 hE N G hG _ _ _ _ hf hm _ _ _ hB H locs hP hD hS ls (lv_sub hl [0, 1] rfl)
        · rw [br_n _ hc] at hf
          refine lv_iload_n hx hb d_Ma_predefined_127 rfl (lv_at hl 1 rfl) ?_
          refine lv_bipush (v := 28) hx hb d_Ma_predefined_128 (by decide) ?_
          refine lv_icmp_gt (tgt := 141) hx hb d_Ma_predefined_130 (by decide) (fun hc => ?_) (fun hc => ?_)
          · rw [br_p _ hc] at hf
            exact wb_Ma_predefined_141 C0 hE N G hG _ _ _ _ hf hm _ _ _ hB H locs hP hD hS ls (lv_sub hl [0, 1] rfl)
          · rw [br_n _ hc] at hf
            refine lv_aload_n hx hb d_Ma_predefined_133 rfl (lv_at hl 0 rfl) ?_
            refine lv_iload_n hx hb d_Ma_predefined_134 rfl (lv_at hl 1 rfl) ?_
            obtain ⟨hO9, hf⟩ := ck_some hf
            obtain ⟨hk7, hf⟩ := ck_some hf
            obtain ⟨u7, r7, hc7, hf⟩ := bx_some hf
            obtain ⟨hc7, hq7⟩ := gw_some hc7
            obtain ⟨hf, hw7⟩ := gw_some hf
            refine yV (i := v0) (As := [.int v1]) (rest := []) C0 hP hD hS ck_Ma hO9 (c_Ma_test N hE hc7 (gm hq7)) k_Ma_test (wd_of 1775 (by decide +kernel) rfl) hi_Ma_test hs_Ma_test hini_Ma rfl rfl hd_Ma_test rfl rm_Ma_predefined_Ma_test hl.1 (Nat.le_of_ble_eq_true rfl) d_Ma_predefined_135 rfl (gm hq7) hB hm hw7 (fun ad7 H locs ce sl hg7 hB hP hD hS => ?_)
            have q7_0 : ad7 v0 = ad v0 := ko_O (k := 0) hk7 rfl hg7
            have hl : lv_has ls 2 [(0, .ref (ad7 v0)), (1, .int v1)] := by simp only [q7_0]; exact hl
            refine lv_goto (tgt := 146) hx hb d_Ma_predefined_138 (by decide) ?_
            exact wb_Ma_predefined_146 C0 hE N G hG _ _ _ hf hm _ _ _ hB H locs hP hD hS ls (lv_sub hl [0] rfl)
      · rw [br_n _ hc3] at hf
        by_cases hc4 : v1 = 4
        · rw [br_p _ hc4] at hf
          refine lv_tableIn (tgt := 121) hx hb d_Ma_predefined_1 (by rw [hc4]; decide) (by rw [hc4]; decide) (by rw [hc4]; rfl) (by decide) ?_
          refine lv_iload_n hx hb d_Ma_predefined_121 rfl (lv_at hl 1 rfl) ?_
          refine lv_bipush (v := 17) hx hb d_Ma_predefined_122 (by decide) ?_
          refine lv_icmp_lt (tgt := 141) hx hb d_Ma_predefined_124 (by decide) (fun hc => ?_) (fun hc => ?_)
          · rw [br_p _ hc] at hf
            exact wb_Ma_predefined_141 C0 hE N G hG _ _ _ _ hf hm _ _ _ hB H locs hP hD hS ls (lv_sub hl [0, 1] rfl)
          · rw [br_n _ hc] at hf
            refine lv_iload_n hx hb d_Ma_predefined_127 rfl (lv_at hl 1 rfl) ?_
            refine lv_bipush (v := 28) hx hb d_Ma_predefined_128 (by decide) ?_
            refine lv_icmp_gt (tgt := 141) hx hb d_Ma_predefined_130 (by decide) (fun hc => ?_) (fun hc => ?_)
            · rw [br_p _ hc] at hf
              exact wb_Ma_predefined_141 C0 hE N G hG _ _ _ _ hf hm _ _ _ hB H locs hP hD hS ls (lv_sub hl [0, 1] rfl)
            · rw [br_n _ hc] at hf
              refine lv_aload_n hx hb d_Ma_predefined_133 rfl (lv_at hl 0 rfl) ?_
              refine lv_iload_n hx hb d_Ma_predefined_134 rfl (lv_at hl 1 rfl) ?_
              obtain ⟨hO9, hf⟩ := ck_some hf
              obtain ⟨hk8, hf⟩ := ck_some hf
              obtain ⟨u8, r8, hc8, hf⟩ := bx_some hf
              obtain ⟨hc8, hq8⟩ := gw_some hc8
              obtain ⟨hf, hw8⟩ := gw_some hf
              refine yV (i := v0) (As := [.int v1]) (rest := []) C0 hP hD hS ck_Ma hO9 (c_Ma_test N hE hc8 (gm hq8)) k_Ma_test (wd_of 1775 (by decide +kernel) rfl) hi_Ma_test hs_Ma_test hini_Ma rfl rfl hd_Ma_test rfl rm_Ma_predefined_Ma_test hl.1 (Nat.le_of_ble_eq_true rfl) d_Ma_predefined_135 rfl (gm hq8) hB hm hw8 (fun ad8 H locs ce sl hg8 hB hP hD hS => ?_)
              have q8_0 : ad8 v0 = ad v0 := ko_O (k := 0) hk8 rfl hg8
              have hl : lv_has ls 2 [(0, .ref (ad8 v0)), (1, .int v1)] := by simp only [q8_0]; exact hl
              refine lv_goto (tgt := 146) hx hb d_Ma_predefined_138 (by decide) ?_
              exact wb_Ma_predefined_146 C0 hE N G hG _ _ _ hf hm _ _ _ hB H locs hP hD hS ls (lv_sub hl [0] rfl)
        · rw [br_n _ hc4] at hf
          by_cases hc5 : v1 = 5
          · rw [br_p _ hc5] at hf
            refine lv_tableIn (tgt := 121) hx hb d_Ma_predefined_1 (by rw [hc5]; decide) (by rw [hc5]; decide) (by rw [hc5]; rfl) (by decide) ?_
            refine lv_iload_n hx hb d_Ma_predefined_121 rfl (lv_at hl 1 rfl) ?_
            refine lv_bipush (v := 17) hx hb d_Ma_predefined_122 (by decide) ?_
            refine lv_icmp_lt (tgt := 141) hx hb d_Ma_predefined_124 (by decide) (fun hc => ?_) (fun hc => ?_)
            · rw [br_p _ hc] at hf
              exact wb_Ma_predefined_141 C0 hE N G hG _ _ _ _ hf hm _ _ _ hB H locs hP hD hS ls (lv_sub hl [0, 1] rfl)
            · rw [br_n _ hc] at hf
              refine lv_iload_n hx hb d_Ma_predefined_127 rfl (lv_at hl 1 rfl) ?_
              refine lv_bipush (v := 28) hx hb d_Ma_predefined_128 (by decide) ?_
              refine lv_icmp_gt (tgt := 141) hx hb d_Ma_predefined_130 (by decide) (fun hc => ?_) (fun hc => ?_)
              · rw [br_p _ hc] at hf
                exact wb_Ma_predefined_141 C0 hE N G hG _ _ _ _ hf hm _ _ _ hB H locs hP hD hS ls (lv_sub hl [0, 1] rfl)
              · rw [br_n _ hc] at hf
                refine lv_aload_n hx hb d_Ma_predefined_133 rfl (lv_at hl 0 rfl) ?_
                refine lv_iload_n hx hb d_Ma_predefined_134 rfl (lv_at hl 1 rfl) ?_
                obtain ⟨hO9, hf⟩ := ck_some hf
                obtain ⟨hk9, hf⟩ := ck_some hf
                obtain ⟨u9, r9, hc9, hf⟩ := bx_some hf
                obtain ⟨hc9, hq9⟩ := gw_some hc9
                obtain ⟨hf, hw9⟩ := gw_some hf
                refine yV (i := v0) (As := [.int v1]) (rest := []) C0 hP hD hS ck_Ma hO9 (c_Ma_test N hE hc9 (gm hq9)) k_Ma_test (wd_of 1775 (by decide +kernel) rfl) hi_Ma_test hs_Ma_test hini_Ma rfl rfl hd_Ma_test rfl rm_Ma_predefined_Ma_test hl.1 (Nat.le_of_ble_eq_true rfl) d_Ma_predefined_135 rfl (gm hq9) hB hm hw9 (fun ad9 H locs ce sl hg9 hB hP hD hS => ?_)
                have q9_0 : ad9 v0 = ad v0 := ko_O (k := 0) hk9 rfl hg9
                have hl : lv_has ls 2 [(0, .ref (ad9 v0)), (1, .int v1)] := by simp only [q9_0]; exact hl
                refine lv_goto (tgt := 146) hx hb d_Ma_predefined_138 (by decide) ?_
                exact wb_Ma_predefined_146 C0 hE N G hG _ _ _ hf hm _ _ _ hB H locs hP hD hS ls (lv_sub hl [0] rfl)
          · rw [br_n _ hc5] at hf
            by_cases hc6 : v1 = 6
            · rw [br_p _ hc6] at hf
              refine lv_tableIn (tgt := 121) hx hb d_Ma_predefined_1 (by rw [hc6]; decide) (by rw [hc6]; decide) (by rw [hc6]; rfl) (by decide) ?_
              refine lv_iload_n hx hb d_Ma_predefined_121 rfl (lv_at hl 1 rfl) ?_
              refine lv_bipush (v := 17) hx hb d_Ma_predefined_122 (by decide) ?_
              refine lv_icmp_lt (tgt := 141) hx hb d_Ma_predefined_124 (by decide) (fun hc => ?_) (fun hc => ?_)
              · rw [br_p _ hc] at hf
                exact wb_Ma_predefined_141 C0 hE N G hG _ _ _ _ hf hm _ _ _ hB H locs hP hD hS ls (lv_sub hl [0, 1] rfl)
              · rw [br_n _ hc] at hf
                refine lv_iload_n hx hb d_Ma_predefined_127 rfl (lv_at hl 1 rfl) ?_
                refine lv_bipush (v := 28) hx hb d_Ma_predefined_128 (by decide) ?_
                refine lv_icmp_gt (tgt := 141) hx hb d_Ma_predefined_130 (by decide) (fun hc => ?_) (fun hc => ?_)
                · rw [br_p _ hc] at hf
                  exact wb_Ma_predefined_141 C0 hE N G hG _ _ _ _ hf hm _ _ _ hB H locs hP hD hS ls (lv_sub hl [0, 1] rfl)
                · rw [br_n _ hc] at hf
                  refine lv_aload_n hx hb d_Ma_predefined_133 rfl (lv_at hl 0 rfl) ?_
                  refine lv_iload_n hx hb d_Ma_predefined_134 rfl (lv_at hl 1 rfl) ?_
                  obtain ⟨hO9, hf⟩ := ck_some hf
                  obtain ⟨hk10, hf⟩ := ck_some hf
                  obtain ⟨u10, r10, hc10, hf⟩ := bx_some hf
                  obtain ⟨hc10, hq10⟩ := gw_some hc10
                  obtain ⟨hf, hw10⟩ := gw_some hf
                  refine yV (i := v0) (As := [.int v1]) (rest := []) C0 hP hD hS ck_Ma hO9 (c_Ma_test N hE hc10 (gm hq10)) k_Ma_test (wd_of 1775 (by decide +kernel) rfl) hi_Ma_test hs_Ma_test hini_Ma rfl rfl hd_Ma_test rfl rm_Ma_predefined_Ma_test hl.1 (Nat.le_of_ble_eq_true rfl) d_Ma_predefined_135 rfl (gm hq10) hB hm hw10 (fun ad10 H locs ce sl hg10 hB hP hD hS => ?_)
                  have q10_0 : ad10 v0 = ad v0 := ko_O (k := 0) hk10 rfl hg10
                  have hl : lv_has ls 2 [(0, .ref (ad10 v0)), (1, .int v1)] := by simp only [q10_0]; exact hl
                  refine lv_goto (tgt := 146) hx hb d_Ma_predefined_138 (by decide) ?_
                  exact wb_Ma_predefined_146 C0 hE N G hG _ _ _ hf hm _ _ _ hB H locs hP hD hS ls (lv_sub hl [0] rfl)
            · rw [br_n _ hc6] at hf
              by_cases hc7 : v1 = 7
              · rw [br_p _ hc7] at hf
                refine lv_tableIn (tgt := 121) hx hb d_Ma_predefined_1 (by rw [hc7]; decide) (by rw [hc7]; decide) (by rw [hc7]; rfl) (by decide) ?_
                refine lv_iload_n hx hb d_Ma_predefined_121 rfl (lv_at hl 1 rfl) ?_
                refine lv_bipush (v := 17) hx hb d_Ma_predefined_122 (by decide) ?_
                refine lv_icmp_lt (tgt := 141) hx hb d_Ma_predefined_124 (by decide) (fun hc => ?_) (fun hc => ?_)
                · rw [br_p _ hc] at hf
                  exact wb_Ma_predefined_141 C0 hE N G hG _ _ _ _ hf hm _ _ _ hB H locs hP hD hS ls (lv_sub hl [0, 1] rfl)
                · rw [br_n _ hc] at hf
                  refine lv_iload_n hx hb d_Ma_predefined_127 rfl (lv_at hl 1 rfl) ?_
                  refine lv_bipush (v := 28) hx hb d_Ma_predefined_128 (by decide) ?_
                  refine lv_icmp_gt (tgt := 141) hx hb d_Ma_predefined_130 (by decide) (fun hc => ?_) (fun hc => ?_)
                  · rw [br_p _ hc] at hf
                    exact wb_Ma_predefined_141 C0 hE N G hG _ _ _ _ hf hm _ _ _ hB H locs hP hD hS ls (lv_sub hl [0, 1] rfl)
                  · rw [br_n _ hc] at hf
                    refine lv_aload_n hx hb d_Ma_predefined_133 rfl (lv_at hl 0 rfl) ?_
                    refine lv_iload_n hx hb d_Ma_predefined_134 rfl (lv_at hl 1 rfl) ?_
                    obtain ⟨hO9, hf⟩ := ck_some hf
                    obtain ⟨hk11, hf⟩ := ck_some hf
                    obtain ⟨u11, r11, hc11, hf⟩ := bx_some hf
                    obtain ⟨hc11, hq11⟩ := gw_some hc11
                    obtain ⟨hf, hw11⟩ := gw_some hf
                    refine yV (i := v0) (As := [.int v1]) (rest := []) C0 hP hD hS ck_Ma hO9 (c_Ma_test N hE hc11 (gm hq11)) k_Ma_test (wd_of 1775 (by decide +kernel) rfl) hi_Ma_test hs_Ma_test hini_Ma rfl rfl hd_Ma_test rfl rm_Ma_predefined_Ma_test hl.1 (Nat.le_of_ble_eq_true rfl) d_Ma_predefined_135 rfl (gm hq11) hB hm hw11 (fun ad11 H locs ce sl hg11 hB hP hD hS => ?_)
                    have q11_0 : ad11 v0 = ad v0 := ko_O (k := 0) hk11 rfl hg11
                    have hl : lv_has ls 2 [(0, .ref (ad11 v0)), (1, .int v1)] := by simp only [q11_0]; exact hl
                    refine lv_goto (tgt := 146) hx hb d_Ma_predefined_138 (by decide) ?_
                    exact wb_Ma_predefined_146 C0 hE N G hG _ _ _ hf hm _ _ _ hB H locs hP hD hS ls (lv_sub hl [0] rfl)
              · rw [br_n _ hc7] at hf
                by_cases hc8 : v1 = 8
                · rw [br_p _ hc8] at hf
                  refine lv_tableIn (tgt := 121) hx hb d_Ma_predefined_1 (by rw [hc8]; decide) (by rw [hc8]; decide) (by rw [hc8]; rfl) (by decide) ?_
                  refine lv_iload_n hx hb d_Ma_predefined_121 rfl (lv_at hl 1 rfl) ?_
                  refine lv_bipush (v := 17) hx hb d_Ma_predefined_122 (by decide) ?_
                  refine lv_icmp_lt (tgt := 141) hx hb d_Ma_predefined_124 (by decide) (fun hc => ?_) (fun hc => ?_)
                  · rw [br_p _ hc] at hf
                    exact wb_Ma_predefined_141 C0 hE N G hG _ _ _ _ hf hm _ _ _ hB H locs hP hD hS ls (lv_sub hl [0, 1] rfl)
                  · rw [br_n _ hc] at hf
                    refine lv_iload_n hx hb d_Ma_predefined_127 rfl (lv_at hl 1 rfl) ?_
                    refine lv_bipush (v := 28) hx hb d_Ma_predefined_128 (by decide) ?_
                    refine lv_icmp_gt (tgt := 141) hx hb d_Ma_predefined_130 (by decide) (fun hc => ?_) (fun hc => ?_)
                    · rw [br_p _ hc] at hf
                      exact wb_Ma_predefined_141 C0 hE N G hG _ _ _ _ hf hm _ _ _ hB H locs hP hD hS ls (lv_sub hl [0, 1] rfl)
                    · rw [br_n _ hc] at hf
                      refine lv_aload_n hx hb d_Ma_predefined_133 rfl (lv_at hl 0 rfl) ?_
                      refine lv_iload_n hx hb d_Ma_predefined_134 rfl (lv_at hl 1 rfl) ?_
                      obtain ⟨hO9, hf⟩ := ck_some hf
                      obtain ⟨hk12, hf⟩ := ck_some hf
                      obtain ⟨u12, r12, hc12, hf⟩ := bx_some hf
                      obtain ⟨hc12, hq12⟩ := gw_some hc12
                      obtain ⟨hf, hw12⟩ := gw_some hf
                      refine yV (i := v0) (As := [.int v1]) (rest := []) C0 hP hD hS ck_Ma hO9 (c_Ma_test N hE hc12 (gm hq12)) k_Ma_test (wd_of 1775 (by decide +kernel) rfl) hi_Ma_test hs_Ma_test hini_Ma rfl rfl hd_Ma_test rfl rm_Ma_predefined_Ma_test hl.1 (Nat.le_of_ble_eq_true rfl) d_Ma_predefined_135 rfl (gm hq12) hB hm hw12 (fun ad12 H locs ce sl hg12 hB hP hD hS => ?_)
                      have q12_0 : ad12 v0 = ad v0 := ko_O (k := 0) hk12 rfl hg12
                      have hl : lv_has ls 2 [(0, .ref (ad12 v0)), (1, .int v1)] := by simp only [q12_0]; exact hl
                      refine lv_goto (tgt := 146) hx hb d_Ma_predefined_138 (by decide) ?_
                      exact wb_Ma_predefined_146 C0 hE N G hG _ _ _ hf hm _ _ _ hB H locs hP hD hS ls (lv_sub hl [0] rfl)
                · rw [br_n _ hc8] at hf
                  by_cases hc9 : v1 = 9
                  · rw [br_p _ hc9] at hf
                    refine lv_tableIn (tgt := 121) hx hb d_Ma_predefined_1 (by rw [hc9]; decide) (by rw [hc9]; decide) (by rw [hc9]; rfl) (by decide) ?_
                    refine lv_iload_n hx hb d_Ma_predefined_121 rfl (lv_at hl 1 rfl) ?_
                    refine lv_bipush (v := 17) hx hb d_Ma_predefined_122 (by decide) ?_
                    refine lv_icmp_lt (tgt := 141) hx hb d_Ma_predefined_124 (by decide) (fun hc => ?_) (fun hc => ?_)
                    · rw [br_p _ hc] at hf
                      exact wb_Ma_predefined_141 C0 hE N G hG _ _ _ _ hf hm _ _ _ hB H locs hP hD hS ls (lv_sub hl [0, 1] rfl)
                    · rw [br_n _ hc] at hf
                      refine lv_iload_n hx hb d_Ma_predefined_127 rfl (lv_at hl 1 rfl) ?_
                      refine lv_bipush (v := 28) hx hb d_Ma_predefined_128 (by decide) ?_
                      refine lv_icmp_gt (tgt := 141) hx hb d_Ma_predefined_130 (by decide) (fun hc => ?_) (fun hc => ?_)
                      · rw [br_p _ hc] at hf
                        exact wb_Ma_predefined_141 C0 hE N G hG _ _ _ _ hf hm _ _ _ hB H locs hP hD hS ls (lv_sub hl [0, 1] rfl)
                      · rw [br_n _ hc] at hf
                        refine lv_aload_n hx hb d_Ma_predefined_133 rfl (lv_at hl 0 rfl) ?_
                        refine lv_iload_n hx hb d_Ma_predefined_134 rfl (lv_at hl 1 rfl) ?_
                        obtain ⟨hO9, hf⟩ := ck_some hf
                        obtain ⟨hk13, hf⟩ := ck_some hf
                        obtain ⟨u13, r13, hc13, hf⟩ := bx_some hf
                        obtain ⟨hc13, hq13⟩ := gw_some hc13
                        obtain ⟨hf, hw13⟩ := gw_some hf
                        refine yV (i := v0) (As := [.int v1]) (rest := []) C0 hP hD hS ck_Ma hO9 (c_Ma_test N hE hc13 (gm hq13)) k_Ma_test (wd_of 1775 (by decide +kernel) rfl) hi_Ma_test hs_Ma_test hini_Ma rfl rfl hd_Ma_test rfl rm_Ma_predefined_Ma_test hl.1 (Nat.le_of_ble_eq_true rfl) d_Ma_predefined_135 rfl (gm hq13) hB hm hw13 (fun ad13 H locs ce sl hg13 hB hP hD hS => ?_)
                        have q13_0 : ad13 v0 = ad v0 := ko_O (k := 0) hk13 rfl hg13
                        have hl : lv_has ls 2 [(0, .ref (ad13 v0)), (1, .int v1)] := by simp only [q13_0]; exact hl
                        refine lv_goto (tgt := 146) hx hb d_Ma_predefined_138 (by decide) ?_
                        exact wb_Ma_predefined_146 C0 hE N G hG _ _ _ hf hm _ _ _ hB H locs hP hD hS ls (lv_sub hl [0] rfl)
                  · rw [br_n _ hc9] at hf
                    by_cases hc10 : v1 = 10
                    · rw [br_p _ hc10] at hf
                      refine lv_tableIn (tgt := 79) hx hb d_Ma_predefined_1 (by rw [hc10]; decide) (by rw [hc10]; decide) (by rw [hc10]; rfl) (by decide) ?_
                      refine lv_aload_n hx hb d_Ma_predefined_79 rfl (lv_at hl 0 rfl) ?_
                      obtain ⟨r14, g14, hf⟩ := bo_some hf
                      refine xg_R (i := v0) (k := 1) hx hb ht hown ck_Ma hK hP (by decide) fk_Ma_15 g14 d_Ma_predefined_80 ?_
                      refine lv_aload_n hx hb d_Ma_predefined_83 rfl (lv_at hl 0 rfl) ?_
                      obtain ⟨r15, g15, hf⟩ := bo_some hf
                      refine xg_R (i := v0) (k := 3) hx hb ht hown ck_Ma hK hP (by decide) fk_Ma_23 g15 d_Ma_predefined_84 ?_
                      obtain ⟨j16, ej16, hf⟩ := bo_some hf
                      rw [ej16]
                      obtain ⟨r17, g17, hf⟩ := bo_some hf
                      refine xg_R (i := j16) (k := 2) hx hb ht hown ck_Pr hK hP (by decide) fk_Ma_195 g17 d_Ma_predefined_87 ?_
                      refine lv_aload_n hx hb d_Ma_predefined_90 rfl (lv_at hl 0 rfl) ?_
                      obtain ⟨r18, g18, hf⟩ := bo_some hf
                      refine xg_R (i := v0) (k := 4) hx hb ht hown ck_Ma hK hP (by decide) fk_Ma_33 g18 d_Ma_predefined_91 ?_
                      refine lv_iconst (v := 0) hx hb d_Ma_predefined_94 (by decide) ?_
                      obtain ⟨j20, ej20, hf⟩ := bo_some hf
                      rw [ej20]
                      obtain ⟨hO9, hf⟩ := ck_some hf
                      obtain ⟨u19, r19, hc19, hf⟩ := bx_some hf
                      obtain ⟨hc19, hz19⟩ := gz_some hc19
                      obtain ⟨hf, hw19⟩ := gw_some hf
                      refine xV0 (i := j20) (As := [.int 0]) (rest := [va_rf (Option.map ad r17), va_rf (Option.map ad r14)]) C0 hP hD hS ck_Fr hO9 (c_Fr_below N hc19) k_Fr_below (wd_of 1653 (by decide +kernel) rfl) hi_Fr_below hs_Fr_below hini_Fr rfl rfl hd_Fr_below rfl rm_Ma_predefined_Fr_below hl.1 (c8 (Nat.le_of_ble_eq_true rfl)) d_Ma_predefined_95 rfl (hB.fit hm hz19 hw19) (fun H locs hP hD hS => ?_)
                      have hB := hB.same2 hz19
                      obtain ⟨j22, ej22, hf⟩ := bo_some hf
                      rw [ej22]
                      obtain ⟨hO9, hf⟩ := ck_some hf
                      obtain ⟨u21, r21, hc21, hf⟩ := bx_some hf
                      obtain ⟨hc21, hz21⟩ := gz_some hc21
                      obtain ⟨hf, hw21⟩ := gw_some hf
                      refine xV0 (i := j22) (As := [va_rf (Option.map ad r17), .long r19]) (rest := []) C0 hP hD hS ck_Wl hO9 (c_Wl_print N hE hc21) k_Wl_print (wd_of 1757 (by decide +kernel) rfl) hi_Wl_print hs_Wl_print hini_Wl rfl rfl hd_Wl_print rfl rm_Ma_predefined_Wl_print hl.1 (Nat.le_of_ble_eq_true rfl) d_Ma_predefined_98 rfl (hB.fit hm hz21 hw21) (fun H locs hP hD hS => ?_)
                      have hB := hB.same2 hz21
                      refine lv_aload_n hx hb d_Ma_predefined_101 rfl (lv_at hl 0 rfl) ?_
                      refine lv_iconst (v := 1) hx hb d_Ma_predefined_102 (by decide) ?_
                      refine lv_iconst (v := 2) hx hb d_Ma_predefined_103 (by decide) ?_
                      obtain ⟨u23, r23, hc23, hf⟩ := bx_some hf
                      obtain ⟨hc23, hz23⟩ := gz_some hc23
                      obtain ⟨hf, hw23⟩ := gw_some hf
                      refine xS0 (As := [.int 2]) (rest := [.int 1, .ref (ad v0)]) C0 hP hD hS (c_Ma_atom N hc23) k_Ma_atom (wd_of 1668 (by decide +kernel) rfl) ht_Ma_atom hini_Ma rfl rfl hd_Ma_atom rfl rm_Ma_predefined_Ma_atom hl.1 (Nat.le_of_ble_eq_true rfl) d_Ma_predefined_104 rfl (hB.fit hm hz23 hw23) (fun H locs hP hD hS => ?_)
                      have hB := hB.same2 hz23
                      obtain ⟨hO9, hf⟩ := ck_some hf
                      obtain ⟨hk24, hf⟩ := ck_some hf
                      obtain ⟨u24, r24, hc24, hf⟩ := bx_some hf
                      obtain ⟨hc24, hq24⟩ := gw_some hc24
                      obtain ⟨hf, hw24⟩ := gw_some hf
                      refine yV (i := v0) (As := [.int 1, .long r23]) (rest := []) C0 hP hD hS ck_Ma hO9 (c_Ma_answer N hE hc24 (gm hq24)) k_Ma_answer (wd_of 1744 (by decide +kernel) rfl) hi_Ma_answer hs_Ma_answer hini_Ma rfl rfl hd_Ma_answer rfl rm_Ma_predefined_Ma_answer hl.1 (Nat.le_of_ble_eq_true rfl) d_Ma_predefined_107 rfl (gm hq24) hB hm hw24 (fun ad24 H locs ce sl hg24 hB hP hD hS => ?_)
                      have q24_0 : ad24 v0 = ad v0 := ko_O (k := 0) hk24 rfl hg24
                      have hl : lv_has ls 2 [(0, .ref (ad24 v0)), (1, .int v1)] := by simp only [q24_0]; exact hl
                      refine lv_goto (tgt := 146) hx hb d_Ma_predefined_110 (by decide) ?_
                      exact wb_Ma_predefined_146 C0 hE N G hG _ _ _ hf hm _ _ _ hB H locs hP hD hS ls (lv_sub hl [0] rfl)
                    · rw [br_n _ hc10] at hf
                      by_cases hc11 : v1 = 11
                      · rw [br_p _ hc11] at hf
                        refine lv_tableIn (tgt := 121) hx hb d_Ma_predefined_1 (by rw [hc11]; decide) (by rw [hc11]; decide) (by rw [hc11]; rfl) (by decide) ?_
                        refine lv_iload_n hx hb d_Ma_predefined_121 rfl (lv_at hl 1 rfl) ?_
                        refine lv_bipush (v := 17) hx hb d_Ma_predefined_122 (by decide) ?_
                        refine lv_icmp_lt (tgt := 141) hx hb d_Ma_predefined_124 (by decide) (fun hc => ?_) (fun hc => ?_)
                        · rw [br_p _ hc] at hf
                          exact wb_Ma_predefined_141 C0 hE N G hG _ _ _ _ hf hm _ _ _ hB H locs hP hD hS ls (lv_sub hl [0, 1] rfl)
                        · rw [br_n _ hc] at hf
                          refine lv_iload_n hx hb d_Ma_predefined_127 rfl (lv_at hl 1 rfl) ?_
                          refine lv_bipush (v := 28) hx hb d_Ma_predefined_128 (by decide) ?_
                          refine lv_icmp_gt (tgt := 141) hx hb d_Ma_predefined_130 (by decide) (fun hc => ?_) (fun hc => ?_)
                          · rw [br_p _ hc] at hf
                            exact wb_Ma_predefined_141 C0 hE N G hG _ _ _ _ hf hm _ _ _ hB H locs hP hD hS ls (lv_sub hl [0, 1] rfl)
                          · rw [br_n _ hc] at hf
                            refine lv_aload_n hx hb d_Ma_predefined_133 rfl (lv_at hl 0 rfl) ?_
                            refine lv_iload_n hx hb d_Ma_predefined_134 rfl (lv_at hl 1 rfl) ?_
                            obtain ⟨hO9, hf⟩ := ck_some hf
                            obtain ⟨hk25, hf⟩ := ck_some hf
                            obtain ⟨u25, r25, hc25, hf⟩ := bx_some hf
                            obtain ⟨hc25, hq25⟩ := gw_some hc25
                            obtain ⟨hf, hw25⟩ := gw_some hf
                            refine yV (i := v0) (As := [.int v1]) (rest := []) C0 hP hD hS ck_Ma hO9 (c_Ma_test N hE hc25 (gm hq25)) k_Ma_test (wd_of 1775 (by decide +kernel) rfl) hi_Ma_test hs_Ma_test hini_Ma rfl rfl hd_Ma_test rfl rm_Ma_predefined_Ma_test hl.1 (Nat.le_of_ble_eq_true rfl) d_Ma_predefined_135 rfl (gm hq25) hB hm hw25 (fun ad25 H locs ce sl hg25 hB hP hD hS => ?_)
                            have q25_0 : ad25 v0 = ad v0 := ko_O (k := 0) hk25 rfl hg25
                            have hl : lv_has ls 2 [(0, .ref (ad25 v0)), (1, .int v1)] := by simp only [q25_0]; exact hl
                            refine lv_goto (tgt := 146) hx hb d_Ma_predefined_138 (by decide) ?_
                            exact wb_Ma_predefined_146 C0 hE N G hG _ _ _ hf hm _ _ _ hB H locs hP hD hS ls (lv_sub hl [0] rfl)
                      · rw [br_n _ hc11] at hf
                        by_cases hc12 : v1 = 12
                        · rw [br_p _ hc12] at hf
                          refine lv_tableIn (tgt := 113) hx hb d_Ma_predefined_1 (by rw [hc12]; decide) (by rw [hc12]; decide) (by rw [hc12]; rfl) (by decide) ?_
                          refine lv_aload_n hx hb d_Ma_predefined_113 rfl (lv_at hl 0 rfl) ?_
                          refine lv_iload_n hx hb d_Ma_predefined_114 rfl (lv_at hl 1 rfl) ?_
                          obtain ⟨hO9, hf⟩ := ck_some hf
                          obtain ⟨hk26, hf⟩ := ck_some hf
                          obtain ⟨u26, r26, hc26, hf⟩ := bx_some hf
                          obtain ⟨hc26, hq26⟩ := gw_some hc26
                          obtain ⟨hf, hw26⟩ := gw_some hf
                          refine yV (i := v0) (As := [.int v1]) (rest := []) C0 hP hD hS ck_Ma hO9 (c_Ma_naming N hE hc26 (gm hq26)) k_Ma_naming (wd_of 1762 (by decide +kernel) rfl) hi_Ma_naming hs_Ma_naming hini_Ma rfl rfl hd_Ma_naming rfl rm_Ma_predefined_Ma_naming hl.1 (Nat.le_of_ble_eq_true rfl) d_Ma_predefined_115 rfl (gm hq26) hB hm hw26 (fun ad26 H locs ce sl hg26 hB hP hD hS => ?_)
                          have q26_0 : ad26 v0 = ad v0 := ko_O (k := 0) hk26 rfl hg26
                          have hl : lv_has ls 2 [(0, .ref (ad26 v0)), (1, .int v1)] := by simp only [q26_0]; exact hl
                          refine lv_goto (tgt := 146) hx hb d_Ma_predefined_118 (by decide) ?_
                          exact wb_Ma_predefined_146 C0 hE N G hG _ _ _ hf hm _ _ _ hB H locs hP hD hS ls (lv_sub hl [0] rfl)
                        · rw [br_n _ hc12] at hf
                          by_cases hc13 : v1 = 13
                          · rw [br_p _ hc13] at hf
                            refine lv_tableIn (tgt := 113) hx hb d_Ma_predefined_1 (by rw [hc13]; decide) (by rw [hc13]; decide) (by rw [hc13]; rfl) (by decide) ?_
                            refine lv_aload_n hx hb d_Ma_predefined_113 rfl (lv_at hl 0 rfl) ?_
                            refine lv_iload_n hx hb d_Ma_predefined_114 rfl (lv_at hl 1 rfl) ?_
                            obtain ⟨hO9, hf⟩ := ck_some hf
                            obtain ⟨hk27, hf⟩ := ck_some hf
                            obtain ⟨u27, r27, hc27, hf⟩ := bx_some hf
                            obtain ⟨hc27, hq27⟩ := gw_some hc27
                            obtain ⟨hf, hw27⟩ := gw_some hf
                            refine yV (i := v0) (As := [.int v1]) (rest := []) C0 hP hD hS ck_Ma hO9 (c_Ma_naming N hE hc27 (gm hq27)) k_Ma_naming (wd_of 1762 (by decide +kernel) rfl) hi_Ma_naming hs_Ma_naming hini_Ma rfl rfl hd_Ma_naming rfl rm_Ma_predefined_Ma_naming hl.1 (Nat.le_of_ble_eq_true rfl) d_Ma_predefined_115 rfl (gm hq27) hB hm hw27 (fun ad27 H locs ce sl hg27 hB hP hD hS => ?_)
                            have q27_0 : ad27 v0 = ad v0 := ko_O (k := 0) hk27 rfl hg27
                            have hl : lv_has ls 2 [(0, .ref (ad27 v0)), (1, .int v1)] := by simp only [q27_0]; exact hl
                            refine lv_goto (tgt := 146) hx hb d_Ma_predefined_118 (by decide) ?_
                            exact wb_Ma_predefined_146 C0 hE N G hG _ _ _ hf hm _ _ _ hB H locs hP hD hS ls (lv_sub hl [0] rfl)
                          · rw [br_n _ hc13] at hf
                            by_cases hc14 : v1 = 14
                            · rw [br_p _ hc14] at hf
                              refine lv_tableIn (tgt := 113) hx hb d_Ma_predefined_1 (by rw [hc14]; decide) (by rw [hc14]; decide) (by rw [hc14]; rfl) (by decide) ?_
                              refine lv_aload_n hx hb d_Ma_predefined_113 rfl (lv_at hl 0 rfl) ?_
                              refine lv_iload_n hx hb d_Ma_predefined_114 rfl (lv_at hl 1 rfl) ?_
                              obtain ⟨hO9, hf⟩ := ck_some hf
                              obtain ⟨hk28, hf⟩ := ck_some hf
                              obtain ⟨u28, r28, hc28, hf⟩ := bx_some hf
                              obtain ⟨hc28, hq28⟩ := gw_some hc28
                              obtain ⟨hf, hw28⟩ := gw_some hf
                              refine yV (i := v0) (As := [.int v1]) (rest := []) C0 hP hD hS ck_Ma hO9 (c_Ma_naming N hE hc28 (gm hq28)) k_Ma_naming (wd_of 1762 (by decide +kernel) rfl) hi_Ma_naming hs_Ma_naming hini_Ma rfl rfl hd_Ma_naming rfl rm_Ma_predefined_Ma_naming hl.1 (Nat.le_of_ble_eq_true rfl) d_Ma_predefined_115 rfl (gm hq28) hB hm hw28 (fun ad28 H locs ce sl hg28 hB hP hD hS => ?_)
                              have q28_0 : ad28 v0 = ad v0 := ko_O (k := 0) hk28 rfl hg28
                              have hl : lv_has ls 2 [(0, .ref (ad28 v0)), (1, .int v1)] := by simp only [q28_0]; exact hl
                              refine lv_goto (tgt := 146) hx hb d_Ma_predefined_118 (by decide) ?_
                              exact wb_Ma_predefined_146 C0 hE N G hG _ _ _ hf hm _ _ _ hB H locs hP hD hS ls (lv_sub hl [0] rfl)
                            · rw [br_n _ hc14] at hf
                              refine lv_tableOut (tgt := 121) hx hb d_Ma_predefined_1 (by have z0 := tiN hc1; have z1 := tiN hc2; have z2 := tiN hc3; have z3 := tiN hc4; have z4 := tiN hc5; have z5 := tiN hc6; have z6 := tiN hc7; have z7 := tiN hc8; have z8 := tiN hc9; have z9 := tiN hc10; have z10 := tiN hc11; have z11 := tiN hc12; have z12 := tiN hc13; have z13 := tiN hc14; rw [show (1 : Int32).toInt = 1 from by decide] at z0; rw [show (2 : Int32).toInt = 2 from by decide] at z1; rw [show (3 : Int32).toInt = 3 from by decide] at z2; rw [show (4 : Int32).toInt = 4 from by decide] at z3; rw [show (5 : Int32).toInt = 5 from by decide] at z4; rw [show (6 : Int32).toInt = 6 from by decide] at z5; rw [show (7 : Int32).toInt = 7 from by decide] at z6; rw [show (8 : Int32).toInt = 8 from by decide] at z7; rw [show (9 : Int32).toInt = 9 from by decide] at z8; rw [show (10 : Int32).toInt = 10 from by decide] at z9; rw [show (11 : Int32).toInt = 11 from by decide] at z10; rw [show (12 : Int32).toInt = 12 from by decide] at z11; rw [show (13 : Int32).toInt = 13 from by decide] at z12; rw [show (14 : Int32).toInt = 14 from by decide] at z13; omega) (by decide) ?_
                              refine lv_iload_n hx hb d_Ma_predefined_121 rfl (lv_at hl 1 rfl) ?_
                              refine lv_bipush (v := 17) hx hb d_Ma_predefined_122 (by decide) ?_
                              refine lv_icmp_lt (tgt := 141) hx hb d_Ma_predefined_124 (by decide) (fun hc => ?_) (fun hc => ?_)
                              · rw [br_p _ hc] at hf
                                exact wb_Ma_predefined_141 C0 hE N G hG _ _ _ _ hf hm _ _ _ hB H locs hP hD hS ls (lv_sub hl [0, 1] rfl)
                              · rw [br_n _ hc] at hf
                                refine lv_iload_n hx hb d_Ma_predefined_127 rfl (lv_at hl 1 rfl) ?_
                                refine lv_bipush (v := 28) hx hb d_Ma_predefined_128 (by decide) ?_
                                refine lv_icmp_gt (tgt := 141) hx hb d_Ma_predefined_130 (by decide) (fun hc => ?_) (fun hc => ?_)
                                · rw [br_p _ hc] at hf
                                  exact wb_Ma_predefined_141 C0 hE N G hG _ _ _ _ hf hm _ _ _ hB H locs hP hD hS ls (lv_sub hl [0, 1] rfl)
                                · rw [br_n _ hc] at hf
                                  refine lv_aload_n hx hb d_Ma_predefined_133 rfl (lv_at hl 0 rfl) ?_
                                  refine lv_iload_n hx hb d_Ma_predefined_134 rfl (lv_at hl 1 rfl) ?_
                                  obtain ⟨hO9, hf⟩ := ck_some hf
                                  obtain ⟨hk29, hf⟩ := ck_some hf
                                  obtain ⟨u29, r29, hc29, hf⟩ := bx_some hf
                                  obtain ⟨hc29, hq29⟩ := gw_some hc29
                                  obtain ⟨hf, hw29⟩ := gw_some hf
                                  refine yV (i := v0) (As := [.int v1]) (rest := []) C0 hP hD hS ck_Ma hO9 (c_Ma_test N hE hc29 (gm hq29)) k_Ma_test (wd_of 1775 (by decide +kernel) rfl) hi_Ma_test hs_Ma_test hini_Ma rfl rfl hd_Ma_test rfl rm_Ma_predefined_Ma_test hl.1 (Nat.le_of_ble_eq_true rfl) d_Ma_predefined_135 rfl (gm hq29) hB hm hw29 (fun ad29 H locs ce sl hg29 hB hP hD hS => ?_)
                                  have q29_0 : ad29 v0 = ad v0 := ko_O (k := 0) hk29 rfl hg29
                                  have hl : lv_has ls 2 [(0, .ref (ad29 v0)), (1, .int v1)] := by simp only [q29_0]; exact hl
                                  refine lv_goto (tgt := 146) hx hb d_Ma_predefined_138 (by decide) ?_
                                  exact wb_Ma_predefined_146 C0 hE N G hG _ _ _ hf hm _ _ _ hB H locs hP hD hS ls (lv_sub hl [0] rfl)
def fm_Ma_predefined (N : Nat) (u : CS) (v0 : Nat) (v1 : Int32) : Option (CS × Unit) := fb_Ma_predefined_0 N () u v0 v1
set_option maxRecDepth 100000 in
set_option maxHeartbeats 4000000 in
theorem c_Ma_predefined (N : Nat) {l : Launch} {s0 : State} {b0 : Nat} {D : va_G} {cB cI cJ cZ cS cP : ClassId} {sk sv : Nat → Nat} {ad : Nat → Nat} {u : CS} {sz mc ms : Nat} {v0 : Nat} {v1 : Int32} {x : CS × Unit} (hE : ENV s0 b0 sk sv) (hf : fm_Ma_predefined N u v0 v1 = some x) (hm : u.1.1 + mc = x.1.1.1 ∧ u.1.2 + ms = x.1.1.2) : Met l y_Ma_predefined (wd_ws y_Ma_predefined b_Ma_predefined 2 none) (rm_Ma_predefined mc ms) (xPc s0 b0 D cB cI cJ cZ cS cP ad u sz [.ref (ad v0), .int v1]) (xQ D cB cI cJ cZ cS cP (xA cB cI cJ cZ cS cP ad u sz) ad u.1.1 x.1 none) mc ms (xA cB cI cJ cZ cS cP ad u sz) :=
  xMet (by decide) rfl (Nat.le_of_ble_eq_true rfl) (fun p e s m below meth c ls hsz hnm C0 hP hD hS hl =>
    wb_Ma_predefined_0 C0 hE N () trivial u _ _ x hf hm ad 0 0 ⟨rfl, rfl, fun _ _ => rfl⟩ s.heap [] hP hD hS ls (lv_sub hl [0, 1] rfl))
abbrev b_Wl_post : ByteArray := prog_12_method_12_code
def y_Wl_post : MethodName := ⟨R_Wl, "post", "(LMailHouse$Process;IIIJLMailHouse$Process;)V"⟩
def w_Wl_post : List Cond := wd_ws y_Wl_post b_Wl_post 14 none
set_option maxRecDepth 100000 in
theorem k_Wl_post : Cond.code y_Wl_post b_Wl_post 14 none ∈ wd_tbl := wd_of 1813 rfl rfl
theorem d_Wl_post_0 : decode b_Wl_post 0 = .ok (.aload_n 1, 1) := by decide +kernel
theorem d_Wl_post_1 : decode b_Wl_post 1 = .ok (.getfield 91, 3) := by decide +kernel
theorem d_Wl_post_4 : decode b_Wl_post 4 = .ok (.iconst 3, 1) := by decide +kernel
theorem d_Wl_post_5 : decode b_Wl_post 5 = .ok (.if_icmp .eq 12, 3) := by decide +kernel
theorem d_Wl_post_8 : decode b_Wl_post 8 = .ok (.aload_n 1, 1) := by decide +kernel
theorem d_Wl_post_9 : decode b_Wl_post 9 = .ok (.getfield 79, 3) := by decide +kernel
theorem d_Wl_post_12 : decode b_Wl_post 12 = .ok (.bipush 30, 2) := by decide +kernel
theorem d_Wl_post_14 : decode b_Wl_post 14 = .ok (.if_icmp .lt 4, 3) := by decide +kernel
theorem d_Wl_post_17 : decode b_Wl_post 17 = .ok (.return_, 1) := by decide +kernel
theorem d_Wl_post_18 : decode b_Wl_post 18 = .ok (.aload 7, 2) := by decide +kernel
theorem d_Wl_post_20 : decode b_Wl_post 20 = .ok (.ifnonnull 7, 3) := by decide +kernel
theorem d_Wl_post_23 : decode b_Wl_post 23 = .ok (.iconst 0, 1) := by decide +kernel
theorem d_Wl_post_24 : decode b_Wl_post 24 = .ok (.goto 17, 3) := by decide +kernel
theorem d_Wl_post_27 : decode b_Wl_post 27 = .ok (.aload_n 0, 1) := by decide +kernel
theorem d_Wl_post_28 : decode b_Wl_post 28 = .ok (.getfield 37, 3) := by decide +kernel
theorem d_Wl_post_31 : decode b_Wl_post 31 = .ok (.aload 7, 2) := by decide +kernel
theorem d_Wl_post_33 : decode b_Wl_post 33 = .ok (.getfield 104, 3) := by decide +kernel
theorem d_Wl_post_36 : decode b_Wl_post 36 = .ok (.lload 5, 2) := by decide +kernel
theorem d_Wl_post_38 : decode b_Wl_post 38 = .ok (.invokevirtual 108, 3) := by decide +kernel
theorem d_Wl_post_41 : decode b_Wl_post 41 = .ok (.istore 8, 2) := by decide +kernel
theorem d_Wl_post_43 : decode b_Wl_post 43 = .ok (.aload_n 1, 1) := by decide +kernel
theorem d_Wl_post_44 : decode b_Wl_post 44 = .ok (.iload_n 2, 1) := by decide +kernel
theorem d_Wl_post_45 : decode b_Wl_post 45 = .ok (.iload 8, 2) := by decide +kernel
theorem d_Wl_post_47 : decode b_Wl_post 47 = .ok (.iadd, 1) := by decide +kernel
theorem d_Wl_post_48 : decode b_Wl_post 48 = .ok (.invokevirtual 112, 3) := by decide +kernel
theorem d_Wl_post_51 : decode b_Wl_post 51 = .ok (.ifCond .ne 11, 3) := by decide +kernel
theorem d_Wl_post_54 : decode b_Wl_post 54 = .ok (.aload_n 0, 1) := by decide +kernel
theorem d_Wl_post_55 : decode b_Wl_post 55 = .ok (.aload_n 1, 1) := by decide +kernel
theorem d_Wl_post_56 : decode b_Wl_post 56 = .ok (.bipush 20, 2) := by decide +kernel
theorem d_Wl_post_58 : decode b_Wl_post 58 = .ok (.invokevirtual 116, 3) := by decide +kernel
theorem d_Wl_post_61 : decode b_Wl_post 61 = .ok (.return_, 1) := by decide +kernel
theorem d_Wl_post_62 : decode b_Wl_post 62 = .ok (.aload 7, 2) := by decide +kernel
theorem d_Wl_post_64 : decode b_Wl_post 64 = .ok (.aload_n 1, 1) := by decide +kernel
theorem d_Wl_post_65 : decode b_Wl_post 65 = .ok (.if_acmp .ne 14, 3) := by decide +kernel
theorem d_Wl_post_68 : decode b_Wl_post 68 = .ok (.aload_n 1, 1) := by decide +kernel
theorem d_Wl_post_69 : decode b_Wl_post 69 = .ok (.getfield 120, 3) := by decide +kernel
theorem d_Wl_post_72 : decode b_Wl_post 72 = .ok (.iconst 0, 1) := by decide +kernel
theorem d_Wl_post_73 : decode b_Wl_post 73 = .ok (.invokevirtual 124, 3) := by decide +kernel
theorem d_Wl_post_76 : decode b_Wl_post 76 = .ok (.goto 5, 3) := by decide +kernel
theorem d_Wl_post_79 : decode b_Wl_post 79 = .ok (.lload 5, 2) := by decide +kernel
theorem d_Wl_post_81 : decode b_Wl_post 81 = .ok (.lstore 9, 2) := by decide +kernel
theorem d_Wl_post_83 : decode b_Wl_post 83 = .ok (.aload_n 1, 1) := by decide +kernel
theorem d_Wl_post_84 : decode b_Wl_post 84 = .ok (.getfield 130, 3) := by decide +kernel
theorem d_Wl_post_87 : decode b_Wl_post 87 = .ok (.istore 11, 2) := by decide +kernel
theorem d_Wl_post_89 : decode b_Wl_post 89 = .ok (.aload_n 1, 1) := by decide +kernel
theorem d_Wl_post_90 : decode b_Wl_post 90 = .ok (.dup, 1) := by decide +kernel
theorem d_Wl_post_91 : decode b_Wl_post 91 = .ok (.getfield 130, 3) := by decide +kernel
theorem d_Wl_post_94 : decode b_Wl_post 94 = .ok (.iload_n 2, 1) := by decide +kernel
theorem d_Wl_post_95 : decode b_Wl_post 95 = .ok (.iadd, 1) := by decide +kernel
theorem d_Wl_post_96 : decode b_Wl_post 96 = .ok (.putfield 130, 3) := by decide +kernel
theorem d_Wl_post_99 : decode b_Wl_post 99 = .ok (.aload 7, 2) := by decide +kernel
theorem d_Wl_post_101 : decode b_Wl_post 101 = .ok (.ifnonnull 8, 3) := by decide +kernel
theorem d_Wl_post_104 : decode b_Wl_post 104 = .ok (.lload 9, 2) := by decide +kernel
theorem d_Wl_post_106 : decode b_Wl_post 106 = .ok (.goto 14, 3) := by decide +kernel
theorem d_Wl_post_109 : decode b_Wl_post 109 = .ok (.aload_n 1, 1) := by decide +kernel
theorem d_Wl_post_110 : decode b_Wl_post 110 = .ok (.aload 7, 2) := by decide +kernel
theorem d_Wl_post_112 : decode b_Wl_post 112 = .ok (.getfield 104, 3) := by decide +kernel
theorem d_Wl_post_115 : decode b_Wl_post 115 = .ok (.lload 9, 2) := by decide +kernel
theorem d_Wl_post_117 : decode b_Wl_post 117 = .ok (.invokevirtual 133, 3) := by decide +kernel
theorem d_Wl_post_120 : decode b_Wl_post 120 = .ok (.lstore 12, 2) := by decide +kernel
theorem d_Wl_post_122 : decode b_Wl_post 122 = .ok (.iload_n 2, 1) := by decide +kernel
theorem d_Wl_post_123 : decode b_Wl_post 123 = .ok (.ifCond .ne 10, 3) := by decide +kernel
theorem d_Wl_post_126 : decode b_Wl_post 126 = .ok (.aload_n 1, 1) := by decide +kernel
theorem d_Wl_post_127 : decode b_Wl_post 127 = .ok (.lload 12, 2) := by decide +kernel
theorem d_Wl_post_129 : decode b_Wl_post 129 = .ok (.invokevirtual 137, 3) := by decide +kernel
theorem d_Wl_post_132 : decode b_Wl_post 132 = .ok (.return_, 1) := by decide +kernel
theorem d_Wl_post_133 : decode b_Wl_post 133 = .ok (.aload_n 1, 1) := by decide +kernel
theorem d_Wl_post_134 : decode b_Wl_post 134 = .ok (.getfield 104, 3) := by decide +kernel
theorem d_Wl_post_137 : decode b_Wl_post 137 = .ok (.iload 11, 2) := by decide +kernel
theorem d_Wl_post_139 : decode b_Wl_post 139 = .ok (.bipush 8, 2) := by decide +kernel
theorem d_Wl_post_141 : decode b_Wl_post 141 = .ok (.iload_n 2, 1) := by decide +kernel
theorem d_Wl_post_142 : decode b_Wl_post 142 = .ok (.iconst 1, 1) := by decide +kernel
theorem d_Wl_post_143 : decode b_Wl_post 143 = .ok (.isub, 1) := by decide +kernel
theorem d_Wl_post_144 : decode b_Wl_post 144 = .ok (.invokestatic 141, 3) := by decide +kernel
theorem d_Wl_post_147 : decode b_Wl_post 147 = .ok (.lastore, 1) := by decide +kernel
theorem d_Wl_post_148 : decode b_Wl_post 148 = .ok (.aload_n 1, 1) := by decide +kernel
theorem d_Wl_post_149 : decode b_Wl_post 149 = .ok (.getfield 104, 3) := by decide +kernel
theorem d_Wl_post_152 : decode b_Wl_post 152 = .ok (.iload 11, 2) := by decide +kernel
theorem d_Wl_post_154 : decode b_Wl_post 154 = .ok (.iconst 1, 1) := by decide +kernel
theorem d_Wl_post_155 : decode b_Wl_post 155 = .ok (.iadd, 1) := by decide +kernel
theorem d_Wl_post_156 : decode b_Wl_post 156 = .ok (.iconst 1, 1) := by decide +kernel
theorem d_Wl_post_157 : decode b_Wl_post 157 = .ok (.iload_n 2, 1) := by decide +kernel
theorem d_Wl_post_158 : decode b_Wl_post 158 = .ok (.iconst 4, 1) := by decide +kernel
theorem d_Wl_post_159 : decode b_Wl_post 159 = .ok (.if_icmp .ne 8, 3) := by decide +kernel
theorem d_Wl_post_162 : decode b_Wl_post 162 = .ok (.bipush 8, 2) := by decide +kernel
theorem d_Wl_post_164 : decode b_Wl_post 164 = .ok (.goto 5, 3) := by decide +kernel
theorem d_Wl_post_167 : decode b_Wl_post 167 = .ok (.bipush 9, 2) := by decide +kernel
theorem d_Wl_post_169 : decode b_Wl_post 169 = .ok (.invokestatic 141, 3) := by decide +kernel
theorem d_Wl_post_172 : decode b_Wl_post 172 = .ok (.lastore, 1) := by decide +kernel
theorem d_Wl_post_173 : decode b_Wl_post 173 = .ok (.iload_n 2, 1) := by decide +kernel
theorem d_Wl_post_174 : decode b_Wl_post 174 = .ok (.iconst 5, 1) := by decide +kernel
theorem d_Wl_post_175 : decode b_Wl_post 175 = .ok (.if_icmp .ne 18, 3) := by decide +kernel
theorem d_Wl_post_178 : decode b_Wl_post 178 = .ok (.aload_n 1, 1) := by decide +kernel
theorem d_Wl_post_179 : decode b_Wl_post 179 = .ok (.getfield 104, 3) := by decide +kernel
theorem d_Wl_post_182 : decode b_Wl_post 182 = .ok (.iload 11, 2) := by decide +kernel
theorem d_Wl_post_184 : decode b_Wl_post 184 = .ok (.iconst 2, 1) := by decide +kernel
theorem d_Wl_post_185 : decode b_Wl_post 185 = .ok (.iadd, 1) := by decide +kernel
theorem d_Wl_post_186 : decode b_Wl_post 186 = .ok (.iconst 2, 1) := by decide +kernel
theorem d_Wl_post_187 : decode b_Wl_post 187 = .ok (.iload 4, 2) := by decide +kernel
theorem d_Wl_post_189 : decode b_Wl_post 189 = .ok (.invokestatic 141, 3) := by decide +kernel
theorem d_Wl_post_192 : decode b_Wl_post 192 = .ok (.lastore, 1) := by decide +kernel
theorem d_Wl_post_193 : decode b_Wl_post 193 = .ok (.aload_n 1, 1) := by decide +kernel
theorem d_Wl_post_194 : decode b_Wl_post 194 = .ok (.getfield 104, 3) := by decide +kernel
theorem d_Wl_post_197 : decode b_Wl_post 197 = .ok (.iload 11, 2) := by decide +kernel
theorem d_Wl_post_199 : decode b_Wl_post 199 = .ok (.iload_n 2, 1) := by decide +kernel
theorem d_Wl_post_200 : decode b_Wl_post 200 = .ok (.iadd, 1) := by decide +kernel
theorem d_Wl_post_201 : decode b_Wl_post 201 = .ok (.iconst 2, 1) := by decide +kernel
theorem d_Wl_post_202 : decode b_Wl_post 202 = .ok (.isub, 1) := by decide +kernel
theorem d_Wl_post_203 : decode b_Wl_post 203 = .ok (.iconst 4, 1) := by decide +kernel
theorem d_Wl_post_204 : decode b_Wl_post 204 = .ok (.iload_n 3, 1) := by decide +kernel
theorem d_Wl_post_205 : decode b_Wl_post 205 = .ok (.invokestatic 141, 3) := by decide +kernel
theorem d_Wl_post_208 : decode b_Wl_post 208 = .ok (.lastore, 1) := by decide +kernel
theorem d_Wl_post_209 : decode b_Wl_post 209 = .ok (.aload_n 1, 1) := by decide +kernel
theorem d_Wl_post_210 : decode b_Wl_post 210 = .ok (.getfield 104, 3) := by decide +kernel
theorem d_Wl_post_213 : decode b_Wl_post 213 = .ok (.iload 11, 2) := by decide +kernel
theorem d_Wl_post_215 : decode b_Wl_post 215 = .ok (.iload_n 2, 1) := by decide +kernel
theorem d_Wl_post_216 : decode b_Wl_post 216 = .ok (.iadd, 1) := by decide +kernel
theorem d_Wl_post_217 : decode b_Wl_post 217 = .ok (.iconst 1, 1) := by decide +kernel
theorem d_Wl_post_218 : decode b_Wl_post 218 = .ok (.isub, 1) := by decide +kernel
theorem d_Wl_post_219 : decode b_Wl_post 219 = .ok (.lload 12, 2) := by decide +kernel
theorem d_Wl_post_221 : decode b_Wl_post 221 = .ok (.lastore, 1) := by decide +kernel
theorem d_Wl_post_222 : decode b_Wl_post 222 = .ok (.aload_n 1, 1) := by decide +kernel
theorem d_Wl_post_223 : decode b_Wl_post 223 = .ok (.iconst 5, 1) := by decide +kernel
theorem d_Wl_post_224 : decode b_Wl_post 224 = .ok (.iload 11, 2) := by decide +kernel
theorem d_Wl_post_226 : decode b_Wl_post 226 = .ok (.invokestatic 141, 3) := by decide +kernel
theorem d_Wl_post_229 : decode b_Wl_post 229 = .ok (.invokevirtual 137, 3) := by decide +kernel
theorem d_Wl_post_232 : decode b_Wl_post 232 = .ok (.return_, 1) := by decide +kernel
set_option maxRecDepth 100000 in
theorem hl_Wl_post : Cond.methodLink R_Wl 151 y_Wl_post ∈ wd_tbl := wd_of 1810 (by decide +kernel) rfl
set_option maxRecDepth 100000 in
theorem hi_Wl_post : Cond.instanceMethod y_Wl_post ∈ wd_tbl := wd_of 1811 (by decide +kernel) rfl
set_option maxRecDepth 100000 in
theorem hs_Wl_post : Cond.selects R_Wl y_Wl_post y_Wl_post ∈ wd_tbl := wd_of 1812 (by decide +kernel) rfl
theorem hd_Wl_post : y_Wl_post.cls = R_Wl ∧ y_Wl_post.cls ≠ "java/lang/invoke/MethodHandle" ∧ y_Wl_post.cls ≠ "java/lang/invoke/VarHandle" ∧ (parseMethodDescriptor y_Wl_post.desc).map (fun d => d.parameters.length) = some 6 := by decide +kernel
def rm_Wl_post : Room := { frames := 3, cells := 0, slots := 0, locals := 97 }
theorem rm_Wl_post_Te_size : (rm_Te_size).frames + 1 ≤ rm_Wl_post.frames ∧ 8 + (11 + 11) + (rm_Te_size).locals ≤ rm_Wl_post.locals := by
  show 1 + 1 ≤ 3 ∧ 8 + (11 + 11) + 24 ≤ 97
  decide
theorem rm_Wl_post_Pr_want : (rm_Pr_want).frames + 1 ≤ rm_Wl_post.frames ∧ 8 + (2 + 11) + (rm_Pr_want).locals ≤ rm_Wl_post.locals := by
  show 2 + 1 ≤ 3 ∧ 8 + (2 + 11) + 76 ≤ 97
  decide
theorem rm_Wl_post_Wl_endsBy : (rm_Wl_endsBy).frames + 1 ≤ rm_Wl_post.frames ∧ 8 + (3 + 11) + (rm_Wl_endsBy).locals ≤ rm_Wl_post.locals := by
  show 1 + 1 ≤ 3 ∧ 8 + (3 + 11) + 24 ≤ 97
  decide
theorem rm_Wl_post_Fr_below : (rm_Fr_below).frames + 1 ≤ rm_Wl_post.frames ∧ 8 + (3 + 11) + (rm_Fr_below).locals ≤ rm_Wl_post.locals := by
  show 0 + 1 ≤ 3 ∧ 8 + (3 + 11) + 0 ≤ 97
  decide
theorem rm_Wl_post_Pr_copyIn : (rm_Pr_copyIn).frames + 1 ≤ rm_Wl_post.frames ∧ 8 + (13 + 11) + (rm_Pr_copyIn).locals ≤ rm_Wl_post.locals := by
  show 1 + 1 ≤ 3 ∧ 8 + (13 + 11) + 48 ≤ 97
  decide
theorem rm_Wl_post_Pr_comes : (rm_Pr_comes).frames + 1 ≤ rm_Wl_post.frames ∧ 8 + (3 + 11) + (rm_Pr_comes).locals ≤ rm_Wl_post.locals := by
  show 0 + 1 ≤ 3 ∧ 8 + (3 + 11) + 0 ≤ 97
  decide
theorem rm_Wl_post_Te_make : (rm_Te_make).frames + 1 ≤ rm_Wl_post.frames ∧ 8 + (2 + 11) + (rm_Te_make).locals ≤ rm_Wl_post.locals := by
  show 0 + 1 ≤ 3 ∧ 8 + (2 + 11) + 0 ≤ 97
  decide
def fb_Wl_post_193 (N : Nat) (G : Unit) (u : CS) (v1 : Option Nat) (v2 : Int32) (v3 : Int32) (v11 : Int32) (v12 : Int64) : Option (CS × Unit) := bo v1 (fun j1 => bo (gR u j1 7 2) (fun r2 => bx (fm_Te_make N u 4 v3) (fun u3 r3 => bo r2 (fun j4 => bo (sJ u3 j4 ((v11 + v2) - 2) r3) (fun w5 => bo v1 (fun j6 => bo (gR w5 j6 7 2) (fun r7 => bo r7 (fun j8 => bo (sJ w5 j8 ((v11 + v2) - 1) v12) (fun w9 => bx (fm_Te_make N w9 5 v11) (fun u10 r10 => bo v1 (fun j12 => ck (isO u10 j12 7) (bx (fm_Pr_comes N u10 j12 r10) (fun u11 r11 => some (u11, ()))))))))))))))
set_option maxRecDepth 100000 in
set_option maxHeartbeats 4000000 in
theorem wb_Wl_post_193 {p : Program} {l : Launch} {e : Env} {s : State} {m : MethodId} {args : Array Value} {below : List Frame} {meth : Method} {c : Code} {s0 : State} {b0 : Nat} {D : va_G} {cB cI cJ cZ cS cP : ClassId} {A : Nat → Prop} {sk sv : Nat → Nat} {ad : Nat → Nat} (C0 : XCx p s s0 b0 m args meth c R_Wl b_Wl_post 14 none D cB cI cJ cZ cS cP A) (hE : ENV s0 b0 sk sv) (N : Nat) (G : Unit) (hG : True) : ∀ (u : CS) (v1 : Option Nat) (v2 : Int32) (v3 : Int32) (v11 : Int32) (v12 : Int64) (x : CS × Unit), fb_Wl_post_193 N G u v1 v2 v3 v11 v12 = some x → ∀ (H : Heap) (locs : List Loc), va_P D cls (wC cB cI cJ cZ cS cP ad u) H → va_D A (wC cB cI cJ cZ cS cP ad u) → va_S A s.heap H locs → ∀ (ls : Array Slot), lv_has ls 14 [(1, va_rf (Option.map ad v1)), (2, .int v2), (3, .int v3), (11, .int v11), (12, .long v12)] → W p l e rm_Wl_post s m args below meth c H locs 0 0 (MQ below (xQ0 D cB cI cJ cZ cS cP A ad x.1 none) args s 0 0 A) (F0 m 193 ls []) := by
  intro u v1 v2 v3 v11 v12 x hf H locs hP hD hS ls hl
  obtain ⟨hx, hb, hr, hml, ht, hown, hK, hA, hlocks, hA0, hO, hbs⟩ := id C0
  unfold fb_Wl_post_193 at hf
  refine x_aload_n hx hb d_Wl_post_193 rfl (lv_at hl 0 rfl) ?_
  obtain ⟨j1, ej1, hf⟩ := bo_some hf
  rw [ej1]
  obtain ⟨r2, g2, hf⟩ := bo_some hf
  refine xg_R (i := j1) (k := 2) hx hb ht hown ck_Pr hK hP (by decide) fk_Wl_104 g2 d_Wl_post_194 ?_
  refine lv_iload hx hb d_Wl_post_197 (lv_at hl 3 rfl) ?_
  refine lv_iload_n hx hb d_Wl_post_199 rfl (lv_at hl 1 rfl) ?_
  refine lv_iadd hx hb d_Wl_post_200 ?_
  refine lv_iconst (v := 2) hx hb d_Wl_post_201 (by decide) ?_
  refine lv_isub hx hb d_Wl_post_202 ?_
  refine lv_iconst (v := 4) hx hb d_Wl_post_203 (by decide) ?_
  refine lv_iload_n hx hb d_Wl_post_204 rfl (lv_at hl 2 rfl) ?_
  obtain ⟨u3, r3, hc3, hf⟩ := bx_some hf
  refine xS0 (As := [.int 4, .int v3]) (rest := [.int ((v11 + v2) - 2), va_rf (Option.map ad r2)]) C0 hP hD hS (c_Te_make N hc3) k_Te_make (wd_of 1739 (by decide +kernel) rfl) ht_Te_make hini_Te rfl rfl hd_Te_make rfl rm_Wl_post_Te_make hl.1 (c8 (Nat.le_of_ble_eq_true rfl)) d_Wl_post_205 rfl ⟨Nat.zero_le _, Nat.zero_le _⟩ (fun H locs hP hD hS => ?_)
  obtain ⟨j4, ej4, hf⟩ := bo_some hf
  rw [ej4]
  obtain ⟨w5, g5, hf⟩ := bo_some hf
  refine xs_J (i := j4) hx hb hK hP hD hS g5 d_Wl_post_208 (fun H locs hP hD hS => ?_)
  refine x_aload_n hx hb d_Wl_post_209 rfl (lv_at hl 0 rfl) ?_
  obtain ⟨j6, ej6, hf⟩ := bo_some hf
  rw [ej6]
  obtain ⟨r7, g7, hf⟩ := bo_some hf
  refine xg_R (i := j6) (k := 2) hx hb ht hown ck_Pr hK hP (by decide) fk_Wl_104 g7 d_Wl_post_210 ?_
  refine lv_iload hx hb d_Wl_post_213 (lv_at hl 3 rfl) ?_
  refine lv_iload_n hx hb d_Wl_post_215 rfl (lv_at hl 1 rfl) ?_
  refine lv_iadd hx hb d_Wl_post_216 ?_
  refine lv_iconst (v := 1) hx hb d_Wl_post_217 (by decide) ?_
  refine lv_isub hx hb d_Wl_post_218 ?_
  refine lv_lload hx hb d_Wl_post_219 (lv_at hl 4 rfl) ?_
  obtain ⟨j8, ej8, hf⟩ := bo_some hf
  rw [ej8]
  obtain ⟨w9, g9, hf⟩ := bo_some hf
  refine xs_J (i := j8) hx hb hK hP hD hS g9 d_Wl_post_221 (fun H locs hP hD hS => ?_)
  refine x_aload_n hx hb d_Wl_post_222 rfl (lv_at hl 0 rfl) ?_
  refine lv_iconst (v := 5) hx hb d_Wl_post_223 (by decide) ?_
  refine lv_iload hx hb d_Wl_post_224 (lv_at hl 3 rfl) ?_
  obtain ⟨u10, r10, hc10, hf⟩ := bx_some hf
  refine xS0 (As := [.int 5, .int v11]) (rest := [va_rf (Option.map ad v1)]) C0 hP hD hS (c_Te_make N hc10) k_Te_make (wd_of 1739 (by decide +kernel) rfl) ht_Te_make hini_Te rfl rfl hd_Te_make rfl rm_Wl_post_Te_make hl.1 (c8 (Nat.le_of_ble_eq_true rfl)) d_Wl_post_226 rfl ⟨Nat.zero_le _, Nat.zero_le _⟩ (fun H locs hP hD hS => ?_)
  obtain ⟨j12, ej12, hf⟩ := bo_some hf
  rw [ej12]
  obtain ⟨hO9, hf⟩ := ck_some hf
  obtain ⟨u11, r11, hc11, hf⟩ := bx_some hf
  refine xV0 (i := j12) (As := [.long r10]) (rest := []) C0 hP hD hS ck_Pr hO9 (c_Pr_comes N hc11) k_Pr_comes (wd_of 1819 (by decide +kernel) rfl) hi_Pr_comes hs_Pr_comes hini_Pr rfl rfl hd_Pr_comes rfl rm_Wl_post_Pr_comes hl.1 (Nat.le_of_ble_eq_true rfl) d_Wl_post_229 rfl ⟨Nat.zero_le _, Nat.zero_le _⟩ (fun H locs hP hD hS => ?_)
  exact xr0_v C0 hP hD hS hf d_Wl_post_232
def fb_Wl_post_169 (N : Nat) (G : Unit) (u : CS) (v1 : Option Nat) (v2 : Int32) (v3 : Int32) (v4 : Int32) (v11 : Int32) (v12 : Int64) (t0 : Option Nat) (t1 : Int32) (t2 : Int32) (t3 : Int32) : Option (CS × Unit) := bx (fm_Te_make N u t2 t3) (fun u13 r13 => bo t0 (fun j14 => bo (sJ u13 j14 t1 r13) (fun w15 => br (decide (v2 = 5)) (bo v1 (fun j16 => bo (gR w15 j16 7 2) (fun r17 => bx (fm_Te_make N w15 2 v4) (fun u18 r18 => bo r17 (fun j19 => bo (sJ u18 j19 (v11 + 2) r18) (fun w20 => fb_Wl_post_193 N G w20 (v1) (v2) (v3) (v11) (v12))))))) (fb_Wl_post_193 N G w15 (v1) (v2) (v3) (v11) (v12)))))
set_option maxRecDepth 100000 in
set_option maxHeartbeats 4000000 in
theorem wb_Wl_post_169 {p : Program} {l : Launch} {e : Env} {s : State} {m : MethodId} {args : Array Value} {below : List Frame} {meth : Method} {c : Code} {s0 : State} {b0 : Nat} {D : va_G} {cB cI cJ cZ cS cP : ClassId} {A : Nat → Prop} {sk sv : Nat → Nat} {ad : Nat → Nat} (C0 : XCx p s s0 b0 m args meth c R_Wl b_Wl_post 14 none D cB cI cJ cZ cS cP A) (hE : ENV s0 b0 sk sv) (N : Nat) (G : Unit) (hG : True) : ∀ (u : CS) (v1 : Option Nat) (v2 : Int32) (v3 : Int32) (v4 : Int32) (v11 : Int32) (v12 : Int64) (t0 : Option Nat) (t1 : Int32) (t2 : Int32) (t3 : Int32) (x : CS × Unit), fb_Wl_post_169 N G u v1 v2 v3 v4 v11 v12 t0 t1 t2 t3 = some x → ∀ (H : Heap) (locs : List Loc), va_P D cls (wC cB cI cJ cZ cS cP ad u) H → va_D A (wC cB cI cJ cZ cS cP ad u) → va_S A s.heap H locs → ∀ (ls : Array Slot), lv_has ls 14 [(1, va_rf (Option.map ad v1)), (2, .int v2), (3, .int v3), (4, .int v4), (11, .int v11), (12, .long v12)] → W p l e rm_Wl_post s m args below meth c H locs 0 0 (MQ below (xQ0 D cB cI cJ cZ cS cP A ad x.1 none) args s 0 0 A) (F0 m 169 ls [.int t3, .int t2, .int t1, va_rf (Option.map ad t0)]) := by
  intro u v1 v2 v3 v4 v11 v12 t0 t1 t2 t3 x hf H locs hP hD hS ls hl
  obtain ⟨hx, hb, hr, hml, ht, hown, hK, hA, hlocks, hA0, hO, hbs⟩ := id C0
  unfold fb_Wl_post_169 at hf
  obtain ⟨u13, r13, hc13, hf⟩ := bx_some hf
  refine xS0 (As := [.int t2, .int t3]) (rest := [.int t1, va_rf (Option.map ad t0)]) C0 hP hD hS (c_Te_make N hc13) k_Te_make (wd_of 1739 (by decide +kernel) rfl) ht_Te_make hini_Te rfl rfl hd_Te_make rfl rm_Wl_post_Te_make hl.1 (c8 (Nat.le_of_ble_eq_true rfl)) d_Wl_post_169 rfl ⟨Nat.zero_le _, Nat.zero_le _⟩ (fun H locs hP hD hS => ?_)
  obtain ⟨j14, ej14, hf⟩ := bo_some hf
  rw [ej14]
  obtain ⟨w15, g15, hf⟩ := bo_some hf
  refine xs_J (i := j14) hx hb hK hP hD hS g15 d_Wl_post_172 (fun H locs hP hD hS => ?_)
  refine lv_iload_n hx hb d_Wl_post_173 rfl (lv_at hl 1 rfl) ?_
  refine lv_iconst (v := 5) hx hb d_Wl_post_174 (by decide) ?_
  refine lv_icmp_ne (tgt := 193) hx hb d_Wl_post_175 (by decide) (fun hc => ?_) (fun hc => ?_)
  · rw [br_n _ hc] at hf
    exact wb_Wl_post_193 C0 hE N G hG _ _ _ _ _ _ _ hf H locs hP hD hS ls (lv_sub hl [0, 1, 2, 4, 5] rfl)
  · rw [br_p _ hc] at hf
    refine x_aload_n hx hb d_Wl_post_178 rfl (lv_at hl 0 rfl) ?_
    obtain ⟨j16, ej16, hf⟩ := bo_some hf
    rw [ej16]
    obtain ⟨r17, g17, hf⟩ := bo_some hf
    refine xg_R (i := j16) (k := 2) hx hb ht hown ck_Pr hK hP (by decide) fk_Wl_104 g17 d_Wl_post_179 ?_
    refine lv_iload hx hb d_Wl_post_182 (lv_at hl 4 rfl) ?_
    refine lv_iconst (v := 2) hx hb d_Wl_post_184 (by decide) ?_
    refine lv_iadd hx hb d_Wl_post_185 ?_
    refine lv_iconst (v := 2) hx hb d_Wl_post_186 (by decide) ?_
    refine lv_iload hx hb d_Wl_post_187 (lv_at hl 3 rfl) ?_
    obtain ⟨u18, r18, hc18, hf⟩ := bx_some hf
    refine xS0 (As := [.int 2, .int v4]) (rest := [.int (v11 + 2), va_rf (Option.map ad r17)]) C0 hP hD hS (c_Te_make N hc18) k_Te_make (wd_of 1739 (by decide +kernel) rfl) ht_Te_make hini_Te rfl rfl hd_Te_make rfl rm_Wl_post_Te_make hl.1 (c8 (Nat.le_of_ble_eq_true rfl)) d_Wl_post_189 rfl ⟨Nat.zero_le _, Nat.zero_le _⟩ (fun H locs hP hD hS => ?_)
    obtain ⟨j19, ej19, hf⟩ := bo_some hf
    rw [ej19]
    obtain ⟨w20, g20, hf⟩ := bo_some hf
    refine xs_J (i := j19) hx hb hK hP hD hS g20 d_Wl_post_192 (fun H locs hP hD hS => ?_)
    exact wb_Wl_post_193 C0 hE N G hG _ _ _ _ _ _ _ hf H locs hP hD hS ls (lv_sub hl [0, 1, 2, 4, 5] rfl)
def fb_Wl_post_120 (N : Nat) (G : Unit) (u : CS) (v1 : Option Nat) (v2 : Int32) (v3 : Int32) (v4 : Int32) (v11 : Int32) (t0 : Int64) : Option (CS × Unit) := br (decide (v2 = 0)) (bo v1 (fun j29 => ck (isO u j29 7) (bx (fm_Pr_comes N u j29 t0) (fun u28 r28 => some (u28, ()))))) (bo v1 (fun j21 => bo (gR u j21 7 2) (fun r22 => bx (fm_Te_make N u 8 (v2 - 1)) (fun u23 r23 => bo r22 (fun j24 => bo (sJ u23 j24 v11 r23) (fun w25 => bo v1 (fun j26 => bo (gR w25 j26 7 2) (fun r27 => br (decide (v2 = 4)) (fb_Wl_post_169 N G w25 (v1) (v2) (v3) (v4) (v11) (t0) (r27) ((v11 + 1)) (1) (8)) (fb_Wl_post_169 N G w25 (v1) (v2) (v3) (v4) (v11) (t0) (r27) ((v11 + 1)) (1) (9))))))))))
set_option maxRecDepth 100000 in
set_option maxHeartbeats 4000000 in
theorem wb_Wl_post_120 {p : Program} {l : Launch} {e : Env} {s : State} {m : MethodId} {args : Array Value} {below : List Frame} {meth : Method} {c : Code} {s0 : State} {b0 : Nat} {D : va_G} {cB cI cJ cZ cS cP : ClassId} {A : Nat → Prop} {sk sv : Nat → Nat} {ad : Nat → Nat} (C0 : XCx p s s0 b0 m args meth c R_Wl b_Wl_post 14 none D cB cI cJ cZ cS cP A) (hE : ENV s0 b0 sk sv) (N : Nat) (G : Unit) (hG : True) : ∀ (u : CS) (v1 : Option Nat) (v2 : Int32) (v3 : Int32) (v4 : Int32) (v11 : Int32) (t0 : Int64) (x : CS × Unit), fb_Wl_post_120 N G u v1 v2 v3 v4 v11 t0 = some x → ∀ (H : Heap) (locs : List Loc), va_P D cls (wC cB cI cJ cZ cS cP ad u) H → va_D A (wC cB cI cJ cZ cS cP ad u) → va_S A s.heap H locs → ∀ (ls : Array Slot), lv_has ls 14 [(1, va_rf (Option.map ad v1)), (2, .int v2), (3, .int v3), (4, .int v4), (11, .int v11)] → W p l e rm_Wl_post s m args below meth c H locs 0 0 (MQ below (xQ0 D cB cI cJ cZ cS cP A ad x.1 none) args s 0 0 A) (F0 m 120 ls [.long t0]) := by
  intro u v1 v2 v3 v4 v11 t0 x hf H locs hP hD hS ls hl
  obtain ⟨hx, hb, hr, hml, ht, hown, hK, hA, hlocks, hA0, hO, hbs⟩ := id C0
  unfold fb_Wl_post_120 at hf
  refine lv_lstore (lv' := [(12, .long t0), (1, va_rf (Option.map ad v1)), (2, .int v2), (3, .int v3), (4, .int v4), (11, .int v11)]) hx hb d_Wl_post_120 hl (by decide) (by first | rfl | simp [List.filter, cat_rf]) (fun ls hl => ?_)
  refine lv_iload_n hx hb d_Wl_post_122 rfl (lv_at hl 2 rfl) ?_
  refine lv_if_ne (tgt := 133) hx hb d_Wl_post_123 (by decide) (fun hc => ?_) (fun hc => ?_)
  · rw [br_n _ hc] at hf
    refine x_aload_n hx hb d_Wl_post_133 rfl (lv_at hl 1 rfl) ?_
    obtain ⟨j21, ej21, hf⟩ := bo_some hf
    rw [ej21]
    obtain ⟨r22, g22, hf⟩ := bo_some hf
    refine xg_R (i := j21) (k := 2) hx hb ht hown ck_Pr hK hP (by decide) fk_Wl_104 g22 d_Wl_post_134 ?_
    refine lv_iload hx hb d_Wl_post_137 (lv_at hl 5 rfl) ?_
    refine lv_bipush (v := 8) hx hb d_Wl_post_139 (by decide) ?_
    refine lv_iload_n hx hb d_Wl_post_141 rfl (lv_at hl 2 rfl) ?_
    refine lv_iconst (v := 1) hx hb d_Wl_post_142 (by decide) ?_
    refine lv_isub hx hb d_Wl_post_143 ?_
    obtain ⟨u23, r23, hc23, hf⟩ := bx_some hf
    refine xS0 (As := [.int 8, .int (v2 - 1)]) (rest := [.int v11, va_rf (Option.map ad r22)]) C0 hP hD hS (c_Te_make N hc23) k_Te_make (wd_of 1739 (by decide +kernel) rfl) ht_Te_make hini_Te rfl rfl hd_Te_make rfl rm_Wl_post_Te_make hl.1 (c8 (Nat.le_of_ble_eq_true rfl)) d_Wl_post_144 rfl ⟨Nat.zero_le _, Nat.zero_le _⟩ (fun H locs hP hD hS => ?_)
    obtain ⟨j24, ej24, hf⟩ := bo_some hf
    rw [ej24]
    obtain ⟨w25, g25, hf⟩ := bo_some hf
    refine xs_J (i := j24) hx hb hK hP hD hS g25 d_Wl_post_147 (fun H locs hP hD hS => ?_)
    refine x_aload_n hx hb d_Wl_post_148 rfl (lv_at hl 1 rfl) ?_
    obtain ⟨j26, ej26, hf⟩ := bo_some hf
    rw [ej26]
    obtain ⟨r27, g27, hf⟩ := bo_some hf
    refine xg_R (i := j26) (k := 2) hx hb ht hown ck_Pr hK hP (by decide) fk_Wl_104 g27 d_Wl_post_149 ?_
    refine lv_iload hx hb d_Wl_post_152 (lv_at hl 5 rfl) ?_
    refine lv_iconst (v := 1) hx hb d_Wl_post_154 (by decide) ?_
    refine lv_iadd hx hb d_Wl_post_155 ?_
    refine lv_iconst (v := 1) hx hb d_Wl_post_156 (by decide) ?_
    refine lv_iload_n hx hb d_Wl_post_157 rfl (lv_at hl 2 rfl) ?_
    refine lv_iconst (v := 4) hx hb d_Wl_post_158 (by decide) ?_
    refine lv_icmp_ne (tgt := 167) hx hb d_Wl_post_159 (by decide) (fun hc => ?_) (fun hc => ?_)
    · rw [br_n _ hc] at hf
      refine lv_bipush (v := 9) hx hb d_Wl_post_167 (by decide) ?_
      exact wb_Wl_post_169 C0 hE N G hG _ _ _ _ _ _ _ _ _ _ _ _ hf H locs hP hD hS ls (lv_sub hl [1, 2, 3, 4, 5, 0] rfl)
    · rw [br_p _ hc] at hf
      refine lv_bipush (v := 8) hx hb d_Wl_post_162 (by decide) ?_
      refine lv_goto (tgt := 169) hx hb d_Wl_post_164 (by decide) ?_
      exact wb_Wl_post_169 C0 hE N G hG _ _ _ _ _ _ _ _ _ _ _ _ hf H locs hP hD hS ls (lv_sub hl [1, 2, 3, 4, 5, 0] rfl)
  · rw [br_p _ hc] at hf
    refine x_aload_n hx hb d_Wl_post_126 rfl (lv_at hl 1 rfl) ?_
    refine lv_lload hx hb d_Wl_post_127 (lv_at hl 0 rfl) ?_
    obtain ⟨j29, ej29, hf⟩ := bo_some hf
    rw [ej29]
    obtain ⟨hO9, hf⟩ := ck_some hf
    obtain ⟨u28, r28, hc28, hf⟩ := bx_some hf
    refine xV0 (i := j29) (As := [.long t0]) (rest := []) C0 hP hD hS ck_Pr hO9 (c_Pr_comes N hc28) k_Pr_comes (wd_of 1819 (by decide +kernel) rfl) hi_Pr_comes hs_Pr_comes hini_Pr rfl rfl hd_Pr_comes rfl rm_Wl_post_Pr_comes hl.1 (Nat.le_of_ble_eq_true rfl) d_Wl_post_129 rfl ⟨Nat.zero_le _, Nat.zero_le _⟩ (fun H locs hP hD hS => ?_)
    exact xr0_v C0 hP hD hS hf d_Wl_post_132
def fb_Wl_post_81 (N : Nat) (G : Unit) (u : CS) (v1 : Option Nat) (v2 : Int32) (v3 : Int32) (v4 : Int32) (v7 : Option Nat) (t0 : Int64) : Option (CS × Unit) := bo v1 (fun j30 => bo (gI u j30 7 4) (fun r31 => bo v1 (fun j32 => bo (gI u j32 7 4) (fun r33 => bo (pF u j32 7 4 (.inl (r33 + v2))) (fun w34 => br (decide (v7 = none)) (fb_Wl_post_120 N G w34 (v1) (v2) (v3) (v4) (r31) (t0)) (bo v7 (fun j35 => bo (gR w34 j35 7 2) (fun r36 => bo v1 (fun j38 => ck (isO w34 j38 7) (bx (fm_Pr_copyIn N w34 j38 r36 t0) (fun u37 r37 => fb_Wl_post_120 N G u37 (v1) (v2) (v3) (v4) (r31) (r37))))))))))))
set_option maxRecDepth 100000 in
set_option maxHeartbeats 4000000 in
theorem wb_Wl_post_81 {p : Program} {l : Launch} {e : Env} {s : State} {m : MethodId} {args : Array Value} {below : List Frame} {meth : Method} {c : Code} {s0 : State} {b0 : Nat} {D : va_G} {cB cI cJ cZ cS cP : ClassId} {A : Nat → Prop} {sk sv : Nat → Nat} {ad : Nat → Nat} (C0 : XCx p s s0 b0 m args meth c R_Wl b_Wl_post 14 none D cB cI cJ cZ cS cP A) (hE : ENV s0 b0 sk sv) (N : Nat) (G : Unit) (hG : True) : ∀ (u : CS) (v1 : Option Nat) (v2 : Int32) (v3 : Int32) (v4 : Int32) (v7 : Option Nat) (t0 : Int64) (x : CS × Unit), fb_Wl_post_81 N G u v1 v2 v3 v4 v7 t0 = some x → ∀ (H : Heap) (locs : List Loc), va_P D cls (wC cB cI cJ cZ cS cP ad u) H → va_D A (wC cB cI cJ cZ cS cP ad u) → va_S A s.heap H locs → ∀ (ls : Array Slot), lv_has ls 14 [(1, va_rf (Option.map ad v1)), (2, .int v2), (3, .int v3), (4, .int v4), (7, va_rf (Option.map ad v7))] → W p l e rm_Wl_post s m args below meth c H locs 0 0 (MQ below (xQ0 D cB cI cJ cZ cS cP A ad x.1 none) args s 0 0 A) (F0 m 81 ls [.long t0]) := by
  intro u v1 v2 v3 v4 v7 t0 x hf H locs hP hD hS ls hl
  obtain ⟨hx, hb, hr, hml, ht, hown, hK, hA, hlocks, hA0, hO, hbs⟩ := id C0
  unfold fb_Wl_post_81 at hf
  refine lv_lstore (lv' := [(9, .long t0), (1, va_rf (Option.map ad v1)), (2, .int v2), (3, .int v3), (4, .int v4), (7, va_rf (Option.map ad v7))]) hx hb d_Wl_post_81 hl (by decide) (by first | rfl | simp [List.filter, cat_rf]) (fun ls hl => ?_)
  refine x_aload_n hx hb d_Wl_post_83 rfl (lv_at hl 1 rfl) ?_
  obtain ⟨j30, ej30, hf⟩ := bo_some hf
  rw [ej30]
  obtain ⟨r31, g31, hf⟩ := bo_some hf
  refine xg_I (i := j30) (k := 4) hx hb ht hown ck_Pr hK hP (by decide) fk_Wl_130 g31 d_Wl_post_84 ?_
  refine lv_istore (lv' := [(11, .int r31), (9, .long t0), (1, va_rf (Option.map ad v1)), (2, .int v2), (3, .int v3), (4, .int v4), (7, va_rf (Option.map ad v7))]) hx hb d_Wl_post_87 hl (by decide) (by first | rfl | simp [List.filter, cat_rf]) (fun ls hl => ?_)
  refine x_aload_n hx hb d_Wl_post_89 rfl (lv_at hl 2 rfl) ?_
  refine lv_dup hx hb d_Wl_post_90 (cat_rf _) ?_
  obtain ⟨j32, ej32, hf⟩ := bo_some hf
  rw [ej32]
  obtain ⟨r33, g33, hf⟩ := bo_some hf
  refine xg_I (i := j32) (k := 4) hx hb ht hown ck_Pr hK hP (by decide) fk_Wl_130 g33 d_Wl_post_91 ?_
  refine lv_iload_n hx hb d_Wl_post_94 rfl (lv_at hl 3 rfl) ?_
  refine lv_iadd hx hb d_Wl_post_95 ?_
  obtain ⟨w34, g34, hf⟩ := bo_some hf
  refine xp (i := j32) (k := 4) (v := (.inl (r33 + v2))) hx hb ht hown ck_Pr hK hP hD hS (by decide) fk_Wl_130 rfl g34 rfl rfl d_Wl_post_96 (fun H locs hP hD hS => ?_)
  refine x_aload hx hb d_Wl_post_99 (lv_at hl 6 rfl) ?_
  refine x_ifnonnull (r := v7) (tgt := 109) hx hb d_Wl_post_101 (by decide) (fun hc => ?_) (fun hc => ?_)
  · rw [br_n _ hc] at hf
    refine x_aload_n hx hb d_Wl_post_109 rfl (lv_at hl 2 rfl) ?_
    refine x_aload hx hb d_Wl_post_110 (lv_at hl 6 rfl) ?_
    obtain ⟨j35, ej35, hf⟩ := bo_some hf
    rw [ej35]
    obtain ⟨r36, g36, hf⟩ := bo_some hf
    refine xg_R (i := j35) (k := 2) hx hb ht hown ck_Pr hK hP (by decide) fk_Wl_104 g36 d_Wl_post_112 ?_
    refine lv_lload hx hb d_Wl_post_115 (lv_at hl 1 rfl) ?_
    obtain ⟨j38, ej38, hf⟩ := bo_some hf
    rw [ej38]
    obtain ⟨hO9, hf⟩ := ck_some hf
    obtain ⟨u37, r37, hc37, hf⟩ := bx_some hf
    refine xV0 (i := j38) (As := [va_rf (Option.map ad r36), .long t0]) (rest := []) C0 hP hD hS ck_Pr hO9 (c_Pr_copyIn N hE hc37) k_Pr_copyIn (wd_of 1818 (by decide +kernel) rfl) hi_Pr_copyIn hs_Pr_copyIn hini_Pr rfl rfl hd_Pr_copyIn rfl rm_Wl_post_Pr_copyIn hl.1 (Nat.le_of_ble_eq_true rfl) d_Wl_post_117 rfl ⟨Nat.zero_le _, Nat.zero_le _⟩ (fun H locs hP hD hS => ?_)
    exact wb_Wl_post_120 C0 hE N G hG _ _ _ _ _ _ _ _ hf H locs hP hD hS ls (lv_sub hl [2, 3, 4, 5, 0] rfl)
  · rw [br_p _ hc] at hf
    refine lv_lload hx hb d_Wl_post_104 (lv_at hl 1 rfl) ?_
    refine lv_goto (tgt := 120) hx hb d_Wl_post_106 (by decide) ?_
    exact wb_Wl_post_120 C0 hE N G hG _ _ _ _ _ _ _ _ hf H locs hP hD hS ls (lv_sub hl [2, 3, 4, 5, 0] rfl)
def fb_Wl_post_41 (N : Nat) (G : Unit) (u : CS) (v0 : Nat) (v1 : Option Nat) (v2 : Int32) (v3 : Int32) (v4 : Int32) (v5 : Int64) (v7 : Option Nat) (t0 : Int32) : Option (CS × Unit) := bo v1 (fun j40 => ck (isO u j40 7) (bx (fm_Pr_want N u j40 (v2 + t0)) (fun u39 r39 => br (decide (r39 = 0)) (ck (isO u39 v0 12) (bx (fm_Wl_endsBy N u39 v0 v1 20) (fun u45 r45 => some (u45, ())))) (ck (okR u39.1.1 v7) (ck (okR u39.1.1 v1) (br (decide (v7 = v1)) (bo v1 (fun j41 => bo (gR u39 j41 7 1) (fun r42 => bo r42 (fun j44 => ck (isO u39 j44 4) (bx (fm_Fr_below N u39 j44 0) (fun u43 r43 => fb_Wl_post_81 N G u43 (v1) (v2) (v3) (v4) (v7) (r43))))))) (fb_Wl_post_81 N G u39 (v1) (v2) (v3) (v4) (v7) (v5))))))))
set_option maxRecDepth 100000 in
set_option maxHeartbeats 4000000 in
theorem wb_Wl_post_41 {p : Program} {l : Launch} {e : Env} {s : State} {m : MethodId} {args : Array Value} {below : List Frame} {meth : Method} {c : Code} {s0 : State} {b0 : Nat} {D : va_G} {cB cI cJ cZ cS cP : ClassId} {A : Nat → Prop} {sk sv : Nat → Nat} {ad : Nat → Nat} (C0 : XCx p s s0 b0 m args meth c R_Wl b_Wl_post 14 none D cB cI cJ cZ cS cP A) (hE : ENV s0 b0 sk sv) (N : Nat) (G : Unit) (hG : True) : ∀ (u : CS) (v0 : Nat) (v1 : Option Nat) (v2 : Int32) (v3 : Int32) (v4 : Int32) (v5 : Int64) (v7 : Option Nat) (t0 : Int32) (x : CS × Unit), fb_Wl_post_41 N G u v0 v1 v2 v3 v4 v5 v7 t0 = some x → ∀ (H : Heap) (locs : List Loc), va_P D cls (wC cB cI cJ cZ cS cP ad u) H → va_D A (wC cB cI cJ cZ cS cP ad u) → va_S A s.heap H locs → ∀ (ls : Array Slot), lv_has ls 14 [(0, .ref (ad v0)), (1, va_rf (Option.map ad v1)), (2, .int v2), (3, .int v3), (4, .int v4), (5, .long v5), (7, va_rf (Option.map ad v7))] → W p l e rm_Wl_post s m args below meth c H locs 0 0 (MQ below (xQ0 D cB cI cJ cZ cS cP A ad x.1 none) args s 0 0 A) (F0 m 41 ls [.int t0]) := by
  intro u v0 v1 v2 v3 v4 v5 v7 t0 x hf H locs hP hD hS ls hl
  obtain ⟨hx, hb, hr, hml, ht, hown, hK, hA, hlocks, hA0, hO, hbs⟩ := id C0
  unfold fb_Wl_post_41 at hf
  refine lv_istore (lv' := [(8, .int t0), (0, .ref (ad v0)), (1, va_rf (Option.map ad v1)), (2, .int v2), (3, .int v3), (4, .int v4), (5, .long v5), (7, va_rf (Option.map ad v7))]) hx hb d_Wl_post_41 hl (by decide) (by first | rfl | simp [List.filter, cat_rf]) (fun ls hl => ?_)
  refine x_aload_n hx hb d_Wl_post_43 rfl (lv_at hl 2 rfl) ?_
  refine lv_iload_n hx hb d_Wl_post_44 rfl (lv_at hl 3 rfl) ?_
  refine lv_iload hx hb d_Wl_post_45 (lv_at hl 0 rfl) ?_
  refine lv_iadd hx hb d_Wl_post_47 ?_
  obtain ⟨j40, ej40, hf⟩ := bo_some hf
  rw [ej40]
  obtain ⟨hO9, hf⟩ := ck_some hf
  obtain ⟨u39, r39, hc39, hf⟩ := bx_some hf
  refine xV0 (i := j40) (As := [.int (v2 + t0)]) (rest := []) C0 hP hD hS ck_Pr hO9 (c_Pr_want N hE hc39) k_Pr_want (wd_of 1815 (by decide +kernel) rfl) hi_Pr_want hs_Pr_want hini_Pr rfl rfl hd_Pr_want rfl rm_Wl_post_Pr_want hl.1 (Nat.le_of_ble_eq_true rfl) d_Wl_post_48 rfl ⟨Nat.zero_le _, Nat.zero_le _⟩ (fun H locs hP hD hS => ?_)
  refine lv_if_ne (tgt := 62) hx hb d_Wl_post_51 (by decide) (fun hc => ?_) (fun hc => ?_)
  · rw [br_n _ hc] at hf
    refine x_aload hx hb d_Wl_post_62 (lv_at hl 7 rfl) ?_
    refine x_aload_n hx hb d_Wl_post_64 rfl (lv_at hl 2 rfl) ?_
    obtain ⟨hk1, hf⟩ := ck_some hf
    obtain ⟨hk2, hf⟩ := ck_some hf
    refine x_acmp_ne (rx := v7) (ry := v1) (tgt := 79) hx hb hD hk1 hk2 d_Wl_post_65 (by decide) (fun hc => ?_) (fun hc => ?_)
    · rw [br_n _ hc] at hf
      refine lv_lload hx hb d_Wl_post_79 (lv_at hl 6 rfl) ?_
      exact wb_Wl_post_81 C0 hE N G hG _ _ _ _ _ _ _ _ hf H locs hP hD hS ls (lv_sub hl [2, 3, 4, 5, 7] rfl)
    · rw [br_p _ hc] at hf
      refine x_aload_n hx hb d_Wl_post_68 rfl (lv_at hl 2 rfl) ?_
      obtain ⟨j41, ej41, hf⟩ := bo_some hf
      rw [ej41]
      obtain ⟨r42, g42, hf⟩ := bo_some hf
      refine xg_R (i := j41) (k := 1) hx hb ht hown ck_Pr hK hP (by decide) fk_Wl_120 g42 d_Wl_post_69 ?_
      refine lv_iconst (v := 0) hx hb d_Wl_post_72 (by decide) ?_
      obtain ⟨j44, ej44, hf⟩ := bo_some hf
      rw [ej44]
      obtain ⟨hO9, hf⟩ := ck_some hf
      obtain ⟨u43, r43, hc43, hf⟩ := bx_some hf
      refine xV0 (i := j44) (As := [.int 0]) (rest := []) C0 hP hD hS ck_Fr hO9 (c_Fr_below N hc43) k_Fr_below (wd_of 1817 (by decide +kernel) rfl) hi_Fr_below hs_Fr_below hini_Fr rfl rfl hd_Fr_below rfl rm_Wl_post_Fr_below hl.1 (Nat.le_of_ble_eq_true rfl) d_Wl_post_73 rfl ⟨Nat.zero_le _, Nat.zero_le _⟩ (fun H locs hP hD hS => ?_)
      refine lv_goto (tgt := 81) hx hb d_Wl_post_76 (by decide) ?_
      exact wb_Wl_post_81 C0 hE N G hG _ _ _ _ _ _ _ _ hf H locs hP hD hS ls (lv_sub hl [2, 3, 4, 5, 7] rfl)
  · rw [br_p _ hc] at hf
    refine lv_aload_n hx hb d_Wl_post_54 rfl (lv_at hl 1 rfl) ?_
    refine x_aload_n hx hb d_Wl_post_55 rfl (lv_at hl 2 rfl) ?_
    refine lv_bipush (v := 20) hx hb d_Wl_post_56 (by decide) ?_
    obtain ⟨hO9, hf⟩ := ck_some hf
    obtain ⟨u45, r45, hc45, hf⟩ := bx_some hf
    refine xV0 (i := v0) (As := [va_rf (Option.map ad v1), .int 20]) (rest := []) C0 hP hD hS ck_Wl hO9 (c_Wl_endsBy N hc45) k_Wl_endsBy (wd_of 1816 (by decide +kernel) rfl) hi_Wl_endsBy hs_Wl_endsBy hini_Wl rfl rfl hd_Wl_endsBy rfl rm_Wl_post_Wl_endsBy hl.1 (Nat.le_of_ble_eq_true rfl) d_Wl_post_58 rfl ⟨Nat.zero_le _, Nat.zero_le _⟩ (fun H locs hP hD hS => ?_)
    exact xr0_v C0 hP hD hS hf d_Wl_post_61
def fb_Wl_post_17 (N : Nat) (G : Unit) (u : CS) : Option (CS × Unit) := some (u, ())
set_option maxRecDepth 100000 in
set_option maxHeartbeats 4000000 in
theorem wb_Wl_post_17 {p : Program} {l : Launch} {e : Env} {s : State} {m : MethodId} {args : Array Value} {below : List Frame} {meth : Method} {c : Code} {s0 : State} {b0 : Nat} {D : va_G} {cB cI cJ cZ cS cP : ClassId} {A : Nat → Prop} {sk sv : Nat → Nat} {ad : Nat → Nat} (C0 : XCx p s s0 b0 m args meth c R_Wl b_Wl_post 14 none D cB cI cJ cZ cS cP A) (hE : ENV s0 b0 sk sv) (N : Nat) (G : Unit) (hG : True) : ∀ (u : CS) (x : CS × Unit), fb_Wl_post_17 N G u = some x → ∀ (H : Heap) (locs : List Loc), va_P D cls (wC cB cI cJ cZ cS cP ad u) H → va_D A (wC cB cI cJ cZ cS cP ad u) → va_S A s.heap H locs → ∀ (ls : Array Slot), lv_has ls 14 [] → W p l e rm_Wl_post s m args below meth c H locs 0 0 (MQ below (xQ0 D cB cI cJ cZ cS cP A ad x.1 none) args s 0 0 A) (F0 m 17 ls []) := by
  intro u x hf H locs hP hD hS ls hl
  obtain ⟨hx, hb, hr, hml, ht, hown, hK, hA, hlocks, hA0, hO, hbs⟩ := id C0
  unfold fb_Wl_post_17 at hf
  exact xr0_v C0 hP hD hS hf d_Wl_post_17
def fb_Wl_post_0 (N : Nat) (G : Unit) (u : CS) (v0 : Nat) (v1 : Option Nat) (v2 : Int32) (v3 : Int32) (v4 : Int32) (v5 : Int64) (v7 : Option Nat) : Option (CS × Unit) := bo v1 (fun j46 => bo (gI u j46 7 9) (fun r47 => br (decide (r47 = 3)) (fb_Wl_post_17 N G u) (bo v1 (fun j48 => bo (gI u j48 7 7) (fun r49 => br (decide (r49 < 30)) (br (decide (v7 = none)) (fb_Wl_post_41 N G u (v0) (v1) (v2) (v3) (v4) (v5) (v7) (0)) (bo (gR u v0 12 0) (fun r50 => bo v7 (fun j51 => bo (gR u j51 7 2) (fun r52 => bo r50 (fun j54 => ck (isO u j54 8) (bx (fm_Te_size N u j54 r52 v5) (fun u53 r53 => fb_Wl_post_41 N G u53 (v0) (v1) (v2) (v3) (v4) (v5) (v7) (r53))))))))) (fb_Wl_post_17 N G u))))))
set_option maxRecDepth 100000 in
set_option maxHeartbeats 4000000 in
theorem wb_Wl_post_0 {p : Program} {l : Launch} {e : Env} {s : State} {m : MethodId} {args : Array Value} {below : List Frame} {meth : Method} {c : Code} {s0 : State} {b0 : Nat} {D : va_G} {cB cI cJ cZ cS cP : ClassId} {A : Nat → Prop} {sk sv : Nat → Nat} {ad : Nat → Nat} (C0 : XCx p s s0 b0 m args meth c R_Wl b_Wl_post 14 none D cB cI cJ cZ cS cP A) (hE : ENV s0 b0 sk sv) (N : Nat) (G : Unit) (hG : True) : ∀ (u : CS) (v0 : Nat) (v1 : Option Nat) (v2 : Int32) (v3 : Int32) (v4 : Int32) (v5 : Int64) (v7 : Option Nat) (x : CS × Unit), fb_Wl_post_0 N G u v0 v1 v2 v3 v4 v5 v7 = some x → ∀ (H : Heap) (locs : List Loc), va_P D cls (wC cB cI cJ cZ cS cP ad u) H → va_D A (wC cB cI cJ cZ cS cP ad u) → va_S A s.heap H locs → ∀ (ls : Array Slot), lv_has ls 14 [(0, .ref (ad v0)), (1, va_rf (Option.map ad v1)), (2, .int v2), (3, .int v3), (4, .int v4), (5, .long v5), (7, va_rf (Option.map ad v7))] → W p l e rm_Wl_post s m args below meth c H locs 0 0 (MQ below (xQ0 D cB cI cJ cZ cS cP A ad x.1 none) args s 0 0 A) (F0 m 0 ls []) := by
  intro u v0 v1 v2 v3 v4 v5 v7 x hf H locs hP hD hS ls hl
  obtain ⟨hx, hb, hr, hml, ht, hown, hK, hA, hlocks, hA0, hO, hbs⟩ := id C0
  unfold fb_Wl_post_0 at hf
  refine x_aload_n hx hb d_Wl_post_0 rfl (lv_at hl 1 rfl) ?_
  obtain ⟨j46, ej46, hf⟩ := bo_some hf
  rw [ej46]
  obtain ⟨r47, g47, hf⟩ := bo_some hf
  refine xg_I (i := j46) (k := 9) hx hb ht hown ck_Pr hK hP (by decide) fk_Wl_91 g47 d_Wl_post_1 ?_
  refine lv_iconst (v := 3) hx hb d_Wl_post_4 (by decide) ?_
  refine lv_icmp_eq (tgt := 17) hx hb d_Wl_post_5 (by decide) (fun hc => ?_) (fun hc => ?_)
  · rw [br_p _ hc] at hf
    exact wb_Wl_post_17 C0 hE N G hG _ _ hf H locs hP hD hS ls (lv_sub hl [] rfl)
  · rw [br_n _ hc] at hf
    refine x_aload_n hx hb d_Wl_post_8 rfl (lv_at hl 1 rfl) ?_
    obtain ⟨j48, ej48, hf⟩ := bo_some hf
    rw [ej48]
    obtain ⟨r49, g49, hf⟩ := bo_some hf
    refine xg_I (i := j48) (k := 7) hx hb ht hown ck_Pr hK hP (by decide) fk_Wl_79 g49 d_Wl_post_9 ?_
    refine lv_bipush (v := 30) hx hb d_Wl_post_12 (by decide) ?_
    refine lv_icmp_lt (tgt := 18) hx hb d_Wl_post_14 (by decide) (fun hc => ?_) (fun hc => ?_)
    · rw [br_p _ hc] at hf
      refine x_aload hx hb d_Wl_post_18 (lv_at hl 6 rfl) ?_
      refine x_ifnonnull (r := v7) (tgt := 27) hx hb d_Wl_post_20 (by decide) (fun hc => ?_) (fun hc => ?_)
      · rw [br_n _ hc] at hf
        refine lv_aload_n hx hb d_Wl_post_27 rfl (lv_at hl 0 rfl) ?_
        obtain ⟨r50, g50, hf⟩ := bo_some hf
        refine xg_R (i := v0) (k := 0) hx hb ht hown ck_Wl hK hP (by decide) fk_Wl_37 g50 d_Wl_post_28 ?_
        refine x_aload hx hb d_Wl_post_31 (lv_at hl 6 rfl) ?_
        obtain ⟨j51, ej51, hf⟩ := bo_some hf
        rw [ej51]
        obtain ⟨r52, g52, hf⟩ := bo_some hf
        refine xg_R (i := j51) (k := 2) hx hb ht hown ck_Pr hK hP (by decide) fk_Wl_104 g52 d_Wl_post_33 ?_
        refine lv_lload hx hb d_Wl_post_36 (lv_at hl 5 rfl) ?_
        obtain ⟨j54, ej54, hf⟩ := bo_some hf
        rw [ej54]
        obtain ⟨hO9, hf⟩ := ck_some hf
        obtain ⟨u53, r53, hc53, hf⟩ := bx_some hf
        refine xV0 (i := j54) (As := [va_rf (Option.map ad r52), .long v5]) (rest := []) C0 hP hD hS ck_Te hO9 (c_Te_size N hc53) k_Te_size (wd_of 1814 (by decide +kernel) rfl) hi_Te_size hs_Te_size hini_Te rfl rfl hd_Te_size rfl rm_Wl_post_Te_size hl.1 (Nat.le_of_ble_eq_true rfl) d_Wl_post_38 rfl ⟨Nat.zero_le _, Nat.zero_le _⟩ (fun H locs hP hD hS => ?_)
        exact wb_Wl_post_41 C0 hE N G hG _ _ _ _ _ _ _ _ _ _ hf H locs hP hD hS ls (lv_sub hl [0, 1, 2, 3, 4, 5, 6] rfl)
      · rw [br_p _ hc] at hf
        refine lv_iconst (v := 0) hx hb d_Wl_post_23 (by decide) ?_
        refine lv_goto (tgt := 41) hx hb d_Wl_post_24 (by decide) ?_
        exact wb_Wl_post_41 C0 hE N G hG _ _ _ _ _ _ _ _ _ _ hf H locs hP hD hS ls (lv_sub hl [0, 1, 2, 3, 4, 5, 6] rfl)
    · rw [br_n _ hc] at hf
      exact wb_Wl_post_17 C0 hE N G hG _ _ hf H locs hP hD hS ls (lv_sub hl [] rfl)
def fm_Wl_post (N : Nat) (u : CS) (v0 : Nat) (v1 : Option Nat) (v2 : Int32) (v3 : Int32) (v4 : Int32) (v5 : Int64) (v7 : Option Nat) : Option (CS × Unit) := fb_Wl_post_0 N () u v0 v1 v2 v3 v4 v5 v7
set_option maxRecDepth 100000 in
set_option maxHeartbeats 4000000 in
theorem c_Wl_post (N : Nat) {l : Launch} {s0 : State} {b0 : Nat} {D : va_G} {cB cI cJ cZ cS cP : ClassId} {sk sv : Nat → Nat} {ad : Nat → Nat} {u : CS} {sz : Nat} {v0 : Nat} {v1 : Option Nat} {v2 : Int32} {v3 : Int32} {v4 : Int32} {v5 : Int64} {v7 : Option Nat} {x : CS × Unit} (hE : ENV s0 b0 sk sv) (hf : fm_Wl_post N u v0 v1 v2 v3 v4 v5 v7 = some x) : Met l y_Wl_post (wd_ws y_Wl_post b_Wl_post 14 none) rm_Wl_post (xPc s0 b0 D cB cI cJ cZ cS cP ad u sz [.ref (ad v0), va_rf (Option.map ad v1), .int v2, .int v3, .int v4, .long v5, va_rf (Option.map ad v7)]) (xQ0 D cB cI cJ cZ cS cP (xA cB cI cJ cZ cS cP ad u sz) ad x.1 none) 0 0 (xA cB cI cJ cZ cS cP ad u sz) :=
  xMet (by decide) rfl (by cases v1 <;> cases v7 <;> exact Nat.le_of_ble_eq_true rfl) (fun p e s m below meth c ls hsz hnm C0 hP hD hS hl =>
    wb_Wl_post_0 C0 hE N () trivial u _ _ _ _ _ _ _ x hf s.heap [] hP hD hS ls (by rw [show lv_args 0 [.ref (ad v0), va_rf (Option.map ad v1), .int v2, .int v3, .int v4, .long v5, va_rf (Option.map ad v7)] = [(0, .ref (ad v0)), (1, va_rf (Option.map ad v1)), (2, .int v2), (3, .int v3), (4, .int v4), (5, .long v5), (7, va_rf (Option.map ad v7))] from by cases v1 <;> cases v7 <;> rfl] at hl; exact lv_sub hl [0, 1, 2, 3, 4, 5, 6] rfl))
abbrev b_Wl_signal : ByteArray := prog_12_method_14_code
def y_Wl_signal : MethodName := ⟨R_Wl, "signal", "(ILMailHouse$Process;JLMailHouse$Process;)V"⟩
def w_Wl_signal : List Cond := wd_ws y_Wl_signal b_Wl_signal 7 none
set_option maxRecDepth 100000 in
theorem k_Wl_signal : Cond.code y_Wl_signal b_Wl_signal 7 none ∈ wd_tbl := wd_of 1809 rfl rfl
theorem d_Wl_signal_0 : decode b_Wl_signal 0 = .ok (.aload_n 2, 1) := by decide +kernel
theorem d_Wl_signal_1 : decode b_Wl_signal 1 = .ok (.getfield 91, 3) := by decide +kernel
theorem d_Wl_signal_4 : decode b_Wl_signal 4 = .ok (.iconst 3, 1) := by decide +kernel
theorem d_Wl_signal_5 : decode b_Wl_signal 5 = .ok (.if_icmp .ne 4, 3) := by decide +kernel
theorem d_Wl_signal_8 : decode b_Wl_signal 8 = .ok (.return_, 1) := by decide +kernel
theorem d_Wl_signal_9 : decode b_Wl_signal 9 = .ok (.aload_n 2, 1) := by decide +kernel
theorem d_Wl_signal_10 : decode b_Wl_signal 10 = .ok (.getfield 148, 3) := by decide +kernel
theorem d_Wl_signal_13 : decode b_Wl_signal 13 = .ok (.ifCond .eq 15, 3) := by decide +kernel
theorem d_Wl_signal_16 : decode b_Wl_signal 16 = .ok (.aload_n 0, 1) := by decide +kernel
theorem d_Wl_signal_17 : decode b_Wl_signal 17 = .ok (.aload_n 2, 1) := by decide +kernel
theorem d_Wl_signal_18 : decode b_Wl_signal 18 = .ok (.iconst 4, 1) := by decide +kernel
theorem d_Wl_signal_19 : decode b_Wl_signal 19 = .ok (.iload_n 1, 1) := by decide +kernel
theorem d_Wl_signal_20 : decode b_Wl_signal 20 = .ok (.iconst 0, 1) := by decide +kernel
theorem d_Wl_signal_21 : decode b_Wl_signal 21 = .ok (.lload_n 3, 1) := by decide +kernel
theorem d_Wl_signal_22 : decode b_Wl_signal 22 = .ok (.aload 5, 2) := by decide +kernel
theorem d_Wl_signal_24 : decode b_Wl_signal 24 = .ok (.invokevirtual 151, 3) := by decide +kernel
theorem d_Wl_signal_27 : decode b_Wl_signal 27 = .ok (.return_, 1) := by decide +kernel
theorem d_Wl_signal_28 : decode b_Wl_signal 28 = .ok (.lload_n 3, 1) := by decide +kernel
theorem d_Wl_signal_29 : decode b_Wl_signal 29 = .ok (.iconst 1, 1) := by decide +kernel
theorem d_Wl_signal_30 : decode b_Wl_signal 30 = .ok (.iconst 4, 1) := by decide +kernel
theorem d_Wl_signal_31 : decode b_Wl_signal 31 = .ok (.invokestatic 141, 3) := by decide +kernel
theorem d_Wl_signal_34 : decode b_Wl_signal 34 = .ok (.lcmp, 1) := by decide +kernel
theorem d_Wl_signal_35 : decode b_Wl_signal 35 = .ok (.ifCond .ne 7, 3) := by decide +kernel
theorem d_Wl_signal_38 : decode b_Wl_signal 38 = .ok (.iconst 1, 1) := by decide +kernel
theorem d_Wl_signal_39 : decode b_Wl_signal 39 = .ok (.goto 4, 3) := by decide +kernel
theorem d_Wl_signal_42 : decode b_Wl_signal 42 = .ok (.iconst 0, 1) := by decide +kernel
theorem d_Wl_signal_43 : decode b_Wl_signal 43 = .ok (.istore 6, 2) := by decide +kernel
theorem d_Wl_signal_45 : decode b_Wl_signal 45 = .ok (.iload 6, 2) := by decide +kernel
theorem d_Wl_signal_47 : decode b_Wl_signal 47 = .ok (.ifCond .eq 12, 3) := by decide +kernel
theorem d_Wl_signal_50 : decode b_Wl_signal 50 = .ok (.iload_n 1, 1) := by decide +kernel
theorem d_Wl_signal_51 : decode b_Wl_signal 51 = .ok (.aload_n 2, 1) := by decide +kernel
theorem d_Wl_signal_52 : decode b_Wl_signal 52 = .ok (.getfield 145, 3) := by decide +kernel
theorem d_Wl_signal_55 : decode b_Wl_signal 55 = .ok (.if_icmp .eq 4, 3) := by decide +kernel
theorem d_Wl_signal_58 : decode b_Wl_signal 58 = .ok (.return_, 1) := by decide +kernel
theorem d_Wl_signal_59 : decode b_Wl_signal 59 = .ok (.aload 5, 2) := by decide +kernel
theorem d_Wl_signal_61 : decode b_Wl_signal 61 = .ok (.ifnull 9, 3) := by decide +kernel
theorem d_Wl_signal_64 : decode b_Wl_signal 64 = .ok (.aload 5, 2) := by decide +kernel
theorem d_Wl_signal_66 : decode b_Wl_signal 66 = .ok (.aload_n 2, 1) := by decide +kernel
theorem d_Wl_signal_67 : decode b_Wl_signal 67 = .ok (.if_acmp .ne 13, 3) := by decide +kernel
theorem d_Wl_signal_70 : decode b_Wl_signal 70 = .ok (.aload_n 0, 1) := by decide +kernel
theorem d_Wl_signal_71 : decode b_Wl_signal 71 = .ok (.aload_n 2, 1) := by decide +kernel
theorem d_Wl_signal_72 : decode b_Wl_signal 72 = .ok (.lload_n 3, 1) := by decide +kernel
theorem d_Wl_signal_73 : decode b_Wl_signal 73 = .ok (.aload_n 2, 1) := by decide +kernel
theorem d_Wl_signal_74 : decode b_Wl_signal 74 = .ok (.invokevirtual 155, 3) := by decide +kernel
theorem d_Wl_signal_77 : decode b_Wl_signal 77 = .ok (.goto 44, 3) := by decide +kernel
theorem d_Wl_signal_80 : decode b_Wl_signal 80 = .ok (.aload 5, 2) := by decide +kernel
theorem d_Wl_signal_82 : decode b_Wl_signal 82 = .ok (.getfield 91, 3) := by decide +kernel
theorem d_Wl_signal_85 : decode b_Wl_signal 85 = .ok (.iconst 3, 1) := by decide +kernel
theorem d_Wl_signal_86 : decode b_Wl_signal 86 = .ok (.if_icmp .ne 14, 3) := by decide +kernel
theorem d_Wl_signal_89 : decode b_Wl_signal 89 = .ok (.aload_n 0, 1) := by decide +kernel
theorem d_Wl_signal_90 : decode b_Wl_signal 90 = .ok (.aload_n 2, 1) := by decide +kernel
theorem d_Wl_signal_91 : decode b_Wl_signal 91 = .ok (.lload_n 3, 1) := by decide +kernel
theorem d_Wl_signal_92 : decode b_Wl_signal 92 = .ok (.aload 5, 2) := by decide +kernel
theorem d_Wl_signal_94 : decode b_Wl_signal 94 = .ok (.invokevirtual 155, 3) := by decide +kernel
theorem d_Wl_signal_97 : decode b_Wl_signal 97 = .ok (.goto 24, 3) := by decide +kernel
theorem d_Wl_signal_100 : decode b_Wl_signal 100 = .ok (.aload_n 2, 1) := by decide +kernel
theorem d_Wl_signal_101 : decode b_Wl_signal 101 = .ok (.iconst 0, 1) := by decide +kernel
theorem d_Wl_signal_102 : decode b_Wl_signal 102 = .ok (.putfield 130, 3) := by decide +kernel
theorem d_Wl_signal_105 : decode b_Wl_signal 105 = .ok (.aload_n 0, 1) := by decide +kernel
theorem d_Wl_signal_106 : decode b_Wl_signal 106 = .ok (.aload_n 2, 1) := by decide +kernel
theorem d_Wl_signal_107 : decode b_Wl_signal 107 = .ok (.aload_n 2, 1) := by decide +kernel
theorem d_Wl_signal_108 : decode b_Wl_signal 108 = .ok (.aload 5, 2) := by decide +kernel
theorem d_Wl_signal_110 : decode b_Wl_signal 110 = .ok (.getfield 104, 3) := by decide +kernel
theorem d_Wl_signal_113 : decode b_Wl_signal 113 = .ok (.lload_n 3, 1) := by decide +kernel
theorem d_Wl_signal_114 : decode b_Wl_signal 114 = .ok (.invokevirtual 133, 3) := by decide +kernel
theorem d_Wl_signal_117 : decode b_Wl_signal 117 = .ok (.aload_n 2, 1) := by decide +kernel
theorem d_Wl_signal_118 : decode b_Wl_signal 118 = .ok (.invokevirtual 155, 3) := by decide +kernel
theorem d_Wl_signal_121 : decode b_Wl_signal 121 = .ok (.return_, 1) := by decide +kernel
set_option maxRecDepth 100000 in
theorem hl_Wl_signal : Cond.methodLink R_Wl 179 y_Wl_signal ∈ wd_tbl := wd_of 2062 (by decide +kernel) rfl
set_option maxRecDepth 100000 in
theorem hi_Wl_signal : Cond.instanceMethod y_Wl_signal ∈ wd_tbl := wd_of 1807 (by decide +kernel) rfl
set_option maxRecDepth 100000 in
theorem hs_Wl_signal : Cond.selects R_Wl y_Wl_signal y_Wl_signal ∈ wd_tbl := wd_of 1808 (by decide +kernel) rfl
theorem hd_Wl_signal : y_Wl_signal.cls = R_Wl ∧ y_Wl_signal.cls ≠ "java/lang/invoke/MethodHandle" ∧ y_Wl_signal.cls ≠ "java/lang/invoke/VarHandle" ∧ (parseMethodDescriptor y_Wl_signal.desc).map (fun d => d.parameters.length) = some 4 := by decide +kernel
def rm_Wl_signal : Room := { frames := 4, cells := 0, slots := 0, locals := 130 }
theorem rm_Wl_signal_Wl_post : (rm_Wl_post).frames + 1 ≤ rm_Wl_signal.frames ∧ 8 + (14 + 11) + (rm_Wl_post).locals ≤ rm_Wl_signal.locals := by
  show 3 + 1 ≤ 4 ∧ 8 + (14 + 11) + 97 ≤ 130
  decide
theorem rm_Wl_signal_Te_make : (rm_Te_make).frames + 1 ≤ rm_Wl_signal.frames ∧ 8 + (2 + 11) + (rm_Te_make).locals ≤ rm_Wl_signal.locals := by
  show 0 + 1 ≤ 4 ∧ 8 + (2 + 11) + 0 ≤ 130
  decide
theorem rm_Wl_signal_Wl_endsWith : (rm_Wl_endsWith).frames + 1 ≤ rm_Wl_signal.frames ∧ 8 + (5 + 11) + (rm_Wl_endsWith).locals ≤ rm_Wl_signal.locals := by
  show 0 + 1 ≤ 4 ∧ 8 + (5 + 11) + 0 ≤ 130
  decide
theorem rm_Wl_signal_Pr_copyIn : (rm_Pr_copyIn).frames + 1 ≤ rm_Wl_signal.frames ∧ 8 + (13 + 11) + (rm_Pr_copyIn).locals ≤ rm_Wl_signal.locals := by
  show 1 + 1 ≤ 4 ∧ 8 + (13 + 11) + 48 ≤ 130
  decide
def fb_Wl_signal_121 (N : Nat) (G : Unit) (u : CS) : Option (CS × Unit) := some (u, ())
set_option maxRecDepth 100000 in
set_option maxHeartbeats 4000000 in
theorem wb_Wl_signal_121 {p : Program} {l : Launch} {e : Env} {s : State} {m : MethodId} {args : Array Value} {below : List Frame} {meth : Method} {c : Code} {s0 : State} {b0 : Nat} {D : va_G} {cB cI cJ cZ cS cP : ClassId} {A : Nat → Prop} {sk sv : Nat → Nat} {ad : Nat → Nat} (C0 : XCx p s s0 b0 m args meth c R_Wl b_Wl_signal 7 none D cB cI cJ cZ cS cP A) (hE : ENV s0 b0 sk sv) (N : Nat) (G : Unit) (hG : True) : ∀ (u : CS) (x : CS × Unit), fb_Wl_signal_121 N G u = some x → ∀ (H : Heap) (locs : List Loc), va_P D cls (wC cB cI cJ cZ cS cP ad u) H → va_D A (wC cB cI cJ cZ cS cP ad u) → va_S A s.heap H locs → ∀ (ls : Array Slot), lv_has ls 7 [] → W p l e rm_Wl_signal s m args below meth c H locs 0 0 (MQ below (xQ0 D cB cI cJ cZ cS cP A ad x.1 none) args s 0 0 A) (F0 m 121 ls []) := by
  intro u x hf H locs hP hD hS ls hl
  obtain ⟨hx, hb, hr, hml, ht, hown, hK, hA, hlocks, hA0, hO, hbs⟩ := id C0
  unfold fb_Wl_signal_121 at hf
  exact xr0_v C0 hP hD hS hf d_Wl_signal_121
def fb_Wl_signal_70 (N : Nat) (G : Unit) (u : CS) (v0 : Nat) (v2 : Option Nat) (v3 : Int64) : Option (CS × Unit) := ck (isO u v0 12) (bx (fm_Wl_endsWith N u v0 v2 v3 v2) (fun u1 r1 => fb_Wl_signal_121 N G u1))
set_option maxRecDepth 100000 in
set_option maxHeartbeats 4000000 in
theorem wb_Wl_signal_70 {p : Program} {l : Launch} {e : Env} {s : State} {m : MethodId} {args : Array Value} {below : List Frame} {meth : Method} {c : Code} {s0 : State} {b0 : Nat} {D : va_G} {cB cI cJ cZ cS cP : ClassId} {A : Nat → Prop} {sk sv : Nat → Nat} {ad : Nat → Nat} (C0 : XCx p s s0 b0 m args meth c R_Wl b_Wl_signal 7 none D cB cI cJ cZ cS cP A) (hE : ENV s0 b0 sk sv) (N : Nat) (G : Unit) (hG : True) : ∀ (u : CS) (v0 : Nat) (v2 : Option Nat) (v3 : Int64) (x : CS × Unit), fb_Wl_signal_70 N G u v0 v2 v3 = some x → ∀ (H : Heap) (locs : List Loc), va_P D cls (wC cB cI cJ cZ cS cP ad u) H → va_D A (wC cB cI cJ cZ cS cP ad u) → va_S A s.heap H locs → ∀ (ls : Array Slot), lv_has ls 7 [(0, .ref (ad v0)), (2, va_rf (Option.map ad v2)), (3, .long v3)] → W p l e rm_Wl_signal s m args below meth c H locs 0 0 (MQ below (xQ0 D cB cI cJ cZ cS cP A ad x.1 none) args s 0 0 A) (F0 m 70 ls []) := by
  intro u v0 v2 v3 x hf H locs hP hD hS ls hl
  obtain ⟨hx, hb, hr, hml, ht, hown, hK, hA, hlocks, hA0, hO, hbs⟩ := id C0
  unfold fb_Wl_signal_70 at hf
  refine lv_aload_n hx hb d_Wl_signal_70 rfl (lv_at hl 0 rfl) ?_
  refine x_aload_n hx hb d_Wl_signal_71 rfl (lv_at hl 1 rfl) ?_
  refine lv_lload_n hx hb d_Wl_signal_72 rfl (lv_at hl 2 rfl) ?_
  refine x_aload_n hx hb d_Wl_signal_73 rfl (lv_at hl 1 rfl) ?_
  obtain ⟨hO9, hf⟩ := ck_some hf
  obtain ⟨u1, r1, hc1, hf⟩ := bx_some hf
  refine xV0 (i := v0) (As := [va_rf (Option.map ad v2), .long v3, va_rf (Option.map ad v2)]) (rest := []) C0 hP hD hS ck_Wl hO9 (c_Wl_endsWith N hc1) k_Wl_endsWith (wd_of 1740 (by decide +kernel) rfl) hi_Wl_endsWith hs_Wl_endsWith hini_Wl rfl rfl hd_Wl_endsWith rfl rm_Wl_signal_Wl_endsWith hl.1 (Nat.le_of_ble_eq_true rfl) d_Wl_signal_74 rfl ⟨Nat.zero_le _, Nat.zero_le _⟩ (fun H locs hP hD hS => ?_)
  refine lv_goto (tgt := 121) hx hb d_Wl_signal_77 (by decide) ?_
  exact wb_Wl_signal_121 C0 hE N G hG _ _ hf H locs hP hD hS ls (lv_sub hl [] rfl)
def fb_Wl_signal_59 (N : Nat) (G : Unit) (u : CS) (v0 : Nat) (v2 : Option Nat) (v3 : Int64) (v5 : Option Nat) : Option (CS × Unit) := br (decide (v5 = none)) (fb_Wl_signal_70 N G u (v0) (v2) (v3)) (ck (okR u.1.1 v5) (ck (okR u.1.1 v2) (br (decide (v5 = v2)) (fb_Wl_signal_70 N G u (v0) (v2) (v3)) (bo v5 (fun j2 => bo (gI u j2 7 9) (fun r3 => br (decide (r3 = 3)) (ck (isO u v0 12) (bx (fm_Wl_endsWith N u v0 v2 v3 v5) (fun u11 r11 => fb_Wl_signal_121 N G u11))) (bo v2 (fun j4 => bo (pF u j4 7 4 (.inl 0)) (fun w5 => bo v5 (fun j6 => bo (gR w5 j6 7 2) (fun r7 => bo v2 (fun j9 => ck (isO w5 j9 7) (bx (fm_Pr_copyIn N w5 j9 r7 v3) (fun u8 r8 => ck (isO u8 v0 12) (bx (fm_Wl_endsWith N u8 v0 (some j9) r8 v2) (fun u10 r10 => fb_Wl_signal_121 N G u10))))))))))))))))
set_option maxRecDepth 100000 in
set_option maxHeartbeats 4000000 in
theorem wb_Wl_signal_59 {p : Program} {l : Launch} {e : Env} {s : State} {m : MethodId} {args : Array Value} {below : List Frame} {meth : Method} {c : Code} {s0 : State} {b0 : Nat} {D : va_G} {cB cI cJ cZ cS cP : ClassId} {A : Nat → Prop} {sk sv : Nat → Nat} {ad : Nat → Nat} (C0 : XCx p s s0 b0 m args meth c R_Wl b_Wl_signal 7 none D cB cI cJ cZ cS cP A) (hE : ENV s0 b0 sk sv) (N : Nat) (G : Unit) (hG : True) : ∀ (u : CS) (v0 : Nat) (v2 : Option Nat) (v3 : Int64) (v5 : Option Nat) (x : CS × Unit), fb_Wl_signal_59 N G u v0 v2 v3 v5 = some x → ∀ (H : Heap) (locs : List Loc), va_P D cls (wC cB cI cJ cZ cS cP ad u) H → va_D A (wC cB cI cJ cZ cS cP ad u) → va_S A s.heap H locs → ∀ (ls : Array Slot), lv_has ls 7 [(0, .ref (ad v0)), (2, va_rf (Option.map ad v2)), (3, .long v3), (5, va_rf (Option.map ad v5))] → W p l e rm_Wl_signal s m args below meth c H locs 0 0 (MQ below (xQ0 D cB cI cJ cZ cS cP A ad x.1 none) args s 0 0 A) (F0 m 59 ls []) := by
  intro u v0 v2 v3 v5 x hf H locs hP hD hS ls hl
  obtain ⟨hx, hb, hr, hml, ht, hown, hK, hA, hlocks, hA0, hO, hbs⟩ := id C0
  unfold fb_Wl_signal_59 at hf
  refine x_aload hx hb d_Wl_signal_59 (lv_at hl 3 rfl) ?_
  refine x_ifnull (r := v5) (tgt := 70) hx hb d_Wl_signal_61 (by decide) (fun hc => ?_) (fun hc => ?_)
  · rw [br_p _ hc] at hf
    exact wb_Wl_signal_70 C0 hE N G hG _ _ _ _ _ hf H locs hP hD hS ls (lv_sub hl [0, 1, 2] rfl)
  · rw [br_n _ hc] at hf
    refine x_aload hx hb d_Wl_signal_64 (lv_at hl 3 rfl) ?_
    refine x_aload_n hx hb d_Wl_signal_66 rfl (lv_at hl 1 rfl) ?_
    obtain ⟨hk1, hf⟩ := ck_some hf
    obtain ⟨hk2, hf⟩ := ck_some hf
    refine x_acmp_ne (rx := v5) (ry := v2) (tgt := 80) hx hb hD hk1 hk2 d_Wl_signal_67 (by decide) (fun hc => ?_) (fun hc => ?_)
    · rw [br_n _ hc] at hf
      refine x_aload hx hb d_Wl_signal_80 (lv_at hl 3 rfl) ?_
      obtain ⟨j2, ej2, hf⟩ := bo_some hf
      rw [ej2]
      obtain ⟨r3, g3, hf⟩ := bo_some hf
      refine xg_I (i := j2) (k := 9) hx hb ht hown ck_Pr hK hP (by decide) fk_Wl_91 g3 d_Wl_signal_82 ?_
      refine lv_iconst (v := 3) hx hb d_Wl_signal_85 (by decide) ?_
      refine lv_icmp_ne (tgt := 100) hx hb d_Wl_signal_86 (by decide) (fun hc => ?_) (fun hc => ?_)
      · rw [br_n _ hc] at hf
        refine x_aload_n hx hb d_Wl_signal_100 rfl (lv_at hl 1 rfl) ?_
        refine lv_iconst (v := 0) hx hb d_Wl_signal_101 (by decide) ?_
        obtain ⟨j4, ej4, hf⟩ := bo_some hf
        rw [ej4]
        obtain ⟨w5, g5, hf⟩ := bo_some hf
        refine xp (i := j4) (k := 4) (v := (.inl 0)) hx hb ht hown ck_Pr hK hP hD hS (by decide) fk_Wl_130 rfl g5 rfl rfl d_Wl_signal_102 (fun H locs hP hD hS => ?_)
        refine lv_aload_n hx hb d_Wl_signal_105 rfl (lv_at hl 0 rfl) ?_
        refine x_aload_n hx hb d_Wl_signal_106 rfl (lv_at hl 1 rfl) ?_
        refine x_aload_n hx hb d_Wl_signal_107 rfl (lv_at hl 1 rfl) ?_
        refine x_aload hx hb d_Wl_signal_108 (lv_at hl 3 rfl) ?_
        obtain ⟨j6, ej6, hf⟩ := bo_some hf
        rw [ej6]
        obtain ⟨r7, g7, hf⟩ := bo_some hf
        refine xg_R (i := j6) (k := 2) hx hb ht hown ck_Pr hK hP (by decide) fk_Wl_104 g7 d_Wl_signal_110 ?_
        refine lv_lload_n hx hb d_Wl_signal_113 rfl (lv_at hl 2 rfl) ?_
        obtain ⟨j9, ej9, hf⟩ := bo_some hf
        rw [ej9]
        obtain ⟨hO9, hf⟩ := ck_some hf
        obtain ⟨u8, r8, hc8, hf⟩ := bx_some hf
        refine xV0 (i := j9) (As := [va_rf (Option.map ad r7), .long v3]) (rest := [.ref (ad j9), .ref (ad v0)]) C0 hP hD hS ck_Pr hO9 (c_Pr_copyIn N hE hc8) k_Pr_copyIn (wd_of 1818 (by decide +kernel) rfl) hi_Pr_copyIn hs_Pr_copyIn hini_Pr rfl rfl hd_Pr_copyIn rfl rm_Wl_signal_Pr_copyIn hl.1 (Nat.le_of_ble_eq_true rfl) d_Wl_signal_114 rfl ⟨Nat.zero_le _, Nat.zero_le _⟩ (fun H locs hP hD hS => ?_)
        refine x_aload_n hx hb d_Wl_signal_117 rfl (lv_at hl 1 rfl) ?_
        obtain ⟨hO9, hf⟩ := ck_some hf
        obtain ⟨u10, r10, hc10, hf⟩ := bx_some hf
        refine xV0 (i := v0) (As := [va_rf (Option.map ad (some j9)), .long r8, va_rf (Option.map ad v2)]) (rest := []) C0 hP hD hS ck_Wl hO9 (c_Wl_endsWith N hc10) k_Wl_endsWith (wd_of 1740 (by decide +kernel) rfl) hi_Wl_endsWith hs_Wl_endsWith hini_Wl rfl rfl hd_Wl_endsWith rfl rm_Wl_signal_Wl_endsWith hl.1 (Nat.le_of_ble_eq_true rfl) d_Wl_signal_118 rfl ⟨Nat.zero_le _, Nat.zero_le _⟩ (fun H locs hP hD hS => ?_)
        exact wb_Wl_signal_121 C0 hE N G hG _ _ hf H locs hP hD hS ls (lv_sub hl [] rfl)
      · rw [br_p _ hc] at hf
        refine lv_aload_n hx hb d_Wl_signal_89 rfl (lv_at hl 0 rfl) ?_
        refine x_aload_n hx hb d_Wl_signal_90 rfl (lv_at hl 1 rfl) ?_
        refine lv_lload_n hx hb d_Wl_signal_91 rfl (lv_at hl 2 rfl) ?_
        refine x_aload hx hb d_Wl_signal_92 (lv_at hl 3 rfl) ?_
        obtain ⟨hO9, hf⟩ := ck_some hf
        obtain ⟨u11, r11, hc11, hf⟩ := bx_some hf
        refine xV0 (i := v0) (As := [va_rf (Option.map ad v2), .long v3, va_rf (Option.map ad v5)]) (rest := []) C0 hP hD hS ck_Wl hO9 (c_Wl_endsWith N hc11) k_Wl_endsWith (wd_of 1740 (by decide +kernel) rfl) hi_Wl_endsWith hs_Wl_endsWith hini_Wl rfl rfl hd_Wl_endsWith rfl rm_Wl_signal_Wl_endsWith hl.1 (Nat.le_of_ble_eq_true rfl) d_Wl_signal_94 rfl ⟨Nat.zero_le _, Nat.zero_le _⟩ (fun H locs hP hD hS => ?_)
        refine lv_goto (tgt := 121) hx hb d_Wl_signal_97 (by decide) ?_
        exact wb_Wl_signal_121 C0 hE N G hG _ _ hf H locs hP hD hS ls (lv_sub hl [] rfl)
    · rw [br_p _ hc] at hf
      exact wb_Wl_signal_70 C0 hE N G hG _ _ _ _ _ hf H locs hP hD hS ls (lv_sub hl [0, 1, 2] rfl)
def fb_Wl_signal_43 (N : Nat) (G : Unit) (u : CS) (v0 : Nat) (v1 : Int32) (v2 : Option Nat) (v3 : Int64) (v5 : Option Nat) (t0 : Int32) : Option (CS × Unit) := br (decide (t0 = 0)) (fb_Wl_signal_59 N G u (v0) (v2) (v3) (v5)) (bo v2 (fun j12 => bo (gI u j12 7 0) (fun r13 => br (decide (v1 = r13)) (fb_Wl_signal_59 N G u (v0) (v2) (v3) (v5)) (some (u, ())))))
set_option maxRecDepth 100000 in
set_option maxHeartbeats 4000000 in
theorem wb_Wl_signal_43 {p : Program} {l : Launch} {e : Env} {s : State} {m : MethodId} {args : Array Value} {below : List Frame} {meth : Method} {c : Code} {s0 : State} {b0 : Nat} {D : va_G} {cB cI cJ cZ cS cP : ClassId} {A : Nat → Prop} {sk sv : Nat → Nat} {ad : Nat → Nat} (C0 : XCx p s s0 b0 m args meth c R_Wl b_Wl_signal 7 none D cB cI cJ cZ cS cP A) (hE : ENV s0 b0 sk sv) (N : Nat) (G : Unit) (hG : True) : ∀ (u : CS) (v0 : Nat) (v1 : Int32) (v2 : Option Nat) (v3 : Int64) (v5 : Option Nat) (t0 : Int32) (x : CS × Unit), fb_Wl_signal_43 N G u v0 v1 v2 v3 v5 t0 = some x → ∀ (H : Heap) (locs : List Loc), va_P D cls (wC cB cI cJ cZ cS cP ad u) H → va_D A (wC cB cI cJ cZ cS cP ad u) → va_S A s.heap H locs → ∀ (ls : Array Slot), lv_has ls 7 [(0, .ref (ad v0)), (1, .int v1), (2, va_rf (Option.map ad v2)), (3, .long v3), (5, va_rf (Option.map ad v5))] → W p l e rm_Wl_signal s m args below meth c H locs 0 0 (MQ below (xQ0 D cB cI cJ cZ cS cP A ad x.1 none) args s 0 0 A) (F0 m 43 ls [.int t0]) := by
  intro u v0 v1 v2 v3 v5 t0 x hf H locs hP hD hS ls hl
  obtain ⟨hx, hb, hr, hml, ht, hown, hK, hA, hlocks, hA0, hO, hbs⟩ := id C0
  unfold fb_Wl_signal_43 at hf
  refine lv_istore (lv' := [(6, .int t0), (0, .ref (ad v0)), (1, .int v1), (2, va_rf (Option.map ad v2)), (3, .long v3), (5, va_rf (Option.map ad v5))]) hx hb d_Wl_signal_43 hl (by decide) (by first | rfl | simp [List.filter, cat_rf]) (fun ls hl => ?_)
  refine lv_iload hx hb d_Wl_signal_45 (lv_at hl 0 rfl) ?_
  refine lv_if_eq (tgt := 59) hx hb d_Wl_signal_47 (by decide) (fun hc => ?_) (fun hc => ?_)
  · rw [br_p _ hc] at hf
    exact wb_Wl_signal_59 C0 hE N G hG _ _ _ _ _ _ hf H locs hP hD hS ls (lv_sub hl [1, 3, 4, 5] rfl)
  · rw [br_n _ hc] at hf
    refine lv_iload_n hx hb d_Wl_signal_50 rfl (lv_at hl 2 rfl) ?_
    refine x_aload_n hx hb d_Wl_signal_51 rfl (lv_at hl 3 rfl) ?_
    obtain ⟨j12, ej12, hf⟩ := bo_some hf
    rw [ej12]
    obtain ⟨r13, g13, hf⟩ := bo_some hf
    refine xg_I (i := j12) (k := 0) hx hb ht hown ck_Pr hK hP (by decide) fk_Wl_145 g13 d_Wl_signal_52 ?_
    refine lv_icmp_eq (tgt := 59) hx hb d_Wl_signal_55 (by decide) (fun hc => ?_) (fun hc => ?_)
    · rw [br_p _ hc] at hf
      exact wb_Wl_signal_59 C0 hE N G hG _ _ _ _ _ _ hf H locs hP hD hS ls (lv_sub hl [1, 3, 4, 5] rfl)
    · rw [br_n _ hc] at hf
      exact xr0_v C0 hP hD hS hf d_Wl_signal_58
def fb_Wl_signal_0 (N : Nat) (G : Unit) (u : CS) (v0 : Nat) (v1 : Int32) (v2 : Option Nat) (v3 : Int64) (v5 : Option Nat) : Option (CS × Unit) := bo v2 (fun j14 => bo (gI u j14 7 9) (fun r15 => br (decide (r15 = 3)) (some (u, ())) (bo v2 (fun j16 => bo (gI u j16 7 11) (fun r17 => br (decide (r17 = 0)) (bx (fm_Te_make N u 1 4) (fun u18 r18 => br (decide ((lg_cmp v3 r18) = 0)) (fb_Wl_signal_43 N G u18 (v0) (v1) (v2) (v3) (v5) (1)) (fb_Wl_signal_43 N G u18 (v0) (v1) (v2) (v3) (v5) (0)))) (ck (isO u v0 12) (bx (fm_Wl_post N u v0 v2 4 v1 0 v3 v5) (fun u19 r19 => some (u19, ())))))))))
set_option maxRecDepth 100000 in
set_option maxHeartbeats 4000000 in
theorem wb_Wl_signal_0 {p : Program} {l : Launch} {e : Env} {s : State} {m : MethodId} {args : Array Value} {below : List Frame} {meth : Method} {c : Code} {s0 : State} {b0 : Nat} {D : va_G} {cB cI cJ cZ cS cP : ClassId} {A : Nat → Prop} {sk sv : Nat → Nat} {ad : Nat → Nat} (C0 : XCx p s s0 b0 m args meth c R_Wl b_Wl_signal 7 none D cB cI cJ cZ cS cP A) (hE : ENV s0 b0 sk sv) (N : Nat) (G : Unit) (hG : True) : ∀ (u : CS) (v0 : Nat) (v1 : Int32) (v2 : Option Nat) (v3 : Int64) (v5 : Option Nat) (x : CS × Unit), fb_Wl_signal_0 N G u v0 v1 v2 v3 v5 = some x → ∀ (H : Heap) (locs : List Loc), va_P D cls (wC cB cI cJ cZ cS cP ad u) H → va_D A (wC cB cI cJ cZ cS cP ad u) → va_S A s.heap H locs → ∀ (ls : Array Slot), lv_has ls 7 [(0, .ref (ad v0)), (1, .int v1), (2, va_rf (Option.map ad v2)), (3, .long v3), (5, va_rf (Option.map ad v5))] → W p l e rm_Wl_signal s m args below meth c H locs 0 0 (MQ below (xQ0 D cB cI cJ cZ cS cP A ad x.1 none) args s 0 0 A) (F0 m 0 ls []) := by
  intro u v0 v1 v2 v3 v5 x hf H locs hP hD hS ls hl
  obtain ⟨hx, hb, hr, hml, ht, hown, hK, hA, hlocks, hA0, hO, hbs⟩ := id C0
  unfold fb_Wl_signal_0 at hf
  refine x_aload_n hx hb d_Wl_signal_0 rfl (lv_at hl 2 rfl) ?_
  obtain ⟨j14, ej14, hf⟩ := bo_some hf
  rw [ej14]
  obtain ⟨r15, g15, hf⟩ := bo_some hf
  refine xg_I (i := j14) (k := 9) hx hb ht hown ck_Pr hK hP (by decide) fk_Wl_91 g15 d_Wl_signal_1 ?_
  refine lv_iconst (v := 3) hx hb d_Wl_signal_4 (by decide) ?_
  refine lv_icmp_ne (tgt := 9) hx hb d_Wl_signal_5 (by decide) (fun hc => ?_) (fun hc => ?_)
  · rw [br_n _ hc] at hf
    refine x_aload_n hx hb d_Wl_signal_9 rfl (lv_at hl 2 rfl) ?_
    obtain ⟨j16, ej16, hf⟩ := bo_some hf
    rw [ej16]
    obtain ⟨r17, g17, hf⟩ := bo_some hf
    refine xg_I (i := j16) (k := 11) hx hb ht hown ck_Pr hK hP (by decide) fk_Wl_148 g17 d_Wl_signal_10 ?_
    refine lv_if_eq (tgt := 28) hx hb d_Wl_signal_13 (by decide) (fun hc => ?_) (fun hc => ?_)
    · rw [br_p _ hc] at hf
      refine lv_lload_n hx hb d_Wl_signal_28 rfl (lv_at hl 3 rfl) ?_
      refine lv_iconst (v := 1) hx hb d_Wl_signal_29 (by decide) ?_
      refine lv_iconst (v := 4) hx hb d_Wl_signal_30 (by decide) ?_
      obtain ⟨u18, r18, hc18, hf⟩ := bx_some hf
      refine xS0 (As := [.int 1, .int 4]) (rest := [.long v3]) C0 hP hD hS (c_Te_make N hc18) k_Te_make (wd_of 1739 (by decide +kernel) rfl) ht_Te_make hini_Te rfl rfl hd_Te_make rfl rm_Wl_signal_Te_make hl.1 (Nat.le_of_ble_eq_true rfl) d_Wl_signal_31 rfl ⟨Nat.zero_le _, Nat.zero_le _⟩ (fun H locs hP hD hS => ?_)
      refine W.lcmp hx hb d_Wl_signal_34 ?_
      refine lv_if_ne (tgt := 42) hx hb d_Wl_signal_35 (by decide) (fun hc => ?_) (fun hc => ?_)
      · rw [br_n _ hc] at hf
        refine lv_iconst (v := 0) hx hb d_Wl_signal_42 (by decide) ?_
        exact wb_Wl_signal_43 C0 hE N G hG _ _ _ _ _ _ _ _ hf H locs hP hD hS ls (lv_sub hl [0, 1, 2, 3, 4] rfl)
      · rw [br_p _ hc] at hf
        refine lv_iconst (v := 1) hx hb d_Wl_signal_38 (by decide) ?_
        refine lv_goto (tgt := 43) hx hb d_Wl_signal_39 (by decide) ?_
        exact wb_Wl_signal_43 C0 hE N G hG _ _ _ _ _ _ _ _ hf H locs hP hD hS ls (lv_sub hl [0, 1, 2, 3, 4] rfl)
    · rw [br_n _ hc] at hf
      refine lv_aload_n hx hb d_Wl_signal_16 rfl (lv_at hl 0 rfl) ?_
      refine x_aload_n hx hb d_Wl_signal_17 rfl (lv_at hl 2 rfl) ?_
      refine lv_iconst (v := 4) hx hb d_Wl_signal_18 (by decide) ?_
      refine lv_iload_n hx hb d_Wl_signal_19 rfl (lv_at hl 1 rfl) ?_
      refine lv_iconst (v := 0) hx hb d_Wl_signal_20 (by decide) ?_
      refine lv_lload_n hx hb d_Wl_signal_21 rfl (lv_at hl 3 rfl) ?_
      refine x_aload hx hb d_Wl_signal_22 (lv_at hl 4 rfl) ?_
      obtain ⟨hO9, hf⟩ := ck_some hf
      obtain ⟨u19, r19, hc19, hf⟩ := bx_some hf
      refine xV0 (i := v0) (As := [va_rf (Option.map ad v2), .int 4, .int v1, .int 0, .long v3, va_rf (Option.map ad v5)]) (rest := []) C0 hP hD hS ck_Wl hO9 (c_Wl_post N hE hc19) k_Wl_post (wd_of 1810 (by decide +kernel) rfl) hi_Wl_post hs_Wl_post hini_Wl rfl rfl hd_Wl_post rfl rm_Wl_signal_Wl_post hl.1 (Nat.le_of_ble_eq_true rfl) d_Wl_signal_24 rfl ⟨Nat.zero_le _, Nat.zero_le _⟩ (fun H locs hP hD hS => ?_)
      exact xr0_v C0 hP hD hS hf d_Wl_signal_27
  · rw [br_p _ hc] at hf
    exact xr0_v C0 hP hD hS hf d_Wl_signal_8
def fm_Wl_signal (N : Nat) (u : CS) (v0 : Nat) (v1 : Int32) (v2 : Option Nat) (v3 : Int64) (v5 : Option Nat) : Option (CS × Unit) := fb_Wl_signal_0 N () u v0 v1 v2 v3 v5
set_option maxRecDepth 100000 in
set_option maxHeartbeats 4000000 in
theorem c_Wl_signal (N : Nat) {l : Launch} {s0 : State} {b0 : Nat} {D : va_G} {cB cI cJ cZ cS cP : ClassId} {sk sv : Nat → Nat} {ad : Nat → Nat} {u : CS} {sz : Nat} {v0 : Nat} {v1 : Int32} {v2 : Option Nat} {v3 : Int64} {v5 : Option Nat} {x : CS × Unit} (hE : ENV s0 b0 sk sv) (hf : fm_Wl_signal N u v0 v1 v2 v3 v5 = some x) : Met l y_Wl_signal (wd_ws y_Wl_signal b_Wl_signal 7 none) rm_Wl_signal (xPc s0 b0 D cB cI cJ cZ cS cP ad u sz [.ref (ad v0), .int v1, va_rf (Option.map ad v2), .long v3, va_rf (Option.map ad v5)]) (xQ0 D cB cI cJ cZ cS cP (xA cB cI cJ cZ cS cP ad u sz) ad x.1 none) 0 0 (xA cB cI cJ cZ cS cP ad u sz) :=
  xMet (by decide) rfl (by cases v2 <;> cases v5 <;> exact Nat.le_of_ble_eq_true rfl) (fun p e s m below meth c ls hsz hnm C0 hP hD hS hl =>
    wb_Wl_signal_0 C0 hE N () trivial u _ _ _ _ _ x hf s.heap [] hP hD hS ls (by rw [show lv_args 0 [.ref (ad v0), .int v1, va_rf (Option.map ad v2), .long v3, va_rf (Option.map ad v5)] = [(0, .ref (ad v0)), (1, .int v1), (2, va_rf (Option.map ad v2)), (3, .long v3), (5, va_rf (Option.map ad v5))] from by cases v2 <;> cases v5 <;> rfl] at hl; exact lv_sub hl [0, 1, 2, 3, 4] rfl))
abbrev b_Pr_removeLink : ByteArray := prog_7_method_12_code
def y_Pr_removeLink : MethodName := ⟨R_Pr, "removeLink", "(I)V"⟩
def w_Pr_removeLink : List Cond := wd_ws y_Pr_removeLink b_Pr_removeLink 3 none
set_option maxRecDepth 100000 in
theorem k_Pr_removeLink : Cond.code y_Pr_removeLink b_Pr_removeLink 3 none ∈ wd_tbl := wd_of 1834 rfl rfl
theorem d_Pr_removeLink_0 : decode b_Pr_removeLink 0 = .ok (.aload_n 0, 1) := by decide +kernel
theorem d_Pr_removeLink_1 : decode b_Pr_removeLink 1 = .ok (.iload_n 1, 1) := by decide +kernel
theorem d_Pr_removeLink_2 : decode b_Pr_removeLink 2 = .ok (.invokevirtual 121, 3) := by decide +kernel
theorem d_Pr_removeLink_5 : decode b_Pr_removeLink 5 = .ok (.istore_n 2, 1) := by decide +kernel
theorem d_Pr_removeLink_6 : decode b_Pr_removeLink 6 = .ok (.iload_n 2, 1) := by decide +kernel
theorem d_Pr_removeLink_7 : decode b_Pr_removeLink 7 = .ok (.iconst (-1), 1) := by decide +kernel
theorem d_Pr_removeLink_8 : decode b_Pr_removeLink 8 = .ok (.if_icmp .eq 36, 3) := by decide +kernel
theorem d_Pr_removeLink_11 : decode b_Pr_removeLink 11 = .ok (.aload_n 0, 1) := by decide +kernel
theorem d_Pr_removeLink_12 : decode b_Pr_removeLink 12 = .ok (.getfield 28, 3) := by decide +kernel
theorem d_Pr_removeLink_15 : decode b_Pr_removeLink 15 = .ok (.iload_n 2, 1) := by decide +kernel
theorem d_Pr_removeLink_16 : decode b_Pr_removeLink 16 = .ok (.iconst 1, 1) := by decide +kernel
theorem d_Pr_removeLink_17 : decode b_Pr_removeLink 17 = .ok (.iadd, 1) := by decide +kernel
theorem d_Pr_removeLink_18 : decode b_Pr_removeLink 18 = .ok (.aload_n 0, 1) := by decide +kernel
theorem d_Pr_removeLink_19 : decode b_Pr_removeLink 19 = .ok (.getfield 28, 3) := by decide +kernel
theorem d_Pr_removeLink_22 : decode b_Pr_removeLink 22 = .ok (.iload_n 2, 1) := by decide +kernel
theorem d_Pr_removeLink_23 : decode b_Pr_removeLink 23 = .ok (.aload_n 0, 1) := by decide +kernel
theorem d_Pr_removeLink_24 : decode b_Pr_removeLink 24 = .ok (.getfield 70, 3) := by decide +kernel
theorem d_Pr_removeLink_27 : decode b_Pr_removeLink 27 = .ok (.iload_n 2, 1) := by decide +kernel
theorem d_Pr_removeLink_28 : decode b_Pr_removeLink 28 = .ok (.isub, 1) := by decide +kernel
theorem d_Pr_removeLink_29 : decode b_Pr_removeLink 29 = .ok (.iconst 1, 1) := by decide +kernel
theorem d_Pr_removeLink_30 : decode b_Pr_removeLink 30 = .ok (.isub, 1) := by decide +kernel
theorem d_Pr_removeLink_31 : decode b_Pr_removeLink 31 = .ok (.invokestatic 101, 3) := by decide +kernel
theorem d_Pr_removeLink_34 : decode b_Pr_removeLink 34 = .ok (.aload_n 0, 1) := by decide +kernel
theorem d_Pr_removeLink_35 : decode b_Pr_removeLink 35 = .ok (.dup, 1) := by decide +kernel
theorem d_Pr_removeLink_36 : decode b_Pr_removeLink 36 = .ok (.getfield 70, 3) := by decide +kernel
theorem d_Pr_removeLink_39 : decode b_Pr_removeLink 39 = .ok (.iconst 1, 1) := by decide +kernel
theorem d_Pr_removeLink_40 : decode b_Pr_removeLink 40 = .ok (.isub, 1) := by decide +kernel
theorem d_Pr_removeLink_41 : decode b_Pr_removeLink 41 = .ok (.putfield 70, 3) := by decide +kernel
theorem d_Pr_removeLink_44 : decode b_Pr_removeLink 44 = .ok (.return_, 1) := by decide +kernel
set_option maxRecDepth 100000 in
theorem hi_Pr_removeLink : Cond.instanceMethod y_Pr_removeLink ∈ wd_tbl := wd_of 1832 (by decide +kernel) rfl
set_option maxRecDepth 100000 in
theorem hs_Pr_removeLink : Cond.selects R_Pr y_Pr_removeLink y_Pr_removeLink ∈ wd_tbl := wd_of 1833 (by decide +kernel) rfl
theorem hd_Pr_removeLink : y_Pr_removeLink.cls = R_Pr ∧ y_Pr_removeLink.cls ≠ "java/lang/invoke/MethodHandle" ∧ y_Pr_removeLink.cls ≠ "java/lang/invoke/VarHandle" ∧ (parseMethodDescriptor y_Pr_removeLink.desc).map (fun d => d.parameters.length) = some 1 := by decide +kernel
def rm_Pr_removeLink : Room := { frames := 1, cells := 0, slots := 0, locals := 48 }
theorem rm_Pr_removeLink_Pr_seekLink : (rm_Pr_seekLink).frames + 1 ≤ rm_Pr_removeLink.frames ∧ 8 + (3 + 11) + (rm_Pr_seekLink).locals ≤ rm_Pr_removeLink.locals := by
  show 0 + 1 ≤ 1 ∧ 8 + (3 + 11) + 0 ≤ 48
  decide
def fb_Pr_removeLink_44 (N : Nat) (G : Unit) (u : CS) : Option (CS × Unit) := some (u, ())
set_option maxRecDepth 100000 in
set_option maxHeartbeats 4000000 in
theorem wb_Pr_removeLink_44 {p : Program} {l : Launch} {e : Env} {s : State} {m : MethodId} {args : Array Value} {below : List Frame} {meth : Method} {c : Code} {s0 : State} {b0 : Nat} {D : va_G} {cB cI cJ cZ cS cP : ClassId} {A : Nat → Prop} {sk sv : Nat → Nat} {ad : Nat → Nat} (C0 : XCx p s s0 b0 m args meth c R_Pr b_Pr_removeLink 3 none D cB cI cJ cZ cS cP A) (hE : ENV s0 b0 sk sv) (N : Nat) (G : Unit) (hG : True) : ∀ (u : CS) (x : CS × Unit), fb_Pr_removeLink_44 N G u = some x → ∀ (H : Heap) (locs : List Loc), va_P D cls (wC cB cI cJ cZ cS cP ad u) H → va_D A (wC cB cI cJ cZ cS cP ad u) → va_S A s.heap H locs → ∀ (ls : Array Slot), lv_has ls 3 [] → W p l e rm_Pr_removeLink s m args below meth c H locs 0 0 (MQ below (xQ0 D cB cI cJ cZ cS cP A ad x.1 none) args s 0 0 A) (F0 m 44 ls []) := by
  intro u x hf H locs hP hD hS ls hl
  obtain ⟨hx, hb, hr, hml, ht, hown, hK, hA, hlocks, hA0, hO, hbs⟩ := id C0
  unfold fb_Pr_removeLink_44 at hf
  exact xr0_v C0 hP hD hS hf d_Pr_removeLink_44
def fb_Pr_removeLink_0 (N : Nat) (G : Unit) (u : CS) (v0 : Nat) (v1 : Int32) : Option (CS × Unit) := ck (isO u v0 7) (bx (fm_Pr_seekLink N u v0 v1) (fun u1 r1 => br (decide (r1 = (-1))) (fb_Pr_removeLink_44 N G u1) (bo (gR u1 v0 7 14) (fun r2 => bo (gR u1 v0 7 14) (fun r3 => bo (gI u1 v0 7 15) (fun r4 => bo r3 (fun j5 => bo r2 (fun j6 => bo (cpI u1 4 j6 (r1 + 1) j5 r1 ((r4 - r1) - 1)) (fun w7 => bo (gI w7 v0 7 15) (fun r8 => bo (pF w7 v0 7 15 (.inl (r8 - 1))) (fun w9 => fb_Pr_removeLink_44 N G w9)))))))))))
set_option maxRecDepth 100000 in
set_option maxHeartbeats 4000000 in
theorem wb_Pr_removeLink_0 {p : Program} {l : Launch} {e : Env} {s : State} {m : MethodId} {args : Array Value} {below : List Frame} {meth : Method} {c : Code} {s0 : State} {b0 : Nat} {D : va_G} {cB cI cJ cZ cS cP : ClassId} {A : Nat → Prop} {sk sv : Nat → Nat} {ad : Nat → Nat} (C0 : XCx p s s0 b0 m args meth c R_Pr b_Pr_removeLink 3 none D cB cI cJ cZ cS cP A) (hE : ENV s0 b0 sk sv) (N : Nat) (G : Unit) (hG : True) : ∀ (u : CS) (v0 : Nat) (v1 : Int32) (x : CS × Unit), fb_Pr_removeLink_0 N G u v0 v1 = some x → ∀ (H : Heap) (locs : List Loc), va_P D cls (wC cB cI cJ cZ cS cP ad u) H → va_D A (wC cB cI cJ cZ cS cP ad u) → va_S A s.heap H locs → ∀ (ls : Array Slot), lv_has ls 3 [(0, .ref (ad v0)), (1, .int v1)] → W p l e rm_Pr_removeLink s m args below meth c H locs 0 0 (MQ below (xQ0 D cB cI cJ cZ cS cP A ad x.1 none) args s 0 0 A) (F0 m 0 ls []) := by
  intro u v0 v1 x hf H locs hP hD hS ls hl
  obtain ⟨hx, hb, hr, hml, ht, hown, hK, hA, hlocks, hA0, hO, hbs⟩ := id C0
  unfold fb_Pr_removeLink_0 at hf
  refine lv_aload_n hx hb d_Pr_removeLink_0 rfl (lv_at hl 0 rfl) ?_
  refine lv_iload_n hx hb d_Pr_removeLink_1 rfl (lv_at hl 1 rfl) ?_
  obtain ⟨hO9, hf⟩ := ck_some hf
  obtain ⟨u1, r1, hc1, hf⟩ := bx_some hf
  refine xV0 (i := v0) (As := [.int v1]) (rest := []) C0 hP hD hS ck_Pr hO9 (c_Pr_seekLink N hc1) k_Pr_seekLink (wd_of 1835 (by decide +kernel) rfl) hi_Pr_seekLink hs_Pr_seekLink hini_Pr rfl rfl hd_Pr_seekLink rfl rm_Pr_removeLink_Pr_seekLink hl.1 (Nat.le_of_ble_eq_true rfl) d_Pr_removeLink_2 rfl ⟨Nat.zero_le _, Nat.zero_le _⟩ (fun H locs hP hD hS => ?_)
  refine lv_istore_n (lv' := [(2, .int r1), (0, .ref (ad v0)), (1, .int v1)]) hx hb d_Pr_removeLink_5 rfl hl (by decide) (by first | rfl | simp [List.filter, cat_rf]) (fun ls hl => ?_)
  refine lv_iload_n hx hb d_Pr_removeLink_6 rfl (lv_at hl 0 rfl) ?_
  refine lv_iconst (v := (-1)) hx hb d_Pr_removeLink_7 (by decide) ?_
  refine lv_icmp_eq (tgt := 44) hx hb d_Pr_removeLink_8 (by decide) (fun hc => ?_) (fun hc => ?_)
  · rw [br_p _ hc] at hf
    exact wb_Pr_removeLink_44 C0 hE N G hG _ _ hf H locs hP hD hS ls (lv_sub hl [] rfl)
  · rw [br_n _ hc] at hf
    refine lv_aload_n hx hb d_Pr_removeLink_11 rfl (lv_at hl 1 rfl) ?_
    obtain ⟨r2, g2, hf⟩ := bo_some hf
    refine xg_R (i := v0) (k := 14) hx hb ht hown ck_Pr hK hP (by decide) fk_Pr_28 g2 d_Pr_removeLink_12 ?_
    refine lv_iload_n hx hb d_Pr_removeLink_15 rfl (lv_at hl 0 rfl) ?_
    refine lv_iconst (v := 1) hx hb d_Pr_removeLink_16 (by decide) ?_
    refine lv_iadd hx hb d_Pr_removeLink_17 ?_
    refine lv_aload_n hx hb d_Pr_removeLink_18 rfl (lv_at hl 1 rfl) ?_
    obtain ⟨r3, g3, hf⟩ := bo_some hf
    refine xg_R (i := v0) (k := 14) hx hb ht hown ck_Pr hK hP (by decide) fk_Pr_28 g3 d_Pr_removeLink_19 ?_
    refine lv_iload_n hx hb d_Pr_removeLink_22 rfl (lv_at hl 0 rfl) ?_
    refine lv_aload_n hx hb d_Pr_removeLink_23 rfl (lv_at hl 1 rfl) ?_
    obtain ⟨r4, g4, hf⟩ := bo_some hf
    refine xg_I (i := v0) (k := 15) hx hb ht hown ck_Pr hK hP (by decide) fk_Pr_70 g4 d_Pr_removeLink_24 ?_
    refine lv_iload_n hx hb d_Pr_removeLink_27 rfl (lv_at hl 0 rfl) ?_
    refine lv_isub hx hb d_Pr_removeLink_28 ?_
    refine lv_iconst (v := 1) hx hb d_Pr_removeLink_29 (by decide) ?_
    refine lv_isub hx hb d_Pr_removeLink_30 ?_
    obtain ⟨j5, ej5, hf⟩ := bo_some hf
    rw [ej5]
    obtain ⟨j6, ej6, hf⟩ := bo_some hf
    rw [ej6]
    obtain ⟨w7, g7, hf⟩ := bo_some hf
    refine x_cpI (a0 := j6) (a1 := j5) hx hb (hml.trans hl.1.symm) ht hown (wd_of 1701 (by decide +kernel) rfl) (wd_of 870 (by decide +kernel) rfl) (wd_of 869 (by decide +kernel) rfl) (wd_of 282 (by decide +kernel) rfl) hK hP hD hS (Or.inr rfl) g7 (Nat.le_of_ble_eq_true rfl) (Nat.le_of_ble_eq_true rfl) d_Pr_removeLink_31 (fun H locs hP hD hS => ?_)
    refine lv_aload_n hx hb d_Pr_removeLink_34 rfl (lv_at hl 1 rfl) ?_
    refine lv_dup hx hb d_Pr_removeLink_35 rfl ?_
    obtain ⟨r8, g8, hf⟩ := bo_some hf
    refine xg_I (i := v0) (k := 15) hx hb ht hown ck_Pr hK hP (by decide) fk_Pr_70 g8 d_Pr_removeLink_36 ?_
    refine lv_iconst (v := 1) hx hb d_Pr_removeLink_39 (by decide) ?_
    refine lv_isub hx hb d_Pr_removeLink_40 ?_
    obtain ⟨w9, g9, hf⟩ := bo_some hf
    refine xp (i := v0) (k := 15) (v := (.inl (r8 - 1))) hx hb ht hown ck_Pr hK hP hD hS (by decide) fk_Pr_70 rfl g9 rfl rfl d_Pr_removeLink_41 (fun H locs hP hD hS => ?_)
    exact wb_Pr_removeLink_44 C0 hE N G hG _ _ hf H locs hP hD hS ls (lv_sub hl [] rfl)
def fm_Pr_removeLink (N : Nat) (u : CS) (v0 : Nat) (v1 : Int32) : Option (CS × Unit) := fb_Pr_removeLink_0 N () u v0 v1
set_option maxRecDepth 100000 in
set_option maxHeartbeats 4000000 in
theorem c_Pr_removeLink (N : Nat) {l : Launch} {s0 : State} {b0 : Nat} {D : va_G} {cB cI cJ cZ cS cP : ClassId} {sk sv : Nat → Nat} {ad : Nat → Nat} {u : CS} {sz : Nat} {v0 : Nat} {v1 : Int32} {x : CS × Unit} (hE : ENV s0 b0 sk sv) (hf : fm_Pr_removeLink N u v0 v1 = some x) : Met l y_Pr_removeLink (wd_ws y_Pr_removeLink b_Pr_removeLink 3 none) rm_Pr_removeLink (xPc s0 b0 D cB cI cJ cZ cS cP ad u sz [.ref (ad v0), .int v1]) (xQ0 D cB cI cJ cZ cS cP (xA cB cI cJ cZ cS cP ad u sz) ad x.1 none) 0 0 (xA cB cI cJ cZ cS cP ad u sz) :=
  xMet (by decide) rfl (Nat.le_of_ble_eq_true rfl) (fun p e s m below meth c ls hsz hnm C0 hP hD hS hl =>
    wb_Pr_removeLink_0 C0 hE N () trivial u _ _ x hf s.heap [] hP hD hS ls (lv_sub hl [0, 1] rfl))
abbrev b_Ma_watch : ByteArray := prog_5_method_51_code
def y_Ma_watch : MethodName := ⟨R_Ma, "watch", "(LMailHouse$Process;)J"⟩
def w_Ma_watch : List Cond := wd_ws y_Ma_watch b_Ma_watch 3 (some .long)
set_option maxRecDepth 100000 in
theorem k_Ma_watch : Cond.code y_Ma_watch b_Ma_watch 3 (some .long) ∈ wd_tbl := wd_of 1839 rfl rfl
theorem d_Ma_watch_0 : decode b_Ma_watch 0 = .ok (.aload_n 0, 1) := by decide +kernel
theorem d_Ma_watch_1 : decode b_Ma_watch 1 = .ok (.getfield 15, 3) := by decide +kernel
theorem d_Ma_watch_4 : decode b_Ma_watch 4 = .ok (.getfield 462, 3) := by decide +kernel
theorem d_Ma_watch_7 : decode b_Ma_watch 7 = .ok (.istore_n 2, 1) := by decide +kernel
theorem d_Ma_watch_8 : decode b_Ma_watch 8 = .ok (.aload_n 0, 1) := by decide +kernel
theorem d_Ma_watch_9 : decode b_Ma_watch 9 = .ok (.getfield 15, 3) := by decide +kernel
theorem d_Ma_watch_12 : decode b_Ma_watch 12 = .ok (.dup, 1) := by decide +kernel
theorem d_Ma_watch_13 : decode b_Ma_watch 13 = .ok (.getfield 462, 3) := by decide +kernel
theorem d_Ma_watch_16 : decode b_Ma_watch 16 = .ok (.iconst 1, 1) := by decide +kernel
theorem d_Ma_watch_17 : decode b_Ma_watch 17 = .ok (.iadd, 1) := by decide +kernel
theorem d_Ma_watch_18 : decode b_Ma_watch 18 = .ok (.putfield 462, 3) := by decide +kernel
theorem d_Ma_watch_21 : decode b_Ma_watch 21 = .ok (.aload_n 1, 1) := by decide +kernel
theorem d_Ma_watch_22 : decode b_Ma_watch 22 = .ok (.getfield 60, 3) := by decide +kernel
theorem d_Ma_watch_25 : decode b_Ma_watch 25 = .ok (.iconst 3, 1) := by decide +kernel
theorem d_Ma_watch_26 : decode b_Ma_watch 26 = .ok (.if_icmp .ne 28, 3) := by decide +kernel
theorem d_Ma_watch_29 : decode b_Ma_watch 29 = .ok (.aload_n 0, 1) := by decide +kernel
theorem d_Ma_watch_30 : decode b_Ma_watch 30 = .ok (.getfield 15, 3) := by decide +kernel
theorem d_Ma_watch_33 : decode b_Ma_watch 33 = .ok (.aload_n 0, 1) := by decide +kernel
theorem d_Ma_watch_34 : decode b_Ma_watch 34 = .ok (.getfield 23, 3) := by decide +kernel
theorem d_Ma_watch_37 : decode b_Ma_watch 37 = .ok (.iconst 5, 1) := by decide +kernel
theorem d_Ma_watch_38 : decode b_Ma_watch 38 = .ok (.aload_n 1, 1) := by decide +kernel
theorem d_Ma_watch_39 : decode b_Ma_watch 39 = .ok (.getfield 282, 3) := by decide +kernel
theorem d_Ma_watch_42 : decode b_Ma_watch 42 = .ok (.iload_n 2, 1) := by decide +kernel
theorem d_Ma_watch_43 : decode b_Ma_watch 43 = .ok (.iconst 3, 1) := by decide +kernel
theorem d_Ma_watch_44 : decode b_Ma_watch 44 = .ok (.invokestatic 105, 3) := by decide +kernel
theorem d_Ma_watch_47 : decode b_Ma_watch 47 = .ok (.aconst_null, 1) := by decide +kernel
theorem d_Ma_watch_48 : decode b_Ma_watch 48 = .ok (.invokevirtual 284, 3) := by decide +kernel
theorem d_Ma_watch_51 : decode b_Ma_watch 51 = .ok (.goto 30, 3) := by decide +kernel
theorem d_Ma_watch_54 : decode b_Ma_watch 54 = .ok (.aload_n 1, 1) := by decide +kernel
theorem d_Ma_watch_55 : decode b_Ma_watch 55 = .ok (.aload_n 0, 1) := by decide +kernel
theorem d_Ma_watch_56 : decode b_Ma_watch 56 = .ok (.getfield 23, 3) := by decide +kernel
theorem d_Ma_watch_59 : decode b_Ma_watch 59 = .ok (.if_acmp .eq 22, 3) := by decide +kernel
theorem d_Ma_watch_62 : decode b_Ma_watch 62 = .ok (.aload_n 0, 1) := by decide +kernel
theorem d_Ma_watch_63 : decode b_Ma_watch 63 = .ok (.getfield 15, 3) := by decide +kernel
theorem d_Ma_watch_66 : decode b_Ma_watch 66 = .ok (.aload_n 0, 1) := by decide +kernel
theorem d_Ma_watch_67 : decode b_Ma_watch 67 = .ok (.getfield 23, 3) := by decide +kernel
theorem d_Ma_watch_70 : decode b_Ma_watch 70 = .ok (.getfield 282, 3) := by decide +kernel
theorem d_Ma_watch_73 : decode b_Ma_watch 73 = .ok (.aload_n 1, 1) := by decide +kernel
theorem d_Ma_watch_74 : decode b_Ma_watch 74 = .ok (.getfield 282, 3) := by decide +kernel
theorem d_Ma_watch_77 : decode b_Ma_watch 77 = .ok (.iload_n 2, 1) := by decide +kernel
theorem d_Ma_watch_78 : decode b_Ma_watch 78 = .ok (.invokevirtual 465, 3) := by decide +kernel
theorem d_Ma_watch_81 : decode b_Ma_watch 81 = .ok (.iconst 2, 1) := by decide +kernel
theorem d_Ma_watch_82 : decode b_Ma_watch 82 = .ok (.iload_n 2, 1) := by decide +kernel
theorem d_Ma_watch_83 : decode b_Ma_watch 83 = .ok (.invokestatic 101, 3) := by decide +kernel
theorem d_Ma_watch_86 : decode b_Ma_watch 86 = .ok (.lreturn, 1) := by decide +kernel
set_option maxRecDepth 100000 in
theorem hl_Ma_watch : Cond.methodLink R_Ma 458 y_Ma_watch ∈ wd_tbl := wd_of 1836 (by decide +kernel) rfl
set_option maxRecDepth 100000 in
theorem hi_Ma_watch : Cond.instanceMethod y_Ma_watch ∈ wd_tbl := wd_of 1838 (by decide +kernel) rfl
set_option maxRecDepth 100000 in
theorem hs_Ma_watch : Cond.selects R_Ma y_Ma_watch y_Ma_watch ∈ wd_tbl := wd_of 89 (by decide +kernel) rfl
theorem hd_Ma_watch : y_Ma_watch.cls = R_Ma ∧ y_Ma_watch.cls ≠ "java/lang/invoke/MethodHandle" ∧ y_Ma_watch.cls ≠ "java/lang/invoke/VarHandle" ∧ (parseMethodDescriptor y_Ma_watch.desc).map (fun d => d.parameters.length) = some 1 := by decide +kernel
def rm_Ma_watch : Room := { frames := 4, cells := 0, slots := 0, locals := 130 }
theorem rm_Ma_watch_Ma_atom : (rm_Ma_atom).frames + 1 ≤ rm_Ma_watch.frames ∧ 8 + (1 + 11) + (rm_Ma_atom).locals ≤ rm_Ma_watch.locals := by
  show 1 + 1 ≤ 4 ∧ 8 + (1 + 11) + 21 ≤ 130
  decide
theorem rm_Ma_watch_Wl_post : (rm_Wl_post).frames + 1 ≤ rm_Ma_watch.frames ∧ 8 + (14 + 11) + (rm_Wl_post).locals ≤ rm_Ma_watch.locals := by
  show 3 + 1 ≤ 4 ∧ 8 + (14 + 11) + 97 ≤ 130
  decide
theorem rm_Ma_watch_Wl_addWatch : (rm_Wl_addWatch).frames + 1 ≤ rm_Ma_watch.frames ∧ 8 + (4 + 11) + (rm_Wl_addWatch).locals ≤ rm_Ma_watch.locals := by
  show 0 + 1 ≤ 4 ∧ 8 + (4 + 11) + 0 ≤ 130
  decide
theorem rm_Ma_watch_Te_make : (rm_Te_make).frames + 1 ≤ rm_Ma_watch.frames ∧ 8 + (2 + 11) + (rm_Te_make).locals ≤ rm_Ma_watch.locals := by
  show 0 + 1 ≤ 4 ∧ 8 + (2 + 11) + 0 ≤ 130
  decide
def fb_Ma_watch_81 (N : Nat) (G : Unit) (u : CS) (v2 : Int32) : Option (CS × Int64) := bx (fm_Te_make N u 2 v2) (fun u1 r1 => some (u1, r1))
set_option maxRecDepth 100000 in
set_option maxHeartbeats 4000000 in
theorem wb_Ma_watch_81 {p : Program} {l : Launch} {e : Env} {s : State} {m : MethodId} {args : Array Value} {below : List Frame} {meth : Method} {c : Code} {s0 : State} {b0 : Nat} {D : va_G} {cB cI cJ cZ cS cP : ClassId} {A : Nat → Prop} {sk sv : Nat → Nat} {ad : Nat → Nat} (C0 : XCx p s s0 b0 m args meth c R_Ma b_Ma_watch 3 (some .long) D cB cI cJ cZ cS cP A) (hE : ENV s0 b0 sk sv) (N : Nat) (G : Unit) (hG : True) : ∀ (u : CS) (v2 : Int32) (x : CS × Int64), fb_Ma_watch_81 N G u v2 = some x → ∀ (H : Heap) (locs : List Loc), va_P D cls (wC cB cI cJ cZ cS cP ad u) H → va_D A (wC cB cI cJ cZ cS cP ad u) → va_S A s.heap H locs → ∀ (ls : Array Slot), lv_has ls 3 [(2, .int v2)] → W p l e rm_Ma_watch s m args below meth c H locs 0 0 (MQ below (xQ0 D cB cI cJ cZ cS cP A ad x.1 (some (.inr (.inl x.2)))) args s 0 0 A) (F0 m 81 ls []) := by
  intro u v2 x hf H locs hP hD hS ls hl
  obtain ⟨hx, hb, hr, hml, ht, hown, hK, hA, hlocks, hA0, hO, hbs⟩ := id C0
  unfold fb_Ma_watch_81 at hf
  refine lv_iconst (v := 2) hx hb d_Ma_watch_81 (by decide) ?_
  refine lv_iload_n hx hb d_Ma_watch_82 rfl (lv_at hl 0 rfl) ?_
  obtain ⟨u1, r1, hc1, hf⟩ := bx_some hf
  refine xS0 (As := [.int 2, .int v2]) (rest := []) C0 hP hD hS (c_Te_make N hc1) k_Te_make (wd_of 1671 (by decide +kernel) rfl) ht_Te_make hini_Te rfl rfl hd_Te_make rfl rm_Ma_watch_Te_make hl.1 (Nat.le_of_ble_eq_true rfl) d_Ma_watch_83 rfl ⟨Nat.zero_le _, Nat.zero_le _⟩ (fun H locs hP hD hS => ?_)
  exact xr0_l C0 hP hD hS hf d_Ma_watch_86
def fb_Ma_watch_0 (N : Nat) (G : Unit) (u : CS) (v0 : Nat) (v1 : Option Nat) : Option (CS × Int64) := bo (gR u v0 5 1) (fun r2 => bo r2 (fun j3 => bo (gI u j3 12 5) (fun r4 => bo (gR u v0 5 1) (fun r5 => bo r5 (fun j6 => bo (gI u j6 12 5) (fun r7 => bo (pF u j6 12 5 (.inl (r7 + 1))) (fun w8 => bo v1 (fun j9 => bo (gI w8 j9 7 9) (fun r10 => br (decide (r10 = 3)) (bo (gR w8 v0 5 1) (fun r20 => bo (gR w8 v0 5 3) (fun r21 => bo v1 (fun j22 => bo (gI w8 j22 7 0) (fun r23 => bx (fm_Ma_atom N w8 3) (fun u24 r24 => bo r20 (fun j26 => ck (isO u24 j26 12) (bx (fm_Wl_post N u24 j26 r21 5 r23 r4 r24 none) (fun u25 r25 => fb_Ma_watch_81 N G u25 (r4)))))))))) (bo (gR w8 v0 5 3) (fun r11 => ck (okR w8.1.1 v1) (ck (okR w8.1.1 r11) (br (decide (v1 = r11)) (fb_Ma_watch_81 N G w8 (r4)) (bo (gR w8 v0 5 1) (fun r12 => bo (gR w8 v0 5 3) (fun r13 => bo r13 (fun j14 => bo (gI w8 j14 7 0) (fun r15 => bo v1 (fun j16 => bo (gI w8 j16 7 0) (fun r17 => bo r12 (fun j19 => ck (isO w8 j19 12) (bx (fm_Wl_addWatch N w8 j19 r15 r17 r4) (fun u18 r18 => fb_Ma_watch_81 N G u18 (r4))))))))))))))))))))))))
set_option maxRecDepth 100000 in
set_option maxHeartbeats 4000000 in
theorem wb_Ma_watch_0 {p : Program} {l : Launch} {e : Env} {s : State} {m : MethodId} {args : Array Value} {below : List Frame} {meth : Method} {c : Code} {s0 : State} {b0 : Nat} {D : va_G} {cB cI cJ cZ cS cP : ClassId} {A : Nat → Prop} {sk sv : Nat → Nat} {ad : Nat → Nat} (C0 : XCx p s s0 b0 m args meth c R_Ma b_Ma_watch 3 (some .long) D cB cI cJ cZ cS cP A) (hE : ENV s0 b0 sk sv) (N : Nat) (G : Unit) (hG : True) : ∀ (u : CS) (v0 : Nat) (v1 : Option Nat) (x : CS × Int64), fb_Ma_watch_0 N G u v0 v1 = some x → ∀ (H : Heap) (locs : List Loc), va_P D cls (wC cB cI cJ cZ cS cP ad u) H → va_D A (wC cB cI cJ cZ cS cP ad u) → va_S A s.heap H locs → ∀ (ls : Array Slot), lv_has ls 3 [(0, .ref (ad v0)), (1, va_rf (Option.map ad v1))] → W p l e rm_Ma_watch s m args below meth c H locs 0 0 (MQ below (xQ0 D cB cI cJ cZ cS cP A ad x.1 (some (.inr (.inl x.2)))) args s 0 0 A) (F0 m 0 ls []) := by
  intro u v0 v1 x hf H locs hP hD hS ls hl
  obtain ⟨hx, hb, hr, hml, ht, hown, hK, hA, hlocks, hA0, hO, hbs⟩ := id C0
  unfold fb_Ma_watch_0 at hf
  refine lv_aload_n hx hb d_Ma_watch_0 rfl (lv_at hl 0 rfl) ?_
  obtain ⟨r2, g2, hf⟩ := bo_some hf
  refine xg_R (i := v0) (k := 1) hx hb ht hown ck_Ma hK hP (by decide) fk_Ma_15 g2 d_Ma_watch_1 ?_
  obtain ⟨j3, ej3, hf⟩ := bo_some hf
  rw [ej3]
  obtain ⟨r4, g4, hf⟩ := bo_some hf
  refine xg_I (i := j3) (k := 5) hx hb ht hown ck_Wl hK hP (by decide) fk_Ma_462 g4 d_Ma_watch_4 ?_
  refine lv_istore_n (lv' := [(2, .int r4), (0, .ref (ad v0)), (1, va_rf (Option.map ad v1))]) hx hb d_Ma_watch_7 rfl hl (by decide) (by first | rfl | simp [List.filter, cat_rf]) (fun ls hl => ?_)
  refine lv_aload_n hx hb d_Ma_watch_8 rfl (lv_at hl 1 rfl) ?_
  obtain ⟨r5, g5, hf⟩ := bo_some hf
  refine xg_R (i := v0) (k := 1) hx hb ht hown ck_Ma hK hP (by decide) fk_Ma_15 g5 d_Ma_watch_9 ?_
  refine lv_dup hx hb d_Ma_watch_12 (cat_rf _) ?_
  obtain ⟨j6, ej6, hf⟩ := bo_some hf
  rw [ej6]
  obtain ⟨r7, g7, hf⟩ := bo_some hf
  refine xg_I (i := j6) (k := 5) hx hb ht hown ck_Wl hK hP (by decide) fk_Ma_462 g7 d_Ma_watch_13 ?_
  refine lv_iconst (v := 1) hx hb d_Ma_watch_16 (by decide) ?_
  refine lv_iadd hx hb d_Ma_watch_17 ?_
  obtain ⟨w8, g8, hf⟩ := bo_some hf
  refine xp (i := j6) (k := 5) (v := (.inl (r7 + 1))) hx hb ht hown ck_Wl hK hP hD hS (by decide) fk_Ma_462 rfl g8 rfl rfl d_Ma_watch_18 (fun H locs hP hD hS => ?_)
  refine x_aload_n hx hb d_Ma_watch_21 rfl (lv_at hl 2 rfl) ?_
  obtain ⟨j9, ej9, hf⟩ := bo_some hf
  rw [ej9]
  obtain ⟨r10, g10, hf⟩ := bo_some hf
  refine xg_I (i := j9) (k := 9) hx hb ht hown ck_Pr hK hP (by decide) fk_Ma_60 g10 d_Ma_watch_22 ?_
  refine lv_iconst (v := 3) hx hb d_Ma_watch_25 (by decide) ?_
  refine lv_icmp_ne (tgt := 54) hx hb d_Ma_watch_26 (by decide) (fun hc => ?_) (fun hc => ?_)
  · rw [br_n _ hc] at hf
    refine x_aload_n hx hb d_Ma_watch_54 rfl (lv_at hl 2 rfl) ?_
    refine lv_aload_n hx hb d_Ma_watch_55 rfl (lv_at hl 1 rfl) ?_
    obtain ⟨r11, g11, hf⟩ := bo_some hf
    refine xg_R (i := v0) (k := 3) hx hb ht hown ck_Ma hK hP (by decide) fk_Ma_23 g11 d_Ma_watch_56 ?_
    obtain ⟨hk1, hf⟩ := ck_some hf
    obtain ⟨hk2, hf⟩ := ck_some hf
    refine x_acmp_eq (rx := v1) (ry := r11) (tgt := 81) hx hb hD hk1 hk2 d_Ma_watch_59 (by decide) (fun hc => ?_) (fun hc => ?_)
    · rw [br_p _ hc] at hf
      exact wb_Ma_watch_81 C0 hE N G hG _ _ _ hf H locs hP hD hS ls (lv_sub hl [0] rfl)
    · rw [br_n _ hc] at hf
      refine lv_aload_n hx hb d_Ma_watch_62 rfl (lv_at hl 1 rfl) ?_
      obtain ⟨r12, g12, hf⟩ := bo_some hf
      refine xg_R (i := v0) (k := 1) hx hb ht hown ck_Ma hK hP (by decide) fk_Ma_15 g12 d_Ma_watch_63 ?_
      refine lv_aload_n hx hb d_Ma_watch_66 rfl (lv_at hl 1 rfl) ?_
      obtain ⟨r13, g13, hf⟩ := bo_some hf
      refine xg_R (i := v0) (k := 3) hx hb ht hown ck_Ma hK hP (by decide) fk_Ma_23 g13 d_Ma_watch_67 ?_
      obtain ⟨j14, ej14, hf⟩ := bo_some hf
      rw [ej14]
      obtain ⟨r15, g15, hf⟩ := bo_some hf
      refine xg_I (i := j14) (k := 0) hx hb ht hown ck_Pr hK hP (by decide) fk_Ma_282 g15 d_Ma_watch_70 ?_
      refine x_aload_n hx hb d_Ma_watch_73 rfl (lv_at hl 2 rfl) ?_
      obtain ⟨j16, ej16, hf⟩ := bo_some hf
      rw [ej16]
      obtain ⟨r17, g17, hf⟩ := bo_some hf
      refine xg_I (i := j16) (k := 0) hx hb ht hown ck_Pr hK hP (by decide) fk_Ma_282 g17 d_Ma_watch_74 ?_
      refine lv_iload_n hx hb d_Ma_watch_77 rfl (lv_at hl 0 rfl) ?_
      obtain ⟨j19, ej19, hf⟩ := bo_some hf
      rw [ej19]
      obtain ⟨hO9, hf⟩ := ck_some hf
      obtain ⟨u18, r18, hc18, hf⟩ := bx_some hf
      refine xV0 (i := j19) (As := [.int r15, .int r17, .int r4]) (rest := []) C0 hP hD hS ck_Wl hO9 (c_Wl_addWatch N hc18) k_Wl_addWatch (wd_of 1841 (by decide +kernel) rfl) hi_Wl_addWatch hs_Wl_addWatch hini_Wl rfl rfl hd_Wl_addWatch rfl rm_Ma_watch_Wl_addWatch hl.1 (Nat.le_of_ble_eq_true rfl) d_Ma_watch_78 rfl ⟨Nat.zero_le _, Nat.zero_le _⟩ (fun H locs hP hD hS => ?_)
      exact wb_Ma_watch_81 C0 hE N G hG _ _ _ hf H locs hP hD hS ls (lv_sub hl [0] rfl)
  · rw [br_p _ hc] at hf
    refine lv_aload_n hx hb d_Ma_watch_29 rfl (lv_at hl 1 rfl) ?_
    obtain ⟨r20, g20, hf⟩ := bo_some hf
    refine xg_R (i := v0) (k := 1) hx hb ht hown ck_Ma hK hP (by decide) fk_Ma_15 g20 d_Ma_watch_30 ?_
    refine lv_aload_n hx hb d_Ma_watch_33 rfl (lv_at hl 1 rfl) ?_
    obtain ⟨r21, g21, hf⟩ := bo_some hf
    refine xg_R (i := v0) (k := 3) hx hb ht hown ck_Ma hK hP (by decide) fk_Ma_23 g21 d_Ma_watch_34 ?_
    refine lv_iconst (v := 5) hx hb d_Ma_watch_37 (by decide) ?_
    refine x_aload_n hx hb d_Ma_watch_38 rfl (lv_at hl 2 rfl) ?_
    obtain ⟨j22, ej22, hf⟩ := bo_some hf
    rw [ej22]
    obtain ⟨r23, g23, hf⟩ := bo_some hf
    refine xg_I (i := j22) (k := 0) hx hb ht hown ck_Pr hK hP (by decide) fk_Ma_282 g23 d_Ma_watch_39 ?_
    refine lv_iload_n hx hb d_Ma_watch_42 rfl (lv_at hl 0 rfl) ?_
    refine lv_iconst (v := 3) hx hb d_Ma_watch_43 (by decide) ?_
    obtain ⟨u24, r24, hc24, hf⟩ := bx_some hf
    refine xS0 (As := [.int 3]) (rest := [.int r4, .int r23, .int 5, va_rf (Option.map ad r21), va_rf (Option.map ad r20)]) C0 hP hD hS (c_Ma_atom N hc24) k_Ma_atom (wd_of 1668 (by decide +kernel) rfl) ht_Ma_atom hini_Ma rfl rfl hd_Ma_atom rfl rm_Ma_watch_Ma_atom hl.1 (by simp only [List.map_cons, List.map_nil, cat_rf]; exact Nat.le_of_ble_eq_true rfl) d_Ma_watch_44 rfl ⟨Nat.zero_le _, Nat.zero_le _⟩ (fun H locs hP hD hS => ?_)
    refine lv_null hx hb d_Ma_watch_47 ?_
    obtain ⟨j26, ej26, hf⟩ := bo_some hf
    rw [ej26]
    obtain ⟨hO9, hf⟩ := ck_some hf
    obtain ⟨u25, r25, hc25, hf⟩ := bx_some hf
    refine xV0 (i := j26) (As := [va_rf (Option.map ad r21), .int 5, .int r23, .int r4, .long r24, va_rf (Option.map ad none)]) (rest := []) C0 hP hD hS ck_Wl hO9 (c_Wl_post N hE hc25) k_Wl_post (wd_of 1840 (by decide +kernel) rfl) hi_Wl_post hs_Wl_post hini_Wl rfl rfl hd_Wl_post rfl rm_Ma_watch_Wl_post hl.1 (Nat.le_of_ble_eq_true rfl) d_Ma_watch_48 rfl ⟨Nat.zero_le _, Nat.zero_le _⟩ (fun H locs hP hD hS => ?_)
    refine lv_goto (tgt := 81) hx hb d_Ma_watch_51 (by decide) ?_
    exact wb_Ma_watch_81 C0 hE N G hG _ _ _ hf H locs hP hD hS ls (lv_sub hl [0] rfl)
def fm_Ma_watch (N : Nat) (u : CS) (v0 : Nat) (v1 : Option Nat) : Option (CS × Int64) := fb_Ma_watch_0 N () u v0 v1
set_option maxRecDepth 100000 in
set_option maxHeartbeats 4000000 in
theorem c_Ma_watch (N : Nat) {l : Launch} {s0 : State} {b0 : Nat} {D : va_G} {cB cI cJ cZ cS cP : ClassId} {sk sv : Nat → Nat} {ad : Nat → Nat} {u : CS} {sz : Nat} {v0 : Nat} {v1 : Option Nat} {x : CS × Int64} (hE : ENV s0 b0 sk sv) (hf : fm_Ma_watch N u v0 v1 = some x) : Met l y_Ma_watch (wd_ws y_Ma_watch b_Ma_watch 3 (some .long)) rm_Ma_watch (xPc s0 b0 D cB cI cJ cZ cS cP ad u sz [.ref (ad v0), va_rf (Option.map ad v1)]) (xQ0 D cB cI cJ cZ cS cP (xA cB cI cJ cZ cS cP ad u sz) ad x.1 (some (.inr (.inl x.2)))) 0 0 (xA cB cI cJ cZ cS cP ad u sz) :=
  xMet (by decide) rfl (by cases v1 <;> exact Nat.le_of_ble_eq_true rfl) (fun p e s m below meth c ls hsz hnm C0 hP hD hS hl =>
    wb_Ma_watch_0 C0 hE N () trivial u _ _ x hf s.heap [] hP hD hS ls (by rw [show lv_args 0 [.ref (ad v0), va_rf (Option.map ad v1)] = [(0, .ref (ad v0)), (1, va_rf (Option.map ad v1))] from by cases v1 <;> rfl] at hl; exact lv_sub hl [0, 1] rfl))
abbrev b_Ma_toward : ByteArray := prog_5_method_50_code
def y_Ma_toward : MethodName := ⟨R_Ma, "toward", "(I)V"⟩
def w_Ma_toward : List Cond := wd_ws y_Ma_toward b_Ma_toward 7 none
set_option maxRecDepth 100000 in
theorem k_Ma_toward : Cond.code y_Ma_toward b_Ma_toward 7 none ∈ wd_tbl := wd_of 1805 rfl rfl
theorem d_Ma_toward_0 : decode b_Ma_toward 0 = .ok (.iload_n 1, 1) := by decide +kernel
theorem d_Ma_toward_1 : decode b_Ma_toward 1 = .ok (.bipush 29, 2) := by decide +kernel
theorem d_Ma_toward_3 : decode b_Ma_toward 3 = .ok (.if_icmp .ne 7, 3) := by decide +kernel
theorem d_Ma_toward_6 : decode b_Ma_toward 6 = .ok (.iconst 2, 1) := by decide +kernel
theorem d_Ma_toward_7 : decode b_Ma_toward 7 = .ok (.goto 4, 3) := by decide +kernel
theorem d_Ma_toward_10 : decode b_Ma_toward 10 = .ok (.iconst 1, 1) := by decide +kernel
theorem d_Ma_toward_11 : decode b_Ma_toward 11 = .ok (.istore_n 2, 1) := by decide +kernel
theorem d_Ma_toward_12 : decode b_Ma_toward 12 = .ok (.aload_n 0, 1) := by decide +kernel
theorem d_Ma_toward_13 : decode b_Ma_toward 13 = .ok (.iload_n 2, 1) := by decide +kernel
theorem d_Ma_toward_14 : decode b_Ma_toward 14 = .ok (.iconst 1, 1) := by decide +kernel
theorem d_Ma_toward_15 : decode b_Ma_toward 15 = .ok (.isub, 1) := by decide +kernel
theorem d_Ma_toward_16 : decode b_Ma_toward 16 = .ok (.invokevirtual 279, 3) := by decide +kernel
theorem d_Ma_toward_19 : decode b_Ma_toward 19 = .ok (.astore_n 3, 1) := by decide +kernel
theorem d_Ma_toward_20 : decode b_Ma_toward 20 = .ok (.iload_n 1, 1) := by decide +kernel
theorem d_Ma_toward_21 : decode b_Ma_toward 21 = .ok (.bipush 29, 2) := by decide +kernel
theorem d_Ma_toward_23 : decode b_Ma_toward 23 = .ok (.if_icmp .ne 35, 3) := by decide +kernel
theorem d_Ma_toward_26 : decode b_Ma_toward 26 = .ok (.aload_n 0, 1) := by decide +kernel
theorem d_Ma_toward_27 : decode b_Ma_toward 27 = .ok (.getfield 19, 3) := by decide +kernel
theorem d_Ma_toward_30 : decode b_Ma_toward 30 = .ok (.aload_n 0, 1) := by decide +kernel
theorem d_Ma_toward_31 : decode b_Ma_toward 31 = .ok (.getfield 23, 3) := by decide +kernel
theorem d_Ma_toward_34 : decode b_Ma_toward 34 = .ok (.getfield 195, 3) := by decide +kernel
theorem d_Ma_toward_37 : decode b_Ma_toward 37 = .ok (.aload_n 0, 1) := by decide +kernel
theorem d_Ma_toward_38 : decode b_Ma_toward 38 = .ok (.getfield 33, 3) := by decide +kernel
theorem d_Ma_toward_41 : decode b_Ma_toward 41 = .ok (.iconst 0, 1) := by decide +kernel
theorem d_Ma_toward_42 : decode b_Ma_toward 42 = .ok (.invokevirtual 138, 3) := by decide +kernel
theorem d_Ma_toward_45 : decode b_Ma_toward 45 = .ok (.invokevirtual 235, 3) := by decide +kernel
theorem d_Ma_toward_48 : decode b_Ma_toward 48 = .ok (.sipush 500, 3) := by decide +kernel
theorem d_Ma_toward_51 : decode b_Ma_toward 51 = .ok (.if_icmp .le 7, 3) := by decide +kernel
theorem d_Ma_toward_54 : decode b_Ma_toward 54 = .ok (.iconst 1, 1) := by decide +kernel
theorem d_Ma_toward_55 : decode b_Ma_toward 55 = .ok (.goto 4, 3) := by decide +kernel
theorem d_Ma_toward_58 : decode b_Ma_toward 58 = .ok (.iconst 0, 1) := by decide +kernel
theorem d_Ma_toward_59 : decode b_Ma_toward 59 = .ok (.istore 4, 2) := by decide +kernel
theorem d_Ma_toward_61 : decode b_Ma_toward 61 = .ok (.aload_n 3, 1) := by decide +kernel
theorem d_Ma_toward_62 : decode b_Ma_toward 62 = .ok (.ifnull 26, 3) := by decide +kernel
theorem d_Ma_toward_65 : decode b_Ma_toward 65 = .ok (.iload 4, 2) := by decide +kernel
theorem d_Ma_toward_67 : decode b_Ma_toward 67 = .ok (.ifCond .ne 21, 3) := by decide +kernel
theorem d_Ma_toward_70 : decode b_Ma_toward 70 = .ok (.iload_n 1, 1) := by decide +kernel
theorem d_Ma_toward_71 : decode b_Ma_toward 71 = .ok (.iconst 4, 1) := by decide +kernel
theorem d_Ma_toward_72 : decode b_Ma_toward 72 = .ok (.if_icmp .ne 23, 3) := by decide +kernel
theorem d_Ma_toward_75 : decode b_Ma_toward 75 = .ok (.aload_n 0, 1) := by decide +kernel
theorem d_Ma_toward_76 : decode b_Ma_toward 76 = .ok (.getfield 15, 3) := by decide +kernel
theorem d_Ma_toward_79 : decode b_Ma_toward 79 = .ok (.getfield 442, 3) := by decide +kernel
theorem d_Ma_toward_82 : decode b_Ma_toward 82 = .ok (.sipush 200, 3) := by decide +kernel
theorem d_Ma_toward_85 : decode b_Ma_toward 85 = .ok (.if_icmp .lt 10, 3) := by decide +kernel
theorem d_Ma_toward_88 : decode b_Ma_toward 88 = .ok (.aload_n 0, 1) := by decide +kernel
theorem d_Ma_toward_89 : decode b_Ma_toward 89 = .ok (.bipush 11, 2) := by decide +kernel
theorem d_Ma_toward_91 : decode b_Ma_toward 91 = .ok (.invokevirtual 249, 3) := by decide +kernel
theorem d_Ma_toward_94 : decode b_Ma_toward 94 = .ok (.return_, 1) := by decide +kernel
theorem d_Ma_toward_95 : decode b_Ma_toward 95 = .ok (.iconst 0, 1) := by decide +kernel
theorem d_Ma_toward_96 : decode b_Ma_toward 96 = .ok (.invokestatic 105, 3) := by decide +kernel
theorem d_Ma_toward_99 : decode b_Ma_toward 99 = .ok (.lstore 5, 2) := by decide +kernel
theorem d_Ma_toward_101 : decode b_Ma_toward 101 = .ok (.iload_n 1, 1) := by decide +kernel
theorem d_Ma_toward_102 : decode b_Ma_toward 102 = .ok (.lookupswitch 215 #[(2, 42), (3, 121), (4, 146), (29, 156)], 42) := by decide +kernel
theorem d_Ma_toward_144 : decode b_Ma_toward 144 = .ok (.aload_n 3, 1) := by decide +kernel
theorem d_Ma_toward_145 : decode b_Ma_toward 145 = .ok (.getfield 60, 3) := by decide +kernel
theorem d_Ma_toward_148 : decode b_Ma_toward 148 = .ok (.iconst 3, 1) := by decide +kernel
theorem d_Ma_toward_149 : decode b_Ma_toward 149 = .ok (.if_icmp .ne 26, 3) := by decide +kernel
theorem d_Ma_toward_152 : decode b_Ma_toward 152 = .ok (.aload_n 0, 1) := by decide +kernel
theorem d_Ma_toward_153 : decode b_Ma_toward 153 = .ok (.getfield 15, 3) := by decide +kernel
theorem d_Ma_toward_156 : decode b_Ma_toward 156 = .ok (.aload_n 3, 1) := by decide +kernel
theorem d_Ma_toward_157 : decode b_Ma_toward 157 = .ok (.getfield 282, 3) := by decide +kernel
theorem d_Ma_toward_160 : decode b_Ma_toward 160 = .ok (.aload_n 0, 1) := by decide +kernel
theorem d_Ma_toward_161 : decode b_Ma_toward 161 = .ok (.getfield 23, 3) := by decide +kernel
theorem d_Ma_toward_164 : decode b_Ma_toward 164 = .ok (.iconst 3, 1) := by decide +kernel
theorem d_Ma_toward_165 : decode b_Ma_toward 165 = .ok (.invokestatic 105, 3) := by decide +kernel
theorem d_Ma_toward_168 : decode b_Ma_toward 168 = .ok (.aconst_null, 1) := by decide +kernel
theorem d_Ma_toward_169 : decode b_Ma_toward 169 = .ok (.invokevirtual 445, 3) := by decide +kernel
theorem d_Ma_toward_172 : decode b_Ma_toward 172 = .ok (.goto 163, 3) := by decide +kernel
theorem d_Ma_toward_175 : decode b_Ma_toward 175 = .ok (.aload_n 3, 1) := by decide +kernel
theorem d_Ma_toward_176 : decode b_Ma_toward 176 = .ok (.aload_n 0, 1) := by decide +kernel
theorem d_Ma_toward_177 : decode b_Ma_toward 177 = .ok (.getfield 23, 3) := by decide +kernel
theorem d_Ma_toward_180 : decode b_Ma_toward 180 = .ok (.if_acmp .eq 155, 3) := by decide +kernel
theorem d_Ma_toward_183 : decode b_Ma_toward 183 = .ok (.aload_n 0, 1) := by decide +kernel
theorem d_Ma_toward_184 : decode b_Ma_toward 184 = .ok (.getfield 23, 3) := by decide +kernel
theorem d_Ma_toward_187 : decode b_Ma_toward 187 = .ok (.aload_n 3, 1) := by decide +kernel
theorem d_Ma_toward_188 : decode b_Ma_toward 188 = .ok (.getfield 282, 3) := by decide +kernel
theorem d_Ma_toward_191 : decode b_Ma_toward 191 = .ok (.invokevirtual 449, 3) := by decide +kernel
theorem d_Ma_toward_194 : decode b_Ma_toward 194 = .ok (.iconst (-1), 1) := by decide +kernel
theorem d_Ma_toward_195 : decode b_Ma_toward 195 = .ok (.if_icmp .ne 140, 3) := by decide +kernel
theorem d_Ma_toward_198 : decode b_Ma_toward 198 = .ok (.aload_n 0, 1) := by decide +kernel
theorem d_Ma_toward_199 : decode b_Ma_toward 199 = .ok (.getfield 23, 3) := by decide +kernel
theorem d_Ma_toward_202 : decode b_Ma_toward 202 = .ok (.aload_n 3, 1) := by decide +kernel
theorem d_Ma_toward_203 : decode b_Ma_toward 203 = .ok (.getfield 282, 3) := by decide +kernel
theorem d_Ma_toward_206 : decode b_Ma_toward 206 = .ok (.invokevirtual 452, 3) := by decide +kernel
theorem d_Ma_toward_209 : decode b_Ma_toward 209 = .ok (.aload_n 3, 1) := by decide +kernel
theorem d_Ma_toward_210 : decode b_Ma_toward 210 = .ok (.aload_n 0, 1) := by decide +kernel
theorem d_Ma_toward_211 : decode b_Ma_toward 211 = .ok (.getfield 23, 3) := by decide +kernel
theorem d_Ma_toward_214 : decode b_Ma_toward 214 = .ok (.getfield 282, 3) := by decide +kernel
theorem d_Ma_toward_217 : decode b_Ma_toward 217 = .ok (.invokevirtual 452, 3) := by decide +kernel
theorem d_Ma_toward_220 : decode b_Ma_toward 220 = .ok (.goto 115, 3) := by decide +kernel
theorem d_Ma_toward_223 : decode b_Ma_toward 223 = .ok (.aload_n 0, 1) := by decide +kernel
theorem d_Ma_toward_224 : decode b_Ma_toward 224 = .ok (.getfield 23, 3) := by decide +kernel
theorem d_Ma_toward_227 : decode b_Ma_toward 227 = .ok (.aload_n 3, 1) := by decide +kernel
theorem d_Ma_toward_228 : decode b_Ma_toward 228 = .ok (.getfield 282, 3) := by decide +kernel
theorem d_Ma_toward_231 : decode b_Ma_toward 231 = .ok (.invokevirtual 455, 3) := by decide +kernel
theorem d_Ma_toward_234 : decode b_Ma_toward 234 = .ok (.aload_n 3, 1) := by decide +kernel
theorem d_Ma_toward_235 : decode b_Ma_toward 235 = .ok (.aload_n 0, 1) := by decide +kernel
theorem d_Ma_toward_236 : decode b_Ma_toward 236 = .ok (.getfield 23, 3) := by decide +kernel
theorem d_Ma_toward_239 : decode b_Ma_toward 239 = .ok (.getfield 282, 3) := by decide +kernel
theorem d_Ma_toward_242 : decode b_Ma_toward 242 = .ok (.invokevirtual 455, 3) := by decide +kernel
theorem d_Ma_toward_245 : decode b_Ma_toward 245 = .ok (.goto 90, 3) := by decide +kernel
theorem d_Ma_toward_248 : decode b_Ma_toward 248 = .ok (.aload_n 0, 1) := by decide +kernel
theorem d_Ma_toward_249 : decode b_Ma_toward 249 = .ok (.aload_n 3, 1) := by decide +kernel
theorem d_Ma_toward_250 : decode b_Ma_toward 250 = .ok (.invokevirtual 458, 3) := by decide +kernel
theorem d_Ma_toward_253 : decode b_Ma_toward 253 = .ok (.lstore 5, 2) := by decide +kernel
theorem d_Ma_toward_255 : decode b_Ma_toward 255 = .ok (.goto 80, 3) := by decide +kernel
theorem d_Ma_toward_258 : decode b_Ma_toward 258 = .ok (.aload_n 0, 1) := by decide +kernel
theorem d_Ma_toward_259 : decode b_Ma_toward 259 = .ok (.getfield 33, 3) := by decide +kernel
theorem d_Ma_toward_262 : decode b_Ma_toward 262 = .ok (.iconst 0, 1) := by decide +kernel
theorem d_Ma_toward_263 : decode b_Ma_toward 263 = .ok (.invokevirtual 138, 3) := by decide +kernel
theorem d_Ma_toward_266 : decode b_Ma_toward 266 = .ok (.iconst 5, 1) := by decide +kernel
theorem d_Ma_toward_267 : decode b_Ma_toward 267 = .ok (.invokestatic 105, 3) := by decide +kernel
theorem d_Ma_toward_270 : decode b_Ma_toward 270 = .ok (.lcmp, 1) := by decide +kernel
theorem d_Ma_toward_271 : decode b_Ma_toward 271 = .ok (.ifCond .ne 16, 3) := by decide +kernel
theorem d_Ma_toward_274 : decode b_Ma_toward 274 = .ok (.aload_n 0, 1) := by decide +kernel
theorem d_Ma_toward_275 : decode b_Ma_toward 275 = .ok (.getfield 15, 3) := by decide +kernel
theorem d_Ma_toward_278 : decode b_Ma_toward 278 = .ok (.aload_n 3, 1) := by decide +kernel
theorem d_Ma_toward_279 : decode b_Ma_toward 279 = .ok (.bipush 6, 2) := by decide +kernel
theorem d_Ma_toward_281 : decode b_Ma_toward 281 = .ok (.invokevirtual 131, 3) := by decide +kernel
theorem d_Ma_toward_284 : decode b_Ma_toward 284 = .ok (.goto 51, 3) := by decide +kernel
theorem d_Ma_toward_287 : decode b_Ma_toward 287 = .ok (.aload_n 0, 1) := by decide +kernel
theorem d_Ma_toward_288 : decode b_Ma_toward 288 = .ok (.getfield 15, 3) := by decide +kernel
theorem d_Ma_toward_291 : decode b_Ma_toward 291 = .ok (.aload_n 0, 1) := by decide +kernel
theorem d_Ma_toward_292 : decode b_Ma_toward 292 = .ok (.getfield 23, 3) := by decide +kernel
theorem d_Ma_toward_295 : decode b_Ma_toward 295 = .ok (.getfield 282, 3) := by decide +kernel
theorem d_Ma_toward_298 : decode b_Ma_toward 298 = .ok (.aload_n 3, 1) := by decide +kernel
theorem d_Ma_toward_299 : decode b_Ma_toward 299 = .ok (.aload_n 0, 1) := by decide +kernel
theorem d_Ma_toward_300 : decode b_Ma_toward 300 = .ok (.getfield 33, 3) := by decide +kernel
theorem d_Ma_toward_303 : decode b_Ma_toward 303 = .ok (.iconst 0, 1) := by decide +kernel
theorem d_Ma_toward_304 : decode b_Ma_toward 304 = .ok (.invokevirtual 138, 3) := by decide +kernel
theorem d_Ma_toward_307 : decode b_Ma_toward 307 = .ok (.aload_n 0, 1) := by decide +kernel
theorem d_Ma_toward_308 : decode b_Ma_toward 308 = .ok (.getfield 23, 3) := by decide +kernel
theorem d_Ma_toward_311 : decode b_Ma_toward 311 = .ok (.invokevirtual 445, 3) := by decide +kernel
theorem d_Ma_toward_314 : decode b_Ma_toward 314 = .ok (.goto 21, 3) := by decide +kernel
theorem d_Ma_toward_317 : decode b_Ma_toward 317 = .ok (.aload_n 3, 1) := by decide +kernel
theorem d_Ma_toward_318 : decode b_Ma_toward 318 = .ok (.getfield 60, 3) := by decide +kernel
theorem d_Ma_toward_321 : decode b_Ma_toward 321 = .ok (.iconst 3, 1) := by decide +kernel
theorem d_Ma_toward_322 : decode b_Ma_toward 322 = .ok (.if_icmp .eq 7, 3) := by decide +kernel
theorem d_Ma_toward_325 : decode b_Ma_toward 325 = .ok (.iconst 1, 1) := by decide +kernel
theorem d_Ma_toward_326 : decode b_Ma_toward 326 = .ok (.goto 4, 3) := by decide +kernel
theorem d_Ma_toward_329 : decode b_Ma_toward 329 = .ok (.iconst 0, 1) := by decide +kernel
theorem d_Ma_toward_330 : decode b_Ma_toward 330 = .ok (.invokestatic 207, 3) := by decide +kernel
theorem d_Ma_toward_333 : decode b_Ma_toward 333 = .ok (.lstore 5, 2) := by decide +kernel
theorem d_Ma_toward_335 : decode b_Ma_toward 335 = .ok (.aload_n 0, 1) := by decide +kernel
theorem d_Ma_toward_336 : decode b_Ma_toward 336 = .ok (.iload_n 2, 1) := by decide +kernel
theorem d_Ma_toward_337 : decode b_Ma_toward 337 = .ok (.lload 5, 2) := by decide +kernel
theorem d_Ma_toward_339 : decode b_Ma_toward 339 = .ok (.invokevirtual 145, 3) := by decide +kernel
theorem d_Ma_toward_342 : decode b_Ma_toward 342 = .ok (.aload_n 0, 1) := by decide +kernel
theorem d_Ma_toward_343 : decode b_Ma_toward 343 = .ok (.dup, 1) := by decide +kernel
theorem d_Ma_toward_344 : decode b_Ma_toward 344 = .ok (.getfield 40, 3) := by decide +kernel
theorem d_Ma_toward_347 : decode b_Ma_toward 347 = .ok (.iconst 2, 1) := by decide +kernel
theorem d_Ma_toward_348 : decode b_Ma_toward 348 = .ok (.iadd, 1) := by decide +kernel
theorem d_Ma_toward_349 : decode b_Ma_toward 349 = .ok (.putfield 40, 3) := by decide +kernel
theorem d_Ma_toward_352 : decode b_Ma_toward 352 = .ok (.return_, 1) := by decide +kernel
set_option maxRecDepth 100000 in
theorem hl_Ma_toward : Cond.methodLink R_Ma 76 y_Ma_toward ∈ wd_tbl := wd_of 1802 (by decide +kernel) rfl
set_option maxRecDepth 100000 in
theorem hi_Ma_toward : Cond.instanceMethod y_Ma_toward ∈ wd_tbl := wd_of 1804 (by decide +kernel) rfl
set_option maxRecDepth 100000 in
theorem hs_Ma_toward : Cond.selects R_Ma y_Ma_toward y_Ma_toward ∈ wd_tbl := wd_of 88 (by decide +kernel) rfl
theorem hd_Ma_toward : y_Ma_toward.cls = R_Ma ∧ y_Ma_toward.cls ≠ "java/lang/invoke/MethodHandle" ∧ y_Ma_toward.cls ≠ "java/lang/invoke/VarHandle" ∧ (parseMethodDescriptor y_Ma_toward.desc).map (fun d => d.parameters.length) = some 1 := by decide +kernel
def rm_Ma_toward (mc ms : Nat) : Room := { frames := 5, cells := mc, slots := ms, locals := 156 }
theorem rm_Ma_toward_Ma_processAt {mc ms : Nat} : (rm_Ma_processAt).frames + 1 ≤ (rm_Ma_toward mc ms).frames ∧ 8 + (4 + 11) + (rm_Ma_processAt).locals ≤ (rm_Ma_toward mc ms).locals := by
  show 1 + 1 ≤ 5 ∧ 8 + (4 + 11) + 22 ≤ 156
  decide
theorem rm_Ma_toward_Fr_below {mc ms : Nat} : (rm_Fr_below).frames + 1 ≤ (rm_Ma_toward mc ms).frames ∧ 8 + (3 + 11) + (rm_Fr_below).locals ≤ (rm_Ma_toward mc ms).locals := by
  show 0 + 1 ≤ 5 ∧ 8 + (3 + 11) + 0 ≤ 156
  decide
theorem rm_Ma_toward_Te_size {mc ms : Nat} : (rm_Te_size).frames + 1 ≤ (rm_Ma_toward mc ms).frames ∧ 8 + (11 + 11) + (rm_Te_size).locals ≤ (rm_Ma_toward mc ms).locals := by
  show 1 + 1 ≤ 5 ∧ 8 + (11 + 11) + 24 ≤ 156
  decide
theorem rm_Ma_toward_Ma_wrong {mc ms : Nat} : (rm_Ma_wrong).frames + 1 ≤ (rm_Ma_toward mc ms).frames ∧ 8 + (2 + 11) + (rm_Ma_wrong).locals ≤ (rm_Ma_toward mc ms).locals := by
  show 2 + 1 ≤ 5 ∧ 8 + (2 + 11) + 41 ≤ 156
  decide
theorem rm_Ma_toward_Ma_atom {mc ms : Nat} : (rm_Ma_atom).frames + 1 ≤ (rm_Ma_toward mc ms).frames ∧ 8 + (1 + 11) + (rm_Ma_atom).locals ≤ (rm_Ma_toward mc ms).locals := by
  show 1 + 1 ≤ 5 ∧ 8 + (1 + 11) + 21 ≤ 156
  decide
theorem rm_Ma_toward_Wl_signal {mc ms : Nat} : (rm_Wl_signal).frames + 1 ≤ (rm_Ma_toward mc ms).frames ∧ 8 + (7 + 11) + (rm_Wl_signal).locals ≤ (rm_Ma_toward mc ms).locals := by
  show 4 + 1 ≤ 5 ∧ 8 + (7 + 11) + 130 ≤ 156
  decide
theorem rm_Ma_toward_Pr_seekLink {mc ms : Nat} : (rm_Pr_seekLink).frames + 1 ≤ (rm_Ma_toward mc ms).frames ∧ 8 + (3 + 11) + (rm_Pr_seekLink).locals ≤ (rm_Ma_toward mc ms).locals := by
  show 0 + 1 ≤ 5 ∧ 8 + (3 + 11) + 0 ≤ 156
  decide
theorem rm_Ma_toward_Pr_addLink {mc ms : Nat} : (rm_Pr_addLink).frames + 1 ≤ (rm_Ma_toward mc ms).frames ∧ 8 + (2 + 11) + (rm_Pr_addLink).locals ≤ (rm_Ma_toward mc ms).locals := by
  show 0 + 1 ≤ 5 ∧ 8 + (2 + 11) + 0 ≤ 156
  decide
theorem rm_Ma_toward_Pr_removeLink {mc ms : Nat} : (rm_Pr_removeLink).frames + 1 ≤ (rm_Ma_toward mc ms).frames ∧ 8 + (3 + 11) + (rm_Pr_removeLink).locals ≤ (rm_Ma_toward mc ms).locals := by
  show 1 + 1 ≤ 5 ∧ 8 + (3 + 11) + 48 ≤ 156
  decide
theorem rm_Ma_toward_Ma_watch {mc ms : Nat} : (rm_Ma_watch).frames + 1 ≤ (rm_Ma_toward mc ms).frames ∧ 8 + (3 + 11) + (rm_Ma_watch).locals ≤ (rm_Ma_toward mc ms).locals := by
  show 4 + 1 ≤ 5 ∧ 8 + (3 + 11) + 130 ≤ 156
  decide
theorem rm_Ma_toward_Wl_endsBy {mc ms : Nat} : (rm_Wl_endsBy).frames + 1 ≤ (rm_Ma_toward mc ms).frames ∧ 8 + (3 + 11) + (rm_Wl_endsBy).locals ≤ (rm_Ma_toward mc ms).locals := by
  show 1 + 1 ≤ 5 ∧ 8 + (3 + 11) + 24 ≤ 156
  decide
theorem rm_Ma_toward_Ma_truth {mc ms : Nat} : (rm_Ma_truth).frames + 1 ≤ (rm_Ma_toward mc ms).frames ∧ 8 + (1 + 11) + (rm_Ma_truth).locals ≤ (rm_Ma_toward mc ms).locals := by
  show 2 + 1 ≤ 5 ∧ 8 + (1 + 11) + 41 ≤ 156
  decide
theorem rm_Ma_toward_Ma_answer {mc ms : Nat} {mc2 ms2 : Nat} : (rm_Ma_answer mc2 ms2).frames + 1 ≤ (rm_Ma_toward mc ms).frames ∧ 8 + (4 + 11) + (rm_Ma_answer mc2 ms2).locals ≤ (rm_Ma_toward mc ms).locals := by
  show 3 + 1 ≤ 5 ∧ 8 + (4 + 11) + 104 ≤ 156
  decide
def fb_Ma_toward_335 (N : Nat) (G : Unit) (u : CS) (v0 : Nat) (v2 : Int32) (v5 : Int64) : Option (CS × Unit) := ck (isO u v0 5) (ck (List.all [some v0] (okR u.1.1)) (bx (gw u (fm_Ma_answer N u v0 v2 v5)) (fun u1 r1 => gw u1 (bo (gI u1 v0 5 5) (fun r2 => bo (pF u1 v0 5 5 (.inl (r2 + 2))) (fun w3 => some (w3, ())))))))
set_option maxRecDepth 100000 in
set_option maxHeartbeats 4000000 in
theorem wb_Ma_toward_335 {p : Program} {l : Launch} {e : Env} {s : State} {m : MethodId} {args : Array Value} {below : List Frame} {meth : Method} {c : Code} {s0 : State} {b0 : Nat} {D : va_G} {cB cI cJ cZ cS cP : ClassId} {A : Nat → Prop} {sk sv : Nat → Nat} {uN uS mc ms : Nat} {ad0 : Nat → Nat} (C0 : XCx p s s0 b0 m args meth c R_Ma b_Ma_toward 7 none D cB cI cJ cZ cS cP A) (hE : ENV s0 b0 sk sv) (N : Nat) (G : Unit) (hG : True) : ∀ (u : CS) (v0 : Nat) (v2 : Int32) (v5 : Int64) (x : CS × Unit), fb_Ma_toward_335 N G u v0 v2 v5 = some x → (uN + mc = x.1.1.1 ∧ uS + ms = x.1.1.2) → ∀ (ad : Nat → Nat) (ce sl : Nat), AB uN uS ad0 u ad ce sl → ∀ (H : Heap) (locs : List Loc), va_P D cls (wC cB cI cJ cZ cS cP ad u) H → va_D A (wC cB cI cJ cZ cS cP ad u) → va_S A s.heap H locs → ∀ (ls : Array Slot), lv_has ls 7 [(0, .ref (ad v0)), (2, .int v2), (5, .long v5)] → W p l e (rm_Ma_toward mc ms) s m args below meth c H locs ce sl (MQ below (xQ D cB cI cJ cZ cS cP A ad0 uN x.1 none) args s mc ms A) (F0 m 335 ls []) := by
  intro u v0 v2 v5 x hf hm ad ce sl hB H locs hP hD hS ls hl
  obtain ⟨hx, hb, hr, hml, ht, hown, hK, hA, hlocks, hA0, hO, hbs⟩ := id C0
  unfold fb_Ma_toward_335 at hf
  refine lv_aload_n hx hb d_Ma_toward_335 rfl (lv_at hl 0 rfl) ?_
  refine lv_iload_n hx hb d_Ma_toward_336 rfl (lv_at hl 1 rfl) ?_
  refine lv_lload hx hb d_Ma_toward_337 (lv_at hl 2 rfl) ?_
  obtain ⟨hO9, hf⟩ := ck_some hf
  obtain ⟨hk1, hf⟩ := ck_some hf
  obtain ⟨u1, r1, hc1, hf⟩ := bx_some hf
  obtain ⟨hc1, hq1⟩ := gw_some hc1
  obtain ⟨hf, hw1⟩ := gw_some hf
  refine yV (i := v0) (As := [.int v2, .long v5]) (rest := []) C0 hP hD hS ck_Ma hO9 (c_Ma_answer N hE hc1 (gm hq1)) k_Ma_answer (wd_of 1744 (by decide +kernel) rfl) hi_Ma_answer hs_Ma_answer hini_Ma rfl rfl hd_Ma_answer rfl rm_Ma_toward_Ma_answer hl.1 (Nat.le_of_ble_eq_true rfl) d_Ma_toward_339 rfl (gm hq1) hB hm hw1 (fun ad1 H locs ce sl hg1 hB hP hD hS => ?_)
  have q1_0 : ad1 v0 = ad v0 := ko_O (k := 0) hk1 rfl hg1
  have hl : lv_has ls 7 [(0, .ref (ad1 v0)), (2, .int v2), (5, .long v5)] := by simp only [q1_0]; exact hl
  refine lv_aload_n hx hb d_Ma_toward_342 rfl (lv_at hl 0 rfl) ?_
  refine lv_dup hx hb d_Ma_toward_343 rfl ?_
  obtain ⟨r2, g2, hf⟩ := bo_some hf
  refine xg_I (i := v0) (k := 5) hx hb ht hown ck_Ma hK hP (by decide) fk_Ma_40 g2 d_Ma_toward_344 ?_
  refine lv_iconst (v := 2) hx hb d_Ma_toward_347 (by decide) ?_
  refine lv_iadd hx hb d_Ma_toward_348 ?_
  obtain ⟨w3, g3, hf⟩ := bo_some hf
  refine xp (i := v0) (k := 5) (v := (.inl (r2 + 2))) hx hb ht hown ck_Ma hK hP hD hS (by decide) fk_Ma_40 rfl g3 rfl rfl d_Ma_toward_349 (fun H locs hP hD hS => ?_)
  have hB := hB.same (pF_c g3)
  exact yr_v C0 hP hD hS hB hm hf d_Ma_toward_352
def fb_Ma_toward_330 (N : Nat) (G : Unit) (u : CS) (v0 : Nat) (v2 : Int32) (t0 : Int32) : Option (CS × Unit) := bx (gz u (fm_Ma_truth N u t0)) (fun u4 r4 => gw u4 (fb_Ma_toward_335 N G u4 (v0) (v2) (r4)))
set_option maxRecDepth 100000 in
set_option maxHeartbeats 4000000 in
theorem wb_Ma_toward_330 {p : Program} {l : Launch} {e : Env} {s : State} {m : MethodId} {args : Array Value} {below : List Frame} {meth : Method} {c : Code} {s0 : State} {b0 : Nat} {D : va_G} {cB cI cJ cZ cS cP : ClassId} {A : Nat → Prop} {sk sv : Nat → Nat} {uN uS mc ms : Nat} {ad0 : Nat → Nat} (C0 : XCx p s s0 b0 m args meth c R_Ma b_Ma_toward 7 none D cB cI cJ cZ cS cP A) (hE : ENV s0 b0 sk sv) (N : Nat) (G : Unit) (hG : True) : ∀ (u : CS) (v0 : Nat) (v2 : Int32) (t0 : Int32) (x : CS × Unit), fb_Ma_toward_330 N G u v0 v2 t0 = some x → (uN + mc = x.1.1.1 ∧ uS + ms = x.1.1.2) → ∀ (ad : Nat → Nat) (ce sl : Nat), AB uN uS ad0 u ad ce sl → ∀ (H : Heap) (locs : List Loc), va_P D cls (wC cB cI cJ cZ cS cP ad u) H → va_D A (wC cB cI cJ cZ cS cP ad u) → va_S A s.heap H locs → ∀ (ls : Array Slot), lv_has ls 7 [(0, .ref (ad v0)), (2, .int v2)] → W p l e (rm_Ma_toward mc ms) s m args below meth c H locs ce sl (MQ below (xQ D cB cI cJ cZ cS cP A ad0 uN x.1 none) args s mc ms A) (F0 m 330 ls [.int t0]) := by
  intro u v0 v2 t0 x hf hm ad ce sl hB H locs hP hD hS ls hl
  obtain ⟨hx, hb, hr, hml, ht, hown, hK, hA, hlocks, hA0, hO, hbs⟩ := id C0
  unfold fb_Ma_toward_330 at hf
  obtain ⟨u4, r4, hc4, hf⟩ := bx_some hf
  obtain ⟨hc4, hz4⟩ := gz_some hc4
  obtain ⟨hf, hw4⟩ := gw_some hf
  refine xS0 (As := [.int t0]) (rest := []) C0 hP hD hS (c_Ma_truth N hc4) k_Ma_truth (wd_of 1779 (by decide +kernel) rfl) ht_Ma_truth hini_Ma rfl rfl hd_Ma_truth rfl rm_Ma_toward_Ma_truth hl.1 (Nat.le_of_ble_eq_true rfl) d_Ma_toward_330 rfl (hB.fit hm hz4 hw4) (fun H locs hP hD hS => ?_)
  have hB := hB.same2 hz4
  refine lv_lstore (lv' := [(5, .long r4), (0, .ref (ad v0)), (2, .int v2)]) hx hb d_Ma_toward_333 hl (by decide) (by first | rfl | simp [List.filter, cat_rf]) (fun ls hl => ?_)
  exact wb_Ma_toward_335 C0 hE N G hG _ _ _ _ _ hf hm _ _ _ hB H locs hP hD hS ls (lv_sub hl [1, 2, 0] rfl)
def fb_Ma_toward_95 (N : Nat) (G : Unit) (u : CS) (v0 : Nat) (v1 : Int32) (v2 : Int32) (v3 : Option Nat) : Option (CS × Unit) := bx (gz u (fm_Ma_atom N u 0)) (fun u5 r5 => gw u5 (br (decide (v1 = 2)) (bo v3 (fun j6 => bo (gI u5 j6 7 9) (fun r7 => br (decide (r7 = 3)) (bo (gR u5 v0 5 1) (fun r24 => bo v3 (fun j25 => bo (gI u5 j25 7 0) (fun r26 => bo (gR u5 v0 5 3) (fun r27 => bx (gz u5 (fm_Ma_atom N u5 3)) (fun u28 r28 => gw u28 (bo r24 (fun j30 => ck (isO u28 j30 12) (bx (gz u28 (fm_Wl_signal N u28 j30 r26 r27 r28 none)) (fun u29 r29 => gw u29 (fb_Ma_toward_335 N G u29 (v0) (v2) (r5)))))))))))) (bo (gR u5 v0 5 3) (fun r8 => ck (okR u5.1.1 v3) (ck (okR u5.1.1 r8) (br (decide (v3 = r8)) (fb_Ma_toward_335 N G u5 (v0) (v2) (r5)) (bo (gR u5 v0 5 3) (fun r9 => bo v3 (fun j10 => bo (gI u5 j10 7 0) (fun r11 => bo r9 (fun j13 => ck (isO u5 j13 7) (bx (gz u5 (fm_Pr_seekLink N u5 j13 r11)) (fun u12 r12 => gw u12 (br (decide (r12 = (-1))) (bo (gR u12 v0 5 3) (fun r14 => bo v3 (fun j15 => bo (gI u12 j15 7 0) (fun r16 => bo r14 (fun j18 => ck (isO u12 j18 7) (bx (gz u12 (fm_Pr_addLink N u12 j18 r16)) (fun u17 r17 => gw u17 (bo (gR u17 v0 5 3) (fun r19 => bo r19 (fun j20 => bo (gI u17 j20 7 0) (fun r21 => bo v3 (fun j23 => ck (isO u17 j23 7) (bx (gz u17 (fm_Pr_addLink N u17 j23 r21)) (fun u22 r22 => gw u22 (fb_Ma_toward_335 N G u22 (v0) (v2) (r5)))))))))))))))) (fb_Ma_toward_335 N G u12 (v0) (v2) (r5))))))))))))))))) (br (decide (v1 = 3)) (bo (gR u5 v0 5 3) (fun r31 => bo v3 (fun j32 => bo (gI u5 j32 7 0) (fun r33 => bo r31 (fun j35 => ck (isO u5 j35 7) (bx (gz u5 (fm_Pr_removeLink N u5 j35 r33)) (fun u34 r34 => gw u34 (bo (gR u34 v0 5 3) (fun r36 => bo r36 (fun j37 => bo (gI u34 j37 7 0) (fun r38 => bo v3 (fun j40 => ck (isO u34 j40 7) (bx (gz u34 (fm_Pr_removeLink N u34 j40 r38)) (fun u39 r39 => gw u39 (fb_Ma_toward_335 N G u39 (v0) (v2) (r5)))))))))))))))) (br (decide (v1 = 4)) (ck (isO u5 v0 5) (bx (gz u5 (fm_Ma_watch N u5 v0 v3)) (fun u41 r41 => gw u41 (fb_Ma_toward_335 N G u41 (v0) (v2) (r41))))) (br (decide (v1 = 29)) (bo (gR u5 v0 5 4) (fun r42 => bo r42 (fun j44 => ck (isO u5 j44 4) (bx (gz u5 (fm_Fr_below N u5 j44 0)) (fun u43 r43 => gw u43 (bx (gz u43 (fm_Ma_atom N u43 5)) (fun u45 r45 => gw u45 (br (decide ((lg_cmp r43 r45) = 0)) (bo (gR u45 v0 5 1) (fun r56 => bo r56 (fun j58 => ck (isO u45 j58 12) (bx (gz u45 (fm_Wl_endsBy N u45 j58 v3 6)) (fun u57 r57 => gw u57 (fb_Ma_toward_335 N G u57 (v0) (v2) (r5))))))) (bo (gR u45 v0 5 1) (fun r46 => bo (gR u45 v0 5 3) (fun r47 => bo r47 (fun j48 => bo (gI u45 j48 7 0) (fun r49 => bo (gR u45 v0 5 4) (fun r50 => bo r50 (fun j52 => ck (isO u45 j52 4) (bx (gz u45 (fm_Fr_below N u45 j52 0)) (fun u51 r51 => gw u51 (bo (gR u51 v0 5 3) (fun r53 => bo r46 (fun j55 => ck (isO u51 j55 12) (bx (gz u51 (fm_Wl_signal N u51 j55 r49 v3 r51 r53)) (fun u54 r54 => gw u54 (fb_Ma_toward_335 N G u54 (v0) (v2) (r5)))))))))))))))))))))))) (bo v3 (fun j59 => bo (gI u5 j59 7 9) (fun r60 => br (decide (r60 = 3)) (fb_Ma_toward_330 N G u5 (v0) (v2) (0)) (fb_Ma_toward_330 N G u5 (v0) (v2) (1))))))))))
set_option maxRecDepth 100000 in
set_option maxHeartbeats 4000000 in
theorem wb_Ma_toward_95 {p : Program} {l : Launch} {e : Env} {s : State} {m : MethodId} {args : Array Value} {below : List Frame} {meth : Method} {c : Code} {s0 : State} {b0 : Nat} {D : va_G} {cB cI cJ cZ cS cP : ClassId} {A : Nat → Prop} {sk sv : Nat → Nat} {uN uS mc ms : Nat} {ad0 : Nat → Nat} (C0 : XCx p s s0 b0 m args meth c R_Ma b_Ma_toward 7 none D cB cI cJ cZ cS cP A) (hE : ENV s0 b0 sk sv) (N : Nat) (G : Unit) (hG : True) : ∀ (u : CS) (v0 : Nat) (v1 : Int32) (v2 : Int32) (v3 : Option Nat) (x : CS × Unit), fb_Ma_toward_95 N G u v0 v1 v2 v3 = some x → (uN + mc = x.1.1.1 ∧ uS + ms = x.1.1.2) → ∀ (ad : Nat → Nat) (ce sl : Nat), AB uN uS ad0 u ad ce sl → ∀ (H : Heap) (locs : List Loc), va_P D cls (wC cB cI cJ cZ cS cP ad u) H → va_D A (wC cB cI cJ cZ cS cP ad u) → va_S A s.heap H locs → ∀ (ls : Array Slot), lv_has ls 7 [(0, .ref (ad v0)), (1, .int v1), (2, .int v2), (3, va_rf (Option.map ad v3))] → W p l e (rm_Ma_toward mc ms) s m args below meth c H locs ce sl (MQ below (xQ D cB cI cJ cZ cS cP A ad0 uN x.1 none) args s mc ms A) (F0 m 95 ls []) := by
  intro u v0 v1 v2 v3 x hf hm ad ce sl hB H locs hP hD hS ls hl
  obtain ⟨hx, hb, hr, hml, ht, hown, hK, hA, hlocks, hA0, hO, hbs⟩ := id C0
  unfold fb_Ma_toward_95 at hf
  refine lv_iconst (v := 0) hx hb d_Ma_toward_95 (by decide) ?_
  obtain ⟨u5, r5, hc5, hf⟩ := bx_some hf
  obtain ⟨hc5, hz5⟩ := gz_some hc5
  obtain ⟨hf, hw5⟩ := gw_some hf
  refine xS0 (As := [.int 0]) (rest := []) C0 hP hD hS (c_Ma_atom N hc5) k_Ma_atom (wd_of 1668 (by decide +kernel) rfl) ht_Ma_atom hini_Ma rfl rfl hd_Ma_atom rfl rm_Ma_toward_Ma_atom hl.1 (Nat.le_of_ble_eq_true rfl) d_Ma_toward_96 rfl (hB.fit hm hz5 hw5) (fun H locs hP hD hS => ?_)
  have hB := hB.same2 hz5
  refine lv_lstore (lv' := [(5, .long r5), (0, .ref (ad v0)), (1, .int v1), (2, .int v2), (3, va_rf (Option.map ad v3))]) hx hb d_Ma_toward_99 hl (by decide) (by first | rfl | simp [List.filter, cat_rf]) (fun ls hl => ?_)
  refine lv_iload_n hx hb d_Ma_toward_101 rfl (lv_at hl 2 rfl) ?_
  by_cases hc2 : v1 = 2
  · rw [br_p _ hc2] at hf
    refine lv_lookup (tgt := 144) hx hb d_Ma_toward_102 (by decide) (by rw [hc2] <;> rfl) (by decide) ?_
    refine x_aload_n hx hb d_Ma_toward_144 rfl (lv_at hl 4 rfl) ?_
    obtain ⟨j6, ej6, hf⟩ := bo_some hf
    rw [ej6]
    obtain ⟨r7, g7, hf⟩ := bo_some hf
    refine xg_I (i := j6) (k := 9) hx hb ht hown ck_Pr hK hP (by decide) fk_Ma_60 g7 d_Ma_toward_145 ?_
    refine lv_iconst (v := 3) hx hb d_Ma_toward_148 (by decide) ?_
    refine lv_icmp_ne (tgt := 175) hx hb d_Ma_toward_149 (by decide) (fun hc => ?_) (fun hc => ?_)
    · rw [br_n _ hc] at hf
      refine x_aload_n hx hb d_Ma_toward_175 rfl (lv_at hl 4 rfl) ?_
      refine lv_aload_n hx hb d_Ma_toward_176 rfl (lv_at hl 1 rfl) ?_
      obtain ⟨r8, g8, hf⟩ := bo_some hf
      refine xg_R (i := v0) (k := 3) hx hb ht hown ck_Ma hK hP (by decide) fk_Ma_23 g8 d_Ma_toward_177 ?_
      obtain ⟨hk1, hf⟩ := ck_some hf
      obtain ⟨hk2, hf⟩ := ck_some hf
      refine x_acmp_eq (rx := v3) (ry := r8) (tgt := 335) hx hb hD hk1 hk2 d_Ma_toward_180 (by decide) (fun hc => ?_) (fun hc => ?_)
      · rw [br_p _ hc] at hf
        exact wb_Ma_toward_335 C0 hE N G hG _ _ _ _ _ hf hm _ _ _ hB H locs hP hD hS ls (lv_sub hl [1, 3, 0] rfl)
      · rw [br_n _ hc] at hf
        refine lv_aload_n hx hb d_Ma_toward_183 rfl (lv_at hl 1 rfl) ?_
        obtain ⟨r9, g9, hf⟩ := bo_some hf
        refine xg_R (i := v0) (k := 3) hx hb ht hown ck_Ma hK hP (by decide) fk_Ma_23 g9 d_Ma_toward_184 ?_
        refine x_aload_n hx hb d_Ma_toward_187 rfl (lv_at hl 4 rfl) ?_
        obtain ⟨j10, ej10, hf⟩ := bo_some hf
        rw [ej10]
        obtain ⟨r11, g11, hf⟩ := bo_some hf
        refine xg_I (i := j10) (k := 0) hx hb ht hown ck_Pr hK hP (by decide) fk_Ma_282 g11 d_Ma_toward_188 ?_
        obtain ⟨j13, ej13, hf⟩ := bo_some hf
        rw [ej13]
        obtain ⟨hO9, hf⟩ := ck_some hf
        obtain ⟨u12, r12, hc12, hf⟩ := bx_some hf
        obtain ⟨hc12, hz12⟩ := gz_some hc12
        obtain ⟨hf, hw12⟩ := gw_some hf
        refine xV0 (i := j13) (As := [.int r11]) (rest := []) C0 hP hD hS ck_Pr hO9 (c_Pr_seekLink N hc12) k_Pr_seekLink (wd_of 1823 (by decide +kernel) rfl) hi_Pr_seekLink hs_Pr_seekLink hini_Pr rfl rfl hd_Pr_seekLink rfl rm_Ma_toward_Pr_seekLink hl.1 (Nat.le_of_ble_eq_true rfl) d_Ma_toward_191 rfl (hB.fit hm hz12 hw12) (fun H locs hP hD hS => ?_)
        have hB := hB.same2 hz12
        refine lv_iconst (v := (-1)) hx hb d_Ma_toward_194 (by decide) ?_
        refine lv_icmp_ne (tgt := 335) hx hb d_Ma_toward_195 (by decide) (fun hc => ?_) (fun hc => ?_)
        · rw [br_n _ hc] at hf
          exact wb_Ma_toward_335 C0 hE N G hG _ _ _ _ _ hf hm _ _ _ hB H locs hP hD hS ls (lv_sub hl [1, 3, 0] rfl)
        · rw [br_p _ hc] at hf
          refine lv_aload_n hx hb d_Ma_toward_198 rfl (lv_at hl 1 rfl) ?_
          obtain ⟨r14, g14, hf⟩ := bo_some hf
          refine xg_R (i := v0) (k := 3) hx hb ht hown ck_Ma hK hP (by decide) fk_Ma_23 g14 d_Ma_toward_199 ?_
          refine x_aload_n hx hb d_Ma_toward_202 rfl (lv_at hl 4 rfl) ?_
          obtain ⟨j15, ej15, hf⟩ := bo_some hf
          rw [ej15]
          obtain ⟨r16, g16, hf⟩ := bo_some hf
          refine xg_I (i := j15) (k := 0) hx hb ht hown ck_Pr hK hP (by decide) fk_Ma_282 g16 d_Ma_toward_203 ?_
          obtain ⟨j18, ej18, hf⟩ := bo_some hf
          rw [ej18]
          obtain ⟨hO9, hf⟩ := ck_some hf
          obtain ⟨u17, r17, hc17, hf⟩ := bx_some hf
          obtain ⟨hc17, hz17⟩ := gz_some hc17
          obtain ⟨hf, hw17⟩ := gw_some hf
          refine xV0 (i := j18) (As := [.int r16]) (rest := []) C0 hP hD hS ck_Pr hO9 (c_Pr_addLink N hc17) k_Pr_addLink (wd_of 1827 (by decide +kernel) rfl) hi_Pr_addLink hs_Pr_addLink hini_Pr rfl rfl hd_Pr_addLink rfl rm_Ma_toward_Pr_addLink hl.1 (Nat.le_of_ble_eq_true rfl) d_Ma_toward_206 rfl (hB.fit hm hz17 hw17) (fun H locs hP hD hS => ?_)
          have hB := hB.same2 hz17
          refine x_aload_n hx hb d_Ma_toward_209 rfl (lv_at hl 4 rfl) ?_
          refine lv_aload_n hx hb d_Ma_toward_210 rfl (lv_at hl 1 rfl) ?_
          obtain ⟨r19, g19, hf⟩ := bo_some hf
          refine xg_R (i := v0) (k := 3) hx hb ht hown ck_Ma hK hP (by decide) fk_Ma_23 g19 d_Ma_toward_211 ?_
          obtain ⟨j20, ej20, hf⟩ := bo_some hf
          rw [ej20]
          obtain ⟨r21, g21, hf⟩ := bo_some hf
          refine xg_I (i := j20) (k := 0) hx hb ht hown ck_Pr hK hP (by decide) fk_Ma_282 g21 d_Ma_toward_214 ?_
          obtain ⟨j23, ej23, hf⟩ := bo_some hf
          rw [ej23]
          obtain ⟨hO9, hf⟩ := ck_some hf
          obtain ⟨u22, r22, hc22, hf⟩ := bx_some hf
          obtain ⟨hc22, hz22⟩ := gz_some hc22
          obtain ⟨hf, hw22⟩ := gw_some hf
          refine xV0 (i := j23) (As := [.int r21]) (rest := []) C0 hP hD hS ck_Pr hO9 (c_Pr_addLink N hc22) k_Pr_addLink (wd_of 1827 (by decide +kernel) rfl) hi_Pr_addLink hs_Pr_addLink hini_Pr rfl rfl hd_Pr_addLink rfl rm_Ma_toward_Pr_addLink hl.1 (Nat.le_of_ble_eq_true rfl) d_Ma_toward_217 rfl (hB.fit hm hz22 hw22) (fun H locs hP hD hS => ?_)
          have hB := hB.same2 hz22
          refine lv_goto (tgt := 335) hx hb d_Ma_toward_220 (by decide) ?_
          exact wb_Ma_toward_335 C0 hE N G hG _ _ _ _ _ hf hm _ _ _ hB H locs hP hD hS ls (lv_sub hl [1, 3, 0] rfl)
    · rw [br_p _ hc] at hf
      refine lv_aload_n hx hb d_Ma_toward_152 rfl (lv_at hl 1 rfl) ?_
      obtain ⟨r24, g24, hf⟩ := bo_some hf
      refine xg_R (i := v0) (k := 1) hx hb ht hown ck_Ma hK hP (by decide) fk_Ma_15 g24 d_Ma_toward_153 ?_
      refine x_aload_n hx hb d_Ma_toward_156 rfl (lv_at hl 4 rfl) ?_
      obtain ⟨j25, ej25, hf⟩ := bo_some hf
      rw [ej25]
      obtain ⟨r26, g26, hf⟩ := bo_some hf
      refine xg_I (i := j25) (k := 0) hx hb ht hown ck_Pr hK hP (by decide) fk_Ma_282 g26 d_Ma_toward_157 ?_
      refine lv_aload_n hx hb d_Ma_toward_160 rfl (lv_at hl 1 rfl) ?_
      obtain ⟨r27, g27, hf⟩ := bo_some hf
      refine xg_R (i := v0) (k := 3) hx hb ht hown ck_Ma hK hP (by decide) fk_Ma_23 g27 d_Ma_toward_161 ?_
      refine lv_iconst (v := 3) hx hb d_Ma_toward_164 (by decide) ?_
      obtain ⟨u28, r28, hc28, hf⟩ := bx_some hf
      obtain ⟨hc28, hz28⟩ := gz_some hc28
      obtain ⟨hf, hw28⟩ := gw_some hf
      refine xS0 (As := [.int 3]) (rest := [va_rf (Option.map ad r27), .int r26, va_rf (Option.map ad r24)]) C0 hP hD hS (c_Ma_atom N hc28) k_Ma_atom (wd_of 1668 (by decide +kernel) rfl) ht_Ma_atom hini_Ma rfl rfl hd_Ma_atom rfl rm_Ma_toward_Ma_atom hl.1 (c8 (Nat.le_of_ble_eq_true rfl)) d_Ma_toward_165 rfl (hB.fit hm hz28 hw28) (fun H locs hP hD hS => ?_)
      have hB := hB.same2 hz28
      refine lv_null hx hb d_Ma_toward_168 ?_
      obtain ⟨j30, ej30, hf⟩ := bo_some hf
      rw [ej30]
      obtain ⟨hO9, hf⟩ := ck_some hf
      obtain ⟨u29, r29, hc29, hf⟩ := bx_some hf
      obtain ⟨hc29, hz29⟩ := gz_some hc29
      obtain ⟨hf, hw29⟩ := gw_some hf
      refine xV0 (i := j30) (As := [.int r26, va_rf (Option.map ad r27), .long r28, va_rf (Option.map ad none)]) (rest := []) C0 hP hD hS ck_Wl hO9 (c_Wl_signal N hE hc29) k_Wl_signal (wd_of 1806 (by decide +kernel) rfl) hi_Wl_signal hs_Wl_signal hini_Wl rfl rfl hd_Wl_signal rfl rm_Ma_toward_Wl_signal hl.1 (Nat.le_of_ble_eq_true rfl) d_Ma_toward_169 rfl (hB.fit hm hz29 hw29) (fun H locs hP hD hS => ?_)
      have hB := hB.same2 hz29
      refine lv_goto (tgt := 335) hx hb d_Ma_toward_172 (by decide) ?_
      exact wb_Ma_toward_335 C0 hE N G hG _ _ _ _ _ hf hm _ _ _ hB H locs hP hD hS ls (lv_sub hl [1, 3, 0] rfl)
  · rw [br_n _ hc2] at hf
    by_cases hc3 : v1 = 3
    · rw [br_p _ hc3] at hf
      refine lv_lookup (tgt := 223) hx hb d_Ma_toward_102 (by decide) (by rw [hc3] <;> rfl) (by decide) ?_
      refine lv_aload_n hx hb d_Ma_toward_223 rfl (lv_at hl 1 rfl) ?_
      obtain ⟨r31, g31, hf⟩ := bo_some hf
      refine xg_R (i := v0) (k := 3) hx hb ht hown ck_Ma hK hP (by decide) fk_Ma_23 g31 d_Ma_toward_224 ?_
      refine x_aload_n hx hb d_Ma_toward_227 rfl (lv_at hl 4 rfl) ?_
      obtain ⟨j32, ej32, hf⟩ := bo_some hf
      rw [ej32]
      obtain ⟨r33, g33, hf⟩ := bo_some hf
      refine xg_I (i := j32) (k := 0) hx hb ht hown ck_Pr hK hP (by decide) fk_Ma_282 g33 d_Ma_toward_228 ?_
      obtain ⟨j35, ej35, hf⟩ := bo_some hf
      rw [ej35]
      obtain ⟨hO9, hf⟩ := ck_some hf
      obtain ⟨u34, r34, hc34, hf⟩ := bx_some hf
      obtain ⟨hc34, hz34⟩ := gz_some hc34
      obtain ⟨hf, hw34⟩ := gw_some hf
      refine xV0 (i := j35) (As := [.int r33]) (rest := []) C0 hP hD hS ck_Pr hO9 (c_Pr_removeLink N hE hc34) k_Pr_removeLink (wd_of 1831 (by decide +kernel) rfl) hi_Pr_removeLink hs_Pr_removeLink hini_Pr rfl rfl hd_Pr_removeLink rfl rm_Ma_toward_Pr_removeLink hl.1 (Nat.le_of_ble_eq_true rfl) d_Ma_toward_231 rfl (hB.fit hm hz34 hw34) (fun H locs hP hD hS => ?_)
      have hB := hB.same2 hz34
      refine x_aload_n hx hb d_Ma_toward_234 rfl (lv_at hl 4 rfl) ?_
      refine lv_aload_n hx hb d_Ma_toward_235 rfl (lv_at hl 1 rfl) ?_
      obtain ⟨r36, g36, hf⟩ := bo_some hf
      refine xg_R (i := v0) (k := 3) hx hb ht hown ck_Ma hK hP (by decide) fk_Ma_23 g36 d_Ma_toward_236 ?_
      obtain ⟨j37, ej37, hf⟩ := bo_some hf
      rw [ej37]
      obtain ⟨r38, g38, hf⟩ := bo_some hf
      refine xg_I (i := j37) (k := 0) hx hb ht hown ck_Pr hK hP (by decide) fk_Ma_282 g38 d_Ma_toward_239 ?_
      obtain ⟨j40, ej40, hf⟩ := bo_some hf
      rw [ej40]
      obtain ⟨hO9, hf⟩ := ck_some hf
      obtain ⟨u39, r39, hc39, hf⟩ := bx_some hf
      obtain ⟨hc39, hz39⟩ := gz_some hc39
      obtain ⟨hf, hw39⟩ := gw_some hf
      refine xV0 (i := j40) (As := [.int r38]) (rest := []) C0 hP hD hS ck_Pr hO9 (c_Pr_removeLink N hE hc39) k_Pr_removeLink (wd_of 1831 (by decide +kernel) rfl) hi_Pr_removeLink hs_Pr_removeLink hini_Pr rfl rfl hd_Pr_removeLink rfl rm_Ma_toward_Pr_removeLink hl.1 (Nat.le_of_ble_eq_true rfl) d_Ma_toward_242 rfl (hB.fit hm hz39 hw39) (fun H locs hP hD hS => ?_)
      have hB := hB.same2 hz39
      refine lv_goto (tgt := 335) hx hb d_Ma_toward_245 (by decide) ?_
      exact wb_Ma_toward_335 C0 hE N G hG _ _ _ _ _ hf hm _ _ _ hB H locs hP hD hS ls (lv_sub hl [1, 3, 0] rfl)
    · rw [br_n _ hc3] at hf
      by_cases hc4 : v1 = 4
      · rw [br_p _ hc4] at hf
        refine lv_lookup (tgt := 248) hx hb d_Ma_toward_102 (by decide) (by rw [hc4] <;> rfl) (by decide) ?_
        refine lv_aload_n hx hb d_Ma_toward_248 rfl (lv_at hl 1 rfl) ?_
        refine x_aload_n hx hb d_Ma_toward_249 rfl (lv_at hl 4 rfl) ?_
        obtain ⟨hO9, hf⟩ := ck_some hf
        obtain ⟨u41, r41, hc41, hf⟩ := bx_some hf
        obtain ⟨hc41, hz41⟩ := gz_some hc41
        obtain ⟨hf, hw41⟩ := gw_some hf
        refine xV0 (i := v0) (As := [va_rf (Option.map ad v3)]) (rest := []) C0 hP hD hS ck_Ma hO9 (c_Ma_watch N hE hc41) k_Ma_watch (wd_of 1836 (by decide +kernel) rfl) hi_Ma_watch hs_Ma_watch hini_Ma rfl rfl hd_Ma_watch rfl rm_Ma_toward_Ma_watch hl.1 (Nat.le_of_ble_eq_true rfl) d_Ma_toward_250 rfl (hB.fit hm hz41 hw41) (fun H locs hP hD hS => ?_)
        have hB := hB.same2 hz41
        refine lv_lstore (lv' := [(5, .long r41), (0, .ref (ad v0)), (1, .int v1), (2, .int v2), (3, va_rf (Option.map ad v3))]) hx hb d_Ma_toward_253 hl (by decide) (by first | rfl | simp [List.filter, cat_rf]) (fun ls hl => ?_)
        refine lv_goto (tgt := 335) hx hb d_Ma_toward_255 (by decide) ?_
        exact wb_Ma_toward_335 C0 hE N G hG _ _ _ _ _ hf hm _ _ _ hB H locs hP hD hS ls (lv_sub hl [1, 3, 0] rfl)
      · rw [br_n _ hc4] at hf
        by_cases hc29 : v1 = 29
        · rw [br_p _ hc29] at hf
          refine lv_lookup (tgt := 258) hx hb d_Ma_toward_102 (by decide) (by rw [hc29] <;> rfl) (by decide) ?_
          refine lv_aload_n hx hb d_Ma_toward_258 rfl (lv_at hl 1 rfl) ?_
          obtain ⟨r42, g42, hf⟩ := bo_some hf
          refine xg_R (i := v0) (k := 4) hx hb ht hown ck_Ma hK hP (by decide) fk_Ma_33 g42 d_Ma_toward_259 ?_
          refine lv_iconst (v := 0) hx hb d_Ma_toward_262 (by decide) ?_
          obtain ⟨j44, ej44, hf⟩ := bo_some hf
          rw [ej44]
          obtain ⟨hO9, hf⟩ := ck_some hf
          obtain ⟨u43, r43, hc43, hf⟩ := bx_some hf
          obtain ⟨hc43, hz43⟩ := gz_some hc43
          obtain ⟨hf, hw43⟩ := gw_some hf
          refine xV0 (i := j44) (As := [.int 0]) (rest := []) C0 hP hD hS ck_Fr hO9 (c_Fr_below N hc43) k_Fr_below (wd_of 1653 (by decide +kernel) rfl) hi_Fr_below hs_Fr_below hini_Fr rfl rfl hd_Fr_below rfl rm_Ma_toward_Fr_below hl.1 (Nat.le_of_ble_eq_true rfl) d_Ma_toward_263 rfl (hB.fit hm hz43 hw43) (fun H locs hP hD hS => ?_)
          have hB := hB.same2 hz43
          refine lv_iconst (v := 5) hx hb d_Ma_toward_266 (by decide) ?_
          obtain ⟨u45, r45, hc45, hf⟩ := bx_some hf
          obtain ⟨hc45, hz45⟩ := gz_some hc45
          obtain ⟨hf, hw45⟩ := gw_some hf
          refine xS0 (As := [.int 5]) (rest := [.long r43]) C0 hP hD hS (c_Ma_atom N hc45) k_Ma_atom (wd_of 1668 (by decide +kernel) rfl) ht_Ma_atom hini_Ma rfl rfl hd_Ma_atom rfl rm_Ma_toward_Ma_atom hl.1 (Nat.le_of_ble_eq_true rfl) d_Ma_toward_267 rfl (hB.fit hm hz45 hw45) (fun H locs hP hD hS => ?_)
          have hB := hB.same2 hz45
          refine W.lcmp hx hb d_Ma_toward_270 ?_
          refine lv_if_ne (tgt := 287) hx hb d_Ma_toward_271 (by decide) (fun hc => ?_) (fun hc => ?_)
          · rw [br_n _ hc] at hf
            refine lv_aload_n hx hb d_Ma_toward_287 rfl (lv_at hl 1 rfl) ?_
            obtain ⟨r46, g46, hf⟩ := bo_some hf
            refine xg_R (i := v0) (k := 1) hx hb ht hown ck_Ma hK hP (by decide) fk_Ma_15 g46 d_Ma_toward_288 ?_
            refine lv_aload_n hx hb d_Ma_toward_291 rfl (lv_at hl 1 rfl) ?_
            obtain ⟨r47, g47, hf⟩ := bo_some hf
            refine xg_R (i := v0) (k := 3) hx hb ht hown ck_Ma hK hP (by decide) fk_Ma_23 g47 d_Ma_toward_292 ?_
            obtain ⟨j48, ej48, hf⟩ := bo_some hf
            rw [ej48]
            obtain ⟨r49, g49, hf⟩ := bo_some hf
            refine xg_I (i := j48) (k := 0) hx hb ht hown ck_Pr hK hP (by decide) fk_Ma_282 g49 d_Ma_toward_295 ?_
            refine x_aload_n hx hb d_Ma_toward_298 rfl (lv_at hl 4 rfl) ?_
            refine lv_aload_n hx hb d_Ma_toward_299 rfl (lv_at hl 1 rfl) ?_
            obtain ⟨r50, g50, hf⟩ := bo_some hf
            refine xg_R (i := v0) (k := 4) hx hb ht hown ck_Ma hK hP (by decide) fk_Ma_33 g50 d_Ma_toward_300 ?_
            refine lv_iconst (v := 0) hx hb d_Ma_toward_303 (by decide) ?_
            obtain ⟨j52, ej52, hf⟩ := bo_some hf
            rw [ej52]
            obtain ⟨hO9, hf⟩ := ck_some hf
            obtain ⟨u51, r51, hc51, hf⟩ := bx_some hf
            obtain ⟨hc51, hz51⟩ := gz_some hc51
            obtain ⟨hf, hw51⟩ := gw_some hf
            refine xV0 (i := j52) (As := [.int 0]) (rest := [va_rf (Option.map ad v3), .int r49, va_rf (Option.map ad r46)]) C0 hP hD hS ck_Fr hO9 (c_Fr_below N hc51) k_Fr_below (wd_of 1653 (by decide +kernel) rfl) hi_Fr_below hs_Fr_below hini_Fr rfl rfl hd_Fr_below rfl rm_Ma_toward_Fr_below hl.1 (c8 (Nat.le_of_ble_eq_true rfl)) d_Ma_toward_304 rfl (hB.fit hm hz51 hw51) (fun H locs hP hD hS => ?_)
            have hB := hB.same2 hz51
            refine lv_aload_n hx hb d_Ma_toward_307 rfl (lv_at hl 1 rfl) ?_
            obtain ⟨r53, g53, hf⟩ := bo_some hf
            refine xg_R (i := v0) (k := 3) hx hb ht hown ck_Ma hK hP (by decide) fk_Ma_23 g53 d_Ma_toward_308 ?_
            obtain ⟨j55, ej55, hf⟩ := bo_some hf
            rw [ej55]
            obtain ⟨hO9, hf⟩ := ck_some hf
            obtain ⟨u54, r54, hc54, hf⟩ := bx_some hf
            obtain ⟨hc54, hz54⟩ := gz_some hc54
            obtain ⟨hf, hw54⟩ := gw_some hf
            refine xV0 (i := j55) (As := [.int r49, va_rf (Option.map ad v3), .long r51, va_rf (Option.map ad r53)]) (rest := []) C0 hP hD hS ck_Wl hO9 (c_Wl_signal N hE hc54) k_Wl_signal (wd_of 1806 (by decide +kernel) rfl) hi_Wl_signal hs_Wl_signal hini_Wl rfl rfl hd_Wl_signal rfl rm_Ma_toward_Wl_signal hl.1 (Nat.le_of_ble_eq_true rfl) d_Ma_toward_311 rfl (hB.fit hm hz54 hw54) (fun H locs hP hD hS => ?_)
            have hB := hB.same2 hz54
            refine lv_goto (tgt := 335) hx hb d_Ma_toward_314 (by decide) ?_
            exact wb_Ma_toward_335 C0 hE N G hG _ _ _ _ _ hf hm _ _ _ hB H locs hP hD hS ls (lv_sub hl [1, 3, 0] rfl)
          · rw [br_p _ hc] at hf
            refine lv_aload_n hx hb d_Ma_toward_274 rfl (lv_at hl 1 rfl) ?_
            obtain ⟨r56, g56, hf⟩ := bo_some hf
            refine xg_R (i := v0) (k := 1) hx hb ht hown ck_Ma hK hP (by decide) fk_Ma_15 g56 d_Ma_toward_275 ?_
            refine x_aload_n hx hb d_Ma_toward_278 rfl (lv_at hl 4 rfl) ?_
            refine lv_bipush (v := 6) hx hb d_Ma_toward_279 (by decide) ?_
            obtain ⟨j58, ej58, hf⟩ := bo_some hf
            rw [ej58]
            obtain ⟨hO9, hf⟩ := ck_some hf
            obtain ⟨u57, r57, hc57, hf⟩ := bx_some hf
            obtain ⟨hc57, hz57⟩ := gz_some hc57
            obtain ⟨hf, hw57⟩ := gw_some hf
            refine xV0 (i := j58) (As := [va_rf (Option.map ad v3), .int 6]) (rest := []) C0 hP hD hS ck_Wl hO9 (c_Wl_endsBy N hc57) k_Wl_endsBy (wd_of 1735 (by decide +kernel) rfl) hi_Wl_endsBy hs_Wl_endsBy hini_Wl rfl rfl hd_Wl_endsBy rfl rm_Ma_toward_Wl_endsBy hl.1 (Nat.le_of_ble_eq_true rfl) d_Ma_toward_281 rfl (hB.fit hm hz57 hw57) (fun H locs hP hD hS => ?_)
            have hB := hB.same2 hz57
            refine lv_goto (tgt := 335) hx hb d_Ma_toward_284 (by decide) ?_
            exact wb_Ma_toward_335 C0 hE N G hG _ _ _ _ _ hf hm _ _ _ hB H locs hP hD hS ls (lv_sub hl [1, 3, 0] rfl)
        · rw [br_n _ hc29] at hf
          refine lv_lookup (off := 215) (tgt := 317) hx hb d_Ma_toward_102 (by decide) (by show Op.lookupswitch.offset [(2, 42), (3, 121), (4, 146), (29, 156)] _ _ = _; refine (lv_osw hc2 (by decide)).trans ?_; refine (lv_osw hc3 (by decide)).trans ?_; refine (lv_osw hc4 (by decide)).trans ?_; refine (lv_osw hc29 (by decide)).trans ?_; rfl) (by decide) ?_
          refine x_aload_n hx hb d_Ma_toward_317 rfl (lv_at hl 4 rfl) ?_
          obtain ⟨j59, ej59, hf⟩ := bo_some hf
          rw [ej59]
          obtain ⟨r60, g60, hf⟩ := bo_some hf
          refine xg_I (i := j59) (k := 9) hx hb ht hown ck_Pr hK hP (by decide) fk_Ma_60 g60 d_Ma_toward_318 ?_
          refine lv_iconst (v := 3) hx hb d_Ma_toward_321 (by decide) ?_
          refine lv_icmp_eq (tgt := 329) hx hb d_Ma_toward_322 (by decide) (fun hc => ?_) (fun hc => ?_)
          · rw [br_p _ hc] at hf
            refine lv_iconst (v := 0) hx hb d_Ma_toward_329 (by decide) ?_
            exact wb_Ma_toward_330 C0 hE N G hG _ _ _ _ _ hf hm _ _ _ hB H locs hP hD hS ls (lv_sub hl [1, 3] rfl)
          · rw [br_n _ hc] at hf
            refine lv_iconst (v := 1) hx hb d_Ma_toward_325 (by decide) ?_
            refine lv_goto (tgt := 330) hx hb d_Ma_toward_326 (by decide) ?_
            exact wb_Ma_toward_330 C0 hE N G hG _ _ _ _ _ hf hm _ _ _ hB H locs hP hD hS ls (lv_sub hl [1, 3] rfl)
def fb_Ma_toward_88 (N : Nat) (G : Unit) (u : CS) (v0 : Nat) : Option (CS × Unit) := ck (isO u v0 5) (bx (gz u (fm_Ma_wrong N u v0 11)) (fun u61 r61 => gw u61 (some (u61, ()))))
set_option maxRecDepth 100000 in
set_option maxHeartbeats 4000000 in
theorem wb_Ma_toward_88 {p : Program} {l : Launch} {e : Env} {s : State} {m : MethodId} {args : Array Value} {below : List Frame} {meth : Method} {c : Code} {s0 : State} {b0 : Nat} {D : va_G} {cB cI cJ cZ cS cP : ClassId} {A : Nat → Prop} {sk sv : Nat → Nat} {uN uS mc ms : Nat} {ad0 : Nat → Nat} (C0 : XCx p s s0 b0 m args meth c R_Ma b_Ma_toward 7 none D cB cI cJ cZ cS cP A) (hE : ENV s0 b0 sk sv) (N : Nat) (G : Unit) (hG : True) : ∀ (u : CS) (v0 : Nat) (x : CS × Unit), fb_Ma_toward_88 N G u v0 = some x → (uN + mc = x.1.1.1 ∧ uS + ms = x.1.1.2) → ∀ (ad : Nat → Nat) (ce sl : Nat), AB uN uS ad0 u ad ce sl → ∀ (H : Heap) (locs : List Loc), va_P D cls (wC cB cI cJ cZ cS cP ad u) H → va_D A (wC cB cI cJ cZ cS cP ad u) → va_S A s.heap H locs → ∀ (ls : Array Slot), lv_has ls 7 [(0, .ref (ad v0))] → W p l e (rm_Ma_toward mc ms) s m args below meth c H locs ce sl (MQ below (xQ D cB cI cJ cZ cS cP A ad0 uN x.1 none) args s mc ms A) (F0 m 88 ls []) := by
  intro u v0 x hf hm ad ce sl hB H locs hP hD hS ls hl
  obtain ⟨hx, hb, hr, hml, ht, hown, hK, hA, hlocks, hA0, hO, hbs⟩ := id C0
  unfold fb_Ma_toward_88 at hf
  refine lv_aload_n hx hb d_Ma_toward_88 rfl (lv_at hl 0 rfl) ?_
  refine lv_bipush (v := 11) hx hb d_Ma_toward_89 (by decide) ?_
  obtain ⟨hO9, hf⟩ := ck_some hf
  obtain ⟨u61, r61, hc61, hf⟩ := bx_some hf
  obtain ⟨hc61, hz61⟩ := gz_some hc61
  obtain ⟨hf, hw61⟩ := gw_some hf
  refine xV0 (i := v0) (As := [.int 11]) (rest := []) C0 hP hD hS ck_Ma hO9 (c_Ma_wrong N hc61) k_Ma_wrong (wd_of 1664 (by decide +kernel) rfl) hi_Ma_wrong hs_Ma_wrong hini_Ma rfl rfl hd_Ma_wrong rfl rm_Ma_toward_Ma_wrong hl.1 (Nat.le_of_ble_eq_true rfl) d_Ma_toward_91 rfl (hB.fit hm hz61 hw61) (fun H locs hP hD hS => ?_)
  have hB := hB.same2 hz61
  exact yr_v C0 hP hD hS hB hm hf d_Ma_toward_94
def fb_Ma_toward_59 (N : Nat) (G : Unit) (u : CS) (v0 : Nat) (v1 : Int32) (v2 : Int32) (v3 : Option Nat) (t0 : Int32) : Option (CS × Unit) := br (decide (v3 = none)) (fb_Ma_toward_88 N G u (v0)) (br (decide (t0 = 0)) (br (decide (v1 = 4)) (bo (gR u v0 5 1) (fun r62 => bo r62 (fun j63 => bo (gI u j63 12 10) (fun r64 => br (decide (r64 < 200)) (fb_Ma_toward_95 N G u (v0) (v1) (v2) (v3)) (fb_Ma_toward_88 N G u (v0)))))) (fb_Ma_toward_95 N G u (v0) (v1) (v2) (v3))) (fb_Ma_toward_88 N G u (v0)))
set_option maxRecDepth 100000 in
set_option maxHeartbeats 4000000 in
theorem wb_Ma_toward_59 {p : Program} {l : Launch} {e : Env} {s : State} {m : MethodId} {args : Array Value} {below : List Frame} {meth : Method} {c : Code} {s0 : State} {b0 : Nat} {D : va_G} {cB cI cJ cZ cS cP : ClassId} {A : Nat → Prop} {sk sv : Nat → Nat} {uN uS mc ms : Nat} {ad0 : Nat → Nat} (C0 : XCx p s s0 b0 m args meth c R_Ma b_Ma_toward 7 none D cB cI cJ cZ cS cP A) (hE : ENV s0 b0 sk sv) (N : Nat) (G : Unit) (hG : True) : ∀ (u : CS) (v0 : Nat) (v1 : Int32) (v2 : Int32) (v3 : Option Nat) (t0 : Int32) (x : CS × Unit), fb_Ma_toward_59 N G u v0 v1 v2 v3 t0 = some x → (uN + mc = x.1.1.1 ∧ uS + ms = x.1.1.2) → ∀ (ad : Nat → Nat) (ce sl : Nat), AB uN uS ad0 u ad ce sl → ∀ (H : Heap) (locs : List Loc), va_P D cls (wC cB cI cJ cZ cS cP ad u) H → va_D A (wC cB cI cJ cZ cS cP ad u) → va_S A s.heap H locs → ∀ (ls : Array Slot), lv_has ls 7 [(0, .ref (ad v0)), (1, .int v1), (2, .int v2), (3, va_rf (Option.map ad v3))] → W p l e (rm_Ma_toward mc ms) s m args below meth c H locs ce sl (MQ below (xQ D cB cI cJ cZ cS cP A ad0 uN x.1 none) args s mc ms A) (F0 m 59 ls [.int t0]) := by
  intro u v0 v1 v2 v3 t0 x hf hm ad ce sl hB H locs hP hD hS ls hl
  obtain ⟨hx, hb, hr, hml, ht, hown, hK, hA, hlocks, hA0, hO, hbs⟩ := id C0
  unfold fb_Ma_toward_59 at hf
  refine lv_istore (lv' := [(4, .int t0), (0, .ref (ad v0)), (1, .int v1), (2, .int v2), (3, va_rf (Option.map ad v3))]) hx hb d_Ma_toward_59 hl (by decide) (by first | rfl | simp [List.filter, cat_rf]) (fun ls hl => ?_)
  refine x_aload_n hx hb d_Ma_toward_61 rfl (lv_at hl 4 rfl) ?_
  refine x_ifnull (r := v3) (tgt := 88) hx hb d_Ma_toward_62 (by decide) (fun hc => ?_) (fun hc => ?_)
  · rw [br_p _ hc] at hf
    exact wb_Ma_toward_88 C0 hE N G hG _ _ _ hf hm _ _ _ hB H locs hP hD hS ls (lv_sub hl [1] rfl)
  · rw [br_n _ hc] at hf
    refine lv_iload hx hb d_Ma_toward_65 (lv_at hl 0 rfl) ?_
    refine lv_if_ne (tgt := 88) hx hb d_Ma_toward_67 (by decide) (fun hc => ?_) (fun hc => ?_)
    · rw [br_n _ hc] at hf
      exact wb_Ma_toward_88 C0 hE N G hG _ _ _ hf hm _ _ _ hB H locs hP hD hS ls (lv_sub hl [1] rfl)
    · rw [br_p _ hc] at hf
      refine lv_iload_n hx hb d_Ma_toward_70 rfl (lv_at hl 2 rfl) ?_
      refine lv_iconst (v := 4) hx hb d_Ma_toward_71 (by decide) ?_
      refine lv_icmp_ne (tgt := 95) hx hb d_Ma_toward_72 (by decide) (fun hc => ?_) (fun hc => ?_)
      · rw [br_n _ hc] at hf
        exact wb_Ma_toward_95 C0 hE N G hG _ _ _ _ _ _ hf hm _ _ _ hB H locs hP hD hS ls (lv_sub hl [1, 2, 3, 4] rfl)
      · rw [br_p _ hc] at hf
        refine lv_aload_n hx hb d_Ma_toward_75 rfl (lv_at hl 1 rfl) ?_
        obtain ⟨r62, g62, hf⟩ := bo_some hf
        refine xg_R (i := v0) (k := 1) hx hb ht hown ck_Ma hK hP (by decide) fk_Ma_15 g62 d_Ma_toward_76 ?_
        obtain ⟨j63, ej63, hf⟩ := bo_some hf
        rw [ej63]
        obtain ⟨r64, g64, hf⟩ := bo_some hf
        refine xg_I (i := j63) (k := 10) hx hb ht hown ck_Wl hK hP (by decide) fk_Ma_442 g64 d_Ma_toward_79 ?_
        refine lv_sipush (v := 200) hx hb d_Ma_toward_82 (by decide) ?_
        refine lv_icmp_lt (tgt := 95) hx hb d_Ma_toward_85 (by decide) (fun hc => ?_) (fun hc => ?_)
        · rw [br_p _ hc] at hf
          exact wb_Ma_toward_95 C0 hE N G hG _ _ _ _ _ _ hf hm _ _ _ hB H locs hP hD hS ls (lv_sub hl [1, 2, 3, 4] rfl)
        · rw [br_n _ hc] at hf
          exact wb_Ma_toward_88 C0 hE N G hG _ _ _ hf hm _ _ _ hB H locs hP hD hS ls (lv_sub hl [1] rfl)
def fb_Ma_toward_58 (N : Nat) (G : Unit) (u : CS) (v0 : Nat) (v1 : Int32) (v2 : Int32) (v3 : Option Nat) : Option (CS × Unit) := fb_Ma_toward_59 N G u (v0) (v1) (v2) (v3) (0)
set_option maxRecDepth 100000 in
set_option maxHeartbeats 4000000 in
theorem wb_Ma_toward_58 {p : Program} {l : Launch} {e : Env} {s : State} {m : MethodId} {args : Array Value} {below : List Frame} {meth : Method} {c : Code} {s0 : State} {b0 : Nat} {D : va_G} {cB cI cJ cZ cS cP : ClassId} {A : Nat → Prop} {sk sv : Nat → Nat} {uN uS mc ms : Nat} {ad0 : Nat → Nat} (C0 : XCx p s s0 b0 m args meth c R_Ma b_Ma_toward 7 none D cB cI cJ cZ cS cP A) (hE : ENV s0 b0 sk sv) (N : Nat) (G : Unit) (hG : True) : ∀ (u : CS) (v0 : Nat) (v1 : Int32) (v2 : Int32) (v3 : Option Nat) (x : CS × Unit), fb_Ma_toward_58 N G u v0 v1 v2 v3 = some x → (uN + mc = x.1.1.1 ∧ uS + ms = x.1.1.2) → ∀ (ad : Nat → Nat) (ce sl : Nat), AB uN uS ad0 u ad ce sl → ∀ (H : Heap) (locs : List Loc), va_P D cls (wC cB cI cJ cZ cS cP ad u) H → va_D A (wC cB cI cJ cZ cS cP ad u) → va_S A s.heap H locs → ∀ (ls : Array Slot), lv_has ls 7 [(0, .ref (ad v0)), (1, .int v1), (2, .int v2), (3, va_rf (Option.map ad v3))] → W p l e (rm_Ma_toward mc ms) s m args below meth c H locs ce sl (MQ below (xQ D cB cI cJ cZ cS cP A ad0 uN x.1 none) args s mc ms A) (F0 m 58 ls []) := by
  intro u v0 v1 v2 v3 x hf hm ad ce sl hB H locs hP hD hS ls hl
  obtain ⟨hx, hb, hr, hml, ht, hown, hK, hA, hlocks, hA0, hO, hbs⟩ := id C0
  unfold fb_Ma_toward_58 at hf
  refine lv_iconst (v := 0) hx hb d_Ma_toward_58 (by decide) ?_
  exact wb_Ma_toward_59 C0 hE N G hG _ _ _ _ _ _ _ hf hm _ _ _ hB H locs hP hD hS ls (lv_sub hl [0, 1, 2, 3] rfl)
def fb_Ma_toward_11 (N : Nat) (G : Unit) (u : CS) (v0 : Nat) (v1 : Int32) (t0 : Int32) : Option (CS × Unit) := ck (isO u v0 5) (bx (gz u (fm_Ma_processAt N u v0 (t0 - 1))) (fun u65 r65 => gw u65 (br (decide (v1 = 29)) (bo (gR u65 v0 5 2) (fun r66 => bo (gR u65 v0 5 3) (fun r67 => bo r67 (fun j68 => bo (gR u65 j68 7 2) (fun r69 => bo (gR u65 v0 5 4) (fun r70 => bo r70 (fun j72 => ck (isO u65 j72 4) (bx (gz u65 (fm_Fr_below N u65 j72 0)) (fun u71 r71 => gw u71 (bo r66 (fun j74 => ck (isO u71 j74 8) (bx (gz u71 (fm_Te_size N u71 j74 r69 r71)) (fun u73 r73 => gw u73 (br (decide (r73 ≤ 500)) (fb_Ma_toward_58 N G u73 (v0) (v1) (t0) (r65)) (fb_Ma_toward_59 N G u73 (v0) (v1) (t0) (r65) (1)))))))))))))))) (fb_Ma_toward_58 N G u65 (v0) (v1) (t0) (r65)))))
set_option maxRecDepth 100000 in
set_option maxHeartbeats 4000000 in
theorem wb_Ma_toward_11 {p : Program} {l : Launch} {e : Env} {s : State} {m : MethodId} {args : Array Value} {below : List Frame} {meth : Method} {c : Code} {s0 : State} {b0 : Nat} {D : va_G} {cB cI cJ cZ cS cP : ClassId} {A : Nat → Prop} {sk sv : Nat → Nat} {uN uS mc ms : Nat} {ad0 : Nat → Nat} (C0 : XCx p s s0 b0 m args meth c R_Ma b_Ma_toward 7 none D cB cI cJ cZ cS cP A) (hE : ENV s0 b0 sk sv) (N : Nat) (G : Unit) (hG : True) : ∀ (u : CS) (v0 : Nat) (v1 : Int32) (t0 : Int32) (x : CS × Unit), fb_Ma_toward_11 N G u v0 v1 t0 = some x → (uN + mc = x.1.1.1 ∧ uS + ms = x.1.1.2) → ∀ (ad : Nat → Nat) (ce sl : Nat), AB uN uS ad0 u ad ce sl → ∀ (H : Heap) (locs : List Loc), va_P D cls (wC cB cI cJ cZ cS cP ad u) H → va_D A (wC cB cI cJ cZ cS cP ad u) → va_S A s.heap H locs → ∀ (ls : Array Slot), lv_has ls 7 [(0, .ref (ad v0)), (1, .int v1)] → W p l e (rm_Ma_toward mc ms) s m args below meth c H locs ce sl (MQ below (xQ D cB cI cJ cZ cS cP A ad0 uN x.1 none) args s mc ms A) (F0 m 11 ls [.int t0]) := by
  intro u v0 v1 t0 x hf hm ad ce sl hB H locs hP hD hS ls hl
  obtain ⟨hx, hb, hr, hml, ht, hown, hK, hA, hlocks, hA0, hO, hbs⟩ := id C0
  unfold fb_Ma_toward_11 at hf
  refine lv_istore_n (lv' := [(2, .int t0), (0, .ref (ad v0)), (1, .int v1)]) hx hb d_Ma_toward_11 rfl hl (by decide) (by first | rfl | simp [List.filter, cat_rf]) (fun ls hl => ?_)
  refine lv_aload_n hx hb d_Ma_toward_12 rfl (lv_at hl 1 rfl) ?_
  refine lv_iload_n hx hb d_Ma_toward_13 rfl (lv_at hl 0 rfl) ?_
  refine lv_iconst (v := 1) hx hb d_Ma_toward_14 (by decide) ?_
  refine lv_isub hx hb d_Ma_toward_15 ?_
  obtain ⟨hO9, hf⟩ := ck_some hf
  obtain ⟨u65, r65, hc65, hf⟩ := bx_some hf
  obtain ⟨hc65, hz65⟩ := gz_some hc65
  obtain ⟨hf, hw65⟩ := gw_some hf
  refine xV0 (i := v0) (As := [.int (t0 - 1)]) (rest := []) C0 hP hD hS ck_Ma hO9 (c_Ma_processAt N hE hc65) k_Ma_processAt (wd_of 1770 (by decide +kernel) rfl) hi_Ma_processAt hs_Ma_processAt hini_Ma rfl rfl hd_Ma_processAt rfl rm_Ma_toward_Ma_processAt hl.1 (Nat.le_of_ble_eq_true rfl) d_Ma_toward_16 rfl (hB.fit hm hz65 hw65) (fun H locs hP hD hS => ?_)
  have hB := hB.same2 hz65
  refine x_astore_n (lv' := [(3, va_rf (Option.map ad r65)), (2, .int t0), (0, .ref (ad v0)), (1, .int v1)]) hx hb d_Ma_toward_19 rfl hl (by decide) (by first | rfl | simp [List.filter, cat_rf]) (fun ls hl => ?_)
  refine lv_iload_n hx hb d_Ma_toward_20 rfl (lv_at hl 3 rfl) ?_
  refine lv_bipush (v := 29) hx hb d_Ma_toward_21 (by decide) ?_
  refine lv_icmp_ne (tgt := 58) hx hb d_Ma_toward_23 (by decide) (fun hc => ?_) (fun hc => ?_)
  · rw [br_n _ hc] at hf
    exact wb_Ma_toward_58 C0 hE N G hG _ _ _ _ _ _ hf hm _ _ _ hB H locs hP hD hS ls (lv_sub hl [2, 3, 1, 0] rfl)
  · rw [br_p _ hc] at hf
    refine lv_aload_n hx hb d_Ma_toward_26 rfl (lv_at hl 2 rfl) ?_
    obtain ⟨r66, g66, hf⟩ := bo_some hf
    refine xg_R (i := v0) (k := 2) hx hb ht hown ck_Ma hK hP (by decide) fk_Ma_19 g66 d_Ma_toward_27 ?_
    refine lv_aload_n hx hb d_Ma_toward_30 rfl (lv_at hl 2 rfl) ?_
    obtain ⟨r67, g67, hf⟩ := bo_some hf
    refine xg_R (i := v0) (k := 3) hx hb ht hown ck_Ma hK hP (by decide) fk_Ma_23 g67 d_Ma_toward_31 ?_
    obtain ⟨j68, ej68, hf⟩ := bo_some hf
    rw [ej68]
    obtain ⟨r69, g69, hf⟩ := bo_some hf
    refine xg_R (i := j68) (k := 2) hx hb ht hown ck_Pr hK hP (by decide) fk_Ma_195 g69 d_Ma_toward_34 ?_
    refine lv_aload_n hx hb d_Ma_toward_37 rfl (lv_at hl 2 rfl) ?_
    obtain ⟨r70, g70, hf⟩ := bo_some hf
    refine xg_R (i := v0) (k := 4) hx hb ht hown ck_Ma hK hP (by decide) fk_Ma_33 g70 d_Ma_toward_38 ?_
    refine lv_iconst (v := 0) hx hb d_Ma_toward_41 (by decide) ?_
    obtain ⟨j72, ej72, hf⟩ := bo_some hf
    rw [ej72]
    obtain ⟨hO9, hf⟩ := ck_some hf
    obtain ⟨u71, r71, hc71, hf⟩ := bx_some hf
    obtain ⟨hc71, hz71⟩ := gz_some hc71
    obtain ⟨hf, hw71⟩ := gw_some hf
    refine xV0 (i := j72) (As := [.int 0]) (rest := [va_rf (Option.map ad r69), va_rf (Option.map ad r66)]) C0 hP hD hS ck_Fr hO9 (c_Fr_below N hc71) k_Fr_below (wd_of 1653 (by decide +kernel) rfl) hi_Fr_below hs_Fr_below hini_Fr rfl rfl hd_Fr_below rfl rm_Ma_toward_Fr_below hl.1 (c8 (Nat.le_of_ble_eq_true rfl)) d_Ma_toward_42 rfl (hB.fit hm hz71 hw71) (fun H locs hP hD hS => ?_)
    have hB := hB.same2 hz71
    obtain ⟨j74, ej74, hf⟩ := bo_some hf
    rw [ej74]
    obtain ⟨hO9, hf⟩ := ck_some hf
    obtain ⟨u73, r73, hc73, hf⟩ := bx_some hf
    obtain ⟨hc73, hz73⟩ := gz_some hc73
    obtain ⟨hf, hw73⟩ := gw_some hf
    refine xV0 (i := j74) (As := [va_rf (Option.map ad r69), .long r71]) (rest := []) C0 hP hD hS ck_Te hO9 (c_Te_size N hc73) k_Te_size (wd_of 1685 (by decide +kernel) rfl) hi_Te_size hs_Te_size hini_Te rfl rfl hd_Te_size rfl rm_Ma_toward_Te_size hl.1 (Nat.le_of_ble_eq_true rfl) d_Ma_toward_45 rfl (hB.fit hm hz73 hw73) (fun H locs hP hD hS => ?_)
    have hB := hB.same2 hz73
    refine lv_sipush (v := 500) hx hb d_Ma_toward_48 (by decide) ?_
    refine lv_icmp_le (tgt := 58) hx hb d_Ma_toward_51 (by decide) (fun hc => ?_) (fun hc => ?_)
    · rw [br_p _ hc] at hf
      exact wb_Ma_toward_58 C0 hE N G hG _ _ _ _ _ _ hf hm _ _ _ hB H locs hP hD hS ls (lv_sub hl [2, 3, 1, 0] rfl)
    · rw [br_n _ hc] at hf
      refine lv_iconst (v := 1) hx hb d_Ma_toward_54 (by decide) ?_
      refine lv_goto (tgt := 59) hx hb d_Ma_toward_55 (by decide) ?_
      exact wb_Ma_toward_59 C0 hE N G hG _ _ _ _ _ _ _ hf hm _ _ _ hB H locs hP hD hS ls (lv_sub hl [2, 3, 1, 0] rfl)
def fb_Ma_toward_0 (N : Nat) (G : Unit) (u : CS) (v0 : Nat) (v1 : Int32) : Option (CS × Unit) := br (decide (v1 = 29)) (fb_Ma_toward_11 N G u (v0) (v1) (2)) (fb_Ma_toward_11 N G u (v0) (v1) (1))
set_option maxRecDepth 100000 in
set_option maxHeartbeats 4000000 in
theorem wb_Ma_toward_0 {p : Program} {l : Launch} {e : Env} {s : State} {m : MethodId} {args : Array Value} {below : List Frame} {meth : Method} {c : Code} {s0 : State} {b0 : Nat} {D : va_G} {cB cI cJ cZ cS cP : ClassId} {A : Nat → Prop} {sk sv : Nat → Nat} {uN uS mc ms : Nat} {ad0 : Nat → Nat} (C0 : XCx p s s0 b0 m args meth c R_Ma b_Ma_toward 7 none D cB cI cJ cZ cS cP A) (hE : ENV s0 b0 sk sv) (N : Nat) (G : Unit) (hG : True) : ∀ (u : CS) (v0 : Nat) (v1 : Int32) (x : CS × Unit), fb_Ma_toward_0 N G u v0 v1 = some x → (uN + mc = x.1.1.1 ∧ uS + ms = x.1.1.2) → ∀ (ad : Nat → Nat) (ce sl : Nat), AB uN uS ad0 u ad ce sl → ∀ (H : Heap) (locs : List Loc), va_P D cls (wC cB cI cJ cZ cS cP ad u) H → va_D A (wC cB cI cJ cZ cS cP ad u) → va_S A s.heap H locs → ∀ (ls : Array Slot), lv_has ls 7 [(0, .ref (ad v0)), (1, .int v1)] → W p l e (rm_Ma_toward mc ms) s m args below meth c H locs ce sl (MQ below (xQ D cB cI cJ cZ cS cP A ad0 uN x.1 none) args s mc ms A) (F0 m 0 ls []) := by
  intro u v0 v1 x hf hm ad ce sl hB H locs hP hD hS ls hl
  obtain ⟨hx, hb, hr, hml, ht, hown, hK, hA, hlocks, hA0, hO, hbs⟩ := id C0
  unfold fb_Ma_toward_0 at hf
  refine lv_iload_n hx hb d_Ma_toward_0 rfl (lv_at hl 1 rfl) ?_
  refine lv_bipush (v := 29) hx hb d_Ma_toward_1 (by decide) ?_
  refine lv_icmp_ne (tgt := 10) hx hb d_Ma_toward_3 (by decide) (fun hc => ?_) (fun hc => ?_)
  · rw [br_n _ hc] at hf
    refine lv_iconst (v := 1) hx hb d_Ma_toward_10 (by decide) ?_
    exact wb_Ma_toward_11 C0 hE N G hG _ _ _ _ _ hf hm _ _ _ hB H locs hP hD hS ls (lv_sub hl [0, 1] rfl)
  · rw [br_p _ hc] at hf
    refine lv_iconst (v := 2) hx hb d_Ma_toward_6 (by decide) ?_
    refine lv_goto (tgt := 11) hx hb d_Ma_toward_7 (by decide) ?_
    exact wb_Ma_toward_11 C0 hE N G hG _ _ _ _ _ hf hm _ _ _ hB H locs hP hD hS ls (lv_sub hl [0, 1] rfl)
def fm_Ma_toward (N : Nat) (u : CS) (v0 : Nat) (v1 : Int32) : Option (CS × Unit) := fb_Ma_toward_0 N () u v0 v1
set_option maxRecDepth 100000 in
set_option maxHeartbeats 4000000 in
theorem c_Ma_toward (N : Nat) {l : Launch} {s0 : State} {b0 : Nat} {D : va_G} {cB cI cJ cZ cS cP : ClassId} {sk sv : Nat → Nat} {ad : Nat → Nat} {u : CS} {sz mc ms : Nat} {v0 : Nat} {v1 : Int32} {x : CS × Unit} (hE : ENV s0 b0 sk sv) (hf : fm_Ma_toward N u v0 v1 = some x) (hm : u.1.1 + mc = x.1.1.1 ∧ u.1.2 + ms = x.1.1.2) : Met l y_Ma_toward (wd_ws y_Ma_toward b_Ma_toward 7 none) (rm_Ma_toward mc ms) (xPc s0 b0 D cB cI cJ cZ cS cP ad u sz [.ref (ad v0), .int v1]) (xQ D cB cI cJ cZ cS cP (xA cB cI cJ cZ cS cP ad u sz) ad u.1.1 x.1 none) mc ms (xA cB cI cJ cZ cS cP ad u sz) :=
  xMet (by decide) rfl (Nat.le_of_ble_eq_true rfl) (fun p e s m below meth c ls hsz hnm C0 hP hD hS hl =>
    wb_Ma_toward_0 C0 hE N () trivial u _ _ x hf hm ad 0 0 ⟨rfl, rfl, fun _ _ => rfl⟩ s.heap [] hP hD hS ls (lv_sub hl [0, 1] rfl))
abbrev b_Ma_room : ByteArray := prog_5_method_8_code
def y_Ma_room : MethodName := ⟨R_Ma, "room", "(I)Z"⟩
def w_Ma_room : List Cond := wd_ws y_Ma_room b_Ma_room 2 (some .boolean)
set_option maxRecDepth 100000 in
theorem k_Ma_room : Cond.code y_Ma_room b_Ma_room 2 (some .boolean) ∈ wd_tbl := wd_of 1856 rfl rfl
theorem d_Ma_room_0 : decode b_Ma_room 0 = .ok (.aload_n 0, 1) := by decide +kernel
theorem d_Ma_room_1 : decode b_Ma_room 1 = .ok (.getfield 23, 3) := by decide +kernel
theorem d_Ma_room_4 : decode b_Ma_room 4 = .ok (.iload_n 1, 1) := by decide +kernel
theorem d_Ma_room_5 : decode b_Ma_room 5 = .ok (.invokevirtual 127, 3) := by decide +kernel
theorem d_Ma_room_8 : decode b_Ma_room 8 = .ok (.ifCond .eq 5, 3) := by decide +kernel
theorem d_Ma_room_11 : decode b_Ma_room 11 = .ok (.iconst 1, 1) := by decide +kernel
theorem d_Ma_room_12 : decode b_Ma_room 12 = .ok (.ireturn, 1) := by decide +kernel
theorem d_Ma_room_13 : decode b_Ma_room 13 = .ok (.aload_n 0, 1) := by decide +kernel
theorem d_Ma_room_14 : decode b_Ma_room 14 = .ok (.getfield 15, 3) := by decide +kernel
theorem d_Ma_room_17 : decode b_Ma_room 17 = .ok (.aload_n 0, 1) := by decide +kernel
theorem d_Ma_room_18 : decode b_Ma_room 18 = .ok (.getfield 23, 3) := by decide +kernel
theorem d_Ma_room_21 : decode b_Ma_room 21 = .ok (.bipush 20, 2) := by decide +kernel
theorem d_Ma_room_23 : decode b_Ma_room 23 = .ok (.invokevirtual 131, 3) := by decide +kernel
theorem d_Ma_room_26 : decode b_Ma_room 26 = .ok (.iconst 0, 1) := by decide +kernel
theorem d_Ma_room_27 : decode b_Ma_room 27 = .ok (.ireturn, 1) := by decide +kernel
set_option maxRecDepth 100000 in
theorem hl_Ma_room : Cond.methodLink R_Ma 135 y_Ma_room ∈ wd_tbl := wd_of 1853 (by decide +kernel) rfl
set_option maxRecDepth 100000 in
theorem hi_Ma_room : Cond.instanceMethod y_Ma_room ∈ wd_tbl := wd_of 1855 (by decide +kernel) rfl
set_option maxRecDepth 100000 in
theorem hs_Ma_room : Cond.selects R_Ma y_Ma_room y_Ma_room ∈ wd_tbl := wd_of 92 (by decide +kernel) rfl
theorem hd_Ma_room : y_Ma_room.cls = R_Ma ∧ y_Ma_room.cls ≠ "java/lang/invoke/MethodHandle" ∧ y_Ma_room.cls ≠ "java/lang/invoke/VarHandle" ∧ (parseMethodDescriptor y_Ma_room.desc).map (fun d => d.parameters.length) = some 1 := by decide +kernel
def rm_Ma_room : Room := { frames := 3, cells := 0, slots := 0, locals := 97 }
theorem rm_Ma_room_Pr_want : (rm_Pr_want).frames + 1 ≤ rm_Ma_room.frames ∧ 8 + (2 + 11) + (rm_Pr_want).locals ≤ rm_Ma_room.locals := by
  show 2 + 1 ≤ 3 ∧ 8 + (2 + 11) + 76 ≤ 97
  decide
theorem rm_Ma_room_Wl_endsBy : (rm_Wl_endsBy).frames + 1 ≤ rm_Ma_room.frames ∧ 8 + (3 + 11) + (rm_Wl_endsBy).locals ≤ rm_Ma_room.locals := by
  show 1 + 1 ≤ 3 ∧ 8 + (3 + 11) + 24 ≤ 97
  decide
def fb_Ma_room_0 (N : Nat) (G : Unit) (u : CS) (v0 : Nat) (v1 : Int32) : Option (CS × Int32) := bo (gR u v0 5 3) (fun r1 => bo r1 (fun j3 => ck (isO u j3 7) (bx (fm_Pr_want N u j3 v1) (fun u2 r2 => br (decide (r2 = 0)) (bo (gR u2 v0 5 1) (fun r4 => bo (gR u2 v0 5 3) (fun r5 => bo r4 (fun j7 => ck (isO u2 j7 12) (bx (fm_Wl_endsBy N u2 j7 r5 20) (fun u6 r6 => ck (isb 0) (some (u6, 0)))))))) (ck (isb 1) (some (u2, 1)))))))
set_option maxRecDepth 100000 in
set_option maxHeartbeats 4000000 in
theorem wb_Ma_room_0 {p : Program} {l : Launch} {e : Env} {s : State} {m : MethodId} {args : Array Value} {below : List Frame} {meth : Method} {c : Code} {s0 : State} {b0 : Nat} {D : va_G} {cB cI cJ cZ cS cP : ClassId} {A : Nat → Prop} {sk sv : Nat → Nat} {ad : Nat → Nat} (C0 : XCx p s s0 b0 m args meth c R_Ma b_Ma_room 2 (some .boolean) D cB cI cJ cZ cS cP A) (hE : ENV s0 b0 sk sv) (N : Nat) (G : Unit) (hG : True) : ∀ (u : CS) (v0 : Nat) (v1 : Int32) (x : CS × Int32), fb_Ma_room_0 N G u v0 v1 = some x → ∀ (H : Heap) (locs : List Loc), va_P D cls (wC cB cI cJ cZ cS cP ad u) H → va_D A (wC cB cI cJ cZ cS cP ad u) → va_S A s.heap H locs → ∀ (ls : Array Slot), lv_has ls 2 [(0, .ref (ad v0)), (1, .int v1)] → W p l e rm_Ma_room s m args below meth c H locs 0 0 (MQ below (xQ0 D cB cI cJ cZ cS cP A ad x.1 (some (.inl x.2))) args s 0 0 A) (F0 m 0 ls []) := by
  intro u v0 v1 x hf H locs hP hD hS ls hl
  obtain ⟨hx, hb, hr, hml, ht, hown, hK, hA, hlocks, hA0, hO, hbs⟩ := id C0
  unfold fb_Ma_room_0 at hf
  refine lv_aload_n hx hb d_Ma_room_0 rfl (lv_at hl 0 rfl) ?_
  obtain ⟨r1, g1, hf⟩ := bo_some hf
  refine xg_R (i := v0) (k := 3) hx hb ht hown ck_Ma hK hP (by decide) fk_Ma_23 g1 d_Ma_room_1 ?_
  refine lv_iload_n hx hb d_Ma_room_4 rfl (lv_at hl 1 rfl) ?_
  obtain ⟨j3, ej3, hf⟩ := bo_some hf
  rw [ej3]
  obtain ⟨hO9, hf⟩ := ck_some hf
  obtain ⟨u2, r2, hc2, hf⟩ := bx_some hf
  refine xV0 (i := j3) (As := [.int v1]) (rest := []) C0 hP hD hS ck_Pr hO9 (c_Pr_want N hE hc2) k_Pr_want (wd_of 1692 (by decide +kernel) rfl) hi_Pr_want hs_Pr_want hini_Pr rfl rfl hd_Pr_want rfl rm_Ma_room_Pr_want hl.1 (Nat.le_of_ble_eq_true rfl) d_Ma_room_5 rfl ⟨Nat.zero_le _, Nat.zero_le _⟩ (fun H locs hP hD hS => ?_)
  refine lv_if_eq (tgt := 13) hx hb d_Ma_room_8 (by decide) (fun hc => ?_) (fun hc => ?_)
  · rw [br_p _ hc] at hf
    refine lv_aload_n hx hb d_Ma_room_13 rfl (lv_at hl 0 rfl) ?_
    obtain ⟨r4, g4, hf⟩ := bo_some hf
    refine xg_R (i := v0) (k := 1) hx hb ht hown ck_Ma hK hP (by decide) fk_Ma_15 g4 d_Ma_room_14 ?_
    refine lv_aload_n hx hb d_Ma_room_17 rfl (lv_at hl 0 rfl) ?_
    obtain ⟨r5, g5, hf⟩ := bo_some hf
    refine xg_R (i := v0) (k := 3) hx hb ht hown ck_Ma hK hP (by decide) fk_Ma_23 g5 d_Ma_room_18 ?_
    refine lv_bipush (v := 20) hx hb d_Ma_room_21 (by decide) ?_
    obtain ⟨j7, ej7, hf⟩ := bo_some hf
    rw [ej7]
    obtain ⟨hO9, hf⟩ := ck_some hf
    obtain ⟨u6, r6, hc6, hf⟩ := bx_some hf
    refine xV0 (i := j7) (As := [va_rf (Option.map ad r5), .int 20]) (rest := []) C0 hP hD hS ck_Wl hO9 (c_Wl_endsBy N hc6) k_Wl_endsBy (wd_of 1735 (by decide +kernel) rfl) hi_Wl_endsBy hs_Wl_endsBy hini_Wl rfl rfl hd_Wl_endsBy rfl rm_Ma_room_Wl_endsBy hl.1 (Nat.le_of_ble_eq_true rfl) d_Ma_room_23 rfl ⟨Nat.zero_le _, Nat.zero_le _⟩ (fun H locs hP hD hS => ?_)
    refine lv_iconst (v := 0) hx hb d_Ma_room_26 (by decide) ?_
    obtain ⟨hz, hf⟩ := ck_some hf
    exact xr0_z C0 hP hD hS hz hf d_Ma_room_27
  · rw [br_n _ hc] at hf
    refine lv_iconst (v := 1) hx hb d_Ma_room_11 (by decide) ?_
    obtain ⟨hz, hf⟩ := ck_some hf
    exact xr0_z C0 hP hD hS hz hf d_Ma_room_12
def fm_Ma_room (N : Nat) (u : CS) (v0 : Nat) (v1 : Int32) : Option (CS × Int32) := fb_Ma_room_0 N () u v0 v1
set_option maxRecDepth 100000 in
set_option maxHeartbeats 4000000 in
theorem c_Ma_room (N : Nat) {l : Launch} {s0 : State} {b0 : Nat} {D : va_G} {cB cI cJ cZ cS cP : ClassId} {sk sv : Nat → Nat} {ad : Nat → Nat} {u : CS} {sz : Nat} {v0 : Nat} {v1 : Int32} {x : CS × Int32} (hE : ENV s0 b0 sk sv) (hf : fm_Ma_room N u v0 v1 = some x) : Met l y_Ma_room (wd_ws y_Ma_room b_Ma_room 2 (some .boolean)) rm_Ma_room (xPc s0 b0 D cB cI cJ cZ cS cP ad u sz [.ref (ad v0), .int v1]) (xQ0 D cB cI cJ cZ cS cP (xA cB cI cJ cZ cS cP ad u sz) ad x.1 (some (.inl x.2))) 0 0 (xA cB cI cJ cZ cS cP ad u sz) :=
  xMet (by decide) rfl (Nat.le_of_ble_eq_true rfl) (fun p e s m below meth c ls hsz hnm C0 hP hD hS hl =>
    wb_Ma_room_0 C0 hE N () trivial u _ _ x hf s.heap [] hP hD hS ls (lv_sub hl [0, 1] rfl))
abbrev b_Ma_string : ByteArray := prog_5_method_15_code
def y_Ma_string : MethodName := ⟨R_Ma, "string", "(I)V"⟩
def w_Ma_string : List Cond := wd_ws y_Ma_string b_Ma_string 4 none
set_option maxRecDepth 100000 in
theorem k_Ma_string : Cond.code y_Ma_string b_Ma_string 4 none ∈ wd_tbl := wd_of 1852 rfl rfl
theorem d_Ma_string_0 : decode b_Ma_string 0 = .ok (.aload_n 0, 1) := by decide +kernel
theorem d_Ma_string_1 : decode b_Ma_string 1 = .ok (.iconst 2, 1) := by decide +kernel
theorem d_Ma_string_2 : decode b_Ma_string 2 = .ok (.iload_n 1, 1) := by decide +kernel
theorem d_Ma_string_3 : decode b_Ma_string 3 = .ok (.imul, 1) := by decide +kernel
theorem d_Ma_string_4 : decode b_Ma_string 4 = .ok (.invokevirtual 135, 3) := by decide +kernel
theorem d_Ma_string_7 : decode b_Ma_string 7 = .ok (.ifCond .ne 4, 3) := by decide +kernel
theorem d_Ma_string_10 : decode b_Ma_string 10 = .ok (.return_, 1) := by decide +kernel
theorem d_Ma_string_11 : decode b_Ma_string 11 = .ok (.aload_n 0, 1) := by decide +kernel
theorem d_Ma_string_12 : decode b_Ma_string 12 = .ok (.getfield 23, 3) := by decide +kernel
theorem d_Ma_string_15 : decode b_Ma_string 15 = .ok (.getfield 239, 3) := by decide +kernel
theorem d_Ma_string_18 : decode b_Ma_string 18 = .ok (.istore_n 2, 1) := by decide +kernel
theorem d_Ma_string_19 : decode b_Ma_string 19 = .ok (.iconst 0, 1) := by decide +kernel
theorem d_Ma_string_20 : decode b_Ma_string 20 = .ok (.istore_n 3, 1) := by decide +kernel
theorem d_Ma_string_21 : decode b_Ma_string 21 = .ok (.iload_n 3, 1) := by decide +kernel
theorem d_Ma_string_22 : decode b_Ma_string 22 = .ok (.iload_n 1, 1) := by decide +kernel
theorem d_Ma_string_23 : decode b_Ma_string 23 = .ok (.if_icmp .ge 68, 3) := by decide +kernel
theorem d_Ma_string_26 : decode b_Ma_string 26 = .ok (.aload_n 0, 1) := by decide +kernel
theorem d_Ma_string_27 : decode b_Ma_string 27 = .ok (.getfield 23, 3) := by decide +kernel
theorem d_Ma_string_30 : decode b_Ma_string 30 = .ok (.getfield 195, 3) := by decide +kernel
theorem d_Ma_string_33 : decode b_Ma_string 33 = .ok (.iload_n 2, 1) := by decide +kernel
theorem d_Ma_string_34 : decode b_Ma_string 34 = .ok (.iconst 2, 1) := by decide +kernel
theorem d_Ma_string_35 : decode b_Ma_string 35 = .ok (.iload_n 3, 1) := by decide +kernel
theorem d_Ma_string_36 : decode b_Ma_string 36 = .ok (.imul, 1) := by decide +kernel
theorem d_Ma_string_37 : decode b_Ma_string 37 = .ok (.iadd, 1) := by decide +kernel
theorem d_Ma_string_38 : decode b_Ma_string 38 = .ok (.iconst 0, 1) := by decide +kernel
theorem d_Ma_string_39 : decode b_Ma_string 39 = .ok (.aload_n 0, 1) := by decide +kernel
theorem d_Ma_string_40 : decode b_Ma_string 40 = .ok (.getfield 9, 3) := by decide +kernel
theorem d_Ma_string_43 : decode b_Ma_string 43 = .ok (.aload_n 0, 1) := by decide +kernel
theorem d_Ma_string_44 : decode b_Ma_string 44 = .ok (.getfield 40, 3) := by decide +kernel
theorem d_Ma_string_47 : decode b_Ma_string 47 = .ok (.iconst 2, 1) := by decide +kernel
theorem d_Ma_string_48 : decode b_Ma_string 48 = .ok (.iadd, 1) := by decide +kernel
theorem d_Ma_string_49 : decode b_Ma_string 49 = .ok (.iload_n 3, 1) := by decide +kernel
theorem d_Ma_string_50 : decode b_Ma_string 50 = .ok (.iadd, 1) := by decide +kernel
theorem d_Ma_string_51 : decode b_Ma_string 51 = .ok (.invokevirtual 67, 3) := by decide +kernel
theorem d_Ma_string_54 : decode b_Ma_string 54 = .ok (.invokestatic 101, 3) := by decide +kernel
theorem d_Ma_string_57 : decode b_Ma_string 57 = .ok (.lastore, 1) := by decide +kernel
theorem d_Ma_string_58 : decode b_Ma_string 58 = .ok (.aload_n 0, 1) := by decide +kernel
theorem d_Ma_string_59 : decode b_Ma_string 59 = .ok (.getfield 23, 3) := by decide +kernel
theorem d_Ma_string_62 : decode b_Ma_string 62 = .ok (.getfield 195, 3) := by decide +kernel
theorem d_Ma_string_65 : decode b_Ma_string 65 = .ok (.iload_n 2, 1) := by decide +kernel
theorem d_Ma_string_66 : decode b_Ma_string 66 = .ok (.iconst 2, 1) := by decide +kernel
theorem d_Ma_string_67 : decode b_Ma_string 67 = .ok (.iload_n 3, 1) := by decide +kernel
theorem d_Ma_string_68 : decode b_Ma_string 68 = .ok (.imul, 1) := by decide +kernel
theorem d_Ma_string_69 : decode b_Ma_string 69 = .ok (.iadd, 1) := by decide +kernel
theorem d_Ma_string_70 : decode b_Ma_string 70 = .ok (.iconst 1, 1) := by decide +kernel
theorem d_Ma_string_71 : decode b_Ma_string 71 = .ok (.iadd, 1) := by decide +kernel
theorem d_Ma_string_72 : decode b_Ma_string 72 = .ok (.bipush 7, 2) := by decide +kernel
theorem d_Ma_string_74 : decode b_Ma_string 74 = .ok (.iload_n 2, 1) := by decide +kernel
theorem d_Ma_string_75 : decode b_Ma_string 75 = .ok (.iconst 2, 1) := by decide +kernel
theorem d_Ma_string_76 : decode b_Ma_string 76 = .ok (.iload_n 3, 1) := by decide +kernel
theorem d_Ma_string_77 : decode b_Ma_string 77 = .ok (.imul, 1) := by decide +kernel
theorem d_Ma_string_78 : decode b_Ma_string 78 = .ok (.iadd, 1) := by decide +kernel
theorem d_Ma_string_79 : decode b_Ma_string 79 = .ok (.iconst 2, 1) := by decide +kernel
theorem d_Ma_string_80 : decode b_Ma_string 80 = .ok (.iadd, 1) := by decide +kernel
theorem d_Ma_string_81 : decode b_Ma_string 81 = .ok (.invokestatic 101, 3) := by decide +kernel
theorem d_Ma_string_84 : decode b_Ma_string 84 = .ok (.lastore, 1) := by decide +kernel
theorem d_Ma_string_85 : decode b_Ma_string 85 = .ok (.iinc 3 1, 3) := by decide +kernel
theorem d_Ma_string_88 : decode b_Ma_string 88 = .ok (.goto (-67), 3) := by decide +kernel
theorem d_Ma_string_91 : decode b_Ma_string 91 = .ok (.aload_n 0, 1) := by decide +kernel
theorem d_Ma_string_92 : decode b_Ma_string 92 = .ok (.iload_n 2, 1) := by decide +kernel
theorem d_Ma_string_93 : decode b_Ma_string 93 = .ok (.iload_n 1, 1) := by decide +kernel
theorem d_Ma_string_94 : decode b_Ma_string 94 = .ok (.bipush 6, 2) := by decide +kernel
theorem d_Ma_string_96 : decode b_Ma_string 96 = .ok (.iconst 0, 1) := by decide +kernel
theorem d_Ma_string_97 : decode b_Ma_string 97 = .ok (.invokestatic 101, 3) := by decide +kernel
theorem d_Ma_string_100 : decode b_Ma_string 100 = .ok (.invokevirtual 242, 3) := by decide +kernel
theorem d_Ma_string_103 : decode b_Ma_string 103 = .ok (.aload_n 0, 1) := by decide +kernel
theorem d_Ma_string_104 : decode b_Ma_string 104 = .ok (.getfield 33, 3) := by decide +kernel
theorem d_Ma_string_107 : decode b_Ma_string 107 = .ok (.iload_n 1, 1) := by decide +kernel
theorem d_Ma_string_108 : decode b_Ma_string 108 = .ok (.ifCond .ne 12, 3) := by decide +kernel
theorem d_Ma_string_111 : decode b_Ma_string 111 = .ok (.bipush 6, 2) := by decide +kernel
theorem d_Ma_string_113 : decode b_Ma_string 113 = .ok (.iconst 0, 1) := by decide +kernel
theorem d_Ma_string_114 : decode b_Ma_string 114 = .ok (.invokestatic 101, 3) := by decide +kernel
theorem d_Ma_string_117 : decode b_Ma_string 117 = .ok (.goto 9, 3) := by decide +kernel
theorem d_Ma_string_120 : decode b_Ma_string 120 = .ok (.bipush 7, 2) := by decide +kernel
theorem d_Ma_string_122 : decode b_Ma_string 122 = .ok (.iload_n 2, 1) := by decide +kernel
theorem d_Ma_string_123 : decode b_Ma_string 123 = .ok (.invokestatic 101, 3) := by decide +kernel
theorem d_Ma_string_126 : decode b_Ma_string 126 = .ok (.invokevirtual 112, 3) := by decide +kernel
theorem d_Ma_string_129 : decode b_Ma_string 129 = .ok (.aload_n 0, 1) := by decide +kernel
theorem d_Ma_string_130 : decode b_Ma_string 130 = .ok (.dup, 1) := by decide +kernel
theorem d_Ma_string_131 : decode b_Ma_string 131 = .ok (.getfield 40, 3) := by decide +kernel
theorem d_Ma_string_134 : decode b_Ma_string 134 = .ok (.iconst 2, 1) := by decide +kernel
theorem d_Ma_string_135 : decode b_Ma_string 135 = .ok (.iload_n 1, 1) := by decide +kernel
theorem d_Ma_string_136 : decode b_Ma_string 136 = .ok (.iadd, 1) := by decide +kernel
theorem d_Ma_string_137 : decode b_Ma_string 137 = .ok (.iadd, 1) := by decide +kernel
theorem d_Ma_string_138 : decode b_Ma_string 138 = .ok (.putfield 40, 3) := by decide +kernel
theorem d_Ma_string_141 : decode b_Ma_string 141 = .ok (.return_, 1) := by decide +kernel
set_option maxRecDepth 100000 in
theorem hl_Ma_string : Cond.methodLink R_Ma 177 y_Ma_string ∈ wd_tbl := wd_of 1849 (by decide +kernel) rfl
set_option maxRecDepth 100000 in
theorem hi_Ma_string : Cond.instanceMethod y_Ma_string ∈ wd_tbl := wd_of 1851 (by decide +kernel) rfl
set_option maxRecDepth 100000 in
theorem hs_Ma_string : Cond.selects R_Ma y_Ma_string y_Ma_string ∈ wd_tbl := wd_of 91 (by decide +kernel) rfl
theorem hd_Ma_string : y_Ma_string.cls = R_Ma ∧ y_Ma_string.cls ≠ "java/lang/invoke/MethodHandle" ∧ y_Ma_string.cls ≠ "java/lang/invoke/VarHandle" ∧ (parseMethodDescriptor y_Ma_string.desc).map (fun d => d.parameters.length) = some 1 := by decide +kernel
def rm_Ma_string (mc ms : Nat) : Room := { frames := 4, cells := mc, slots := ms, locals := 118 }
theorem rm_Ma_string_Ma_room {mc ms : Nat} : (rm_Ma_room).frames + 1 ≤ (rm_Ma_string mc ms).frames ∧ 8 + (2 + 11) + (rm_Ma_room).locals ≤ (rm_Ma_string mc ms).locals := by
  show 3 + 1 ≤ 4 ∧ 8 + (2 + 11) + 97 ≤ 118
  decide
theorem rm_Ma_string_Co_at {mc ms : Nat} : (rm_Co_at).frames + 1 ≤ (rm_Ma_string mc ms).frames ∧ 8 + (2 + 11) + (rm_Co_at).locals ≤ (rm_Ma_string mc ms).locals := by
  show 0 + 1 ≤ 4 ∧ 8 + (2 + 11) + 0 ≤ 118
  decide
theorem rm_Ma_string_Te_make {mc ms : Nat} : (rm_Te_make).frames + 1 ≤ (rm_Ma_string mc ms).frames ∧ 8 + (2 + 11) + (rm_Te_make).locals ≤ (rm_Ma_string mc ms).locals := by
  show 0 + 1 ≤ 4 ∧ 8 + (2 + 11) + 0 ≤ 118
  decide
theorem rm_Ma_string_Ma_endList {mc ms : Nat} : (rm_Ma_endList).frames + 1 ≤ (rm_Ma_string mc ms).frames ∧ 8 + (5 + 11) + (rm_Ma_endList).locals ≤ (rm_Ma_string mc ms).locals := by
  show 0 + 1 ≤ 4 ∧ 8 + (5 + 11) + 0 ≤ 118
  decide
theorem rm_Ma_string_Fr_push {mc ms : Nat} {mc2 ms2 : Nat} : (rm_Fr_push mc2 ms2).frames + 1 ≤ (rm_Ma_string mc ms).frames ∧ 8 + (3 + 11) + (rm_Fr_push mc2 ms2).locals ≤ (rm_Ma_string mc ms).locals := by
  show 2 + 1 ≤ 4 ∧ 8 + (3 + 11) + 82 ≤ 118
  decide
def fb_Ma_string_126 (N : Nat) (G : (CS → Nat → Int32 → Int32 → Int32 → Option (CS × Unit))) (u : CS) (v0 : Nat) (v1 : Int32) (t0 : Option Nat) (t1 : Int64) : Option (CS × Unit) := bo t0 (fun j2 => ck (isO u j2 4) (ck (List.all [some v0] (okR u.1.1)) (bx (gw u (fm_Fr_push N u j2 t1)) (fun u1 r1 => gw u1 (bo (gI u1 v0 5 5) (fun r3 => bo (pF u1 v0 5 5 (.inl (r3 + (2 + v1)))) (fun w4 => some (w4, ()))))))))
set_option maxRecDepth 100000 in
set_option maxHeartbeats 4000000 in
theorem wb_Ma_string_126 {p : Program} {l : Launch} {e : Env} {s : State} {m : MethodId} {args : Array Value} {below : List Frame} {meth : Method} {c : Code} {s0 : State} {b0 : Nat} {D : va_G} {cB cI cJ cZ cS cP : ClassId} {A : Nat → Prop} {sk sv : Nat → Nat} {uN uS mc ms : Nat} {ad0 : Nat → Nat} (C0 : XCx p s s0 b0 m args meth c R_Ma b_Ma_string 4 none D cB cI cJ cZ cS cP A) (hE : ENV s0 b0 sk sv) (N : Nat) (G : (CS → Nat → Int32 → Int32 → Int32 → Option (CS × Unit))) (hG : (∀ (u : CS) (v0 : Nat) (v1 : Int32) (v2 : Int32) (v3 : Int32) (x : CS × Unit), G u v0 v1 v2 v3 = some x → (uN + mc = x.1.1.1 ∧ uS + ms = x.1.1.2) → ∀ (ad : Nat → Nat) (ce sl : Nat), AB uN uS ad0 u ad ce sl → ∀ (H : Heap) (locs : List Loc), va_P D cls (wC cB cI cJ cZ cS cP ad u) H → va_D A (wC cB cI cJ cZ cS cP ad u) → va_S A s.heap H locs → ∀ (ls : Array Slot), lv_has ls 4 [(0, .ref (ad v0)), (1, .int v1), (2, .int v2), (3, .int v3)] → W p l e (rm_Ma_string mc ms) s m args below meth c H locs ce sl (MQ below (xQ D cB cI cJ cZ cS cP A ad0 uN x.1 none) args s mc ms A) (F0 m 21 ls []))) : ∀ (u : CS) (v0 : Nat) (v1 : Int32) (t0 : Option Nat) (t1 : Int64) (x : CS × Unit), fb_Ma_string_126 N G u v0 v1 t0 t1 = some x → (uN + mc = x.1.1.1 ∧ uS + ms = x.1.1.2) → ∀ (ad : Nat → Nat) (ce sl : Nat), AB uN uS ad0 u ad ce sl → ∀ (H : Heap) (locs : List Loc), va_P D cls (wC cB cI cJ cZ cS cP ad u) H → va_D A (wC cB cI cJ cZ cS cP ad u) → va_S A s.heap H locs → ∀ (ls : Array Slot), lv_has ls 4 [(0, .ref (ad v0)), (1, .int v1)] → W p l e (rm_Ma_string mc ms) s m args below meth c H locs ce sl (MQ below (xQ D cB cI cJ cZ cS cP A ad0 uN x.1 none) args s mc ms A) (F0 m 126 ls [.long t1, va_rf (Option.map ad t0)]) := by
  intro u v0 v1 t0 t1 x hf hm ad ce sl hB H locs hP hD hS ls hl
  obtain ⟨hx, hb, hr, hml, ht, hown, hK, hA, hlocks, hA0, hO, hbs⟩ := id C0
  unfold fb_Ma_string_126 at hf
  obtain ⟨j2, ej2, hf⟩ := bo_some hf
  rw [ej2]
  obtain ⟨hO9, hf⟩ := ck_some hf
  obtain ⟨hk1, hf⟩ := ck_some hf
  obtain ⟨u1, r1, hc1, hf⟩ := bx_some hf
  obtain ⟨hc1, hq1⟩ := gw_some hc1
  obtain ⟨hf, hw1⟩ := gw_some hf
  refine yV (i := j2) (As := [.long t1]) (rest := []) C0 hP hD hS ck_Fr hO9 (c_Fr_push N hE hc1 (gm hq1)) k_Fr_push (wd_of 1753 (by decide +kernel) rfl) hi_Fr_push hs_Fr_push hini_Fr rfl rfl hd_Fr_push rfl rm_Ma_string_Fr_push hl.1 (Nat.le_of_ble_eq_true rfl) d_Ma_string_126 rfl (gm hq1) hB hm hw1 (fun ad1 H locs ce sl hg1 hB hP hD hS => ?_)
  have q1_0 : ad1 v0 = ad v0 := ko_O (k := 0) hk1 rfl hg1
  have hl : lv_has ls 4 [(0, .ref (ad1 v0)), (1, .int v1)] := by simp only [q1_0]; exact hl
  refine lv_aload_n hx hb d_Ma_string_129 rfl (lv_at hl 0 rfl) ?_
  refine lv_dup hx hb d_Ma_string_130 rfl ?_
  obtain ⟨r3, g3, hf⟩ := bo_some hf
  refine xg_I (i := v0) (k := 5) hx hb ht hown ck_Ma hK hP (by decide) fk_Ma_40 g3 d_Ma_string_131 ?_
  refine lv_iconst (v := 2) hx hb d_Ma_string_134 (by decide) ?_
  refine lv_iload_n hx hb d_Ma_string_135 rfl (lv_at hl 1 rfl) ?_
  refine lv_iadd hx hb d_Ma_string_136 ?_
  refine lv_iadd hx hb d_Ma_string_137 ?_
  obtain ⟨w4, g4, hf⟩ := bo_some hf
  refine xp (i := v0) (k := 5) (v := (.inl (r3 + (2 + v1)))) hx hb ht hown ck_Ma hK hP hD hS (by decide) fk_Ma_40 rfl g4 rfl rfl d_Ma_string_138 (fun H locs hP hD hS => ?_)
  have hB := hB.same (pF_c g4)
  exact yr_v C0 hP hD hS hB hm hf d_Ma_string_141
def fb_Ma_string_21 (N : Nat) (G : (CS → Nat → Int32 → Int32 → Int32 → Option (CS × Unit))) (u : CS) (v0 : Nat) (v1 : Int32) (v2 : Int32) (v3 : Int32) : Option (CS × Unit) := br (decide (v1 ≤ v3)) (bx (gz u (fm_Te_make N u 6 0)) (fun u5 r5 => gw u5 (ck (isO u5 v0 5) (bx (gz u5 (fm_Ma_endList N u5 v0 v2 v1 r5)) (fun u6 r6 => gw u6 (bo (gR u6 v0 5 4) (fun r7 => br (decide (v1 = 0)) (bx (gz u6 (fm_Te_make N u6 6 0)) (fun u9 r9 => gw u9 (fb_Ma_string_126 N G u9 (v0) (v1) (r7) (r9)))) (bx (gz u6 (fm_Te_make N u6 7 v2)) (fun u8 r8 => gw u8 (fb_Ma_string_126 N G u8 (v0) (v1) (r7) (r8))))))))))) (bo (gR u v0 5 3) (fun r10 => bo r10 (fun j11 => bo (gR u j11 7 2) (fun r12 => bo (gR u v0 5 0) (fun r13 => bo (gI u v0 5 5) (fun r14 => bo r13 (fun j16 => ck (isO u j16 2) (bx (gz u (fm_Co_at N u j16 ((r14 + 2) + v3))) (fun u15 r15 => gw u15 (bx (gz u15 (fm_Te_make N u15 0 r15)) (fun u17 r17 => gw u17 (bo r12 (fun j18 => bo (sJ u17 j18 (v2 + (2 * v3)) r17) (fun w19 => bo (gR w19 v0 5 3) (fun r20 => bo r20 (fun j21 => bo (gR w19 j21 7 2) (fun r22 => bx (gz w19 (fm_Te_make N w19 7 ((v2 + (2 * v3)) + 2))) (fun u23 r23 => gw u23 (bo r22 (fun j24 => bo (sJ u23 j24 ((v2 + (2 * v3)) + 1) r23) (fun w25 => G w25 (v0) (v1) (v2) ((v3 + 1)))))))))))))))))))))))
set_option maxRecDepth 100000 in
set_option maxHeartbeats 4000000 in
theorem wb_Ma_string_21 {p : Program} {l : Launch} {e : Env} {s : State} {m : MethodId} {args : Array Value} {below : List Frame} {meth : Method} {c : Code} {s0 : State} {b0 : Nat} {D : va_G} {cB cI cJ cZ cS cP : ClassId} {A : Nat → Prop} {sk sv : Nat → Nat} {uN uS mc ms : Nat} {ad0 : Nat → Nat} (C0 : XCx p s s0 b0 m args meth c R_Ma b_Ma_string 4 none D cB cI cJ cZ cS cP A) (hE : ENV s0 b0 sk sv) (N : Nat) (G : (CS → Nat → Int32 → Int32 → Int32 → Option (CS × Unit))) (hG : (∀ (u : CS) (v0 : Nat) (v1 : Int32) (v2 : Int32) (v3 : Int32) (x : CS × Unit), G u v0 v1 v2 v3 = some x → (uN + mc = x.1.1.1 ∧ uS + ms = x.1.1.2) → ∀ (ad : Nat → Nat) (ce sl : Nat), AB uN uS ad0 u ad ce sl → ∀ (H : Heap) (locs : List Loc), va_P D cls (wC cB cI cJ cZ cS cP ad u) H → va_D A (wC cB cI cJ cZ cS cP ad u) → va_S A s.heap H locs → ∀ (ls : Array Slot), lv_has ls 4 [(0, .ref (ad v0)), (1, .int v1), (2, .int v2), (3, .int v3)] → W p l e (rm_Ma_string mc ms) s m args below meth c H locs ce sl (MQ below (xQ D cB cI cJ cZ cS cP A ad0 uN x.1 none) args s mc ms A) (F0 m 21 ls []))) : ∀ (u : CS) (v0 : Nat) (v1 : Int32) (v2 : Int32) (v3 : Int32) (x : CS × Unit), fb_Ma_string_21 N G u v0 v1 v2 v3 = some x → (uN + mc = x.1.1.1 ∧ uS + ms = x.1.1.2) → ∀ (ad : Nat → Nat) (ce sl : Nat), AB uN uS ad0 u ad ce sl → ∀ (H : Heap) (locs : List Loc), va_P D cls (wC cB cI cJ cZ cS cP ad u) H → va_D A (wC cB cI cJ cZ cS cP ad u) → va_S A s.heap H locs → ∀ (ls : Array Slot), lv_has ls 4 [(0, .ref (ad v0)), (1, .int v1), (2, .int v2), (3, .int v3)] → W p l e (rm_Ma_string mc ms) s m args below meth c H locs ce sl (MQ below (xQ D cB cI cJ cZ cS cP A ad0 uN x.1 none) args s mc ms A) (F0 m 21 ls []) := by
  intro u v0 v1 v2 v3 x hf hm ad ce sl hB H locs hP hD hS ls hl
  obtain ⟨hx, hb, hr, hml, ht, hown, hK, hA, hlocks, hA0, hO, hbs⟩ := id C0
  unfold fb_Ma_string_21 at hf
  refine lv_iload_n hx hb d_Ma_string_21 rfl (lv_at hl 3 rfl) ?_
  refine lv_iload_n hx hb d_Ma_string_22 rfl (lv_at hl 1 rfl) ?_
  refine lv_icmp_ge (tgt := 91) hx hb d_Ma_string_23 (by decide) (fun hc => ?_) (fun hc => ?_)
  · rw [br_p _ hc] at hf
    refine lv_aload_n hx hb d_Ma_string_91 rfl (lv_at hl 0 rfl) ?_
    refine lv_iload_n hx hb d_Ma_string_92 rfl (lv_at hl 2 rfl) ?_
    refine lv_iload_n hx hb d_Ma_string_93 rfl (lv_at hl 1 rfl) ?_
    refine lv_bipush (v := 6) hx hb d_Ma_string_94 (by decide) ?_
    refine lv_iconst (v := 0) hx hb d_Ma_string_96 (by decide) ?_
    obtain ⟨u5, r5, hc5, hf⟩ := bx_some hf
    obtain ⟨hc5, hz5⟩ := gz_some hc5
    obtain ⟨hf, hw5⟩ := gw_some hf
    refine xS0 (As := [.int 6, .int 0]) (rest := [.int v1, .int v2, .ref (ad v0)]) C0 hP hD hS (c_Te_make N hc5) k_Te_make (wd_of 1671 (by decide +kernel) rfl) ht_Te_make hini_Te rfl rfl hd_Te_make rfl rm_Ma_string_Te_make hl.1 (Nat.le_of_ble_eq_true rfl) d_Ma_string_97 rfl (hB.fit hm hz5 hw5) (fun H locs hP hD hS => ?_)
    have hB := hB.same2 hz5
    obtain ⟨hO9, hf⟩ := ck_some hf
    obtain ⟨u6, r6, hc6, hf⟩ := bx_some hf
    obtain ⟨hc6, hz6⟩ := gz_some hc6
    obtain ⟨hf, hw6⟩ := gw_some hf
    refine xV0 (i := v0) (As := [.int v2, .int v1, .long r5]) (rest := []) C0 hP hD hS ck_Ma hO9 (c_Ma_endList N hc6) k_Ma_endList (wd_of 1857 (by decide +kernel) rfl) hi_Ma_endList hs_Ma_endList hini_Ma rfl rfl hd_Ma_endList rfl rm_Ma_string_Ma_endList hl.1 (Nat.le_of_ble_eq_true rfl) d_Ma_string_100 rfl (hB.fit hm hz6 hw6) (fun H locs hP hD hS => ?_)
    have hB := hB.same2 hz6
    refine lv_aload_n hx hb d_Ma_string_103 rfl (lv_at hl 0 rfl) ?_
    obtain ⟨r7, g7, hf⟩ := bo_some hf
    refine xg_R (i := v0) (k := 4) hx hb ht hown ck_Ma hK hP (by decide) fk_Ma_33 g7 d_Ma_string_104 ?_
    refine lv_iload_n hx hb d_Ma_string_107 rfl (lv_at hl 1 rfl) ?_
    refine lv_if_ne (tgt := 120) hx hb d_Ma_string_108 (by decide) (fun hc => ?_) (fun hc => ?_)
    · rw [br_n _ hc] at hf
      refine lv_bipush (v := 7) hx hb d_Ma_string_120 (by decide) ?_
      refine lv_iload_n hx hb d_Ma_string_122 rfl (lv_at hl 2 rfl) ?_
      obtain ⟨u8, r8, hc8, hf⟩ := bx_some hf
      obtain ⟨hc8, hz8⟩ := gz_some hc8
      obtain ⟨hf, hw8⟩ := gw_some hf
      refine xS0 (As := [.int 7, .int v2]) (rest := [va_rf (Option.map ad r7)]) C0 hP hD hS (c_Te_make N hc8) k_Te_make (wd_of 1671 (by decide +kernel) rfl) ht_Te_make hini_Te rfl rfl hd_Te_make rfl rm_Ma_string_Te_make hl.1 (c8 (Nat.le_of_ble_eq_true rfl)) d_Ma_string_123 rfl (hB.fit hm hz8 hw8) (fun H locs hP hD hS => ?_)
      have hB := hB.same2 hz8
      exact wb_Ma_string_126 C0 hE N G hG _ _ _ _ _ _ hf hm _ _ _ hB H locs hP hD hS ls (lv_sub hl [0, 1] rfl)
    · rw [br_p _ hc] at hf
      refine lv_bipush (v := 6) hx hb d_Ma_string_111 (by decide) ?_
      refine lv_iconst (v := 0) hx hb d_Ma_string_113 (by decide) ?_
      obtain ⟨u9, r9, hc9, hf⟩ := bx_some hf
      obtain ⟨hc9, hz9⟩ := gz_some hc9
      obtain ⟨hf, hw9⟩ := gw_some hf
      refine xS0 (As := [.int 6, .int 0]) (rest := [va_rf (Option.map ad r7)]) C0 hP hD hS (c_Te_make N hc9) k_Te_make (wd_of 1671 (by decide +kernel) rfl) ht_Te_make hini_Te rfl rfl hd_Te_make rfl rm_Ma_string_Te_make hl.1 (c8 (Nat.le_of_ble_eq_true rfl)) d_Ma_string_114 rfl (hB.fit hm hz9 hw9) (fun H locs hP hD hS => ?_)
      have hB := hB.same2 hz9
      refine lv_goto (tgt := 126) hx hb d_Ma_string_117 (by decide) ?_
      exact wb_Ma_string_126 C0 hE N G hG _ _ _ _ _ _ hf hm _ _ _ hB H locs hP hD hS ls (lv_sub hl [0, 1] rfl)
  · rw [br_n _ hc] at hf
    refine lv_aload_n hx hb d_Ma_string_26 rfl (lv_at hl 0 rfl) ?_
    obtain ⟨r10, g10, hf⟩ := bo_some hf
    refine xg_R (i := v0) (k := 3) hx hb ht hown ck_Ma hK hP (by decide) fk_Ma_23 g10 d_Ma_string_27 ?_
    obtain ⟨j11, ej11, hf⟩ := bo_some hf
    rw [ej11]
    obtain ⟨r12, g12, hf⟩ := bo_some hf
    refine xg_R (i := j11) (k := 2) hx hb ht hown ck_Pr hK hP (by decide) fk_Ma_195 g12 d_Ma_string_30 ?_
    refine lv_iload_n hx hb d_Ma_string_33 rfl (lv_at hl 2 rfl) ?_
    refine lv_iconst (v := 2) hx hb d_Ma_string_34 (by decide) ?_
    refine lv_iload_n hx hb d_Ma_string_35 rfl (lv_at hl 3 rfl) ?_
    refine lv_imul hx hb d_Ma_string_36 ?_
    refine lv_iadd hx hb d_Ma_string_37 ?_
    refine lv_iconst (v := 0) hx hb d_Ma_string_38 (by decide) ?_
    refine lv_aload_n hx hb d_Ma_string_39 rfl (lv_at hl 0 rfl) ?_
    obtain ⟨r13, g13, hf⟩ := bo_some hf
    refine xg_R (i := v0) (k := 0) hx hb ht hown ck_Ma hK hP (by decide) fk_Ma_9 g13 d_Ma_string_40 ?_
    refine lv_aload_n hx hb d_Ma_string_43 rfl (lv_at hl 0 rfl) ?_
    obtain ⟨r14, g14, hf⟩ := bo_some hf
    refine xg_I (i := v0) (k := 5) hx hb ht hown ck_Ma hK hP (by decide) fk_Ma_40 g14 d_Ma_string_44 ?_
    refine lv_iconst (v := 2) hx hb d_Ma_string_47 (by decide) ?_
    refine lv_iadd hx hb d_Ma_string_48 ?_
    refine lv_iload_n hx hb d_Ma_string_49 rfl (lv_at hl 3 rfl) ?_
    refine lv_iadd hx hb d_Ma_string_50 ?_
    obtain ⟨j16, ej16, hf⟩ := bo_some hf
    rw [ej16]
    obtain ⟨hO9, hf⟩ := ck_some hf
    obtain ⟨u15, r15, hc15, hf⟩ := bx_some hf
    obtain ⟨hc15, hz15⟩ := gz_some hc15
    obtain ⟨hf, hw15⟩ := gw_some hf
    refine xV0 (i := j16) (As := [.int ((r14 + 2) + v3)]) (rest := [.int 0, .int (v2 + (2 * v3)), va_rf (Option.map ad r12)]) C0 hP hD hS ck_Co hO9 (c_Co_at N hc15) k_Co_at (wd_of 1644 (by decide +kernel) rfl) hi_Co_at hs_Co_at hini_Co rfl rfl hd_Co_at rfl rm_Ma_string_Co_at hl.1 (c8 (Nat.le_of_ble_eq_true rfl)) d_Ma_string_51 rfl (hB.fit hm hz15 hw15) (fun H locs hP hD hS => ?_)
    have hB := hB.same2 hz15
    obtain ⟨u17, r17, hc17, hf⟩ := bx_some hf
    obtain ⟨hc17, hz17⟩ := gz_some hc17
    obtain ⟨hf, hw17⟩ := gw_some hf
    refine xS0 (As := [.int 0, .int r15]) (rest := [.int (v2 + (2 * v3)), va_rf (Option.map ad r12)]) C0 hP hD hS (c_Te_make N hc17) k_Te_make (wd_of 1671 (by decide +kernel) rfl) ht_Te_make hini_Te rfl rfl hd_Te_make rfl rm_Ma_string_Te_make hl.1 (c8 (Nat.le_of_ble_eq_true rfl)) d_Ma_string_54 rfl (hB.fit hm hz17 hw17) (fun H locs hP hD hS => ?_)
    have hB := hB.same2 hz17
    obtain ⟨j18, ej18, hf⟩ := bo_some hf
    rw [ej18]
    obtain ⟨w19, g19, hf⟩ := bo_some hf
    refine xs_J (i := j18) hx hb hK hP hD hS g19 d_Ma_string_57 (fun H locs hP hD hS => ?_)
    have hB := hB.same (sJ_c g19)
    refine lv_aload_n hx hb d_Ma_string_58 rfl (lv_at hl 0 rfl) ?_
    obtain ⟨r20, g20, hf⟩ := bo_some hf
    refine xg_R (i := v0) (k := 3) hx hb ht hown ck_Ma hK hP (by decide) fk_Ma_23 g20 d_Ma_string_59 ?_
    obtain ⟨j21, ej21, hf⟩ := bo_some hf
    rw [ej21]
    obtain ⟨r22, g22, hf⟩ := bo_some hf
    refine xg_R (i := j21) (k := 2) hx hb ht hown ck_Pr hK hP (by decide) fk_Ma_195 g22 d_Ma_string_62 ?_
    refine lv_iload_n hx hb d_Ma_string_65 rfl (lv_at hl 2 rfl) ?_
    refine lv_iconst (v := 2) hx hb d_Ma_string_66 (by decide) ?_
    refine lv_iload_n hx hb d_Ma_string_67 rfl (lv_at hl 3 rfl) ?_
    refine lv_imul hx hb d_Ma_string_68 ?_
    refine lv_iadd hx hb d_Ma_string_69 ?_
    refine lv_iconst (v := 1) hx hb d_Ma_string_70 (by decide) ?_
    refine lv_iadd hx hb d_Ma_string_71 ?_
    refine lv_bipush (v := 7) hx hb d_Ma_string_72 (by decide) ?_
    refine lv_iload_n hx hb d_Ma_string_74 rfl (lv_at hl 2 rfl) ?_
    refine lv_iconst (v := 2) hx hb d_Ma_string_75 (by decide) ?_
    refine lv_iload_n hx hb d_Ma_string_76 rfl (lv_at hl 3 rfl) ?_
    refine lv_imul hx hb d_Ma_string_77 ?_
    refine lv_iadd hx hb d_Ma_string_78 ?_
    refine lv_iconst (v := 2) hx hb d_Ma_string_79 (by decide) ?_
    refine lv_iadd hx hb d_Ma_string_80 ?_
    obtain ⟨u23, r23, hc23, hf⟩ := bx_some hf
    obtain ⟨hc23, hz23⟩ := gz_some hc23
    obtain ⟨hf, hw23⟩ := gw_some hf
    refine xS0 (As := [.int 7, .int ((v2 + (2 * v3)) + 2)]) (rest := [.int ((v2 + (2 * v3)) + 1), va_rf (Option.map ad r22)]) C0 hP hD hS (c_Te_make N hc23) k_Te_make (wd_of 1671 (by decide +kernel) rfl) ht_Te_make hini_Te rfl rfl hd_Te_make rfl rm_Ma_string_Te_make hl.1 (c8 (Nat.le_of_ble_eq_true rfl)) d_Ma_string_81 rfl (hB.fit hm hz23 hw23) (fun H locs hP hD hS => ?_)
    have hB := hB.same2 hz23
    obtain ⟨j24, ej24, hf⟩ := bo_some hf
    rw [ej24]
    obtain ⟨w25, g25, hf⟩ := bo_some hf
    refine xs_J (i := j24) hx hb hK hP hD hS g25 d_Ma_string_84 (fun H locs hP hD hS => ?_)
    have hB := hB.same (sJ_c g25)
    refine lv_iinc (v := (v3 + 1)) (lv' := [(3, .int (v3 + 1)), (0, .ref (ad v0)), (1, .int v1), (2, .int v2)]) hx hb d_Ma_string_85 hl (k := 3) rfl rfl (by decide) (by first | rfl | simp [List.filter, cat_rf]) (fun ls hl => ?_)
    refine lv_goto (tgt := 21) hx hb d_Ma_string_88 (by decide) ?_
    exact hG _ _ _ _ _ _ hf hm _ _ _ hB H locs hP hD hS ls (lv_sub hl [1, 2, 3, 0] rfl)
def fb_Ma_string_0 (N : Nat) (G : (CS → Nat → Int32 → Int32 → Int32 → Option (CS × Unit))) (u : CS) (v0 : Nat) (v1 : Int32) : Option (CS × Unit) := ck (isO u v0 5) (bx (gz u (fm_Ma_room N u v0 (2 * v1))) (fun u26 r26 => gw u26 (br (decide (r26 = 0)) (some (u26, ())) (bo (gR u26 v0 5 3) (fun r27 => bo r27 (fun j28 => bo (gI u26 j28 7 4) (fun r29 => G u26 (v0) (v1) (r29) (0))))))))
set_option maxRecDepth 100000 in
set_option maxHeartbeats 4000000 in
theorem wb_Ma_string_0 {p : Program} {l : Launch} {e : Env} {s : State} {m : MethodId} {args : Array Value} {below : List Frame} {meth : Method} {c : Code} {s0 : State} {b0 : Nat} {D : va_G} {cB cI cJ cZ cS cP : ClassId} {A : Nat → Prop} {sk sv : Nat → Nat} {uN uS mc ms : Nat} {ad0 : Nat → Nat} (C0 : XCx p s s0 b0 m args meth c R_Ma b_Ma_string 4 none D cB cI cJ cZ cS cP A) (hE : ENV s0 b0 sk sv) (N : Nat) (G : (CS → Nat → Int32 → Int32 → Int32 → Option (CS × Unit))) (hG : (∀ (u : CS) (v0 : Nat) (v1 : Int32) (v2 : Int32) (v3 : Int32) (x : CS × Unit), G u v0 v1 v2 v3 = some x → (uN + mc = x.1.1.1 ∧ uS + ms = x.1.1.2) → ∀ (ad : Nat → Nat) (ce sl : Nat), AB uN uS ad0 u ad ce sl → ∀ (H : Heap) (locs : List Loc), va_P D cls (wC cB cI cJ cZ cS cP ad u) H → va_D A (wC cB cI cJ cZ cS cP ad u) → va_S A s.heap H locs → ∀ (ls : Array Slot), lv_has ls 4 [(0, .ref (ad v0)), (1, .int v1), (2, .int v2), (3, .int v3)] → W p l e (rm_Ma_string mc ms) s m args below meth c H locs ce sl (MQ below (xQ D cB cI cJ cZ cS cP A ad0 uN x.1 none) args s mc ms A) (F0 m 21 ls []))) : ∀ (u : CS) (v0 : Nat) (v1 : Int32) (x : CS × Unit), fb_Ma_string_0 N G u v0 v1 = some x → (uN + mc = x.1.1.1 ∧ uS + ms = x.1.1.2) → ∀ (ad : Nat → Nat) (ce sl : Nat), AB uN uS ad0 u ad ce sl → ∀ (H : Heap) (locs : List Loc), va_P D cls (wC cB cI cJ cZ cS cP ad u) H → va_D A (wC cB cI cJ cZ cS cP ad u) → va_S A s.heap H locs → ∀ (ls : Array Slot), lv_has ls 4 [(0, .ref (ad v0)), (1, .int v1)] → W p l e (rm_Ma_string mc ms) s m args below meth c H locs ce sl (MQ below (xQ D cB cI cJ cZ cS cP A ad0 uN x.1 none) args s mc ms A) (F0 m 0 ls []) := by
  intro u v0 v1 x hf hm ad ce sl hB H locs hP hD hS ls hl
  obtain ⟨hx, hb, hr, hml, ht, hown, hK, hA, hlocks, hA0, hO, hbs⟩ := id C0
  unfold fb_Ma_string_0 at hf
  refine lv_aload_n hx hb d_Ma_string_0 rfl (lv_at hl 0 rfl) ?_
  refine lv_iconst (v := 2) hx hb d_Ma_string_1 (by decide) ?_
  refine lv_iload_n hx hb d_Ma_string_2 rfl (lv_at hl 1 rfl) ?_
  refine lv_imul hx hb d_Ma_string_3 ?_
  obtain ⟨hO9, hf⟩ := ck_some hf
  obtain ⟨u26, r26, hc26, hf⟩ := bx_some hf
  obtain ⟨hc26, hz26⟩ := gz_some hc26
  obtain ⟨hf, hw26⟩ := gw_some hf
  refine xV0 (i := v0) (As := [.int (2 * v1)]) (rest := []) C0 hP hD hS ck_Ma hO9 (c_Ma_room N hE hc26) k_Ma_room (wd_of 1853 (by decide +kernel) rfl) hi_Ma_room hs_Ma_room hini_Ma rfl rfl hd_Ma_room rfl rm_Ma_string_Ma_room hl.1 (Nat.le_of_ble_eq_true rfl) d_Ma_string_4 rfl (hB.fit hm hz26 hw26) (fun H locs hP hD hS => ?_)
  have hB := hB.same2 hz26
  refine lv_if_ne (tgt := 11) hx hb d_Ma_string_7 (by decide) (fun hc => ?_) (fun hc => ?_)
  · rw [br_n _ hc] at hf
    refine lv_aload_n hx hb d_Ma_string_11 rfl (lv_at hl 0 rfl) ?_
    obtain ⟨r27, g27, hf⟩ := bo_some hf
    refine xg_R (i := v0) (k := 3) hx hb ht hown ck_Ma hK hP (by decide) fk_Ma_23 g27 d_Ma_string_12 ?_
    obtain ⟨j28, ej28, hf⟩ := bo_some hf
    rw [ej28]
    obtain ⟨r29, g29, hf⟩ := bo_some hf
    refine xg_I (i := j28) (k := 4) hx hb ht hown ck_Pr hK hP (by decide) fk_Ma_239 g29 d_Ma_string_15 ?_
    refine lv_istore_n (lv' := [(2, .int r29), (0, .ref (ad v0)), (1, .int v1)]) hx hb d_Ma_string_18 rfl hl (by decide) (by first | rfl | simp [List.filter, cat_rf]) (fun ls hl => ?_)
    refine lv_iconst (v := 0) hx hb d_Ma_string_19 (by decide) ?_
    refine lv_istore_n (lv' := [(3, .int 0), (2, .int r29), (0, .ref (ad v0)), (1, .int v1)]) hx hb d_Ma_string_20 rfl hl (by decide) (by first | rfl | simp [List.filter, cat_rf]) (fun ls hl => ?_)
    exact hG _ _ _ _ _ _ hf hm _ _ _ hB H locs hP hD hS ls (lv_sub hl [2, 3, 1, 0] rfl)
  · rw [br_p _ hc] at hf
    exact yr_v C0 hP hD hS hB hm hf d_Ma_string_10
def gg_Ma_string (N : Nat) : Nat → ((CS → Nat → Int32 → Int32 → Int32 → Option (CS × Unit)))
  | 0 => fun _ _ _ _ _ => none
  | n + 1 => fb_Ma_string_21 N (gg_Ma_string N n)
theorem wg_Ma_string {p : Program} {l : Launch} {e : Env} {s : State} {m : MethodId} {args : Array Value} {below : List Frame} {meth : Method} {c : Code} {s0 : State} {b0 : Nat} {D : va_G} {cB cI cJ cZ cS cP : ClassId} {A : Nat → Prop} {sk sv : Nat → Nat} {uN uS mc ms : Nat} {ad0 : Nat → Nat} (C0 : XCx p s s0 b0 m args meth c R_Ma b_Ma_string 4 none D cB cI cJ cZ cS cP A) (hE : ENV s0 b0 sk sv) (N : Nat) : ∀ n : Nat, (∀ (u : CS) (v0 : Nat) (v1 : Int32) (v2 : Int32) (v3 : Int32) (x : CS × Unit), gg_Ma_string N n u v0 v1 v2 v3 = some x → (uN + mc = x.1.1.1 ∧ uS + ms = x.1.1.2) → ∀ (ad : Nat → Nat) (ce sl : Nat), AB uN uS ad0 u ad ce sl → ∀ (H : Heap) (locs : List Loc), va_P D cls (wC cB cI cJ cZ cS cP ad u) H → va_D A (wC cB cI cJ cZ cS cP ad u) → va_S A s.heap H locs → ∀ (ls : Array Slot), lv_has ls 4 [(0, .ref (ad v0)), (1, .int v1), (2, .int v2), (3, .int v3)] → W p l e (rm_Ma_string mc ms) s m args below meth c H locs ce sl (MQ below (xQ D cB cI cJ cZ cS cP A ad0 uN x.1 none) args s mc ms A) (F0 m 21 ls []))
  | 0 => (fun u v0 v1 v2 v3 x hf => by cases hf)
  | n + 1 => wb_Ma_string_21 C0 hE N (gg_Ma_string N n) (wg_Ma_string C0 hE N n)
def fm_Ma_string (N : Nat) (u : CS) (v0 : Nat) (v1 : Int32) : Option (CS × Unit) := fb_Ma_string_0 N (gg_Ma_string N N) u v0 v1
set_option maxRecDepth 100000 in
set_option maxHeartbeats 4000000 in
theorem c_Ma_string (N : Nat) {l : Launch} {s0 : State} {b0 : Nat} {D : va_G} {cB cI cJ cZ cS cP : ClassId} {sk sv : Nat → Nat} {ad : Nat → Nat} {u : CS} {sz mc ms : Nat} {v0 : Nat} {v1 : Int32} {x : CS × Unit} (hE : ENV s0 b0 sk sv) (hf : fm_Ma_string N u v0 v1 = some x) (hm : u.1.1 + mc = x.1.1.1 ∧ u.1.2 + ms = x.1.1.2) : Met l y_Ma_string (wd_ws y_Ma_string b_Ma_string 4 none) (rm_Ma_string mc ms) (xPc s0 b0 D cB cI cJ cZ cS cP ad u sz [.ref (ad v0), .int v1]) (xQ D cB cI cJ cZ cS cP (xA cB cI cJ cZ cS cP ad u sz) ad u.1.1 x.1 none) mc ms (xA cB cI cJ cZ cS cP ad u sz) :=
  xMet (by decide) rfl (Nat.le_of_ble_eq_true rfl) (fun p e s m below meth c ls hsz hnm C0 hP hD hS hl =>
    wb_Ma_string_0 C0 hE N (gg_Ma_string N N) (wg_Ma_string C0 hE N N) u _ _ x hf hm ad 0 0 ⟨rfl, rfl, fun _ _ => rfl⟩ s.heap [] hP hD hS ls (lv_sub hl [0, 1] rfl))
abbrev b_Ma_tuple : ByteArray := prog_5_method_17_code
def y_Ma_tuple : MethodName := ⟨R_Ma, "tuple", "(I)V"⟩
def w_Ma_tuple : List Cond := wd_ws y_Ma_tuple b_Ma_tuple 4 none
set_option maxRecDepth 100000 in
theorem k_Ma_tuple : Cond.code y_Ma_tuple b_Ma_tuple 4 none ∈ wd_tbl := wd_of 1868 rfl rfl
theorem d_Ma_tuple_0 : decode b_Ma_tuple 0 = .ok (.aload_n 0, 1) := by decide +kernel
theorem d_Ma_tuple_1 : decode b_Ma_tuple 1 = .ok (.iload_n 1, 1) := by decide +kernel
theorem d_Ma_tuple_2 : decode b_Ma_tuple 2 = .ok (.iload_n 1, 1) := by decide +kernel
theorem d_Ma_tuple_3 : decode b_Ma_tuple 3 = .ok (.iconst 1, 1) := by decide +kernel
theorem d_Ma_tuple_4 : decode b_Ma_tuple 4 = .ok (.iadd, 1) := by decide +kernel
theorem d_Ma_tuple_5 : decode b_Ma_tuple 5 = .ok (.invokevirtual 245, 3) := by decide +kernel
theorem d_Ma_tuple_8 : decode b_Ma_tuple 8 = .ok (.sipush 500, 3) := by decide +kernel
theorem d_Ma_tuple_11 : decode b_Ma_tuple 11 = .ok (.if_icmp .le 10, 3) := by decide +kernel
theorem d_Ma_tuple_14 : decode b_Ma_tuple 14 = .ok (.aload_n 0, 1) := by decide +kernel
theorem d_Ma_tuple_15 : decode b_Ma_tuple 15 = .ok (.bipush 11, 2) := by decide +kernel
theorem d_Ma_tuple_17 : decode b_Ma_tuple 17 = .ok (.invokevirtual 249, 3) := by decide +kernel
theorem d_Ma_tuple_20 : decode b_Ma_tuple 20 = .ok (.return_, 1) := by decide +kernel
theorem d_Ma_tuple_21 : decode b_Ma_tuple 21 = .ok (.aload_n 0, 1) := by decide +kernel
theorem d_Ma_tuple_22 : decode b_Ma_tuple 22 = .ok (.iload_n 1, 1) := by decide +kernel
theorem d_Ma_tuple_23 : decode b_Ma_tuple 23 = .ok (.iconst 1, 1) := by decide +kernel
theorem d_Ma_tuple_24 : decode b_Ma_tuple 24 = .ok (.iadd, 1) := by decide +kernel
theorem d_Ma_tuple_25 : decode b_Ma_tuple 25 = .ok (.invokevirtual 135, 3) := by decide +kernel
theorem d_Ma_tuple_28 : decode b_Ma_tuple 28 = .ok (.ifCond .ne 4, 3) := by decide +kernel
theorem d_Ma_tuple_31 : decode b_Ma_tuple 31 = .ok (.return_, 1) := by decide +kernel
theorem d_Ma_tuple_32 : decode b_Ma_tuple 32 = .ok (.aload_n 0, 1) := by decide +kernel
theorem d_Ma_tuple_33 : decode b_Ma_tuple 33 = .ok (.getfield 23, 3) := by decide +kernel
theorem d_Ma_tuple_36 : decode b_Ma_tuple 36 = .ok (.getfield 239, 3) := by decide +kernel
theorem d_Ma_tuple_39 : decode b_Ma_tuple 39 = .ok (.istore_n 2, 1) := by decide +kernel
theorem d_Ma_tuple_40 : decode b_Ma_tuple 40 = .ok (.aload_n 0, 1) := by decide +kernel
theorem d_Ma_tuple_41 : decode b_Ma_tuple 41 = .ok (.getfield 23, 3) := by decide +kernel
theorem d_Ma_tuple_44 : decode b_Ma_tuple 44 = .ok (.getfield 195, 3) := by decide +kernel
theorem d_Ma_tuple_47 : decode b_Ma_tuple 47 = .ok (.iload_n 2, 1) := by decide +kernel
theorem d_Ma_tuple_48 : decode b_Ma_tuple 48 = .ok (.bipush 8, 2) := by decide +kernel
theorem d_Ma_tuple_50 : decode b_Ma_tuple 50 = .ok (.iload_n 1, 1) := by decide +kernel
theorem d_Ma_tuple_51 : decode b_Ma_tuple 51 = .ok (.invokestatic 101, 3) := by decide +kernel
theorem d_Ma_tuple_54 : decode b_Ma_tuple 54 = .ok (.lastore, 1) := by decide +kernel
theorem d_Ma_tuple_55 : decode b_Ma_tuple 55 = .ok (.iconst 0, 1) := by decide +kernel
theorem d_Ma_tuple_56 : decode b_Ma_tuple 56 = .ok (.istore_n 3, 1) := by decide +kernel
theorem d_Ma_tuple_57 : decode b_Ma_tuple 57 = .ok (.iload_n 3, 1) := by decide +kernel
theorem d_Ma_tuple_58 : decode b_Ma_tuple 58 = .ok (.iload_n 1, 1) := by decide +kernel
theorem d_Ma_tuple_59 : decode b_Ma_tuple 59 = .ok (.if_icmp .ge 34, 3) := by decide +kernel
theorem d_Ma_tuple_62 : decode b_Ma_tuple 62 = .ok (.aload_n 0, 1) := by decide +kernel
theorem d_Ma_tuple_63 : decode b_Ma_tuple 63 = .ok (.getfield 23, 3) := by decide +kernel
theorem d_Ma_tuple_66 : decode b_Ma_tuple 66 = .ok (.getfield 195, 3) := by decide +kernel
theorem d_Ma_tuple_69 : decode b_Ma_tuple 69 = .ok (.iload_n 2, 1) := by decide +kernel
theorem d_Ma_tuple_70 : decode b_Ma_tuple 70 = .ok (.iconst 1, 1) := by decide +kernel
theorem d_Ma_tuple_71 : decode b_Ma_tuple 71 = .ok (.iadd, 1) := by decide +kernel
theorem d_Ma_tuple_72 : decode b_Ma_tuple 72 = .ok (.iload_n 3, 1) := by decide +kernel
theorem d_Ma_tuple_73 : decode b_Ma_tuple 73 = .ok (.iadd, 1) := by decide +kernel
theorem d_Ma_tuple_74 : decode b_Ma_tuple 74 = .ok (.aload_n 0, 1) := by decide +kernel
theorem d_Ma_tuple_75 : decode b_Ma_tuple 75 = .ok (.getfield 33, 3) := by decide +kernel
theorem d_Ma_tuple_78 : decode b_Ma_tuple 78 = .ok (.iload_n 1, 1) := by decide +kernel
theorem d_Ma_tuple_79 : decode b_Ma_tuple 79 = .ok (.iconst 1, 1) := by decide +kernel
theorem d_Ma_tuple_80 : decode b_Ma_tuple 80 = .ok (.isub, 1) := by decide +kernel
theorem d_Ma_tuple_81 : decode b_Ma_tuple 81 = .ok (.iload_n 3, 1) := by decide +kernel
theorem d_Ma_tuple_82 : decode b_Ma_tuple 82 = .ok (.isub, 1) := by decide +kernel
theorem d_Ma_tuple_83 : decode b_Ma_tuple 83 = .ok (.invokevirtual 138, 3) := by decide +kernel
theorem d_Ma_tuple_86 : decode b_Ma_tuple 86 = .ok (.lastore, 1) := by decide +kernel
theorem d_Ma_tuple_87 : decode b_Ma_tuple 87 = .ok (.iinc 3 1, 3) := by decide +kernel
theorem d_Ma_tuple_90 : decode b_Ma_tuple 90 = .ok (.goto (-33), 3) := by decide +kernel
theorem d_Ma_tuple_93 : decode b_Ma_tuple 93 = .ok (.aload_n 0, 1) := by decide +kernel
theorem d_Ma_tuple_94 : decode b_Ma_tuple 94 = .ok (.getfield 23, 3) := by decide +kernel
theorem d_Ma_tuple_97 : decode b_Ma_tuple 97 = .ok (.dup, 1) := by decide +kernel
theorem d_Ma_tuple_98 : decode b_Ma_tuple 98 = .ok (.getfield 239, 3) := by decide +kernel
theorem d_Ma_tuple_101 : decode b_Ma_tuple 101 = .ok (.iload_n 1, 1) := by decide +kernel
theorem d_Ma_tuple_102 : decode b_Ma_tuple 102 = .ok (.iconst 1, 1) := by decide +kernel
theorem d_Ma_tuple_103 : decode b_Ma_tuple 103 = .ok (.iadd, 1) := by decide +kernel
theorem d_Ma_tuple_104 : decode b_Ma_tuple 104 = .ok (.iadd, 1) := by decide +kernel
theorem d_Ma_tuple_105 : decode b_Ma_tuple 105 = .ok (.putfield 239, 3) := by decide +kernel
theorem d_Ma_tuple_108 : decode b_Ma_tuple 108 = .ok (.aload_n 0, 1) := by decide +kernel
theorem d_Ma_tuple_109 : decode b_Ma_tuple 109 = .ok (.iload_n 1, 1) := by decide +kernel
theorem d_Ma_tuple_110 : decode b_Ma_tuple 110 = .ok (.iconst 5, 1) := by decide +kernel
theorem d_Ma_tuple_111 : decode b_Ma_tuple 111 = .ok (.iload_n 2, 1) := by decide +kernel
theorem d_Ma_tuple_112 : decode b_Ma_tuple 112 = .ok (.invokestatic 101, 3) := by decide +kernel
theorem d_Ma_tuple_115 : decode b_Ma_tuple 115 = .ok (.invokevirtual 145, 3) := by decide +kernel
theorem d_Ma_tuple_118 : decode b_Ma_tuple 118 = .ok (.aload_n 0, 1) := by decide +kernel
theorem d_Ma_tuple_119 : decode b_Ma_tuple 119 = .ok (.dup, 1) := by decide +kernel
theorem d_Ma_tuple_120 : decode b_Ma_tuple 120 = .ok (.getfield 40, 3) := by decide +kernel
theorem d_Ma_tuple_123 : decode b_Ma_tuple 123 = .ok (.iconst 2, 1) := by decide +kernel
theorem d_Ma_tuple_124 : decode b_Ma_tuple 124 = .ok (.iadd, 1) := by decide +kernel
theorem d_Ma_tuple_125 : decode b_Ma_tuple 125 = .ok (.putfield 40, 3) := by decide +kernel
theorem d_Ma_tuple_128 : decode b_Ma_tuple 128 = .ok (.return_, 1) := by decide +kernel
set_option maxRecDepth 100000 in
theorem hl_Ma_tuple : Cond.methodLink R_Ma 183 y_Ma_tuple ∈ wd_tbl := wd_of 1865 (by decide +kernel) rfl
set_option maxRecDepth 100000 in
theorem hi_Ma_tuple : Cond.instanceMethod y_Ma_tuple ∈ wd_tbl := wd_of 1867 (by decide +kernel) rfl
set_option maxRecDepth 100000 in
theorem hs_Ma_tuple : Cond.selects R_Ma y_Ma_tuple y_Ma_tuple ∈ wd_tbl := wd_of 94 (by decide +kernel) rfl
theorem hd_Ma_tuple : y_Ma_tuple.cls = R_Ma ∧ y_Ma_tuple.cls ≠ "java/lang/invoke/MethodHandle" ∧ y_Ma_tuple.cls ≠ "java/lang/invoke/VarHandle" ∧ (parseMethodDescriptor y_Ma_tuple.desc).map (fun d => d.parameters.length) = some 1 := by decide +kernel
def rm_Ma_tuple (mc ms : Nat) : Room := { frames := 4, cells := mc, slots := ms, locals := 127 }
theorem rm_Ma_tuple_Ma_sizes {mc ms : Nat} : (rm_Ma_sizes).frames + 1 ≤ (rm_Ma_tuple mc ms).frames ∧ 8 + (5 + 11) + (rm_Ma_sizes).locals ≤ (rm_Ma_tuple mc ms).locals := by
  show 2 + 1 ≤ 4 ∧ 8 + (5 + 11) + 54 ≤ 127
  decide
theorem rm_Ma_tuple_Ma_wrong {mc ms : Nat} : (rm_Ma_wrong).frames + 1 ≤ (rm_Ma_tuple mc ms).frames ∧ 8 + (2 + 11) + (rm_Ma_wrong).locals ≤ (rm_Ma_tuple mc ms).locals := by
  show 2 + 1 ≤ 4 ∧ 8 + (2 + 11) + 41 ≤ 127
  decide
theorem rm_Ma_tuple_Ma_room {mc ms : Nat} : (rm_Ma_room).frames + 1 ≤ (rm_Ma_tuple mc ms).frames ∧ 8 + (2 + 11) + (rm_Ma_room).locals ≤ (rm_Ma_tuple mc ms).locals := by
  show 3 + 1 ≤ 4 ∧ 8 + (2 + 11) + 97 ≤ 127
  decide
theorem rm_Ma_tuple_Te_make {mc ms : Nat} : (rm_Te_make).frames + 1 ≤ (rm_Ma_tuple mc ms).frames ∧ 8 + (2 + 11) + (rm_Te_make).locals ≤ (rm_Ma_tuple mc ms).locals := by
  show 0 + 1 ≤ 4 ∧ 8 + (2 + 11) + 0 ≤ 127
  decide
theorem rm_Ma_tuple_Fr_below {mc ms : Nat} : (rm_Fr_below).frames + 1 ≤ (rm_Ma_tuple mc ms).frames ∧ 8 + (3 + 11) + (rm_Fr_below).locals ≤ (rm_Ma_tuple mc ms).locals := by
  show 0 + 1 ≤ 4 ∧ 8 + (3 + 11) + 0 ≤ 127
  decide
theorem rm_Ma_tuple_Ma_answer {mc ms : Nat} {mc2 ms2 : Nat} : (rm_Ma_answer mc2 ms2).frames + 1 ≤ (rm_Ma_tuple mc ms).frames ∧ 8 + (4 + 11) + (rm_Ma_answer mc2 ms2).locals ≤ (rm_Ma_tuple mc ms).locals := by
  show 3 + 1 ≤ 4 ∧ 8 + (4 + 11) + 104 ≤ 127
  decide
def fb_Ma_tuple_57 (N : Nat) (G : (CS → Nat → Int32 → Int32 → Int32 → Option (CS × Unit))) (u : CS) (v0 : Nat) (v1 : Int32) (v2 : Int32) (v3 : Int32) : Option (CS × Unit) := br (decide (v1 ≤ v3)) (bo (gR u v0 5 3) (fun r1 => bo r1 (fun j2 => bo (gI u j2 7 4) (fun r3 => bo (pF u j2 7 4 (.inl (r3 + (v1 + 1)))) (fun w4 => bx (gz w4 (fm_Te_make N w4 5 v2)) (fun u5 r5 => gw u5 (ck (isO u5 v0 5) (ck (List.all [some v0] (okR u5.1.1)) (bx (gw u5 (fm_Ma_answer N u5 v0 v1 r5)) (fun u6 r6 => gw u6 (bo (gI u6 v0 5 5) (fun r7 => bo (pF u6 v0 5 5 (.inl (r7 + 2))) (fun w8 => some (w8, ())))))))))))))) (bo (gR u v0 5 3) (fun r9 => bo r9 (fun j10 => bo (gR u j10 7 2) (fun r11 => bo (gR u v0 5 4) (fun r12 => bo r12 (fun j14 => ck (isO u j14 4) (bx (gz u (fm_Fr_below N u j14 ((v1 - 1) - v3))) (fun u13 r13 => gw u13 (bo r11 (fun j15 => bo (sJ u13 j15 ((v2 + 1) + v3) r13) (fun w16 => G w16 (v0) (v1) (v2) ((v3 + 1)))))))))))))
set_option maxRecDepth 100000 in
set_option maxHeartbeats 4000000 in
theorem wb_Ma_tuple_57 {p : Program} {l : Launch} {e : Env} {s : State} {m : MethodId} {args : Array Value} {below : List Frame} {meth : Method} {c : Code} {s0 : State} {b0 : Nat} {D : va_G} {cB cI cJ cZ cS cP : ClassId} {A : Nat → Prop} {sk sv : Nat → Nat} {uN uS mc ms : Nat} {ad0 : Nat → Nat} (C0 : XCx p s s0 b0 m args meth c R_Ma b_Ma_tuple 4 none D cB cI cJ cZ cS cP A) (hE : ENV s0 b0 sk sv) (N : Nat) (G : (CS → Nat → Int32 → Int32 → Int32 → Option (CS × Unit))) (hG : (∀ (u : CS) (v0 : Nat) (v1 : Int32) (v2 : Int32) (v3 : Int32) (x : CS × Unit), G u v0 v1 v2 v3 = some x → (uN + mc = x.1.1.1 ∧ uS + ms = x.1.1.2) → ∀ (ad : Nat → Nat) (ce sl : Nat), AB uN uS ad0 u ad ce sl → ∀ (H : Heap) (locs : List Loc), va_P D cls (wC cB cI cJ cZ cS cP ad u) H → va_D A (wC cB cI cJ cZ cS cP ad u) → va_S A s.heap H locs → ∀ (ls : Array Slot), lv_has ls 4 [(0, .ref (ad v0)), (1, .int v1), (2, .int v2), (3, .int v3)] → W p l e (rm_Ma_tuple mc ms) s m args below meth c H locs ce sl (MQ below (xQ D cB cI cJ cZ cS cP A ad0 uN x.1 none) args s mc ms A) (F0 m 57 ls []))) : ∀ (u : CS) (v0 : Nat) (v1 : Int32) (v2 : Int32) (v3 : Int32) (x : CS × Unit), fb_Ma_tuple_57 N G u v0 v1 v2 v3 = some x → (uN + mc = x.1.1.1 ∧ uS + ms = x.1.1.2) → ∀ (ad : Nat → Nat) (ce sl : Nat), AB uN uS ad0 u ad ce sl → ∀ (H : Heap) (locs : List Loc), va_P D cls (wC cB cI cJ cZ cS cP ad u) H → va_D A (wC cB cI cJ cZ cS cP ad u) → va_S A s.heap H locs → ∀ (ls : Array Slot), lv_has ls 4 [(0, .ref (ad v0)), (1, .int v1), (2, .int v2), (3, .int v3)] → W p l e (rm_Ma_tuple mc ms) s m args below meth c H locs ce sl (MQ below (xQ D cB cI cJ cZ cS cP A ad0 uN x.1 none) args s mc ms A) (F0 m 57 ls []) := by
  intro u v0 v1 v2 v3 x hf hm ad ce sl hB H locs hP hD hS ls hl
  obtain ⟨hx, hb, hr, hml, ht, hown, hK, hA, hlocks, hA0, hO, hbs⟩ := id C0
  unfold fb_Ma_tuple_57 at hf
  refine lv_iload_n hx hb d_Ma_tuple_57 rfl (lv_at hl 3 rfl) ?_
  refine lv_iload_n hx hb d_Ma_tuple_58 rfl (lv_at hl 1 rfl) ?_
  refine lv_icmp_ge (tgt := 93) hx hb d_Ma_tuple_59 (by decide) (fun hc => ?_) (fun hc => ?_)
  · rw [br_p _ hc] at hf
    refine lv_aload_n hx hb d_Ma_tuple_93 rfl (lv_at hl 0 rfl) ?_
    obtain ⟨r1, g1, hf⟩ := bo_some hf
    refine xg_R (i := v0) (k := 3) hx hb ht hown ck_Ma hK hP (by decide) fk_Ma_23 g1 d_Ma_tuple_94 ?_
    refine lv_dup hx hb d_Ma_tuple_97 (cat_rf _) ?_
    obtain ⟨j2, ej2, hf⟩ := bo_some hf
    rw [ej2]
    obtain ⟨r3, g3, hf⟩ := bo_some hf
    refine xg_I (i := j2) (k := 4) hx hb ht hown ck_Pr hK hP (by decide) fk_Ma_239 g3 d_Ma_tuple_98 ?_
    refine lv_iload_n hx hb d_Ma_tuple_101 rfl (lv_at hl 1 rfl) ?_
    refine lv_iconst (v := 1) hx hb d_Ma_tuple_102 (by decide) ?_
    refine lv_iadd hx hb d_Ma_tuple_103 ?_
    refine lv_iadd hx hb d_Ma_tuple_104 ?_
    obtain ⟨w4, g4, hf⟩ := bo_some hf
    refine xp (i := j2) (k := 4) (v := (.inl (r3 + (v1 + 1)))) hx hb ht hown ck_Pr hK hP hD hS (by decide) fk_Ma_239 rfl g4 rfl rfl d_Ma_tuple_105 (fun H locs hP hD hS => ?_)
    have hB := hB.same (pF_c g4)
    refine lv_aload_n hx hb d_Ma_tuple_108 rfl (lv_at hl 0 rfl) ?_
    refine lv_iload_n hx hb d_Ma_tuple_109 rfl (lv_at hl 1 rfl) ?_
    refine lv_iconst (v := 5) hx hb d_Ma_tuple_110 (by decide) ?_
    refine lv_iload_n hx hb d_Ma_tuple_111 rfl (lv_at hl 2 rfl) ?_
    obtain ⟨u5, r5, hc5, hf⟩ := bx_some hf
    obtain ⟨hc5, hz5⟩ := gz_some hc5
    obtain ⟨hf, hw5⟩ := gw_some hf
    refine xS0 (As := [.int 5, .int v2]) (rest := [.int v1, .ref (ad v0)]) C0 hP hD hS (c_Te_make N hc5) k_Te_make (wd_of 1671 (by decide +kernel) rfl) ht_Te_make hini_Te rfl rfl hd_Te_make rfl rm_Ma_tuple_Te_make hl.1 (Nat.le_of_ble_eq_true rfl) d_Ma_tuple_112 rfl (hB.fit hm hz5 hw5) (fun H locs hP hD hS => ?_)
    have hB := hB.same2 hz5
    obtain ⟨hO9, hf⟩ := ck_some hf
    obtain ⟨hk6, hf⟩ := ck_some hf
    obtain ⟨u6, r6, hc6, hf⟩ := bx_some hf
    obtain ⟨hc6, hq6⟩ := gw_some hc6
    obtain ⟨hf, hw6⟩ := gw_some hf
    refine yV (i := v0) (As := [.int v1, .long r5]) (rest := []) C0 hP hD hS ck_Ma hO9 (c_Ma_answer N hE hc6 (gm hq6)) k_Ma_answer (wd_of 1744 (by decide +kernel) rfl) hi_Ma_answer hs_Ma_answer hini_Ma rfl rfl hd_Ma_answer rfl rm_Ma_tuple_Ma_answer hl.1 (Nat.le_of_ble_eq_true rfl) d_Ma_tuple_115 rfl (gm hq6) hB hm hw6 (fun ad6 H locs ce sl hg6 hB hP hD hS => ?_)
    have q6_0 : ad6 v0 = ad v0 := ko_O (k := 0) hk6 rfl hg6
    have hl : lv_has ls 4 [(0, .ref (ad6 v0)), (1, .int v1), (2, .int v2), (3, .int v3)] := by simp only [q6_0]; exact hl
    refine lv_aload_n hx hb d_Ma_tuple_118 rfl (lv_at hl 0 rfl) ?_
    refine lv_dup hx hb d_Ma_tuple_119 rfl ?_
    obtain ⟨r7, g7, hf⟩ := bo_some hf
    refine xg_I (i := v0) (k := 5) hx hb ht hown ck_Ma hK hP (by decide) fk_Ma_40 g7 d_Ma_tuple_120 ?_
    refine lv_iconst (v := 2) hx hb d_Ma_tuple_123 (by decide) ?_
    refine lv_iadd hx hb d_Ma_tuple_124 ?_
    obtain ⟨w8, g8, hf⟩ := bo_some hf
    refine xp (i := v0) (k := 5) (v := (.inl (r7 + 2))) hx hb ht hown ck_Ma hK hP hD hS (by decide) fk_Ma_40 rfl g8 rfl rfl d_Ma_tuple_125 (fun H locs hP hD hS => ?_)
    have hB := hB.same (pF_c g8)
    exact yr_v C0 hP hD hS hB hm hf d_Ma_tuple_128
  · rw [br_n _ hc] at hf
    refine lv_aload_n hx hb d_Ma_tuple_62 rfl (lv_at hl 0 rfl) ?_
    obtain ⟨r9, g9, hf⟩ := bo_some hf
    refine xg_R (i := v0) (k := 3) hx hb ht hown ck_Ma hK hP (by decide) fk_Ma_23 g9 d_Ma_tuple_63 ?_
    obtain ⟨j10, ej10, hf⟩ := bo_some hf
    rw [ej10]
    obtain ⟨r11, g11, hf⟩ := bo_some hf
    refine xg_R (i := j10) (k := 2) hx hb ht hown ck_Pr hK hP (by decide) fk_Ma_195 g11 d_Ma_tuple_66 ?_
    refine lv_iload_n hx hb d_Ma_tuple_69 rfl (lv_at hl 2 rfl) ?_
    refine lv_iconst (v := 1) hx hb d_Ma_tuple_70 (by decide) ?_
    refine lv_iadd hx hb d_Ma_tuple_71 ?_
    refine lv_iload_n hx hb d_Ma_tuple_72 rfl (lv_at hl 3 rfl) ?_
    refine lv_iadd hx hb d_Ma_tuple_73 ?_
    refine lv_aload_n hx hb d_Ma_tuple_74 rfl (lv_at hl 0 rfl) ?_
    obtain ⟨r12, g12, hf⟩ := bo_some hf
    refine xg_R (i := v0) (k := 4) hx hb ht hown ck_Ma hK hP (by decide) fk_Ma_33 g12 d_Ma_tuple_75 ?_
    refine lv_iload_n hx hb d_Ma_tuple_78 rfl (lv_at hl 1 rfl) ?_
    refine lv_iconst (v := 1) hx hb d_Ma_tuple_79 (by decide) ?_
    refine lv_isub hx hb d_Ma_tuple_80 ?_
    refine lv_iload_n hx hb d_Ma_tuple_81 rfl (lv_at hl 3 rfl) ?_
    refine lv_isub hx hb d_Ma_tuple_82 ?_
    obtain ⟨j14, ej14, hf⟩ := bo_some hf
    rw [ej14]
    obtain ⟨hO9, hf⟩ := ck_some hf
    obtain ⟨u13, r13, hc13, hf⟩ := bx_some hf
    obtain ⟨hc13, hz13⟩ := gz_some hc13
    obtain ⟨hf, hw13⟩ := gw_some hf
    refine xV0 (i := j14) (As := [.int ((v1 - 1) - v3)]) (rest := [.int ((v2 + 1) + v3), va_rf (Option.map ad r11)]) C0 hP hD hS ck_Fr hO9 (c_Fr_below N hc13) k_Fr_below (wd_of 1653 (by decide +kernel) rfl) hi_Fr_below hs_Fr_below hini_Fr rfl rfl hd_Fr_below rfl rm_Ma_tuple_Fr_below hl.1 (c8 (Nat.le_of_ble_eq_true rfl)) d_Ma_tuple_83 rfl (hB.fit hm hz13 hw13) (fun H locs hP hD hS => ?_)
    have hB := hB.same2 hz13
    obtain ⟨j15, ej15, hf⟩ := bo_some hf
    rw [ej15]
    obtain ⟨w16, g16, hf⟩ := bo_some hf
    refine xs_J (i := j15) hx hb hK hP hD hS g16 d_Ma_tuple_86 (fun H locs hP hD hS => ?_)
    have hB := hB.same (sJ_c g16)
    refine lv_iinc (v := (v3 + 1)) (lv' := [(3, .int (v3 + 1)), (0, .ref (ad v0)), (1, .int v1), (2, .int v2)]) hx hb d_Ma_tuple_87 hl (k := 3) rfl rfl (by decide) (by first | rfl | simp [List.filter, cat_rf]) (fun ls hl => ?_)
    refine lv_goto (tgt := 57) hx hb d_Ma_tuple_90 (by decide) ?_
    exact hG _ _ _ _ _ _ hf hm _ _ _ hB H locs hP hD hS ls (lv_sub hl [1, 2, 3, 0] rfl)
def fb_Ma_tuple_0 (N : Nat) (G : (CS → Nat → Int32 → Int32 → Int32 → Option (CS × Unit))) (u : CS) (v0 : Nat) (v1 : Int32) : Option (CS × Unit) := ck (isO u v0 5) (bx (gz u (fm_Ma_sizes N u v0 v1 (v1 + 1))) (fun u17 r17 => gw u17 (br (decide (r17 ≤ 500)) (ck (isO u17 v0 5) (bx (gz u17 (fm_Ma_room N u17 v0 (v1 + 1))) (fun u18 r18 => gw u18 (br (decide (r18 = 0)) (some (u18, ())) (bo (gR u18 v0 5 3) (fun r19 => bo r19 (fun j20 => bo (gI u18 j20 7 4) (fun r21 => bo (gR u18 v0 5 3) (fun r22 => bo r22 (fun j23 => bo (gR u18 j23 7 2) (fun r24 => bx (gz u18 (fm_Te_make N u18 8 v1)) (fun u25 r25 => gw u25 (bo r24 (fun j26 => bo (sJ u25 j26 r21 r25) (fun w27 => G w27 (v0) (v1) (r21) (0)))))))))))))))) (ck (isO u17 v0 5) (bx (gz u17 (fm_Ma_wrong N u17 v0 11)) (fun u28 r28 => gw u28 (some (u28, ()))))))))
set_option maxRecDepth 100000 in
set_option maxHeartbeats 4000000 in
theorem wb_Ma_tuple_0 {p : Program} {l : Launch} {e : Env} {s : State} {m : MethodId} {args : Array Value} {below : List Frame} {meth : Method} {c : Code} {s0 : State} {b0 : Nat} {D : va_G} {cB cI cJ cZ cS cP : ClassId} {A : Nat → Prop} {sk sv : Nat → Nat} {uN uS mc ms : Nat} {ad0 : Nat → Nat} (C0 : XCx p s s0 b0 m args meth c R_Ma b_Ma_tuple 4 none D cB cI cJ cZ cS cP A) (hE : ENV s0 b0 sk sv) (N : Nat) (G : (CS → Nat → Int32 → Int32 → Int32 → Option (CS × Unit))) (hG : (∀ (u : CS) (v0 : Nat) (v1 : Int32) (v2 : Int32) (v3 : Int32) (x : CS × Unit), G u v0 v1 v2 v3 = some x → (uN + mc = x.1.1.1 ∧ uS + ms = x.1.1.2) → ∀ (ad : Nat → Nat) (ce sl : Nat), AB uN uS ad0 u ad ce sl → ∀ (H : Heap) (locs : List Loc), va_P D cls (wC cB cI cJ cZ cS cP ad u) H → va_D A (wC cB cI cJ cZ cS cP ad u) → va_S A s.heap H locs → ∀ (ls : Array Slot), lv_has ls 4 [(0, .ref (ad v0)), (1, .int v1), (2, .int v2), (3, .int v3)] → W p l e (rm_Ma_tuple mc ms) s m args below meth c H locs ce sl (MQ below (xQ D cB cI cJ cZ cS cP A ad0 uN x.1 none) args s mc ms A) (F0 m 57 ls []))) : ∀ (u : CS) (v0 : Nat) (v1 : Int32) (x : CS × Unit), fb_Ma_tuple_0 N G u v0 v1 = some x → (uN + mc = x.1.1.1 ∧ uS + ms = x.1.1.2) → ∀ (ad : Nat → Nat) (ce sl : Nat), AB uN uS ad0 u ad ce sl → ∀ (H : Heap) (locs : List Loc), va_P D cls (wC cB cI cJ cZ cS cP ad u) H → va_D A (wC cB cI cJ cZ cS cP ad u) → va_S A s.heap H locs → ∀ (ls : Array Slot), lv_has ls 4 [(0, .ref (ad v0)), (1, .int v1)] → W p l e (rm_Ma_tuple mc ms) s m args below meth c H locs ce sl (MQ below (xQ D cB cI cJ cZ cS cP A ad0 uN x.1 none) args s mc ms A) (F0 m 0 ls []) := by
  intro u v0 v1 x hf hm ad ce sl hB H locs hP hD hS ls hl
  obtain ⟨hx, hb, hr, hml, ht, hown, hK, hA, hlocks, hA0, hO, hbs⟩ := id C0
  unfold fb_Ma_tuple_0 at hf
  refine lv_aload_n hx hb d_Ma_tuple_0 rfl (lv_at hl 0 rfl) ?_
  refine lv_iload_n hx hb d_Ma_tuple_1 rfl (lv_at hl 1 rfl) ?_
  refine lv_iload_n hx hb d_Ma_tuple_2 rfl (lv_at hl 1 rfl) ?_
  refine lv_iconst (v := 1) hx hb d_Ma_tuple_3 (by decide) ?_
  refine lv_iadd hx hb d_Ma_tuple_4 ?_
  obtain ⟨hO9, hf⟩ := ck_some hf
  obtain ⟨u17, r17, hc17, hf⟩ := bx_some hf
  obtain ⟨hc17, hz17⟩ := gz_some hc17
  obtain ⟨hf, hw17⟩ := gw_some hf
  refine xV0 (i := v0) (As := [.int v1, .int (v1 + 1)]) (rest := []) C0 hP hD hS ck_Ma hO9 (c_Ma_sizes N hc17) k_Ma_sizes (wd_of 1869 (by decide +kernel) rfl) hi_Ma_sizes hs_Ma_sizes hini_Ma rfl rfl hd_Ma_sizes rfl rm_Ma_tuple_Ma_sizes hl.1 (Nat.le_of_ble_eq_true rfl) d_Ma_tuple_5 rfl (hB.fit hm hz17 hw17) (fun H locs hP hD hS => ?_)
  have hB := hB.same2 hz17
  refine lv_sipush (v := 500) hx hb d_Ma_tuple_8 (by decide) ?_
  refine lv_icmp_le (tgt := 21) hx hb d_Ma_tuple_11 (by decide) (fun hc => ?_) (fun hc => ?_)
  · rw [br_p _ hc] at hf
    refine lv_aload_n hx hb d_Ma_tuple_21 rfl (lv_at hl 0 rfl) ?_
    refine lv_iload_n hx hb d_Ma_tuple_22 rfl (lv_at hl 1 rfl) ?_
    refine lv_iconst (v := 1) hx hb d_Ma_tuple_23 (by decide) ?_
    refine lv_iadd hx hb d_Ma_tuple_24 ?_
    obtain ⟨hO9, hf⟩ := ck_some hf
    obtain ⟨u18, r18, hc18, hf⟩ := bx_some hf
    obtain ⟨hc18, hz18⟩ := gz_some hc18
    obtain ⟨hf, hw18⟩ := gw_some hf
    refine xV0 (i := v0) (As := [.int (v1 + 1)]) (rest := []) C0 hP hD hS ck_Ma hO9 (c_Ma_room N hE hc18) k_Ma_room (wd_of 1853 (by decide +kernel) rfl) hi_Ma_room hs_Ma_room hini_Ma rfl rfl hd_Ma_room rfl rm_Ma_tuple_Ma_room hl.1 (Nat.le_of_ble_eq_true rfl) d_Ma_tuple_25 rfl (hB.fit hm hz18 hw18) (fun H locs hP hD hS => ?_)
    have hB := hB.same2 hz18
    refine lv_if_ne (tgt := 32) hx hb d_Ma_tuple_28 (by decide) (fun hc => ?_) (fun hc => ?_)
    · rw [br_n _ hc] at hf
      refine lv_aload_n hx hb d_Ma_tuple_32 rfl (lv_at hl 0 rfl) ?_
      obtain ⟨r19, g19, hf⟩ := bo_some hf
      refine xg_R (i := v0) (k := 3) hx hb ht hown ck_Ma hK hP (by decide) fk_Ma_23 g19 d_Ma_tuple_33 ?_
      obtain ⟨j20, ej20, hf⟩ := bo_some hf
      rw [ej20]
      obtain ⟨r21, g21, hf⟩ := bo_some hf
      refine xg_I (i := j20) (k := 4) hx hb ht hown ck_Pr hK hP (by decide) fk_Ma_239 g21 d_Ma_tuple_36 ?_
      refine lv_istore_n (lv' := [(2, .int r21), (0, .ref (ad v0)), (1, .int v1)]) hx hb d_Ma_tuple_39 rfl hl (by decide) (by first | rfl | simp [List.filter, cat_rf]) (fun ls hl => ?_)
      refine lv_aload_n hx hb d_Ma_tuple_40 rfl (lv_at hl 1 rfl) ?_
      obtain ⟨r22, g22, hf⟩ := bo_some hf
      refine xg_R (i := v0) (k := 3) hx hb ht hown ck_Ma hK hP (by decide) fk_Ma_23 g22 d_Ma_tuple_41 ?_
      obtain ⟨j23, ej23, hf⟩ := bo_some hf
      rw [ej23]
      obtain ⟨r24, g24, hf⟩ := bo_some hf
      refine xg_R (i := j23) (k := 2) hx hb ht hown ck_Pr hK hP (by decide) fk_Ma_195 g24 d_Ma_tuple_44 ?_
      refine lv_iload_n hx hb d_Ma_tuple_47 rfl (lv_at hl 0 rfl) ?_
      refine lv_bipush (v := 8) hx hb d_Ma_tuple_48 (by decide) ?_
      refine lv_iload_n hx hb d_Ma_tuple_50 rfl (lv_at hl 2 rfl) ?_
      obtain ⟨u25, r25, hc25, hf⟩ := bx_some hf
      obtain ⟨hc25, hz25⟩ := gz_some hc25
      obtain ⟨hf, hw25⟩ := gw_some hf
      refine xS0 (As := [.int 8, .int v1]) (rest := [.int r21, va_rf (Option.map ad r24)]) C0 hP hD hS (c_Te_make N hc25) k_Te_make (wd_of 1671 (by decide +kernel) rfl) ht_Te_make hini_Te rfl rfl hd_Te_make rfl rm_Ma_tuple_Te_make hl.1 (c8 (Nat.le_of_ble_eq_true rfl)) d_Ma_tuple_51 rfl (hB.fit hm hz25 hw25) (fun H locs hP hD hS => ?_)
      have hB := hB.same2 hz25
      obtain ⟨j26, ej26, hf⟩ := bo_some hf
      rw [ej26]
      obtain ⟨w27, g27, hf⟩ := bo_some hf
      refine xs_J (i := j26) hx hb hK hP hD hS g27 d_Ma_tuple_54 (fun H locs hP hD hS => ?_)
      have hB := hB.same (sJ_c g27)
      refine lv_iconst (v := 0) hx hb d_Ma_tuple_55 (by decide) ?_
      refine lv_istore_n (lv' := [(3, .int 0), (2, .int r21), (0, .ref (ad v0)), (1, .int v1)]) hx hb d_Ma_tuple_56 rfl hl (by decide) (by first | rfl | simp [List.filter, cat_rf]) (fun ls hl => ?_)
      exact hG _ _ _ _ _ _ hf hm _ _ _ hB H locs hP hD hS ls (lv_sub hl [2, 3, 1, 0] rfl)
    · rw [br_p _ hc] at hf
      exact yr_v C0 hP hD hS hB hm hf d_Ma_tuple_31
  · rw [br_n _ hc] at hf
    refine lv_aload_n hx hb d_Ma_tuple_14 rfl (lv_at hl 0 rfl) ?_
    refine lv_bipush (v := 11) hx hb d_Ma_tuple_15 (by decide) ?_
    obtain ⟨hO9, hf⟩ := ck_some hf
    obtain ⟨u28, r28, hc28, hf⟩ := bx_some hf
    obtain ⟨hc28, hz28⟩ := gz_some hc28
    obtain ⟨hf, hw28⟩ := gw_some hf
    refine xV0 (i := v0) (As := [.int 11]) (rest := []) C0 hP hD hS ck_Ma hO9 (c_Ma_wrong N hc28) k_Ma_wrong (wd_of 1664 (by decide +kernel) rfl) hi_Ma_wrong hs_Ma_wrong hini_Ma rfl rfl hd_Ma_wrong rfl rm_Ma_tuple_Ma_wrong hl.1 (Nat.le_of_ble_eq_true rfl) d_Ma_tuple_17 rfl (hB.fit hm hz28 hw28) (fun H locs hP hD hS => ?_)
    have hB := hB.same2 hz28
    exact yr_v C0 hP hD hS hB hm hf d_Ma_tuple_20
def gg_Ma_tuple (N : Nat) : Nat → ((CS → Nat → Int32 → Int32 → Int32 → Option (CS × Unit)))
  | 0 => fun _ _ _ _ _ => none
  | n + 1 => fb_Ma_tuple_57 N (gg_Ma_tuple N n)
theorem wg_Ma_tuple {p : Program} {l : Launch} {e : Env} {s : State} {m : MethodId} {args : Array Value} {below : List Frame} {meth : Method} {c : Code} {s0 : State} {b0 : Nat} {D : va_G} {cB cI cJ cZ cS cP : ClassId} {A : Nat → Prop} {sk sv : Nat → Nat} {uN uS mc ms : Nat} {ad0 : Nat → Nat} (C0 : XCx p s s0 b0 m args meth c R_Ma b_Ma_tuple 4 none D cB cI cJ cZ cS cP A) (hE : ENV s0 b0 sk sv) (N : Nat) : ∀ n : Nat, (∀ (u : CS) (v0 : Nat) (v1 : Int32) (v2 : Int32) (v3 : Int32) (x : CS × Unit), gg_Ma_tuple N n u v0 v1 v2 v3 = some x → (uN + mc = x.1.1.1 ∧ uS + ms = x.1.1.2) → ∀ (ad : Nat → Nat) (ce sl : Nat), AB uN uS ad0 u ad ce sl → ∀ (H : Heap) (locs : List Loc), va_P D cls (wC cB cI cJ cZ cS cP ad u) H → va_D A (wC cB cI cJ cZ cS cP ad u) → va_S A s.heap H locs → ∀ (ls : Array Slot), lv_has ls 4 [(0, .ref (ad v0)), (1, .int v1), (2, .int v2), (3, .int v3)] → W p l e (rm_Ma_tuple mc ms) s m args below meth c H locs ce sl (MQ below (xQ D cB cI cJ cZ cS cP A ad0 uN x.1 none) args s mc ms A) (F0 m 57 ls []))
  | 0 => (fun u v0 v1 v2 v3 x hf => by cases hf)
  | n + 1 => wb_Ma_tuple_57 C0 hE N (gg_Ma_tuple N n) (wg_Ma_tuple C0 hE N n)
def fm_Ma_tuple (N : Nat) (u : CS) (v0 : Nat) (v1 : Int32) : Option (CS × Unit) := fb_Ma_tuple_0 N (gg_Ma_tuple N N) u v0 v1
set_option maxRecDepth 100000 in
set_option maxHeartbeats 4000000 in
theorem c_Ma_tuple (N : Nat) {l : Launch} {s0 : State} {b0 : Nat} {D : va_G} {cB cI cJ cZ cS cP : ClassId} {sk sv : Nat → Nat} {ad : Nat → Nat} {u : CS} {sz mc ms : Nat} {v0 : Nat} {v1 : Int32} {x : CS × Unit} (hE : ENV s0 b0 sk sv) (hf : fm_Ma_tuple N u v0 v1 = some x) (hm : u.1.1 + mc = x.1.1.1 ∧ u.1.2 + ms = x.1.1.2) : Met l y_Ma_tuple (wd_ws y_Ma_tuple b_Ma_tuple 4 none) (rm_Ma_tuple mc ms) (xPc s0 b0 D cB cI cJ cZ cS cP ad u sz [.ref (ad v0), .int v1]) (xQ D cB cI cJ cZ cS cP (xA cB cI cJ cZ cS cP ad u sz) ad u.1.1 x.1 none) mc ms (xA cB cI cJ cZ cS cP ad u sz) :=
  xMet (by decide) rfl (Nat.le_of_ble_eq_true rfl) (fun p e s m below meth c ls hsz hnm C0 hP hD hS hl =>
    wb_Ma_tuple_0 C0 hE N (gg_Ma_tuple N N) (wg_Ma_tuple C0 hE N N) u _ _ x hf hm ad 0 0 ⟨rfl, rfl, fun _ _ => rfl⟩ s.heap [] hP hD hS ls (lv_sub hl [0, 1] rfl))
