abbrev b_H_go : ByteArray := prog_1_method_10_code
def y_H_go : MethodName := ⟨R_H, "go", "(II)I"⟩
def w_H_go : List Cond := wd_ws y_H_go b_H_go 4 (some .int)
set_option maxRecDepth 100000 in
theorem k_H_go : Cond.code y_H_go b_H_go 4 (some .int) ∈ wd_tbl := wd_of 1631 rfl rfl
theorem d_H_go_0 : decode b_H_go 0 = .ok (.iload_n 2, 1) := by decide +kernel
theorem d_H_go_1 : decode b_H_go 1 = .ok (.ifCond .lt 10, 3) := by decide +kernel
theorem d_H_go_4 : decode b_H_go 4 = .ok (.iload_n 2, 1) := by decide +kernel
theorem d_H_go_5 : decode b_H_go 5 = .ok (.sipush 500, 3) := by decide +kernel
theorem d_H_go_8 : decode b_H_go 8 = .ok (.if_icmp .le 13, 3) := by decide +kernel
theorem d_H_go_11 : decode b_H_go 11 = .ok (.new 164, 3) := by decide +kernel
theorem d_H_go_14 : decode b_H_go 14 = .ok (.dup, 1) := by decide +kernel
theorem d_H_go_15 : decode b_H_go 15 = .ok (.ldc 191, 2) := by decide +kernel
theorem d_H_go_17 : decode b_H_go 17 = .ok (.invokespecial 168, 3) := by decide +kernel
theorem d_H_go_20 : decode b_H_go 20 = .ok (.athrow, 1) := by decide +kernel
theorem d_H_go_21 : decode b_H_go 21 = .ok (.aload_n 0, 1) := by decide +kernel
theorem d_H_go_22 : decode b_H_go 22 = .ok (.getfield 69, 3) := by decide +kernel
theorem d_H_go_25 : decode b_H_go 25 = .ok (.iload_n 1, 1) := by decide +kernel
theorem d_H_go_26 : decode b_H_go 26 = .ok (.invokevirtual 193, 3) := by decide +kernel
theorem d_H_go_29 : decode b_H_go 29 = .ok (.astore_n 3, 1) := by decide +kernel
theorem d_H_go_30 : decode b_H_go 30 = .ok (.aload_n 3, 1) := by decide +kernel
theorem d_H_go_31 : decode b_H_go 31 = .ok (.ifnonnull 13, 3) := by decide +kernel
theorem d_H_go_34 : decode b_H_go 34 = .ok (.new 159, 3) := by decide +kernel
theorem d_H_go_37 : decode b_H_go 37 = .ok (.dup, 1) := by decide +kernel
theorem d_H_go_38 : decode b_H_go 38 = .ok (.ldc 197, 2) := by decide +kernel
theorem d_H_go_40 : decode b_H_go 40 = .ok (.invokespecial 163, 3) := by decide +kernel
theorem d_H_go_43 : decode b_H_go 43 = .ok (.athrow, 1) := by decide +kernel
theorem d_H_go_44 : decode b_H_go 44 = .ok (.aload_n 3, 1) := by decide +kernel
theorem d_H_go_45 : decode b_H_go 45 = .ok (.getfield 199, 3) := by decide +kernel
theorem d_H_go_48 : decode b_H_go 48 = .ok (.iconst 3, 1) := by decide +kernel
theorem d_H_go_49 : decode b_H_go 49 = .ok (.if_icmp .eq 22, 3) := by decide +kernel
theorem d_H_go_52 : decode b_H_go 52 = .ok (.aload_n 3, 1) := by decide +kernel
theorem d_H_go_53 : decode b_H_go 53 = .ok (.getfield 199, 3) := by decide +kernel
theorem d_H_go_56 : decode b_H_go 56 = .ok (.iconst 1, 1) := by decide +kernel
theorem d_H_go_57 : decode b_H_go 57 = .ok (.if_icmp .ne 24, 3) := by decide +kernel
theorem d_H_go_60 : decode b_H_go 60 = .ok (.aload_n 0, 1) := by decide +kernel
theorem d_H_go_61 : decode b_H_go 61 = .ok (.getfield 69, 3) := by decide +kernel
theorem d_H_go_64 : decode b_H_go 64 = .ok (.aload_n 3, 1) := by decide +kernel
theorem d_H_go_65 : decode b_H_go 65 = .ok (.invokevirtual 202, 3) := by decide +kernel
theorem d_H_go_68 : decode b_H_go 68 = .ok (.ifCond .ne 13, 3) := by decide +kernel
theorem d_H_go_71 : decode b_H_go 71 = .ok (.new 152, 3) := by decide +kernel
theorem d_H_go_74 : decode b_H_go 74 = .ok (.dup, 1) := by decide +kernel
theorem d_H_go_75 : decode b_H_go 75 = .ok (.ldc 206, 2) := by decide +kernel
theorem d_H_go_77 : decode b_H_go 77 = .ok (.invokespecial 156, 3) := by decide +kernel
theorem d_H_go_80 : decode b_H_go 80 = .ok (.athrow, 1) := by decide +kernel
theorem d_H_go_81 : decode b_H_go 81 = .ok (.aload_n 0, 1) := by decide +kernel
theorem d_H_go_82 : decode b_H_go 82 = .ok (.getfield 78, 3) := by decide +kernel
theorem d_H_go_85 : decode b_H_go 85 = .ok (.aload_n 3, 1) := by decide +kernel
theorem d_H_go_86 : decode b_H_go 86 = .ok (.iload_n 2, 1) := by decide +kernel
theorem d_H_go_87 : decode b_H_go 87 = .ok (.invokevirtual 208, 3) := by decide +kernel
theorem d_H_go_90 : decode b_H_go 90 = .ok (.ireturn, 1) := by decide +kernel
set_option maxRecDepth 100000 in
theorem hi_H_go : Cond.instanceMethod y_H_go ∈ wd_tbl := wd_of 1629 (by decide +kernel) rfl
set_option maxRecDepth 100000 in
theorem hs_H_go : Cond.selects R_H y_H_go y_H_go ∈ wd_tbl := wd_of 1630 (by decide +kernel) rfl
theorem hd_H_go : y_H_go.cls = R_H ∧ y_H_go.cls ≠ "java/lang/invoke/MethodHandle" ∧ y_H_go.cls ≠ "java/lang/invoke/VarHandle" ∧ (parseMethodDescriptor y_H_go.desc).map (fun d => d.parameters.length) = some 2 := by decide +kernel
def rm_H_go (mc ms : Nat) : Room := { frames := 8, cells := mc, slots := ms, locals := 227 }
theorem rm_H_go_Wl_find {mc ms : Nat} : (rm_Wl_find).frames + 1 ≤ (rm_H_go mc ms).frames ∧ 8 + (2 + 11) + (rm_Wl_find).locals ≤ (rm_H_go mc ms).locals := by
  show 0 + 1 ≤ 8 ∧ 8 + (2 + 11) + 0 ≤ 227
  decide
theorem rm_H_go_Wl_isReady {mc ms : Nat} : (rm_Wl_isReady).frames + 1 ≤ (rm_H_go mc ms).frames ∧ 8 + (2 + 11) + (rm_Wl_isReady).locals ≤ (rm_H_go mc ms).locals := by
  show 0 + 1 ≤ 8 ∧ 8 + (2 + 11) + 0 ≤ 227
  decide
theorem rm_H_go_Ma_goOn {mc ms : Nat} {mc2 ms2 : Nat} : (rm_Ma_goOn mc2 ms2).frames + 1 ≤ (rm_H_go mc ms).frames ∧ 8 + (5 + 11) + (rm_Ma_goOn mc2 ms2).locals ≤ (rm_H_go mc ms).locals := by
  show 7 + 1 ≤ 8 ∧ 8 + (5 + 11) + 203 ≤ 227
  decide
def fb_H_go_81 (N : Nat) (G : Unit) (u : CS) (v0 : Nat) (v2 : Int32) (v3 : Option Nat) : Option (CS × (Int32 ⊕ Nat)) := bo (gR u v0 1 7) (fun r1 => bo r1 (fun j3 => ck (isO u j3 5) (ck (List.all [some v0, v3] (okR u.1.1)) (bx (gw u (fm_Ma_goOn N u j3 v3 v2)) (fun u2 r2 => gw u2 (some (u2, .inl r2)))))))
set_option maxRecDepth 100000 in
set_option maxHeartbeats 4000000 in
theorem wb_H_go_81 {p : Program} {l : Launch} {e : Env} {s : State} {m : MethodId} {args : Array Value} {below : List Frame} {meth : Method} {c : Code} {s0 : State} {b0 : Nat} {D : va_G} {cB cI cJ cZ cS cP : ClassId} {A : Nat → Prop} {sk sv : Nat → Nat} {uN uS mc ms : Nat} {ad0 : Nat → Nat} (C0 : XCx p s s0 b0 m args meth c R_H b_H_go 4 (some .int) D cB cI cJ cZ cS cP A) (hE : ENV s0 b0 sk sv) (hno : c.exceptionTable.isEmpty = true) (hL : l.stackTraces = false) (N : Nat) (G : Unit) (hG : True) : ∀ (u : CS) (v0 : Nat) (v2 : Int32) (v3 : Option Nat) (x : CS × (Int32 ⊕ Nat)), fb_H_go_81 N G u v0 v2 v3 = some x → (uN + mc = x.1.1.1 + tc x.2 ∧ uS + ms = x.1.1.2 + tsl x.2) → ∀ (ad : Nat → Nat) (ce sl : Nat), AB uN uS ad0 u ad ce sl → ∀ (H : Heap) (locs : List Loc), va_P D cls (wC cB cI cJ cZ cS cP ad u) H → va_D A (wC cB cI cJ cZ cS cP ad u) → va_S A s.heap H locs → ∀ (ls : Array Slot), lv_has ls 4 [(0, .ref (ad v0)), (2, .int v2), (3, va_rf (Option.map ad v3))] → W p l e (rm_H_go mc ms) s m args below meth c H locs ce sl (MQX below (xQy D cB cI cJ cZ cS cP A ad0 uN (fun v => some (.inl v)) x) args s mc ms A) (F0 m 81 ls []) := by
  intro u v0 v2 v3 x hf hm ad ce sl hB H locs hP hD hS ls hl
  obtain ⟨hx, hb, hr, hml, ht, hown, hK, hA, hlocks, hA0, hO, hbs⟩ := id C0
  unfold fb_H_go_81 at hf
  refine lv_aload_n hx hb d_H_go_81 rfl (lv_at hl 0 rfl) ?_
  obtain ⟨r1, g1, hf⟩ := bo_some hf
  refine xg_R (i := v0) (k := 7) hx hb ht hown ck_H hK hP (by decide) fk_H_78 g1 d_H_go_82 ?_
  refine x_aload_n hx hb d_H_go_85 rfl (lv_at hl 2 rfl) ?_
  refine lv_iload_n hx hb d_H_go_86 rfl (lv_at hl 1 rfl) ?_
  obtain ⟨j3, ej3, hf⟩ := bo_some hf
  rw [ej3]
  obtain ⟨hO9, hf⟩ := ck_some hf
  obtain ⟨hk2, hf⟩ := ck_some hf
  obtain ⟨u2, r2, hc2, hf⟩ := bx_some hf
  obtain ⟨hc2, hq2⟩ := gw_some hc2
  obtain ⟨hf, hw2⟩ := gw_some hf
  have hw2 := gt9 (e := tc x.2) (f := tsl x.2) hw2
  refine yV (i := j3) (As := [va_rf (Option.map ad v3), .int v2]) (rest := []) C0 hP hD hS ck_Ma hO9 (c_Ma_goOn N hE hc2 (gm hq2)) k_Ma_goOn (wd_of 1635 (by decide +kernel) rfl) hi_Ma_goOn hs_Ma_goOn hini_Ma rfl rfl hd_Ma_goOn rfl rm_H_go_Ma_goOn hl.1 (Nat.le_of_ble_eq_true rfl) d_H_go_87 rfl (gm hq2) hB hm hw2 (fun ad2 H locs ce sl hg2 hB hP hD hS => ?_)
  have q2_0 : ad2 v0 = ad v0 := ko_O (k := 0) hk2 rfl hg2
  have q2_1 : Option.map ad2 v3 = Option.map ad v3 := ko_N (k := 1) hk2 rfl hg2
  have hl : lv_has ls 4 [(0, .ref (ad2 v0)), (2, .int v2), (3, va_rf (Option.map ad2 v3))] := by simp only [q2_0, q2_1]; exact hl
  exact yx_i C0 hP hD hS hB hm hf d_H_go_90
def fb_H_go_71 (N : Nat) (G : Unit) (u : CS) : Option (CS × (Int32 ⊕ Nat)) := some (u, .inr 0)
set_option maxRecDepth 100000 in
set_option maxHeartbeats 4000000 in
theorem wb_H_go_71 {p : Program} {l : Launch} {e : Env} {s : State} {m : MethodId} {args : Array Value} {below : List Frame} {meth : Method} {c : Code} {s0 : State} {b0 : Nat} {D : va_G} {cB cI cJ cZ cS cP : ClassId} {A : Nat → Prop} {sk sv : Nat → Nat} {uN uS mc ms : Nat} {ad0 : Nat → Nat} (C0 : XCx p s s0 b0 m args meth c R_H b_H_go 4 (some .int) D cB cI cJ cZ cS cP A) (hE : ENV s0 b0 sk sv) (hno : c.exceptionTable.isEmpty = true) (hL : l.stackTraces = false) (N : Nat) (G : Unit) (hG : True) : ∀ (u : CS) (x : CS × (Int32 ⊕ Nat)), fb_H_go_71 N G u = some x → (uN + mc = x.1.1.1 + tc x.2 ∧ uS + ms = x.1.1.2 + tsl x.2) → ∀ (ad : Nat → Nat) (ce sl : Nat), AB uN uS ad0 u ad ce sl → ∀ (H : Heap) (locs : List Loc), va_P D cls (wC cB cI cJ cZ cS cP ad u) H → va_D A (wC cB cI cJ cZ cS cP ad u) → va_S A s.heap H locs → ∀ (ls : Array Slot), lv_has ls 4 [] → W p l e (rm_H_go mc ms) s m args below meth c H locs ce sl (MQX below (xQy D cB cI cJ cZ cS cP A ad0 uN (fun v => some (.inl v)) x) args s mc ms A) (F0 m 71 ls []) := by
  intro u x hf hm ad ce sl hB H locs hP hD hS ls hl
  obtain ⟨hx, hb, hr, hml, ht, hown, hK, hA, hlocks, hA0, hO, hbs⟩ := id C0
  unfold fb_H_go_71 at hf
  cases hf
  obtain ⟨⟨a0, hT0⟩, hb0, hV, hRR, hZZ⟩ := id hE
  exact yx_throw (k := 0) (names := exUp) C0 hP hD hS hB hm hL hT0 hb0 rx7_0 rx7_1 rx7_2 rx7_5 oa_H_156_0 (lw_of 1407 (by decide +kernel)) (lw_of 1408 (by decide +kernel)) (lw_of 287 (by decide +kernel)) (by decide) (by decide) (hRR 12 _ rfl) (out_none hno _) (Nat.le_of_ble_eq_true rfl) (Nat.le_of_ble_eq_true rfl) hl.1 d_H_go_71 d_H_go_74 d_H_go_75 d_H_go_77 d_H_go_80
def fb_H_go_11 (N : Nat) (G : Unit) (u : CS) : Option (CS × (Int32 ⊕ Nat)) := some (u, .inr 2)
set_option maxRecDepth 100000 in
set_option maxHeartbeats 4000000 in
theorem wb_H_go_11 {p : Program} {l : Launch} {e : Env} {s : State} {m : MethodId} {args : Array Value} {below : List Frame} {meth : Method} {c : Code} {s0 : State} {b0 : Nat} {D : va_G} {cB cI cJ cZ cS cP : ClassId} {A : Nat → Prop} {sk sv : Nat → Nat} {uN uS mc ms : Nat} {ad0 : Nat → Nat} (C0 : XCx p s s0 b0 m args meth c R_H b_H_go 4 (some .int) D cB cI cJ cZ cS cP A) (hE : ENV s0 b0 sk sv) (hno : c.exceptionTable.isEmpty = true) (hL : l.stackTraces = false) (N : Nat) (G : Unit) (hG : True) : ∀ (u : CS) (x : CS × (Int32 ⊕ Nat)), fb_H_go_11 N G u = some x → (uN + mc = x.1.1.1 + tc x.2 ∧ uS + ms = x.1.1.2 + tsl x.2) → ∀ (ad : Nat → Nat) (ce sl : Nat), AB uN uS ad0 u ad ce sl → ∀ (H : Heap) (locs : List Loc), va_P D cls (wC cB cI cJ cZ cS cP ad u) H → va_D A (wC cB cI cJ cZ cS cP ad u) → va_S A s.heap H locs → ∀ (ls : Array Slot), lv_has ls 4 [] → W p l e (rm_H_go mc ms) s m args below meth c H locs ce sl (MQX below (xQy D cB cI cJ cZ cS cP A ad0 uN (fun v => some (.inl v)) x) args s mc ms A) (F0 m 11 ls []) := by
  intro u x hf hm ad ce sl hB H locs hP hD hS ls hl
  obtain ⟨hx, hb, hr, hml, ht, hown, hK, hA, hlocks, hA0, hO, hbs⟩ := id C0
  unfold fb_H_go_11 at hf
  cases hf
  obtain ⟨⟨a0, hT0⟩, hb0, hV, hRR, hZZ⟩ := id hE
  exact yx_throw (k := 2) (names := exUp) C0 hP hD hS hB hm hL hT0 hb0 rx7_0 rx7_1 rx7_2 rx7_5 oa_H_168_2 (lw_of 1439 (by decide +kernel)) (lw_of 1440 (by decide +kernel)) (lw_of 289 (by decide +kernel)) (by decide) (by decide) (hRR 10 _ rfl) (out_none hno _) (Nat.le_of_ble_eq_true rfl) (Nat.le_of_ble_eq_true rfl) hl.1 d_H_go_11 d_H_go_14 d_H_go_15 d_H_go_17 d_H_go_20
def fb_H_go_0 (N : Nat) (G : Unit) (u : CS) (v0 : Nat) (v1 : Int32) (v2 : Int32) : Option (CS × (Int32 ⊕ Nat)) := br (decide (v2 < 0)) (fb_H_go_11 N G u) (br (decide (v2 ≤ 500)) (bo (gR u v0 1 6) (fun r4 => bo r4 (fun j6 => ck (isO u j6 12) (bx (gz u (fm_Wl_find N u j6 v1)) (fun u5 r5 => gw u5 (br (decide (r5 = none)) (some (u5, .inr 1)) (bo r5 (fun j7 => bo (gI u5 j7 7 9) (fun r8 => br (decide (r8 = 3)) (fb_H_go_71 N G u5) (bo r5 (fun j9 => bo (gI u5 j9 7 9) (fun r10 => br (decide (r10 = 1)) (bo (gR u5 v0 1 6) (fun r11 => bo r11 (fun j13 => ck (isO u5 j13 12) (bx (gz u5 (fm_Wl_isReady N u5 j13 r5)) (fun u12 r12 => gw u12 (br (decide (r12 = 0)) (fb_H_go_71 N G u12) (fb_H_go_81 N G u12 (v0) (v2) (r5)))))))) (fb_H_go_81 N G u5 (v0) (v2) (r5)))))))))))))) (fb_H_go_11 N G u))
set_option maxRecDepth 100000 in
set_option maxHeartbeats 4000000 in
theorem wb_H_go_0 {p : Program} {l : Launch} {e : Env} {s : State} {m : MethodId} {args : Array Value} {below : List Frame} {meth : Method} {c : Code} {s0 : State} {b0 : Nat} {D : va_G} {cB cI cJ cZ cS cP : ClassId} {A : Nat → Prop} {sk sv : Nat → Nat} {uN uS mc ms : Nat} {ad0 : Nat → Nat} (C0 : XCx p s s0 b0 m args meth c R_H b_H_go 4 (some .int) D cB cI cJ cZ cS cP A) (hE : ENV s0 b0 sk sv) (hno : c.exceptionTable.isEmpty = true) (hL : l.stackTraces = false) (N : Nat) (G : Unit) (hG : True) : ∀ (u : CS) (v0 : Nat) (v1 : Int32) (v2 : Int32) (x : CS × (Int32 ⊕ Nat)), fb_H_go_0 N G u v0 v1 v2 = some x → (uN + mc = x.1.1.1 + tc x.2 ∧ uS + ms = x.1.1.2 + tsl x.2) → ∀ (ad : Nat → Nat) (ce sl : Nat), AB uN uS ad0 u ad ce sl → ∀ (H : Heap) (locs : List Loc), va_P D cls (wC cB cI cJ cZ cS cP ad u) H → va_D A (wC cB cI cJ cZ cS cP ad u) → va_S A s.heap H locs → ∀ (ls : Array Slot), lv_has ls 4 [(0, .ref (ad v0)), (1, .int v1), (2, .int v2)] → W p l e (rm_H_go mc ms) s m args below meth c H locs ce sl (MQX below (xQy D cB cI cJ cZ cS cP A ad0 uN (fun v => some (.inl v)) x) args s mc ms A) (F0 m 0 ls []) := by
  intro u v0 v1 v2 x hf hm ad ce sl hB H locs hP hD hS ls hl
  obtain ⟨hx, hb, hr, hml, ht, hown, hK, hA, hlocks, hA0, hO, hbs⟩ := id C0
  unfold fb_H_go_0 at hf
  refine lv_iload_n hx hb d_H_go_0 rfl (lv_at hl 2 rfl) ?_
  refine lv_if_lt (tgt := 11) hx hb d_H_go_1 (by decide) (fun hc => ?_) (fun hc => ?_)
  · rw [br_p _ hc] at hf
    exact wb_H_go_11 C0 hE hno hL N G hG _ _ hf hm _ _ _ hB H locs hP hD hS ls (lv_sub hl [] rfl)
  · rw [br_n _ hc] at hf
    refine lv_iload_n hx hb d_H_go_4 rfl (lv_at hl 2 rfl) ?_
    refine lv_sipush (v := 500) hx hb d_H_go_5 (by decide) ?_
    refine lv_icmp_le (tgt := 21) hx hb d_H_go_8 (by decide) (fun hc => ?_) (fun hc => ?_)
    · rw [br_p _ hc] at hf
      refine lv_aload_n hx hb d_H_go_21 rfl (lv_at hl 0 rfl) ?_
      obtain ⟨r4, g4, hf⟩ := bo_some hf
      refine xg_R (i := v0) (k := 6) hx hb ht hown ck_H hK hP (by decide) fk_H_69 g4 d_H_go_22 ?_
      refine lv_iload_n hx hb d_H_go_25 rfl (lv_at hl 1 rfl) ?_
      obtain ⟨j6, ej6, hf⟩ := bo_some hf
      rw [ej6]
      obtain ⟨hO9, hf⟩ := ck_some hf
      obtain ⟨u5, r5, hc5, hf⟩ := bx_some hf
      obtain ⟨hc5, hz5⟩ := gz_some hc5
      obtain ⟨hf, hw5⟩ := gw_some hf
      have hw5 := gt9 (e := tc x.2) (f := tsl x.2) hw5
      refine xV0 (i := j6) (As := [.int v1]) (rest := []) C0 hP hD hS ck_Wl hO9 (c_Wl_find N hE hc5) k_Wl_find (wd_of 1296 (by decide +kernel) rfl) hi_Wl_find hs_Wl_find hini_Wl rfl rfl hd_Wl_find rfl rm_H_go_Wl_find hl.1 (Nat.le_of_ble_eq_true rfl) d_H_go_26 rfl (hB.fit hm hz5 hw5) (fun H locs hP hD hS => ?_)
      have hB := hB.same2 hz5
      refine x_astore_n (lv' := [(3, va_rf (Option.map ad r5)), (0, .ref (ad v0)), (1, .int v1), (2, .int v2)]) hx hb d_H_go_29 rfl hl (by decide) (by first | rfl | simp [List.filter, cat_rf]) (fun ls hl => ?_)
      refine x_aload_n hx hb d_H_go_30 rfl (lv_at hl 0 rfl) ?_
      refine x_ifnonnull (r := r5) (tgt := 44) hx hb d_H_go_31 (by decide) (fun hc => ?_) (fun hc => ?_)
      · rw [br_n _ hc] at hf
        refine x_aload_n hx hb d_H_go_44 rfl (lv_at hl 0 rfl) ?_
        obtain ⟨j7, ej7, hf⟩ := bo_some hf
        rw [ej7]
        obtain ⟨r8, g8, hf⟩ := bo_some hf
        refine xg_I (i := j7) (k := 9) hx hb ht hown ck_Pr hK hP (by decide) fk_H_199 g8 d_H_go_45 ?_
        refine lv_iconst (v := 3) hx hb d_H_go_48 (by decide) ?_
        refine lv_icmp_eq (tgt := 71) hx hb d_H_go_49 (by decide) (fun hc => ?_) (fun hc => ?_)
        · rw [br_p _ hc] at hf
          exact wb_H_go_71 C0 hE hno hL N G hG _ _ hf hm _ _ _ hB H locs hP hD hS ls (lv_sub hl [] rfl)
        · rw [br_n _ hc] at hf
          refine x_aload_n hx hb d_H_go_52 rfl (lv_at hl 0 rfl) ?_
          obtain ⟨j9, ej9, hf⟩ := bo_some hf
          rw [ej9]
          obtain ⟨r10, g10, hf⟩ := bo_some hf
          refine xg_I (i := j9) (k := 9) hx hb ht hown ck_Pr hK hP (by decide) fk_H_199 g10 d_H_go_53 ?_
          refine lv_iconst (v := 1) hx hb d_H_go_56 (by decide) ?_
          refine lv_icmp_ne (tgt := 81) hx hb d_H_go_57 (by decide) (fun hc => ?_) (fun hc => ?_)
          · rw [br_n _ hc] at hf
            exact wb_H_go_81 C0 hE hno hL N G hG _ _ _ _ _ hf hm _ _ _ hB H locs hP hD hS ls (lv_sub hl [1, 3, 0] rfl)
          · rw [br_p _ hc] at hf
            refine lv_aload_n hx hb d_H_go_60 rfl (lv_at hl 1 rfl) ?_
            obtain ⟨r11, g11, hf⟩ := bo_some hf
            refine xg_R (i := v0) (k := 6) hx hb ht hown ck_H hK hP (by decide) fk_H_69 g11 d_H_go_61 ?_
            refine x_aload_n hx hb d_H_go_64 rfl (lv_at hl 0 rfl) ?_
            obtain ⟨j13, ej13, hf⟩ := bo_some hf
            rw [ej13]
            obtain ⟨hO9, hf⟩ := ck_some hf
            obtain ⟨u12, r12, hc12, hf⟩ := bx_some hf
            obtain ⟨hc12, hz12⟩ := gz_some hc12
            obtain ⟨hf, hw12⟩ := gw_some hf
            have hw12 := gt9 (e := tc x.2) (f := tsl x.2) hw12
            refine xV0 (i := j13) (As := [va_rf (Option.map ad r5)]) (rest := []) C0 hP hD hS ck_Wl hO9 (c_Wl_isReady N hc12) k_Wl_isReady (wd_of 1300 (by decide +kernel) rfl) hi_Wl_isReady hs_Wl_isReady hini_Wl rfl rfl hd_Wl_isReady rfl rm_H_go_Wl_isReady hl.1 (Nat.le_of_ble_eq_true rfl) d_H_go_65 rfl (hB.fit hm hz12 hw12) (fun H locs hP hD hS => ?_)
            have hB := hB.same2 hz12
            refine lv_if_ne (tgt := 81) hx hb d_H_go_68 (by decide) (fun hc => ?_) (fun hc => ?_)
            · rw [br_n _ hc] at hf
              exact wb_H_go_81 C0 hE hno hL N G hG _ _ _ _ _ hf hm _ _ _ hB H locs hP hD hS ls (lv_sub hl [1, 3, 0] rfl)
            · rw [br_p _ hc] at hf
              exact wb_H_go_71 C0 hE hno hL N G hG _ _ hf hm _ _ _ hB H locs hP hD hS ls (lv_sub hl [] rfl)
      · rw [br_p _ hc] at hf
        cases hf
        obtain ⟨⟨a0, hT0⟩, hb0, hV, hRR, hZZ⟩ := id hE
        exact yx_throw (k := 1) (names := exUp) C0 hP hD hS hB hm hL hT0 hb0 rx13_0 rx13_1 rx13_2 rx13_5 oa_H_163_1 (lw_of 1423 (by decide +kernel)) (lw_of 1424 (by decide +kernel)) (lw_of 288 (by decide +kernel)) (by decide) (by decide) (hRR 11 _ rfl) (out_none hno _) (Nat.le_of_ble_eq_true rfl) (Nat.le_of_ble_eq_true rfl) hl.1 d_H_go_34 d_H_go_37 d_H_go_38 d_H_go_40 d_H_go_43
    · rw [br_n _ hc] at hf
      exact wb_H_go_11 C0 hE hno hL N G hG _ _ hf hm _ _ _ hB H locs hP hD hS ls (lv_sub hl [] rfl)
def fm_H_go (N : Nat) (u : CS) (v0 : Nat) (v1 : Int32) (v2 : Int32) : Option (CS × (Int32 ⊕ Nat)) := fb_H_go_0 N () u v0 v1 v2
set_option maxRecDepth 100000 in
set_option maxHeartbeats 4000000 in
theorem c_H_go (N : Nat) {l : Launch} {s0 : State} {b0 : Nat} {D : va_G} {cB cI cJ cZ cS cP : ClassId} {sk sv : Nat → Nat} {ad : Nat → Nat} {u : CS} {sz mc ms : Nat} {v0 : Nat} {v1 : Int32} {v2 : Int32} {x : CS × (Int32 ⊕ Nat)} (hE : ENV s0 b0 sk sv) (hL : l.stackTraces = false) (hf : fm_H_go N u v0 v1 v2 = some x) (hm : u.1.1 + mc = x.1.1.1 + tc x.2 ∧ u.1.2 + ms = x.1.1.2 + tsl x.2) : MetX l y_H_go (wd_ws y_H_go b_H_go 4 (some .int)) (rm_H_go mc ms) (xPc s0 b0 D cB cI cJ cZ cS cP ad u sz [.ref (ad v0), .int v1, .int v2]) (xQy D cB cI cJ cZ cS cP (xA cB cI cJ cZ cS cP ad u sz) ad u.1.1 (fun v => some (.inl v)) x) mc ms (xA cB cI cJ cZ cS cP ad u sz) :=
  xMetX (by decide) rfl (Nat.le_of_ble_eq_true rfl) (fun p e s m below meth c ls hsz hno C0 hP hD hS hl =>
    wb_H_go_0 C0 hE hno hL N () trivial u _ _ _ x hf hm ad 0 0 ⟨rfl, rfl, fun _ _ => rfl⟩ s.heap [] hP hD hS ls (lv_sub hl [0, 1, 2] rfl))
abbrev b_H_clock : ByteArray := prog_1_method_11_code
def y_H_clock : MethodName := ⟨R_H, "clock", "(I)I"⟩
def w_H_clock : List Cond := wd_ws y_H_clock b_H_clock 2 (some .int)
set_option maxRecDepth 100000 in
theorem k_H_clock : Cond.code y_H_clock b_H_clock 2 (some .int) ∈ wd_tbl := wd_of 2073 rfl rfl
theorem d_H_clock_0 : decode b_H_clock 0 = .ok (.iload_n 1, 1) := by decide +kernel
theorem d_H_clock_1 : decode b_H_clock 1 = .ok (.ifCond .lt 23, 3) := by decide +kernel
theorem d_H_clock_4 : decode b_H_clock 4 = .ok (.iload_n 1, 1) := by decide +kernel
theorem d_H_clock_5 : decode b_H_clock 5 = .ok (.ldc 212, 2) := by decide +kernel
theorem d_H_clock_7 : decode b_H_clock 7 = .ok (.if_icmp .gt 17, 3) := by decide +kernel
theorem d_H_clock_10 : decode b_H_clock 10 = .ok (.iload_n 1, 1) := by decide +kernel
theorem d_H_clock_11 : decode b_H_clock 11 = .ok (.ldc 212, 2) := by decide +kernel
theorem d_H_clock_13 : decode b_H_clock 13 = .ok (.aload_n 0, 1) := by decide +kernel
theorem d_H_clock_14 : decode b_H_clock 14 = .ok (.getfield 69, 3) := by decide +kernel
theorem d_H_clock_17 : decode b_H_clock 17 = .ok (.getfield 125, 3) := by decide +kernel
theorem d_H_clock_20 : decode b_H_clock 20 = .ok (.isub, 1) := by decide +kernel
theorem d_H_clock_21 : decode b_H_clock 21 = .ok (.if_icmp .le 13, 3) := by decide +kernel
theorem d_H_clock_24 : decode b_H_clock 24 = .ok (.new 164, 3) := by decide +kernel
theorem d_H_clock_27 : decode b_H_clock 27 = .ok (.dup, 1) := by decide +kernel
theorem d_H_clock_28 : decode b_H_clock 28 = .ok (.ldc 213, 2) := by decide +kernel
theorem d_H_clock_30 : decode b_H_clock 30 = .ok (.invokespecial 168, 3) := by decide +kernel
theorem d_H_clock_33 : decode b_H_clock 33 = .ok (.athrow, 1) := by decide +kernel
theorem d_H_clock_34 : decode b_H_clock 34 = .ok (.aload_n 0, 1) := by decide +kernel
theorem d_H_clock_35 : decode b_H_clock 35 = .ok (.getfield 69, 3) := by decide +kernel
theorem d_H_clock_38 : decode b_H_clock 38 = .ok (.getfield 169, 3) := by decide +kernel
theorem d_H_clock_41 : decode b_H_clock 41 = .ok (.ifCond .ne 13, 3) := by decide +kernel
theorem d_H_clock_44 : decode b_H_clock 44 = .ok (.new 152, 3) := by decide +kernel
theorem d_H_clock_47 : decode b_H_clock 47 = .ok (.dup, 1) := by decide +kernel
theorem d_H_clock_48 : decode b_H_clock 48 = .ok (.ldc 215, 2) := by decide +kernel
theorem d_H_clock_50 : decode b_H_clock 50 = .ok (.invokespecial 156, 3) := by decide +kernel
theorem d_H_clock_53 : decode b_H_clock 53 = .ok (.athrow, 1) := by decide +kernel
theorem d_H_clock_54 : decode b_H_clock 54 = .ok (.aload_n 0, 1) := by decide +kernel
theorem d_H_clock_55 : decode b_H_clock 55 = .ok (.getfield 69, 3) := by decide +kernel
theorem d_H_clock_58 : decode b_H_clock 58 = .ok (.dup, 1) := by decide +kernel
theorem d_H_clock_59 : decode b_H_clock 59 = .ok (.getfield 125, 3) := by decide +kernel
theorem d_H_clock_62 : decode b_H_clock 62 = .ok (.iload_n 1, 1) := by decide +kernel
theorem d_H_clock_63 : decode b_H_clock 63 = .ok (.iadd, 1) := by decide +kernel
theorem d_H_clock_64 : decode b_H_clock 64 = .ok (.putfield 125, 3) := by decide +kernel
theorem d_H_clock_67 : decode b_H_clock 67 = .ok (.aload_n 0, 1) := by decide +kernel
theorem d_H_clock_68 : decode b_H_clock 68 = .ok (.getfield 69, 3) := by decide +kernel
theorem d_H_clock_71 : decode b_H_clock 71 = .ok (.getfield 125, 3) := by decide +kernel
theorem d_H_clock_74 : decode b_H_clock 74 = .ok (.ireturn, 1) := by decide +kernel
set_option maxRecDepth 100000 in
theorem hi_H_clock : Cond.instanceMethod y_H_clock ∈ wd_tbl := wd_of 2071 (by decide +kernel) rfl
set_option maxRecDepth 100000 in
theorem hs_H_clock : Cond.selects R_H y_H_clock y_H_clock ∈ wd_tbl := wd_of 2072 (by decide +kernel) rfl
theorem hd_H_clock : y_H_clock.cls = R_H ∧ y_H_clock.cls ≠ "java/lang/invoke/MethodHandle" ∧ y_H_clock.cls ≠ "java/lang/invoke/VarHandle" ∧ (parseMethodDescriptor y_H_clock.desc).map (fun d => d.parameters.length) = some 1 := by decide +kernel
def rm_H_clock (mc ms : Nat) : Room := { frames := 6, cells := mc, slots := ms, locals := 90 }
def fb_H_clock_24 (N : Nat) (G : Unit) (u : CS) : Option (CS × (Int32 ⊕ Nat)) := some (u, .inr 2)
set_option maxRecDepth 100000 in
set_option maxHeartbeats 4000000 in
theorem wb_H_clock_24 {p : Program} {l : Launch} {e : Env} {s : State} {m : MethodId} {args : Array Value} {below : List Frame} {meth : Method} {c : Code} {s0 : State} {b0 : Nat} {D : va_G} {cB cI cJ cZ cS cP : ClassId} {A : Nat → Prop} {sk sv : Nat → Nat} {ad : Nat → Nat} (C0 : XCx p s s0 b0 m args meth c R_H b_H_clock 2 (some .int) D cB cI cJ cZ cS cP A) (hE : ENV s0 b0 sk sv) (hno : c.exceptionTable.isEmpty = true) (hL : l.stackTraces = false) (N : Nat) (G : Unit) (hG : True) : ∀ (u : CS) (x : CS × (Int32 ⊕ Nat)), fb_H_clock_24 N G u = some x → ∀ (H : Heap) (locs : List Loc), va_P D cls (wC cB cI cJ cZ cS cP ad u) H → va_D A (wC cB cI cJ cZ cS cP ad u) → va_S A s.heap H locs → ∀ (ls : Array Slot), lv_has ls 2 [] → W p l e (rm_H_clock (tc x.2) (tsl x.2)) s m args below meth c H locs 0 0 (MQX below (xQx D cB cI cJ cZ cS cP A ad (fun v => some (.inl v)) x) args s (tc x.2) (tsl x.2) A) (F0 m 24 ls []) := by
  intro u x hf H locs hP hD hS ls hl
  obtain ⟨hx, hb, hr, hml, ht, hown, hK, hA, hlocks, hA0, hO, hbs⟩ := id C0
  unfold fb_H_clock_24 at hf
  cases hf
  obtain ⟨⟨a0, hT0⟩, hb0, hV, hRR, hZZ⟩ := id hE
  exact xt_throw (k := 2) (names := exUp) C0 hP hD hS hL hT0 hb0 rx7_0 rx7_1 rx7_2 rx7_5 oa_H_168_2 (lw_of 1439 (by decide +kernel)) (lw_of 1440 (by decide +kernel)) (lw_of 289 (by decide +kernel)) (by decide) (by decide) (hRR 13 _ rfl) (out_none hno _) (Nat.le_of_ble_eq_true rfl) (Nat.le_of_ble_eq_true rfl) (Nat.le_of_ble_eq_true rfl) (Nat.le_of_ble_eq_true rfl) hl.1 d_H_clock_24 d_H_clock_27 d_H_clock_28 d_H_clock_30 d_H_clock_33
def fb_H_clock_0 (N : Nat) (G : Unit) (u : CS) (v0 : Nat) (v1 : Int32) : Option (CS × (Int32 ⊕ Nat)) := br (decide (v1 < 0)) (fb_H_clock_24 N G u) (br (decide (1000000000 < v1)) (fb_H_clock_24 N G u) (bo (gR u v0 1 6) (fun r1 => bo r1 (fun j2 => bo (gI u j2 12 4) (fun r3 => br (decide (v1 ≤ (1000000000 - r3))) (bo (gR u v0 1 6) (fun r4 => bo r4 (fun j5 => bo (gI u j5 12 3) (fun r6 => br (decide (r6 = 0)) (some (u, .inr 0)) (bo (gR u v0 1 6) (fun r7 => bo r7 (fun j8 => bo (gI u j8 12 4) (fun r9 => bo (pF u j8 12 4 (.inl (r9 + v1))) (fun w10 => bo (gR w10 v0 1 6) (fun r11 => bo r11 (fun j12 => bo (gI w10 j12 12 4) (fun r13 => some (w10, .inl r13))))))))))))) (fb_H_clock_24 N G u))))))
set_option maxRecDepth 100000 in
set_option maxHeartbeats 4000000 in
theorem wb_H_clock_0 {p : Program} {l : Launch} {e : Env} {s : State} {m : MethodId} {args : Array Value} {below : List Frame} {meth : Method} {c : Code} {s0 : State} {b0 : Nat} {D : va_G} {cB cI cJ cZ cS cP : ClassId} {A : Nat → Prop} {sk sv : Nat → Nat} {ad : Nat → Nat} (C0 : XCx p s s0 b0 m args meth c R_H b_H_clock 2 (some .int) D cB cI cJ cZ cS cP A) (hE : ENV s0 b0 sk sv) (hno : c.exceptionTable.isEmpty = true) (hL : l.stackTraces = false) (N : Nat) (G : Unit) (hG : True) : ∀ (u : CS) (v0 : Nat) (v1 : Int32) (x : CS × (Int32 ⊕ Nat)), fb_H_clock_0 N G u v0 v1 = some x → ∀ (H : Heap) (locs : List Loc), va_P D cls (wC cB cI cJ cZ cS cP ad u) H → va_D A (wC cB cI cJ cZ cS cP ad u) → va_S A s.heap H locs → ∀ (ls : Array Slot), lv_has ls 2 [(0, .ref (ad v0)), (1, .int v1)] → W p l e (rm_H_clock (tc x.2) (tsl x.2)) s m args below meth c H locs 0 0 (MQX below (xQx D cB cI cJ cZ cS cP A ad (fun v => some (.inl v)) x) args s (tc x.2) (tsl x.2) A) (F0 m 0 ls []) := by
  intro u v0 v1 x hf H locs hP hD hS ls hl
  obtain ⟨hx, hb, hr, hml, ht, hown, hK, hA, hlocks, hA0, hO, hbs⟩ := id C0
  unfold fb_H_clock_0 at hf
  refine lv_iload_n hx hb d_H_clock_0 rfl (lv_at hl 1 rfl) ?_
  refine lv_if_lt (tgt := 24) hx hb d_H_clock_1 (by decide) (fun hc => ?_) (fun hc => ?_)
  · rw [br_p _ hc] at hf
    exact wb_H_clock_24 C0 hE hno hL N G hG _ _ hf H locs hP hD hS ls (lv_sub hl [] rfl)
  · rw [br_n _ hc] at hf
    refine lv_iload_n hx hb d_H_clock_4 rfl (lv_at hl 1 rfl) ?_
    refine lv_ldc (v := 1000000000) hx hb hown (ht _ (wd_of 2074 (by decide +kernel) rfl)) d_H_clock_5 ?_
    refine lv_icmp_gt (tgt := 24) hx hb d_H_clock_7 (by decide) (fun hc => ?_) (fun hc => ?_)
    · rw [br_p _ hc] at hf
      exact wb_H_clock_24 C0 hE hno hL N G hG _ _ hf H locs hP hD hS ls (lv_sub hl [] rfl)
    · rw [br_n _ hc] at hf
      refine lv_iload_n hx hb d_H_clock_10 rfl (lv_at hl 1 rfl) ?_
      refine lv_ldc (v := 1000000000) hx hb hown (ht _ (wd_of 2074 (by decide +kernel) rfl)) d_H_clock_11 ?_
      refine lv_aload_n hx hb d_H_clock_13 rfl (lv_at hl 0 rfl) ?_
      obtain ⟨r1, g1, hf⟩ := bo_some hf
      refine xg_R (i := v0) (k := 6) hx hb ht hown ck_H hK hP (by decide) fk_H_69 g1 d_H_clock_14 ?_
      obtain ⟨j2, ej2, hf⟩ := bo_some hf
      rw [ej2]
      obtain ⟨r3, g3, hf⟩ := bo_some hf
      refine xg_I (i := j2) (k := 4) hx hb ht hown ck_Wl hK hP (by decide) fk_H_125 g3 d_H_clock_17 ?_
      refine lv_isub hx hb d_H_clock_20 ?_
      refine lv_icmp_le (tgt := 34) hx hb d_H_clock_21 (by decide) (fun hc => ?_) (fun hc => ?_)
      · rw [br_p _ hc] at hf
        refine lv_aload_n hx hb d_H_clock_34 rfl (lv_at hl 0 rfl) ?_
        obtain ⟨r4, g4, hf⟩ := bo_some hf
        refine xg_R (i := v0) (k := 6) hx hb ht hown ck_H hK hP (by decide) fk_H_69 g4 d_H_clock_35 ?_
        obtain ⟨j5, ej5, hf⟩ := bo_some hf
        rw [ej5]
        obtain ⟨r6, g6, hf⟩ := bo_some hf
        refine xg_I (i := j5) (k := 3) hx hb ht hown ck_Wl hK hP (by decide) fk_H_169 g6 d_H_clock_38 ?_
        refine lv_if_ne (tgt := 54) hx hb d_H_clock_41 (by decide) (fun hc => ?_) (fun hc => ?_)
        · rw [br_n _ hc] at hf
          refine lv_aload_n hx hb d_H_clock_54 rfl (lv_at hl 0 rfl) ?_
          obtain ⟨r7, g7, hf⟩ := bo_some hf
          refine xg_R (i := v0) (k := 6) hx hb ht hown ck_H hK hP (by decide) fk_H_69 g7 d_H_clock_55 ?_
          refine lv_dup hx hb d_H_clock_58 (cat_rf _) ?_
          obtain ⟨j8, ej8, hf⟩ := bo_some hf
          rw [ej8]
          obtain ⟨r9, g9, hf⟩ := bo_some hf
          refine xg_I (i := j8) (k := 4) hx hb ht hown ck_Wl hK hP (by decide) fk_H_125 g9 d_H_clock_59 ?_
          refine lv_iload_n hx hb d_H_clock_62 rfl (lv_at hl 1 rfl) ?_
          refine lv_iadd hx hb d_H_clock_63 ?_
          obtain ⟨w10, g10, hf⟩ := bo_some hf
          refine xp (i := j8) (k := 4) (v := (.inl (r9 + v1))) hx hb ht hown ck_Wl hK hP hD hS (by decide) fk_H_125 rfl g10 rfl rfl d_H_clock_64 (fun H locs hP hD hS => ?_)
          refine lv_aload_n hx hb d_H_clock_67 rfl (lv_at hl 0 rfl) ?_
          obtain ⟨r11, g11, hf⟩ := bo_some hf
          refine xg_R (i := v0) (k := 6) hx hb ht hown ck_H hK hP (by decide) fk_H_69 g11 d_H_clock_68 ?_
          obtain ⟨j12, ej12, hf⟩ := bo_some hf
          rw [ej12]
          obtain ⟨r13, g13, hf⟩ := bo_some hf
          refine xg_I (i := j12) (k := 4) hx hb ht hown ck_Wl hK hP (by decide) fk_H_125 g13 d_H_clock_71 ?_
          exact xt_i C0 hP hD hS hf d_H_clock_74
        · rw [br_p _ hc] at hf
          cases hf
          obtain ⟨⟨a0, hT0⟩, hb0, hV, hRR, hZZ⟩ := id hE
          exact xt_throw (k := 0) (names := exUp) C0 hP hD hS hL hT0 hb0 rx7_0 rx7_1 rx7_2 rx7_5 oa_H_156_0 (lw_of 1407 (by decide +kernel)) (lw_of 1408 (by decide +kernel)) (lw_of 287 (by decide +kernel)) (by decide) (by decide) (hRR 14 _ rfl) (out_none hno _) (Nat.le_of_ble_eq_true rfl) (Nat.le_of_ble_eq_true rfl) (Nat.le_of_ble_eq_true rfl) (Nat.le_of_ble_eq_true rfl) hl.1 d_H_clock_44 d_H_clock_47 d_H_clock_48 d_H_clock_50 d_H_clock_53
      · rw [br_n _ hc] at hf
        exact wb_H_clock_24 C0 hE hno hL N G hG _ _ hf H locs hP hD hS ls (lv_sub hl [] rfl)
def fm_H_clock (N : Nat) (u : CS) (v0 : Nat) (v1 : Int32) : Option (CS × (Int32 ⊕ Nat)) := fb_H_clock_0 N () u v0 v1
set_option maxRecDepth 100000 in
set_option maxHeartbeats 4000000 in
theorem c_H_clock (N : Nat) {l : Launch} {s0 : State} {b0 : Nat} {D : va_G} {cB cI cJ cZ cS cP : ClassId} {sk sv : Nat → Nat} {ad : Nat → Nat} {u : CS} {sz : Nat} {v0 : Nat} {v1 : Int32} {x : CS × (Int32 ⊕ Nat)} (hE : ENV s0 b0 sk sv) (hL : l.stackTraces = false) (hf : fm_H_clock N u v0 v1 = some x) : MetX l y_H_clock (wd_ws y_H_clock b_H_clock 2 (some .int)) (rm_H_clock (tc x.2) (tsl x.2)) (xPc s0 b0 D cB cI cJ cZ cS cP ad u sz [.ref (ad v0), .int v1]) (xQx D cB cI cJ cZ cS cP (xA cB cI cJ cZ cS cP ad u sz) ad (fun v => some (.inl v)) x) (tc x.2) (tsl x.2) (xA cB cI cJ cZ cS cP ad u sz) :=
  xMetX (by decide) rfl (Nat.le_of_ble_eq_true rfl) (fun p e s m below meth c ls hsz hno C0 hP hD hS hl =>
    wb_H_clock_0 C0 hE hno hL N () trivial u _ _ x hf s.heap [] hP hD hS ls (lv_sub hl [0, 1] rfl))
abbrev b_Wl_postPair : ByteArray := prog_12_method_13_code
def y_Wl_postPair : MethodName := ⟨R_Wl, "postPair", "(LMailHouse$Process;I)V"⟩
def w_Wl_postPair : List Cond := wd_ws y_Wl_postPair b_Wl_postPair 4 none
set_option maxRecDepth 100000 in
theorem k_Wl_postPair : Cond.code y_Wl_postPair b_Wl_postPair 4 none ∈ wd_tbl := wd_of 2089 rfl rfl
theorem d_Wl_postPair_0 : decode b_Wl_postPair 0 = .ok (.aload_n 1, 1) := by decide +kernel
theorem d_Wl_postPair_1 : decode b_Wl_postPair 1 = .ok (.getfield 91, 3) := by decide +kernel
theorem d_Wl_postPair_4 : decode b_Wl_postPair 4 = .ok (.iconst 3, 1) := by decide +kernel
theorem d_Wl_postPair_5 : decode b_Wl_postPair 5 = .ok (.if_icmp .eq 12, 3) := by decide +kernel
theorem d_Wl_postPair_8 : decode b_Wl_postPair 8 = .ok (.aload_n 1, 1) := by decide +kernel
theorem d_Wl_postPair_9 : decode b_Wl_postPair 9 = .ok (.getfield 79, 3) := by decide +kernel
theorem d_Wl_postPair_12 : decode b_Wl_postPair 12 = .ok (.bipush 30, 2) := by decide +kernel
theorem d_Wl_postPair_14 : decode b_Wl_postPair 14 = .ok (.if_icmp .lt 4, 3) := by decide +kernel
theorem d_Wl_postPair_17 : decode b_Wl_postPair 17 = .ok (.return_, 1) := by decide +kernel
theorem d_Wl_postPair_18 : decode b_Wl_postPair 18 = .ok (.aload_n 1, 1) := by decide +kernel
theorem d_Wl_postPair_19 : decode b_Wl_postPair 19 = .ok (.iconst 3, 1) := by decide +kernel
theorem d_Wl_postPair_20 : decode b_Wl_postPair 20 = .ok (.invokevirtual 112, 3) := by decide +kernel
theorem d_Wl_postPair_23 : decode b_Wl_postPair 23 = .ok (.ifCond .ne 11, 3) := by decide +kernel
theorem d_Wl_postPair_26 : decode b_Wl_postPair 26 = .ok (.aload_n 0, 1) := by decide +kernel
theorem d_Wl_postPair_27 : decode b_Wl_postPair 27 = .ok (.aload_n 1, 1) := by decide +kernel
theorem d_Wl_postPair_28 : decode b_Wl_postPair 28 = .ok (.bipush 20, 2) := by decide +kernel
theorem d_Wl_postPair_30 : decode b_Wl_postPair 30 = .ok (.invokevirtual 116, 3) := by decide +kernel
theorem d_Wl_postPair_33 : decode b_Wl_postPair 33 = .ok (.return_, 1) := by decide +kernel
theorem d_Wl_postPair_34 : decode b_Wl_postPair 34 = .ok (.aload_n 1, 1) := by decide +kernel
theorem d_Wl_postPair_35 : decode b_Wl_postPair 35 = .ok (.getfield 130, 3) := by decide +kernel
theorem d_Wl_postPair_38 : decode b_Wl_postPair 38 = .ok (.istore_n 3, 1) := by decide +kernel
theorem d_Wl_postPair_39 : decode b_Wl_postPair 39 = .ok (.aload_n 1, 1) := by decide +kernel
theorem d_Wl_postPair_40 : decode b_Wl_postPair 40 = .ok (.getfield 104, 3) := by decide +kernel
theorem d_Wl_postPair_43 : decode b_Wl_postPair 43 = .ok (.iload_n 3, 1) := by decide +kernel
theorem d_Wl_postPair_44 : decode b_Wl_postPair 44 = .ok (.bipush 8, 2) := by decide +kernel
theorem d_Wl_postPair_46 : decode b_Wl_postPair 46 = .ok (.iconst 2, 1) := by decide +kernel
theorem d_Wl_postPair_47 : decode b_Wl_postPair 47 = .ok (.invokestatic 141, 3) := by decide +kernel
theorem d_Wl_postPair_50 : decode b_Wl_postPair 50 = .ok (.lastore, 1) := by decide +kernel
theorem d_Wl_postPair_51 : decode b_Wl_postPair 51 = .ok (.aload_n 1, 1) := by decide +kernel
theorem d_Wl_postPair_52 : decode b_Wl_postPair 52 = .ok (.getfield 104, 3) := by decide +kernel
theorem d_Wl_postPair_55 : decode b_Wl_postPair 55 = .ok (.iload_n 3, 1) := by decide +kernel
theorem d_Wl_postPair_56 : decode b_Wl_postPair 56 = .ok (.iconst 1, 1) := by decide +kernel
theorem d_Wl_postPair_57 : decode b_Wl_postPair 57 = .ok (.iadd, 1) := by decide +kernel
theorem d_Wl_postPair_58 : decode b_Wl_postPair 58 = .ok (.iconst 0, 1) := by decide +kernel
theorem d_Wl_postPair_59 : decode b_Wl_postPair 59 = .ok (.iload_n 2, 1) := by decide +kernel
theorem d_Wl_postPair_60 : decode b_Wl_postPair 60 = .ok (.invokestatic 141, 3) := by decide +kernel
theorem d_Wl_postPair_63 : decode b_Wl_postPair 63 = .ok (.lastore, 1) := by decide +kernel
theorem d_Wl_postPair_64 : decode b_Wl_postPair 64 = .ok (.aload_n 1, 1) := by decide +kernel
theorem d_Wl_postPair_65 : decode b_Wl_postPair 65 = .ok (.getfield 104, 3) := by decide +kernel
theorem d_Wl_postPair_68 : decode b_Wl_postPair 68 = .ok (.iload_n 3, 1) := by decide +kernel
theorem d_Wl_postPair_69 : decode b_Wl_postPair 69 = .ok (.iconst 2, 1) := by decide +kernel
theorem d_Wl_postPair_70 : decode b_Wl_postPair 70 = .ok (.iadd, 1) := by decide +kernel
theorem d_Wl_postPair_71 : decode b_Wl_postPair 71 = .ok (.iconst 4, 1) := by decide +kernel
theorem d_Wl_postPair_72 : decode b_Wl_postPair 72 = .ok (.aload_n 1, 1) := by decide +kernel
theorem d_Wl_postPair_73 : decode b_Wl_postPair 73 = .ok (.getfield 145, 3) := by decide +kernel
theorem d_Wl_postPair_76 : decode b_Wl_postPair 76 = .ok (.invokestatic 141, 3) := by decide +kernel
theorem d_Wl_postPair_79 : decode b_Wl_postPair 79 = .ok (.lastore, 1) := by decide +kernel
theorem d_Wl_postPair_80 : decode b_Wl_postPair 80 = .ok (.aload_n 1, 1) := by decide +kernel
theorem d_Wl_postPair_81 : decode b_Wl_postPair 81 = .ok (.dup, 1) := by decide +kernel
theorem d_Wl_postPair_82 : decode b_Wl_postPair 82 = .ok (.getfield 130, 3) := by decide +kernel
theorem d_Wl_postPair_85 : decode b_Wl_postPair 85 = .ok (.iconst 3, 1) := by decide +kernel
theorem d_Wl_postPair_86 : decode b_Wl_postPair 86 = .ok (.iadd, 1) := by decide +kernel
theorem d_Wl_postPair_87 : decode b_Wl_postPair 87 = .ok (.putfield 130, 3) := by decide +kernel
theorem d_Wl_postPair_90 : decode b_Wl_postPair 90 = .ok (.aload_n 1, 1) := by decide +kernel
theorem d_Wl_postPair_91 : decode b_Wl_postPair 91 = .ok (.iconst 5, 1) := by decide +kernel
theorem d_Wl_postPair_92 : decode b_Wl_postPair 92 = .ok (.iload_n 3, 1) := by decide +kernel
theorem d_Wl_postPair_93 : decode b_Wl_postPair 93 = .ok (.invokestatic 141, 3) := by decide +kernel
theorem d_Wl_postPair_96 : decode b_Wl_postPair 96 = .ok (.invokevirtual 137, 3) := by decide +kernel
theorem d_Wl_postPair_99 : decode b_Wl_postPair 99 = .ok (.return_, 1) := by decide +kernel
set_option maxRecDepth 100000 in
theorem hi_Wl_postPair : Cond.instanceMethod y_Wl_postPair ∈ wd_tbl := wd_of 2087 (by decide +kernel) rfl
set_option maxRecDepth 100000 in
theorem hs_Wl_postPair : Cond.selects R_Wl y_Wl_postPair y_Wl_postPair ∈ wd_tbl := wd_of 2088 (by decide +kernel) rfl
theorem hd_Wl_postPair : y_Wl_postPair.cls = R_Wl ∧ y_Wl_postPair.cls ≠ "java/lang/invoke/MethodHandle" ∧ y_Wl_postPair.cls ≠ "java/lang/invoke/VarHandle" ∧ (parseMethodDescriptor y_Wl_postPair.desc).map (fun d => d.parameters.length) = some 2 := by decide +kernel
def rm_Wl_postPair : Room := { frames := 3, cells := 0, slots := 0, locals := 97 }
theorem rm_Wl_postPair_Pr_want : (rm_Pr_want).frames + 1 ≤ rm_Wl_postPair.frames ∧ 8 + (2 + 11) + (rm_Pr_want).locals ≤ rm_Wl_postPair.locals := by
  show 2 + 1 ≤ 3 ∧ 8 + (2 + 11) + 76 ≤ 97
  decide
theorem rm_Wl_postPair_Wl_endsBy : (rm_Wl_endsBy).frames + 1 ≤ rm_Wl_postPair.frames ∧ 8 + (3 + 11) + (rm_Wl_endsBy).locals ≤ rm_Wl_postPair.locals := by
  show 1 + 1 ≤ 3 ∧ 8 + (3 + 11) + 24 ≤ 97
  decide
theorem rm_Wl_postPair_Te_make : (rm_Te_make).frames + 1 ≤ rm_Wl_postPair.frames ∧ 8 + (2 + 11) + (rm_Te_make).locals ≤ rm_Wl_postPair.locals := by
  show 0 + 1 ≤ 3 ∧ 8 + (2 + 11) + 0 ≤ 97
  decide
theorem rm_Wl_postPair_Pr_comes : (rm_Pr_comes).frames + 1 ≤ rm_Wl_postPair.frames ∧ 8 + (3 + 11) + (rm_Pr_comes).locals ≤ rm_Wl_postPair.locals := by
  show 0 + 1 ≤ 3 ∧ 8 + (3 + 11) + 0 ≤ 97
  decide
def fb_Wl_postPair_17 (N : Nat) (G : Unit) (u : CS) : Option (CS × Unit) := some (u, ())
set_option maxRecDepth 100000 in
set_option maxHeartbeats 4000000 in
theorem wb_Wl_postPair_17 {p : Program} {l : Launch} {e : Env} {s : State} {m : MethodId} {args : Array Value} {below : List Frame} {meth : Method} {c : Code} {s0 : State} {b0 : Nat} {D : va_G} {cB cI cJ cZ cS cP : ClassId} {A : Nat → Prop} {sk sv : Nat → Nat} {ad : Nat → Nat} (C0 : XCx p s s0 b0 m args meth c R_Wl b_Wl_postPair 4 none D cB cI cJ cZ cS cP A) (hE : ENV s0 b0 sk sv) (N : Nat) (G : Unit) (hG : True) : ∀ (u : CS) (x : CS × Unit), fb_Wl_postPair_17 N G u = some x → ∀ (H : Heap) (locs : List Loc), va_P D cls (wC cB cI cJ cZ cS cP ad u) H → va_D A (wC cB cI cJ cZ cS cP ad u) → va_S A s.heap H locs → ∀ (ls : Array Slot), lv_has ls 4 [] → W p l e rm_Wl_postPair s m args below meth c H locs 0 0 (MQ below (xQ0 D cB cI cJ cZ cS cP A ad x.1 none) args s 0 0 A) (F0 m 17 ls []) := by
  intro u x hf H locs hP hD hS ls hl
  obtain ⟨hx, hb, hr, hml, ht, hown, hK, hA, hlocks, hA0, hO, hbs⟩ := id C0
  unfold fb_Wl_postPair_17 at hf
  exact xr0_v C0 hP hD hS hf d_Wl_postPair_17
def fb_Wl_postPair_0 (N : Nat) (G : Unit) (u : CS) (v0 : Nat) (v1 : Option Nat) (v2 : Int32) : Option (CS × Unit) := bo v1 (fun j1 => bo (gI u j1 7 9) (fun r2 => br (decide (r2 = 3)) (fb_Wl_postPair_17 N G u) (bo v1 (fun j3 => bo (gI u j3 7 7) (fun r4 => br (decide (r4 < 30)) (bo v1 (fun j6 => ck (isO u j6 7) (bx (fm_Pr_want N u j6 3) (fun u5 r5 => br (decide (r5 = 0)) (ck (isO u5 v0 12) (bx (fm_Wl_endsBy N u5 v0 v1 20) (fun u32 r32 => some (u32, ())))) (bo v1 (fun j7 => bo (gI u5 j7 7 4) (fun r8 => bo v1 (fun j9 => bo (gR u5 j9 7 2) (fun r10 => bx (fm_Te_make N u5 8 2) (fun u11 r11 => bo r10 (fun j12 => bo (sJ u11 j12 r8 r11) (fun w13 => bo v1 (fun j14 => bo (gR w13 j14 7 2) (fun r15 => bx (fm_Te_make N w13 0 v2) (fun u16 r16 => bo r15 (fun j17 => bo (sJ u16 j17 (r8 + 1) r16) (fun w18 => bo v1 (fun j19 => bo (gR w18 j19 7 2) (fun r20 => bo v1 (fun j21 => bo (gI w18 j21 7 0) (fun r22 => bx (fm_Te_make N w18 4 r22) (fun u23 r23 => bo r20 (fun j24 => bo (sJ u23 j24 (r8 + 2) r23) (fun w25 => bo v1 (fun j26 => bo (gI w25 j26 7 4) (fun r27 => bo (pF w25 j26 7 4 (.inl (r27 + 3))) (fun w28 => bx (fm_Te_make N w28 5 r8) (fun u29 r29 => bo v1 (fun j31 => ck (isO u29 j31 7) (bx (fm_Pr_comes N u29 j31 r29) (fun u30 r30 => some (u30, ())))))))))))))))))))))))))))))))) (fb_Wl_postPair_17 N G u))))))
set_option maxRecDepth 100000 in
set_option maxHeartbeats 4000000 in
theorem wb_Wl_postPair_0 {p : Program} {l : Launch} {e : Env} {s : State} {m : MethodId} {args : Array Value} {below : List Frame} {meth : Method} {c : Code} {s0 : State} {b0 : Nat} {D : va_G} {cB cI cJ cZ cS cP : ClassId} {A : Nat → Prop} {sk sv : Nat → Nat} {ad : Nat → Nat} (C0 : XCx p s s0 b0 m args meth c R_Wl b_Wl_postPair 4 none D cB cI cJ cZ cS cP A) (hE : ENV s0 b0 sk sv) (N : Nat) (G : Unit) (hG : True) : ∀ (u : CS) (v0 : Nat) (v1 : Option Nat) (v2 : Int32) (x : CS × Unit), fb_Wl_postPair_0 N G u v0 v1 v2 = some x → ∀ (H : Heap) (locs : List Loc), va_P D cls (wC cB cI cJ cZ cS cP ad u) H → va_D A (wC cB cI cJ cZ cS cP ad u) → va_S A s.heap H locs → ∀ (ls : Array Slot), lv_has ls 4 [(0, .ref (ad v0)), (1, va_rf (Option.map ad v1)), (2, .int v2)] → W p l e rm_Wl_postPair s m args below meth c H locs 0 0 (MQ below (xQ0 D cB cI cJ cZ cS cP A ad x.1 none) args s 0 0 A) (F0 m 0 ls []) := by
  intro u v0 v1 v2 x hf H locs hP hD hS ls hl
  obtain ⟨hx, hb, hr, hml, ht, hown, hK, hA, hlocks, hA0, hO, hbs⟩ := id C0
  unfold fb_Wl_postPair_0 at hf
  refine x_aload_n hx hb d_Wl_postPair_0 rfl (lv_at hl 1 rfl) ?_
  obtain ⟨j1, ej1, hf⟩ := bo_some hf
  rw [ej1]
  obtain ⟨r2, g2, hf⟩ := bo_some hf
  refine xg_I (i := j1) (k := 9) hx hb ht hown ck_Pr hK hP (by decide) fk_Wl_91 g2 d_Wl_postPair_1 ?_
  refine lv_iconst (v := 3) hx hb d_Wl_postPair_4 (by decide) ?_
  refine lv_icmp_eq (tgt := 17) hx hb d_Wl_postPair_5 (by decide) (fun hc => ?_) (fun hc => ?_)
  · rw [br_p _ hc] at hf
    exact wb_Wl_postPair_17 C0 hE N G hG _ _ hf H locs hP hD hS ls (lv_sub hl [] rfl)
  · rw [br_n _ hc] at hf
    refine x_aload_n hx hb d_Wl_postPair_8 rfl (lv_at hl 1 rfl) ?_
    obtain ⟨j3, ej3, hf⟩ := bo_some hf
    rw [ej3]
    obtain ⟨r4, g4, hf⟩ := bo_some hf
    refine xg_I (i := j3) (k := 7) hx hb ht hown ck_Pr hK hP (by decide) fk_Wl_79 g4 d_Wl_postPair_9 ?_
    refine lv_bipush (v := 30) hx hb d_Wl_postPair_12 (by decide) ?_
    refine lv_icmp_lt (tgt := 18) hx hb d_Wl_postPair_14 (by decide) (fun hc => ?_) (fun hc => ?_)
    · rw [br_p _ hc] at hf
      refine x_aload_n hx hb d_Wl_postPair_18 rfl (lv_at hl 1 rfl) ?_
      refine lv_iconst (v := 3) hx hb d_Wl_postPair_19 (by decide) ?_
      obtain ⟨j6, ej6, hf⟩ := bo_some hf
      rw [ej6]
      obtain ⟨hO9, hf⟩ := ck_some hf
      obtain ⟨u5, r5, hc5, hf⟩ := bx_some hf
      refine xV0 (i := j6) (As := [.int 3]) (rest := []) C0 hP hD hS ck_Pr hO9 (c_Pr_want N hE hc5) k_Pr_want (wd_of 1815 (by decide +kernel) rfl) hi_Pr_want hs_Pr_want hini_Pr rfl rfl hd_Pr_want rfl rm_Wl_postPair_Pr_want hl.1 (Nat.le_of_ble_eq_true rfl) d_Wl_postPair_20 rfl ⟨Nat.zero_le _, Nat.zero_le _⟩ (fun H locs hP hD hS => ?_)
      refine lv_if_ne (tgt := 34) hx hb d_Wl_postPair_23 (by decide) (fun hc => ?_) (fun hc => ?_)
      · rw [br_n _ hc] at hf
        refine x_aload_n hx hb d_Wl_postPair_34 rfl (lv_at hl 1 rfl) ?_
        obtain ⟨j7, ej7, hf⟩ := bo_some hf
        rw [ej7]
        obtain ⟨r8, g8, hf⟩ := bo_some hf
        refine xg_I (i := j7) (k := 4) hx hb ht hown ck_Pr hK hP (by decide) fk_Wl_130 g8 d_Wl_postPair_35 ?_
        refine lv_istore_n (lv' := [(3, .int r8), (0, .ref (ad v0)), (1, va_rf (Option.map ad v1)), (2, .int v2)]) hx hb d_Wl_postPair_38 rfl hl (by decide) (by first | rfl | simp [List.filter, cat_rf]) (fun ls hl => ?_)
        refine x_aload_n hx hb d_Wl_postPair_39 rfl (lv_at hl 2 rfl) ?_
        obtain ⟨j9, ej9, hf⟩ := bo_some hf
        rw [ej9]
        obtain ⟨r10, g10, hf⟩ := bo_some hf
        refine xg_R (i := j9) (k := 2) hx hb ht hown ck_Pr hK hP (by decide) fk_Wl_104 g10 d_Wl_postPair_40 ?_
        refine lv_iload_n hx hb d_Wl_postPair_43 rfl (lv_at hl 0 rfl) ?_
        refine lv_bipush (v := 8) hx hb d_Wl_postPair_44 (by decide) ?_
        refine lv_iconst (v := 2) hx hb d_Wl_postPair_46 (by decide) ?_
        obtain ⟨u11, r11, hc11, hf⟩ := bx_some hf
        refine xS0 (As := [.int 8, .int 2]) (rest := [.int r8, va_rf (Option.map ad r10)]) C0 hP hD hS (c_Te_make N hc11) k_Te_make (wd_of 1739 (by decide +kernel) rfl) ht_Te_make hini_Te rfl rfl hd_Te_make rfl rm_Wl_postPair_Te_make hl.1 (c8 (Nat.le_of_ble_eq_true rfl)) d_Wl_postPair_47 rfl ⟨Nat.zero_le _, Nat.zero_le _⟩ (fun H locs hP hD hS => ?_)
        obtain ⟨j12, ej12, hf⟩ := bo_some hf
        rw [ej12]
        obtain ⟨w13, g13, hf⟩ := bo_some hf
        refine xs_J (i := j12) hx hb hK hP hD hS g13 d_Wl_postPair_50 (fun H locs hP hD hS => ?_)
        refine x_aload_n hx hb d_Wl_postPair_51 rfl (lv_at hl 2 rfl) ?_
        obtain ⟨j14, ej14, hf⟩ := bo_some hf
        rw [ej14]
        obtain ⟨r15, g15, hf⟩ := bo_some hf
        refine xg_R (i := j14) (k := 2) hx hb ht hown ck_Pr hK hP (by decide) fk_Wl_104 g15 d_Wl_postPair_52 ?_
        refine lv_iload_n hx hb d_Wl_postPair_55 rfl (lv_at hl 0 rfl) ?_
        refine lv_iconst (v := 1) hx hb d_Wl_postPair_56 (by decide) ?_
        refine lv_iadd hx hb d_Wl_postPair_57 ?_
        refine lv_iconst (v := 0) hx hb d_Wl_postPair_58 (by decide) ?_
        refine lv_iload_n hx hb d_Wl_postPair_59 rfl (lv_at hl 3 rfl) ?_
        obtain ⟨u16, r16, hc16, hf⟩ := bx_some hf
        refine xS0 (As := [.int 0, .int v2]) (rest := [.int (r8 + 1), va_rf (Option.map ad r15)]) C0 hP hD hS (c_Te_make N hc16) k_Te_make (wd_of 1739 (by decide +kernel) rfl) ht_Te_make hini_Te rfl rfl hd_Te_make rfl rm_Wl_postPair_Te_make hl.1 (c8 (Nat.le_of_ble_eq_true rfl)) d_Wl_postPair_60 rfl ⟨Nat.zero_le _, Nat.zero_le _⟩ (fun H locs hP hD hS => ?_)
        obtain ⟨j17, ej17, hf⟩ := bo_some hf
        rw [ej17]
        obtain ⟨w18, g18, hf⟩ := bo_some hf
        refine xs_J (i := j17) hx hb hK hP hD hS g18 d_Wl_postPair_63 (fun H locs hP hD hS => ?_)
        refine x_aload_n hx hb d_Wl_postPair_64 rfl (lv_at hl 2 rfl) ?_
        obtain ⟨j19, ej19, hf⟩ := bo_some hf
        rw [ej19]
        obtain ⟨r20, g20, hf⟩ := bo_some hf
        refine xg_R (i := j19) (k := 2) hx hb ht hown ck_Pr hK hP (by decide) fk_Wl_104 g20 d_Wl_postPair_65 ?_
        refine lv_iload_n hx hb d_Wl_postPair_68 rfl (lv_at hl 0 rfl) ?_
        refine lv_iconst (v := 2) hx hb d_Wl_postPair_69 (by decide) ?_
        refine lv_iadd hx hb d_Wl_postPair_70 ?_
        refine lv_iconst (v := 4) hx hb d_Wl_postPair_71 (by decide) ?_
        refine x_aload_n hx hb d_Wl_postPair_72 rfl (lv_at hl 2 rfl) ?_
        obtain ⟨j21, ej21, hf⟩ := bo_some hf
        rw [ej21]
        obtain ⟨r22, g22, hf⟩ := bo_some hf
        refine xg_I (i := j21) (k := 0) hx hb ht hown ck_Pr hK hP (by decide) fk_Wl_145 g22 d_Wl_postPair_73 ?_
        obtain ⟨u23, r23, hc23, hf⟩ := bx_some hf
        refine xS0 (As := [.int 4, .int r22]) (rest := [.int (r8 + 2), va_rf (Option.map ad r20)]) C0 hP hD hS (c_Te_make N hc23) k_Te_make (wd_of 1739 (by decide +kernel) rfl) ht_Te_make hini_Te rfl rfl hd_Te_make rfl rm_Wl_postPair_Te_make hl.1 (c8 (Nat.le_of_ble_eq_true rfl)) d_Wl_postPair_76 rfl ⟨Nat.zero_le _, Nat.zero_le _⟩ (fun H locs hP hD hS => ?_)
        obtain ⟨j24, ej24, hf⟩ := bo_some hf
        rw [ej24]
        obtain ⟨w25, g25, hf⟩ := bo_some hf
        refine xs_J (i := j24) hx hb hK hP hD hS g25 d_Wl_postPair_79 (fun H locs hP hD hS => ?_)
        refine x_aload_n hx hb d_Wl_postPair_80 rfl (lv_at hl 2 rfl) ?_
        refine lv_dup hx hb d_Wl_postPair_81 (cat_rf _) ?_
        obtain ⟨j26, ej26, hf⟩ := bo_some hf
        rw [ej26]
        obtain ⟨r27, g27, hf⟩ := bo_some hf
        refine xg_I (i := j26) (k := 4) hx hb ht hown ck_Pr hK hP (by decide) fk_Wl_130 g27 d_Wl_postPair_82 ?_
        refine lv_iconst (v := 3) hx hb d_Wl_postPair_85 (by decide) ?_
        refine lv_iadd hx hb d_Wl_postPair_86 ?_
        obtain ⟨w28, g28, hf⟩ := bo_some hf
        refine xp (i := j26) (k := 4) (v := (.inl (r27 + 3))) hx hb ht hown ck_Pr hK hP hD hS (by decide) fk_Wl_130 rfl g28 rfl rfl d_Wl_postPair_87 (fun H locs hP hD hS => ?_)
        refine x_aload_n hx hb d_Wl_postPair_90 rfl (lv_at hl 2 rfl) ?_
        refine lv_iconst (v := 5) hx hb d_Wl_postPair_91 (by decide) ?_
        refine lv_iload_n hx hb d_Wl_postPair_92 rfl (lv_at hl 0 rfl) ?_
        obtain ⟨u29, r29, hc29, hf⟩ := bx_some hf
        refine xS0 (As := [.int 5, .int r8]) (rest := [va_rf (Option.map ad v1)]) C0 hP hD hS (c_Te_make N hc29) k_Te_make (wd_of 1739 (by decide +kernel) rfl) ht_Te_make hini_Te rfl rfl hd_Te_make rfl rm_Wl_postPair_Te_make hl.1 (c8 (Nat.le_of_ble_eq_true rfl)) d_Wl_postPair_93 rfl ⟨Nat.zero_le _, Nat.zero_le _⟩ (fun H locs hP hD hS => ?_)
        obtain ⟨j31, ej31, hf⟩ := bo_some hf
        rw [ej31]
        obtain ⟨hO9, hf⟩ := ck_some hf
        obtain ⟨u30, r30, hc30, hf⟩ := bx_some hf
        refine xV0 (i := j31) (As := [.long r29]) (rest := []) C0 hP hD hS ck_Pr hO9 (c_Pr_comes N hc30) k_Pr_comes (wd_of 1819 (by decide +kernel) rfl) hi_Pr_comes hs_Pr_comes hini_Pr rfl rfl hd_Pr_comes rfl rm_Wl_postPair_Pr_comes hl.1 (Nat.le_of_ble_eq_true rfl) d_Wl_postPair_96 rfl ⟨Nat.zero_le _, Nat.zero_le _⟩ (fun H locs hP hD hS => ?_)
        exact xr0_v C0 hP hD hS hf d_Wl_postPair_99
      · rw [br_p _ hc] at hf
        refine lv_aload_n hx hb d_Wl_postPair_26 rfl (lv_at hl 0 rfl) ?_
        refine x_aload_n hx hb d_Wl_postPair_27 rfl (lv_at hl 1 rfl) ?_
        refine lv_bipush (v := 20) hx hb d_Wl_postPair_28 (by decide) ?_
        obtain ⟨hO9, hf⟩ := ck_some hf
        obtain ⟨u32, r32, hc32, hf⟩ := bx_some hf
        refine xV0 (i := v0) (As := [va_rf (Option.map ad v1), .int 20]) (rest := []) C0 hP hD hS ck_Wl hO9 (c_Wl_endsBy N hc32) k_Wl_endsBy (wd_of 1816 (by decide +kernel) rfl) hi_Wl_endsBy hs_Wl_endsBy hini_Wl rfl rfl hd_Wl_endsBy rfl rm_Wl_postPair_Wl_endsBy hl.1 (Nat.le_of_ble_eq_true rfl) d_Wl_postPair_30 rfl ⟨Nat.zero_le _, Nat.zero_le _⟩ (fun H locs hP hD hS => ?_)
        exact xr0_v C0 hP hD hS hf d_Wl_postPair_33
    · rw [br_n _ hc] at hf
      exact wb_Wl_postPair_17 C0 hE N G hG _ _ hf H locs hP hD hS ls (lv_sub hl [] rfl)
def fm_Wl_postPair (N : Nat) (u : CS) (v0 : Nat) (v1 : Option Nat) (v2 : Int32) : Option (CS × Unit) := fb_Wl_postPair_0 N () u v0 v1 v2
set_option maxRecDepth 100000 in
set_option maxHeartbeats 4000000 in
theorem c_Wl_postPair (N : Nat) {l : Launch} {s0 : State} {b0 : Nat} {D : va_G} {cB cI cJ cZ cS cP : ClassId} {sk sv : Nat → Nat} {ad : Nat → Nat} {u : CS} {sz : Nat} {v0 : Nat} {v1 : Option Nat} {v2 : Int32} {x : CS × Unit} (hE : ENV s0 b0 sk sv) (hf : fm_Wl_postPair N u v0 v1 v2 = some x) : Met l y_Wl_postPair (wd_ws y_Wl_postPair b_Wl_postPair 4 none) rm_Wl_postPair (xPc s0 b0 D cB cI cJ cZ cS cP ad u sz [.ref (ad v0), va_rf (Option.map ad v1), .int v2]) (xQ0 D cB cI cJ cZ cS cP (xA cB cI cJ cZ cS cP ad u sz) ad x.1 none) 0 0 (xA cB cI cJ cZ cS cP ad u sz) :=
  xMet (by decide) rfl (by cases v1 <;> exact Nat.le_of_ble_eq_true rfl) (fun p e s m below meth c ls hsz hnm C0 hP hD hS hl =>
    wb_Wl_postPair_0 C0 hE N () trivial u _ _ _ x hf s.heap [] hP hD hS ls (by rw [show lv_args 0 [.ref (ad v0), va_rf (Option.map ad v1), .int v2] = [(0, .ref (ad v0)), (1, va_rf (Option.map ad v1)), (2, .int v2)] from by cases v1 <;> rfl] at hl; exact lv_sub hl [0, 1, 2] rfl))
abbrev b_H_send : ByteArray := prog_1_method_12_code
def y_H_send : MethodName := ⟨R_H, "send", "(III)V"⟩
def w_H_send : List Cond := wd_ws y_H_send b_H_send 6 none
set_option maxRecDepth 100000 in
theorem k_H_send : Cond.code y_H_send b_H_send 6 none ∈ wd_tbl := wd_of 2083 rfl rfl
theorem d_H_send_0 : decode b_H_send 0 = .ok (.aload_n 0, 1) := by decide +kernel
theorem d_H_send_1 : decode b_H_send 1 = .ok (.getfield 69, 3) := by decide +kernel
theorem d_H_send_4 : decode b_H_send 4 = .ok (.iload_n 1, 1) := by decide +kernel
theorem d_H_send_5 : decode b_H_send 5 = .ok (.invokevirtual 193, 3) := by decide +kernel
theorem d_H_send_8 : decode b_H_send 8 = .ok (.astore 4, 2) := by decide +kernel
theorem d_H_send_10 : decode b_H_send 10 = .ok (.aload 4, 2) := by decide +kernel
theorem d_H_send_12 : decode b_H_send 12 = .ok (.ifnull 23, 3) := by decide +kernel
theorem d_H_send_15 : decode b_H_send 15 = .ok (.iload_n 2, 1) := by decide +kernel
theorem d_H_send_16 : decode b_H_send 16 = .ok (.iconst 1, 1) := by decide +kernel
theorem d_H_send_17 : decode b_H_send 17 = .ok (.if_icmp .ne 28, 3) := by decide +kernel
theorem d_H_send_20 : decode b_H_send 20 = .ok (.iload_n 3, 1) := by decide +kernel
theorem d_H_send_21 : decode b_H_send 21 = .ok (.ifCond .lt 14, 3) := by decide +kernel
theorem d_H_send_24 : decode b_H_send 24 = .ok (.iload_n 3, 1) := by decide +kernel
theorem d_H_send_25 : decode b_H_send 25 = .ok (.aload_n 0, 1) := by decide +kernel
theorem d_H_send_26 : decode b_H_send 26 = .ok (.getfield 16, 3) := by decide +kernel
theorem d_H_send_29 : decode b_H_send 29 = .ok (.getfield 117, 3) := by decide +kernel
theorem d_H_send_32 : decode b_H_send 32 = .ok (.if_icmp .lt 13, 3) := by decide +kernel
theorem d_H_send_35 : decode b_H_send 35 = .ok (.new 159, 3) := by decide +kernel
theorem d_H_send_38 : decode b_H_send 38 = .ok (.dup, 1) := by decide +kernel
theorem d_H_send_39 : decode b_H_send 39 = .ok (.ldc 217, 2) := by decide +kernel
theorem d_H_send_41 : decode b_H_send 41 = .ok (.invokespecial 163, 3) := by decide +kernel
theorem d_H_send_44 : decode b_H_send 44 = .ok (.athrow, 1) := by decide +kernel
theorem d_H_send_45 : decode b_H_send 45 = .ok (.iload_n 2, 1) := by decide +kernel
theorem d_H_send_46 : decode b_H_send 46 = .ok (.ifCond .lt 8, 3) := by decide +kernel
theorem d_H_send_49 : decode b_H_send 49 = .ok (.iload_n 2, 1) := by decide +kernel
theorem d_H_send_50 : decode b_H_send 50 = .ok (.iconst 2, 1) := by decide +kernel
theorem d_H_send_51 : decode b_H_send 51 = .ok (.if_icmp .le 13, 3) := by decide +kernel
theorem d_H_send_54 : decode b_H_send 54 = .ok (.new 164, 3) := by decide +kernel
theorem d_H_send_57 : decode b_H_send 57 = .ok (.dup, 1) := by decide +kernel
theorem d_H_send_58 : decode b_H_send 58 = .ok (.ldc 219, 2) := by decide +kernel
theorem d_H_send_60 : decode b_H_send 60 = .ok (.invokespecial 168, 3) := by decide +kernel
theorem d_H_send_63 : decode b_H_send 63 = .ok (.athrow, 1) := by decide +kernel
theorem d_H_send_64 : decode b_H_send 64 = .ok (.iload_n 2, 1) := by decide +kernel
theorem d_H_send_65 : decode b_H_send 65 = .ok (.iconst 2, 1) := by decide +kernel
theorem d_H_send_66 : decode b_H_send 66 = .ok (.if_icmp .ne 16, 3) := by decide +kernel
theorem d_H_send_69 : decode b_H_send 69 = .ok (.aload_n 0, 1) := by decide +kernel
theorem d_H_send_70 : decode b_H_send 70 = .ok (.getfield 69, 3) := by decide +kernel
theorem d_H_send_73 : decode b_H_send 73 = .ok (.aload 4, 2) := by decide +kernel
theorem d_H_send_75 : decode b_H_send 75 = .ok (.iload_n 3, 1) := by decide +kernel
theorem d_H_send_76 : decode b_H_send 76 = .ok (.invokevirtual 221, 3) := by decide +kernel
theorem d_H_send_79 : decode b_H_send 79 = .ok (.goto 33, 3) := by decide +kernel
theorem d_H_send_82 : decode b_H_send 82 = .ok (.iload_n 2, 1) := by decide +kernel
theorem d_H_send_83 : decode b_H_send 83 = .ok (.ifCond .ne 7, 3) := by decide +kernel
theorem d_H_send_86 : decode b_H_send 86 = .ok (.iconst 0, 1) := by decide +kernel
theorem d_H_send_87 : decode b_H_send 87 = .ok (.goto 4, 3) := by decide +kernel
theorem d_H_send_90 : decode b_H_send 90 = .ok (.iconst 1, 1) := by decide +kernel
theorem d_H_send_91 : decode b_H_send 91 = .ok (.istore 5, 2) := by decide +kernel
theorem d_H_send_93 : decode b_H_send 93 = .ok (.aload_n 0, 1) := by decide +kernel
theorem d_H_send_94 : decode b_H_send 94 = .ok (.getfield 69, 3) := by decide +kernel
theorem d_H_send_97 : decode b_H_send 97 = .ok (.aload 4, 2) := by decide +kernel
theorem d_H_send_99 : decode b_H_send 99 = .ok (.iconst 0, 1) := by decide +kernel
theorem d_H_send_100 : decode b_H_send 100 = .ok (.iconst 0, 1) := by decide +kernel
theorem d_H_send_101 : decode b_H_send 101 = .ok (.iconst 0, 1) := by decide +kernel
theorem d_H_send_102 : decode b_H_send 102 = .ok (.iload 5, 2) := by decide +kernel
theorem d_H_send_104 : decode b_H_send 104 = .ok (.iload_n 3, 1) := by decide +kernel
theorem d_H_send_105 : decode b_H_send 105 = .ok (.invokestatic 225, 3) := by decide +kernel
theorem d_H_send_108 : decode b_H_send 108 = .ok (.aconst_null, 1) := by decide +kernel
theorem d_H_send_109 : decode b_H_send 109 = .ok (.invokevirtual 229, 3) := by decide +kernel
theorem d_H_send_112 : decode b_H_send 112 = .ok (.aload_n 0, 1) := by decide +kernel
theorem d_H_send_113 : decode b_H_send 113 = .ok (.getfield 69, 3) := by decide +kernel
theorem d_H_send_116 : decode b_H_send 116 = .ok (.invokevirtual 233, 3) := by decide +kernel
theorem d_H_send_119 : decode b_H_send 119 = .ok (.return_, 1) := by decide +kernel
set_option maxRecDepth 100000 in
theorem hi_H_send : Cond.instanceMethod y_H_send ∈ wd_tbl := wd_of 2081 (by decide +kernel) rfl
set_option maxRecDepth 100000 in
theorem hs_H_send : Cond.selects R_H y_H_send y_H_send ∈ wd_tbl := wd_of 2082 (by decide +kernel) rfl
theorem hd_H_send : y_H_send.cls = R_H ∧ y_H_send.cls ≠ "java/lang/invoke/MethodHandle" ∧ y_H_send.cls ≠ "java/lang/invoke/VarHandle" ∧ (parseMethodDescriptor y_H_send.desc).map (fun d => d.parameters.length) = some 3 := by decide +kernel
def rm_H_send (mc ms : Nat) : Room := { frames := 6, cells := mc, slots := ms, locals := 179 }
theorem rm_H_send_Wl_find {x : CS × (Unit ⊕ Nat)} : (rm_Wl_find).frames + 1 ≤ (rm_H_send (tc x.2) (tsl x.2)).frames ∧ 8 + (2 + 11) + (rm_Wl_find).locals ≤ (rm_H_send (tc x.2) (tsl x.2)).locals := by
  show 0 + 1 ≤ 6 ∧ 8 + (2 + 11) + 0 ≤ 179
  decide
theorem rm_H_send_Wl_postPair {x : CS × (Unit ⊕ Nat)} : (rm_Wl_postPair).frames + 1 ≤ (rm_H_send (tc x.2) (tsl x.2)).frames ∧ 8 + (4 + 11) + (rm_Wl_postPair).locals ≤ (rm_H_send (tc x.2) (tsl x.2)).locals := by
  show 3 + 1 ≤ 6 ∧ 8 + (4 + 11) + 97 ≤ 179
  decide
theorem rm_H_send_Te_make {x : CS × (Unit ⊕ Nat)} : (rm_Te_make).frames + 1 ≤ (rm_H_send (tc x.2) (tsl x.2)).frames ∧ 8 + (2 + 11) + (rm_Te_make).locals ≤ (rm_H_send (tc x.2) (tsl x.2)).locals := by
  show 0 + 1 ≤ 6 ∧ 8 + (2 + 11) + 0 ≤ 179
  decide
theorem rm_H_send_Wl_post {x : CS × (Unit ⊕ Nat)} : (rm_Wl_post).frames + 1 ≤ (rm_H_send (tc x.2) (tsl x.2)).frames ∧ 8 + (14 + 11) + (rm_Wl_post).locals ≤ (rm_H_send (tc x.2) (tsl x.2)).locals := by
  show 3 + 1 ≤ 6 ∧ 8 + (14 + 11) + 97 ≤ 179
  decide
theorem rm_H_send_Wl_settle {x : CS × (Unit ⊕ Nat)} : (rm_Wl_settle).frames + 1 ≤ (rm_H_send (tc x.2) (tsl x.2)).frames ∧ 8 + (4 + 11) + (rm_Wl_settle).locals ≤ (rm_H_send (tc x.2) (tsl x.2)).locals := by
  show 5 + 1 ≤ 6 ∧ 8 + (4 + 11) + 156 ≤ 179
  decide
def fb_H_send_112 (N : Nat) (G : Unit) (u : CS) (v0 : Nat) : Option (CS × (Unit ⊕ Nat)) := bo (gR u v0 1 6) (fun r1 => bo r1 (fun j3 => ck (isO u j3 12) (bx (fm_Wl_settle N u j3) (fun u2 r2 => some (u2, .inl ())))))
set_option maxRecDepth 100000 in
set_option maxHeartbeats 4000000 in
theorem wb_H_send_112 {p : Program} {l : Launch} {e : Env} {s : State} {m : MethodId} {args : Array Value} {below : List Frame} {meth : Method} {c : Code} {s0 : State} {b0 : Nat} {D : va_G} {cB cI cJ cZ cS cP : ClassId} {A : Nat → Prop} {sk sv : Nat → Nat} {ad : Nat → Nat} (C0 : XCx p s s0 b0 m args meth c R_H b_H_send 6 none D cB cI cJ cZ cS cP A) (hE : ENV s0 b0 sk sv) (hno : c.exceptionTable.isEmpty = true) (hL : l.stackTraces = false) (N : Nat) (G : Unit) (hG : True) : ∀ (u : CS) (v0 : Nat) (x : CS × (Unit ⊕ Nat)), fb_H_send_112 N G u v0 = some x → ∀ (H : Heap) (locs : List Loc), va_P D cls (wC cB cI cJ cZ cS cP ad u) H → va_D A (wC cB cI cJ cZ cS cP ad u) → va_S A s.heap H locs → ∀ (ls : Array Slot), lv_has ls 6 [(0, .ref (ad v0))] → W p l e (rm_H_send (tc x.2) (tsl x.2)) s m args below meth c H locs 0 0 (MQX below (xQx D cB cI cJ cZ cS cP A ad (fun _ => none) x) args s (tc x.2) (tsl x.2) A) (F0 m 112 ls []) := by
  intro u v0 x hf H locs hP hD hS ls hl
  obtain ⟨hx, hb, hr, hml, ht, hown, hK, hA, hlocks, hA0, hO, hbs⟩ := id C0
  unfold fb_H_send_112 at hf
  refine lv_aload_n hx hb d_H_send_112 rfl (lv_at hl 0 rfl) ?_
  obtain ⟨r1, g1, hf⟩ := bo_some hf
  refine xg_R (i := v0) (k := 6) hx hb ht hown ck_H hK hP (by decide) fk_H_69 g1 d_H_send_113 ?_
  obtain ⟨j3, ej3, hf⟩ := bo_some hf
  rw [ej3]
  obtain ⟨hO9, hf⟩ := ck_some hf
  obtain ⟨u2, r2, hc2, hf⟩ := bx_some hf
  refine xV0 (i := j3) (As := []) (rest := []) C0 hP hD hS ck_Wl hO9 (c_Wl_settle N hE hc2) k_Wl_settle (wd_of 2092 (by decide +kernel) rfl) hi_Wl_settle hs_Wl_settle hini_Wl rfl rfl hd_Wl_settle rfl rm_H_send_Wl_settle hl.1 (Nat.le_of_ble_eq_true rfl) d_H_send_116 rfl ⟨Nat.zero_le _, Nat.zero_le _⟩ (fun H locs hP hD hS => ?_)
  exact xt_v C0 hP hD hS hf d_H_send_119
def fb_H_send_91 (N : Nat) (G : Unit) (u : CS) (v0 : Nat) (v3 : Int32) (v4 : Option Nat) (t0 : Int32) : Option (CS × (Unit ⊕ Nat)) := bo (gR u v0 1 6) (fun r4 => bx (fm_Te_make N u t0 v3) (fun u5 r5 => bo r4 (fun j7 => ck (isO u5 j7 12) (bx (fm_Wl_post N u5 j7 v4 0 0 0 r5 none) (fun u6 r6 => fb_H_send_112 N G u6 (v0))))))
set_option maxRecDepth 100000 in
set_option maxHeartbeats 4000000 in
theorem wb_H_send_91 {p : Program} {l : Launch} {e : Env} {s : State} {m : MethodId} {args : Array Value} {below : List Frame} {meth : Method} {c : Code} {s0 : State} {b0 : Nat} {D : va_G} {cB cI cJ cZ cS cP : ClassId} {A : Nat → Prop} {sk sv : Nat → Nat} {ad : Nat → Nat} (C0 : XCx p s s0 b0 m args meth c R_H b_H_send 6 none D cB cI cJ cZ cS cP A) (hE : ENV s0 b0 sk sv) (hno : c.exceptionTable.isEmpty = true) (hL : l.stackTraces = false) (N : Nat) (G : Unit) (hG : True) : ∀ (u : CS) (v0 : Nat) (v3 : Int32) (v4 : Option Nat) (t0 : Int32) (x : CS × (Unit ⊕ Nat)), fb_H_send_91 N G u v0 v3 v4 t0 = some x → ∀ (H : Heap) (locs : List Loc), va_P D cls (wC cB cI cJ cZ cS cP ad u) H → va_D A (wC cB cI cJ cZ cS cP ad u) → va_S A s.heap H locs → ∀ (ls : Array Slot), lv_has ls 6 [(0, .ref (ad v0)), (3, .int v3), (4, va_rf (Option.map ad v4))] → W p l e (rm_H_send (tc x.2) (tsl x.2)) s m args below meth c H locs 0 0 (MQX below (xQx D cB cI cJ cZ cS cP A ad (fun _ => none) x) args s (tc x.2) (tsl x.2) A) (F0 m 91 ls [.int t0]) := by
  intro u v0 v3 v4 t0 x hf H locs hP hD hS ls hl
  obtain ⟨hx, hb, hr, hml, ht, hown, hK, hA, hlocks, hA0, hO, hbs⟩ := id C0
  unfold fb_H_send_91 at hf
  refine lv_istore (lv' := [(5, .int t0), (0, .ref (ad v0)), (3, .int v3), (4, va_rf (Option.map ad v4))]) hx hb d_H_send_91 hl (by decide) (by first | rfl | simp [List.filter, cat_rf]) (fun ls hl => ?_)
  refine lv_aload_n hx hb d_H_send_93 rfl (lv_at hl 1 rfl) ?_
  obtain ⟨r4, g4, hf⟩ := bo_some hf
  refine xg_R (i := v0) (k := 6) hx hb ht hown ck_H hK hP (by decide) fk_H_69 g4 d_H_send_94 ?_
  refine x_aload hx hb d_H_send_97 (lv_at hl 3 rfl) ?_
  refine lv_iconst (v := 0) hx hb d_H_send_99 (by decide) ?_
  refine lv_iconst (v := 0) hx hb d_H_send_100 (by decide) ?_
  refine lv_iconst (v := 0) hx hb d_H_send_101 (by decide) ?_
  refine lv_iload hx hb d_H_send_102 (lv_at hl 0 rfl) ?_
  refine lv_iload_n hx hb d_H_send_104 rfl (lv_at hl 2 rfl) ?_
  obtain ⟨u5, r5, hc5, hf⟩ := bx_some hf
  refine xS0 (As := [.int t0, .int v3]) (rest := [.int 0, .int 0, .int 0, va_rf (Option.map ad v4), va_rf (Option.map ad r4)]) C0 hP hD hS (c_Te_make N hc5) k_Te_make (wd_of 2090 (by decide +kernel) rfl) ht_Te_make hini_Te rfl rfl hd_Te_make rfl rm_H_send_Te_make hl.1 (by simp only [List.map_cons, List.map_nil, cat_rf]; exact Nat.le_of_ble_eq_true rfl) d_H_send_105 rfl ⟨Nat.zero_le _, Nat.zero_le _⟩ (fun H locs hP hD hS => ?_)
  refine lv_null hx hb d_H_send_108 ?_
  obtain ⟨j7, ej7, hf⟩ := bo_some hf
  rw [ej7]
  obtain ⟨hO9, hf⟩ := ck_some hf
  obtain ⟨u6, r6, hc6, hf⟩ := bx_some hf
  refine xV0 (i := j7) (As := [va_rf (Option.map ad v4), .int 0, .int 0, .int 0, .long r5, va_rf (Option.map ad none)]) (rest := []) C0 hP hD hS ck_Wl hO9 (c_Wl_post N hE hc6) k_Wl_post (wd_of 2091 (by decide +kernel) rfl) hi_Wl_post hs_Wl_post hini_Wl rfl rfl hd_Wl_post rfl rm_H_send_Wl_post hl.1 (Nat.le_of_ble_eq_true rfl) d_H_send_109 rfl ⟨Nat.zero_le _, Nat.zero_le _⟩ (fun H locs hP hD hS => ?_)
  exact wb_H_send_112 C0 hE hno hL N G hG _ _ _ hf H locs hP hD hS ls (lv_sub hl [1] rfl)
def fb_H_send_54 (N : Nat) (G : Unit) (u : CS) : Option (CS × (Unit ⊕ Nat)) := some (u, .inr 2)
set_option maxRecDepth 100000 in
set_option maxHeartbeats 4000000 in
theorem wb_H_send_54 {p : Program} {l : Launch} {e : Env} {s : State} {m : MethodId} {args : Array Value} {below : List Frame} {meth : Method} {c : Code} {s0 : State} {b0 : Nat} {D : va_G} {cB cI cJ cZ cS cP : ClassId} {A : Nat → Prop} {sk sv : Nat → Nat} {ad : Nat → Nat} (C0 : XCx p s s0 b0 m args meth c R_H b_H_send 6 none D cB cI cJ cZ cS cP A) (hE : ENV s0 b0 sk sv) (hno : c.exceptionTable.isEmpty = true) (hL : l.stackTraces = false) (N : Nat) (G : Unit) (hG : True) : ∀ (u : CS) (x : CS × (Unit ⊕ Nat)), fb_H_send_54 N G u = some x → ∀ (H : Heap) (locs : List Loc), va_P D cls (wC cB cI cJ cZ cS cP ad u) H → va_D A (wC cB cI cJ cZ cS cP ad u) → va_S A s.heap H locs → ∀ (ls : Array Slot), lv_has ls 6 [] → W p l e (rm_H_send (tc x.2) (tsl x.2)) s m args below meth c H locs 0 0 (MQX below (xQx D cB cI cJ cZ cS cP A ad (fun _ => none) x) args s (tc x.2) (tsl x.2) A) (F0 m 54 ls []) := by
  intro u x hf H locs hP hD hS ls hl
  obtain ⟨hx, hb, hr, hml, ht, hown, hK, hA, hlocks, hA0, hO, hbs⟩ := id C0
  unfold fb_H_send_54 at hf
  cases hf
  obtain ⟨⟨a0, hT0⟩, hb0, hV, hRR, hZZ⟩ := id hE
  exact xt_throw (k := 2) (names := exUp) C0 hP hD hS hL hT0 hb0 rx7_0 rx7_1 rx7_2 rx7_5 oa_H_168_2 (lw_of 1439 (by decide +kernel)) (lw_of 1440 (by decide +kernel)) (lw_of 289 (by decide +kernel)) (by decide) (by decide) (hRR 16 _ rfl) (out_none hno _) (Nat.le_of_ble_eq_true rfl) (Nat.le_of_ble_eq_true rfl) (Nat.le_of_ble_eq_true rfl) (Nat.le_of_ble_eq_true rfl) hl.1 d_H_send_54 d_H_send_57 d_H_send_58 d_H_send_60 d_H_send_63
def fb_H_send_45 (N : Nat) (G : Unit) (u : CS) (v0 : Nat) (v2 : Int32) (v3 : Int32) (v4 : Option Nat) : Option (CS × (Unit ⊕ Nat)) := br (decide (v2 < 0)) (fb_H_send_54 N G u) (br (decide (v2 ≤ 2)) (br (decide (v2 = 2)) (bo (gR u v0 1 6) (fun r8 => bo r8 (fun j10 => ck (isO u j10 12) (bx (fm_Wl_postPair N u j10 v4 v3) (fun u9 r9 => fb_H_send_112 N G u9 (v0)))))) (br (decide (v2 = 0)) (fb_H_send_91 N G u (v0) (v3) (v4) (0)) (fb_H_send_91 N G u (v0) (v3) (v4) (1)))) (fb_H_send_54 N G u))
set_option maxRecDepth 100000 in
set_option maxHeartbeats 4000000 in
theorem wb_H_send_45 {p : Program} {l : Launch} {e : Env} {s : State} {m : MethodId} {args : Array Value} {below : List Frame} {meth : Method} {c : Code} {s0 : State} {b0 : Nat} {D : va_G} {cB cI cJ cZ cS cP : ClassId} {A : Nat → Prop} {sk sv : Nat → Nat} {ad : Nat → Nat} (C0 : XCx p s s0 b0 m args meth c R_H b_H_send 6 none D cB cI cJ cZ cS cP A) (hE : ENV s0 b0 sk sv) (hno : c.exceptionTable.isEmpty = true) (hL : l.stackTraces = false) (N : Nat) (G : Unit) (hG : True) : ∀ (u : CS) (v0 : Nat) (v2 : Int32) (v3 : Int32) (v4 : Option Nat) (x : CS × (Unit ⊕ Nat)), fb_H_send_45 N G u v0 v2 v3 v4 = some x → ∀ (H : Heap) (locs : List Loc), va_P D cls (wC cB cI cJ cZ cS cP ad u) H → va_D A (wC cB cI cJ cZ cS cP ad u) → va_S A s.heap H locs → ∀ (ls : Array Slot), lv_has ls 6 [(0, .ref (ad v0)), (2, .int v2), (3, .int v3), (4, va_rf (Option.map ad v4))] → W p l e (rm_H_send (tc x.2) (tsl x.2)) s m args below meth c H locs 0 0 (MQX below (xQx D cB cI cJ cZ cS cP A ad (fun _ => none) x) args s (tc x.2) (tsl x.2) A) (F0 m 45 ls []) := by
  intro u v0 v2 v3 v4 x hf H locs hP hD hS ls hl
  obtain ⟨hx, hb, hr, hml, ht, hown, hK, hA, hlocks, hA0, hO, hbs⟩ := id C0
  unfold fb_H_send_45 at hf
  refine lv_iload_n hx hb d_H_send_45 rfl (lv_at hl 1 rfl) ?_
  refine lv_if_lt (tgt := 54) hx hb d_H_send_46 (by decide) (fun hc => ?_) (fun hc => ?_)
  · rw [br_p _ hc] at hf
    exact wb_H_send_54 C0 hE hno hL N G hG _ _ hf H locs hP hD hS ls (lv_sub hl [] rfl)
  · rw [br_n _ hc] at hf
    refine lv_iload_n hx hb d_H_send_49 rfl (lv_at hl 1 rfl) ?_
    refine lv_iconst (v := 2) hx hb d_H_send_50 (by decide) ?_
    refine lv_icmp_le (tgt := 64) hx hb d_H_send_51 (by decide) (fun hc => ?_) (fun hc => ?_)
    · rw [br_p _ hc] at hf
      refine lv_iload_n hx hb d_H_send_64 rfl (lv_at hl 1 rfl) ?_
      refine lv_iconst (v := 2) hx hb d_H_send_65 (by decide) ?_
      refine lv_icmp_ne (tgt := 82) hx hb d_H_send_66 (by decide) (fun hc => ?_) (fun hc => ?_)
      · rw [br_n _ hc] at hf
        refine lv_iload_n hx hb d_H_send_82 rfl (lv_at hl 1 rfl) ?_
        refine lv_if_ne (tgt := 90) hx hb d_H_send_83 (by decide) (fun hc => ?_) (fun hc => ?_)
        · rw [br_n _ hc] at hf
          refine lv_iconst (v := 1) hx hb d_H_send_90 (by decide) ?_
          exact wb_H_send_91 C0 hE hno hL N G hG _ _ _ _ _ _ hf H locs hP hD hS ls (lv_sub hl [0, 2, 3] rfl)
        · rw [br_p _ hc] at hf
          refine lv_iconst (v := 0) hx hb d_H_send_86 (by decide) ?_
          refine lv_goto (tgt := 91) hx hb d_H_send_87 (by decide) ?_
          exact wb_H_send_91 C0 hE hno hL N G hG _ _ _ _ _ _ hf H locs hP hD hS ls (lv_sub hl [0, 2, 3] rfl)
      · rw [br_p _ hc] at hf
        refine lv_aload_n hx hb d_H_send_69 rfl (lv_at hl 0 rfl) ?_
        obtain ⟨r8, g8, hf⟩ := bo_some hf
        refine xg_R (i := v0) (k := 6) hx hb ht hown ck_H hK hP (by decide) fk_H_69 g8 d_H_send_70 ?_
        refine x_aload hx hb d_H_send_73 (lv_at hl 3 rfl) ?_
        refine lv_iload_n hx hb d_H_send_75 rfl (lv_at hl 2 rfl) ?_
        obtain ⟨j10, ej10, hf⟩ := bo_some hf
        rw [ej10]
        obtain ⟨hO9, hf⟩ := ck_some hf
        obtain ⟨u9, r9, hc9, hf⟩ := bx_some hf
        refine xV0 (i := j10) (As := [va_rf (Option.map ad v4), .int v3]) (rest := []) C0 hP hD hS ck_Wl hO9 (c_Wl_postPair N hE hc9) k_Wl_postPair (wd_of 2086 (by decide +kernel) rfl) hi_Wl_postPair hs_Wl_postPair hini_Wl rfl rfl hd_Wl_postPair rfl rm_H_send_Wl_postPair hl.1 (Nat.le_of_ble_eq_true rfl) d_H_send_76 rfl ⟨Nat.zero_le _, Nat.zero_le _⟩ (fun H locs hP hD hS => ?_)
        refine lv_goto (tgt := 112) hx hb d_H_send_79 (by decide) ?_
        exact wb_H_send_112 C0 hE hno hL N G hG _ _ _ hf H locs hP hD hS ls (lv_sub hl [0] rfl)
    · rw [br_n _ hc] at hf
      exact wb_H_send_54 C0 hE hno hL N G hG _ _ hf H locs hP hD hS ls (lv_sub hl [] rfl)
def fb_H_send_35 (N : Nat) (G : Unit) (u : CS) : Option (CS × (Unit ⊕ Nat)) := some (u, .inr 1)
set_option maxRecDepth 100000 in
set_option maxHeartbeats 4000000 in
theorem wb_H_send_35 {p : Program} {l : Launch} {e : Env} {s : State} {m : MethodId} {args : Array Value} {below : List Frame} {meth : Method} {c : Code} {s0 : State} {b0 : Nat} {D : va_G} {cB cI cJ cZ cS cP : ClassId} {A : Nat → Prop} {sk sv : Nat → Nat} {ad : Nat → Nat} (C0 : XCx p s s0 b0 m args meth c R_H b_H_send 6 none D cB cI cJ cZ cS cP A) (hE : ENV s0 b0 sk sv) (hno : c.exceptionTable.isEmpty = true) (hL : l.stackTraces = false) (N : Nat) (G : Unit) (hG : True) : ∀ (u : CS) (x : CS × (Unit ⊕ Nat)), fb_H_send_35 N G u = some x → ∀ (H : Heap) (locs : List Loc), va_P D cls (wC cB cI cJ cZ cS cP ad u) H → va_D A (wC cB cI cJ cZ cS cP ad u) → va_S A s.heap H locs → ∀ (ls : Array Slot), lv_has ls 6 [] → W p l e (rm_H_send (tc x.2) (tsl x.2)) s m args below meth c H locs 0 0 (MQX below (xQx D cB cI cJ cZ cS cP A ad (fun _ => none) x) args s (tc x.2) (tsl x.2) A) (F0 m 35 ls []) := by
  intro u x hf H locs hP hD hS ls hl
  obtain ⟨hx, hb, hr, hml, ht, hown, hK, hA, hlocks, hA0, hO, hbs⟩ := id C0
  unfold fb_H_send_35 at hf
  cases hf
  obtain ⟨⟨a0, hT0⟩, hb0, hV, hRR, hZZ⟩ := id hE
  exact xt_throw (k := 1) (names := exUp) C0 hP hD hS hL hT0 hb0 rx13_0 rx13_1 rx13_2 rx13_5 oa_H_163_1 (lw_of 1423 (by decide +kernel)) (lw_of 1424 (by decide +kernel)) (lw_of 288 (by decide +kernel)) (by decide) (by decide) (hRR 15 _ rfl) (out_none hno _) (Nat.le_of_ble_eq_true rfl) (Nat.le_of_ble_eq_true rfl) (Nat.le_of_ble_eq_true rfl) (Nat.le_of_ble_eq_true rfl) hl.1 d_H_send_35 d_H_send_38 d_H_send_39 d_H_send_41 d_H_send_44
def fb_H_send_0 (N : Nat) (G : Unit) (u : CS) (v0 : Nat) (v1 : Int32) (v2 : Int32) (v3 : Int32) : Option (CS × (Unit ⊕ Nat)) := bo (gR u v0 1 6) (fun r11 => bo r11 (fun j13 => ck (isO u j13 12) (bx (fm_Wl_find N u j13 v1) (fun u12 r12 => br (decide (r12 = none)) (fb_H_send_35 N G u12) (br (decide (v2 = 1)) (br (decide (v3 < 0)) (fb_H_send_35 N G u12) (bo (gR u12 v0 1 0) (fun r14 => bo r14 (fun j15 => bo (gI u12 j15 11 2) (fun r16 => br (decide (v3 < r16)) (fb_H_send_45 N G u12 (v0) (v2) (v3) (r12)) (fb_H_send_35 N G u12)))))) (fb_H_send_45 N G u12 (v0) (v2) (v3) (r12)))))))
set_option maxRecDepth 100000 in
set_option maxHeartbeats 4000000 in
theorem wb_H_send_0 {p : Program} {l : Launch} {e : Env} {s : State} {m : MethodId} {args : Array Value} {below : List Frame} {meth : Method} {c : Code} {s0 : State} {b0 : Nat} {D : va_G} {cB cI cJ cZ cS cP : ClassId} {A : Nat → Prop} {sk sv : Nat → Nat} {ad : Nat → Nat} (C0 : XCx p s s0 b0 m args meth c R_H b_H_send 6 none D cB cI cJ cZ cS cP A) (hE : ENV s0 b0 sk sv) (hno : c.exceptionTable.isEmpty = true) (hL : l.stackTraces = false) (N : Nat) (G : Unit) (hG : True) : ∀ (u : CS) (v0 : Nat) (v1 : Int32) (v2 : Int32) (v3 : Int32) (x : CS × (Unit ⊕ Nat)), fb_H_send_0 N G u v0 v1 v2 v3 = some x → ∀ (H : Heap) (locs : List Loc), va_P D cls (wC cB cI cJ cZ cS cP ad u) H → va_D A (wC cB cI cJ cZ cS cP ad u) → va_S A s.heap H locs → ∀ (ls : Array Slot), lv_has ls 6 [(0, .ref (ad v0)), (1, .int v1), (2, .int v2), (3, .int v3)] → W p l e (rm_H_send (tc x.2) (tsl x.2)) s m args below meth c H locs 0 0 (MQX below (xQx D cB cI cJ cZ cS cP A ad (fun _ => none) x) args s (tc x.2) (tsl x.2) A) (F0 m 0 ls []) := by
  intro u v0 v1 v2 v3 x hf H locs hP hD hS ls hl
  obtain ⟨hx, hb, hr, hml, ht, hown, hK, hA, hlocks, hA0, hO, hbs⟩ := id C0
  unfold fb_H_send_0 at hf
  refine lv_aload_n hx hb d_H_send_0 rfl (lv_at hl 0 rfl) ?_
  obtain ⟨r11, g11, hf⟩ := bo_some hf
  refine xg_R (i := v0) (k := 6) hx hb ht hown ck_H hK hP (by decide) fk_H_69 g11 d_H_send_1 ?_
  refine lv_iload_n hx hb d_H_send_4 rfl (lv_at hl 1 rfl) ?_
  obtain ⟨j13, ej13, hf⟩ := bo_some hf
  rw [ej13]
  obtain ⟨hO9, hf⟩ := ck_some hf
  obtain ⟨u12, r12, hc12, hf⟩ := bx_some hf
  refine xV0 (i := j13) (As := [.int v1]) (rest := []) C0 hP hD hS ck_Wl hO9 (c_Wl_find N hE hc12) k_Wl_find (wd_of 1296 (by decide +kernel) rfl) hi_Wl_find hs_Wl_find hini_Wl rfl rfl hd_Wl_find rfl rm_H_send_Wl_find hl.1 (Nat.le_of_ble_eq_true rfl) d_H_send_5 rfl ⟨Nat.zero_le _, Nat.zero_le _⟩ (fun H locs hP hD hS => ?_)
  refine x_astore (lv' := [(4, va_rf (Option.map ad r12)), (0, .ref (ad v0)), (1, .int v1), (2, .int v2), (3, .int v3)]) hx hb d_H_send_8 hl (by decide) (by first | rfl | simp [List.filter, cat_rf]) (fun ls hl => ?_)
  refine x_aload hx hb d_H_send_10 (lv_at hl 0 rfl) ?_
  refine x_ifnull (r := r12) (tgt := 35) hx hb d_H_send_12 (by decide) (fun hc => ?_) (fun hc => ?_)
  · rw [br_p _ hc] at hf
    exact wb_H_send_35 C0 hE hno hL N G hG _ _ hf H locs hP hD hS ls (lv_sub hl [] rfl)
  · rw [br_n _ hc] at hf
    refine lv_iload_n hx hb d_H_send_15 rfl (lv_at hl 3 rfl) ?_
    refine lv_iconst (v := 1) hx hb d_H_send_16 (by decide) ?_
    refine lv_icmp_ne (tgt := 45) hx hb d_H_send_17 (by decide) (fun hc => ?_) (fun hc => ?_)
    · rw [br_n _ hc] at hf
      exact wb_H_send_45 C0 hE hno hL N G hG _ _ _ _ _ _ hf H locs hP hD hS ls (lv_sub hl [1, 3, 4, 0] rfl)
    · rw [br_p _ hc] at hf
      refine lv_iload_n hx hb d_H_send_20 rfl (lv_at hl 4 rfl) ?_
      refine lv_if_lt (tgt := 35) hx hb d_H_send_21 (by decide) (fun hc => ?_) (fun hc => ?_)
      · rw [br_p _ hc] at hf
        exact wb_H_send_35 C0 hE hno hL N G hG _ _ hf H locs hP hD hS ls (lv_sub hl [] rfl)
      · rw [br_n _ hc] at hf
        refine lv_iload_n hx hb d_H_send_24 rfl (lv_at hl 4 rfl) ?_
        refine lv_aload_n hx hb d_H_send_25 rfl (lv_at hl 1 rfl) ?_
        obtain ⟨r14, g14, hf⟩ := bo_some hf
        refine xg_R (i := v0) (k := 0) hx hb ht hown ck_H hK hP (by decide) fk_H_16 g14 d_H_send_26 ?_
        obtain ⟨j15, ej15, hf⟩ := bo_some hf
        rw [ej15]
        obtain ⟨r16, g16, hf⟩ := bo_some hf
        refine xg_I (i := j15) (k := 2) hx hb ht hown ck_Wo hK hP (by decide) fk_H_117 g16 d_H_send_29 ?_
        refine lv_icmp_lt (tgt := 45) hx hb d_H_send_32 (by decide) (fun hc => ?_) (fun hc => ?_)
        · rw [br_p _ hc] at hf
          exact wb_H_send_45 C0 hE hno hL N G hG _ _ _ _ _ _ hf H locs hP hD hS ls (lv_sub hl [1, 3, 4, 0] rfl)
        · rw [br_n _ hc] at hf
          exact wb_H_send_35 C0 hE hno hL N G hG _ _ hf H locs hP hD hS ls (lv_sub hl [] rfl)
def fm_H_send (N : Nat) (u : CS) (v0 : Nat) (v1 : Int32) (v2 : Int32) (v3 : Int32) : Option (CS × (Unit ⊕ Nat)) := fb_H_send_0 N () u v0 v1 v2 v3
set_option maxRecDepth 100000 in
set_option maxHeartbeats 4000000 in
theorem c_H_send (N : Nat) {l : Launch} {s0 : State} {b0 : Nat} {D : va_G} {cB cI cJ cZ cS cP : ClassId} {sk sv : Nat → Nat} {ad : Nat → Nat} {u : CS} {sz : Nat} {v0 : Nat} {v1 : Int32} {v2 : Int32} {v3 : Int32} {x : CS × (Unit ⊕ Nat)} (hE : ENV s0 b0 sk sv) (hL : l.stackTraces = false) (hf : fm_H_send N u v0 v1 v2 v3 = some x) : MetX l y_H_send (wd_ws y_H_send b_H_send 6 none) (rm_H_send (tc x.2) (tsl x.2)) (xPc s0 b0 D cB cI cJ cZ cS cP ad u sz [.ref (ad v0), .int v1, .int v2, .int v3]) (xQx D cB cI cJ cZ cS cP (xA cB cI cJ cZ cS cP ad u sz) ad (fun _ => none) x) (tc x.2) (tsl x.2) (xA cB cI cJ cZ cS cP ad u sz) :=
  xMetX (by decide) rfl (Nat.le_of_ble_eq_true rfl) (fun p e s m below meth c ls hsz hno C0 hP hD hS hl =>
    wb_H_send_0 C0 hE hno hL N () trivial u _ _ _ _ x hf s.heap [] hP hD hS ls (lv_sub hl [0, 1, 2, 3] rfl))
abbrev b_Pr_wakes : ByteArray := prog_7_method_9_code
def y_Pr_wakes : MethodName := ⟨R_Pr, "wakes", "()I"⟩
def w_Pr_wakes : List Cond := wd_ws y_Pr_wakes b_Pr_wakes 1 (some .int)
set_option maxRecDepth 100000 in
theorem k_Pr_wakes : Cond.code y_Pr_wakes b_Pr_wakes 1 (some .int) ∈ wd_tbl := wd_of 1312 rfl rfl
theorem d_Pr_wakes_0 : decode b_Pr_wakes 0 = .ok (.aload_n 0, 1) := by decide +kernel
theorem d_Pr_wakes_1 : decode b_Pr_wakes 1 = .ok (.getfield 56, 3) := by decide +kernel
theorem d_Pr_wakes_4 : decode b_Pr_wakes 4 = .ok (.ldc2_w 54, 3) := by decide +kernel
theorem d_Pr_wakes_7 : decode b_Pr_wakes 7 = .ok (.lcmp, 1) := by decide +kernel
theorem d_Pr_wakes_8 : decode b_Pr_wakes 8 = .ok (.ifCond .ne 7, 3) := by decide +kernel
theorem d_Pr_wakes_11 : decode b_Pr_wakes 11 = .ok (.iconst (-1), 1) := by decide +kernel
theorem d_Pr_wakes_12 : decode b_Pr_wakes 12 = .ok (.goto 14, 3) := by decide +kernel
theorem d_Pr_wakes_15 : decode b_Pr_wakes 15 = .ok (.aload_n 0, 1) := by decide +kernel
theorem d_Pr_wakes_16 : decode b_Pr_wakes 16 = .ok (.getfield 56, 3) := by decide +kernel
theorem d_Pr_wakes_19 : decode b_Pr_wakes 19 = .ok (.ldc2_w 113, 3) := by decide +kernel
theorem d_Pr_wakes_22 : decode b_Pr_wakes 22 = .ok (.invokestatic 115, 3) := by decide +kernel
theorem d_Pr_wakes_25 : decode b_Pr_wakes 25 = .ok (.l2i, 1) := by decide +kernel
theorem d_Pr_wakes_26 : decode b_Pr_wakes 26 = .ok (.ireturn, 1) := by decide +kernel
set_option maxRecDepth 100000 in
theorem hi_Pr_wakes : Cond.instanceMethod y_Pr_wakes ∈ wd_tbl := wd_of 1310 (by decide +kernel) rfl
set_option maxRecDepth 100000 in
theorem hs_Pr_wakes : Cond.selects R_Pr y_Pr_wakes y_Pr_wakes ∈ wd_tbl := wd_of 1311 (by decide +kernel) rfl
theorem hd_Pr_wakes : y_Pr_wakes.cls = R_Pr ∧ y_Pr_wakes.cls ≠ "java/lang/invoke/MethodHandle" ∧ y_Pr_wakes.cls ≠ "java/lang/invoke/VarHandle" ∧ (parseMethodDescriptor y_Pr_wakes.desc).map (fun d => d.parameters.length) = some 0 := by decide +kernel
def rm_Pr_wakes : Room := { frames := 1, cells := 0, slots := 0, locals := 23 }
def fb_Pr_wakes_26 (N : Nat) (G : Unit) (u : CS) (t0 : Int32) : Option (CS × Int32) := some (u, t0)
set_option maxRecDepth 100000 in
set_option maxHeartbeats 4000000 in
theorem wb_Pr_wakes_26 {p : Program} {l : Launch} {e : Env} {s : State} {m : MethodId} {args : Array Value} {below : List Frame} {meth : Method} {c : Code} {s0 : State} {b0 : Nat} {D : va_G} {cB cI cJ cZ cS cP : ClassId} {A : Nat → Prop} {sk sv : Nat → Nat} {ad : Nat → Nat} (C0 : XCx p s s0 b0 m args meth c R_Pr b_Pr_wakes 1 (some .int) D cB cI cJ cZ cS cP A) (hE : ENV s0 b0 sk sv) (N : Nat) (G : Unit) (hG : True) : ∀ (u : CS) (t0 : Int32) (x : CS × Int32), fb_Pr_wakes_26 N G u t0 = some x → ∀ (H : Heap) (locs : List Loc), va_P D cls (wC cB cI cJ cZ cS cP ad u) H → va_D A (wC cB cI cJ cZ cS cP ad u) → va_S A s.heap H locs → ∀ (ls : Array Slot), lv_has ls 1 [] → W p l e rm_Pr_wakes s m args below meth c H locs 0 0 (MQ below (xQ0 D cB cI cJ cZ cS cP A ad x.1 (some (.inl x.2))) args s 0 0 A) (F0 m 26 ls [.int t0]) := by
  intro u t0 x hf H locs hP hD hS ls hl
  obtain ⟨hx, hb, hr, hml, ht, hown, hK, hA, hlocks, hA0, hO, hbs⟩ := id C0
  unfold fb_Pr_wakes_26 at hf
  exact xr0_i C0 hP hD hS hf d_Pr_wakes_26
def fb_Pr_wakes_0 (N : Nat) (G : Unit) (u : CS) (v0 : Nat) : Option (CS × Int32) := bo (gJ u v0 7 10) (fun r1 => br (decide ((lg_cmp r1 (-1)) = 0)) (fb_Pr_wakes_26 N G u ((-1))) (bo (gJ u v0 7 10) (fun r2 => lt (if 2147483647 < r2 then 2147483647 else r2) (fun y3 => fb_Pr_wakes_26 N G u (y3.toInt32)))))
set_option maxRecDepth 100000 in
set_option maxHeartbeats 4000000 in
theorem wb_Pr_wakes_0 {p : Program} {l : Launch} {e : Env} {s : State} {m : MethodId} {args : Array Value} {below : List Frame} {meth : Method} {c : Code} {s0 : State} {b0 : Nat} {D : va_G} {cB cI cJ cZ cS cP : ClassId} {A : Nat → Prop} {sk sv : Nat → Nat} {ad : Nat → Nat} (C0 : XCx p s s0 b0 m args meth c R_Pr b_Pr_wakes 1 (some .int) D cB cI cJ cZ cS cP A) (hE : ENV s0 b0 sk sv) (N : Nat) (G : Unit) (hG : True) : ∀ (u : CS) (v0 : Nat) (x : CS × Int32), fb_Pr_wakes_0 N G u v0 = some x → ∀ (H : Heap) (locs : List Loc), va_P D cls (wC cB cI cJ cZ cS cP ad u) H → va_D A (wC cB cI cJ cZ cS cP ad u) → va_S A s.heap H locs → ∀ (ls : Array Slot), lv_has ls 1 [(0, .ref (ad v0))] → W p l e rm_Pr_wakes s m args below meth c H locs 0 0 (MQ below (xQ0 D cB cI cJ cZ cS cP A ad x.1 (some (.inl x.2))) args s 0 0 A) (F0 m 0 ls []) := by
  intro u v0 x hf H locs hP hD hS ls hl
  obtain ⟨hx, hb, hr, hml, ht, hown, hK, hA, hlocks, hA0, hO, hbs⟩ := id C0
  unfold fb_Pr_wakes_0 at hf
  refine lv_aload_n hx hb d_Pr_wakes_0 rfl (lv_at hl 0 rfl) ?_
  obtain ⟨r1, g1, hf⟩ := bo_some hf
  refine xg_J (i := v0) (k := 10) hx hb ht hown ck_Pr hK hP (by decide) fk_Pr_56 g1 d_Pr_wakes_1 ?_
  refine lv_ldc2 (v := (-1)) hx hb hown (ht _ (wd_of 1313 (by decide +kernel) rfl)) d_Pr_wakes_4 ?_
  refine W.lcmp hx hb d_Pr_wakes_7 ?_
  refine lv_if_ne (tgt := 15) hx hb d_Pr_wakes_8 (by decide) (fun hc => ?_) (fun hc => ?_)
  · rw [br_n _ hc] at hf
    refine lv_aload_n hx hb d_Pr_wakes_15 rfl (lv_at hl 0 rfl) ?_
    obtain ⟨r2, g2, hf⟩ := bo_some hf
    refine xg_J (i := v0) (k := 10) hx hb ht hown ck_Pr hK hP (by decide) fk_Pr_56 g2 d_Pr_wakes_16 ?_
    refine lv_ldc2 (v := 2147483647) hx hb hown (ht _ (wd_of 1314 (by decide +kernel) rfl)) d_Pr_wakes_19 ?_
    refine va_mmin_long hx hb (hml.trans hl.1.symm) hown (ht _ (wd_of 1315 (by decide +kernel) rfl)) (ht _ (wd_of 849 (by decide +kernel) rfl)) (ht _ (wd_of 281 (by decide +kernel) rfl)) (ht _ (wd_of 850 (by decide +kernel) rfl)) (Nat.le_of_ble_eq_true rfl) (Nat.le_of_ble_eq_true rfl) (Nat.zero_le _) (Nat.zero_le _) d_Pr_wakes_22 ?_
    obtain ⟨y3, e3, hf⟩ := lt_some hf
    rw [← e3]
    refine lv_l2i hx hb d_Pr_wakes_25 rfl ?_
    exact wb_Pr_wakes_26 C0 hE N G hG _ _ _ hf H locs hP hD hS ls (lv_sub hl [] rfl)
  · rw [br_p _ hc] at hf
    refine lv_iconst (v := (-1)) hx hb d_Pr_wakes_11 (by decide) ?_
    refine lv_goto (tgt := 26) hx hb d_Pr_wakes_12 (by decide) ?_
    exact wb_Pr_wakes_26 C0 hE N G hG _ _ _ hf H locs hP hD hS ls (lv_sub hl [] rfl)
def fm_Pr_wakes (N : Nat) (u : CS) (v0 : Nat) : Option (CS × Int32) := fb_Pr_wakes_0 N () u v0
set_option maxRecDepth 100000 in
set_option maxHeartbeats 4000000 in
theorem c_Pr_wakes (N : Nat) {l : Launch} {s0 : State} {b0 : Nat} {D : va_G} {cB cI cJ cZ cS cP : ClassId} {sk sv : Nat → Nat} {ad : Nat → Nat} {u : CS} {sz : Nat} {v0 : Nat} {x : CS × Int32} (hE : ENV s0 b0 sk sv) (hf : fm_Pr_wakes N u v0 = some x) : Met l y_Pr_wakes (wd_ws y_Pr_wakes b_Pr_wakes 1 (some .int)) rm_Pr_wakes (xPc s0 b0 D cB cI cJ cZ cS cP ad u sz [.ref (ad v0)]) (xQ0 D cB cI cJ cZ cS cP (xA cB cI cJ cZ cS cP ad u sz) ad x.1 (some (.inl x.2))) 0 0 (xA cB cI cJ cZ cS cP ad u sz) :=
  xMet (by decide) rfl (Nat.le_of_ble_eq_true rfl) (fun p e s m below meth c ls hsz hnm C0 hP hD hS hl =>
    wb_Pr_wakes_0 C0 hE N () trivial u _ x hf s.heap [] hP hD hS ls (lv_sub hl [0] rfl))
abbrev b_H_process : ByteArray := prog_1_method_13_code
def y_H_process : MethodName := ⟨R_H, "process", "(II)I"⟩
def w_H_process : List Cond := wd_ws y_H_process b_H_process 5 (some .int)
set_option maxRecDepth 100000 in
theorem k_H_process : Cond.code y_H_process b_H_process 5 (some .int) ∈ wd_tbl := wd_of 1295 rfl rfl
theorem d_H_process_0 : decode b_H_process 0 = .ok (.aload_n 0, 1) := by decide +kernel
theorem d_H_process_1 : decode b_H_process 1 = .ok (.getfield 69, 3) := by decide +kernel
theorem d_H_process_4 : decode b_H_process 4 = .ok (.iload_n 1, 1) := by decide +kernel
theorem d_H_process_5 : decode b_H_process 5 = .ok (.invokevirtual 193, 3) := by decide +kernel
theorem d_H_process_8 : decode b_H_process 8 = .ok (.astore_n 3, 1) := by decide +kernel
theorem d_H_process_9 : decode b_H_process 9 = .ok (.aload_n 3, 1) := by decide +kernel
theorem d_H_process_10 : decode b_H_process 10 = .ok (.ifnonnull 5, 3) := by decide +kernel
theorem d_H_process_13 : decode b_H_process 13 = .ok (.iconst (-1), 1) := by decide +kernel
theorem d_H_process_14 : decode b_H_process 14 = .ok (.ireturn, 1) := by decide +kernel
theorem d_H_process_15 : decode b_H_process 15 = .ok (.aload_n 3, 1) := by decide +kernel
theorem d_H_process_16 : decode b_H_process 16 = .ok (.getfield 199, 3) := by decide +kernel
theorem d_H_process_19 : decode b_H_process 19 = .ok (.iconst 3, 1) := by decide +kernel
theorem d_H_process_20 : decode b_H_process 20 = .ok (.if_icmp .ne 7, 3) := by decide +kernel
theorem d_H_process_23 : decode b_H_process 23 = .ok (.iconst 1, 1) := by decide +kernel
theorem d_H_process_24 : decode b_H_process 24 = .ok (.goto 4, 3) := by decide +kernel
theorem d_H_process_27 : decode b_H_process 27 = .ok (.iconst 0, 1) := by decide +kernel
theorem d_H_process_28 : decode b_H_process 28 = .ok (.istore 4, 2) := by decide +kernel
theorem d_H_process_30 : decode b_H_process 30 = .ok (.iload_n 2, 1) := by decide +kernel
theorem d_H_process_31 : decode b_H_process 31 = .ok (.tableswitch 239 0 11 #[61, 89, 106, 120, 125, 139, 153, 171, 189, 203, 208, 222], 61) := by decide +kernel
theorem d_H_process_92 : decode b_H_process 92 = .ok (.aload_n 3, 1) := by decide +kernel
theorem d_H_process_93 : decode b_H_process 93 = .ok (.getfield 199, 3) := by decide +kernel
theorem d_H_process_96 : decode b_H_process 96 = .ok (.iconst 1, 1) := by decide +kernel
theorem d_H_process_97 : decode b_H_process 97 = .ok (.if_icmp .ne 18, 3) := by decide +kernel
theorem d_H_process_100 : decode b_H_process 100 = .ok (.aload_n 0, 1) := by decide +kernel
theorem d_H_process_101 : decode b_H_process 101 = .ok (.getfield 69, 3) := by decide +kernel
theorem d_H_process_104 : decode b_H_process 104 = .ok (.aload_n 3, 1) := by decide +kernel
theorem d_H_process_105 : decode b_H_process 105 = .ok (.invokevirtual 202, 3) := by decide +kernel
theorem d_H_process_108 : decode b_H_process 108 = .ok (.ifCond .eq 7, 3) := by decide +kernel
theorem d_H_process_111 : decode b_H_process 111 = .ok (.iconst 2, 1) := by decide +kernel
theorem d_H_process_112 : decode b_H_process 112 = .ok (.goto 7, 3) := by decide +kernel
theorem d_H_process_115 : decode b_H_process 115 = .ok (.aload_n 3, 1) := by decide +kernel
theorem d_H_process_116 : decode b_H_process 116 = .ok (.getfield 199, 3) := by decide +kernel
theorem d_H_process_119 : decode b_H_process 119 = .ok (.ireturn, 1) := by decide +kernel
theorem d_H_process_120 : decode b_H_process 120 = .ok (.iload 4, 2) := by decide +kernel
theorem d_H_process_122 : decode b_H_process 122 = .ok (.ifCond .eq 7, 3) := by decide +kernel
theorem d_H_process_125 : decode b_H_process 125 = .ok (.iconst 0, 1) := by decide +kernel
theorem d_H_process_126 : decode b_H_process 126 = .ok (.goto 10, 3) := by decide +kernel
theorem d_H_process_129 : decode b_H_process 129 = .ok (.aload_n 3, 1) := by decide +kernel
theorem d_H_process_130 : decode b_H_process 130 = .ok (.getfield 176, 3) := by decide +kernel
theorem d_H_process_133 : decode b_H_process 133 = .ok (.getfield 236, 3) := by decide +kernel
theorem d_H_process_136 : decode b_H_process 136 = .ok (.ireturn, 1) := by decide +kernel
theorem d_H_process_137 : decode b_H_process 137 = .ok (.iload 4, 2) := by decide +kernel
theorem d_H_process_139 : decode b_H_process 139 = .ok (.ifCond .eq 7, 3) := by decide +kernel
theorem d_H_process_142 : decode b_H_process 142 = .ok (.iconst 0, 1) := by decide +kernel
theorem d_H_process_143 : decode b_H_process 143 = .ok (.goto 7, 3) := by decide +kernel
theorem d_H_process_146 : decode b_H_process 146 = .ok (.aload_n 3, 1) := by decide +kernel
theorem d_H_process_147 : decode b_H_process 147 = .ok (.getfield 237, 3) := by decide +kernel
theorem d_H_process_150 : decode b_H_process 150 = .ok (.ireturn, 1) := by decide +kernel
theorem d_H_process_151 : decode b_H_process 151 = .ok (.aload_n 3, 1) := by decide +kernel
theorem d_H_process_152 : decode b_H_process 152 = .ok (.getfield 240, 3) := by decide +kernel
theorem d_H_process_155 : decode b_H_process 155 = .ok (.ireturn, 1) := by decide +kernel
theorem d_H_process_156 : decode b_H_process 156 = .ok (.iload 4, 2) := by decide +kernel
theorem d_H_process_158 : decode b_H_process 158 = .ok (.ifCond .eq 7, 3) := by decide +kernel
theorem d_H_process_161 : decode b_H_process 161 = .ok (.iconst 0, 1) := by decide +kernel
theorem d_H_process_162 : decode b_H_process 162 = .ok (.goto 7, 3) := by decide +kernel
theorem d_H_process_165 : decode b_H_process 165 = .ok (.aload_n 3, 1) := by decide +kernel
theorem d_H_process_166 : decode b_H_process 166 = .ok (.getfield 243, 3) := by decide +kernel
theorem d_H_process_169 : decode b_H_process 169 = .ok (.ireturn, 1) := by decide +kernel
theorem d_H_process_170 : decode b_H_process 170 = .ok (.iload 4, 2) := by decide +kernel
theorem d_H_process_172 : decode b_H_process 172 = .ok (.ifCond .eq 7, 3) := by decide +kernel
theorem d_H_process_175 : decode b_H_process 175 = .ok (.iconst 0, 1) := by decide +kernel
theorem d_H_process_176 : decode b_H_process 176 = .ok (.goto 7, 3) := by decide +kernel
theorem d_H_process_179 : decode b_H_process 179 = .ok (.aload_n 3, 1) := by decide +kernel
theorem d_H_process_180 : decode b_H_process 180 = .ok (.getfield 246, 3) := by decide +kernel
theorem d_H_process_183 : decode b_H_process 183 = .ok (.ireturn, 1) := by decide +kernel
theorem d_H_process_184 : decode b_H_process 184 = .ok (.iload 4, 2) := by decide +kernel
theorem d_H_process_186 : decode b_H_process 186 = .ok (.ifCond .eq 7, 3) := by decide +kernel
theorem d_H_process_189 : decode b_H_process 189 = .ok (.iconst 0, 1) := by decide +kernel
theorem d_H_process_190 : decode b_H_process 190 = .ok (.goto 11, 3) := by decide +kernel
theorem d_H_process_193 : decode b_H_process 193 = .ok (.aload_n 0, 1) := by decide +kernel
theorem d_H_process_194 : decode b_H_process 194 = .ok (.getfield 69, 3) := by decide +kernel
theorem d_H_process_197 : decode b_H_process 197 = .ok (.iload_n 1, 1) := by decide +kernel
theorem d_H_process_198 : decode b_H_process 198 = .ok (.invokevirtual 249, 3) := by decide +kernel
theorem d_H_process_201 : decode b_H_process 201 = .ok (.ireturn, 1) := by decide +kernel
theorem d_H_process_202 : decode b_H_process 202 = .ok (.iload 4, 2) := by decide +kernel
theorem d_H_process_204 : decode b_H_process 204 = .ok (.ifCond .ne 14, 3) := by decide +kernel
theorem d_H_process_207 : decode b_H_process 207 = .ok (.aload_n 3, 1) := by decide +kernel
theorem d_H_process_208 : decode b_H_process 208 = .ok (.getfield 253, 3) := by decide +kernel
theorem d_H_process_211 : decode b_H_process 211 = .ok (.ifCond .eq 7, 3) := by decide +kernel
theorem d_H_process_214 : decode b_H_process 214 = .ok (.iconst 1, 1) := by decide +kernel
theorem d_H_process_215 : decode b_H_process 215 = .ok (.goto 4, 3) := by decide +kernel
theorem d_H_process_218 : decode b_H_process 218 = .ok (.iconst 0, 1) := by decide +kernel
theorem d_H_process_219 : decode b_H_process 219 = .ok (.ireturn, 1) := by decide +kernel
theorem d_H_process_220 : decode b_H_process 220 = .ok (.iload 4, 2) := by decide +kernel
theorem d_H_process_222 : decode b_H_process 222 = .ok (.ifCond .eq 7, 3) := by decide +kernel
theorem d_H_process_225 : decode b_H_process 225 = .ok (.iconst (-1), 1) := by decide +kernel
theorem d_H_process_226 : decode b_H_process 226 = .ok (.goto 7, 3) := by decide +kernel
theorem d_H_process_229 : decode b_H_process 229 = .ok (.aload_n 3, 1) := by decide +kernel
theorem d_H_process_230 : decode b_H_process 230 = .ok (.getfield 256, 3) := by decide +kernel
theorem d_H_process_233 : decode b_H_process 233 = .ok (.ireturn, 1) := by decide +kernel
theorem d_H_process_234 : decode b_H_process 234 = .ok (.aload_n 3, 1) := by decide +kernel
theorem d_H_process_235 : decode b_H_process 235 = .ok (.getfield 259, 3) := by decide +kernel
theorem d_H_process_238 : decode b_H_process 238 = .ok (.ireturn, 1) := by decide +kernel
theorem d_H_process_239 : decode b_H_process 239 = .ok (.iload 4, 2) := by decide +kernel
theorem d_H_process_241 : decode b_H_process 241 = .ok (.ifCond .eq 7, 3) := by decide +kernel
theorem d_H_process_244 : decode b_H_process 244 = .ok (.iconst (-1), 1) := by decide +kernel
theorem d_H_process_245 : decode b_H_process 245 = .ok (.goto 7, 3) := by decide +kernel
theorem d_H_process_248 : decode b_H_process 248 = .ok (.aload_n 3, 1) := by decide +kernel
theorem d_H_process_249 : decode b_H_process 249 = .ok (.invokevirtual 260, 3) := by decide +kernel
theorem d_H_process_252 : decode b_H_process 252 = .ok (.ireturn, 1) := by decide +kernel
theorem d_H_process_253 : decode b_H_process 253 = .ok (.iload 4, 2) := by decide +kernel
theorem d_H_process_255 : decode b_H_process 255 = .ok (.ifCond .eq 7, 3) := by decide +kernel
theorem d_H_process_258 : decode b_H_process 258 = .ok (.iconst 0, 1) := by decide +kernel
theorem d_H_process_259 : decode b_H_process 259 = .ok (.goto 10, 3) := by decide +kernel
theorem d_H_process_262 : decode b_H_process 262 = .ok (.aload_n 3, 1) := by decide +kernel
theorem d_H_process_263 : decode b_H_process 263 = .ok (.getfield 176, 3) := by decide +kernel
theorem d_H_process_266 : decode b_H_process 266 = .ok (.getfield 263, 3) := by decide +kernel
theorem d_H_process_269 : decode b_H_process 269 = .ok (.ireturn, 1) := by decide +kernel
theorem d_H_process_270 : decode b_H_process 270 = .ok (.iconst (-1), 1) := by decide +kernel
theorem d_H_process_271 : decode b_H_process 271 = .ok (.ireturn, 1) := by decide +kernel
set_option maxRecDepth 100000 in
theorem hi_H_process : Cond.instanceMethod y_H_process ∈ wd_tbl := wd_of 1293 (by decide +kernel) rfl
set_option maxRecDepth 100000 in
theorem hs_H_process : Cond.selects R_H y_H_process y_H_process ∈ wd_tbl := wd_of 1294 (by decide +kernel) rfl
theorem hd_H_process : y_H_process.cls = R_H ∧ y_H_process.cls ≠ "java/lang/invoke/MethodHandle" ∧ y_H_process.cls ≠ "java/lang/invoke/VarHandle" ∧ (parseMethodDescriptor y_H_process.desc).map (fun d => d.parameters.length) = some 2 := by decide +kernel
def rm_H_process : Room := { frames := 2, cells := 0, slots := 0, locals := 43 }
theorem rm_H_process_Wl_find : (rm_Wl_find).frames + 1 ≤ rm_H_process.frames ∧ 8 + (2 + 11) + (rm_Wl_find).locals ≤ rm_H_process.locals := by
  show 0 + 1 ≤ 2 ∧ 8 + (2 + 11) + 0 ≤ 43
  decide
theorem rm_H_process_Wl_isReady : (rm_Wl_isReady).frames + 1 ≤ rm_H_process.frames ∧ 8 + (2 + 11) + (rm_Wl_isReady).locals ≤ rm_H_process.locals := by
  show 0 + 1 ≤ 2 ∧ 8 + (2 + 11) + 0 ≤ 43
  decide
theorem rm_H_process_Wl_watchesOf : (rm_Wl_watchesOf).frames + 1 ≤ rm_H_process.frames ∧ 8 + (4 + 11) + (rm_Wl_watchesOf).locals ≤ rm_H_process.locals := by
  show 0 + 1 ≤ 2 ∧ 8 + (4 + 11) + 0 ≤ 43
  decide
theorem rm_H_process_Pr_wakes : (rm_Pr_wakes).frames + 1 ≤ rm_H_process.frames ∧ 8 + (1 + 11) + (rm_Pr_wakes).locals ≤ rm_H_process.locals := by
  show 1 + 1 ≤ 2 ∧ 8 + (1 + 11) + 23 ≤ 43
  decide
def fb_H_process_269 (N : Nat) (G : Unit) (u : CS) (t0 : Int32) : Option (CS × Int32) := some (u, t0)
set_option maxRecDepth 100000 in
set_option maxHeartbeats 4000000 in
theorem wb_H_process_269 {p : Program} {l : Launch} {e : Env} {s : State} {m : MethodId} {args : Array Value} {below : List Frame} {meth : Method} {c : Code} {s0 : State} {b0 : Nat} {D : va_G} {cB cI cJ cZ cS cP : ClassId} {A : Nat → Prop} {sk sv : Nat → Nat} {ad : Nat → Nat} (C0 : XCx p s s0 b0 m args meth c R_H b_H_process 5 (some .int) D cB cI cJ cZ cS cP A) (hE : ENV s0 b0 sk sv) (N : Nat) (G : Unit) (hG : True) : ∀ (u : CS) (t0 : Int32) (x : CS × Int32), fb_H_process_269 N G u t0 = some x → ∀ (H : Heap) (locs : List Loc), va_P D cls (wC cB cI cJ cZ cS cP ad u) H → va_D A (wC cB cI cJ cZ cS cP ad u) → va_S A s.heap H locs → ∀ (ls : Array Slot), lv_has ls 5 [] → W p l e rm_H_process s m args below meth c H locs 0 0 (MQ below (xQ0 D cB cI cJ cZ cS cP A ad x.1 (some (.inl x.2))) args s 0 0 A) (F0 m 269 ls [.int t0]) := by
  intro u t0 x hf H locs hP hD hS ls hl
  obtain ⟨hx, hb, hr, hml, ht, hown, hK, hA, hlocks, hA0, hO, hbs⟩ := id C0
  unfold fb_H_process_269 at hf
  exact xr0_i C0 hP hD hS hf d_H_process_269
def fb_H_process_252 (N : Nat) (G : Unit) (u : CS) (t0 : Int32) : Option (CS × Int32) := some (u, t0)
set_option maxRecDepth 100000 in
set_option maxHeartbeats 4000000 in
theorem wb_H_process_252 {p : Program} {l : Launch} {e : Env} {s : State} {m : MethodId} {args : Array Value} {below : List Frame} {meth : Method} {c : Code} {s0 : State} {b0 : Nat} {D : va_G} {cB cI cJ cZ cS cP : ClassId} {A : Nat → Prop} {sk sv : Nat → Nat} {ad : Nat → Nat} (C0 : XCx p s s0 b0 m args meth c R_H b_H_process 5 (some .int) D cB cI cJ cZ cS cP A) (hE : ENV s0 b0 sk sv) (N : Nat) (G : Unit) (hG : True) : ∀ (u : CS) (t0 : Int32) (x : CS × Int32), fb_H_process_252 N G u t0 = some x → ∀ (H : Heap) (locs : List Loc), va_P D cls (wC cB cI cJ cZ cS cP ad u) H → va_D A (wC cB cI cJ cZ cS cP ad u) → va_S A s.heap H locs → ∀ (ls : Array Slot), lv_has ls 5 [] → W p l e rm_H_process s m args below meth c H locs 0 0 (MQ below (xQ0 D cB cI cJ cZ cS cP A ad x.1 (some (.inl x.2))) args s 0 0 A) (F0 m 252 ls [.int t0]) := by
  intro u t0 x hf H locs hP hD hS ls hl
  obtain ⟨hx, hb, hr, hml, ht, hown, hK, hA, hlocks, hA0, hO, hbs⟩ := id C0
  unfold fb_H_process_252 at hf
  exact xr0_i C0 hP hD hS hf d_H_process_252
def fb_H_process_233 (N : Nat) (G : Unit) (u : CS) (t0 : Int32) : Option (CS × Int32) := some (u, t0)
set_option maxRecDepth 100000 in
set_option maxHeartbeats 4000000 in
theorem wb_H_process_233 {p : Program} {l : Launch} {e : Env} {s : State} {m : MethodId} {args : Array Value} {below : List Frame} {meth : Method} {c : Code} {s0 : State} {b0 : Nat} {D : va_G} {cB cI cJ cZ cS cP : ClassId} {A : Nat → Prop} {sk sv : Nat → Nat} {ad : Nat → Nat} (C0 : XCx p s s0 b0 m args meth c R_H b_H_process 5 (some .int) D cB cI cJ cZ cS cP A) (hE : ENV s0 b0 sk sv) (N : Nat) (G : Unit) (hG : True) : ∀ (u : CS) (t0 : Int32) (x : CS × Int32), fb_H_process_233 N G u t0 = some x → ∀ (H : Heap) (locs : List Loc), va_P D cls (wC cB cI cJ cZ cS cP ad u) H → va_D A (wC cB cI cJ cZ cS cP ad u) → va_S A s.heap H locs → ∀ (ls : Array Slot), lv_has ls 5 [] → W p l e rm_H_process s m args below meth c H locs 0 0 (MQ below (xQ0 D cB cI cJ cZ cS cP A ad x.1 (some (.inl x.2))) args s 0 0 A) (F0 m 233 ls [.int t0]) := by
  intro u t0 x hf H locs hP hD hS ls hl
  obtain ⟨hx, hb, hr, hml, ht, hown, hK, hA, hlocks, hA0, hO, hbs⟩ := id C0
  unfold fb_H_process_233 at hf
  exact xr0_i C0 hP hD hS hf d_H_process_233
def fb_H_process_219 (N : Nat) (G : Unit) (u : CS) (t0 : Int32) : Option (CS × Int32) := some (u, t0)
set_option maxRecDepth 100000 in
set_option maxHeartbeats 4000000 in
theorem wb_H_process_219 {p : Program} {l : Launch} {e : Env} {s : State} {m : MethodId} {args : Array Value} {below : List Frame} {meth : Method} {c : Code} {s0 : State} {b0 : Nat} {D : va_G} {cB cI cJ cZ cS cP : ClassId} {A : Nat → Prop} {sk sv : Nat → Nat} {ad : Nat → Nat} (C0 : XCx p s s0 b0 m args meth c R_H b_H_process 5 (some .int) D cB cI cJ cZ cS cP A) (hE : ENV s0 b0 sk sv) (N : Nat) (G : Unit) (hG : True) : ∀ (u : CS) (t0 : Int32) (x : CS × Int32), fb_H_process_219 N G u t0 = some x → ∀ (H : Heap) (locs : List Loc), va_P D cls (wC cB cI cJ cZ cS cP ad u) H → va_D A (wC cB cI cJ cZ cS cP ad u) → va_S A s.heap H locs → ∀ (ls : Array Slot), lv_has ls 5 [] → W p l e rm_H_process s m args below meth c H locs 0 0 (MQ below (xQ0 D cB cI cJ cZ cS cP A ad x.1 (some (.inl x.2))) args s 0 0 A) (F0 m 219 ls [.int t0]) := by
  intro u t0 x hf H locs hP hD hS ls hl
  obtain ⟨hx, hb, hr, hml, ht, hown, hK, hA, hlocks, hA0, hO, hbs⟩ := id C0
  unfold fb_H_process_219 at hf
  exact xr0_i C0 hP hD hS hf d_H_process_219
def fb_H_process_218 (N : Nat) (G : Unit) (u : CS) : Option (CS × Int32) := fb_H_process_219 N G u (0)
set_option maxRecDepth 100000 in
set_option maxHeartbeats 4000000 in
theorem wb_H_process_218 {p : Program} {l : Launch} {e : Env} {s : State} {m : MethodId} {args : Array Value} {below : List Frame} {meth : Method} {c : Code} {s0 : State} {b0 : Nat} {D : va_G} {cB cI cJ cZ cS cP : ClassId} {A : Nat → Prop} {sk sv : Nat → Nat} {ad : Nat → Nat} (C0 : XCx p s s0 b0 m args meth c R_H b_H_process 5 (some .int) D cB cI cJ cZ cS cP A) (hE : ENV s0 b0 sk sv) (N : Nat) (G : Unit) (hG : True) : ∀ (u : CS) (x : CS × Int32), fb_H_process_218 N G u = some x → ∀ (H : Heap) (locs : List Loc), va_P D cls (wC cB cI cJ cZ cS cP ad u) H → va_D A (wC cB cI cJ cZ cS cP ad u) → va_S A s.heap H locs → ∀ (ls : Array Slot), lv_has ls 5 [] → W p l e rm_H_process s m args below meth c H locs 0 0 (MQ below (xQ0 D cB cI cJ cZ cS cP A ad x.1 (some (.inl x.2))) args s 0 0 A) (F0 m 218 ls []) := by
  intro u x hf H locs hP hD hS ls hl
  obtain ⟨hx, hb, hr, hml, ht, hown, hK, hA, hlocks, hA0, hO, hbs⟩ := id C0
  unfold fb_H_process_218 at hf
  refine lv_iconst (v := 0) hx hb d_H_process_218 (by decide) ?_
  exact wb_H_process_219 C0 hE N G hG _ _ _ hf H locs hP hD hS ls (lv_sub hl [] rfl)
def fb_H_process_201 (N : Nat) (G : Unit) (u : CS) (t0 : Int32) : Option (CS × Int32) := some (u, t0)
set_option maxRecDepth 100000 in
set_option maxHeartbeats 4000000 in
theorem wb_H_process_201 {p : Program} {l : Launch} {e : Env} {s : State} {m : MethodId} {args : Array Value} {below : List Frame} {meth : Method} {c : Code} {s0 : State} {b0 : Nat} {D : va_G} {cB cI cJ cZ cS cP : ClassId} {A : Nat → Prop} {sk sv : Nat → Nat} {ad : Nat → Nat} (C0 : XCx p s s0 b0 m args meth c R_H b_H_process 5 (some .int) D cB cI cJ cZ cS cP A) (hE : ENV s0 b0 sk sv) (N : Nat) (G : Unit) (hG : True) : ∀ (u : CS) (t0 : Int32) (x : CS × Int32), fb_H_process_201 N G u t0 = some x → ∀ (H : Heap) (locs : List Loc), va_P D cls (wC cB cI cJ cZ cS cP ad u) H → va_D A (wC cB cI cJ cZ cS cP ad u) → va_S A s.heap H locs → ∀ (ls : Array Slot), lv_has ls 5 [] → W p l e rm_H_process s m args below meth c H locs 0 0 (MQ below (xQ0 D cB cI cJ cZ cS cP A ad x.1 (some (.inl x.2))) args s 0 0 A) (F0 m 201 ls [.int t0]) := by
  intro u t0 x hf H locs hP hD hS ls hl
  obtain ⟨hx, hb, hr, hml, ht, hown, hK, hA, hlocks, hA0, hO, hbs⟩ := id C0
  unfold fb_H_process_201 at hf
  exact xr0_i C0 hP hD hS hf d_H_process_201
def fb_H_process_183 (N : Nat) (G : Unit) (u : CS) (t0 : Int32) : Option (CS × Int32) := some (u, t0)
set_option maxRecDepth 100000 in
set_option maxHeartbeats 4000000 in
theorem wb_H_process_183 {p : Program} {l : Launch} {e : Env} {s : State} {m : MethodId} {args : Array Value} {below : List Frame} {meth : Method} {c : Code} {s0 : State} {b0 : Nat} {D : va_G} {cB cI cJ cZ cS cP : ClassId} {A : Nat → Prop} {sk sv : Nat → Nat} {ad : Nat → Nat} (C0 : XCx p s s0 b0 m args meth c R_H b_H_process 5 (some .int) D cB cI cJ cZ cS cP A) (hE : ENV s0 b0 sk sv) (N : Nat) (G : Unit) (hG : True) : ∀ (u : CS) (t0 : Int32) (x : CS × Int32), fb_H_process_183 N G u t0 = some x → ∀ (H : Heap) (locs : List Loc), va_P D cls (wC cB cI cJ cZ cS cP ad u) H → va_D A (wC cB cI cJ cZ cS cP ad u) → va_S A s.heap H locs → ∀ (ls : Array Slot), lv_has ls 5 [] → W p l e rm_H_process s m args below meth c H locs 0 0 (MQ below (xQ0 D cB cI cJ cZ cS cP A ad x.1 (some (.inl x.2))) args s 0 0 A) (F0 m 183 ls [.int t0]) := by
  intro u t0 x hf H locs hP hD hS ls hl
  obtain ⟨hx, hb, hr, hml, ht, hown, hK, hA, hlocks, hA0, hO, hbs⟩ := id C0
  unfold fb_H_process_183 at hf
  exact xr0_i C0 hP hD hS hf d_H_process_183
def fb_H_process_169 (N : Nat) (G : Unit) (u : CS) (t0 : Int32) : Option (CS × Int32) := some (u, t0)
set_option maxRecDepth 100000 in
set_option maxHeartbeats 4000000 in
theorem wb_H_process_169 {p : Program} {l : Launch} {e : Env} {s : State} {m : MethodId} {args : Array Value} {below : List Frame} {meth : Method} {c : Code} {s0 : State} {b0 : Nat} {D : va_G} {cB cI cJ cZ cS cP : ClassId} {A : Nat → Prop} {sk sv : Nat → Nat} {ad : Nat → Nat} (C0 : XCx p s s0 b0 m args meth c R_H b_H_process 5 (some .int) D cB cI cJ cZ cS cP A) (hE : ENV s0 b0 sk sv) (N : Nat) (G : Unit) (hG : True) : ∀ (u : CS) (t0 : Int32) (x : CS × Int32), fb_H_process_169 N G u t0 = some x → ∀ (H : Heap) (locs : List Loc), va_P D cls (wC cB cI cJ cZ cS cP ad u) H → va_D A (wC cB cI cJ cZ cS cP ad u) → va_S A s.heap H locs → ∀ (ls : Array Slot), lv_has ls 5 [] → W p l e rm_H_process s m args below meth c H locs 0 0 (MQ below (xQ0 D cB cI cJ cZ cS cP A ad x.1 (some (.inl x.2))) args s 0 0 A) (F0 m 169 ls [.int t0]) := by
  intro u t0 x hf H locs hP hD hS ls hl
  obtain ⟨hx, hb, hr, hml, ht, hown, hK, hA, hlocks, hA0, hO, hbs⟩ := id C0
  unfold fb_H_process_169 at hf
  exact xr0_i C0 hP hD hS hf d_H_process_169
def fb_H_process_150 (N : Nat) (G : Unit) (u : CS) (t0 : Int32) : Option (CS × Int32) := some (u, t0)
set_option maxRecDepth 100000 in
set_option maxHeartbeats 4000000 in
theorem wb_H_process_150 {p : Program} {l : Launch} {e : Env} {s : State} {m : MethodId} {args : Array Value} {below : List Frame} {meth : Method} {c : Code} {s0 : State} {b0 : Nat} {D : va_G} {cB cI cJ cZ cS cP : ClassId} {A : Nat → Prop} {sk sv : Nat → Nat} {ad : Nat → Nat} (C0 : XCx p s s0 b0 m args meth c R_H b_H_process 5 (some .int) D cB cI cJ cZ cS cP A) (hE : ENV s0 b0 sk sv) (N : Nat) (G : Unit) (hG : True) : ∀ (u : CS) (t0 : Int32) (x : CS × Int32), fb_H_process_150 N G u t0 = some x → ∀ (H : Heap) (locs : List Loc), va_P D cls (wC cB cI cJ cZ cS cP ad u) H → va_D A (wC cB cI cJ cZ cS cP ad u) → va_S A s.heap H locs → ∀ (ls : Array Slot), lv_has ls 5 [] → W p l e rm_H_process s m args below meth c H locs 0 0 (MQ below (xQ0 D cB cI cJ cZ cS cP A ad x.1 (some (.inl x.2))) args s 0 0 A) (F0 m 150 ls [.int t0]) := by
  intro u t0 x hf H locs hP hD hS ls hl
  obtain ⟨hx, hb, hr, hml, ht, hown, hK, hA, hlocks, hA0, hO, hbs⟩ := id C0
  unfold fb_H_process_150 at hf
  exact xr0_i C0 hP hD hS hf d_H_process_150
def fb_H_process_136 (N : Nat) (G : Unit) (u : CS) (t0 : Int32) : Option (CS × Int32) := some (u, t0)
set_option maxRecDepth 100000 in
set_option maxHeartbeats 4000000 in
theorem wb_H_process_136 {p : Program} {l : Launch} {e : Env} {s : State} {m : MethodId} {args : Array Value} {below : List Frame} {meth : Method} {c : Code} {s0 : State} {b0 : Nat} {D : va_G} {cB cI cJ cZ cS cP : ClassId} {A : Nat → Prop} {sk sv : Nat → Nat} {ad : Nat → Nat} (C0 : XCx p s s0 b0 m args meth c R_H b_H_process 5 (some .int) D cB cI cJ cZ cS cP A) (hE : ENV s0 b0 sk sv) (N : Nat) (G : Unit) (hG : True) : ∀ (u : CS) (t0 : Int32) (x : CS × Int32), fb_H_process_136 N G u t0 = some x → ∀ (H : Heap) (locs : List Loc), va_P D cls (wC cB cI cJ cZ cS cP ad u) H → va_D A (wC cB cI cJ cZ cS cP ad u) → va_S A s.heap H locs → ∀ (ls : Array Slot), lv_has ls 5 [] → W p l e rm_H_process s m args below meth c H locs 0 0 (MQ below (xQ0 D cB cI cJ cZ cS cP A ad x.1 (some (.inl x.2))) args s 0 0 A) (F0 m 136 ls [.int t0]) := by
  intro u t0 x hf H locs hP hD hS ls hl
  obtain ⟨hx, hb, hr, hml, ht, hown, hK, hA, hlocks, hA0, hO, hbs⟩ := id C0
  unfold fb_H_process_136 at hf
  exact xr0_i C0 hP hD hS hf d_H_process_136
def fb_H_process_119 (N : Nat) (G : Unit) (u : CS) (t0 : Int32) : Option (CS × Int32) := some (u, t0)
set_option maxRecDepth 100000 in
set_option maxHeartbeats 4000000 in
theorem wb_H_process_119 {p : Program} {l : Launch} {e : Env} {s : State} {m : MethodId} {args : Array Value} {below : List Frame} {meth : Method} {c : Code} {s0 : State} {b0 : Nat} {D : va_G} {cB cI cJ cZ cS cP : ClassId} {A : Nat → Prop} {sk sv : Nat → Nat} {ad : Nat → Nat} (C0 : XCx p s s0 b0 m args meth c R_H b_H_process 5 (some .int) D cB cI cJ cZ cS cP A) (hE : ENV s0 b0 sk sv) (N : Nat) (G : Unit) (hG : True) : ∀ (u : CS) (t0 : Int32) (x : CS × Int32), fb_H_process_119 N G u t0 = some x → ∀ (H : Heap) (locs : List Loc), va_P D cls (wC cB cI cJ cZ cS cP ad u) H → va_D A (wC cB cI cJ cZ cS cP ad u) → va_S A s.heap H locs → ∀ (ls : Array Slot), lv_has ls 5 [] → W p l e rm_H_process s m args below meth c H locs 0 0 (MQ below (xQ0 D cB cI cJ cZ cS cP A ad x.1 (some (.inl x.2))) args s 0 0 A) (F0 m 119 ls [.int t0]) := by
  intro u t0 x hf H locs hP hD hS ls hl
  obtain ⟨hx, hb, hr, hml, ht, hown, hK, hA, hlocks, hA0, hO, hbs⟩ := id C0
  unfold fb_H_process_119 at hf
  exact xr0_i C0 hP hD hS hf d_H_process_119
def fb_H_process_115 (N : Nat) (G : Unit) (u : CS) (v3 : Option Nat) : Option (CS × Int32) := bo v3 (fun j1 => bo (gI u j1 7 9) (fun r2 => fb_H_process_119 N G u (r2)))
set_option maxRecDepth 100000 in
set_option maxHeartbeats 4000000 in
theorem wb_H_process_115 {p : Program} {l : Launch} {e : Env} {s : State} {m : MethodId} {args : Array Value} {below : List Frame} {meth : Method} {c : Code} {s0 : State} {b0 : Nat} {D : va_G} {cB cI cJ cZ cS cP : ClassId} {A : Nat → Prop} {sk sv : Nat → Nat} {ad : Nat → Nat} (C0 : XCx p s s0 b0 m args meth c R_H b_H_process 5 (some .int) D cB cI cJ cZ cS cP A) (hE : ENV s0 b0 sk sv) (N : Nat) (G : Unit) (hG : True) : ∀ (u : CS) (v3 : Option Nat) (x : CS × Int32), fb_H_process_115 N G u v3 = some x → ∀ (H : Heap) (locs : List Loc), va_P D cls (wC cB cI cJ cZ cS cP ad u) H → va_D A (wC cB cI cJ cZ cS cP ad u) → va_S A s.heap H locs → ∀ (ls : Array Slot), lv_has ls 5 [(3, va_rf (Option.map ad v3))] → W p l e rm_H_process s m args below meth c H locs 0 0 (MQ below (xQ0 D cB cI cJ cZ cS cP A ad x.1 (some (.inl x.2))) args s 0 0 A) (F0 m 115 ls []) := by
  intro u v3 x hf H locs hP hD hS ls hl
  obtain ⟨hx, hb, hr, hml, ht, hown, hK, hA, hlocks, hA0, hO, hbs⟩ := id C0
  unfold fb_H_process_115 at hf
  refine x_aload_n hx hb d_H_process_115 rfl (lv_at hl 0 rfl) ?_
  obtain ⟨j1, ej1, hf⟩ := bo_some hf
  rw [ej1]
  obtain ⟨r2, g2, hf⟩ := bo_some hf
  refine xg_I (i := j1) (k := 9) hx hb ht hown ck_Pr hK hP (by decide) fk_H_199 g2 d_H_process_116 ?_
  exact wb_H_process_119 C0 hE N G hG _ _ _ hf H locs hP hD hS ls (lv_sub hl [] rfl)
def fb_H_process_28 (N : Nat) (G : Unit) (u : CS) (v0 : Nat) (v1 : Int32) (v2 : Int32) (v3 : Option Nat) (t0 : Int32) : Option (CS × Int32) := br (decide (v2 = 0)) (bo v3 (fun j3 => bo (gI u j3 7 9) (fun r4 => br (decide (r4 = 1)) (bo (gR u v0 1 6) (fun r5 => bo r5 (fun j7 => ck (isO u j7 12) (bx (fm_Wl_isReady N u j7 v3) (fun u6 r6 => br (decide (r6 = 0)) (fb_H_process_115 N G u6 (v3)) (fb_H_process_119 N G u6 (2))))))) (fb_H_process_115 N G u (v3))))) (br (decide (v2 = 1)) (br (decide (t0 = 0)) (bo v3 (fun j8 => bo (gR u j8 7 1) (fun r9 => bo r9 (fun j10 => bo (gI u j10 4 1) (fun r11 => fb_H_process_136 N G u (r11)))))) (fb_H_process_136 N G u (0))) (br (decide (v2 = 2)) (br (decide (t0 = 0)) (bo v3 (fun j12 => bo (gI u j12 7 4) (fun r13 => fb_H_process_150 N G u (r13)))) (fb_H_process_150 N G u (0))) (br (decide (v2 = 3)) (bo v3 (fun j14 => bo (gI u j14 7 5) (fun r15 => some (u, r15)))) (br (decide (v2 = 4)) (br (decide (t0 = 0)) (bo v3 (fun j16 => bo (gI u j16 7 7) (fun r17 => fb_H_process_169 N G u (r17)))) (fb_H_process_169 N G u (0))) (br (decide (v2 = 5)) (br (decide (t0 = 0)) (bo v3 (fun j18 => bo (gI u j18 7 15) (fun r19 => fb_H_process_183 N G u (r19)))) (fb_H_process_183 N G u (0))) (br (decide (v2 = 6)) (br (decide (t0 = 0)) (bo (gR u v0 1 6) (fun r20 => bo r20 (fun j22 => ck (isO u j22 12) (bx (fm_Wl_watchesOf N u j22 v1) (fun u21 r21 => fb_H_process_201 N G u21 (r21)))))) (fb_H_process_201 N G u (0))) (br (decide (v2 = 7)) (br (decide (t0 = 0)) (bo v3 (fun j23 => bo (gI u j23 7 11) (fun r24 => br (decide (r24 = 0)) (fb_H_process_218 N G u) (fb_H_process_219 N G u (1))))) (fb_H_process_218 N G u)) (br (decide (v2 = 8)) (br (decide (t0 = 0)) (bo v3 (fun j25 => bo (gI u j25 7 12) (fun r26 => fb_H_process_233 N G u (r26)))) (fb_H_process_233 N G u ((-1)))) (br (decide (v2 = 9)) (bo v3 (fun j27 => bo (gI u j27 7 13) (fun r28 => some (u, r28)))) (br (decide (v2 = 10)) (br (decide (t0 = 0)) (bo v3 (fun j30 => ck (isO u j30 7) (bx (fm_Pr_wakes N u j30) (fun u29 r29 => fb_H_process_252 N G u29 (r29))))) (fb_H_process_252 N G u ((-1)))) (br (decide (v2 = 11)) (br (decide (t0 = 0)) (bo v3 (fun j31 => bo (gR u j31 7 1) (fun r32 => bo r32 (fun j33 => bo (gI u j33 4 9) (fun r34 => fb_H_process_269 N G u (r34)))))) (fb_H_process_269 N G u (0))) (some (u, (-1))))))))))))))
set_option maxRecDepth 100000 in
set_option maxHeartbeats 4000000 in
theorem wb_H_process_28 {p : Program} {l : Launch} {e : Env} {s : State} {m : MethodId} {args : Array Value} {below : List Frame} {meth : Method} {c : Code} {s0 : State} {b0 : Nat} {D : va_G} {cB cI cJ cZ cS cP : ClassId} {A : Nat → Prop} {sk sv : Nat → Nat} {ad : Nat → Nat} (C0 : XCx p s s0 b0 m args meth c R_H b_H_process 5 (some .int) D cB cI cJ cZ cS cP A) (hE : ENV s0 b0 sk sv) (N : Nat) (G : Unit) (hG : True) : ∀ (u : CS) (v0 : Nat) (v1 : Int32) (v2 : Int32) (v3 : Option Nat) (t0 : Int32) (x : CS × Int32), fb_H_process_28 N G u v0 v1 v2 v3 t0 = some x → ∀ (H : Heap) (locs : List Loc), va_P D cls (wC cB cI cJ cZ cS cP ad u) H → va_D A (wC cB cI cJ cZ cS cP ad u) → va_S A s.heap H locs → ∀ (ls : Array Slot), lv_has ls 5 [(0, .ref (ad v0)), (1, .int v1), (2, .int v2), (3, va_rf (Option.map ad v3))] → W p l e rm_H_process s m args below meth c H locs 0 0 (MQ below (xQ0 D cB cI cJ cZ cS cP A ad x.1 (some (.inl x.2))) args s 0 0 A) (F0 m 28 ls [.int t0]) := by
  intro u v0 v1 v2 v3 t0 x hf H locs hP hD hS ls hl
  obtain ⟨hx, hb, hr, hml, ht, hown, hK, hA, hlocks, hA0, hO, hbs⟩ := id C0
  unfold fb_H_process_28 at hf
  refine lv_istore (lv' := [(4, .int t0), (0, .ref (ad v0)), (1, .int v1), (2, .int v2), (3, va_rf (Option.map ad v3))]) hx hb d_H_process_28 hl (by decide) (by first | rfl | simp [List.filter, cat_rf]) (fun ls hl => ?_)
  refine lv_iload_n hx hb d_H_process_30 rfl (lv_at hl 3 rfl) ?_
  by_cases hc0 : v2 = 0
  · rw [br_p _ hc0] at hf
    refine lv_tableIn (tgt := 92) hx hb d_H_process_31 (by rw [hc0]; decide) (by rw [hc0]; decide) (by rw [hc0]; rfl) (by decide) ?_
    refine x_aload_n hx hb d_H_process_92 rfl (lv_at hl 4 rfl) ?_
    obtain ⟨j3, ej3, hf⟩ := bo_some hf
    rw [ej3]
    obtain ⟨r4, g4, hf⟩ := bo_some hf
    refine xg_I (i := j3) (k := 9) hx hb ht hown ck_Pr hK hP (by decide) fk_H_199 g4 d_H_process_93 ?_
    refine lv_iconst (v := 1) hx hb d_H_process_96 (by decide) ?_
    refine lv_icmp_ne (tgt := 115) hx hb d_H_process_97 (by decide) (fun hc => ?_) (fun hc => ?_)
    · rw [br_n _ hc] at hf
      exact wb_H_process_115 C0 hE N G hG _ _ _ hf H locs hP hD hS ls (lv_sub hl [4] rfl)
    · rw [br_p _ hc] at hf
      refine lv_aload_n hx hb d_H_process_100 rfl (lv_at hl 1 rfl) ?_
      obtain ⟨r5, g5, hf⟩ := bo_some hf
      refine xg_R (i := v0) (k := 6) hx hb ht hown ck_H hK hP (by decide) fk_H_69 g5 d_H_process_101 ?_
      refine x_aload_n hx hb d_H_process_104 rfl (lv_at hl 4 rfl) ?_
      obtain ⟨j7, ej7, hf⟩ := bo_some hf
      rw [ej7]
      obtain ⟨hO9, hf⟩ := ck_some hf
      obtain ⟨u6, r6, hc6, hf⟩ := bx_some hf
      refine xV0 (i := j7) (As := [va_rf (Option.map ad v3)]) (rest := []) C0 hP hD hS ck_Wl hO9 (c_Wl_isReady N hc6) k_Wl_isReady (wd_of 1300 (by decide +kernel) rfl) hi_Wl_isReady hs_Wl_isReady hini_Wl rfl rfl hd_Wl_isReady rfl rm_H_process_Wl_isReady hl.1 (Nat.le_of_ble_eq_true rfl) d_H_process_105 rfl ⟨Nat.zero_le _, Nat.zero_le _⟩ (fun H locs hP hD hS => ?_)
      refine lv_if_eq (tgt := 115) hx hb d_H_process_108 (by decide) (fun hc => ?_) (fun hc => ?_)
      · rw [br_p _ hc] at hf
        exact wb_H_process_115 C0 hE N G hG _ _ _ hf H locs hP hD hS ls (lv_sub hl [4] rfl)
      · rw [br_n _ hc] at hf
        refine lv_iconst (v := 2) hx hb d_H_process_111 (by decide) ?_
        refine lv_goto (tgt := 119) hx hb d_H_process_112 (by decide) ?_
        exact wb_H_process_119 C0 hE N G hG _ _ _ hf H locs hP hD hS ls (lv_sub hl [] rfl)
  · rw [br_n _ hc0] at hf
    by_cases hc1 : v2 = 1
    · rw [br_p _ hc1] at hf
      refine lv_tableIn (tgt := 120) hx hb d_H_process_31 (by rw [hc1]; decide) (by rw [hc1]; decide) (by rw [hc1]; rfl) (by decide) ?_
      refine lv_iload hx hb d_H_process_120 (lv_at hl 0 rfl) ?_
      refine lv_if_eq (tgt := 129) hx hb d_H_process_122 (by decide) (fun hc => ?_) (fun hc => ?_)
      · rw [br_p _ hc] at hf
        refine x_aload_n hx hb d_H_process_129 rfl (lv_at hl 4 rfl) ?_
        obtain ⟨j8, ej8, hf⟩ := bo_some hf
        rw [ej8]
        obtain ⟨r9, g9, hf⟩ := bo_some hf
        refine xg_R (i := j8) (k := 1) hx hb ht hown ck_Pr hK hP (by decide) fk_H_176 g9 d_H_process_130 ?_
        obtain ⟨j10, ej10, hf⟩ := bo_some hf
        rw [ej10]
        obtain ⟨r11, g11, hf⟩ := bo_some hf
        refine xg_I (i := j10) (k := 1) hx hb ht hown ck_Fr hK hP (by decide) fk_H_236 g11 d_H_process_133 ?_
        exact wb_H_process_136 C0 hE N G hG _ _ _ hf H locs hP hD hS ls (lv_sub hl [] rfl)
      · rw [br_n _ hc] at hf
        refine lv_iconst (v := 0) hx hb d_H_process_125 (by decide) ?_
        refine lv_goto (tgt := 136) hx hb d_H_process_126 (by decide) ?_
        exact wb_H_process_136 C0 hE N G hG _ _ _ hf H locs hP hD hS ls (lv_sub hl [] rfl)
    · rw [br_n _ hc1] at hf
      by_cases hc2 : v2 = 2
      · rw [br_p _ hc2] at hf
        refine lv_tableIn (tgt := 137) hx hb d_H_process_31 (by rw [hc2]; decide) (by rw [hc2]; decide) (by rw [hc2]; rfl) (by decide) ?_
        refine lv_iload hx hb d_H_process_137 (lv_at hl 0 rfl) ?_
        refine lv_if_eq (tgt := 146) hx hb d_H_process_139 (by decide) (fun hc => ?_) (fun hc => ?_)
        · rw [br_p _ hc] at hf
          refine x_aload_n hx hb d_H_process_146 rfl (lv_at hl 4 rfl) ?_
          obtain ⟨j12, ej12, hf⟩ := bo_some hf
          rw [ej12]
          obtain ⟨r13, g13, hf⟩ := bo_some hf
          refine xg_I (i := j12) (k := 4) hx hb ht hown ck_Pr hK hP (by decide) fk_H_237 g13 d_H_process_147 ?_
          exact wb_H_process_150 C0 hE N G hG _ _ _ hf H locs hP hD hS ls (lv_sub hl [] rfl)
        · rw [br_n _ hc] at hf
          refine lv_iconst (v := 0) hx hb d_H_process_142 (by decide) ?_
          refine lv_goto (tgt := 150) hx hb d_H_process_143 (by decide) ?_
          exact wb_H_process_150 C0 hE N G hG _ _ _ hf H locs hP hD hS ls (lv_sub hl [] rfl)
      · rw [br_n _ hc2] at hf
        by_cases hc3 : v2 = 3
        · rw [br_p _ hc3] at hf
          refine lv_tableIn (tgt := 151) hx hb d_H_process_31 (by rw [hc3]; decide) (by rw [hc3]; decide) (by rw [hc3]; rfl) (by decide) ?_
          refine x_aload_n hx hb d_H_process_151 rfl (lv_at hl 4 rfl) ?_
          obtain ⟨j14, ej14, hf⟩ := bo_some hf
          rw [ej14]
          obtain ⟨r15, g15, hf⟩ := bo_some hf
          refine xg_I (i := j14) (k := 5) hx hb ht hown ck_Pr hK hP (by decide) fk_H_240 g15 d_H_process_152 ?_
          exact xr0_i C0 hP hD hS hf d_H_process_155
        · rw [br_n _ hc3] at hf
          by_cases hc4 : v2 = 4
          · rw [br_p _ hc4] at hf
            refine lv_tableIn (tgt := 156) hx hb d_H_process_31 (by rw [hc4]; decide) (by rw [hc4]; decide) (by rw [hc4]; rfl) (by decide) ?_
            refine lv_iload hx hb d_H_process_156 (lv_at hl 0 rfl) ?_
            refine lv_if_eq (tgt := 165) hx hb d_H_process_158 (by decide) (fun hc => ?_) (fun hc => ?_)
            · rw [br_p _ hc] at hf
              refine x_aload_n hx hb d_H_process_165 rfl (lv_at hl 4 rfl) ?_
              obtain ⟨j16, ej16, hf⟩ := bo_some hf
              rw [ej16]
              obtain ⟨r17, g17, hf⟩ := bo_some hf
              refine xg_I (i := j16) (k := 7) hx hb ht hown ck_Pr hK hP (by decide) fk_H_243 g17 d_H_process_166 ?_
              exact wb_H_process_169 C0 hE N G hG _ _ _ hf H locs hP hD hS ls (lv_sub hl [] rfl)
            · rw [br_n _ hc] at hf
              refine lv_iconst (v := 0) hx hb d_H_process_161 (by decide) ?_
              refine lv_goto (tgt := 169) hx hb d_H_process_162 (by decide) ?_
              exact wb_H_process_169 C0 hE N G hG _ _ _ hf H locs hP hD hS ls (lv_sub hl [] rfl)
          · rw [br_n _ hc4] at hf
            by_cases hc5 : v2 = 5
            · rw [br_p _ hc5] at hf
              refine lv_tableIn (tgt := 170) hx hb d_H_process_31 (by rw [hc5]; decide) (by rw [hc5]; decide) (by rw [hc5]; rfl) (by decide) ?_
              refine lv_iload hx hb d_H_process_170 (lv_at hl 0 rfl) ?_
              refine lv_if_eq (tgt := 179) hx hb d_H_process_172 (by decide) (fun hc => ?_) (fun hc => ?_)
              · rw [br_p _ hc] at hf
                refine x_aload_n hx hb d_H_process_179 rfl (lv_at hl 4 rfl) ?_
                obtain ⟨j18, ej18, hf⟩ := bo_some hf
                rw [ej18]
                obtain ⟨r19, g19, hf⟩ := bo_some hf
                refine xg_I (i := j18) (k := 15) hx hb ht hown ck_Pr hK hP (by decide) fk_H_246 g19 d_H_process_180 ?_
                exact wb_H_process_183 C0 hE N G hG _ _ _ hf H locs hP hD hS ls (lv_sub hl [] rfl)
              · rw [br_n _ hc] at hf
                refine lv_iconst (v := 0) hx hb d_H_process_175 (by decide) ?_
                refine lv_goto (tgt := 183) hx hb d_H_process_176 (by decide) ?_
                exact wb_H_process_183 C0 hE N G hG _ _ _ hf H locs hP hD hS ls (lv_sub hl [] rfl)
            · rw [br_n _ hc5] at hf
              by_cases hc6 : v2 = 6
              · rw [br_p _ hc6] at hf
                refine lv_tableIn (tgt := 184) hx hb d_H_process_31 (by rw [hc6]; decide) (by rw [hc6]; decide) (by rw [hc6]; rfl) (by decide) ?_
                refine lv_iload hx hb d_H_process_184 (lv_at hl 0 rfl) ?_
                refine lv_if_eq (tgt := 193) hx hb d_H_process_186 (by decide) (fun hc => ?_) (fun hc => ?_)
                · rw [br_p _ hc] at hf
                  refine lv_aload_n hx hb d_H_process_193 rfl (lv_at hl 1 rfl) ?_
                  obtain ⟨r20, g20, hf⟩ := bo_some hf
                  refine xg_R (i := v0) (k := 6) hx hb ht hown ck_H hK hP (by decide) fk_H_69 g20 d_H_process_194 ?_
                  refine lv_iload_n hx hb d_H_process_197 rfl (lv_at hl 2 rfl) ?_
                  obtain ⟨j22, ej22, hf⟩ := bo_some hf
                  rw [ej22]
                  obtain ⟨hO9, hf⟩ := ck_some hf
                  obtain ⟨u21, r21, hc21, hf⟩ := bx_some hf
                  refine xV0 (i := j22) (As := [.int v1]) (rest := []) C0 hP hD hS ck_Wl hO9 (c_Wl_watchesOf N hc21) k_Wl_watchesOf (wd_of 1305 (by decide +kernel) rfl) hi_Wl_watchesOf hs_Wl_watchesOf hini_Wl rfl rfl hd_Wl_watchesOf rfl rm_H_process_Wl_watchesOf hl.1 (Nat.le_of_ble_eq_true rfl) d_H_process_198 rfl ⟨Nat.zero_le _, Nat.zero_le _⟩ (fun H locs hP hD hS => ?_)
                  exact wb_H_process_201 C0 hE N G hG _ _ _ hf H locs hP hD hS ls (lv_sub hl [] rfl)
                · rw [br_n _ hc] at hf
                  refine lv_iconst (v := 0) hx hb d_H_process_189 (by decide) ?_
                  refine lv_goto (tgt := 201) hx hb d_H_process_190 (by decide) ?_
                  exact wb_H_process_201 C0 hE N G hG _ _ _ hf H locs hP hD hS ls (lv_sub hl [] rfl)
              · rw [br_n _ hc6] at hf
                by_cases hc7 : v2 = 7
                · rw [br_p _ hc7] at hf
                  refine lv_tableIn (tgt := 202) hx hb d_H_process_31 (by rw [hc7]; decide) (by rw [hc7]; decide) (by rw [hc7]; rfl) (by decide) ?_
                  refine lv_iload hx hb d_H_process_202 (lv_at hl 0 rfl) ?_
                  refine lv_if_ne (tgt := 218) hx hb d_H_process_204 (by decide) (fun hc => ?_) (fun hc => ?_)
                  · rw [br_n _ hc] at hf
                    exact wb_H_process_218 C0 hE N G hG _ _ hf H locs hP hD hS ls (lv_sub hl [] rfl)
                  · rw [br_p _ hc] at hf
                    refine x_aload_n hx hb d_H_process_207 rfl (lv_at hl 4 rfl) ?_
                    obtain ⟨j23, ej23, hf⟩ := bo_some hf
                    rw [ej23]
                    obtain ⟨r24, g24, hf⟩ := bo_some hf
                    refine xg_I (i := j23) (k := 11) hx hb ht hown ck_Pr hK hP (by decide) fk_H_253 g24 d_H_process_208 ?_
                    refine lv_if_eq (tgt := 218) hx hb d_H_process_211 (by decide) (fun hc => ?_) (fun hc => ?_)
                    · rw [br_p _ hc] at hf
                      exact wb_H_process_218 C0 hE N G hG _ _ hf H locs hP hD hS ls (lv_sub hl [] rfl)
                    · rw [br_n _ hc] at hf
                      refine lv_iconst (v := 1) hx hb d_H_process_214 (by decide) ?_
                      refine lv_goto (tgt := 219) hx hb d_H_process_215 (by decide) ?_
                      exact wb_H_process_219 C0 hE N G hG _ _ _ hf H locs hP hD hS ls (lv_sub hl [] rfl)
                · rw [br_n _ hc7] at hf
                  by_cases hc8 : v2 = 8
                  · rw [br_p _ hc8] at hf
                    refine lv_tableIn (tgt := 220) hx hb d_H_process_31 (by rw [hc8]; decide) (by rw [hc8]; decide) (by rw [hc8]; rfl) (by decide) ?_
                    refine lv_iload hx hb d_H_process_220 (lv_at hl 0 rfl) ?_
                    refine lv_if_eq (tgt := 229) hx hb d_H_process_222 (by decide) (fun hc => ?_) (fun hc => ?_)
                    · rw [br_p _ hc] at hf
                      refine x_aload_n hx hb d_H_process_229 rfl (lv_at hl 4 rfl) ?_
                      obtain ⟨j25, ej25, hf⟩ := bo_some hf
                      rw [ej25]
                      obtain ⟨r26, g26, hf⟩ := bo_some hf
                      refine xg_I (i := j25) (k := 12) hx hb ht hown ck_Pr hK hP (by decide) fk_H_256 g26 d_H_process_230 ?_
                      exact wb_H_process_233 C0 hE N G hG _ _ _ hf H locs hP hD hS ls (lv_sub hl [] rfl)
                    · rw [br_n _ hc] at hf
                      refine lv_iconst (v := (-1)) hx hb d_H_process_225 (by decide) ?_
                      refine lv_goto (tgt := 233) hx hb d_H_process_226 (by decide) ?_
                      exact wb_H_process_233 C0 hE N G hG _ _ _ hf H locs hP hD hS ls (lv_sub hl [] rfl)
                  · rw [br_n _ hc8] at hf
                    by_cases hc9 : v2 = 9
                    · rw [br_p _ hc9] at hf
                      refine lv_tableIn (tgt := 234) hx hb d_H_process_31 (by rw [hc9]; decide) (by rw [hc9]; decide) (by rw [hc9]; rfl) (by decide) ?_
                      refine x_aload_n hx hb d_H_process_234 rfl (lv_at hl 4 rfl) ?_
                      obtain ⟨j27, ej27, hf⟩ := bo_some hf
                      rw [ej27]
                      obtain ⟨r28, g28, hf⟩ := bo_some hf
                      refine xg_I (i := j27) (k := 13) hx hb ht hown ck_Pr hK hP (by decide) fk_H_259 g28 d_H_process_235 ?_
                      exact xr0_i C0 hP hD hS hf d_H_process_238
                    · rw [br_n _ hc9] at hf
                      by_cases hc10 : v2 = 10
                      · rw [br_p _ hc10] at hf
                        refine lv_tableIn (tgt := 239) hx hb d_H_process_31 (by rw [hc10]; decide) (by rw [hc10]; decide) (by rw [hc10]; rfl) (by decide) ?_
                        refine lv_iload hx hb d_H_process_239 (lv_at hl 0 rfl) ?_
                        refine lv_if_eq (tgt := 248) hx hb d_H_process_241 (by decide) (fun hc => ?_) (fun hc => ?_)
                        · rw [br_p _ hc] at hf
                          refine x_aload_n hx hb d_H_process_248 rfl (lv_at hl 4 rfl) ?_
                          obtain ⟨j30, ej30, hf⟩ := bo_some hf
                          rw [ej30]
                          obtain ⟨hO9, hf⟩ := ck_some hf
                          obtain ⟨u29, r29, hc29, hf⟩ := bx_some hf
                          refine xV0 (i := j30) (As := []) (rest := []) C0 hP hD hS ck_Pr hO9 (c_Pr_wakes N hE hc29) k_Pr_wakes (wd_of 1309 (by decide +kernel) rfl) hi_Pr_wakes hs_Pr_wakes hini_Pr rfl rfl hd_Pr_wakes rfl rm_H_process_Pr_wakes hl.1 (Nat.le_of_ble_eq_true rfl) d_H_process_249 rfl ⟨Nat.zero_le _, Nat.zero_le _⟩ (fun H locs hP hD hS => ?_)
                          exact wb_H_process_252 C0 hE N G hG _ _ _ hf H locs hP hD hS ls (lv_sub hl [] rfl)
                        · rw [br_n _ hc] at hf
                          refine lv_iconst (v := (-1)) hx hb d_H_process_244 (by decide) ?_
                          refine lv_goto (tgt := 252) hx hb d_H_process_245 (by decide) ?_
                          exact wb_H_process_252 C0 hE N G hG _ _ _ hf H locs hP hD hS ls (lv_sub hl [] rfl)
                      · rw [br_n _ hc10] at hf
                        by_cases hc11 : v2 = 11
                        · rw [br_p _ hc11] at hf
                          refine lv_tableIn (tgt := 253) hx hb d_H_process_31 (by rw [hc11]; decide) (by rw [hc11]; decide) (by rw [hc11]; rfl) (by decide) ?_
                          refine lv_iload hx hb d_H_process_253 (lv_at hl 0 rfl) ?_
                          refine lv_if_eq (tgt := 262) hx hb d_H_process_255 (by decide) (fun hc => ?_) (fun hc => ?_)
                          · rw [br_p _ hc] at hf
                            refine x_aload_n hx hb d_H_process_262 rfl (lv_at hl 4 rfl) ?_
                            obtain ⟨j31, ej31, hf⟩ := bo_some hf
                            rw [ej31]
                            obtain ⟨r32, g32, hf⟩ := bo_some hf
                            refine xg_R (i := j31) (k := 1) hx hb ht hown ck_Pr hK hP (by decide) fk_H_176 g32 d_H_process_263 ?_
                            obtain ⟨j33, ej33, hf⟩ := bo_some hf
                            rw [ej33]
                            obtain ⟨r34, g34, hf⟩ := bo_some hf
                            refine xg_I (i := j33) (k := 9) hx hb ht hown ck_Fr hK hP (by decide) fk_H_263 g34 d_H_process_266 ?_
                            exact wb_H_process_269 C0 hE N G hG _ _ _ hf H locs hP hD hS ls (lv_sub hl [] rfl)
                          · rw [br_n _ hc] at hf
                            refine lv_iconst (v := 0) hx hb d_H_process_258 (by decide) ?_
                            refine lv_goto (tgt := 269) hx hb d_H_process_259 (by decide) ?_
                            exact wb_H_process_269 C0 hE N G hG _ _ _ hf H locs hP hD hS ls (lv_sub hl [] rfl)
                        · rw [br_n _ hc11] at hf
                          refine lv_tableOut (tgt := 270) hx hb d_H_process_31 (by have z0 := tiN hc0; have z1 := tiN hc1; have z2 := tiN hc2; have z3 := tiN hc3; have z4 := tiN hc4; have z5 := tiN hc5; have z6 := tiN hc6; have z7 := tiN hc7; have z8 := tiN hc8; have z9 := tiN hc9; have z10 := tiN hc10; have z11 := tiN hc11; rw [show (0 : Int32).toInt = 0 from by decide] at z0; rw [show (1 : Int32).toInt = 1 from by decide] at z1; rw [show (2 : Int32).toInt = 2 from by decide] at z2; rw [show (3 : Int32).toInt = 3 from by decide] at z3; rw [show (4 : Int32).toInt = 4 from by decide] at z4; rw [show (5 : Int32).toInt = 5 from by decide] at z5; rw [show (6 : Int32).toInt = 6 from by decide] at z6; rw [show (7 : Int32).toInt = 7 from by decide] at z7; rw [show (8 : Int32).toInt = 8 from by decide] at z8; rw [show (9 : Int32).toInt = 9 from by decide] at z9; rw [show (10 : Int32).toInt = 10 from by decide] at z10; rw [show (11 : Int32).toInt = 11 from by decide] at z11; omega) (by decide) ?_
                          refine lv_iconst (v := (-1)) hx hb d_H_process_270 (by decide) ?_
                          exact xr0_i C0 hP hD hS hf d_H_process_271
def fb_H_process_0 (N : Nat) (G : Unit) (u : CS) (v0 : Nat) (v1 : Int32) (v2 : Int32) : Option (CS × Int32) := bo (gR u v0 1 6) (fun r35 => bo r35 (fun j37 => ck (isO u j37 12) (bx (fm_Wl_find N u j37 v1) (fun u36 r36 => br (decide (r36 = none)) (some (u36, (-1))) (bo r36 (fun j38 => bo (gI u36 j38 7 9) (fun r39 => br (decide (r39 = 3)) (fb_H_process_28 N G u36 (v0) (v1) (v2) (r36) (1)) (fb_H_process_28 N G u36 (v0) (v1) (v2) (r36) (0)))))))))
set_option maxRecDepth 100000 in
set_option maxHeartbeats 4000000 in
theorem wb_H_process_0 {p : Program} {l : Launch} {e : Env} {s : State} {m : MethodId} {args : Array Value} {below : List Frame} {meth : Method} {c : Code} {s0 : State} {b0 : Nat} {D : va_G} {cB cI cJ cZ cS cP : ClassId} {A : Nat → Prop} {sk sv : Nat → Nat} {ad : Nat → Nat} (C0 : XCx p s s0 b0 m args meth c R_H b_H_process 5 (some .int) D cB cI cJ cZ cS cP A) (hE : ENV s0 b0 sk sv) (N : Nat) (G : Unit) (hG : True) : ∀ (u : CS) (v0 : Nat) (v1 : Int32) (v2 : Int32) (x : CS × Int32), fb_H_process_0 N G u v0 v1 v2 = some x → ∀ (H : Heap) (locs : List Loc), va_P D cls (wC cB cI cJ cZ cS cP ad u) H → va_D A (wC cB cI cJ cZ cS cP ad u) → va_S A s.heap H locs → ∀ (ls : Array Slot), lv_has ls 5 [(0, .ref (ad v0)), (1, .int v1), (2, .int v2)] → W p l e rm_H_process s m args below meth c H locs 0 0 (MQ below (xQ0 D cB cI cJ cZ cS cP A ad x.1 (some (.inl x.2))) args s 0 0 A) (F0 m 0 ls []) := by
  intro u v0 v1 v2 x hf H locs hP hD hS ls hl
  obtain ⟨hx, hb, hr, hml, ht, hown, hK, hA, hlocks, hA0, hO, hbs⟩ := id C0
  unfold fb_H_process_0 at hf
  refine lv_aload_n hx hb d_H_process_0 rfl (lv_at hl 0 rfl) ?_
  obtain ⟨r35, g35, hf⟩ := bo_some hf
  refine xg_R (i := v0) (k := 6) hx hb ht hown ck_H hK hP (by decide) fk_H_69 g35 d_H_process_1 ?_
  refine lv_iload_n hx hb d_H_process_4 rfl (lv_at hl 1 rfl) ?_
  obtain ⟨j37, ej37, hf⟩ := bo_some hf
  rw [ej37]
  obtain ⟨hO9, hf⟩ := ck_some hf
  obtain ⟨u36, r36, hc36, hf⟩ := bx_some hf
  refine xV0 (i := j37) (As := [.int v1]) (rest := []) C0 hP hD hS ck_Wl hO9 (c_Wl_find N hE hc36) k_Wl_find (wd_of 1296 (by decide +kernel) rfl) hi_Wl_find hs_Wl_find hini_Wl rfl rfl hd_Wl_find rfl rm_H_process_Wl_find hl.1 (Nat.le_of_ble_eq_true rfl) d_H_process_5 rfl ⟨Nat.zero_le _, Nat.zero_le _⟩ (fun H locs hP hD hS => ?_)
  refine x_astore_n (lv' := [(3, va_rf (Option.map ad r36)), (0, .ref (ad v0)), (1, .int v1), (2, .int v2)]) hx hb d_H_process_8 rfl hl (by decide) (by first | rfl | simp [List.filter, cat_rf]) (fun ls hl => ?_)
  refine x_aload_n hx hb d_H_process_9 rfl (lv_at hl 0 rfl) ?_
  refine x_ifnonnull (r := r36) (tgt := 15) hx hb d_H_process_10 (by decide) (fun hc => ?_) (fun hc => ?_)
  · rw [br_n _ hc] at hf
    refine x_aload_n hx hb d_H_process_15 rfl (lv_at hl 0 rfl) ?_
    obtain ⟨j38, ej38, hf⟩ := bo_some hf
    rw [ej38]
    obtain ⟨r39, g39, hf⟩ := bo_some hf
    refine xg_I (i := j38) (k := 9) hx hb ht hown ck_Pr hK hP (by decide) fk_H_199 g39 d_H_process_16 ?_
    refine lv_iconst (v := 3) hx hb d_H_process_19 (by decide) ?_
    refine lv_icmp_ne (tgt := 27) hx hb d_H_process_20 (by decide) (fun hc => ?_) (fun hc => ?_)
    · rw [br_n _ hc] at hf
      refine lv_iconst (v := 0) hx hb d_H_process_27 (by decide) ?_
      exact wb_H_process_28 C0 hE N G hG _ _ _ _ _ _ _ hf H locs hP hD hS ls (lv_sub hl [1, 2, 3, 0] rfl)
    · rw [br_p _ hc] at hf
      refine lv_iconst (v := 1) hx hb d_H_process_23 (by decide) ?_
      refine lv_goto (tgt := 28) hx hb d_H_process_24 (by decide) ?_
      exact wb_H_process_28 C0 hE N G hG _ _ _ _ _ _ _ hf H locs hP hD hS ls (lv_sub hl [1, 2, 3, 0] rfl)
  · rw [br_p _ hc] at hf
    refine lv_iconst (v := (-1)) hx hb d_H_process_13 (by decide) ?_
    exact xr0_i C0 hP hD hS hf d_H_process_14
def fm_H_process (N : Nat) (u : CS) (v0 : Nat) (v1 : Int32) (v2 : Int32) : Option (CS × Int32) := fb_H_process_0 N () u v0 v1 v2
set_option maxRecDepth 100000 in
set_option maxHeartbeats 4000000 in
theorem c_H_process (N : Nat) {l : Launch} {s0 : State} {b0 : Nat} {D : va_G} {cB cI cJ cZ cS cP : ClassId} {sk sv : Nat → Nat} {ad : Nat → Nat} {u : CS} {sz : Nat} {v0 : Nat} {v1 : Int32} {v2 : Int32} {x : CS × Int32} (hE : ENV s0 b0 sk sv) (hf : fm_H_process N u v0 v1 v2 = some x) : Met l y_H_process (wd_ws y_H_process b_H_process 5 (some .int)) rm_H_process (xPc s0 b0 D cB cI cJ cZ cS cP ad u sz [.ref (ad v0), .int v1, .int v2]) (xQ0 D cB cI cJ cZ cS cP (xA cB cI cJ cZ cS cP ad u sz) ad x.1 (some (.inl x.2))) 0 0 (xA cB cI cJ cZ cS cP ad u sz) :=
  xMet (by decide) rfl (Nat.le_of_ble_eq_true rfl) (fun p e s m below meth c ls hsz hnm C0 hP hD hS hl =>
    wb_H_process_0 C0 hE N () trivial u _ _ _ x hf s.heap [] hP hD hS ls (lv_sub hl [0, 1, 2] rfl))
abbrev b_H_frame : ByteArray := prog_1_method_14_code
def y_H_frame : MethodName := ⟨R_H, "frame", "(III)I"⟩
def w_H_frame : List Cond := wd_ws y_H_frame b_H_frame 6 (some .int)
set_option maxRecDepth 100000 in
theorem k_H_frame : Cond.code y_H_frame b_H_frame 6 (some .int) ∈ wd_tbl := wd_of 1319 rfl rfl
theorem d_H_frame_0 : decode b_H_frame 0 = .ok (.aload_n 0, 1) := by decide +kernel
theorem d_H_frame_1 : decode b_H_frame 1 = .ok (.getfield 69, 3) := by decide +kernel
theorem d_H_frame_4 : decode b_H_frame 4 = .ok (.iload_n 1, 1) := by decide +kernel
theorem d_H_frame_5 : decode b_H_frame 5 = .ok (.invokevirtual 193, 3) := by decide +kernel
theorem d_H_frame_8 : decode b_H_frame 8 = .ok (.astore 4, 2) := by decide +kernel
theorem d_H_frame_10 : decode b_H_frame 10 = .ok (.aload 4, 2) := by decide +kernel
theorem d_H_frame_12 : decode b_H_frame 12 = .ok (.ifnull 28, 3) := by decide +kernel
theorem d_H_frame_15 : decode b_H_frame 15 = .ok (.aload 4, 2) := by decide +kernel
theorem d_H_frame_17 : decode b_H_frame 17 = .ok (.getfield 199, 3) := by decide +kernel
theorem d_H_frame_20 : decode b_H_frame 20 = .ok (.iconst 3, 1) := by decide +kernel
theorem d_H_frame_21 : decode b_H_frame 21 = .ok (.if_icmp .eq 19, 3) := by decide +kernel
theorem d_H_frame_24 : decode b_H_frame 24 = .ok (.iload_n 2, 1) := by decide +kernel
theorem d_H_frame_25 : decode b_H_frame 25 = .ok (.ifCond .lt 15, 3) := by decide +kernel
theorem d_H_frame_28 : decode b_H_frame 28 = .ok (.iload_n 2, 1) := by decide +kernel
theorem d_H_frame_29 : decode b_H_frame 29 = .ok (.aload 4, 2) := by decide +kernel
theorem d_H_frame_31 : decode b_H_frame 31 = .ok (.getfield 176, 3) := by decide +kernel
theorem d_H_frame_34 : decode b_H_frame 34 = .ok (.getfield 236, 3) := by decide +kernel
theorem d_H_frame_37 : decode b_H_frame 37 = .ok (.if_icmp .lt 5, 3) := by decide +kernel
theorem d_H_frame_40 : decode b_H_frame 40 = .ok (.iconst (-1), 1) := by decide +kernel
theorem d_H_frame_41 : decode b_H_frame 41 = .ok (.ireturn, 1) := by decide +kernel
theorem d_H_frame_42 : decode b_H_frame 42 = .ok (.aload 4, 2) := by decide +kernel
theorem d_H_frame_44 : decode b_H_frame 44 = .ok (.getfield 176, 3) := by decide +kernel
theorem d_H_frame_47 : decode b_H_frame 47 = .ok (.getfield 236, 3) := by decide +kernel
theorem d_H_frame_50 : decode b_H_frame 50 = .ok (.iconst 1, 1) := by decide +kernel
theorem d_H_frame_51 : decode b_H_frame 51 = .ok (.isub, 1) := by decide +kernel
theorem d_H_frame_52 : decode b_H_frame 52 = .ok (.iload_n 2, 1) := by decide +kernel
theorem d_H_frame_53 : decode b_H_frame 53 = .ok (.isub, 1) := by decide +kernel
theorem d_H_frame_54 : decode b_H_frame 54 = .ok (.istore 5, 2) := by decide +kernel
theorem d_H_frame_56 : decode b_H_frame 56 = .ok (.iload_n 3, 1) := by decide +kernel
theorem d_H_frame_57 : decode b_H_frame 57 = .ok (.tableswitch 77 0 3 #[31, 43, 55, 66], 31) := by decide +kernel
theorem d_H_frame_88 : decode b_H_frame 88 = .ok (.aload 4, 2) := by decide +kernel
theorem d_H_frame_90 : decode b_H_frame 90 = .ok (.getfield 176, 3) := by decide +kernel
theorem d_H_frame_93 : decode b_H_frame 93 = .ok (.iload 5, 2) := by decide +kernel
theorem d_H_frame_95 : decode b_H_frame 95 = .ok (.iconst 0, 1) := by decide +kernel
theorem d_H_frame_96 : decode b_H_frame 96 = .ok (.invokevirtual 266, 3) := by decide +kernel
theorem d_H_frame_99 : decode b_H_frame 99 = .ok (.ireturn, 1) := by decide +kernel
theorem d_H_frame_100 : decode b_H_frame 100 = .ok (.aload 4, 2) := by decide +kernel
theorem d_H_frame_102 : decode b_H_frame 102 = .ok (.getfield 176, 3) := by decide +kernel
theorem d_H_frame_105 : decode b_H_frame 105 = .ok (.iload 5, 2) := by decide +kernel
theorem d_H_frame_107 : decode b_H_frame 107 = .ok (.iconst 1, 1) := by decide +kernel
theorem d_H_frame_108 : decode b_H_frame 108 = .ok (.invokevirtual 266, 3) := by decide +kernel
theorem d_H_frame_111 : decode b_H_frame 111 = .ok (.ireturn, 1) := by decide +kernel
theorem d_H_frame_112 : decode b_H_frame 112 = .ok (.aload 4, 2) := by decide +kernel
theorem d_H_frame_114 : decode b_H_frame 114 = .ok (.getfield 176, 3) := by decide +kernel
theorem d_H_frame_117 : decode b_H_frame 117 = .ok (.iload 5, 2) := by decide +kernel
theorem d_H_frame_119 : decode b_H_frame 119 = .ok (.invokevirtual 269, 3) := by decide +kernel
theorem d_H_frame_122 : decode b_H_frame 122 = .ok (.ireturn, 1) := by decide +kernel
theorem d_H_frame_123 : decode b_H_frame 123 = .ok (.aload 4, 2) := by decide +kernel
theorem d_H_frame_125 : decode b_H_frame 125 = .ok (.getfield 176, 3) := by decide +kernel
theorem d_H_frame_128 : decode b_H_frame 128 = .ok (.iload 5, 2) := by decide +kernel
theorem d_H_frame_130 : decode b_H_frame 130 = .ok (.invokevirtual 272, 3) := by decide +kernel
theorem d_H_frame_133 : decode b_H_frame 133 = .ok (.ireturn, 1) := by decide +kernel
theorem d_H_frame_134 : decode b_H_frame 134 = .ok (.iconst (-1), 1) := by decide +kernel
theorem d_H_frame_135 : decode b_H_frame 135 = .ok (.ireturn, 1) := by decide +kernel
set_option maxRecDepth 100000 in
theorem hi_H_frame : Cond.instanceMethod y_H_frame ∈ wd_tbl := wd_of 1317 (by decide +kernel) rfl
set_option maxRecDepth 100000 in
theorem hs_H_frame : Cond.selects R_H y_H_frame y_H_frame ∈ wd_tbl := wd_of 1318 (by decide +kernel) rfl
theorem hd_H_frame : y_H_frame.cls = R_H ∧ y_H_frame.cls ≠ "java/lang/invoke/MethodHandle" ∧ y_H_frame.cls ≠ "java/lang/invoke/VarHandle" ∧ (parseMethodDescriptor y_H_frame.desc).map (fun d => d.parameters.length) = some 3 := by decide +kernel
def rm_H_frame : Room := { frames := 2, cells := 0, slots := 0, locals := 43 }
theorem rm_H_frame_Wl_find : (rm_Wl_find).frames + 1 ≤ rm_H_frame.frames ∧ 8 + (2 + 11) + (rm_Wl_find).locals ≤ rm_H_frame.locals := by
  show 0 + 1 ≤ 2 ∧ 8 + (2 + 11) + 0 ≤ 43
  decide
theorem rm_H_frame_Fr_of : (rm_Fr_of).frames + 1 ≤ rm_H_frame.frames ∧ 8 + (3 + 11) + (rm_Fr_of).locals ≤ rm_H_frame.locals := by
  show 0 + 1 ≤ 2 ∧ 8 + (3 + 11) + 0 ≤ 43
  decide
theorem rm_H_frame_Fr_namesIn : (rm_Fr_namesIn).frames + 1 ≤ rm_H_frame.frames ∧ 8 + (2 + 11) + (rm_Fr_namesIn).locals ≤ rm_H_frame.locals := by
  show 1 + 1 ≤ 2 ∧ 8 + (2 + 11) + 22 ≤ 43
  decide
theorem rm_H_frame_Fr_waitsIn : (rm_Fr_waitsIn).frames + 1 ≤ rm_H_frame.frames ∧ 8 + (2 + 11) + (rm_Fr_waitsIn).locals ≤ rm_H_frame.locals := by
  show 1 + 1 ≤ 2 ∧ 8 + (2 + 11) + 22 ≤ 43
  decide
def fb_H_frame_40 (N : Nat) (G : Unit) (u : CS) : Option (CS × Int32) := some (u, (-1))
set_option maxRecDepth 100000 in
set_option maxHeartbeats 4000000 in
theorem wb_H_frame_40 {p : Program} {l : Launch} {e : Env} {s : State} {m : MethodId} {args : Array Value} {below : List Frame} {meth : Method} {c : Code} {s0 : State} {b0 : Nat} {D : va_G} {cB cI cJ cZ cS cP : ClassId} {A : Nat → Prop} {sk sv : Nat → Nat} {ad : Nat → Nat} (C0 : XCx p s s0 b0 m args meth c R_H b_H_frame 6 (some .int) D cB cI cJ cZ cS cP A) (hE : ENV s0 b0 sk sv) (N : Nat) (G : Unit) (hG : True) : ∀ (u : CS) (x : CS × Int32), fb_H_frame_40 N G u = some x → ∀ (H : Heap) (locs : List Loc), va_P D cls (wC cB cI cJ cZ cS cP ad u) H → va_D A (wC cB cI cJ cZ cS cP ad u) → va_S A s.heap H locs → ∀ (ls : Array Slot), lv_has ls 6 [] → W p l e rm_H_frame s m args below meth c H locs 0 0 (MQ below (xQ0 D cB cI cJ cZ cS cP A ad x.1 (some (.inl x.2))) args s 0 0 A) (F0 m 40 ls []) := by
  intro u x hf H locs hP hD hS ls hl
  obtain ⟨hx, hb, hr, hml, ht, hown, hK, hA, hlocks, hA0, hO, hbs⟩ := id C0
  unfold fb_H_frame_40 at hf
  refine lv_iconst (v := (-1)) hx hb d_H_frame_40 (by decide) ?_
  exact xr0_i C0 hP hD hS hf d_H_frame_41
def fb_H_frame_0 (N : Nat) (G : Unit) (u : CS) (v0 : Nat) (v1 : Int32) (v2 : Int32) (v3 : Int32) : Option (CS × Int32) := bo (gR u v0 1 6) (fun r1 => bo r1 (fun j3 => ck (isO u j3 12) (bx (fm_Wl_find N u j3 v1) (fun u2 r2 => br (decide (r2 = none)) (fb_H_frame_40 N G u2) (bo r2 (fun j4 => bo (gI u2 j4 7 9) (fun r5 => br (decide (r5 = 3)) (fb_H_frame_40 N G u2) (br (decide (v2 < 0)) (fb_H_frame_40 N G u2) (bo r2 (fun j6 => bo (gR u2 j6 7 1) (fun r7 => bo r7 (fun j8 => bo (gI u2 j8 4 1) (fun r9 => br (decide (v2 < r9)) (bo r2 (fun j10 => bo (gR u2 j10 7 1) (fun r11 => bo r11 (fun j12 => bo (gI u2 j12 4 1) (fun r13 => br (decide (v3 = 0)) (bo r2 (fun j14 => bo (gR u2 j14 7 1) (fun r15 => bo r15 (fun j17 => ck (isO u2 j17 4) (bx (fm_Fr_of N u2 j17 ((r13 - 1) - v2) 0) (fun u16 r16 => some (u16, r16))))))) (br (decide (v3 = 1)) (bo r2 (fun j18 => bo (gR u2 j18 7 1) (fun r19 => bo r19 (fun j21 => ck (isO u2 j21 4) (bx (fm_Fr_of N u2 j21 ((r13 - 1) - v2) 1) (fun u20 r20 => some (u20, r20))))))) (br (decide (v3 = 2)) (bo r2 (fun j22 => bo (gR u2 j22 7 1) (fun r23 => bo r23 (fun j25 => ck (isO u2 j25 4) (bx (fm_Fr_namesIn N u2 j25 ((r13 - 1) - v2)) (fun u24 r24 => some (u24, r24))))))) (br (decide (v3 = 3)) (bo r2 (fun j26 => bo (gR u2 j26 7 1) (fun r27 => bo r27 (fun j29 => ck (isO u2 j29 4) (bx (fm_Fr_waitsIn N u2 j29 ((r13 - 1) - v2)) (fun u28 r28 => some (u28, r28))))))) (some (u2, (-1))))))))))) (fb_H_frame_40 N G u2))))))))))))))
set_option maxRecDepth 100000 in
set_option maxHeartbeats 4000000 in
theorem wb_H_frame_0 {p : Program} {l : Launch} {e : Env} {s : State} {m : MethodId} {args : Array Value} {below : List Frame} {meth : Method} {c : Code} {s0 : State} {b0 : Nat} {D : va_G} {cB cI cJ cZ cS cP : ClassId} {A : Nat → Prop} {sk sv : Nat → Nat} {ad : Nat → Nat} (C0 : XCx p s s0 b0 m args meth c R_H b_H_frame 6 (some .int) D cB cI cJ cZ cS cP A) (hE : ENV s0 b0 sk sv) (N : Nat) (G : Unit) (hG : True) : ∀ (u : CS) (v0 : Nat) (v1 : Int32) (v2 : Int32) (v3 : Int32) (x : CS × Int32), fb_H_frame_0 N G u v0 v1 v2 v3 = some x → ∀ (H : Heap) (locs : List Loc), va_P D cls (wC cB cI cJ cZ cS cP ad u) H → va_D A (wC cB cI cJ cZ cS cP ad u) → va_S A s.heap H locs → ∀ (ls : Array Slot), lv_has ls 6 [(0, .ref (ad v0)), (1, .int v1), (2, .int v2), (3, .int v3)] → W p l e rm_H_frame s m args below meth c H locs 0 0 (MQ below (xQ0 D cB cI cJ cZ cS cP A ad x.1 (some (.inl x.2))) args s 0 0 A) (F0 m 0 ls []) := by
  intro u v0 v1 v2 v3 x hf H locs hP hD hS ls hl
  obtain ⟨hx, hb, hr, hml, ht, hown, hK, hA, hlocks, hA0, hO, hbs⟩ := id C0
  unfold fb_H_frame_0 at hf
  refine lv_aload_n hx hb d_H_frame_0 rfl (lv_at hl 0 rfl) ?_
  obtain ⟨r1, g1, hf⟩ := bo_some hf
  refine xg_R (i := v0) (k := 6) hx hb ht hown ck_H hK hP (by decide) fk_H_69 g1 d_H_frame_1 ?_
  refine lv_iload_n hx hb d_H_frame_4 rfl (lv_at hl 1 rfl) ?_
  obtain ⟨j3, ej3, hf⟩ := bo_some hf
  rw [ej3]
  obtain ⟨hO9, hf⟩ := ck_some hf
  obtain ⟨u2, r2, hc2, hf⟩ := bx_some hf
  refine xV0 (i := j3) (As := [.int v1]) (rest := []) C0 hP hD hS ck_Wl hO9 (c_Wl_find N hE hc2) k_Wl_find (wd_of 1296 (by decide +kernel) rfl) hi_Wl_find hs_Wl_find hini_Wl rfl rfl hd_Wl_find rfl rm_H_frame_Wl_find hl.1 (Nat.le_of_ble_eq_true rfl) d_H_frame_5 rfl ⟨Nat.zero_le _, Nat.zero_le _⟩ (fun H locs hP hD hS => ?_)
  refine x_astore (lv' := [(4, va_rf (Option.map ad r2)), (0, .ref (ad v0)), (1, .int v1), (2, .int v2), (3, .int v3)]) hx hb d_H_frame_8 hl (by decide) (by first | rfl | simp [List.filter, cat_rf]) (fun ls hl => ?_)
  refine x_aload hx hb d_H_frame_10 (lv_at hl 0 rfl) ?_
  refine x_ifnull (r := r2) (tgt := 40) hx hb d_H_frame_12 (by decide) (fun hc => ?_) (fun hc => ?_)
  · rw [br_p _ hc] at hf
    exact wb_H_frame_40 C0 hE N G hG _ _ hf H locs hP hD hS ls (lv_sub hl [] rfl)
  · rw [br_n _ hc] at hf
    refine x_aload hx hb d_H_frame_15 (lv_at hl 0 rfl) ?_
    obtain ⟨j4, ej4, hf⟩ := bo_some hf
    rw [ej4]
    obtain ⟨r5, g5, hf⟩ := bo_some hf
    refine xg_I (i := j4) (k := 9) hx hb ht hown ck_Pr hK hP (by decide) fk_H_199 g5 d_H_frame_17 ?_
    refine lv_iconst (v := 3) hx hb d_H_frame_20 (by decide) ?_
    refine lv_icmp_eq (tgt := 40) hx hb d_H_frame_21 (by decide) (fun hc => ?_) (fun hc => ?_)
    · rw [br_p _ hc] at hf
      exact wb_H_frame_40 C0 hE N G hG _ _ hf H locs hP hD hS ls (lv_sub hl [] rfl)
    · rw [br_n _ hc] at hf
      refine lv_iload_n hx hb d_H_frame_24 rfl (lv_at hl 3 rfl) ?_
      refine lv_if_lt (tgt := 40) hx hb d_H_frame_25 (by decide) (fun hc => ?_) (fun hc => ?_)
      · rw [br_p _ hc] at hf
        exact wb_H_frame_40 C0 hE N G hG _ _ hf H locs hP hD hS ls (lv_sub hl [] rfl)
      · rw [br_n _ hc] at hf
        refine lv_iload_n hx hb d_H_frame_28 rfl (lv_at hl 3 rfl) ?_
        refine x_aload hx hb d_H_frame_29 (lv_at hl 0 rfl) ?_
        obtain ⟨j6, ej6, hf⟩ := bo_some hf
        rw [ej6]
        obtain ⟨r7, g7, hf⟩ := bo_some hf
        refine xg_R (i := j6) (k := 1) hx hb ht hown ck_Pr hK hP (by decide) fk_H_176 g7 d_H_frame_31 ?_
        obtain ⟨j8, ej8, hf⟩ := bo_some hf
        rw [ej8]
        obtain ⟨r9, g9, hf⟩ := bo_some hf
        refine xg_I (i := j8) (k := 1) hx hb ht hown ck_Fr hK hP (by decide) fk_H_236 g9 d_H_frame_34 ?_
        refine lv_icmp_lt (tgt := 42) hx hb d_H_frame_37 (by decide) (fun hc => ?_) (fun hc => ?_)
        · rw [br_p _ hc] at hf
          refine x_aload hx hb d_H_frame_42 (lv_at hl 0 rfl) ?_
          obtain ⟨j10, ej10, hf⟩ := bo_some hf
          rw [ej10]
          obtain ⟨r11, g11, hf⟩ := bo_some hf
          refine xg_R (i := j10) (k := 1) hx hb ht hown ck_Pr hK hP (by decide) fk_H_176 g11 d_H_frame_44 ?_
          obtain ⟨j12, ej12, hf⟩ := bo_some hf
          rw [ej12]
          obtain ⟨r13, g13, hf⟩ := bo_some hf
          refine xg_I (i := j12) (k := 1) hx hb ht hown ck_Fr hK hP (by decide) fk_H_236 g13 d_H_frame_47 ?_
          refine lv_iconst (v := 1) hx hb d_H_frame_50 (by decide) ?_
          refine lv_isub hx hb d_H_frame_51 ?_
          refine lv_iload_n hx hb d_H_frame_52 rfl (lv_at hl 3 rfl) ?_
          refine lv_isub hx hb d_H_frame_53 ?_
          refine lv_istore (lv' := [(5, .int ((r13 - 1) - v2)), (4, va_rf (Option.map ad r2)), (0, .ref (ad v0)), (1, .int v1), (2, .int v2), (3, .int v3)]) hx hb d_H_frame_54 hl (by decide) (by first | rfl | simp [List.filter, cat_rf]) (fun ls hl => ?_)
          refine lv_iload_n hx hb d_H_frame_56 rfl (lv_at hl 5 rfl) ?_
          by_cases hc0 : v3 = 0
          · rw [br_p _ hc0] at hf
            refine lv_tableIn (tgt := 88) hx hb d_H_frame_57 (by rw [hc0]; decide) (by rw [hc0]; decide) (by rw [hc0]; rfl) (by decide) ?_
            refine x_aload hx hb d_H_frame_88 (lv_at hl 1 rfl) ?_
            obtain ⟨j14, ej14, hf⟩ := bo_some hf
            rw [ej14]
            obtain ⟨r15, g15, hf⟩ := bo_some hf
            refine xg_R (i := j14) (k := 1) hx hb ht hown ck_Pr hK hP (by decide) fk_H_176 g15 d_H_frame_90 ?_
            refine lv_iload hx hb d_H_frame_93 (lv_at hl 0 rfl) ?_
            refine lv_iconst (v := 0) hx hb d_H_frame_95 (by decide) ?_
            obtain ⟨j17, ej17, hf⟩ := bo_some hf
            rw [ej17]
            obtain ⟨hO9, hf⟩ := ck_some hf
            obtain ⟨u16, r16, hc16, hf⟩ := bx_some hf
            refine xV0 (i := j17) (As := [.int ((r13 - 1) - v2), .int 0]) (rest := []) C0 hP hD hS ck_Fr hO9 (c_Fr_of N hc16) k_Fr_of (wd_of 1320 (by decide +kernel) rfl) hi_Fr_of hs_Fr_of hini_Fr rfl rfl hd_Fr_of rfl rm_H_frame_Fr_of hl.1 (Nat.le_of_ble_eq_true rfl) d_H_frame_96 rfl ⟨Nat.zero_le _, Nat.zero_le _⟩ (fun H locs hP hD hS => ?_)
            exact xr0_i C0 hP hD hS hf d_H_frame_99
          · rw [br_n _ hc0] at hf
            by_cases hc1 : v3 = 1
            · rw [br_p _ hc1] at hf
              refine lv_tableIn (tgt := 100) hx hb d_H_frame_57 (by rw [hc1]; decide) (by rw [hc1]; decide) (by rw [hc1]; rfl) (by decide) ?_
              refine x_aload hx hb d_H_frame_100 (lv_at hl 1 rfl) ?_
              obtain ⟨j18, ej18, hf⟩ := bo_some hf
              rw [ej18]
              obtain ⟨r19, g19, hf⟩ := bo_some hf
              refine xg_R (i := j18) (k := 1) hx hb ht hown ck_Pr hK hP (by decide) fk_H_176 g19 d_H_frame_102 ?_
              refine lv_iload hx hb d_H_frame_105 (lv_at hl 0 rfl) ?_
              refine lv_iconst (v := 1) hx hb d_H_frame_107 (by decide) ?_
              obtain ⟨j21, ej21, hf⟩ := bo_some hf
              rw [ej21]
              obtain ⟨hO9, hf⟩ := ck_some hf
              obtain ⟨u20, r20, hc20, hf⟩ := bx_some hf
              refine xV0 (i := j21) (As := [.int ((r13 - 1) - v2), .int 1]) (rest := []) C0 hP hD hS ck_Fr hO9 (c_Fr_of N hc20) k_Fr_of (wd_of 1320 (by decide +kernel) rfl) hi_Fr_of hs_Fr_of hini_Fr rfl rfl hd_Fr_of rfl rm_H_frame_Fr_of hl.1 (Nat.le_of_ble_eq_true rfl) d_H_frame_108 rfl ⟨Nat.zero_le _, Nat.zero_le _⟩ (fun H locs hP hD hS => ?_)
              exact xr0_i C0 hP hD hS hf d_H_frame_111
            · rw [br_n _ hc1] at hf
              by_cases hc2 : v3 = 2
              · rw [br_p _ hc2] at hf
                refine lv_tableIn (tgt := 112) hx hb d_H_frame_57 (by rw [hc2]; decide) (by rw [hc2]; decide) (by rw [hc2]; rfl) (by decide) ?_
                refine x_aload hx hb d_H_frame_112 (lv_at hl 1 rfl) ?_
                obtain ⟨j22, ej22, hf⟩ := bo_some hf
                rw [ej22]
                obtain ⟨r23, g23, hf⟩ := bo_some hf
                refine xg_R (i := j22) (k := 1) hx hb ht hown ck_Pr hK hP (by decide) fk_H_176 g23 d_H_frame_114 ?_
                refine lv_iload hx hb d_H_frame_117 (lv_at hl 0 rfl) ?_
                obtain ⟨j25, ej25, hf⟩ := bo_some hf
                rw [ej25]
                obtain ⟨hO9, hf⟩ := ck_some hf
                obtain ⟨u24, r24, hc24, hf⟩ := bx_some hf
                refine xV0 (i := j25) (As := [.int ((r13 - 1) - v2)]) (rest := []) C0 hP hD hS ck_Fr hO9 (c_Fr_namesIn N hc24) k_Fr_namesIn (wd_of 1324 (by decide +kernel) rfl) hi_Fr_namesIn hs_Fr_namesIn hini_Fr rfl rfl hd_Fr_namesIn rfl rm_H_frame_Fr_namesIn hl.1 (Nat.le_of_ble_eq_true rfl) d_H_frame_119 rfl ⟨Nat.zero_le _, Nat.zero_le _⟩ (fun H locs hP hD hS => ?_)
                exact xr0_i C0 hP hD hS hf d_H_frame_122
              · rw [br_n _ hc2] at hf
                by_cases hc3 : v3 = 3
                · rw [br_p _ hc3] at hf
                  refine lv_tableIn (tgt := 123) hx hb d_H_frame_57 (by rw [hc3]; decide) (by rw [hc3]; decide) (by rw [hc3]; rfl) (by decide) ?_
                  refine x_aload hx hb d_H_frame_123 (lv_at hl 1 rfl) ?_
                  obtain ⟨j26, ej26, hf⟩ := bo_some hf
                  rw [ej26]
                  obtain ⟨r27, g27, hf⟩ := bo_some hf
                  refine xg_R (i := j26) (k := 1) hx hb ht hown ck_Pr hK hP (by decide) fk_H_176 g27 d_H_frame_125 ?_
                  refine lv_iload hx hb d_H_frame_128 (lv_at hl 0 rfl) ?_
                  obtain ⟨j29, ej29, hf⟩ := bo_some hf
                  rw [ej29]
                  obtain ⟨hO9, hf⟩ := ck_some hf
                  obtain ⟨u28, r28, hc28, hf⟩ := bx_some hf
                  refine xV0 (i := j29) (As := [.int ((r13 - 1) - v2)]) (rest := []) C0 hP hD hS ck_Fr hO9 (c_Fr_waitsIn N hc28) k_Fr_waitsIn (wd_of 1329 (by decide +kernel) rfl) hi_Fr_waitsIn hs_Fr_waitsIn hini_Fr rfl rfl hd_Fr_waitsIn rfl rm_H_frame_Fr_waitsIn hl.1 (Nat.le_of_ble_eq_true rfl) d_H_frame_130 rfl ⟨Nat.zero_le _, Nat.zero_le _⟩ (fun H locs hP hD hS => ?_)
                  exact xr0_i C0 hP hD hS hf d_H_frame_133
                · rw [br_n _ hc3] at hf
                  refine lv_tableOut (tgt := 134) hx hb d_H_frame_57 (by have z0 := tiN hc0; have z1 := tiN hc1; have z2 := tiN hc2; have z3 := tiN hc3; rw [show (0 : Int32).toInt = 0 from by decide] at z0; rw [show (1 : Int32).toInt = 1 from by decide] at z1; rw [show (2 : Int32).toInt = 2 from by decide] at z2; rw [show (3 : Int32).toInt = 3 from by decide] at z3; omega) (by decide) ?_
                  refine lv_iconst (v := (-1)) hx hb d_H_frame_134 (by decide) ?_
                  exact xr0_i C0 hP hD hS hf d_H_frame_135
        · rw [br_n _ hc] at hf
          exact wb_H_frame_40 C0 hE N G hG _ _ hf H locs hP hD hS ls (lv_sub hl [] rfl)
def fm_H_frame (N : Nat) (u : CS) (v0 : Nat) (v1 : Int32) (v2 : Int32) (v3 : Int32) : Option (CS × Int32) := fb_H_frame_0 N () u v0 v1 v2 v3
set_option maxRecDepth 100000 in
set_option maxHeartbeats 4000000 in
theorem c_H_frame (N : Nat) {l : Launch} {s0 : State} {b0 : Nat} {D : va_G} {cB cI cJ cZ cS cP : ClassId} {sk sv : Nat → Nat} {ad : Nat → Nat} {u : CS} {sz : Nat} {v0 : Nat} {v1 : Int32} {v2 : Int32} {v3 : Int32} {x : CS × Int32} (hE : ENV s0 b0 sk sv) (hf : fm_H_frame N u v0 v1 v2 v3 = some x) : Met l y_H_frame (wd_ws y_H_frame b_H_frame 6 (some .int)) rm_H_frame (xPc s0 b0 D cB cI cJ cZ cS cP ad u sz [.ref (ad v0), .int v1, .int v2, .int v3]) (xQ0 D cB cI cJ cZ cS cP (xA cB cI cJ cZ cS cP ad u sz) ad x.1 (some (.inl x.2))) 0 0 (xA cB cI cJ cZ cS cP ad u sz) :=
  xMet (by decide) rfl (Nat.le_of_ble_eq_true rfl) (fun p e s m below meth c ls hsz hnm C0 hP hD hS hl =>
    wb_H_frame_0 C0 hE N () trivial u _ _ _ _ x hf s.heap [] hP hD hS ls (lv_sub hl [0, 1, 2, 3] rfl))
abbrev b_H_link : ByteArray := prog_1_method_15_code
def y_H_link : MethodName := ⟨R_H, "link", "(II)I"⟩
def w_H_link : List Cond := wd_ws y_H_link b_H_link 4 (some .int)
set_option maxRecDepth 100000 in
theorem k_H_link : Cond.code y_H_link b_H_link 4 (some .int) ∈ wd_tbl := wd_of 1336 rfl rfl
theorem d_H_link_0 : decode b_H_link 0 = .ok (.aload_n 0, 1) := by decide +kernel
theorem d_H_link_1 : decode b_H_link 1 = .ok (.getfield 69, 3) := by decide +kernel
theorem d_H_link_4 : decode b_H_link 4 = .ok (.iload_n 1, 1) := by decide +kernel
theorem d_H_link_5 : decode b_H_link 5 = .ok (.invokevirtual 193, 3) := by decide +kernel
theorem d_H_link_8 : decode b_H_link 8 = .ok (.astore_n 3, 1) := by decide +kernel
theorem d_H_link_9 : decode b_H_link 9 = .ok (.aload_n 3, 1) := by decide +kernel
theorem d_H_link_10 : decode b_H_link 10 = .ok (.ifnull 23, 3) := by decide +kernel
theorem d_H_link_13 : decode b_H_link 13 = .ok (.aload_n 3, 1) := by decide +kernel
theorem d_H_link_14 : decode b_H_link 14 = .ok (.getfield 199, 3) := by decide +kernel
theorem d_H_link_17 : decode b_H_link 17 = .ok (.iconst 3, 1) := by decide +kernel
theorem d_H_link_18 : decode b_H_link 18 = .ok (.if_icmp .eq 15, 3) := by decide +kernel
theorem d_H_link_21 : decode b_H_link 21 = .ok (.iload_n 2, 1) := by decide +kernel
theorem d_H_link_22 : decode b_H_link 22 = .ok (.ifCond .lt 11, 3) := by decide +kernel
theorem d_H_link_25 : decode b_H_link 25 = .ok (.iload_n 2, 1) := by decide +kernel
theorem d_H_link_26 : decode b_H_link 26 = .ok (.aload_n 3, 1) := by decide +kernel
theorem d_H_link_27 : decode b_H_link 27 = .ok (.getfield 246, 3) := by decide +kernel
theorem d_H_link_30 : decode b_H_link 30 = .ok (.if_icmp .lt 5, 3) := by decide +kernel
theorem d_H_link_33 : decode b_H_link 33 = .ok (.iconst (-1), 1) := by decide +kernel
theorem d_H_link_34 : decode b_H_link 34 = .ok (.ireturn, 1) := by decide +kernel
theorem d_H_link_35 : decode b_H_link 35 = .ok (.aload_n 3, 1) := by decide +kernel
theorem d_H_link_36 : decode b_H_link 36 = .ok (.getfield 275, 3) := by decide +kernel
theorem d_H_link_39 : decode b_H_link 39 = .ok (.iload_n 2, 1) := by decide +kernel
theorem d_H_link_40 : decode b_H_link 40 = .ok (.iaload, 1) := by decide +kernel
theorem d_H_link_41 : decode b_H_link 41 = .ok (.ireturn, 1) := by decide +kernel
set_option maxRecDepth 100000 in
theorem hi_H_link : Cond.instanceMethod y_H_link ∈ wd_tbl := wd_of 1334 (by decide +kernel) rfl
set_option maxRecDepth 100000 in
theorem hs_H_link : Cond.selects R_H y_H_link y_H_link ∈ wd_tbl := wd_of 1335 (by decide +kernel) rfl
theorem hd_H_link : y_H_link.cls = R_H ∧ y_H_link.cls ≠ "java/lang/invoke/MethodHandle" ∧ y_H_link.cls ≠ "java/lang/invoke/VarHandle" ∧ (parseMethodDescriptor y_H_link.desc).map (fun d => d.parameters.length) = some 2 := by decide +kernel
def rm_H_link : Room := { frames := 1, cells := 0, slots := 0, locals := 21 }
theorem rm_H_link_Wl_find : (rm_Wl_find).frames + 1 ≤ rm_H_link.frames ∧ 8 + (2 + 11) + (rm_Wl_find).locals ≤ rm_H_link.locals := by
  show 0 + 1 ≤ 1 ∧ 8 + (2 + 11) + 0 ≤ 21
  decide
def fb_H_link_33 (N : Nat) (G : Unit) (u : CS) : Option (CS × Int32) := some (u, (-1))
set_option maxRecDepth 100000 in
set_option maxHeartbeats 4000000 in
theorem wb_H_link_33 {p : Program} {l : Launch} {e : Env} {s : State} {m : MethodId} {args : Array Value} {below : List Frame} {meth : Method} {c : Code} {s0 : State} {b0 : Nat} {D : va_G} {cB cI cJ cZ cS cP : ClassId} {A : Nat → Prop} {sk sv : Nat → Nat} {ad : Nat → Nat} (C0 : XCx p s s0 b0 m args meth c R_H b_H_link 4 (some .int) D cB cI cJ cZ cS cP A) (hE : ENV s0 b0 sk sv) (N : Nat) (G : Unit) (hG : True) : ∀ (u : CS) (x : CS × Int32), fb_H_link_33 N G u = some x → ∀ (H : Heap) (locs : List Loc), va_P D cls (wC cB cI cJ cZ cS cP ad u) H → va_D A (wC cB cI cJ cZ cS cP ad u) → va_S A s.heap H locs → ∀ (ls : Array Slot), lv_has ls 4 [] → W p l e rm_H_link s m args below meth c H locs 0 0 (MQ below (xQ0 D cB cI cJ cZ cS cP A ad x.1 (some (.inl x.2))) args s 0 0 A) (F0 m 33 ls []) := by
  intro u x hf H locs hP hD hS ls hl
  obtain ⟨hx, hb, hr, hml, ht, hown, hK, hA, hlocks, hA0, hO, hbs⟩ := id C0
  unfold fb_H_link_33 at hf
  refine lv_iconst (v := (-1)) hx hb d_H_link_33 (by decide) ?_
  exact xr0_i C0 hP hD hS hf d_H_link_34
def fb_H_link_0 (N : Nat) (G : Unit) (u : CS) (v0 : Nat) (v1 : Int32) (v2 : Int32) : Option (CS × Int32) := bo (gR u v0 1 6) (fun r1 => bo r1 (fun j3 => ck (isO u j3 12) (bx (fm_Wl_find N u j3 v1) (fun u2 r2 => br (decide (r2 = none)) (fb_H_link_33 N G u2) (bo r2 (fun j4 => bo (gI u2 j4 7 9) (fun r5 => br (decide (r5 = 3)) (fb_H_link_33 N G u2) (br (decide (v2 < 0)) (fb_H_link_33 N G u2) (bo r2 (fun j6 => bo (gI u2 j6 7 15) (fun r7 => br (decide (v2 < r7)) (bo r2 (fun j8 => bo (gR u2 j8 7 14) (fun r9 => bo r9 (fun j10 => bo (aI u2 j10 4 v2) (fun r11 => some (u2, r11)))))) (fb_H_link_33 N G u2))))))))))))
set_option maxRecDepth 100000 in
set_option maxHeartbeats 4000000 in
theorem wb_H_link_0 {p : Program} {l : Launch} {e : Env} {s : State} {m : MethodId} {args : Array Value} {below : List Frame} {meth : Method} {c : Code} {s0 : State} {b0 : Nat} {D : va_G} {cB cI cJ cZ cS cP : ClassId} {A : Nat → Prop} {sk sv : Nat → Nat} {ad : Nat → Nat} (C0 : XCx p s s0 b0 m args meth c R_H b_H_link 4 (some .int) D cB cI cJ cZ cS cP A) (hE : ENV s0 b0 sk sv) (N : Nat) (G : Unit) (hG : True) : ∀ (u : CS) (v0 : Nat) (v1 : Int32) (v2 : Int32) (x : CS × Int32), fb_H_link_0 N G u v0 v1 v2 = some x → ∀ (H : Heap) (locs : List Loc), va_P D cls (wC cB cI cJ cZ cS cP ad u) H → va_D A (wC cB cI cJ cZ cS cP ad u) → va_S A s.heap H locs → ∀ (ls : Array Slot), lv_has ls 4 [(0, .ref (ad v0)), (1, .int v1), (2, .int v2)] → W p l e rm_H_link s m args below meth c H locs 0 0 (MQ below (xQ0 D cB cI cJ cZ cS cP A ad x.1 (some (.inl x.2))) args s 0 0 A) (F0 m 0 ls []) := by
  intro u v0 v1 v2 x hf H locs hP hD hS ls hl
  obtain ⟨hx, hb, hr, hml, ht, hown, hK, hA, hlocks, hA0, hO, hbs⟩ := id C0
  unfold fb_H_link_0 at hf
  refine lv_aload_n hx hb d_H_link_0 rfl (lv_at hl 0 rfl) ?_
  obtain ⟨r1, g1, hf⟩ := bo_some hf
  refine xg_R (i := v0) (k := 6) hx hb ht hown ck_H hK hP (by decide) fk_H_69 g1 d_H_link_1 ?_
  refine lv_iload_n hx hb d_H_link_4 rfl (lv_at hl 1 rfl) ?_
  obtain ⟨j3, ej3, hf⟩ := bo_some hf
  rw [ej3]
  obtain ⟨hO9, hf⟩ := ck_some hf
  obtain ⟨u2, r2, hc2, hf⟩ := bx_some hf
  refine xV0 (i := j3) (As := [.int v1]) (rest := []) C0 hP hD hS ck_Wl hO9 (c_Wl_find N hE hc2) k_Wl_find (wd_of 1296 (by decide +kernel) rfl) hi_Wl_find hs_Wl_find hini_Wl rfl rfl hd_Wl_find rfl rm_H_link_Wl_find hl.1 (Nat.le_of_ble_eq_true rfl) d_H_link_5 rfl ⟨Nat.zero_le _, Nat.zero_le _⟩ (fun H locs hP hD hS => ?_)
  refine x_astore_n (lv' := [(3, va_rf (Option.map ad r2)), (0, .ref (ad v0)), (1, .int v1), (2, .int v2)]) hx hb d_H_link_8 rfl hl (by decide) (by first | rfl | simp [List.filter, cat_rf]) (fun ls hl => ?_)
  refine x_aload_n hx hb d_H_link_9 rfl (lv_at hl 0 rfl) ?_
  refine x_ifnull (r := r2) (tgt := 33) hx hb d_H_link_10 (by decide) (fun hc => ?_) (fun hc => ?_)
  · rw [br_p _ hc] at hf
    exact wb_H_link_33 C0 hE N G hG _ _ hf H locs hP hD hS ls (lv_sub hl [] rfl)
  · rw [br_n _ hc] at hf
    refine x_aload_n hx hb d_H_link_13 rfl (lv_at hl 0 rfl) ?_
    obtain ⟨j4, ej4, hf⟩ := bo_some hf
    rw [ej4]
    obtain ⟨r5, g5, hf⟩ := bo_some hf
    refine xg_I (i := j4) (k := 9) hx hb ht hown ck_Pr hK hP (by decide) fk_H_199 g5 d_H_link_14 ?_
    refine lv_iconst (v := 3) hx hb d_H_link_17 (by decide) ?_
    refine lv_icmp_eq (tgt := 33) hx hb d_H_link_18 (by decide) (fun hc => ?_) (fun hc => ?_)
    · rw [br_p _ hc] at hf
      exact wb_H_link_33 C0 hE N G hG _ _ hf H locs hP hD hS ls (lv_sub hl [] rfl)
    · rw [br_n _ hc] at hf
      refine lv_iload_n hx hb d_H_link_21 rfl (lv_at hl 3 rfl) ?_
      refine lv_if_lt (tgt := 33) hx hb d_H_link_22 (by decide) (fun hc => ?_) (fun hc => ?_)
      · rw [br_p _ hc] at hf
        exact wb_H_link_33 C0 hE N G hG _ _ hf H locs hP hD hS ls (lv_sub hl [] rfl)
      · rw [br_n _ hc] at hf
        refine lv_iload_n hx hb d_H_link_25 rfl (lv_at hl 3 rfl) ?_
        refine x_aload_n hx hb d_H_link_26 rfl (lv_at hl 0 rfl) ?_
        obtain ⟨j6, ej6, hf⟩ := bo_some hf
        rw [ej6]
        obtain ⟨r7, g7, hf⟩ := bo_some hf
        refine xg_I (i := j6) (k := 15) hx hb ht hown ck_Pr hK hP (by decide) fk_H_246 g7 d_H_link_27 ?_
        refine lv_icmp_lt (tgt := 35) hx hb d_H_link_30 (by decide) (fun hc => ?_) (fun hc => ?_)
        · rw [br_p _ hc] at hf
          refine x_aload_n hx hb d_H_link_35 rfl (lv_at hl 0 rfl) ?_
          obtain ⟨j8, ej8, hf⟩ := bo_some hf
          rw [ej8]
          obtain ⟨r9, g9, hf⟩ := bo_some hf
          refine xg_R (i := j8) (k := 14) hx hb ht hown ck_Pr hK hP (by decide) fk_H_275 g9 d_H_link_36 ?_
          refine lv_iload_n hx hb d_H_link_39 rfl (lv_at hl 3 rfl) ?_
          obtain ⟨j10, ej10, hf⟩ := bo_some hf
          rw [ej10]
          obtain ⟨r11, g11, hf⟩ := bo_some hf
          refine xl_I (i := j10) hx hb hK hP g11 d_H_link_40 ?_
          exact xr0_i C0 hP hD hS hf d_H_link_41
        · rw [br_n _ hc] at hf
          exact wb_H_link_33 C0 hE N G hG _ _ hf H locs hP hD hS ls (lv_sub hl [] rfl)
def fm_H_link (N : Nat) (u : CS) (v0 : Nat) (v1 : Int32) (v2 : Int32) : Option (CS × Int32) := fb_H_link_0 N () u v0 v1 v2
set_option maxRecDepth 100000 in
set_option maxHeartbeats 4000000 in
theorem c_H_link (N : Nat) {l : Launch} {s0 : State} {b0 : Nat} {D : va_G} {cB cI cJ cZ cS cP : ClassId} {sk sv : Nat → Nat} {ad : Nat → Nat} {u : CS} {sz : Nat} {v0 : Nat} {v1 : Int32} {v2 : Int32} {x : CS × Int32} (hE : ENV s0 b0 sk sv) (hf : fm_H_link N u v0 v1 v2 = some x) : Met l y_H_link (wd_ws y_H_link b_H_link 4 (some .int)) rm_H_link (xPc s0 b0 D cB cI cJ cZ cS cP ad u sz [.ref (ad v0), .int v1, .int v2]) (xQ0 D cB cI cJ cZ cS cP (xA cB cI cJ cZ cS cP ad u sz) ad x.1 (some (.inl x.2))) 0 0 (xA cB cI cJ cZ cS cP ad u sz) :=
  xMet (by decide) rfl (Nat.le_of_ble_eq_true rfl) (fun p e s m below meth c ls hsz hnm C0 hP hD hS hl =>
    wb_H_link_0 C0 hE N () trivial u _ _ _ x hf s.heap [] hP hD hS ls (lv_sub hl [0, 1, 2] rfl))
abbrev b_H_show : ByteArray := prog_1_method_16_code
def y_H_show : MethodName := ⟨R_H, "show", "(III)I"⟩
def w_H_show : List Cond := wd_ws y_H_show b_H_show 10 (some .int)
set_option maxRecDepth 100000 in
theorem k_H_show : Cond.code y_H_show b_H_show 10 (some .int) ∈ wd_tbl := wd_of 1340 rfl rfl
theorem d_H_show_0 : decode b_H_show 0 = .ok (.aload_n 0, 1) := by decide +kernel
theorem d_H_show_1 : decode b_H_show 1 = .ok (.getfield 69, 3) := by decide +kernel
theorem d_H_show_4 : decode b_H_show 4 = .ok (.iload_n 1, 1) := by decide +kernel
theorem d_H_show_5 : decode b_H_show 5 = .ok (.invokevirtual 193, 3) := by decide +kernel
theorem d_H_show_8 : decode b_H_show 8 = .ok (.astore 4, 2) := by decide +kernel
theorem d_H_show_10 : decode b_H_show 10 = .ok (.aload 4, 2) := by decide +kernel
theorem d_H_show_12 : decode b_H_show 12 = .ok (.ifnull 7, 3) := by decide +kernel
theorem d_H_show_15 : decode b_H_show 15 = .ok (.iload_n 3, 1) := by decide +kernel
theorem d_H_show_16 : decode b_H_show 16 = .ok (.ifCond .ge 5, 3) := by decide +kernel
theorem d_H_show_19 : decode b_H_show 19 = .ok (.iconst (-1), 1) := by decide +kernel
theorem d_H_show_20 : decode b_H_show 20 = .ok (.ireturn, 1) := by decide +kernel
theorem d_H_show_21 : decode b_H_show 21 = .ok (.iload_n 2, 1) := by decide +kernel
theorem d_H_show_22 : decode b_H_show 22 = .ok (.iconst 3, 1) := by decide +kernel
theorem d_H_show_23 : decode b_H_show 23 = .ok (.if_icmp .ne 52, 3) := by decide +kernel
theorem d_H_show_26 : decode b_H_show 26 = .ok (.aload 4, 2) := by decide +kernel
theorem d_H_show_28 : decode b_H_show 28 = .ok (.getfield 199, 3) := by decide +kernel
theorem d_H_show_31 : decode b_H_show 31 = .ok (.iconst 3, 1) := by decide +kernel
theorem d_H_show_32 : decode b_H_show 32 = .ok (.if_icmp .ne 7, 3) := by decide +kernel
theorem d_H_show_35 : decode b_H_show 35 = .ok (.iload_n 3, 1) := by decide +kernel
theorem d_H_show_36 : decode b_H_show 36 = .ok (.ifCond .eq 5, 3) := by decide +kernel
theorem d_H_show_39 : decode b_H_show 39 = .ok (.iconst (-1), 1) := by decide +kernel
theorem d_H_show_40 : decode b_H_show 40 = .ok (.ireturn, 1) := by decide +kernel
theorem d_H_show_41 : decode b_H_show 41 = .ok (.aload_n 0, 1) := by decide +kernel
theorem d_H_show_42 : decode b_H_show 42 = .ok (.aload_n 0, 1) := by decide +kernel
theorem d_H_show_43 : decode b_H_show 43 = .ok (.getfield 60, 3) := by decide +kernel
theorem d_H_show_46 : decode b_H_show 46 = .ok (.aload 4, 2) := by decide +kernel
theorem d_H_show_48 : decode b_H_show 48 = .ok (.getfield 278, 3) := by decide +kernel
theorem d_H_show_51 : decode b_H_show 51 = .ok (.getfield 282, 3) := by decide +kernel
theorem d_H_show_54 : decode b_H_show 54 = .ok (.aload 4, 2) := by decide +kernel
theorem d_H_show_56 : decode b_H_show 56 = .ok (.getfield 286, 3) := by decide +kernel
theorem d_H_show_59 : decode b_H_show 59 = .ok (.aload_n 0, 1) := by decide +kernel
theorem d_H_show_60 : decode b_H_show 60 = .ok (.getfield 82, 3) := by decide +kernel
theorem d_H_show_63 : decode b_H_show 63 = .ok (.iconst 0, 1) := by decide +kernel
theorem d_H_show_64 : decode b_H_show 64 = .ok (.invokevirtual 290, 3) := by decide +kernel
theorem d_H_show_67 : decode b_H_show 67 = .ok (.putfield 294, 3) := by decide +kernel
theorem d_H_show_70 : decode b_H_show 70 = .ok (.aload_n 0, 1) := by decide +kernel
theorem d_H_show_71 : decode b_H_show 71 = .ok (.getfield 294, 3) := by decide +kernel
theorem d_H_show_74 : decode b_H_show 74 = .ok (.ireturn, 1) := by decide +kernel
theorem d_H_show_75 : decode b_H_show 75 = .ok (.iload_n 2, 1) := by decide +kernel
theorem d_H_show_76 : decode b_H_show 76 = .ok (.ifCond .lt 17, 3) := by decide +kernel
theorem d_H_show_79 : decode b_H_show 79 = .ok (.iload_n 2, 1) := by decide +kernel
theorem d_H_show_80 : decode b_H_show 80 = .ok (.iconst 2, 1) := by decide +kernel
theorem d_H_show_81 : decode b_H_show 81 = .ok (.if_icmp .gt 12, 3) := by decide +kernel
theorem d_H_show_84 : decode b_H_show 84 = .ok (.aload 4, 2) := by decide +kernel
theorem d_H_show_86 : decode b_H_show 86 = .ok (.getfield 199, 3) := by decide +kernel
theorem d_H_show_89 : decode b_H_show 89 = .ok (.iconst 3, 1) := by decide +kernel
theorem d_H_show_90 : decode b_H_show 90 = .ok (.if_icmp .ne 5, 3) := by decide +kernel
theorem d_H_show_93 : decode b_H_show 93 = .ok (.iconst (-1), 1) := by decide +kernel
theorem d_H_show_94 : decode b_H_show 94 = .ok (.ireturn, 1) := by decide +kernel
theorem d_H_show_95 : decode b_H_show 95 = .ok (.aload 4, 2) := by decide +kernel
theorem d_H_show_97 : decode b_H_show 97 = .ok (.getfield 176, 3) := by decide +kernel
theorem d_H_show_100 : decode b_H_show 100 = .ok (.astore 5, 2) := by decide +kernel
theorem d_H_show_102 : decode b_H_show 102 = .ok (.aload 5, 2) := by decide +kernel
theorem d_H_show_104 : decode b_H_show 104 = .ok (.getfield 236, 3) := by decide +kernel
theorem d_H_show_107 : decode b_H_show 107 = .ok (.iconst 1, 1) := by decide +kernel
theorem d_H_show_108 : decode b_H_show 108 = .ok (.isub, 1) := by decide +kernel
theorem d_H_show_109 : decode b_H_show 109 = .ok (.istore 6, 2) := by decide +kernel
theorem d_H_show_111 : decode b_H_show 111 = .ok (.iload_n 2, 1) := by decide +kernel
theorem d_H_show_112 : decode b_H_show 112 = .ok (.ifCond .ne 11, 3) := by decide +kernel
theorem d_H_show_115 : decode b_H_show 115 = .ok (.aload 4, 2) := by decide +kernel
theorem d_H_show_117 : decode b_H_show 117 = .ok (.getfield 243, 3) := by decide +kernel
theorem d_H_show_120 : decode b_H_show 120 = .ok (.goto 25, 3) := by decide +kernel
theorem d_H_show_123 : decode b_H_show 123 = .ok (.iload_n 2, 1) := by decide +kernel
theorem d_H_show_124 : decode b_H_show 124 = .ok (.iconst 1, 1) := by decide +kernel
theorem d_H_show_125 : decode b_H_show 125 = .ok (.if_icmp .ne 13, 3) := by decide +kernel
theorem d_H_show_128 : decode b_H_show 128 = .ok (.aload 5, 2) := by decide +kernel
theorem d_H_show_130 : decode b_H_show 130 = .ok (.iload 6, 2) := by decide +kernel
theorem d_H_show_132 : decode b_H_show 132 = .ok (.invokevirtual 269, 3) := by decide +kernel
theorem d_H_show_135 : decode b_H_show 135 = .ok (.goto 10, 3) := by decide +kernel
theorem d_H_show_138 : decode b_H_show 138 = .ok (.aload 5, 2) := by decide +kernel
theorem d_H_show_140 : decode b_H_show 140 = .ok (.iload 6, 2) := by decide +kernel
theorem d_H_show_142 : decode b_H_show 142 = .ok (.invokevirtual 272, 3) := by decide +kernel
theorem d_H_show_145 : decode b_H_show 145 = .ok (.istore 7, 2) := by decide +kernel
theorem d_H_show_147 : decode b_H_show 147 = .ok (.iload_n 3, 1) := by decide +kernel
theorem d_H_show_148 : decode b_H_show 148 = .ok (.iload 7, 2) := by decide +kernel
theorem d_H_show_150 : decode b_H_show 150 = .ok (.if_icmp .lt 5, 3) := by decide +kernel
theorem d_H_show_153 : decode b_H_show 153 = .ok (.iconst (-1), 1) := by decide +kernel
theorem d_H_show_154 : decode b_H_show 154 = .ok (.ireturn, 1) := by decide +kernel
theorem d_H_show_155 : decode b_H_show 155 = .ok (.iload_n 2, 1) := by decide +kernel
theorem d_H_show_156 : decode b_H_show 156 = .ok (.ifCond .ne 13, 3) := by decide +kernel
theorem d_H_show_159 : decode b_H_show 159 = .ok (.aload 4, 2) := by decide +kernel
theorem d_H_show_161 : decode b_H_show 161 = .ok (.getfield 297, 3) := by decide +kernel
theorem d_H_show_164 : decode b_H_show 164 = .ok (.iload_n 3, 1) := by decide +kernel
theorem d_H_show_165 : decode b_H_show 165 = .ok (.laload, 1) := by decide +kernel
theorem d_H_show_166 : decode b_H_show 166 = .ok (.goto 43, 3) := by decide +kernel
theorem d_H_show_169 : decode b_H_show 169 = .ok (.iload_n 2, 1) := by decide +kernel
theorem d_H_show_170 : decode b_H_show 170 = .ok (.iconst 1, 1) := by decide +kernel
theorem d_H_show_171 : decode b_H_show 171 = .ok (.if_icmp .ne 22, 3) := by decide +kernel
theorem d_H_show_174 : decode b_H_show 174 = .ok (.aload 5, 2) := by decide +kernel
theorem d_H_show_176 : decode b_H_show 176 = .ok (.getfield 300, 3) := by decide +kernel
theorem d_H_show_179 : decode b_H_show 179 = .ok (.aload 5, 2) := by decide +kernel
theorem d_H_show_181 : decode b_H_show 181 = .ok (.iload 6, 2) := by decide +kernel
theorem d_H_show_183 : decode b_H_show 183 = .ok (.iconst 2, 1) := by decide +kernel
theorem d_H_show_184 : decode b_H_show 184 = .ok (.invokevirtual 266, 3) := by decide +kernel
theorem d_H_show_187 : decode b_H_show 187 = .ok (.iload_n 3, 1) := by decide +kernel
theorem d_H_show_188 : decode b_H_show 188 = .ok (.iadd, 1) := by decide +kernel
theorem d_H_show_189 : decode b_H_show 189 = .ok (.laload, 1) := by decide +kernel
theorem d_H_show_190 : decode b_H_show 190 = .ok (.goto 19, 3) := by decide +kernel
theorem d_H_show_193 : decode b_H_show 193 = .ok (.aload 5, 2) := by decide +kernel
theorem d_H_show_195 : decode b_H_show 195 = .ok (.getfield 302, 3) := by decide +kernel
theorem d_H_show_198 : decode b_H_show 198 = .ok (.aload 5, 2) := by decide +kernel
theorem d_H_show_200 : decode b_H_show 200 = .ok (.iload 6, 2) := by decide +kernel
theorem d_H_show_202 : decode b_H_show 202 = .ok (.iconst 3, 1) := by decide +kernel
theorem d_H_show_203 : decode b_H_show 203 = .ok (.invokevirtual 266, 3) := by decide +kernel
theorem d_H_show_206 : decode b_H_show 206 = .ok (.iload_n 3, 1) := by decide +kernel
theorem d_H_show_207 : decode b_H_show 207 = .ok (.iadd, 1) := by decide +kernel
theorem d_H_show_208 : decode b_H_show 208 = .ok (.laload, 1) := by decide +kernel
theorem d_H_show_209 : decode b_H_show 209 = .ok (.lstore 8, 2) := by decide +kernel
theorem d_H_show_211 : decode b_H_show 211 = .ok (.aload_n 0, 1) := by decide +kernel
theorem d_H_show_212 : decode b_H_show 212 = .ok (.aload_n 0, 1) := by decide +kernel
theorem d_H_show_213 : decode b_H_show 213 = .ok (.getfield 60, 3) := by decide +kernel
theorem d_H_show_216 : decode b_H_show 216 = .ok (.aload 4, 2) := by decide +kernel
theorem d_H_show_218 : decode b_H_show 218 = .ok (.getfield 282, 3) := by decide +kernel
theorem d_H_show_221 : decode b_H_show 221 = .ok (.lload 8, 2) := by decide +kernel
theorem d_H_show_223 : decode b_H_show 223 = .ok (.aload_n 0, 1) := by decide +kernel
theorem d_H_show_224 : decode b_H_show 224 = .ok (.getfield 82, 3) := by decide +kernel
theorem d_H_show_227 : decode b_H_show 227 = .ok (.iconst 0, 1) := by decide +kernel
theorem d_H_show_228 : decode b_H_show 228 = .ok (.invokevirtual 290, 3) := by decide +kernel
theorem d_H_show_231 : decode b_H_show 231 = .ok (.putfield 294, 3) := by decide +kernel
theorem d_H_show_234 : decode b_H_show 234 = .ok (.aload_n 0, 1) := by decide +kernel
theorem d_H_show_235 : decode b_H_show 235 = .ok (.getfield 294, 3) := by decide +kernel
theorem d_H_show_238 : decode b_H_show 238 = .ok (.ireturn, 1) := by decide +kernel
set_option maxRecDepth 100000 in
theorem hi_H_show : Cond.instanceMethod y_H_show ∈ wd_tbl := wd_of 1338 (by decide +kernel) rfl
set_option maxRecDepth 100000 in
theorem hs_H_show : Cond.selects R_H y_H_show y_H_show ∈ wd_tbl := wd_of 1339 (by decide +kernel) rfl
theorem hd_H_show : y_H_show.cls = R_H ∧ y_H_show.cls ≠ "java/lang/invoke/MethodHandle" ∧ y_H_show.cls ≠ "java/lang/invoke/VarHandle" ∧ (parseMethodDescriptor y_H_show.desc).map (fun d => d.parameters.length) = some 3 := by decide +kernel
def rm_H_show : Room := { frames := 4, cells := 0, slots := 0, locals := 102 }
theorem rm_H_show_Wl_find : (rm_Wl_find).frames + 1 ≤ rm_H_show.frames ∧ 8 + (2 + 11) + (rm_Wl_find).locals ≤ rm_H_show.locals := by
  show 0 + 1 ≤ 4 ∧ 8 + (2 + 11) + 0 ≤ 102
  decide
theorem rm_H_show_Te_text : (rm_Te_text).frames + 1 ≤ rm_H_show.frames ∧ 8 + (11 + 11) + (rm_Te_text).locals ≤ rm_H_show.locals := by
  show 3 + 1 ≤ 4 ∧ 8 + (11 + 11) + 72 ≤ 102
  decide
theorem rm_H_show_Fr_namesIn : (rm_Fr_namesIn).frames + 1 ≤ rm_H_show.frames ∧ 8 + (2 + 11) + (rm_Fr_namesIn).locals ≤ rm_H_show.locals := by
  show 1 + 1 ≤ 4 ∧ 8 + (2 + 11) + 22 ≤ 102
  decide
theorem rm_H_show_Fr_waitsIn : (rm_Fr_waitsIn).frames + 1 ≤ rm_H_show.frames ∧ 8 + (2 + 11) + (rm_Fr_waitsIn).locals ≤ rm_H_show.locals := by
  show 1 + 1 ≤ 4 ∧ 8 + (2 + 11) + 22 ≤ 102
  decide
theorem rm_H_show_Fr_of : (rm_Fr_of).frames + 1 ≤ rm_H_show.frames ∧ 8 + (3 + 11) + (rm_Fr_of).locals ≤ rm_H_show.locals := by
  show 0 + 1 ≤ 4 ∧ 8 + (3 + 11) + 0 ≤ 102
  decide
def fb_H_show_209 (N : Nat) (G : Unit) (u : CS) (v0 : Nat) (v4 : Option Nat) (t0 : Int64) : Option (CS × Int32) := bo (gR u v0 1 5) (fun r1 => bo v4 (fun j2 => bo (gR u j2 7 2) (fun r3 => bo (gR u v0 1 8) (fun r4 => bo r1 (fun j6 => ck (isO u j6 8) (bx (fm_Te_text N u j6 r3 t0 r4 0) (fun u5 r5 => bo (pF u5 v0 1 9 (.inl r5)) (fun w7 => bo (gI w7 v0 1 9) (fun r8 => some (w7, r8))))))))))
set_option maxRecDepth 100000 in
set_option maxHeartbeats 4000000 in
theorem wb_H_show_209 {p : Program} {l : Launch} {e : Env} {s : State} {m : MethodId} {args : Array Value} {below : List Frame} {meth : Method} {c : Code} {s0 : State} {b0 : Nat} {D : va_G} {cB cI cJ cZ cS cP : ClassId} {A : Nat → Prop} {sk sv : Nat → Nat} {ad : Nat → Nat} (C0 : XCx p s s0 b0 m args meth c R_H b_H_show 10 (some .int) D cB cI cJ cZ cS cP A) (hE : ENV s0 b0 sk sv) (N : Nat) (G : Unit) (hG : True) : ∀ (u : CS) (v0 : Nat) (v4 : Option Nat) (t0 : Int64) (x : CS × Int32), fb_H_show_209 N G u v0 v4 t0 = some x → ∀ (H : Heap) (locs : List Loc), va_P D cls (wC cB cI cJ cZ cS cP ad u) H → va_D A (wC cB cI cJ cZ cS cP ad u) → va_S A s.heap H locs → ∀ (ls : Array Slot), lv_has ls 10 [(0, .ref (ad v0)), (4, va_rf (Option.map ad v4))] → W p l e rm_H_show s m args below meth c H locs 0 0 (MQ below (xQ0 D cB cI cJ cZ cS cP A ad x.1 (some (.inl x.2))) args s 0 0 A) (F0 m 209 ls [.long t0]) := by
  intro u v0 v4 t0 x hf H locs hP hD hS ls hl
  obtain ⟨hx, hb, hr, hml, ht, hown, hK, hA, hlocks, hA0, hO, hbs⟩ := id C0
  unfold fb_H_show_209 at hf
  refine lv_lstore (lv' := [(8, .long t0), (0, .ref (ad v0)), (4, va_rf (Option.map ad v4))]) hx hb d_H_show_209 hl (by decide) (by first | rfl | simp [List.filter, cat_rf]) (fun ls hl => ?_)
  refine lv_aload_n hx hb d_H_show_211 rfl (lv_at hl 1 rfl) ?_
  refine lv_aload_n hx hb d_H_show_212 rfl (lv_at hl 1 rfl) ?_
  obtain ⟨r1, g1, hf⟩ := bo_some hf
  refine xg_R (i := v0) (k := 5) hx hb ht hown ck_H hK hP (by decide) fk_H_60 g1 d_H_show_213 ?_
  refine x_aload hx hb d_H_show_216 (lv_at hl 2 rfl) ?_
  obtain ⟨j2, ej2, hf⟩ := bo_some hf
  rw [ej2]
  obtain ⟨r3, g3, hf⟩ := bo_some hf
  refine xg_R (i := j2) (k := 2) hx hb ht hown ck_Pr hK hP (by decide) fk_H_282 g3 d_H_show_218 ?_
  refine lv_lload hx hb d_H_show_221 (lv_at hl 0 rfl) ?_
  refine lv_aload_n hx hb d_H_show_223 rfl (lv_at hl 1 rfl) ?_
  obtain ⟨r4, g4, hf⟩ := bo_some hf
  refine xg_R (i := v0) (k := 8) hx hb ht hown ck_H hK hP (by decide) fk_H_82 g4 d_H_show_224 ?_
  refine lv_iconst (v := 0) hx hb d_H_show_227 (by decide) ?_
  obtain ⟨j6, ej6, hf⟩ := bo_some hf
  rw [ej6]
  obtain ⟨hO9, hf⟩ := ck_some hf
  obtain ⟨u5, r5, hc5, hf⟩ := bx_some hf
  refine xV0 (i := j6) (As := [va_rf (Option.map ad r3), .long t0, va_rf (Option.map ad r4), .int 0]) (rest := [.ref (ad v0)]) C0 hP hD hS ck_Te hO9 (c_Te_text N hE hc5) k_Te_text (wd_of 1341 (by decide +kernel) rfl) hi_Te_text hs_Te_text hini_Te rfl rfl hd_Te_text rfl rm_H_show_Te_text hl.1 (Nat.le_of_ble_eq_true rfl) d_H_show_228 rfl ⟨Nat.zero_le _, Nat.zero_le _⟩ (fun H locs hP hD hS => ?_)
  obtain ⟨w7, g7, hf⟩ := bo_some hf
  refine xp (i := v0) (k := 9) (v := (.inl r5)) hx hb ht hown ck_H hK hP hD hS (by decide) fk_H_294 rfl g7 rfl rfl d_H_show_231 (fun H locs hP hD hS => ?_)
  refine lv_aload_n hx hb d_H_show_234 rfl (lv_at hl 1 rfl) ?_
  obtain ⟨r8, g8, hf⟩ := bo_some hf
  refine xg_I (i := v0) (k := 9) hx hb ht hown ck_H hK hP (by decide) fk_H_294 g8 d_H_show_235 ?_
  exact xr0_i C0 hP hD hS hf d_H_show_238
def fb_H_show_145 (N : Nat) (G : Unit) (u : CS) (v0 : Nat) (v2 : Int32) (v3 : Int32) (v4 : Option Nat) (v5 : Option Nat) (v6 : Int32) (t0 : Int32) : Option (CS × Int32) := br (decide (v3 < t0)) (br (decide (v2 = 0)) (bo v4 (fun j21 => bo (gR u j21 7 6) (fun r22 => bo r22 (fun j23 => bo (aJ u j23 v3) (fun r24 => fb_H_show_209 N G u (v0) (v4) (r24)))))) (br (decide (v2 = 1)) (bo v5 (fun j15 => bo (gR u j15 4 3) (fun r16 => bo v5 (fun j18 => ck (isO u j18 4) (bx (fm_Fr_of N u j18 v6 2) (fun u17 r17 => bo r16 (fun j19 => bo (aJ u17 j19 (r17 + v3)) (fun r20 => fb_H_show_209 N G u17 (v0) (v4) (r20))))))))) (bo v5 (fun j9 => bo (gR u j9 4 5) (fun r10 => bo v5 (fun j12 => ck (isO u j12 4) (bx (fm_Fr_of N u j12 v6 3) (fun u11 r11 => bo r10 (fun j13 => bo (aJ u11 j13 (r11 + v3)) (fun r14 => fb_H_show_209 N G u11 (v0) (v4) (r14))))))))))) (some (u, (-1)))
set_option maxRecDepth 100000 in
set_option maxHeartbeats 4000000 in
theorem wb_H_show_145 {p : Program} {l : Launch} {e : Env} {s : State} {m : MethodId} {args : Array Value} {below : List Frame} {meth : Method} {c : Code} {s0 : State} {b0 : Nat} {D : va_G} {cB cI cJ cZ cS cP : ClassId} {A : Nat → Prop} {sk sv : Nat → Nat} {ad : Nat → Nat} (C0 : XCx p s s0 b0 m args meth c R_H b_H_show 10 (some .int) D cB cI cJ cZ cS cP A) (hE : ENV s0 b0 sk sv) (N : Nat) (G : Unit) (hG : True) : ∀ (u : CS) (v0 : Nat) (v2 : Int32) (v3 : Int32) (v4 : Option Nat) (v5 : Option Nat) (v6 : Int32) (t0 : Int32) (x : CS × Int32), fb_H_show_145 N G u v0 v2 v3 v4 v5 v6 t0 = some x → ∀ (H : Heap) (locs : List Loc), va_P D cls (wC cB cI cJ cZ cS cP ad u) H → va_D A (wC cB cI cJ cZ cS cP ad u) → va_S A s.heap H locs → ∀ (ls : Array Slot), lv_has ls 10 [(0, .ref (ad v0)), (2, .int v2), (3, .int v3), (4, va_rf (Option.map ad v4)), (5, va_rf (Option.map ad v5)), (6, .int v6)] → W p l e rm_H_show s m args below meth c H locs 0 0 (MQ below (xQ0 D cB cI cJ cZ cS cP A ad x.1 (some (.inl x.2))) args s 0 0 A) (F0 m 145 ls [.int t0]) := by
  intro u v0 v2 v3 v4 v5 v6 t0 x hf H locs hP hD hS ls hl
  obtain ⟨hx, hb, hr, hml, ht, hown, hK, hA, hlocks, hA0, hO, hbs⟩ := id C0
  unfold fb_H_show_145 at hf
  refine lv_istore (lv' := [(7, .int t0), (0, .ref (ad v0)), (2, .int v2), (3, .int v3), (4, va_rf (Option.map ad v4)), (5, va_rf (Option.map ad v5)), (6, .int v6)]) hx hb d_H_show_145 hl (by decide) (by first | rfl | simp [List.filter, cat_rf]) (fun ls hl => ?_)
  refine lv_iload_n hx hb d_H_show_147 rfl (lv_at hl 3 rfl) ?_
  refine lv_iload hx hb d_H_show_148 (lv_at hl 0 rfl) ?_
  refine lv_icmp_lt (tgt := 155) hx hb d_H_show_150 (by decide) (fun hc => ?_) (fun hc => ?_)
  · rw [br_p _ hc] at hf
    refine lv_iload_n hx hb d_H_show_155 rfl (lv_at hl 2 rfl) ?_
    refine lv_if_ne (tgt := 169) hx hb d_H_show_156 (by decide) (fun hc => ?_) (fun hc => ?_)
    · rw [br_n _ hc] at hf
      refine lv_iload_n hx hb d_H_show_169 rfl (lv_at hl 2 rfl) ?_
      refine lv_iconst (v := 1) hx hb d_H_show_170 (by decide) ?_
      refine lv_icmp_ne (tgt := 193) hx hb d_H_show_171 (by decide) (fun hc => ?_) (fun hc => ?_)
      · rw [br_n _ hc] at hf
        refine x_aload hx hb d_H_show_193 (lv_at hl 5 rfl) ?_
        obtain ⟨j9, ej9, hf⟩ := bo_some hf
        rw [ej9]
        obtain ⟨r10, g10, hf⟩ := bo_some hf
        refine xg_R (i := j9) (k := 5) hx hb ht hown ck_Fr hK hP (by decide) fk_H_302 g10 d_H_show_195 ?_
        refine x_aload hx hb d_H_show_198 (lv_at hl 5 rfl) ?_
        refine lv_iload hx hb d_H_show_200 (lv_at hl 6 rfl) ?_
        refine lv_iconst (v := 3) hx hb d_H_show_202 (by decide) ?_
        obtain ⟨j12, ej12, hf⟩ := bo_some hf
        rw [ej12]
        obtain ⟨hO9, hf⟩ := ck_some hf
        obtain ⟨u11, r11, hc11, hf⟩ := bx_some hf
        refine xV0 (i := j12) (As := [.int v6, .int 3]) (rest := [va_rf (Option.map ad r10)]) C0 hP hD hS ck_Fr hO9 (c_Fr_of N hc11) k_Fr_of (wd_of 1320 (by decide +kernel) rfl) hi_Fr_of hs_Fr_of hini_Fr rfl rfl hd_Fr_of rfl rm_H_show_Fr_of hl.1 (c8 (Nat.le_of_ble_eq_true rfl)) d_H_show_203 rfl ⟨Nat.zero_le _, Nat.zero_le _⟩ (fun H locs hP hD hS => ?_)
        refine lv_iload_n hx hb d_H_show_206 rfl (lv_at hl 3 rfl) ?_
        refine lv_iadd hx hb d_H_show_207 ?_
        obtain ⟨j13, ej13, hf⟩ := bo_some hf
        rw [ej13]
        obtain ⟨r14, g14, hf⟩ := bo_some hf
        refine xl_J (i := j13) hx hb hK hP g14 d_H_show_208 ?_
        exact wb_H_show_209 C0 hE N G hG _ _ _ _ _ hf H locs hP hD hS ls (lv_sub hl [1, 4] rfl)
      · rw [br_p _ hc] at hf
        refine x_aload hx hb d_H_show_174 (lv_at hl 5 rfl) ?_
        obtain ⟨j15, ej15, hf⟩ := bo_some hf
        rw [ej15]
        obtain ⟨r16, g16, hf⟩ := bo_some hf
        refine xg_R (i := j15) (k := 3) hx hb ht hown ck_Fr hK hP (by decide) fk_H_300 g16 d_H_show_176 ?_
        refine x_aload hx hb d_H_show_179 (lv_at hl 5 rfl) ?_
        refine lv_iload hx hb d_H_show_181 (lv_at hl 6 rfl) ?_
        refine lv_iconst (v := 2) hx hb d_H_show_183 (by decide) ?_
        obtain ⟨j18, ej18, hf⟩ := bo_some hf
        rw [ej18]
        obtain ⟨hO9, hf⟩ := ck_some hf
        obtain ⟨u17, r17, hc17, hf⟩ := bx_some hf
        refine xV0 (i := j18) (As := [.int v6, .int 2]) (rest := [va_rf (Option.map ad r16)]) C0 hP hD hS ck_Fr hO9 (c_Fr_of N hc17) k_Fr_of (wd_of 1320 (by decide +kernel) rfl) hi_Fr_of hs_Fr_of hini_Fr rfl rfl hd_Fr_of rfl rm_H_show_Fr_of hl.1 (c8 (Nat.le_of_ble_eq_true rfl)) d_H_show_184 rfl ⟨Nat.zero_le _, Nat.zero_le _⟩ (fun H locs hP hD hS => ?_)
        refine lv_iload_n hx hb d_H_show_187 rfl (lv_at hl 3 rfl) ?_
        refine lv_iadd hx hb d_H_show_188 ?_
        obtain ⟨j19, ej19, hf⟩ := bo_some hf
        rw [ej19]
        obtain ⟨r20, g20, hf⟩ := bo_some hf
        refine xl_J (i := j19) hx hb hK hP g20 d_H_show_189 ?_
        refine lv_goto (tgt := 209) hx hb d_H_show_190 (by decide) ?_
        exact wb_H_show_209 C0 hE N G hG _ _ _ _ _ hf H locs hP hD hS ls (lv_sub hl [1, 4] rfl)
    · rw [br_p _ hc] at hf
      refine x_aload hx hb d_H_show_159 (lv_at hl 4 rfl) ?_
      obtain ⟨j21, ej21, hf⟩ := bo_some hf
      rw [ej21]
      obtain ⟨r22, g22, hf⟩ := bo_some hf
      refine xg_R (i := j21) (k := 6) hx hb ht hown ck_Pr hK hP (by decide) fk_H_297 g22 d_H_show_161 ?_
      refine lv_iload_n hx hb d_H_show_164 rfl (lv_at hl 3 rfl) ?_
      obtain ⟨j23, ej23, hf⟩ := bo_some hf
      rw [ej23]
      obtain ⟨r24, g24, hf⟩ := bo_some hf
      refine xl_J (i := j23) hx hb hK hP g24 d_H_show_165 ?_
      refine lv_goto (tgt := 209) hx hb d_H_show_166 (by decide) ?_
      exact wb_H_show_209 C0 hE N G hG _ _ _ _ _ hf H locs hP hD hS ls (lv_sub hl [1, 4] rfl)
  · rw [br_n _ hc] at hf
    refine lv_iconst (v := (-1)) hx hb d_H_show_153 (by decide) ?_
    exact xr0_i C0 hP hD hS hf d_H_show_154
def fb_H_show_93 (N : Nat) (G : Unit) (u : CS) : Option (CS × Int32) := some (u, (-1))
set_option maxRecDepth 100000 in
set_option maxHeartbeats 4000000 in
theorem wb_H_show_93 {p : Program} {l : Launch} {e : Env} {s : State} {m : MethodId} {args : Array Value} {below : List Frame} {meth : Method} {c : Code} {s0 : State} {b0 : Nat} {D : va_G} {cB cI cJ cZ cS cP : ClassId} {A : Nat → Prop} {sk sv : Nat → Nat} {ad : Nat → Nat} (C0 : XCx p s s0 b0 m args meth c R_H b_H_show 10 (some .int) D cB cI cJ cZ cS cP A) (hE : ENV s0 b0 sk sv) (N : Nat) (G : Unit) (hG : True) : ∀ (u : CS) (x : CS × Int32), fb_H_show_93 N G u = some x → ∀ (H : Heap) (locs : List Loc), va_P D cls (wC cB cI cJ cZ cS cP ad u) H → va_D A (wC cB cI cJ cZ cS cP ad u) → va_S A s.heap H locs → ∀ (ls : Array Slot), lv_has ls 10 [] → W p l e rm_H_show s m args below meth c H locs 0 0 (MQ below (xQ0 D cB cI cJ cZ cS cP A ad x.1 (some (.inl x.2))) args s 0 0 A) (F0 m 93 ls []) := by
  intro u x hf H locs hP hD hS ls hl
  obtain ⟨hx, hb, hr, hml, ht, hown, hK, hA, hlocks, hA0, hO, hbs⟩ := id C0
  unfold fb_H_show_93 at hf
  refine lv_iconst (v := (-1)) hx hb d_H_show_93 (by decide) ?_
  exact xr0_i C0 hP hD hS hf d_H_show_94
def fb_H_show_39 (N : Nat) (G : Unit) (u : CS) : Option (CS × Int32) := some (u, (-1))
set_option maxRecDepth 100000 in
set_option maxHeartbeats 4000000 in
theorem wb_H_show_39 {p : Program} {l : Launch} {e : Env} {s : State} {m : MethodId} {args : Array Value} {below : List Frame} {meth : Method} {c : Code} {s0 : State} {b0 : Nat} {D : va_G} {cB cI cJ cZ cS cP : ClassId} {A : Nat → Prop} {sk sv : Nat → Nat} {ad : Nat → Nat} (C0 : XCx p s s0 b0 m args meth c R_H b_H_show 10 (some .int) D cB cI cJ cZ cS cP A) (hE : ENV s0 b0 sk sv) (N : Nat) (G : Unit) (hG : True) : ∀ (u : CS) (x : CS × Int32), fb_H_show_39 N G u = some x → ∀ (H : Heap) (locs : List Loc), va_P D cls (wC cB cI cJ cZ cS cP ad u) H → va_D A (wC cB cI cJ cZ cS cP ad u) → va_S A s.heap H locs → ∀ (ls : Array Slot), lv_has ls 10 [] → W p l e rm_H_show s m args below meth c H locs 0 0 (MQ below (xQ0 D cB cI cJ cZ cS cP A ad x.1 (some (.inl x.2))) args s 0 0 A) (F0 m 39 ls []) := by
  intro u x hf H locs hP hD hS ls hl
  obtain ⟨hx, hb, hr, hml, ht, hown, hK, hA, hlocks, hA0, hO, hbs⟩ := id C0
  unfold fb_H_show_39 at hf
  refine lv_iconst (v := (-1)) hx hb d_H_show_39 (by decide) ?_
  exact xr0_i C0 hP hD hS hf d_H_show_40
def fb_H_show_19 (N : Nat) (G : Unit) (u : CS) : Option (CS × Int32) := some (u, (-1))
set_option maxRecDepth 100000 in
set_option maxHeartbeats 4000000 in
theorem wb_H_show_19 {p : Program} {l : Launch} {e : Env} {s : State} {m : MethodId} {args : Array Value} {below : List Frame} {meth : Method} {c : Code} {s0 : State} {b0 : Nat} {D : va_G} {cB cI cJ cZ cS cP : ClassId} {A : Nat → Prop} {sk sv : Nat → Nat} {ad : Nat → Nat} (C0 : XCx p s s0 b0 m args meth c R_H b_H_show 10 (some .int) D cB cI cJ cZ cS cP A) (hE : ENV s0 b0 sk sv) (N : Nat) (G : Unit) (hG : True) : ∀ (u : CS) (x : CS × Int32), fb_H_show_19 N G u = some x → ∀ (H : Heap) (locs : List Loc), va_P D cls (wC cB cI cJ cZ cS cP ad u) H → va_D A (wC cB cI cJ cZ cS cP ad u) → va_S A s.heap H locs → ∀ (ls : Array Slot), lv_has ls 10 [] → W p l e rm_H_show s m args below meth c H locs 0 0 (MQ below (xQ0 D cB cI cJ cZ cS cP A ad x.1 (some (.inl x.2))) args s 0 0 A) (F0 m 19 ls []) := by
  intro u x hf H locs hP hD hS ls hl
  obtain ⟨hx, hb, hr, hml, ht, hown, hK, hA, hlocks, hA0, hO, hbs⟩ := id C0
  unfold fb_H_show_19 at hf
  refine lv_iconst (v := (-1)) hx hb d_H_show_19 (by decide) ?_
  exact xr0_i C0 hP hD hS hf d_H_show_20
def fb_H_show_0 (N : Nat) (G : Unit) (u : CS) (v0 : Nat) (v1 : Int32) (v2 : Int32) (v3 : Int32) : Option (CS × Int32) := bo (gR u v0 1 6) (fun r25 => bo r25 (fun j27 => ck (isO u j27 12) (bx (fm_Wl_find N u j27 v1) (fun u26 r26 => br (decide (r26 = none)) (fb_H_show_19 N G u26) (br (decide (0 ≤ v3)) (br (decide (v2 = 3)) (bo r26 (fun j40 => bo (gI u26 j40 7 9) (fun r41 => br (decide (r41 = 3)) (br (decide (v3 = 0)) (bo (gR u26 v0 1 5) (fun r42 => bo r26 (fun j43 => bo (gR u26 j43 7 17) (fun r44 => bo r44 (fun j45 => bo (gR u26 j45 7 2) (fun r46 => bo r26 (fun j47 => bo (gJ u26 j47 7 16) (fun r48 => bo (gR u26 v0 1 8) (fun r49 => bo r42 (fun j51 => ck (isO u26 j51 8) (bx (fm_Te_text N u26 j51 r46 r48 r49 0) (fun u50 r50 => bo (pF u50 v0 1 9 (.inl r50)) (fun w52 => bo (gI w52 v0 1 9) (fun r53 => some (w52, r53))))))))))))))) (fb_H_show_39 N G u26)) (fb_H_show_39 N G u26)))) (br (decide (v2 < 0)) (fb_H_show_93 N G u26) (br (decide (2 < v2)) (fb_H_show_93 N G u26) (bo r26 (fun j28 => bo (gI u26 j28 7 9) (fun r29 => br (decide (r29 = 3)) (fb_H_show_93 N G u26) (bo r26 (fun j30 => bo (gR u26 j30 7 1) (fun r31 => bo r31 (fun j32 => bo (gI u26 j32 4 1) (fun r33 => br (decide (v2 = 0)) (bo r26 (fun j38 => bo (gI u26 j38 7 7) (fun r39 => fb_H_show_145 N G u26 (v0) (v2) (v3) (r26) (r31) ((r33 - 1)) (r39)))) (br (decide (v2 = 1)) (bo r31 (fun j37 => ck (isO u26 j37 4) (bx (fm_Fr_namesIn N u26 j37 (r33 - 1)) (fun u36 r36 => fb_H_show_145 N G u36 (v0) (v2) (v3) (r26) (r31) ((r33 - 1)) (r36))))) (bo r31 (fun j35 => ck (isO u26 j35 4) (bx (fm_Fr_waitsIn N u26 j35 (r33 - 1)) (fun u34 r34 => fb_H_show_145 N G u34 (v0) (v2) (v3) (r26) (r31) ((r33 - 1)) (r34))))))))))))))))) (fb_H_show_19 N G u26))))))
set_option maxRecDepth 100000 in
set_option maxHeartbeats 4000000 in
theorem wb_H_show_0 {p : Program} {l : Launch} {e : Env} {s : State} {m : MethodId} {args : Array Value} {below : List Frame} {meth : Method} {c : Code} {s0 : State} {b0 : Nat} {D : va_G} {cB cI cJ cZ cS cP : ClassId} {A : Nat → Prop} {sk sv : Nat → Nat} {ad : Nat → Nat} (C0 : XCx p s s0 b0 m args meth c R_H b_H_show 10 (some .int) D cB cI cJ cZ cS cP A) (hE : ENV s0 b0 sk sv) (N : Nat) (G : Unit) (hG : True) : ∀ (u : CS) (v0 : Nat) (v1 : Int32) (v2 : Int32) (v3 : Int32) (x : CS × Int32), fb_H_show_0 N G u v0 v1 v2 v3 = some x → ∀ (H : Heap) (locs : List Loc), va_P D cls (wC cB cI cJ cZ cS cP ad u) H → va_D A (wC cB cI cJ cZ cS cP ad u) → va_S A s.heap H locs → ∀ (ls : Array Slot), lv_has ls 10 [(0, .ref (ad v0)), (1, .int v1), (2, .int v2), (3, .int v3)] → W p l e rm_H_show s m args below meth c H locs 0 0 (MQ below (xQ0 D cB cI cJ cZ cS cP A ad x.1 (some (.inl x.2))) args s 0 0 A) (F0 m 0 ls []) := by
  intro u v0 v1 v2 v3 x hf H locs hP hD hS ls hl
  obtain ⟨hx, hb, hr, hml, ht, hown, hK, hA, hlocks, hA0, hO, hbs⟩ := id C0
  unfold fb_H_show_0 at hf
  refine lv_aload_n hx hb d_H_show_0 rfl (lv_at hl 0 rfl) ?_
  obtain ⟨r25, g25, hf⟩ := bo_some hf
  refine xg_R (i := v0) (k := 6) hx hb ht hown ck_H hK hP (by decide) fk_H_69 g25 d_H_show_1 ?_
  refine lv_iload_n hx hb d_H_show_4 rfl (lv_at hl 1 rfl) ?_
  obtain ⟨j27, ej27, hf⟩ := bo_some hf
  rw [ej27]
  obtain ⟨hO9, hf⟩ := ck_some hf
  obtain ⟨u26, r26, hc26, hf⟩ := bx_some hf
  refine xV0 (i := j27) (As := [.int v1]) (rest := []) C0 hP hD hS ck_Wl hO9 (c_Wl_find N hE hc26) k_Wl_find (wd_of 1296 (by decide +kernel) rfl) hi_Wl_find hs_Wl_find hini_Wl rfl rfl hd_Wl_find rfl rm_H_show_Wl_find hl.1 (Nat.le_of_ble_eq_true rfl) d_H_show_5 rfl ⟨Nat.zero_le _, Nat.zero_le _⟩ (fun H locs hP hD hS => ?_)
  refine x_astore (lv' := [(4, va_rf (Option.map ad r26)), (0, .ref (ad v0)), (1, .int v1), (2, .int v2), (3, .int v3)]) hx hb d_H_show_8 hl (by decide) (by first | rfl | simp [List.filter, cat_rf]) (fun ls hl => ?_)
  refine x_aload hx hb d_H_show_10 (lv_at hl 0 rfl) ?_
  refine x_ifnull (r := r26) (tgt := 19) hx hb d_H_show_12 (by decide) (fun hc => ?_) (fun hc => ?_)
  · rw [br_p _ hc] at hf
    exact wb_H_show_19 C0 hE N G hG _ _ hf H locs hP hD hS ls (lv_sub hl [] rfl)
  · rw [br_n _ hc] at hf
    refine lv_iload_n hx hb d_H_show_15 rfl (lv_at hl 4 rfl) ?_
    refine lv_if_ge (tgt := 21) hx hb d_H_show_16 (by decide) (fun hc => ?_) (fun hc => ?_)
    · rw [br_p _ hc] at hf
      refine lv_iload_n hx hb d_H_show_21 rfl (lv_at hl 3 rfl) ?_
      refine lv_iconst (v := 3) hx hb d_H_show_22 (by decide) ?_
      refine lv_icmp_ne (tgt := 75) hx hb d_H_show_23 (by decide) (fun hc => ?_) (fun hc => ?_)
      · rw [br_n _ hc] at hf
        refine lv_iload_n hx hb d_H_show_75 rfl (lv_at hl 3 rfl) ?_
        refine lv_if_lt (tgt := 93) hx hb d_H_show_76 (by decide) (fun hc => ?_) (fun hc => ?_)
        · rw [br_p _ hc] at hf
          exact wb_H_show_93 C0 hE N G hG _ _ hf H locs hP hD hS ls (lv_sub hl [] rfl)
        · rw [br_n _ hc] at hf
          refine lv_iload_n hx hb d_H_show_79 rfl (lv_at hl 3 rfl) ?_
          refine lv_iconst (v := 2) hx hb d_H_show_80 (by decide) ?_
          refine lv_icmp_gt (tgt := 93) hx hb d_H_show_81 (by decide) (fun hc => ?_) (fun hc => ?_)
          · rw [br_p _ hc] at hf
            exact wb_H_show_93 C0 hE N G hG _ _ hf H locs hP hD hS ls (lv_sub hl [] rfl)
          · rw [br_n _ hc] at hf
            refine x_aload hx hb d_H_show_84 (lv_at hl 0 rfl) ?_
            obtain ⟨j28, ej28, hf⟩ := bo_some hf
            rw [ej28]
            obtain ⟨r29, g29, hf⟩ := bo_some hf
            refine xg_I (i := j28) (k := 9) hx hb ht hown ck_Pr hK hP (by decide) fk_H_199 g29 d_H_show_86 ?_
            refine lv_iconst (v := 3) hx hb d_H_show_89 (by decide) ?_
            refine lv_icmp_ne (tgt := 95) hx hb d_H_show_90 (by decide) (fun hc => ?_) (fun hc => ?_)
            · rw [br_n _ hc] at hf
              refine x_aload hx hb d_H_show_95 (lv_at hl 0 rfl) ?_
              obtain ⟨j30, ej30, hf⟩ := bo_some hf
              rw [ej30]
              obtain ⟨r31, g31, hf⟩ := bo_some hf
              refine xg_R (i := j30) (k := 1) hx hb ht hown ck_Pr hK hP (by decide) fk_H_176 g31 d_H_show_97 ?_
              refine x_astore (lv' := [(5, va_rf (Option.map ad r31)), (4, va_rf (Option.map ad r26)), (0, .ref (ad v0)), (1, .int v1), (2, .int v2), (3, .int v3)]) hx hb d_H_show_100 hl (by decide) (by first | rfl | simp [List.filter, cat_rf]) (fun ls hl => ?_)
              refine x_aload hx hb d_H_show_102 (lv_at hl 0 rfl) ?_
              obtain ⟨j32, ej32, hf⟩ := bo_some hf
              rw [ej32]
              obtain ⟨r33, g33, hf⟩ := bo_some hf
              refine xg_I (i := j32) (k := 1) hx hb ht hown ck_Fr hK hP (by decide) fk_H_236 g33 d_H_show_104 ?_
              refine lv_iconst (v := 1) hx hb d_H_show_107 (by decide) ?_
              refine lv_isub hx hb d_H_show_108 ?_
              refine lv_istore (lv' := [(6, .int (r33 - 1)), (5, va_rf (Option.map ad r31)), (4, va_rf (Option.map ad r26)), (0, .ref (ad v0)), (1, .int v1), (2, .int v2), (3, .int v3)]) hx hb d_H_show_109 hl (by decide) (by first | rfl | simp [List.filter, cat_rf]) (fun ls hl => ?_)
              refine lv_iload_n hx hb d_H_show_111 rfl (lv_at hl 5 rfl) ?_
              refine lv_if_ne (tgt := 123) hx hb d_H_show_112 (by decide) (fun hc => ?_) (fun hc => ?_)
              · rw [br_n _ hc] at hf
                refine lv_iload_n hx hb d_H_show_123 rfl (lv_at hl 5 rfl) ?_
                refine lv_iconst (v := 1) hx hb d_H_show_124 (by decide) ?_
                refine lv_icmp_ne (tgt := 138) hx hb d_H_show_125 (by decide) (fun hc => ?_) (fun hc => ?_)
                · rw [br_n _ hc] at hf
                  refine x_aload hx hb d_H_show_138 (lv_at hl 1 rfl) ?_
                  refine lv_iload hx hb d_H_show_140 (lv_at hl 0 rfl) ?_
                  obtain ⟨j35, ej35, hf⟩ := bo_some hf
                  rw [ej35]
                  obtain ⟨hO9, hf⟩ := ck_some hf
                  obtain ⟨u34, r34, hc34, hf⟩ := bx_some hf
                  refine xV0 (i := j35) (As := [.int (r33 - 1)]) (rest := []) C0 hP hD hS ck_Fr hO9 (c_Fr_waitsIn N hc34) k_Fr_waitsIn (wd_of 1329 (by decide +kernel) rfl) hi_Fr_waitsIn hs_Fr_waitsIn hini_Fr rfl rfl hd_Fr_waitsIn rfl rm_H_show_Fr_waitsIn hl.1 (Nat.le_of_ble_eq_true rfl) d_H_show_142 rfl ⟨Nat.zero_le _, Nat.zero_le _⟩ (fun H locs hP hD hS => ?_)
                  exact wb_H_show_145 C0 hE N G hG _ _ _ _ _ _ _ _ _ hf H locs hP hD hS ls (lv_sub hl [3, 5, 6, 2, 1, 0] rfl)
                · rw [br_p _ hc] at hf
                  refine x_aload hx hb d_H_show_128 (lv_at hl 1 rfl) ?_
                  refine lv_iload hx hb d_H_show_130 (lv_at hl 0 rfl) ?_
                  obtain ⟨j37, ej37, hf⟩ := bo_some hf
                  rw [ej37]
                  obtain ⟨hO9, hf⟩ := ck_some hf
                  obtain ⟨u36, r36, hc36, hf⟩ := bx_some hf
                  refine xV0 (i := j37) (As := [.int (r33 - 1)]) (rest := []) C0 hP hD hS ck_Fr hO9 (c_Fr_namesIn N hc36) k_Fr_namesIn (wd_of 1324 (by decide +kernel) rfl) hi_Fr_namesIn hs_Fr_namesIn hini_Fr rfl rfl hd_Fr_namesIn rfl rm_H_show_Fr_namesIn hl.1 (Nat.le_of_ble_eq_true rfl) d_H_show_132 rfl ⟨Nat.zero_le _, Nat.zero_le _⟩ (fun H locs hP hD hS => ?_)
                  refine lv_goto (tgt := 145) hx hb d_H_show_135 (by decide) ?_
                  exact wb_H_show_145 C0 hE N G hG _ _ _ _ _ _ _ _ _ hf H locs hP hD hS ls (lv_sub hl [3, 5, 6, 2, 1, 0] rfl)
              · rw [br_p _ hc] at hf
                refine x_aload hx hb d_H_show_115 (lv_at hl 2 rfl) ?_
                obtain ⟨j38, ej38, hf⟩ := bo_some hf
                rw [ej38]
                obtain ⟨r39, g39, hf⟩ := bo_some hf
                refine xg_I (i := j38) (k := 7) hx hb ht hown ck_Pr hK hP (by decide) fk_H_243 g39 d_H_show_117 ?_
                refine lv_goto (tgt := 145) hx hb d_H_show_120 (by decide) ?_
                exact wb_H_show_145 C0 hE N G hG _ _ _ _ _ _ _ _ _ hf H locs hP hD hS ls (lv_sub hl [3, 5, 6, 2, 1, 0] rfl)
            · rw [br_p _ hc] at hf
              exact wb_H_show_93 C0 hE N G hG _ _ hf H locs hP hD hS ls (lv_sub hl [] rfl)
      · rw [br_p _ hc] at hf
        refine x_aload hx hb d_H_show_26 (lv_at hl 0 rfl) ?_
        obtain ⟨j40, ej40, hf⟩ := bo_some hf
        rw [ej40]
        obtain ⟨r41, g41, hf⟩ := bo_some hf
        refine xg_I (i := j40) (k := 9) hx hb ht hown ck_Pr hK hP (by decide) fk_H_199 g41 d_H_show_28 ?_
        refine lv_iconst (v := 3) hx hb d_H_show_31 (by decide) ?_
        refine lv_icmp_ne (tgt := 39) hx hb d_H_show_32 (by decide) (fun hc => ?_) (fun hc => ?_)
        · rw [br_n _ hc] at hf
          exact wb_H_show_39 C0 hE N G hG _ _ hf H locs hP hD hS ls (lv_sub hl [] rfl)
        · rw [br_p _ hc] at hf
          refine lv_iload_n hx hb d_H_show_35 rfl (lv_at hl 4 rfl) ?_
          refine lv_if_eq (tgt := 41) hx hb d_H_show_36 (by decide) (fun hc => ?_) (fun hc => ?_)
          · rw [br_p _ hc] at hf
            refine lv_aload_n hx hb d_H_show_41 rfl (lv_at hl 1 rfl) ?_
            refine lv_aload_n hx hb d_H_show_42 rfl (lv_at hl 1 rfl) ?_
            obtain ⟨r42, g42, hf⟩ := bo_some hf
            refine xg_R (i := v0) (k := 5) hx hb ht hown ck_H hK hP (by decide) fk_H_60 g42 d_H_show_43 ?_
            refine x_aload hx hb d_H_show_46 (lv_at hl 0 rfl) ?_
            obtain ⟨j43, ej43, hf⟩ := bo_some hf
            rw [ej43]
            obtain ⟨r44, g44, hf⟩ := bo_some hf
            refine xg_R (i := j43) (k := 17) hx hb ht hown ck_Pr hK hP (by decide) fk_H_278 g44 d_H_show_48 ?_
            obtain ⟨j45, ej45, hf⟩ := bo_some hf
            rw [ej45]
            obtain ⟨r46, g46, hf⟩ := bo_some hf
            refine xg_R (i := j45) (k := 2) hx hb ht hown ck_Pr hK hP (by decide) fk_H_282 g46 d_H_show_51 ?_
            refine x_aload hx hb d_H_show_54 (lv_at hl 0 rfl) ?_
            obtain ⟨j47, ej47, hf⟩ := bo_some hf
            rw [ej47]
            obtain ⟨r48, g48, hf⟩ := bo_some hf
            refine xg_J (i := j47) (k := 16) hx hb ht hown ck_Pr hK hP (by decide) fk_H_286 g48 d_H_show_56 ?_
            refine lv_aload_n hx hb d_H_show_59 rfl (lv_at hl 1 rfl) ?_
            obtain ⟨r49, g49, hf⟩ := bo_some hf
            refine xg_R (i := v0) (k := 8) hx hb ht hown ck_H hK hP (by decide) fk_H_82 g49 d_H_show_60 ?_
            refine lv_iconst (v := 0) hx hb d_H_show_63 (by decide) ?_
            obtain ⟨j51, ej51, hf⟩ := bo_some hf
            rw [ej51]
            obtain ⟨hO9, hf⟩ := ck_some hf
            obtain ⟨u50, r50, hc50, hf⟩ := bx_some hf
            refine xV0 (i := j51) (As := [va_rf (Option.map ad r46), .long r48, va_rf (Option.map ad r49), .int 0]) (rest := [.ref (ad v0)]) C0 hP hD hS ck_Te hO9 (c_Te_text N hE hc50) k_Te_text (wd_of 1341 (by decide +kernel) rfl) hi_Te_text hs_Te_text hini_Te rfl rfl hd_Te_text rfl rm_H_show_Te_text hl.1 (Nat.le_of_ble_eq_true rfl) d_H_show_64 rfl ⟨Nat.zero_le _, Nat.zero_le _⟩ (fun H locs hP hD hS => ?_)
            obtain ⟨w52, g52, hf⟩ := bo_some hf
            refine xp (i := v0) (k := 9) (v := (.inl r50)) hx hb ht hown ck_H hK hP hD hS (by decide) fk_H_294 rfl g52 rfl rfl d_H_show_67 (fun H locs hP hD hS => ?_)
            refine lv_aload_n hx hb d_H_show_70 rfl (lv_at hl 1 rfl) ?_
            obtain ⟨r53, g53, hf⟩ := bo_some hf
            refine xg_I (i := v0) (k := 9) hx hb ht hown ck_H hK hP (by decide) fk_H_294 g53 d_H_show_71 ?_
            exact xr0_i C0 hP hD hS hf d_H_show_74
          · rw [br_n _ hc] at hf
            exact wb_H_show_39 C0 hE N G hG _ _ hf H locs hP hD hS ls (lv_sub hl [] rfl)
    · rw [br_n _ hc] at hf
      exact wb_H_show_19 C0 hE N G hG _ _ hf H locs hP hD hS ls (lv_sub hl [] rfl)
def fm_H_show (N : Nat) (u : CS) (v0 : Nat) (v1 : Int32) (v2 : Int32) (v3 : Int32) : Option (CS × Int32) := fb_H_show_0 N () u v0 v1 v2 v3
set_option maxRecDepth 100000 in
set_option maxHeartbeats 4000000 in
theorem c_H_show (N : Nat) {l : Launch} {s0 : State} {b0 : Nat} {D : va_G} {cB cI cJ cZ cS cP : ClassId} {sk sv : Nat → Nat} {ad : Nat → Nat} {u : CS} {sz : Nat} {v0 : Nat} {v1 : Int32} {v2 : Int32} {v3 : Int32} {x : CS × Int32} (hE : ENV s0 b0 sk sv) (hf : fm_H_show N u v0 v1 v2 v3 = some x) : Met l y_H_show (wd_ws y_H_show b_H_show 10 (some .int)) rm_H_show (xPc s0 b0 D cB cI cJ cZ cS cP ad u sz [.ref (ad v0), .int v1, .int v2, .int v3]) (xQ0 D cB cI cJ cZ cS cP (xA cB cI cJ cZ cS cP ad u sz) ad x.1 (some (.inl x.2))) 0 0 (xA cB cI cJ cZ cS cP ad u sz) :=
  xMet (by decide) rfl (Nat.le_of_ble_eq_true rfl) (fun p e s m below meth c ls hsz hnm C0 hP hD hS hl =>
    wb_H_show_0 C0 hE N () trivial u _ _ _ _ x hf s.heap [] hP hD hS ls (lv_sub hl [0, 1, 2, 3] rfl))
