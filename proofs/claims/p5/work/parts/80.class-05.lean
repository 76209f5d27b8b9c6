abbrev b_Ma_list : ByteArray := prog_5_method_18_code
def y_Ma_list : MethodName := ⟨R_Ma, "list", "(I)V"⟩
def w_Ma_list : List Cond := wd_ws y_Ma_list b_Ma_list 4 none
set_option maxRecDepth 100000 in
theorem k_Ma_list : Cond.code y_Ma_list b_Ma_list 4 none ∈ wd_tbl := wd_of 1876 rfl rfl
theorem d_Ma_list_0 : decode b_Ma_list 0 = .ok (.aload_n 0, 1) := by decide +kernel
theorem d_Ma_list_1 : decode b_Ma_list 1 = .ok (.iload_n 1, 1) := by decide +kernel
theorem d_Ma_list_2 : decode b_Ma_list 2 = .ok (.iconst 1, 1) := by decide +kernel
theorem d_Ma_list_3 : decode b_Ma_list 3 = .ok (.iadd, 1) := by decide +kernel
theorem d_Ma_list_4 : decode b_Ma_list 4 = .ok (.iconst 2, 1) := by decide +kernel
theorem d_Ma_list_5 : decode b_Ma_list 5 = .ok (.iload_n 1, 1) := by decide +kernel
theorem d_Ma_list_6 : decode b_Ma_list 6 = .ok (.imul, 1) := by decide +kernel
theorem d_Ma_list_7 : decode b_Ma_list 7 = .ok (.invokevirtual 245, 3) := by decide +kernel
theorem d_Ma_list_10 : decode b_Ma_list 10 = .ok (.sipush 500, 3) := by decide +kernel
theorem d_Ma_list_13 : decode b_Ma_list 13 = .ok (.if_icmp .le 10, 3) := by decide +kernel
theorem d_Ma_list_16 : decode b_Ma_list 16 = .ok (.aload_n 0, 1) := by decide +kernel
theorem d_Ma_list_17 : decode b_Ma_list 17 = .ok (.bipush 11, 2) := by decide +kernel
theorem d_Ma_list_19 : decode b_Ma_list 19 = .ok (.invokevirtual 249, 3) := by decide +kernel
theorem d_Ma_list_22 : decode b_Ma_list 22 = .ok (.return_, 1) := by decide +kernel
theorem d_Ma_list_23 : decode b_Ma_list 23 = .ok (.aload_n 0, 1) := by decide +kernel
theorem d_Ma_list_24 : decode b_Ma_list 24 = .ok (.iconst 2, 1) := by decide +kernel
theorem d_Ma_list_25 : decode b_Ma_list 25 = .ok (.iload_n 1, 1) := by decide +kernel
theorem d_Ma_list_26 : decode b_Ma_list 26 = .ok (.imul, 1) := by decide +kernel
theorem d_Ma_list_27 : decode b_Ma_list 27 = .ok (.invokevirtual 135, 3) := by decide +kernel
theorem d_Ma_list_30 : decode b_Ma_list 30 = .ok (.ifCond .ne 4, 3) := by decide +kernel
theorem d_Ma_list_33 : decode b_Ma_list 33 = .ok (.return_, 1) := by decide +kernel
theorem d_Ma_list_34 : decode b_Ma_list 34 = .ok (.aload_n 0, 1) := by decide +kernel
theorem d_Ma_list_35 : decode b_Ma_list 35 = .ok (.getfield 23, 3) := by decide +kernel
theorem d_Ma_list_38 : decode b_Ma_list 38 = .ok (.getfield 239, 3) := by decide +kernel
theorem d_Ma_list_41 : decode b_Ma_list 41 = .ok (.istore_n 2, 1) := by decide +kernel
theorem d_Ma_list_42 : decode b_Ma_list 42 = .ok (.iconst 0, 1) := by decide +kernel
theorem d_Ma_list_43 : decode b_Ma_list 43 = .ok (.istore_n 3, 1) := by decide +kernel
theorem d_Ma_list_44 : decode b_Ma_list 44 = .ok (.iload_n 3, 1) := by decide +kernel
theorem d_Ma_list_45 : decode b_Ma_list 45 = .ok (.iload_n 1, 1) := by decide +kernel
theorem d_Ma_list_46 : decode b_Ma_list 46 = .ok (.if_icmp .ge 59, 3) := by decide +kernel
theorem d_Ma_list_49 : decode b_Ma_list 49 = .ok (.aload_n 0, 1) := by decide +kernel
theorem d_Ma_list_50 : decode b_Ma_list 50 = .ok (.getfield 23, 3) := by decide +kernel
theorem d_Ma_list_53 : decode b_Ma_list 53 = .ok (.getfield 195, 3) := by decide +kernel
theorem d_Ma_list_56 : decode b_Ma_list 56 = .ok (.iload_n 2, 1) := by decide +kernel
theorem d_Ma_list_57 : decode b_Ma_list 57 = .ok (.iconst 2, 1) := by decide +kernel
theorem d_Ma_list_58 : decode b_Ma_list 58 = .ok (.iload_n 3, 1) := by decide +kernel
theorem d_Ma_list_59 : decode b_Ma_list 59 = .ok (.imul, 1) := by decide +kernel
theorem d_Ma_list_60 : decode b_Ma_list 60 = .ok (.iadd, 1) := by decide +kernel
theorem d_Ma_list_61 : decode b_Ma_list 61 = .ok (.aload_n 0, 1) := by decide +kernel
theorem d_Ma_list_62 : decode b_Ma_list 62 = .ok (.getfield 33, 3) := by decide +kernel
theorem d_Ma_list_65 : decode b_Ma_list 65 = .ok (.iload_n 1, 1) := by decide +kernel
theorem d_Ma_list_66 : decode b_Ma_list 66 = .ok (.iload_n 3, 1) := by decide +kernel
theorem d_Ma_list_67 : decode b_Ma_list 67 = .ok (.isub, 1) := by decide +kernel
theorem d_Ma_list_68 : decode b_Ma_list 68 = .ok (.invokevirtual 138, 3) := by decide +kernel
theorem d_Ma_list_71 : decode b_Ma_list 71 = .ok (.lastore, 1) := by decide +kernel
theorem d_Ma_list_72 : decode b_Ma_list 72 = .ok (.aload_n 0, 1) := by decide +kernel
theorem d_Ma_list_73 : decode b_Ma_list 73 = .ok (.getfield 23, 3) := by decide +kernel
theorem d_Ma_list_76 : decode b_Ma_list 76 = .ok (.getfield 195, 3) := by decide +kernel
theorem d_Ma_list_79 : decode b_Ma_list 79 = .ok (.iload_n 2, 1) := by decide +kernel
theorem d_Ma_list_80 : decode b_Ma_list 80 = .ok (.iconst 2, 1) := by decide +kernel
theorem d_Ma_list_81 : decode b_Ma_list 81 = .ok (.iload_n 3, 1) := by decide +kernel
theorem d_Ma_list_82 : decode b_Ma_list 82 = .ok (.imul, 1) := by decide +kernel
theorem d_Ma_list_83 : decode b_Ma_list 83 = .ok (.iadd, 1) := by decide +kernel
theorem d_Ma_list_84 : decode b_Ma_list 84 = .ok (.iconst 1, 1) := by decide +kernel
theorem d_Ma_list_85 : decode b_Ma_list 85 = .ok (.iadd, 1) := by decide +kernel
theorem d_Ma_list_86 : decode b_Ma_list 86 = .ok (.bipush 7, 2) := by decide +kernel
theorem d_Ma_list_88 : decode b_Ma_list 88 = .ok (.iload_n 2, 1) := by decide +kernel
theorem d_Ma_list_89 : decode b_Ma_list 89 = .ok (.iconst 2, 1) := by decide +kernel
theorem d_Ma_list_90 : decode b_Ma_list 90 = .ok (.iload_n 3, 1) := by decide +kernel
theorem d_Ma_list_91 : decode b_Ma_list 91 = .ok (.imul, 1) := by decide +kernel
theorem d_Ma_list_92 : decode b_Ma_list 92 = .ok (.iadd, 1) := by decide +kernel
theorem d_Ma_list_93 : decode b_Ma_list 93 = .ok (.iconst 2, 1) := by decide +kernel
theorem d_Ma_list_94 : decode b_Ma_list 94 = .ok (.iadd, 1) := by decide +kernel
theorem d_Ma_list_95 : decode b_Ma_list 95 = .ok (.invokestatic 101, 3) := by decide +kernel
theorem d_Ma_list_98 : decode b_Ma_list 98 = .ok (.lastore, 1) := by decide +kernel
theorem d_Ma_list_99 : decode b_Ma_list 99 = .ok (.iinc 3 1, 3) := by decide +kernel
theorem d_Ma_list_102 : decode b_Ma_list 102 = .ok (.goto (-58), 3) := by decide +kernel
theorem d_Ma_list_105 : decode b_Ma_list 105 = .ok (.aload_n 0, 1) := by decide +kernel
theorem d_Ma_list_106 : decode b_Ma_list 106 = .ok (.iload_n 2, 1) := by decide +kernel
theorem d_Ma_list_107 : decode b_Ma_list 107 = .ok (.iload_n 1, 1) := by decide +kernel
theorem d_Ma_list_108 : decode b_Ma_list 108 = .ok (.aload_n 0, 1) := by decide +kernel
theorem d_Ma_list_109 : decode b_Ma_list 109 = .ok (.getfield 33, 3) := by decide +kernel
theorem d_Ma_list_112 : decode b_Ma_list 112 = .ok (.iconst 0, 1) := by decide +kernel
theorem d_Ma_list_113 : decode b_Ma_list 113 = .ok (.invokevirtual 138, 3) := by decide +kernel
theorem d_Ma_list_116 : decode b_Ma_list 116 = .ok (.invokevirtual 242, 3) := by decide +kernel
theorem d_Ma_list_119 : decode b_Ma_list 119 = .ok (.aload_n 0, 1) := by decide +kernel
theorem d_Ma_list_120 : decode b_Ma_list 120 = .ok (.iload_n 1, 1) := by decide +kernel
theorem d_Ma_list_121 : decode b_Ma_list 121 = .ok (.iconst 1, 1) := by decide +kernel
theorem d_Ma_list_122 : decode b_Ma_list 122 = .ok (.iadd, 1) := by decide +kernel
theorem d_Ma_list_123 : decode b_Ma_list 123 = .ok (.bipush 7, 2) := by decide +kernel
theorem d_Ma_list_125 : decode b_Ma_list 125 = .ok (.iload_n 2, 1) := by decide +kernel
theorem d_Ma_list_126 : decode b_Ma_list 126 = .ok (.invokestatic 101, 3) := by decide +kernel
theorem d_Ma_list_129 : decode b_Ma_list 129 = .ok (.invokevirtual 145, 3) := by decide +kernel
theorem d_Ma_list_132 : decode b_Ma_list 132 = .ok (.aload_n 0, 1) := by decide +kernel
theorem d_Ma_list_133 : decode b_Ma_list 133 = .ok (.dup, 1) := by decide +kernel
theorem d_Ma_list_134 : decode b_Ma_list 134 = .ok (.getfield 40, 3) := by decide +kernel
theorem d_Ma_list_137 : decode b_Ma_list 137 = .ok (.iconst 2, 1) := by decide +kernel
theorem d_Ma_list_138 : decode b_Ma_list 138 = .ok (.iadd, 1) := by decide +kernel
theorem d_Ma_list_139 : decode b_Ma_list 139 = .ok (.putfield 40, 3) := by decide +kernel
theorem d_Ma_list_142 : decode b_Ma_list 142 = .ok (.return_, 1) := by decide +kernel
set_option maxRecDepth 100000 in
theorem hl_Ma_list : Cond.methodLink R_Ma 186 y_Ma_list ∈ wd_tbl := wd_of 1873 (by decide +kernel) rfl
set_option maxRecDepth 100000 in
theorem hi_Ma_list : Cond.instanceMethod y_Ma_list ∈ wd_tbl := wd_of 1875 (by decide +kernel) rfl
set_option maxRecDepth 100000 in
theorem hs_Ma_list : Cond.selects R_Ma y_Ma_list y_Ma_list ∈ wd_tbl := wd_of 96 (by decide +kernel) rfl
theorem hd_Ma_list : y_Ma_list.cls = R_Ma ∧ y_Ma_list.cls ≠ "java/lang/invoke/MethodHandle" ∧ y_Ma_list.cls ≠ "java/lang/invoke/VarHandle" ∧ (parseMethodDescriptor y_Ma_list.desc).map (fun d => d.parameters.length) = some 1 := by decide +kernel
def rm_Ma_list (mc ms : Nat) : Room := { frames := 4, cells := mc, slots := ms, locals := 127 }
theorem rm_Ma_list_Ma_sizes {mc ms : Nat} : (rm_Ma_sizes).frames + 1 ≤ (rm_Ma_list mc ms).frames ∧ 8 + (5 + 11) + (rm_Ma_sizes).locals ≤ (rm_Ma_list mc ms).locals := by
  show 2 + 1 ≤ 4 ∧ 8 + (5 + 11) + 54 ≤ 127
  decide
theorem rm_Ma_list_Ma_wrong {mc ms : Nat} : (rm_Ma_wrong).frames + 1 ≤ (rm_Ma_list mc ms).frames ∧ 8 + (2 + 11) + (rm_Ma_wrong).locals ≤ (rm_Ma_list mc ms).locals := by
  show 2 + 1 ≤ 4 ∧ 8 + (2 + 11) + 41 ≤ 127
  decide
theorem rm_Ma_list_Ma_room {mc ms : Nat} : (rm_Ma_room).frames + 1 ≤ (rm_Ma_list mc ms).frames ∧ 8 + (2 + 11) + (rm_Ma_room).locals ≤ (rm_Ma_list mc ms).locals := by
  show 3 + 1 ≤ 4 ∧ 8 + (2 + 11) + 97 ≤ 127
  decide
theorem rm_Ma_list_Fr_below {mc ms : Nat} : (rm_Fr_below).frames + 1 ≤ (rm_Ma_list mc ms).frames ∧ 8 + (3 + 11) + (rm_Fr_below).locals ≤ (rm_Ma_list mc ms).locals := by
  show 0 + 1 ≤ 4 ∧ 8 + (3 + 11) + 0 ≤ 127
  decide
theorem rm_Ma_list_Te_make {mc ms : Nat} : (rm_Te_make).frames + 1 ≤ (rm_Ma_list mc ms).frames ∧ 8 + (2 + 11) + (rm_Te_make).locals ≤ (rm_Ma_list mc ms).locals := by
  show 0 + 1 ≤ 4 ∧ 8 + (2 + 11) + 0 ≤ 127
  decide
theorem rm_Ma_list_Ma_endList {mc ms : Nat} : (rm_Ma_endList).frames + 1 ≤ (rm_Ma_list mc ms).frames ∧ 8 + (5 + 11) + (rm_Ma_endList).locals ≤ (rm_Ma_list mc ms).locals := by
  show 0 + 1 ≤ 4 ∧ 8 + (5 + 11) + 0 ≤ 127
  decide
theorem rm_Ma_list_Ma_answer {mc ms : Nat} {mc2 ms2 : Nat} : (rm_Ma_answer mc2 ms2).frames + 1 ≤ (rm_Ma_list mc ms).frames ∧ 8 + (4 + 11) + (rm_Ma_answer mc2 ms2).locals ≤ (rm_Ma_list mc ms).locals := by
  show 3 + 1 ≤ 4 ∧ 8 + (4 + 11) + 104 ≤ 127
  decide
def fb_Ma_list_44 (N : Nat) (G : (CS → Nat → Int32 → Int32 → Int32 → Option (CS × Unit))) (u : CS) (v0 : Nat) (v1 : Int32) (v2 : Int32) (v3 : Int32) : Option (CS × Unit) := br (decide (v1 ≤ v3)) (bo (gR u v0 5 4) (fun r1 => bo r1 (fun j3 => ck (isO u j3 4) (bx (gz u (fm_Fr_below N u j3 0)) (fun u2 r2 => gw u2 (ck (isO u2 v0 5) (bx (gz u2 (fm_Ma_endList N u2 v0 v2 v1 r2)) (fun u4 r4 => gw u4 (bx (gz u4 (fm_Te_make N u4 7 v2)) (fun u5 r5 => gw u5 (ck (isO u5 v0 5) (ck (List.all [some v0] (okR u5.1.1)) (bx (gw u5 (fm_Ma_answer N u5 v0 (v1 + 1) r5)) (fun u6 r6 => gw u6 (bo (gI u6 v0 5 5) (fun r7 => bo (pF u6 v0 5 5 (.inl (r7 + 2))) (fun w8 => some (w8, ())))))))))))))))))) (bo (gR u v0 5 3) (fun r9 => bo r9 (fun j10 => bo (gR u j10 7 2) (fun r11 => bo (gR u v0 5 4) (fun r12 => bo r12 (fun j14 => ck (isO u j14 4) (bx (gz u (fm_Fr_below N u j14 (v1 - v3))) (fun u13 r13 => gw u13 (bo r11 (fun j15 => bo (sJ u13 j15 (v2 + (2 * v3)) r13) (fun w16 => bo (gR w16 v0 5 3) (fun r17 => bo r17 (fun j18 => bo (gR w16 j18 7 2) (fun r19 => bx (gz w16 (fm_Te_make N w16 7 ((v2 + (2 * v3)) + 2))) (fun u20 r20 => gw u20 (bo r19 (fun j21 => bo (sJ u20 j21 ((v2 + (2 * v3)) + 1) r20) (fun w22 => G w22 (v0) (v1) (v2) ((v3 + 1))))))))))))))))))))
set_option maxRecDepth 100000 in
set_option maxHeartbeats 4000000 in
theorem wb_Ma_list_44 {p : Program} {l : Launch} {e : Env} {s : State} {m : MethodId} {args : Array Value} {below : List Frame} {meth : Method} {c : Code} {s0 : State} {b0 : Nat} {D : va_G} {cB cI cJ cZ cS cP : ClassId} {A : Nat → Prop} {sk sv : Nat → Nat} {uN uS mc ms : Nat} {ad0 : Nat → Nat} (C0 : XCx p s s0 b0 m args meth c R_Ma b_Ma_list 4 none D cB cI cJ cZ cS cP A) (hE : ENV s0 b0 sk sv) (N : Nat) (G : (CS → Nat → Int32 → Int32 → Int32 → Option (CS × Unit))) (hG : (∀ (u : CS) (v0 : Nat) (v1 : Int32) (v2 : Int32) (v3 : Int32) (x : CS × Unit), G u v0 v1 v2 v3 = some x → (uN + mc = x.1.1.1 ∧ uS + ms = x.1.1.2) → ∀ (ad : Nat → Nat) (ce sl : Nat), AB uN uS ad0 u ad ce sl → ∀ (H : Heap) (locs : List Loc), va_P D cls (wC cB cI cJ cZ cS cP ad u) H → va_D A (wC cB cI cJ cZ cS cP ad u) → va_S A s.heap H locs → ∀ (ls : Array Slot), lv_has ls 4 [(0, .ref (ad v0)), (1, .int v1), (2, .int v2), (3, .int v3)] → W p l e (rm_Ma_list mc ms) s m args below meth c H locs ce sl (MQ below (xQ D cB cI cJ cZ cS cP A ad0 uN x.1 none) args s mc ms A) (F0 m 44 ls []))) : ∀ (u : CS) (v0 : Nat) (v1 : Int32) (v2 : Int32) (v3 : Int32) (x : CS × Unit), fb_Ma_list_44 N G u v0 v1 v2 v3 = some x → (uN + mc = x.1.1.1 ∧ uS + ms = x.1.1.2) → ∀ (ad : Nat → Nat) (ce sl : Nat), AB uN uS ad0 u ad ce sl → ∀ (H : Heap) (locs : List Loc), va_P D cls (wC cB cI cJ cZ cS cP ad u) H → va_D A (wC cB cI cJ cZ cS cP ad u) → va_S A s.heap H locs → ∀ (ls : Array Slot), lv_has ls 4 [(0, .ref (ad v0)), (1, .int v1), (2, .int v2), (3, .int v3)] → W p l e (rm_Ma_list mc ms) s m args below meth c H locs ce sl (MQ below (xQ D cB cI cJ cZ cS cP A ad0 uN x.1 none) args s mc ms A) (F0 m 44 ls []) := by
  intro u v0 v1 v2 v3 x hf hm ad ce sl hB H locs hP hD hS ls hl
  obtain ⟨hx, hb, hr, hml, ht, hown, hK, hA, hlocks, hA0, hO, hbs⟩ := id C0
  unfold fb_Ma_list_44 at hf
  refine lv_iload_n hx hb d_Ma_list_44 rfl (lv_at hl 3 rfl) ?_
  refine lv_iload_n hx hb d_Ma_list_45 rfl (lv_at hl 1 rfl) ?_
  refine lv_icmp_ge (tgt := 105) hx hb d_Ma_list_46 (by decide) (fun hc => ?_) (fun hc => ?_)
  · rw [br_p _ hc] at hf
    refine lv_aload_n hx hb d_Ma_list_105 rfl (lv_at hl 0 rfl) ?_
    refine lv_iload_n hx hb d_Ma_list_106 rfl (lv_at hl 2 rfl) ?_
    refine lv_iload_n hx hb d_Ma_list_107 rfl (lv_at hl 1 rfl) ?_
    refine lv_aload_n hx hb d_Ma_list_108 rfl (lv_at hl 0 rfl) ?_
    obtain ⟨r1, g1, hf⟩ := bo_some hf
    refine xg_R (i := v0) (k := 4) hx hb ht hown ck_Ma hK hP (by decide) fk_Ma_33 g1 d_Ma_list_109 ?_
    refine lv_iconst (v := 0) hx hb d_Ma_list_112 (by decide) ?_
    obtain ⟨j3, ej3, hf⟩ := bo_some hf
    rw [ej3]
    obtain ⟨hO9, hf⟩ := ck_some hf
    obtain ⟨u2, r2, hc2, hf⟩ := bx_some hf
    obtain ⟨hc2, hz2⟩ := gz_some hc2
    obtain ⟨hf, hw2⟩ := gw_some hf
    refine xV0 (i := j3) (As := [.int 0]) (rest := [.int v1, .int v2, .ref (ad v0)]) C0 hP hD hS ck_Fr hO9 (c_Fr_below N hc2) k_Fr_below (wd_of 1653 (by decide +kernel) rfl) hi_Fr_below hs_Fr_below hini_Fr rfl rfl hd_Fr_below rfl rm_Ma_list_Fr_below hl.1 (Nat.le_of_ble_eq_true rfl) d_Ma_list_113 rfl (hB.fit hm hz2 hw2) (fun H locs hP hD hS => ?_)
    have hB := hB.same2 hz2
    obtain ⟨hO9, hf⟩ := ck_some hf
    obtain ⟨u4, r4, hc4, hf⟩ := bx_some hf
    obtain ⟨hc4, hz4⟩ := gz_some hc4
    obtain ⟨hf, hw4⟩ := gw_some hf
    refine xV0 (i := v0) (As := [.int v2, .int v1, .long r2]) (rest := []) C0 hP hD hS ck_Ma hO9 (c_Ma_endList N hc4) k_Ma_endList (wd_of 1857 (by decide +kernel) rfl) hi_Ma_endList hs_Ma_endList hini_Ma rfl rfl hd_Ma_endList rfl rm_Ma_list_Ma_endList hl.1 (Nat.le_of_ble_eq_true rfl) d_Ma_list_116 rfl (hB.fit hm hz4 hw4) (fun H locs hP hD hS => ?_)
    have hB := hB.same2 hz4
    refine lv_aload_n hx hb d_Ma_list_119 rfl (lv_at hl 0 rfl) ?_
    refine lv_iload_n hx hb d_Ma_list_120 rfl (lv_at hl 1 rfl) ?_
    refine lv_iconst (v := 1) hx hb d_Ma_list_121 (by decide) ?_
    refine lv_iadd hx hb d_Ma_list_122 ?_
    refine lv_bipush (v := 7) hx hb d_Ma_list_123 (by decide) ?_
    refine lv_iload_n hx hb d_Ma_list_125 rfl (lv_at hl 2 rfl) ?_
    obtain ⟨u5, r5, hc5, hf⟩ := bx_some hf
    obtain ⟨hc5, hz5⟩ := gz_some hc5
    obtain ⟨hf, hw5⟩ := gw_some hf
    refine xS0 (As := [.int 7, .int v2]) (rest := [.int (v1 + 1), .ref (ad v0)]) C0 hP hD hS (c_Te_make N hc5) k_Te_make (wd_of 1671 (by decide +kernel) rfl) ht_Te_make hini_Te rfl rfl hd_Te_make rfl rm_Ma_list_Te_make hl.1 (Nat.le_of_ble_eq_true rfl) d_Ma_list_126 rfl (hB.fit hm hz5 hw5) (fun H locs hP hD hS => ?_)
    have hB := hB.same2 hz5
    obtain ⟨hO9, hf⟩ := ck_some hf
    obtain ⟨hk6, hf⟩ := ck_some hf
    obtain ⟨u6, r6, hc6, hf⟩ := bx_some hf
    obtain ⟨hc6, hq6⟩ := gw_some hc6
    obtain ⟨hf, hw6⟩ := gw_some hf
    refine yV (i := v0) (As := [.int (v1 + 1), .long r5]) (rest := []) C0 hP hD hS ck_Ma hO9 (c_Ma_answer N hE hc6 (gm hq6)) k_Ma_answer (wd_of 1744 (by decide +kernel) rfl) hi_Ma_answer hs_Ma_answer hini_Ma rfl rfl hd_Ma_answer rfl rm_Ma_list_Ma_answer hl.1 (Nat.le_of_ble_eq_true rfl) d_Ma_list_129 rfl (gm hq6) hB hm hw6 (fun ad6 H locs ce sl hg6 hB hP hD hS => ?_)
    have q6_0 : ad6 v0 = ad v0 := ko_O (k := 0) hk6 rfl hg6
    have hl : lv_has ls 4 [(0, .ref (ad6 v0)), (1, .int v1), (2, .int v2), (3, .int v3)] := by simp only [q6_0]; exact hl
    refine lv_aload_n hx hb d_Ma_list_132 rfl (lv_at hl 0 rfl) ?_
    refine lv_dup hx hb d_Ma_list_133 rfl ?_
    obtain ⟨r7, g7, hf⟩ := bo_some hf
    refine xg_I (i := v0) (k := 5) hx hb ht hown ck_Ma hK hP (by decide) fk_Ma_40 g7 d_Ma_list_134 ?_
    refine lv_iconst (v := 2) hx hb d_Ma_list_137 (by decide) ?_
    refine lv_iadd hx hb d_Ma_list_138 ?_
    obtain ⟨w8, g8, hf⟩ := bo_some hf
    refine xp (i := v0) (k := 5) (v := (.inl (r7 + 2))) hx hb ht hown ck_Ma hK hP hD hS (by decide) fk_Ma_40 rfl g8 rfl rfl d_Ma_list_139 (fun H locs hP hD hS => ?_)
    have hB := hB.same (pF_c g8)
    exact yr_v C0 hP hD hS hB hm hf d_Ma_list_142
  · rw [br_n _ hc] at hf
    refine lv_aload_n hx hb d_Ma_list_49 rfl (lv_at hl 0 rfl) ?_
    obtain ⟨r9, g9, hf⟩ := bo_some hf
    refine xg_R (i := v0) (k := 3) hx hb ht hown ck_Ma hK hP (by decide) fk_Ma_23 g9 d_Ma_list_50 ?_
    obtain ⟨j10, ej10, hf⟩ := bo_some hf
    rw [ej10]
    obtain ⟨r11, g11, hf⟩ := bo_some hf
    refine xg_R (i := j10) (k := 2) hx hb ht hown ck_Pr hK hP (by decide) fk_Ma_195 g11 d_Ma_list_53 ?_
    refine lv_iload_n hx hb d_Ma_list_56 rfl (lv_at hl 2 rfl) ?_
    refine lv_iconst (v := 2) hx hb d_Ma_list_57 (by decide) ?_
    refine lv_iload_n hx hb d_Ma_list_58 rfl (lv_at hl 3 rfl) ?_
    refine lv_imul hx hb d_Ma_list_59 ?_
    refine lv_iadd hx hb d_Ma_list_60 ?_
    refine lv_aload_n hx hb d_Ma_list_61 rfl (lv_at hl 0 rfl) ?_
    obtain ⟨r12, g12, hf⟩ := bo_some hf
    refine xg_R (i := v0) (k := 4) hx hb ht hown ck_Ma hK hP (by decide) fk_Ma_33 g12 d_Ma_list_62 ?_
    refine lv_iload_n hx hb d_Ma_list_65 rfl (lv_at hl 1 rfl) ?_
    refine lv_iload_n hx hb d_Ma_list_66 rfl (lv_at hl 3 rfl) ?_
    refine lv_isub hx hb d_Ma_list_67 ?_
    obtain ⟨j14, ej14, hf⟩ := bo_some hf
    rw [ej14]
    obtain ⟨hO9, hf⟩ := ck_some hf
    obtain ⟨u13, r13, hc13, hf⟩ := bx_some hf
    obtain ⟨hc13, hz13⟩ := gz_some hc13
    obtain ⟨hf, hw13⟩ := gw_some hf
    refine xV0 (i := j14) (As := [.int (v1 - v3)]) (rest := [.int (v2 + (2 * v3)), va_rf (Option.map ad r11)]) C0 hP hD hS ck_Fr hO9 (c_Fr_below N hc13) k_Fr_below (wd_of 1653 (by decide +kernel) rfl) hi_Fr_below hs_Fr_below hini_Fr rfl rfl hd_Fr_below rfl rm_Ma_list_Fr_below hl.1 (c8 (Nat.le_of_ble_eq_true rfl)) d_Ma_list_68 rfl (hB.fit hm hz13 hw13) (fun H locs hP hD hS => ?_)
    have hB := hB.same2 hz13
    obtain ⟨j15, ej15, hf⟩ := bo_some hf
    rw [ej15]
    obtain ⟨w16, g16, hf⟩ := bo_some hf
    refine xs_J (i := j15) hx hb hK hP hD hS g16 d_Ma_list_71 (fun H locs hP hD hS => ?_)
    have hB := hB.same (sJ_c g16)
    refine lv_aload_n hx hb d_Ma_list_72 rfl (lv_at hl 0 rfl) ?_
    obtain ⟨r17, g17, hf⟩ := bo_some hf
    refine xg_R (i := v0) (k := 3) hx hb ht hown ck_Ma hK hP (by decide) fk_Ma_23 g17 d_Ma_list_73 ?_
    obtain ⟨j18, ej18, hf⟩ := bo_some hf
    rw [ej18]
    obtain ⟨r19, g19, hf⟩ := bo_some hf
    refine xg_R (i := j18) (k := 2) hx hb ht hown ck_Pr hK hP (by decide) fk_Ma_195 g19 d_Ma_list_76 ?_
    refine lv_iload_n hx hb d_Ma_list_79 rfl (lv_at hl 2 rfl) ?_
    refine lv_iconst (v := 2) hx hb d_Ma_list_80 (by decide) ?_
    refine lv_iload_n hx hb d_Ma_list_81 rfl (lv_at hl 3 rfl) ?_
    refine lv_imul hx hb d_Ma_list_82 ?_
    refine lv_iadd hx hb d_Ma_list_83 ?_
    refine lv_iconst (v := 1) hx hb d_Ma_list_84 (by decide) ?_
    refine lv_iadd hx hb d_Ma_list_85 ?_
    refine lv_bipush (v := 7) hx hb d_Ma_list_86 (by decide) ?_
    refine lv_iload_n hx hb d_Ma_list_88 rfl (lv_at hl 2 rfl) ?_
    refine lv_iconst (v := 2) hx hb d_Ma_list_89 (by decide) ?_
    refine lv_iload_n hx hb d_Ma_list_90 rfl (lv_at hl 3 rfl) ?_
    refine lv_imul hx hb d_Ma_list_91 ?_
    refine lv_iadd hx hb d_Ma_list_92 ?_
    refine lv_iconst (v := 2) hx hb d_Ma_list_93 (by decide) ?_
    refine lv_iadd hx hb d_Ma_list_94 ?_
    obtain ⟨u20, r20, hc20, hf⟩ := bx_some hf
    obtain ⟨hc20, hz20⟩ := gz_some hc20
    obtain ⟨hf, hw20⟩ := gw_some hf
    refine xS0 (As := [.int 7, .int ((v2 + (2 * v3)) + 2)]) (rest := [.int ((v2 + (2 * v3)) + 1), va_rf (Option.map ad r19)]) C0 hP hD hS (c_Te_make N hc20) k_Te_make (wd_of 1671 (by decide +kernel) rfl) ht_Te_make hini_Te rfl rfl hd_Te_make rfl rm_Ma_list_Te_make hl.1 (c8 (Nat.le_of_ble_eq_true rfl)) d_Ma_list_95 rfl (hB.fit hm hz20 hw20) (fun H locs hP hD hS => ?_)
    have hB := hB.same2 hz20
    obtain ⟨j21, ej21, hf⟩ := bo_some hf
    rw [ej21]
    obtain ⟨w22, g22, hf⟩ := bo_some hf
    refine xs_J (i := j21) hx hb hK hP hD hS g22 d_Ma_list_98 (fun H locs hP hD hS => ?_)
    have hB := hB.same (sJ_c g22)
    refine lv_iinc (v := (v3 + 1)) (lv' := [(3, .int (v3 + 1)), (0, .ref (ad v0)), (1, .int v1), (2, .int v2)]) hx hb d_Ma_list_99 hl (k := 3) rfl rfl (by decide) (by first | rfl | simp [List.filter, cat_rf]) (fun ls hl => ?_)
    refine lv_goto (tgt := 44) hx hb d_Ma_list_102 (by decide) ?_
    exact hG _ _ _ _ _ _ hf hm _ _ _ hB H locs hP hD hS ls (lv_sub hl [1, 2, 3, 0] rfl)
def fb_Ma_list_0 (N : Nat) (G : (CS → Nat → Int32 → Int32 → Int32 → Option (CS × Unit))) (u : CS) (v0 : Nat) (v1 : Int32) : Option (CS × Unit) := ck (isO u v0 5) (bx (gz u (fm_Ma_sizes N u v0 (v1 + 1) (2 * v1))) (fun u23 r23 => gw u23 (br (decide (r23 ≤ 500)) (ck (isO u23 v0 5) (bx (gz u23 (fm_Ma_room N u23 v0 (2 * v1))) (fun u24 r24 => gw u24 (br (decide (r24 = 0)) (some (u24, ())) (bo (gR u24 v0 5 3) (fun r25 => bo r25 (fun j26 => bo (gI u24 j26 7 4) (fun r27 => G u24 (v0) (v1) (r27) (0))))))))) (ck (isO u23 v0 5) (bx (gz u23 (fm_Ma_wrong N u23 v0 11)) (fun u28 r28 => gw u28 (some (u28, ()))))))))
set_option maxRecDepth 100000 in
set_option maxHeartbeats 4000000 in
theorem wb_Ma_list_0 {p : Program} {l : Launch} {e : Env} {s : State} {m : MethodId} {args : Array Value} {below : List Frame} {meth : Method} {c : Code} {s0 : State} {b0 : Nat} {D : va_G} {cB cI cJ cZ cS cP : ClassId} {A : Nat → Prop} {sk sv : Nat → Nat} {uN uS mc ms : Nat} {ad0 : Nat → Nat} (C0 : XCx p s s0 b0 m args meth c R_Ma b_Ma_list 4 none D cB cI cJ cZ cS cP A) (hE : ENV s0 b0 sk sv) (N : Nat) (G : (CS → Nat → Int32 → Int32 → Int32 → Option (CS × Unit))) (hG : (∀ (u : CS) (v0 : Nat) (v1 : Int32) (v2 : Int32) (v3 : Int32) (x : CS × Unit), G u v0 v1 v2 v3 = some x → (uN + mc = x.1.1.1 ∧ uS + ms = x.1.1.2) → ∀ (ad : Nat → Nat) (ce sl : Nat), AB uN uS ad0 u ad ce sl → ∀ (H : Heap) (locs : List Loc), va_P D cls (wC cB cI cJ cZ cS cP ad u) H → va_D A (wC cB cI cJ cZ cS cP ad u) → va_S A s.heap H locs → ∀ (ls : Array Slot), lv_has ls 4 [(0, .ref (ad v0)), (1, .int v1), (2, .int v2), (3, .int v3)] → W p l e (rm_Ma_list mc ms) s m args below meth c H locs ce sl (MQ below (xQ D cB cI cJ cZ cS cP A ad0 uN x.1 none) args s mc ms A) (F0 m 44 ls []))) : ∀ (u : CS) (v0 : Nat) (v1 : Int32) (x : CS × Unit), fb_Ma_list_0 N G u v0 v1 = some x → (uN + mc = x.1.1.1 ∧ uS + ms = x.1.1.2) → ∀ (ad : Nat → Nat) (ce sl : Nat), AB uN uS ad0 u ad ce sl → ∀ (H : Heap) (locs : List Loc), va_P D cls (wC cB cI cJ cZ cS cP ad u) H → va_D A (wC cB cI cJ cZ cS cP ad u) → va_S A s.heap H locs → ∀ (ls : Array Slot), lv_has ls 4 [(0, .ref (ad v0)), (1, .int v1)] → W p l e (rm_Ma_list mc ms) s m args below meth c H locs ce sl (MQ below (xQ D cB cI cJ cZ cS cP A ad0 uN x.1 none) args s mc ms A) (F0 m 0 ls []) := by
  intro u v0 v1 x hf hm ad ce sl hB H locs hP hD hS ls hl
  obtain ⟨hx, hb, hr, hml, ht, hown, hK, hA, hlocks, hA0, hO, hbs⟩ := id C0
  unfold fb_Ma_list_0 at hf
  refine lv_aload_n hx hb d_Ma_list_0 rfl (lv_at hl 0 rfl) ?_
  refine lv_iload_n hx hb d_Ma_list_1 rfl (lv_at hl 1 rfl) ?_
  refine lv_iconst (v := 1) hx hb d_Ma_list_2 (by decide) ?_
  refine lv_iadd hx hb d_Ma_list_3 ?_
  refine lv_iconst (v := 2) hx hb d_Ma_list_4 (by decide) ?_
  refine lv_iload_n hx hb d_Ma_list_5 rfl (lv_at hl 1 rfl) ?_
  refine lv_imul hx hb d_Ma_list_6 ?_
  obtain ⟨hO9, hf⟩ := ck_some hf
  obtain ⟨u23, r23, hc23, hf⟩ := bx_some hf
  obtain ⟨hc23, hz23⟩ := gz_some hc23
  obtain ⟨hf, hw23⟩ := gw_some hf
  refine xV0 (i := v0) (As := [.int (v1 + 1), .int (2 * v1)]) (rest := []) C0 hP hD hS ck_Ma hO9 (c_Ma_sizes N hc23) k_Ma_sizes (wd_of 1869 (by decide +kernel) rfl) hi_Ma_sizes hs_Ma_sizes hini_Ma rfl rfl hd_Ma_sizes rfl rm_Ma_list_Ma_sizes hl.1 (Nat.le_of_ble_eq_true rfl) d_Ma_list_7 rfl (hB.fit hm hz23 hw23) (fun H locs hP hD hS => ?_)
  have hB := hB.same2 hz23
  refine lv_sipush (v := 500) hx hb d_Ma_list_10 (by decide) ?_
  refine lv_icmp_le (tgt := 23) hx hb d_Ma_list_13 (by decide) (fun hc => ?_) (fun hc => ?_)
  · rw [br_p _ hc] at hf
    refine lv_aload_n hx hb d_Ma_list_23 rfl (lv_at hl 0 rfl) ?_
    refine lv_iconst (v := 2) hx hb d_Ma_list_24 (by decide) ?_
    refine lv_iload_n hx hb d_Ma_list_25 rfl (lv_at hl 1 rfl) ?_
    refine lv_imul hx hb d_Ma_list_26 ?_
    obtain ⟨hO9, hf⟩ := ck_some hf
    obtain ⟨u24, r24, hc24, hf⟩ := bx_some hf
    obtain ⟨hc24, hz24⟩ := gz_some hc24
    obtain ⟨hf, hw24⟩ := gw_some hf
    refine xV0 (i := v0) (As := [.int (2 * v1)]) (rest := []) C0 hP hD hS ck_Ma hO9 (c_Ma_room N hE hc24) k_Ma_room (wd_of 1853 (by decide +kernel) rfl) hi_Ma_room hs_Ma_room hini_Ma rfl rfl hd_Ma_room rfl rm_Ma_list_Ma_room hl.1 (Nat.le_of_ble_eq_true rfl) d_Ma_list_27 rfl (hB.fit hm hz24 hw24) (fun H locs hP hD hS => ?_)
    have hB := hB.same2 hz24
    refine lv_if_ne (tgt := 34) hx hb d_Ma_list_30 (by decide) (fun hc => ?_) (fun hc => ?_)
    · rw [br_n _ hc] at hf
      refine lv_aload_n hx hb d_Ma_list_34 rfl (lv_at hl 0 rfl) ?_
      obtain ⟨r25, g25, hf⟩ := bo_some hf
      refine xg_R (i := v0) (k := 3) hx hb ht hown ck_Ma hK hP (by decide) fk_Ma_23 g25 d_Ma_list_35 ?_
      obtain ⟨j26, ej26, hf⟩ := bo_some hf
      rw [ej26]
      obtain ⟨r27, g27, hf⟩ := bo_some hf
      refine xg_I (i := j26) (k := 4) hx hb ht hown ck_Pr hK hP (by decide) fk_Ma_239 g27 d_Ma_list_38 ?_
      refine lv_istore_n (lv' := [(2, .int r27), (0, .ref (ad v0)), (1, .int v1)]) hx hb d_Ma_list_41 rfl hl (by decide) (by first | rfl | simp [List.filter, cat_rf]) (fun ls hl => ?_)
      refine lv_iconst (v := 0) hx hb d_Ma_list_42 (by decide) ?_
      refine lv_istore_n (lv' := [(3, .int 0), (2, .int r27), (0, .ref (ad v0)), (1, .int v1)]) hx hb d_Ma_list_43 rfl hl (by decide) (by first | rfl | simp [List.filter, cat_rf]) (fun ls hl => ?_)
      exact hG _ _ _ _ _ _ hf hm _ _ _ hB H locs hP hD hS ls (lv_sub hl [2, 3, 1, 0] rfl)
    · rw [br_p _ hc] at hf
      exact yr_v C0 hP hD hS hB hm hf d_Ma_list_33
  · rw [br_n _ hc] at hf
    refine lv_aload_n hx hb d_Ma_list_16 rfl (lv_at hl 0 rfl) ?_
    refine lv_bipush (v := 11) hx hb d_Ma_list_17 (by decide) ?_
    obtain ⟨hO9, hf⟩ := ck_some hf
    obtain ⟨u28, r28, hc28, hf⟩ := bx_some hf
    obtain ⟨hc28, hz28⟩ := gz_some hc28
    obtain ⟨hf, hw28⟩ := gw_some hf
    refine xV0 (i := v0) (As := [.int 11]) (rest := []) C0 hP hD hS ck_Ma hO9 (c_Ma_wrong N hc28) k_Ma_wrong (wd_of 1664 (by decide +kernel) rfl) hi_Ma_wrong hs_Ma_wrong hini_Ma rfl rfl hd_Ma_wrong rfl rm_Ma_list_Ma_wrong hl.1 (Nat.le_of_ble_eq_true rfl) d_Ma_list_19 rfl (hB.fit hm hz28 hw28) (fun H locs hP hD hS => ?_)
    have hB := hB.same2 hz28
    exact yr_v C0 hP hD hS hB hm hf d_Ma_list_22
def gg_Ma_list (N : Nat) : Nat → ((CS → Nat → Int32 → Int32 → Int32 → Option (CS × Unit)))
  | 0 => fun _ _ _ _ _ => none
  | n + 1 => fb_Ma_list_44 N (gg_Ma_list N n)
theorem wg_Ma_list {p : Program} {l : Launch} {e : Env} {s : State} {m : MethodId} {args : Array Value} {below : List Frame} {meth : Method} {c : Code} {s0 : State} {b0 : Nat} {D : va_G} {cB cI cJ cZ cS cP : ClassId} {A : Nat → Prop} {sk sv : Nat → Nat} {uN uS mc ms : Nat} {ad0 : Nat → Nat} (C0 : XCx p s s0 b0 m args meth c R_Ma b_Ma_list 4 none D cB cI cJ cZ cS cP A) (hE : ENV s0 b0 sk sv) (N : Nat) : ∀ n : Nat, (∀ (u : CS) (v0 : Nat) (v1 : Int32) (v2 : Int32) (v3 : Int32) (x : CS × Unit), gg_Ma_list N n u v0 v1 v2 v3 = some x → (uN + mc = x.1.1.1 ∧ uS + ms = x.1.1.2) → ∀ (ad : Nat → Nat) (ce sl : Nat), AB uN uS ad0 u ad ce sl → ∀ (H : Heap) (locs : List Loc), va_P D cls (wC cB cI cJ cZ cS cP ad u) H → va_D A (wC cB cI cJ cZ cS cP ad u) → va_S A s.heap H locs → ∀ (ls : Array Slot), lv_has ls 4 [(0, .ref (ad v0)), (1, .int v1), (2, .int v2), (3, .int v3)] → W p l e (rm_Ma_list mc ms) s m args below meth c H locs ce sl (MQ below (xQ D cB cI cJ cZ cS cP A ad0 uN x.1 none) args s mc ms A) (F0 m 44 ls []))
  | 0 => (fun u v0 v1 v2 v3 x hf => by cases hf)
  | n + 1 => wb_Ma_list_44 C0 hE N (gg_Ma_list N n) (wg_Ma_list C0 hE N n)
def fm_Ma_list (N : Nat) (u : CS) (v0 : Nat) (v1 : Int32) : Option (CS × Unit) := fb_Ma_list_0 N (gg_Ma_list N N) u v0 v1
set_option maxRecDepth 100000 in
set_option maxHeartbeats 4000000 in
theorem c_Ma_list (N : Nat) {l : Launch} {s0 : State} {b0 : Nat} {D : va_G} {cB cI cJ cZ cS cP : ClassId} {sk sv : Nat → Nat} {ad : Nat → Nat} {u : CS} {sz mc ms : Nat} {v0 : Nat} {v1 : Int32} {x : CS × Unit} (hE : ENV s0 b0 sk sv) (hf : fm_Ma_list N u v0 v1 = some x) (hm : u.1.1 + mc = x.1.1.1 ∧ u.1.2 + ms = x.1.1.2) : Met l y_Ma_list (wd_ws y_Ma_list b_Ma_list 4 none) (rm_Ma_list mc ms) (xPc s0 b0 D cB cI cJ cZ cS cP ad u sz [.ref (ad v0), .int v1]) (xQ D cB cI cJ cZ cS cP (xA cB cI cJ cZ cS cP ad u sz) ad u.1.1 x.1 none) mc ms (xA cB cI cJ cZ cS cP ad u sz) :=
  xMet (by decide) rfl (Nat.le_of_ble_eq_true rfl) (fun p e s m below meth c ls hsz hnm C0 hP hD hS hl =>
    wb_Ma_list_0 C0 hE N (gg_Ma_list N N) (wg_Ma_list C0 hE N N) u _ _ x hf hm ad 0 0 ⟨rfl, rfl, fun _ _ => rfl⟩ s.heap [] hP hD hS ls (lv_sub hl [0, 1] rfl))
abbrev b_Ma_fun : ByteArray := prog_5_method_19_code
def y_Ma_fun : MethodName := ⟨R_Ma, "fun", "(I)V"⟩
def w_Ma_fun : List Cond := wd_ws y_Ma_fun b_Ma_fun 6 none
set_option maxRecDepth 100000 in
theorem k_Ma_fun : Cond.code y_Ma_fun b_Ma_fun 6 none ∈ wd_tbl := wd_of 1880 rfl rfl
theorem d_Ma_fun_0 : decode b_Ma_fun 0 = .ok (.aload_n 0, 1) := by decide +kernel
theorem d_Ma_fun_1 : decode b_Ma_fun 1 = .ok (.getfield 9, 3) := by decide +kernel
theorem d_Ma_fun_4 : decode b_Ma_fun 4 = .ok (.aload_n 0, 1) := by decide +kernel
theorem d_Ma_fun_5 : decode b_Ma_fun 5 = .ok (.getfield 40, 3) := by decide +kernel
theorem d_Ma_fun_8 : decode b_Ma_fun 8 = .ok (.iconst 2, 1) := by decide +kernel
theorem d_Ma_fun_9 : decode b_Ma_fun 9 = .ok (.iadd, 1) := by decide +kernel
theorem d_Ma_fun_10 : decode b_Ma_fun 10 = .ok (.invokevirtual 67, 3) := by decide +kernel
theorem d_Ma_fun_13 : decode b_Ma_fun 13 = .ok (.istore_n 2, 1) := by decide +kernel
theorem d_Ma_fun_14 : decode b_Ma_fun 14 = .ok (.iload_n 2, 1) := by decide +kernel
theorem d_Ma_fun_15 : decode b_Ma_fun 15 = .ok (.iconst 2, 1) := by decide +kernel
theorem d_Ma_fun_16 : decode b_Ma_fun 16 = .ok (.iadd, 1) := by decide +kernel
theorem d_Ma_fun_17 : decode b_Ma_fun 17 = .ok (.istore_n 3, 1) := by decide +kernel
theorem d_Ma_fun_18 : decode b_Ma_fun 18 = .ok (.iconst 0, 1) := by decide +kernel
theorem d_Ma_fun_19 : decode b_Ma_fun 19 = .ok (.istore 4, 2) := by decide +kernel
theorem d_Ma_fun_21 : decode b_Ma_fun 21 = .ok (.iload 4, 2) := by decide +kernel
theorem d_Ma_fun_23 : decode b_Ma_fun 23 = .ok (.iload_n 2, 1) := by decide +kernel
theorem d_Ma_fun_24 : decode b_Ma_fun 24 = .ok (.if_icmp .ge 49, 3) := by decide +kernel
theorem d_Ma_fun_27 : decode b_Ma_fun 27 = .ok (.iload_n 3, 1) := by decide +kernel
theorem d_Ma_fun_28 : decode b_Ma_fun 28 = .ok (.aload_n 0, 1) := by decide +kernel
theorem d_Ma_fun_29 : decode b_Ma_fun 29 = .ok (.getfield 19, 3) := by decide +kernel
theorem d_Ma_fun_32 : decode b_Ma_fun 32 = .ok (.aload_n 0, 1) := by decide +kernel
theorem d_Ma_fun_33 : decode b_Ma_fun 33 = .ok (.getfield 23, 3) := by decide +kernel
theorem d_Ma_fun_36 : decode b_Ma_fun 36 = .ok (.getfield 195, 3) := by decide +kernel
theorem d_Ma_fun_39 : decode b_Ma_fun 39 = .ok (.aload_n 0, 1) := by decide +kernel
theorem d_Ma_fun_40 : decode b_Ma_fun 40 = .ok (.getfield 33, 3) := by decide +kernel
theorem d_Ma_fun_43 : decode b_Ma_fun 43 = .ok (.aload_n 0, 1) := by decide +kernel
theorem d_Ma_fun_44 : decode b_Ma_fun 44 = .ok (.getfield 9, 3) := by decide +kernel
theorem d_Ma_fun_47 : decode b_Ma_fun 47 = .ok (.aload_n 0, 1) := by decide +kernel
theorem d_Ma_fun_48 : decode b_Ma_fun 48 = .ok (.getfield 40, 3) := by decide +kernel
theorem d_Ma_fun_51 : decode b_Ma_fun 51 = .ok (.iconst 3, 1) := by decide +kernel
theorem d_Ma_fun_52 : decode b_Ma_fun 52 = .ok (.iadd, 1) := by decide +kernel
theorem d_Ma_fun_53 : decode b_Ma_fun 53 = .ok (.iload 4, 2) := by decide +kernel
theorem d_Ma_fun_55 : decode b_Ma_fun 55 = .ok (.iadd, 1) := by decide +kernel
theorem d_Ma_fun_56 : decode b_Ma_fun 56 = .ok (.invokevirtual 67, 3) := by decide +kernel
theorem d_Ma_fun_59 : decode b_Ma_fun 59 = .ok (.invokevirtual 180, 3) := by decide +kernel
theorem d_Ma_fun_62 : decode b_Ma_fun 62 = .ok (.invokevirtual 235, 3) := by decide +kernel
theorem d_Ma_fun_65 : decode b_Ma_fun 65 = .ok (.iadd, 1) := by decide +kernel
theorem d_Ma_fun_66 : decode b_Ma_fun 66 = .ok (.istore_n 3, 1) := by decide +kernel
theorem d_Ma_fun_67 : decode b_Ma_fun 67 = .ok (.iinc 4 1, 3) := by decide +kernel
theorem d_Ma_fun_70 : decode b_Ma_fun 70 = .ok (.goto (-49), 3) := by decide +kernel
theorem d_Ma_fun_73 : decode b_Ma_fun 73 = .ok (.iload_n 3, 1) := by decide +kernel
theorem d_Ma_fun_74 : decode b_Ma_fun 74 = .ok (.sipush 500, 3) := by decide +kernel
theorem d_Ma_fun_77 : decode b_Ma_fun 77 = .ok (.if_icmp .le 10, 3) := by decide +kernel
theorem d_Ma_fun_80 : decode b_Ma_fun 80 = .ok (.aload_n 0, 1) := by decide +kernel
theorem d_Ma_fun_81 : decode b_Ma_fun 81 = .ok (.bipush 11, 2) := by decide +kernel
theorem d_Ma_fun_83 : decode b_Ma_fun 83 = .ok (.invokevirtual 249, 3) := by decide +kernel
theorem d_Ma_fun_86 : decode b_Ma_fun 86 = .ok (.return_, 1) := by decide +kernel
theorem d_Ma_fun_87 : decode b_Ma_fun 87 = .ok (.aload_n 0, 1) := by decide +kernel
theorem d_Ma_fun_88 : decode b_Ma_fun 88 = .ok (.iload_n 2, 1) := by decide +kernel
theorem d_Ma_fun_89 : decode b_Ma_fun 89 = .ok (.iconst 2, 1) := by decide +kernel
theorem d_Ma_fun_90 : decode b_Ma_fun 90 = .ok (.iadd, 1) := by decide +kernel
theorem d_Ma_fun_91 : decode b_Ma_fun 91 = .ok (.invokevirtual 135, 3) := by decide +kernel
theorem d_Ma_fun_94 : decode b_Ma_fun 94 = .ok (.ifCond .ne 4, 3) := by decide +kernel
theorem d_Ma_fun_97 : decode b_Ma_fun 97 = .ok (.return_, 1) := by decide +kernel
theorem d_Ma_fun_98 : decode b_Ma_fun 98 = .ok (.aload_n 0, 1) := by decide +kernel
theorem d_Ma_fun_99 : decode b_Ma_fun 99 = .ok (.getfield 23, 3) := by decide +kernel
theorem d_Ma_fun_102 : decode b_Ma_fun 102 = .ok (.getfield 239, 3) := by decide +kernel
theorem d_Ma_fun_105 : decode b_Ma_fun 105 = .ok (.istore 4, 2) := by decide +kernel
theorem d_Ma_fun_107 : decode b_Ma_fun 107 = .ok (.aload_n 0, 1) := by decide +kernel
theorem d_Ma_fun_108 : decode b_Ma_fun 108 = .ok (.getfield 23, 3) := by decide +kernel
theorem d_Ma_fun_111 : decode b_Ma_fun 111 = .ok (.getfield 195, 3) := by decide +kernel
theorem d_Ma_fun_114 : decode b_Ma_fun 114 = .ok (.iload 4, 2) := by decide +kernel
theorem d_Ma_fun_116 : decode b_Ma_fun 116 = .ok (.bipush 8, 2) := by decide +kernel
theorem d_Ma_fun_118 : decode b_Ma_fun 118 = .ok (.iload_n 1, 1) := by decide +kernel
theorem d_Ma_fun_119 : decode b_Ma_fun 119 = .ok (.invokestatic 101, 3) := by decide +kernel
theorem d_Ma_fun_122 : decode b_Ma_fun 122 = .ok (.lastore, 1) := by decide +kernel
theorem d_Ma_fun_123 : decode b_Ma_fun 123 = .ok (.aload_n 0, 1) := by decide +kernel
theorem d_Ma_fun_124 : decode b_Ma_fun 124 = .ok (.getfield 23, 3) := by decide +kernel
theorem d_Ma_fun_127 : decode b_Ma_fun 127 = .ok (.getfield 195, 3) := by decide +kernel
theorem d_Ma_fun_130 : decode b_Ma_fun 130 = .ok (.iload 4, 2) := by decide +kernel
theorem d_Ma_fun_132 : decode b_Ma_fun 132 = .ok (.iconst 1, 1) := by decide +kernel
theorem d_Ma_fun_133 : decode b_Ma_fun 133 = .ok (.iadd, 1) := by decide +kernel
theorem d_Ma_fun_134 : decode b_Ma_fun 134 = .ok (.bipush 8, 2) := by decide +kernel
theorem d_Ma_fun_136 : decode b_Ma_fun 136 = .ok (.iload_n 2, 1) := by decide +kernel
theorem d_Ma_fun_137 : decode b_Ma_fun 137 = .ok (.invokestatic 101, 3) := by decide +kernel
theorem d_Ma_fun_140 : decode b_Ma_fun 140 = .ok (.lastore, 1) := by decide +kernel
theorem d_Ma_fun_141 : decode b_Ma_fun 141 = .ok (.iconst 0, 1) := by decide +kernel
theorem d_Ma_fun_142 : decode b_Ma_fun 142 = .ok (.istore 5, 2) := by decide +kernel
theorem d_Ma_fun_144 : decode b_Ma_fun 144 = .ok (.iload 5, 2) := by decide +kernel
theorem d_Ma_fun_146 : decode b_Ma_fun 146 = .ok (.iload_n 2, 1) := by decide +kernel
theorem d_Ma_fun_147 : decode b_Ma_fun 147 = .ok (.if_icmp .ge 47, 3) := by decide +kernel
theorem d_Ma_fun_150 : decode b_Ma_fun 150 = .ok (.aload_n 0, 1) := by decide +kernel
theorem d_Ma_fun_151 : decode b_Ma_fun 151 = .ok (.getfield 23, 3) := by decide +kernel
theorem d_Ma_fun_154 : decode b_Ma_fun 154 = .ok (.getfield 195, 3) := by decide +kernel
theorem d_Ma_fun_157 : decode b_Ma_fun 157 = .ok (.iload 4, 2) := by decide +kernel
theorem d_Ma_fun_159 : decode b_Ma_fun 159 = .ok (.iconst 2, 1) := by decide +kernel
theorem d_Ma_fun_160 : decode b_Ma_fun 160 = .ok (.iadd, 1) := by decide +kernel
theorem d_Ma_fun_161 : decode b_Ma_fun 161 = .ok (.iload 5, 2) := by decide +kernel
theorem d_Ma_fun_163 : decode b_Ma_fun 163 = .ok (.iadd, 1) := by decide +kernel
theorem d_Ma_fun_164 : decode b_Ma_fun 164 = .ok (.aload_n 0, 1) := by decide +kernel
theorem d_Ma_fun_165 : decode b_Ma_fun 165 = .ok (.getfield 33, 3) := by decide +kernel
theorem d_Ma_fun_168 : decode b_Ma_fun 168 = .ok (.aload_n 0, 1) := by decide +kernel
theorem d_Ma_fun_169 : decode b_Ma_fun 169 = .ok (.getfield 9, 3) := by decide +kernel
theorem d_Ma_fun_172 : decode b_Ma_fun 172 = .ok (.aload_n 0, 1) := by decide +kernel
theorem d_Ma_fun_173 : decode b_Ma_fun 173 = .ok (.getfield 40, 3) := by decide +kernel
theorem d_Ma_fun_176 : decode b_Ma_fun 176 = .ok (.iconst 3, 1) := by decide +kernel
theorem d_Ma_fun_177 : decode b_Ma_fun 177 = .ok (.iadd, 1) := by decide +kernel
theorem d_Ma_fun_178 : decode b_Ma_fun 178 = .ok (.iload 5, 2) := by decide +kernel
theorem d_Ma_fun_180 : decode b_Ma_fun 180 = .ok (.iadd, 1) := by decide +kernel
theorem d_Ma_fun_181 : decode b_Ma_fun 181 = .ok (.invokevirtual 67, 3) := by decide +kernel
theorem d_Ma_fun_184 : decode b_Ma_fun 184 = .ok (.invokevirtual 180, 3) := by decide +kernel
theorem d_Ma_fun_187 : decode b_Ma_fun 187 = .ok (.lastore, 1) := by decide +kernel
theorem d_Ma_fun_188 : decode b_Ma_fun 188 = .ok (.iinc 5 1, 3) := by decide +kernel
theorem d_Ma_fun_191 : decode b_Ma_fun 191 = .ok (.goto (-47), 3) := by decide +kernel
theorem d_Ma_fun_194 : decode b_Ma_fun 194 = .ok (.aload_n 0, 1) := by decide +kernel
theorem d_Ma_fun_195 : decode b_Ma_fun 195 = .ok (.getfield 23, 3) := by decide +kernel
theorem d_Ma_fun_198 : decode b_Ma_fun 198 = .ok (.dup, 1) := by decide +kernel
theorem d_Ma_fun_199 : decode b_Ma_fun 199 = .ok (.getfield 239, 3) := by decide +kernel
theorem d_Ma_fun_202 : decode b_Ma_fun 202 = .ok (.iload_n 2, 1) := by decide +kernel
theorem d_Ma_fun_203 : decode b_Ma_fun 203 = .ok (.iconst 2, 1) := by decide +kernel
theorem d_Ma_fun_204 : decode b_Ma_fun 204 = .ok (.iadd, 1) := by decide +kernel
theorem d_Ma_fun_205 : decode b_Ma_fun 205 = .ok (.iadd, 1) := by decide +kernel
theorem d_Ma_fun_206 : decode b_Ma_fun 206 = .ok (.putfield 239, 3) := by decide +kernel
theorem d_Ma_fun_209 : decode b_Ma_fun 209 = .ok (.aload_n 0, 1) := by decide +kernel
theorem d_Ma_fun_210 : decode b_Ma_fun 210 = .ok (.getfield 33, 3) := by decide +kernel
theorem d_Ma_fun_213 : decode b_Ma_fun 213 = .ok (.iconst 3, 1) := by decide +kernel
theorem d_Ma_fun_214 : decode b_Ma_fun 214 = .ok (.iload 4, 2) := by decide +kernel
theorem d_Ma_fun_216 : decode b_Ma_fun 216 = .ok (.invokestatic 101, 3) := by decide +kernel
theorem d_Ma_fun_219 : decode b_Ma_fun 219 = .ok (.invokevirtual 112, 3) := by decide +kernel
theorem d_Ma_fun_222 : decode b_Ma_fun 222 = .ok (.aload_n 0, 1) := by decide +kernel
theorem d_Ma_fun_223 : decode b_Ma_fun 223 = .ok (.dup, 1) := by decide +kernel
theorem d_Ma_fun_224 : decode b_Ma_fun 224 = .ok (.getfield 40, 3) := by decide +kernel
theorem d_Ma_fun_227 : decode b_Ma_fun 227 = .ok (.iconst 3, 1) := by decide +kernel
theorem d_Ma_fun_228 : decode b_Ma_fun 228 = .ok (.iload_n 2, 1) := by decide +kernel
theorem d_Ma_fun_229 : decode b_Ma_fun 229 = .ok (.iadd, 1) := by decide +kernel
theorem d_Ma_fun_230 : decode b_Ma_fun 230 = .ok (.iadd, 1) := by decide +kernel
theorem d_Ma_fun_231 : decode b_Ma_fun 231 = .ok (.putfield 40, 3) := by decide +kernel
theorem d_Ma_fun_234 : decode b_Ma_fun 234 = .ok (.return_, 1) := by decide +kernel
set_option maxRecDepth 100000 in
theorem hl_Ma_fun : Cond.methodLink R_Ma 189 y_Ma_fun ∈ wd_tbl := wd_of 1877 (by decide +kernel) rfl
set_option maxRecDepth 100000 in
theorem hi_Ma_fun : Cond.instanceMethod y_Ma_fun ∈ wd_tbl := wd_of 1879 (by decide +kernel) rfl
set_option maxRecDepth 100000 in
theorem hs_Ma_fun : Cond.selects R_Ma y_Ma_fun y_Ma_fun ∈ wd_tbl := wd_of 97 (by decide +kernel) rfl
theorem hd_Ma_fun : y_Ma_fun.cls = R_Ma ∧ y_Ma_fun.cls ≠ "java/lang/invoke/MethodHandle" ∧ y_Ma_fun.cls ≠ "java/lang/invoke/VarHandle" ∧ (parseMethodDescriptor y_Ma_fun.desc).map (fun d => d.parameters.length) = some 1 := by decide +kernel
def rm_Ma_fun (mc ms : Nat) : Room := { frames := 4, cells := mc, slots := ms, locals := 118 }
theorem rm_Ma_fun_Co_at {mc ms : Nat} : (rm_Co_at).frames + 1 ≤ (rm_Ma_fun mc ms).frames ∧ 8 + (2 + 11) + (rm_Co_at).locals ≤ (rm_Ma_fun mc ms).locals := by
  show 0 + 1 ≤ 4 ∧ 8 + (2 + 11) + 0 ≤ 118
  decide
theorem rm_Ma_fun_Fr_termOf {mc ms : Nat} : (rm_Fr_termOf).frames + 1 ≤ (rm_Ma_fun mc ms).frames ∧ 8 + (3 + 11) + (rm_Fr_termOf).locals ≤ (rm_Ma_fun mc ms).locals := by
  show 0 + 1 ≤ 4 ∧ 8 + (3 + 11) + 0 ≤ 118
  decide
theorem rm_Ma_fun_Te_size {mc ms : Nat} : (rm_Te_size).frames + 1 ≤ (rm_Ma_fun mc ms).frames ∧ 8 + (11 + 11) + (rm_Te_size).locals ≤ (rm_Ma_fun mc ms).locals := by
  show 1 + 1 ≤ 4 ∧ 8 + (11 + 11) + 24 ≤ 118
  decide
theorem rm_Ma_fun_Ma_wrong {mc ms : Nat} : (rm_Ma_wrong).frames + 1 ≤ (rm_Ma_fun mc ms).frames ∧ 8 + (2 + 11) + (rm_Ma_wrong).locals ≤ (rm_Ma_fun mc ms).locals := by
  show 2 + 1 ≤ 4 ∧ 8 + (2 + 11) + 41 ≤ 118
  decide
theorem rm_Ma_fun_Ma_room {mc ms : Nat} : (rm_Ma_room).frames + 1 ≤ (rm_Ma_fun mc ms).frames ∧ 8 + (2 + 11) + (rm_Ma_room).locals ≤ (rm_Ma_fun mc ms).locals := by
  show 3 + 1 ≤ 4 ∧ 8 + (2 + 11) + 97 ≤ 118
  decide
theorem rm_Ma_fun_Te_make {mc ms : Nat} : (rm_Te_make).frames + 1 ≤ (rm_Ma_fun mc ms).frames ∧ 8 + (2 + 11) + (rm_Te_make).locals ≤ (rm_Ma_fun mc ms).locals := by
  show 0 + 1 ≤ 4 ∧ 8 + (2 + 11) + 0 ≤ 118
  decide
theorem rm_Ma_fun_Fr_push {mc ms : Nat} {mc2 ms2 : Nat} : (rm_Fr_push mc2 ms2).frames + 1 ≤ (rm_Ma_fun mc ms).frames ∧ 8 + (3 + 11) + (rm_Fr_push mc2 ms2).locals ≤ (rm_Ma_fun mc ms).locals := by
  show 2 + 1 ≤ 4 ∧ 8 + (3 + 11) + 82 ≤ 118
  decide
def fb_Ma_fun_144 (N : Nat) (G : (CS → Nat → Int32 → Int32 → Int32 → Int32 → Option (CS × Unit)) × (CS → Nat → Int32 → Int32 → Int32 → Option (CS × Unit))) (u : CS) (v0 : Nat) (v2 : Int32) (v4 : Int32) (v5 : Int32) : Option (CS × Unit) := br (decide (v2 ≤ v5)) (bo (gR u v0 5 3) (fun r1 => bo r1 (fun j2 => bo (gI u j2 7 4) (fun r3 => bo (pF u j2 7 4 (.inl (r3 + (v2 + 2)))) (fun w4 => bo (gR w4 v0 5 4) (fun r5 => bx (gz w4 (fm_Te_make N w4 3 v4)) (fun u6 r6 => gw u6 (bo r5 (fun j8 => ck (isO u6 j8 4) (ck (List.all [some v0] (okR u6.1.1)) (bx (gw u6 (fm_Fr_push N u6 j8 r6)) (fun u7 r7 => gw u7 (bo (gI u7 v0 5 5) (fun r9 => bo (pF u7 v0 5 5 (.inl (r9 + (3 + v2)))) (fun w10 => some (w10, ())))))))))))))))) (bo (gR u v0 5 3) (fun r11 => bo r11 (fun j12 => bo (gR u j12 7 2) (fun r13 => bo (gR u v0 5 4) (fun r14 => bo (gR u v0 5 0) (fun r15 => bo (gI u v0 5 5) (fun r16 => bo r15 (fun j18 => ck (isO u j18 2) (bx (gz u (fm_Co_at N u j18 ((r16 + 3) + v5))) (fun u17 r17 => gw u17 (bo r14 (fun j20 => ck (isO u17 j20 4) (bx (gz u17 (fm_Fr_termOf N u17 j20 r17)) (fun u19 r19 => gw u19 (bo r13 (fun j21 => bo (sJ u19 j21 ((v4 + 2) + v5) r19) (fun w22 => G.2 w22 (v0) (v2) (v4) ((v5 + 1)))))))))))))))))))
set_option maxRecDepth 100000 in
set_option maxHeartbeats 4000000 in
theorem wb_Ma_fun_144 {p : Program} {l : Launch} {e : Env} {s : State} {m : MethodId} {args : Array Value} {below : List Frame} {meth : Method} {c : Code} {s0 : State} {b0 : Nat} {D : va_G} {cB cI cJ cZ cS cP : ClassId} {A : Nat → Prop} {sk sv : Nat → Nat} {uN uS mc ms : Nat} {ad0 : Nat → Nat} (C0 : XCx p s s0 b0 m args meth c R_Ma b_Ma_fun 6 none D cB cI cJ cZ cS cP A) (hE : ENV s0 b0 sk sv) (N : Nat) (G : (CS → Nat → Int32 → Int32 → Int32 → Int32 → Option (CS × Unit)) × (CS → Nat → Int32 → Int32 → Int32 → Option (CS × Unit))) (hG : (∀ (u : CS) (v0 : Nat) (v1 : Int32) (v2 : Int32) (v3 : Int32) (v4 : Int32) (x : CS × Unit), G.1 u v0 v1 v2 v3 v4 = some x → (uN + mc = x.1.1.1 ∧ uS + ms = x.1.1.2) → ∀ (ad : Nat → Nat) (ce sl : Nat), AB uN uS ad0 u ad ce sl → ∀ (H : Heap) (locs : List Loc), va_P D cls (wC cB cI cJ cZ cS cP ad u) H → va_D A (wC cB cI cJ cZ cS cP ad u) → va_S A s.heap H locs → ∀ (ls : Array Slot), lv_has ls 6 [(0, .ref (ad v0)), (1, .int v1), (2, .int v2), (3, .int v3), (4, .int v4)] → W p l e (rm_Ma_fun mc ms) s m args below meth c H locs ce sl (MQ below (xQ D cB cI cJ cZ cS cP A ad0 uN x.1 none) args s mc ms A) (F0 m 21 ls [])) ∧ (∀ (u : CS) (v0 : Nat) (v2 : Int32) (v4 : Int32) (v5 : Int32) (x : CS × Unit), G.2 u v0 v2 v4 v5 = some x → (uN + mc = x.1.1.1 ∧ uS + ms = x.1.1.2) → ∀ (ad : Nat → Nat) (ce sl : Nat), AB uN uS ad0 u ad ce sl → ∀ (H : Heap) (locs : List Loc), va_P D cls (wC cB cI cJ cZ cS cP ad u) H → va_D A (wC cB cI cJ cZ cS cP ad u) → va_S A s.heap H locs → ∀ (ls : Array Slot), lv_has ls 6 [(0, .ref (ad v0)), (2, .int v2), (4, .int v4), (5, .int v5)] → W p l e (rm_Ma_fun mc ms) s m args below meth c H locs ce sl (MQ below (xQ D cB cI cJ cZ cS cP A ad0 uN x.1 none) args s mc ms A) (F0 m 144 ls []))) : ∀ (u : CS) (v0 : Nat) (v2 : Int32) (v4 : Int32) (v5 : Int32) (x : CS × Unit), fb_Ma_fun_144 N G u v0 v2 v4 v5 = some x → (uN + mc = x.1.1.1 ∧ uS + ms = x.1.1.2) → ∀ (ad : Nat → Nat) (ce sl : Nat), AB uN uS ad0 u ad ce sl → ∀ (H : Heap) (locs : List Loc), va_P D cls (wC cB cI cJ cZ cS cP ad u) H → va_D A (wC cB cI cJ cZ cS cP ad u) → va_S A s.heap H locs → ∀ (ls : Array Slot), lv_has ls 6 [(0, .ref (ad v0)), (2, .int v2), (4, .int v4), (5, .int v5)] → W p l e (rm_Ma_fun mc ms) s m args below meth c H locs ce sl (MQ below (xQ D cB cI cJ cZ cS cP A ad0 uN x.1 none) args s mc ms A) (F0 m 144 ls []) := by
  intro u v0 v2 v4 v5 x hf hm ad ce sl hB H locs hP hD hS ls hl
  obtain ⟨hx, hb, hr, hml, ht, hown, hK, hA, hlocks, hA0, hO, hbs⟩ := id C0
  unfold fb_Ma_fun_144 at hf
  refine lv_iload hx hb d_Ma_fun_144 (lv_at hl 3 rfl) ?_
  refine lv_iload_n hx hb d_Ma_fun_146 rfl (lv_at hl 1 rfl) ?_
  refine lv_icmp_ge (tgt := 194) hx hb d_Ma_fun_147 (by decide) (fun hc => ?_) (fun hc => ?_)
  · rw [br_p _ hc] at hf
    refine lv_aload_n hx hb d_Ma_fun_194 rfl (lv_at hl 0 rfl) ?_
    obtain ⟨r1, g1, hf⟩ := bo_some hf
    refine xg_R (i := v0) (k := 3) hx hb ht hown ck_Ma hK hP (by decide) fk_Ma_23 g1 d_Ma_fun_195 ?_
    refine lv_dup hx hb d_Ma_fun_198 (cat_rf _) ?_
    obtain ⟨j2, ej2, hf⟩ := bo_some hf
    rw [ej2]
    obtain ⟨r3, g3, hf⟩ := bo_some hf
    refine xg_I (i := j2) (k := 4) hx hb ht hown ck_Pr hK hP (by decide) fk_Ma_239 g3 d_Ma_fun_199 ?_
    refine lv_iload_n hx hb d_Ma_fun_202 rfl (lv_at hl 1 rfl) ?_
    refine lv_iconst (v := 2) hx hb d_Ma_fun_203 (by decide) ?_
    refine lv_iadd hx hb d_Ma_fun_204 ?_
    refine lv_iadd hx hb d_Ma_fun_205 ?_
    obtain ⟨w4, g4, hf⟩ := bo_some hf
    refine xp (i := j2) (k := 4) (v := (.inl (r3 + (v2 + 2)))) hx hb ht hown ck_Pr hK hP hD hS (by decide) fk_Ma_239 rfl g4 rfl rfl d_Ma_fun_206 (fun H locs hP hD hS => ?_)
    have hB := hB.same (pF_c g4)
    refine lv_aload_n hx hb d_Ma_fun_209 rfl (lv_at hl 0 rfl) ?_
    obtain ⟨r5, g5, hf⟩ := bo_some hf
    refine xg_R (i := v0) (k := 4) hx hb ht hown ck_Ma hK hP (by decide) fk_Ma_33 g5 d_Ma_fun_210 ?_
    refine lv_iconst (v := 3) hx hb d_Ma_fun_213 (by decide) ?_
    refine lv_iload hx hb d_Ma_fun_214 (lv_at hl 2 rfl) ?_
    obtain ⟨u6, r6, hc6, hf⟩ := bx_some hf
    obtain ⟨hc6, hz6⟩ := gz_some hc6
    obtain ⟨hf, hw6⟩ := gw_some hf
    refine xS0 (As := [.int 3, .int v4]) (rest := [va_rf (Option.map ad r5)]) C0 hP hD hS (c_Te_make N hc6) k_Te_make (wd_of 1671 (by decide +kernel) rfl) ht_Te_make hini_Te rfl rfl hd_Te_make rfl rm_Ma_fun_Te_make hl.1 (c8 (Nat.le_of_ble_eq_true rfl)) d_Ma_fun_216 rfl (hB.fit hm hz6 hw6) (fun H locs hP hD hS => ?_)
    have hB := hB.same2 hz6
    obtain ⟨j8, ej8, hf⟩ := bo_some hf
    rw [ej8]
    obtain ⟨hO9, hf⟩ := ck_some hf
    obtain ⟨hk7, hf⟩ := ck_some hf
    obtain ⟨u7, r7, hc7, hf⟩ := bx_some hf
    obtain ⟨hc7, hq7⟩ := gw_some hc7
    obtain ⟨hf, hw7⟩ := gw_some hf
    refine yV (i := j8) (As := [.long r6]) (rest := []) C0 hP hD hS ck_Fr hO9 (c_Fr_push N hE hc7 (gm hq7)) k_Fr_push (wd_of 1753 (by decide +kernel) rfl) hi_Fr_push hs_Fr_push hini_Fr rfl rfl hd_Fr_push rfl rm_Ma_fun_Fr_push hl.1 (Nat.le_of_ble_eq_true rfl) d_Ma_fun_219 rfl (gm hq7) hB hm hw7 (fun ad7 H locs ce sl hg7 hB hP hD hS => ?_)
    have q7_0 : ad7 v0 = ad v0 := ko_O (k := 0) hk7 rfl hg7
    have hl : lv_has ls 6 [(0, .ref (ad7 v0)), (2, .int v2), (4, .int v4), (5, .int v5)] := by simp only [q7_0]; exact hl
    refine lv_aload_n hx hb d_Ma_fun_222 rfl (lv_at hl 0 rfl) ?_
    refine lv_dup hx hb d_Ma_fun_223 rfl ?_
    obtain ⟨r9, g9, hf⟩ := bo_some hf
    refine xg_I (i := v0) (k := 5) hx hb ht hown ck_Ma hK hP (by decide) fk_Ma_40 g9 d_Ma_fun_224 ?_
    refine lv_iconst (v := 3) hx hb d_Ma_fun_227 (by decide) ?_
    refine lv_iload_n hx hb d_Ma_fun_228 rfl (lv_at hl 1 rfl) ?_
    refine lv_iadd hx hb d_Ma_fun_229 ?_
    refine lv_iadd hx hb d_Ma_fun_230 ?_
    obtain ⟨w10, g10, hf⟩ := bo_some hf
    refine xp (i := v0) (k := 5) (v := (.inl (r9 + (3 + v2)))) hx hb ht hown ck_Ma hK hP hD hS (by decide) fk_Ma_40 rfl g10 rfl rfl d_Ma_fun_231 (fun H locs hP hD hS => ?_)
    have hB := hB.same (pF_c g10)
    exact yr_v C0 hP hD hS hB hm hf d_Ma_fun_234
  · rw [br_n _ hc] at hf
    refine lv_aload_n hx hb d_Ma_fun_150 rfl (lv_at hl 0 rfl) ?_
    obtain ⟨r11, g11, hf⟩ := bo_some hf
    refine xg_R (i := v0) (k := 3) hx hb ht hown ck_Ma hK hP (by decide) fk_Ma_23 g11 d_Ma_fun_151 ?_
    obtain ⟨j12, ej12, hf⟩ := bo_some hf
    rw [ej12]
    obtain ⟨r13, g13, hf⟩ := bo_some hf
    refine xg_R (i := j12) (k := 2) hx hb ht hown ck_Pr hK hP (by decide) fk_Ma_195 g13 d_Ma_fun_154 ?_
    refine lv_iload hx hb d_Ma_fun_157 (lv_at hl 2 rfl) ?_
    refine lv_iconst (v := 2) hx hb d_Ma_fun_159 (by decide) ?_
    refine lv_iadd hx hb d_Ma_fun_160 ?_
    refine lv_iload hx hb d_Ma_fun_161 (lv_at hl 3 rfl) ?_
    refine lv_iadd hx hb d_Ma_fun_163 ?_
    refine lv_aload_n hx hb d_Ma_fun_164 rfl (lv_at hl 0 rfl) ?_
    obtain ⟨r14, g14, hf⟩ := bo_some hf
    refine xg_R (i := v0) (k := 4) hx hb ht hown ck_Ma hK hP (by decide) fk_Ma_33 g14 d_Ma_fun_165 ?_
    refine lv_aload_n hx hb d_Ma_fun_168 rfl (lv_at hl 0 rfl) ?_
    obtain ⟨r15, g15, hf⟩ := bo_some hf
    refine xg_R (i := v0) (k := 0) hx hb ht hown ck_Ma hK hP (by decide) fk_Ma_9 g15 d_Ma_fun_169 ?_
    refine lv_aload_n hx hb d_Ma_fun_172 rfl (lv_at hl 0 rfl) ?_
    obtain ⟨r16, g16, hf⟩ := bo_some hf
    refine xg_I (i := v0) (k := 5) hx hb ht hown ck_Ma hK hP (by decide) fk_Ma_40 g16 d_Ma_fun_173 ?_
    refine lv_iconst (v := 3) hx hb d_Ma_fun_176 (by decide) ?_
    refine lv_iadd hx hb d_Ma_fun_177 ?_
    refine lv_iload hx hb d_Ma_fun_178 (lv_at hl 3 rfl) ?_
    refine lv_iadd hx hb d_Ma_fun_180 ?_
    obtain ⟨j18, ej18, hf⟩ := bo_some hf
    rw [ej18]
    obtain ⟨hO9, hf⟩ := ck_some hf
    obtain ⟨u17, r17, hc17, hf⟩ := bx_some hf
    obtain ⟨hc17, hz17⟩ := gz_some hc17
    obtain ⟨hf, hw17⟩ := gw_some hf
    refine xV0 (i := j18) (As := [.int ((r16 + 3) + v5)]) (rest := [va_rf (Option.map ad r14), .int ((v4 + 2) + v5), va_rf (Option.map ad r13)]) C0 hP hD hS ck_Co hO9 (c_Co_at N hc17) k_Co_at (wd_of 1644 (by decide +kernel) rfl) hi_Co_at hs_Co_at hini_Co rfl rfl hd_Co_at rfl rm_Ma_fun_Co_at hl.1 (c8 (Nat.le_of_ble_eq_true rfl)) d_Ma_fun_181 rfl (hB.fit hm hz17 hw17) (fun H locs hP hD hS => ?_)
    have hB := hB.same2 hz17
    obtain ⟨j20, ej20, hf⟩ := bo_some hf
    rw [ej20]
    obtain ⟨hO9, hf⟩ := ck_some hf
    obtain ⟨u19, r19, hc19, hf⟩ := bx_some hf
    obtain ⟨hc19, hz19⟩ := gz_some hc19
    obtain ⟨hf, hw19⟩ := gw_some hf
    refine xV0 (i := j20) (As := [.int r17]) (rest := [.int ((v4 + 2) + v5), va_rf (Option.map ad r13)]) C0 hP hD hS ck_Fr hO9 (c_Fr_termOf N hc19) k_Fr_termOf (wd_of 1861 (by decide +kernel) rfl) hi_Fr_termOf hs_Fr_termOf hini_Fr rfl rfl hd_Fr_termOf rfl rm_Ma_fun_Fr_termOf hl.1 (c8 (Nat.le_of_ble_eq_true rfl)) d_Ma_fun_184 rfl (hB.fit hm hz19 hw19) (fun H locs hP hD hS => ?_)
    have hB := hB.same2 hz19
    obtain ⟨j21, ej21, hf⟩ := bo_some hf
    rw [ej21]
    obtain ⟨w22, g22, hf⟩ := bo_some hf
    refine xs_J (i := j21) hx hb hK hP hD hS g22 d_Ma_fun_187 (fun H locs hP hD hS => ?_)
    have hB := hB.same (sJ_c g22)
    refine lv_iinc (v := (v5 + 1)) (lv' := [(5, .int (v5 + 1)), (0, .ref (ad v0)), (2, .int v2), (4, .int v4)]) hx hb d_Ma_fun_188 hl (k := 3) rfl rfl (by decide) (by first | rfl | simp [List.filter, cat_rf]) (fun ls hl => ?_)
    refine lv_goto (tgt := 144) hx hb d_Ma_fun_191 (by decide) ?_
    exact hG.2 _ _ _ _ _ _ hf hm _ _ _ hB H locs hP hD hS ls (lv_sub hl [1, 2, 3, 0] rfl)
def fb_Ma_fun_21 (N : Nat) (G : (CS → Nat → Int32 → Int32 → Int32 → Int32 → Option (CS × Unit)) × (CS → Nat → Int32 → Int32 → Int32 → Option (CS × Unit))) (u : CS) (v0 : Nat) (v1 : Int32) (v2 : Int32) (v3 : Int32) (v4 : Int32) : Option (CS × Unit) := br (decide (v2 ≤ v4)) (br (decide (v3 ≤ 500)) (ck (isO u v0 5) (bx (gz u (fm_Ma_room N u v0 (v2 + 2))) (fun u23 r23 => gw u23 (br (decide (r23 = 0)) (some (u23, ())) (bo (gR u23 v0 5 3) (fun r24 => bo r24 (fun j25 => bo (gI u23 j25 7 4) (fun r26 => bo (gR u23 v0 5 3) (fun r27 => bo r27 (fun j28 => bo (gR u23 j28 7 2) (fun r29 => bx (gz u23 (fm_Te_make N u23 8 v1)) (fun u30 r30 => gw u30 (bo r29 (fun j31 => bo (sJ u30 j31 r26 r30) (fun w32 => bo (gR w32 v0 5 3) (fun r33 => bo r33 (fun j34 => bo (gR w32 j34 7 2) (fun r35 => bx (gz w32 (fm_Te_make N w32 8 v2)) (fun u36 r36 => gw u36 (bo r35 (fun j37 => bo (sJ u36 j37 (r26 + 1) r36) (fun w38 => G.2 w38 (v0) (v2) (r26) (0))))))))))))))))))))))) (ck (isO u v0 5) (bx (gz u (fm_Ma_wrong N u v0 11)) (fun u39 r39 => gw u39 (some (u39, ())))))) (bo (gR u v0 5 2) (fun r40 => bo (gR u v0 5 3) (fun r41 => bo r41 (fun j42 => bo (gR u j42 7 2) (fun r43 => bo (gR u v0 5 4) (fun r44 => bo (gR u v0 5 0) (fun r45 => bo (gI u v0 5 5) (fun r46 => bo r45 (fun j48 => ck (isO u j48 2) (bx (gz u (fm_Co_at N u j48 ((r46 + 3) + v4))) (fun u47 r47 => gw u47 (bo r44 (fun j50 => ck (isO u47 j50 4) (bx (gz u47 (fm_Fr_termOf N u47 j50 r47)) (fun u49 r49 => gw u49 (bo r40 (fun j52 => ck (isO u49 j52 8) (bx (gz u49 (fm_Te_size N u49 j52 r43 r49)) (fun u51 r51 => gw u51 (G.1 u51 (v0) (v1) (v2) ((v3 + r51)) ((v4 + 1))))))))))))))))))))))
set_option maxRecDepth 100000 in
set_option maxHeartbeats 4000000 in
theorem wb_Ma_fun_21 {p : Program} {l : Launch} {e : Env} {s : State} {m : MethodId} {args : Array Value} {below : List Frame} {meth : Method} {c : Code} {s0 : State} {b0 : Nat} {D : va_G} {cB cI cJ cZ cS cP : ClassId} {A : Nat → Prop} {sk sv : Nat → Nat} {uN uS mc ms : Nat} {ad0 : Nat → Nat} (C0 : XCx p s s0 b0 m args meth c R_Ma b_Ma_fun 6 none D cB cI cJ cZ cS cP A) (hE : ENV s0 b0 sk sv) (N : Nat) (G : (CS → Nat → Int32 → Int32 → Int32 → Int32 → Option (CS × Unit)) × (CS → Nat → Int32 → Int32 → Int32 → Option (CS × Unit))) (hG : (∀ (u : CS) (v0 : Nat) (v1 : Int32) (v2 : Int32) (v3 : Int32) (v4 : Int32) (x : CS × Unit), G.1 u v0 v1 v2 v3 v4 = some x → (uN + mc = x.1.1.1 ∧ uS + ms = x.1.1.2) → ∀ (ad : Nat → Nat) (ce sl : Nat), AB uN uS ad0 u ad ce sl → ∀ (H : Heap) (locs : List Loc), va_P D cls (wC cB cI cJ cZ cS cP ad u) H → va_D A (wC cB cI cJ cZ cS cP ad u) → va_S A s.heap H locs → ∀ (ls : Array Slot), lv_has ls 6 [(0, .ref (ad v0)), (1, .int v1), (2, .int v2), (3, .int v3), (4, .int v4)] → W p l e (rm_Ma_fun mc ms) s m args below meth c H locs ce sl (MQ below (xQ D cB cI cJ cZ cS cP A ad0 uN x.1 none) args s mc ms A) (F0 m 21 ls [])) ∧ (∀ (u : CS) (v0 : Nat) (v2 : Int32) (v4 : Int32) (v5 : Int32) (x : CS × Unit), G.2 u v0 v2 v4 v5 = some x → (uN + mc = x.1.1.1 ∧ uS + ms = x.1.1.2) → ∀ (ad : Nat → Nat) (ce sl : Nat), AB uN uS ad0 u ad ce sl → ∀ (H : Heap) (locs : List Loc), va_P D cls (wC cB cI cJ cZ cS cP ad u) H → va_D A (wC cB cI cJ cZ cS cP ad u) → va_S A s.heap H locs → ∀ (ls : Array Slot), lv_has ls 6 [(0, .ref (ad v0)), (2, .int v2), (4, .int v4), (5, .int v5)] → W p l e (rm_Ma_fun mc ms) s m args below meth c H locs ce sl (MQ below (xQ D cB cI cJ cZ cS cP A ad0 uN x.1 none) args s mc ms A) (F0 m 144 ls []))) : ∀ (u : CS) (v0 : Nat) (v1 : Int32) (v2 : Int32) (v3 : Int32) (v4 : Int32) (x : CS × Unit), fb_Ma_fun_21 N G u v0 v1 v2 v3 v4 = some x → (uN + mc = x.1.1.1 ∧ uS + ms = x.1.1.2) → ∀ (ad : Nat → Nat) (ce sl : Nat), AB uN uS ad0 u ad ce sl → ∀ (H : Heap) (locs : List Loc), va_P D cls (wC cB cI cJ cZ cS cP ad u) H → va_D A (wC cB cI cJ cZ cS cP ad u) → va_S A s.heap H locs → ∀ (ls : Array Slot), lv_has ls 6 [(0, .ref (ad v0)), (1, .int v1), (2, .int v2), (3, .int v3), (4, .int v4)] → W p l e (rm_Ma_fun mc ms) s m args below meth c H locs ce sl (MQ below (xQ D cB cI cJ cZ cS cP A ad0 uN x.1 none) args s mc ms A) (F0 m 21 ls []) := by
  intro u v0 v1 v2 v3 v4 x hf hm ad ce sl hB H locs hP hD hS ls hl
  obtain ⟨hx, hb, hr, hml, ht, hown, hK, hA, hlocks, hA0, hO, hbs⟩ := id C0
  unfold fb_Ma_fun_21 at hf
  refine lv_iload hx hb d_Ma_fun_21 (lv_at hl 4 rfl) ?_
  refine lv_iload_n hx hb d_Ma_fun_23 rfl (lv_at hl 2 rfl) ?_
  refine lv_icmp_ge (tgt := 73) hx hb d_Ma_fun_24 (by decide) (fun hc => ?_) (fun hc => ?_)
  · rw [br_p _ hc] at hf
    refine lv_iload_n hx hb d_Ma_fun_73 rfl (lv_at hl 3 rfl) ?_
    refine lv_sipush (v := 500) hx hb d_Ma_fun_74 (by decide) ?_
    refine lv_icmp_le (tgt := 87) hx hb d_Ma_fun_77 (by decide) (fun hc => ?_) (fun hc => ?_)
    · rw [br_p _ hc] at hf
      refine lv_aload_n hx hb d_Ma_fun_87 rfl (lv_at hl 0 rfl) ?_
      refine lv_iload_n hx hb d_Ma_fun_88 rfl (lv_at hl 2 rfl) ?_
      refine lv_iconst (v := 2) hx hb d_Ma_fun_89 (by decide) ?_
      refine lv_iadd hx hb d_Ma_fun_90 ?_
      obtain ⟨hO9, hf⟩ := ck_some hf
      obtain ⟨u23, r23, hc23, hf⟩ := bx_some hf
      obtain ⟨hc23, hz23⟩ := gz_some hc23
      obtain ⟨hf, hw23⟩ := gw_some hf
      refine xV0 (i := v0) (As := [.int (v2 + 2)]) (rest := []) C0 hP hD hS ck_Ma hO9 (c_Ma_room N hE hc23) k_Ma_room (wd_of 1853 (by decide +kernel) rfl) hi_Ma_room hs_Ma_room hini_Ma rfl rfl hd_Ma_room rfl rm_Ma_fun_Ma_room hl.1 (Nat.le_of_ble_eq_true rfl) d_Ma_fun_91 rfl (hB.fit hm hz23 hw23) (fun H locs hP hD hS => ?_)
      have hB := hB.same2 hz23
      refine lv_if_ne (tgt := 98) hx hb d_Ma_fun_94 (by decide) (fun hc => ?_) (fun hc => ?_)
      · rw [br_n _ hc] at hf
        refine lv_aload_n hx hb d_Ma_fun_98 rfl (lv_at hl 0 rfl) ?_
        obtain ⟨r24, g24, hf⟩ := bo_some hf
        refine xg_R (i := v0) (k := 3) hx hb ht hown ck_Ma hK hP (by decide) fk_Ma_23 g24 d_Ma_fun_99 ?_
        obtain ⟨j25, ej25, hf⟩ := bo_some hf
        rw [ej25]
        obtain ⟨r26, g26, hf⟩ := bo_some hf
        refine xg_I (i := j25) (k := 4) hx hb ht hown ck_Pr hK hP (by decide) fk_Ma_239 g26 d_Ma_fun_102 ?_
        refine lv_istore (lv' := [(4, .int r26), (0, .ref (ad v0)), (1, .int v1), (2, .int v2), (3, .int v3)]) hx hb d_Ma_fun_105 hl (by decide) (by first | rfl | simp [List.filter, cat_rf]) (fun ls hl => ?_)
        refine lv_aload_n hx hb d_Ma_fun_107 rfl (lv_at hl 1 rfl) ?_
        obtain ⟨r27, g27, hf⟩ := bo_some hf
        refine xg_R (i := v0) (k := 3) hx hb ht hown ck_Ma hK hP (by decide) fk_Ma_23 g27 d_Ma_fun_108 ?_
        obtain ⟨j28, ej28, hf⟩ := bo_some hf
        rw [ej28]
        obtain ⟨r29, g29, hf⟩ := bo_some hf
        refine xg_R (i := j28) (k := 2) hx hb ht hown ck_Pr hK hP (by decide) fk_Ma_195 g29 d_Ma_fun_111 ?_
        refine lv_iload hx hb d_Ma_fun_114 (lv_at hl 0 rfl) ?_
        refine lv_bipush (v := 8) hx hb d_Ma_fun_116 (by decide) ?_
        refine lv_iload_n hx hb d_Ma_fun_118 rfl (lv_at hl 2 rfl) ?_
        obtain ⟨u30, r30, hc30, hf⟩ := bx_some hf
        obtain ⟨hc30, hz30⟩ := gz_some hc30
        obtain ⟨hf, hw30⟩ := gw_some hf
        refine xS0 (As := [.int 8, .int v1]) (rest := [.int r26, va_rf (Option.map ad r29)]) C0 hP hD hS (c_Te_make N hc30) k_Te_make (wd_of 1671 (by decide +kernel) rfl) ht_Te_make hini_Te rfl rfl hd_Te_make rfl rm_Ma_fun_Te_make hl.1 (c8 (Nat.le_of_ble_eq_true rfl)) d_Ma_fun_119 rfl (hB.fit hm hz30 hw30) (fun H locs hP hD hS => ?_)
        have hB := hB.same2 hz30
        obtain ⟨j31, ej31, hf⟩ := bo_some hf
        rw [ej31]
        obtain ⟨w32, g32, hf⟩ := bo_some hf
        refine xs_J (i := j31) hx hb hK hP hD hS g32 d_Ma_fun_122 (fun H locs hP hD hS => ?_)
        have hB := hB.same (sJ_c g32)
        refine lv_aload_n hx hb d_Ma_fun_123 rfl (lv_at hl 1 rfl) ?_
        obtain ⟨r33, g33, hf⟩ := bo_some hf
        refine xg_R (i := v0) (k := 3) hx hb ht hown ck_Ma hK hP (by decide) fk_Ma_23 g33 d_Ma_fun_124 ?_
        obtain ⟨j34, ej34, hf⟩ := bo_some hf
        rw [ej34]
        obtain ⟨r35, g35, hf⟩ := bo_some hf
        refine xg_R (i := j34) (k := 2) hx hb ht hown ck_Pr hK hP (by decide) fk_Ma_195 g35 d_Ma_fun_127 ?_
        refine lv_iload hx hb d_Ma_fun_130 (lv_at hl 0 rfl) ?_
        refine lv_iconst (v := 1) hx hb d_Ma_fun_132 (by decide) ?_
        refine lv_iadd hx hb d_Ma_fun_133 ?_
        refine lv_bipush (v := 8) hx hb d_Ma_fun_134 (by decide) ?_
        refine lv_iload_n hx hb d_Ma_fun_136 rfl (lv_at hl 3 rfl) ?_
        obtain ⟨u36, r36, hc36, hf⟩ := bx_some hf
        obtain ⟨hc36, hz36⟩ := gz_some hc36
        obtain ⟨hf, hw36⟩ := gw_some hf
        refine xS0 (As := [.int 8, .int v2]) (rest := [.int (r26 + 1), va_rf (Option.map ad r35)]) C0 hP hD hS (c_Te_make N hc36) k_Te_make (wd_of 1671 (by decide +kernel) rfl) ht_Te_make hini_Te rfl rfl hd_Te_make rfl rm_Ma_fun_Te_make hl.1 (c8 (Nat.le_of_ble_eq_true rfl)) d_Ma_fun_137 rfl (hB.fit hm hz36 hw36) (fun H locs hP hD hS => ?_)
        have hB := hB.same2 hz36
        obtain ⟨j37, ej37, hf⟩ := bo_some hf
        rw [ej37]
        obtain ⟨w38, g38, hf⟩ := bo_some hf
        refine xs_J (i := j37) hx hb hK hP hD hS g38 d_Ma_fun_140 (fun H locs hP hD hS => ?_)
        have hB := hB.same (sJ_c g38)
        refine lv_iconst (v := 0) hx hb d_Ma_fun_141 (by decide) ?_
        refine lv_istore (lv' := [(5, .int 0), (4, .int r26), (0, .ref (ad v0)), (1, .int v1), (2, .int v2), (3, .int v3)]) hx hb d_Ma_fun_142 hl (by decide) (by first | rfl | simp [List.filter, cat_rf]) (fun ls hl => ?_)
        exact hG.2 _ _ _ _ _ _ hf hm _ _ _ hB H locs hP hD hS ls (lv_sub hl [2, 4, 1, 0] rfl)
      · rw [br_p _ hc] at hf
        exact yr_v C0 hP hD hS hB hm hf d_Ma_fun_97
    · rw [br_n _ hc] at hf
      refine lv_aload_n hx hb d_Ma_fun_80 rfl (lv_at hl 0 rfl) ?_
      refine lv_bipush (v := 11) hx hb d_Ma_fun_81 (by decide) ?_
      obtain ⟨hO9, hf⟩ := ck_some hf
      obtain ⟨u39, r39, hc39, hf⟩ := bx_some hf
      obtain ⟨hc39, hz39⟩ := gz_some hc39
      obtain ⟨hf, hw39⟩ := gw_some hf
      refine xV0 (i := v0) (As := [.int 11]) (rest := []) C0 hP hD hS ck_Ma hO9 (c_Ma_wrong N hc39) k_Ma_wrong (wd_of 1664 (by decide +kernel) rfl) hi_Ma_wrong hs_Ma_wrong hini_Ma rfl rfl hd_Ma_wrong rfl rm_Ma_fun_Ma_wrong hl.1 (Nat.le_of_ble_eq_true rfl) d_Ma_fun_83 rfl (hB.fit hm hz39 hw39) (fun H locs hP hD hS => ?_)
      have hB := hB.same2 hz39
      exact yr_v C0 hP hD hS hB hm hf d_Ma_fun_86
  · rw [br_n _ hc] at hf
    refine lv_iload_n hx hb d_Ma_fun_27 rfl (lv_at hl 3 rfl) ?_
    refine lv_aload_n hx hb d_Ma_fun_28 rfl (lv_at hl 0 rfl) ?_
    obtain ⟨r40, g40, hf⟩ := bo_some hf
    refine xg_R (i := v0) (k := 2) hx hb ht hown ck_Ma hK hP (by decide) fk_Ma_19 g40 d_Ma_fun_29 ?_
    refine lv_aload_n hx hb d_Ma_fun_32 rfl (lv_at hl 0 rfl) ?_
    obtain ⟨r41, g41, hf⟩ := bo_some hf
    refine xg_R (i := v0) (k := 3) hx hb ht hown ck_Ma hK hP (by decide) fk_Ma_23 g41 d_Ma_fun_33 ?_
    obtain ⟨j42, ej42, hf⟩ := bo_some hf
    rw [ej42]
    obtain ⟨r43, g43, hf⟩ := bo_some hf
    refine xg_R (i := j42) (k := 2) hx hb ht hown ck_Pr hK hP (by decide) fk_Ma_195 g43 d_Ma_fun_36 ?_
    refine lv_aload_n hx hb d_Ma_fun_39 rfl (lv_at hl 0 rfl) ?_
    obtain ⟨r44, g44, hf⟩ := bo_some hf
    refine xg_R (i := v0) (k := 4) hx hb ht hown ck_Ma hK hP (by decide) fk_Ma_33 g44 d_Ma_fun_40 ?_
    refine lv_aload_n hx hb d_Ma_fun_43 rfl (lv_at hl 0 rfl) ?_
    obtain ⟨r45, g45, hf⟩ := bo_some hf
    refine xg_R (i := v0) (k := 0) hx hb ht hown ck_Ma hK hP (by decide) fk_Ma_9 g45 d_Ma_fun_44 ?_
    refine lv_aload_n hx hb d_Ma_fun_47 rfl (lv_at hl 0 rfl) ?_
    obtain ⟨r46, g46, hf⟩ := bo_some hf
    refine xg_I (i := v0) (k := 5) hx hb ht hown ck_Ma hK hP (by decide) fk_Ma_40 g46 d_Ma_fun_48 ?_
    refine lv_iconst (v := 3) hx hb d_Ma_fun_51 (by decide) ?_
    refine lv_iadd hx hb d_Ma_fun_52 ?_
    refine lv_iload hx hb d_Ma_fun_53 (lv_at hl 4 rfl) ?_
    refine lv_iadd hx hb d_Ma_fun_55 ?_
    obtain ⟨j48, ej48, hf⟩ := bo_some hf
    rw [ej48]
    obtain ⟨hO9, hf⟩ := ck_some hf
    obtain ⟨u47, r47, hc47, hf⟩ := bx_some hf
    obtain ⟨hc47, hz47⟩ := gz_some hc47
    obtain ⟨hf, hw47⟩ := gw_some hf
    refine xV0 (i := j48) (As := [.int ((r46 + 3) + v4)]) (rest := [va_rf (Option.map ad r44), va_rf (Option.map ad r43), va_rf (Option.map ad r40), .int v3]) C0 hP hD hS ck_Co hO9 (c_Co_at N hc47) k_Co_at (wd_of 1644 (by decide +kernel) rfl) hi_Co_at hs_Co_at hini_Co rfl rfl hd_Co_at rfl rm_Ma_fun_Co_at hl.1 (c8 (Nat.le_of_ble_eq_true rfl)) d_Ma_fun_56 rfl (hB.fit hm hz47 hw47) (fun H locs hP hD hS => ?_)
    have hB := hB.same2 hz47
    obtain ⟨j50, ej50, hf⟩ := bo_some hf
    rw [ej50]
    obtain ⟨hO9, hf⟩ := ck_some hf
    obtain ⟨u49, r49, hc49, hf⟩ := bx_some hf
    obtain ⟨hc49, hz49⟩ := gz_some hc49
    obtain ⟨hf, hw49⟩ := gw_some hf
    refine xV0 (i := j50) (As := [.int r47]) (rest := [va_rf (Option.map ad r43), va_rf (Option.map ad r40), .int v3]) C0 hP hD hS ck_Fr hO9 (c_Fr_termOf N hc49) k_Fr_termOf (wd_of 1861 (by decide +kernel) rfl) hi_Fr_termOf hs_Fr_termOf hini_Fr rfl rfl hd_Fr_termOf rfl rm_Ma_fun_Fr_termOf hl.1 (c8 (Nat.le_of_ble_eq_true rfl)) d_Ma_fun_59 rfl (hB.fit hm hz49 hw49) (fun H locs hP hD hS => ?_)
    have hB := hB.same2 hz49
    obtain ⟨j52, ej52, hf⟩ := bo_some hf
    rw [ej52]
    obtain ⟨hO9, hf⟩ := ck_some hf
    obtain ⟨u51, r51, hc51, hf⟩ := bx_some hf
    obtain ⟨hc51, hz51⟩ := gz_some hc51
    obtain ⟨hf, hw51⟩ := gw_some hf
    refine xV0 (i := j52) (As := [va_rf (Option.map ad r43), .long r49]) (rest := [.int v3]) C0 hP hD hS ck_Te hO9 (c_Te_size N hc51) k_Te_size (wd_of 1685 (by decide +kernel) rfl) hi_Te_size hs_Te_size hini_Te rfl rfl hd_Te_size rfl rm_Ma_fun_Te_size hl.1 (Nat.le_of_ble_eq_true rfl) d_Ma_fun_62 rfl (hB.fit hm hz51 hw51) (fun H locs hP hD hS => ?_)
    have hB := hB.same2 hz51
    refine lv_iadd hx hb d_Ma_fun_65 ?_
    refine lv_istore_n (lv' := [(3, .int (v3 + r51)), (0, .ref (ad v0)), (1, .int v1), (2, .int v2), (4, .int v4)]) hx hb d_Ma_fun_66 rfl hl (by decide) (by first | rfl | simp [List.filter, cat_rf]) (fun ls hl => ?_)
    refine lv_iinc (v := (v4 + 1)) (lv' := [(4, .int (v4 + 1)), (3, .int (v3 + r51)), (0, .ref (ad v0)), (1, .int v1), (2, .int v2)]) hx hb d_Ma_fun_67 hl (k := 4) rfl rfl (by decide) (by first | rfl | simp [List.filter, cat_rf]) (fun ls hl => ?_)
    refine lv_goto (tgt := 21) hx hb d_Ma_fun_70 (by decide) ?_
    exact hG.1 _ _ _ _ _ _ _ hf hm _ _ _ hB H locs hP hD hS ls (lv_sub hl [2, 3, 4, 1, 0] rfl)
def fb_Ma_fun_0 (N : Nat) (G : (CS → Nat → Int32 → Int32 → Int32 → Int32 → Option (CS × Unit)) × (CS → Nat → Int32 → Int32 → Int32 → Option (CS × Unit))) (u : CS) (v0 : Nat) (v1 : Int32) : Option (CS × Unit) := bo (gR u v0 5 0) (fun r53 => bo (gI u v0 5 5) (fun r54 => bo r53 (fun j56 => ck (isO u j56 2) (bx (gz u (fm_Co_at N u j56 (r54 + 2))) (fun u55 r55 => gw u55 (G.1 u55 (v0) (v1) (r55) ((r55 + 2)) (0)))))))
set_option maxRecDepth 100000 in
set_option maxHeartbeats 4000000 in
theorem wb_Ma_fun_0 {p : Program} {l : Launch} {e : Env} {s : State} {m : MethodId} {args : Array Value} {below : List Frame} {meth : Method} {c : Code} {s0 : State} {b0 : Nat} {D : va_G} {cB cI cJ cZ cS cP : ClassId} {A : Nat → Prop} {sk sv : Nat → Nat} {uN uS mc ms : Nat} {ad0 : Nat → Nat} (C0 : XCx p s s0 b0 m args meth c R_Ma b_Ma_fun 6 none D cB cI cJ cZ cS cP A) (hE : ENV s0 b0 sk sv) (N : Nat) (G : (CS → Nat → Int32 → Int32 → Int32 → Int32 → Option (CS × Unit)) × (CS → Nat → Int32 → Int32 → Int32 → Option (CS × Unit))) (hG : (∀ (u : CS) (v0 : Nat) (v1 : Int32) (v2 : Int32) (v3 : Int32) (v4 : Int32) (x : CS × Unit), G.1 u v0 v1 v2 v3 v4 = some x → (uN + mc = x.1.1.1 ∧ uS + ms = x.1.1.2) → ∀ (ad : Nat → Nat) (ce sl : Nat), AB uN uS ad0 u ad ce sl → ∀ (H : Heap) (locs : List Loc), va_P D cls (wC cB cI cJ cZ cS cP ad u) H → va_D A (wC cB cI cJ cZ cS cP ad u) → va_S A s.heap H locs → ∀ (ls : Array Slot), lv_has ls 6 [(0, .ref (ad v0)), (1, .int v1), (2, .int v2), (3, .int v3), (4, .int v4)] → W p l e (rm_Ma_fun mc ms) s m args below meth c H locs ce sl (MQ below (xQ D cB cI cJ cZ cS cP A ad0 uN x.1 none) args s mc ms A) (F0 m 21 ls [])) ∧ (∀ (u : CS) (v0 : Nat) (v2 : Int32) (v4 : Int32) (v5 : Int32) (x : CS × Unit), G.2 u v0 v2 v4 v5 = some x → (uN + mc = x.1.1.1 ∧ uS + ms = x.1.1.2) → ∀ (ad : Nat → Nat) (ce sl : Nat), AB uN uS ad0 u ad ce sl → ∀ (H : Heap) (locs : List Loc), va_P D cls (wC cB cI cJ cZ cS cP ad u) H → va_D A (wC cB cI cJ cZ cS cP ad u) → va_S A s.heap H locs → ∀ (ls : Array Slot), lv_has ls 6 [(0, .ref (ad v0)), (2, .int v2), (4, .int v4), (5, .int v5)] → W p l e (rm_Ma_fun mc ms) s m args below meth c H locs ce sl (MQ below (xQ D cB cI cJ cZ cS cP A ad0 uN x.1 none) args s mc ms A) (F0 m 144 ls []))) : ∀ (u : CS) (v0 : Nat) (v1 : Int32) (x : CS × Unit), fb_Ma_fun_0 N G u v0 v1 = some x → (uN + mc = x.1.1.1 ∧ uS + ms = x.1.1.2) → ∀ (ad : Nat → Nat) (ce sl : Nat), AB uN uS ad0 u ad ce sl → ∀ (H : Heap) (locs : List Loc), va_P D cls (wC cB cI cJ cZ cS cP ad u) H → va_D A (wC cB cI cJ cZ cS cP ad u) → va_S A s.heap H locs → ∀ (ls : Array Slot), lv_has ls 6 [(0, .ref (ad v0)), (1, .int v1)] → W p l e (rm_Ma_fun mc ms) s m args below meth c H locs ce sl (MQ below (xQ D cB cI cJ cZ cS cP A ad0 uN x.1 none) args s mc ms A) (F0 m 0 ls []) := by
  intro u v0 v1 x hf hm ad ce sl hB H locs hP hD hS ls hl
  obtain ⟨hx, hb, hr, hml, ht, hown, hK, hA, hlocks, hA0, hO, hbs⟩ := id C0
  unfold fb_Ma_fun_0 at hf
  refine lv_aload_n hx hb d_Ma_fun_0 rfl (lv_at hl 0 rfl) ?_
  obtain ⟨r53, g53, hf⟩ := bo_some hf
  refine xg_R (i := v0) (k := 0) hx hb ht hown ck_Ma hK hP (by decide) fk_Ma_9 g53 d_Ma_fun_1 ?_
  refine lv_aload_n hx hb d_Ma_fun_4 rfl (lv_at hl 0 rfl) ?_
  obtain ⟨r54, g54, hf⟩ := bo_some hf
  refine xg_I (i := v0) (k := 5) hx hb ht hown ck_Ma hK hP (by decide) fk_Ma_40 g54 d_Ma_fun_5 ?_
  refine lv_iconst (v := 2) hx hb d_Ma_fun_8 (by decide) ?_
  refine lv_iadd hx hb d_Ma_fun_9 ?_
  obtain ⟨j56, ej56, hf⟩ := bo_some hf
  rw [ej56]
  obtain ⟨hO9, hf⟩ := ck_some hf
  obtain ⟨u55, r55, hc55, hf⟩ := bx_some hf
  obtain ⟨hc55, hz55⟩ := gz_some hc55
  obtain ⟨hf, hw55⟩ := gw_some hf
  refine xV0 (i := j56) (As := [.int (r54 + 2)]) (rest := []) C0 hP hD hS ck_Co hO9 (c_Co_at N hc55) k_Co_at (wd_of 1644 (by decide +kernel) rfl) hi_Co_at hs_Co_at hini_Co rfl rfl hd_Co_at rfl rm_Ma_fun_Co_at hl.1 (Nat.le_of_ble_eq_true rfl) d_Ma_fun_10 rfl (hB.fit hm hz55 hw55) (fun H locs hP hD hS => ?_)
  have hB := hB.same2 hz55
  refine lv_istore_n (lv' := [(2, .int r55), (0, .ref (ad v0)), (1, .int v1)]) hx hb d_Ma_fun_13 rfl hl (by decide) (by first | rfl | simp [List.filter, cat_rf]) (fun ls hl => ?_)
  refine lv_iload_n hx hb d_Ma_fun_14 rfl (lv_at hl 0 rfl) ?_
  refine lv_iconst (v := 2) hx hb d_Ma_fun_15 (by decide) ?_
  refine lv_iadd hx hb d_Ma_fun_16 ?_
  refine lv_istore_n (lv' := [(3, .int (r55 + 2)), (2, .int r55), (0, .ref (ad v0)), (1, .int v1)]) hx hb d_Ma_fun_17 rfl hl (by decide) (by first | rfl | simp [List.filter, cat_rf]) (fun ls hl => ?_)
  refine lv_iconst (v := 0) hx hb d_Ma_fun_18 (by decide) ?_
  refine lv_istore (lv' := [(4, .int 0), (3, .int (r55 + 2)), (2, .int r55), (0, .ref (ad v0)), (1, .int v1)]) hx hb d_Ma_fun_19 hl (by decide) (by first | rfl | simp [List.filter, cat_rf]) (fun ls hl => ?_)
  exact hG.1 _ _ _ _ _ _ _ hf hm _ _ _ hB H locs hP hD hS ls (lv_sub hl [3, 4, 2, 1, 0] rfl)
def gg_Ma_fun (N : Nat) : Nat → ((CS → Nat → Int32 → Int32 → Int32 → Int32 → Option (CS × Unit)) × (CS → Nat → Int32 → Int32 → Int32 → Option (CS × Unit)))
  | 0 => (fun _ _ _ _ _ _ => none, fun _ _ _ _ _ => none)
  | n + 1 => (fb_Ma_fun_21 N (gg_Ma_fun N n), fb_Ma_fun_144 N (gg_Ma_fun N n))
theorem wg_Ma_fun {p : Program} {l : Launch} {e : Env} {s : State} {m : MethodId} {args : Array Value} {below : List Frame} {meth : Method} {c : Code} {s0 : State} {b0 : Nat} {D : va_G} {cB cI cJ cZ cS cP : ClassId} {A : Nat → Prop} {sk sv : Nat → Nat} {uN uS mc ms : Nat} {ad0 : Nat → Nat} (C0 : XCx p s s0 b0 m args meth c R_Ma b_Ma_fun 6 none D cB cI cJ cZ cS cP A) (hE : ENV s0 b0 sk sv) (N : Nat) : ∀ n : Nat, (∀ (u : CS) (v0 : Nat) (v1 : Int32) (v2 : Int32) (v3 : Int32) (v4 : Int32) (x : CS × Unit), (gg_Ma_fun N n).1 u v0 v1 v2 v3 v4 = some x → (uN + mc = x.1.1.1 ∧ uS + ms = x.1.1.2) → ∀ (ad : Nat → Nat) (ce sl : Nat), AB uN uS ad0 u ad ce sl → ∀ (H : Heap) (locs : List Loc), va_P D cls (wC cB cI cJ cZ cS cP ad u) H → va_D A (wC cB cI cJ cZ cS cP ad u) → va_S A s.heap H locs → ∀ (ls : Array Slot), lv_has ls 6 [(0, .ref (ad v0)), (1, .int v1), (2, .int v2), (3, .int v3), (4, .int v4)] → W p l e (rm_Ma_fun mc ms) s m args below meth c H locs ce sl (MQ below (xQ D cB cI cJ cZ cS cP A ad0 uN x.1 none) args s mc ms A) (F0 m 21 ls [])) ∧ (∀ (u : CS) (v0 : Nat) (v2 : Int32) (v4 : Int32) (v5 : Int32) (x : CS × Unit), (gg_Ma_fun N n).2 u v0 v2 v4 v5 = some x → (uN + mc = x.1.1.1 ∧ uS + ms = x.1.1.2) → ∀ (ad : Nat → Nat) (ce sl : Nat), AB uN uS ad0 u ad ce sl → ∀ (H : Heap) (locs : List Loc), va_P D cls (wC cB cI cJ cZ cS cP ad u) H → va_D A (wC cB cI cJ cZ cS cP ad u) → va_S A s.heap H locs → ∀ (ls : Array Slot), lv_has ls 6 [(0, .ref (ad v0)), (2, .int v2), (4, .int v4), (5, .int v5)] → W p l e (rm_Ma_fun mc ms) s m args below meth c H locs ce sl (MQ below (xQ D cB cI cJ cZ cS cP A ad0 uN x.1 none) args s mc ms A) (F0 m 144 ls []))
  | 0 => ⟨(fun u v0 v1 v2 v3 v4 x hf => by cases hf), (fun u v0 v2 v4 v5 x hf => by cases hf)⟩
  | n + 1 => ⟨wb_Ma_fun_21 C0 hE N (gg_Ma_fun N n) (wg_Ma_fun C0 hE N n), wb_Ma_fun_144 C0 hE N (gg_Ma_fun N n) (wg_Ma_fun C0 hE N n)⟩
def fm_Ma_fun (N : Nat) (u : CS) (v0 : Nat) (v1 : Int32) : Option (CS × Unit) := fb_Ma_fun_0 N (gg_Ma_fun N N) u v0 v1
set_option maxRecDepth 100000 in
set_option maxHeartbeats 4000000 in
theorem c_Ma_fun (N : Nat) {l : Launch} {s0 : State} {b0 : Nat} {D : va_G} {cB cI cJ cZ cS cP : ClassId} {sk sv : Nat → Nat} {ad : Nat → Nat} {u : CS} {sz mc ms : Nat} {v0 : Nat} {v1 : Int32} {x : CS × Unit} (hE : ENV s0 b0 sk sv) (hf : fm_Ma_fun N u v0 v1 = some x) (hm : u.1.1 + mc = x.1.1.1 ∧ u.1.2 + ms = x.1.1.2) : Met l y_Ma_fun (wd_ws y_Ma_fun b_Ma_fun 6 none) (rm_Ma_fun mc ms) (xPc s0 b0 D cB cI cJ cZ cS cP ad u sz [.ref (ad v0), .int v1]) (xQ D cB cI cJ cZ cS cP (xA cB cI cJ cZ cS cP ad u sz) ad u.1.1 x.1 none) mc ms (xA cB cI cJ cZ cS cP ad u sz) :=
  xMet (by decide) rfl (Nat.le_of_ble_eq_true rfl) (fun p e s m below meth c ls hsz hnm C0 hP hD hS hl =>
    wb_Ma_fun_0 C0 hE N (gg_Ma_fun N N) (wg_Ma_fun C0 hE N N) u _ _ x hf hm ad 0 0 ⟨rfl, rfl, fun _ _ => rfl⟩ s.heap [] hP hD hS ls (lv_sub hl [0, 1] rfl))
abbrev b_Ma_funOf : ByteArray := prog_5_method_20_code
def y_Ma_funOf : MethodName := ⟨R_Ma, "funOf", "(I)V"⟩
def w_Ma_funOf : List Cond := wd_ws y_Ma_funOf b_Ma_funOf 3 none
set_option maxRecDepth 100000 in
theorem k_Ma_funOf : Cond.code y_Ma_funOf b_Ma_funOf 3 none ∈ wd_tbl := wd_of 1884 rfl rfl
theorem d_Ma_funOf_0 : decode b_Ma_funOf 0 = .ok (.aload_n 0, 1) := by decide +kernel
theorem d_Ma_funOf_1 : decode b_Ma_funOf 1 = .ok (.iconst 2, 1) := by decide +kernel
theorem d_Ma_funOf_2 : decode b_Ma_funOf 2 = .ok (.invokevirtual 135, 3) := by decide +kernel
theorem d_Ma_funOf_5 : decode b_Ma_funOf 5 = .ok (.ifCond .ne 4, 3) := by decide +kernel
theorem d_Ma_funOf_8 : decode b_Ma_funOf 8 = .ok (.return_, 1) := by decide +kernel
theorem d_Ma_funOf_9 : decode b_Ma_funOf 9 = .ok (.aload_n 0, 1) := by decide +kernel
theorem d_Ma_funOf_10 : decode b_Ma_funOf 10 = .ok (.getfield 23, 3) := by decide +kernel
theorem d_Ma_funOf_13 : decode b_Ma_funOf 13 = .ok (.getfield 239, 3) := by decide +kernel
theorem d_Ma_funOf_16 : decode b_Ma_funOf 16 = .ok (.istore_n 2, 1) := by decide +kernel
theorem d_Ma_funOf_17 : decode b_Ma_funOf 17 = .ok (.aload_n 0, 1) := by decide +kernel
theorem d_Ma_funOf_18 : decode b_Ma_funOf 18 = .ok (.getfield 23, 3) := by decide +kernel
theorem d_Ma_funOf_21 : decode b_Ma_funOf 21 = .ok (.getfield 195, 3) := by decide +kernel
theorem d_Ma_funOf_24 : decode b_Ma_funOf 24 = .ok (.iload_n 2, 1) := by decide +kernel
theorem d_Ma_funOf_25 : decode b_Ma_funOf 25 = .ok (.bipush 8, 2) := by decide +kernel
theorem d_Ma_funOf_27 : decode b_Ma_funOf 27 = .ok (.ldc 252, 2) := by decide +kernel
theorem d_Ma_funOf_29 : decode b_Ma_funOf 29 = .ok (.iload_n 1, 1) := by decide +kernel
theorem d_Ma_funOf_30 : decode b_Ma_funOf 30 = .ok (.iadd, 1) := by decide +kernel
theorem d_Ma_funOf_31 : decode b_Ma_funOf 31 = .ok (.invokestatic 101, 3) := by decide +kernel
theorem d_Ma_funOf_34 : decode b_Ma_funOf 34 = .ok (.lastore, 1) := by decide +kernel
theorem d_Ma_funOf_35 : decode b_Ma_funOf 35 = .ok (.aload_n 0, 1) := by decide +kernel
theorem d_Ma_funOf_36 : decode b_Ma_funOf 36 = .ok (.getfield 23, 3) := by decide +kernel
theorem d_Ma_funOf_39 : decode b_Ma_funOf 39 = .ok (.getfield 195, 3) := by decide +kernel
theorem d_Ma_funOf_42 : decode b_Ma_funOf 42 = .ok (.iload_n 2, 1) := by decide +kernel
theorem d_Ma_funOf_43 : decode b_Ma_funOf 43 = .ok (.iconst 1, 1) := by decide +kernel
theorem d_Ma_funOf_44 : decode b_Ma_funOf 44 = .ok (.iadd, 1) := by decide +kernel
theorem d_Ma_funOf_45 : decode b_Ma_funOf 45 = .ok (.bipush 8, 2) := by decide +kernel
theorem d_Ma_funOf_47 : decode b_Ma_funOf 47 = .ok (.iconst 0, 1) := by decide +kernel
theorem d_Ma_funOf_48 : decode b_Ma_funOf 48 = .ok (.invokestatic 101, 3) := by decide +kernel
theorem d_Ma_funOf_51 : decode b_Ma_funOf 51 = .ok (.lastore, 1) := by decide +kernel
theorem d_Ma_funOf_52 : decode b_Ma_funOf 52 = .ok (.aload_n 0, 1) := by decide +kernel
theorem d_Ma_funOf_53 : decode b_Ma_funOf 53 = .ok (.getfield 23, 3) := by decide +kernel
theorem d_Ma_funOf_56 : decode b_Ma_funOf 56 = .ok (.dup, 1) := by decide +kernel
theorem d_Ma_funOf_57 : decode b_Ma_funOf 57 = .ok (.getfield 239, 3) := by decide +kernel
theorem d_Ma_funOf_60 : decode b_Ma_funOf 60 = .ok (.iconst 2, 1) := by decide +kernel
theorem d_Ma_funOf_61 : decode b_Ma_funOf 61 = .ok (.iadd, 1) := by decide +kernel
theorem d_Ma_funOf_62 : decode b_Ma_funOf 62 = .ok (.putfield 239, 3) := by decide +kernel
theorem d_Ma_funOf_65 : decode b_Ma_funOf 65 = .ok (.aload_n 0, 1) := by decide +kernel
theorem d_Ma_funOf_66 : decode b_Ma_funOf 66 = .ok (.getfield 33, 3) := by decide +kernel
theorem d_Ma_funOf_69 : decode b_Ma_funOf 69 = .ok (.iconst 3, 1) := by decide +kernel
theorem d_Ma_funOf_70 : decode b_Ma_funOf 70 = .ok (.iload_n 2, 1) := by decide +kernel
theorem d_Ma_funOf_71 : decode b_Ma_funOf 71 = .ok (.invokestatic 101, 3) := by decide +kernel
theorem d_Ma_funOf_74 : decode b_Ma_funOf 74 = .ok (.invokevirtual 112, 3) := by decide +kernel
theorem d_Ma_funOf_77 : decode b_Ma_funOf 77 = .ok (.aload_n 0, 1) := by decide +kernel
theorem d_Ma_funOf_78 : decode b_Ma_funOf 78 = .ok (.dup, 1) := by decide +kernel
theorem d_Ma_funOf_79 : decode b_Ma_funOf 79 = .ok (.getfield 40, 3) := by decide +kernel
theorem d_Ma_funOf_82 : decode b_Ma_funOf 82 = .ok (.iconst 2, 1) := by decide +kernel
theorem d_Ma_funOf_83 : decode b_Ma_funOf 83 = .ok (.iadd, 1) := by decide +kernel
theorem d_Ma_funOf_84 : decode b_Ma_funOf 84 = .ok (.putfield 40, 3) := by decide +kernel
theorem d_Ma_funOf_87 : decode b_Ma_funOf 87 = .ok (.return_, 1) := by decide +kernel
set_option maxRecDepth 100000 in
theorem hl_Ma_funOf : Cond.methodLink R_Ma 192 y_Ma_funOf ∈ wd_tbl := wd_of 1881 (by decide +kernel) rfl
set_option maxRecDepth 100000 in
theorem hi_Ma_funOf : Cond.instanceMethod y_Ma_funOf ∈ wd_tbl := wd_of 1883 (by decide +kernel) rfl
set_option maxRecDepth 100000 in
theorem hs_Ma_funOf : Cond.selects R_Ma y_Ma_funOf y_Ma_funOf ∈ wd_tbl := wd_of 98 (by decide +kernel) rfl
theorem hd_Ma_funOf : y_Ma_funOf.cls = R_Ma ∧ y_Ma_funOf.cls ≠ "java/lang/invoke/MethodHandle" ∧ y_Ma_funOf.cls ≠ "java/lang/invoke/VarHandle" ∧ (parseMethodDescriptor y_Ma_funOf.desc).map (fun d => d.parameters.length) = some 1 := by decide +kernel
def rm_Ma_funOf (mc ms : Nat) : Room := { frames := 4, cells := mc, slots := ms, locals := 118 }
theorem rm_Ma_funOf_Ma_room {mc ms : Nat} : (rm_Ma_room).frames + 1 ≤ (rm_Ma_funOf mc ms).frames ∧ 8 + (2 + 11) + (rm_Ma_room).locals ≤ (rm_Ma_funOf mc ms).locals := by
  show 3 + 1 ≤ 4 ∧ 8 + (2 + 11) + 97 ≤ 118
  decide
theorem rm_Ma_funOf_Te_make {mc ms : Nat} : (rm_Te_make).frames + 1 ≤ (rm_Ma_funOf mc ms).frames ∧ 8 + (2 + 11) + (rm_Te_make).locals ≤ (rm_Ma_funOf mc ms).locals := by
  show 0 + 1 ≤ 4 ∧ 8 + (2 + 11) + 0 ≤ 118
  decide
theorem rm_Ma_funOf_Fr_push {mc ms : Nat} {mc2 ms2 : Nat} : (rm_Fr_push mc2 ms2).frames + 1 ≤ (rm_Ma_funOf mc ms).frames ∧ 8 + (3 + 11) + (rm_Fr_push mc2 ms2).locals ≤ (rm_Ma_funOf mc ms).locals := by
  show 2 + 1 ≤ 4 ∧ 8 + (3 + 11) + 82 ≤ 118
  decide
def fb_Ma_funOf_0 (N : Nat) (G : Unit) (u : CS) (v0 : Nat) (v1 : Int32) : Option (CS × Unit) := ck (isO u v0 5) (bx (gz u (fm_Ma_room N u v0 2)) (fun u1 r1 => gw u1 (br (decide (r1 = 0)) (some (u1, ())) (bo (gR u1 v0 5 3) (fun r2 => bo r2 (fun j3 => bo (gI u1 j3 7 4) (fun r4 => bo (gR u1 v0 5 3) (fun r5 => bo r5 (fun j6 => bo (gR u1 j6 7 2) (fun r7 => bx (gz u1 (fm_Te_make N u1 8 (1000000 + v1))) (fun u8 r8 => gw u8 (bo r7 (fun j9 => bo (sJ u8 j9 r4 r8) (fun w10 => bo (gR w10 v0 5 3) (fun r11 => bo r11 (fun j12 => bo (gR w10 j12 7 2) (fun r13 => bx (gz w10 (fm_Te_make N w10 8 0)) (fun u14 r14 => gw u14 (bo r13 (fun j15 => bo (sJ u14 j15 (r4 + 1) r14) (fun w16 => bo (gR w16 v0 5 3) (fun r17 => bo r17 (fun j18 => bo (gI w16 j18 7 4) (fun r19 => bo (pF w16 j18 7 4 (.inl (r19 + 2))) (fun w20 => bo (gR w20 v0 5 4) (fun r21 => bx (gz w20 (fm_Te_make N w20 3 r4)) (fun u22 r22 => gw u22 (bo r21 (fun j24 => ck (isO u22 j24 4) (ck (List.all [some v0] (okR u22.1.1)) (bx (gw u22 (fm_Fr_push N u22 j24 r22)) (fun u23 r23 => gw u23 (bo (gI u23 v0 5 5) (fun r25 => bo (pF u23 v0 5 5 (.inl (r25 + 2))) (fun w26 => some (w26, ()))))))))))))))))))))))))))))))))))))
set_option maxRecDepth 100000 in
set_option maxHeartbeats 4000000 in
theorem wb_Ma_funOf_0 {p : Program} {l : Launch} {e : Env} {s : State} {m : MethodId} {args : Array Value} {below : List Frame} {meth : Method} {c : Code} {s0 : State} {b0 : Nat} {D : va_G} {cB cI cJ cZ cS cP : ClassId} {A : Nat → Prop} {sk sv : Nat → Nat} {uN uS mc ms : Nat} {ad0 : Nat → Nat} (C0 : XCx p s s0 b0 m args meth c R_Ma b_Ma_funOf 3 none D cB cI cJ cZ cS cP A) (hE : ENV s0 b0 sk sv) (N : Nat) (G : Unit) (hG : True) : ∀ (u : CS) (v0 : Nat) (v1 : Int32) (x : CS × Unit), fb_Ma_funOf_0 N G u v0 v1 = some x → (uN + mc = x.1.1.1 ∧ uS + ms = x.1.1.2) → ∀ (ad : Nat → Nat) (ce sl : Nat), AB uN uS ad0 u ad ce sl → ∀ (H : Heap) (locs : List Loc), va_P D cls (wC cB cI cJ cZ cS cP ad u) H → va_D A (wC cB cI cJ cZ cS cP ad u) → va_S A s.heap H locs → ∀ (ls : Array Slot), lv_has ls 3 [(0, .ref (ad v0)), (1, .int v1)] → W p l e (rm_Ma_funOf mc ms) s m args below meth c H locs ce sl (MQ below (xQ D cB cI cJ cZ cS cP A ad0 uN x.1 none) args s mc ms A) (F0 m 0 ls []) := by
  intro u v0 v1 x hf hm ad ce sl hB H locs hP hD hS ls hl
  obtain ⟨hx, hb, hr, hml, ht, hown, hK, hA, hlocks, hA0, hO, hbs⟩ := id C0
  unfold fb_Ma_funOf_0 at hf
  refine lv_aload_n hx hb d_Ma_funOf_0 rfl (lv_at hl 0 rfl) ?_
  refine lv_iconst (v := 2) hx hb d_Ma_funOf_1 (by decide) ?_
  obtain ⟨hO9, hf⟩ := ck_some hf
  obtain ⟨u1, r1, hc1, hf⟩ := bx_some hf
  obtain ⟨hc1, hz1⟩ := gz_some hc1
  obtain ⟨hf, hw1⟩ := gw_some hf
  refine xV0 (i := v0) (As := [.int 2]) (rest := []) C0 hP hD hS ck_Ma hO9 (c_Ma_room N hE hc1) k_Ma_room (wd_of 1853 (by decide +kernel) rfl) hi_Ma_room hs_Ma_room hini_Ma rfl rfl hd_Ma_room rfl rm_Ma_funOf_Ma_room hl.1 (Nat.le_of_ble_eq_true rfl) d_Ma_funOf_2 rfl (hB.fit hm hz1 hw1) (fun H locs hP hD hS => ?_)
  have hB := hB.same2 hz1
  refine lv_if_ne (tgt := 9) hx hb d_Ma_funOf_5 (by decide) (fun hc => ?_) (fun hc => ?_)
  · rw [br_n _ hc] at hf
    refine lv_aload_n hx hb d_Ma_funOf_9 rfl (lv_at hl 0 rfl) ?_
    obtain ⟨r2, g2, hf⟩ := bo_some hf
    refine xg_R (i := v0) (k := 3) hx hb ht hown ck_Ma hK hP (by decide) fk_Ma_23 g2 d_Ma_funOf_10 ?_
    obtain ⟨j3, ej3, hf⟩ := bo_some hf
    rw [ej3]
    obtain ⟨r4, g4, hf⟩ := bo_some hf
    refine xg_I (i := j3) (k := 4) hx hb ht hown ck_Pr hK hP (by decide) fk_Ma_239 g4 d_Ma_funOf_13 ?_
    refine lv_istore_n (lv' := [(2, .int r4), (0, .ref (ad v0)), (1, .int v1)]) hx hb d_Ma_funOf_16 rfl hl (by decide) (by first | rfl | simp [List.filter, cat_rf]) (fun ls hl => ?_)
    refine lv_aload_n hx hb d_Ma_funOf_17 rfl (lv_at hl 1 rfl) ?_
    obtain ⟨r5, g5, hf⟩ := bo_some hf
    refine xg_R (i := v0) (k := 3) hx hb ht hown ck_Ma hK hP (by decide) fk_Ma_23 g5 d_Ma_funOf_18 ?_
    obtain ⟨j6, ej6, hf⟩ := bo_some hf
    rw [ej6]
    obtain ⟨r7, g7, hf⟩ := bo_some hf
    refine xg_R (i := j6) (k := 2) hx hb ht hown ck_Pr hK hP (by decide) fk_Ma_195 g7 d_Ma_funOf_21 ?_
    refine lv_iload_n hx hb d_Ma_funOf_24 rfl (lv_at hl 0 rfl) ?_
    refine lv_bipush (v := 8) hx hb d_Ma_funOf_25 (by decide) ?_
    refine lv_ldc (v := 1000000) hx hb hown (ht _ (wd_of 1679 (by decide +kernel) rfl)) d_Ma_funOf_27 ?_
    refine lv_iload_n hx hb d_Ma_funOf_29 rfl (lv_at hl 2 rfl) ?_
    refine lv_iadd hx hb d_Ma_funOf_30 ?_
    obtain ⟨u8, r8, hc8, hf⟩ := bx_some hf
    obtain ⟨hc8, hz8⟩ := gz_some hc8
    obtain ⟨hf, hw8⟩ := gw_some hf
    refine xS0 (As := [.int 8, .int (1000000 + v1)]) (rest := [.int r4, va_rf (Option.map ad r7)]) C0 hP hD hS (c_Te_make N hc8) k_Te_make (wd_of 1671 (by decide +kernel) rfl) ht_Te_make hini_Te rfl rfl hd_Te_make rfl rm_Ma_funOf_Te_make hl.1 (c8 (Nat.le_of_ble_eq_true rfl)) d_Ma_funOf_31 rfl (hB.fit hm hz8 hw8) (fun H locs hP hD hS => ?_)
    have hB := hB.same2 hz8
    obtain ⟨j9, ej9, hf⟩ := bo_some hf
    rw [ej9]
    obtain ⟨w10, g10, hf⟩ := bo_some hf
    refine xs_J (i := j9) hx hb hK hP hD hS g10 d_Ma_funOf_34 (fun H locs hP hD hS => ?_)
    have hB := hB.same (sJ_c g10)
    refine lv_aload_n hx hb d_Ma_funOf_35 rfl (lv_at hl 1 rfl) ?_
    obtain ⟨r11, g11, hf⟩ := bo_some hf
    refine xg_R (i := v0) (k := 3) hx hb ht hown ck_Ma hK hP (by decide) fk_Ma_23 g11 d_Ma_funOf_36 ?_
    obtain ⟨j12, ej12, hf⟩ := bo_some hf
    rw [ej12]
    obtain ⟨r13, g13, hf⟩ := bo_some hf
    refine xg_R (i := j12) (k := 2) hx hb ht hown ck_Pr hK hP (by decide) fk_Ma_195 g13 d_Ma_funOf_39 ?_
    refine lv_iload_n hx hb d_Ma_funOf_42 rfl (lv_at hl 0 rfl) ?_
    refine lv_iconst (v := 1) hx hb d_Ma_funOf_43 (by decide) ?_
    refine lv_iadd hx hb d_Ma_funOf_44 ?_
    refine lv_bipush (v := 8) hx hb d_Ma_funOf_45 (by decide) ?_
    refine lv_iconst (v := 0) hx hb d_Ma_funOf_47 (by decide) ?_
    obtain ⟨u14, r14, hc14, hf⟩ := bx_some hf
    obtain ⟨hc14, hz14⟩ := gz_some hc14
    obtain ⟨hf, hw14⟩ := gw_some hf
    refine xS0 (As := [.int 8, .int 0]) (rest := [.int (r4 + 1), va_rf (Option.map ad r13)]) C0 hP hD hS (c_Te_make N hc14) k_Te_make (wd_of 1671 (by decide +kernel) rfl) ht_Te_make hini_Te rfl rfl hd_Te_make rfl rm_Ma_funOf_Te_make hl.1 (c8 (Nat.le_of_ble_eq_true rfl)) d_Ma_funOf_48 rfl (hB.fit hm hz14 hw14) (fun H locs hP hD hS => ?_)
    have hB := hB.same2 hz14
    obtain ⟨j15, ej15, hf⟩ := bo_some hf
    rw [ej15]
    obtain ⟨w16, g16, hf⟩ := bo_some hf
    refine xs_J (i := j15) hx hb hK hP hD hS g16 d_Ma_funOf_51 (fun H locs hP hD hS => ?_)
    have hB := hB.same (sJ_c g16)
    refine lv_aload_n hx hb d_Ma_funOf_52 rfl (lv_at hl 1 rfl) ?_
    obtain ⟨r17, g17, hf⟩ := bo_some hf
    refine xg_R (i := v0) (k := 3) hx hb ht hown ck_Ma hK hP (by decide) fk_Ma_23 g17 d_Ma_funOf_53 ?_
    refine lv_dup hx hb d_Ma_funOf_56 (cat_rf _) ?_
    obtain ⟨j18, ej18, hf⟩ := bo_some hf
    rw [ej18]
    obtain ⟨r19, g19, hf⟩ := bo_some hf
    refine xg_I (i := j18) (k := 4) hx hb ht hown ck_Pr hK hP (by decide) fk_Ma_239 g19 d_Ma_funOf_57 ?_
    refine lv_iconst (v := 2) hx hb d_Ma_funOf_60 (by decide) ?_
    refine lv_iadd hx hb d_Ma_funOf_61 ?_
    obtain ⟨w20, g20, hf⟩ := bo_some hf
    refine xp (i := j18) (k := 4) (v := (.inl (r19 + 2))) hx hb ht hown ck_Pr hK hP hD hS (by decide) fk_Ma_239 rfl g20 rfl rfl d_Ma_funOf_62 (fun H locs hP hD hS => ?_)
    have hB := hB.same (pF_c g20)
    refine lv_aload_n hx hb d_Ma_funOf_65 rfl (lv_at hl 1 rfl) ?_
    obtain ⟨r21, g21, hf⟩ := bo_some hf
    refine xg_R (i := v0) (k := 4) hx hb ht hown ck_Ma hK hP (by decide) fk_Ma_33 g21 d_Ma_funOf_66 ?_
    refine lv_iconst (v := 3) hx hb d_Ma_funOf_69 (by decide) ?_
    refine lv_iload_n hx hb d_Ma_funOf_70 rfl (lv_at hl 0 rfl) ?_
    obtain ⟨u22, r22, hc22, hf⟩ := bx_some hf
    obtain ⟨hc22, hz22⟩ := gz_some hc22
    obtain ⟨hf, hw22⟩ := gw_some hf
    refine xS0 (As := [.int 3, .int r4]) (rest := [va_rf (Option.map ad r21)]) C0 hP hD hS (c_Te_make N hc22) k_Te_make (wd_of 1671 (by decide +kernel) rfl) ht_Te_make hini_Te rfl rfl hd_Te_make rfl rm_Ma_funOf_Te_make hl.1 (c8 (Nat.le_of_ble_eq_true rfl)) d_Ma_funOf_71 rfl (hB.fit hm hz22 hw22) (fun H locs hP hD hS => ?_)
    have hB := hB.same2 hz22
    obtain ⟨j24, ej24, hf⟩ := bo_some hf
    rw [ej24]
    obtain ⟨hO9, hf⟩ := ck_some hf
    obtain ⟨hk23, hf⟩ := ck_some hf
    obtain ⟨u23, r23, hc23, hf⟩ := bx_some hf
    obtain ⟨hc23, hq23⟩ := gw_some hc23
    obtain ⟨hf, hw23⟩ := gw_some hf
    refine yV (i := j24) (As := [.long r22]) (rest := []) C0 hP hD hS ck_Fr hO9 (c_Fr_push N hE hc23 (gm hq23)) k_Fr_push (wd_of 1753 (by decide +kernel) rfl) hi_Fr_push hs_Fr_push hini_Fr rfl rfl hd_Fr_push rfl rm_Ma_funOf_Fr_push hl.1 (Nat.le_of_ble_eq_true rfl) d_Ma_funOf_74 rfl (gm hq23) hB hm hw23 (fun ad23 H locs ce sl hg23 hB hP hD hS => ?_)
    have q23_0 : ad23 v0 = ad v0 := ko_O (k := 0) hk23 rfl hg23
    have hl : lv_has ls 3 [(2, .int r4), (0, .ref (ad23 v0)), (1, .int v1)] := by simp only [q23_0]; exact hl
    refine lv_aload_n hx hb d_Ma_funOf_77 rfl (lv_at hl 1 rfl) ?_
    refine lv_dup hx hb d_Ma_funOf_78 rfl ?_
    obtain ⟨r25, g25, hf⟩ := bo_some hf
    refine xg_I (i := v0) (k := 5) hx hb ht hown ck_Ma hK hP (by decide) fk_Ma_40 g25 d_Ma_funOf_79 ?_
    refine lv_iconst (v := 2) hx hb d_Ma_funOf_82 (by decide) ?_
    refine lv_iadd hx hb d_Ma_funOf_83 ?_
    obtain ⟨w26, g26, hf⟩ := bo_some hf
    refine xp (i := v0) (k := 5) (v := (.inl (r25 + 2))) hx hb ht hown ck_Ma hK hP hD hS (by decide) fk_Ma_40 rfl g26 rfl rfl d_Ma_funOf_84 (fun H locs hP hD hS => ?_)
    have hB := hB.same (pF_c g26)
    exact yr_v C0 hP hD hS hB hm hf d_Ma_funOf_87
  · rw [br_p _ hc] at hf
    exact yr_v C0 hP hD hS hB hm hf d_Ma_funOf_8
def fm_Ma_funOf (N : Nat) (u : CS) (v0 : Nat) (v1 : Int32) : Option (CS × Unit) := fb_Ma_funOf_0 N () u v0 v1
set_option maxRecDepth 100000 in
set_option maxHeartbeats 4000000 in
theorem c_Ma_funOf (N : Nat) {l : Launch} {s0 : State} {b0 : Nat} {D : va_G} {cB cI cJ cZ cS cP : ClassId} {sk sv : Nat → Nat} {ad : Nat → Nat} {u : CS} {sz mc ms : Nat} {v0 : Nat} {v1 : Int32} {x : CS × Unit} (hE : ENV s0 b0 sk sv) (hf : fm_Ma_funOf N u v0 v1 = some x) (hm : u.1.1 + mc = x.1.1.1 ∧ u.1.2 + ms = x.1.1.2) : Met l y_Ma_funOf (wd_ws y_Ma_funOf b_Ma_funOf 3 none) (rm_Ma_funOf mc ms) (xPc s0 b0 D cB cI cJ cZ cS cP ad u sz [.ref (ad v0), .int v1]) (xQ D cB cI cJ cZ cS cP (xA cB cI cJ cZ cS cP ad u sz) ad u.1.1 x.1 none) mc ms (xA cB cI cJ cZ cS cP ad u sz) :=
  xMet (by decide) rfl (Nat.le_of_ble_eq_true rfl) (fun p e s m below meth c ls hsz hnm C0 hP hD hS hl =>
    wb_Ma_funOf_0 C0 hE N () trivial u _ _ x hf hm ad 0 0 ⟨rfl, rfl, fun _ _ => rfl⟩ s.heap [] hP hD hS ls (lv_sub hl [0, 1] rfl))
abbrev b_Ma_making : ByteArray := prog_5_method_12_code
def y_Ma_making : MethodName := ⟨R_Ma, "making", "(I)V"⟩
def w_Ma_making : List Cond := wd_ws y_Ma_making b_Ma_making 3 none
set_option maxRecDepth 100000 in
theorem k_Ma_making : Cond.code y_Ma_making b_Ma_making 3 none ∈ wd_tbl := wd_of 1848 rfl rfl
theorem d_Ma_making_0 : decode b_Ma_making 0 = .ok (.aload_n 0, 1) := by decide +kernel
theorem d_Ma_making_1 : decode b_Ma_making 1 = .ok (.getfield 9, 3) := by decide +kernel
theorem d_Ma_making_4 : decode b_Ma_making 4 = .ok (.aload_n 0, 1) := by decide +kernel
theorem d_Ma_making_5 : decode b_Ma_making 5 = .ok (.getfield 40, 3) := by decide +kernel
theorem d_Ma_making_8 : decode b_Ma_making 8 = .ok (.iconst 1, 1) := by decide +kernel
theorem d_Ma_making_9 : decode b_Ma_making 9 = .ok (.iadd, 1) := by decide +kernel
theorem d_Ma_making_10 : decode b_Ma_making 10 = .ok (.invokevirtual 67, 3) := by decide +kernel
theorem d_Ma_making_13 : decode b_Ma_making 13 = .ok (.istore_n 2, 1) := by decide +kernel
theorem d_Ma_making_14 : decode b_Ma_making 14 = .ok (.iload_n 1, 1) := by decide +kernel
theorem d_Ma_making_15 : decode b_Ma_making 15 = .ok (.tableswitch 146 1 7 #[41, 78, 86, 114, 122, 130, 138], 41) := by decide +kernel
theorem d_Ma_making_56 : decode b_Ma_making 56 = .ok (.aload_n 0, 1) := by decide +kernel
theorem d_Ma_making_57 : decode b_Ma_making 57 = .ok (.getfield 33, 3) := by decide +kernel
theorem d_Ma_making_60 : decode b_Ma_making 60 = .ok (.iload_n 2, 1) := by decide +kernel
theorem d_Ma_making_61 : decode b_Ma_making 61 = .ok (.aload_n 0, 1) := by decide +kernel
theorem d_Ma_making_62 : decode b_Ma_making 62 = .ok (.getfield 9, 3) := by decide +kernel
theorem d_Ma_making_65 : decode b_Ma_making 65 = .ok (.aload_n 0, 1) := by decide +kernel
theorem d_Ma_making_66 : decode b_Ma_making 66 = .ok (.getfield 40, 3) := by decide +kernel
theorem d_Ma_making_69 : decode b_Ma_making 69 = .ok (.iconst 2, 1) := by decide +kernel
theorem d_Ma_making_70 : decode b_Ma_making 70 = .ok (.iadd, 1) := by decide +kernel
theorem d_Ma_making_71 : decode b_Ma_making 71 = .ok (.invokevirtual 67, 3) := by decide +kernel
theorem d_Ma_making_74 : decode b_Ma_making 74 = .ok (.invokestatic 101, 3) := by decide +kernel
theorem d_Ma_making_77 : decode b_Ma_making 77 = .ok (.invokevirtual 112, 3) := by decide +kernel
theorem d_Ma_making_80 : decode b_Ma_making 80 = .ok (.aload_n 0, 1) := by decide +kernel
theorem d_Ma_making_81 : decode b_Ma_making 81 = .ok (.dup, 1) := by decide +kernel
theorem d_Ma_making_82 : decode b_Ma_making 82 = .ok (.getfield 40, 3) := by decide +kernel
theorem d_Ma_making_85 : decode b_Ma_making 85 = .ok (.iconst 3, 1) := by decide +kernel
theorem d_Ma_making_86 : decode b_Ma_making 86 = .ok (.iadd, 1) := by decide +kernel
theorem d_Ma_making_87 : decode b_Ma_making 87 = .ok (.putfield 40, 3) := by decide +kernel
theorem d_Ma_making_90 : decode b_Ma_making 90 = .ok (.goto 76, 3) := by decide +kernel
theorem d_Ma_making_93 : decode b_Ma_making 93 = .ok (.aload_n 0, 1) := by decide +kernel
theorem d_Ma_making_94 : decode b_Ma_making 94 = .ok (.iload_n 2, 1) := by decide +kernel
theorem d_Ma_making_95 : decode b_Ma_making 95 = .ok (.invokevirtual 177, 3) := by decide +kernel
theorem d_Ma_making_98 : decode b_Ma_making 98 = .ok (.goto 68, 3) := by decide +kernel
theorem d_Ma_making_101 : decode b_Ma_making 101 = .ok (.aload_n 0, 1) := by decide +kernel
theorem d_Ma_making_102 : decode b_Ma_making 102 = .ok (.getfield 33, 3) := by decide +kernel
theorem d_Ma_making_105 : decode b_Ma_making 105 = .ok (.aload_n 0, 1) := by decide +kernel
theorem d_Ma_making_106 : decode b_Ma_making 106 = .ok (.getfield 33, 3) := by decide +kernel
theorem d_Ma_making_109 : decode b_Ma_making 109 = .ok (.iload_n 2, 1) := by decide +kernel
theorem d_Ma_making_110 : decode b_Ma_making 110 = .ok (.invokevirtual 180, 3) := by decide +kernel
theorem d_Ma_making_113 : decode b_Ma_making 113 = .ok (.invokevirtual 112, 3) := by decide +kernel
theorem d_Ma_making_116 : decode b_Ma_making 116 = .ok (.aload_n 0, 1) := by decide +kernel
theorem d_Ma_making_117 : decode b_Ma_making 117 = .ok (.dup, 1) := by decide +kernel
theorem d_Ma_making_118 : decode b_Ma_making 118 = .ok (.getfield 40, 3) := by decide +kernel
theorem d_Ma_making_121 : decode b_Ma_making 121 = .ok (.iconst 2, 1) := by decide +kernel
theorem d_Ma_making_122 : decode b_Ma_making 122 = .ok (.iadd, 1) := by decide +kernel
theorem d_Ma_making_123 : decode b_Ma_making 123 = .ok (.putfield 40, 3) := by decide +kernel
theorem d_Ma_making_126 : decode b_Ma_making 126 = .ok (.goto 40, 3) := by decide +kernel
theorem d_Ma_making_129 : decode b_Ma_making 129 = .ok (.aload_n 0, 1) := by decide +kernel
theorem d_Ma_making_130 : decode b_Ma_making 130 = .ok (.iload_n 2, 1) := by decide +kernel
theorem d_Ma_making_131 : decode b_Ma_making 131 = .ok (.invokevirtual 183, 3) := by decide +kernel
theorem d_Ma_making_134 : decode b_Ma_making 134 = .ok (.goto 32, 3) := by decide +kernel
theorem d_Ma_making_137 : decode b_Ma_making 137 = .ok (.aload_n 0, 1) := by decide +kernel
theorem d_Ma_making_138 : decode b_Ma_making 138 = .ok (.iload_n 2, 1) := by decide +kernel
theorem d_Ma_making_139 : decode b_Ma_making 139 = .ok (.invokevirtual 186, 3) := by decide +kernel
theorem d_Ma_making_142 : decode b_Ma_making 142 = .ok (.goto 24, 3) := by decide +kernel
theorem d_Ma_making_145 : decode b_Ma_making 145 = .ok (.aload_n 0, 1) := by decide +kernel
theorem d_Ma_making_146 : decode b_Ma_making 146 = .ok (.iload_n 2, 1) := by decide +kernel
theorem d_Ma_making_147 : decode b_Ma_making 147 = .ok (.invokevirtual 189, 3) := by decide +kernel
theorem d_Ma_making_150 : decode b_Ma_making 150 = .ok (.goto 16, 3) := by decide +kernel
theorem d_Ma_making_153 : decode b_Ma_making 153 = .ok (.aload_n 0, 1) := by decide +kernel
theorem d_Ma_making_154 : decode b_Ma_making 154 = .ok (.iload_n 2, 1) := by decide +kernel
theorem d_Ma_making_155 : decode b_Ma_making 155 = .ok (.invokevirtual 192, 3) := by decide +kernel
theorem d_Ma_making_158 : decode b_Ma_making 158 = .ok (.goto 8, 3) := by decide +kernel
theorem d_Ma_making_161 : decode b_Ma_making 161 = .ok (.aload_n 0, 1) := by decide +kernel
theorem d_Ma_making_162 : decode b_Ma_making 162 = .ok (.iconst 1, 1) := by decide +kernel
theorem d_Ma_making_163 : decode b_Ma_making 163 = .ok (.putfield 50, 3) := by decide +kernel
theorem d_Ma_making_166 : decode b_Ma_making 166 = .ok (.return_, 1) := by decide +kernel
set_option maxRecDepth 100000 in
theorem hl_Ma_making : Cond.methodLink R_Ma 79 y_Ma_making ∈ wd_tbl := wd_of 1845 (by decide +kernel) rfl
set_option maxRecDepth 100000 in
theorem hi_Ma_making : Cond.instanceMethod y_Ma_making ∈ wd_tbl := wd_of 1847 (by decide +kernel) rfl
set_option maxRecDepth 100000 in
theorem hs_Ma_making : Cond.selects R_Ma y_Ma_making y_Ma_making ∈ wd_tbl := wd_of 90 (by decide +kernel) rfl
theorem hd_Ma_making : y_Ma_making.cls = R_Ma ∧ y_Ma_making.cls ≠ "java/lang/invoke/MethodHandle" ∧ y_Ma_making.cls ≠ "java/lang/invoke/VarHandle" ∧ (parseMethodDescriptor y_Ma_making.desc).map (fun d => d.parameters.length) = some 1 := by decide +kernel
def rm_Ma_making (mc ms : Nat) : Room := { frames := 5, cells := mc, slots := ms, locals := 150 }
theorem rm_Ma_making_Co_at {mc ms : Nat} : (rm_Co_at).frames + 1 ≤ (rm_Ma_making mc ms).frames ∧ 8 + (2 + 11) + (rm_Co_at).locals ≤ (rm_Ma_making mc ms).locals := by
  show 0 + 1 ≤ 5 ∧ 8 + (2 + 11) + 0 ≤ 150
  decide
theorem rm_Ma_making_Te_make {mc ms : Nat} : (rm_Te_make).frames + 1 ≤ (rm_Ma_making mc ms).frames ∧ 8 + (2 + 11) + (rm_Te_make).locals ≤ (rm_Ma_making mc ms).locals := by
  show 0 + 1 ≤ 5 ∧ 8 + (2 + 11) + 0 ≤ 150
  decide
theorem rm_Ma_making_Fr_push {mc ms : Nat} {mc2 ms2 : Nat} : (rm_Fr_push mc2 ms2).frames + 1 ≤ (rm_Ma_making mc ms).frames ∧ 8 + (3 + 11) + (rm_Fr_push mc2 ms2).locals ≤ (rm_Ma_making mc ms).locals := by
  show 2 + 1 ≤ 5 ∧ 8 + (3 + 11) + 82 ≤ 150
  decide
theorem rm_Ma_making_Ma_string {mc ms : Nat} {mc2 ms2 : Nat} : (rm_Ma_string mc2 ms2).frames + 1 ≤ (rm_Ma_making mc ms).frames ∧ 8 + (4 + 11) + (rm_Ma_string mc2 ms2).locals ≤ (rm_Ma_making mc ms).locals := by
  show 4 + 1 ≤ 5 ∧ 8 + (4 + 11) + 118 ≤ 150
  decide
theorem rm_Ma_making_Fr_termOf {mc ms : Nat} : (rm_Fr_termOf).frames + 1 ≤ (rm_Ma_making mc ms).frames ∧ 8 + (3 + 11) + (rm_Fr_termOf).locals ≤ (rm_Ma_making mc ms).locals := by
  show 0 + 1 ≤ 5 ∧ 8 + (3 + 11) + 0 ≤ 150
  decide
theorem rm_Ma_making_Ma_tuple {mc ms : Nat} {mc2 ms2 : Nat} : (rm_Ma_tuple mc2 ms2).frames + 1 ≤ (rm_Ma_making mc ms).frames ∧ 8 + (4 + 11) + (rm_Ma_tuple mc2 ms2).locals ≤ (rm_Ma_making mc ms).locals := by
  show 4 + 1 ≤ 5 ∧ 8 + (4 + 11) + 127 ≤ 150
  decide
theorem rm_Ma_making_Ma_list {mc ms : Nat} {mc2 ms2 : Nat} : (rm_Ma_list mc2 ms2).frames + 1 ≤ (rm_Ma_making mc ms).frames ∧ 8 + (4 + 11) + (rm_Ma_list mc2 ms2).locals ≤ (rm_Ma_making mc ms).locals := by
  show 4 + 1 ≤ 5 ∧ 8 + (4 + 11) + 127 ≤ 150
  decide
theorem rm_Ma_making_Ma_fun {mc ms : Nat} {mc2 ms2 : Nat} : (rm_Ma_fun mc2 ms2).frames + 1 ≤ (rm_Ma_making mc ms).frames ∧ 8 + (6 + 11) + (rm_Ma_fun mc2 ms2).locals ≤ (rm_Ma_making mc ms).locals := by
  show 4 + 1 ≤ 5 ∧ 8 + (6 + 11) + 118 ≤ 150
  decide
theorem rm_Ma_making_Ma_funOf {mc ms : Nat} {mc2 ms2 : Nat} : (rm_Ma_funOf mc2 ms2).frames + 1 ≤ (rm_Ma_making mc ms).frames ∧ 8 + (3 + 11) + (rm_Ma_funOf mc2 ms2).locals ≤ (rm_Ma_making mc ms).locals := by
  show 4 + 1 ≤ 5 ∧ 8 + (3 + 11) + 118 ≤ 150
  decide
def fb_Ma_making_166 (N : Nat) (G : Unit) (u : CS) : Option (CS × Unit) := some (u, ())
set_option maxRecDepth 100000 in
set_option maxHeartbeats 4000000 in
theorem wb_Ma_making_166 {p : Program} {l : Launch} {e : Env} {s : State} {m : MethodId} {args : Array Value} {below : List Frame} {meth : Method} {c : Code} {s0 : State} {b0 : Nat} {D : va_G} {cB cI cJ cZ cS cP : ClassId} {A : Nat → Prop} {sk sv : Nat → Nat} {uN uS mc ms : Nat} {ad0 : Nat → Nat} (C0 : XCx p s s0 b0 m args meth c R_Ma b_Ma_making 3 none D cB cI cJ cZ cS cP A) (hE : ENV s0 b0 sk sv) (N : Nat) (G : Unit) (hG : True) : ∀ (u : CS) (x : CS × Unit), fb_Ma_making_166 N G u = some x → (uN + mc = x.1.1.1 ∧ uS + ms = x.1.1.2) → ∀ (ad : Nat → Nat) (ce sl : Nat), AB uN uS ad0 u ad ce sl → ∀ (H : Heap) (locs : List Loc), va_P D cls (wC cB cI cJ cZ cS cP ad u) H → va_D A (wC cB cI cJ cZ cS cP ad u) → va_S A s.heap H locs → ∀ (ls : Array Slot), lv_has ls 3 [] → W p l e (rm_Ma_making mc ms) s m args below meth c H locs ce sl (MQ below (xQ D cB cI cJ cZ cS cP A ad0 uN x.1 none) args s mc ms A) (F0 m 166 ls []) := by
  intro u x hf hm ad ce sl hB H locs hP hD hS ls hl
  obtain ⟨hx, hb, hr, hml, ht, hown, hK, hA, hlocks, hA0, hO, hbs⟩ := id C0
  unfold fb_Ma_making_166 at hf
  exact yr_v C0 hP hD hS hB hm hf d_Ma_making_166
def fb_Ma_making_0 (N : Nat) (G : Unit) (u : CS) (v0 : Nat) (v1 : Int32) : Option (CS × Unit) := bo (gR u v0 5 0) (fun r1 => bo (gI u v0 5 5) (fun r2 => bo r1 (fun j4 => ck (isO u j4 2) (bx (gz u (fm_Co_at N u j4 (r2 + 1))) (fun u3 r3 => gw u3 (br (decide (v1 = 1)) (bo (gR u3 v0 5 4) (fun r5 => bo (gR u3 v0 5 0) (fun r6 => bo (gI u3 v0 5 5) (fun r7 => bo r6 (fun j9 => ck (isO u3 j9 2) (bx (gz u3 (fm_Co_at N u3 j9 (r7 + 2))) (fun u8 r8 => gw u8 (bx (gz u8 (fm_Te_make N u8 r3 r8)) (fun u10 r10 => gw u10 (bo r5 (fun j12 => ck (isO u10 j12 4) (ck (List.all [some v0] (okR u10.1.1)) (bx (gw u10 (fm_Fr_push N u10 j12 r10)) (fun u11 r11 => gw u11 (bo (gI u11 v0 5 5) (fun r13 => bo (pF u11 v0 5 5 (.inl (r13 + 3))) (fun w14 => fb_Ma_making_166 N G w14))))))))))))))))) (br (decide (v1 = 2)) (ck (isO u3 v0 5) (ck (List.all [some v0] (okR u3.1.1)) (bx (gw u3 (fm_Ma_string N u3 v0 r3)) (fun u15 r15 => gw u15 (fb_Ma_making_166 N G u15))))) (br (decide (v1 = 3)) (bo (gR u3 v0 5 4) (fun r16 => bo (gR u3 v0 5 4) (fun r17 => bo r17 (fun j19 => ck (isO u3 j19 4) (bx (gz u3 (fm_Fr_termOf N u3 j19 r3)) (fun u18 r18 => gw u18 (bo r16 (fun j21 => ck (isO u18 j21 4) (ck (List.all [some v0] (okR u18.1.1)) (bx (gw u18 (fm_Fr_push N u18 j21 r18)) (fun u20 r20 => gw u20 (bo (gI u20 v0 5 5) (fun r22 => bo (pF u20 v0 5 5 (.inl (r22 + 2))) (fun w23 => fb_Ma_making_166 N G w23)))))))))))))) (br (decide (v1 = 4)) (ck (isO u3 v0 5) (ck (List.all [some v0] (okR u3.1.1)) (bx (gw u3 (fm_Ma_tuple N u3 v0 r3)) (fun u24 r24 => gw u24 (fb_Ma_making_166 N G u24))))) (br (decide (v1 = 5)) (ck (isO u3 v0 5) (ck (List.all [some v0] (okR u3.1.1)) (bx (gw u3 (fm_Ma_list N u3 v0 r3)) (fun u25 r25 => gw u25 (fb_Ma_making_166 N G u25))))) (br (decide (v1 = 6)) (ck (isO u3 v0 5) (ck (List.all [some v0] (okR u3.1.1)) (bx (gw u3 (fm_Ma_fun N u3 v0 r3)) (fun u26 r26 => gw u26 (fb_Ma_making_166 N G u26))))) (br (decide (v1 = 7)) (ck (isO u3 v0 5) (ck (List.all [some v0] (okR u3.1.1)) (bx (gw u3 (fm_Ma_funOf N u3 v0 r3)) (fun u27 r27 => gw u27 (fb_Ma_making_166 N G u27))))) (bo (pF u3 v0 5 8 (.inl 1)) (fun w28 => fb_Ma_making_166 N G w28))))))))))))))
set_option maxRecDepth 100000 in
set_option maxHeartbeats 4000000 in
theorem wb_Ma_making_0 {p : Program} {l : Launch} {e : Env} {s : State} {m : MethodId} {args : Array Value} {below : List Frame} {meth : Method} {c : Code} {s0 : State} {b0 : Nat} {D : va_G} {cB cI cJ cZ cS cP : ClassId} {A : Nat → Prop} {sk sv : Nat → Nat} {uN uS mc ms : Nat} {ad0 : Nat → Nat} (C0 : XCx p s s0 b0 m args meth c R_Ma b_Ma_making 3 none D cB cI cJ cZ cS cP A) (hE : ENV s0 b0 sk sv) (N : Nat) (G : Unit) (hG : True) : ∀ (u : CS) (v0 : Nat) (v1 : Int32) (x : CS × Unit), fb_Ma_making_0 N G u v0 v1 = some x → (uN + mc = x.1.1.1 ∧ uS + ms = x.1.1.2) → ∀ (ad : Nat → Nat) (ce sl : Nat), AB uN uS ad0 u ad ce sl → ∀ (H : Heap) (locs : List Loc), va_P D cls (wC cB cI cJ cZ cS cP ad u) H → va_D A (wC cB cI cJ cZ cS cP ad u) → va_S A s.heap H locs → ∀ (ls : Array Slot), lv_has ls 3 [(0, .ref (ad v0)), (1, .int v1)] → W p l e (rm_Ma_making mc ms) s m args below meth c H locs ce sl (MQ below (xQ D cB cI cJ cZ cS cP A ad0 uN x.1 none) args s mc ms A) (F0 m 0 ls []) := by
  intro u v0 v1 x hf hm ad ce sl hB H locs hP hD hS ls hl
  obtain ⟨hx, hb, hr, hml, ht, hown, hK, hA, hlocks, hA0, hO, hbs⟩ := id C0
  unfold fb_Ma_making_0 at hf
  refine lv_aload_n hx hb d_Ma_making_0 rfl (lv_at hl 0 rfl) ?_
  obtain ⟨r1, g1, hf⟩ := bo_some hf
  refine xg_R (i := v0) (k := 0) hx hb ht hown ck_Ma hK hP (by decide) fk_Ma_9 g1 d_Ma_making_1 ?_
  refine lv_aload_n hx hb d_Ma_making_4 rfl (lv_at hl 0 rfl) ?_
  obtain ⟨r2, g2, hf⟩ := bo_some hf
  refine xg_I (i := v0) (k := 5) hx hb ht hown ck_Ma hK hP (by decide) fk_Ma_40 g2 d_Ma_making_5 ?_
  refine lv_iconst (v := 1) hx hb d_Ma_making_8 (by decide) ?_
  refine lv_iadd hx hb d_Ma_making_9 ?_
  obtain ⟨j4, ej4, hf⟩ := bo_some hf
  rw [ej4]
  obtain ⟨hO9, hf⟩ := ck_some hf
  obtain ⟨u3, r3, hc3, hf⟩ := bx_some hf
  obtain ⟨hc3, hz3⟩ := gz_some hc3
  obtain ⟨hf, hw3⟩ := gw_some hf
  refine xV0 (i := j4) (As := [.int (r2 + 1)]) (rest := []) C0 hP hD hS ck_Co hO9 (c_Co_at N hc3) k_Co_at (wd_of 1644 (by decide +kernel) rfl) hi_Co_at hs_Co_at hini_Co rfl rfl hd_Co_at rfl rm_Ma_making_Co_at hl.1 (Nat.le_of_ble_eq_true rfl) d_Ma_making_10 rfl (hB.fit hm hz3 hw3) (fun H locs hP hD hS => ?_)
  have hB := hB.same2 hz3
  refine lv_istore_n (lv' := [(2, .int r3), (0, .ref (ad v0)), (1, .int v1)]) hx hb d_Ma_making_13 rfl hl (by decide) (by first | rfl | simp [List.filter, cat_rf]) (fun ls hl => ?_)
  refine lv_iload_n hx hb d_Ma_making_14 rfl (lv_at hl 2 rfl) ?_
  by_cases hc1 : v1 = 1
  · rw [br_p _ hc1] at hf
    refine lv_tableIn (tgt := 56) hx hb d_Ma_making_15 (by rw [hc1]; decide) (by rw [hc1]; decide) (by rw [hc1]; rfl) (by decide) ?_
    refine lv_aload_n hx hb d_Ma_making_56 rfl (lv_at hl 1 rfl) ?_
    obtain ⟨r5, g5, hf⟩ := bo_some hf
    refine xg_R (i := v0) (k := 4) hx hb ht hown ck_Ma hK hP (by decide) fk_Ma_33 g5 d_Ma_making_57 ?_
    refine lv_iload_n hx hb d_Ma_making_60 rfl (lv_at hl 0 rfl) ?_
    refine lv_aload_n hx hb d_Ma_making_61 rfl (lv_at hl 1 rfl) ?_
    obtain ⟨r6, g6, hf⟩ := bo_some hf
    refine xg_R (i := v0) (k := 0) hx hb ht hown ck_Ma hK hP (by decide) fk_Ma_9 g6 d_Ma_making_62 ?_
    refine lv_aload_n hx hb d_Ma_making_65 rfl (lv_at hl 1 rfl) ?_
    obtain ⟨r7, g7, hf⟩ := bo_some hf
    refine xg_I (i := v0) (k := 5) hx hb ht hown ck_Ma hK hP (by decide) fk_Ma_40 g7 d_Ma_making_66 ?_
    refine lv_iconst (v := 2) hx hb d_Ma_making_69 (by decide) ?_
    refine lv_iadd hx hb d_Ma_making_70 ?_
    obtain ⟨j9, ej9, hf⟩ := bo_some hf
    rw [ej9]
    obtain ⟨hO9, hf⟩ := ck_some hf
    obtain ⟨u8, r8, hc8, hf⟩ := bx_some hf
    obtain ⟨hc8, hz8⟩ := gz_some hc8
    obtain ⟨hf, hw8⟩ := gw_some hf
    refine xV0 (i := j9) (As := [.int (r7 + 2)]) (rest := [.int r3, va_rf (Option.map ad r5)]) C0 hP hD hS ck_Co hO9 (c_Co_at N hc8) k_Co_at (wd_of 1644 (by decide +kernel) rfl) hi_Co_at hs_Co_at hini_Co rfl rfl hd_Co_at rfl rm_Ma_making_Co_at hl.1 (c8 (Nat.le_of_ble_eq_true rfl)) d_Ma_making_71 rfl (hB.fit hm hz8 hw8) (fun H locs hP hD hS => ?_)
    have hB := hB.same2 hz8
    obtain ⟨u10, r10, hc10, hf⟩ := bx_some hf
    obtain ⟨hc10, hz10⟩ := gz_some hc10
    obtain ⟨hf, hw10⟩ := gw_some hf
    refine xS0 (As := [.int r3, .int r8]) (rest := [va_rf (Option.map ad r5)]) C0 hP hD hS (c_Te_make N hc10) k_Te_make (wd_of 1671 (by decide +kernel) rfl) ht_Te_make hini_Te rfl rfl hd_Te_make rfl rm_Ma_making_Te_make hl.1 (c8 (Nat.le_of_ble_eq_true rfl)) d_Ma_making_74 rfl (hB.fit hm hz10 hw10) (fun H locs hP hD hS => ?_)
    have hB := hB.same2 hz10
    obtain ⟨j12, ej12, hf⟩ := bo_some hf
    rw [ej12]
    obtain ⟨hO9, hf⟩ := ck_some hf
    obtain ⟨hk11, hf⟩ := ck_some hf
    obtain ⟨u11, r11, hc11, hf⟩ := bx_some hf
    obtain ⟨hc11, hq11⟩ := gw_some hc11
    obtain ⟨hf, hw11⟩ := gw_some hf
    refine yV (i := j12) (As := [.long r10]) (rest := []) C0 hP hD hS ck_Fr hO9 (c_Fr_push N hE hc11 (gm hq11)) k_Fr_push (wd_of 1753 (by decide +kernel) rfl) hi_Fr_push hs_Fr_push hini_Fr rfl rfl hd_Fr_push rfl rm_Ma_making_Fr_push hl.1 (Nat.le_of_ble_eq_true rfl) d_Ma_making_77 rfl (gm hq11) hB hm hw11 (fun ad11 H locs ce sl hg11 hB hP hD hS => ?_)
    have q11_0 : ad11 v0 = ad v0 := ko_O (k := 0) hk11 rfl hg11
    have hl : lv_has ls 3 [(2, .int r3), (0, .ref (ad11 v0)), (1, .int v1)] := by simp only [q11_0]; exact hl
    refine lv_aload_n hx hb d_Ma_making_80 rfl (lv_at hl 1 rfl) ?_
    refine lv_dup hx hb d_Ma_making_81 rfl ?_
    obtain ⟨r13, g13, hf⟩ := bo_some hf
    refine xg_I (i := v0) (k := 5) hx hb ht hown ck_Ma hK hP (by decide) fk_Ma_40 g13 d_Ma_making_82 ?_
    refine lv_iconst (v := 3) hx hb d_Ma_making_85 (by decide) ?_
    refine lv_iadd hx hb d_Ma_making_86 ?_
    obtain ⟨w14, g14, hf⟩ := bo_some hf
    refine xp (i := v0) (k := 5) (v := (.inl (r13 + 3))) hx hb ht hown ck_Ma hK hP hD hS (by decide) fk_Ma_40 rfl g14 rfl rfl d_Ma_making_87 (fun H locs hP hD hS => ?_)
    have hB := hB.same (pF_c g14)
    refine lv_goto (tgt := 166) hx hb d_Ma_making_90 (by decide) ?_
    exact wb_Ma_making_166 C0 hE N G hG _ _ hf hm _ _ _ hB H locs hP hD hS ls (lv_sub hl [] rfl)
  · rw [br_n _ hc1] at hf
    by_cases hc2 : v1 = 2
    · rw [br_p _ hc2] at hf
      refine lv_tableIn (tgt := 93) hx hb d_Ma_making_15 (by rw [hc2]; decide) (by rw [hc2]; decide) (by rw [hc2]; rfl) (by decide) ?_
      refine lv_aload_n hx hb d_Ma_making_93 rfl (lv_at hl 1 rfl) ?_
      refine lv_iload_n hx hb d_Ma_making_94 rfl (lv_at hl 0 rfl) ?_
      obtain ⟨hO9, hf⟩ := ck_some hf
      obtain ⟨hk15, hf⟩ := ck_some hf
      obtain ⟨u15, r15, hc15, hf⟩ := bx_some hf
      obtain ⟨hc15, hq15⟩ := gw_some hc15
      obtain ⟨hf, hw15⟩ := gw_some hf
      refine yV (i := v0) (As := [.int r3]) (rest := []) C0 hP hD hS ck_Ma hO9 (c_Ma_string N hE hc15 (gm hq15)) k_Ma_string (wd_of 1849 (by decide +kernel) rfl) hi_Ma_string hs_Ma_string hini_Ma rfl rfl hd_Ma_string rfl rm_Ma_making_Ma_string hl.1 (Nat.le_of_ble_eq_true rfl) d_Ma_making_95 rfl (gm hq15) hB hm hw15 (fun ad15 H locs ce sl hg15 hB hP hD hS => ?_)
      have q15_0 : ad15 v0 = ad v0 := ko_O (k := 0) hk15 rfl hg15
      have hl : lv_has ls 3 [(2, .int r3), (0, .ref (ad15 v0)), (1, .int v1)] := by simp only [q15_0]; exact hl
      refine lv_goto (tgt := 166) hx hb d_Ma_making_98 (by decide) ?_
      exact wb_Ma_making_166 C0 hE N G hG _ _ hf hm _ _ _ hB H locs hP hD hS ls (lv_sub hl [] rfl)
    · rw [br_n _ hc2] at hf
      by_cases hc3 : v1 = 3
      · rw [br_p _ hc3] at hf
        refine lv_tableIn (tgt := 101) hx hb d_Ma_making_15 (by rw [hc3]; decide) (by rw [hc3]; decide) (by rw [hc3]; rfl) (by decide) ?_
        refine lv_aload_n hx hb d_Ma_making_101 rfl (lv_at hl 1 rfl) ?_
        obtain ⟨r16, g16, hf⟩ := bo_some hf
        refine xg_R (i := v0) (k := 4) hx hb ht hown ck_Ma hK hP (by decide) fk_Ma_33 g16 d_Ma_making_102 ?_
        refine lv_aload_n hx hb d_Ma_making_105 rfl (lv_at hl 1 rfl) ?_
        obtain ⟨r17, g17, hf⟩ := bo_some hf
        refine xg_R (i := v0) (k := 4) hx hb ht hown ck_Ma hK hP (by decide) fk_Ma_33 g17 d_Ma_making_106 ?_
        refine lv_iload_n hx hb d_Ma_making_109 rfl (lv_at hl 0 rfl) ?_
        obtain ⟨j19, ej19, hf⟩ := bo_some hf
        rw [ej19]
        obtain ⟨hO9, hf⟩ := ck_some hf
        obtain ⟨u18, r18, hc18, hf⟩ := bx_some hf
        obtain ⟨hc18, hz18⟩ := gz_some hc18
        obtain ⟨hf, hw18⟩ := gw_some hf
        refine xV0 (i := j19) (As := [.int r3]) (rest := [va_rf (Option.map ad r16)]) C0 hP hD hS ck_Fr hO9 (c_Fr_termOf N hc18) k_Fr_termOf (wd_of 1861 (by decide +kernel) rfl) hi_Fr_termOf hs_Fr_termOf hini_Fr rfl rfl hd_Fr_termOf rfl rm_Ma_making_Fr_termOf hl.1 (c8 (Nat.le_of_ble_eq_true rfl)) d_Ma_making_110 rfl (hB.fit hm hz18 hw18) (fun H locs hP hD hS => ?_)
        have hB := hB.same2 hz18
        obtain ⟨j21, ej21, hf⟩ := bo_some hf
        rw [ej21]
        obtain ⟨hO9, hf⟩ := ck_some hf
        obtain ⟨hk20, hf⟩ := ck_some hf
        obtain ⟨u20, r20, hc20, hf⟩ := bx_some hf
        obtain ⟨hc20, hq20⟩ := gw_some hc20
        obtain ⟨hf, hw20⟩ := gw_some hf
        refine yV (i := j21) (As := [.long r18]) (rest := []) C0 hP hD hS ck_Fr hO9 (c_Fr_push N hE hc20 (gm hq20)) k_Fr_push (wd_of 1753 (by decide +kernel) rfl) hi_Fr_push hs_Fr_push hini_Fr rfl rfl hd_Fr_push rfl rm_Ma_making_Fr_push hl.1 (Nat.le_of_ble_eq_true rfl) d_Ma_making_113 rfl (gm hq20) hB hm hw20 (fun ad20 H locs ce sl hg20 hB hP hD hS => ?_)
        have q20_0 : ad20 v0 = ad v0 := ko_O (k := 0) hk20 rfl hg20
        have hl : lv_has ls 3 [(2, .int r3), (0, .ref (ad20 v0)), (1, .int v1)] := by simp only [q20_0]; exact hl
        refine lv_aload_n hx hb d_Ma_making_116 rfl (lv_at hl 1 rfl) ?_
        refine lv_dup hx hb d_Ma_making_117 rfl ?_
        obtain ⟨r22, g22, hf⟩ := bo_some hf
        refine xg_I (i := v0) (k := 5) hx hb ht hown ck_Ma hK hP (by decide) fk_Ma_40 g22 d_Ma_making_118 ?_
        refine lv_iconst (v := 2) hx hb d_Ma_making_121 (by decide) ?_
        refine lv_iadd hx hb d_Ma_making_122 ?_
        obtain ⟨w23, g23, hf⟩ := bo_some hf
        refine xp (i := v0) (k := 5) (v := (.inl (r22 + 2))) hx hb ht hown ck_Ma hK hP hD hS (by decide) fk_Ma_40 rfl g23 rfl rfl d_Ma_making_123 (fun H locs hP hD hS => ?_)
        have hB := hB.same (pF_c g23)
        refine lv_goto (tgt := 166) hx hb d_Ma_making_126 (by decide) ?_
        exact wb_Ma_making_166 C0 hE N G hG _ _ hf hm _ _ _ hB H locs hP hD hS ls (lv_sub hl [] rfl)
      · rw [br_n _ hc3] at hf
        by_cases hc4 : v1 = 4
        · rw [br_p _ hc4] at hf
          refine lv_tableIn (tgt := 129) hx hb d_Ma_making_15 (by rw [hc4]; decide) (by rw [hc4]; decide) (by rw [hc4]; rfl) (by decide) ?_
          refine lv_aload_n hx hb d_Ma_making_129 rfl (lv_at hl 1 rfl) ?_
          refine lv_iload_n hx hb d_Ma_making_130 rfl (lv_at hl 0 rfl) ?_
          obtain ⟨hO9, hf⟩ := ck_some hf
          obtain ⟨hk24, hf⟩ := ck_some hf
          obtain ⟨u24, r24, hc24, hf⟩ := bx_some hf
          obtain ⟨hc24, hq24⟩ := gw_some hc24
          obtain ⟨hf, hw24⟩ := gw_some hf
          refine yV (i := v0) (As := [.int r3]) (rest := []) C0 hP hD hS ck_Ma hO9 (c_Ma_tuple N hE hc24 (gm hq24)) k_Ma_tuple (wd_of 1865 (by decide +kernel) rfl) hi_Ma_tuple hs_Ma_tuple hini_Ma rfl rfl hd_Ma_tuple rfl rm_Ma_making_Ma_tuple hl.1 (Nat.le_of_ble_eq_true rfl) d_Ma_making_131 rfl (gm hq24) hB hm hw24 (fun ad24 H locs ce sl hg24 hB hP hD hS => ?_)
          have q24_0 : ad24 v0 = ad v0 := ko_O (k := 0) hk24 rfl hg24
          have hl : lv_has ls 3 [(2, .int r3), (0, .ref (ad24 v0)), (1, .int v1)] := by simp only [q24_0]; exact hl
          refine lv_goto (tgt := 166) hx hb d_Ma_making_134 (by decide) ?_
          exact wb_Ma_making_166 C0 hE N G hG _ _ hf hm _ _ _ hB H locs hP hD hS ls (lv_sub hl [] rfl)
        · rw [br_n _ hc4] at hf
          by_cases hc5 : v1 = 5
          · rw [br_p _ hc5] at hf
            refine lv_tableIn (tgt := 137) hx hb d_Ma_making_15 (by rw [hc5]; decide) (by rw [hc5]; decide) (by rw [hc5]; rfl) (by decide) ?_
            refine lv_aload_n hx hb d_Ma_making_137 rfl (lv_at hl 1 rfl) ?_
            refine lv_iload_n hx hb d_Ma_making_138 rfl (lv_at hl 0 rfl) ?_
            obtain ⟨hO9, hf⟩ := ck_some hf
            obtain ⟨hk25, hf⟩ := ck_some hf
            obtain ⟨u25, r25, hc25, hf⟩ := bx_some hf
            obtain ⟨hc25, hq25⟩ := gw_some hc25
            obtain ⟨hf, hw25⟩ := gw_some hf
            refine yV (i := v0) (As := [.int r3]) (rest := []) C0 hP hD hS ck_Ma hO9 (c_Ma_list N hE hc25 (gm hq25)) k_Ma_list (wd_of 1873 (by decide +kernel) rfl) hi_Ma_list hs_Ma_list hini_Ma rfl rfl hd_Ma_list rfl rm_Ma_making_Ma_list hl.1 (Nat.le_of_ble_eq_true rfl) d_Ma_making_139 rfl (gm hq25) hB hm hw25 (fun ad25 H locs ce sl hg25 hB hP hD hS => ?_)
            have q25_0 : ad25 v0 = ad v0 := ko_O (k := 0) hk25 rfl hg25
            have hl : lv_has ls 3 [(2, .int r3), (0, .ref (ad25 v0)), (1, .int v1)] := by simp only [q25_0]; exact hl
            refine lv_goto (tgt := 166) hx hb d_Ma_making_142 (by decide) ?_
            exact wb_Ma_making_166 C0 hE N G hG _ _ hf hm _ _ _ hB H locs hP hD hS ls (lv_sub hl [] rfl)
          · rw [br_n _ hc5] at hf
            by_cases hc6 : v1 = 6
            · rw [br_p _ hc6] at hf
              refine lv_tableIn (tgt := 145) hx hb d_Ma_making_15 (by rw [hc6]; decide) (by rw [hc6]; decide) (by rw [hc6]; rfl) (by decide) ?_
              refine lv_aload_n hx hb d_Ma_making_145 rfl (lv_at hl 1 rfl) ?_
              refine lv_iload_n hx hb d_Ma_making_146 rfl (lv_at hl 0 rfl) ?_
              obtain ⟨hO9, hf⟩ := ck_some hf
              obtain ⟨hk26, hf⟩ := ck_some hf
              obtain ⟨u26, r26, hc26, hf⟩ := bx_some hf
              obtain ⟨hc26, hq26⟩ := gw_some hc26
              obtain ⟨hf, hw26⟩ := gw_some hf
              refine yV (i := v0) (As := [.int r3]) (rest := []) C0 hP hD hS ck_Ma hO9 (c_Ma_fun N hE hc26 (gm hq26)) k_Ma_fun (wd_of 1877 (by decide +kernel) rfl) hi_Ma_fun hs_Ma_fun hini_Ma rfl rfl hd_Ma_fun rfl rm_Ma_making_Ma_fun hl.1 (Nat.le_of_ble_eq_true rfl) d_Ma_making_147 rfl (gm hq26) hB hm hw26 (fun ad26 H locs ce sl hg26 hB hP hD hS => ?_)
              have q26_0 : ad26 v0 = ad v0 := ko_O (k := 0) hk26 rfl hg26
              have hl : lv_has ls 3 [(2, .int r3), (0, .ref (ad26 v0)), (1, .int v1)] := by simp only [q26_0]; exact hl
              refine lv_goto (tgt := 166) hx hb d_Ma_making_150 (by decide) ?_
              exact wb_Ma_making_166 C0 hE N G hG _ _ hf hm _ _ _ hB H locs hP hD hS ls (lv_sub hl [] rfl)
            · rw [br_n _ hc6] at hf
              by_cases hc7 : v1 = 7
              · rw [br_p _ hc7] at hf
                refine lv_tableIn (tgt := 153) hx hb d_Ma_making_15 (by rw [hc7]; decide) (by rw [hc7]; decide) (by rw [hc7]; rfl) (by decide) ?_
                refine lv_aload_n hx hb d_Ma_making_153 rfl (lv_at hl 1 rfl) ?_
                refine lv_iload_n hx hb d_Ma_making_154 rfl (lv_at hl 0 rfl) ?_
                obtain ⟨hO9, hf⟩ := ck_some hf
                obtain ⟨hk27, hf⟩ := ck_some hf
                obtain ⟨u27, r27, hc27, hf⟩ := bx_some hf
                obtain ⟨hc27, hq27⟩ := gw_some hc27
                obtain ⟨hf, hw27⟩ := gw_some hf
                refine yV (i := v0) (As := [.int r3]) (rest := []) C0 hP hD hS ck_Ma hO9 (c_Ma_funOf N hE hc27 (gm hq27)) k_Ma_funOf (wd_of 1881 (by decide +kernel) rfl) hi_Ma_funOf hs_Ma_funOf hini_Ma rfl rfl hd_Ma_funOf rfl rm_Ma_making_Ma_funOf hl.1 (Nat.le_of_ble_eq_true rfl) d_Ma_making_155 rfl (gm hq27) hB hm hw27 (fun ad27 H locs ce sl hg27 hB hP hD hS => ?_)
                have q27_0 : ad27 v0 = ad v0 := ko_O (k := 0) hk27 rfl hg27
                have hl : lv_has ls 3 [(2, .int r3), (0, .ref (ad27 v0)), (1, .int v1)] := by simp only [q27_0]; exact hl
                refine lv_goto (tgt := 166) hx hb d_Ma_making_158 (by decide) ?_
                exact wb_Ma_making_166 C0 hE N G hG _ _ hf hm _ _ _ hB H locs hP hD hS ls (lv_sub hl [] rfl)
              · rw [br_n _ hc7] at hf
                refine lv_tableOut (tgt := 161) hx hb d_Ma_making_15 (by have z0 := tiN hc1; have z1 := tiN hc2; have z2 := tiN hc3; have z3 := tiN hc4; have z4 := tiN hc5; have z5 := tiN hc6; have z6 := tiN hc7; rw [show (1 : Int32).toInt = 1 from by decide] at z0; rw [show (2 : Int32).toInt = 2 from by decide] at z1; rw [show (3 : Int32).toInt = 3 from by decide] at z2; rw [show (4 : Int32).toInt = 4 from by decide] at z3; rw [show (5 : Int32).toInt = 5 from by decide] at z4; rw [show (6 : Int32).toInt = 6 from by decide] at z5; rw [show (7 : Int32).toInt = 7 from by decide] at z6; omega) (by decide) ?_
                refine lv_aload_n hx hb d_Ma_making_161 rfl (lv_at hl 1 rfl) ?_
                refine lv_iconst (v := 1) hx hb d_Ma_making_162 (by decide) ?_
                obtain ⟨w28, g28, hf⟩ := bo_some hf
                refine xp (i := v0) (k := 8) (v := (.inl 1)) hx hb ht hown ck_Ma hK hP hD hS (by decide) fk_Ma_50 rfl g28 rfl rfl d_Ma_making_163 (fun H locs hP hD hS => ?_)
                have hB := hB.same (pF_c g28)
                exact wb_Ma_making_166 C0 hE N G hG _ _ hf hm _ _ _ hB H locs hP hD hS ls (lv_sub hl [] rfl)
def fm_Ma_making (N : Nat) (u : CS) (v0 : Nat) (v1 : Int32) : Option (CS × Unit) := fb_Ma_making_0 N () u v0 v1
set_option maxRecDepth 100000 in
set_option maxHeartbeats 4000000 in
theorem c_Ma_making (N : Nat) {l : Launch} {s0 : State} {b0 : Nat} {D : va_G} {cB cI cJ cZ cS cP : ClassId} {sk sv : Nat → Nat} {ad : Nat → Nat} {u : CS} {sz mc ms : Nat} {v0 : Nat} {v1 : Int32} {x : CS × Unit} (hE : ENV s0 b0 sk sv) (hf : fm_Ma_making N u v0 v1 = some x) (hm : u.1.1 + mc = x.1.1.1 ∧ u.1.2 + ms = x.1.1.2) : Met l y_Ma_making (wd_ws y_Ma_making b_Ma_making 3 none) (rm_Ma_making mc ms) (xPc s0 b0 D cB cI cJ cZ cS cP ad u sz [.ref (ad v0), .int v1]) (xQ D cB cI cJ cZ cS cP (xA cB cI cJ cZ cS cP ad u sz) ad u.1.1 x.1 none) mc ms (xA cB cI cJ cZ cS cP ad u sz) :=
  xMet (by decide) rfl (Nat.le_of_ble_eq_true rfl) (fun p e s m below meth c ls hsz hnm C0 hP hD hS hl =>
    wb_Ma_making_0 C0 hE N () trivial u _ _ x hf hm ad 0 0 ⟨rfl, rfl, fun _ _ => rfl⟩ s.heap [] hP hD hS ls (lv_sub hl [0, 1] rfl))
abbrev b_Te_orderAlone : ByteArray := prog_8_method_8_code
def y_Te_orderAlone : MethodName := ⟨R_Te, "orderAlone", "([JJJ)I"⟩
def w_Te_orderAlone : List Cond := wd_ws y_Te_orderAlone b_Te_orderAlone 9 (some .int)
set_option maxRecDepth 100000 in
theorem k_Te_orderAlone : Cond.code y_Te_orderAlone b_Te_orderAlone 9 (some .int) ∈ wd_tbl := wd_of 1896 rfl rfl
theorem d_Te_orderAlone_0 : decode b_Te_orderAlone 0 = .ok (.lload_n 2, 1) := by decide +kernel
theorem d_Te_orderAlone_1 : decode b_Te_orderAlone 1 = .ok (.invokestatic 40, 3) := by decide +kernel
theorem d_Te_orderAlone_4 : decode b_Te_orderAlone 4 = .ok (.istore 6, 2) := by decide +kernel
theorem d_Te_orderAlone_6 : decode b_Te_orderAlone 6 = .ok (.iload 6, 2) := by decide +kernel
theorem d_Te_orderAlone_8 : decode b_Te_orderAlone 8 = .ok (.lload 4, 2) := by decide +kernel
theorem d_Te_orderAlone_10 : decode b_Te_orderAlone 10 = .ok (.invokestatic 40, 3) := by decide +kernel
theorem d_Te_orderAlone_13 : decode b_Te_orderAlone 13 = .ok (.if_icmp .eq 12, 3) := by decide +kernel
theorem d_Te_orderAlone_16 : decode b_Te_orderAlone 16 = .ok (.iload 6, 2) := by decide +kernel
theorem d_Te_orderAlone_18 : decode b_Te_orderAlone 18 = .ok (.lload 4, 2) := by decide +kernel
theorem d_Te_orderAlone_20 : decode b_Te_orderAlone 20 = .ok (.invokestatic 40, 3) := by decide +kernel
theorem d_Te_orderAlone_23 : decode b_Te_orderAlone 23 = .ok (.isub, 1) := by decide +kernel
theorem d_Te_orderAlone_24 : decode b_Te_orderAlone 24 = .ok (.ireturn, 1) := by decide +kernel
theorem d_Te_orderAlone_25 : decode b_Te_orderAlone 25 = .ok (.lload_n 2, 1) := by decide +kernel
theorem d_Te_orderAlone_26 : decode b_Te_orderAlone 26 = .ok (.l2i, 1) := by decide +kernel
theorem d_Te_orderAlone_27 : decode b_Te_orderAlone 27 = .ok (.istore 7, 2) := by decide +kernel
theorem d_Te_orderAlone_29 : decode b_Te_orderAlone 29 = .ok (.lload 4, 2) := by decide +kernel
theorem d_Te_orderAlone_31 : decode b_Te_orderAlone 31 = .ok (.l2i, 1) := by decide +kernel
theorem d_Te_orderAlone_32 : decode b_Te_orderAlone 32 = .ok (.istore 8, 2) := by decide +kernel
theorem d_Te_orderAlone_34 : decode b_Te_orderAlone 34 = .ok (.iload 6, 2) := by decide +kernel
theorem d_Te_orderAlone_36 : decode b_Te_orderAlone 36 = .ok (.iconst 1, 1) := by decide +kernel
theorem d_Te_orderAlone_37 : decode b_Te_orderAlone 37 = .ok (.if_icmp .ne 26, 3) := by decide +kernel
theorem d_Te_orderAlone_40 : decode b_Te_orderAlone 40 = .ok (.iload 7, 2) := by decide +kernel
theorem d_Te_orderAlone_42 : decode b_Te_orderAlone 42 = .ok (.iload 8, 2) := by decide +kernel
theorem d_Te_orderAlone_44 : decode b_Te_orderAlone 44 = .ok (.if_icmp .ne 7, 3) := by decide +kernel
theorem d_Te_orderAlone_47 : decode b_Te_orderAlone 47 = .ok (.iconst 0, 1) := by decide +kernel
theorem d_Te_orderAlone_48 : decode b_Te_orderAlone 48 = .ok (.goto 14, 3) := by decide +kernel
theorem d_Te_orderAlone_51 : decode b_Te_orderAlone 51 = .ok (.aload_n 0, 1) := by decide +kernel
theorem d_Te_orderAlone_52 : decode b_Te_orderAlone 52 = .ok (.getfield 21, 3) := by decide +kernel
theorem d_Te_orderAlone_55 : decode b_Te_orderAlone 55 = .ok (.iload 7, 2) := by decide +kernel
theorem d_Te_orderAlone_57 : decode b_Te_orderAlone 57 = .ok (.iload 8, 2) := by decide +kernel
theorem d_Te_orderAlone_59 : decode b_Te_orderAlone 59 = .ok (.invokevirtual 44, 3) := by decide +kernel
theorem d_Te_orderAlone_62 : decode b_Te_orderAlone 62 = .ok (.ireturn, 1) := by decide +kernel
theorem d_Te_orderAlone_63 : decode b_Te_orderAlone 63 = .ok (.iload 6, 2) := by decide +kernel
theorem d_Te_orderAlone_65 : decode b_Te_orderAlone 65 = .ok (.iconst 5, 1) := by decide +kernel
theorem d_Te_orderAlone_66 : decode b_Te_orderAlone 66 = .ok (.if_icmp .eq 9, 3) := by decide +kernel
theorem d_Te_orderAlone_69 : decode b_Te_orderAlone 69 = .ok (.iload 6, 2) := by decide +kernel
theorem d_Te_orderAlone_71 : decode b_Te_orderAlone 71 = .ok (.iconst 3, 1) := by decide +kernel
theorem d_Te_orderAlone_72 : decode b_Te_orderAlone 72 = .ok (.if_icmp .ne 17, 3) := by decide +kernel
theorem d_Te_orderAlone_75 : decode b_Te_orderAlone 75 = .ok (.aload_n 1, 1) := by decide +kernel
theorem d_Te_orderAlone_76 : decode b_Te_orderAlone 76 = .ok (.iload 7, 2) := by decide +kernel
theorem d_Te_orderAlone_78 : decode b_Te_orderAlone 78 = .ok (.laload, 1) := by decide +kernel
theorem d_Te_orderAlone_79 : decode b_Te_orderAlone 79 = .ok (.l2i, 1) := by decide +kernel
theorem d_Te_orderAlone_80 : decode b_Te_orderAlone 80 = .ok (.aload_n 1, 1) := by decide +kernel
theorem d_Te_orderAlone_81 : decode b_Te_orderAlone 81 = .ok (.iload 8, 2) := by decide +kernel
theorem d_Te_orderAlone_83 : decode b_Te_orderAlone 83 = .ok (.laload, 1) := by decide +kernel
theorem d_Te_orderAlone_84 : decode b_Te_orderAlone 84 = .ok (.l2i, 1) := by decide +kernel
theorem d_Te_orderAlone_85 : decode b_Te_orderAlone 85 = .ok (.invokestatic 50, 3) := by decide +kernel
theorem d_Te_orderAlone_88 : decode b_Te_orderAlone 88 = .ok (.ireturn, 1) := by decide +kernel
theorem d_Te_orderAlone_89 : decode b_Te_orderAlone 89 = .ok (.iload 6, 2) := by decide +kernel
theorem d_Te_orderAlone_91 : decode b_Te_orderAlone 91 = .ok (.bipush 7, 2) := by decide +kernel
theorem d_Te_orderAlone_93 : decode b_Te_orderAlone 93 = .ok (.if_icmp .ne 7, 3) := by decide +kernel
theorem d_Te_orderAlone_96 : decode b_Te_orderAlone 96 = .ok (.iconst 0, 1) := by decide +kernel
theorem d_Te_orderAlone_97 : decode b_Te_orderAlone 97 = .ok (.goto 10, 3) := by decide +kernel
theorem d_Te_orderAlone_100 : decode b_Te_orderAlone 100 = .ok (.iload 7, 2) := by decide +kernel
theorem d_Te_orderAlone_102 : decode b_Te_orderAlone 102 = .ok (.iload 8, 2) := by decide +kernel
theorem d_Te_orderAlone_104 : decode b_Te_orderAlone 104 = .ok (.invokestatic 50, 3) := by decide +kernel
theorem d_Te_orderAlone_107 : decode b_Te_orderAlone 107 = .ok (.ireturn, 1) := by decide +kernel
set_option maxRecDepth 100000 in
theorem hl_Te_orderAlone : Cond.methodLink R_Te 32 y_Te_orderAlone ∈ wd_tbl := wd_of 1893 (by decide +kernel) rfl
set_option maxRecDepth 100000 in
theorem hi_Te_orderAlone : Cond.instanceMethod y_Te_orderAlone ∈ wd_tbl := wd_of 1895 (by decide +kernel) rfl
set_option maxRecDepth 100000 in
theorem hs_Te_orderAlone : Cond.selects R_Te y_Te_orderAlone y_Te_orderAlone ∈ wd_tbl := wd_of 100 (by decide +kernel) rfl
theorem hd_Te_orderAlone : y_Te_orderAlone.cls = R_Te ∧ y_Te_orderAlone.cls ≠ "java/lang/invoke/MethodHandle" ∧ y_Te_orderAlone.cls ≠ "java/lang/invoke/VarHandle" ∧ (parseMethodDescriptor y_Te_orderAlone.desc).map (fun d => d.parameters.length) = some 3 := by decide +kernel
def rm_Te_orderAlone : Room := { frames := 1, cells := 0, slots := 0, locals := 60 }
theorem rm_Te_orderAlone_Te_tag : (rm_Te_tag).frames + 1 ≤ rm_Te_orderAlone.frames ∧ 8 + (2 + 11) + (rm_Te_tag).locals ≤ rm_Te_orderAlone.locals := by
  show 0 + 1 ≤ 1 ∧ 8 + (2 + 11) + 0 ≤ 60
  decide
theorem rm_Te_orderAlone_Wo_order : (rm_Wo_order).frames + 1 ≤ rm_Te_orderAlone.frames ∧ 8 + (7 + 11) + (rm_Wo_order).locals ≤ rm_Te_orderAlone.locals := by
  show 0 + 1 ≤ 1 ∧ 8 + (7 + 11) + 0 ≤ 60
  decide
theorem rm_Te_orderAlone_JI_compare : (rm_JI_compare).frames + 1 ≤ rm_Te_orderAlone.frames ∧ 8 + (2 + 11) + (rm_JI_compare).locals ≤ rm_Te_orderAlone.locals := by
  show 0 + 1 ≤ 1 ∧ 8 + (2 + 11) + 0 ≤ 60
  decide
def fb_Te_orderAlone_107 (N : Nat) (G : Unit) (u : CS) (t0 : Int32) : Option (CS × Int32) := some (u, t0)
set_option maxRecDepth 100000 in
set_option maxHeartbeats 4000000 in
theorem wb_Te_orderAlone_107 {p : Program} {l : Launch} {e : Env} {s : State} {m : MethodId} {args : Array Value} {below : List Frame} {meth : Method} {c : Code} {s0 : State} {b0 : Nat} {D : va_G} {cB cI cJ cZ cS cP : ClassId} {A : Nat → Prop} {sk sv : Nat → Nat} {ad : Nat → Nat} (C0 : XCx p s s0 b0 m args meth c R_Te b_Te_orderAlone 9 (some .int) D cB cI cJ cZ cS cP A) (hE : ENV s0 b0 sk sv) (N : Nat) (G : Unit) (hG : True) : ∀ (u : CS) (t0 : Int32) (x : CS × Int32), fb_Te_orderAlone_107 N G u t0 = some x → ∀ (H : Heap) (locs : List Loc), va_P D cls (wC cB cI cJ cZ cS cP ad u) H → va_D A (wC cB cI cJ cZ cS cP ad u) → va_S A s.heap H locs → ∀ (ls : Array Slot), lv_has ls 9 [] → W p l e rm_Te_orderAlone s m args below meth c H locs 0 0 (MQ below (xQ0 D cB cI cJ cZ cS cP A ad x.1 (some (.inl x.2))) args s 0 0 A) (F0 m 107 ls [.int t0]) := by
  intro u t0 x hf H locs hP hD hS ls hl
  obtain ⟨hx, hb, hr, hml, ht, hown, hK, hA, hlocks, hA0, hO, hbs⟩ := id C0
  unfold fb_Te_orderAlone_107 at hf
  exact xr0_i C0 hP hD hS hf d_Te_orderAlone_107
def fb_Te_orderAlone_75 (N : Nat) (G : Unit) (u : CS) (v1 : Option Nat) (v7 : Int32) (v8 : Int32) : Option (CS × Int32) := bo v1 (fun j1 => bo (aJ u j1 v7) (fun r2 => bo v1 (fun j3 => bo (aJ u j3 v8) (fun r4 => bx (fm_JI_compare N u (r2.toInt32) (r4.toInt32)) (fun u5 r5 => some (u5, r5))))))
set_option maxRecDepth 100000 in
set_option maxHeartbeats 4000000 in
theorem wb_Te_orderAlone_75 {p : Program} {l : Launch} {e : Env} {s : State} {m : MethodId} {args : Array Value} {below : List Frame} {meth : Method} {c : Code} {s0 : State} {b0 : Nat} {D : va_G} {cB cI cJ cZ cS cP : ClassId} {A : Nat → Prop} {sk sv : Nat → Nat} {ad : Nat → Nat} (C0 : XCx p s s0 b0 m args meth c R_Te b_Te_orderAlone 9 (some .int) D cB cI cJ cZ cS cP A) (hE : ENV s0 b0 sk sv) (N : Nat) (G : Unit) (hG : True) : ∀ (u : CS) (v1 : Option Nat) (v7 : Int32) (v8 : Int32) (x : CS × Int32), fb_Te_orderAlone_75 N G u v1 v7 v8 = some x → ∀ (H : Heap) (locs : List Loc), va_P D cls (wC cB cI cJ cZ cS cP ad u) H → va_D A (wC cB cI cJ cZ cS cP ad u) → va_S A s.heap H locs → ∀ (ls : Array Slot), lv_has ls 9 [(1, va_rf (Option.map ad v1)), (7, .int v7), (8, .int v8)] → W p l e rm_Te_orderAlone s m args below meth c H locs 0 0 (MQ below (xQ0 D cB cI cJ cZ cS cP A ad x.1 (some (.inl x.2))) args s 0 0 A) (F0 m 75 ls []) := by
  intro u v1 v7 v8 x hf H locs hP hD hS ls hl
  obtain ⟨hx, hb, hr, hml, ht, hown, hK, hA, hlocks, hA0, hO, hbs⟩ := id C0
  unfold fb_Te_orderAlone_75 at hf
  refine x_aload_n hx hb d_Te_orderAlone_75 rfl (lv_at hl 0 rfl) ?_
  refine lv_iload hx hb d_Te_orderAlone_76 (lv_at hl 1 rfl) ?_
  obtain ⟨j1, ej1, hf⟩ := bo_some hf
  rw [ej1]
  obtain ⟨r2, g2, hf⟩ := bo_some hf
  refine xl_J (i := j1) hx hb hK hP g2 d_Te_orderAlone_78 ?_
  refine lv_l2i hx hb d_Te_orderAlone_79 rfl ?_
  refine x_aload_n hx hb d_Te_orderAlone_80 rfl (lv_at hl 0 rfl) ?_
  refine lv_iload hx hb d_Te_orderAlone_81 (lv_at hl 2 rfl) ?_
  obtain ⟨j3, ej3, hf⟩ := bo_some hf
  rw [ej3]
  obtain ⟨r4, g4, hf⟩ := bo_some hf
  refine xl_J (i := j3) hx hb hK hP g4 d_Te_orderAlone_83 ?_
  refine lv_l2i hx hb d_Te_orderAlone_84 rfl ?_
  obtain ⟨u5, r5, hc5, hf⟩ := bx_some hf
  refine xS0 (As := [.int r2.toInt32, .int r4.toInt32]) (rest := []) C0 hP hD hS (c_JI_compare N hE hc5) k_JI_compare (wd_of 1901 (by decide +kernel) rfl) ht_JI_compare hini_JI rfl rfl hd_JI_compare rfl rm_Te_orderAlone_JI_compare hl.1 (Nat.le_of_ble_eq_true rfl) d_Te_orderAlone_85 rfl ⟨Nat.zero_le _, Nat.zero_le _⟩ (fun H locs hP hD hS => ?_)
  exact xr0_i C0 hP hD hS hf d_Te_orderAlone_88
def fb_Te_orderAlone_62 (N : Nat) (G : Unit) (u : CS) (t0 : Int32) : Option (CS × Int32) := some (u, t0)
set_option maxRecDepth 100000 in
set_option maxHeartbeats 4000000 in
theorem wb_Te_orderAlone_62 {p : Program} {l : Launch} {e : Env} {s : State} {m : MethodId} {args : Array Value} {below : List Frame} {meth : Method} {c : Code} {s0 : State} {b0 : Nat} {D : va_G} {cB cI cJ cZ cS cP : ClassId} {A : Nat → Prop} {sk sv : Nat → Nat} {ad : Nat → Nat} (C0 : XCx p s s0 b0 m args meth c R_Te b_Te_orderAlone 9 (some .int) D cB cI cJ cZ cS cP A) (hE : ENV s0 b0 sk sv) (N : Nat) (G : Unit) (hG : True) : ∀ (u : CS) (t0 : Int32) (x : CS × Int32), fb_Te_orderAlone_62 N G u t0 = some x → ∀ (H : Heap) (locs : List Loc), va_P D cls (wC cB cI cJ cZ cS cP ad u) H → va_D A (wC cB cI cJ cZ cS cP ad u) → va_S A s.heap H locs → ∀ (ls : Array Slot), lv_has ls 9 [] → W p l e rm_Te_orderAlone s m args below meth c H locs 0 0 (MQ below (xQ0 D cB cI cJ cZ cS cP A ad x.1 (some (.inl x.2))) args s 0 0 A) (F0 m 62 ls [.int t0]) := by
  intro u t0 x hf H locs hP hD hS ls hl
  obtain ⟨hx, hb, hr, hml, ht, hown, hK, hA, hlocks, hA0, hO, hbs⟩ := id C0
  unfold fb_Te_orderAlone_62 at hf
  exact xr0_i C0 hP hD hS hf d_Te_orderAlone_62
def fb_Te_orderAlone_0 (N : Nat) (G : Unit) (u : CS) (v0 : Nat) (v1 : Option Nat) (v2 : Int64) (v4 : Int64) : Option (CS × Int32) := bx (fm_Te_tag N u v2) (fun u6 r6 => bx (fm_Te_tag N u6 v4) (fun u7 r7 => br (decide (r6 = r7)) (br (decide (r6 = 1)) (br (decide (v2.toInt32 = v4.toInt32)) (fb_Te_orderAlone_62 N G u7 (0)) (bo (gR u7 v0 8 3) (fun r9 => bo r9 (fun j11 => ck (isO u7 j11 11) (bx (fm_Wo_order N u7 j11 (v2.toInt32) (v4.toInt32)) (fun u10 r10 => fb_Te_orderAlone_62 N G u10 (r10))))))) (br (decide (r6 = 5)) (fb_Te_orderAlone_75 N G u7 (v1) (v2.toInt32) (v4.toInt32)) (br (decide (r6 = 3)) (fb_Te_orderAlone_75 N G u7 (v1) (v2.toInt32) (v4.toInt32)) (br (decide (r6 = 7)) (fb_Te_orderAlone_107 N G u7 (0)) (bx (fm_JI_compare N u7 (v2.toInt32) (v4.toInt32)) (fun u8 r8 => fb_Te_orderAlone_107 N G u8 (r8))))))) (bx (fm_Te_tag N u7 v4) (fun u12 r12 => some (u12, (r6 - r12))))))
set_option maxRecDepth 100000 in
set_option maxHeartbeats 4000000 in
theorem wb_Te_orderAlone_0 {p : Program} {l : Launch} {e : Env} {s : State} {m : MethodId} {args : Array Value} {below : List Frame} {meth : Method} {c : Code} {s0 : State} {b0 : Nat} {D : va_G} {cB cI cJ cZ cS cP : ClassId} {A : Nat → Prop} {sk sv : Nat → Nat} {ad : Nat → Nat} (C0 : XCx p s s0 b0 m args meth c R_Te b_Te_orderAlone 9 (some .int) D cB cI cJ cZ cS cP A) (hE : ENV s0 b0 sk sv) (N : Nat) (G : Unit) (hG : True) : ∀ (u : CS) (v0 : Nat) (v1 : Option Nat) (v2 : Int64) (v4 : Int64) (x : CS × Int32), fb_Te_orderAlone_0 N G u v0 v1 v2 v4 = some x → ∀ (H : Heap) (locs : List Loc), va_P D cls (wC cB cI cJ cZ cS cP ad u) H → va_D A (wC cB cI cJ cZ cS cP ad u) → va_S A s.heap H locs → ∀ (ls : Array Slot), lv_has ls 9 [(0, .ref (ad v0)), (1, va_rf (Option.map ad v1)), (2, .long v2), (4, .long v4)] → W p l e rm_Te_orderAlone s m args below meth c H locs 0 0 (MQ below (xQ0 D cB cI cJ cZ cS cP A ad x.1 (some (.inl x.2))) args s 0 0 A) (F0 m 0 ls []) := by
  intro u v0 v1 v2 v4 x hf H locs hP hD hS ls hl
  obtain ⟨hx, hb, hr, hml, ht, hown, hK, hA, hlocks, hA0, hO, hbs⟩ := id C0
  unfold fb_Te_orderAlone_0 at hf
  refine lv_lload_n hx hb d_Te_orderAlone_0 rfl (lv_at hl 2 rfl) ?_
  obtain ⟨u6, r6, hc6, hf⟩ := bx_some hf
  refine xS0 (As := [.long v2]) (rest := []) C0 hP hD hS (c_Te_tag N hc6) k_Te_tag (wd_of 1346 (by decide +kernel) rfl) ht_Te_tag hini_Te rfl rfl hd_Te_tag rfl rm_Te_orderAlone_Te_tag hl.1 (Nat.le_of_ble_eq_true rfl) d_Te_orderAlone_1 rfl ⟨Nat.zero_le _, Nat.zero_le _⟩ (fun H locs hP hD hS => ?_)
  refine lv_istore (lv' := [(6, .int r6), (0, .ref (ad v0)), (1, va_rf (Option.map ad v1)), (2, .long v2), (4, .long v4)]) hx hb d_Te_orderAlone_4 hl (by decide) (by first | rfl | simp [List.filter, cat_rf]) (fun ls hl => ?_)
  refine lv_iload hx hb d_Te_orderAlone_6 (lv_at hl 0 rfl) ?_
  refine lv_lload hx hb d_Te_orderAlone_8 (lv_at hl 4 rfl) ?_
  obtain ⟨u7, r7, hc7, hf⟩ := bx_some hf
  refine xS0 (As := [.long v4]) (rest := [.int r6]) C0 hP hD hS (c_Te_tag N hc7) k_Te_tag (wd_of 1346 (by decide +kernel) rfl) ht_Te_tag hini_Te rfl rfl hd_Te_tag rfl rm_Te_orderAlone_Te_tag hl.1 (Nat.le_of_ble_eq_true rfl) d_Te_orderAlone_10 rfl ⟨Nat.zero_le _, Nat.zero_le _⟩ (fun H locs hP hD hS => ?_)
  refine lv_icmp_eq (tgt := 25) hx hb d_Te_orderAlone_13 (by decide) (fun hc => ?_) (fun hc => ?_)
  · rw [br_p _ hc] at hf
    refine lv_lload_n hx hb d_Te_orderAlone_25 rfl (lv_at hl 3 rfl) ?_
    refine lv_l2i hx hb d_Te_orderAlone_26 rfl ?_
    refine lv_istore (lv' := [(7, .int v2.toInt32), (6, .int r6), (0, .ref (ad v0)), (1, va_rf (Option.map ad v1)), (2, .long v2), (4, .long v4)]) hx hb d_Te_orderAlone_27 hl (by decide) (by first | rfl | simp [List.filter, cat_rf]) (fun ls hl => ?_)
    refine lv_lload hx hb d_Te_orderAlone_29 (lv_at hl 5 rfl) ?_
    refine lv_l2i hx hb d_Te_orderAlone_31 rfl ?_
    refine lv_istore (lv' := [(8, .int v4.toInt32), (7, .int v2.toInt32), (6, .int r6), (0, .ref (ad v0)), (1, va_rf (Option.map ad v1)), (2, .long v2), (4, .long v4)]) hx hb d_Te_orderAlone_32 hl (by decide) (by first | rfl | simp [List.filter, cat_rf]) (fun ls hl => ?_)
    refine lv_iload hx hb d_Te_orderAlone_34 (lv_at hl 2 rfl) ?_
    refine lv_iconst (v := 1) hx hb d_Te_orderAlone_36 (by decide) ?_
    refine lv_icmp_ne (tgt := 63) hx hb d_Te_orderAlone_37 (by decide) (fun hc => ?_) (fun hc => ?_)
    · rw [br_n _ hc] at hf
      refine lv_iload hx hb d_Te_orderAlone_63 (lv_at hl 2 rfl) ?_
      refine lv_iconst (v := 5) hx hb d_Te_orderAlone_65 (by decide) ?_
      refine lv_icmp_eq (tgt := 75) hx hb d_Te_orderAlone_66 (by decide) (fun hc => ?_) (fun hc => ?_)
      · rw [br_p _ hc] at hf
        exact wb_Te_orderAlone_75 C0 hE N G hG _ _ _ _ _ hf H locs hP hD hS ls (lv_sub hl [4, 1, 0] rfl)
      · rw [br_n _ hc] at hf
        refine lv_iload hx hb d_Te_orderAlone_69 (lv_at hl 2 rfl) ?_
        refine lv_iconst (v := 3) hx hb d_Te_orderAlone_71 (by decide) ?_
        refine lv_icmp_ne (tgt := 89) hx hb d_Te_orderAlone_72 (by decide) (fun hc => ?_) (fun hc => ?_)
        · rw [br_n _ hc] at hf
          refine lv_iload hx hb d_Te_orderAlone_89 (lv_at hl 2 rfl) ?_
          refine lv_bipush (v := 7) hx hb d_Te_orderAlone_91 (by decide) ?_
          refine lv_icmp_ne (tgt := 100) hx hb d_Te_orderAlone_93 (by decide) (fun hc => ?_) (fun hc => ?_)
          · rw [br_n _ hc] at hf
            refine lv_iload hx hb d_Te_orderAlone_100 (lv_at hl 1 rfl) ?_
            refine lv_iload hx hb d_Te_orderAlone_102 (lv_at hl 0 rfl) ?_
            obtain ⟨u8, r8, hc8, hf⟩ := bx_some hf
            refine xS0 (As := [.int v2.toInt32, .int v4.toInt32]) (rest := []) C0 hP hD hS (c_JI_compare N hE hc8) k_JI_compare (wd_of 1901 (by decide +kernel) rfl) ht_JI_compare hini_JI rfl rfl hd_JI_compare rfl rm_Te_orderAlone_JI_compare hl.1 (Nat.le_of_ble_eq_true rfl) d_Te_orderAlone_104 rfl ⟨Nat.zero_le _, Nat.zero_le _⟩ (fun H locs hP hD hS => ?_)
            exact wb_Te_orderAlone_107 C0 hE N G hG _ _ _ hf H locs hP hD hS ls (lv_sub hl [] rfl)
          · rw [br_p _ hc] at hf
            refine lv_iconst (v := 0) hx hb d_Te_orderAlone_96 (by decide) ?_
            refine lv_goto (tgt := 107) hx hb d_Te_orderAlone_97 (by decide) ?_
            exact wb_Te_orderAlone_107 C0 hE N G hG _ _ _ hf H locs hP hD hS ls (lv_sub hl [] rfl)
        · rw [br_p _ hc] at hf
          exact wb_Te_orderAlone_75 C0 hE N G hG _ _ _ _ _ hf H locs hP hD hS ls (lv_sub hl [4, 1, 0] rfl)
    · rw [br_p _ hc] at hf
      refine lv_iload hx hb d_Te_orderAlone_40 (lv_at hl 1 rfl) ?_
      refine lv_iload hx hb d_Te_orderAlone_42 (lv_at hl 0 rfl) ?_
      refine lv_icmp_ne (tgt := 51) hx hb d_Te_orderAlone_44 (by decide) (fun hc => ?_) (fun hc => ?_)
      · rw [br_n _ hc] at hf
        refine lv_aload_n hx hb d_Te_orderAlone_51 rfl (lv_at hl 3 rfl) ?_
        obtain ⟨r9, g9, hf⟩ := bo_some hf
        refine xg_R (i := v0) (k := 3) hx hb ht hown ck_Te hK hP (by decide) fk_Te_21 g9 d_Te_orderAlone_52 ?_
        refine lv_iload hx hb d_Te_orderAlone_55 (lv_at hl 1 rfl) ?_
        refine lv_iload hx hb d_Te_orderAlone_57 (lv_at hl 0 rfl) ?_
        obtain ⟨j11, ej11, hf⟩ := bo_some hf
        rw [ej11]
        obtain ⟨hO9, hf⟩ := ck_some hf
        obtain ⟨u10, r10, hc10, hf⟩ := bx_some hf
        refine xV0 (i := j11) (As := [.int v2.toInt32, .int v4.toInt32]) (rest := []) C0 hP hD hS ck_Wo hO9 (c_Wo_order N hc10) k_Wo_order (wd_of 1897 (by decide +kernel) rfl) hi_Wo_order hs_Wo_order hini_Wo rfl rfl hd_Wo_order rfl rm_Te_orderAlone_Wo_order hl.1 (Nat.le_of_ble_eq_true rfl) d_Te_orderAlone_59 rfl ⟨Nat.zero_le _, Nat.zero_le _⟩ (fun H locs hP hD hS => ?_)
        exact wb_Te_orderAlone_62 C0 hE N G hG _ _ _ hf H locs hP hD hS ls (lv_sub hl [] rfl)
      · rw [br_p _ hc] at hf
        refine lv_iconst (v := 0) hx hb d_Te_orderAlone_47 (by decide) ?_
        refine lv_goto (tgt := 62) hx hb d_Te_orderAlone_48 (by decide) ?_
        exact wb_Te_orderAlone_62 C0 hE N G hG _ _ _ hf H locs hP hD hS ls (lv_sub hl [] rfl)
  · rw [br_n _ hc] at hf
    refine lv_iload hx hb d_Te_orderAlone_16 (lv_at hl 0 rfl) ?_
    refine lv_lload hx hb d_Te_orderAlone_18 (lv_at hl 4 rfl) ?_
    obtain ⟨u12, r12, hc12, hf⟩ := bx_some hf
    refine xS0 (As := [.long v4]) (rest := [.int r6]) C0 hP hD hS (c_Te_tag N hc12) k_Te_tag (wd_of 1346 (by decide +kernel) rfl) ht_Te_tag hini_Te rfl rfl hd_Te_tag rfl rm_Te_orderAlone_Te_tag hl.1 (Nat.le_of_ble_eq_true rfl) d_Te_orderAlone_20 rfl ⟨Nat.zero_le _, Nat.zero_le _⟩ (fun H locs hP hD hS => ?_)
    refine lv_isub hx hb d_Te_orderAlone_23 ?_
    exact xr0_i C0 hP hD hS hf d_Te_orderAlone_24
def fm_Te_orderAlone (N : Nat) (u : CS) (v0 : Nat) (v1 : Option Nat) (v2 : Int64) (v4 : Int64) : Option (CS × Int32) := fb_Te_orderAlone_0 N () u v0 v1 v2 v4
set_option maxRecDepth 100000 in
set_option maxHeartbeats 4000000 in
theorem c_Te_orderAlone (N : Nat) {l : Launch} {s0 : State} {b0 : Nat} {D : va_G} {cB cI cJ cZ cS cP : ClassId} {sk sv : Nat → Nat} {ad : Nat → Nat} {u : CS} {sz : Nat} {v0 : Nat} {v1 : Option Nat} {v2 : Int64} {v4 : Int64} {x : CS × Int32} (hE : ENV s0 b0 sk sv) (hf : fm_Te_orderAlone N u v0 v1 v2 v4 = some x) : Met l y_Te_orderAlone (wd_ws y_Te_orderAlone b_Te_orderAlone 9 (some .int)) rm_Te_orderAlone (xPc s0 b0 D cB cI cJ cZ cS cP ad u sz [.ref (ad v0), va_rf (Option.map ad v1), .long v2, .long v4]) (xQ0 D cB cI cJ cZ cS cP (xA cB cI cJ cZ cS cP ad u sz) ad x.1 (some (.inl x.2))) 0 0 (xA cB cI cJ cZ cS cP ad u sz) :=
  xMet (by decide) rfl (by cases v1 <;> exact Nat.le_of_ble_eq_true rfl) (fun p e s m below meth c ls hsz hnm C0 hP hD hS hl =>
    wb_Te_orderAlone_0 C0 hE N () trivial u _ _ _ _ x hf s.heap [] hP hD hS ls (by rw [show lv_args 0 [.ref (ad v0), va_rf (Option.map ad v1), .long v2, .long v4] = [(0, .ref (ad v0)), (1, va_rf (Option.map ad v1)), (2, .long v2), (4, .long v4)] from by cases v1 <;> rfl] at hl; exact lv_sub hl [0, 1, 2, 3] rfl))
abbrev b_Te_order : ByteArray := prog_8_method_6_code
def y_Te_order : MethodName := ⟨R_Te, "order", "([JJJ)I"⟩
def w_Te_order : List Cond := wd_ws y_Te_order b_Te_order 14 (some .int)
set_option maxRecDepth 100000 in
theorem k_Te_order : Cond.code y_Te_order b_Te_order 14 (some .int) ∈ wd_tbl := wd_of 1892 rfl rfl
theorem d_Te_order_0 : decode b_Te_order 0 = .ok (.iconst 1, 1) := by decide +kernel
theorem d_Te_order_1 : decode b_Te_order 1 = .ok (.istore 6, 2) := by decide +kernel
theorem d_Te_order_3 : decode b_Te_order 3 = .ok (.aload_n 0, 1) := by decide +kernel
theorem d_Te_order_4 : decode b_Te_order 4 = .ok (.getfield 15, 3) := by decide +kernel
theorem d_Te_order_7 : decode b_Te_order 7 = .ok (.iconst 0, 1) := by decide +kernel
theorem d_Te_order_8 : decode b_Te_order 8 = .ok (.lload_n 2, 1) := by decide +kernel
theorem d_Te_order_9 : decode b_Te_order 9 = .ok (.lastore, 1) := by decide +kernel
theorem d_Te_order_10 : decode b_Te_order 10 = .ok (.aload_n 0, 1) := by decide +kernel
theorem d_Te_order_11 : decode b_Te_order 11 = .ok (.getfield 18, 3) := by decide +kernel
theorem d_Te_order_14 : decode b_Te_order 14 = .ok (.iconst 0, 1) := by decide +kernel
theorem d_Te_order_15 : decode b_Te_order 15 = .ok (.lload 4, 2) := by decide +kernel
theorem d_Te_order_17 : decode b_Te_order 17 = .ok (.lastore, 1) := by decide +kernel
theorem d_Te_order_18 : decode b_Te_order 18 = .ok (.iconst 0, 1) := by decide +kernel
theorem d_Te_order_19 : decode b_Te_order 19 = .ok (.istore 7, 2) := by decide +kernel
theorem d_Te_order_21 : decode b_Te_order 21 = .ok (.iload 7, 2) := by decide +kernel
theorem d_Te_order_23 : decode b_Te_order 23 = .ok (.ldc 27, 2) := by decide +kernel
theorem d_Te_order_25 : decode b_Te_order 25 = .ok (.if_icmp .ge 154, 3) := by decide +kernel
theorem d_Te_order_28 : decode b_Te_order 28 = .ok (.iload 6, 2) := by decide +kernel
theorem d_Te_order_30 : decode b_Te_order 30 = .ok (.ifCond .le 149, 3) := by decide +kernel
theorem d_Te_order_33 : decode b_Te_order 33 = .ok (.iinc 6 (-1), 3) := by decide +kernel
theorem d_Te_order_36 : decode b_Te_order 36 = .ok (.aload_n 0, 1) := by decide +kernel
theorem d_Te_order_37 : decode b_Te_order 37 = .ok (.aload_n 1, 1) := by decide +kernel
theorem d_Te_order_38 : decode b_Te_order 38 = .ok (.aload_n 0, 1) := by decide +kernel
theorem d_Te_order_39 : decode b_Te_order 39 = .ok (.getfield 15, 3) := by decide +kernel
theorem d_Te_order_42 : decode b_Te_order 42 = .ok (.iload 6, 2) := by decide +kernel
theorem d_Te_order_44 : decode b_Te_order 44 = .ok (.laload, 1) := by decide +kernel
theorem d_Te_order_45 : decode b_Te_order 45 = .ok (.aload_n 0, 1) := by decide +kernel
theorem d_Te_order_46 : decode b_Te_order 46 = .ok (.getfield 18, 3) := by decide +kernel
theorem d_Te_order_49 : decode b_Te_order 49 = .ok (.iload 6, 2) := by decide +kernel
theorem d_Te_order_51 : decode b_Te_order 51 = .ok (.laload, 1) := by decide +kernel
theorem d_Te_order_52 : decode b_Te_order 52 = .ok (.invokevirtual 32, 3) := by decide +kernel
theorem d_Te_order_55 : decode b_Te_order 55 = .ok (.istore 8, 2) := by decide +kernel
theorem d_Te_order_57 : decode b_Te_order 57 = .ok (.iload 8, 2) := by decide +kernel
theorem d_Te_order_59 : decode b_Te_order 59 = .ok (.ifCond .eq 6, 3) := by decide +kernel
theorem d_Te_order_62 : decode b_Te_order 62 = .ok (.iload 8, 2) := by decide +kernel
theorem d_Te_order_64 : decode b_Te_order 64 = .ok (.ireturn, 1) := by decide +kernel
theorem d_Te_order_65 : decode b_Te_order 65 = .ok (.aload_n 0, 1) := by decide +kernel
theorem d_Te_order_66 : decode b_Te_order 66 = .ok (.getfield 15, 3) := by decide +kernel
theorem d_Te_order_69 : decode b_Te_order 69 = .ok (.iload 6, 2) := by decide +kernel
theorem d_Te_order_71 : decode b_Te_order 71 = .ok (.laload, 1) := by decide +kernel
theorem d_Te_order_72 : decode b_Te_order 72 = .ok (.l2i, 1) := by decide +kernel
theorem d_Te_order_73 : decode b_Te_order 73 = .ok (.istore 9, 2) := by decide +kernel
theorem d_Te_order_75 : decode b_Te_order 75 = .ok (.aload_n 0, 1) := by decide +kernel
theorem d_Te_order_76 : decode b_Te_order 76 = .ok (.getfield 18, 3) := by decide +kernel
theorem d_Te_order_79 : decode b_Te_order 79 = .ok (.iload 6, 2) := by decide +kernel
theorem d_Te_order_81 : decode b_Te_order 81 = .ok (.laload, 1) := by decide +kernel
theorem d_Te_order_82 : decode b_Te_order 82 = .ok (.l2i, 1) := by decide +kernel
theorem d_Te_order_83 : decode b_Te_order 83 = .ok (.istore 10, 2) := by decide +kernel
theorem d_Te_order_85 : decode b_Te_order 85 = .ok (.aload_n 1, 1) := by decide +kernel
theorem d_Te_order_86 : decode b_Te_order 86 = .ok (.aload_n 0, 1) := by decide +kernel
theorem d_Te_order_87 : decode b_Te_order 87 = .ok (.getfield 15, 3) := by decide +kernel
theorem d_Te_order_90 : decode b_Te_order 90 = .ok (.iload 6, 2) := by decide +kernel
theorem d_Te_order_92 : decode b_Te_order 92 = .ok (.laload, 1) := by decide +kernel
theorem d_Te_order_93 : decode b_Te_order 93 = .ok (.invokestatic 28, 3) := by decide +kernel
theorem d_Te_order_96 : decode b_Te_order 96 = .ok (.istore 11, 2) := by decide +kernel
theorem d_Te_order_98 : decode b_Te_order 98 = .ok (.iload 11, 2) := by decide +kernel
theorem d_Te_order_100 : decode b_Te_order 100 = .ok (.aload_n 0, 1) := by decide +kernel
theorem d_Te_order_101 : decode b_Te_order 101 = .ok (.getfield 15, 3) := by decide +kernel
theorem d_Te_order_104 : decode b_Te_order 104 = .ok (.iload 6, 2) := by decide +kernel
theorem d_Te_order_106 : decode b_Te_order 106 = .ok (.laload, 1) := by decide +kernel
theorem d_Te_order_107 : decode b_Te_order 107 = .ok (.iload 11, 2) := by decide +kernel
theorem d_Te_order_109 : decode b_Te_order 109 = .ok (.invokestatic 36, 3) := by decide +kernel
theorem d_Te_order_112 : decode b_Te_order 112 = .ok (.isub, 1) := by decide +kernel
theorem d_Te_order_113 : decode b_Te_order 113 = .ok (.istore 12, 2) := by decide +kernel
theorem d_Te_order_115 : decode b_Te_order 115 = .ok (.iload 11, 2) := by decide +kernel
theorem d_Te_order_117 : decode b_Te_order 117 = .ok (.iconst 1, 1) := by decide +kernel
theorem d_Te_order_118 : decode b_Te_order 118 = .ok (.isub, 1) := by decide +kernel
theorem d_Te_order_119 : decode b_Te_order 119 = .ok (.istore 13, 2) := by decide +kernel
theorem d_Te_order_121 : decode b_Te_order 121 = .ok (.iload 13, 2) := by decide +kernel
theorem d_Te_order_123 : decode b_Te_order 123 = .ok (.iload 12, 2) := by decide +kernel
theorem d_Te_order_125 : decode b_Te_order 125 = .ok (.if_icmp .lt 48, 3) := by decide +kernel
theorem d_Te_order_128 : decode b_Te_order 128 = .ok (.iload 6, 2) := by decide +kernel
theorem d_Te_order_130 : decode b_Te_order 130 = .ok (.sipush 2048, 3) := by decide +kernel
theorem d_Te_order_133 : decode b_Te_order 133 = .ok (.if_icmp .ge 40, 3) := by decide +kernel
theorem d_Te_order_136 : decode b_Te_order 136 = .ok (.aload_n 0, 1) := by decide +kernel
theorem d_Te_order_137 : decode b_Te_order 137 = .ok (.getfield 15, 3) := by decide +kernel
theorem d_Te_order_140 : decode b_Te_order 140 = .ok (.iload 6, 2) := by decide +kernel
theorem d_Te_order_142 : decode b_Te_order 142 = .ok (.aload_n 1, 1) := by decide +kernel
theorem d_Te_order_143 : decode b_Te_order 143 = .ok (.iload 9, 2) := by decide +kernel
theorem d_Te_order_145 : decode b_Te_order 145 = .ok (.iload 13, 2) := by decide +kernel
theorem d_Te_order_147 : decode b_Te_order 147 = .ok (.iadd, 1) := by decide +kernel
theorem d_Te_order_148 : decode b_Te_order 148 = .ok (.laload, 1) := by decide +kernel
theorem d_Te_order_149 : decode b_Te_order 149 = .ok (.lastore, 1) := by decide +kernel
theorem d_Te_order_150 : decode b_Te_order 150 = .ok (.aload_n 0, 1) := by decide +kernel
theorem d_Te_order_151 : decode b_Te_order 151 = .ok (.getfield 18, 3) := by decide +kernel
theorem d_Te_order_154 : decode b_Te_order 154 = .ok (.iload 6, 2) := by decide +kernel
theorem d_Te_order_156 : decode b_Te_order 156 = .ok (.aload_n 1, 1) := by decide +kernel
theorem d_Te_order_157 : decode b_Te_order 157 = .ok (.iload 10, 2) := by decide +kernel
theorem d_Te_order_159 : decode b_Te_order 159 = .ok (.iload 13, 2) := by decide +kernel
theorem d_Te_order_161 : decode b_Te_order 161 = .ok (.iadd, 1) := by decide +kernel
theorem d_Te_order_162 : decode b_Te_order 162 = .ok (.laload, 1) := by decide +kernel
theorem d_Te_order_163 : decode b_Te_order 163 = .ok (.lastore, 1) := by decide +kernel
theorem d_Te_order_164 : decode b_Te_order 164 = .ok (.iinc 6 1, 3) := by decide +kernel
theorem d_Te_order_167 : decode b_Te_order 167 = .ok (.iinc 13 (-1), 3) := by decide +kernel
theorem d_Te_order_170 : decode b_Te_order 170 = .ok (.goto (-49), 3) := by decide +kernel
theorem d_Te_order_173 : decode b_Te_order 173 = .ok (.iinc 7 1, 3) := by decide +kernel
theorem d_Te_order_176 : decode b_Te_order 176 = .ok (.goto (-155), 3) := by decide +kernel
theorem d_Te_order_179 : decode b_Te_order 179 = .ok (.iconst 0, 1) := by decide +kernel
theorem d_Te_order_180 : decode b_Te_order 180 = .ok (.ireturn, 1) := by decide +kernel
set_option maxRecDepth 100000 in
theorem hi_Te_order : Cond.instanceMethod y_Te_order ∈ wd_tbl := wd_of 1890 (by decide +kernel) rfl
set_option maxRecDepth 100000 in
theorem hs_Te_order : Cond.selects R_Te y_Te_order y_Te_order ∈ wd_tbl := wd_of 1891 (by decide +kernel) rfl
theorem hd_Te_order : y_Te_order.cls = R_Te ∧ y_Te_order.cls ≠ "java/lang/invoke/MethodHandle" ∧ y_Te_order.cls ≠ "java/lang/invoke/VarHandle" ∧ (parseMethodDescriptor y_Te_order.desc).map (fun d => d.parameters.length) = some 3 := by decide +kernel
def rm_Te_order : Room := { frames := 2, cells := 0, slots := 0, locals := 88 }
theorem rm_Te_order_Te_orderAlone : (rm_Te_orderAlone).frames + 1 ≤ rm_Te_order.frames ∧ 8 + (9 + 11) + (rm_Te_orderAlone).locals ≤ rm_Te_order.locals := by
  show 1 + 1 ≤ 2 ∧ 8 + (9 + 11) + 60 ≤ 88
  decide
theorem rm_Te_order_Te_cellsAt : (rm_Te_cellsAt).frames + 1 ≤ rm_Te_order.frames ∧ 8 + (5 + 11) + (rm_Te_cellsAt).locals ≤ rm_Te_order.locals := by
  show 0 + 1 ≤ 2 ∧ 8 + (5 + 11) + 0 ≤ 88
  decide
theorem rm_Te_order_Te_partsOf : (rm_Te_partsOf).frames + 1 ≤ rm_Te_order.frames ∧ 8 + (4 + 11) + (rm_Te_partsOf).locals ≤ rm_Te_order.locals := by
  show 1 + 1 ≤ 2 ∧ 8 + (4 + 11) + 21 ≤ 88
  decide
def fb_Te_order_179 (N : Nat) (G : (CS → Nat → Option Nat → Int32 → Int32 → Option (CS × Int32)) × (CS → Nat → Option Nat → Int32 → Int32 → Int32 → Int32 → Int32 → Int32 → Option (CS × Int32))) (u : CS) : Option (CS × Int32) := some (u, 0)
set_option maxRecDepth 100000 in
set_option maxHeartbeats 4000000 in
theorem wb_Te_order_179 {p : Program} {l : Launch} {e : Env} {s : State} {m : MethodId} {args : Array Value} {below : List Frame} {meth : Method} {c : Code} {s0 : State} {b0 : Nat} {D : va_G} {cB cI cJ cZ cS cP : ClassId} {A : Nat → Prop} {sk sv : Nat → Nat} {ad : Nat → Nat} (C0 : XCx p s s0 b0 m args meth c R_Te b_Te_order 14 (some .int) D cB cI cJ cZ cS cP A) (hE : ENV s0 b0 sk sv) (N : Nat) (G : (CS → Nat → Option Nat → Int32 → Int32 → Option (CS × Int32)) × (CS → Nat → Option Nat → Int32 → Int32 → Int32 → Int32 → Int32 → Int32 → Option (CS × Int32))) (hG : (∀ (u : CS) (v0 : Nat) (v1 : Option Nat) (v6 : Int32) (v7 : Int32) (x : CS × Int32), G.1 u v0 v1 v6 v7 = some x → ∀ (H : Heap) (locs : List Loc), va_P D cls (wC cB cI cJ cZ cS cP ad u) H → va_D A (wC cB cI cJ cZ cS cP ad u) → va_S A s.heap H locs → ∀ (ls : Array Slot), lv_has ls 14 [(0, .ref (ad v0)), (1, va_rf (Option.map ad v1)), (6, .int v6), (7, .int v7)] → W p l e rm_Te_order s m args below meth c H locs 0 0 (MQ below (xQ0 D cB cI cJ cZ cS cP A ad x.1 (some (.inl x.2))) args s 0 0 A) (F0 m 21 ls [])) ∧ (∀ (u : CS) (v0 : Nat) (v1 : Option Nat) (v6 : Int32) (v7 : Int32) (v9 : Int32) (v10 : Int32) (v12 : Int32) (v13 : Int32) (x : CS × Int32), G.2 u v0 v1 v6 v7 v9 v10 v12 v13 = some x → ∀ (H : Heap) (locs : List Loc), va_P D cls (wC cB cI cJ cZ cS cP ad u) H → va_D A (wC cB cI cJ cZ cS cP ad u) → va_S A s.heap H locs → ∀ (ls : Array Slot), lv_has ls 14 [(0, .ref (ad v0)), (1, va_rf (Option.map ad v1)), (6, .int v6), (7, .int v7), (9, .int v9), (10, .int v10), (12, .int v12), (13, .int v13)] → W p l e rm_Te_order s m args below meth c H locs 0 0 (MQ below (xQ0 D cB cI cJ cZ cS cP A ad x.1 (some (.inl x.2))) args s 0 0 A) (F0 m 121 ls []))) : ∀ (u : CS) (x : CS × Int32), fb_Te_order_179 N G u = some x → ∀ (H : Heap) (locs : List Loc), va_P D cls (wC cB cI cJ cZ cS cP ad u) H → va_D A (wC cB cI cJ cZ cS cP ad u) → va_S A s.heap H locs → ∀ (ls : Array Slot), lv_has ls 14 [] → W p l e rm_Te_order s m args below meth c H locs 0 0 (MQ below (xQ0 D cB cI cJ cZ cS cP A ad x.1 (some (.inl x.2))) args s 0 0 A) (F0 m 179 ls []) := by
  intro u x hf H locs hP hD hS ls hl
  obtain ⟨hx, hb, hr, hml, ht, hown, hK, hA, hlocks, hA0, hO, hbs⟩ := id C0
  unfold fb_Te_order_179 at hf
  refine lv_iconst (v := 0) hx hb d_Te_order_179 (by decide) ?_
  exact xr0_i C0 hP hD hS hf d_Te_order_180
def fb_Te_order_173 (N : Nat) (G : (CS → Nat → Option Nat → Int32 → Int32 → Option (CS × Int32)) × (CS → Nat → Option Nat → Int32 → Int32 → Int32 → Int32 → Int32 → Int32 → Option (CS × Int32))) (u : CS) (v0 : Nat) (v1 : Option Nat) (v6 : Int32) (v7 : Int32) : Option (CS × Int32) := G.1 u (v0) (v1) (v6) ((v7 + 1))
set_option maxRecDepth 100000 in
set_option maxHeartbeats 4000000 in
theorem wb_Te_order_173 {p : Program} {l : Launch} {e : Env} {s : State} {m : MethodId} {args : Array Value} {below : List Frame} {meth : Method} {c : Code} {s0 : State} {b0 : Nat} {D : va_G} {cB cI cJ cZ cS cP : ClassId} {A : Nat → Prop} {sk sv : Nat → Nat} {ad : Nat → Nat} (C0 : XCx p s s0 b0 m args meth c R_Te b_Te_order 14 (some .int) D cB cI cJ cZ cS cP A) (hE : ENV s0 b0 sk sv) (N : Nat) (G : (CS → Nat → Option Nat → Int32 → Int32 → Option (CS × Int32)) × (CS → Nat → Option Nat → Int32 → Int32 → Int32 → Int32 → Int32 → Int32 → Option (CS × Int32))) (hG : (∀ (u : CS) (v0 : Nat) (v1 : Option Nat) (v6 : Int32) (v7 : Int32) (x : CS × Int32), G.1 u v0 v1 v6 v7 = some x → ∀ (H : Heap) (locs : List Loc), va_P D cls (wC cB cI cJ cZ cS cP ad u) H → va_D A (wC cB cI cJ cZ cS cP ad u) → va_S A s.heap H locs → ∀ (ls : Array Slot), lv_has ls 14 [(0, .ref (ad v0)), (1, va_rf (Option.map ad v1)), (6, .int v6), (7, .int v7)] → W p l e rm_Te_order s m args below meth c H locs 0 0 (MQ below (xQ0 D cB cI cJ cZ cS cP A ad x.1 (some (.inl x.2))) args s 0 0 A) (F0 m 21 ls [])) ∧ (∀ (u : CS) (v0 : Nat) (v1 : Option Nat) (v6 : Int32) (v7 : Int32) (v9 : Int32) (v10 : Int32) (v12 : Int32) (v13 : Int32) (x : CS × Int32), G.2 u v0 v1 v6 v7 v9 v10 v12 v13 = some x → ∀ (H : Heap) (locs : List Loc), va_P D cls (wC cB cI cJ cZ cS cP ad u) H → va_D A (wC cB cI cJ cZ cS cP ad u) → va_S A s.heap H locs → ∀ (ls : Array Slot), lv_has ls 14 [(0, .ref (ad v0)), (1, va_rf (Option.map ad v1)), (6, .int v6), (7, .int v7), (9, .int v9), (10, .int v10), (12, .int v12), (13, .int v13)] → W p l e rm_Te_order s m args below meth c H locs 0 0 (MQ below (xQ0 D cB cI cJ cZ cS cP A ad x.1 (some (.inl x.2))) args s 0 0 A) (F0 m 121 ls []))) : ∀ (u : CS) (v0 : Nat) (v1 : Option Nat) (v6 : Int32) (v7 : Int32) (x : CS × Int32), fb_Te_order_173 N G u v0 v1 v6 v7 = some x → ∀ (H : Heap) (locs : List Loc), va_P D cls (wC cB cI cJ cZ cS cP ad u) H → va_D A (wC cB cI cJ cZ cS cP ad u) → va_S A s.heap H locs → ∀ (ls : Array Slot), lv_has ls 14 [(0, .ref (ad v0)), (1, va_rf (Option.map ad v1)), (6, .int v6), (7, .int v7)] → W p l e rm_Te_order s m args below meth c H locs 0 0 (MQ below (xQ0 D cB cI cJ cZ cS cP A ad x.1 (some (.inl x.2))) args s 0 0 A) (F0 m 173 ls []) := by
  intro u v0 v1 v6 v7 x hf H locs hP hD hS ls hl
  obtain ⟨hx, hb, hr, hml, ht, hown, hK, hA, hlocks, hA0, hO, hbs⟩ := id C0
  unfold fb_Te_order_173 at hf
  refine lv_iinc (v := (v7 + 1)) (lv' := [(7, .int (v7 + 1)), (0, .ref (ad v0)), (1, va_rf (Option.map ad v1)), (6, .int v6)]) hx hb d_Te_order_173 hl (k := 3) rfl rfl (by decide) (by first | rfl | simp [List.filter, cat_rf]) (fun ls hl => ?_)
  refine lv_goto (tgt := 21) hx hb d_Te_order_176 (by decide) ?_
  exact hG.1 _ _ _ _ _ _ hf H locs hP hD hS ls (lv_sub hl [1, 2, 3, 0] rfl)
def fb_Te_order_121 (N : Nat) (G : (CS → Nat → Option Nat → Int32 → Int32 → Option (CS × Int32)) × (CS → Nat → Option Nat → Int32 → Int32 → Int32 → Int32 → Int32 → Int32 → Option (CS × Int32))) (u : CS) (v0 : Nat) (v1 : Option Nat) (v6 : Int32) (v7 : Int32) (v9 : Int32) (v10 : Int32) (v12 : Int32) (v13 : Int32) : Option (CS × Int32) := br (decide (v13 < v12)) (fb_Te_order_173 N G u (v0) (v1) (v6) (v7)) (br (decide (2048 ≤ v6)) (fb_Te_order_173 N G u (v0) (v1) (v6) (v7)) (bo (gR u v0 8 1) (fun r1 => bo v1 (fun j2 => bo (aJ u j2 (v9 + v13)) (fun r3 => bo r1 (fun j4 => bo (sJ u j4 v6 r3) (fun w5 => bo (gR w5 v0 8 2) (fun r6 => bo v1 (fun j7 => bo (aJ w5 j7 (v10 + v13)) (fun r8 => bo r6 (fun j9 => bo (sJ w5 j9 v6 r8) (fun w10 => G.2 w10 (v0) (v1) ((v6 + 1)) (v7) (v9) (v10) (v12) ((v13 + (-1)))))))))))))))
set_option maxRecDepth 100000 in
set_option maxHeartbeats 4000000 in
theorem wb_Te_order_121 {p : Program} {l : Launch} {e : Env} {s : State} {m : MethodId} {args : Array Value} {below : List Frame} {meth : Method} {c : Code} {s0 : State} {b0 : Nat} {D : va_G} {cB cI cJ cZ cS cP : ClassId} {A : Nat → Prop} {sk sv : Nat → Nat} {ad : Nat → Nat} (C0 : XCx p s s0 b0 m args meth c R_Te b_Te_order 14 (some .int) D cB cI cJ cZ cS cP A) (hE : ENV s0 b0 sk sv) (N : Nat) (G : (CS → Nat → Option Nat → Int32 → Int32 → Option (CS × Int32)) × (CS → Nat → Option Nat → Int32 → Int32 → Int32 → Int32 → Int32 → Int32 → Option (CS × Int32))) (hG : (∀ (u : CS) (v0 : Nat) (v1 : Option Nat) (v6 : Int32) (v7 : Int32) (x : CS × Int32), G.1 u v0 v1 v6 v7 = some x → ∀ (H : Heap) (locs : List Loc), va_P D cls (wC cB cI cJ cZ cS cP ad u) H → va_D A (wC cB cI cJ cZ cS cP ad u) → va_S A s.heap H locs → ∀ (ls : Array Slot), lv_has ls 14 [(0, .ref (ad v0)), (1, va_rf (Option.map ad v1)), (6, .int v6), (7, .int v7)] → W p l e rm_Te_order s m args below meth c H locs 0 0 (MQ below (xQ0 D cB cI cJ cZ cS cP A ad x.1 (some (.inl x.2))) args s 0 0 A) (F0 m 21 ls [])) ∧ (∀ (u : CS) (v0 : Nat) (v1 : Option Nat) (v6 : Int32) (v7 : Int32) (v9 : Int32) (v10 : Int32) (v12 : Int32) (v13 : Int32) (x : CS × Int32), G.2 u v0 v1 v6 v7 v9 v10 v12 v13 = some x → ∀ (H : Heap) (locs : List Loc), va_P D cls (wC cB cI cJ cZ cS cP ad u) H → va_D A (wC cB cI cJ cZ cS cP ad u) → va_S A s.heap H locs → ∀ (ls : Array Slot), lv_has ls 14 [(0, .ref (ad v0)), (1, va_rf (Option.map ad v1)), (6, .int v6), (7, .int v7), (9, .int v9), (10, .int v10), (12, .int v12), (13, .int v13)] → W p l e rm_Te_order s m args below meth c H locs 0 0 (MQ below (xQ0 D cB cI cJ cZ cS cP A ad x.1 (some (.inl x.2))) args s 0 0 A) (F0 m 121 ls []))) : ∀ (u : CS) (v0 : Nat) (v1 : Option Nat) (v6 : Int32) (v7 : Int32) (v9 : Int32) (v10 : Int32) (v12 : Int32) (v13 : Int32) (x : CS × Int32), fb_Te_order_121 N G u v0 v1 v6 v7 v9 v10 v12 v13 = some x → ∀ (H : Heap) (locs : List Loc), va_P D cls (wC cB cI cJ cZ cS cP ad u) H → va_D A (wC cB cI cJ cZ cS cP ad u) → va_S A s.heap H locs → ∀ (ls : Array Slot), lv_has ls 14 [(0, .ref (ad v0)), (1, va_rf (Option.map ad v1)), (6, .int v6), (7, .int v7), (9, .int v9), (10, .int v10), (12, .int v12), (13, .int v13)] → W p l e rm_Te_order s m args below meth c H locs 0 0 (MQ below (xQ0 D cB cI cJ cZ cS cP A ad x.1 (some (.inl x.2))) args s 0 0 A) (F0 m 121 ls []) := by
  intro u v0 v1 v6 v7 v9 v10 v12 v13 x hf H locs hP hD hS ls hl
  obtain ⟨hx, hb, hr, hml, ht, hown, hK, hA, hlocks, hA0, hO, hbs⟩ := id C0
  unfold fb_Te_order_121 at hf
  refine lv_iload hx hb d_Te_order_121 (lv_at hl 7 rfl) ?_
  refine lv_iload hx hb d_Te_order_123 (lv_at hl 6 rfl) ?_
  refine lv_icmp_lt (tgt := 173) hx hb d_Te_order_125 (by decide) (fun hc => ?_) (fun hc => ?_)
  · rw [br_p _ hc] at hf
    exact wb_Te_order_173 C0 hE N G hG _ _ _ _ _ _ hf H locs hP hD hS ls (lv_sub hl [0, 1, 2, 3] rfl)
  · rw [br_n _ hc] at hf
    refine lv_iload hx hb d_Te_order_128 (lv_at hl 2 rfl) ?_
    refine lv_sipush (v := 2048) hx hb d_Te_order_130 (by decide) ?_
    refine lv_icmp_ge (tgt := 173) hx hb d_Te_order_133 (by decide) (fun hc => ?_) (fun hc => ?_)
    · rw [br_p _ hc] at hf
      exact wb_Te_order_173 C0 hE N G hG _ _ _ _ _ _ hf H locs hP hD hS ls (lv_sub hl [0, 1, 2, 3] rfl)
    · rw [br_n _ hc] at hf
      refine lv_aload_n hx hb d_Te_order_136 rfl (lv_at hl 0 rfl) ?_
      obtain ⟨r1, g1, hf⟩ := bo_some hf
      refine xg_R (i := v0) (k := 1) hx hb ht hown ck_Te hK hP (by decide) fk_Te_15 g1 d_Te_order_137 ?_
      refine lv_iload hx hb d_Te_order_140 (lv_at hl 2 rfl) ?_
      refine x_aload_n hx hb d_Te_order_142 rfl (lv_at hl 1 rfl) ?_
      refine lv_iload hx hb d_Te_order_143 (lv_at hl 4 rfl) ?_
      refine lv_iload hx hb d_Te_order_145 (lv_at hl 7 rfl) ?_
      refine lv_iadd hx hb d_Te_order_147 ?_
      obtain ⟨j2, ej2, hf⟩ := bo_some hf
      rw [ej2]
      obtain ⟨r3, g3, hf⟩ := bo_some hf
      refine xl_J (i := j2) hx hb hK hP g3 d_Te_order_148 ?_
      obtain ⟨j4, ej4, hf⟩ := bo_some hf
      rw [ej4]
      obtain ⟨w5, g5, hf⟩ := bo_some hf
      refine xs_J (i := j4) hx hb hK hP hD hS g5 d_Te_order_149 (fun H locs hP hD hS => ?_)
      refine lv_aload_n hx hb d_Te_order_150 rfl (lv_at hl 0 rfl) ?_
      obtain ⟨r6, g6, hf⟩ := bo_some hf
      refine xg_R (i := v0) (k := 2) hx hb ht hown ck_Te hK hP (by decide) fk_Te_18 g6 d_Te_order_151 ?_
      refine lv_iload hx hb d_Te_order_154 (lv_at hl 2 rfl) ?_
      refine x_aload_n hx hb d_Te_order_156 rfl (lv_at hl 1 rfl) ?_
      refine lv_iload hx hb d_Te_order_157 (lv_at hl 5 rfl) ?_
      refine lv_iload hx hb d_Te_order_159 (lv_at hl 7 rfl) ?_
      refine lv_iadd hx hb d_Te_order_161 ?_
      obtain ⟨j7, ej7, hf⟩ := bo_some hf
      rw [ej7]
      obtain ⟨r8, g8, hf⟩ := bo_some hf
      refine xl_J (i := j7) hx hb hK hP g8 d_Te_order_162 ?_
      obtain ⟨j9, ej9, hf⟩ := bo_some hf
      rw [ej9]
      obtain ⟨w10, g10, hf⟩ := bo_some hf
      refine xs_J (i := j9) hx hb hK hP hD hS g10 d_Te_order_163 (fun H locs hP hD hS => ?_)
      refine lv_iinc (v := (v6 + 1)) (lv' := [(6, .int (v6 + 1)), (0, .ref (ad v0)), (1, va_rf (Option.map ad v1)), (7, .int v7), (9, .int v9), (10, .int v10), (12, .int v12), (13, .int v13)]) hx hb d_Te_order_164 hl (k := 2) rfl rfl (by decide) (by first | rfl | simp [List.filter, cat_rf]) (fun ls hl => ?_)
      refine lv_iinc (v := (v13 + (-1))) (lv' := [(13, .int (v13 + (-1))), (6, .int (v6 + 1)), (0, .ref (ad v0)), (1, va_rf (Option.map ad v1)), (7, .int v7), (9, .int v9), (10, .int v10), (12, .int v12)]) hx hb d_Te_order_167 hl (k := 7) rfl rfl (by decide) (by first | rfl | simp [List.filter, cat_rf]) (fun ls hl => ?_)
      refine lv_goto (tgt := 121) hx hb d_Te_order_170 (by decide) ?_
      exact hG.2 _ _ _ _ _ _ _ _ _ _ hf H locs hP hD hS ls (lv_sub hl [2, 3, 1, 4, 5, 6, 7, 0] rfl)
def fb_Te_order_21 (N : Nat) (G : (CS → Nat → Option Nat → Int32 → Int32 → Option (CS × Int32)) × (CS → Nat → Option Nat → Int32 → Int32 → Int32 → Int32 → Int32 → Int32 → Option (CS × Int32))) (u : CS) (v0 : Nat) (v1 : Option Nat) (v6 : Int32) (v7 : Int32) : Option (CS × Int32) := br (decide (1000000000 ≤ v7)) (fb_Te_order_179 N G u) (br (decide (v6 ≤ 0)) (fb_Te_order_179 N G u) (bo (gR u v0 8 1) (fun r11 => bo r11 (fun j12 => bo (aJ u j12 (v6 + (-1))) (fun r13 => bo (gR u v0 8 2) (fun r14 => bo r14 (fun j15 => bo (aJ u j15 (v6 + (-1))) (fun r16 => ck (isO u v0 8) (bx (fm_Te_orderAlone N u v0 v1 r13 r16) (fun u17 r17 => br (decide (r17 = 0)) (bo (gR u17 v0 8 1) (fun r18 => bo r18 (fun j19 => bo (aJ u17 j19 (v6 + (-1))) (fun r20 => bo (gR u17 v0 8 2) (fun r21 => bo r21 (fun j22 => bo (aJ u17 j22 (v6 + (-1))) (fun r23 => bo (gR u17 v0 8 1) (fun r24 => bo r24 (fun j25 => bo (aJ u17 j25 (v6 + (-1))) (fun r26 => bx (fm_Te_cellsAt N u17 v1 r26) (fun u27 r27 => bo (gR u27 v0 8 1) (fun r28 => bo r28 (fun j29 => bo (aJ u27 j29 (v6 + (-1))) (fun r30 => bx (fm_Te_partsOf N u27 r30 r27) (fun u31 r31 => G.2 u31 (v0) (v1) ((v6 + (-1))) (v7) (r20.toInt32) (r23.toInt32) ((r27 - r31)) ((r27 - 1))))))))))))))))) (some (u17, r17))))))))))))
set_option maxRecDepth 100000 in
set_option maxHeartbeats 4000000 in
theorem wb_Te_order_21 {p : Program} {l : Launch} {e : Env} {s : State} {m : MethodId} {args : Array Value} {below : List Frame} {meth : Method} {c : Code} {s0 : State} {b0 : Nat} {D : va_G} {cB cI cJ cZ cS cP : ClassId} {A : Nat → Prop} {sk sv : Nat → Nat} {ad : Nat → Nat} (C0 : XCx p s s0 b0 m args meth c R_Te b_Te_order 14 (some .int) D cB cI cJ cZ cS cP A) (hE : ENV s0 b0 sk sv) (N : Nat) (G : (CS → Nat → Option Nat → Int32 → Int32 → Option (CS × Int32)) × (CS → Nat → Option Nat → Int32 → Int32 → Int32 → Int32 → Int32 → Int32 → Option (CS × Int32))) (hG : (∀ (u : CS) (v0 : Nat) (v1 : Option Nat) (v6 : Int32) (v7 : Int32) (x : CS × Int32), G.1 u v0 v1 v6 v7 = some x → ∀ (H : Heap) (locs : List Loc), va_P D cls (wC cB cI cJ cZ cS cP ad u) H → va_D A (wC cB cI cJ cZ cS cP ad u) → va_S A s.heap H locs → ∀ (ls : Array Slot), lv_has ls 14 [(0, .ref (ad v0)), (1, va_rf (Option.map ad v1)), (6, .int v6), (7, .int v7)] → W p l e rm_Te_order s m args below meth c H locs 0 0 (MQ below (xQ0 D cB cI cJ cZ cS cP A ad x.1 (some (.inl x.2))) args s 0 0 A) (F0 m 21 ls [])) ∧ (∀ (u : CS) (v0 : Nat) (v1 : Option Nat) (v6 : Int32) (v7 : Int32) (v9 : Int32) (v10 : Int32) (v12 : Int32) (v13 : Int32) (x : CS × Int32), G.2 u v0 v1 v6 v7 v9 v10 v12 v13 = some x → ∀ (H : Heap) (locs : List Loc), va_P D cls (wC cB cI cJ cZ cS cP ad u) H → va_D A (wC cB cI cJ cZ cS cP ad u) → va_S A s.heap H locs → ∀ (ls : Array Slot), lv_has ls 14 [(0, .ref (ad v0)), (1, va_rf (Option.map ad v1)), (6, .int v6), (7, .int v7), (9, .int v9), (10, .int v10), (12, .int v12), (13, .int v13)] → W p l e rm_Te_order s m args below meth c H locs 0 0 (MQ below (xQ0 D cB cI cJ cZ cS cP A ad x.1 (some (.inl x.2))) args s 0 0 A) (F0 m 121 ls []))) : ∀ (u : CS) (v0 : Nat) (v1 : Option Nat) (v6 : Int32) (v7 : Int32) (x : CS × Int32), fb_Te_order_21 N G u v0 v1 v6 v7 = some x → ∀ (H : Heap) (locs : List Loc), va_P D cls (wC cB cI cJ cZ cS cP ad u) H → va_D A (wC cB cI cJ cZ cS cP ad u) → va_S A s.heap H locs → ∀ (ls : Array Slot), lv_has ls 14 [(0, .ref (ad v0)), (1, va_rf (Option.map ad v1)), (6, .int v6), (7, .int v7)] → W p l e rm_Te_order s m args below meth c H locs 0 0 (MQ below (xQ0 D cB cI cJ cZ cS cP A ad x.1 (some (.inl x.2))) args s 0 0 A) (F0 m 21 ls []) := by
  intro u v0 v1 v6 v7 x hf H locs hP hD hS ls hl
  obtain ⟨hx, hb, hr, hml, ht, hown, hK, hA, hlocks, hA0, hO, hbs⟩ := id C0
  unfold fb_Te_order_21 at hf
  refine lv_iload hx hb d_Te_order_21 (lv_at hl 3 rfl) ?_
  refine lv_ldc (v := 1000000000) hx hb hown (ht _ (wd_of 1345 (by decide +kernel) rfl)) d_Te_order_23 ?_
  refine lv_icmp_ge (tgt := 179) hx hb d_Te_order_25 (by decide) (fun hc => ?_) (fun hc => ?_)
  · rw [br_p _ hc] at hf
    exact wb_Te_order_179 C0 hE N G hG _ _ hf H locs hP hD hS ls (lv_sub hl [] rfl)
  · rw [br_n _ hc] at hf
    refine lv_iload hx hb d_Te_order_28 (lv_at hl 2 rfl) ?_
    refine lv_if_le (tgt := 179) hx hb d_Te_order_30 (by decide) (fun hc => ?_) (fun hc => ?_)
    · rw [br_p _ hc] at hf
      exact wb_Te_order_179 C0 hE N G hG _ _ hf H locs hP hD hS ls (lv_sub hl [] rfl)
    · rw [br_n _ hc] at hf
      refine lv_iinc (v := (v6 + (-1))) (lv' := [(6, .int (v6 + (-1))), (0, .ref (ad v0)), (1, va_rf (Option.map ad v1)), (7, .int v7)]) hx hb d_Te_order_33 hl (k := 2) rfl rfl (by decide) (by first | rfl | simp [List.filter, cat_rf]) (fun ls hl => ?_)
      refine lv_aload_n hx hb d_Te_order_36 rfl (lv_at hl 1 rfl) ?_
      refine x_aload_n hx hb d_Te_order_37 rfl (lv_at hl 2 rfl) ?_
      refine lv_aload_n hx hb d_Te_order_38 rfl (lv_at hl 1 rfl) ?_
      obtain ⟨r11, g11, hf⟩ := bo_some hf
      refine xg_R (i := v0) (k := 1) hx hb ht hown ck_Te hK hP (by decide) fk_Te_15 g11 d_Te_order_39 ?_
      refine lv_iload hx hb d_Te_order_42 (lv_at hl 0 rfl) ?_
      obtain ⟨j12, ej12, hf⟩ := bo_some hf
      rw [ej12]
      obtain ⟨r13, g13, hf⟩ := bo_some hf
      refine xl_J (i := j12) hx hb hK hP g13 d_Te_order_44 ?_
      refine lv_aload_n hx hb d_Te_order_45 rfl (lv_at hl 1 rfl) ?_
      obtain ⟨r14, g14, hf⟩ := bo_some hf
      refine xg_R (i := v0) (k := 2) hx hb ht hown ck_Te hK hP (by decide) fk_Te_18 g14 d_Te_order_46 ?_
      refine lv_iload hx hb d_Te_order_49 (lv_at hl 0 rfl) ?_
      obtain ⟨j15, ej15, hf⟩ := bo_some hf
      rw [ej15]
      obtain ⟨r16, g16, hf⟩ := bo_some hf
      refine xl_J (i := j15) hx hb hK hP g16 d_Te_order_51 ?_
      obtain ⟨hO9, hf⟩ := ck_some hf
      obtain ⟨u17, r17, hc17, hf⟩ := bx_some hf
      refine xV0 (i := v0) (As := [va_rf (Option.map ad v1), .long r13, .long r16]) (rest := []) C0 hP hD hS ck_Te hO9 (c_Te_orderAlone N hE hc17) k_Te_orderAlone (wd_of 1893 (by decide +kernel) rfl) hi_Te_orderAlone hs_Te_orderAlone hini_Te rfl rfl hd_Te_orderAlone rfl rm_Te_order_Te_orderAlone hl.1 (Nat.le_of_ble_eq_true rfl) d_Te_order_52 rfl ⟨Nat.zero_le _, Nat.zero_le _⟩ (fun H locs hP hD hS => ?_)
      refine lv_istore (lv' := [(8, .int r17), (6, .int (v6 + (-1))), (0, .ref (ad v0)), (1, va_rf (Option.map ad v1)), (7, .int v7)]) hx hb d_Te_order_55 hl (by decide) (by first | rfl | simp [List.filter, cat_rf]) (fun ls hl => ?_)
      refine lv_iload hx hb d_Te_order_57 (lv_at hl 0 rfl) ?_
      refine lv_if_eq (tgt := 65) hx hb d_Te_order_59 (by decide) (fun hc => ?_) (fun hc => ?_)
      · rw [br_p _ hc] at hf
        refine lv_aload_n hx hb d_Te_order_65 rfl (lv_at hl 2 rfl) ?_
        obtain ⟨r18, g18, hf⟩ := bo_some hf
        refine xg_R (i := v0) (k := 1) hx hb ht hown ck_Te hK hP (by decide) fk_Te_15 g18 d_Te_order_66 ?_
        refine lv_iload hx hb d_Te_order_69 (lv_at hl 1 rfl) ?_
        obtain ⟨j19, ej19, hf⟩ := bo_some hf
        rw [ej19]
        obtain ⟨r20, g20, hf⟩ := bo_some hf
        refine xl_J (i := j19) hx hb hK hP g20 d_Te_order_71 ?_
        refine lv_l2i hx hb d_Te_order_72 rfl ?_
        refine lv_istore (lv' := [(9, .int r20.toInt32), (8, .int r17), (6, .int (v6 + (-1))), (0, .ref (ad v0)), (1, va_rf (Option.map ad v1)), (7, .int v7)]) hx hb d_Te_order_73 hl (by decide) (by first | rfl | simp [List.filter, cat_rf]) (fun ls hl => ?_)
        refine lv_aload_n hx hb d_Te_order_75 rfl (lv_at hl 3 rfl) ?_
        obtain ⟨r21, g21, hf⟩ := bo_some hf
        refine xg_R (i := v0) (k := 2) hx hb ht hown ck_Te hK hP (by decide) fk_Te_18 g21 d_Te_order_76 ?_
        refine lv_iload hx hb d_Te_order_79 (lv_at hl 2 rfl) ?_
        obtain ⟨j22, ej22, hf⟩ := bo_some hf
        rw [ej22]
        obtain ⟨r23, g23, hf⟩ := bo_some hf
        refine xl_J (i := j22) hx hb hK hP g23 d_Te_order_81 ?_
        refine lv_l2i hx hb d_Te_order_82 rfl ?_
        refine lv_istore (lv' := [(10, .int r23.toInt32), (9, .int r20.toInt32), (8, .int r17), (6, .int (v6 + (-1))), (0, .ref (ad v0)), (1, va_rf (Option.map ad v1)), (7, .int v7)]) hx hb d_Te_order_83 hl (by decide) (by first | rfl | simp [List.filter, cat_rf]) (fun ls hl => ?_)
        refine x_aload_n hx hb d_Te_order_85 rfl (lv_at hl 5 rfl) ?_
        refine lv_aload_n hx hb d_Te_order_86 rfl (lv_at hl 4 rfl) ?_
        obtain ⟨r24, g24, hf⟩ := bo_some hf
        refine xg_R (i := v0) (k := 1) hx hb ht hown ck_Te hK hP (by decide) fk_Te_15 g24 d_Te_order_87 ?_
        refine lv_iload hx hb d_Te_order_90 (lv_at hl 3 rfl) ?_
        obtain ⟨j25, ej25, hf⟩ := bo_some hf
        rw [ej25]
        obtain ⟨r26, g26, hf⟩ := bo_some hf
        refine xl_J (i := j25) hx hb hK hP g26 d_Te_order_92 ?_
        obtain ⟨u27, r27, hc27, hf⟩ := bx_some hf
        refine xS0 (As := [va_rf (Option.map ad v1), .long r26]) (rest := []) C0 hP hD hS (c_Te_cellsAt N hc27) k_Te_cellsAt (wd_of 1689 (by decide +kernel) rfl) ht_Te_cellsAt hini_Te rfl rfl hd_Te_cellsAt rfl rm_Te_order_Te_cellsAt hl.1 (Nat.le_of_ble_eq_true rfl) d_Te_order_93 rfl ⟨Nat.zero_le _, Nat.zero_le _⟩ (fun H locs hP hD hS => ?_)
        refine lv_istore (lv' := [(11, .int r27), (10, .int r23.toInt32), (9, .int r20.toInt32), (8, .int r17), (6, .int (v6 + (-1))), (0, .ref (ad v0)), (1, va_rf (Option.map ad v1)), (7, .int v7)]) hx hb d_Te_order_96 hl (by decide) (by first | rfl | simp [List.filter, cat_rf]) (fun ls hl => ?_)
        refine lv_iload hx hb d_Te_order_98 (lv_at hl 0 rfl) ?_
        refine lv_aload_n hx hb d_Te_order_100 rfl (lv_at hl 5 rfl) ?_
        obtain ⟨r28, g28, hf⟩ := bo_some hf
        refine xg_R (i := v0) (k := 1) hx hb ht hown ck_Te hK hP (by decide) fk_Te_15 g28 d_Te_order_101 ?_
        refine lv_iload hx hb d_Te_order_104 (lv_at hl 4 rfl) ?_
        obtain ⟨j29, ej29, hf⟩ := bo_some hf
        rw [ej29]
        obtain ⟨r30, g30, hf⟩ := bo_some hf
        refine xl_J (i := j29) hx hb hK hP g30 d_Te_order_106 ?_
        refine lv_iload hx hb d_Te_order_107 (lv_at hl 0 rfl) ?_
        obtain ⟨u31, r31, hc31, hf⟩ := bx_some hf
        refine xS0 (As := [.long r30, .int r27]) (rest := [.int r27]) C0 hP hD hS (c_Te_partsOf N hc31) k_Te_partsOf (wd_of 1904 (by decide +kernel) rfl) ht_Te_partsOf hini_Te rfl rfl hd_Te_partsOf rfl rm_Te_order_Te_partsOf hl.1 (Nat.le_of_ble_eq_true rfl) d_Te_order_109 rfl ⟨Nat.zero_le _, Nat.zero_le _⟩ (fun H locs hP hD hS => ?_)
        refine lv_isub hx hb d_Te_order_112 ?_
        refine lv_istore (lv' := [(12, .int (r27 - r31)), (11, .int r27), (10, .int r23.toInt32), (9, .int r20.toInt32), (8, .int r17), (6, .int (v6 + (-1))), (0, .ref (ad v0)), (1, va_rf (Option.map ad v1)), (7, .int v7)]) hx hb d_Te_order_113 hl (by decide) (by first | rfl | simp [List.filter, cat_rf]) (fun ls hl => ?_)
        refine lv_iload hx hb d_Te_order_115 (lv_at hl 1 rfl) ?_
        refine lv_iconst (v := 1) hx hb d_Te_order_117 (by decide) ?_
        refine lv_isub hx hb d_Te_order_118 ?_
        refine lv_istore (lv' := [(13, .int (r27 - 1)), (12, .int (r27 - r31)), (11, .int r27), (10, .int r23.toInt32), (9, .int r20.toInt32), (8, .int r17), (6, .int (v6 + (-1))), (0, .ref (ad v0)), (1, va_rf (Option.map ad v1)), (7, .int v7)]) hx hb d_Te_order_119 hl (by decide) (by first | rfl | simp [List.filter, cat_rf]) (fun ls hl => ?_)
        exact hG.2 _ _ _ _ _ _ _ _ _ _ hf H locs hP hD hS ls (lv_sub hl [7, 8, 6, 9, 4, 3, 1, 0] rfl)
      · rw [br_n _ hc] at hf
        refine lv_iload hx hb d_Te_order_62 (lv_at hl 0 rfl) ?_
        exact xr0_i C0 hP hD hS hf d_Te_order_64
def fb_Te_order_0 (N : Nat) (G : (CS → Nat → Option Nat → Int32 → Int32 → Option (CS × Int32)) × (CS → Nat → Option Nat → Int32 → Int32 → Int32 → Int32 → Int32 → Int32 → Option (CS × Int32))) (u : CS) (v0 : Nat) (v1 : Option Nat) (v2 : Int64) (v4 : Int64) : Option (CS × Int32) := bo (gR u v0 8 1) (fun r32 => bo r32 (fun j33 => bo (sJ u j33 (0 : Int32) v2) (fun w34 => bo (gR w34 v0 8 2) (fun r35 => bo r35 (fun j36 => bo (sJ w34 j36 (0 : Int32) v4) (fun w37 => G.1 w37 (v0) (v1) (1) (0)))))))
set_option maxRecDepth 100000 in
set_option maxHeartbeats 4000000 in
theorem wb_Te_order_0 {p : Program} {l : Launch} {e : Env} {s : State} {m : MethodId} {args : Array Value} {below : List Frame} {meth : Method} {c : Code} {s0 : State} {b0 : Nat} {D : va_G} {cB cI cJ cZ cS cP : ClassId} {A : Nat → Prop} {sk sv : Nat → Nat} {ad : Nat → Nat} (C0 : XCx p s s0 b0 m args meth c R_Te b_Te_order 14 (some .int) D cB cI cJ cZ cS cP A) (hE : ENV s0 b0 sk sv) (N : Nat) (G : (CS → Nat → Option Nat → Int32 → Int32 → Option (CS × Int32)) × (CS → Nat → Option Nat → Int32 → Int32 → Int32 → Int32 → Int32 → Int32 → Option (CS × Int32))) (hG : (∀ (u : CS) (v0 : Nat) (v1 : Option Nat) (v6 : Int32) (v7 : Int32) (x : CS × Int32), G.1 u v0 v1 v6 v7 = some x → ∀ (H : Heap) (locs : List Loc), va_P D cls (wC cB cI cJ cZ cS cP ad u) H → va_D A (wC cB cI cJ cZ cS cP ad u) → va_S A s.heap H locs → ∀ (ls : Array Slot), lv_has ls 14 [(0, .ref (ad v0)), (1, va_rf (Option.map ad v1)), (6, .int v6), (7, .int v7)] → W p l e rm_Te_order s m args below meth c H locs 0 0 (MQ below (xQ0 D cB cI cJ cZ cS cP A ad x.1 (some (.inl x.2))) args s 0 0 A) (F0 m 21 ls [])) ∧ (∀ (u : CS) (v0 : Nat) (v1 : Option Nat) (v6 : Int32) (v7 : Int32) (v9 : Int32) (v10 : Int32) (v12 : Int32) (v13 : Int32) (x : CS × Int32), G.2 u v0 v1 v6 v7 v9 v10 v12 v13 = some x → ∀ (H : Heap) (locs : List Loc), va_P D cls (wC cB cI cJ cZ cS cP ad u) H → va_D A (wC cB cI cJ cZ cS cP ad u) → va_S A s.heap H locs → ∀ (ls : Array Slot), lv_has ls 14 [(0, .ref (ad v0)), (1, va_rf (Option.map ad v1)), (6, .int v6), (7, .int v7), (9, .int v9), (10, .int v10), (12, .int v12), (13, .int v13)] → W p l e rm_Te_order s m args below meth c H locs 0 0 (MQ below (xQ0 D cB cI cJ cZ cS cP A ad x.1 (some (.inl x.2))) args s 0 0 A) (F0 m 121 ls []))) : ∀ (u : CS) (v0 : Nat) (v1 : Option Nat) (v2 : Int64) (v4 : Int64) (x : CS × Int32), fb_Te_order_0 N G u v0 v1 v2 v4 = some x → ∀ (H : Heap) (locs : List Loc), va_P D cls (wC cB cI cJ cZ cS cP ad u) H → va_D A (wC cB cI cJ cZ cS cP ad u) → va_S A s.heap H locs → ∀ (ls : Array Slot), lv_has ls 14 [(0, .ref (ad v0)), (1, va_rf (Option.map ad v1)), (2, .long v2), (4, .long v4)] → W p l e rm_Te_order s m args below meth c H locs 0 0 (MQ below (xQ0 D cB cI cJ cZ cS cP A ad x.1 (some (.inl x.2))) args s 0 0 A) (F0 m 0 ls []) := by
  intro u v0 v1 v2 v4 x hf H locs hP hD hS ls hl
  obtain ⟨hx, hb, hr, hml, ht, hown, hK, hA, hlocks, hA0, hO, hbs⟩ := id C0
  unfold fb_Te_order_0 at hf
  refine lv_iconst (v := 1) hx hb d_Te_order_0 (by decide) ?_
  refine lv_istore (lv' := [(6, .int 1), (0, .ref (ad v0)), (1, va_rf (Option.map ad v1)), (2, .long v2), (4, .long v4)]) hx hb d_Te_order_1 hl (by decide) (by first | rfl | simp [List.filter, cat_rf]) (fun ls hl => ?_)
  refine lv_aload_n hx hb d_Te_order_3 rfl (lv_at hl 1 rfl) ?_
  obtain ⟨r32, g32, hf⟩ := bo_some hf
  refine xg_R (i := v0) (k := 1) hx hb ht hown ck_Te hK hP (by decide) fk_Te_15 g32 d_Te_order_4 ?_
  refine lv_iconst (v := 0) hx hb d_Te_order_7 (by decide) ?_
  refine lv_lload_n hx hb d_Te_order_8 rfl (lv_at hl 3 rfl) ?_
  obtain ⟨j33, ej33, hf⟩ := bo_some hf
  rw [ej33]
  obtain ⟨w34, g34, hf⟩ := bo_some hf
  refine xs_J (i := j33) hx hb hK hP hD hS g34 d_Te_order_9 (fun H locs hP hD hS => ?_)
  refine lv_aload_n hx hb d_Te_order_10 rfl (lv_at hl 1 rfl) ?_
  obtain ⟨r35, g35, hf⟩ := bo_some hf
  refine xg_R (i := v0) (k := 2) hx hb ht hown ck_Te hK hP (by decide) fk_Te_18 g35 d_Te_order_11 ?_
  refine lv_iconst (v := 0) hx hb d_Te_order_14 (by decide) ?_
  refine lv_lload hx hb d_Te_order_15 (lv_at hl 4 rfl) ?_
  obtain ⟨j36, ej36, hf⟩ := bo_some hf
  rw [ej36]
  obtain ⟨w37, g37, hf⟩ := bo_some hf
  refine xs_J (i := j36) hx hb hK hP hD hS g37 d_Te_order_17 (fun H locs hP hD hS => ?_)
  refine lv_iconst (v := 0) hx hb d_Te_order_18 (by decide) ?_
  refine lv_istore (lv' := [(7, .int 0), (6, .int 1), (0, .ref (ad v0)), (1, va_rf (Option.map ad v1)), (2, .long v2), (4, .long v4)]) hx hb d_Te_order_19 hl (by decide) (by first | rfl | simp [List.filter, cat_rf]) (fun ls hl => ?_)
  exact hG.1 _ _ _ _ _ _ hf H locs hP hD hS ls (lv_sub hl [2, 3, 1, 0] rfl)
def gg_Te_order (N : Nat) : Nat → ((CS → Nat → Option Nat → Int32 → Int32 → Option (CS × Int32)) × (CS → Nat → Option Nat → Int32 → Int32 → Int32 → Int32 → Int32 → Int32 → Option (CS × Int32)))
  | 0 => (fun _ _ _ _ _ => none, fun _ _ _ _ _ _ _ _ _ => none)
  | n + 1 => (fb_Te_order_21 N (gg_Te_order N n), fb_Te_order_121 N (gg_Te_order N n))
theorem wg_Te_order {p : Program} {l : Launch} {e : Env} {s : State} {m : MethodId} {args : Array Value} {below : List Frame} {meth : Method} {c : Code} {s0 : State} {b0 : Nat} {D : va_G} {cB cI cJ cZ cS cP : ClassId} {A : Nat → Prop} {sk sv : Nat → Nat} {ad : Nat → Nat} (C0 : XCx p s s0 b0 m args meth c R_Te b_Te_order 14 (some .int) D cB cI cJ cZ cS cP A) (hE : ENV s0 b0 sk sv) (N : Nat) : ∀ n : Nat, (∀ (u : CS) (v0 : Nat) (v1 : Option Nat) (v6 : Int32) (v7 : Int32) (x : CS × Int32), (gg_Te_order N n).1 u v0 v1 v6 v7 = some x → ∀ (H : Heap) (locs : List Loc), va_P D cls (wC cB cI cJ cZ cS cP ad u) H → va_D A (wC cB cI cJ cZ cS cP ad u) → va_S A s.heap H locs → ∀ (ls : Array Slot), lv_has ls 14 [(0, .ref (ad v0)), (1, va_rf (Option.map ad v1)), (6, .int v6), (7, .int v7)] → W p l e rm_Te_order s m args below meth c H locs 0 0 (MQ below (xQ0 D cB cI cJ cZ cS cP A ad x.1 (some (.inl x.2))) args s 0 0 A) (F0 m 21 ls [])) ∧ (∀ (u : CS) (v0 : Nat) (v1 : Option Nat) (v6 : Int32) (v7 : Int32) (v9 : Int32) (v10 : Int32) (v12 : Int32) (v13 : Int32) (x : CS × Int32), (gg_Te_order N n).2 u v0 v1 v6 v7 v9 v10 v12 v13 = some x → ∀ (H : Heap) (locs : List Loc), va_P D cls (wC cB cI cJ cZ cS cP ad u) H → va_D A (wC cB cI cJ cZ cS cP ad u) → va_S A s.heap H locs → ∀ (ls : Array Slot), lv_has ls 14 [(0, .ref (ad v0)), (1, va_rf (Option.map ad v1)), (6, .int v6), (7, .int v7), (9, .int v9), (10, .int v10), (12, .int v12), (13, .int v13)] → W p l e rm_Te_order s m args below meth c H locs 0 0 (MQ below (xQ0 D cB cI cJ cZ cS cP A ad x.1 (some (.inl x.2))) args s 0 0 A) (F0 m 121 ls []))
  | 0 => ⟨(fun u v0 v1 v6 v7 x hf => by cases hf), (fun u v0 v1 v6 v7 v9 v10 v12 v13 x hf => by cases hf)⟩
  | n + 1 => ⟨wb_Te_order_21 C0 hE N (gg_Te_order N n) (wg_Te_order C0 hE N n), wb_Te_order_121 C0 hE N (gg_Te_order N n) (wg_Te_order C0 hE N n)⟩
def fm_Te_order (N : Nat) (u : CS) (v0 : Nat) (v1 : Option Nat) (v2 : Int64) (v4 : Int64) : Option (CS × Int32) := fb_Te_order_0 N (gg_Te_order N N) u v0 v1 v2 v4
set_option maxRecDepth 100000 in
set_option maxHeartbeats 4000000 in
theorem c_Te_order (N : Nat) {l : Launch} {s0 : State} {b0 : Nat} {D : va_G} {cB cI cJ cZ cS cP : ClassId} {sk sv : Nat → Nat} {ad : Nat → Nat} {u : CS} {sz : Nat} {v0 : Nat} {v1 : Option Nat} {v2 : Int64} {v4 : Int64} {x : CS × Int32} (hE : ENV s0 b0 sk sv) (hf : fm_Te_order N u v0 v1 v2 v4 = some x) : Met l y_Te_order (wd_ws y_Te_order b_Te_order 14 (some .int)) rm_Te_order (xPc s0 b0 D cB cI cJ cZ cS cP ad u sz [.ref (ad v0), va_rf (Option.map ad v1), .long v2, .long v4]) (xQ0 D cB cI cJ cZ cS cP (xA cB cI cJ cZ cS cP ad u sz) ad x.1 (some (.inl x.2))) 0 0 (xA cB cI cJ cZ cS cP ad u sz) :=
  xMet (by decide) rfl (by cases v1 <;> exact Nat.le_of_ble_eq_true rfl) (fun p e s m below meth c ls hsz hnm C0 hP hD hS hl =>
    wb_Te_order_0 C0 hE N (gg_Te_order N N) (wg_Te_order C0 hE N N) u _ _ _ _ x hf s.heap [] hP hD hS ls (by rw [show lv_args 0 [.ref (ad v0), va_rf (Option.map ad v1), .long v2, .long v4] = [(0, .ref (ad v0)), (1, va_rf (Option.map ad v1)), (2, .long v2), (4, .long v4)] from by cases v1 <;> rfl] at hl; exact lv_sub hl [0, 1, 2, 3] rfl))
abbrev b_Ma_number : ByteArray := prog_5_method_23_code
def y_Ma_number : MethodName := ⟨R_Ma, "number", "(IJI)V"⟩
def w_Ma_number : List Cond := wd_ws y_Ma_number b_Ma_number 5 none
set_option maxRecDepth 100000 in
theorem k_Ma_number : Cond.code y_Ma_number b_Ma_number 5 none ∈ wd_tbl := wd_of 1917 rfl rfl
theorem d_Ma_number_0 : decode b_Ma_number 0 = .ok (.lload_n 2, 1) := by decide +kernel
theorem d_Ma_number_1 : decode b_Ma_number 1 = .ok (.lload_n 2, 1) := by decide +kernel
theorem d_Ma_number_2 : decode b_Ma_number 2 = .ok (.l2i, 1) := by decide +kernel
theorem d_Ma_number_3 : decode b_Ma_number 3 = .ok (.i2l, 1) := by decide +kernel
theorem d_Ma_number_4 : decode b_Ma_number 4 = .ok (.lcmp, 1) := by decide +kernel
theorem d_Ma_number_5 : decode b_Ma_number 5 = .ok (.ifCond .eq 10, 3) := by decide +kernel
theorem d_Ma_number_8 : decode b_Ma_number 8 = .ok (.aload_n 0, 1) := by decide +kernel
theorem d_Ma_number_9 : decode b_Ma_number 9 = .ok (.bipush 12, 2) := by decide +kernel
theorem d_Ma_number_11 : decode b_Ma_number 11 = .ok (.invokevirtual 249, 3) := by decide +kernel
theorem d_Ma_number_14 : decode b_Ma_number 14 = .ok (.return_, 1) := by decide +kernel
theorem d_Ma_number_15 : decode b_Ma_number 15 = .ok (.aload_n 0, 1) := by decide +kernel
theorem d_Ma_number_16 : decode b_Ma_number 16 = .ok (.iload_n 1, 1) := by decide +kernel
theorem d_Ma_number_17 : decode b_Ma_number 17 = .ok (.iconst 0, 1) := by decide +kernel
theorem d_Ma_number_18 : decode b_Ma_number 18 = .ok (.lload_n 2, 1) := by decide +kernel
theorem d_Ma_number_19 : decode b_Ma_number 19 = .ok (.l2i, 1) := by decide +kernel
theorem d_Ma_number_20 : decode b_Ma_number 20 = .ok (.invokestatic 101, 3) := by decide +kernel
theorem d_Ma_number_23 : decode b_Ma_number 23 = .ok (.invokevirtual 145, 3) := by decide +kernel
theorem d_Ma_number_26 : decode b_Ma_number 26 = .ok (.aload_n 0, 1) := by decide +kernel
theorem d_Ma_number_27 : decode b_Ma_number 27 = .ok (.dup, 1) := by decide +kernel
theorem d_Ma_number_28 : decode b_Ma_number 28 = .ok (.getfield 40, 3) := by decide +kernel
theorem d_Ma_number_31 : decode b_Ma_number 31 = .ok (.iload 4, 2) := by decide +kernel
theorem d_Ma_number_33 : decode b_Ma_number 33 = .ok (.iadd, 1) := by decide +kernel
theorem d_Ma_number_34 : decode b_Ma_number 34 = .ok (.putfield 40, 3) := by decide +kernel
theorem d_Ma_number_37 : decode b_Ma_number 37 = .ok (.return_, 1) := by decide +kernel
set_option maxRecDepth 100000 in
theorem hl_Ma_number : Cond.methodLink R_Ma 257 y_Ma_number ∈ wd_tbl := wd_of 1914 (by decide +kernel) rfl
set_option maxRecDepth 100000 in
theorem hi_Ma_number : Cond.instanceMethod y_Ma_number ∈ wd_tbl := wd_of 1916 (by decide +kernel) rfl
set_option maxRecDepth 100000 in
theorem hs_Ma_number : Cond.selects R_Ma y_Ma_number y_Ma_number ∈ wd_tbl := wd_of 102 (by decide +kernel) rfl
theorem hd_Ma_number : y_Ma_number.cls = R_Ma ∧ y_Ma_number.cls ≠ "java/lang/invoke/MethodHandle" ∧ y_Ma_number.cls ≠ "java/lang/invoke/VarHandle" ∧ (parseMethodDescriptor y_Ma_number.desc).map (fun d => d.parameters.length) = some 3 := by decide +kernel
def rm_Ma_number (mc ms : Nat) : Room := { frames := 4, cells := mc, slots := ms, locals := 127 }
theorem rm_Ma_number_Ma_wrong {mc ms : Nat} : (rm_Ma_wrong).frames + 1 ≤ (rm_Ma_number mc ms).frames ∧ 8 + (2 + 11) + (rm_Ma_wrong).locals ≤ (rm_Ma_number mc ms).locals := by
  show 2 + 1 ≤ 4 ∧ 8 + (2 + 11) + 41 ≤ 127
  decide
theorem rm_Ma_number_Te_make {mc ms : Nat} : (rm_Te_make).frames + 1 ≤ (rm_Ma_number mc ms).frames ∧ 8 + (2 + 11) + (rm_Te_make).locals ≤ (rm_Ma_number mc ms).locals := by
  show 0 + 1 ≤ 4 ∧ 8 + (2 + 11) + 0 ≤ 127
  decide
theorem rm_Ma_number_Ma_answer {mc ms : Nat} {mc2 ms2 : Nat} : (rm_Ma_answer mc2 ms2).frames + 1 ≤ (rm_Ma_number mc ms).frames ∧ 8 + (4 + 11) + (rm_Ma_answer mc2 ms2).locals ≤ (rm_Ma_number mc ms).locals := by
  show 3 + 1 ≤ 4 ∧ 8 + (4 + 11) + 104 ≤ 127
  decide
def fb_Ma_number_0 (N : Nat) (G : Unit) (u : CS) (v0 : Nat) (v1 : Int32) (v2 : Int64) (v4 : Int32) : Option (CS × Unit) := br (decide ((lg_cmp v2 ((v2.toInt32).toInt64)) = 0)) (bx (gz u (fm_Te_make N u 0 (v2.toInt32))) (fun u1 r1 => gw u1 (ck (isO u1 v0 5) (ck (List.all [some v0] (okR u1.1.1)) (bx (gw u1 (fm_Ma_answer N u1 v0 v1 r1)) (fun u2 r2 => gw u2 (bo (gI u2 v0 5 5) (fun r3 => bo (pF u2 v0 5 5 (.inl (r3 + v4))) (fun w4 => some (w4, ())))))))))) (ck (isO u v0 5) (bx (gz u (fm_Ma_wrong N u v0 12)) (fun u5 r5 => gw u5 (some (u5, ())))))
set_option maxRecDepth 100000 in
set_option maxHeartbeats 4000000 in
theorem wb_Ma_number_0 {p : Program} {l : Launch} {e : Env} {s : State} {m : MethodId} {args : Array Value} {below : List Frame} {meth : Method} {c : Code} {s0 : State} {b0 : Nat} {D : va_G} {cB cI cJ cZ cS cP : ClassId} {A : Nat → Prop} {sk sv : Nat → Nat} {uN uS mc ms : Nat} {ad0 : Nat → Nat} (C0 : XCx p s s0 b0 m args meth c R_Ma b_Ma_number 5 none D cB cI cJ cZ cS cP A) (hE : ENV s0 b0 sk sv) (N : Nat) (G : Unit) (hG : True) : ∀ (u : CS) (v0 : Nat) (v1 : Int32) (v2 : Int64) (v4 : Int32) (x : CS × Unit), fb_Ma_number_0 N G u v0 v1 v2 v4 = some x → (uN + mc = x.1.1.1 ∧ uS + ms = x.1.1.2) → ∀ (ad : Nat → Nat) (ce sl : Nat), AB uN uS ad0 u ad ce sl → ∀ (H : Heap) (locs : List Loc), va_P D cls (wC cB cI cJ cZ cS cP ad u) H → va_D A (wC cB cI cJ cZ cS cP ad u) → va_S A s.heap H locs → ∀ (ls : Array Slot), lv_has ls 5 [(0, .ref (ad v0)), (1, .int v1), (2, .long v2), (4, .int v4)] → W p l e (rm_Ma_number mc ms) s m args below meth c H locs ce sl (MQ below (xQ D cB cI cJ cZ cS cP A ad0 uN x.1 none) args s mc ms A) (F0 m 0 ls []) := by
  intro u v0 v1 v2 v4 x hf hm ad ce sl hB H locs hP hD hS ls hl
  obtain ⟨hx, hb, hr, hml, ht, hown, hK, hA, hlocks, hA0, hO, hbs⟩ := id C0
  unfold fb_Ma_number_0 at hf
  refine lv_lload_n hx hb d_Ma_number_0 rfl (lv_at hl 2 rfl) ?_
  refine lv_lload_n hx hb d_Ma_number_1 rfl (lv_at hl 2 rfl) ?_
  refine lv_l2i hx hb d_Ma_number_2 rfl ?_
  refine lv_i2l hx hb d_Ma_number_3 rfl ?_
  refine W.lcmp hx hb d_Ma_number_4 ?_
  refine lv_if_eq (tgt := 15) hx hb d_Ma_number_5 (by decide) (fun hc => ?_) (fun hc => ?_)
  · rw [br_p _ hc] at hf
    refine lv_aload_n hx hb d_Ma_number_15 rfl (lv_at hl 0 rfl) ?_
    refine lv_iload_n hx hb d_Ma_number_16 rfl (lv_at hl 1 rfl) ?_
    refine lv_iconst (v := 0) hx hb d_Ma_number_17 (by decide) ?_
    refine lv_lload_n hx hb d_Ma_number_18 rfl (lv_at hl 2 rfl) ?_
    refine lv_l2i hx hb d_Ma_number_19 rfl ?_
    obtain ⟨u1, r1, hc1, hf⟩ := bx_some hf
    obtain ⟨hc1, hz1⟩ := gz_some hc1
    obtain ⟨hf, hw1⟩ := gw_some hf
    refine xS0 (As := [.int 0, .int v2.toInt32]) (rest := [.int v1, .ref (ad v0)]) C0 hP hD hS (c_Te_make N hc1) k_Te_make (wd_of 1671 (by decide +kernel) rfl) ht_Te_make hini_Te rfl rfl hd_Te_make rfl rm_Ma_number_Te_make hl.1 (Nat.le_of_ble_eq_true rfl) d_Ma_number_20 rfl (hB.fit hm hz1 hw1) (fun H locs hP hD hS => ?_)
    have hB := hB.same2 hz1
    obtain ⟨hO9, hf⟩ := ck_some hf
    obtain ⟨hk2, hf⟩ := ck_some hf
    obtain ⟨u2, r2, hc2, hf⟩ := bx_some hf
    obtain ⟨hc2, hq2⟩ := gw_some hc2
    obtain ⟨hf, hw2⟩ := gw_some hf
    refine yV (i := v0) (As := [.int v1, .long r1]) (rest := []) C0 hP hD hS ck_Ma hO9 (c_Ma_answer N hE hc2 (gm hq2)) k_Ma_answer (wd_of 1744 (by decide +kernel) rfl) hi_Ma_answer hs_Ma_answer hini_Ma rfl rfl hd_Ma_answer rfl rm_Ma_number_Ma_answer hl.1 (Nat.le_of_ble_eq_true rfl) d_Ma_number_23 rfl (gm hq2) hB hm hw2 (fun ad2 H locs ce sl hg2 hB hP hD hS => ?_)
    have q2_0 : ad2 v0 = ad v0 := ko_O (k := 0) hk2 rfl hg2
    have hl : lv_has ls 5 [(0, .ref (ad2 v0)), (1, .int v1), (2, .long v2), (4, .int v4)] := by simp only [q2_0]; exact hl
    refine lv_aload_n hx hb d_Ma_number_26 rfl (lv_at hl 0 rfl) ?_
    refine lv_dup hx hb d_Ma_number_27 rfl ?_
    obtain ⟨r3, g3, hf⟩ := bo_some hf
    refine xg_I (i := v0) (k := 5) hx hb ht hown ck_Ma hK hP (by decide) fk_Ma_40 g3 d_Ma_number_28 ?_
    refine lv_iload hx hb d_Ma_number_31 (lv_at hl 3 rfl) ?_
    refine lv_iadd hx hb d_Ma_number_33 ?_
    obtain ⟨w4, g4, hf⟩ := bo_some hf
    refine xp (i := v0) (k := 5) (v := (.inl (r3 + v4))) hx hb ht hown ck_Ma hK hP hD hS (by decide) fk_Ma_40 rfl g4 rfl rfl d_Ma_number_34 (fun H locs hP hD hS => ?_)
    have hB := hB.same (pF_c g4)
    exact yr_v C0 hP hD hS hB hm hf d_Ma_number_37
  · rw [br_n _ hc] at hf
    refine lv_aload_n hx hb d_Ma_number_8 rfl (lv_at hl 0 rfl) ?_
    refine lv_bipush (v := 12) hx hb d_Ma_number_9 (by decide) ?_
    obtain ⟨hO9, hf⟩ := ck_some hf
    obtain ⟨u5, r5, hc5, hf⟩ := bx_some hf
    obtain ⟨hc5, hz5⟩ := gz_some hc5
    obtain ⟨hf, hw5⟩ := gw_some hf
    refine xV0 (i := v0) (As := [.int 12]) (rest := []) C0 hP hD hS ck_Ma hO9 (c_Ma_wrong N hc5) k_Ma_wrong (wd_of 1664 (by decide +kernel) rfl) hi_Ma_wrong hs_Ma_wrong hini_Ma rfl rfl hd_Ma_wrong rfl rm_Ma_number_Ma_wrong hl.1 (Nat.le_of_ble_eq_true rfl) d_Ma_number_11 rfl (hB.fit hm hz5 hw5) (fun H locs hP hD hS => ?_)
    have hB := hB.same2 hz5
    exact yr_v C0 hP hD hS hB hm hf d_Ma_number_14
def fm_Ma_number (N : Nat) (u : CS) (v0 : Nat) (v1 : Int32) (v2 : Int64) (v4 : Int32) : Option (CS × Unit) := fb_Ma_number_0 N () u v0 v1 v2 v4
set_option maxRecDepth 100000 in
set_option maxHeartbeats 4000000 in
theorem c_Ma_number (N : Nat) {l : Launch} {s0 : State} {b0 : Nat} {D : va_G} {cB cI cJ cZ cS cP : ClassId} {sk sv : Nat → Nat} {ad : Nat → Nat} {u : CS} {sz mc ms : Nat} {v0 : Nat} {v1 : Int32} {v2 : Int64} {v4 : Int32} {x : CS × Unit} (hE : ENV s0 b0 sk sv) (hf : fm_Ma_number N u v0 v1 v2 v4 = some x) (hm : u.1.1 + mc = x.1.1.1 ∧ u.1.2 + ms = x.1.1.2) : Met l y_Ma_number (wd_ws y_Ma_number b_Ma_number 5 none) (rm_Ma_number mc ms) (xPc s0 b0 D cB cI cJ cZ cS cP ad u sz [.ref (ad v0), .int v1, .long v2, .int v4]) (xQ D cB cI cJ cZ cS cP (xA cB cI cJ cZ cS cP ad u sz) ad u.1.1 x.1 none) mc ms (xA cB cI cJ cZ cS cP ad u sz) :=
  xMet (by decide) rfl (Nat.le_of_ble_eq_true rfl) (fun p e s m below meth c ls hsz hnm C0 hP hD hS hl =>
    wb_Ma_number_0 C0 hE N () trivial u _ _ _ _ x hf hm ad 0 0 ⟨rfl, rfl, fun _ _ => rfl⟩ s.heap [] hP hD hS ls (lv_sub hl [0, 1, 2, 3] rfl))
abbrev b_Ma_arithmetic : ByteArray := prog_5_method_22_code
def y_Ma_arithmetic : MethodName := ⟨R_Ma, "arithmetic", "(I)V"⟩
def w_Ma_arithmetic : List Cond := wd_ws y_Ma_arithmetic b_Ma_arithmetic 10 none
set_option maxRecDepth 100000 in
theorem k_Ma_arithmetic : Cond.code y_Ma_arithmetic b_Ma_arithmetic 10 none ∈ wd_tbl := wd_of 1913 rfl rfl
theorem d_Ma_arithmetic_0 : decode b_Ma_arithmetic 0 = .ok (.aload_n 0, 1) := by decide +kernel
theorem d_Ma_arithmetic_1 : decode b_Ma_arithmetic 1 = .ok (.getfield 33, 3) := by decide +kernel
theorem d_Ma_arithmetic_4 : decode b_Ma_arithmetic 4 = .ok (.iconst 1, 1) := by decide +kernel
theorem d_Ma_arithmetic_5 : decode b_Ma_arithmetic 5 = .ok (.invokevirtual 138, 3) := by decide +kernel
theorem d_Ma_arithmetic_8 : decode b_Ma_arithmetic 8 = .ok (.invokestatic 253, 3) := by decide +kernel
theorem d_Ma_arithmetic_11 : decode b_Ma_arithmetic 11 = .ok (.ifCond .ne 21, 3) := by decide +kernel
theorem d_Ma_arithmetic_14 : decode b_Ma_arithmetic 14 = .ok (.aload_n 0, 1) := by decide +kernel
theorem d_Ma_arithmetic_15 : decode b_Ma_arithmetic 15 = .ok (.getfield 33, 3) := by decide +kernel
theorem d_Ma_arithmetic_18 : decode b_Ma_arithmetic 18 = .ok (.iconst 0, 1) := by decide +kernel
theorem d_Ma_arithmetic_19 : decode b_Ma_arithmetic 19 = .ok (.invokevirtual 138, 3) := by decide +kernel
theorem d_Ma_arithmetic_22 : decode b_Ma_arithmetic 22 = .ok (.invokestatic 253, 3) := by decide +kernel
theorem d_Ma_arithmetic_25 : decode b_Ma_arithmetic 25 = .ok (.ifCond .ne 7, 3) := by decide +kernel
theorem d_Ma_arithmetic_28 : decode b_Ma_arithmetic 28 = .ok (.iconst 1, 1) := by decide +kernel
theorem d_Ma_arithmetic_29 : decode b_Ma_arithmetic 29 = .ok (.goto 4, 3) := by decide +kernel
theorem d_Ma_arithmetic_32 : decode b_Ma_arithmetic 32 = .ok (.iconst 0, 1) := by decide +kernel
theorem d_Ma_arithmetic_33 : decode b_Ma_arithmetic 33 = .ok (.istore_n 2, 1) := by decide +kernel
theorem d_Ma_arithmetic_34 : decode b_Ma_arithmetic 34 = .ok (.aload_n 0, 1) := by decide +kernel
theorem d_Ma_arithmetic_35 : decode b_Ma_arithmetic 35 = .ok (.getfield 33, 3) := by decide +kernel
theorem d_Ma_arithmetic_38 : decode b_Ma_arithmetic 38 = .ok (.iconst 1, 1) := by decide +kernel
theorem d_Ma_arithmetic_39 : decode b_Ma_arithmetic 39 = .ok (.invokevirtual 138, 3) := by decide +kernel
theorem d_Ma_arithmetic_42 : decode b_Ma_arithmetic 42 = .ok (.l2i, 1) := by decide +kernel
theorem d_Ma_arithmetic_43 : decode b_Ma_arithmetic 43 = .ok (.i2l, 1) := by decide +kernel
theorem d_Ma_arithmetic_44 : decode b_Ma_arithmetic 44 = .ok (.lstore_n 3, 1) := by decide +kernel
theorem d_Ma_arithmetic_45 : decode b_Ma_arithmetic 45 = .ok (.aload_n 0, 1) := by decide +kernel
theorem d_Ma_arithmetic_46 : decode b_Ma_arithmetic 46 = .ok (.getfield 33, 3) := by decide +kernel
theorem d_Ma_arithmetic_49 : decode b_Ma_arithmetic 49 = .ok (.iconst 0, 1) := by decide +kernel
theorem d_Ma_arithmetic_50 : decode b_Ma_arithmetic 50 = .ok (.invokevirtual 138, 3) := by decide +kernel
theorem d_Ma_arithmetic_53 : decode b_Ma_arithmetic 53 = .ok (.l2i, 1) := by decide +kernel
theorem d_Ma_arithmetic_54 : decode b_Ma_arithmetic 54 = .ok (.i2l, 1) := by decide +kernel
theorem d_Ma_arithmetic_55 : decode b_Ma_arithmetic 55 = .ok (.lstore 5, 2) := by decide +kernel
theorem d_Ma_arithmetic_57 : decode b_Ma_arithmetic 57 = .ok (.iload_n 1, 1) := by decide +kernel
theorem d_Ma_arithmetic_58 : decode b_Ma_arithmetic 58 = .ok (.bipush 10, 2) := by decide +kernel
theorem d_Ma_arithmetic_60 : decode b_Ma_arithmetic 60 = .ok (.if_icmp .eq 9, 3) := by decide +kernel
theorem d_Ma_arithmetic_63 : decode b_Ma_arithmetic 63 = .ok (.iload_n 1, 1) := by decide +kernel
theorem d_Ma_arithmetic_64 : decode b_Ma_arithmetic 64 = .ok (.bipush 18, 2) := by decide +kernel
theorem d_Ma_arithmetic_66 : decode b_Ma_arithmetic 66 = .ok (.if_icmp .ne 7, 3) := by decide +kernel
theorem d_Ma_arithmetic_69 : decode b_Ma_arithmetic 69 = .ok (.iconst 1, 1) := by decide +kernel
theorem d_Ma_arithmetic_70 : decode b_Ma_arithmetic 70 = .ok (.goto 4, 3) := by decide +kernel
theorem d_Ma_arithmetic_73 : decode b_Ma_arithmetic 73 = .ok (.iconst 0, 1) := by decide +kernel
theorem d_Ma_arithmetic_74 : decode b_Ma_arithmetic 74 = .ok (.istore 7, 2) := by decide +kernel
theorem d_Ma_arithmetic_76 : decode b_Ma_arithmetic 76 = .ok (.iload_n 2, 1) := by decide +kernel
theorem d_Ma_arithmetic_77 : decode b_Ma_arithmetic 77 = .ok (.ifCond .eq 15, 3) := by decide +kernel
theorem d_Ma_arithmetic_80 : decode b_Ma_arithmetic 80 = .ok (.iload 7, 2) := by decide +kernel
theorem d_Ma_arithmetic_82 : decode b_Ma_arithmetic 82 = .ok (.ifCond .eq 17, 3) := by decide +kernel
theorem d_Ma_arithmetic_85 : decode b_Ma_arithmetic 85 = .ok (.lload 5, 2) := by decide +kernel
theorem d_Ma_arithmetic_87 : decode b_Ma_arithmetic 87 = .ok (.lconst 0, 1) := by decide +kernel
theorem d_Ma_arithmetic_88 : decode b_Ma_arithmetic 88 = .ok (.lcmp, 1) := by decide +kernel
theorem d_Ma_arithmetic_89 : decode b_Ma_arithmetic 89 = .ok (.ifCond .ne 10, 3) := by decide +kernel
theorem d_Ma_arithmetic_92 : decode b_Ma_arithmetic 92 = .ok (.aload_n 0, 1) := by decide +kernel
theorem d_Ma_arithmetic_93 : decode b_Ma_arithmetic 93 = .ok (.bipush 12, 2) := by decide +kernel
theorem d_Ma_arithmetic_95 : decode b_Ma_arithmetic 95 = .ok (.invokevirtual 249, 3) := by decide +kernel
theorem d_Ma_arithmetic_98 : decode b_Ma_arithmetic 98 = .ok (.return_, 1) := by decide +kernel
theorem d_Ma_arithmetic_99 : decode b_Ma_arithmetic 99 = .ok (.iload_n 1, 1) := by decide +kernel
theorem d_Ma_arithmetic_100 : decode b_Ma_arithmetic 100 = .ok (.lookupswitch 91 #[(10, 71), (33, 44), (34, 53), (35, 62)], 44) := by decide +kernel
theorem d_Ma_arithmetic_144 : decode b_Ma_arithmetic 144 = .ok (.lload_n 3, 1) := by decide +kernel
theorem d_Ma_arithmetic_145 : decode b_Ma_arithmetic 145 = .ok (.lload 5, 2) := by decide +kernel
theorem d_Ma_arithmetic_147 : decode b_Ma_arithmetic 147 = .ok (.ladd, 1) := by decide +kernel
theorem d_Ma_arithmetic_148 : decode b_Ma_arithmetic 148 = .ok (.lstore 8, 2) := by decide +kernel
theorem d_Ma_arithmetic_150 : decode b_Ma_arithmetic 150 = .ok (.goto 58, 3) := by decide +kernel
theorem d_Ma_arithmetic_153 : decode b_Ma_arithmetic 153 = .ok (.lload_n 3, 1) := by decide +kernel
theorem d_Ma_arithmetic_154 : decode b_Ma_arithmetic 154 = .ok (.lload 5, 2) := by decide +kernel
theorem d_Ma_arithmetic_156 : decode b_Ma_arithmetic 156 = .ok (.lsub, 1) := by decide +kernel
theorem d_Ma_arithmetic_157 : decode b_Ma_arithmetic 157 = .ok (.lstore 8, 2) := by decide +kernel
theorem d_Ma_arithmetic_159 : decode b_Ma_arithmetic 159 = .ok (.goto 49, 3) := by decide +kernel
theorem d_Ma_arithmetic_162 : decode b_Ma_arithmetic 162 = .ok (.lload_n 3, 1) := by decide +kernel
theorem d_Ma_arithmetic_163 : decode b_Ma_arithmetic 163 = .ok (.lload 5, 2) := by decide +kernel
theorem d_Ma_arithmetic_165 : decode b_Ma_arithmetic 165 = .ok (.lmul, 1) := by decide +kernel
theorem d_Ma_arithmetic_166 : decode b_Ma_arithmetic 166 = .ok (.lstore 8, 2) := by decide +kernel
theorem d_Ma_arithmetic_168 : decode b_Ma_arithmetic 168 = .ok (.goto 40, 3) := by decide +kernel
theorem d_Ma_arithmetic_171 : decode b_Ma_arithmetic 171 = .ok (.lload 5, 2) := by decide +kernel
theorem d_Ma_arithmetic_173 : decode b_Ma_arithmetic 173 = .ok (.lconst 0, 1) := by decide +kernel
theorem d_Ma_arithmetic_174 : decode b_Ma_arithmetic 174 = .ok (.lcmp, 1) := by decide +kernel
theorem d_Ma_arithmetic_175 : decode b_Ma_arithmetic 175 = .ok (.ifCond .ne 7, 3) := by decide +kernel
theorem d_Ma_arithmetic_178 : decode b_Ma_arithmetic 178 = .ok (.lconst 0, 1) := by decide +kernel
theorem d_Ma_arithmetic_179 : decode b_Ma_arithmetic 179 = .ok (.goto 7, 3) := by decide +kernel
theorem d_Ma_arithmetic_182 : decode b_Ma_arithmetic 182 = .ok (.lload_n 3, 1) := by decide +kernel
theorem d_Ma_arithmetic_183 : decode b_Ma_arithmetic 183 = .ok (.lload 5, 2) := by decide +kernel
theorem d_Ma_arithmetic_185 : decode b_Ma_arithmetic 185 = .ok (.ldiv, 1) := by decide +kernel
theorem d_Ma_arithmetic_186 : decode b_Ma_arithmetic 186 = .ok (.lstore 8, 2) := by decide +kernel
theorem d_Ma_arithmetic_188 : decode b_Ma_arithmetic 188 = .ok (.goto 20, 3) := by decide +kernel
theorem d_Ma_arithmetic_191 : decode b_Ma_arithmetic 191 = .ok (.lload 5, 2) := by decide +kernel
theorem d_Ma_arithmetic_193 : decode b_Ma_arithmetic 193 = .ok (.lconst 0, 1) := by decide +kernel
theorem d_Ma_arithmetic_194 : decode b_Ma_arithmetic 194 = .ok (.lcmp, 1) := by decide +kernel
theorem d_Ma_arithmetic_195 : decode b_Ma_arithmetic 195 = .ok (.ifCond .ne 7, 3) := by decide +kernel
theorem d_Ma_arithmetic_198 : decode b_Ma_arithmetic 198 = .ok (.lconst 0, 1) := by decide +kernel
theorem d_Ma_arithmetic_199 : decode b_Ma_arithmetic 199 = .ok (.goto 7, 3) := by decide +kernel
theorem d_Ma_arithmetic_202 : decode b_Ma_arithmetic 202 = .ok (.lload_n 3, 1) := by decide +kernel
theorem d_Ma_arithmetic_203 : decode b_Ma_arithmetic 203 = .ok (.lload 5, 2) := by decide +kernel
theorem d_Ma_arithmetic_205 : decode b_Ma_arithmetic 205 = .ok (.lrem, 1) := by decide +kernel
theorem d_Ma_arithmetic_206 : decode b_Ma_arithmetic 206 = .ok (.lstore 8, 2) := by decide +kernel
theorem d_Ma_arithmetic_208 : decode b_Ma_arithmetic 208 = .ok (.aload_n 0, 1) := by decide +kernel
theorem d_Ma_arithmetic_209 : decode b_Ma_arithmetic 209 = .ok (.iconst 2, 1) := by decide +kernel
theorem d_Ma_arithmetic_210 : decode b_Ma_arithmetic 210 = .ok (.lload 8, 2) := by decide +kernel
theorem d_Ma_arithmetic_212 : decode b_Ma_arithmetic 212 = .ok (.iconst 2, 1) := by decide +kernel
theorem d_Ma_arithmetic_213 : decode b_Ma_arithmetic 213 = .ok (.invokevirtual 257, 3) := by decide +kernel
theorem d_Ma_arithmetic_216 : decode b_Ma_arithmetic 216 = .ok (.return_, 1) := by decide +kernel
set_option maxRecDepth 100000 in
theorem hl_Ma_arithmetic : Cond.methodLink R_Ma 211 y_Ma_arithmetic ∈ wd_tbl := wd_of 1910 (by decide +kernel) rfl
set_option maxRecDepth 100000 in
theorem hi_Ma_arithmetic : Cond.instanceMethod y_Ma_arithmetic ∈ wd_tbl := wd_of 1912 (by decide +kernel) rfl
set_option maxRecDepth 100000 in
theorem hs_Ma_arithmetic : Cond.selects R_Ma y_Ma_arithmetic y_Ma_arithmetic ∈ wd_tbl := wd_of 101 (by decide +kernel) rfl
theorem hd_Ma_arithmetic : y_Ma_arithmetic.cls = R_Ma ∧ y_Ma_arithmetic.cls ≠ "java/lang/invoke/MethodHandle" ∧ y_Ma_arithmetic.cls ≠ "java/lang/invoke/VarHandle" ∧ (parseMethodDescriptor y_Ma_arithmetic.desc).map (fun d => d.parameters.length) = some 1 := by decide +kernel
def rm_Ma_arithmetic (mc ms : Nat) : Room := { frames := 5, cells := mc, slots := ms, locals := 151 }
theorem rm_Ma_arithmetic_Fr_below {mc ms : Nat} : (rm_Fr_below).frames + 1 ≤ (rm_Ma_arithmetic mc ms).frames ∧ 8 + (3 + 11) + (rm_Fr_below).locals ≤ (rm_Ma_arithmetic mc ms).locals := by
  show 0 + 1 ≤ 5 ∧ 8 + (3 + 11) + 0 ≤ 151
  decide
theorem rm_Ma_arithmetic_Te_tag {mc ms : Nat} : (rm_Te_tag).frames + 1 ≤ (rm_Ma_arithmetic mc ms).frames ∧ 8 + (2 + 11) + (rm_Te_tag).locals ≤ (rm_Ma_arithmetic mc ms).locals := by
  show 0 + 1 ≤ 5 ∧ 8 + (2 + 11) + 0 ≤ 151
  decide
theorem rm_Ma_arithmetic_Ma_wrong {mc ms : Nat} : (rm_Ma_wrong).frames + 1 ≤ (rm_Ma_arithmetic mc ms).frames ∧ 8 + (2 + 11) + (rm_Ma_wrong).locals ≤ (rm_Ma_arithmetic mc ms).locals := by
  show 2 + 1 ≤ 5 ∧ 8 + (2 + 11) + 41 ≤ 151
  decide
theorem rm_Ma_arithmetic_Ma_number {mc ms : Nat} {mc2 ms2 : Nat} : (rm_Ma_number mc2 ms2).frames + 1 ≤ (rm_Ma_arithmetic mc ms).frames ∧ 8 + (5 + 11) + (rm_Ma_number mc2 ms2).locals ≤ (rm_Ma_arithmetic mc ms).locals := by
  show 4 + 1 ≤ 5 ∧ 8 + (5 + 11) + 127 ≤ 151
  decide
def fb_Ma_arithmetic_208 (N : Nat) (G : Unit) (u : CS) (v0 : Nat) (v8 : Int64) : Option (CS × Unit) := ck (isO u v0 5) (ck (List.all [some v0] (okR u.1.1)) (bx (gw u (fm_Ma_number N u v0 2 v8 2)) (fun u1 r1 => gw u1 (some (u1, ())))))
set_option maxRecDepth 100000 in
set_option maxHeartbeats 4000000 in
theorem wb_Ma_arithmetic_208 {p : Program} {l : Launch} {e : Env} {s : State} {m : MethodId} {args : Array Value} {below : List Frame} {meth : Method} {c : Code} {s0 : State} {b0 : Nat} {D : va_G} {cB cI cJ cZ cS cP : ClassId} {A : Nat → Prop} {sk sv : Nat → Nat} {uN uS mc ms : Nat} {ad0 : Nat → Nat} (C0 : XCx p s s0 b0 m args meth c R_Ma b_Ma_arithmetic 10 none D cB cI cJ cZ cS cP A) (hE : ENV s0 b0 sk sv) (N : Nat) (G : Unit) (hG : True) : ∀ (u : CS) (v0 : Nat) (v8 : Int64) (x : CS × Unit), fb_Ma_arithmetic_208 N G u v0 v8 = some x → (uN + mc = x.1.1.1 ∧ uS + ms = x.1.1.2) → ∀ (ad : Nat → Nat) (ce sl : Nat), AB uN uS ad0 u ad ce sl → ∀ (H : Heap) (locs : List Loc), va_P D cls (wC cB cI cJ cZ cS cP ad u) H → va_D A (wC cB cI cJ cZ cS cP ad u) → va_S A s.heap H locs → ∀ (ls : Array Slot), lv_has ls 10 [(0, .ref (ad v0)), (8, .long v8)] → W p l e (rm_Ma_arithmetic mc ms) s m args below meth c H locs ce sl (MQ below (xQ D cB cI cJ cZ cS cP A ad0 uN x.1 none) args s mc ms A) (F0 m 208 ls []) := by
  intro u v0 v8 x hf hm ad ce sl hB H locs hP hD hS ls hl
  obtain ⟨hx, hb, hr, hml, ht, hown, hK, hA, hlocks, hA0, hO, hbs⟩ := id C0
  unfold fb_Ma_arithmetic_208 at hf
  refine lv_aload_n hx hb d_Ma_arithmetic_208 rfl (lv_at hl 0 rfl) ?_
  refine lv_iconst (v := 2) hx hb d_Ma_arithmetic_209 (by decide) ?_
  refine lv_lload hx hb d_Ma_arithmetic_210 (lv_at hl 1 rfl) ?_
  refine lv_iconst (v := 2) hx hb d_Ma_arithmetic_212 (by decide) ?_
  obtain ⟨hO9, hf⟩ := ck_some hf
  obtain ⟨hk1, hf⟩ := ck_some hf
  obtain ⟨u1, r1, hc1, hf⟩ := bx_some hf
  obtain ⟨hc1, hq1⟩ := gw_some hc1
  obtain ⟨hf, hw1⟩ := gw_some hf
  refine yV (i := v0) (As := [.int 2, .long v8, .int 2]) (rest := []) C0 hP hD hS ck_Ma hO9 (c_Ma_number N hE hc1 (gm hq1)) k_Ma_number (wd_of 1914 (by decide +kernel) rfl) hi_Ma_number hs_Ma_number hini_Ma rfl rfl hd_Ma_number rfl rm_Ma_arithmetic_Ma_number hl.1 (Nat.le_of_ble_eq_true rfl) d_Ma_arithmetic_213 rfl (gm hq1) hB hm hw1 (fun ad1 H locs ce sl hg1 hB hP hD hS => ?_)
  have q1_0 : ad1 v0 = ad v0 := ko_O (k := 0) hk1 rfl hg1
  have hl : lv_has ls 10 [(0, .ref (ad1 v0)), (8, .long v8)] := by simp only [q1_0]; exact hl
  exact yr_v C0 hP hD hS hB hm hf d_Ma_arithmetic_216
def fb_Ma_arithmetic_206 (N : Nat) (G : Unit) (u : CS) (v0 : Nat) (t0 : Int64) : Option (CS × Unit) := fb_Ma_arithmetic_208 N G u (v0) (t0)
set_option maxRecDepth 100000 in
set_option maxHeartbeats 4000000 in
theorem wb_Ma_arithmetic_206 {p : Program} {l : Launch} {e : Env} {s : State} {m : MethodId} {args : Array Value} {below : List Frame} {meth : Method} {c : Code} {s0 : State} {b0 : Nat} {D : va_G} {cB cI cJ cZ cS cP : ClassId} {A : Nat → Prop} {sk sv : Nat → Nat} {uN uS mc ms : Nat} {ad0 : Nat → Nat} (C0 : XCx p s s0 b0 m args meth c R_Ma b_Ma_arithmetic 10 none D cB cI cJ cZ cS cP A) (hE : ENV s0 b0 sk sv) (N : Nat) (G : Unit) (hG : True) : ∀ (u : CS) (v0 : Nat) (t0 : Int64) (x : CS × Unit), fb_Ma_arithmetic_206 N G u v0 t0 = some x → (uN + mc = x.1.1.1 ∧ uS + ms = x.1.1.2) → ∀ (ad : Nat → Nat) (ce sl : Nat), AB uN uS ad0 u ad ce sl → ∀ (H : Heap) (locs : List Loc), va_P D cls (wC cB cI cJ cZ cS cP ad u) H → va_D A (wC cB cI cJ cZ cS cP ad u) → va_S A s.heap H locs → ∀ (ls : Array Slot), lv_has ls 10 [(0, .ref (ad v0))] → W p l e (rm_Ma_arithmetic mc ms) s m args below meth c H locs ce sl (MQ below (xQ D cB cI cJ cZ cS cP A ad0 uN x.1 none) args s mc ms A) (F0 m 206 ls [.long t0]) := by
  intro u v0 t0 x hf hm ad ce sl hB H locs hP hD hS ls hl
  obtain ⟨hx, hb, hr, hml, ht, hown, hK, hA, hlocks, hA0, hO, hbs⟩ := id C0
  unfold fb_Ma_arithmetic_206 at hf
  refine lv_lstore (lv' := [(8, .long t0), (0, .ref (ad v0))]) hx hb d_Ma_arithmetic_206 hl (by decide) (by first | rfl | simp [List.filter, cat_rf]) (fun ls hl => ?_)
  exact wb_Ma_arithmetic_208 C0 hE N G hG _ _ _ _ hf hm _ _ _ hB H locs hP hD hS ls (lv_sub hl [1, 0] rfl)
def fb_Ma_arithmetic_186 (N : Nat) (G : Unit) (u : CS) (v0 : Nat) (t0 : Int64) : Option (CS × Unit) := fb_Ma_arithmetic_208 N G u (v0) (t0)
set_option maxRecDepth 100000 in
set_option maxHeartbeats 4000000 in
theorem wb_Ma_arithmetic_186 {p : Program} {l : Launch} {e : Env} {s : State} {m : MethodId} {args : Array Value} {below : List Frame} {meth : Method} {c : Code} {s0 : State} {b0 : Nat} {D : va_G} {cB cI cJ cZ cS cP : ClassId} {A : Nat → Prop} {sk sv : Nat → Nat} {uN uS mc ms : Nat} {ad0 : Nat → Nat} (C0 : XCx p s s0 b0 m args meth c R_Ma b_Ma_arithmetic 10 none D cB cI cJ cZ cS cP A) (hE : ENV s0 b0 sk sv) (N : Nat) (G : Unit) (hG : True) : ∀ (u : CS) (v0 : Nat) (t0 : Int64) (x : CS × Unit), fb_Ma_arithmetic_186 N G u v0 t0 = some x → (uN + mc = x.1.1.1 ∧ uS + ms = x.1.1.2) → ∀ (ad : Nat → Nat) (ce sl : Nat), AB uN uS ad0 u ad ce sl → ∀ (H : Heap) (locs : List Loc), va_P D cls (wC cB cI cJ cZ cS cP ad u) H → va_D A (wC cB cI cJ cZ cS cP ad u) → va_S A s.heap H locs → ∀ (ls : Array Slot), lv_has ls 10 [(0, .ref (ad v0))] → W p l e (rm_Ma_arithmetic mc ms) s m args below meth c H locs ce sl (MQ below (xQ D cB cI cJ cZ cS cP A ad0 uN x.1 none) args s mc ms A) (F0 m 186 ls [.long t0]) := by
  intro u v0 t0 x hf hm ad ce sl hB H locs hP hD hS ls hl
  obtain ⟨hx, hb, hr, hml, ht, hown, hK, hA, hlocks, hA0, hO, hbs⟩ := id C0
  unfold fb_Ma_arithmetic_186 at hf
  refine lv_lstore (lv' := [(8, .long t0), (0, .ref (ad v0))]) hx hb d_Ma_arithmetic_186 hl (by decide) (by first | rfl | simp [List.filter, cat_rf]) (fun ls hl => ?_)
  refine lv_goto (tgt := 208) hx hb d_Ma_arithmetic_188 (by decide) ?_
  exact wb_Ma_arithmetic_208 C0 hE N G hG _ _ _ _ hf hm _ _ _ hB H locs hP hD hS ls (lv_sub hl [1, 0] rfl)
def fb_Ma_arithmetic_99 (N : Nat) (G : Unit) (u : CS) (v0 : Nat) (v1 : Int32) (v3 : Int64) (v5 : Int64) : Option (CS × Unit) := br (decide (v1 = 10)) (br (decide ((lg_cmp v5 0) = 0)) (fb_Ma_arithmetic_186 N G u (v0) (0)) (ck (decide (¬ v5 = 0)) (fb_Ma_arithmetic_186 N G u (v0) ((v3 / v5))))) (br (decide (v1 = 33)) (fb_Ma_arithmetic_208 N G u (v0) ((v3 + v5))) (br (decide (v1 = 34)) (fb_Ma_arithmetic_208 N G u (v0) ((v3 - v5))) (br (decide (v1 = 35)) (fb_Ma_arithmetic_208 N G u (v0) ((v3 * v5))) (br (decide ((lg_cmp v5 0) = 0)) (fb_Ma_arithmetic_206 N G u (v0) (0)) (ck (decide (¬ v5 = 0)) (fb_Ma_arithmetic_206 N G u (v0) ((v3 - v3 / v5 * v5))))))))
set_option maxRecDepth 100000 in
set_option maxHeartbeats 4000000 in
theorem wb_Ma_arithmetic_99 {p : Program} {l : Launch} {e : Env} {s : State} {m : MethodId} {args : Array Value} {below : List Frame} {meth : Method} {c : Code} {s0 : State} {b0 : Nat} {D : va_G} {cB cI cJ cZ cS cP : ClassId} {A : Nat → Prop} {sk sv : Nat → Nat} {uN uS mc ms : Nat} {ad0 : Nat → Nat} (C0 : XCx p s s0 b0 m args meth c R_Ma b_Ma_arithmetic 10 none D cB cI cJ cZ cS cP A) (hE : ENV s0 b0 sk sv) (N : Nat) (G : Unit) (hG : True) : ∀ (u : CS) (v0 : Nat) (v1 : Int32) (v3 : Int64) (v5 : Int64) (x : CS × Unit), fb_Ma_arithmetic_99 N G u v0 v1 v3 v5 = some x → (uN + mc = x.1.1.1 ∧ uS + ms = x.1.1.2) → ∀ (ad : Nat → Nat) (ce sl : Nat), AB uN uS ad0 u ad ce sl → ∀ (H : Heap) (locs : List Loc), va_P D cls (wC cB cI cJ cZ cS cP ad u) H → va_D A (wC cB cI cJ cZ cS cP ad u) → va_S A s.heap H locs → ∀ (ls : Array Slot), lv_has ls 10 [(0, .ref (ad v0)), (1, .int v1), (3, .long v3), (5, .long v5)] → W p l e (rm_Ma_arithmetic mc ms) s m args below meth c H locs ce sl (MQ below (xQ D cB cI cJ cZ cS cP A ad0 uN x.1 none) args s mc ms A) (F0 m 99 ls []) := by
  intro u v0 v1 v3 v5 x hf hm ad ce sl hB H locs hP hD hS ls hl
  obtain ⟨hx, hb, hr, hml, ht, hown, hK, hA, hlocks, hA0, hO, hbs⟩ := id C0
  unfold fb_Ma_arithmetic_99 at hf
  refine lv_iload_n hx hb d_Ma_arithmetic_99 rfl (lv_at hl 1 rfl) ?_
  by_cases hc10 : v1 = 10
  · rw [br_p _ hc10] at hf
    refine lv_lookup (tgt := 171) hx hb d_Ma_arithmetic_100 (by decide) (by rw [hc10] <;> rfl) (by decide) ?_
    refine lv_lload hx hb d_Ma_arithmetic_171 (lv_at hl 3 rfl) ?_
    refine lv_lconst (v := 0) hx hb d_Ma_arithmetic_173 (by decide) ?_
    refine W.lcmp hx hb d_Ma_arithmetic_174 ?_
    refine lv_if_ne (tgt := 182) hx hb d_Ma_arithmetic_175 (by decide) (fun hc => ?_) (fun hc => ?_)
    · rw [br_n _ hc] at hf
      refine lv_lload_n hx hb d_Ma_arithmetic_182 rfl (lv_at hl 2 rfl) ?_
      refine lv_lload hx hb d_Ma_arithmetic_183 (lv_at hl 3 rfl) ?_
      obtain ⟨hn9, hf⟩ := ck_some hf
      refine lv_ldiv hx hb d_Ma_arithmetic_185 (of_decide_eq_true hn9) ?_
      exact wb_Ma_arithmetic_186 C0 hE N G hG _ _ _ _ hf hm _ _ _ hB H locs hP hD hS ls (lv_sub hl [0] rfl)
    · rw [br_p _ hc] at hf
      refine lv_lconst (v := 0) hx hb d_Ma_arithmetic_178 (by decide) ?_
      refine lv_goto (tgt := 186) hx hb d_Ma_arithmetic_179 (by decide) ?_
      exact wb_Ma_arithmetic_186 C0 hE N G hG _ _ _ _ hf hm _ _ _ hB H locs hP hD hS ls (lv_sub hl [0] rfl)
  · rw [br_n _ hc10] at hf
    by_cases hc33 : v1 = 33
    · rw [br_p _ hc33] at hf
      refine lv_lookup (tgt := 144) hx hb d_Ma_arithmetic_100 (by decide) (by rw [hc33] <;> rfl) (by decide) ?_
      refine lv_lload_n hx hb d_Ma_arithmetic_144 rfl (lv_at hl 2 rfl) ?_
      refine lv_lload hx hb d_Ma_arithmetic_145 (lv_at hl 3 rfl) ?_
      refine lv_ladd hx hb d_Ma_arithmetic_147 ?_
      refine lv_lstore (lv' := [(8, .long (v3 + v5)), (0, .ref (ad v0)), (1, .int v1), (3, .long v3), (5, .long v5)]) hx hb d_Ma_arithmetic_148 hl (by decide) (by first | rfl | simp [List.filter, cat_rf]) (fun ls hl => ?_)
      refine lv_goto (tgt := 208) hx hb d_Ma_arithmetic_150 (by decide) ?_
      exact wb_Ma_arithmetic_208 C0 hE N G hG _ _ _ _ hf hm _ _ _ hB H locs hP hD hS ls (lv_sub hl [1, 0] rfl)
    · rw [br_n _ hc33] at hf
      by_cases hc34 : v1 = 34
      · rw [br_p _ hc34] at hf
        refine lv_lookup (tgt := 153) hx hb d_Ma_arithmetic_100 (by decide) (by rw [hc34] <;> rfl) (by decide) ?_
        refine lv_lload_n hx hb d_Ma_arithmetic_153 rfl (lv_at hl 2 rfl) ?_
        refine lv_lload hx hb d_Ma_arithmetic_154 (lv_at hl 3 rfl) ?_
        refine lv_lsub hx hb d_Ma_arithmetic_156 ?_
        refine lv_lstore (lv' := [(8, .long (v3 - v5)), (0, .ref (ad v0)), (1, .int v1), (3, .long v3), (5, .long v5)]) hx hb d_Ma_arithmetic_157 hl (by decide) (by first | rfl | simp [List.filter, cat_rf]) (fun ls hl => ?_)
        refine lv_goto (tgt := 208) hx hb d_Ma_arithmetic_159 (by decide) ?_
        exact wb_Ma_arithmetic_208 C0 hE N G hG _ _ _ _ hf hm _ _ _ hB H locs hP hD hS ls (lv_sub hl [1, 0] rfl)
      · rw [br_n _ hc34] at hf
        by_cases hc35 : v1 = 35
        · rw [br_p _ hc35] at hf
          refine lv_lookup (tgt := 162) hx hb d_Ma_arithmetic_100 (by decide) (by rw [hc35] <;> rfl) (by decide) ?_
          refine lv_lload_n hx hb d_Ma_arithmetic_162 rfl (lv_at hl 2 rfl) ?_
          refine lv_lload hx hb d_Ma_arithmetic_163 (lv_at hl 3 rfl) ?_
          refine lv_lmul hx hb d_Ma_arithmetic_165 ?_
          refine lv_lstore (lv' := [(8, .long (v3 * v5)), (0, .ref (ad v0)), (1, .int v1), (3, .long v3), (5, .long v5)]) hx hb d_Ma_arithmetic_166 hl (by decide) (by first | rfl | simp [List.filter, cat_rf]) (fun ls hl => ?_)
          refine lv_goto (tgt := 208) hx hb d_Ma_arithmetic_168 (by decide) ?_
          exact wb_Ma_arithmetic_208 C0 hE N G hG _ _ _ _ hf hm _ _ _ hB H locs hP hD hS ls (lv_sub hl [1, 0] rfl)
        · rw [br_n _ hc35] at hf
          refine lv_lookup (off := 91) (tgt := 191) hx hb d_Ma_arithmetic_100 (by decide) (by show Op.lookupswitch.offset [(10, 71), (33, 44), (34, 53), (35, 62)] _ _ = _; refine (lv_osw hc10 (by decide)).trans ?_; refine (lv_osw hc33 (by decide)).trans ?_; refine (lv_osw hc34 (by decide)).trans ?_; refine (lv_osw hc35 (by decide)).trans ?_; rfl) (by decide) ?_
          refine lv_lload hx hb d_Ma_arithmetic_191 (lv_at hl 3 rfl) ?_
          refine lv_lconst (v := 0) hx hb d_Ma_arithmetic_193 (by decide) ?_
          refine W.lcmp hx hb d_Ma_arithmetic_194 ?_
          refine lv_if_ne (tgt := 202) hx hb d_Ma_arithmetic_195 (by decide) (fun hc => ?_) (fun hc => ?_)
          · rw [br_n _ hc] at hf
            refine lv_lload_n hx hb d_Ma_arithmetic_202 rfl (lv_at hl 2 rfl) ?_
            refine lv_lload hx hb d_Ma_arithmetic_203 (lv_at hl 3 rfl) ?_
            obtain ⟨hn9, hf⟩ := ck_some hf
            refine lv_lrem hx hb d_Ma_arithmetic_205 (of_decide_eq_true hn9) ?_
            exact wb_Ma_arithmetic_206 C0 hE N G hG _ _ _ _ hf hm _ _ _ hB H locs hP hD hS ls (lv_sub hl [0] rfl)
          · rw [br_p _ hc] at hf
            refine lv_lconst (v := 0) hx hb d_Ma_arithmetic_198 (by decide) ?_
            refine lv_goto (tgt := 206) hx hb d_Ma_arithmetic_199 (by decide) ?_
            exact wb_Ma_arithmetic_206 C0 hE N G hG _ _ _ _ hf hm _ _ _ hB H locs hP hD hS ls (lv_sub hl [0] rfl)
def fb_Ma_arithmetic_92 (N : Nat) (G : Unit) (u : CS) (v0 : Nat) : Option (CS × Unit) := ck (isO u v0 5) (bx (gz u (fm_Ma_wrong N u v0 12)) (fun u2 r2 => gw u2 (some (u2, ()))))
set_option maxRecDepth 100000 in
set_option maxHeartbeats 4000000 in
theorem wb_Ma_arithmetic_92 {p : Program} {l : Launch} {e : Env} {s : State} {m : MethodId} {args : Array Value} {below : List Frame} {meth : Method} {c : Code} {s0 : State} {b0 : Nat} {D : va_G} {cB cI cJ cZ cS cP : ClassId} {A : Nat → Prop} {sk sv : Nat → Nat} {uN uS mc ms : Nat} {ad0 : Nat → Nat} (C0 : XCx p s s0 b0 m args meth c R_Ma b_Ma_arithmetic 10 none D cB cI cJ cZ cS cP A) (hE : ENV s0 b0 sk sv) (N : Nat) (G : Unit) (hG : True) : ∀ (u : CS) (v0 : Nat) (x : CS × Unit), fb_Ma_arithmetic_92 N G u v0 = some x → (uN + mc = x.1.1.1 ∧ uS + ms = x.1.1.2) → ∀ (ad : Nat → Nat) (ce sl : Nat), AB uN uS ad0 u ad ce sl → ∀ (H : Heap) (locs : List Loc), va_P D cls (wC cB cI cJ cZ cS cP ad u) H → va_D A (wC cB cI cJ cZ cS cP ad u) → va_S A s.heap H locs → ∀ (ls : Array Slot), lv_has ls 10 [(0, .ref (ad v0))] → W p l e (rm_Ma_arithmetic mc ms) s m args below meth c H locs ce sl (MQ below (xQ D cB cI cJ cZ cS cP A ad0 uN x.1 none) args s mc ms A) (F0 m 92 ls []) := by
  intro u v0 x hf hm ad ce sl hB H locs hP hD hS ls hl
  obtain ⟨hx, hb, hr, hml, ht, hown, hK, hA, hlocks, hA0, hO, hbs⟩ := id C0
  unfold fb_Ma_arithmetic_92 at hf
  refine lv_aload_n hx hb d_Ma_arithmetic_92 rfl (lv_at hl 0 rfl) ?_
  refine lv_bipush (v := 12) hx hb d_Ma_arithmetic_93 (by decide) ?_
  obtain ⟨hO9, hf⟩ := ck_some hf
  obtain ⟨u2, r2, hc2, hf⟩ := bx_some hf
  obtain ⟨hc2, hz2⟩ := gz_some hc2
  obtain ⟨hf, hw2⟩ := gw_some hf
  refine xV0 (i := v0) (As := [.int 12]) (rest := []) C0 hP hD hS ck_Ma hO9 (c_Ma_wrong N hc2) k_Ma_wrong (wd_of 1664 (by decide +kernel) rfl) hi_Ma_wrong hs_Ma_wrong hini_Ma rfl rfl hd_Ma_wrong rfl rm_Ma_arithmetic_Ma_wrong hl.1 (Nat.le_of_ble_eq_true rfl) d_Ma_arithmetic_95 rfl (hB.fit hm hz2 hw2) (fun H locs hP hD hS => ?_)
  have hB := hB.same2 hz2
  exact yr_v C0 hP hD hS hB hm hf d_Ma_arithmetic_98
def fb_Ma_arithmetic_74 (N : Nat) (G : Unit) (u : CS) (v0 : Nat) (v1 : Int32) (v2 : Int32) (v3 : Int64) (v5 : Int64) (t0 : Int32) : Option (CS × Unit) := br (decide (v2 = 0)) (fb_Ma_arithmetic_92 N G u (v0)) (br (decide (t0 = 0)) (fb_Ma_arithmetic_99 N G u (v0) (v1) (v3) (v5)) (br (decide ((lg_cmp v5 0) = 0)) (fb_Ma_arithmetic_92 N G u (v0)) (fb_Ma_arithmetic_99 N G u (v0) (v1) (v3) (v5))))
set_option maxRecDepth 100000 in
set_option maxHeartbeats 4000000 in
theorem wb_Ma_arithmetic_74 {p : Program} {l : Launch} {e : Env} {s : State} {m : MethodId} {args : Array Value} {below : List Frame} {meth : Method} {c : Code} {s0 : State} {b0 : Nat} {D : va_G} {cB cI cJ cZ cS cP : ClassId} {A : Nat → Prop} {sk sv : Nat → Nat} {uN uS mc ms : Nat} {ad0 : Nat → Nat} (C0 : XCx p s s0 b0 m args meth c R_Ma b_Ma_arithmetic 10 none D cB cI cJ cZ cS cP A) (hE : ENV s0 b0 sk sv) (N : Nat) (G : Unit) (hG : True) : ∀ (u : CS) (v0 : Nat) (v1 : Int32) (v2 : Int32) (v3 : Int64) (v5 : Int64) (t0 : Int32) (x : CS × Unit), fb_Ma_arithmetic_74 N G u v0 v1 v2 v3 v5 t0 = some x → (uN + mc = x.1.1.1 ∧ uS + ms = x.1.1.2) → ∀ (ad : Nat → Nat) (ce sl : Nat), AB uN uS ad0 u ad ce sl → ∀ (H : Heap) (locs : List Loc), va_P D cls (wC cB cI cJ cZ cS cP ad u) H → va_D A (wC cB cI cJ cZ cS cP ad u) → va_S A s.heap H locs → ∀ (ls : Array Slot), lv_has ls 10 [(0, .ref (ad v0)), (1, .int v1), (2, .int v2), (3, .long v3), (5, .long v5)] → W p l e (rm_Ma_arithmetic mc ms) s m args below meth c H locs ce sl (MQ below (xQ D cB cI cJ cZ cS cP A ad0 uN x.1 none) args s mc ms A) (F0 m 74 ls [.int t0]) := by
  intro u v0 v1 v2 v3 v5 t0 x hf hm ad ce sl hB H locs hP hD hS ls hl
  obtain ⟨hx, hb, hr, hml, ht, hown, hK, hA, hlocks, hA0, hO, hbs⟩ := id C0
  unfold fb_Ma_arithmetic_74 at hf
  refine lv_istore (lv' := [(7, .int t0), (0, .ref (ad v0)), (1, .int v1), (2, .int v2), (3, .long v3), (5, .long v5)]) hx hb d_Ma_arithmetic_74 hl (by decide) (by first | rfl | simp [List.filter, cat_rf]) (fun ls hl => ?_)
  refine lv_iload_n hx hb d_Ma_arithmetic_76 rfl (lv_at hl 3 rfl) ?_
  refine lv_if_eq (tgt := 92) hx hb d_Ma_arithmetic_77 (by decide) (fun hc => ?_) (fun hc => ?_)
  · rw [br_p _ hc] at hf
    exact wb_Ma_arithmetic_92 C0 hE N G hG _ _ _ hf hm _ _ _ hB H locs hP hD hS ls (lv_sub hl [1] rfl)
  · rw [br_n _ hc] at hf
    refine lv_iload hx hb d_Ma_arithmetic_80 (lv_at hl 0 rfl) ?_
    refine lv_if_eq (tgt := 99) hx hb d_Ma_arithmetic_82 (by decide) (fun hc => ?_) (fun hc => ?_)
    · rw [br_p _ hc] at hf
      exact wb_Ma_arithmetic_99 C0 hE N G hG _ _ _ _ _ _ hf hm _ _ _ hB H locs hP hD hS ls (lv_sub hl [1, 2, 4, 5] rfl)
    · rw [br_n _ hc] at hf
      refine lv_lload hx hb d_Ma_arithmetic_85 (lv_at hl 5 rfl) ?_
      refine lv_lconst (v := 0) hx hb d_Ma_arithmetic_87 (by decide) ?_
      refine W.lcmp hx hb d_Ma_arithmetic_88 ?_
      refine lv_if_ne (tgt := 99) hx hb d_Ma_arithmetic_89 (by decide) (fun hc => ?_) (fun hc => ?_)
      · rw [br_n _ hc] at hf
        exact wb_Ma_arithmetic_99 C0 hE N G hG _ _ _ _ _ _ hf hm _ _ _ hB H locs hP hD hS ls (lv_sub hl [1, 2, 4, 5] rfl)
      · rw [br_p _ hc] at hf
        exact wb_Ma_arithmetic_92 C0 hE N G hG _ _ _ hf hm _ _ _ hB H locs hP hD hS ls (lv_sub hl [1] rfl)
def fb_Ma_arithmetic_69 (N : Nat) (G : Unit) (u : CS) (v0 : Nat) (v1 : Int32) (v2 : Int32) (v3 : Int64) (v5 : Int64) : Option (CS × Unit) := fb_Ma_arithmetic_74 N G u (v0) (v1) (v2) (v3) (v5) (1)
set_option maxRecDepth 100000 in
set_option maxHeartbeats 4000000 in
theorem wb_Ma_arithmetic_69 {p : Program} {l : Launch} {e : Env} {s : State} {m : MethodId} {args : Array Value} {below : List Frame} {meth : Method} {c : Code} {s0 : State} {b0 : Nat} {D : va_G} {cB cI cJ cZ cS cP : ClassId} {A : Nat → Prop} {sk sv : Nat → Nat} {uN uS mc ms : Nat} {ad0 : Nat → Nat} (C0 : XCx p s s0 b0 m args meth c R_Ma b_Ma_arithmetic 10 none D cB cI cJ cZ cS cP A) (hE : ENV s0 b0 sk sv) (N : Nat) (G : Unit) (hG : True) : ∀ (u : CS) (v0 : Nat) (v1 : Int32) (v2 : Int32) (v3 : Int64) (v5 : Int64) (x : CS × Unit), fb_Ma_arithmetic_69 N G u v0 v1 v2 v3 v5 = some x → (uN + mc = x.1.1.1 ∧ uS + ms = x.1.1.2) → ∀ (ad : Nat → Nat) (ce sl : Nat), AB uN uS ad0 u ad ce sl → ∀ (H : Heap) (locs : List Loc), va_P D cls (wC cB cI cJ cZ cS cP ad u) H → va_D A (wC cB cI cJ cZ cS cP ad u) → va_S A s.heap H locs → ∀ (ls : Array Slot), lv_has ls 10 [(0, .ref (ad v0)), (1, .int v1), (2, .int v2), (3, .long v3), (5, .long v5)] → W p l e (rm_Ma_arithmetic mc ms) s m args below meth c H locs ce sl (MQ below (xQ D cB cI cJ cZ cS cP A ad0 uN x.1 none) args s mc ms A) (F0 m 69 ls []) := by
  intro u v0 v1 v2 v3 v5 x hf hm ad ce sl hB H locs hP hD hS ls hl
  obtain ⟨hx, hb, hr, hml, ht, hown, hK, hA, hlocks, hA0, hO, hbs⟩ := id C0
  unfold fb_Ma_arithmetic_69 at hf
  refine lv_iconst (v := 1) hx hb d_Ma_arithmetic_69 (by decide) ?_
  refine lv_goto (tgt := 74) hx hb d_Ma_arithmetic_70 (by decide) ?_
  exact wb_Ma_arithmetic_74 C0 hE N G hG _ _ _ _ _ _ _ _ hf hm _ _ _ hB H locs hP hD hS ls (lv_sub hl [0, 1, 2, 3, 4] rfl)
def fb_Ma_arithmetic_33 (N : Nat) (G : Unit) (u : CS) (v0 : Nat) (v1 : Int32) (t0 : Int32) : Option (CS × Unit) := bo (gR u v0 5 4) (fun r3 => bo r3 (fun j5 => ck (isO u j5 4) (bx (gz u (fm_Fr_below N u j5 1)) (fun u4 r4 => gw u4 (bo (gR u4 v0 5 4) (fun r6 => bo r6 (fun j8 => ck (isO u4 j8 4) (bx (gz u4 (fm_Fr_below N u4 j8 0)) (fun u7 r7 => gw u7 (br (decide (v1 = 10)) (fb_Ma_arithmetic_69 N G u7 (v0) (v1) (t0) ((r4.toInt32).toInt64) ((r7.toInt32).toInt64)) (br (decide (v1 = 18)) (fb_Ma_arithmetic_69 N G u7 (v0) (v1) (t0) ((r4.toInt32).toInt64) ((r7.toInt32).toInt64)) (fb_Ma_arithmetic_74 N G u7 (v0) (v1) (t0) ((r4.toInt32).toInt64) ((r7.toInt32).toInt64) (0)))))))))))))
set_option maxRecDepth 100000 in
set_option maxHeartbeats 4000000 in
theorem wb_Ma_arithmetic_33 {p : Program} {l : Launch} {e : Env} {s : State} {m : MethodId} {args : Array Value} {below : List Frame} {meth : Method} {c : Code} {s0 : State} {b0 : Nat} {D : va_G} {cB cI cJ cZ cS cP : ClassId} {A : Nat → Prop} {sk sv : Nat → Nat} {uN uS mc ms : Nat} {ad0 : Nat → Nat} (C0 : XCx p s s0 b0 m args meth c R_Ma b_Ma_arithmetic 10 none D cB cI cJ cZ cS cP A) (hE : ENV s0 b0 sk sv) (N : Nat) (G : Unit) (hG : True) : ∀ (u : CS) (v0 : Nat) (v1 : Int32) (t0 : Int32) (x : CS × Unit), fb_Ma_arithmetic_33 N G u v0 v1 t0 = some x → (uN + mc = x.1.1.1 ∧ uS + ms = x.1.1.2) → ∀ (ad : Nat → Nat) (ce sl : Nat), AB uN uS ad0 u ad ce sl → ∀ (H : Heap) (locs : List Loc), va_P D cls (wC cB cI cJ cZ cS cP ad u) H → va_D A (wC cB cI cJ cZ cS cP ad u) → va_S A s.heap H locs → ∀ (ls : Array Slot), lv_has ls 10 [(0, .ref (ad v0)), (1, .int v1)] → W p l e (rm_Ma_arithmetic mc ms) s m args below meth c H locs ce sl (MQ below (xQ D cB cI cJ cZ cS cP A ad0 uN x.1 none) args s mc ms A) (F0 m 33 ls [.int t0]) := by
  intro u v0 v1 t0 x hf hm ad ce sl hB H locs hP hD hS ls hl
  obtain ⟨hx, hb, hr, hml, ht, hown, hK, hA, hlocks, hA0, hO, hbs⟩ := id C0
  unfold fb_Ma_arithmetic_33 at hf
  refine lv_istore_n (lv' := [(2, .int t0), (0, .ref (ad v0)), (1, .int v1)]) hx hb d_Ma_arithmetic_33 rfl hl (by decide) (by first | rfl | simp [List.filter, cat_rf]) (fun ls hl => ?_)
  refine lv_aload_n hx hb d_Ma_arithmetic_34 rfl (lv_at hl 1 rfl) ?_
  obtain ⟨r3, g3, hf⟩ := bo_some hf
  refine xg_R (i := v0) (k := 4) hx hb ht hown ck_Ma hK hP (by decide) fk_Ma_33 g3 d_Ma_arithmetic_35 ?_
  refine lv_iconst (v := 1) hx hb d_Ma_arithmetic_38 (by decide) ?_
  obtain ⟨j5, ej5, hf⟩ := bo_some hf
  rw [ej5]
  obtain ⟨hO9, hf⟩ := ck_some hf
  obtain ⟨u4, r4, hc4, hf⟩ := bx_some hf
  obtain ⟨hc4, hz4⟩ := gz_some hc4
  obtain ⟨hf, hw4⟩ := gw_some hf
  refine xV0 (i := j5) (As := [.int 1]) (rest := []) C0 hP hD hS ck_Fr hO9 (c_Fr_below N hc4) k_Fr_below (wd_of 1653 (by decide +kernel) rfl) hi_Fr_below hs_Fr_below hini_Fr rfl rfl hd_Fr_below rfl rm_Ma_arithmetic_Fr_below hl.1 (Nat.le_of_ble_eq_true rfl) d_Ma_arithmetic_39 rfl (hB.fit hm hz4 hw4) (fun H locs hP hD hS => ?_)
  have hB := hB.same2 hz4
  refine lv_l2i hx hb d_Ma_arithmetic_42 rfl ?_
  refine lv_i2l hx hb d_Ma_arithmetic_43 rfl ?_
  refine lv_lstore_n (lv' := [(3, .long (r4.toInt32).toInt64), (2, .int t0), (0, .ref (ad v0)), (1, .int v1)]) hx hb d_Ma_arithmetic_44 rfl hl (by decide) (by first | rfl | simp [List.filter, cat_rf]) (fun ls hl => ?_)
  refine lv_aload_n hx hb d_Ma_arithmetic_45 rfl (lv_at hl 2 rfl) ?_
  obtain ⟨r6, g6, hf⟩ := bo_some hf
  refine xg_R (i := v0) (k := 4) hx hb ht hown ck_Ma hK hP (by decide) fk_Ma_33 g6 d_Ma_arithmetic_46 ?_
  refine lv_iconst (v := 0) hx hb d_Ma_arithmetic_49 (by decide) ?_
  obtain ⟨j8, ej8, hf⟩ := bo_some hf
  rw [ej8]
  obtain ⟨hO9, hf⟩ := ck_some hf
  obtain ⟨u7, r7, hc7, hf⟩ := bx_some hf
  obtain ⟨hc7, hz7⟩ := gz_some hc7
  obtain ⟨hf, hw7⟩ := gw_some hf
  refine xV0 (i := j8) (As := [.int 0]) (rest := []) C0 hP hD hS ck_Fr hO9 (c_Fr_below N hc7) k_Fr_below (wd_of 1653 (by decide +kernel) rfl) hi_Fr_below hs_Fr_below hini_Fr rfl rfl hd_Fr_below rfl rm_Ma_arithmetic_Fr_below hl.1 (Nat.le_of_ble_eq_true rfl) d_Ma_arithmetic_50 rfl (hB.fit hm hz7 hw7) (fun H locs hP hD hS => ?_)
  have hB := hB.same2 hz7
  refine lv_l2i hx hb d_Ma_arithmetic_53 rfl ?_
  refine lv_i2l hx hb d_Ma_arithmetic_54 rfl ?_
  refine lv_lstore (lv' := [(5, .long (r7.toInt32).toInt64), (3, .long (r4.toInt32).toInt64), (2, .int t0), (0, .ref (ad v0)), (1, .int v1)]) hx hb d_Ma_arithmetic_55 hl (by decide) (by first | rfl | simp [List.filter, cat_rf]) (fun ls hl => ?_)
  refine lv_iload_n hx hb d_Ma_arithmetic_57 rfl (lv_at hl 4 rfl) ?_
  refine lv_bipush (v := 10) hx hb d_Ma_arithmetic_58 (by decide) ?_
  refine lv_icmp_eq (tgt := 69) hx hb d_Ma_arithmetic_60 (by decide) (fun hc => ?_) (fun hc => ?_)
  · rw [br_p _ hc] at hf
    exact wb_Ma_arithmetic_69 C0 hE N G hG _ _ _ _ _ _ _ hf hm _ _ _ hB H locs hP hD hS ls (lv_sub hl [3, 4, 2, 1, 0] rfl)
  · rw [br_n _ hc] at hf
    refine lv_iload_n hx hb d_Ma_arithmetic_63 rfl (lv_at hl 4 rfl) ?_
    refine lv_bipush (v := 18) hx hb d_Ma_arithmetic_64 (by decide) ?_
    refine lv_icmp_ne (tgt := 73) hx hb d_Ma_arithmetic_66 (by decide) (fun hc => ?_) (fun hc => ?_)
    · rw [br_n _ hc] at hf
      refine lv_iconst (v := 0) hx hb d_Ma_arithmetic_73 (by decide) ?_
      exact wb_Ma_arithmetic_74 C0 hE N G hG _ _ _ _ _ _ _ _ hf hm _ _ _ hB H locs hP hD hS ls (lv_sub hl [3, 4, 2, 1, 0] rfl)
    · rw [br_p _ hc] at hf
      exact wb_Ma_arithmetic_69 C0 hE N G hG _ _ _ _ _ _ _ hf hm _ _ _ hB H locs hP hD hS ls (lv_sub hl [3, 4, 2, 1, 0] rfl)
def fb_Ma_arithmetic_32 (N : Nat) (G : Unit) (u : CS) (v0 : Nat) (v1 : Int32) : Option (CS × Unit) := fb_Ma_arithmetic_33 N G u (v0) (v1) (0)
set_option maxRecDepth 100000 in
set_option maxHeartbeats 4000000 in
theorem wb_Ma_arithmetic_32 {p : Program} {l : Launch} {e : Env} {s : State} {m : MethodId} {args : Array Value} {below : List Frame} {meth : Method} {c : Code} {s0 : State} {b0 : Nat} {D : va_G} {cB cI cJ cZ cS cP : ClassId} {A : Nat → Prop} {sk sv : Nat → Nat} {uN uS mc ms : Nat} {ad0 : Nat → Nat} (C0 : XCx p s s0 b0 m args meth c R_Ma b_Ma_arithmetic 10 none D cB cI cJ cZ cS cP A) (hE : ENV s0 b0 sk sv) (N : Nat) (G : Unit) (hG : True) : ∀ (u : CS) (v0 : Nat) (v1 : Int32) (x : CS × Unit), fb_Ma_arithmetic_32 N G u v0 v1 = some x → (uN + mc = x.1.1.1 ∧ uS + ms = x.1.1.2) → ∀ (ad : Nat → Nat) (ce sl : Nat), AB uN uS ad0 u ad ce sl → ∀ (H : Heap) (locs : List Loc), va_P D cls (wC cB cI cJ cZ cS cP ad u) H → va_D A (wC cB cI cJ cZ cS cP ad u) → va_S A s.heap H locs → ∀ (ls : Array Slot), lv_has ls 10 [(0, .ref (ad v0)), (1, .int v1)] → W p l e (rm_Ma_arithmetic mc ms) s m args below meth c H locs ce sl (MQ below (xQ D cB cI cJ cZ cS cP A ad0 uN x.1 none) args s mc ms A) (F0 m 32 ls []) := by
  intro u v0 v1 x hf hm ad ce sl hB H locs hP hD hS ls hl
  obtain ⟨hx, hb, hr, hml, ht, hown, hK, hA, hlocks, hA0, hO, hbs⟩ := id C0
  unfold fb_Ma_arithmetic_32 at hf
  refine lv_iconst (v := 0) hx hb d_Ma_arithmetic_32 (by decide) ?_
  exact wb_Ma_arithmetic_33 C0 hE N G hG _ _ _ _ _ hf hm _ _ _ hB H locs hP hD hS ls (lv_sub hl [0, 1] rfl)
def fb_Ma_arithmetic_0 (N : Nat) (G : Unit) (u : CS) (v0 : Nat) (v1 : Int32) : Option (CS × Unit) := bo (gR u v0 5 4) (fun r9 => bo r9 (fun j11 => ck (isO u j11 4) (bx (gz u (fm_Fr_below N u j11 1)) (fun u10 r10 => gw u10 (bx (gz u10 (fm_Te_tag N u10 r10)) (fun u12 r12 => gw u12 (br (decide (r12 = 0)) (bo (gR u12 v0 5 4) (fun r13 => bo r13 (fun j15 => ck (isO u12 j15 4) (bx (gz u12 (fm_Fr_below N u12 j15 0)) (fun u14 r14 => gw u14 (bx (gz u14 (fm_Te_tag N u14 r14)) (fun u16 r16 => gw u16 (br (decide (r16 = 0)) (fb_Ma_arithmetic_33 N G u16 (v0) (v1) (1)) (fb_Ma_arithmetic_32 N G u16 (v0) (v1)))))))))) (fb_Ma_arithmetic_32 N G u12 (v0) (v1)))))))))
set_option maxRecDepth 100000 in
set_option maxHeartbeats 4000000 in
theorem wb_Ma_arithmetic_0 {p : Program} {l : Launch} {e : Env} {s : State} {m : MethodId} {args : Array Value} {below : List Frame} {meth : Method} {c : Code} {s0 : State} {b0 : Nat} {D : va_G} {cB cI cJ cZ cS cP : ClassId} {A : Nat → Prop} {sk sv : Nat → Nat} {uN uS mc ms : Nat} {ad0 : Nat → Nat} (C0 : XCx p s s0 b0 m args meth c R_Ma b_Ma_arithmetic 10 none D cB cI cJ cZ cS cP A) (hE : ENV s0 b0 sk sv) (N : Nat) (G : Unit) (hG : True) : ∀ (u : CS) (v0 : Nat) (v1 : Int32) (x : CS × Unit), fb_Ma_arithmetic_0 N G u v0 v1 = some x → (uN + mc = x.1.1.1 ∧ uS + ms = x.1.1.2) → ∀ (ad : Nat → Nat) (ce sl : Nat), AB uN uS ad0 u ad ce sl → ∀ (H : Heap) (locs : List Loc), va_P D cls (wC cB cI cJ cZ cS cP ad u) H → va_D A (wC cB cI cJ cZ cS cP ad u) → va_S A s.heap H locs → ∀ (ls : Array Slot), lv_has ls 10 [(0, .ref (ad v0)), (1, .int v1)] → W p l e (rm_Ma_arithmetic mc ms) s m args below meth c H locs ce sl (MQ below (xQ D cB cI cJ cZ cS cP A ad0 uN x.1 none) args s mc ms A) (F0 m 0 ls []) := by
  intro u v0 v1 x hf hm ad ce sl hB H locs hP hD hS ls hl
  obtain ⟨hx, hb, hr, hml, ht, hown, hK, hA, hlocks, hA0, hO, hbs⟩ := id C0
  unfold fb_Ma_arithmetic_0 at hf
  refine lv_aload_n hx hb d_Ma_arithmetic_0 rfl (lv_at hl 0 rfl) ?_
  obtain ⟨r9, g9, hf⟩ := bo_some hf
  refine xg_R (i := v0) (k := 4) hx hb ht hown ck_Ma hK hP (by decide) fk_Ma_33 g9 d_Ma_arithmetic_1 ?_
  refine lv_iconst (v := 1) hx hb d_Ma_arithmetic_4 (by decide) ?_
  obtain ⟨j11, ej11, hf⟩ := bo_some hf
  rw [ej11]
  obtain ⟨hO9, hf⟩ := ck_some hf
  obtain ⟨u10, r10, hc10, hf⟩ := bx_some hf
  obtain ⟨hc10, hz10⟩ := gz_some hc10
  obtain ⟨hf, hw10⟩ := gw_some hf
  refine xV0 (i := j11) (As := [.int 1]) (rest := []) C0 hP hD hS ck_Fr hO9 (c_Fr_below N hc10) k_Fr_below (wd_of 1653 (by decide +kernel) rfl) hi_Fr_below hs_Fr_below hini_Fr rfl rfl hd_Fr_below rfl rm_Ma_arithmetic_Fr_below hl.1 (Nat.le_of_ble_eq_true rfl) d_Ma_arithmetic_5 rfl (hB.fit hm hz10 hw10) (fun H locs hP hD hS => ?_)
  have hB := hB.same2 hz10
  obtain ⟨u12, r12, hc12, hf⟩ := bx_some hf
  obtain ⟨hc12, hz12⟩ := gz_some hc12
  obtain ⟨hf, hw12⟩ := gw_some hf
  refine xS0 (As := [.long r10]) (rest := []) C0 hP hD hS (c_Te_tag N hc12) k_Te_tag (wd_of 1657 (by decide +kernel) rfl) ht_Te_tag hini_Te rfl rfl hd_Te_tag rfl rm_Ma_arithmetic_Te_tag hl.1 (Nat.le_of_ble_eq_true rfl) d_Ma_arithmetic_8 rfl (hB.fit hm hz12 hw12) (fun H locs hP hD hS => ?_)
  have hB := hB.same2 hz12
  refine lv_if_ne (tgt := 32) hx hb d_Ma_arithmetic_11 (by decide) (fun hc => ?_) (fun hc => ?_)
  · rw [br_n _ hc] at hf
    exact wb_Ma_arithmetic_32 C0 hE N G hG _ _ _ _ hf hm _ _ _ hB H locs hP hD hS ls (lv_sub hl [0, 1] rfl)
  · rw [br_p _ hc] at hf
    refine lv_aload_n hx hb d_Ma_arithmetic_14 rfl (lv_at hl 0 rfl) ?_
    obtain ⟨r13, g13, hf⟩ := bo_some hf
    refine xg_R (i := v0) (k := 4) hx hb ht hown ck_Ma hK hP (by decide) fk_Ma_33 g13 d_Ma_arithmetic_15 ?_
    refine lv_iconst (v := 0) hx hb d_Ma_arithmetic_18 (by decide) ?_
    obtain ⟨j15, ej15, hf⟩ := bo_some hf
    rw [ej15]
    obtain ⟨hO9, hf⟩ := ck_some hf
    obtain ⟨u14, r14, hc14, hf⟩ := bx_some hf
    obtain ⟨hc14, hz14⟩ := gz_some hc14
    obtain ⟨hf, hw14⟩ := gw_some hf
    refine xV0 (i := j15) (As := [.int 0]) (rest := []) C0 hP hD hS ck_Fr hO9 (c_Fr_below N hc14) k_Fr_below (wd_of 1653 (by decide +kernel) rfl) hi_Fr_below hs_Fr_below hini_Fr rfl rfl hd_Fr_below rfl rm_Ma_arithmetic_Fr_below hl.1 (Nat.le_of_ble_eq_true rfl) d_Ma_arithmetic_19 rfl (hB.fit hm hz14 hw14) (fun H locs hP hD hS => ?_)
    have hB := hB.same2 hz14
    obtain ⟨u16, r16, hc16, hf⟩ := bx_some hf
    obtain ⟨hc16, hz16⟩ := gz_some hc16
    obtain ⟨hf, hw16⟩ := gw_some hf
    refine xS0 (As := [.long r14]) (rest := []) C0 hP hD hS (c_Te_tag N hc16) k_Te_tag (wd_of 1657 (by decide +kernel) rfl) ht_Te_tag hini_Te rfl rfl hd_Te_tag rfl rm_Ma_arithmetic_Te_tag hl.1 (Nat.le_of_ble_eq_true rfl) d_Ma_arithmetic_22 rfl (hB.fit hm hz16 hw16) (fun H locs hP hD hS => ?_)
    have hB := hB.same2 hz16
    refine lv_if_ne (tgt := 32) hx hb d_Ma_arithmetic_25 (by decide) (fun hc => ?_) (fun hc => ?_)
    · rw [br_n _ hc] at hf
      exact wb_Ma_arithmetic_32 C0 hE N G hG _ _ _ _ hf hm _ _ _ hB H locs hP hD hS ls (lv_sub hl [0, 1] rfl)
    · rw [br_p _ hc] at hf
      refine lv_iconst (v := 1) hx hb d_Ma_arithmetic_28 (by decide) ?_
      refine lv_goto (tgt := 33) hx hb d_Ma_arithmetic_29 (by decide) ?_
      exact wb_Ma_arithmetic_33 C0 hE N G hG _ _ _ _ _ hf hm _ _ _ hB H locs hP hD hS ls (lv_sub hl [0, 1] rfl)
def fm_Ma_arithmetic (N : Nat) (u : CS) (v0 : Nat) (v1 : Int32) : Option (CS × Unit) := fb_Ma_arithmetic_0 N () u v0 v1
set_option maxRecDepth 100000 in
set_option maxHeartbeats 4000000 in
theorem c_Ma_arithmetic (N : Nat) {l : Launch} {s0 : State} {b0 : Nat} {D : va_G} {cB cI cJ cZ cS cP : ClassId} {sk sv : Nat → Nat} {ad : Nat → Nat} {u : CS} {sz mc ms : Nat} {v0 : Nat} {v1 : Int32} {x : CS × Unit} (hE : ENV s0 b0 sk sv) (hf : fm_Ma_arithmetic N u v0 v1 = some x) (hm : u.1.1 + mc = x.1.1.1 ∧ u.1.2 + ms = x.1.1.2) : Met l y_Ma_arithmetic (wd_ws y_Ma_arithmetic b_Ma_arithmetic 10 none) (rm_Ma_arithmetic mc ms) (xPc s0 b0 D cB cI cJ cZ cS cP ad u sz [.ref (ad v0), .int v1]) (xQ D cB cI cJ cZ cS cP (xA cB cI cJ cZ cS cP ad u sz) ad u.1.1 x.1 none) mc ms (xA cB cI cJ cZ cS cP ad u sz) :=
  xMet (by decide) rfl (Nat.le_of_ble_eq_true rfl) (fun p e s m below meth c ls hsz hnm C0 hP hD hS hl =>
    wb_Ma_arithmetic_0 C0 hE N () trivial u _ _ x hf hm ad 0 0 ⟨rfl, rfl, fun _ _ => rfl⟩ s.heap [] hP hD hS ls (lv_sub hl [0, 1] rfl))
abbrev b_Ma_negate : ByteArray := prog_5_method_24_code
def y_Ma_negate : MethodName := ⟨R_Ma, "negate", "()V"⟩
def w_Ma_negate : List Cond := wd_ws y_Ma_negate b_Ma_negate 1 none
set_option maxRecDepth 100000 in
theorem k_Ma_negate : Cond.code y_Ma_negate b_Ma_negate 1 none ∈ wd_tbl := wd_of 1921 rfl rfl
theorem d_Ma_negate_0 : decode b_Ma_negate 0 = .ok (.aload_n 0, 1) := by decide +kernel
theorem d_Ma_negate_1 : decode b_Ma_negate 1 = .ok (.getfield 33, 3) := by decide +kernel
theorem d_Ma_negate_4 : decode b_Ma_negate 4 = .ok (.iconst 0, 1) := by decide +kernel
theorem d_Ma_negate_5 : decode b_Ma_negate 5 = .ok (.invokevirtual 138, 3) := by decide +kernel
theorem d_Ma_negate_8 : decode b_Ma_negate 8 = .ok (.invokestatic 253, 3) := by decide +kernel
theorem d_Ma_negate_11 : decode b_Ma_negate 11 = .ok (.ifCond .eq 10, 3) := by decide +kernel
theorem d_Ma_negate_14 : decode b_Ma_negate 14 = .ok (.aload_n 0, 1) := by decide +kernel
theorem d_Ma_negate_15 : decode b_Ma_negate 15 = .ok (.bipush 12, 2) := by decide +kernel
theorem d_Ma_negate_17 : decode b_Ma_negate 17 = .ok (.invokevirtual 249, 3) := by decide +kernel
theorem d_Ma_negate_20 : decode b_Ma_negate 20 = .ok (.return_, 1) := by decide +kernel
theorem d_Ma_negate_21 : decode b_Ma_negate 21 = .ok (.aload_n 0, 1) := by decide +kernel
theorem d_Ma_negate_22 : decode b_Ma_negate 22 = .ok (.iconst 1, 1) := by decide +kernel
theorem d_Ma_negate_23 : decode b_Ma_negate 23 = .ok (.aload_n 0, 1) := by decide +kernel
theorem d_Ma_negate_24 : decode b_Ma_negate 24 = .ok (.getfield 33, 3) := by decide +kernel
theorem d_Ma_negate_27 : decode b_Ma_negate 27 = .ok (.iconst 0, 1) := by decide +kernel
theorem d_Ma_negate_28 : decode b_Ma_negate 28 = .ok (.invokevirtual 138, 3) := by decide +kernel
theorem d_Ma_negate_31 : decode b_Ma_negate 31 = .ok (.l2i, 1) := by decide +kernel
theorem d_Ma_negate_32 : decode b_Ma_negate 32 = .ok (.i2l, 1) := by decide +kernel
theorem d_Ma_negate_33 : decode b_Ma_negate 33 = .ok (.lneg, 1) := by decide +kernel
theorem d_Ma_negate_34 : decode b_Ma_negate 34 = .ok (.iconst 1, 1) := by decide +kernel
theorem d_Ma_negate_35 : decode b_Ma_negate 35 = .ok (.invokevirtual 257, 3) := by decide +kernel
theorem d_Ma_negate_38 : decode b_Ma_negate 38 = .ok (.return_, 1) := by decide +kernel
set_option maxRecDepth 100000 in
theorem hl_Ma_negate : Cond.methodLink R_Ma 214 y_Ma_negate ∈ wd_tbl := wd_of 1918 (by decide +kernel) rfl
set_option maxRecDepth 100000 in
theorem hi_Ma_negate : Cond.instanceMethod y_Ma_negate ∈ wd_tbl := wd_of 1920 (by decide +kernel) rfl
set_option maxRecDepth 100000 in
theorem hs_Ma_negate : Cond.selects R_Ma y_Ma_negate y_Ma_negate ∈ wd_tbl := wd_of 103 (by decide +kernel) rfl
theorem hd_Ma_negate : y_Ma_negate.cls = R_Ma ∧ y_Ma_negate.cls ≠ "java/lang/invoke/MethodHandle" ∧ y_Ma_negate.cls ≠ "java/lang/invoke/VarHandle" ∧ (parseMethodDescriptor y_Ma_negate.desc).map (fun d => d.parameters.length) = some 0 := by decide +kernel
def rm_Ma_negate (mc ms : Nat) : Room := { frames := 5, cells := mc, slots := ms, locals := 151 }
theorem rm_Ma_negate_Fr_below {mc ms : Nat} : (rm_Fr_below).frames + 1 ≤ (rm_Ma_negate mc ms).frames ∧ 8 + (3 + 11) + (rm_Fr_below).locals ≤ (rm_Ma_negate mc ms).locals := by
  show 0 + 1 ≤ 5 ∧ 8 + (3 + 11) + 0 ≤ 151
  decide
theorem rm_Ma_negate_Te_tag {mc ms : Nat} : (rm_Te_tag).frames + 1 ≤ (rm_Ma_negate mc ms).frames ∧ 8 + (2 + 11) + (rm_Te_tag).locals ≤ (rm_Ma_negate mc ms).locals := by
  show 0 + 1 ≤ 5 ∧ 8 + (2 + 11) + 0 ≤ 151
  decide
theorem rm_Ma_negate_Ma_wrong {mc ms : Nat} : (rm_Ma_wrong).frames + 1 ≤ (rm_Ma_negate mc ms).frames ∧ 8 + (2 + 11) + (rm_Ma_wrong).locals ≤ (rm_Ma_negate mc ms).locals := by
  show 2 + 1 ≤ 5 ∧ 8 + (2 + 11) + 41 ≤ 151
  decide
theorem rm_Ma_negate_Ma_number {mc ms : Nat} {mc2 ms2 : Nat} : (rm_Ma_number mc2 ms2).frames + 1 ≤ (rm_Ma_negate mc ms).frames ∧ 8 + (5 + 11) + (rm_Ma_number mc2 ms2).locals ≤ (rm_Ma_negate mc ms).locals := by
  show 4 + 1 ≤ 5 ∧ 8 + (5 + 11) + 127 ≤ 151
  decide
def fb_Ma_negate_0 (N : Nat) (G : Unit) (u : CS) (v0 : Nat) : Option (CS × Unit) := bo (gR u v0 5 4) (fun r1 => bo r1 (fun j3 => ck (isO u j3 4) (bx (gz u (fm_Fr_below N u j3 0)) (fun u2 r2 => gw u2 (bx (gz u2 (fm_Te_tag N u2 r2)) (fun u4 r4 => gw u4 (br (decide (r4 = 0)) (bo (gR u4 v0 5 4) (fun r5 => bo r5 (fun j7 => ck (isO u4 j7 4) (bx (gz u4 (fm_Fr_below N u4 j7 0)) (fun u6 r6 => gw u6 (ck (isO u6 v0 5) (ck (List.all [some v0] (okR u6.1.1)) (bx (gw u6 (fm_Ma_number N u6 v0 1 (-((r6.toInt32).toInt64)) 1)) (fun u8 r8 => gw u8 (some (u8, ()))))))))))) (ck (isO u4 v0 5) (bx (gz u4 (fm_Ma_wrong N u4 v0 12)) (fun u9 r9 => gw u9 (some (u9, ()))))))))))))
set_option maxRecDepth 100000 in
set_option maxHeartbeats 4000000 in
theorem wb_Ma_negate_0 {p : Program} {l : Launch} {e : Env} {s : State} {m : MethodId} {args : Array Value} {below : List Frame} {meth : Method} {c : Code} {s0 : State} {b0 : Nat} {D : va_G} {cB cI cJ cZ cS cP : ClassId} {A : Nat → Prop} {sk sv : Nat → Nat} {uN uS mc ms : Nat} {ad0 : Nat → Nat} (C0 : XCx p s s0 b0 m args meth c R_Ma b_Ma_negate 1 none D cB cI cJ cZ cS cP A) (hE : ENV s0 b0 sk sv) (N : Nat) (G : Unit) (hG : True) : ∀ (u : CS) (v0 : Nat) (x : CS × Unit), fb_Ma_negate_0 N G u v0 = some x → (uN + mc = x.1.1.1 ∧ uS + ms = x.1.1.2) → ∀ (ad : Nat → Nat) (ce sl : Nat), AB uN uS ad0 u ad ce sl → ∀ (H : Heap) (locs : List Loc), va_P D cls (wC cB cI cJ cZ cS cP ad u) H → va_D A (wC cB cI cJ cZ cS cP ad u) → va_S A s.heap H locs → ∀ (ls : Array Slot), lv_has ls 1 [(0, .ref (ad v0))] → W p l e (rm_Ma_negate mc ms) s m args below meth c H locs ce sl (MQ below (xQ D cB cI cJ cZ cS cP A ad0 uN x.1 none) args s mc ms A) (F0 m 0 ls []) := by
  intro u v0 x hf hm ad ce sl hB H locs hP hD hS ls hl
  obtain ⟨hx, hb, hr, hml, ht, hown, hK, hA, hlocks, hA0, hO, hbs⟩ := id C0
  unfold fb_Ma_negate_0 at hf
  refine lv_aload_n hx hb d_Ma_negate_0 rfl (lv_at hl 0 rfl) ?_
  obtain ⟨r1, g1, hf⟩ := bo_some hf
  refine xg_R (i := v0) (k := 4) hx hb ht hown ck_Ma hK hP (by decide) fk_Ma_33 g1 d_Ma_negate_1 ?_
  refine lv_iconst (v := 0) hx hb d_Ma_negate_4 (by decide) ?_
  obtain ⟨j3, ej3, hf⟩ := bo_some hf
  rw [ej3]
  obtain ⟨hO9, hf⟩ := ck_some hf
  obtain ⟨u2, r2, hc2, hf⟩ := bx_some hf
  obtain ⟨hc2, hz2⟩ := gz_some hc2
  obtain ⟨hf, hw2⟩ := gw_some hf
  refine xV0 (i := j3) (As := [.int 0]) (rest := []) C0 hP hD hS ck_Fr hO9 (c_Fr_below N hc2) k_Fr_below (wd_of 1653 (by decide +kernel) rfl) hi_Fr_below hs_Fr_below hini_Fr rfl rfl hd_Fr_below rfl rm_Ma_negate_Fr_below hl.1 (Nat.le_of_ble_eq_true rfl) d_Ma_negate_5 rfl (hB.fit hm hz2 hw2) (fun H locs hP hD hS => ?_)
  have hB := hB.same2 hz2
  obtain ⟨u4, r4, hc4, hf⟩ := bx_some hf
  obtain ⟨hc4, hz4⟩ := gz_some hc4
  obtain ⟨hf, hw4⟩ := gw_some hf
  refine xS0 (As := [.long r2]) (rest := []) C0 hP hD hS (c_Te_tag N hc4) k_Te_tag (wd_of 1657 (by decide +kernel) rfl) ht_Te_tag hini_Te rfl rfl hd_Te_tag rfl rm_Ma_negate_Te_tag hl.1 (Nat.le_of_ble_eq_true rfl) d_Ma_negate_8 rfl (hB.fit hm hz4 hw4) (fun H locs hP hD hS => ?_)
  have hB := hB.same2 hz4
  refine lv_if_eq (tgt := 21) hx hb d_Ma_negate_11 (by decide) (fun hc => ?_) (fun hc => ?_)
  · rw [br_p _ hc] at hf
    refine lv_aload_n hx hb d_Ma_negate_21 rfl (lv_at hl 0 rfl) ?_
    refine lv_iconst (v := 1) hx hb d_Ma_negate_22 (by decide) ?_
    refine lv_aload_n hx hb d_Ma_negate_23 rfl (lv_at hl 0 rfl) ?_
    obtain ⟨r5, g5, hf⟩ := bo_some hf
    refine xg_R (i := v0) (k := 4) hx hb ht hown ck_Ma hK hP (by decide) fk_Ma_33 g5 d_Ma_negate_24 ?_
    refine lv_iconst (v := 0) hx hb d_Ma_negate_27 (by decide) ?_
    obtain ⟨j7, ej7, hf⟩ := bo_some hf
    rw [ej7]
    obtain ⟨hO9, hf⟩ := ck_some hf
    obtain ⟨u6, r6, hc6, hf⟩ := bx_some hf
    obtain ⟨hc6, hz6⟩ := gz_some hc6
    obtain ⟨hf, hw6⟩ := gw_some hf
    refine xV0 (i := j7) (As := [.int 0]) (rest := [.int 1, .ref (ad v0)]) C0 hP hD hS ck_Fr hO9 (c_Fr_below N hc6) k_Fr_below (wd_of 1653 (by decide +kernel) rfl) hi_Fr_below hs_Fr_below hini_Fr rfl rfl hd_Fr_below rfl rm_Ma_negate_Fr_below hl.1 (Nat.le_of_ble_eq_true rfl) d_Ma_negate_28 rfl (hB.fit hm hz6 hw6) (fun H locs hP hD hS => ?_)
    have hB := hB.same2 hz6
    refine lv_l2i hx hb d_Ma_negate_31 rfl ?_
    refine lv_i2l hx hb d_Ma_negate_32 rfl ?_
    refine lv_lneg hx hb d_Ma_negate_33 ?_
    refine lv_iconst (v := 1) hx hb d_Ma_negate_34 (by decide) ?_
    obtain ⟨hO9, hf⟩ := ck_some hf
    obtain ⟨hk8, hf⟩ := ck_some hf
    obtain ⟨u8, r8, hc8, hf⟩ := bx_some hf
    obtain ⟨hc8, hq8⟩ := gw_some hc8
    obtain ⟨hf, hw8⟩ := gw_some hf
    refine yV (i := v0) (As := [.int 1, .long (-((r6.toInt32).toInt64)), .int 1]) (rest := []) C0 hP hD hS ck_Ma hO9 (c_Ma_number N hE hc8 (gm hq8)) k_Ma_number (wd_of 1914 (by decide +kernel) rfl) hi_Ma_number hs_Ma_number hini_Ma rfl rfl hd_Ma_number rfl rm_Ma_negate_Ma_number hl.1 (Nat.le_of_ble_eq_true rfl) d_Ma_negate_35 rfl (gm hq8) hB hm hw8 (fun ad8 H locs ce sl hg8 hB hP hD hS => ?_)
    have q8_0 : ad8 v0 = ad v0 := ko_O (k := 0) hk8 rfl hg8
    have hl : lv_has ls 1 [(0, .ref (ad8 v0))] := by simp only [q8_0]; exact hl
    exact yr_v C0 hP hD hS hB hm hf d_Ma_negate_38
  · rw [br_n _ hc] at hf
    refine lv_aload_n hx hb d_Ma_negate_14 rfl (lv_at hl 0 rfl) ?_
    refine lv_bipush (v := 12) hx hb d_Ma_negate_15 (by decide) ?_
    obtain ⟨hO9, hf⟩ := ck_some hf
    obtain ⟨u9, r9, hc9, hf⟩ := bx_some hf
    obtain ⟨hc9, hz9⟩ := gz_some hc9
    obtain ⟨hf, hw9⟩ := gw_some hf
    refine xV0 (i := v0) (As := [.int 12]) (rest := []) C0 hP hD hS ck_Ma hO9 (c_Ma_wrong N hc9) k_Ma_wrong (wd_of 1664 (by decide +kernel) rfl) hi_Ma_wrong hs_Ma_wrong hini_Ma rfl rfl hd_Ma_wrong rfl rm_Ma_negate_Ma_wrong hl.1 (Nat.le_of_ble_eq_true rfl) d_Ma_negate_17 rfl (hB.fit hm hz9 hw9) (fun H locs hP hD hS => ?_)
    have hB := hB.same2 hz9
    exact yr_v C0 hP hD hS hB hm hf d_Ma_negate_20
def fm_Ma_negate (N : Nat) (u : CS) (v0 : Nat) : Option (CS × Unit) := fb_Ma_negate_0 N () u v0
set_option maxRecDepth 100000 in
set_option maxHeartbeats 4000000 in
theorem c_Ma_negate (N : Nat) {l : Launch} {s0 : State} {b0 : Nat} {D : va_G} {cB cI cJ cZ cS cP : ClassId} {sk sv : Nat → Nat} {ad : Nat → Nat} {u : CS} {sz mc ms : Nat} {v0 : Nat} {x : CS × Unit} (hE : ENV s0 b0 sk sv) (hf : fm_Ma_negate N u v0 = some x) (hm : u.1.1 + mc = x.1.1.1 ∧ u.1.2 + ms = x.1.1.2) : Met l y_Ma_negate (wd_ws y_Ma_negate b_Ma_negate 1 none) (rm_Ma_negate mc ms) (xPc s0 b0 D cB cI cJ cZ cS cP ad u sz [.ref (ad v0)]) (xQ D cB cI cJ cZ cS cP (xA cB cI cJ cZ cS cP ad u sz) ad u.1.1 x.1 none) mc ms (xA cB cI cJ cZ cS cP ad u sz) :=
  xMet (by decide) rfl (Nat.le_of_ble_eq_true rfl) (fun p e s m below meth c ls hsz hnm C0 hP hD hS hl =>
    wb_Ma_negate_0 C0 hE N () trivial u _ x hf hm ad 0 0 ⟨rfl, rfl, fun _ _ => rfl⟩ s.heap [] hP hD hS ls (lv_sub hl [0] rfl))
abbrev b_Ma_not : ByteArray := prog_5_method_25_code
def y_Ma_not : MethodName := ⟨R_Ma, "not", "()V"⟩
def w_Ma_not : List Cond := wd_ws y_Ma_not b_Ma_not 3 none
set_option maxRecDepth 100000 in
theorem k_Ma_not : Cond.code y_Ma_not b_Ma_not 3 none ∈ wd_tbl := wd_of 1925 rfl rfl
theorem d_Ma_not_0 : decode b_Ma_not 0 = .ok (.aload_n 0, 1) := by decide +kernel
theorem d_Ma_not_1 : decode b_Ma_not 1 = .ok (.getfield 33, 3) := by decide +kernel
theorem d_Ma_not_4 : decode b_Ma_not 4 = .ok (.iconst 0, 1) := by decide +kernel
theorem d_Ma_not_5 : decode b_Ma_not 5 = .ok (.invokevirtual 138, 3) := by decide +kernel
theorem d_Ma_not_8 : decode b_Ma_not 8 = .ok (.lstore_n 1, 1) := by decide +kernel
theorem d_Ma_not_9 : decode b_Ma_not 9 = .ok (.lload_n 1, 1) := by decide +kernel
theorem d_Ma_not_10 : decode b_Ma_not 10 = .ok (.iconst 0, 1) := by decide +kernel
theorem d_Ma_not_11 : decode b_Ma_not 11 = .ok (.invokestatic 105, 3) := by decide +kernel
theorem d_Ma_not_14 : decode b_Ma_not 14 = .ok (.lcmp, 1) := by decide +kernel
theorem d_Ma_not_15 : decode b_Ma_not 15 = .ok (.ifCond .eq 19, 3) := by decide +kernel
theorem d_Ma_not_18 : decode b_Ma_not 18 = .ok (.lload_n 1, 1) := by decide +kernel
theorem d_Ma_not_19 : decode b_Ma_not 19 = .ok (.iconst 1, 1) := by decide +kernel
theorem d_Ma_not_20 : decode b_Ma_not 20 = .ok (.invokestatic 105, 3) := by decide +kernel
theorem d_Ma_not_23 : decode b_Ma_not 23 = .ok (.lcmp, 1) := by decide +kernel
theorem d_Ma_not_24 : decode b_Ma_not 24 = .ok (.ifCond .eq 10, 3) := by decide +kernel
theorem d_Ma_not_27 : decode b_Ma_not 27 = .ok (.aload_n 0, 1) := by decide +kernel
theorem d_Ma_not_28 : decode b_Ma_not 28 = .ok (.bipush 11, 2) := by decide +kernel
theorem d_Ma_not_30 : decode b_Ma_not 30 = .ok (.invokevirtual 249, 3) := by decide +kernel
theorem d_Ma_not_33 : decode b_Ma_not 33 = .ok (.return_, 1) := by decide +kernel
theorem d_Ma_not_34 : decode b_Ma_not 34 = .ok (.aload_n 0, 1) := by decide +kernel
theorem d_Ma_not_35 : decode b_Ma_not 35 = .ok (.iconst 1, 1) := by decide +kernel
theorem d_Ma_not_36 : decode b_Ma_not 36 = .ok (.lload_n 1, 1) := by decide +kernel
theorem d_Ma_not_37 : decode b_Ma_not 37 = .ok (.iconst 1, 1) := by decide +kernel
theorem d_Ma_not_38 : decode b_Ma_not 38 = .ok (.invokestatic 105, 3) := by decide +kernel
theorem d_Ma_not_41 : decode b_Ma_not 41 = .ok (.lcmp, 1) := by decide +kernel
theorem d_Ma_not_42 : decode b_Ma_not 42 = .ok (.ifCond .ne 7, 3) := by decide +kernel
theorem d_Ma_not_45 : decode b_Ma_not 45 = .ok (.iconst 1, 1) := by decide +kernel
theorem d_Ma_not_46 : decode b_Ma_not 46 = .ok (.goto 4, 3) := by decide +kernel
theorem d_Ma_not_49 : decode b_Ma_not 49 = .ok (.iconst 0, 1) := by decide +kernel
theorem d_Ma_not_50 : decode b_Ma_not 50 = .ok (.invokestatic 207, 3) := by decide +kernel
theorem d_Ma_not_53 : decode b_Ma_not 53 = .ok (.invokevirtual 145, 3) := by decide +kernel
theorem d_Ma_not_56 : decode b_Ma_not 56 = .ok (.aload_n 0, 1) := by decide +kernel
theorem d_Ma_not_57 : decode b_Ma_not 57 = .ok (.dup, 1) := by decide +kernel
theorem d_Ma_not_58 : decode b_Ma_not 58 = .ok (.getfield 40, 3) := by decide +kernel
theorem d_Ma_not_61 : decode b_Ma_not 61 = .ok (.iconst 1, 1) := by decide +kernel
theorem d_Ma_not_62 : decode b_Ma_not 62 = .ok (.iadd, 1) := by decide +kernel
theorem d_Ma_not_63 : decode b_Ma_not 63 = .ok (.putfield 40, 3) := by decide +kernel
theorem d_Ma_not_66 : decode b_Ma_not 66 = .ok (.return_, 1) := by decide +kernel
set_option maxRecDepth 100000 in
theorem hl_Ma_not : Cond.methodLink R_Ma 217 y_Ma_not ∈ wd_tbl := wd_of 1922 (by decide +kernel) rfl
set_option maxRecDepth 100000 in
theorem hi_Ma_not : Cond.instanceMethod y_Ma_not ∈ wd_tbl := wd_of 1924 (by decide +kernel) rfl
set_option maxRecDepth 100000 in
theorem hs_Ma_not : Cond.selects R_Ma y_Ma_not y_Ma_not ∈ wd_tbl := wd_of 104 (by decide +kernel) rfl
theorem hd_Ma_not : y_Ma_not.cls = R_Ma ∧ y_Ma_not.cls ≠ "java/lang/invoke/MethodHandle" ∧ y_Ma_not.cls ≠ "java/lang/invoke/VarHandle" ∧ (parseMethodDescriptor y_Ma_not.desc).map (fun d => d.parameters.length) = some 0 := by decide +kernel
def rm_Ma_not (mc ms : Nat) : Room := { frames := 4, cells := mc, slots := ms, locals := 127 }
theorem rm_Ma_not_Fr_below {mc ms : Nat} : (rm_Fr_below).frames + 1 ≤ (rm_Ma_not mc ms).frames ∧ 8 + (3 + 11) + (rm_Fr_below).locals ≤ (rm_Ma_not mc ms).locals := by
  show 0 + 1 ≤ 4 ∧ 8 + (3 + 11) + 0 ≤ 127
  decide
theorem rm_Ma_not_Ma_atom {mc ms : Nat} : (rm_Ma_atom).frames + 1 ≤ (rm_Ma_not mc ms).frames ∧ 8 + (1 + 11) + (rm_Ma_atom).locals ≤ (rm_Ma_not mc ms).locals := by
  show 1 + 1 ≤ 4 ∧ 8 + (1 + 11) + 21 ≤ 127
  decide
theorem rm_Ma_not_Ma_wrong {mc ms : Nat} : (rm_Ma_wrong).frames + 1 ≤ (rm_Ma_not mc ms).frames ∧ 8 + (2 + 11) + (rm_Ma_wrong).locals ≤ (rm_Ma_not mc ms).locals := by
  show 2 + 1 ≤ 4 ∧ 8 + (2 + 11) + 41 ≤ 127
  decide
theorem rm_Ma_not_Ma_truth {mc ms : Nat} : (rm_Ma_truth).frames + 1 ≤ (rm_Ma_not mc ms).frames ∧ 8 + (1 + 11) + (rm_Ma_truth).locals ≤ (rm_Ma_not mc ms).locals := by
  show 2 + 1 ≤ 4 ∧ 8 + (1 + 11) + 41 ≤ 127
  decide
theorem rm_Ma_not_Ma_answer {mc ms : Nat} {mc2 ms2 : Nat} : (rm_Ma_answer mc2 ms2).frames + 1 ≤ (rm_Ma_not mc ms).frames ∧ 8 + (4 + 11) + (rm_Ma_answer mc2 ms2).locals ≤ (rm_Ma_not mc ms).locals := by
  show 3 + 1 ≤ 4 ∧ 8 + (4 + 11) + 104 ≤ 127
  decide
def fb_Ma_not_50 (N : Nat) (G : Unit) (u : CS) (v0 : Nat) (t0 : Nat) (t1 : Int32) (t2 : Int32) : Option (CS × Unit) := bx (gz u (fm_Ma_truth N u t2)) (fun u1 r1 => gw u1 (ck (isO u1 t0 5) (ck (List.all [some v0] (okR u1.1.1)) (bx (gw u1 (fm_Ma_answer N u1 t0 t1 r1)) (fun u2 r2 => gw u2 (bo (gI u2 v0 5 5) (fun r3 => bo (pF u2 v0 5 5 (.inl (r3 + 1))) (fun w4 => some (w4, ())))))))))
set_option maxRecDepth 100000 in
set_option maxHeartbeats 4000000 in
theorem wb_Ma_not_50 {p : Program} {l : Launch} {e : Env} {s : State} {m : MethodId} {args : Array Value} {below : List Frame} {meth : Method} {c : Code} {s0 : State} {b0 : Nat} {D : va_G} {cB cI cJ cZ cS cP : ClassId} {A : Nat → Prop} {sk sv : Nat → Nat} {uN uS mc ms : Nat} {ad0 : Nat → Nat} (C0 : XCx p s s0 b0 m args meth c R_Ma b_Ma_not 3 none D cB cI cJ cZ cS cP A) (hE : ENV s0 b0 sk sv) (N : Nat) (G : Unit) (hG : True) : ∀ (u : CS) (v0 : Nat) (t0 : Nat) (t1 : Int32) (t2 : Int32) (x : CS × Unit), fb_Ma_not_50 N G u v0 t0 t1 t2 = some x → (uN + mc = x.1.1.1 ∧ uS + ms = x.1.1.2) → ∀ (ad : Nat → Nat) (ce sl : Nat), AB uN uS ad0 u ad ce sl → ∀ (H : Heap) (locs : List Loc), va_P D cls (wC cB cI cJ cZ cS cP ad u) H → va_D A (wC cB cI cJ cZ cS cP ad u) → va_S A s.heap H locs → ∀ (ls : Array Slot), lv_has ls 3 [(0, .ref (ad v0))] → W p l e (rm_Ma_not mc ms) s m args below meth c H locs ce sl (MQ below (xQ D cB cI cJ cZ cS cP A ad0 uN x.1 none) args s mc ms A) (F0 m 50 ls [.int t2, .int t1, .ref (ad t0)]) := by
  intro u v0 t0 t1 t2 x hf hm ad ce sl hB H locs hP hD hS ls hl
  obtain ⟨hx, hb, hr, hml, ht, hown, hK, hA, hlocks, hA0, hO, hbs⟩ := id C0
  unfold fb_Ma_not_50 at hf
  obtain ⟨u1, r1, hc1, hf⟩ := bx_some hf
  obtain ⟨hc1, hz1⟩ := gz_some hc1
  obtain ⟨hf, hw1⟩ := gw_some hf
  refine xS0 (As := [.int t2]) (rest := [.int t1, .ref (ad t0)]) C0 hP hD hS (c_Ma_truth N hc1) k_Ma_truth (wd_of 1779 (by decide +kernel) rfl) ht_Ma_truth hini_Ma rfl rfl hd_Ma_truth rfl rm_Ma_not_Ma_truth hl.1 (Nat.le_of_ble_eq_true rfl) d_Ma_not_50 rfl (hB.fit hm hz1 hw1) (fun H locs hP hD hS => ?_)
  have hB := hB.same2 hz1
  obtain ⟨hO9, hf⟩ := ck_some hf
  obtain ⟨hk2, hf⟩ := ck_some hf
  obtain ⟨u2, r2, hc2, hf⟩ := bx_some hf
  obtain ⟨hc2, hq2⟩ := gw_some hc2
  obtain ⟨hf, hw2⟩ := gw_some hf
  refine yV (i := t0) (As := [.int t1, .long r1]) (rest := []) C0 hP hD hS ck_Ma hO9 (c_Ma_answer N hE hc2 (gm hq2)) k_Ma_answer (wd_of 1744 (by decide +kernel) rfl) hi_Ma_answer hs_Ma_answer hini_Ma rfl rfl hd_Ma_answer rfl rm_Ma_not_Ma_answer hl.1 (Nat.le_of_ble_eq_true rfl) d_Ma_not_53 rfl (gm hq2) hB hm hw2 (fun ad2 H locs ce sl hg2 hB hP hD hS => ?_)
  have q2_0 : ad2 v0 = ad v0 := ko_O (k := 0) hk2 rfl hg2
  have hl : lv_has ls 3 [(0, .ref (ad2 v0))] := by simp only [q2_0]; exact hl
  refine lv_aload_n hx hb d_Ma_not_56 rfl (lv_at hl 0 rfl) ?_
  refine lv_dup hx hb d_Ma_not_57 rfl ?_
  obtain ⟨r3, g3, hf⟩ := bo_some hf
  refine xg_I (i := v0) (k := 5) hx hb ht hown ck_Ma hK hP (by decide) fk_Ma_40 g3 d_Ma_not_58 ?_
  refine lv_iconst (v := 1) hx hb d_Ma_not_61 (by decide) ?_
  refine lv_iadd hx hb d_Ma_not_62 ?_
  obtain ⟨w4, g4, hf⟩ := bo_some hf
  refine xp (i := v0) (k := 5) (v := (.inl (r3 + 1))) hx hb ht hown ck_Ma hK hP hD hS (by decide) fk_Ma_40 rfl g4 rfl rfl d_Ma_not_63 (fun H locs hP hD hS => ?_)
  have hB := hB.same (pF_c g4)
  exact yr_v C0 hP hD hS hB hm hf d_Ma_not_66
def fb_Ma_not_34 (N : Nat) (G : Unit) (u : CS) (v0 : Nat) (v1 : Int64) : Option (CS × Unit) := bx (gz u (fm_Ma_atom N u 1)) (fun u5 r5 => gw u5 (br (decide ((lg_cmp v1 r5) = 0)) (fb_Ma_not_50 N G u5 (v0) (v0) (1) (1)) (fb_Ma_not_50 N G u5 (v0) (v0) (1) (0))))
set_option maxRecDepth 100000 in
set_option maxHeartbeats 4000000 in
theorem wb_Ma_not_34 {p : Program} {l : Launch} {e : Env} {s : State} {m : MethodId} {args : Array Value} {below : List Frame} {meth : Method} {c : Code} {s0 : State} {b0 : Nat} {D : va_G} {cB cI cJ cZ cS cP : ClassId} {A : Nat → Prop} {sk sv : Nat → Nat} {uN uS mc ms : Nat} {ad0 : Nat → Nat} (C0 : XCx p s s0 b0 m args meth c R_Ma b_Ma_not 3 none D cB cI cJ cZ cS cP A) (hE : ENV s0 b0 sk sv) (N : Nat) (G : Unit) (hG : True) : ∀ (u : CS) (v0 : Nat) (v1 : Int64) (x : CS × Unit), fb_Ma_not_34 N G u v0 v1 = some x → (uN + mc = x.1.1.1 ∧ uS + ms = x.1.1.2) → ∀ (ad : Nat → Nat) (ce sl : Nat), AB uN uS ad0 u ad ce sl → ∀ (H : Heap) (locs : List Loc), va_P D cls (wC cB cI cJ cZ cS cP ad u) H → va_D A (wC cB cI cJ cZ cS cP ad u) → va_S A s.heap H locs → ∀ (ls : Array Slot), lv_has ls 3 [(0, .ref (ad v0)), (1, .long v1)] → W p l e (rm_Ma_not mc ms) s m args below meth c H locs ce sl (MQ below (xQ D cB cI cJ cZ cS cP A ad0 uN x.1 none) args s mc ms A) (F0 m 34 ls []) := by
  intro u v0 v1 x hf hm ad ce sl hB H locs hP hD hS ls hl
  obtain ⟨hx, hb, hr, hml, ht, hown, hK, hA, hlocks, hA0, hO, hbs⟩ := id C0
  unfold fb_Ma_not_34 at hf
  refine lv_aload_n hx hb d_Ma_not_34 rfl (lv_at hl 0 rfl) ?_
  refine lv_iconst (v := 1) hx hb d_Ma_not_35 (by decide) ?_
  refine lv_lload_n hx hb d_Ma_not_36 rfl (lv_at hl 1 rfl) ?_
  refine lv_iconst (v := 1) hx hb d_Ma_not_37 (by decide) ?_
  obtain ⟨u5, r5, hc5, hf⟩ := bx_some hf
  obtain ⟨hc5, hz5⟩ := gz_some hc5
  obtain ⟨hf, hw5⟩ := gw_some hf
  refine xS0 (As := [.int 1]) (rest := [.long v1, .int 1, .ref (ad v0)]) C0 hP hD hS (c_Ma_atom N hc5) k_Ma_atom (wd_of 1668 (by decide +kernel) rfl) ht_Ma_atom hini_Ma rfl rfl hd_Ma_atom rfl rm_Ma_not_Ma_atom hl.1 (Nat.le_of_ble_eq_true rfl) d_Ma_not_38 rfl (hB.fit hm hz5 hw5) (fun H locs hP hD hS => ?_)
  have hB := hB.same2 hz5
  refine W.lcmp hx hb d_Ma_not_41 ?_
  refine lv_if_ne (tgt := 49) hx hb d_Ma_not_42 (by decide) (fun hc => ?_) (fun hc => ?_)
  · rw [br_n _ hc] at hf
    refine lv_iconst (v := 0) hx hb d_Ma_not_49 (by decide) ?_
    exact wb_Ma_not_50 C0 hE N G hG _ _ _ _ _ _ hf hm _ _ _ hB H locs hP hD hS ls (lv_sub hl [0] rfl)
  · rw [br_p _ hc] at hf
    refine lv_iconst (v := 1) hx hb d_Ma_not_45 (by decide) ?_
    refine lv_goto (tgt := 50) hx hb d_Ma_not_46 (by decide) ?_
    exact wb_Ma_not_50 C0 hE N G hG _ _ _ _ _ _ hf hm _ _ _ hB H locs hP hD hS ls (lv_sub hl [0] rfl)
def fb_Ma_not_0 (N : Nat) (G : Unit) (u : CS) (v0 : Nat) : Option (CS × Unit) := bo (gR u v0 5 4) (fun r6 => bo r6 (fun j8 => ck (isO u j8 4) (bx (gz u (fm_Fr_below N u j8 0)) (fun u7 r7 => gw u7 (bx (gz u7 (fm_Ma_atom N u7 0)) (fun u9 r9 => gw u9 (br (decide ((lg_cmp r7 r9) = 0)) (fb_Ma_not_34 N G u9 (v0) (r7)) (bx (gz u9 (fm_Ma_atom N u9 1)) (fun u10 r10 => gw u10 (br (decide ((lg_cmp r7 r10) = 0)) (fb_Ma_not_34 N G u10 (v0) (r7)) (ck (isO u10 v0 5) (bx (gz u10 (fm_Ma_wrong N u10 v0 11)) (fun u11 r11 => gw u11 (some (u11, ())))))))))))))))
set_option maxRecDepth 100000 in
set_option maxHeartbeats 4000000 in
theorem wb_Ma_not_0 {p : Program} {l : Launch} {e : Env} {s : State} {m : MethodId} {args : Array Value} {below : List Frame} {meth : Method} {c : Code} {s0 : State} {b0 : Nat} {D : va_G} {cB cI cJ cZ cS cP : ClassId} {A : Nat → Prop} {sk sv : Nat → Nat} {uN uS mc ms : Nat} {ad0 : Nat → Nat} (C0 : XCx p s s0 b0 m args meth c R_Ma b_Ma_not 3 none D cB cI cJ cZ cS cP A) (hE : ENV s0 b0 sk sv) (N : Nat) (G : Unit) (hG : True) : ∀ (u : CS) (v0 : Nat) (x : CS × Unit), fb_Ma_not_0 N G u v0 = some x → (uN + mc = x.1.1.1 ∧ uS + ms = x.1.1.2) → ∀ (ad : Nat → Nat) (ce sl : Nat), AB uN uS ad0 u ad ce sl → ∀ (H : Heap) (locs : List Loc), va_P D cls (wC cB cI cJ cZ cS cP ad u) H → va_D A (wC cB cI cJ cZ cS cP ad u) → va_S A s.heap H locs → ∀ (ls : Array Slot), lv_has ls 3 [(0, .ref (ad v0))] → W p l e (rm_Ma_not mc ms) s m args below meth c H locs ce sl (MQ below (xQ D cB cI cJ cZ cS cP A ad0 uN x.1 none) args s mc ms A) (F0 m 0 ls []) := by
  intro u v0 x hf hm ad ce sl hB H locs hP hD hS ls hl
  obtain ⟨hx, hb, hr, hml, ht, hown, hK, hA, hlocks, hA0, hO, hbs⟩ := id C0
  unfold fb_Ma_not_0 at hf
  refine lv_aload_n hx hb d_Ma_not_0 rfl (lv_at hl 0 rfl) ?_
  obtain ⟨r6, g6, hf⟩ := bo_some hf
  refine xg_R (i := v0) (k := 4) hx hb ht hown ck_Ma hK hP (by decide) fk_Ma_33 g6 d_Ma_not_1 ?_
  refine lv_iconst (v := 0) hx hb d_Ma_not_4 (by decide) ?_
  obtain ⟨j8, ej8, hf⟩ := bo_some hf
  rw [ej8]
  obtain ⟨hO9, hf⟩ := ck_some hf
  obtain ⟨u7, r7, hc7, hf⟩ := bx_some hf
  obtain ⟨hc7, hz7⟩ := gz_some hc7
  obtain ⟨hf, hw7⟩ := gw_some hf
  refine xV0 (i := j8) (As := [.int 0]) (rest := []) C0 hP hD hS ck_Fr hO9 (c_Fr_below N hc7) k_Fr_below (wd_of 1653 (by decide +kernel) rfl) hi_Fr_below hs_Fr_below hini_Fr rfl rfl hd_Fr_below rfl rm_Ma_not_Fr_below hl.1 (Nat.le_of_ble_eq_true rfl) d_Ma_not_5 rfl (hB.fit hm hz7 hw7) (fun H locs hP hD hS => ?_)
  have hB := hB.same2 hz7
  refine lv_lstore_n (lv' := [(1, .long r7), (0, .ref (ad v0))]) hx hb d_Ma_not_8 rfl hl (by decide) (by first | rfl | simp [List.filter, cat_rf]) (fun ls hl => ?_)
  refine lv_lload_n hx hb d_Ma_not_9 rfl (lv_at hl 0 rfl) ?_
  refine lv_iconst (v := 0) hx hb d_Ma_not_10 (by decide) ?_
  obtain ⟨u9, r9, hc9, hf⟩ := bx_some hf
  obtain ⟨hc9, hz9⟩ := gz_some hc9
  obtain ⟨hf, hw9⟩ := gw_some hf
  refine xS0 (As := [.int 0]) (rest := [.long r7]) C0 hP hD hS (c_Ma_atom N hc9) k_Ma_atom (wd_of 1668 (by decide +kernel) rfl) ht_Ma_atom hini_Ma rfl rfl hd_Ma_atom rfl rm_Ma_not_Ma_atom hl.1 (Nat.le_of_ble_eq_true rfl) d_Ma_not_11 rfl (hB.fit hm hz9 hw9) (fun H locs hP hD hS => ?_)
  have hB := hB.same2 hz9
  refine W.lcmp hx hb d_Ma_not_14 ?_
  refine lv_if_eq (tgt := 34) hx hb d_Ma_not_15 (by decide) (fun hc => ?_) (fun hc => ?_)
  · rw [br_p _ hc] at hf
    exact wb_Ma_not_34 C0 hE N G hG _ _ _ _ hf hm _ _ _ hB H locs hP hD hS ls (lv_sub hl [1, 0] rfl)
  · rw [br_n _ hc] at hf
    refine lv_lload_n hx hb d_Ma_not_18 rfl (lv_at hl 0 rfl) ?_
    refine lv_iconst (v := 1) hx hb d_Ma_not_19 (by decide) ?_
    obtain ⟨u10, r10, hc10, hf⟩ := bx_some hf
    obtain ⟨hc10, hz10⟩ := gz_some hc10
    obtain ⟨hf, hw10⟩ := gw_some hf
    refine xS0 (As := [.int 1]) (rest := [.long r7]) C0 hP hD hS (c_Ma_atom N hc10) k_Ma_atom (wd_of 1668 (by decide +kernel) rfl) ht_Ma_atom hini_Ma rfl rfl hd_Ma_atom rfl rm_Ma_not_Ma_atom hl.1 (Nat.le_of_ble_eq_true rfl) d_Ma_not_20 rfl (hB.fit hm hz10 hw10) (fun H locs hP hD hS => ?_)
    have hB := hB.same2 hz10
    refine W.lcmp hx hb d_Ma_not_23 ?_
    refine lv_if_eq (tgt := 34) hx hb d_Ma_not_24 (by decide) (fun hc => ?_) (fun hc => ?_)
    · rw [br_p _ hc] at hf
      exact wb_Ma_not_34 C0 hE N G hG _ _ _ _ hf hm _ _ _ hB H locs hP hD hS ls (lv_sub hl [1, 0] rfl)
    · rw [br_n _ hc] at hf
      refine lv_aload_n hx hb d_Ma_not_27 rfl (lv_at hl 1 rfl) ?_
      refine lv_bipush (v := 11) hx hb d_Ma_not_28 (by decide) ?_
      obtain ⟨hO9, hf⟩ := ck_some hf
      obtain ⟨u11, r11, hc11, hf⟩ := bx_some hf
      obtain ⟨hc11, hz11⟩ := gz_some hc11
      obtain ⟨hf, hw11⟩ := gw_some hf
      refine xV0 (i := v0) (As := [.int 11]) (rest := []) C0 hP hD hS ck_Ma hO9 (c_Ma_wrong N hc11) k_Ma_wrong (wd_of 1664 (by decide +kernel) rfl) hi_Ma_wrong hs_Ma_wrong hini_Ma rfl rfl hd_Ma_wrong rfl rm_Ma_not_Ma_wrong hl.1 (Nat.le_of_ble_eq_true rfl) d_Ma_not_30 rfl (hB.fit hm hz11 hw11) (fun H locs hP hD hS => ?_)
      have hB := hB.same2 hz11
      exact yr_v C0 hP hD hS hB hm hf d_Ma_not_33
def fm_Ma_not (N : Nat) (u : CS) (v0 : Nat) : Option (CS × Unit) := fb_Ma_not_0 N () u v0
set_option maxRecDepth 100000 in
set_option maxHeartbeats 4000000 in
theorem c_Ma_not (N : Nat) {l : Launch} {s0 : State} {b0 : Nat} {D : va_G} {cB cI cJ cZ cS cP : ClassId} {sk sv : Nat → Nat} {ad : Nat → Nat} {u : CS} {sz mc ms : Nat} {v0 : Nat} {x : CS × Unit} (hE : ENV s0 b0 sk sv) (hf : fm_Ma_not N u v0 = some x) (hm : u.1.1 + mc = x.1.1.1 ∧ u.1.2 + ms = x.1.1.2) : Met l y_Ma_not (wd_ws y_Ma_not b_Ma_not 3 none) (rm_Ma_not mc ms) (xPc s0 b0 D cB cI cJ cZ cS cP ad u sz [.ref (ad v0)]) (xQ D cB cI cJ cZ cS cP (xA cB cI cJ cZ cS cP ad u sz) ad u.1.1 x.1 none) mc ms (xA cB cI cJ cZ cS cP ad u sz) :=
  xMet (by decide) rfl (Nat.le_of_ble_eq_true rfl) (fun p e s m below meth c ls hsz hnm C0 hP hD hS hl =>
    wb_Ma_not_0 C0 hE N () trivial u _ x hf hm ad 0 0 ⟨rfl, rfl, fun _ _ => rfl⟩ s.heap [] hP hD hS ls (lv_sub hl [0] rfl))
abbrev b_Ma_hinge : ByteArray := prog_5_method_26_code
def y_Ma_hinge : MethodName := ⟨R_Ma, "hinge", "(ZI)V"⟩
def w_Ma_hinge : List Cond := wd_ws y_Ma_hinge b_Ma_hinge 5 none
set_option maxRecDepth 100000 in
theorem k_Ma_hinge : Cond.code y_Ma_hinge b_Ma_hinge 5 none ∈ wd_tbl := wd_of 1929 rfl rfl
theorem d_Ma_hinge_0 : decode b_Ma_hinge 0 = .ok (.aload_n 0, 1) := by decide +kernel
theorem d_Ma_hinge_1 : decode b_Ma_hinge 1 = .ok (.getfield 33, 3) := by decide +kernel
theorem d_Ma_hinge_4 : decode b_Ma_hinge 4 = .ok (.iconst 0, 1) := by decide +kernel
theorem d_Ma_hinge_5 : decode b_Ma_hinge 5 = .ok (.invokevirtual 138, 3) := by decide +kernel
theorem d_Ma_hinge_8 : decode b_Ma_hinge 8 = .ok (.lstore_n 3, 1) := by decide +kernel
theorem d_Ma_hinge_9 : decode b_Ma_hinge 9 = .ok (.lload_n 3, 1) := by decide +kernel
theorem d_Ma_hinge_10 : decode b_Ma_hinge 10 = .ok (.iconst 0, 1) := by decide +kernel
theorem d_Ma_hinge_11 : decode b_Ma_hinge 11 = .ok (.invokestatic 105, 3) := by decide +kernel
theorem d_Ma_hinge_14 : decode b_Ma_hinge 14 = .ok (.lcmp, 1) := by decide +kernel
theorem d_Ma_hinge_15 : decode b_Ma_hinge 15 = .ok (.ifCond .eq 21, 3) := by decide +kernel
theorem d_Ma_hinge_18 : decode b_Ma_hinge 18 = .ok (.lload_n 3, 1) := by decide +kernel
theorem d_Ma_hinge_19 : decode b_Ma_hinge 19 = .ok (.iconst 1, 1) := by decide +kernel
theorem d_Ma_hinge_20 : decode b_Ma_hinge 20 = .ok (.invokestatic 105, 3) := by decide +kernel
theorem d_Ma_hinge_23 : decode b_Ma_hinge 23 = .ok (.lcmp, 1) := by decide +kernel
theorem d_Ma_hinge_24 : decode b_Ma_hinge 24 = .ok (.ifCond .eq 12, 3) := by decide +kernel
theorem d_Ma_hinge_27 : decode b_Ma_hinge 27 = .ok (.aload_n 0, 1) := by decide +kernel
theorem d_Ma_hinge_28 : decode b_Ma_hinge 28 = .ok (.bipush 11, 2) := by decide +kernel
theorem d_Ma_hinge_30 : decode b_Ma_hinge 30 = .ok (.invokevirtual 249, 3) := by decide +kernel
theorem d_Ma_hinge_33 : decode b_Ma_hinge 33 = .ok (.goto 38, 3) := by decide +kernel
theorem d_Ma_hinge_36 : decode b_Ma_hinge 36 = .ok (.lload_n 3, 1) := by decide +kernel
theorem d_Ma_hinge_37 : decode b_Ma_hinge 37 = .ok (.iload_n 1, 1) := by decide +kernel
theorem d_Ma_hinge_38 : decode b_Ma_hinge 38 = .ok (.invokestatic 207, 3) := by decide +kernel
theorem d_Ma_hinge_41 : decode b_Ma_hinge 41 = .ok (.lcmp, 1) := by decide +kernel
theorem d_Ma_hinge_42 : decode b_Ma_hinge 42 = .ok (.ifCond .ne 24, 3) := by decide +kernel
theorem d_Ma_hinge_45 : decode b_Ma_hinge 45 = .ok (.aload_n 0, 1) := by decide +kernel
theorem d_Ma_hinge_46 : decode b_Ma_hinge 46 = .ok (.getfield 33, 3) := by decide +kernel
theorem d_Ma_hinge_49 : decode b_Ma_hinge 49 = .ok (.iconst 1, 1) := by decide +kernel
theorem d_Ma_hinge_50 : decode b_Ma_hinge 50 = .ok (.invokevirtual 109, 3) := by decide +kernel
theorem d_Ma_hinge_53 : decode b_Ma_hinge 53 = .ok (.aload_n 0, 1) := by decide +kernel
theorem d_Ma_hinge_54 : decode b_Ma_hinge 54 = .ok (.dup, 1) := by decide +kernel
theorem d_Ma_hinge_55 : decode b_Ma_hinge 55 = .ok (.getfield 40, 3) := by decide +kernel
theorem d_Ma_hinge_58 : decode b_Ma_hinge 58 = .ok (.iconst 2, 1) := by decide +kernel
theorem d_Ma_hinge_59 : decode b_Ma_hinge 59 = .ok (.iadd, 1) := by decide +kernel
theorem d_Ma_hinge_60 : decode b_Ma_hinge 60 = .ok (.putfield 40, 3) := by decide +kernel
theorem d_Ma_hinge_63 : decode b_Ma_hinge 63 = .ok (.goto 8, 3) := by decide +kernel
theorem d_Ma_hinge_66 : decode b_Ma_hinge 66 = .ok (.aload_n 0, 1) := by decide +kernel
theorem d_Ma_hinge_67 : decode b_Ma_hinge 67 = .ok (.iload_n 2, 1) := by decide +kernel
theorem d_Ma_hinge_68 : decode b_Ma_hinge 68 = .ok (.putfield 40, 3) := by decide +kernel
theorem d_Ma_hinge_71 : decode b_Ma_hinge 71 = .ok (.return_, 1) := by decide +kernel
set_option maxRecDepth 100000 in
theorem hl_Ma_hinge : Cond.methodLink R_Ma 220 y_Ma_hinge ∈ wd_tbl := wd_of 1926 (by decide +kernel) rfl
set_option maxRecDepth 100000 in
theorem hi_Ma_hinge : Cond.instanceMethod y_Ma_hinge ∈ wd_tbl := wd_of 1928 (by decide +kernel) rfl
set_option maxRecDepth 100000 in
theorem hs_Ma_hinge : Cond.selects R_Ma y_Ma_hinge y_Ma_hinge ∈ wd_tbl := wd_of 105 (by decide +kernel) rfl
theorem hd_Ma_hinge : y_Ma_hinge.cls = R_Ma ∧ y_Ma_hinge.cls ≠ "java/lang/invoke/MethodHandle" ∧ y_Ma_hinge.cls ≠ "java/lang/invoke/VarHandle" ∧ (parseMethodDescriptor y_Ma_hinge.desc).map (fun d => d.parameters.length) = some 2 := by decide +kernel
def rm_Ma_hinge : Room := { frames := 3, cells := 0, slots := 0, locals := 62 }
theorem rm_Ma_hinge_Fr_below : (rm_Fr_below).frames + 1 ≤ rm_Ma_hinge.frames ∧ 8 + (3 + 11) + (rm_Fr_below).locals ≤ rm_Ma_hinge.locals := by
  show 0 + 1 ≤ 3 ∧ 8 + (3 + 11) + 0 ≤ 62
  decide
theorem rm_Ma_hinge_Ma_atom : (rm_Ma_atom).frames + 1 ≤ rm_Ma_hinge.frames ∧ 8 + (1 + 11) + (rm_Ma_atom).locals ≤ rm_Ma_hinge.locals := by
  show 1 + 1 ≤ 3 ∧ 8 + (1 + 11) + 21 ≤ 62
  decide
theorem rm_Ma_hinge_Ma_wrong : (rm_Ma_wrong).frames + 1 ≤ rm_Ma_hinge.frames ∧ 8 + (2 + 11) + (rm_Ma_wrong).locals ≤ rm_Ma_hinge.locals := by
  show 2 + 1 ≤ 3 ∧ 8 + (2 + 11) + 41 ≤ 62
  decide
theorem rm_Ma_hinge_Ma_truth : (rm_Ma_truth).frames + 1 ≤ rm_Ma_hinge.frames ∧ 8 + (1 + 11) + (rm_Ma_truth).locals ≤ rm_Ma_hinge.locals := by
  show 2 + 1 ≤ 3 ∧ 8 + (1 + 11) + 41 ≤ 62
  decide
theorem rm_Ma_hinge_Fr_drop : (rm_Fr_drop).frames + 1 ≤ rm_Ma_hinge.frames ∧ 8 + (2 + 11) + (rm_Fr_drop).locals ≤ rm_Ma_hinge.locals := by
  show 1 + 1 ≤ 3 ∧ 8 + (2 + 11) + 23 ≤ 62
  decide
def fb_Ma_hinge_71 (N : Nat) (G : Unit) (u : CS) : Option (CS × Unit) := some (u, ())
set_option maxRecDepth 100000 in
set_option maxHeartbeats 4000000 in
theorem wb_Ma_hinge_71 {p : Program} {l : Launch} {e : Env} {s : State} {m : MethodId} {args : Array Value} {below : List Frame} {meth : Method} {c : Code} {s0 : State} {b0 : Nat} {D : va_G} {cB cI cJ cZ cS cP : ClassId} {A : Nat → Prop} {sk sv : Nat → Nat} {ad : Nat → Nat} (C0 : XCx p s s0 b0 m args meth c R_Ma b_Ma_hinge 5 none D cB cI cJ cZ cS cP A) (hE : ENV s0 b0 sk sv) (N : Nat) (G : Unit) (hG : True) : ∀ (u : CS) (x : CS × Unit), fb_Ma_hinge_71 N G u = some x → ∀ (H : Heap) (locs : List Loc), va_P D cls (wC cB cI cJ cZ cS cP ad u) H → va_D A (wC cB cI cJ cZ cS cP ad u) → va_S A s.heap H locs → ∀ (ls : Array Slot), lv_has ls 5 [] → W p l e rm_Ma_hinge s m args below meth c H locs 0 0 (MQ below (xQ0 D cB cI cJ cZ cS cP A ad x.1 none) args s 0 0 A) (F0 m 71 ls []) := by
  intro u x hf H locs hP hD hS ls hl
  obtain ⟨hx, hb, hr, hml, ht, hown, hK, hA, hlocks, hA0, hO, hbs⟩ := id C0
  unfold fb_Ma_hinge_71 at hf
  exact xr0_v C0 hP hD hS hf d_Ma_hinge_71
def fb_Ma_hinge_36 (N : Nat) (G : Unit) (u : CS) (v0 : Nat) (v1 : Int32) (v2 : Int32) (v3 : Int64) : Option (CS × Unit) := bx (fm_Ma_truth N u v1) (fun u1 r1 => br (decide ((lg_cmp v3 r1) = 0)) (bo (gR u1 v0 5 4) (fun r3 => bo r3 (fun j5 => ck (isO u1 j5 4) (bx (fm_Fr_drop N u1 j5 1) (fun u4 r4 => bo (gI u4 v0 5 5) (fun r6 => bo (pF u4 v0 5 5 (.inl (r6 + 2))) (fun w7 => fb_Ma_hinge_71 N G w7))))))) (bo (pF u1 v0 5 5 (.inl v2)) (fun w2 => fb_Ma_hinge_71 N G w2)))
set_option maxRecDepth 100000 in
set_option maxHeartbeats 4000000 in
theorem wb_Ma_hinge_36 {p : Program} {l : Launch} {e : Env} {s : State} {m : MethodId} {args : Array Value} {below : List Frame} {meth : Method} {c : Code} {s0 : State} {b0 : Nat} {D : va_G} {cB cI cJ cZ cS cP : ClassId} {A : Nat → Prop} {sk sv : Nat → Nat} {ad : Nat → Nat} (C0 : XCx p s s0 b0 m args meth c R_Ma b_Ma_hinge 5 none D cB cI cJ cZ cS cP A) (hE : ENV s0 b0 sk sv) (N : Nat) (G : Unit) (hG : True) : ∀ (u : CS) (v0 : Nat) (v1 : Int32) (v2 : Int32) (v3 : Int64) (x : CS × Unit), fb_Ma_hinge_36 N G u v0 v1 v2 v3 = some x → ∀ (H : Heap) (locs : List Loc), va_P D cls (wC cB cI cJ cZ cS cP ad u) H → va_D A (wC cB cI cJ cZ cS cP ad u) → va_S A s.heap H locs → ∀ (ls : Array Slot), lv_has ls 5 [(0, .ref (ad v0)), (1, .int v1), (2, .int v2), (3, .long v3)] → W p l e rm_Ma_hinge s m args below meth c H locs 0 0 (MQ below (xQ0 D cB cI cJ cZ cS cP A ad x.1 none) args s 0 0 A) (F0 m 36 ls []) := by
  intro u v0 v1 v2 v3 x hf H locs hP hD hS ls hl
  obtain ⟨hx, hb, hr, hml, ht, hown, hK, hA, hlocks, hA0, hO, hbs⟩ := id C0
  unfold fb_Ma_hinge_36 at hf
  refine lv_lload_n hx hb d_Ma_hinge_36 rfl (lv_at hl 3 rfl) ?_
  refine lv_iload_n hx hb d_Ma_hinge_37 rfl (lv_at hl 1 rfl) ?_
  obtain ⟨u1, r1, hc1, hf⟩ := bx_some hf
  refine xS0 (As := [.int v1]) (rest := [.long v3]) C0 hP hD hS (c_Ma_truth N hc1) k_Ma_truth (wd_of 1779 (by decide +kernel) rfl) ht_Ma_truth hini_Ma rfl rfl hd_Ma_truth rfl rm_Ma_hinge_Ma_truth hl.1 (Nat.le_of_ble_eq_true rfl) d_Ma_hinge_38 rfl ⟨Nat.zero_le _, Nat.zero_le _⟩ (fun H locs hP hD hS => ?_)
  refine W.lcmp hx hb d_Ma_hinge_41 ?_
  refine lv_if_ne (tgt := 66) hx hb d_Ma_hinge_42 (by decide) (fun hc => ?_) (fun hc => ?_)
  · rw [br_n _ hc] at hf
    refine lv_aload_n hx hb d_Ma_hinge_66 rfl (lv_at hl 0 rfl) ?_
    refine lv_iload_n hx hb d_Ma_hinge_67 rfl (lv_at hl 2 rfl) ?_
    obtain ⟨w2, g2, hf⟩ := bo_some hf
    refine xp (i := v0) (k := 5) (v := (.inl v2)) hx hb ht hown ck_Ma hK hP hD hS (by decide) fk_Ma_40 rfl g2 rfl rfl d_Ma_hinge_68 (fun H locs hP hD hS => ?_)
    exact wb_Ma_hinge_71 C0 hE N G hG _ _ hf H locs hP hD hS ls (lv_sub hl [] rfl)
  · rw [br_p _ hc] at hf
    refine lv_aload_n hx hb d_Ma_hinge_45 rfl (lv_at hl 0 rfl) ?_
    obtain ⟨r3, g3, hf⟩ := bo_some hf
    refine xg_R (i := v0) (k := 4) hx hb ht hown ck_Ma hK hP (by decide) fk_Ma_33 g3 d_Ma_hinge_46 ?_
    refine lv_iconst (v := 1) hx hb d_Ma_hinge_49 (by decide) ?_
    obtain ⟨j5, ej5, hf⟩ := bo_some hf
    rw [ej5]
    obtain ⟨hO9, hf⟩ := ck_some hf
    obtain ⟨u4, r4, hc4, hf⟩ := bx_some hf
    refine xV0 (i := j5) (As := [.int 1]) (rest := []) C0 hP hD hS ck_Fr hO9 (c_Fr_drop N hE hc4) k_Fr_drop (wd_of 1748 (by decide +kernel) rfl) hi_Fr_drop hs_Fr_drop hini_Fr rfl rfl hd_Fr_drop rfl rm_Ma_hinge_Fr_drop hl.1 (Nat.le_of_ble_eq_true rfl) d_Ma_hinge_50 rfl ⟨Nat.zero_le _, Nat.zero_le _⟩ (fun H locs hP hD hS => ?_)
    refine lv_aload_n hx hb d_Ma_hinge_53 rfl (lv_at hl 0 rfl) ?_
    refine lv_dup hx hb d_Ma_hinge_54 rfl ?_
    obtain ⟨r6, g6, hf⟩ := bo_some hf
    refine xg_I (i := v0) (k := 5) hx hb ht hown ck_Ma hK hP (by decide) fk_Ma_40 g6 d_Ma_hinge_55 ?_
    refine lv_iconst (v := 2) hx hb d_Ma_hinge_58 (by decide) ?_
    refine lv_iadd hx hb d_Ma_hinge_59 ?_
    obtain ⟨w7, g7, hf⟩ := bo_some hf
    refine xp (i := v0) (k := 5) (v := (.inl (r6 + 2))) hx hb ht hown ck_Ma hK hP hD hS (by decide) fk_Ma_40 rfl g7 rfl rfl d_Ma_hinge_60 (fun H locs hP hD hS => ?_)
    refine lv_goto (tgt := 71) hx hb d_Ma_hinge_63 (by decide) ?_
    exact wb_Ma_hinge_71 C0 hE N G hG _ _ hf H locs hP hD hS ls (lv_sub hl [] rfl)
def fb_Ma_hinge_0 (N : Nat) (G : Unit) (u : CS) (v0 : Nat) (v1 : Int32) (v2 : Int32) : Option (CS × Unit) := bo (gR u v0 5 4) (fun r8 => bo r8 (fun j10 => ck (isO u j10 4) (bx (fm_Fr_below N u j10 0) (fun u9 r9 => bx (fm_Ma_atom N u9 0) (fun u11 r11 => br (decide ((lg_cmp r9 r11) = 0)) (fb_Ma_hinge_36 N G u11 (v0) (v1) (v2) (r9)) (bx (fm_Ma_atom N u11 1) (fun u12 r12 => br (decide ((lg_cmp r9 r12) = 0)) (fb_Ma_hinge_36 N G u12 (v0) (v1) (v2) (r9)) (ck (isO u12 v0 5) (bx (fm_Ma_wrong N u12 v0 11) (fun u13 r13 => fb_Ma_hinge_71 N G u13))))))))))
set_option maxRecDepth 100000 in
set_option maxHeartbeats 4000000 in
theorem wb_Ma_hinge_0 {p : Program} {l : Launch} {e : Env} {s : State} {m : MethodId} {args : Array Value} {below : List Frame} {meth : Method} {c : Code} {s0 : State} {b0 : Nat} {D : va_G} {cB cI cJ cZ cS cP : ClassId} {A : Nat → Prop} {sk sv : Nat → Nat} {ad : Nat → Nat} (C0 : XCx p s s0 b0 m args meth c R_Ma b_Ma_hinge 5 none D cB cI cJ cZ cS cP A) (hE : ENV s0 b0 sk sv) (N : Nat) (G : Unit) (hG : True) : ∀ (u : CS) (v0 : Nat) (v1 : Int32) (v2 : Int32) (x : CS × Unit), fb_Ma_hinge_0 N G u v0 v1 v2 = some x → ∀ (H : Heap) (locs : List Loc), va_P D cls (wC cB cI cJ cZ cS cP ad u) H → va_D A (wC cB cI cJ cZ cS cP ad u) → va_S A s.heap H locs → ∀ (ls : Array Slot), lv_has ls 5 [(0, .ref (ad v0)), (1, .int v1), (2, .int v2)] → W p l e rm_Ma_hinge s m args below meth c H locs 0 0 (MQ below (xQ0 D cB cI cJ cZ cS cP A ad x.1 none) args s 0 0 A) (F0 m 0 ls []) := by
  intro u v0 v1 v2 x hf H locs hP hD hS ls hl
  obtain ⟨hx, hb, hr, hml, ht, hown, hK, hA, hlocks, hA0, hO, hbs⟩ := id C0
  unfold fb_Ma_hinge_0 at hf
  refine lv_aload_n hx hb d_Ma_hinge_0 rfl (lv_at hl 0 rfl) ?_
  obtain ⟨r8, g8, hf⟩ := bo_some hf
  refine xg_R (i := v0) (k := 4) hx hb ht hown ck_Ma hK hP (by decide) fk_Ma_33 g8 d_Ma_hinge_1 ?_
  refine lv_iconst (v := 0) hx hb d_Ma_hinge_4 (by decide) ?_
  obtain ⟨j10, ej10, hf⟩ := bo_some hf
  rw [ej10]
  obtain ⟨hO9, hf⟩ := ck_some hf
  obtain ⟨u9, r9, hc9, hf⟩ := bx_some hf
  refine xV0 (i := j10) (As := [.int 0]) (rest := []) C0 hP hD hS ck_Fr hO9 (c_Fr_below N hc9) k_Fr_below (wd_of 1653 (by decide +kernel) rfl) hi_Fr_below hs_Fr_below hini_Fr rfl rfl hd_Fr_below rfl rm_Ma_hinge_Fr_below hl.1 (Nat.le_of_ble_eq_true rfl) d_Ma_hinge_5 rfl ⟨Nat.zero_le _, Nat.zero_le _⟩ (fun H locs hP hD hS => ?_)
  refine lv_lstore_n (lv' := [(3, .long r9), (0, .ref (ad v0)), (1, .int v1), (2, .int v2)]) hx hb d_Ma_hinge_8 rfl hl (by decide) (by first | rfl | simp [List.filter, cat_rf]) (fun ls hl => ?_)
  refine lv_lload_n hx hb d_Ma_hinge_9 rfl (lv_at hl 0 rfl) ?_
  refine lv_iconst (v := 0) hx hb d_Ma_hinge_10 (by decide) ?_
  obtain ⟨u11, r11, hc11, hf⟩ := bx_some hf
  refine xS0 (As := [.int 0]) (rest := [.long r9]) C0 hP hD hS (c_Ma_atom N hc11) k_Ma_atom (wd_of 1668 (by decide +kernel) rfl) ht_Ma_atom hini_Ma rfl rfl hd_Ma_atom rfl rm_Ma_hinge_Ma_atom hl.1 (Nat.le_of_ble_eq_true rfl) d_Ma_hinge_11 rfl ⟨Nat.zero_le _, Nat.zero_le _⟩ (fun H locs hP hD hS => ?_)
  refine W.lcmp hx hb d_Ma_hinge_14 ?_
  refine lv_if_eq (tgt := 36) hx hb d_Ma_hinge_15 (by decide) (fun hc => ?_) (fun hc => ?_)
  · rw [br_p _ hc] at hf
    exact wb_Ma_hinge_36 C0 hE N G hG _ _ _ _ _ _ hf H locs hP hD hS ls (lv_sub hl [1, 2, 3, 0] rfl)
  · rw [br_n _ hc] at hf
    refine lv_lload_n hx hb d_Ma_hinge_18 rfl (lv_at hl 0 rfl) ?_
    refine lv_iconst (v := 1) hx hb d_Ma_hinge_19 (by decide) ?_
    obtain ⟨u12, r12, hc12, hf⟩ := bx_some hf
    refine xS0 (As := [.int 1]) (rest := [.long r9]) C0 hP hD hS (c_Ma_atom N hc12) k_Ma_atom (wd_of 1668 (by decide +kernel) rfl) ht_Ma_atom hini_Ma rfl rfl hd_Ma_atom rfl rm_Ma_hinge_Ma_atom hl.1 (Nat.le_of_ble_eq_true rfl) d_Ma_hinge_20 rfl ⟨Nat.zero_le _, Nat.zero_le _⟩ (fun H locs hP hD hS => ?_)
    refine W.lcmp hx hb d_Ma_hinge_23 ?_
    refine lv_if_eq (tgt := 36) hx hb d_Ma_hinge_24 (by decide) (fun hc => ?_) (fun hc => ?_)
    · rw [br_p _ hc] at hf
      exact wb_Ma_hinge_36 C0 hE N G hG _ _ _ _ _ _ hf H locs hP hD hS ls (lv_sub hl [1, 2, 3, 0] rfl)
    · rw [br_n _ hc] at hf
      refine lv_aload_n hx hb d_Ma_hinge_27 rfl (lv_at hl 1 rfl) ?_
      refine lv_bipush (v := 11) hx hb d_Ma_hinge_28 (by decide) ?_
      obtain ⟨hO9, hf⟩ := ck_some hf
      obtain ⟨u13, r13, hc13, hf⟩ := bx_some hf
      refine xV0 (i := v0) (As := [.int 11]) (rest := []) C0 hP hD hS ck_Ma hO9 (c_Ma_wrong N hc13) k_Ma_wrong (wd_of 1664 (by decide +kernel) rfl) hi_Ma_wrong hs_Ma_wrong hini_Ma rfl rfl hd_Ma_wrong rfl rm_Ma_hinge_Ma_wrong hl.1 (Nat.le_of_ble_eq_true rfl) d_Ma_hinge_30 rfl ⟨Nat.zero_le _, Nat.zero_le _⟩ (fun H locs hP hD hS => ?_)
      refine lv_goto (tgt := 71) hx hb d_Ma_hinge_33 (by decide) ?_
      exact wb_Ma_hinge_71 C0 hE N G hG _ _ hf H locs hP hD hS ls (lv_sub hl [] rfl)
def fm_Ma_hinge (N : Nat) (u : CS) (v0 : Nat) (v1 : Int32) (v2 : Int32) : Option (CS × Unit) := fb_Ma_hinge_0 N () u v0 v1 v2
set_option maxRecDepth 100000 in
set_option maxHeartbeats 4000000 in
theorem c_Ma_hinge (N : Nat) {l : Launch} {s0 : State} {b0 : Nat} {D : va_G} {cB cI cJ cZ cS cP : ClassId} {sk sv : Nat → Nat} {ad : Nat → Nat} {u : CS} {sz : Nat} {v0 : Nat} {v1 : Int32} {v2 : Int32} {x : CS × Unit} (hE : ENV s0 b0 sk sv) (hf : fm_Ma_hinge N u v0 v1 v2 = some x) : Met l y_Ma_hinge (wd_ws y_Ma_hinge b_Ma_hinge 5 none) rm_Ma_hinge (xPc s0 b0 D cB cI cJ cZ cS cP ad u sz [.ref (ad v0), .int v1, .int v2]) (xQ0 D cB cI cJ cZ cS cP (xA cB cI cJ cZ cS cP ad u sz) ad x.1 none) 0 0 (xA cB cI cJ cZ cS cP ad u sz) :=
  xMet (by decide) rfl (Nat.le_of_ble_eq_true rfl) (fun p e s m below meth c ls hsz hnm C0 hP hD hS hl =>
    wb_Ma_hinge_0 C0 hE N () trivial u _ _ _ x hf s.heap [] hP hD hS ls (lv_sub hl [0, 1, 2] rfl))
abbrev b_Fr_forget : ByteArray := prog_4_method_18_code
def y_Fr_forget : MethodName := ⟨R_Fr, "forget", "(I)V"⟩
def w_Fr_forget : List Cond := wd_ws y_Fr_forget b_Fr_forget 2 none
set_option maxRecDepth 100000 in
theorem k_Fr_forget : Cond.code y_Fr_forget b_Fr_forget 2 none ∈ wd_tbl := wd_of 1933 rfl rfl
theorem d_Fr_forget_0 : decode b_Fr_forget 0 = .ok (.aload_n 0, 1) := by decide +kernel
theorem d_Fr_forget_1 : decode b_Fr_forget 1 = .ok (.iconst 0, 1) := by decide +kernel
theorem d_Fr_forget_2 : decode b_Fr_forget 2 = .ok (.aload_n 0, 1) := by decide +kernel
theorem d_Fr_forget_3 : decode b_Fr_forget 3 = .ok (.getfield 32, 3) := by decide +kernel
theorem d_Fr_forget_6 : decode b_Fr_forget 6 = .ok (.iload_n 1, 1) := by decide +kernel
theorem d_Fr_forget_7 : decode b_Fr_forget 7 = .ok (.isub, 1) := by decide +kernel
theorem d_Fr_forget_8 : decode b_Fr_forget 8 = .ok (.invokestatic 64, 3) := by decide +kernel
theorem d_Fr_forget_11 : decode b_Fr_forget 11 = .ok (.putfield 32, 3) := by decide +kernel
theorem d_Fr_forget_14 : decode b_Fr_forget 14 = .ok (.return_, 1) := by decide +kernel
set_option maxRecDepth 100000 in
theorem hi_Fr_forget : Cond.instanceMethod y_Fr_forget ∈ wd_tbl := wd_of 1931 (by decide +kernel) rfl
set_option maxRecDepth 100000 in
theorem hs_Fr_forget : Cond.selects R_Fr y_Fr_forget y_Fr_forget ∈ wd_tbl := wd_of 1932 (by decide +kernel) rfl
theorem hd_Fr_forget : y_Fr_forget.cls = R_Fr ∧ y_Fr_forget.cls ≠ "java/lang/invoke/MethodHandle" ∧ y_Fr_forget.cls ≠ "java/lang/invoke/VarHandle" ∧ (parseMethodDescriptor y_Fr_forget.desc).map (fun d => d.parameters.length) = some 1 := by decide +kernel
def rm_Fr_forget : Room := { frames := 1, cells := 0, slots := 0, locals := 23 }
def fb_Fr_forget_0 (N : Nat) (G : Unit) (u : CS) (v0 : Nat) (v1 : Int32) : Option (CS × Unit) := bo (gI u v0 4 4) (fun r1 => lt (if 0 < (r1 - v1) then (r1 - v1) else 0) (fun y2 => bo (pF u v0 4 4 (.inl y2)) (fun w3 => some (w3, ()))))
set_option maxRecDepth 100000 in
set_option maxHeartbeats 4000000 in
theorem wb_Fr_forget_0 {p : Program} {l : Launch} {e : Env} {s : State} {m : MethodId} {args : Array Value} {below : List Frame} {meth : Method} {c : Code} {s0 : State} {b0 : Nat} {D : va_G} {cB cI cJ cZ cS cP : ClassId} {A : Nat → Prop} {sk sv : Nat → Nat} {ad : Nat → Nat} (C0 : XCx p s s0 b0 m args meth c R_Fr b_Fr_forget 2 none D cB cI cJ cZ cS cP A) (hE : ENV s0 b0 sk sv) (N : Nat) (G : Unit) (hG : True) : ∀ (u : CS) (v0 : Nat) (v1 : Int32) (x : CS × Unit), fb_Fr_forget_0 N G u v0 v1 = some x → ∀ (H : Heap) (locs : List Loc), va_P D cls (wC cB cI cJ cZ cS cP ad u) H → va_D A (wC cB cI cJ cZ cS cP ad u) → va_S A s.heap H locs → ∀ (ls : Array Slot), lv_has ls 2 [(0, .ref (ad v0)), (1, .int v1)] → W p l e rm_Fr_forget s m args below meth c H locs 0 0 (MQ below (xQ0 D cB cI cJ cZ cS cP A ad x.1 none) args s 0 0 A) (F0 m 0 ls []) := by
  intro u v0 v1 x hf H locs hP hD hS ls hl
  obtain ⟨hx, hb, hr, hml, ht, hown, hK, hA, hlocks, hA0, hO, hbs⟩ := id C0
  unfold fb_Fr_forget_0 at hf
  refine lv_aload_n hx hb d_Fr_forget_0 rfl (lv_at hl 0 rfl) ?_
  refine lv_iconst (v := 0) hx hb d_Fr_forget_1 (by decide) ?_
  refine lv_aload_n hx hb d_Fr_forget_2 rfl (lv_at hl 0 rfl) ?_
  obtain ⟨r1, g1, hf⟩ := bo_some hf
  refine xg_I (i := v0) (k := 4) hx hb ht hown ck_Fr hK hP (by decide) fk_Fr_32 g1 d_Fr_forget_3 ?_
  refine lv_iload_n hx hb d_Fr_forget_6 rfl (lv_at hl 1 rfl) ?_
  refine lv_isub hx hb d_Fr_forget_7 ?_
  refine va_mmax hx hb (hml.trans hl.1.symm) hown (ht _ (wd_of 1752 (by decide +kernel) rfl)) (ht _ (wd_of 1184 (by decide +kernel) rfl)) (ht _ (wd_of 281 (by decide +kernel) rfl)) (ht _ (wd_of 1185 (by decide +kernel) rfl)) (Nat.le_of_ble_eq_true rfl) (Nat.le_trans (Nat.add_le_add_right (c8 (Nat.le_of_ble_eq_true rfl)) _) (Nat.le_of_ble_eq_true rfl)) (Nat.zero_le _) (Nat.zero_le _) d_Fr_forget_8 ?_
  obtain ⟨y2, e2, hf⟩ := lt_some hf
  rw [← e2]
  obtain ⟨w3, g3, hf⟩ := bo_some hf
  refine xp (i := v0) (k := 4) (v := (.inl y2)) hx hb ht hown ck_Fr hK hP hD hS (by decide) fk_Fr_32 rfl g3 rfl rfl d_Fr_forget_11 (fun H locs hP hD hS => ?_)
  exact xr0_v C0 hP hD hS hf d_Fr_forget_14
def fm_Fr_forget (N : Nat) (u : CS) (v0 : Nat) (v1 : Int32) : Option (CS × Unit) := fb_Fr_forget_0 N () u v0 v1
set_option maxRecDepth 100000 in
set_option maxHeartbeats 4000000 in
theorem c_Fr_forget (N : Nat) {l : Launch} {s0 : State} {b0 : Nat} {D : va_G} {cB cI cJ cZ cS cP : ClassId} {sk sv : Nat → Nat} {ad : Nat → Nat} {u : CS} {sz : Nat} {v0 : Nat} {v1 : Int32} {x : CS × Unit} (hE : ENV s0 b0 sk sv) (hf : fm_Fr_forget N u v0 v1 = some x) : Met l y_Fr_forget (wd_ws y_Fr_forget b_Fr_forget 2 none) rm_Fr_forget (xPc s0 b0 D cB cI cJ cZ cS cP ad u sz [.ref (ad v0), .int v1]) (xQ0 D cB cI cJ cZ cS cP (xA cB cI cJ cZ cS cP ad u sz) ad x.1 none) 0 0 (xA cB cI cJ cZ cS cP ad u sz) :=
  xMet (by decide) rfl (Nat.le_of_ble_eq_true rfl) (fun p e s m below meth c ls hsz hnm C0 hP hD hS hl =>
    wb_Fr_forget_0 C0 hE N () trivial u _ _ x hf s.heap [] hP hD hS ls (lv_sub hl [0, 1] rfl))
abbrev b_Ma_sendTo : ByteArray := prog_5_method_30_code
def y_Ma_sendTo : MethodName := ⟨R_Ma, "sendTo", "()V"⟩
def w_Ma_sendTo : List Cond := wd_ws y_Ma_sendTo b_Ma_sendTo 4 none
set_option maxRecDepth 100000 in
theorem k_Ma_sendTo : Cond.code y_Ma_sendTo b_Ma_sendTo 4 none ∈ wd_tbl := wd_of 1937 rfl rfl
theorem d_Ma_sendTo_0 : decode b_Ma_sendTo 0 = .ok (.aload_n 0, 1) := by decide +kernel
theorem d_Ma_sendTo_1 : decode b_Ma_sendTo 1 = .ok (.getfield 33, 3) := by decide +kernel
theorem d_Ma_sendTo_4 : decode b_Ma_sendTo 4 = .ok (.iconst 1, 1) := by decide +kernel
theorem d_Ma_sendTo_5 : decode b_Ma_sendTo 5 = .ok (.invokevirtual 138, 3) := by decide +kernel
theorem d_Ma_sendTo_8 : decode b_Ma_sendTo 8 = .ok (.lstore_n 1, 1) := by decide +kernel
theorem d_Ma_sendTo_9 : decode b_Ma_sendTo 9 = .ok (.lload_n 1, 1) := by decide +kernel
theorem d_Ma_sendTo_10 : decode b_Ma_sendTo 10 = .ok (.invokestatic 253, 3) := by decide +kernel
theorem d_Ma_sendTo_13 : decode b_Ma_sendTo 13 = .ok (.iconst 1, 1) := by decide +kernel
theorem d_Ma_sendTo_14 : decode b_Ma_sendTo 14 = .ok (.if_icmp .ne 15, 3) := by decide +kernel
theorem d_Ma_sendTo_17 : decode b_Ma_sendTo 17 = .ok (.aload_n 0, 1) := by decide +kernel
theorem d_Ma_sendTo_18 : decode b_Ma_sendTo 18 = .ok (.getfield 15, 3) := by decide +kernel
theorem d_Ma_sendTo_21 : decode b_Ma_sendTo 21 = .ok (.lload_n 1, 1) := by decide +kernel
theorem d_Ma_sendTo_22 : decode b_Ma_sendTo 22 = .ok (.l2i, 1) := by decide +kernel
theorem d_Ma_sendTo_23 : decode b_Ma_sendTo 23 = .ok (.invokevirtual 275, 3) := by decide +kernel
theorem d_Ma_sendTo_26 : decode b_Ma_sendTo 26 = .ok (.goto 8, 3) := by decide +kernel
theorem d_Ma_sendTo_29 : decode b_Ma_sendTo 29 = .ok (.aload_n 0, 1) := by decide +kernel
theorem d_Ma_sendTo_30 : decode b_Ma_sendTo 30 = .ok (.iconst 1, 1) := by decide +kernel
theorem d_Ma_sendTo_31 : decode b_Ma_sendTo 31 = .ok (.invokevirtual 279, 3) := by decide +kernel
theorem d_Ma_sendTo_34 : decode b_Ma_sendTo 34 = .ok (.astore_n 3, 1) := by decide +kernel
theorem d_Ma_sendTo_35 : decode b_Ma_sendTo 35 = .ok (.aload_n 3, 1) := by decide +kernel
theorem d_Ma_sendTo_36 : decode b_Ma_sendTo 36 = .ok (.ifnonnull 10, 3) := by decide +kernel
theorem d_Ma_sendTo_39 : decode b_Ma_sendTo 39 = .ok (.aload_n 0, 1) := by decide +kernel
theorem d_Ma_sendTo_40 : decode b_Ma_sendTo 40 = .ok (.bipush 11, 2) := by decide +kernel
theorem d_Ma_sendTo_42 : decode b_Ma_sendTo 42 = .ok (.invokevirtual 249, 3) := by decide +kernel
theorem d_Ma_sendTo_45 : decode b_Ma_sendTo 45 = .ok (.return_, 1) := by decide +kernel
theorem d_Ma_sendTo_46 : decode b_Ma_sendTo 46 = .ok (.aload_n 0, 1) := by decide +kernel
theorem d_Ma_sendTo_47 : decode b_Ma_sendTo 47 = .ok (.getfield 15, 3) := by decide +kernel
theorem d_Ma_sendTo_50 : decode b_Ma_sendTo 50 = .ok (.aload_n 3, 1) := by decide +kernel
theorem d_Ma_sendTo_51 : decode b_Ma_sendTo 51 = .ok (.iconst 0, 1) := by decide +kernel
theorem d_Ma_sendTo_52 : decode b_Ma_sendTo 52 = .ok (.aload_n 0, 1) := by decide +kernel
theorem d_Ma_sendTo_53 : decode b_Ma_sendTo 53 = .ok (.getfield 23, 3) := by decide +kernel
theorem d_Ma_sendTo_56 : decode b_Ma_sendTo 56 = .ok (.getfield 282, 3) := by decide +kernel
theorem d_Ma_sendTo_59 : decode b_Ma_sendTo 59 = .ok (.iconst 0, 1) := by decide +kernel
theorem d_Ma_sendTo_60 : decode b_Ma_sendTo 60 = .ok (.aload_n 0, 1) := by decide +kernel
theorem d_Ma_sendTo_61 : decode b_Ma_sendTo 61 = .ok (.getfield 33, 3) := by decide +kernel
theorem d_Ma_sendTo_64 : decode b_Ma_sendTo 64 = .ok (.iconst 0, 1) := by decide +kernel
theorem d_Ma_sendTo_65 : decode b_Ma_sendTo 65 = .ok (.invokevirtual 138, 3) := by decide +kernel
theorem d_Ma_sendTo_68 : decode b_Ma_sendTo 68 = .ok (.aload_n 0, 1) := by decide +kernel
theorem d_Ma_sendTo_69 : decode b_Ma_sendTo 69 = .ok (.getfield 23, 3) := by decide +kernel
theorem d_Ma_sendTo_72 : decode b_Ma_sendTo 72 = .ok (.invokevirtual 284, 3) := by decide +kernel
theorem d_Ma_sendTo_75 : decode b_Ma_sendTo 75 = .ok (.aload_n 0, 1) := by decide +kernel
theorem d_Ma_sendTo_76 : decode b_Ma_sendTo 76 = .ok (.iconst 2, 1) := by decide +kernel
theorem d_Ma_sendTo_77 : decode b_Ma_sendTo 77 = .ok (.aload_n 0, 1) := by decide +kernel
theorem d_Ma_sendTo_78 : decode b_Ma_sendTo 78 = .ok (.getfield 33, 3) := by decide +kernel
theorem d_Ma_sendTo_81 : decode b_Ma_sendTo 81 = .ok (.iconst 0, 1) := by decide +kernel
theorem d_Ma_sendTo_82 : decode b_Ma_sendTo 82 = .ok (.invokevirtual 138, 3) := by decide +kernel
theorem d_Ma_sendTo_85 : decode b_Ma_sendTo 85 = .ok (.invokevirtual 145, 3) := by decide +kernel
theorem d_Ma_sendTo_88 : decode b_Ma_sendTo 88 = .ok (.aload_n 0, 1) := by decide +kernel
theorem d_Ma_sendTo_89 : decode b_Ma_sendTo 89 = .ok (.dup, 1) := by decide +kernel
theorem d_Ma_sendTo_90 : decode b_Ma_sendTo 90 = .ok (.getfield 40, 3) := by decide +kernel
theorem d_Ma_sendTo_93 : decode b_Ma_sendTo 93 = .ok (.iconst 1, 1) := by decide +kernel
theorem d_Ma_sendTo_94 : decode b_Ma_sendTo 94 = .ok (.iadd, 1) := by decide +kernel
theorem d_Ma_sendTo_95 : decode b_Ma_sendTo 95 = .ok (.putfield 40, 3) := by decide +kernel
theorem d_Ma_sendTo_98 : decode b_Ma_sendTo 98 = .ok (.return_, 1) := by decide +kernel
set_option maxRecDepth 100000 in
theorem hl_Ma_sendTo : Cond.methodLink R_Ma 224 y_Ma_sendTo ∈ wd_tbl := wd_of 1934 (by decide +kernel) rfl
set_option maxRecDepth 100000 in
theorem hi_Ma_sendTo : Cond.instanceMethod y_Ma_sendTo ∈ wd_tbl := wd_of 1936 (by decide +kernel) rfl
set_option maxRecDepth 100000 in
theorem hs_Ma_sendTo : Cond.selects R_Ma y_Ma_sendTo y_Ma_sendTo ∈ wd_tbl := wd_of 106 (by decide +kernel) rfl
theorem hd_Ma_sendTo : y_Ma_sendTo.cls = R_Ma ∧ y_Ma_sendTo.cls ≠ "java/lang/invoke/MethodHandle" ∧ y_Ma_sendTo.cls ≠ "java/lang/invoke/VarHandle" ∧ (parseMethodDescriptor y_Ma_sendTo.desc).map (fun d => d.parameters.length) = some 0 := by decide +kernel
def rm_Ma_sendTo (mc ms : Nat) : Room := { frames := 4, cells := mc, slots := ms, locals := 130 }
theorem rm_Ma_sendTo_Fr_below {mc ms : Nat} : (rm_Fr_below).frames + 1 ≤ (rm_Ma_sendTo mc ms).frames ∧ 8 + (3 + 11) + (rm_Fr_below).locals ≤ (rm_Ma_sendTo mc ms).locals := by
  show 0 + 1 ≤ 4 ∧ 8 + (3 + 11) + 0 ≤ 130
  decide
theorem rm_Ma_sendTo_Te_tag {mc ms : Nat} : (rm_Te_tag).frames + 1 ≤ (rm_Ma_sendTo mc ms).frames ∧ 8 + (2 + 11) + (rm_Te_tag).locals ≤ (rm_Ma_sendTo mc ms).locals := by
  show 0 + 1 ≤ 4 ∧ 8 + (2 + 11) + 0 ≤ 130
  decide
theorem rm_Ma_sendTo_Wl_named {mc ms : Nat} : (rm_Wl_named).frames + 1 ≤ (rm_Ma_sendTo mc ms).frames ∧ 8 + (4 + 11) + (rm_Wl_named).locals ≤ (rm_Ma_sendTo mc ms).locals := by
  show 0 + 1 ≤ 4 ∧ 8 + (4 + 11) + 0 ≤ 130
  decide
theorem rm_Ma_sendTo_Ma_processAt {mc ms : Nat} : (rm_Ma_processAt).frames + 1 ≤ (rm_Ma_sendTo mc ms).frames ∧ 8 + (4 + 11) + (rm_Ma_processAt).locals ≤ (rm_Ma_sendTo mc ms).locals := by
  show 1 + 1 ≤ 4 ∧ 8 + (4 + 11) + 22 ≤ 130
  decide
theorem rm_Ma_sendTo_Ma_wrong {mc ms : Nat} : (rm_Ma_wrong).frames + 1 ≤ (rm_Ma_sendTo mc ms).frames ∧ 8 + (2 + 11) + (rm_Ma_wrong).locals ≤ (rm_Ma_sendTo mc ms).locals := by
  show 2 + 1 ≤ 4 ∧ 8 + (2 + 11) + 41 ≤ 130
  decide
theorem rm_Ma_sendTo_Wl_post {mc ms : Nat} : (rm_Wl_post).frames + 1 ≤ (rm_Ma_sendTo mc ms).frames ∧ 8 + (14 + 11) + (rm_Wl_post).locals ≤ (rm_Ma_sendTo mc ms).locals := by
  show 3 + 1 ≤ 4 ∧ 8 + (14 + 11) + 97 ≤ 130
  decide
theorem rm_Ma_sendTo_Ma_answer {mc ms : Nat} {mc2 ms2 : Nat} : (rm_Ma_answer mc2 ms2).frames + 1 ≤ (rm_Ma_sendTo mc ms).frames ∧ 8 + (4 + 11) + (rm_Ma_answer mc2 ms2).locals ≤ (rm_Ma_sendTo mc ms).locals := by
  show 3 + 1 ≤ 4 ∧ 8 + (4 + 11) + 104 ≤ 130
  decide
def fb_Ma_sendTo_34 (N : Nat) (G : Unit) (u : CS) (v0 : Nat) (t0 : Option Nat) : Option (CS × Unit) := br (decide (t0 = none)) (ck (isO u v0 5) (bx (gz u (fm_Ma_wrong N u v0 11)) (fun u17 r17 => gw u17 (some (u17, ()))))) (bo (gR u v0 5 1) (fun r1 => bo (gR u v0 5 3) (fun r2 => bo r2 (fun j3 => bo (gI u j3 7 0) (fun r4 => bo (gR u v0 5 4) (fun r5 => bo r5 (fun j7 => ck (isO u j7 4) (bx (gz u (fm_Fr_below N u j7 0)) (fun u6 r6 => gw u6 (bo (gR u6 v0 5 3) (fun r8 => bo r1 (fun j10 => ck (isO u6 j10 12) (bx (gz u6 (fm_Wl_post N u6 j10 t0 0 r4 0 r6 r8)) (fun u9 r9 => gw u9 (bo (gR u9 v0 5 4) (fun r11 => bo r11 (fun j13 => ck (isO u9 j13 4) (bx (gz u9 (fm_Fr_below N u9 j13 0)) (fun u12 r12 => gw u12 (ck (isO u12 v0 5) (ck (List.all [t0, some v0] (okR u12.1.1)) (bx (gw u12 (fm_Ma_answer N u12 v0 2 r12)) (fun u14 r14 => gw u14 (bo (gI u14 v0 5 5) (fun r15 => bo (pF u14 v0 5 5 (.inl (r15 + 1))) (fun w16 => some (w16, ())))))))))))))))))))))))))))
set_option maxRecDepth 100000 in
set_option maxHeartbeats 4000000 in
theorem wb_Ma_sendTo_34 {p : Program} {l : Launch} {e : Env} {s : State} {m : MethodId} {args : Array Value} {below : List Frame} {meth : Method} {c : Code} {s0 : State} {b0 : Nat} {D : va_G} {cB cI cJ cZ cS cP : ClassId} {A : Nat → Prop} {sk sv : Nat → Nat} {uN uS mc ms : Nat} {ad0 : Nat → Nat} (C0 : XCx p s s0 b0 m args meth c R_Ma b_Ma_sendTo 4 none D cB cI cJ cZ cS cP A) (hE : ENV s0 b0 sk sv) (N : Nat) (G : Unit) (hG : True) : ∀ (u : CS) (v0 : Nat) (t0 : Option Nat) (x : CS × Unit), fb_Ma_sendTo_34 N G u v0 t0 = some x → (uN + mc = x.1.1.1 ∧ uS + ms = x.1.1.2) → ∀ (ad : Nat → Nat) (ce sl : Nat), AB uN uS ad0 u ad ce sl → ∀ (H : Heap) (locs : List Loc), va_P D cls (wC cB cI cJ cZ cS cP ad u) H → va_D A (wC cB cI cJ cZ cS cP ad u) → va_S A s.heap H locs → ∀ (ls : Array Slot), lv_has ls 4 [(0, .ref (ad v0))] → W p l e (rm_Ma_sendTo mc ms) s m args below meth c H locs ce sl (MQ below (xQ D cB cI cJ cZ cS cP A ad0 uN x.1 none) args s mc ms A) (F0 m 34 ls [va_rf (Option.map ad t0)]) := by
  intro u v0 t0 x hf hm ad ce sl hB H locs hP hD hS ls hl
  obtain ⟨hx, hb, hr, hml, ht, hown, hK, hA, hlocks, hA0, hO, hbs⟩ := id C0
  unfold fb_Ma_sendTo_34 at hf
  refine x_astore_n (lv' := [(3, va_rf (Option.map ad t0)), (0, .ref (ad v0))]) hx hb d_Ma_sendTo_34 rfl hl (by decide) (by first | rfl | simp [List.filter, cat_rf]) (fun ls hl => ?_)
  refine x_aload_n hx hb d_Ma_sendTo_35 rfl (lv_at hl 0 rfl) ?_
  refine x_ifnonnull (r := t0) (tgt := 46) hx hb d_Ma_sendTo_36 (by decide) (fun hc => ?_) (fun hc => ?_)
  · rw [br_n _ hc] at hf
    refine lv_aload_n hx hb d_Ma_sendTo_46 rfl (lv_at hl 1 rfl) ?_
    obtain ⟨r1, g1, hf⟩ := bo_some hf
    refine xg_R (i := v0) (k := 1) hx hb ht hown ck_Ma hK hP (by decide) fk_Ma_15 g1 d_Ma_sendTo_47 ?_
    refine x_aload_n hx hb d_Ma_sendTo_50 rfl (lv_at hl 0 rfl) ?_
    refine lv_iconst (v := 0) hx hb d_Ma_sendTo_51 (by decide) ?_
    refine lv_aload_n hx hb d_Ma_sendTo_52 rfl (lv_at hl 1 rfl) ?_
    obtain ⟨r2, g2, hf⟩ := bo_some hf
    refine xg_R (i := v0) (k := 3) hx hb ht hown ck_Ma hK hP (by decide) fk_Ma_23 g2 d_Ma_sendTo_53 ?_
    obtain ⟨j3, ej3, hf⟩ := bo_some hf
    rw [ej3]
    obtain ⟨r4, g4, hf⟩ := bo_some hf
    refine xg_I (i := j3) (k := 0) hx hb ht hown ck_Pr hK hP (by decide) fk_Ma_282 g4 d_Ma_sendTo_56 ?_
    refine lv_iconst (v := 0) hx hb d_Ma_sendTo_59 (by decide) ?_
    refine lv_aload_n hx hb d_Ma_sendTo_60 rfl (lv_at hl 1 rfl) ?_
    obtain ⟨r5, g5, hf⟩ := bo_some hf
    refine xg_R (i := v0) (k := 4) hx hb ht hown ck_Ma hK hP (by decide) fk_Ma_33 g5 d_Ma_sendTo_61 ?_
    refine lv_iconst (v := 0) hx hb d_Ma_sendTo_64 (by decide) ?_
    obtain ⟨j7, ej7, hf⟩ := bo_some hf
    rw [ej7]
    obtain ⟨hO9, hf⟩ := ck_some hf
    obtain ⟨u6, r6, hc6, hf⟩ := bx_some hf
    obtain ⟨hc6, hz6⟩ := gz_some hc6
    obtain ⟨hf, hw6⟩ := gw_some hf
    refine xV0 (i := j7) (As := [.int 0]) (rest := [.int 0, .int r4, .int 0, va_rf (Option.map ad t0), va_rf (Option.map ad r1)]) C0 hP hD hS ck_Fr hO9 (c_Fr_below N hc6) k_Fr_below (wd_of 1653 (by decide +kernel) rfl) hi_Fr_below hs_Fr_below hini_Fr rfl rfl hd_Fr_below rfl rm_Ma_sendTo_Fr_below hl.1 (by simp only [List.map_cons, List.map_nil, cat_rf]; exact Nat.le_of_ble_eq_true rfl) d_Ma_sendTo_65 rfl (hB.fit hm hz6 hw6) (fun H locs hP hD hS => ?_)
    have hB := hB.same2 hz6
    refine lv_aload_n hx hb d_Ma_sendTo_68 rfl (lv_at hl 1 rfl) ?_
    obtain ⟨r8, g8, hf⟩ := bo_some hf
    refine xg_R (i := v0) (k := 3) hx hb ht hown ck_Ma hK hP (by decide) fk_Ma_23 g8 d_Ma_sendTo_69 ?_
    obtain ⟨j10, ej10, hf⟩ := bo_some hf
    rw [ej10]
    obtain ⟨hO9, hf⟩ := ck_some hf
    obtain ⟨u9, r9, hc9, hf⟩ := bx_some hf
    obtain ⟨hc9, hz9⟩ := gz_some hc9
    obtain ⟨hf, hw9⟩ := gw_some hf
    refine xV0 (i := j10) (As := [va_rf (Option.map ad t0), .int 0, .int r4, .int 0, .long r6, va_rf (Option.map ad r8)]) (rest := []) C0 hP hD hS ck_Wl hO9 (c_Wl_post N hE hc9) k_Wl_post (wd_of 1840 (by decide +kernel) rfl) hi_Wl_post hs_Wl_post hini_Wl rfl rfl hd_Wl_post rfl rm_Ma_sendTo_Wl_post hl.1 (Nat.le_of_ble_eq_true rfl) d_Ma_sendTo_72 rfl (hB.fit hm hz9 hw9) (fun H locs hP hD hS => ?_)
    have hB := hB.same2 hz9
    refine lv_aload_n hx hb d_Ma_sendTo_75 rfl (lv_at hl 1 rfl) ?_
    refine lv_iconst (v := 2) hx hb d_Ma_sendTo_76 (by decide) ?_
    refine lv_aload_n hx hb d_Ma_sendTo_77 rfl (lv_at hl 1 rfl) ?_
    obtain ⟨r11, g11, hf⟩ := bo_some hf
    refine xg_R (i := v0) (k := 4) hx hb ht hown ck_Ma hK hP (by decide) fk_Ma_33 g11 d_Ma_sendTo_78 ?_
    refine lv_iconst (v := 0) hx hb d_Ma_sendTo_81 (by decide) ?_
    obtain ⟨j13, ej13, hf⟩ := bo_some hf
    rw [ej13]
    obtain ⟨hO9, hf⟩ := ck_some hf
    obtain ⟨u12, r12, hc12, hf⟩ := bx_some hf
    obtain ⟨hc12, hz12⟩ := gz_some hc12
    obtain ⟨hf, hw12⟩ := gw_some hf
    refine xV0 (i := j13) (As := [.int 0]) (rest := [.int 2, .ref (ad v0)]) C0 hP hD hS ck_Fr hO9 (c_Fr_below N hc12) k_Fr_below (wd_of 1653 (by decide +kernel) rfl) hi_Fr_below hs_Fr_below hini_Fr rfl rfl hd_Fr_below rfl rm_Ma_sendTo_Fr_below hl.1 (Nat.le_of_ble_eq_true rfl) d_Ma_sendTo_82 rfl (hB.fit hm hz12 hw12) (fun H locs hP hD hS => ?_)
    have hB := hB.same2 hz12
    obtain ⟨hO9, hf⟩ := ck_some hf
    obtain ⟨hk14, hf⟩ := ck_some hf
    obtain ⟨u14, r14, hc14, hf⟩ := bx_some hf
    obtain ⟨hc14, hq14⟩ := gw_some hc14
    obtain ⟨hf, hw14⟩ := gw_some hf
    refine yV (i := v0) (As := [.int 2, .long r12]) (rest := []) C0 hP hD hS ck_Ma hO9 (c_Ma_answer N hE hc14 (gm hq14)) k_Ma_answer (wd_of 1744 (by decide +kernel) rfl) hi_Ma_answer hs_Ma_answer hini_Ma rfl rfl hd_Ma_answer rfl rm_Ma_sendTo_Ma_answer hl.1 (Nat.le_of_ble_eq_true rfl) d_Ma_sendTo_85 rfl (gm hq14) hB hm hw14 (fun ad14 H locs ce sl hg14 hB hP hD hS => ?_)
    have q14_0 : Option.map ad14 t0 = Option.map ad t0 := ko_N (k := 0) hk14 rfl hg14
    have q14_1 : ad14 v0 = ad v0 := ko_O (k := 1) hk14 rfl hg14
    have hl : lv_has ls 4 [(3, va_rf (Option.map ad14 t0)), (0, .ref (ad14 v0))] := by simp only [q14_0, q14_1]; exact hl
    refine lv_aload_n hx hb d_Ma_sendTo_88 rfl (lv_at hl 1 rfl) ?_
    refine lv_dup hx hb d_Ma_sendTo_89 rfl ?_
    obtain ⟨r15, g15, hf⟩ := bo_some hf
    refine xg_I (i := v0) (k := 5) hx hb ht hown ck_Ma hK hP (by decide) fk_Ma_40 g15 d_Ma_sendTo_90 ?_
    refine lv_iconst (v := 1) hx hb d_Ma_sendTo_93 (by decide) ?_
    refine lv_iadd hx hb d_Ma_sendTo_94 ?_
    obtain ⟨w16, g16, hf⟩ := bo_some hf
    refine xp (i := v0) (k := 5) (v := (.inl (r15 + 1))) hx hb ht hown ck_Ma hK hP hD hS (by decide) fk_Ma_40 rfl g16 rfl rfl d_Ma_sendTo_95 (fun H locs hP hD hS => ?_)
    have hB := hB.same (pF_c g16)
    exact yr_v C0 hP hD hS hB hm hf d_Ma_sendTo_98
  · rw [br_p _ hc] at hf
    refine lv_aload_n hx hb d_Ma_sendTo_39 rfl (lv_at hl 1 rfl) ?_
    refine lv_bipush (v := 11) hx hb d_Ma_sendTo_40 (by decide) ?_
    obtain ⟨hO9, hf⟩ := ck_some hf
    obtain ⟨u17, r17, hc17, hf⟩ := bx_some hf
    obtain ⟨hc17, hz17⟩ := gz_some hc17
    obtain ⟨hf, hw17⟩ := gw_some hf
    refine xV0 (i := v0) (As := [.int 11]) (rest := []) C0 hP hD hS ck_Ma hO9 (c_Ma_wrong N hc17) k_Ma_wrong (wd_of 1664 (by decide +kernel) rfl) hi_Ma_wrong hs_Ma_wrong hini_Ma rfl rfl hd_Ma_wrong rfl rm_Ma_sendTo_Ma_wrong hl.1 (Nat.le_of_ble_eq_true rfl) d_Ma_sendTo_42 rfl (hB.fit hm hz17 hw17) (fun H locs hP hD hS => ?_)
    have hB := hB.same2 hz17
    exact yr_v C0 hP hD hS hB hm hf d_Ma_sendTo_45
def fb_Ma_sendTo_0 (N : Nat) (G : Unit) (u : CS) (v0 : Nat) : Option (CS × Unit) := bo (gR u v0 5 4) (fun r18 => bo r18 (fun j20 => ck (isO u j20 4) (bx (gz u (fm_Fr_below N u j20 1)) (fun u19 r19 => gw u19 (bx (gz u19 (fm_Te_tag N u19 r19)) (fun u21 r21 => gw u21 (br (decide (r21 = 1)) (bo (gR u21 v0 5 1) (fun r23 => bo r23 (fun j25 => ck (isO u21 j25 12) (bx (gz u21 (fm_Wl_named N u21 j25 (r19.toInt32))) (fun u24 r24 => gw u24 (fb_Ma_sendTo_34 N G u24 (v0) (r24))))))) (ck (isO u21 v0 5) (bx (gz u21 (fm_Ma_processAt N u21 v0 1)) (fun u22 r22 => gw u22 (fb_Ma_sendTo_34 N G u22 (v0) (r22))))))))))))
set_option maxRecDepth 100000 in
set_option maxHeartbeats 4000000 in
theorem wb_Ma_sendTo_0 {p : Program} {l : Launch} {e : Env} {s : State} {m : MethodId} {args : Array Value} {below : List Frame} {meth : Method} {c : Code} {s0 : State} {b0 : Nat} {D : va_G} {cB cI cJ cZ cS cP : ClassId} {A : Nat → Prop} {sk sv : Nat → Nat} {uN uS mc ms : Nat} {ad0 : Nat → Nat} (C0 : XCx p s s0 b0 m args meth c R_Ma b_Ma_sendTo 4 none D cB cI cJ cZ cS cP A) (hE : ENV s0 b0 sk sv) (N : Nat) (G : Unit) (hG : True) : ∀ (u : CS) (v0 : Nat) (x : CS × Unit), fb_Ma_sendTo_0 N G u v0 = some x → (uN + mc = x.1.1.1 ∧ uS + ms = x.1.1.2) → ∀ (ad : Nat → Nat) (ce sl : Nat), AB uN uS ad0 u ad ce sl → ∀ (H : Heap) (locs : List Loc), va_P D cls (wC cB cI cJ cZ cS cP ad u) H → va_D A (wC cB cI cJ cZ cS cP ad u) → va_S A s.heap H locs → ∀ (ls : Array Slot), lv_has ls 4 [(0, .ref (ad v0))] → W p l e (rm_Ma_sendTo mc ms) s m args below meth c H locs ce sl (MQ below (xQ D cB cI cJ cZ cS cP A ad0 uN x.1 none) args s mc ms A) (F0 m 0 ls []) := by
  intro u v0 x hf hm ad ce sl hB H locs hP hD hS ls hl
  obtain ⟨hx, hb, hr, hml, ht, hown, hK, hA, hlocks, hA0, hO, hbs⟩ := id C0
  unfold fb_Ma_sendTo_0 at hf
  refine lv_aload_n hx hb d_Ma_sendTo_0 rfl (lv_at hl 0 rfl) ?_
  obtain ⟨r18, g18, hf⟩ := bo_some hf
  refine xg_R (i := v0) (k := 4) hx hb ht hown ck_Ma hK hP (by decide) fk_Ma_33 g18 d_Ma_sendTo_1 ?_
  refine lv_iconst (v := 1) hx hb d_Ma_sendTo_4 (by decide) ?_
  obtain ⟨j20, ej20, hf⟩ := bo_some hf
  rw [ej20]
  obtain ⟨hO9, hf⟩ := ck_some hf
  obtain ⟨u19, r19, hc19, hf⟩ := bx_some hf
  obtain ⟨hc19, hz19⟩ := gz_some hc19
  obtain ⟨hf, hw19⟩ := gw_some hf
  refine xV0 (i := j20) (As := [.int 1]) (rest := []) C0 hP hD hS ck_Fr hO9 (c_Fr_below N hc19) k_Fr_below (wd_of 1653 (by decide +kernel) rfl) hi_Fr_below hs_Fr_below hini_Fr rfl rfl hd_Fr_below rfl rm_Ma_sendTo_Fr_below hl.1 (Nat.le_of_ble_eq_true rfl) d_Ma_sendTo_5 rfl (hB.fit hm hz19 hw19) (fun H locs hP hD hS => ?_)
  have hB := hB.same2 hz19
  refine lv_lstore_n (lv' := [(1, .long r19), (0, .ref (ad v0))]) hx hb d_Ma_sendTo_8 rfl hl (by decide) (by first | rfl | simp [List.filter, cat_rf]) (fun ls hl => ?_)
  refine lv_lload_n hx hb d_Ma_sendTo_9 rfl (lv_at hl 0 rfl) ?_
  obtain ⟨u21, r21, hc21, hf⟩ := bx_some hf
  obtain ⟨hc21, hz21⟩ := gz_some hc21
  obtain ⟨hf, hw21⟩ := gw_some hf
  refine xS0 (As := [.long r19]) (rest := []) C0 hP hD hS (c_Te_tag N hc21) k_Te_tag (wd_of 1657 (by decide +kernel) rfl) ht_Te_tag hini_Te rfl rfl hd_Te_tag rfl rm_Ma_sendTo_Te_tag hl.1 (Nat.le_of_ble_eq_true rfl) d_Ma_sendTo_10 rfl (hB.fit hm hz21 hw21) (fun H locs hP hD hS => ?_)
  have hB := hB.same2 hz21
  refine lv_iconst (v := 1) hx hb d_Ma_sendTo_13 (by decide) ?_
  refine lv_icmp_ne (tgt := 29) hx hb d_Ma_sendTo_14 (by decide) (fun hc => ?_) (fun hc => ?_)
  · rw [br_n _ hc] at hf
    refine lv_aload_n hx hb d_Ma_sendTo_29 rfl (lv_at hl 1 rfl) ?_
    refine lv_iconst (v := 1) hx hb d_Ma_sendTo_30 (by decide) ?_
    obtain ⟨hO9, hf⟩ := ck_some hf
    obtain ⟨u22, r22, hc22, hf⟩ := bx_some hf
    obtain ⟨hc22, hz22⟩ := gz_some hc22
    obtain ⟨hf, hw22⟩ := gw_some hf
    refine xV0 (i := v0) (As := [.int 1]) (rest := []) C0 hP hD hS ck_Ma hO9 (c_Ma_processAt N hE hc22) k_Ma_processAt (wd_of 1770 (by decide +kernel) rfl) hi_Ma_processAt hs_Ma_processAt hini_Ma rfl rfl hd_Ma_processAt rfl rm_Ma_sendTo_Ma_processAt hl.1 (Nat.le_of_ble_eq_true rfl) d_Ma_sendTo_31 rfl (hB.fit hm hz22 hw22) (fun H locs hP hD hS => ?_)
    have hB := hB.same2 hz22
    exact wb_Ma_sendTo_34 C0 hE N G hG _ _ _ _ hf hm _ _ _ hB H locs hP hD hS ls (lv_sub hl [1] rfl)
  · rw [br_p _ hc] at hf
    refine lv_aload_n hx hb d_Ma_sendTo_17 rfl (lv_at hl 1 rfl) ?_
    obtain ⟨r23, g23, hf⟩ := bo_some hf
    refine xg_R (i := v0) (k := 1) hx hb ht hown ck_Ma hK hP (by decide) fk_Ma_15 g23 d_Ma_sendTo_18 ?_
    refine lv_lload_n hx hb d_Ma_sendTo_21 rfl (lv_at hl 0 rfl) ?_
    refine lv_l2i hx hb d_Ma_sendTo_22 rfl ?_
    obtain ⟨j25, ej25, hf⟩ := bo_some hf
    rw [ej25]
    obtain ⟨hO9, hf⟩ := ck_some hf
    obtain ⟨u24, r24, hc24, hf⟩ := bx_some hf
    obtain ⟨hc24, hz24⟩ := gz_some hc24
    obtain ⟨hf, hw24⟩ := gw_some hf
    refine xV0 (i := j25) (As := [.int r19.toInt32]) (rest := []) C0 hP hD hS ck_Wl hO9 (c_Wl_named N hE hc24) k_Wl_named (wd_of 1766 (by decide +kernel) rfl) hi_Wl_named hs_Wl_named hini_Wl rfl rfl hd_Wl_named rfl rm_Ma_sendTo_Wl_named hl.1 (Nat.le_of_ble_eq_true rfl) d_Ma_sendTo_23 rfl (hB.fit hm hz24 hw24) (fun H locs hP hD hS => ?_)
    have hB := hB.same2 hz24
    refine lv_goto (tgt := 34) hx hb d_Ma_sendTo_26 (by decide) ?_
    exact wb_Ma_sendTo_34 C0 hE N G hG _ _ _ _ hf hm _ _ _ hB H locs hP hD hS ls (lv_sub hl [1] rfl)
def fm_Ma_sendTo (N : Nat) (u : CS) (v0 : Nat) : Option (CS × Unit) := fb_Ma_sendTo_0 N () u v0
set_option maxRecDepth 100000 in
set_option maxHeartbeats 4000000 in
theorem c_Ma_sendTo (N : Nat) {l : Launch} {s0 : State} {b0 : Nat} {D : va_G} {cB cI cJ cZ cS cP : ClassId} {sk sv : Nat → Nat} {ad : Nat → Nat} {u : CS} {sz mc ms : Nat} {v0 : Nat} {x : CS × Unit} (hE : ENV s0 b0 sk sv) (hf : fm_Ma_sendTo N u v0 = some x) (hm : u.1.1 + mc = x.1.1.1 ∧ u.1.2 + ms = x.1.1.2) : Met l y_Ma_sendTo (wd_ws y_Ma_sendTo b_Ma_sendTo 4 none) (rm_Ma_sendTo mc ms) (xPc s0 b0 D cB cI cJ cZ cS cP ad u sz [.ref (ad v0)]) (xQ D cB cI cJ cZ cS cP (xA cB cI cJ cZ cS cP ad u sz) ad u.1.1 x.1 none) mc ms (xA cB cI cJ cZ cS cP ad u sz) :=
  xMet (by decide) rfl (Nat.le_of_ble_eq_true rfl) (fun p e s m below meth c ls hsz hnm C0 hP hD hS hl =>
    wb_Ma_sendTo_0 C0 hE N () trivial u _ x hf hm ad 0 0 ⟨rfl, rfl, fun _ _ => rfl⟩ s.heap [] hP hD hS ls (lv_sub hl [0] rfl))
abbrev b_Ma_join : ByteArray := prog_5_method_27_code
def y_Ma_join : MethodName := ⟨R_Ma, "join", "()V"⟩
def w_Ma_join : List Cond := wd_ws y_Ma_join b_Ma_join 6 none
set_option maxRecDepth 100000 in
theorem k_Ma_join : Cond.code y_Ma_join b_Ma_join 6 none ∈ wd_tbl := wd_of 1941 rfl rfl
theorem d_Ma_join_0 : decode b_Ma_join 0 = .ok (.aload_n 0, 1) := by decide +kernel
theorem d_Ma_join_1 : decode b_Ma_join 1 = .ok (.getfield 19, 3) := by decide +kernel
theorem d_Ma_join_4 : decode b_Ma_join 4 = .ok (.aload_n 0, 1) := by decide +kernel
theorem d_Ma_join_5 : decode b_Ma_join 5 = .ok (.getfield 23, 3) := by decide +kernel
theorem d_Ma_join_8 : decode b_Ma_join 8 = .ok (.getfield 195, 3) := by decide +kernel
theorem d_Ma_join_11 : decode b_Ma_join 11 = .ok (.aload_n 0, 1) := by decide +kernel
theorem d_Ma_join_12 : decode b_Ma_join 12 = .ok (.getfield 33, 3) := by decide +kernel
theorem d_Ma_join_15 : decode b_Ma_join 15 = .ok (.iconst 1, 1) := by decide +kernel
theorem d_Ma_join_16 : decode b_Ma_join 16 = .ok (.invokevirtual 138, 3) := by decide +kernel
theorem d_Ma_join_19 : decode b_Ma_join 19 = .ok (.invokevirtual 261, 3) := by decide +kernel
theorem d_Ma_join_22 : decode b_Ma_join 22 = .ok (.istore_n 1, 1) := by decide +kernel
theorem d_Ma_join_23 : decode b_Ma_join 23 = .ok (.iload_n 1, 1) := by decide +kernel
theorem d_Ma_join_24 : decode b_Ma_join 24 = .ok (.ifCond .ne 27, 3) := by decide +kernel
theorem d_Ma_join_27 : decode b_Ma_join 27 = .ok (.aload_n 0, 1) := by decide +kernel
theorem d_Ma_join_28 : decode b_Ma_join 28 = .ok (.iconst 2, 1) := by decide +kernel
theorem d_Ma_join_29 : decode b_Ma_join 29 = .ok (.aload_n 0, 1) := by decide +kernel
theorem d_Ma_join_30 : decode b_Ma_join 30 = .ok (.getfield 33, 3) := by decide +kernel
theorem d_Ma_join_33 : decode b_Ma_join 33 = .ok (.iconst 0, 1) := by decide +kernel
theorem d_Ma_join_34 : decode b_Ma_join 34 = .ok (.invokevirtual 138, 3) := by decide +kernel
theorem d_Ma_join_37 : decode b_Ma_join 37 = .ok (.invokevirtual 145, 3) := by decide +kernel
theorem d_Ma_join_40 : decode b_Ma_join 40 = .ok (.aload_n 0, 1) := by decide +kernel
theorem d_Ma_join_41 : decode b_Ma_join 41 = .ok (.dup, 1) := by decide +kernel
theorem d_Ma_join_42 : decode b_Ma_join 42 = .ok (.getfield 40, 3) := by decide +kernel
theorem d_Ma_join_45 : decode b_Ma_join 45 = .ok (.iconst 2, 1) := by decide +kernel
theorem d_Ma_join_46 : decode b_Ma_join 46 = .ok (.iadd, 1) := by decide +kernel
theorem d_Ma_join_47 : decode b_Ma_join 47 = .ok (.putfield 40, 3) := by decide +kernel
theorem d_Ma_join_50 : decode b_Ma_join 50 = .ok (.return_, 1) := by decide +kernel
theorem d_Ma_join_51 : decode b_Ma_join 51 = .ok (.iload_n 1, 1) := by decide +kernel
theorem d_Ma_join_52 : decode b_Ma_join 52 = .ok (.iconst (-1), 1) := by decide +kernel
theorem d_Ma_join_53 : decode b_Ma_join 53 = .ok (.if_icmp .eq 15, 3) := by decide +kernel
theorem d_Ma_join_56 : decode b_Ma_join 56 = .ok (.aload_n 0, 1) := by decide +kernel
theorem d_Ma_join_57 : decode b_Ma_join 57 = .ok (.iconst 2, 1) := by decide +kernel
theorem d_Ma_join_58 : decode b_Ma_join 58 = .ok (.iconst 0, 1) := by decide +kernel
theorem d_Ma_join_59 : decode b_Ma_join 59 = .ok (.invokevirtual 245, 3) := by decide +kernel
theorem d_Ma_join_62 : decode b_Ma_join 62 = .ok (.sipush 500, 3) := by decide +kernel
theorem d_Ma_join_65 : decode b_Ma_join 65 = .ok (.if_icmp .le 10, 3) := by decide +kernel
theorem d_Ma_join_68 : decode b_Ma_join 68 = .ok (.aload_n 0, 1) := by decide +kernel
theorem d_Ma_join_69 : decode b_Ma_join 69 = .ok (.bipush 11, 2) := by decide +kernel
theorem d_Ma_join_71 : decode b_Ma_join 71 = .ok (.invokevirtual 249, 3) := by decide +kernel
theorem d_Ma_join_74 : decode b_Ma_join 74 = .ok (.return_, 1) := by decide +kernel
theorem d_Ma_join_75 : decode b_Ma_join 75 = .ok (.aload_n 0, 1) := by decide +kernel
theorem d_Ma_join_76 : decode b_Ma_join 76 = .ok (.iconst 2, 1) := by decide +kernel
theorem d_Ma_join_77 : decode b_Ma_join 77 = .ok (.iload_n 1, 1) := by decide +kernel
theorem d_Ma_join_78 : decode b_Ma_join 78 = .ok (.imul, 1) := by decide +kernel
theorem d_Ma_join_79 : decode b_Ma_join 79 = .ok (.invokevirtual 135, 3) := by decide +kernel
theorem d_Ma_join_82 : decode b_Ma_join 82 = .ok (.ifCond .ne 4, 3) := by decide +kernel
theorem d_Ma_join_85 : decode b_Ma_join 85 = .ok (.return_, 1) := by decide +kernel
theorem d_Ma_join_86 : decode b_Ma_join 86 = .ok (.aload_n 0, 1) := by decide +kernel
theorem d_Ma_join_87 : decode b_Ma_join 87 = .ok (.getfield 23, 3) := by decide +kernel
theorem d_Ma_join_90 : decode b_Ma_join 90 = .ok (.getfield 239, 3) := by decide +kernel
theorem d_Ma_join_93 : decode b_Ma_join 93 = .ok (.istore_n 2, 1) := by decide +kernel
theorem d_Ma_join_94 : decode b_Ma_join 94 = .ok (.aload_n 0, 1) := by decide +kernel
theorem d_Ma_join_95 : decode b_Ma_join 95 = .ok (.getfield 33, 3) := by decide +kernel
theorem d_Ma_join_98 : decode b_Ma_join 98 = .ok (.iconst 1, 1) := by decide +kernel
theorem d_Ma_join_99 : decode b_Ma_join 99 = .ok (.invokevirtual 138, 3) := by decide +kernel
theorem d_Ma_join_102 : decode b_Ma_join 102 = .ok (.lstore_n 3, 1) := by decide +kernel
theorem d_Ma_join_103 : decode b_Ma_join 103 = .ok (.iconst 0, 1) := by decide +kernel
theorem d_Ma_join_104 : decode b_Ma_join 104 = .ok (.istore 5, 2) := by decide +kernel
theorem d_Ma_join_106 : decode b_Ma_join 106 = .ok (.iload 5, 2) := by decide +kernel
theorem d_Ma_join_108 : decode b_Ma_join 108 = .ok (.iload_n 1, 1) := by decide +kernel
theorem d_Ma_join_109 : decode b_Ma_join 109 = .ok (.if_icmp .ge 75, 3) := by decide +kernel
theorem d_Ma_join_112 : decode b_Ma_join 112 = .ok (.aload_n 0, 1) := by decide +kernel
theorem d_Ma_join_113 : decode b_Ma_join 113 = .ok (.getfield 23, 3) := by decide +kernel
theorem d_Ma_join_116 : decode b_Ma_join 116 = .ok (.getfield 195, 3) := by decide +kernel
theorem d_Ma_join_119 : decode b_Ma_join 119 = .ok (.iload_n 2, 1) := by decide +kernel
theorem d_Ma_join_120 : decode b_Ma_join 120 = .ok (.iconst 2, 1) := by decide +kernel
theorem d_Ma_join_121 : decode b_Ma_join 121 = .ok (.iload 5, 2) := by decide +kernel
theorem d_Ma_join_123 : decode b_Ma_join 123 = .ok (.imul, 1) := by decide +kernel
theorem d_Ma_join_124 : decode b_Ma_join 124 = .ok (.iadd, 1) := by decide +kernel
theorem d_Ma_join_125 : decode b_Ma_join 125 = .ok (.aload_n 0, 1) := by decide +kernel
theorem d_Ma_join_126 : decode b_Ma_join 126 = .ok (.getfield 23, 3) := by decide +kernel
theorem d_Ma_join_129 : decode b_Ma_join 129 = .ok (.getfield 195, 3) := by decide +kernel
theorem d_Ma_join_132 : decode b_Ma_join 132 = .ok (.lload_n 3, 1) := by decide +kernel
theorem d_Ma_join_133 : decode b_Ma_join 133 = .ok (.l2i, 1) := by decide +kernel
theorem d_Ma_join_134 : decode b_Ma_join 134 = .ok (.laload, 1) := by decide +kernel
theorem d_Ma_join_135 : decode b_Ma_join 135 = .ok (.lastore, 1) := by decide +kernel
theorem d_Ma_join_136 : decode b_Ma_join 136 = .ok (.aload_n 0, 1) := by decide +kernel
theorem d_Ma_join_137 : decode b_Ma_join 137 = .ok (.getfield 23, 3) := by decide +kernel
theorem d_Ma_join_140 : decode b_Ma_join 140 = .ok (.getfield 195, 3) := by decide +kernel
theorem d_Ma_join_143 : decode b_Ma_join 143 = .ok (.iload_n 2, 1) := by decide +kernel
theorem d_Ma_join_144 : decode b_Ma_join 144 = .ok (.iconst 2, 1) := by decide +kernel
theorem d_Ma_join_145 : decode b_Ma_join 145 = .ok (.iload 5, 2) := by decide +kernel
theorem d_Ma_join_147 : decode b_Ma_join 147 = .ok (.imul, 1) := by decide +kernel
theorem d_Ma_join_148 : decode b_Ma_join 148 = .ok (.iadd, 1) := by decide +kernel
theorem d_Ma_join_149 : decode b_Ma_join 149 = .ok (.iconst 1, 1) := by decide +kernel
theorem d_Ma_join_150 : decode b_Ma_join 150 = .ok (.iadd, 1) := by decide +kernel
theorem d_Ma_join_151 : decode b_Ma_join 151 = .ok (.bipush 7, 2) := by decide +kernel
theorem d_Ma_join_153 : decode b_Ma_join 153 = .ok (.iload_n 2, 1) := by decide +kernel
theorem d_Ma_join_154 : decode b_Ma_join 154 = .ok (.iconst 2, 1) := by decide +kernel
theorem d_Ma_join_155 : decode b_Ma_join 155 = .ok (.iload 5, 2) := by decide +kernel
theorem d_Ma_join_157 : decode b_Ma_join 157 = .ok (.imul, 1) := by decide +kernel
theorem d_Ma_join_158 : decode b_Ma_join 158 = .ok (.iadd, 1) := by decide +kernel
theorem d_Ma_join_159 : decode b_Ma_join 159 = .ok (.iconst 2, 1) := by decide +kernel
theorem d_Ma_join_160 : decode b_Ma_join 160 = .ok (.iadd, 1) := by decide +kernel
theorem d_Ma_join_161 : decode b_Ma_join 161 = .ok (.invokestatic 101, 3) := by decide +kernel
theorem d_Ma_join_164 : decode b_Ma_join 164 = .ok (.lastore, 1) := by decide +kernel
theorem d_Ma_join_165 : decode b_Ma_join 165 = .ok (.aload_n 0, 1) := by decide +kernel
theorem d_Ma_join_166 : decode b_Ma_join 166 = .ok (.getfield 23, 3) := by decide +kernel
theorem d_Ma_join_169 : decode b_Ma_join 169 = .ok (.getfield 195, 3) := by decide +kernel
theorem d_Ma_join_172 : decode b_Ma_join 172 = .ok (.lload_n 3, 1) := by decide +kernel
theorem d_Ma_join_173 : decode b_Ma_join 173 = .ok (.l2i, 1) := by decide +kernel
theorem d_Ma_join_174 : decode b_Ma_join 174 = .ok (.iconst 1, 1) := by decide +kernel
theorem d_Ma_join_175 : decode b_Ma_join 175 = .ok (.iadd, 1) := by decide +kernel
theorem d_Ma_join_176 : decode b_Ma_join 176 = .ok (.laload, 1) := by decide +kernel
theorem d_Ma_join_177 : decode b_Ma_join 177 = .ok (.lstore_n 3, 1) := by decide +kernel
theorem d_Ma_join_178 : decode b_Ma_join 178 = .ok (.iinc 5 1, 3) := by decide +kernel
theorem d_Ma_join_181 : decode b_Ma_join 181 = .ok (.goto (-75), 3) := by decide +kernel
theorem d_Ma_join_184 : decode b_Ma_join 184 = .ok (.aload_n 0, 1) := by decide +kernel
theorem d_Ma_join_185 : decode b_Ma_join 185 = .ok (.iload_n 2, 1) := by decide +kernel
theorem d_Ma_join_186 : decode b_Ma_join 186 = .ok (.iload_n 1, 1) := by decide +kernel
theorem d_Ma_join_187 : decode b_Ma_join 187 = .ok (.aload_n 0, 1) := by decide +kernel
theorem d_Ma_join_188 : decode b_Ma_join 188 = .ok (.getfield 33, 3) := by decide +kernel
theorem d_Ma_join_191 : decode b_Ma_join 191 = .ok (.iconst 0, 1) := by decide +kernel
theorem d_Ma_join_192 : decode b_Ma_join 192 = .ok (.invokevirtual 138, 3) := by decide +kernel
theorem d_Ma_join_195 : decode b_Ma_join 195 = .ok (.invokevirtual 242, 3) := by decide +kernel
theorem d_Ma_join_198 : decode b_Ma_join 198 = .ok (.aload_n 0, 1) := by decide +kernel
theorem d_Ma_join_199 : decode b_Ma_join 199 = .ok (.iconst 2, 1) := by decide +kernel
theorem d_Ma_join_200 : decode b_Ma_join 200 = .ok (.bipush 7, 2) := by decide +kernel
theorem d_Ma_join_202 : decode b_Ma_join 202 = .ok (.iload_n 2, 1) := by decide +kernel
theorem d_Ma_join_203 : decode b_Ma_join 203 = .ok (.invokestatic 101, 3) := by decide +kernel
theorem d_Ma_join_206 : decode b_Ma_join 206 = .ok (.invokevirtual 145, 3) := by decide +kernel
theorem d_Ma_join_209 : decode b_Ma_join 209 = .ok (.aload_n 0, 1) := by decide +kernel
theorem d_Ma_join_210 : decode b_Ma_join 210 = .ok (.dup, 1) := by decide +kernel
theorem d_Ma_join_211 : decode b_Ma_join 211 = .ok (.getfield 40, 3) := by decide +kernel
theorem d_Ma_join_214 : decode b_Ma_join 214 = .ok (.iconst 2, 1) := by decide +kernel
theorem d_Ma_join_215 : decode b_Ma_join 215 = .ok (.iadd, 1) := by decide +kernel
theorem d_Ma_join_216 : decode b_Ma_join 216 = .ok (.putfield 40, 3) := by decide +kernel
theorem d_Ma_join_219 : decode b_Ma_join 219 = .ok (.return_, 1) := by decide +kernel
set_option maxRecDepth 100000 in
theorem hl_Ma_join : Cond.methodLink R_Ma 229 y_Ma_join ∈ wd_tbl := wd_of 1938 (by decide +kernel) rfl
set_option maxRecDepth 100000 in
theorem hi_Ma_join : Cond.instanceMethod y_Ma_join ∈ wd_tbl := wd_of 1940 (by decide +kernel) rfl
set_option maxRecDepth 100000 in
theorem hs_Ma_join : Cond.selects R_Ma y_Ma_join y_Ma_join ∈ wd_tbl := wd_of 107 (by decide +kernel) rfl
theorem hd_Ma_join : y_Ma_join.cls = R_Ma ∧ y_Ma_join.cls ≠ "java/lang/invoke/MethodHandle" ∧ y_Ma_join.cls ≠ "java/lang/invoke/VarHandle" ∧ (parseMethodDescriptor y_Ma_join.desc).map (fun d => d.parameters.length) = some 0 := by decide +kernel
def rm_Ma_join (mc ms : Nat) : Room := { frames := 4, cells := mc, slots := ms, locals := 127 }
theorem rm_Ma_join_Fr_below {mc ms : Nat} : (rm_Fr_below).frames + 1 ≤ (rm_Ma_join mc ms).frames ∧ 8 + (3 + 11) + (rm_Fr_below).locals ≤ (rm_Ma_join mc ms).locals := by
  show 0 + 1 ≤ 4 ∧ 8 + (3 + 11) + 0 ≤ 127
  decide
theorem rm_Ma_join_Te_listLength {mc ms : Nat} : (rm_Te_listLength).frames + 1 ≤ (rm_Ma_join mc ms).frames ∧ 8 + (7 + 11) + (rm_Te_listLength).locals ≤ (rm_Ma_join mc ms).locals := by
  show 1 + 1 ≤ 4 ∧ 8 + (7 + 11) + 21 ≤ 127
  decide
theorem rm_Ma_join_Ma_answer {mc ms : Nat} {mc2 ms2 : Nat} : (rm_Ma_answer mc2 ms2).frames + 1 ≤ (rm_Ma_join mc ms).frames ∧ 8 + (4 + 11) + (rm_Ma_answer mc2 ms2).locals ≤ (rm_Ma_join mc ms).locals := by
  show 3 + 1 ≤ 4 ∧ 8 + (4 + 11) + 104 ≤ 127
  decide
theorem rm_Ma_join_Ma_sizes {mc ms : Nat} : (rm_Ma_sizes).frames + 1 ≤ (rm_Ma_join mc ms).frames ∧ 8 + (5 + 11) + (rm_Ma_sizes).locals ≤ (rm_Ma_join mc ms).locals := by
  show 2 + 1 ≤ 4 ∧ 8 + (5 + 11) + 54 ≤ 127
  decide
theorem rm_Ma_join_Ma_wrong {mc ms : Nat} : (rm_Ma_wrong).frames + 1 ≤ (rm_Ma_join mc ms).frames ∧ 8 + (2 + 11) + (rm_Ma_wrong).locals ≤ (rm_Ma_join mc ms).locals := by
  show 2 + 1 ≤ 4 ∧ 8 + (2 + 11) + 41 ≤ 127
  decide
theorem rm_Ma_join_Ma_room {mc ms : Nat} : (rm_Ma_room).frames + 1 ≤ (rm_Ma_join mc ms).frames ∧ 8 + (2 + 11) + (rm_Ma_room).locals ≤ (rm_Ma_join mc ms).locals := by
  show 3 + 1 ≤ 4 ∧ 8 + (2 + 11) + 97 ≤ 127
  decide
theorem rm_Ma_join_Te_make {mc ms : Nat} : (rm_Te_make).frames + 1 ≤ (rm_Ma_join mc ms).frames ∧ 8 + (2 + 11) + (rm_Te_make).locals ≤ (rm_Ma_join mc ms).locals := by
  show 0 + 1 ≤ 4 ∧ 8 + (2 + 11) + 0 ≤ 127
  decide
theorem rm_Ma_join_Ma_endList {mc ms : Nat} : (rm_Ma_endList).frames + 1 ≤ (rm_Ma_join mc ms).frames ∧ 8 + (5 + 11) + (rm_Ma_endList).locals ≤ (rm_Ma_join mc ms).locals := by
  show 0 + 1 ≤ 4 ∧ 8 + (5 + 11) + 0 ≤ 127
  decide
def fb_Ma_join_106 (N : Nat) (G : (CS → Nat → Int32 → Int32 → Int64 → Int32 → Option (CS × Unit))) (u : CS) (v0 : Nat) (v1 : Int32) (v2 : Int32) (v3 : Int64) (v5 : Int32) : Option (CS × Unit) := br (decide (v1 ≤ v5)) (bo (gR u v0 5 4) (fun r1 => bo r1 (fun j3 => ck (isO u j3 4) (bx (gz u (fm_Fr_below N u j3 0)) (fun u2 r2 => gw u2 (ck (isO u2 v0 5) (bx (gz u2 (fm_Ma_endList N u2 v0 v2 v1 r2)) (fun u4 r4 => gw u4 (bx (gz u4 (fm_Te_make N u4 7 v2)) (fun u5 r5 => gw u5 (ck (isO u5 v0 5) (ck (List.all [some v0] (okR u5.1.1)) (bx (gw u5 (fm_Ma_answer N u5 v0 2 r5)) (fun u6 r6 => gw u6 (bo (gI u6 v0 5 5) (fun r7 => bo (pF u6 v0 5 5 (.inl (r7 + 2))) (fun w8 => some (w8, ())))))))))))))))))) (bo (gR u v0 5 3) (fun r9 => bo r9 (fun j10 => bo (gR u j10 7 2) (fun r11 => bo (gR u v0 5 3) (fun r12 => bo r12 (fun j13 => bo (gR u j13 7 2) (fun r14 => bo r14 (fun j15 => bo (aJ u j15 (v3.toInt32)) (fun r16 => bo r11 (fun j17 => bo (sJ u j17 (v2 + (2 * v5)) r16) (fun w18 => bo (gR w18 v0 5 3) (fun r19 => bo r19 (fun j20 => bo (gR w18 j20 7 2) (fun r21 => bx (gz w18 (fm_Te_make N w18 7 ((v2 + (2 * v5)) + 2))) (fun u22 r22 => gw u22 (bo r21 (fun j23 => bo (sJ u22 j23 ((v2 + (2 * v5)) + 1) r22) (fun w24 => bo (gR w24 v0 5 3) (fun r25 => bo r25 (fun j26 => bo (gR w24 j26 7 2) (fun r27 => bo r27 (fun j28 => bo (aJ w24 j28 (v3.toInt32 + 1)) (fun r29 => G w24 (v0) (v1) (v2) (r29) ((v5 + 1)))))))))))))))))))))))))
set_option maxRecDepth 100000 in
set_option maxHeartbeats 4000000 in
theorem wb_Ma_join_106 {p : Program} {l : Launch} {e : Env} {s : State} {m : MethodId} {args : Array Value} {below : List Frame} {meth : Method} {c : Code} {s0 : State} {b0 : Nat} {D : va_G} {cB cI cJ cZ cS cP : ClassId} {A : Nat → Prop} {sk sv : Nat → Nat} {uN uS mc ms : Nat} {ad0 : Nat → Nat} (C0 : XCx p s s0 b0 m args meth c R_Ma b_Ma_join 6 none D cB cI cJ cZ cS cP A) (hE : ENV s0 b0 sk sv) (N : Nat) (G : (CS → Nat → Int32 → Int32 → Int64 → Int32 → Option (CS × Unit))) (hG : (∀ (u : CS) (v0 : Nat) (v1 : Int32) (v2 : Int32) (v3 : Int64) (v5 : Int32) (x : CS × Unit), G u v0 v1 v2 v3 v5 = some x → (uN + mc = x.1.1.1 ∧ uS + ms = x.1.1.2) → ∀ (ad : Nat → Nat) (ce sl : Nat), AB uN uS ad0 u ad ce sl → ∀ (H : Heap) (locs : List Loc), va_P D cls (wC cB cI cJ cZ cS cP ad u) H → va_D A (wC cB cI cJ cZ cS cP ad u) → va_S A s.heap H locs → ∀ (ls : Array Slot), lv_has ls 6 [(0, .ref (ad v0)), (1, .int v1), (2, .int v2), (3, .long v3), (5, .int v5)] → W p l e (rm_Ma_join mc ms) s m args below meth c H locs ce sl (MQ below (xQ D cB cI cJ cZ cS cP A ad0 uN x.1 none) args s mc ms A) (F0 m 106 ls []))) : ∀ (u : CS) (v0 : Nat) (v1 : Int32) (v2 : Int32) (v3 : Int64) (v5 : Int32) (x : CS × Unit), fb_Ma_join_106 N G u v0 v1 v2 v3 v5 = some x → (uN + mc = x.1.1.1 ∧ uS + ms = x.1.1.2) → ∀ (ad : Nat → Nat) (ce sl : Nat), AB uN uS ad0 u ad ce sl → ∀ (H : Heap) (locs : List Loc), va_P D cls (wC cB cI cJ cZ cS cP ad u) H → va_D A (wC cB cI cJ cZ cS cP ad u) → va_S A s.heap H locs → ∀ (ls : Array Slot), lv_has ls 6 [(0, .ref (ad v0)), (1, .int v1), (2, .int v2), (3, .long v3), (5, .int v5)] → W p l e (rm_Ma_join mc ms) s m args below meth c H locs ce sl (MQ below (xQ D cB cI cJ cZ cS cP A ad0 uN x.1 none) args s mc ms A) (F0 m 106 ls []) := by
  intro u v0 v1 v2 v3 v5 x hf hm ad ce sl hB H locs hP hD hS ls hl
  obtain ⟨hx, hb, hr, hml, ht, hown, hK, hA, hlocks, hA0, hO, hbs⟩ := id C0
  unfold fb_Ma_join_106 at hf
  refine lv_iload hx hb d_Ma_join_106 (lv_at hl 4 rfl) ?_
  refine lv_iload_n hx hb d_Ma_join_108 rfl (lv_at hl 1 rfl) ?_
  refine lv_icmp_ge (tgt := 184) hx hb d_Ma_join_109 (by decide) (fun hc => ?_) (fun hc => ?_)
  · rw [br_p _ hc] at hf
    refine lv_aload_n hx hb d_Ma_join_184 rfl (lv_at hl 0 rfl) ?_
    refine lv_iload_n hx hb d_Ma_join_185 rfl (lv_at hl 2 rfl) ?_
    refine lv_iload_n hx hb d_Ma_join_186 rfl (lv_at hl 1 rfl) ?_
    refine lv_aload_n hx hb d_Ma_join_187 rfl (lv_at hl 0 rfl) ?_
    obtain ⟨r1, g1, hf⟩ := bo_some hf
    refine xg_R (i := v0) (k := 4) hx hb ht hown ck_Ma hK hP (by decide) fk_Ma_33 g1 d_Ma_join_188 ?_
    refine lv_iconst (v := 0) hx hb d_Ma_join_191 (by decide) ?_
    obtain ⟨j3, ej3, hf⟩ := bo_some hf
    rw [ej3]
    obtain ⟨hO9, hf⟩ := ck_some hf
    obtain ⟨u2, r2, hc2, hf⟩ := bx_some hf
    obtain ⟨hc2, hz2⟩ := gz_some hc2
    obtain ⟨hf, hw2⟩ := gw_some hf
    refine xV0 (i := j3) (As := [.int 0]) (rest := [.int v1, .int v2, .ref (ad v0)]) C0 hP hD hS ck_Fr hO9 (c_Fr_below N hc2) k_Fr_below (wd_of 1653 (by decide +kernel) rfl) hi_Fr_below hs_Fr_below hini_Fr rfl rfl hd_Fr_below rfl rm_Ma_join_Fr_below hl.1 (Nat.le_of_ble_eq_true rfl) d_Ma_join_192 rfl (hB.fit hm hz2 hw2) (fun H locs hP hD hS => ?_)
    have hB := hB.same2 hz2
    obtain ⟨hO9, hf⟩ := ck_some hf
    obtain ⟨u4, r4, hc4, hf⟩ := bx_some hf
    obtain ⟨hc4, hz4⟩ := gz_some hc4
    obtain ⟨hf, hw4⟩ := gw_some hf
    refine xV0 (i := v0) (As := [.int v2, .int v1, .long r2]) (rest := []) C0 hP hD hS ck_Ma hO9 (c_Ma_endList N hc4) k_Ma_endList (wd_of 1857 (by decide +kernel) rfl) hi_Ma_endList hs_Ma_endList hini_Ma rfl rfl hd_Ma_endList rfl rm_Ma_join_Ma_endList hl.1 (Nat.le_of_ble_eq_true rfl) d_Ma_join_195 rfl (hB.fit hm hz4 hw4) (fun H locs hP hD hS => ?_)
    have hB := hB.same2 hz4
    refine lv_aload_n hx hb d_Ma_join_198 rfl (lv_at hl 0 rfl) ?_
    refine lv_iconst (v := 2) hx hb d_Ma_join_199 (by decide) ?_
    refine lv_bipush (v := 7) hx hb d_Ma_join_200 (by decide) ?_
    refine lv_iload_n hx hb d_Ma_join_202 rfl (lv_at hl 2 rfl) ?_
    obtain ⟨u5, r5, hc5, hf⟩ := bx_some hf
    obtain ⟨hc5, hz5⟩ := gz_some hc5
    obtain ⟨hf, hw5⟩ := gw_some hf
    refine xS0 (As := [.int 7, .int v2]) (rest := [.int 2, .ref (ad v0)]) C0 hP hD hS (c_Te_make N hc5) k_Te_make (wd_of 1671 (by decide +kernel) rfl) ht_Te_make hini_Te rfl rfl hd_Te_make rfl rm_Ma_join_Te_make hl.1 (Nat.le_of_ble_eq_true rfl) d_Ma_join_203 rfl (hB.fit hm hz5 hw5) (fun H locs hP hD hS => ?_)
    have hB := hB.same2 hz5
    obtain ⟨hO9, hf⟩ := ck_some hf
    obtain ⟨hk6, hf⟩ := ck_some hf
    obtain ⟨u6, r6, hc6, hf⟩ := bx_some hf
    obtain ⟨hc6, hq6⟩ := gw_some hc6
    obtain ⟨hf, hw6⟩ := gw_some hf
    refine yV (i := v0) (As := [.int 2, .long r5]) (rest := []) C0 hP hD hS ck_Ma hO9 (c_Ma_answer N hE hc6 (gm hq6)) k_Ma_answer (wd_of 1744 (by decide +kernel) rfl) hi_Ma_answer hs_Ma_answer hini_Ma rfl rfl hd_Ma_answer rfl rm_Ma_join_Ma_answer hl.1 (Nat.le_of_ble_eq_true rfl) d_Ma_join_206 rfl (gm hq6) hB hm hw6 (fun ad6 H locs ce sl hg6 hB hP hD hS => ?_)
    have q6_0 : ad6 v0 = ad v0 := ko_O (k := 0) hk6 rfl hg6
    have hl : lv_has ls 6 [(0, .ref (ad6 v0)), (1, .int v1), (2, .int v2), (3, .long v3), (5, .int v5)] := by simp only [q6_0]; exact hl
    refine lv_aload_n hx hb d_Ma_join_209 rfl (lv_at hl 0 rfl) ?_
    refine lv_dup hx hb d_Ma_join_210 rfl ?_
    obtain ⟨r7, g7, hf⟩ := bo_some hf
    refine xg_I (i := v0) (k := 5) hx hb ht hown ck_Ma hK hP (by decide) fk_Ma_40 g7 d_Ma_join_211 ?_
    refine lv_iconst (v := 2) hx hb d_Ma_join_214 (by decide) ?_
    refine lv_iadd hx hb d_Ma_join_215 ?_
    obtain ⟨w8, g8, hf⟩ := bo_some hf
    refine xp (i := v0) (k := 5) (v := (.inl (r7 + 2))) hx hb ht hown ck_Ma hK hP hD hS (by decide) fk_Ma_40 rfl g8 rfl rfl d_Ma_join_216 (fun H locs hP hD hS => ?_)
    have hB := hB.same (pF_c g8)
    exact yr_v C0 hP hD hS hB hm hf d_Ma_join_219
  · rw [br_n _ hc] at hf
    refine lv_aload_n hx hb d_Ma_join_112 rfl (lv_at hl 0 rfl) ?_
    obtain ⟨r9, g9, hf⟩ := bo_some hf
    refine xg_R (i := v0) (k := 3) hx hb ht hown ck_Ma hK hP (by decide) fk_Ma_23 g9 d_Ma_join_113 ?_
    obtain ⟨j10, ej10, hf⟩ := bo_some hf
    rw [ej10]
    obtain ⟨r11, g11, hf⟩ := bo_some hf
    refine xg_R (i := j10) (k := 2) hx hb ht hown ck_Pr hK hP (by decide) fk_Ma_195 g11 d_Ma_join_116 ?_
    refine lv_iload_n hx hb d_Ma_join_119 rfl (lv_at hl 2 rfl) ?_
    refine lv_iconst (v := 2) hx hb d_Ma_join_120 (by decide) ?_
    refine lv_iload hx hb d_Ma_join_121 (lv_at hl 4 rfl) ?_
    refine lv_imul hx hb d_Ma_join_123 ?_
    refine lv_iadd hx hb d_Ma_join_124 ?_
    refine lv_aload_n hx hb d_Ma_join_125 rfl (lv_at hl 0 rfl) ?_
    obtain ⟨r12, g12, hf⟩ := bo_some hf
    refine xg_R (i := v0) (k := 3) hx hb ht hown ck_Ma hK hP (by decide) fk_Ma_23 g12 d_Ma_join_126 ?_
    obtain ⟨j13, ej13, hf⟩ := bo_some hf
    rw [ej13]
    obtain ⟨r14, g14, hf⟩ := bo_some hf
    refine xg_R (i := j13) (k := 2) hx hb ht hown ck_Pr hK hP (by decide) fk_Ma_195 g14 d_Ma_join_129 ?_
    refine lv_lload_n hx hb d_Ma_join_132 rfl (lv_at hl 3 rfl) ?_
    refine lv_l2i hx hb d_Ma_join_133 rfl ?_
    obtain ⟨j15, ej15, hf⟩ := bo_some hf
    rw [ej15]
    obtain ⟨r16, g16, hf⟩ := bo_some hf
    refine xl_J (i := j15) hx hb hK hP g16 d_Ma_join_134 ?_
    obtain ⟨j17, ej17, hf⟩ := bo_some hf
    rw [ej17]
    obtain ⟨w18, g18, hf⟩ := bo_some hf
    refine xs_J (i := j17) hx hb hK hP hD hS g18 d_Ma_join_135 (fun H locs hP hD hS => ?_)
    have hB := hB.same (sJ_c g18)
    refine lv_aload_n hx hb d_Ma_join_136 rfl (lv_at hl 0 rfl) ?_
    obtain ⟨r19, g19, hf⟩ := bo_some hf
    refine xg_R (i := v0) (k := 3) hx hb ht hown ck_Ma hK hP (by decide) fk_Ma_23 g19 d_Ma_join_137 ?_
    obtain ⟨j20, ej20, hf⟩ := bo_some hf
    rw [ej20]
    obtain ⟨r21, g21, hf⟩ := bo_some hf
    refine xg_R (i := j20) (k := 2) hx hb ht hown ck_Pr hK hP (by decide) fk_Ma_195 g21 d_Ma_join_140 ?_
    refine lv_iload_n hx hb d_Ma_join_143 rfl (lv_at hl 2 rfl) ?_
    refine lv_iconst (v := 2) hx hb d_Ma_join_144 (by decide) ?_
    refine lv_iload hx hb d_Ma_join_145 (lv_at hl 4 rfl) ?_
    refine lv_imul hx hb d_Ma_join_147 ?_
    refine lv_iadd hx hb d_Ma_join_148 ?_
    refine lv_iconst (v := 1) hx hb d_Ma_join_149 (by decide) ?_
    refine lv_iadd hx hb d_Ma_join_150 ?_
    refine lv_bipush (v := 7) hx hb d_Ma_join_151 (by decide) ?_
    refine lv_iload_n hx hb d_Ma_join_153 rfl (lv_at hl 2 rfl) ?_
    refine lv_iconst (v := 2) hx hb d_Ma_join_154 (by decide) ?_
    refine lv_iload hx hb d_Ma_join_155 (lv_at hl 4 rfl) ?_
    refine lv_imul hx hb d_Ma_join_157 ?_
    refine lv_iadd hx hb d_Ma_join_158 ?_
    refine lv_iconst (v := 2) hx hb d_Ma_join_159 (by decide) ?_
    refine lv_iadd hx hb d_Ma_join_160 ?_
    obtain ⟨u22, r22, hc22, hf⟩ := bx_some hf
    obtain ⟨hc22, hz22⟩ := gz_some hc22
    obtain ⟨hf, hw22⟩ := gw_some hf
    refine xS0 (As := [.int 7, .int ((v2 + (2 * v5)) + 2)]) (rest := [.int ((v2 + (2 * v5)) + 1), va_rf (Option.map ad r21)]) C0 hP hD hS (c_Te_make N hc22) k_Te_make (wd_of 1671 (by decide +kernel) rfl) ht_Te_make hini_Te rfl rfl hd_Te_make rfl rm_Ma_join_Te_make hl.1 (c8 (Nat.le_of_ble_eq_true rfl)) d_Ma_join_161 rfl (hB.fit hm hz22 hw22) (fun H locs hP hD hS => ?_)
    have hB := hB.same2 hz22
    obtain ⟨j23, ej23, hf⟩ := bo_some hf
    rw [ej23]
    obtain ⟨w24, g24, hf⟩ := bo_some hf
    refine xs_J (i := j23) hx hb hK hP hD hS g24 d_Ma_join_164 (fun H locs hP hD hS => ?_)
    have hB := hB.same (sJ_c g24)
    refine lv_aload_n hx hb d_Ma_join_165 rfl (lv_at hl 0 rfl) ?_
    obtain ⟨r25, g25, hf⟩ := bo_some hf
    refine xg_R (i := v0) (k := 3) hx hb ht hown ck_Ma hK hP (by decide) fk_Ma_23 g25 d_Ma_join_166 ?_
    obtain ⟨j26, ej26, hf⟩ := bo_some hf
    rw [ej26]
    obtain ⟨r27, g27, hf⟩ := bo_some hf
    refine xg_R (i := j26) (k := 2) hx hb ht hown ck_Pr hK hP (by decide) fk_Ma_195 g27 d_Ma_join_169 ?_
    refine lv_lload_n hx hb d_Ma_join_172 rfl (lv_at hl 3 rfl) ?_
    refine lv_l2i hx hb d_Ma_join_173 rfl ?_
    refine lv_iconst (v := 1) hx hb d_Ma_join_174 (by decide) ?_
    refine lv_iadd hx hb d_Ma_join_175 ?_
    obtain ⟨j28, ej28, hf⟩ := bo_some hf
    rw [ej28]
    obtain ⟨r29, g29, hf⟩ := bo_some hf
    refine xl_J (i := j28) hx hb hK hP g29 d_Ma_join_176 ?_
    refine lv_lstore_n (lv' := [(3, .long r29), (0, .ref (ad v0)), (1, .int v1), (2, .int v2), (5, .int v5)]) hx hb d_Ma_join_177 rfl hl (by decide) (by first | rfl | simp [List.filter, cat_rf]) (fun ls hl => ?_)
    refine lv_iinc (v := (v5 + 1)) (lv' := [(5, .int (v5 + 1)), (3, .long r29), (0, .ref (ad v0)), (1, .int v1), (2, .int v2)]) hx hb d_Ma_join_178 hl (k := 4) rfl rfl (by decide) (by first | rfl | simp [List.filter, cat_rf]) (fun ls hl => ?_)
    refine lv_goto (tgt := 106) hx hb d_Ma_join_181 (by decide) ?_
    exact hG _ _ _ _ _ _ _ hf hm _ _ _ hB H locs hP hD hS ls (lv_sub hl [2, 3, 4, 1, 0] rfl)
def fb_Ma_join_68 (N : Nat) (G : (CS → Nat → Int32 → Int32 → Int64 → Int32 → Option (CS × Unit))) (u : CS) (v0 : Nat) : Option (CS × Unit) := ck (isO u v0 5) (bx (gz u (fm_Ma_wrong N u v0 11)) (fun u30 r30 => gw u30 (some (u30, ()))))
set_option maxRecDepth 100000 in
set_option maxHeartbeats 4000000 in
theorem wb_Ma_join_68 {p : Program} {l : Launch} {e : Env} {s : State} {m : MethodId} {args : Array Value} {below : List Frame} {meth : Method} {c : Code} {s0 : State} {b0 : Nat} {D : va_G} {cB cI cJ cZ cS cP : ClassId} {A : Nat → Prop} {sk sv : Nat → Nat} {uN uS mc ms : Nat} {ad0 : Nat → Nat} (C0 : XCx p s s0 b0 m args meth c R_Ma b_Ma_join 6 none D cB cI cJ cZ cS cP A) (hE : ENV s0 b0 sk sv) (N : Nat) (G : (CS → Nat → Int32 → Int32 → Int64 → Int32 → Option (CS × Unit))) (hG : (∀ (u : CS) (v0 : Nat) (v1 : Int32) (v2 : Int32) (v3 : Int64) (v5 : Int32) (x : CS × Unit), G u v0 v1 v2 v3 v5 = some x → (uN + mc = x.1.1.1 ∧ uS + ms = x.1.1.2) → ∀ (ad : Nat → Nat) (ce sl : Nat), AB uN uS ad0 u ad ce sl → ∀ (H : Heap) (locs : List Loc), va_P D cls (wC cB cI cJ cZ cS cP ad u) H → va_D A (wC cB cI cJ cZ cS cP ad u) → va_S A s.heap H locs → ∀ (ls : Array Slot), lv_has ls 6 [(0, .ref (ad v0)), (1, .int v1), (2, .int v2), (3, .long v3), (5, .int v5)] → W p l e (rm_Ma_join mc ms) s m args below meth c H locs ce sl (MQ below (xQ D cB cI cJ cZ cS cP A ad0 uN x.1 none) args s mc ms A) (F0 m 106 ls []))) : ∀ (u : CS) (v0 : Nat) (x : CS × Unit), fb_Ma_join_68 N G u v0 = some x → (uN + mc = x.1.1.1 ∧ uS + ms = x.1.1.2) → ∀ (ad : Nat → Nat) (ce sl : Nat), AB uN uS ad0 u ad ce sl → ∀ (H : Heap) (locs : List Loc), va_P D cls (wC cB cI cJ cZ cS cP ad u) H → va_D A (wC cB cI cJ cZ cS cP ad u) → va_S A s.heap H locs → ∀ (ls : Array Slot), lv_has ls 6 [(0, .ref (ad v0))] → W p l e (rm_Ma_join mc ms) s m args below meth c H locs ce sl (MQ below (xQ D cB cI cJ cZ cS cP A ad0 uN x.1 none) args s mc ms A) (F0 m 68 ls []) := by
  intro u v0 x hf hm ad ce sl hB H locs hP hD hS ls hl
  obtain ⟨hx, hb, hr, hml, ht, hown, hK, hA, hlocks, hA0, hO, hbs⟩ := id C0
  unfold fb_Ma_join_68 at hf
  refine lv_aload_n hx hb d_Ma_join_68 rfl (lv_at hl 0 rfl) ?_
  refine lv_bipush (v := 11) hx hb d_Ma_join_69 (by decide) ?_
  obtain ⟨hO9, hf⟩ := ck_some hf
  obtain ⟨u30, r30, hc30, hf⟩ := bx_some hf
  obtain ⟨hc30, hz30⟩ := gz_some hc30
  obtain ⟨hf, hw30⟩ := gw_some hf
  refine xV0 (i := v0) (As := [.int 11]) (rest := []) C0 hP hD hS ck_Ma hO9 (c_Ma_wrong N hc30) k_Ma_wrong (wd_of 1664 (by decide +kernel) rfl) hi_Ma_wrong hs_Ma_wrong hini_Ma rfl rfl hd_Ma_wrong rfl rm_Ma_join_Ma_wrong hl.1 (Nat.le_of_ble_eq_true rfl) d_Ma_join_71 rfl (hB.fit hm hz30 hw30) (fun H locs hP hD hS => ?_)
  have hB := hB.same2 hz30
  exact yr_v C0 hP hD hS hB hm hf d_Ma_join_74
def fb_Ma_join_0 (N : Nat) (G : (CS → Nat → Int32 → Int32 → Int64 → Int32 → Option (CS × Unit))) (u : CS) (v0 : Nat) : Option (CS × Unit) := bo (gR u v0 5 2) (fun r31 => bo (gR u v0 5 3) (fun r32 => bo r32 (fun j33 => bo (gR u j33 7 2) (fun r34 => bo (gR u v0 5 4) (fun r35 => bo r35 (fun j37 => ck (isO u j37 4) (bx (gz u (fm_Fr_below N u j37 1)) (fun u36 r36 => gw u36 (bo r31 (fun j39 => ck (isO u36 j39 8) (bx (gz u36 (fm_Te_listLength N u36 j39 r34 r36)) (fun u38 r38 => gw u38 (br (decide (r38 = 0)) (bo (gR u38 v0 5 4) (fun r48 => bo r48 (fun j50 => ck (isO u38 j50 4) (bx (gz u38 (fm_Fr_below N u38 j50 0)) (fun u49 r49 => gw u49 (ck (isO u49 v0 5) (ck (List.all [some v0] (okR u49.1.1)) (bx (gw u49 (fm_Ma_answer N u49 v0 2 r49)) (fun u51 r51 => gw u51 (bo (gI u51 v0 5 5) (fun r52 => bo (pF u51 v0 5 5 (.inl (r52 + 2))) (fun w53 => some (w53, ()))))))))))))) (br (decide (r38 = (-1))) (fb_Ma_join_68 N G u38 (v0)) (ck (isO u38 v0 5) (bx (gz u38 (fm_Ma_sizes N u38 v0 2 0)) (fun u40 r40 => gw u40 (br (decide (r40 ≤ 500)) (ck (isO u40 v0 5) (bx (gz u40 (fm_Ma_room N u40 v0 (2 * r38))) (fun u41 r41 => gw u41 (br (decide (r41 = 0)) (some (u41, ())) (bo (gR u41 v0 5 3) (fun r42 => bo r42 (fun j43 => bo (gI u41 j43 7 4) (fun r44 => bo (gR u41 v0 5 4) (fun r45 => bo r45 (fun j47 => ck (isO u41 j47 4) (bx (gz u41 (fm_Fr_below N u41 j47 1)) (fun u46 r46 => gw u46 (G u46 (v0) (r38) (r44) (r46) (0)))))))))))))) (fb_Ma_join_68 N G u40 (v0))))))))))))))))))))
set_option maxRecDepth 100000 in
set_option maxHeartbeats 4000000 in
theorem wb_Ma_join_0 {p : Program} {l : Launch} {e : Env} {s : State} {m : MethodId} {args : Array Value} {below : List Frame} {meth : Method} {c : Code} {s0 : State} {b0 : Nat} {D : va_G} {cB cI cJ cZ cS cP : ClassId} {A : Nat → Prop} {sk sv : Nat → Nat} {uN uS mc ms : Nat} {ad0 : Nat → Nat} (C0 : XCx p s s0 b0 m args meth c R_Ma b_Ma_join 6 none D cB cI cJ cZ cS cP A) (hE : ENV s0 b0 sk sv) (N : Nat) (G : (CS → Nat → Int32 → Int32 → Int64 → Int32 → Option (CS × Unit))) (hG : (∀ (u : CS) (v0 : Nat) (v1 : Int32) (v2 : Int32) (v3 : Int64) (v5 : Int32) (x : CS × Unit), G u v0 v1 v2 v3 v5 = some x → (uN + mc = x.1.1.1 ∧ uS + ms = x.1.1.2) → ∀ (ad : Nat → Nat) (ce sl : Nat), AB uN uS ad0 u ad ce sl → ∀ (H : Heap) (locs : List Loc), va_P D cls (wC cB cI cJ cZ cS cP ad u) H → va_D A (wC cB cI cJ cZ cS cP ad u) → va_S A s.heap H locs → ∀ (ls : Array Slot), lv_has ls 6 [(0, .ref (ad v0)), (1, .int v1), (2, .int v2), (3, .long v3), (5, .int v5)] → W p l e (rm_Ma_join mc ms) s m args below meth c H locs ce sl (MQ below (xQ D cB cI cJ cZ cS cP A ad0 uN x.1 none) args s mc ms A) (F0 m 106 ls []))) : ∀ (u : CS) (v0 : Nat) (x : CS × Unit), fb_Ma_join_0 N G u v0 = some x → (uN + mc = x.1.1.1 ∧ uS + ms = x.1.1.2) → ∀ (ad : Nat → Nat) (ce sl : Nat), AB uN uS ad0 u ad ce sl → ∀ (H : Heap) (locs : List Loc), va_P D cls (wC cB cI cJ cZ cS cP ad u) H → va_D A (wC cB cI cJ cZ cS cP ad u) → va_S A s.heap H locs → ∀ (ls : Array Slot), lv_has ls 6 [(0, .ref (ad v0))] → W p l e (rm_Ma_join mc ms) s m args below meth c H locs ce sl (MQ below (xQ D cB cI cJ cZ cS cP A ad0 uN x.1 none) args s mc ms A) (F0 m 0 ls []) := by
  intro u v0 x hf hm ad ce sl hB H locs hP hD hS ls hl
  obtain ⟨hx, hb, hr, hml, ht, hown, hK, hA, hlocks, hA0, hO, hbs⟩ := id C0
  unfold fb_Ma_join_0 at hf
  refine lv_aload_n hx hb d_Ma_join_0 rfl (lv_at hl 0 rfl) ?_
  obtain ⟨r31, g31, hf⟩ := bo_some hf
  refine xg_R (i := v0) (k := 2) hx hb ht hown ck_Ma hK hP (by decide) fk_Ma_19 g31 d_Ma_join_1 ?_
  refine lv_aload_n hx hb d_Ma_join_4 rfl (lv_at hl 0 rfl) ?_
  obtain ⟨r32, g32, hf⟩ := bo_some hf
  refine xg_R (i := v0) (k := 3) hx hb ht hown ck_Ma hK hP (by decide) fk_Ma_23 g32 d_Ma_join_5 ?_
  obtain ⟨j33, ej33, hf⟩ := bo_some hf
  rw [ej33]
  obtain ⟨r34, g34, hf⟩ := bo_some hf
  refine xg_R (i := j33) (k := 2) hx hb ht hown ck_Pr hK hP (by decide) fk_Ma_195 g34 d_Ma_join_8 ?_
  refine lv_aload_n hx hb d_Ma_join_11 rfl (lv_at hl 0 rfl) ?_
  obtain ⟨r35, g35, hf⟩ := bo_some hf
  refine xg_R (i := v0) (k := 4) hx hb ht hown ck_Ma hK hP (by decide) fk_Ma_33 g35 d_Ma_join_12 ?_
  refine lv_iconst (v := 1) hx hb d_Ma_join_15 (by decide) ?_
  obtain ⟨j37, ej37, hf⟩ := bo_some hf
  rw [ej37]
  obtain ⟨hO9, hf⟩ := ck_some hf
  obtain ⟨u36, r36, hc36, hf⟩ := bx_some hf
  obtain ⟨hc36, hz36⟩ := gz_some hc36
  obtain ⟨hf, hw36⟩ := gw_some hf
  refine xV0 (i := j37) (As := [.int 1]) (rest := [va_rf (Option.map ad r34), va_rf (Option.map ad r31)]) C0 hP hD hS ck_Fr hO9 (c_Fr_below N hc36) k_Fr_below (wd_of 1653 (by decide +kernel) rfl) hi_Fr_below hs_Fr_below hini_Fr rfl rfl hd_Fr_below rfl rm_Ma_join_Fr_below hl.1 (c8 (Nat.le_of_ble_eq_true rfl)) d_Ma_join_16 rfl (hB.fit hm hz36 hw36) (fun H locs hP hD hS => ?_)
  have hB := hB.same2 hz36
  obtain ⟨j39, ej39, hf⟩ := bo_some hf
  rw [ej39]
  obtain ⟨hO9, hf⟩ := ck_some hf
  obtain ⟨u38, r38, hc38, hf⟩ := bx_some hf
  obtain ⟨hc38, hz38⟩ := gz_some hc38
  obtain ⟨hf, hw38⟩ := gw_some hf
  refine xV0 (i := j39) (As := [va_rf (Option.map ad r34), .long r36]) (rest := []) C0 hP hD hS ck_Te hO9 (c_Te_listLength N hc38) k_Te_listLength (wd_of 1786 (by decide +kernel) rfl) hi_Te_listLength hs_Te_listLength hini_Te rfl rfl hd_Te_listLength rfl rm_Ma_join_Te_listLength hl.1 (Nat.le_of_ble_eq_true rfl) d_Ma_join_19 rfl (hB.fit hm hz38 hw38) (fun H locs hP hD hS => ?_)
  have hB := hB.same2 hz38
  refine lv_istore_n (lv' := [(1, .int r38), (0, .ref (ad v0))]) hx hb d_Ma_join_22 rfl hl (by decide) (by first | rfl | simp [List.filter, cat_rf]) (fun ls hl => ?_)
  refine lv_iload_n hx hb d_Ma_join_23 rfl (lv_at hl 0 rfl) ?_
  refine lv_if_ne (tgt := 51) hx hb d_Ma_join_24 (by decide) (fun hc => ?_) (fun hc => ?_)
  · rw [br_n _ hc] at hf
    refine lv_iload_n hx hb d_Ma_join_51 rfl (lv_at hl 0 rfl) ?_
    refine lv_iconst (v := (-1)) hx hb d_Ma_join_52 (by decide) ?_
    refine lv_icmp_eq (tgt := 68) hx hb d_Ma_join_53 (by decide) (fun hc => ?_) (fun hc => ?_)
    · rw [br_p _ hc] at hf
      exact wb_Ma_join_68 C0 hE N G hG _ _ _ hf hm _ _ _ hB H locs hP hD hS ls (lv_sub hl [1] rfl)
    · rw [br_n _ hc] at hf
      refine lv_aload_n hx hb d_Ma_join_56 rfl (lv_at hl 1 rfl) ?_
      refine lv_iconst (v := 2) hx hb d_Ma_join_57 (by decide) ?_
      refine lv_iconst (v := 0) hx hb d_Ma_join_58 (by decide) ?_
      obtain ⟨hO9, hf⟩ := ck_some hf
      obtain ⟨u40, r40, hc40, hf⟩ := bx_some hf
      obtain ⟨hc40, hz40⟩ := gz_some hc40
      obtain ⟨hf, hw40⟩ := gw_some hf
      refine xV0 (i := v0) (As := [.int 2, .int 0]) (rest := []) C0 hP hD hS ck_Ma hO9 (c_Ma_sizes N hc40) k_Ma_sizes (wd_of 1869 (by decide +kernel) rfl) hi_Ma_sizes hs_Ma_sizes hini_Ma rfl rfl hd_Ma_sizes rfl rm_Ma_join_Ma_sizes hl.1 (Nat.le_of_ble_eq_true rfl) d_Ma_join_59 rfl (hB.fit hm hz40 hw40) (fun H locs hP hD hS => ?_)
      have hB := hB.same2 hz40
      refine lv_sipush (v := 500) hx hb d_Ma_join_62 (by decide) ?_
      refine lv_icmp_le (tgt := 75) hx hb d_Ma_join_65 (by decide) (fun hc => ?_) (fun hc => ?_)
      · rw [br_p _ hc] at hf
        refine lv_aload_n hx hb d_Ma_join_75 rfl (lv_at hl 1 rfl) ?_
        refine lv_iconst (v := 2) hx hb d_Ma_join_76 (by decide) ?_
        refine lv_iload_n hx hb d_Ma_join_77 rfl (lv_at hl 0 rfl) ?_
        refine lv_imul hx hb d_Ma_join_78 ?_
        obtain ⟨hO9, hf⟩ := ck_some hf
        obtain ⟨u41, r41, hc41, hf⟩ := bx_some hf
        obtain ⟨hc41, hz41⟩ := gz_some hc41
        obtain ⟨hf, hw41⟩ := gw_some hf
        refine xV0 (i := v0) (As := [.int (2 * r38)]) (rest := []) C0 hP hD hS ck_Ma hO9 (c_Ma_room N hE hc41) k_Ma_room (wd_of 1853 (by decide +kernel) rfl) hi_Ma_room hs_Ma_room hini_Ma rfl rfl hd_Ma_room rfl rm_Ma_join_Ma_room hl.1 (Nat.le_of_ble_eq_true rfl) d_Ma_join_79 rfl (hB.fit hm hz41 hw41) (fun H locs hP hD hS => ?_)
        have hB := hB.same2 hz41
        refine lv_if_ne (tgt := 86) hx hb d_Ma_join_82 (by decide) (fun hc => ?_) (fun hc => ?_)
        · rw [br_n _ hc] at hf
          refine lv_aload_n hx hb d_Ma_join_86 rfl (lv_at hl 1 rfl) ?_
          obtain ⟨r42, g42, hf⟩ := bo_some hf
          refine xg_R (i := v0) (k := 3) hx hb ht hown ck_Ma hK hP (by decide) fk_Ma_23 g42 d_Ma_join_87 ?_
          obtain ⟨j43, ej43, hf⟩ := bo_some hf
          rw [ej43]
          obtain ⟨r44, g44, hf⟩ := bo_some hf
          refine xg_I (i := j43) (k := 4) hx hb ht hown ck_Pr hK hP (by decide) fk_Ma_239 g44 d_Ma_join_90 ?_
          refine lv_istore_n (lv' := [(2, .int r44), (1, .int r38), (0, .ref (ad v0))]) hx hb d_Ma_join_93 rfl hl (by decide) (by first | rfl | simp [List.filter, cat_rf]) (fun ls hl => ?_)
          refine lv_aload_n hx hb d_Ma_join_94 rfl (lv_at hl 2 rfl) ?_
          obtain ⟨r45, g45, hf⟩ := bo_some hf
          refine xg_R (i := v0) (k := 4) hx hb ht hown ck_Ma hK hP (by decide) fk_Ma_33 g45 d_Ma_join_95 ?_
          refine lv_iconst (v := 1) hx hb d_Ma_join_98 (by decide) ?_
          obtain ⟨j47, ej47, hf⟩ := bo_some hf
          rw [ej47]
          obtain ⟨hO9, hf⟩ := ck_some hf
          obtain ⟨u46, r46, hc46, hf⟩ := bx_some hf
          obtain ⟨hc46, hz46⟩ := gz_some hc46
          obtain ⟨hf, hw46⟩ := gw_some hf
          refine xV0 (i := j47) (As := [.int 1]) (rest := []) C0 hP hD hS ck_Fr hO9 (c_Fr_below N hc46) k_Fr_below (wd_of 1653 (by decide +kernel) rfl) hi_Fr_below hs_Fr_below hini_Fr rfl rfl hd_Fr_below rfl rm_Ma_join_Fr_below hl.1 (Nat.le_of_ble_eq_true rfl) d_Ma_join_99 rfl (hB.fit hm hz46 hw46) (fun H locs hP hD hS => ?_)
          have hB := hB.same2 hz46
          refine lv_lstore_n (lv' := [(3, .long r46), (2, .int r44), (1, .int r38), (0, .ref (ad v0))]) hx hb d_Ma_join_102 rfl hl (by decide) (by first | rfl | simp [List.filter, cat_rf]) (fun ls hl => ?_)
          refine lv_iconst (v := 0) hx hb d_Ma_join_103 (by decide) ?_
          refine lv_istore (lv' := [(5, .int 0), (3, .long r46), (2, .int r44), (1, .int r38), (0, .ref (ad v0))]) hx hb d_Ma_join_104 hl (by decide) (by first | rfl | simp [List.filter, cat_rf]) (fun ls hl => ?_)
          exact hG _ _ _ _ _ _ _ hf hm _ _ _ hB H locs hP hD hS ls (lv_sub hl [4, 3, 2, 1, 0] rfl)
        · rw [br_p _ hc] at hf
          exact yr_v C0 hP hD hS hB hm hf d_Ma_join_85
      · rw [br_n _ hc] at hf
        exact wb_Ma_join_68 C0 hE N G hG _ _ _ hf hm _ _ _ hB H locs hP hD hS ls (lv_sub hl [1] rfl)
  · rw [br_p _ hc] at hf
    refine lv_aload_n hx hb d_Ma_join_27 rfl (lv_at hl 1 rfl) ?_
    refine lv_iconst (v := 2) hx hb d_Ma_join_28 (by decide) ?_
    refine lv_aload_n hx hb d_Ma_join_29 rfl (lv_at hl 1 rfl) ?_
    obtain ⟨r48, g48, hf⟩ := bo_some hf
    refine xg_R (i := v0) (k := 4) hx hb ht hown ck_Ma hK hP (by decide) fk_Ma_33 g48 d_Ma_join_30 ?_
    refine lv_iconst (v := 0) hx hb d_Ma_join_33 (by decide) ?_
    obtain ⟨j50, ej50, hf⟩ := bo_some hf
    rw [ej50]
    obtain ⟨hO9, hf⟩ := ck_some hf
    obtain ⟨u49, r49, hc49, hf⟩ := bx_some hf
    obtain ⟨hc49, hz49⟩ := gz_some hc49
    obtain ⟨hf, hw49⟩ := gw_some hf
    refine xV0 (i := j50) (As := [.int 0]) (rest := [.int 2, .ref (ad v0)]) C0 hP hD hS ck_Fr hO9 (c_Fr_below N hc49) k_Fr_below (wd_of 1653 (by decide +kernel) rfl) hi_Fr_below hs_Fr_below hini_Fr rfl rfl hd_Fr_below rfl rm_Ma_join_Fr_below hl.1 (Nat.le_of_ble_eq_true rfl) d_Ma_join_34 rfl (hB.fit hm hz49 hw49) (fun H locs hP hD hS => ?_)
    have hB := hB.same2 hz49
    obtain ⟨hO9, hf⟩ := ck_some hf
    obtain ⟨hk51, hf⟩ := ck_some hf
    obtain ⟨u51, r51, hc51, hf⟩ := bx_some hf
    obtain ⟨hc51, hq51⟩ := gw_some hc51
    obtain ⟨hf, hw51⟩ := gw_some hf
    refine yV (i := v0) (As := [.int 2, .long r49]) (rest := []) C0 hP hD hS ck_Ma hO9 (c_Ma_answer N hE hc51 (gm hq51)) k_Ma_answer (wd_of 1744 (by decide +kernel) rfl) hi_Ma_answer hs_Ma_answer hini_Ma rfl rfl hd_Ma_answer rfl rm_Ma_join_Ma_answer hl.1 (Nat.le_of_ble_eq_true rfl) d_Ma_join_37 rfl (gm hq51) hB hm hw51 (fun ad51 H locs ce sl hg51 hB hP hD hS => ?_)
    have q51_0 : ad51 v0 = ad v0 := ko_O (k := 0) hk51 rfl hg51
    have hl : lv_has ls 6 [(1, .int r38), (0, .ref (ad51 v0))] := by simp only [q51_0]; exact hl
    refine lv_aload_n hx hb d_Ma_join_40 rfl (lv_at hl 1 rfl) ?_
    refine lv_dup hx hb d_Ma_join_41 rfl ?_
    obtain ⟨r52, g52, hf⟩ := bo_some hf
    refine xg_I (i := v0) (k := 5) hx hb ht hown ck_Ma hK hP (by decide) fk_Ma_40 g52 d_Ma_join_42 ?_
    refine lv_iconst (v := 2) hx hb d_Ma_join_45 (by decide) ?_
    refine lv_iadd hx hb d_Ma_join_46 ?_
    obtain ⟨w53, g53, hf⟩ := bo_some hf
    refine xp (i := v0) (k := 5) (v := (.inl (r52 + 2))) hx hb ht hown ck_Ma hK hP hD hS (by decide) fk_Ma_40 rfl g53 rfl rfl d_Ma_join_47 (fun H locs hP hD hS => ?_)
    have hB := hB.same (pF_c g53)
    exact yr_v C0 hP hD hS hB hm hf d_Ma_join_50
def gg_Ma_join (N : Nat) : Nat → ((CS → Nat → Int32 → Int32 → Int64 → Int32 → Option (CS × Unit)))
  | 0 => fun _ _ _ _ _ _ => none
  | n + 1 => fb_Ma_join_106 N (gg_Ma_join N n)
theorem wg_Ma_join {p : Program} {l : Launch} {e : Env} {s : State} {m : MethodId} {args : Array Value} {below : List Frame} {meth : Method} {c : Code} {s0 : State} {b0 : Nat} {D : va_G} {cB cI cJ cZ cS cP : ClassId} {A : Nat → Prop} {sk sv : Nat → Nat} {uN uS mc ms : Nat} {ad0 : Nat → Nat} (C0 : XCx p s s0 b0 m args meth c R_Ma b_Ma_join 6 none D cB cI cJ cZ cS cP A) (hE : ENV s0 b0 sk sv) (N : Nat) : ∀ n : Nat, (∀ (u : CS) (v0 : Nat) (v1 : Int32) (v2 : Int32) (v3 : Int64) (v5 : Int32) (x : CS × Unit), gg_Ma_join N n u v0 v1 v2 v3 v5 = some x → (uN + mc = x.1.1.1 ∧ uS + ms = x.1.1.2) → ∀ (ad : Nat → Nat) (ce sl : Nat), AB uN uS ad0 u ad ce sl → ∀ (H : Heap) (locs : List Loc), va_P D cls (wC cB cI cJ cZ cS cP ad u) H → va_D A (wC cB cI cJ cZ cS cP ad u) → va_S A s.heap H locs → ∀ (ls : Array Slot), lv_has ls 6 [(0, .ref (ad v0)), (1, .int v1), (2, .int v2), (3, .long v3), (5, .int v5)] → W p l e (rm_Ma_join mc ms) s m args below meth c H locs ce sl (MQ below (xQ D cB cI cJ cZ cS cP A ad0 uN x.1 none) args s mc ms A) (F0 m 106 ls []))
  | 0 => (fun u v0 v1 v2 v3 v5 x hf => by cases hf)
  | n + 1 => wb_Ma_join_106 C0 hE N (gg_Ma_join N n) (wg_Ma_join C0 hE N n)
def fm_Ma_join (N : Nat) (u : CS) (v0 : Nat) : Option (CS × Unit) := fb_Ma_join_0 N (gg_Ma_join N N) u v0
set_option maxRecDepth 100000 in
set_option maxHeartbeats 4000000 in
theorem c_Ma_join (N : Nat) {l : Launch} {s0 : State} {b0 : Nat} {D : va_G} {cB cI cJ cZ cS cP : ClassId} {sk sv : Nat → Nat} {ad : Nat → Nat} {u : CS} {sz mc ms : Nat} {v0 : Nat} {x : CS × Unit} (hE : ENV s0 b0 sk sv) (hf : fm_Ma_join N u v0 = some x) (hm : u.1.1 + mc = x.1.1.1 ∧ u.1.2 + ms = x.1.1.2) : Met l y_Ma_join (wd_ws y_Ma_join b_Ma_join 6 none) (rm_Ma_join mc ms) (xPc s0 b0 D cB cI cJ cZ cS cP ad u sz [.ref (ad v0)]) (xQ D cB cI cJ cZ cS cP (xA cB cI cJ cZ cS cP ad u sz) ad u.1.1 x.1 none) mc ms (xA cB cI cJ cZ cS cP ad u sz) :=
  xMet (by decide) rfl (Nat.le_of_ble_eq_true rfl) (fun p e s m below meth c ls hsz hnm C0 hP hD hS hl =>
    wb_Ma_join_0 C0 hE N (gg_Ma_join N N) (wg_Ma_join C0 hE N N) u _ x hf hm ad 0 0 ⟨rfl, rfl, fun _ _ => rfl⟩ s.heap [] hP hD hS ls (lv_sub hl [0] rfl))
abbrev b_Ma_markGone : ByteArray := prog_5_method_29_code
def y_Ma_markGone : MethodName := ⟨R_Ma, "markGone", "(I)I"⟩
def w_Ma_markGone : List Cond := wd_ws y_Ma_markGone b_Ma_markGone 9 (some .int)
set_option maxRecDepth 100000 in
theorem k_Ma_markGone : Cond.code y_Ma_markGone b_Ma_markGone 9 (some .int) ∈ wd_tbl := wd_of 1949 rfl rfl
theorem d_Ma_markGone_0 : decode b_Ma_markGone 0 = .ok (.iconst 0, 1) := by decide +kernel
theorem d_Ma_markGone_1 : decode b_Ma_markGone 1 = .ok (.istore_n 2, 1) := by decide +kernel
theorem d_Ma_markGone_2 : decode b_Ma_markGone 2 = .ok (.iload_n 2, 1) := by decide +kernel
theorem d_Ma_markGone_3 : decode b_Ma_markGone 3 = .ok (.iload_n 1, 1) := by decide +kernel
theorem d_Ma_markGone_4 : decode b_Ma_markGone 4 = .ok (.if_icmp .ge 19, 3) := by decide +kernel
theorem d_Ma_markGone_7 : decode b_Ma_markGone 7 = .ok (.aload_n 0, 1) := by decide +kernel
theorem d_Ma_markGone_8 : decode b_Ma_markGone 8 = .ok (.getfield 19, 3) := by decide +kernel
theorem d_Ma_markGone_11 : decode b_Ma_markGone 11 = .ok (.getfield 267, 3) := by decide +kernel
theorem d_Ma_markGone_14 : decode b_Ma_markGone 14 = .ok (.iload_n 2, 1) := by decide +kernel
theorem d_Ma_markGone_15 : decode b_Ma_markGone 15 = .ok (.lconst 0, 1) := by decide +kernel
theorem d_Ma_markGone_16 : decode b_Ma_markGone 16 = .ok (.lastore, 1) := by decide +kernel
theorem d_Ma_markGone_17 : decode b_Ma_markGone 17 = .ok (.iinc 2 1, 3) := by decide +kernel
theorem d_Ma_markGone_20 : decode b_Ma_markGone 20 = .ok (.goto (-18), 3) := by decide +kernel
theorem d_Ma_markGone_23 : decode b_Ma_markGone 23 = .ok (.iconst 0, 1) := by decide +kernel
theorem d_Ma_markGone_24 : decode b_Ma_markGone 24 = .ok (.istore_n 2, 1) := by decide +kernel
theorem d_Ma_markGone_25 : decode b_Ma_markGone 25 = .ok (.aload_n 0, 1) := by decide +kernel
theorem d_Ma_markGone_26 : decode b_Ma_markGone 26 = .ok (.getfield 33, 3) := by decide +kernel
theorem d_Ma_markGone_29 : decode b_Ma_markGone 29 = .ok (.iconst 0, 1) := by decide +kernel
theorem d_Ma_markGone_30 : decode b_Ma_markGone 30 = .ok (.invokevirtual 138, 3) := by decide +kernel
theorem d_Ma_markGone_33 : decode b_Ma_markGone 33 = .ok (.lstore_n 3, 1) := by decide +kernel
theorem d_Ma_markGone_34 : decode b_Ma_markGone 34 = .ok (.iconst 0, 1) := by decide +kernel
theorem d_Ma_markGone_35 : decode b_Ma_markGone 35 = .ok (.istore 5, 2) := by decide +kernel
theorem d_Ma_markGone_37 : decode b_Ma_markGone 37 = .ok (.iload 5, 2) := by decide +kernel
theorem d_Ma_markGone_39 : decode b_Ma_markGone 39 = .ok (.ldc 66, 2) := by decide +kernel
theorem d_Ma_markGone_41 : decode b_Ma_markGone 41 = .ok (.if_icmp .ge 147, 3) := by decide +kernel
theorem d_Ma_markGone_44 : decode b_Ma_markGone 44 = .ok (.lload_n 3, 1) := by decide +kernel
theorem d_Ma_markGone_45 : decode b_Ma_markGone 45 = .ok (.invokestatic 253, 3) := by decide +kernel
theorem d_Ma_markGone_48 : decode b_Ma_markGone 48 = .ok (.bipush 7, 2) := by decide +kernel
theorem d_Ma_markGone_50 : decode b_Ma_markGone 50 = .ok (.if_icmp .ne 138, 3) := by decide +kernel
theorem d_Ma_markGone_53 : decode b_Ma_markGone 53 = .ok (.aload_n 0, 1) := by decide +kernel
theorem d_Ma_markGone_54 : decode b_Ma_markGone 54 = .ok (.getfield 33, 3) := by decide +kernel
theorem d_Ma_markGone_57 : decode b_Ma_markGone 57 = .ok (.iconst 1, 1) := by decide +kernel
theorem d_Ma_markGone_58 : decode b_Ma_markGone 58 = .ok (.invokevirtual 138, 3) := by decide +kernel
theorem d_Ma_markGone_61 : decode b_Ma_markGone 61 = .ok (.lstore 6, 2) := by decide +kernel
theorem d_Ma_markGone_63 : decode b_Ma_markGone 63 = .ok (.iconst 0, 1) := by decide +kernel
theorem d_Ma_markGone_64 : decode b_Ma_markGone 64 = .ok (.istore 8, 2) := by decide +kernel
theorem d_Ma_markGone_66 : decode b_Ma_markGone 66 = .ok (.iload 8, 2) := by decide +kernel
theorem d_Ma_markGone_68 : decode b_Ma_markGone 68 = .ok (.iload_n 1, 1) := by decide +kernel
theorem d_Ma_markGone_69 : decode b_Ma_markGone 69 = .ok (.if_icmp .ge 100, 3) := by decide +kernel
theorem d_Ma_markGone_72 : decode b_Ma_markGone 72 = .ok (.aload_n 0, 1) := by decide +kernel
theorem d_Ma_markGone_73 : decode b_Ma_markGone 73 = .ok (.getfield 19, 3) := by decide +kernel
theorem d_Ma_markGone_76 : decode b_Ma_markGone 76 = .ok (.getfield 267, 3) := by decide +kernel
theorem d_Ma_markGone_79 : decode b_Ma_markGone 79 = .ok (.iload 8, 2) := by decide +kernel
theorem d_Ma_markGone_81 : decode b_Ma_markGone 81 = .ok (.laload, 1) := by decide +kernel
theorem d_Ma_markGone_82 : decode b_Ma_markGone 82 = .ok (.lconst 0, 1) := by decide +kernel
theorem d_Ma_markGone_83 : decode b_Ma_markGone 83 = .ok (.lcmp, 1) := by decide +kernel
theorem d_Ma_markGone_84 : decode b_Ma_markGone 84 = .ok (.ifCond .ne 64, 3) := by decide +kernel
theorem d_Ma_markGone_87 : decode b_Ma_markGone 87 = .ok (.aload_n 0, 1) := by decide +kernel
theorem d_Ma_markGone_88 : decode b_Ma_markGone 88 = .ok (.getfield 19, 3) := by decide +kernel
theorem d_Ma_markGone_91 : decode b_Ma_markGone 91 = .ok (.aload_n 0, 1) := by decide +kernel
theorem d_Ma_markGone_92 : decode b_Ma_markGone 92 = .ok (.getfield 23, 3) := by decide +kernel
theorem d_Ma_markGone_95 : decode b_Ma_markGone 95 = .ok (.getfield 195, 3) := by decide +kernel
theorem d_Ma_markGone_98 : decode b_Ma_markGone 98 = .ok (.aload_n 0, 1) := by decide +kernel
theorem d_Ma_markGone_99 : decode b_Ma_markGone 99 = .ok (.getfield 23, 3) := by decide +kernel
theorem d_Ma_markGone_102 : decode b_Ma_markGone 102 = .ok (.getfield 195, 3) := by decide +kernel
theorem d_Ma_markGone_105 : decode b_Ma_markGone 105 = .ok (.lload 6, 2) := by decide +kernel
theorem d_Ma_markGone_107 : decode b_Ma_markGone 107 = .ok (.l2i, 1) := by decide +kernel
theorem d_Ma_markGone_108 : decode b_Ma_markGone 108 = .ok (.laload, 1) := by decide +kernel
theorem d_Ma_markGone_109 : decode b_Ma_markGone 109 = .ok (.aload_n 0, 1) := by decide +kernel
theorem d_Ma_markGone_110 : decode b_Ma_markGone 110 = .ok (.getfield 23, 3) := by decide +kernel
theorem d_Ma_markGone_113 : decode b_Ma_markGone 113 = .ok (.getfield 195, 3) := by decide +kernel
theorem d_Ma_markGone_116 : decode b_Ma_markGone 116 = .ok (.lload_n 3, 1) := by decide +kernel
theorem d_Ma_markGone_117 : decode b_Ma_markGone 117 = .ok (.l2i, 1) := by decide +kernel
theorem d_Ma_markGone_118 : decode b_Ma_markGone 118 = .ok (.laload, 1) := by decide +kernel
theorem d_Ma_markGone_119 : decode b_Ma_markGone 119 = .ok (.invokevirtual 199, 3) := by decide +kernel
theorem d_Ma_markGone_122 : decode b_Ma_markGone 122 = .ok (.ifCond .ne 26, 3) := by decide +kernel
theorem d_Ma_markGone_125 : decode b_Ma_markGone 125 = .ok (.aload_n 0, 1) := by decide +kernel
theorem d_Ma_markGone_126 : decode b_Ma_markGone 126 = .ok (.getfield 19, 3) := by decide +kernel
theorem d_Ma_markGone_129 : decode b_Ma_markGone 129 = .ok (.getfield 267, 3) := by decide +kernel
theorem d_Ma_markGone_132 : decode b_Ma_markGone 132 = .ok (.iload 8, 2) := by decide +kernel
theorem d_Ma_markGone_134 : decode b_Ma_markGone 134 = .ok (.lconst 1, 1) := by decide +kernel
theorem d_Ma_markGone_135 : decode b_Ma_markGone 135 = .ok (.lastore, 1) := by decide +kernel
theorem d_Ma_markGone_136 : decode b_Ma_markGone 136 = .ok (.iload_n 2, 1) := by decide +kernel
theorem d_Ma_markGone_137 : decode b_Ma_markGone 137 = .ok (.iload 8, 2) := by decide +kernel
theorem d_Ma_markGone_139 : decode b_Ma_markGone 139 = .ok (.iconst 1, 1) := by decide +kernel
theorem d_Ma_markGone_140 : decode b_Ma_markGone 140 = .ok (.iadd, 1) := by decide +kernel
theorem d_Ma_markGone_141 : decode b_Ma_markGone 141 = .ok (.invokestatic 270, 3) := by decide +kernel
theorem d_Ma_markGone_144 : decode b_Ma_markGone 144 = .ok (.istore_n 2, 1) := by decide +kernel
theorem d_Ma_markGone_145 : decode b_Ma_markGone 145 = .ok (.goto 24, 3) := by decide +kernel
theorem d_Ma_markGone_148 : decode b_Ma_markGone 148 = .ok (.aload_n 0, 1) := by decide +kernel
theorem d_Ma_markGone_149 : decode b_Ma_markGone 149 = .ok (.getfield 23, 3) := by decide +kernel
theorem d_Ma_markGone_152 : decode b_Ma_markGone 152 = .ok (.getfield 195, 3) := by decide +kernel
theorem d_Ma_markGone_155 : decode b_Ma_markGone 155 = .ok (.lload 6, 2) := by decide +kernel
theorem d_Ma_markGone_157 : decode b_Ma_markGone 157 = .ok (.l2i, 1) := by decide +kernel
theorem d_Ma_markGone_158 : decode b_Ma_markGone 158 = .ok (.iconst 1, 1) := by decide +kernel
theorem d_Ma_markGone_159 : decode b_Ma_markGone 159 = .ok (.iadd, 1) := by decide +kernel
theorem d_Ma_markGone_160 : decode b_Ma_markGone 160 = .ok (.laload, 1) := by decide +kernel
theorem d_Ma_markGone_161 : decode b_Ma_markGone 161 = .ok (.lstore 6, 2) := by decide +kernel
theorem d_Ma_markGone_163 : decode b_Ma_markGone 163 = .ok (.iinc 8 1, 3) := by decide +kernel
theorem d_Ma_markGone_166 : decode b_Ma_markGone 166 = .ok (.goto (-100), 3) := by decide +kernel
theorem d_Ma_markGone_169 : decode b_Ma_markGone 169 = .ok (.aload_n 0, 1) := by decide +kernel
theorem d_Ma_markGone_170 : decode b_Ma_markGone 170 = .ok (.getfield 23, 3) := by decide +kernel
theorem d_Ma_markGone_173 : decode b_Ma_markGone 173 = .ok (.getfield 195, 3) := by decide +kernel
theorem d_Ma_markGone_176 : decode b_Ma_markGone 176 = .ok (.lload_n 3, 1) := by decide +kernel
theorem d_Ma_markGone_177 : decode b_Ma_markGone 177 = .ok (.l2i, 1) := by decide +kernel
theorem d_Ma_markGone_178 : decode b_Ma_markGone 178 = .ok (.iconst 1, 1) := by decide +kernel
theorem d_Ma_markGone_179 : decode b_Ma_markGone 179 = .ok (.iadd, 1) := by decide +kernel
theorem d_Ma_markGone_180 : decode b_Ma_markGone 180 = .ok (.laload, 1) := by decide +kernel
theorem d_Ma_markGone_181 : decode b_Ma_markGone 181 = .ok (.lstore_n 3, 1) := by decide +kernel
theorem d_Ma_markGone_182 : decode b_Ma_markGone 182 = .ok (.iinc 5 1, 3) := by decide +kernel
theorem d_Ma_markGone_185 : decode b_Ma_markGone 185 = .ok (.goto (-148), 3) := by decide +kernel
theorem d_Ma_markGone_188 : decode b_Ma_markGone 188 = .ok (.iload_n 2, 1) := by decide +kernel
theorem d_Ma_markGone_189 : decode b_Ma_markGone 189 = .ok (.ireturn, 1) := by decide +kernel
set_option maxRecDepth 100000 in
theorem hl_Ma_markGone : Cond.methodLink R_Ma 264 y_Ma_markGone ∈ wd_tbl := wd_of 1946 (by decide +kernel) rfl
set_option maxRecDepth 100000 in
theorem hi_Ma_markGone : Cond.instanceMethod y_Ma_markGone ∈ wd_tbl := wd_of 1948 (by decide +kernel) rfl
set_option maxRecDepth 100000 in
theorem hs_Ma_markGone : Cond.selects R_Ma y_Ma_markGone y_Ma_markGone ∈ wd_tbl := wd_of 109 (by decide +kernel) rfl
theorem hd_Ma_markGone : y_Ma_markGone.cls = R_Ma ∧ y_Ma_markGone.cls ≠ "java/lang/invoke/MethodHandle" ∧ y_Ma_markGone.cls ≠ "java/lang/invoke/VarHandle" ∧ (parseMethodDescriptor y_Ma_markGone.desc).map (fun d => d.parameters.length) = some 1 := by decide +kernel
def rm_Ma_markGone : Room := { frames := 3, cells := 0, slots := 0, locals := 121 }
theorem rm_Ma_markGone_Fr_below : (rm_Fr_below).frames + 1 ≤ rm_Ma_markGone.frames ∧ 8 + (3 + 11) + (rm_Fr_below).locals ≤ rm_Ma_markGone.locals := by
  show 0 + 1 ≤ 3 ∧ 8 + (3 + 11) + 0 ≤ 121
  decide
theorem rm_Ma_markGone_Te_tag : (rm_Te_tag).frames + 1 ≤ rm_Ma_markGone.frames ∧ 8 + (2 + 11) + (rm_Te_tag).locals ≤ rm_Ma_markGone.locals := by
  show 0 + 1 ≤ 3 ∧ 8 + (2 + 11) + 0 ≤ 121
  decide
theorem rm_Ma_markGone_Te_order : (rm_Te_order).frames + 1 ≤ rm_Ma_markGone.frames ∧ 8 + (14 + 11) + (rm_Te_order).locals ≤ rm_Ma_markGone.locals := by
  show 2 + 1 ≤ 3 ∧ 8 + (14 + 11) + 88 ≤ 121
  decide
def fb_Ma_markGone_188 (N : Nat) (G : (CS → Nat → Int32 → Int32 → Option (CS × Int32)) × (CS → Nat → Int32 → Int32 → Int64 → Int32 → Option (CS × Int32)) × (CS → Nat → Int32 → Int32 → Int64 → Int32 → Int64 → Int32 → Option (CS × Int32))) (u : CS) (v2 : Int32) : Option (CS × Int32) := some (u, v2)
set_option maxRecDepth 100000 in
set_option maxHeartbeats 4000000 in
theorem wb_Ma_markGone_188 {p : Program} {l : Launch} {e : Env} {s : State} {m : MethodId} {args : Array Value} {below : List Frame} {meth : Method} {c : Code} {s0 : State} {b0 : Nat} {D : va_G} {cB cI cJ cZ cS cP : ClassId} {A : Nat → Prop} {sk sv : Nat → Nat} {ad : Nat → Nat} (C0 : XCx p s s0 b0 m args meth c R_Ma b_Ma_markGone 9 (some .int) D cB cI cJ cZ cS cP A) (hE : ENV s0 b0 sk sv) (N : Nat) (G : (CS → Nat → Int32 → Int32 → Option (CS × Int32)) × (CS → Nat → Int32 → Int32 → Int64 → Int32 → Option (CS × Int32)) × (CS → Nat → Int32 → Int32 → Int64 → Int32 → Int64 → Int32 → Option (CS × Int32))) (hG : (∀ (u : CS) (v0 : Nat) (v1 : Int32) (v2 : Int32) (x : CS × Int32), G.1 u v0 v1 v2 = some x → ∀ (H : Heap) (locs : List Loc), va_P D cls (wC cB cI cJ cZ cS cP ad u) H → va_D A (wC cB cI cJ cZ cS cP ad u) → va_S A s.heap H locs → ∀ (ls : Array Slot), lv_has ls 9 [(0, .ref (ad v0)), (1, .int v1), (2, .int v2)] → W p l e rm_Ma_markGone s m args below meth c H locs 0 0 (MQ below (xQ0 D cB cI cJ cZ cS cP A ad x.1 (some (.inl x.2))) args s 0 0 A) (F0 m 2 ls [])) ∧ (∀ (u : CS) (v0 : Nat) (v1 : Int32) (v2 : Int32) (v3 : Int64) (v5 : Int32) (x : CS × Int32), G.2.1 u v0 v1 v2 v3 v5 = some x → ∀ (H : Heap) (locs : List Loc), va_P D cls (wC cB cI cJ cZ cS cP ad u) H → va_D A (wC cB cI cJ cZ cS cP ad u) → va_S A s.heap H locs → ∀ (ls : Array Slot), lv_has ls 9 [(0, .ref (ad v0)), (1, .int v1), (2, .int v2), (3, .long v3), (5, .int v5)] → W p l e rm_Ma_markGone s m args below meth c H locs 0 0 (MQ below (xQ0 D cB cI cJ cZ cS cP A ad x.1 (some (.inl x.2))) args s 0 0 A) (F0 m 37 ls [])) ∧ (∀ (u : CS) (v0 : Nat) (v1 : Int32) (v2 : Int32) (v3 : Int64) (v5 : Int32) (v6 : Int64) (v8 : Int32) (x : CS × Int32), G.2.2 u v0 v1 v2 v3 v5 v6 v8 = some x → ∀ (H : Heap) (locs : List Loc), va_P D cls (wC cB cI cJ cZ cS cP ad u) H → va_D A (wC cB cI cJ cZ cS cP ad u) → va_S A s.heap H locs → ∀ (ls : Array Slot), lv_has ls 9 [(0, .ref (ad v0)), (1, .int v1), (2, .int v2), (3, .long v3), (5, .int v5), (6, .long v6), (8, .int v8)] → W p l e rm_Ma_markGone s m args below meth c H locs 0 0 (MQ below (xQ0 D cB cI cJ cZ cS cP A ad x.1 (some (.inl x.2))) args s 0 0 A) (F0 m 66 ls []))) : ∀ (u : CS) (v2 : Int32) (x : CS × Int32), fb_Ma_markGone_188 N G u v2 = some x → ∀ (H : Heap) (locs : List Loc), va_P D cls (wC cB cI cJ cZ cS cP ad u) H → va_D A (wC cB cI cJ cZ cS cP ad u) → va_S A s.heap H locs → ∀ (ls : Array Slot), lv_has ls 9 [(2, .int v2)] → W p l e rm_Ma_markGone s m args below meth c H locs 0 0 (MQ below (xQ0 D cB cI cJ cZ cS cP A ad x.1 (some (.inl x.2))) args s 0 0 A) (F0 m 188 ls []) := by
  intro u v2 x hf H locs hP hD hS ls hl
  obtain ⟨hx, hb, hr, hml, ht, hown, hK, hA, hlocks, hA0, hO, hbs⟩ := id C0
  unfold fb_Ma_markGone_188 at hf
  refine lv_iload_n hx hb d_Ma_markGone_188 rfl (lv_at hl 0 rfl) ?_
  exact xr0_i C0 hP hD hS hf d_Ma_markGone_189
def fb_Ma_markGone_169 (N : Nat) (G : (CS → Nat → Int32 → Int32 → Option (CS × Int32)) × (CS → Nat → Int32 → Int32 → Int64 → Int32 → Option (CS × Int32)) × (CS → Nat → Int32 → Int32 → Int64 → Int32 → Int64 → Int32 → Option (CS × Int32))) (u : CS) (v0 : Nat) (v1 : Int32) (v2 : Int32) (v3 : Int64) (v5 : Int32) : Option (CS × Int32) := bo (gR u v0 5 3) (fun r1 => bo r1 (fun j2 => bo (gR u j2 7 2) (fun r3 => bo r3 (fun j4 => bo (aJ u j4 (v3.toInt32 + 1)) (fun r5 => G.2.1 u (v0) (v1) (v2) (r5) ((v5 + 1)))))))
set_option maxRecDepth 100000 in
set_option maxHeartbeats 4000000 in
theorem wb_Ma_markGone_169 {p : Program} {l : Launch} {e : Env} {s : State} {m : MethodId} {args : Array Value} {below : List Frame} {meth : Method} {c : Code} {s0 : State} {b0 : Nat} {D : va_G} {cB cI cJ cZ cS cP : ClassId} {A : Nat → Prop} {sk sv : Nat → Nat} {ad : Nat → Nat} (C0 : XCx p s s0 b0 m args meth c R_Ma b_Ma_markGone 9 (some .int) D cB cI cJ cZ cS cP A) (hE : ENV s0 b0 sk sv) (N : Nat) (G : (CS → Nat → Int32 → Int32 → Option (CS × Int32)) × (CS → Nat → Int32 → Int32 → Int64 → Int32 → Option (CS × Int32)) × (CS → Nat → Int32 → Int32 → Int64 → Int32 → Int64 → Int32 → Option (CS × Int32))) (hG : (∀ (u : CS) (v0 : Nat) (v1 : Int32) (v2 : Int32) (x : CS × Int32), G.1 u v0 v1 v2 = some x → ∀ (H : Heap) (locs : List Loc), va_P D cls (wC cB cI cJ cZ cS cP ad u) H → va_D A (wC cB cI cJ cZ cS cP ad u) → va_S A s.heap H locs → ∀ (ls : Array Slot), lv_has ls 9 [(0, .ref (ad v0)), (1, .int v1), (2, .int v2)] → W p l e rm_Ma_markGone s m args below meth c H locs 0 0 (MQ below (xQ0 D cB cI cJ cZ cS cP A ad x.1 (some (.inl x.2))) args s 0 0 A) (F0 m 2 ls [])) ∧ (∀ (u : CS) (v0 : Nat) (v1 : Int32) (v2 : Int32) (v3 : Int64) (v5 : Int32) (x : CS × Int32), G.2.1 u v0 v1 v2 v3 v5 = some x → ∀ (H : Heap) (locs : List Loc), va_P D cls (wC cB cI cJ cZ cS cP ad u) H → va_D A (wC cB cI cJ cZ cS cP ad u) → va_S A s.heap H locs → ∀ (ls : Array Slot), lv_has ls 9 [(0, .ref (ad v0)), (1, .int v1), (2, .int v2), (3, .long v3), (5, .int v5)] → W p l e rm_Ma_markGone s m args below meth c H locs 0 0 (MQ below (xQ0 D cB cI cJ cZ cS cP A ad x.1 (some (.inl x.2))) args s 0 0 A) (F0 m 37 ls [])) ∧ (∀ (u : CS) (v0 : Nat) (v1 : Int32) (v2 : Int32) (v3 : Int64) (v5 : Int32) (v6 : Int64) (v8 : Int32) (x : CS × Int32), G.2.2 u v0 v1 v2 v3 v5 v6 v8 = some x → ∀ (H : Heap) (locs : List Loc), va_P D cls (wC cB cI cJ cZ cS cP ad u) H → va_D A (wC cB cI cJ cZ cS cP ad u) → va_S A s.heap H locs → ∀ (ls : Array Slot), lv_has ls 9 [(0, .ref (ad v0)), (1, .int v1), (2, .int v2), (3, .long v3), (5, .int v5), (6, .long v6), (8, .int v8)] → W p l e rm_Ma_markGone s m args below meth c H locs 0 0 (MQ below (xQ0 D cB cI cJ cZ cS cP A ad x.1 (some (.inl x.2))) args s 0 0 A) (F0 m 66 ls []))) : ∀ (u : CS) (v0 : Nat) (v1 : Int32) (v2 : Int32) (v3 : Int64) (v5 : Int32) (x : CS × Int32), fb_Ma_markGone_169 N G u v0 v1 v2 v3 v5 = some x → ∀ (H : Heap) (locs : List Loc), va_P D cls (wC cB cI cJ cZ cS cP ad u) H → va_D A (wC cB cI cJ cZ cS cP ad u) → va_S A s.heap H locs → ∀ (ls : Array Slot), lv_has ls 9 [(0, .ref (ad v0)), (1, .int v1), (2, .int v2), (3, .long v3), (5, .int v5)] → W p l e rm_Ma_markGone s m args below meth c H locs 0 0 (MQ below (xQ0 D cB cI cJ cZ cS cP A ad x.1 (some (.inl x.2))) args s 0 0 A) (F0 m 169 ls []) := by
  intro u v0 v1 v2 v3 v5 x hf H locs hP hD hS ls hl
  obtain ⟨hx, hb, hr, hml, ht, hown, hK, hA, hlocks, hA0, hO, hbs⟩ := id C0
  unfold fb_Ma_markGone_169 at hf
  refine lv_aload_n hx hb d_Ma_markGone_169 rfl (lv_at hl 0 rfl) ?_
  obtain ⟨r1, g1, hf⟩ := bo_some hf
  refine xg_R (i := v0) (k := 3) hx hb ht hown ck_Ma hK hP (by decide) fk_Ma_23 g1 d_Ma_markGone_170 ?_
  obtain ⟨j2, ej2, hf⟩ := bo_some hf
  rw [ej2]
  obtain ⟨r3, g3, hf⟩ := bo_some hf
  refine xg_R (i := j2) (k := 2) hx hb ht hown ck_Pr hK hP (by decide) fk_Ma_195 g3 d_Ma_markGone_173 ?_
  refine lv_lload_n hx hb d_Ma_markGone_176 rfl (lv_at hl 3 rfl) ?_
  refine lv_l2i hx hb d_Ma_markGone_177 rfl ?_
  refine lv_iconst (v := 1) hx hb d_Ma_markGone_178 (by decide) ?_
  refine lv_iadd hx hb d_Ma_markGone_179 ?_
  obtain ⟨j4, ej4, hf⟩ := bo_some hf
  rw [ej4]
  obtain ⟨r5, g5, hf⟩ := bo_some hf
  refine xl_J (i := j4) hx hb hK hP g5 d_Ma_markGone_180 ?_
  refine lv_lstore_n (lv' := [(3, .long r5), (0, .ref (ad v0)), (1, .int v1), (2, .int v2), (5, .int v5)]) hx hb d_Ma_markGone_181 rfl hl (by decide) (by first | rfl | simp [List.filter, cat_rf]) (fun ls hl => ?_)
  refine lv_iinc (v := (v5 + 1)) (lv' := [(5, .int (v5 + 1)), (3, .long r5), (0, .ref (ad v0)), (1, .int v1), (2, .int v2)]) hx hb d_Ma_markGone_182 hl (k := 4) rfl rfl (by decide) (by first | rfl | simp [List.filter, cat_rf]) (fun ls hl => ?_)
  refine lv_goto (tgt := 37) hx hb d_Ma_markGone_185 (by decide) ?_
  exact hG.2.1 _ _ _ _ _ _ _ hf H locs hP hD hS ls (lv_sub hl [2, 3, 4, 1, 0] rfl)
def fb_Ma_markGone_148 (N : Nat) (G : (CS → Nat → Int32 → Int32 → Option (CS × Int32)) × (CS → Nat → Int32 → Int32 → Int64 → Int32 → Option (CS × Int32)) × (CS → Nat → Int32 → Int32 → Int64 → Int32 → Int64 → Int32 → Option (CS × Int32))) (u : CS) (v0 : Nat) (v1 : Int32) (v2 : Int32) (v3 : Int64) (v5 : Int32) (v6 : Int64) (v8 : Int32) : Option (CS × Int32) := bo (gR u v0 5 3) (fun r6 => bo r6 (fun j7 => bo (gR u j7 7 2) (fun r8 => bo r8 (fun j9 => bo (aJ u j9 (v6.toInt32 + 1)) (fun r10 => G.2.2 u (v0) (v1) (v2) (v3) (v5) (r10) ((v8 + 1)))))))
set_option maxRecDepth 100000 in
set_option maxHeartbeats 4000000 in
theorem wb_Ma_markGone_148 {p : Program} {l : Launch} {e : Env} {s : State} {m : MethodId} {args : Array Value} {below : List Frame} {meth : Method} {c : Code} {s0 : State} {b0 : Nat} {D : va_G} {cB cI cJ cZ cS cP : ClassId} {A : Nat → Prop} {sk sv : Nat → Nat} {ad : Nat → Nat} (C0 : XCx p s s0 b0 m args meth c R_Ma b_Ma_markGone 9 (some .int) D cB cI cJ cZ cS cP A) (hE : ENV s0 b0 sk sv) (N : Nat) (G : (CS → Nat → Int32 → Int32 → Option (CS × Int32)) × (CS → Nat → Int32 → Int32 → Int64 → Int32 → Option (CS × Int32)) × (CS → Nat → Int32 → Int32 → Int64 → Int32 → Int64 → Int32 → Option (CS × Int32))) (hG : (∀ (u : CS) (v0 : Nat) (v1 : Int32) (v2 : Int32) (x : CS × Int32), G.1 u v0 v1 v2 = some x → ∀ (H : Heap) (locs : List Loc), va_P D cls (wC cB cI cJ cZ cS cP ad u) H → va_D A (wC cB cI cJ cZ cS cP ad u) → va_S A s.heap H locs → ∀ (ls : Array Slot), lv_has ls 9 [(0, .ref (ad v0)), (1, .int v1), (2, .int v2)] → W p l e rm_Ma_markGone s m args below meth c H locs 0 0 (MQ below (xQ0 D cB cI cJ cZ cS cP A ad x.1 (some (.inl x.2))) args s 0 0 A) (F0 m 2 ls [])) ∧ (∀ (u : CS) (v0 : Nat) (v1 : Int32) (v2 : Int32) (v3 : Int64) (v5 : Int32) (x : CS × Int32), G.2.1 u v0 v1 v2 v3 v5 = some x → ∀ (H : Heap) (locs : List Loc), va_P D cls (wC cB cI cJ cZ cS cP ad u) H → va_D A (wC cB cI cJ cZ cS cP ad u) → va_S A s.heap H locs → ∀ (ls : Array Slot), lv_has ls 9 [(0, .ref (ad v0)), (1, .int v1), (2, .int v2), (3, .long v3), (5, .int v5)] → W p l e rm_Ma_markGone s m args below meth c H locs 0 0 (MQ below (xQ0 D cB cI cJ cZ cS cP A ad x.1 (some (.inl x.2))) args s 0 0 A) (F0 m 37 ls [])) ∧ (∀ (u : CS) (v0 : Nat) (v1 : Int32) (v2 : Int32) (v3 : Int64) (v5 : Int32) (v6 : Int64) (v8 : Int32) (x : CS × Int32), G.2.2 u v0 v1 v2 v3 v5 v6 v8 = some x → ∀ (H : Heap) (locs : List Loc), va_P D cls (wC cB cI cJ cZ cS cP ad u) H → va_D A (wC cB cI cJ cZ cS cP ad u) → va_S A s.heap H locs → ∀ (ls : Array Slot), lv_has ls 9 [(0, .ref (ad v0)), (1, .int v1), (2, .int v2), (3, .long v3), (5, .int v5), (6, .long v6), (8, .int v8)] → W p l e rm_Ma_markGone s m args below meth c H locs 0 0 (MQ below (xQ0 D cB cI cJ cZ cS cP A ad x.1 (some (.inl x.2))) args s 0 0 A) (F0 m 66 ls []))) : ∀ (u : CS) (v0 : Nat) (v1 : Int32) (v2 : Int32) (v3 : Int64) (v5 : Int32) (v6 : Int64) (v8 : Int32) (x : CS × Int32), fb_Ma_markGone_148 N G u v0 v1 v2 v3 v5 v6 v8 = some x → ∀ (H : Heap) (locs : List Loc), va_P D cls (wC cB cI cJ cZ cS cP ad u) H → va_D A (wC cB cI cJ cZ cS cP ad u) → va_S A s.heap H locs → ∀ (ls : Array Slot), lv_has ls 9 [(0, .ref (ad v0)), (1, .int v1), (2, .int v2), (3, .long v3), (5, .int v5), (6, .long v6), (8, .int v8)] → W p l e rm_Ma_markGone s m args below meth c H locs 0 0 (MQ below (xQ0 D cB cI cJ cZ cS cP A ad x.1 (some (.inl x.2))) args s 0 0 A) (F0 m 148 ls []) := by
  intro u v0 v1 v2 v3 v5 v6 v8 x hf H locs hP hD hS ls hl
  obtain ⟨hx, hb, hr, hml, ht, hown, hK, hA, hlocks, hA0, hO, hbs⟩ := id C0
  unfold fb_Ma_markGone_148 at hf
  refine lv_aload_n hx hb d_Ma_markGone_148 rfl (lv_at hl 0 rfl) ?_
  obtain ⟨r6, g6, hf⟩ := bo_some hf
  refine xg_R (i := v0) (k := 3) hx hb ht hown ck_Ma hK hP (by decide) fk_Ma_23 g6 d_Ma_markGone_149 ?_
  obtain ⟨j7, ej7, hf⟩ := bo_some hf
  rw [ej7]
  obtain ⟨r8, g8, hf⟩ := bo_some hf
  refine xg_R (i := j7) (k := 2) hx hb ht hown ck_Pr hK hP (by decide) fk_Ma_195 g8 d_Ma_markGone_152 ?_
  refine lv_lload hx hb d_Ma_markGone_155 (lv_at hl 5 rfl) ?_
  refine lv_l2i hx hb d_Ma_markGone_157 rfl ?_
  refine lv_iconst (v := 1) hx hb d_Ma_markGone_158 (by decide) ?_
  refine lv_iadd hx hb d_Ma_markGone_159 ?_
  obtain ⟨j9, ej9, hf⟩ := bo_some hf
  rw [ej9]
  obtain ⟨r10, g10, hf⟩ := bo_some hf
  refine xl_J (i := j9) hx hb hK hP g10 d_Ma_markGone_160 ?_
  refine lv_lstore (lv' := [(6, .long r10), (0, .ref (ad v0)), (1, .int v1), (2, .int v2), (3, .long v3), (5, .int v5), (8, .int v8)]) hx hb d_Ma_markGone_161 hl (by decide) (by first | rfl | simp [List.filter, cat_rf]) (fun ls hl => ?_)
  refine lv_iinc (v := (v8 + 1)) (lv' := [(8, .int (v8 + 1)), (6, .long r10), (0, .ref (ad v0)), (1, .int v1), (2, .int v2), (3, .long v3), (5, .int v5)]) hx hb d_Ma_markGone_163 hl (k := 6) rfl rfl (by decide) (by first | rfl | simp [List.filter, cat_rf]) (fun ls hl => ?_)
  refine lv_goto (tgt := 66) hx hb d_Ma_markGone_166 (by decide) ?_
  exact hG.2.2 _ _ _ _ _ _ _ _ _ hf H locs hP hD hS ls (lv_sub hl [2, 3, 4, 5, 6, 1, 0] rfl)
def fb_Ma_markGone_66 (N : Nat) (G : (CS → Nat → Int32 → Int32 → Option (CS × Int32)) × (CS → Nat → Int32 → Int32 → Int64 → Int32 → Option (CS × Int32)) × (CS → Nat → Int32 → Int32 → Int64 → Int32 → Int64 → Int32 → Option (CS × Int32))) (u : CS) (v0 : Nat) (v1 : Int32) (v2 : Int32) (v3 : Int64) (v5 : Int32) (v6 : Int64) (v8 : Int32) : Option (CS × Int32) := br (decide (v1 ≤ v8)) (fb_Ma_markGone_169 N G u (v0) (v1) (v2) (v3) (v5)) (bo (gR u v0 5 2) (fun r11 => bo r11 (fun j12 => bo (gR u j12 8 0) (fun r13 => bo r13 (fun j14 => bo (aJ u j14 v8) (fun r15 => br (decide ((lg_cmp r15 0) = 0)) (bo (gR u v0 5 2) (fun r16 => bo (gR u v0 5 3) (fun r17 => bo r17 (fun j18 => bo (gR u j18 7 2) (fun r19 => bo (gR u v0 5 3) (fun r20 => bo r20 (fun j21 => bo (gR u j21 7 2) (fun r22 => bo r22 (fun j23 => bo (aJ u j23 (v6.toInt32)) (fun r24 => bo (gR u v0 5 3) (fun r25 => bo r25 (fun j26 => bo (gR u j26 7 2) (fun r27 => bo r27 (fun j28 => bo (aJ u j28 (v3.toInt32)) (fun r29 => bo r16 (fun j31 => ck (isO u j31 8) (bx (fm_Te_order N u j31 r19 r24 r29) (fun u30 r30 => br (decide (r30 = 0)) (bo (gR u30 v0 5 2) (fun r32 => bo r32 (fun j33 => bo (gR u30 j33 8 0) (fun r34 => bo r34 (fun j35 => bo (sJ u30 j35 v8 1) (fun w36 => lt (if v2 < (v8 + 1) then (v8 + 1) else v2) (fun y37 => fb_Ma_markGone_169 N G w36 (v0) (v1) (y37) (v3) (v5)))))))) (fb_Ma_markGone_148 N G u30 (v0) (v1) (v2) (v3) (v5) (v6) (v8)))))))))))))))))))) (fb_Ma_markGone_148 N G u (v0) (v1) (v2) (v3) (v5) (v6) (v8))))))))
set_option maxRecDepth 100000 in
set_option maxHeartbeats 4000000 in
theorem wb_Ma_markGone_66 {p : Program} {l : Launch} {e : Env} {s : State} {m : MethodId} {args : Array Value} {below : List Frame} {meth : Method} {c : Code} {s0 : State} {b0 : Nat} {D : va_G} {cB cI cJ cZ cS cP : ClassId} {A : Nat → Prop} {sk sv : Nat → Nat} {ad : Nat → Nat} (C0 : XCx p s s0 b0 m args meth c R_Ma b_Ma_markGone 9 (some .int) D cB cI cJ cZ cS cP A) (hE : ENV s0 b0 sk sv) (N : Nat) (G : (CS → Nat → Int32 → Int32 → Option (CS × Int32)) × (CS → Nat → Int32 → Int32 → Int64 → Int32 → Option (CS × Int32)) × (CS → Nat → Int32 → Int32 → Int64 → Int32 → Int64 → Int32 → Option (CS × Int32))) (hG : (∀ (u : CS) (v0 : Nat) (v1 : Int32) (v2 : Int32) (x : CS × Int32), G.1 u v0 v1 v2 = some x → ∀ (H : Heap) (locs : List Loc), va_P D cls (wC cB cI cJ cZ cS cP ad u) H → va_D A (wC cB cI cJ cZ cS cP ad u) → va_S A s.heap H locs → ∀ (ls : Array Slot), lv_has ls 9 [(0, .ref (ad v0)), (1, .int v1), (2, .int v2)] → W p l e rm_Ma_markGone s m args below meth c H locs 0 0 (MQ below (xQ0 D cB cI cJ cZ cS cP A ad x.1 (some (.inl x.2))) args s 0 0 A) (F0 m 2 ls [])) ∧ (∀ (u : CS) (v0 : Nat) (v1 : Int32) (v2 : Int32) (v3 : Int64) (v5 : Int32) (x : CS × Int32), G.2.1 u v0 v1 v2 v3 v5 = some x → ∀ (H : Heap) (locs : List Loc), va_P D cls (wC cB cI cJ cZ cS cP ad u) H → va_D A (wC cB cI cJ cZ cS cP ad u) → va_S A s.heap H locs → ∀ (ls : Array Slot), lv_has ls 9 [(0, .ref (ad v0)), (1, .int v1), (2, .int v2), (3, .long v3), (5, .int v5)] → W p l e rm_Ma_markGone s m args below meth c H locs 0 0 (MQ below (xQ0 D cB cI cJ cZ cS cP A ad x.1 (some (.inl x.2))) args s 0 0 A) (F0 m 37 ls [])) ∧ (∀ (u : CS) (v0 : Nat) (v1 : Int32) (v2 : Int32) (v3 : Int64) (v5 : Int32) (v6 : Int64) (v8 : Int32) (x : CS × Int32), G.2.2 u v0 v1 v2 v3 v5 v6 v8 = some x → ∀ (H : Heap) (locs : List Loc), va_P D cls (wC cB cI cJ cZ cS cP ad u) H → va_D A (wC cB cI cJ cZ cS cP ad u) → va_S A s.heap H locs → ∀ (ls : Array Slot), lv_has ls 9 [(0, .ref (ad v0)), (1, .int v1), (2, .int v2), (3, .long v3), (5, .int v5), (6, .long v6), (8, .int v8)] → W p l e rm_Ma_markGone s m args below meth c H locs 0 0 (MQ below (xQ0 D cB cI cJ cZ cS cP A ad x.1 (some (.inl x.2))) args s 0 0 A) (F0 m 66 ls []))) : ∀ (u : CS) (v0 : Nat) (v1 : Int32) (v2 : Int32) (v3 : Int64) (v5 : Int32) (v6 : Int64) (v8 : Int32) (x : CS × Int32), fb_Ma_markGone_66 N G u v0 v1 v2 v3 v5 v6 v8 = some x → ∀ (H : Heap) (locs : List Loc), va_P D cls (wC cB cI cJ cZ cS cP ad u) H → va_D A (wC cB cI cJ cZ cS cP ad u) → va_S A s.heap H locs → ∀ (ls : Array Slot), lv_has ls 9 [(0, .ref (ad v0)), (1, .int v1), (2, .int v2), (3, .long v3), (5, .int v5), (6, .long v6), (8, .int v8)] → W p l e rm_Ma_markGone s m args below meth c H locs 0 0 (MQ below (xQ0 D cB cI cJ cZ cS cP A ad x.1 (some (.inl x.2))) args s 0 0 A) (F0 m 66 ls []) := by
  intro u v0 v1 v2 v3 v5 v6 v8 x hf H locs hP hD hS ls hl
  obtain ⟨hx, hb, hr, hml, ht, hown, hK, hA, hlocks, hA0, hO, hbs⟩ := id C0
  unfold fb_Ma_markGone_66 at hf
  refine lv_iload hx hb d_Ma_markGone_66 (lv_at hl 6 rfl) ?_
  refine lv_iload_n hx hb d_Ma_markGone_68 rfl (lv_at hl 1 rfl) ?_
  refine lv_icmp_ge (tgt := 169) hx hb d_Ma_markGone_69 (by decide) (fun hc => ?_) (fun hc => ?_)
  · rw [br_p _ hc] at hf
    exact wb_Ma_markGone_169 C0 hE N G hG _ _ _ _ _ _ _ hf H locs hP hD hS ls (lv_sub hl [0, 1, 2, 3, 4] rfl)
  · rw [br_n _ hc] at hf
    refine lv_aload_n hx hb d_Ma_markGone_72 rfl (lv_at hl 0 rfl) ?_
    obtain ⟨r11, g11, hf⟩ := bo_some hf
    refine xg_R (i := v0) (k := 2) hx hb ht hown ck_Ma hK hP (by decide) fk_Ma_19 g11 d_Ma_markGone_73 ?_
    obtain ⟨j12, ej12, hf⟩ := bo_some hf
    rw [ej12]
    obtain ⟨r13, g13, hf⟩ := bo_some hf
    refine xg_R (i := j12) (k := 0) hx hb ht hown ck_Te hK hP (by decide) fk_Ma_267 g13 d_Ma_markGone_76 ?_
    refine lv_iload hx hb d_Ma_markGone_79 (lv_at hl 6 rfl) ?_
    obtain ⟨j14, ej14, hf⟩ := bo_some hf
    rw [ej14]
    obtain ⟨r15, g15, hf⟩ := bo_some hf
    refine xl_J (i := j14) hx hb hK hP g15 d_Ma_markGone_81 ?_
    refine lv_lconst (v := 0) hx hb d_Ma_markGone_82 (by decide) ?_
    refine W.lcmp hx hb d_Ma_markGone_83 ?_
    refine lv_if_ne (tgt := 148) hx hb d_Ma_markGone_84 (by decide) (fun hc => ?_) (fun hc => ?_)
    · rw [br_n _ hc] at hf
      exact wb_Ma_markGone_148 C0 hE N G hG _ _ _ _ _ _ _ _ _ hf H locs hP hD hS ls (lv_sub hl [0, 1, 2, 3, 4, 5, 6] rfl)
    · rw [br_p _ hc] at hf
      refine lv_aload_n hx hb d_Ma_markGone_87 rfl (lv_at hl 0 rfl) ?_
      obtain ⟨r16, g16, hf⟩ := bo_some hf
      refine xg_R (i := v0) (k := 2) hx hb ht hown ck_Ma hK hP (by decide) fk_Ma_19 g16 d_Ma_markGone_88 ?_
      refine lv_aload_n hx hb d_Ma_markGone_91 rfl (lv_at hl 0 rfl) ?_
      obtain ⟨r17, g17, hf⟩ := bo_some hf
      refine xg_R (i := v0) (k := 3) hx hb ht hown ck_Ma hK hP (by decide) fk_Ma_23 g17 d_Ma_markGone_92 ?_
      obtain ⟨j18, ej18, hf⟩ := bo_some hf
      rw [ej18]
      obtain ⟨r19, g19, hf⟩ := bo_some hf
      refine xg_R (i := j18) (k := 2) hx hb ht hown ck_Pr hK hP (by decide) fk_Ma_195 g19 d_Ma_markGone_95 ?_
      refine lv_aload_n hx hb d_Ma_markGone_98 rfl (lv_at hl 0 rfl) ?_
      obtain ⟨r20, g20, hf⟩ := bo_some hf
      refine xg_R (i := v0) (k := 3) hx hb ht hown ck_Ma hK hP (by decide) fk_Ma_23 g20 d_Ma_markGone_99 ?_
      obtain ⟨j21, ej21, hf⟩ := bo_some hf
      rw [ej21]
      obtain ⟨r22, g22, hf⟩ := bo_some hf
      refine xg_R (i := j21) (k := 2) hx hb ht hown ck_Pr hK hP (by decide) fk_Ma_195 g22 d_Ma_markGone_102 ?_
      refine lv_lload hx hb d_Ma_markGone_105 (lv_at hl 5 rfl) ?_
      refine lv_l2i hx hb d_Ma_markGone_107 rfl ?_
      obtain ⟨j23, ej23, hf⟩ := bo_some hf
      rw [ej23]
      obtain ⟨r24, g24, hf⟩ := bo_some hf
      refine xl_J (i := j23) hx hb hK hP g24 d_Ma_markGone_108 ?_
      refine lv_aload_n hx hb d_Ma_markGone_109 rfl (lv_at hl 0 rfl) ?_
      obtain ⟨r25, g25, hf⟩ := bo_some hf
      refine xg_R (i := v0) (k := 3) hx hb ht hown ck_Ma hK hP (by decide) fk_Ma_23 g25 d_Ma_markGone_110 ?_
      obtain ⟨j26, ej26, hf⟩ := bo_some hf
      rw [ej26]
      obtain ⟨r27, g27, hf⟩ := bo_some hf
      refine xg_R (i := j26) (k := 2) hx hb ht hown ck_Pr hK hP (by decide) fk_Ma_195 g27 d_Ma_markGone_113 ?_
      refine lv_lload_n hx hb d_Ma_markGone_116 rfl (lv_at hl 3 rfl) ?_
      refine lv_l2i hx hb d_Ma_markGone_117 rfl ?_
      obtain ⟨j28, ej28, hf⟩ := bo_some hf
      rw [ej28]
      obtain ⟨r29, g29, hf⟩ := bo_some hf
      refine xl_J (i := j28) hx hb hK hP g29 d_Ma_markGone_118 ?_
      obtain ⟨j31, ej31, hf⟩ := bo_some hf
      rw [ej31]
      obtain ⟨hO9, hf⟩ := ck_some hf
      obtain ⟨u30, r30, hc30, hf⟩ := bx_some hf
      refine xV0 (i := j31) (As := [va_rf (Option.map ad r19), .long r24, .long r29]) (rest := []) C0 hP hD hS ck_Te hO9 (c_Te_order N hE hc30) k_Te_order (wd_of 1889 (by decide +kernel) rfl) hi_Te_order hs_Te_order hini_Te rfl rfl hd_Te_order rfl rm_Ma_markGone_Te_order hl.1 (Nat.le_of_ble_eq_true rfl) d_Ma_markGone_119 rfl ⟨Nat.zero_le _, Nat.zero_le _⟩ (fun H locs hP hD hS => ?_)
      refine lv_if_ne (tgt := 148) hx hb d_Ma_markGone_122 (by decide) (fun hc => ?_) (fun hc => ?_)
      · rw [br_n _ hc] at hf
        exact wb_Ma_markGone_148 C0 hE N G hG _ _ _ _ _ _ _ _ _ hf H locs hP hD hS ls (lv_sub hl [0, 1, 2, 3, 4, 5, 6] rfl)
      · rw [br_p _ hc] at hf
        refine lv_aload_n hx hb d_Ma_markGone_125 rfl (lv_at hl 0 rfl) ?_
        obtain ⟨r32, g32, hf⟩ := bo_some hf
        refine xg_R (i := v0) (k := 2) hx hb ht hown ck_Ma hK hP (by decide) fk_Ma_19 g32 d_Ma_markGone_126 ?_
        obtain ⟨j33, ej33, hf⟩ := bo_some hf
        rw [ej33]
        obtain ⟨r34, g34, hf⟩ := bo_some hf
        refine xg_R (i := j33) (k := 0) hx hb ht hown ck_Te hK hP (by decide) fk_Ma_267 g34 d_Ma_markGone_129 ?_
        refine lv_iload hx hb d_Ma_markGone_132 (lv_at hl 6 rfl) ?_
        refine lv_lconst (v := 1) hx hb d_Ma_markGone_134 (by decide) ?_
        obtain ⟨j35, ej35, hf⟩ := bo_some hf
        rw [ej35]
        obtain ⟨w36, g36, hf⟩ := bo_some hf
        refine xs_J (i := j35) hx hb hK hP hD hS g36 d_Ma_markGone_135 (fun H locs hP hD hS => ?_)
        refine lv_iload_n hx hb d_Ma_markGone_136 rfl (lv_at hl 2 rfl) ?_
        refine lv_iload hx hb d_Ma_markGone_137 (lv_at hl 6 rfl) ?_
        refine lv_iconst (v := 1) hx hb d_Ma_markGone_139 (by decide) ?_
        refine lv_iadd hx hb d_Ma_markGone_140 ?_
        refine va_mmax hx hb (hml.trans hl.1.symm) hown (ht _ (wd_of 1950 (by decide +kernel) rfl)) (ht _ (wd_of 1184 (by decide +kernel) rfl)) (ht _ (wd_of 281 (by decide +kernel) rfl)) (ht _ (wd_of 1185 (by decide +kernel) rfl)) (Nat.le_of_ble_eq_true rfl) (Nat.le_of_ble_eq_true rfl) (Nat.zero_le _) (Nat.zero_le _) d_Ma_markGone_141 ?_
        obtain ⟨y37, e37, hf⟩ := lt_some hf
        rw [← e37]
        refine lv_istore_n (lv' := [(2, .int y37), (0, .ref (ad v0)), (1, .int v1), (3, .long v3), (5, .int v5), (6, .long v6), (8, .int v8)]) hx hb d_Ma_markGone_144 rfl hl (by decide) (by first | rfl | simp [List.filter, cat_rf]) (fun ls hl => ?_)
        refine lv_goto (tgt := 169) hx hb d_Ma_markGone_145 (by decide) ?_
        exact wb_Ma_markGone_169 C0 hE N G hG _ _ _ _ _ _ _ hf H locs hP hD hS ls (lv_sub hl [1, 2, 0, 3, 4] rfl)
def fb_Ma_markGone_37 (N : Nat) (G : (CS → Nat → Int32 → Int32 → Option (CS × Int32)) × (CS → Nat → Int32 → Int32 → Int64 → Int32 → Option (CS × Int32)) × (CS → Nat → Int32 → Int32 → Int64 → Int32 → Int64 → Int32 → Option (CS × Int32))) (u : CS) (v0 : Nat) (v1 : Int32) (v2 : Int32) (v3 : Int64) (v5 : Int32) : Option (CS × Int32) := br (decide (1000000000 ≤ v5)) (fb_Ma_markGone_188 N G u (v2)) (bx (fm_Te_tag N u v3) (fun u38 r38 => br (decide (r38 = 7)) (bo (gR u38 v0 5 4) (fun r39 => bo r39 (fun j41 => ck (isO u38 j41 4) (bx (fm_Fr_below N u38 j41 1) (fun u40 r40 => G.2.2 u40 (v0) (v1) (v2) (v3) (v5) (r40) (0)))))) (fb_Ma_markGone_188 N G u38 (v2))))
set_option maxRecDepth 100000 in
set_option maxHeartbeats 4000000 in
theorem wb_Ma_markGone_37 {p : Program} {l : Launch} {e : Env} {s : State} {m : MethodId} {args : Array Value} {below : List Frame} {meth : Method} {c : Code} {s0 : State} {b0 : Nat} {D : va_G} {cB cI cJ cZ cS cP : ClassId} {A : Nat → Prop} {sk sv : Nat → Nat} {ad : Nat → Nat} (C0 : XCx p s s0 b0 m args meth c R_Ma b_Ma_markGone 9 (some .int) D cB cI cJ cZ cS cP A) (hE : ENV s0 b0 sk sv) (N : Nat) (G : (CS → Nat → Int32 → Int32 → Option (CS × Int32)) × (CS → Nat → Int32 → Int32 → Int64 → Int32 → Option (CS × Int32)) × (CS → Nat → Int32 → Int32 → Int64 → Int32 → Int64 → Int32 → Option (CS × Int32))) (hG : (∀ (u : CS) (v0 : Nat) (v1 : Int32) (v2 : Int32) (x : CS × Int32), G.1 u v0 v1 v2 = some x → ∀ (H : Heap) (locs : List Loc), va_P D cls (wC cB cI cJ cZ cS cP ad u) H → va_D A (wC cB cI cJ cZ cS cP ad u) → va_S A s.heap H locs → ∀ (ls : Array Slot), lv_has ls 9 [(0, .ref (ad v0)), (1, .int v1), (2, .int v2)] → W p l e rm_Ma_markGone s m args below meth c H locs 0 0 (MQ below (xQ0 D cB cI cJ cZ cS cP A ad x.1 (some (.inl x.2))) args s 0 0 A) (F0 m 2 ls [])) ∧ (∀ (u : CS) (v0 : Nat) (v1 : Int32) (v2 : Int32) (v3 : Int64) (v5 : Int32) (x : CS × Int32), G.2.1 u v0 v1 v2 v3 v5 = some x → ∀ (H : Heap) (locs : List Loc), va_P D cls (wC cB cI cJ cZ cS cP ad u) H → va_D A (wC cB cI cJ cZ cS cP ad u) → va_S A s.heap H locs → ∀ (ls : Array Slot), lv_has ls 9 [(0, .ref (ad v0)), (1, .int v1), (2, .int v2), (3, .long v3), (5, .int v5)] → W p l e rm_Ma_markGone s m args below meth c H locs 0 0 (MQ below (xQ0 D cB cI cJ cZ cS cP A ad x.1 (some (.inl x.2))) args s 0 0 A) (F0 m 37 ls [])) ∧ (∀ (u : CS) (v0 : Nat) (v1 : Int32) (v2 : Int32) (v3 : Int64) (v5 : Int32) (v6 : Int64) (v8 : Int32) (x : CS × Int32), G.2.2 u v0 v1 v2 v3 v5 v6 v8 = some x → ∀ (H : Heap) (locs : List Loc), va_P D cls (wC cB cI cJ cZ cS cP ad u) H → va_D A (wC cB cI cJ cZ cS cP ad u) → va_S A s.heap H locs → ∀ (ls : Array Slot), lv_has ls 9 [(0, .ref (ad v0)), (1, .int v1), (2, .int v2), (3, .long v3), (5, .int v5), (6, .long v6), (8, .int v8)] → W p l e rm_Ma_markGone s m args below meth c H locs 0 0 (MQ below (xQ0 D cB cI cJ cZ cS cP A ad x.1 (some (.inl x.2))) args s 0 0 A) (F0 m 66 ls []))) : ∀ (u : CS) (v0 : Nat) (v1 : Int32) (v2 : Int32) (v3 : Int64) (v5 : Int32) (x : CS × Int32), fb_Ma_markGone_37 N G u v0 v1 v2 v3 v5 = some x → ∀ (H : Heap) (locs : List Loc), va_P D cls (wC cB cI cJ cZ cS cP ad u) H → va_D A (wC cB cI cJ cZ cS cP ad u) → va_S A s.heap H locs → ∀ (ls : Array Slot), lv_has ls 9 [(0, .ref (ad v0)), (1, .int v1), (2, .int v2), (3, .long v3), (5, .int v5)] → W p l e rm_Ma_markGone s m args below meth c H locs 0 0 (MQ below (xQ0 D cB cI cJ cZ cS cP A ad x.1 (some (.inl x.2))) args s 0 0 A) (F0 m 37 ls []) := by
  intro u v0 v1 v2 v3 v5 x hf H locs hP hD hS ls hl
  obtain ⟨hx, hb, hr, hml, ht, hown, hK, hA, hlocks, hA0, hO, hbs⟩ := id C0
  unfold fb_Ma_markGone_37 at hf
  refine lv_iload hx hb d_Ma_markGone_37 (lv_at hl 4 rfl) ?_
  refine lv_ldc (v := 1000000000) hx hb hown (ht _ (wd_of 1643 (by decide +kernel) rfl)) d_Ma_markGone_39 ?_
  refine lv_icmp_ge (tgt := 188) hx hb d_Ma_markGone_41 (by decide) (fun hc => ?_) (fun hc => ?_)
  · rw [br_p _ hc] at hf
    exact wb_Ma_markGone_188 C0 hE N G hG _ _ _ hf H locs hP hD hS ls (lv_sub hl [2] rfl)
  · rw [br_n _ hc] at hf
    refine lv_lload_n hx hb d_Ma_markGone_44 rfl (lv_at hl 3 rfl) ?_
    obtain ⟨u38, r38, hc38, hf⟩ := bx_some hf
    refine xS0 (As := [.long v3]) (rest := []) C0 hP hD hS (c_Te_tag N hc38) k_Te_tag (wd_of 1657 (by decide +kernel) rfl) ht_Te_tag hini_Te rfl rfl hd_Te_tag rfl rm_Ma_markGone_Te_tag hl.1 (Nat.le_of_ble_eq_true rfl) d_Ma_markGone_45 rfl ⟨Nat.zero_le _, Nat.zero_le _⟩ (fun H locs hP hD hS => ?_)
    refine lv_bipush (v := 7) hx hb d_Ma_markGone_48 (by decide) ?_
    refine lv_icmp_ne (tgt := 188) hx hb d_Ma_markGone_50 (by decide) (fun hc => ?_) (fun hc => ?_)
    · rw [br_n _ hc] at hf
      exact wb_Ma_markGone_188 C0 hE N G hG _ _ _ hf H locs hP hD hS ls (lv_sub hl [2] rfl)
    · rw [br_p _ hc] at hf
      refine lv_aload_n hx hb d_Ma_markGone_53 rfl (lv_at hl 0 rfl) ?_
      obtain ⟨r39, g39, hf⟩ := bo_some hf
      refine xg_R (i := v0) (k := 4) hx hb ht hown ck_Ma hK hP (by decide) fk_Ma_33 g39 d_Ma_markGone_54 ?_
      refine lv_iconst (v := 1) hx hb d_Ma_markGone_57 (by decide) ?_
      obtain ⟨j41, ej41, hf⟩ := bo_some hf
      rw [ej41]
      obtain ⟨hO9, hf⟩ := ck_some hf
      obtain ⟨u40, r40, hc40, hf⟩ := bx_some hf
      refine xV0 (i := j41) (As := [.int 1]) (rest := []) C0 hP hD hS ck_Fr hO9 (c_Fr_below N hc40) k_Fr_below (wd_of 1653 (by decide +kernel) rfl) hi_Fr_below hs_Fr_below hini_Fr rfl rfl hd_Fr_below rfl rm_Ma_markGone_Fr_below hl.1 (Nat.le_of_ble_eq_true rfl) d_Ma_markGone_58 rfl ⟨Nat.zero_le _, Nat.zero_le _⟩ (fun H locs hP hD hS => ?_)
      refine lv_lstore (lv' := [(6, .long r40), (0, .ref (ad v0)), (1, .int v1), (2, .int v2), (3, .long v3), (5, .int v5)]) hx hb d_Ma_markGone_61 hl (by decide) (by first | rfl | simp [List.filter, cat_rf]) (fun ls hl => ?_)
      refine lv_iconst (v := 0) hx hb d_Ma_markGone_63 (by decide) ?_
      refine lv_istore (lv' := [(8, .int 0), (6, .long r40), (0, .ref (ad v0)), (1, .int v1), (2, .int v2), (3, .long v3), (5, .int v5)]) hx hb d_Ma_markGone_64 hl (by decide) (by first | rfl | simp [List.filter, cat_rf]) (fun ls hl => ?_)
      exact hG.2.2 _ _ _ _ _ _ _ _ _ hf H locs hP hD hS ls (lv_sub hl [2, 3, 4, 5, 6, 1, 0] rfl)
def fb_Ma_markGone_2 (N : Nat) (G : (CS → Nat → Int32 → Int32 → Option (CS × Int32)) × (CS → Nat → Int32 → Int32 → Int64 → Int32 → Option (CS × Int32)) × (CS → Nat → Int32 → Int32 → Int64 → Int32 → Int64 → Int32 → Option (CS × Int32))) (u : CS) (v0 : Nat) (v1 : Int32) (v2 : Int32) : Option (CS × Int32) := br (decide (v1 ≤ v2)) (bo (gR u v0 5 4) (fun r42 => bo r42 (fun j44 => ck (isO u j44 4) (bx (fm_Fr_below N u j44 0) (fun u43 r43 => G.2.1 u43 (v0) (v1) (0) (r43) (0)))))) (bo (gR u v0 5 2) (fun r45 => bo r45 (fun j46 => bo (gR u j46 8 0) (fun r47 => bo r47 (fun j48 => bo (sJ u j48 v2 0) (fun w49 => G.1 w49 (v0) (v1) ((v2 + 1))))))))
set_option maxRecDepth 100000 in
set_option maxHeartbeats 4000000 in
theorem wb_Ma_markGone_2 {p : Program} {l : Launch} {e : Env} {s : State} {m : MethodId} {args : Array Value} {below : List Frame} {meth : Method} {c : Code} {s0 : State} {b0 : Nat} {D : va_G} {cB cI cJ cZ cS cP : ClassId} {A : Nat → Prop} {sk sv : Nat → Nat} {ad : Nat → Nat} (C0 : XCx p s s0 b0 m args meth c R_Ma b_Ma_markGone 9 (some .int) D cB cI cJ cZ cS cP A) (hE : ENV s0 b0 sk sv) (N : Nat) (G : (CS → Nat → Int32 → Int32 → Option (CS × Int32)) × (CS → Nat → Int32 → Int32 → Int64 → Int32 → Option (CS × Int32)) × (CS → Nat → Int32 → Int32 → Int64 → Int32 → Int64 → Int32 → Option (CS × Int32))) (hG : (∀ (u : CS) (v0 : Nat) (v1 : Int32) (v2 : Int32) (x : CS × Int32), G.1 u v0 v1 v2 = some x → ∀ (H : Heap) (locs : List Loc), va_P D cls (wC cB cI cJ cZ cS cP ad u) H → va_D A (wC cB cI cJ cZ cS cP ad u) → va_S A s.heap H locs → ∀ (ls : Array Slot), lv_has ls 9 [(0, .ref (ad v0)), (1, .int v1), (2, .int v2)] → W p l e rm_Ma_markGone s m args below meth c H locs 0 0 (MQ below (xQ0 D cB cI cJ cZ cS cP A ad x.1 (some (.inl x.2))) args s 0 0 A) (F0 m 2 ls [])) ∧ (∀ (u : CS) (v0 : Nat) (v1 : Int32) (v2 : Int32) (v3 : Int64) (v5 : Int32) (x : CS × Int32), G.2.1 u v0 v1 v2 v3 v5 = some x → ∀ (H : Heap) (locs : List Loc), va_P D cls (wC cB cI cJ cZ cS cP ad u) H → va_D A (wC cB cI cJ cZ cS cP ad u) → va_S A s.heap H locs → ∀ (ls : Array Slot), lv_has ls 9 [(0, .ref (ad v0)), (1, .int v1), (2, .int v2), (3, .long v3), (5, .int v5)] → W p l e rm_Ma_markGone s m args below meth c H locs 0 0 (MQ below (xQ0 D cB cI cJ cZ cS cP A ad x.1 (some (.inl x.2))) args s 0 0 A) (F0 m 37 ls [])) ∧ (∀ (u : CS) (v0 : Nat) (v1 : Int32) (v2 : Int32) (v3 : Int64) (v5 : Int32) (v6 : Int64) (v8 : Int32) (x : CS × Int32), G.2.2 u v0 v1 v2 v3 v5 v6 v8 = some x → ∀ (H : Heap) (locs : List Loc), va_P D cls (wC cB cI cJ cZ cS cP ad u) H → va_D A (wC cB cI cJ cZ cS cP ad u) → va_S A s.heap H locs → ∀ (ls : Array Slot), lv_has ls 9 [(0, .ref (ad v0)), (1, .int v1), (2, .int v2), (3, .long v3), (5, .int v5), (6, .long v6), (8, .int v8)] → W p l e rm_Ma_markGone s m args below meth c H locs 0 0 (MQ below (xQ0 D cB cI cJ cZ cS cP A ad x.1 (some (.inl x.2))) args s 0 0 A) (F0 m 66 ls []))) : ∀ (u : CS) (v0 : Nat) (v1 : Int32) (v2 : Int32) (x : CS × Int32), fb_Ma_markGone_2 N G u v0 v1 v2 = some x → ∀ (H : Heap) (locs : List Loc), va_P D cls (wC cB cI cJ cZ cS cP ad u) H → va_D A (wC cB cI cJ cZ cS cP ad u) → va_S A s.heap H locs → ∀ (ls : Array Slot), lv_has ls 9 [(0, .ref (ad v0)), (1, .int v1), (2, .int v2)] → W p l e rm_Ma_markGone s m args below meth c H locs 0 0 (MQ below (xQ0 D cB cI cJ cZ cS cP A ad x.1 (some (.inl x.2))) args s 0 0 A) (F0 m 2 ls []) := by
  intro u v0 v1 v2 x hf H locs hP hD hS ls hl
  obtain ⟨hx, hb, hr, hml, ht, hown, hK, hA, hlocks, hA0, hO, hbs⟩ := id C0
  unfold fb_Ma_markGone_2 at hf
  refine lv_iload_n hx hb d_Ma_markGone_2 rfl (lv_at hl 2 rfl) ?_
  refine lv_iload_n hx hb d_Ma_markGone_3 rfl (lv_at hl 1 rfl) ?_
  refine lv_icmp_ge (tgt := 23) hx hb d_Ma_markGone_4 (by decide) (fun hc => ?_) (fun hc => ?_)
  · rw [br_p _ hc] at hf
    refine lv_iconst (v := 0) hx hb d_Ma_markGone_23 (by decide) ?_
    refine lv_istore_n (lv' := [(2, .int 0), (0, .ref (ad v0)), (1, .int v1)]) hx hb d_Ma_markGone_24 rfl hl (by decide) (by first | rfl | simp [List.filter, cat_rf]) (fun ls hl => ?_)
    refine lv_aload_n hx hb d_Ma_markGone_25 rfl (lv_at hl 1 rfl) ?_
    obtain ⟨r42, g42, hf⟩ := bo_some hf
    refine xg_R (i := v0) (k := 4) hx hb ht hown ck_Ma hK hP (by decide) fk_Ma_33 g42 d_Ma_markGone_26 ?_
    refine lv_iconst (v := 0) hx hb d_Ma_markGone_29 (by decide) ?_
    obtain ⟨j44, ej44, hf⟩ := bo_some hf
    rw [ej44]
    obtain ⟨hO9, hf⟩ := ck_some hf
    obtain ⟨u43, r43, hc43, hf⟩ := bx_some hf
    refine xV0 (i := j44) (As := [.int 0]) (rest := []) C0 hP hD hS ck_Fr hO9 (c_Fr_below N hc43) k_Fr_below (wd_of 1653 (by decide +kernel) rfl) hi_Fr_below hs_Fr_below hini_Fr rfl rfl hd_Fr_below rfl rm_Ma_markGone_Fr_below hl.1 (Nat.le_of_ble_eq_true rfl) d_Ma_markGone_30 rfl ⟨Nat.zero_le _, Nat.zero_le _⟩ (fun H locs hP hD hS => ?_)
    refine lv_lstore_n (lv' := [(3, .long r43), (2, .int 0), (0, .ref (ad v0)), (1, .int v1)]) hx hb d_Ma_markGone_33 rfl hl (by decide) (by first | rfl | simp [List.filter, cat_rf]) (fun ls hl => ?_)
    refine lv_iconst (v := 0) hx hb d_Ma_markGone_34 (by decide) ?_
    refine lv_istore (lv' := [(5, .int 0), (3, .long r43), (2, .int 0), (0, .ref (ad v0)), (1, .int v1)]) hx hb d_Ma_markGone_35 hl (by decide) (by first | rfl | simp [List.filter, cat_rf]) (fun ls hl => ?_)
    exact hG.2.1 _ _ _ _ _ _ _ hf H locs hP hD hS ls (lv_sub hl [3, 4, 2, 1, 0] rfl)
  · rw [br_n _ hc] at hf
    refine lv_aload_n hx hb d_Ma_markGone_7 rfl (lv_at hl 0 rfl) ?_
    obtain ⟨r45, g45, hf⟩ := bo_some hf
    refine xg_R (i := v0) (k := 2) hx hb ht hown ck_Ma hK hP (by decide) fk_Ma_19 g45 d_Ma_markGone_8 ?_
    obtain ⟨j46, ej46, hf⟩ := bo_some hf
    rw [ej46]
    obtain ⟨r47, g47, hf⟩ := bo_some hf
    refine xg_R (i := j46) (k := 0) hx hb ht hown ck_Te hK hP (by decide) fk_Ma_267 g47 d_Ma_markGone_11 ?_
    refine lv_iload_n hx hb d_Ma_markGone_14 rfl (lv_at hl 2 rfl) ?_
    refine lv_lconst (v := 0) hx hb d_Ma_markGone_15 (by decide) ?_
    obtain ⟨j48, ej48, hf⟩ := bo_some hf
    rw [ej48]
    obtain ⟨w49, g49, hf⟩ := bo_some hf
    refine xs_J (i := j48) hx hb hK hP hD hS g49 d_Ma_markGone_16 (fun H locs hP hD hS => ?_)
    refine lv_iinc (v := (v2 + 1)) (lv' := [(2, .int (v2 + 1)), (0, .ref (ad v0)), (1, .int v1)]) hx hb d_Ma_markGone_17 hl (k := 2) rfl rfl (by decide) (by first | rfl | simp [List.filter, cat_rf]) (fun ls hl => ?_)
    refine lv_goto (tgt := 2) hx hb d_Ma_markGone_20 (by decide) ?_
    exact hG.1 _ _ _ _ _ hf H locs hP hD hS ls (lv_sub hl [1, 2, 0] rfl)
def fb_Ma_markGone_0 (N : Nat) (G : (CS → Nat → Int32 → Int32 → Option (CS × Int32)) × (CS → Nat → Int32 → Int32 → Int64 → Int32 → Option (CS × Int32)) × (CS → Nat → Int32 → Int32 → Int64 → Int32 → Int64 → Int32 → Option (CS × Int32))) (u : CS) (v0 : Nat) (v1 : Int32) : Option (CS × Int32) := G.1 u (v0) (v1) (0)
set_option maxRecDepth 100000 in
set_option maxHeartbeats 4000000 in
theorem wb_Ma_markGone_0 {p : Program} {l : Launch} {e : Env} {s : State} {m : MethodId} {args : Array Value} {below : List Frame} {meth : Method} {c : Code} {s0 : State} {b0 : Nat} {D : va_G} {cB cI cJ cZ cS cP : ClassId} {A : Nat → Prop} {sk sv : Nat → Nat} {ad : Nat → Nat} (C0 : XCx p s s0 b0 m args meth c R_Ma b_Ma_markGone 9 (some .int) D cB cI cJ cZ cS cP A) (hE : ENV s0 b0 sk sv) (N : Nat) (G : (CS → Nat → Int32 → Int32 → Option (CS × Int32)) × (CS → Nat → Int32 → Int32 → Int64 → Int32 → Option (CS × Int32)) × (CS → Nat → Int32 → Int32 → Int64 → Int32 → Int64 → Int32 → Option (CS × Int32))) (hG : (∀ (u : CS) (v0 : Nat) (v1 : Int32) (v2 : Int32) (x : CS × Int32), G.1 u v0 v1 v2 = some x → ∀ (H : Heap) (locs : List Loc), va_P D cls (wC cB cI cJ cZ cS cP ad u) H → va_D A (wC cB cI cJ cZ cS cP ad u) → va_S A s.heap H locs → ∀ (ls : Array Slot), lv_has ls 9 [(0, .ref (ad v0)), (1, .int v1), (2, .int v2)] → W p l e rm_Ma_markGone s m args below meth c H locs 0 0 (MQ below (xQ0 D cB cI cJ cZ cS cP A ad x.1 (some (.inl x.2))) args s 0 0 A) (F0 m 2 ls [])) ∧ (∀ (u : CS) (v0 : Nat) (v1 : Int32) (v2 : Int32) (v3 : Int64) (v5 : Int32) (x : CS × Int32), G.2.1 u v0 v1 v2 v3 v5 = some x → ∀ (H : Heap) (locs : List Loc), va_P D cls (wC cB cI cJ cZ cS cP ad u) H → va_D A (wC cB cI cJ cZ cS cP ad u) → va_S A s.heap H locs → ∀ (ls : Array Slot), lv_has ls 9 [(0, .ref (ad v0)), (1, .int v1), (2, .int v2), (3, .long v3), (5, .int v5)] → W p l e rm_Ma_markGone s m args below meth c H locs 0 0 (MQ below (xQ0 D cB cI cJ cZ cS cP A ad x.1 (some (.inl x.2))) args s 0 0 A) (F0 m 37 ls [])) ∧ (∀ (u : CS) (v0 : Nat) (v1 : Int32) (v2 : Int32) (v3 : Int64) (v5 : Int32) (v6 : Int64) (v8 : Int32) (x : CS × Int32), G.2.2 u v0 v1 v2 v3 v5 v6 v8 = some x → ∀ (H : Heap) (locs : List Loc), va_P D cls (wC cB cI cJ cZ cS cP ad u) H → va_D A (wC cB cI cJ cZ cS cP ad u) → va_S A s.heap H locs → ∀ (ls : Array Slot), lv_has ls 9 [(0, .ref (ad v0)), (1, .int v1), (2, .int v2), (3, .long v3), (5, .int v5), (6, .long v6), (8, .int v8)] → W p l e rm_Ma_markGone s m args below meth c H locs 0 0 (MQ below (xQ0 D cB cI cJ cZ cS cP A ad x.1 (some (.inl x.2))) args s 0 0 A) (F0 m 66 ls []))) : ∀ (u : CS) (v0 : Nat) (v1 : Int32) (x : CS × Int32), fb_Ma_markGone_0 N G u v0 v1 = some x → ∀ (H : Heap) (locs : List Loc), va_P D cls (wC cB cI cJ cZ cS cP ad u) H → va_D A (wC cB cI cJ cZ cS cP ad u) → va_S A s.heap H locs → ∀ (ls : Array Slot), lv_has ls 9 [(0, .ref (ad v0)), (1, .int v1)] → W p l e rm_Ma_markGone s m args below meth c H locs 0 0 (MQ below (xQ0 D cB cI cJ cZ cS cP A ad x.1 (some (.inl x.2))) args s 0 0 A) (F0 m 0 ls []) := by
  intro u v0 v1 x hf H locs hP hD hS ls hl
  obtain ⟨hx, hb, hr, hml, ht, hown, hK, hA, hlocks, hA0, hO, hbs⟩ := id C0
  unfold fb_Ma_markGone_0 at hf
  refine lv_iconst (v := 0) hx hb d_Ma_markGone_0 (by decide) ?_
  refine lv_istore_n (lv' := [(2, .int 0), (0, .ref (ad v0)), (1, .int v1)]) hx hb d_Ma_markGone_1 rfl hl (by decide) (by first | rfl | simp [List.filter, cat_rf]) (fun ls hl => ?_)
  exact hG.1 _ _ _ _ _ hf H locs hP hD hS ls (lv_sub hl [1, 2, 0] rfl)
def gg_Ma_markGone (N : Nat) : Nat → ((CS → Nat → Int32 → Int32 → Option (CS × Int32)) × (CS → Nat → Int32 → Int32 → Int64 → Int32 → Option (CS × Int32)) × (CS → Nat → Int32 → Int32 → Int64 → Int32 → Int64 → Int32 → Option (CS × Int32)))
  | 0 => (fun _ _ _ _ => none, fun _ _ _ _ _ _ => none, fun _ _ _ _ _ _ _ _ => none)
  | n + 1 => (fb_Ma_markGone_2 N (gg_Ma_markGone N n), fb_Ma_markGone_37 N (gg_Ma_markGone N n), fb_Ma_markGone_66 N (gg_Ma_markGone N n))
theorem wg_Ma_markGone {p : Program} {l : Launch} {e : Env} {s : State} {m : MethodId} {args : Array Value} {below : List Frame} {meth : Method} {c : Code} {s0 : State} {b0 : Nat} {D : va_G} {cB cI cJ cZ cS cP : ClassId} {A : Nat → Prop} {sk sv : Nat → Nat} {ad : Nat → Nat} (C0 : XCx p s s0 b0 m args meth c R_Ma b_Ma_markGone 9 (some .int) D cB cI cJ cZ cS cP A) (hE : ENV s0 b0 sk sv) (N : Nat) : ∀ n : Nat, (∀ (u : CS) (v0 : Nat) (v1 : Int32) (v2 : Int32) (x : CS × Int32), (gg_Ma_markGone N n).1 u v0 v1 v2 = some x → ∀ (H : Heap) (locs : List Loc), va_P D cls (wC cB cI cJ cZ cS cP ad u) H → va_D A (wC cB cI cJ cZ cS cP ad u) → va_S A s.heap H locs → ∀ (ls : Array Slot), lv_has ls 9 [(0, .ref (ad v0)), (1, .int v1), (2, .int v2)] → W p l e rm_Ma_markGone s m args below meth c H locs 0 0 (MQ below (xQ0 D cB cI cJ cZ cS cP A ad x.1 (some (.inl x.2))) args s 0 0 A) (F0 m 2 ls [])) ∧ (∀ (u : CS) (v0 : Nat) (v1 : Int32) (v2 : Int32) (v3 : Int64) (v5 : Int32) (x : CS × Int32), (gg_Ma_markGone N n).2.1 u v0 v1 v2 v3 v5 = some x → ∀ (H : Heap) (locs : List Loc), va_P D cls (wC cB cI cJ cZ cS cP ad u) H → va_D A (wC cB cI cJ cZ cS cP ad u) → va_S A s.heap H locs → ∀ (ls : Array Slot), lv_has ls 9 [(0, .ref (ad v0)), (1, .int v1), (2, .int v2), (3, .long v3), (5, .int v5)] → W p l e rm_Ma_markGone s m args below meth c H locs 0 0 (MQ below (xQ0 D cB cI cJ cZ cS cP A ad x.1 (some (.inl x.2))) args s 0 0 A) (F0 m 37 ls [])) ∧ (∀ (u : CS) (v0 : Nat) (v1 : Int32) (v2 : Int32) (v3 : Int64) (v5 : Int32) (v6 : Int64) (v8 : Int32) (x : CS × Int32), (gg_Ma_markGone N n).2.2 u v0 v1 v2 v3 v5 v6 v8 = some x → ∀ (H : Heap) (locs : List Loc), va_P D cls (wC cB cI cJ cZ cS cP ad u) H → va_D A (wC cB cI cJ cZ cS cP ad u) → va_S A s.heap H locs → ∀ (ls : Array Slot), lv_has ls 9 [(0, .ref (ad v0)), (1, .int v1), (2, .int v2), (3, .long v3), (5, .int v5), (6, .long v6), (8, .int v8)] → W p l e rm_Ma_markGone s m args below meth c H locs 0 0 (MQ below (xQ0 D cB cI cJ cZ cS cP A ad x.1 (some (.inl x.2))) args s 0 0 A) (F0 m 66 ls []))
  | 0 => ⟨(fun u v0 v1 v2 x hf => by cases hf), (fun u v0 v1 v2 v3 v5 x hf => by cases hf), (fun u v0 v1 v2 v3 v5 v6 v8 x hf => by cases hf)⟩
  | n + 1 => ⟨wb_Ma_markGone_2 C0 hE N (gg_Ma_markGone N n) (wg_Ma_markGone C0 hE N n), wb_Ma_markGone_37 C0 hE N (gg_Ma_markGone N n) (wg_Ma_markGone C0 hE N n), wb_Ma_markGone_66 C0 hE N (gg_Ma_markGone N n) (wg_Ma_markGone C0 hE N n)⟩
def fm_Ma_markGone (N : Nat) (u : CS) (v0 : Nat) (v1 : Int32) : Option (CS × Int32) := fb_Ma_markGone_0 N (gg_Ma_markGone N N) u v0 v1
set_option maxRecDepth 100000 in
set_option maxHeartbeats 4000000 in
theorem c_Ma_markGone (N : Nat) {l : Launch} {s0 : State} {b0 : Nat} {D : va_G} {cB cI cJ cZ cS cP : ClassId} {sk sv : Nat → Nat} {ad : Nat → Nat} {u : CS} {sz : Nat} {v0 : Nat} {v1 : Int32} {x : CS × Int32} (hE : ENV s0 b0 sk sv) (hf : fm_Ma_markGone N u v0 v1 = some x) : Met l y_Ma_markGone (wd_ws y_Ma_markGone b_Ma_markGone 9 (some .int)) rm_Ma_markGone (xPc s0 b0 D cB cI cJ cZ cS cP ad u sz [.ref (ad v0), .int v1]) (xQ0 D cB cI cJ cZ cS cP (xA cB cI cJ cZ cS cP ad u sz) ad x.1 (some (.inl x.2))) 0 0 (xA cB cI cJ cZ cS cP ad u sz) :=
  xMet (by decide) rfl (Nat.le_of_ble_eq_true rfl) (fun p e s m below meth c ls hsz hnm C0 hP hD hS hl =>
    wb_Ma_markGone_0 C0 hE N (gg_Ma_markGone N N) (wg_Ma_markGone C0 hE N N) u _ _ x hf s.heap [] hP hD hS ls (lv_sub hl [0, 1] rfl))
abbrev b_Ma_without : ByteArray := prog_5_method_28_code
def y_Ma_without : MethodName := ⟨R_Ma, "without", "()V"⟩
def w_Ma_without : List Cond := wd_ws y_Ma_without b_Ma_without 9 none
set_option maxRecDepth 100000 in
theorem k_Ma_without : Cond.code y_Ma_without b_Ma_without 9 none ∈ wd_tbl := wd_of 1945 rfl rfl
theorem d_Ma_without_0 : decode b_Ma_without 0 = .ok (.aload_n 0, 1) := by decide +kernel
theorem d_Ma_without_1 : decode b_Ma_without 1 = .ok (.getfield 19, 3) := by decide +kernel
theorem d_Ma_without_4 : decode b_Ma_without 4 = .ok (.aload_n 0, 1) := by decide +kernel
theorem d_Ma_without_5 : decode b_Ma_without 5 = .ok (.getfield 23, 3) := by decide +kernel
theorem d_Ma_without_8 : decode b_Ma_without 8 = .ok (.getfield 195, 3) := by decide +kernel
theorem d_Ma_without_11 : decode b_Ma_without 11 = .ok (.aload_n 0, 1) := by decide +kernel
theorem d_Ma_without_12 : decode b_Ma_without 12 = .ok (.getfield 33, 3) := by decide +kernel
theorem d_Ma_without_15 : decode b_Ma_without 15 = .ok (.iconst 1, 1) := by decide +kernel
theorem d_Ma_without_16 : decode b_Ma_without 16 = .ok (.invokevirtual 138, 3) := by decide +kernel
theorem d_Ma_without_19 : decode b_Ma_without 19 = .ok (.invokevirtual 261, 3) := by decide +kernel
theorem d_Ma_without_22 : decode b_Ma_without 22 = .ok (.istore_n 1, 1) := by decide +kernel
theorem d_Ma_without_23 : decode b_Ma_without 23 = .ok (.iload_n 1, 1) := by decide +kernel
theorem d_Ma_without_24 : decode b_Ma_without 24 = .ok (.iconst (-1), 1) := by decide +kernel
theorem d_Ma_without_25 : decode b_Ma_without 25 = .ok (.if_icmp .eq 36, 3) := by decide +kernel
theorem d_Ma_without_28 : decode b_Ma_without 28 = .ok (.iload_n 1, 1) := by decide +kernel
theorem d_Ma_without_29 : decode b_Ma_without 29 = .ok (.sipush 2048, 3) := by decide +kernel
theorem d_Ma_without_32 : decode b_Ma_without 32 = .ok (.if_icmp .gt 29, 3) := by decide +kernel
theorem d_Ma_without_35 : decode b_Ma_without 35 = .ok (.aload_n 0, 1) := by decide +kernel
theorem d_Ma_without_36 : decode b_Ma_without 36 = .ok (.getfield 19, 3) := by decide +kernel
theorem d_Ma_without_39 : decode b_Ma_without 39 = .ok (.aload_n 0, 1) := by decide +kernel
theorem d_Ma_without_40 : decode b_Ma_without 40 = .ok (.getfield 23, 3) := by decide +kernel
theorem d_Ma_without_43 : decode b_Ma_without 43 = .ok (.getfield 195, 3) := by decide +kernel
theorem d_Ma_without_46 : decode b_Ma_without 46 = .ok (.aload_n 0, 1) := by decide +kernel
theorem d_Ma_without_47 : decode b_Ma_without 47 = .ok (.getfield 33, 3) := by decide +kernel
theorem d_Ma_without_50 : decode b_Ma_without 50 = .ok (.iconst 0, 1) := by decide +kernel
theorem d_Ma_without_51 : decode b_Ma_without 51 = .ok (.invokevirtual 138, 3) := by decide +kernel
theorem d_Ma_without_54 : decode b_Ma_without 54 = .ok (.invokevirtual 261, 3) := by decide +kernel
theorem d_Ma_without_57 : decode b_Ma_without 57 = .ok (.iconst (-1), 1) := by decide +kernel
theorem d_Ma_without_58 : decode b_Ma_without 58 = .ok (.if_icmp .ne 10, 3) := by decide +kernel
theorem d_Ma_without_61 : decode b_Ma_without 61 = .ok (.aload_n 0, 1) := by decide +kernel
theorem d_Ma_without_62 : decode b_Ma_without 62 = .ok (.bipush 11, 2) := by decide +kernel
theorem d_Ma_without_64 : decode b_Ma_without 64 = .ok (.invokevirtual 249, 3) := by decide +kernel
theorem d_Ma_without_67 : decode b_Ma_without 67 = .ok (.return_, 1) := by decide +kernel
theorem d_Ma_without_68 : decode b_Ma_without 68 = .ok (.aload_n 0, 1) := by decide +kernel
theorem d_Ma_without_69 : decode b_Ma_without 69 = .ok (.iload_n 1, 1) := by decide +kernel
theorem d_Ma_without_70 : decode b_Ma_without 70 = .ok (.invokevirtual 264, 3) := by decide +kernel
theorem d_Ma_without_73 : decode b_Ma_without 73 = .ok (.istore_n 2, 1) := by decide +kernel
theorem d_Ma_without_74 : decode b_Ma_without 74 = .ok (.iconst 0, 1) := by decide +kernel
theorem d_Ma_without_75 : decode b_Ma_without 75 = .ok (.istore_n 3, 1) := by decide +kernel
theorem d_Ma_without_76 : decode b_Ma_without 76 = .ok (.iconst 0, 1) := by decide +kernel
theorem d_Ma_without_77 : decode b_Ma_without 77 = .ok (.istore 4, 2) := by decide +kernel
theorem d_Ma_without_79 : decode b_Ma_without 79 = .ok (.iload 4, 2) := by decide +kernel
theorem d_Ma_without_81 : decode b_Ma_without 81 = .ok (.iload_n 2, 1) := by decide +kernel
theorem d_Ma_without_82 : decode b_Ma_without 82 = .ok (.if_icmp .ge 32, 3) := by decide +kernel
theorem d_Ma_without_85 : decode b_Ma_without 85 = .ok (.iload_n 3, 1) := by decide +kernel
theorem d_Ma_without_86 : decode b_Ma_without 86 = .ok (.aload_n 0, 1) := by decide +kernel
theorem d_Ma_without_87 : decode b_Ma_without 87 = .ok (.getfield 19, 3) := by decide +kernel
theorem d_Ma_without_90 : decode b_Ma_without 90 = .ok (.getfield 267, 3) := by decide +kernel
theorem d_Ma_without_93 : decode b_Ma_without 93 = .ok (.iload 4, 2) := by decide +kernel
theorem d_Ma_without_95 : decode b_Ma_without 95 = .ok (.laload, 1) := by decide +kernel
theorem d_Ma_without_96 : decode b_Ma_without 96 = .ok (.lconst 0, 1) := by decide +kernel
theorem d_Ma_without_97 : decode b_Ma_without 97 = .ok (.lcmp, 1) := by decide +kernel
theorem d_Ma_without_98 : decode b_Ma_without 98 = .ok (.ifCond .ne 7, 3) := by decide +kernel
theorem d_Ma_without_101 : decode b_Ma_without 101 = .ok (.iconst 1, 1) := by decide +kernel
theorem d_Ma_without_102 : decode b_Ma_without 102 = .ok (.goto 4, 3) := by decide +kernel
theorem d_Ma_without_105 : decode b_Ma_without 105 = .ok (.iconst 0, 1) := by decide +kernel
theorem d_Ma_without_106 : decode b_Ma_without 106 = .ok (.iadd, 1) := by decide +kernel
theorem d_Ma_without_107 : decode b_Ma_without 107 = .ok (.istore_n 3, 1) := by decide +kernel
theorem d_Ma_without_108 : decode b_Ma_without 108 = .ok (.iinc 4 1, 3) := by decide +kernel
theorem d_Ma_without_111 : decode b_Ma_without 111 = .ok (.goto (-32), 3) := by decide +kernel
theorem d_Ma_without_114 : decode b_Ma_without 114 = .ok (.aload_n 0, 1) := by decide +kernel
theorem d_Ma_without_115 : decode b_Ma_without 115 = .ok (.iconst 2, 1) := by decide +kernel
theorem d_Ma_without_116 : decode b_Ma_without 116 = .ok (.iload_n 3, 1) := by decide +kernel
theorem d_Ma_without_117 : decode b_Ma_without 117 = .ok (.imul, 1) := by decide +kernel
theorem d_Ma_without_118 : decode b_Ma_without 118 = .ok (.invokevirtual 135, 3) := by decide +kernel
theorem d_Ma_without_121 : decode b_Ma_without 121 = .ok (.ifCond .ne 4, 3) := by decide +kernel
theorem d_Ma_without_124 : decode b_Ma_without 124 = .ok (.return_, 1) := by decide +kernel
theorem d_Ma_without_125 : decode b_Ma_without 125 = .ok (.aload_n 0, 1) := by decide +kernel
theorem d_Ma_without_126 : decode b_Ma_without 126 = .ok (.getfield 23, 3) := by decide +kernel
theorem d_Ma_without_129 : decode b_Ma_without 129 = .ok (.getfield 239, 3) := by decide +kernel
theorem d_Ma_without_132 : decode b_Ma_without 132 = .ok (.istore 4, 2) := by decide +kernel
theorem d_Ma_without_134 : decode b_Ma_without 134 = .ok (.iconst 0, 1) := by decide +kernel
theorem d_Ma_without_135 : decode b_Ma_without 135 = .ok (.istore 5, 2) := by decide +kernel
theorem d_Ma_without_137 : decode b_Ma_without 137 = .ok (.aload_n 0, 1) := by decide +kernel
theorem d_Ma_without_138 : decode b_Ma_without 138 = .ok (.getfield 33, 3) := by decide +kernel
theorem d_Ma_without_141 : decode b_Ma_without 141 = .ok (.iconst 1, 1) := by decide +kernel
theorem d_Ma_without_142 : decode b_Ma_without 142 = .ok (.invokevirtual 138, 3) := by decide +kernel
theorem d_Ma_without_145 : decode b_Ma_without 145 = .ok (.lstore 6, 2) := by decide +kernel
theorem d_Ma_without_147 : decode b_Ma_without 147 = .ok (.iconst 0, 1) := by decide +kernel
theorem d_Ma_without_148 : decode b_Ma_without 148 = .ok (.istore 8, 2) := by decide +kernel
theorem d_Ma_without_150 : decode b_Ma_without 150 = .ok (.iload 8, 2) := by decide +kernel
theorem d_Ma_without_152 : decode b_Ma_without 152 = .ok (.iload_n 2, 1) := by decide +kernel
theorem d_Ma_without_153 : decode b_Ma_without 153 = .ok (.if_icmp .ge 99, 3) := by decide +kernel
theorem d_Ma_without_156 : decode b_Ma_without 156 = .ok (.aload_n 0, 1) := by decide +kernel
theorem d_Ma_without_157 : decode b_Ma_without 157 = .ok (.getfield 19, 3) := by decide +kernel
theorem d_Ma_without_160 : decode b_Ma_without 160 = .ok (.getfield 267, 3) := by decide +kernel
theorem d_Ma_without_163 : decode b_Ma_without 163 = .ok (.iload 8, 2) := by decide +kernel
theorem d_Ma_without_165 : decode b_Ma_without 165 = .ok (.laload, 1) := by decide +kernel
theorem d_Ma_without_166 : decode b_Ma_without 166 = .ok (.lconst 0, 1) := by decide +kernel
theorem d_Ma_without_167 : decode b_Ma_without 167 = .ok (.lcmp, 1) := by decide +kernel
theorem d_Ma_without_168 : decode b_Ma_without 168 = .ok (.ifCond .ne 63, 3) := by decide +kernel
theorem d_Ma_without_171 : decode b_Ma_without 171 = .ok (.aload_n 0, 1) := by decide +kernel
theorem d_Ma_without_172 : decode b_Ma_without 172 = .ok (.getfield 23, 3) := by decide +kernel
theorem d_Ma_without_175 : decode b_Ma_without 175 = .ok (.getfield 195, 3) := by decide +kernel
theorem d_Ma_without_178 : decode b_Ma_without 178 = .ok (.iload 4, 2) := by decide +kernel
theorem d_Ma_without_180 : decode b_Ma_without 180 = .ok (.iconst 2, 1) := by decide +kernel
theorem d_Ma_without_181 : decode b_Ma_without 181 = .ok (.iload 5, 2) := by decide +kernel
theorem d_Ma_without_183 : decode b_Ma_without 183 = .ok (.imul, 1) := by decide +kernel
theorem d_Ma_without_184 : decode b_Ma_without 184 = .ok (.iadd, 1) := by decide +kernel
theorem d_Ma_without_185 : decode b_Ma_without 185 = .ok (.aload_n 0, 1) := by decide +kernel
theorem d_Ma_without_186 : decode b_Ma_without 186 = .ok (.getfield 23, 3) := by decide +kernel
theorem d_Ma_without_189 : decode b_Ma_without 189 = .ok (.getfield 195, 3) := by decide +kernel
theorem d_Ma_without_192 : decode b_Ma_without 192 = .ok (.lload 6, 2) := by decide +kernel
theorem d_Ma_without_194 : decode b_Ma_without 194 = .ok (.l2i, 1) := by decide +kernel
theorem d_Ma_without_195 : decode b_Ma_without 195 = .ok (.laload, 1) := by decide +kernel
theorem d_Ma_without_196 : decode b_Ma_without 196 = .ok (.lastore, 1) := by decide +kernel
theorem d_Ma_without_197 : decode b_Ma_without 197 = .ok (.aload_n 0, 1) := by decide +kernel
theorem d_Ma_without_198 : decode b_Ma_without 198 = .ok (.getfield 23, 3) := by decide +kernel
theorem d_Ma_without_201 : decode b_Ma_without 201 = .ok (.getfield 195, 3) := by decide +kernel
theorem d_Ma_without_204 : decode b_Ma_without 204 = .ok (.iload 4, 2) := by decide +kernel
theorem d_Ma_without_206 : decode b_Ma_without 206 = .ok (.iconst 2, 1) := by decide +kernel
theorem d_Ma_without_207 : decode b_Ma_without 207 = .ok (.iload 5, 2) := by decide +kernel
theorem d_Ma_without_209 : decode b_Ma_without 209 = .ok (.imul, 1) := by decide +kernel
theorem d_Ma_without_210 : decode b_Ma_without 210 = .ok (.iadd, 1) := by decide +kernel
theorem d_Ma_without_211 : decode b_Ma_without 211 = .ok (.iconst 1, 1) := by decide +kernel
theorem d_Ma_without_212 : decode b_Ma_without 212 = .ok (.iadd, 1) := by decide +kernel
theorem d_Ma_without_213 : decode b_Ma_without 213 = .ok (.bipush 7, 2) := by decide +kernel
theorem d_Ma_without_215 : decode b_Ma_without 215 = .ok (.iload 4, 2) := by decide +kernel
theorem d_Ma_without_217 : decode b_Ma_without 217 = .ok (.iconst 2, 1) := by decide +kernel
theorem d_Ma_without_218 : decode b_Ma_without 218 = .ok (.iload 5, 2) := by decide +kernel
theorem d_Ma_without_220 : decode b_Ma_without 220 = .ok (.imul, 1) := by decide +kernel
theorem d_Ma_without_221 : decode b_Ma_without 221 = .ok (.iadd, 1) := by decide +kernel
theorem d_Ma_without_222 : decode b_Ma_without 222 = .ok (.iconst 2, 1) := by decide +kernel
theorem d_Ma_without_223 : decode b_Ma_without 223 = .ok (.iadd, 1) := by decide +kernel
theorem d_Ma_without_224 : decode b_Ma_without 224 = .ok (.invokestatic 101, 3) := by decide +kernel
theorem d_Ma_without_227 : decode b_Ma_without 227 = .ok (.lastore, 1) := by decide +kernel
theorem d_Ma_without_228 : decode b_Ma_without 228 = .ok (.iinc 5 1, 3) := by decide +kernel
theorem d_Ma_without_231 : decode b_Ma_without 231 = .ok (.aload_n 0, 1) := by decide +kernel
theorem d_Ma_without_232 : decode b_Ma_without 232 = .ok (.getfield 23, 3) := by decide +kernel
theorem d_Ma_without_235 : decode b_Ma_without 235 = .ok (.getfield 195, 3) := by decide +kernel
theorem d_Ma_without_238 : decode b_Ma_without 238 = .ok (.lload 6, 2) := by decide +kernel
theorem d_Ma_without_240 : decode b_Ma_without 240 = .ok (.l2i, 1) := by decide +kernel
theorem d_Ma_without_241 : decode b_Ma_without 241 = .ok (.iconst 1, 1) := by decide +kernel
theorem d_Ma_without_242 : decode b_Ma_without 242 = .ok (.iadd, 1) := by decide +kernel
theorem d_Ma_without_243 : decode b_Ma_without 243 = .ok (.laload, 1) := by decide +kernel
theorem d_Ma_without_244 : decode b_Ma_without 244 = .ok (.lstore 6, 2) := by decide +kernel
theorem d_Ma_without_246 : decode b_Ma_without 246 = .ok (.iinc 8 1, 3) := by decide +kernel
theorem d_Ma_without_249 : decode b_Ma_without 249 = .ok (.goto (-99), 3) := by decide +kernel
theorem d_Ma_without_252 : decode b_Ma_without 252 = .ok (.aload_n 0, 1) := by decide +kernel
theorem d_Ma_without_253 : decode b_Ma_without 253 = .ok (.iload 4, 2) := by decide +kernel
theorem d_Ma_without_255 : decode b_Ma_without 255 = .ok (.iload 5, 2) := by decide +kernel
theorem d_Ma_without_257 : decode b_Ma_without 257 = .ok (.lload 6, 2) := by decide +kernel
theorem d_Ma_without_259 : decode b_Ma_without 259 = .ok (.invokevirtual 242, 3) := by decide +kernel
theorem d_Ma_without_262 : decode b_Ma_without 262 = .ok (.aload_n 0, 1) := by decide +kernel
theorem d_Ma_without_263 : decode b_Ma_without 263 = .ok (.iconst 2, 1) := by decide +kernel
theorem d_Ma_without_264 : decode b_Ma_without 264 = .ok (.iload 5, 2) := by decide +kernel
theorem d_Ma_without_266 : decode b_Ma_without 266 = .ok (.ifCond .ne 8, 3) := by decide +kernel
theorem d_Ma_without_269 : decode b_Ma_without 269 = .ok (.lload 6, 2) := by decide +kernel
theorem d_Ma_without_271 : decode b_Ma_without 271 = .ok (.goto 10, 3) := by decide +kernel
theorem d_Ma_without_274 : decode b_Ma_without 274 = .ok (.bipush 7, 2) := by decide +kernel
theorem d_Ma_without_276 : decode b_Ma_without 276 = .ok (.iload 4, 2) := by decide +kernel
theorem d_Ma_without_278 : decode b_Ma_without 278 = .ok (.invokestatic 101, 3) := by decide +kernel
theorem d_Ma_without_281 : decode b_Ma_without 281 = .ok (.invokevirtual 145, 3) := by decide +kernel
theorem d_Ma_without_284 : decode b_Ma_without 284 = .ok (.aload_n 0, 1) := by decide +kernel
theorem d_Ma_without_285 : decode b_Ma_without 285 = .ok (.dup, 1) := by decide +kernel
theorem d_Ma_without_286 : decode b_Ma_without 286 = .ok (.getfield 40, 3) := by decide +kernel
theorem d_Ma_without_289 : decode b_Ma_without 289 = .ok (.iconst 2, 1) := by decide +kernel
theorem d_Ma_without_290 : decode b_Ma_without 290 = .ok (.iadd, 1) := by decide +kernel
theorem d_Ma_without_291 : decode b_Ma_without 291 = .ok (.putfield 40, 3) := by decide +kernel
theorem d_Ma_without_294 : decode b_Ma_without 294 = .ok (.return_, 1) := by decide +kernel
set_option maxRecDepth 100000 in
theorem hl_Ma_without : Cond.methodLink R_Ma 232 y_Ma_without ∈ wd_tbl := wd_of 1942 (by decide +kernel) rfl
set_option maxRecDepth 100000 in
theorem hi_Ma_without : Cond.instanceMethod y_Ma_without ∈ wd_tbl := wd_of 1944 (by decide +kernel) rfl
set_option maxRecDepth 100000 in
theorem hs_Ma_without : Cond.selects R_Ma y_Ma_without y_Ma_without ∈ wd_tbl := wd_of 108 (by decide +kernel) rfl
theorem hd_Ma_without : y_Ma_without.cls = R_Ma ∧ y_Ma_without.cls ≠ "java/lang/invoke/MethodHandle" ∧ y_Ma_without.cls ≠ "java/lang/invoke/VarHandle" ∧ (parseMethodDescriptor y_Ma_without.desc).map (fun d => d.parameters.length) = some 0 := by decide +kernel
def rm_Ma_without (mc ms : Nat) : Room := { frames := 4, cells := mc, slots := ms, locals := 149 }
theorem rm_Ma_without_Fr_below {mc ms : Nat} : (rm_Fr_below).frames + 1 ≤ (rm_Ma_without mc ms).frames ∧ 8 + (3 + 11) + (rm_Fr_below).locals ≤ (rm_Ma_without mc ms).locals := by
  show 0 + 1 ≤ 4 ∧ 8 + (3 + 11) + 0 ≤ 149
  decide
theorem rm_Ma_without_Te_listLength {mc ms : Nat} : (rm_Te_listLength).frames + 1 ≤ (rm_Ma_without mc ms).frames ∧ 8 + (7 + 11) + (rm_Te_listLength).locals ≤ (rm_Ma_without mc ms).locals := by
  show 1 + 1 ≤ 4 ∧ 8 + (7 + 11) + 21 ≤ 149
  decide
theorem rm_Ma_without_Ma_wrong {mc ms : Nat} : (rm_Ma_wrong).frames + 1 ≤ (rm_Ma_without mc ms).frames ∧ 8 + (2 + 11) + (rm_Ma_wrong).locals ≤ (rm_Ma_without mc ms).locals := by
  show 2 + 1 ≤ 4 ∧ 8 + (2 + 11) + 41 ≤ 149
  decide
theorem rm_Ma_without_Ma_markGone {mc ms : Nat} : (rm_Ma_markGone).frames + 1 ≤ (rm_Ma_without mc ms).frames ∧ 8 + (9 + 11) + (rm_Ma_markGone).locals ≤ (rm_Ma_without mc ms).locals := by
  show 3 + 1 ≤ 4 ∧ 8 + (9 + 11) + 121 ≤ 149
  decide
theorem rm_Ma_without_Ma_room {mc ms : Nat} : (rm_Ma_room).frames + 1 ≤ (rm_Ma_without mc ms).frames ∧ 8 + (2 + 11) + (rm_Ma_room).locals ≤ (rm_Ma_without mc ms).locals := by
  show 3 + 1 ≤ 4 ∧ 8 + (2 + 11) + 97 ≤ 149
  decide
theorem rm_Ma_without_Te_make {mc ms : Nat} : (rm_Te_make).frames + 1 ≤ (rm_Ma_without mc ms).frames ∧ 8 + (2 + 11) + (rm_Te_make).locals ≤ (rm_Ma_without mc ms).locals := by
  show 0 + 1 ≤ 4 ∧ 8 + (2 + 11) + 0 ≤ 149
  decide
theorem rm_Ma_without_Ma_endList {mc ms : Nat} : (rm_Ma_endList).frames + 1 ≤ (rm_Ma_without mc ms).frames ∧ 8 + (5 + 11) + (rm_Ma_endList).locals ≤ (rm_Ma_without mc ms).locals := by
  show 0 + 1 ≤ 4 ∧ 8 + (5 + 11) + 0 ≤ 149
  decide
theorem rm_Ma_without_Ma_answer {mc ms : Nat} {mc2 ms2 : Nat} : (rm_Ma_answer mc2 ms2).frames + 1 ≤ (rm_Ma_without mc ms).frames ∧ 8 + (4 + 11) + (rm_Ma_answer mc2 ms2).locals ≤ (rm_Ma_without mc ms).locals := by
  show 3 + 1 ≤ 4 ∧ 8 + (4 + 11) + 104 ≤ 149
  decide
def fb_Ma_without_281 (N : Nat) (G : (CS → Nat → Int32 → Int32 → Int32 → Option (CS × Unit)) × (CS → Nat → Int32 → Int32 → Int32 → Int64 → Int32 → Option (CS × Unit))) (u : CS) (v0 : Nat) (t0 : Nat) (t1 : Int32) (t2 : Int64) : Option (CS × Unit) := ck (isO u t0 5) (ck (List.all [some v0] (okR u.1.1)) (bx (gw u (fm_Ma_answer N u t0 t1 t2)) (fun u1 r1 => gw u1 (bo (gI u1 v0 5 5) (fun r2 => bo (pF u1 v0 5 5 (.inl (r2 + 2))) (fun w3 => some (w3, ())))))))
set_option maxRecDepth 100000 in
set_option maxHeartbeats 4000000 in
theorem wb_Ma_without_281 {p : Program} {l : Launch} {e : Env} {s : State} {m : MethodId} {args : Array Value} {below : List Frame} {meth : Method} {c : Code} {s0 : State} {b0 : Nat} {D : va_G} {cB cI cJ cZ cS cP : ClassId} {A : Nat → Prop} {sk sv : Nat → Nat} {uN uS mc ms : Nat} {ad0 : Nat → Nat} (C0 : XCx p s s0 b0 m args meth c R_Ma b_Ma_without 9 none D cB cI cJ cZ cS cP A) (hE : ENV s0 b0 sk sv) (N : Nat) (G : (CS → Nat → Int32 → Int32 → Int32 → Option (CS × Unit)) × (CS → Nat → Int32 → Int32 → Int32 → Int64 → Int32 → Option (CS × Unit))) (hG : (∀ (u : CS) (v0 : Nat) (v2 : Int32) (v3 : Int32) (v4 : Int32) (x : CS × Unit), G.1 u v0 v2 v3 v4 = some x → (uN + mc = x.1.1.1 ∧ uS + ms = x.1.1.2) → ∀ (ad : Nat → Nat) (ce sl : Nat), AB uN uS ad0 u ad ce sl → ∀ (H : Heap) (locs : List Loc), va_P D cls (wC cB cI cJ cZ cS cP ad u) H → va_D A (wC cB cI cJ cZ cS cP ad u) → va_S A s.heap H locs → ∀ (ls : Array Slot), lv_has ls 9 [(0, .ref (ad v0)), (2, .int v2), (3, .int v3), (4, .int v4)] → W p l e (rm_Ma_without mc ms) s m args below meth c H locs ce sl (MQ below (xQ D cB cI cJ cZ cS cP A ad0 uN x.1 none) args s mc ms A) (F0 m 79 ls [])) ∧ (∀ (u : CS) (v0 : Nat) (v2 : Int32) (v4 : Int32) (v5 : Int32) (v6 : Int64) (v8 : Int32) (x : CS × Unit), G.2 u v0 v2 v4 v5 v6 v8 = some x → (uN + mc = x.1.1.1 ∧ uS + ms = x.1.1.2) → ∀ (ad : Nat → Nat) (ce sl : Nat), AB uN uS ad0 u ad ce sl → ∀ (H : Heap) (locs : List Loc), va_P D cls (wC cB cI cJ cZ cS cP ad u) H → va_D A (wC cB cI cJ cZ cS cP ad u) → va_S A s.heap H locs → ∀ (ls : Array Slot), lv_has ls 9 [(0, .ref (ad v0)), (2, .int v2), (4, .int v4), (5, .int v5), (6, .long v6), (8, .int v8)] → W p l e (rm_Ma_without mc ms) s m args below meth c H locs ce sl (MQ below (xQ D cB cI cJ cZ cS cP A ad0 uN x.1 none) args s mc ms A) (F0 m 150 ls []))) : ∀ (u : CS) (v0 : Nat) (t0 : Nat) (t1 : Int32) (t2 : Int64) (x : CS × Unit), fb_Ma_without_281 N G u v0 t0 t1 t2 = some x → (uN + mc = x.1.1.1 ∧ uS + ms = x.1.1.2) → ∀ (ad : Nat → Nat) (ce sl : Nat), AB uN uS ad0 u ad ce sl → ∀ (H : Heap) (locs : List Loc), va_P D cls (wC cB cI cJ cZ cS cP ad u) H → va_D A (wC cB cI cJ cZ cS cP ad u) → va_S A s.heap H locs → ∀ (ls : Array Slot), lv_has ls 9 [(0, .ref (ad v0))] → W p l e (rm_Ma_without mc ms) s m args below meth c H locs ce sl (MQ below (xQ D cB cI cJ cZ cS cP A ad0 uN x.1 none) args s mc ms A) (F0 m 281 ls [.long t2, .int t1, .ref (ad t0)]) := by
  intro u v0 t0 t1 t2 x hf hm ad ce sl hB H locs hP hD hS ls hl
  obtain ⟨hx, hb, hr, hml, ht, hown, hK, hA, hlocks, hA0, hO, hbs⟩ := id C0
  unfold fb_Ma_without_281 at hf
  obtain ⟨hO9, hf⟩ := ck_some hf
  obtain ⟨hk1, hf⟩ := ck_some hf
  obtain ⟨u1, r1, hc1, hf⟩ := bx_some hf
  obtain ⟨hc1, hq1⟩ := gw_some hc1
  obtain ⟨hf, hw1⟩ := gw_some hf
  refine yV (i := t0) (As := [.int t1, .long t2]) (rest := []) C0 hP hD hS ck_Ma hO9 (c_Ma_answer N hE hc1 (gm hq1)) k_Ma_answer (wd_of 1744 (by decide +kernel) rfl) hi_Ma_answer hs_Ma_answer hini_Ma rfl rfl hd_Ma_answer rfl rm_Ma_without_Ma_answer hl.1 (Nat.le_of_ble_eq_true rfl) d_Ma_without_281 rfl (gm hq1) hB hm hw1 (fun ad1 H locs ce sl hg1 hB hP hD hS => ?_)
  have q1_0 : ad1 v0 = ad v0 := ko_O (k := 0) hk1 rfl hg1
  have hl : lv_has ls 9 [(0, .ref (ad1 v0))] := by simp only [q1_0]; exact hl
  refine lv_aload_n hx hb d_Ma_without_284 rfl (lv_at hl 0 rfl) ?_
  refine lv_dup hx hb d_Ma_without_285 rfl ?_
  obtain ⟨r2, g2, hf⟩ := bo_some hf
  refine xg_I (i := v0) (k := 5) hx hb ht hown ck_Ma hK hP (by decide) fk_Ma_40 g2 d_Ma_without_286 ?_
  refine lv_iconst (v := 2) hx hb d_Ma_without_289 (by decide) ?_
  refine lv_iadd hx hb d_Ma_without_290 ?_
  obtain ⟨w3, g3, hf⟩ := bo_some hf
  refine xp (i := v0) (k := 5) (v := (.inl (r2 + 2))) hx hb ht hown ck_Ma hK hP hD hS (by decide) fk_Ma_40 rfl g3 rfl rfl d_Ma_without_291 (fun H locs hP hD hS => ?_)
  have hB := hB.same (pF_c g3)
  exact yr_v C0 hP hD hS hB hm hf d_Ma_without_294
def fb_Ma_without_231 (N : Nat) (G : (CS → Nat → Int32 → Int32 → Int32 → Option (CS × Unit)) × (CS → Nat → Int32 → Int32 → Int32 → Int64 → Int32 → Option (CS × Unit))) (u : CS) (v0 : Nat) (v2 : Int32) (v4 : Int32) (v5 : Int32) (v6 : Int64) (v8 : Int32) : Option (CS × Unit) := bo (gR u v0 5 3) (fun r4 => bo r4 (fun j5 => bo (gR u j5 7 2) (fun r6 => bo r6 (fun j7 => bo (aJ u j7 (v6.toInt32 + 1)) (fun r8 => G.2 u (v0) (v2) (v4) (v5) (r8) ((v8 + 1)))))))
set_option maxRecDepth 100000 in
set_option maxHeartbeats 4000000 in
theorem wb_Ma_without_231 {p : Program} {l : Launch} {e : Env} {s : State} {m : MethodId} {args : Array Value} {below : List Frame} {meth : Method} {c : Code} {s0 : State} {b0 : Nat} {D : va_G} {cB cI cJ cZ cS cP : ClassId} {A : Nat → Prop} {sk sv : Nat → Nat} {uN uS mc ms : Nat} {ad0 : Nat → Nat} (C0 : XCx p s s0 b0 m args meth c R_Ma b_Ma_without 9 none D cB cI cJ cZ cS cP A) (hE : ENV s0 b0 sk sv) (N : Nat) (G : (CS → Nat → Int32 → Int32 → Int32 → Option (CS × Unit)) × (CS → Nat → Int32 → Int32 → Int32 → Int64 → Int32 → Option (CS × Unit))) (hG : (∀ (u : CS) (v0 : Nat) (v2 : Int32) (v3 : Int32) (v4 : Int32) (x : CS × Unit), G.1 u v0 v2 v3 v4 = some x → (uN + mc = x.1.1.1 ∧ uS + ms = x.1.1.2) → ∀ (ad : Nat → Nat) (ce sl : Nat), AB uN uS ad0 u ad ce sl → ∀ (H : Heap) (locs : List Loc), va_P D cls (wC cB cI cJ cZ cS cP ad u) H → va_D A (wC cB cI cJ cZ cS cP ad u) → va_S A s.heap H locs → ∀ (ls : Array Slot), lv_has ls 9 [(0, .ref (ad v0)), (2, .int v2), (3, .int v3), (4, .int v4)] → W p l e (rm_Ma_without mc ms) s m args below meth c H locs ce sl (MQ below (xQ D cB cI cJ cZ cS cP A ad0 uN x.1 none) args s mc ms A) (F0 m 79 ls [])) ∧ (∀ (u : CS) (v0 : Nat) (v2 : Int32) (v4 : Int32) (v5 : Int32) (v6 : Int64) (v8 : Int32) (x : CS × Unit), G.2 u v0 v2 v4 v5 v6 v8 = some x → (uN + mc = x.1.1.1 ∧ uS + ms = x.1.1.2) → ∀ (ad : Nat → Nat) (ce sl : Nat), AB uN uS ad0 u ad ce sl → ∀ (H : Heap) (locs : List Loc), va_P D cls (wC cB cI cJ cZ cS cP ad u) H → va_D A (wC cB cI cJ cZ cS cP ad u) → va_S A s.heap H locs → ∀ (ls : Array Slot), lv_has ls 9 [(0, .ref (ad v0)), (2, .int v2), (4, .int v4), (5, .int v5), (6, .long v6), (8, .int v8)] → W p l e (rm_Ma_without mc ms) s m args below meth c H locs ce sl (MQ below (xQ D cB cI cJ cZ cS cP A ad0 uN x.1 none) args s mc ms A) (F0 m 150 ls []))) : ∀ (u : CS) (v0 : Nat) (v2 : Int32) (v4 : Int32) (v5 : Int32) (v6 : Int64) (v8 : Int32) (x : CS × Unit), fb_Ma_without_231 N G u v0 v2 v4 v5 v6 v8 = some x → (uN + mc = x.1.1.1 ∧ uS + ms = x.1.1.2) → ∀ (ad : Nat → Nat) (ce sl : Nat), AB uN uS ad0 u ad ce sl → ∀ (H : Heap) (locs : List Loc), va_P D cls (wC cB cI cJ cZ cS cP ad u) H → va_D A (wC cB cI cJ cZ cS cP ad u) → va_S A s.heap H locs → ∀ (ls : Array Slot), lv_has ls 9 [(0, .ref (ad v0)), (2, .int v2), (4, .int v4), (5, .int v5), (6, .long v6), (8, .int v8)] → W p l e (rm_Ma_without mc ms) s m args below meth c H locs ce sl (MQ below (xQ D cB cI cJ cZ cS cP A ad0 uN x.1 none) args s mc ms A) (F0 m 231 ls []) := by
  intro u v0 v2 v4 v5 v6 v8 x hf hm ad ce sl hB H locs hP hD hS ls hl
  obtain ⟨hx, hb, hr, hml, ht, hown, hK, hA, hlocks, hA0, hO, hbs⟩ := id C0
  unfold fb_Ma_without_231 at hf
  refine lv_aload_n hx hb d_Ma_without_231 rfl (lv_at hl 0 rfl) ?_
  obtain ⟨r4, g4, hf⟩ := bo_some hf
  refine xg_R (i := v0) (k := 3) hx hb ht hown ck_Ma hK hP (by decide) fk_Ma_23 g4 d_Ma_without_232 ?_
  obtain ⟨j5, ej5, hf⟩ := bo_some hf
  rw [ej5]
  obtain ⟨r6, g6, hf⟩ := bo_some hf
  refine xg_R (i := j5) (k := 2) hx hb ht hown ck_Pr hK hP (by decide) fk_Ma_195 g6 d_Ma_without_235 ?_
  refine lv_lload hx hb d_Ma_without_238 (lv_at hl 4 rfl) ?_
  refine lv_l2i hx hb d_Ma_without_240 rfl ?_
  refine lv_iconst (v := 1) hx hb d_Ma_without_241 (by decide) ?_
  refine lv_iadd hx hb d_Ma_without_242 ?_
  obtain ⟨j7, ej7, hf⟩ := bo_some hf
  rw [ej7]
  obtain ⟨r8, g8, hf⟩ := bo_some hf
  refine xl_J (i := j7) hx hb hK hP g8 d_Ma_without_243 ?_
  refine lv_lstore (lv' := [(6, .long r8), (0, .ref (ad v0)), (2, .int v2), (4, .int v4), (5, .int v5), (8, .int v8)]) hx hb d_Ma_without_244 hl (by decide) (by first | rfl | simp [List.filter, cat_rf]) (fun ls hl => ?_)
  refine lv_iinc (v := (v8 + 1)) (lv' := [(8, .int (v8 + 1)), (6, .long r8), (0, .ref (ad v0)), (2, .int v2), (4, .int v4), (5, .int v5)]) hx hb d_Ma_without_246 hl (k := 5) rfl rfl (by decide) (by first | rfl | simp [List.filter, cat_rf]) (fun ls hl => ?_)
  refine lv_goto (tgt := 150) hx hb d_Ma_without_249 (by decide) ?_
  exact hG.2 _ _ _ _ _ _ _ _ hf hm _ _ _ hB H locs hP hD hS ls (lv_sub hl [2, 3, 4, 5, 1, 0] rfl)
def fb_Ma_without_150 (N : Nat) (G : (CS → Nat → Int32 → Int32 → Int32 → Option (CS × Unit)) × (CS → Nat → Int32 → Int32 → Int32 → Int64 → Int32 → Option (CS × Unit))) (u : CS) (v0 : Nat) (v2 : Int32) (v4 : Int32) (v5 : Int32) (v6 : Int64) (v8 : Int32) : Option (CS × Unit) := br (decide (v2 ≤ v8)) (ck (isO u v0 5) (bx (gz u (fm_Ma_endList N u v0 v4 v5 v6)) (fun u9 r9 => gw u9 (br (decide (v5 = 0)) (fb_Ma_without_281 N G u9 (v0) (v0) (2) (v6)) (bx (gz u9 (fm_Te_make N u9 7 v4)) (fun u10 r10 => gw u10 (fb_Ma_without_281 N G u10 (v0) (v0) (2) (r10)))))))) (bo (gR u v0 5 2) (fun r11 => bo r11 (fun j12 => bo (gR u j12 8 0) (fun r13 => bo r13 (fun j14 => bo (aJ u j14 v8) (fun r15 => br (decide ((lg_cmp r15 0) = 0)) (bo (gR u v0 5 3) (fun r16 => bo r16 (fun j17 => bo (gR u j17 7 2) (fun r18 => bo (gR u v0 5 3) (fun r19 => bo r19 (fun j20 => bo (gR u j20 7 2) (fun r21 => bo r21 (fun j22 => bo (aJ u j22 (v6.toInt32)) (fun r23 => bo r18 (fun j24 => bo (sJ u j24 (v4 + (2 * v5)) r23) (fun w25 => bo (gR w25 v0 5 3) (fun r26 => bo r26 (fun j27 => bo (gR w25 j27 7 2) (fun r28 => bx (gz w25 (fm_Te_make N w25 7 ((v4 + (2 * v5)) + 2))) (fun u29 r29 => gw u29 (bo r28 (fun j30 => bo (sJ u29 j30 ((v4 + (2 * v5)) + 1) r29) (fun w31 => fb_Ma_without_231 N G w31 (v0) (v2) (v4) ((v5 + 1)) (v6) (v8))))))))))))))))))) (fb_Ma_without_231 N G u (v0) (v2) (v4) (v5) (v6) (v8))))))))
set_option maxRecDepth 100000 in
set_option maxHeartbeats 4000000 in
theorem wb_Ma_without_150 {p : Program} {l : Launch} {e : Env} {s : State} {m : MethodId} {args : Array Value} {below : List Frame} {meth : Method} {c : Code} {s0 : State} {b0 : Nat} {D : va_G} {cB cI cJ cZ cS cP : ClassId} {A : Nat → Prop} {sk sv : Nat → Nat} {uN uS mc ms : Nat} {ad0 : Nat → Nat} (C0 : XCx p s s0 b0 m args meth c R_Ma b_Ma_without 9 none D cB cI cJ cZ cS cP A) (hE : ENV s0 b0 sk sv) (N : Nat) (G : (CS → Nat → Int32 → Int32 → Int32 → Option (CS × Unit)) × (CS → Nat → Int32 → Int32 → Int32 → Int64 → Int32 → Option (CS × Unit))) (hG : (∀ (u : CS) (v0 : Nat) (v2 : Int32) (v3 : Int32) (v4 : Int32) (x : CS × Unit), G.1 u v0 v2 v3 v4 = some x → (uN + mc = x.1.1.1 ∧ uS + ms = x.1.1.2) → ∀ (ad : Nat → Nat) (ce sl : Nat), AB uN uS ad0 u ad ce sl → ∀ (H : Heap) (locs : List Loc), va_P D cls (wC cB cI cJ cZ cS cP ad u) H → va_D A (wC cB cI cJ cZ cS cP ad u) → va_S A s.heap H locs → ∀ (ls : Array Slot), lv_has ls 9 [(0, .ref (ad v0)), (2, .int v2), (3, .int v3), (4, .int v4)] → W p l e (rm_Ma_without mc ms) s m args below meth c H locs ce sl (MQ below (xQ D cB cI cJ cZ cS cP A ad0 uN x.1 none) args s mc ms A) (F0 m 79 ls [])) ∧ (∀ (u : CS) (v0 : Nat) (v2 : Int32) (v4 : Int32) (v5 : Int32) (v6 : Int64) (v8 : Int32) (x : CS × Unit), G.2 u v0 v2 v4 v5 v6 v8 = some x → (uN + mc = x.1.1.1 ∧ uS + ms = x.1.1.2) → ∀ (ad : Nat → Nat) (ce sl : Nat), AB uN uS ad0 u ad ce sl → ∀ (H : Heap) (locs : List Loc), va_P D cls (wC cB cI cJ cZ cS cP ad u) H → va_D A (wC cB cI cJ cZ cS cP ad u) → va_S A s.heap H locs → ∀ (ls : Array Slot), lv_has ls 9 [(0, .ref (ad v0)), (2, .int v2), (4, .int v4), (5, .int v5), (6, .long v6), (8, .int v8)] → W p l e (rm_Ma_without mc ms) s m args below meth c H locs ce sl (MQ below (xQ D cB cI cJ cZ cS cP A ad0 uN x.1 none) args s mc ms A) (F0 m 150 ls []))) : ∀ (u : CS) (v0 : Nat) (v2 : Int32) (v4 : Int32) (v5 : Int32) (v6 : Int64) (v8 : Int32) (x : CS × Unit), fb_Ma_without_150 N G u v0 v2 v4 v5 v6 v8 = some x → (uN + mc = x.1.1.1 ∧ uS + ms = x.1.1.2) → ∀ (ad : Nat → Nat) (ce sl : Nat), AB uN uS ad0 u ad ce sl → ∀ (H : Heap) (locs : List Loc), va_P D cls (wC cB cI cJ cZ cS cP ad u) H → va_D A (wC cB cI cJ cZ cS cP ad u) → va_S A s.heap H locs → ∀ (ls : Array Slot), lv_has ls 9 [(0, .ref (ad v0)), (2, .int v2), (4, .int v4), (5, .int v5), (6, .long v6), (8, .int v8)] → W p l e (rm_Ma_without mc ms) s m args below meth c H locs ce sl (MQ below (xQ D cB cI cJ cZ cS cP A ad0 uN x.1 none) args s mc ms A) (F0 m 150 ls []) := by
  intro u v0 v2 v4 v5 v6 v8 x hf hm ad ce sl hB H locs hP hD hS ls hl
  obtain ⟨hx, hb, hr, hml, ht, hown, hK, hA, hlocks, hA0, hO, hbs⟩ := id C0
  unfold fb_Ma_without_150 at hf
  refine lv_iload hx hb d_Ma_without_150 (lv_at hl 5 rfl) ?_
  refine lv_iload_n hx hb d_Ma_without_152 rfl (lv_at hl 1 rfl) ?_
  refine lv_icmp_ge (tgt := 252) hx hb d_Ma_without_153 (by decide) (fun hc => ?_) (fun hc => ?_)
  · rw [br_p _ hc] at hf
    refine lv_aload_n hx hb d_Ma_without_252 rfl (lv_at hl 0 rfl) ?_
    refine lv_iload hx hb d_Ma_without_253 (lv_at hl 2 rfl) ?_
    refine lv_iload hx hb d_Ma_without_255 (lv_at hl 3 rfl) ?_
    refine lv_lload hx hb d_Ma_without_257 (lv_at hl 4 rfl) ?_
    obtain ⟨hO9, hf⟩ := ck_some hf
    obtain ⟨u9, r9, hc9, hf⟩ := bx_some hf
    obtain ⟨hc9, hz9⟩ := gz_some hc9
    obtain ⟨hf, hw9⟩ := gw_some hf
    refine xV0 (i := v0) (As := [.int v4, .int v5, .long v6]) (rest := []) C0 hP hD hS ck_Ma hO9 (c_Ma_endList N hc9) k_Ma_endList (wd_of 1857 (by decide +kernel) rfl) hi_Ma_endList hs_Ma_endList hini_Ma rfl rfl hd_Ma_endList rfl rm_Ma_without_Ma_endList hl.1 (Nat.le_of_ble_eq_true rfl) d_Ma_without_259 rfl (hB.fit hm hz9 hw9) (fun H locs hP hD hS => ?_)
    have hB := hB.same2 hz9
    refine lv_aload_n hx hb d_Ma_without_262 rfl (lv_at hl 0 rfl) ?_
    refine lv_iconst (v := 2) hx hb d_Ma_without_263 (by decide) ?_
    refine lv_iload hx hb d_Ma_without_264 (lv_at hl 3 rfl) ?_
    refine lv_if_ne (tgt := 274) hx hb d_Ma_without_266 (by decide) (fun hc => ?_) (fun hc => ?_)
    · rw [br_n _ hc] at hf
      refine lv_bipush (v := 7) hx hb d_Ma_without_274 (by decide) ?_
      refine lv_iload hx hb d_Ma_without_276 (lv_at hl 2 rfl) ?_
      obtain ⟨u10, r10, hc10, hf⟩ := bx_some hf
      obtain ⟨hc10, hz10⟩ := gz_some hc10
      obtain ⟨hf, hw10⟩ := gw_some hf
      refine xS0 (As := [.int 7, .int v4]) (rest := [.int 2, .ref (ad v0)]) C0 hP hD hS (c_Te_make N hc10) k_Te_make (wd_of 1671 (by decide +kernel) rfl) ht_Te_make hini_Te rfl rfl hd_Te_make rfl rm_Ma_without_Te_make hl.1 (Nat.le_of_ble_eq_true rfl) d_Ma_without_278 rfl (hB.fit hm hz10 hw10) (fun H locs hP hD hS => ?_)
      have hB := hB.same2 hz10
      exact wb_Ma_without_281 C0 hE N G hG _ _ _ _ _ _ hf hm _ _ _ hB H locs hP hD hS ls (lv_sub hl [0] rfl)
    · rw [br_p _ hc] at hf
      refine lv_lload hx hb d_Ma_without_269 (lv_at hl 4 rfl) ?_
      refine lv_goto (tgt := 281) hx hb d_Ma_without_271 (by decide) ?_
      exact wb_Ma_without_281 C0 hE N G hG _ _ _ _ _ _ hf hm _ _ _ hB H locs hP hD hS ls (lv_sub hl [0] rfl)
  · rw [br_n _ hc] at hf
    refine lv_aload_n hx hb d_Ma_without_156 rfl (lv_at hl 0 rfl) ?_
    obtain ⟨r11, g11, hf⟩ := bo_some hf
    refine xg_R (i := v0) (k := 2) hx hb ht hown ck_Ma hK hP (by decide) fk_Ma_19 g11 d_Ma_without_157 ?_
    obtain ⟨j12, ej12, hf⟩ := bo_some hf
    rw [ej12]
    obtain ⟨r13, g13, hf⟩ := bo_some hf
    refine xg_R (i := j12) (k := 0) hx hb ht hown ck_Te hK hP (by decide) fk_Ma_267 g13 d_Ma_without_160 ?_
    refine lv_iload hx hb d_Ma_without_163 (lv_at hl 5 rfl) ?_
    obtain ⟨j14, ej14, hf⟩ := bo_some hf
    rw [ej14]
    obtain ⟨r15, g15, hf⟩ := bo_some hf
    refine xl_J (i := j14) hx hb hK hP g15 d_Ma_without_165 ?_
    refine lv_lconst (v := 0) hx hb d_Ma_without_166 (by decide) ?_
    refine W.lcmp hx hb d_Ma_without_167 ?_
    refine lv_if_ne (tgt := 231) hx hb d_Ma_without_168 (by decide) (fun hc => ?_) (fun hc => ?_)
    · rw [br_n _ hc] at hf
      exact wb_Ma_without_231 C0 hE N G hG _ _ _ _ _ _ _ _ hf hm _ _ _ hB H locs hP hD hS ls (lv_sub hl [0, 1, 2, 3, 4, 5] rfl)
    · rw [br_p _ hc] at hf
      refine lv_aload_n hx hb d_Ma_without_171 rfl (lv_at hl 0 rfl) ?_
      obtain ⟨r16, g16, hf⟩ := bo_some hf
      refine xg_R (i := v0) (k := 3) hx hb ht hown ck_Ma hK hP (by decide) fk_Ma_23 g16 d_Ma_without_172 ?_
      obtain ⟨j17, ej17, hf⟩ := bo_some hf
      rw [ej17]
      obtain ⟨r18, g18, hf⟩ := bo_some hf
      refine xg_R (i := j17) (k := 2) hx hb ht hown ck_Pr hK hP (by decide) fk_Ma_195 g18 d_Ma_without_175 ?_
      refine lv_iload hx hb d_Ma_without_178 (lv_at hl 2 rfl) ?_
      refine lv_iconst (v := 2) hx hb d_Ma_without_180 (by decide) ?_
      refine lv_iload hx hb d_Ma_without_181 (lv_at hl 3 rfl) ?_
      refine lv_imul hx hb d_Ma_without_183 ?_
      refine lv_iadd hx hb d_Ma_without_184 ?_
      refine lv_aload_n hx hb d_Ma_without_185 rfl (lv_at hl 0 rfl) ?_
      obtain ⟨r19, g19, hf⟩ := bo_some hf
      refine xg_R (i := v0) (k := 3) hx hb ht hown ck_Ma hK hP (by decide) fk_Ma_23 g19 d_Ma_without_186 ?_
      obtain ⟨j20, ej20, hf⟩ := bo_some hf
      rw [ej20]
      obtain ⟨r21, g21, hf⟩ := bo_some hf
      refine xg_R (i := j20) (k := 2) hx hb ht hown ck_Pr hK hP (by decide) fk_Ma_195 g21 d_Ma_without_189 ?_
      refine lv_lload hx hb d_Ma_without_192 (lv_at hl 4 rfl) ?_
      refine lv_l2i hx hb d_Ma_without_194 rfl ?_
      obtain ⟨j22, ej22, hf⟩ := bo_some hf
      rw [ej22]
      obtain ⟨r23, g23, hf⟩ := bo_some hf
      refine xl_J (i := j22) hx hb hK hP g23 d_Ma_without_195 ?_
      obtain ⟨j24, ej24, hf⟩ := bo_some hf
      rw [ej24]
      obtain ⟨w25, g25, hf⟩ := bo_some hf
      refine xs_J (i := j24) hx hb hK hP hD hS g25 d_Ma_without_196 (fun H locs hP hD hS => ?_)
      have hB := hB.same (sJ_c g25)
      refine lv_aload_n hx hb d_Ma_without_197 rfl (lv_at hl 0 rfl) ?_
      obtain ⟨r26, g26, hf⟩ := bo_some hf
      refine xg_R (i := v0) (k := 3) hx hb ht hown ck_Ma hK hP (by decide) fk_Ma_23 g26 d_Ma_without_198 ?_
      obtain ⟨j27, ej27, hf⟩ := bo_some hf
      rw [ej27]
      obtain ⟨r28, g28, hf⟩ := bo_some hf
      refine xg_R (i := j27) (k := 2) hx hb ht hown ck_Pr hK hP (by decide) fk_Ma_195 g28 d_Ma_without_201 ?_
      refine lv_iload hx hb d_Ma_without_204 (lv_at hl 2 rfl) ?_
      refine lv_iconst (v := 2) hx hb d_Ma_without_206 (by decide) ?_
      refine lv_iload hx hb d_Ma_without_207 (lv_at hl 3 rfl) ?_
      refine lv_imul hx hb d_Ma_without_209 ?_
      refine lv_iadd hx hb d_Ma_without_210 ?_
      refine lv_iconst (v := 1) hx hb d_Ma_without_211 (by decide) ?_
      refine lv_iadd hx hb d_Ma_without_212 ?_
      refine lv_bipush (v := 7) hx hb d_Ma_without_213 (by decide) ?_
      refine lv_iload hx hb d_Ma_without_215 (lv_at hl 2 rfl) ?_
      refine lv_iconst (v := 2) hx hb d_Ma_without_217 (by decide) ?_
      refine lv_iload hx hb d_Ma_without_218 (lv_at hl 3 rfl) ?_
      refine lv_imul hx hb d_Ma_without_220 ?_
      refine lv_iadd hx hb d_Ma_without_221 ?_
      refine lv_iconst (v := 2) hx hb d_Ma_without_222 (by decide) ?_
      refine lv_iadd hx hb d_Ma_without_223 ?_
      obtain ⟨u29, r29, hc29, hf⟩ := bx_some hf
      obtain ⟨hc29, hz29⟩ := gz_some hc29
      obtain ⟨hf, hw29⟩ := gw_some hf
      refine xS0 (As := [.int 7, .int ((v4 + (2 * v5)) + 2)]) (rest := [.int ((v4 + (2 * v5)) + 1), va_rf (Option.map ad r28)]) C0 hP hD hS (c_Te_make N hc29) k_Te_make (wd_of 1671 (by decide +kernel) rfl) ht_Te_make hini_Te rfl rfl hd_Te_make rfl rm_Ma_without_Te_make hl.1 (c8 (Nat.le_of_ble_eq_true rfl)) d_Ma_without_224 rfl (hB.fit hm hz29 hw29) (fun H locs hP hD hS => ?_)
      have hB := hB.same2 hz29
      obtain ⟨j30, ej30, hf⟩ := bo_some hf
      rw [ej30]
      obtain ⟨w31, g31, hf⟩ := bo_some hf
      refine xs_J (i := j30) hx hb hK hP hD hS g31 d_Ma_without_227 (fun H locs hP hD hS => ?_)
      have hB := hB.same (sJ_c g31)
      refine lv_iinc (v := (v5 + 1)) (lv' := [(5, .int (v5 + 1)), (0, .ref (ad v0)), (2, .int v2), (4, .int v4), (6, .long v6), (8, .int v8)]) hx hb d_Ma_without_228 hl (k := 3) rfl rfl (by decide) (by first | rfl | simp [List.filter, cat_rf]) (fun ls hl => ?_)
      exact wb_Ma_without_231 C0 hE N G hG _ _ _ _ _ _ _ _ hf hm _ _ _ hB H locs hP hD hS ls (lv_sub hl [1, 2, 3, 0, 4, 5] rfl)
def fb_Ma_without_106 (N : Nat) (G : (CS → Nat → Int32 → Int32 → Int32 → Option (CS × Unit)) × (CS → Nat → Int32 → Int32 → Int32 → Int64 → Int32 → Option (CS × Unit))) (u : CS) (v0 : Nat) (v2 : Int32) (v4 : Int32) (t0 : Int32) (t1 : Int32) : Option (CS × Unit) := G.1 u (v0) (v2) ((t0 + t1)) ((v4 + 1))
set_option maxRecDepth 100000 in
set_option maxHeartbeats 4000000 in
theorem wb_Ma_without_106 {p : Program} {l : Launch} {e : Env} {s : State} {m : MethodId} {args : Array Value} {below : List Frame} {meth : Method} {c : Code} {s0 : State} {b0 : Nat} {D : va_G} {cB cI cJ cZ cS cP : ClassId} {A : Nat → Prop} {sk sv : Nat → Nat} {uN uS mc ms : Nat} {ad0 : Nat → Nat} (C0 : XCx p s s0 b0 m args meth c R_Ma b_Ma_without 9 none D cB cI cJ cZ cS cP A) (hE : ENV s0 b0 sk sv) (N : Nat) (G : (CS → Nat → Int32 → Int32 → Int32 → Option (CS × Unit)) × (CS → Nat → Int32 → Int32 → Int32 → Int64 → Int32 → Option (CS × Unit))) (hG : (∀ (u : CS) (v0 : Nat) (v2 : Int32) (v3 : Int32) (v4 : Int32) (x : CS × Unit), G.1 u v0 v2 v3 v4 = some x → (uN + mc = x.1.1.1 ∧ uS + ms = x.1.1.2) → ∀ (ad : Nat → Nat) (ce sl : Nat), AB uN uS ad0 u ad ce sl → ∀ (H : Heap) (locs : List Loc), va_P D cls (wC cB cI cJ cZ cS cP ad u) H → va_D A (wC cB cI cJ cZ cS cP ad u) → va_S A s.heap H locs → ∀ (ls : Array Slot), lv_has ls 9 [(0, .ref (ad v0)), (2, .int v2), (3, .int v3), (4, .int v4)] → W p l e (rm_Ma_without mc ms) s m args below meth c H locs ce sl (MQ below (xQ D cB cI cJ cZ cS cP A ad0 uN x.1 none) args s mc ms A) (F0 m 79 ls [])) ∧ (∀ (u : CS) (v0 : Nat) (v2 : Int32) (v4 : Int32) (v5 : Int32) (v6 : Int64) (v8 : Int32) (x : CS × Unit), G.2 u v0 v2 v4 v5 v6 v8 = some x → (uN + mc = x.1.1.1 ∧ uS + ms = x.1.1.2) → ∀ (ad : Nat → Nat) (ce sl : Nat), AB uN uS ad0 u ad ce sl → ∀ (H : Heap) (locs : List Loc), va_P D cls (wC cB cI cJ cZ cS cP ad u) H → va_D A (wC cB cI cJ cZ cS cP ad u) → va_S A s.heap H locs → ∀ (ls : Array Slot), lv_has ls 9 [(0, .ref (ad v0)), (2, .int v2), (4, .int v4), (5, .int v5), (6, .long v6), (8, .int v8)] → W p l e (rm_Ma_without mc ms) s m args below meth c H locs ce sl (MQ below (xQ D cB cI cJ cZ cS cP A ad0 uN x.1 none) args s mc ms A) (F0 m 150 ls []))) : ∀ (u : CS) (v0 : Nat) (v2 : Int32) (v4 : Int32) (t0 : Int32) (t1 : Int32) (x : CS × Unit), fb_Ma_without_106 N G u v0 v2 v4 t0 t1 = some x → (uN + mc = x.1.1.1 ∧ uS + ms = x.1.1.2) → ∀ (ad : Nat → Nat) (ce sl : Nat), AB uN uS ad0 u ad ce sl → ∀ (H : Heap) (locs : List Loc), va_P D cls (wC cB cI cJ cZ cS cP ad u) H → va_D A (wC cB cI cJ cZ cS cP ad u) → va_S A s.heap H locs → ∀ (ls : Array Slot), lv_has ls 9 [(0, .ref (ad v0)), (2, .int v2), (4, .int v4)] → W p l e (rm_Ma_without mc ms) s m args below meth c H locs ce sl (MQ below (xQ D cB cI cJ cZ cS cP A ad0 uN x.1 none) args s mc ms A) (F0 m 106 ls [.int t1, .int t0]) := by
  intro u v0 v2 v4 t0 t1 x hf hm ad ce sl hB H locs hP hD hS ls hl
  obtain ⟨hx, hb, hr, hml, ht, hown, hK, hA, hlocks, hA0, hO, hbs⟩ := id C0
  unfold fb_Ma_without_106 at hf
  refine lv_iadd hx hb d_Ma_without_106 ?_
  refine lv_istore_n (lv' := [(3, .int (t0 + t1)), (0, .ref (ad v0)), (2, .int v2), (4, .int v4)]) hx hb d_Ma_without_107 rfl hl (by decide) (by first | rfl | simp [List.filter, cat_rf]) (fun ls hl => ?_)
  refine lv_iinc (v := (v4 + 1)) (lv' := [(4, .int (v4 + 1)), (3, .int (t0 + t1)), (0, .ref (ad v0)), (2, .int v2)]) hx hb d_Ma_without_108 hl (k := 3) rfl rfl (by decide) (by first | rfl | simp [List.filter, cat_rf]) (fun ls hl => ?_)
  refine lv_goto (tgt := 79) hx hb d_Ma_without_111 (by decide) ?_
  exact hG.1 _ _ _ _ _ _ hf hm _ _ _ hB H locs hP hD hS ls (lv_sub hl [2, 3, 1, 0] rfl)
def fb_Ma_without_79 (N : Nat) (G : (CS → Nat → Int32 → Int32 → Int32 → Option (CS × Unit)) × (CS → Nat → Int32 → Int32 → Int32 → Int64 → Int32 → Option (CS × Unit))) (u : CS) (v0 : Nat) (v2 : Int32) (v3 : Int32) (v4 : Int32) : Option (CS × Unit) := br (decide (v2 ≤ v4)) (ck (isO u v0 5) (bx (gz u (fm_Ma_room N u v0 (2 * v3))) (fun u32 r32 => gw u32 (br (decide (r32 = 0)) (some (u32, ())) (bo (gR u32 v0 5 3) (fun r33 => bo r33 (fun j34 => bo (gI u32 j34 7 4) (fun r35 => bo (gR u32 v0 5 4) (fun r36 => bo r36 (fun j38 => ck (isO u32 j38 4) (bx (gz u32 (fm_Fr_below N u32 j38 1)) (fun u37 r37 => gw u37 (G.2 u37 (v0) (v2) (r35) (0) (r37) (0)))))))))))))) (bo (gR u v0 5 2) (fun r39 => bo r39 (fun j40 => bo (gR u j40 8 0) (fun r41 => bo r41 (fun j42 => bo (aJ u j42 v4) (fun r43 => br (decide ((lg_cmp r43 0) = 0)) (fb_Ma_without_106 N G u (v0) (v2) (v4) (v3) (1)) (fb_Ma_without_106 N G u (v0) (v2) (v4) (v3) (0))))))))
set_option maxRecDepth 100000 in
set_option maxHeartbeats 4000000 in
theorem wb_Ma_without_79 {p : Program} {l : Launch} {e : Env} {s : State} {m : MethodId} {args : Array Value} {below : List Frame} {meth : Method} {c : Code} {s0 : State} {b0 : Nat} {D : va_G} {cB cI cJ cZ cS cP : ClassId} {A : Nat → Prop} {sk sv : Nat → Nat} {uN uS mc ms : Nat} {ad0 : Nat → Nat} (C0 : XCx p s s0 b0 m args meth c R_Ma b_Ma_without 9 none D cB cI cJ cZ cS cP A) (hE : ENV s0 b0 sk sv) (N : Nat) (G : (CS → Nat → Int32 → Int32 → Int32 → Option (CS × Unit)) × (CS → Nat → Int32 → Int32 → Int32 → Int64 → Int32 → Option (CS × Unit))) (hG : (∀ (u : CS) (v0 : Nat) (v2 : Int32) (v3 : Int32) (v4 : Int32) (x : CS × Unit), G.1 u v0 v2 v3 v4 = some x → (uN + mc = x.1.1.1 ∧ uS + ms = x.1.1.2) → ∀ (ad : Nat → Nat) (ce sl : Nat), AB uN uS ad0 u ad ce sl → ∀ (H : Heap) (locs : List Loc), va_P D cls (wC cB cI cJ cZ cS cP ad u) H → va_D A (wC cB cI cJ cZ cS cP ad u) → va_S A s.heap H locs → ∀ (ls : Array Slot), lv_has ls 9 [(0, .ref (ad v0)), (2, .int v2), (3, .int v3), (4, .int v4)] → W p l e (rm_Ma_without mc ms) s m args below meth c H locs ce sl (MQ below (xQ D cB cI cJ cZ cS cP A ad0 uN x.1 none) args s mc ms A) (F0 m 79 ls [])) ∧ (∀ (u : CS) (v0 : Nat) (v2 : Int32) (v4 : Int32) (v5 : Int32) (v6 : Int64) (v8 : Int32) (x : CS × Unit), G.2 u v0 v2 v4 v5 v6 v8 = some x → (uN + mc = x.1.1.1 ∧ uS + ms = x.1.1.2) → ∀ (ad : Nat → Nat) (ce sl : Nat), AB uN uS ad0 u ad ce sl → ∀ (H : Heap) (locs : List Loc), va_P D cls (wC cB cI cJ cZ cS cP ad u) H → va_D A (wC cB cI cJ cZ cS cP ad u) → va_S A s.heap H locs → ∀ (ls : Array Slot), lv_has ls 9 [(0, .ref (ad v0)), (2, .int v2), (4, .int v4), (5, .int v5), (6, .long v6), (8, .int v8)] → W p l e (rm_Ma_without mc ms) s m args below meth c H locs ce sl (MQ below (xQ D cB cI cJ cZ cS cP A ad0 uN x.1 none) args s mc ms A) (F0 m 150 ls []))) : ∀ (u : CS) (v0 : Nat) (v2 : Int32) (v3 : Int32) (v4 : Int32) (x : CS × Unit), fb_Ma_without_79 N G u v0 v2 v3 v4 = some x → (uN + mc = x.1.1.1 ∧ uS + ms = x.1.1.2) → ∀ (ad : Nat → Nat) (ce sl : Nat), AB uN uS ad0 u ad ce sl → ∀ (H : Heap) (locs : List Loc), va_P D cls (wC cB cI cJ cZ cS cP ad u) H → va_D A (wC cB cI cJ cZ cS cP ad u) → va_S A s.heap H locs → ∀ (ls : Array Slot), lv_has ls 9 [(0, .ref (ad v0)), (2, .int v2), (3, .int v3), (4, .int v4)] → W p l e (rm_Ma_without mc ms) s m args below meth c H locs ce sl (MQ below (xQ D cB cI cJ cZ cS cP A ad0 uN x.1 none) args s mc ms A) (F0 m 79 ls []) := by
  intro u v0 v2 v3 v4 x hf hm ad ce sl hB H locs hP hD hS ls hl
  obtain ⟨hx, hb, hr, hml, ht, hown, hK, hA, hlocks, hA0, hO, hbs⟩ := id C0
  unfold fb_Ma_without_79 at hf
  refine lv_iload hx hb d_Ma_without_79 (lv_at hl 3 rfl) ?_
  refine lv_iload_n hx hb d_Ma_without_81 rfl (lv_at hl 1 rfl) ?_
  refine lv_icmp_ge (tgt := 114) hx hb d_Ma_without_82 (by decide) (fun hc => ?_) (fun hc => ?_)
  · rw [br_p _ hc] at hf
    refine lv_aload_n hx hb d_Ma_without_114 rfl (lv_at hl 0 rfl) ?_
    refine lv_iconst (v := 2) hx hb d_Ma_without_115 (by decide) ?_
    refine lv_iload_n hx hb d_Ma_without_116 rfl (lv_at hl 2 rfl) ?_
    refine lv_imul hx hb d_Ma_without_117 ?_
    obtain ⟨hO9, hf⟩ := ck_some hf
    obtain ⟨u32, r32, hc32, hf⟩ := bx_some hf
    obtain ⟨hc32, hz32⟩ := gz_some hc32
    obtain ⟨hf, hw32⟩ := gw_some hf
    refine xV0 (i := v0) (As := [.int (2 * v3)]) (rest := []) C0 hP hD hS ck_Ma hO9 (c_Ma_room N hE hc32) k_Ma_room (wd_of 1853 (by decide +kernel) rfl) hi_Ma_room hs_Ma_room hini_Ma rfl rfl hd_Ma_room rfl rm_Ma_without_Ma_room hl.1 (Nat.le_of_ble_eq_true rfl) d_Ma_without_118 rfl (hB.fit hm hz32 hw32) (fun H locs hP hD hS => ?_)
    have hB := hB.same2 hz32
    refine lv_if_ne (tgt := 125) hx hb d_Ma_without_121 (by decide) (fun hc => ?_) (fun hc => ?_)
    · rw [br_n _ hc] at hf
      refine lv_aload_n hx hb d_Ma_without_125 rfl (lv_at hl 0 rfl) ?_
      obtain ⟨r33, g33, hf⟩ := bo_some hf
      refine xg_R (i := v0) (k := 3) hx hb ht hown ck_Ma hK hP (by decide) fk_Ma_23 g33 d_Ma_without_126 ?_
      obtain ⟨j34, ej34, hf⟩ := bo_some hf
      rw [ej34]
      obtain ⟨r35, g35, hf⟩ := bo_some hf
      refine xg_I (i := j34) (k := 4) hx hb ht hown ck_Pr hK hP (by decide) fk_Ma_239 g35 d_Ma_without_129 ?_
      refine lv_istore (lv' := [(4, .int r35), (0, .ref (ad v0)), (2, .int v2), (3, .int v3)]) hx hb d_Ma_without_132 hl (by decide) (by first | rfl | simp [List.filter, cat_rf]) (fun ls hl => ?_)
      refine lv_iconst (v := 0) hx hb d_Ma_without_134 (by decide) ?_
      refine lv_istore (lv' := [(5, .int 0), (4, .int r35), (0, .ref (ad v0)), (2, .int v2), (3, .int v3)]) hx hb d_Ma_without_135 hl (by decide) (by first | rfl | simp [List.filter, cat_rf]) (fun ls hl => ?_)
      refine lv_aload_n hx hb d_Ma_without_137 rfl (lv_at hl 2 rfl) ?_
      obtain ⟨r36, g36, hf⟩ := bo_some hf
      refine xg_R (i := v0) (k := 4) hx hb ht hown ck_Ma hK hP (by decide) fk_Ma_33 g36 d_Ma_without_138 ?_
      refine lv_iconst (v := 1) hx hb d_Ma_without_141 (by decide) ?_
      obtain ⟨j38, ej38, hf⟩ := bo_some hf
      rw [ej38]
      obtain ⟨hO9, hf⟩ := ck_some hf
      obtain ⟨u37, r37, hc37, hf⟩ := bx_some hf
      obtain ⟨hc37, hz37⟩ := gz_some hc37
      obtain ⟨hf, hw37⟩ := gw_some hf
      refine xV0 (i := j38) (As := [.int 1]) (rest := []) C0 hP hD hS ck_Fr hO9 (c_Fr_below N hc37) k_Fr_below (wd_of 1653 (by decide +kernel) rfl) hi_Fr_below hs_Fr_below hini_Fr rfl rfl hd_Fr_below rfl rm_Ma_without_Fr_below hl.1 (Nat.le_of_ble_eq_true rfl) d_Ma_without_142 rfl (hB.fit hm hz37 hw37) (fun H locs hP hD hS => ?_)
      have hB := hB.same2 hz37
      refine lv_lstore (lv' := [(6, .long r37), (5, .int 0), (4, .int r35), (0, .ref (ad v0)), (2, .int v2), (3, .int v3)]) hx hb d_Ma_without_145 hl (by decide) (by first | rfl | simp [List.filter, cat_rf]) (fun ls hl => ?_)
      refine lv_iconst (v := 0) hx hb d_Ma_without_147 (by decide) ?_
      refine lv_istore (lv' := [(8, .int 0), (6, .long r37), (5, .int 0), (4, .int r35), (0, .ref (ad v0)), (2, .int v2), (3, .int v3)]) hx hb d_Ma_without_148 hl (by decide) (by first | rfl | simp [List.filter, cat_rf]) (fun ls hl => ?_)
      exact hG.2 _ _ _ _ _ _ _ _ hf hm _ _ _ hB H locs hP hD hS ls (lv_sub hl [4, 5, 3, 2, 1, 0] rfl)
    · rw [br_p _ hc] at hf
      exact yr_v C0 hP hD hS hB hm hf d_Ma_without_124
  · rw [br_n _ hc] at hf
    refine lv_iload_n hx hb d_Ma_without_85 rfl (lv_at hl 2 rfl) ?_
    refine lv_aload_n hx hb d_Ma_without_86 rfl (lv_at hl 0 rfl) ?_
    obtain ⟨r39, g39, hf⟩ := bo_some hf
    refine xg_R (i := v0) (k := 2) hx hb ht hown ck_Ma hK hP (by decide) fk_Ma_19 g39 d_Ma_without_87 ?_
    obtain ⟨j40, ej40, hf⟩ := bo_some hf
    rw [ej40]
    obtain ⟨r41, g41, hf⟩ := bo_some hf
    refine xg_R (i := j40) (k := 0) hx hb ht hown ck_Te hK hP (by decide) fk_Ma_267 g41 d_Ma_without_90 ?_
    refine lv_iload hx hb d_Ma_without_93 (lv_at hl 3 rfl) ?_
    obtain ⟨j42, ej42, hf⟩ := bo_some hf
    rw [ej42]
    obtain ⟨r43, g43, hf⟩ := bo_some hf
    refine xl_J (i := j42) hx hb hK hP g43 d_Ma_without_95 ?_
    refine lv_lconst (v := 0) hx hb d_Ma_without_96 (by decide) ?_
    refine W.lcmp hx hb d_Ma_without_97 ?_
    refine lv_if_ne (tgt := 105) hx hb d_Ma_without_98 (by decide) (fun hc => ?_) (fun hc => ?_)
    · rw [br_n _ hc] at hf
      refine lv_iconst (v := 0) hx hb d_Ma_without_105 (by decide) ?_
      exact wb_Ma_without_106 C0 hE N G hG _ _ _ _ _ _ _ hf hm _ _ _ hB H locs hP hD hS ls (lv_sub hl [0, 1, 3] rfl)
    · rw [br_p _ hc] at hf
      refine lv_iconst (v := 1) hx hb d_Ma_without_101 (by decide) ?_
      refine lv_goto (tgt := 106) hx hb d_Ma_without_102 (by decide) ?_
      exact wb_Ma_without_106 C0 hE N G hG _ _ _ _ _ _ _ hf hm _ _ _ hB H locs hP hD hS ls (lv_sub hl [0, 1, 3] rfl)
def fb_Ma_without_61 (N : Nat) (G : (CS → Nat → Int32 → Int32 → Int32 → Option (CS × Unit)) × (CS → Nat → Int32 → Int32 → Int32 → Int64 → Int32 → Option (CS × Unit))) (u : CS) (v0 : Nat) : Option (CS × Unit) := ck (isO u v0 5) (bx (gz u (fm_Ma_wrong N u v0 11)) (fun u44 r44 => gw u44 (some (u44, ()))))
set_option maxRecDepth 100000 in
set_option maxHeartbeats 4000000 in
theorem wb_Ma_without_61 {p : Program} {l : Launch} {e : Env} {s : State} {m : MethodId} {args : Array Value} {below : List Frame} {meth : Method} {c : Code} {s0 : State} {b0 : Nat} {D : va_G} {cB cI cJ cZ cS cP : ClassId} {A : Nat → Prop} {sk sv : Nat → Nat} {uN uS mc ms : Nat} {ad0 : Nat → Nat} (C0 : XCx p s s0 b0 m args meth c R_Ma b_Ma_without 9 none D cB cI cJ cZ cS cP A) (hE : ENV s0 b0 sk sv) (N : Nat) (G : (CS → Nat → Int32 → Int32 → Int32 → Option (CS × Unit)) × (CS → Nat → Int32 → Int32 → Int32 → Int64 → Int32 → Option (CS × Unit))) (hG : (∀ (u : CS) (v0 : Nat) (v2 : Int32) (v3 : Int32) (v4 : Int32) (x : CS × Unit), G.1 u v0 v2 v3 v4 = some x → (uN + mc = x.1.1.1 ∧ uS + ms = x.1.1.2) → ∀ (ad : Nat → Nat) (ce sl : Nat), AB uN uS ad0 u ad ce sl → ∀ (H : Heap) (locs : List Loc), va_P D cls (wC cB cI cJ cZ cS cP ad u) H → va_D A (wC cB cI cJ cZ cS cP ad u) → va_S A s.heap H locs → ∀ (ls : Array Slot), lv_has ls 9 [(0, .ref (ad v0)), (2, .int v2), (3, .int v3), (4, .int v4)] → W p l e (rm_Ma_without mc ms) s m args below meth c H locs ce sl (MQ below (xQ D cB cI cJ cZ cS cP A ad0 uN x.1 none) args s mc ms A) (F0 m 79 ls [])) ∧ (∀ (u : CS) (v0 : Nat) (v2 : Int32) (v4 : Int32) (v5 : Int32) (v6 : Int64) (v8 : Int32) (x : CS × Unit), G.2 u v0 v2 v4 v5 v6 v8 = some x → (uN + mc = x.1.1.1 ∧ uS + ms = x.1.1.2) → ∀ (ad : Nat → Nat) (ce sl : Nat), AB uN uS ad0 u ad ce sl → ∀ (H : Heap) (locs : List Loc), va_P D cls (wC cB cI cJ cZ cS cP ad u) H → va_D A (wC cB cI cJ cZ cS cP ad u) → va_S A s.heap H locs → ∀ (ls : Array Slot), lv_has ls 9 [(0, .ref (ad v0)), (2, .int v2), (4, .int v4), (5, .int v5), (6, .long v6), (8, .int v8)] → W p l e (rm_Ma_without mc ms) s m args below meth c H locs ce sl (MQ below (xQ D cB cI cJ cZ cS cP A ad0 uN x.1 none) args s mc ms A) (F0 m 150 ls []))) : ∀ (u : CS) (v0 : Nat) (x : CS × Unit), fb_Ma_without_61 N G u v0 = some x → (uN + mc = x.1.1.1 ∧ uS + ms = x.1.1.2) → ∀ (ad : Nat → Nat) (ce sl : Nat), AB uN uS ad0 u ad ce sl → ∀ (H : Heap) (locs : List Loc), va_P D cls (wC cB cI cJ cZ cS cP ad u) H → va_D A (wC cB cI cJ cZ cS cP ad u) → va_S A s.heap H locs → ∀ (ls : Array Slot), lv_has ls 9 [(0, .ref (ad v0))] → W p l e (rm_Ma_without mc ms) s m args below meth c H locs ce sl (MQ below (xQ D cB cI cJ cZ cS cP A ad0 uN x.1 none) args s mc ms A) (F0 m 61 ls []) := by
  intro u v0 x hf hm ad ce sl hB H locs hP hD hS ls hl
  obtain ⟨hx, hb, hr, hml, ht, hown, hK, hA, hlocks, hA0, hO, hbs⟩ := id C0
  unfold fb_Ma_without_61 at hf
  refine lv_aload_n hx hb d_Ma_without_61 rfl (lv_at hl 0 rfl) ?_
  refine lv_bipush (v := 11) hx hb d_Ma_without_62 (by decide) ?_
  obtain ⟨hO9, hf⟩ := ck_some hf
  obtain ⟨u44, r44, hc44, hf⟩ := bx_some hf
  obtain ⟨hc44, hz44⟩ := gz_some hc44
  obtain ⟨hf, hw44⟩ := gw_some hf
  refine xV0 (i := v0) (As := [.int 11]) (rest := []) C0 hP hD hS ck_Ma hO9 (c_Ma_wrong N hc44) k_Ma_wrong (wd_of 1664 (by decide +kernel) rfl) hi_Ma_wrong hs_Ma_wrong hini_Ma rfl rfl hd_Ma_wrong rfl rm_Ma_without_Ma_wrong hl.1 (Nat.le_of_ble_eq_true rfl) d_Ma_without_64 rfl (hB.fit hm hz44 hw44) (fun H locs hP hD hS => ?_)
  have hB := hB.same2 hz44
  exact yr_v C0 hP hD hS hB hm hf d_Ma_without_67
def fb_Ma_without_0 (N : Nat) (G : (CS → Nat → Int32 → Int32 → Int32 → Option (CS × Unit)) × (CS → Nat → Int32 → Int32 → Int32 → Int64 → Int32 → Option (CS × Unit))) (u : CS) (v0 : Nat) : Option (CS × Unit) := bo (gR u v0 5 2) (fun r45 => bo (gR u v0 5 3) (fun r46 => bo r46 (fun j47 => bo (gR u j47 7 2) (fun r48 => bo (gR u v0 5 4) (fun r49 => bo r49 (fun j51 => ck (isO u j51 4) (bx (gz u (fm_Fr_below N u j51 1)) (fun u50 r50 => gw u50 (bo r45 (fun j53 => ck (isO u50 j53 8) (bx (gz u50 (fm_Te_listLength N u50 j53 r48 r50)) (fun u52 r52 => gw u52 (br (decide (r52 = (-1))) (fb_Ma_without_61 N G u52 (v0)) (br (decide (2048 < r52)) (fb_Ma_without_61 N G u52 (v0)) (bo (gR u52 v0 5 2) (fun r54 => bo (gR u52 v0 5 3) (fun r55 => bo r55 (fun j56 => bo (gR u52 j56 7 2) (fun r57 => bo (gR u52 v0 5 4) (fun r58 => bo r58 (fun j60 => ck (isO u52 j60 4) (bx (gz u52 (fm_Fr_below N u52 j60 0)) (fun u59 r59 => gw u59 (bo r54 (fun j62 => ck (isO u59 j62 8) (bx (gz u59 (fm_Te_listLength N u59 j62 r57 r59)) (fun u61 r61 => gw u61 (br (decide (r61 = (-1))) (fb_Ma_without_61 N G u61 (v0)) (ck (isO u61 v0 5) (bx (gz u61 (fm_Ma_markGone N u61 v0 r52)) (fun u63 r63 => gw u63 (G.1 u63 (v0) (r63) (0) (0)))))))))))))))))))))))))))))))))
set_option maxRecDepth 100000 in
set_option maxHeartbeats 4000000 in
theorem wb_Ma_without_0 {p : Program} {l : Launch} {e : Env} {s : State} {m : MethodId} {args : Array Value} {below : List Frame} {meth : Method} {c : Code} {s0 : State} {b0 : Nat} {D : va_G} {cB cI cJ cZ cS cP : ClassId} {A : Nat → Prop} {sk sv : Nat → Nat} {uN uS mc ms : Nat} {ad0 : Nat → Nat} (C0 : XCx p s s0 b0 m args meth c R_Ma b_Ma_without 9 none D cB cI cJ cZ cS cP A) (hE : ENV s0 b0 sk sv) (N : Nat) (G : (CS → Nat → Int32 → Int32 → Int32 → Option (CS × Unit)) × (CS → Nat → Int32 → Int32 → Int32 → Int64 → Int32 → Option (CS × Unit))) (hG : (∀ (u : CS) (v0 : Nat) (v2 : Int32) (v3 : Int32) (v4 : Int32) (x : CS × Unit), G.1 u v0 v2 v3 v4 = some x → (uN + mc = x.1.1.1 ∧ uS + ms = x.1.1.2) → ∀ (ad : Nat → Nat) (ce sl : Nat), AB uN uS ad0 u ad ce sl → ∀ (H : Heap) (locs : List Loc), va_P D cls (wC cB cI cJ cZ cS cP ad u) H → va_D A (wC cB cI cJ cZ cS cP ad u) → va_S A s.heap H locs → ∀ (ls : Array Slot), lv_has ls 9 [(0, .ref (ad v0)), (2, .int v2), (3, .int v3), (4, .int v4)] → W p l e (rm_Ma_without mc ms) s m args below meth c H locs ce sl (MQ below (xQ D cB cI cJ cZ cS cP A ad0 uN x.1 none) args s mc ms A) (F0 m 79 ls [])) ∧ (∀ (u : CS) (v0 : Nat) (v2 : Int32) (v4 : Int32) (v5 : Int32) (v6 : Int64) (v8 : Int32) (x : CS × Unit), G.2 u v0 v2 v4 v5 v6 v8 = some x → (uN + mc = x.1.1.1 ∧ uS + ms = x.1.1.2) → ∀ (ad : Nat → Nat) (ce sl : Nat), AB uN uS ad0 u ad ce sl → ∀ (H : Heap) (locs : List Loc), va_P D cls (wC cB cI cJ cZ cS cP ad u) H → va_D A (wC cB cI cJ cZ cS cP ad u) → va_S A s.heap H locs → ∀ (ls : Array Slot), lv_has ls 9 [(0, .ref (ad v0)), (2, .int v2), (4, .int v4), (5, .int v5), (6, .long v6), (8, .int v8)] → W p l e (rm_Ma_without mc ms) s m args below meth c H locs ce sl (MQ below (xQ D cB cI cJ cZ cS cP A ad0 uN x.1 none) args s mc ms A) (F0 m 150 ls []))) : ∀ (u : CS) (v0 : Nat) (x : CS × Unit), fb_Ma_without_0 N G u v0 = some x → (uN + mc = x.1.1.1 ∧ uS + ms = x.1.1.2) → ∀ (ad : Nat → Nat) (ce sl : Nat), AB uN uS ad0 u ad ce sl → ∀ (H : Heap) (locs : List Loc), va_P D cls (wC cB cI cJ cZ cS cP ad u) H → va_D A (wC cB cI cJ cZ cS cP ad u) → va_S A s.heap H locs → ∀ (ls : Array Slot), lv_has ls 9 [(0, .ref (ad v0))] → W p l e (rm_Ma_without mc ms) s m args below meth c H locs ce sl (MQ below (xQ D cB cI cJ cZ cS cP A ad0 uN x.1 none) args s mc ms A) (F0 m 0 ls []) := by
  intro u v0 x hf hm ad ce sl hB H locs hP hD hS ls hl
  obtain ⟨hx, hb, hr, hml, ht, hown, hK, hA, hlocks, hA0, hO, hbs⟩ := id C0
  unfold fb_Ma_without_0 at hf
  refine lv_aload_n hx hb d_Ma_without_0 rfl (lv_at hl 0 rfl) ?_
  obtain ⟨r45, g45, hf⟩ := bo_some hf
  refine xg_R (i := v0) (k := 2) hx hb ht hown ck_Ma hK hP (by decide) fk_Ma_19 g45 d_Ma_without_1 ?_
  refine lv_aload_n hx hb d_Ma_without_4 rfl (lv_at hl 0 rfl) ?_
  obtain ⟨r46, g46, hf⟩ := bo_some hf
  refine xg_R (i := v0) (k := 3) hx hb ht hown ck_Ma hK hP (by decide) fk_Ma_23 g46 d_Ma_without_5 ?_
  obtain ⟨j47, ej47, hf⟩ := bo_some hf
  rw [ej47]
  obtain ⟨r48, g48, hf⟩ := bo_some hf
  refine xg_R (i := j47) (k := 2) hx hb ht hown ck_Pr hK hP (by decide) fk_Ma_195 g48 d_Ma_without_8 ?_
  refine lv_aload_n hx hb d_Ma_without_11 rfl (lv_at hl 0 rfl) ?_
  obtain ⟨r49, g49, hf⟩ := bo_some hf
  refine xg_R (i := v0) (k := 4) hx hb ht hown ck_Ma hK hP (by decide) fk_Ma_33 g49 d_Ma_without_12 ?_
  refine lv_iconst (v := 1) hx hb d_Ma_without_15 (by decide) ?_
  obtain ⟨j51, ej51, hf⟩ := bo_some hf
  rw [ej51]
  obtain ⟨hO9, hf⟩ := ck_some hf
  obtain ⟨u50, r50, hc50, hf⟩ := bx_some hf
  obtain ⟨hc50, hz50⟩ := gz_some hc50
  obtain ⟨hf, hw50⟩ := gw_some hf
  refine xV0 (i := j51) (As := [.int 1]) (rest := [va_rf (Option.map ad r48), va_rf (Option.map ad r45)]) C0 hP hD hS ck_Fr hO9 (c_Fr_below N hc50) k_Fr_below (wd_of 1653 (by decide +kernel) rfl) hi_Fr_below hs_Fr_below hini_Fr rfl rfl hd_Fr_below rfl rm_Ma_without_Fr_below hl.1 (c8 (Nat.le_of_ble_eq_true rfl)) d_Ma_without_16 rfl (hB.fit hm hz50 hw50) (fun H locs hP hD hS => ?_)
  have hB := hB.same2 hz50
  obtain ⟨j53, ej53, hf⟩ := bo_some hf
  rw [ej53]
  obtain ⟨hO9, hf⟩ := ck_some hf
  obtain ⟨u52, r52, hc52, hf⟩ := bx_some hf
  obtain ⟨hc52, hz52⟩ := gz_some hc52
  obtain ⟨hf, hw52⟩ := gw_some hf
  refine xV0 (i := j53) (As := [va_rf (Option.map ad r48), .long r50]) (rest := []) C0 hP hD hS ck_Te hO9 (c_Te_listLength N hc52) k_Te_listLength (wd_of 1786 (by decide +kernel) rfl) hi_Te_listLength hs_Te_listLength hini_Te rfl rfl hd_Te_listLength rfl rm_Ma_without_Te_listLength hl.1 (Nat.le_of_ble_eq_true rfl) d_Ma_without_19 rfl (hB.fit hm hz52 hw52) (fun H locs hP hD hS => ?_)
  have hB := hB.same2 hz52
  refine lv_istore_n (lv' := [(1, .int r52), (0, .ref (ad v0))]) hx hb d_Ma_without_22 rfl hl (by decide) (by first | rfl | simp [List.filter, cat_rf]) (fun ls hl => ?_)
  refine lv_iload_n hx hb d_Ma_without_23 rfl (lv_at hl 0 rfl) ?_
  refine lv_iconst (v := (-1)) hx hb d_Ma_without_24 (by decide) ?_
  refine lv_icmp_eq (tgt := 61) hx hb d_Ma_without_25 (by decide) (fun hc => ?_) (fun hc => ?_)
  · rw [br_p _ hc] at hf
    exact wb_Ma_without_61 C0 hE N G hG _ _ _ hf hm _ _ _ hB H locs hP hD hS ls (lv_sub hl [1] rfl)
  · rw [br_n _ hc] at hf
    refine lv_iload_n hx hb d_Ma_without_28 rfl (lv_at hl 0 rfl) ?_
    refine lv_sipush (v := 2048) hx hb d_Ma_without_29 (by decide) ?_
    refine lv_icmp_gt (tgt := 61) hx hb d_Ma_without_32 (by decide) (fun hc => ?_) (fun hc => ?_)
    · rw [br_p _ hc] at hf
      exact wb_Ma_without_61 C0 hE N G hG _ _ _ hf hm _ _ _ hB H locs hP hD hS ls (lv_sub hl [1] rfl)
    · rw [br_n _ hc] at hf
      refine lv_aload_n hx hb d_Ma_without_35 rfl (lv_at hl 1 rfl) ?_
      obtain ⟨r54, g54, hf⟩ := bo_some hf
      refine xg_R (i := v0) (k := 2) hx hb ht hown ck_Ma hK hP (by decide) fk_Ma_19 g54 d_Ma_without_36 ?_
      refine lv_aload_n hx hb d_Ma_without_39 rfl (lv_at hl 1 rfl) ?_
      obtain ⟨r55, g55, hf⟩ := bo_some hf
      refine xg_R (i := v0) (k := 3) hx hb ht hown ck_Ma hK hP (by decide) fk_Ma_23 g55 d_Ma_without_40 ?_
      obtain ⟨j56, ej56, hf⟩ := bo_some hf
      rw [ej56]
      obtain ⟨r57, g57, hf⟩ := bo_some hf
      refine xg_R (i := j56) (k := 2) hx hb ht hown ck_Pr hK hP (by decide) fk_Ma_195 g57 d_Ma_without_43 ?_
      refine lv_aload_n hx hb d_Ma_without_46 rfl (lv_at hl 1 rfl) ?_
      obtain ⟨r58, g58, hf⟩ := bo_some hf
      refine xg_R (i := v0) (k := 4) hx hb ht hown ck_Ma hK hP (by decide) fk_Ma_33 g58 d_Ma_without_47 ?_
      refine lv_iconst (v := 0) hx hb d_Ma_without_50 (by decide) ?_
      obtain ⟨j60, ej60, hf⟩ := bo_some hf
      rw [ej60]
      obtain ⟨hO9, hf⟩ := ck_some hf
      obtain ⟨u59, r59, hc59, hf⟩ := bx_some hf
      obtain ⟨hc59, hz59⟩ := gz_some hc59
      obtain ⟨hf, hw59⟩ := gw_some hf
      refine xV0 (i := j60) (As := [.int 0]) (rest := [va_rf (Option.map ad r57), va_rf (Option.map ad r54)]) C0 hP hD hS ck_Fr hO9 (c_Fr_below N hc59) k_Fr_below (wd_of 1653 (by decide +kernel) rfl) hi_Fr_below hs_Fr_below hini_Fr rfl rfl hd_Fr_below rfl rm_Ma_without_Fr_below hl.1 (c8 (Nat.le_of_ble_eq_true rfl)) d_Ma_without_51 rfl (hB.fit hm hz59 hw59) (fun H locs hP hD hS => ?_)
      have hB := hB.same2 hz59
      obtain ⟨j62, ej62, hf⟩ := bo_some hf
      rw [ej62]
      obtain ⟨hO9, hf⟩ := ck_some hf
      obtain ⟨u61, r61, hc61, hf⟩ := bx_some hf
      obtain ⟨hc61, hz61⟩ := gz_some hc61
      obtain ⟨hf, hw61⟩ := gw_some hf
      refine xV0 (i := j62) (As := [va_rf (Option.map ad r57), .long r59]) (rest := []) C0 hP hD hS ck_Te hO9 (c_Te_listLength N hc61) k_Te_listLength (wd_of 1786 (by decide +kernel) rfl) hi_Te_listLength hs_Te_listLength hini_Te rfl rfl hd_Te_listLength rfl rm_Ma_without_Te_listLength hl.1 (Nat.le_of_ble_eq_true rfl) d_Ma_without_54 rfl (hB.fit hm hz61 hw61) (fun H locs hP hD hS => ?_)
      have hB := hB.same2 hz61
      refine lv_iconst (v := (-1)) hx hb d_Ma_without_57 (by decide) ?_
      refine lv_icmp_ne (tgt := 68) hx hb d_Ma_without_58 (by decide) (fun hc => ?_) (fun hc => ?_)
      · rw [br_n _ hc] at hf
        refine lv_aload_n hx hb d_Ma_without_68 rfl (lv_at hl 1 rfl) ?_
        refine lv_iload_n hx hb d_Ma_without_69 rfl (lv_at hl 0 rfl) ?_
        obtain ⟨hO9, hf⟩ := ck_some hf
        obtain ⟨u63, r63, hc63, hf⟩ := bx_some hf
        obtain ⟨hc63, hz63⟩ := gz_some hc63
        obtain ⟨hf, hw63⟩ := gw_some hf
        refine xV0 (i := v0) (As := [.int r52]) (rest := []) C0 hP hD hS ck_Ma hO9 (c_Ma_markGone N hE hc63) k_Ma_markGone (wd_of 1946 (by decide +kernel) rfl) hi_Ma_markGone hs_Ma_markGone hini_Ma rfl rfl hd_Ma_markGone rfl rm_Ma_without_Ma_markGone hl.1 (Nat.le_of_ble_eq_true rfl) d_Ma_without_70 rfl (hB.fit hm hz63 hw63) (fun H locs hP hD hS => ?_)
        have hB := hB.same2 hz63
        refine lv_istore_n (lv' := [(2, .int r63), (1, .int r52), (0, .ref (ad v0))]) hx hb d_Ma_without_73 rfl hl (by decide) (by first | rfl | simp [List.filter, cat_rf]) (fun ls hl => ?_)
        refine lv_iconst (v := 0) hx hb d_Ma_without_74 (by decide) ?_
        refine lv_istore_n (lv' := [(3, .int 0), (2, .int r63), (1, .int r52), (0, .ref (ad v0))]) hx hb d_Ma_without_75 rfl hl (by decide) (by first | rfl | simp [List.filter, cat_rf]) (fun ls hl => ?_)
        refine lv_iconst (v := 0) hx hb d_Ma_without_76 (by decide) ?_
        refine lv_istore (lv' := [(4, .int 0), (3, .int 0), (2, .int r63), (1, .int r52), (0, .ref (ad v0))]) hx hb d_Ma_without_77 hl (by decide) (by first | rfl | simp [List.filter, cat_rf]) (fun ls hl => ?_)
        exact hG.1 _ _ _ _ _ _ hf hm _ _ _ hB H locs hP hD hS ls (lv_sub hl [4, 2, 1, 0] rfl)
      · rw [br_p _ hc] at hf
        exact wb_Ma_without_61 C0 hE N G hG _ _ _ hf hm _ _ _ hB H locs hP hD hS ls (lv_sub hl [1] rfl)
def gg_Ma_without (N : Nat) : Nat → ((CS → Nat → Int32 → Int32 → Int32 → Option (CS × Unit)) × (CS → Nat → Int32 → Int32 → Int32 → Int64 → Int32 → Option (CS × Unit)))
  | 0 => (fun _ _ _ _ _ => none, fun _ _ _ _ _ _ _ => none)
  | n + 1 => (fb_Ma_without_79 N (gg_Ma_without N n), fb_Ma_without_150 N (gg_Ma_without N n))
theorem wg_Ma_without {p : Program} {l : Launch} {e : Env} {s : State} {m : MethodId} {args : Array Value} {below : List Frame} {meth : Method} {c : Code} {s0 : State} {b0 : Nat} {D : va_G} {cB cI cJ cZ cS cP : ClassId} {A : Nat → Prop} {sk sv : Nat → Nat} {uN uS mc ms : Nat} {ad0 : Nat → Nat} (C0 : XCx p s s0 b0 m args meth c R_Ma b_Ma_without 9 none D cB cI cJ cZ cS cP A) (hE : ENV s0 b0 sk sv) (N : Nat) : ∀ n : Nat, (∀ (u : CS) (v0 : Nat) (v2 : Int32) (v3 : Int32) (v4 : Int32) (x : CS × Unit), (gg_Ma_without N n).1 u v0 v2 v3 v4 = some x → (uN + mc = x.1.1.1 ∧ uS + ms = x.1.1.2) → ∀ (ad : Nat → Nat) (ce sl : Nat), AB uN uS ad0 u ad ce sl → ∀ (H : Heap) (locs : List Loc), va_P D cls (wC cB cI cJ cZ cS cP ad u) H → va_D A (wC cB cI cJ cZ cS cP ad u) → va_S A s.heap H locs → ∀ (ls : Array Slot), lv_has ls 9 [(0, .ref (ad v0)), (2, .int v2), (3, .int v3), (4, .int v4)] → W p l e (rm_Ma_without mc ms) s m args below meth c H locs ce sl (MQ below (xQ D cB cI cJ cZ cS cP A ad0 uN x.1 none) args s mc ms A) (F0 m 79 ls [])) ∧ (∀ (u : CS) (v0 : Nat) (v2 : Int32) (v4 : Int32) (v5 : Int32) (v6 : Int64) (v8 : Int32) (x : CS × Unit), (gg_Ma_without N n).2 u v0 v2 v4 v5 v6 v8 = some x → (uN + mc = x.1.1.1 ∧ uS + ms = x.1.1.2) → ∀ (ad : Nat → Nat) (ce sl : Nat), AB uN uS ad0 u ad ce sl → ∀ (H : Heap) (locs : List Loc), va_P D cls (wC cB cI cJ cZ cS cP ad u) H → va_D A (wC cB cI cJ cZ cS cP ad u) → va_S A s.heap H locs → ∀ (ls : Array Slot), lv_has ls 9 [(0, .ref (ad v0)), (2, .int v2), (4, .int v4), (5, .int v5), (6, .long v6), (8, .int v8)] → W p l e (rm_Ma_without mc ms) s m args below meth c H locs ce sl (MQ below (xQ D cB cI cJ cZ cS cP A ad0 uN x.1 none) args s mc ms A) (F0 m 150 ls []))
  | 0 => ⟨(fun u v0 v2 v3 v4 x hf => by cases hf), (fun u v0 v2 v4 v5 v6 v8 x hf => by cases hf)⟩
  | n + 1 => ⟨wb_Ma_without_79 C0 hE N (gg_Ma_without N n) (wg_Ma_without C0 hE N n), wb_Ma_without_150 C0 hE N (gg_Ma_without N n) (wg_Ma_without C0 hE N n)⟩
def fm_Ma_without (N : Nat) (u : CS) (v0 : Nat) : Option (CS × Unit) := fb_Ma_without_0 N (gg_Ma_without N N) u v0
set_option maxRecDepth 100000 in
set_option maxHeartbeats 4000000 in
theorem c_Ma_without (N : Nat) {l : Launch} {s0 : State} {b0 : Nat} {D : va_G} {cB cI cJ cZ cS cP : ClassId} {sk sv : Nat → Nat} {ad : Nat → Nat} {u : CS} {sz mc ms : Nat} {v0 : Nat} {x : CS × Unit} (hE : ENV s0 b0 sk sv) (hf : fm_Ma_without N u v0 = some x) (hm : u.1.1 + mc = x.1.1.1 ∧ u.1.2 + ms = x.1.1.2) : Met l y_Ma_without (wd_ws y_Ma_without b_Ma_without 9 none) (rm_Ma_without mc ms) (xPc s0 b0 D cB cI cJ cZ cS cP ad u sz [.ref (ad v0)]) (xQ D cB cI cJ cZ cS cP (xA cB cI cJ cZ cS cP ad u sz) ad u.1.1 x.1 none) mc ms (xA cB cI cJ cZ cS cP ad u sz) :=
  xMet (by decide) rfl (Nat.le_of_ble_eq_true rfl) (fun p e s m below meth c ls hsz hnm C0 hP hD hS hl =>
    wb_Ma_without_0 C0 hE N (gg_Ma_without N N) (wg_Ma_without C0 hE N N) u _ x hf hm ad 0 0 ⟨rfl, rfl, fun _ _ => rfl⟩ s.heap [] hP hD hS ls (lv_sub hl [0] rfl))
abbrev b_Ma_value : ByteArray := prog_5_method_13_code
def y_Ma_value : MethodName := ⟨R_Ma, "value", "(I)V"⟩
def w_Ma_value : List Cond := wd_ws y_Ma_value b_Ma_value 4 none
set_option maxRecDepth 100000 in
theorem k_Ma_value : Cond.code y_Ma_value b_Ma_value 4 none ∈ wd_tbl := wd_of 1888 rfl rfl
theorem d_Ma_value_0 : decode b_Ma_value 0 = .ok (.aload_n 0, 1) := by decide +kernel
theorem d_Ma_value_1 : decode b_Ma_value 1 = .ok (.getfield 9, 3) := by decide +kernel
theorem d_Ma_value_4 : decode b_Ma_value 4 = .ok (.aload_n 0, 1) := by decide +kernel
theorem d_Ma_value_5 : decode b_Ma_value 5 = .ok (.getfield 40, 3) := by decide +kernel
theorem d_Ma_value_8 : decode b_Ma_value 8 = .ok (.iconst 1, 1) := by decide +kernel
theorem d_Ma_value_9 : decode b_Ma_value 9 = .ok (.iadd, 1) := by decide +kernel
theorem d_Ma_value_10 : decode b_Ma_value 10 = .ok (.invokevirtual 67, 3) := by decide +kernel
theorem d_Ma_value_13 : decode b_Ma_value 13 = .ok (.istore_n 2, 1) := by decide +kernel
theorem d_Ma_value_14 : decode b_Ma_value 14 = .ok (.iload_n 1, 1) := by decide +kernel
theorem d_Ma_value_15 : decode b_Ma_value 15 = .ok (.tableswitch 220 8 17 #[53, 110, 200, 118, 125, 132, 132, 151, 172, 193], 53) := by decide +kernel
theorem d_Ma_value_68 : decode b_Ma_value 68 = .ok (.aload_n 0, 1) := by decide +kernel
theorem d_Ma_value_69 : decode b_Ma_value 69 = .ok (.getfield 19, 3) := by decide +kernel
theorem d_Ma_value_72 : decode b_Ma_value 72 = .ok (.aload_n 0, 1) := by decide +kernel
theorem d_Ma_value_73 : decode b_Ma_value 73 = .ok (.getfield 23, 3) := by decide +kernel
theorem d_Ma_value_76 : decode b_Ma_value 76 = .ok (.getfield 195, 3) := by decide +kernel
theorem d_Ma_value_79 : decode b_Ma_value 79 = .ok (.aload_n 0, 1) := by decide +kernel
theorem d_Ma_value_80 : decode b_Ma_value 80 = .ok (.getfield 33, 3) := by decide +kernel
theorem d_Ma_value_83 : decode b_Ma_value 83 = .ok (.iconst 1, 1) := by decide +kernel
theorem d_Ma_value_84 : decode b_Ma_value 84 = .ok (.invokevirtual 138, 3) := by decide +kernel
theorem d_Ma_value_87 : decode b_Ma_value 87 = .ok (.aload_n 0, 1) := by decide +kernel
theorem d_Ma_value_88 : decode b_Ma_value 88 = .ok (.getfield 33, 3) := by decide +kernel
theorem d_Ma_value_91 : decode b_Ma_value 91 = .ok (.iconst 0, 1) := by decide +kernel
theorem d_Ma_value_92 : decode b_Ma_value 92 = .ok (.invokevirtual 138, 3) := by decide +kernel
theorem d_Ma_value_95 : decode b_Ma_value 95 = .ok (.invokevirtual 199, 3) := by decide +kernel
theorem d_Ma_value_98 : decode b_Ma_value 98 = .ok (.istore_n 3, 1) := by decide +kernel
theorem d_Ma_value_99 : decode b_Ma_value 99 = .ok (.aload_n 0, 1) := by decide +kernel
theorem d_Ma_value_100 : decode b_Ma_value 100 = .ok (.iconst 2, 1) := by decide +kernel
theorem d_Ma_value_101 : decode b_Ma_value 101 = .ok (.iload_n 2, 1) := by decide +kernel
theorem d_Ma_value_102 : decode b_Ma_value 102 = .ok (.iload_n 3, 1) := by decide +kernel
theorem d_Ma_value_103 : decode b_Ma_value 103 = .ok (.invokestatic 203, 3) := by decide +kernel
theorem d_Ma_value_106 : decode b_Ma_value 106 = .ok (.invokestatic 207, 3) := by decide +kernel
theorem d_Ma_value_109 : decode b_Ma_value 109 = .ok (.invokevirtual 145, 3) := by decide +kernel
theorem d_Ma_value_112 : decode b_Ma_value 112 = .ok (.aload_n 0, 1) := by decide +kernel
theorem d_Ma_value_113 : decode b_Ma_value 113 = .ok (.dup, 1) := by decide +kernel
theorem d_Ma_value_114 : decode b_Ma_value 114 = .ok (.getfield 40, 3) := by decide +kernel
theorem d_Ma_value_117 : decode b_Ma_value 117 = .ok (.iconst 2, 1) := by decide +kernel
theorem d_Ma_value_118 : decode b_Ma_value 118 = .ok (.iadd, 1) := by decide +kernel
theorem d_Ma_value_119 : decode b_Ma_value 119 = .ok (.putfield 40, 3) := by decide +kernel
theorem d_Ma_value_122 : decode b_Ma_value 122 = .ok (.goto 118, 3) := by decide +kernel
theorem d_Ma_value_125 : decode b_Ma_value 125 = .ok (.aload_n 0, 1) := by decide +kernel
theorem d_Ma_value_126 : decode b_Ma_value 126 = .ok (.iload_n 2, 1) := by decide +kernel
theorem d_Ma_value_127 : decode b_Ma_value 127 = .ok (.invokevirtual 211, 3) := by decide +kernel
theorem d_Ma_value_130 : decode b_Ma_value 130 = .ok (.goto 110, 3) := by decide +kernel
theorem d_Ma_value_133 : decode b_Ma_value 133 = .ok (.aload_n 0, 1) := by decide +kernel
theorem d_Ma_value_134 : decode b_Ma_value 134 = .ok (.invokevirtual 214, 3) := by decide +kernel
theorem d_Ma_value_137 : decode b_Ma_value 137 = .ok (.goto 103, 3) := by decide +kernel
theorem d_Ma_value_140 : decode b_Ma_value 140 = .ok (.aload_n 0, 1) := by decide +kernel
theorem d_Ma_value_141 : decode b_Ma_value 141 = .ok (.invokevirtual 217, 3) := by decide +kernel
theorem d_Ma_value_144 : decode b_Ma_value 144 = .ok (.goto 96, 3) := by decide +kernel
theorem d_Ma_value_147 : decode b_Ma_value 147 = .ok (.aload_n 0, 1) := by decide +kernel
theorem d_Ma_value_148 : decode b_Ma_value 148 = .ok (.iload_n 1, 1) := by decide +kernel
theorem d_Ma_value_149 : decode b_Ma_value 149 = .ok (.bipush 13, 2) := by decide +kernel
theorem d_Ma_value_151 : decode b_Ma_value 151 = .ok (.if_icmp .ne 7, 3) := by decide +kernel
theorem d_Ma_value_154 : decode b_Ma_value 154 = .ok (.iconst 1, 1) := by decide +kernel
theorem d_Ma_value_155 : decode b_Ma_value 155 = .ok (.goto 4, 3) := by decide +kernel
theorem d_Ma_value_158 : decode b_Ma_value 158 = .ok (.iconst 0, 1) := by decide +kernel
theorem d_Ma_value_159 : decode b_Ma_value 159 = .ok (.iload_n 2, 1) := by decide +kernel
theorem d_Ma_value_160 : decode b_Ma_value 160 = .ok (.invokevirtual 220, 3) := by decide +kernel
theorem d_Ma_value_163 : decode b_Ma_value 163 = .ok (.goto 77, 3) := by decide +kernel
theorem d_Ma_value_166 : decode b_Ma_value 166 = .ok (.aload_n 0, 1) := by decide +kernel
theorem d_Ma_value_167 : decode b_Ma_value 167 = .ok (.getfield 33, 3) := by decide +kernel
theorem d_Ma_value_170 : decode b_Ma_value 170 = .ok (.iconst 1, 1) := by decide +kernel
theorem d_Ma_value_171 : decode b_Ma_value 171 = .ok (.invokevirtual 109, 3) := by decide +kernel
theorem d_Ma_value_174 : decode b_Ma_value 174 = .ok (.aload_n 0, 1) := by decide +kernel
theorem d_Ma_value_175 : decode b_Ma_value 175 = .ok (.dup, 1) := by decide +kernel
theorem d_Ma_value_176 : decode b_Ma_value 176 = .ok (.getfield 40, 3) := by decide +kernel
theorem d_Ma_value_179 : decode b_Ma_value 179 = .ok (.iconst 1, 1) := by decide +kernel
theorem d_Ma_value_180 : decode b_Ma_value 180 = .ok (.iadd, 1) := by decide +kernel
theorem d_Ma_value_181 : decode b_Ma_value 181 = .ok (.putfield 40, 3) := by decide +kernel
theorem d_Ma_value_184 : decode b_Ma_value 184 = .ok (.goto 56, 3) := by decide +kernel
theorem d_Ma_value_187 : decode b_Ma_value 187 = .ok (.aload_n 0, 1) := by decide +kernel
theorem d_Ma_value_188 : decode b_Ma_value 188 = .ok (.getfield 33, 3) := by decide +kernel
theorem d_Ma_value_191 : decode b_Ma_value 191 = .ok (.iload_n 2, 1) := by decide +kernel
theorem d_Ma_value_192 : decode b_Ma_value 192 = .ok (.invokevirtual 174, 3) := by decide +kernel
theorem d_Ma_value_195 : decode b_Ma_value 195 = .ok (.aload_n 0, 1) := by decide +kernel
theorem d_Ma_value_196 : decode b_Ma_value 196 = .ok (.dup, 1) := by decide +kernel
theorem d_Ma_value_197 : decode b_Ma_value 197 = .ok (.getfield 40, 3) := by decide +kernel
theorem d_Ma_value_200 : decode b_Ma_value 200 = .ok (.iconst 2, 1) := by decide +kernel
theorem d_Ma_value_201 : decode b_Ma_value 201 = .ok (.iadd, 1) := by decide +kernel
theorem d_Ma_value_202 : decode b_Ma_value 202 = .ok (.putfield 40, 3) := by decide +kernel
theorem d_Ma_value_205 : decode b_Ma_value 205 = .ok (.goto 35, 3) := by decide +kernel
theorem d_Ma_value_208 : decode b_Ma_value 208 = .ok (.aload_n 0, 1) := by decide +kernel
theorem d_Ma_value_209 : decode b_Ma_value 209 = .ok (.invokevirtual 224, 3) := by decide +kernel
theorem d_Ma_value_212 : decode b_Ma_value 212 = .ok (.goto 28, 3) := by decide +kernel
theorem d_Ma_value_215 : decode b_Ma_value 215 = .ok (.iload_n 2, 1) := by decide +kernel
theorem d_Ma_value_216 : decode b_Ma_value 216 = .ok (.bipush 43, 2) := by decide +kernel
theorem d_Ma_value_218 : decode b_Ma_value 218 = .ok (.if_icmp .ne 10, 3) := by decide +kernel
theorem d_Ma_value_221 : decode b_Ma_value 221 = .ok (.aload_n 0, 1) := by decide +kernel
theorem d_Ma_value_222 : decode b_Ma_value 222 = .ok (.invokevirtual 229, 3) := by decide +kernel
theorem d_Ma_value_225 : decode b_Ma_value 225 = .ok (.goto 15, 3) := by decide +kernel
theorem d_Ma_value_228 : decode b_Ma_value 228 = .ok (.aload_n 0, 1) := by decide +kernel
theorem d_Ma_value_229 : decode b_Ma_value 229 = .ok (.invokevirtual 232, 3) := by decide +kernel
theorem d_Ma_value_232 : decode b_Ma_value 232 = .ok (.goto 8, 3) := by decide +kernel
theorem d_Ma_value_235 : decode b_Ma_value 235 = .ok (.aload_n 0, 1) := by decide +kernel
theorem d_Ma_value_236 : decode b_Ma_value 236 = .ok (.iconst 1, 1) := by decide +kernel
theorem d_Ma_value_237 : decode b_Ma_value 237 = .ok (.putfield 50, 3) := by decide +kernel
theorem d_Ma_value_240 : decode b_Ma_value 240 = .ok (.return_, 1) := by decide +kernel
set_option maxRecDepth 100000 in
theorem hl_Ma_value : Cond.methodLink R_Ma 82 y_Ma_value ∈ wd_tbl := wd_of 1885 (by decide +kernel) rfl
set_option maxRecDepth 100000 in
theorem hi_Ma_value : Cond.instanceMethod y_Ma_value ∈ wd_tbl := wd_of 1887 (by decide +kernel) rfl
set_option maxRecDepth 100000 in
theorem hs_Ma_value : Cond.selects R_Ma y_Ma_value y_Ma_value ∈ wd_tbl := wd_of 99 (by decide +kernel) rfl
theorem hd_Ma_value : y_Ma_value.cls = R_Ma ∧ y_Ma_value.cls ≠ "java/lang/invoke/MethodHandle" ∧ y_Ma_value.cls ≠ "java/lang/invoke/VarHandle" ∧ (parseMethodDescriptor y_Ma_value.desc).map (fun d => d.parameters.length) = some 1 := by decide +kernel
def rm_Ma_value (mc ms : Nat) : Room := { frames := 6, cells := mc, slots := ms, locals := 180 }
theorem rm_Ma_value_Co_at {mc ms : Nat} : (rm_Co_at).frames + 1 ≤ (rm_Ma_value mc ms).frames ∧ 8 + (2 + 11) + (rm_Co_at).locals ≤ (rm_Ma_value mc ms).locals := by
  show 0 + 1 ≤ 6 ∧ 8 + (2 + 11) + 0 ≤ 180
  decide
theorem rm_Ma_value_Fr_below {mc ms : Nat} : (rm_Fr_below).frames + 1 ≤ (rm_Ma_value mc ms).frames ∧ 8 + (3 + 11) + (rm_Fr_below).locals ≤ (rm_Ma_value mc ms).locals := by
  show 0 + 1 ≤ 6 ∧ 8 + (3 + 11) + 0 ≤ 180
  decide
theorem rm_Ma_value_Te_order {mc ms : Nat} : (rm_Te_order).frames + 1 ≤ (rm_Ma_value mc ms).frames ∧ 8 + (14 + 11) + (rm_Te_order).locals ≤ (rm_Ma_value mc ms).locals := by
  show 2 + 1 ≤ 6 ∧ 8 + (14 + 11) + 88 ≤ 180
  decide
theorem rm_Ma_value_Ma_holds {mc ms : Nat} : (rm_Ma_holds).frames + 1 ≤ (rm_Ma_value mc ms).frames ∧ 8 + (2 + 11) + (rm_Ma_holds).locals ≤ (rm_Ma_value mc ms).locals := by
  show 0 + 1 ≤ 6 ∧ 8 + (2 + 11) + 0 ≤ 180
  decide
theorem rm_Ma_value_Ma_truth {mc ms : Nat} : (rm_Ma_truth).frames + 1 ≤ (rm_Ma_value mc ms).frames ∧ 8 + (1 + 11) + (rm_Ma_truth).locals ≤ (rm_Ma_value mc ms).locals := by
  show 2 + 1 ≤ 6 ∧ 8 + (1 + 11) + 41 ≤ 180
  decide
theorem rm_Ma_value_Ma_answer {mc ms : Nat} {mc2 ms2 : Nat} : (rm_Ma_answer mc2 ms2).frames + 1 ≤ (rm_Ma_value mc ms).frames ∧ 8 + (4 + 11) + (rm_Ma_answer mc2 ms2).locals ≤ (rm_Ma_value mc ms).locals := by
  show 3 + 1 ≤ 6 ∧ 8 + (4 + 11) + 104 ≤ 180
  decide
theorem rm_Ma_value_Ma_arithmetic {mc ms : Nat} {mc2 ms2 : Nat} : (rm_Ma_arithmetic mc2 ms2).frames + 1 ≤ (rm_Ma_value mc ms).frames ∧ 8 + (10 + 11) + (rm_Ma_arithmetic mc2 ms2).locals ≤ (rm_Ma_value mc ms).locals := by
  show 5 + 1 ≤ 6 ∧ 8 + (10 + 11) + 151 ≤ 180
  decide
theorem rm_Ma_value_Ma_negate {mc ms : Nat} {mc2 ms2 : Nat} : (rm_Ma_negate mc2 ms2).frames + 1 ≤ (rm_Ma_value mc ms).frames ∧ 8 + (1 + 11) + (rm_Ma_negate mc2 ms2).locals ≤ (rm_Ma_value mc ms).locals := by
  show 5 + 1 ≤ 6 ∧ 8 + (1 + 11) + 151 ≤ 180
  decide
theorem rm_Ma_value_Ma_not {mc ms : Nat} {mc2 ms2 : Nat} : (rm_Ma_not mc2 ms2).frames + 1 ≤ (rm_Ma_value mc ms).frames ∧ 8 + (3 + 11) + (rm_Ma_not mc2 ms2).locals ≤ (rm_Ma_value mc ms).locals := by
  show 4 + 1 ≤ 6 ∧ 8 + (3 + 11) + 127 ≤ 180
  decide
theorem rm_Ma_value_Ma_hinge {mc ms : Nat} : (rm_Ma_hinge).frames + 1 ≤ (rm_Ma_value mc ms).frames ∧ 8 + (5 + 11) + (rm_Ma_hinge).locals ≤ (rm_Ma_value mc ms).locals := by
  show 3 + 1 ≤ 6 ∧ 8 + (5 + 11) + 62 ≤ 180
  decide
theorem rm_Ma_value_Fr_drop {mc ms : Nat} : (rm_Fr_drop).frames + 1 ≤ (rm_Ma_value mc ms).frames ∧ 8 + (2 + 11) + (rm_Fr_drop).locals ≤ (rm_Ma_value mc ms).locals := by
  show 1 + 1 ≤ 6 ∧ 8 + (2 + 11) + 23 ≤ 180
  decide
theorem rm_Ma_value_Fr_forget {mc ms : Nat} : (rm_Fr_forget).frames + 1 ≤ (rm_Ma_value mc ms).frames ∧ 8 + (2 + 11) + (rm_Fr_forget).locals ≤ (rm_Ma_value mc ms).locals := by
  show 1 + 1 ≤ 6 ∧ 8 + (2 + 11) + 23 ≤ 180
  decide
theorem rm_Ma_value_Ma_sendTo {mc ms : Nat} {mc2 ms2 : Nat} : (rm_Ma_sendTo mc2 ms2).frames + 1 ≤ (rm_Ma_value mc ms).frames ∧ 8 + (4 + 11) + (rm_Ma_sendTo mc2 ms2).locals ≤ (rm_Ma_value mc ms).locals := by
  show 4 + 1 ≤ 6 ∧ 8 + (4 + 11) + 130 ≤ 180
  decide
theorem rm_Ma_value_Ma_join {mc ms : Nat} {mc2 ms2 : Nat} : (rm_Ma_join mc2 ms2).frames + 1 ≤ (rm_Ma_value mc ms).frames ∧ 8 + (6 + 11) + (rm_Ma_join mc2 ms2).locals ≤ (rm_Ma_value mc ms).locals := by
  show 4 + 1 ≤ 6 ∧ 8 + (6 + 11) + 127 ≤ 180
  decide
theorem rm_Ma_value_Ma_without {mc ms : Nat} {mc2 ms2 : Nat} : (rm_Ma_without mc2 ms2).frames + 1 ≤ (rm_Ma_value mc ms).frames ∧ 8 + (9 + 11) + (rm_Ma_without mc2 ms2).locals ≤ (rm_Ma_value mc ms).locals := by
  show 4 + 1 ≤ 6 ∧ 8 + (9 + 11) + 149 ≤ 180
  decide
def fb_Ma_value_240 (N : Nat) (G : Unit) (u : CS) : Option (CS × Unit) := some (u, ())
set_option maxRecDepth 100000 in
set_option maxHeartbeats 4000000 in
theorem wb_Ma_value_240 {p : Program} {l : Launch} {e : Env} {s : State} {m : MethodId} {args : Array Value} {below : List Frame} {meth : Method} {c : Code} {s0 : State} {b0 : Nat} {D : va_G} {cB cI cJ cZ cS cP : ClassId} {A : Nat → Prop} {sk sv : Nat → Nat} {uN uS mc ms : Nat} {ad0 : Nat → Nat} (C0 : XCx p s s0 b0 m args meth c R_Ma b_Ma_value 4 none D cB cI cJ cZ cS cP A) (hE : ENV s0 b0 sk sv) (N : Nat) (G : Unit) (hG : True) : ∀ (u : CS) (x : CS × Unit), fb_Ma_value_240 N G u = some x → (uN + mc = x.1.1.1 ∧ uS + ms = x.1.1.2) → ∀ (ad : Nat → Nat) (ce sl : Nat), AB uN uS ad0 u ad ce sl → ∀ (H : Heap) (locs : List Loc), va_P D cls (wC cB cI cJ cZ cS cP ad u) H → va_D A (wC cB cI cJ cZ cS cP ad u) → va_S A s.heap H locs → ∀ (ls : Array Slot), lv_has ls 4 [] → W p l e (rm_Ma_value mc ms) s m args below meth c H locs ce sl (MQ below (xQ D cB cI cJ cZ cS cP A ad0 uN x.1 none) args s mc ms A) (F0 m 240 ls []) := by
  intro u x hf hm ad ce sl hB H locs hP hD hS ls hl
  obtain ⟨hx, hb, hr, hml, ht, hown, hK, hA, hlocks, hA0, hO, hbs⟩ := id C0
  unfold fb_Ma_value_240 at hf
  exact yr_v C0 hP hD hS hB hm hf d_Ma_value_240
def fb_Ma_value_159 (N : Nat) (G : Unit) (u : CS) (v2 : Int32) (t0 : Nat) (t1 : Int32) : Option (CS × Unit) := ck (isO u t0 5) (bx (gz u (fm_Ma_hinge N u t0 t1 v2)) (fun u1 r1 => gw u1 (fb_Ma_value_240 N G u1)))
set_option maxRecDepth 100000 in
set_option maxHeartbeats 4000000 in
theorem wb_Ma_value_159 {p : Program} {l : Launch} {e : Env} {s : State} {m : MethodId} {args : Array Value} {below : List Frame} {meth : Method} {c : Code} {s0 : State} {b0 : Nat} {D : va_G} {cB cI cJ cZ cS cP : ClassId} {A : Nat → Prop} {sk sv : Nat → Nat} {uN uS mc ms : Nat} {ad0 : Nat → Nat} (C0 : XCx p s s0 b0 m args meth c R_Ma b_Ma_value 4 none D cB cI cJ cZ cS cP A) (hE : ENV s0 b0 sk sv) (N : Nat) (G : Unit) (hG : True) : ∀ (u : CS) (v2 : Int32) (t0 : Nat) (t1 : Int32) (x : CS × Unit), fb_Ma_value_159 N G u v2 t0 t1 = some x → (uN + mc = x.1.1.1 ∧ uS + ms = x.1.1.2) → ∀ (ad : Nat → Nat) (ce sl : Nat), AB uN uS ad0 u ad ce sl → ∀ (H : Heap) (locs : List Loc), va_P D cls (wC cB cI cJ cZ cS cP ad u) H → va_D A (wC cB cI cJ cZ cS cP ad u) → va_S A s.heap H locs → ∀ (ls : Array Slot), lv_has ls 4 [(2, .int v2)] → W p l e (rm_Ma_value mc ms) s m args below meth c H locs ce sl (MQ below (xQ D cB cI cJ cZ cS cP A ad0 uN x.1 none) args s mc ms A) (F0 m 159 ls [.int t1, .ref (ad t0)]) := by
  intro u v2 t0 t1 x hf hm ad ce sl hB H locs hP hD hS ls hl
  obtain ⟨hx, hb, hr, hml, ht, hown, hK, hA, hlocks, hA0, hO, hbs⟩ := id C0
  unfold fb_Ma_value_159 at hf
  refine lv_iload_n hx hb d_Ma_value_159 rfl (lv_at hl 0 rfl) ?_
  obtain ⟨hO9, hf⟩ := ck_some hf
  obtain ⟨u1, r1, hc1, hf⟩ := bx_some hf
  obtain ⟨hc1, hz1⟩ := gz_some hc1
  obtain ⟨hf, hw1⟩ := gw_some hf
  refine xV0 (i := t0) (As := [.int t1, .int v2]) (rest := []) C0 hP hD hS ck_Ma hO9 (c_Ma_hinge N hE hc1) k_Ma_hinge (wd_of 1926 (by decide +kernel) rfl) hi_Ma_hinge hs_Ma_hinge hini_Ma rfl rfl hd_Ma_hinge rfl rm_Ma_value_Ma_hinge hl.1 (Nat.le_of_ble_eq_true rfl) d_Ma_value_160 rfl (hB.fit hm hz1 hw1) (fun H locs hP hD hS => ?_)
  have hB := hB.same2 hz1
  refine lv_goto (tgt := 240) hx hb d_Ma_value_163 (by decide) ?_
  exact wb_Ma_value_240 C0 hE N G hG _ _ hf hm _ _ _ hB H locs hP hD hS ls (lv_sub hl [] rfl)
def fb_Ma_value_0 (N : Nat) (G : Unit) (u : CS) (v0 : Nat) (v1 : Int32) : Option (CS × Unit) := bo (gR u v0 5 0) (fun r2 => bo (gI u v0 5 5) (fun r3 => bo r2 (fun j5 => ck (isO u j5 2) (bx (gz u (fm_Co_at N u j5 (r3 + 1))) (fun u4 r4 => gw u4 (br (decide (v1 = 8)) (bo (gR u4 v0 5 2) (fun r6 => bo (gR u4 v0 5 3) (fun r7 => bo r7 (fun j8 => bo (gR u4 j8 7 2) (fun r9 => bo (gR u4 v0 5 4) (fun r10 => bo r10 (fun j12 => ck (isO u4 j12 4) (bx (gz u4 (fm_Fr_below N u4 j12 1)) (fun u11 r11 => gw u11 (bo (gR u11 v0 5 4) (fun r13 => bo r13 (fun j15 => ck (isO u11 j15 4) (bx (gz u11 (fm_Fr_below N u11 j15 0)) (fun u14 r14 => gw u14 (bo r6 (fun j17 => ck (isO u14 j17 8) (bx (gz u14 (fm_Te_order N u14 j17 r9 r11 r14)) (fun u16 r16 => gw u16 (bx (gz u16 (fm_Ma_holds N u16 r4 r16)) (fun u18 r18 => gw u18 (bx (gz u18 (fm_Ma_truth N u18 r18)) (fun u19 r19 => gw u19 (ck (isO u19 v0 5) (ck (List.all [some v0] (okR u19.1.1)) (bx (gw u19 (fm_Ma_answer N u19 v0 2 r19)) (fun u20 r20 => gw u20 (bo (gI u20 v0 5 5) (fun r21 => bo (pF u20 v0 5 5 (.inl (r21 + 2))) (fun w22 => fb_Ma_value_240 N G w22))))))))))))))))))))))))))))) (br (decide (v1 = 9)) (ck (isO u4 v0 5) (ck (List.all [some v0] (okR u4.1.1)) (bx (gw u4 (fm_Ma_arithmetic N u4 v0 r4)) (fun u23 r23 => gw u23 (fb_Ma_value_240 N G u23))))) (br (decide (v1 = 10)) (br (decide (r4 = 43)) (ck (isO u4 v0 5) (ck (List.all [some v0] (okR u4.1.1)) (bx (gw u4 (fm_Ma_join N u4 v0)) (fun u25 r25 => gw u25 (fb_Ma_value_240 N G u25))))) (ck (isO u4 v0 5) (ck (List.all [some v0] (okR u4.1.1)) (bx (gw u4 (fm_Ma_without N u4 v0)) (fun u24 r24 => gw u24 (fb_Ma_value_240 N G u24)))))) (br (decide (v1 = 11)) (ck (isO u4 v0 5) (ck (List.all [some v0] (okR u4.1.1)) (bx (gw u4 (fm_Ma_negate N u4 v0)) (fun u26 r26 => gw u26 (fb_Ma_value_240 N G u26))))) (br (decide (v1 = 12)) (ck (isO u4 v0 5) (ck (List.all [some v0] (okR u4.1.1)) (bx (gw u4 (fm_Ma_not N u4 v0)) (fun u27 r27 => gw u27 (fb_Ma_value_240 N G u27))))) (br (decide (v1 = 13)) (br (decide (v1 = 13)) (fb_Ma_value_159 N G u4 (r4) (v0) (1)) (fb_Ma_value_159 N G u4 (r4) (v0) (0))) (br (decide (v1 = 14)) (br (decide (v1 = 13)) (fb_Ma_value_159 N G u4 (r4) (v0) (1)) (fb_Ma_value_159 N G u4 (r4) (v0) (0))) (br (decide (v1 = 15)) (bo (gR u4 v0 5 4) (fun r28 => bo r28 (fun j30 => ck (isO u4 j30 4) (bx (gz u4 (fm_Fr_drop N u4 j30 1)) (fun u29 r29 => gw u29 (bo (gI u29 v0 5 5) (fun r31 => bo (pF u29 v0 5 5 (.inl (r31 + 1))) (fun w32 => fb_Ma_value_240 N G w32)))))))) (br (decide (v1 = 16)) (bo (gR u4 v0 5 4) (fun r33 => bo r33 (fun j35 => ck (isO u4 j35 4) (bx (gz u4 (fm_Fr_forget N u4 j35 r4)) (fun u34 r34 => gw u34 (bo (gI u34 v0 5 5) (fun r36 => bo (pF u34 v0 5 5 (.inl (r36 + 2))) (fun w37 => fb_Ma_value_240 N G w37)))))))) (br (decide (v1 = 17)) (ck (isO u4 v0 5) (ck (List.all [some v0] (okR u4.1.1)) (bx (gw u4 (fm_Ma_sendTo N u4 v0)) (fun u38 r38 => gw u38 (fb_Ma_value_240 N G u38))))) (bo (pF u4 v0 5 8 (.inl 1)) (fun w39 => fb_Ma_value_240 N G w39)))))))))))))))))
set_option maxRecDepth 100000 in
set_option maxHeartbeats 4000000 in
theorem wb_Ma_value_0 {p : Program} {l : Launch} {e : Env} {s : State} {m : MethodId} {args : Array Value} {below : List Frame} {meth : Method} {c : Code} {s0 : State} {b0 : Nat} {D : va_G} {cB cI cJ cZ cS cP : ClassId} {A : Nat → Prop} {sk sv : Nat → Nat} {uN uS mc ms : Nat} {ad0 : Nat → Nat} (C0 : XCx p s s0 b0 m args meth c R_Ma b_Ma_value 4 none D cB cI cJ cZ cS cP A) (hE : ENV s0 b0 sk sv) (N : Nat) (G : Unit) (hG : True) : ∀ (u : CS) (v0 : Nat) (v1 : Int32) (x : CS × Unit), fb_Ma_value_0 N G u v0 v1 = some x → (uN + mc = x.1.1.1 ∧ uS + ms = x.1.1.2) → ∀ (ad : Nat → Nat) (ce sl : Nat), AB uN uS ad0 u ad ce sl → ∀ (H : Heap) (locs : List Loc), va_P D cls (wC cB cI cJ cZ cS cP ad u) H → va_D A (wC cB cI cJ cZ cS cP ad u) → va_S A s.heap H locs → ∀ (ls : Array Slot), lv_has ls 4 [(0, .ref (ad v0)), (1, .int v1)] → W p l e (rm_Ma_value mc ms) s m args below meth c H locs ce sl (MQ below (xQ D cB cI cJ cZ cS cP A ad0 uN x.1 none) args s mc ms A) (F0 m 0 ls []) := by
  intro u v0 v1 x hf hm ad ce sl hB H locs hP hD hS ls hl
  obtain ⟨hx, hb, hr, hml, ht, hown, hK, hA, hlocks, hA0, hO, hbs⟩ := id C0
  unfold fb_Ma_value_0 at hf
  refine lv_aload_n hx hb d_Ma_value_0 rfl (lv_at hl 0 rfl) ?_
  obtain ⟨r2, g2, hf⟩ := bo_some hf
  refine xg_R (i := v0) (k := 0) hx hb ht hown ck_Ma hK hP (by decide) fk_Ma_9 g2 d_Ma_value_1 ?_
  refine lv_aload_n hx hb d_Ma_value_4 rfl (lv_at hl 0 rfl) ?_
  obtain ⟨r3, g3, hf⟩ := bo_some hf
  refine xg_I (i := v0) (k := 5) hx hb ht hown ck_Ma hK hP (by decide) fk_Ma_40 g3 d_Ma_value_5 ?_
  refine lv_iconst (v := 1) hx hb d_Ma_value_8 (by decide) ?_
  refine lv_iadd hx hb d_Ma_value_9 ?_
  obtain ⟨j5, ej5, hf⟩ := bo_some hf
  rw [ej5]
  obtain ⟨hO9, hf⟩ := ck_some hf
  obtain ⟨u4, r4, hc4, hf⟩ := bx_some hf
  obtain ⟨hc4, hz4⟩ := gz_some hc4
  obtain ⟨hf, hw4⟩ := gw_some hf
  refine xV0 (i := j5) (As := [.int (r3 + 1)]) (rest := []) C0 hP hD hS ck_Co hO9 (c_Co_at N hc4) k_Co_at (wd_of 1644 (by decide +kernel) rfl) hi_Co_at hs_Co_at hini_Co rfl rfl hd_Co_at rfl rm_Ma_value_Co_at hl.1 (Nat.le_of_ble_eq_true rfl) d_Ma_value_10 rfl (hB.fit hm hz4 hw4) (fun H locs hP hD hS => ?_)
  have hB := hB.same2 hz4
  refine lv_istore_n (lv' := [(2, .int r4), (0, .ref (ad v0)), (1, .int v1)]) hx hb d_Ma_value_13 rfl hl (by decide) (by first | rfl | simp [List.filter, cat_rf]) (fun ls hl => ?_)
  refine lv_iload_n hx hb d_Ma_value_14 rfl (lv_at hl 2 rfl) ?_
  by_cases hc8 : v1 = 8
  · rw [br_p _ hc8] at hf
    refine lv_tableIn (tgt := 68) hx hb d_Ma_value_15 (by rw [hc8]; decide) (by rw [hc8]; decide) (by rw [hc8]; rfl) (by decide) ?_
    refine lv_aload_n hx hb d_Ma_value_68 rfl (lv_at hl 1 rfl) ?_
    obtain ⟨r6, g6, hf⟩ := bo_some hf
    refine xg_R (i := v0) (k := 2) hx hb ht hown ck_Ma hK hP (by decide) fk_Ma_19 g6 d_Ma_value_69 ?_
    refine lv_aload_n hx hb d_Ma_value_72 rfl (lv_at hl 1 rfl) ?_
    obtain ⟨r7, g7, hf⟩ := bo_some hf
    refine xg_R (i := v0) (k := 3) hx hb ht hown ck_Ma hK hP (by decide) fk_Ma_23 g7 d_Ma_value_73 ?_
    obtain ⟨j8, ej8, hf⟩ := bo_some hf
    rw [ej8]
    obtain ⟨r9, g9, hf⟩ := bo_some hf
    refine xg_R (i := j8) (k := 2) hx hb ht hown ck_Pr hK hP (by decide) fk_Ma_195 g9 d_Ma_value_76 ?_
    refine lv_aload_n hx hb d_Ma_value_79 rfl (lv_at hl 1 rfl) ?_
    obtain ⟨r10, g10, hf⟩ := bo_some hf
    refine xg_R (i := v0) (k := 4) hx hb ht hown ck_Ma hK hP (by decide) fk_Ma_33 g10 d_Ma_value_80 ?_
    refine lv_iconst (v := 1) hx hb d_Ma_value_83 (by decide) ?_
    obtain ⟨j12, ej12, hf⟩ := bo_some hf
    rw [ej12]
    obtain ⟨hO9, hf⟩ := ck_some hf
    obtain ⟨u11, r11, hc11, hf⟩ := bx_some hf
    obtain ⟨hc11, hz11⟩ := gz_some hc11
    obtain ⟨hf, hw11⟩ := gw_some hf
    refine xV0 (i := j12) (As := [.int 1]) (rest := [va_rf (Option.map ad r9), va_rf (Option.map ad r6)]) C0 hP hD hS ck_Fr hO9 (c_Fr_below N hc11) k_Fr_below (wd_of 1653 (by decide +kernel) rfl) hi_Fr_below hs_Fr_below hini_Fr rfl rfl hd_Fr_below rfl rm_Ma_value_Fr_below hl.1 (c8 (Nat.le_of_ble_eq_true rfl)) d_Ma_value_84 rfl (hB.fit hm hz11 hw11) (fun H locs hP hD hS => ?_)
    have hB := hB.same2 hz11
    refine lv_aload_n hx hb d_Ma_value_87 rfl (lv_at hl 1 rfl) ?_
    obtain ⟨r13, g13, hf⟩ := bo_some hf
    refine xg_R (i := v0) (k := 4) hx hb ht hown ck_Ma hK hP (by decide) fk_Ma_33 g13 d_Ma_value_88 ?_
    refine lv_iconst (v := 0) hx hb d_Ma_value_91 (by decide) ?_
    obtain ⟨j15, ej15, hf⟩ := bo_some hf
    rw [ej15]
    obtain ⟨hO9, hf⟩ := ck_some hf
    obtain ⟨u14, r14, hc14, hf⟩ := bx_some hf
    obtain ⟨hc14, hz14⟩ := gz_some hc14
    obtain ⟨hf, hw14⟩ := gw_some hf
    refine xV0 (i := j15) (As := [.int 0]) (rest := [.long r11, va_rf (Option.map ad r9), va_rf (Option.map ad r6)]) C0 hP hD hS ck_Fr hO9 (c_Fr_below N hc14) k_Fr_below (wd_of 1653 (by decide +kernel) rfl) hi_Fr_below hs_Fr_below hini_Fr rfl rfl hd_Fr_below rfl rm_Ma_value_Fr_below hl.1 (c8 (Nat.le_of_ble_eq_true rfl)) d_Ma_value_92 rfl (hB.fit hm hz14 hw14) (fun H locs hP hD hS => ?_)
    have hB := hB.same2 hz14
    obtain ⟨j17, ej17, hf⟩ := bo_some hf
    rw [ej17]
    obtain ⟨hO9, hf⟩ := ck_some hf
    obtain ⟨u16, r16, hc16, hf⟩ := bx_some hf
    obtain ⟨hc16, hz16⟩ := gz_some hc16
    obtain ⟨hf, hw16⟩ := gw_some hf
    refine xV0 (i := j17) (As := [va_rf (Option.map ad r9), .long r11, .long r14]) (rest := []) C0 hP hD hS ck_Te hO9 (c_Te_order N hE hc16) k_Te_order (wd_of 1889 (by decide +kernel) rfl) hi_Te_order hs_Te_order hini_Te rfl rfl hd_Te_order rfl rm_Ma_value_Te_order hl.1 (Nat.le_of_ble_eq_true rfl) d_Ma_value_95 rfl (hB.fit hm hz16 hw16) (fun H locs hP hD hS => ?_)
    have hB := hB.same2 hz16
    refine lv_istore_n (lv' := [(3, .int r16), (2, .int r4), (0, .ref (ad v0)), (1, .int v1)]) hx hb d_Ma_value_98 rfl hl (by decide) (by first | rfl | simp [List.filter, cat_rf]) (fun ls hl => ?_)
    refine lv_aload_n hx hb d_Ma_value_99 rfl (lv_at hl 2 rfl) ?_
    refine lv_iconst (v := 2) hx hb d_Ma_value_100 (by decide) ?_
    refine lv_iload_n hx hb d_Ma_value_101 rfl (lv_at hl 1 rfl) ?_
    refine lv_iload_n hx hb d_Ma_value_102 rfl (lv_at hl 0 rfl) ?_
    obtain ⟨u18, r18, hc18, hf⟩ := bx_some hf
    obtain ⟨hc18, hz18⟩ := gz_some hc18
    obtain ⟨hf, hw18⟩ := gw_some hf
    refine xS0 (As := [.int r4, .int r16]) (rest := [.int 2, .ref (ad v0)]) C0 hP hD hS (c_Ma_holds N hc18) k_Ma_holds (wd_of 1907 (by decide +kernel) rfl) ht_Ma_holds hini_Ma rfl rfl hd_Ma_holds rfl rm_Ma_value_Ma_holds hl.1 (Nat.le_of_ble_eq_true rfl) d_Ma_value_103 rfl (hB.fit hm hz18 hw18) (fun H locs hP hD hS => ?_)
    have hB := hB.same2 hz18
    obtain ⟨u19, r19, hc19, hf⟩ := bx_some hf
    obtain ⟨hc19, hz19⟩ := gz_some hc19
    obtain ⟨hf, hw19⟩ := gw_some hf
    refine xS0 (As := [.int r18]) (rest := [.int 2, .ref (ad v0)]) C0 hP hD hS (c_Ma_truth N hc19) k_Ma_truth (wd_of 1779 (by decide +kernel) rfl) ht_Ma_truth hini_Ma rfl rfl hd_Ma_truth rfl rm_Ma_value_Ma_truth hl.1 (Nat.le_of_ble_eq_true rfl) d_Ma_value_106 rfl (hB.fit hm hz19 hw19) (fun H locs hP hD hS => ?_)
    have hB := hB.same2 hz19
    obtain ⟨hO9, hf⟩ := ck_some hf
    obtain ⟨hk20, hf⟩ := ck_some hf
    obtain ⟨u20, r20, hc20, hf⟩ := bx_some hf
    obtain ⟨hc20, hq20⟩ := gw_some hc20
    obtain ⟨hf, hw20⟩ := gw_some hf
    refine yV (i := v0) (As := [.int 2, .long r19]) (rest := []) C0 hP hD hS ck_Ma hO9 (c_Ma_answer N hE hc20 (gm hq20)) k_Ma_answer (wd_of 1744 (by decide +kernel) rfl) hi_Ma_answer hs_Ma_answer hini_Ma rfl rfl hd_Ma_answer rfl rm_Ma_value_Ma_answer hl.1 (Nat.le_of_ble_eq_true rfl) d_Ma_value_109 rfl (gm hq20) hB hm hw20 (fun ad20 H locs ce sl hg20 hB hP hD hS => ?_)
    have q20_0 : ad20 v0 = ad v0 := ko_O (k := 0) hk20 rfl hg20
    have hl : lv_has ls 4 [(3, .int r16), (2, .int r4), (0, .ref (ad20 v0)), (1, .int v1)] := by simp only [q20_0]; exact hl
    refine lv_aload_n hx hb d_Ma_value_112 rfl (lv_at hl 2 rfl) ?_
    refine lv_dup hx hb d_Ma_value_113 rfl ?_
    obtain ⟨r21, g21, hf⟩ := bo_some hf
    refine xg_I (i := v0) (k := 5) hx hb ht hown ck_Ma hK hP (by decide) fk_Ma_40 g21 d_Ma_value_114 ?_
    refine lv_iconst (v := 2) hx hb d_Ma_value_117 (by decide) ?_
    refine lv_iadd hx hb d_Ma_value_118 ?_
    obtain ⟨w22, g22, hf⟩ := bo_some hf
    refine xp (i := v0) (k := 5) (v := (.inl (r21 + 2))) hx hb ht hown ck_Ma hK hP hD hS (by decide) fk_Ma_40 rfl g22 rfl rfl d_Ma_value_119 (fun H locs hP hD hS => ?_)
    have hB := hB.same (pF_c g22)
    refine lv_goto (tgt := 240) hx hb d_Ma_value_122 (by decide) ?_
    exact wb_Ma_value_240 C0 hE N G hG _ _ hf hm _ _ _ hB H locs hP hD hS ls (lv_sub hl [] rfl)
  · rw [br_n _ hc8] at hf
    by_cases hc9 : v1 = 9
    · rw [br_p _ hc9] at hf
      refine lv_tableIn (tgt := 125) hx hb d_Ma_value_15 (by rw [hc9]; decide) (by rw [hc9]; decide) (by rw [hc9]; rfl) (by decide) ?_
      refine lv_aload_n hx hb d_Ma_value_125 rfl (lv_at hl 1 rfl) ?_
      refine lv_iload_n hx hb d_Ma_value_126 rfl (lv_at hl 0 rfl) ?_
      obtain ⟨hO9, hf⟩ := ck_some hf
      obtain ⟨hk23, hf⟩ := ck_some hf
      obtain ⟨u23, r23, hc23, hf⟩ := bx_some hf
      obtain ⟨hc23, hq23⟩ := gw_some hc23
      obtain ⟨hf, hw23⟩ := gw_some hf
      refine yV (i := v0) (As := [.int r4]) (rest := []) C0 hP hD hS ck_Ma hO9 (c_Ma_arithmetic N hE hc23 (gm hq23)) k_Ma_arithmetic (wd_of 1910 (by decide +kernel) rfl) hi_Ma_arithmetic hs_Ma_arithmetic hini_Ma rfl rfl hd_Ma_arithmetic rfl rm_Ma_value_Ma_arithmetic hl.1 (Nat.le_of_ble_eq_true rfl) d_Ma_value_127 rfl (gm hq23) hB hm hw23 (fun ad23 H locs ce sl hg23 hB hP hD hS => ?_)
      have q23_0 : ad23 v0 = ad v0 := ko_O (k := 0) hk23 rfl hg23
      have hl : lv_has ls 4 [(2, .int r4), (0, .ref (ad23 v0)), (1, .int v1)] := by simp only [q23_0]; exact hl
      refine lv_goto (tgt := 240) hx hb d_Ma_value_130 (by decide) ?_
      exact wb_Ma_value_240 C0 hE N G hG _ _ hf hm _ _ _ hB H locs hP hD hS ls (lv_sub hl [] rfl)
    · rw [br_n _ hc9] at hf
      by_cases hc10 : v1 = 10
      · rw [br_p _ hc10] at hf
        refine lv_tableIn (tgt := 215) hx hb d_Ma_value_15 (by rw [hc10]; decide) (by rw [hc10]; decide) (by rw [hc10]; rfl) (by decide) ?_
        refine lv_iload_n hx hb d_Ma_value_215 rfl (lv_at hl 0 rfl) ?_
        refine lv_bipush (v := 43) hx hb d_Ma_value_216 (by decide) ?_
        refine lv_icmp_ne (tgt := 228) hx hb d_Ma_value_218 (by decide) (fun hc => ?_) (fun hc => ?_)
        · rw [br_n _ hc] at hf
          refine lv_aload_n hx hb d_Ma_value_228 rfl (lv_at hl 1 rfl) ?_
          obtain ⟨hO9, hf⟩ := ck_some hf
          obtain ⟨hk24, hf⟩ := ck_some hf
          obtain ⟨u24, r24, hc24, hf⟩ := bx_some hf
          obtain ⟨hc24, hq24⟩ := gw_some hc24
          obtain ⟨hf, hw24⟩ := gw_some hf
          refine yV (i := v0) (As := []) (rest := []) C0 hP hD hS ck_Ma hO9 (c_Ma_without N hE hc24 (gm hq24)) k_Ma_without (wd_of 1942 (by decide +kernel) rfl) hi_Ma_without hs_Ma_without hini_Ma rfl rfl hd_Ma_without rfl rm_Ma_value_Ma_without hl.1 (Nat.le_of_ble_eq_true rfl) d_Ma_value_229 rfl (gm hq24) hB hm hw24 (fun ad24 H locs ce sl hg24 hB hP hD hS => ?_)
          have q24_0 : ad24 v0 = ad v0 := ko_O (k := 0) hk24 rfl hg24
          have hl : lv_has ls 4 [(2, .int r4), (0, .ref (ad24 v0)), (1, .int v1)] := by simp only [q24_0]; exact hl
          refine lv_goto (tgt := 240) hx hb d_Ma_value_232 (by decide) ?_
          exact wb_Ma_value_240 C0 hE N G hG _ _ hf hm _ _ _ hB H locs hP hD hS ls (lv_sub hl [] rfl)
        · rw [br_p _ hc] at hf
          refine lv_aload_n hx hb d_Ma_value_221 rfl (lv_at hl 1 rfl) ?_
          obtain ⟨hO9, hf⟩ := ck_some hf
          obtain ⟨hk25, hf⟩ := ck_some hf
          obtain ⟨u25, r25, hc25, hf⟩ := bx_some hf
          obtain ⟨hc25, hq25⟩ := gw_some hc25
          obtain ⟨hf, hw25⟩ := gw_some hf
          refine yV (i := v0) (As := []) (rest := []) C0 hP hD hS ck_Ma hO9 (c_Ma_join N hE hc25 (gm hq25)) k_Ma_join (wd_of 1938 (by decide +kernel) rfl) hi_Ma_join hs_Ma_join hini_Ma rfl rfl hd_Ma_join rfl rm_Ma_value_Ma_join hl.1 (Nat.le_of_ble_eq_true rfl) d_Ma_value_222 rfl (gm hq25) hB hm hw25 (fun ad25 H locs ce sl hg25 hB hP hD hS => ?_)
          have q25_0 : ad25 v0 = ad v0 := ko_O (k := 0) hk25 rfl hg25
          have hl : lv_has ls 4 [(2, .int r4), (0, .ref (ad25 v0)), (1, .int v1)] := by simp only [q25_0]; exact hl
          refine lv_goto (tgt := 240) hx hb d_Ma_value_225 (by decide) ?_
          exact wb_Ma_value_240 C0 hE N G hG _ _ hf hm _ _ _ hB H locs hP hD hS ls (lv_sub hl [] rfl)
      · rw [br_n _ hc10] at hf
        by_cases hc11 : v1 = 11
        · rw [br_p _ hc11] at hf
          refine lv_tableIn (tgt := 133) hx hb d_Ma_value_15 (by rw [hc11]; decide) (by rw [hc11]; decide) (by rw [hc11]; rfl) (by decide) ?_
          refine lv_aload_n hx hb d_Ma_value_133 rfl (lv_at hl 1 rfl) ?_
          obtain ⟨hO9, hf⟩ := ck_some hf
          obtain ⟨hk26, hf⟩ := ck_some hf
          obtain ⟨u26, r26, hc26, hf⟩ := bx_some hf
          obtain ⟨hc26, hq26⟩ := gw_some hc26
          obtain ⟨hf, hw26⟩ := gw_some hf
          refine yV (i := v0) (As := []) (rest := []) C0 hP hD hS ck_Ma hO9 (c_Ma_negate N hE hc26 (gm hq26)) k_Ma_negate (wd_of 1918 (by decide +kernel) rfl) hi_Ma_negate hs_Ma_negate hini_Ma rfl rfl hd_Ma_negate rfl rm_Ma_value_Ma_negate hl.1 (Nat.le_of_ble_eq_true rfl) d_Ma_value_134 rfl (gm hq26) hB hm hw26 (fun ad26 H locs ce sl hg26 hB hP hD hS => ?_)
          have q26_0 : ad26 v0 = ad v0 := ko_O (k := 0) hk26 rfl hg26
          have hl : lv_has ls 4 [(2, .int r4), (0, .ref (ad26 v0)), (1, .int v1)] := by simp only [q26_0]; exact hl
          refine lv_goto (tgt := 240) hx hb d_Ma_value_137 (by decide) ?_
          exact wb_Ma_value_240 C0 hE N G hG _ _ hf hm _ _ _ hB H locs hP hD hS ls (lv_sub hl [] rfl)
        · rw [br_n _ hc11] at hf
          by_cases hc12 : v1 = 12
          · rw [br_p _ hc12] at hf
            refine lv_tableIn (tgt := 140) hx hb d_Ma_value_15 (by rw [hc12]; decide) (by rw [hc12]; decide) (by rw [hc12]; rfl) (by decide) ?_
            refine lv_aload_n hx hb d_Ma_value_140 rfl (lv_at hl 1 rfl) ?_
            obtain ⟨hO9, hf⟩ := ck_some hf
            obtain ⟨hk27, hf⟩ := ck_some hf
            obtain ⟨u27, r27, hc27, hf⟩ := bx_some hf
            obtain ⟨hc27, hq27⟩ := gw_some hc27
            obtain ⟨hf, hw27⟩ := gw_some hf
            refine yV (i := v0) (As := []) (rest := []) C0 hP hD hS ck_Ma hO9 (c_Ma_not N hE hc27 (gm hq27)) k_Ma_not (wd_of 1922 (by decide +kernel) rfl) hi_Ma_not hs_Ma_not hini_Ma rfl rfl hd_Ma_not rfl rm_Ma_value_Ma_not hl.1 (Nat.le_of_ble_eq_true rfl) d_Ma_value_141 rfl (gm hq27) hB hm hw27 (fun ad27 H locs ce sl hg27 hB hP hD hS => ?_)
            have q27_0 : ad27 v0 = ad v0 := ko_O (k := 0) hk27 rfl hg27
            have hl : lv_has ls 4 [(2, .int r4), (0, .ref (ad27 v0)), (1, .int v1)] := by simp only [q27_0]; exact hl
            refine lv_goto (tgt := 240) hx hb d_Ma_value_144 (by decide) ?_
            exact wb_Ma_value_240 C0 hE N G hG _ _ hf hm _ _ _ hB H locs hP hD hS ls (lv_sub hl [] rfl)
          · rw [br_n _ hc12] at hf
            by_cases hc13 : v1 = 13
            · rw [br_p _ hc13] at hf
              refine lv_tableIn (tgt := 147) hx hb d_Ma_value_15 (by rw [hc13]; decide) (by rw [hc13]; decide) (by rw [hc13]; rfl) (by decide) ?_
              refine lv_aload_n hx hb d_Ma_value_147 rfl (lv_at hl 1 rfl) ?_
              refine lv_iload_n hx hb d_Ma_value_148 rfl (lv_at hl 2 rfl) ?_
              refine lv_bipush (v := 13) hx hb d_Ma_value_149 (by decide) ?_
              refine lv_icmp_ne (tgt := 158) hx hb d_Ma_value_151 (by decide) (fun hc => ?_) (fun hc => ?_)
              · rw [br_n _ hc] at hf
                refine lv_iconst (v := 0) hx hb d_Ma_value_158 (by decide) ?_
                exact wb_Ma_value_159 C0 hE N G hG _ _ _ _ _ hf hm _ _ _ hB H locs hP hD hS ls (lv_sub hl [0] rfl)
              · rw [br_p _ hc] at hf
                refine lv_iconst (v := 1) hx hb d_Ma_value_154 (by decide) ?_
                refine lv_goto (tgt := 159) hx hb d_Ma_value_155 (by decide) ?_
                exact wb_Ma_value_159 C0 hE N G hG _ _ _ _ _ hf hm _ _ _ hB H locs hP hD hS ls (lv_sub hl [0] rfl)
            · rw [br_n _ hc13] at hf
              by_cases hc14 : v1 = 14
              · rw [br_p _ hc14] at hf
                refine lv_tableIn (tgt := 147) hx hb d_Ma_value_15 (by rw [hc14]; decide) (by rw [hc14]; decide) (by rw [hc14]; rfl) (by decide) ?_
                refine lv_aload_n hx hb d_Ma_value_147 rfl (lv_at hl 1 rfl) ?_
                refine lv_iload_n hx hb d_Ma_value_148 rfl (lv_at hl 2 rfl) ?_
                refine lv_bipush (v := 13) hx hb d_Ma_value_149 (by decide) ?_
                refine lv_icmp_ne (tgt := 158) hx hb d_Ma_value_151 (by decide) (fun hc => ?_) (fun hc => ?_)
                · rw [br_n _ hc] at hf
                  refine lv_iconst (v := 0) hx hb d_Ma_value_158 (by decide) ?_
                  exact wb_Ma_value_159 C0 hE N G hG _ _ _ _ _ hf hm _ _ _ hB H locs hP hD hS ls (lv_sub hl [0] rfl)
                · rw [br_p _ hc] at hf
                  refine lv_iconst (v := 1) hx hb d_Ma_value_154 (by decide) ?_
                  refine lv_goto (tgt := 159) hx hb d_Ma_value_155 (by decide) ?_
                  exact wb_Ma_value_159 C0 hE N G hG _ _ _ _ _ hf hm _ _ _ hB H locs hP hD hS ls (lv_sub hl [0] rfl)
              · rw [br_n _ hc14] at hf
                by_cases hc15 : v1 = 15
                · rw [br_p _ hc15] at hf
                  refine lv_tableIn (tgt := 166) hx hb d_Ma_value_15 (by rw [hc15]; decide) (by rw [hc15]; decide) (by rw [hc15]; rfl) (by decide) ?_
                  refine lv_aload_n hx hb d_Ma_value_166 rfl (lv_at hl 1 rfl) ?_
                  obtain ⟨r28, g28, hf⟩ := bo_some hf
                  refine xg_R (i := v0) (k := 4) hx hb ht hown ck_Ma hK hP (by decide) fk_Ma_33 g28 d_Ma_value_167 ?_
                  refine lv_iconst (v := 1) hx hb d_Ma_value_170 (by decide) ?_
                  obtain ⟨j30, ej30, hf⟩ := bo_some hf
                  rw [ej30]
                  obtain ⟨hO9, hf⟩ := ck_some hf
                  obtain ⟨u29, r29, hc29, hf⟩ := bx_some hf
                  obtain ⟨hc29, hz29⟩ := gz_some hc29
                  obtain ⟨hf, hw29⟩ := gw_some hf
                  refine xV0 (i := j30) (As := [.int 1]) (rest := []) C0 hP hD hS ck_Fr hO9 (c_Fr_drop N hE hc29) k_Fr_drop (wd_of 1748 (by decide +kernel) rfl) hi_Fr_drop hs_Fr_drop hini_Fr rfl rfl hd_Fr_drop rfl rm_Ma_value_Fr_drop hl.1 (Nat.le_of_ble_eq_true rfl) d_Ma_value_171 rfl (hB.fit hm hz29 hw29) (fun H locs hP hD hS => ?_)
                  have hB := hB.same2 hz29
                  refine lv_aload_n hx hb d_Ma_value_174 rfl (lv_at hl 1 rfl) ?_
                  refine lv_dup hx hb d_Ma_value_175 rfl ?_
                  obtain ⟨r31, g31, hf⟩ := bo_some hf
                  refine xg_I (i := v0) (k := 5) hx hb ht hown ck_Ma hK hP (by decide) fk_Ma_40 g31 d_Ma_value_176 ?_
                  refine lv_iconst (v := 1) hx hb d_Ma_value_179 (by decide) ?_
                  refine lv_iadd hx hb d_Ma_value_180 ?_
                  obtain ⟨w32, g32, hf⟩ := bo_some hf
                  refine xp (i := v0) (k := 5) (v := (.inl (r31 + 1))) hx hb ht hown ck_Ma hK hP hD hS (by decide) fk_Ma_40 rfl g32 rfl rfl d_Ma_value_181 (fun H locs hP hD hS => ?_)
                  have hB := hB.same (pF_c g32)
                  refine lv_goto (tgt := 240) hx hb d_Ma_value_184 (by decide) ?_
                  exact wb_Ma_value_240 C0 hE N G hG _ _ hf hm _ _ _ hB H locs hP hD hS ls (lv_sub hl [] rfl)
                · rw [br_n _ hc15] at hf
                  by_cases hc16 : v1 = 16
                  · rw [br_p _ hc16] at hf
                    refine lv_tableIn (tgt := 187) hx hb d_Ma_value_15 (by rw [hc16]; decide) (by rw [hc16]; decide) (by rw [hc16]; rfl) (by decide) ?_
                    refine lv_aload_n hx hb d_Ma_value_187 rfl (lv_at hl 1 rfl) ?_
                    obtain ⟨r33, g33, hf⟩ := bo_some hf
                    refine xg_R (i := v0) (k := 4) hx hb ht hown ck_Ma hK hP (by decide) fk_Ma_33 g33 d_Ma_value_188 ?_
                    refine lv_iload_n hx hb d_Ma_value_191 rfl (lv_at hl 0 rfl) ?_
                    obtain ⟨j35, ej35, hf⟩ := bo_some hf
                    rw [ej35]
                    obtain ⟨hO9, hf⟩ := ck_some hf
                    obtain ⟨u34, r34, hc34, hf⟩ := bx_some hf
                    obtain ⟨hc34, hz34⟩ := gz_some hc34
                    obtain ⟨hf, hw34⟩ := gw_some hf
                    refine xV0 (i := j35) (As := [.int r4]) (rest := []) C0 hP hD hS ck_Fr hO9 (c_Fr_forget N hE hc34) k_Fr_forget (wd_of 1930 (by decide +kernel) rfl) hi_Fr_forget hs_Fr_forget hini_Fr rfl rfl hd_Fr_forget rfl rm_Ma_value_Fr_forget hl.1 (Nat.le_of_ble_eq_true rfl) d_Ma_value_192 rfl (hB.fit hm hz34 hw34) (fun H locs hP hD hS => ?_)
                    have hB := hB.same2 hz34
                    refine lv_aload_n hx hb d_Ma_value_195 rfl (lv_at hl 1 rfl) ?_
                    refine lv_dup hx hb d_Ma_value_196 rfl ?_
                    obtain ⟨r36, g36, hf⟩ := bo_some hf
                    refine xg_I (i := v0) (k := 5) hx hb ht hown ck_Ma hK hP (by decide) fk_Ma_40 g36 d_Ma_value_197 ?_
                    refine lv_iconst (v := 2) hx hb d_Ma_value_200 (by decide) ?_
                    refine lv_iadd hx hb d_Ma_value_201 ?_
                    obtain ⟨w37, g37, hf⟩ := bo_some hf
                    refine xp (i := v0) (k := 5) (v := (.inl (r36 + 2))) hx hb ht hown ck_Ma hK hP hD hS (by decide) fk_Ma_40 rfl g37 rfl rfl d_Ma_value_202 (fun H locs hP hD hS => ?_)
                    have hB := hB.same (pF_c g37)
                    refine lv_goto (tgt := 240) hx hb d_Ma_value_205 (by decide) ?_
                    exact wb_Ma_value_240 C0 hE N G hG _ _ hf hm _ _ _ hB H locs hP hD hS ls (lv_sub hl [] rfl)
                  · rw [br_n _ hc16] at hf
                    by_cases hc17 : v1 = 17
                    · rw [br_p _ hc17] at hf
                      refine lv_tableIn (tgt := 208) hx hb d_Ma_value_15 (by rw [hc17]; decide) (by rw [hc17]; decide) (by rw [hc17]; rfl) (by decide) ?_
                      refine lv_aload_n hx hb d_Ma_value_208 rfl (lv_at hl 1 rfl) ?_
                      obtain ⟨hO9, hf⟩ := ck_some hf
                      obtain ⟨hk38, hf⟩ := ck_some hf
                      obtain ⟨u38, r38, hc38, hf⟩ := bx_some hf
                      obtain ⟨hc38, hq38⟩ := gw_some hc38
                      obtain ⟨hf, hw38⟩ := gw_some hf
                      refine yV (i := v0) (As := []) (rest := []) C0 hP hD hS ck_Ma hO9 (c_Ma_sendTo N hE hc38 (gm hq38)) k_Ma_sendTo (wd_of 1934 (by decide +kernel) rfl) hi_Ma_sendTo hs_Ma_sendTo hini_Ma rfl rfl hd_Ma_sendTo rfl rm_Ma_value_Ma_sendTo hl.1 (Nat.le_of_ble_eq_true rfl) d_Ma_value_209 rfl (gm hq38) hB hm hw38 (fun ad38 H locs ce sl hg38 hB hP hD hS => ?_)
                      have q38_0 : ad38 v0 = ad v0 := ko_O (k := 0) hk38 rfl hg38
                      have hl : lv_has ls 4 [(2, .int r4), (0, .ref (ad38 v0)), (1, .int v1)] := by simp only [q38_0]; exact hl
                      refine lv_goto (tgt := 240) hx hb d_Ma_value_212 (by decide) ?_
                      exact wb_Ma_value_240 C0 hE N G hG _ _ hf hm _ _ _ hB H locs hP hD hS ls (lv_sub hl [] rfl)
                    · rw [br_n _ hc17] at hf
                      refine lv_tableOut (tgt := 235) hx hb d_Ma_value_15 (by have z0 := tiN hc8; have z1 := tiN hc9; have z2 := tiN hc10; have z3 := tiN hc11; have z4 := tiN hc12; have z5 := tiN hc13; have z6 := tiN hc14; have z7 := tiN hc15; have z8 := tiN hc16; have z9 := tiN hc17; rw [show (8 : Int32).toInt = 8 from by decide] at z0; rw [show (9 : Int32).toInt = 9 from by decide] at z1; rw [show (10 : Int32).toInt = 10 from by decide] at z2; rw [show (11 : Int32).toInt = 11 from by decide] at z3; rw [show (12 : Int32).toInt = 12 from by decide] at z4; rw [show (13 : Int32).toInt = 13 from by decide] at z5; rw [show (14 : Int32).toInt = 14 from by decide] at z6; rw [show (15 : Int32).toInt = 15 from by decide] at z7; rw [show (16 : Int32).toInt = 16 from by decide] at z8; rw [show (17 : Int32).toInt = 17 from by decide] at z9; omega) (by decide) ?_
                      refine lv_aload_n hx hb d_Ma_value_235 rfl (lv_at hl 1 rfl) ?_
                      refine lv_iconst (v := 1) hx hb d_Ma_value_236 (by decide) ?_
                      obtain ⟨w39, g39, hf⟩ := bo_some hf
                      refine xp (i := v0) (k := 8) (v := (.inl 1)) hx hb ht hown ck_Ma hK hP hD hS (by decide) fk_Ma_50 rfl g39 rfl rfl d_Ma_value_237 (fun H locs hP hD hS => ?_)
                      have hB := hB.same (pF_c g39)
                      exact wb_Ma_value_240 C0 hE N G hG _ _ hf hm _ _ _ hB H locs hP hD hS ls (lv_sub hl [] rfl)
def fm_Ma_value (N : Nat) (u : CS) (v0 : Nat) (v1 : Int32) : Option (CS × Unit) := fb_Ma_value_0 N () u v0 v1
set_option maxRecDepth 100000 in
set_option maxHeartbeats 4000000 in
theorem c_Ma_value (N : Nat) {l : Launch} {s0 : State} {b0 : Nat} {D : va_G} {cB cI cJ cZ cS cP : ClassId} {sk sv : Nat → Nat} {ad : Nat → Nat} {u : CS} {sz mc ms : Nat} {v0 : Nat} {v1 : Int32} {x : CS × Unit} (hE : ENV s0 b0 sk sv) (hf : fm_Ma_value N u v0 v1 = some x) (hm : u.1.1 + mc = x.1.1.1 ∧ u.1.2 + ms = x.1.1.2) : Met l y_Ma_value (wd_ws y_Ma_value b_Ma_value 4 none) (rm_Ma_value mc ms) (xPc s0 b0 D cB cI cJ cZ cS cP ad u sz [.ref (ad v0), .int v1]) (xQ D cB cI cJ cZ cS cP (xA cB cI cJ cZ cS cP ad u sz) ad u.1.1 x.1 none) mc ms (xA cB cI cJ cZ cS cP ad u sz) :=
  xMet (by decide) rfl (Nat.le_of_ble_eq_true rfl) (fun p e s m below meth c ls hsz hnm C0 hP hD hS hl =>
    wb_Ma_value_0 C0 hE N () trivial u _ _ x hf hm ad 0 0 ⟨rfl, rfl, fun _ _ => rfl⟩ s.heap [] hP hD hS ls (lv_sub hl [0, 1] rfl))
