abbrev b_Pa_clause : ByteArray := prog_6_method_9_code
def y_Pa_clause : MethodName := ⟨R_Pa, "clause", "()I"⟩
def w_Pa_clause : List Cond := wd_ws y_Pa_clause b_Pa_clause 3 (some .int)
set_option maxRecDepth 100000 in
theorem k_Pa_clause : Cond.code y_Pa_clause b_Pa_clause 3 (some .int) ∈ wd_tbl := wd_of 979 rfl rfl
theorem d_Pa_clause_0 : decode b_Pa_clause 0 = .ok (.aload_n 0, 1) := by decide +kernel
theorem d_Pa_clause_1 : decode b_Pa_clause 1 = .ok (.iconst 2, 1) := by decide +kernel
theorem d_Pa_clause_2 : decode b_Pa_clause 2 = .ok (.invokevirtual 81, 3) := by decide +kernel
theorem d_Pa_clause_5 : decode b_Pa_clause 5 = .ok (.istore_n 1, 1) := by decide +kernel
theorem d_Pa_clause_6 : decode b_Pa_clause 6 = .ok (.aload_n 0, 1) := by decide +kernel
theorem d_Pa_clause_7 : decode b_Pa_clause 7 = .ok (.bipush 20, 2) := by decide +kernel
theorem d_Pa_clause_9 : decode b_Pa_clause 9 = .ok (.invokevirtual 81, 3) := by decide +kernel
theorem d_Pa_clause_12 : decode b_Pa_clause 12 = .ok (.pop, 1) := by decide +kernel
theorem d_Pa_clause_13 : decode b_Pa_clause 13 = .ok (.aload_n 0, 1) := by decide +kernel
theorem d_Pa_clause_14 : decode b_Pa_clause 14 = .ok (.iconst 1, 1) := by decide +kernel
theorem d_Pa_clause_15 : decode b_Pa_clause 15 = .ok (.bipush 6, 2) := by decide +kernel
theorem d_Pa_clause_17 : decode b_Pa_clause 17 = .ok (.bipush 21, 2) := by decide +kernel
theorem d_Pa_clause_19 : decode b_Pa_clause 19 = .ok (.invokevirtual 101, 3) := by decide +kernel
theorem d_Pa_clause_22 : decode b_Pa_clause 22 = .ok (.istore_n 2, 1) := by decide +kernel
theorem d_Pa_clause_23 : decode b_Pa_clause 23 = .ok (.aload_n 0, 1) := by decide +kernel
theorem d_Pa_clause_24 : decode b_Pa_clause 24 = .ok (.iload_n 1, 1) := by decide +kernel
theorem d_Pa_clause_25 : decode b_Pa_clause 25 = .ok (.iload_n 2, 1) := by decide +kernel
theorem d_Pa_clause_26 : decode b_Pa_clause 26 = .ok (.invokevirtual 105, 3) := by decide +kernel
theorem d_Pa_clause_29 : decode b_Pa_clause 29 = .ok (.ireturn, 1) := by decide +kernel
set_option maxRecDepth 100000 in
theorem hl_Pa_clause : Cond.methodLink R_Pa 74 y_Pa_clause ∈ wd_tbl := wd_of 976 (by decide +kernel) rfl
set_option maxRecDepth 100000 in
theorem hi_Pa_clause : Cond.instanceMethod y_Pa_clause ∈ wd_tbl := wd_of 978 (by decide +kernel) rfl
set_option maxRecDepth 100000 in
theorem hs_Pa_clause : Cond.selects R_Pa y_Pa_clause y_Pa_clause ∈ wd_tbl := wd_of 11 (by decide +kernel) rfl
theorem hd_Pa_clause : y_Pa_clause.cls = R_Pa ∧ y_Pa_clause.cls ≠ "java/lang/invoke/MethodHandle" ∧ y_Pa_clause.cls ≠ "java/lang/invoke/VarHandle" ∧ (parseMethodDescriptor y_Pa_clause.desc).map (fun d => d.parameters.length) = some 0 := by decide +kernel
def rm_Pa_clause (mc ms : Nat) : Room := { frames := 602, cells := mc, slots := ms, locals := 14746 }
theorem rm_Pa_clause_Pa_need {x : CS × (Int32 ⊕ Nat)} {mc2 ms2 : Nat} : (rm_Pa_need mc2 ms2).frames + 1 ≤ (rm_Pa_clause (tc x.2) (tsl x.2)).frames ∧ 8 + (2 + 11) + (rm_Pa_need mc2 ms2).locals ≤ (rm_Pa_clause (tc x.2) (tsl x.2)).locals := by
  show 8 + 1 ≤ 602 ∧ 8 + (2 + 11) + 131 ≤ 14746
  decide
theorem rm_Pa_clause_Pa_rowUpTo {x : CS × (Int32 ⊕ Nat)} {mc2 ms2 : Nat} : (rm_Pa_rowUpTo mc2 ms2).frames + 1 ≤ (rm_Pa_clause (tc x.2) (tsl x.2)).frames ∧ 8 + (5 + 11) + (rm_Pa_rowUpTo mc2 ms2).locals ≤ (rm_Pa_clause (tc x.2) (tsl x.2)).locals := by
  show 601 + 1 ≤ 602 ∧ 8 + (5 + 11) + 14722 ≤ 14746
  decide
theorem rm_Pa_clause_Pa_part {x : CS × (Int32 ⊕ Nat)} {mc2 ms2 : Nat} : (rm_Pa_part mc2 ms2).frames + 1 ≤ (rm_Pa_clause (tc x.2) (tsl x.2)).frames ∧ 8 + (4 + 11) + (rm_Pa_part mc2 ms2).locals ≤ (rm_Pa_clause (tc x.2) (tsl x.2)).locals := by
  show 601 + 1 ≤ 602 ∧ 8 + (4 + 11) + 14722 ≤ 14746
  decide
def fb_Pa_clause_0 (N : Nat) (G : Unit) (u : CS) (v0 : Nat) : Option (CS × (Int32 ⊕ Nat)) := ck (isO u v0 6) (bT (fm_Pa_need N u v0 2) (fun u1 r1 => ck (isO u1 v0 6) (bT (fm_Pa_need N u1 v0 20) (fun u2 r2 => ck (isO u2 v0 6) (bT (fr_Pa_rowUpTo N u2 v0 1 6 21) (fun u3 r3 => ck (isO u3 v0 6) (bT (fr_Pa_part N u3 v0 r1 r3) (fun u4 r4 => some (u4, .inl r4)))))))))
set_option maxRecDepth 100000 in
set_option maxHeartbeats 4000000 in
theorem wb_Pa_clause_0 {p : Program} {l : Launch} {e : Env} {s : State} {m : MethodId} {args : Array Value} {below : List Frame} {meth : Method} {c : Code} {s0 : State} {b0 : Nat} {D : va_G} {cB cI cJ cZ cS cP : ClassId} {A : Nat → Prop} {sk sv : Nat → Nat} {ad : Nat → Nat} (C0 : XCx p s s0 b0 m args meth c R_Pa b_Pa_clause 3 (some .int) D cB cI cJ cZ cS cP A) (hE : ENV s0 b0 sk sv) (hno : c.exceptionTable.isEmpty = true) (hL : l.stackTraces = false) (N : Nat) (G : Unit) (hG : True) : ∀ (u : CS) (v0 : Nat) (x : CS × (Int32 ⊕ Nat)), fb_Pa_clause_0 N G u v0 = some x → ∀ (H : Heap) (locs : List Loc), va_P D cls (wC cB cI cJ cZ cS cP ad u) H → va_D A (wC cB cI cJ cZ cS cP ad u) → va_S A s.heap H locs → ∀ (ls : Array Slot), lv_has ls 3 [(0, .ref (ad v0))] → W p l e (rm_Pa_clause (tc x.2) (tsl x.2)) s m args below meth c H locs 0 0 (MQX below (xQx D cB cI cJ cZ cS cP A ad (fun v => some (.inl v)) x) args s (tc x.2) (tsl x.2) A) (F0 m 0 ls []) := by
  intro u v0 x hf H locs hP hD hS ls hl
  obtain ⟨hx, hb, hr, hml, ht, hown, hK, hA, hlocks, hA0, hO, hbs⟩ := id C0
  unfold fb_Pa_clause_0 at hf
  refine lv_aload_n hx hb d_Pa_clause_0 rfl (lv_at hl 0 rfl) ?_
  refine lv_iconst (v := 2) hx hb d_Pa_clause_1 (by decide) ?_
  obtain ⟨hO9, hf⟩ := ck_some hf
  rcases (bT_some hf).symm with ⟨u1, k1, hc1, rfl⟩ | ⟨u1, r1, hc1, hf⟩
  · exact x_thrown C0 hD hS (xV_run (i := v0) (As := [.int 2]) (rest := []) C0 hP hD hS ck_Pa hO9 (metx_thr (c_Pa_need N hE hL hc1)) k_Pa_need (wd_of 980 (by decide +kernel) rfl) hi_Pa_need hs_Pa_need hini_Pa rfl rfl hd_Pa_need rfl rm_Pa_clause_Pa_need hl.1 (Nat.le_of_ble_eq_true rfl) d_Pa_clause_2 rfl ⟨Nat.le_of_ble_eq_true rfl, Nat.le_of_ble_eq_true rfl⟩) (fun v9 cell9 H locs hP hD hS h91 h92 h93 => xt_leave C0 (out_none hno _) hP hD hS h91 h92 h93)
  refine xV0 (i := v0) (As := [.int 2]) (rest := []) C0 hP hD hS ck_Pa hO9 (metx_ret (c_Pa_need N hE hL hc1)) k_Pa_need (wd_of 980 (by decide +kernel) rfl) hi_Pa_need hs_Pa_need hini_Pa rfl rfl hd_Pa_need rfl rm_Pa_clause_Pa_need hl.1 (Nat.le_of_ble_eq_true rfl) d_Pa_clause_2 rfl ⟨Nat.zero_le _, Nat.zero_le _⟩ (fun H locs hP hD hS => ?_)
  refine lv_istore_n (lv' := [(1, .int r1), (0, .ref (ad v0))]) hx hb d_Pa_clause_5 rfl hl (by decide) (by first | rfl | simp [List.filter, cat_rf]) (fun ls hl => ?_)
  refine lv_aload_n hx hb d_Pa_clause_6 rfl (lv_at hl 1 rfl) ?_
  refine lv_bipush (v := 20) hx hb d_Pa_clause_7 (by decide) ?_
  obtain ⟨hO9, hf⟩ := ck_some hf
  rcases (bT_some hf).symm with ⟨u2, k2, hc2, rfl⟩ | ⟨u2, r2, hc2, hf⟩
  · exact x_thrown C0 hD hS (xV_run (i := v0) (As := [.int 20]) (rest := []) C0 hP hD hS ck_Pa hO9 (metx_thr (c_Pa_need N hE hL hc2)) k_Pa_need (wd_of 980 (by decide +kernel) rfl) hi_Pa_need hs_Pa_need hini_Pa rfl rfl hd_Pa_need rfl rm_Pa_clause_Pa_need hl.1 (Nat.le_of_ble_eq_true rfl) d_Pa_clause_9 rfl ⟨Nat.le_of_ble_eq_true rfl, Nat.le_of_ble_eq_true rfl⟩) (fun v9 cell9 H locs hP hD hS h91 h92 h93 => xt_leave C0 (out_none hno _) hP hD hS h91 h92 h93)
  refine xV0 (i := v0) (As := [.int 20]) (rest := []) C0 hP hD hS ck_Pa hO9 (metx_ret (c_Pa_need N hE hL hc2)) k_Pa_need (wd_of 980 (by decide +kernel) rfl) hi_Pa_need hs_Pa_need hini_Pa rfl rfl hd_Pa_need rfl rm_Pa_clause_Pa_need hl.1 (Nat.le_of_ble_eq_true rfl) d_Pa_clause_9 rfl ⟨Nat.zero_le _, Nat.zero_le _⟩ (fun H locs hP hD hS => ?_)
  refine lv_pop hx hb d_Pa_clause_12 rfl ?_
  refine lv_aload_n hx hb d_Pa_clause_13 rfl (lv_at hl 1 rfl) ?_
  refine lv_iconst (v := 1) hx hb d_Pa_clause_14 (by decide) ?_
  refine lv_bipush (v := 6) hx hb d_Pa_clause_15 (by decide) ?_
  refine lv_bipush (v := 21) hx hb d_Pa_clause_17 (by decide) ?_
  obtain ⟨hO9, hf⟩ := ck_some hf
  rcases (bT_some hf).symm with ⟨u3, k3, hc3, rfl⟩ | ⟨u3, r3, hc3, hf⟩
  · exact x_thrown C0 hD hS (xV_run (i := v0) (As := [.int 1, .int 6, .int 21]) (rest := []) C0 hP hD hS ck_Pa hO9 (metx_thr (c_Pa_rowUpTo N hE hL hc3)) k_Pa_rowUpTo (wd_of 984 (by decide +kernel) rfl) hi_Pa_rowUpTo hs_Pa_rowUpTo hini_Pa rfl rfl hd_Pa_rowUpTo rfl rm_Pa_clause_Pa_rowUpTo hl.1 (Nat.le_of_ble_eq_true rfl) d_Pa_clause_19 rfl ⟨Nat.le_of_ble_eq_true rfl, Nat.le_of_ble_eq_true rfl⟩) (fun v9 cell9 H locs hP hD hS h91 h92 h93 => xt_leave C0 (out_none hno _) hP hD hS h91 h92 h93)
  refine xV0 (i := v0) (As := [.int 1, .int 6, .int 21]) (rest := []) C0 hP hD hS ck_Pa hO9 (metx_ret (c_Pa_rowUpTo N hE hL hc3)) k_Pa_rowUpTo (wd_of 984 (by decide +kernel) rfl) hi_Pa_rowUpTo hs_Pa_rowUpTo hini_Pa rfl rfl hd_Pa_rowUpTo rfl rm_Pa_clause_Pa_rowUpTo hl.1 (Nat.le_of_ble_eq_true rfl) d_Pa_clause_19 rfl ⟨Nat.zero_le _, Nat.zero_le _⟩ (fun H locs hP hD hS => ?_)
  refine lv_istore_n (lv' := [(2, .int r3), (1, .int r1), (0, .ref (ad v0))]) hx hb d_Pa_clause_22 rfl hl (by decide) (by first | rfl | simp [List.filter, cat_rf]) (fun ls hl => ?_)
  refine lv_aload_n hx hb d_Pa_clause_23 rfl (lv_at hl 2 rfl) ?_
  refine lv_iload_n hx hb d_Pa_clause_24 rfl (lv_at hl 1 rfl) ?_
  refine lv_iload_n hx hb d_Pa_clause_25 rfl (lv_at hl 0 rfl) ?_
  obtain ⟨hO9, hf⟩ := ck_some hf
  rcases (bT_some hf).symm with ⟨u4, k4, hc4, rfl⟩ | ⟨u4, r4, hc4, hf⟩
  · exact x_thrown C0 hD hS (xV_run (i := v0) (As := [.int r1, .int r3]) (rest := []) C0 hP hD hS ck_Pa hO9 (metx_thr (c_Pa_part N hE hL hc4)) k_Pa_part (wd_of 1062 (by decide +kernel) rfl) hi_Pa_part hs_Pa_part hini_Pa rfl rfl hd_Pa_part rfl rm_Pa_clause_Pa_part hl.1 (Nat.le_of_ble_eq_true rfl) d_Pa_clause_26 rfl ⟨Nat.le_of_ble_eq_true rfl, Nat.le_of_ble_eq_true rfl⟩) (fun v9 cell9 H locs hP hD hS h91 h92 h93 => xt_leave C0 (out_none hno _) hP hD hS h91 h92 h93)
  refine xV0 (i := v0) (As := [.int r1, .int r3]) (rest := []) C0 hP hD hS ck_Pa hO9 (metx_ret (c_Pa_part N hE hL hc4)) k_Pa_part (wd_of 1062 (by decide +kernel) rfl) hi_Pa_part hs_Pa_part hini_Pa rfl rfl hd_Pa_part rfl rm_Pa_clause_Pa_part hl.1 (Nat.le_of_ble_eq_true rfl) d_Pa_clause_26 rfl ⟨Nat.zero_le _, Nat.zero_le _⟩ (fun H locs hP hD hS => ?_)
  exact xt_i C0 hP hD hS hf d_Pa_clause_29
def fm_Pa_clause (N : Nat) (u : CS) (v0 : Nat) : Option (CS × (Int32 ⊕ Nat)) := fb_Pa_clause_0 N () u v0
set_option maxRecDepth 100000 in
set_option maxHeartbeats 4000000 in
theorem c_Pa_clause (N : Nat) {l : Launch} {s0 : State} {b0 : Nat} {D : va_G} {cB cI cJ cZ cS cP : ClassId} {sk sv : Nat → Nat} {ad : Nat → Nat} {u : CS} {sz : Nat} {v0 : Nat} {x : CS × (Int32 ⊕ Nat)} (hE : ENV s0 b0 sk sv) (hL : l.stackTraces = false) (hf : fm_Pa_clause N u v0 = some x) : MetX l y_Pa_clause (wd_ws y_Pa_clause b_Pa_clause 3 (some .int)) (rm_Pa_clause (tc x.2) (tsl x.2)) (xPc s0 b0 D cB cI cJ cZ cS cP ad u sz [.ref (ad v0)]) (xQx D cB cI cJ cZ cS cP (xA cB cI cJ cZ cS cP ad u sz) ad (fun v => some (.inl v)) x) (tc x.2) (tsl x.2) (xA cB cI cJ cZ cS cP ad u sz) :=
  xMetX (by decide) rfl (Nat.le_of_ble_eq_true rfl) (fun p e s m below meth c ls hsz hno C0 hP hD hS hl =>
    wb_Pa_clause_0 C0 hE hno hL N () trivial u _ x hf s.heap [] hP hD hS ls (lv_sub hl [0] rfl))
abbrev b_Pa_oneFunction : ByteArray := prog_6_method_7_code
def y_Pa_oneFunction : MethodName := ⟨R_Pa, "oneFunction", "()V"⟩
def w_Pa_oneFunction : List Cond := wd_ws y_Pa_oneFunction b_Pa_oneFunction 5 none
set_option maxRecDepth 100000 in
theorem k_Pa_oneFunction : Cond.code y_Pa_oneFunction b_Pa_oneFunction 5 none ∈ wd_tbl := wd_of 975 rfl rfl
theorem d_Pa_oneFunction_0 : decode b_Pa_oneFunction 0 = .ok (.aload_n 0, 1) := by decide +kernel
theorem d_Pa_oneFunction_1 : decode b_Pa_oneFunction 1 = .ok (.getfield 39, 3) := by decide +kernel
theorem d_Pa_oneFunction_4 : decode b_Pa_oneFunction 4 = .ok (.istore_n 1, 1) := by decide +kernel
theorem d_Pa_oneFunction_5 : decode b_Pa_oneFunction 5 = .ok (.aload_n 0, 1) := by decide +kernel
theorem d_Pa_oneFunction_6 : decode b_Pa_oneFunction 6 = .ok (.invokevirtual 74, 3) := by decide +kernel
theorem d_Pa_oneFunction_9 : decode b_Pa_oneFunction 9 = .ok (.istore_n 2, 1) := by decide +kernel
theorem d_Pa_oneFunction_10 : decode b_Pa_oneFunction 10 = .ok (.iload_n 2, 1) := by decide +kernel
theorem d_Pa_oneFunction_11 : decode b_Pa_oneFunction 11 = .ok (.istore_n 3, 1) := by decide +kernel
theorem d_Pa_oneFunction_12 : decode b_Pa_oneFunction 12 = .ok (.iconst 0, 1) := by decide +kernel
theorem d_Pa_oneFunction_13 : decode b_Pa_oneFunction 13 = .ok (.istore 4, 2) := by decide +kernel
theorem d_Pa_oneFunction_15 : decode b_Pa_oneFunction 15 = .ok (.iload 4, 2) := by decide +kernel
theorem d_Pa_oneFunction_17 : decode b_Pa_oneFunction 17 = .ok (.sipush 4000, 3) := by decide +kernel
theorem d_Pa_oneFunction_20 : decode b_Pa_oneFunction 20 = .ok (.if_icmp .ge 38, 3) := by decide +kernel
theorem d_Pa_oneFunction_23 : decode b_Pa_oneFunction 23 = .ok (.aload_n 0, 1) := by decide +kernel
theorem d_Pa_oneFunction_24 : decode b_Pa_oneFunction 24 = .ok (.invokevirtual 48, 3) := by decide +kernel
theorem d_Pa_oneFunction_27 : decode b_Pa_oneFunction 27 = .ok (.bipush 27, 2) := by decide +kernel
theorem d_Pa_oneFunction_29 : decode b_Pa_oneFunction 29 = .ok (.if_icmp .ne 29, 3) := by decide +kernel
theorem d_Pa_oneFunction_32 : decode b_Pa_oneFunction 32 = .ok (.aload_n 0, 1) := by decide +kernel
theorem d_Pa_oneFunction_33 : decode b_Pa_oneFunction 33 = .ok (.dup, 1) := by decide +kernel
theorem d_Pa_oneFunction_34 : decode b_Pa_oneFunction 34 = .ok (.getfield 39, 3) := by decide +kernel
theorem d_Pa_oneFunction_37 : decode b_Pa_oneFunction 37 = .ok (.iconst 1, 1) := by decide +kernel
theorem d_Pa_oneFunction_38 : decode b_Pa_oneFunction 38 = .ok (.iadd, 1) := by decide +kernel
theorem d_Pa_oneFunction_39 : decode b_Pa_oneFunction 39 = .ok (.putfield 39, 3) := by decide +kernel
theorem d_Pa_oneFunction_42 : decode b_Pa_oneFunction 42 = .ok (.aload_n 0, 1) := by decide +kernel
theorem d_Pa_oneFunction_43 : decode b_Pa_oneFunction 43 = .ok (.iload_n 3, 1) := by decide +kernel
theorem d_Pa_oneFunction_44 : decode b_Pa_oneFunction 44 = .ok (.aload_n 0, 1) := by decide +kernel
theorem d_Pa_oneFunction_45 : decode b_Pa_oneFunction 45 = .ok (.invokevirtual 74, 3) := by decide +kernel
theorem d_Pa_oneFunction_48 : decode b_Pa_oneFunction 48 = .ok (.invokevirtual 77, 3) := by decide +kernel
theorem d_Pa_oneFunction_51 : decode b_Pa_oneFunction 51 = .ok (.istore_n 3, 1) := by decide +kernel
theorem d_Pa_oneFunction_52 : decode b_Pa_oneFunction 52 = .ok (.iinc 4 1, 3) := by decide +kernel
theorem d_Pa_oneFunction_55 : decode b_Pa_oneFunction 55 = .ok (.goto (-40), 3) := by decide +kernel
theorem d_Pa_oneFunction_58 : decode b_Pa_oneFunction 58 = .ok (.aload_n 0, 1) := by decide +kernel
theorem d_Pa_oneFunction_59 : decode b_Pa_oneFunction 59 = .ok (.bipush 28, 2) := by decide +kernel
theorem d_Pa_oneFunction_61 : decode b_Pa_oneFunction 61 = .ok (.invokevirtual 81, 3) := by decide +kernel
theorem d_Pa_oneFunction_64 : decode b_Pa_oneFunction 64 = .ok (.pop, 1) := by decide +kernel
theorem d_Pa_oneFunction_65 : decode b_Pa_oneFunction 65 = .ok (.aload_n 0, 1) := by decide +kernel
theorem d_Pa_oneFunction_66 : decode b_Pa_oneFunction 66 = .ok (.getfield 23, 3) := by decide +kernel
theorem d_Pa_oneFunction_69 : decode b_Pa_oneFunction 69 = .ok (.aload_n 0, 1) := by decide +kernel
theorem d_Pa_oneFunction_70 : decode b_Pa_oneFunction 70 = .ok (.getfield 15, 3) := by decide +kernel
theorem d_Pa_oneFunction_73 : decode b_Pa_oneFunction 73 = .ok (.getfield 85, 3) := by decide +kernel
theorem d_Pa_oneFunction_76 : decode b_Pa_oneFunction 76 = .ok (.iload_n 1, 1) := by decide +kernel
theorem d_Pa_oneFunction_77 : decode b_Pa_oneFunction 77 = .ok (.iaload, 1) := by decide +kernel
theorem d_Pa_oneFunction_78 : decode b_Pa_oneFunction 78 = .ok (.aload_n 0, 1) := by decide +kernel
theorem d_Pa_oneFunction_79 : decode b_Pa_oneFunction 79 = .ok (.getfield 19, 3) := by decide +kernel
theorem d_Pa_oneFunction_82 : decode b_Pa_oneFunction 82 = .ok (.aload_n 0, 1) := by decide +kernel
theorem d_Pa_oneFunction_83 : decode b_Pa_oneFunction 83 = .ok (.getfield 19, 3) := by decide +kernel
theorem d_Pa_oneFunction_86 : decode b_Pa_oneFunction 86 = .ok (.getfield 88, 3) := by decide +kernel
theorem d_Pa_oneFunction_89 : decode b_Pa_oneFunction 89 = .ok (.iload_n 2, 1) := by decide +kernel
theorem d_Pa_oneFunction_90 : decode b_Pa_oneFunction 90 = .ok (.iaload, 1) := by decide +kernel
theorem d_Pa_oneFunction_91 : decode b_Pa_oneFunction 91 = .ok (.invokevirtual 91, 3) := by decide +kernel
theorem d_Pa_oneFunction_94 : decode b_Pa_oneFunction 94 = .ok (.aload_n 0, 1) := by decide +kernel
theorem d_Pa_oneFunction_95 : decode b_Pa_oneFunction 95 = .ok (.getfield 15, 3) := by decide +kernel
theorem d_Pa_oneFunction_98 : decode b_Pa_oneFunction 98 = .ok (.getfield 57, 3) := by decide +kernel
theorem d_Pa_oneFunction_101 : decode b_Pa_oneFunction 101 = .ok (.iload_n 1, 1) := by decide +kernel
theorem d_Pa_oneFunction_102 : decode b_Pa_oneFunction 102 = .ok (.iaload, 1) := by decide +kernel
theorem d_Pa_oneFunction_103 : decode b_Pa_oneFunction 103 = .ok (.iload_n 2, 1) := by decide +kernel
theorem d_Pa_oneFunction_104 : decode b_Pa_oneFunction 104 = .ok (.aload_n 0, 1) := by decide +kernel
theorem d_Pa_oneFunction_105 : decode b_Pa_oneFunction 105 = .ok (.getfield 19, 3) := by decide +kernel
theorem d_Pa_oneFunction_108 : decode b_Pa_oneFunction 108 = .ok (.iload_n 2, 1) := by decide +kernel
theorem d_Pa_oneFunction_109 : decode b_Pa_oneFunction 109 = .ok (.invokevirtual 91, 3) := by decide +kernel
theorem d_Pa_oneFunction_112 : decode b_Pa_oneFunction 112 = .ok (.invokevirtual 94, 3) := by decide +kernel
theorem d_Pa_oneFunction_115 : decode b_Pa_oneFunction 115 = .ok (.return_, 1) := by decide +kernel
set_option maxRecDepth 100000 in
theorem hl_Pa_oneFunction : Cond.methodLink R_Pa 52 y_Pa_oneFunction ∈ wd_tbl := wd_of 972 (by decide +kernel) rfl
set_option maxRecDepth 100000 in
theorem hi_Pa_oneFunction : Cond.instanceMethod y_Pa_oneFunction ∈ wd_tbl := wd_of 974 (by decide +kernel) rfl
set_option maxRecDepth 100000 in
theorem hs_Pa_oneFunction : Cond.selects R_Pa y_Pa_oneFunction y_Pa_oneFunction ∈ wd_tbl := wd_of 10 (by decide +kernel) rfl
theorem hd_Pa_oneFunction : y_Pa_oneFunction.cls = R_Pa ∧ y_Pa_oneFunction.cls ≠ "java/lang/invoke/MethodHandle" ∧ y_Pa_oneFunction.cls ≠ "java/lang/invoke/VarHandle" ∧ (parseMethodDescriptor y_Pa_oneFunction.desc).map (fun d => d.parameters.length) = some 0 := by decide +kernel
def rm_Pa_oneFunction (mc ms : Nat) : Room := { frames := 603, cells := mc, slots := ms, locals := 14768 }
theorem rm_Pa_oneFunction_Pa_clause {x : CS × (Unit ⊕ Nat)} {mc2 ms2 : Nat} : (rm_Pa_clause mc2 ms2).frames + 1 ≤ (rm_Pa_oneFunction (tc x.2) (tsl x.2)).frames ∧ 8 + (3 + 11) + (rm_Pa_clause mc2 ms2).locals ≤ (rm_Pa_oneFunction (tc x.2) (tsl x.2)).locals := by
  show 602 + 1 ≤ 603 ∧ 8 + (3 + 11) + 14746 ≤ 14768
  decide
theorem rm_Pa_oneFunction_Pa_look {x : CS × (Unit ⊕ Nat)} {mc2 ms2 : Nat} : (rm_Pa_look mc2 ms2).frames + 1 ≤ (rm_Pa_oneFunction (tc x.2) (tsl x.2)).frames ∧ 8 + (1 + 11) + (rm_Pa_look mc2 ms2).locals ≤ (rm_Pa_oneFunction (tc x.2) (tsl x.2)).locals := by
  show 7 + 1 ≤ 603 ∧ 8 + (1 + 11) + 111 ≤ 14768
  decide
theorem rm_Pa_oneFunction_Pa_chain {x : CS × (Unit ⊕ Nat)} : (rm_Pa_chain).frames + 1 ≤ (rm_Pa_oneFunction (tc x.2) (tsl x.2)).frames ∧ 8 + (3 + 11) + (rm_Pa_chain).locals ≤ (rm_Pa_oneFunction (tc x.2) (tsl x.2)).locals := by
  show 0 + 1 ≤ 603 ∧ 8 + (3 + 11) + 0 ≤ 14768
  decide
theorem rm_Pa_oneFunction_Pa_need {x : CS × (Unit ⊕ Nat)} {mc2 ms2 : Nat} : (rm_Pa_need mc2 ms2).frames + 1 ≤ (rm_Pa_oneFunction (tc x.2) (tsl x.2)).frames ∧ 8 + (2 + 11) + (rm_Pa_need mc2 ms2).locals ≤ (rm_Pa_oneFunction (tc x.2) (tsl x.2)).locals := by
  show 8 + 1 ≤ 603 ∧ 8 + (2 + 11) + 131 ≤ 14768
  decide
theorem rm_Pa_oneFunction_Tr_length {x : CS × (Unit ⊕ Nat)} : (rm_Tr_length).frames + 1 ≤ (rm_Pa_oneFunction (tc x.2) (tsl x.2)).frames ∧ 8 + (4 + 11) + (rm_Tr_length).locals ≤ (rm_Pa_oneFunction (tc x.2) (tsl x.2)).locals := by
  show 0 + 1 ≤ 603 ∧ 8 + (4 + 11) + 0 ≤ 14768
  decide
theorem rm_Pa_oneFunction_Co_addFunction {x : CS × (Unit ⊕ Nat)} : (rm_Co_addFunction).frames + 1 ≤ (rm_Pa_oneFunction (tc x.2) (tsl x.2)).frames ∧ 8 + (6 + 11) + (rm_Co_addFunction).locals ≤ (rm_Pa_oneFunction (tc x.2) (tsl x.2)).locals := by
  show 0 + 1 ≤ 603 ∧ 8 + (6 + 11) + 0 ≤ 14768
  decide
def fb_Pa_oneFunction_58 (N : Nat) (G : (CS → Nat → Int32 → Int32 → Int32 → Int32 → Option (CS × (Unit ⊕ Nat)))) (u : CS) (v0 : Nat) (v1 : Int32) (v2 : Int32) : Option (CS × (Unit ⊕ Nat)) := ck (isO u v0 6) (bT (fm_Pa_need N u v0 28) (fun u1 r1 => bo (gR u1 v0 6 2) (fun r2 => bo (gR u1 v0 6 0) (fun r3 => bo r3 (fun j4 => bo (gR u1 j4 9 3) (fun r5 => bo r5 (fun j6 => bo (aI u1 j6 4 v1) (fun r7 => bo (gR u1 v0 6 1) (fun r8 => bo (gR u1 v0 6 1) (fun r9 => bo r9 (fun j10 => bo (gR u1 j10 10 2) (fun r11 => bo r11 (fun j12 => bo (aI u1 j12 4 v2) (fun r13 => bo r8 (fun j15 => ck (isO u1 j15 10) (bx (fm_Tr_length N u1 j15 r13) (fun u14 r14 => bo (gR u14 v0 6 0) (fun r16 => bo r16 (fun j17 => bo (gR u14 j17 9 4) (fun r18 => bo r18 (fun j19 => bo (aI u14 j19 4 v1) (fun r20 => bo (gR u14 v0 6 1) (fun r21 => bo r21 (fun j23 => ck (isO u14 j23 10) (bx (fm_Tr_length N u14 j23 v2) (fun u22 r22 => bo r2 (fun j25 => ck (isO u22 j25 2) (bx (fm_Co_addFunction N u22 j25 r7 r14 r20 v2 r22) (fun u24 r24 => some (u24, .inl ()))))))))))))))))))))))))))))))
set_option maxRecDepth 100000 in
set_option maxHeartbeats 4000000 in
theorem wb_Pa_oneFunction_58 {p : Program} {l : Launch} {e : Env} {s : State} {m : MethodId} {args : Array Value} {below : List Frame} {meth : Method} {c : Code} {s0 : State} {b0 : Nat} {D : va_G} {cB cI cJ cZ cS cP : ClassId} {A : Nat → Prop} {sk sv : Nat → Nat} {ad : Nat → Nat} (C0 : XCx p s s0 b0 m args meth c R_Pa b_Pa_oneFunction 5 none D cB cI cJ cZ cS cP A) (hE : ENV s0 b0 sk sv) (hno : c.exceptionTable.isEmpty = true) (hL : l.stackTraces = false) (N : Nat) (G : (CS → Nat → Int32 → Int32 → Int32 → Int32 → Option (CS × (Unit ⊕ Nat)))) (hG : (∀ (u : CS) (v0 : Nat) (v1 : Int32) (v2 : Int32) (v3 : Int32) (v4 : Int32) (x : CS × (Unit ⊕ Nat)), G u v0 v1 v2 v3 v4 = some x → ∀ (H : Heap) (locs : List Loc), va_P D cls (wC cB cI cJ cZ cS cP ad u) H → va_D A (wC cB cI cJ cZ cS cP ad u) → va_S A s.heap H locs → ∀ (ls : Array Slot), lv_has ls 5 [(0, .ref (ad v0)), (1, .int v1), (2, .int v2), (3, .int v3), (4, .int v4)] → W p l e (rm_Pa_oneFunction (tc x.2) (tsl x.2)) s m args below meth c H locs 0 0 (MQX below (xQx D cB cI cJ cZ cS cP A ad (fun _ => none) x) args s (tc x.2) (tsl x.2) A) (F0 m 15 ls []))) : ∀ (u : CS) (v0 : Nat) (v1 : Int32) (v2 : Int32) (x : CS × (Unit ⊕ Nat)), fb_Pa_oneFunction_58 N G u v0 v1 v2 = some x → ∀ (H : Heap) (locs : List Loc), va_P D cls (wC cB cI cJ cZ cS cP ad u) H → va_D A (wC cB cI cJ cZ cS cP ad u) → va_S A s.heap H locs → ∀ (ls : Array Slot), lv_has ls 5 [(0, .ref (ad v0)), (1, .int v1), (2, .int v2)] → W p l e (rm_Pa_oneFunction (tc x.2) (tsl x.2)) s m args below meth c H locs 0 0 (MQX below (xQx D cB cI cJ cZ cS cP A ad (fun _ => none) x) args s (tc x.2) (tsl x.2) A) (F0 m 58 ls []) := by
  intro u v0 v1 v2 x hf H locs hP hD hS ls hl
  obtain ⟨hx, hb, hr, hml, ht, hown, hK, hA, hlocks, hA0, hO, hbs⟩ := id C0
  unfold fb_Pa_oneFunction_58 at hf
  refine lv_aload_n hx hb d_Pa_oneFunction_58 rfl (lv_at hl 0 rfl) ?_
  refine lv_bipush (v := 28) hx hb d_Pa_oneFunction_59 (by decide) ?_
  obtain ⟨hO9, hf⟩ := ck_some hf
  rcases (bT_some hf).symm with ⟨u1, k1, hc1, rfl⟩ | ⟨u1, r1, hc1, hf⟩
  · exact x_thrown C0 hD hS (xV_run (i := v0) (As := [.int 28]) (rest := []) C0 hP hD hS ck_Pa hO9 (metx_thr (c_Pa_need N hE hL hc1)) k_Pa_need (wd_of 980 (by decide +kernel) rfl) hi_Pa_need hs_Pa_need hini_Pa rfl rfl hd_Pa_need rfl rm_Pa_oneFunction_Pa_need hl.1 (Nat.le_of_ble_eq_true rfl) d_Pa_oneFunction_61 rfl ⟨Nat.le_of_ble_eq_true rfl, Nat.le_of_ble_eq_true rfl⟩) (fun v9 cell9 H locs hP hD hS h91 h92 h93 => xt_leave C0 (out_none hno _) hP hD hS h91 h92 h93)
  refine xV0 (i := v0) (As := [.int 28]) (rest := []) C0 hP hD hS ck_Pa hO9 (metx_ret (c_Pa_need N hE hL hc1)) k_Pa_need (wd_of 980 (by decide +kernel) rfl) hi_Pa_need hs_Pa_need hini_Pa rfl rfl hd_Pa_need rfl rm_Pa_oneFunction_Pa_need hl.1 (Nat.le_of_ble_eq_true rfl) d_Pa_oneFunction_61 rfl ⟨Nat.zero_le _, Nat.zero_le _⟩ (fun H locs hP hD hS => ?_)
  refine lv_pop hx hb d_Pa_oneFunction_64 rfl ?_
  refine lv_aload_n hx hb d_Pa_oneFunction_65 rfl (lv_at hl 0 rfl) ?_
  obtain ⟨r2, g2, hf⟩ := bo_some hf
  refine xg_R (i := v0) (k := 2) hx hb ht hown ck_Pa hK hP (by decide) fk_Pa_23 g2 d_Pa_oneFunction_66 ?_
  refine lv_aload_n hx hb d_Pa_oneFunction_69 rfl (lv_at hl 0 rfl) ?_
  obtain ⟨r3, g3, hf⟩ := bo_some hf
  refine xg_R (i := v0) (k := 0) hx hb ht hown ck_Pa hK hP (by decide) fk_Pa_15 g3 d_Pa_oneFunction_70 ?_
  obtain ⟨j4, ej4, hf⟩ := bo_some hf
  rw [ej4]
  obtain ⟨r5, g5, hf⟩ := bo_some hf
  refine xg_R (i := j4) (k := 3) hx hb ht hown ck_To hK hP (by decide) fk_Pa_85 g5 d_Pa_oneFunction_73 ?_
  refine lv_iload_n hx hb d_Pa_oneFunction_76 rfl (lv_at hl 1 rfl) ?_
  obtain ⟨j6, ej6, hf⟩ := bo_some hf
  rw [ej6]
  obtain ⟨r7, g7, hf⟩ := bo_some hf
  refine xl_I (i := j6) hx hb hK hP g7 d_Pa_oneFunction_77 ?_
  refine lv_aload_n hx hb d_Pa_oneFunction_78 rfl (lv_at hl 0 rfl) ?_
  obtain ⟨r8, g8, hf⟩ := bo_some hf
  refine xg_R (i := v0) (k := 1) hx hb ht hown ck_Pa hK hP (by decide) fk_Pa_19 g8 d_Pa_oneFunction_79 ?_
  refine lv_aload_n hx hb d_Pa_oneFunction_82 rfl (lv_at hl 0 rfl) ?_
  obtain ⟨r9, g9, hf⟩ := bo_some hf
  refine xg_R (i := v0) (k := 1) hx hb ht hown ck_Pa hK hP (by decide) fk_Pa_19 g9 d_Pa_oneFunction_83 ?_
  obtain ⟨j10, ej10, hf⟩ := bo_some hf
  rw [ej10]
  obtain ⟨r11, g11, hf⟩ := bo_some hf
  refine xg_R (i := j10) (k := 2) hx hb ht hown ck_Tr hK hP (by decide) fk_Pa_88 g11 d_Pa_oneFunction_86 ?_
  refine lv_iload_n hx hb d_Pa_oneFunction_89 rfl (lv_at hl 2 rfl) ?_
  obtain ⟨j12, ej12, hf⟩ := bo_some hf
  rw [ej12]
  obtain ⟨r13, g13, hf⟩ := bo_some hf
  refine xl_I (i := j12) hx hb hK hP g13 d_Pa_oneFunction_90 ?_
  obtain ⟨j15, ej15, hf⟩ := bo_some hf
  rw [ej15]
  obtain ⟨hO9, hf⟩ := ck_some hf
  obtain ⟨u14, r14, hc14, hf⟩ := bx_some hf
  refine xV0 (i := j15) (As := [.int r13]) (rest := [.int r7, va_rf (Option.map ad r2)]) C0 hP hD hS ck_Tr hO9 (c_Tr_length N hc14) k_Tr_length (wd_of 1011 (by decide +kernel) rfl) hi_Tr_length hs_Tr_length hini_Tr rfl rfl hd_Tr_length rfl rm_Pa_oneFunction_Tr_length hl.1 (c8 (Nat.le_of_ble_eq_true rfl)) d_Pa_oneFunction_91 rfl ⟨Nat.zero_le _, Nat.zero_le _⟩ (fun H locs hP hD hS => ?_)
  refine lv_aload_n hx hb d_Pa_oneFunction_94 rfl (lv_at hl 0 rfl) ?_
  obtain ⟨r16, g16, hf⟩ := bo_some hf
  refine xg_R (i := v0) (k := 0) hx hb ht hown ck_Pa hK hP (by decide) fk_Pa_15 g16 d_Pa_oneFunction_95 ?_
  obtain ⟨j17, ej17, hf⟩ := bo_some hf
  rw [ej17]
  obtain ⟨r18, g18, hf⟩ := bo_some hf
  refine xg_R (i := j17) (k := 4) hx hb ht hown ck_To hK hP (by decide) fk_Pa_57 g18 d_Pa_oneFunction_98 ?_
  refine lv_iload_n hx hb d_Pa_oneFunction_101 rfl (lv_at hl 1 rfl) ?_
  obtain ⟨j19, ej19, hf⟩ := bo_some hf
  rw [ej19]
  obtain ⟨r20, g20, hf⟩ := bo_some hf
  refine xl_I (i := j19) hx hb hK hP g20 d_Pa_oneFunction_102 ?_
  refine lv_iload_n hx hb d_Pa_oneFunction_103 rfl (lv_at hl 2 rfl) ?_
  refine lv_aload_n hx hb d_Pa_oneFunction_104 rfl (lv_at hl 0 rfl) ?_
  obtain ⟨r21, g21, hf⟩ := bo_some hf
  refine xg_R (i := v0) (k := 1) hx hb ht hown ck_Pa hK hP (by decide) fk_Pa_19 g21 d_Pa_oneFunction_105 ?_
  refine lv_iload_n hx hb d_Pa_oneFunction_108 rfl (lv_at hl 2 rfl) ?_
  obtain ⟨j23, ej23, hf⟩ := bo_some hf
  rw [ej23]
  obtain ⟨hO9, hf⟩ := ck_some hf
  obtain ⟨u22, r22, hc22, hf⟩ := bx_some hf
  refine xV0 (i := j23) (As := [.int v2]) (rest := [.int v2, .int r20, .int r14, .int r7, va_rf (Option.map ad r2)]) C0 hP hD hS ck_Tr hO9 (c_Tr_length N hc22) k_Tr_length (wd_of 1011 (by decide +kernel) rfl) hi_Tr_length hs_Tr_length hini_Tr rfl rfl hd_Tr_length rfl rm_Pa_oneFunction_Tr_length hl.1 (by simp only [List.map_cons, List.map_nil, cat_rf]; exact Nat.le_of_ble_eq_true rfl) d_Pa_oneFunction_109 rfl ⟨Nat.zero_le _, Nat.zero_le _⟩ (fun H locs hP hD hS => ?_)
  obtain ⟨j25, ej25, hf⟩ := bo_some hf
  rw [ej25]
  obtain ⟨hO9, hf⟩ := ck_some hf
  obtain ⟨u24, r24, hc24, hf⟩ := bx_some hf
  refine xV0 (i := j25) (As := [.int r7, .int r14, .int r20, .int v2, .int r22]) (rest := []) C0 hP hD hS ck_Co hO9 (c_Co_addFunction N hc24) k_Co_addFunction (wd_of 1106 (by decide +kernel) rfl) hi_Co_addFunction hs_Co_addFunction hini_Co rfl rfl hd_Co_addFunction rfl rm_Pa_oneFunction_Co_addFunction hl.1 (Nat.le_of_ble_eq_true rfl) d_Pa_oneFunction_112 rfl ⟨Nat.zero_le _, Nat.zero_le _⟩ (fun H locs hP hD hS => ?_)
  exact xt_v C0 hP hD hS hf d_Pa_oneFunction_115
def fb_Pa_oneFunction_15 (N : Nat) (G : (CS → Nat → Int32 → Int32 → Int32 → Int32 → Option (CS × (Unit ⊕ Nat)))) (u : CS) (v0 : Nat) (v1 : Int32) (v2 : Int32) (v3 : Int32) (v4 : Int32) : Option (CS × (Unit ⊕ Nat)) := br (decide (4000 ≤ v4)) (fb_Pa_oneFunction_58 N G u (v0) (v1) (v2)) (ck (isO u v0 6) (bT (fm_Pa_look N u v0) (fun u26 r26 => br (decide (r26 = 27)) (bo (gI u26 v0 6 5) (fun r27 => bo (pF u26 v0 6 5 (.inl (r27 + 1))) (fun w28 => ck (isO w28 v0 6) (bT (fm_Pa_clause N w28 v0) (fun u29 r29 => ck (isO u29 v0 6) (bx (fm_Pa_chain N u29 v0 v3 r29) (fun u30 r30 => G u30 (v0) (v1) (v2) (r30) ((v4 + 1))))))))) (fb_Pa_oneFunction_58 N G u26 (v0) (v1) (v2)))))
set_option maxRecDepth 100000 in
set_option maxHeartbeats 4000000 in
theorem wb_Pa_oneFunction_15 {p : Program} {l : Launch} {e : Env} {s : State} {m : MethodId} {args : Array Value} {below : List Frame} {meth : Method} {c : Code} {s0 : State} {b0 : Nat} {D : va_G} {cB cI cJ cZ cS cP : ClassId} {A : Nat → Prop} {sk sv : Nat → Nat} {ad : Nat → Nat} (C0 : XCx p s s0 b0 m args meth c R_Pa b_Pa_oneFunction 5 none D cB cI cJ cZ cS cP A) (hE : ENV s0 b0 sk sv) (hno : c.exceptionTable.isEmpty = true) (hL : l.stackTraces = false) (N : Nat) (G : (CS → Nat → Int32 → Int32 → Int32 → Int32 → Option (CS × (Unit ⊕ Nat)))) (hG : (∀ (u : CS) (v0 : Nat) (v1 : Int32) (v2 : Int32) (v3 : Int32) (v4 : Int32) (x : CS × (Unit ⊕ Nat)), G u v0 v1 v2 v3 v4 = some x → ∀ (H : Heap) (locs : List Loc), va_P D cls (wC cB cI cJ cZ cS cP ad u) H → va_D A (wC cB cI cJ cZ cS cP ad u) → va_S A s.heap H locs → ∀ (ls : Array Slot), lv_has ls 5 [(0, .ref (ad v0)), (1, .int v1), (2, .int v2), (3, .int v3), (4, .int v4)] → W p l e (rm_Pa_oneFunction (tc x.2) (tsl x.2)) s m args below meth c H locs 0 0 (MQX below (xQx D cB cI cJ cZ cS cP A ad (fun _ => none) x) args s (tc x.2) (tsl x.2) A) (F0 m 15 ls []))) : ∀ (u : CS) (v0 : Nat) (v1 : Int32) (v2 : Int32) (v3 : Int32) (v4 : Int32) (x : CS × (Unit ⊕ Nat)), fb_Pa_oneFunction_15 N G u v0 v1 v2 v3 v4 = some x → ∀ (H : Heap) (locs : List Loc), va_P D cls (wC cB cI cJ cZ cS cP ad u) H → va_D A (wC cB cI cJ cZ cS cP ad u) → va_S A s.heap H locs → ∀ (ls : Array Slot), lv_has ls 5 [(0, .ref (ad v0)), (1, .int v1), (2, .int v2), (3, .int v3), (4, .int v4)] → W p l e (rm_Pa_oneFunction (tc x.2) (tsl x.2)) s m args below meth c H locs 0 0 (MQX below (xQx D cB cI cJ cZ cS cP A ad (fun _ => none) x) args s (tc x.2) (tsl x.2) A) (F0 m 15 ls []) := by
  intro u v0 v1 v2 v3 v4 x hf H locs hP hD hS ls hl
  obtain ⟨hx, hb, hr, hml, ht, hown, hK, hA, hlocks, hA0, hO, hbs⟩ := id C0
  unfold fb_Pa_oneFunction_15 at hf
  refine lv_iload hx hb d_Pa_oneFunction_15 (lv_at hl 4 rfl) ?_
  refine lv_sipush (v := 4000) hx hb d_Pa_oneFunction_17 (by decide) ?_
  refine lv_icmp_ge (tgt := 58) hx hb d_Pa_oneFunction_20 (by decide) (fun hc => ?_) (fun hc => ?_)
  · rw [br_p _ hc] at hf
    exact wb_Pa_oneFunction_58 C0 hE hno hL N G hG _ _ _ _ _ hf H locs hP hD hS ls (lv_sub hl [0, 1, 2] rfl)
  · rw [br_n _ hc] at hf
    refine lv_aload_n hx hb d_Pa_oneFunction_23 rfl (lv_at hl 0 rfl) ?_
    obtain ⟨hO9, hf⟩ := ck_some hf
    rcases (bT_some hf).symm with ⟨u26, k26, hc26, rfl⟩ | ⟨u26, r26, hc26, hf⟩
    · exact x_thrown C0 hD hS (xV_run (i := v0) (As := []) (rest := []) C0 hP hD hS ck_Pa hO9 (metx_thr (c_Pa_look N hE hL hc26)) k_Pa_look (wd_of 897 (by decide +kernel) rfl) hi_Pa_look hs_Pa_look hini_Pa rfl rfl hd_Pa_look rfl rm_Pa_oneFunction_Pa_look hl.1 (Nat.le_of_ble_eq_true rfl) d_Pa_oneFunction_24 rfl ⟨Nat.le_of_ble_eq_true rfl, Nat.le_of_ble_eq_true rfl⟩) (fun v9 cell9 H locs hP hD hS h91 h92 h93 => xt_leave C0 (out_none hno _) hP hD hS h91 h92 h93)
    refine xV0 (i := v0) (As := []) (rest := []) C0 hP hD hS ck_Pa hO9 (metx_ret (c_Pa_look N hE hL hc26)) k_Pa_look (wd_of 897 (by decide +kernel) rfl) hi_Pa_look hs_Pa_look hini_Pa rfl rfl hd_Pa_look rfl rm_Pa_oneFunction_Pa_look hl.1 (Nat.le_of_ble_eq_true rfl) d_Pa_oneFunction_24 rfl ⟨Nat.zero_le _, Nat.zero_le _⟩ (fun H locs hP hD hS => ?_)
    refine lv_bipush (v := 27) hx hb d_Pa_oneFunction_27 (by decide) ?_
    refine lv_icmp_ne (tgt := 58) hx hb d_Pa_oneFunction_29 (by decide) (fun hc => ?_) (fun hc => ?_)
    · rw [br_n _ hc] at hf
      exact wb_Pa_oneFunction_58 C0 hE hno hL N G hG _ _ _ _ _ hf H locs hP hD hS ls (lv_sub hl [0, 1, 2] rfl)
    · rw [br_p _ hc] at hf
      refine lv_aload_n hx hb d_Pa_oneFunction_32 rfl (lv_at hl 0 rfl) ?_
      refine lv_dup hx hb d_Pa_oneFunction_33 rfl ?_
      obtain ⟨r27, g27, hf⟩ := bo_some hf
      refine xg_I (i := v0) (k := 5) hx hb ht hown ck_Pa hK hP (by decide) fk_Pa_39 g27 d_Pa_oneFunction_34 ?_
      refine lv_iconst (v := 1) hx hb d_Pa_oneFunction_37 (by decide) ?_
      refine lv_iadd hx hb d_Pa_oneFunction_38 ?_
      obtain ⟨w28, g28, hf⟩ := bo_some hf
      refine xp (i := v0) (k := 5) (v := (.inl (r27 + 1))) hx hb ht hown ck_Pa hK hP hD hS (by decide) fk_Pa_39 rfl g28 rfl rfl d_Pa_oneFunction_39 (fun H locs hP hD hS => ?_)
      refine lv_aload_n hx hb d_Pa_oneFunction_42 rfl (lv_at hl 0 rfl) ?_
      refine lv_iload_n hx hb d_Pa_oneFunction_43 rfl (lv_at hl 3 rfl) ?_
      refine lv_aload_n hx hb d_Pa_oneFunction_44 rfl (lv_at hl 0 rfl) ?_
      obtain ⟨hO9, hf⟩ := ck_some hf
      rcases (bT_some hf).symm with ⟨u29, k29, hc29, rfl⟩ | ⟨u29, r29, hc29, hf⟩
      · exact x_thrown C0 hD hS (xV_run (i := v0) (As := []) (rest := [.int v3, .ref (ad v0)]) C0 hP hD hS ck_Pa hO9 (metx_thr (c_Pa_clause N hE hL hc29)) k_Pa_clause (wd_of 976 (by decide +kernel) rfl) hi_Pa_clause hs_Pa_clause hini_Pa rfl rfl hd_Pa_clause rfl rm_Pa_oneFunction_Pa_clause hl.1 (Nat.le_of_ble_eq_true rfl) d_Pa_oneFunction_45 rfl ⟨Nat.le_of_ble_eq_true rfl, Nat.le_of_ble_eq_true rfl⟩) (fun v9 cell9 H locs hP hD hS h91 h92 h93 => xt_leave C0 (out_none hno _) hP hD hS h91 h92 h93)
      refine xV0 (i := v0) (As := []) (rest := [.int v3, .ref (ad v0)]) C0 hP hD hS ck_Pa hO9 (metx_ret (c_Pa_clause N hE hL hc29)) k_Pa_clause (wd_of 976 (by decide +kernel) rfl) hi_Pa_clause hs_Pa_clause hini_Pa rfl rfl hd_Pa_clause rfl rm_Pa_oneFunction_Pa_clause hl.1 (Nat.le_of_ble_eq_true rfl) d_Pa_oneFunction_45 rfl ⟨Nat.zero_le _, Nat.zero_le _⟩ (fun H locs hP hD hS => ?_)
      obtain ⟨hO9, hf⟩ := ck_some hf
      obtain ⟨u30, r30, hc30, hf⟩ := bx_some hf
      refine xV0 (i := v0) (As := [.int v3, .int r29]) (rest := []) C0 hP hD hS ck_Pa hO9 (c_Pa_chain N hc30) k_Pa_chain (wd_of 1070 (by decide +kernel) rfl) hi_Pa_chain hs_Pa_chain hini_Pa rfl rfl hd_Pa_chain rfl rm_Pa_oneFunction_Pa_chain hl.1 (Nat.le_of_ble_eq_true rfl) d_Pa_oneFunction_48 rfl ⟨Nat.zero_le _, Nat.zero_le _⟩ (fun H locs hP hD hS => ?_)
      refine lv_istore_n (lv' := [(3, .int r30), (0, .ref (ad v0)), (1, .int v1), (2, .int v2), (4, .int v4)]) hx hb d_Pa_oneFunction_51 rfl hl (by decide) (by first | rfl | simp [List.filter, cat_rf]) (fun ls hl => ?_)
      refine lv_iinc (v := (v4 + 1)) (lv' := [(4, .int (v4 + 1)), (3, .int r30), (0, .ref (ad v0)), (1, .int v1), (2, .int v2)]) hx hb d_Pa_oneFunction_52 hl (k := 4) rfl rfl (by decide) (by first | rfl | simp [List.filter, cat_rf]) (fun ls hl => ?_)
      refine lv_goto (tgt := 15) hx hb d_Pa_oneFunction_55 (by decide) ?_
      exact hG _ _ _ _ _ _ _ hf H locs hP hD hS ls (lv_sub hl [2, 3, 4, 1, 0] rfl)
def fb_Pa_oneFunction_0 (N : Nat) (G : (CS → Nat → Int32 → Int32 → Int32 → Int32 → Option (CS × (Unit ⊕ Nat)))) (u : CS) (v0 : Nat) : Option (CS × (Unit ⊕ Nat)) := bo (gI u v0 6 5) (fun r31 => ck (isO u v0 6) (bT (fm_Pa_clause N u v0) (fun u32 r32 => G u32 (v0) (r31) (r32) (r32) (0))))
set_option maxRecDepth 100000 in
set_option maxHeartbeats 4000000 in
theorem wb_Pa_oneFunction_0 {p : Program} {l : Launch} {e : Env} {s : State} {m : MethodId} {args : Array Value} {below : List Frame} {meth : Method} {c : Code} {s0 : State} {b0 : Nat} {D : va_G} {cB cI cJ cZ cS cP : ClassId} {A : Nat → Prop} {sk sv : Nat → Nat} {ad : Nat → Nat} (C0 : XCx p s s0 b0 m args meth c R_Pa b_Pa_oneFunction 5 none D cB cI cJ cZ cS cP A) (hE : ENV s0 b0 sk sv) (hno : c.exceptionTable.isEmpty = true) (hL : l.stackTraces = false) (N : Nat) (G : (CS → Nat → Int32 → Int32 → Int32 → Int32 → Option (CS × (Unit ⊕ Nat)))) (hG : (∀ (u : CS) (v0 : Nat) (v1 : Int32) (v2 : Int32) (v3 : Int32) (v4 : Int32) (x : CS × (Unit ⊕ Nat)), G u v0 v1 v2 v3 v4 = some x → ∀ (H : Heap) (locs : List Loc), va_P D cls (wC cB cI cJ cZ cS cP ad u) H → va_D A (wC cB cI cJ cZ cS cP ad u) → va_S A s.heap H locs → ∀ (ls : Array Slot), lv_has ls 5 [(0, .ref (ad v0)), (1, .int v1), (2, .int v2), (3, .int v3), (4, .int v4)] → W p l e (rm_Pa_oneFunction (tc x.2) (tsl x.2)) s m args below meth c H locs 0 0 (MQX below (xQx D cB cI cJ cZ cS cP A ad (fun _ => none) x) args s (tc x.2) (tsl x.2) A) (F0 m 15 ls []))) : ∀ (u : CS) (v0 : Nat) (x : CS × (Unit ⊕ Nat)), fb_Pa_oneFunction_0 N G u v0 = some x → ∀ (H : Heap) (locs : List Loc), va_P D cls (wC cB cI cJ cZ cS cP ad u) H → va_D A (wC cB cI cJ cZ cS cP ad u) → va_S A s.heap H locs → ∀ (ls : Array Slot), lv_has ls 5 [(0, .ref (ad v0))] → W p l e (rm_Pa_oneFunction (tc x.2) (tsl x.2)) s m args below meth c H locs 0 0 (MQX below (xQx D cB cI cJ cZ cS cP A ad (fun _ => none) x) args s (tc x.2) (tsl x.2) A) (F0 m 0 ls []) := by
  intro u v0 x hf H locs hP hD hS ls hl
  obtain ⟨hx, hb, hr, hml, ht, hown, hK, hA, hlocks, hA0, hO, hbs⟩ := id C0
  unfold fb_Pa_oneFunction_0 at hf
  refine lv_aload_n hx hb d_Pa_oneFunction_0 rfl (lv_at hl 0 rfl) ?_
  obtain ⟨r31, g31, hf⟩ := bo_some hf
  refine xg_I (i := v0) (k := 5) hx hb ht hown ck_Pa hK hP (by decide) fk_Pa_39 g31 d_Pa_oneFunction_1 ?_
  refine lv_istore_n (lv' := [(1, .int r31), (0, .ref (ad v0))]) hx hb d_Pa_oneFunction_4 rfl hl (by decide) (by first | rfl | simp [List.filter, cat_rf]) (fun ls hl => ?_)
  refine lv_aload_n hx hb d_Pa_oneFunction_5 rfl (lv_at hl 1 rfl) ?_
  obtain ⟨hO9, hf⟩ := ck_some hf
  rcases (bT_some hf).symm with ⟨u32, k32, hc32, rfl⟩ | ⟨u32, r32, hc32, hf⟩
  · exact x_thrown C0 hD hS (xV_run (i := v0) (As := []) (rest := []) C0 hP hD hS ck_Pa hO9 (metx_thr (c_Pa_clause N hE hL hc32)) k_Pa_clause (wd_of 976 (by decide +kernel) rfl) hi_Pa_clause hs_Pa_clause hini_Pa rfl rfl hd_Pa_clause rfl rm_Pa_oneFunction_Pa_clause hl.1 (Nat.le_of_ble_eq_true rfl) d_Pa_oneFunction_6 rfl ⟨Nat.le_of_ble_eq_true rfl, Nat.le_of_ble_eq_true rfl⟩) (fun v9 cell9 H locs hP hD hS h91 h92 h93 => xt_leave C0 (out_none hno _) hP hD hS h91 h92 h93)
  refine xV0 (i := v0) (As := []) (rest := []) C0 hP hD hS ck_Pa hO9 (metx_ret (c_Pa_clause N hE hL hc32)) k_Pa_clause (wd_of 976 (by decide +kernel) rfl) hi_Pa_clause hs_Pa_clause hini_Pa rfl rfl hd_Pa_clause rfl rm_Pa_oneFunction_Pa_clause hl.1 (Nat.le_of_ble_eq_true rfl) d_Pa_oneFunction_6 rfl ⟨Nat.zero_le _, Nat.zero_le _⟩ (fun H locs hP hD hS => ?_)
  refine lv_istore_n (lv' := [(2, .int r32), (1, .int r31), (0, .ref (ad v0))]) hx hb d_Pa_oneFunction_9 rfl hl (by decide) (by first | rfl | simp [List.filter, cat_rf]) (fun ls hl => ?_)
  refine lv_iload_n hx hb d_Pa_oneFunction_10 rfl (lv_at hl 0 rfl) ?_
  refine lv_istore_n (lv' := [(3, .int r32), (2, .int r32), (1, .int r31), (0, .ref (ad v0))]) hx hb d_Pa_oneFunction_11 rfl hl (by decide) (by first | rfl | simp [List.filter, cat_rf]) (fun ls hl => ?_)
  refine lv_iconst (v := 0) hx hb d_Pa_oneFunction_12 (by decide) ?_
  refine lv_istore (lv' := [(4, .int 0), (3, .int r32), (2, .int r32), (1, .int r31), (0, .ref (ad v0))]) hx hb d_Pa_oneFunction_13 hl (by decide) (by first | rfl | simp [List.filter, cat_rf]) (fun ls hl => ?_)
  exact hG _ _ _ _ _ _ _ hf H locs hP hD hS ls (lv_sub hl [4, 3, 2, 1, 0] rfl)
def gg_Pa_oneFunction (N : Nat) : Nat → ((CS → Nat → Int32 → Int32 → Int32 → Int32 → Option (CS × (Unit ⊕ Nat))))
  | 0 => fun _ _ _ _ _ _ => none
  | n + 1 => fb_Pa_oneFunction_15 N (gg_Pa_oneFunction N n)
theorem wg_Pa_oneFunction {p : Program} {l : Launch} {e : Env} {s : State} {m : MethodId} {args : Array Value} {below : List Frame} {meth : Method} {c : Code} {s0 : State} {b0 : Nat} {D : va_G} {cB cI cJ cZ cS cP : ClassId} {A : Nat → Prop} {sk sv : Nat → Nat} {ad : Nat → Nat} (C0 : XCx p s s0 b0 m args meth c R_Pa b_Pa_oneFunction 5 none D cB cI cJ cZ cS cP A) (hE : ENV s0 b0 sk sv) (hno : c.exceptionTable.isEmpty = true) (hL : l.stackTraces = false) (N : Nat) : ∀ n : Nat, (∀ (u : CS) (v0 : Nat) (v1 : Int32) (v2 : Int32) (v3 : Int32) (v4 : Int32) (x : CS × (Unit ⊕ Nat)), gg_Pa_oneFunction N n u v0 v1 v2 v3 v4 = some x → ∀ (H : Heap) (locs : List Loc), va_P D cls (wC cB cI cJ cZ cS cP ad u) H → va_D A (wC cB cI cJ cZ cS cP ad u) → va_S A s.heap H locs → ∀ (ls : Array Slot), lv_has ls 5 [(0, .ref (ad v0)), (1, .int v1), (2, .int v2), (3, .int v3), (4, .int v4)] → W p l e (rm_Pa_oneFunction (tc x.2) (tsl x.2)) s m args below meth c H locs 0 0 (MQX below (xQx D cB cI cJ cZ cS cP A ad (fun _ => none) x) args s (tc x.2) (tsl x.2) A) (F0 m 15 ls []))
  | 0 => (fun u v0 v1 v2 v3 v4 x hf => by cases hf)
  | n + 1 => wb_Pa_oneFunction_15 C0 hE hno hL N (gg_Pa_oneFunction N n) (wg_Pa_oneFunction C0 hE hno hL N n)
def fm_Pa_oneFunction (N : Nat) (u : CS) (v0 : Nat) : Option (CS × (Unit ⊕ Nat)) := fb_Pa_oneFunction_0 N (gg_Pa_oneFunction N N) u v0
set_option maxRecDepth 100000 in
set_option maxHeartbeats 4000000 in
theorem c_Pa_oneFunction (N : Nat) {l : Launch} {s0 : State} {b0 : Nat} {D : va_G} {cB cI cJ cZ cS cP : ClassId} {sk sv : Nat → Nat} {ad : Nat → Nat} {u : CS} {sz : Nat} {v0 : Nat} {x : CS × (Unit ⊕ Nat)} (hE : ENV s0 b0 sk sv) (hL : l.stackTraces = false) (hf : fm_Pa_oneFunction N u v0 = some x) : MetX l y_Pa_oneFunction (wd_ws y_Pa_oneFunction b_Pa_oneFunction 5 none) (rm_Pa_oneFunction (tc x.2) (tsl x.2)) (xPc s0 b0 D cB cI cJ cZ cS cP ad u sz [.ref (ad v0)]) (xQx D cB cI cJ cZ cS cP (xA cB cI cJ cZ cS cP ad u sz) ad (fun _ => none) x) (tc x.2) (tsl x.2) (xA cB cI cJ cZ cS cP ad u sz) :=
  xMetX (by decide) rfl (Nat.le_of_ble_eq_true rfl) (fun p e s m below meth c ls hsz hno C0 hP hD hS hl =>
    wb_Pa_oneFunction_0 C0 hE hno hL N (gg_Pa_oneFunction N N) (wg_Pa_oneFunction C0 hE hno hL N N) u _ x hf s.heap [] hP hD hS ls (lv_sub hl [0] rfl))
abbrev b_Pa_parse : ByteArray := prog_6_method_2_code
def y_Pa_parse : MethodName := ⟨R_Pa, "parse", "()I"⟩
def w_Pa_parse : List Cond := wd_ws y_Pa_parse b_Pa_parse 2 (some .int)
set_option maxRecDepth 100000 in
theorem k_Pa_parse : Cond.codeWith y_Pa_parse b_Pa_parse 2 (some .int) [(34, 64, 67, 55)] ∈ wd_tbl := wd_of 887 rfl rfl
theorem d_Pa_parse_0 : decode b_Pa_parse 0 = .ok (.aload_n 0, 1) := by decide +kernel
theorem d_Pa_parse_1 : decode b_Pa_parse 1 = .ok (.getfield 19, 3) := by decide +kernel
theorem d_Pa_parse_4 : decode b_Pa_parse 4 = .ok (.invokevirtual 27, 3) := by decide +kernel
theorem d_Pa_parse_7 : decode b_Pa_parse 7 = .ok (.aload_n 0, 1) := by decide +kernel
theorem d_Pa_parse_8 : decode b_Pa_parse 8 = .ok (.getfield 23, 3) := by decide +kernel
theorem d_Pa_parse_11 : decode b_Pa_parse 11 = .ok (.invokevirtual 32, 3) := by decide +kernel
theorem d_Pa_parse_14 : decode b_Pa_parse 14 = .ok (.aload_n 0, 1) := by decide +kernel
theorem d_Pa_parse_15 : decode b_Pa_parse 15 = .ok (.iconst 0, 1) := by decide +kernel
theorem d_Pa_parse_16 : decode b_Pa_parse 16 = .ok (.putfield 35, 3) := by decide +kernel
theorem d_Pa_parse_19 : decode b_Pa_parse 19 = .ok (.aload_n 0, 1) := by decide +kernel
theorem d_Pa_parse_20 : decode b_Pa_parse 20 = .ok (.iconst 0, 1) := by decide +kernel
theorem d_Pa_parse_21 : decode b_Pa_parse 21 = .ok (.putfield 39, 3) := by decide +kernel
theorem d_Pa_parse_24 : decode b_Pa_parse 24 = .ok (.aload_n 0, 1) := by decide +kernel
theorem d_Pa_parse_25 : decode b_Pa_parse 25 = .ok (.iconst 0, 1) := by decide +kernel
theorem d_Pa_parse_26 : decode b_Pa_parse 26 = .ok (.putfield 42, 3) := by decide +kernel
theorem d_Pa_parse_29 : decode b_Pa_parse 29 = .ok (.aload_n 0, 1) := by decide +kernel
theorem d_Pa_parse_30 : decode b_Pa_parse 30 = .ok (.iconst 0, 1) := by decide +kernel
theorem d_Pa_parse_31 : decode b_Pa_parse 31 = .ok (.putfield 45, 3) := by decide +kernel
theorem d_Pa_parse_34 : decode b_Pa_parse 34 = .ok (.iconst 0, 1) := by decide +kernel
theorem d_Pa_parse_35 : decode b_Pa_parse 35 = .ok (.istore_n 1, 1) := by decide +kernel
theorem d_Pa_parse_36 : decode b_Pa_parse 36 = .ok (.iload_n 1, 1) := by decide +kernel
theorem d_Pa_parse_37 : decode b_Pa_parse 37 = .ok (.sipush 4000, 3) := by decide +kernel
theorem d_Pa_parse_40 : decode b_Pa_parse 40 = .ok (.if_icmp .gt 24, 3) := by decide +kernel
theorem d_Pa_parse_43 : decode b_Pa_parse 43 = .ok (.iload_n 1, 1) := by decide +kernel
theorem d_Pa_parse_44 : decode b_Pa_parse 44 = .ok (.ifCond .eq 10, 3) := by decide +kernel
theorem d_Pa_parse_47 : decode b_Pa_parse 47 = .ok (.aload_n 0, 1) := by decide +kernel
theorem d_Pa_parse_48 : decode b_Pa_parse 48 = .ok (.invokevirtual 48, 3) := by decide +kernel
theorem d_Pa_parse_51 : decode b_Pa_parse 51 = .ok (.ifCond .eq 13, 3) := by decide +kernel
theorem d_Pa_parse_54 : decode b_Pa_parse 54 = .ok (.aload_n 0, 1) := by decide +kernel
theorem d_Pa_parse_55 : decode b_Pa_parse 55 = .ok (.invokevirtual 52, 3) := by decide +kernel
theorem d_Pa_parse_58 : decode b_Pa_parse 58 = .ok (.iinc 1 1, 3) := by decide +kernel
theorem d_Pa_parse_61 : decode b_Pa_parse 61 = .ok (.goto (-25), 3) := by decide +kernel
theorem d_Pa_parse_64 : decode b_Pa_parse 64 = .ok (.goto 9, 3) := by decide +kernel
theorem d_Pa_parse_67 : decode b_Pa_parse 67 = .ok (.astore_n 1, 1) := by decide +kernel
theorem d_Pa_parse_68 : decode b_Pa_parse 68 = .ok (.aload_n 0, 1) := by decide +kernel
theorem d_Pa_parse_69 : decode b_Pa_parse 69 = .ok (.getfield 45, 3) := by decide +kernel
theorem d_Pa_parse_72 : decode b_Pa_parse 72 = .ok (.ireturn, 1) := by decide +kernel
theorem d_Pa_parse_73 : decode b_Pa_parse 73 = .ok (.iconst 0, 1) := by decide +kernel
theorem d_Pa_parse_74 : decode b_Pa_parse 74 = .ok (.ireturn, 1) := by decide +kernel
set_option maxRecDepth 100000 in
theorem hi_Pa_parse : Cond.instanceMethod y_Pa_parse ∈ wd_tbl := wd_of 885 (by decide +kernel) rfl
set_option maxRecDepth 100000 in
theorem hs_Pa_parse : Cond.selects R_Pa y_Pa_parse y_Pa_parse ∈ wd_tbl := wd_of 886 (by decide +kernel) rfl
theorem hd_Pa_parse : y_Pa_parse.cls = R_Pa ∧ y_Pa_parse.cls ≠ "java/lang/invoke/MethodHandle" ∧ y_Pa_parse.cls ≠ "java/lang/invoke/VarHandle" ∧ (parseMethodDescriptor y_Pa_parse.desc).map (fun d => d.parameters.length) = some 0 := by decide +kernel
def rm_Pa_parse : Room := { frames := 604, cells := 1, slots := 6, locals := 14792 }
theorem rm_Pa_parse_Tr_clear : (rm_Tr_clear).frames + 1 ≤ rm_Pa_parse.frames ∧ 8 + (1 + 11) + (rm_Tr_clear).locals ≤ rm_Pa_parse.locals := by
  show 0 + 1 ≤ 604 ∧ 8 + (1 + 11) + 0 ≤ 14792
  decide
theorem rm_Pa_parse_Co_clear : (rm_Co_clear).frames + 1 ≤ rm_Pa_parse.frames ∧ 8 + (1 + 11) + (rm_Co_clear).locals ≤ rm_Pa_parse.locals := by
  show 0 + 1 ≤ 604 ∧ 8 + (1 + 11) + 0 ≤ 14792
  decide
theorem rm_Pa_parse_Pa_look {mc2 ms2 : Nat} : (rm_Pa_look mc2 ms2).frames + 1 ≤ rm_Pa_parse.frames ∧ 8 + (1 + 11) + (rm_Pa_look mc2 ms2).locals ≤ rm_Pa_parse.locals := by
  show 7 + 1 ≤ 604 ∧ 8 + (1 + 11) + 111 ≤ 14792
  decide
theorem rm_Pa_parse_Pa_oneFunction {mc2 ms2 : Nat} : (rm_Pa_oneFunction mc2 ms2).frames + 1 ≤ rm_Pa_parse.frames ∧ 8 + (5 + 11) + (rm_Pa_oneFunction mc2 ms2).locals ≤ rm_Pa_parse.locals := by
  show 603 + 1 ≤ 604 ∧ 8 + (5 + 11) + 14768 ≤ 14792
  decide
def fb_Pa_parse_68 (N : Nat) (G : (CS → Nat → Int32 → Option (CS × Int32))) (u : CS) (v0 : Nat) : Option (CS × Int32) := bo (gI u v0 6 7) (fun r1 => some (u, r1))
set_option maxRecDepth 100000 in
set_option maxHeartbeats 4000000 in
theorem wb_Pa_parse_68 {p : Program} {l : Launch} {e : Env} {s : State} {m : MethodId} {args : Array Value} {below : List Frame} {meth : Method} {c : Code} {s0 : State} {b0 : Nat} {D : va_G} {cB cI cJ cZ cS cP : ClassId} {A : Nat → Prop} {sk sv : Nat → Nat} {ad : Nat → Nat} (C0 : XCx p s s0 b0 m args meth c R_Pa b_Pa_parse 2 (some .int) D cB cI cJ cZ cS cP A) (hE : ENV s0 b0 sk sv) (hex : c.exceptionTable.toList = [(⟨34, 64, 67, 55⟩ : ExceptionTableEntry)]) (hL : l.stackTraces = false) (N : Nat) (G : (CS → Nat → Int32 → Option (CS × Int32))) (hG : (∀ (u : CS) (v0 : Nat) (v1 : Int32) (x : CS × Int32), G u v0 v1 = some x → ∀ (H : Heap) (locs : List Loc), va_P D cls (wC cB cI cJ cZ cS cP ad u) H → va_D A (wC cB cI cJ cZ cS cP ad u) → va_S A s.heap H locs → ∀ (ls : Array Slot), lv_has ls 2 [(0, .ref (ad v0)), (1, .int v1)] → W p l e rm_Pa_parse s m args below meth c H locs 0 0 (MQ below (xQ0 D cB cI cJ cZ cS cP A ad x.1 (some (.inl x.2))) args s 1 6 A) (F0 m 36 ls []))) : ∀ (u : CS) (v0 : Nat) (x : CS × Int32), fb_Pa_parse_68 N G u v0 = some x → ∀ (H : Heap) (locs : List Loc), va_P D cls (wC cB cI cJ cZ cS cP ad u) H → va_D A (wC cB cI cJ cZ cS cP ad u) → va_S A s.heap H locs → ∀ (ls : Array Slot), lv_has ls 2 [(0, .ref (ad v0))] → W p l e rm_Pa_parse s m args below meth c H locs 1 6 (MQ below (xQ0 D cB cI cJ cZ cS cP A ad x.1 (some (.inl x.2))) args s 1 6 A) (F0 m 68 ls []) := by
  intro u v0 x hf H locs hP hD hS ls hl
  obtain ⟨hx, hb, hr, hml, ht, hown, hK, hA, hlocks, hA0, hO, hbs⟩ := id C0
  unfold fb_Pa_parse_68 at hf
  refine lv_aload_n hx hb d_Pa_parse_68 rfl (lv_at hl 0 rfl) ?_
  obtain ⟨r1, g1, hf⟩ := bo_some hf
  refine xg_I (i := v0) (k := 7) hx hb ht hown ck_Pa hK hP (by decide) fk_Pa_45 g1 d_Pa_parse_69 ?_
  exact xh_i C0 hP hD hS (Nat.le_of_ble_eq_true rfl) (Nat.le_of_ble_eq_true rfl) hf d_Pa_parse_72
def fb_Pa_parse_64 (N : Nat) (G : (CS → Nat → Int32 → Option (CS × Int32))) (u : CS) : Option (CS × Int32) := some (u, 0)
set_option maxRecDepth 100000 in
set_option maxHeartbeats 4000000 in
theorem wb_Pa_parse_64 {p : Program} {l : Launch} {e : Env} {s : State} {m : MethodId} {args : Array Value} {below : List Frame} {meth : Method} {c : Code} {s0 : State} {b0 : Nat} {D : va_G} {cB cI cJ cZ cS cP : ClassId} {A : Nat → Prop} {sk sv : Nat → Nat} {ad : Nat → Nat} (C0 : XCx p s s0 b0 m args meth c R_Pa b_Pa_parse 2 (some .int) D cB cI cJ cZ cS cP A) (hE : ENV s0 b0 sk sv) (hex : c.exceptionTable.toList = [(⟨34, 64, 67, 55⟩ : ExceptionTableEntry)]) (hL : l.stackTraces = false) (N : Nat) (G : (CS → Nat → Int32 → Option (CS × Int32))) (hG : (∀ (u : CS) (v0 : Nat) (v1 : Int32) (x : CS × Int32), G u v0 v1 = some x → ∀ (H : Heap) (locs : List Loc), va_P D cls (wC cB cI cJ cZ cS cP ad u) H → va_D A (wC cB cI cJ cZ cS cP ad u) → va_S A s.heap H locs → ∀ (ls : Array Slot), lv_has ls 2 [(0, .ref (ad v0)), (1, .int v1)] → W p l e rm_Pa_parse s m args below meth c H locs 0 0 (MQ below (xQ0 D cB cI cJ cZ cS cP A ad x.1 (some (.inl x.2))) args s 1 6 A) (F0 m 36 ls []))) : ∀ (u : CS) (x : CS × Int32), fb_Pa_parse_64 N G u = some x → ∀ (H : Heap) (locs : List Loc), va_P D cls (wC cB cI cJ cZ cS cP ad u) H → va_D A (wC cB cI cJ cZ cS cP ad u) → va_S A s.heap H locs → ∀ (ls : Array Slot), lv_has ls 2 [] → W p l e rm_Pa_parse s m args below meth c H locs 0 0 (MQ below (xQ0 D cB cI cJ cZ cS cP A ad x.1 (some (.inl x.2))) args s 1 6 A) (F0 m 64 ls []) := by
  intro u x hf H locs hP hD hS ls hl
  obtain ⟨hx, hb, hr, hml, ht, hown, hK, hA, hlocks, hA0, hO, hbs⟩ := id C0
  unfold fb_Pa_parse_64 at hf
  refine lv_goto (tgt := 73) hx hb d_Pa_parse_64 (by decide) ?_
  refine lv_iconst (v := 0) hx hb d_Pa_parse_73 (by decide) ?_
  exact xh_i C0 hP hD hS (Nat.le_of_ble_eq_true rfl) (Nat.le_of_ble_eq_true rfl) hf d_Pa_parse_74
def fb_Pa_parse_54 (N : Nat) (G : (CS → Nat → Int32 → Option (CS × Int32))) (u : CS) (v0 : Nat) (v1 : Int32) : Option (CS × Int32) := ck (isO u v0 6) (bH (fm_Pa_oneFunction N u v0) (fun u2 r2 => G u2 (v0) ((v1 + 1))) (fun u2 => fb_Pa_parse_68 N G u2 v0))
set_option maxRecDepth 100000 in
set_option maxHeartbeats 4000000 in
theorem wb_Pa_parse_54 {p : Program} {l : Launch} {e : Env} {s : State} {m : MethodId} {args : Array Value} {below : List Frame} {meth : Method} {c : Code} {s0 : State} {b0 : Nat} {D : va_G} {cB cI cJ cZ cS cP : ClassId} {A : Nat → Prop} {sk sv : Nat → Nat} {ad : Nat → Nat} (C0 : XCx p s s0 b0 m args meth c R_Pa b_Pa_parse 2 (some .int) D cB cI cJ cZ cS cP A) (hE : ENV s0 b0 sk sv) (hex : c.exceptionTable.toList = [(⟨34, 64, 67, 55⟩ : ExceptionTableEntry)]) (hL : l.stackTraces = false) (N : Nat) (G : (CS → Nat → Int32 → Option (CS × Int32))) (hG : (∀ (u : CS) (v0 : Nat) (v1 : Int32) (x : CS × Int32), G u v0 v1 = some x → ∀ (H : Heap) (locs : List Loc), va_P D cls (wC cB cI cJ cZ cS cP ad u) H → va_D A (wC cB cI cJ cZ cS cP ad u) → va_S A s.heap H locs → ∀ (ls : Array Slot), lv_has ls 2 [(0, .ref (ad v0)), (1, .int v1)] → W p l e rm_Pa_parse s m args below meth c H locs 0 0 (MQ below (xQ0 D cB cI cJ cZ cS cP A ad x.1 (some (.inl x.2))) args s 1 6 A) (F0 m 36 ls []))) : ∀ (u : CS) (v0 : Nat) (v1 : Int32) (x : CS × Int32), fb_Pa_parse_54 N G u v0 v1 = some x → ∀ (H : Heap) (locs : List Loc), va_P D cls (wC cB cI cJ cZ cS cP ad u) H → va_D A (wC cB cI cJ cZ cS cP ad u) → va_S A s.heap H locs → ∀ (ls : Array Slot), lv_has ls 2 [(0, .ref (ad v0)), (1, .int v1)] → W p l e rm_Pa_parse s m args below meth c H locs 0 0 (MQ below (xQ0 D cB cI cJ cZ cS cP A ad x.1 (some (.inl x.2))) args s 1 6 A) (F0 m 54 ls []) := by
  intro u v0 v1 x hf H locs hP hD hS ls hl
  obtain ⟨hx, hb, hr, hml, ht, hown, hK, hA, hlocks, hA0, hO, hbs⟩ := id C0
  unfold fb_Pa_parse_54 at hf
  refine lv_aload_n hx hb d_Pa_parse_54 rfl (lv_at hl 0 rfl) ?_
  obtain ⟨hO9, hf⟩ := ck_some hf
  rcases (bH_some hf).symm with ⟨u2, hc2, hf⟩ | ⟨u2, r2, hc2, hf⟩
  · refine x_thrown C0 hD hS (xV_run (i := v0) (As := []) (rest := []) C0 hP hD hS ck_Pa hO9 (metx_thr (c_Pa_oneFunction N hE hL hc2)) k_Pa_oneFunction (wd_of 972 (by decide +kernel) rfl) hi_Pa_oneFunction hs_Pa_oneFunction hini_Pa rfl rfl hd_Pa_oneFunction rfl rm_Pa_parse_Pa_oneFunction hl.1 (Nat.le_of_ble_eq_true rfl) d_Pa_parse_55 rfl ⟨Nat.le_of_ble_eq_true rfl, Nat.le_of_ble_eq_true rfl⟩) (fun v9 cell9 H locs hP hD hS h91 h92 h93 => wt_catch (k := 3) C0 hE hS ⟨34, 64, 67, 55⟩ [] hex (by decide) (by decide) (wd_of 888 (by decide +kernel) rfl) (lw_of 906 (by decide +kernel)) h91 h92 h93 ?_)
    refine lv_astore_n (lv' := [(1, .ref v9), (0, .ref (ad v0))]) hx hb d_Pa_parse_67 rfl hl (by decide) (by first | rfl | simp [List.filter, cat_rf]) (fun ls hl => ?_)
    exact wb_Pa_parse_68 C0 hE hex hL N G hG _ _ _ hf H locs hP hD hS ls (lv_sub hl [1] rfl)
  refine xV0 (i := v0) (As := []) (rest := []) C0 hP hD hS ck_Pa hO9 (metx_ret (c_Pa_oneFunction N hE hL hc2)) k_Pa_oneFunction (wd_of 972 (by decide +kernel) rfl) hi_Pa_oneFunction hs_Pa_oneFunction hini_Pa rfl rfl hd_Pa_oneFunction rfl rm_Pa_parse_Pa_oneFunction hl.1 (Nat.le_of_ble_eq_true rfl) d_Pa_parse_55 rfl ⟨Nat.zero_le _, Nat.zero_le _⟩ (fun H locs hP hD hS => ?_)
  refine lv_iinc (v := (v1 + 1)) (lv' := [(1, .int (v1 + 1)), (0, .ref (ad v0))]) hx hb d_Pa_parse_58 hl (k := 1) rfl rfl (by decide) (by first | rfl | simp [List.filter, cat_rf]) (fun ls hl => ?_)
  refine lv_goto (tgt := 36) hx hb d_Pa_parse_61 (by decide) ?_
  exact hG _ _ _ _ hf H locs hP hD hS ls (lv_sub hl [1, 0] rfl)
def fb_Pa_parse_36 (N : Nat) (G : (CS → Nat → Int32 → Option (CS × Int32))) (u : CS) (v0 : Nat) (v1 : Int32) : Option (CS × Int32) := br (decide (4000 < v1)) (fb_Pa_parse_64 N G u) (br (decide (v1 = 0)) (fb_Pa_parse_54 N G u (v0) (v1)) (ck (isO u v0 6) (bH (fm_Pa_look N u v0) (fun u3 r3 => br (decide (r3 = 0)) (fb_Pa_parse_64 N G u3) (fb_Pa_parse_54 N G u3 (v0) (v1))) (fun u3 => fb_Pa_parse_68 N G u3 v0))))
set_option maxRecDepth 100000 in
set_option maxHeartbeats 4000000 in
theorem wb_Pa_parse_36 {p : Program} {l : Launch} {e : Env} {s : State} {m : MethodId} {args : Array Value} {below : List Frame} {meth : Method} {c : Code} {s0 : State} {b0 : Nat} {D : va_G} {cB cI cJ cZ cS cP : ClassId} {A : Nat → Prop} {sk sv : Nat → Nat} {ad : Nat → Nat} (C0 : XCx p s s0 b0 m args meth c R_Pa b_Pa_parse 2 (some .int) D cB cI cJ cZ cS cP A) (hE : ENV s0 b0 sk sv) (hex : c.exceptionTable.toList = [(⟨34, 64, 67, 55⟩ : ExceptionTableEntry)]) (hL : l.stackTraces = false) (N : Nat) (G : (CS → Nat → Int32 → Option (CS × Int32))) (hG : (∀ (u : CS) (v0 : Nat) (v1 : Int32) (x : CS × Int32), G u v0 v1 = some x → ∀ (H : Heap) (locs : List Loc), va_P D cls (wC cB cI cJ cZ cS cP ad u) H → va_D A (wC cB cI cJ cZ cS cP ad u) → va_S A s.heap H locs → ∀ (ls : Array Slot), lv_has ls 2 [(0, .ref (ad v0)), (1, .int v1)] → W p l e rm_Pa_parse s m args below meth c H locs 0 0 (MQ below (xQ0 D cB cI cJ cZ cS cP A ad x.1 (some (.inl x.2))) args s 1 6 A) (F0 m 36 ls []))) : ∀ (u : CS) (v0 : Nat) (v1 : Int32) (x : CS × Int32), fb_Pa_parse_36 N G u v0 v1 = some x → ∀ (H : Heap) (locs : List Loc), va_P D cls (wC cB cI cJ cZ cS cP ad u) H → va_D A (wC cB cI cJ cZ cS cP ad u) → va_S A s.heap H locs → ∀ (ls : Array Slot), lv_has ls 2 [(0, .ref (ad v0)), (1, .int v1)] → W p l e rm_Pa_parse s m args below meth c H locs 0 0 (MQ below (xQ0 D cB cI cJ cZ cS cP A ad x.1 (some (.inl x.2))) args s 1 6 A) (F0 m 36 ls []) := by
  intro u v0 v1 x hf H locs hP hD hS ls hl
  obtain ⟨hx, hb, hr, hml, ht, hown, hK, hA, hlocks, hA0, hO, hbs⟩ := id C0
  unfold fb_Pa_parse_36 at hf
  refine lv_iload_n hx hb d_Pa_parse_36 rfl (lv_at hl 1 rfl) ?_
  refine lv_sipush (v := 4000) hx hb d_Pa_parse_37 (by decide) ?_
  refine lv_icmp_gt (tgt := 64) hx hb d_Pa_parse_40 (by decide) (fun hc => ?_) (fun hc => ?_)
  · rw [br_p _ hc] at hf
    exact wb_Pa_parse_64 C0 hE hex hL N G hG _ _ hf H locs hP hD hS ls (lv_sub hl [] rfl)
  · rw [br_n _ hc] at hf
    refine lv_iload_n hx hb d_Pa_parse_43 rfl (lv_at hl 1 rfl) ?_
    refine lv_if_eq (tgt := 54) hx hb d_Pa_parse_44 (by decide) (fun hc => ?_) (fun hc => ?_)
    · rw [br_p _ hc] at hf
      exact wb_Pa_parse_54 C0 hE hex hL N G hG _ _ _ _ hf H locs hP hD hS ls (lv_sub hl [0, 1] rfl)
    · rw [br_n _ hc] at hf
      refine lv_aload_n hx hb d_Pa_parse_47 rfl (lv_at hl 0 rfl) ?_
      obtain ⟨hO9, hf⟩ := ck_some hf
      rcases (bH_some hf).symm with ⟨u3, hc3, hf⟩ | ⟨u3, r3, hc3, hf⟩
      · refine x_thrown C0 hD hS (xV_run (i := v0) (As := []) (rest := []) C0 hP hD hS ck_Pa hO9 (metx_thr (c_Pa_look N hE hL hc3)) k_Pa_look (wd_of 897 (by decide +kernel) rfl) hi_Pa_look hs_Pa_look hini_Pa rfl rfl hd_Pa_look rfl rm_Pa_parse_Pa_look hl.1 (Nat.le_of_ble_eq_true rfl) d_Pa_parse_48 rfl ⟨Nat.le_of_ble_eq_true rfl, Nat.le_of_ble_eq_true rfl⟩) (fun v9 cell9 H locs hP hD hS h91 h92 h93 => wt_catch (k := 3) C0 hE hS ⟨34, 64, 67, 55⟩ [] hex (by decide) (by decide) (wd_of 888 (by decide +kernel) rfl) (lw_of 906 (by decide +kernel)) h91 h92 h93 ?_)
        refine lv_astore_n (lv' := [(1, .ref v9), (0, .ref (ad v0))]) hx hb d_Pa_parse_67 rfl hl (by decide) (by first | rfl | simp [List.filter, cat_rf]) (fun ls hl => ?_)
        exact wb_Pa_parse_68 C0 hE hex hL N G hG _ _ _ hf H locs hP hD hS ls (lv_sub hl [1] rfl)
      refine xV0 (i := v0) (As := []) (rest := []) C0 hP hD hS ck_Pa hO9 (metx_ret (c_Pa_look N hE hL hc3)) k_Pa_look (wd_of 897 (by decide +kernel) rfl) hi_Pa_look hs_Pa_look hini_Pa rfl rfl hd_Pa_look rfl rm_Pa_parse_Pa_look hl.1 (Nat.le_of_ble_eq_true rfl) d_Pa_parse_48 rfl ⟨Nat.zero_le _, Nat.zero_le _⟩ (fun H locs hP hD hS => ?_)
      refine lv_if_eq (tgt := 64) hx hb d_Pa_parse_51 (by decide) (fun hc => ?_) (fun hc => ?_)
      · rw [br_p _ hc] at hf
        exact wb_Pa_parse_64 C0 hE hex hL N G hG _ _ hf H locs hP hD hS ls (lv_sub hl [] rfl)
      · rw [br_n _ hc] at hf
        exact wb_Pa_parse_54 C0 hE hex hL N G hG _ _ _ _ hf H locs hP hD hS ls (lv_sub hl [0, 1] rfl)
def fb_Pa_parse_0 (N : Nat) (G : (CS → Nat → Int32 → Option (CS × Int32))) (u : CS) (v0 : Nat) : Option (CS × Int32) := bo (gR u v0 6 1) (fun r4 => bo r4 (fun j6 => ck (isO u j6 10) (bx (fm_Tr_clear N u j6) (fun u5 r5 => bo (gR u5 v0 6 2) (fun r7 => bo r7 (fun j9 => ck (isO u5 j9 2) (bx (fm_Co_clear N u5 j9) (fun u8 r8 => bo (pF u8 v0 6 4 (.inl 0)) (fun w10 => bo (pF w10 v0 6 5 (.inl 0)) (fun w11 => bo (pF w11 v0 6 6 (.inl 0)) (fun w12 => bo (pF w12 v0 6 7 (.inl 0)) (fun w13 => G w13 (v0) (0)))))))))))))
set_option maxRecDepth 100000 in
set_option maxHeartbeats 4000000 in
theorem wb_Pa_parse_0 {p : Program} {l : Launch} {e : Env} {s : State} {m : MethodId} {args : Array Value} {below : List Frame} {meth : Method} {c : Code} {s0 : State} {b0 : Nat} {D : va_G} {cB cI cJ cZ cS cP : ClassId} {A : Nat → Prop} {sk sv : Nat → Nat} {ad : Nat → Nat} (C0 : XCx p s s0 b0 m args meth c R_Pa b_Pa_parse 2 (some .int) D cB cI cJ cZ cS cP A) (hE : ENV s0 b0 sk sv) (hex : c.exceptionTable.toList = [(⟨34, 64, 67, 55⟩ : ExceptionTableEntry)]) (hL : l.stackTraces = false) (N : Nat) (G : (CS → Nat → Int32 → Option (CS × Int32))) (hG : (∀ (u : CS) (v0 : Nat) (v1 : Int32) (x : CS × Int32), G u v0 v1 = some x → ∀ (H : Heap) (locs : List Loc), va_P D cls (wC cB cI cJ cZ cS cP ad u) H → va_D A (wC cB cI cJ cZ cS cP ad u) → va_S A s.heap H locs → ∀ (ls : Array Slot), lv_has ls 2 [(0, .ref (ad v0)), (1, .int v1)] → W p l e rm_Pa_parse s m args below meth c H locs 0 0 (MQ below (xQ0 D cB cI cJ cZ cS cP A ad x.1 (some (.inl x.2))) args s 1 6 A) (F0 m 36 ls []))) : ∀ (u : CS) (v0 : Nat) (x : CS × Int32), fb_Pa_parse_0 N G u v0 = some x → ∀ (H : Heap) (locs : List Loc), va_P D cls (wC cB cI cJ cZ cS cP ad u) H → va_D A (wC cB cI cJ cZ cS cP ad u) → va_S A s.heap H locs → ∀ (ls : Array Slot), lv_has ls 2 [(0, .ref (ad v0))] → W p l e rm_Pa_parse s m args below meth c H locs 0 0 (MQ below (xQ0 D cB cI cJ cZ cS cP A ad x.1 (some (.inl x.2))) args s 1 6 A) (F0 m 0 ls []) := by
  intro u v0 x hf H locs hP hD hS ls hl
  obtain ⟨hx, hb, hr, hml, ht, hown, hK, hA, hlocks, hA0, hO, hbs⟩ := id C0
  unfold fb_Pa_parse_0 at hf
  refine lv_aload_n hx hb d_Pa_parse_0 rfl (lv_at hl 0 rfl) ?_
  obtain ⟨r4, g4, hf⟩ := bo_some hf
  refine xg_R (i := v0) (k := 1) hx hb ht hown ck_Pa hK hP (by decide) fk_Pa_19 g4 d_Pa_parse_1 ?_
  obtain ⟨j6, ej6, hf⟩ := bo_some hf
  rw [ej6]
  obtain ⟨hO9, hf⟩ := ck_some hf
  obtain ⟨u5, r5, hc5, hf⟩ := bx_some hf
  refine xV0 (i := j6) (As := []) (rest := []) C0 hP hD hS ck_Tr hO9 (c_Tr_clear N hc5) k_Tr_clear (wd_of 889 (by decide +kernel) rfl) hi_Tr_clear hs_Tr_clear hini_Tr rfl rfl hd_Tr_clear rfl rm_Pa_parse_Tr_clear hl.1 (Nat.le_of_ble_eq_true rfl) d_Pa_parse_4 rfl ⟨Nat.le_of_ble_eq_true rfl, Nat.le_of_ble_eq_true rfl⟩ (fun H locs hP hD hS => ?_)
  refine lv_aload_n hx hb d_Pa_parse_7 rfl (lv_at hl 0 rfl) ?_
  obtain ⟨r7, g7, hf⟩ := bo_some hf
  refine xg_R (i := v0) (k := 2) hx hb ht hown ck_Pa hK hP (by decide) fk_Pa_23 g7 d_Pa_parse_8 ?_
  obtain ⟨j9, ej9, hf⟩ := bo_some hf
  rw [ej9]
  obtain ⟨hO9, hf⟩ := ck_some hf
  obtain ⟨u8, r8, hc8, hf⟩ := bx_some hf
  refine xV0 (i := j9) (As := []) (rest := []) C0 hP hD hS ck_Co hO9 (c_Co_clear N hc8) k_Co_clear (wd_of 893 (by decide +kernel) rfl) hi_Co_clear hs_Co_clear hini_Co rfl rfl hd_Co_clear rfl rm_Pa_parse_Co_clear hl.1 (Nat.le_of_ble_eq_true rfl) d_Pa_parse_11 rfl ⟨Nat.le_of_ble_eq_true rfl, Nat.le_of_ble_eq_true rfl⟩ (fun H locs hP hD hS => ?_)
  refine lv_aload_n hx hb d_Pa_parse_14 rfl (lv_at hl 0 rfl) ?_
  refine lv_iconst (v := 0) hx hb d_Pa_parse_15 (by decide) ?_
  obtain ⟨w10, g10, hf⟩ := bo_some hf
  refine xp (i := v0) (k := 4) (v := (.inl 0)) hx hb ht hown ck_Pa hK hP hD hS (by decide) fk_Pa_35 rfl g10 rfl rfl d_Pa_parse_16 (fun H locs hP hD hS => ?_)
  refine lv_aload_n hx hb d_Pa_parse_19 rfl (lv_at hl 0 rfl) ?_
  refine lv_iconst (v := 0) hx hb d_Pa_parse_20 (by decide) ?_
  obtain ⟨w11, g11, hf⟩ := bo_some hf
  refine xp (i := v0) (k := 5) (v := (.inl 0)) hx hb ht hown ck_Pa hK hP hD hS (by decide) fk_Pa_39 rfl g11 rfl rfl d_Pa_parse_21 (fun H locs hP hD hS => ?_)
  refine lv_aload_n hx hb d_Pa_parse_24 rfl (lv_at hl 0 rfl) ?_
  refine lv_iconst (v := 0) hx hb d_Pa_parse_25 (by decide) ?_
  obtain ⟨w12, g12, hf⟩ := bo_some hf
  refine xp (i := v0) (k := 6) (v := (.inl 0)) hx hb ht hown ck_Pa hK hP hD hS (by decide) fk_Pa_42 rfl g12 rfl rfl d_Pa_parse_26 (fun H locs hP hD hS => ?_)
  refine lv_aload_n hx hb d_Pa_parse_29 rfl (lv_at hl 0 rfl) ?_
  refine lv_iconst (v := 0) hx hb d_Pa_parse_30 (by decide) ?_
  obtain ⟨w13, g13, hf⟩ := bo_some hf
  refine xp (i := v0) (k := 7) (v := (.inl 0)) hx hb ht hown ck_Pa hK hP hD hS (by decide) fk_Pa_45 rfl g13 rfl rfl d_Pa_parse_31 (fun H locs hP hD hS => ?_)
  refine lv_iconst (v := 0) hx hb d_Pa_parse_34 (by decide) ?_
  refine lv_istore_n (lv' := [(1, .int 0), (0, .ref (ad v0))]) hx hb d_Pa_parse_35 rfl hl (by decide) (by first | rfl | simp [List.filter, cat_rf]) (fun ls hl => ?_)
  exact hG _ _ _ _ hf H locs hP hD hS ls (lv_sub hl [1, 0] rfl)
def gg_Pa_parse (N : Nat) : Nat → ((CS → Nat → Int32 → Option (CS × Int32)))
  | 0 => fun _ _ _ => none
  | n + 1 => fb_Pa_parse_36 N (gg_Pa_parse N n)
theorem wg_Pa_parse {p : Program} {l : Launch} {e : Env} {s : State} {m : MethodId} {args : Array Value} {below : List Frame} {meth : Method} {c : Code} {s0 : State} {b0 : Nat} {D : va_G} {cB cI cJ cZ cS cP : ClassId} {A : Nat → Prop} {sk sv : Nat → Nat} {ad : Nat → Nat} (C0 : XCx p s s0 b0 m args meth c R_Pa b_Pa_parse 2 (some .int) D cB cI cJ cZ cS cP A) (hE : ENV s0 b0 sk sv) (hex : c.exceptionTable.toList = [(⟨34, 64, 67, 55⟩ : ExceptionTableEntry)]) (hL : l.stackTraces = false) (N : Nat) : ∀ n : Nat, (∀ (u : CS) (v0 : Nat) (v1 : Int32) (x : CS × Int32), gg_Pa_parse N n u v0 v1 = some x → ∀ (H : Heap) (locs : List Loc), va_P D cls (wC cB cI cJ cZ cS cP ad u) H → va_D A (wC cB cI cJ cZ cS cP ad u) → va_S A s.heap H locs → ∀ (ls : Array Slot), lv_has ls 2 [(0, .ref (ad v0)), (1, .int v1)] → W p l e rm_Pa_parse s m args below meth c H locs 0 0 (MQ below (xQ0 D cB cI cJ cZ cS cP A ad x.1 (some (.inl x.2))) args s 1 6 A) (F0 m 36 ls []))
  | 0 => (fun u v0 v1 x hf => by cases hf)
  | n + 1 => wb_Pa_parse_36 C0 hE hex hL N (gg_Pa_parse N n) (wg_Pa_parse C0 hE hex hL N n)
def fm_Pa_parse (N : Nat) (u : CS) (v0 : Nat) : Option (CS × Int32) := fb_Pa_parse_0 N (gg_Pa_parse N N) u v0
set_option maxRecDepth 100000 in
set_option maxHeartbeats 4000000 in
theorem c_Pa_parse (N : Nat) {l : Launch} {s0 : State} {b0 : Nat} {D : va_G} {cB cI cJ cZ cS cP : ClassId} {sk sv : Nat → Nat} {ad : Nat → Nat} {u : CS} {sz : Nat} {v0 : Nat} {x : CS × Int32} (hE : ENV s0 b0 sk sv) (hL : l.stackTraces = false) (hf : fm_Pa_parse N u v0 = some x) : Met l y_Pa_parse (wd_wsW y_Pa_parse b_Pa_parse 2 (some .int) [(34, 64, 67, 55)]) rm_Pa_parse (xPc s0 b0 D cB cI cJ cZ cS cP ad u sz [.ref (ad v0)]) (xQ0 D cB cI cJ cZ cS cP (xA cB cI cJ cZ cS cP ad u sz) ad x.1 (some (.inl x.2))) 1 6 (xA cB cI cJ cZ cS cP ad u sz) :=
  xMetW (by decide) rfl (Nat.le_of_ble_eq_true rfl) (fun p e s m below meth c ls hsz hex C0 hP hD hS hl =>
    wb_Pa_parse_0 C0 hE hex hL N (gg_Pa_parse N N) (wg_Pa_parse C0 hE hex hL N N) u _ x hf s.heap [] hP hD hS ls (lv_sub hl [0] rfl))
abbrev b_Cm_predefinedOf : ByteArray := prog_3_method_6_code
def y_Cm_predefinedOf : MethodName := ⟨R_Cm, "predefinedOf", "(II)I"⟩
def w_Cm_predefinedOf : List Cond := wd_ws y_Cm_predefinedOf b_Cm_predefinedOf 4 (some .int)
set_option maxRecDepth 100000 in
theorem k_Cm_predefinedOf : Cond.code y_Cm_predefinedOf b_Cm_predefinedOf 4 (some .int) ∈ wd_tbl := wd_of 1126 rfl rfl
theorem d_Cm_predefinedOf_0 : decode b_Cm_predefinedOf 0 = .ok (.aload_n 0, 1) := by decide +kernel
theorem d_Cm_predefinedOf_1 : decode b_Cm_predefinedOf 1 = .ok (.getfield 47, 3) := by decide +kernel
theorem d_Cm_predefinedOf_4 : decode b_Cm_predefinedOf 4 = .ok (.aload_n 0, 1) := by decide +kernel
theorem d_Cm_predefinedOf_5 : decode b_Cm_predefinedOf 5 = .ok (.getfield 16, 3) := by decide +kernel
theorem d_Cm_predefinedOf_8 : decode b_Cm_predefinedOf 8 = .ok (.iload_n 1, 1) := by decide +kernel
theorem d_Cm_predefinedOf_9 : decode b_Cm_predefinedOf 9 = .ok (.invokevirtual 145, 3) := by decide +kernel
theorem d_Cm_predefinedOf_12 : decode b_Cm_predefinedOf 12 = .ok (.istore_n 3, 1) := by decide +kernel
theorem d_Cm_predefinedOf_13 : decode b_Cm_predefinedOf 13 = .ok (.iload_n 3, 1) := by decide +kernel
theorem d_Cm_predefinedOf_14 : decode b_Cm_predefinedOf 14 = .ok (.bipush 7, 2) := by decide +kernel
theorem d_Cm_predefinedOf_16 : decode b_Cm_predefinedOf 16 = .ok (.if_icmp .ne 11, 3) := by decide +kernel
theorem d_Cm_predefinedOf_19 : decode b_Cm_predefinedOf 19 = .ok (.iload_n 2, 1) := by decide +kernel
theorem d_Cm_predefinedOf_20 : decode b_Cm_predefinedOf 20 = .ok (.iconst 2, 1) := by decide +kernel
theorem d_Cm_predefinedOf_21 : decode b_Cm_predefinedOf 21 = .ok (.if_icmp .ne 6, 3) := by decide +kernel
theorem d_Cm_predefinedOf_24 : decode b_Cm_predefinedOf 24 = .ok (.bipush 29, 2) := by decide +kernel
theorem d_Cm_predefinedOf_26 : decode b_Cm_predefinedOf 26 = .ok (.ireturn, 1) := by decide +kernel
theorem d_Cm_predefinedOf_27 : decode b_Cm_predefinedOf 27 = .ok (.iload_n 3, 1) := by decide +kernel
theorem d_Cm_predefinedOf_28 : decode b_Cm_predefinedOf 28 = .ok (.iconst (-1), 1) := by decide +kernel
theorem d_Cm_predefinedOf_29 : decode b_Cm_predefinedOf 29 = .ok (.if_icmp .eq 24, 3) := by decide +kernel
theorem d_Cm_predefinedOf_32 : decode b_Cm_predefinedOf 32 = .ok (.iload_n 3, 1) := by decide +kernel
theorem d_Cm_predefinedOf_33 : decode b_Cm_predefinedOf 33 = .ok (.getstatic 149, 3) := by decide +kernel
theorem d_Cm_predefinedOf_36 : decode b_Cm_predefinedOf 36 = .ok (.arraylength, 1) := by decide +kernel
theorem d_Cm_predefinedOf_37 : decode b_Cm_predefinedOf 37 = .ok (.if_icmp .ge 16, 3) := by decide +kernel
theorem d_Cm_predefinedOf_40 : decode b_Cm_predefinedOf 40 = .ok (.getstatic 149, 3) := by decide +kernel
theorem d_Cm_predefinedOf_43 : decode b_Cm_predefinedOf 43 = .ok (.iload_n 3, 1) := by decide +kernel
theorem d_Cm_predefinedOf_44 : decode b_Cm_predefinedOf 44 = .ok (.iaload, 1) := by decide +kernel
theorem d_Cm_predefinedOf_45 : decode b_Cm_predefinedOf 45 = .ok (.iload_n 2, 1) := by decide +kernel
theorem d_Cm_predefinedOf_46 : decode b_Cm_predefinedOf 46 = .ok (.if_icmp .ne 7, 3) := by decide +kernel
theorem d_Cm_predefinedOf_49 : decode b_Cm_predefinedOf 49 = .ok (.iload_n 3, 1) := by decide +kernel
theorem d_Cm_predefinedOf_50 : decode b_Cm_predefinedOf 50 = .ok (.goto 4, 3) := by decide +kernel
theorem d_Cm_predefinedOf_53 : decode b_Cm_predefinedOf 53 = .ok (.iconst (-1), 1) := by decide +kernel
theorem d_Cm_predefinedOf_54 : decode b_Cm_predefinedOf 54 = .ok (.ireturn, 1) := by decide +kernel
set_option maxRecDepth 100000 in
theorem hl_Cm_predefinedOf : Cond.methodLink R_Cm 110 y_Cm_predefinedOf ∈ wd_tbl := wd_of 1123 (by decide +kernel) rfl
set_option maxRecDepth 100000 in
theorem hi_Cm_predefinedOf : Cond.instanceMethod y_Cm_predefinedOf ∈ wd_tbl := wd_of 1125 (by decide +kernel) rfl
set_option maxRecDepth 100000 in
theorem hs_Cm_predefinedOf : Cond.selects R_Cm y_Cm_predefinedOf y_Cm_predefinedOf ∈ wd_tbl := wd_of 38 (by decide +kernel) rfl
theorem hd_Cm_predefinedOf : y_Cm_predefinedOf.cls = R_Cm ∧ y_Cm_predefinedOf.cls ≠ "java/lang/invoke/MethodHandle" ∧ y_Cm_predefinedOf.cls ≠ "java/lang/invoke/VarHandle" ∧ (parseMethodDescriptor y_Cm_predefinedOf.desc).map (fun d => d.parameters.length) = some 2 := by decide +kernel
def rm_Cm_predefinedOf : Room := { frames := 3, cells := 0, slots := 0, locals := 71 }
theorem rm_Cm_predefinedOf_Wo_seekIn : (rm_Wo_seekIn).frames + 1 ≤ rm_Cm_predefinedOf.frames ∧ 8 + (3 + 11) + (rm_Wo_seekIn).locals ≤ rm_Cm_predefinedOf.locals := by
  show 2 + 1 ≤ 3 ∧ 8 + (3 + 11) + 49 ≤ 71
  decide
def fb_Cm_predefinedOf_54 (N : Nat) (G : Unit) (u : CS) (t0 : Int32) : Option (CS × Int32) := some (u, t0)
set_option maxRecDepth 100000 in
set_option maxHeartbeats 4000000 in
theorem wb_Cm_predefinedOf_54 {p : Program} {l : Launch} {e : Env} {s : State} {m : MethodId} {args : Array Value} {below : List Frame} {meth : Method} {c : Code} {s0 : State} {b0 : Nat} {D : va_G} {cB cI cJ cZ cS cP : ClassId} {A : Nat → Prop} {sk sv : Nat → Nat} {ad : Nat → Nat} (C0 : XCx p s s0 b0 m args meth c R_Cm b_Cm_predefinedOf 4 (some .int) D cB cI cJ cZ cS cP A) (hE : ENV s0 b0 sk sv) (N : Nat) (G : Unit) (hG : True) : ∀ (u : CS) (t0 : Int32) (x : CS × Int32), fb_Cm_predefinedOf_54 N G u t0 = some x → ∀ (H : Heap) (locs : List Loc), va_P D cls (wC cB cI cJ cZ cS cP ad u) H → va_D A (wC cB cI cJ cZ cS cP ad u) → va_S A s.heap H locs → ∀ (ls : Array Slot), lv_has ls 4 [] → W p l e rm_Cm_predefinedOf s m args below meth c H locs 0 0 (MQ below (xQ0 D cB cI cJ cZ cS cP A ad x.1 (some (.inl x.2))) args s 0 0 A) (F0 m 54 ls [.int t0]) := by
  intro u t0 x hf H locs hP hD hS ls hl
  obtain ⟨hx, hb, hr, hml, ht, hown, hK, hA, hlocks, hA0, hO, hbs⟩ := id C0
  unfold fb_Cm_predefinedOf_54 at hf
  exact xr0_i C0 hP hD hS hf d_Cm_predefinedOf_54
def fb_Cm_predefinedOf_53 (N : Nat) (G : Unit) (u : CS) : Option (CS × Int32) := fb_Cm_predefinedOf_54 N G u ((-1))
set_option maxRecDepth 100000 in
set_option maxHeartbeats 4000000 in
theorem wb_Cm_predefinedOf_53 {p : Program} {l : Launch} {e : Env} {s : State} {m : MethodId} {args : Array Value} {below : List Frame} {meth : Method} {c : Code} {s0 : State} {b0 : Nat} {D : va_G} {cB cI cJ cZ cS cP : ClassId} {A : Nat → Prop} {sk sv : Nat → Nat} {ad : Nat → Nat} (C0 : XCx p s s0 b0 m args meth c R_Cm b_Cm_predefinedOf 4 (some .int) D cB cI cJ cZ cS cP A) (hE : ENV s0 b0 sk sv) (N : Nat) (G : Unit) (hG : True) : ∀ (u : CS) (x : CS × Int32), fb_Cm_predefinedOf_53 N G u = some x → ∀ (H : Heap) (locs : List Loc), va_P D cls (wC cB cI cJ cZ cS cP ad u) H → va_D A (wC cB cI cJ cZ cS cP ad u) → va_S A s.heap H locs → ∀ (ls : Array Slot), lv_has ls 4 [] → W p l e rm_Cm_predefinedOf s m args below meth c H locs 0 0 (MQ below (xQ0 D cB cI cJ cZ cS cP A ad x.1 (some (.inl x.2))) args s 0 0 A) (F0 m 53 ls []) := by
  intro u x hf H locs hP hD hS ls hl
  obtain ⟨hx, hb, hr, hml, ht, hown, hK, hA, hlocks, hA0, hO, hbs⟩ := id C0
  unfold fb_Cm_predefinedOf_53 at hf
  refine lv_iconst (v := (-1)) hx hb d_Cm_predefinedOf_53 (by decide) ?_
  exact wb_Cm_predefinedOf_54 C0 hE N G hG _ _ _ hf H locs hP hD hS ls (lv_sub hl [] rfl)
def fb_Cm_predefinedOf_27 (N : Nat) (G : Unit) (u : CS) (v2 : Int32) (v3 : Int32) : Option (CS × Int32) := br (decide (v3 = (-1))) (fb_Cm_predefinedOf_53 N G u) (br (decide (29 ≤ v3)) (fb_Cm_predefinedOf_53 N G u) (ck (inb v3 29) (br (decide ((takL.getD v3.toNatClampNeg 0) = v2)) (fb_Cm_predefinedOf_54 N G u (v3)) (fb_Cm_predefinedOf_53 N G u))))
set_option maxRecDepth 100000 in
set_option maxHeartbeats 4000000 in
theorem wb_Cm_predefinedOf_27 {p : Program} {l : Launch} {e : Env} {s : State} {m : MethodId} {args : Array Value} {below : List Frame} {meth : Method} {c : Code} {s0 : State} {b0 : Nat} {D : va_G} {cB cI cJ cZ cS cP : ClassId} {A : Nat → Prop} {sk sv : Nat → Nat} {ad : Nat → Nat} (C0 : XCx p s s0 b0 m args meth c R_Cm b_Cm_predefinedOf 4 (some .int) D cB cI cJ cZ cS cP A) (hE : ENV s0 b0 sk sv) (N : Nat) (G : Unit) (hG : True) : ∀ (u : CS) (v2 : Int32) (v3 : Int32) (x : CS × Int32), fb_Cm_predefinedOf_27 N G u v2 v3 = some x → ∀ (H : Heap) (locs : List Loc), va_P D cls (wC cB cI cJ cZ cS cP ad u) H → va_D A (wC cB cI cJ cZ cS cP ad u) → va_S A s.heap H locs → ∀ (ls : Array Slot), lv_has ls 4 [(2, .int v2), (3, .int v3)] → W p l e rm_Cm_predefinedOf s m args below meth c H locs 0 0 (MQ below (xQ0 D cB cI cJ cZ cS cP A ad x.1 (some (.inl x.2))) args s 0 0 A) (F0 m 27 ls []) := by
  intro u v2 v3 x hf H locs hP hD hS ls hl
  obtain ⟨hx, hb, hr, hml, ht, hown, hK, hA, hlocks, hA0, hO, hbs⟩ := id C0
  unfold fb_Cm_predefinedOf_27 at hf
  refine lv_iload_n hx hb d_Cm_predefinedOf_27 rfl (lv_at hl 1 rfl) ?_
  refine lv_iconst (v := (-1)) hx hb d_Cm_predefinedOf_28 (by decide) ?_
  refine lv_icmp_eq (tgt := 53) hx hb d_Cm_predefinedOf_29 (by decide) (fun hc => ?_) (fun hc => ?_)
  · rw [br_p _ hc] at hf
    exact wb_Cm_predefinedOf_53 C0 hE N G hG _ _ hf H locs hP hD hS ls (lv_sub hl [] rfl)
  · rw [br_n _ hc] at hf
    refine lv_iload_n hx hb d_Cm_predefinedOf_32 rfl (lv_at hl 1 rfl) ?_
    refine x_tak (k := 2) C0 hE hS rfl d_Cm_predefinedOf_33 ?_
    refine x_tkl C0 hE hS d_Cm_predefinedOf_36 ?_
    refine lv_icmp_ge (tgt := 53) hx hb d_Cm_predefinedOf_37 (by decide) (fun hc => ?_) (fun hc => ?_)
    · rw [br_p _ hc] at hf
      exact wb_Cm_predefinedOf_53 C0 hE N G hG _ _ hf H locs hP hD hS ls (lv_sub hl [] rfl)
    · rw [br_n _ hc] at hf
      refine x_tak (k := 2) C0 hE hS rfl d_Cm_predefinedOf_40 ?_
      refine lv_iload_n hx hb d_Cm_predefinedOf_43 rfl (lv_at hl 1 rfl) ?_
      obtain ⟨hi9, hf⟩ := ck_some hf
      refine x_tki C0 hE hS hi9 d_Cm_predefinedOf_44 ?_
      refine lv_iload_n hx hb d_Cm_predefinedOf_45 rfl (lv_at hl 0 rfl) ?_
      refine lv_icmp_ne (tgt := 53) hx hb d_Cm_predefinedOf_46 (by decide) (fun hc => ?_) (fun hc => ?_)
      · rw [br_n _ hc] at hf
        exact wb_Cm_predefinedOf_53 C0 hE N G hG _ _ hf H locs hP hD hS ls (lv_sub hl [] rfl)
      · rw [br_p _ hc] at hf
        refine lv_iload_n hx hb d_Cm_predefinedOf_49 rfl (lv_at hl 1 rfl) ?_
        refine lv_goto (tgt := 54) hx hb d_Cm_predefinedOf_50 (by decide) ?_
        exact wb_Cm_predefinedOf_54 C0 hE N G hG _ _ _ hf H locs hP hD hS ls (lv_sub hl [] rfl)
def fb_Cm_predefinedOf_0 (N : Nat) (G : Unit) (u : CS) (v0 : Nat) (v1 : Int32) (v2 : Int32) : Option (CS × Int32) := bo (gR u v0 3 3) (fun r1 => bo (gR u v0 3 4) (fun r2 => bo r1 (fun j4 => ck (isO u j4 11) (bx (fm_Wo_seekIn N u j4 r2 v1) (fun u3 r3 => br (decide (r3 = 7)) (br (decide (v2 = 2)) (some (u3, 29)) (fb_Cm_predefinedOf_27 N G u3 (v2) (r3))) (fb_Cm_predefinedOf_27 N G u3 (v2) (r3)))))))
set_option maxRecDepth 100000 in
set_option maxHeartbeats 4000000 in
theorem wb_Cm_predefinedOf_0 {p : Program} {l : Launch} {e : Env} {s : State} {m : MethodId} {args : Array Value} {below : List Frame} {meth : Method} {c : Code} {s0 : State} {b0 : Nat} {D : va_G} {cB cI cJ cZ cS cP : ClassId} {A : Nat → Prop} {sk sv : Nat → Nat} {ad : Nat → Nat} (C0 : XCx p s s0 b0 m args meth c R_Cm b_Cm_predefinedOf 4 (some .int) D cB cI cJ cZ cS cP A) (hE : ENV s0 b0 sk sv) (N : Nat) (G : Unit) (hG : True) : ∀ (u : CS) (v0 : Nat) (v1 : Int32) (v2 : Int32) (x : CS × Int32), fb_Cm_predefinedOf_0 N G u v0 v1 v2 = some x → ∀ (H : Heap) (locs : List Loc), va_P D cls (wC cB cI cJ cZ cS cP ad u) H → va_D A (wC cB cI cJ cZ cS cP ad u) → va_S A s.heap H locs → ∀ (ls : Array Slot), lv_has ls 4 [(0, .ref (ad v0)), (1, .int v1), (2, .int v2)] → W p l e rm_Cm_predefinedOf s m args below meth c H locs 0 0 (MQ below (xQ0 D cB cI cJ cZ cS cP A ad x.1 (some (.inl x.2))) args s 0 0 A) (F0 m 0 ls []) := by
  intro u v0 v1 v2 x hf H locs hP hD hS ls hl
  obtain ⟨hx, hb, hr, hml, ht, hown, hK, hA, hlocks, hA0, hO, hbs⟩ := id C0
  unfold fb_Cm_predefinedOf_0 at hf
  refine lv_aload_n hx hb d_Cm_predefinedOf_0 rfl (lv_at hl 0 rfl) ?_
  obtain ⟨r1, g1, hf⟩ := bo_some hf
  refine xg_R (i := v0) (k := 3) hx hb ht hown ck_Cm hK hP (by decide) fk_Cm_47 g1 d_Cm_predefinedOf_1 ?_
  refine lv_aload_n hx hb d_Cm_predefinedOf_4 rfl (lv_at hl 0 rfl) ?_
  obtain ⟨r2, g2, hf⟩ := bo_some hf
  refine xg_R (i := v0) (k := 4) hx hb ht hown ck_Cm hK hP (by decide) fk_Cm_16 g2 d_Cm_predefinedOf_5 ?_
  refine lv_iload_n hx hb d_Cm_predefinedOf_8 rfl (lv_at hl 1 rfl) ?_
  obtain ⟨j4, ej4, hf⟩ := bo_some hf
  rw [ej4]
  obtain ⟨hO9, hf⟩ := ck_some hf
  obtain ⟨u3, r3, hc3, hf⟩ := bx_some hf
  refine xV0 (i := j4) (As := [va_rf (Option.map ad r2), .int v1]) (rest := []) C0 hP hD hS ck_Wo hO9 (c_Wo_seekIn N hc3) k_Wo_seekIn (wd_of 1127 (by decide +kernel) rfl) hi_Wo_seekIn hs_Wo_seekIn hini_Wo rfl rfl hd_Wo_seekIn rfl rm_Cm_predefinedOf_Wo_seekIn hl.1 (Nat.le_of_ble_eq_true rfl) d_Cm_predefinedOf_9 rfl ⟨Nat.zero_le _, Nat.zero_le _⟩ (fun H locs hP hD hS => ?_)
  refine lv_istore_n (lv' := [(3, .int r3), (0, .ref (ad v0)), (1, .int v1), (2, .int v2)]) hx hb d_Cm_predefinedOf_12 rfl hl (by decide) (by first | rfl | simp [List.filter, cat_rf]) (fun ls hl => ?_)
  refine lv_iload_n hx hb d_Cm_predefinedOf_13 rfl (lv_at hl 0 rfl) ?_
  refine lv_bipush (v := 7) hx hb d_Cm_predefinedOf_14 (by decide) ?_
  refine lv_icmp_ne (tgt := 27) hx hb d_Cm_predefinedOf_16 (by decide) (fun hc => ?_) (fun hc => ?_)
  · rw [br_n _ hc] at hf
    exact wb_Cm_predefinedOf_27 C0 hE N G hG _ _ _ _ hf H locs hP hD hS ls (lv_sub hl [3, 0] rfl)
  · rw [br_p _ hc] at hf
    refine lv_iload_n hx hb d_Cm_predefinedOf_19 rfl (lv_at hl 3 rfl) ?_
    refine lv_iconst (v := 2) hx hb d_Cm_predefinedOf_20 (by decide) ?_
    refine lv_icmp_ne (tgt := 27) hx hb d_Cm_predefinedOf_21 (by decide) (fun hc => ?_) (fun hc => ?_)
    · rw [br_n _ hc] at hf
      exact wb_Cm_predefinedOf_27 C0 hE N G hG _ _ _ _ hf H locs hP hD hS ls (lv_sub hl [3, 0] rfl)
    · rw [br_p _ hc] at hf
      refine lv_bipush (v := 29) hx hb d_Cm_predefinedOf_24 (by decide) ?_
      exact xr0_i C0 hP hD hS hf d_Cm_predefinedOf_26
def fm_Cm_predefinedOf (N : Nat) (u : CS) (v0 : Nat) (v1 : Int32) (v2 : Int32) : Option (CS × Int32) := fb_Cm_predefinedOf_0 N () u v0 v1 v2
set_option maxRecDepth 100000 in
set_option maxHeartbeats 4000000 in
theorem c_Cm_predefinedOf (N : Nat) {l : Launch} {s0 : State} {b0 : Nat} {D : va_G} {cB cI cJ cZ cS cP : ClassId} {sk sv : Nat → Nat} {ad : Nat → Nat} {u : CS} {sz : Nat} {v0 : Nat} {v1 : Int32} {v2 : Int32} {x : CS × Int32} (hE : ENV s0 b0 sk sv) (hf : fm_Cm_predefinedOf N u v0 v1 v2 = some x) : Met l y_Cm_predefinedOf (wd_ws y_Cm_predefinedOf b_Cm_predefinedOf 4 (some .int)) rm_Cm_predefinedOf (xPc s0 b0 D cB cI cJ cZ cS cP ad u sz [.ref (ad v0), .int v1, .int v2]) (xQ0 D cB cI cJ cZ cS cP (xA cB cI cJ cZ cS cP ad u sz) ad x.1 (some (.inl x.2))) 0 0 (xA cB cI cJ cZ cS cP ad u sz) :=
  xMet (by decide) rfl (Nat.le_of_ble_eq_true rfl) (fun p e s m below meth c ls hsz hnm C0 hP hD hS hl =>
    wb_Cm_predefinedOf_0 C0 hE N () trivial u _ _ _ x hf s.heap [] hP hD hS ls (lv_sub hl [0, 1, 2] rfl))
abbrev b_Cm_fault : ByteArray := prog_3_method_3_code
def y_Cm_fault : MethodName := ⟨R_Cm, "fault", "(II)V"⟩
def w_Cm_fault : List Cond := wd_ws y_Cm_fault b_Cm_fault 3 none
set_option maxRecDepth 100000 in
theorem k_Cm_fault : Cond.code y_Cm_fault b_Cm_fault 3 none ∈ wd_tbl := wd_of 1136 rfl rfl
theorem d_Cm_fault_0 : decode b_Cm_fault 0 = .ok (.aload_n 0, 1) := by decide +kernel
theorem d_Cm_fault_1 : decode b_Cm_fault 1 = .ok (.aload_n 0, 1) := by decide +kernel
theorem d_Cm_fault_2 : decode b_Cm_fault 2 = .ok (.getfield 51, 3) := by decide +kernel
theorem d_Cm_fault_5 : decode b_Cm_fault 5 = .ok (.iload_n 1, 1) := by decide +kernel
theorem d_Cm_fault_6 : decode b_Cm_fault 6 = .ok (.bipush 16, 2) := by decide +kernel
theorem d_Cm_fault_8 : decode b_Cm_fault 8 = .ok (.imul, 1) := by decide +kernel
theorem d_Cm_fault_9 : decode b_Cm_fault 9 = .ok (.iload_n 2, 1) := by decide +kernel
theorem d_Cm_fault_10 : decode b_Cm_fault 10 = .ok (.iadd, 1) := by decide +kernel
theorem d_Cm_fault_11 : decode b_Cm_fault 11 = .ok (.invokestatic 83, 3) := by decide +kernel
theorem d_Cm_fault_14 : decode b_Cm_fault 14 = .ok (.putfield 51, 3) := by decide +kernel
theorem d_Cm_fault_17 : decode b_Cm_fault 17 = .ok (.return_, 1) := by decide +kernel
set_option maxRecDepth 100000 in
theorem hl_Cm_fault : Cond.methodLink R_Cm 89 y_Cm_fault ∈ wd_tbl := wd_of 1133 (by decide +kernel) rfl
set_option maxRecDepth 100000 in
theorem hi_Cm_fault : Cond.instanceMethod y_Cm_fault ∈ wd_tbl := wd_of 1135 (by decide +kernel) rfl
set_option maxRecDepth 100000 in
theorem hs_Cm_fault : Cond.selects R_Cm y_Cm_fault y_Cm_fault ∈ wd_tbl := wd_of 39 (by decide +kernel) rfl
theorem hd_Cm_fault : y_Cm_fault.cls = R_Cm ∧ y_Cm_fault.cls ≠ "java/lang/invoke/MethodHandle" ∧ y_Cm_fault.cls ≠ "java/lang/invoke/VarHandle" ∧ (parseMethodDescriptor y_Cm_fault.desc).map (fun d => d.parameters.length) = some 2 := by decide +kernel
def rm_Cm_fault : Room := { frames := 1, cells := 0, slots := 0, locals := 23 }
def fb_Cm_fault_0 (N : Nat) (G : Unit) (u : CS) (v0 : Nat) (v1 : Int32) (v2 : Int32) : Option (CS × Unit) := bo (gI u v0 3 14) (fun r1 => lt (if ((v1 * 16) + v2) < r1 then ((v1 * 16) + v2) else r1) (fun y2 => bo (pF u v0 3 14 (.inl y2)) (fun w3 => some (w3, ()))))
set_option maxRecDepth 100000 in
set_option maxHeartbeats 4000000 in
theorem wb_Cm_fault_0 {p : Program} {l : Launch} {e : Env} {s : State} {m : MethodId} {args : Array Value} {below : List Frame} {meth : Method} {c : Code} {s0 : State} {b0 : Nat} {D : va_G} {cB cI cJ cZ cS cP : ClassId} {A : Nat → Prop} {sk sv : Nat → Nat} {ad : Nat → Nat} (C0 : XCx p s s0 b0 m args meth c R_Cm b_Cm_fault 3 none D cB cI cJ cZ cS cP A) (hE : ENV s0 b0 sk sv) (N : Nat) (G : Unit) (hG : True) : ∀ (u : CS) (v0 : Nat) (v1 : Int32) (v2 : Int32) (x : CS × Unit), fb_Cm_fault_0 N G u v0 v1 v2 = some x → ∀ (H : Heap) (locs : List Loc), va_P D cls (wC cB cI cJ cZ cS cP ad u) H → va_D A (wC cB cI cJ cZ cS cP ad u) → va_S A s.heap H locs → ∀ (ls : Array Slot), lv_has ls 3 [(0, .ref (ad v0)), (1, .int v1), (2, .int v2)] → W p l e rm_Cm_fault s m args below meth c H locs 0 0 (MQ below (xQ0 D cB cI cJ cZ cS cP A ad x.1 none) args s 0 0 A) (F0 m 0 ls []) := by
  intro u v0 v1 v2 x hf H locs hP hD hS ls hl
  obtain ⟨hx, hb, hr, hml, ht, hown, hK, hA, hlocks, hA0, hO, hbs⟩ := id C0
  unfold fb_Cm_fault_0 at hf
  refine lv_aload_n hx hb d_Cm_fault_0 rfl (lv_at hl 0 rfl) ?_
  refine lv_aload_n hx hb d_Cm_fault_1 rfl (lv_at hl 0 rfl) ?_
  obtain ⟨r1, g1, hf⟩ := bo_some hf
  refine xg_I (i := v0) (k := 14) hx hb ht hown ck_Cm hK hP (by decide) fk_Cm_51 g1 d_Cm_fault_2 ?_
  refine lv_iload_n hx hb d_Cm_fault_5 rfl (lv_at hl 1 rfl) ?_
  refine lv_bipush (v := 16) hx hb d_Cm_fault_6 (by decide) ?_
  refine lv_imul hx hb d_Cm_fault_8 ?_
  refine lv_iload_n hx hb d_Cm_fault_9 rfl (lv_at hl 2 rfl) ?_
  refine lv_iadd hx hb d_Cm_fault_10 ?_
  refine va_mmin hx hb (hml.trans hl.1.symm) hown (ht _ (wd_of 1137 (by decide +kernel) rfl)) (ht _ (wd_of 1138 (by decide +kernel) rfl)) (ht _ (wd_of 281 (by decide +kernel) rfl)) (ht _ (wd_of 1139 (by decide +kernel) rfl)) (Nat.le_of_ble_eq_true rfl) (Nat.le_trans (Nat.add_le_add_right (c8 (Nat.le_of_ble_eq_true rfl)) _) (Nat.le_of_ble_eq_true rfl)) (Nat.zero_le _) (Nat.zero_le _) d_Cm_fault_11 ?_
  obtain ⟨y2, e2, hf⟩ := lt_some hf
  rw [← e2]
  obtain ⟨w3, g3, hf⟩ := bo_some hf
  refine xp (i := v0) (k := 14) (v := (.inl y2)) hx hb ht hown ck_Cm hK hP hD hS (by decide) fk_Cm_51 rfl g3 rfl rfl d_Cm_fault_14 (fun H locs hP hD hS => ?_)
  exact xr0_v C0 hP hD hS hf d_Cm_fault_17
def fm_Cm_fault (N : Nat) (u : CS) (v0 : Nat) (v1 : Int32) (v2 : Int32) : Option (CS × Unit) := fb_Cm_fault_0 N () u v0 v1 v2
set_option maxRecDepth 100000 in
set_option maxHeartbeats 4000000 in
theorem c_Cm_fault (N : Nat) {l : Launch} {s0 : State} {b0 : Nat} {D : va_G} {cB cI cJ cZ cS cP : ClassId} {sk sv : Nat → Nat} {ad : Nat → Nat} {u : CS} {sz : Nat} {v0 : Nat} {v1 : Int32} {v2 : Int32} {x : CS × Unit} (hE : ENV s0 b0 sk sv) (hf : fm_Cm_fault N u v0 v1 v2 = some x) : Met l y_Cm_fault (wd_ws y_Cm_fault b_Cm_fault 3 none) rm_Cm_fault (xPc s0 b0 D cB cI cJ cZ cS cP ad u sz [.ref (ad v0), .int v1, .int v2]) (xQ0 D cB cI cJ cZ cS cP (xA cB cI cJ cZ cS cP ad u sz) ad x.1 none) 0 0 (xA cB cI cJ cZ cS cP ad u sz) :=
  xMet (by decide) rfl (Nat.le_of_ble_eq_true rfl) (fun p e s m below meth c ls hsz hnm C0 hP hD hS hl =>
    wb_Cm_fault_0 C0 hE N () trivial u _ _ _ x hf s.heap [] hP hD hS ls (lv_sub hl [0, 1, 2] rfl))
abbrev b_Cm_bind : ByteArray := prog_3_method_14_code
def y_Cm_bind : MethodName := ⟨R_Cm, "bind", "(I)V"⟩
def w_Cm_bind : List Cond := wd_ws y_Cm_bind b_Cm_bind 2 none
set_option maxRecDepth 100000 in
theorem k_Cm_bind : Cond.code y_Cm_bind b_Cm_bind 2 none ∈ wd_tbl := wd_of 1182 rfl rfl
theorem d_Cm_bind_0 : decode b_Cm_bind 0 = .ok (.aload_n 0, 1) := by decide +kernel
theorem d_Cm_bind_1 : decode b_Cm_bind 1 = .ok (.getfield 116, 3) := by decide +kernel
theorem d_Cm_bind_4 : decode b_Cm_bind 4 = .ok (.aload_n 0, 1) := by decide +kernel
theorem d_Cm_bind_5 : decode b_Cm_bind 5 = .ok (.getfield 22, 3) := by decide +kernel
theorem d_Cm_bind_8 : decode b_Cm_bind 8 = .ok (.arraylength, 1) := by decide +kernel
theorem d_Cm_bind_9 : decode b_Cm_bind 9 = .ok (.if_icmp .ge 23, 3) := by decide +kernel
theorem d_Cm_bind_12 : decode b_Cm_bind 12 = .ok (.aload_n 0, 1) := by decide +kernel
theorem d_Cm_bind_13 : decode b_Cm_bind 13 = .ok (.getfield 22, 3) := by decide +kernel
theorem d_Cm_bind_16 : decode b_Cm_bind 16 = .ok (.aload_n 0, 1) := by decide +kernel
theorem d_Cm_bind_17 : decode b_Cm_bind 17 = .ok (.getfield 116, 3) := by decide +kernel
theorem d_Cm_bind_20 : decode b_Cm_bind 20 = .ok (.iload_n 1, 1) := by decide +kernel
theorem d_Cm_bind_21 : decode b_Cm_bind 21 = .ok (.iastore, 1) := by decide +kernel
theorem d_Cm_bind_22 : decode b_Cm_bind 22 = .ok (.aload_n 0, 1) := by decide +kernel
theorem d_Cm_bind_23 : decode b_Cm_bind 23 = .ok (.dup, 1) := by decide +kernel
theorem d_Cm_bind_24 : decode b_Cm_bind 24 = .ok (.getfield 116, 3) := by decide +kernel
theorem d_Cm_bind_27 : decode b_Cm_bind 27 = .ok (.iconst 1, 1) := by decide +kernel
theorem d_Cm_bind_28 : decode b_Cm_bind 28 = .ok (.iadd, 1) := by decide +kernel
theorem d_Cm_bind_29 : decode b_Cm_bind 29 = .ok (.putfield 116, 3) := by decide +kernel
theorem d_Cm_bind_32 : decode b_Cm_bind 32 = .ok (.aload_n 0, 1) := by decide +kernel
theorem d_Cm_bind_33 : decode b_Cm_bind 33 = .ok (.getfield 29, 3) := by decide +kernel
theorem d_Cm_bind_36 : decode b_Cm_bind 36 = .ok (.aload_n 0, 1) := by decide +kernel
theorem d_Cm_bind_37 : decode b_Cm_bind 37 = .ok (.getfield 113, 3) := by decide +kernel
theorem d_Cm_bind_40 : decode b_Cm_bind 40 = .ok (.aload_n 0, 1) := by decide +kernel
theorem d_Cm_bind_41 : decode b_Cm_bind 41 = .ok (.getfield 29, 3) := by decide +kernel
theorem d_Cm_bind_44 : decode b_Cm_bind 44 = .ok (.aload_n 0, 1) := by decide +kernel
theorem d_Cm_bind_45 : decode b_Cm_bind 45 = .ok (.getfield 113, 3) := by decide +kernel
theorem d_Cm_bind_48 : decode b_Cm_bind 48 = .ok (.iaload, 1) := by decide +kernel
theorem d_Cm_bind_49 : decode b_Cm_bind 49 = .ok (.aload_n 0, 1) := by decide +kernel
theorem d_Cm_bind_50 : decode b_Cm_bind 50 = .ok (.getfield 116, 3) := by decide +kernel
theorem d_Cm_bind_53 : decode b_Cm_bind 53 = .ok (.aload_n 0, 1) := by decide +kernel
theorem d_Cm_bind_54 : decode b_Cm_bind 54 = .ok (.getfield 26, 3) := by decide +kernel
theorem d_Cm_bind_57 : decode b_Cm_bind 57 = .ok (.aload_n 0, 1) := by decide +kernel
theorem d_Cm_bind_58 : decode b_Cm_bind 58 = .ok (.getfield 113, 3) := by decide +kernel
theorem d_Cm_bind_61 : decode b_Cm_bind 61 = .ok (.iaload, 1) := by decide +kernel
theorem d_Cm_bind_62 : decode b_Cm_bind 62 = .ok (.isub, 1) := by decide +kernel
theorem d_Cm_bind_63 : decode b_Cm_bind 63 = .ok (.invokestatic 204, 3) := by decide +kernel
theorem d_Cm_bind_66 : decode b_Cm_bind 66 = .ok (.iastore, 1) := by decide +kernel
theorem d_Cm_bind_67 : decode b_Cm_bind 67 = .ok (.return_, 1) := by decide +kernel
set_option maxRecDepth 100000 in
theorem hl_Cm_bind : Cond.methodLink R_Cm 201 y_Cm_bind ∈ wd_tbl := wd_of 1179 (by decide +kernel) rfl
set_option maxRecDepth 100000 in
theorem hi_Cm_bind : Cond.instanceMethod y_Cm_bind ∈ wd_tbl := wd_of 1181 (by decide +kernel) rfl
set_option maxRecDepth 100000 in
theorem hs_Cm_bind : Cond.selects R_Cm y_Cm_bind y_Cm_bind ∈ wd_tbl := wd_of 47 (by decide +kernel) rfl
theorem hd_Cm_bind : y_Cm_bind.cls = R_Cm ∧ y_Cm_bind.cls ≠ "java/lang/invoke/MethodHandle" ∧ y_Cm_bind.cls ≠ "java/lang/invoke/VarHandle" ∧ (parseMethodDescriptor y_Cm_bind.desc).map (fun d => d.parameters.length) = some 1 := by decide +kernel
def rm_Cm_bind : Room := { frames := 1, cells := 0, slots := 0, locals := 23 }
def fb_Cm_bind_32 (N : Nat) (G : Unit) (u : CS) (v0 : Nat) : Option (CS × Unit) := bo (gR u v0 3 8) (fun r1 => bo (gI u v0 3 9) (fun r2 => bo (gR u v0 3 8) (fun r3 => bo (gI u v0 3 9) (fun r4 => bo r3 (fun j5 => bo (aI u j5 4 r4) (fun r6 => bo (gI u v0 3 6) (fun r7 => bo (gR u v0 3 7) (fun r8 => bo (gI u v0 3 9) (fun r9 => bo r8 (fun j10 => bo (aI u j10 4 r9) (fun r11 => lt (if r6 < (r7 - r11) then (r7 - r11) else r6) (fun y12 => bo r1 (fun j13 => bo (sI u j13 4 r2 y12) (fun w14 => some (w14, ())))))))))))))))
set_option maxRecDepth 100000 in
set_option maxHeartbeats 4000000 in
theorem wb_Cm_bind_32 {p : Program} {l : Launch} {e : Env} {s : State} {m : MethodId} {args : Array Value} {below : List Frame} {meth : Method} {c : Code} {s0 : State} {b0 : Nat} {D : va_G} {cB cI cJ cZ cS cP : ClassId} {A : Nat → Prop} {sk sv : Nat → Nat} {ad : Nat → Nat} (C0 : XCx p s s0 b0 m args meth c R_Cm b_Cm_bind 2 none D cB cI cJ cZ cS cP A) (hE : ENV s0 b0 sk sv) (N : Nat) (G : Unit) (hG : True) : ∀ (u : CS) (v0 : Nat) (x : CS × Unit), fb_Cm_bind_32 N G u v0 = some x → ∀ (H : Heap) (locs : List Loc), va_P D cls (wC cB cI cJ cZ cS cP ad u) H → va_D A (wC cB cI cJ cZ cS cP ad u) → va_S A s.heap H locs → ∀ (ls : Array Slot), lv_has ls 2 [(0, .ref (ad v0))] → W p l e rm_Cm_bind s m args below meth c H locs 0 0 (MQ below (xQ0 D cB cI cJ cZ cS cP A ad x.1 none) args s 0 0 A) (F0 m 32 ls []) := by
  intro u v0 x hf H locs hP hD hS ls hl
  obtain ⟨hx, hb, hr, hml, ht, hown, hK, hA, hlocks, hA0, hO, hbs⟩ := id C0
  unfold fb_Cm_bind_32 at hf
  refine lv_aload_n hx hb d_Cm_bind_32 rfl (lv_at hl 0 rfl) ?_
  obtain ⟨r1, g1, hf⟩ := bo_some hf
  refine xg_R (i := v0) (k := 8) hx hb ht hown ck_Cm hK hP (by decide) fk_Cm_29 g1 d_Cm_bind_33 ?_
  refine lv_aload_n hx hb d_Cm_bind_36 rfl (lv_at hl 0 rfl) ?_
  obtain ⟨r2, g2, hf⟩ := bo_some hf
  refine xg_I (i := v0) (k := 9) hx hb ht hown ck_Cm hK hP (by decide) fk_Cm_113 g2 d_Cm_bind_37 ?_
  refine lv_aload_n hx hb d_Cm_bind_40 rfl (lv_at hl 0 rfl) ?_
  obtain ⟨r3, g3, hf⟩ := bo_some hf
  refine xg_R (i := v0) (k := 8) hx hb ht hown ck_Cm hK hP (by decide) fk_Cm_29 g3 d_Cm_bind_41 ?_
  refine lv_aload_n hx hb d_Cm_bind_44 rfl (lv_at hl 0 rfl) ?_
  obtain ⟨r4, g4, hf⟩ := bo_some hf
  refine xg_I (i := v0) (k := 9) hx hb ht hown ck_Cm hK hP (by decide) fk_Cm_113 g4 d_Cm_bind_45 ?_
  obtain ⟨j5, ej5, hf⟩ := bo_some hf
  rw [ej5]
  obtain ⟨r6, g6, hf⟩ := bo_some hf
  refine xl_I (i := j5) hx hb hK hP g6 d_Cm_bind_48 ?_
  refine lv_aload_n hx hb d_Cm_bind_49 rfl (lv_at hl 0 rfl) ?_
  obtain ⟨r7, g7, hf⟩ := bo_some hf
  refine xg_I (i := v0) (k := 6) hx hb ht hown ck_Cm hK hP (by decide) fk_Cm_116 g7 d_Cm_bind_50 ?_
  refine lv_aload_n hx hb d_Cm_bind_53 rfl (lv_at hl 0 rfl) ?_
  obtain ⟨r8, g8, hf⟩ := bo_some hf
  refine xg_R (i := v0) (k := 7) hx hb ht hown ck_Cm hK hP (by decide) fk_Cm_26 g8 d_Cm_bind_54 ?_
  refine lv_aload_n hx hb d_Cm_bind_57 rfl (lv_at hl 0 rfl) ?_
  obtain ⟨r9, g9, hf⟩ := bo_some hf
  refine xg_I (i := v0) (k := 9) hx hb ht hown ck_Cm hK hP (by decide) fk_Cm_113 g9 d_Cm_bind_58 ?_
  obtain ⟨j10, ej10, hf⟩ := bo_some hf
  rw [ej10]
  obtain ⟨r11, g11, hf⟩ := bo_some hf
  refine xl_I (i := j10) hx hb hK hP g11 d_Cm_bind_61 ?_
  refine lv_isub hx hb d_Cm_bind_62 ?_
  refine va_mmax hx hb (hml.trans hl.1.symm) hown (ht _ (wd_of 1183 (by decide +kernel) rfl)) (ht _ (wd_of 1184 (by decide +kernel) rfl)) (ht _ (wd_of 281 (by decide +kernel) rfl)) (ht _ (wd_of 1185 (by decide +kernel) rfl)) (Nat.le_of_ble_eq_true rfl) (Nat.le_trans (Nat.add_le_add_right (c8 (Nat.le_of_ble_eq_true rfl)) _) (Nat.le_of_ble_eq_true rfl)) (Nat.zero_le _) (Nat.zero_le _) d_Cm_bind_63 ?_
  obtain ⟨y12, e12, hf⟩ := lt_some hf
  rw [← e12]
  obtain ⟨j13, ej13, hf⟩ := bo_some hf
  rw [ej13]
  obtain ⟨w14, g14, hf⟩ := bo_some hf
  refine xs_I (i := j13) hx hb hK hP hD hS g14 d_Cm_bind_66 (fun H locs hP hD hS => ?_)
  exact xr0_v C0 hP hD hS hf d_Cm_bind_67
def fb_Cm_bind_0 (N : Nat) (G : Unit) (u : CS) (v0 : Nat) (v1 : Int32) : Option (CS × Unit) := bo (gI u v0 3 6) (fun r15 => bo (gR u v0 3 5) (fun r16 => bo r16 (fun j17 => bo (nA u j17 4) (fun r18 => br (decide (r18 ≤ r15)) (fb_Cm_bind_32 N G u (v0)) (bo (gR u v0 3 5) (fun r19 => bo (gI u v0 3 6) (fun r20 => bo r19 (fun j21 => bo (sI u j21 4 r20 v1) (fun w22 => bo (gI w22 v0 3 6) (fun r23 => bo (pF w22 v0 3 6 (.inl (r23 + 1))) (fun w24 => fb_Cm_bind_32 N G w24 (v0))))))))))))
set_option maxRecDepth 100000 in
set_option maxHeartbeats 4000000 in
theorem wb_Cm_bind_0 {p : Program} {l : Launch} {e : Env} {s : State} {m : MethodId} {args : Array Value} {below : List Frame} {meth : Method} {c : Code} {s0 : State} {b0 : Nat} {D : va_G} {cB cI cJ cZ cS cP : ClassId} {A : Nat → Prop} {sk sv : Nat → Nat} {ad : Nat → Nat} (C0 : XCx p s s0 b0 m args meth c R_Cm b_Cm_bind 2 none D cB cI cJ cZ cS cP A) (hE : ENV s0 b0 sk sv) (N : Nat) (G : Unit) (hG : True) : ∀ (u : CS) (v0 : Nat) (v1 : Int32) (x : CS × Unit), fb_Cm_bind_0 N G u v0 v1 = some x → ∀ (H : Heap) (locs : List Loc), va_P D cls (wC cB cI cJ cZ cS cP ad u) H → va_D A (wC cB cI cJ cZ cS cP ad u) → va_S A s.heap H locs → ∀ (ls : Array Slot), lv_has ls 2 [(0, .ref (ad v0)), (1, .int v1)] → W p l e rm_Cm_bind s m args below meth c H locs 0 0 (MQ below (xQ0 D cB cI cJ cZ cS cP A ad x.1 none) args s 0 0 A) (F0 m 0 ls []) := by
  intro u v0 v1 x hf H locs hP hD hS ls hl
  obtain ⟨hx, hb, hr, hml, ht, hown, hK, hA, hlocks, hA0, hO, hbs⟩ := id C0
  unfold fb_Cm_bind_0 at hf
  refine lv_aload_n hx hb d_Cm_bind_0 rfl (lv_at hl 0 rfl) ?_
  obtain ⟨r15, g15, hf⟩ := bo_some hf
  refine xg_I (i := v0) (k := 6) hx hb ht hown ck_Cm hK hP (by decide) fk_Cm_116 g15 d_Cm_bind_1 ?_
  refine lv_aload_n hx hb d_Cm_bind_4 rfl (lv_at hl 0 rfl) ?_
  obtain ⟨r16, g16, hf⟩ := bo_some hf
  refine xg_R (i := v0) (k := 5) hx hb ht hown ck_Cm hK hP (by decide) fk_Cm_22 g16 d_Cm_bind_5 ?_
  obtain ⟨j17, ej17, hf⟩ := bo_some hf
  rw [ej17]
  obtain ⟨r18, g18, hf⟩ := bo_some hf
  refine xn_I (i := j17) hx hb hK hP g18 d_Cm_bind_8 ?_
  refine lv_icmp_ge (tgt := 32) hx hb d_Cm_bind_9 (by decide) (fun hc => ?_) (fun hc => ?_)
  · rw [br_p _ hc] at hf
    exact wb_Cm_bind_32 C0 hE N G hG _ _ _ hf H locs hP hD hS ls (lv_sub hl [0] rfl)
  · rw [br_n _ hc] at hf
    refine lv_aload_n hx hb d_Cm_bind_12 rfl (lv_at hl 0 rfl) ?_
    obtain ⟨r19, g19, hf⟩ := bo_some hf
    refine xg_R (i := v0) (k := 5) hx hb ht hown ck_Cm hK hP (by decide) fk_Cm_22 g19 d_Cm_bind_13 ?_
    refine lv_aload_n hx hb d_Cm_bind_16 rfl (lv_at hl 0 rfl) ?_
    obtain ⟨r20, g20, hf⟩ := bo_some hf
    refine xg_I (i := v0) (k := 6) hx hb ht hown ck_Cm hK hP (by decide) fk_Cm_116 g20 d_Cm_bind_17 ?_
    refine lv_iload_n hx hb d_Cm_bind_20 rfl (lv_at hl 1 rfl) ?_
    obtain ⟨j21, ej21, hf⟩ := bo_some hf
    rw [ej21]
    obtain ⟨w22, g22, hf⟩ := bo_some hf
    refine xs_I (i := j21) hx hb hK hP hD hS g22 d_Cm_bind_21 (fun H locs hP hD hS => ?_)
    refine lv_aload_n hx hb d_Cm_bind_22 rfl (lv_at hl 0 rfl) ?_
    refine lv_dup hx hb d_Cm_bind_23 rfl ?_
    obtain ⟨r23, g23, hf⟩ := bo_some hf
    refine xg_I (i := v0) (k := 6) hx hb ht hown ck_Cm hK hP (by decide) fk_Cm_116 g23 d_Cm_bind_24 ?_
    refine lv_iconst (v := 1) hx hb d_Cm_bind_27 (by decide) ?_
    refine lv_iadd hx hb d_Cm_bind_28 ?_
    obtain ⟨w24, g24, hf⟩ := bo_some hf
    refine xp (i := v0) (k := 6) (v := (.inl (r23 + 1))) hx hb ht hown ck_Cm hK hP hD hS (by decide) fk_Cm_116 rfl g24 rfl rfl d_Cm_bind_29 (fun H locs hP hD hS => ?_)
    exact wb_Cm_bind_32 C0 hE N G hG _ _ _ hf H locs hP hD hS ls (lv_sub hl [0] rfl)
def fm_Cm_bind (N : Nat) (u : CS) (v0 : Nat) (v1 : Int32) : Option (CS × Unit) := fb_Cm_bind_0 N () u v0 v1
set_option maxRecDepth 100000 in
set_option maxHeartbeats 4000000 in
theorem c_Cm_bind (N : Nat) {l : Launch} {s0 : State} {b0 : Nat} {D : va_G} {cB cI cJ cZ cS cP : ClassId} {sk sv : Nat → Nat} {ad : Nat → Nat} {u : CS} {sz : Nat} {v0 : Nat} {v1 : Int32} {x : CS × Unit} (hE : ENV s0 b0 sk sv) (hf : fm_Cm_bind N u v0 v1 = some x) : Met l y_Cm_bind (wd_ws y_Cm_bind b_Cm_bind 2 none) rm_Cm_bind (xPc s0 b0 D cB cI cJ cZ cS cP ad u sz [.ref (ad v0), .int v1]) (xQ0 D cB cI cJ cZ cS cP (xA cB cI cJ cZ cS cP ad u sz) ad x.1 none) 0 0 (xA cB cI cJ cZ cS cP ad u sz) :=
  xMet (by decide) rfl (Nat.le_of_ble_eq_true rfl) (fun p e s m below meth c ls hsz hnm C0 hP hD hS hl =>
    wb_Cm_bind_0 C0 hE N () trivial u _ _ x hf s.heap [] hP hD hS ls (lv_sub hl [0, 1] rfl))
abbrev b_Cm_nameInPattern : ByteArray := prog_3_method_13_code
def y_Cm_nameInPattern : MethodName := ⟨R_Cm, "nameInPattern", "(II)V"⟩
def w_Cm_nameInPattern : List Cond := wd_ws y_Cm_nameInPattern b_Cm_nameInPattern 3 none
set_option maxRecDepth 100000 in
theorem k_Cm_nameInPattern : Cond.code y_Cm_nameInPattern b_Cm_nameInPattern 3 none ∈ wd_tbl := wd_of 1174 rfl rfl
theorem d_Cm_nameInPattern_0 : decode b_Cm_nameInPattern 0 = .ok (.aload_n 0, 1) := by decide +kernel
theorem d_Cm_nameInPattern_1 : decode b_Cm_nameInPattern 1 = .ok (.getfield 32, 3) := by decide +kernel
theorem d_Cm_nameInPattern_4 : decode b_Cm_nameInPattern 4 = .ok (.iload_n 2, 1) := by decide +kernel
theorem d_Cm_nameInPattern_5 : decode b_Cm_nameInPattern 5 = .ok (.bipush 32, 2) := by decide +kernel
theorem d_Cm_nameInPattern_7 : decode b_Cm_nameInPattern 7 = .ok (.iastore, 1) := by decide +kernel
theorem d_Cm_nameInPattern_8 : decode b_Cm_nameInPattern 8 = .ok (.iload_n 1, 1) := by decide +kernel
theorem d_Cm_nameInPattern_9 : decode b_Cm_nameInPattern 9 = .ok (.ifCond .ne 14, 3) := by decide +kernel
theorem d_Cm_nameInPattern_12 : decode b_Cm_nameInPattern 12 = .ok (.aload_n 0, 1) := by decide +kernel
theorem d_Cm_nameInPattern_13 : decode b_Cm_nameInPattern 13 = .ok (.getfield 43, 3) := by decide +kernel
theorem d_Cm_nameInPattern_16 : decode b_Cm_nameInPattern 16 = .ok (.iconst 5, 1) := by decide +kernel
theorem d_Cm_nameInPattern_17 : decode b_Cm_nameInPattern 17 = .ok (.invokevirtual 142, 3) := by decide +kernel
theorem d_Cm_nameInPattern_20 : decode b_Cm_nameInPattern 20 = .ok (.goto 72, 3) := by decide +kernel
theorem d_Cm_nameInPattern_23 : decode b_Cm_nameInPattern 23 = .ok (.aload_n 0, 1) := by decide +kernel
theorem d_Cm_nameInPattern_24 : decode b_Cm_nameInPattern 24 = .ok (.iload_n 1, 1) := by decide +kernel
theorem d_Cm_nameInPattern_25 : decode b_Cm_nameInPattern 25 = .ok (.iload_n 2, 1) := by decide +kernel
theorem d_Cm_nameInPattern_26 : decode b_Cm_nameInPattern 26 = .ok (.aload_n 0, 1) := by decide +kernel
theorem d_Cm_nameInPattern_27 : decode b_Cm_nameInPattern 27 = .ok (.getfield 62, 3) := by decide +kernel
theorem d_Cm_nameInPattern_30 : decode b_Cm_nameInPattern 30 = .ok (.ifCond .eq 15, 3) := by decide +kernel
theorem d_Cm_nameInPattern_33 : decode b_Cm_nameInPattern 33 = .ok (.aload_n 0, 1) := by decide +kernel
theorem d_Cm_nameInPattern_34 : decode b_Cm_nameInPattern 34 = .ok (.getfield 26, 3) := by decide +kernel
theorem d_Cm_nameInPattern_37 : decode b_Cm_nameInPattern 37 = .ok (.aload_n 0, 1) := by decide +kernel
theorem d_Cm_nameInPattern_38 : decode b_Cm_nameInPattern 38 = .ok (.getfield 113, 3) := by decide +kernel
theorem d_Cm_nameInPattern_41 : decode b_Cm_nameInPattern 41 = .ok (.iaload, 1) := by decide +kernel
theorem d_Cm_nameInPattern_42 : decode b_Cm_nameInPattern 42 = .ok (.goto 4, 3) := by decide +kernel
theorem d_Cm_nameInPattern_45 : decode b_Cm_nameInPattern 45 = .ok (.iconst 0, 1) := by decide +kernel
theorem d_Cm_nameInPattern_46 : decode b_Cm_nameInPattern 46 = .ok (.invokevirtual 197, 3) := by decide +kernel
theorem d_Cm_nameInPattern_49 : decode b_Cm_nameInPattern 49 = .ok (.ifCond .eq 22, 3) := by decide +kernel
theorem d_Cm_nameInPattern_52 : decode b_Cm_nameInPattern 52 = .ok (.aload_n 0, 1) := by decide +kernel
theorem d_Cm_nameInPattern_53 : decode b_Cm_nameInPattern 53 = .ok (.getfield 43, 3) := by decide +kernel
theorem d_Cm_nameInPattern_56 : decode b_Cm_nameInPattern 56 = .ok (.iconst 3, 1) := by decide +kernel
theorem d_Cm_nameInPattern_57 : decode b_Cm_nameInPattern 57 = .ok (.invokevirtual 142, 3) := by decide +kernel
theorem d_Cm_nameInPattern_60 : decode b_Cm_nameInPattern 60 = .ok (.aload_n 0, 1) := by decide +kernel
theorem d_Cm_nameInPattern_61 : decode b_Cm_nameInPattern 61 = .ok (.getfield 43, 3) := by decide +kernel
theorem d_Cm_nameInPattern_64 : decode b_Cm_nameInPattern 64 = .ok (.iload_n 1, 1) := by decide +kernel
theorem d_Cm_nameInPattern_65 : decode b_Cm_nameInPattern 65 = .ok (.invokevirtual 142, 3) := by decide +kernel
theorem d_Cm_nameInPattern_68 : decode b_Cm_nameInPattern 68 = .ok (.goto 24, 3) := by decide +kernel
theorem d_Cm_nameInPattern_71 : decode b_Cm_nameInPattern 71 = .ok (.aload_n 0, 1) := by decide +kernel
theorem d_Cm_nameInPattern_72 : decode b_Cm_nameInPattern 72 = .ok (.getfield 43, 3) := by decide +kernel
theorem d_Cm_nameInPattern_75 : decode b_Cm_nameInPattern 75 = .ok (.iconst 4, 1) := by decide +kernel
theorem d_Cm_nameInPattern_76 : decode b_Cm_nameInPattern 76 = .ok (.invokevirtual 142, 3) := by decide +kernel
theorem d_Cm_nameInPattern_79 : decode b_Cm_nameInPattern 79 = .ok (.aload_n 0, 1) := by decide +kernel
theorem d_Cm_nameInPattern_80 : decode b_Cm_nameInPattern 80 = .ok (.getfield 43, 3) := by decide +kernel
theorem d_Cm_nameInPattern_83 : decode b_Cm_nameInPattern 83 = .ok (.iload_n 1, 1) := by decide +kernel
theorem d_Cm_nameInPattern_84 : decode b_Cm_nameInPattern 84 = .ok (.invokevirtual 142, 3) := by decide +kernel
theorem d_Cm_nameInPattern_87 : decode b_Cm_nameInPattern 87 = .ok (.aload_n 0, 1) := by decide +kernel
theorem d_Cm_nameInPattern_88 : decode b_Cm_nameInPattern 88 = .ok (.iload_n 1, 1) := by decide +kernel
theorem d_Cm_nameInPattern_89 : decode b_Cm_nameInPattern 89 = .ok (.invokevirtual 201, 3) := by decide +kernel
theorem d_Cm_nameInPattern_92 : decode b_Cm_nameInPattern 92 = .ok (.return_, 1) := by decide +kernel
set_option maxRecDepth 100000 in
theorem hl_Cm_nameInPattern : Cond.methodLink R_Cm 188 y_Cm_nameInPattern ∈ wd_tbl := wd_of 1171 (by decide +kernel) rfl
set_option maxRecDepth 100000 in
theorem hi_Cm_nameInPattern : Cond.instanceMethod y_Cm_nameInPattern ∈ wd_tbl := wd_of 1173 (by decide +kernel) rfl
set_option maxRecDepth 100000 in
theorem hs_Cm_nameInPattern : Cond.selects R_Cm y_Cm_nameInPattern y_Cm_nameInPattern ∈ wd_tbl := wd_of 45 (by decide +kernel) rfl
theorem hd_Cm_nameInPattern : y_Cm_nameInPattern.cls = R_Cm ∧ y_Cm_nameInPattern.cls ≠ "java/lang/invoke/MethodHandle" ∧ y_Cm_nameInPattern.cls ≠ "java/lang/invoke/VarHandle" ∧ (parseMethodDescriptor y_Cm_nameInPattern.desc).map (fun d => d.parameters.length) = some 2 := by decide +kernel
def rm_Cm_nameInPattern : Room := { frames := 2, cells := 0, slots := 0, locals := 44 }
theorem rm_Cm_nameInPattern_Co_put : (rm_Co_put).frames + 1 ≤ rm_Cm_nameInPattern.frames ∧ 8 + (2 + 11) + (rm_Co_put).locals ≤ rm_Cm_nameInPattern.locals := by
  show 0 + 1 ≤ 2 ∧ 8 + (2 + 11) + 0 ≤ 44
  decide
theorem rm_Cm_nameInPattern_Cm_isBound : (rm_Cm_isBound).frames + 1 ≤ rm_Cm_nameInPattern.frames ∧ 8 + (6 + 11) + (rm_Cm_isBound).locals ≤ rm_Cm_nameInPattern.locals := by
  show 0 + 1 ≤ 2 ∧ 8 + (6 + 11) + 0 ≤ 44
  decide
theorem rm_Cm_nameInPattern_Cm_bind : (rm_Cm_bind).frames + 1 ≤ rm_Cm_nameInPattern.frames ∧ 8 + (2 + 11) + (rm_Cm_bind).locals ≤ rm_Cm_nameInPattern.locals := by
  show 1 + 1 ≤ 2 ∧ 8 + (2 + 11) + 23 ≤ 44
  decide
def fb_Cm_nameInPattern_92 (N : Nat) (G : Unit) (u : CS) : Option (CS × Unit) := some (u, ())
set_option maxRecDepth 100000 in
set_option maxHeartbeats 4000000 in
theorem wb_Cm_nameInPattern_92 {p : Program} {l : Launch} {e : Env} {s : State} {m : MethodId} {args : Array Value} {below : List Frame} {meth : Method} {c : Code} {s0 : State} {b0 : Nat} {D : va_G} {cB cI cJ cZ cS cP : ClassId} {A : Nat → Prop} {sk sv : Nat → Nat} {ad : Nat → Nat} (C0 : XCx p s s0 b0 m args meth c R_Cm b_Cm_nameInPattern 3 none D cB cI cJ cZ cS cP A) (hE : ENV s0 b0 sk sv) (N : Nat) (G : Unit) (hG : True) : ∀ (u : CS) (x : CS × Unit), fb_Cm_nameInPattern_92 N G u = some x → ∀ (H : Heap) (locs : List Loc), va_P D cls (wC cB cI cJ cZ cS cP ad u) H → va_D A (wC cB cI cJ cZ cS cP ad u) → va_S A s.heap H locs → ∀ (ls : Array Slot), lv_has ls 3 [] → W p l e rm_Cm_nameInPattern s m args below meth c H locs 0 0 (MQ below (xQ0 D cB cI cJ cZ cS cP A ad x.1 none) args s 0 0 A) (F0 m 92 ls []) := by
  intro u x hf H locs hP hD hS ls hl
  obtain ⟨hx, hb, hr, hml, ht, hown, hK, hA, hlocks, hA0, hO, hbs⟩ := id C0
  unfold fb_Cm_nameInPattern_92 at hf
  exact xr0_v C0 hP hD hS hf d_Cm_nameInPattern_92
def fb_Cm_nameInPattern_46 (N : Nat) (G : Unit) (u : CS) (v0 : Nat) (v1 : Int32) (t0 : Nat) (t1 : Int32) (t2 : Int32) (t3 : Int32) : Option (CS × Unit) := ck (isO u t0 3) (bx (fm_Cm_isBound N u t0 t1 t2 t3) (fun u1 r1 => br (decide (r1 = 0)) (bo (gR u1 v0 3 2) (fun r2 => bo r2 (fun j4 => ck (isO u1 j4 2) (bx (fm_Co_put N u1 j4 4) (fun u3 r3 => bo (gR u3 v0 3 2) (fun r5 => bo r5 (fun j7 => ck (isO u3 j7 2) (bx (fm_Co_put N u3 j7 v1) (fun u6 r6 => ck (isO u6 v0 3) (bx (fm_Cm_bind N u6 v0 v1) (fun u8 r8 => fb_Cm_nameInPattern_92 N G u8))))))))))) (bo (gR u1 v0 3 2) (fun r9 => bo r9 (fun j11 => ck (isO u1 j11 2) (bx (fm_Co_put N u1 j11 3) (fun u10 r10 => bo (gR u10 v0 3 2) (fun r12 => bo r12 (fun j14 => ck (isO u10 j14 2) (bx (fm_Co_put N u10 j14 v1) (fun u13 r13 => fb_Cm_nameInPattern_92 N G u13)))))))))))
set_option maxRecDepth 100000 in
set_option maxHeartbeats 4000000 in
theorem wb_Cm_nameInPattern_46 {p : Program} {l : Launch} {e : Env} {s : State} {m : MethodId} {args : Array Value} {below : List Frame} {meth : Method} {c : Code} {s0 : State} {b0 : Nat} {D : va_G} {cB cI cJ cZ cS cP : ClassId} {A : Nat → Prop} {sk sv : Nat → Nat} {ad : Nat → Nat} (C0 : XCx p s s0 b0 m args meth c R_Cm b_Cm_nameInPattern 3 none D cB cI cJ cZ cS cP A) (hE : ENV s0 b0 sk sv) (N : Nat) (G : Unit) (hG : True) : ∀ (u : CS) (v0 : Nat) (v1 : Int32) (t0 : Nat) (t1 : Int32) (t2 : Int32) (t3 : Int32) (x : CS × Unit), fb_Cm_nameInPattern_46 N G u v0 v1 t0 t1 t2 t3 = some x → ∀ (H : Heap) (locs : List Loc), va_P D cls (wC cB cI cJ cZ cS cP ad u) H → va_D A (wC cB cI cJ cZ cS cP ad u) → va_S A s.heap H locs → ∀ (ls : Array Slot), lv_has ls 3 [(0, .ref (ad v0)), (1, .int v1)] → W p l e rm_Cm_nameInPattern s m args below meth c H locs 0 0 (MQ below (xQ0 D cB cI cJ cZ cS cP A ad x.1 none) args s 0 0 A) (F0 m 46 ls [.int t3, .int t2, .int t1, .ref (ad t0)]) := by
  intro u v0 v1 t0 t1 t2 t3 x hf H locs hP hD hS ls hl
  obtain ⟨hx, hb, hr, hml, ht, hown, hK, hA, hlocks, hA0, hO, hbs⟩ := id C0
  unfold fb_Cm_nameInPattern_46 at hf
  obtain ⟨hO9, hf⟩ := ck_some hf
  obtain ⟨u1, r1, hc1, hf⟩ := bx_some hf
  refine xV0 (i := t0) (As := [.int t1, .int t2, .int t3]) (rest := []) C0 hP hD hS ck_Cm hO9 (c_Cm_isBound N hc1) k_Cm_isBound (wd_of 1175 (by decide +kernel) rfl) hi_Cm_isBound hs_Cm_isBound hini_Cm rfl rfl hd_Cm_isBound rfl rm_Cm_nameInPattern_Cm_isBound hl.1 (Nat.le_of_ble_eq_true rfl) d_Cm_nameInPattern_46 rfl ⟨Nat.zero_le _, Nat.zero_le _⟩ (fun H locs hP hD hS => ?_)
  refine lv_if_eq (tgt := 71) hx hb d_Cm_nameInPattern_49 (by decide) (fun hc => ?_) (fun hc => ?_)
  · rw [br_p _ hc] at hf
    refine lv_aload_n hx hb d_Cm_nameInPattern_71 rfl (lv_at hl 0 rfl) ?_
    obtain ⟨r2, g2, hf⟩ := bo_some hf
    refine xg_R (i := v0) (k := 2) hx hb ht hown ck_Cm hK hP (by decide) fk_Cm_43 g2 d_Cm_nameInPattern_72 ?_
    refine lv_iconst (v := 4) hx hb d_Cm_nameInPattern_75 (by decide) ?_
    obtain ⟨j4, ej4, hf⟩ := bo_some hf
    rw [ej4]
    obtain ⟨hO9, hf⟩ := ck_some hf
    obtain ⟨u3, r3, hc3, hf⟩ := bx_some hf
    refine xV0 (i := j4) (As := [.int 4]) (rest := []) C0 hP hD hS ck_Co hO9 (c_Co_put N hc3) k_Co_put (wd_of 1149 (by decide +kernel) rfl) hi_Co_put hs_Co_put hini_Co rfl rfl hd_Co_put rfl rm_Cm_nameInPattern_Co_put hl.1 (Nat.le_of_ble_eq_true rfl) d_Cm_nameInPattern_76 rfl ⟨Nat.zero_le _, Nat.zero_le _⟩ (fun H locs hP hD hS => ?_)
    refine lv_aload_n hx hb d_Cm_nameInPattern_79 rfl (lv_at hl 0 rfl) ?_
    obtain ⟨r5, g5, hf⟩ := bo_some hf
    refine xg_R (i := v0) (k := 2) hx hb ht hown ck_Cm hK hP (by decide) fk_Cm_43 g5 d_Cm_nameInPattern_80 ?_
    refine lv_iload_n hx hb d_Cm_nameInPattern_83 rfl (lv_at hl 1 rfl) ?_
    obtain ⟨j7, ej7, hf⟩ := bo_some hf
    rw [ej7]
    obtain ⟨hO9, hf⟩ := ck_some hf
    obtain ⟨u6, r6, hc6, hf⟩ := bx_some hf
    refine xV0 (i := j7) (As := [.int v1]) (rest := []) C0 hP hD hS ck_Co hO9 (c_Co_put N hc6) k_Co_put (wd_of 1149 (by decide +kernel) rfl) hi_Co_put hs_Co_put hini_Co rfl rfl hd_Co_put rfl rm_Cm_nameInPattern_Co_put hl.1 (Nat.le_of_ble_eq_true rfl) d_Cm_nameInPattern_84 rfl ⟨Nat.zero_le _, Nat.zero_le _⟩ (fun H locs hP hD hS => ?_)
    refine lv_aload_n hx hb d_Cm_nameInPattern_87 rfl (lv_at hl 0 rfl) ?_
    refine lv_iload_n hx hb d_Cm_nameInPattern_88 rfl (lv_at hl 1 rfl) ?_
    obtain ⟨hO9, hf⟩ := ck_some hf
    obtain ⟨u8, r8, hc8, hf⟩ := bx_some hf
    refine xV0 (i := v0) (As := [.int v1]) (rest := []) C0 hP hD hS ck_Cm hO9 (c_Cm_bind N hE hc8) k_Cm_bind (wd_of 1179 (by decide +kernel) rfl) hi_Cm_bind hs_Cm_bind hini_Cm rfl rfl hd_Cm_bind rfl rm_Cm_nameInPattern_Cm_bind hl.1 (Nat.le_of_ble_eq_true rfl) d_Cm_nameInPattern_89 rfl ⟨Nat.zero_le _, Nat.zero_le _⟩ (fun H locs hP hD hS => ?_)
    exact wb_Cm_nameInPattern_92 C0 hE N G hG _ _ hf H locs hP hD hS ls (lv_sub hl [] rfl)
  · rw [br_n _ hc] at hf
    refine lv_aload_n hx hb d_Cm_nameInPattern_52 rfl (lv_at hl 0 rfl) ?_
    obtain ⟨r9, g9, hf⟩ := bo_some hf
    refine xg_R (i := v0) (k := 2) hx hb ht hown ck_Cm hK hP (by decide) fk_Cm_43 g9 d_Cm_nameInPattern_53 ?_
    refine lv_iconst (v := 3) hx hb d_Cm_nameInPattern_56 (by decide) ?_
    obtain ⟨j11, ej11, hf⟩ := bo_some hf
    rw [ej11]
    obtain ⟨hO9, hf⟩ := ck_some hf
    obtain ⟨u10, r10, hc10, hf⟩ := bx_some hf
    refine xV0 (i := j11) (As := [.int 3]) (rest := []) C0 hP hD hS ck_Co hO9 (c_Co_put N hc10) k_Co_put (wd_of 1149 (by decide +kernel) rfl) hi_Co_put hs_Co_put hini_Co rfl rfl hd_Co_put rfl rm_Cm_nameInPattern_Co_put hl.1 (Nat.le_of_ble_eq_true rfl) d_Cm_nameInPattern_57 rfl ⟨Nat.zero_le _, Nat.zero_le _⟩ (fun H locs hP hD hS => ?_)
    refine lv_aload_n hx hb d_Cm_nameInPattern_60 rfl (lv_at hl 0 rfl) ?_
    obtain ⟨r12, g12, hf⟩ := bo_some hf
    refine xg_R (i := v0) (k := 2) hx hb ht hown ck_Cm hK hP (by decide) fk_Cm_43 g12 d_Cm_nameInPattern_61 ?_
    refine lv_iload_n hx hb d_Cm_nameInPattern_64 rfl (lv_at hl 1 rfl) ?_
    obtain ⟨j14, ej14, hf⟩ := bo_some hf
    rw [ej14]
    obtain ⟨hO9, hf⟩ := ck_some hf
    obtain ⟨u13, r13, hc13, hf⟩ := bx_some hf
    refine xV0 (i := j14) (As := [.int v1]) (rest := []) C0 hP hD hS ck_Co hO9 (c_Co_put N hc13) k_Co_put (wd_of 1149 (by decide +kernel) rfl) hi_Co_put hs_Co_put hini_Co rfl rfl hd_Co_put rfl rm_Cm_nameInPattern_Co_put hl.1 (Nat.le_of_ble_eq_true rfl) d_Cm_nameInPattern_65 rfl ⟨Nat.zero_le _, Nat.zero_le _⟩ (fun H locs hP hD hS => ?_)
    refine lv_goto (tgt := 92) hx hb d_Cm_nameInPattern_68 (by decide) ?_
    exact wb_Cm_nameInPattern_92 C0 hE N G hG _ _ hf H locs hP hD hS ls (lv_sub hl [] rfl)
def fb_Cm_nameInPattern_0 (N : Nat) (G : Unit) (u : CS) (v0 : Nat) (v1 : Int32) (v2 : Int32) : Option (CS × Unit) := bo (gR u v0 3 10) (fun r15 => bo r15 (fun j16 => bo (sI u j16 4 v2 32) (fun w17 => br (decide (v1 = 0)) (bo (gR w17 v0 3 2) (fun r23 => bo r23 (fun j25 => ck (isO w17 j25 2) (bx (fm_Co_put N w17 j25 5) (fun u24 r24 => fb_Cm_nameInPattern_92 N G u24))))) (bo (gI w17 v0 3 13) (fun r18 => br (decide (r18 = 0)) (fb_Cm_nameInPattern_46 N G w17 (v0) (v1) (v0) (v1) (v2) (0)) (bo (gR w17 v0 3 7) (fun r19 => bo (gI w17 v0 3 9) (fun r20 => bo r19 (fun j21 => bo (aI w17 j21 4 r20) (fun r22 => fb_Cm_nameInPattern_46 N G w17 (v0) (v1) (v0) (v1) (v2) (r22)))))))))))
set_option maxRecDepth 100000 in
set_option maxHeartbeats 4000000 in
theorem wb_Cm_nameInPattern_0 {p : Program} {l : Launch} {e : Env} {s : State} {m : MethodId} {args : Array Value} {below : List Frame} {meth : Method} {c : Code} {s0 : State} {b0 : Nat} {D : va_G} {cB cI cJ cZ cS cP : ClassId} {A : Nat → Prop} {sk sv : Nat → Nat} {ad : Nat → Nat} (C0 : XCx p s s0 b0 m args meth c R_Cm b_Cm_nameInPattern 3 none D cB cI cJ cZ cS cP A) (hE : ENV s0 b0 sk sv) (N : Nat) (G : Unit) (hG : True) : ∀ (u : CS) (v0 : Nat) (v1 : Int32) (v2 : Int32) (x : CS × Unit), fb_Cm_nameInPattern_0 N G u v0 v1 v2 = some x → ∀ (H : Heap) (locs : List Loc), va_P D cls (wC cB cI cJ cZ cS cP ad u) H → va_D A (wC cB cI cJ cZ cS cP ad u) → va_S A s.heap H locs → ∀ (ls : Array Slot), lv_has ls 3 [(0, .ref (ad v0)), (1, .int v1), (2, .int v2)] → W p l e rm_Cm_nameInPattern s m args below meth c H locs 0 0 (MQ below (xQ0 D cB cI cJ cZ cS cP A ad x.1 none) args s 0 0 A) (F0 m 0 ls []) := by
  intro u v0 v1 v2 x hf H locs hP hD hS ls hl
  obtain ⟨hx, hb, hr, hml, ht, hown, hK, hA, hlocks, hA0, hO, hbs⟩ := id C0
  unfold fb_Cm_nameInPattern_0 at hf
  refine lv_aload_n hx hb d_Cm_nameInPattern_0 rfl (lv_at hl 0 rfl) ?_
  obtain ⟨r15, g15, hf⟩ := bo_some hf
  refine xg_R (i := v0) (k := 10) hx hb ht hown ck_Cm hK hP (by decide) fk_Cm_32 g15 d_Cm_nameInPattern_1 ?_
  refine lv_iload_n hx hb d_Cm_nameInPattern_4 rfl (lv_at hl 2 rfl) ?_
  refine lv_bipush (v := 32) hx hb d_Cm_nameInPattern_5 (by decide) ?_
  obtain ⟨j16, ej16, hf⟩ := bo_some hf
  rw [ej16]
  obtain ⟨w17, g17, hf⟩ := bo_some hf
  refine xs_I (i := j16) hx hb hK hP hD hS g17 d_Cm_nameInPattern_7 (fun H locs hP hD hS => ?_)
  refine lv_iload_n hx hb d_Cm_nameInPattern_8 rfl (lv_at hl 1 rfl) ?_
  refine lv_if_ne (tgt := 23) hx hb d_Cm_nameInPattern_9 (by decide) (fun hc => ?_) (fun hc => ?_)
  · rw [br_n _ hc] at hf
    refine lv_aload_n hx hb d_Cm_nameInPattern_23 rfl (lv_at hl 0 rfl) ?_
    refine lv_iload_n hx hb d_Cm_nameInPattern_24 rfl (lv_at hl 1 rfl) ?_
    refine lv_iload_n hx hb d_Cm_nameInPattern_25 rfl (lv_at hl 2 rfl) ?_
    refine lv_aload_n hx hb d_Cm_nameInPattern_26 rfl (lv_at hl 0 rfl) ?_
    obtain ⟨r18, g18, hf⟩ := bo_some hf
    refine xg_I (i := v0) (k := 13) hx hb ht hown ck_Cm hK hP (by decide) fk_Cm_62 g18 d_Cm_nameInPattern_27 ?_
    refine lv_if_eq (tgt := 45) hx hb d_Cm_nameInPattern_30 (by decide) (fun hc => ?_) (fun hc => ?_)
    · rw [br_p _ hc] at hf
      refine lv_iconst (v := 0) hx hb d_Cm_nameInPattern_45 (by decide) ?_
      exact wb_Cm_nameInPattern_46 C0 hE N G hG _ _ _ _ _ _ _ _ hf H locs hP hD hS ls (lv_sub hl [0, 1] rfl)
    · rw [br_n _ hc] at hf
      refine lv_aload_n hx hb d_Cm_nameInPattern_33 rfl (lv_at hl 0 rfl) ?_
      obtain ⟨r19, g19, hf⟩ := bo_some hf
      refine xg_R (i := v0) (k := 7) hx hb ht hown ck_Cm hK hP (by decide) fk_Cm_26 g19 d_Cm_nameInPattern_34 ?_
      refine lv_aload_n hx hb d_Cm_nameInPattern_37 rfl (lv_at hl 0 rfl) ?_
      obtain ⟨r20, g20, hf⟩ := bo_some hf
      refine xg_I (i := v0) (k := 9) hx hb ht hown ck_Cm hK hP (by decide) fk_Cm_113 g20 d_Cm_nameInPattern_38 ?_
      obtain ⟨j21, ej21, hf⟩ := bo_some hf
      rw [ej21]
      obtain ⟨r22, g22, hf⟩ := bo_some hf
      refine xl_I (i := j21) hx hb hK hP g22 d_Cm_nameInPattern_41 ?_
      refine lv_goto (tgt := 46) hx hb d_Cm_nameInPattern_42 (by decide) ?_
      exact wb_Cm_nameInPattern_46 C0 hE N G hG _ _ _ _ _ _ _ _ hf H locs hP hD hS ls (lv_sub hl [0, 1] rfl)
  · rw [br_p _ hc] at hf
    refine lv_aload_n hx hb d_Cm_nameInPattern_12 rfl (lv_at hl 0 rfl) ?_
    obtain ⟨r23, g23, hf⟩ := bo_some hf
    refine xg_R (i := v0) (k := 2) hx hb ht hown ck_Cm hK hP (by decide) fk_Cm_43 g23 d_Cm_nameInPattern_13 ?_
    refine lv_iconst (v := 5) hx hb d_Cm_nameInPattern_16 (by decide) ?_
    obtain ⟨j25, ej25, hf⟩ := bo_some hf
    rw [ej25]
    obtain ⟨hO9, hf⟩ := ck_some hf
    obtain ⟨u24, r24, hc24, hf⟩ := bx_some hf
    refine xV0 (i := j25) (As := [.int 5]) (rest := []) C0 hP hD hS ck_Co hO9 (c_Co_put N hc24) k_Co_put (wd_of 1149 (by decide +kernel) rfl) hi_Co_put hs_Co_put hini_Co rfl rfl hd_Co_put rfl rm_Cm_nameInPattern_Co_put hl.1 (Nat.le_of_ble_eq_true rfl) d_Cm_nameInPattern_17 rfl ⟨Nat.zero_le _, Nat.zero_le _⟩ (fun H locs hP hD hS => ?_)
    refine lv_goto (tgt := 92) hx hb d_Cm_nameInPattern_20 (by decide) ?_
    exact wb_Cm_nameInPattern_92 C0 hE N G hG _ _ hf H locs hP hD hS ls (lv_sub hl [] rfl)
def fm_Cm_nameInPattern (N : Nat) (u : CS) (v0 : Nat) (v1 : Int32) (v2 : Int32) : Option (CS × Unit) := fb_Cm_nameInPattern_0 N () u v0 v1 v2
set_option maxRecDepth 100000 in
set_option maxHeartbeats 4000000 in
theorem c_Cm_nameInPattern (N : Nat) {l : Launch} {s0 : State} {b0 : Nat} {D : va_G} {cB cI cJ cZ cS cP : ClassId} {sk sv : Nat → Nat} {ad : Nat → Nat} {u : CS} {sz : Nat} {v0 : Nat} {v1 : Int32} {v2 : Int32} {x : CS × Unit} (hE : ENV s0 b0 sk sv) (hf : fm_Cm_nameInPattern N u v0 v1 v2 = some x) : Met l y_Cm_nameInPattern (wd_ws y_Cm_nameInPattern b_Cm_nameInPattern 3 none) rm_Cm_nameInPattern (xPc s0 b0 D cB cI cJ cZ cS cP ad u sz [.ref (ad v0), .int v1, .int v2]) (xQ0 D cB cI cJ cZ cS cP (xA cB cI cJ cZ cS cP ad u sz) ad x.1 none) 0 0 (xA cB cI cJ cZ cS cP ad u sz) :=
  xMet (by decide) rfl (Nat.le_of_ble_eq_true rfl) (fun p e s m below meth c ls hsz hnm C0 hP hD hS hl =>
    wb_Cm_nameInPattern_0 C0 hE N () trivial u _ _ _ x hf s.heap [] hP hD hS ls (lv_sub hl [0, 1, 2] rfl))
abbrev b_Cm_listPattern : ByteArray := prog_3_method_10_code
def y_Cm_listPattern : MethodName := ⟨R_Cm, "listPattern", "(I)V"⟩
def w_Cm_listPattern : List Cond := wd_ws y_Cm_listPattern b_Cm_listPattern 3 none
set_option maxRecDepth 100000 in
theorem k_Cm_listPattern : Cond.code y_Cm_listPattern b_Cm_listPattern 3 none ∈ wd_tbl := wd_of 1189 rfl rfl
theorem d_Cm_listPattern_0 : decode b_Cm_listPattern 0 = .ok (.aload_n 0, 1) := by decide +kernel
theorem d_Cm_listPattern_1 : decode b_Cm_listPattern 1 = .ok (.getfield 39, 3) := by decide +kernel
theorem d_Cm_listPattern_4 : decode b_Cm_listPattern 4 = .ok (.getfield 125, 3) := by decide +kernel
theorem d_Cm_listPattern_7 : decode b_Cm_listPattern 7 = .ok (.iload_n 1, 1) := by decide +kernel
theorem d_Cm_listPattern_8 : decode b_Cm_listPattern 8 = .ok (.iaload, 1) := by decide +kernel
theorem d_Cm_listPattern_9 : decode b_Cm_listPattern 9 = .ok (.istore_n 2, 1) := by decide +kernel
theorem d_Cm_listPattern_10 : decode b_Cm_listPattern 10 = .ok (.iload_n 2, 1) := by decide +kernel
theorem d_Cm_listPattern_11 : decode b_Cm_listPattern 11 = .ok (.ifCond .eq 30, 3) := by decide +kernel
theorem d_Cm_listPattern_14 : decode b_Cm_listPattern 14 = .ok (.aload_n 0, 1) := by decide +kernel
theorem d_Cm_listPattern_15 : decode b_Cm_listPattern 15 = .ok (.getfield 43, 3) := by decide +kernel
theorem d_Cm_listPattern_18 : decode b_Cm_listPattern 18 = .ok (.bipush 7, 2) := by decide +kernel
theorem d_Cm_listPattern_20 : decode b_Cm_listPattern 20 = .ok (.invokevirtual 142, 3) := by decide +kernel
theorem d_Cm_listPattern_23 : decode b_Cm_listPattern 23 = .ok (.aload_n 0, 1) := by decide +kernel
theorem d_Cm_listPattern_24 : decode b_Cm_listPattern 24 = .ok (.iload_n 2, 1) := by decide +kernel
theorem d_Cm_listPattern_25 : decode b_Cm_listPattern 25 = .ok (.invokevirtual 168, 3) := by decide +kernel
theorem d_Cm_listPattern_28 : decode b_Cm_listPattern 28 = .ok (.aload_n 0, 1) := by decide +kernel
theorem d_Cm_listPattern_29 : decode b_Cm_listPattern 29 = .ok (.getfield 39, 3) := by decide +kernel
theorem d_Cm_listPattern_32 : decode b_Cm_listPattern 32 = .ok (.getfield 139, 3) := by decide +kernel
theorem d_Cm_listPattern_35 : decode b_Cm_listPattern 35 = .ok (.iload_n 2, 1) := by decide +kernel
theorem d_Cm_listPattern_36 : decode b_Cm_listPattern 36 = .ok (.iaload, 1) := by decide +kernel
theorem d_Cm_listPattern_37 : decode b_Cm_listPattern 37 = .ok (.istore_n 2, 1) := by decide +kernel
theorem d_Cm_listPattern_38 : decode b_Cm_listPattern 38 = .ok (.goto (-28), 3) := by decide +kernel
theorem d_Cm_listPattern_41 : decode b_Cm_listPattern 41 = .ok (.aload_n 0, 1) := by decide +kernel
theorem d_Cm_listPattern_42 : decode b_Cm_listPattern 42 = .ok (.getfield 39, 3) := by decide +kernel
theorem d_Cm_listPattern_45 : decode b_Cm_listPattern 45 = .ok (.getfield 155, 3) := by decide +kernel
theorem d_Cm_listPattern_48 : decode b_Cm_listPattern 48 = .ok (.iload_n 1, 1) := by decide +kernel
theorem d_Cm_listPattern_49 : decode b_Cm_listPattern 49 = .ok (.iaload, 1) := by decide +kernel
theorem d_Cm_listPattern_50 : decode b_Cm_listPattern 50 = .ok (.ifCond .eq 19, 3) := by decide +kernel
theorem d_Cm_listPattern_53 : decode b_Cm_listPattern 53 = .ok (.aload_n 0, 1) := by decide +kernel
theorem d_Cm_listPattern_54 : decode b_Cm_listPattern 54 = .ok (.aload_n 0, 1) := by decide +kernel
theorem d_Cm_listPattern_55 : decode b_Cm_listPattern 55 = .ok (.getfield 39, 3) := by decide +kernel
theorem d_Cm_listPattern_58 : decode b_Cm_listPattern 58 = .ok (.getfield 155, 3) := by decide +kernel
theorem d_Cm_listPattern_61 : decode b_Cm_listPattern 61 = .ok (.iload_n 1, 1) := by decide +kernel
theorem d_Cm_listPattern_62 : decode b_Cm_listPattern 62 = .ok (.iaload, 1) := by decide +kernel
theorem d_Cm_listPattern_63 : decode b_Cm_listPattern 63 = .ok (.invokevirtual 168, 3) := by decide +kernel
theorem d_Cm_listPattern_66 : decode b_Cm_listPattern 66 = .ok (.goto 18, 3) := by decide +kernel
theorem d_Cm_listPattern_69 : decode b_Cm_listPattern 69 = .ok (.aload_n 0, 1) := by decide +kernel
theorem d_Cm_listPattern_70 : decode b_Cm_listPattern 70 = .ok (.getfield 43, 3) := by decide +kernel
theorem d_Cm_listPattern_73 : decode b_Cm_listPattern 73 = .ok (.iconst 1, 1) := by decide +kernel
theorem d_Cm_listPattern_74 : decode b_Cm_listPattern 74 = .ok (.invokevirtual 142, 3) := by decide +kernel
theorem d_Cm_listPattern_77 : decode b_Cm_listPattern 77 = .ok (.aload_n 0, 1) := by decide +kernel
theorem d_Cm_listPattern_78 : decode b_Cm_listPattern 78 = .ok (.bipush 6, 2) := by decide +kernel
theorem d_Cm_listPattern_80 : decode b_Cm_listPattern 80 = .ok (.iconst 0, 1) := by decide +kernel
theorem d_Cm_listPattern_81 : decode b_Cm_listPattern 81 = .ok (.invokevirtual 182, 3) := by decide +kernel
theorem d_Cm_listPattern_84 : decode b_Cm_listPattern 84 = .ok (.return_, 1) := by decide +kernel
set_option maxRecDepth 100000 in
theorem hl_Cm_listPattern : Cond.methodLink R_Cm 191 y_Cm_listPattern ∈ wd_tbl := wd_of 1186 (by decide +kernel) rfl
set_option maxRecDepth 100000 in
theorem hi_Cm_listPattern : Cond.instanceMethod y_Cm_listPattern ∈ wd_tbl := wd_of 1188 (by decide +kernel) rfl
set_option maxRecDepth 100000 in
theorem hs_Cm_listPattern : Cond.selects R_Cm y_Cm_listPattern y_Cm_listPattern ∈ wd_tbl := wd_of 48 (by decide +kernel) rfl
theorem hd_Cm_listPattern : y_Cm_listPattern.cls = R_Cm ∧ y_Cm_listPattern.cls ≠ "java/lang/invoke/MethodHandle" ∧ y_Cm_listPattern.cls ≠ "java/lang/invoke/VarHandle" ∧ (parseMethodDescriptor y_Cm_listPattern.desc).map (fun d => d.parameters.length) = some 1 := by decide +kernel
abbrev b_Cm_pattern : ByteArray := prog_3_method_9_code
def y_Cm_pattern : MethodName := ⟨R_Cm, "pattern", "(I)V"⟩
def w_Cm_pattern : List Cond := wd_ws y_Cm_pattern b_Cm_pattern 3 none
set_option maxRecDepth 100000 in
theorem k_Cm_pattern : Cond.code y_Cm_pattern b_Cm_pattern 3 none ∈ wd_tbl := wd_of 1161 rfl rfl
theorem d_Cm_pattern_0 : decode b_Cm_pattern 0 = .ok (.aload_n 0, 1) := by decide +kernel
theorem d_Cm_pattern_1 : decode b_Cm_pattern 1 = .ok (.getfield 39, 3) := by decide +kernel
theorem d_Cm_pattern_4 : decode b_Cm_pattern 4 = .ok (.getfield 177, 3) := by decide +kernel
theorem d_Cm_pattern_7 : decode b_Cm_pattern 7 = .ok (.iload_n 1, 1) := by decide +kernel
theorem d_Cm_pattern_8 : decode b_Cm_pattern 8 = .ok (.iaload, 1) := by decide +kernel
theorem d_Cm_pattern_9 : decode b_Cm_pattern 9 = .ok (.tableswitch 284 1 17 #[99, 158, 199, 183, 83, 224, 284, 284, 284, 284, 284, 284, 284, 284, 284, 284, 124], 83) := by decide +kernel
theorem d_Cm_pattern_92 : decode b_Cm_pattern 92 = .ok (.aload_n 0, 1) := by decide +kernel
theorem d_Cm_pattern_93 : decode b_Cm_pattern 93 = .ok (.aload_n 0, 1) := by decide +kernel
theorem d_Cm_pattern_94 : decode b_Cm_pattern 94 = .ok (.getfield 39, 3) := by decide +kernel
theorem d_Cm_pattern_97 : decode b_Cm_pattern 97 = .ok (.getfield 125, 3) := by decide +kernel
theorem d_Cm_pattern_100 : decode b_Cm_pattern 100 = .ok (.iload_n 1, 1) := by decide +kernel
theorem d_Cm_pattern_101 : decode b_Cm_pattern 101 = .ok (.iaload, 1) := by decide +kernel
theorem d_Cm_pattern_102 : decode b_Cm_pattern 102 = .ok (.invokevirtual 168, 3) := by decide +kernel
theorem d_Cm_pattern_105 : decode b_Cm_pattern 105 = .ok (.goto 193, 3) := by decide +kernel
theorem d_Cm_pattern_108 : decode b_Cm_pattern 108 = .ok (.aload_n 0, 1) := by decide +kernel
theorem d_Cm_pattern_109 : decode b_Cm_pattern 109 = .ok (.getfield 43, 3) := by decide +kernel
theorem d_Cm_pattern_112 : decode b_Cm_pattern 112 = .ok (.iconst 1, 1) := by decide +kernel
theorem d_Cm_pattern_113 : decode b_Cm_pattern 113 = .ok (.invokevirtual 142, 3) := by decide +kernel
theorem d_Cm_pattern_116 : decode b_Cm_pattern 116 = .ok (.aload_n 0, 1) := by decide +kernel
theorem d_Cm_pattern_117 : decode b_Cm_pattern 117 = .ok (.iconst 0, 1) := by decide +kernel
theorem d_Cm_pattern_118 : decode b_Cm_pattern 118 = .ok (.aload_n 0, 1) := by decide +kernel
theorem d_Cm_pattern_119 : decode b_Cm_pattern 119 = .ok (.getfield 39, 3) := by decide +kernel
theorem d_Cm_pattern_122 : decode b_Cm_pattern 122 = .ok (.getfield 125, 3) := by decide +kernel
theorem d_Cm_pattern_125 : decode b_Cm_pattern 125 = .ok (.iload_n 1, 1) := by decide +kernel
theorem d_Cm_pattern_126 : decode b_Cm_pattern 126 = .ok (.iaload, 1) := by decide +kernel
theorem d_Cm_pattern_127 : decode b_Cm_pattern 127 = .ok (.invokevirtual 182, 3) := by decide +kernel
theorem d_Cm_pattern_130 : decode b_Cm_pattern 130 = .ok (.goto 168, 3) := by decide +kernel
theorem d_Cm_pattern_133 : decode b_Cm_pattern 133 = .ok (.aload_n 0, 1) := by decide +kernel
theorem d_Cm_pattern_134 : decode b_Cm_pattern 134 = .ok (.getfield 43, 3) := by decide +kernel
theorem d_Cm_pattern_137 : decode b_Cm_pattern 137 = .ok (.iconst 1, 1) := by decide +kernel
theorem d_Cm_pattern_138 : decode b_Cm_pattern 138 = .ok (.invokevirtual 142, 3) := by decide +kernel
theorem d_Cm_pattern_141 : decode b_Cm_pattern 141 = .ok (.aload_n 0, 1) := by decide +kernel
theorem d_Cm_pattern_142 : decode b_Cm_pattern 142 = .ok (.iconst 0, 1) := by decide +kernel
theorem d_Cm_pattern_143 : decode b_Cm_pattern 143 = .ok (.aload_n 0, 1) := by decide +kernel
theorem d_Cm_pattern_144 : decode b_Cm_pattern 144 = .ok (.getfield 39, 3) := by decide +kernel
theorem d_Cm_pattern_147 : decode b_Cm_pattern 147 = .ok (.getfield 125, 3) := by decide +kernel
theorem d_Cm_pattern_150 : decode b_Cm_pattern 150 = .ok (.aload_n 0, 1) := by decide +kernel
theorem d_Cm_pattern_151 : decode b_Cm_pattern 151 = .ok (.getfield 39, 3) := by decide +kernel
theorem d_Cm_pattern_154 : decode b_Cm_pattern 154 = .ok (.getfield 125, 3) := by decide +kernel
theorem d_Cm_pattern_157 : decode b_Cm_pattern 157 = .ok (.iload_n 1, 1) := by decide +kernel
theorem d_Cm_pattern_158 : decode b_Cm_pattern 158 = .ok (.iaload, 1) := by decide +kernel
theorem d_Cm_pattern_159 : decode b_Cm_pattern 159 = .ok (.iaload, 1) := by decide +kernel
theorem d_Cm_pattern_160 : decode b_Cm_pattern 160 = .ok (.ineg, 1) := by decide +kernel
theorem d_Cm_pattern_161 : decode b_Cm_pattern 161 = .ok (.invokevirtual 182, 3) := by decide +kernel
theorem d_Cm_pattern_164 : decode b_Cm_pattern 164 = .ok (.goto 134, 3) := by decide +kernel
theorem d_Cm_pattern_167 : decode b_Cm_pattern 167 = .ok (.aload_n 0, 1) := by decide +kernel
theorem d_Cm_pattern_168 : decode b_Cm_pattern 168 = .ok (.getfield 43, 3) := by decide +kernel
theorem d_Cm_pattern_171 : decode b_Cm_pattern 171 = .ok (.iconst 1, 1) := by decide +kernel
theorem d_Cm_pattern_172 : decode b_Cm_pattern 172 = .ok (.invokevirtual 142, 3) := by decide +kernel
theorem d_Cm_pattern_175 : decode b_Cm_pattern 175 = .ok (.aload_n 0, 1) := by decide +kernel
theorem d_Cm_pattern_176 : decode b_Cm_pattern 176 = .ok (.iconst 1, 1) := by decide +kernel
theorem d_Cm_pattern_177 : decode b_Cm_pattern 177 = .ok (.aload_n 0, 1) := by decide +kernel
theorem d_Cm_pattern_178 : decode b_Cm_pattern 178 = .ok (.getfield 39, 3) := by decide +kernel
theorem d_Cm_pattern_181 : decode b_Cm_pattern 181 = .ok (.getfield 125, 3) := by decide +kernel
theorem d_Cm_pattern_184 : decode b_Cm_pattern 184 = .ok (.iload_n 1, 1) := by decide +kernel
theorem d_Cm_pattern_185 : decode b_Cm_pattern 185 = .ok (.iaload, 1) := by decide +kernel
theorem d_Cm_pattern_186 : decode b_Cm_pattern 186 = .ok (.invokevirtual 182, 3) := by decide +kernel
theorem d_Cm_pattern_189 : decode b_Cm_pattern 189 = .ok (.goto 109, 3) := by decide +kernel
theorem d_Cm_pattern_192 : decode b_Cm_pattern 192 = .ok (.aload_n 0, 1) := by decide +kernel
theorem d_Cm_pattern_193 : decode b_Cm_pattern 193 = .ok (.getfield 43, 3) := by decide +kernel
theorem d_Cm_pattern_196 : decode b_Cm_pattern 196 = .ok (.iconst 2, 1) := by decide +kernel
theorem d_Cm_pattern_197 : decode b_Cm_pattern 197 = .ok (.invokevirtual 142, 3) := by decide +kernel
theorem d_Cm_pattern_200 : decode b_Cm_pattern 200 = .ok (.aload_n 0, 1) := by decide +kernel
theorem d_Cm_pattern_201 : decode b_Cm_pattern 201 = .ok (.iload_n 1, 1) := by decide +kernel
theorem d_Cm_pattern_202 : decode b_Cm_pattern 202 = .ok (.invokevirtual 185, 3) := by decide +kernel
theorem d_Cm_pattern_205 : decode b_Cm_pattern 205 = .ok (.goto 93, 3) := by decide +kernel
theorem d_Cm_pattern_208 : decode b_Cm_pattern 208 = .ok (.aload_n 0, 1) := by decide +kernel
theorem d_Cm_pattern_209 : decode b_Cm_pattern 209 = .ok (.aload_n 0, 1) := by decide +kernel
theorem d_Cm_pattern_210 : decode b_Cm_pattern 210 = .ok (.getfield 39, 3) := by decide +kernel
theorem d_Cm_pattern_213 : decode b_Cm_pattern 213 = .ok (.getfield 125, 3) := by decide +kernel
theorem d_Cm_pattern_216 : decode b_Cm_pattern 216 = .ok (.iload_n 1, 1) := by decide +kernel
theorem d_Cm_pattern_217 : decode b_Cm_pattern 217 = .ok (.iaload, 1) := by decide +kernel
theorem d_Cm_pattern_218 : decode b_Cm_pattern 218 = .ok (.aload_n 0, 1) := by decide +kernel
theorem d_Cm_pattern_219 : decode b_Cm_pattern 219 = .ok (.getfield 39, 3) := by decide +kernel
theorem d_Cm_pattern_222 : decode b_Cm_pattern 222 = .ok (.getfield 93, 3) := by decide +kernel
theorem d_Cm_pattern_225 : decode b_Cm_pattern 225 = .ok (.iload_n 1, 1) := by decide +kernel
theorem d_Cm_pattern_226 : decode b_Cm_pattern 226 = .ok (.iaload, 1) := by decide +kernel
theorem d_Cm_pattern_227 : decode b_Cm_pattern 227 = .ok (.invokevirtual 188, 3) := by decide +kernel
theorem d_Cm_pattern_230 : decode b_Cm_pattern 230 = .ok (.goto 68, 3) := by decide +kernel
theorem d_Cm_pattern_233 : decode b_Cm_pattern 233 = .ok (.aload_n 0, 1) := by decide +kernel
theorem d_Cm_pattern_234 : decode b_Cm_pattern 234 = .ok (.getfield 43, 3) := by decide +kernel
theorem d_Cm_pattern_237 : decode b_Cm_pattern 237 = .ok (.bipush 6, 2) := by decide +kernel
theorem d_Cm_pattern_239 : decode b_Cm_pattern 239 = .ok (.invokevirtual 142, 3) := by decide +kernel
theorem d_Cm_pattern_242 : decode b_Cm_pattern 242 = .ok (.aload_n 0, 1) := by decide +kernel
theorem d_Cm_pattern_243 : decode b_Cm_pattern 243 = .ok (.getfield 43, 3) := by decide +kernel
theorem d_Cm_pattern_246 : decode b_Cm_pattern 246 = .ok (.aload_n 0, 1) := by decide +kernel
theorem d_Cm_pattern_247 : decode b_Cm_pattern 247 = .ok (.getfield 39, 3) := by decide +kernel
theorem d_Cm_pattern_250 : decode b_Cm_pattern 250 = .ok (.getfield 171, 3) := by decide +kernel
theorem d_Cm_pattern_253 : decode b_Cm_pattern 253 = .ok (.iload_n 1, 1) := by decide +kernel
theorem d_Cm_pattern_254 : decode b_Cm_pattern 254 = .ok (.iaload, 1) := by decide +kernel
theorem d_Cm_pattern_255 : decode b_Cm_pattern 255 = .ok (.invokevirtual 142, 3) := by decide +kernel
theorem d_Cm_pattern_258 : decode b_Cm_pattern 258 = .ok (.aload_n 0, 1) := by decide +kernel
theorem d_Cm_pattern_259 : decode b_Cm_pattern 259 = .ok (.getfield 39, 3) := by decide +kernel
theorem d_Cm_pattern_262 : decode b_Cm_pattern 262 = .ok (.getfield 125, 3) := by decide +kernel
theorem d_Cm_pattern_265 : decode b_Cm_pattern 265 = .ok (.iload_n 1, 1) := by decide +kernel
theorem d_Cm_pattern_266 : decode b_Cm_pattern 266 = .ok (.iaload, 1) := by decide +kernel
theorem d_Cm_pattern_267 : decode b_Cm_pattern 267 = .ok (.istore_n 2, 1) := by decide +kernel
theorem d_Cm_pattern_268 : decode b_Cm_pattern 268 = .ok (.iload_n 2, 1) := by decide +kernel
theorem d_Cm_pattern_269 : decode b_Cm_pattern 269 = .ok (.ifCond .eq 21, 3) := by decide +kernel
theorem d_Cm_pattern_272 : decode b_Cm_pattern 272 = .ok (.aload_n 0, 1) := by decide +kernel
theorem d_Cm_pattern_273 : decode b_Cm_pattern 273 = .ok (.iload_n 2, 1) := by decide +kernel
theorem d_Cm_pattern_274 : decode b_Cm_pattern 274 = .ok (.invokevirtual 168, 3) := by decide +kernel
theorem d_Cm_pattern_277 : decode b_Cm_pattern 277 = .ok (.aload_n 0, 1) := by decide +kernel
theorem d_Cm_pattern_278 : decode b_Cm_pattern 278 = .ok (.getfield 39, 3) := by decide +kernel
theorem d_Cm_pattern_281 : decode b_Cm_pattern 281 = .ok (.getfield 139, 3) := by decide +kernel
theorem d_Cm_pattern_284 : decode b_Cm_pattern 284 = .ok (.iload_n 2, 1) := by decide +kernel
theorem d_Cm_pattern_285 : decode b_Cm_pattern 285 = .ok (.iaload, 1) := by decide +kernel
theorem d_Cm_pattern_286 : decode b_Cm_pattern 286 = .ok (.istore_n 2, 1) := by decide +kernel
theorem d_Cm_pattern_287 : decode b_Cm_pattern 287 = .ok (.goto (-19), 3) := by decide +kernel
theorem d_Cm_pattern_290 : decode b_Cm_pattern 290 = .ok (.goto 8, 3) := by decide +kernel
theorem d_Cm_pattern_293 : decode b_Cm_pattern 293 = .ok (.aload_n 0, 1) := by decide +kernel
theorem d_Cm_pattern_294 : decode b_Cm_pattern 294 = .ok (.iload_n 1, 1) := by decide +kernel
theorem d_Cm_pattern_295 : decode b_Cm_pattern 295 = .ok (.invokevirtual 191, 3) := by decide +kernel
theorem d_Cm_pattern_298 : decode b_Cm_pattern 298 = .ok (.return_, 1) := by decide +kernel
set_option maxRecDepth 100000 in
theorem hl_Cm_pattern : Cond.methodLink R_Cm 168 y_Cm_pattern ∈ wd_tbl := wd_of 1158 (by decide +kernel) rfl
set_option maxRecDepth 100000 in
theorem hi_Cm_pattern : Cond.instanceMethod y_Cm_pattern ∈ wd_tbl := wd_of 1160 (by decide +kernel) rfl
set_option maxRecDepth 100000 in
theorem hs_Cm_pattern : Cond.selects R_Cm y_Cm_pattern y_Cm_pattern ∈ wd_tbl := wd_of 42 (by decide +kernel) rfl
theorem hd_Cm_pattern : y_Cm_pattern.cls = R_Cm ∧ y_Cm_pattern.cls ≠ "java/lang/invoke/MethodHandle" ∧ y_Cm_pattern.cls ≠ "java/lang/invoke/VarHandle" ∧ (parseMethodDescriptor y_Cm_pattern.desc).map (fun d => d.parameters.length) = some 1 := by decide +kernel
def rg_Cm_listPattern (d : Nat) : Room := { frames := 3 + d, cells := 0, slots := 0, locals := 66 + 22 * d }
abbrev SG_Cm_listPattern : Type := (CS → Nat → Int32 → Option (CS × Unit)) × (CS → Nat → Int32 → Option (CS × Unit))
def HS_Cm_listPattern (l : Launch) (s0 : State) (b0 : Nat) (D : va_G) (cB cI cJ cZ cS cP : ClassId) (d : Nat) (S : SG_Cm_listPattern) : Prop := (∀ (ad : Nat → Nat) (u : CS) (v0 : Nat) (v1 : Int32) (x : CS × Unit) (sz : Nat), S.1 u v0 v1 = some x → Met l y_Cm_listPattern (wd_ws y_Cm_listPattern b_Cm_listPattern 3 none) (rg_Cm_listPattern d) (xPc s0 b0 D cB cI cJ cZ cS cP ad u sz [.ref (ad v0), .int v1]) (xQ0 D cB cI cJ cZ cS cP (xA cB cI cJ cZ cS cP ad u sz) ad x.1 none) 0 0 (xA cB cI cJ cZ cS cP ad u sz)) ∧ (∀ (ad : Nat → Nat) (u : CS) (v0 : Nat) (v1 : Int32) (x : CS × Unit) (sz : Nat), S.2 u v0 v1 = some x → Met l y_Cm_pattern (wd_ws y_Cm_pattern b_Cm_pattern 3 none) (rg_Cm_listPattern d) (xPc s0 b0 D cB cI cJ cZ cS cP ad u sz [.ref (ad v0), .int v1]) (xQ0 D cB cI cJ cZ cS cP (xA cB cI cJ cZ cS cP ad u sz) ad x.1 none) 0 0 (xA cB cI cJ cZ cS cP ad u sz))
theorem rm_Cm_listPattern_Co_put {d : Nat} : (rm_Co_put).frames + 1 ≤ (rg_Cm_listPattern (d + 1)).frames ∧ 8 + (2 + 11) + (rm_Co_put).locals ≤ (rg_Cm_listPattern (d + 1)).locals := by
  show 0 + 1 ≤ 3 + (d + 1) ∧ 8 + (2 + 11) + 0 ≤ 66 + 22 * (d + 1)
  omega
theorem rm_Cm_listPattern_Cm_term {d : Nat} : (rm_Cm_term).frames + 1 ≤ (rg_Cm_listPattern (d + 1)).frames ∧ 8 + (3 + 11) + (rm_Cm_term).locals ≤ (rg_Cm_listPattern (d + 1)).locals := by
  show 1 + 1 ≤ 3 + (d + 1) ∧ 8 + (3 + 11) + 21 ≤ 66 + 22 * (d + 1)
  omega
theorem rm_Cm_listPattern_Cm_pattern {d : Nat} : (rg_Cm_listPattern d).frames + 1 ≤ (rg_Cm_listPattern (d + 1)).frames ∧ 8 + (3 + 11) + (rg_Cm_listPattern d).locals ≤ (rg_Cm_listPattern (d + 1)).locals := by
  show 3 + d + 1 ≤ 3 + (d + 1) ∧ 8 + (3 + 11) + (66 + 22 * d) ≤ 66 + 22 * (d + 1)
  omega
def fb_Cm_listPattern_84 (N : Nat) (S : SG_Cm_listPattern) (G : (CS → Nat → Int32 → Int32 → Option (CS × Unit))) (u : CS) : Option (CS × Unit) := some (u, ())
set_option maxRecDepth 100000 in
set_option maxHeartbeats 4000000 in
theorem wb_Cm_listPattern_84 {p : Program} {l : Launch} {e : Env} {s : State} {m : MethodId} {args : Array Value} {below : List Frame} {meth : Method} {c : Code} {s0 : State} {b0 : Nat} {D : va_G} {cB cI cJ cZ cS cP : ClassId} {A : Nat → Prop} {sk sv : Nat → Nat} {d : Nat} {ad : Nat → Nat} (C0 : XCx p s s0 b0 m args meth c R_Cm b_Cm_listPattern 3 none D cB cI cJ cZ cS cP A) (hE : ENV s0 b0 sk sv) (N : Nat) (S : SG_Cm_listPattern) (hSg : HS_Cm_listPattern l s0 b0 D cB cI cJ cZ cS cP d S) (G : (CS → Nat → Int32 → Int32 → Option (CS × Unit))) (hG : (∀ (u : CS) (v0 : Nat) (v1 : Int32) (v2 : Int32) (x : CS × Unit), G u v0 v1 v2 = some x → ∀ (H : Heap) (locs : List Loc), va_P D cls (wC cB cI cJ cZ cS cP ad u) H → va_D A (wC cB cI cJ cZ cS cP ad u) → va_S A s.heap H locs → ∀ (ls : Array Slot), lv_has ls 3 [(0, .ref (ad v0)), (1, .int v1), (2, .int v2)] → W p l e (rg_Cm_listPattern (d + 1)) s m args below meth c H locs 0 0 (MQ below (xQ0 D cB cI cJ cZ cS cP A ad x.1 none) args s 0 0 A) (F0 m 10 ls []))) : ∀ (u : CS) (x : CS × Unit), fb_Cm_listPattern_84 N S G u = some x → ∀ (H : Heap) (locs : List Loc), va_P D cls (wC cB cI cJ cZ cS cP ad u) H → va_D A (wC cB cI cJ cZ cS cP ad u) → va_S A s.heap H locs → ∀ (ls : Array Slot), lv_has ls 3 [] → W p l e (rg_Cm_listPattern (d + 1)) s m args below meth c H locs 0 0 (MQ below (xQ0 D cB cI cJ cZ cS cP A ad x.1 none) args s 0 0 A) (F0 m 84 ls []) := by
  intro u x hf H locs hP hD hS ls hl
  obtain ⟨hx, hb, hr, hml, ht, hown, hK, hA, hlocks, hA0, hO, hbs⟩ := id C0
  unfold fb_Cm_listPattern_84 at hf
  exact xr0_v C0 hP hD hS hf d_Cm_listPattern_84
def fb_Cm_listPattern_10 (N : Nat) (S : SG_Cm_listPattern) (G : (CS → Nat → Int32 → Int32 → Option (CS × Unit))) (u : CS) (v0 : Nat) (v1 : Int32) (v2 : Int32) : Option (CS × Unit) := br (decide (v2 = 0)) (bo (gR u v0 3 1) (fun r1 => bo r1 (fun j2 => bo (gR u j2 10 4) (fun r3 => bo r3 (fun j4 => bo (aI u j4 4 v1) (fun r5 => br (decide (r5 = 0)) (bo (gR u v0 3 2) (fun r6 => bo r6 (fun j8 => ck (isO u j8 2) (bx (fm_Co_put N u j8 1) (fun u7 r7 => ck (isO u7 v0 3) (bx (fm_Cm_term N u7 v0 6 0) (fun u9 r9 => fb_Cm_listPattern_84 N S G u9))))))) (bo (gR u v0 3 1) (fun r10 => bo r10 (fun j11 => bo (gR u j11 10 4) (fun r12 => bo r12 (fun j13 => bo (aI u j13 4 v1) (fun r14 => ck (isO u v0 3) (bx (S.2 u v0 r14) (fun u15 r15 => fb_Cm_listPattern_84 N S G u15)))))))))))))) (bo (gR u v0 3 2) (fun r16 => bo r16 (fun j18 => ck (isO u j18 2) (bx (fm_Co_put N u j18 7) (fun u17 r17 => ck (isO u17 v0 3) (bx (S.2 u17 v0 v2) (fun u19 r19 => bo (gR u19 v0 3 1) (fun r20 => bo r20 (fun j21 => bo (gR u19 j21 10 5) (fun r22 => bo r22 (fun j23 => bo (aI u19 j23 4 v2) (fun r24 => G u19 (v0) (v1) (r24)))))))))))))
set_option maxRecDepth 100000 in
set_option maxHeartbeats 4000000 in
theorem wb_Cm_listPattern_10 {p : Program} {l : Launch} {e : Env} {s : State} {m : MethodId} {args : Array Value} {below : List Frame} {meth : Method} {c : Code} {s0 : State} {b0 : Nat} {D : va_G} {cB cI cJ cZ cS cP : ClassId} {A : Nat → Prop} {sk sv : Nat → Nat} {d : Nat} {ad : Nat → Nat} (C0 : XCx p s s0 b0 m args meth c R_Cm b_Cm_listPattern 3 none D cB cI cJ cZ cS cP A) (hE : ENV s0 b0 sk sv) (N : Nat) (S : SG_Cm_listPattern) (hSg : HS_Cm_listPattern l s0 b0 D cB cI cJ cZ cS cP d S) (G : (CS → Nat → Int32 → Int32 → Option (CS × Unit))) (hG : (∀ (u : CS) (v0 : Nat) (v1 : Int32) (v2 : Int32) (x : CS × Unit), G u v0 v1 v2 = some x → ∀ (H : Heap) (locs : List Loc), va_P D cls (wC cB cI cJ cZ cS cP ad u) H → va_D A (wC cB cI cJ cZ cS cP ad u) → va_S A s.heap H locs → ∀ (ls : Array Slot), lv_has ls 3 [(0, .ref (ad v0)), (1, .int v1), (2, .int v2)] → W p l e (rg_Cm_listPattern (d + 1)) s m args below meth c H locs 0 0 (MQ below (xQ0 D cB cI cJ cZ cS cP A ad x.1 none) args s 0 0 A) (F0 m 10 ls []))) : ∀ (u : CS) (v0 : Nat) (v1 : Int32) (v2 : Int32) (x : CS × Unit), fb_Cm_listPattern_10 N S G u v0 v1 v2 = some x → ∀ (H : Heap) (locs : List Loc), va_P D cls (wC cB cI cJ cZ cS cP ad u) H → va_D A (wC cB cI cJ cZ cS cP ad u) → va_S A s.heap H locs → ∀ (ls : Array Slot), lv_has ls 3 [(0, .ref (ad v0)), (1, .int v1), (2, .int v2)] → W p l e (rg_Cm_listPattern (d + 1)) s m args below meth c H locs 0 0 (MQ below (xQ0 D cB cI cJ cZ cS cP A ad x.1 none) args s 0 0 A) (F0 m 10 ls []) := by
  intro u v0 v1 v2 x hf H locs hP hD hS ls hl
  obtain ⟨hx, hb, hr, hml, ht, hown, hK, hA, hlocks, hA0, hO, hbs⟩ := id C0
  unfold fb_Cm_listPattern_10 at hf
  refine lv_iload_n hx hb d_Cm_listPattern_10 rfl (lv_at hl 2 rfl) ?_
  refine lv_if_eq (tgt := 41) hx hb d_Cm_listPattern_11 (by decide) (fun hc => ?_) (fun hc => ?_)
  · rw [br_p _ hc] at hf
    refine lv_aload_n hx hb d_Cm_listPattern_41 rfl (lv_at hl 0 rfl) ?_
    obtain ⟨r1, g1, hf⟩ := bo_some hf
    refine xg_R (i := v0) (k := 1) hx hb ht hown ck_Cm hK hP (by decide) fk_Cm_39 g1 d_Cm_listPattern_42 ?_
    obtain ⟨j2, ej2, hf⟩ := bo_some hf
    rw [ej2]
    obtain ⟨r3, g3, hf⟩ := bo_some hf
    refine xg_R (i := j2) (k := 4) hx hb ht hown ck_Tr hK hP (by decide) fk_Cm_155 g3 d_Cm_listPattern_45 ?_
    refine lv_iload_n hx hb d_Cm_listPattern_48 rfl (lv_at hl 1 rfl) ?_
    obtain ⟨j4, ej4, hf⟩ := bo_some hf
    rw [ej4]
    obtain ⟨r5, g5, hf⟩ := bo_some hf
    refine xl_I (i := j4) hx hb hK hP g5 d_Cm_listPattern_49 ?_
    refine lv_if_eq (tgt := 69) hx hb d_Cm_listPattern_50 (by decide) (fun hc => ?_) (fun hc => ?_)
    · rw [br_p _ hc] at hf
      refine lv_aload_n hx hb d_Cm_listPattern_69 rfl (lv_at hl 0 rfl) ?_
      obtain ⟨r6, g6, hf⟩ := bo_some hf
      refine xg_R (i := v0) (k := 2) hx hb ht hown ck_Cm hK hP (by decide) fk_Cm_43 g6 d_Cm_listPattern_70 ?_
      refine lv_iconst (v := 1) hx hb d_Cm_listPattern_73 (by decide) ?_
      obtain ⟨j8, ej8, hf⟩ := bo_some hf
      rw [ej8]
      obtain ⟨hO9, hf⟩ := ck_some hf
      obtain ⟨u7, r7, hc7, hf⟩ := bx_some hf
      refine xV0 (i := j8) (As := [.int 1]) (rest := []) C0 hP hD hS ck_Co hO9 (c_Co_put N hc7) k_Co_put (wd_of 1149 (by decide +kernel) rfl) hi_Co_put hs_Co_put hini_Co rfl rfl hd_Co_put rfl rm_Cm_listPattern_Co_put hl.1 (Nat.le_of_ble_eq_true rfl) d_Cm_listPattern_74 rfl ⟨Nat.zero_le _, Nat.zero_le _⟩ (fun H locs hP hD hS => ?_)
      refine lv_aload_n hx hb d_Cm_listPattern_77 rfl (lv_at hl 0 rfl) ?_
      refine lv_bipush (v := 6) hx hb d_Cm_listPattern_78 (by decide) ?_
      refine lv_iconst (v := 0) hx hb d_Cm_listPattern_80 (by decide) ?_
      obtain ⟨hO9, hf⟩ := ck_some hf
      obtain ⟨u9, r9, hc9, hf⟩ := bx_some hf
      refine xV0 (i := v0) (As := [.int 6, .int 0]) (rest := []) C0 hP hD hS ck_Cm hO9 (c_Cm_term N hc9) k_Cm_term (wd_of 1162 (by decide +kernel) rfl) hi_Cm_term hs_Cm_term hini_Cm rfl rfl hd_Cm_term rfl rm_Cm_listPattern_Cm_term hl.1 (Nat.le_of_ble_eq_true rfl) d_Cm_listPattern_81 rfl ⟨Nat.zero_le _, Nat.zero_le _⟩ (fun H locs hP hD hS => ?_)
      exact wb_Cm_listPattern_84 C0 hE N S hSg G hG _ _ hf H locs hP hD hS ls (lv_sub hl [] rfl)
    · rw [br_n _ hc] at hf
      refine lv_aload_n hx hb d_Cm_listPattern_53 rfl (lv_at hl 0 rfl) ?_
      refine lv_aload_n hx hb d_Cm_listPattern_54 rfl (lv_at hl 0 rfl) ?_
      obtain ⟨r10, g10, hf⟩ := bo_some hf
      refine xg_R (i := v0) (k := 1) hx hb ht hown ck_Cm hK hP (by decide) fk_Cm_39 g10 d_Cm_listPattern_55 ?_
      obtain ⟨j11, ej11, hf⟩ := bo_some hf
      rw [ej11]
      obtain ⟨r12, g12, hf⟩ := bo_some hf
      refine xg_R (i := j11) (k := 4) hx hb ht hown ck_Tr hK hP (by decide) fk_Cm_155 g12 d_Cm_listPattern_58 ?_
      refine lv_iload_n hx hb d_Cm_listPattern_61 rfl (lv_at hl 1 rfl) ?_
      obtain ⟨j13, ej13, hf⟩ := bo_some hf
      rw [ej13]
      obtain ⟨r14, g14, hf⟩ := bo_some hf
      refine xl_I (i := j13) hx hb hK hP g14 d_Cm_listPattern_62 ?_
      obtain ⟨hO9, hf⟩ := ck_some hf
      obtain ⟨u15, r15, hc15, hf⟩ := bx_some hf
      refine xV0 (i := v0) (As := [.int r14]) (rest := []) C0 hP hD hS ck_Cm hO9 (hSg.2 _ _ _ _ _ _ hc15) k_Cm_pattern (wd_of 1158 (by decide +kernel) rfl) hi_Cm_pattern hs_Cm_pattern hini_Cm rfl rfl hd_Cm_pattern rfl rm_Cm_listPattern_Cm_pattern hl.1 (Nat.le_of_ble_eq_true rfl) d_Cm_listPattern_63 rfl ⟨Nat.zero_le _, Nat.zero_le _⟩ (fun H locs hP hD hS => ?_)
      refine lv_goto (tgt := 84) hx hb d_Cm_listPattern_66 (by decide) ?_
      exact wb_Cm_listPattern_84 C0 hE N S hSg G hG _ _ hf H locs hP hD hS ls (lv_sub hl [] rfl)
  · rw [br_n _ hc] at hf
    refine lv_aload_n hx hb d_Cm_listPattern_14 rfl (lv_at hl 0 rfl) ?_
    obtain ⟨r16, g16, hf⟩ := bo_some hf
    refine xg_R (i := v0) (k := 2) hx hb ht hown ck_Cm hK hP (by decide) fk_Cm_43 g16 d_Cm_listPattern_15 ?_
    refine lv_bipush (v := 7) hx hb d_Cm_listPattern_18 (by decide) ?_
    obtain ⟨j18, ej18, hf⟩ := bo_some hf
    rw [ej18]
    obtain ⟨hO9, hf⟩ := ck_some hf
    obtain ⟨u17, r17, hc17, hf⟩ := bx_some hf
    refine xV0 (i := j18) (As := [.int 7]) (rest := []) C0 hP hD hS ck_Co hO9 (c_Co_put N hc17) k_Co_put (wd_of 1149 (by decide +kernel) rfl) hi_Co_put hs_Co_put hini_Co rfl rfl hd_Co_put rfl rm_Cm_listPattern_Co_put hl.1 (Nat.le_of_ble_eq_true rfl) d_Cm_listPattern_20 rfl ⟨Nat.zero_le _, Nat.zero_le _⟩ (fun H locs hP hD hS => ?_)
    refine lv_aload_n hx hb d_Cm_listPattern_23 rfl (lv_at hl 0 rfl) ?_
    refine lv_iload_n hx hb d_Cm_listPattern_24 rfl (lv_at hl 2 rfl) ?_
    obtain ⟨hO9, hf⟩ := ck_some hf
    obtain ⟨u19, r19, hc19, hf⟩ := bx_some hf
    refine xV0 (i := v0) (As := [.int v2]) (rest := []) C0 hP hD hS ck_Cm hO9 (hSg.2 _ _ _ _ _ _ hc19) k_Cm_pattern (wd_of 1158 (by decide +kernel) rfl) hi_Cm_pattern hs_Cm_pattern hini_Cm rfl rfl hd_Cm_pattern rfl rm_Cm_listPattern_Cm_pattern hl.1 (Nat.le_of_ble_eq_true rfl) d_Cm_listPattern_25 rfl ⟨Nat.zero_le _, Nat.zero_le _⟩ (fun H locs hP hD hS => ?_)
    refine lv_aload_n hx hb d_Cm_listPattern_28 rfl (lv_at hl 0 rfl) ?_
    obtain ⟨r20, g20, hf⟩ := bo_some hf
    refine xg_R (i := v0) (k := 1) hx hb ht hown ck_Cm hK hP (by decide) fk_Cm_39 g20 d_Cm_listPattern_29 ?_
    obtain ⟨j21, ej21, hf⟩ := bo_some hf
    rw [ej21]
    obtain ⟨r22, g22, hf⟩ := bo_some hf
    refine xg_R (i := j21) (k := 5) hx hb ht hown ck_Tr hK hP (by decide) fk_Cm_139 g22 d_Cm_listPattern_32 ?_
    refine lv_iload_n hx hb d_Cm_listPattern_35 rfl (lv_at hl 2 rfl) ?_
    obtain ⟨j23, ej23, hf⟩ := bo_some hf
    rw [ej23]
    obtain ⟨r24, g24, hf⟩ := bo_some hf
    refine xl_I (i := j23) hx hb hK hP g24 d_Cm_listPattern_36 ?_
    refine lv_istore_n (lv' := [(2, .int r24), (0, .ref (ad v0)), (1, .int v1)]) hx hb d_Cm_listPattern_37 rfl hl (by decide) (by first | rfl | simp [List.filter, cat_rf]) (fun ls hl => ?_)
    refine lv_goto (tgt := 10) hx hb d_Cm_listPattern_38 (by decide) ?_
    exact hG _ _ _ _ _ hf H locs hP hD hS ls (lv_sub hl [1, 2, 0] rfl)
def fb_Cm_listPattern_0 (N : Nat) (S : SG_Cm_listPattern) (G : (CS → Nat → Int32 → Int32 → Option (CS × Unit))) (u : CS) (v0 : Nat) (v1 : Int32) : Option (CS × Unit) := bo (gR u v0 3 1) (fun r25 => bo r25 (fun j26 => bo (gR u j26 10 2) (fun r27 => bo r27 (fun j28 => bo (aI u j28 4 v1) (fun r29 => G u (v0) (v1) (r29))))))
set_option maxRecDepth 100000 in
set_option maxHeartbeats 4000000 in
theorem wb_Cm_listPattern_0 {p : Program} {l : Launch} {e : Env} {s : State} {m : MethodId} {args : Array Value} {below : List Frame} {meth : Method} {c : Code} {s0 : State} {b0 : Nat} {D : va_G} {cB cI cJ cZ cS cP : ClassId} {A : Nat → Prop} {sk sv : Nat → Nat} {d : Nat} {ad : Nat → Nat} (C0 : XCx p s s0 b0 m args meth c R_Cm b_Cm_listPattern 3 none D cB cI cJ cZ cS cP A) (hE : ENV s0 b0 sk sv) (N : Nat) (S : SG_Cm_listPattern) (hSg : HS_Cm_listPattern l s0 b0 D cB cI cJ cZ cS cP d S) (G : (CS → Nat → Int32 → Int32 → Option (CS × Unit))) (hG : (∀ (u : CS) (v0 : Nat) (v1 : Int32) (v2 : Int32) (x : CS × Unit), G u v0 v1 v2 = some x → ∀ (H : Heap) (locs : List Loc), va_P D cls (wC cB cI cJ cZ cS cP ad u) H → va_D A (wC cB cI cJ cZ cS cP ad u) → va_S A s.heap H locs → ∀ (ls : Array Slot), lv_has ls 3 [(0, .ref (ad v0)), (1, .int v1), (2, .int v2)] → W p l e (rg_Cm_listPattern (d + 1)) s m args below meth c H locs 0 0 (MQ below (xQ0 D cB cI cJ cZ cS cP A ad x.1 none) args s 0 0 A) (F0 m 10 ls []))) : ∀ (u : CS) (v0 : Nat) (v1 : Int32) (x : CS × Unit), fb_Cm_listPattern_0 N S G u v0 v1 = some x → ∀ (H : Heap) (locs : List Loc), va_P D cls (wC cB cI cJ cZ cS cP ad u) H → va_D A (wC cB cI cJ cZ cS cP ad u) → va_S A s.heap H locs → ∀ (ls : Array Slot), lv_has ls 3 [(0, .ref (ad v0)), (1, .int v1)] → W p l e (rg_Cm_listPattern (d + 1)) s m args below meth c H locs 0 0 (MQ below (xQ0 D cB cI cJ cZ cS cP A ad x.1 none) args s 0 0 A) (F0 m 0 ls []) := by
  intro u v0 v1 x hf H locs hP hD hS ls hl
  obtain ⟨hx, hb, hr, hml, ht, hown, hK, hA, hlocks, hA0, hO, hbs⟩ := id C0
  unfold fb_Cm_listPattern_0 at hf
  refine lv_aload_n hx hb d_Cm_listPattern_0 rfl (lv_at hl 0 rfl) ?_
  obtain ⟨r25, g25, hf⟩ := bo_some hf
  refine xg_R (i := v0) (k := 1) hx hb ht hown ck_Cm hK hP (by decide) fk_Cm_39 g25 d_Cm_listPattern_1 ?_
  obtain ⟨j26, ej26, hf⟩ := bo_some hf
  rw [ej26]
  obtain ⟨r27, g27, hf⟩ := bo_some hf
  refine xg_R (i := j26) (k := 2) hx hb ht hown ck_Tr hK hP (by decide) fk_Cm_125 g27 d_Cm_listPattern_4 ?_
  refine lv_iload_n hx hb d_Cm_listPattern_7 rfl (lv_at hl 1 rfl) ?_
  obtain ⟨j28, ej28, hf⟩ := bo_some hf
  rw [ej28]
  obtain ⟨r29, g29, hf⟩ := bo_some hf
  refine xl_I (i := j28) hx hb hK hP g29 d_Cm_listPattern_8 ?_
  refine lv_istore_n (lv' := [(2, .int r29), (0, .ref (ad v0)), (1, .int v1)]) hx hb d_Cm_listPattern_9 rfl hl (by decide) (by first | rfl | simp [List.filter, cat_rf]) (fun ls hl => ?_)
  exact hG _ _ _ _ _ hf H locs hP hD hS ls (lv_sub hl [1, 2, 0] rfl)
def gg_Cm_listPattern (N : Nat) (S : SG_Cm_listPattern) : Nat → ((CS → Nat → Int32 → Int32 → Option (CS × Unit)))
  | 0 => fun _ _ _ _ => none
  | n + 1 => fb_Cm_listPattern_10 N S (gg_Cm_listPattern N S n)
theorem wg_Cm_listPattern {p : Program} {l : Launch} {e : Env} {s : State} {m : MethodId} {args : Array Value} {below : List Frame} {meth : Method} {c : Code} {s0 : State} {b0 : Nat} {D : va_G} {cB cI cJ cZ cS cP : ClassId} {A : Nat → Prop} {sk sv : Nat → Nat} {d : Nat} {ad : Nat → Nat} (C0 : XCx p s s0 b0 m args meth c R_Cm b_Cm_listPattern 3 none D cB cI cJ cZ cS cP A) (hE : ENV s0 b0 sk sv) (N : Nat) (S : SG_Cm_listPattern) (hSg : HS_Cm_listPattern l s0 b0 D cB cI cJ cZ cS cP d S) : ∀ n : Nat, (∀ (u : CS) (v0 : Nat) (v1 : Int32) (v2 : Int32) (x : CS × Unit), gg_Cm_listPattern N S n u v0 v1 v2 = some x → ∀ (H : Heap) (locs : List Loc), va_P D cls (wC cB cI cJ cZ cS cP ad u) H → va_D A (wC cB cI cJ cZ cS cP ad u) → va_S A s.heap H locs → ∀ (ls : Array Slot), lv_has ls 3 [(0, .ref (ad v0)), (1, .int v1), (2, .int v2)] → W p l e (rg_Cm_listPattern (d + 1)) s m args below meth c H locs 0 0 (MQ below (xQ0 D cB cI cJ cZ cS cP A ad x.1 none) args s 0 0 A) (F0 m 10 ls []))
  | 0 => (fun u v0 v1 v2 x hf => by cases hf)
  | n + 1 => wb_Cm_listPattern_10 C0 hE N S hSg (gg_Cm_listPattern N S n) (wg_Cm_listPattern C0 hE N S hSg n)
def fm_Cm_listPattern (N : Nat) (S : SG_Cm_listPattern) (u : CS) (v0 : Nat) (v1 : Int32) : Option (CS × Unit) := fb_Cm_listPattern_0 N S (gg_Cm_listPattern N S N) u v0 v1
set_option maxRecDepth 100000 in
set_option maxHeartbeats 4000000 in
theorem cs_Cm_listPattern (N : Nat) {d : Nat} {l : Launch} {s0 : State} {b0 : Nat} {D : va_G} {cB cI cJ cZ cS cP : ClassId} {sk sv : Nat → Nat} {ad : Nat → Nat} {u : CS} {sz : Nat} {v0 : Nat} {v1 : Int32} {x : CS × Unit} (hE : ENV s0 b0 sk sv) (S : SG_Cm_listPattern) (hSg : HS_Cm_listPattern l s0 b0 D cB cI cJ cZ cS cP d S) (hf : fm_Cm_listPattern N S u v0 v1 = some x) : Met l y_Cm_listPattern (wd_ws y_Cm_listPattern b_Cm_listPattern 3 none) (rg_Cm_listPattern (d + 1)) (xPc s0 b0 D cB cI cJ cZ cS cP ad u sz [.ref (ad v0), .int v1]) (xQ0 D cB cI cJ cZ cS cP (xA cB cI cJ cZ cS cP ad u sz) ad x.1 none) 0 0 (xA cB cI cJ cZ cS cP ad u sz) :=
  xMet (by decide) rfl (Nat.le_of_ble_eq_true rfl) (fun p e s m below meth c ls hsz hnm C0 hP hD hS hl =>
    wb_Cm_listPattern_0 C0 hE N S hSg (gg_Cm_listPattern N S N) (wg_Cm_listPattern C0 hE N S hSg N) u _ _ x hf s.heap [] hP hD hS ls (lv_sub hl [0, 1] rfl))
theorem rm_Cm_pattern_Co_put {d : Nat} : (rm_Co_put).frames + 1 ≤ (rg_Cm_listPattern (d + 1)).frames ∧ 8 + (2 + 11) + (rm_Co_put).locals ≤ (rg_Cm_listPattern (d + 1)).locals := by
  show 0 + 1 ≤ 3 + (d + 1) ∧ 8 + (2 + 11) + 0 ≤ 66 + 22 * (d + 1)
  omega
theorem rm_Cm_pattern_Cm_term {d : Nat} : (rm_Cm_term).frames + 1 ≤ (rg_Cm_listPattern (d + 1)).frames ∧ 8 + (3 + 11) + (rm_Cm_term).locals ≤ (rg_Cm_listPattern (d + 1)).locals := by
  show 1 + 1 ≤ 3 + (d + 1) ∧ 8 + (3 + 11) + 21 ≤ 66 + 22 * (d + 1)
  omega
theorem rm_Cm_pattern_Cm_string {d : Nat} : (rm_Cm_string).frames + 1 ≤ (rg_Cm_listPattern (d + 1)).frames ∧ 8 + (5 + 11) + (rm_Cm_string).locals ≤ (rg_Cm_listPattern (d + 1)).locals := by
  show 1 + 1 ≤ 3 + (d + 1) ∧ 8 + (5 + 11) + 21 ≤ 66 + 22 * (d + 1)
  omega
theorem rm_Cm_pattern_Cm_nameInPattern {d : Nat} : (rm_Cm_nameInPattern).frames + 1 ≤ (rg_Cm_listPattern (d + 1)).frames ∧ 8 + (3 + 11) + (rm_Cm_nameInPattern).locals ≤ (rg_Cm_listPattern (d + 1)).locals := by
  show 2 + 1 ≤ 3 + (d + 1) ∧ 8 + (3 + 11) + 44 ≤ 66 + 22 * (d + 1)
  omega
theorem rm_Cm_pattern_Cm_pattern {d : Nat} : (rg_Cm_listPattern d).frames + 1 ≤ (rg_Cm_listPattern (d + 1)).frames ∧ 8 + (3 + 11) + (rg_Cm_listPattern d).locals ≤ (rg_Cm_listPattern (d + 1)).locals := by
  show 3 + d + 1 ≤ 3 + (d + 1) ∧ 8 + (3 + 11) + (66 + 22 * d) ≤ 66 + 22 * (d + 1)
  omega
theorem rm_Cm_pattern_Cm_listPattern {d : Nat} : (rg_Cm_listPattern d).frames + 1 ≤ (rg_Cm_listPattern (d + 1)).frames ∧ 8 + (3 + 11) + (rg_Cm_listPattern d).locals ≤ (rg_Cm_listPattern (d + 1)).locals := by
  show 3 + d + 1 ≤ 3 + (d + 1) ∧ 8 + (3 + 11) + (66 + 22 * d) ≤ 66 + 22 * (d + 1)
  omega
def fb_Cm_pattern_298 (N : Nat) (S : SG_Cm_listPattern) (G : (CS → Nat → Int32 → Option (CS × Unit))) (u : CS) : Option (CS × Unit) := some (u, ())
set_option maxRecDepth 100000 in
set_option maxHeartbeats 4000000 in
theorem wb_Cm_pattern_298 {p : Program} {l : Launch} {e : Env} {s : State} {m : MethodId} {args : Array Value} {below : List Frame} {meth : Method} {c : Code} {s0 : State} {b0 : Nat} {D : va_G} {cB cI cJ cZ cS cP : ClassId} {A : Nat → Prop} {sk sv : Nat → Nat} {d : Nat} {ad : Nat → Nat} (C0 : XCx p s s0 b0 m args meth c R_Cm b_Cm_pattern 3 none D cB cI cJ cZ cS cP A) (hE : ENV s0 b0 sk sv) (N : Nat) (S : SG_Cm_listPattern) (hSg : HS_Cm_listPattern l s0 b0 D cB cI cJ cZ cS cP d S) (G : (CS → Nat → Int32 → Option (CS × Unit))) (hG : (∀ (u : CS) (v0 : Nat) (v2 : Int32) (x : CS × Unit), G u v0 v2 = some x → ∀ (H : Heap) (locs : List Loc), va_P D cls (wC cB cI cJ cZ cS cP ad u) H → va_D A (wC cB cI cJ cZ cS cP ad u) → va_S A s.heap H locs → ∀ (ls : Array Slot), lv_has ls 3 [(0, .ref (ad v0)), (2, .int v2)] → W p l e (rg_Cm_listPattern (d + 1)) s m args below meth c H locs 0 0 (MQ below (xQ0 D cB cI cJ cZ cS cP A ad x.1 none) args s 0 0 A) (F0 m 268 ls []))) : ∀ (u : CS) (x : CS × Unit), fb_Cm_pattern_298 N S G u = some x → ∀ (H : Heap) (locs : List Loc), va_P D cls (wC cB cI cJ cZ cS cP ad u) H → va_D A (wC cB cI cJ cZ cS cP ad u) → va_S A s.heap H locs → ∀ (ls : Array Slot), lv_has ls 3 [] → W p l e (rg_Cm_listPattern (d + 1)) s m args below meth c H locs 0 0 (MQ below (xQ0 D cB cI cJ cZ cS cP A ad x.1 none) args s 0 0 A) (F0 m 298 ls []) := by
  intro u x hf H locs hP hD hS ls hl
  obtain ⟨hx, hb, hr, hml, ht, hown, hK, hA, hlocks, hA0, hO, hbs⟩ := id C0
  unfold fb_Cm_pattern_298 at hf
  exact xr0_v C0 hP hD hS hf d_Cm_pattern_298
def fb_Cm_pattern_268 (N : Nat) (S : SG_Cm_listPattern) (G : (CS → Nat → Int32 → Option (CS × Unit))) (u : CS) (v0 : Nat) (v2 : Int32) : Option (CS × Unit) := br (decide (v2 = 0)) (fb_Cm_pattern_298 N S G u) (ck (isO u v0 3) (bx (S.2 u v0 v2) (fun u1 r1 => bo (gR u1 v0 3 1) (fun r2 => bo r2 (fun j3 => bo (gR u1 j3 10 5) (fun r4 => bo r4 (fun j5 => bo (aI u1 j5 4 v2) (fun r6 => G u1 (v0) (r6)))))))))
set_option maxRecDepth 100000 in
set_option maxHeartbeats 4000000 in
theorem wb_Cm_pattern_268 {p : Program} {l : Launch} {e : Env} {s : State} {m : MethodId} {args : Array Value} {below : List Frame} {meth : Method} {c : Code} {s0 : State} {b0 : Nat} {D : va_G} {cB cI cJ cZ cS cP : ClassId} {A : Nat → Prop} {sk sv : Nat → Nat} {d : Nat} {ad : Nat → Nat} (C0 : XCx p s s0 b0 m args meth c R_Cm b_Cm_pattern 3 none D cB cI cJ cZ cS cP A) (hE : ENV s0 b0 sk sv) (N : Nat) (S : SG_Cm_listPattern) (hSg : HS_Cm_listPattern l s0 b0 D cB cI cJ cZ cS cP d S) (G : (CS → Nat → Int32 → Option (CS × Unit))) (hG : (∀ (u : CS) (v0 : Nat) (v2 : Int32) (x : CS × Unit), G u v0 v2 = some x → ∀ (H : Heap) (locs : List Loc), va_P D cls (wC cB cI cJ cZ cS cP ad u) H → va_D A (wC cB cI cJ cZ cS cP ad u) → va_S A s.heap H locs → ∀ (ls : Array Slot), lv_has ls 3 [(0, .ref (ad v0)), (2, .int v2)] → W p l e (rg_Cm_listPattern (d + 1)) s m args below meth c H locs 0 0 (MQ below (xQ0 D cB cI cJ cZ cS cP A ad x.1 none) args s 0 0 A) (F0 m 268 ls []))) : ∀ (u : CS) (v0 : Nat) (v2 : Int32) (x : CS × Unit), fb_Cm_pattern_268 N S G u v0 v2 = some x → ∀ (H : Heap) (locs : List Loc), va_P D cls (wC cB cI cJ cZ cS cP ad u) H → va_D A (wC cB cI cJ cZ cS cP ad u) → va_S A s.heap H locs → ∀ (ls : Array Slot), lv_has ls 3 [(0, .ref (ad v0)), (2, .int v2)] → W p l e (rg_Cm_listPattern (d + 1)) s m args below meth c H locs 0 0 (MQ below (xQ0 D cB cI cJ cZ cS cP A ad x.1 none) args s 0 0 A) (F0 m 268 ls []) := by
  intro u v0 v2 x hf H locs hP hD hS ls hl
  obtain ⟨hx, hb, hr, hml, ht, hown, hK, hA, hlocks, hA0, hO, hbs⟩ := id C0
  unfold fb_Cm_pattern_268 at hf
  refine lv_iload_n hx hb d_Cm_pattern_268 rfl (lv_at hl 1 rfl) ?_
  refine lv_if_eq (tgt := 290) hx hb d_Cm_pattern_269 (by decide) (fun hc => ?_) (fun hc => ?_)
  · rw [br_p _ hc] at hf
    refine lv_goto (tgt := 298) hx hb d_Cm_pattern_290 (by decide) ?_
    exact wb_Cm_pattern_298 C0 hE N S hSg G hG _ _ hf H locs hP hD hS ls (lv_sub hl [] rfl)
  · rw [br_n _ hc] at hf
    refine lv_aload_n hx hb d_Cm_pattern_272 rfl (lv_at hl 0 rfl) ?_
    refine lv_iload_n hx hb d_Cm_pattern_273 rfl (lv_at hl 1 rfl) ?_
    obtain ⟨hO9, hf⟩ := ck_some hf
    obtain ⟨u1, r1, hc1, hf⟩ := bx_some hf
    refine xV0 (i := v0) (As := [.int v2]) (rest := []) C0 hP hD hS ck_Cm hO9 (hSg.2 _ _ _ _ _ _ hc1) k_Cm_pattern (wd_of 1158 (by decide +kernel) rfl) hi_Cm_pattern hs_Cm_pattern hini_Cm rfl rfl hd_Cm_pattern rfl rm_Cm_pattern_Cm_pattern hl.1 (Nat.le_of_ble_eq_true rfl) d_Cm_pattern_274 rfl ⟨Nat.zero_le _, Nat.zero_le _⟩ (fun H locs hP hD hS => ?_)
    refine lv_aload_n hx hb d_Cm_pattern_277 rfl (lv_at hl 0 rfl) ?_
    obtain ⟨r2, g2, hf⟩ := bo_some hf
    refine xg_R (i := v0) (k := 1) hx hb ht hown ck_Cm hK hP (by decide) fk_Cm_39 g2 d_Cm_pattern_278 ?_
    obtain ⟨j3, ej3, hf⟩ := bo_some hf
    rw [ej3]
    obtain ⟨r4, g4, hf⟩ := bo_some hf
    refine xg_R (i := j3) (k := 5) hx hb ht hown ck_Tr hK hP (by decide) fk_Cm_139 g4 d_Cm_pattern_281 ?_
    refine lv_iload_n hx hb d_Cm_pattern_284 rfl (lv_at hl 1 rfl) ?_
    obtain ⟨j5, ej5, hf⟩ := bo_some hf
    rw [ej5]
    obtain ⟨r6, g6, hf⟩ := bo_some hf
    refine xl_I (i := j5) hx hb hK hP g6 d_Cm_pattern_285 ?_
    refine lv_istore_n (lv' := [(2, .int r6), (0, .ref (ad v0))]) hx hb d_Cm_pattern_286 rfl hl (by decide) (by first | rfl | simp [List.filter, cat_rf]) (fun ls hl => ?_)
    refine lv_goto (tgt := 268) hx hb d_Cm_pattern_287 (by decide) ?_
    exact hG _ _ _ _ hf H locs hP hD hS ls (lv_sub hl [1, 0] rfl)
def fb_Cm_pattern_0 (N : Nat) (S : SG_Cm_listPattern) (G : (CS → Nat → Int32 → Option (CS × Unit))) (u : CS) (v0 : Nat) (v1 : Int32) : Option (CS × Unit) := bo (gR u v0 3 1) (fun r7 => bo r7 (fun j8 => bo (gR u j8 10 0) (fun r9 => bo r9 (fun j10 => bo (aI u j10 4 v1) (fun r11 => br (decide (r11 = 1)) (bo (gR u v0 3 2) (fun r12 => bo r12 (fun j14 => ck (isO u j14 2) (bx (fm_Co_put N u j14 1) (fun u13 r13 => bo (gR u13 v0 3 1) (fun r15 => bo r15 (fun j16 => bo (gR u13 j16 10 2) (fun r17 => bo r17 (fun j18 => bo (aI u13 j18 4 v1) (fun r19 => ck (isO u13 v0 3) (bx (fm_Cm_term N u13 v0 0 r19) (fun u20 r20 => fb_Cm_pattern_298 N S G u20)))))))))))) (br (decide (r11 = 2)) (bo (gR u v0 3 2) (fun r21 => bo r21 (fun j23 => ck (isO u j23 2) (bx (fm_Co_put N u j23 1) (fun u22 r22 => bo (gR u22 v0 3 1) (fun r24 => bo r24 (fun j25 => bo (gR u22 j25 10 2) (fun r26 => bo r26 (fun j27 => bo (aI u22 j27 4 v1) (fun r28 => ck (isO u22 v0 3) (bx (fm_Cm_term N u22 v0 1 r28) (fun u29 r29 => fb_Cm_pattern_298 N S G u29)))))))))))) (br (decide (r11 = 3)) (bo (gR u v0 3 1) (fun r30 => bo r30 (fun j31 => bo (gR u j31 10 2) (fun r32 => bo r32 (fun j33 => bo (aI u j33 4 v1) (fun r34 => bo (gR u v0 3 1) (fun r35 => bo r35 (fun j36 => bo (gR u j36 10 1) (fun r37 => bo r37 (fun j38 => bo (aI u j38 4 v1) (fun r39 => ck (isO u v0 3) (bx (fm_Cm_nameInPattern N u v0 r34 r39) (fun u40 r40 => fb_Cm_pattern_298 N S G u40))))))))))))) (br (decide (r11 = 4)) (bo (gR u v0 3 2) (fun r41 => bo r41 (fun j43 => ck (isO u j43 2) (bx (fm_Co_put N u j43 2) (fun u42 r42 => ck (isO u42 v0 3) (bx (fm_Cm_string N u42 v0 v1) (fun u44 r44 => fb_Cm_pattern_298 N S G u44))))))) (br (decide (r11 = 5)) (bo (gR u v0 3 1) (fun r45 => bo r45 (fun j46 => bo (gR u j46 10 2) (fun r47 => bo r47 (fun j48 => bo (aI u j48 4 v1) (fun r49 => ck (isO u v0 3) (bx (S.2 u v0 r49) (fun u50 r50 => fb_Cm_pattern_298 N S G u50)))))))) (br (decide (r11 = 6)) (bo (gR u v0 3 2) (fun r51 => bo r51 (fun j53 => ck (isO u j53 2) (bx (fm_Co_put N u j53 6) (fun u52 r52 => bo (gR u52 v0 3 2) (fun r54 => bo (gR u52 v0 3 1) (fun r55 => bo r55 (fun j56 => bo (gR u52 j56 10 3) (fun r57 => bo r57 (fun j58 => bo (aI u52 j58 4 v1) (fun r59 => bo r54 (fun j61 => ck (isO u52 j61 2) (bx (fm_Co_put N u52 j61 r59) (fun u60 r60 => bo (gR u60 v0 3 1) (fun r62 => bo r62 (fun j63 => bo (gR u60 j63 10 2) (fun r64 => bo r64 (fun j65 => bo (aI u60 j65 4 v1) (fun r66 => G u60 (v0) (r66)))))))))))))))))))) (br (decide (r11 = 7)) (ck (isO u v0 3) (bx (S.1 u v0 v1) (fun u67 r67 => fb_Cm_pattern_298 N S G u67))) (br (decide (r11 = 8)) (ck (isO u v0 3) (bx (S.1 u v0 v1) (fun u68 r68 => fb_Cm_pattern_298 N S G u68))) (br (decide (r11 = 9)) (ck (isO u v0 3) (bx (S.1 u v0 v1) (fun u69 r69 => fb_Cm_pattern_298 N S G u69))) (br (decide (r11 = 10)) (ck (isO u v0 3) (bx (S.1 u v0 v1) (fun u70 r70 => fb_Cm_pattern_298 N S G u70))) (br (decide (r11 = 11)) (ck (isO u v0 3) (bx (S.1 u v0 v1) (fun u71 r71 => fb_Cm_pattern_298 N S G u71))) (br (decide (r11 = 12)) (ck (isO u v0 3) (bx (S.1 u v0 v1) (fun u72 r72 => fb_Cm_pattern_298 N S G u72))) (br (decide (r11 = 13)) (ck (isO u v0 3) (bx (S.1 u v0 v1) (fun u73 r73 => fb_Cm_pattern_298 N S G u73))) (br (decide (r11 = 14)) (ck (isO u v0 3) (bx (S.1 u v0 v1) (fun u74 r74 => fb_Cm_pattern_298 N S G u74))) (br (decide (r11 = 15)) (ck (isO u v0 3) (bx (S.1 u v0 v1) (fun u75 r75 => fb_Cm_pattern_298 N S G u75))) (br (decide (r11 = 16)) (ck (isO u v0 3) (bx (S.1 u v0 v1) (fun u76 r76 => fb_Cm_pattern_298 N S G u76))) (br (decide (r11 = 17)) (bo (gR u v0 3 2) (fun r77 => bo r77 (fun j79 => ck (isO u j79 2) (bx (fm_Co_put N u j79 1) (fun u78 r78 => bo (gR u78 v0 3 1) (fun r80 => bo r80 (fun j81 => bo (gR u78 j81 10 2) (fun r82 => bo (gR u78 v0 3 1) (fun r83 => bo r83 (fun j84 => bo (gR u78 j84 10 2) (fun r85 => bo r85 (fun j86 => bo (aI u78 j86 4 v1) (fun r87 => bo r82 (fun j88 => bo (aI u78 j88 4 r87) (fun r89 => ck (isO u78 v0 3) (bx (fm_Cm_term N u78 v0 0 (-r89)) (fun u90 r90 => fb_Cm_pattern_298 N S G u90))))))))))))))))) (ck (isO u v0 3) (bx (S.1 u v0 v1) (fun u91 r91 => fb_Cm_pattern_298 N S G u91))))))))))))))))))))))))
set_option maxRecDepth 100000 in
set_option maxHeartbeats 4000000 in
theorem wb_Cm_pattern_0 {p : Program} {l : Launch} {e : Env} {s : State} {m : MethodId} {args : Array Value} {below : List Frame} {meth : Method} {c : Code} {s0 : State} {b0 : Nat} {D : va_G} {cB cI cJ cZ cS cP : ClassId} {A : Nat → Prop} {sk sv : Nat → Nat} {d : Nat} {ad : Nat → Nat} (C0 : XCx p s s0 b0 m args meth c R_Cm b_Cm_pattern 3 none D cB cI cJ cZ cS cP A) (hE : ENV s0 b0 sk sv) (N : Nat) (S : SG_Cm_listPattern) (hSg : HS_Cm_listPattern l s0 b0 D cB cI cJ cZ cS cP d S) (G : (CS → Nat → Int32 → Option (CS × Unit))) (hG : (∀ (u : CS) (v0 : Nat) (v2 : Int32) (x : CS × Unit), G u v0 v2 = some x → ∀ (H : Heap) (locs : List Loc), va_P D cls (wC cB cI cJ cZ cS cP ad u) H → va_D A (wC cB cI cJ cZ cS cP ad u) → va_S A s.heap H locs → ∀ (ls : Array Slot), lv_has ls 3 [(0, .ref (ad v0)), (2, .int v2)] → W p l e (rg_Cm_listPattern (d + 1)) s m args below meth c H locs 0 0 (MQ below (xQ0 D cB cI cJ cZ cS cP A ad x.1 none) args s 0 0 A) (F0 m 268 ls []))) : ∀ (u : CS) (v0 : Nat) (v1 : Int32) (x : CS × Unit), fb_Cm_pattern_0 N S G u v0 v1 = some x → ∀ (H : Heap) (locs : List Loc), va_P D cls (wC cB cI cJ cZ cS cP ad u) H → va_D A (wC cB cI cJ cZ cS cP ad u) → va_S A s.heap H locs → ∀ (ls : Array Slot), lv_has ls 3 [(0, .ref (ad v0)), (1, .int v1)] → W p l e (rg_Cm_listPattern (d + 1)) s m args below meth c H locs 0 0 (MQ below (xQ0 D cB cI cJ cZ cS cP A ad x.1 none) args s 0 0 A) (F0 m 0 ls []) := by
  intro u v0 v1 x hf H locs hP hD hS ls hl
  obtain ⟨hx, hb, hr, hml, ht, hown, hK, hA, hlocks, hA0, hO, hbs⟩ := id C0
  unfold fb_Cm_pattern_0 at hf
  refine lv_aload_n hx hb d_Cm_pattern_0 rfl (lv_at hl 0 rfl) ?_
  obtain ⟨r7, g7, hf⟩ := bo_some hf
  refine xg_R (i := v0) (k := 1) hx hb ht hown ck_Cm hK hP (by decide) fk_Cm_39 g7 d_Cm_pattern_1 ?_
  obtain ⟨j8, ej8, hf⟩ := bo_some hf
  rw [ej8]
  obtain ⟨r9, g9, hf⟩ := bo_some hf
  refine xg_R (i := j8) (k := 0) hx hb ht hown ck_Tr hK hP (by decide) fk_Cm_177 g9 d_Cm_pattern_4 ?_
  refine lv_iload_n hx hb d_Cm_pattern_7 rfl (lv_at hl 1 rfl) ?_
  obtain ⟨j10, ej10, hf⟩ := bo_some hf
  rw [ej10]
  obtain ⟨r11, g11, hf⟩ := bo_some hf
  refine xl_I (i := j10) hx hb hK hP g11 d_Cm_pattern_8 ?_
  by_cases hc1 : r11 = 1
  · rw [br_p _ hc1] at hf
    refine lv_tableIn (tgt := 108) hx hb d_Cm_pattern_9 (by rw [hc1]; decide) (by rw [hc1]; decide) (by rw [hc1]; rfl) (by decide) ?_
    refine lv_aload_n hx hb d_Cm_pattern_108 rfl (lv_at hl 0 rfl) ?_
    obtain ⟨r12, g12, hf⟩ := bo_some hf
    refine xg_R (i := v0) (k := 2) hx hb ht hown ck_Cm hK hP (by decide) fk_Cm_43 g12 d_Cm_pattern_109 ?_
    refine lv_iconst (v := 1) hx hb d_Cm_pattern_112 (by decide) ?_
    obtain ⟨j14, ej14, hf⟩ := bo_some hf
    rw [ej14]
    obtain ⟨hO9, hf⟩ := ck_some hf
    obtain ⟨u13, r13, hc13, hf⟩ := bx_some hf
    refine xV0 (i := j14) (As := [.int 1]) (rest := []) C0 hP hD hS ck_Co hO9 (c_Co_put N hc13) k_Co_put (wd_of 1149 (by decide +kernel) rfl) hi_Co_put hs_Co_put hini_Co rfl rfl hd_Co_put rfl rm_Cm_pattern_Co_put hl.1 (Nat.le_of_ble_eq_true rfl) d_Cm_pattern_113 rfl ⟨Nat.zero_le _, Nat.zero_le _⟩ (fun H locs hP hD hS => ?_)
    refine lv_aload_n hx hb d_Cm_pattern_116 rfl (lv_at hl 0 rfl) ?_
    refine lv_iconst (v := 0) hx hb d_Cm_pattern_117 (by decide) ?_
    refine lv_aload_n hx hb d_Cm_pattern_118 rfl (lv_at hl 0 rfl) ?_
    obtain ⟨r15, g15, hf⟩ := bo_some hf
    refine xg_R (i := v0) (k := 1) hx hb ht hown ck_Cm hK hP (by decide) fk_Cm_39 g15 d_Cm_pattern_119 ?_
    obtain ⟨j16, ej16, hf⟩ := bo_some hf
    rw [ej16]
    obtain ⟨r17, g17, hf⟩ := bo_some hf
    refine xg_R (i := j16) (k := 2) hx hb ht hown ck_Tr hK hP (by decide) fk_Cm_125 g17 d_Cm_pattern_122 ?_
    refine lv_iload_n hx hb d_Cm_pattern_125 rfl (lv_at hl 1 rfl) ?_
    obtain ⟨j18, ej18, hf⟩ := bo_some hf
    rw [ej18]
    obtain ⟨r19, g19, hf⟩ := bo_some hf
    refine xl_I (i := j18) hx hb hK hP g19 d_Cm_pattern_126 ?_
    obtain ⟨hO9, hf⟩ := ck_some hf
    obtain ⟨u20, r20, hc20, hf⟩ := bx_some hf
    refine xV0 (i := v0) (As := [.int 0, .int r19]) (rest := []) C0 hP hD hS ck_Cm hO9 (c_Cm_term N hc20) k_Cm_term (wd_of 1162 (by decide +kernel) rfl) hi_Cm_term hs_Cm_term hini_Cm rfl rfl hd_Cm_term rfl rm_Cm_pattern_Cm_term hl.1 (Nat.le_of_ble_eq_true rfl) d_Cm_pattern_127 rfl ⟨Nat.zero_le _, Nat.zero_le _⟩ (fun H locs hP hD hS => ?_)
    refine lv_goto (tgt := 298) hx hb d_Cm_pattern_130 (by decide) ?_
    exact wb_Cm_pattern_298 C0 hE N S hSg G hG _ _ hf H locs hP hD hS ls (lv_sub hl [] rfl)
  · rw [br_n _ hc1] at hf
    by_cases hc2 : r11 = 2
    · rw [br_p _ hc2] at hf
      refine lv_tableIn (tgt := 167) hx hb d_Cm_pattern_9 (by rw [hc2]; decide) (by rw [hc2]; decide) (by rw [hc2]; rfl) (by decide) ?_
      refine lv_aload_n hx hb d_Cm_pattern_167 rfl (lv_at hl 0 rfl) ?_
      obtain ⟨r21, g21, hf⟩ := bo_some hf
      refine xg_R (i := v0) (k := 2) hx hb ht hown ck_Cm hK hP (by decide) fk_Cm_43 g21 d_Cm_pattern_168 ?_
      refine lv_iconst (v := 1) hx hb d_Cm_pattern_171 (by decide) ?_
      obtain ⟨j23, ej23, hf⟩ := bo_some hf
      rw [ej23]
      obtain ⟨hO9, hf⟩ := ck_some hf
      obtain ⟨u22, r22, hc22, hf⟩ := bx_some hf
      refine xV0 (i := j23) (As := [.int 1]) (rest := []) C0 hP hD hS ck_Co hO9 (c_Co_put N hc22) k_Co_put (wd_of 1149 (by decide +kernel) rfl) hi_Co_put hs_Co_put hini_Co rfl rfl hd_Co_put rfl rm_Cm_pattern_Co_put hl.1 (Nat.le_of_ble_eq_true rfl) d_Cm_pattern_172 rfl ⟨Nat.zero_le _, Nat.zero_le _⟩ (fun H locs hP hD hS => ?_)
      refine lv_aload_n hx hb d_Cm_pattern_175 rfl (lv_at hl 0 rfl) ?_
      refine lv_iconst (v := 1) hx hb d_Cm_pattern_176 (by decide) ?_
      refine lv_aload_n hx hb d_Cm_pattern_177 rfl (lv_at hl 0 rfl) ?_
      obtain ⟨r24, g24, hf⟩ := bo_some hf
      refine xg_R (i := v0) (k := 1) hx hb ht hown ck_Cm hK hP (by decide) fk_Cm_39 g24 d_Cm_pattern_178 ?_
      obtain ⟨j25, ej25, hf⟩ := bo_some hf
      rw [ej25]
      obtain ⟨r26, g26, hf⟩ := bo_some hf
      refine xg_R (i := j25) (k := 2) hx hb ht hown ck_Tr hK hP (by decide) fk_Cm_125 g26 d_Cm_pattern_181 ?_
      refine lv_iload_n hx hb d_Cm_pattern_184 rfl (lv_at hl 1 rfl) ?_
      obtain ⟨j27, ej27, hf⟩ := bo_some hf
      rw [ej27]
      obtain ⟨r28, g28, hf⟩ := bo_some hf
      refine xl_I (i := j27) hx hb hK hP g28 d_Cm_pattern_185 ?_
      obtain ⟨hO9, hf⟩ := ck_some hf
      obtain ⟨u29, r29, hc29, hf⟩ := bx_some hf
      refine xV0 (i := v0) (As := [.int 1, .int r28]) (rest := []) C0 hP hD hS ck_Cm hO9 (c_Cm_term N hc29) k_Cm_term (wd_of 1162 (by decide +kernel) rfl) hi_Cm_term hs_Cm_term hini_Cm rfl rfl hd_Cm_term rfl rm_Cm_pattern_Cm_term hl.1 (Nat.le_of_ble_eq_true rfl) d_Cm_pattern_186 rfl ⟨Nat.zero_le _, Nat.zero_le _⟩ (fun H locs hP hD hS => ?_)
      refine lv_goto (tgt := 298) hx hb d_Cm_pattern_189 (by decide) ?_
      exact wb_Cm_pattern_298 C0 hE N S hSg G hG _ _ hf H locs hP hD hS ls (lv_sub hl [] rfl)
    · rw [br_n _ hc2] at hf
      by_cases hc3 : r11 = 3
      · rw [br_p _ hc3] at hf
        refine lv_tableIn (tgt := 208) hx hb d_Cm_pattern_9 (by rw [hc3]; decide) (by rw [hc3]; decide) (by rw [hc3]; rfl) (by decide) ?_
        refine lv_aload_n hx hb d_Cm_pattern_208 rfl (lv_at hl 0 rfl) ?_
        refine lv_aload_n hx hb d_Cm_pattern_209 rfl (lv_at hl 0 rfl) ?_
        obtain ⟨r30, g30, hf⟩ := bo_some hf
        refine xg_R (i := v0) (k := 1) hx hb ht hown ck_Cm hK hP (by decide) fk_Cm_39 g30 d_Cm_pattern_210 ?_
        obtain ⟨j31, ej31, hf⟩ := bo_some hf
        rw [ej31]
        obtain ⟨r32, g32, hf⟩ := bo_some hf
        refine xg_R (i := j31) (k := 2) hx hb ht hown ck_Tr hK hP (by decide) fk_Cm_125 g32 d_Cm_pattern_213 ?_
        refine lv_iload_n hx hb d_Cm_pattern_216 rfl (lv_at hl 1 rfl) ?_
        obtain ⟨j33, ej33, hf⟩ := bo_some hf
        rw [ej33]
        obtain ⟨r34, g34, hf⟩ := bo_some hf
        refine xl_I (i := j33) hx hb hK hP g34 d_Cm_pattern_217 ?_
        refine lv_aload_n hx hb d_Cm_pattern_218 rfl (lv_at hl 0 rfl) ?_
        obtain ⟨r35, g35, hf⟩ := bo_some hf
        refine xg_R (i := v0) (k := 1) hx hb ht hown ck_Cm hK hP (by decide) fk_Cm_39 g35 d_Cm_pattern_219 ?_
        obtain ⟨j36, ej36, hf⟩ := bo_some hf
        rw [ej36]
        obtain ⟨r37, g37, hf⟩ := bo_some hf
        refine xg_R (i := j36) (k := 1) hx hb ht hown ck_Tr hK hP (by decide) fk_Cm_93 g37 d_Cm_pattern_222 ?_
        refine lv_iload_n hx hb d_Cm_pattern_225 rfl (lv_at hl 1 rfl) ?_
        obtain ⟨j38, ej38, hf⟩ := bo_some hf
        rw [ej38]
        obtain ⟨r39, g39, hf⟩ := bo_some hf
        refine xl_I (i := j38) hx hb hK hP g39 d_Cm_pattern_226 ?_
        obtain ⟨hO9, hf⟩ := ck_some hf
        obtain ⟨u40, r40, hc40, hf⟩ := bx_some hf
        refine xV0 (i := v0) (As := [.int r34, .int r39]) (rest := []) C0 hP hD hS ck_Cm hO9 (c_Cm_nameInPattern N hE hc40) k_Cm_nameInPattern (wd_of 1171 (by decide +kernel) rfl) hi_Cm_nameInPattern hs_Cm_nameInPattern hini_Cm rfl rfl hd_Cm_nameInPattern rfl rm_Cm_pattern_Cm_nameInPattern hl.1 (Nat.le_of_ble_eq_true rfl) d_Cm_pattern_227 rfl ⟨Nat.zero_le _, Nat.zero_le _⟩ (fun H locs hP hD hS => ?_)
        refine lv_goto (tgt := 298) hx hb d_Cm_pattern_230 (by decide) ?_
        exact wb_Cm_pattern_298 C0 hE N S hSg G hG _ _ hf H locs hP hD hS ls (lv_sub hl [] rfl)
      · rw [br_n _ hc3] at hf
        by_cases hc4 : r11 = 4
        · rw [br_p _ hc4] at hf
          refine lv_tableIn (tgt := 192) hx hb d_Cm_pattern_9 (by rw [hc4]; decide) (by rw [hc4]; decide) (by rw [hc4]; rfl) (by decide) ?_
          refine lv_aload_n hx hb d_Cm_pattern_192 rfl (lv_at hl 0 rfl) ?_
          obtain ⟨r41, g41, hf⟩ := bo_some hf
          refine xg_R (i := v0) (k := 2) hx hb ht hown ck_Cm hK hP (by decide) fk_Cm_43 g41 d_Cm_pattern_193 ?_
          refine lv_iconst (v := 2) hx hb d_Cm_pattern_196 (by decide) ?_
          obtain ⟨j43, ej43, hf⟩ := bo_some hf
          rw [ej43]
          obtain ⟨hO9, hf⟩ := ck_some hf
          obtain ⟨u42, r42, hc42, hf⟩ := bx_some hf
          refine xV0 (i := j43) (As := [.int 2]) (rest := []) C0 hP hD hS ck_Co hO9 (c_Co_put N hc42) k_Co_put (wd_of 1149 (by decide +kernel) rfl) hi_Co_put hs_Co_put hini_Co rfl rfl hd_Co_put rfl rm_Cm_pattern_Co_put hl.1 (Nat.le_of_ble_eq_true rfl) d_Cm_pattern_197 rfl ⟨Nat.zero_le _, Nat.zero_le _⟩ (fun H locs hP hD hS => ?_)
          refine lv_aload_n hx hb d_Cm_pattern_200 rfl (lv_at hl 0 rfl) ?_
          refine lv_iload_n hx hb d_Cm_pattern_201 rfl (lv_at hl 1 rfl) ?_
          obtain ⟨hO9, hf⟩ := ck_some hf
          obtain ⟨u44, r44, hc44, hf⟩ := bx_some hf
          refine xV0 (i := v0) (As := [.int v1]) (rest := []) C0 hP hD hS ck_Cm hO9 (c_Cm_string N hc44) k_Cm_string (wd_of 1166 (by decide +kernel) rfl) hi_Cm_string hs_Cm_string hini_Cm rfl rfl hd_Cm_string rfl rm_Cm_pattern_Cm_string hl.1 (Nat.le_of_ble_eq_true rfl) d_Cm_pattern_202 rfl ⟨Nat.zero_le _, Nat.zero_le _⟩ (fun H locs hP hD hS => ?_)
          refine lv_goto (tgt := 298) hx hb d_Cm_pattern_205 (by decide) ?_
          exact wb_Cm_pattern_298 C0 hE N S hSg G hG _ _ hf H locs hP hD hS ls (lv_sub hl [] rfl)
        · rw [br_n _ hc4] at hf
          by_cases hc5 : r11 = 5
          · rw [br_p _ hc5] at hf
            refine lv_tableIn (tgt := 92) hx hb d_Cm_pattern_9 (by rw [hc5]; decide) (by rw [hc5]; decide) (by rw [hc5]; rfl) (by decide) ?_
            refine lv_aload_n hx hb d_Cm_pattern_92 rfl (lv_at hl 0 rfl) ?_
            refine lv_aload_n hx hb d_Cm_pattern_93 rfl (lv_at hl 0 rfl) ?_
            obtain ⟨r45, g45, hf⟩ := bo_some hf
            refine xg_R (i := v0) (k := 1) hx hb ht hown ck_Cm hK hP (by decide) fk_Cm_39 g45 d_Cm_pattern_94 ?_
            obtain ⟨j46, ej46, hf⟩ := bo_some hf
            rw [ej46]
            obtain ⟨r47, g47, hf⟩ := bo_some hf
            refine xg_R (i := j46) (k := 2) hx hb ht hown ck_Tr hK hP (by decide) fk_Cm_125 g47 d_Cm_pattern_97 ?_
            refine lv_iload_n hx hb d_Cm_pattern_100 rfl (lv_at hl 1 rfl) ?_
            obtain ⟨j48, ej48, hf⟩ := bo_some hf
            rw [ej48]
            obtain ⟨r49, g49, hf⟩ := bo_some hf
            refine xl_I (i := j48) hx hb hK hP g49 d_Cm_pattern_101 ?_
            obtain ⟨hO9, hf⟩ := ck_some hf
            obtain ⟨u50, r50, hc50, hf⟩ := bx_some hf
            refine xV0 (i := v0) (As := [.int r49]) (rest := []) C0 hP hD hS ck_Cm hO9 (hSg.2 _ _ _ _ _ _ hc50) k_Cm_pattern (wd_of 1158 (by decide +kernel) rfl) hi_Cm_pattern hs_Cm_pattern hini_Cm rfl rfl hd_Cm_pattern rfl rm_Cm_pattern_Cm_pattern hl.1 (Nat.le_of_ble_eq_true rfl) d_Cm_pattern_102 rfl ⟨Nat.zero_le _, Nat.zero_le _⟩ (fun H locs hP hD hS => ?_)
            refine lv_goto (tgt := 298) hx hb d_Cm_pattern_105 (by decide) ?_
            exact wb_Cm_pattern_298 C0 hE N S hSg G hG _ _ hf H locs hP hD hS ls (lv_sub hl [] rfl)
          · rw [br_n _ hc5] at hf
            by_cases hc6 : r11 = 6
            · rw [br_p _ hc6] at hf
              refine lv_tableIn (tgt := 233) hx hb d_Cm_pattern_9 (by rw [hc6]; decide) (by rw [hc6]; decide) (by rw [hc6]; rfl) (by decide) ?_
              refine lv_aload_n hx hb d_Cm_pattern_233 rfl (lv_at hl 0 rfl) ?_
              obtain ⟨r51, g51, hf⟩ := bo_some hf
              refine xg_R (i := v0) (k := 2) hx hb ht hown ck_Cm hK hP (by decide) fk_Cm_43 g51 d_Cm_pattern_234 ?_
              refine lv_bipush (v := 6) hx hb d_Cm_pattern_237 (by decide) ?_
              obtain ⟨j53, ej53, hf⟩ := bo_some hf
              rw [ej53]
              obtain ⟨hO9, hf⟩ := ck_some hf
              obtain ⟨u52, r52, hc52, hf⟩ := bx_some hf
              refine xV0 (i := j53) (As := [.int 6]) (rest := []) C0 hP hD hS ck_Co hO9 (c_Co_put N hc52) k_Co_put (wd_of 1149 (by decide +kernel) rfl) hi_Co_put hs_Co_put hini_Co rfl rfl hd_Co_put rfl rm_Cm_pattern_Co_put hl.1 (Nat.le_of_ble_eq_true rfl) d_Cm_pattern_239 rfl ⟨Nat.zero_le _, Nat.zero_le _⟩ (fun H locs hP hD hS => ?_)
              refine lv_aload_n hx hb d_Cm_pattern_242 rfl (lv_at hl 0 rfl) ?_
              obtain ⟨r54, g54, hf⟩ := bo_some hf
              refine xg_R (i := v0) (k := 2) hx hb ht hown ck_Cm hK hP (by decide) fk_Cm_43 g54 d_Cm_pattern_243 ?_
              refine lv_aload_n hx hb d_Cm_pattern_246 rfl (lv_at hl 0 rfl) ?_
              obtain ⟨r55, g55, hf⟩ := bo_some hf
              refine xg_R (i := v0) (k := 1) hx hb ht hown ck_Cm hK hP (by decide) fk_Cm_39 g55 d_Cm_pattern_247 ?_
              obtain ⟨j56, ej56, hf⟩ := bo_some hf
              rw [ej56]
              obtain ⟨r57, g57, hf⟩ := bo_some hf
              refine xg_R (i := j56) (k := 3) hx hb ht hown ck_Tr hK hP (by decide) fk_Cm_171 g57 d_Cm_pattern_250 ?_
              refine lv_iload_n hx hb d_Cm_pattern_253 rfl (lv_at hl 1 rfl) ?_
              obtain ⟨j58, ej58, hf⟩ := bo_some hf
              rw [ej58]
              obtain ⟨r59, g59, hf⟩ := bo_some hf
              refine xl_I (i := j58) hx hb hK hP g59 d_Cm_pattern_254 ?_
              obtain ⟨j61, ej61, hf⟩ := bo_some hf
              rw [ej61]
              obtain ⟨hO9, hf⟩ := ck_some hf
              obtain ⟨u60, r60, hc60, hf⟩ := bx_some hf
              refine xV0 (i := j61) (As := [.int r59]) (rest := []) C0 hP hD hS ck_Co hO9 (c_Co_put N hc60) k_Co_put (wd_of 1149 (by decide +kernel) rfl) hi_Co_put hs_Co_put hini_Co rfl rfl hd_Co_put rfl rm_Cm_pattern_Co_put hl.1 (Nat.le_of_ble_eq_true rfl) d_Cm_pattern_255 rfl ⟨Nat.zero_le _, Nat.zero_le _⟩ (fun H locs hP hD hS => ?_)
              refine lv_aload_n hx hb d_Cm_pattern_258 rfl (lv_at hl 0 rfl) ?_
              obtain ⟨r62, g62, hf⟩ := bo_some hf
              refine xg_R (i := v0) (k := 1) hx hb ht hown ck_Cm hK hP (by decide) fk_Cm_39 g62 d_Cm_pattern_259 ?_
              obtain ⟨j63, ej63, hf⟩ := bo_some hf
              rw [ej63]
              obtain ⟨r64, g64, hf⟩ := bo_some hf
              refine xg_R (i := j63) (k := 2) hx hb ht hown ck_Tr hK hP (by decide) fk_Cm_125 g64 d_Cm_pattern_262 ?_
              refine lv_iload_n hx hb d_Cm_pattern_265 rfl (lv_at hl 1 rfl) ?_
              obtain ⟨j65, ej65, hf⟩ := bo_some hf
              rw [ej65]
              obtain ⟨r66, g66, hf⟩ := bo_some hf
              refine xl_I (i := j65) hx hb hK hP g66 d_Cm_pattern_266 ?_
              refine lv_istore_n (lv' := [(2, .int r66), (0, .ref (ad v0)), (1, .int v1)]) hx hb d_Cm_pattern_267 rfl hl (by decide) (by first | rfl | simp [List.filter, cat_rf]) (fun ls hl => ?_)
              exact hG _ _ _ _ hf H locs hP hD hS ls (lv_sub hl [1, 0] rfl)
            · rw [br_n _ hc6] at hf
              by_cases hc7 : r11 = 7
              · rw [br_p _ hc7] at hf
                refine lv_tableIn (tgt := 293) hx hb d_Cm_pattern_9 (by rw [hc7]; decide) (by rw [hc7]; decide) (by rw [hc7]; rfl) (by decide) ?_
                refine lv_aload_n hx hb d_Cm_pattern_293 rfl (lv_at hl 0 rfl) ?_
                refine lv_iload_n hx hb d_Cm_pattern_294 rfl (lv_at hl 1 rfl) ?_
                obtain ⟨hO9, hf⟩ := ck_some hf
                obtain ⟨u67, r67, hc67, hf⟩ := bx_some hf
                refine xV0 (i := v0) (As := [.int v1]) (rest := []) C0 hP hD hS ck_Cm hO9 (hSg.1 _ _ _ _ _ _ hc67) k_Cm_listPattern (wd_of 1186 (by decide +kernel) rfl) hi_Cm_listPattern hs_Cm_listPattern hini_Cm rfl rfl hd_Cm_listPattern rfl rm_Cm_pattern_Cm_listPattern hl.1 (Nat.le_of_ble_eq_true rfl) d_Cm_pattern_295 rfl ⟨Nat.zero_le _, Nat.zero_le _⟩ (fun H locs hP hD hS => ?_)
                exact wb_Cm_pattern_298 C0 hE N S hSg G hG _ _ hf H locs hP hD hS ls (lv_sub hl [] rfl)
              · rw [br_n _ hc7] at hf
                by_cases hc8 : r11 = 8
                · rw [br_p _ hc8] at hf
                  refine lv_tableIn (tgt := 293) hx hb d_Cm_pattern_9 (by rw [hc8]; decide) (by rw [hc8]; decide) (by rw [hc8]; rfl) (by decide) ?_
                  refine lv_aload_n hx hb d_Cm_pattern_293 rfl (lv_at hl 0 rfl) ?_
                  refine lv_iload_n hx hb d_Cm_pattern_294 rfl (lv_at hl 1 rfl) ?_
                  obtain ⟨hO9, hf⟩ := ck_some hf
                  obtain ⟨u68, r68, hc68, hf⟩ := bx_some hf
                  refine xV0 (i := v0) (As := [.int v1]) (rest := []) C0 hP hD hS ck_Cm hO9 (hSg.1 _ _ _ _ _ _ hc68) k_Cm_listPattern (wd_of 1186 (by decide +kernel) rfl) hi_Cm_listPattern hs_Cm_listPattern hini_Cm rfl rfl hd_Cm_listPattern rfl rm_Cm_pattern_Cm_listPattern hl.1 (Nat.le_of_ble_eq_true rfl) d_Cm_pattern_295 rfl ⟨Nat.zero_le _, Nat.zero_le _⟩ (fun H locs hP hD hS => ?_)
                  exact wb_Cm_pattern_298 C0 hE N S hSg G hG _ _ hf H locs hP hD hS ls (lv_sub hl [] rfl)
                · rw [br_n _ hc8] at hf
                  by_cases hc9 : r11 = 9
                  · rw [br_p _ hc9] at hf
                    refine lv_tableIn (tgt := 293) hx hb d_Cm_pattern_9 (by rw [hc9]; decide) (by rw [hc9]; decide) (by rw [hc9]; rfl) (by decide) ?_
                    refine lv_aload_n hx hb d_Cm_pattern_293 rfl (lv_at hl 0 rfl) ?_
                    refine lv_iload_n hx hb d_Cm_pattern_294 rfl (lv_at hl 1 rfl) ?_
                    obtain ⟨hO9, hf⟩ := ck_some hf
                    obtain ⟨u69, r69, hc69, hf⟩ := bx_some hf
                    refine xV0 (i := v0) (As := [.int v1]) (rest := []) C0 hP hD hS ck_Cm hO9 (hSg.1 _ _ _ _ _ _ hc69) k_Cm_listPattern (wd_of 1186 (by decide +kernel) rfl) hi_Cm_listPattern hs_Cm_listPattern hini_Cm rfl rfl hd_Cm_listPattern rfl rm_Cm_pattern_Cm_listPattern hl.1 (Nat.le_of_ble_eq_true rfl) d_Cm_pattern_295 rfl ⟨Nat.zero_le _, Nat.zero_le _⟩ (fun H locs hP hD hS => ?_)
                    exact wb_Cm_pattern_298 C0 hE N S hSg G hG _ _ hf H locs hP hD hS ls (lv_sub hl [] rfl)
                  · rw [br_n _ hc9] at hf
                    by_cases hc10 : r11 = 10
                    · rw [br_p _ hc10] at hf
                      refine lv_tableIn (tgt := 293) hx hb d_Cm_pattern_9 (by rw [hc10]; decide) (by rw [hc10]; decide) (by rw [hc10]; rfl) (by decide) ?_
                      refine lv_aload_n hx hb d_Cm_pattern_293 rfl (lv_at hl 0 rfl) ?_
                      refine lv_iload_n hx hb d_Cm_pattern_294 rfl (lv_at hl 1 rfl) ?_
                      obtain ⟨hO9, hf⟩ := ck_some hf
                      obtain ⟨u70, r70, hc70, hf⟩ := bx_some hf
                      refine xV0 (i := v0) (As := [.int v1]) (rest := []) C0 hP hD hS ck_Cm hO9 (hSg.1 _ _ _ _ _ _ hc70) k_Cm_listPattern (wd_of 1186 (by decide +kernel) rfl) hi_Cm_listPattern hs_Cm_listPattern hini_Cm rfl rfl hd_Cm_listPattern rfl rm_Cm_pattern_Cm_listPattern hl.1 (Nat.le_of_ble_eq_true rfl) d_Cm_pattern_295 rfl ⟨Nat.zero_le _, Nat.zero_le _⟩ (fun H locs hP hD hS => ?_)
                      exact wb_Cm_pattern_298 C0 hE N S hSg G hG _ _ hf H locs hP hD hS ls (lv_sub hl [] rfl)
                    · rw [br_n _ hc10] at hf
                      by_cases hc11 : r11 = 11
                      · rw [br_p _ hc11] at hf
                        refine lv_tableIn (tgt := 293) hx hb d_Cm_pattern_9 (by rw [hc11]; decide) (by rw [hc11]; decide) (by rw [hc11]; rfl) (by decide) ?_
                        refine lv_aload_n hx hb d_Cm_pattern_293 rfl (lv_at hl 0 rfl) ?_
                        refine lv_iload_n hx hb d_Cm_pattern_294 rfl (lv_at hl 1 rfl) ?_
                        obtain ⟨hO9, hf⟩ := ck_some hf
                        obtain ⟨u71, r71, hc71, hf⟩ := bx_some hf
                        refine xV0 (i := v0) (As := [.int v1]) (rest := []) C0 hP hD hS ck_Cm hO9 (hSg.1 _ _ _ _ _ _ hc71) k_Cm_listPattern (wd_of 1186 (by decide +kernel) rfl) hi_Cm_listPattern hs_Cm_listPattern hini_Cm rfl rfl hd_Cm_listPattern rfl rm_Cm_pattern_Cm_listPattern hl.1 (Nat.le_of_ble_eq_true rfl) d_Cm_pattern_295 rfl ⟨Nat.zero_le _, Nat.zero_le _⟩ (fun H locs hP hD hS => ?_)
                        exact wb_Cm_pattern_298 C0 hE N S hSg G hG _ _ hf H locs hP hD hS ls (lv_sub hl [] rfl)
                      · rw [br_n _ hc11] at hf
                        by_cases hc12 : r11 = 12
                        · rw [br_p _ hc12] at hf
                          refine lv_tableIn (tgt := 293) hx hb d_Cm_pattern_9 (by rw [hc12]; decide) (by rw [hc12]; decide) (by rw [hc12]; rfl) (by decide) ?_
                          refine lv_aload_n hx hb d_Cm_pattern_293 rfl (lv_at hl 0 rfl) ?_
                          refine lv_iload_n hx hb d_Cm_pattern_294 rfl (lv_at hl 1 rfl) ?_
                          obtain ⟨hO9, hf⟩ := ck_some hf
                          obtain ⟨u72, r72, hc72, hf⟩ := bx_some hf
                          refine xV0 (i := v0) (As := [.int v1]) (rest := []) C0 hP hD hS ck_Cm hO9 (hSg.1 _ _ _ _ _ _ hc72) k_Cm_listPattern (wd_of 1186 (by decide +kernel) rfl) hi_Cm_listPattern hs_Cm_listPattern hini_Cm rfl rfl hd_Cm_listPattern rfl rm_Cm_pattern_Cm_listPattern hl.1 (Nat.le_of_ble_eq_true rfl) d_Cm_pattern_295 rfl ⟨Nat.zero_le _, Nat.zero_le _⟩ (fun H locs hP hD hS => ?_)
                          exact wb_Cm_pattern_298 C0 hE N S hSg G hG _ _ hf H locs hP hD hS ls (lv_sub hl [] rfl)
                        · rw [br_n _ hc12] at hf
                          by_cases hc13 : r11 = 13
                          · rw [br_p _ hc13] at hf
                            refine lv_tableIn (tgt := 293) hx hb d_Cm_pattern_9 (by rw [hc13]; decide) (by rw [hc13]; decide) (by rw [hc13]; rfl) (by decide) ?_
                            refine lv_aload_n hx hb d_Cm_pattern_293 rfl (lv_at hl 0 rfl) ?_
                            refine lv_iload_n hx hb d_Cm_pattern_294 rfl (lv_at hl 1 rfl) ?_
                            obtain ⟨hO9, hf⟩ := ck_some hf
                            obtain ⟨u73, r73, hc73, hf⟩ := bx_some hf
                            refine xV0 (i := v0) (As := [.int v1]) (rest := []) C0 hP hD hS ck_Cm hO9 (hSg.1 _ _ _ _ _ _ hc73) k_Cm_listPattern (wd_of 1186 (by decide +kernel) rfl) hi_Cm_listPattern hs_Cm_listPattern hini_Cm rfl rfl hd_Cm_listPattern rfl rm_Cm_pattern_Cm_listPattern hl.1 (Nat.le_of_ble_eq_true rfl) d_Cm_pattern_295 rfl ⟨Nat.zero_le _, Nat.zero_le _⟩ (fun H locs hP hD hS => ?_)
                            exact wb_Cm_pattern_298 C0 hE N S hSg G hG _ _ hf H locs hP hD hS ls (lv_sub hl [] rfl)
                          · rw [br_n _ hc13] at hf
                            by_cases hc14 : r11 = 14
                            · rw [br_p _ hc14] at hf
                              refine lv_tableIn (tgt := 293) hx hb d_Cm_pattern_9 (by rw [hc14]; decide) (by rw [hc14]; decide) (by rw [hc14]; rfl) (by decide) ?_
                              refine lv_aload_n hx hb d_Cm_pattern_293 rfl (lv_at hl 0 rfl) ?_
                              refine lv_iload_n hx hb d_Cm_pattern_294 rfl (lv_at hl 1 rfl) ?_
                              obtain ⟨hO9, hf⟩ := ck_some hf
                              obtain ⟨u74, r74, hc74, hf⟩ := bx_some hf
                              refine xV0 (i := v0) (As := [.int v1]) (rest := []) C0 hP hD hS ck_Cm hO9 (hSg.1 _ _ _ _ _ _ hc74) k_Cm_listPattern (wd_of 1186 (by decide +kernel) rfl) hi_Cm_listPattern hs_Cm_listPattern hini_Cm rfl rfl hd_Cm_listPattern rfl rm_Cm_pattern_Cm_listPattern hl.1 (Nat.le_of_ble_eq_true rfl) d_Cm_pattern_295 rfl ⟨Nat.zero_le _, Nat.zero_le _⟩ (fun H locs hP hD hS => ?_)
                              exact wb_Cm_pattern_298 C0 hE N S hSg G hG _ _ hf H locs hP hD hS ls (lv_sub hl [] rfl)
                            · rw [br_n _ hc14] at hf
                              by_cases hc15 : r11 = 15
                              · rw [br_p _ hc15] at hf
                                refine lv_tableIn (tgt := 293) hx hb d_Cm_pattern_9 (by rw [hc15]; decide) (by rw [hc15]; decide) (by rw [hc15]; rfl) (by decide) ?_
                                refine lv_aload_n hx hb d_Cm_pattern_293 rfl (lv_at hl 0 rfl) ?_
                                refine lv_iload_n hx hb d_Cm_pattern_294 rfl (lv_at hl 1 rfl) ?_
                                obtain ⟨hO9, hf⟩ := ck_some hf
                                obtain ⟨u75, r75, hc75, hf⟩ := bx_some hf
                                refine xV0 (i := v0) (As := [.int v1]) (rest := []) C0 hP hD hS ck_Cm hO9 (hSg.1 _ _ _ _ _ _ hc75) k_Cm_listPattern (wd_of 1186 (by decide +kernel) rfl) hi_Cm_listPattern hs_Cm_listPattern hini_Cm rfl rfl hd_Cm_listPattern rfl rm_Cm_pattern_Cm_listPattern hl.1 (Nat.le_of_ble_eq_true rfl) d_Cm_pattern_295 rfl ⟨Nat.zero_le _, Nat.zero_le _⟩ (fun H locs hP hD hS => ?_)
                                exact wb_Cm_pattern_298 C0 hE N S hSg G hG _ _ hf H locs hP hD hS ls (lv_sub hl [] rfl)
                              · rw [br_n _ hc15] at hf
                                by_cases hc16 : r11 = 16
                                · rw [br_p _ hc16] at hf
                                  refine lv_tableIn (tgt := 293) hx hb d_Cm_pattern_9 (by rw [hc16]; decide) (by rw [hc16]; decide) (by rw [hc16]; rfl) (by decide) ?_
                                  refine lv_aload_n hx hb d_Cm_pattern_293 rfl (lv_at hl 0 rfl) ?_
                                  refine lv_iload_n hx hb d_Cm_pattern_294 rfl (lv_at hl 1 rfl) ?_
                                  obtain ⟨hO9, hf⟩ := ck_some hf
                                  obtain ⟨u76, r76, hc76, hf⟩ := bx_some hf
                                  refine xV0 (i := v0) (As := [.int v1]) (rest := []) C0 hP hD hS ck_Cm hO9 (hSg.1 _ _ _ _ _ _ hc76) k_Cm_listPattern (wd_of 1186 (by decide +kernel) rfl) hi_Cm_listPattern hs_Cm_listPattern hini_Cm rfl rfl hd_Cm_listPattern rfl rm_Cm_pattern_Cm_listPattern hl.1 (Nat.le_of_ble_eq_true rfl) d_Cm_pattern_295 rfl ⟨Nat.zero_le _, Nat.zero_le _⟩ (fun H locs hP hD hS => ?_)
                                  exact wb_Cm_pattern_298 C0 hE N S hSg G hG _ _ hf H locs hP hD hS ls (lv_sub hl [] rfl)
                                · rw [br_n _ hc16] at hf
                                  by_cases hc17 : r11 = 17
                                  · rw [br_p _ hc17] at hf
                                    refine lv_tableIn (tgt := 133) hx hb d_Cm_pattern_9 (by rw [hc17]; decide) (by rw [hc17]; decide) (by rw [hc17]; rfl) (by decide) ?_
                                    refine lv_aload_n hx hb d_Cm_pattern_133 rfl (lv_at hl 0 rfl) ?_
                                    obtain ⟨r77, g77, hf⟩ := bo_some hf
                                    refine xg_R (i := v0) (k := 2) hx hb ht hown ck_Cm hK hP (by decide) fk_Cm_43 g77 d_Cm_pattern_134 ?_
                                    refine lv_iconst (v := 1) hx hb d_Cm_pattern_137 (by decide) ?_
                                    obtain ⟨j79, ej79, hf⟩ := bo_some hf
                                    rw [ej79]
                                    obtain ⟨hO9, hf⟩ := ck_some hf
                                    obtain ⟨u78, r78, hc78, hf⟩ := bx_some hf
                                    refine xV0 (i := j79) (As := [.int 1]) (rest := []) C0 hP hD hS ck_Co hO9 (c_Co_put N hc78) k_Co_put (wd_of 1149 (by decide +kernel) rfl) hi_Co_put hs_Co_put hini_Co rfl rfl hd_Co_put rfl rm_Cm_pattern_Co_put hl.1 (Nat.le_of_ble_eq_true rfl) d_Cm_pattern_138 rfl ⟨Nat.zero_le _, Nat.zero_le _⟩ (fun H locs hP hD hS => ?_)
                                    refine lv_aload_n hx hb d_Cm_pattern_141 rfl (lv_at hl 0 rfl) ?_
                                    refine lv_iconst (v := 0) hx hb d_Cm_pattern_142 (by decide) ?_
                                    refine lv_aload_n hx hb d_Cm_pattern_143 rfl (lv_at hl 0 rfl) ?_
                                    obtain ⟨r80, g80, hf⟩ := bo_some hf
                                    refine xg_R (i := v0) (k := 1) hx hb ht hown ck_Cm hK hP (by decide) fk_Cm_39 g80 d_Cm_pattern_144 ?_
                                    obtain ⟨j81, ej81, hf⟩ := bo_some hf
                                    rw [ej81]
                                    obtain ⟨r82, g82, hf⟩ := bo_some hf
                                    refine xg_R (i := j81) (k := 2) hx hb ht hown ck_Tr hK hP (by decide) fk_Cm_125 g82 d_Cm_pattern_147 ?_
                                    refine lv_aload_n hx hb d_Cm_pattern_150 rfl (lv_at hl 0 rfl) ?_
                                    obtain ⟨r83, g83, hf⟩ := bo_some hf
                                    refine xg_R (i := v0) (k := 1) hx hb ht hown ck_Cm hK hP (by decide) fk_Cm_39 g83 d_Cm_pattern_151 ?_
                                    obtain ⟨j84, ej84, hf⟩ := bo_some hf
                                    rw [ej84]
                                    obtain ⟨r85, g85, hf⟩ := bo_some hf
                                    refine xg_R (i := j84) (k := 2) hx hb ht hown ck_Tr hK hP (by decide) fk_Cm_125 g85 d_Cm_pattern_154 ?_
                                    refine lv_iload_n hx hb d_Cm_pattern_157 rfl (lv_at hl 1 rfl) ?_
                                    obtain ⟨j86, ej86, hf⟩ := bo_some hf
                                    rw [ej86]
                                    obtain ⟨r87, g87, hf⟩ := bo_some hf
                                    refine xl_I (i := j86) hx hb hK hP g87 d_Cm_pattern_158 ?_
                                    obtain ⟨j88, ej88, hf⟩ := bo_some hf
                                    rw [ej88]
                                    obtain ⟨r89, g89, hf⟩ := bo_some hf
                                    refine xl_I (i := j88) hx hb hK hP g89 d_Cm_pattern_159 ?_
                                    refine lv_ineg hx hb d_Cm_pattern_160 ?_
                                    obtain ⟨hO9, hf⟩ := ck_some hf
                                    obtain ⟨u90, r90, hc90, hf⟩ := bx_some hf
                                    refine xV0 (i := v0) (As := [.int 0, .int (-r89)]) (rest := []) C0 hP hD hS ck_Cm hO9 (c_Cm_term N hc90) k_Cm_term (wd_of 1162 (by decide +kernel) rfl) hi_Cm_term hs_Cm_term hini_Cm rfl rfl hd_Cm_term rfl rm_Cm_pattern_Cm_term hl.1 (Nat.le_of_ble_eq_true rfl) d_Cm_pattern_161 rfl ⟨Nat.zero_le _, Nat.zero_le _⟩ (fun H locs hP hD hS => ?_)
                                    refine lv_goto (tgt := 298) hx hb d_Cm_pattern_164 (by decide) ?_
                                    exact wb_Cm_pattern_298 C0 hE N S hSg G hG _ _ hf H locs hP hD hS ls (lv_sub hl [] rfl)
                                  · rw [br_n _ hc17] at hf
                                    refine lv_tableOut (tgt := 293) hx hb d_Cm_pattern_9 (by have z0 := tiN hc1; have z1 := tiN hc2; have z2 := tiN hc3; have z3 := tiN hc4; have z4 := tiN hc5; have z5 := tiN hc6; have z6 := tiN hc7; have z7 := tiN hc8; have z8 := tiN hc9; have z9 := tiN hc10; have z10 := tiN hc11; have z11 := tiN hc12; have z12 := tiN hc13; have z13 := tiN hc14; have z14 := tiN hc15; have z15 := tiN hc16; have z16 := tiN hc17; rw [show (1 : Int32).toInt = 1 from by decide] at z0; rw [show (2 : Int32).toInt = 2 from by decide] at z1; rw [show (3 : Int32).toInt = 3 from by decide] at z2; rw [show (4 : Int32).toInt = 4 from by decide] at z3; rw [show (5 : Int32).toInt = 5 from by decide] at z4; rw [show (6 : Int32).toInt = 6 from by decide] at z5; rw [show (7 : Int32).toInt = 7 from by decide] at z6; rw [show (8 : Int32).toInt = 8 from by decide] at z7; rw [show (9 : Int32).toInt = 9 from by decide] at z8; rw [show (10 : Int32).toInt = 10 from by decide] at z9; rw [show (11 : Int32).toInt = 11 from by decide] at z10; rw [show (12 : Int32).toInt = 12 from by decide] at z11; rw [show (13 : Int32).toInt = 13 from by decide] at z12; rw [show (14 : Int32).toInt = 14 from by decide] at z13; rw [show (15 : Int32).toInt = 15 from by decide] at z14; rw [show (16 : Int32).toInt = 16 from by decide] at z15; rw [show (17 : Int32).toInt = 17 from by decide] at z16; omega) (by decide) ?_
                                    refine lv_aload_n hx hb d_Cm_pattern_293 rfl (lv_at hl 0 rfl) ?_
                                    refine lv_iload_n hx hb d_Cm_pattern_294 rfl (lv_at hl 1 rfl) ?_
                                    obtain ⟨hO9, hf⟩ := ck_some hf
                                    obtain ⟨u91, r91, hc91, hf⟩ := bx_some hf
                                    refine xV0 (i := v0) (As := [.int v1]) (rest := []) C0 hP hD hS ck_Cm hO9 (hSg.1 _ _ _ _ _ _ hc91) k_Cm_listPattern (wd_of 1186 (by decide +kernel) rfl) hi_Cm_listPattern hs_Cm_listPattern hini_Cm rfl rfl hd_Cm_listPattern rfl rm_Cm_pattern_Cm_listPattern hl.1 (Nat.le_of_ble_eq_true rfl) d_Cm_pattern_295 rfl ⟨Nat.zero_le _, Nat.zero_le _⟩ (fun H locs hP hD hS => ?_)
                                    exact wb_Cm_pattern_298 C0 hE N S hSg G hG _ _ hf H locs hP hD hS ls (lv_sub hl [] rfl)
def gg_Cm_pattern (N : Nat) (S : SG_Cm_listPattern) : Nat → ((CS → Nat → Int32 → Option (CS × Unit)))
  | 0 => fun _ _ _ => none
  | n + 1 => fb_Cm_pattern_268 N S (gg_Cm_pattern N S n)
theorem wg_Cm_pattern {p : Program} {l : Launch} {e : Env} {s : State} {m : MethodId} {args : Array Value} {below : List Frame} {meth : Method} {c : Code} {s0 : State} {b0 : Nat} {D : va_G} {cB cI cJ cZ cS cP : ClassId} {A : Nat → Prop} {sk sv : Nat → Nat} {d : Nat} {ad : Nat → Nat} (C0 : XCx p s s0 b0 m args meth c R_Cm b_Cm_pattern 3 none D cB cI cJ cZ cS cP A) (hE : ENV s0 b0 sk sv) (N : Nat) (S : SG_Cm_listPattern) (hSg : HS_Cm_listPattern l s0 b0 D cB cI cJ cZ cS cP d S) : ∀ n : Nat, (∀ (u : CS) (v0 : Nat) (v2 : Int32) (x : CS × Unit), gg_Cm_pattern N S n u v0 v2 = some x → ∀ (H : Heap) (locs : List Loc), va_P D cls (wC cB cI cJ cZ cS cP ad u) H → va_D A (wC cB cI cJ cZ cS cP ad u) → va_S A s.heap H locs → ∀ (ls : Array Slot), lv_has ls 3 [(0, .ref (ad v0)), (2, .int v2)] → W p l e (rg_Cm_listPattern (d + 1)) s m args below meth c H locs 0 0 (MQ below (xQ0 D cB cI cJ cZ cS cP A ad x.1 none) args s 0 0 A) (F0 m 268 ls []))
  | 0 => (fun u v0 v2 x hf => by cases hf)
  | n + 1 => wb_Cm_pattern_268 C0 hE N S hSg (gg_Cm_pattern N S n) (wg_Cm_pattern C0 hE N S hSg n)
def fm_Cm_pattern (N : Nat) (S : SG_Cm_listPattern) (u : CS) (v0 : Nat) (v1 : Int32) : Option (CS × Unit) := fb_Cm_pattern_0 N S (gg_Cm_pattern N S N) u v0 v1
set_option maxRecDepth 100000 in
set_option maxHeartbeats 4000000 in
theorem cs_Cm_pattern (N : Nat) {d : Nat} {l : Launch} {s0 : State} {b0 : Nat} {D : va_G} {cB cI cJ cZ cS cP : ClassId} {sk sv : Nat → Nat} {ad : Nat → Nat} {u : CS} {sz : Nat} {v0 : Nat} {v1 : Int32} {x : CS × Unit} (hE : ENV s0 b0 sk sv) (S : SG_Cm_listPattern) (hSg : HS_Cm_listPattern l s0 b0 D cB cI cJ cZ cS cP d S) (hf : fm_Cm_pattern N S u v0 v1 = some x) : Met l y_Cm_pattern (wd_ws y_Cm_pattern b_Cm_pattern 3 none) (rg_Cm_listPattern (d + 1)) (xPc s0 b0 D cB cI cJ cZ cS cP ad u sz [.ref (ad v0), .int v1]) (xQ0 D cB cI cJ cZ cS cP (xA cB cI cJ cZ cS cP ad u sz) ad x.1 none) 0 0 (xA cB cI cJ cZ cS cP ad u sz) :=
  xMet (by decide) rfl (Nat.le_of_ble_eq_true rfl) (fun p e s m below meth c ls hsz hnm C0 hP hD hS hl =>
    wb_Cm_pattern_0 C0 hE N S hSg (gg_Cm_pattern N S N) (wg_Cm_pattern C0 hE N S hSg N) u _ _ x hf s.heap [] hP hD hS ls (lv_sub hl [0, 1] rfl))
def rc_Cm_listPattern (N : Nat) : Nat → (SG_Cm_listPattern)
  | 0 => (fun _ _ _ => none, fun _ _ _ => none)
  | d + 1 => (fm_Cm_listPattern N (rc_Cm_listPattern N d), fm_Cm_pattern N (rc_Cm_listPattern N d))
theorem cg_Cm_listPattern (N : Nat) {l : Launch} {s0 : State} {b0 : Nat} {D : va_G} {cB cI cJ cZ cS cP : ClassId} {sk sv : Nat → Nat} (hE : ENV s0 b0 sk sv) : ∀ d : Nat, HS_Cm_listPattern l s0 b0 D cB cI cJ cZ cS cP d (rc_Cm_listPattern N d)
  | 0 => ⟨(fun ad u _ _ x sz hf => by cases hf), (fun ad u _ _ x sz hf => by cases hf)⟩
  | d + 1 => ⟨(fun ad u _ _ x sz hf => cs_Cm_listPattern N hE (rc_Cm_listPattern N d) (cg_Cm_listPattern N hE d) hf), (fun ad u _ _ x sz hf => cs_Cm_pattern N hE (rc_Cm_listPattern N d) (cg_Cm_listPattern N hE d) hf)⟩
def fr_Cm_listPattern (N : Nat) (u : CS) (v0 : Nat) (v1 : Int32) : Option (CS × Unit) := (rc_Cm_listPattern N 300).1 u v0 v1
def rm_Cm_listPattern : Room := rg_Cm_listPattern 300
theorem c_Cm_listPattern (N : Nat) {l : Launch} {s0 : State} {b0 : Nat} {D : va_G} {cB cI cJ cZ cS cP : ClassId} {sk sv : Nat → Nat} {ad : Nat → Nat} {u : CS} {sz : Nat} {v0 : Nat} {v1 : Int32} {x : CS × Unit} (hE : ENV s0 b0 sk sv) (hf : fr_Cm_listPattern N u v0 v1 = some x) : Met l y_Cm_listPattern (wd_ws y_Cm_listPattern b_Cm_listPattern 3 none) rm_Cm_listPattern (xPc s0 b0 D cB cI cJ cZ cS cP ad u sz [.ref (ad v0), .int v1]) (xQ0 D cB cI cJ cZ cS cP (xA cB cI cJ cZ cS cP ad u sz) ad x.1 none) 0 0 (xA cB cI cJ cZ cS cP ad u sz) := (cg_Cm_listPattern N hE 300).1 _ _ _ _ _ _ hf
def fr_Cm_pattern (N : Nat) (u : CS) (v0 : Nat) (v1 : Int32) : Option (CS × Unit) := (rc_Cm_listPattern N 300).2 u v0 v1
def rm_Cm_pattern : Room := rg_Cm_listPattern 300
theorem c_Cm_pattern (N : Nat) {l : Launch} {s0 : State} {b0 : Nat} {D : va_G} {cB cI cJ cZ cS cP : ClassId} {sk sv : Nat → Nat} {ad : Nat → Nat} {u : CS} {sz : Nat} {v0 : Nat} {v1 : Int32} {x : CS × Unit} (hE : ENV s0 b0 sk sv) (hf : fr_Cm_pattern N u v0 v1 = some x) : Met l y_Cm_pattern (wd_ws y_Cm_pattern b_Cm_pattern 3 none) rm_Cm_pattern (xPc s0 b0 D cB cI cJ cZ cS cP ad u sz [.ref (ad v0), .int v1]) (xQ0 D cB cI cJ cZ cS cP (xA cB cI cJ cZ cS cP ad u sz) ad x.1 none) 0 0 (xA cB cI cJ cZ cS cP ad u sz) := (cg_Cm_listPattern N hE 300).2 _ _ _ _ _ _ hf
abbrev b_Cm_notInGuard : ByteArray := prog_3_method_4_code
def y_Cm_notInGuard : MethodName := ⟨R_Cm, "notInGuard", "(I)V"⟩
def w_Cm_notInGuard : List Cond := wd_ws y_Cm_notInGuard b_Cm_notInGuard 2 none
set_option maxRecDepth 100000 in
theorem k_Cm_notInGuard : Cond.code y_Cm_notInGuard b_Cm_notInGuard 2 none ∈ wd_tbl := wd_of 1197 rfl rfl
theorem d_Cm_notInGuard_0 : decode b_Cm_notInGuard 0 = .ok (.aload_n 0, 1) := by decide +kernel
theorem d_Cm_notInGuard_1 : decode b_Cm_notInGuard 1 = .ok (.getfield 59, 3) := by decide +kernel
theorem d_Cm_notInGuard_4 : decode b_Cm_notInGuard 4 = .ok (.ifCond .eq 10, 3) := by decide +kernel
theorem d_Cm_notInGuard_7 : decode b_Cm_notInGuard 7 = .ok (.aload_n 0, 1) := by decide +kernel
theorem d_Cm_notInGuard_8 : decode b_Cm_notInGuard 8 = .ok (.iload_n 1, 1) := by decide +kernel
theorem d_Cm_notInGuard_9 : decode b_Cm_notInGuard 9 = .ok (.bipush 7, 2) := by decide +kernel
theorem d_Cm_notInGuard_11 : decode b_Cm_notInGuard 11 = .ok (.invokevirtual 89, 3) := by decide +kernel
theorem d_Cm_notInGuard_14 : decode b_Cm_notInGuard 14 = .ok (.return_, 1) := by decide +kernel
set_option maxRecDepth 100000 in
theorem hl_Cm_notInGuard : Cond.methodLink R_Cm 207 y_Cm_notInGuard ∈ wd_tbl := wd_of 1194 (by decide +kernel) rfl
set_option maxRecDepth 100000 in
theorem hi_Cm_notInGuard : Cond.instanceMethod y_Cm_notInGuard ∈ wd_tbl := wd_of 1196 (by decide +kernel) rfl
set_option maxRecDepth 100000 in
theorem hs_Cm_notInGuard : Cond.selects R_Cm y_Cm_notInGuard y_Cm_notInGuard ∈ wd_tbl := wd_of 50 (by decide +kernel) rfl
theorem hd_Cm_notInGuard : y_Cm_notInGuard.cls = R_Cm ∧ y_Cm_notInGuard.cls ≠ "java/lang/invoke/MethodHandle" ∧ y_Cm_notInGuard.cls ≠ "java/lang/invoke/VarHandle" ∧ (parseMethodDescriptor y_Cm_notInGuard.desc).map (fun d => d.parameters.length) = some 1 := by decide +kernel
def rm_Cm_notInGuard : Room := { frames := 2, cells := 0, slots := 0, locals := 45 }
theorem rm_Cm_notInGuard_Cm_fault : (rm_Cm_fault).frames + 1 ≤ rm_Cm_notInGuard.frames ∧ 8 + (3 + 11) + (rm_Cm_fault).locals ≤ rm_Cm_notInGuard.locals := by
  show 1 + 1 ≤ 2 ∧ 8 + (3 + 11) + 23 ≤ 45
  decide
def fb_Cm_notInGuard_14 (N : Nat) (G : Unit) (u : CS) : Option (CS × Unit) := some (u, ())
set_option maxRecDepth 100000 in
set_option maxHeartbeats 4000000 in
theorem wb_Cm_notInGuard_14 {p : Program} {l : Launch} {e : Env} {s : State} {m : MethodId} {args : Array Value} {below : List Frame} {meth : Method} {c : Code} {s0 : State} {b0 : Nat} {D : va_G} {cB cI cJ cZ cS cP : ClassId} {A : Nat → Prop} {sk sv : Nat → Nat} {ad : Nat → Nat} (C0 : XCx p s s0 b0 m args meth c R_Cm b_Cm_notInGuard 2 none D cB cI cJ cZ cS cP A) (hE : ENV s0 b0 sk sv) (N : Nat) (G : Unit) (hG : True) : ∀ (u : CS) (x : CS × Unit), fb_Cm_notInGuard_14 N G u = some x → ∀ (H : Heap) (locs : List Loc), va_P D cls (wC cB cI cJ cZ cS cP ad u) H → va_D A (wC cB cI cJ cZ cS cP ad u) → va_S A s.heap H locs → ∀ (ls : Array Slot), lv_has ls 2 [] → W p l e rm_Cm_notInGuard s m args below meth c H locs 0 0 (MQ below (xQ0 D cB cI cJ cZ cS cP A ad x.1 none) args s 0 0 A) (F0 m 14 ls []) := by
  intro u x hf H locs hP hD hS ls hl
  obtain ⟨hx, hb, hr, hml, ht, hown, hK, hA, hlocks, hA0, hO, hbs⟩ := id C0
  unfold fb_Cm_notInGuard_14 at hf
  exact xr0_v C0 hP hD hS hf d_Cm_notInGuard_14
def fb_Cm_notInGuard_0 (N : Nat) (G : Unit) (u : CS) (v0 : Nat) (v1 : Int32) : Option (CS × Unit) := bo (gI u v0 3 12) (fun r1 => br (decide (r1 = 0)) (fb_Cm_notInGuard_14 N G u) (ck (isO u v0 3) (bx (fm_Cm_fault N u v0 v1 7) (fun u2 r2 => fb_Cm_notInGuard_14 N G u2))))
set_option maxRecDepth 100000 in
set_option maxHeartbeats 4000000 in
theorem wb_Cm_notInGuard_0 {p : Program} {l : Launch} {e : Env} {s : State} {m : MethodId} {args : Array Value} {below : List Frame} {meth : Method} {c : Code} {s0 : State} {b0 : Nat} {D : va_G} {cB cI cJ cZ cS cP : ClassId} {A : Nat → Prop} {sk sv : Nat → Nat} {ad : Nat → Nat} (C0 : XCx p s s0 b0 m args meth c R_Cm b_Cm_notInGuard 2 none D cB cI cJ cZ cS cP A) (hE : ENV s0 b0 sk sv) (N : Nat) (G : Unit) (hG : True) : ∀ (u : CS) (v0 : Nat) (v1 : Int32) (x : CS × Unit), fb_Cm_notInGuard_0 N G u v0 v1 = some x → ∀ (H : Heap) (locs : List Loc), va_P D cls (wC cB cI cJ cZ cS cP ad u) H → va_D A (wC cB cI cJ cZ cS cP ad u) → va_S A s.heap H locs → ∀ (ls : Array Slot), lv_has ls 2 [(0, .ref (ad v0)), (1, .int v1)] → W p l e rm_Cm_notInGuard s m args below meth c H locs 0 0 (MQ below (xQ0 D cB cI cJ cZ cS cP A ad x.1 none) args s 0 0 A) (F0 m 0 ls []) := by
  intro u v0 v1 x hf H locs hP hD hS ls hl
  obtain ⟨hx, hb, hr, hml, ht, hown, hK, hA, hlocks, hA0, hO, hbs⟩ := id C0
  unfold fb_Cm_notInGuard_0 at hf
  refine lv_aload_n hx hb d_Cm_notInGuard_0 rfl (lv_at hl 0 rfl) ?_
  obtain ⟨r1, g1, hf⟩ := bo_some hf
  refine xg_I (i := v0) (k := 12) hx hb ht hown ck_Cm hK hP (by decide) fk_Cm_59 g1 d_Cm_notInGuard_1 ?_
  refine lv_if_eq (tgt := 14) hx hb d_Cm_notInGuard_4 (by decide) (fun hc => ?_) (fun hc => ?_)
  · rw [br_p _ hc] at hf
    exact wb_Cm_notInGuard_14 C0 hE N G hG _ _ hf H locs hP hD hS ls (lv_sub hl [] rfl)
  · rw [br_n _ hc] at hf
    refine lv_aload_n hx hb d_Cm_notInGuard_7 rfl (lv_at hl 0 rfl) ?_
    refine lv_iload_n hx hb d_Cm_notInGuard_8 rfl (lv_at hl 1 rfl) ?_
    refine lv_bipush (v := 7) hx hb d_Cm_notInGuard_9 (by decide) ?_
    obtain ⟨hO9, hf⟩ := ck_some hf
    obtain ⟨u2, r2, hc2, hf⟩ := bx_some hf
    refine xV0 (i := v0) (As := [.int v1, .int 7]) (rest := []) C0 hP hD hS ck_Cm hO9 (c_Cm_fault N hE hc2) k_Cm_fault (wd_of 1133 (by decide +kernel) rfl) hi_Cm_fault hs_Cm_fault hini_Cm rfl rfl hd_Cm_fault rfl rm_Cm_notInGuard_Cm_fault hl.1 (Nat.le_of_ble_eq_true rfl) d_Cm_notInGuard_11 rfl ⟨Nat.zero_le _, Nat.zero_le _⟩ (fun H locs hP hD hS => ?_)
    exact wb_Cm_notInGuard_14 C0 hE N G hG _ _ hf H locs hP hD hS ls (lv_sub hl [] rfl)
def fm_Cm_notInGuard (N : Nat) (u : CS) (v0 : Nat) (v1 : Int32) : Option (CS × Unit) := fb_Cm_notInGuard_0 N () u v0 v1
set_option maxRecDepth 100000 in
set_option maxHeartbeats 4000000 in
theorem c_Cm_notInGuard (N : Nat) {l : Launch} {s0 : State} {b0 : Nat} {D : va_G} {cB cI cJ cZ cS cP : ClassId} {sk sv : Nat → Nat} {ad : Nat → Nat} {u : CS} {sz : Nat} {v0 : Nat} {v1 : Int32} {x : CS × Unit} (hE : ENV s0 b0 sk sv) (hf : fm_Cm_notInGuard N u v0 v1 = some x) : Met l y_Cm_notInGuard (wd_ws y_Cm_notInGuard b_Cm_notInGuard 2 none) rm_Cm_notInGuard (xPc s0 b0 D cB cI cJ cZ cS cP ad u sz [.ref (ad v0), .int v1]) (xQ0 D cB cI cJ cZ cS cP (xA cB cI cJ cZ cS cP ad u sz) ad x.1 none) 0 0 (xA cB cI cJ cZ cS cP ad u sz) :=
  xMet (by decide) rfl (Nat.le_of_ble_eq_true rfl) (fun p e s m below meth c ls hsz hnm C0 hP hD hS hl =>
    wb_Cm_notInGuard_0 C0 hE N () trivial u _ _ x hf s.heap [] hP hD hS ls (lv_sub hl [0, 1] rfl))
abbrev b_Cm_joining : ByteArray := prog_3_method_28_code
def y_Cm_joining : MethodName := ⟨R_Cm, "joining", "(II)V"⟩
def w_Cm_joining : List Cond := wd_ws y_Cm_joining b_Cm_joining 3 none
set_option maxRecDepth 100000 in
theorem k_Cm_joining : Cond.code y_Cm_joining b_Cm_joining 3 none ∈ wd_tbl := wd_of 1229 rfl rfl
theorem d_Cm_joining_0 : decode b_Cm_joining 0 = .ok (.iload_n 1, 1) := by decide +kernel
theorem d_Cm_joining_1 : decode b_Cm_joining 1 = .ok (.lookupswitch 96 #[(10, 84), (18, 84), (33, 84), (34, 84), (35, 84), (43, 67), (44, 67)], 67) := by decide +kernel
theorem d_Cm_joining_68 : decode b_Cm_joining 68 = .ok (.aload_n 0, 1) := by decide +kernel
theorem d_Cm_joining_69 : decode b_Cm_joining 69 = .ok (.iload_n 2, 1) := by decide +kernel
theorem d_Cm_joining_70 : decode b_Cm_joining 70 = .ok (.invokevirtual 207, 3) := by decide +kernel
theorem d_Cm_joining_73 : decode b_Cm_joining 73 = .ok (.aload_n 0, 1) := by decide +kernel
theorem d_Cm_joining_74 : decode b_Cm_joining 74 = .ok (.getfield 43, 3) := by decide +kernel
theorem d_Cm_joining_77 : decode b_Cm_joining 77 = .ok (.bipush 10, 2) := by decide +kernel
theorem d_Cm_joining_79 : decode b_Cm_joining 79 = .ok (.invokevirtual 142, 3) := by decide +kernel
theorem d_Cm_joining_82 : decode b_Cm_joining 82 = .ok (.goto 24, 3) := by decide +kernel
theorem d_Cm_joining_85 : decode b_Cm_joining 85 = .ok (.aload_n 0, 1) := by decide +kernel
theorem d_Cm_joining_86 : decode b_Cm_joining 86 = .ok (.getfield 43, 3) := by decide +kernel
theorem d_Cm_joining_89 : decode b_Cm_joining 89 = .ok (.bipush 9, 2) := by decide +kernel
theorem d_Cm_joining_91 : decode b_Cm_joining 91 = .ok (.invokevirtual 142, 3) := by decide +kernel
theorem d_Cm_joining_94 : decode b_Cm_joining 94 = .ok (.goto 12, 3) := by decide +kernel
theorem d_Cm_joining_97 : decode b_Cm_joining 97 = .ok (.aload_n 0, 1) := by decide +kernel
theorem d_Cm_joining_98 : decode b_Cm_joining 98 = .ok (.getfield 43, 3) := by decide +kernel
theorem d_Cm_joining_101 : decode b_Cm_joining 101 = .ok (.bipush 8, 2) := by decide +kernel
theorem d_Cm_joining_103 : decode b_Cm_joining 103 = .ok (.invokevirtual 142, 3) := by decide +kernel
theorem d_Cm_joining_106 : decode b_Cm_joining 106 = .ok (.aload_n 0, 1) := by decide +kernel
theorem d_Cm_joining_107 : decode b_Cm_joining 107 = .ok (.getfield 43, 3) := by decide +kernel
theorem d_Cm_joining_110 : decode b_Cm_joining 110 = .ok (.iload_n 1, 1) := by decide +kernel
theorem d_Cm_joining_111 : decode b_Cm_joining 111 = .ok (.invokevirtual 142, 3) := by decide +kernel
theorem d_Cm_joining_114 : decode b_Cm_joining 114 = .ok (.return_, 1) := by decide +kernel
set_option maxRecDepth 100000 in
theorem hl_Cm_joining : Cond.methodLink R_Cm 263 y_Cm_joining ∈ wd_tbl := wd_of 1226 (by decide +kernel) rfl
set_option maxRecDepth 100000 in
theorem hi_Cm_joining : Cond.instanceMethod y_Cm_joining ∈ wd_tbl := wd_of 1228 (by decide +kernel) rfl
set_option maxRecDepth 100000 in
theorem hs_Cm_joining : Cond.selects R_Cm y_Cm_joining y_Cm_joining ∈ wd_tbl := wd_of 55 (by decide +kernel) rfl
theorem hd_Cm_joining : y_Cm_joining.cls = R_Cm ∧ y_Cm_joining.cls ≠ "java/lang/invoke/MethodHandle" ∧ y_Cm_joining.cls ≠ "java/lang/invoke/VarHandle" ∧ (parseMethodDescriptor y_Cm_joining.desc).map (fun d => d.parameters.length) = some 2 := by decide +kernel
def rm_Cm_joining : Room := { frames := 3, cells := 0, slots := 0, locals := 66 }
theorem rm_Cm_joining_Cm_notInGuard : (rm_Cm_notInGuard).frames + 1 ≤ rm_Cm_joining.frames ∧ 8 + (2 + 11) + (rm_Cm_notInGuard).locals ≤ rm_Cm_joining.locals := by
  show 2 + 1 ≤ 3 ∧ 8 + (2 + 11) + 45 ≤ 66
  decide
theorem rm_Cm_joining_Co_put : (rm_Co_put).frames + 1 ≤ rm_Cm_joining.frames ∧ 8 + (2 + 11) + (rm_Co_put).locals ≤ rm_Cm_joining.locals := by
  show 0 + 1 ≤ 3 ∧ 8 + (2 + 11) + 0 ≤ 66
  decide
def fb_Cm_joining_106 (N : Nat) (G : Unit) (u : CS) (v0 : Nat) (v1 : Int32) : Option (CS × Unit) := bo (gR u v0 3 2) (fun r1 => bo r1 (fun j3 => ck (isO u j3 2) (bx (fm_Co_put N u j3 v1) (fun u2 r2 => some (u2, ())))))
set_option maxRecDepth 100000 in
set_option maxHeartbeats 4000000 in
theorem wb_Cm_joining_106 {p : Program} {l : Launch} {e : Env} {s : State} {m : MethodId} {args : Array Value} {below : List Frame} {meth : Method} {c : Code} {s0 : State} {b0 : Nat} {D : va_G} {cB cI cJ cZ cS cP : ClassId} {A : Nat → Prop} {sk sv : Nat → Nat} {ad : Nat → Nat} (C0 : XCx p s s0 b0 m args meth c R_Cm b_Cm_joining 3 none D cB cI cJ cZ cS cP A) (hE : ENV s0 b0 sk sv) (N : Nat) (G : Unit) (hG : True) : ∀ (u : CS) (v0 : Nat) (v1 : Int32) (x : CS × Unit), fb_Cm_joining_106 N G u v0 v1 = some x → ∀ (H : Heap) (locs : List Loc), va_P D cls (wC cB cI cJ cZ cS cP ad u) H → va_D A (wC cB cI cJ cZ cS cP ad u) → va_S A s.heap H locs → ∀ (ls : Array Slot), lv_has ls 3 [(0, .ref (ad v0)), (1, .int v1)] → W p l e rm_Cm_joining s m args below meth c H locs 0 0 (MQ below (xQ0 D cB cI cJ cZ cS cP A ad x.1 none) args s 0 0 A) (F0 m 106 ls []) := by
  intro u v0 v1 x hf H locs hP hD hS ls hl
  obtain ⟨hx, hb, hr, hml, ht, hown, hK, hA, hlocks, hA0, hO, hbs⟩ := id C0
  unfold fb_Cm_joining_106 at hf
  refine lv_aload_n hx hb d_Cm_joining_106 rfl (lv_at hl 0 rfl) ?_
  obtain ⟨r1, g1, hf⟩ := bo_some hf
  refine xg_R (i := v0) (k := 2) hx hb ht hown ck_Cm hK hP (by decide) fk_Cm_43 g1 d_Cm_joining_107 ?_
  refine lv_iload_n hx hb d_Cm_joining_110 rfl (lv_at hl 1 rfl) ?_
  obtain ⟨j3, ej3, hf⟩ := bo_some hf
  rw [ej3]
  obtain ⟨hO9, hf⟩ := ck_some hf
  obtain ⟨u2, r2, hc2, hf⟩ := bx_some hf
  refine xV0 (i := j3) (As := [.int v1]) (rest := []) C0 hP hD hS ck_Co hO9 (c_Co_put N hc2) k_Co_put (wd_of 1149 (by decide +kernel) rfl) hi_Co_put hs_Co_put hini_Co rfl rfl hd_Co_put rfl rm_Cm_joining_Co_put hl.1 (Nat.le_of_ble_eq_true rfl) d_Cm_joining_111 rfl ⟨Nat.zero_le _, Nat.zero_le _⟩ (fun H locs hP hD hS => ?_)
  exact xr0_v C0 hP hD hS hf d_Cm_joining_114
def fb_Cm_joining_0 (N : Nat) (G : Unit) (u : CS) (v0 : Nat) (v1 : Int32) (v2 : Int32) : Option (CS × Unit) := br (decide (v1 = 10)) (bo (gR u v0 3 2) (fun r4 => bo r4 (fun j6 => ck (isO u j6 2) (bx (fm_Co_put N u j6 9) (fun u5 r5 => fb_Cm_joining_106 N G u5 (v0) (v1)))))) (br (decide (v1 = 18)) (bo (gR u v0 3 2) (fun r7 => bo r7 (fun j9 => ck (isO u j9 2) (bx (fm_Co_put N u j9 9) (fun u8 r8 => fb_Cm_joining_106 N G u8 (v0) (v1)))))) (br (decide (v1 = 33)) (bo (gR u v0 3 2) (fun r10 => bo r10 (fun j12 => ck (isO u j12 2) (bx (fm_Co_put N u j12 9) (fun u11 r11 => fb_Cm_joining_106 N G u11 (v0) (v1)))))) (br (decide (v1 = 34)) (bo (gR u v0 3 2) (fun r13 => bo r13 (fun j15 => ck (isO u j15 2) (bx (fm_Co_put N u j15 9) (fun u14 r14 => fb_Cm_joining_106 N G u14 (v0) (v1)))))) (br (decide (v1 = 35)) (bo (gR u v0 3 2) (fun r16 => bo r16 (fun j18 => ck (isO u j18 2) (bx (fm_Co_put N u j18 9) (fun u17 r17 => fb_Cm_joining_106 N G u17 (v0) (v1)))))) (br (decide (v1 = 43)) (ck (isO u v0 3) (bx (fm_Cm_notInGuard N u v0 v2) (fun u19 r19 => bo (gR u19 v0 3 2) (fun r20 => bo r20 (fun j22 => ck (isO u19 j22 2) (bx (fm_Co_put N u19 j22 10) (fun u21 r21 => fb_Cm_joining_106 N G u21 (v0) (v1)))))))) (br (decide (v1 = 44)) (ck (isO u v0 3) (bx (fm_Cm_notInGuard N u v0 v2) (fun u23 r23 => bo (gR u23 v0 3 2) (fun r24 => bo r24 (fun j26 => ck (isO u23 j26 2) (bx (fm_Co_put N u23 j26 10) (fun u25 r25 => fb_Cm_joining_106 N G u25 (v0) (v1)))))))) (bo (gR u v0 3 2) (fun r27 => bo r27 (fun j29 => ck (isO u j29 2) (bx (fm_Co_put N u j29 8) (fun u28 r28 => fb_Cm_joining_106 N G u28 (v0) (v1))))))))))))
set_option maxRecDepth 100000 in
set_option maxHeartbeats 4000000 in
theorem wb_Cm_joining_0 {p : Program} {l : Launch} {e : Env} {s : State} {m : MethodId} {args : Array Value} {below : List Frame} {meth : Method} {c : Code} {s0 : State} {b0 : Nat} {D : va_G} {cB cI cJ cZ cS cP : ClassId} {A : Nat → Prop} {sk sv : Nat → Nat} {ad : Nat → Nat} (C0 : XCx p s s0 b0 m args meth c R_Cm b_Cm_joining 3 none D cB cI cJ cZ cS cP A) (hE : ENV s0 b0 sk sv) (N : Nat) (G : Unit) (hG : True) : ∀ (u : CS) (v0 : Nat) (v1 : Int32) (v2 : Int32) (x : CS × Unit), fb_Cm_joining_0 N G u v0 v1 v2 = some x → ∀ (H : Heap) (locs : List Loc), va_P D cls (wC cB cI cJ cZ cS cP ad u) H → va_D A (wC cB cI cJ cZ cS cP ad u) → va_S A s.heap H locs → ∀ (ls : Array Slot), lv_has ls 3 [(0, .ref (ad v0)), (1, .int v1), (2, .int v2)] → W p l e rm_Cm_joining s m args below meth c H locs 0 0 (MQ below (xQ0 D cB cI cJ cZ cS cP A ad x.1 none) args s 0 0 A) (F0 m 0 ls []) := by
  intro u v0 v1 v2 x hf H locs hP hD hS ls hl
  obtain ⟨hx, hb, hr, hml, ht, hown, hK, hA, hlocks, hA0, hO, hbs⟩ := id C0
  unfold fb_Cm_joining_0 at hf
  refine lv_iload_n hx hb d_Cm_joining_0 rfl (lv_at hl 1 rfl) ?_
  by_cases hc10 : v1 = 10
  · rw [br_p _ hc10] at hf
    refine lv_lookup (tgt := 85) hx hb d_Cm_joining_1 (by decide) (by rw [hc10] <;> rfl) (by decide) ?_
    refine lv_aload_n hx hb d_Cm_joining_85 rfl (lv_at hl 0 rfl) ?_
    obtain ⟨r4, g4, hf⟩ := bo_some hf
    refine xg_R (i := v0) (k := 2) hx hb ht hown ck_Cm hK hP (by decide) fk_Cm_43 g4 d_Cm_joining_86 ?_
    refine lv_bipush (v := 9) hx hb d_Cm_joining_89 (by decide) ?_
    obtain ⟨j6, ej6, hf⟩ := bo_some hf
    rw [ej6]
    obtain ⟨hO9, hf⟩ := ck_some hf
    obtain ⟨u5, r5, hc5, hf⟩ := bx_some hf
    refine xV0 (i := j6) (As := [.int 9]) (rest := []) C0 hP hD hS ck_Co hO9 (c_Co_put N hc5) k_Co_put (wd_of 1149 (by decide +kernel) rfl) hi_Co_put hs_Co_put hini_Co rfl rfl hd_Co_put rfl rm_Cm_joining_Co_put hl.1 (Nat.le_of_ble_eq_true rfl) d_Cm_joining_91 rfl ⟨Nat.zero_le _, Nat.zero_le _⟩ (fun H locs hP hD hS => ?_)
    refine lv_goto (tgt := 106) hx hb d_Cm_joining_94 (by decide) ?_
    exact wb_Cm_joining_106 C0 hE N G hG _ _ _ _ hf H locs hP hD hS ls (lv_sub hl [0, 1] rfl)
  · rw [br_n _ hc10] at hf
    by_cases hc18 : v1 = 18
    · rw [br_p _ hc18] at hf
      refine lv_lookup (tgt := 85) hx hb d_Cm_joining_1 (by decide) (by rw [hc18] <;> rfl) (by decide) ?_
      refine lv_aload_n hx hb d_Cm_joining_85 rfl (lv_at hl 0 rfl) ?_
      obtain ⟨r7, g7, hf⟩ := bo_some hf
      refine xg_R (i := v0) (k := 2) hx hb ht hown ck_Cm hK hP (by decide) fk_Cm_43 g7 d_Cm_joining_86 ?_
      refine lv_bipush (v := 9) hx hb d_Cm_joining_89 (by decide) ?_
      obtain ⟨j9, ej9, hf⟩ := bo_some hf
      rw [ej9]
      obtain ⟨hO9, hf⟩ := ck_some hf
      obtain ⟨u8, r8, hc8, hf⟩ := bx_some hf
      refine xV0 (i := j9) (As := [.int 9]) (rest := []) C0 hP hD hS ck_Co hO9 (c_Co_put N hc8) k_Co_put (wd_of 1149 (by decide +kernel) rfl) hi_Co_put hs_Co_put hini_Co rfl rfl hd_Co_put rfl rm_Cm_joining_Co_put hl.1 (Nat.le_of_ble_eq_true rfl) d_Cm_joining_91 rfl ⟨Nat.zero_le _, Nat.zero_le _⟩ (fun H locs hP hD hS => ?_)
      refine lv_goto (tgt := 106) hx hb d_Cm_joining_94 (by decide) ?_
      exact wb_Cm_joining_106 C0 hE N G hG _ _ _ _ hf H locs hP hD hS ls (lv_sub hl [0, 1] rfl)
    · rw [br_n _ hc18] at hf
      by_cases hc33 : v1 = 33
      · rw [br_p _ hc33] at hf
        refine lv_lookup (tgt := 85) hx hb d_Cm_joining_1 (by decide) (by rw [hc33] <;> rfl) (by decide) ?_
        refine lv_aload_n hx hb d_Cm_joining_85 rfl (lv_at hl 0 rfl) ?_
        obtain ⟨r10, g10, hf⟩ := bo_some hf
        refine xg_R (i := v0) (k := 2) hx hb ht hown ck_Cm hK hP (by decide) fk_Cm_43 g10 d_Cm_joining_86 ?_
        refine lv_bipush (v := 9) hx hb d_Cm_joining_89 (by decide) ?_
        obtain ⟨j12, ej12, hf⟩ := bo_some hf
        rw [ej12]
        obtain ⟨hO9, hf⟩ := ck_some hf
        obtain ⟨u11, r11, hc11, hf⟩ := bx_some hf
        refine xV0 (i := j12) (As := [.int 9]) (rest := []) C0 hP hD hS ck_Co hO9 (c_Co_put N hc11) k_Co_put (wd_of 1149 (by decide +kernel) rfl) hi_Co_put hs_Co_put hini_Co rfl rfl hd_Co_put rfl rm_Cm_joining_Co_put hl.1 (Nat.le_of_ble_eq_true rfl) d_Cm_joining_91 rfl ⟨Nat.zero_le _, Nat.zero_le _⟩ (fun H locs hP hD hS => ?_)
        refine lv_goto (tgt := 106) hx hb d_Cm_joining_94 (by decide) ?_
        exact wb_Cm_joining_106 C0 hE N G hG _ _ _ _ hf H locs hP hD hS ls (lv_sub hl [0, 1] rfl)
      · rw [br_n _ hc33] at hf
        by_cases hc34 : v1 = 34
        · rw [br_p _ hc34] at hf
          refine lv_lookup (tgt := 85) hx hb d_Cm_joining_1 (by decide) (by rw [hc34] <;> rfl) (by decide) ?_
          refine lv_aload_n hx hb d_Cm_joining_85 rfl (lv_at hl 0 rfl) ?_
          obtain ⟨r13, g13, hf⟩ := bo_some hf
          refine xg_R (i := v0) (k := 2) hx hb ht hown ck_Cm hK hP (by decide) fk_Cm_43 g13 d_Cm_joining_86 ?_
          refine lv_bipush (v := 9) hx hb d_Cm_joining_89 (by decide) ?_
          obtain ⟨j15, ej15, hf⟩ := bo_some hf
          rw [ej15]
          obtain ⟨hO9, hf⟩ := ck_some hf
          obtain ⟨u14, r14, hc14, hf⟩ := bx_some hf
          refine xV0 (i := j15) (As := [.int 9]) (rest := []) C0 hP hD hS ck_Co hO9 (c_Co_put N hc14) k_Co_put (wd_of 1149 (by decide +kernel) rfl) hi_Co_put hs_Co_put hini_Co rfl rfl hd_Co_put rfl rm_Cm_joining_Co_put hl.1 (Nat.le_of_ble_eq_true rfl) d_Cm_joining_91 rfl ⟨Nat.zero_le _, Nat.zero_le _⟩ (fun H locs hP hD hS => ?_)
          refine lv_goto (tgt := 106) hx hb d_Cm_joining_94 (by decide) ?_
          exact wb_Cm_joining_106 C0 hE N G hG _ _ _ _ hf H locs hP hD hS ls (lv_sub hl [0, 1] rfl)
        · rw [br_n _ hc34] at hf
          by_cases hc35 : v1 = 35
          · rw [br_p _ hc35] at hf
            refine lv_lookup (tgt := 85) hx hb d_Cm_joining_1 (by decide) (by rw [hc35] <;> rfl) (by decide) ?_
            refine lv_aload_n hx hb d_Cm_joining_85 rfl (lv_at hl 0 rfl) ?_
            obtain ⟨r16, g16, hf⟩ := bo_some hf
            refine xg_R (i := v0) (k := 2) hx hb ht hown ck_Cm hK hP (by decide) fk_Cm_43 g16 d_Cm_joining_86 ?_
            refine lv_bipush (v := 9) hx hb d_Cm_joining_89 (by decide) ?_
            obtain ⟨j18, ej18, hf⟩ := bo_some hf
            rw [ej18]
            obtain ⟨hO9, hf⟩ := ck_some hf
            obtain ⟨u17, r17, hc17, hf⟩ := bx_some hf
            refine xV0 (i := j18) (As := [.int 9]) (rest := []) C0 hP hD hS ck_Co hO9 (c_Co_put N hc17) k_Co_put (wd_of 1149 (by decide +kernel) rfl) hi_Co_put hs_Co_put hini_Co rfl rfl hd_Co_put rfl rm_Cm_joining_Co_put hl.1 (Nat.le_of_ble_eq_true rfl) d_Cm_joining_91 rfl ⟨Nat.zero_le _, Nat.zero_le _⟩ (fun H locs hP hD hS => ?_)
            refine lv_goto (tgt := 106) hx hb d_Cm_joining_94 (by decide) ?_
            exact wb_Cm_joining_106 C0 hE N G hG _ _ _ _ hf H locs hP hD hS ls (lv_sub hl [0, 1] rfl)
          · rw [br_n _ hc35] at hf
            by_cases hc43 : v1 = 43
            · rw [br_p _ hc43] at hf
              refine lv_lookup (tgt := 68) hx hb d_Cm_joining_1 (by decide) (by rw [hc43] <;> rfl) (by decide) ?_
              refine lv_aload_n hx hb d_Cm_joining_68 rfl (lv_at hl 0 rfl) ?_
              refine lv_iload_n hx hb d_Cm_joining_69 rfl (lv_at hl 2 rfl) ?_
              obtain ⟨hO9, hf⟩ := ck_some hf
              obtain ⟨u19, r19, hc19, hf⟩ := bx_some hf
              refine xV0 (i := v0) (As := [.int v2]) (rest := []) C0 hP hD hS ck_Cm hO9 (c_Cm_notInGuard N hE hc19) k_Cm_notInGuard (wd_of 1194 (by decide +kernel) rfl) hi_Cm_notInGuard hs_Cm_notInGuard hini_Cm rfl rfl hd_Cm_notInGuard rfl rm_Cm_joining_Cm_notInGuard hl.1 (Nat.le_of_ble_eq_true rfl) d_Cm_joining_70 rfl ⟨Nat.zero_le _, Nat.zero_le _⟩ (fun H locs hP hD hS => ?_)
              refine lv_aload_n hx hb d_Cm_joining_73 rfl (lv_at hl 0 rfl) ?_
              obtain ⟨r20, g20, hf⟩ := bo_some hf
              refine xg_R (i := v0) (k := 2) hx hb ht hown ck_Cm hK hP (by decide) fk_Cm_43 g20 d_Cm_joining_74 ?_
              refine lv_bipush (v := 10) hx hb d_Cm_joining_77 (by decide) ?_
              obtain ⟨j22, ej22, hf⟩ := bo_some hf
              rw [ej22]
              obtain ⟨hO9, hf⟩ := ck_some hf
              obtain ⟨u21, r21, hc21, hf⟩ := bx_some hf
              refine xV0 (i := j22) (As := [.int 10]) (rest := []) C0 hP hD hS ck_Co hO9 (c_Co_put N hc21) k_Co_put (wd_of 1149 (by decide +kernel) rfl) hi_Co_put hs_Co_put hini_Co rfl rfl hd_Co_put rfl rm_Cm_joining_Co_put hl.1 (Nat.le_of_ble_eq_true rfl) d_Cm_joining_79 rfl ⟨Nat.zero_le _, Nat.zero_le _⟩ (fun H locs hP hD hS => ?_)
              refine lv_goto (tgt := 106) hx hb d_Cm_joining_82 (by decide) ?_
              exact wb_Cm_joining_106 C0 hE N G hG _ _ _ _ hf H locs hP hD hS ls (lv_sub hl [0, 1] rfl)
            · rw [br_n _ hc43] at hf
              by_cases hc44 : v1 = 44
              · rw [br_p _ hc44] at hf
                refine lv_lookup (tgt := 68) hx hb d_Cm_joining_1 (by decide) (by rw [hc44] <;> rfl) (by decide) ?_
                refine lv_aload_n hx hb d_Cm_joining_68 rfl (lv_at hl 0 rfl) ?_
                refine lv_iload_n hx hb d_Cm_joining_69 rfl (lv_at hl 2 rfl) ?_
                obtain ⟨hO9, hf⟩ := ck_some hf
                obtain ⟨u23, r23, hc23, hf⟩ := bx_some hf
                refine xV0 (i := v0) (As := [.int v2]) (rest := []) C0 hP hD hS ck_Cm hO9 (c_Cm_notInGuard N hE hc23) k_Cm_notInGuard (wd_of 1194 (by decide +kernel) rfl) hi_Cm_notInGuard hs_Cm_notInGuard hini_Cm rfl rfl hd_Cm_notInGuard rfl rm_Cm_joining_Cm_notInGuard hl.1 (Nat.le_of_ble_eq_true rfl) d_Cm_joining_70 rfl ⟨Nat.zero_le _, Nat.zero_le _⟩ (fun H locs hP hD hS => ?_)
                refine lv_aload_n hx hb d_Cm_joining_73 rfl (lv_at hl 0 rfl) ?_
                obtain ⟨r24, g24, hf⟩ := bo_some hf
                refine xg_R (i := v0) (k := 2) hx hb ht hown ck_Cm hK hP (by decide) fk_Cm_43 g24 d_Cm_joining_74 ?_
                refine lv_bipush (v := 10) hx hb d_Cm_joining_77 (by decide) ?_
                obtain ⟨j26, ej26, hf⟩ := bo_some hf
                rw [ej26]
                obtain ⟨hO9, hf⟩ := ck_some hf
                obtain ⟨u25, r25, hc25, hf⟩ := bx_some hf
                refine xV0 (i := j26) (As := [.int 10]) (rest := []) C0 hP hD hS ck_Co hO9 (c_Co_put N hc25) k_Co_put (wd_of 1149 (by decide +kernel) rfl) hi_Co_put hs_Co_put hini_Co rfl rfl hd_Co_put rfl rm_Cm_joining_Co_put hl.1 (Nat.le_of_ble_eq_true rfl) d_Cm_joining_79 rfl ⟨Nat.zero_le _, Nat.zero_le _⟩ (fun H locs hP hD hS => ?_)
                refine lv_goto (tgt := 106) hx hb d_Cm_joining_82 (by decide) ?_
                exact wb_Cm_joining_106 C0 hE N G hG _ _ _ _ hf H locs hP hD hS ls (lv_sub hl [0, 1] rfl)
              · rw [br_n _ hc44] at hf
                refine lv_lookup (off := 96) (tgt := 97) hx hb d_Cm_joining_1 (by decide) (by show Op.lookupswitch.offset [(10, 84), (18, 84), (33, 84), (34, 84), (35, 84), (43, 67), (44, 67)] _ _ = _; refine (lv_osw hc10 (by decide)).trans ?_; refine (lv_osw hc18 (by decide)).trans ?_; refine (lv_osw hc33 (by decide)).trans ?_; refine (lv_osw hc34 (by decide)).trans ?_; refine (lv_osw hc35 (by decide)).trans ?_; refine (lv_osw hc43 (by decide)).trans ?_; refine (lv_osw hc44 (by decide)).trans ?_; rfl) (by decide) ?_
                refine lv_aload_n hx hb d_Cm_joining_97 rfl (lv_at hl 0 rfl) ?_
                obtain ⟨r27, g27, hf⟩ := bo_some hf
                refine xg_R (i := v0) (k := 2) hx hb ht hown ck_Cm hK hP (by decide) fk_Cm_43 g27 d_Cm_joining_98 ?_
                refine lv_bipush (v := 8) hx hb d_Cm_joining_101 (by decide) ?_
                obtain ⟨j29, ej29, hf⟩ := bo_some hf
                rw [ej29]
                obtain ⟨hO9, hf⟩ := ck_some hf
                obtain ⟨u28, r28, hc28, hf⟩ := bx_some hf
                refine xV0 (i := j29) (As := [.int 8]) (rest := []) C0 hP hD hS ck_Co hO9 (c_Co_put N hc28) k_Co_put (wd_of 1149 (by decide +kernel) rfl) hi_Co_put hs_Co_put hini_Co rfl rfl hd_Co_put rfl rm_Cm_joining_Co_put hl.1 (Nat.le_of_ble_eq_true rfl) d_Cm_joining_103 rfl ⟨Nat.zero_le _, Nat.zero_le _⟩ (fun H locs hP hD hS => ?_)
                exact wb_Cm_joining_106 C0 hE N G hG _ _ _ _ hf H locs hP hD hS ls (lv_sub hl [0, 1] rfl)
def fm_Cm_joining (N : Nat) (u : CS) (v0 : Nat) (v1 : Int32) (v2 : Int32) : Option (CS × Unit) := fb_Cm_joining_0 N () u v0 v1 v2
set_option maxRecDepth 100000 in
set_option maxHeartbeats 4000000 in
theorem c_Cm_joining (N : Nat) {l : Launch} {s0 : State} {b0 : Nat} {D : va_G} {cB cI cJ cZ cS cP : ClassId} {sk sv : Nat → Nat} {ad : Nat → Nat} {u : CS} {sz : Nat} {v0 : Nat} {v1 : Int32} {v2 : Int32} {x : CS × Unit} (hE : ENV s0 b0 sk sv) (hf : fm_Cm_joining N u v0 v1 v2 = some x) : Met l y_Cm_joining (wd_ws y_Cm_joining b_Cm_joining 3 none) rm_Cm_joining (xPc s0 b0 D cB cI cJ cZ cS cP ad u sz [.ref (ad v0), .int v1, .int v2]) (xQ0 D cB cI cJ cZ cS cP (xA cB cI cJ cZ cS cP ad u sz) ad x.1 none) 0 0 (xA cB cI cJ cZ cS cP ad u sz) :=
  xMet (by decide) rfl (Nat.le_of_ble_eq_true rfl) (fun p e s m below meth c ls hsz hnm C0 hP hD hS hl =>
    wb_Cm_joining_0 C0 hE N () trivial u _ _ _ x hf s.heap [] hP hD hS ls (lv_sub hl [0, 1, 2] rfl))
abbrev b_Cm_funOf : ByteArray := prog_3_method_26_code
def y_Cm_funOf : MethodName := ⟨R_Cm, "funOf", "(I)V"⟩
def w_Cm_funOf : List Cond := wd_ws y_Cm_funOf b_Cm_funOf 3 none
set_option maxRecDepth 100000 in
theorem k_Cm_funOf : Cond.code y_Cm_funOf b_Cm_funOf 3 none ∈ wd_tbl := wd_of 1267 rfl rfl
theorem d_Cm_funOf_0 : decode b_Cm_funOf 0 = .ok (.aload_n 0, 1) := by decide +kernel
theorem d_Cm_funOf_1 : decode b_Cm_funOf 1 = .ok (.getfield 43, 3) := by decide +kernel
theorem d_Cm_funOf_4 : decode b_Cm_funOf 4 = .ok (.aload_n 0, 1) := by decide +kernel
theorem d_Cm_funOf_5 : decode b_Cm_funOf 5 = .ok (.getfield 39, 3) := by decide +kernel
theorem d_Cm_funOf_8 : decode b_Cm_funOf 8 = .ok (.getfield 125, 3) := by decide +kernel
theorem d_Cm_funOf_11 : decode b_Cm_funOf 11 = .ok (.iload_n 1, 1) := by decide +kernel
theorem d_Cm_funOf_12 : decode b_Cm_funOf 12 = .ok (.iaload, 1) := by decide +kernel
theorem d_Cm_funOf_13 : decode b_Cm_funOf 13 = .ok (.aload_n 0, 1) := by decide +kernel
theorem d_Cm_funOf_14 : decode b_Cm_funOf 14 = .ok (.getfield 39, 3) := by decide +kernel
theorem d_Cm_funOf_17 : decode b_Cm_funOf 17 = .ok (.getfield 171, 3) := by decide +kernel
theorem d_Cm_funOf_20 : decode b_Cm_funOf 20 = .ok (.iload_n 1, 1) := by decide +kernel
theorem d_Cm_funOf_21 : decode b_Cm_funOf 21 = .ok (.iaload, 1) := by decide +kernel
theorem d_Cm_funOf_22 : decode b_Cm_funOf 22 = .ok (.invokevirtual 107, 3) := by decide +kernel
theorem d_Cm_funOf_25 : decode b_Cm_funOf 25 = .ok (.istore_n 2, 1) := by decide +kernel
theorem d_Cm_funOf_26 : decode b_Cm_funOf 26 = .ok (.iload_n 2, 1) := by decide +kernel
theorem d_Cm_funOf_27 : decode b_Cm_funOf 27 = .ok (.iconst (-1), 1) := by decide +kernel
theorem d_Cm_funOf_28 : decode b_Cm_funOf 28 = .ok (.if_icmp .ne 20, 3) := by decide +kernel
theorem d_Cm_funOf_31 : decode b_Cm_funOf 31 = .ok (.aload_n 0, 1) := by decide +kernel
theorem d_Cm_funOf_32 : decode b_Cm_funOf 32 = .ok (.aload_n 0, 1) := by decide +kernel
theorem d_Cm_funOf_33 : decode b_Cm_funOf 33 = .ok (.getfield 39, 3) := by decide +kernel
theorem d_Cm_funOf_36 : decode b_Cm_funOf 36 = .ok (.getfield 93, 3) := by decide +kernel
theorem d_Cm_funOf_39 : decode b_Cm_funOf 39 = .ok (.iload_n 1, 1) := by decide +kernel
theorem d_Cm_funOf_40 : decode b_Cm_funOf 40 = .ok (.iaload, 1) := by decide +kernel
theorem d_Cm_funOf_41 : decode b_Cm_funOf 41 = .ok (.iconst 1, 1) := by decide +kernel
theorem d_Cm_funOf_42 : decode b_Cm_funOf 42 = .ok (.iadd, 1) := by decide +kernel
theorem d_Cm_funOf_43 : decode b_Cm_funOf 43 = .ok (.bipush 6, 2) := by decide +kernel
theorem d_Cm_funOf_45 : decode b_Cm_funOf 45 = .ok (.invokevirtual 89, 3) := by decide +kernel
theorem d_Cm_funOf_48 : decode b_Cm_funOf 48 = .ok (.aload_n 0, 1) := by decide +kernel
theorem d_Cm_funOf_49 : decode b_Cm_funOf 49 = .ok (.getfield 43, 3) := by decide +kernel
theorem d_Cm_funOf_52 : decode b_Cm_funOf 52 = .ok (.bipush 7, 2) := by decide +kernel
theorem d_Cm_funOf_54 : decode b_Cm_funOf 54 = .ok (.invokevirtual 142, 3) := by decide +kernel
theorem d_Cm_funOf_57 : decode b_Cm_funOf 57 = .ok (.aload_n 0, 1) := by decide +kernel
theorem d_Cm_funOf_58 : decode b_Cm_funOf 58 = .ok (.getfield 43, 3) := by decide +kernel
theorem d_Cm_funOf_61 : decode b_Cm_funOf 61 = .ok (.iload_n 2, 1) := by decide +kernel
theorem d_Cm_funOf_62 : decode b_Cm_funOf 62 = .ok (.invokevirtual 142, 3) := by decide +kernel
theorem d_Cm_funOf_65 : decode b_Cm_funOf 65 = .ok (.return_, 1) := by decide +kernel
set_option maxRecDepth 100000 in
theorem hl_Cm_funOf : Cond.methodLink R_Cm 241 y_Cm_funOf ∈ wd_tbl := wd_of 1264 (by decide +kernel) rfl
set_option maxRecDepth 100000 in
theorem hi_Cm_funOf : Cond.instanceMethod y_Cm_funOf ∈ wd_tbl := wd_of 1266 (by decide +kernel) rfl
set_option maxRecDepth 100000 in
theorem hs_Cm_funOf : Cond.selects R_Cm y_Cm_funOf y_Cm_funOf ∈ wd_tbl := wd_of 64 (by decide +kernel) rfl
theorem hd_Cm_funOf : y_Cm_funOf.cls = R_Cm ∧ y_Cm_funOf.cls ≠ "java/lang/invoke/MethodHandle" ∧ y_Cm_funOf.cls ≠ "java/lang/invoke/VarHandle" ∧ (parseMethodDescriptor y_Cm_funOf.desc).map (fun d => d.parameters.length) = some 1 := by decide +kernel
def rm_Cm_funOf : Room := { frames := 2, cells := 0, slots := 0, locals := 45 }
theorem rm_Cm_funOf_Co_seek : (rm_Co_seek).frames + 1 ≤ rm_Cm_funOf.frames ∧ 8 + (4 + 11) + (rm_Co_seek).locals ≤ rm_Cm_funOf.locals := by
  show 0 + 1 ≤ 2 ∧ 8 + (4 + 11) + 0 ≤ 45
  decide
theorem rm_Cm_funOf_Cm_fault : (rm_Cm_fault).frames + 1 ≤ rm_Cm_funOf.frames ∧ 8 + (3 + 11) + (rm_Cm_fault).locals ≤ rm_Cm_funOf.locals := by
  show 1 + 1 ≤ 2 ∧ 8 + (3 + 11) + 23 ≤ 45
  decide
theorem rm_Cm_funOf_Co_put : (rm_Co_put).frames + 1 ≤ rm_Cm_funOf.frames ∧ 8 + (2 + 11) + (rm_Co_put).locals ≤ rm_Cm_funOf.locals := by
  show 0 + 1 ≤ 2 ∧ 8 + (2 + 11) + 0 ≤ 45
  decide
def fb_Cm_funOf_48 (N : Nat) (G : Unit) (u : CS) (v0 : Nat) (v2 : Int32) : Option (CS × Unit) := bo (gR u v0 3 2) (fun r1 => bo r1 (fun j3 => ck (isO u j3 2) (bx (fm_Co_put N u j3 7) (fun u2 r2 => bo (gR u2 v0 3 2) (fun r4 => bo r4 (fun j6 => ck (isO u2 j6 2) (bx (fm_Co_put N u2 j6 v2) (fun u5 r5 => some (u5, ())))))))))
set_option maxRecDepth 100000 in
set_option maxHeartbeats 4000000 in
theorem wb_Cm_funOf_48 {p : Program} {l : Launch} {e : Env} {s : State} {m : MethodId} {args : Array Value} {below : List Frame} {meth : Method} {c : Code} {s0 : State} {b0 : Nat} {D : va_G} {cB cI cJ cZ cS cP : ClassId} {A : Nat → Prop} {sk sv : Nat → Nat} {ad : Nat → Nat} (C0 : XCx p s s0 b0 m args meth c R_Cm b_Cm_funOf 3 none D cB cI cJ cZ cS cP A) (hE : ENV s0 b0 sk sv) (N : Nat) (G : Unit) (hG : True) : ∀ (u : CS) (v0 : Nat) (v2 : Int32) (x : CS × Unit), fb_Cm_funOf_48 N G u v0 v2 = some x → ∀ (H : Heap) (locs : List Loc), va_P D cls (wC cB cI cJ cZ cS cP ad u) H → va_D A (wC cB cI cJ cZ cS cP ad u) → va_S A s.heap H locs → ∀ (ls : Array Slot), lv_has ls 3 [(0, .ref (ad v0)), (2, .int v2)] → W p l e rm_Cm_funOf s m args below meth c H locs 0 0 (MQ below (xQ0 D cB cI cJ cZ cS cP A ad x.1 none) args s 0 0 A) (F0 m 48 ls []) := by
  intro u v0 v2 x hf H locs hP hD hS ls hl
  obtain ⟨hx, hb, hr, hml, ht, hown, hK, hA, hlocks, hA0, hO, hbs⟩ := id C0
  unfold fb_Cm_funOf_48 at hf
  refine lv_aload_n hx hb d_Cm_funOf_48 rfl (lv_at hl 0 rfl) ?_
  obtain ⟨r1, g1, hf⟩ := bo_some hf
  refine xg_R (i := v0) (k := 2) hx hb ht hown ck_Cm hK hP (by decide) fk_Cm_43 g1 d_Cm_funOf_49 ?_
  refine lv_bipush (v := 7) hx hb d_Cm_funOf_52 (by decide) ?_
  obtain ⟨j3, ej3, hf⟩ := bo_some hf
  rw [ej3]
  obtain ⟨hO9, hf⟩ := ck_some hf
  obtain ⟨u2, r2, hc2, hf⟩ := bx_some hf
  refine xV0 (i := j3) (As := [.int 7]) (rest := []) C0 hP hD hS ck_Co hO9 (c_Co_put N hc2) k_Co_put (wd_of 1149 (by decide +kernel) rfl) hi_Co_put hs_Co_put hini_Co rfl rfl hd_Co_put rfl rm_Cm_funOf_Co_put hl.1 (Nat.le_of_ble_eq_true rfl) d_Cm_funOf_54 rfl ⟨Nat.zero_le _, Nat.zero_le _⟩ (fun H locs hP hD hS => ?_)
  refine lv_aload_n hx hb d_Cm_funOf_57 rfl (lv_at hl 0 rfl) ?_
  obtain ⟨r4, g4, hf⟩ := bo_some hf
  refine xg_R (i := v0) (k := 2) hx hb ht hown ck_Cm hK hP (by decide) fk_Cm_43 g4 d_Cm_funOf_58 ?_
  refine lv_iload_n hx hb d_Cm_funOf_61 rfl (lv_at hl 1 rfl) ?_
  obtain ⟨j6, ej6, hf⟩ := bo_some hf
  rw [ej6]
  obtain ⟨hO9, hf⟩ := ck_some hf
  obtain ⟨u5, r5, hc5, hf⟩ := bx_some hf
  refine xV0 (i := j6) (As := [.int v2]) (rest := []) C0 hP hD hS ck_Co hO9 (c_Co_put N hc5) k_Co_put (wd_of 1149 (by decide +kernel) rfl) hi_Co_put hs_Co_put hini_Co rfl rfl hd_Co_put rfl rm_Cm_funOf_Co_put hl.1 (Nat.le_of_ble_eq_true rfl) d_Cm_funOf_62 rfl ⟨Nat.zero_le _, Nat.zero_le _⟩ (fun H locs hP hD hS => ?_)
  exact xr0_v C0 hP hD hS hf d_Cm_funOf_65
def fb_Cm_funOf_0 (N : Nat) (G : Unit) (u : CS) (v0 : Nat) (v1 : Int32) : Option (CS × Unit) := bo (gR u v0 3 2) (fun r7 => bo (gR u v0 3 1) (fun r8 => bo r8 (fun j9 => bo (gR u j9 10 2) (fun r10 => bo r10 (fun j11 => bo (aI u j11 4 v1) (fun r12 => bo (gR u v0 3 1) (fun r13 => bo r13 (fun j14 => bo (gR u j14 10 3) (fun r15 => bo r15 (fun j16 => bo (aI u j16 4 v1) (fun r17 => bo r7 (fun j19 => ck (isO u j19 2) (bx (fm_Co_seek N u j19 r12 r17) (fun u18 r18 => br (decide (r18 = (-1))) (bo (gR u18 v0 3 1) (fun r20 => bo r20 (fun j21 => bo (gR u18 j21 10 1) (fun r22 => bo r22 (fun j23 => bo (aI u18 j23 4 v1) (fun r24 => ck (isO u18 v0 3) (bx (fm_Cm_fault N u18 v0 (r24 + 1) 6) (fun u25 r25 => fb_Cm_funOf_48 N G u25 (v0) (r18))))))))) (fb_Cm_funOf_48 N G u18 (v0) (r18))))))))))))))))
set_option maxRecDepth 100000 in
set_option maxHeartbeats 4000000 in
theorem wb_Cm_funOf_0 {p : Program} {l : Launch} {e : Env} {s : State} {m : MethodId} {args : Array Value} {below : List Frame} {meth : Method} {c : Code} {s0 : State} {b0 : Nat} {D : va_G} {cB cI cJ cZ cS cP : ClassId} {A : Nat → Prop} {sk sv : Nat → Nat} {ad : Nat → Nat} (C0 : XCx p s s0 b0 m args meth c R_Cm b_Cm_funOf 3 none D cB cI cJ cZ cS cP A) (hE : ENV s0 b0 sk sv) (N : Nat) (G : Unit) (hG : True) : ∀ (u : CS) (v0 : Nat) (v1 : Int32) (x : CS × Unit), fb_Cm_funOf_0 N G u v0 v1 = some x → ∀ (H : Heap) (locs : List Loc), va_P D cls (wC cB cI cJ cZ cS cP ad u) H → va_D A (wC cB cI cJ cZ cS cP ad u) → va_S A s.heap H locs → ∀ (ls : Array Slot), lv_has ls 3 [(0, .ref (ad v0)), (1, .int v1)] → W p l e rm_Cm_funOf s m args below meth c H locs 0 0 (MQ below (xQ0 D cB cI cJ cZ cS cP A ad x.1 none) args s 0 0 A) (F0 m 0 ls []) := by
  intro u v0 v1 x hf H locs hP hD hS ls hl
  obtain ⟨hx, hb, hr, hml, ht, hown, hK, hA, hlocks, hA0, hO, hbs⟩ := id C0
  unfold fb_Cm_funOf_0 at hf
  refine lv_aload_n hx hb d_Cm_funOf_0 rfl (lv_at hl 0 rfl) ?_
  obtain ⟨r7, g7, hf⟩ := bo_some hf
  refine xg_R (i := v0) (k := 2) hx hb ht hown ck_Cm hK hP (by decide) fk_Cm_43 g7 d_Cm_funOf_1 ?_
  refine lv_aload_n hx hb d_Cm_funOf_4 rfl (lv_at hl 0 rfl) ?_
  obtain ⟨r8, g8, hf⟩ := bo_some hf
  refine xg_R (i := v0) (k := 1) hx hb ht hown ck_Cm hK hP (by decide) fk_Cm_39 g8 d_Cm_funOf_5 ?_
  obtain ⟨j9, ej9, hf⟩ := bo_some hf
  rw [ej9]
  obtain ⟨r10, g10, hf⟩ := bo_some hf
  refine xg_R (i := j9) (k := 2) hx hb ht hown ck_Tr hK hP (by decide) fk_Cm_125 g10 d_Cm_funOf_8 ?_
  refine lv_iload_n hx hb d_Cm_funOf_11 rfl (lv_at hl 1 rfl) ?_
  obtain ⟨j11, ej11, hf⟩ := bo_some hf
  rw [ej11]
  obtain ⟨r12, g12, hf⟩ := bo_some hf
  refine xl_I (i := j11) hx hb hK hP g12 d_Cm_funOf_12 ?_
  refine lv_aload_n hx hb d_Cm_funOf_13 rfl (lv_at hl 0 rfl) ?_
  obtain ⟨r13, g13, hf⟩ := bo_some hf
  refine xg_R (i := v0) (k := 1) hx hb ht hown ck_Cm hK hP (by decide) fk_Cm_39 g13 d_Cm_funOf_14 ?_
  obtain ⟨j14, ej14, hf⟩ := bo_some hf
  rw [ej14]
  obtain ⟨r15, g15, hf⟩ := bo_some hf
  refine xg_R (i := j14) (k := 3) hx hb ht hown ck_Tr hK hP (by decide) fk_Cm_171 g15 d_Cm_funOf_17 ?_
  refine lv_iload_n hx hb d_Cm_funOf_20 rfl (lv_at hl 1 rfl) ?_
  obtain ⟨j16, ej16, hf⟩ := bo_some hf
  rw [ej16]
  obtain ⟨r17, g17, hf⟩ := bo_some hf
  refine xl_I (i := j16) hx hb hK hP g17 d_Cm_funOf_21 ?_
  obtain ⟨j19, ej19, hf⟩ := bo_some hf
  rw [ej19]
  obtain ⟨hO9, hf⟩ := ck_some hf
  obtain ⟨u18, r18, hc18, hf⟩ := bx_some hf
  refine xV0 (i := j19) (As := [.int r12, .int r17]) (rest := []) C0 hP hD hS ck_Co hO9 (c_Co_seek N hc18) k_Co_seek (wd_of 1119 (by decide +kernel) rfl) hi_Co_seek hs_Co_seek hini_Co rfl rfl hd_Co_seek rfl rm_Cm_funOf_Co_seek hl.1 (Nat.le_of_ble_eq_true rfl) d_Cm_funOf_22 rfl ⟨Nat.zero_le _, Nat.zero_le _⟩ (fun H locs hP hD hS => ?_)
  refine lv_istore_n (lv' := [(2, .int r18), (0, .ref (ad v0)), (1, .int v1)]) hx hb d_Cm_funOf_25 rfl hl (by decide) (by first | rfl | simp [List.filter, cat_rf]) (fun ls hl => ?_)
  refine lv_iload_n hx hb d_Cm_funOf_26 rfl (lv_at hl 0 rfl) ?_
  refine lv_iconst (v := (-1)) hx hb d_Cm_funOf_27 (by decide) ?_
  refine lv_icmp_ne (tgt := 48) hx hb d_Cm_funOf_28 (by decide) (fun hc => ?_) (fun hc => ?_)
  · rw [br_n _ hc] at hf
    exact wb_Cm_funOf_48 C0 hE N G hG _ _ _ _ hf H locs hP hD hS ls (lv_sub hl [1, 0] rfl)
  · rw [br_p _ hc] at hf
    refine lv_aload_n hx hb d_Cm_funOf_31 rfl (lv_at hl 1 rfl) ?_
    refine lv_aload_n hx hb d_Cm_funOf_32 rfl (lv_at hl 1 rfl) ?_
    obtain ⟨r20, g20, hf⟩ := bo_some hf
    refine xg_R (i := v0) (k := 1) hx hb ht hown ck_Cm hK hP (by decide) fk_Cm_39 g20 d_Cm_funOf_33 ?_
    obtain ⟨j21, ej21, hf⟩ := bo_some hf
    rw [ej21]
    obtain ⟨r22, g22, hf⟩ := bo_some hf
    refine xg_R (i := j21) (k := 1) hx hb ht hown ck_Tr hK hP (by decide) fk_Cm_93 g22 d_Cm_funOf_36 ?_
    refine lv_iload_n hx hb d_Cm_funOf_39 rfl (lv_at hl 2 rfl) ?_
    obtain ⟨j23, ej23, hf⟩ := bo_some hf
    rw [ej23]
    obtain ⟨r24, g24, hf⟩ := bo_some hf
    refine xl_I (i := j23) hx hb hK hP g24 d_Cm_funOf_40 ?_
    refine lv_iconst (v := 1) hx hb d_Cm_funOf_41 (by decide) ?_
    refine lv_iadd hx hb d_Cm_funOf_42 ?_
    refine lv_bipush (v := 6) hx hb d_Cm_funOf_43 (by decide) ?_
    obtain ⟨hO9, hf⟩ := ck_some hf
    obtain ⟨u25, r25, hc25, hf⟩ := bx_some hf
    refine xV0 (i := v0) (As := [.int (r24 + 1), .int 6]) (rest := []) C0 hP hD hS ck_Cm hO9 (c_Cm_fault N hE hc25) k_Cm_fault (wd_of 1133 (by decide +kernel) rfl) hi_Cm_fault hs_Cm_fault hini_Cm rfl rfl hd_Cm_fault rfl rm_Cm_funOf_Cm_fault hl.1 (Nat.le_of_ble_eq_true rfl) d_Cm_funOf_45 rfl ⟨Nat.zero_le _, Nat.zero_le _⟩ (fun H locs hP hD hS => ?_)
    exact wb_Cm_funOf_48 C0 hE N G hG _ _ _ _ hf H locs hP hD hS ls (lv_sub hl [1, 0] rfl)
def fm_Cm_funOf (N : Nat) (u : CS) (v0 : Nat) (v1 : Int32) : Option (CS × Unit) := fb_Cm_funOf_0 N () u v0 v1
set_option maxRecDepth 100000 in
set_option maxHeartbeats 4000000 in
theorem c_Cm_funOf (N : Nat) {l : Launch} {s0 : State} {b0 : Nat} {D : va_G} {cB cI cJ cZ cS cP : ClassId} {sk sv : Nat → Nat} {ad : Nat → Nat} {u : CS} {sz : Nat} {v0 : Nat} {v1 : Int32} {x : CS × Unit} (hE : ENV s0 b0 sk sv) (hf : fm_Cm_funOf N u v0 v1 = some x) : Met l y_Cm_funOf (wd_ws y_Cm_funOf b_Cm_funOf 3 none) rm_Cm_funOf (xPc s0 b0 D cB cI cJ cZ cS cP ad u sz [.ref (ad v0), .int v1]) (xQ0 D cB cI cJ cZ cS cP (xA cB cI cJ cZ cS cP ad u sz) ad x.1 none) 0 0 (xA cB cI cJ cZ cS cP ad u sz) :=
  xMet (by decide) rfl (Nat.le_of_ble_eq_true rfl) (fun p e s m below meth c ls hsz hnm C0 hP hD hS hl =>
    wb_Cm_funOf_0 C0 hE N () trivial u _ _ x hf s.heap [] hP hD hS ls (lv_sub hl [0, 1] rfl))
abbrev b_Cm_fun : ByteArray := prog_3_method_24_code
def y_Cm_fun : MethodName := ⟨R_Cm, "fun", "(I)V"⟩
def w_Cm_fun : List Cond := wd_ws y_Cm_fun b_Cm_fun 9 none
set_option maxRecDepth 100000 in
theorem k_Cm_fun : Cond.code y_Cm_fun b_Cm_fun 9 none ∈ wd_tbl := wd_of 1257 rfl rfl
theorem d_Cm_fun_0 : decode b_Cm_fun 0 = .ok (.aload_n 0, 1) := by decide +kernel
theorem d_Cm_fun_1 : decode b_Cm_fun 1 = .ok (.getfield 39, 3) := by decide +kernel
theorem d_Cm_fun_4 : decode b_Cm_fun 4 = .ok (.getfield 125, 3) := by decide +kernel
theorem d_Cm_fun_7 : decode b_Cm_fun 7 = .ok (.iload_n 1, 1) := by decide +kernel
theorem d_Cm_fun_8 : decode b_Cm_fun 8 = .ok (.iaload, 1) := by decide +kernel
theorem d_Cm_fun_9 : decode b_Cm_fun 9 = .ok (.istore_n 2, 1) := by decide +kernel
theorem d_Cm_fun_10 : decode b_Cm_fun 10 = .ok (.aload_n 0, 1) := by decide +kernel
theorem d_Cm_fun_11 : decode b_Cm_fun 11 = .ok (.getfield 39, 3) := by decide +kernel
theorem d_Cm_fun_14 : decode b_Cm_fun 14 = .ok (.getfield 171, 3) := by decide +kernel
theorem d_Cm_fun_17 : decode b_Cm_fun 17 = .ok (.iload_n 1, 1) := by decide +kernel
theorem d_Cm_fun_18 : decode b_Cm_fun 18 = .ok (.iaload, 1) := by decide +kernel
theorem d_Cm_fun_19 : decode b_Cm_fun 19 = .ok (.istore_n 3, 1) := by decide +kernel
theorem d_Cm_fun_20 : decode b_Cm_fun 20 = .ok (.aload_n 0, 1) := by decide +kernel
theorem d_Cm_fun_21 : decode b_Cm_fun 21 = .ok (.getfield 39, 3) := by decide +kernel
theorem d_Cm_fun_24 : decode b_Cm_fun 24 = .ok (.aload_n 0, 1) := by decide +kernel
theorem d_Cm_fun_25 : decode b_Cm_fun 25 = .ok (.getfield 39, 3) := by decide +kernel
theorem d_Cm_fun_28 : decode b_Cm_fun 28 = .ok (.getfield 125, 3) := by decide +kernel
theorem d_Cm_fun_31 : decode b_Cm_fun 31 = .ok (.iload_n 3, 1) := by decide +kernel
theorem d_Cm_fun_32 : decode b_Cm_fun 32 = .ok (.iaload, 1) := by decide +kernel
theorem d_Cm_fun_33 : decode b_Cm_fun 33 = .ok (.invokevirtual 128, 3) := by decide +kernel
theorem d_Cm_fun_36 : decode b_Cm_fun 36 = .ok (.istore 4, 2) := by decide +kernel
theorem d_Cm_fun_38 : decode b_Cm_fun 38 = .ok (.aload_n 0, 1) := by decide +kernel
theorem d_Cm_fun_39 : decode b_Cm_fun 39 = .ok (.getfield 59, 3) := by decide +kernel
theorem d_Cm_fun_42 : decode b_Cm_fun 42 = .ok (.istore 5, 2) := by decide +kernel
theorem d_Cm_fun_44 : decode b_Cm_fun 44 = .ok (.aload_n 0, 1) := by decide +kernel
theorem d_Cm_fun_45 : decode b_Cm_fun 45 = .ok (.iconst 0, 1) := by decide +kernel
theorem d_Cm_fun_46 : decode b_Cm_fun 46 = .ok (.putfield 59, 3) := by decide +kernel
theorem d_Cm_fun_49 : decode b_Cm_fun 49 = .ok (.aload_n 0, 1) := by decide +kernel
theorem d_Cm_fun_50 : decode b_Cm_fun 50 = .ok (.getfield 43, 3) := by decide +kernel
theorem d_Cm_fun_53 : decode b_Cm_fun 53 = .ok (.bipush 18, 2) := by decide +kernel
theorem d_Cm_fun_55 : decode b_Cm_fun 55 = .ok (.invokevirtual 142, 3) := by decide +kernel
theorem d_Cm_fun_58 : decode b_Cm_fun 58 = .ok (.aload_n 0, 1) := by decide +kernel
theorem d_Cm_fun_59 : decode b_Cm_fun 59 = .ok (.getfield 43, 3) := by decide +kernel
theorem d_Cm_fun_62 : decode b_Cm_fun 62 = .ok (.iconst 0, 1) := by decide +kernel
theorem d_Cm_fun_63 : decode b_Cm_fun 63 = .ok (.invokevirtual 165, 3) := by decide +kernel
theorem d_Cm_fun_66 : decode b_Cm_fun 66 = .ok (.istore 6, 2) := by decide +kernel
theorem d_Cm_fun_68 : decode b_Cm_fun 68 = .ok (.aload_n 0, 1) := by decide +kernel
theorem d_Cm_fun_69 : decode b_Cm_fun 69 = .ok (.getfield 43, 3) := by decide +kernel
theorem d_Cm_fun_72 : decode b_Cm_fun 72 = .ok (.getfield 244, 3) := by decide +kernel
theorem d_Cm_fun_75 : decode b_Cm_fun 75 = .ok (.iload_n 2, 1) := by decide +kernel
theorem d_Cm_fun_76 : decode b_Cm_fun 76 = .ok (.iload 4, 2) := by decide +kernel
theorem d_Cm_fun_78 : decode b_Cm_fun 78 = .ok (.iastore, 1) := by decide +kernel
theorem d_Cm_fun_79 : decode b_Cm_fun 79 = .ok (.aload_n 0, 1) := by decide +kernel
theorem d_Cm_fun_80 : decode b_Cm_fun 80 = .ok (.getfield 43, 3) := by decide +kernel
theorem d_Cm_fun_83 : decode b_Cm_fun 83 = .ok (.getfield 247, 3) := by decide +kernel
theorem d_Cm_fun_86 : decode b_Cm_fun 86 = .ok (.iload_n 2, 1) := by decide +kernel
theorem d_Cm_fun_87 : decode b_Cm_fun 87 = .ok (.aload_n 0, 1) := by decide +kernel
theorem d_Cm_fun_88 : decode b_Cm_fun 88 = .ok (.getfield 43, 3) := by decide +kernel
theorem d_Cm_fun_91 : decode b_Cm_fun 91 = .ok (.getfield 122, 3) := by decide +kernel
theorem d_Cm_fun_94 : decode b_Cm_fun 94 = .ok (.iastore, 1) := by decide +kernel
theorem d_Cm_fun_95 : decode b_Cm_fun 95 = .ok (.aload_n 0, 1) := by decide +kernel
theorem d_Cm_fun_96 : decode b_Cm_fun 96 = .ok (.aload_n 0, 1) := by decide +kernel
theorem d_Cm_fun_97 : decode b_Cm_fun 97 = .ok (.getfield 113, 3) := by decide +kernel
theorem d_Cm_fun_100 : decode b_Cm_fun 100 = .ok (.iconst 1, 1) := by decide +kernel
theorem d_Cm_fun_101 : decode b_Cm_fun 101 = .ok (.iadd, 1) := by decide +kernel
theorem d_Cm_fun_102 : decode b_Cm_fun 102 = .ok (.bipush 31, 2) := by decide +kernel
theorem d_Cm_fun_104 : decode b_Cm_fun 104 = .ok (.invokestatic 83, 3) := by decide +kernel
theorem d_Cm_fun_107 : decode b_Cm_fun 107 = .ok (.putfield 113, 3) := by decide +kernel
theorem d_Cm_fun_110 : decode b_Cm_fun 110 = .ok (.aload_n 0, 1) := by decide +kernel
theorem d_Cm_fun_111 : decode b_Cm_fun 111 = .ok (.getfield 26, 3) := by decide +kernel
theorem d_Cm_fun_114 : decode b_Cm_fun 114 = .ok (.aload_n 0, 1) := by decide +kernel
theorem d_Cm_fun_115 : decode b_Cm_fun 115 = .ok (.getfield 113, 3) := by decide +kernel
theorem d_Cm_fun_118 : decode b_Cm_fun 118 = .ok (.aload_n 0, 1) := by decide +kernel
theorem d_Cm_fun_119 : decode b_Cm_fun 119 = .ok (.getfield 116, 3) := by decide +kernel
theorem d_Cm_fun_122 : decode b_Cm_fun 122 = .ok (.iastore, 1) := by decide +kernel
theorem d_Cm_fun_123 : decode b_Cm_fun 123 = .ok (.aload_n 0, 1) := by decide +kernel
theorem d_Cm_fun_124 : decode b_Cm_fun 124 = .ok (.getfield 29, 3) := by decide +kernel
theorem d_Cm_fun_127 : decode b_Cm_fun 127 = .ok (.aload_n 0, 1) := by decide +kernel
theorem d_Cm_fun_128 : decode b_Cm_fun 128 = .ok (.getfield 113, 3) := by decide +kernel
theorem d_Cm_fun_131 : decode b_Cm_fun 131 = .ok (.iconst 0, 1) := by decide +kernel
theorem d_Cm_fun_132 : decode b_Cm_fun 132 = .ok (.iastore, 1) := by decide +kernel
theorem d_Cm_fun_133 : decode b_Cm_fun 133 = .ok (.aload_n 0, 1) := by decide +kernel
theorem d_Cm_fun_134 : decode b_Cm_fun 134 = .ok (.iload_n 3, 1) := by decide +kernel
theorem d_Cm_fun_135 : decode b_Cm_fun 135 = .ok (.iload 4, 2) := by decide +kernel
theorem d_Cm_fun_137 : decode b_Cm_fun 137 = .ok (.aload_n 0, 1) := by decide +kernel
theorem d_Cm_fun_138 : decode b_Cm_fun 138 = .ok (.getfield 35, 3) := by decide +kernel
theorem d_Cm_fun_141 : decode b_Cm_fun 141 = .ok (.getfield 74, 3) := by decide +kernel
theorem d_Cm_fun_144 : decode b_Cm_fun 144 = .ok (.aload_n 0, 1) := by decide +kernel
theorem d_Cm_fun_145 : decode b_Cm_fun 145 = .ok (.getfield 39, 3) := by decide +kernel
theorem d_Cm_fun_148 : decode b_Cm_fun 148 = .ok (.getfield 93, 3) := by decide +kernel
theorem d_Cm_fun_151 : decode b_Cm_fun 151 = .ok (.iload_n 1, 1) := by decide +kernel
theorem d_Cm_fun_152 : decode b_Cm_fun 152 = .ok (.iaload, 1) := by decide +kernel
theorem d_Cm_fun_153 : decode b_Cm_fun 153 = .ok (.iaload, 1) := by decide +kernel
theorem d_Cm_fun_154 : decode b_Cm_fun 154 = .ok (.invokevirtual 135, 3) := by decide +kernel
theorem d_Cm_fun_157 : decode b_Cm_fun 157 = .ok (.aload_n 0, 1) := by decide +kernel
theorem d_Cm_fun_158 : decode b_Cm_fun 158 = .ok (.getfield 43, 3) := by decide +kernel
theorem d_Cm_fun_161 : decode b_Cm_fun 161 = .ok (.bipush 36, 2) := by decide +kernel
theorem d_Cm_fun_163 : decode b_Cm_fun 163 = .ok (.invokevirtual 142, 3) := by decide +kernel
theorem d_Cm_fun_166 : decode b_Cm_fun 166 = .ok (.aload_n 0, 1) := by decide +kernel
theorem d_Cm_fun_167 : decode b_Cm_fun 167 = .ok (.getfield 29, 3) := by decide +kernel
theorem d_Cm_fun_170 : decode b_Cm_fun 170 = .ok (.aload_n 0, 1) := by decide +kernel
theorem d_Cm_fun_171 : decode b_Cm_fun 171 = .ok (.getfield 113, 3) := by decide +kernel
theorem d_Cm_fun_174 : decode b_Cm_fun 174 = .ok (.iaload, 1) := by decide +kernel
theorem d_Cm_fun_175 : decode b_Cm_fun 175 = .ok (.istore 7, 2) := by decide +kernel
theorem d_Cm_fun_177 : decode b_Cm_fun 177 = .ok (.aload_n 0, 1) := by decide +kernel
theorem d_Cm_fun_178 : decode b_Cm_fun 178 = .ok (.dup, 1) := by decide +kernel
theorem d_Cm_fun_179 : decode b_Cm_fun 179 = .ok (.getfield 113, 3) := by decide +kernel
theorem d_Cm_fun_182 : decode b_Cm_fun 182 = .ok (.iconst 1, 1) := by decide +kernel
theorem d_Cm_fun_183 : decode b_Cm_fun 183 = .ok (.isub, 1) := by decide +kernel
theorem d_Cm_fun_184 : decode b_Cm_fun 184 = .ok (.putfield 113, 3) := by decide +kernel
theorem d_Cm_fun_187 : decode b_Cm_fun 187 = .ok (.aload_n 0, 1) := by decide +kernel
theorem d_Cm_fun_188 : decode b_Cm_fun 188 = .ok (.iload 5, 2) := by decide +kernel
theorem d_Cm_fun_190 : decode b_Cm_fun 190 = .ok (.putfield 59, 3) := by decide +kernel
theorem d_Cm_fun_193 : decode b_Cm_fun 193 = .ok (.aload_n 0, 1) := by decide +kernel
theorem d_Cm_fun_194 : decode b_Cm_fun 194 = .ok (.getfield 43, 3) := by decide +kernel
theorem d_Cm_fun_197 : decode b_Cm_fun 197 = .ok (.iload 6, 2) := by decide +kernel
theorem d_Cm_fun_199 : decode b_Cm_fun 199 = .ok (.invokevirtual 162, 3) := by decide +kernel
theorem d_Cm_fun_202 : decode b_Cm_fun 202 = .ok (.aload_n 0, 1) := by decide +kernel
theorem d_Cm_fun_203 : decode b_Cm_fun 203 = .ok (.getfield 43, 3) := by decide +kernel
theorem d_Cm_fun_206 : decode b_Cm_fun 206 = .ok (.bipush 6, 2) := by decide +kernel
theorem d_Cm_fun_208 : decode b_Cm_fun 208 = .ok (.invokevirtual 142, 3) := by decide +kernel
theorem d_Cm_fun_211 : decode b_Cm_fun 211 = .ok (.aload_n 0, 1) := by decide +kernel
theorem d_Cm_fun_212 : decode b_Cm_fun 212 = .ok (.getfield 43, 3) := by decide +kernel
theorem d_Cm_fun_215 : decode b_Cm_fun 215 = .ok (.iload_n 2, 1) := by decide +kernel
theorem d_Cm_fun_216 : decode b_Cm_fun 216 = .ok (.invokevirtual 142, 3) := by decide +kernel
theorem d_Cm_fun_219 : decode b_Cm_fun 219 = .ok (.aload_n 0, 1) := by decide +kernel
theorem d_Cm_fun_220 : decode b_Cm_fun 220 = .ok (.getfield 43, 3) := by decide +kernel
theorem d_Cm_fun_223 : decode b_Cm_fun 223 = .ok (.getfield 250, 3) := by decide +kernel
theorem d_Cm_fun_226 : decode b_Cm_fun 226 = .ok (.iload_n 2, 1) := by decide +kernel
theorem d_Cm_fun_227 : decode b_Cm_fun 227 = .ok (.aload_n 0, 1) := by decide +kernel
theorem d_Cm_fun_228 : decode b_Cm_fun 228 = .ok (.getfield 43, 3) := by decide +kernel
theorem d_Cm_fun_231 : decode b_Cm_fun 231 = .ok (.getfield 122, 3) := by decide +kernel
theorem d_Cm_fun_234 : decode b_Cm_fun 234 = .ok (.iastore, 1) := by decide +kernel
theorem d_Cm_fun_235 : decode b_Cm_fun 235 = .ok (.aload_n 0, 1) := by decide +kernel
theorem d_Cm_fun_236 : decode b_Cm_fun 236 = .ok (.getfield 43, 3) := by decide +kernel
theorem d_Cm_fun_239 : decode b_Cm_fun 239 = .ok (.iconst 0, 1) := by decide +kernel
theorem d_Cm_fun_240 : decode b_Cm_fun 240 = .ok (.invokevirtual 142, 3) := by decide +kernel
theorem d_Cm_fun_243 : decode b_Cm_fun 243 = .ok (.aload_n 0, 1) := by decide +kernel
theorem d_Cm_fun_244 : decode b_Cm_fun 244 = .ok (.aload_n 0, 1) := by decide +kernel
theorem d_Cm_fun_245 : decode b_Cm_fun 245 = .ok (.getfield 39, 3) := by decide +kernel
theorem d_Cm_fun_248 : decode b_Cm_fun 248 = .ok (.getfield 93, 3) := by decide +kernel
theorem d_Cm_fun_251 : decode b_Cm_fun 251 = .ok (.iload_n 1, 1) := by decide +kernel
theorem d_Cm_fun_252 : decode b_Cm_fun 252 = .ok (.iaload, 1) := by decide +kernel
theorem d_Cm_fun_253 : decode b_Cm_fun 253 = .ok (.aload_n 0, 1) := by decide +kernel
theorem d_Cm_fun_254 : decode b_Cm_fun 254 = .ok (.getfield 39, 3) := by decide +kernel
theorem d_Cm_fun_257 : decode b_Cm_fun 257 = .ok (.getfield 155, 3) := by decide +kernel
theorem d_Cm_fun_260 : decode b_Cm_fun 260 = .ok (.iload_n 1, 1) := by decide +kernel
theorem d_Cm_fun_261 : decode b_Cm_fun 261 = .ok (.iaload, 1) := by decide +kernel
theorem d_Cm_fun_262 : decode b_Cm_fun 262 = .ok (.invokevirtual 253, 3) := by decide +kernel
theorem d_Cm_fun_265 : decode b_Cm_fun 265 = .ok (.istore 8, 2) := by decide +kernel
theorem d_Cm_fun_267 : decode b_Cm_fun 267 = .ok (.aload_n 0, 1) := by decide +kernel
theorem d_Cm_fun_268 : decode b_Cm_fun 268 = .ok (.getfield 43, 3) := by decide +kernel
theorem d_Cm_fun_271 : decode b_Cm_fun 271 = .ok (.aload_n 0, 1) := by decide +kernel
theorem d_Cm_fun_272 : decode b_Cm_fun 272 = .ok (.getfield 43, 3) := by decide +kernel
theorem d_Cm_fun_275 : decode b_Cm_fun 275 = .ok (.getfield 250, 3) := by decide +kernel
theorem d_Cm_fun_278 : decode b_Cm_fun 278 = .ok (.iload_n 2, 1) := by decide +kernel
theorem d_Cm_fun_279 : decode b_Cm_fun 279 = .ok (.iaload, 1) := by decide +kernel
theorem d_Cm_fun_280 : decode b_Cm_fun 280 = .ok (.iload 8, 2) := by decide +kernel
theorem d_Cm_fun_282 : decode b_Cm_fun 282 = .ok (.invokevirtual 256, 3) := by decide +kernel
theorem d_Cm_fun_285 : decode b_Cm_fun 285 = .ok (.aload_n 0, 1) := by decide +kernel
theorem d_Cm_fun_286 : decode b_Cm_fun 286 = .ok (.aload_n 0, 1) := by decide +kernel
theorem d_Cm_fun_287 : decode b_Cm_fun 287 = .ok (.getfield 55, 3) := by decide +kernel
theorem d_Cm_fun_290 : decode b_Cm_fun 290 = .ok (.ifCond .ne 13, 3) := by decide +kernel
theorem d_Cm_fun_293 : decode b_Cm_fun 293 = .ok (.iload 7, 2) := by decide +kernel
theorem d_Cm_fun_295 : decode b_Cm_fun 295 = .ok (.iload 8, 2) := by decide +kernel
theorem d_Cm_fun_297 : decode b_Cm_fun 297 = .ok (.iadd, 1) := by decide +kernel
theorem d_Cm_fun_298 : decode b_Cm_fun 298 = .ok (.bipush 40, 2) := by decide +kernel
theorem d_Cm_fun_300 : decode b_Cm_fun 300 = .ok (.if_icmp .le 7, 3) := by decide +kernel
theorem d_Cm_fun_303 : decode b_Cm_fun 303 = .ok (.iconst 1, 1) := by decide +kernel
theorem d_Cm_fun_304 : decode b_Cm_fun 304 = .ok (.goto 4, 3) := by decide +kernel
theorem d_Cm_fun_307 : decode b_Cm_fun 307 = .ok (.iconst 0, 1) := by decide +kernel
theorem d_Cm_fun_308 : decode b_Cm_fun 308 = .ok (.putfield 55, 3) := by decide +kernel
theorem d_Cm_fun_311 : decode b_Cm_fun 311 = .ok (.return_, 1) := by decide +kernel
set_option maxRecDepth 100000 in
theorem hl_Cm_fun : Cond.methodLink R_Cm 238 y_Cm_fun ∈ wd_tbl := wd_of 1254 (by decide +kernel) rfl
set_option maxRecDepth 100000 in
theorem hi_Cm_fun : Cond.instanceMethod y_Cm_fun ∈ wd_tbl := wd_of 1256 (by decide +kernel) rfl
set_option maxRecDepth 100000 in
theorem hs_Cm_fun : Cond.selects R_Cm y_Cm_fun y_Cm_fun ∈ wd_tbl := wd_of 62 (by decide +kernel) rfl
theorem hd_Cm_fun : y_Cm_fun.cls = R_Cm ∧ y_Cm_fun.cls ≠ "java/lang/invoke/MethodHandle" ∧ y_Cm_fun.cls ≠ "java/lang/invoke/VarHandle" ∧ (parseMethodDescriptor y_Cm_fun.desc).map (fun d => d.parameters.length) = some 1 := by decide +kernel
abbrev b_Cm_receive : ByteArray := prog_3_method_23_code
def y_Cm_receive : MethodName := ⟨R_Cm, "receive", "(IZ)V"⟩
def w_Cm_receive : List Cond := wd_ws y_Cm_receive b_Cm_receive 8 none
set_option maxRecDepth 100000 in
theorem k_Cm_receive : Cond.code y_Cm_receive b_Cm_receive 8 none ∈ wd_tbl := wd_of 1253 rfl rfl
theorem d_Cm_receive_0 : decode b_Cm_receive 0 = .ok (.aload_n 0, 1) := by decide +kernel
theorem d_Cm_receive_1 : decode b_Cm_receive 1 = .ok (.getfield 116, 3) := by decide +kernel
theorem d_Cm_receive_4 : decode b_Cm_receive 4 = .ok (.istore_n 3, 1) := by decide +kernel
theorem d_Cm_receive_5 : decode b_Cm_receive 5 = .ok (.aload_n 0, 1) := by decide +kernel
theorem d_Cm_receive_6 : decode b_Cm_receive 6 = .ok (.getfield 39, 3) := by decide +kernel
theorem d_Cm_receive_9 : decode b_Cm_receive 9 = .ok (.getfield 125, 3) := by decide +kernel
theorem d_Cm_receive_12 : decode b_Cm_receive 12 = .ok (.iload_n 1, 1) := by decide +kernel
theorem d_Cm_receive_13 : decode b_Cm_receive 13 = .ok (.iaload, 1) := by decide +kernel
theorem d_Cm_receive_14 : decode b_Cm_receive 14 = .ok (.ifCond .eq 7, 3) := by decide +kernel
theorem d_Cm_receive_17 : decode b_Cm_receive 17 = .ok (.iconst 1, 1) := by decide +kernel
theorem d_Cm_receive_18 : decode b_Cm_receive 18 = .ok (.goto 4, 3) := by decide +kernel
theorem d_Cm_receive_21 : decode b_Cm_receive 21 = .ok (.iconst 0, 1) := by decide +kernel
theorem d_Cm_receive_22 : decode b_Cm_receive 22 = .ok (.istore 4, 2) := by decide +kernel
theorem d_Cm_receive_24 : decode b_Cm_receive 24 = .ok (.iload 4, 2) := by decide +kernel
theorem d_Cm_receive_26 : decode b_Cm_receive 26 = .ok (.ifCond .eq 22, 3) := by decide +kernel
theorem d_Cm_receive_29 : decode b_Cm_receive 29 = .ok (.aload_n 0, 1) := by decide +kernel
theorem d_Cm_receive_30 : decode b_Cm_receive 30 = .ok (.aload_n 0, 1) := by decide +kernel
theorem d_Cm_receive_31 : decode b_Cm_receive 31 = .ok (.getfield 39, 3) := by decide +kernel
theorem d_Cm_receive_34 : decode b_Cm_receive 34 = .ok (.getfield 125, 3) := by decide +kernel
theorem d_Cm_receive_37 : decode b_Cm_receive 37 = .ok (.iload_n 1, 1) := by decide +kernel
theorem d_Cm_receive_38 : decode b_Cm_receive 38 = .ok (.iaload, 1) := by decide +kernel
theorem d_Cm_receive_39 : decode b_Cm_receive 39 = .ok (.iconst 0, 1) := by decide +kernel
theorem d_Cm_receive_40 : decode b_Cm_receive 40 = .ok (.invokevirtual 174, 3) := by decide +kernel
theorem d_Cm_receive_43 : decode b_Cm_receive 43 = .ok (.aload_n 0, 1) := by decide +kernel
theorem d_Cm_receive_44 : decode b_Cm_receive 44 = .ok (.iload_n 3, 1) := by decide +kernel
theorem d_Cm_receive_45 : decode b_Cm_receive 45 = .ok (.invokevirtual 228, 3) := by decide +kernel
theorem d_Cm_receive_48 : decode b_Cm_receive 48 = .ok (.aload_n 0, 1) := by decide +kernel
theorem d_Cm_receive_49 : decode b_Cm_receive 49 = .ok (.getfield 43, 3) := by decide +kernel
theorem d_Cm_receive_52 : decode b_Cm_receive 52 = .ok (.bipush 31, 2) := by decide +kernel
theorem d_Cm_receive_54 : decode b_Cm_receive 54 = .ok (.invokevirtual 142, 3) := by decide +kernel
theorem d_Cm_receive_57 : decode b_Cm_receive 57 = .ok (.aload_n 0, 1) := by decide +kernel
theorem d_Cm_receive_58 : decode b_Cm_receive 58 = .ok (.getfield 43, 3) := by decide +kernel
theorem d_Cm_receive_61 : decode b_Cm_receive 61 = .ok (.iload 4, 2) := by decide +kernel
theorem d_Cm_receive_63 : decode b_Cm_receive 63 = .ok (.ifCond .eq 7, 3) := by decide +kernel
theorem d_Cm_receive_66 : decode b_Cm_receive 66 = .ok (.iconst 1, 1) := by decide +kernel
theorem d_Cm_receive_67 : decode b_Cm_receive 67 = .ok (.goto 4, 3) := by decide +kernel
theorem d_Cm_receive_70 : decode b_Cm_receive 70 = .ok (.iconst 0, 1) := by decide +kernel
theorem d_Cm_receive_71 : decode b_Cm_receive 71 = .ok (.invokevirtual 142, 3) := by decide +kernel
theorem d_Cm_receive_74 : decode b_Cm_receive 74 = .ok (.aload_n 0, 1) := by decide +kernel
theorem d_Cm_receive_75 : decode b_Cm_receive 75 = .ok (.getfield 43, 3) := by decide +kernel
theorem d_Cm_receive_78 : decode b_Cm_receive 78 = .ok (.getfield 122, 3) := by decide +kernel
theorem d_Cm_receive_81 : decode b_Cm_receive 81 = .ok (.istore 5, 2) := by decide +kernel
theorem d_Cm_receive_83 : decode b_Cm_receive 83 = .ok (.aload_n 0, 1) := by decide +kernel
theorem d_Cm_receive_84 : decode b_Cm_receive 84 = .ok (.getfield 43, 3) := by decide +kernel
theorem d_Cm_receive_87 : decode b_Cm_receive 87 = .ok (.bipush 32, 2) := by decide +kernel
theorem d_Cm_receive_89 : decode b_Cm_receive 89 = .ok (.invokevirtual 142, 3) := by decide +kernel
theorem d_Cm_receive_92 : decode b_Cm_receive 92 = .ok (.aload_n 0, 1) := by decide +kernel
theorem d_Cm_receive_93 : decode b_Cm_receive 93 = .ok (.getfield 43, 3) := by decide +kernel
theorem d_Cm_receive_96 : decode b_Cm_receive 96 = .ok (.iconst 0, 1) := by decide +kernel
theorem d_Cm_receive_97 : decode b_Cm_receive 97 = .ok (.invokevirtual 165, 3) := by decide +kernel
theorem d_Cm_receive_100 : decode b_Cm_receive 100 = .ok (.istore 6, 2) := by decide +kernel
theorem d_Cm_receive_102 : decode b_Cm_receive 102 = .ok (.aload_n 0, 1) := by decide +kernel
theorem d_Cm_receive_103 : decode b_Cm_receive 103 = .ok (.aload_n 0, 1) := by decide +kernel
theorem d_Cm_receive_104 : decode b_Cm_receive 104 = .ok (.getfield 39, 3) := by decide +kernel
theorem d_Cm_receive_107 : decode b_Cm_receive 107 = .ok (.getfield 171, 3) := by decide +kernel
theorem d_Cm_receive_110 : decode b_Cm_receive 110 = .ok (.iload_n 1, 1) := by decide +kernel
theorem d_Cm_receive_111 : decode b_Cm_receive 111 = .ok (.iaload, 1) := by decide +kernel
theorem d_Cm_receive_112 : decode b_Cm_receive 112 = .ok (.bipush (-2), 2) := by decide +kernel
theorem d_Cm_receive_114 : decode b_Cm_receive 114 = .ok (.bipush 33, 2) := by decide +kernel
theorem d_Cm_receive_116 : decode b_Cm_receive 116 = .ok (.iload_n 2, 1) := by decide +kernel
theorem d_Cm_receive_117 : decode b_Cm_receive 117 = .ok (.invokevirtual 231, 3) := by decide +kernel
theorem d_Cm_receive_120 : decode b_Cm_receive 120 = .ok (.istore 7, 2) := by decide +kernel
theorem d_Cm_receive_122 : decode b_Cm_receive 122 = .ok (.aload_n 0, 1) := by decide +kernel
theorem d_Cm_receive_123 : decode b_Cm_receive 123 = .ok (.getfield 43, 3) := by decide +kernel
theorem d_Cm_receive_126 : decode b_Cm_receive 126 = .ok (.bipush 34, 2) := by decide +kernel
theorem d_Cm_receive_128 : decode b_Cm_receive 128 = .ok (.invokevirtual 142, 3) := by decide +kernel
theorem d_Cm_receive_131 : decode b_Cm_receive 131 = .ok (.aload_n 0, 1) := by decide +kernel
theorem d_Cm_receive_132 : decode b_Cm_receive 132 = .ok (.getfield 43, 3) := by decide +kernel
theorem d_Cm_receive_135 : decode b_Cm_receive 135 = .ok (.iload 5, 2) := by decide +kernel
theorem d_Cm_receive_137 : decode b_Cm_receive 137 = .ok (.invokevirtual 142, 3) := by decide +kernel
theorem d_Cm_receive_140 : decode b_Cm_receive 140 = .ok (.aload_n 0, 1) := by decide +kernel
theorem d_Cm_receive_141 : decode b_Cm_receive 141 = .ok (.getfield 43, 3) := by decide +kernel
theorem d_Cm_receive_144 : decode b_Cm_receive 144 = .ok (.iload 6, 2) := by decide +kernel
theorem d_Cm_receive_146 : decode b_Cm_receive 146 = .ok (.invokevirtual 162, 3) := by decide +kernel
theorem d_Cm_receive_149 : decode b_Cm_receive 149 = .ok (.iload 4, 2) := by decide +kernel
theorem d_Cm_receive_151 : decode b_Cm_receive 151 = .ok (.ifCond .eq 22, 3) := by decide +kernel
theorem d_Cm_receive_154 : decode b_Cm_receive 154 = .ok (.aload_n 0, 1) := by decide +kernel
theorem d_Cm_receive_155 : decode b_Cm_receive 155 = .ok (.aload_n 0, 1) := by decide +kernel
theorem d_Cm_receive_156 : decode b_Cm_receive 156 = .ok (.getfield 39, 3) := by decide +kernel
theorem d_Cm_receive_159 : decode b_Cm_receive 159 = .ok (.getfield 155, 3) := by decide +kernel
theorem d_Cm_receive_162 : decode b_Cm_receive 162 = .ok (.iload_n 1, 1) := by decide +kernel
theorem d_Cm_receive_163 : decode b_Cm_receive 163 = .ok (.iaload, 1) := by decide +kernel
theorem d_Cm_receive_164 : decode b_Cm_receive 164 = .ok (.iload_n 2, 1) := by decide +kernel
theorem d_Cm_receive_165 : decode b_Cm_receive 165 = .ok (.invokevirtual 158, 3) := by decide +kernel
theorem d_Cm_receive_168 : decode b_Cm_receive 168 = .ok (.aload_n 0, 1) := by decide +kernel
theorem d_Cm_receive_169 : decode b_Cm_receive 169 = .ok (.iload_n 3, 1) := by decide +kernel
theorem d_Cm_receive_170 : decode b_Cm_receive 170 = .ok (.invokevirtual 228, 3) := by decide +kernel
theorem d_Cm_receive_173 : decode b_Cm_receive 173 = .ok (.aload_n 0, 1) := by decide +kernel
theorem d_Cm_receive_174 : decode b_Cm_receive 174 = .ok (.getfield 43, 3) := by decide +kernel
theorem d_Cm_receive_177 : decode b_Cm_receive 177 = .ok (.iload 7, 2) := by decide +kernel
theorem d_Cm_receive_179 : decode b_Cm_receive 179 = .ok (.invokevirtual 162, 3) := by decide +kernel
theorem d_Cm_receive_182 : decode b_Cm_receive 182 = .ok (.return_, 1) := by decide +kernel
set_option maxRecDepth 100000 in
theorem hl_Cm_receive : Cond.methodLink R_Cm 235 y_Cm_receive ∈ wd_tbl := wd_of 1250 (by decide +kernel) rfl
set_option maxRecDepth 100000 in
theorem hi_Cm_receive : Cond.instanceMethod y_Cm_receive ∈ wd_tbl := wd_of 1252 (by decide +kernel) rfl
set_option maxRecDepth 100000 in
theorem hs_Cm_receive : Cond.selects R_Cm y_Cm_receive y_Cm_receive ∈ wd_tbl := wd_of 61 (by decide +kernel) rfl
theorem hd_Cm_receive : y_Cm_receive.cls = R_Cm ∧ y_Cm_receive.cls ≠ "java/lang/invoke/MethodHandle" ∧ y_Cm_receive.cls ≠ "java/lang/invoke/VarHandle" ∧ (parseMethodDescriptor y_Cm_receive.desc).map (fun d => d.parameters.length) = some 2 := by decide +kernel
abbrev b_Cm_parts : ByteArray := prog_3_method_22_code
def y_Cm_parts : MethodName := ⟨R_Cm, "parts", "(IIIZ)I"⟩
def w_Cm_parts : List Cond := wd_ws y_Cm_parts b_Cm_parts 9 (some .int)
set_option maxRecDepth 100000 in
theorem k_Cm_parts : Cond.code y_Cm_parts b_Cm_parts 9 (some .int) ∈ wd_tbl := wd_of 1249 rfl rfl
theorem d_Cm_parts_0 : decode b_Cm_parts 0 = .ok (.iconst 0, 1) := by decide +kernel
theorem d_Cm_parts_1 : decode b_Cm_parts 1 = .ok (.istore 5, 2) := by decide +kernel
theorem d_Cm_parts_3 : decode b_Cm_parts 3 = .ok (.iload_n 1, 1) := by decide +kernel
theorem d_Cm_parts_4 : decode b_Cm_parts 4 = .ok (.istore 6, 2) := by decide +kernel
theorem d_Cm_parts_6 : decode b_Cm_parts 6 = .ok (.iload 6, 2) := by decide +kernel
theorem d_Cm_parts_8 : decode b_Cm_parts 8 = .ok (.ifCond .eq 96, 3) := by decide +kernel
theorem d_Cm_parts_11 : decode b_Cm_parts 11 = .ok (.aload_n 0, 1) := by decide +kernel
theorem d_Cm_parts_12 : decode b_Cm_parts 12 = .ok (.getfield 116, 3) := by decide +kernel
theorem d_Cm_parts_15 : decode b_Cm_parts 15 = .ok (.istore 7, 2) := by decide +kernel
theorem d_Cm_parts_17 : decode b_Cm_parts 17 = .ok (.aload_n 0, 1) := by decide +kernel
theorem d_Cm_parts_18 : decode b_Cm_parts 18 = .ok (.iload_n 2, 1) := by decide +kernel
theorem d_Cm_parts_19 : decode b_Cm_parts 19 = .ok (.iload 6, 2) := by decide +kernel
theorem d_Cm_parts_21 : decode b_Cm_parts 21 = .ok (.invokevirtual 152, 3) := by decide +kernel
theorem d_Cm_parts_24 : decode b_Cm_parts 24 = .ok (.istore 8, 2) := by decide +kernel
theorem d_Cm_parts_26 : decode b_Cm_parts 26 = .ok (.iload_n 3, 1) := by decide +kernel
theorem d_Cm_parts_27 : decode b_Cm_parts 27 = .ok (.ifCond .eq 11, 3) := by decide +kernel
theorem d_Cm_parts_30 : decode b_Cm_parts 30 = .ok (.aload_n 0, 1) := by decide +kernel
theorem d_Cm_parts_31 : decode b_Cm_parts 31 = .ok (.getfield 43, 3) := by decide +kernel
theorem d_Cm_parts_34 : decode b_Cm_parts 34 = .ok (.iload_n 3, 1) := by decide +kernel
theorem d_Cm_parts_35 : decode b_Cm_parts 35 = .ok (.invokevirtual 142, 3) := by decide +kernel
theorem d_Cm_parts_38 : decode b_Cm_parts 38 = .ok (.aload_n 0, 1) := by decide +kernel
theorem d_Cm_parts_39 : decode b_Cm_parts 39 = .ok (.aload_n 0, 1) := by decide +kernel
theorem d_Cm_parts_40 : decode b_Cm_parts 40 = .ok (.getfield 39, 3) := by decide +kernel
theorem d_Cm_parts_43 : decode b_Cm_parts 43 = .ok (.getfield 155, 3) := by decide +kernel
theorem d_Cm_parts_46 : decode b_Cm_parts 46 = .ok (.iload 6, 2) := by decide +kernel
theorem d_Cm_parts_48 : decode b_Cm_parts 48 = .ok (.iaload, 1) := by decide +kernel
theorem d_Cm_parts_49 : decode b_Cm_parts 49 = .ok (.iload 4, 2) := by decide +kernel
theorem d_Cm_parts_51 : decode b_Cm_parts 51 = .ok (.invokevirtual 158, 3) := by decide +kernel
theorem d_Cm_parts_54 : decode b_Cm_parts 54 = .ok (.aload_n 0, 1) := by decide +kernel
theorem d_Cm_parts_55 : decode b_Cm_parts 55 = .ok (.iload 7, 2) := by decide +kernel
theorem d_Cm_parts_57 : decode b_Cm_parts 57 = .ok (.invokevirtual 228, 3) := by decide +kernel
theorem d_Cm_parts_60 : decode b_Cm_parts 60 = .ok (.aload_n 0, 1) := by decide +kernel
theorem d_Cm_parts_61 : decode b_Cm_parts 61 = .ok (.getfield 43, 3) := by decide +kernel
theorem d_Cm_parts_64 : decode b_Cm_parts 64 = .ok (.bipush 18, 2) := by decide +kernel
theorem d_Cm_parts_66 : decode b_Cm_parts 66 = .ok (.invokevirtual 142, 3) := by decide +kernel
theorem d_Cm_parts_69 : decode b_Cm_parts 69 = .ok (.aload_n 0, 1) := by decide +kernel
theorem d_Cm_parts_70 : decode b_Cm_parts 70 = .ok (.getfield 43, 3) := by decide +kernel
theorem d_Cm_parts_73 : decode b_Cm_parts 73 = .ok (.iload 5, 2) := by decide +kernel
theorem d_Cm_parts_75 : decode b_Cm_parts 75 = .ok (.invokevirtual 165, 3) := by decide +kernel
theorem d_Cm_parts_78 : decode b_Cm_parts 78 = .ok (.istore 5, 2) := by decide +kernel
theorem d_Cm_parts_80 : decode b_Cm_parts 80 = .ok (.aload_n 0, 1) := by decide +kernel
theorem d_Cm_parts_81 : decode b_Cm_parts 81 = .ok (.getfield 43, 3) := by decide +kernel
theorem d_Cm_parts_84 : decode b_Cm_parts 84 = .ok (.iload 8, 2) := by decide +kernel
theorem d_Cm_parts_86 : decode b_Cm_parts 86 = .ok (.invokevirtual 162, 3) := by decide +kernel
theorem d_Cm_parts_89 : decode b_Cm_parts 89 = .ok (.aload_n 0, 1) := by decide +kernel
theorem d_Cm_parts_90 : decode b_Cm_parts 90 = .ok (.getfield 39, 3) := by decide +kernel
theorem d_Cm_parts_93 : decode b_Cm_parts 93 = .ok (.getfield 139, 3) := by decide +kernel
theorem d_Cm_parts_96 : decode b_Cm_parts 96 = .ok (.iload 6, 2) := by decide +kernel
theorem d_Cm_parts_98 : decode b_Cm_parts 98 = .ok (.iaload, 1) := by decide +kernel
theorem d_Cm_parts_99 : decode b_Cm_parts 99 = .ok (.istore 6, 2) := by decide +kernel
theorem d_Cm_parts_101 : decode b_Cm_parts 101 = .ok (.goto (-95), 3) := by decide +kernel
theorem d_Cm_parts_104 : decode b_Cm_parts 104 = .ok (.iload 5, 2) := by decide +kernel
theorem d_Cm_parts_106 : decode b_Cm_parts 106 = .ok (.ireturn, 1) := by decide +kernel
set_option maxRecDepth 100000 in
theorem hl_Cm_parts : Cond.methodLink R_Cm 231 y_Cm_parts ∈ wd_tbl := wd_of 1246 (by decide +kernel) rfl
set_option maxRecDepth 100000 in
theorem hi_Cm_parts : Cond.instanceMethod y_Cm_parts ∈ wd_tbl := wd_of 1248 (by decide +kernel) rfl
set_option maxRecDepth 100000 in
theorem hs_Cm_parts : Cond.selects R_Cm y_Cm_parts y_Cm_parts ∈ wd_tbl := wd_of 60 (by decide +kernel) rfl
theorem hd_Cm_parts : y_Cm_parts.cls = R_Cm ∧ y_Cm_parts.cls ≠ "java/lang/invoke/MethodHandle" ∧ y_Cm_parts.cls ≠ "java/lang/invoke/VarHandle" ∧ (parseMethodDescriptor y_Cm_parts.desc).map (fun d => d.parameters.length) = some 4 := by decide +kernel
abbrev b_Cm_body : ByteArray := prog_3_method_17_code
def y_Cm_body : MethodName := ⟨R_Cm, "body", "(IZ)V"⟩
def w_Cm_body : List Cond := wd_ws y_Cm_body b_Cm_body 5 none
set_option maxRecDepth 100000 in
theorem k_Cm_body : Cond.code y_Cm_body b_Cm_body 5 none ∈ wd_tbl := wd_of 1245 rfl rfl
theorem d_Cm_body_0 : decode b_Cm_body 0 = .ok (.iload_n 1, 1) := by decide +kernel
theorem d_Cm_body_1 : decode b_Cm_body 1 = .ok (.istore_n 3, 1) := by decide +kernel
theorem d_Cm_body_2 : decode b_Cm_body 2 = .ok (.iload_n 3, 1) := by decide +kernel
theorem d_Cm_body_3 : decode b_Cm_body 3 = .ok (.ifCond .eq 68, 3) := by decide +kernel
theorem d_Cm_body_6 : decode b_Cm_body 6 = .ok (.aload_n 0, 1) := by decide +kernel
theorem d_Cm_body_7 : decode b_Cm_body 7 = .ok (.getfield 39, 3) := by decide +kernel
theorem d_Cm_body_10 : decode b_Cm_body 10 = .ok (.getfield 139, 3) := by decide +kernel
theorem d_Cm_body_13 : decode b_Cm_body 13 = .ok (.iload_n 3, 1) := by decide +kernel
theorem d_Cm_body_14 : decode b_Cm_body 14 = .ok (.iaload, 1) := by decide +kernel
theorem d_Cm_body_15 : decode b_Cm_body 15 = .ok (.ifCond .eq 7, 3) := by decide +kernel
theorem d_Cm_body_18 : decode b_Cm_body 18 = .ok (.iconst 1, 1) := by decide +kernel
theorem d_Cm_body_19 : decode b_Cm_body 19 = .ok (.goto 4, 3) := by decide +kernel
theorem d_Cm_body_22 : decode b_Cm_body 22 = .ok (.iconst 0, 1) := by decide +kernel
theorem d_Cm_body_23 : decode b_Cm_body 23 = .ok (.istore 4, 2) := by decide +kernel
theorem d_Cm_body_25 : decode b_Cm_body 25 = .ok (.aload_n 0, 1) := by decide +kernel
theorem d_Cm_body_26 : decode b_Cm_body 26 = .ok (.iload_n 3, 1) := by decide +kernel
theorem d_Cm_body_27 : decode b_Cm_body 27 = .ok (.iload_n 2, 1) := by decide +kernel
theorem d_Cm_body_28 : decode b_Cm_body 28 = .ok (.ifCond .eq 12, 3) := by decide +kernel
theorem d_Cm_body_31 : decode b_Cm_body 31 = .ok (.iload 4, 2) := by decide +kernel
theorem d_Cm_body_33 : decode b_Cm_body 33 = .ok (.ifCond .ne 7, 3) := by decide +kernel
theorem d_Cm_body_36 : decode b_Cm_body 36 = .ok (.iconst 1, 1) := by decide +kernel
theorem d_Cm_body_37 : decode b_Cm_body 37 = .ok (.goto 4, 3) := by decide +kernel
theorem d_Cm_body_40 : decode b_Cm_body 40 = .ok (.iconst 0, 1) := by decide +kernel
theorem d_Cm_body_41 : decode b_Cm_body 41 = .ok (.invokevirtual 174, 3) := by decide +kernel
theorem d_Cm_body_44 : decode b_Cm_body 44 = .ok (.iload 4, 2) := by decide +kernel
theorem d_Cm_body_46 : decode b_Cm_body 46 = .ok (.ifCond .eq 12, 3) := by decide +kernel
theorem d_Cm_body_49 : decode b_Cm_body 49 = .ok (.aload_n 0, 1) := by decide +kernel
theorem d_Cm_body_50 : decode b_Cm_body 50 = .ok (.getfield 43, 3) := by decide +kernel
theorem d_Cm_body_53 : decode b_Cm_body 53 = .ok (.bipush 15, 2) := by decide +kernel
theorem d_Cm_body_55 : decode b_Cm_body 55 = .ok (.invokevirtual 142, 3) := by decide +kernel
theorem d_Cm_body_58 : decode b_Cm_body 58 = .ok (.aload_n 0, 1) := by decide +kernel
theorem d_Cm_body_59 : decode b_Cm_body 59 = .ok (.getfield 39, 3) := by decide +kernel
theorem d_Cm_body_62 : decode b_Cm_body 62 = .ok (.getfield 139, 3) := by decide +kernel
theorem d_Cm_body_65 : decode b_Cm_body 65 = .ok (.iload_n 3, 1) := by decide +kernel
theorem d_Cm_body_66 : decode b_Cm_body 66 = .ok (.iaload, 1) := by decide +kernel
theorem d_Cm_body_67 : decode b_Cm_body 67 = .ok (.istore_n 3, 1) := by decide +kernel
theorem d_Cm_body_68 : decode b_Cm_body 68 = .ok (.goto (-66), 3) := by decide +kernel
theorem d_Cm_body_71 : decode b_Cm_body 71 = .ok (.return_, 1) := by decide +kernel
set_option maxRecDepth 100000 in
theorem hl_Cm_body : Cond.methodLink R_Cm 158 y_Cm_body ∈ wd_tbl := wd_of 1242 (by decide +kernel) rfl
set_option maxRecDepth 100000 in
theorem hi_Cm_body : Cond.instanceMethod y_Cm_body ∈ wd_tbl := wd_of 1244 (by decide +kernel) rfl
set_option maxRecDepth 100000 in
theorem hs_Cm_body : Cond.selects R_Cm y_Cm_body y_Cm_body ∈ wd_tbl := wd_of 59 (by decide +kernel) rfl
theorem hd_Cm_body : y_Cm_body.cls = R_Cm ∧ y_Cm_body.cls ≠ "java/lang/invoke/MethodHandle" ∧ y_Cm_body.cls ≠ "java/lang/invoke/VarHandle" ∧ (parseMethodDescriptor y_Cm_body.desc).map (fun d => d.parameters.length) = some 2 := by decide +kernel
abbrev b_Cm_compound : ByteArray := prog_3_method_19_code
def y_Cm_compound : MethodName := ⟨R_Cm, "compound", "(IZ)V"⟩
def w_Cm_compound : List Cond := wd_ws y_Cm_compound b_Cm_compound 7 none
set_option maxRecDepth 100000 in
theorem k_Cm_compound : Cond.code y_Cm_compound b_Cm_compound 7 none ∈ wd_tbl := wd_of 1241 rfl rfl
theorem d_Cm_compound_0 : decode b_Cm_compound 0 = .ok (.aload_n 0, 1) := by decide +kernel
theorem d_Cm_compound_1 : decode b_Cm_compound 1 = .ok (.getfield 116, 3) := by decide +kernel
theorem d_Cm_compound_4 : decode b_Cm_compound 4 = .ok (.istore_n 3, 1) := by decide +kernel
theorem d_Cm_compound_5 : decode b_Cm_compound 5 = .ok (.aload_n 0, 1) := by decide +kernel
theorem d_Cm_compound_6 : decode b_Cm_compound 6 = .ok (.getfield 39, 3) := by decide +kernel
theorem d_Cm_compound_9 : decode b_Cm_compound 9 = .ok (.getfield 177, 3) := by decide +kernel
theorem d_Cm_compound_12 : decode b_Cm_compound 12 = .ok (.iload_n 1, 1) := by decide +kernel
theorem d_Cm_compound_13 : decode b_Cm_compound 13 = .ok (.iaload, 1) := by decide +kernel
theorem d_Cm_compound_14 : decode b_Cm_compound 14 = .ok (.bipush 17, 2) := by decide +kernel
theorem d_Cm_compound_16 : decode b_Cm_compound 16 = .ok (.if_icmp .eq 17, 3) := by decide +kernel
theorem d_Cm_compound_19 : decode b_Cm_compound 19 = .ok (.aload_n 0, 1) := by decide +kernel
theorem d_Cm_compound_20 : decode b_Cm_compound 20 = .ok (.getfield 39, 3) := by decide +kernel
theorem d_Cm_compound_23 : decode b_Cm_compound 23 = .ok (.getfield 177, 3) := by decide +kernel
theorem d_Cm_compound_26 : decode b_Cm_compound 26 = .ok (.iload_n 1, 1) := by decide +kernel
theorem d_Cm_compound_27 : decode b_Cm_compound 27 = .ok (.iaload, 1) := by decide +kernel
theorem d_Cm_compound_28 : decode b_Cm_compound 28 = .ok (.bipush 18, 2) := by decide +kernel
theorem d_Cm_compound_30 : decode b_Cm_compound 30 = .ok (.if_icmp .ne 46, 3) := by decide +kernel
theorem d_Cm_compound_33 : decode b_Cm_compound 33 = .ok (.aload_n 0, 1) := by decide +kernel
theorem d_Cm_compound_34 : decode b_Cm_compound 34 = .ok (.aload_n 0, 1) := by decide +kernel
theorem d_Cm_compound_35 : decode b_Cm_compound 35 = .ok (.getfield 39, 3) := by decide +kernel
theorem d_Cm_compound_38 : decode b_Cm_compound 38 = .ok (.getfield 125, 3) := by decide +kernel
theorem d_Cm_compound_41 : decode b_Cm_compound 41 = .ok (.iload_n 1, 1) := by decide +kernel
theorem d_Cm_compound_42 : decode b_Cm_compound 42 = .ok (.iaload, 1) := by decide +kernel
theorem d_Cm_compound_43 : decode b_Cm_compound 43 = .ok (.iconst 0, 1) := by decide +kernel
theorem d_Cm_compound_44 : decode b_Cm_compound 44 = .ok (.invokevirtual 174, 3) := by decide +kernel
theorem d_Cm_compound_47 : decode b_Cm_compound 47 = .ok (.aload_n 0, 1) := by decide +kernel
theorem d_Cm_compound_48 : decode b_Cm_compound 48 = .ok (.getfield 43, 3) := by decide +kernel
theorem d_Cm_compound_51 : decode b_Cm_compound 51 = .ok (.aload_n 0, 1) := by decide +kernel
theorem d_Cm_compound_52 : decode b_Cm_compound 52 = .ok (.getfield 39, 3) := by decide +kernel
theorem d_Cm_compound_55 : decode b_Cm_compound 55 = .ok (.getfield 177, 3) := by decide +kernel
theorem d_Cm_compound_58 : decode b_Cm_compound 58 = .ok (.iload_n 1, 1) := by decide +kernel
theorem d_Cm_compound_59 : decode b_Cm_compound 59 = .ok (.iaload, 1) := by decide +kernel
theorem d_Cm_compound_60 : decode b_Cm_compound 60 = .ok (.bipush 18, 2) := by decide +kernel
theorem d_Cm_compound_62 : decode b_Cm_compound 62 = .ok (.if_icmp .ne 8, 3) := by decide +kernel
theorem d_Cm_compound_65 : decode b_Cm_compound 65 = .ok (.bipush 12, 2) := by decide +kernel
theorem d_Cm_compound_67 : decode b_Cm_compound 67 = .ok (.goto 5, 3) := by decide +kernel
theorem d_Cm_compound_70 : decode b_Cm_compound 70 = .ok (.bipush 11, 2) := by decide +kernel
theorem d_Cm_compound_72 : decode b_Cm_compound 72 = .ok (.invokevirtual 142, 3) := by decide +kernel
theorem d_Cm_compound_75 : decode b_Cm_compound 75 = .ok (.return_, 1) := by decide +kernel
theorem d_Cm_compound_76 : decode b_Cm_compound 76 = .ok (.aload_n 0, 1) := by decide +kernel
theorem d_Cm_compound_77 : decode b_Cm_compound 77 = .ok (.aload_n 0, 1) := by decide +kernel
theorem d_Cm_compound_78 : decode b_Cm_compound 78 = .ok (.getfield 39, 3) := by decide +kernel
theorem d_Cm_compound_81 : decode b_Cm_compound 81 = .ok (.getfield 93, 3) := by decide +kernel
theorem d_Cm_compound_84 : decode b_Cm_compound 84 = .ok (.iload_n 1, 1) := by decide +kernel
theorem d_Cm_compound_85 : decode b_Cm_compound 85 = .ok (.iaload, 1) := by decide +kernel
theorem d_Cm_compound_86 : decode b_Cm_compound 86 = .ok (.invokevirtual 207, 3) := by decide +kernel
theorem d_Cm_compound_89 : decode b_Cm_compound 89 = .ok (.aload_n 0, 1) := by decide +kernel
theorem d_Cm_compound_90 : decode b_Cm_compound 90 = .ok (.getfield 39, 3) := by decide +kernel
theorem d_Cm_compound_93 : decode b_Cm_compound 93 = .ok (.getfield 177, 3) := by decide +kernel
theorem d_Cm_compound_96 : decode b_Cm_compound 96 = .ok (.iload_n 1, 1) := by decide +kernel
theorem d_Cm_compound_97 : decode b_Cm_compound 97 = .ok (.iaload, 1) := by decide +kernel
theorem d_Cm_compound_98 : decode b_Cm_compound 98 = .ok (.tableswitch 357 8 21 #[70, 92, 146, 185, 194, 202, 357, 357, 357, 357, 357, 210, 269, 317], 70) := by decide +kernel
theorem d_Cm_compound_168 : decode b_Cm_compound 168 = .ok (.aload_n 0, 1) := by decide +kernel
theorem d_Cm_compound_169 : decode b_Cm_compound 169 = .ok (.aload_n 0, 1) := by decide +kernel
theorem d_Cm_compound_170 : decode b_Cm_compound 170 = .ok (.getfield 39, 3) := by decide +kernel
theorem d_Cm_compound_173 : decode b_Cm_compound 173 = .ok (.getfield 125, 3) := by decide +kernel
theorem d_Cm_compound_176 : decode b_Cm_compound 176 = .ok (.iload_n 1, 1) := by decide +kernel
theorem d_Cm_compound_177 : decode b_Cm_compound 177 = .ok (.iaload, 1) := by decide +kernel
theorem d_Cm_compound_178 : decode b_Cm_compound 178 = .ok (.iload_n 2, 1) := by decide +kernel
theorem d_Cm_compound_179 : decode b_Cm_compound 179 = .ok (.invokevirtual 158, 3) := by decide +kernel
theorem d_Cm_compound_182 : decode b_Cm_compound 182 = .ok (.aload_n 0, 1) := by decide +kernel
theorem d_Cm_compound_183 : decode b_Cm_compound 183 = .ok (.iload_n 3, 1) := by decide +kernel
theorem d_Cm_compound_184 : decode b_Cm_compound 184 = .ok (.invokevirtual 228, 3) := by decide +kernel
theorem d_Cm_compound_187 : decode b_Cm_compound 187 = .ok (.goto 268, 3) := by decide +kernel
theorem d_Cm_compound_190 : decode b_Cm_compound 190 = .ok (.aload_n 0, 1) := by decide +kernel
theorem d_Cm_compound_191 : decode b_Cm_compound 191 = .ok (.aload_n 0, 1) := by decide +kernel
theorem d_Cm_compound_192 : decode b_Cm_compound 192 = .ok (.getfield 39, 3) := by decide +kernel
theorem d_Cm_compound_195 : decode b_Cm_compound 195 = .ok (.getfield 125, 3) := by decide +kernel
theorem d_Cm_compound_198 : decode b_Cm_compound 198 = .ok (.iload_n 1, 1) := by decide +kernel
theorem d_Cm_compound_199 : decode b_Cm_compound 199 = .ok (.iaload, 1) := by decide +kernel
theorem d_Cm_compound_200 : decode b_Cm_compound 200 = .ok (.iconst 0, 1) := by decide +kernel
theorem d_Cm_compound_201 : decode b_Cm_compound 201 = .ok (.invokevirtual 174, 3) := by decide +kernel
theorem d_Cm_compound_204 : decode b_Cm_compound 204 = .ok (.aload_n 0, 1) := by decide +kernel
theorem d_Cm_compound_205 : decode b_Cm_compound 205 = .ok (.aload_n 0, 1) := by decide +kernel
theorem d_Cm_compound_206 : decode b_Cm_compound 206 = .ok (.getfield 39, 3) := by decide +kernel
theorem d_Cm_compound_209 : decode b_Cm_compound 209 = .ok (.getfield 171, 3) := by decide +kernel
theorem d_Cm_compound_212 : decode b_Cm_compound 212 = .ok (.iload_n 1, 1) := by decide +kernel
theorem d_Cm_compound_213 : decode b_Cm_compound 213 = .ok (.iaload, 1) := by decide +kernel
theorem d_Cm_compound_214 : decode b_Cm_compound 214 = .ok (.iconst (-1), 1) := by decide +kernel
theorem d_Cm_compound_215 : decode b_Cm_compound 215 = .ok (.bipush 15, 2) := by decide +kernel
theorem d_Cm_compound_217 : decode b_Cm_compound 217 = .ok (.iload_n 2, 1) := by decide +kernel
theorem d_Cm_compound_218 : decode b_Cm_compound 218 = .ok (.invokevirtual 231, 3) := by decide +kernel
theorem d_Cm_compound_221 : decode b_Cm_compound 221 = .ok (.istore 4, 2) := by decide +kernel
theorem d_Cm_compound_223 : decode b_Cm_compound 223 = .ok (.aload_n 0, 1) := by decide +kernel
theorem d_Cm_compound_224 : decode b_Cm_compound 224 = .ok (.getfield 43, 3) := by decide +kernel
theorem d_Cm_compound_227 : decode b_Cm_compound 227 = .ok (.bipush 37, 2) := by decide +kernel
theorem d_Cm_compound_229 : decode b_Cm_compound 229 = .ok (.invokevirtual 142, 3) := by decide +kernel
theorem d_Cm_compound_232 : decode b_Cm_compound 232 = .ok (.aload_n 0, 1) := by decide +kernel
theorem d_Cm_compound_233 : decode b_Cm_compound 233 = .ok (.getfield 43, 3) := by decide +kernel
theorem d_Cm_compound_236 : decode b_Cm_compound 236 = .ok (.iload 4, 2) := by decide +kernel
theorem d_Cm_compound_238 : decode b_Cm_compound 238 = .ok (.invokevirtual 162, 3) := by decide +kernel
theorem d_Cm_compound_241 : decode b_Cm_compound 241 = .ok (.goto 214, 3) := by decide +kernel
theorem d_Cm_compound_244 : decode b_Cm_compound 244 = .ok (.aload_n 0, 1) := by decide +kernel
theorem d_Cm_compound_245 : decode b_Cm_compound 245 = .ok (.aload_n 0, 1) := by decide +kernel
theorem d_Cm_compound_246 : decode b_Cm_compound 246 = .ok (.getfield 39, 3) := by decide +kernel
theorem d_Cm_compound_249 : decode b_Cm_compound 249 = .ok (.getfield 171, 3) := by decide +kernel
theorem d_Cm_compound_252 : decode b_Cm_compound 252 = .ok (.iload_n 1, 1) := by decide +kernel
theorem d_Cm_compound_253 : decode b_Cm_compound 253 = .ok (.iaload, 1) := by decide +kernel
theorem d_Cm_compound_254 : decode b_Cm_compound 254 = .ok (.iconst (-1), 1) := by decide +kernel
theorem d_Cm_compound_255 : decode b_Cm_compound 255 = .ok (.iconst 0, 1) := by decide +kernel
theorem d_Cm_compound_256 : decode b_Cm_compound 256 = .ok (.iload_n 2, 1) := by decide +kernel
theorem d_Cm_compound_257 : decode b_Cm_compound 257 = .ok (.invokevirtual 231, 3) := by decide +kernel
theorem d_Cm_compound_260 : decode b_Cm_compound 260 = .ok (.istore 5, 2) := by decide +kernel
theorem d_Cm_compound_262 : decode b_Cm_compound 262 = .ok (.aload_n 0, 1) := by decide +kernel
theorem d_Cm_compound_263 : decode b_Cm_compound 263 = .ok (.getfield 43, 3) := by decide +kernel
theorem d_Cm_compound_266 : decode b_Cm_compound 266 = .ok (.bipush 38, 2) := by decide +kernel
theorem d_Cm_compound_268 : decode b_Cm_compound 268 = .ok (.invokevirtual 142, 3) := by decide +kernel
theorem d_Cm_compound_271 : decode b_Cm_compound 271 = .ok (.aload_n 0, 1) := by decide +kernel
theorem d_Cm_compound_272 : decode b_Cm_compound 272 = .ok (.getfield 43, 3) := by decide +kernel
theorem d_Cm_compound_275 : decode b_Cm_compound 275 = .ok (.iload 5, 2) := by decide +kernel
theorem d_Cm_compound_277 : decode b_Cm_compound 277 = .ok (.invokevirtual 162, 3) := by decide +kernel
theorem d_Cm_compound_280 : decode b_Cm_compound 280 = .ok (.goto 175, 3) := by decide +kernel
theorem d_Cm_compound_283 : decode b_Cm_compound 283 = .ok (.aload_n 0, 1) := by decide +kernel
theorem d_Cm_compound_284 : decode b_Cm_compound 284 = .ok (.iload_n 1, 1) := by decide +kernel
theorem d_Cm_compound_285 : decode b_Cm_compound 285 = .ok (.iload_n 2, 1) := by decide +kernel
theorem d_Cm_compound_286 : decode b_Cm_compound 286 = .ok (.invokevirtual 235, 3) := by decide +kernel
theorem d_Cm_compound_289 : decode b_Cm_compound 289 = .ok (.goto 166, 3) := by decide +kernel
theorem d_Cm_compound_292 : decode b_Cm_compound 292 = .ok (.aload_n 0, 1) := by decide +kernel
theorem d_Cm_compound_293 : decode b_Cm_compound 293 = .ok (.iload_n 1, 1) := by decide +kernel
theorem d_Cm_compound_294 : decode b_Cm_compound 294 = .ok (.invokevirtual 238, 3) := by decide +kernel
theorem d_Cm_compound_297 : decode b_Cm_compound 297 = .ok (.goto 158, 3) := by decide +kernel
theorem d_Cm_compound_300 : decode b_Cm_compound 300 = .ok (.aload_n 0, 1) := by decide +kernel
theorem d_Cm_compound_301 : decode b_Cm_compound 301 = .ok (.iload_n 1, 1) := by decide +kernel
theorem d_Cm_compound_302 : decode b_Cm_compound 302 = .ok (.invokevirtual 241, 3) := by decide +kernel
theorem d_Cm_compound_305 : decode b_Cm_compound 305 = .ok (.goto 150, 3) := by decide +kernel
theorem d_Cm_compound_308 : decode b_Cm_compound 308 = .ok (.aload_n 0, 1) := by decide +kernel
theorem d_Cm_compound_309 : decode b_Cm_compound 309 = .ok (.getfield 43, 3) := by decide +kernel
theorem d_Cm_compound_312 : decode b_Cm_compound 312 = .ok (.bipush 29, 2) := by decide +kernel
theorem d_Cm_compound_314 : decode b_Cm_compound 314 = .ok (.invokevirtual 142, 3) := by decide +kernel
theorem d_Cm_compound_317 : decode b_Cm_compound 317 = .ok (.aload_n 0, 1) := by decide +kernel
theorem d_Cm_compound_318 : decode b_Cm_compound 318 = .ok (.getfield 43, 3) := by decide +kernel
theorem d_Cm_compound_321 : decode b_Cm_compound 321 = .ok (.iconst 0, 1) := by decide +kernel
theorem d_Cm_compound_322 : decode b_Cm_compound 322 = .ok (.invokevirtual 165, 3) := by decide +kernel
theorem d_Cm_compound_325 : decode b_Cm_compound 325 = .ok (.istore 6, 2) := by decide +kernel
theorem d_Cm_compound_327 : decode b_Cm_compound 327 = .ok (.aload_n 0, 1) := by decide +kernel
theorem d_Cm_compound_328 : decode b_Cm_compound 328 = .ok (.aload_n 0, 1) := by decide +kernel
theorem d_Cm_compound_329 : decode b_Cm_compound 329 = .ok (.getfield 39, 3) := by decide +kernel
theorem d_Cm_compound_332 : decode b_Cm_compound 332 = .ok (.getfield 125, 3) := by decide +kernel
theorem d_Cm_compound_335 : decode b_Cm_compound 335 = .ok (.iload_n 1, 1) := by decide +kernel
theorem d_Cm_compound_336 : decode b_Cm_compound 336 = .ok (.iaload, 1) := by decide +kernel
theorem d_Cm_compound_337 : decode b_Cm_compound 337 = .ok (.iconst 0, 1) := by decide +kernel
theorem d_Cm_compound_338 : decode b_Cm_compound 338 = .ok (.invokevirtual 174, 3) := by decide +kernel
theorem d_Cm_compound_341 : decode b_Cm_compound 341 = .ok (.aload_n 0, 1) := by decide +kernel
theorem d_Cm_compound_342 : decode b_Cm_compound 342 = .ok (.getfield 43, 3) := by decide +kernel
theorem d_Cm_compound_345 : decode b_Cm_compound 345 = .ok (.bipush 30, 2) := by decide +kernel
theorem d_Cm_compound_347 : decode b_Cm_compound 347 = .ok (.invokevirtual 142, 3) := by decide +kernel
theorem d_Cm_compound_350 : decode b_Cm_compound 350 = .ok (.aload_n 0, 1) := by decide +kernel
theorem d_Cm_compound_351 : decode b_Cm_compound 351 = .ok (.iload_n 3, 1) := by decide +kernel
theorem d_Cm_compound_352 : decode b_Cm_compound 352 = .ok (.invokevirtual 228, 3) := by decide +kernel
theorem d_Cm_compound_355 : decode b_Cm_compound 355 = .ok (.aload_n 0, 1) := by decide +kernel
theorem d_Cm_compound_356 : decode b_Cm_compound 356 = .ok (.getfield 43, 3) := by decide +kernel
theorem d_Cm_compound_359 : decode b_Cm_compound 359 = .ok (.iload 6, 2) := by decide +kernel
theorem d_Cm_compound_361 : decode b_Cm_compound 361 = .ok (.invokevirtual 162, 3) := by decide +kernel
theorem d_Cm_compound_364 : decode b_Cm_compound 364 = .ok (.goto 91, 3) := by decide +kernel
theorem d_Cm_compound_367 : decode b_Cm_compound 367 = .ok (.aload_n 0, 1) := by decide +kernel
theorem d_Cm_compound_368 : decode b_Cm_compound 368 = .ok (.aload_n 0, 1) := by decide +kernel
theorem d_Cm_compound_369 : decode b_Cm_compound 369 = .ok (.getfield 39, 3) := by decide +kernel
theorem d_Cm_compound_372 : decode b_Cm_compound 372 = .ok (.getfield 171, 3) := by decide +kernel
theorem d_Cm_compound_375 : decode b_Cm_compound 375 = .ok (.iload_n 1, 1) := by decide +kernel
theorem d_Cm_compound_376 : decode b_Cm_compound 376 = .ok (.iaload, 1) := by decide +kernel
theorem d_Cm_compound_377 : decode b_Cm_compound 377 = .ok (.iconst 0, 1) := by decide +kernel
theorem d_Cm_compound_378 : decode b_Cm_compound 378 = .ok (.invokevirtual 174, 3) := by decide +kernel
theorem d_Cm_compound_381 : decode b_Cm_compound 381 = .ok (.aload_n 0, 1) := by decide +kernel
theorem d_Cm_compound_382 : decode b_Cm_compound 382 = .ok (.getfield 43, 3) := by decide +kernel
theorem d_Cm_compound_385 : decode b_Cm_compound 385 = .ok (.bipush 20, 2) := by decide +kernel
theorem d_Cm_compound_387 : decode b_Cm_compound 387 = .ok (.invokevirtual 142, 3) := by decide +kernel
theorem d_Cm_compound_390 : decode b_Cm_compound 390 = .ok (.aload_n 0, 1) := by decide +kernel
theorem d_Cm_compound_391 : decode b_Cm_compound 391 = .ok (.aload_n 0, 1) := by decide +kernel
theorem d_Cm_compound_392 : decode b_Cm_compound 392 = .ok (.getfield 39, 3) := by decide +kernel
theorem d_Cm_compound_395 : decode b_Cm_compound 395 = .ok (.getfield 125, 3) := by decide +kernel
theorem d_Cm_compound_398 : decode b_Cm_compound 398 = .ok (.iload_n 1, 1) := by decide +kernel
theorem d_Cm_compound_399 : decode b_Cm_compound 399 = .ok (.iaload, 1) := by decide +kernel
theorem d_Cm_compound_400 : decode b_Cm_compound 400 = .ok (.invokevirtual 168, 3) := by decide +kernel
theorem d_Cm_compound_403 : decode b_Cm_compound 403 = .ok (.aload_n 0, 1) := by decide +kernel
theorem d_Cm_compound_404 : decode b_Cm_compound 404 = .ok (.getfield 43, 3) := by decide +kernel
theorem d_Cm_compound_407 : decode b_Cm_compound 407 = .ok (.bipush 8, 2) := by decide +kernel
theorem d_Cm_compound_409 : decode b_Cm_compound 409 = .ok (.invokevirtual 142, 3) := by decide +kernel
theorem d_Cm_compound_412 : decode b_Cm_compound 412 = .ok (.goto 43, 3) := by decide +kernel
theorem d_Cm_compound_415 : decode b_Cm_compound 415 = .ok (.aload_n 0, 1) := by decide +kernel
theorem d_Cm_compound_416 : decode b_Cm_compound 416 = .ok (.aload_n 0, 1) := by decide +kernel
theorem d_Cm_compound_417 : decode b_Cm_compound 417 = .ok (.getfield 39, 3) := by decide +kernel
theorem d_Cm_compound_420 : decode b_Cm_compound 420 = .ok (.getfield 125, 3) := by decide +kernel
theorem d_Cm_compound_423 : decode b_Cm_compound 423 = .ok (.iload_n 1, 1) := by decide +kernel
theorem d_Cm_compound_424 : decode b_Cm_compound 424 = .ok (.iaload, 1) := by decide +kernel
theorem d_Cm_compound_425 : decode b_Cm_compound 425 = .ok (.iconst 0, 1) := by decide +kernel
theorem d_Cm_compound_426 : decode b_Cm_compound 426 = .ok (.invokevirtual 174, 3) := by decide +kernel
theorem d_Cm_compound_429 : decode b_Cm_compound 429 = .ok (.aload_n 0, 1) := by decide +kernel
theorem d_Cm_compound_430 : decode b_Cm_compound 430 = .ok (.aload_n 0, 1) := by decide +kernel
theorem d_Cm_compound_431 : decode b_Cm_compound 431 = .ok (.getfield 39, 3) := by decide +kernel
theorem d_Cm_compound_434 : decode b_Cm_compound 434 = .ok (.getfield 171, 3) := by decide +kernel
theorem d_Cm_compound_437 : decode b_Cm_compound 437 = .ok (.iload_n 1, 1) := by decide +kernel
theorem d_Cm_compound_438 : decode b_Cm_compound 438 = .ok (.iaload, 1) := by decide +kernel
theorem d_Cm_compound_439 : decode b_Cm_compound 439 = .ok (.iconst 0, 1) := by decide +kernel
theorem d_Cm_compound_440 : decode b_Cm_compound 440 = .ok (.invokevirtual 174, 3) := by decide +kernel
theorem d_Cm_compound_443 : decode b_Cm_compound 443 = .ok (.aload_n 0, 1) := by decide +kernel
theorem d_Cm_compound_444 : decode b_Cm_compound 444 = .ok (.getfield 43, 3) := by decide +kernel
theorem d_Cm_compound_447 : decode b_Cm_compound 447 = .ok (.bipush 17, 2) := by decide +kernel
theorem d_Cm_compound_449 : decode b_Cm_compound 449 = .ok (.invokevirtual 142, 3) := by decide +kernel
theorem d_Cm_compound_452 : decode b_Cm_compound 452 = .ok (.goto 3, 3) := by decide +kernel
theorem d_Cm_compound_455 : decode b_Cm_compound 455 = .ok (.return_, 1) := by decide +kernel
set_option maxRecDepth 100000 in
theorem hl_Cm_compound : Cond.methodLink R_Cm 225 y_Cm_compound ∈ wd_tbl := wd_of 1238 (by decide +kernel) rfl
set_option maxRecDepth 100000 in
theorem hi_Cm_compound : Cond.instanceMethod y_Cm_compound ∈ wd_tbl := wd_of 1240 (by decide +kernel) rfl
set_option maxRecDepth 100000 in
theorem hs_Cm_compound : Cond.selects R_Cm y_Cm_compound y_Cm_compound ∈ wd_tbl := wd_of 58 (by decide +kernel) rfl
theorem hd_Cm_compound : y_Cm_compound.cls = R_Cm ∧ y_Cm_compound.cls ≠ "java/lang/invoke/MethodHandle" ∧ y_Cm_compound.cls ≠ "java/lang/invoke/VarHandle" ∧ (parseMethodDescriptor y_Cm_compound.desc).map (fun d => d.parameters.length) = some 2 := by decide +kernel
abbrev b_Cm_apply : ByteArray := prog_3_method_30_code
def y_Cm_apply : MethodName := ⟨R_Cm, "apply", "(IZ)V"⟩
def w_Cm_apply : List Cond := wd_ws y_Cm_apply b_Cm_apply 5 none
set_option maxRecDepth 100000 in
theorem k_Cm_apply : Cond.code y_Cm_apply b_Cm_apply 5 none ∈ wd_tbl := wd_of 1237 rfl rfl
theorem d_Cm_apply_0 : decode b_Cm_apply 0 = .ok (.aload_n 0, 1) := by decide +kernel
theorem d_Cm_apply_1 : decode b_Cm_apply 1 = .ok (.getfield 39, 3) := by decide +kernel
theorem d_Cm_apply_4 : decode b_Cm_apply 4 = .ok (.getfield 93, 3) := by decide +kernel
theorem d_Cm_apply_7 : decode b_Cm_apply 7 = .ok (.iload_n 1, 1) := by decide +kernel
theorem d_Cm_apply_8 : decode b_Cm_apply 8 = .ok (.iaload, 1) := by decide +kernel
theorem d_Cm_apply_9 : decode b_Cm_apply 9 = .ok (.istore_n 3, 1) := by decide +kernel
theorem d_Cm_apply_10 : decode b_Cm_apply 10 = .ok (.aload_n 0, 1) := by decide +kernel
theorem d_Cm_apply_11 : decode b_Cm_apply 11 = .ok (.iload_n 3, 1) := by decide +kernel
theorem d_Cm_apply_12 : decode b_Cm_apply 12 = .ok (.invokevirtual 207, 3) := by decide +kernel
theorem d_Cm_apply_15 : decode b_Cm_apply 15 = .ok (.aload_n 0, 1) := by decide +kernel
theorem d_Cm_apply_16 : decode b_Cm_apply 16 = .ok (.aload_n 0, 1) := by decide +kernel
theorem d_Cm_apply_17 : decode b_Cm_apply 17 = .ok (.getfield 39, 3) := by decide +kernel
theorem d_Cm_apply_20 : decode b_Cm_apply 20 = .ok (.getfield 125, 3) := by decide +kernel
theorem d_Cm_apply_23 : decode b_Cm_apply 23 = .ok (.iload_n 1, 1) := by decide +kernel
theorem d_Cm_apply_24 : decode b_Cm_apply 24 = .ok (.iaload, 1) := by decide +kernel
theorem d_Cm_apply_25 : decode b_Cm_apply 25 = .ok (.iconst 0, 1) := by decide +kernel
theorem d_Cm_apply_26 : decode b_Cm_apply 26 = .ok (.invokevirtual 174, 3) := by decide +kernel
theorem d_Cm_apply_29 : decode b_Cm_apply 29 = .ok (.aload_n 0, 1) := by decide +kernel
theorem d_Cm_apply_30 : decode b_Cm_apply 30 = .ok (.getfield 39, 3) := by decide +kernel
theorem d_Cm_apply_33 : decode b_Cm_apply 33 = .ok (.getfield 171, 3) := by decide +kernel
theorem d_Cm_apply_36 : decode b_Cm_apply 36 = .ok (.iload_n 1, 1) := by decide +kernel
theorem d_Cm_apply_37 : decode b_Cm_apply 37 = .ok (.iaload, 1) := by decide +kernel
theorem d_Cm_apply_38 : decode b_Cm_apply 38 = .ok (.istore 4, 2) := by decide +kernel
theorem d_Cm_apply_40 : decode b_Cm_apply 40 = .ok (.iload 4, 2) := by decide +kernel
theorem d_Cm_apply_42 : decode b_Cm_apply 42 = .ok (.ifCond .eq 96, 3) := by decide +kernel
theorem d_Cm_apply_45 : decode b_Cm_apply 45 = .ok (.aload_n 0, 1) := by decide +kernel
theorem d_Cm_apply_46 : decode b_Cm_apply 46 = .ok (.aload_n 0, 1) := by decide +kernel
theorem d_Cm_apply_47 : decode b_Cm_apply 47 = .ok (.getfield 39, 3) := by decide +kernel
theorem d_Cm_apply_50 : decode b_Cm_apply 50 = .ok (.getfield 125, 3) := by decide +kernel
theorem d_Cm_apply_53 : decode b_Cm_apply 53 = .ok (.iload 4, 2) := by decide +kernel
theorem d_Cm_apply_55 : decode b_Cm_apply 55 = .ok (.iaload, 1) := by decide +kernel
theorem d_Cm_apply_56 : decode b_Cm_apply 56 = .ok (.invokevirtual 210, 3) := by decide +kernel
theorem d_Cm_apply_59 : decode b_Cm_apply 59 = .ok (.aload_n 0, 1) := by decide +kernel
theorem d_Cm_apply_60 : decode b_Cm_apply 60 = .ok (.getfield 43, 3) := by decide +kernel
theorem d_Cm_apply_63 : decode b_Cm_apply 63 = .ok (.iload_n 2, 1) := by decide +kernel
theorem d_Cm_apply_64 : decode b_Cm_apply 64 = .ok (.ifCond .eq 21, 3) := by decide +kernel
theorem d_Cm_apply_67 : decode b_Cm_apply 67 = .ok (.aload_n 0, 1) := by decide +kernel
theorem d_Cm_apply_68 : decode b_Cm_apply 68 = .ok (.getfield 39, 3) := by decide +kernel
theorem d_Cm_apply_71 : decode b_Cm_apply 71 = .ok (.getfield 139, 3) := by decide +kernel
theorem d_Cm_apply_74 : decode b_Cm_apply 74 = .ok (.iload 4, 2) := by decide +kernel
theorem d_Cm_apply_76 : decode b_Cm_apply 76 = .ok (.iaload, 1) := by decide +kernel
theorem d_Cm_apply_77 : decode b_Cm_apply 77 = .ok (.ifCond .ne 8, 3) := by decide +kernel
theorem d_Cm_apply_80 : decode b_Cm_apply 80 = .ok (.bipush 28, 2) := by decide +kernel
theorem d_Cm_apply_82 : decode b_Cm_apply 82 = .ok (.goto 5, 3) := by decide +kernel
theorem d_Cm_apply_85 : decode b_Cm_apply 85 = .ok (.bipush 27, 2) := by decide +kernel
theorem d_Cm_apply_87 : decode b_Cm_apply 87 = .ok (.invokevirtual 142, 3) := by decide +kernel
theorem d_Cm_apply_90 : decode b_Cm_apply 90 = .ok (.aload_n 0, 1) := by decide +kernel
theorem d_Cm_apply_91 : decode b_Cm_apply 91 = .ok (.getfield 43, 3) := by decide +kernel
theorem d_Cm_apply_94 : decode b_Cm_apply 94 = .ok (.aload_n 0, 1) := by decide +kernel
theorem d_Cm_apply_95 : decode b_Cm_apply 95 = .ok (.getfield 39, 3) := by decide +kernel
theorem d_Cm_apply_98 : decode b_Cm_apply 98 = .ok (.getfield 171, 3) := by decide +kernel
theorem d_Cm_apply_101 : decode b_Cm_apply 101 = .ok (.iload 4, 2) := by decide +kernel
theorem d_Cm_apply_103 : decode b_Cm_apply 103 = .ok (.iaload, 1) := by decide +kernel
theorem d_Cm_apply_104 : decode b_Cm_apply 104 = .ok (.invokevirtual 142, 3) := by decide +kernel
theorem d_Cm_apply_107 : decode b_Cm_apply 107 = .ok (.aload_n 0, 1) := by decide +kernel
theorem d_Cm_apply_108 : decode b_Cm_apply 108 = .ok (.getfield 43, 3) := by decide +kernel
theorem d_Cm_apply_111 : decode b_Cm_apply 111 = .ok (.aload_n 0, 1) := by decide +kernel
theorem d_Cm_apply_112 : decode b_Cm_apply 112 = .ok (.getfield 35, 3) := by decide +kernel
theorem d_Cm_apply_115 : decode b_Cm_apply 115 = .ok (.getfield 74, 3) := by decide +kernel
theorem d_Cm_apply_118 : decode b_Cm_apply 118 = .ok (.iload_n 3, 1) := by decide +kernel
theorem d_Cm_apply_119 : decode b_Cm_apply 119 = .ok (.iaload, 1) := by decide +kernel
theorem d_Cm_apply_120 : decode b_Cm_apply 120 = .ok (.invokevirtual 142, 3) := by decide +kernel
theorem d_Cm_apply_123 : decode b_Cm_apply 123 = .ok (.aload_n 0, 1) := by decide +kernel
theorem d_Cm_apply_124 : decode b_Cm_apply 124 = .ok (.getfield 39, 3) := by decide +kernel
theorem d_Cm_apply_127 : decode b_Cm_apply 127 = .ok (.getfield 139, 3) := by decide +kernel
theorem d_Cm_apply_130 : decode b_Cm_apply 130 = .ok (.iload 4, 2) := by decide +kernel
theorem d_Cm_apply_132 : decode b_Cm_apply 132 = .ok (.iaload, 1) := by decide +kernel
theorem d_Cm_apply_133 : decode b_Cm_apply 133 = .ok (.istore 4, 2) := by decide +kernel
theorem d_Cm_apply_135 : decode b_Cm_apply 135 = .ok (.goto (-95), 3) := by decide +kernel
theorem d_Cm_apply_138 : decode b_Cm_apply 138 = .ok (.return_, 1) := by decide +kernel
set_option maxRecDepth 100000 in
theorem hl_Cm_apply : Cond.methodLink R_Cm 222 y_Cm_apply ∈ wd_tbl := wd_of 1234 (by decide +kernel) rfl
set_option maxRecDepth 100000 in
theorem hi_Cm_apply : Cond.instanceMethod y_Cm_apply ∈ wd_tbl := wd_of 1236 (by decide +kernel) rfl
set_option maxRecDepth 100000 in
theorem hs_Cm_apply : Cond.selects R_Cm y_Cm_apply y_Cm_apply ∈ wd_tbl := wd_of 57 (by decide +kernel) rfl
theorem hd_Cm_apply : y_Cm_apply.cls = R_Cm ∧ y_Cm_apply.cls ≠ "java/lang/invoke/MethodHandle" ∧ y_Cm_apply.cls ≠ "java/lang/invoke/VarHandle" ∧ (parseMethodDescriptor y_Cm_apply.desc).map (fun d => d.parameters.length) = some 2 := by decide +kernel
abbrev b_Cm_call : ByteArray := prog_3_method_29_code
def y_Cm_call : MethodName := ⟨R_Cm, "call", "(IZ)V"⟩
def w_Cm_call : List Cond := wd_ws y_Cm_call b_Cm_call 8 none
set_option maxRecDepth 100000 in
theorem k_Cm_call : Cond.code y_Cm_call b_Cm_call 8 none ∈ wd_tbl := wd_of 1233 rfl rfl
theorem d_Cm_call_0 : decode b_Cm_call 0 = .ok (.aload_n 0, 1) := by decide +kernel
theorem d_Cm_call_1 : decode b_Cm_call 1 = .ok (.getfield 39, 3) := by decide +kernel
theorem d_Cm_call_4 : decode b_Cm_call 4 = .ok (.getfield 93, 3) := by decide +kernel
theorem d_Cm_call_7 : decode b_Cm_call 7 = .ok (.iload_n 1, 1) := by decide +kernel
theorem d_Cm_call_8 : decode b_Cm_call 8 = .ok (.iaload, 1) := by decide +kernel
theorem d_Cm_call_9 : decode b_Cm_call 9 = .ok (.istore_n 3, 1) := by decide +kernel
theorem d_Cm_call_10 : decode b_Cm_call 10 = .ok (.aload_n 0, 1) := by decide +kernel
theorem d_Cm_call_11 : decode b_Cm_call 11 = .ok (.getfield 39, 3) := by decide +kernel
theorem d_Cm_call_14 : decode b_Cm_call 14 = .ok (.getfield 155, 3) := by decide +kernel
theorem d_Cm_call_17 : decode b_Cm_call 17 = .ok (.iload_n 1, 1) := by decide +kernel
theorem d_Cm_call_18 : decode b_Cm_call 18 = .ok (.iaload, 1) := by decide +kernel
theorem d_Cm_call_19 : decode b_Cm_call 19 = .ok (.istore 4, 2) := by decide +kernel
theorem d_Cm_call_21 : decode b_Cm_call 21 = .ok (.aload_n 0, 1) := by decide +kernel
theorem d_Cm_call_22 : decode b_Cm_call 22 = .ok (.aload_n 0, 1) := by decide +kernel
theorem d_Cm_call_23 : decode b_Cm_call 23 = .ok (.getfield 39, 3) := by decide +kernel
theorem d_Cm_call_26 : decode b_Cm_call 26 = .ok (.getfield 125, 3) := by decide +kernel
theorem d_Cm_call_29 : decode b_Cm_call 29 = .ok (.iload_n 1, 1) := by decide +kernel
theorem d_Cm_call_30 : decode b_Cm_call 30 = .ok (.iaload, 1) := by decide +kernel
theorem d_Cm_call_31 : decode b_Cm_call 31 = .ok (.iload 4, 2) := by decide +kernel
theorem d_Cm_call_33 : decode b_Cm_call 33 = .ok (.invokevirtual 110, 3) := by decide +kernel
theorem d_Cm_call_36 : decode b_Cm_call 36 = .ok (.istore 5, 2) := by decide +kernel
theorem d_Cm_call_38 : decode b_Cm_call 38 = .ok (.aload_n 0, 1) := by decide +kernel
theorem d_Cm_call_39 : decode b_Cm_call 39 = .ok (.getfield 43, 3) := by decide +kernel
theorem d_Cm_call_42 : decode b_Cm_call 42 = .ok (.aload_n 0, 1) := by decide +kernel
theorem d_Cm_call_43 : decode b_Cm_call 43 = .ok (.getfield 39, 3) := by decide +kernel
theorem d_Cm_call_46 : decode b_Cm_call 46 = .ok (.getfield 125, 3) := by decide +kernel
theorem d_Cm_call_49 : decode b_Cm_call 49 = .ok (.iload_n 1, 1) := by decide +kernel
theorem d_Cm_call_50 : decode b_Cm_call 50 = .ok (.iaload, 1) := by decide +kernel
theorem d_Cm_call_51 : decode b_Cm_call 51 = .ok (.iload 4, 2) := by decide +kernel
theorem d_Cm_call_53 : decode b_Cm_call 53 = .ok (.invokevirtual 107, 3) := by decide +kernel
theorem d_Cm_call_56 : decode b_Cm_call 56 = .ok (.istore 6, 2) := by decide +kernel
theorem d_Cm_call_58 : decode b_Cm_call 58 = .ok (.iload 5, 2) := by decide +kernel
theorem d_Cm_call_60 : decode b_Cm_call 60 = .ok (.iconst (-1), 1) := by decide +kernel
theorem d_Cm_call_61 : decode b_Cm_call 61 = .ok (.if_icmp .ne 16, 3) := by decide +kernel
theorem d_Cm_call_64 : decode b_Cm_call 64 = .ok (.iload 6, 2) := by decide +kernel
theorem d_Cm_call_66 : decode b_Cm_call 66 = .ok (.iconst (-1), 1) := by decide +kernel
theorem d_Cm_call_67 : decode b_Cm_call 67 = .ok (.if_icmp .ne 10, 3) := by decide +kernel
theorem d_Cm_call_70 : decode b_Cm_call 70 = .ok (.aload_n 0, 1) := by decide +kernel
theorem d_Cm_call_71 : decode b_Cm_call 71 = .ok (.iload_n 3, 1) := by decide +kernel
theorem d_Cm_call_72 : decode b_Cm_call 72 = .ok (.bipush 6, 2) := by decide +kernel
theorem d_Cm_call_74 : decode b_Cm_call 74 = .ok (.invokevirtual 89, 3) := by decide +kernel
theorem d_Cm_call_77 : decode b_Cm_call 77 = .ok (.iload 5, 2) := by decide +kernel
theorem d_Cm_call_79 : decode b_Cm_call 79 = .ok (.bipush 17, 2) := by decide +kernel
theorem d_Cm_call_81 : decode b_Cm_call 81 = .ok (.if_icmp .lt 10, 3) := by decide +kernel
theorem d_Cm_call_84 : decode b_Cm_call 84 = .ok (.iload 5, 2) := by decide +kernel
theorem d_Cm_call_86 : decode b_Cm_call 86 = .ok (.bipush 28, 2) := by decide +kernel
theorem d_Cm_call_88 : decode b_Cm_call 88 = .ok (.if_icmp .le 8, 3) := by decide +kernel
theorem d_Cm_call_91 : decode b_Cm_call 91 = .ok (.aload_n 0, 1) := by decide +kernel
theorem d_Cm_call_92 : decode b_Cm_call 92 = .ok (.iload_n 3, 1) := by decide +kernel
theorem d_Cm_call_93 : decode b_Cm_call 93 = .ok (.invokevirtual 207, 3) := by decide +kernel
theorem d_Cm_call_96 : decode b_Cm_call 96 = .ok (.aload_n 0, 1) := by decide +kernel
theorem d_Cm_call_97 : decode b_Cm_call 97 = .ok (.aload_n 0, 1) := by decide +kernel
theorem d_Cm_call_98 : decode b_Cm_call 98 = .ok (.getfield 39, 3) := by decide +kernel
theorem d_Cm_call_101 : decode b_Cm_call 101 = .ok (.getfield 171, 3) := by decide +kernel
theorem d_Cm_call_104 : decode b_Cm_call 104 = .ok (.iload_n 1, 1) := by decide +kernel
theorem d_Cm_call_105 : decode b_Cm_call 105 = .ok (.iaload, 1) := by decide +kernel
theorem d_Cm_call_106 : decode b_Cm_call 106 = .ok (.invokevirtual 210, 3) := by decide +kernel
theorem d_Cm_call_109 : decode b_Cm_call 109 = .ok (.iload 5, 2) := by decide +kernel
theorem d_Cm_call_111 : decode b_Cm_call 111 = .ok (.iconst (-1), 1) := by decide +kernel
theorem d_Cm_call_112 : decode b_Cm_call 112 = .ok (.if_icmp .eq 71, 3) := by decide +kernel
theorem d_Cm_call_115 : decode b_Cm_call 115 = .ok (.iload 5, 2) := by decide +kernel
theorem d_Cm_call_117 : decode b_Cm_call 117 = .ok (.iconst 2, 1) := by decide +kernel
theorem d_Cm_call_118 : decode b_Cm_call 118 = .ok (.if_icmp .eq 29, 3) := by decide +kernel
theorem d_Cm_call_121 : decode b_Cm_call 121 = .ok (.iload 5, 2) := by decide +kernel
theorem d_Cm_call_123 : decode b_Cm_call 123 = .ok (.iconst 3, 1) := by decide +kernel
theorem d_Cm_call_124 : decode b_Cm_call 124 = .ok (.if_icmp .eq 23, 3) := by decide +kernel
theorem d_Cm_call_127 : decode b_Cm_call 127 = .ok (.iload 5, 2) := by decide +kernel
theorem d_Cm_call_129 : decode b_Cm_call 129 = .ok (.iconst 4, 1) := by decide +kernel
theorem d_Cm_call_130 : decode b_Cm_call 130 = .ok (.if_icmp .eq 17, 3) := by decide +kernel
theorem d_Cm_call_133 : decode b_Cm_call 133 = .ok (.iload 5, 2) := by decide +kernel
theorem d_Cm_call_135 : decode b_Cm_call 135 = .ok (.bipush 29, 2) := by decide +kernel
theorem d_Cm_call_137 : decode b_Cm_call 137 = .ok (.if_icmp .eq 10, 3) := by decide +kernel
theorem d_Cm_call_140 : decode b_Cm_call 140 = .ok (.iload 5, 2) := by decide +kernel
theorem d_Cm_call_142 : decode b_Cm_call 142 = .ok (.bipush 15, 2) := by decide +kernel
theorem d_Cm_call_144 : decode b_Cm_call 144 = .ok (.if_icmp .ne 7, 3) := by decide +kernel
theorem d_Cm_call_147 : decode b_Cm_call 147 = .ok (.iconst 1, 1) := by decide +kernel
theorem d_Cm_call_148 : decode b_Cm_call 148 = .ok (.goto 4, 3) := by decide +kernel
theorem d_Cm_call_151 : decode b_Cm_call 151 = .ok (.iconst 0, 1) := by decide +kernel
theorem d_Cm_call_152 : decode b_Cm_call 152 = .ok (.istore 7, 2) := by decide +kernel
theorem d_Cm_call_154 : decode b_Cm_call 154 = .ok (.aload_n 0, 1) := by decide +kernel
theorem d_Cm_call_155 : decode b_Cm_call 155 = .ok (.getfield 43, 3) := by decide +kernel
theorem d_Cm_call_158 : decode b_Cm_call 158 = .ok (.iload 7, 2) := by decide +kernel
theorem d_Cm_call_160 : decode b_Cm_call 160 = .ok (.ifCond .eq 8, 3) := by decide +kernel
theorem d_Cm_call_163 : decode b_Cm_call 163 = .ok (.bipush 40, 2) := by decide +kernel
theorem d_Cm_call_165 : decode b_Cm_call 165 = .ok (.goto 5, 3) := by decide +kernel
theorem d_Cm_call_168 : decode b_Cm_call 168 = .ok (.bipush 39, 2) := by decide +kernel
theorem d_Cm_call_170 : decode b_Cm_call 170 = .ok (.invokevirtual 142, 3) := by decide +kernel
theorem d_Cm_call_173 : decode b_Cm_call 173 = .ok (.aload_n 0, 1) := by decide +kernel
theorem d_Cm_call_174 : decode b_Cm_call 174 = .ok (.getfield 43, 3) := by decide +kernel
theorem d_Cm_call_177 : decode b_Cm_call 177 = .ok (.iload 5, 2) := by decide +kernel
theorem d_Cm_call_179 : decode b_Cm_call 179 = .ok (.invokevirtual 142, 3) := by decide +kernel
theorem d_Cm_call_182 : decode b_Cm_call 182 = .ok (.return_, 1) := by decide +kernel
theorem d_Cm_call_183 : decode b_Cm_call 183 = .ok (.aload_n 0, 1) := by decide +kernel
theorem d_Cm_call_184 : decode b_Cm_call 184 = .ok (.getfield 43, 3) := by decide +kernel
theorem d_Cm_call_187 : decode b_Cm_call 187 = .ok (.iload_n 2, 1) := by decide +kernel
theorem d_Cm_call_188 : decode b_Cm_call 188 = .ok (.ifCond .eq 8, 3) := by decide +kernel
theorem d_Cm_call_191 : decode b_Cm_call 191 = .ok (.bipush 26, 2) := by decide +kernel
theorem d_Cm_call_193 : decode b_Cm_call 193 = .ok (.goto 5, 3) := by decide +kernel
theorem d_Cm_call_196 : decode b_Cm_call 196 = .ok (.bipush 25, 2) := by decide +kernel
theorem d_Cm_call_198 : decode b_Cm_call 198 = .ok (.invokevirtual 142, 3) := by decide +kernel
theorem d_Cm_call_201 : decode b_Cm_call 201 = .ok (.aload_n 0, 1) := by decide +kernel
theorem d_Cm_call_202 : decode b_Cm_call 202 = .ok (.getfield 43, 3) := by decide +kernel
theorem d_Cm_call_205 : decode b_Cm_call 205 = .ok (.iload 6, 2) := by decide +kernel
theorem d_Cm_call_207 : decode b_Cm_call 207 = .ok (.invokevirtual 142, 3) := by decide +kernel
theorem d_Cm_call_210 : decode b_Cm_call 210 = .ok (.aload_n 0, 1) := by decide +kernel
theorem d_Cm_call_211 : decode b_Cm_call 211 = .ok (.getfield 43, 3) := by decide +kernel
theorem d_Cm_call_214 : decode b_Cm_call 214 = .ok (.iload 4, 2) := by decide +kernel
theorem d_Cm_call_216 : decode b_Cm_call 216 = .ok (.invokevirtual 142, 3) := by decide +kernel
theorem d_Cm_call_219 : decode b_Cm_call 219 = .ok (.aload_n 0, 1) := by decide +kernel
theorem d_Cm_call_220 : decode b_Cm_call 220 = .ok (.getfield 43, 3) := by decide +kernel
theorem d_Cm_call_223 : decode b_Cm_call 223 = .ok (.aload_n 0, 1) := by decide +kernel
theorem d_Cm_call_224 : decode b_Cm_call 224 = .ok (.getfield 35, 3) := by decide +kernel
theorem d_Cm_call_227 : decode b_Cm_call 227 = .ok (.getfield 74, 3) := by decide +kernel
theorem d_Cm_call_230 : decode b_Cm_call 230 = .ok (.iload_n 3, 1) := by decide +kernel
theorem d_Cm_call_231 : decode b_Cm_call 231 = .ok (.iaload, 1) := by decide +kernel
theorem d_Cm_call_232 : decode b_Cm_call 232 = .ok (.invokevirtual 142, 3) := by decide +kernel
theorem d_Cm_call_235 : decode b_Cm_call 235 = .ok (.return_, 1) := by decide +kernel
set_option maxRecDepth 100000 in
theorem hl_Cm_call : Cond.methodLink R_Cm 219 y_Cm_call ∈ wd_tbl := wd_of 1230 (by decide +kernel) rfl
set_option maxRecDepth 100000 in
theorem hi_Cm_call : Cond.instanceMethod y_Cm_call ∈ wd_tbl := wd_of 1232 (by decide +kernel) rfl
set_option maxRecDepth 100000 in
theorem hs_Cm_call : Cond.selects R_Cm y_Cm_call y_Cm_call ∈ wd_tbl := wd_of 56 (by decide +kernel) rfl
theorem hd_Cm_call : y_Cm_call.cls = R_Cm ∧ y_Cm_call.cls ≠ "java/lang/invoke/MethodHandle" ∧ y_Cm_call.cls ≠ "java/lang/invoke/VarHandle" ∧ (parseMethodDescriptor y_Cm_call.desc).map (fun d => d.parameters.length) = some 2 := by decide +kernel
abbrev b_Cm_signs : ByteArray := prog_3_method_27_code
def y_Cm_signs : MethodName := ⟨R_Cm, "signs", "(I)V"⟩
def w_Cm_signs : List Cond := wd_ws y_Cm_signs b_Cm_signs 9 none
set_option maxRecDepth 100000 in
theorem k_Cm_signs : Cond.code y_Cm_signs b_Cm_signs 9 none ∈ wd_tbl := wd_of 1209 rfl rfl
theorem d_Cm_signs_0 : decode b_Cm_signs 0 = .ok (.iconst 0, 1) := by decide +kernel
theorem d_Cm_signs_1 : decode b_Cm_signs 1 = .ok (.istore_n 2, 1) := by decide +kernel
theorem d_Cm_signs_2 : decode b_Cm_signs 2 = .ok (.iconst 0, 1) := by decide +kernel
theorem d_Cm_signs_3 : decode b_Cm_signs 3 = .ok (.istore_n 3, 1) := by decide +kernel
theorem d_Cm_signs_4 : decode b_Cm_signs 4 = .ok (.iconst 0, 1) := by decide +kernel
theorem d_Cm_signs_5 : decode b_Cm_signs 5 = .ok (.istore 4, 2) := by decide +kernel
theorem d_Cm_signs_7 : decode b_Cm_signs 7 = .ok (.iconst 0, 1) := by decide +kernel
theorem d_Cm_signs_8 : decode b_Cm_signs 8 = .ok (.istore 5, 2) := by decide +kernel
theorem d_Cm_signs_10 : decode b_Cm_signs 10 = .ok (.iload_n 1, 1) := by decide +kernel
theorem d_Cm_signs_11 : decode b_Cm_signs 11 = .ok (.istore 6, 2) := by decide +kernel
theorem d_Cm_signs_13 : decode b_Cm_signs 13 = .ok (.iload 6, 2) := by decide +kernel
theorem d_Cm_signs_15 : decode b_Cm_signs 15 = .ok (.ifCond .eq 198, 3) := by decide +kernel
theorem d_Cm_signs_18 : decode b_Cm_signs 18 = .ok (.aload_n 0, 1) := by decide +kernel
theorem d_Cm_signs_19 : decode b_Cm_signs 19 = .ok (.getfield 39, 3) := by decide +kernel
theorem d_Cm_signs_22 : decode b_Cm_signs 22 = .ok (.getfield 177, 3) := by decide +kernel
theorem d_Cm_signs_25 : decode b_Cm_signs 25 = .ok (.iload 6, 2) := by decide +kernel
theorem d_Cm_signs_27 : decode b_Cm_signs 27 = .ok (.iaload, 1) := by decide +kernel
theorem d_Cm_signs_28 : decode b_Cm_signs 28 = .ok (.istore 7, 2) := by decide +kernel
theorem d_Cm_signs_30 : decode b_Cm_signs 30 = .ok (.aload_n 0, 1) := by decide +kernel
theorem d_Cm_signs_31 : decode b_Cm_signs 31 = .ok (.getfield 39, 3) := by decide +kernel
theorem d_Cm_signs_34 : decode b_Cm_signs 34 = .ok (.getfield 125, 3) := by decide +kernel
theorem d_Cm_signs_37 : decode b_Cm_signs 37 = .ok (.iload 6, 2) := by decide +kernel
theorem d_Cm_signs_39 : decode b_Cm_signs 39 = .ok (.iaload, 1) := by decide +kernel
theorem d_Cm_signs_40 : decode b_Cm_signs 40 = .ok (.istore 8, 2) := by decide +kernel
theorem d_Cm_signs_42 : decode b_Cm_signs 42 = .ok (.iload 7, 2) := by decide +kernel
theorem d_Cm_signs_44 : decode b_Cm_signs 44 = .ok (.bipush 24, 2) := by decide +kernel
theorem d_Cm_signs_46 : decode b_Cm_signs 46 = .ok (.if_icmp .ne 36, 3) := by decide +kernel
theorem d_Cm_signs_49 : decode b_Cm_signs 49 = .ok (.iload 8, 2) := by decide +kernel
theorem d_Cm_signs_51 : decode b_Cm_signs 51 = .ok (.bipush 6, 2) := by decide +kernel
theorem d_Cm_signs_53 : decode b_Cm_signs 53 = .ok (.if_icmp .ne 29, 3) := by decide +kernel
theorem d_Cm_signs_56 : decode b_Cm_signs 56 = .ok (.aload_n 0, 1) := by decide +kernel
theorem d_Cm_signs_57 : decode b_Cm_signs 57 = .ok (.getfield 43, 3) := by decide +kernel
theorem d_Cm_signs_60 : decode b_Cm_signs 60 = .ok (.bipush 13, 2) := by decide +kernel
theorem d_Cm_signs_62 : decode b_Cm_signs 62 = .ok (.invokevirtual 142, 3) := by decide +kernel
theorem d_Cm_signs_65 : decode b_Cm_signs 65 = .ok (.aload_n 0, 1) := by decide +kernel
theorem d_Cm_signs_66 : decode b_Cm_signs 66 = .ok (.getfield 43, 3) := by decide +kernel
theorem d_Cm_signs_69 : decode b_Cm_signs 69 = .ok (.iconst 0, 1) := by decide +kernel
theorem d_Cm_signs_70 : decode b_Cm_signs 70 = .ok (.invokevirtual 165, 3) := by decide +kernel
theorem d_Cm_signs_73 : decode b_Cm_signs 73 = .ok (.istore_n 2, 1) := by decide +kernel
theorem d_Cm_signs_74 : decode b_Cm_signs 74 = .ok (.aload_n 0, 1) := by decide +kernel
theorem d_Cm_signs_75 : decode b_Cm_signs 75 = .ok (.getfield 116, 3) := by decide +kernel
theorem d_Cm_signs_78 : decode b_Cm_signs 78 = .ok (.istore_n 3, 1) := by decide +kernel
theorem d_Cm_signs_79 : decode b_Cm_signs 79 = .ok (.goto 119, 3) := by decide +kernel
theorem d_Cm_signs_82 : decode b_Cm_signs 82 = .ok (.iload 7, 2) := by decide +kernel
theorem d_Cm_signs_84 : decode b_Cm_signs 84 = .ok (.bipush 24, 2) := by decide +kernel
theorem d_Cm_signs_86 : decode b_Cm_signs 86 = .ok (.if_icmp .ne 31, 3) := by decide +kernel
theorem d_Cm_signs_89 : decode b_Cm_signs 89 = .ok (.aload_n 0, 1) := by decide +kernel
theorem d_Cm_signs_90 : decode b_Cm_signs 90 = .ok (.getfield 43, 3) := by decide +kernel
theorem d_Cm_signs_93 : decode b_Cm_signs 93 = .ok (.bipush 14, 2) := by decide +kernel
theorem d_Cm_signs_95 : decode b_Cm_signs 95 = .ok (.invokevirtual 142, 3) := by decide +kernel
theorem d_Cm_signs_98 : decode b_Cm_signs 98 = .ok (.aload_n 0, 1) := by decide +kernel
theorem d_Cm_signs_99 : decode b_Cm_signs 99 = .ok (.getfield 43, 3) := by decide +kernel
theorem d_Cm_signs_102 : decode b_Cm_signs 102 = .ok (.iconst 0, 1) := by decide +kernel
theorem d_Cm_signs_103 : decode b_Cm_signs 103 = .ok (.invokevirtual 165, 3) := by decide +kernel
theorem d_Cm_signs_106 : decode b_Cm_signs 106 = .ok (.istore 4, 2) := by decide +kernel
theorem d_Cm_signs_108 : decode b_Cm_signs 108 = .ok (.aload_n 0, 1) := by decide +kernel
theorem d_Cm_signs_109 : decode b_Cm_signs 109 = .ok (.getfield 116, 3) := by decide +kernel
theorem d_Cm_signs_112 : decode b_Cm_signs 112 = .ok (.istore 5, 2) := by decide +kernel
theorem d_Cm_signs_114 : decode b_Cm_signs 114 = .ok (.goto 84, 3) := by decide +kernel
theorem d_Cm_signs_117 : decode b_Cm_signs 117 = .ok (.iload 7, 2) := by decide +kernel
theorem d_Cm_signs_119 : decode b_Cm_signs 119 = .ok (.bipush 23, 2) := by decide +kernel
theorem d_Cm_signs_121 : decode b_Cm_signs 121 = .ok (.if_icmp .eq 13, 3) := by decide +kernel
theorem d_Cm_signs_124 : decode b_Cm_signs 124 = .ok (.aload_n 0, 1) := by decide +kernel
theorem d_Cm_signs_125 : decode b_Cm_signs 125 = .ok (.iload 6, 2) := by decide +kernel
theorem d_Cm_signs_127 : decode b_Cm_signs 127 = .ok (.iconst 0, 1) := by decide +kernel
theorem d_Cm_signs_128 : decode b_Cm_signs 128 = .ok (.invokevirtual 174, 3) := by decide +kernel
theorem d_Cm_signs_131 : decode b_Cm_signs 131 = .ok (.goto 67, 3) := by decide +kernel
theorem d_Cm_signs_134 : decode b_Cm_signs 134 = .ok (.iload 8, 2) := by decide +kernel
theorem d_Cm_signs_136 : decode b_Cm_signs 136 = .ok (.bipush 6, 2) := by decide +kernel
theorem d_Cm_signs_138 : decode b_Cm_signs 138 = .ok (.if_icmp .ne 19, 3) := by decide +kernel
theorem d_Cm_signs_141 : decode b_Cm_signs 141 = .ok (.aload_n 0, 1) := by decide +kernel
theorem d_Cm_signs_142 : decode b_Cm_signs 142 = .ok (.iload_n 3, 1) := by decide +kernel
theorem d_Cm_signs_143 : decode b_Cm_signs 143 = .ok (.invokevirtual 228, 3) := by decide +kernel
theorem d_Cm_signs_146 : decode b_Cm_signs 146 = .ok (.aload_n 0, 1) := by decide +kernel
theorem d_Cm_signs_147 : decode b_Cm_signs 147 = .ok (.getfield 43, 3) := by decide +kernel
theorem d_Cm_signs_150 : decode b_Cm_signs 150 = .ok (.iload_n 2, 1) := by decide +kernel
theorem d_Cm_signs_151 : decode b_Cm_signs 151 = .ok (.invokevirtual 162, 3) := by decide +kernel
theorem d_Cm_signs_154 : decode b_Cm_signs 154 = .ok (.goto 44, 3) := by decide +kernel
theorem d_Cm_signs_157 : decode b_Cm_signs 157 = .ok (.iload 8, 2) := by decide +kernel
theorem d_Cm_signs_159 : decode b_Cm_signs 159 = .ok (.bipush 16, 2) := by decide +kernel
theorem d_Cm_signs_161 : decode b_Cm_signs 161 = .ok (.if_icmp .ne 21, 3) := by decide +kernel
theorem d_Cm_signs_164 : decode b_Cm_signs 164 = .ok (.aload_n 0, 1) := by decide +kernel
theorem d_Cm_signs_165 : decode b_Cm_signs 165 = .ok (.iload 5, 2) := by decide +kernel
theorem d_Cm_signs_167 : decode b_Cm_signs 167 = .ok (.invokevirtual 228, 3) := by decide +kernel
theorem d_Cm_signs_170 : decode b_Cm_signs 170 = .ok (.aload_n 0, 1) := by decide +kernel
theorem d_Cm_signs_171 : decode b_Cm_signs 171 = .ok (.getfield 43, 3) := by decide +kernel
theorem d_Cm_signs_174 : decode b_Cm_signs 174 = .ok (.iload 4, 2) := by decide +kernel
theorem d_Cm_signs_176 : decode b_Cm_signs 176 = .ok (.invokevirtual 162, 3) := by decide +kernel
theorem d_Cm_signs_179 : decode b_Cm_signs 179 = .ok (.goto 19, 3) := by decide +kernel
theorem d_Cm_signs_182 : decode b_Cm_signs 182 = .ok (.aload_n 0, 1) := by decide +kernel
theorem d_Cm_signs_183 : decode b_Cm_signs 183 = .ok (.iload 8, 2) := by decide +kernel
theorem d_Cm_signs_185 : decode b_Cm_signs 185 = .ok (.aload_n 0, 1) := by decide +kernel
theorem d_Cm_signs_186 : decode b_Cm_signs 186 = .ok (.getfield 39, 3) := by decide +kernel
theorem d_Cm_signs_189 : decode b_Cm_signs 189 = .ok (.getfield 93, 3) := by decide +kernel
theorem d_Cm_signs_192 : decode b_Cm_signs 192 = .ok (.iload 6, 2) := by decide +kernel
theorem d_Cm_signs_194 : decode b_Cm_signs 194 = .ok (.iaload, 1) := by decide +kernel
theorem d_Cm_signs_195 : decode b_Cm_signs 195 = .ok (.invokevirtual 263, 3) := by decide +kernel
theorem d_Cm_signs_198 : decode b_Cm_signs 198 = .ok (.aload_n 0, 1) := by decide +kernel
theorem d_Cm_signs_199 : decode b_Cm_signs 199 = .ok (.getfield 39, 3) := by decide +kernel
theorem d_Cm_signs_202 : decode b_Cm_signs 202 = .ok (.getfield 139, 3) := by decide +kernel
theorem d_Cm_signs_205 : decode b_Cm_signs 205 = .ok (.iload 6, 2) := by decide +kernel
theorem d_Cm_signs_207 : decode b_Cm_signs 207 = .ok (.iaload, 1) := by decide +kernel
theorem d_Cm_signs_208 : decode b_Cm_signs 208 = .ok (.istore 6, 2) := by decide +kernel
theorem d_Cm_signs_210 : decode b_Cm_signs 210 = .ok (.goto (-197), 3) := by decide +kernel
theorem d_Cm_signs_213 : decode b_Cm_signs 213 = .ok (.return_, 1) := by decide +kernel
set_option maxRecDepth 100000 in
theorem hl_Cm_signs : Cond.methodLink R_Cm 216 y_Cm_signs ∈ wd_tbl := wd_of 1206 (by decide +kernel) rfl
set_option maxRecDepth 100000 in
theorem hi_Cm_signs : Cond.instanceMethod y_Cm_signs ∈ wd_tbl := wd_of 1208 (by decide +kernel) rfl
set_option maxRecDepth 100000 in
theorem hs_Cm_signs : Cond.selects R_Cm y_Cm_signs y_Cm_signs ∈ wd_tbl := wd_of 53 (by decide +kernel) rfl
theorem hd_Cm_signs : y_Cm_signs.cls = R_Cm ∧ y_Cm_signs.cls ≠ "java/lang/invoke/MethodHandle" ∧ y_Cm_signs.cls ≠ "java/lang/invoke/VarHandle" ∧ (parseMethodDescriptor y_Cm_signs.desc).map (fun d => d.parameters.length) = some 1 := by decide +kernel
abbrev b_Cm_list : ByteArray := prog_3_method_21_code
def y_Cm_list : MethodName := ⟨R_Cm, "list", "(I)V"⟩
def w_Cm_list : List Cond := wd_ws y_Cm_list b_Cm_list 2 none
set_option maxRecDepth 100000 in
theorem k_Cm_list : Cond.code y_Cm_list b_Cm_list 2 none ∈ wd_tbl := wd_of 1205 rfl rfl
theorem d_Cm_list_0 : decode b_Cm_list 0 = .ok (.aload_n 0, 1) := by decide +kernel
theorem d_Cm_list_1 : decode b_Cm_list 1 = .ok (.aload_n 0, 1) := by decide +kernel
theorem d_Cm_list_2 : decode b_Cm_list 2 = .ok (.getfield 39, 3) := by decide +kernel
theorem d_Cm_list_5 : decode b_Cm_list 5 = .ok (.getfield 125, 3) := by decide +kernel
theorem d_Cm_list_8 : decode b_Cm_list 8 = .ok (.iload_n 1, 1) := by decide +kernel
theorem d_Cm_list_9 : decode b_Cm_list 9 = .ok (.iaload, 1) := by decide +kernel
theorem d_Cm_list_10 : decode b_Cm_list 10 = .ok (.invokevirtual 210, 3) := by decide +kernel
theorem d_Cm_list_13 : decode b_Cm_list 13 = .ok (.aload_n 0, 1) := by decide +kernel
theorem d_Cm_list_14 : decode b_Cm_list 14 = .ok (.getfield 39, 3) := by decide +kernel
theorem d_Cm_list_17 : decode b_Cm_list 17 = .ok (.getfield 155, 3) := by decide +kernel
theorem d_Cm_list_20 : decode b_Cm_list 20 = .ok (.iload_n 1, 1) := by decide +kernel
theorem d_Cm_list_21 : decode b_Cm_list 21 = .ok (.iaload, 1) := by decide +kernel
theorem d_Cm_list_22 : decode b_Cm_list 22 = .ok (.ifCond .eq 20, 3) := by decide +kernel
theorem d_Cm_list_25 : decode b_Cm_list 25 = .ok (.aload_n 0, 1) := by decide +kernel
theorem d_Cm_list_26 : decode b_Cm_list 26 = .ok (.aload_n 0, 1) := by decide +kernel
theorem d_Cm_list_27 : decode b_Cm_list 27 = .ok (.getfield 39, 3) := by decide +kernel
theorem d_Cm_list_30 : decode b_Cm_list 30 = .ok (.getfield 155, 3) := by decide +kernel
theorem d_Cm_list_33 : decode b_Cm_list 33 = .ok (.iload_n 1, 1) := by decide +kernel
theorem d_Cm_list_34 : decode b_Cm_list 34 = .ok (.iaload, 1) := by decide +kernel
theorem d_Cm_list_35 : decode b_Cm_list 35 = .ok (.iconst 0, 1) := by decide +kernel
theorem d_Cm_list_36 : decode b_Cm_list 36 = .ok (.invokevirtual 174, 3) := by decide +kernel
theorem d_Cm_list_39 : decode b_Cm_list 39 = .ok (.goto 18, 3) := by decide +kernel
theorem d_Cm_list_42 : decode b_Cm_list 42 = .ok (.aload_n 0, 1) := by decide +kernel
theorem d_Cm_list_43 : decode b_Cm_list 43 = .ok (.getfield 43, 3) := by decide +kernel
theorem d_Cm_list_46 : decode b_Cm_list 46 = .ok (.iconst 1, 1) := by decide +kernel
theorem d_Cm_list_47 : decode b_Cm_list 47 = .ok (.invokevirtual 142, 3) := by decide +kernel
theorem d_Cm_list_50 : decode b_Cm_list 50 = .ok (.aload_n 0, 1) := by decide +kernel
theorem d_Cm_list_51 : decode b_Cm_list 51 = .ok (.bipush 6, 2) := by decide +kernel
theorem d_Cm_list_53 : decode b_Cm_list 53 = .ok (.iconst 0, 1) := by decide +kernel
theorem d_Cm_list_54 : decode b_Cm_list 54 = .ok (.invokevirtual 182, 3) := by decide +kernel
theorem d_Cm_list_57 : decode b_Cm_list 57 = .ok (.aload_n 0, 1) := by decide +kernel
theorem d_Cm_list_58 : decode b_Cm_list 58 = .ok (.getfield 39, 3) := by decide +kernel
theorem d_Cm_list_61 : decode b_Cm_list 61 = .ok (.getfield 171, 3) := by decide +kernel
theorem d_Cm_list_64 : decode b_Cm_list 64 = .ok (.iload_n 1, 1) := by decide +kernel
theorem d_Cm_list_65 : decode b_Cm_list 65 = .ok (.iaload, 1) := by decide +kernel
theorem d_Cm_list_66 : decode b_Cm_list 66 = .ok (.ifCond .le 27, 3) := by decide +kernel
theorem d_Cm_list_69 : decode b_Cm_list 69 = .ok (.aload_n 0, 1) := by decide +kernel
theorem d_Cm_list_70 : decode b_Cm_list 70 = .ok (.getfield 43, 3) := by decide +kernel
theorem d_Cm_list_73 : decode b_Cm_list 73 = .ok (.iconst 5, 1) := by decide +kernel
theorem d_Cm_list_74 : decode b_Cm_list 74 = .ok (.invokevirtual 142, 3) := by decide +kernel
theorem d_Cm_list_77 : decode b_Cm_list 77 = .ok (.aload_n 0, 1) := by decide +kernel
theorem d_Cm_list_78 : decode b_Cm_list 78 = .ok (.getfield 43, 3) := by decide +kernel
theorem d_Cm_list_81 : decode b_Cm_list 81 = .ok (.aload_n 0, 1) := by decide +kernel
theorem d_Cm_list_82 : decode b_Cm_list 82 = .ok (.getfield 39, 3) := by decide +kernel
theorem d_Cm_list_85 : decode b_Cm_list 85 = .ok (.getfield 171, 3) := by decide +kernel
theorem d_Cm_list_88 : decode b_Cm_list 88 = .ok (.iload_n 1, 1) := by decide +kernel
theorem d_Cm_list_89 : decode b_Cm_list 89 = .ok (.iaload, 1) := by decide +kernel
theorem d_Cm_list_90 : decode b_Cm_list 90 = .ok (.invokevirtual 142, 3) := by decide +kernel
theorem d_Cm_list_93 : decode b_Cm_list 93 = .ok (.return_, 1) := by decide +kernel
set_option maxRecDepth 100000 in
theorem hl_Cm_list : Cond.methodLink R_Cm 213 y_Cm_list ∈ wd_tbl := wd_of 1202 (by decide +kernel) rfl
set_option maxRecDepth 100000 in
theorem hi_Cm_list : Cond.instanceMethod y_Cm_list ∈ wd_tbl := wd_of 1204 (by decide +kernel) rfl
set_option maxRecDepth 100000 in
theorem hs_Cm_list : Cond.selects R_Cm y_Cm_list y_Cm_list ∈ wd_tbl := wd_of 52 (by decide +kernel) rfl
theorem hd_Cm_list : y_Cm_list.cls = R_Cm ∧ y_Cm_list.cls ≠ "java/lang/invoke/MethodHandle" ∧ y_Cm_list.cls ≠ "java/lang/invoke/VarHandle" ∧ (parseMethodDescriptor y_Cm_list.desc).map (fun d => d.parameters.length) = some 1 := by decide +kernel
abbrev b_Cm_row : ByteArray := prog_3_method_20_code
def y_Cm_row : MethodName := ⟨R_Cm, "row", "(I)V"⟩
def w_Cm_row : List Cond := wd_ws y_Cm_row b_Cm_row 3 none
set_option maxRecDepth 100000 in
theorem k_Cm_row : Cond.code y_Cm_row b_Cm_row 3 none ∈ wd_tbl := wd_of 1201 rfl rfl
theorem d_Cm_row_0 : decode b_Cm_row 0 = .ok (.iload_n 1, 1) := by decide +kernel
theorem d_Cm_row_1 : decode b_Cm_row 1 = .ok (.istore_n 2, 1) := by decide +kernel
theorem d_Cm_row_2 : decode b_Cm_row 2 = .ok (.iload_n 2, 1) := by decide +kernel
theorem d_Cm_row_3 : decode b_Cm_row 3 = .ok (.ifCond .eq 22, 3) := by decide +kernel
theorem d_Cm_row_6 : decode b_Cm_row 6 = .ok (.aload_n 0, 1) := by decide +kernel
theorem d_Cm_row_7 : decode b_Cm_row 7 = .ok (.iload_n 2, 1) := by decide +kernel
theorem d_Cm_row_8 : decode b_Cm_row 8 = .ok (.iconst 0, 1) := by decide +kernel
theorem d_Cm_row_9 : decode b_Cm_row 9 = .ok (.invokevirtual 174, 3) := by decide +kernel
theorem d_Cm_row_12 : decode b_Cm_row 12 = .ok (.aload_n 0, 1) := by decide +kernel
theorem d_Cm_row_13 : decode b_Cm_row 13 = .ok (.getfield 39, 3) := by decide +kernel
theorem d_Cm_row_16 : decode b_Cm_row 16 = .ok (.getfield 139, 3) := by decide +kernel
theorem d_Cm_row_19 : decode b_Cm_row 19 = .ok (.iload_n 2, 1) := by decide +kernel
theorem d_Cm_row_20 : decode b_Cm_row 20 = .ok (.iaload, 1) := by decide +kernel
theorem d_Cm_row_21 : decode b_Cm_row 21 = .ok (.istore_n 2, 1) := by decide +kernel
theorem d_Cm_row_22 : decode b_Cm_row 22 = .ok (.goto (-20), 3) := by decide +kernel
theorem d_Cm_row_25 : decode b_Cm_row 25 = .ok (.return_, 1) := by decide +kernel
set_option maxRecDepth 100000 in
theorem hl_Cm_row : Cond.methodLink R_Cm 210 y_Cm_row ∈ wd_tbl := wd_of 1198 (by decide +kernel) rfl
set_option maxRecDepth 100000 in
theorem hi_Cm_row : Cond.instanceMethod y_Cm_row ∈ wd_tbl := wd_of 1200 (by decide +kernel) rfl
set_option maxRecDepth 100000 in
theorem hs_Cm_row : Cond.selects R_Cm y_Cm_row y_Cm_row ∈ wd_tbl := wd_of 51 (by decide +kernel) rfl
theorem hd_Cm_row : y_Cm_row.cls = R_Cm ∧ y_Cm_row.cls ≠ "java/lang/invoke/MethodHandle" ∧ y_Cm_row.cls ≠ "java/lang/invoke/VarHandle" ∧ (parseMethodDescriptor y_Cm_row.desc).map (fun d => d.parameters.length) = some 1 := by decide +kernel
abbrev b_Cm_expression : ByteArray := prog_3_method_18_code
def y_Cm_expression : MethodName := ⟨R_Cm, "expression", "(IZ)V"⟩
def w_Cm_expression : List Cond := wd_ws y_Cm_expression b_Cm_expression 4 none
set_option maxRecDepth 100000 in
theorem k_Cm_expression : Cond.code y_Cm_expression b_Cm_expression 4 none ∈ wd_tbl := wd_of 1193 rfl rfl
theorem d_Cm_expression_0 : decode b_Cm_expression 0 = .ok (.aload_n 0, 1) := by decide +kernel
theorem d_Cm_expression_1 : decode b_Cm_expression 1 = .ok (.getfield 39, 3) := by decide +kernel
theorem d_Cm_expression_4 : decode b_Cm_expression 4 = .ok (.getfield 93, 3) := by decide +kernel
theorem d_Cm_expression_7 : decode b_Cm_expression 7 = .ok (.iload_n 1, 1) := by decide +kernel
theorem d_Cm_expression_8 : decode b_Cm_expression 8 = .ok (.iaload, 1) := by decide +kernel
theorem d_Cm_expression_9 : decode b_Cm_expression 9 = .ok (.istore_n 3, 1) := by decide +kernel
theorem d_Cm_expression_10 : decode b_Cm_expression 10 = .ok (.aload_n 0, 1) := by decide +kernel
theorem d_Cm_expression_11 : decode b_Cm_expression 11 = .ok (.getfield 39, 3) := by decide +kernel
theorem d_Cm_expression_14 : decode b_Cm_expression 14 = .ok (.getfield 177, 3) := by decide +kernel
theorem d_Cm_expression_17 : decode b_Cm_expression 17 = .ok (.iload_n 1, 1) := by decide +kernel
theorem d_Cm_expression_18 : decode b_Cm_expression 18 = .ok (.iaload, 1) := by decide +kernel
theorem d_Cm_expression_19 : decode b_Cm_expression 19 = .ok (.tableswitch 334 1 22 #[101, 126, 172, 151, 235, 252, 292, 334, 334, 334, 334, 334, 334, 316, 325, 334, 334, 334, 334, 334, 334, 300], 101) := by decide +kernel
theorem d_Cm_expression_120 : decode b_Cm_expression 120 = .ok (.aload_n 0, 1) := by decide +kernel
theorem d_Cm_expression_121 : decode b_Cm_expression 121 = .ok (.getfield 43, 3) := by decide +kernel
theorem d_Cm_expression_124 : decode b_Cm_expression 124 = .ok (.iconst 1, 1) := by decide +kernel
theorem d_Cm_expression_125 : decode b_Cm_expression 125 = .ok (.invokevirtual 142, 3) := by decide +kernel
theorem d_Cm_expression_128 : decode b_Cm_expression 128 = .ok (.aload_n 0, 1) := by decide +kernel
theorem d_Cm_expression_129 : decode b_Cm_expression 129 = .ok (.iconst 0, 1) := by decide +kernel
theorem d_Cm_expression_130 : decode b_Cm_expression 130 = .ok (.aload_n 0, 1) := by decide +kernel
theorem d_Cm_expression_131 : decode b_Cm_expression 131 = .ok (.getfield 39, 3) := by decide +kernel
theorem d_Cm_expression_134 : decode b_Cm_expression 134 = .ok (.getfield 125, 3) := by decide +kernel
theorem d_Cm_expression_137 : decode b_Cm_expression 137 = .ok (.iload_n 1, 1) := by decide +kernel
theorem d_Cm_expression_138 : decode b_Cm_expression 138 = .ok (.iaload, 1) := by decide +kernel
theorem d_Cm_expression_139 : decode b_Cm_expression 139 = .ok (.invokevirtual 182, 3) := by decide +kernel
theorem d_Cm_expression_142 : decode b_Cm_expression 142 = .ok (.goto 217, 3) := by decide +kernel
theorem d_Cm_expression_145 : decode b_Cm_expression 145 = .ok (.aload_n 0, 1) := by decide +kernel
theorem d_Cm_expression_146 : decode b_Cm_expression 146 = .ok (.getfield 43, 3) := by decide +kernel
theorem d_Cm_expression_149 : decode b_Cm_expression 149 = .ok (.iconst 1, 1) := by decide +kernel
theorem d_Cm_expression_150 : decode b_Cm_expression 150 = .ok (.invokevirtual 142, 3) := by decide +kernel
theorem d_Cm_expression_153 : decode b_Cm_expression 153 = .ok (.aload_n 0, 1) := by decide +kernel
theorem d_Cm_expression_154 : decode b_Cm_expression 154 = .ok (.iconst 1, 1) := by decide +kernel
theorem d_Cm_expression_155 : decode b_Cm_expression 155 = .ok (.aload_n 0, 1) := by decide +kernel
theorem d_Cm_expression_156 : decode b_Cm_expression 156 = .ok (.getfield 39, 3) := by decide +kernel
theorem d_Cm_expression_159 : decode b_Cm_expression 159 = .ok (.getfield 125, 3) := by decide +kernel
theorem d_Cm_expression_162 : decode b_Cm_expression 162 = .ok (.iload_n 1, 1) := by decide +kernel
theorem d_Cm_expression_163 : decode b_Cm_expression 163 = .ok (.iaload, 1) := by decide +kernel
theorem d_Cm_expression_164 : decode b_Cm_expression 164 = .ok (.invokevirtual 182, 3) := by decide +kernel
theorem d_Cm_expression_167 : decode b_Cm_expression 167 = .ok (.goto 192, 3) := by decide +kernel
theorem d_Cm_expression_170 : decode b_Cm_expression 170 = .ok (.aload_n 0, 1) := by decide +kernel
theorem d_Cm_expression_171 : decode b_Cm_expression 171 = .ok (.iload_n 3, 1) := by decide +kernel
theorem d_Cm_expression_172 : decode b_Cm_expression 172 = .ok (.invokevirtual 207, 3) := by decide +kernel
theorem d_Cm_expression_175 : decode b_Cm_expression 175 = .ok (.aload_n 0, 1) := by decide +kernel
theorem d_Cm_expression_176 : decode b_Cm_expression 176 = .ok (.getfield 43, 3) := by decide +kernel
theorem d_Cm_expression_179 : decode b_Cm_expression 179 = .ok (.iconst 2, 1) := by decide +kernel
theorem d_Cm_expression_180 : decode b_Cm_expression 180 = .ok (.invokevirtual 142, 3) := by decide +kernel
theorem d_Cm_expression_183 : decode b_Cm_expression 183 = .ok (.aload_n 0, 1) := by decide +kernel
theorem d_Cm_expression_184 : decode b_Cm_expression 184 = .ok (.iload_n 1, 1) := by decide +kernel
theorem d_Cm_expression_185 : decode b_Cm_expression 185 = .ok (.invokevirtual 185, 3) := by decide +kernel
theorem d_Cm_expression_188 : decode b_Cm_expression 188 = .ok (.goto 171, 3) := by decide +kernel
theorem d_Cm_expression_191 : decode b_Cm_expression 191 = .ok (.aload_n 0, 1) := by decide +kernel
theorem d_Cm_expression_192 : decode b_Cm_expression 192 = .ok (.getfield 39, 3) := by decide +kernel
theorem d_Cm_expression_195 : decode b_Cm_expression 195 = .ok (.getfield 125, 3) := by decide +kernel
theorem d_Cm_expression_198 : decode b_Cm_expression 198 = .ok (.iload_n 1, 1) := by decide +kernel
theorem d_Cm_expression_199 : decode b_Cm_expression 199 = .ok (.iaload, 1) := by decide +kernel
theorem d_Cm_expression_200 : decode b_Cm_expression 200 = .ok (.ifCond .eq 21, 3) := by decide +kernel
theorem d_Cm_expression_203 : decode b_Cm_expression 203 = .ok (.aload_n 0, 1) := by decide +kernel
theorem d_Cm_expression_204 : decode b_Cm_expression 204 = .ok (.aload_n 0, 1) := by decide +kernel
theorem d_Cm_expression_205 : decode b_Cm_expression 205 = .ok (.getfield 39, 3) := by decide +kernel
theorem d_Cm_expression_208 : decode b_Cm_expression 208 = .ok (.getfield 125, 3) := by decide +kernel
theorem d_Cm_expression_211 : decode b_Cm_expression 211 = .ok (.iload_n 1, 1) := by decide +kernel
theorem d_Cm_expression_212 : decode b_Cm_expression 212 = .ok (.iaload, 1) := by decide +kernel
theorem d_Cm_expression_213 : decode b_Cm_expression 213 = .ok (.iload_n 3, 1) := by decide +kernel
theorem d_Cm_expression_214 : decode b_Cm_expression 214 = .ok (.iconst 0, 1) := by decide +kernel
theorem d_Cm_expression_215 : decode b_Cm_expression 215 = .ok (.invokevirtual 197, 3) := by decide +kernel
theorem d_Cm_expression_218 : decode b_Cm_expression 218 = .ok (.ifCond .ne 9, 3) := by decide +kernel
theorem d_Cm_expression_221 : decode b_Cm_expression 221 = .ok (.aload_n 0, 1) := by decide +kernel
theorem d_Cm_expression_222 : decode b_Cm_expression 222 = .ok (.iload_n 3, 1) := by decide +kernel
theorem d_Cm_expression_223 : decode b_Cm_expression 223 = .ok (.iconst 5, 1) := by decide +kernel
theorem d_Cm_expression_224 : decode b_Cm_expression 224 = .ok (.invokevirtual 89, 3) := by decide +kernel
theorem d_Cm_expression_227 : decode b_Cm_expression 227 = .ok (.aload_n 0, 1) := by decide +kernel
theorem d_Cm_expression_228 : decode b_Cm_expression 228 = .ok (.getfield 43, 3) := by decide +kernel
theorem d_Cm_expression_231 : decode b_Cm_expression 231 = .ok (.iconst 3, 1) := by decide +kernel
theorem d_Cm_expression_232 : decode b_Cm_expression 232 = .ok (.invokevirtual 142, 3) := by decide +kernel
theorem d_Cm_expression_235 : decode b_Cm_expression 235 = .ok (.aload_n 0, 1) := by decide +kernel
theorem d_Cm_expression_236 : decode b_Cm_expression 236 = .ok (.getfield 43, 3) := by decide +kernel
theorem d_Cm_expression_239 : decode b_Cm_expression 239 = .ok (.aload_n 0, 1) := by decide +kernel
theorem d_Cm_expression_240 : decode b_Cm_expression 240 = .ok (.getfield 39, 3) := by decide +kernel
theorem d_Cm_expression_243 : decode b_Cm_expression 243 = .ok (.getfield 125, 3) := by decide +kernel
theorem d_Cm_expression_246 : decode b_Cm_expression 246 = .ok (.iload_n 1, 1) := by decide +kernel
theorem d_Cm_expression_247 : decode b_Cm_expression 247 = .ok (.iaload, 1) := by decide +kernel
theorem d_Cm_expression_248 : decode b_Cm_expression 248 = .ok (.invokevirtual 142, 3) := by decide +kernel
theorem d_Cm_expression_251 : decode b_Cm_expression 251 = .ok (.goto 108, 3) := by decide +kernel
theorem d_Cm_expression_254 : decode b_Cm_expression 254 = .ok (.aload_n 0, 1) := by decide +kernel
theorem d_Cm_expression_255 : decode b_Cm_expression 255 = .ok (.aload_n 0, 1) := by decide +kernel
theorem d_Cm_expression_256 : decode b_Cm_expression 256 = .ok (.getfield 39, 3) := by decide +kernel
theorem d_Cm_expression_259 : decode b_Cm_expression 259 = .ok (.getfield 125, 3) := by decide +kernel
theorem d_Cm_expression_262 : decode b_Cm_expression 262 = .ok (.iload_n 1, 1) := by decide +kernel
theorem d_Cm_expression_263 : decode b_Cm_expression 263 = .ok (.iaload, 1) := by decide +kernel
theorem d_Cm_expression_264 : decode b_Cm_expression 264 = .ok (.iload_n 2, 1) := by decide +kernel
theorem d_Cm_expression_265 : decode b_Cm_expression 265 = .ok (.invokevirtual 174, 3) := by decide +kernel
theorem d_Cm_expression_268 : decode b_Cm_expression 268 = .ok (.goto 91, 3) := by decide +kernel
theorem d_Cm_expression_271 : decode b_Cm_expression 271 = .ok (.aload_n 0, 1) := by decide +kernel
theorem d_Cm_expression_272 : decode b_Cm_expression 272 = .ok (.aload_n 0, 1) := by decide +kernel
theorem d_Cm_expression_273 : decode b_Cm_expression 273 = .ok (.getfield 39, 3) := by decide +kernel
theorem d_Cm_expression_276 : decode b_Cm_expression 276 = .ok (.getfield 125, 3) := by decide +kernel
theorem d_Cm_expression_279 : decode b_Cm_expression 279 = .ok (.iload_n 1, 1) := by decide +kernel
theorem d_Cm_expression_280 : decode b_Cm_expression 280 = .ok (.iaload, 1) := by decide +kernel
theorem d_Cm_expression_281 : decode b_Cm_expression 281 = .ok (.invokevirtual 210, 3) := by decide +kernel
theorem d_Cm_expression_284 : decode b_Cm_expression 284 = .ok (.aload_n 0, 1) := by decide +kernel
theorem d_Cm_expression_285 : decode b_Cm_expression 285 = .ok (.getfield 43, 3) := by decide +kernel
theorem d_Cm_expression_288 : decode b_Cm_expression 288 = .ok (.iconst 4, 1) := by decide +kernel
theorem d_Cm_expression_289 : decode b_Cm_expression 289 = .ok (.invokevirtual 142, 3) := by decide +kernel
theorem d_Cm_expression_292 : decode b_Cm_expression 292 = .ok (.aload_n 0, 1) := by decide +kernel
theorem d_Cm_expression_293 : decode b_Cm_expression 293 = .ok (.getfield 43, 3) := by decide +kernel
theorem d_Cm_expression_296 : decode b_Cm_expression 296 = .ok (.aload_n 0, 1) := by decide +kernel
theorem d_Cm_expression_297 : decode b_Cm_expression 297 = .ok (.getfield 39, 3) := by decide +kernel
theorem d_Cm_expression_300 : decode b_Cm_expression 300 = .ok (.getfield 171, 3) := by decide +kernel
theorem d_Cm_expression_303 : decode b_Cm_expression 303 = .ok (.iload_n 1, 1) := by decide +kernel
theorem d_Cm_expression_304 : decode b_Cm_expression 304 = .ok (.iaload, 1) := by decide +kernel
theorem d_Cm_expression_305 : decode b_Cm_expression 305 = .ok (.invokevirtual 142, 3) := by decide +kernel
theorem d_Cm_expression_308 : decode b_Cm_expression 308 = .ok (.goto 51, 3) := by decide +kernel
theorem d_Cm_expression_311 : decode b_Cm_expression 311 = .ok (.aload_n 0, 1) := by decide +kernel
theorem d_Cm_expression_312 : decode b_Cm_expression 312 = .ok (.iload_n 1, 1) := by decide +kernel
theorem d_Cm_expression_313 : decode b_Cm_expression 313 = .ok (.invokevirtual 213, 3) := by decide +kernel
theorem d_Cm_expression_316 : decode b_Cm_expression 316 = .ok (.goto 43, 3) := by decide +kernel
theorem d_Cm_expression_319 : decode b_Cm_expression 319 = .ok (.aload_n 0, 1) := by decide +kernel
theorem d_Cm_expression_320 : decode b_Cm_expression 320 = .ok (.aload_n 0, 1) := by decide +kernel
theorem d_Cm_expression_321 : decode b_Cm_expression 321 = .ok (.getfield 39, 3) := by decide +kernel
theorem d_Cm_expression_324 : decode b_Cm_expression 324 = .ok (.getfield 125, 3) := by decide +kernel
theorem d_Cm_expression_327 : decode b_Cm_expression 327 = .ok (.iload_n 1, 1) := by decide +kernel
theorem d_Cm_expression_328 : decode b_Cm_expression 328 = .ok (.iaload, 1) := by decide +kernel
theorem d_Cm_expression_329 : decode b_Cm_expression 329 = .ok (.invokevirtual 216, 3) := by decide +kernel
theorem d_Cm_expression_332 : decode b_Cm_expression 332 = .ok (.goto 27, 3) := by decide +kernel
theorem d_Cm_expression_335 : decode b_Cm_expression 335 = .ok (.aload_n 0, 1) := by decide +kernel
theorem d_Cm_expression_336 : decode b_Cm_expression 336 = .ok (.iload_n 1, 1) := by decide +kernel
theorem d_Cm_expression_337 : decode b_Cm_expression 337 = .ok (.iload_n 2, 1) := by decide +kernel
theorem d_Cm_expression_338 : decode b_Cm_expression 338 = .ok (.invokevirtual 219, 3) := by decide +kernel
theorem d_Cm_expression_341 : decode b_Cm_expression 341 = .ok (.goto 18, 3) := by decide +kernel
theorem d_Cm_expression_344 : decode b_Cm_expression 344 = .ok (.aload_n 0, 1) := by decide +kernel
theorem d_Cm_expression_345 : decode b_Cm_expression 345 = .ok (.iload_n 1, 1) := by decide +kernel
theorem d_Cm_expression_346 : decode b_Cm_expression 346 = .ok (.iload_n 2, 1) := by decide +kernel
theorem d_Cm_expression_347 : decode b_Cm_expression 347 = .ok (.invokevirtual 222, 3) := by decide +kernel
theorem d_Cm_expression_350 : decode b_Cm_expression 350 = .ok (.goto 9, 3) := by decide +kernel
theorem d_Cm_expression_353 : decode b_Cm_expression 353 = .ok (.aload_n 0, 1) := by decide +kernel
theorem d_Cm_expression_354 : decode b_Cm_expression 354 = .ok (.iload_n 1, 1) := by decide +kernel
theorem d_Cm_expression_355 : decode b_Cm_expression 355 = .ok (.iload_n 2, 1) := by decide +kernel
theorem d_Cm_expression_356 : decode b_Cm_expression 356 = .ok (.invokevirtual 225, 3) := by decide +kernel
theorem d_Cm_expression_359 : decode b_Cm_expression 359 = .ok (.return_, 1) := by decide +kernel
set_option maxRecDepth 100000 in
theorem hl_Cm_expression : Cond.methodLink R_Cm 174 y_Cm_expression ∈ wd_tbl := wd_of 1190 (by decide +kernel) rfl
set_option maxRecDepth 100000 in
theorem hi_Cm_expression : Cond.instanceMethod y_Cm_expression ∈ wd_tbl := wd_of 1192 (by decide +kernel) rfl
set_option maxRecDepth 100000 in
theorem hs_Cm_expression : Cond.selects R_Cm y_Cm_expression y_Cm_expression ∈ wd_tbl := wd_of 49 (by decide +kernel) rfl
theorem hd_Cm_expression : y_Cm_expression.cls = R_Cm ∧ y_Cm_expression.cls ≠ "java/lang/invoke/MethodHandle" ∧ y_Cm_expression.cls ≠ "java/lang/invoke/VarHandle" ∧ (parseMethodDescriptor y_Cm_expression.desc).map (fun d => d.parameters.length) = some 2 := by decide +kernel
abbrev b_Cm_tries : ByteArray := prog_3_method_8_code
def y_Cm_tries : MethodName := ⟨R_Cm, "tries", "(II)I"⟩
def w_Cm_tries : List Cond := wd_ws y_Cm_tries b_Cm_tries 7 (some .int)
set_option maxRecDepth 100000 in
theorem k_Cm_tries : Cond.code y_Cm_tries b_Cm_tries 7 (some .int) ∈ wd_tbl := wd_of 1148 rfl rfl
theorem d_Cm_tries_0 : decode b_Cm_tries 0 = .ok (.aload_n 0, 1) := by decide +kernel
theorem d_Cm_tries_1 : decode b_Cm_tries 1 = .ok (.getfield 116, 3) := by decide +kernel
theorem d_Cm_tries_4 : decode b_Cm_tries 4 = .ok (.istore_n 3, 1) := by decide +kernel
theorem d_Cm_tries_5 : decode b_Cm_tries 5 = .ok (.iconst 0, 1) := by decide +kernel
theorem d_Cm_tries_6 : decode b_Cm_tries 6 = .ok (.istore 4, 2) := by decide +kernel
theorem d_Cm_tries_8 : decode b_Cm_tries 8 = .ok (.aload_n 0, 1) := by decide +kernel
theorem d_Cm_tries_9 : decode b_Cm_tries 9 = .ok (.getfield 39, 3) := by decide +kernel
theorem d_Cm_tries_12 : decode b_Cm_tries 12 = .ok (.getfield 125, 3) := by decide +kernel
theorem d_Cm_tries_15 : decode b_Cm_tries 15 = .ok (.iload_n 2, 1) := by decide +kernel
theorem d_Cm_tries_16 : decode b_Cm_tries 16 = .ok (.iaload, 1) := by decide +kernel
theorem d_Cm_tries_17 : decode b_Cm_tries 17 = .ok (.ifCond .eq 94, 3) := by decide +kernel
theorem d_Cm_tries_20 : decode b_Cm_tries 20 = .ok (.aload_n 0, 1) := by decide +kernel
theorem d_Cm_tries_21 : decode b_Cm_tries 21 = .ok (.getfield 43, 3) := by decide +kernel
theorem d_Cm_tries_24 : decode b_Cm_tries 24 = .ok (.bipush 19, 2) := by decide +kernel
theorem d_Cm_tries_26 : decode b_Cm_tries 26 = .ok (.invokevirtual 142, 3) := by decide +kernel
theorem d_Cm_tries_29 : decode b_Cm_tries 29 = .ok (.aload_n 0, 1) := by decide +kernel
theorem d_Cm_tries_30 : decode b_Cm_tries 30 = .ok (.getfield 43, 3) := by decide +kernel
theorem d_Cm_tries_33 : decode b_Cm_tries 33 = .ok (.iload_n 1, 1) := by decide +kernel
theorem d_Cm_tries_34 : decode b_Cm_tries 34 = .ok (.invokevirtual 142, 3) := by decide +kernel
theorem d_Cm_tries_37 : decode b_Cm_tries 37 = .ok (.aload_n 0, 1) := by decide +kernel
theorem d_Cm_tries_38 : decode b_Cm_tries 38 = .ok (.getfield 43, 3) := by decide +kernel
theorem d_Cm_tries_41 : decode b_Cm_tries 41 = .ok (.iconst 0, 1) := by decide +kernel
theorem d_Cm_tries_42 : decode b_Cm_tries 42 = .ok (.invokevirtual 165, 3) := by decide +kernel
theorem d_Cm_tries_45 : decode b_Cm_tries 45 = .ok (.istore 4, 2) := by decide +kernel
theorem d_Cm_tries_47 : decode b_Cm_tries 47 = .ok (.aload_n 0, 1) := by decide +kernel
theorem d_Cm_tries_48 : decode b_Cm_tries 48 = .ok (.iload_n 1, 1) := by decide +kernel
theorem d_Cm_tries_49 : decode b_Cm_tries 49 = .ok (.ifCond .lt 7, 3) := by decide +kernel
theorem d_Cm_tries_52 : decode b_Cm_tries 52 = .ok (.iconst 1, 1) := by decide +kernel
theorem d_Cm_tries_53 : decode b_Cm_tries 53 = .ok (.goto 4, 3) := by decide +kernel
theorem d_Cm_tries_56 : decode b_Cm_tries 56 = .ok (.iconst 0, 1) := by decide +kernel
theorem d_Cm_tries_57 : decode b_Cm_tries 57 = .ok (.putfield 62, 3) := by decide +kernel
theorem d_Cm_tries_60 : decode b_Cm_tries 60 = .ok (.aload_n 0, 1) := by decide +kernel
theorem d_Cm_tries_61 : decode b_Cm_tries 61 = .ok (.getfield 39, 3) := by decide +kernel
theorem d_Cm_tries_64 : decode b_Cm_tries 64 = .ok (.getfield 125, 3) := by decide +kernel
theorem d_Cm_tries_67 : decode b_Cm_tries 67 = .ok (.iload_n 2, 1) := by decide +kernel
theorem d_Cm_tries_68 : decode b_Cm_tries 68 = .ok (.iaload, 1) := by decide +kernel
theorem d_Cm_tries_69 : decode b_Cm_tries 69 = .ok (.istore 5, 2) := by decide +kernel
theorem d_Cm_tries_71 : decode b_Cm_tries 71 = .ok (.iload 5, 2) := by decide +kernel
theorem d_Cm_tries_73 : decode b_Cm_tries 73 = .ok (.ifCond .eq 24, 3) := by decide +kernel
theorem d_Cm_tries_76 : decode b_Cm_tries 76 = .ok (.aload_n 0, 1) := by decide +kernel
theorem d_Cm_tries_77 : decode b_Cm_tries 77 = .ok (.iload 5, 2) := by decide +kernel
theorem d_Cm_tries_79 : decode b_Cm_tries 79 = .ok (.invokevirtual 168, 3) := by decide +kernel
theorem d_Cm_tries_82 : decode b_Cm_tries 82 = .ok (.aload_n 0, 1) := by decide +kernel
theorem d_Cm_tries_83 : decode b_Cm_tries 83 = .ok (.getfield 39, 3) := by decide +kernel
theorem d_Cm_tries_86 : decode b_Cm_tries 86 = .ok (.getfield 139, 3) := by decide +kernel
theorem d_Cm_tries_89 : decode b_Cm_tries 89 = .ok (.iload 5, 2) := by decide +kernel
theorem d_Cm_tries_91 : decode b_Cm_tries 91 = .ok (.iaload, 1) := by decide +kernel
theorem d_Cm_tries_92 : decode b_Cm_tries 92 = .ok (.istore 5, 2) := by decide +kernel
theorem d_Cm_tries_94 : decode b_Cm_tries 94 = .ok (.goto (-23), 3) := by decide +kernel
theorem d_Cm_tries_97 : decode b_Cm_tries 97 = .ok (.aload_n 0, 1) := by decide +kernel
theorem d_Cm_tries_98 : decode b_Cm_tries 98 = .ok (.iconst 0, 1) := by decide +kernel
theorem d_Cm_tries_99 : decode b_Cm_tries 99 = .ok (.putfield 62, 3) := by decide +kernel
theorem d_Cm_tries_102 : decode b_Cm_tries 102 = .ok (.aload_n 0, 1) := by decide +kernel
theorem d_Cm_tries_103 : decode b_Cm_tries 103 = .ok (.getfield 43, 3) := by decide +kernel
theorem d_Cm_tries_106 : decode b_Cm_tries 106 = .ok (.bipush 8, 2) := by decide +kernel
theorem d_Cm_tries_108 : decode b_Cm_tries 108 = .ok (.invokevirtual 142, 3) := by decide +kernel
theorem d_Cm_tries_111 : decode b_Cm_tries 111 = .ok (.aload_n 0, 1) := by decide +kernel
theorem d_Cm_tries_112 : decode b_Cm_tries 112 = .ok (.getfield 39, 3) := by decide +kernel
theorem d_Cm_tries_115 : decode b_Cm_tries 115 = .ok (.getfield 171, 3) := by decide +kernel
theorem d_Cm_tries_118 : decode b_Cm_tries 118 = .ok (.iload_n 2, 1) := by decide +kernel
theorem d_Cm_tries_119 : decode b_Cm_tries 119 = .ok (.iaload, 1) := by decide +kernel
theorem d_Cm_tries_120 : decode b_Cm_tries 120 = .ok (.ifCond .ne 6, 3) := by decide +kernel
theorem d_Cm_tries_123 : decode b_Cm_tries 123 = .ok (.iload 4, 2) := by decide +kernel
theorem d_Cm_tries_125 : decode b_Cm_tries 125 = .ok (.ireturn, 1) := by decide +kernel
theorem d_Cm_tries_126 : decode b_Cm_tries 126 = .ok (.aload_n 0, 1) := by decide +kernel
theorem d_Cm_tries_127 : decode b_Cm_tries 127 = .ok (.getfield 59, 3) := by decide +kernel
theorem d_Cm_tries_130 : decode b_Cm_tries 130 = .ok (.istore 5, 2) := by decide +kernel
theorem d_Cm_tries_132 : decode b_Cm_tries 132 = .ok (.aload_n 0, 1) := by decide +kernel
theorem d_Cm_tries_133 : decode b_Cm_tries 133 = .ok (.iconst 1, 1) := by decide +kernel
theorem d_Cm_tries_134 : decode b_Cm_tries 134 = .ok (.putfield 59, 3) := by decide +kernel
theorem d_Cm_tries_137 : decode b_Cm_tries 137 = .ok (.aload_n 0, 1) := by decide +kernel
theorem d_Cm_tries_138 : decode b_Cm_tries 138 = .ok (.getfield 43, 3) := by decide +kernel
theorem d_Cm_tries_141 : decode b_Cm_tries 141 = .ok (.bipush 21, 2) := by decide +kernel
theorem d_Cm_tries_143 : decode b_Cm_tries 143 = .ok (.invokevirtual 142, 3) := by decide +kernel
theorem d_Cm_tries_146 : decode b_Cm_tries 146 = .ok (.aload_n 0, 1) := by decide +kernel
theorem d_Cm_tries_147 : decode b_Cm_tries 147 = .ok (.getfield 43, 3) := by decide +kernel
theorem d_Cm_tries_150 : decode b_Cm_tries 150 = .ok (.aload_n 0, 1) := by decide +kernel
theorem d_Cm_tries_151 : decode b_Cm_tries 151 = .ok (.getfield 116, 3) := by decide +kernel
theorem d_Cm_tries_154 : decode b_Cm_tries 154 = .ok (.iload_n 3, 1) := by decide +kernel
theorem d_Cm_tries_155 : decode b_Cm_tries 155 = .ok (.isub, 1) := by decide +kernel
theorem d_Cm_tries_156 : decode b_Cm_tries 156 = .ok (.invokevirtual 142, 3) := by decide +kernel
theorem d_Cm_tries_159 : decode b_Cm_tries 159 = .ok (.aload_n 0, 1) := by decide +kernel
theorem d_Cm_tries_160 : decode b_Cm_tries 160 = .ok (.getfield 43, 3) := by decide +kernel
theorem d_Cm_tries_163 : decode b_Cm_tries 163 = .ok (.iload 4, 2) := by decide +kernel
theorem d_Cm_tries_165 : decode b_Cm_tries 165 = .ok (.invokevirtual 165, 3) := by decide +kernel
theorem d_Cm_tries_168 : decode b_Cm_tries 168 = .ok (.istore 4, 2) := by decide +kernel
theorem d_Cm_tries_170 : decode b_Cm_tries 170 = .ok (.aload_n 0, 1) := by decide +kernel
theorem d_Cm_tries_171 : decode b_Cm_tries 171 = .ok (.getfield 39, 3) := by decide +kernel
theorem d_Cm_tries_174 : decode b_Cm_tries 174 = .ok (.getfield 171, 3) := by decide +kernel
theorem d_Cm_tries_177 : decode b_Cm_tries 177 = .ok (.iload_n 2, 1) := by decide +kernel
theorem d_Cm_tries_178 : decode b_Cm_tries 178 = .ok (.iaload, 1) := by decide +kernel
theorem d_Cm_tries_179 : decode b_Cm_tries 179 = .ok (.istore 6, 2) := by decide +kernel
theorem d_Cm_tries_181 : decode b_Cm_tries 181 = .ok (.iload 6, 2) := by decide +kernel
theorem d_Cm_tries_183 : decode b_Cm_tries 183 = .ok (.ifCond .eq 34, 3) := by decide +kernel
theorem d_Cm_tries_186 : decode b_Cm_tries 186 = .ok (.aload_n 0, 1) := by decide +kernel
theorem d_Cm_tries_187 : decode b_Cm_tries 187 = .ok (.iload 6, 2) := by decide +kernel
theorem d_Cm_tries_189 : decode b_Cm_tries 189 = .ok (.iconst 0, 1) := by decide +kernel
theorem d_Cm_tries_190 : decode b_Cm_tries 190 = .ok (.invokevirtual 174, 3) := by decide +kernel
theorem d_Cm_tries_193 : decode b_Cm_tries 193 = .ok (.aload_n 0, 1) := by decide +kernel
theorem d_Cm_tries_194 : decode b_Cm_tries 194 = .ok (.getfield 43, 3) := by decide +kernel
theorem d_Cm_tries_197 : decode b_Cm_tries 197 = .ok (.bipush 22, 2) := by decide +kernel
theorem d_Cm_tries_199 : decode b_Cm_tries 199 = .ok (.invokevirtual 142, 3) := by decide +kernel
theorem d_Cm_tries_202 : decode b_Cm_tries 202 = .ok (.aload_n 0, 1) := by decide +kernel
theorem d_Cm_tries_203 : decode b_Cm_tries 203 = .ok (.getfield 39, 3) := by decide +kernel
theorem d_Cm_tries_206 : decode b_Cm_tries 206 = .ok (.getfield 139, 3) := by decide +kernel
theorem d_Cm_tries_209 : decode b_Cm_tries 209 = .ok (.iload 6, 2) := by decide +kernel
theorem d_Cm_tries_211 : decode b_Cm_tries 211 = .ok (.iaload, 1) := by decide +kernel
theorem d_Cm_tries_212 : decode b_Cm_tries 212 = .ok (.istore 6, 2) := by decide +kernel
theorem d_Cm_tries_214 : decode b_Cm_tries 214 = .ok (.goto (-33), 3) := by decide +kernel
theorem d_Cm_tries_217 : decode b_Cm_tries 217 = .ok (.aload_n 0, 1) := by decide +kernel
theorem d_Cm_tries_218 : decode b_Cm_tries 218 = .ok (.getfield 43, 3) := by decide +kernel
theorem d_Cm_tries_221 : decode b_Cm_tries 221 = .ok (.bipush 23, 2) := by decide +kernel
theorem d_Cm_tries_223 : decode b_Cm_tries 223 = .ok (.invokevirtual 142, 3) := by decide +kernel
theorem d_Cm_tries_226 : decode b_Cm_tries 226 = .ok (.aload_n 0, 1) := by decide +kernel
theorem d_Cm_tries_227 : decode b_Cm_tries 227 = .ok (.iload 5, 2) := by decide +kernel
theorem d_Cm_tries_229 : decode b_Cm_tries 229 = .ok (.putfield 59, 3) := by decide +kernel
theorem d_Cm_tries_232 : decode b_Cm_tries 232 = .ok (.iload 4, 2) := by decide +kernel
theorem d_Cm_tries_234 : decode b_Cm_tries 234 = .ok (.ireturn, 1) := by decide +kernel
set_option maxRecDepth 100000 in
theorem hl_Cm_tries : Cond.methodLink R_Cm 152 y_Cm_tries ∈ wd_tbl := wd_of 1145 (by decide +kernel) rfl
set_option maxRecDepth 100000 in
theorem hi_Cm_tries : Cond.instanceMethod y_Cm_tries ∈ wd_tbl := wd_of 1147 (by decide +kernel) rfl
set_option maxRecDepth 100000 in
theorem hs_Cm_tries : Cond.selects R_Cm y_Cm_tries y_Cm_tries ∈ wd_tbl := wd_of 41 (by decide +kernel) rfl
theorem hd_Cm_tries : y_Cm_tries.cls = R_Cm ∧ y_Cm_tries.cls ≠ "java/lang/invoke/MethodHandle" ∧ y_Cm_tries.cls ≠ "java/lang/invoke/VarHandle" ∧ (parseMethodDescriptor y_Cm_tries.desc).map (fun d => d.parameters.length) = some 2 := by decide +kernel
abbrev b_Cm_clause : ByteArray := prog_3_method_7_code
def y_Cm_clause : MethodName := ⟨R_Cm, "clause", "(III)V"⟩
def w_Cm_clause : List Cond := wd_ws y_Cm_clause b_Cm_clause 6 none
set_option maxRecDepth 100000 in
theorem k_Cm_clause : Cond.code y_Cm_clause b_Cm_clause 6 none ∈ wd_tbl := wd_of 1144 rfl rfl
theorem d_Cm_clause_0 : decode b_Cm_clause 0 = .ok (.aload_n 0, 1) := by decide +kernel
theorem d_Cm_clause_1 : decode b_Cm_clause 1 = .ok (.getfield 116, 3) := by decide +kernel
theorem d_Cm_clause_4 : decode b_Cm_clause 4 = .ok (.istore 4, 2) := by decide +kernel
theorem d_Cm_clause_6 : decode b_Cm_clause 6 = .ok (.aload_n 0, 1) := by decide +kernel
theorem d_Cm_clause_7 : decode b_Cm_clause 7 = .ok (.iload_n 2, 1) := by decide +kernel
theorem d_Cm_clause_8 : decode b_Cm_clause 8 = .ok (.iload_n 1, 1) := by decide +kernel
theorem d_Cm_clause_9 : decode b_Cm_clause 9 = .ok (.invokevirtual 152, 3) := by decide +kernel
theorem d_Cm_clause_12 : decode b_Cm_clause 12 = .ok (.istore 5, 2) := by decide +kernel
theorem d_Cm_clause_14 : decode b_Cm_clause 14 = .ok (.aload_n 0, 1) := by decide +kernel
theorem d_Cm_clause_15 : decode b_Cm_clause 15 = .ok (.getfield 43, 3) := by decide +kernel
theorem d_Cm_clause_18 : decode b_Cm_clause 18 = .ok (.bipush 24, 2) := by decide +kernel
theorem d_Cm_clause_20 : decode b_Cm_clause 20 = .ok (.invokevirtual 142, 3) := by decide +kernel
theorem d_Cm_clause_23 : decode b_Cm_clause 23 = .ok (.aload_n 0, 1) := by decide +kernel
theorem d_Cm_clause_24 : decode b_Cm_clause 24 = .ok (.getfield 43, 3) := by decide +kernel
theorem d_Cm_clause_27 : decode b_Cm_clause 27 = .ok (.iload_n 2, 1) := by decide +kernel
theorem d_Cm_clause_28 : decode b_Cm_clause 28 = .ok (.invokevirtual 142, 3) := by decide +kernel
theorem d_Cm_clause_31 : decode b_Cm_clause 31 = .ok (.aload_n 0, 1) := by decide +kernel
theorem d_Cm_clause_32 : decode b_Cm_clause 32 = .ok (.getfield 43, 3) := by decide +kernel
theorem d_Cm_clause_35 : decode b_Cm_clause 35 = .ok (.iload_n 3, 1) := by decide +kernel
theorem d_Cm_clause_36 : decode b_Cm_clause 36 = .ok (.invokevirtual 142, 3) := by decide +kernel
theorem d_Cm_clause_39 : decode b_Cm_clause 39 = .ok (.aload_n 0, 1) := by decide +kernel
theorem d_Cm_clause_40 : decode b_Cm_clause 40 = .ok (.aload_n 0, 1) := by decide +kernel
theorem d_Cm_clause_41 : decode b_Cm_clause 41 = .ok (.getfield 39, 3) := by decide +kernel
theorem d_Cm_clause_44 : decode b_Cm_clause 44 = .ok (.getfield 155, 3) := by decide +kernel
theorem d_Cm_clause_47 : decode b_Cm_clause 47 = .ok (.iload_n 1, 1) := by decide +kernel
theorem d_Cm_clause_48 : decode b_Cm_clause 48 = .ok (.iaload, 1) := by decide +kernel
theorem d_Cm_clause_49 : decode b_Cm_clause 49 = .ok (.iconst 1, 1) := by decide +kernel
theorem d_Cm_clause_50 : decode b_Cm_clause 50 = .ok (.invokevirtual 158, 3) := by decide +kernel
theorem d_Cm_clause_53 : decode b_Cm_clause 53 = .ok (.aload_n 0, 1) := by decide +kernel
theorem d_Cm_clause_54 : decode b_Cm_clause 54 = .ok (.getfield 43, 3) := by decide +kernel
theorem d_Cm_clause_57 : decode b_Cm_clause 57 = .ok (.bipush 35, 2) := by decide +kernel
theorem d_Cm_clause_59 : decode b_Cm_clause 59 = .ok (.invokevirtual 142, 3) := by decide +kernel
theorem d_Cm_clause_62 : decode b_Cm_clause 62 = .ok (.aload_n 0, 1) := by decide +kernel
theorem d_Cm_clause_63 : decode b_Cm_clause 63 = .ok (.iload 4, 2) := by decide +kernel
theorem d_Cm_clause_65 : decode b_Cm_clause 65 = .ok (.putfield 116, 3) := by decide +kernel
theorem d_Cm_clause_68 : decode b_Cm_clause 68 = .ok (.aload_n 0, 1) := by decide +kernel
theorem d_Cm_clause_69 : decode b_Cm_clause 69 = .ok (.getfield 43, 3) := by decide +kernel
theorem d_Cm_clause_72 : decode b_Cm_clause 72 = .ok (.iload 5, 2) := by decide +kernel
theorem d_Cm_clause_74 : decode b_Cm_clause 74 = .ok (.invokevirtual 162, 3) := by decide +kernel
theorem d_Cm_clause_77 : decode b_Cm_clause 77 = .ok (.return_, 1) := by decide +kernel
set_option maxRecDepth 100000 in
theorem hl_Cm_clause : Cond.methodLink R_Cm 135 y_Cm_clause ∈ wd_tbl := wd_of 1141 (by decide +kernel) rfl
set_option maxRecDepth 100000 in
theorem hi_Cm_clause : Cond.instanceMethod y_Cm_clause ∈ wd_tbl := wd_of 1143 (by decide +kernel) rfl
set_option maxRecDepth 100000 in
theorem hs_Cm_clause : Cond.selects R_Cm y_Cm_clause y_Cm_clause ∈ wd_tbl := wd_of 40 (by decide +kernel) rfl
theorem hd_Cm_clause : y_Cm_clause.cls = R_Cm ∧ y_Cm_clause.cls ≠ "java/lang/invoke/MethodHandle" ∧ y_Cm_clause.cls ≠ "java/lang/invoke/VarHandle" ∧ (parseMethodDescriptor y_Cm_clause.desc).map (fun d => d.parameters.length) = some 3 := by decide +kernel
def rg_Cm_fun (d : Nat) : Room := { frames := 304 + d, cells := 0, slots := 0, locals := 6688 + 28 * d }
abbrev SG_Cm_fun : Type := (CS → Nat → Int32 → Option (CS × Unit)) × (CS → Nat → Int32 → Int32 → Option (CS × Unit)) × (CS → Nat → Int32 → Int32 → Int32 → Int32 → Option (CS × Int32)) × (CS → Nat → Int32 → Int32 → Option (CS × Unit)) × (CS → Nat → Int32 → Int32 → Option (CS × Unit)) × (CS → Nat → Int32 → Int32 → Option (CS × Unit)) × (CS → Nat → Int32 → Int32 → Option (CS × Unit)) × (CS → Nat → Int32 → Option (CS × Unit)) × (CS → Nat → Int32 → Option (CS × Unit)) × (CS → Nat → Int32 → Option (CS × Unit)) × (CS → Nat → Int32 → Int32 → Option (CS × Unit)) × (CS → Nat → Int32 → Int32 → Option (CS × Int32)) × (CS → Nat → Int32 → Int32 → Int32 → Option (CS × Unit))
def HS_Cm_fun (l : Launch) (s0 : State) (b0 : Nat) (D : va_G) (cB cI cJ cZ cS cP : ClassId) (d : Nat) (S : SG_Cm_fun) : Prop := (∀ (ad : Nat → Nat) (u : CS) (v0 : Nat) (v1 : Int32) (x : CS × Unit) (sz : Nat), S.1 u v0 v1 = some x → Met l y_Cm_fun (wd_ws y_Cm_fun b_Cm_fun 9 none) (rg_Cm_fun d) (xPc s0 b0 D cB cI cJ cZ cS cP ad u sz [.ref (ad v0), .int v1]) (xQ0 D cB cI cJ cZ cS cP (xA cB cI cJ cZ cS cP ad u sz) ad x.1 none) 0 0 (xA cB cI cJ cZ cS cP ad u sz)) ∧ (∀ (ad : Nat → Nat) (u : CS) (v0 : Nat) (v1 : Int32) (v2 : Int32) (x : CS × Unit) (sz : Nat), S.2.1 u v0 v1 v2 = some x → Met l y_Cm_receive (wd_ws y_Cm_receive b_Cm_receive 8 none) (rg_Cm_fun d) (xPc s0 b0 D cB cI cJ cZ cS cP ad u sz [.ref (ad v0), .int v1, .int v2]) (xQ0 D cB cI cJ cZ cS cP (xA cB cI cJ cZ cS cP ad u sz) ad x.1 none) 0 0 (xA cB cI cJ cZ cS cP ad u sz)) ∧ (∀ (ad : Nat → Nat) (u : CS) (v0 : Nat) (v1 : Int32) (v2 : Int32) (v3 : Int32) (v4 : Int32) (x : CS × Int32) (sz : Nat), S.2.2.1 u v0 v1 v2 v3 v4 = some x → Met l y_Cm_parts (wd_ws y_Cm_parts b_Cm_parts 9 (some .int)) (rg_Cm_fun d) (xPc s0 b0 D cB cI cJ cZ cS cP ad u sz [.ref (ad v0), .int v1, .int v2, .int v3, .int v4]) (xQ0 D cB cI cJ cZ cS cP (xA cB cI cJ cZ cS cP ad u sz) ad x.1 (some (.inl x.2))) 0 0 (xA cB cI cJ cZ cS cP ad u sz)) ∧ (∀ (ad : Nat → Nat) (u : CS) (v0 : Nat) (v1 : Int32) (v2 : Int32) (x : CS × Unit) (sz : Nat), S.2.2.2.1 u v0 v1 v2 = some x → Met l y_Cm_body (wd_ws y_Cm_body b_Cm_body 5 none) (rg_Cm_fun d) (xPc s0 b0 D cB cI cJ cZ cS cP ad u sz [.ref (ad v0), .int v1, .int v2]) (xQ0 D cB cI cJ cZ cS cP (xA cB cI cJ cZ cS cP ad u sz) ad x.1 none) 0 0 (xA cB cI cJ cZ cS cP ad u sz)) ∧ (∀ (ad : Nat → Nat) (u : CS) (v0 : Nat) (v1 : Int32) (v2 : Int32) (x : CS × Unit) (sz : Nat), S.2.2.2.2.1 u v0 v1 v2 = some x → Met l y_Cm_compound (wd_ws y_Cm_compound b_Cm_compound 7 none) (rg_Cm_fun d) (xPc s0 b0 D cB cI cJ cZ cS cP ad u sz [.ref (ad v0), .int v1, .int v2]) (xQ0 D cB cI cJ cZ cS cP (xA cB cI cJ cZ cS cP ad u sz) ad x.1 none) 0 0 (xA cB cI cJ cZ cS cP ad u sz)) ∧ (∀ (ad : Nat → Nat) (u : CS) (v0 : Nat) (v1 : Int32) (v2 : Int32) (x : CS × Unit) (sz : Nat), S.2.2.2.2.2.1 u v0 v1 v2 = some x → Met l y_Cm_apply (wd_ws y_Cm_apply b_Cm_apply 5 none) (rg_Cm_fun d) (xPc s0 b0 D cB cI cJ cZ cS cP ad u sz [.ref (ad v0), .int v1, .int v2]) (xQ0 D cB cI cJ cZ cS cP (xA cB cI cJ cZ cS cP ad u sz) ad x.1 none) 0 0 (xA cB cI cJ cZ cS cP ad u sz)) ∧ (∀ (ad : Nat → Nat) (u : CS) (v0 : Nat) (v1 : Int32) (v2 : Int32) (x : CS × Unit) (sz : Nat), S.2.2.2.2.2.2.1 u v0 v1 v2 = some x → Met l y_Cm_call (wd_ws y_Cm_call b_Cm_call 8 none) (rg_Cm_fun d) (xPc s0 b0 D cB cI cJ cZ cS cP ad u sz [.ref (ad v0), .int v1, .int v2]) (xQ0 D cB cI cJ cZ cS cP (xA cB cI cJ cZ cS cP ad u sz) ad x.1 none) 0 0 (xA cB cI cJ cZ cS cP ad u sz)) ∧ (∀ (ad : Nat → Nat) (u : CS) (v0 : Nat) (v1 : Int32) (x : CS × Unit) (sz : Nat), S.2.2.2.2.2.2.2.1 u v0 v1 = some x → Met l y_Cm_signs (wd_ws y_Cm_signs b_Cm_signs 9 none) (rg_Cm_fun d) (xPc s0 b0 D cB cI cJ cZ cS cP ad u sz [.ref (ad v0), .int v1]) (xQ0 D cB cI cJ cZ cS cP (xA cB cI cJ cZ cS cP ad u sz) ad x.1 none) 0 0 (xA cB cI cJ cZ cS cP ad u sz)) ∧ (∀ (ad : Nat → Nat) (u : CS) (v0 : Nat) (v1 : Int32) (x : CS × Unit) (sz : Nat), S.2.2.2.2.2.2.2.2.1 u v0 v1 = some x → Met l y_Cm_list (wd_ws y_Cm_list b_Cm_list 2 none) (rg_Cm_fun d) (xPc s0 b0 D cB cI cJ cZ cS cP ad u sz [.ref (ad v0), .int v1]) (xQ0 D cB cI cJ cZ cS cP (xA cB cI cJ cZ cS cP ad u sz) ad x.1 none) 0 0 (xA cB cI cJ cZ cS cP ad u sz)) ∧ (∀ (ad : Nat → Nat) (u : CS) (v0 : Nat) (v1 : Int32) (x : CS × Unit) (sz : Nat), S.2.2.2.2.2.2.2.2.2.1 u v0 v1 = some x → Met l y_Cm_row (wd_ws y_Cm_row b_Cm_row 3 none) (rg_Cm_fun d) (xPc s0 b0 D cB cI cJ cZ cS cP ad u sz [.ref (ad v0), .int v1]) (xQ0 D cB cI cJ cZ cS cP (xA cB cI cJ cZ cS cP ad u sz) ad x.1 none) 0 0 (xA cB cI cJ cZ cS cP ad u sz)) ∧ (∀ (ad : Nat → Nat) (u : CS) (v0 : Nat) (v1 : Int32) (v2 : Int32) (x : CS × Unit) (sz : Nat), S.2.2.2.2.2.2.2.2.2.2.1 u v0 v1 v2 = some x → Met l y_Cm_expression (wd_ws y_Cm_expression b_Cm_expression 4 none) (rg_Cm_fun d) (xPc s0 b0 D cB cI cJ cZ cS cP ad u sz [.ref (ad v0), .int v1, .int v2]) (xQ0 D cB cI cJ cZ cS cP (xA cB cI cJ cZ cS cP ad u sz) ad x.1 none) 0 0 (xA cB cI cJ cZ cS cP ad u sz)) ∧ (∀ (ad : Nat → Nat) (u : CS) (v0 : Nat) (v1 : Int32) (v2 : Int32) (x : CS × Int32) (sz : Nat), S.2.2.2.2.2.2.2.2.2.2.2.1 u v0 v1 v2 = some x → Met l y_Cm_tries (wd_ws y_Cm_tries b_Cm_tries 7 (some .int)) (rg_Cm_fun d) (xPc s0 b0 D cB cI cJ cZ cS cP ad u sz [.ref (ad v0), .int v1, .int v2]) (xQ0 D cB cI cJ cZ cS cP (xA cB cI cJ cZ cS cP ad u sz) ad x.1 (some (.inl x.2))) 0 0 (xA cB cI cJ cZ cS cP ad u sz)) ∧ (∀ (ad : Nat → Nat) (u : CS) (v0 : Nat) (v1 : Int32) (v2 : Int32) (v3 : Int32) (x : CS × Unit) (sz : Nat), S.2.2.2.2.2.2.2.2.2.2.2.2 u v0 v1 v2 v3 = some x → Met l y_Cm_clause (wd_ws y_Cm_clause b_Cm_clause 6 none) (rg_Cm_fun d) (xPc s0 b0 D cB cI cJ cZ cS cP ad u sz [.ref (ad v0), .int v1, .int v2, .int v3]) (xQ0 D cB cI cJ cZ cS cP (xA cB cI cJ cZ cS cP ad u sz) ad x.1 none) 0 0 (xA cB cI cJ cZ cS cP ad u sz))
theorem rm_Cm_fun_Tr_length {d : Nat} : (rm_Tr_length).frames + 1 ≤ (rg_Cm_fun (d + 1)).frames ∧ 8 + (4 + 11) + (rm_Tr_length).locals ≤ (rg_Cm_fun (d + 1)).locals := by
  show 0 + 1 ≤ 304 + (d + 1) ∧ 8 + (4 + 11) + 0 ≤ 6688 + 28 * (d + 1)
  omega
theorem rm_Cm_fun_Co_put {d : Nat} : (rm_Co_put).frames + 1 ≤ (rg_Cm_fun (d + 1)).frames ∧ 8 + (2 + 11) + (rm_Co_put).locals ≤ (rg_Cm_fun (d + 1)).locals := by
  show 0 + 1 ≤ 304 + (d + 1) ∧ 8 + (2 + 11) + 0 ≤ 6688 + 28 * (d + 1)
  omega
theorem rm_Cm_fun_Co_hook {d : Nat} : (rm_Co_hook).frames + 1 ≤ (rg_Cm_fun (d + 1)).frames ∧ 8 + (2 + 11) + (rm_Co_hook).locals ≤ (rg_Cm_fun (d + 1)).locals := by
  show 1 + 1 ≤ 304 + (d + 1) ∧ 8 + (2 + 11) + 21 ≤ 6688 + 28 * (d + 1)
  omega
theorem rm_Cm_fun_Co_arrive {d : Nat} : (rm_Co_arrive).frames + 1 ≤ (rg_Cm_fun (d + 1)).frames ∧ 8 + (5 + 11) + (rm_Co_arrive).locals ≤ (rg_Cm_fun (d + 1)).locals := by
  show 1 + 1 ≤ 304 + (d + 1) ∧ 8 + (5 + 11) + 22 ≤ 6688 + 28 * (d + 1)
  omega
theorem rm_Cm_fun_Cm_hold {d : Nat} : (rm_Cm_hold).frames + 1 ≤ (rg_Cm_fun (d + 1)).frames ∧ 8 + (7 + 11) + (rm_Cm_hold).locals ≤ (rg_Cm_fun (d + 1)).locals := by
  show 1 + 1 ≤ 304 + (d + 1) ∧ 8 + (7 + 11) + 21 ≤ 6688 + 28 * (d + 1)
  omega
theorem rm_Cm_fun_Co_set {d : Nat} : (rm_Co_set).frames + 1 ≤ (rg_Cm_fun (d + 1)).frames ∧ 8 + (3 + 11) + (rm_Co_set).locals ≤ (rg_Cm_fun (d + 1)).locals := by
  show 0 + 1 ≤ 304 + (d + 1) ∧ 8 + (3 + 11) + 0 ≤ 6688 + 28 * (d + 1)
  omega
theorem rm_Cm_fun_Cm_clause {d : Nat} : (rg_Cm_fun d).frames + 1 ≤ (rg_Cm_fun (d + 1)).frames ∧ 8 + (6 + 11) + (rg_Cm_fun d).locals ≤ (rg_Cm_fun (d + 1)).locals := by
  show 304 + d + 1 ≤ 304 + (d + 1) ∧ 8 + (6 + 11) + (6688 + 28 * d) ≤ 6688 + 28 * (d + 1)
  omega
def fb_Cm_fun_308 (N : Nat) (S : SG_Cm_fun) (G : Unit) (u : CS) (t0 : Nat) (t1 : Int32) : Option (CS × Unit) := ck (isb t1) (bo (pF u t0 3 11 (.inl t1)) (fun w1 => some (w1, ())))
set_option maxRecDepth 100000 in
set_option maxHeartbeats 4000000 in
theorem wb_Cm_fun_308 {p : Program} {l : Launch} {e : Env} {s : State} {m : MethodId} {args : Array Value} {below : List Frame} {meth : Method} {c : Code} {s0 : State} {b0 : Nat} {D : va_G} {cB cI cJ cZ cS cP : ClassId} {A : Nat → Prop} {sk sv : Nat → Nat} {d : Nat} {ad : Nat → Nat} (C0 : XCx p s s0 b0 m args meth c R_Cm b_Cm_fun 9 none D cB cI cJ cZ cS cP A) (hE : ENV s0 b0 sk sv) (N : Nat) (S : SG_Cm_fun) (hSg : HS_Cm_fun l s0 b0 D cB cI cJ cZ cS cP d S) (G : Unit) (hG : True) : ∀ (u : CS) (t0 : Nat) (t1 : Int32) (x : CS × Unit), fb_Cm_fun_308 N S G u t0 t1 = some x → ∀ (H : Heap) (locs : List Loc), va_P D cls (wC cB cI cJ cZ cS cP ad u) H → va_D A (wC cB cI cJ cZ cS cP ad u) → va_S A s.heap H locs → ∀ (ls : Array Slot), lv_has ls 9 [] → W p l e (rg_Cm_fun (d + 1)) s m args below meth c H locs 0 0 (MQ below (xQ0 D cB cI cJ cZ cS cP A ad x.1 none) args s 0 0 A) (F0 m 308 ls [.int t1, .ref (ad t0)]) := by
  intro u t0 t1 x hf H locs hP hD hS ls hl
  obtain ⟨hx, hb, hr, hml, ht, hown, hK, hA, hlocks, hA0, hO, hbs⟩ := id C0
  unfold fb_Cm_fun_308 at hf
  obtain ⟨hz, hf⟩ := ck_some hf
  obtain ⟨w1, g1, hf⟩ := bo_some hf
  refine xp (i := t0) (k := 11) (v := (.inl t1)) hx hb ht hown ck_Cm hK hP hD hS (by decide) fk_Cm_55 rfl g1 (isb_n hz) (isb_f hz) d_Cm_fun_308 (fun H locs hP hD hS => ?_)
  exact xr0_v C0 hP hD hS hf d_Cm_fun_311
def fb_Cm_fun_303 (N : Nat) (S : SG_Cm_fun) (G : Unit) (u : CS) (t0 : Nat) : Option (CS × Unit) := fb_Cm_fun_308 N S G u (t0) (1)
set_option maxRecDepth 100000 in
set_option maxHeartbeats 4000000 in
theorem wb_Cm_fun_303 {p : Program} {l : Launch} {e : Env} {s : State} {m : MethodId} {args : Array Value} {below : List Frame} {meth : Method} {c : Code} {s0 : State} {b0 : Nat} {D : va_G} {cB cI cJ cZ cS cP : ClassId} {A : Nat → Prop} {sk sv : Nat → Nat} {d : Nat} {ad : Nat → Nat} (C0 : XCx p s s0 b0 m args meth c R_Cm b_Cm_fun 9 none D cB cI cJ cZ cS cP A) (hE : ENV s0 b0 sk sv) (N : Nat) (S : SG_Cm_fun) (hSg : HS_Cm_fun l s0 b0 D cB cI cJ cZ cS cP d S) (G : Unit) (hG : True) : ∀ (u : CS) (t0 : Nat) (x : CS × Unit), fb_Cm_fun_303 N S G u t0 = some x → ∀ (H : Heap) (locs : List Loc), va_P D cls (wC cB cI cJ cZ cS cP ad u) H → va_D A (wC cB cI cJ cZ cS cP ad u) → va_S A s.heap H locs → ∀ (ls : Array Slot), lv_has ls 9 [] → W p l e (rg_Cm_fun (d + 1)) s m args below meth c H locs 0 0 (MQ below (xQ0 D cB cI cJ cZ cS cP A ad x.1 none) args s 0 0 A) (F0 m 303 ls [.ref (ad t0)]) := by
  intro u t0 x hf H locs hP hD hS ls hl
  obtain ⟨hx, hb, hr, hml, ht, hown, hK, hA, hlocks, hA0, hO, hbs⟩ := id C0
  unfold fb_Cm_fun_303 at hf
  refine lv_iconst (v := 1) hx hb d_Cm_fun_303 (by decide) ?_
  refine lv_goto (tgt := 308) hx hb d_Cm_fun_304 (by decide) ?_
  exact wb_Cm_fun_308 C0 hE N S hSg G hG _ _ _ _ hf H locs hP hD hS ls (lv_sub hl [] rfl)
def fb_Cm_fun_0 (N : Nat) (S : SG_Cm_fun) (G : Unit) (u : CS) (v0 : Nat) (v1 : Int32) : Option (CS × Unit) := bo (gR u v0 3 1) (fun r2 => bo r2 (fun j3 => bo (gR u j3 10 2) (fun r4 => bo r4 (fun j5 => bo (aI u j5 4 v1) (fun r6 => bo (gR u v0 3 1) (fun r7 => bo r7 (fun j8 => bo (gR u j8 10 3) (fun r9 => bo r9 (fun j10 => bo (aI u j10 4 v1) (fun r11 => bo (gR u v0 3 1) (fun r12 => bo (gR u v0 3 1) (fun r13 => bo r13 (fun j14 => bo (gR u j14 10 2) (fun r15 => bo r15 (fun j16 => bo (aI u j16 4 r11) (fun r17 => bo r12 (fun j19 => ck (isO u j19 10) (bx (fm_Tr_length N u j19 r17) (fun u18 r18 => bo (gI u18 v0 3 12) (fun r20 => bo (pF u18 v0 3 12 (.inl 0)) (fun w21 => bo (gR w21 v0 3 2) (fun r22 => bo r22 (fun j24 => ck (isO w21 j24 2) (bx (fm_Co_put N w21 j24 18) (fun u23 r23 => bo (gR u23 v0 3 2) (fun r25 => bo r25 (fun j27 => ck (isO u23 j27 2) (bx (fm_Co_hook N u23 j27 0) (fun u26 r26 => bo (gR u26 v0 3 2) (fun r28 => bo r28 (fun j29 => bo (gR u26 j29 2 10) (fun r30 => bo r30 (fun j31 => bo (sI u26 j31 4 r6 r18) (fun w32 => bo (gR w32 v0 3 2) (fun r33 => bo r33 (fun j34 => bo (gR w32 j34 2 11) (fun r35 => bo (gR w32 v0 3 2) (fun r36 => bo r36 (fun j37 => bo (gI w32 j37 2 1) (fun r38 => bo r35 (fun j39 => bo (sI w32 j39 4 r6 r38) (fun w40 => bo (gI w40 v0 3 9) (fun r41 => lt (if 31 < (r41 + 1) then 31 else (r41 + 1)) (fun y42 => bo (pF w40 v0 3 9 (.inl y42)) (fun w43 => bo (gR w43 v0 3 7) (fun r44 => bo (gI w43 v0 3 9) (fun r45 => bo (gI w43 v0 3 6) (fun r46 => bo r44 (fun j47 => bo (sI w43 j47 4 r45 r46) (fun w48 => bo (gR w48 v0 3 8) (fun r49 => bo (gI w48 v0 3 9) (fun r50 => bo r49 (fun j51 => bo (sI w48 j51 4 r50 0) (fun w52 => bo (gR w52 v0 3 0) (fun r53 => bo r53 (fun j54 => bo (gR w52 j54 9 4) (fun r55 => bo (gR w52 v0 3 1) (fun r56 => bo r56 (fun j57 => bo (gR w52 j57 10 1) (fun r58 => bo r58 (fun j59 => bo (aI w52 j59 4 v1) (fun r60 => bo r55 (fun j61 => bo (aI w52 j61 4 r60) (fun r62 => ck (isO w52 v0 3) (bx (S.2.2.2.2.2.2.2.2.2.2.2.2 w52 v0 r11 r18 r62) (fun u63 r63 => bo (gR u63 v0 3 2) (fun r64 => bo r64 (fun j66 => ck (isO u63 j66 2) (bx (fm_Co_put N u63 j66 36) (fun u65 r65 => bo (gR u65 v0 3 8) (fun r67 => bo (gI u65 v0 3 9) (fun r68 => bo r67 (fun j69 => bo (aI u65 j69 4 r68) (fun r70 => bo (gI u65 v0 3 9) (fun r71 => bo (pF u65 v0 3 9 (.inl (r71 - 1))) (fun w72 => ck (isb r20) (bo (pF w72 v0 3 12 (.inl r20)) (fun w73 => bo (gR w73 v0 3 2) (fun r74 => bo r74 (fun j76 => ck (isO w73 j76 2) (bx (fm_Co_arrive N w73 j76 r26) (fun u75 r75 => bo (gR u75 v0 3 2) (fun r77 => bo r77 (fun j79 => ck (isO u75 j79 2) (bx (fm_Co_put N u75 j79 6) (fun u78 r78 => bo (gR u78 v0 3 2) (fun r80 => bo r80 (fun j82 => ck (isO u78 j82 2) (bx (fm_Co_put N u78 j82 r6) (fun u81 r81 => bo (gR u81 v0 3 2) (fun r83 => bo r83 (fun j84 => bo (gR u81 j84 2 12) (fun r85 => bo (gR u81 v0 3 2) (fun r86 => bo r86 (fun j87 => bo (gI u81 j87 2 1) (fun r88 => bo r85 (fun j89 => bo (sI u81 j89 4 r6 r88) (fun w90 => bo (gR w90 v0 3 2) (fun r91 => bo r91 (fun j93 => ck (isO w90 j93 2) (bx (fm_Co_put N w90 j93 0) (fun u92 r92 => bo (gR u92 v0 3 1) (fun r94 => bo r94 (fun j95 => bo (gR u92 j95 10 1) (fun r96 => bo r96 (fun j97 => bo (aI u92 j97 4 v1) (fun r98 => bo (gR u92 v0 3 1) (fun r99 => bo r99 (fun j100 => bo (gR u92 j100 10 4) (fun r101 => bo r101 (fun j102 => bo (aI u92 j102 4 v1) (fun r103 => ck (isO u92 v0 3) (bx (fm_Cm_hold N u92 v0 r98 r103) (fun u104 r104 => bo (gR u104 v0 3 2) (fun r105 => bo (gR u104 v0 3 2) (fun r106 => bo r106 (fun j107 => bo (gR u104 j107 2 12) (fun r108 => bo r108 (fun j109 => bo (aI u104 j109 4 r6) (fun r110 => bo r105 (fun j112 => ck (isO u104 j112 2) (bx (fm_Co_set N u104 j112 r110 r104) (fun u111 r111 => bo (gI u111 v0 3 11) (fun r113 => br (decide (r113 = 0)) (br (decide ((r70 + r104) ≤ 40)) (fb_Cm_fun_308 N S G u111 (v0) (0)) (fb_Cm_fun_303 N S G u111 (v0))) (fb_Cm_fun_303 N S G u111 (v0))))))))))))))))))))))))))))))))))))))))))))))))))))))))))))))))))))))))))))))))))))))))))))))))))))))))))))))))))))))))))))))
set_option maxRecDepth 100000 in
set_option maxHeartbeats 4000000 in
theorem wb_Cm_fun_0 {p : Program} {l : Launch} {e : Env} {s : State} {m : MethodId} {args : Array Value} {below : List Frame} {meth : Method} {c : Code} {s0 : State} {b0 : Nat} {D : va_G} {cB cI cJ cZ cS cP : ClassId} {A : Nat → Prop} {sk sv : Nat → Nat} {d : Nat} {ad : Nat → Nat} (C0 : XCx p s s0 b0 m args meth c R_Cm b_Cm_fun 9 none D cB cI cJ cZ cS cP A) (hE : ENV s0 b0 sk sv) (N : Nat) (S : SG_Cm_fun) (hSg : HS_Cm_fun l s0 b0 D cB cI cJ cZ cS cP d S) (G : Unit) (hG : True) : ∀ (u : CS) (v0 : Nat) (v1 : Int32) (x : CS × Unit), fb_Cm_fun_0 N S G u v0 v1 = some x → ∀ (H : Heap) (locs : List Loc), va_P D cls (wC cB cI cJ cZ cS cP ad u) H → va_D A (wC cB cI cJ cZ cS cP ad u) → va_S A s.heap H locs → ∀ (ls : Array Slot), lv_has ls 9 [(0, .ref (ad v0)), (1, .int v1)] → W p l e (rg_Cm_fun (d + 1)) s m args below meth c H locs 0 0 (MQ below (xQ0 D cB cI cJ cZ cS cP A ad x.1 none) args s 0 0 A) (F0 m 0 ls []) := by
  intro u v0 v1 x hf H locs hP hD hS ls hl
  obtain ⟨hx, hb, hr, hml, ht, hown, hK, hA, hlocks, hA0, hO, hbs⟩ := id C0
  unfold fb_Cm_fun_0 at hf
  refine lv_aload_n hx hb d_Cm_fun_0 rfl (lv_at hl 0 rfl) ?_
  obtain ⟨r2, g2, hf⟩ := bo_some hf
  refine xg_R (i := v0) (k := 1) hx hb ht hown ck_Cm hK hP (by decide) fk_Cm_39 g2 d_Cm_fun_1 ?_
  obtain ⟨j3, ej3, hf⟩ := bo_some hf
  rw [ej3]
  obtain ⟨r4, g4, hf⟩ := bo_some hf
  refine xg_R (i := j3) (k := 2) hx hb ht hown ck_Tr hK hP (by decide) fk_Cm_125 g4 d_Cm_fun_4 ?_
  refine lv_iload_n hx hb d_Cm_fun_7 rfl (lv_at hl 1 rfl) ?_
  obtain ⟨j5, ej5, hf⟩ := bo_some hf
  rw [ej5]
  obtain ⟨r6, g6, hf⟩ := bo_some hf
  refine xl_I (i := j5) hx hb hK hP g6 d_Cm_fun_8 ?_
  refine lv_istore_n (lv' := [(2, .int r6), (0, .ref (ad v0)), (1, .int v1)]) hx hb d_Cm_fun_9 rfl hl (by decide) (by first | rfl | simp [List.filter, cat_rf]) (fun ls hl => ?_)
  refine lv_aload_n hx hb d_Cm_fun_10 rfl (lv_at hl 1 rfl) ?_
  obtain ⟨r7, g7, hf⟩ := bo_some hf
  refine xg_R (i := v0) (k := 1) hx hb ht hown ck_Cm hK hP (by decide) fk_Cm_39 g7 d_Cm_fun_11 ?_
  obtain ⟨j8, ej8, hf⟩ := bo_some hf
  rw [ej8]
  obtain ⟨r9, g9, hf⟩ := bo_some hf
  refine xg_R (i := j8) (k := 3) hx hb ht hown ck_Tr hK hP (by decide) fk_Cm_171 g9 d_Cm_fun_14 ?_
  refine lv_iload_n hx hb d_Cm_fun_17 rfl (lv_at hl 2 rfl) ?_
  obtain ⟨j10, ej10, hf⟩ := bo_some hf
  rw [ej10]
  obtain ⟨r11, g11, hf⟩ := bo_some hf
  refine xl_I (i := j10) hx hb hK hP g11 d_Cm_fun_18 ?_
  refine lv_istore_n (lv' := [(3, .int r11), (2, .int r6), (0, .ref (ad v0)), (1, .int v1)]) hx hb d_Cm_fun_19 rfl hl (by decide) (by first | rfl | simp [List.filter, cat_rf]) (fun ls hl => ?_)
  refine lv_aload_n hx hb d_Cm_fun_20 rfl (lv_at hl 2 rfl) ?_
  obtain ⟨r12, g12, hf⟩ := bo_some hf
  refine xg_R (i := v0) (k := 1) hx hb ht hown ck_Cm hK hP (by decide) fk_Cm_39 g12 d_Cm_fun_21 ?_
  refine lv_aload_n hx hb d_Cm_fun_24 rfl (lv_at hl 2 rfl) ?_
  obtain ⟨r13, g13, hf⟩ := bo_some hf
  refine xg_R (i := v0) (k := 1) hx hb ht hown ck_Cm hK hP (by decide) fk_Cm_39 g13 d_Cm_fun_25 ?_
  obtain ⟨j14, ej14, hf⟩ := bo_some hf
  rw [ej14]
  obtain ⟨r15, g15, hf⟩ := bo_some hf
  refine xg_R (i := j14) (k := 2) hx hb ht hown ck_Tr hK hP (by decide) fk_Cm_125 g15 d_Cm_fun_28 ?_
  refine lv_iload_n hx hb d_Cm_fun_31 rfl (lv_at hl 0 rfl) ?_
  obtain ⟨j16, ej16, hf⟩ := bo_some hf
  rw [ej16]
  obtain ⟨r17, g17, hf⟩ := bo_some hf
  refine xl_I (i := j16) hx hb hK hP g17 d_Cm_fun_32 ?_
  obtain ⟨j19, ej19, hf⟩ := bo_some hf
  rw [ej19]
  obtain ⟨hO9, hf⟩ := ck_some hf
  obtain ⟨u18, r18, hc18, hf⟩ := bx_some hf
  refine xV0 (i := j19) (As := [.int r17]) (rest := []) C0 hP hD hS ck_Tr hO9 (c_Tr_length N hc18) k_Tr_length (wd_of 1140 (by decide +kernel) rfl) hi_Tr_length hs_Tr_length hini_Tr rfl rfl hd_Tr_length rfl rm_Cm_fun_Tr_length hl.1 (Nat.le_of_ble_eq_true rfl) d_Cm_fun_33 rfl ⟨Nat.zero_le _, Nat.zero_le _⟩ (fun H locs hP hD hS => ?_)
  refine lv_istore (lv' := [(4, .int r18), (3, .int r11), (2, .int r6), (0, .ref (ad v0)), (1, .int v1)]) hx hb d_Cm_fun_36 hl (by decide) (by first | rfl | simp [List.filter, cat_rf]) (fun ls hl => ?_)
  refine lv_aload_n hx hb d_Cm_fun_38 rfl (lv_at hl 3 rfl) ?_
  obtain ⟨r20, g20, hf⟩ := bo_some hf
  refine xg_I (i := v0) (k := 12) hx hb ht hown ck_Cm hK hP (by decide) fk_Cm_59 g20 d_Cm_fun_39 ?_
  refine lv_istore (lv' := [(5, .int r20), (4, .int r18), (3, .int r11), (2, .int r6), (0, .ref (ad v0)), (1, .int v1)]) hx hb d_Cm_fun_42 hl (by decide) (by first | rfl | simp [List.filter, cat_rf]) (fun ls hl => ?_)
  refine lv_aload_n hx hb d_Cm_fun_44 rfl (lv_at hl 4 rfl) ?_
  refine lv_iconst (v := 0) hx hb d_Cm_fun_45 (by decide) ?_
  obtain ⟨w21, g21, hf⟩ := bo_some hf
  refine xp (i := v0) (k := 12) (v := (.inl 0)) hx hb ht hown ck_Cm hK hP hD hS (by decide) fk_Cm_59 rfl g21 rfl rfl d_Cm_fun_46 (fun H locs hP hD hS => ?_)
  refine lv_aload_n hx hb d_Cm_fun_49 rfl (lv_at hl 4 rfl) ?_
  obtain ⟨r22, g22, hf⟩ := bo_some hf
  refine xg_R (i := v0) (k := 2) hx hb ht hown ck_Cm hK hP (by decide) fk_Cm_43 g22 d_Cm_fun_50 ?_
  refine lv_bipush (v := 18) hx hb d_Cm_fun_53 (by decide) ?_
  obtain ⟨j24, ej24, hf⟩ := bo_some hf
  rw [ej24]
  obtain ⟨hO9, hf⟩ := ck_some hf
  obtain ⟨u23, r23, hc23, hf⟩ := bx_some hf
  refine xV0 (i := j24) (As := [.int 18]) (rest := []) C0 hP hD hS ck_Co hO9 (c_Co_put N hc23) k_Co_put (wd_of 1149 (by decide +kernel) rfl) hi_Co_put hs_Co_put hini_Co rfl rfl hd_Co_put rfl rm_Cm_fun_Co_put hl.1 (Nat.le_of_ble_eq_true rfl) d_Cm_fun_55 rfl ⟨Nat.zero_le _, Nat.zero_le _⟩ (fun H locs hP hD hS => ?_)
  refine lv_aload_n hx hb d_Cm_fun_58 rfl (lv_at hl 4 rfl) ?_
  obtain ⟨r25, g25, hf⟩ := bo_some hf
  refine xg_R (i := v0) (k := 2) hx hb ht hown ck_Cm hK hP (by decide) fk_Cm_43 g25 d_Cm_fun_59 ?_
  refine lv_iconst (v := 0) hx hb d_Cm_fun_62 (by decide) ?_
  obtain ⟨j27, ej27, hf⟩ := bo_some hf
  rw [ej27]
  obtain ⟨hO9, hf⟩ := ck_some hf
  obtain ⟨u26, r26, hc26, hf⟩ := bx_some hf
  refine xV0 (i := j27) (As := [.int 0]) (rest := []) C0 hP hD hS ck_Co hO9 (c_Co_hook N hc26) k_Co_hook (wd_of 1153 (by decide +kernel) rfl) hi_Co_hook hs_Co_hook hini_Co rfl rfl hd_Co_hook rfl rm_Cm_fun_Co_hook hl.1 (Nat.le_of_ble_eq_true rfl) d_Cm_fun_63 rfl ⟨Nat.zero_le _, Nat.zero_le _⟩ (fun H locs hP hD hS => ?_)
  refine lv_istore (lv' := [(6, .int r26), (5, .int r20), (4, .int r18), (3, .int r11), (2, .int r6), (0, .ref (ad v0)), (1, .int v1)]) hx hb d_Cm_fun_66 hl (by decide) (by first | rfl | simp [List.filter, cat_rf]) (fun ls hl => ?_)
  refine lv_aload_n hx hb d_Cm_fun_68 rfl (lv_at hl 5 rfl) ?_
  obtain ⟨r28, g28, hf⟩ := bo_some hf
  refine xg_R (i := v0) (k := 2) hx hb ht hown ck_Cm hK hP (by decide) fk_Cm_43 g28 d_Cm_fun_69 ?_
  obtain ⟨j29, ej29, hf⟩ := bo_some hf
  rw [ej29]
  obtain ⟨r30, g30, hf⟩ := bo_some hf
  refine xg_R (i := j29) (k := 10) hx hb ht hown ck_Co hK hP (by decide) fk_Cm_244 g30 d_Cm_fun_72 ?_
  refine lv_iload_n hx hb d_Cm_fun_75 rfl (lv_at hl 4 rfl) ?_
  refine lv_iload hx hb d_Cm_fun_76 (lv_at hl 2 rfl) ?_
  obtain ⟨j31, ej31, hf⟩ := bo_some hf
  rw [ej31]
  obtain ⟨w32, g32, hf⟩ := bo_some hf
  refine xs_I (i := j31) hx hb hK hP hD hS g32 d_Cm_fun_78 (fun H locs hP hD hS => ?_)
  refine lv_aload_n hx hb d_Cm_fun_79 rfl (lv_at hl 5 rfl) ?_
  obtain ⟨r33, g33, hf⟩ := bo_some hf
  refine xg_R (i := v0) (k := 2) hx hb ht hown ck_Cm hK hP (by decide) fk_Cm_43 g33 d_Cm_fun_80 ?_
  obtain ⟨j34, ej34, hf⟩ := bo_some hf
  rw [ej34]
  obtain ⟨r35, g35, hf⟩ := bo_some hf
  refine xg_R (i := j34) (k := 11) hx hb ht hown ck_Co hK hP (by decide) fk_Cm_247 g35 d_Cm_fun_83 ?_
  refine lv_iload_n hx hb d_Cm_fun_86 rfl (lv_at hl 4 rfl) ?_
  refine lv_aload_n hx hb d_Cm_fun_87 rfl (lv_at hl 5 rfl) ?_
  obtain ⟨r36, g36, hf⟩ := bo_some hf
  refine xg_R (i := v0) (k := 2) hx hb ht hown ck_Cm hK hP (by decide) fk_Cm_43 g36 d_Cm_fun_88 ?_
  obtain ⟨j37, ej37, hf⟩ := bo_some hf
  rw [ej37]
  obtain ⟨r38, g38, hf⟩ := bo_some hf
  refine xg_I (i := j37) (k := 1) hx hb ht hown ck_Co hK hP (by decide) fk_Cm_122 g38 d_Cm_fun_91 ?_
  obtain ⟨j39, ej39, hf⟩ := bo_some hf
  rw [ej39]
  obtain ⟨w40, g40, hf⟩ := bo_some hf
  refine xs_I (i := j39) hx hb hK hP hD hS g40 d_Cm_fun_94 (fun H locs hP hD hS => ?_)
  refine lv_aload_n hx hb d_Cm_fun_95 rfl (lv_at hl 5 rfl) ?_
  refine lv_aload_n hx hb d_Cm_fun_96 rfl (lv_at hl 5 rfl) ?_
  obtain ⟨r41, g41, hf⟩ := bo_some hf
  refine xg_I (i := v0) (k := 9) hx hb ht hown ck_Cm hK hP (by decide) fk_Cm_113 g41 d_Cm_fun_97 ?_
  refine lv_iconst (v := 1) hx hb d_Cm_fun_100 (by decide) ?_
  refine lv_iadd hx hb d_Cm_fun_101 ?_
  refine lv_bipush (v := 31) hx hb d_Cm_fun_102 (by decide) ?_
  refine va_mmin hx hb (hml.trans hl.1.symm) hown (ht _ (wd_of 1137 (by decide +kernel) rfl)) (ht _ (wd_of 1138 (by decide +kernel) rfl)) (ht _ (wd_of 281 (by decide +kernel) rfl)) (ht _ (wd_of 1139 (by decide +kernel) rfl)) (Nat.le_of_ble_eq_true rfl) (Nat.le_trans (Nat.add_le_add_right (c8 (Nat.le_of_ble_eq_true rfl)) _) (Nat.le_of_ble_eq_true rfl)) (Nat.zero_le _) (Nat.zero_le _) d_Cm_fun_104 ?_
  obtain ⟨y42, e42, hf⟩ := lt_some hf
  rw [← e42]
  obtain ⟨w43, g43, hf⟩ := bo_some hf
  refine xp (i := v0) (k := 9) (v := (.inl y42)) hx hb ht hown ck_Cm hK hP hD hS (by decide) fk_Cm_113 rfl g43 rfl rfl d_Cm_fun_107 (fun H locs hP hD hS => ?_)
  refine lv_aload_n hx hb d_Cm_fun_110 rfl (lv_at hl 5 rfl) ?_
  obtain ⟨r44, g44, hf⟩ := bo_some hf
  refine xg_R (i := v0) (k := 7) hx hb ht hown ck_Cm hK hP (by decide) fk_Cm_26 g44 d_Cm_fun_111 ?_
  refine lv_aload_n hx hb d_Cm_fun_114 rfl (lv_at hl 5 rfl) ?_
  obtain ⟨r45, g45, hf⟩ := bo_some hf
  refine xg_I (i := v0) (k := 9) hx hb ht hown ck_Cm hK hP (by decide) fk_Cm_113 g45 d_Cm_fun_115 ?_
  refine lv_aload_n hx hb d_Cm_fun_118 rfl (lv_at hl 5 rfl) ?_
  obtain ⟨r46, g46, hf⟩ := bo_some hf
  refine xg_I (i := v0) (k := 6) hx hb ht hown ck_Cm hK hP (by decide) fk_Cm_116 g46 d_Cm_fun_119 ?_
  obtain ⟨j47, ej47, hf⟩ := bo_some hf
  rw [ej47]
  obtain ⟨w48, g48, hf⟩ := bo_some hf
  refine xs_I (i := j47) hx hb hK hP hD hS g48 d_Cm_fun_122 (fun H locs hP hD hS => ?_)
  refine lv_aload_n hx hb d_Cm_fun_123 rfl (lv_at hl 5 rfl) ?_
  obtain ⟨r49, g49, hf⟩ := bo_some hf
  refine xg_R (i := v0) (k := 8) hx hb ht hown ck_Cm hK hP (by decide) fk_Cm_29 g49 d_Cm_fun_124 ?_
  refine lv_aload_n hx hb d_Cm_fun_127 rfl (lv_at hl 5 rfl) ?_
  obtain ⟨r50, g50, hf⟩ := bo_some hf
  refine xg_I (i := v0) (k := 9) hx hb ht hown ck_Cm hK hP (by decide) fk_Cm_113 g50 d_Cm_fun_128 ?_
  refine lv_iconst (v := 0) hx hb d_Cm_fun_131 (by decide) ?_
  obtain ⟨j51, ej51, hf⟩ := bo_some hf
  rw [ej51]
  obtain ⟨w52, g52, hf⟩ := bo_some hf
  refine xs_I (i := j51) hx hb hK hP hD hS g52 d_Cm_fun_132 (fun H locs hP hD hS => ?_)
  refine lv_aload_n hx hb d_Cm_fun_133 rfl (lv_at hl 5 rfl) ?_
  refine lv_iload_n hx hb d_Cm_fun_134 rfl (lv_at hl 3 rfl) ?_
  refine lv_iload hx hb d_Cm_fun_135 (lv_at hl 2 rfl) ?_
  refine lv_aload_n hx hb d_Cm_fun_137 rfl (lv_at hl 5 rfl) ?_
  obtain ⟨r53, g53, hf⟩ := bo_some hf
  refine xg_R (i := v0) (k := 0) hx hb ht hown ck_Cm hK hP (by decide) fk_Cm_35 g53 d_Cm_fun_138 ?_
  obtain ⟨j54, ej54, hf⟩ := bo_some hf
  rw [ej54]
  obtain ⟨r55, g55, hf⟩ := bo_some hf
  refine xg_R (i := j54) (k := 4) hx hb ht hown ck_To hK hP (by decide) fk_Cm_74 g55 d_Cm_fun_141 ?_
  refine lv_aload_n hx hb d_Cm_fun_144 rfl (lv_at hl 5 rfl) ?_
  obtain ⟨r56, g56, hf⟩ := bo_some hf
  refine xg_R (i := v0) (k := 1) hx hb ht hown ck_Cm hK hP (by decide) fk_Cm_39 g56 d_Cm_fun_145 ?_
  obtain ⟨j57, ej57, hf⟩ := bo_some hf
  rw [ej57]
  obtain ⟨r58, g58, hf⟩ := bo_some hf
  refine xg_R (i := j57) (k := 1) hx hb ht hown ck_Tr hK hP (by decide) fk_Cm_93 g58 d_Cm_fun_148 ?_
  refine lv_iload_n hx hb d_Cm_fun_151 rfl (lv_at hl 6 rfl) ?_
  obtain ⟨j59, ej59, hf⟩ := bo_some hf
  rw [ej59]
  obtain ⟨r60, g60, hf⟩ := bo_some hf
  refine xl_I (i := j59) hx hb hK hP g60 d_Cm_fun_152 ?_
  obtain ⟨j61, ej61, hf⟩ := bo_some hf
  rw [ej61]
  obtain ⟨r62, g62, hf⟩ := bo_some hf
  refine xl_I (i := j61) hx hb hK hP g62 d_Cm_fun_153 ?_
  obtain ⟨hO9, hf⟩ := ck_some hf
  obtain ⟨u63, r63, hc63, hf⟩ := bx_some hf
  refine xV0 (i := v0) (As := [.int r11, .int r18, .int r62]) (rest := []) C0 hP hD hS ck_Cm hO9 (hSg.2.2.2.2.2.2.2.2.2.2.2.2 _ _ _ _ _ _ _ _ hc63) k_Cm_clause (wd_of 1141 (by decide +kernel) rfl) hi_Cm_clause hs_Cm_clause hini_Cm rfl rfl hd_Cm_clause rfl rm_Cm_fun_Cm_clause hl.1 (Nat.le_of_ble_eq_true rfl) d_Cm_fun_154 rfl ⟨Nat.zero_le _, Nat.zero_le _⟩ (fun H locs hP hD hS => ?_)
  refine lv_aload_n hx hb d_Cm_fun_157 rfl (lv_at hl 5 rfl) ?_
  obtain ⟨r64, g64, hf⟩ := bo_some hf
  refine xg_R (i := v0) (k := 2) hx hb ht hown ck_Cm hK hP (by decide) fk_Cm_43 g64 d_Cm_fun_158 ?_
  refine lv_bipush (v := 36) hx hb d_Cm_fun_161 (by decide) ?_
  obtain ⟨j66, ej66, hf⟩ := bo_some hf
  rw [ej66]
  obtain ⟨hO9, hf⟩ := ck_some hf
  obtain ⟨u65, r65, hc65, hf⟩ := bx_some hf
  refine xV0 (i := j66) (As := [.int 36]) (rest := []) C0 hP hD hS ck_Co hO9 (c_Co_put N hc65) k_Co_put (wd_of 1149 (by decide +kernel) rfl) hi_Co_put hs_Co_put hini_Co rfl rfl hd_Co_put rfl rm_Cm_fun_Co_put hl.1 (Nat.le_of_ble_eq_true rfl) d_Cm_fun_163 rfl ⟨Nat.zero_le _, Nat.zero_le _⟩ (fun H locs hP hD hS => ?_)
  refine lv_aload_n hx hb d_Cm_fun_166 rfl (lv_at hl 5 rfl) ?_
  obtain ⟨r67, g67, hf⟩ := bo_some hf
  refine xg_R (i := v0) (k := 8) hx hb ht hown ck_Cm hK hP (by decide) fk_Cm_29 g67 d_Cm_fun_167 ?_
  refine lv_aload_n hx hb d_Cm_fun_170 rfl (lv_at hl 5 rfl) ?_
  obtain ⟨r68, g68, hf⟩ := bo_some hf
  refine xg_I (i := v0) (k := 9) hx hb ht hown ck_Cm hK hP (by decide) fk_Cm_113 g68 d_Cm_fun_171 ?_
  obtain ⟨j69, ej69, hf⟩ := bo_some hf
  rw [ej69]
  obtain ⟨r70, g70, hf⟩ := bo_some hf
  refine xl_I (i := j69) hx hb hK hP g70 d_Cm_fun_174 ?_
  refine lv_istore (lv' := [(7, .int r70), (6, .int r26), (5, .int r20), (4, .int r18), (3, .int r11), (2, .int r6), (0, .ref (ad v0)), (1, .int v1)]) hx hb d_Cm_fun_175 hl (by decide) (by first | rfl | simp [List.filter, cat_rf]) (fun ls hl => ?_)
  refine lv_aload_n hx hb d_Cm_fun_177 rfl (lv_at hl 6 rfl) ?_
  refine lv_dup hx hb d_Cm_fun_178 rfl ?_
  obtain ⟨r71, g71, hf⟩ := bo_some hf
  refine xg_I (i := v0) (k := 9) hx hb ht hown ck_Cm hK hP (by decide) fk_Cm_113 g71 d_Cm_fun_179 ?_
  refine lv_iconst (v := 1) hx hb d_Cm_fun_182 (by decide) ?_
  refine lv_isub hx hb d_Cm_fun_183 ?_
  obtain ⟨w72, g72, hf⟩ := bo_some hf
  refine xp (i := v0) (k := 9) (v := (.inl (r71 - 1))) hx hb ht hown ck_Cm hK hP hD hS (by decide) fk_Cm_113 rfl g72 rfl rfl d_Cm_fun_184 (fun H locs hP hD hS => ?_)
  refine lv_aload_n hx hb d_Cm_fun_187 rfl (lv_at hl 6 rfl) ?_
  refine lv_iload hx hb d_Cm_fun_188 (lv_at hl 2 rfl) ?_
  obtain ⟨hz, hf⟩ := ck_some hf
  obtain ⟨w73, g73, hf⟩ := bo_some hf
  refine xp (i := v0) (k := 12) (v := (.inl r20)) hx hb ht hown ck_Cm hK hP hD hS (by decide) fk_Cm_59 rfl g73 (isb_n hz) (isb_f hz) d_Cm_fun_190 (fun H locs hP hD hS => ?_)
  refine lv_aload_n hx hb d_Cm_fun_193 rfl (lv_at hl 6 rfl) ?_
  obtain ⟨r74, g74, hf⟩ := bo_some hf
  refine xg_R (i := v0) (k := 2) hx hb ht hown ck_Cm hK hP (by decide) fk_Cm_43 g74 d_Cm_fun_194 ?_
  refine lv_iload hx hb d_Cm_fun_197 (lv_at hl 1 rfl) ?_
  obtain ⟨j76, ej76, hf⟩ := bo_some hf
  rw [ej76]
  obtain ⟨hO9, hf⟩ := ck_some hf
  obtain ⟨u75, r75, hc75, hf⟩ := bx_some hf
  refine xV0 (i := j76) (As := [.int r26]) (rest := []) C0 hP hD hS ck_Co hO9 (c_Co_arrive N hc75) k_Co_arrive (wd_of 1214 (by decide +kernel) rfl) hi_Co_arrive hs_Co_arrive hini_Co rfl rfl hd_Co_arrive rfl rm_Cm_fun_Co_arrive hl.1 (Nat.le_of_ble_eq_true rfl) d_Cm_fun_199 rfl ⟨Nat.zero_le _, Nat.zero_le _⟩ (fun H locs hP hD hS => ?_)
  refine lv_aload_n hx hb d_Cm_fun_202 rfl (lv_at hl 6 rfl) ?_
  obtain ⟨r77, g77, hf⟩ := bo_some hf
  refine xg_R (i := v0) (k := 2) hx hb ht hown ck_Cm hK hP (by decide) fk_Cm_43 g77 d_Cm_fun_203 ?_
  refine lv_bipush (v := 6) hx hb d_Cm_fun_206 (by decide) ?_
  obtain ⟨j79, ej79, hf⟩ := bo_some hf
  rw [ej79]
  obtain ⟨hO9, hf⟩ := ck_some hf
  obtain ⟨u78, r78, hc78, hf⟩ := bx_some hf
  refine xV0 (i := j79) (As := [.int 6]) (rest := []) C0 hP hD hS ck_Co hO9 (c_Co_put N hc78) k_Co_put (wd_of 1149 (by decide +kernel) rfl) hi_Co_put hs_Co_put hini_Co rfl rfl hd_Co_put rfl rm_Cm_fun_Co_put hl.1 (Nat.le_of_ble_eq_true rfl) d_Cm_fun_208 rfl ⟨Nat.zero_le _, Nat.zero_le _⟩ (fun H locs hP hD hS => ?_)
  refine lv_aload_n hx hb d_Cm_fun_211 rfl (lv_at hl 6 rfl) ?_
  obtain ⟨r80, g80, hf⟩ := bo_some hf
  refine xg_R (i := v0) (k := 2) hx hb ht hown ck_Cm hK hP (by decide) fk_Cm_43 g80 d_Cm_fun_212 ?_
  refine lv_iload_n hx hb d_Cm_fun_215 rfl (lv_at hl 5 rfl) ?_
  obtain ⟨j82, ej82, hf⟩ := bo_some hf
  rw [ej82]
  obtain ⟨hO9, hf⟩ := ck_some hf
  obtain ⟨u81, r81, hc81, hf⟩ := bx_some hf
  refine xV0 (i := j82) (As := [.int r6]) (rest := []) C0 hP hD hS ck_Co hO9 (c_Co_put N hc81) k_Co_put (wd_of 1149 (by decide +kernel) rfl) hi_Co_put hs_Co_put hini_Co rfl rfl hd_Co_put rfl rm_Cm_fun_Co_put hl.1 (Nat.le_of_ble_eq_true rfl) d_Cm_fun_216 rfl ⟨Nat.zero_le _, Nat.zero_le _⟩ (fun H locs hP hD hS => ?_)
  refine lv_aload_n hx hb d_Cm_fun_219 rfl (lv_at hl 6 rfl) ?_
  obtain ⟨r83, g83, hf⟩ := bo_some hf
  refine xg_R (i := v0) (k := 2) hx hb ht hown ck_Cm hK hP (by decide) fk_Cm_43 g83 d_Cm_fun_220 ?_
  obtain ⟨j84, ej84, hf⟩ := bo_some hf
  rw [ej84]
  obtain ⟨r85, g85, hf⟩ := bo_some hf
  refine xg_R (i := j84) (k := 12) hx hb ht hown ck_Co hK hP (by decide) fk_Cm_250 g85 d_Cm_fun_223 ?_
  refine lv_iload_n hx hb d_Cm_fun_226 rfl (lv_at hl 5 rfl) ?_
  refine lv_aload_n hx hb d_Cm_fun_227 rfl (lv_at hl 6 rfl) ?_
  obtain ⟨r86, g86, hf⟩ := bo_some hf
  refine xg_R (i := v0) (k := 2) hx hb ht hown ck_Cm hK hP (by decide) fk_Cm_43 g86 d_Cm_fun_228 ?_
  obtain ⟨j87, ej87, hf⟩ := bo_some hf
  rw [ej87]
  obtain ⟨r88, g88, hf⟩ := bo_some hf
  refine xg_I (i := j87) (k := 1) hx hb ht hown ck_Co hK hP (by decide) fk_Cm_122 g88 d_Cm_fun_231 ?_
  obtain ⟨j89, ej89, hf⟩ := bo_some hf
  rw [ej89]
  obtain ⟨w90, g90, hf⟩ := bo_some hf
  refine xs_I (i := j89) hx hb hK hP hD hS g90 d_Cm_fun_234 (fun H locs hP hD hS => ?_)
  refine lv_aload_n hx hb d_Cm_fun_235 rfl (lv_at hl 6 rfl) ?_
  obtain ⟨r91, g91, hf⟩ := bo_some hf
  refine xg_R (i := v0) (k := 2) hx hb ht hown ck_Cm hK hP (by decide) fk_Cm_43 g91 d_Cm_fun_236 ?_
  refine lv_iconst (v := 0) hx hb d_Cm_fun_239 (by decide) ?_
  obtain ⟨j93, ej93, hf⟩ := bo_some hf
  rw [ej93]
  obtain ⟨hO9, hf⟩ := ck_some hf
  obtain ⟨u92, r92, hc92, hf⟩ := bx_some hf
  refine xV0 (i := j93) (As := [.int 0]) (rest := []) C0 hP hD hS ck_Co hO9 (c_Co_put N hc92) k_Co_put (wd_of 1149 (by decide +kernel) rfl) hi_Co_put hs_Co_put hini_Co rfl rfl hd_Co_put rfl rm_Cm_fun_Co_put hl.1 (Nat.le_of_ble_eq_true rfl) d_Cm_fun_240 rfl ⟨Nat.zero_le _, Nat.zero_le _⟩ (fun H locs hP hD hS => ?_)
  refine lv_aload_n hx hb d_Cm_fun_243 rfl (lv_at hl 6 rfl) ?_
  refine lv_aload_n hx hb d_Cm_fun_244 rfl (lv_at hl 6 rfl) ?_
  obtain ⟨r94, g94, hf⟩ := bo_some hf
  refine xg_R (i := v0) (k := 1) hx hb ht hown ck_Cm hK hP (by decide) fk_Cm_39 g94 d_Cm_fun_245 ?_
  obtain ⟨j95, ej95, hf⟩ := bo_some hf
  rw [ej95]
  obtain ⟨r96, g96, hf⟩ := bo_some hf
  refine xg_R (i := j95) (k := 1) hx hb ht hown ck_Tr hK hP (by decide) fk_Cm_93 g96 d_Cm_fun_248 ?_
  refine lv_iload_n hx hb d_Cm_fun_251 rfl (lv_at hl 7 rfl) ?_
  obtain ⟨j97, ej97, hf⟩ := bo_some hf
  rw [ej97]
  obtain ⟨r98, g98, hf⟩ := bo_some hf
  refine xl_I (i := j97) hx hb hK hP g98 d_Cm_fun_252 ?_
  refine lv_aload_n hx hb d_Cm_fun_253 rfl (lv_at hl 6 rfl) ?_
  obtain ⟨r99, g99, hf⟩ := bo_some hf
  refine xg_R (i := v0) (k := 1) hx hb ht hown ck_Cm hK hP (by decide) fk_Cm_39 g99 d_Cm_fun_254 ?_
  obtain ⟨j100, ej100, hf⟩ := bo_some hf
  rw [ej100]
  obtain ⟨r101, g101, hf⟩ := bo_some hf
  refine xg_R (i := j100) (k := 4) hx hb ht hown ck_Tr hK hP (by decide) fk_Cm_155 g101 d_Cm_fun_257 ?_
  refine lv_iload_n hx hb d_Cm_fun_260 rfl (lv_at hl 7 rfl) ?_
  obtain ⟨j102, ej102, hf⟩ := bo_some hf
  rw [ej102]
  obtain ⟨r103, g103, hf⟩ := bo_some hf
  refine xl_I (i := j102) hx hb hK hP g103 d_Cm_fun_261 ?_
  obtain ⟨hO9, hf⟩ := ck_some hf
  obtain ⟨u104, r104, hc104, hf⟩ := bx_some hf
  refine xV0 (i := v0) (As := [.int r98, .int r103]) (rest := []) C0 hP hD hS ck_Cm hO9 (c_Cm_hold N hc104) k_Cm_hold (wd_of 1258 (by decide +kernel) rfl) hi_Cm_hold hs_Cm_hold hini_Cm rfl rfl hd_Cm_hold rfl rm_Cm_fun_Cm_hold hl.1 (Nat.le_of_ble_eq_true rfl) d_Cm_fun_262 rfl ⟨Nat.zero_le _, Nat.zero_le _⟩ (fun H locs hP hD hS => ?_)
  refine lv_istore (lv' := [(8, .int r104), (7, .int r70), (6, .int r26), (5, .int r20), (4, .int r18), (3, .int r11), (2, .int r6), (0, .ref (ad v0)), (1, .int v1)]) hx hb d_Cm_fun_265 hl (by decide) (by first | rfl | simp [List.filter, cat_rf]) (fun ls hl => ?_)
  refine lv_aload_n hx hb d_Cm_fun_267 rfl (lv_at hl 7 rfl) ?_
  obtain ⟨r105, g105, hf⟩ := bo_some hf
  refine xg_R (i := v0) (k := 2) hx hb ht hown ck_Cm hK hP (by decide) fk_Cm_43 g105 d_Cm_fun_268 ?_
  refine lv_aload_n hx hb d_Cm_fun_271 rfl (lv_at hl 7 rfl) ?_
  obtain ⟨r106, g106, hf⟩ := bo_some hf
  refine xg_R (i := v0) (k := 2) hx hb ht hown ck_Cm hK hP (by decide) fk_Cm_43 g106 d_Cm_fun_272 ?_
  obtain ⟨j107, ej107, hf⟩ := bo_some hf
  rw [ej107]
  obtain ⟨r108, g108, hf⟩ := bo_some hf
  refine xg_R (i := j107) (k := 12) hx hb ht hown ck_Co hK hP (by decide) fk_Cm_250 g108 d_Cm_fun_275 ?_
  refine lv_iload_n hx hb d_Cm_fun_278 rfl (lv_at hl 6 rfl) ?_
  obtain ⟨j109, ej109, hf⟩ := bo_some hf
  rw [ej109]
  obtain ⟨r110, g110, hf⟩ := bo_some hf
  refine xl_I (i := j109) hx hb hK hP g110 d_Cm_fun_279 ?_
  refine lv_iload hx hb d_Cm_fun_280 (lv_at hl 0 rfl) ?_
  obtain ⟨j112, ej112, hf⟩ := bo_some hf
  rw [ej112]
  obtain ⟨hO9, hf⟩ := ck_some hf
  obtain ⟨u111, r111, hc111, hf⟩ := bx_some hf
  refine xV0 (i := j112) (As := [.int r110, .int r104]) (rest := []) C0 hP hD hS ck_Co hO9 (c_Co_set N hc111) k_Co_set (wd_of 1263 (by decide +kernel) rfl) hi_Co_set hs_Co_set hini_Co rfl rfl hd_Co_set rfl rm_Cm_fun_Co_set hl.1 (Nat.le_of_ble_eq_true rfl) d_Cm_fun_282 rfl ⟨Nat.zero_le _, Nat.zero_le _⟩ (fun H locs hP hD hS => ?_)
  refine lv_aload_n hx hb d_Cm_fun_285 rfl (lv_at hl 7 rfl) ?_
  refine lv_aload_n hx hb d_Cm_fun_286 rfl (lv_at hl 7 rfl) ?_
  obtain ⟨r113, g113, hf⟩ := bo_some hf
  refine xg_I (i := v0) (k := 11) hx hb ht hown ck_Cm hK hP (by decide) fk_Cm_55 g113 d_Cm_fun_287 ?_
  refine lv_if_ne (tgt := 303) hx hb d_Cm_fun_290 (by decide) (fun hc => ?_) (fun hc => ?_)
  · rw [br_n _ hc] at hf
    exact wb_Cm_fun_303 C0 hE N S hSg G hG _ _ _ hf H locs hP hD hS ls (lv_sub hl [] rfl)
  · rw [br_p _ hc] at hf
    refine lv_iload hx hb d_Cm_fun_293 (lv_at hl 1 rfl) ?_
    refine lv_iload hx hb d_Cm_fun_295 (lv_at hl 0 rfl) ?_
    refine lv_iadd hx hb d_Cm_fun_297 ?_
    refine lv_bipush (v := 40) hx hb d_Cm_fun_298 (by decide) ?_
    refine lv_icmp_le (tgt := 307) hx hb d_Cm_fun_300 (by decide) (fun hc => ?_) (fun hc => ?_)
    · rw [br_p _ hc] at hf
      refine lv_iconst (v := 0) hx hb d_Cm_fun_307 (by decide) ?_
      exact wb_Cm_fun_308 C0 hE N S hSg G hG _ _ _ _ hf H locs hP hD hS ls (lv_sub hl [] rfl)
    · rw [br_n _ hc] at hf
      exact wb_Cm_fun_303 C0 hE N S hSg G hG _ _ _ hf H locs hP hD hS ls (lv_sub hl [] rfl)
def fm_Cm_fun (N : Nat) (S : SG_Cm_fun) (u : CS) (v0 : Nat) (v1 : Int32) : Option (CS × Unit) := fb_Cm_fun_0 N S () u v0 v1
set_option maxRecDepth 100000 in
set_option maxHeartbeats 4000000 in
theorem cs_Cm_fun (N : Nat) {d : Nat} {l : Launch} {s0 : State} {b0 : Nat} {D : va_G} {cB cI cJ cZ cS cP : ClassId} {sk sv : Nat → Nat} {ad : Nat → Nat} {u : CS} {sz : Nat} {v0 : Nat} {v1 : Int32} {x : CS × Unit} (hE : ENV s0 b0 sk sv) (S : SG_Cm_fun) (hSg : HS_Cm_fun l s0 b0 D cB cI cJ cZ cS cP d S) (hf : fm_Cm_fun N S u v0 v1 = some x) : Met l y_Cm_fun (wd_ws y_Cm_fun b_Cm_fun 9 none) (rg_Cm_fun (d + 1)) (xPc s0 b0 D cB cI cJ cZ cS cP ad u sz [.ref (ad v0), .int v1]) (xQ0 D cB cI cJ cZ cS cP (xA cB cI cJ cZ cS cP ad u sz) ad x.1 none) 0 0 (xA cB cI cJ cZ cS cP ad u sz) :=
  xMet (by decide) rfl (Nat.le_of_ble_eq_true rfl) (fun p e s m below meth c ls hsz hnm C0 hP hD hS hl =>
    wb_Cm_fun_0 C0 hE N S hSg () trivial u _ _ x hf s.heap [] hP hD hS ls (lv_sub hl [0, 1] rfl))
theorem rm_Cm_receive_Cm_forget {d : Nat} : (rm_Cm_forget).frames + 1 ≤ (rg_Cm_fun (d + 1)).frames ∧ 8 + (2 + 11) + (rm_Cm_forget).locals ≤ (rg_Cm_fun (d + 1)).locals := by
  show 1 + 1 ≤ 304 + (d + 1) ∧ 8 + (2 + 11) + 21 ≤ 6688 + 28 * (d + 1)
  omega
theorem rm_Cm_receive_Co_put {d : Nat} : (rm_Co_put).frames + 1 ≤ (rg_Cm_fun (d + 1)).frames ∧ 8 + (2 + 11) + (rm_Co_put).locals ≤ (rg_Cm_fun (d + 1)).locals := by
  show 0 + 1 ≤ 304 + (d + 1) ∧ 8 + (2 + 11) + 0 ≤ 6688 + 28 * (d + 1)
  omega
theorem rm_Cm_receive_Co_hook {d : Nat} : (rm_Co_hook).frames + 1 ≤ (rg_Cm_fun (d + 1)).frames ∧ 8 + (2 + 11) + (rm_Co_hook).locals ≤ (rg_Cm_fun (d + 1)).locals := by
  show 1 + 1 ≤ 304 + (d + 1) ∧ 8 + (2 + 11) + 21 ≤ 6688 + 28 * (d + 1)
  omega
theorem rm_Cm_receive_Co_arrive {d : Nat} : (rm_Co_arrive).frames + 1 ≤ (rg_Cm_fun (d + 1)).frames ∧ 8 + (5 + 11) + (rm_Co_arrive).locals ≤ (rg_Cm_fun (d + 1)).locals := by
  show 1 + 1 ≤ 304 + (d + 1) ∧ 8 + (5 + 11) + 22 ≤ 6688 + 28 * (d + 1)
  omega
theorem rm_Cm_receive_Cm_expression {d : Nat} : (rg_Cm_fun d).frames + 1 ≤ (rg_Cm_fun (d + 1)).frames ∧ 8 + (4 + 11) + (rg_Cm_fun d).locals ≤ (rg_Cm_fun (d + 1)).locals := by
  show 304 + d + 1 ≤ 304 + (d + 1) ∧ 8 + (4 + 11) + (6688 + 28 * d) ≤ 6688 + 28 * (d + 1)
  omega
theorem rm_Cm_receive_Cm_parts {d : Nat} : (rg_Cm_fun d).frames + 1 ≤ (rg_Cm_fun (d + 1)).frames ∧ 8 + (9 + 11) + (rg_Cm_fun d).locals ≤ (rg_Cm_fun (d + 1)).locals := by
  show 304 + d + 1 ≤ 304 + (d + 1) ∧ 8 + (9 + 11) + (6688 + 28 * d) ≤ 6688 + 28 * (d + 1)
  omega
theorem rm_Cm_receive_Cm_body {d : Nat} : (rg_Cm_fun d).frames + 1 ≤ (rg_Cm_fun (d + 1)).frames ∧ 8 + (5 + 11) + (rg_Cm_fun d).locals ≤ (rg_Cm_fun (d + 1)).locals := by
  show 304 + d + 1 ≤ 304 + (d + 1) ∧ 8 + (5 + 11) + (6688 + 28 * d) ≤ 6688 + 28 * (d + 1)
  omega
def fb_Cm_receive_173 (N : Nat) (S : SG_Cm_fun) (G : Unit) (u : CS) (v0 : Nat) (v7 : Int32) : Option (CS × Unit) := bo (gR u v0 3 2) (fun r1 => bo r1 (fun j3 => ck (isO u j3 2) (bx (fm_Co_arrive N u j3 v7) (fun u2 r2 => some (u2, ())))))
set_option maxRecDepth 100000 in
set_option maxHeartbeats 4000000 in
theorem wb_Cm_receive_173 {p : Program} {l : Launch} {e : Env} {s : State} {m : MethodId} {args : Array Value} {below : List Frame} {meth : Method} {c : Code} {s0 : State} {b0 : Nat} {D : va_G} {cB cI cJ cZ cS cP : ClassId} {A : Nat → Prop} {sk sv : Nat → Nat} {d : Nat} {ad : Nat → Nat} (C0 : XCx p s s0 b0 m args meth c R_Cm b_Cm_receive 8 none D cB cI cJ cZ cS cP A) (hE : ENV s0 b0 sk sv) (N : Nat) (S : SG_Cm_fun) (hSg : HS_Cm_fun l s0 b0 D cB cI cJ cZ cS cP d S) (G : Unit) (hG : True) : ∀ (u : CS) (v0 : Nat) (v7 : Int32) (x : CS × Unit), fb_Cm_receive_173 N S G u v0 v7 = some x → ∀ (H : Heap) (locs : List Loc), va_P D cls (wC cB cI cJ cZ cS cP ad u) H → va_D A (wC cB cI cJ cZ cS cP ad u) → va_S A s.heap H locs → ∀ (ls : Array Slot), lv_has ls 8 [(0, .ref (ad v0)), (7, .int v7)] → W p l e (rg_Cm_fun (d + 1)) s m args below meth c H locs 0 0 (MQ below (xQ0 D cB cI cJ cZ cS cP A ad x.1 none) args s 0 0 A) (F0 m 173 ls []) := by
  intro u v0 v7 x hf H locs hP hD hS ls hl
  obtain ⟨hx, hb, hr, hml, ht, hown, hK, hA, hlocks, hA0, hO, hbs⟩ := id C0
  unfold fb_Cm_receive_173 at hf
  refine lv_aload_n hx hb d_Cm_receive_173 rfl (lv_at hl 0 rfl) ?_
  obtain ⟨r1, g1, hf⟩ := bo_some hf
  refine xg_R (i := v0) (k := 2) hx hb ht hown ck_Cm hK hP (by decide) fk_Cm_43 g1 d_Cm_receive_174 ?_
  refine lv_iload hx hb d_Cm_receive_177 (lv_at hl 1 rfl) ?_
  obtain ⟨j3, ej3, hf⟩ := bo_some hf
  rw [ej3]
  obtain ⟨hO9, hf⟩ := ck_some hf
  obtain ⟨u2, r2, hc2, hf⟩ := bx_some hf
  refine xV0 (i := j3) (As := [.int v7]) (rest := []) C0 hP hD hS ck_Co hO9 (c_Co_arrive N hc2) k_Co_arrive (wd_of 1214 (by decide +kernel) rfl) hi_Co_arrive hs_Co_arrive hini_Co rfl rfl hd_Co_arrive rfl rm_Cm_receive_Co_arrive hl.1 (Nat.le_of_ble_eq_true rfl) d_Cm_receive_179 rfl ⟨Nat.zero_le _, Nat.zero_le _⟩ (fun H locs hP hD hS => ?_)
  exact xr0_v C0 hP hD hS hf d_Cm_receive_182
def fb_Cm_receive_71 (N : Nat) (S : SG_Cm_fun) (G : Unit) (u : CS) (v0 : Nat) (v1 : Int32) (v2 : Int32) (v3 : Int32) (v4 : Int32) (t0 : Option Nat) (t1 : Int32) : Option (CS × Unit) := bo t0 (fun j5 => ck (isO u j5 2) (bx (fm_Co_put N u j5 t1) (fun u4 r4 => bo (gR u4 v0 3 2) (fun r6 => bo r6 (fun j7 => bo (gI u4 j7 2 1) (fun r8 => bo (gR u4 v0 3 2) (fun r9 => bo r9 (fun j11 => ck (isO u4 j11 2) (bx (fm_Co_put N u4 j11 32) (fun u10 r10 => bo (gR u10 v0 3 2) (fun r12 => bo r12 (fun j14 => ck (isO u10 j14 2) (bx (fm_Co_hook N u10 j14 0) (fun u13 r13 => bo (gR u13 v0 3 1) (fun r15 => bo r15 (fun j16 => bo (gR u13 j16 10 3) (fun r17 => bo r17 (fun j18 => bo (aI u13 j18 4 v1) (fun r19 => ck (isO u13 v0 3) (bx (S.2.2.1 u13 v0 r19 (-2) 33 v2) (fun u20 r20 => bo (gR u20 v0 3 2) (fun r21 => bo r21 (fun j23 => ck (isO u20 j23 2) (bx (fm_Co_put N u20 j23 34) (fun u22 r22 => bo (gR u22 v0 3 2) (fun r24 => bo r24 (fun j26 => ck (isO u22 j26 2) (bx (fm_Co_put N u22 j26 r8) (fun u25 r25 => bo (gR u25 v0 3 2) (fun r27 => bo r27 (fun j29 => ck (isO u25 j29 2) (bx (fm_Co_arrive N u25 j29 r13) (fun u28 r28 => br (decide (v4 = 0)) (fb_Cm_receive_173 N S G u28 (v0) (r20)) (bo (gR u28 v0 3 1) (fun r30 => bo r30 (fun j31 => bo (gR u28 j31 10 4) (fun r32 => bo r32 (fun j33 => bo (aI u28 j33 4 v1) (fun r34 => ck (isO u28 v0 3) (bx (S.2.2.2.1 u28 v0 r34 v2) (fun u35 r35 => ck (isO u35 v0 3) (bx (fm_Cm_forget N u35 v0 v3) (fun u36 r36 => fb_Cm_receive_173 N S G u36 (v0) (r20))))))))))))))))))))))))))))))))))))))))))))
set_option maxRecDepth 100000 in
set_option maxHeartbeats 4000000 in
theorem wb_Cm_receive_71 {p : Program} {l : Launch} {e : Env} {s : State} {m : MethodId} {args : Array Value} {below : List Frame} {meth : Method} {c : Code} {s0 : State} {b0 : Nat} {D : va_G} {cB cI cJ cZ cS cP : ClassId} {A : Nat → Prop} {sk sv : Nat → Nat} {d : Nat} {ad : Nat → Nat} (C0 : XCx p s s0 b0 m args meth c R_Cm b_Cm_receive 8 none D cB cI cJ cZ cS cP A) (hE : ENV s0 b0 sk sv) (N : Nat) (S : SG_Cm_fun) (hSg : HS_Cm_fun l s0 b0 D cB cI cJ cZ cS cP d S) (G : Unit) (hG : True) : ∀ (u : CS) (v0 : Nat) (v1 : Int32) (v2 : Int32) (v3 : Int32) (v4 : Int32) (t0 : Option Nat) (t1 : Int32) (x : CS × Unit), fb_Cm_receive_71 N S G u v0 v1 v2 v3 v4 t0 t1 = some x → ∀ (H : Heap) (locs : List Loc), va_P D cls (wC cB cI cJ cZ cS cP ad u) H → va_D A (wC cB cI cJ cZ cS cP ad u) → va_S A s.heap H locs → ∀ (ls : Array Slot), lv_has ls 8 [(0, .ref (ad v0)), (1, .int v1), (2, .int v2), (3, .int v3), (4, .int v4)] → W p l e (rg_Cm_fun (d + 1)) s m args below meth c H locs 0 0 (MQ below (xQ0 D cB cI cJ cZ cS cP A ad x.1 none) args s 0 0 A) (F0 m 71 ls [.int t1, va_rf (Option.map ad t0)]) := by
  intro u v0 v1 v2 v3 v4 t0 t1 x hf H locs hP hD hS ls hl
  obtain ⟨hx, hb, hr, hml, ht, hown, hK, hA, hlocks, hA0, hO, hbs⟩ := id C0
  unfold fb_Cm_receive_71 at hf
  obtain ⟨j5, ej5, hf⟩ := bo_some hf
  rw [ej5]
  obtain ⟨hO9, hf⟩ := ck_some hf
  obtain ⟨u4, r4, hc4, hf⟩ := bx_some hf
  refine xV0 (i := j5) (As := [.int t1]) (rest := []) C0 hP hD hS ck_Co hO9 (c_Co_put N hc4) k_Co_put (wd_of 1149 (by decide +kernel) rfl) hi_Co_put hs_Co_put hini_Co rfl rfl hd_Co_put rfl rm_Cm_receive_Co_put hl.1 (Nat.le_of_ble_eq_true rfl) d_Cm_receive_71 rfl ⟨Nat.zero_le _, Nat.zero_le _⟩ (fun H locs hP hD hS => ?_)
  refine lv_aload_n hx hb d_Cm_receive_74 rfl (lv_at hl 0 rfl) ?_
  obtain ⟨r6, g6, hf⟩ := bo_some hf
  refine xg_R (i := v0) (k := 2) hx hb ht hown ck_Cm hK hP (by decide) fk_Cm_43 g6 d_Cm_receive_75 ?_
  obtain ⟨j7, ej7, hf⟩ := bo_some hf
  rw [ej7]
  obtain ⟨r8, g8, hf⟩ := bo_some hf
  refine xg_I (i := j7) (k := 1) hx hb ht hown ck_Co hK hP (by decide) fk_Cm_122 g8 d_Cm_receive_78 ?_
  refine lv_istore (lv' := [(5, .int r8), (0, .ref (ad v0)), (1, .int v1), (2, .int v2), (3, .int v3), (4, .int v4)]) hx hb d_Cm_receive_81 hl (by decide) (by first | rfl | simp [List.filter, cat_rf]) (fun ls hl => ?_)
  refine lv_aload_n hx hb d_Cm_receive_83 rfl (lv_at hl 1 rfl) ?_
  obtain ⟨r9, g9, hf⟩ := bo_some hf
  refine xg_R (i := v0) (k := 2) hx hb ht hown ck_Cm hK hP (by decide) fk_Cm_43 g9 d_Cm_receive_84 ?_
  refine lv_bipush (v := 32) hx hb d_Cm_receive_87 (by decide) ?_
  obtain ⟨j11, ej11, hf⟩ := bo_some hf
  rw [ej11]
  obtain ⟨hO9, hf⟩ := ck_some hf
  obtain ⟨u10, r10, hc10, hf⟩ := bx_some hf
  refine xV0 (i := j11) (As := [.int 32]) (rest := []) C0 hP hD hS ck_Co hO9 (c_Co_put N hc10) k_Co_put (wd_of 1149 (by decide +kernel) rfl) hi_Co_put hs_Co_put hini_Co rfl rfl hd_Co_put rfl rm_Cm_receive_Co_put hl.1 (Nat.le_of_ble_eq_true rfl) d_Cm_receive_89 rfl ⟨Nat.zero_le _, Nat.zero_le _⟩ (fun H locs hP hD hS => ?_)
  refine lv_aload_n hx hb d_Cm_receive_92 rfl (lv_at hl 1 rfl) ?_
  obtain ⟨r12, g12, hf⟩ := bo_some hf
  refine xg_R (i := v0) (k := 2) hx hb ht hown ck_Cm hK hP (by decide) fk_Cm_43 g12 d_Cm_receive_93 ?_
  refine lv_iconst (v := 0) hx hb d_Cm_receive_96 (by decide) ?_
  obtain ⟨j14, ej14, hf⟩ := bo_some hf
  rw [ej14]
  obtain ⟨hO9, hf⟩ := ck_some hf
  obtain ⟨u13, r13, hc13, hf⟩ := bx_some hf
  refine xV0 (i := j14) (As := [.int 0]) (rest := []) C0 hP hD hS ck_Co hO9 (c_Co_hook N hc13) k_Co_hook (wd_of 1153 (by decide +kernel) rfl) hi_Co_hook hs_Co_hook hini_Co rfl rfl hd_Co_hook rfl rm_Cm_receive_Co_hook hl.1 (Nat.le_of_ble_eq_true rfl) d_Cm_receive_97 rfl ⟨Nat.zero_le _, Nat.zero_le _⟩ (fun H locs hP hD hS => ?_)
  refine lv_istore (lv' := [(6, .int r13), (5, .int r8), (0, .ref (ad v0)), (1, .int v1), (2, .int v2), (3, .int v3), (4, .int v4)]) hx hb d_Cm_receive_100 hl (by decide) (by first | rfl | simp [List.filter, cat_rf]) (fun ls hl => ?_)
  refine lv_aload_n hx hb d_Cm_receive_102 rfl (lv_at hl 2 rfl) ?_
  refine lv_aload_n hx hb d_Cm_receive_103 rfl (lv_at hl 2 rfl) ?_
  obtain ⟨r15, g15, hf⟩ := bo_some hf
  refine xg_R (i := v0) (k := 1) hx hb ht hown ck_Cm hK hP (by decide) fk_Cm_39 g15 d_Cm_receive_104 ?_
  obtain ⟨j16, ej16, hf⟩ := bo_some hf
  rw [ej16]
  obtain ⟨r17, g17, hf⟩ := bo_some hf
  refine xg_R (i := j16) (k := 3) hx hb ht hown ck_Tr hK hP (by decide) fk_Cm_171 g17 d_Cm_receive_107 ?_
  refine lv_iload_n hx hb d_Cm_receive_110 rfl (lv_at hl 3 rfl) ?_
  obtain ⟨j18, ej18, hf⟩ := bo_some hf
  rw [ej18]
  obtain ⟨r19, g19, hf⟩ := bo_some hf
  refine xl_I (i := j18) hx hb hK hP g19 d_Cm_receive_111 ?_
  refine lv_bipush (v := (-2)) hx hb d_Cm_receive_112 (by decide) ?_
  refine lv_bipush (v := 33) hx hb d_Cm_receive_114 (by decide) ?_
  refine lv_iload_n hx hb d_Cm_receive_116 rfl (lv_at hl 4 rfl) ?_
  obtain ⟨hO9, hf⟩ := ck_some hf
  obtain ⟨u20, r20, hc20, hf⟩ := bx_some hf
  refine xV0 (i := v0) (As := [.int r19, .int (-2), .int 33, .int v2]) (rest := []) C0 hP hD hS ck_Cm hO9 (hSg.2.2.1 _ _ _ _ _ _ _ _ _ hc20) k_Cm_parts (wd_of 1246 (by decide +kernel) rfl) hi_Cm_parts hs_Cm_parts hini_Cm rfl rfl hd_Cm_parts rfl rm_Cm_receive_Cm_parts hl.1 (Nat.le_of_ble_eq_true rfl) d_Cm_receive_117 rfl ⟨Nat.zero_le _, Nat.zero_le _⟩ (fun H locs hP hD hS => ?_)
  refine lv_istore (lv' := [(7, .int r20), (6, .int r13), (5, .int r8), (0, .ref (ad v0)), (1, .int v1), (2, .int v2), (3, .int v3), (4, .int v4)]) hx hb d_Cm_receive_120 hl (by decide) (by first | rfl | simp [List.filter, cat_rf]) (fun ls hl => ?_)
  refine lv_aload_n hx hb d_Cm_receive_122 rfl (lv_at hl 3 rfl) ?_
  obtain ⟨r21, g21, hf⟩ := bo_some hf
  refine xg_R (i := v0) (k := 2) hx hb ht hown ck_Cm hK hP (by decide) fk_Cm_43 g21 d_Cm_receive_123 ?_
  refine lv_bipush (v := 34) hx hb d_Cm_receive_126 (by decide) ?_
  obtain ⟨j23, ej23, hf⟩ := bo_some hf
  rw [ej23]
  obtain ⟨hO9, hf⟩ := ck_some hf
  obtain ⟨u22, r22, hc22, hf⟩ := bx_some hf
  refine xV0 (i := j23) (As := [.int 34]) (rest := []) C0 hP hD hS ck_Co hO9 (c_Co_put N hc22) k_Co_put (wd_of 1149 (by decide +kernel) rfl) hi_Co_put hs_Co_put hini_Co rfl rfl hd_Co_put rfl rm_Cm_receive_Co_put hl.1 (Nat.le_of_ble_eq_true rfl) d_Cm_receive_128 rfl ⟨Nat.zero_le _, Nat.zero_le _⟩ (fun H locs hP hD hS => ?_)
  refine lv_aload_n hx hb d_Cm_receive_131 rfl (lv_at hl 3 rfl) ?_
  obtain ⟨r24, g24, hf⟩ := bo_some hf
  refine xg_R (i := v0) (k := 2) hx hb ht hown ck_Cm hK hP (by decide) fk_Cm_43 g24 d_Cm_receive_132 ?_
  refine lv_iload hx hb d_Cm_receive_135 (lv_at hl 2 rfl) ?_
  obtain ⟨j26, ej26, hf⟩ := bo_some hf
  rw [ej26]
  obtain ⟨hO9, hf⟩ := ck_some hf
  obtain ⟨u25, r25, hc25, hf⟩ := bx_some hf
  refine xV0 (i := j26) (As := [.int r8]) (rest := []) C0 hP hD hS ck_Co hO9 (c_Co_put N hc25) k_Co_put (wd_of 1149 (by decide +kernel) rfl) hi_Co_put hs_Co_put hini_Co rfl rfl hd_Co_put rfl rm_Cm_receive_Co_put hl.1 (Nat.le_of_ble_eq_true rfl) d_Cm_receive_137 rfl ⟨Nat.zero_le _, Nat.zero_le _⟩ (fun H locs hP hD hS => ?_)
  refine lv_aload_n hx hb d_Cm_receive_140 rfl (lv_at hl 3 rfl) ?_
  obtain ⟨r27, g27, hf⟩ := bo_some hf
  refine xg_R (i := v0) (k := 2) hx hb ht hown ck_Cm hK hP (by decide) fk_Cm_43 g27 d_Cm_receive_141 ?_
  refine lv_iload hx hb d_Cm_receive_144 (lv_at hl 1 rfl) ?_
  obtain ⟨j29, ej29, hf⟩ := bo_some hf
  rw [ej29]
  obtain ⟨hO9, hf⟩ := ck_some hf
  obtain ⟨u28, r28, hc28, hf⟩ := bx_some hf
  refine xV0 (i := j29) (As := [.int r13]) (rest := []) C0 hP hD hS ck_Co hO9 (c_Co_arrive N hc28) k_Co_arrive (wd_of 1214 (by decide +kernel) rfl) hi_Co_arrive hs_Co_arrive hini_Co rfl rfl hd_Co_arrive rfl rm_Cm_receive_Co_arrive hl.1 (Nat.le_of_ble_eq_true rfl) d_Cm_receive_146 rfl ⟨Nat.zero_le _, Nat.zero_le _⟩ (fun H locs hP hD hS => ?_)
  refine lv_iload hx hb d_Cm_receive_149 (lv_at hl 7 rfl) ?_
  refine lv_if_eq (tgt := 173) hx hb d_Cm_receive_151 (by decide) (fun hc => ?_) (fun hc => ?_)
  · rw [br_p _ hc] at hf
    exact wb_Cm_receive_173 C0 hE N S hSg G hG _ _ _ _ hf H locs hP hD hS ls (lv_sub hl [3, 0] rfl)
  · rw [br_n _ hc] at hf
    refine lv_aload_n hx hb d_Cm_receive_154 rfl (lv_at hl 3 rfl) ?_
    refine lv_aload_n hx hb d_Cm_receive_155 rfl (lv_at hl 3 rfl) ?_
    obtain ⟨r30, g30, hf⟩ := bo_some hf
    refine xg_R (i := v0) (k := 1) hx hb ht hown ck_Cm hK hP (by decide) fk_Cm_39 g30 d_Cm_receive_156 ?_
    obtain ⟨j31, ej31, hf⟩ := bo_some hf
    rw [ej31]
    obtain ⟨r32, g32, hf⟩ := bo_some hf
    refine xg_R (i := j31) (k := 4) hx hb ht hown ck_Tr hK hP (by decide) fk_Cm_155 g32 d_Cm_receive_159 ?_
    refine lv_iload_n hx hb d_Cm_receive_162 rfl (lv_at hl 4 rfl) ?_
    obtain ⟨j33, ej33, hf⟩ := bo_some hf
    rw [ej33]
    obtain ⟨r34, g34, hf⟩ := bo_some hf
    refine xl_I (i := j33) hx hb hK hP g34 d_Cm_receive_163 ?_
    refine lv_iload_n hx hb d_Cm_receive_164 rfl (lv_at hl 5 rfl) ?_
    obtain ⟨hO9, hf⟩ := ck_some hf
    obtain ⟨u35, r35, hc35, hf⟩ := bx_some hf
    refine xV0 (i := v0) (As := [.int r34, .int v2]) (rest := []) C0 hP hD hS ck_Cm hO9 (hSg.2.2.2.1 _ _ _ _ _ _ _ hc35) k_Cm_body (wd_of 1242 (by decide +kernel) rfl) hi_Cm_body hs_Cm_body hini_Cm rfl rfl hd_Cm_body rfl rm_Cm_receive_Cm_body hl.1 (Nat.le_of_ble_eq_true rfl) d_Cm_receive_165 rfl ⟨Nat.zero_le _, Nat.zero_le _⟩ (fun H locs hP hD hS => ?_)
    refine lv_aload_n hx hb d_Cm_receive_168 rfl (lv_at hl 3 rfl) ?_
    refine lv_iload_n hx hb d_Cm_receive_169 rfl (lv_at hl 6 rfl) ?_
    obtain ⟨hO9, hf⟩ := ck_some hf
    obtain ⟨u36, r36, hc36, hf⟩ := bx_some hf
    refine xV0 (i := v0) (As := [.int v3]) (rest := []) C0 hP hD hS ck_Cm hO9 (c_Cm_forget N hc36) k_Cm_forget (wd_of 1210 (by decide +kernel) rfl) hi_Cm_forget hs_Cm_forget hini_Cm rfl rfl hd_Cm_forget rfl rm_Cm_receive_Cm_forget hl.1 (Nat.le_of_ble_eq_true rfl) d_Cm_receive_170 rfl ⟨Nat.zero_le _, Nat.zero_le _⟩ (fun H locs hP hD hS => ?_)
    exact wb_Cm_receive_173 C0 hE N S hSg G hG _ _ _ _ hf H locs hP hD hS ls (lv_sub hl [3, 0] rfl)
def fb_Cm_receive_48 (N : Nat) (S : SG_Cm_fun) (G : Unit) (u : CS) (v0 : Nat) (v1 : Int32) (v2 : Int32) (v3 : Int32) (v4 : Int32) : Option (CS × Unit) := bo (gR u v0 3 2) (fun r37 => bo r37 (fun j39 => ck (isO u j39 2) (bx (fm_Co_put N u j39 31) (fun u38 r38 => bo (gR u38 v0 3 2) (fun r40 => br (decide (v4 = 0)) (fb_Cm_receive_71 N S G u38 (v0) (v1) (v2) (v3) (v4) (r40) (0)) (fb_Cm_receive_71 N S G u38 (v0) (v1) (v2) (v3) (v4) (r40) (1)))))))
set_option maxRecDepth 100000 in
set_option maxHeartbeats 4000000 in
theorem wb_Cm_receive_48 {p : Program} {l : Launch} {e : Env} {s : State} {m : MethodId} {args : Array Value} {below : List Frame} {meth : Method} {c : Code} {s0 : State} {b0 : Nat} {D : va_G} {cB cI cJ cZ cS cP : ClassId} {A : Nat → Prop} {sk sv : Nat → Nat} {d : Nat} {ad : Nat → Nat} (C0 : XCx p s s0 b0 m args meth c R_Cm b_Cm_receive 8 none D cB cI cJ cZ cS cP A) (hE : ENV s0 b0 sk sv) (N : Nat) (S : SG_Cm_fun) (hSg : HS_Cm_fun l s0 b0 D cB cI cJ cZ cS cP d S) (G : Unit) (hG : True) : ∀ (u : CS) (v0 : Nat) (v1 : Int32) (v2 : Int32) (v3 : Int32) (v4 : Int32) (x : CS × Unit), fb_Cm_receive_48 N S G u v0 v1 v2 v3 v4 = some x → ∀ (H : Heap) (locs : List Loc), va_P D cls (wC cB cI cJ cZ cS cP ad u) H → va_D A (wC cB cI cJ cZ cS cP ad u) → va_S A s.heap H locs → ∀ (ls : Array Slot), lv_has ls 8 [(0, .ref (ad v0)), (1, .int v1), (2, .int v2), (3, .int v3), (4, .int v4)] → W p l e (rg_Cm_fun (d + 1)) s m args below meth c H locs 0 0 (MQ below (xQ0 D cB cI cJ cZ cS cP A ad x.1 none) args s 0 0 A) (F0 m 48 ls []) := by
  intro u v0 v1 v2 v3 v4 x hf H locs hP hD hS ls hl
  obtain ⟨hx, hb, hr, hml, ht, hown, hK, hA, hlocks, hA0, hO, hbs⟩ := id C0
  unfold fb_Cm_receive_48 at hf
  refine lv_aload_n hx hb d_Cm_receive_48 rfl (lv_at hl 0 rfl) ?_
  obtain ⟨r37, g37, hf⟩ := bo_some hf
  refine xg_R (i := v0) (k := 2) hx hb ht hown ck_Cm hK hP (by decide) fk_Cm_43 g37 d_Cm_receive_49 ?_
  refine lv_bipush (v := 31) hx hb d_Cm_receive_52 (by decide) ?_
  obtain ⟨j39, ej39, hf⟩ := bo_some hf
  rw [ej39]
  obtain ⟨hO9, hf⟩ := ck_some hf
  obtain ⟨u38, r38, hc38, hf⟩ := bx_some hf
  refine xV0 (i := j39) (As := [.int 31]) (rest := []) C0 hP hD hS ck_Co hO9 (c_Co_put N hc38) k_Co_put (wd_of 1149 (by decide +kernel) rfl) hi_Co_put hs_Co_put hini_Co rfl rfl hd_Co_put rfl rm_Cm_receive_Co_put hl.1 (Nat.le_of_ble_eq_true rfl) d_Cm_receive_54 rfl ⟨Nat.zero_le _, Nat.zero_le _⟩ (fun H locs hP hD hS => ?_)
  refine lv_aload_n hx hb d_Cm_receive_57 rfl (lv_at hl 0 rfl) ?_
  obtain ⟨r40, g40, hf⟩ := bo_some hf
  refine xg_R (i := v0) (k := 2) hx hb ht hown ck_Cm hK hP (by decide) fk_Cm_43 g40 d_Cm_receive_58 ?_
  refine lv_iload hx hb d_Cm_receive_61 (lv_at hl 4 rfl) ?_
  refine lv_if_eq (tgt := 70) hx hb d_Cm_receive_63 (by decide) (fun hc => ?_) (fun hc => ?_)
  · rw [br_p _ hc] at hf
    refine lv_iconst (v := 0) hx hb d_Cm_receive_70 (by decide) ?_
    exact wb_Cm_receive_71 C0 hE N S hSg G hG _ _ _ _ _ _ _ _ _ hf H locs hP hD hS ls (lv_sub hl [0, 1, 2, 3, 4] rfl)
  · rw [br_n _ hc] at hf
    refine lv_iconst (v := 1) hx hb d_Cm_receive_66 (by decide) ?_
    refine lv_goto (tgt := 71) hx hb d_Cm_receive_67 (by decide) ?_
    exact wb_Cm_receive_71 C0 hE N S hSg G hG _ _ _ _ _ _ _ _ _ hf H locs hP hD hS ls (lv_sub hl [0, 1, 2, 3, 4] rfl)
def fb_Cm_receive_22 (N : Nat) (S : SG_Cm_fun) (G : Unit) (u : CS) (v0 : Nat) (v1 : Int32) (v2 : Int32) (v3 : Int32) (t0 : Int32) : Option (CS × Unit) := br (decide (t0 = 0)) (fb_Cm_receive_48 N S G u (v0) (v1) (v2) (v3) (t0)) (bo (gR u v0 3 1) (fun r41 => bo r41 (fun j42 => bo (gR u j42 10 2) (fun r43 => bo r43 (fun j44 => bo (aI u j44 4 v1) (fun r45 => ck (isO u v0 3) (bx (S.2.2.2.2.2.2.2.2.2.2.1 u v0 r45 0) (fun u46 r46 => ck (isO u46 v0 3) (bx (fm_Cm_forget N u46 v0 v3) (fun u47 r47 => fb_Cm_receive_48 N S G u47 (v0) (v1) (v2) (v3) (t0)))))))))))
set_option maxRecDepth 100000 in
set_option maxHeartbeats 4000000 in
theorem wb_Cm_receive_22 {p : Program} {l : Launch} {e : Env} {s : State} {m : MethodId} {args : Array Value} {below : List Frame} {meth : Method} {c : Code} {s0 : State} {b0 : Nat} {D : va_G} {cB cI cJ cZ cS cP : ClassId} {A : Nat → Prop} {sk sv : Nat → Nat} {d : Nat} {ad : Nat → Nat} (C0 : XCx p s s0 b0 m args meth c R_Cm b_Cm_receive 8 none D cB cI cJ cZ cS cP A) (hE : ENV s0 b0 sk sv) (N : Nat) (S : SG_Cm_fun) (hSg : HS_Cm_fun l s0 b0 D cB cI cJ cZ cS cP d S) (G : Unit) (hG : True) : ∀ (u : CS) (v0 : Nat) (v1 : Int32) (v2 : Int32) (v3 : Int32) (t0 : Int32) (x : CS × Unit), fb_Cm_receive_22 N S G u v0 v1 v2 v3 t0 = some x → ∀ (H : Heap) (locs : List Loc), va_P D cls (wC cB cI cJ cZ cS cP ad u) H → va_D A (wC cB cI cJ cZ cS cP ad u) → va_S A s.heap H locs → ∀ (ls : Array Slot), lv_has ls 8 [(0, .ref (ad v0)), (1, .int v1), (2, .int v2), (3, .int v3)] → W p l e (rg_Cm_fun (d + 1)) s m args below meth c H locs 0 0 (MQ below (xQ0 D cB cI cJ cZ cS cP A ad x.1 none) args s 0 0 A) (F0 m 22 ls [.int t0]) := by
  intro u v0 v1 v2 v3 t0 x hf H locs hP hD hS ls hl
  obtain ⟨hx, hb, hr, hml, ht, hown, hK, hA, hlocks, hA0, hO, hbs⟩ := id C0
  unfold fb_Cm_receive_22 at hf
  refine lv_istore (lv' := [(4, .int t0), (0, .ref (ad v0)), (1, .int v1), (2, .int v2), (3, .int v3)]) hx hb d_Cm_receive_22 hl (by decide) (by first | rfl | simp [List.filter, cat_rf]) (fun ls hl => ?_)
  refine lv_iload hx hb d_Cm_receive_24 (lv_at hl 0 rfl) ?_
  refine lv_if_eq (tgt := 48) hx hb d_Cm_receive_26 (by decide) (fun hc => ?_) (fun hc => ?_)
  · rw [br_p _ hc] at hf
    exact wb_Cm_receive_48 C0 hE N S hSg G hG _ _ _ _ _ _ _ hf H locs hP hD hS ls (lv_sub hl [1, 2, 3, 4, 0] rfl)
  · rw [br_n _ hc] at hf
    refine lv_aload_n hx hb d_Cm_receive_29 rfl (lv_at hl 1 rfl) ?_
    refine lv_aload_n hx hb d_Cm_receive_30 rfl (lv_at hl 1 rfl) ?_
    obtain ⟨r41, g41, hf⟩ := bo_some hf
    refine xg_R (i := v0) (k := 1) hx hb ht hown ck_Cm hK hP (by decide) fk_Cm_39 g41 d_Cm_receive_31 ?_
    obtain ⟨j42, ej42, hf⟩ := bo_some hf
    rw [ej42]
    obtain ⟨r43, g43, hf⟩ := bo_some hf
    refine xg_R (i := j42) (k := 2) hx hb ht hown ck_Tr hK hP (by decide) fk_Cm_125 g43 d_Cm_receive_34 ?_
    refine lv_iload_n hx hb d_Cm_receive_37 rfl (lv_at hl 2 rfl) ?_
    obtain ⟨j44, ej44, hf⟩ := bo_some hf
    rw [ej44]
    obtain ⟨r45, g45, hf⟩ := bo_some hf
    refine xl_I (i := j44) hx hb hK hP g45 d_Cm_receive_38 ?_
    refine lv_iconst (v := 0) hx hb d_Cm_receive_39 (by decide) ?_
    obtain ⟨hO9, hf⟩ := ck_some hf
    obtain ⟨u46, r46, hc46, hf⟩ := bx_some hf
    refine xV0 (i := v0) (As := [.int r45, .int 0]) (rest := []) C0 hP hD hS ck_Cm hO9 (hSg.2.2.2.2.2.2.2.2.2.2.1 _ _ _ _ _ _ _ hc46) k_Cm_expression (wd_of 1190 (by decide +kernel) rfl) hi_Cm_expression hs_Cm_expression hini_Cm rfl rfl hd_Cm_expression rfl rm_Cm_receive_Cm_expression hl.1 (Nat.le_of_ble_eq_true rfl) d_Cm_receive_40 rfl ⟨Nat.zero_le _, Nat.zero_le _⟩ (fun H locs hP hD hS => ?_)
    refine lv_aload_n hx hb d_Cm_receive_43 rfl (lv_at hl 1 rfl) ?_
    refine lv_iload_n hx hb d_Cm_receive_44 rfl (lv_at hl 4 rfl) ?_
    obtain ⟨hO9, hf⟩ := ck_some hf
    obtain ⟨u47, r47, hc47, hf⟩ := bx_some hf
    refine xV0 (i := v0) (As := [.int v3]) (rest := []) C0 hP hD hS ck_Cm hO9 (c_Cm_forget N hc47) k_Cm_forget (wd_of 1210 (by decide +kernel) rfl) hi_Cm_forget hs_Cm_forget hini_Cm rfl rfl hd_Cm_forget rfl rm_Cm_receive_Cm_forget hl.1 (Nat.le_of_ble_eq_true rfl) d_Cm_receive_45 rfl ⟨Nat.zero_le _, Nat.zero_le _⟩ (fun H locs hP hD hS => ?_)
    exact wb_Cm_receive_48 C0 hE N S hSg G hG _ _ _ _ _ _ _ hf H locs hP hD hS ls (lv_sub hl [1, 2, 3, 4, 0] rfl)
def fb_Cm_receive_0 (N : Nat) (S : SG_Cm_fun) (G : Unit) (u : CS) (v0 : Nat) (v1 : Int32) (v2 : Int32) : Option (CS × Unit) := bo (gI u v0 3 6) (fun r48 => bo (gR u v0 3 1) (fun r49 => bo r49 (fun j50 => bo (gR u j50 10 2) (fun r51 => bo r51 (fun j52 => bo (aI u j52 4 v1) (fun r53 => br (decide (r53 = 0)) (fb_Cm_receive_22 N S G u (v0) (v1) (v2) (r48) (0)) (fb_Cm_receive_22 N S G u (v0) (v1) (v2) (r48) (1))))))))
set_option maxRecDepth 100000 in
set_option maxHeartbeats 4000000 in
theorem wb_Cm_receive_0 {p : Program} {l : Launch} {e : Env} {s : State} {m : MethodId} {args : Array Value} {below : List Frame} {meth : Method} {c : Code} {s0 : State} {b0 : Nat} {D : va_G} {cB cI cJ cZ cS cP : ClassId} {A : Nat → Prop} {sk sv : Nat → Nat} {d : Nat} {ad : Nat → Nat} (C0 : XCx p s s0 b0 m args meth c R_Cm b_Cm_receive 8 none D cB cI cJ cZ cS cP A) (hE : ENV s0 b0 sk sv) (N : Nat) (S : SG_Cm_fun) (hSg : HS_Cm_fun l s0 b0 D cB cI cJ cZ cS cP d S) (G : Unit) (hG : True) : ∀ (u : CS) (v0 : Nat) (v1 : Int32) (v2 : Int32) (x : CS × Unit), fb_Cm_receive_0 N S G u v0 v1 v2 = some x → ∀ (H : Heap) (locs : List Loc), va_P D cls (wC cB cI cJ cZ cS cP ad u) H → va_D A (wC cB cI cJ cZ cS cP ad u) → va_S A s.heap H locs → ∀ (ls : Array Slot), lv_has ls 8 [(0, .ref (ad v0)), (1, .int v1), (2, .int v2)] → W p l e (rg_Cm_fun (d + 1)) s m args below meth c H locs 0 0 (MQ below (xQ0 D cB cI cJ cZ cS cP A ad x.1 none) args s 0 0 A) (F0 m 0 ls []) := by
  intro u v0 v1 v2 x hf H locs hP hD hS ls hl
  obtain ⟨hx, hb, hr, hml, ht, hown, hK, hA, hlocks, hA0, hO, hbs⟩ := id C0
  unfold fb_Cm_receive_0 at hf
  refine lv_aload_n hx hb d_Cm_receive_0 rfl (lv_at hl 0 rfl) ?_
  obtain ⟨r48, g48, hf⟩ := bo_some hf
  refine xg_I (i := v0) (k := 6) hx hb ht hown ck_Cm hK hP (by decide) fk_Cm_116 g48 d_Cm_receive_1 ?_
  refine lv_istore_n (lv' := [(3, .int r48), (0, .ref (ad v0)), (1, .int v1), (2, .int v2)]) hx hb d_Cm_receive_4 rfl hl (by decide) (by first | rfl | simp [List.filter, cat_rf]) (fun ls hl => ?_)
  refine lv_aload_n hx hb d_Cm_receive_5 rfl (lv_at hl 1 rfl) ?_
  obtain ⟨r49, g49, hf⟩ := bo_some hf
  refine xg_R (i := v0) (k := 1) hx hb ht hown ck_Cm hK hP (by decide) fk_Cm_39 g49 d_Cm_receive_6 ?_
  obtain ⟨j50, ej50, hf⟩ := bo_some hf
  rw [ej50]
  obtain ⟨r51, g51, hf⟩ := bo_some hf
  refine xg_R (i := j50) (k := 2) hx hb ht hown ck_Tr hK hP (by decide) fk_Cm_125 g51 d_Cm_receive_9 ?_
  refine lv_iload_n hx hb d_Cm_receive_12 rfl (lv_at hl 2 rfl) ?_
  obtain ⟨j52, ej52, hf⟩ := bo_some hf
  rw [ej52]
  obtain ⟨r53, g53, hf⟩ := bo_some hf
  refine xl_I (i := j52) hx hb hK hP g53 d_Cm_receive_13 ?_
  refine lv_if_eq (tgt := 21) hx hb d_Cm_receive_14 (by decide) (fun hc => ?_) (fun hc => ?_)
  · rw [br_p _ hc] at hf
    refine lv_iconst (v := 0) hx hb d_Cm_receive_21 (by decide) ?_
    exact wb_Cm_receive_22 C0 hE N S hSg G hG _ _ _ _ _ _ _ hf H locs hP hD hS ls (lv_sub hl [1, 2, 3, 0] rfl)
  · rw [br_n _ hc] at hf
    refine lv_iconst (v := 1) hx hb d_Cm_receive_17 (by decide) ?_
    refine lv_goto (tgt := 22) hx hb d_Cm_receive_18 (by decide) ?_
    exact wb_Cm_receive_22 C0 hE N S hSg G hG _ _ _ _ _ _ _ hf H locs hP hD hS ls (lv_sub hl [1, 2, 3, 0] rfl)
def fm_Cm_receive (N : Nat) (S : SG_Cm_fun) (u : CS) (v0 : Nat) (v1 : Int32) (v2 : Int32) : Option (CS × Unit) := fb_Cm_receive_0 N S () u v0 v1 v2
set_option maxRecDepth 100000 in
set_option maxHeartbeats 4000000 in
theorem cs_Cm_receive (N : Nat) {d : Nat} {l : Launch} {s0 : State} {b0 : Nat} {D : va_G} {cB cI cJ cZ cS cP : ClassId} {sk sv : Nat → Nat} {ad : Nat → Nat} {u : CS} {sz : Nat} {v0 : Nat} {v1 : Int32} {v2 : Int32} {x : CS × Unit} (hE : ENV s0 b0 sk sv) (S : SG_Cm_fun) (hSg : HS_Cm_fun l s0 b0 D cB cI cJ cZ cS cP d S) (hf : fm_Cm_receive N S u v0 v1 v2 = some x) : Met l y_Cm_receive (wd_ws y_Cm_receive b_Cm_receive 8 none) (rg_Cm_fun (d + 1)) (xPc s0 b0 D cB cI cJ cZ cS cP ad u sz [.ref (ad v0), .int v1, .int v2]) (xQ0 D cB cI cJ cZ cS cP (xA cB cI cJ cZ cS cP ad u sz) ad x.1 none) 0 0 (xA cB cI cJ cZ cS cP ad u sz) :=
  xMet (by decide) rfl (Nat.le_of_ble_eq_true rfl) (fun p e s m below meth c ls hsz hnm C0 hP hD hS hl =>
    wb_Cm_receive_0 C0 hE N S hSg () trivial u _ _ _ x hf s.heap [] hP hD hS ls (lv_sub hl [0, 1, 2] rfl))
theorem rm_Cm_parts_Co_put {d : Nat} : (rm_Co_put).frames + 1 ≤ (rg_Cm_fun (d + 1)).frames ∧ 8 + (2 + 11) + (rm_Co_put).locals ≤ (rg_Cm_fun (d + 1)).locals := by
  show 0 + 1 ≤ 304 + (d + 1) ∧ 8 + (2 + 11) + 0 ≤ 6688 + 28 * (d + 1)
  omega
theorem rm_Cm_parts_Cm_forget {d : Nat} : (rm_Cm_forget).frames + 1 ≤ (rg_Cm_fun (d + 1)).frames ∧ 8 + (2 + 11) + (rm_Cm_forget).locals ≤ (rg_Cm_fun (d + 1)).locals := by
  show 1 + 1 ≤ 304 + (d + 1) ∧ 8 + (2 + 11) + 21 ≤ 6688 + 28 * (d + 1)
  omega
theorem rm_Cm_parts_Co_hook {d : Nat} : (rm_Co_hook).frames + 1 ≤ (rg_Cm_fun (d + 1)).frames ∧ 8 + (2 + 11) + (rm_Co_hook).locals ≤ (rg_Cm_fun (d + 1)).locals := by
  show 1 + 1 ≤ 304 + (d + 1) ∧ 8 + (2 + 11) + 21 ≤ 6688 + 28 * (d + 1)
  omega
theorem rm_Cm_parts_Co_arrive {d : Nat} : (rm_Co_arrive).frames + 1 ≤ (rg_Cm_fun (d + 1)).frames ∧ 8 + (5 + 11) + (rm_Co_arrive).locals ≤ (rg_Cm_fun (d + 1)).locals := by
  show 1 + 1 ≤ 304 + (d + 1) ∧ 8 + (5 + 11) + 22 ≤ 6688 + 28 * (d + 1)
  omega
theorem rm_Cm_parts_Cm_tries {d : Nat} : (rg_Cm_fun d).frames + 1 ≤ (rg_Cm_fun (d + 1)).frames ∧ 8 + (7 + 11) + (rg_Cm_fun d).locals ≤ (rg_Cm_fun (d + 1)).locals := by
  show 304 + d + 1 ≤ 304 + (d + 1) ∧ 8 + (7 + 11) + (6688 + 28 * d) ≤ 6688 + 28 * (d + 1)
  omega
theorem rm_Cm_parts_Cm_body {d : Nat} : (rg_Cm_fun d).frames + 1 ≤ (rg_Cm_fun (d + 1)).frames ∧ 8 + (5 + 11) + (rg_Cm_fun d).locals ≤ (rg_Cm_fun (d + 1)).locals := by
  show 304 + d + 1 ≤ 304 + (d + 1) ∧ 8 + (5 + 11) + (6688 + 28 * d) ≤ 6688 + 28 * (d + 1)
  omega
def fb_Cm_parts_38 (N : Nat) (S : SG_Cm_fun) (G : (CS → Nat → Int32 → Int32 → Int32 → Int32 → Int32 → Option (CS × Int32))) (u : CS) (v0 : Nat) (v2 : Int32) (v3 : Int32) (v4 : Int32) (v5 : Int32) (v6 : Int32) (v7 : Int32) (v8 : Int32) : Option (CS × Int32) := bo (gR u v0 3 1) (fun r1 => bo r1 (fun j2 => bo (gR u j2 10 4) (fun r3 => bo r3 (fun j4 => bo (aI u j4 4 v6) (fun r5 => ck (isO u v0 3) (bx (S.2.2.2.1 u v0 r5 v4) (fun u6 r6 => ck (isO u6 v0 3) (bx (fm_Cm_forget N u6 v0 v7) (fun u7 r7 => bo (gR u7 v0 3 2) (fun r8 => bo r8 (fun j10 => ck (isO u7 j10 2) (bx (fm_Co_put N u7 j10 18) (fun u9 r9 => bo (gR u9 v0 3 2) (fun r11 => bo r11 (fun j13 => ck (isO u9 j13 2) (bx (fm_Co_hook N u9 j13 v5) (fun u12 r12 => bo (gR u12 v0 3 2) (fun r14 => bo r14 (fun j16 => ck (isO u12 j16 2) (bx (fm_Co_arrive N u12 j16 v8) (fun u15 r15 => bo (gR u15 v0 3 1) (fun r17 => bo r17 (fun j18 => bo (gR u15 j18 10 5) (fun r19 => bo r19 (fun j20 => bo (aI u15 j20 4 v6) (fun r21 => G u15 (v0) (v2) (v3) (v4) (r12) (r21)))))))))))))))))))))))))))
set_option maxRecDepth 100000 in
set_option maxHeartbeats 4000000 in
theorem wb_Cm_parts_38 {p : Program} {l : Launch} {e : Env} {s : State} {m : MethodId} {args : Array Value} {below : List Frame} {meth : Method} {c : Code} {s0 : State} {b0 : Nat} {D : va_G} {cB cI cJ cZ cS cP : ClassId} {A : Nat → Prop} {sk sv : Nat → Nat} {d : Nat} {ad : Nat → Nat} (C0 : XCx p s s0 b0 m args meth c R_Cm b_Cm_parts 9 (some .int) D cB cI cJ cZ cS cP A) (hE : ENV s0 b0 sk sv) (N : Nat) (S : SG_Cm_fun) (hSg : HS_Cm_fun l s0 b0 D cB cI cJ cZ cS cP d S) (G : (CS → Nat → Int32 → Int32 → Int32 → Int32 → Int32 → Option (CS × Int32))) (hG : (∀ (u : CS) (v0 : Nat) (v2 : Int32) (v3 : Int32) (v4 : Int32) (v5 : Int32) (v6 : Int32) (x : CS × Int32), G u v0 v2 v3 v4 v5 v6 = some x → ∀ (H : Heap) (locs : List Loc), va_P D cls (wC cB cI cJ cZ cS cP ad u) H → va_D A (wC cB cI cJ cZ cS cP ad u) → va_S A s.heap H locs → ∀ (ls : Array Slot), lv_has ls 9 [(0, .ref (ad v0)), (2, .int v2), (3, .int v3), (4, .int v4), (5, .int v5), (6, .int v6)] → W p l e (rg_Cm_fun (d + 1)) s m args below meth c H locs 0 0 (MQ below (xQ0 D cB cI cJ cZ cS cP A ad x.1 (some (.inl x.2))) args s 0 0 A) (F0 m 6 ls []))) : ∀ (u : CS) (v0 : Nat) (v2 : Int32) (v3 : Int32) (v4 : Int32) (v5 : Int32) (v6 : Int32) (v7 : Int32) (v8 : Int32) (x : CS × Int32), fb_Cm_parts_38 N S G u v0 v2 v3 v4 v5 v6 v7 v8 = some x → ∀ (H : Heap) (locs : List Loc), va_P D cls (wC cB cI cJ cZ cS cP ad u) H → va_D A (wC cB cI cJ cZ cS cP ad u) → va_S A s.heap H locs → ∀ (ls : Array Slot), lv_has ls 9 [(0, .ref (ad v0)), (2, .int v2), (3, .int v3), (4, .int v4), (5, .int v5), (6, .int v6), (7, .int v7), (8, .int v8)] → W p l e (rg_Cm_fun (d + 1)) s m args below meth c H locs 0 0 (MQ below (xQ0 D cB cI cJ cZ cS cP A ad x.1 (some (.inl x.2))) args s 0 0 A) (F0 m 38 ls []) := by
  intro u v0 v2 v3 v4 v5 v6 v7 v8 x hf H locs hP hD hS ls hl
  obtain ⟨hx, hb, hr, hml, ht, hown, hK, hA, hlocks, hA0, hO, hbs⟩ := id C0
  unfold fb_Cm_parts_38 at hf
  refine lv_aload_n hx hb d_Cm_parts_38 rfl (lv_at hl 0 rfl) ?_
  refine lv_aload_n hx hb d_Cm_parts_39 rfl (lv_at hl 0 rfl) ?_
  obtain ⟨r1, g1, hf⟩ := bo_some hf
  refine xg_R (i := v0) (k := 1) hx hb ht hown ck_Cm hK hP (by decide) fk_Cm_39 g1 d_Cm_parts_40 ?_
  obtain ⟨j2, ej2, hf⟩ := bo_some hf
  rw [ej2]
  obtain ⟨r3, g3, hf⟩ := bo_some hf
  refine xg_R (i := j2) (k := 4) hx hb ht hown ck_Tr hK hP (by decide) fk_Cm_155 g3 d_Cm_parts_43 ?_
  refine lv_iload hx hb d_Cm_parts_46 (lv_at hl 5 rfl) ?_
  obtain ⟨j4, ej4, hf⟩ := bo_some hf
  rw [ej4]
  obtain ⟨r5, g5, hf⟩ := bo_some hf
  refine xl_I (i := j4) hx hb hK hP g5 d_Cm_parts_48 ?_
  refine lv_iload hx hb d_Cm_parts_49 (lv_at hl 3 rfl) ?_
  obtain ⟨hO9, hf⟩ := ck_some hf
  obtain ⟨u6, r6, hc6, hf⟩ := bx_some hf
  refine xV0 (i := v0) (As := [.int r5, .int v4]) (rest := []) C0 hP hD hS ck_Cm hO9 (hSg.2.2.2.1 _ _ _ _ _ _ _ hc6) k_Cm_body (wd_of 1242 (by decide +kernel) rfl) hi_Cm_body hs_Cm_body hini_Cm rfl rfl hd_Cm_body rfl rm_Cm_parts_Cm_body hl.1 (Nat.le_of_ble_eq_true rfl) d_Cm_parts_51 rfl ⟨Nat.zero_le _, Nat.zero_le _⟩ (fun H locs hP hD hS => ?_)
  refine lv_aload_n hx hb d_Cm_parts_54 rfl (lv_at hl 0 rfl) ?_
  refine lv_iload hx hb d_Cm_parts_55 (lv_at hl 6 rfl) ?_
  obtain ⟨hO9, hf⟩ := ck_some hf
  obtain ⟨u7, r7, hc7, hf⟩ := bx_some hf
  refine xV0 (i := v0) (As := [.int v7]) (rest := []) C0 hP hD hS ck_Cm hO9 (c_Cm_forget N hc7) k_Cm_forget (wd_of 1210 (by decide +kernel) rfl) hi_Cm_forget hs_Cm_forget hini_Cm rfl rfl hd_Cm_forget rfl rm_Cm_parts_Cm_forget hl.1 (Nat.le_of_ble_eq_true rfl) d_Cm_parts_57 rfl ⟨Nat.zero_le _, Nat.zero_le _⟩ (fun H locs hP hD hS => ?_)
  refine lv_aload_n hx hb d_Cm_parts_60 rfl (lv_at hl 0 rfl) ?_
  obtain ⟨r8, g8, hf⟩ := bo_some hf
  refine xg_R (i := v0) (k := 2) hx hb ht hown ck_Cm hK hP (by decide) fk_Cm_43 g8 d_Cm_parts_61 ?_
  refine lv_bipush (v := 18) hx hb d_Cm_parts_64 (by decide) ?_
  obtain ⟨j10, ej10, hf⟩ := bo_some hf
  rw [ej10]
  obtain ⟨hO9, hf⟩ := ck_some hf
  obtain ⟨u9, r9, hc9, hf⟩ := bx_some hf
  refine xV0 (i := j10) (As := [.int 18]) (rest := []) C0 hP hD hS ck_Co hO9 (c_Co_put N hc9) k_Co_put (wd_of 1149 (by decide +kernel) rfl) hi_Co_put hs_Co_put hini_Co rfl rfl hd_Co_put rfl rm_Cm_parts_Co_put hl.1 (Nat.le_of_ble_eq_true rfl) d_Cm_parts_66 rfl ⟨Nat.zero_le _, Nat.zero_le _⟩ (fun H locs hP hD hS => ?_)
  refine lv_aload_n hx hb d_Cm_parts_69 rfl (lv_at hl 0 rfl) ?_
  obtain ⟨r11, g11, hf⟩ := bo_some hf
  refine xg_R (i := v0) (k := 2) hx hb ht hown ck_Cm hK hP (by decide) fk_Cm_43 g11 d_Cm_parts_70 ?_
  refine lv_iload hx hb d_Cm_parts_73 (lv_at hl 4 rfl) ?_
  obtain ⟨j13, ej13, hf⟩ := bo_some hf
  rw [ej13]
  obtain ⟨hO9, hf⟩ := ck_some hf
  obtain ⟨u12, r12, hc12, hf⟩ := bx_some hf
  refine xV0 (i := j13) (As := [.int v5]) (rest := []) C0 hP hD hS ck_Co hO9 (c_Co_hook N hc12) k_Co_hook (wd_of 1153 (by decide +kernel) rfl) hi_Co_hook hs_Co_hook hini_Co rfl rfl hd_Co_hook rfl rm_Cm_parts_Co_hook hl.1 (Nat.le_of_ble_eq_true rfl) d_Cm_parts_75 rfl ⟨Nat.zero_le _, Nat.zero_le _⟩ (fun H locs hP hD hS => ?_)
  refine lv_istore (lv' := [(5, .int r12), (0, .ref (ad v0)), (2, .int v2), (3, .int v3), (4, .int v4), (6, .int v6), (7, .int v7), (8, .int v8)]) hx hb d_Cm_parts_78 hl (by decide) (by first | rfl | simp [List.filter, cat_rf]) (fun ls hl => ?_)
  refine lv_aload_n hx hb d_Cm_parts_80 rfl (lv_at hl 1 rfl) ?_
  obtain ⟨r14, g14, hf⟩ := bo_some hf
  refine xg_R (i := v0) (k := 2) hx hb ht hown ck_Cm hK hP (by decide) fk_Cm_43 g14 d_Cm_parts_81 ?_
  refine lv_iload hx hb d_Cm_parts_84 (lv_at hl 7 rfl) ?_
  obtain ⟨j16, ej16, hf⟩ := bo_some hf
  rw [ej16]
  obtain ⟨hO9, hf⟩ := ck_some hf
  obtain ⟨u15, r15, hc15, hf⟩ := bx_some hf
  refine xV0 (i := j16) (As := [.int v8]) (rest := []) C0 hP hD hS ck_Co hO9 (c_Co_arrive N hc15) k_Co_arrive (wd_of 1214 (by decide +kernel) rfl) hi_Co_arrive hs_Co_arrive hini_Co rfl rfl hd_Co_arrive rfl rm_Cm_parts_Co_arrive hl.1 (Nat.le_of_ble_eq_true rfl) d_Cm_parts_86 rfl ⟨Nat.zero_le _, Nat.zero_le _⟩ (fun H locs hP hD hS => ?_)
  refine lv_aload_n hx hb d_Cm_parts_89 rfl (lv_at hl 1 rfl) ?_
  obtain ⟨r17, g17, hf⟩ := bo_some hf
  refine xg_R (i := v0) (k := 1) hx hb ht hown ck_Cm hK hP (by decide) fk_Cm_39 g17 d_Cm_parts_90 ?_
  obtain ⟨j18, ej18, hf⟩ := bo_some hf
  rw [ej18]
  obtain ⟨r19, g19, hf⟩ := bo_some hf
  refine xg_R (i := j18) (k := 5) hx hb ht hown ck_Tr hK hP (by decide) fk_Cm_139 g19 d_Cm_parts_93 ?_
  refine lv_iload hx hb d_Cm_parts_96 (lv_at hl 5 rfl) ?_
  obtain ⟨j20, ej20, hf⟩ := bo_some hf
  rw [ej20]
  obtain ⟨r21, g21, hf⟩ := bo_some hf
  refine xl_I (i := j20) hx hb hK hP g21 d_Cm_parts_98 ?_
  refine lv_istore (lv' := [(6, .int r21), (5, .int r12), (0, .ref (ad v0)), (2, .int v2), (3, .int v3), (4, .int v4), (7, .int v7), (8, .int v8)]) hx hb d_Cm_parts_99 hl (by decide) (by first | rfl | simp [List.filter, cat_rf]) (fun ls hl => ?_)
  refine lv_goto (tgt := 6) hx hb d_Cm_parts_101 (by decide) ?_
  exact hG _ _ _ _ _ _ _ _ hf H locs hP hD hS ls (lv_sub hl [2, 3, 4, 5, 1, 0] rfl)
def fb_Cm_parts_6 (N : Nat) (S : SG_Cm_fun) (G : (CS → Nat → Int32 → Int32 → Int32 → Int32 → Int32 → Option (CS × Int32))) (u : CS) (v0 : Nat) (v2 : Int32) (v3 : Int32) (v4 : Int32) (v5 : Int32) (v6 : Int32) : Option (CS × Int32) := br (decide (v6 = 0)) (some (u, v5)) (bo (gI u v0 3 6) (fun r22 => ck (isO u v0 3) (bx (S.2.2.2.2.2.2.2.2.2.2.2.1 u v0 v2 v6) (fun u23 r23 => br (decide (v3 = 0)) (fb_Cm_parts_38 N S G u23 (v0) (v2) (v3) (v4) (v5) (v6) (r22) (r23)) (bo (gR u23 v0 3 2) (fun r24 => bo r24 (fun j26 => ck (isO u23 j26 2) (bx (fm_Co_put N u23 j26 v3) (fun u25 r25 => fb_Cm_parts_38 N S G u25 (v0) (v2) (v3) (v4) (v5) (v6) (r22) (r23))))))))))
set_option maxRecDepth 100000 in
set_option maxHeartbeats 4000000 in
theorem wb_Cm_parts_6 {p : Program} {l : Launch} {e : Env} {s : State} {m : MethodId} {args : Array Value} {below : List Frame} {meth : Method} {c : Code} {s0 : State} {b0 : Nat} {D : va_G} {cB cI cJ cZ cS cP : ClassId} {A : Nat → Prop} {sk sv : Nat → Nat} {d : Nat} {ad : Nat → Nat} (C0 : XCx p s s0 b0 m args meth c R_Cm b_Cm_parts 9 (some .int) D cB cI cJ cZ cS cP A) (hE : ENV s0 b0 sk sv) (N : Nat) (S : SG_Cm_fun) (hSg : HS_Cm_fun l s0 b0 D cB cI cJ cZ cS cP d S) (G : (CS → Nat → Int32 → Int32 → Int32 → Int32 → Int32 → Option (CS × Int32))) (hG : (∀ (u : CS) (v0 : Nat) (v2 : Int32) (v3 : Int32) (v4 : Int32) (v5 : Int32) (v6 : Int32) (x : CS × Int32), G u v0 v2 v3 v4 v5 v6 = some x → ∀ (H : Heap) (locs : List Loc), va_P D cls (wC cB cI cJ cZ cS cP ad u) H → va_D A (wC cB cI cJ cZ cS cP ad u) → va_S A s.heap H locs → ∀ (ls : Array Slot), lv_has ls 9 [(0, .ref (ad v0)), (2, .int v2), (3, .int v3), (4, .int v4), (5, .int v5), (6, .int v6)] → W p l e (rg_Cm_fun (d + 1)) s m args below meth c H locs 0 0 (MQ below (xQ0 D cB cI cJ cZ cS cP A ad x.1 (some (.inl x.2))) args s 0 0 A) (F0 m 6 ls []))) : ∀ (u : CS) (v0 : Nat) (v2 : Int32) (v3 : Int32) (v4 : Int32) (v5 : Int32) (v6 : Int32) (x : CS × Int32), fb_Cm_parts_6 N S G u v0 v2 v3 v4 v5 v6 = some x → ∀ (H : Heap) (locs : List Loc), va_P D cls (wC cB cI cJ cZ cS cP ad u) H → va_D A (wC cB cI cJ cZ cS cP ad u) → va_S A s.heap H locs → ∀ (ls : Array Slot), lv_has ls 9 [(0, .ref (ad v0)), (2, .int v2), (3, .int v3), (4, .int v4), (5, .int v5), (6, .int v6)] → W p l e (rg_Cm_fun (d + 1)) s m args below meth c H locs 0 0 (MQ below (xQ0 D cB cI cJ cZ cS cP A ad x.1 (some (.inl x.2))) args s 0 0 A) (F0 m 6 ls []) := by
  intro u v0 v2 v3 v4 v5 v6 x hf H locs hP hD hS ls hl
  obtain ⟨hx, hb, hr, hml, ht, hown, hK, hA, hlocks, hA0, hO, hbs⟩ := id C0
  unfold fb_Cm_parts_6 at hf
  refine lv_iload hx hb d_Cm_parts_6 (lv_at hl 5 rfl) ?_
  refine lv_if_eq (tgt := 104) hx hb d_Cm_parts_8 (by decide) (fun hc => ?_) (fun hc => ?_)
  · rw [br_p _ hc] at hf
    refine lv_iload hx hb d_Cm_parts_104 (lv_at hl 4 rfl) ?_
    exact xr0_i C0 hP hD hS hf d_Cm_parts_106
  · rw [br_n _ hc] at hf
    refine lv_aload_n hx hb d_Cm_parts_11 rfl (lv_at hl 0 rfl) ?_
    obtain ⟨r22, g22, hf⟩ := bo_some hf
    refine xg_I (i := v0) (k := 6) hx hb ht hown ck_Cm hK hP (by decide) fk_Cm_116 g22 d_Cm_parts_12 ?_
    refine lv_istore (lv' := [(7, .int r22), (0, .ref (ad v0)), (2, .int v2), (3, .int v3), (4, .int v4), (5, .int v5), (6, .int v6)]) hx hb d_Cm_parts_15 hl (by decide) (by first | rfl | simp [List.filter, cat_rf]) (fun ls hl => ?_)
    refine lv_aload_n hx hb d_Cm_parts_17 rfl (lv_at hl 1 rfl) ?_
    refine lv_iload_n hx hb d_Cm_parts_18 rfl (lv_at hl 2 rfl) ?_
    refine lv_iload hx hb d_Cm_parts_19 (lv_at hl 6 rfl) ?_
    obtain ⟨hO9, hf⟩ := ck_some hf
    obtain ⟨u23, r23, hc23, hf⟩ := bx_some hf
    refine xV0 (i := v0) (As := [.int v2, .int v6]) (rest := []) C0 hP hD hS ck_Cm hO9 (hSg.2.2.2.2.2.2.2.2.2.2.2.1 _ _ _ _ _ _ _ hc23) k_Cm_tries (wd_of 1145 (by decide +kernel) rfl) hi_Cm_tries hs_Cm_tries hini_Cm rfl rfl hd_Cm_tries rfl rm_Cm_parts_Cm_tries hl.1 (Nat.le_of_ble_eq_true rfl) d_Cm_parts_21 rfl ⟨Nat.zero_le _, Nat.zero_le _⟩ (fun H locs hP hD hS => ?_)
    refine lv_istore (lv' := [(8, .int r23), (7, .int r22), (0, .ref (ad v0)), (2, .int v2), (3, .int v3), (4, .int v4), (5, .int v5), (6, .int v6)]) hx hb d_Cm_parts_24 hl (by decide) (by first | rfl | simp [List.filter, cat_rf]) (fun ls hl => ?_)
    refine lv_iload_n hx hb d_Cm_parts_26 rfl (lv_at hl 4 rfl) ?_
    refine lv_if_eq (tgt := 38) hx hb d_Cm_parts_27 (by decide) (fun hc => ?_) (fun hc => ?_)
    · rw [br_p _ hc] at hf
      exact wb_Cm_parts_38 C0 hE N S hSg G hG _ _ _ _ _ _ _ _ _ _ hf H locs hP hD hS ls (lv_sub hl [2, 3, 4, 5, 6, 7, 1, 0] rfl)
    · rw [br_n _ hc] at hf
      refine lv_aload_n hx hb d_Cm_parts_30 rfl (lv_at hl 2 rfl) ?_
      obtain ⟨r24, g24, hf⟩ := bo_some hf
      refine xg_R (i := v0) (k := 2) hx hb ht hown ck_Cm hK hP (by decide) fk_Cm_43 g24 d_Cm_parts_31 ?_
      refine lv_iload_n hx hb d_Cm_parts_34 rfl (lv_at hl 4 rfl) ?_
      obtain ⟨j26, ej26, hf⟩ := bo_some hf
      rw [ej26]
      obtain ⟨hO9, hf⟩ := ck_some hf
      obtain ⟨u25, r25, hc25, hf⟩ := bx_some hf
      refine xV0 (i := j26) (As := [.int v3]) (rest := []) C0 hP hD hS ck_Co hO9 (c_Co_put N hc25) k_Co_put (wd_of 1149 (by decide +kernel) rfl) hi_Co_put hs_Co_put hini_Co rfl rfl hd_Co_put rfl rm_Cm_parts_Co_put hl.1 (Nat.le_of_ble_eq_true rfl) d_Cm_parts_35 rfl ⟨Nat.zero_le _, Nat.zero_le _⟩ (fun H locs hP hD hS => ?_)
      exact wb_Cm_parts_38 C0 hE N S hSg G hG _ _ _ _ _ _ _ _ _ _ hf H locs hP hD hS ls (lv_sub hl [2, 3, 4, 5, 6, 7, 1, 0] rfl)
def fb_Cm_parts_0 (N : Nat) (S : SG_Cm_fun) (G : (CS → Nat → Int32 → Int32 → Int32 → Int32 → Int32 → Option (CS × Int32))) (u : CS) (v0 : Nat) (v1 : Int32) (v2 : Int32) (v3 : Int32) (v4 : Int32) : Option (CS × Int32) := G u (v0) (v2) (v3) (v4) (0) (v1)
set_option maxRecDepth 100000 in
set_option maxHeartbeats 4000000 in
theorem wb_Cm_parts_0 {p : Program} {l : Launch} {e : Env} {s : State} {m : MethodId} {args : Array Value} {below : List Frame} {meth : Method} {c : Code} {s0 : State} {b0 : Nat} {D : va_G} {cB cI cJ cZ cS cP : ClassId} {A : Nat → Prop} {sk sv : Nat → Nat} {d : Nat} {ad : Nat → Nat} (C0 : XCx p s s0 b0 m args meth c R_Cm b_Cm_parts 9 (some .int) D cB cI cJ cZ cS cP A) (hE : ENV s0 b0 sk sv) (N : Nat) (S : SG_Cm_fun) (hSg : HS_Cm_fun l s0 b0 D cB cI cJ cZ cS cP d S) (G : (CS → Nat → Int32 → Int32 → Int32 → Int32 → Int32 → Option (CS × Int32))) (hG : (∀ (u : CS) (v0 : Nat) (v2 : Int32) (v3 : Int32) (v4 : Int32) (v5 : Int32) (v6 : Int32) (x : CS × Int32), G u v0 v2 v3 v4 v5 v6 = some x → ∀ (H : Heap) (locs : List Loc), va_P D cls (wC cB cI cJ cZ cS cP ad u) H → va_D A (wC cB cI cJ cZ cS cP ad u) → va_S A s.heap H locs → ∀ (ls : Array Slot), lv_has ls 9 [(0, .ref (ad v0)), (2, .int v2), (3, .int v3), (4, .int v4), (5, .int v5), (6, .int v6)] → W p l e (rg_Cm_fun (d + 1)) s m args below meth c H locs 0 0 (MQ below (xQ0 D cB cI cJ cZ cS cP A ad x.1 (some (.inl x.2))) args s 0 0 A) (F0 m 6 ls []))) : ∀ (u : CS) (v0 : Nat) (v1 : Int32) (v2 : Int32) (v3 : Int32) (v4 : Int32) (x : CS × Int32), fb_Cm_parts_0 N S G u v0 v1 v2 v3 v4 = some x → ∀ (H : Heap) (locs : List Loc), va_P D cls (wC cB cI cJ cZ cS cP ad u) H → va_D A (wC cB cI cJ cZ cS cP ad u) → va_S A s.heap H locs → ∀ (ls : Array Slot), lv_has ls 9 [(0, .ref (ad v0)), (1, .int v1), (2, .int v2), (3, .int v3), (4, .int v4)] → W p l e (rg_Cm_fun (d + 1)) s m args below meth c H locs 0 0 (MQ below (xQ0 D cB cI cJ cZ cS cP A ad x.1 (some (.inl x.2))) args s 0 0 A) (F0 m 0 ls []) := by
  intro u v0 v1 v2 v3 v4 x hf H locs hP hD hS ls hl
  obtain ⟨hx, hb, hr, hml, ht, hown, hK, hA, hlocks, hA0, hO, hbs⟩ := id C0
  unfold fb_Cm_parts_0 at hf
  refine lv_iconst (v := 0) hx hb d_Cm_parts_0 (by decide) ?_
  refine lv_istore (lv' := [(5, .int 0), (0, .ref (ad v0)), (1, .int v1), (2, .int v2), (3, .int v3), (4, .int v4)]) hx hb d_Cm_parts_1 hl (by decide) (by first | rfl | simp [List.filter, cat_rf]) (fun ls hl => ?_)
  refine lv_iload_n hx hb d_Cm_parts_3 rfl (lv_at hl 2 rfl) ?_
  refine lv_istore (lv' := [(6, .int v1), (5, .int 0), (0, .ref (ad v0)), (1, .int v1), (2, .int v2), (3, .int v3), (4, .int v4)]) hx hb d_Cm_parts_4 hl (by decide) (by first | rfl | simp [List.filter, cat_rf]) (fun ls hl => ?_)
  exact hG _ _ _ _ _ _ _ _ hf H locs hP hD hS ls (lv_sub hl [2, 4, 5, 6, 1, 0] rfl)
def gg_Cm_parts (N : Nat) (S : SG_Cm_fun) : Nat → ((CS → Nat → Int32 → Int32 → Int32 → Int32 → Int32 → Option (CS × Int32)))
  | 0 => fun _ _ _ _ _ _ _ => none
  | n + 1 => fb_Cm_parts_6 N S (gg_Cm_parts N S n)
theorem wg_Cm_parts {p : Program} {l : Launch} {e : Env} {s : State} {m : MethodId} {args : Array Value} {below : List Frame} {meth : Method} {c : Code} {s0 : State} {b0 : Nat} {D : va_G} {cB cI cJ cZ cS cP : ClassId} {A : Nat → Prop} {sk sv : Nat → Nat} {d : Nat} {ad : Nat → Nat} (C0 : XCx p s s0 b0 m args meth c R_Cm b_Cm_parts 9 (some .int) D cB cI cJ cZ cS cP A) (hE : ENV s0 b0 sk sv) (N : Nat) (S : SG_Cm_fun) (hSg : HS_Cm_fun l s0 b0 D cB cI cJ cZ cS cP d S) : ∀ n : Nat, (∀ (u : CS) (v0 : Nat) (v2 : Int32) (v3 : Int32) (v4 : Int32) (v5 : Int32) (v6 : Int32) (x : CS × Int32), gg_Cm_parts N S n u v0 v2 v3 v4 v5 v6 = some x → ∀ (H : Heap) (locs : List Loc), va_P D cls (wC cB cI cJ cZ cS cP ad u) H → va_D A (wC cB cI cJ cZ cS cP ad u) → va_S A s.heap H locs → ∀ (ls : Array Slot), lv_has ls 9 [(0, .ref (ad v0)), (2, .int v2), (3, .int v3), (4, .int v4), (5, .int v5), (6, .int v6)] → W p l e (rg_Cm_fun (d + 1)) s m args below meth c H locs 0 0 (MQ below (xQ0 D cB cI cJ cZ cS cP A ad x.1 (some (.inl x.2))) args s 0 0 A) (F0 m 6 ls []))
  | 0 => (fun u v0 v2 v3 v4 v5 v6 x hf => by cases hf)
  | n + 1 => wb_Cm_parts_6 C0 hE N S hSg (gg_Cm_parts N S n) (wg_Cm_parts C0 hE N S hSg n)
def fm_Cm_parts (N : Nat) (S : SG_Cm_fun) (u : CS) (v0 : Nat) (v1 : Int32) (v2 : Int32) (v3 : Int32) (v4 : Int32) : Option (CS × Int32) := fb_Cm_parts_0 N S (gg_Cm_parts N S N) u v0 v1 v2 v3 v4
set_option maxRecDepth 100000 in
set_option maxHeartbeats 4000000 in
theorem cs_Cm_parts (N : Nat) {d : Nat} {l : Launch} {s0 : State} {b0 : Nat} {D : va_G} {cB cI cJ cZ cS cP : ClassId} {sk sv : Nat → Nat} {ad : Nat → Nat} {u : CS} {sz : Nat} {v0 : Nat} {v1 : Int32} {v2 : Int32} {v3 : Int32} {v4 : Int32} {x : CS × Int32} (hE : ENV s0 b0 sk sv) (S : SG_Cm_fun) (hSg : HS_Cm_fun l s0 b0 D cB cI cJ cZ cS cP d S) (hf : fm_Cm_parts N S u v0 v1 v2 v3 v4 = some x) : Met l y_Cm_parts (wd_ws y_Cm_parts b_Cm_parts 9 (some .int)) (rg_Cm_fun (d + 1)) (xPc s0 b0 D cB cI cJ cZ cS cP ad u sz [.ref (ad v0), .int v1, .int v2, .int v3, .int v4]) (xQ0 D cB cI cJ cZ cS cP (xA cB cI cJ cZ cS cP ad u sz) ad x.1 (some (.inl x.2))) 0 0 (xA cB cI cJ cZ cS cP ad u sz) :=
  xMet (by decide) rfl (Nat.le_of_ble_eq_true rfl) (fun p e s m below meth c ls hsz hnm C0 hP hD hS hl =>
    wb_Cm_parts_0 C0 hE N S hSg (gg_Cm_parts N S N) (wg_Cm_parts C0 hE N S hSg N) u _ _ _ _ _ x hf s.heap [] hP hD hS ls (lv_sub hl [0, 1, 2, 3, 4] rfl))
theorem rm_Cm_body_Co_put {d : Nat} : (rm_Co_put).frames + 1 ≤ (rg_Cm_fun (d + 1)).frames ∧ 8 + (2 + 11) + (rm_Co_put).locals ≤ (rg_Cm_fun (d + 1)).locals := by
  show 0 + 1 ≤ 304 + (d + 1) ∧ 8 + (2 + 11) + 0 ≤ 6688 + 28 * (d + 1)
  omega
theorem rm_Cm_body_Cm_expression {d : Nat} : (rg_Cm_fun d).frames + 1 ≤ (rg_Cm_fun (d + 1)).frames ∧ 8 + (4 + 11) + (rg_Cm_fun d).locals ≤ (rg_Cm_fun (d + 1)).locals := by
  show 304 + d + 1 ≤ 304 + (d + 1) ∧ 8 + (4 + 11) + (6688 + 28 * d) ≤ 6688 + 28 * (d + 1)
  omega
def fb_Cm_body_58 (N : Nat) (S : SG_Cm_fun) (G : (CS → Nat → Int32 → Int32 → Option (CS × Unit))) (u : CS) (v0 : Nat) (v2 : Int32) (v3 : Int32) : Option (CS × Unit) := bo (gR u v0 3 1) (fun r1 => bo r1 (fun j2 => bo (gR u j2 10 5) (fun r3 => bo r3 (fun j4 => bo (aI u j4 4 v3) (fun r5 => G u (v0) (v2) (r5))))))
set_option maxRecDepth 100000 in
set_option maxHeartbeats 4000000 in
theorem wb_Cm_body_58 {p : Program} {l : Launch} {e : Env} {s : State} {m : MethodId} {args : Array Value} {below : List Frame} {meth : Method} {c : Code} {s0 : State} {b0 : Nat} {D : va_G} {cB cI cJ cZ cS cP : ClassId} {A : Nat → Prop} {sk sv : Nat → Nat} {d : Nat} {ad : Nat → Nat} (C0 : XCx p s s0 b0 m args meth c R_Cm b_Cm_body 5 none D cB cI cJ cZ cS cP A) (hE : ENV s0 b0 sk sv) (N : Nat) (S : SG_Cm_fun) (hSg : HS_Cm_fun l s0 b0 D cB cI cJ cZ cS cP d S) (G : (CS → Nat → Int32 → Int32 → Option (CS × Unit))) (hG : (∀ (u : CS) (v0 : Nat) (v2 : Int32) (v3 : Int32) (x : CS × Unit), G u v0 v2 v3 = some x → ∀ (H : Heap) (locs : List Loc), va_P D cls (wC cB cI cJ cZ cS cP ad u) H → va_D A (wC cB cI cJ cZ cS cP ad u) → va_S A s.heap H locs → ∀ (ls : Array Slot), lv_has ls 5 [(0, .ref (ad v0)), (2, .int v2), (3, .int v3)] → W p l e (rg_Cm_fun (d + 1)) s m args below meth c H locs 0 0 (MQ below (xQ0 D cB cI cJ cZ cS cP A ad x.1 none) args s 0 0 A) (F0 m 2 ls []))) : ∀ (u : CS) (v0 : Nat) (v2 : Int32) (v3 : Int32) (x : CS × Unit), fb_Cm_body_58 N S G u v0 v2 v3 = some x → ∀ (H : Heap) (locs : List Loc), va_P D cls (wC cB cI cJ cZ cS cP ad u) H → va_D A (wC cB cI cJ cZ cS cP ad u) → va_S A s.heap H locs → ∀ (ls : Array Slot), lv_has ls 5 [(0, .ref (ad v0)), (2, .int v2), (3, .int v3)] → W p l e (rg_Cm_fun (d + 1)) s m args below meth c H locs 0 0 (MQ below (xQ0 D cB cI cJ cZ cS cP A ad x.1 none) args s 0 0 A) (F0 m 58 ls []) := by
  intro u v0 v2 v3 x hf H locs hP hD hS ls hl
  obtain ⟨hx, hb, hr, hml, ht, hown, hK, hA, hlocks, hA0, hO, hbs⟩ := id C0
  unfold fb_Cm_body_58 at hf
  refine lv_aload_n hx hb d_Cm_body_58 rfl (lv_at hl 0 rfl) ?_
  obtain ⟨r1, g1, hf⟩ := bo_some hf
  refine xg_R (i := v0) (k := 1) hx hb ht hown ck_Cm hK hP (by decide) fk_Cm_39 g1 d_Cm_body_59 ?_
  obtain ⟨j2, ej2, hf⟩ := bo_some hf
  rw [ej2]
  obtain ⟨r3, g3, hf⟩ := bo_some hf
  refine xg_R (i := j2) (k := 5) hx hb ht hown ck_Tr hK hP (by decide) fk_Cm_139 g3 d_Cm_body_62 ?_
  refine lv_iload_n hx hb d_Cm_body_65 rfl (lv_at hl 2 rfl) ?_
  obtain ⟨j4, ej4, hf⟩ := bo_some hf
  rw [ej4]
  obtain ⟨r5, g5, hf⟩ := bo_some hf
  refine xl_I (i := j4) hx hb hK hP g5 d_Cm_body_66 ?_
  refine lv_istore_n (lv' := [(3, .int r5), (0, .ref (ad v0)), (2, .int v2)]) hx hb d_Cm_body_67 rfl hl (by decide) (by first | rfl | simp [List.filter, cat_rf]) (fun ls hl => ?_)
  refine lv_goto (tgt := 2) hx hb d_Cm_body_68 (by decide) ?_
  exact hG _ _ _ _ _ hf H locs hP hD hS ls (lv_sub hl [1, 2, 0] rfl)
def fb_Cm_body_41 (N : Nat) (S : SG_Cm_fun) (G : (CS → Nat → Int32 → Int32 → Option (CS × Unit))) (u : CS) (v0 : Nat) (v2 : Int32) (v3 : Int32) (v4 : Int32) (t0 : Nat) (t1 : Int32) (t2 : Int32) : Option (CS × Unit) := ck (isO u t0 3) (bx (S.2.2.2.2.2.2.2.2.2.2.1 u t0 t1 t2) (fun u6 r6 => br (decide (v4 = 0)) (fb_Cm_body_58 N S G u6 (v0) (v2) (v3)) (bo (gR u6 v0 3 2) (fun r7 => bo r7 (fun j9 => ck (isO u6 j9 2) (bx (fm_Co_put N u6 j9 15) (fun u8 r8 => fb_Cm_body_58 N S G u8 (v0) (v2) (v3))))))))
set_option maxRecDepth 100000 in
set_option maxHeartbeats 4000000 in
theorem wb_Cm_body_41 {p : Program} {l : Launch} {e : Env} {s : State} {m : MethodId} {args : Array Value} {below : List Frame} {meth : Method} {c : Code} {s0 : State} {b0 : Nat} {D : va_G} {cB cI cJ cZ cS cP : ClassId} {A : Nat → Prop} {sk sv : Nat → Nat} {d : Nat} {ad : Nat → Nat} (C0 : XCx p s s0 b0 m args meth c R_Cm b_Cm_body 5 none D cB cI cJ cZ cS cP A) (hE : ENV s0 b0 sk sv) (N : Nat) (S : SG_Cm_fun) (hSg : HS_Cm_fun l s0 b0 D cB cI cJ cZ cS cP d S) (G : (CS → Nat → Int32 → Int32 → Option (CS × Unit))) (hG : (∀ (u : CS) (v0 : Nat) (v2 : Int32) (v3 : Int32) (x : CS × Unit), G u v0 v2 v3 = some x → ∀ (H : Heap) (locs : List Loc), va_P D cls (wC cB cI cJ cZ cS cP ad u) H → va_D A (wC cB cI cJ cZ cS cP ad u) → va_S A s.heap H locs → ∀ (ls : Array Slot), lv_has ls 5 [(0, .ref (ad v0)), (2, .int v2), (3, .int v3)] → W p l e (rg_Cm_fun (d + 1)) s m args below meth c H locs 0 0 (MQ below (xQ0 D cB cI cJ cZ cS cP A ad x.1 none) args s 0 0 A) (F0 m 2 ls []))) : ∀ (u : CS) (v0 : Nat) (v2 : Int32) (v3 : Int32) (v4 : Int32) (t0 : Nat) (t1 : Int32) (t2 : Int32) (x : CS × Unit), fb_Cm_body_41 N S G u v0 v2 v3 v4 t0 t1 t2 = some x → ∀ (H : Heap) (locs : List Loc), va_P D cls (wC cB cI cJ cZ cS cP ad u) H → va_D A (wC cB cI cJ cZ cS cP ad u) → va_S A s.heap H locs → ∀ (ls : Array Slot), lv_has ls 5 [(0, .ref (ad v0)), (2, .int v2), (3, .int v3), (4, .int v4)] → W p l e (rg_Cm_fun (d + 1)) s m args below meth c H locs 0 0 (MQ below (xQ0 D cB cI cJ cZ cS cP A ad x.1 none) args s 0 0 A) (F0 m 41 ls [.int t2, .int t1, .ref (ad t0)]) := by
  intro u v0 v2 v3 v4 t0 t1 t2 x hf H locs hP hD hS ls hl
  obtain ⟨hx, hb, hr, hml, ht, hown, hK, hA, hlocks, hA0, hO, hbs⟩ := id C0
  unfold fb_Cm_body_41 at hf
  obtain ⟨hO9, hf⟩ := ck_some hf
  obtain ⟨u6, r6, hc6, hf⟩ := bx_some hf
  refine xV0 (i := t0) (As := [.int t1, .int t2]) (rest := []) C0 hP hD hS ck_Cm hO9 (hSg.2.2.2.2.2.2.2.2.2.2.1 _ _ _ _ _ _ _ hc6) k_Cm_expression (wd_of 1190 (by decide +kernel) rfl) hi_Cm_expression hs_Cm_expression hini_Cm rfl rfl hd_Cm_expression rfl rm_Cm_body_Cm_expression hl.1 (Nat.le_of_ble_eq_true rfl) d_Cm_body_41 rfl ⟨Nat.zero_le _, Nat.zero_le _⟩ (fun H locs hP hD hS => ?_)
  refine lv_iload hx hb d_Cm_body_44 (lv_at hl 3 rfl) ?_
  refine lv_if_eq (tgt := 58) hx hb d_Cm_body_46 (by decide) (fun hc => ?_) (fun hc => ?_)
  · rw [br_p _ hc] at hf
    exact wb_Cm_body_58 C0 hE N S hSg G hG _ _ _ _ _ hf H locs hP hD hS ls (lv_sub hl [0, 1, 2] rfl)
  · rw [br_n _ hc] at hf
    refine lv_aload_n hx hb d_Cm_body_49 rfl (lv_at hl 0 rfl) ?_
    obtain ⟨r7, g7, hf⟩ := bo_some hf
    refine xg_R (i := v0) (k := 2) hx hb ht hown ck_Cm hK hP (by decide) fk_Cm_43 g7 d_Cm_body_50 ?_
    refine lv_bipush (v := 15) hx hb d_Cm_body_53 (by decide) ?_
    obtain ⟨j9, ej9, hf⟩ := bo_some hf
    rw [ej9]
    obtain ⟨hO9, hf⟩ := ck_some hf
    obtain ⟨u8, r8, hc8, hf⟩ := bx_some hf
    refine xV0 (i := j9) (As := [.int 15]) (rest := []) C0 hP hD hS ck_Co hO9 (c_Co_put N hc8) k_Co_put (wd_of 1149 (by decide +kernel) rfl) hi_Co_put hs_Co_put hini_Co rfl rfl hd_Co_put rfl rm_Cm_body_Co_put hl.1 (Nat.le_of_ble_eq_true rfl) d_Cm_body_55 rfl ⟨Nat.zero_le _, Nat.zero_le _⟩ (fun H locs hP hD hS => ?_)
    exact wb_Cm_body_58 C0 hE N S hSg G hG _ _ _ _ _ hf H locs hP hD hS ls (lv_sub hl [0, 1, 2] rfl)
def fb_Cm_body_40 (N : Nat) (S : SG_Cm_fun) (G : (CS → Nat → Int32 → Int32 → Option (CS × Unit))) (u : CS) (v0 : Nat) (v2 : Int32) (v3 : Int32) (v4 : Int32) (t0 : Nat) (t1 : Int32) : Option (CS × Unit) := fb_Cm_body_41 N S G u (v0) (v2) (v3) (v4) (t0) (t1) (0)
set_option maxRecDepth 100000 in
set_option maxHeartbeats 4000000 in
theorem wb_Cm_body_40 {p : Program} {l : Launch} {e : Env} {s : State} {m : MethodId} {args : Array Value} {below : List Frame} {meth : Method} {c : Code} {s0 : State} {b0 : Nat} {D : va_G} {cB cI cJ cZ cS cP : ClassId} {A : Nat → Prop} {sk sv : Nat → Nat} {d : Nat} {ad : Nat → Nat} (C0 : XCx p s s0 b0 m args meth c R_Cm b_Cm_body 5 none D cB cI cJ cZ cS cP A) (hE : ENV s0 b0 sk sv) (N : Nat) (S : SG_Cm_fun) (hSg : HS_Cm_fun l s0 b0 D cB cI cJ cZ cS cP d S) (G : (CS → Nat → Int32 → Int32 → Option (CS × Unit))) (hG : (∀ (u : CS) (v0 : Nat) (v2 : Int32) (v3 : Int32) (x : CS × Unit), G u v0 v2 v3 = some x → ∀ (H : Heap) (locs : List Loc), va_P D cls (wC cB cI cJ cZ cS cP ad u) H → va_D A (wC cB cI cJ cZ cS cP ad u) → va_S A s.heap H locs → ∀ (ls : Array Slot), lv_has ls 5 [(0, .ref (ad v0)), (2, .int v2), (3, .int v3)] → W p l e (rg_Cm_fun (d + 1)) s m args below meth c H locs 0 0 (MQ below (xQ0 D cB cI cJ cZ cS cP A ad x.1 none) args s 0 0 A) (F0 m 2 ls []))) : ∀ (u : CS) (v0 : Nat) (v2 : Int32) (v3 : Int32) (v4 : Int32) (t0 : Nat) (t1 : Int32) (x : CS × Unit), fb_Cm_body_40 N S G u v0 v2 v3 v4 t0 t1 = some x → ∀ (H : Heap) (locs : List Loc), va_P D cls (wC cB cI cJ cZ cS cP ad u) H → va_D A (wC cB cI cJ cZ cS cP ad u) → va_S A s.heap H locs → ∀ (ls : Array Slot), lv_has ls 5 [(0, .ref (ad v0)), (2, .int v2), (3, .int v3), (4, .int v4)] → W p l e (rg_Cm_fun (d + 1)) s m args below meth c H locs 0 0 (MQ below (xQ0 D cB cI cJ cZ cS cP A ad x.1 none) args s 0 0 A) (F0 m 40 ls [.int t1, .ref (ad t0)]) := by
  intro u v0 v2 v3 v4 t0 t1 x hf H locs hP hD hS ls hl
  obtain ⟨hx, hb, hr, hml, ht, hown, hK, hA, hlocks, hA0, hO, hbs⟩ := id C0
  unfold fb_Cm_body_40 at hf
  refine lv_iconst (v := 0) hx hb d_Cm_body_40 (by decide) ?_
  exact wb_Cm_body_41 C0 hE N S hSg G hG _ _ _ _ _ _ _ _ _ hf H locs hP hD hS ls (lv_sub hl [0, 1, 2, 3] rfl)
def fb_Cm_body_23 (N : Nat) (S : SG_Cm_fun) (G : (CS → Nat → Int32 → Int32 → Option (CS × Unit))) (u : CS) (v0 : Nat) (v2 : Int32) (v3 : Int32) (t0 : Int32) : Option (CS × Unit) := br (decide (v2 = 0)) (fb_Cm_body_40 N S G u (v0) (v2) (v3) (t0) (v0) (v3)) (br (decide (t0 = 0)) (fb_Cm_body_41 N S G u (v0) (v2) (v3) (t0) (v0) (v3) (1)) (fb_Cm_body_40 N S G u (v0) (v2) (v3) (t0) (v0) (v3)))
set_option maxRecDepth 100000 in
set_option maxHeartbeats 4000000 in
theorem wb_Cm_body_23 {p : Program} {l : Launch} {e : Env} {s : State} {m : MethodId} {args : Array Value} {below : List Frame} {meth : Method} {c : Code} {s0 : State} {b0 : Nat} {D : va_G} {cB cI cJ cZ cS cP : ClassId} {A : Nat → Prop} {sk sv : Nat → Nat} {d : Nat} {ad : Nat → Nat} (C0 : XCx p s s0 b0 m args meth c R_Cm b_Cm_body 5 none D cB cI cJ cZ cS cP A) (hE : ENV s0 b0 sk sv) (N : Nat) (S : SG_Cm_fun) (hSg : HS_Cm_fun l s0 b0 D cB cI cJ cZ cS cP d S) (G : (CS → Nat → Int32 → Int32 → Option (CS × Unit))) (hG : (∀ (u : CS) (v0 : Nat) (v2 : Int32) (v3 : Int32) (x : CS × Unit), G u v0 v2 v3 = some x → ∀ (H : Heap) (locs : List Loc), va_P D cls (wC cB cI cJ cZ cS cP ad u) H → va_D A (wC cB cI cJ cZ cS cP ad u) → va_S A s.heap H locs → ∀ (ls : Array Slot), lv_has ls 5 [(0, .ref (ad v0)), (2, .int v2), (3, .int v3)] → W p l e (rg_Cm_fun (d + 1)) s m args below meth c H locs 0 0 (MQ below (xQ0 D cB cI cJ cZ cS cP A ad x.1 none) args s 0 0 A) (F0 m 2 ls []))) : ∀ (u : CS) (v0 : Nat) (v2 : Int32) (v3 : Int32) (t0 : Int32) (x : CS × Unit), fb_Cm_body_23 N S G u v0 v2 v3 t0 = some x → ∀ (H : Heap) (locs : List Loc), va_P D cls (wC cB cI cJ cZ cS cP ad u) H → va_D A (wC cB cI cJ cZ cS cP ad u) → va_S A s.heap H locs → ∀ (ls : Array Slot), lv_has ls 5 [(0, .ref (ad v0)), (2, .int v2), (3, .int v3)] → W p l e (rg_Cm_fun (d + 1)) s m args below meth c H locs 0 0 (MQ below (xQ0 D cB cI cJ cZ cS cP A ad x.1 none) args s 0 0 A) (F0 m 23 ls [.int t0]) := by
  intro u v0 v2 v3 t0 x hf H locs hP hD hS ls hl
  obtain ⟨hx, hb, hr, hml, ht, hown, hK, hA, hlocks, hA0, hO, hbs⟩ := id C0
  unfold fb_Cm_body_23 at hf
  refine lv_istore (lv' := [(4, .int t0), (0, .ref (ad v0)), (2, .int v2), (3, .int v3)]) hx hb d_Cm_body_23 hl (by decide) (by first | rfl | simp [List.filter, cat_rf]) (fun ls hl => ?_)
  refine lv_aload_n hx hb d_Cm_body_25 rfl (lv_at hl 1 rfl) ?_
  refine lv_iload_n hx hb d_Cm_body_26 rfl (lv_at hl 3 rfl) ?_
  refine lv_iload_n hx hb d_Cm_body_27 rfl (lv_at hl 2 rfl) ?_
  refine lv_if_eq (tgt := 40) hx hb d_Cm_body_28 (by decide) (fun hc => ?_) (fun hc => ?_)
  · rw [br_p _ hc] at hf
    exact wb_Cm_body_40 C0 hE N S hSg G hG _ _ _ _ _ _ _ _ hf H locs hP hD hS ls (lv_sub hl [1, 2, 3, 0] rfl)
  · rw [br_n _ hc] at hf
    refine lv_iload hx hb d_Cm_body_31 (lv_at hl 0 rfl) ?_
    refine lv_if_ne (tgt := 40) hx hb d_Cm_body_33 (by decide) (fun hc => ?_) (fun hc => ?_)
    · rw [br_n _ hc] at hf
      exact wb_Cm_body_40 C0 hE N S hSg G hG _ _ _ _ _ _ _ _ hf H locs hP hD hS ls (lv_sub hl [1, 2, 3, 0] rfl)
    · rw [br_p _ hc] at hf
      refine lv_iconst (v := 1) hx hb d_Cm_body_36 (by decide) ?_
      refine lv_goto (tgt := 41) hx hb d_Cm_body_37 (by decide) ?_
      exact wb_Cm_body_41 C0 hE N S hSg G hG _ _ _ _ _ _ _ _ _ hf H locs hP hD hS ls (lv_sub hl [1, 2, 3, 0] rfl)
def fb_Cm_body_2 (N : Nat) (S : SG_Cm_fun) (G : (CS → Nat → Int32 → Int32 → Option (CS × Unit))) (u : CS) (v0 : Nat) (v2 : Int32) (v3 : Int32) : Option (CS × Unit) := br (decide (v3 = 0)) (some (u, ())) (bo (gR u v0 3 1) (fun r10 => bo r10 (fun j11 => bo (gR u j11 10 5) (fun r12 => bo r12 (fun j13 => bo (aI u j13 4 v3) (fun r14 => br (decide (r14 = 0)) (fb_Cm_body_23 N S G u (v0) (v2) (v3) (0)) (fb_Cm_body_23 N S G u (v0) (v2) (v3) (1))))))))
set_option maxRecDepth 100000 in
set_option maxHeartbeats 4000000 in
theorem wb_Cm_body_2 {p : Program} {l : Launch} {e : Env} {s : State} {m : MethodId} {args : Array Value} {below : List Frame} {meth : Method} {c : Code} {s0 : State} {b0 : Nat} {D : va_G} {cB cI cJ cZ cS cP : ClassId} {A : Nat → Prop} {sk sv : Nat → Nat} {d : Nat} {ad : Nat → Nat} (C0 : XCx p s s0 b0 m args meth c R_Cm b_Cm_body 5 none D cB cI cJ cZ cS cP A) (hE : ENV s0 b0 sk sv) (N : Nat) (S : SG_Cm_fun) (hSg : HS_Cm_fun l s0 b0 D cB cI cJ cZ cS cP d S) (G : (CS → Nat → Int32 → Int32 → Option (CS × Unit))) (hG : (∀ (u : CS) (v0 : Nat) (v2 : Int32) (v3 : Int32) (x : CS × Unit), G u v0 v2 v3 = some x → ∀ (H : Heap) (locs : List Loc), va_P D cls (wC cB cI cJ cZ cS cP ad u) H → va_D A (wC cB cI cJ cZ cS cP ad u) → va_S A s.heap H locs → ∀ (ls : Array Slot), lv_has ls 5 [(0, .ref (ad v0)), (2, .int v2), (3, .int v3)] → W p l e (rg_Cm_fun (d + 1)) s m args below meth c H locs 0 0 (MQ below (xQ0 D cB cI cJ cZ cS cP A ad x.1 none) args s 0 0 A) (F0 m 2 ls []))) : ∀ (u : CS) (v0 : Nat) (v2 : Int32) (v3 : Int32) (x : CS × Unit), fb_Cm_body_2 N S G u v0 v2 v3 = some x → ∀ (H : Heap) (locs : List Loc), va_P D cls (wC cB cI cJ cZ cS cP ad u) H → va_D A (wC cB cI cJ cZ cS cP ad u) → va_S A s.heap H locs → ∀ (ls : Array Slot), lv_has ls 5 [(0, .ref (ad v0)), (2, .int v2), (3, .int v3)] → W p l e (rg_Cm_fun (d + 1)) s m args below meth c H locs 0 0 (MQ below (xQ0 D cB cI cJ cZ cS cP A ad x.1 none) args s 0 0 A) (F0 m 2 ls []) := by
  intro u v0 v2 v3 x hf H locs hP hD hS ls hl
  obtain ⟨hx, hb, hr, hml, ht, hown, hK, hA, hlocks, hA0, hO, hbs⟩ := id C0
  unfold fb_Cm_body_2 at hf
  refine lv_iload_n hx hb d_Cm_body_2 rfl (lv_at hl 2 rfl) ?_
  refine lv_if_eq (tgt := 71) hx hb d_Cm_body_3 (by decide) (fun hc => ?_) (fun hc => ?_)
  · rw [br_p _ hc] at hf
    exact xr0_v C0 hP hD hS hf d_Cm_body_71
  · rw [br_n _ hc] at hf
    refine lv_aload_n hx hb d_Cm_body_6 rfl (lv_at hl 0 rfl) ?_
    obtain ⟨r10, g10, hf⟩ := bo_some hf
    refine xg_R (i := v0) (k := 1) hx hb ht hown ck_Cm hK hP (by decide) fk_Cm_39 g10 d_Cm_body_7 ?_
    obtain ⟨j11, ej11, hf⟩ := bo_some hf
    rw [ej11]
    obtain ⟨r12, g12, hf⟩ := bo_some hf
    refine xg_R (i := j11) (k := 5) hx hb ht hown ck_Tr hK hP (by decide) fk_Cm_139 g12 d_Cm_body_10 ?_
    refine lv_iload_n hx hb d_Cm_body_13 rfl (lv_at hl 2 rfl) ?_
    obtain ⟨j13, ej13, hf⟩ := bo_some hf
    rw [ej13]
    obtain ⟨r14, g14, hf⟩ := bo_some hf
    refine xl_I (i := j13) hx hb hK hP g14 d_Cm_body_14 ?_
    refine lv_if_eq (tgt := 22) hx hb d_Cm_body_15 (by decide) (fun hc => ?_) (fun hc => ?_)
    · rw [br_p _ hc] at hf
      refine lv_iconst (v := 0) hx hb d_Cm_body_22 (by decide) ?_
      exact wb_Cm_body_23 C0 hE N S hSg G hG _ _ _ _ _ _ hf H locs hP hD hS ls (lv_sub hl [0, 1, 2] rfl)
    · rw [br_n _ hc] at hf
      refine lv_iconst (v := 1) hx hb d_Cm_body_18 (by decide) ?_
      refine lv_goto (tgt := 23) hx hb d_Cm_body_19 (by decide) ?_
      exact wb_Cm_body_23 C0 hE N S hSg G hG _ _ _ _ _ _ hf H locs hP hD hS ls (lv_sub hl [0, 1, 2] rfl)
def fb_Cm_body_0 (N : Nat) (S : SG_Cm_fun) (G : (CS → Nat → Int32 → Int32 → Option (CS × Unit))) (u : CS) (v0 : Nat) (v1 : Int32) (v2 : Int32) : Option (CS × Unit) := G u (v0) (v2) (v1)
set_option maxRecDepth 100000 in
set_option maxHeartbeats 4000000 in
theorem wb_Cm_body_0 {p : Program} {l : Launch} {e : Env} {s : State} {m : MethodId} {args : Array Value} {below : List Frame} {meth : Method} {c : Code} {s0 : State} {b0 : Nat} {D : va_G} {cB cI cJ cZ cS cP : ClassId} {A : Nat → Prop} {sk sv : Nat → Nat} {d : Nat} {ad : Nat → Nat} (C0 : XCx p s s0 b0 m args meth c R_Cm b_Cm_body 5 none D cB cI cJ cZ cS cP A) (hE : ENV s0 b0 sk sv) (N : Nat) (S : SG_Cm_fun) (hSg : HS_Cm_fun l s0 b0 D cB cI cJ cZ cS cP d S) (G : (CS → Nat → Int32 → Int32 → Option (CS × Unit))) (hG : (∀ (u : CS) (v0 : Nat) (v2 : Int32) (v3 : Int32) (x : CS × Unit), G u v0 v2 v3 = some x → ∀ (H : Heap) (locs : List Loc), va_P D cls (wC cB cI cJ cZ cS cP ad u) H → va_D A (wC cB cI cJ cZ cS cP ad u) → va_S A s.heap H locs → ∀ (ls : Array Slot), lv_has ls 5 [(0, .ref (ad v0)), (2, .int v2), (3, .int v3)] → W p l e (rg_Cm_fun (d + 1)) s m args below meth c H locs 0 0 (MQ below (xQ0 D cB cI cJ cZ cS cP A ad x.1 none) args s 0 0 A) (F0 m 2 ls []))) : ∀ (u : CS) (v0 : Nat) (v1 : Int32) (v2 : Int32) (x : CS × Unit), fb_Cm_body_0 N S G u v0 v1 v2 = some x → ∀ (H : Heap) (locs : List Loc), va_P D cls (wC cB cI cJ cZ cS cP ad u) H → va_D A (wC cB cI cJ cZ cS cP ad u) → va_S A s.heap H locs → ∀ (ls : Array Slot), lv_has ls 5 [(0, .ref (ad v0)), (1, .int v1), (2, .int v2)] → W p l e (rg_Cm_fun (d + 1)) s m args below meth c H locs 0 0 (MQ below (xQ0 D cB cI cJ cZ cS cP A ad x.1 none) args s 0 0 A) (F0 m 0 ls []) := by
  intro u v0 v1 v2 x hf H locs hP hD hS ls hl
  obtain ⟨hx, hb, hr, hml, ht, hown, hK, hA, hlocks, hA0, hO, hbs⟩ := id C0
  unfold fb_Cm_body_0 at hf
  refine lv_iload_n hx hb d_Cm_body_0 rfl (lv_at hl 1 rfl) ?_
  refine lv_istore_n (lv' := [(3, .int v1), (0, .ref (ad v0)), (1, .int v1), (2, .int v2)]) hx hb d_Cm_body_1 rfl hl (by decide) (by first | rfl | simp [List.filter, cat_rf]) (fun ls hl => ?_)
  exact hG _ _ _ _ _ hf H locs hP hD hS ls (lv_sub hl [1, 3, 0] rfl)
def gg_Cm_body (N : Nat) (S : SG_Cm_fun) : Nat → ((CS → Nat → Int32 → Int32 → Option (CS × Unit)))
  | 0 => fun _ _ _ _ => none
  | n + 1 => fb_Cm_body_2 N S (gg_Cm_body N S n)
theorem wg_Cm_body {p : Program} {l : Launch} {e : Env} {s : State} {m : MethodId} {args : Array Value} {below : List Frame} {meth : Method} {c : Code} {s0 : State} {b0 : Nat} {D : va_G} {cB cI cJ cZ cS cP : ClassId} {A : Nat → Prop} {sk sv : Nat → Nat} {d : Nat} {ad : Nat → Nat} (C0 : XCx p s s0 b0 m args meth c R_Cm b_Cm_body 5 none D cB cI cJ cZ cS cP A) (hE : ENV s0 b0 sk sv) (N : Nat) (S : SG_Cm_fun) (hSg : HS_Cm_fun l s0 b0 D cB cI cJ cZ cS cP d S) : ∀ n : Nat, (∀ (u : CS) (v0 : Nat) (v2 : Int32) (v3 : Int32) (x : CS × Unit), gg_Cm_body N S n u v0 v2 v3 = some x → ∀ (H : Heap) (locs : List Loc), va_P D cls (wC cB cI cJ cZ cS cP ad u) H → va_D A (wC cB cI cJ cZ cS cP ad u) → va_S A s.heap H locs → ∀ (ls : Array Slot), lv_has ls 5 [(0, .ref (ad v0)), (2, .int v2), (3, .int v3)] → W p l e (rg_Cm_fun (d + 1)) s m args below meth c H locs 0 0 (MQ below (xQ0 D cB cI cJ cZ cS cP A ad x.1 none) args s 0 0 A) (F0 m 2 ls []))
  | 0 => (fun u v0 v2 v3 x hf => by cases hf)
  | n + 1 => wb_Cm_body_2 C0 hE N S hSg (gg_Cm_body N S n) (wg_Cm_body C0 hE N S hSg n)
def fm_Cm_body (N : Nat) (S : SG_Cm_fun) (u : CS) (v0 : Nat) (v1 : Int32) (v2 : Int32) : Option (CS × Unit) := fb_Cm_body_0 N S (gg_Cm_body N S N) u v0 v1 v2
set_option maxRecDepth 100000 in
set_option maxHeartbeats 4000000 in
theorem cs_Cm_body (N : Nat) {d : Nat} {l : Launch} {s0 : State} {b0 : Nat} {D : va_G} {cB cI cJ cZ cS cP : ClassId} {sk sv : Nat → Nat} {ad : Nat → Nat} {u : CS} {sz : Nat} {v0 : Nat} {v1 : Int32} {v2 : Int32} {x : CS × Unit} (hE : ENV s0 b0 sk sv) (S : SG_Cm_fun) (hSg : HS_Cm_fun l s0 b0 D cB cI cJ cZ cS cP d S) (hf : fm_Cm_body N S u v0 v1 v2 = some x) : Met l y_Cm_body (wd_ws y_Cm_body b_Cm_body 5 none) (rg_Cm_fun (d + 1)) (xPc s0 b0 D cB cI cJ cZ cS cP ad u sz [.ref (ad v0), .int v1, .int v2]) (xQ0 D cB cI cJ cZ cS cP (xA cB cI cJ cZ cS cP ad u sz) ad x.1 none) 0 0 (xA cB cI cJ cZ cS cP ad u sz) :=
  xMet (by decide) rfl (Nat.le_of_ble_eq_true rfl) (fun p e s m below meth c ls hsz hnm C0 hP hD hS hl =>
    wb_Cm_body_0 C0 hE N S hSg (gg_Cm_body N S N) (wg_Cm_body C0 hE N S hSg N) u _ _ _ x hf s.heap [] hP hD hS ls (lv_sub hl [0, 1, 2] rfl))
theorem rm_Cm_compound_Co_put {d : Nat} : (rm_Co_put).frames + 1 ≤ (rg_Cm_fun (d + 1)).frames ∧ 8 + (2 + 11) + (rm_Co_put).locals ≤ (rg_Cm_fun (d + 1)).locals := by
  show 0 + 1 ≤ 304 + (d + 1) ∧ 8 + (2 + 11) + 0 ≤ 6688 + 28 * (d + 1)
  omega
theorem rm_Cm_compound_Cm_notInGuard {d : Nat} : (rm_Cm_notInGuard).frames + 1 ≤ (rg_Cm_fun (d + 1)).frames ∧ 8 + (2 + 11) + (rm_Cm_notInGuard).locals ≤ (rg_Cm_fun (d + 1)).locals := by
  show 2 + 1 ≤ 304 + (d + 1) ∧ 8 + (2 + 11) + 45 ≤ 6688 + 28 * (d + 1)
  omega
theorem rm_Cm_compound_Cm_forget {d : Nat} : (rm_Cm_forget).frames + 1 ≤ (rg_Cm_fun (d + 1)).frames ∧ 8 + (2 + 11) + (rm_Cm_forget).locals ≤ (rg_Cm_fun (d + 1)).locals := by
  show 1 + 1 ≤ 304 + (d + 1) ∧ 8 + (2 + 11) + 21 ≤ 6688 + 28 * (d + 1)
  omega
theorem rm_Cm_compound_Co_arrive {d : Nat} : (rm_Co_arrive).frames + 1 ≤ (rg_Cm_fun (d + 1)).frames ∧ 8 + (5 + 11) + (rm_Co_arrive).locals ≤ (rg_Cm_fun (d + 1)).locals := by
  show 1 + 1 ≤ 304 + (d + 1) ∧ 8 + (5 + 11) + 22 ≤ 6688 + 28 * (d + 1)
  omega
theorem rm_Cm_compound_Cm_funOf {d : Nat} : (rm_Cm_funOf).frames + 1 ≤ (rg_Cm_fun (d + 1)).frames ∧ 8 + (3 + 11) + (rm_Cm_funOf).locals ≤ (rg_Cm_fun (d + 1)).locals := by
  show 2 + 1 ≤ 304 + (d + 1) ∧ 8 + (3 + 11) + 45 ≤ 6688 + 28 * (d + 1)
  omega
theorem rm_Cm_compound_Co_hook {d : Nat} : (rm_Co_hook).frames + 1 ≤ (rg_Cm_fun (d + 1)).frames ∧ 8 + (2 + 11) + (rm_Co_hook).locals ≤ (rg_Cm_fun (d + 1)).locals := by
  show 1 + 1 ≤ 304 + (d + 1) ∧ 8 + (2 + 11) + 21 ≤ 6688 + 28 * (d + 1)
  omega
theorem rm_Cm_compound_Cm_pattern {d : Nat} : (rm_Cm_pattern).frames + 1 ≤ (rg_Cm_fun (d + 1)).frames ∧ 8 + (3 + 11) + (rm_Cm_pattern).locals ≤ (rg_Cm_fun (d + 1)).locals := by
  show 303 + 1 ≤ 304 + (d + 1) ∧ 8 + (3 + 11) + 6666 ≤ 6688 + 28 * (d + 1)
  omega
theorem rm_Cm_compound_Cm_expression {d : Nat} : (rg_Cm_fun d).frames + 1 ≤ (rg_Cm_fun (d + 1)).frames ∧ 8 + (4 + 11) + (rg_Cm_fun d).locals ≤ (rg_Cm_fun (d + 1)).locals := by
  show 304 + d + 1 ≤ 304 + (d + 1) ∧ 8 + (4 + 11) + (6688 + 28 * d) ≤ 6688 + 28 * (d + 1)
  omega
theorem rm_Cm_compound_Cm_body {d : Nat} : (rg_Cm_fun d).frames + 1 ≤ (rg_Cm_fun (d + 1)).frames ∧ 8 + (5 + 11) + (rg_Cm_fun d).locals ≤ (rg_Cm_fun (d + 1)).locals := by
  show 304 + d + 1 ≤ 304 + (d + 1) ∧ 8 + (5 + 11) + (6688 + 28 * d) ≤ 6688 + 28 * (d + 1)
  omega
theorem rm_Cm_compound_Cm_parts {d : Nat} : (rg_Cm_fun d).frames + 1 ≤ (rg_Cm_fun (d + 1)).frames ∧ 8 + (9 + 11) + (rg_Cm_fun d).locals ≤ (rg_Cm_fun (d + 1)).locals := by
  show 304 + d + 1 ≤ 304 + (d + 1) ∧ 8 + (9 + 11) + (6688 + 28 * d) ≤ 6688 + 28 * (d + 1)
  omega
theorem rm_Cm_compound_Cm_receive {d : Nat} : (rg_Cm_fun d).frames + 1 ≤ (rg_Cm_fun (d + 1)).frames ∧ 8 + (8 + 11) + (rg_Cm_fun d).locals ≤ (rg_Cm_fun (d + 1)).locals := by
  show 304 + d + 1 ≤ 304 + (d + 1) ∧ 8 + (8 + 11) + (6688 + 28 * d) ≤ 6688 + 28 * (d + 1)
  omega
theorem rm_Cm_compound_Cm_fun {d : Nat} : (rg_Cm_fun d).frames + 1 ≤ (rg_Cm_fun (d + 1)).frames ∧ 8 + (9 + 11) + (rg_Cm_fun d).locals ≤ (rg_Cm_fun (d + 1)).locals := by
  show 304 + d + 1 ≤ 304 + (d + 1) ∧ 8 + (9 + 11) + (6688 + 28 * d) ≤ 6688 + 28 * (d + 1)
  omega
def fb_Cm_compound_455 (N : Nat) (S : SG_Cm_fun) (G : Unit) (u : CS) : Option (CS × Unit) := some (u, ())
set_option maxRecDepth 100000 in
set_option maxHeartbeats 4000000 in
theorem wb_Cm_compound_455 {p : Program} {l : Launch} {e : Env} {s : State} {m : MethodId} {args : Array Value} {below : List Frame} {meth : Method} {c : Code} {s0 : State} {b0 : Nat} {D : va_G} {cB cI cJ cZ cS cP : ClassId} {A : Nat → Prop} {sk sv : Nat → Nat} {d : Nat} {ad : Nat → Nat} (C0 : XCx p s s0 b0 m args meth c R_Cm b_Cm_compound 7 none D cB cI cJ cZ cS cP A) (hE : ENV s0 b0 sk sv) (N : Nat) (S : SG_Cm_fun) (hSg : HS_Cm_fun l s0 b0 D cB cI cJ cZ cS cP d S) (G : Unit) (hG : True) : ∀ (u : CS) (x : CS × Unit), fb_Cm_compound_455 N S G u = some x → ∀ (H : Heap) (locs : List Loc), va_P D cls (wC cB cI cJ cZ cS cP ad u) H → va_D A (wC cB cI cJ cZ cS cP ad u) → va_S A s.heap H locs → ∀ (ls : Array Slot), lv_has ls 7 [] → W p l e (rg_Cm_fun (d + 1)) s m args below meth c H locs 0 0 (MQ below (xQ0 D cB cI cJ cZ cS cP A ad x.1 none) args s 0 0 A) (F0 m 455 ls []) := by
  intro u x hf H locs hP hD hS ls hl
  obtain ⟨hx, hb, hr, hml, ht, hown, hK, hA, hlocks, hA0, hO, hbs⟩ := id C0
  unfold fb_Cm_compound_455 at hf
  exact xr0_v C0 hP hD hS hf d_Cm_compound_455
def fb_Cm_compound_72 (N : Nat) (S : SG_Cm_fun) (G : Unit) (u : CS) (t0 : Option Nat) (t1 : Int32) : Option (CS × Unit) := bo t0 (fun j2 => ck (isO u j2 2) (bx (fm_Co_put N u j2 t1) (fun u1 r1 => some (u1, ()))))
set_option maxRecDepth 100000 in
set_option maxHeartbeats 4000000 in
theorem wb_Cm_compound_72 {p : Program} {l : Launch} {e : Env} {s : State} {m : MethodId} {args : Array Value} {below : List Frame} {meth : Method} {c : Code} {s0 : State} {b0 : Nat} {D : va_G} {cB cI cJ cZ cS cP : ClassId} {A : Nat → Prop} {sk sv : Nat → Nat} {d : Nat} {ad : Nat → Nat} (C0 : XCx p s s0 b0 m args meth c R_Cm b_Cm_compound 7 none D cB cI cJ cZ cS cP A) (hE : ENV s0 b0 sk sv) (N : Nat) (S : SG_Cm_fun) (hSg : HS_Cm_fun l s0 b0 D cB cI cJ cZ cS cP d S) (G : Unit) (hG : True) : ∀ (u : CS) (t0 : Option Nat) (t1 : Int32) (x : CS × Unit), fb_Cm_compound_72 N S G u t0 t1 = some x → ∀ (H : Heap) (locs : List Loc), va_P D cls (wC cB cI cJ cZ cS cP ad u) H → va_D A (wC cB cI cJ cZ cS cP ad u) → va_S A s.heap H locs → ∀ (ls : Array Slot), lv_has ls 7 [] → W p l e (rg_Cm_fun (d + 1)) s m args below meth c H locs 0 0 (MQ below (xQ0 D cB cI cJ cZ cS cP A ad x.1 none) args s 0 0 A) (F0 m 72 ls [.int t1, va_rf (Option.map ad t0)]) := by
  intro u t0 t1 x hf H locs hP hD hS ls hl
  obtain ⟨hx, hb, hr, hml, ht, hown, hK, hA, hlocks, hA0, hO, hbs⟩ := id C0
  unfold fb_Cm_compound_72 at hf
  obtain ⟨j2, ej2, hf⟩ := bo_some hf
  rw [ej2]
  obtain ⟨hO9, hf⟩ := ck_some hf
  obtain ⟨u1, r1, hc1, hf⟩ := bx_some hf
  refine xV0 (i := j2) (As := [.int t1]) (rest := []) C0 hP hD hS ck_Co hO9 (c_Co_put N hc1) k_Co_put (wd_of 1149 (by decide +kernel) rfl) hi_Co_put hs_Co_put hini_Co rfl rfl hd_Co_put rfl rm_Cm_compound_Co_put hl.1 (Nat.le_of_ble_eq_true rfl) d_Cm_compound_72 rfl ⟨Nat.zero_le _, Nat.zero_le _⟩ (fun H locs hP hD hS => ?_)
  exact xr0_v C0 hP hD hS hf d_Cm_compound_75
def fb_Cm_compound_33 (N : Nat) (S : SG_Cm_fun) (G : Unit) (u : CS) (v0 : Nat) (v1 : Int32) : Option (CS × Unit) := bo (gR u v0 3 1) (fun r3 => bo r3 (fun j4 => bo (gR u j4 10 2) (fun r5 => bo r5 (fun j6 => bo (aI u j6 4 v1) (fun r7 => ck (isO u v0 3) (bx (S.2.2.2.2.2.2.2.2.2.2.1 u v0 r7 0) (fun u8 r8 => bo (gR u8 v0 3 2) (fun r9 => bo (gR u8 v0 3 1) (fun r10 => bo r10 (fun j11 => bo (gR u8 j11 10 0) (fun r12 => bo r12 (fun j13 => bo (aI u8 j13 4 v1) (fun r14 => br (decide (r14 = 18)) (fb_Cm_compound_72 N S G u8 (r9) (12)) (fb_Cm_compound_72 N S G u8 (r9) (11)))))))))))))))
set_option maxRecDepth 100000 in
set_option maxHeartbeats 4000000 in
theorem wb_Cm_compound_33 {p : Program} {l : Launch} {e : Env} {s : State} {m : MethodId} {args : Array Value} {below : List Frame} {meth : Method} {c : Code} {s0 : State} {b0 : Nat} {D : va_G} {cB cI cJ cZ cS cP : ClassId} {A : Nat → Prop} {sk sv : Nat → Nat} {d : Nat} {ad : Nat → Nat} (C0 : XCx p s s0 b0 m args meth c R_Cm b_Cm_compound 7 none D cB cI cJ cZ cS cP A) (hE : ENV s0 b0 sk sv) (N : Nat) (S : SG_Cm_fun) (hSg : HS_Cm_fun l s0 b0 D cB cI cJ cZ cS cP d S) (G : Unit) (hG : True) : ∀ (u : CS) (v0 : Nat) (v1 : Int32) (x : CS × Unit), fb_Cm_compound_33 N S G u v0 v1 = some x → ∀ (H : Heap) (locs : List Loc), va_P D cls (wC cB cI cJ cZ cS cP ad u) H → va_D A (wC cB cI cJ cZ cS cP ad u) → va_S A s.heap H locs → ∀ (ls : Array Slot), lv_has ls 7 [(0, .ref (ad v0)), (1, .int v1)] → W p l e (rg_Cm_fun (d + 1)) s m args below meth c H locs 0 0 (MQ below (xQ0 D cB cI cJ cZ cS cP A ad x.1 none) args s 0 0 A) (F0 m 33 ls []) := by
  intro u v0 v1 x hf H locs hP hD hS ls hl
  obtain ⟨hx, hb, hr, hml, ht, hown, hK, hA, hlocks, hA0, hO, hbs⟩ := id C0
  unfold fb_Cm_compound_33 at hf
  refine lv_aload_n hx hb d_Cm_compound_33 rfl (lv_at hl 0 rfl) ?_
  refine lv_aload_n hx hb d_Cm_compound_34 rfl (lv_at hl 0 rfl) ?_
  obtain ⟨r3, g3, hf⟩ := bo_some hf
  refine xg_R (i := v0) (k := 1) hx hb ht hown ck_Cm hK hP (by decide) fk_Cm_39 g3 d_Cm_compound_35 ?_
  obtain ⟨j4, ej4, hf⟩ := bo_some hf
  rw [ej4]
  obtain ⟨r5, g5, hf⟩ := bo_some hf
  refine xg_R (i := j4) (k := 2) hx hb ht hown ck_Tr hK hP (by decide) fk_Cm_125 g5 d_Cm_compound_38 ?_
  refine lv_iload_n hx hb d_Cm_compound_41 rfl (lv_at hl 1 rfl) ?_
  obtain ⟨j6, ej6, hf⟩ := bo_some hf
  rw [ej6]
  obtain ⟨r7, g7, hf⟩ := bo_some hf
  refine xl_I (i := j6) hx hb hK hP g7 d_Cm_compound_42 ?_
  refine lv_iconst (v := 0) hx hb d_Cm_compound_43 (by decide) ?_
  obtain ⟨hO9, hf⟩ := ck_some hf
  obtain ⟨u8, r8, hc8, hf⟩ := bx_some hf
  refine xV0 (i := v0) (As := [.int r7, .int 0]) (rest := []) C0 hP hD hS ck_Cm hO9 (hSg.2.2.2.2.2.2.2.2.2.2.1 _ _ _ _ _ _ _ hc8) k_Cm_expression (wd_of 1190 (by decide +kernel) rfl) hi_Cm_expression hs_Cm_expression hini_Cm rfl rfl hd_Cm_expression rfl rm_Cm_compound_Cm_expression hl.1 (Nat.le_of_ble_eq_true rfl) d_Cm_compound_44 rfl ⟨Nat.zero_le _, Nat.zero_le _⟩ (fun H locs hP hD hS => ?_)
  refine lv_aload_n hx hb d_Cm_compound_47 rfl (lv_at hl 0 rfl) ?_
  obtain ⟨r9, g9, hf⟩ := bo_some hf
  refine xg_R (i := v0) (k := 2) hx hb ht hown ck_Cm hK hP (by decide) fk_Cm_43 g9 d_Cm_compound_48 ?_
  refine lv_aload_n hx hb d_Cm_compound_51 rfl (lv_at hl 0 rfl) ?_
  obtain ⟨r10, g10, hf⟩ := bo_some hf
  refine xg_R (i := v0) (k := 1) hx hb ht hown ck_Cm hK hP (by decide) fk_Cm_39 g10 d_Cm_compound_52 ?_
  obtain ⟨j11, ej11, hf⟩ := bo_some hf
  rw [ej11]
  obtain ⟨r12, g12, hf⟩ := bo_some hf
  refine xg_R (i := j11) (k := 0) hx hb ht hown ck_Tr hK hP (by decide) fk_Cm_177 g12 d_Cm_compound_55 ?_
  refine lv_iload_n hx hb d_Cm_compound_58 rfl (lv_at hl 1 rfl) ?_
  obtain ⟨j13, ej13, hf⟩ := bo_some hf
  rw [ej13]
  obtain ⟨r14, g14, hf⟩ := bo_some hf
  refine xl_I (i := j13) hx hb hK hP g14 d_Cm_compound_59 ?_
  refine lv_bipush (v := 18) hx hb d_Cm_compound_60 (by decide) ?_
  refine lv_icmp_ne (tgt := 70) hx hb d_Cm_compound_62 (by decide) (fun hc => ?_) (fun hc => ?_)
  · rw [br_n _ hc] at hf
    refine lv_bipush (v := 11) hx hb d_Cm_compound_70 (by decide) ?_
    exact wb_Cm_compound_72 C0 hE N S hSg G hG _ _ _ _ hf H locs hP hD hS ls (lv_sub hl [] rfl)
  · rw [br_p _ hc] at hf
    refine lv_bipush (v := 12) hx hb d_Cm_compound_65 (by decide) ?_
    refine lv_goto (tgt := 72) hx hb d_Cm_compound_67 (by decide) ?_
    exact wb_Cm_compound_72 C0 hE N S hSg G hG _ _ _ _ hf H locs hP hD hS ls (lv_sub hl [] rfl)
def fb_Cm_compound_0 (N : Nat) (S : SG_Cm_fun) (G : Unit) (u : CS) (v0 : Nat) (v1 : Int32) (v2 : Int32) : Option (CS × Unit) := bo (gI u v0 3 6) (fun r15 => bo (gR u v0 3 1) (fun r16 => bo r16 (fun j17 => bo (gR u j17 10 0) (fun r18 => bo r18 (fun j19 => bo (aI u j19 4 v1) (fun r20 => br (decide (r20 = 17)) (fb_Cm_compound_33 N S G u (v0) (v1)) (bo (gR u v0 3 1) (fun r21 => bo r21 (fun j22 => bo (gR u j22 10 0) (fun r23 => bo r23 (fun j24 => bo (aI u j24 4 v1) (fun r25 => br (decide (r25 = 18)) (fb_Cm_compound_33 N S G u (v0) (v1)) (bo (gR u v0 3 1) (fun r26 => bo r26 (fun j27 => bo (gR u j27 10 1) (fun r28 => bo r28 (fun j29 => bo (aI u j29 4 v1) (fun r30 => ck (isO u v0 3) (bx (fm_Cm_notInGuard N u v0 r30) (fun u31 r31 => bo (gR u31 v0 3 1) (fun r32 => bo r32 (fun j33 => bo (gR u31 j33 10 0) (fun r34 => bo r34 (fun j35 => bo (aI u31 j35 4 v1) (fun r36 => br (decide (r36 = 8)) (bo (gR u31 v0 3 1) (fun r37 => bo r37 (fun j38 => bo (gR u31 j38 10 2) (fun r39 => bo r39 (fun j40 => bo (aI u31 j40 4 v1) (fun r41 => ck (isO u31 v0 3) (bx (S.2.2.2.1 u31 v0 r41 v2) (fun u42 r42 => ck (isO u42 v0 3) (bx (fm_Cm_forget N u42 v0 r15) (fun u43 r43 => fb_Cm_compound_455 N S G u43)))))))))) (br (decide (r36 = 9)) (bo (gR u31 v0 3 1) (fun r44 => bo r44 (fun j45 => bo (gR u31 j45 10 2) (fun r46 => bo r46 (fun j47 => bo (aI u31 j47 4 v1) (fun r48 => ck (isO u31 v0 3) (bx (S.2.2.2.2.2.2.2.2.2.2.1 u31 v0 r48 0) (fun u49 r49 => bo (gR u49 v0 3 1) (fun r50 => bo r50 (fun j51 => bo (gR u49 j51 10 3) (fun r52 => bo r52 (fun j53 => bo (aI u49 j53 4 v1) (fun r54 => ck (isO u49 v0 3) (bx (S.2.2.1 u49 v0 r54 (-1) 15 v2) (fun u55 r55 => bo (gR u55 v0 3 2) (fun r56 => bo r56 (fun j58 => ck (isO u55 j58 2) (bx (fm_Co_put N u55 j58 37) (fun u57 r57 => bo (gR u57 v0 3 2) (fun r59 => bo r59 (fun j61 => ck (isO u57 j61 2) (bx (fm_Co_arrive N u57 j61 r55) (fun u60 r60 => fb_Cm_compound_455 N S G u60))))))))))))))))))))))) (br (decide (r36 = 10)) (bo (gR u31 v0 3 1) (fun r62 => bo r62 (fun j63 => bo (gR u31 j63 10 3) (fun r64 => bo r64 (fun j65 => bo (aI u31 j65 4 v1) (fun r66 => ck (isO u31 v0 3) (bx (S.2.2.1 u31 v0 r66 (-1) 0 v2) (fun u67 r67 => bo (gR u67 v0 3 2) (fun r68 => bo r68 (fun j70 => ck (isO u67 j70 2) (bx (fm_Co_put N u67 j70 38) (fun u69 r69 => bo (gR u69 v0 3 2) (fun r71 => bo r71 (fun j73 => ck (isO u69 j73 2) (bx (fm_Co_arrive N u69 j73 r67) (fun u72 r72 => fb_Cm_compound_455 N S G u72)))))))))))))))) (br (decide (r36 = 11)) (ck (isO u31 v0 3) (bx (S.2.1 u31 v0 v1 v2) (fun u74 r74 => fb_Cm_compound_455 N S G u74))) (br (decide (r36 = 12)) (ck (isO u31 v0 3) (bx (S.1 u31 v0 v1) (fun u75 r75 => fb_Cm_compound_455 N S G u75))) (br (decide (r36 = 13)) (ck (isO u31 v0 3) (bx (fm_Cm_funOf N u31 v0 v1) (fun u76 r76 => fb_Cm_compound_455 N S G u76))) (br (decide (r36 = 14)) (fb_Cm_compound_455 N S G u31) (br (decide (r36 = 15)) (fb_Cm_compound_455 N S G u31) (br (decide (r36 = 16)) (fb_Cm_compound_455 N S G u31) (br (decide (r36 = 17)) (fb_Cm_compound_455 N S G u31) (br (decide (r36 = 18)) (fb_Cm_compound_455 N S G u31) (br (decide (r36 = 19)) (bo (gR u31 v0 3 2) (fun r77 => bo r77 (fun j79 => ck (isO u31 j79 2) (bx (fm_Co_put N u31 j79 29) (fun u78 r78 => bo (gR u78 v0 3 2) (fun r80 => bo r80 (fun j82 => ck (isO u78 j82 2) (bx (fm_Co_hook N u78 j82 0) (fun u81 r81 => bo (gR u81 v0 3 1) (fun r83 => bo r83 (fun j84 => bo (gR u81 j84 10 2) (fun r85 => bo r85 (fun j86 => bo (aI u81 j86 4 v1) (fun r87 => ck (isO u81 v0 3) (bx (S.2.2.2.2.2.2.2.2.2.2.1 u81 v0 r87 0) (fun u88 r88 => bo (gR u88 v0 3 2) (fun r89 => bo r89 (fun j91 => ck (isO u88 j91 2) (bx (fm_Co_put N u88 j91 30) (fun u90 r90 => ck (isO u90 v0 3) (bx (fm_Cm_forget N u90 v0 r15) (fun u92 r92 => bo (gR u92 v0 3 2) (fun r93 => bo r93 (fun j95 => ck (isO u92 j95 2) (bx (fm_Co_arrive N u92 j95 r81) (fun u94 r94 => fb_Cm_compound_455 N S G u94)))))))))))))))))))))))))) (br (decide (r36 = 20)) (bo (gR u31 v0 3 1) (fun r96 => bo r96 (fun j97 => bo (gR u31 j97 10 3) (fun r98 => bo r98 (fun j99 => bo (aI u31 j99 4 v1) (fun r100 => ck (isO u31 v0 3) (bx (S.2.2.2.2.2.2.2.2.2.2.1 u31 v0 r100 0) (fun u101 r101 => bo (gR u101 v0 3 2) (fun r102 => bo r102 (fun j104 => ck (isO u101 j104 2) (bx (fm_Co_put N u101 j104 20) (fun u103 r103 => bo (gR u103 v0 3 1) (fun r105 => bo r105 (fun j106 => bo (gR u103 j106 10 2) (fun r107 => bo r107 (fun j108 => bo (aI u103 j108 4 v1) (fun r109 => ck (isO u103 v0 3) (bx (fr_Cm_pattern N u103 v0 r109) (fun u110 r110 => bo (gR u110 v0 3 2) (fun r111 => bo r111 (fun j113 => ck (isO u110 j113 2) (bx (fm_Co_put N u110 j113 8) (fun u112 r112 => fb_Cm_compound_455 N S G u112))))))))))))))))))))))) (br (decide (r36 = 21)) (bo (gR u31 v0 3 1) (fun r114 => bo r114 (fun j115 => bo (gR u31 j115 10 2) (fun r116 => bo r116 (fun j117 => bo (aI u31 j117 4 v1) (fun r118 => ck (isO u31 v0 3) (bx (S.2.2.2.2.2.2.2.2.2.2.1 u31 v0 r118 0) (fun u119 r119 => bo (gR u119 v0 3 1) (fun r120 => bo r120 (fun j121 => bo (gR u119 j121 10 3) (fun r122 => bo r122 (fun j123 => bo (aI u119 j123 4 v1) (fun r124 => ck (isO u119 v0 3) (bx (S.2.2.2.2.2.2.2.2.2.2.1 u119 v0 r124 0) (fun u125 r125 => bo (gR u125 v0 3 2) (fun r126 => bo r126 (fun j128 => ck (isO u125 j128 2) (bx (fm_Co_put N u125 j128 17) (fun u127 r127 => fb_Cm_compound_455 N S G u127))))))))))))))))))) (fb_Cm_compound_455 N S G u31)))))))))))))))))))))))))))))))))))))))
set_option maxRecDepth 100000 in
set_option maxHeartbeats 4000000 in
theorem wb_Cm_compound_0 {p : Program} {l : Launch} {e : Env} {s : State} {m : MethodId} {args : Array Value} {below : List Frame} {meth : Method} {c : Code} {s0 : State} {b0 : Nat} {D : va_G} {cB cI cJ cZ cS cP : ClassId} {A : Nat → Prop} {sk sv : Nat → Nat} {d : Nat} {ad : Nat → Nat} (C0 : XCx p s s0 b0 m args meth c R_Cm b_Cm_compound 7 none D cB cI cJ cZ cS cP A) (hE : ENV s0 b0 sk sv) (N : Nat) (S : SG_Cm_fun) (hSg : HS_Cm_fun l s0 b0 D cB cI cJ cZ cS cP d S) (G : Unit) (hG : True) : ∀ (u : CS) (v0 : Nat) (v1 : Int32) (v2 : Int32) (x : CS × Unit), fb_Cm_compound_0 N S G u v0 v1 v2 = some x → ∀ (H : Heap) (locs : List Loc), va_P D cls (wC cB cI cJ cZ cS cP ad u) H → va_D A (wC cB cI cJ cZ cS cP ad u) → va_S A s.heap H locs → ∀ (ls : Array Slot), lv_has ls 7 [(0, .ref (ad v0)), (1, .int v1), (2, .int v2)] → W p l e (rg_Cm_fun (d + 1)) s m args below meth c H locs 0 0 (MQ below (xQ0 D cB cI cJ cZ cS cP A ad x.1 none) args s 0 0 A) (F0 m 0 ls []) := by
  intro u v0 v1 v2 x hf H locs hP hD hS ls hl
  obtain ⟨hx, hb, hr, hml, ht, hown, hK, hA, hlocks, hA0, hO, hbs⟩ := id C0
  unfold fb_Cm_compound_0 at hf
  refine lv_aload_n hx hb d_Cm_compound_0 rfl (lv_at hl 0 rfl) ?_
  obtain ⟨r15, g15, hf⟩ := bo_some hf
  refine xg_I (i := v0) (k := 6) hx hb ht hown ck_Cm hK hP (by decide) fk_Cm_116 g15 d_Cm_compound_1 ?_
  refine lv_istore_n (lv' := [(3, .int r15), (0, .ref (ad v0)), (1, .int v1), (2, .int v2)]) hx hb d_Cm_compound_4 rfl hl (by decide) (by first | rfl | simp [List.filter, cat_rf]) (fun ls hl => ?_)
  refine lv_aload_n hx hb d_Cm_compound_5 rfl (lv_at hl 1 rfl) ?_
  obtain ⟨r16, g16, hf⟩ := bo_some hf
  refine xg_R (i := v0) (k := 1) hx hb ht hown ck_Cm hK hP (by decide) fk_Cm_39 g16 d_Cm_compound_6 ?_
  obtain ⟨j17, ej17, hf⟩ := bo_some hf
  rw [ej17]
  obtain ⟨r18, g18, hf⟩ := bo_some hf
  refine xg_R (i := j17) (k := 0) hx hb ht hown ck_Tr hK hP (by decide) fk_Cm_177 g18 d_Cm_compound_9 ?_
  refine lv_iload_n hx hb d_Cm_compound_12 rfl (lv_at hl 2 rfl) ?_
  obtain ⟨j19, ej19, hf⟩ := bo_some hf
  rw [ej19]
  obtain ⟨r20, g20, hf⟩ := bo_some hf
  refine xl_I (i := j19) hx hb hK hP g20 d_Cm_compound_13 ?_
  refine lv_bipush (v := 17) hx hb d_Cm_compound_14 (by decide) ?_
  refine lv_icmp_eq (tgt := 33) hx hb d_Cm_compound_16 (by decide) (fun hc => ?_) (fun hc => ?_)
  · rw [br_p _ hc] at hf
    exact wb_Cm_compound_33 C0 hE N S hSg G hG _ _ _ _ hf H locs hP hD hS ls (lv_sub hl [1, 2] rfl)
  · rw [br_n _ hc] at hf
    refine lv_aload_n hx hb d_Cm_compound_19 rfl (lv_at hl 1 rfl) ?_
    obtain ⟨r21, g21, hf⟩ := bo_some hf
    refine xg_R (i := v0) (k := 1) hx hb ht hown ck_Cm hK hP (by decide) fk_Cm_39 g21 d_Cm_compound_20 ?_
    obtain ⟨j22, ej22, hf⟩ := bo_some hf
    rw [ej22]
    obtain ⟨r23, g23, hf⟩ := bo_some hf
    refine xg_R (i := j22) (k := 0) hx hb ht hown ck_Tr hK hP (by decide) fk_Cm_177 g23 d_Cm_compound_23 ?_
    refine lv_iload_n hx hb d_Cm_compound_26 rfl (lv_at hl 2 rfl) ?_
    obtain ⟨j24, ej24, hf⟩ := bo_some hf
    rw [ej24]
    obtain ⟨r25, g25, hf⟩ := bo_some hf
    refine xl_I (i := j24) hx hb hK hP g25 d_Cm_compound_27 ?_
    refine lv_bipush (v := 18) hx hb d_Cm_compound_28 (by decide) ?_
    refine lv_icmp_ne (tgt := 76) hx hb d_Cm_compound_30 (by decide) (fun hc => ?_) (fun hc => ?_)
    · rw [br_n _ hc] at hf
      refine lv_aload_n hx hb d_Cm_compound_76 rfl (lv_at hl 1 rfl) ?_
      refine lv_aload_n hx hb d_Cm_compound_77 rfl (lv_at hl 1 rfl) ?_
      obtain ⟨r26, g26, hf⟩ := bo_some hf
      refine xg_R (i := v0) (k := 1) hx hb ht hown ck_Cm hK hP (by decide) fk_Cm_39 g26 d_Cm_compound_78 ?_
      obtain ⟨j27, ej27, hf⟩ := bo_some hf
      rw [ej27]
      obtain ⟨r28, g28, hf⟩ := bo_some hf
      refine xg_R (i := j27) (k := 1) hx hb ht hown ck_Tr hK hP (by decide) fk_Cm_93 g28 d_Cm_compound_81 ?_
      refine lv_iload_n hx hb d_Cm_compound_84 rfl (lv_at hl 2 rfl) ?_
      obtain ⟨j29, ej29, hf⟩ := bo_some hf
      rw [ej29]
      obtain ⟨r30, g30, hf⟩ := bo_some hf
      refine xl_I (i := j29) hx hb hK hP g30 d_Cm_compound_85 ?_
      obtain ⟨hO9, hf⟩ := ck_some hf
      obtain ⟨u31, r31, hc31, hf⟩ := bx_some hf
      refine xV0 (i := v0) (As := [.int r30]) (rest := []) C0 hP hD hS ck_Cm hO9 (c_Cm_notInGuard N hE hc31) k_Cm_notInGuard (wd_of 1194 (by decide +kernel) rfl) hi_Cm_notInGuard hs_Cm_notInGuard hini_Cm rfl rfl hd_Cm_notInGuard rfl rm_Cm_compound_Cm_notInGuard hl.1 (Nat.le_of_ble_eq_true rfl) d_Cm_compound_86 rfl ⟨Nat.zero_le _, Nat.zero_le _⟩ (fun H locs hP hD hS => ?_)
      refine lv_aload_n hx hb d_Cm_compound_89 rfl (lv_at hl 1 rfl) ?_
      obtain ⟨r32, g32, hf⟩ := bo_some hf
      refine xg_R (i := v0) (k := 1) hx hb ht hown ck_Cm hK hP (by decide) fk_Cm_39 g32 d_Cm_compound_90 ?_
      obtain ⟨j33, ej33, hf⟩ := bo_some hf
      rw [ej33]
      obtain ⟨r34, g34, hf⟩ := bo_some hf
      refine xg_R (i := j33) (k := 0) hx hb ht hown ck_Tr hK hP (by decide) fk_Cm_177 g34 d_Cm_compound_93 ?_
      refine lv_iload_n hx hb d_Cm_compound_96 rfl (lv_at hl 2 rfl) ?_
      obtain ⟨j35, ej35, hf⟩ := bo_some hf
      rw [ej35]
      obtain ⟨r36, g36, hf⟩ := bo_some hf
      refine xl_I (i := j35) hx hb hK hP g36 d_Cm_compound_97 ?_
      by_cases hc8 : r36 = 8
      · rw [br_p _ hc8] at hf
        refine lv_tableIn (tgt := 168) hx hb d_Cm_compound_98 (by rw [hc8]; decide) (by rw [hc8]; decide) (by rw [hc8]; rfl) (by decide) ?_
        refine lv_aload_n hx hb d_Cm_compound_168 rfl (lv_at hl 1 rfl) ?_
        refine lv_aload_n hx hb d_Cm_compound_169 rfl (lv_at hl 1 rfl) ?_
        obtain ⟨r37, g37, hf⟩ := bo_some hf
        refine xg_R (i := v0) (k := 1) hx hb ht hown ck_Cm hK hP (by decide) fk_Cm_39 g37 d_Cm_compound_170 ?_
        obtain ⟨j38, ej38, hf⟩ := bo_some hf
        rw [ej38]
        obtain ⟨r39, g39, hf⟩ := bo_some hf
        refine xg_R (i := j38) (k := 2) hx hb ht hown ck_Tr hK hP (by decide) fk_Cm_125 g39 d_Cm_compound_173 ?_
        refine lv_iload_n hx hb d_Cm_compound_176 rfl (lv_at hl 2 rfl) ?_
        obtain ⟨j40, ej40, hf⟩ := bo_some hf
        rw [ej40]
        obtain ⟨r41, g41, hf⟩ := bo_some hf
        refine xl_I (i := j40) hx hb hK hP g41 d_Cm_compound_177 ?_
        refine lv_iload_n hx hb d_Cm_compound_178 rfl (lv_at hl 3 rfl) ?_
        obtain ⟨hO9, hf⟩ := ck_some hf
        obtain ⟨u42, r42, hc42, hf⟩ := bx_some hf
        refine xV0 (i := v0) (As := [.int r41, .int v2]) (rest := []) C0 hP hD hS ck_Cm hO9 (hSg.2.2.2.1 _ _ _ _ _ _ _ hc42) k_Cm_body (wd_of 1242 (by decide +kernel) rfl) hi_Cm_body hs_Cm_body hini_Cm rfl rfl hd_Cm_body rfl rm_Cm_compound_Cm_body hl.1 (Nat.le_of_ble_eq_true rfl) d_Cm_compound_179 rfl ⟨Nat.zero_le _, Nat.zero_le _⟩ (fun H locs hP hD hS => ?_)
        refine lv_aload_n hx hb d_Cm_compound_182 rfl (lv_at hl 1 rfl) ?_
        refine lv_iload_n hx hb d_Cm_compound_183 rfl (lv_at hl 0 rfl) ?_
        obtain ⟨hO9, hf⟩ := ck_some hf
        obtain ⟨u43, r43, hc43, hf⟩ := bx_some hf
        refine xV0 (i := v0) (As := [.int r15]) (rest := []) C0 hP hD hS ck_Cm hO9 (c_Cm_forget N hc43) k_Cm_forget (wd_of 1210 (by decide +kernel) rfl) hi_Cm_forget hs_Cm_forget hini_Cm rfl rfl hd_Cm_forget rfl rm_Cm_compound_Cm_forget hl.1 (Nat.le_of_ble_eq_true rfl) d_Cm_compound_184 rfl ⟨Nat.zero_le _, Nat.zero_le _⟩ (fun H locs hP hD hS => ?_)
        refine lv_goto (tgt := 455) hx hb d_Cm_compound_187 (by decide) ?_
        exact wb_Cm_compound_455 C0 hE N S hSg G hG _ _ hf H locs hP hD hS ls (lv_sub hl [] rfl)
      · rw [br_n _ hc8] at hf
        by_cases hc9 : r36 = 9
        · rw [br_p _ hc9] at hf
          refine lv_tableIn (tgt := 190) hx hb d_Cm_compound_98 (by rw [hc9]; decide) (by rw [hc9]; decide) (by rw [hc9]; rfl) (by decide) ?_
          refine lv_aload_n hx hb d_Cm_compound_190 rfl (lv_at hl 1 rfl) ?_
          refine lv_aload_n hx hb d_Cm_compound_191 rfl (lv_at hl 1 rfl) ?_
          obtain ⟨r44, g44, hf⟩ := bo_some hf
          refine xg_R (i := v0) (k := 1) hx hb ht hown ck_Cm hK hP (by decide) fk_Cm_39 g44 d_Cm_compound_192 ?_
          obtain ⟨j45, ej45, hf⟩ := bo_some hf
          rw [ej45]
          obtain ⟨r46, g46, hf⟩ := bo_some hf
          refine xg_R (i := j45) (k := 2) hx hb ht hown ck_Tr hK hP (by decide) fk_Cm_125 g46 d_Cm_compound_195 ?_
          refine lv_iload_n hx hb d_Cm_compound_198 rfl (lv_at hl 2 rfl) ?_
          obtain ⟨j47, ej47, hf⟩ := bo_some hf
          rw [ej47]
          obtain ⟨r48, g48, hf⟩ := bo_some hf
          refine xl_I (i := j47) hx hb hK hP g48 d_Cm_compound_199 ?_
          refine lv_iconst (v := 0) hx hb d_Cm_compound_200 (by decide) ?_
          obtain ⟨hO9, hf⟩ := ck_some hf
          obtain ⟨u49, r49, hc49, hf⟩ := bx_some hf
          refine xV0 (i := v0) (As := [.int r48, .int 0]) (rest := []) C0 hP hD hS ck_Cm hO9 (hSg.2.2.2.2.2.2.2.2.2.2.1 _ _ _ _ _ _ _ hc49) k_Cm_expression (wd_of 1190 (by decide +kernel) rfl) hi_Cm_expression hs_Cm_expression hini_Cm rfl rfl hd_Cm_expression rfl rm_Cm_compound_Cm_expression hl.1 (Nat.le_of_ble_eq_true rfl) d_Cm_compound_201 rfl ⟨Nat.zero_le _, Nat.zero_le _⟩ (fun H locs hP hD hS => ?_)
          refine lv_aload_n hx hb d_Cm_compound_204 rfl (lv_at hl 1 rfl) ?_
          refine lv_aload_n hx hb d_Cm_compound_205 rfl (lv_at hl 1 rfl) ?_
          obtain ⟨r50, g50, hf⟩ := bo_some hf
          refine xg_R (i := v0) (k := 1) hx hb ht hown ck_Cm hK hP (by decide) fk_Cm_39 g50 d_Cm_compound_206 ?_
          obtain ⟨j51, ej51, hf⟩ := bo_some hf
          rw [ej51]
          obtain ⟨r52, g52, hf⟩ := bo_some hf
          refine xg_R (i := j51) (k := 3) hx hb ht hown ck_Tr hK hP (by decide) fk_Cm_171 g52 d_Cm_compound_209 ?_
          refine lv_iload_n hx hb d_Cm_compound_212 rfl (lv_at hl 2 rfl) ?_
          obtain ⟨j53, ej53, hf⟩ := bo_some hf
          rw [ej53]
          obtain ⟨r54, g54, hf⟩ := bo_some hf
          refine xl_I (i := j53) hx hb hK hP g54 d_Cm_compound_213 ?_
          refine lv_iconst (v := (-1)) hx hb d_Cm_compound_214 (by decide) ?_
          refine lv_bipush (v := 15) hx hb d_Cm_compound_215 (by decide) ?_
          refine lv_iload_n hx hb d_Cm_compound_217 rfl (lv_at hl 3 rfl) ?_
          obtain ⟨hO9, hf⟩ := ck_some hf
          obtain ⟨u55, r55, hc55, hf⟩ := bx_some hf
          refine xV0 (i := v0) (As := [.int r54, .int (-1), .int 15, .int v2]) (rest := []) C0 hP hD hS ck_Cm hO9 (hSg.2.2.1 _ _ _ _ _ _ _ _ _ hc55) k_Cm_parts (wd_of 1246 (by decide +kernel) rfl) hi_Cm_parts hs_Cm_parts hini_Cm rfl rfl hd_Cm_parts rfl rm_Cm_compound_Cm_parts hl.1 (Nat.le_of_ble_eq_true rfl) d_Cm_compound_218 rfl ⟨Nat.zero_le _, Nat.zero_le _⟩ (fun H locs hP hD hS => ?_)
          refine lv_istore (lv' := [(4, .int r55), (3, .int r15), (0, .ref (ad v0)), (1, .int v1), (2, .int v2)]) hx hb d_Cm_compound_221 hl (by decide) (by first | rfl | simp [List.filter, cat_rf]) (fun ls hl => ?_)
          refine lv_aload_n hx hb d_Cm_compound_223 rfl (lv_at hl 2 rfl) ?_
          obtain ⟨r56, g56, hf⟩ := bo_some hf
          refine xg_R (i := v0) (k := 2) hx hb ht hown ck_Cm hK hP (by decide) fk_Cm_43 g56 d_Cm_compound_224 ?_
          refine lv_bipush (v := 37) hx hb d_Cm_compound_227 (by decide) ?_
          obtain ⟨j58, ej58, hf⟩ := bo_some hf
          rw [ej58]
          obtain ⟨hO9, hf⟩ := ck_some hf
          obtain ⟨u57, r57, hc57, hf⟩ := bx_some hf
          refine xV0 (i := j58) (As := [.int 37]) (rest := []) C0 hP hD hS ck_Co hO9 (c_Co_put N hc57) k_Co_put (wd_of 1149 (by decide +kernel) rfl) hi_Co_put hs_Co_put hini_Co rfl rfl hd_Co_put rfl rm_Cm_compound_Co_put hl.1 (Nat.le_of_ble_eq_true rfl) d_Cm_compound_229 rfl ⟨Nat.zero_le _, Nat.zero_le _⟩ (fun H locs hP hD hS => ?_)
          refine lv_aload_n hx hb d_Cm_compound_232 rfl (lv_at hl 2 rfl) ?_
          obtain ⟨r59, g59, hf⟩ := bo_some hf
          refine xg_R (i := v0) (k := 2) hx hb ht hown ck_Cm hK hP (by decide) fk_Cm_43 g59 d_Cm_compound_233 ?_
          refine lv_iload hx hb d_Cm_compound_236 (lv_at hl 0 rfl) ?_
          obtain ⟨j61, ej61, hf⟩ := bo_some hf
          rw [ej61]
          obtain ⟨hO9, hf⟩ := ck_some hf
          obtain ⟨u60, r60, hc60, hf⟩ := bx_some hf
          refine xV0 (i := j61) (As := [.int r55]) (rest := []) C0 hP hD hS ck_Co hO9 (c_Co_arrive N hc60) k_Co_arrive (wd_of 1214 (by decide +kernel) rfl) hi_Co_arrive hs_Co_arrive hini_Co rfl rfl hd_Co_arrive rfl rm_Cm_compound_Co_arrive hl.1 (Nat.le_of_ble_eq_true rfl) d_Cm_compound_238 rfl ⟨Nat.zero_le _, Nat.zero_le _⟩ (fun H locs hP hD hS => ?_)
          refine lv_goto (tgt := 455) hx hb d_Cm_compound_241 (by decide) ?_
          exact wb_Cm_compound_455 C0 hE N S hSg G hG _ _ hf H locs hP hD hS ls (lv_sub hl [] rfl)
        · rw [br_n _ hc9] at hf
          by_cases hc10 : r36 = 10
          · rw [br_p _ hc10] at hf
            refine lv_tableIn (tgt := 244) hx hb d_Cm_compound_98 (by rw [hc10]; decide) (by rw [hc10]; decide) (by rw [hc10]; rfl) (by decide) ?_
            refine lv_aload_n hx hb d_Cm_compound_244 rfl (lv_at hl 1 rfl) ?_
            refine lv_aload_n hx hb d_Cm_compound_245 rfl (lv_at hl 1 rfl) ?_
            obtain ⟨r62, g62, hf⟩ := bo_some hf
            refine xg_R (i := v0) (k := 1) hx hb ht hown ck_Cm hK hP (by decide) fk_Cm_39 g62 d_Cm_compound_246 ?_
            obtain ⟨j63, ej63, hf⟩ := bo_some hf
            rw [ej63]
            obtain ⟨r64, g64, hf⟩ := bo_some hf
            refine xg_R (i := j63) (k := 3) hx hb ht hown ck_Tr hK hP (by decide) fk_Cm_171 g64 d_Cm_compound_249 ?_
            refine lv_iload_n hx hb d_Cm_compound_252 rfl (lv_at hl 2 rfl) ?_
            obtain ⟨j65, ej65, hf⟩ := bo_some hf
            rw [ej65]
            obtain ⟨r66, g66, hf⟩ := bo_some hf
            refine xl_I (i := j65) hx hb hK hP g66 d_Cm_compound_253 ?_
            refine lv_iconst (v := (-1)) hx hb d_Cm_compound_254 (by decide) ?_
            refine lv_iconst (v := 0) hx hb d_Cm_compound_255 (by decide) ?_
            refine lv_iload_n hx hb d_Cm_compound_256 rfl (lv_at hl 3 rfl) ?_
            obtain ⟨hO9, hf⟩ := ck_some hf
            obtain ⟨u67, r67, hc67, hf⟩ := bx_some hf
            refine xV0 (i := v0) (As := [.int r66, .int (-1), .int 0, .int v2]) (rest := []) C0 hP hD hS ck_Cm hO9 (hSg.2.2.1 _ _ _ _ _ _ _ _ _ hc67) k_Cm_parts (wd_of 1246 (by decide +kernel) rfl) hi_Cm_parts hs_Cm_parts hini_Cm rfl rfl hd_Cm_parts rfl rm_Cm_compound_Cm_parts hl.1 (Nat.le_of_ble_eq_true rfl) d_Cm_compound_257 rfl ⟨Nat.zero_le _, Nat.zero_le _⟩ (fun H locs hP hD hS => ?_)
            refine lv_istore (lv' := [(5, .int r67), (3, .int r15), (0, .ref (ad v0)), (1, .int v1), (2, .int v2)]) hx hb d_Cm_compound_260 hl (by decide) (by first | rfl | simp [List.filter, cat_rf]) (fun ls hl => ?_)
            refine lv_aload_n hx hb d_Cm_compound_262 rfl (lv_at hl 2 rfl) ?_
            obtain ⟨r68, g68, hf⟩ := bo_some hf
            refine xg_R (i := v0) (k := 2) hx hb ht hown ck_Cm hK hP (by decide) fk_Cm_43 g68 d_Cm_compound_263 ?_
            refine lv_bipush (v := 38) hx hb d_Cm_compound_266 (by decide) ?_
            obtain ⟨j70, ej70, hf⟩ := bo_some hf
            rw [ej70]
            obtain ⟨hO9, hf⟩ := ck_some hf
            obtain ⟨u69, r69, hc69, hf⟩ := bx_some hf
            refine xV0 (i := j70) (As := [.int 38]) (rest := []) C0 hP hD hS ck_Co hO9 (c_Co_put N hc69) k_Co_put (wd_of 1149 (by decide +kernel) rfl) hi_Co_put hs_Co_put hini_Co rfl rfl hd_Co_put rfl rm_Cm_compound_Co_put hl.1 (Nat.le_of_ble_eq_true rfl) d_Cm_compound_268 rfl ⟨Nat.zero_le _, Nat.zero_le _⟩ (fun H locs hP hD hS => ?_)
            refine lv_aload_n hx hb d_Cm_compound_271 rfl (lv_at hl 2 rfl) ?_
            obtain ⟨r71, g71, hf⟩ := bo_some hf
            refine xg_R (i := v0) (k := 2) hx hb ht hown ck_Cm hK hP (by decide) fk_Cm_43 g71 d_Cm_compound_272 ?_
            refine lv_iload hx hb d_Cm_compound_275 (lv_at hl 0 rfl) ?_
            obtain ⟨j73, ej73, hf⟩ := bo_some hf
            rw [ej73]
            obtain ⟨hO9, hf⟩ := ck_some hf
            obtain ⟨u72, r72, hc72, hf⟩ := bx_some hf
            refine xV0 (i := j73) (As := [.int r67]) (rest := []) C0 hP hD hS ck_Co hO9 (c_Co_arrive N hc72) k_Co_arrive (wd_of 1214 (by decide +kernel) rfl) hi_Co_arrive hs_Co_arrive hini_Co rfl rfl hd_Co_arrive rfl rm_Cm_compound_Co_arrive hl.1 (Nat.le_of_ble_eq_true rfl) d_Cm_compound_277 rfl ⟨Nat.zero_le _, Nat.zero_le _⟩ (fun H locs hP hD hS => ?_)
            refine lv_goto (tgt := 455) hx hb d_Cm_compound_280 (by decide) ?_
            exact wb_Cm_compound_455 C0 hE N S hSg G hG _ _ hf H locs hP hD hS ls (lv_sub hl [] rfl)
          · rw [br_n _ hc10] at hf
            by_cases hc11 : r36 = 11
            · rw [br_p _ hc11] at hf
              refine lv_tableIn (tgt := 283) hx hb d_Cm_compound_98 (by rw [hc11]; decide) (by rw [hc11]; decide) (by rw [hc11]; rfl) (by decide) ?_
              refine lv_aload_n hx hb d_Cm_compound_283 rfl (lv_at hl 1 rfl) ?_
              refine lv_iload_n hx hb d_Cm_compound_284 rfl (lv_at hl 2 rfl) ?_
              refine lv_iload_n hx hb d_Cm_compound_285 rfl (lv_at hl 3 rfl) ?_
              obtain ⟨hO9, hf⟩ := ck_some hf
              obtain ⟨u74, r74, hc74, hf⟩ := bx_some hf
              refine xV0 (i := v0) (As := [.int v1, .int v2]) (rest := []) C0 hP hD hS ck_Cm hO9 (hSg.2.1 _ _ _ _ _ _ _ hc74) k_Cm_receive (wd_of 1250 (by decide +kernel) rfl) hi_Cm_receive hs_Cm_receive hini_Cm rfl rfl hd_Cm_receive rfl rm_Cm_compound_Cm_receive hl.1 (Nat.le_of_ble_eq_true rfl) d_Cm_compound_286 rfl ⟨Nat.zero_le _, Nat.zero_le _⟩ (fun H locs hP hD hS => ?_)
              refine lv_goto (tgt := 455) hx hb d_Cm_compound_289 (by decide) ?_
              exact wb_Cm_compound_455 C0 hE N S hSg G hG _ _ hf H locs hP hD hS ls (lv_sub hl [] rfl)
            · rw [br_n _ hc11] at hf
              by_cases hc12 : r36 = 12
              · rw [br_p _ hc12] at hf
                refine lv_tableIn (tgt := 292) hx hb d_Cm_compound_98 (by rw [hc12]; decide) (by rw [hc12]; decide) (by rw [hc12]; rfl) (by decide) ?_
                refine lv_aload_n hx hb d_Cm_compound_292 rfl (lv_at hl 1 rfl) ?_
                refine lv_iload_n hx hb d_Cm_compound_293 rfl (lv_at hl 2 rfl) ?_
                obtain ⟨hO9, hf⟩ := ck_some hf
                obtain ⟨u75, r75, hc75, hf⟩ := bx_some hf
                refine xV0 (i := v0) (As := [.int v1]) (rest := []) C0 hP hD hS ck_Cm hO9 (hSg.1 _ _ _ _ _ _ hc75) k_Cm_fun (wd_of 1254 (by decide +kernel) rfl) hi_Cm_fun hs_Cm_fun hini_Cm rfl rfl hd_Cm_fun rfl rm_Cm_compound_Cm_fun hl.1 (Nat.le_of_ble_eq_true rfl) d_Cm_compound_294 rfl ⟨Nat.zero_le _, Nat.zero_le _⟩ (fun H locs hP hD hS => ?_)
                refine lv_goto (tgt := 455) hx hb d_Cm_compound_297 (by decide) ?_
                exact wb_Cm_compound_455 C0 hE N S hSg G hG _ _ hf H locs hP hD hS ls (lv_sub hl [] rfl)
              · rw [br_n _ hc12] at hf
                by_cases hc13 : r36 = 13
                · rw [br_p _ hc13] at hf
                  refine lv_tableIn (tgt := 300) hx hb d_Cm_compound_98 (by rw [hc13]; decide) (by rw [hc13]; decide) (by rw [hc13]; rfl) (by decide) ?_
                  refine lv_aload_n hx hb d_Cm_compound_300 rfl (lv_at hl 1 rfl) ?_
                  refine lv_iload_n hx hb d_Cm_compound_301 rfl (lv_at hl 2 rfl) ?_
                  obtain ⟨hO9, hf⟩ := ck_some hf
                  obtain ⟨u76, r76, hc76, hf⟩ := bx_some hf
                  refine xV0 (i := v0) (As := [.int v1]) (rest := []) C0 hP hD hS ck_Cm hO9 (c_Cm_funOf N hE hc76) k_Cm_funOf (wd_of 1264 (by decide +kernel) rfl) hi_Cm_funOf hs_Cm_funOf hini_Cm rfl rfl hd_Cm_funOf rfl rm_Cm_compound_Cm_funOf hl.1 (Nat.le_of_ble_eq_true rfl) d_Cm_compound_302 rfl ⟨Nat.zero_le _, Nat.zero_le _⟩ (fun H locs hP hD hS => ?_)
                  refine lv_goto (tgt := 455) hx hb d_Cm_compound_305 (by decide) ?_
                  exact wb_Cm_compound_455 C0 hE N S hSg G hG _ _ hf H locs hP hD hS ls (lv_sub hl [] rfl)
                · rw [br_n _ hc13] at hf
                  by_cases hc14 : r36 = 14
                  · rw [br_p _ hc14] at hf
                    refine lv_tableIn (tgt := 455) hx hb d_Cm_compound_98 (by rw [hc14]; decide) (by rw [hc14]; decide) (by rw [hc14]; rfl) (by decide) ?_
                    exact wb_Cm_compound_455 C0 hE N S hSg G hG _ _ hf H locs hP hD hS ls (lv_sub hl [] rfl)
                  · rw [br_n _ hc14] at hf
                    by_cases hc15 : r36 = 15
                    · rw [br_p _ hc15] at hf
                      refine lv_tableIn (tgt := 455) hx hb d_Cm_compound_98 (by rw [hc15]; decide) (by rw [hc15]; decide) (by rw [hc15]; rfl) (by decide) ?_
                      exact wb_Cm_compound_455 C0 hE N S hSg G hG _ _ hf H locs hP hD hS ls (lv_sub hl [] rfl)
                    · rw [br_n _ hc15] at hf
                      by_cases hc16 : r36 = 16
                      · rw [br_p _ hc16] at hf
                        refine lv_tableIn (tgt := 455) hx hb d_Cm_compound_98 (by rw [hc16]; decide) (by rw [hc16]; decide) (by rw [hc16]; rfl) (by decide) ?_
                        exact wb_Cm_compound_455 C0 hE N S hSg G hG _ _ hf H locs hP hD hS ls (lv_sub hl [] rfl)
                      · rw [br_n _ hc16] at hf
                        by_cases hc17 : r36 = 17
                        · rw [br_p _ hc17] at hf
                          refine lv_tableIn (tgt := 455) hx hb d_Cm_compound_98 (by rw [hc17]; decide) (by rw [hc17]; decide) (by rw [hc17]; rfl) (by decide) ?_
                          exact wb_Cm_compound_455 C0 hE N S hSg G hG _ _ hf H locs hP hD hS ls (lv_sub hl [] rfl)
                        · rw [br_n _ hc17] at hf
                          by_cases hc18 : r36 = 18
                          · rw [br_p _ hc18] at hf
                            refine lv_tableIn (tgt := 455) hx hb d_Cm_compound_98 (by rw [hc18]; decide) (by rw [hc18]; decide) (by rw [hc18]; rfl) (by decide) ?_
                            exact wb_Cm_compound_455 C0 hE N S hSg G hG _ _ hf H locs hP hD hS ls (lv_sub hl [] rfl)
                          · rw [br_n _ hc18] at hf
                            by_cases hc19 : r36 = 19
                            · rw [br_p _ hc19] at hf
                              refine lv_tableIn (tgt := 308) hx hb d_Cm_compound_98 (by rw [hc19]; decide) (by rw [hc19]; decide) (by rw [hc19]; rfl) (by decide) ?_
                              refine lv_aload_n hx hb d_Cm_compound_308 rfl (lv_at hl 1 rfl) ?_
                              obtain ⟨r77, g77, hf⟩ := bo_some hf
                              refine xg_R (i := v0) (k := 2) hx hb ht hown ck_Cm hK hP (by decide) fk_Cm_43 g77 d_Cm_compound_309 ?_
                              refine lv_bipush (v := 29) hx hb d_Cm_compound_312 (by decide) ?_
                              obtain ⟨j79, ej79, hf⟩ := bo_some hf
                              rw [ej79]
                              obtain ⟨hO9, hf⟩ := ck_some hf
                              obtain ⟨u78, r78, hc78, hf⟩ := bx_some hf
                              refine xV0 (i := j79) (As := [.int 29]) (rest := []) C0 hP hD hS ck_Co hO9 (c_Co_put N hc78) k_Co_put (wd_of 1149 (by decide +kernel) rfl) hi_Co_put hs_Co_put hini_Co rfl rfl hd_Co_put rfl rm_Cm_compound_Co_put hl.1 (Nat.le_of_ble_eq_true rfl) d_Cm_compound_314 rfl ⟨Nat.zero_le _, Nat.zero_le _⟩ (fun H locs hP hD hS => ?_)
                              refine lv_aload_n hx hb d_Cm_compound_317 rfl (lv_at hl 1 rfl) ?_
                              obtain ⟨r80, g80, hf⟩ := bo_some hf
                              refine xg_R (i := v0) (k := 2) hx hb ht hown ck_Cm hK hP (by decide) fk_Cm_43 g80 d_Cm_compound_318 ?_
                              refine lv_iconst (v := 0) hx hb d_Cm_compound_321 (by decide) ?_
                              obtain ⟨j82, ej82, hf⟩ := bo_some hf
                              rw [ej82]
                              obtain ⟨hO9, hf⟩ := ck_some hf
                              obtain ⟨u81, r81, hc81, hf⟩ := bx_some hf
                              refine xV0 (i := j82) (As := [.int 0]) (rest := []) C0 hP hD hS ck_Co hO9 (c_Co_hook N hc81) k_Co_hook (wd_of 1153 (by decide +kernel) rfl) hi_Co_hook hs_Co_hook hini_Co rfl rfl hd_Co_hook rfl rm_Cm_compound_Co_hook hl.1 (Nat.le_of_ble_eq_true rfl) d_Cm_compound_322 rfl ⟨Nat.zero_le _, Nat.zero_le _⟩ (fun H locs hP hD hS => ?_)
                              refine lv_istore (lv' := [(6, .int r81), (3, .int r15), (0, .ref (ad v0)), (1, .int v1), (2, .int v2)]) hx hb d_Cm_compound_325 hl (by decide) (by first | rfl | simp [List.filter, cat_rf]) (fun ls hl => ?_)
                              refine lv_aload_n hx hb d_Cm_compound_327 rfl (lv_at hl 2 rfl) ?_
                              refine lv_aload_n hx hb d_Cm_compound_328 rfl (lv_at hl 2 rfl) ?_
                              obtain ⟨r83, g83, hf⟩ := bo_some hf
                              refine xg_R (i := v0) (k := 1) hx hb ht hown ck_Cm hK hP (by decide) fk_Cm_39 g83 d_Cm_compound_329 ?_
                              obtain ⟨j84, ej84, hf⟩ := bo_some hf
                              rw [ej84]
                              obtain ⟨r85, g85, hf⟩ := bo_some hf
                              refine xg_R (i := j84) (k := 2) hx hb ht hown ck_Tr hK hP (by decide) fk_Cm_125 g85 d_Cm_compound_332 ?_
                              refine lv_iload_n hx hb d_Cm_compound_335 rfl (lv_at hl 3 rfl) ?_
                              obtain ⟨j86, ej86, hf⟩ := bo_some hf
                              rw [ej86]
                              obtain ⟨r87, g87, hf⟩ := bo_some hf
                              refine xl_I (i := j86) hx hb hK hP g87 d_Cm_compound_336 ?_
                              refine lv_iconst (v := 0) hx hb d_Cm_compound_337 (by decide) ?_
                              obtain ⟨hO9, hf⟩ := ck_some hf
                              obtain ⟨u88, r88, hc88, hf⟩ := bx_some hf
                              refine xV0 (i := v0) (As := [.int r87, .int 0]) (rest := []) C0 hP hD hS ck_Cm hO9 (hSg.2.2.2.2.2.2.2.2.2.2.1 _ _ _ _ _ _ _ hc88) k_Cm_expression (wd_of 1190 (by decide +kernel) rfl) hi_Cm_expression hs_Cm_expression hini_Cm rfl rfl hd_Cm_expression rfl rm_Cm_compound_Cm_expression hl.1 (Nat.le_of_ble_eq_true rfl) d_Cm_compound_338 rfl ⟨Nat.zero_le _, Nat.zero_le _⟩ (fun H locs hP hD hS => ?_)
                              refine lv_aload_n hx hb d_Cm_compound_341 rfl (lv_at hl 2 rfl) ?_
                              obtain ⟨r89, g89, hf⟩ := bo_some hf
                              refine xg_R (i := v0) (k := 2) hx hb ht hown ck_Cm hK hP (by decide) fk_Cm_43 g89 d_Cm_compound_342 ?_
                              refine lv_bipush (v := 30) hx hb d_Cm_compound_345 (by decide) ?_
                              obtain ⟨j91, ej91, hf⟩ := bo_some hf
                              rw [ej91]
                              obtain ⟨hO9, hf⟩ := ck_some hf
                              obtain ⟨u90, r90, hc90, hf⟩ := bx_some hf
                              refine xV0 (i := j91) (As := [.int 30]) (rest := []) C0 hP hD hS ck_Co hO9 (c_Co_put N hc90) k_Co_put (wd_of 1149 (by decide +kernel) rfl) hi_Co_put hs_Co_put hini_Co rfl rfl hd_Co_put rfl rm_Cm_compound_Co_put hl.1 (Nat.le_of_ble_eq_true rfl) d_Cm_compound_347 rfl ⟨Nat.zero_le _, Nat.zero_le _⟩ (fun H locs hP hD hS => ?_)
                              refine lv_aload_n hx hb d_Cm_compound_350 rfl (lv_at hl 2 rfl) ?_
                              refine lv_iload_n hx hb d_Cm_compound_351 rfl (lv_at hl 1 rfl) ?_
                              obtain ⟨hO9, hf⟩ := ck_some hf
                              obtain ⟨u92, r92, hc92, hf⟩ := bx_some hf
                              refine xV0 (i := v0) (As := [.int r15]) (rest := []) C0 hP hD hS ck_Cm hO9 (c_Cm_forget N hc92) k_Cm_forget (wd_of 1210 (by decide +kernel) rfl) hi_Cm_forget hs_Cm_forget hini_Cm rfl rfl hd_Cm_forget rfl rm_Cm_compound_Cm_forget hl.1 (Nat.le_of_ble_eq_true rfl) d_Cm_compound_352 rfl ⟨Nat.zero_le _, Nat.zero_le _⟩ (fun H locs hP hD hS => ?_)
                              refine lv_aload_n hx hb d_Cm_compound_355 rfl (lv_at hl 2 rfl) ?_
                              obtain ⟨r93, g93, hf⟩ := bo_some hf
                              refine xg_R (i := v0) (k := 2) hx hb ht hown ck_Cm hK hP (by decide) fk_Cm_43 g93 d_Cm_compound_356 ?_
                              refine lv_iload hx hb d_Cm_compound_359 (lv_at hl 0 rfl) ?_
                              obtain ⟨j95, ej95, hf⟩ := bo_some hf
                              rw [ej95]
                              obtain ⟨hO9, hf⟩ := ck_some hf
                              obtain ⟨u94, r94, hc94, hf⟩ := bx_some hf
                              refine xV0 (i := j95) (As := [.int r81]) (rest := []) C0 hP hD hS ck_Co hO9 (c_Co_arrive N hc94) k_Co_arrive (wd_of 1214 (by decide +kernel) rfl) hi_Co_arrive hs_Co_arrive hini_Co rfl rfl hd_Co_arrive rfl rm_Cm_compound_Co_arrive hl.1 (Nat.le_of_ble_eq_true rfl) d_Cm_compound_361 rfl ⟨Nat.zero_le _, Nat.zero_le _⟩ (fun H locs hP hD hS => ?_)
                              refine lv_goto (tgt := 455) hx hb d_Cm_compound_364 (by decide) ?_
                              exact wb_Cm_compound_455 C0 hE N S hSg G hG _ _ hf H locs hP hD hS ls (lv_sub hl [] rfl)
                            · rw [br_n _ hc19] at hf
                              by_cases hc20 : r36 = 20
                              · rw [br_p _ hc20] at hf
                                refine lv_tableIn (tgt := 367) hx hb d_Cm_compound_98 (by rw [hc20]; decide) (by rw [hc20]; decide) (by rw [hc20]; rfl) (by decide) ?_
                                refine lv_aload_n hx hb d_Cm_compound_367 rfl (lv_at hl 1 rfl) ?_
                                refine lv_aload_n hx hb d_Cm_compound_368 rfl (lv_at hl 1 rfl) ?_
                                obtain ⟨r96, g96, hf⟩ := bo_some hf
                                refine xg_R (i := v0) (k := 1) hx hb ht hown ck_Cm hK hP (by decide) fk_Cm_39 g96 d_Cm_compound_369 ?_
                                obtain ⟨j97, ej97, hf⟩ := bo_some hf
                                rw [ej97]
                                obtain ⟨r98, g98, hf⟩ := bo_some hf
                                refine xg_R (i := j97) (k := 3) hx hb ht hown ck_Tr hK hP (by decide) fk_Cm_171 g98 d_Cm_compound_372 ?_
                                refine lv_iload_n hx hb d_Cm_compound_375 rfl (lv_at hl 2 rfl) ?_
                                obtain ⟨j99, ej99, hf⟩ := bo_some hf
                                rw [ej99]
                                obtain ⟨r100, g100, hf⟩ := bo_some hf
                                refine xl_I (i := j99) hx hb hK hP g100 d_Cm_compound_376 ?_
                                refine lv_iconst (v := 0) hx hb d_Cm_compound_377 (by decide) ?_
                                obtain ⟨hO9, hf⟩ := ck_some hf
                                obtain ⟨u101, r101, hc101, hf⟩ := bx_some hf
                                refine xV0 (i := v0) (As := [.int r100, .int 0]) (rest := []) C0 hP hD hS ck_Cm hO9 (hSg.2.2.2.2.2.2.2.2.2.2.1 _ _ _ _ _ _ _ hc101) k_Cm_expression (wd_of 1190 (by decide +kernel) rfl) hi_Cm_expression hs_Cm_expression hini_Cm rfl rfl hd_Cm_expression rfl rm_Cm_compound_Cm_expression hl.1 (Nat.le_of_ble_eq_true rfl) d_Cm_compound_378 rfl ⟨Nat.zero_le _, Nat.zero_le _⟩ (fun H locs hP hD hS => ?_)
                                refine lv_aload_n hx hb d_Cm_compound_381 rfl (lv_at hl 1 rfl) ?_
                                obtain ⟨r102, g102, hf⟩ := bo_some hf
                                refine xg_R (i := v0) (k := 2) hx hb ht hown ck_Cm hK hP (by decide) fk_Cm_43 g102 d_Cm_compound_382 ?_
                                refine lv_bipush (v := 20) hx hb d_Cm_compound_385 (by decide) ?_
                                obtain ⟨j104, ej104, hf⟩ := bo_some hf
                                rw [ej104]
                                obtain ⟨hO9, hf⟩ := ck_some hf
                                obtain ⟨u103, r103, hc103, hf⟩ := bx_some hf
                                refine xV0 (i := j104) (As := [.int 20]) (rest := []) C0 hP hD hS ck_Co hO9 (c_Co_put N hc103) k_Co_put (wd_of 1149 (by decide +kernel) rfl) hi_Co_put hs_Co_put hini_Co rfl rfl hd_Co_put rfl rm_Cm_compound_Co_put hl.1 (Nat.le_of_ble_eq_true rfl) d_Cm_compound_387 rfl ⟨Nat.zero_le _, Nat.zero_le _⟩ (fun H locs hP hD hS => ?_)
                                refine lv_aload_n hx hb d_Cm_compound_390 rfl (lv_at hl 1 rfl) ?_
                                refine lv_aload_n hx hb d_Cm_compound_391 rfl (lv_at hl 1 rfl) ?_
                                obtain ⟨r105, g105, hf⟩ := bo_some hf
                                refine xg_R (i := v0) (k := 1) hx hb ht hown ck_Cm hK hP (by decide) fk_Cm_39 g105 d_Cm_compound_392 ?_
                                obtain ⟨j106, ej106, hf⟩ := bo_some hf
                                rw [ej106]
                                obtain ⟨r107, g107, hf⟩ := bo_some hf
                                refine xg_R (i := j106) (k := 2) hx hb ht hown ck_Tr hK hP (by decide) fk_Cm_125 g107 d_Cm_compound_395 ?_
                                refine lv_iload_n hx hb d_Cm_compound_398 rfl (lv_at hl 2 rfl) ?_
                                obtain ⟨j108, ej108, hf⟩ := bo_some hf
                                rw [ej108]
                                obtain ⟨r109, g109, hf⟩ := bo_some hf
                                refine xl_I (i := j108) hx hb hK hP g109 d_Cm_compound_399 ?_
                                obtain ⟨hO9, hf⟩ := ck_some hf
                                obtain ⟨u110, r110, hc110, hf⟩ := bx_some hf
                                refine xV0 (i := v0) (As := [.int r109]) (rest := []) C0 hP hD hS ck_Cm hO9 (c_Cm_pattern N hE hc110) k_Cm_pattern (wd_of 1158 (by decide +kernel) rfl) hi_Cm_pattern hs_Cm_pattern hini_Cm rfl rfl hd_Cm_pattern rfl rm_Cm_compound_Cm_pattern hl.1 (Nat.le_of_ble_eq_true rfl) d_Cm_compound_400 rfl ⟨Nat.zero_le _, Nat.zero_le _⟩ (fun H locs hP hD hS => ?_)
                                refine lv_aload_n hx hb d_Cm_compound_403 rfl (lv_at hl 1 rfl) ?_
                                obtain ⟨r111, g111, hf⟩ := bo_some hf
                                refine xg_R (i := v0) (k := 2) hx hb ht hown ck_Cm hK hP (by decide) fk_Cm_43 g111 d_Cm_compound_404 ?_
                                refine lv_bipush (v := 8) hx hb d_Cm_compound_407 (by decide) ?_
                                obtain ⟨j113, ej113, hf⟩ := bo_some hf
                                rw [ej113]
                                obtain ⟨hO9, hf⟩ := ck_some hf
                                obtain ⟨u112, r112, hc112, hf⟩ := bx_some hf
                                refine xV0 (i := j113) (As := [.int 8]) (rest := []) C0 hP hD hS ck_Co hO9 (c_Co_put N hc112) k_Co_put (wd_of 1149 (by decide +kernel) rfl) hi_Co_put hs_Co_put hini_Co rfl rfl hd_Co_put rfl rm_Cm_compound_Co_put hl.1 (Nat.le_of_ble_eq_true rfl) d_Cm_compound_409 rfl ⟨Nat.zero_le _, Nat.zero_le _⟩ (fun H locs hP hD hS => ?_)
                                refine lv_goto (tgt := 455) hx hb d_Cm_compound_412 (by decide) ?_
                                exact wb_Cm_compound_455 C0 hE N S hSg G hG _ _ hf H locs hP hD hS ls (lv_sub hl [] rfl)
                              · rw [br_n _ hc20] at hf
                                by_cases hc21 : r36 = 21
                                · rw [br_p _ hc21] at hf
                                  refine lv_tableIn (tgt := 415) hx hb d_Cm_compound_98 (by rw [hc21]; decide) (by rw [hc21]; decide) (by rw [hc21]; rfl) (by decide) ?_
                                  refine lv_aload_n hx hb d_Cm_compound_415 rfl (lv_at hl 1 rfl) ?_
                                  refine lv_aload_n hx hb d_Cm_compound_416 rfl (lv_at hl 1 rfl) ?_
                                  obtain ⟨r114, g114, hf⟩ := bo_some hf
                                  refine xg_R (i := v0) (k := 1) hx hb ht hown ck_Cm hK hP (by decide) fk_Cm_39 g114 d_Cm_compound_417 ?_
                                  obtain ⟨j115, ej115, hf⟩ := bo_some hf
                                  rw [ej115]
                                  obtain ⟨r116, g116, hf⟩ := bo_some hf
                                  refine xg_R (i := j115) (k := 2) hx hb ht hown ck_Tr hK hP (by decide) fk_Cm_125 g116 d_Cm_compound_420 ?_
                                  refine lv_iload_n hx hb d_Cm_compound_423 rfl (lv_at hl 2 rfl) ?_
                                  obtain ⟨j117, ej117, hf⟩ := bo_some hf
                                  rw [ej117]
                                  obtain ⟨r118, g118, hf⟩ := bo_some hf
                                  refine xl_I (i := j117) hx hb hK hP g118 d_Cm_compound_424 ?_
                                  refine lv_iconst (v := 0) hx hb d_Cm_compound_425 (by decide) ?_
                                  obtain ⟨hO9, hf⟩ := ck_some hf
                                  obtain ⟨u119, r119, hc119, hf⟩ := bx_some hf
                                  refine xV0 (i := v0) (As := [.int r118, .int 0]) (rest := []) C0 hP hD hS ck_Cm hO9 (hSg.2.2.2.2.2.2.2.2.2.2.1 _ _ _ _ _ _ _ hc119) k_Cm_expression (wd_of 1190 (by decide +kernel) rfl) hi_Cm_expression hs_Cm_expression hini_Cm rfl rfl hd_Cm_expression rfl rm_Cm_compound_Cm_expression hl.1 (Nat.le_of_ble_eq_true rfl) d_Cm_compound_426 rfl ⟨Nat.zero_le _, Nat.zero_le _⟩ (fun H locs hP hD hS => ?_)
                                  refine lv_aload_n hx hb d_Cm_compound_429 rfl (lv_at hl 1 rfl) ?_
                                  refine lv_aload_n hx hb d_Cm_compound_430 rfl (lv_at hl 1 rfl) ?_
                                  obtain ⟨r120, g120, hf⟩ := bo_some hf
                                  refine xg_R (i := v0) (k := 1) hx hb ht hown ck_Cm hK hP (by decide) fk_Cm_39 g120 d_Cm_compound_431 ?_
                                  obtain ⟨j121, ej121, hf⟩ := bo_some hf
                                  rw [ej121]
                                  obtain ⟨r122, g122, hf⟩ := bo_some hf
                                  refine xg_R (i := j121) (k := 3) hx hb ht hown ck_Tr hK hP (by decide) fk_Cm_171 g122 d_Cm_compound_434 ?_
                                  refine lv_iload_n hx hb d_Cm_compound_437 rfl (lv_at hl 2 rfl) ?_
                                  obtain ⟨j123, ej123, hf⟩ := bo_some hf
                                  rw [ej123]
                                  obtain ⟨r124, g124, hf⟩ := bo_some hf
                                  refine xl_I (i := j123) hx hb hK hP g124 d_Cm_compound_438 ?_
                                  refine lv_iconst (v := 0) hx hb d_Cm_compound_439 (by decide) ?_
                                  obtain ⟨hO9, hf⟩ := ck_some hf
                                  obtain ⟨u125, r125, hc125, hf⟩ := bx_some hf
                                  refine xV0 (i := v0) (As := [.int r124, .int 0]) (rest := []) C0 hP hD hS ck_Cm hO9 (hSg.2.2.2.2.2.2.2.2.2.2.1 _ _ _ _ _ _ _ hc125) k_Cm_expression (wd_of 1190 (by decide +kernel) rfl) hi_Cm_expression hs_Cm_expression hini_Cm rfl rfl hd_Cm_expression rfl rm_Cm_compound_Cm_expression hl.1 (Nat.le_of_ble_eq_true rfl) d_Cm_compound_440 rfl ⟨Nat.zero_le _, Nat.zero_le _⟩ (fun H locs hP hD hS => ?_)
                                  refine lv_aload_n hx hb d_Cm_compound_443 rfl (lv_at hl 1 rfl) ?_
                                  obtain ⟨r126, g126, hf⟩ := bo_some hf
                                  refine xg_R (i := v0) (k := 2) hx hb ht hown ck_Cm hK hP (by decide) fk_Cm_43 g126 d_Cm_compound_444 ?_
                                  refine lv_bipush (v := 17) hx hb d_Cm_compound_447 (by decide) ?_
                                  obtain ⟨j128, ej128, hf⟩ := bo_some hf
                                  rw [ej128]
                                  obtain ⟨hO9, hf⟩ := ck_some hf
                                  obtain ⟨u127, r127, hc127, hf⟩ := bx_some hf
                                  refine xV0 (i := j128) (As := [.int 17]) (rest := []) C0 hP hD hS ck_Co hO9 (c_Co_put N hc127) k_Co_put (wd_of 1149 (by decide +kernel) rfl) hi_Co_put hs_Co_put hini_Co rfl rfl hd_Co_put rfl rm_Cm_compound_Co_put hl.1 (Nat.le_of_ble_eq_true rfl) d_Cm_compound_449 rfl ⟨Nat.zero_le _, Nat.zero_le _⟩ (fun H locs hP hD hS => ?_)
                                  refine lv_goto (tgt := 455) hx hb d_Cm_compound_452 (by decide) ?_
                                  exact wb_Cm_compound_455 C0 hE N S hSg G hG _ _ hf H locs hP hD hS ls (lv_sub hl [] rfl)
                                · rw [br_n _ hc21] at hf
                                  refine lv_tableOut (tgt := 455) hx hb d_Cm_compound_98 (by have z0 := tiN hc8; have z1 := tiN hc9; have z2 := tiN hc10; have z3 := tiN hc11; have z4 := tiN hc12; have z5 := tiN hc13; have z6 := tiN hc14; have z7 := tiN hc15; have z8 := tiN hc16; have z9 := tiN hc17; have z10 := tiN hc18; have z11 := tiN hc19; have z12 := tiN hc20; have z13 := tiN hc21; rw [show (8 : Int32).toInt = 8 from by decide] at z0; rw [show (9 : Int32).toInt = 9 from by decide] at z1; rw [show (10 : Int32).toInt = 10 from by decide] at z2; rw [show (11 : Int32).toInt = 11 from by decide] at z3; rw [show (12 : Int32).toInt = 12 from by decide] at z4; rw [show (13 : Int32).toInt = 13 from by decide] at z5; rw [show (14 : Int32).toInt = 14 from by decide] at z6; rw [show (15 : Int32).toInt = 15 from by decide] at z7; rw [show (16 : Int32).toInt = 16 from by decide] at z8; rw [show (17 : Int32).toInt = 17 from by decide] at z9; rw [show (18 : Int32).toInt = 18 from by decide] at z10; rw [show (19 : Int32).toInt = 19 from by decide] at z11; rw [show (20 : Int32).toInt = 20 from by decide] at z12; rw [show (21 : Int32).toInt = 21 from by decide] at z13; omega) (by decide) ?_
                                  exact wb_Cm_compound_455 C0 hE N S hSg G hG _ _ hf H locs hP hD hS ls (lv_sub hl [] rfl)
    · rw [br_p _ hc] at hf
      exact wb_Cm_compound_33 C0 hE N S hSg G hG _ _ _ _ hf H locs hP hD hS ls (lv_sub hl [1, 2] rfl)
def fm_Cm_compound (N : Nat) (S : SG_Cm_fun) (u : CS) (v0 : Nat) (v1 : Int32) (v2 : Int32) : Option (CS × Unit) := fb_Cm_compound_0 N S () u v0 v1 v2
set_option maxRecDepth 100000 in
set_option maxHeartbeats 4000000 in
theorem cs_Cm_compound (N : Nat) {d : Nat} {l : Launch} {s0 : State} {b0 : Nat} {D : va_G} {cB cI cJ cZ cS cP : ClassId} {sk sv : Nat → Nat} {ad : Nat → Nat} {u : CS} {sz : Nat} {v0 : Nat} {v1 : Int32} {v2 : Int32} {x : CS × Unit} (hE : ENV s0 b0 sk sv) (S : SG_Cm_fun) (hSg : HS_Cm_fun l s0 b0 D cB cI cJ cZ cS cP d S) (hf : fm_Cm_compound N S u v0 v1 v2 = some x) : Met l y_Cm_compound (wd_ws y_Cm_compound b_Cm_compound 7 none) (rg_Cm_fun (d + 1)) (xPc s0 b0 D cB cI cJ cZ cS cP ad u sz [.ref (ad v0), .int v1, .int v2]) (xQ0 D cB cI cJ cZ cS cP (xA cB cI cJ cZ cS cP ad u sz) ad x.1 none) 0 0 (xA cB cI cJ cZ cS cP ad u sz) :=
  xMet (by decide) rfl (Nat.le_of_ble_eq_true rfl) (fun p e s m below meth c ls hsz hnm C0 hP hD hS hl =>
    wb_Cm_compound_0 C0 hE N S hSg () trivial u _ _ _ x hf s.heap [] hP hD hS ls (lv_sub hl [0, 1, 2] rfl))
theorem rm_Cm_apply_Cm_notInGuard {d : Nat} : (rm_Cm_notInGuard).frames + 1 ≤ (rg_Cm_fun (d + 1)).frames ∧ 8 + (2 + 11) + (rm_Cm_notInGuard).locals ≤ (rg_Cm_fun (d + 1)).locals := by
  show 2 + 1 ≤ 304 + (d + 1) ∧ 8 + (2 + 11) + 45 ≤ 6688 + 28 * (d + 1)
  omega
theorem rm_Cm_apply_Co_put {d : Nat} : (rm_Co_put).frames + 1 ≤ (rg_Cm_fun (d + 1)).frames ∧ 8 + (2 + 11) + (rm_Co_put).locals ≤ (rg_Cm_fun (d + 1)).locals := by
  show 0 + 1 ≤ 304 + (d + 1) ∧ 8 + (2 + 11) + 0 ≤ 6688 + 28 * (d + 1)
  omega
theorem rm_Cm_apply_Cm_expression {d : Nat} : (rg_Cm_fun d).frames + 1 ≤ (rg_Cm_fun (d + 1)).frames ∧ 8 + (4 + 11) + (rg_Cm_fun d).locals ≤ (rg_Cm_fun (d + 1)).locals := by
  show 304 + d + 1 ≤ 304 + (d + 1) ∧ 8 + (4 + 11) + (6688 + 28 * d) ≤ 6688 + 28 * (d + 1)
  omega
theorem rm_Cm_apply_Cm_row {d : Nat} : (rg_Cm_fun d).frames + 1 ≤ (rg_Cm_fun (d + 1)).frames ∧ 8 + (3 + 11) + (rg_Cm_fun d).locals ≤ (rg_Cm_fun (d + 1)).locals := by
  show 304 + d + 1 ≤ 304 + (d + 1) ∧ 8 + (3 + 11) + (6688 + 28 * d) ≤ 6688 + 28 * (d + 1)
  omega
def fb_Cm_apply_87 (N : Nat) (S : SG_Cm_fun) (G : (CS → Nat → Int32 → Int32 → Int32 → Option (CS × Unit))) (u : CS) (v0 : Nat) (v2 : Int32) (v3 : Int32) (v4 : Int32) (t0 : Option Nat) (t1 : Int32) : Option (CS × Unit) := bo t0 (fun j2 => ck (isO u j2 2) (bx (fm_Co_put N u j2 t1) (fun u1 r1 => bo (gR u1 v0 3 2) (fun r3 => bo (gR u1 v0 3 1) (fun r4 => bo r4 (fun j5 => bo (gR u1 j5 10 3) (fun r6 => bo r6 (fun j7 => bo (aI u1 j7 4 v4) (fun r8 => bo r3 (fun j10 => ck (isO u1 j10 2) (bx (fm_Co_put N u1 j10 r8) (fun u9 r9 => bo (gR u9 v0 3 2) (fun r11 => bo (gR u9 v0 3 0) (fun r12 => bo r12 (fun j13 => bo (gR u9 j13 9 4) (fun r14 => bo r14 (fun j15 => bo (aI u9 j15 4 v3) (fun r16 => bo r11 (fun j18 => ck (isO u9 j18 2) (bx (fm_Co_put N u9 j18 r16) (fun u17 r17 => bo (gR u17 v0 3 1) (fun r19 => bo r19 (fun j20 => bo (gR u17 j20 10 5) (fun r21 => bo r21 (fun j22 => bo (aI u17 j22 4 v4) (fun r23 => G u17 (v0) (v2) (v3) (r23)))))))))))))))))))))))))))
set_option maxRecDepth 100000 in
set_option maxHeartbeats 4000000 in
theorem wb_Cm_apply_87 {p : Program} {l : Launch} {e : Env} {s : State} {m : MethodId} {args : Array Value} {below : List Frame} {meth : Method} {c : Code} {s0 : State} {b0 : Nat} {D : va_G} {cB cI cJ cZ cS cP : ClassId} {A : Nat → Prop} {sk sv : Nat → Nat} {d : Nat} {ad : Nat → Nat} (C0 : XCx p s s0 b0 m args meth c R_Cm b_Cm_apply 5 none D cB cI cJ cZ cS cP A) (hE : ENV s0 b0 sk sv) (N : Nat) (S : SG_Cm_fun) (hSg : HS_Cm_fun l s0 b0 D cB cI cJ cZ cS cP d S) (G : (CS → Nat → Int32 → Int32 → Int32 → Option (CS × Unit))) (hG : (∀ (u : CS) (v0 : Nat) (v2 : Int32) (v3 : Int32) (v4 : Int32) (x : CS × Unit), G u v0 v2 v3 v4 = some x → ∀ (H : Heap) (locs : List Loc), va_P D cls (wC cB cI cJ cZ cS cP ad u) H → va_D A (wC cB cI cJ cZ cS cP ad u) → va_S A s.heap H locs → ∀ (ls : Array Slot), lv_has ls 5 [(0, .ref (ad v0)), (2, .int v2), (3, .int v3), (4, .int v4)] → W p l e (rg_Cm_fun (d + 1)) s m args below meth c H locs 0 0 (MQ below (xQ0 D cB cI cJ cZ cS cP A ad x.1 none) args s 0 0 A) (F0 m 40 ls []))) : ∀ (u : CS) (v0 : Nat) (v2 : Int32) (v3 : Int32) (v4 : Int32) (t0 : Option Nat) (t1 : Int32) (x : CS × Unit), fb_Cm_apply_87 N S G u v0 v2 v3 v4 t0 t1 = some x → ∀ (H : Heap) (locs : List Loc), va_P D cls (wC cB cI cJ cZ cS cP ad u) H → va_D A (wC cB cI cJ cZ cS cP ad u) → va_S A s.heap H locs → ∀ (ls : Array Slot), lv_has ls 5 [(0, .ref (ad v0)), (2, .int v2), (3, .int v3), (4, .int v4)] → W p l e (rg_Cm_fun (d + 1)) s m args below meth c H locs 0 0 (MQ below (xQ0 D cB cI cJ cZ cS cP A ad x.1 none) args s 0 0 A) (F0 m 87 ls [.int t1, va_rf (Option.map ad t0)]) := by
  intro u v0 v2 v3 v4 t0 t1 x hf H locs hP hD hS ls hl
  obtain ⟨hx, hb, hr, hml, ht, hown, hK, hA, hlocks, hA0, hO, hbs⟩ := id C0
  unfold fb_Cm_apply_87 at hf
  obtain ⟨j2, ej2, hf⟩ := bo_some hf
  rw [ej2]
  obtain ⟨hO9, hf⟩ := ck_some hf
  obtain ⟨u1, r1, hc1, hf⟩ := bx_some hf
  refine xV0 (i := j2) (As := [.int t1]) (rest := []) C0 hP hD hS ck_Co hO9 (c_Co_put N hc1) k_Co_put (wd_of 1149 (by decide +kernel) rfl) hi_Co_put hs_Co_put hini_Co rfl rfl hd_Co_put rfl rm_Cm_apply_Co_put hl.1 (Nat.le_of_ble_eq_true rfl) d_Cm_apply_87 rfl ⟨Nat.zero_le _, Nat.zero_le _⟩ (fun H locs hP hD hS => ?_)
  refine lv_aload_n hx hb d_Cm_apply_90 rfl (lv_at hl 0 rfl) ?_
  obtain ⟨r3, g3, hf⟩ := bo_some hf
  refine xg_R (i := v0) (k := 2) hx hb ht hown ck_Cm hK hP (by decide) fk_Cm_43 g3 d_Cm_apply_91 ?_
  refine lv_aload_n hx hb d_Cm_apply_94 rfl (lv_at hl 0 rfl) ?_
  obtain ⟨r4, g4, hf⟩ := bo_some hf
  refine xg_R (i := v0) (k := 1) hx hb ht hown ck_Cm hK hP (by decide) fk_Cm_39 g4 d_Cm_apply_95 ?_
  obtain ⟨j5, ej5, hf⟩ := bo_some hf
  rw [ej5]
  obtain ⟨r6, g6, hf⟩ := bo_some hf
  refine xg_R (i := j5) (k := 3) hx hb ht hown ck_Tr hK hP (by decide) fk_Cm_171 g6 d_Cm_apply_98 ?_
  refine lv_iload hx hb d_Cm_apply_101 (lv_at hl 3 rfl) ?_
  obtain ⟨j7, ej7, hf⟩ := bo_some hf
  rw [ej7]
  obtain ⟨r8, g8, hf⟩ := bo_some hf
  refine xl_I (i := j7) hx hb hK hP g8 d_Cm_apply_103 ?_
  obtain ⟨j10, ej10, hf⟩ := bo_some hf
  rw [ej10]
  obtain ⟨hO9, hf⟩ := ck_some hf
  obtain ⟨u9, r9, hc9, hf⟩ := bx_some hf
  refine xV0 (i := j10) (As := [.int r8]) (rest := []) C0 hP hD hS ck_Co hO9 (c_Co_put N hc9) k_Co_put (wd_of 1149 (by decide +kernel) rfl) hi_Co_put hs_Co_put hini_Co rfl rfl hd_Co_put rfl rm_Cm_apply_Co_put hl.1 (Nat.le_of_ble_eq_true rfl) d_Cm_apply_104 rfl ⟨Nat.zero_le _, Nat.zero_le _⟩ (fun H locs hP hD hS => ?_)
  refine lv_aload_n hx hb d_Cm_apply_107 rfl (lv_at hl 0 rfl) ?_
  obtain ⟨r11, g11, hf⟩ := bo_some hf
  refine xg_R (i := v0) (k := 2) hx hb ht hown ck_Cm hK hP (by decide) fk_Cm_43 g11 d_Cm_apply_108 ?_
  refine lv_aload_n hx hb d_Cm_apply_111 rfl (lv_at hl 0 rfl) ?_
  obtain ⟨r12, g12, hf⟩ := bo_some hf
  refine xg_R (i := v0) (k := 0) hx hb ht hown ck_Cm hK hP (by decide) fk_Cm_35 g12 d_Cm_apply_112 ?_
  obtain ⟨j13, ej13, hf⟩ := bo_some hf
  rw [ej13]
  obtain ⟨r14, g14, hf⟩ := bo_some hf
  refine xg_R (i := j13) (k := 4) hx hb ht hown ck_To hK hP (by decide) fk_Cm_74 g14 d_Cm_apply_115 ?_
  refine lv_iload_n hx hb d_Cm_apply_118 rfl (lv_at hl 2 rfl) ?_
  obtain ⟨j15, ej15, hf⟩ := bo_some hf
  rw [ej15]
  obtain ⟨r16, g16, hf⟩ := bo_some hf
  refine xl_I (i := j15) hx hb hK hP g16 d_Cm_apply_119 ?_
  obtain ⟨j18, ej18, hf⟩ := bo_some hf
  rw [ej18]
  obtain ⟨hO9, hf⟩ := ck_some hf
  obtain ⟨u17, r17, hc17, hf⟩ := bx_some hf
  refine xV0 (i := j18) (As := [.int r16]) (rest := []) C0 hP hD hS ck_Co hO9 (c_Co_put N hc17) k_Co_put (wd_of 1149 (by decide +kernel) rfl) hi_Co_put hs_Co_put hini_Co rfl rfl hd_Co_put rfl rm_Cm_apply_Co_put hl.1 (Nat.le_of_ble_eq_true rfl) d_Cm_apply_120 rfl ⟨Nat.zero_le _, Nat.zero_le _⟩ (fun H locs hP hD hS => ?_)
  refine lv_aload_n hx hb d_Cm_apply_123 rfl (lv_at hl 0 rfl) ?_
  obtain ⟨r19, g19, hf⟩ := bo_some hf
  refine xg_R (i := v0) (k := 1) hx hb ht hown ck_Cm hK hP (by decide) fk_Cm_39 g19 d_Cm_apply_124 ?_
  obtain ⟨j20, ej20, hf⟩ := bo_some hf
  rw [ej20]
  obtain ⟨r21, g21, hf⟩ := bo_some hf
  refine xg_R (i := j20) (k := 5) hx hb ht hown ck_Tr hK hP (by decide) fk_Cm_139 g21 d_Cm_apply_127 ?_
  refine lv_iload hx hb d_Cm_apply_130 (lv_at hl 3 rfl) ?_
  obtain ⟨j22, ej22, hf⟩ := bo_some hf
  rw [ej22]
  obtain ⟨r23, g23, hf⟩ := bo_some hf
  refine xl_I (i := j22) hx hb hK hP g23 d_Cm_apply_132 ?_
  refine lv_istore (lv' := [(4, .int r23), (0, .ref (ad v0)), (2, .int v2), (3, .int v3)]) hx hb d_Cm_apply_133 hl (by decide) (by first | rfl | simp [List.filter, cat_rf]) (fun ls hl => ?_)
  refine lv_goto (tgt := 40) hx hb d_Cm_apply_135 (by decide) ?_
  exact hG _ _ _ _ _ _ hf H locs hP hD hS ls (lv_sub hl [1, 2, 3, 0] rfl)
def fb_Cm_apply_85 (N : Nat) (S : SG_Cm_fun) (G : (CS → Nat → Int32 → Int32 → Int32 → Option (CS × Unit))) (u : CS) (v0 : Nat) (v2 : Int32) (v3 : Int32) (v4 : Int32) (t0 : Option Nat) : Option (CS × Unit) := fb_Cm_apply_87 N S G u (v0) (v2) (v3) (v4) (t0) (27)
set_option maxRecDepth 100000 in
set_option maxHeartbeats 4000000 in
theorem wb_Cm_apply_85 {p : Program} {l : Launch} {e : Env} {s : State} {m : MethodId} {args : Array Value} {below : List Frame} {meth : Method} {c : Code} {s0 : State} {b0 : Nat} {D : va_G} {cB cI cJ cZ cS cP : ClassId} {A : Nat → Prop} {sk sv : Nat → Nat} {d : Nat} {ad : Nat → Nat} (C0 : XCx p s s0 b0 m args meth c R_Cm b_Cm_apply 5 none D cB cI cJ cZ cS cP A) (hE : ENV s0 b0 sk sv) (N : Nat) (S : SG_Cm_fun) (hSg : HS_Cm_fun l s0 b0 D cB cI cJ cZ cS cP d S) (G : (CS → Nat → Int32 → Int32 → Int32 → Option (CS × Unit))) (hG : (∀ (u : CS) (v0 : Nat) (v2 : Int32) (v3 : Int32) (v4 : Int32) (x : CS × Unit), G u v0 v2 v3 v4 = some x → ∀ (H : Heap) (locs : List Loc), va_P D cls (wC cB cI cJ cZ cS cP ad u) H → va_D A (wC cB cI cJ cZ cS cP ad u) → va_S A s.heap H locs → ∀ (ls : Array Slot), lv_has ls 5 [(0, .ref (ad v0)), (2, .int v2), (3, .int v3), (4, .int v4)] → W p l e (rg_Cm_fun (d + 1)) s m args below meth c H locs 0 0 (MQ below (xQ0 D cB cI cJ cZ cS cP A ad x.1 none) args s 0 0 A) (F0 m 40 ls []))) : ∀ (u : CS) (v0 : Nat) (v2 : Int32) (v3 : Int32) (v4 : Int32) (t0 : Option Nat) (x : CS × Unit), fb_Cm_apply_85 N S G u v0 v2 v3 v4 t0 = some x → ∀ (H : Heap) (locs : List Loc), va_P D cls (wC cB cI cJ cZ cS cP ad u) H → va_D A (wC cB cI cJ cZ cS cP ad u) → va_S A s.heap H locs → ∀ (ls : Array Slot), lv_has ls 5 [(0, .ref (ad v0)), (2, .int v2), (3, .int v3), (4, .int v4)] → W p l e (rg_Cm_fun (d + 1)) s m args below meth c H locs 0 0 (MQ below (xQ0 D cB cI cJ cZ cS cP A ad x.1 none) args s 0 0 A) (F0 m 85 ls [va_rf (Option.map ad t0)]) := by
  intro u v0 v2 v3 v4 t0 x hf H locs hP hD hS ls hl
  obtain ⟨hx, hb, hr, hml, ht, hown, hK, hA, hlocks, hA0, hO, hbs⟩ := id C0
  unfold fb_Cm_apply_85 at hf
  refine lv_bipush (v := 27) hx hb d_Cm_apply_85 (by decide) ?_
  exact wb_Cm_apply_87 C0 hE N S hSg G hG _ _ _ _ _ _ _ _ hf H locs hP hD hS ls (lv_sub hl [0, 1, 2, 3] rfl)
def fb_Cm_apply_40 (N : Nat) (S : SG_Cm_fun) (G : (CS → Nat → Int32 → Int32 → Int32 → Option (CS × Unit))) (u : CS) (v0 : Nat) (v2 : Int32) (v3 : Int32) (v4 : Int32) : Option (CS × Unit) := br (decide (v4 = 0)) (some (u, ())) (bo (gR u v0 3 1) (fun r24 => bo r24 (fun j25 => bo (gR u j25 10 2) (fun r26 => bo r26 (fun j27 => bo (aI u j27 4 v4) (fun r28 => ck (isO u v0 3) (bx (S.2.2.2.2.2.2.2.2.2.1 u v0 r28) (fun u29 r29 => bo (gR u29 v0 3 2) (fun r30 => br (decide (v2 = 0)) (fb_Cm_apply_85 N S G u29 (v0) (v2) (v3) (v4) (r30)) (bo (gR u29 v0 3 1) (fun r31 => bo r31 (fun j32 => bo (gR u29 j32 10 5) (fun r33 => bo r33 (fun j34 => bo (aI u29 j34 4 v4) (fun r35 => br (decide (r35 = 0)) (fb_Cm_apply_87 N S G u29 (v0) (v2) (v3) (v4) (r30) (28)) (fb_Cm_apply_85 N S G u29 (v0) (v2) (v3) (v4) (r30)))))))))))))))))
set_option maxRecDepth 100000 in
set_option maxHeartbeats 4000000 in
theorem wb_Cm_apply_40 {p : Program} {l : Launch} {e : Env} {s : State} {m : MethodId} {args : Array Value} {below : List Frame} {meth : Method} {c : Code} {s0 : State} {b0 : Nat} {D : va_G} {cB cI cJ cZ cS cP : ClassId} {A : Nat → Prop} {sk sv : Nat → Nat} {d : Nat} {ad : Nat → Nat} (C0 : XCx p s s0 b0 m args meth c R_Cm b_Cm_apply 5 none D cB cI cJ cZ cS cP A) (hE : ENV s0 b0 sk sv) (N : Nat) (S : SG_Cm_fun) (hSg : HS_Cm_fun l s0 b0 D cB cI cJ cZ cS cP d S) (G : (CS → Nat → Int32 → Int32 → Int32 → Option (CS × Unit))) (hG : (∀ (u : CS) (v0 : Nat) (v2 : Int32) (v3 : Int32) (v4 : Int32) (x : CS × Unit), G u v0 v2 v3 v4 = some x → ∀ (H : Heap) (locs : List Loc), va_P D cls (wC cB cI cJ cZ cS cP ad u) H → va_D A (wC cB cI cJ cZ cS cP ad u) → va_S A s.heap H locs → ∀ (ls : Array Slot), lv_has ls 5 [(0, .ref (ad v0)), (2, .int v2), (3, .int v3), (4, .int v4)] → W p l e (rg_Cm_fun (d + 1)) s m args below meth c H locs 0 0 (MQ below (xQ0 D cB cI cJ cZ cS cP A ad x.1 none) args s 0 0 A) (F0 m 40 ls []))) : ∀ (u : CS) (v0 : Nat) (v2 : Int32) (v3 : Int32) (v4 : Int32) (x : CS × Unit), fb_Cm_apply_40 N S G u v0 v2 v3 v4 = some x → ∀ (H : Heap) (locs : List Loc), va_P D cls (wC cB cI cJ cZ cS cP ad u) H → va_D A (wC cB cI cJ cZ cS cP ad u) → va_S A s.heap H locs → ∀ (ls : Array Slot), lv_has ls 5 [(0, .ref (ad v0)), (2, .int v2), (3, .int v3), (4, .int v4)] → W p l e (rg_Cm_fun (d + 1)) s m args below meth c H locs 0 0 (MQ below (xQ0 D cB cI cJ cZ cS cP A ad x.1 none) args s 0 0 A) (F0 m 40 ls []) := by
  intro u v0 v2 v3 v4 x hf H locs hP hD hS ls hl
  obtain ⟨hx, hb, hr, hml, ht, hown, hK, hA, hlocks, hA0, hO, hbs⟩ := id C0
  unfold fb_Cm_apply_40 at hf
  refine lv_iload hx hb d_Cm_apply_40 (lv_at hl 3 rfl) ?_
  refine lv_if_eq (tgt := 138) hx hb d_Cm_apply_42 (by decide) (fun hc => ?_) (fun hc => ?_)
  · rw [br_p _ hc] at hf
    exact xr0_v C0 hP hD hS hf d_Cm_apply_138
  · rw [br_n _ hc] at hf
    refine lv_aload_n hx hb d_Cm_apply_45 rfl (lv_at hl 0 rfl) ?_
    refine lv_aload_n hx hb d_Cm_apply_46 rfl (lv_at hl 0 rfl) ?_
    obtain ⟨r24, g24, hf⟩ := bo_some hf
    refine xg_R (i := v0) (k := 1) hx hb ht hown ck_Cm hK hP (by decide) fk_Cm_39 g24 d_Cm_apply_47 ?_
    obtain ⟨j25, ej25, hf⟩ := bo_some hf
    rw [ej25]
    obtain ⟨r26, g26, hf⟩ := bo_some hf
    refine xg_R (i := j25) (k := 2) hx hb ht hown ck_Tr hK hP (by decide) fk_Cm_125 g26 d_Cm_apply_50 ?_
    refine lv_iload hx hb d_Cm_apply_53 (lv_at hl 3 rfl) ?_
    obtain ⟨j27, ej27, hf⟩ := bo_some hf
    rw [ej27]
    obtain ⟨r28, g28, hf⟩ := bo_some hf
    refine xl_I (i := j27) hx hb hK hP g28 d_Cm_apply_55 ?_
    obtain ⟨hO9, hf⟩ := ck_some hf
    obtain ⟨u29, r29, hc29, hf⟩ := bx_some hf
    refine xV0 (i := v0) (As := [.int r28]) (rest := []) C0 hP hD hS ck_Cm hO9 (hSg.2.2.2.2.2.2.2.2.2.1 _ _ _ _ _ _ hc29) k_Cm_row (wd_of 1198 (by decide +kernel) rfl) hi_Cm_row hs_Cm_row hini_Cm rfl rfl hd_Cm_row rfl rm_Cm_apply_Cm_row hl.1 (Nat.le_of_ble_eq_true rfl) d_Cm_apply_56 rfl ⟨Nat.zero_le _, Nat.zero_le _⟩ (fun H locs hP hD hS => ?_)
    refine lv_aload_n hx hb d_Cm_apply_59 rfl (lv_at hl 0 rfl) ?_
    obtain ⟨r30, g30, hf⟩ := bo_some hf
    refine xg_R (i := v0) (k := 2) hx hb ht hown ck_Cm hK hP (by decide) fk_Cm_43 g30 d_Cm_apply_60 ?_
    refine lv_iload_n hx hb d_Cm_apply_63 rfl (lv_at hl 1 rfl) ?_
    refine lv_if_eq (tgt := 85) hx hb d_Cm_apply_64 (by decide) (fun hc => ?_) (fun hc => ?_)
    · rw [br_p _ hc] at hf
      exact wb_Cm_apply_85 C0 hE N S hSg G hG _ _ _ _ _ _ _ hf H locs hP hD hS ls (lv_sub hl [0, 1, 2, 3] rfl)
    · rw [br_n _ hc] at hf
      refine lv_aload_n hx hb d_Cm_apply_67 rfl (lv_at hl 0 rfl) ?_
      obtain ⟨r31, g31, hf⟩ := bo_some hf
      refine xg_R (i := v0) (k := 1) hx hb ht hown ck_Cm hK hP (by decide) fk_Cm_39 g31 d_Cm_apply_68 ?_
      obtain ⟨j32, ej32, hf⟩ := bo_some hf
      rw [ej32]
      obtain ⟨r33, g33, hf⟩ := bo_some hf
      refine xg_R (i := j32) (k := 5) hx hb ht hown ck_Tr hK hP (by decide) fk_Cm_139 g33 d_Cm_apply_71 ?_
      refine lv_iload hx hb d_Cm_apply_74 (lv_at hl 3 rfl) ?_
      obtain ⟨j34, ej34, hf⟩ := bo_some hf
      rw [ej34]
      obtain ⟨r35, g35, hf⟩ := bo_some hf
      refine xl_I (i := j34) hx hb hK hP g35 d_Cm_apply_76 ?_
      refine lv_if_ne (tgt := 85) hx hb d_Cm_apply_77 (by decide) (fun hc => ?_) (fun hc => ?_)
      · rw [br_n _ hc] at hf
        exact wb_Cm_apply_85 C0 hE N S hSg G hG _ _ _ _ _ _ _ hf H locs hP hD hS ls (lv_sub hl [0, 1, 2, 3] rfl)
      · rw [br_p _ hc] at hf
        refine lv_bipush (v := 28) hx hb d_Cm_apply_80 (by decide) ?_
        refine lv_goto (tgt := 87) hx hb d_Cm_apply_82 (by decide) ?_
        exact wb_Cm_apply_87 C0 hE N S hSg G hG _ _ _ _ _ _ _ _ hf H locs hP hD hS ls (lv_sub hl [0, 1, 2, 3] rfl)
def fb_Cm_apply_0 (N : Nat) (S : SG_Cm_fun) (G : (CS → Nat → Int32 → Int32 → Int32 → Option (CS × Unit))) (u : CS) (v0 : Nat) (v1 : Int32) (v2 : Int32) : Option (CS × Unit) := bo (gR u v0 3 1) (fun r36 => bo r36 (fun j37 => bo (gR u j37 10 1) (fun r38 => bo r38 (fun j39 => bo (aI u j39 4 v1) (fun r40 => ck (isO u v0 3) (bx (fm_Cm_notInGuard N u v0 r40) (fun u41 r41 => bo (gR u41 v0 3 1) (fun r42 => bo r42 (fun j43 => bo (gR u41 j43 10 2) (fun r44 => bo r44 (fun j45 => bo (aI u41 j45 4 v1) (fun r46 => ck (isO u41 v0 3) (bx (S.2.2.2.2.2.2.2.2.2.2.1 u41 v0 r46 0) (fun u47 r47 => bo (gR u47 v0 3 1) (fun r48 => bo r48 (fun j49 => bo (gR u47 j49 10 3) (fun r50 => bo r50 (fun j51 => bo (aI u47 j51 4 v1) (fun r52 => G u47 (v0) (v2) (r40) (r52))))))))))))))))))))
set_option maxRecDepth 100000 in
set_option maxHeartbeats 4000000 in
theorem wb_Cm_apply_0 {p : Program} {l : Launch} {e : Env} {s : State} {m : MethodId} {args : Array Value} {below : List Frame} {meth : Method} {c : Code} {s0 : State} {b0 : Nat} {D : va_G} {cB cI cJ cZ cS cP : ClassId} {A : Nat → Prop} {sk sv : Nat → Nat} {d : Nat} {ad : Nat → Nat} (C0 : XCx p s s0 b0 m args meth c R_Cm b_Cm_apply 5 none D cB cI cJ cZ cS cP A) (hE : ENV s0 b0 sk sv) (N : Nat) (S : SG_Cm_fun) (hSg : HS_Cm_fun l s0 b0 D cB cI cJ cZ cS cP d S) (G : (CS → Nat → Int32 → Int32 → Int32 → Option (CS × Unit))) (hG : (∀ (u : CS) (v0 : Nat) (v2 : Int32) (v3 : Int32) (v4 : Int32) (x : CS × Unit), G u v0 v2 v3 v4 = some x → ∀ (H : Heap) (locs : List Loc), va_P D cls (wC cB cI cJ cZ cS cP ad u) H → va_D A (wC cB cI cJ cZ cS cP ad u) → va_S A s.heap H locs → ∀ (ls : Array Slot), lv_has ls 5 [(0, .ref (ad v0)), (2, .int v2), (3, .int v3), (4, .int v4)] → W p l e (rg_Cm_fun (d + 1)) s m args below meth c H locs 0 0 (MQ below (xQ0 D cB cI cJ cZ cS cP A ad x.1 none) args s 0 0 A) (F0 m 40 ls []))) : ∀ (u : CS) (v0 : Nat) (v1 : Int32) (v2 : Int32) (x : CS × Unit), fb_Cm_apply_0 N S G u v0 v1 v2 = some x → ∀ (H : Heap) (locs : List Loc), va_P D cls (wC cB cI cJ cZ cS cP ad u) H → va_D A (wC cB cI cJ cZ cS cP ad u) → va_S A s.heap H locs → ∀ (ls : Array Slot), lv_has ls 5 [(0, .ref (ad v0)), (1, .int v1), (2, .int v2)] → W p l e (rg_Cm_fun (d + 1)) s m args below meth c H locs 0 0 (MQ below (xQ0 D cB cI cJ cZ cS cP A ad x.1 none) args s 0 0 A) (F0 m 0 ls []) := by
  intro u v0 v1 v2 x hf H locs hP hD hS ls hl
  obtain ⟨hx, hb, hr, hml, ht, hown, hK, hA, hlocks, hA0, hO, hbs⟩ := id C0
  unfold fb_Cm_apply_0 at hf
  refine lv_aload_n hx hb d_Cm_apply_0 rfl (lv_at hl 0 rfl) ?_
  obtain ⟨r36, g36, hf⟩ := bo_some hf
  refine xg_R (i := v0) (k := 1) hx hb ht hown ck_Cm hK hP (by decide) fk_Cm_39 g36 d_Cm_apply_1 ?_
  obtain ⟨j37, ej37, hf⟩ := bo_some hf
  rw [ej37]
  obtain ⟨r38, g38, hf⟩ := bo_some hf
  refine xg_R (i := j37) (k := 1) hx hb ht hown ck_Tr hK hP (by decide) fk_Cm_93 g38 d_Cm_apply_4 ?_
  refine lv_iload_n hx hb d_Cm_apply_7 rfl (lv_at hl 1 rfl) ?_
  obtain ⟨j39, ej39, hf⟩ := bo_some hf
  rw [ej39]
  obtain ⟨r40, g40, hf⟩ := bo_some hf
  refine xl_I (i := j39) hx hb hK hP g40 d_Cm_apply_8 ?_
  refine lv_istore_n (lv' := [(3, .int r40), (0, .ref (ad v0)), (1, .int v1), (2, .int v2)]) hx hb d_Cm_apply_9 rfl hl (by decide) (by first | rfl | simp [List.filter, cat_rf]) (fun ls hl => ?_)
  refine lv_aload_n hx hb d_Cm_apply_10 rfl (lv_at hl 1 rfl) ?_
  refine lv_iload_n hx hb d_Cm_apply_11 rfl (lv_at hl 0 rfl) ?_
  obtain ⟨hO9, hf⟩ := ck_some hf
  obtain ⟨u41, r41, hc41, hf⟩ := bx_some hf
  refine xV0 (i := v0) (As := [.int r40]) (rest := []) C0 hP hD hS ck_Cm hO9 (c_Cm_notInGuard N hE hc41) k_Cm_notInGuard (wd_of 1194 (by decide +kernel) rfl) hi_Cm_notInGuard hs_Cm_notInGuard hini_Cm rfl rfl hd_Cm_notInGuard rfl rm_Cm_apply_Cm_notInGuard hl.1 (Nat.le_of_ble_eq_true rfl) d_Cm_apply_12 rfl ⟨Nat.zero_le _, Nat.zero_le _⟩ (fun H locs hP hD hS => ?_)
  refine lv_aload_n hx hb d_Cm_apply_15 rfl (lv_at hl 1 rfl) ?_
  refine lv_aload_n hx hb d_Cm_apply_16 rfl (lv_at hl 1 rfl) ?_
  obtain ⟨r42, g42, hf⟩ := bo_some hf
  refine xg_R (i := v0) (k := 1) hx hb ht hown ck_Cm hK hP (by decide) fk_Cm_39 g42 d_Cm_apply_17 ?_
  obtain ⟨j43, ej43, hf⟩ := bo_some hf
  rw [ej43]
  obtain ⟨r44, g44, hf⟩ := bo_some hf
  refine xg_R (i := j43) (k := 2) hx hb ht hown ck_Tr hK hP (by decide) fk_Cm_125 g44 d_Cm_apply_20 ?_
  refine lv_iload_n hx hb d_Cm_apply_23 rfl (lv_at hl 2 rfl) ?_
  obtain ⟨j45, ej45, hf⟩ := bo_some hf
  rw [ej45]
  obtain ⟨r46, g46, hf⟩ := bo_some hf
  refine xl_I (i := j45) hx hb hK hP g46 d_Cm_apply_24 ?_
  refine lv_iconst (v := 0) hx hb d_Cm_apply_25 (by decide) ?_
  obtain ⟨hO9, hf⟩ := ck_some hf
  obtain ⟨u47, r47, hc47, hf⟩ := bx_some hf
  refine xV0 (i := v0) (As := [.int r46, .int 0]) (rest := []) C0 hP hD hS ck_Cm hO9 (hSg.2.2.2.2.2.2.2.2.2.2.1 _ _ _ _ _ _ _ hc47) k_Cm_expression (wd_of 1190 (by decide +kernel) rfl) hi_Cm_expression hs_Cm_expression hini_Cm rfl rfl hd_Cm_expression rfl rm_Cm_apply_Cm_expression hl.1 (Nat.le_of_ble_eq_true rfl) d_Cm_apply_26 rfl ⟨Nat.zero_le _, Nat.zero_le _⟩ (fun H locs hP hD hS => ?_)
  refine lv_aload_n hx hb d_Cm_apply_29 rfl (lv_at hl 1 rfl) ?_
  obtain ⟨r48, g48, hf⟩ := bo_some hf
  refine xg_R (i := v0) (k := 1) hx hb ht hown ck_Cm hK hP (by decide) fk_Cm_39 g48 d_Cm_apply_30 ?_
  obtain ⟨j49, ej49, hf⟩ := bo_some hf
  rw [ej49]
  obtain ⟨r50, g50, hf⟩ := bo_some hf
  refine xg_R (i := j49) (k := 3) hx hb ht hown ck_Tr hK hP (by decide) fk_Cm_171 g50 d_Cm_apply_33 ?_
  refine lv_iload_n hx hb d_Cm_apply_36 rfl (lv_at hl 2 rfl) ?_
  obtain ⟨j51, ej51, hf⟩ := bo_some hf
  rw [ej51]
  obtain ⟨r52, g52, hf⟩ := bo_some hf
  refine xl_I (i := j51) hx hb hK hP g52 d_Cm_apply_37 ?_
  refine lv_istore (lv' := [(4, .int r52), (3, .int r40), (0, .ref (ad v0)), (1, .int v1), (2, .int v2)]) hx hb d_Cm_apply_38 hl (by decide) (by first | rfl | simp [List.filter, cat_rf]) (fun ls hl => ?_)
  exact hG _ _ _ _ _ _ hf H locs hP hD hS ls (lv_sub hl [2, 4, 1, 0] rfl)
def gg_Cm_apply (N : Nat) (S : SG_Cm_fun) : Nat → ((CS → Nat → Int32 → Int32 → Int32 → Option (CS × Unit)))
  | 0 => fun _ _ _ _ _ => none
  | n + 1 => fb_Cm_apply_40 N S (gg_Cm_apply N S n)
theorem wg_Cm_apply {p : Program} {l : Launch} {e : Env} {s : State} {m : MethodId} {args : Array Value} {below : List Frame} {meth : Method} {c : Code} {s0 : State} {b0 : Nat} {D : va_G} {cB cI cJ cZ cS cP : ClassId} {A : Nat → Prop} {sk sv : Nat → Nat} {d : Nat} {ad : Nat → Nat} (C0 : XCx p s s0 b0 m args meth c R_Cm b_Cm_apply 5 none D cB cI cJ cZ cS cP A) (hE : ENV s0 b0 sk sv) (N : Nat) (S : SG_Cm_fun) (hSg : HS_Cm_fun l s0 b0 D cB cI cJ cZ cS cP d S) : ∀ n : Nat, (∀ (u : CS) (v0 : Nat) (v2 : Int32) (v3 : Int32) (v4 : Int32) (x : CS × Unit), gg_Cm_apply N S n u v0 v2 v3 v4 = some x → ∀ (H : Heap) (locs : List Loc), va_P D cls (wC cB cI cJ cZ cS cP ad u) H → va_D A (wC cB cI cJ cZ cS cP ad u) → va_S A s.heap H locs → ∀ (ls : Array Slot), lv_has ls 5 [(0, .ref (ad v0)), (2, .int v2), (3, .int v3), (4, .int v4)] → W p l e (rg_Cm_fun (d + 1)) s m args below meth c H locs 0 0 (MQ below (xQ0 D cB cI cJ cZ cS cP A ad x.1 none) args s 0 0 A) (F0 m 40 ls []))
  | 0 => (fun u v0 v2 v3 v4 x hf => by cases hf)
  | n + 1 => wb_Cm_apply_40 C0 hE N S hSg (gg_Cm_apply N S n) (wg_Cm_apply C0 hE N S hSg n)
def fm_Cm_apply (N : Nat) (S : SG_Cm_fun) (u : CS) (v0 : Nat) (v1 : Int32) (v2 : Int32) : Option (CS × Unit) := fb_Cm_apply_0 N S (gg_Cm_apply N S N) u v0 v1 v2
set_option maxRecDepth 100000 in
set_option maxHeartbeats 4000000 in
theorem cs_Cm_apply (N : Nat) {d : Nat} {l : Launch} {s0 : State} {b0 : Nat} {D : va_G} {cB cI cJ cZ cS cP : ClassId} {sk sv : Nat → Nat} {ad : Nat → Nat} {u : CS} {sz : Nat} {v0 : Nat} {v1 : Int32} {v2 : Int32} {x : CS × Unit} (hE : ENV s0 b0 sk sv) (S : SG_Cm_fun) (hSg : HS_Cm_fun l s0 b0 D cB cI cJ cZ cS cP d S) (hf : fm_Cm_apply N S u v0 v1 v2 = some x) : Met l y_Cm_apply (wd_ws y_Cm_apply b_Cm_apply 5 none) (rg_Cm_fun (d + 1)) (xPc s0 b0 D cB cI cJ cZ cS cP ad u sz [.ref (ad v0), .int v1, .int v2]) (xQ0 D cB cI cJ cZ cS cP (xA cB cI cJ cZ cS cP ad u sz) ad x.1 none) 0 0 (xA cB cI cJ cZ cS cP ad u sz) :=
  xMet (by decide) rfl (Nat.le_of_ble_eq_true rfl) (fun p e s m below meth c ls hsz hnm C0 hP hD hS hl =>
    wb_Cm_apply_0 C0 hE N S hSg (gg_Cm_apply N S N) (wg_Cm_apply C0 hE N S hSg N) u _ _ _ x hf s.heap [] hP hD hS ls (lv_sub hl [0, 1, 2] rfl))
theorem rm_Cm_call_Cm_predefinedOf {d : Nat} : (rm_Cm_predefinedOf).frames + 1 ≤ (rg_Cm_fun (d + 1)).frames ∧ 8 + (4 + 11) + (rm_Cm_predefinedOf).locals ≤ (rg_Cm_fun (d + 1)).locals := by
  show 3 + 1 ≤ 304 + (d + 1) ∧ 8 + (4 + 11) + 71 ≤ 6688 + 28 * (d + 1)
  omega
theorem rm_Cm_call_Co_seek {d : Nat} : (rm_Co_seek).frames + 1 ≤ (rg_Cm_fun (d + 1)).frames ∧ 8 + (4 + 11) + (rm_Co_seek).locals ≤ (rg_Cm_fun (d + 1)).locals := by
  show 0 + 1 ≤ 304 + (d + 1) ∧ 8 + (4 + 11) + 0 ≤ 6688 + 28 * (d + 1)
  omega
theorem rm_Cm_call_Cm_fault {d : Nat} : (rm_Cm_fault).frames + 1 ≤ (rg_Cm_fun (d + 1)).frames ∧ 8 + (3 + 11) + (rm_Cm_fault).locals ≤ (rg_Cm_fun (d + 1)).locals := by
  show 1 + 1 ≤ 304 + (d + 1) ∧ 8 + (3 + 11) + 23 ≤ 6688 + 28 * (d + 1)
  omega
theorem rm_Cm_call_Cm_notInGuard {d : Nat} : (rm_Cm_notInGuard).frames + 1 ≤ (rg_Cm_fun (d + 1)).frames ∧ 8 + (2 + 11) + (rm_Cm_notInGuard).locals ≤ (rg_Cm_fun (d + 1)).locals := by
  show 2 + 1 ≤ 304 + (d + 1) ∧ 8 + (2 + 11) + 45 ≤ 6688 + 28 * (d + 1)
  omega
theorem rm_Cm_call_Co_put {d : Nat} : (rm_Co_put).frames + 1 ≤ (rg_Cm_fun (d + 1)).frames ∧ 8 + (2 + 11) + (rm_Co_put).locals ≤ (rg_Cm_fun (d + 1)).locals := by
  show 0 + 1 ≤ 304 + (d + 1) ∧ 8 + (2 + 11) + 0 ≤ 6688 + 28 * (d + 1)
  omega
theorem rm_Cm_call_Cm_row {d : Nat} : (rg_Cm_fun d).frames + 1 ≤ (rg_Cm_fun (d + 1)).frames ∧ 8 + (3 + 11) + (rg_Cm_fun d).locals ≤ (rg_Cm_fun (d + 1)).locals := by
  show 304 + d + 1 ≤ 304 + (d + 1) ∧ 8 + (3 + 11) + (6688 + 28 * d) ≤ 6688 + 28 * (d + 1)
  omega
def fb_Cm_call_198 (N : Nat) (S : SG_Cm_fun) (G : Unit) (u : CS) (v0 : Nat) (v3 : Int32) (v4 : Int32) (v6 : Int32) (t0 : Option Nat) (t1 : Int32) : Option (CS × Unit) := bo t0 (fun j2 => ck (isO u j2 2) (bx (fm_Co_put N u j2 t1) (fun u1 r1 => bo (gR u1 v0 3 2) (fun r3 => bo r3 (fun j5 => ck (isO u1 j5 2) (bx (fm_Co_put N u1 j5 v6) (fun u4 r4 => bo (gR u4 v0 3 2) (fun r6 => bo r6 (fun j8 => ck (isO u4 j8 2) (bx (fm_Co_put N u4 j8 v4) (fun u7 r7 => bo (gR u7 v0 3 2) (fun r9 => bo (gR u7 v0 3 0) (fun r10 => bo r10 (fun j11 => bo (gR u7 j11 9 4) (fun r12 => bo r12 (fun j13 => bo (aI u7 j13 4 v3) (fun r14 => bo r9 (fun j16 => ck (isO u7 j16 2) (bx (fm_Co_put N u7 j16 r14) (fun u15 r15 => some (u15, ())))))))))))))))))))))
set_option maxRecDepth 100000 in
set_option maxHeartbeats 4000000 in
theorem wb_Cm_call_198 {p : Program} {l : Launch} {e : Env} {s : State} {m : MethodId} {args : Array Value} {below : List Frame} {meth : Method} {c : Code} {s0 : State} {b0 : Nat} {D : va_G} {cB cI cJ cZ cS cP : ClassId} {A : Nat → Prop} {sk sv : Nat → Nat} {d : Nat} {ad : Nat → Nat} (C0 : XCx p s s0 b0 m args meth c R_Cm b_Cm_call 8 none D cB cI cJ cZ cS cP A) (hE : ENV s0 b0 sk sv) (N : Nat) (S : SG_Cm_fun) (hSg : HS_Cm_fun l s0 b0 D cB cI cJ cZ cS cP d S) (G : Unit) (hG : True) : ∀ (u : CS) (v0 : Nat) (v3 : Int32) (v4 : Int32) (v6 : Int32) (t0 : Option Nat) (t1 : Int32) (x : CS × Unit), fb_Cm_call_198 N S G u v0 v3 v4 v6 t0 t1 = some x → ∀ (H : Heap) (locs : List Loc), va_P D cls (wC cB cI cJ cZ cS cP ad u) H → va_D A (wC cB cI cJ cZ cS cP ad u) → va_S A s.heap H locs → ∀ (ls : Array Slot), lv_has ls 8 [(0, .ref (ad v0)), (3, .int v3), (4, .int v4), (6, .int v6)] → W p l e (rg_Cm_fun (d + 1)) s m args below meth c H locs 0 0 (MQ below (xQ0 D cB cI cJ cZ cS cP A ad x.1 none) args s 0 0 A) (F0 m 198 ls [.int t1, va_rf (Option.map ad t0)]) := by
  intro u v0 v3 v4 v6 t0 t1 x hf H locs hP hD hS ls hl
  obtain ⟨hx, hb, hr, hml, ht, hown, hK, hA, hlocks, hA0, hO, hbs⟩ := id C0
  unfold fb_Cm_call_198 at hf
  obtain ⟨j2, ej2, hf⟩ := bo_some hf
  rw [ej2]
  obtain ⟨hO9, hf⟩ := ck_some hf
  obtain ⟨u1, r1, hc1, hf⟩ := bx_some hf
  refine xV0 (i := j2) (As := [.int t1]) (rest := []) C0 hP hD hS ck_Co hO9 (c_Co_put N hc1) k_Co_put (wd_of 1149 (by decide +kernel) rfl) hi_Co_put hs_Co_put hini_Co rfl rfl hd_Co_put rfl rm_Cm_call_Co_put hl.1 (Nat.le_of_ble_eq_true rfl) d_Cm_call_198 rfl ⟨Nat.zero_le _, Nat.zero_le _⟩ (fun H locs hP hD hS => ?_)
  refine lv_aload_n hx hb d_Cm_call_201 rfl (lv_at hl 0 rfl) ?_
  obtain ⟨r3, g3, hf⟩ := bo_some hf
  refine xg_R (i := v0) (k := 2) hx hb ht hown ck_Cm hK hP (by decide) fk_Cm_43 g3 d_Cm_call_202 ?_
  refine lv_iload hx hb d_Cm_call_205 (lv_at hl 3 rfl) ?_
  obtain ⟨j5, ej5, hf⟩ := bo_some hf
  rw [ej5]
  obtain ⟨hO9, hf⟩ := ck_some hf
  obtain ⟨u4, r4, hc4, hf⟩ := bx_some hf
  refine xV0 (i := j5) (As := [.int v6]) (rest := []) C0 hP hD hS ck_Co hO9 (c_Co_put N hc4) k_Co_put (wd_of 1149 (by decide +kernel) rfl) hi_Co_put hs_Co_put hini_Co rfl rfl hd_Co_put rfl rm_Cm_call_Co_put hl.1 (Nat.le_of_ble_eq_true rfl) d_Cm_call_207 rfl ⟨Nat.zero_le _, Nat.zero_le _⟩ (fun H locs hP hD hS => ?_)
  refine lv_aload_n hx hb d_Cm_call_210 rfl (lv_at hl 0 rfl) ?_
  obtain ⟨r6, g6, hf⟩ := bo_some hf
  refine xg_R (i := v0) (k := 2) hx hb ht hown ck_Cm hK hP (by decide) fk_Cm_43 g6 d_Cm_call_211 ?_
  refine lv_iload hx hb d_Cm_call_214 (lv_at hl 2 rfl) ?_
  obtain ⟨j8, ej8, hf⟩ := bo_some hf
  rw [ej8]
  obtain ⟨hO9, hf⟩ := ck_some hf
  obtain ⟨u7, r7, hc7, hf⟩ := bx_some hf
  refine xV0 (i := j8) (As := [.int v4]) (rest := []) C0 hP hD hS ck_Co hO9 (c_Co_put N hc7) k_Co_put (wd_of 1149 (by decide +kernel) rfl) hi_Co_put hs_Co_put hini_Co rfl rfl hd_Co_put rfl rm_Cm_call_Co_put hl.1 (Nat.le_of_ble_eq_true rfl) d_Cm_call_216 rfl ⟨Nat.zero_le _, Nat.zero_le _⟩ (fun H locs hP hD hS => ?_)
  refine lv_aload_n hx hb d_Cm_call_219 rfl (lv_at hl 0 rfl) ?_
  obtain ⟨r9, g9, hf⟩ := bo_some hf
  refine xg_R (i := v0) (k := 2) hx hb ht hown ck_Cm hK hP (by decide) fk_Cm_43 g9 d_Cm_call_220 ?_
  refine lv_aload_n hx hb d_Cm_call_223 rfl (lv_at hl 0 rfl) ?_
  obtain ⟨r10, g10, hf⟩ := bo_some hf
  refine xg_R (i := v0) (k := 0) hx hb ht hown ck_Cm hK hP (by decide) fk_Cm_35 g10 d_Cm_call_224 ?_
  obtain ⟨j11, ej11, hf⟩ := bo_some hf
  rw [ej11]
  obtain ⟨r12, g12, hf⟩ := bo_some hf
  refine xg_R (i := j11) (k := 4) hx hb ht hown ck_To hK hP (by decide) fk_Cm_74 g12 d_Cm_call_227 ?_
  refine lv_iload_n hx hb d_Cm_call_230 rfl (lv_at hl 1 rfl) ?_
  obtain ⟨j13, ej13, hf⟩ := bo_some hf
  rw [ej13]
  obtain ⟨r14, g14, hf⟩ := bo_some hf
  refine xl_I (i := j13) hx hb hK hP g14 d_Cm_call_231 ?_
  obtain ⟨j16, ej16, hf⟩ := bo_some hf
  rw [ej16]
  obtain ⟨hO9, hf⟩ := ck_some hf
  obtain ⟨u15, r15, hc15, hf⟩ := bx_some hf
  refine xV0 (i := j16) (As := [.int r14]) (rest := []) C0 hP hD hS ck_Co hO9 (c_Co_put N hc15) k_Co_put (wd_of 1149 (by decide +kernel) rfl) hi_Co_put hs_Co_put hini_Co rfl rfl hd_Co_put rfl rm_Cm_call_Co_put hl.1 (Nat.le_of_ble_eq_true rfl) d_Cm_call_232 rfl ⟨Nat.zero_le _, Nat.zero_le _⟩ (fun H locs hP hD hS => ?_)
  exact xr0_v C0 hP hD hS hf d_Cm_call_235
def fb_Cm_call_170 (N : Nat) (S : SG_Cm_fun) (G : Unit) (u : CS) (v0 : Nat) (v5 : Int32) (t0 : Option Nat) (t1 : Int32) : Option (CS × Unit) := bo t0 (fun j18 => ck (isO u j18 2) (bx (fm_Co_put N u j18 t1) (fun u17 r17 => bo (gR u17 v0 3 2) (fun r19 => bo r19 (fun j21 => ck (isO u17 j21 2) (bx (fm_Co_put N u17 j21 v5) (fun u20 r20 => some (u20, ()))))))))
set_option maxRecDepth 100000 in
set_option maxHeartbeats 4000000 in
theorem wb_Cm_call_170 {p : Program} {l : Launch} {e : Env} {s : State} {m : MethodId} {args : Array Value} {below : List Frame} {meth : Method} {c : Code} {s0 : State} {b0 : Nat} {D : va_G} {cB cI cJ cZ cS cP : ClassId} {A : Nat → Prop} {sk sv : Nat → Nat} {d : Nat} {ad : Nat → Nat} (C0 : XCx p s s0 b0 m args meth c R_Cm b_Cm_call 8 none D cB cI cJ cZ cS cP A) (hE : ENV s0 b0 sk sv) (N : Nat) (S : SG_Cm_fun) (hSg : HS_Cm_fun l s0 b0 D cB cI cJ cZ cS cP d S) (G : Unit) (hG : True) : ∀ (u : CS) (v0 : Nat) (v5 : Int32) (t0 : Option Nat) (t1 : Int32) (x : CS × Unit), fb_Cm_call_170 N S G u v0 v5 t0 t1 = some x → ∀ (H : Heap) (locs : List Loc), va_P D cls (wC cB cI cJ cZ cS cP ad u) H → va_D A (wC cB cI cJ cZ cS cP ad u) → va_S A s.heap H locs → ∀ (ls : Array Slot), lv_has ls 8 [(0, .ref (ad v0)), (5, .int v5)] → W p l e (rg_Cm_fun (d + 1)) s m args below meth c H locs 0 0 (MQ below (xQ0 D cB cI cJ cZ cS cP A ad x.1 none) args s 0 0 A) (F0 m 170 ls [.int t1, va_rf (Option.map ad t0)]) := by
  intro u v0 v5 t0 t1 x hf H locs hP hD hS ls hl
  obtain ⟨hx, hb, hr, hml, ht, hown, hK, hA, hlocks, hA0, hO, hbs⟩ := id C0
  unfold fb_Cm_call_170 at hf
  obtain ⟨j18, ej18, hf⟩ := bo_some hf
  rw [ej18]
  obtain ⟨hO9, hf⟩ := ck_some hf
  obtain ⟨u17, r17, hc17, hf⟩ := bx_some hf
  refine xV0 (i := j18) (As := [.int t1]) (rest := []) C0 hP hD hS ck_Co hO9 (c_Co_put N hc17) k_Co_put (wd_of 1149 (by decide +kernel) rfl) hi_Co_put hs_Co_put hini_Co rfl rfl hd_Co_put rfl rm_Cm_call_Co_put hl.1 (Nat.le_of_ble_eq_true rfl) d_Cm_call_170 rfl ⟨Nat.zero_le _, Nat.zero_le _⟩ (fun H locs hP hD hS => ?_)
  refine lv_aload_n hx hb d_Cm_call_173 rfl (lv_at hl 0 rfl) ?_
  obtain ⟨r19, g19, hf⟩ := bo_some hf
  refine xg_R (i := v0) (k := 2) hx hb ht hown ck_Cm hK hP (by decide) fk_Cm_43 g19 d_Cm_call_174 ?_
  refine lv_iload hx hb d_Cm_call_177 (lv_at hl 1 rfl) ?_
  obtain ⟨j21, ej21, hf⟩ := bo_some hf
  rw [ej21]
  obtain ⟨hO9, hf⟩ := ck_some hf
  obtain ⟨u20, r20, hc20, hf⟩ := bx_some hf
  refine xV0 (i := j21) (As := [.int v5]) (rest := []) C0 hP hD hS ck_Co hO9 (c_Co_put N hc20) k_Co_put (wd_of 1149 (by decide +kernel) rfl) hi_Co_put hs_Co_put hini_Co rfl rfl hd_Co_put rfl rm_Cm_call_Co_put hl.1 (Nat.le_of_ble_eq_true rfl) d_Cm_call_179 rfl ⟨Nat.zero_le _, Nat.zero_le _⟩ (fun H locs hP hD hS => ?_)
  exact xr0_v C0 hP hD hS hf d_Cm_call_182
def fb_Cm_call_152 (N : Nat) (S : SG_Cm_fun) (G : Unit) (u : CS) (v0 : Nat) (v5 : Int32) (t0 : Int32) : Option (CS × Unit) := bo (gR u v0 3 2) (fun r22 => br (decide (t0 = 0)) (fb_Cm_call_170 N S G u (v0) (v5) (r22) (39)) (fb_Cm_call_170 N S G u (v0) (v5) (r22) (40)))
set_option maxRecDepth 100000 in
set_option maxHeartbeats 4000000 in
theorem wb_Cm_call_152 {p : Program} {l : Launch} {e : Env} {s : State} {m : MethodId} {args : Array Value} {below : List Frame} {meth : Method} {c : Code} {s0 : State} {b0 : Nat} {D : va_G} {cB cI cJ cZ cS cP : ClassId} {A : Nat → Prop} {sk sv : Nat → Nat} {d : Nat} {ad : Nat → Nat} (C0 : XCx p s s0 b0 m args meth c R_Cm b_Cm_call 8 none D cB cI cJ cZ cS cP A) (hE : ENV s0 b0 sk sv) (N : Nat) (S : SG_Cm_fun) (hSg : HS_Cm_fun l s0 b0 D cB cI cJ cZ cS cP d S) (G : Unit) (hG : True) : ∀ (u : CS) (v0 : Nat) (v5 : Int32) (t0 : Int32) (x : CS × Unit), fb_Cm_call_152 N S G u v0 v5 t0 = some x → ∀ (H : Heap) (locs : List Loc), va_P D cls (wC cB cI cJ cZ cS cP ad u) H → va_D A (wC cB cI cJ cZ cS cP ad u) → va_S A s.heap H locs → ∀ (ls : Array Slot), lv_has ls 8 [(0, .ref (ad v0)), (5, .int v5)] → W p l e (rg_Cm_fun (d + 1)) s m args below meth c H locs 0 0 (MQ below (xQ0 D cB cI cJ cZ cS cP A ad x.1 none) args s 0 0 A) (F0 m 152 ls [.int t0]) := by
  intro u v0 v5 t0 x hf H locs hP hD hS ls hl
  obtain ⟨hx, hb, hr, hml, ht, hown, hK, hA, hlocks, hA0, hO, hbs⟩ := id C0
  unfold fb_Cm_call_152 at hf
  refine lv_istore (lv' := [(7, .int t0), (0, .ref (ad v0)), (5, .int v5)]) hx hb d_Cm_call_152 hl (by decide) (by first | rfl | simp [List.filter, cat_rf]) (fun ls hl => ?_)
  refine lv_aload_n hx hb d_Cm_call_154 rfl (lv_at hl 1 rfl) ?_
  obtain ⟨r22, g22, hf⟩ := bo_some hf
  refine xg_R (i := v0) (k := 2) hx hb ht hown ck_Cm hK hP (by decide) fk_Cm_43 g22 d_Cm_call_155 ?_
  refine lv_iload hx hb d_Cm_call_158 (lv_at hl 0 rfl) ?_
  refine lv_if_eq (tgt := 168) hx hb d_Cm_call_160 (by decide) (fun hc => ?_) (fun hc => ?_)
  · rw [br_p _ hc] at hf
    refine lv_bipush (v := 39) hx hb d_Cm_call_168 (by decide) ?_
    exact wb_Cm_call_170 C0 hE N S hSg G hG _ _ _ _ _ _ hf H locs hP hD hS ls (lv_sub hl [1, 2] rfl)
  · rw [br_n _ hc] at hf
    refine lv_bipush (v := 40) hx hb d_Cm_call_163 (by decide) ?_
    refine lv_goto (tgt := 170) hx hb d_Cm_call_165 (by decide) ?_
    exact wb_Cm_call_170 C0 hE N S hSg G hG _ _ _ _ _ _ hf H locs hP hD hS ls (lv_sub hl [1, 2] rfl)
def fb_Cm_call_147 (N : Nat) (S : SG_Cm_fun) (G : Unit) (u : CS) (v0 : Nat) (v5 : Int32) : Option (CS × Unit) := fb_Cm_call_152 N S G u (v0) (v5) (1)
set_option maxRecDepth 100000 in
set_option maxHeartbeats 4000000 in
theorem wb_Cm_call_147 {p : Program} {l : Launch} {e : Env} {s : State} {m : MethodId} {args : Array Value} {below : List Frame} {meth : Method} {c : Code} {s0 : State} {b0 : Nat} {D : va_G} {cB cI cJ cZ cS cP : ClassId} {A : Nat → Prop} {sk sv : Nat → Nat} {d : Nat} {ad : Nat → Nat} (C0 : XCx p s s0 b0 m args meth c R_Cm b_Cm_call 8 none D cB cI cJ cZ cS cP A) (hE : ENV s0 b0 sk sv) (N : Nat) (S : SG_Cm_fun) (hSg : HS_Cm_fun l s0 b0 D cB cI cJ cZ cS cP d S) (G : Unit) (hG : True) : ∀ (u : CS) (v0 : Nat) (v5 : Int32) (x : CS × Unit), fb_Cm_call_147 N S G u v0 v5 = some x → ∀ (H : Heap) (locs : List Loc), va_P D cls (wC cB cI cJ cZ cS cP ad u) H → va_D A (wC cB cI cJ cZ cS cP ad u) → va_S A s.heap H locs → ∀ (ls : Array Slot), lv_has ls 8 [(0, .ref (ad v0)), (5, .int v5)] → W p l e (rg_Cm_fun (d + 1)) s m args below meth c H locs 0 0 (MQ below (xQ0 D cB cI cJ cZ cS cP A ad x.1 none) args s 0 0 A) (F0 m 147 ls []) := by
  intro u v0 v5 x hf H locs hP hD hS ls hl
  obtain ⟨hx, hb, hr, hml, ht, hown, hK, hA, hlocks, hA0, hO, hbs⟩ := id C0
  unfold fb_Cm_call_147 at hf
  refine lv_iconst (v := 1) hx hb d_Cm_call_147 (by decide) ?_
  refine lv_goto (tgt := 152) hx hb d_Cm_call_148 (by decide) ?_
  exact wb_Cm_call_152 C0 hE N S hSg G hG _ _ _ _ _ hf H locs hP hD hS ls (lv_sub hl [0, 1] rfl)
def fb_Cm_call_96 (N : Nat) (S : SG_Cm_fun) (G : Unit) (u : CS) (v0 : Nat) (v1 : Int32) (v2 : Int32) (v3 : Int32) (v4 : Int32) (v5 : Int32) (v6 : Int32) : Option (CS × Unit) := bo (gR u v0 3 1) (fun r23 => bo r23 (fun j24 => bo (gR u j24 10 3) (fun r25 => bo r25 (fun j26 => bo (aI u j26 4 v1) (fun r27 => ck (isO u v0 3) (bx (S.2.2.2.2.2.2.2.2.2.1 u v0 r27) (fun u28 r28 => br (decide (v5 = (-1))) (bo (gR u28 v0 3 2) (fun r29 => br (decide (v2 = 0)) (fb_Cm_call_198 N S G u28 (v0) (v3) (v4) (v6) (r29) (25)) (fb_Cm_call_198 N S G u28 (v0) (v3) (v4) (v6) (r29) (26)))) (br (decide (v5 = 2)) (fb_Cm_call_147 N S G u28 (v0) (v5)) (br (decide (v5 = 3)) (fb_Cm_call_147 N S G u28 (v0) (v5)) (br (decide (v5 = 4)) (fb_Cm_call_147 N S G u28 (v0) (v5)) (br (decide (v5 = 29)) (fb_Cm_call_147 N S G u28 (v0) (v5)) (br (decide (v5 = 15)) (fb_Cm_call_147 N S G u28 (v0) (v5)) (fb_Cm_call_152 N S G u28 (v0) (v5) (0))))))))))))))
set_option maxRecDepth 100000 in
set_option maxHeartbeats 4000000 in
theorem wb_Cm_call_96 {p : Program} {l : Launch} {e : Env} {s : State} {m : MethodId} {args : Array Value} {below : List Frame} {meth : Method} {c : Code} {s0 : State} {b0 : Nat} {D : va_G} {cB cI cJ cZ cS cP : ClassId} {A : Nat → Prop} {sk sv : Nat → Nat} {d : Nat} {ad : Nat → Nat} (C0 : XCx p s s0 b0 m args meth c R_Cm b_Cm_call 8 none D cB cI cJ cZ cS cP A) (hE : ENV s0 b0 sk sv) (N : Nat) (S : SG_Cm_fun) (hSg : HS_Cm_fun l s0 b0 D cB cI cJ cZ cS cP d S) (G : Unit) (hG : True) : ∀ (u : CS) (v0 : Nat) (v1 : Int32) (v2 : Int32) (v3 : Int32) (v4 : Int32) (v5 : Int32) (v6 : Int32) (x : CS × Unit), fb_Cm_call_96 N S G u v0 v1 v2 v3 v4 v5 v6 = some x → ∀ (H : Heap) (locs : List Loc), va_P D cls (wC cB cI cJ cZ cS cP ad u) H → va_D A (wC cB cI cJ cZ cS cP ad u) → va_S A s.heap H locs → ∀ (ls : Array Slot), lv_has ls 8 [(0, .ref (ad v0)), (1, .int v1), (2, .int v2), (3, .int v3), (4, .int v4), (5, .int v5), (6, .int v6)] → W p l e (rg_Cm_fun (d + 1)) s m args below meth c H locs 0 0 (MQ below (xQ0 D cB cI cJ cZ cS cP A ad x.1 none) args s 0 0 A) (F0 m 96 ls []) := by
  intro u v0 v1 v2 v3 v4 v5 v6 x hf H locs hP hD hS ls hl
  obtain ⟨hx, hb, hr, hml, ht, hown, hK, hA, hlocks, hA0, hO, hbs⟩ := id C0
  unfold fb_Cm_call_96 at hf
  refine lv_aload_n hx hb d_Cm_call_96 rfl (lv_at hl 0 rfl) ?_
  refine lv_aload_n hx hb d_Cm_call_97 rfl (lv_at hl 0 rfl) ?_
  obtain ⟨r23, g23, hf⟩ := bo_some hf
  refine xg_R (i := v0) (k := 1) hx hb ht hown ck_Cm hK hP (by decide) fk_Cm_39 g23 d_Cm_call_98 ?_
  obtain ⟨j24, ej24, hf⟩ := bo_some hf
  rw [ej24]
  obtain ⟨r25, g25, hf⟩ := bo_some hf
  refine xg_R (i := j24) (k := 3) hx hb ht hown ck_Tr hK hP (by decide) fk_Cm_171 g25 d_Cm_call_101 ?_
  refine lv_iload_n hx hb d_Cm_call_104 rfl (lv_at hl 1 rfl) ?_
  obtain ⟨j26, ej26, hf⟩ := bo_some hf
  rw [ej26]
  obtain ⟨r27, g27, hf⟩ := bo_some hf
  refine xl_I (i := j26) hx hb hK hP g27 d_Cm_call_105 ?_
  obtain ⟨hO9, hf⟩ := ck_some hf
  obtain ⟨u28, r28, hc28, hf⟩ := bx_some hf
  refine xV0 (i := v0) (As := [.int r27]) (rest := []) C0 hP hD hS ck_Cm hO9 (hSg.2.2.2.2.2.2.2.2.2.1 _ _ _ _ _ _ hc28) k_Cm_row (wd_of 1198 (by decide +kernel) rfl) hi_Cm_row hs_Cm_row hini_Cm rfl rfl hd_Cm_row rfl rm_Cm_call_Cm_row hl.1 (Nat.le_of_ble_eq_true rfl) d_Cm_call_106 rfl ⟨Nat.zero_le _, Nat.zero_le _⟩ (fun H locs hP hD hS => ?_)
  refine lv_iload hx hb d_Cm_call_109 (lv_at hl 5 rfl) ?_
  refine lv_iconst (v := (-1)) hx hb d_Cm_call_111 (by decide) ?_
  refine lv_icmp_eq (tgt := 183) hx hb d_Cm_call_112 (by decide) (fun hc => ?_) (fun hc => ?_)
  · rw [br_p _ hc] at hf
    refine lv_aload_n hx hb d_Cm_call_183 rfl (lv_at hl 0 rfl) ?_
    obtain ⟨r29, g29, hf⟩ := bo_some hf
    refine xg_R (i := v0) (k := 2) hx hb ht hown ck_Cm hK hP (by decide) fk_Cm_43 g29 d_Cm_call_184 ?_
    refine lv_iload_n hx hb d_Cm_call_187 rfl (lv_at hl 2 rfl) ?_
    refine lv_if_eq (tgt := 196) hx hb d_Cm_call_188 (by decide) (fun hc => ?_) (fun hc => ?_)
    · rw [br_p _ hc] at hf
      refine lv_bipush (v := 25) hx hb d_Cm_call_196 (by decide) ?_
      exact wb_Cm_call_198 C0 hE N S hSg G hG _ _ _ _ _ _ _ _ hf H locs hP hD hS ls (lv_sub hl [0, 3, 4, 6] rfl)
    · rw [br_n _ hc] at hf
      refine lv_bipush (v := 26) hx hb d_Cm_call_191 (by decide) ?_
      refine lv_goto (tgt := 198) hx hb d_Cm_call_193 (by decide) ?_
      exact wb_Cm_call_198 C0 hE N S hSg G hG _ _ _ _ _ _ _ _ hf H locs hP hD hS ls (lv_sub hl [0, 3, 4, 6] rfl)
  · rw [br_n _ hc] at hf
    refine lv_iload hx hb d_Cm_call_115 (lv_at hl 5 rfl) ?_
    refine lv_iconst (v := 2) hx hb d_Cm_call_117 (by decide) ?_
    refine lv_icmp_eq (tgt := 147) hx hb d_Cm_call_118 (by decide) (fun hc => ?_) (fun hc => ?_)
    · rw [br_p _ hc] at hf
      exact wb_Cm_call_147 C0 hE N S hSg G hG _ _ _ _ hf H locs hP hD hS ls (lv_sub hl [0, 5] rfl)
    · rw [br_n _ hc] at hf
      refine lv_iload hx hb d_Cm_call_121 (lv_at hl 5 rfl) ?_
      refine lv_iconst (v := 3) hx hb d_Cm_call_123 (by decide) ?_
      refine lv_icmp_eq (tgt := 147) hx hb d_Cm_call_124 (by decide) (fun hc => ?_) (fun hc => ?_)
      · rw [br_p _ hc] at hf
        exact wb_Cm_call_147 C0 hE N S hSg G hG _ _ _ _ hf H locs hP hD hS ls (lv_sub hl [0, 5] rfl)
      · rw [br_n _ hc] at hf
        refine lv_iload hx hb d_Cm_call_127 (lv_at hl 5 rfl) ?_
        refine lv_iconst (v := 4) hx hb d_Cm_call_129 (by decide) ?_
        refine lv_icmp_eq (tgt := 147) hx hb d_Cm_call_130 (by decide) (fun hc => ?_) (fun hc => ?_)
        · rw [br_p _ hc] at hf
          exact wb_Cm_call_147 C0 hE N S hSg G hG _ _ _ _ hf H locs hP hD hS ls (lv_sub hl [0, 5] rfl)
        · rw [br_n _ hc] at hf
          refine lv_iload hx hb d_Cm_call_133 (lv_at hl 5 rfl) ?_
          refine lv_bipush (v := 29) hx hb d_Cm_call_135 (by decide) ?_
          refine lv_icmp_eq (tgt := 147) hx hb d_Cm_call_137 (by decide) (fun hc => ?_) (fun hc => ?_)
          · rw [br_p _ hc] at hf
            exact wb_Cm_call_147 C0 hE N S hSg G hG _ _ _ _ hf H locs hP hD hS ls (lv_sub hl [0, 5] rfl)
          · rw [br_n _ hc] at hf
            refine lv_iload hx hb d_Cm_call_140 (lv_at hl 5 rfl) ?_
            refine lv_bipush (v := 15) hx hb d_Cm_call_142 (by decide) ?_
            refine lv_icmp_ne (tgt := 151) hx hb d_Cm_call_144 (by decide) (fun hc => ?_) (fun hc => ?_)
            · rw [br_n _ hc] at hf
              refine lv_iconst (v := 0) hx hb d_Cm_call_151 (by decide) ?_
              exact wb_Cm_call_152 C0 hE N S hSg G hG _ _ _ _ _ hf H locs hP hD hS ls (lv_sub hl [0, 5] rfl)
            · rw [br_p _ hc] at hf
              exact wb_Cm_call_147 C0 hE N S hSg G hG _ _ _ _ hf H locs hP hD hS ls (lv_sub hl [0, 5] rfl)
def fb_Cm_call_91 (N : Nat) (S : SG_Cm_fun) (G : Unit) (u : CS) (v0 : Nat) (v1 : Int32) (v2 : Int32) (v3 : Int32) (v4 : Int32) (v5 : Int32) (v6 : Int32) : Option (CS × Unit) := ck (isO u v0 3) (bx (fm_Cm_notInGuard N u v0 v3) (fun u30 r30 => fb_Cm_call_96 N S G u30 (v0) (v1) (v2) (v3) (v4) (v5) (v6)))
set_option maxRecDepth 100000 in
set_option maxHeartbeats 4000000 in
theorem wb_Cm_call_91 {p : Program} {l : Launch} {e : Env} {s : State} {m : MethodId} {args : Array Value} {below : List Frame} {meth : Method} {c : Code} {s0 : State} {b0 : Nat} {D : va_G} {cB cI cJ cZ cS cP : ClassId} {A : Nat → Prop} {sk sv : Nat → Nat} {d : Nat} {ad : Nat → Nat} (C0 : XCx p s s0 b0 m args meth c R_Cm b_Cm_call 8 none D cB cI cJ cZ cS cP A) (hE : ENV s0 b0 sk sv) (N : Nat) (S : SG_Cm_fun) (hSg : HS_Cm_fun l s0 b0 D cB cI cJ cZ cS cP d S) (G : Unit) (hG : True) : ∀ (u : CS) (v0 : Nat) (v1 : Int32) (v2 : Int32) (v3 : Int32) (v4 : Int32) (v5 : Int32) (v6 : Int32) (x : CS × Unit), fb_Cm_call_91 N S G u v0 v1 v2 v3 v4 v5 v6 = some x → ∀ (H : Heap) (locs : List Loc), va_P D cls (wC cB cI cJ cZ cS cP ad u) H → va_D A (wC cB cI cJ cZ cS cP ad u) → va_S A s.heap H locs → ∀ (ls : Array Slot), lv_has ls 8 [(0, .ref (ad v0)), (1, .int v1), (2, .int v2), (3, .int v3), (4, .int v4), (5, .int v5), (6, .int v6)] → W p l e (rg_Cm_fun (d + 1)) s m args below meth c H locs 0 0 (MQ below (xQ0 D cB cI cJ cZ cS cP A ad x.1 none) args s 0 0 A) (F0 m 91 ls []) := by
  intro u v0 v1 v2 v3 v4 v5 v6 x hf H locs hP hD hS ls hl
  obtain ⟨hx, hb, hr, hml, ht, hown, hK, hA, hlocks, hA0, hO, hbs⟩ := id C0
  unfold fb_Cm_call_91 at hf
  refine lv_aload_n hx hb d_Cm_call_91 rfl (lv_at hl 0 rfl) ?_
  refine lv_iload_n hx hb d_Cm_call_92 rfl (lv_at hl 3 rfl) ?_
  obtain ⟨hO9, hf⟩ := ck_some hf
  obtain ⟨u30, r30, hc30, hf⟩ := bx_some hf
  refine xV0 (i := v0) (As := [.int v3]) (rest := []) C0 hP hD hS ck_Cm hO9 (c_Cm_notInGuard N hE hc30) k_Cm_notInGuard (wd_of 1194 (by decide +kernel) rfl) hi_Cm_notInGuard hs_Cm_notInGuard hini_Cm rfl rfl hd_Cm_notInGuard rfl rm_Cm_call_Cm_notInGuard hl.1 (Nat.le_of_ble_eq_true rfl) d_Cm_call_93 rfl ⟨Nat.zero_le _, Nat.zero_le _⟩ (fun H locs hP hD hS => ?_)
  exact wb_Cm_call_96 C0 hE N S hSg G hG _ _ _ _ _ _ _ _ _ hf H locs hP hD hS ls (lv_sub hl [0, 1, 2, 3, 4, 5, 6] rfl)
def fb_Cm_call_77 (N : Nat) (S : SG_Cm_fun) (G : Unit) (u : CS) (v0 : Nat) (v1 : Int32) (v2 : Int32) (v3 : Int32) (v4 : Int32) (v5 : Int32) (v6 : Int32) : Option (CS × Unit) := br (decide (v5 < 17)) (fb_Cm_call_91 N S G u (v0) (v1) (v2) (v3) (v4) (v5) (v6)) (br (decide (v5 ≤ 28)) (fb_Cm_call_96 N S G u (v0) (v1) (v2) (v3) (v4) (v5) (v6)) (fb_Cm_call_91 N S G u (v0) (v1) (v2) (v3) (v4) (v5) (v6)))
set_option maxRecDepth 100000 in
set_option maxHeartbeats 4000000 in
theorem wb_Cm_call_77 {p : Program} {l : Launch} {e : Env} {s : State} {m : MethodId} {args : Array Value} {below : List Frame} {meth : Method} {c : Code} {s0 : State} {b0 : Nat} {D : va_G} {cB cI cJ cZ cS cP : ClassId} {A : Nat → Prop} {sk sv : Nat → Nat} {d : Nat} {ad : Nat → Nat} (C0 : XCx p s s0 b0 m args meth c R_Cm b_Cm_call 8 none D cB cI cJ cZ cS cP A) (hE : ENV s0 b0 sk sv) (N : Nat) (S : SG_Cm_fun) (hSg : HS_Cm_fun l s0 b0 D cB cI cJ cZ cS cP d S) (G : Unit) (hG : True) : ∀ (u : CS) (v0 : Nat) (v1 : Int32) (v2 : Int32) (v3 : Int32) (v4 : Int32) (v5 : Int32) (v6 : Int32) (x : CS × Unit), fb_Cm_call_77 N S G u v0 v1 v2 v3 v4 v5 v6 = some x → ∀ (H : Heap) (locs : List Loc), va_P D cls (wC cB cI cJ cZ cS cP ad u) H → va_D A (wC cB cI cJ cZ cS cP ad u) → va_S A s.heap H locs → ∀ (ls : Array Slot), lv_has ls 8 [(0, .ref (ad v0)), (1, .int v1), (2, .int v2), (3, .int v3), (4, .int v4), (5, .int v5), (6, .int v6)] → W p l e (rg_Cm_fun (d + 1)) s m args below meth c H locs 0 0 (MQ below (xQ0 D cB cI cJ cZ cS cP A ad x.1 none) args s 0 0 A) (F0 m 77 ls []) := by
  intro u v0 v1 v2 v3 v4 v5 v6 x hf H locs hP hD hS ls hl
  obtain ⟨hx, hb, hr, hml, ht, hown, hK, hA, hlocks, hA0, hO, hbs⟩ := id C0
  unfold fb_Cm_call_77 at hf
  refine lv_iload hx hb d_Cm_call_77 (lv_at hl 5 rfl) ?_
  refine lv_bipush (v := 17) hx hb d_Cm_call_79 (by decide) ?_
  refine lv_icmp_lt (tgt := 91) hx hb d_Cm_call_81 (by decide) (fun hc => ?_) (fun hc => ?_)
  · rw [br_p _ hc] at hf
    exact wb_Cm_call_91 C0 hE N S hSg G hG _ _ _ _ _ _ _ _ _ hf H locs hP hD hS ls (lv_sub hl [0, 1, 2, 3, 4, 5, 6] rfl)
  · rw [br_n _ hc] at hf
    refine lv_iload hx hb d_Cm_call_84 (lv_at hl 5 rfl) ?_
    refine lv_bipush (v := 28) hx hb d_Cm_call_86 (by decide) ?_
    refine lv_icmp_le (tgt := 96) hx hb d_Cm_call_88 (by decide) (fun hc => ?_) (fun hc => ?_)
    · rw [br_p _ hc] at hf
      exact wb_Cm_call_96 C0 hE N S hSg G hG _ _ _ _ _ _ _ _ _ hf H locs hP hD hS ls (lv_sub hl [0, 1, 2, 3, 4, 5, 6] rfl)
    · rw [br_n _ hc] at hf
      exact wb_Cm_call_91 C0 hE N S hSg G hG _ _ _ _ _ _ _ _ _ hf H locs hP hD hS ls (lv_sub hl [0, 1, 2, 3, 4, 5, 6] rfl)
def fb_Cm_call_0 (N : Nat) (S : SG_Cm_fun) (G : Unit) (u : CS) (v0 : Nat) (v1 : Int32) (v2 : Int32) : Option (CS × Unit) := bo (gR u v0 3 1) (fun r31 => bo r31 (fun j32 => bo (gR u j32 10 1) (fun r33 => bo r33 (fun j34 => bo (aI u j34 4 v1) (fun r35 => bo (gR u v0 3 1) (fun r36 => bo r36 (fun j37 => bo (gR u j37 10 4) (fun r38 => bo r38 (fun j39 => bo (aI u j39 4 v1) (fun r40 => bo (gR u v0 3 1) (fun r41 => bo r41 (fun j42 => bo (gR u j42 10 2) (fun r43 => bo r43 (fun j44 => bo (aI u j44 4 v1) (fun r45 => ck (isO u v0 3) (bx (fm_Cm_predefinedOf N u v0 r45 r40) (fun u46 r46 => bo (gR u46 v0 3 2) (fun r47 => bo (gR u46 v0 3 1) (fun r48 => bo r48 (fun j49 => bo (gR u46 j49 10 2) (fun r50 => bo r50 (fun j51 => bo (aI u46 j51 4 v1) (fun r52 => bo r47 (fun j54 => ck (isO u46 j54 2) (bx (fm_Co_seek N u46 j54 r52 r40) (fun u53 r53 => br (decide (r46 = (-1))) (br (decide (r53 = (-1))) (ck (isO u53 v0 3) (bx (fm_Cm_fault N u53 v0 r35 6) (fun u55 r55 => fb_Cm_call_77 N S G u55 (v0) (v1) (v2) (r35) (r40) (r46) (r53)))) (fb_Cm_call_77 N S G u53 (v0) (v1) (v2) (r35) (r40) (r46) (r53))) (fb_Cm_call_77 N S G u53 (v0) (v1) (v2) (r35) (r40) (r46) (r53))))))))))))))))))))))))))))
set_option maxRecDepth 100000 in
set_option maxHeartbeats 4000000 in
theorem wb_Cm_call_0 {p : Program} {l : Launch} {e : Env} {s : State} {m : MethodId} {args : Array Value} {below : List Frame} {meth : Method} {c : Code} {s0 : State} {b0 : Nat} {D : va_G} {cB cI cJ cZ cS cP : ClassId} {A : Nat → Prop} {sk sv : Nat → Nat} {d : Nat} {ad : Nat → Nat} (C0 : XCx p s s0 b0 m args meth c R_Cm b_Cm_call 8 none D cB cI cJ cZ cS cP A) (hE : ENV s0 b0 sk sv) (N : Nat) (S : SG_Cm_fun) (hSg : HS_Cm_fun l s0 b0 D cB cI cJ cZ cS cP d S) (G : Unit) (hG : True) : ∀ (u : CS) (v0 : Nat) (v1 : Int32) (v2 : Int32) (x : CS × Unit), fb_Cm_call_0 N S G u v0 v1 v2 = some x → ∀ (H : Heap) (locs : List Loc), va_P D cls (wC cB cI cJ cZ cS cP ad u) H → va_D A (wC cB cI cJ cZ cS cP ad u) → va_S A s.heap H locs → ∀ (ls : Array Slot), lv_has ls 8 [(0, .ref (ad v0)), (1, .int v1), (2, .int v2)] → W p l e (rg_Cm_fun (d + 1)) s m args below meth c H locs 0 0 (MQ below (xQ0 D cB cI cJ cZ cS cP A ad x.1 none) args s 0 0 A) (F0 m 0 ls []) := by
  intro u v0 v1 v2 x hf H locs hP hD hS ls hl
  obtain ⟨hx, hb, hr, hml, ht, hown, hK, hA, hlocks, hA0, hO, hbs⟩ := id C0
  unfold fb_Cm_call_0 at hf
  refine lv_aload_n hx hb d_Cm_call_0 rfl (lv_at hl 0 rfl) ?_
  obtain ⟨r31, g31, hf⟩ := bo_some hf
  refine xg_R (i := v0) (k := 1) hx hb ht hown ck_Cm hK hP (by decide) fk_Cm_39 g31 d_Cm_call_1 ?_
  obtain ⟨j32, ej32, hf⟩ := bo_some hf
  rw [ej32]
  obtain ⟨r33, g33, hf⟩ := bo_some hf
  refine xg_R (i := j32) (k := 1) hx hb ht hown ck_Tr hK hP (by decide) fk_Cm_93 g33 d_Cm_call_4 ?_
  refine lv_iload_n hx hb d_Cm_call_7 rfl (lv_at hl 1 rfl) ?_
  obtain ⟨j34, ej34, hf⟩ := bo_some hf
  rw [ej34]
  obtain ⟨r35, g35, hf⟩ := bo_some hf
  refine xl_I (i := j34) hx hb hK hP g35 d_Cm_call_8 ?_
  refine lv_istore_n (lv' := [(3, .int r35), (0, .ref (ad v0)), (1, .int v1), (2, .int v2)]) hx hb d_Cm_call_9 rfl hl (by decide) (by first | rfl | simp [List.filter, cat_rf]) (fun ls hl => ?_)
  refine lv_aload_n hx hb d_Cm_call_10 rfl (lv_at hl 1 rfl) ?_
  obtain ⟨r36, g36, hf⟩ := bo_some hf
  refine xg_R (i := v0) (k := 1) hx hb ht hown ck_Cm hK hP (by decide) fk_Cm_39 g36 d_Cm_call_11 ?_
  obtain ⟨j37, ej37, hf⟩ := bo_some hf
  rw [ej37]
  obtain ⟨r38, g38, hf⟩ := bo_some hf
  refine xg_R (i := j37) (k := 4) hx hb ht hown ck_Tr hK hP (by decide) fk_Cm_155 g38 d_Cm_call_14 ?_
  refine lv_iload_n hx hb d_Cm_call_17 rfl (lv_at hl 2 rfl) ?_
  obtain ⟨j39, ej39, hf⟩ := bo_some hf
  rw [ej39]
  obtain ⟨r40, g40, hf⟩ := bo_some hf
  refine xl_I (i := j39) hx hb hK hP g40 d_Cm_call_18 ?_
  refine lv_istore (lv' := [(4, .int r40), (3, .int r35), (0, .ref (ad v0)), (1, .int v1), (2, .int v2)]) hx hb d_Cm_call_19 hl (by decide) (by first | rfl | simp [List.filter, cat_rf]) (fun ls hl => ?_)
  refine lv_aload_n hx hb d_Cm_call_21 rfl (lv_at hl 2 rfl) ?_
  refine lv_aload_n hx hb d_Cm_call_22 rfl (lv_at hl 2 rfl) ?_
  obtain ⟨r41, g41, hf⟩ := bo_some hf
  refine xg_R (i := v0) (k := 1) hx hb ht hown ck_Cm hK hP (by decide) fk_Cm_39 g41 d_Cm_call_23 ?_
  obtain ⟨j42, ej42, hf⟩ := bo_some hf
  rw [ej42]
  obtain ⟨r43, g43, hf⟩ := bo_some hf
  refine xg_R (i := j42) (k := 2) hx hb ht hown ck_Tr hK hP (by decide) fk_Cm_125 g43 d_Cm_call_26 ?_
  refine lv_iload_n hx hb d_Cm_call_29 rfl (lv_at hl 3 rfl) ?_
  obtain ⟨j44, ej44, hf⟩ := bo_some hf
  rw [ej44]
  obtain ⟨r45, g45, hf⟩ := bo_some hf
  refine xl_I (i := j44) hx hb hK hP g45 d_Cm_call_30 ?_
  refine lv_iload hx hb d_Cm_call_31 (lv_at hl 0 rfl) ?_
  obtain ⟨hO9, hf⟩ := ck_some hf
  obtain ⟨u46, r46, hc46, hf⟩ := bx_some hf
  refine xV0 (i := v0) (As := [.int r45, .int r40]) (rest := []) C0 hP hD hS ck_Cm hO9 (c_Cm_predefinedOf N hE hc46) k_Cm_predefinedOf (wd_of 1123 (by decide +kernel) rfl) hi_Cm_predefinedOf hs_Cm_predefinedOf hini_Cm rfl rfl hd_Cm_predefinedOf rfl rm_Cm_call_Cm_predefinedOf hl.1 (Nat.le_of_ble_eq_true rfl) d_Cm_call_33 rfl ⟨Nat.zero_le _, Nat.zero_le _⟩ (fun H locs hP hD hS => ?_)
  refine lv_istore (lv' := [(5, .int r46), (4, .int r40), (3, .int r35), (0, .ref (ad v0)), (1, .int v1), (2, .int v2)]) hx hb d_Cm_call_36 hl (by decide) (by first | rfl | simp [List.filter, cat_rf]) (fun ls hl => ?_)
  refine lv_aload_n hx hb d_Cm_call_38 rfl (lv_at hl 3 rfl) ?_
  obtain ⟨r47, g47, hf⟩ := bo_some hf
  refine xg_R (i := v0) (k := 2) hx hb ht hown ck_Cm hK hP (by decide) fk_Cm_43 g47 d_Cm_call_39 ?_
  refine lv_aload_n hx hb d_Cm_call_42 rfl (lv_at hl 3 rfl) ?_
  obtain ⟨r48, g48, hf⟩ := bo_some hf
  refine xg_R (i := v0) (k := 1) hx hb ht hown ck_Cm hK hP (by decide) fk_Cm_39 g48 d_Cm_call_43 ?_
  obtain ⟨j49, ej49, hf⟩ := bo_some hf
  rw [ej49]
  obtain ⟨r50, g50, hf⟩ := bo_some hf
  refine xg_R (i := j49) (k := 2) hx hb ht hown ck_Tr hK hP (by decide) fk_Cm_125 g50 d_Cm_call_46 ?_
  refine lv_iload_n hx hb d_Cm_call_49 rfl (lv_at hl 4 rfl) ?_
  obtain ⟨j51, ej51, hf⟩ := bo_some hf
  rw [ej51]
  obtain ⟨r52, g52, hf⟩ := bo_some hf
  refine xl_I (i := j51) hx hb hK hP g52 d_Cm_call_50 ?_
  refine lv_iload hx hb d_Cm_call_51 (lv_at hl 1 rfl) ?_
  obtain ⟨j54, ej54, hf⟩ := bo_some hf
  rw [ej54]
  obtain ⟨hO9, hf⟩ := ck_some hf
  obtain ⟨u53, r53, hc53, hf⟩ := bx_some hf
  refine xV0 (i := j54) (As := [.int r52, .int r40]) (rest := []) C0 hP hD hS ck_Co hO9 (c_Co_seek N hc53) k_Co_seek (wd_of 1119 (by decide +kernel) rfl) hi_Co_seek hs_Co_seek hini_Co rfl rfl hd_Co_seek rfl rm_Cm_call_Co_seek hl.1 (Nat.le_of_ble_eq_true rfl) d_Cm_call_53 rfl ⟨Nat.zero_le _, Nat.zero_le _⟩ (fun H locs hP hD hS => ?_)
  refine lv_istore (lv' := [(6, .int r53), (5, .int r46), (4, .int r40), (3, .int r35), (0, .ref (ad v0)), (1, .int v1), (2, .int v2)]) hx hb d_Cm_call_56 hl (by decide) (by first | rfl | simp [List.filter, cat_rf]) (fun ls hl => ?_)
  refine lv_iload hx hb d_Cm_call_58 (lv_at hl 1 rfl) ?_
  refine lv_iconst (v := (-1)) hx hb d_Cm_call_60 (by decide) ?_
  refine lv_icmp_ne (tgt := 77) hx hb d_Cm_call_61 (by decide) (fun hc => ?_) (fun hc => ?_)
  · rw [br_n _ hc] at hf
    exact wb_Cm_call_77 C0 hE N S hSg G hG _ _ _ _ _ _ _ _ _ hf H locs hP hD hS ls (lv_sub hl [4, 5, 6, 3, 2, 1, 0] rfl)
  · rw [br_p _ hc] at hf
    refine lv_iload hx hb d_Cm_call_64 (lv_at hl 0 rfl) ?_
    refine lv_iconst (v := (-1)) hx hb d_Cm_call_66 (by decide) ?_
    refine lv_icmp_ne (tgt := 77) hx hb d_Cm_call_67 (by decide) (fun hc => ?_) (fun hc => ?_)
    · rw [br_n _ hc] at hf
      exact wb_Cm_call_77 C0 hE N S hSg G hG _ _ _ _ _ _ _ _ _ hf H locs hP hD hS ls (lv_sub hl [4, 5, 6, 3, 2, 1, 0] rfl)
    · rw [br_p _ hc] at hf
      refine lv_aload_n hx hb d_Cm_call_70 rfl (lv_at hl 4 rfl) ?_
      refine lv_iload_n hx hb d_Cm_call_71 rfl (lv_at hl 3 rfl) ?_
      refine lv_bipush (v := 6) hx hb d_Cm_call_72 (by decide) ?_
      obtain ⟨hO9, hf⟩ := ck_some hf
      obtain ⟨u55, r55, hc55, hf⟩ := bx_some hf
      refine xV0 (i := v0) (As := [.int r35, .int 6]) (rest := []) C0 hP hD hS ck_Cm hO9 (c_Cm_fault N hE hc55) k_Cm_fault (wd_of 1133 (by decide +kernel) rfl) hi_Cm_fault hs_Cm_fault hini_Cm rfl rfl hd_Cm_fault rfl rm_Cm_call_Cm_fault hl.1 (Nat.le_of_ble_eq_true rfl) d_Cm_call_74 rfl ⟨Nat.zero_le _, Nat.zero_le _⟩ (fun H locs hP hD hS => ?_)
      exact wb_Cm_call_77 C0 hE N S hSg G hG _ _ _ _ _ _ _ _ _ hf H locs hP hD hS ls (lv_sub hl [4, 5, 6, 3, 2, 1, 0] rfl)
def fm_Cm_call (N : Nat) (S : SG_Cm_fun) (u : CS) (v0 : Nat) (v1 : Int32) (v2 : Int32) : Option (CS × Unit) := fb_Cm_call_0 N S () u v0 v1 v2
set_option maxRecDepth 100000 in
set_option maxHeartbeats 4000000 in
theorem cs_Cm_call (N : Nat) {d : Nat} {l : Launch} {s0 : State} {b0 : Nat} {D : va_G} {cB cI cJ cZ cS cP : ClassId} {sk sv : Nat → Nat} {ad : Nat → Nat} {u : CS} {sz : Nat} {v0 : Nat} {v1 : Int32} {v2 : Int32} {x : CS × Unit} (hE : ENV s0 b0 sk sv) (S : SG_Cm_fun) (hSg : HS_Cm_fun l s0 b0 D cB cI cJ cZ cS cP d S) (hf : fm_Cm_call N S u v0 v1 v2 = some x) : Met l y_Cm_call (wd_ws y_Cm_call b_Cm_call 8 none) (rg_Cm_fun (d + 1)) (xPc s0 b0 D cB cI cJ cZ cS cP ad u sz [.ref (ad v0), .int v1, .int v2]) (xQ0 D cB cI cJ cZ cS cP (xA cB cI cJ cZ cS cP ad u sz) ad x.1 none) 0 0 (xA cB cI cJ cZ cS cP ad u sz) :=
  xMet (by decide) rfl (Nat.le_of_ble_eq_true rfl) (fun p e s m below meth c ls hsz hnm C0 hP hD hS hl =>
    wb_Cm_call_0 C0 hE N S hSg () trivial u _ _ _ x hf s.heap [] hP hD hS ls (lv_sub hl [0, 1, 2] rfl))
theorem rm_Cm_signs_Co_put {d : Nat} : (rm_Co_put).frames + 1 ≤ (rg_Cm_fun (d + 1)).frames ∧ 8 + (2 + 11) + (rm_Co_put).locals ≤ (rg_Cm_fun (d + 1)).locals := by
  show 0 + 1 ≤ 304 + (d + 1) ∧ 8 + (2 + 11) + 0 ≤ 6688 + 28 * (d + 1)
  omega
theorem rm_Cm_signs_Co_hook {d : Nat} : (rm_Co_hook).frames + 1 ≤ (rg_Cm_fun (d + 1)).frames ∧ 8 + (2 + 11) + (rm_Co_hook).locals ≤ (rg_Cm_fun (d + 1)).locals := by
  show 1 + 1 ≤ 304 + (d + 1) ∧ 8 + (2 + 11) + 21 ≤ 6688 + 28 * (d + 1)
  omega
theorem rm_Cm_signs_Cm_forget {d : Nat} : (rm_Cm_forget).frames + 1 ≤ (rg_Cm_fun (d + 1)).frames ∧ 8 + (2 + 11) + (rm_Cm_forget).locals ≤ (rg_Cm_fun (d + 1)).locals := by
  show 1 + 1 ≤ 304 + (d + 1) ∧ 8 + (2 + 11) + 21 ≤ 6688 + 28 * (d + 1)
  omega
theorem rm_Cm_signs_Co_arrive {d : Nat} : (rm_Co_arrive).frames + 1 ≤ (rg_Cm_fun (d + 1)).frames ∧ 8 + (5 + 11) + (rm_Co_arrive).locals ≤ (rg_Cm_fun (d + 1)).locals := by
  show 1 + 1 ≤ 304 + (d + 1) ∧ 8 + (5 + 11) + 22 ≤ 6688 + 28 * (d + 1)
  omega
theorem rm_Cm_signs_Cm_joining {d : Nat} : (rm_Cm_joining).frames + 1 ≤ (rg_Cm_fun (d + 1)).frames ∧ 8 + (3 + 11) + (rm_Cm_joining).locals ≤ (rg_Cm_fun (d + 1)).locals := by
  show 3 + 1 ≤ 304 + (d + 1) ∧ 8 + (3 + 11) + 66 ≤ 6688 + 28 * (d + 1)
  omega
theorem rm_Cm_signs_Cm_expression {d : Nat} : (rg_Cm_fun d).frames + 1 ≤ (rg_Cm_fun (d + 1)).frames ∧ 8 + (4 + 11) + (rg_Cm_fun d).locals ≤ (rg_Cm_fun (d + 1)).locals := by
  show 304 + d + 1 ≤ 304 + (d + 1) ∧ 8 + (4 + 11) + (6688 + 28 * d) ≤ 6688 + 28 * (d + 1)
  omega
def fb_Cm_signs_198 (N : Nat) (S : SG_Cm_fun) (G : (CS → Nat → Int32 → Int32 → Int32 → Int32 → Int32 → Option (CS × Unit))) (u : CS) (v0 : Nat) (v2 : Int32) (v3 : Int32) (v4 : Int32) (v5 : Int32) (v6 : Int32) : Option (CS × Unit) := bo (gR u v0 3 1) (fun r1 => bo r1 (fun j2 => bo (gR u j2 10 5) (fun r3 => bo r3 (fun j4 => bo (aI u j4 4 v6) (fun r5 => G u (v0) (v2) (v3) (v4) (v5) (r5))))))
set_option maxRecDepth 100000 in
set_option maxHeartbeats 4000000 in
theorem wb_Cm_signs_198 {p : Program} {l : Launch} {e : Env} {s : State} {m : MethodId} {args : Array Value} {below : List Frame} {meth : Method} {c : Code} {s0 : State} {b0 : Nat} {D : va_G} {cB cI cJ cZ cS cP : ClassId} {A : Nat → Prop} {sk sv : Nat → Nat} {d : Nat} {ad : Nat → Nat} (C0 : XCx p s s0 b0 m args meth c R_Cm b_Cm_signs 9 none D cB cI cJ cZ cS cP A) (hE : ENV s0 b0 sk sv) (N : Nat) (S : SG_Cm_fun) (hSg : HS_Cm_fun l s0 b0 D cB cI cJ cZ cS cP d S) (G : (CS → Nat → Int32 → Int32 → Int32 → Int32 → Int32 → Option (CS × Unit))) (hG : (∀ (u : CS) (v0 : Nat) (v2 : Int32) (v3 : Int32) (v4 : Int32) (v5 : Int32) (v6 : Int32) (x : CS × Unit), G u v0 v2 v3 v4 v5 v6 = some x → ∀ (H : Heap) (locs : List Loc), va_P D cls (wC cB cI cJ cZ cS cP ad u) H → va_D A (wC cB cI cJ cZ cS cP ad u) → va_S A s.heap H locs → ∀ (ls : Array Slot), lv_has ls 9 [(0, .ref (ad v0)), (2, .int v2), (3, .int v3), (4, .int v4), (5, .int v5), (6, .int v6)] → W p l e (rg_Cm_fun (d + 1)) s m args below meth c H locs 0 0 (MQ below (xQ0 D cB cI cJ cZ cS cP A ad x.1 none) args s 0 0 A) (F0 m 13 ls []))) : ∀ (u : CS) (v0 : Nat) (v2 : Int32) (v3 : Int32) (v4 : Int32) (v5 : Int32) (v6 : Int32) (x : CS × Unit), fb_Cm_signs_198 N S G u v0 v2 v3 v4 v5 v6 = some x → ∀ (H : Heap) (locs : List Loc), va_P D cls (wC cB cI cJ cZ cS cP ad u) H → va_D A (wC cB cI cJ cZ cS cP ad u) → va_S A s.heap H locs → ∀ (ls : Array Slot), lv_has ls 9 [(0, .ref (ad v0)), (2, .int v2), (3, .int v3), (4, .int v4), (5, .int v5), (6, .int v6)] → W p l e (rg_Cm_fun (d + 1)) s m args below meth c H locs 0 0 (MQ below (xQ0 D cB cI cJ cZ cS cP A ad x.1 none) args s 0 0 A) (F0 m 198 ls []) := by
  intro u v0 v2 v3 v4 v5 v6 x hf H locs hP hD hS ls hl
  obtain ⟨hx, hb, hr, hml, ht, hown, hK, hA, hlocks, hA0, hO, hbs⟩ := id C0
  unfold fb_Cm_signs_198 at hf
  refine lv_aload_n hx hb d_Cm_signs_198 rfl (lv_at hl 0 rfl) ?_
  obtain ⟨r1, g1, hf⟩ := bo_some hf
  refine xg_R (i := v0) (k := 1) hx hb ht hown ck_Cm hK hP (by decide) fk_Cm_39 g1 d_Cm_signs_199 ?_
  obtain ⟨j2, ej2, hf⟩ := bo_some hf
  rw [ej2]
  obtain ⟨r3, g3, hf⟩ := bo_some hf
  refine xg_R (i := j2) (k := 5) hx hb ht hown ck_Tr hK hP (by decide) fk_Cm_139 g3 d_Cm_signs_202 ?_
  refine lv_iload hx hb d_Cm_signs_205 (lv_at hl 5 rfl) ?_
  obtain ⟨j4, ej4, hf⟩ := bo_some hf
  rw [ej4]
  obtain ⟨r5, g5, hf⟩ := bo_some hf
  refine xl_I (i := j4) hx hb hK hP g5 d_Cm_signs_207 ?_
  refine lv_istore (lv' := [(6, .int r5), (0, .ref (ad v0)), (2, .int v2), (3, .int v3), (4, .int v4), (5, .int v5)]) hx hb d_Cm_signs_208 hl (by decide) (by first | rfl | simp [List.filter, cat_rf]) (fun ls hl => ?_)
  refine lv_goto (tgt := 13) hx hb d_Cm_signs_210 (by decide) ?_
  exact hG _ _ _ _ _ _ _ _ hf H locs hP hD hS ls (lv_sub hl [1, 2, 3, 4, 5, 0] rfl)
def fb_Cm_signs_82 (N : Nat) (S : SG_Cm_fun) (G : (CS → Nat → Int32 → Int32 → Int32 → Int32 → Int32 → Option (CS × Unit))) (u : CS) (v0 : Nat) (v2 : Int32) (v3 : Int32) (v4 : Int32) (v5 : Int32) (v6 : Int32) (v7 : Int32) (v8 : Int32) : Option (CS × Unit) := br (decide (v7 = 24)) (bo (gR u v0 3 2) (fun r21 => bo r21 (fun j23 => ck (isO u j23 2) (bx (fm_Co_put N u j23 14) (fun u22 r22 => bo (gR u22 v0 3 2) (fun r24 => bo r24 (fun j26 => ck (isO u22 j26 2) (bx (fm_Co_hook N u22 j26 0) (fun u25 r25 => bo (gI u25 v0 3 6) (fun r27 => fb_Cm_signs_198 N S G u25 (v0) (v2) (v3) (r25) (r27) (v6))))))))))) (br (decide (v7 = 23)) (br (decide (v8 = 6)) (ck (isO u v0 3) (bx (fm_Cm_forget N u v0 v3) (fun u16 r16 => bo (gR u16 v0 3 2) (fun r17 => bo r17 (fun j19 => ck (isO u16 j19 2) (bx (fm_Co_arrive N u16 j19 v2) (fun u18 r18 => fb_Cm_signs_198 N S G u18 (v0) (v2) (v3) (v4) (v5) (v6)))))))) (br (decide (v8 = 16)) (ck (isO u v0 3) (bx (fm_Cm_forget N u v0 v5) (fun u12 r12 => bo (gR u12 v0 3 2) (fun r13 => bo r13 (fun j15 => ck (isO u12 j15 2) (bx (fm_Co_arrive N u12 j15 v4) (fun u14 r14 => fb_Cm_signs_198 N S G u14 (v0) (v2) (v3) (v4) (v5) (v6)))))))) (bo (gR u v0 3 1) (fun r6 => bo r6 (fun j7 => bo (gR u j7 10 1) (fun r8 => bo r8 (fun j9 => bo (aI u j9 4 v6) (fun r10 => ck (isO u v0 3) (bx (fm_Cm_joining N u v0 v8 r10) (fun u11 r11 => fb_Cm_signs_198 N S G u11 (v0) (v2) (v3) (v4) (v5) (v6))))))))))) (ck (isO u v0 3) (bx (S.2.2.2.2.2.2.2.2.2.2.1 u v0 v6 0) (fun u20 r20 => fb_Cm_signs_198 N S G u20 (v0) (v2) (v3) (v4) (v5) (v6)))))
set_option maxRecDepth 100000 in
set_option maxHeartbeats 4000000 in
theorem wb_Cm_signs_82 {p : Program} {l : Launch} {e : Env} {s : State} {m : MethodId} {args : Array Value} {below : List Frame} {meth : Method} {c : Code} {s0 : State} {b0 : Nat} {D : va_G} {cB cI cJ cZ cS cP : ClassId} {A : Nat → Prop} {sk sv : Nat → Nat} {d : Nat} {ad : Nat → Nat} (C0 : XCx p s s0 b0 m args meth c R_Cm b_Cm_signs 9 none D cB cI cJ cZ cS cP A) (hE : ENV s0 b0 sk sv) (N : Nat) (S : SG_Cm_fun) (hSg : HS_Cm_fun l s0 b0 D cB cI cJ cZ cS cP d S) (G : (CS → Nat → Int32 → Int32 → Int32 → Int32 → Int32 → Option (CS × Unit))) (hG : (∀ (u : CS) (v0 : Nat) (v2 : Int32) (v3 : Int32) (v4 : Int32) (v5 : Int32) (v6 : Int32) (x : CS × Unit), G u v0 v2 v3 v4 v5 v6 = some x → ∀ (H : Heap) (locs : List Loc), va_P D cls (wC cB cI cJ cZ cS cP ad u) H → va_D A (wC cB cI cJ cZ cS cP ad u) → va_S A s.heap H locs → ∀ (ls : Array Slot), lv_has ls 9 [(0, .ref (ad v0)), (2, .int v2), (3, .int v3), (4, .int v4), (5, .int v5), (6, .int v6)] → W p l e (rg_Cm_fun (d + 1)) s m args below meth c H locs 0 0 (MQ below (xQ0 D cB cI cJ cZ cS cP A ad x.1 none) args s 0 0 A) (F0 m 13 ls []))) : ∀ (u : CS) (v0 : Nat) (v2 : Int32) (v3 : Int32) (v4 : Int32) (v5 : Int32) (v6 : Int32) (v7 : Int32) (v8 : Int32) (x : CS × Unit), fb_Cm_signs_82 N S G u v0 v2 v3 v4 v5 v6 v7 v8 = some x → ∀ (H : Heap) (locs : List Loc), va_P D cls (wC cB cI cJ cZ cS cP ad u) H → va_D A (wC cB cI cJ cZ cS cP ad u) → va_S A s.heap H locs → ∀ (ls : Array Slot), lv_has ls 9 [(0, .ref (ad v0)), (2, .int v2), (3, .int v3), (4, .int v4), (5, .int v5), (6, .int v6), (7, .int v7), (8, .int v8)] → W p l e (rg_Cm_fun (d + 1)) s m args below meth c H locs 0 0 (MQ below (xQ0 D cB cI cJ cZ cS cP A ad x.1 none) args s 0 0 A) (F0 m 82 ls []) := by
  intro u v0 v2 v3 v4 v5 v6 v7 v8 x hf H locs hP hD hS ls hl
  obtain ⟨hx, hb, hr, hml, ht, hown, hK, hA, hlocks, hA0, hO, hbs⟩ := id C0
  unfold fb_Cm_signs_82 at hf
  refine lv_iload hx hb d_Cm_signs_82 (lv_at hl 6 rfl) ?_
  refine lv_bipush (v := 24) hx hb d_Cm_signs_84 (by decide) ?_
  refine lv_icmp_ne (tgt := 117) hx hb d_Cm_signs_86 (by decide) (fun hc => ?_) (fun hc => ?_)
  · rw [br_n _ hc] at hf
    refine lv_iload hx hb d_Cm_signs_117 (lv_at hl 6 rfl) ?_
    refine lv_bipush (v := 23) hx hb d_Cm_signs_119 (by decide) ?_
    refine lv_icmp_eq (tgt := 134) hx hb d_Cm_signs_121 (by decide) (fun hc => ?_) (fun hc => ?_)
    · rw [br_p _ hc] at hf
      refine lv_iload hx hb d_Cm_signs_134 (lv_at hl 7 rfl) ?_
      refine lv_bipush (v := 6) hx hb d_Cm_signs_136 (by decide) ?_
      refine lv_icmp_ne (tgt := 157) hx hb d_Cm_signs_138 (by decide) (fun hc => ?_) (fun hc => ?_)
      · rw [br_n _ hc] at hf
        refine lv_iload hx hb d_Cm_signs_157 (lv_at hl 7 rfl) ?_
        refine lv_bipush (v := 16) hx hb d_Cm_signs_159 (by decide) ?_
        refine lv_icmp_ne (tgt := 182) hx hb d_Cm_signs_161 (by decide) (fun hc => ?_) (fun hc => ?_)
        · rw [br_n _ hc] at hf
          refine lv_aload_n hx hb d_Cm_signs_182 rfl (lv_at hl 0 rfl) ?_
          refine lv_iload hx hb d_Cm_signs_183 (lv_at hl 7 rfl) ?_
          refine lv_aload_n hx hb d_Cm_signs_185 rfl (lv_at hl 0 rfl) ?_
          obtain ⟨r6, g6, hf⟩ := bo_some hf
          refine xg_R (i := v0) (k := 1) hx hb ht hown ck_Cm hK hP (by decide) fk_Cm_39 g6 d_Cm_signs_186 ?_
          obtain ⟨j7, ej7, hf⟩ := bo_some hf
          rw [ej7]
          obtain ⟨r8, g8, hf⟩ := bo_some hf
          refine xg_R (i := j7) (k := 1) hx hb ht hown ck_Tr hK hP (by decide) fk_Cm_93 g8 d_Cm_signs_189 ?_
          refine lv_iload hx hb d_Cm_signs_192 (lv_at hl 5 rfl) ?_
          obtain ⟨j9, ej9, hf⟩ := bo_some hf
          rw [ej9]
          obtain ⟨r10, g10, hf⟩ := bo_some hf
          refine xl_I (i := j9) hx hb hK hP g10 d_Cm_signs_194 ?_
          obtain ⟨hO9, hf⟩ := ck_some hf
          obtain ⟨u11, r11, hc11, hf⟩ := bx_some hf
          refine xV0 (i := v0) (As := [.int v8, .int r10]) (rest := []) C0 hP hD hS ck_Cm hO9 (c_Cm_joining N hE hc11) k_Cm_joining (wd_of 1226 (by decide +kernel) rfl) hi_Cm_joining hs_Cm_joining hini_Cm rfl rfl hd_Cm_joining rfl rm_Cm_signs_Cm_joining hl.1 (Nat.le_of_ble_eq_true rfl) d_Cm_signs_195 rfl ⟨Nat.zero_le _, Nat.zero_le _⟩ (fun H locs hP hD hS => ?_)
          exact wb_Cm_signs_198 C0 hE N S hSg G hG _ _ _ _ _ _ _ _ hf H locs hP hD hS ls (lv_sub hl [0, 1, 2, 3, 4, 5] rfl)
        · rw [br_p _ hc] at hf
          refine lv_aload_n hx hb d_Cm_signs_164 rfl (lv_at hl 0 rfl) ?_
          refine lv_iload hx hb d_Cm_signs_165 (lv_at hl 4 rfl) ?_
          obtain ⟨hO9, hf⟩ := ck_some hf
          obtain ⟨u12, r12, hc12, hf⟩ := bx_some hf
          refine xV0 (i := v0) (As := [.int v5]) (rest := []) C0 hP hD hS ck_Cm hO9 (c_Cm_forget N hc12) k_Cm_forget (wd_of 1210 (by decide +kernel) rfl) hi_Cm_forget hs_Cm_forget hini_Cm rfl rfl hd_Cm_forget rfl rm_Cm_signs_Cm_forget hl.1 (Nat.le_of_ble_eq_true rfl) d_Cm_signs_167 rfl ⟨Nat.zero_le _, Nat.zero_le _⟩ (fun H locs hP hD hS => ?_)
          refine lv_aload_n hx hb d_Cm_signs_170 rfl (lv_at hl 0 rfl) ?_
          obtain ⟨r13, g13, hf⟩ := bo_some hf
          refine xg_R (i := v0) (k := 2) hx hb ht hown ck_Cm hK hP (by decide) fk_Cm_43 g13 d_Cm_signs_171 ?_
          refine lv_iload hx hb d_Cm_signs_174 (lv_at hl 3 rfl) ?_
          obtain ⟨j15, ej15, hf⟩ := bo_some hf
          rw [ej15]
          obtain ⟨hO9, hf⟩ := ck_some hf
          obtain ⟨u14, r14, hc14, hf⟩ := bx_some hf
          refine xV0 (i := j15) (As := [.int v4]) (rest := []) C0 hP hD hS ck_Co hO9 (c_Co_arrive N hc14) k_Co_arrive (wd_of 1214 (by decide +kernel) rfl) hi_Co_arrive hs_Co_arrive hini_Co rfl rfl hd_Co_arrive rfl rm_Cm_signs_Co_arrive hl.1 (Nat.le_of_ble_eq_true rfl) d_Cm_signs_176 rfl ⟨Nat.zero_le _, Nat.zero_le _⟩ (fun H locs hP hD hS => ?_)
          refine lv_goto (tgt := 198) hx hb d_Cm_signs_179 (by decide) ?_
          exact wb_Cm_signs_198 C0 hE N S hSg G hG _ _ _ _ _ _ _ _ hf H locs hP hD hS ls (lv_sub hl [0, 1, 2, 3, 4, 5] rfl)
      · rw [br_p _ hc] at hf
        refine lv_aload_n hx hb d_Cm_signs_141 rfl (lv_at hl 0 rfl) ?_
        refine lv_iload_n hx hb d_Cm_signs_142 rfl (lv_at hl 2 rfl) ?_
        obtain ⟨hO9, hf⟩ := ck_some hf
        obtain ⟨u16, r16, hc16, hf⟩ := bx_some hf
        refine xV0 (i := v0) (As := [.int v3]) (rest := []) C0 hP hD hS ck_Cm hO9 (c_Cm_forget N hc16) k_Cm_forget (wd_of 1210 (by decide +kernel) rfl) hi_Cm_forget hs_Cm_forget hini_Cm rfl rfl hd_Cm_forget rfl rm_Cm_signs_Cm_forget hl.1 (Nat.le_of_ble_eq_true rfl) d_Cm_signs_143 rfl ⟨Nat.zero_le _, Nat.zero_le _⟩ (fun H locs hP hD hS => ?_)
        refine lv_aload_n hx hb d_Cm_signs_146 rfl (lv_at hl 0 rfl) ?_
        obtain ⟨r17, g17, hf⟩ := bo_some hf
        refine xg_R (i := v0) (k := 2) hx hb ht hown ck_Cm hK hP (by decide) fk_Cm_43 g17 d_Cm_signs_147 ?_
        refine lv_iload_n hx hb d_Cm_signs_150 rfl (lv_at hl 1 rfl) ?_
        obtain ⟨j19, ej19, hf⟩ := bo_some hf
        rw [ej19]
        obtain ⟨hO9, hf⟩ := ck_some hf
        obtain ⟨u18, r18, hc18, hf⟩ := bx_some hf
        refine xV0 (i := j19) (As := [.int v2]) (rest := []) C0 hP hD hS ck_Co hO9 (c_Co_arrive N hc18) k_Co_arrive (wd_of 1214 (by decide +kernel) rfl) hi_Co_arrive hs_Co_arrive hini_Co rfl rfl hd_Co_arrive rfl rm_Cm_signs_Co_arrive hl.1 (Nat.le_of_ble_eq_true rfl) d_Cm_signs_151 rfl ⟨Nat.zero_le _, Nat.zero_le _⟩ (fun H locs hP hD hS => ?_)
        refine lv_goto (tgt := 198) hx hb d_Cm_signs_154 (by decide) ?_
        exact wb_Cm_signs_198 C0 hE N S hSg G hG _ _ _ _ _ _ _ _ hf H locs hP hD hS ls (lv_sub hl [0, 1, 2, 3, 4, 5] rfl)
    · rw [br_n _ hc] at hf
      refine lv_aload_n hx hb d_Cm_signs_124 rfl (lv_at hl 0 rfl) ?_
      refine lv_iload hx hb d_Cm_signs_125 (lv_at hl 5 rfl) ?_
      refine lv_iconst (v := 0) hx hb d_Cm_signs_127 (by decide) ?_
      obtain ⟨hO9, hf⟩ := ck_some hf
      obtain ⟨u20, r20, hc20, hf⟩ := bx_some hf
      refine xV0 (i := v0) (As := [.int v6, .int 0]) (rest := []) C0 hP hD hS ck_Cm hO9 (hSg.2.2.2.2.2.2.2.2.2.2.1 _ _ _ _ _ _ _ hc20) k_Cm_expression (wd_of 1190 (by decide +kernel) rfl) hi_Cm_expression hs_Cm_expression hini_Cm rfl rfl hd_Cm_expression rfl rm_Cm_signs_Cm_expression hl.1 (Nat.le_of_ble_eq_true rfl) d_Cm_signs_128 rfl ⟨Nat.zero_le _, Nat.zero_le _⟩ (fun H locs hP hD hS => ?_)
      refine lv_goto (tgt := 198) hx hb d_Cm_signs_131 (by decide) ?_
      exact wb_Cm_signs_198 C0 hE N S hSg G hG _ _ _ _ _ _ _ _ hf H locs hP hD hS ls (lv_sub hl [0, 1, 2, 3, 4, 5] rfl)
  · rw [br_p _ hc] at hf
    refine lv_aload_n hx hb d_Cm_signs_89 rfl (lv_at hl 0 rfl) ?_
    obtain ⟨r21, g21, hf⟩ := bo_some hf
    refine xg_R (i := v0) (k := 2) hx hb ht hown ck_Cm hK hP (by decide) fk_Cm_43 g21 d_Cm_signs_90 ?_
    refine lv_bipush (v := 14) hx hb d_Cm_signs_93 (by decide) ?_
    obtain ⟨j23, ej23, hf⟩ := bo_some hf
    rw [ej23]
    obtain ⟨hO9, hf⟩ := ck_some hf
    obtain ⟨u22, r22, hc22, hf⟩ := bx_some hf
    refine xV0 (i := j23) (As := [.int 14]) (rest := []) C0 hP hD hS ck_Co hO9 (c_Co_put N hc22) k_Co_put (wd_of 1149 (by decide +kernel) rfl) hi_Co_put hs_Co_put hini_Co rfl rfl hd_Co_put rfl rm_Cm_signs_Co_put hl.1 (Nat.le_of_ble_eq_true rfl) d_Cm_signs_95 rfl ⟨Nat.zero_le _, Nat.zero_le _⟩ (fun H locs hP hD hS => ?_)
    refine lv_aload_n hx hb d_Cm_signs_98 rfl (lv_at hl 0 rfl) ?_
    obtain ⟨r24, g24, hf⟩ := bo_some hf
    refine xg_R (i := v0) (k := 2) hx hb ht hown ck_Cm hK hP (by decide) fk_Cm_43 g24 d_Cm_signs_99 ?_
    refine lv_iconst (v := 0) hx hb d_Cm_signs_102 (by decide) ?_
    obtain ⟨j26, ej26, hf⟩ := bo_some hf
    rw [ej26]
    obtain ⟨hO9, hf⟩ := ck_some hf
    obtain ⟨u25, r25, hc25, hf⟩ := bx_some hf
    refine xV0 (i := j26) (As := [.int 0]) (rest := []) C0 hP hD hS ck_Co hO9 (c_Co_hook N hc25) k_Co_hook (wd_of 1153 (by decide +kernel) rfl) hi_Co_hook hs_Co_hook hini_Co rfl rfl hd_Co_hook rfl rm_Cm_signs_Co_hook hl.1 (Nat.le_of_ble_eq_true rfl) d_Cm_signs_103 rfl ⟨Nat.zero_le _, Nat.zero_le _⟩ (fun H locs hP hD hS => ?_)
    refine lv_istore (lv' := [(4, .int r25), (0, .ref (ad v0)), (2, .int v2), (3, .int v3), (5, .int v5), (6, .int v6), (7, .int v7), (8, .int v8)]) hx hb d_Cm_signs_106 hl (by decide) (by first | rfl | simp [List.filter, cat_rf]) (fun ls hl => ?_)
    refine lv_aload_n hx hb d_Cm_signs_108 rfl (lv_at hl 1 rfl) ?_
    obtain ⟨r27, g27, hf⟩ := bo_some hf
    refine xg_I (i := v0) (k := 6) hx hb ht hown ck_Cm hK hP (by decide) fk_Cm_116 g27 d_Cm_signs_109 ?_
    refine lv_istore (lv' := [(5, .int r27), (4, .int r25), (0, .ref (ad v0)), (2, .int v2), (3, .int v3), (6, .int v6), (7, .int v7), (8, .int v8)]) hx hb d_Cm_signs_112 hl (by decide) (by first | rfl | simp [List.filter, cat_rf]) (fun ls hl => ?_)
    refine lv_goto (tgt := 198) hx hb d_Cm_signs_114 (by decide) ?_
    exact wb_Cm_signs_198 C0 hE N S hSg G hG _ _ _ _ _ _ _ _ hf H locs hP hD hS ls (lv_sub hl [2, 3, 4, 1, 0, 5] rfl)
def fb_Cm_signs_13 (N : Nat) (S : SG_Cm_fun) (G : (CS → Nat → Int32 → Int32 → Int32 → Int32 → Int32 → Option (CS × Unit))) (u : CS) (v0 : Nat) (v2 : Int32) (v3 : Int32) (v4 : Int32) (v5 : Int32) (v6 : Int32) : Option (CS × Unit) := br (decide (v6 = 0)) (some (u, ())) (bo (gR u v0 3 1) (fun r28 => bo r28 (fun j29 => bo (gR u j29 10 0) (fun r30 => bo r30 (fun j31 => bo (aI u j31 4 v6) (fun r32 => bo (gR u v0 3 1) (fun r33 => bo r33 (fun j34 => bo (gR u j34 10 2) (fun r35 => bo r35 (fun j36 => bo (aI u j36 4 v6) (fun r37 => br (decide (r32 = 24)) (br (decide (r37 = 6)) (bo (gR u v0 3 2) (fun r38 => bo r38 (fun j40 => ck (isO u j40 2) (bx (fm_Co_put N u j40 13) (fun u39 r39 => bo (gR u39 v0 3 2) (fun r41 => bo r41 (fun j43 => ck (isO u39 j43 2) (bx (fm_Co_hook N u39 j43 0) (fun u42 r42 => bo (gI u42 v0 3 6) (fun r44 => fb_Cm_signs_198 N S G u42 (v0) (r42) (r44) (v4) (v5) (v6))))))))))) (fb_Cm_signs_82 N S G u (v0) (v2) (v3) (v4) (v5) (v6) (r32) (r37))) (fb_Cm_signs_82 N S G u (v0) (v2) (v3) (v4) (v5) (v6) (r32) (r37)))))))))))))
set_option maxRecDepth 100000 in
set_option maxHeartbeats 4000000 in
theorem wb_Cm_signs_13 {p : Program} {l : Launch} {e : Env} {s : State} {m : MethodId} {args : Array Value} {below : List Frame} {meth : Method} {c : Code} {s0 : State} {b0 : Nat} {D : va_G} {cB cI cJ cZ cS cP : ClassId} {A : Nat → Prop} {sk sv : Nat → Nat} {d : Nat} {ad : Nat → Nat} (C0 : XCx p s s0 b0 m args meth c R_Cm b_Cm_signs 9 none D cB cI cJ cZ cS cP A) (hE : ENV s0 b0 sk sv) (N : Nat) (S : SG_Cm_fun) (hSg : HS_Cm_fun l s0 b0 D cB cI cJ cZ cS cP d S) (G : (CS → Nat → Int32 → Int32 → Int32 → Int32 → Int32 → Option (CS × Unit))) (hG : (∀ (u : CS) (v0 : Nat) (v2 : Int32) (v3 : Int32) (v4 : Int32) (v5 : Int32) (v6 : Int32) (x : CS × Unit), G u v0 v2 v3 v4 v5 v6 = some x → ∀ (H : Heap) (locs : List Loc), va_P D cls (wC cB cI cJ cZ cS cP ad u) H → va_D A (wC cB cI cJ cZ cS cP ad u) → va_S A s.heap H locs → ∀ (ls : Array Slot), lv_has ls 9 [(0, .ref (ad v0)), (2, .int v2), (3, .int v3), (4, .int v4), (5, .int v5), (6, .int v6)] → W p l e (rg_Cm_fun (d + 1)) s m args below meth c H locs 0 0 (MQ below (xQ0 D cB cI cJ cZ cS cP A ad x.1 none) args s 0 0 A) (F0 m 13 ls []))) : ∀ (u : CS) (v0 : Nat) (v2 : Int32) (v3 : Int32) (v4 : Int32) (v5 : Int32) (v6 : Int32) (x : CS × Unit), fb_Cm_signs_13 N S G u v0 v2 v3 v4 v5 v6 = some x → ∀ (H : Heap) (locs : List Loc), va_P D cls (wC cB cI cJ cZ cS cP ad u) H → va_D A (wC cB cI cJ cZ cS cP ad u) → va_S A s.heap H locs → ∀ (ls : Array Slot), lv_has ls 9 [(0, .ref (ad v0)), (2, .int v2), (3, .int v3), (4, .int v4), (5, .int v5), (6, .int v6)] → W p l e (rg_Cm_fun (d + 1)) s m args below meth c H locs 0 0 (MQ below (xQ0 D cB cI cJ cZ cS cP A ad x.1 none) args s 0 0 A) (F0 m 13 ls []) := by
  intro u v0 v2 v3 v4 v5 v6 x hf H locs hP hD hS ls hl
  obtain ⟨hx, hb, hr, hml, ht, hown, hK, hA, hlocks, hA0, hO, hbs⟩ := id C0
  unfold fb_Cm_signs_13 at hf
  refine lv_iload hx hb d_Cm_signs_13 (lv_at hl 5 rfl) ?_
  refine lv_if_eq (tgt := 213) hx hb d_Cm_signs_15 (by decide) (fun hc => ?_) (fun hc => ?_)
  · rw [br_p _ hc] at hf
    exact xr0_v C0 hP hD hS hf d_Cm_signs_213
  · rw [br_n _ hc] at hf
    refine lv_aload_n hx hb d_Cm_signs_18 rfl (lv_at hl 0 rfl) ?_
    obtain ⟨r28, g28, hf⟩ := bo_some hf
    refine xg_R (i := v0) (k := 1) hx hb ht hown ck_Cm hK hP (by decide) fk_Cm_39 g28 d_Cm_signs_19 ?_
    obtain ⟨j29, ej29, hf⟩ := bo_some hf
    rw [ej29]
    obtain ⟨r30, g30, hf⟩ := bo_some hf
    refine xg_R (i := j29) (k := 0) hx hb ht hown ck_Tr hK hP (by decide) fk_Cm_177 g30 d_Cm_signs_22 ?_
    refine lv_iload hx hb d_Cm_signs_25 (lv_at hl 5 rfl) ?_
    obtain ⟨j31, ej31, hf⟩ := bo_some hf
    rw [ej31]
    obtain ⟨r32, g32, hf⟩ := bo_some hf
    refine xl_I (i := j31) hx hb hK hP g32 d_Cm_signs_27 ?_
    refine lv_istore (lv' := [(7, .int r32), (0, .ref (ad v0)), (2, .int v2), (3, .int v3), (4, .int v4), (5, .int v5), (6, .int v6)]) hx hb d_Cm_signs_28 hl (by decide) (by first | rfl | simp [List.filter, cat_rf]) (fun ls hl => ?_)
    refine lv_aload_n hx hb d_Cm_signs_30 rfl (lv_at hl 1 rfl) ?_
    obtain ⟨r33, g33, hf⟩ := bo_some hf
    refine xg_R (i := v0) (k := 1) hx hb ht hown ck_Cm hK hP (by decide) fk_Cm_39 g33 d_Cm_signs_31 ?_
    obtain ⟨j34, ej34, hf⟩ := bo_some hf
    rw [ej34]
    obtain ⟨r35, g35, hf⟩ := bo_some hf
    refine xg_R (i := j34) (k := 2) hx hb ht hown ck_Tr hK hP (by decide) fk_Cm_125 g35 d_Cm_signs_34 ?_
    refine lv_iload hx hb d_Cm_signs_37 (lv_at hl 6 rfl) ?_
    obtain ⟨j36, ej36, hf⟩ := bo_some hf
    rw [ej36]
    obtain ⟨r37, g37, hf⟩ := bo_some hf
    refine xl_I (i := j36) hx hb hK hP g37 d_Cm_signs_39 ?_
    refine lv_istore (lv' := [(8, .int r37), (7, .int r32), (0, .ref (ad v0)), (2, .int v2), (3, .int v3), (4, .int v4), (5, .int v5), (6, .int v6)]) hx hb d_Cm_signs_40 hl (by decide) (by first | rfl | simp [List.filter, cat_rf]) (fun ls hl => ?_)
    refine lv_iload hx hb d_Cm_signs_42 (lv_at hl 1 rfl) ?_
    refine lv_bipush (v := 24) hx hb d_Cm_signs_44 (by decide) ?_
    refine lv_icmp_ne (tgt := 82) hx hb d_Cm_signs_46 (by decide) (fun hc => ?_) (fun hc => ?_)
    · rw [br_n _ hc] at hf
      exact wb_Cm_signs_82 C0 hE N S hSg G hG _ _ _ _ _ _ _ _ _ _ hf H locs hP hD hS ls (lv_sub hl [2, 3, 4, 5, 6, 7, 1, 0] rfl)
    · rw [br_p _ hc] at hf
      refine lv_iload hx hb d_Cm_signs_49 (lv_at hl 0 rfl) ?_
      refine lv_bipush (v := 6) hx hb d_Cm_signs_51 (by decide) ?_
      refine lv_icmp_ne (tgt := 82) hx hb d_Cm_signs_53 (by decide) (fun hc => ?_) (fun hc => ?_)
      · rw [br_n _ hc] at hf
        exact wb_Cm_signs_82 C0 hE N S hSg G hG _ _ _ _ _ _ _ _ _ _ hf H locs hP hD hS ls (lv_sub hl [2, 3, 4, 5, 6, 7, 1, 0] rfl)
      · rw [br_p _ hc] at hf
        refine lv_aload_n hx hb d_Cm_signs_56 rfl (lv_at hl 2 rfl) ?_
        obtain ⟨r38, g38, hf⟩ := bo_some hf
        refine xg_R (i := v0) (k := 2) hx hb ht hown ck_Cm hK hP (by decide) fk_Cm_43 g38 d_Cm_signs_57 ?_
        refine lv_bipush (v := 13) hx hb d_Cm_signs_60 (by decide) ?_
        obtain ⟨j40, ej40, hf⟩ := bo_some hf
        rw [ej40]
        obtain ⟨hO9, hf⟩ := ck_some hf
        obtain ⟨u39, r39, hc39, hf⟩ := bx_some hf
        refine xV0 (i := j40) (As := [.int 13]) (rest := []) C0 hP hD hS ck_Co hO9 (c_Co_put N hc39) k_Co_put (wd_of 1149 (by decide +kernel) rfl) hi_Co_put hs_Co_put hini_Co rfl rfl hd_Co_put rfl rm_Cm_signs_Co_put hl.1 (Nat.le_of_ble_eq_true rfl) d_Cm_signs_62 rfl ⟨Nat.zero_le _, Nat.zero_le _⟩ (fun H locs hP hD hS => ?_)
        refine lv_aload_n hx hb d_Cm_signs_65 rfl (lv_at hl 2 rfl) ?_
        obtain ⟨r41, g41, hf⟩ := bo_some hf
        refine xg_R (i := v0) (k := 2) hx hb ht hown ck_Cm hK hP (by decide) fk_Cm_43 g41 d_Cm_signs_66 ?_
        refine lv_iconst (v := 0) hx hb d_Cm_signs_69 (by decide) ?_
        obtain ⟨j43, ej43, hf⟩ := bo_some hf
        rw [ej43]
        obtain ⟨hO9, hf⟩ := ck_some hf
        obtain ⟨u42, r42, hc42, hf⟩ := bx_some hf
        refine xV0 (i := j43) (As := [.int 0]) (rest := []) C0 hP hD hS ck_Co hO9 (c_Co_hook N hc42) k_Co_hook (wd_of 1153 (by decide +kernel) rfl) hi_Co_hook hs_Co_hook hini_Co rfl rfl hd_Co_hook rfl rm_Cm_signs_Co_hook hl.1 (Nat.le_of_ble_eq_true rfl) d_Cm_signs_70 rfl ⟨Nat.zero_le _, Nat.zero_le _⟩ (fun H locs hP hD hS => ?_)
        refine lv_istore_n (lv' := [(2, .int r42), (8, .int r37), (7, .int r32), (0, .ref (ad v0)), (3, .int v3), (4, .int v4), (5, .int v5), (6, .int v6)]) hx hb d_Cm_signs_73 rfl hl (by decide) (by first | rfl | simp [List.filter, cat_rf]) (fun ls hl => ?_)
        refine lv_aload_n hx hb d_Cm_signs_74 rfl (lv_at hl 3 rfl) ?_
        obtain ⟨r44, g44, hf⟩ := bo_some hf
        refine xg_I (i := v0) (k := 6) hx hb ht hown ck_Cm hK hP (by decide) fk_Cm_116 g44 d_Cm_signs_75 ?_
        refine lv_istore_n (lv' := [(3, .int r44), (2, .int r42), (8, .int r37), (7, .int r32), (0, .ref (ad v0)), (4, .int v4), (5, .int v5), (6, .int v6)]) hx hb d_Cm_signs_78 rfl hl (by decide) (by first | rfl | simp [List.filter, cat_rf]) (fun ls hl => ?_)
        refine lv_goto (tgt := 198) hx hb d_Cm_signs_79 (by decide) ?_
        exact wb_Cm_signs_198 C0 hE N S hSg G hG _ _ _ _ _ _ _ _ hf H locs hP hD hS ls (lv_sub hl [4, 1, 0, 5, 6, 7] rfl)
def fb_Cm_signs_0 (N : Nat) (S : SG_Cm_fun) (G : (CS → Nat → Int32 → Int32 → Int32 → Int32 → Int32 → Option (CS × Unit))) (u : CS) (v0 : Nat) (v1 : Int32) : Option (CS × Unit) := G u (v0) (0) (0) (0) (0) (v1)
set_option maxRecDepth 100000 in
set_option maxHeartbeats 4000000 in
theorem wb_Cm_signs_0 {p : Program} {l : Launch} {e : Env} {s : State} {m : MethodId} {args : Array Value} {below : List Frame} {meth : Method} {c : Code} {s0 : State} {b0 : Nat} {D : va_G} {cB cI cJ cZ cS cP : ClassId} {A : Nat → Prop} {sk sv : Nat → Nat} {d : Nat} {ad : Nat → Nat} (C0 : XCx p s s0 b0 m args meth c R_Cm b_Cm_signs 9 none D cB cI cJ cZ cS cP A) (hE : ENV s0 b0 sk sv) (N : Nat) (S : SG_Cm_fun) (hSg : HS_Cm_fun l s0 b0 D cB cI cJ cZ cS cP d S) (G : (CS → Nat → Int32 → Int32 → Int32 → Int32 → Int32 → Option (CS × Unit))) (hG : (∀ (u : CS) (v0 : Nat) (v2 : Int32) (v3 : Int32) (v4 : Int32) (v5 : Int32) (v6 : Int32) (x : CS × Unit), G u v0 v2 v3 v4 v5 v6 = some x → ∀ (H : Heap) (locs : List Loc), va_P D cls (wC cB cI cJ cZ cS cP ad u) H → va_D A (wC cB cI cJ cZ cS cP ad u) → va_S A s.heap H locs → ∀ (ls : Array Slot), lv_has ls 9 [(0, .ref (ad v0)), (2, .int v2), (3, .int v3), (4, .int v4), (5, .int v5), (6, .int v6)] → W p l e (rg_Cm_fun (d + 1)) s m args below meth c H locs 0 0 (MQ below (xQ0 D cB cI cJ cZ cS cP A ad x.1 none) args s 0 0 A) (F0 m 13 ls []))) : ∀ (u : CS) (v0 : Nat) (v1 : Int32) (x : CS × Unit), fb_Cm_signs_0 N S G u v0 v1 = some x → ∀ (H : Heap) (locs : List Loc), va_P D cls (wC cB cI cJ cZ cS cP ad u) H → va_D A (wC cB cI cJ cZ cS cP ad u) → va_S A s.heap H locs → ∀ (ls : Array Slot), lv_has ls 9 [(0, .ref (ad v0)), (1, .int v1)] → W p l e (rg_Cm_fun (d + 1)) s m args below meth c H locs 0 0 (MQ below (xQ0 D cB cI cJ cZ cS cP A ad x.1 none) args s 0 0 A) (F0 m 0 ls []) := by
  intro u v0 v1 x hf H locs hP hD hS ls hl
  obtain ⟨hx, hb, hr, hml, ht, hown, hK, hA, hlocks, hA0, hO, hbs⟩ := id C0
  unfold fb_Cm_signs_0 at hf
  refine lv_iconst (v := 0) hx hb d_Cm_signs_0 (by decide) ?_
  refine lv_istore_n (lv' := [(2, .int 0), (0, .ref (ad v0)), (1, .int v1)]) hx hb d_Cm_signs_1 rfl hl (by decide) (by first | rfl | simp [List.filter, cat_rf]) (fun ls hl => ?_)
  refine lv_iconst (v := 0) hx hb d_Cm_signs_2 (by decide) ?_
  refine lv_istore_n (lv' := [(3, .int 0), (2, .int 0), (0, .ref (ad v0)), (1, .int v1)]) hx hb d_Cm_signs_3 rfl hl (by decide) (by first | rfl | simp [List.filter, cat_rf]) (fun ls hl => ?_)
  refine lv_iconst (v := 0) hx hb d_Cm_signs_4 (by decide) ?_
  refine lv_istore (lv' := [(4, .int 0), (3, .int 0), (2, .int 0), (0, .ref (ad v0)), (1, .int v1)]) hx hb d_Cm_signs_5 hl (by decide) (by first | rfl | simp [List.filter, cat_rf]) (fun ls hl => ?_)
  refine lv_iconst (v := 0) hx hb d_Cm_signs_7 (by decide) ?_
  refine lv_istore (lv' := [(5, .int 0), (4, .int 0), (3, .int 0), (2, .int 0), (0, .ref (ad v0)), (1, .int v1)]) hx hb d_Cm_signs_8 hl (by decide) (by first | rfl | simp [List.filter, cat_rf]) (fun ls hl => ?_)
  refine lv_iload_n hx hb d_Cm_signs_10 rfl (lv_at hl 5 rfl) ?_
  refine lv_istore (lv' := [(6, .int v1), (5, .int 0), (4, .int 0), (3, .int 0), (2, .int 0), (0, .ref (ad v0)), (1, .int v1)]) hx hb d_Cm_signs_11 hl (by decide) (by first | rfl | simp [List.filter, cat_rf]) (fun ls hl => ?_)
  exact hG _ _ _ _ _ _ _ _ hf H locs hP hD hS ls (lv_sub hl [5, 4, 3, 2, 1, 0] rfl)
def gg_Cm_signs (N : Nat) (S : SG_Cm_fun) : Nat → ((CS → Nat → Int32 → Int32 → Int32 → Int32 → Int32 → Option (CS × Unit)))
  | 0 => fun _ _ _ _ _ _ _ => none
  | n + 1 => fb_Cm_signs_13 N S (gg_Cm_signs N S n)
theorem wg_Cm_signs {p : Program} {l : Launch} {e : Env} {s : State} {m : MethodId} {args : Array Value} {below : List Frame} {meth : Method} {c : Code} {s0 : State} {b0 : Nat} {D : va_G} {cB cI cJ cZ cS cP : ClassId} {A : Nat → Prop} {sk sv : Nat → Nat} {d : Nat} {ad : Nat → Nat} (C0 : XCx p s s0 b0 m args meth c R_Cm b_Cm_signs 9 none D cB cI cJ cZ cS cP A) (hE : ENV s0 b0 sk sv) (N : Nat) (S : SG_Cm_fun) (hSg : HS_Cm_fun l s0 b0 D cB cI cJ cZ cS cP d S) : ∀ n : Nat, (∀ (u : CS) (v0 : Nat) (v2 : Int32) (v3 : Int32) (v4 : Int32) (v5 : Int32) (v6 : Int32) (x : CS × Unit), gg_Cm_signs N S n u v0 v2 v3 v4 v5 v6 = some x → ∀ (H : Heap) (locs : List Loc), va_P D cls (wC cB cI cJ cZ cS cP ad u) H → va_D A (wC cB cI cJ cZ cS cP ad u) → va_S A s.heap H locs → ∀ (ls : Array Slot), lv_has ls 9 [(0, .ref (ad v0)), (2, .int v2), (3, .int v3), (4, .int v4), (5, .int v5), (6, .int v6)] → W p l e (rg_Cm_fun (d + 1)) s m args below meth c H locs 0 0 (MQ below (xQ0 D cB cI cJ cZ cS cP A ad x.1 none) args s 0 0 A) (F0 m 13 ls []))
  | 0 => (fun u v0 v2 v3 v4 v5 v6 x hf => by cases hf)
  | n + 1 => wb_Cm_signs_13 C0 hE N S hSg (gg_Cm_signs N S n) (wg_Cm_signs C0 hE N S hSg n)
def fm_Cm_signs (N : Nat) (S : SG_Cm_fun) (u : CS) (v0 : Nat) (v1 : Int32) : Option (CS × Unit) := fb_Cm_signs_0 N S (gg_Cm_signs N S N) u v0 v1
set_option maxRecDepth 100000 in
set_option maxHeartbeats 4000000 in
theorem cs_Cm_signs (N : Nat) {d : Nat} {l : Launch} {s0 : State} {b0 : Nat} {D : va_G} {cB cI cJ cZ cS cP : ClassId} {sk sv : Nat → Nat} {ad : Nat → Nat} {u : CS} {sz : Nat} {v0 : Nat} {v1 : Int32} {x : CS × Unit} (hE : ENV s0 b0 sk sv) (S : SG_Cm_fun) (hSg : HS_Cm_fun l s0 b0 D cB cI cJ cZ cS cP d S) (hf : fm_Cm_signs N S u v0 v1 = some x) : Met l y_Cm_signs (wd_ws y_Cm_signs b_Cm_signs 9 none) (rg_Cm_fun (d + 1)) (xPc s0 b0 D cB cI cJ cZ cS cP ad u sz [.ref (ad v0), .int v1]) (xQ0 D cB cI cJ cZ cS cP (xA cB cI cJ cZ cS cP ad u sz) ad x.1 none) 0 0 (xA cB cI cJ cZ cS cP ad u sz) :=
  xMet (by decide) rfl (Nat.le_of_ble_eq_true rfl) (fun p e s m below meth c ls hsz hnm C0 hP hD hS hl =>
    wb_Cm_signs_0 C0 hE N S hSg (gg_Cm_signs N S N) (wg_Cm_signs C0 hE N S hSg N) u _ _ x hf s.heap [] hP hD hS ls (lv_sub hl [0, 1] rfl))
theorem rm_Cm_list_Co_put {d : Nat} : (rm_Co_put).frames + 1 ≤ (rg_Cm_fun (d + 1)).frames ∧ 8 + (2 + 11) + (rm_Co_put).locals ≤ (rg_Cm_fun (d + 1)).locals := by
  show 0 + 1 ≤ 304 + (d + 1) ∧ 8 + (2 + 11) + 0 ≤ 6688 + 28 * (d + 1)
  omega
theorem rm_Cm_list_Cm_term {d : Nat} : (rm_Cm_term).frames + 1 ≤ (rg_Cm_fun (d + 1)).frames ∧ 8 + (3 + 11) + (rm_Cm_term).locals ≤ (rg_Cm_fun (d + 1)).locals := by
  show 1 + 1 ≤ 304 + (d + 1) ∧ 8 + (3 + 11) + 21 ≤ 6688 + 28 * (d + 1)
  omega
theorem rm_Cm_list_Cm_row {d : Nat} : (rg_Cm_fun d).frames + 1 ≤ (rg_Cm_fun (d + 1)).frames ∧ 8 + (3 + 11) + (rg_Cm_fun d).locals ≤ (rg_Cm_fun (d + 1)).locals := by
  show 304 + d + 1 ≤ 304 + (d + 1) ∧ 8 + (3 + 11) + (6688 + 28 * d) ≤ 6688 + 28 * (d + 1)
  omega
theorem rm_Cm_list_Cm_expression {d : Nat} : (rg_Cm_fun d).frames + 1 ≤ (rg_Cm_fun (d + 1)).frames ∧ 8 + (4 + 11) + (rg_Cm_fun d).locals ≤ (rg_Cm_fun (d + 1)).locals := by
  show 304 + d + 1 ≤ 304 + (d + 1) ∧ 8 + (4 + 11) + (6688 + 28 * d) ≤ 6688 + 28 * (d + 1)
  omega
def fb_Cm_list_93 (N : Nat) (S : SG_Cm_fun) (G : Unit) (u : CS) : Option (CS × Unit) := some (u, ())
set_option maxRecDepth 100000 in
set_option maxHeartbeats 4000000 in
theorem wb_Cm_list_93 {p : Program} {l : Launch} {e : Env} {s : State} {m : MethodId} {args : Array Value} {below : List Frame} {meth : Method} {c : Code} {s0 : State} {b0 : Nat} {D : va_G} {cB cI cJ cZ cS cP : ClassId} {A : Nat → Prop} {sk sv : Nat → Nat} {d : Nat} {ad : Nat → Nat} (C0 : XCx p s s0 b0 m args meth c R_Cm b_Cm_list 2 none D cB cI cJ cZ cS cP A) (hE : ENV s0 b0 sk sv) (N : Nat) (S : SG_Cm_fun) (hSg : HS_Cm_fun l s0 b0 D cB cI cJ cZ cS cP d S) (G : Unit) (hG : True) : ∀ (u : CS) (x : CS × Unit), fb_Cm_list_93 N S G u = some x → ∀ (H : Heap) (locs : List Loc), va_P D cls (wC cB cI cJ cZ cS cP ad u) H → va_D A (wC cB cI cJ cZ cS cP ad u) → va_S A s.heap H locs → ∀ (ls : Array Slot), lv_has ls 2 [] → W p l e (rg_Cm_fun (d + 1)) s m args below meth c H locs 0 0 (MQ below (xQ0 D cB cI cJ cZ cS cP A ad x.1 none) args s 0 0 A) (F0 m 93 ls []) := by
  intro u x hf H locs hP hD hS ls hl
  obtain ⟨hx, hb, hr, hml, ht, hown, hK, hA, hlocks, hA0, hO, hbs⟩ := id C0
  unfold fb_Cm_list_93 at hf
  exact xr0_v C0 hP hD hS hf d_Cm_list_93
def fb_Cm_list_57 (N : Nat) (S : SG_Cm_fun) (G : Unit) (u : CS) (v0 : Nat) (v1 : Int32) : Option (CS × Unit) := bo (gR u v0 3 1) (fun r1 => bo r1 (fun j2 => bo (gR u j2 10 3) (fun r3 => bo r3 (fun j4 => bo (aI u j4 4 v1) (fun r5 => br (decide (r5 ≤ 0)) (fb_Cm_list_93 N S G u) (bo (gR u v0 3 2) (fun r6 => bo r6 (fun j8 => ck (isO u j8 2) (bx (fm_Co_put N u j8 5) (fun u7 r7 => bo (gR u7 v0 3 2) (fun r9 => bo (gR u7 v0 3 1) (fun r10 => bo r10 (fun j11 => bo (gR u7 j11 10 3) (fun r12 => bo r12 (fun j13 => bo (aI u7 j13 4 v1) (fun r14 => bo r9 (fun j16 => ck (isO u7 j16 2) (bx (fm_Co_put N u7 j16 r14) (fun u15 r15 => fb_Cm_list_93 N S G u15)))))))))))))))))))
set_option maxRecDepth 100000 in
set_option maxHeartbeats 4000000 in
theorem wb_Cm_list_57 {p : Program} {l : Launch} {e : Env} {s : State} {m : MethodId} {args : Array Value} {below : List Frame} {meth : Method} {c : Code} {s0 : State} {b0 : Nat} {D : va_G} {cB cI cJ cZ cS cP : ClassId} {A : Nat → Prop} {sk sv : Nat → Nat} {d : Nat} {ad : Nat → Nat} (C0 : XCx p s s0 b0 m args meth c R_Cm b_Cm_list 2 none D cB cI cJ cZ cS cP A) (hE : ENV s0 b0 sk sv) (N : Nat) (S : SG_Cm_fun) (hSg : HS_Cm_fun l s0 b0 D cB cI cJ cZ cS cP d S) (G : Unit) (hG : True) : ∀ (u : CS) (v0 : Nat) (v1 : Int32) (x : CS × Unit), fb_Cm_list_57 N S G u v0 v1 = some x → ∀ (H : Heap) (locs : List Loc), va_P D cls (wC cB cI cJ cZ cS cP ad u) H → va_D A (wC cB cI cJ cZ cS cP ad u) → va_S A s.heap H locs → ∀ (ls : Array Slot), lv_has ls 2 [(0, .ref (ad v0)), (1, .int v1)] → W p l e (rg_Cm_fun (d + 1)) s m args below meth c H locs 0 0 (MQ below (xQ0 D cB cI cJ cZ cS cP A ad x.1 none) args s 0 0 A) (F0 m 57 ls []) := by
  intro u v0 v1 x hf H locs hP hD hS ls hl
  obtain ⟨hx, hb, hr, hml, ht, hown, hK, hA, hlocks, hA0, hO, hbs⟩ := id C0
  unfold fb_Cm_list_57 at hf
  refine lv_aload_n hx hb d_Cm_list_57 rfl (lv_at hl 0 rfl) ?_
  obtain ⟨r1, g1, hf⟩ := bo_some hf
  refine xg_R (i := v0) (k := 1) hx hb ht hown ck_Cm hK hP (by decide) fk_Cm_39 g1 d_Cm_list_58 ?_
  obtain ⟨j2, ej2, hf⟩ := bo_some hf
  rw [ej2]
  obtain ⟨r3, g3, hf⟩ := bo_some hf
  refine xg_R (i := j2) (k := 3) hx hb ht hown ck_Tr hK hP (by decide) fk_Cm_171 g3 d_Cm_list_61 ?_
  refine lv_iload_n hx hb d_Cm_list_64 rfl (lv_at hl 1 rfl) ?_
  obtain ⟨j4, ej4, hf⟩ := bo_some hf
  rw [ej4]
  obtain ⟨r5, g5, hf⟩ := bo_some hf
  refine xl_I (i := j4) hx hb hK hP g5 d_Cm_list_65 ?_
  refine lv_if_le (tgt := 93) hx hb d_Cm_list_66 (by decide) (fun hc => ?_) (fun hc => ?_)
  · rw [br_p _ hc] at hf
    exact wb_Cm_list_93 C0 hE N S hSg G hG _ _ hf H locs hP hD hS ls (lv_sub hl [] rfl)
  · rw [br_n _ hc] at hf
    refine lv_aload_n hx hb d_Cm_list_69 rfl (lv_at hl 0 rfl) ?_
    obtain ⟨r6, g6, hf⟩ := bo_some hf
    refine xg_R (i := v0) (k := 2) hx hb ht hown ck_Cm hK hP (by decide) fk_Cm_43 g6 d_Cm_list_70 ?_
    refine lv_iconst (v := 5) hx hb d_Cm_list_73 (by decide) ?_
    obtain ⟨j8, ej8, hf⟩ := bo_some hf
    rw [ej8]
    obtain ⟨hO9, hf⟩ := ck_some hf
    obtain ⟨u7, r7, hc7, hf⟩ := bx_some hf
    refine xV0 (i := j8) (As := [.int 5]) (rest := []) C0 hP hD hS ck_Co hO9 (c_Co_put N hc7) k_Co_put (wd_of 1149 (by decide +kernel) rfl) hi_Co_put hs_Co_put hini_Co rfl rfl hd_Co_put rfl rm_Cm_list_Co_put hl.1 (Nat.le_of_ble_eq_true rfl) d_Cm_list_74 rfl ⟨Nat.zero_le _, Nat.zero_le _⟩ (fun H locs hP hD hS => ?_)
    refine lv_aload_n hx hb d_Cm_list_77 rfl (lv_at hl 0 rfl) ?_
    obtain ⟨r9, g9, hf⟩ := bo_some hf
    refine xg_R (i := v0) (k := 2) hx hb ht hown ck_Cm hK hP (by decide) fk_Cm_43 g9 d_Cm_list_78 ?_
    refine lv_aload_n hx hb d_Cm_list_81 rfl (lv_at hl 0 rfl) ?_
    obtain ⟨r10, g10, hf⟩ := bo_some hf
    refine xg_R (i := v0) (k := 1) hx hb ht hown ck_Cm hK hP (by decide) fk_Cm_39 g10 d_Cm_list_82 ?_
    obtain ⟨j11, ej11, hf⟩ := bo_some hf
    rw [ej11]
    obtain ⟨r12, g12, hf⟩ := bo_some hf
    refine xg_R (i := j11) (k := 3) hx hb ht hown ck_Tr hK hP (by decide) fk_Cm_171 g12 d_Cm_list_85 ?_
    refine lv_iload_n hx hb d_Cm_list_88 rfl (lv_at hl 1 rfl) ?_
    obtain ⟨j13, ej13, hf⟩ := bo_some hf
    rw [ej13]
    obtain ⟨r14, g14, hf⟩ := bo_some hf
    refine xl_I (i := j13) hx hb hK hP g14 d_Cm_list_89 ?_
    obtain ⟨j16, ej16, hf⟩ := bo_some hf
    rw [ej16]
    obtain ⟨hO9, hf⟩ := ck_some hf
    obtain ⟨u15, r15, hc15, hf⟩ := bx_some hf
    refine xV0 (i := j16) (As := [.int r14]) (rest := []) C0 hP hD hS ck_Co hO9 (c_Co_put N hc15) k_Co_put (wd_of 1149 (by decide +kernel) rfl) hi_Co_put hs_Co_put hini_Co rfl rfl hd_Co_put rfl rm_Cm_list_Co_put hl.1 (Nat.le_of_ble_eq_true rfl) d_Cm_list_90 rfl ⟨Nat.zero_le _, Nat.zero_le _⟩ (fun H locs hP hD hS => ?_)
    exact wb_Cm_list_93 C0 hE N S hSg G hG _ _ hf H locs hP hD hS ls (lv_sub hl [] rfl)
def fb_Cm_list_0 (N : Nat) (S : SG_Cm_fun) (G : Unit) (u : CS) (v0 : Nat) (v1 : Int32) : Option (CS × Unit) := bo (gR u v0 3 1) (fun r17 => bo r17 (fun j18 => bo (gR u j18 10 2) (fun r19 => bo r19 (fun j20 => bo (aI u j20 4 v1) (fun r21 => ck (isO u v0 3) (bx (S.2.2.2.2.2.2.2.2.2.1 u v0 r21) (fun u22 r22 => bo (gR u22 v0 3 1) (fun r23 => bo r23 (fun j24 => bo (gR u22 j24 10 4) (fun r25 => bo r25 (fun j26 => bo (aI u22 j26 4 v1) (fun r27 => br (decide (r27 = 0)) (bo (gR u22 v0 3 2) (fun r28 => bo r28 (fun j30 => ck (isO u22 j30 2) (bx (fm_Co_put N u22 j30 1) (fun u29 r29 => ck (isO u29 v0 3) (bx (fm_Cm_term N u29 v0 6 0) (fun u31 r31 => fb_Cm_list_57 N S G u31 (v0) (v1)))))))) (bo (gR u22 v0 3 1) (fun r32 => bo r32 (fun j33 => bo (gR u22 j33 10 4) (fun r34 => bo r34 (fun j35 => bo (aI u22 j35 4 v1) (fun r36 => ck (isO u22 v0 3) (bx (S.2.2.2.2.2.2.2.2.2.2.1 u22 v0 r36 0) (fun u37 r37 => fb_Cm_list_57 N S G u37 (v0) (v1)))))))))))))))))))))
set_option maxRecDepth 100000 in
set_option maxHeartbeats 4000000 in
theorem wb_Cm_list_0 {p : Program} {l : Launch} {e : Env} {s : State} {m : MethodId} {args : Array Value} {below : List Frame} {meth : Method} {c : Code} {s0 : State} {b0 : Nat} {D : va_G} {cB cI cJ cZ cS cP : ClassId} {A : Nat → Prop} {sk sv : Nat → Nat} {d : Nat} {ad : Nat → Nat} (C0 : XCx p s s0 b0 m args meth c R_Cm b_Cm_list 2 none D cB cI cJ cZ cS cP A) (hE : ENV s0 b0 sk sv) (N : Nat) (S : SG_Cm_fun) (hSg : HS_Cm_fun l s0 b0 D cB cI cJ cZ cS cP d S) (G : Unit) (hG : True) : ∀ (u : CS) (v0 : Nat) (v1 : Int32) (x : CS × Unit), fb_Cm_list_0 N S G u v0 v1 = some x → ∀ (H : Heap) (locs : List Loc), va_P D cls (wC cB cI cJ cZ cS cP ad u) H → va_D A (wC cB cI cJ cZ cS cP ad u) → va_S A s.heap H locs → ∀ (ls : Array Slot), lv_has ls 2 [(0, .ref (ad v0)), (1, .int v1)] → W p l e (rg_Cm_fun (d + 1)) s m args below meth c H locs 0 0 (MQ below (xQ0 D cB cI cJ cZ cS cP A ad x.1 none) args s 0 0 A) (F0 m 0 ls []) := by
  intro u v0 v1 x hf H locs hP hD hS ls hl
  obtain ⟨hx, hb, hr, hml, ht, hown, hK, hA, hlocks, hA0, hO, hbs⟩ := id C0
  unfold fb_Cm_list_0 at hf
  refine lv_aload_n hx hb d_Cm_list_0 rfl (lv_at hl 0 rfl) ?_
  refine lv_aload_n hx hb d_Cm_list_1 rfl (lv_at hl 0 rfl) ?_
  obtain ⟨r17, g17, hf⟩ := bo_some hf
  refine xg_R (i := v0) (k := 1) hx hb ht hown ck_Cm hK hP (by decide) fk_Cm_39 g17 d_Cm_list_2 ?_
  obtain ⟨j18, ej18, hf⟩ := bo_some hf
  rw [ej18]
  obtain ⟨r19, g19, hf⟩ := bo_some hf
  refine xg_R (i := j18) (k := 2) hx hb ht hown ck_Tr hK hP (by decide) fk_Cm_125 g19 d_Cm_list_5 ?_
  refine lv_iload_n hx hb d_Cm_list_8 rfl (lv_at hl 1 rfl) ?_
  obtain ⟨j20, ej20, hf⟩ := bo_some hf
  rw [ej20]
  obtain ⟨r21, g21, hf⟩ := bo_some hf
  refine xl_I (i := j20) hx hb hK hP g21 d_Cm_list_9 ?_
  obtain ⟨hO9, hf⟩ := ck_some hf
  obtain ⟨u22, r22, hc22, hf⟩ := bx_some hf
  refine xV0 (i := v0) (As := [.int r21]) (rest := []) C0 hP hD hS ck_Cm hO9 (hSg.2.2.2.2.2.2.2.2.2.1 _ _ _ _ _ _ hc22) k_Cm_row (wd_of 1198 (by decide +kernel) rfl) hi_Cm_row hs_Cm_row hini_Cm rfl rfl hd_Cm_row rfl rm_Cm_list_Cm_row hl.1 (Nat.le_of_ble_eq_true rfl) d_Cm_list_10 rfl ⟨Nat.zero_le _, Nat.zero_le _⟩ (fun H locs hP hD hS => ?_)
  refine lv_aload_n hx hb d_Cm_list_13 rfl (lv_at hl 0 rfl) ?_
  obtain ⟨r23, g23, hf⟩ := bo_some hf
  refine xg_R (i := v0) (k := 1) hx hb ht hown ck_Cm hK hP (by decide) fk_Cm_39 g23 d_Cm_list_14 ?_
  obtain ⟨j24, ej24, hf⟩ := bo_some hf
  rw [ej24]
  obtain ⟨r25, g25, hf⟩ := bo_some hf
  refine xg_R (i := j24) (k := 4) hx hb ht hown ck_Tr hK hP (by decide) fk_Cm_155 g25 d_Cm_list_17 ?_
  refine lv_iload_n hx hb d_Cm_list_20 rfl (lv_at hl 1 rfl) ?_
  obtain ⟨j26, ej26, hf⟩ := bo_some hf
  rw [ej26]
  obtain ⟨r27, g27, hf⟩ := bo_some hf
  refine xl_I (i := j26) hx hb hK hP g27 d_Cm_list_21 ?_
  refine lv_if_eq (tgt := 42) hx hb d_Cm_list_22 (by decide) (fun hc => ?_) (fun hc => ?_)
  · rw [br_p _ hc] at hf
    refine lv_aload_n hx hb d_Cm_list_42 rfl (lv_at hl 0 rfl) ?_
    obtain ⟨r28, g28, hf⟩ := bo_some hf
    refine xg_R (i := v0) (k := 2) hx hb ht hown ck_Cm hK hP (by decide) fk_Cm_43 g28 d_Cm_list_43 ?_
    refine lv_iconst (v := 1) hx hb d_Cm_list_46 (by decide) ?_
    obtain ⟨j30, ej30, hf⟩ := bo_some hf
    rw [ej30]
    obtain ⟨hO9, hf⟩ := ck_some hf
    obtain ⟨u29, r29, hc29, hf⟩ := bx_some hf
    refine xV0 (i := j30) (As := [.int 1]) (rest := []) C0 hP hD hS ck_Co hO9 (c_Co_put N hc29) k_Co_put (wd_of 1149 (by decide +kernel) rfl) hi_Co_put hs_Co_put hini_Co rfl rfl hd_Co_put rfl rm_Cm_list_Co_put hl.1 (Nat.le_of_ble_eq_true rfl) d_Cm_list_47 rfl ⟨Nat.zero_le _, Nat.zero_le _⟩ (fun H locs hP hD hS => ?_)
    refine lv_aload_n hx hb d_Cm_list_50 rfl (lv_at hl 0 rfl) ?_
    refine lv_bipush (v := 6) hx hb d_Cm_list_51 (by decide) ?_
    refine lv_iconst (v := 0) hx hb d_Cm_list_53 (by decide) ?_
    obtain ⟨hO9, hf⟩ := ck_some hf
    obtain ⟨u31, r31, hc31, hf⟩ := bx_some hf
    refine xV0 (i := v0) (As := [.int 6, .int 0]) (rest := []) C0 hP hD hS ck_Cm hO9 (c_Cm_term N hc31) k_Cm_term (wd_of 1162 (by decide +kernel) rfl) hi_Cm_term hs_Cm_term hini_Cm rfl rfl hd_Cm_term rfl rm_Cm_list_Cm_term hl.1 (Nat.le_of_ble_eq_true rfl) d_Cm_list_54 rfl ⟨Nat.zero_le _, Nat.zero_le _⟩ (fun H locs hP hD hS => ?_)
    exact wb_Cm_list_57 C0 hE N S hSg G hG _ _ _ _ hf H locs hP hD hS ls (lv_sub hl [0, 1] rfl)
  · rw [br_n _ hc] at hf
    refine lv_aload_n hx hb d_Cm_list_25 rfl (lv_at hl 0 rfl) ?_
    refine lv_aload_n hx hb d_Cm_list_26 rfl (lv_at hl 0 rfl) ?_
    obtain ⟨r32, g32, hf⟩ := bo_some hf
    refine xg_R (i := v0) (k := 1) hx hb ht hown ck_Cm hK hP (by decide) fk_Cm_39 g32 d_Cm_list_27 ?_
    obtain ⟨j33, ej33, hf⟩ := bo_some hf
    rw [ej33]
    obtain ⟨r34, g34, hf⟩ := bo_some hf
    refine xg_R (i := j33) (k := 4) hx hb ht hown ck_Tr hK hP (by decide) fk_Cm_155 g34 d_Cm_list_30 ?_
    refine lv_iload_n hx hb d_Cm_list_33 rfl (lv_at hl 1 rfl) ?_
    obtain ⟨j35, ej35, hf⟩ := bo_some hf
    rw [ej35]
    obtain ⟨r36, g36, hf⟩ := bo_some hf
    refine xl_I (i := j35) hx hb hK hP g36 d_Cm_list_34 ?_
    refine lv_iconst (v := 0) hx hb d_Cm_list_35 (by decide) ?_
    obtain ⟨hO9, hf⟩ := ck_some hf
    obtain ⟨u37, r37, hc37, hf⟩ := bx_some hf
    refine xV0 (i := v0) (As := [.int r36, .int 0]) (rest := []) C0 hP hD hS ck_Cm hO9 (hSg.2.2.2.2.2.2.2.2.2.2.1 _ _ _ _ _ _ _ hc37) k_Cm_expression (wd_of 1190 (by decide +kernel) rfl) hi_Cm_expression hs_Cm_expression hini_Cm rfl rfl hd_Cm_expression rfl rm_Cm_list_Cm_expression hl.1 (Nat.le_of_ble_eq_true rfl) d_Cm_list_36 rfl ⟨Nat.zero_le _, Nat.zero_le _⟩ (fun H locs hP hD hS => ?_)
    refine lv_goto (tgt := 57) hx hb d_Cm_list_39 (by decide) ?_
    exact wb_Cm_list_57 C0 hE N S hSg G hG _ _ _ _ hf H locs hP hD hS ls (lv_sub hl [0, 1] rfl)
def fm_Cm_list (N : Nat) (S : SG_Cm_fun) (u : CS) (v0 : Nat) (v1 : Int32) : Option (CS × Unit) := fb_Cm_list_0 N S () u v0 v1
set_option maxRecDepth 100000 in
set_option maxHeartbeats 4000000 in
theorem cs_Cm_list (N : Nat) {d : Nat} {l : Launch} {s0 : State} {b0 : Nat} {D : va_G} {cB cI cJ cZ cS cP : ClassId} {sk sv : Nat → Nat} {ad : Nat → Nat} {u : CS} {sz : Nat} {v0 : Nat} {v1 : Int32} {x : CS × Unit} (hE : ENV s0 b0 sk sv) (S : SG_Cm_fun) (hSg : HS_Cm_fun l s0 b0 D cB cI cJ cZ cS cP d S) (hf : fm_Cm_list N S u v0 v1 = some x) : Met l y_Cm_list (wd_ws y_Cm_list b_Cm_list 2 none) (rg_Cm_fun (d + 1)) (xPc s0 b0 D cB cI cJ cZ cS cP ad u sz [.ref (ad v0), .int v1]) (xQ0 D cB cI cJ cZ cS cP (xA cB cI cJ cZ cS cP ad u sz) ad x.1 none) 0 0 (xA cB cI cJ cZ cS cP ad u sz) :=
  xMet (by decide) rfl (Nat.le_of_ble_eq_true rfl) (fun p e s m below meth c ls hsz hnm C0 hP hD hS hl =>
    wb_Cm_list_0 C0 hE N S hSg () trivial u _ _ x hf s.heap [] hP hD hS ls (lv_sub hl [0, 1] rfl))
theorem rm_Cm_row_Cm_expression {d : Nat} : (rg_Cm_fun d).frames + 1 ≤ (rg_Cm_fun (d + 1)).frames ∧ 8 + (4 + 11) + (rg_Cm_fun d).locals ≤ (rg_Cm_fun (d + 1)).locals := by
  show 304 + d + 1 ≤ 304 + (d + 1) ∧ 8 + (4 + 11) + (6688 + 28 * d) ≤ 6688 + 28 * (d + 1)
  omega
def fb_Cm_row_2 (N : Nat) (S : SG_Cm_fun) (G : (CS → Nat → Int32 → Option (CS × Unit))) (u : CS) (v0 : Nat) (v2 : Int32) : Option (CS × Unit) := br (decide (v2 = 0)) (some (u, ())) (ck (isO u v0 3) (bx (S.2.2.2.2.2.2.2.2.2.2.1 u v0 v2 0) (fun u1 r1 => bo (gR u1 v0 3 1) (fun r2 => bo r2 (fun j3 => bo (gR u1 j3 10 5) (fun r4 => bo r4 (fun j5 => bo (aI u1 j5 4 v2) (fun r6 => G u1 (v0) (r6)))))))))
set_option maxRecDepth 100000 in
set_option maxHeartbeats 4000000 in
theorem wb_Cm_row_2 {p : Program} {l : Launch} {e : Env} {s : State} {m : MethodId} {args : Array Value} {below : List Frame} {meth : Method} {c : Code} {s0 : State} {b0 : Nat} {D : va_G} {cB cI cJ cZ cS cP : ClassId} {A : Nat → Prop} {sk sv : Nat → Nat} {d : Nat} {ad : Nat → Nat} (C0 : XCx p s s0 b0 m args meth c R_Cm b_Cm_row 3 none D cB cI cJ cZ cS cP A) (hE : ENV s0 b0 sk sv) (N : Nat) (S : SG_Cm_fun) (hSg : HS_Cm_fun l s0 b0 D cB cI cJ cZ cS cP d S) (G : (CS → Nat → Int32 → Option (CS × Unit))) (hG : (∀ (u : CS) (v0 : Nat) (v2 : Int32) (x : CS × Unit), G u v0 v2 = some x → ∀ (H : Heap) (locs : List Loc), va_P D cls (wC cB cI cJ cZ cS cP ad u) H → va_D A (wC cB cI cJ cZ cS cP ad u) → va_S A s.heap H locs → ∀ (ls : Array Slot), lv_has ls 3 [(0, .ref (ad v0)), (2, .int v2)] → W p l e (rg_Cm_fun (d + 1)) s m args below meth c H locs 0 0 (MQ below (xQ0 D cB cI cJ cZ cS cP A ad x.1 none) args s 0 0 A) (F0 m 2 ls []))) : ∀ (u : CS) (v0 : Nat) (v2 : Int32) (x : CS × Unit), fb_Cm_row_2 N S G u v0 v2 = some x → ∀ (H : Heap) (locs : List Loc), va_P D cls (wC cB cI cJ cZ cS cP ad u) H → va_D A (wC cB cI cJ cZ cS cP ad u) → va_S A s.heap H locs → ∀ (ls : Array Slot), lv_has ls 3 [(0, .ref (ad v0)), (2, .int v2)] → W p l e (rg_Cm_fun (d + 1)) s m args below meth c H locs 0 0 (MQ below (xQ0 D cB cI cJ cZ cS cP A ad x.1 none) args s 0 0 A) (F0 m 2 ls []) := by
  intro u v0 v2 x hf H locs hP hD hS ls hl
  obtain ⟨hx, hb, hr, hml, ht, hown, hK, hA, hlocks, hA0, hO, hbs⟩ := id C0
  unfold fb_Cm_row_2 at hf
  refine lv_iload_n hx hb d_Cm_row_2 rfl (lv_at hl 1 rfl) ?_
  refine lv_if_eq (tgt := 25) hx hb d_Cm_row_3 (by decide) (fun hc => ?_) (fun hc => ?_)
  · rw [br_p _ hc] at hf
    exact xr0_v C0 hP hD hS hf d_Cm_row_25
  · rw [br_n _ hc] at hf
    refine lv_aload_n hx hb d_Cm_row_6 rfl (lv_at hl 0 rfl) ?_
    refine lv_iload_n hx hb d_Cm_row_7 rfl (lv_at hl 1 rfl) ?_
    refine lv_iconst (v := 0) hx hb d_Cm_row_8 (by decide) ?_
    obtain ⟨hO9, hf⟩ := ck_some hf
    obtain ⟨u1, r1, hc1, hf⟩ := bx_some hf
    refine xV0 (i := v0) (As := [.int v2, .int 0]) (rest := []) C0 hP hD hS ck_Cm hO9 (hSg.2.2.2.2.2.2.2.2.2.2.1 _ _ _ _ _ _ _ hc1) k_Cm_expression (wd_of 1190 (by decide +kernel) rfl) hi_Cm_expression hs_Cm_expression hini_Cm rfl rfl hd_Cm_expression rfl rm_Cm_row_Cm_expression hl.1 (Nat.le_of_ble_eq_true rfl) d_Cm_row_9 rfl ⟨Nat.zero_le _, Nat.zero_le _⟩ (fun H locs hP hD hS => ?_)
    refine lv_aload_n hx hb d_Cm_row_12 rfl (lv_at hl 0 rfl) ?_
    obtain ⟨r2, g2, hf⟩ := bo_some hf
    refine xg_R (i := v0) (k := 1) hx hb ht hown ck_Cm hK hP (by decide) fk_Cm_39 g2 d_Cm_row_13 ?_
    obtain ⟨j3, ej3, hf⟩ := bo_some hf
    rw [ej3]
    obtain ⟨r4, g4, hf⟩ := bo_some hf
    refine xg_R (i := j3) (k := 5) hx hb ht hown ck_Tr hK hP (by decide) fk_Cm_139 g4 d_Cm_row_16 ?_
    refine lv_iload_n hx hb d_Cm_row_19 rfl (lv_at hl 1 rfl) ?_
    obtain ⟨j5, ej5, hf⟩ := bo_some hf
    rw [ej5]
    obtain ⟨r6, g6, hf⟩ := bo_some hf
    refine xl_I (i := j5) hx hb hK hP g6 d_Cm_row_20 ?_
    refine lv_istore_n (lv' := [(2, .int r6), (0, .ref (ad v0))]) hx hb d_Cm_row_21 rfl hl (by decide) (by first | rfl | simp [List.filter, cat_rf]) (fun ls hl => ?_)
    refine lv_goto (tgt := 2) hx hb d_Cm_row_22 (by decide) ?_
    exact hG _ _ _ _ hf H locs hP hD hS ls (lv_sub hl [1, 0] rfl)
def fb_Cm_row_0 (N : Nat) (S : SG_Cm_fun) (G : (CS → Nat → Int32 → Option (CS × Unit))) (u : CS) (v0 : Nat) (v1 : Int32) : Option (CS × Unit) := G u (v0) (v1)
set_option maxRecDepth 100000 in
set_option maxHeartbeats 4000000 in
theorem wb_Cm_row_0 {p : Program} {l : Launch} {e : Env} {s : State} {m : MethodId} {args : Array Value} {below : List Frame} {meth : Method} {c : Code} {s0 : State} {b0 : Nat} {D : va_G} {cB cI cJ cZ cS cP : ClassId} {A : Nat → Prop} {sk sv : Nat → Nat} {d : Nat} {ad : Nat → Nat} (C0 : XCx p s s0 b0 m args meth c R_Cm b_Cm_row 3 none D cB cI cJ cZ cS cP A) (hE : ENV s0 b0 sk sv) (N : Nat) (S : SG_Cm_fun) (hSg : HS_Cm_fun l s0 b0 D cB cI cJ cZ cS cP d S) (G : (CS → Nat → Int32 → Option (CS × Unit))) (hG : (∀ (u : CS) (v0 : Nat) (v2 : Int32) (x : CS × Unit), G u v0 v2 = some x → ∀ (H : Heap) (locs : List Loc), va_P D cls (wC cB cI cJ cZ cS cP ad u) H → va_D A (wC cB cI cJ cZ cS cP ad u) → va_S A s.heap H locs → ∀ (ls : Array Slot), lv_has ls 3 [(0, .ref (ad v0)), (2, .int v2)] → W p l e (rg_Cm_fun (d + 1)) s m args below meth c H locs 0 0 (MQ below (xQ0 D cB cI cJ cZ cS cP A ad x.1 none) args s 0 0 A) (F0 m 2 ls []))) : ∀ (u : CS) (v0 : Nat) (v1 : Int32) (x : CS × Unit), fb_Cm_row_0 N S G u v0 v1 = some x → ∀ (H : Heap) (locs : List Loc), va_P D cls (wC cB cI cJ cZ cS cP ad u) H → va_D A (wC cB cI cJ cZ cS cP ad u) → va_S A s.heap H locs → ∀ (ls : Array Slot), lv_has ls 3 [(0, .ref (ad v0)), (1, .int v1)] → W p l e (rg_Cm_fun (d + 1)) s m args below meth c H locs 0 0 (MQ below (xQ0 D cB cI cJ cZ cS cP A ad x.1 none) args s 0 0 A) (F0 m 0 ls []) := by
  intro u v0 v1 x hf H locs hP hD hS ls hl
  obtain ⟨hx, hb, hr, hml, ht, hown, hK, hA, hlocks, hA0, hO, hbs⟩ := id C0
  unfold fb_Cm_row_0 at hf
  refine lv_iload_n hx hb d_Cm_row_0 rfl (lv_at hl 1 rfl) ?_
  refine lv_istore_n (lv' := [(2, .int v1), (0, .ref (ad v0)), (1, .int v1)]) hx hb d_Cm_row_1 rfl hl (by decide) (by first | rfl | simp [List.filter, cat_rf]) (fun ls hl => ?_)
  exact hG _ _ _ _ hf H locs hP hD hS ls (lv_sub hl [1, 0] rfl)
def gg_Cm_row (N : Nat) (S : SG_Cm_fun) : Nat → ((CS → Nat → Int32 → Option (CS × Unit)))
  | 0 => fun _ _ _ => none
  | n + 1 => fb_Cm_row_2 N S (gg_Cm_row N S n)
theorem wg_Cm_row {p : Program} {l : Launch} {e : Env} {s : State} {m : MethodId} {args : Array Value} {below : List Frame} {meth : Method} {c : Code} {s0 : State} {b0 : Nat} {D : va_G} {cB cI cJ cZ cS cP : ClassId} {A : Nat → Prop} {sk sv : Nat → Nat} {d : Nat} {ad : Nat → Nat} (C0 : XCx p s s0 b0 m args meth c R_Cm b_Cm_row 3 none D cB cI cJ cZ cS cP A) (hE : ENV s0 b0 sk sv) (N : Nat) (S : SG_Cm_fun) (hSg : HS_Cm_fun l s0 b0 D cB cI cJ cZ cS cP d S) : ∀ n : Nat, (∀ (u : CS) (v0 : Nat) (v2 : Int32) (x : CS × Unit), gg_Cm_row N S n u v0 v2 = some x → ∀ (H : Heap) (locs : List Loc), va_P D cls (wC cB cI cJ cZ cS cP ad u) H → va_D A (wC cB cI cJ cZ cS cP ad u) → va_S A s.heap H locs → ∀ (ls : Array Slot), lv_has ls 3 [(0, .ref (ad v0)), (2, .int v2)] → W p l e (rg_Cm_fun (d + 1)) s m args below meth c H locs 0 0 (MQ below (xQ0 D cB cI cJ cZ cS cP A ad x.1 none) args s 0 0 A) (F0 m 2 ls []))
  | 0 => (fun u v0 v2 x hf => by cases hf)
  | n + 1 => wb_Cm_row_2 C0 hE N S hSg (gg_Cm_row N S n) (wg_Cm_row C0 hE N S hSg n)
def fm_Cm_row (N : Nat) (S : SG_Cm_fun) (u : CS) (v0 : Nat) (v1 : Int32) : Option (CS × Unit) := fb_Cm_row_0 N S (gg_Cm_row N S N) u v0 v1
set_option maxRecDepth 100000 in
set_option maxHeartbeats 4000000 in
theorem cs_Cm_row (N : Nat) {d : Nat} {l : Launch} {s0 : State} {b0 : Nat} {D : va_G} {cB cI cJ cZ cS cP : ClassId} {sk sv : Nat → Nat} {ad : Nat → Nat} {u : CS} {sz : Nat} {v0 : Nat} {v1 : Int32} {x : CS × Unit} (hE : ENV s0 b0 sk sv) (S : SG_Cm_fun) (hSg : HS_Cm_fun l s0 b0 D cB cI cJ cZ cS cP d S) (hf : fm_Cm_row N S u v0 v1 = some x) : Met l y_Cm_row (wd_ws y_Cm_row b_Cm_row 3 none) (rg_Cm_fun (d + 1)) (xPc s0 b0 D cB cI cJ cZ cS cP ad u sz [.ref (ad v0), .int v1]) (xQ0 D cB cI cJ cZ cS cP (xA cB cI cJ cZ cS cP ad u sz) ad x.1 none) 0 0 (xA cB cI cJ cZ cS cP ad u sz) :=
  xMet (by decide) rfl (Nat.le_of_ble_eq_true rfl) (fun p e s m below meth c ls hsz hnm C0 hP hD hS hl =>
    wb_Cm_row_0 C0 hE N S hSg (gg_Cm_row N S N) (wg_Cm_row C0 hE N S hSg N) u _ _ x hf s.heap [] hP hD hS ls (lv_sub hl [0, 1] rfl))
theorem rm_Cm_expression_Co_put {d : Nat} : (rm_Co_put).frames + 1 ≤ (rg_Cm_fun (d + 1)).frames ∧ 8 + (2 + 11) + (rm_Co_put).locals ≤ (rg_Cm_fun (d + 1)).locals := by
  show 0 + 1 ≤ 304 + (d + 1) ∧ 8 + (2 + 11) + 0 ≤ 6688 + 28 * (d + 1)
  omega
theorem rm_Cm_expression_Cm_term {d : Nat} : (rm_Cm_term).frames + 1 ≤ (rg_Cm_fun (d + 1)).frames ∧ 8 + (3 + 11) + (rm_Cm_term).locals ≤ (rg_Cm_fun (d + 1)).locals := by
  show 1 + 1 ≤ 304 + (d + 1) ∧ 8 + (3 + 11) + 21 ≤ 6688 + 28 * (d + 1)
  omega
theorem rm_Cm_expression_Cm_notInGuard {d : Nat} : (rm_Cm_notInGuard).frames + 1 ≤ (rg_Cm_fun (d + 1)).frames ∧ 8 + (2 + 11) + (rm_Cm_notInGuard).locals ≤ (rg_Cm_fun (d + 1)).locals := by
  show 2 + 1 ≤ 304 + (d + 1) ∧ 8 + (2 + 11) + 45 ≤ 6688 + 28 * (d + 1)
  omega
theorem rm_Cm_expression_Cm_string {d : Nat} : (rm_Cm_string).frames + 1 ≤ (rg_Cm_fun (d + 1)).frames ∧ 8 + (5 + 11) + (rm_Cm_string).locals ≤ (rg_Cm_fun (d + 1)).locals := by
  show 1 + 1 ≤ 304 + (d + 1) ∧ 8 + (5 + 11) + 21 ≤ 6688 + 28 * (d + 1)
  omega
theorem rm_Cm_expression_Cm_isBound {d : Nat} : (rm_Cm_isBound).frames + 1 ≤ (rg_Cm_fun (d + 1)).frames ∧ 8 + (6 + 11) + (rm_Cm_isBound).locals ≤ (rg_Cm_fun (d + 1)).locals := by
  show 0 + 1 ≤ 304 + (d + 1) ∧ 8 + (6 + 11) + 0 ≤ 6688 + 28 * (d + 1)
  omega
theorem rm_Cm_expression_Cm_fault {d : Nat} : (rm_Cm_fault).frames + 1 ≤ (rg_Cm_fun (d + 1)).frames ∧ 8 + (3 + 11) + (rm_Cm_fault).locals ≤ (rg_Cm_fun (d + 1)).locals := by
  show 1 + 1 ≤ 304 + (d + 1) ∧ 8 + (3 + 11) + 23 ≤ 6688 + 28 * (d + 1)
  omega
theorem rm_Cm_expression_Cm_expression {d : Nat} : (rg_Cm_fun d).frames + 1 ≤ (rg_Cm_fun (d + 1)).frames ∧ 8 + (4 + 11) + (rg_Cm_fun d).locals ≤ (rg_Cm_fun (d + 1)).locals := by
  show 304 + d + 1 ≤ 304 + (d + 1) ∧ 8 + (4 + 11) + (6688 + 28 * d) ≤ 6688 + 28 * (d + 1)
  omega
theorem rm_Cm_expression_Cm_row {d : Nat} : (rg_Cm_fun d).frames + 1 ≤ (rg_Cm_fun (d + 1)).frames ∧ 8 + (3 + 11) + (rg_Cm_fun d).locals ≤ (rg_Cm_fun (d + 1)).locals := by
  show 304 + d + 1 ≤ 304 + (d + 1) ∧ 8 + (3 + 11) + (6688 + 28 * d) ≤ 6688 + 28 * (d + 1)
  omega
theorem rm_Cm_expression_Cm_list {d : Nat} : (rg_Cm_fun d).frames + 1 ≤ (rg_Cm_fun (d + 1)).frames ∧ 8 + (2 + 11) + (rg_Cm_fun d).locals ≤ (rg_Cm_fun (d + 1)).locals := by
  show 304 + d + 1 ≤ 304 + (d + 1) ∧ 8 + (2 + 11) + (6688 + 28 * d) ≤ 6688 + 28 * (d + 1)
  omega
theorem rm_Cm_expression_Cm_signs {d : Nat} : (rg_Cm_fun d).frames + 1 ≤ (rg_Cm_fun (d + 1)).frames ∧ 8 + (9 + 11) + (rg_Cm_fun d).locals ≤ (rg_Cm_fun (d + 1)).locals := by
  show 304 + d + 1 ≤ 304 + (d + 1) ∧ 8 + (9 + 11) + (6688 + 28 * d) ≤ 6688 + 28 * (d + 1)
  omega
theorem rm_Cm_expression_Cm_call {d : Nat} : (rg_Cm_fun d).frames + 1 ≤ (rg_Cm_fun (d + 1)).frames ∧ 8 + (8 + 11) + (rg_Cm_fun d).locals ≤ (rg_Cm_fun (d + 1)).locals := by
  show 304 + d + 1 ≤ 304 + (d + 1) ∧ 8 + (8 + 11) + (6688 + 28 * d) ≤ 6688 + 28 * (d + 1)
  omega
theorem rm_Cm_expression_Cm_apply {d : Nat} : (rg_Cm_fun d).frames + 1 ≤ (rg_Cm_fun (d + 1)).frames ∧ 8 + (5 + 11) + (rg_Cm_fun d).locals ≤ (rg_Cm_fun (d + 1)).locals := by
  show 304 + d + 1 ≤ 304 + (d + 1) ∧ 8 + (5 + 11) + (6688 + 28 * d) ≤ 6688 + 28 * (d + 1)
  omega
theorem rm_Cm_expression_Cm_compound {d : Nat} : (rg_Cm_fun d).frames + 1 ≤ (rg_Cm_fun (d + 1)).frames ∧ 8 + (7 + 11) + (rg_Cm_fun d).locals ≤ (rg_Cm_fun (d + 1)).locals := by
  show 304 + d + 1 ≤ 304 + (d + 1) ∧ 8 + (7 + 11) + (6688 + 28 * d) ≤ 6688 + 28 * (d + 1)
  omega
def fb_Cm_expression_359 (N : Nat) (S : SG_Cm_fun) (G : Unit) (u : CS) : Option (CS × Unit) := some (u, ())
set_option maxRecDepth 100000 in
set_option maxHeartbeats 4000000 in
theorem wb_Cm_expression_359 {p : Program} {l : Launch} {e : Env} {s : State} {m : MethodId} {args : Array Value} {below : List Frame} {meth : Method} {c : Code} {s0 : State} {b0 : Nat} {D : va_G} {cB cI cJ cZ cS cP : ClassId} {A : Nat → Prop} {sk sv : Nat → Nat} {d : Nat} {ad : Nat → Nat} (C0 : XCx p s s0 b0 m args meth c R_Cm b_Cm_expression 4 none D cB cI cJ cZ cS cP A) (hE : ENV s0 b0 sk sv) (N : Nat) (S : SG_Cm_fun) (hSg : HS_Cm_fun l s0 b0 D cB cI cJ cZ cS cP d S) (G : Unit) (hG : True) : ∀ (u : CS) (x : CS × Unit), fb_Cm_expression_359 N S G u = some x → ∀ (H : Heap) (locs : List Loc), va_P D cls (wC cB cI cJ cZ cS cP ad u) H → va_D A (wC cB cI cJ cZ cS cP ad u) → va_S A s.heap H locs → ∀ (ls : Array Slot), lv_has ls 4 [] → W p l e (rg_Cm_fun (d + 1)) s m args below meth c H locs 0 0 (MQ below (xQ0 D cB cI cJ cZ cS cP A ad x.1 none) args s 0 0 A) (F0 m 359 ls []) := by
  intro u x hf H locs hP hD hS ls hl
  obtain ⟨hx, hb, hr, hml, ht, hown, hK, hA, hlocks, hA0, hO, hbs⟩ := id C0
  unfold fb_Cm_expression_359 at hf
  exact xr0_v C0 hP hD hS hf d_Cm_expression_359
def fb_Cm_expression_227 (N : Nat) (S : SG_Cm_fun) (G : Unit) (u : CS) (v0 : Nat) (v1 : Int32) : Option (CS × Unit) := bo (gR u v0 3 2) (fun r1 => bo r1 (fun j3 => ck (isO u j3 2) (bx (fm_Co_put N u j3 3) (fun u2 r2 => bo (gR u2 v0 3 2) (fun r4 => bo (gR u2 v0 3 1) (fun r5 => bo r5 (fun j6 => bo (gR u2 j6 10 2) (fun r7 => bo r7 (fun j8 => bo (aI u2 j8 4 v1) (fun r9 => bo r4 (fun j11 => ck (isO u2 j11 2) (bx (fm_Co_put N u2 j11 r9) (fun u10 r10 => fb_Cm_expression_359 N S G u10)))))))))))))
set_option maxRecDepth 100000 in
set_option maxHeartbeats 4000000 in
theorem wb_Cm_expression_227 {p : Program} {l : Launch} {e : Env} {s : State} {m : MethodId} {args : Array Value} {below : List Frame} {meth : Method} {c : Code} {s0 : State} {b0 : Nat} {D : va_G} {cB cI cJ cZ cS cP : ClassId} {A : Nat → Prop} {sk sv : Nat → Nat} {d : Nat} {ad : Nat → Nat} (C0 : XCx p s s0 b0 m args meth c R_Cm b_Cm_expression 4 none D cB cI cJ cZ cS cP A) (hE : ENV s0 b0 sk sv) (N : Nat) (S : SG_Cm_fun) (hSg : HS_Cm_fun l s0 b0 D cB cI cJ cZ cS cP d S) (G : Unit) (hG : True) : ∀ (u : CS) (v0 : Nat) (v1 : Int32) (x : CS × Unit), fb_Cm_expression_227 N S G u v0 v1 = some x → ∀ (H : Heap) (locs : List Loc), va_P D cls (wC cB cI cJ cZ cS cP ad u) H → va_D A (wC cB cI cJ cZ cS cP ad u) → va_S A s.heap H locs → ∀ (ls : Array Slot), lv_has ls 4 [(0, .ref (ad v0)), (1, .int v1)] → W p l e (rg_Cm_fun (d + 1)) s m args below meth c H locs 0 0 (MQ below (xQ0 D cB cI cJ cZ cS cP A ad x.1 none) args s 0 0 A) (F0 m 227 ls []) := by
  intro u v0 v1 x hf H locs hP hD hS ls hl
  obtain ⟨hx, hb, hr, hml, ht, hown, hK, hA, hlocks, hA0, hO, hbs⟩ := id C0
  unfold fb_Cm_expression_227 at hf
  refine lv_aload_n hx hb d_Cm_expression_227 rfl (lv_at hl 0 rfl) ?_
  obtain ⟨r1, g1, hf⟩ := bo_some hf
  refine xg_R (i := v0) (k := 2) hx hb ht hown ck_Cm hK hP (by decide) fk_Cm_43 g1 d_Cm_expression_228 ?_
  refine lv_iconst (v := 3) hx hb d_Cm_expression_231 (by decide) ?_
  obtain ⟨j3, ej3, hf⟩ := bo_some hf
  rw [ej3]
  obtain ⟨hO9, hf⟩ := ck_some hf
  obtain ⟨u2, r2, hc2, hf⟩ := bx_some hf
  refine xV0 (i := j3) (As := [.int 3]) (rest := []) C0 hP hD hS ck_Co hO9 (c_Co_put N hc2) k_Co_put (wd_of 1149 (by decide +kernel) rfl) hi_Co_put hs_Co_put hini_Co rfl rfl hd_Co_put rfl rm_Cm_expression_Co_put hl.1 (Nat.le_of_ble_eq_true rfl) d_Cm_expression_232 rfl ⟨Nat.zero_le _, Nat.zero_le _⟩ (fun H locs hP hD hS => ?_)
  refine lv_aload_n hx hb d_Cm_expression_235 rfl (lv_at hl 0 rfl) ?_
  obtain ⟨r4, g4, hf⟩ := bo_some hf
  refine xg_R (i := v0) (k := 2) hx hb ht hown ck_Cm hK hP (by decide) fk_Cm_43 g4 d_Cm_expression_236 ?_
  refine lv_aload_n hx hb d_Cm_expression_239 rfl (lv_at hl 0 rfl) ?_
  obtain ⟨r5, g5, hf⟩ := bo_some hf
  refine xg_R (i := v0) (k := 1) hx hb ht hown ck_Cm hK hP (by decide) fk_Cm_39 g5 d_Cm_expression_240 ?_
  obtain ⟨j6, ej6, hf⟩ := bo_some hf
  rw [ej6]
  obtain ⟨r7, g7, hf⟩ := bo_some hf
  refine xg_R (i := j6) (k := 2) hx hb ht hown ck_Tr hK hP (by decide) fk_Cm_125 g7 d_Cm_expression_243 ?_
  refine lv_iload_n hx hb d_Cm_expression_246 rfl (lv_at hl 1 rfl) ?_
  obtain ⟨j8, ej8, hf⟩ := bo_some hf
  rw [ej8]
  obtain ⟨r9, g9, hf⟩ := bo_some hf
  refine xl_I (i := j8) hx hb hK hP g9 d_Cm_expression_247 ?_
  obtain ⟨j11, ej11, hf⟩ := bo_some hf
  rw [ej11]
  obtain ⟨hO9, hf⟩ := ck_some hf
  obtain ⟨u10, r10, hc10, hf⟩ := bx_some hf
  refine xV0 (i := j11) (As := [.int r9]) (rest := []) C0 hP hD hS ck_Co hO9 (c_Co_put N hc10) k_Co_put (wd_of 1149 (by decide +kernel) rfl) hi_Co_put hs_Co_put hini_Co rfl rfl hd_Co_put rfl rm_Cm_expression_Co_put hl.1 (Nat.le_of_ble_eq_true rfl) d_Cm_expression_248 rfl ⟨Nat.zero_le _, Nat.zero_le _⟩ (fun H locs hP hD hS => ?_)
  refine lv_goto (tgt := 359) hx hb d_Cm_expression_251 (by decide) ?_
  exact wb_Cm_expression_359 C0 hE N S hSg G hG _ _ hf H locs hP hD hS ls (lv_sub hl [] rfl)
def fb_Cm_expression_221 (N : Nat) (S : SG_Cm_fun) (G : Unit) (u : CS) (v0 : Nat) (v1 : Int32) (v3 : Int32) : Option (CS × Unit) := ck (isO u v0 3) (bx (fm_Cm_fault N u v0 v3 5) (fun u12 r12 => fb_Cm_expression_227 N S G u12 (v0) (v1)))
set_option maxRecDepth 100000 in
set_option maxHeartbeats 4000000 in
theorem wb_Cm_expression_221 {p : Program} {l : Launch} {e : Env} {s : State} {m : MethodId} {args : Array Value} {below : List Frame} {meth : Method} {c : Code} {s0 : State} {b0 : Nat} {D : va_G} {cB cI cJ cZ cS cP : ClassId} {A : Nat → Prop} {sk sv : Nat → Nat} {d : Nat} {ad : Nat → Nat} (C0 : XCx p s s0 b0 m args meth c R_Cm b_Cm_expression 4 none D cB cI cJ cZ cS cP A) (hE : ENV s0 b0 sk sv) (N : Nat) (S : SG_Cm_fun) (hSg : HS_Cm_fun l s0 b0 D cB cI cJ cZ cS cP d S) (G : Unit) (hG : True) : ∀ (u : CS) (v0 : Nat) (v1 : Int32) (v3 : Int32) (x : CS × Unit), fb_Cm_expression_221 N S G u v0 v1 v3 = some x → ∀ (H : Heap) (locs : List Loc), va_P D cls (wC cB cI cJ cZ cS cP ad u) H → va_D A (wC cB cI cJ cZ cS cP ad u) → va_S A s.heap H locs → ∀ (ls : Array Slot), lv_has ls 4 [(0, .ref (ad v0)), (1, .int v1), (3, .int v3)] → W p l e (rg_Cm_fun (d + 1)) s m args below meth c H locs 0 0 (MQ below (xQ0 D cB cI cJ cZ cS cP A ad x.1 none) args s 0 0 A) (F0 m 221 ls []) := by
  intro u v0 v1 v3 x hf H locs hP hD hS ls hl
  obtain ⟨hx, hb, hr, hml, ht, hown, hK, hA, hlocks, hA0, hO, hbs⟩ := id C0
  unfold fb_Cm_expression_221 at hf
  refine lv_aload_n hx hb d_Cm_expression_221 rfl (lv_at hl 0 rfl) ?_
  refine lv_iload_n hx hb d_Cm_expression_222 rfl (lv_at hl 2 rfl) ?_
  refine lv_iconst (v := 5) hx hb d_Cm_expression_223 (by decide) ?_
  obtain ⟨hO9, hf⟩ := ck_some hf
  obtain ⟨u12, r12, hc12, hf⟩ := bx_some hf
  refine xV0 (i := v0) (As := [.int v3, .int 5]) (rest := []) C0 hP hD hS ck_Cm hO9 (c_Cm_fault N hE hc12) k_Cm_fault (wd_of 1133 (by decide +kernel) rfl) hi_Cm_fault hs_Cm_fault hini_Cm rfl rfl hd_Cm_fault rfl rm_Cm_expression_Cm_fault hl.1 (Nat.le_of_ble_eq_true rfl) d_Cm_expression_224 rfl ⟨Nat.zero_le _, Nat.zero_le _⟩ (fun H locs hP hD hS => ?_)
  exact wb_Cm_expression_227 C0 hE N S hSg G hG _ _ _ _ hf H locs hP hD hS ls (lv_sub hl [0, 1] rfl)
def fb_Cm_expression_0 (N : Nat) (S : SG_Cm_fun) (G : Unit) (u : CS) (v0 : Nat) (v1 : Int32) (v2 : Int32) : Option (CS × Unit) := bo (gR u v0 3 1) (fun r13 => bo r13 (fun j14 => bo (gR u j14 10 1) (fun r15 => bo r15 (fun j16 => bo (aI u j16 4 v1) (fun r17 => bo (gR u v0 3 1) (fun r18 => bo r18 (fun j19 => bo (gR u j19 10 0) (fun r20 => bo r20 (fun j21 => bo (aI u j21 4 v1) (fun r22 => br (decide (r22 = 1)) (bo (gR u v0 3 2) (fun r23 => bo r23 (fun j25 => ck (isO u j25 2) (bx (fm_Co_put N u j25 1) (fun u24 r24 => bo (gR u24 v0 3 1) (fun r26 => bo r26 (fun j27 => bo (gR u24 j27 10 2) (fun r28 => bo r28 (fun j29 => bo (aI u24 j29 4 v1) (fun r30 => ck (isO u24 v0 3) (bx (fm_Cm_term N u24 v0 0 r30) (fun u31 r31 => fb_Cm_expression_359 N S G u31)))))))))))) (br (decide (r22 = 2)) (bo (gR u v0 3 2) (fun r32 => bo r32 (fun j34 => ck (isO u j34 2) (bx (fm_Co_put N u j34 1) (fun u33 r33 => bo (gR u33 v0 3 1) (fun r35 => bo r35 (fun j36 => bo (gR u33 j36 10 2) (fun r37 => bo r37 (fun j38 => bo (aI u33 j38 4 v1) (fun r39 => ck (isO u33 v0 3) (bx (fm_Cm_term N u33 v0 1 r39) (fun u40 r40 => fb_Cm_expression_359 N S G u40)))))))))))) (br (decide (r22 = 3)) (bo (gR u v0 3 1) (fun r41 => bo r41 (fun j42 => bo (gR u j42 10 2) (fun r43 => bo r43 (fun j44 => bo (aI u j44 4 v1) (fun r45 => br (decide (r45 = 0)) (fb_Cm_expression_221 N S G u (v0) (v1) (r17)) (bo (gR u v0 3 1) (fun r46 => bo r46 (fun j47 => bo (gR u j47 10 2) (fun r48 => bo r48 (fun j49 => bo (aI u j49 4 v1) (fun r50 => ck (isO u v0 3) (bx (fm_Cm_isBound N u v0 r50 r17 0) (fun u51 r51 => br (decide (r51 = 0)) (fb_Cm_expression_221 N S G u51 (v0) (v1) (r17)) (fb_Cm_expression_227 N S G u51 (v0) (v1)))))))))))))))) (br (decide (r22 = 4)) (ck (isO u v0 3) (bx (fm_Cm_notInGuard N u v0 r17) (fun u52 r52 => bo (gR u52 v0 3 2) (fun r53 => bo r53 (fun j55 => ck (isO u52 j55 2) (bx (fm_Co_put N u52 j55 2) (fun u54 r54 => ck (isO u54 v0 3) (bx (fm_Cm_string N u54 v0 v1) (fun u56 r56 => fb_Cm_expression_359 N S G u56))))))))) (br (decide (r22 = 5)) (bo (gR u v0 3 1) (fun r57 => bo r57 (fun j58 => bo (gR u j58 10 2) (fun r59 => bo r59 (fun j60 => bo (aI u j60 4 v1) (fun r61 => ck (isO u v0 3) (bx (S.2.2.2.2.2.2.2.2.2.2.1 u v0 r61 v2) (fun u62 r62 => fb_Cm_expression_359 N S G u62)))))))) (br (decide (r22 = 6)) (bo (gR u v0 3 1) (fun r63 => bo r63 (fun j64 => bo (gR u j64 10 2) (fun r65 => bo r65 (fun j66 => bo (aI u j66 4 v1) (fun r67 => ck (isO u v0 3) (bx (S.2.2.2.2.2.2.2.2.2.1 u v0 r67) (fun u68 r68 => bo (gR u68 v0 3 2) (fun r69 => bo r69 (fun j71 => ck (isO u68 j71 2) (bx (fm_Co_put N u68 j71 4) (fun u70 r70 => bo (gR u70 v0 3 2) (fun r72 => bo (gR u70 v0 3 1) (fun r73 => bo r73 (fun j74 => bo (gR u70 j74 10 3) (fun r75 => bo r75 (fun j76 => bo (aI u70 j76 4 v1) (fun r77 => bo r72 (fun j79 => ck (isO u70 j79 2) (bx (fm_Co_put N u70 j79 r77) (fun u78 r78 => fb_Cm_expression_359 N S G u78))))))))))))))))))))) (br (decide (r22 = 7)) (ck (isO u v0 3) (bx (S.2.2.2.2.2.2.2.2.1 u v0 v1) (fun u80 r80 => fb_Cm_expression_359 N S G u80))) (br (decide (r22 = 8)) (ck (isO u v0 3) (bx (S.2.2.2.2.1 u v0 v1 v2) (fun u81 r81 => fb_Cm_expression_359 N S G u81))) (br (decide (r22 = 9)) (ck (isO u v0 3) (bx (S.2.2.2.2.1 u v0 v1 v2) (fun u82 r82 => fb_Cm_expression_359 N S G u82))) (br (decide (r22 = 10)) (ck (isO u v0 3) (bx (S.2.2.2.2.1 u v0 v1 v2) (fun u83 r83 => fb_Cm_expression_359 N S G u83))) (br (decide (r22 = 11)) (ck (isO u v0 3) (bx (S.2.2.2.2.1 u v0 v1 v2) (fun u84 r84 => fb_Cm_expression_359 N S G u84))) (br (decide (r22 = 12)) (ck (isO u v0 3) (bx (S.2.2.2.2.1 u v0 v1 v2) (fun u85 r85 => fb_Cm_expression_359 N S G u85))) (br (decide (r22 = 13)) (ck (isO u v0 3) (bx (S.2.2.2.2.1 u v0 v1 v2) (fun u86 r86 => fb_Cm_expression_359 N S G u86))) (br (decide (r22 = 14)) (ck (isO u v0 3) (bx (S.2.2.2.2.2.2.1 u v0 v1 v2) (fun u87 r87 => fb_Cm_expression_359 N S G u87))) (br (decide (r22 = 15)) (ck (isO u v0 3) (bx (S.2.2.2.2.2.1 u v0 v1 v2) (fun u88 r88 => fb_Cm_expression_359 N S G u88))) (br (decide (r22 = 16)) (ck (isO u v0 3) (bx (S.2.2.2.2.1 u v0 v1 v2) (fun u89 r89 => fb_Cm_expression_359 N S G u89))) (br (decide (r22 = 17)) (ck (isO u v0 3) (bx (S.2.2.2.2.1 u v0 v1 v2) (fun u90 r90 => fb_Cm_expression_359 N S G u90))) (br (decide (r22 = 18)) (ck (isO u v0 3) (bx (S.2.2.2.2.1 u v0 v1 v2) (fun u91 r91 => fb_Cm_expression_359 N S G u91))) (br (decide (r22 = 19)) (ck (isO u v0 3) (bx (S.2.2.2.2.1 u v0 v1 v2) (fun u92 r92 => fb_Cm_expression_359 N S G u92))) (br (decide (r22 = 20)) (ck (isO u v0 3) (bx (S.2.2.2.2.1 u v0 v1 v2) (fun u93 r93 => fb_Cm_expression_359 N S G u93))) (br (decide (r22 = 21)) (ck (isO u v0 3) (bx (S.2.2.2.2.1 u v0 v1 v2) (fun u94 r94 => fb_Cm_expression_359 N S G u94))) (br (decide (r22 = 22)) (bo (gR u v0 3 1) (fun r95 => bo r95 (fun j96 => bo (gR u j96 10 2) (fun r97 => bo r97 (fun j98 => bo (aI u j98 4 v1) (fun r99 => ck (isO u v0 3) (bx (S.2.2.2.2.2.2.2.1 u v0 r99) (fun u100 r100 => fb_Cm_expression_359 N S G u100)))))))) (ck (isO u v0 3) (bx (S.2.2.2.2.1 u v0 v1 v2) (fun u101 r101 => fb_Cm_expression_359 N S G u101))))))))))))))))))))))))))))))))))
set_option maxRecDepth 100000 in
set_option maxHeartbeats 4000000 in
theorem wb_Cm_expression_0 {p : Program} {l : Launch} {e : Env} {s : State} {m : MethodId} {args : Array Value} {below : List Frame} {meth : Method} {c : Code} {s0 : State} {b0 : Nat} {D : va_G} {cB cI cJ cZ cS cP : ClassId} {A : Nat → Prop} {sk sv : Nat → Nat} {d : Nat} {ad : Nat → Nat} (C0 : XCx p s s0 b0 m args meth c R_Cm b_Cm_expression 4 none D cB cI cJ cZ cS cP A) (hE : ENV s0 b0 sk sv) (N : Nat) (S : SG_Cm_fun) (hSg : HS_Cm_fun l s0 b0 D cB cI cJ cZ cS cP d S) (G : Unit) (hG : True) : ∀ (u : CS) (v0 : Nat) (v1 : Int32) (v2 : Int32) (x : CS × Unit), fb_Cm_expression_0 N S G u v0 v1 v2 = some x → ∀ (H : Heap) (locs : List Loc), va_P D cls (wC cB cI cJ cZ cS cP ad u) H → va_D A (wC cB cI cJ cZ cS cP ad u) → va_S A s.heap H locs → ∀ (ls : Array Slot), lv_has ls 4 [(0, .ref (ad v0)), (1, .int v1), (2, .int v2)] → W p l e (rg_Cm_fun (d + 1)) s m args below meth c H locs 0 0 (MQ below (xQ0 D cB cI cJ cZ cS cP A ad x.1 none) args s 0 0 A) (F0 m 0 ls []) := by
  intro u v0 v1 v2 x hf H locs hP hD hS ls hl
  obtain ⟨hx, hb, hr, hml, ht, hown, hK, hA, hlocks, hA0, hO, hbs⟩ := id C0
  unfold fb_Cm_expression_0 at hf
  refine lv_aload_n hx hb d_Cm_expression_0 rfl (lv_at hl 0 rfl) ?_
  obtain ⟨r13, g13, hf⟩ := bo_some hf
  refine xg_R (i := v0) (k := 1) hx hb ht hown ck_Cm hK hP (by decide) fk_Cm_39 g13 d_Cm_expression_1 ?_
  obtain ⟨j14, ej14, hf⟩ := bo_some hf
  rw [ej14]
  obtain ⟨r15, g15, hf⟩ := bo_some hf
  refine xg_R (i := j14) (k := 1) hx hb ht hown ck_Tr hK hP (by decide) fk_Cm_93 g15 d_Cm_expression_4 ?_
  refine lv_iload_n hx hb d_Cm_expression_7 rfl (lv_at hl 1 rfl) ?_
  obtain ⟨j16, ej16, hf⟩ := bo_some hf
  rw [ej16]
  obtain ⟨r17, g17, hf⟩ := bo_some hf
  refine xl_I (i := j16) hx hb hK hP g17 d_Cm_expression_8 ?_
  refine lv_istore_n (lv' := [(3, .int r17), (0, .ref (ad v0)), (1, .int v1), (2, .int v2)]) hx hb d_Cm_expression_9 rfl hl (by decide) (by first | rfl | simp [List.filter, cat_rf]) (fun ls hl => ?_)
  refine lv_aload_n hx hb d_Cm_expression_10 rfl (lv_at hl 1 rfl) ?_
  obtain ⟨r18, g18, hf⟩ := bo_some hf
  refine xg_R (i := v0) (k := 1) hx hb ht hown ck_Cm hK hP (by decide) fk_Cm_39 g18 d_Cm_expression_11 ?_
  obtain ⟨j19, ej19, hf⟩ := bo_some hf
  rw [ej19]
  obtain ⟨r20, g20, hf⟩ := bo_some hf
  refine xg_R (i := j19) (k := 0) hx hb ht hown ck_Tr hK hP (by decide) fk_Cm_177 g20 d_Cm_expression_14 ?_
  refine lv_iload_n hx hb d_Cm_expression_17 rfl (lv_at hl 2 rfl) ?_
  obtain ⟨j21, ej21, hf⟩ := bo_some hf
  rw [ej21]
  obtain ⟨r22, g22, hf⟩ := bo_some hf
  refine xl_I (i := j21) hx hb hK hP g22 d_Cm_expression_18 ?_
  by_cases hc1 : r22 = 1
  · rw [br_p _ hc1] at hf
    refine lv_tableIn (tgt := 120) hx hb d_Cm_expression_19 (by rw [hc1]; decide) (by rw [hc1]; decide) (by rw [hc1]; rfl) (by decide) ?_
    refine lv_aload_n hx hb d_Cm_expression_120 rfl (lv_at hl 1 rfl) ?_
    obtain ⟨r23, g23, hf⟩ := bo_some hf
    refine xg_R (i := v0) (k := 2) hx hb ht hown ck_Cm hK hP (by decide) fk_Cm_43 g23 d_Cm_expression_121 ?_
    refine lv_iconst (v := 1) hx hb d_Cm_expression_124 (by decide) ?_
    obtain ⟨j25, ej25, hf⟩ := bo_some hf
    rw [ej25]
    obtain ⟨hO9, hf⟩ := ck_some hf
    obtain ⟨u24, r24, hc24, hf⟩ := bx_some hf
    refine xV0 (i := j25) (As := [.int 1]) (rest := []) C0 hP hD hS ck_Co hO9 (c_Co_put N hc24) k_Co_put (wd_of 1149 (by decide +kernel) rfl) hi_Co_put hs_Co_put hini_Co rfl rfl hd_Co_put rfl rm_Cm_expression_Co_put hl.1 (Nat.le_of_ble_eq_true rfl) d_Cm_expression_125 rfl ⟨Nat.zero_le _, Nat.zero_le _⟩ (fun H locs hP hD hS => ?_)
    refine lv_aload_n hx hb d_Cm_expression_128 rfl (lv_at hl 1 rfl) ?_
    refine lv_iconst (v := 0) hx hb d_Cm_expression_129 (by decide) ?_
    refine lv_aload_n hx hb d_Cm_expression_130 rfl (lv_at hl 1 rfl) ?_
    obtain ⟨r26, g26, hf⟩ := bo_some hf
    refine xg_R (i := v0) (k := 1) hx hb ht hown ck_Cm hK hP (by decide) fk_Cm_39 g26 d_Cm_expression_131 ?_
    obtain ⟨j27, ej27, hf⟩ := bo_some hf
    rw [ej27]
    obtain ⟨r28, g28, hf⟩ := bo_some hf
    refine xg_R (i := j27) (k := 2) hx hb ht hown ck_Tr hK hP (by decide) fk_Cm_125 g28 d_Cm_expression_134 ?_
    refine lv_iload_n hx hb d_Cm_expression_137 rfl (lv_at hl 2 rfl) ?_
    obtain ⟨j29, ej29, hf⟩ := bo_some hf
    rw [ej29]
    obtain ⟨r30, g30, hf⟩ := bo_some hf
    refine xl_I (i := j29) hx hb hK hP g30 d_Cm_expression_138 ?_
    obtain ⟨hO9, hf⟩ := ck_some hf
    obtain ⟨u31, r31, hc31, hf⟩ := bx_some hf
    refine xV0 (i := v0) (As := [.int 0, .int r30]) (rest := []) C0 hP hD hS ck_Cm hO9 (c_Cm_term N hc31) k_Cm_term (wd_of 1162 (by decide +kernel) rfl) hi_Cm_term hs_Cm_term hini_Cm rfl rfl hd_Cm_term rfl rm_Cm_expression_Cm_term hl.1 (Nat.le_of_ble_eq_true rfl) d_Cm_expression_139 rfl ⟨Nat.zero_le _, Nat.zero_le _⟩ (fun H locs hP hD hS => ?_)
    refine lv_goto (tgt := 359) hx hb d_Cm_expression_142 (by decide) ?_
    exact wb_Cm_expression_359 C0 hE N S hSg G hG _ _ hf H locs hP hD hS ls (lv_sub hl [] rfl)
  · rw [br_n _ hc1] at hf
    by_cases hc2 : r22 = 2
    · rw [br_p _ hc2] at hf
      refine lv_tableIn (tgt := 145) hx hb d_Cm_expression_19 (by rw [hc2]; decide) (by rw [hc2]; decide) (by rw [hc2]; rfl) (by decide) ?_
      refine lv_aload_n hx hb d_Cm_expression_145 rfl (lv_at hl 1 rfl) ?_
      obtain ⟨r32, g32, hf⟩ := bo_some hf
      refine xg_R (i := v0) (k := 2) hx hb ht hown ck_Cm hK hP (by decide) fk_Cm_43 g32 d_Cm_expression_146 ?_
      refine lv_iconst (v := 1) hx hb d_Cm_expression_149 (by decide) ?_
      obtain ⟨j34, ej34, hf⟩ := bo_some hf
      rw [ej34]
      obtain ⟨hO9, hf⟩ := ck_some hf
      obtain ⟨u33, r33, hc33, hf⟩ := bx_some hf
      refine xV0 (i := j34) (As := [.int 1]) (rest := []) C0 hP hD hS ck_Co hO9 (c_Co_put N hc33) k_Co_put (wd_of 1149 (by decide +kernel) rfl) hi_Co_put hs_Co_put hini_Co rfl rfl hd_Co_put rfl rm_Cm_expression_Co_put hl.1 (Nat.le_of_ble_eq_true rfl) d_Cm_expression_150 rfl ⟨Nat.zero_le _, Nat.zero_le _⟩ (fun H locs hP hD hS => ?_)
      refine lv_aload_n hx hb d_Cm_expression_153 rfl (lv_at hl 1 rfl) ?_
      refine lv_iconst (v := 1) hx hb d_Cm_expression_154 (by decide) ?_
      refine lv_aload_n hx hb d_Cm_expression_155 rfl (lv_at hl 1 rfl) ?_
      obtain ⟨r35, g35, hf⟩ := bo_some hf
      refine xg_R (i := v0) (k := 1) hx hb ht hown ck_Cm hK hP (by decide) fk_Cm_39 g35 d_Cm_expression_156 ?_
      obtain ⟨j36, ej36, hf⟩ := bo_some hf
      rw [ej36]
      obtain ⟨r37, g37, hf⟩ := bo_some hf
      refine xg_R (i := j36) (k := 2) hx hb ht hown ck_Tr hK hP (by decide) fk_Cm_125 g37 d_Cm_expression_159 ?_
      refine lv_iload_n hx hb d_Cm_expression_162 rfl (lv_at hl 2 rfl) ?_
      obtain ⟨j38, ej38, hf⟩ := bo_some hf
      rw [ej38]
      obtain ⟨r39, g39, hf⟩ := bo_some hf
      refine xl_I (i := j38) hx hb hK hP g39 d_Cm_expression_163 ?_
      obtain ⟨hO9, hf⟩ := ck_some hf
      obtain ⟨u40, r40, hc40, hf⟩ := bx_some hf
      refine xV0 (i := v0) (As := [.int 1, .int r39]) (rest := []) C0 hP hD hS ck_Cm hO9 (c_Cm_term N hc40) k_Cm_term (wd_of 1162 (by decide +kernel) rfl) hi_Cm_term hs_Cm_term hini_Cm rfl rfl hd_Cm_term rfl rm_Cm_expression_Cm_term hl.1 (Nat.le_of_ble_eq_true rfl) d_Cm_expression_164 rfl ⟨Nat.zero_le _, Nat.zero_le _⟩ (fun H locs hP hD hS => ?_)
      refine lv_goto (tgt := 359) hx hb d_Cm_expression_167 (by decide) ?_
      exact wb_Cm_expression_359 C0 hE N S hSg G hG _ _ hf H locs hP hD hS ls (lv_sub hl [] rfl)
    · rw [br_n _ hc2] at hf
      by_cases hc3 : r22 = 3
      · rw [br_p _ hc3] at hf
        refine lv_tableIn (tgt := 191) hx hb d_Cm_expression_19 (by rw [hc3]; decide) (by rw [hc3]; decide) (by rw [hc3]; rfl) (by decide) ?_
        refine lv_aload_n hx hb d_Cm_expression_191 rfl (lv_at hl 1 rfl) ?_
        obtain ⟨r41, g41, hf⟩ := bo_some hf
        refine xg_R (i := v0) (k := 1) hx hb ht hown ck_Cm hK hP (by decide) fk_Cm_39 g41 d_Cm_expression_192 ?_
        obtain ⟨j42, ej42, hf⟩ := bo_some hf
        rw [ej42]
        obtain ⟨r43, g43, hf⟩ := bo_some hf
        refine xg_R (i := j42) (k := 2) hx hb ht hown ck_Tr hK hP (by decide) fk_Cm_125 g43 d_Cm_expression_195 ?_
        refine lv_iload_n hx hb d_Cm_expression_198 rfl (lv_at hl 2 rfl) ?_
        obtain ⟨j44, ej44, hf⟩ := bo_some hf
        rw [ej44]
        obtain ⟨r45, g45, hf⟩ := bo_some hf
        refine xl_I (i := j44) hx hb hK hP g45 d_Cm_expression_199 ?_
        refine lv_if_eq (tgt := 221) hx hb d_Cm_expression_200 (by decide) (fun hc => ?_) (fun hc => ?_)
        · rw [br_p _ hc] at hf
          exact wb_Cm_expression_221 C0 hE N S hSg G hG _ _ _ _ _ hf H locs hP hD hS ls (lv_sub hl [1, 2, 0] rfl)
        · rw [br_n _ hc] at hf
          refine lv_aload_n hx hb d_Cm_expression_203 rfl (lv_at hl 1 rfl) ?_
          refine lv_aload_n hx hb d_Cm_expression_204 rfl (lv_at hl 1 rfl) ?_
          obtain ⟨r46, g46, hf⟩ := bo_some hf
          refine xg_R (i := v0) (k := 1) hx hb ht hown ck_Cm hK hP (by decide) fk_Cm_39 g46 d_Cm_expression_205 ?_
          obtain ⟨j47, ej47, hf⟩ := bo_some hf
          rw [ej47]
          obtain ⟨r48, g48, hf⟩ := bo_some hf
          refine xg_R (i := j47) (k := 2) hx hb ht hown ck_Tr hK hP (by decide) fk_Cm_125 g48 d_Cm_expression_208 ?_
          refine lv_iload_n hx hb d_Cm_expression_211 rfl (lv_at hl 2 rfl) ?_
          obtain ⟨j49, ej49, hf⟩ := bo_some hf
          rw [ej49]
          obtain ⟨r50, g50, hf⟩ := bo_some hf
          refine xl_I (i := j49) hx hb hK hP g50 d_Cm_expression_212 ?_
          refine lv_iload_n hx hb d_Cm_expression_213 rfl (lv_at hl 0 rfl) ?_
          refine lv_iconst (v := 0) hx hb d_Cm_expression_214 (by decide) ?_
          obtain ⟨hO9, hf⟩ := ck_some hf
          obtain ⟨u51, r51, hc51, hf⟩ := bx_some hf
          refine xV0 (i := v0) (As := [.int r50, .int r17, .int 0]) (rest := []) C0 hP hD hS ck_Cm hO9 (c_Cm_isBound N hc51) k_Cm_isBound (wd_of 1175 (by decide +kernel) rfl) hi_Cm_isBound hs_Cm_isBound hini_Cm rfl rfl hd_Cm_isBound rfl rm_Cm_expression_Cm_isBound hl.1 (Nat.le_of_ble_eq_true rfl) d_Cm_expression_215 rfl ⟨Nat.zero_le _, Nat.zero_le _⟩ (fun H locs hP hD hS => ?_)
          refine lv_if_ne (tgt := 227) hx hb d_Cm_expression_218 (by decide) (fun hc => ?_) (fun hc => ?_)
          · rw [br_n _ hc] at hf
            exact wb_Cm_expression_227 C0 hE N S hSg G hG _ _ _ _ hf H locs hP hD hS ls (lv_sub hl [1, 2] rfl)
          · rw [br_p _ hc] at hf
            exact wb_Cm_expression_221 C0 hE N S hSg G hG _ _ _ _ _ hf H locs hP hD hS ls (lv_sub hl [1, 2, 0] rfl)
      · rw [br_n _ hc3] at hf
        by_cases hc4 : r22 = 4
        · rw [br_p _ hc4] at hf
          refine lv_tableIn (tgt := 170) hx hb d_Cm_expression_19 (by rw [hc4]; decide) (by rw [hc4]; decide) (by rw [hc4]; rfl) (by decide) ?_
          refine lv_aload_n hx hb d_Cm_expression_170 rfl (lv_at hl 1 rfl) ?_
          refine lv_iload_n hx hb d_Cm_expression_171 rfl (lv_at hl 0 rfl) ?_
          obtain ⟨hO9, hf⟩ := ck_some hf
          obtain ⟨u52, r52, hc52, hf⟩ := bx_some hf
          refine xV0 (i := v0) (As := [.int r17]) (rest := []) C0 hP hD hS ck_Cm hO9 (c_Cm_notInGuard N hE hc52) k_Cm_notInGuard (wd_of 1194 (by decide +kernel) rfl) hi_Cm_notInGuard hs_Cm_notInGuard hini_Cm rfl rfl hd_Cm_notInGuard rfl rm_Cm_expression_Cm_notInGuard hl.1 (Nat.le_of_ble_eq_true rfl) d_Cm_expression_172 rfl ⟨Nat.zero_le _, Nat.zero_le _⟩ (fun H locs hP hD hS => ?_)
          refine lv_aload_n hx hb d_Cm_expression_175 rfl (lv_at hl 1 rfl) ?_
          obtain ⟨r53, g53, hf⟩ := bo_some hf
          refine xg_R (i := v0) (k := 2) hx hb ht hown ck_Cm hK hP (by decide) fk_Cm_43 g53 d_Cm_expression_176 ?_
          refine lv_iconst (v := 2) hx hb d_Cm_expression_179 (by decide) ?_
          obtain ⟨j55, ej55, hf⟩ := bo_some hf
          rw [ej55]
          obtain ⟨hO9, hf⟩ := ck_some hf
          obtain ⟨u54, r54, hc54, hf⟩ := bx_some hf
          refine xV0 (i := j55) (As := [.int 2]) (rest := []) C0 hP hD hS ck_Co hO9 (c_Co_put N hc54) k_Co_put (wd_of 1149 (by decide +kernel) rfl) hi_Co_put hs_Co_put hini_Co rfl rfl hd_Co_put rfl rm_Cm_expression_Co_put hl.1 (Nat.le_of_ble_eq_true rfl) d_Cm_expression_180 rfl ⟨Nat.zero_le _, Nat.zero_le _⟩ (fun H locs hP hD hS => ?_)
          refine lv_aload_n hx hb d_Cm_expression_183 rfl (lv_at hl 1 rfl) ?_
          refine lv_iload_n hx hb d_Cm_expression_184 rfl (lv_at hl 2 rfl) ?_
          obtain ⟨hO9, hf⟩ := ck_some hf
          obtain ⟨u56, r56, hc56, hf⟩ := bx_some hf
          refine xV0 (i := v0) (As := [.int v1]) (rest := []) C0 hP hD hS ck_Cm hO9 (c_Cm_string N hc56) k_Cm_string (wd_of 1166 (by decide +kernel) rfl) hi_Cm_string hs_Cm_string hini_Cm rfl rfl hd_Cm_string rfl rm_Cm_expression_Cm_string hl.1 (Nat.le_of_ble_eq_true rfl) d_Cm_expression_185 rfl ⟨Nat.zero_le _, Nat.zero_le _⟩ (fun H locs hP hD hS => ?_)
          refine lv_goto (tgt := 359) hx hb d_Cm_expression_188 (by decide) ?_
          exact wb_Cm_expression_359 C0 hE N S hSg G hG _ _ hf H locs hP hD hS ls (lv_sub hl [] rfl)
        · rw [br_n _ hc4] at hf
          by_cases hc5 : r22 = 5
          · rw [br_p _ hc5] at hf
            refine lv_tableIn (tgt := 254) hx hb d_Cm_expression_19 (by rw [hc5]; decide) (by rw [hc5]; decide) (by rw [hc5]; rfl) (by decide) ?_
            refine lv_aload_n hx hb d_Cm_expression_254 rfl (lv_at hl 1 rfl) ?_
            refine lv_aload_n hx hb d_Cm_expression_255 rfl (lv_at hl 1 rfl) ?_
            obtain ⟨r57, g57, hf⟩ := bo_some hf
            refine xg_R (i := v0) (k := 1) hx hb ht hown ck_Cm hK hP (by decide) fk_Cm_39 g57 d_Cm_expression_256 ?_
            obtain ⟨j58, ej58, hf⟩ := bo_some hf
            rw [ej58]
            obtain ⟨r59, g59, hf⟩ := bo_some hf
            refine xg_R (i := j58) (k := 2) hx hb ht hown ck_Tr hK hP (by decide) fk_Cm_125 g59 d_Cm_expression_259 ?_
            refine lv_iload_n hx hb d_Cm_expression_262 rfl (lv_at hl 2 rfl) ?_
            obtain ⟨j60, ej60, hf⟩ := bo_some hf
            rw [ej60]
            obtain ⟨r61, g61, hf⟩ := bo_some hf
            refine xl_I (i := j60) hx hb hK hP g61 d_Cm_expression_263 ?_
            refine lv_iload_n hx hb d_Cm_expression_264 rfl (lv_at hl 3 rfl) ?_
            obtain ⟨hO9, hf⟩ := ck_some hf
            obtain ⟨u62, r62, hc62, hf⟩ := bx_some hf
            refine xV0 (i := v0) (As := [.int r61, .int v2]) (rest := []) C0 hP hD hS ck_Cm hO9 (hSg.2.2.2.2.2.2.2.2.2.2.1 _ _ _ _ _ _ _ hc62) k_Cm_expression (wd_of 1190 (by decide +kernel) rfl) hi_Cm_expression hs_Cm_expression hini_Cm rfl rfl hd_Cm_expression rfl rm_Cm_expression_Cm_expression hl.1 (Nat.le_of_ble_eq_true rfl) d_Cm_expression_265 rfl ⟨Nat.zero_le _, Nat.zero_le _⟩ (fun H locs hP hD hS => ?_)
            refine lv_goto (tgt := 359) hx hb d_Cm_expression_268 (by decide) ?_
            exact wb_Cm_expression_359 C0 hE N S hSg G hG _ _ hf H locs hP hD hS ls (lv_sub hl [] rfl)
          · rw [br_n _ hc5] at hf
            by_cases hc6 : r22 = 6
            · rw [br_p _ hc6] at hf
              refine lv_tableIn (tgt := 271) hx hb d_Cm_expression_19 (by rw [hc6]; decide) (by rw [hc6]; decide) (by rw [hc6]; rfl) (by decide) ?_
              refine lv_aload_n hx hb d_Cm_expression_271 rfl (lv_at hl 1 rfl) ?_
              refine lv_aload_n hx hb d_Cm_expression_272 rfl (lv_at hl 1 rfl) ?_
              obtain ⟨r63, g63, hf⟩ := bo_some hf
              refine xg_R (i := v0) (k := 1) hx hb ht hown ck_Cm hK hP (by decide) fk_Cm_39 g63 d_Cm_expression_273 ?_
              obtain ⟨j64, ej64, hf⟩ := bo_some hf
              rw [ej64]
              obtain ⟨r65, g65, hf⟩ := bo_some hf
              refine xg_R (i := j64) (k := 2) hx hb ht hown ck_Tr hK hP (by decide) fk_Cm_125 g65 d_Cm_expression_276 ?_
              refine lv_iload_n hx hb d_Cm_expression_279 rfl (lv_at hl 2 rfl) ?_
              obtain ⟨j66, ej66, hf⟩ := bo_some hf
              rw [ej66]
              obtain ⟨r67, g67, hf⟩ := bo_some hf
              refine xl_I (i := j66) hx hb hK hP g67 d_Cm_expression_280 ?_
              obtain ⟨hO9, hf⟩ := ck_some hf
              obtain ⟨u68, r68, hc68, hf⟩ := bx_some hf
              refine xV0 (i := v0) (As := [.int r67]) (rest := []) C0 hP hD hS ck_Cm hO9 (hSg.2.2.2.2.2.2.2.2.2.1 _ _ _ _ _ _ hc68) k_Cm_row (wd_of 1198 (by decide +kernel) rfl) hi_Cm_row hs_Cm_row hini_Cm rfl rfl hd_Cm_row rfl rm_Cm_expression_Cm_row hl.1 (Nat.le_of_ble_eq_true rfl) d_Cm_expression_281 rfl ⟨Nat.zero_le _, Nat.zero_le _⟩ (fun H locs hP hD hS => ?_)
              refine lv_aload_n hx hb d_Cm_expression_284 rfl (lv_at hl 1 rfl) ?_
              obtain ⟨r69, g69, hf⟩ := bo_some hf
              refine xg_R (i := v0) (k := 2) hx hb ht hown ck_Cm hK hP (by decide) fk_Cm_43 g69 d_Cm_expression_285 ?_
              refine lv_iconst (v := 4) hx hb d_Cm_expression_288 (by decide) ?_
              obtain ⟨j71, ej71, hf⟩ := bo_some hf
              rw [ej71]
              obtain ⟨hO9, hf⟩ := ck_some hf
              obtain ⟨u70, r70, hc70, hf⟩ := bx_some hf
              refine xV0 (i := j71) (As := [.int 4]) (rest := []) C0 hP hD hS ck_Co hO9 (c_Co_put N hc70) k_Co_put (wd_of 1149 (by decide +kernel) rfl) hi_Co_put hs_Co_put hini_Co rfl rfl hd_Co_put rfl rm_Cm_expression_Co_put hl.1 (Nat.le_of_ble_eq_true rfl) d_Cm_expression_289 rfl ⟨Nat.zero_le _, Nat.zero_le _⟩ (fun H locs hP hD hS => ?_)
              refine lv_aload_n hx hb d_Cm_expression_292 rfl (lv_at hl 1 rfl) ?_
              obtain ⟨r72, g72, hf⟩ := bo_some hf
              refine xg_R (i := v0) (k := 2) hx hb ht hown ck_Cm hK hP (by decide) fk_Cm_43 g72 d_Cm_expression_293 ?_
              refine lv_aload_n hx hb d_Cm_expression_296 rfl (lv_at hl 1 rfl) ?_
              obtain ⟨r73, g73, hf⟩ := bo_some hf
              refine xg_R (i := v0) (k := 1) hx hb ht hown ck_Cm hK hP (by decide) fk_Cm_39 g73 d_Cm_expression_297 ?_
              obtain ⟨j74, ej74, hf⟩ := bo_some hf
              rw [ej74]
              obtain ⟨r75, g75, hf⟩ := bo_some hf
              refine xg_R (i := j74) (k := 3) hx hb ht hown ck_Tr hK hP (by decide) fk_Cm_171 g75 d_Cm_expression_300 ?_
              refine lv_iload_n hx hb d_Cm_expression_303 rfl (lv_at hl 2 rfl) ?_
              obtain ⟨j76, ej76, hf⟩ := bo_some hf
              rw [ej76]
              obtain ⟨r77, g77, hf⟩ := bo_some hf
              refine xl_I (i := j76) hx hb hK hP g77 d_Cm_expression_304 ?_
              obtain ⟨j79, ej79, hf⟩ := bo_some hf
              rw [ej79]
              obtain ⟨hO9, hf⟩ := ck_some hf
              obtain ⟨u78, r78, hc78, hf⟩ := bx_some hf
              refine xV0 (i := j79) (As := [.int r77]) (rest := []) C0 hP hD hS ck_Co hO9 (c_Co_put N hc78) k_Co_put (wd_of 1149 (by decide +kernel) rfl) hi_Co_put hs_Co_put hini_Co rfl rfl hd_Co_put rfl rm_Cm_expression_Co_put hl.1 (Nat.le_of_ble_eq_true rfl) d_Cm_expression_305 rfl ⟨Nat.zero_le _, Nat.zero_le _⟩ (fun H locs hP hD hS => ?_)
              refine lv_goto (tgt := 359) hx hb d_Cm_expression_308 (by decide) ?_
              exact wb_Cm_expression_359 C0 hE N S hSg G hG _ _ hf H locs hP hD hS ls (lv_sub hl [] rfl)
            · rw [br_n _ hc6] at hf
              by_cases hc7 : r22 = 7
              · rw [br_p _ hc7] at hf
                refine lv_tableIn (tgt := 311) hx hb d_Cm_expression_19 (by rw [hc7]; decide) (by rw [hc7]; decide) (by rw [hc7]; rfl) (by decide) ?_
                refine lv_aload_n hx hb d_Cm_expression_311 rfl (lv_at hl 1 rfl) ?_
                refine lv_iload_n hx hb d_Cm_expression_312 rfl (lv_at hl 2 rfl) ?_
                obtain ⟨hO9, hf⟩ := ck_some hf
                obtain ⟨u80, r80, hc80, hf⟩ := bx_some hf
                refine xV0 (i := v0) (As := [.int v1]) (rest := []) C0 hP hD hS ck_Cm hO9 (hSg.2.2.2.2.2.2.2.2.1 _ _ _ _ _ _ hc80) k_Cm_list (wd_of 1202 (by decide +kernel) rfl) hi_Cm_list hs_Cm_list hini_Cm rfl rfl hd_Cm_list rfl rm_Cm_expression_Cm_list hl.1 (Nat.le_of_ble_eq_true rfl) d_Cm_expression_313 rfl ⟨Nat.zero_le _, Nat.zero_le _⟩ (fun H locs hP hD hS => ?_)
                refine lv_goto (tgt := 359) hx hb d_Cm_expression_316 (by decide) ?_
                exact wb_Cm_expression_359 C0 hE N S hSg G hG _ _ hf H locs hP hD hS ls (lv_sub hl [] rfl)
              · rw [br_n _ hc7] at hf
                by_cases hc8 : r22 = 8
                · rw [br_p _ hc8] at hf
                  refine lv_tableIn (tgt := 353) hx hb d_Cm_expression_19 (by rw [hc8]; decide) (by rw [hc8]; decide) (by rw [hc8]; rfl) (by decide) ?_
                  refine lv_aload_n hx hb d_Cm_expression_353 rfl (lv_at hl 1 rfl) ?_
                  refine lv_iload_n hx hb d_Cm_expression_354 rfl (lv_at hl 2 rfl) ?_
                  refine lv_iload_n hx hb d_Cm_expression_355 rfl (lv_at hl 3 rfl) ?_
                  obtain ⟨hO9, hf⟩ := ck_some hf
                  obtain ⟨u81, r81, hc81, hf⟩ := bx_some hf
                  refine xV0 (i := v0) (As := [.int v1, .int v2]) (rest := []) C0 hP hD hS ck_Cm hO9 (hSg.2.2.2.2.1 _ _ _ _ _ _ _ hc81) k_Cm_compound (wd_of 1238 (by decide +kernel) rfl) hi_Cm_compound hs_Cm_compound hini_Cm rfl rfl hd_Cm_compound rfl rm_Cm_expression_Cm_compound hl.1 (Nat.le_of_ble_eq_true rfl) d_Cm_expression_356 rfl ⟨Nat.zero_le _, Nat.zero_le _⟩ (fun H locs hP hD hS => ?_)
                  exact wb_Cm_expression_359 C0 hE N S hSg G hG _ _ hf H locs hP hD hS ls (lv_sub hl [] rfl)
                · rw [br_n _ hc8] at hf
                  by_cases hc9 : r22 = 9
                  · rw [br_p _ hc9] at hf
                    refine lv_tableIn (tgt := 353) hx hb d_Cm_expression_19 (by rw [hc9]; decide) (by rw [hc9]; decide) (by rw [hc9]; rfl) (by decide) ?_
                    refine lv_aload_n hx hb d_Cm_expression_353 rfl (lv_at hl 1 rfl) ?_
                    refine lv_iload_n hx hb d_Cm_expression_354 rfl (lv_at hl 2 rfl) ?_
                    refine lv_iload_n hx hb d_Cm_expression_355 rfl (lv_at hl 3 rfl) ?_
                    obtain ⟨hO9, hf⟩ := ck_some hf
                    obtain ⟨u82, r82, hc82, hf⟩ := bx_some hf
                    refine xV0 (i := v0) (As := [.int v1, .int v2]) (rest := []) C0 hP hD hS ck_Cm hO9 (hSg.2.2.2.2.1 _ _ _ _ _ _ _ hc82) k_Cm_compound (wd_of 1238 (by decide +kernel) rfl) hi_Cm_compound hs_Cm_compound hini_Cm rfl rfl hd_Cm_compound rfl rm_Cm_expression_Cm_compound hl.1 (Nat.le_of_ble_eq_true rfl) d_Cm_expression_356 rfl ⟨Nat.zero_le _, Nat.zero_le _⟩ (fun H locs hP hD hS => ?_)
                    exact wb_Cm_expression_359 C0 hE N S hSg G hG _ _ hf H locs hP hD hS ls (lv_sub hl [] rfl)
                  · rw [br_n _ hc9] at hf
                    by_cases hc10 : r22 = 10
                    · rw [br_p _ hc10] at hf
                      refine lv_tableIn (tgt := 353) hx hb d_Cm_expression_19 (by rw [hc10]; decide) (by rw [hc10]; decide) (by rw [hc10]; rfl) (by decide) ?_
                      refine lv_aload_n hx hb d_Cm_expression_353 rfl (lv_at hl 1 rfl) ?_
                      refine lv_iload_n hx hb d_Cm_expression_354 rfl (lv_at hl 2 rfl) ?_
                      refine lv_iload_n hx hb d_Cm_expression_355 rfl (lv_at hl 3 rfl) ?_
                      obtain ⟨hO9, hf⟩ := ck_some hf
                      obtain ⟨u83, r83, hc83, hf⟩ := bx_some hf
                      refine xV0 (i := v0) (As := [.int v1, .int v2]) (rest := []) C0 hP hD hS ck_Cm hO9 (hSg.2.2.2.2.1 _ _ _ _ _ _ _ hc83) k_Cm_compound (wd_of 1238 (by decide +kernel) rfl) hi_Cm_compound hs_Cm_compound hini_Cm rfl rfl hd_Cm_compound rfl rm_Cm_expression_Cm_compound hl.1 (Nat.le_of_ble_eq_true rfl) d_Cm_expression_356 rfl ⟨Nat.zero_le _, Nat.zero_le _⟩ (fun H locs hP hD hS => ?_)
                      exact wb_Cm_expression_359 C0 hE N S hSg G hG _ _ hf H locs hP hD hS ls (lv_sub hl [] rfl)
                    · rw [br_n _ hc10] at hf
                      by_cases hc11 : r22 = 11
                      · rw [br_p _ hc11] at hf
                        refine lv_tableIn (tgt := 353) hx hb d_Cm_expression_19 (by rw [hc11]; decide) (by rw [hc11]; decide) (by rw [hc11]; rfl) (by decide) ?_
                        refine lv_aload_n hx hb d_Cm_expression_353 rfl (lv_at hl 1 rfl) ?_
                        refine lv_iload_n hx hb d_Cm_expression_354 rfl (lv_at hl 2 rfl) ?_
                        refine lv_iload_n hx hb d_Cm_expression_355 rfl (lv_at hl 3 rfl) ?_
                        obtain ⟨hO9, hf⟩ := ck_some hf
                        obtain ⟨u84, r84, hc84, hf⟩ := bx_some hf
                        refine xV0 (i := v0) (As := [.int v1, .int v2]) (rest := []) C0 hP hD hS ck_Cm hO9 (hSg.2.2.2.2.1 _ _ _ _ _ _ _ hc84) k_Cm_compound (wd_of 1238 (by decide +kernel) rfl) hi_Cm_compound hs_Cm_compound hini_Cm rfl rfl hd_Cm_compound rfl rm_Cm_expression_Cm_compound hl.1 (Nat.le_of_ble_eq_true rfl) d_Cm_expression_356 rfl ⟨Nat.zero_le _, Nat.zero_le _⟩ (fun H locs hP hD hS => ?_)
                        exact wb_Cm_expression_359 C0 hE N S hSg G hG _ _ hf H locs hP hD hS ls (lv_sub hl [] rfl)
                      · rw [br_n _ hc11] at hf
                        by_cases hc12 : r22 = 12
                        · rw [br_p _ hc12] at hf
                          refine lv_tableIn (tgt := 353) hx hb d_Cm_expression_19 (by rw [hc12]; decide) (by rw [hc12]; decide) (by rw [hc12]; rfl) (by decide) ?_
                          refine lv_aload_n hx hb d_Cm_expression_353 rfl (lv_at hl 1 rfl) ?_
                          refine lv_iload_n hx hb d_Cm_expression_354 rfl (lv_at hl 2 rfl) ?_
                          refine lv_iload_n hx hb d_Cm_expression_355 rfl (lv_at hl 3 rfl) ?_
                          obtain ⟨hO9, hf⟩ := ck_some hf
                          obtain ⟨u85, r85, hc85, hf⟩ := bx_some hf
                          refine xV0 (i := v0) (As := [.int v1, .int v2]) (rest := []) C0 hP hD hS ck_Cm hO9 (hSg.2.2.2.2.1 _ _ _ _ _ _ _ hc85) k_Cm_compound (wd_of 1238 (by decide +kernel) rfl) hi_Cm_compound hs_Cm_compound hini_Cm rfl rfl hd_Cm_compound rfl rm_Cm_expression_Cm_compound hl.1 (Nat.le_of_ble_eq_true rfl) d_Cm_expression_356 rfl ⟨Nat.zero_le _, Nat.zero_le _⟩ (fun H locs hP hD hS => ?_)
                          exact wb_Cm_expression_359 C0 hE N S hSg G hG _ _ hf H locs hP hD hS ls (lv_sub hl [] rfl)
                        · rw [br_n _ hc12] at hf
                          by_cases hc13 : r22 = 13
                          · rw [br_p _ hc13] at hf
                            refine lv_tableIn (tgt := 353) hx hb d_Cm_expression_19 (by rw [hc13]; decide) (by rw [hc13]; decide) (by rw [hc13]; rfl) (by decide) ?_
                            refine lv_aload_n hx hb d_Cm_expression_353 rfl (lv_at hl 1 rfl) ?_
                            refine lv_iload_n hx hb d_Cm_expression_354 rfl (lv_at hl 2 rfl) ?_
                            refine lv_iload_n hx hb d_Cm_expression_355 rfl (lv_at hl 3 rfl) ?_
                            obtain ⟨hO9, hf⟩ := ck_some hf
                            obtain ⟨u86, r86, hc86, hf⟩ := bx_some hf
                            refine xV0 (i := v0) (As := [.int v1, .int v2]) (rest := []) C0 hP hD hS ck_Cm hO9 (hSg.2.2.2.2.1 _ _ _ _ _ _ _ hc86) k_Cm_compound (wd_of 1238 (by decide +kernel) rfl) hi_Cm_compound hs_Cm_compound hini_Cm rfl rfl hd_Cm_compound rfl rm_Cm_expression_Cm_compound hl.1 (Nat.le_of_ble_eq_true rfl) d_Cm_expression_356 rfl ⟨Nat.zero_le _, Nat.zero_le _⟩ (fun H locs hP hD hS => ?_)
                            exact wb_Cm_expression_359 C0 hE N S hSg G hG _ _ hf H locs hP hD hS ls (lv_sub hl [] rfl)
                          · rw [br_n _ hc13] at hf
                            by_cases hc14 : r22 = 14
                            · rw [br_p _ hc14] at hf
                              refine lv_tableIn (tgt := 335) hx hb d_Cm_expression_19 (by rw [hc14]; decide) (by rw [hc14]; decide) (by rw [hc14]; rfl) (by decide) ?_
                              refine lv_aload_n hx hb d_Cm_expression_335 rfl (lv_at hl 1 rfl) ?_
                              refine lv_iload_n hx hb d_Cm_expression_336 rfl (lv_at hl 2 rfl) ?_
                              refine lv_iload_n hx hb d_Cm_expression_337 rfl (lv_at hl 3 rfl) ?_
                              obtain ⟨hO9, hf⟩ := ck_some hf
                              obtain ⟨u87, r87, hc87, hf⟩ := bx_some hf
                              refine xV0 (i := v0) (As := [.int v1, .int v2]) (rest := []) C0 hP hD hS ck_Cm hO9 (hSg.2.2.2.2.2.2.1 _ _ _ _ _ _ _ hc87) k_Cm_call (wd_of 1230 (by decide +kernel) rfl) hi_Cm_call hs_Cm_call hini_Cm rfl rfl hd_Cm_call rfl rm_Cm_expression_Cm_call hl.1 (Nat.le_of_ble_eq_true rfl) d_Cm_expression_338 rfl ⟨Nat.zero_le _, Nat.zero_le _⟩ (fun H locs hP hD hS => ?_)
                              refine lv_goto (tgt := 359) hx hb d_Cm_expression_341 (by decide) ?_
                              exact wb_Cm_expression_359 C0 hE N S hSg G hG _ _ hf H locs hP hD hS ls (lv_sub hl [] rfl)
                            · rw [br_n _ hc14] at hf
                              by_cases hc15 : r22 = 15
                              · rw [br_p _ hc15] at hf
                                refine lv_tableIn (tgt := 344) hx hb d_Cm_expression_19 (by rw [hc15]; decide) (by rw [hc15]; decide) (by rw [hc15]; rfl) (by decide) ?_
                                refine lv_aload_n hx hb d_Cm_expression_344 rfl (lv_at hl 1 rfl) ?_
                                refine lv_iload_n hx hb d_Cm_expression_345 rfl (lv_at hl 2 rfl) ?_
                                refine lv_iload_n hx hb d_Cm_expression_346 rfl (lv_at hl 3 rfl) ?_
                                obtain ⟨hO9, hf⟩ := ck_some hf
                                obtain ⟨u88, r88, hc88, hf⟩ := bx_some hf
                                refine xV0 (i := v0) (As := [.int v1, .int v2]) (rest := []) C0 hP hD hS ck_Cm hO9 (hSg.2.2.2.2.2.1 _ _ _ _ _ _ _ hc88) k_Cm_apply (wd_of 1234 (by decide +kernel) rfl) hi_Cm_apply hs_Cm_apply hini_Cm rfl rfl hd_Cm_apply rfl rm_Cm_expression_Cm_apply hl.1 (Nat.le_of_ble_eq_true rfl) d_Cm_expression_347 rfl ⟨Nat.zero_le _, Nat.zero_le _⟩ (fun H locs hP hD hS => ?_)
                                refine lv_goto (tgt := 359) hx hb d_Cm_expression_350 (by decide) ?_
                                exact wb_Cm_expression_359 C0 hE N S hSg G hG _ _ hf H locs hP hD hS ls (lv_sub hl [] rfl)
                              · rw [br_n _ hc15] at hf
                                by_cases hc16 : r22 = 16
                                · rw [br_p _ hc16] at hf
                                  refine lv_tableIn (tgt := 353) hx hb d_Cm_expression_19 (by rw [hc16]; decide) (by rw [hc16]; decide) (by rw [hc16]; rfl) (by decide) ?_
                                  refine lv_aload_n hx hb d_Cm_expression_353 rfl (lv_at hl 1 rfl) ?_
                                  refine lv_iload_n hx hb d_Cm_expression_354 rfl (lv_at hl 2 rfl) ?_
                                  refine lv_iload_n hx hb d_Cm_expression_355 rfl (lv_at hl 3 rfl) ?_
                                  obtain ⟨hO9, hf⟩ := ck_some hf
                                  obtain ⟨u89, r89, hc89, hf⟩ := bx_some hf
                                  refine xV0 (i := v0) (As := [.int v1, .int v2]) (rest := []) C0 hP hD hS ck_Cm hO9 (hSg.2.2.2.2.1 _ _ _ _ _ _ _ hc89) k_Cm_compound (wd_of 1238 (by decide +kernel) rfl) hi_Cm_compound hs_Cm_compound hini_Cm rfl rfl hd_Cm_compound rfl rm_Cm_expression_Cm_compound hl.1 (Nat.le_of_ble_eq_true rfl) d_Cm_expression_356 rfl ⟨Nat.zero_le _, Nat.zero_le _⟩ (fun H locs hP hD hS => ?_)
                                  exact wb_Cm_expression_359 C0 hE N S hSg G hG _ _ hf H locs hP hD hS ls (lv_sub hl [] rfl)
                                · rw [br_n _ hc16] at hf
                                  by_cases hc17 : r22 = 17
                                  · rw [br_p _ hc17] at hf
                                    refine lv_tableIn (tgt := 353) hx hb d_Cm_expression_19 (by rw [hc17]; decide) (by rw [hc17]; decide) (by rw [hc17]; rfl) (by decide) ?_
                                    refine lv_aload_n hx hb d_Cm_expression_353 rfl (lv_at hl 1 rfl) ?_
                                    refine lv_iload_n hx hb d_Cm_expression_354 rfl (lv_at hl 2 rfl) ?_
                                    refine lv_iload_n hx hb d_Cm_expression_355 rfl (lv_at hl 3 rfl) ?_
                                    obtain ⟨hO9, hf⟩ := ck_some hf
                                    obtain ⟨u90, r90, hc90, hf⟩ := bx_some hf
                                    refine xV0 (i := v0) (As := [.int v1, .int v2]) (rest := []) C0 hP hD hS ck_Cm hO9 (hSg.2.2.2.2.1 _ _ _ _ _ _ _ hc90) k_Cm_compound (wd_of 1238 (by decide +kernel) rfl) hi_Cm_compound hs_Cm_compound hini_Cm rfl rfl hd_Cm_compound rfl rm_Cm_expression_Cm_compound hl.1 (Nat.le_of_ble_eq_true rfl) d_Cm_expression_356 rfl ⟨Nat.zero_le _, Nat.zero_le _⟩ (fun H locs hP hD hS => ?_)
                                    exact wb_Cm_expression_359 C0 hE N S hSg G hG _ _ hf H locs hP hD hS ls (lv_sub hl [] rfl)
                                  · rw [br_n _ hc17] at hf
                                    by_cases hc18 : r22 = 18
                                    · rw [br_p _ hc18] at hf
                                      refine lv_tableIn (tgt := 353) hx hb d_Cm_expression_19 (by rw [hc18]; decide) (by rw [hc18]; decide) (by rw [hc18]; rfl) (by decide) ?_
                                      refine lv_aload_n hx hb d_Cm_expression_353 rfl (lv_at hl 1 rfl) ?_
                                      refine lv_iload_n hx hb d_Cm_expression_354 rfl (lv_at hl 2 rfl) ?_
                                      refine lv_iload_n hx hb d_Cm_expression_355 rfl (lv_at hl 3 rfl) ?_
                                      obtain ⟨hO9, hf⟩ := ck_some hf
                                      obtain ⟨u91, r91, hc91, hf⟩ := bx_some hf
                                      refine xV0 (i := v0) (As := [.int v1, .int v2]) (rest := []) C0 hP hD hS ck_Cm hO9 (hSg.2.2.2.2.1 _ _ _ _ _ _ _ hc91) k_Cm_compound (wd_of 1238 (by decide +kernel) rfl) hi_Cm_compound hs_Cm_compound hini_Cm rfl rfl hd_Cm_compound rfl rm_Cm_expression_Cm_compound hl.1 (Nat.le_of_ble_eq_true rfl) d_Cm_expression_356 rfl ⟨Nat.zero_le _, Nat.zero_le _⟩ (fun H locs hP hD hS => ?_)
                                      exact wb_Cm_expression_359 C0 hE N S hSg G hG _ _ hf H locs hP hD hS ls (lv_sub hl [] rfl)
                                    · rw [br_n _ hc18] at hf
                                      by_cases hc19 : r22 = 19
                                      · rw [br_p _ hc19] at hf
                                        refine lv_tableIn (tgt := 353) hx hb d_Cm_expression_19 (by rw [hc19]; decide) (by rw [hc19]; decide) (by rw [hc19]; rfl) (by decide) ?_
                                        refine lv_aload_n hx hb d_Cm_expression_353 rfl (lv_at hl 1 rfl) ?_
                                        refine lv_iload_n hx hb d_Cm_expression_354 rfl (lv_at hl 2 rfl) ?_
                                        refine lv_iload_n hx hb d_Cm_expression_355 rfl (lv_at hl 3 rfl) ?_
                                        obtain ⟨hO9, hf⟩ := ck_some hf
                                        obtain ⟨u92, r92, hc92, hf⟩ := bx_some hf
                                        refine xV0 (i := v0) (As := [.int v1, .int v2]) (rest := []) C0 hP hD hS ck_Cm hO9 (hSg.2.2.2.2.1 _ _ _ _ _ _ _ hc92) k_Cm_compound (wd_of 1238 (by decide +kernel) rfl) hi_Cm_compound hs_Cm_compound hini_Cm rfl rfl hd_Cm_compound rfl rm_Cm_expression_Cm_compound hl.1 (Nat.le_of_ble_eq_true rfl) d_Cm_expression_356 rfl ⟨Nat.zero_le _, Nat.zero_le _⟩ (fun H locs hP hD hS => ?_)
                                        exact wb_Cm_expression_359 C0 hE N S hSg G hG _ _ hf H locs hP hD hS ls (lv_sub hl [] rfl)
                                      · rw [br_n _ hc19] at hf
                                        by_cases hc20 : r22 = 20
                                        · rw [br_p _ hc20] at hf
                                          refine lv_tableIn (tgt := 353) hx hb d_Cm_expression_19 (by rw [hc20]; decide) (by rw [hc20]; decide) (by rw [hc20]; rfl) (by decide) ?_
                                          refine lv_aload_n hx hb d_Cm_expression_353 rfl (lv_at hl 1 rfl) ?_
                                          refine lv_iload_n hx hb d_Cm_expression_354 rfl (lv_at hl 2 rfl) ?_
                                          refine lv_iload_n hx hb d_Cm_expression_355 rfl (lv_at hl 3 rfl) ?_
                                          obtain ⟨hO9, hf⟩ := ck_some hf
                                          obtain ⟨u93, r93, hc93, hf⟩ := bx_some hf
                                          refine xV0 (i := v0) (As := [.int v1, .int v2]) (rest := []) C0 hP hD hS ck_Cm hO9 (hSg.2.2.2.2.1 _ _ _ _ _ _ _ hc93) k_Cm_compound (wd_of 1238 (by decide +kernel) rfl) hi_Cm_compound hs_Cm_compound hini_Cm rfl rfl hd_Cm_compound rfl rm_Cm_expression_Cm_compound hl.1 (Nat.le_of_ble_eq_true rfl) d_Cm_expression_356 rfl ⟨Nat.zero_le _, Nat.zero_le _⟩ (fun H locs hP hD hS => ?_)
                                          exact wb_Cm_expression_359 C0 hE N S hSg G hG _ _ hf H locs hP hD hS ls (lv_sub hl [] rfl)
                                        · rw [br_n _ hc20] at hf
                                          by_cases hc21 : r22 = 21
                                          · rw [br_p _ hc21] at hf
                                            refine lv_tableIn (tgt := 353) hx hb d_Cm_expression_19 (by rw [hc21]; decide) (by rw [hc21]; decide) (by rw [hc21]; rfl) (by decide) ?_
                                            refine lv_aload_n hx hb d_Cm_expression_353 rfl (lv_at hl 1 rfl) ?_
                                            refine lv_iload_n hx hb d_Cm_expression_354 rfl (lv_at hl 2 rfl) ?_
                                            refine lv_iload_n hx hb d_Cm_expression_355 rfl (lv_at hl 3 rfl) ?_
                                            obtain ⟨hO9, hf⟩ := ck_some hf
                                            obtain ⟨u94, r94, hc94, hf⟩ := bx_some hf
                                            refine xV0 (i := v0) (As := [.int v1, .int v2]) (rest := []) C0 hP hD hS ck_Cm hO9 (hSg.2.2.2.2.1 _ _ _ _ _ _ _ hc94) k_Cm_compound (wd_of 1238 (by decide +kernel) rfl) hi_Cm_compound hs_Cm_compound hini_Cm rfl rfl hd_Cm_compound rfl rm_Cm_expression_Cm_compound hl.1 (Nat.le_of_ble_eq_true rfl) d_Cm_expression_356 rfl ⟨Nat.zero_le _, Nat.zero_le _⟩ (fun H locs hP hD hS => ?_)
                                            exact wb_Cm_expression_359 C0 hE N S hSg G hG _ _ hf H locs hP hD hS ls (lv_sub hl [] rfl)
                                          · rw [br_n _ hc21] at hf
                                            by_cases hc22 : r22 = 22
                                            · rw [br_p _ hc22] at hf
                                              refine lv_tableIn (tgt := 319) hx hb d_Cm_expression_19 (by rw [hc22]; decide) (by rw [hc22]; decide) (by rw [hc22]; rfl) (by decide) ?_
                                              refine lv_aload_n hx hb d_Cm_expression_319 rfl (lv_at hl 1 rfl) ?_
                                              refine lv_aload_n hx hb d_Cm_expression_320 rfl (lv_at hl 1 rfl) ?_
                                              obtain ⟨r95, g95, hf⟩ := bo_some hf
                                              refine xg_R (i := v0) (k := 1) hx hb ht hown ck_Cm hK hP (by decide) fk_Cm_39 g95 d_Cm_expression_321 ?_
                                              obtain ⟨j96, ej96, hf⟩ := bo_some hf
                                              rw [ej96]
                                              obtain ⟨r97, g97, hf⟩ := bo_some hf
                                              refine xg_R (i := j96) (k := 2) hx hb ht hown ck_Tr hK hP (by decide) fk_Cm_125 g97 d_Cm_expression_324 ?_
                                              refine lv_iload_n hx hb d_Cm_expression_327 rfl (lv_at hl 2 rfl) ?_
                                              obtain ⟨j98, ej98, hf⟩ := bo_some hf
                                              rw [ej98]
                                              obtain ⟨r99, g99, hf⟩ := bo_some hf
                                              refine xl_I (i := j98) hx hb hK hP g99 d_Cm_expression_328 ?_
                                              obtain ⟨hO9, hf⟩ := ck_some hf
                                              obtain ⟨u100, r100, hc100, hf⟩ := bx_some hf
                                              refine xV0 (i := v0) (As := [.int r99]) (rest := []) C0 hP hD hS ck_Cm hO9 (hSg.2.2.2.2.2.2.2.1 _ _ _ _ _ _ hc100) k_Cm_signs (wd_of 1206 (by decide +kernel) rfl) hi_Cm_signs hs_Cm_signs hini_Cm rfl rfl hd_Cm_signs rfl rm_Cm_expression_Cm_signs hl.1 (Nat.le_of_ble_eq_true rfl) d_Cm_expression_329 rfl ⟨Nat.zero_le _, Nat.zero_le _⟩ (fun H locs hP hD hS => ?_)
                                              refine lv_goto (tgt := 359) hx hb d_Cm_expression_332 (by decide) ?_
                                              exact wb_Cm_expression_359 C0 hE N S hSg G hG _ _ hf H locs hP hD hS ls (lv_sub hl [] rfl)
                                            · rw [br_n _ hc22] at hf
                                              refine lv_tableOut (tgt := 353) hx hb d_Cm_expression_19 (by have z0 := tiN hc1; have z1 := tiN hc2; have z2 := tiN hc3; have z3 := tiN hc4; have z4 := tiN hc5; have z5 := tiN hc6; have z6 := tiN hc7; have z7 := tiN hc8; have z8 := tiN hc9; have z9 := tiN hc10; have z10 := tiN hc11; have z11 := tiN hc12; have z12 := tiN hc13; have z13 := tiN hc14; have z14 := tiN hc15; have z15 := tiN hc16; have z16 := tiN hc17; have z17 := tiN hc18; have z18 := tiN hc19; have z19 := tiN hc20; have z20 := tiN hc21; have z21 := tiN hc22; rw [show (1 : Int32).toInt = 1 from by decide] at z0; rw [show (2 : Int32).toInt = 2 from by decide] at z1; rw [show (3 : Int32).toInt = 3 from by decide] at z2; rw [show (4 : Int32).toInt = 4 from by decide] at z3; rw [show (5 : Int32).toInt = 5 from by decide] at z4; rw [show (6 : Int32).toInt = 6 from by decide] at z5; rw [show (7 : Int32).toInt = 7 from by decide] at z6; rw [show (8 : Int32).toInt = 8 from by decide] at z7; rw [show (9 : Int32).toInt = 9 from by decide] at z8; rw [show (10 : Int32).toInt = 10 from by decide] at z9; rw [show (11 : Int32).toInt = 11 from by decide] at z10; rw [show (12 : Int32).toInt = 12 from by decide] at z11; rw [show (13 : Int32).toInt = 13 from by decide] at z12; rw [show (14 : Int32).toInt = 14 from by decide] at z13; rw [show (15 : Int32).toInt = 15 from by decide] at z14; rw [show (16 : Int32).toInt = 16 from by decide] at z15; rw [show (17 : Int32).toInt = 17 from by decide] at z16; rw [show (18 : Int32).toInt = 18 from by decide] at z17; rw [show (19 : Int32).toInt = 19 from by decide] at z18; rw [show (20 : Int32).toInt = 20 from by decide] at z19; rw [show (21 : Int32).toInt = 21 from by decide] at z20; rw [show (22 : Int32).toInt = 22 from by decide] at z21; omega) (by decide) ?_
                                              refine lv_aload_n hx hb d_Cm_expression_353 rfl (lv_at hl 1 rfl) ?_
                                              refine lv_iload_n hx hb d_Cm_expression_354 rfl (lv_at hl 2 rfl) ?_
                                              refine lv_iload_n hx hb d_Cm_expression_355 rfl (lv_at hl 3 rfl) ?_
                                              obtain ⟨hO9, hf⟩ := ck_some hf
                                              obtain ⟨u101, r101, hc101, hf⟩ := bx_some hf
                                              refine xV0 (i := v0) (As := [.int v1, .int v2]) (rest := []) C0 hP hD hS ck_Cm hO9 (hSg.2.2.2.2.1 _ _ _ _ _ _ _ hc101) k_Cm_compound (wd_of 1238 (by decide +kernel) rfl) hi_Cm_compound hs_Cm_compound hini_Cm rfl rfl hd_Cm_compound rfl rm_Cm_expression_Cm_compound hl.1 (Nat.le_of_ble_eq_true rfl) d_Cm_expression_356 rfl ⟨Nat.zero_le _, Nat.zero_le _⟩ (fun H locs hP hD hS => ?_)
                                              exact wb_Cm_expression_359 C0 hE N S hSg G hG _ _ hf H locs hP hD hS ls (lv_sub hl [] rfl)
def fm_Cm_expression (N : Nat) (S : SG_Cm_fun) (u : CS) (v0 : Nat) (v1 : Int32) (v2 : Int32) : Option (CS × Unit) := fb_Cm_expression_0 N S () u v0 v1 v2
set_option maxRecDepth 100000 in
set_option maxHeartbeats 4000000 in
theorem cs_Cm_expression (N : Nat) {d : Nat} {l : Launch} {s0 : State} {b0 : Nat} {D : va_G} {cB cI cJ cZ cS cP : ClassId} {sk sv : Nat → Nat} {ad : Nat → Nat} {u : CS} {sz : Nat} {v0 : Nat} {v1 : Int32} {v2 : Int32} {x : CS × Unit} (hE : ENV s0 b0 sk sv) (S : SG_Cm_fun) (hSg : HS_Cm_fun l s0 b0 D cB cI cJ cZ cS cP d S) (hf : fm_Cm_expression N S u v0 v1 v2 = some x) : Met l y_Cm_expression (wd_ws y_Cm_expression b_Cm_expression 4 none) (rg_Cm_fun (d + 1)) (xPc s0 b0 D cB cI cJ cZ cS cP ad u sz [.ref (ad v0), .int v1, .int v2]) (xQ0 D cB cI cJ cZ cS cP (xA cB cI cJ cZ cS cP ad u sz) ad x.1 none) 0 0 (xA cB cI cJ cZ cS cP ad u sz) :=
  xMet (by decide) rfl (Nat.le_of_ble_eq_true rfl) (fun p e s m below meth c ls hsz hnm C0 hP hD hS hl =>
    wb_Cm_expression_0 C0 hE N S hSg () trivial u _ _ _ x hf s.heap [] hP hD hS ls (lv_sub hl [0, 1, 2] rfl))
theorem rm_Cm_tries_Co_put {d : Nat} : (rm_Co_put).frames + 1 ≤ (rg_Cm_fun (d + 1)).frames ∧ 8 + (2 + 11) + (rm_Co_put).locals ≤ (rg_Cm_fun (d + 1)).locals := by
  show 0 + 1 ≤ 304 + (d + 1) ∧ 8 + (2 + 11) + 0 ≤ 6688 + 28 * (d + 1)
  omega
theorem rm_Cm_tries_Co_hook {d : Nat} : (rm_Co_hook).frames + 1 ≤ (rg_Cm_fun (d + 1)).frames ∧ 8 + (2 + 11) + (rm_Co_hook).locals ≤ (rg_Cm_fun (d + 1)).locals := by
  show 1 + 1 ≤ 304 + (d + 1) ∧ 8 + (2 + 11) + 21 ≤ 6688 + 28 * (d + 1)
  omega
theorem rm_Cm_tries_Cm_pattern {d : Nat} : (rm_Cm_pattern).frames + 1 ≤ (rg_Cm_fun (d + 1)).frames ∧ 8 + (3 + 11) + (rm_Cm_pattern).locals ≤ (rg_Cm_fun (d + 1)).locals := by
  show 303 + 1 ≤ 304 + (d + 1) ∧ 8 + (3 + 11) + 6666 ≤ 6688 + 28 * (d + 1)
  omega
theorem rm_Cm_tries_Cm_expression {d : Nat} : (rg_Cm_fun d).frames + 1 ≤ (rg_Cm_fun (d + 1)).frames ∧ 8 + (4 + 11) + (rg_Cm_fun d).locals ≤ (rg_Cm_fun (d + 1)).locals := by
  show 304 + d + 1 ≤ 304 + (d + 1) ∧ 8 + (4 + 11) + (6688 + 28 * d) ≤ 6688 + 28 * (d + 1)
  omega
def fb_Cm_tries_181 (N : Nat) (S : SG_Cm_fun) (G : (CS → Nat → Int32 → Int32 → Int32 → Int32 → Option (CS × Int32)) × (CS → Nat → Int32 → Int32 → Int32 → Option (CS × Int32))) (u : CS) (v0 : Nat) (v4 : Int32) (v5 : Int32) (v6 : Int32) : Option (CS × Int32) := br (decide (v6 = 0)) (bo (gR u v0 3 2) (fun r1 => bo r1 (fun j3 => ck (isO u j3 2) (bx (fm_Co_put N u j3 23) (fun u2 r2 => ck (isb v5) (bo (pF u2 v0 3 12 (.inl v5)) (fun w4 => some (w4, v4)))))))) (ck (isO u v0 3) (bx (S.2.2.2.2.2.2.2.2.2.2.1 u v0 v6 0) (fun u5 r5 => bo (gR u5 v0 3 2) (fun r6 => bo r6 (fun j8 => ck (isO u5 j8 2) (bx (fm_Co_put N u5 j8 22) (fun u7 r7 => bo (gR u7 v0 3 1) (fun r9 => bo r9 (fun j10 => bo (gR u7 j10 10 5) (fun r11 => bo r11 (fun j12 => bo (aI u7 j12 4 v6) (fun r13 => G.2 u7 (v0) (v4) (v5) (r13)))))))))))))
set_option maxRecDepth 100000 in
set_option maxHeartbeats 4000000 in
theorem wb_Cm_tries_181 {p : Program} {l : Launch} {e : Env} {s : State} {m : MethodId} {args : Array Value} {below : List Frame} {meth : Method} {c : Code} {s0 : State} {b0 : Nat} {D : va_G} {cB cI cJ cZ cS cP : ClassId} {A : Nat → Prop} {sk sv : Nat → Nat} {d : Nat} {ad : Nat → Nat} (C0 : XCx p s s0 b0 m args meth c R_Cm b_Cm_tries 7 (some .int) D cB cI cJ cZ cS cP A) (hE : ENV s0 b0 sk sv) (N : Nat) (S : SG_Cm_fun) (hSg : HS_Cm_fun l s0 b0 D cB cI cJ cZ cS cP d S) (G : (CS → Nat → Int32 → Int32 → Int32 → Int32 → Option (CS × Int32)) × (CS → Nat → Int32 → Int32 → Int32 → Option (CS × Int32))) (hG : (∀ (u : CS) (v0 : Nat) (v2 : Int32) (v3 : Int32) (v4 : Int32) (v5 : Int32) (x : CS × Int32), G.1 u v0 v2 v3 v4 v5 = some x → ∀ (H : Heap) (locs : List Loc), va_P D cls (wC cB cI cJ cZ cS cP ad u) H → va_D A (wC cB cI cJ cZ cS cP ad u) → va_S A s.heap H locs → ∀ (ls : Array Slot), lv_has ls 7 [(0, .ref (ad v0)), (2, .int v2), (3, .int v3), (4, .int v4), (5, .int v5)] → W p l e (rg_Cm_fun (d + 1)) s m args below meth c H locs 0 0 (MQ below (xQ0 D cB cI cJ cZ cS cP A ad x.1 (some (.inl x.2))) args s 0 0 A) (F0 m 71 ls [])) ∧ (∀ (u : CS) (v0 : Nat) (v4 : Int32) (v5 : Int32) (v6 : Int32) (x : CS × Int32), G.2 u v0 v4 v5 v6 = some x → ∀ (H : Heap) (locs : List Loc), va_P D cls (wC cB cI cJ cZ cS cP ad u) H → va_D A (wC cB cI cJ cZ cS cP ad u) → va_S A s.heap H locs → ∀ (ls : Array Slot), lv_has ls 7 [(0, .ref (ad v0)), (4, .int v4), (5, .int v5), (6, .int v6)] → W p l e (rg_Cm_fun (d + 1)) s m args below meth c H locs 0 0 (MQ below (xQ0 D cB cI cJ cZ cS cP A ad x.1 (some (.inl x.2))) args s 0 0 A) (F0 m 181 ls []))) : ∀ (u : CS) (v0 : Nat) (v4 : Int32) (v5 : Int32) (v6 : Int32) (x : CS × Int32), fb_Cm_tries_181 N S G u v0 v4 v5 v6 = some x → ∀ (H : Heap) (locs : List Loc), va_P D cls (wC cB cI cJ cZ cS cP ad u) H → va_D A (wC cB cI cJ cZ cS cP ad u) → va_S A s.heap H locs → ∀ (ls : Array Slot), lv_has ls 7 [(0, .ref (ad v0)), (4, .int v4), (5, .int v5), (6, .int v6)] → W p l e (rg_Cm_fun (d + 1)) s m args below meth c H locs 0 0 (MQ below (xQ0 D cB cI cJ cZ cS cP A ad x.1 (some (.inl x.2))) args s 0 0 A) (F0 m 181 ls []) := by
  intro u v0 v4 v5 v6 x hf H locs hP hD hS ls hl
  obtain ⟨hx, hb, hr, hml, ht, hown, hK, hA, hlocks, hA0, hO, hbs⟩ := id C0
  unfold fb_Cm_tries_181 at hf
  refine lv_iload hx hb d_Cm_tries_181 (lv_at hl 3 rfl) ?_
  refine lv_if_eq (tgt := 217) hx hb d_Cm_tries_183 (by decide) (fun hc => ?_) (fun hc => ?_)
  · rw [br_p _ hc] at hf
    refine lv_aload_n hx hb d_Cm_tries_217 rfl (lv_at hl 0 rfl) ?_
    obtain ⟨r1, g1, hf⟩ := bo_some hf
    refine xg_R (i := v0) (k := 2) hx hb ht hown ck_Cm hK hP (by decide) fk_Cm_43 g1 d_Cm_tries_218 ?_
    refine lv_bipush (v := 23) hx hb d_Cm_tries_221 (by decide) ?_
    obtain ⟨j3, ej3, hf⟩ := bo_some hf
    rw [ej3]
    obtain ⟨hO9, hf⟩ := ck_some hf
    obtain ⟨u2, r2, hc2, hf⟩ := bx_some hf
    refine xV0 (i := j3) (As := [.int 23]) (rest := []) C0 hP hD hS ck_Co hO9 (c_Co_put N hc2) k_Co_put (wd_of 1149 (by decide +kernel) rfl) hi_Co_put hs_Co_put hini_Co rfl rfl hd_Co_put rfl rm_Cm_tries_Co_put hl.1 (Nat.le_of_ble_eq_true rfl) d_Cm_tries_223 rfl ⟨Nat.zero_le _, Nat.zero_le _⟩ (fun H locs hP hD hS => ?_)
    refine lv_aload_n hx hb d_Cm_tries_226 rfl (lv_at hl 0 rfl) ?_
    refine lv_iload hx hb d_Cm_tries_227 (lv_at hl 2 rfl) ?_
    obtain ⟨hz, hf⟩ := ck_some hf
    obtain ⟨w4, g4, hf⟩ := bo_some hf
    refine xp (i := v0) (k := 12) (v := (.inl v5)) hx hb ht hown ck_Cm hK hP hD hS (by decide) fk_Cm_59 rfl g4 (isb_n hz) (isb_f hz) d_Cm_tries_229 (fun H locs hP hD hS => ?_)
    refine lv_iload hx hb d_Cm_tries_232 (lv_at hl 1 rfl) ?_
    exact xr0_i C0 hP hD hS hf d_Cm_tries_234
  · rw [br_n _ hc] at hf
    refine lv_aload_n hx hb d_Cm_tries_186 rfl (lv_at hl 0 rfl) ?_
    refine lv_iload hx hb d_Cm_tries_187 (lv_at hl 3 rfl) ?_
    refine lv_iconst (v := 0) hx hb d_Cm_tries_189 (by decide) ?_
    obtain ⟨hO9, hf⟩ := ck_some hf
    obtain ⟨u5, r5, hc5, hf⟩ := bx_some hf
    refine xV0 (i := v0) (As := [.int v6, .int 0]) (rest := []) C0 hP hD hS ck_Cm hO9 (hSg.2.2.2.2.2.2.2.2.2.2.1 _ _ _ _ _ _ _ hc5) k_Cm_expression (wd_of 1190 (by decide +kernel) rfl) hi_Cm_expression hs_Cm_expression hini_Cm rfl rfl hd_Cm_expression rfl rm_Cm_tries_Cm_expression hl.1 (Nat.le_of_ble_eq_true rfl) d_Cm_tries_190 rfl ⟨Nat.zero_le _, Nat.zero_le _⟩ (fun H locs hP hD hS => ?_)
    refine lv_aload_n hx hb d_Cm_tries_193 rfl (lv_at hl 0 rfl) ?_
    obtain ⟨r6, g6, hf⟩ := bo_some hf
    refine xg_R (i := v0) (k := 2) hx hb ht hown ck_Cm hK hP (by decide) fk_Cm_43 g6 d_Cm_tries_194 ?_
    refine lv_bipush (v := 22) hx hb d_Cm_tries_197 (by decide) ?_
    obtain ⟨j8, ej8, hf⟩ := bo_some hf
    rw [ej8]
    obtain ⟨hO9, hf⟩ := ck_some hf
    obtain ⟨u7, r7, hc7, hf⟩ := bx_some hf
    refine xV0 (i := j8) (As := [.int 22]) (rest := []) C0 hP hD hS ck_Co hO9 (c_Co_put N hc7) k_Co_put (wd_of 1149 (by decide +kernel) rfl) hi_Co_put hs_Co_put hini_Co rfl rfl hd_Co_put rfl rm_Cm_tries_Co_put hl.1 (Nat.le_of_ble_eq_true rfl) d_Cm_tries_199 rfl ⟨Nat.zero_le _, Nat.zero_le _⟩ (fun H locs hP hD hS => ?_)
    refine lv_aload_n hx hb d_Cm_tries_202 rfl (lv_at hl 0 rfl) ?_
    obtain ⟨r9, g9, hf⟩ := bo_some hf
    refine xg_R (i := v0) (k := 1) hx hb ht hown ck_Cm hK hP (by decide) fk_Cm_39 g9 d_Cm_tries_203 ?_
    obtain ⟨j10, ej10, hf⟩ := bo_some hf
    rw [ej10]
    obtain ⟨r11, g11, hf⟩ := bo_some hf
    refine xg_R (i := j10) (k := 5) hx hb ht hown ck_Tr hK hP (by decide) fk_Cm_139 g11 d_Cm_tries_206 ?_
    refine lv_iload hx hb d_Cm_tries_209 (lv_at hl 3 rfl) ?_
    obtain ⟨j12, ej12, hf⟩ := bo_some hf
    rw [ej12]
    obtain ⟨r13, g13, hf⟩ := bo_some hf
    refine xl_I (i := j12) hx hb hK hP g13 d_Cm_tries_211 ?_
    refine lv_istore (lv' := [(6, .int r13), (0, .ref (ad v0)), (4, .int v4), (5, .int v5)]) hx hb d_Cm_tries_212 hl (by decide) (by first | rfl | simp [List.filter, cat_rf]) (fun ls hl => ?_)
    refine lv_goto (tgt := 181) hx hb d_Cm_tries_214 (by decide) ?_
    exact hG.2 _ _ _ _ _ _ hf H locs hP hD hS ls (lv_sub hl [1, 2, 3, 0] rfl)
def fb_Cm_tries_111 (N : Nat) (S : SG_Cm_fun) (G : (CS → Nat → Int32 → Int32 → Int32 → Int32 → Option (CS × Int32)) × (CS → Nat → Int32 → Int32 → Int32 → Option (CS × Int32))) (u : CS) (v0 : Nat) (v2 : Int32) (v3 : Int32) (v4 : Int32) : Option (CS × Int32) := bo (gR u v0 3 1) (fun r14 => bo r14 (fun j15 => bo (gR u j15 10 3) (fun r16 => bo r16 (fun j17 => bo (aI u j17 4 v2) (fun r18 => br (decide (r18 = 0)) (some (u, v4)) (bo (gI u v0 3 12) (fun r19 => bo (pF u v0 3 12 (.inl 1)) (fun w20 => bo (gR w20 v0 3 2) (fun r21 => bo r21 (fun j23 => ck (isO w20 j23 2) (bx (fm_Co_put N w20 j23 21) (fun u22 r22 => bo (gR u22 v0 3 2) (fun r24 => bo (gI u22 v0 3 6) (fun r25 => bo r24 (fun j27 => ck (isO u22 j27 2) (bx (fm_Co_put N u22 j27 (r25 - v3)) (fun u26 r26 => bo (gR u26 v0 3 2) (fun r28 => bo r28 (fun j30 => ck (isO u26 j30 2) (bx (fm_Co_hook N u26 j30 v4) (fun u29 r29 => bo (gR u29 v0 3 1) (fun r31 => bo r31 (fun j32 => bo (gR u29 j32 10 3) (fun r33 => bo r33 (fun j34 => bo (aI u29 j34 4 v2) (fun r35 => G.2 u29 (v0) (r29) (r19) (r35)))))))))))))))))))))))))))
set_option maxRecDepth 100000 in
set_option maxHeartbeats 4000000 in
theorem wb_Cm_tries_111 {p : Program} {l : Launch} {e : Env} {s : State} {m : MethodId} {args : Array Value} {below : List Frame} {meth : Method} {c : Code} {s0 : State} {b0 : Nat} {D : va_G} {cB cI cJ cZ cS cP : ClassId} {A : Nat → Prop} {sk sv : Nat → Nat} {d : Nat} {ad : Nat → Nat} (C0 : XCx p s s0 b0 m args meth c R_Cm b_Cm_tries 7 (some .int) D cB cI cJ cZ cS cP A) (hE : ENV s0 b0 sk sv) (N : Nat) (S : SG_Cm_fun) (hSg : HS_Cm_fun l s0 b0 D cB cI cJ cZ cS cP d S) (G : (CS → Nat → Int32 → Int32 → Int32 → Int32 → Option (CS × Int32)) × (CS → Nat → Int32 → Int32 → Int32 → Option (CS × Int32))) (hG : (∀ (u : CS) (v0 : Nat) (v2 : Int32) (v3 : Int32) (v4 : Int32) (v5 : Int32) (x : CS × Int32), G.1 u v0 v2 v3 v4 v5 = some x → ∀ (H : Heap) (locs : List Loc), va_P D cls (wC cB cI cJ cZ cS cP ad u) H → va_D A (wC cB cI cJ cZ cS cP ad u) → va_S A s.heap H locs → ∀ (ls : Array Slot), lv_has ls 7 [(0, .ref (ad v0)), (2, .int v2), (3, .int v3), (4, .int v4), (5, .int v5)] → W p l e (rg_Cm_fun (d + 1)) s m args below meth c H locs 0 0 (MQ below (xQ0 D cB cI cJ cZ cS cP A ad x.1 (some (.inl x.2))) args s 0 0 A) (F0 m 71 ls [])) ∧ (∀ (u : CS) (v0 : Nat) (v4 : Int32) (v5 : Int32) (v6 : Int32) (x : CS × Int32), G.2 u v0 v4 v5 v6 = some x → ∀ (H : Heap) (locs : List Loc), va_P D cls (wC cB cI cJ cZ cS cP ad u) H → va_D A (wC cB cI cJ cZ cS cP ad u) → va_S A s.heap H locs → ∀ (ls : Array Slot), lv_has ls 7 [(0, .ref (ad v0)), (4, .int v4), (5, .int v5), (6, .int v6)] → W p l e (rg_Cm_fun (d + 1)) s m args below meth c H locs 0 0 (MQ below (xQ0 D cB cI cJ cZ cS cP A ad x.1 (some (.inl x.2))) args s 0 0 A) (F0 m 181 ls []))) : ∀ (u : CS) (v0 : Nat) (v2 : Int32) (v3 : Int32) (v4 : Int32) (x : CS × Int32), fb_Cm_tries_111 N S G u v0 v2 v3 v4 = some x → ∀ (H : Heap) (locs : List Loc), va_P D cls (wC cB cI cJ cZ cS cP ad u) H → va_D A (wC cB cI cJ cZ cS cP ad u) → va_S A s.heap H locs → ∀ (ls : Array Slot), lv_has ls 7 [(0, .ref (ad v0)), (2, .int v2), (3, .int v3), (4, .int v4)] → W p l e (rg_Cm_fun (d + 1)) s m args below meth c H locs 0 0 (MQ below (xQ0 D cB cI cJ cZ cS cP A ad x.1 (some (.inl x.2))) args s 0 0 A) (F0 m 111 ls []) := by
  intro u v0 v2 v3 v4 x hf H locs hP hD hS ls hl
  obtain ⟨hx, hb, hr, hml, ht, hown, hK, hA, hlocks, hA0, hO, hbs⟩ := id C0
  unfold fb_Cm_tries_111 at hf
  refine lv_aload_n hx hb d_Cm_tries_111 rfl (lv_at hl 0 rfl) ?_
  obtain ⟨r14, g14, hf⟩ := bo_some hf
  refine xg_R (i := v0) (k := 1) hx hb ht hown ck_Cm hK hP (by decide) fk_Cm_39 g14 d_Cm_tries_112 ?_
  obtain ⟨j15, ej15, hf⟩ := bo_some hf
  rw [ej15]
  obtain ⟨r16, g16, hf⟩ := bo_some hf
  refine xg_R (i := j15) (k := 3) hx hb ht hown ck_Tr hK hP (by decide) fk_Cm_171 g16 d_Cm_tries_115 ?_
  refine lv_iload_n hx hb d_Cm_tries_118 rfl (lv_at hl 1 rfl) ?_
  obtain ⟨j17, ej17, hf⟩ := bo_some hf
  rw [ej17]
  obtain ⟨r18, g18, hf⟩ := bo_some hf
  refine xl_I (i := j17) hx hb hK hP g18 d_Cm_tries_119 ?_
  refine lv_if_ne (tgt := 126) hx hb d_Cm_tries_120 (by decide) (fun hc => ?_) (fun hc => ?_)
  · rw [br_n _ hc] at hf
    refine lv_aload_n hx hb d_Cm_tries_126 rfl (lv_at hl 0 rfl) ?_
    obtain ⟨r19, g19, hf⟩ := bo_some hf
    refine xg_I (i := v0) (k := 12) hx hb ht hown ck_Cm hK hP (by decide) fk_Cm_59 g19 d_Cm_tries_127 ?_
    refine lv_istore (lv' := [(5, .int r19), (0, .ref (ad v0)), (2, .int v2), (3, .int v3), (4, .int v4)]) hx hb d_Cm_tries_130 hl (by decide) (by first | rfl | simp [List.filter, cat_rf]) (fun ls hl => ?_)
    refine lv_aload_n hx hb d_Cm_tries_132 rfl (lv_at hl 1 rfl) ?_
    refine lv_iconst (v := 1) hx hb d_Cm_tries_133 (by decide) ?_
    obtain ⟨w20, g20, hf⟩ := bo_some hf
    refine xp (i := v0) (k := 12) (v := (.inl 1)) hx hb ht hown ck_Cm hK hP hD hS (by decide) fk_Cm_59 rfl g20 rfl rfl d_Cm_tries_134 (fun H locs hP hD hS => ?_)
    refine lv_aload_n hx hb d_Cm_tries_137 rfl (lv_at hl 1 rfl) ?_
    obtain ⟨r21, g21, hf⟩ := bo_some hf
    refine xg_R (i := v0) (k := 2) hx hb ht hown ck_Cm hK hP (by decide) fk_Cm_43 g21 d_Cm_tries_138 ?_
    refine lv_bipush (v := 21) hx hb d_Cm_tries_141 (by decide) ?_
    obtain ⟨j23, ej23, hf⟩ := bo_some hf
    rw [ej23]
    obtain ⟨hO9, hf⟩ := ck_some hf
    obtain ⟨u22, r22, hc22, hf⟩ := bx_some hf
    refine xV0 (i := j23) (As := [.int 21]) (rest := []) C0 hP hD hS ck_Co hO9 (c_Co_put N hc22) k_Co_put (wd_of 1149 (by decide +kernel) rfl) hi_Co_put hs_Co_put hini_Co rfl rfl hd_Co_put rfl rm_Cm_tries_Co_put hl.1 (Nat.le_of_ble_eq_true rfl) d_Cm_tries_143 rfl ⟨Nat.zero_le _, Nat.zero_le _⟩ (fun H locs hP hD hS => ?_)
    refine lv_aload_n hx hb d_Cm_tries_146 rfl (lv_at hl 1 rfl) ?_
    obtain ⟨r24, g24, hf⟩ := bo_some hf
    refine xg_R (i := v0) (k := 2) hx hb ht hown ck_Cm hK hP (by decide) fk_Cm_43 g24 d_Cm_tries_147 ?_
    refine lv_aload_n hx hb d_Cm_tries_150 rfl (lv_at hl 1 rfl) ?_
    obtain ⟨r25, g25, hf⟩ := bo_some hf
    refine xg_I (i := v0) (k := 6) hx hb ht hown ck_Cm hK hP (by decide) fk_Cm_116 g25 d_Cm_tries_151 ?_
    refine lv_iload_n hx hb d_Cm_tries_154 rfl (lv_at hl 3 rfl) ?_
    refine lv_isub hx hb d_Cm_tries_155 ?_
    obtain ⟨j27, ej27, hf⟩ := bo_some hf
    rw [ej27]
    obtain ⟨hO9, hf⟩ := ck_some hf
    obtain ⟨u26, r26, hc26, hf⟩ := bx_some hf
    refine xV0 (i := j27) (As := [.int (r25 - v3)]) (rest := []) C0 hP hD hS ck_Co hO9 (c_Co_put N hc26) k_Co_put (wd_of 1149 (by decide +kernel) rfl) hi_Co_put hs_Co_put hini_Co rfl rfl hd_Co_put rfl rm_Cm_tries_Co_put hl.1 (Nat.le_of_ble_eq_true rfl) d_Cm_tries_156 rfl ⟨Nat.zero_le _, Nat.zero_le _⟩ (fun H locs hP hD hS => ?_)
    refine lv_aload_n hx hb d_Cm_tries_159 rfl (lv_at hl 1 rfl) ?_
    obtain ⟨r28, g28, hf⟩ := bo_some hf
    refine xg_R (i := v0) (k := 2) hx hb ht hown ck_Cm hK hP (by decide) fk_Cm_43 g28 d_Cm_tries_160 ?_
    refine lv_iload hx hb d_Cm_tries_163 (lv_at hl 4 rfl) ?_
    obtain ⟨j30, ej30, hf⟩ := bo_some hf
    rw [ej30]
    obtain ⟨hO9, hf⟩ := ck_some hf
    obtain ⟨u29, r29, hc29, hf⟩ := bx_some hf
    refine xV0 (i := j30) (As := [.int v4]) (rest := []) C0 hP hD hS ck_Co hO9 (c_Co_hook N hc29) k_Co_hook (wd_of 1153 (by decide +kernel) rfl) hi_Co_hook hs_Co_hook hini_Co rfl rfl hd_Co_hook rfl rm_Cm_tries_Co_hook hl.1 (Nat.le_of_ble_eq_true rfl) d_Cm_tries_165 rfl ⟨Nat.zero_le _, Nat.zero_le _⟩ (fun H locs hP hD hS => ?_)
    refine lv_istore (lv' := [(4, .int r29), (5, .int r19), (0, .ref (ad v0)), (2, .int v2), (3, .int v3)]) hx hb d_Cm_tries_168 hl (by decide) (by first | rfl | simp [List.filter, cat_rf]) (fun ls hl => ?_)
    refine lv_aload_n hx hb d_Cm_tries_170 rfl (lv_at hl 2 rfl) ?_
    obtain ⟨r31, g31, hf⟩ := bo_some hf
    refine xg_R (i := v0) (k := 1) hx hb ht hown ck_Cm hK hP (by decide) fk_Cm_39 g31 d_Cm_tries_171 ?_
    obtain ⟨j32, ej32, hf⟩ := bo_some hf
    rw [ej32]
    obtain ⟨r33, g33, hf⟩ := bo_some hf
    refine xg_R (i := j32) (k := 3) hx hb ht hown ck_Tr hK hP (by decide) fk_Cm_171 g33 d_Cm_tries_174 ?_
    refine lv_iload_n hx hb d_Cm_tries_177 rfl (lv_at hl 3 rfl) ?_
    obtain ⟨j34, ej34, hf⟩ := bo_some hf
    rw [ej34]
    obtain ⟨r35, g35, hf⟩ := bo_some hf
    refine xl_I (i := j34) hx hb hK hP g35 d_Cm_tries_178 ?_
    refine lv_istore (lv' := [(6, .int r35), (4, .int r29), (5, .int r19), (0, .ref (ad v0)), (2, .int v2), (3, .int v3)]) hx hb d_Cm_tries_179 hl (by decide) (by first | rfl | simp [List.filter, cat_rf]) (fun ls hl => ?_)
    exact hG.2 _ _ _ _ _ _ hf H locs hP hD hS ls (lv_sub hl [3, 1, 2, 0] rfl)
  · rw [br_p _ hc] at hf
    refine lv_iload hx hb d_Cm_tries_123 (lv_at hl 3 rfl) ?_
    exact xr0_i C0 hP hD hS hf d_Cm_tries_125
def fb_Cm_tries_71 (N : Nat) (S : SG_Cm_fun) (G : (CS → Nat → Int32 → Int32 → Int32 → Int32 → Option (CS × Int32)) × (CS → Nat → Int32 → Int32 → Int32 → Option (CS × Int32))) (u : CS) (v0 : Nat) (v2 : Int32) (v3 : Int32) (v4 : Int32) (v5 : Int32) : Option (CS × Int32) := br (decide (v5 = 0)) (bo (pF u v0 3 13 (.inl 0)) (fun w36 => bo (gR w36 v0 3 2) (fun r37 => bo r37 (fun j39 => ck (isO w36 j39 2) (bx (fm_Co_put N w36 j39 8) (fun u38 r38 => fb_Cm_tries_111 N S G u38 (v0) (v2) (v3) (v4))))))) (ck (isO u v0 3) (bx (fr_Cm_pattern N u v0 v5) (fun u40 r40 => bo (gR u40 v0 3 1) (fun r41 => bo r41 (fun j42 => bo (gR u40 j42 10 5) (fun r43 => bo r43 (fun j44 => bo (aI u40 j44 4 v5) (fun r45 => G.1 u40 (v0) (v2) (v3) (v4) (r45)))))))))
set_option maxRecDepth 100000 in
set_option maxHeartbeats 4000000 in
theorem wb_Cm_tries_71 {p : Program} {l : Launch} {e : Env} {s : State} {m : MethodId} {args : Array Value} {below : List Frame} {meth : Method} {c : Code} {s0 : State} {b0 : Nat} {D : va_G} {cB cI cJ cZ cS cP : ClassId} {A : Nat → Prop} {sk sv : Nat → Nat} {d : Nat} {ad : Nat → Nat} (C0 : XCx p s s0 b0 m args meth c R_Cm b_Cm_tries 7 (some .int) D cB cI cJ cZ cS cP A) (hE : ENV s0 b0 sk sv) (N : Nat) (S : SG_Cm_fun) (hSg : HS_Cm_fun l s0 b0 D cB cI cJ cZ cS cP d S) (G : (CS → Nat → Int32 → Int32 → Int32 → Int32 → Option (CS × Int32)) × (CS → Nat → Int32 → Int32 → Int32 → Option (CS × Int32))) (hG : (∀ (u : CS) (v0 : Nat) (v2 : Int32) (v3 : Int32) (v4 : Int32) (v5 : Int32) (x : CS × Int32), G.1 u v0 v2 v3 v4 v5 = some x → ∀ (H : Heap) (locs : List Loc), va_P D cls (wC cB cI cJ cZ cS cP ad u) H → va_D A (wC cB cI cJ cZ cS cP ad u) → va_S A s.heap H locs → ∀ (ls : Array Slot), lv_has ls 7 [(0, .ref (ad v0)), (2, .int v2), (3, .int v3), (4, .int v4), (5, .int v5)] → W p l e (rg_Cm_fun (d + 1)) s m args below meth c H locs 0 0 (MQ below (xQ0 D cB cI cJ cZ cS cP A ad x.1 (some (.inl x.2))) args s 0 0 A) (F0 m 71 ls [])) ∧ (∀ (u : CS) (v0 : Nat) (v4 : Int32) (v5 : Int32) (v6 : Int32) (x : CS × Int32), G.2 u v0 v4 v5 v6 = some x → ∀ (H : Heap) (locs : List Loc), va_P D cls (wC cB cI cJ cZ cS cP ad u) H → va_D A (wC cB cI cJ cZ cS cP ad u) → va_S A s.heap H locs → ∀ (ls : Array Slot), lv_has ls 7 [(0, .ref (ad v0)), (4, .int v4), (5, .int v5), (6, .int v6)] → W p l e (rg_Cm_fun (d + 1)) s m args below meth c H locs 0 0 (MQ below (xQ0 D cB cI cJ cZ cS cP A ad x.1 (some (.inl x.2))) args s 0 0 A) (F0 m 181 ls []))) : ∀ (u : CS) (v0 : Nat) (v2 : Int32) (v3 : Int32) (v4 : Int32) (v5 : Int32) (x : CS × Int32), fb_Cm_tries_71 N S G u v0 v2 v3 v4 v5 = some x → ∀ (H : Heap) (locs : List Loc), va_P D cls (wC cB cI cJ cZ cS cP ad u) H → va_D A (wC cB cI cJ cZ cS cP ad u) → va_S A s.heap H locs → ∀ (ls : Array Slot), lv_has ls 7 [(0, .ref (ad v0)), (2, .int v2), (3, .int v3), (4, .int v4), (5, .int v5)] → W p l e (rg_Cm_fun (d + 1)) s m args below meth c H locs 0 0 (MQ below (xQ0 D cB cI cJ cZ cS cP A ad x.1 (some (.inl x.2))) args s 0 0 A) (F0 m 71 ls []) := by
  intro u v0 v2 v3 v4 v5 x hf H locs hP hD hS ls hl
  obtain ⟨hx, hb, hr, hml, ht, hown, hK, hA, hlocks, hA0, hO, hbs⟩ := id C0
  unfold fb_Cm_tries_71 at hf
  refine lv_iload hx hb d_Cm_tries_71 (lv_at hl 4 rfl) ?_
  refine lv_if_eq (tgt := 97) hx hb d_Cm_tries_73 (by decide) (fun hc => ?_) (fun hc => ?_)
  · rw [br_p _ hc] at hf
    refine lv_aload_n hx hb d_Cm_tries_97 rfl (lv_at hl 0 rfl) ?_
    refine lv_iconst (v := 0) hx hb d_Cm_tries_98 (by decide) ?_
    obtain ⟨w36, g36, hf⟩ := bo_some hf
    refine xp (i := v0) (k := 13) (v := (.inl 0)) hx hb ht hown ck_Cm hK hP hD hS (by decide) fk_Cm_62 rfl g36 rfl rfl d_Cm_tries_99 (fun H locs hP hD hS => ?_)
    refine lv_aload_n hx hb d_Cm_tries_102 rfl (lv_at hl 0 rfl) ?_
    obtain ⟨r37, g37, hf⟩ := bo_some hf
    refine xg_R (i := v0) (k := 2) hx hb ht hown ck_Cm hK hP (by decide) fk_Cm_43 g37 d_Cm_tries_103 ?_
    refine lv_bipush (v := 8) hx hb d_Cm_tries_106 (by decide) ?_
    obtain ⟨j39, ej39, hf⟩ := bo_some hf
    rw [ej39]
    obtain ⟨hO9, hf⟩ := ck_some hf
    obtain ⟨u38, r38, hc38, hf⟩ := bx_some hf
    refine xV0 (i := j39) (As := [.int 8]) (rest := []) C0 hP hD hS ck_Co hO9 (c_Co_put N hc38) k_Co_put (wd_of 1149 (by decide +kernel) rfl) hi_Co_put hs_Co_put hini_Co rfl rfl hd_Co_put rfl rm_Cm_tries_Co_put hl.1 (Nat.le_of_ble_eq_true rfl) d_Cm_tries_108 rfl ⟨Nat.zero_le _, Nat.zero_le _⟩ (fun H locs hP hD hS => ?_)
    exact wb_Cm_tries_111 C0 hE N S hSg G hG _ _ _ _ _ _ hf H locs hP hD hS ls (lv_sub hl [0, 1, 2, 3] rfl)
  · rw [br_n _ hc] at hf
    refine lv_aload_n hx hb d_Cm_tries_76 rfl (lv_at hl 0 rfl) ?_
    refine lv_iload hx hb d_Cm_tries_77 (lv_at hl 4 rfl) ?_
    obtain ⟨hO9, hf⟩ := ck_some hf
    obtain ⟨u40, r40, hc40, hf⟩ := bx_some hf
    refine xV0 (i := v0) (As := [.int v5]) (rest := []) C0 hP hD hS ck_Cm hO9 (c_Cm_pattern N hE hc40) k_Cm_pattern (wd_of 1158 (by decide +kernel) rfl) hi_Cm_pattern hs_Cm_pattern hini_Cm rfl rfl hd_Cm_pattern rfl rm_Cm_tries_Cm_pattern hl.1 (Nat.le_of_ble_eq_true rfl) d_Cm_tries_79 rfl ⟨Nat.zero_le _, Nat.zero_le _⟩ (fun H locs hP hD hS => ?_)
    refine lv_aload_n hx hb d_Cm_tries_82 rfl (lv_at hl 0 rfl) ?_
    obtain ⟨r41, g41, hf⟩ := bo_some hf
    refine xg_R (i := v0) (k := 1) hx hb ht hown ck_Cm hK hP (by decide) fk_Cm_39 g41 d_Cm_tries_83 ?_
    obtain ⟨j42, ej42, hf⟩ := bo_some hf
    rw [ej42]
    obtain ⟨r43, g43, hf⟩ := bo_some hf
    refine xg_R (i := j42) (k := 5) hx hb ht hown ck_Tr hK hP (by decide) fk_Cm_139 g43 d_Cm_tries_86 ?_
    refine lv_iload hx hb d_Cm_tries_89 (lv_at hl 4 rfl) ?_
    obtain ⟨j44, ej44, hf⟩ := bo_some hf
    rw [ej44]
    obtain ⟨r45, g45, hf⟩ := bo_some hf
    refine xl_I (i := j44) hx hb hK hP g45 d_Cm_tries_91 ?_
    refine lv_istore (lv' := [(5, .int r45), (0, .ref (ad v0)), (2, .int v2), (3, .int v3), (4, .int v4)]) hx hb d_Cm_tries_92 hl (by decide) (by first | rfl | simp [List.filter, cat_rf]) (fun ls hl => ?_)
    refine lv_goto (tgt := 71) hx hb d_Cm_tries_94 (by decide) ?_
    exact hG.1 _ _ _ _ _ _ _ hf H locs hP hD hS ls (lv_sub hl [1, 2, 3, 4, 0] rfl)
def fb_Cm_tries_57 (N : Nat) (S : SG_Cm_fun) (G : (CS → Nat → Int32 → Int32 → Int32 → Int32 → Option (CS × Int32)) × (CS → Nat → Int32 → Int32 → Int32 → Option (CS × Int32))) (u : CS) (v0 : Nat) (v2 : Int32) (v3 : Int32) (v4 : Int32) (t0 : Nat) (t1 : Int32) : Option (CS × Int32) := ck (isb t1) (bo (pF u t0 3 13 (.inl t1)) (fun w46 => bo (gR w46 v0 3 1) (fun r47 => bo r47 (fun j48 => bo (gR w46 j48 10 2) (fun r49 => bo r49 (fun j50 => bo (aI w46 j50 4 v2) (fun r51 => G.1 w46 (v0) (v2) (v3) (v4) (r51))))))))
set_option maxRecDepth 100000 in
set_option maxHeartbeats 4000000 in
theorem wb_Cm_tries_57 {p : Program} {l : Launch} {e : Env} {s : State} {m : MethodId} {args : Array Value} {below : List Frame} {meth : Method} {c : Code} {s0 : State} {b0 : Nat} {D : va_G} {cB cI cJ cZ cS cP : ClassId} {A : Nat → Prop} {sk sv : Nat → Nat} {d : Nat} {ad : Nat → Nat} (C0 : XCx p s s0 b0 m args meth c R_Cm b_Cm_tries 7 (some .int) D cB cI cJ cZ cS cP A) (hE : ENV s0 b0 sk sv) (N : Nat) (S : SG_Cm_fun) (hSg : HS_Cm_fun l s0 b0 D cB cI cJ cZ cS cP d S) (G : (CS → Nat → Int32 → Int32 → Int32 → Int32 → Option (CS × Int32)) × (CS → Nat → Int32 → Int32 → Int32 → Option (CS × Int32))) (hG : (∀ (u : CS) (v0 : Nat) (v2 : Int32) (v3 : Int32) (v4 : Int32) (v5 : Int32) (x : CS × Int32), G.1 u v0 v2 v3 v4 v5 = some x → ∀ (H : Heap) (locs : List Loc), va_P D cls (wC cB cI cJ cZ cS cP ad u) H → va_D A (wC cB cI cJ cZ cS cP ad u) → va_S A s.heap H locs → ∀ (ls : Array Slot), lv_has ls 7 [(0, .ref (ad v0)), (2, .int v2), (3, .int v3), (4, .int v4), (5, .int v5)] → W p l e (rg_Cm_fun (d + 1)) s m args below meth c H locs 0 0 (MQ below (xQ0 D cB cI cJ cZ cS cP A ad x.1 (some (.inl x.2))) args s 0 0 A) (F0 m 71 ls [])) ∧ (∀ (u : CS) (v0 : Nat) (v4 : Int32) (v5 : Int32) (v6 : Int32) (x : CS × Int32), G.2 u v0 v4 v5 v6 = some x → ∀ (H : Heap) (locs : List Loc), va_P D cls (wC cB cI cJ cZ cS cP ad u) H → va_D A (wC cB cI cJ cZ cS cP ad u) → va_S A s.heap H locs → ∀ (ls : Array Slot), lv_has ls 7 [(0, .ref (ad v0)), (4, .int v4), (5, .int v5), (6, .int v6)] → W p l e (rg_Cm_fun (d + 1)) s m args below meth c H locs 0 0 (MQ below (xQ0 D cB cI cJ cZ cS cP A ad x.1 (some (.inl x.2))) args s 0 0 A) (F0 m 181 ls []))) : ∀ (u : CS) (v0 : Nat) (v2 : Int32) (v3 : Int32) (v4 : Int32) (t0 : Nat) (t1 : Int32) (x : CS × Int32), fb_Cm_tries_57 N S G u v0 v2 v3 v4 t0 t1 = some x → ∀ (H : Heap) (locs : List Loc), va_P D cls (wC cB cI cJ cZ cS cP ad u) H → va_D A (wC cB cI cJ cZ cS cP ad u) → va_S A s.heap H locs → ∀ (ls : Array Slot), lv_has ls 7 [(0, .ref (ad v0)), (2, .int v2), (3, .int v3), (4, .int v4)] → W p l e (rg_Cm_fun (d + 1)) s m args below meth c H locs 0 0 (MQ below (xQ0 D cB cI cJ cZ cS cP A ad x.1 (some (.inl x.2))) args s 0 0 A) (F0 m 57 ls [.int t1, .ref (ad t0)]) := by
  intro u v0 v2 v3 v4 t0 t1 x hf H locs hP hD hS ls hl
  obtain ⟨hx, hb, hr, hml, ht, hown, hK, hA, hlocks, hA0, hO, hbs⟩ := id C0
  unfold fb_Cm_tries_57 at hf
  obtain ⟨hz, hf⟩ := ck_some hf
  obtain ⟨w46, g46, hf⟩ := bo_some hf
  refine xp (i := t0) (k := 13) (v := (.inl t1)) hx hb ht hown ck_Cm hK hP hD hS (by decide) fk_Cm_62 rfl g46 (isb_n hz) (isb_f hz) d_Cm_tries_57 (fun H locs hP hD hS => ?_)
  refine lv_aload_n hx hb d_Cm_tries_60 rfl (lv_at hl 0 rfl) ?_
  obtain ⟨r47, g47, hf⟩ := bo_some hf
  refine xg_R (i := v0) (k := 1) hx hb ht hown ck_Cm hK hP (by decide) fk_Cm_39 g47 d_Cm_tries_61 ?_
  obtain ⟨j48, ej48, hf⟩ := bo_some hf
  rw [ej48]
  obtain ⟨r49, g49, hf⟩ := bo_some hf
  refine xg_R (i := j48) (k := 2) hx hb ht hown ck_Tr hK hP (by decide) fk_Cm_125 g49 d_Cm_tries_64 ?_
  refine lv_iload_n hx hb d_Cm_tries_67 rfl (lv_at hl 1 rfl) ?_
  obtain ⟨j50, ej50, hf⟩ := bo_some hf
  rw [ej50]
  obtain ⟨r51, g51, hf⟩ := bo_some hf
  refine xl_I (i := j50) hx hb hK hP g51 d_Cm_tries_68 ?_
  refine lv_istore (lv' := [(5, .int r51), (0, .ref (ad v0)), (2, .int v2), (3, .int v3), (4, .int v4)]) hx hb d_Cm_tries_69 hl (by decide) (by first | rfl | simp [List.filter, cat_rf]) (fun ls hl => ?_)
  exact hG.1 _ _ _ _ _ _ _ hf H locs hP hD hS ls (lv_sub hl [1, 2, 3, 4, 0] rfl)
def fb_Cm_tries_0 (N : Nat) (S : SG_Cm_fun) (G : (CS → Nat → Int32 → Int32 → Int32 → Int32 → Option (CS × Int32)) × (CS → Nat → Int32 → Int32 → Int32 → Option (CS × Int32))) (u : CS) (v0 : Nat) (v1 : Int32) (v2 : Int32) : Option (CS × Int32) := bo (gI u v0 3 6) (fun r52 => bo (gR u v0 3 1) (fun r53 => bo r53 (fun j54 => bo (gR u j54 10 2) (fun r55 => bo r55 (fun j56 => bo (aI u j56 4 v2) (fun r57 => br (decide (r57 = 0)) (fb_Cm_tries_111 N S G u (v0) (v2) (r52) (0)) (bo (gR u v0 3 2) (fun r58 => bo r58 (fun j60 => ck (isO u j60 2) (bx (fm_Co_put N u j60 19) (fun u59 r59 => bo (gR u59 v0 3 2) (fun r61 => bo r61 (fun j63 => ck (isO u59 j63 2) (bx (fm_Co_put N u59 j63 v1) (fun u62 r62 => bo (gR u62 v0 3 2) (fun r64 => bo r64 (fun j66 => ck (isO u62 j66 2) (bx (fm_Co_hook N u62 j66 0) (fun u65 r65 => br (decide (v1 < 0)) (fb_Cm_tries_57 N S G u65 (v0) (v2) (r52) (r65) (v0) (0)) (fb_Cm_tries_57 N S G u65 (v0) (v2) (r52) (r65) (v0) (1)))))))))))))))))))))
set_option maxRecDepth 100000 in
set_option maxHeartbeats 4000000 in
theorem wb_Cm_tries_0 {p : Program} {l : Launch} {e : Env} {s : State} {m : MethodId} {args : Array Value} {below : List Frame} {meth : Method} {c : Code} {s0 : State} {b0 : Nat} {D : va_G} {cB cI cJ cZ cS cP : ClassId} {A : Nat → Prop} {sk sv : Nat → Nat} {d : Nat} {ad : Nat → Nat} (C0 : XCx p s s0 b0 m args meth c R_Cm b_Cm_tries 7 (some .int) D cB cI cJ cZ cS cP A) (hE : ENV s0 b0 sk sv) (N : Nat) (S : SG_Cm_fun) (hSg : HS_Cm_fun l s0 b0 D cB cI cJ cZ cS cP d S) (G : (CS → Nat → Int32 → Int32 → Int32 → Int32 → Option (CS × Int32)) × (CS → Nat → Int32 → Int32 → Int32 → Option (CS × Int32))) (hG : (∀ (u : CS) (v0 : Nat) (v2 : Int32) (v3 : Int32) (v4 : Int32) (v5 : Int32) (x : CS × Int32), G.1 u v0 v2 v3 v4 v5 = some x → ∀ (H : Heap) (locs : List Loc), va_P D cls (wC cB cI cJ cZ cS cP ad u) H → va_D A (wC cB cI cJ cZ cS cP ad u) → va_S A s.heap H locs → ∀ (ls : Array Slot), lv_has ls 7 [(0, .ref (ad v0)), (2, .int v2), (3, .int v3), (4, .int v4), (5, .int v5)] → W p l e (rg_Cm_fun (d + 1)) s m args below meth c H locs 0 0 (MQ below (xQ0 D cB cI cJ cZ cS cP A ad x.1 (some (.inl x.2))) args s 0 0 A) (F0 m 71 ls [])) ∧ (∀ (u : CS) (v0 : Nat) (v4 : Int32) (v5 : Int32) (v6 : Int32) (x : CS × Int32), G.2 u v0 v4 v5 v6 = some x → ∀ (H : Heap) (locs : List Loc), va_P D cls (wC cB cI cJ cZ cS cP ad u) H → va_D A (wC cB cI cJ cZ cS cP ad u) → va_S A s.heap H locs → ∀ (ls : Array Slot), lv_has ls 7 [(0, .ref (ad v0)), (4, .int v4), (5, .int v5), (6, .int v6)] → W p l e (rg_Cm_fun (d + 1)) s m args below meth c H locs 0 0 (MQ below (xQ0 D cB cI cJ cZ cS cP A ad x.1 (some (.inl x.2))) args s 0 0 A) (F0 m 181 ls []))) : ∀ (u : CS) (v0 : Nat) (v1 : Int32) (v2 : Int32) (x : CS × Int32), fb_Cm_tries_0 N S G u v0 v1 v2 = some x → ∀ (H : Heap) (locs : List Loc), va_P D cls (wC cB cI cJ cZ cS cP ad u) H → va_D A (wC cB cI cJ cZ cS cP ad u) → va_S A s.heap H locs → ∀ (ls : Array Slot), lv_has ls 7 [(0, .ref (ad v0)), (1, .int v1), (2, .int v2)] → W p l e (rg_Cm_fun (d + 1)) s m args below meth c H locs 0 0 (MQ below (xQ0 D cB cI cJ cZ cS cP A ad x.1 (some (.inl x.2))) args s 0 0 A) (F0 m 0 ls []) := by
  intro u v0 v1 v2 x hf H locs hP hD hS ls hl
  obtain ⟨hx, hb, hr, hml, ht, hown, hK, hA, hlocks, hA0, hO, hbs⟩ := id C0
  unfold fb_Cm_tries_0 at hf
  refine lv_aload_n hx hb d_Cm_tries_0 rfl (lv_at hl 0 rfl) ?_
  obtain ⟨r52, g52, hf⟩ := bo_some hf
  refine xg_I (i := v0) (k := 6) hx hb ht hown ck_Cm hK hP (by decide) fk_Cm_116 g52 d_Cm_tries_1 ?_
  refine lv_istore_n (lv' := [(3, .int r52), (0, .ref (ad v0)), (1, .int v1), (2, .int v2)]) hx hb d_Cm_tries_4 rfl hl (by decide) (by first | rfl | simp [List.filter, cat_rf]) (fun ls hl => ?_)
  refine lv_iconst (v := 0) hx hb d_Cm_tries_5 (by decide) ?_
  refine lv_istore (lv' := [(4, .int 0), (3, .int r52), (0, .ref (ad v0)), (1, .int v1), (2, .int v2)]) hx hb d_Cm_tries_6 hl (by decide) (by first | rfl | simp [List.filter, cat_rf]) (fun ls hl => ?_)
  refine lv_aload_n hx hb d_Cm_tries_8 rfl (lv_at hl 2 rfl) ?_
  obtain ⟨r53, g53, hf⟩ := bo_some hf
  refine xg_R (i := v0) (k := 1) hx hb ht hown ck_Cm hK hP (by decide) fk_Cm_39 g53 d_Cm_tries_9 ?_
  obtain ⟨j54, ej54, hf⟩ := bo_some hf
  rw [ej54]
  obtain ⟨r55, g55, hf⟩ := bo_some hf
  refine xg_R (i := j54) (k := 2) hx hb ht hown ck_Tr hK hP (by decide) fk_Cm_125 g55 d_Cm_tries_12 ?_
  refine lv_iload_n hx hb d_Cm_tries_15 rfl (lv_at hl 4 rfl) ?_
  obtain ⟨j56, ej56, hf⟩ := bo_some hf
  rw [ej56]
  obtain ⟨r57, g57, hf⟩ := bo_some hf
  refine xl_I (i := j56) hx hb hK hP g57 d_Cm_tries_16 ?_
  refine lv_if_eq (tgt := 111) hx hb d_Cm_tries_17 (by decide) (fun hc => ?_) (fun hc => ?_)
  · rw [br_p _ hc] at hf
    exact wb_Cm_tries_111 C0 hE N S hSg G hG _ _ _ _ _ _ hf H locs hP hD hS ls (lv_sub hl [2, 4, 1, 0] rfl)
  · rw [br_n _ hc] at hf
    refine lv_aload_n hx hb d_Cm_tries_20 rfl (lv_at hl 2 rfl) ?_
    obtain ⟨r58, g58, hf⟩ := bo_some hf
    refine xg_R (i := v0) (k := 2) hx hb ht hown ck_Cm hK hP (by decide) fk_Cm_43 g58 d_Cm_tries_21 ?_
    refine lv_bipush (v := 19) hx hb d_Cm_tries_24 (by decide) ?_
    obtain ⟨j60, ej60, hf⟩ := bo_some hf
    rw [ej60]
    obtain ⟨hO9, hf⟩ := ck_some hf
    obtain ⟨u59, r59, hc59, hf⟩ := bx_some hf
    refine xV0 (i := j60) (As := [.int 19]) (rest := []) C0 hP hD hS ck_Co hO9 (c_Co_put N hc59) k_Co_put (wd_of 1149 (by decide +kernel) rfl) hi_Co_put hs_Co_put hini_Co rfl rfl hd_Co_put rfl rm_Cm_tries_Co_put hl.1 (Nat.le_of_ble_eq_true rfl) d_Cm_tries_26 rfl ⟨Nat.zero_le _, Nat.zero_le _⟩ (fun H locs hP hD hS => ?_)
    refine lv_aload_n hx hb d_Cm_tries_29 rfl (lv_at hl 2 rfl) ?_
    obtain ⟨r61, g61, hf⟩ := bo_some hf
    refine xg_R (i := v0) (k := 2) hx hb ht hown ck_Cm hK hP (by decide) fk_Cm_43 g61 d_Cm_tries_30 ?_
    refine lv_iload_n hx hb d_Cm_tries_33 rfl (lv_at hl 3 rfl) ?_
    obtain ⟨j63, ej63, hf⟩ := bo_some hf
    rw [ej63]
    obtain ⟨hO9, hf⟩ := ck_some hf
    obtain ⟨u62, r62, hc62, hf⟩ := bx_some hf
    refine xV0 (i := j63) (As := [.int v1]) (rest := []) C0 hP hD hS ck_Co hO9 (c_Co_put N hc62) k_Co_put (wd_of 1149 (by decide +kernel) rfl) hi_Co_put hs_Co_put hini_Co rfl rfl hd_Co_put rfl rm_Cm_tries_Co_put hl.1 (Nat.le_of_ble_eq_true rfl) d_Cm_tries_34 rfl ⟨Nat.zero_le _, Nat.zero_le _⟩ (fun H locs hP hD hS => ?_)
    refine lv_aload_n hx hb d_Cm_tries_37 rfl (lv_at hl 2 rfl) ?_
    obtain ⟨r64, g64, hf⟩ := bo_some hf
    refine xg_R (i := v0) (k := 2) hx hb ht hown ck_Cm hK hP (by decide) fk_Cm_43 g64 d_Cm_tries_38 ?_
    refine lv_iconst (v := 0) hx hb d_Cm_tries_41 (by decide) ?_
    obtain ⟨j66, ej66, hf⟩ := bo_some hf
    rw [ej66]
    obtain ⟨hO9, hf⟩ := ck_some hf
    obtain ⟨u65, r65, hc65, hf⟩ := bx_some hf
    refine xV0 (i := j66) (As := [.int 0]) (rest := []) C0 hP hD hS ck_Co hO9 (c_Co_hook N hc65) k_Co_hook (wd_of 1153 (by decide +kernel) rfl) hi_Co_hook hs_Co_hook hini_Co rfl rfl hd_Co_hook rfl rm_Cm_tries_Co_hook hl.1 (Nat.le_of_ble_eq_true rfl) d_Cm_tries_42 rfl ⟨Nat.zero_le _, Nat.zero_le _⟩ (fun H locs hP hD hS => ?_)
    refine lv_istore (lv' := [(4, .int r65), (3, .int r52), (0, .ref (ad v0)), (1, .int v1), (2, .int v2)]) hx hb d_Cm_tries_45 hl (by decide) (by first | rfl | simp [List.filter, cat_rf]) (fun ls hl => ?_)
    refine lv_aload_n hx hb d_Cm_tries_47 rfl (lv_at hl 2 rfl) ?_
    refine lv_iload_n hx hb d_Cm_tries_48 rfl (lv_at hl 3 rfl) ?_
    refine lv_if_lt (tgt := 56) hx hb d_Cm_tries_49 (by decide) (fun hc => ?_) (fun hc => ?_)
    · rw [br_p _ hc] at hf
      refine lv_iconst (v := 0) hx hb d_Cm_tries_56 (by decide) ?_
      exact wb_Cm_tries_57 C0 hE N S hSg G hG _ _ _ _ _ _ _ _ hf H locs hP hD hS ls (lv_sub hl [2, 4, 1, 0] rfl)
    · rw [br_n _ hc] at hf
      refine lv_iconst (v := 1) hx hb d_Cm_tries_52 (by decide) ?_
      refine lv_goto (tgt := 57) hx hb d_Cm_tries_53 (by decide) ?_
      exact wb_Cm_tries_57 C0 hE N S hSg G hG _ _ _ _ _ _ _ _ hf H locs hP hD hS ls (lv_sub hl [2, 4, 1, 0] rfl)
def gg_Cm_tries (N : Nat) (S : SG_Cm_fun) : Nat → ((CS → Nat → Int32 → Int32 → Int32 → Int32 → Option (CS × Int32)) × (CS → Nat → Int32 → Int32 → Int32 → Option (CS × Int32)))
  | 0 => (fun _ _ _ _ _ _ => none, fun _ _ _ _ _ => none)
  | n + 1 => (fb_Cm_tries_71 N S (gg_Cm_tries N S n), fb_Cm_tries_181 N S (gg_Cm_tries N S n))
theorem wg_Cm_tries {p : Program} {l : Launch} {e : Env} {s : State} {m : MethodId} {args : Array Value} {below : List Frame} {meth : Method} {c : Code} {s0 : State} {b0 : Nat} {D : va_G} {cB cI cJ cZ cS cP : ClassId} {A : Nat → Prop} {sk sv : Nat → Nat} {d : Nat} {ad : Nat → Nat} (C0 : XCx p s s0 b0 m args meth c R_Cm b_Cm_tries 7 (some .int) D cB cI cJ cZ cS cP A) (hE : ENV s0 b0 sk sv) (N : Nat) (S : SG_Cm_fun) (hSg : HS_Cm_fun l s0 b0 D cB cI cJ cZ cS cP d S) : ∀ n : Nat, (∀ (u : CS) (v0 : Nat) (v2 : Int32) (v3 : Int32) (v4 : Int32) (v5 : Int32) (x : CS × Int32), (gg_Cm_tries N S n).1 u v0 v2 v3 v4 v5 = some x → ∀ (H : Heap) (locs : List Loc), va_P D cls (wC cB cI cJ cZ cS cP ad u) H → va_D A (wC cB cI cJ cZ cS cP ad u) → va_S A s.heap H locs → ∀ (ls : Array Slot), lv_has ls 7 [(0, .ref (ad v0)), (2, .int v2), (3, .int v3), (4, .int v4), (5, .int v5)] → W p l e (rg_Cm_fun (d + 1)) s m args below meth c H locs 0 0 (MQ below (xQ0 D cB cI cJ cZ cS cP A ad x.1 (some (.inl x.2))) args s 0 0 A) (F0 m 71 ls [])) ∧ (∀ (u : CS) (v0 : Nat) (v4 : Int32) (v5 : Int32) (v6 : Int32) (x : CS × Int32), (gg_Cm_tries N S n).2 u v0 v4 v5 v6 = some x → ∀ (H : Heap) (locs : List Loc), va_P D cls (wC cB cI cJ cZ cS cP ad u) H → va_D A (wC cB cI cJ cZ cS cP ad u) → va_S A s.heap H locs → ∀ (ls : Array Slot), lv_has ls 7 [(0, .ref (ad v0)), (4, .int v4), (5, .int v5), (6, .int v6)] → W p l e (rg_Cm_fun (d + 1)) s m args below meth c H locs 0 0 (MQ below (xQ0 D cB cI cJ cZ cS cP A ad x.1 (some (.inl x.2))) args s 0 0 A) (F0 m 181 ls []))
  | 0 => ⟨(fun u v0 v2 v3 v4 v5 x hf => by cases hf), (fun u v0 v4 v5 v6 x hf => by cases hf)⟩
  | n + 1 => ⟨wb_Cm_tries_71 C0 hE N S hSg (gg_Cm_tries N S n) (wg_Cm_tries C0 hE N S hSg n), wb_Cm_tries_181 C0 hE N S hSg (gg_Cm_tries N S n) (wg_Cm_tries C0 hE N S hSg n)⟩
def fm_Cm_tries (N : Nat) (S : SG_Cm_fun) (u : CS) (v0 : Nat) (v1 : Int32) (v2 : Int32) : Option (CS × Int32) := fb_Cm_tries_0 N S (gg_Cm_tries N S N) u v0 v1 v2
set_option maxRecDepth 100000 in
set_option maxHeartbeats 4000000 in
theorem cs_Cm_tries (N : Nat) {d : Nat} {l : Launch} {s0 : State} {b0 : Nat} {D : va_G} {cB cI cJ cZ cS cP : ClassId} {sk sv : Nat → Nat} {ad : Nat → Nat} {u : CS} {sz : Nat} {v0 : Nat} {v1 : Int32} {v2 : Int32} {x : CS × Int32} (hE : ENV s0 b0 sk sv) (S : SG_Cm_fun) (hSg : HS_Cm_fun l s0 b0 D cB cI cJ cZ cS cP d S) (hf : fm_Cm_tries N S u v0 v1 v2 = some x) : Met l y_Cm_tries (wd_ws y_Cm_tries b_Cm_tries 7 (some .int)) (rg_Cm_fun (d + 1)) (xPc s0 b0 D cB cI cJ cZ cS cP ad u sz [.ref (ad v0), .int v1, .int v2]) (xQ0 D cB cI cJ cZ cS cP (xA cB cI cJ cZ cS cP ad u sz) ad x.1 (some (.inl x.2))) 0 0 (xA cB cI cJ cZ cS cP ad u sz) :=
  xMet (by decide) rfl (Nat.le_of_ble_eq_true rfl) (fun p e s m below meth c ls hsz hnm C0 hP hD hS hl =>
    wb_Cm_tries_0 C0 hE N S hSg (gg_Cm_tries N S N) (wg_Cm_tries C0 hE N S hSg N) u _ _ _ x hf s.heap [] hP hD hS ls (lv_sub hl [0, 1, 2] rfl))
theorem rm_Cm_clause_Co_put {d : Nat} : (rm_Co_put).frames + 1 ≤ (rg_Cm_fun (d + 1)).frames ∧ 8 + (2 + 11) + (rm_Co_put).locals ≤ (rg_Cm_fun (d + 1)).locals := by
  show 0 + 1 ≤ 304 + (d + 1) ∧ 8 + (2 + 11) + 0 ≤ 6688 + 28 * (d + 1)
  omega
theorem rm_Cm_clause_Co_arrive {d : Nat} : (rm_Co_arrive).frames + 1 ≤ (rg_Cm_fun (d + 1)).frames ∧ 8 + (5 + 11) + (rm_Co_arrive).locals ≤ (rg_Cm_fun (d + 1)).locals := by
  show 1 + 1 ≤ 304 + (d + 1) ∧ 8 + (5 + 11) + 22 ≤ 6688 + 28 * (d + 1)
  omega
theorem rm_Cm_clause_Cm_tries {d : Nat} : (rg_Cm_fun d).frames + 1 ≤ (rg_Cm_fun (d + 1)).frames ∧ 8 + (7 + 11) + (rg_Cm_fun d).locals ≤ (rg_Cm_fun (d + 1)).locals := by
  show 304 + d + 1 ≤ 304 + (d + 1) ∧ 8 + (7 + 11) + (6688 + 28 * d) ≤ 6688 + 28 * (d + 1)
  omega
theorem rm_Cm_clause_Cm_body {d : Nat} : (rg_Cm_fun d).frames + 1 ≤ (rg_Cm_fun (d + 1)).frames ∧ 8 + (5 + 11) + (rg_Cm_fun d).locals ≤ (rg_Cm_fun (d + 1)).locals := by
  show 304 + d + 1 ≤ 304 + (d + 1) ∧ 8 + (5 + 11) + (6688 + 28 * d) ≤ 6688 + 28 * (d + 1)
  omega
def fb_Cm_clause_0 (N : Nat) (S : SG_Cm_fun) (G : Unit) (u : CS) (v0 : Nat) (v1 : Int32) (v2 : Int32) (v3 : Int32) : Option (CS × Unit) := bo (gI u v0 3 6) (fun r1 => ck (isO u v0 3) (bx (S.2.2.2.2.2.2.2.2.2.2.2.1 u v0 v2 v1) (fun u2 r2 => bo (gR u2 v0 3 2) (fun r3 => bo r3 (fun j5 => ck (isO u2 j5 2) (bx (fm_Co_put N u2 j5 24) (fun u4 r4 => bo (gR u4 v0 3 2) (fun r6 => bo r6 (fun j8 => ck (isO u4 j8 2) (bx (fm_Co_put N u4 j8 v2) (fun u7 r7 => bo (gR u7 v0 3 2) (fun r9 => bo r9 (fun j11 => ck (isO u7 j11 2) (bx (fm_Co_put N u7 j11 v3) (fun u10 r10 => bo (gR u10 v0 3 1) (fun r12 => bo r12 (fun j13 => bo (gR u10 j13 10 4) (fun r14 => bo r14 (fun j15 => bo (aI u10 j15 4 v1) (fun r16 => ck (isO u10 v0 3) (bx (S.2.2.2.1 u10 v0 r16 1) (fun u17 r17 => bo (gR u17 v0 3 2) (fun r18 => bo r18 (fun j20 => ck (isO u17 j20 2) (bx (fm_Co_put N u17 j20 35) (fun u19 r19 => bo (pF u19 v0 3 6 (.inl r1)) (fun w21 => bo (gR w21 v0 3 2) (fun r22 => bo r22 (fun j24 => ck (isO w21 j24 2) (bx (fm_Co_arrive N w21 j24 r2) (fun u23 r23 => some (u23, ()))))))))))))))))))))))))))))))))
set_option maxRecDepth 100000 in
set_option maxHeartbeats 4000000 in
theorem wb_Cm_clause_0 {p : Program} {l : Launch} {e : Env} {s : State} {m : MethodId} {args : Array Value} {below : List Frame} {meth : Method} {c : Code} {s0 : State} {b0 : Nat} {D : va_G} {cB cI cJ cZ cS cP : ClassId} {A : Nat → Prop} {sk sv : Nat → Nat} {d : Nat} {ad : Nat → Nat} (C0 : XCx p s s0 b0 m args meth c R_Cm b_Cm_clause 6 none D cB cI cJ cZ cS cP A) (hE : ENV s0 b0 sk sv) (N : Nat) (S : SG_Cm_fun) (hSg : HS_Cm_fun l s0 b0 D cB cI cJ cZ cS cP d S) (G : Unit) (hG : True) : ∀ (u : CS) (v0 : Nat) (v1 : Int32) (v2 : Int32) (v3 : Int32) (x : CS × Unit), fb_Cm_clause_0 N S G u v0 v1 v2 v3 = some x → ∀ (H : Heap) (locs : List Loc), va_P D cls (wC cB cI cJ cZ cS cP ad u) H → va_D A (wC cB cI cJ cZ cS cP ad u) → va_S A s.heap H locs → ∀ (ls : Array Slot), lv_has ls 6 [(0, .ref (ad v0)), (1, .int v1), (2, .int v2), (3, .int v3)] → W p l e (rg_Cm_fun (d + 1)) s m args below meth c H locs 0 0 (MQ below (xQ0 D cB cI cJ cZ cS cP A ad x.1 none) args s 0 0 A) (F0 m 0 ls []) := by
  intro u v0 v1 v2 v3 x hf H locs hP hD hS ls hl
  obtain ⟨hx, hb, hr, hml, ht, hown, hK, hA, hlocks, hA0, hO, hbs⟩ := id C0
  unfold fb_Cm_clause_0 at hf
  refine lv_aload_n hx hb d_Cm_clause_0 rfl (lv_at hl 0 rfl) ?_
  obtain ⟨r1, g1, hf⟩ := bo_some hf
  refine xg_I (i := v0) (k := 6) hx hb ht hown ck_Cm hK hP (by decide) fk_Cm_116 g1 d_Cm_clause_1 ?_
  refine lv_istore (lv' := [(4, .int r1), (0, .ref (ad v0)), (1, .int v1), (2, .int v2), (3, .int v3)]) hx hb d_Cm_clause_4 hl (by decide) (by first | rfl | simp [List.filter, cat_rf]) (fun ls hl => ?_)
  refine lv_aload_n hx hb d_Cm_clause_6 rfl (lv_at hl 1 rfl) ?_
  refine lv_iload_n hx hb d_Cm_clause_7 rfl (lv_at hl 3 rfl) ?_
  refine lv_iload_n hx hb d_Cm_clause_8 rfl (lv_at hl 2 rfl) ?_
  obtain ⟨hO9, hf⟩ := ck_some hf
  obtain ⟨u2, r2, hc2, hf⟩ := bx_some hf
  refine xV0 (i := v0) (As := [.int v2, .int v1]) (rest := []) C0 hP hD hS ck_Cm hO9 (hSg.2.2.2.2.2.2.2.2.2.2.2.1 _ _ _ _ _ _ _ hc2) k_Cm_tries (wd_of 1145 (by decide +kernel) rfl) hi_Cm_tries hs_Cm_tries hini_Cm rfl rfl hd_Cm_tries rfl rm_Cm_clause_Cm_tries hl.1 (Nat.le_of_ble_eq_true rfl) d_Cm_clause_9 rfl ⟨Nat.zero_le _, Nat.zero_le _⟩ (fun H locs hP hD hS => ?_)
  refine lv_istore (lv' := [(5, .int r2), (4, .int r1), (0, .ref (ad v0)), (1, .int v1), (2, .int v2), (3, .int v3)]) hx hb d_Cm_clause_12 hl (by decide) (by first | rfl | simp [List.filter, cat_rf]) (fun ls hl => ?_)
  refine lv_aload_n hx hb d_Cm_clause_14 rfl (lv_at hl 2 rfl) ?_
  obtain ⟨r3, g3, hf⟩ := bo_some hf
  refine xg_R (i := v0) (k := 2) hx hb ht hown ck_Cm hK hP (by decide) fk_Cm_43 g3 d_Cm_clause_15 ?_
  refine lv_bipush (v := 24) hx hb d_Cm_clause_18 (by decide) ?_
  obtain ⟨j5, ej5, hf⟩ := bo_some hf
  rw [ej5]
  obtain ⟨hO9, hf⟩ := ck_some hf
  obtain ⟨u4, r4, hc4, hf⟩ := bx_some hf
  refine xV0 (i := j5) (As := [.int 24]) (rest := []) C0 hP hD hS ck_Co hO9 (c_Co_put N hc4) k_Co_put (wd_of 1149 (by decide +kernel) rfl) hi_Co_put hs_Co_put hini_Co rfl rfl hd_Co_put rfl rm_Cm_clause_Co_put hl.1 (Nat.le_of_ble_eq_true rfl) d_Cm_clause_20 rfl ⟨Nat.zero_le _, Nat.zero_le _⟩ (fun H locs hP hD hS => ?_)
  refine lv_aload_n hx hb d_Cm_clause_23 rfl (lv_at hl 2 rfl) ?_
  obtain ⟨r6, g6, hf⟩ := bo_some hf
  refine xg_R (i := v0) (k := 2) hx hb ht hown ck_Cm hK hP (by decide) fk_Cm_43 g6 d_Cm_clause_24 ?_
  refine lv_iload_n hx hb d_Cm_clause_27 rfl (lv_at hl 4 rfl) ?_
  obtain ⟨j8, ej8, hf⟩ := bo_some hf
  rw [ej8]
  obtain ⟨hO9, hf⟩ := ck_some hf
  obtain ⟨u7, r7, hc7, hf⟩ := bx_some hf
  refine xV0 (i := j8) (As := [.int v2]) (rest := []) C0 hP hD hS ck_Co hO9 (c_Co_put N hc7) k_Co_put (wd_of 1149 (by decide +kernel) rfl) hi_Co_put hs_Co_put hini_Co rfl rfl hd_Co_put rfl rm_Cm_clause_Co_put hl.1 (Nat.le_of_ble_eq_true rfl) d_Cm_clause_28 rfl ⟨Nat.zero_le _, Nat.zero_le _⟩ (fun H locs hP hD hS => ?_)
  refine lv_aload_n hx hb d_Cm_clause_31 rfl (lv_at hl 2 rfl) ?_
  obtain ⟨r9, g9, hf⟩ := bo_some hf
  refine xg_R (i := v0) (k := 2) hx hb ht hown ck_Cm hK hP (by decide) fk_Cm_43 g9 d_Cm_clause_32 ?_
  refine lv_iload_n hx hb d_Cm_clause_35 rfl (lv_at hl 5 rfl) ?_
  obtain ⟨j11, ej11, hf⟩ := bo_some hf
  rw [ej11]
  obtain ⟨hO9, hf⟩ := ck_some hf
  obtain ⟨u10, r10, hc10, hf⟩ := bx_some hf
  refine xV0 (i := j11) (As := [.int v3]) (rest := []) C0 hP hD hS ck_Co hO9 (c_Co_put N hc10) k_Co_put (wd_of 1149 (by decide +kernel) rfl) hi_Co_put hs_Co_put hini_Co rfl rfl hd_Co_put rfl rm_Cm_clause_Co_put hl.1 (Nat.le_of_ble_eq_true rfl) d_Cm_clause_36 rfl ⟨Nat.zero_le _, Nat.zero_le _⟩ (fun H locs hP hD hS => ?_)
  refine lv_aload_n hx hb d_Cm_clause_39 rfl (lv_at hl 2 rfl) ?_
  refine lv_aload_n hx hb d_Cm_clause_40 rfl (lv_at hl 2 rfl) ?_
  obtain ⟨r12, g12, hf⟩ := bo_some hf
  refine xg_R (i := v0) (k := 1) hx hb ht hown ck_Cm hK hP (by decide) fk_Cm_39 g12 d_Cm_clause_41 ?_
  obtain ⟨j13, ej13, hf⟩ := bo_some hf
  rw [ej13]
  obtain ⟨r14, g14, hf⟩ := bo_some hf
  refine xg_R (i := j13) (k := 4) hx hb ht hown ck_Tr hK hP (by decide) fk_Cm_155 g14 d_Cm_clause_44 ?_
  refine lv_iload_n hx hb d_Cm_clause_47 rfl (lv_at hl 3 rfl) ?_
  obtain ⟨j15, ej15, hf⟩ := bo_some hf
  rw [ej15]
  obtain ⟨r16, g16, hf⟩ := bo_some hf
  refine xl_I (i := j15) hx hb hK hP g16 d_Cm_clause_48 ?_
  refine lv_iconst (v := 1) hx hb d_Cm_clause_49 (by decide) ?_
  obtain ⟨hO9, hf⟩ := ck_some hf
  obtain ⟨u17, r17, hc17, hf⟩ := bx_some hf
  refine xV0 (i := v0) (As := [.int r16, .int 1]) (rest := []) C0 hP hD hS ck_Cm hO9 (hSg.2.2.2.1 _ _ _ _ _ _ _ hc17) k_Cm_body (wd_of 1242 (by decide +kernel) rfl) hi_Cm_body hs_Cm_body hini_Cm rfl rfl hd_Cm_body rfl rm_Cm_clause_Cm_body hl.1 (Nat.le_of_ble_eq_true rfl) d_Cm_clause_50 rfl ⟨Nat.zero_le _, Nat.zero_le _⟩ (fun H locs hP hD hS => ?_)
  refine lv_aload_n hx hb d_Cm_clause_53 rfl (lv_at hl 2 rfl) ?_
  obtain ⟨r18, g18, hf⟩ := bo_some hf
  refine xg_R (i := v0) (k := 2) hx hb ht hown ck_Cm hK hP (by decide) fk_Cm_43 g18 d_Cm_clause_54 ?_
  refine lv_bipush (v := 35) hx hb d_Cm_clause_57 (by decide) ?_
  obtain ⟨j20, ej20, hf⟩ := bo_some hf
  rw [ej20]
  obtain ⟨hO9, hf⟩ := ck_some hf
  obtain ⟨u19, r19, hc19, hf⟩ := bx_some hf
  refine xV0 (i := j20) (As := [.int 35]) (rest := []) C0 hP hD hS ck_Co hO9 (c_Co_put N hc19) k_Co_put (wd_of 1149 (by decide +kernel) rfl) hi_Co_put hs_Co_put hini_Co rfl rfl hd_Co_put rfl rm_Cm_clause_Co_put hl.1 (Nat.le_of_ble_eq_true rfl) d_Cm_clause_59 rfl ⟨Nat.zero_le _, Nat.zero_le _⟩ (fun H locs hP hD hS => ?_)
  refine lv_aload_n hx hb d_Cm_clause_62 rfl (lv_at hl 2 rfl) ?_
  refine lv_iload hx hb d_Cm_clause_63 (lv_at hl 1 rfl) ?_
  obtain ⟨w21, g21, hf⟩ := bo_some hf
  refine xp (i := v0) (k := 6) (v := (.inl r1)) hx hb ht hown ck_Cm hK hP hD hS (by decide) fk_Cm_116 rfl g21 rfl rfl d_Cm_clause_65 (fun H locs hP hD hS => ?_)
  refine lv_aload_n hx hb d_Cm_clause_68 rfl (lv_at hl 2 rfl) ?_
  obtain ⟨r22, g22, hf⟩ := bo_some hf
  refine xg_R (i := v0) (k := 2) hx hb ht hown ck_Cm hK hP (by decide) fk_Cm_43 g22 d_Cm_clause_69 ?_
  refine lv_iload hx hb d_Cm_clause_72 (lv_at hl 0 rfl) ?_
  obtain ⟨j24, ej24, hf⟩ := bo_some hf
  rw [ej24]
  obtain ⟨hO9, hf⟩ := ck_some hf
  obtain ⟨u23, r23, hc23, hf⟩ := bx_some hf
  refine xV0 (i := j24) (As := [.int r2]) (rest := []) C0 hP hD hS ck_Co hO9 (c_Co_arrive N hc23) k_Co_arrive (wd_of 1214 (by decide +kernel) rfl) hi_Co_arrive hs_Co_arrive hini_Co rfl rfl hd_Co_arrive rfl rm_Cm_clause_Co_arrive hl.1 (Nat.le_of_ble_eq_true rfl) d_Cm_clause_74 rfl ⟨Nat.zero_le _, Nat.zero_le _⟩ (fun H locs hP hD hS => ?_)
  exact xr0_v C0 hP hD hS hf d_Cm_clause_77
def fm_Cm_clause (N : Nat) (S : SG_Cm_fun) (u : CS) (v0 : Nat) (v1 : Int32) (v2 : Int32) (v3 : Int32) : Option (CS × Unit) := fb_Cm_clause_0 N S () u v0 v1 v2 v3
set_option maxRecDepth 100000 in
set_option maxHeartbeats 4000000 in
theorem cs_Cm_clause (N : Nat) {d : Nat} {l : Launch} {s0 : State} {b0 : Nat} {D : va_G} {cB cI cJ cZ cS cP : ClassId} {sk sv : Nat → Nat} {ad : Nat → Nat} {u : CS} {sz : Nat} {v0 : Nat} {v1 : Int32} {v2 : Int32} {v3 : Int32} {x : CS × Unit} (hE : ENV s0 b0 sk sv) (S : SG_Cm_fun) (hSg : HS_Cm_fun l s0 b0 D cB cI cJ cZ cS cP d S) (hf : fm_Cm_clause N S u v0 v1 v2 v3 = some x) : Met l y_Cm_clause (wd_ws y_Cm_clause b_Cm_clause 6 none) (rg_Cm_fun (d + 1)) (xPc s0 b0 D cB cI cJ cZ cS cP ad u sz [.ref (ad v0), .int v1, .int v2, .int v3]) (xQ0 D cB cI cJ cZ cS cP (xA cB cI cJ cZ cS cP ad u sz) ad x.1 none) 0 0 (xA cB cI cJ cZ cS cP ad u sz) :=
  xMet (by decide) rfl (Nat.le_of_ble_eq_true rfl) (fun p e s m below meth c ls hsz hnm C0 hP hD hS hl =>
    wb_Cm_clause_0 C0 hE N S hSg () trivial u _ _ _ _ x hf s.heap [] hP hD hS ls (lv_sub hl [0, 1, 2, 3] rfl))
def rc_Cm_fun (N : Nat) : Nat → (SG_Cm_fun)
  | 0 => (fun _ _ _ => none, fun _ _ _ _ => none, fun _ _ _ _ _ _ => none, fun _ _ _ _ => none, fun _ _ _ _ => none, fun _ _ _ _ => none, fun _ _ _ _ => none, fun _ _ _ => none, fun _ _ _ => none, fun _ _ _ => none, fun _ _ _ _ => none, fun _ _ _ _ => none, fun _ _ _ _ _ => none)
  | d + 1 => (fm_Cm_fun N (rc_Cm_fun N d), fm_Cm_receive N (rc_Cm_fun N d), fm_Cm_parts N (rc_Cm_fun N d), fm_Cm_body N (rc_Cm_fun N d), fm_Cm_compound N (rc_Cm_fun N d), fm_Cm_apply N (rc_Cm_fun N d), fm_Cm_call N (rc_Cm_fun N d), fm_Cm_signs N (rc_Cm_fun N d), fm_Cm_list N (rc_Cm_fun N d), fm_Cm_row N (rc_Cm_fun N d), fm_Cm_expression N (rc_Cm_fun N d), fm_Cm_tries N (rc_Cm_fun N d), fm_Cm_clause N (rc_Cm_fun N d))
theorem cg_Cm_fun (N : Nat) {l : Launch} {s0 : State} {b0 : Nat} {D : va_G} {cB cI cJ cZ cS cP : ClassId} {sk sv : Nat → Nat} (hE : ENV s0 b0 sk sv) : ∀ d : Nat, HS_Cm_fun l s0 b0 D cB cI cJ cZ cS cP d (rc_Cm_fun N d)
  | 0 => ⟨(fun ad u _ _ x sz hf => by cases hf), (fun ad u _ _ _ x sz hf => by cases hf), (fun ad u _ _ _ _ _ x sz hf => by cases hf), (fun ad u _ _ _ x sz hf => by cases hf), (fun ad u _ _ _ x sz hf => by cases hf), (fun ad u _ _ _ x sz hf => by cases hf), (fun ad u _ _ _ x sz hf => by cases hf), (fun ad u _ _ x sz hf => by cases hf), (fun ad u _ _ x sz hf => by cases hf), (fun ad u _ _ x sz hf => by cases hf), (fun ad u _ _ _ x sz hf => by cases hf), (fun ad u _ _ _ x sz hf => by cases hf), (fun ad u _ _ _ _ x sz hf => by cases hf)⟩
  | d + 1 => ⟨(fun ad u _ _ x sz hf => cs_Cm_fun N hE (rc_Cm_fun N d) (cg_Cm_fun N hE d) hf), (fun ad u _ _ _ x sz hf => cs_Cm_receive N hE (rc_Cm_fun N d) (cg_Cm_fun N hE d) hf), (fun ad u _ _ _ _ _ x sz hf => cs_Cm_parts N hE (rc_Cm_fun N d) (cg_Cm_fun N hE d) hf), (fun ad u _ _ _ x sz hf => cs_Cm_body N hE (rc_Cm_fun N d) (cg_Cm_fun N hE d) hf), (fun ad u _ _ _ x sz hf => cs_Cm_compound N hE (rc_Cm_fun N d) (cg_Cm_fun N hE d) hf), (fun ad u _ _ _ x sz hf => cs_Cm_apply N hE (rc_Cm_fun N d) (cg_Cm_fun N hE d) hf), (fun ad u _ _ _ x sz hf => cs_Cm_call N hE (rc_Cm_fun N d) (cg_Cm_fun N hE d) hf), (fun ad u _ _ x sz hf => cs_Cm_signs N hE (rc_Cm_fun N d) (cg_Cm_fun N hE d) hf), (fun ad u _ _ x sz hf => cs_Cm_list N hE (rc_Cm_fun N d) (cg_Cm_fun N hE d) hf), (fun ad u _ _ x sz hf => cs_Cm_row N hE (rc_Cm_fun N d) (cg_Cm_fun N hE d) hf), (fun ad u _ _ _ x sz hf => cs_Cm_expression N hE (rc_Cm_fun N d) (cg_Cm_fun N hE d) hf), (fun ad u _ _ _ x sz hf => cs_Cm_tries N hE (rc_Cm_fun N d) (cg_Cm_fun N hE d) hf), (fun ad u _ _ _ _ x sz hf => cs_Cm_clause N hE (rc_Cm_fun N d) (cg_Cm_fun N hE d) hf)⟩
def fr_Cm_fun (N : Nat) (u : CS) (v0 : Nat) (v1 : Int32) : Option (CS × Unit) := (rc_Cm_fun N 300).1 u v0 v1
def rm_Cm_fun : Room := rg_Cm_fun 300
theorem c_Cm_fun (N : Nat) {l : Launch} {s0 : State} {b0 : Nat} {D : va_G} {cB cI cJ cZ cS cP : ClassId} {sk sv : Nat → Nat} {ad : Nat → Nat} {u : CS} {sz : Nat} {v0 : Nat} {v1 : Int32} {x : CS × Unit} (hE : ENV s0 b0 sk sv) (hf : fr_Cm_fun N u v0 v1 = some x) : Met l y_Cm_fun (wd_ws y_Cm_fun b_Cm_fun 9 none) rm_Cm_fun (xPc s0 b0 D cB cI cJ cZ cS cP ad u sz [.ref (ad v0), .int v1]) (xQ0 D cB cI cJ cZ cS cP (xA cB cI cJ cZ cS cP ad u sz) ad x.1 none) 0 0 (xA cB cI cJ cZ cS cP ad u sz) := (cg_Cm_fun N hE 300).1 _ _ _ _ _ _ hf
def fr_Cm_receive (N : Nat) (u : CS) (v0 : Nat) (v1 : Int32) (v2 : Int32) : Option (CS × Unit) := (rc_Cm_fun N 300).2.1 u v0 v1 v2
def rm_Cm_receive : Room := rg_Cm_fun 300
theorem c_Cm_receive (N : Nat) {l : Launch} {s0 : State} {b0 : Nat} {D : va_G} {cB cI cJ cZ cS cP : ClassId} {sk sv : Nat → Nat} {ad : Nat → Nat} {u : CS} {sz : Nat} {v0 : Nat} {v1 : Int32} {v2 : Int32} {x : CS × Unit} (hE : ENV s0 b0 sk sv) (hf : fr_Cm_receive N u v0 v1 v2 = some x) : Met l y_Cm_receive (wd_ws y_Cm_receive b_Cm_receive 8 none) rm_Cm_receive (xPc s0 b0 D cB cI cJ cZ cS cP ad u sz [.ref (ad v0), .int v1, .int v2]) (xQ0 D cB cI cJ cZ cS cP (xA cB cI cJ cZ cS cP ad u sz) ad x.1 none) 0 0 (xA cB cI cJ cZ cS cP ad u sz) := (cg_Cm_fun N hE 300).2.1 _ _ _ _ _ _ _ hf
def fr_Cm_parts (N : Nat) (u : CS) (v0 : Nat) (v1 : Int32) (v2 : Int32) (v3 : Int32) (v4 : Int32) : Option (CS × Int32) := (rc_Cm_fun N 300).2.2.1 u v0 v1 v2 v3 v4
def rm_Cm_parts : Room := rg_Cm_fun 300
theorem c_Cm_parts (N : Nat) {l : Launch} {s0 : State} {b0 : Nat} {D : va_G} {cB cI cJ cZ cS cP : ClassId} {sk sv : Nat → Nat} {ad : Nat → Nat} {u : CS} {sz : Nat} {v0 : Nat} {v1 : Int32} {v2 : Int32} {v3 : Int32} {v4 : Int32} {x : CS × Int32} (hE : ENV s0 b0 sk sv) (hf : fr_Cm_parts N u v0 v1 v2 v3 v4 = some x) : Met l y_Cm_parts (wd_ws y_Cm_parts b_Cm_parts 9 (some .int)) rm_Cm_parts (xPc s0 b0 D cB cI cJ cZ cS cP ad u sz [.ref (ad v0), .int v1, .int v2, .int v3, .int v4]) (xQ0 D cB cI cJ cZ cS cP (xA cB cI cJ cZ cS cP ad u sz) ad x.1 (some (.inl x.2))) 0 0 (xA cB cI cJ cZ cS cP ad u sz) := (cg_Cm_fun N hE 300).2.2.1 _ _ _ _ _ _ _ _ _ hf
def fr_Cm_body (N : Nat) (u : CS) (v0 : Nat) (v1 : Int32) (v2 : Int32) : Option (CS × Unit) := (rc_Cm_fun N 300).2.2.2.1 u v0 v1 v2
def rm_Cm_body : Room := rg_Cm_fun 300
theorem c_Cm_body (N : Nat) {l : Launch} {s0 : State} {b0 : Nat} {D : va_G} {cB cI cJ cZ cS cP : ClassId} {sk sv : Nat → Nat} {ad : Nat → Nat} {u : CS} {sz : Nat} {v0 : Nat} {v1 : Int32} {v2 : Int32} {x : CS × Unit} (hE : ENV s0 b0 sk sv) (hf : fr_Cm_body N u v0 v1 v2 = some x) : Met l y_Cm_body (wd_ws y_Cm_body b_Cm_body 5 none) rm_Cm_body (xPc s0 b0 D cB cI cJ cZ cS cP ad u sz [.ref (ad v0), .int v1, .int v2]) (xQ0 D cB cI cJ cZ cS cP (xA cB cI cJ cZ cS cP ad u sz) ad x.1 none) 0 0 (xA cB cI cJ cZ cS cP ad u sz) := (cg_Cm_fun N hE 300).2.2.2.1 _ _ _ _ _ _ _ hf
def fr_Cm_compound (N : Nat) (u : CS) (v0 : Nat) (v1 : Int32) (v2 : Int32) : Option (CS × Unit) := (rc_Cm_fun N 300).2.2.2.2.1 u v0 v1 v2
def rm_Cm_compound : Room := rg_Cm_fun 300
theorem c_Cm_compound (N : Nat) {l : Launch} {s0 : State} {b0 : Nat} {D : va_G} {cB cI cJ cZ cS cP : ClassId} {sk sv : Nat → Nat} {ad : Nat → Nat} {u : CS} {sz : Nat} {v0 : Nat} {v1 : Int32} {v2 : Int32} {x : CS × Unit} (hE : ENV s0 b0 sk sv) (hf : fr_Cm_compound N u v0 v1 v2 = some x) : Met l y_Cm_compound (wd_ws y_Cm_compound b_Cm_compound 7 none) rm_Cm_compound (xPc s0 b0 D cB cI cJ cZ cS cP ad u sz [.ref (ad v0), .int v1, .int v2]) (xQ0 D cB cI cJ cZ cS cP (xA cB cI cJ cZ cS cP ad u sz) ad x.1 none) 0 0 (xA cB cI cJ cZ cS cP ad u sz) := (cg_Cm_fun N hE 300).2.2.2.2.1 _ _ _ _ _ _ _ hf
def fr_Cm_apply (N : Nat) (u : CS) (v0 : Nat) (v1 : Int32) (v2 : Int32) : Option (CS × Unit) := (rc_Cm_fun N 300).2.2.2.2.2.1 u v0 v1 v2
def rm_Cm_apply : Room := rg_Cm_fun 300
theorem c_Cm_apply (N : Nat) {l : Launch} {s0 : State} {b0 : Nat} {D : va_G} {cB cI cJ cZ cS cP : ClassId} {sk sv : Nat → Nat} {ad : Nat → Nat} {u : CS} {sz : Nat} {v0 : Nat} {v1 : Int32} {v2 : Int32} {x : CS × Unit} (hE : ENV s0 b0 sk sv) (hf : fr_Cm_apply N u v0 v1 v2 = some x) : Met l y_Cm_apply (wd_ws y_Cm_apply b_Cm_apply 5 none) rm_Cm_apply (xPc s0 b0 D cB cI cJ cZ cS cP ad u sz [.ref (ad v0), .int v1, .int v2]) (xQ0 D cB cI cJ cZ cS cP (xA cB cI cJ cZ cS cP ad u sz) ad x.1 none) 0 0 (xA cB cI cJ cZ cS cP ad u sz) := (cg_Cm_fun N hE 300).2.2.2.2.2.1 _ _ _ _ _ _ _ hf
def fr_Cm_call (N : Nat) (u : CS) (v0 : Nat) (v1 : Int32) (v2 : Int32) : Option (CS × Unit) := (rc_Cm_fun N 300).2.2.2.2.2.2.1 u v0 v1 v2
def rm_Cm_call : Room := rg_Cm_fun 300
theorem c_Cm_call (N : Nat) {l : Launch} {s0 : State} {b0 : Nat} {D : va_G} {cB cI cJ cZ cS cP : ClassId} {sk sv : Nat → Nat} {ad : Nat → Nat} {u : CS} {sz : Nat} {v0 : Nat} {v1 : Int32} {v2 : Int32} {x : CS × Unit} (hE : ENV s0 b0 sk sv) (hf : fr_Cm_call N u v0 v1 v2 = some x) : Met l y_Cm_call (wd_ws y_Cm_call b_Cm_call 8 none) rm_Cm_call (xPc s0 b0 D cB cI cJ cZ cS cP ad u sz [.ref (ad v0), .int v1, .int v2]) (xQ0 D cB cI cJ cZ cS cP (xA cB cI cJ cZ cS cP ad u sz) ad x.1 none) 0 0 (xA cB cI cJ cZ cS cP ad u sz) := (cg_Cm_fun N hE 300).2.2.2.2.2.2.1 _ _ _ _ _ _ _ hf
def fr_Cm_signs (N : Nat) (u : CS) (v0 : Nat) (v1 : Int32) : Option (CS × Unit) := (rc_Cm_fun N 300).2.2.2.2.2.2.2.1 u v0 v1
def rm_Cm_signs : Room := rg_Cm_fun 300
theorem c_Cm_signs (N : Nat) {l : Launch} {s0 : State} {b0 : Nat} {D : va_G} {cB cI cJ cZ cS cP : ClassId} {sk sv : Nat → Nat} {ad : Nat → Nat} {u : CS} {sz : Nat} {v0 : Nat} {v1 : Int32} {x : CS × Unit} (hE : ENV s0 b0 sk sv) (hf : fr_Cm_signs N u v0 v1 = some x) : Met l y_Cm_signs (wd_ws y_Cm_signs b_Cm_signs 9 none) rm_Cm_signs (xPc s0 b0 D cB cI cJ cZ cS cP ad u sz [.ref (ad v0), .int v1]) (xQ0 D cB cI cJ cZ cS cP (xA cB cI cJ cZ cS cP ad u sz) ad x.1 none) 0 0 (xA cB cI cJ cZ cS cP ad u sz) := (cg_Cm_fun N hE 300).2.2.2.2.2.2.2.1 _ _ _ _ _ _ hf
def fr_Cm_list (N : Nat) (u : CS) (v0 : Nat) (v1 : Int32) : Option (CS × Unit) := (rc_Cm_fun N 300).2.2.2.2.2.2.2.2.1 u v0 v1
def rm_Cm_list : Room := rg_Cm_fun 300
theorem c_Cm_list (N : Nat) {l : Launch} {s0 : State} {b0 : Nat} {D : va_G} {cB cI cJ cZ cS cP : ClassId} {sk sv : Nat → Nat} {ad : Nat → Nat} {u : CS} {sz : Nat} {v0 : Nat} {v1 : Int32} {x : CS × Unit} (hE : ENV s0 b0 sk sv) (hf : fr_Cm_list N u v0 v1 = some x) : Met l y_Cm_list (wd_ws y_Cm_list b_Cm_list 2 none) rm_Cm_list (xPc s0 b0 D cB cI cJ cZ cS cP ad u sz [.ref (ad v0), .int v1]) (xQ0 D cB cI cJ cZ cS cP (xA cB cI cJ cZ cS cP ad u sz) ad x.1 none) 0 0 (xA cB cI cJ cZ cS cP ad u sz) := (cg_Cm_fun N hE 300).2.2.2.2.2.2.2.2.1 _ _ _ _ _ _ hf
def fr_Cm_row (N : Nat) (u : CS) (v0 : Nat) (v1 : Int32) : Option (CS × Unit) := (rc_Cm_fun N 300).2.2.2.2.2.2.2.2.2.1 u v0 v1
def rm_Cm_row : Room := rg_Cm_fun 300
theorem c_Cm_row (N : Nat) {l : Launch} {s0 : State} {b0 : Nat} {D : va_G} {cB cI cJ cZ cS cP : ClassId} {sk sv : Nat → Nat} {ad : Nat → Nat} {u : CS} {sz : Nat} {v0 : Nat} {v1 : Int32} {x : CS × Unit} (hE : ENV s0 b0 sk sv) (hf : fr_Cm_row N u v0 v1 = some x) : Met l y_Cm_row (wd_ws y_Cm_row b_Cm_row 3 none) rm_Cm_row (xPc s0 b0 D cB cI cJ cZ cS cP ad u sz [.ref (ad v0), .int v1]) (xQ0 D cB cI cJ cZ cS cP (xA cB cI cJ cZ cS cP ad u sz) ad x.1 none) 0 0 (xA cB cI cJ cZ cS cP ad u sz) := (cg_Cm_fun N hE 300).2.2.2.2.2.2.2.2.2.1 _ _ _ _ _ _ hf
def fr_Cm_expression (N : Nat) (u : CS) (v0 : Nat) (v1 : Int32) (v2 : Int32) : Option (CS × Unit) := (rc_Cm_fun N 300).2.2.2.2.2.2.2.2.2.2.1 u v0 v1 v2
def rm_Cm_expression : Room := rg_Cm_fun 300
theorem c_Cm_expression (N : Nat) {l : Launch} {s0 : State} {b0 : Nat} {D : va_G} {cB cI cJ cZ cS cP : ClassId} {sk sv : Nat → Nat} {ad : Nat → Nat} {u : CS} {sz : Nat} {v0 : Nat} {v1 : Int32} {v2 : Int32} {x : CS × Unit} (hE : ENV s0 b0 sk sv) (hf : fr_Cm_expression N u v0 v1 v2 = some x) : Met l y_Cm_expression (wd_ws y_Cm_expression b_Cm_expression 4 none) rm_Cm_expression (xPc s0 b0 D cB cI cJ cZ cS cP ad u sz [.ref (ad v0), .int v1, .int v2]) (xQ0 D cB cI cJ cZ cS cP (xA cB cI cJ cZ cS cP ad u sz) ad x.1 none) 0 0 (xA cB cI cJ cZ cS cP ad u sz) := (cg_Cm_fun N hE 300).2.2.2.2.2.2.2.2.2.2.1 _ _ _ _ _ _ _ hf
def fr_Cm_tries (N : Nat) (u : CS) (v0 : Nat) (v1 : Int32) (v2 : Int32) : Option (CS × Int32) := (rc_Cm_fun N 300).2.2.2.2.2.2.2.2.2.2.2.1 u v0 v1 v2
def rm_Cm_tries : Room := rg_Cm_fun 300
theorem c_Cm_tries (N : Nat) {l : Launch} {s0 : State} {b0 : Nat} {D : va_G} {cB cI cJ cZ cS cP : ClassId} {sk sv : Nat → Nat} {ad : Nat → Nat} {u : CS} {sz : Nat} {v0 : Nat} {v1 : Int32} {v2 : Int32} {x : CS × Int32} (hE : ENV s0 b0 sk sv) (hf : fr_Cm_tries N u v0 v1 v2 = some x) : Met l y_Cm_tries (wd_ws y_Cm_tries b_Cm_tries 7 (some .int)) rm_Cm_tries (xPc s0 b0 D cB cI cJ cZ cS cP ad u sz [.ref (ad v0), .int v1, .int v2]) (xQ0 D cB cI cJ cZ cS cP (xA cB cI cJ cZ cS cP ad u sz) ad x.1 (some (.inl x.2))) 0 0 (xA cB cI cJ cZ cS cP ad u sz) := (cg_Cm_fun N hE 300).2.2.2.2.2.2.2.2.2.2.2.1 _ _ _ _ _ _ _ hf
def fr_Cm_clause (N : Nat) (u : CS) (v0 : Nat) (v1 : Int32) (v2 : Int32) (v3 : Int32) : Option (CS × Unit) := (rc_Cm_fun N 300).2.2.2.2.2.2.2.2.2.2.2.2 u v0 v1 v2 v3
def rm_Cm_clause : Room := rg_Cm_fun 300
theorem c_Cm_clause (N : Nat) {l : Launch} {s0 : State} {b0 : Nat} {D : va_G} {cB cI cJ cZ cS cP : ClassId} {sk sv : Nat → Nat} {ad : Nat → Nat} {u : CS} {sz : Nat} {v0 : Nat} {v1 : Int32} {v2 : Int32} {v3 : Int32} {x : CS × Unit} (hE : ENV s0 b0 sk sv) (hf : fr_Cm_clause N u v0 v1 v2 v3 = some x) : Met l y_Cm_clause (wd_ws y_Cm_clause b_Cm_clause 6 none) rm_Cm_clause (xPc s0 b0 D cB cI cJ cZ cS cP ad u sz [.ref (ad v0), .int v1, .int v2, .int v3]) (xQ0 D cB cI cJ cZ cS cP (xA cB cI cJ cZ cS cP ad u sz) ad x.1 none) 0 0 (xA cB cI cJ cZ cS cP ad u sz) := (cg_Cm_fun N hE 300).2.2.2.2.2.2.2.2.2.2.2.2 _ _ _ _ _ _ _ _ hf
