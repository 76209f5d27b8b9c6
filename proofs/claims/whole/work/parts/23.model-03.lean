abbrev b_M_takeBack : ByteArray := prog_14_method_55_code
def y_M_takeBack : MethodName := ⟨R_M, "takeBack", "()V"⟩
def w_M_takeBack : List Cond := wd_ws y_M_takeBack b_M_takeBack 3 none
set_option maxRecDepth 100000 in
theorem k_M_takeBack : Cond.code y_M_takeBack b_M_takeBack 3 none ∈ wd_tbl := wd_of 2865 rfl rfl
theorem d_M_takeBack_0 : decode b_M_takeBack 0 = .ok (.aload_n 0, 1) := by decide +kernel
theorem d_M_takeBack_1 : decode b_M_takeBack 1 = .ok (.getfield 586, 3) := by decide +kernel
theorem d_M_takeBack_4 : decode b_M_takeBack 4 = .ok (.bipush 8, 2) := by decide +kernel
theorem d_M_takeBack_6 : decode b_M_takeBack 6 = .ok (.isub, 1) := by decide +kernel
theorem d_M_takeBack_7 : decode b_M_takeBack 7 = .ok (.istore_n 1, 1) := by decide +kernel
theorem d_M_takeBack_8 : decode b_M_takeBack 8 = .ok (.aload_n 0, 1) := by decide +kernel
theorem d_M_takeBack_9 : decode b_M_takeBack 9 = .ok (.aload_n 0, 1) := by decide +kernel
theorem d_M_takeBack_10 : decode b_M_takeBack 10 = .ok (.getfield 168, 3) := by decide +kernel
theorem d_M_takeBack_13 : decode b_M_takeBack 13 = .ok (.iload_n 1, 1) := by decide +kernel
theorem d_M_takeBack_14 : decode b_M_takeBack 14 = .ok (.iaload, 1) := by decide +kernel
theorem d_M_takeBack_15 : decode b_M_takeBack 15 = .ok (.putfield 448, 3) := by decide +kernel
theorem d_M_takeBack_18 : decode b_M_takeBack 18 = .ok (.aload_n 0, 1) := by decide +kernel
theorem d_M_takeBack_19 : decode b_M_takeBack 19 = .ok (.aload_n 0, 1) := by decide +kernel
theorem d_M_takeBack_20 : decode b_M_takeBack 20 = .ok (.getfield 168, 3) := by decide +kernel
theorem d_M_takeBack_23 : decode b_M_takeBack 23 = .ok (.iload_n 1, 1) := by decide +kernel
theorem d_M_takeBack_24 : decode b_M_takeBack 24 = .ok (.iconst 1, 1) := by decide +kernel
theorem d_M_takeBack_25 : decode b_M_takeBack 25 = .ok (.iadd, 1) := by decide +kernel
theorem d_M_takeBack_26 : decode b_M_takeBack 26 = .ok (.iaload, 1) := by decide +kernel
theorem d_M_takeBack_27 : decode b_M_takeBack 27 = .ok (.putfield 451, 3) := by decide +kernel
theorem d_M_takeBack_30 : decode b_M_takeBack 30 = .ok (.aload_n 0, 1) := by decide +kernel
theorem d_M_takeBack_31 : decode b_M_takeBack 31 = .ok (.aload_n 0, 1) := by decide +kernel
theorem d_M_takeBack_32 : decode b_M_takeBack 32 = .ok (.getfield 168, 3) := by decide +kernel
theorem d_M_takeBack_35 : decode b_M_takeBack 35 = .ok (.iload_n 1, 1) := by decide +kernel
theorem d_M_takeBack_36 : decode b_M_takeBack 36 = .ok (.iconst 2, 1) := by decide +kernel
theorem d_M_takeBack_37 : decode b_M_takeBack 37 = .ok (.iadd, 1) := by decide +kernel
theorem d_M_takeBack_38 : decode b_M_takeBack 38 = .ok (.iaload, 1) := by decide +kernel
theorem d_M_takeBack_39 : decode b_M_takeBack 39 = .ok (.putfield 505, 3) := by decide +kernel
theorem d_M_takeBack_42 : decode b_M_takeBack 42 = .ok (.aload_n 0, 1) := by decide +kernel
theorem d_M_takeBack_43 : decode b_M_takeBack 43 = .ok (.aload_n 0, 1) := by decide +kernel
theorem d_M_takeBack_44 : decode b_M_takeBack 44 = .ok (.getfield 168, 3) := by decide +kernel
theorem d_M_takeBack_47 : decode b_M_takeBack 47 = .ok (.iload_n 1, 1) := by decide +kernel
theorem d_M_takeBack_48 : decode b_M_takeBack 48 = .ok (.iconst 3, 1) := by decide +kernel
theorem d_M_takeBack_49 : decode b_M_takeBack 49 = .ok (.iadd, 1) := by decide +kernel
theorem d_M_takeBack_50 : decode b_M_takeBack 50 = .ok (.iaload, 1) := by decide +kernel
theorem d_M_takeBack_51 : decode b_M_takeBack 51 = .ok (.putfield 511, 3) := by decide +kernel
theorem d_M_takeBack_54 : decode b_M_takeBack 54 = .ok (.aload_n 0, 1) := by decide +kernel
theorem d_M_takeBack_55 : decode b_M_takeBack 55 = .ok (.aload_n 0, 1) := by decide +kernel
theorem d_M_takeBack_56 : decode b_M_takeBack 56 = .ok (.getfield 168, 3) := by decide +kernel
theorem d_M_takeBack_59 : decode b_M_takeBack 59 = .ok (.iload_n 1, 1) := by decide +kernel
theorem d_M_takeBack_60 : decode b_M_takeBack 60 = .ok (.iconst 4, 1) := by decide +kernel
theorem d_M_takeBack_61 : decode b_M_takeBack 61 = .ok (.iadd, 1) := by decide +kernel
theorem d_M_takeBack_62 : decode b_M_takeBack 62 = .ok (.iaload, 1) := by decide +kernel
theorem d_M_takeBack_63 : decode b_M_takeBack 63 = .ok (.putfield 514, 3) := by decide +kernel
theorem d_M_takeBack_66 : decode b_M_takeBack 66 = .ok (.aload_n 0, 1) := by decide +kernel
theorem d_M_takeBack_67 : decode b_M_takeBack 67 = .ok (.aload_n 0, 1) := by decide +kernel
theorem d_M_takeBack_68 : decode b_M_takeBack 68 = .ok (.getfield 168, 3) := by decide +kernel
theorem d_M_takeBack_71 : decode b_M_takeBack 71 = .ok (.iload_n 1, 1) := by decide +kernel
theorem d_M_takeBack_72 : decode b_M_takeBack 72 = .ok (.iconst 5, 1) := by decide +kernel
theorem d_M_takeBack_73 : decode b_M_takeBack 73 = .ok (.iadd, 1) := by decide +kernel
theorem d_M_takeBack_74 : decode b_M_takeBack 74 = .ok (.iaload, 1) := by decide +kernel
theorem d_M_takeBack_75 : decode b_M_takeBack 75 = .ok (.putfield 466, 3) := by decide +kernel
theorem d_M_takeBack_78 : decode b_M_takeBack 78 = .ok (.aload_n 0, 1) := by decide +kernel
theorem d_M_takeBack_79 : decode b_M_takeBack 79 = .ok (.aload_n 0, 1) := by decide +kernel
theorem d_M_takeBack_80 : decode b_M_takeBack 80 = .ok (.getfield 168, 3) := by decide +kernel
theorem d_M_takeBack_83 : decode b_M_takeBack 83 = .ok (.iload_n 1, 1) := by decide +kernel
theorem d_M_takeBack_84 : decode b_M_takeBack 84 = .ok (.bipush 6, 2) := by decide +kernel
theorem d_M_takeBack_86 : decode b_M_takeBack 86 = .ok (.iadd, 1) := by decide +kernel
theorem d_M_takeBack_87 : decode b_M_takeBack 87 = .ok (.iaload, 1) := by decide +kernel
theorem d_M_takeBack_88 : decode b_M_takeBack 88 = .ok (.putfield 463, 3) := by decide +kernel
theorem d_M_takeBack_91 : decode b_M_takeBack 91 = .ok (.aload_n 0, 1) := by decide +kernel
theorem d_M_takeBack_92 : decode b_M_takeBack 92 = .ok (.aload_n 0, 1) := by decide +kernel
theorem d_M_takeBack_93 : decode b_M_takeBack 93 = .ok (.getfield 168, 3) := by decide +kernel
theorem d_M_takeBack_96 : decode b_M_takeBack 96 = .ok (.iload_n 1, 1) := by decide +kernel
theorem d_M_takeBack_97 : decode b_M_takeBack 97 = .ok (.bipush 7, 2) := by decide +kernel
theorem d_M_takeBack_99 : decode b_M_takeBack 99 = .ok (.iadd, 1) := by decide +kernel
theorem d_M_takeBack_100 : decode b_M_takeBack 100 = .ok (.iaload, 1) := by decide +kernel
theorem d_M_takeBack_101 : decode b_M_takeBack 101 = .ok (.iconst 1, 1) := by decide +kernel
theorem d_M_takeBack_102 : decode b_M_takeBack 102 = .ok (.if_icmp .ne 7, 3) := by decide +kernel
theorem d_M_takeBack_105 : decode b_M_takeBack 105 = .ok (.iconst 1, 1) := by decide +kernel
theorem d_M_takeBack_106 : decode b_M_takeBack 106 = .ok (.goto 4, 3) := by decide +kernel
theorem d_M_takeBack_109 : decode b_M_takeBack 109 = .ok (.iconst 0, 1) := by decide +kernel
theorem d_M_takeBack_110 : decode b_M_takeBack 110 = .ok (.putfield 496, 3) := by decide +kernel
theorem d_M_takeBack_113 : decode b_M_takeBack 113 = .ok (.iconst 0, 1) := by decide +kernel
theorem d_M_takeBack_114 : decode b_M_takeBack 114 = .ok (.istore_n 2, 1) := by decide +kernel
theorem d_M_takeBack_115 : decode b_M_takeBack 115 = .ok (.iload_n 2, 1) := by decide +kernel
theorem d_M_takeBack_116 : decode b_M_takeBack 116 = .ok (.aload_n 0, 1) := by decide +kernel
theorem d_M_takeBack_117 : decode b_M_takeBack 117 = .ok (.getfield 493, 3) := by decide +kernel
theorem d_M_takeBack_120 : decode b_M_takeBack 120 = .ok (.if_icmp .gt 55, 3) := by decide +kernel
theorem d_M_takeBack_123 : decode b_M_takeBack 123 = .ok (.aload_n 0, 1) := by decide +kernel
theorem d_M_takeBack_124 : decode b_M_takeBack 124 = .ok (.getfield 153, 3) := by decide +kernel
theorem d_M_takeBack_127 : decode b_M_takeBack 127 = .ok (.iload_n 2, 1) := by decide +kernel
theorem d_M_takeBack_128 : decode b_M_takeBack 128 = .ok (.aload_n 0, 1) := by decide +kernel
theorem d_M_takeBack_129 : decode b_M_takeBack 129 = .ok (.getfield 171, 3) := by decide +kernel
theorem d_M_takeBack_132 : decode b_M_takeBack 132 = .ok (.aload_n 0, 1) := by decide +kernel
theorem d_M_takeBack_133 : decode b_M_takeBack 133 = .ok (.getfield 589, 3) := by decide +kernel
theorem d_M_takeBack_136 : decode b_M_takeBack 136 = .ok (.bipush 54, 2) := by decide +kernel
theorem d_M_takeBack_138 : decode b_M_takeBack 138 = .ok (.isub, 1) := by decide +kernel
theorem d_M_takeBack_139 : decode b_M_takeBack 139 = .ok (.iconst 2, 1) := by decide +kernel
theorem d_M_takeBack_140 : decode b_M_takeBack 140 = .ok (.iload_n 2, 1) := by decide +kernel
theorem d_M_takeBack_141 : decode b_M_takeBack 141 = .ok (.imul, 1) := by decide +kernel
theorem d_M_takeBack_142 : decode b_M_takeBack 142 = .ok (.iadd, 1) := by decide +kernel
theorem d_M_takeBack_143 : decode b_M_takeBack 143 = .ok (.iaload, 1) := by decide +kernel
theorem d_M_takeBack_144 : decode b_M_takeBack 144 = .ok (.iastore, 1) := by decide +kernel
theorem d_M_takeBack_145 : decode b_M_takeBack 145 = .ok (.aload_n 0, 1) := by decide +kernel
theorem d_M_takeBack_146 : decode b_M_takeBack 146 = .ok (.getfield 162, 3) := by decide +kernel
theorem d_M_takeBack_149 : decode b_M_takeBack 149 = .ok (.iload_n 2, 1) := by decide +kernel
theorem d_M_takeBack_150 : decode b_M_takeBack 150 = .ok (.aload_n 0, 1) := by decide +kernel
theorem d_M_takeBack_151 : decode b_M_takeBack 151 = .ok (.getfield 171, 3) := by decide +kernel
theorem d_M_takeBack_154 : decode b_M_takeBack 154 = .ok (.aload_n 0, 1) := by decide +kernel
theorem d_M_takeBack_155 : decode b_M_takeBack 155 = .ok (.getfield 589, 3) := by decide +kernel
theorem d_M_takeBack_158 : decode b_M_takeBack 158 = .ok (.bipush 54, 2) := by decide +kernel
theorem d_M_takeBack_160 : decode b_M_takeBack 160 = .ok (.isub, 1) := by decide +kernel
theorem d_M_takeBack_161 : decode b_M_takeBack 161 = .ok (.iconst 2, 1) := by decide +kernel
theorem d_M_takeBack_162 : decode b_M_takeBack 162 = .ok (.iload_n 2, 1) := by decide +kernel
theorem d_M_takeBack_163 : decode b_M_takeBack 163 = .ok (.imul, 1) := by decide +kernel
theorem d_M_takeBack_164 : decode b_M_takeBack 164 = .ok (.iadd, 1) := by decide +kernel
theorem d_M_takeBack_165 : decode b_M_takeBack 165 = .ok (.iconst 1, 1) := by decide +kernel
theorem d_M_takeBack_166 : decode b_M_takeBack 166 = .ok (.iadd, 1) := by decide +kernel
theorem d_M_takeBack_167 : decode b_M_takeBack 167 = .ok (.iaload, 1) := by decide +kernel
theorem d_M_takeBack_168 : decode b_M_takeBack 168 = .ok (.iastore, 1) := by decide +kernel
theorem d_M_takeBack_169 : decode b_M_takeBack 169 = .ok (.iinc 2 1, 3) := by decide +kernel
theorem d_M_takeBack_172 : decode b_M_takeBack 172 = .ok (.goto (-57), 3) := by decide +kernel
theorem d_M_takeBack_175 : decode b_M_takeBack 175 = .ok (.return_, 1) := by decide +kernel
set_option maxRecDepth 100000 in
theorem hl_M_takeBack : Cond.methodLink R_M 607 y_M_takeBack ∈ wd_tbl := wd_of 2862 (by decide +kernel) rfl
set_option maxRecDepth 100000 in
theorem hi_M_takeBack : Cond.instanceMethod y_M_takeBack ∈ wd_tbl := wd_of 2864 (by decide +kernel) rfl
set_option maxRecDepth 100000 in
theorem hs_M_takeBack : Cond.selects R_M y_M_takeBack y_M_takeBack ∈ wd_tbl := wd_of 178 (by decide +kernel) rfl
theorem hd_M_takeBack : y_M_takeBack.cls = R_M ∧ y_M_takeBack.cls ≠ "java/lang/invoke/MethodHandle" ∧ y_M_takeBack.cls ≠ "java/lang/invoke/VarHandle" ∧ (parseMethodDescriptor y_M_takeBack.desc).map (fun d => d.parameters.length) = some 0 := by decide +kernel
def rm_M_takeBack : Room := { frames := 0, cells := 0, slots := 0, locals := 0 }
def fb_M_takeBack_115 (N : Nat) (G : (MS → Int32 → Option (MS × Unit))) (u : MS) (v2 : Int32) : Option (MS × Unit) := br (decide ((u.1 65) < v2)) (some (u, ())) (ck (inb (((u.1 77) - 54) + (2 * v2)) (ln 76)) (ck (inb v2 (ln 60)) (lt (upA u 60 (upd (u.2.2.1 60) v2.toNatClampNeg (u.2.2.1 76 (((u.1 77) - 54) + (2 * v2)).toNatClampNeg))) (fun w1 => ck (inb ((((w1.1 77) - 54) + (2 * v2)) + 1) (ln 76)) (ck (inb v2 (ln 63)) (lt (upA w1 63 (upd (w1.2.2.1 63) v2.toNatClampNeg (w1.2.2.1 76 ((((w1.1 77) - 54) + (2 * v2)) + 1).toNatClampNeg))) (fun w2 => G w2 ((v2 + 1)))))))))
set_option maxRecDepth 100000 in
set_option maxHeartbeats 4000000 in
theorem wb_M_takeBack_115 {p : Program} {l : Launch} {e : Env} {R : Room} {s : State} {m : MethodId} {args : Array Value} {below : List Frame} {meth : Method} {c : Code} {D : va_G} {cl : List vw_C} {cB cI cJ cZ cS : ClassId} {A : Nat → Prop} {iM h0 : Nat} {ad : Nat → Nat} (C0 : MCx p s m args meth c b_M_takeBack 3 none D cl cB cI cJ cZ cS iM A) (hR : R = rm_M_takeBack) (N : Nat) (G : (MS → Int32 → Option (MS × Unit))) (hG : (∀ (u : MS) (v2 : Int32) (x : MS × Unit), G u v2 = some x → ∀ (H : Heap) (locs : List Loc), va_P D cl (wM cB cI cJ cZ cS iM h0 ad u) H → va_D A (wM cB cI cJ cZ cS iM h0 ad u) → va_S A s.heap H locs → ∀ (ls : Array Slot), lv_has ls 3 [(0, .ref h0), (2, .int v2)] → W p l e R s m args below meth c H locs 0 0 (MQ below (mQv D cl cB cI cJ cZ cS iM h0 ad A x) args s 0 0 A) (F0 m 115 ls []))) : ∀ (u : MS) (v2 : Int32) (x : MS × Unit), fb_M_takeBack_115 N G u v2 = some x → ∀ (H : Heap) (locs : List Loc), va_P D cl (wM cB cI cJ cZ cS iM h0 ad u) H → va_D A (wM cB cI cJ cZ cS iM h0 ad u) → va_S A s.heap H locs → ∀ (ls : Array Slot), lv_has ls 3 [(0, .ref h0), (2, .int v2)] → W p l e R s m args below meth c H locs 0 0 (MQ below (mQv D cl cB cI cJ cZ cS iM h0 ad A x) args s 0 0 A) (F0 m 115 ls []) := by
  intro u v2 x hf H locs hP hD hS ls hl
  obtain ⟨hx, hb, hr, hml, ht, hown, hM, hK, hA, hlocks⟩ := id C0
  unfold fb_M_takeBack_115 at hf
  refine lv_iload_n hx hb d_M_takeBack_115 rfl (lv_at hl 1 rfl) ?_
  refine lv_aload_n hx hb d_M_takeBack_116 rfl (lv_at hl 0 rfl) ?_
  refine ug_I hx hb ht hown hM hK hP 65 (by decide) lk_M_65 (by decide) d_M_takeBack_117 ?_
  refine lv_icmp_gt (tgt := 175) hx hb d_M_takeBack_120 (by decide) (fun hc => ?_) (fun hc => ?_)
  · rw [br_p _ hc] at hf
    exact mr_v C0 hP hD hS hf d_M_takeBack_175
  · rw [br_n _ hc] at hf
    refine lv_aload_n hx hb d_M_takeBack_123 rfl (lv_at hl 0 rfl) ?_
    refine ug_R hx hb ht hown hM hK hP 60 (by decide) lk_M_60 (by decide) d_M_takeBack_124 ?_
    refine lv_iload_n hx hb d_M_takeBack_127 rfl (lv_at hl 1 rfl) ?_
    refine lv_aload_n hx hb d_M_takeBack_128 rfl (lv_at hl 0 rfl) ?_
    refine ug_R hx hb ht hown hM hK hP 76 (by decide) lk_M_76 (by decide) d_M_takeBack_129 ?_
    refine lv_aload_n hx hb d_M_takeBack_132 rfl (lv_at hl 0 rfl) ?_
    refine ug_I hx hb ht hown hM hK hP 77 (by decide) lk_M_77 (by decide) d_M_takeBack_133 ?_
    refine lv_bipush (v := 54) hx hb d_M_takeBack_136 (by decide) ?_
    refine lv_isub hx hb d_M_takeBack_138 ?_
    refine lv_iconst (v := 2) hx hb d_M_takeBack_139 (by decide) ?_
    refine lv_iload_n hx hb d_M_takeBack_140 rfl (lv_at hl 1 rfl) ?_
    refine lv_imul hx hb d_M_takeBack_141 ?_
    refine lv_iadd hx hb d_M_takeBack_142 ?_
    obtain ⟨hi9, hf⟩ := ck_some hf
    refine ul_I hx hb hK hP (by decide) (by decide) hi9 d_M_takeBack_143 ?_
    obtain ⟨hi9, hf⟩ := ck_some hf
    refine us_I hx hb hK hP hD hS (by decide) (by decide) hi9 d_M_takeBack_144 (fun H locs hP hD hS => ?_)
    obtain ⟨w1, e1, hf⟩ := lt_some hf
    rw [← e1] at hP hD
    refine lv_aload_n hx hb d_M_takeBack_145 rfl (lv_at hl 0 rfl) ?_
    refine ug_R hx hb ht hown hM hK hP 63 (by decide) lk_M_63 (by decide) d_M_takeBack_146 ?_
    refine lv_iload_n hx hb d_M_takeBack_149 rfl (lv_at hl 1 rfl) ?_
    refine lv_aload_n hx hb d_M_takeBack_150 rfl (lv_at hl 0 rfl) ?_
    refine ug_R hx hb ht hown hM hK hP 76 (by decide) lk_M_76 (by decide) d_M_takeBack_151 ?_
    refine lv_aload_n hx hb d_M_takeBack_154 rfl (lv_at hl 0 rfl) ?_
    refine ug_I hx hb ht hown hM hK hP 77 (by decide) lk_M_77 (by decide) d_M_takeBack_155 ?_
    refine lv_bipush (v := 54) hx hb d_M_takeBack_158 (by decide) ?_
    refine lv_isub hx hb d_M_takeBack_160 ?_
    refine lv_iconst (v := 2) hx hb d_M_takeBack_161 (by decide) ?_
    refine lv_iload_n hx hb d_M_takeBack_162 rfl (lv_at hl 1 rfl) ?_
    refine lv_imul hx hb d_M_takeBack_163 ?_
    refine lv_iadd hx hb d_M_takeBack_164 ?_
    refine lv_iconst (v := 1) hx hb d_M_takeBack_165 (by decide) ?_
    refine lv_iadd hx hb d_M_takeBack_166 ?_
    obtain ⟨hi9, hf⟩ := ck_some hf
    refine ul_I hx hb hK hP (by decide) (by decide) hi9 d_M_takeBack_167 ?_
    obtain ⟨hi9, hf⟩ := ck_some hf
    refine us_I hx hb hK hP hD hS (by decide) (by decide) hi9 d_M_takeBack_168 (fun H locs hP hD hS => ?_)
    obtain ⟨w2, e2, hf⟩ := lt_some hf
    rw [← e2] at hP hD
    refine lv_iinc (v := (v2 + 1)) (lv' := [(2, .int (v2 + 1)), (0, .ref h0)]) hx hb d_M_takeBack_169 hl (k := 1) rfl rfl (by decide) rfl (fun ls hl => ?_)
    refine lv_goto (tgt := 115) hx hb d_M_takeBack_172 (by decide) ?_
    exact hG _ _ _ hf H locs hP hD hS ls (lv_sub hl [1, 0] rfl)
def fb_M_takeBack_110 (N : Nat) (G : (MS → Int32 → Option (MS × Unit))) (u : MS) (t1 : Int32) : Option (MS × Unit) := ck (isb t1) (lt (upI u 66 t1) (fun w3 => G w3 (0)))
set_option maxRecDepth 100000 in
set_option maxHeartbeats 4000000 in
theorem wb_M_takeBack_110 {p : Program} {l : Launch} {e : Env} {R : Room} {s : State} {m : MethodId} {args : Array Value} {below : List Frame} {meth : Method} {c : Code} {D : va_G} {cl : List vw_C} {cB cI cJ cZ cS : ClassId} {A : Nat → Prop} {iM h0 : Nat} {ad : Nat → Nat} (C0 : MCx p s m args meth c b_M_takeBack 3 none D cl cB cI cJ cZ cS iM A) (hR : R = rm_M_takeBack) (N : Nat) (G : (MS → Int32 → Option (MS × Unit))) (hG : (∀ (u : MS) (v2 : Int32) (x : MS × Unit), G u v2 = some x → ∀ (H : Heap) (locs : List Loc), va_P D cl (wM cB cI cJ cZ cS iM h0 ad u) H → va_D A (wM cB cI cJ cZ cS iM h0 ad u) → va_S A s.heap H locs → ∀ (ls : Array Slot), lv_has ls 3 [(0, .ref h0), (2, .int v2)] → W p l e R s m args below meth c H locs 0 0 (MQ below (mQv D cl cB cI cJ cZ cS iM h0 ad A x) args s 0 0 A) (F0 m 115 ls []))) : ∀ (u : MS) (t1 : Int32) (x : MS × Unit), fb_M_takeBack_110 N G u t1 = some x → ∀ (H : Heap) (locs : List Loc), va_P D cl (wM cB cI cJ cZ cS iM h0 ad u) H → va_D A (wM cB cI cJ cZ cS iM h0 ad u) → va_S A s.heap H locs → ∀ (ls : Array Slot), lv_has ls 3 [(0, .ref h0)] → W p l e R s m args below meth c H locs 0 0 (MQ below (mQv D cl cB cI cJ cZ cS iM h0 ad A x) args s 0 0 A) (F0 m 110 ls [.int t1, .ref h0]) := by
  intro u t1 x hf H locs hP hD hS ls hl
  obtain ⟨hx, hb, hr, hml, ht, hown, hM, hK, hA, hlocks⟩ := id C0
  unfold fb_M_takeBack_110 at hf
  obtain ⟨hz, hf⟩ := ck_some hf
  refine up_I hx hb ht hown hM hK hP hD hS 66 (by decide) lk_M_66 (by decide) rfl (isb_n hz) (isb_f hz) d_M_takeBack_110 (fun H locs hP hD hS => ?_)
  obtain ⟨w3, e3, hf⟩ := lt_some hf
  rw [← e3] at hP hD
  refine lv_iconst (v := 0) hx hb d_M_takeBack_113 (by decide) ?_
  refine lv_istore_n (lv' := [(2, .int 0), (0, .ref h0)]) hx hb d_M_takeBack_114 rfl hl (by decide) rfl (fun ls hl => ?_)
  exact hG _ _ _ hf H locs hP hD hS ls (lv_sub hl [1, 0] rfl)
def fb_M_takeBack_0 (N : Nat) (G : (MS → Int32 → Option (MS × Unit))) (u : MS) : Option (MS × Unit) := ck (inb ((u.1 75) - 8) (ln 74)) (lt (upI u 32 (u.2.2.1 74 ((u.1 75) - 8).toNatClampNeg)) (fun w4 => ck (inb (((u.1 75) - 8) + 1) (ln 74)) (lt (upI w4 39 (w4.2.2.1 74 (((u.1 75) - 8) + 1).toNatClampNeg)) (fun w5 => ck (inb (((u.1 75) - 8) + 2) (ln 74)) (lt (upI w5 46 (w5.2.2.1 74 (((u.1 75) - 8) + 2).toNatClampNeg)) (fun w6 => ck (inb (((u.1 75) - 8) + 3) (ln 74)) (lt (upI w6 56 (w6.2.2.1 74 (((u.1 75) - 8) + 3).toNatClampNeg)) (fun w7 => ck (inb (((u.1 75) - 8) + 4) (ln 74)) (lt (upI w7 58 (w7.2.2.1 74 (((u.1 75) - 8) + 4).toNatClampNeg)) (fun w8 => ck (inb (((u.1 75) - 8) + 5) (ln 74)) (lt (upI w8 71 (w8.2.2.1 74 (((u.1 75) - 8) + 5).toNatClampNeg)) (fun w9 => ck (inb (((u.1 75) - 8) + 6) (ln 74)) (lt (upI w9 72 (w9.2.2.1 74 (((u.1 75) - 8) + 6).toNatClampNeg)) (fun w10 => ck (inb (((u.1 75) - 8) + 7) (ln 74)) (br (decide ((w10.2.2.1 74 (((u.1 75) - 8) + 7).toNatClampNeg) = 1)) (fb_M_takeBack_110 N G w10 (1)) (fb_M_takeBack_110 N G w10 (0)))))))))))))))))
set_option maxRecDepth 100000 in
set_option maxHeartbeats 4000000 in
theorem wb_M_takeBack_0 {p : Program} {l : Launch} {e : Env} {R : Room} {s : State} {m : MethodId} {args : Array Value} {below : List Frame} {meth : Method} {c : Code} {D : va_G} {cl : List vw_C} {cB cI cJ cZ cS : ClassId} {A : Nat → Prop} {iM h0 : Nat} {ad : Nat → Nat} (C0 : MCx p s m args meth c b_M_takeBack 3 none D cl cB cI cJ cZ cS iM A) (hR : R = rm_M_takeBack) (N : Nat) (G : (MS → Int32 → Option (MS × Unit))) (hG : (∀ (u : MS) (v2 : Int32) (x : MS × Unit), G u v2 = some x → ∀ (H : Heap) (locs : List Loc), va_P D cl (wM cB cI cJ cZ cS iM h0 ad u) H → va_D A (wM cB cI cJ cZ cS iM h0 ad u) → va_S A s.heap H locs → ∀ (ls : Array Slot), lv_has ls 3 [(0, .ref h0), (2, .int v2)] → W p l e R s m args below meth c H locs 0 0 (MQ below (mQv D cl cB cI cJ cZ cS iM h0 ad A x) args s 0 0 A) (F0 m 115 ls []))) : ∀ (u : MS) (x : MS × Unit), fb_M_takeBack_0 N G u = some x → ∀ (H : Heap) (locs : List Loc), va_P D cl (wM cB cI cJ cZ cS iM h0 ad u) H → va_D A (wM cB cI cJ cZ cS iM h0 ad u) → va_S A s.heap H locs → ∀ (ls : Array Slot), lv_has ls 3 [(0, .ref h0)] → W p l e R s m args below meth c H locs 0 0 (MQ below (mQv D cl cB cI cJ cZ cS iM h0 ad A x) args s 0 0 A) (F0 m 0 ls []) := by
  intro u x hf H locs hP hD hS ls hl
  obtain ⟨hx, hb, hr, hml, ht, hown, hM, hK, hA, hlocks⟩ := id C0
  unfold fb_M_takeBack_0 at hf
  refine lv_aload_n hx hb d_M_takeBack_0 rfl (lv_at hl 0 rfl) ?_
  refine ug_I hx hb ht hown hM hK hP 75 (by decide) lk_M_75 (by decide) d_M_takeBack_1 ?_
  refine lv_bipush (v := 8) hx hb d_M_takeBack_4 (by decide) ?_
  refine lv_isub hx hb d_M_takeBack_6 ?_
  refine lv_istore_n (lv' := [(1, .int ((u.1 75) - 8)), (0, .ref h0)]) hx hb d_M_takeBack_7 rfl hl (by decide) rfl (fun ls hl => ?_)
  refine lv_aload_n hx hb d_M_takeBack_8 rfl (lv_at hl 1 rfl) ?_
  refine lv_aload_n hx hb d_M_takeBack_9 rfl (lv_at hl 1 rfl) ?_
  refine ug_R hx hb ht hown hM hK hP 74 (by decide) lk_M_74 (by decide) d_M_takeBack_10 ?_
  refine lv_iload_n hx hb d_M_takeBack_13 rfl (lv_at hl 0 rfl) ?_
  obtain ⟨hi9, hf⟩ := ck_some hf
  refine ul_I hx hb hK hP (by decide) (by decide) hi9 d_M_takeBack_14 ?_
  refine up_I hx hb ht hown hM hK hP hD hS 32 (by decide) lk_M_32 (by decide) rfl rfl rfl d_M_takeBack_15 (fun H locs hP hD hS => ?_)
  obtain ⟨w4, e4, hf⟩ := lt_some hf
  rw [← e4] at hP hD
  refine lv_aload_n hx hb d_M_takeBack_18 rfl (lv_at hl 1 rfl) ?_
  refine lv_aload_n hx hb d_M_takeBack_19 rfl (lv_at hl 1 rfl) ?_
  refine ug_R hx hb ht hown hM hK hP 74 (by decide) lk_M_74 (by decide) d_M_takeBack_20 ?_
  refine lv_iload_n hx hb d_M_takeBack_23 rfl (lv_at hl 0 rfl) ?_
  refine lv_iconst (v := 1) hx hb d_M_takeBack_24 (by decide) ?_
  refine lv_iadd hx hb d_M_takeBack_25 ?_
  obtain ⟨hi9, hf⟩ := ck_some hf
  refine ul_I hx hb hK hP (by decide) (by decide) hi9 d_M_takeBack_26 ?_
  refine up_I hx hb ht hown hM hK hP hD hS 39 (by decide) lk_M_39 (by decide) rfl rfl rfl d_M_takeBack_27 (fun H locs hP hD hS => ?_)
  obtain ⟨w5, e5, hf⟩ := lt_some hf
  rw [← e5] at hP hD
  refine lv_aload_n hx hb d_M_takeBack_30 rfl (lv_at hl 1 rfl) ?_
  refine lv_aload_n hx hb d_M_takeBack_31 rfl (lv_at hl 1 rfl) ?_
  refine ug_R hx hb ht hown hM hK hP 74 (by decide) lk_M_74 (by decide) d_M_takeBack_32 ?_
  refine lv_iload_n hx hb d_M_takeBack_35 rfl (lv_at hl 0 rfl) ?_
  refine lv_iconst (v := 2) hx hb d_M_takeBack_36 (by decide) ?_
  refine lv_iadd hx hb d_M_takeBack_37 ?_
  obtain ⟨hi9, hf⟩ := ck_some hf
  refine ul_I hx hb hK hP (by decide) (by decide) hi9 d_M_takeBack_38 ?_
  refine up_I hx hb ht hown hM hK hP hD hS 46 (by decide) lk_M_46 (by decide) rfl rfl rfl d_M_takeBack_39 (fun H locs hP hD hS => ?_)
  obtain ⟨w6, e6, hf⟩ := lt_some hf
  rw [← e6] at hP hD
  refine lv_aload_n hx hb d_M_takeBack_42 rfl (lv_at hl 1 rfl) ?_
  refine lv_aload_n hx hb d_M_takeBack_43 rfl (lv_at hl 1 rfl) ?_
  refine ug_R hx hb ht hown hM hK hP 74 (by decide) lk_M_74 (by decide) d_M_takeBack_44 ?_
  refine lv_iload_n hx hb d_M_takeBack_47 rfl (lv_at hl 0 rfl) ?_
  refine lv_iconst (v := 3) hx hb d_M_takeBack_48 (by decide) ?_
  refine lv_iadd hx hb d_M_takeBack_49 ?_
  obtain ⟨hi9, hf⟩ := ck_some hf
  refine ul_I hx hb hK hP (by decide) (by decide) hi9 d_M_takeBack_50 ?_
  refine up_I hx hb ht hown hM hK hP hD hS 56 (by decide) lk_M_56 (by decide) rfl rfl rfl d_M_takeBack_51 (fun H locs hP hD hS => ?_)
  obtain ⟨w7, e7, hf⟩ := lt_some hf
  rw [← e7] at hP hD
  refine lv_aload_n hx hb d_M_takeBack_54 rfl (lv_at hl 1 rfl) ?_
  refine lv_aload_n hx hb d_M_takeBack_55 rfl (lv_at hl 1 rfl) ?_
  refine ug_R hx hb ht hown hM hK hP 74 (by decide) lk_M_74 (by decide) d_M_takeBack_56 ?_
  refine lv_iload_n hx hb d_M_takeBack_59 rfl (lv_at hl 0 rfl) ?_
  refine lv_iconst (v := 4) hx hb d_M_takeBack_60 (by decide) ?_
  refine lv_iadd hx hb d_M_takeBack_61 ?_
  obtain ⟨hi9, hf⟩ := ck_some hf
  refine ul_I hx hb hK hP (by decide) (by decide) hi9 d_M_takeBack_62 ?_
  refine up_I hx hb ht hown hM hK hP hD hS 58 (by decide) lk_M_58 (by decide) rfl rfl rfl d_M_takeBack_63 (fun H locs hP hD hS => ?_)
  obtain ⟨w8, e8, hf⟩ := lt_some hf
  rw [← e8] at hP hD
  refine lv_aload_n hx hb d_M_takeBack_66 rfl (lv_at hl 1 rfl) ?_
  refine lv_aload_n hx hb d_M_takeBack_67 rfl (lv_at hl 1 rfl) ?_
  refine ug_R hx hb ht hown hM hK hP 74 (by decide) lk_M_74 (by decide) d_M_takeBack_68 ?_
  refine lv_iload_n hx hb d_M_takeBack_71 rfl (lv_at hl 0 rfl) ?_
  refine lv_iconst (v := 5) hx hb d_M_takeBack_72 (by decide) ?_
  refine lv_iadd hx hb d_M_takeBack_73 ?_
  obtain ⟨hi9, hf⟩ := ck_some hf
  refine ul_I hx hb hK hP (by decide) (by decide) hi9 d_M_takeBack_74 ?_
  refine up_I hx hb ht hown hM hK hP hD hS 71 (by decide) lk_M_71 (by decide) rfl rfl rfl d_M_takeBack_75 (fun H locs hP hD hS => ?_)
  obtain ⟨w9, e9, hf⟩ := lt_some hf
  rw [← e9] at hP hD
  refine lv_aload_n hx hb d_M_takeBack_78 rfl (lv_at hl 1 rfl) ?_
  refine lv_aload_n hx hb d_M_takeBack_79 rfl (lv_at hl 1 rfl) ?_
  refine ug_R hx hb ht hown hM hK hP 74 (by decide) lk_M_74 (by decide) d_M_takeBack_80 ?_
  refine lv_iload_n hx hb d_M_takeBack_83 rfl (lv_at hl 0 rfl) ?_
  refine lv_bipush (v := 6) hx hb d_M_takeBack_84 (by decide) ?_
  refine lv_iadd hx hb d_M_takeBack_86 ?_
  obtain ⟨hi9, hf⟩ := ck_some hf
  refine ul_I hx hb hK hP (by decide) (by decide) hi9 d_M_takeBack_87 ?_
  refine up_I hx hb ht hown hM hK hP hD hS 72 (by decide) lk_M_72 (by decide) rfl rfl rfl d_M_takeBack_88 (fun H locs hP hD hS => ?_)
  obtain ⟨w10, e10, hf⟩ := lt_some hf
  rw [← e10] at hP hD
  refine lv_aload_n hx hb d_M_takeBack_91 rfl (lv_at hl 1 rfl) ?_
  refine lv_aload_n hx hb d_M_takeBack_92 rfl (lv_at hl 1 rfl) ?_
  refine ug_R hx hb ht hown hM hK hP 74 (by decide) lk_M_74 (by decide) d_M_takeBack_93 ?_
  refine lv_iload_n hx hb d_M_takeBack_96 rfl (lv_at hl 0 rfl) ?_
  refine lv_bipush (v := 7) hx hb d_M_takeBack_97 (by decide) ?_
  refine lv_iadd hx hb d_M_takeBack_99 ?_
  obtain ⟨hi9, hf⟩ := ck_some hf
  refine ul_I hx hb hK hP (by decide) (by decide) hi9 d_M_takeBack_100 ?_
  refine lv_iconst (v := 1) hx hb d_M_takeBack_101 (by decide) ?_
  refine lv_icmp_ne (tgt := 109) hx hb d_M_takeBack_102 (by decide) (fun hc => ?_) (fun hc => ?_)
  · rw [br_n _ hc] at hf
    refine lv_iconst (v := 0) hx hb d_M_takeBack_109 (by decide) ?_
    exact wb_M_takeBack_110 C0 hR N G hG _ _ _ hf H locs hP hD hS ls (lv_sub hl [1] rfl)
  · rw [br_p _ hc] at hf
    refine lv_iconst (v := 1) hx hb d_M_takeBack_105 (by decide) ?_
    refine lv_goto (tgt := 110) hx hb d_M_takeBack_106 (by decide) ?_
    exact wb_M_takeBack_110 C0 hR N G hG _ _ _ hf H locs hP hD hS ls (lv_sub hl [1] rfl)
def gg_M_takeBack (N : Nat) : Nat → ((MS → Int32 → Option (MS × Unit)))
  | 0 => fun _ _ => none
  | n + 1 => fb_M_takeBack_115 N (gg_M_takeBack N n)
theorem wg_M_takeBack {p : Program} {l : Launch} {e : Env} {R : Room} {s : State} {m : MethodId} {args : Array Value} {below : List Frame} {meth : Method} {c : Code} {D : va_G} {cl : List vw_C} {cB cI cJ cZ cS : ClassId} {A : Nat → Prop} {iM h0 : Nat} {ad : Nat → Nat} (C0 : MCx p s m args meth c b_M_takeBack 3 none D cl cB cI cJ cZ cS iM A) (hR : R = rm_M_takeBack) (N : Nat) : ∀ n : Nat, (∀ (u : MS) (v2 : Int32) (x : MS × Unit), gg_M_takeBack N n u v2 = some x → ∀ (H : Heap) (locs : List Loc), va_P D cl (wM cB cI cJ cZ cS iM h0 ad u) H → va_D A (wM cB cI cJ cZ cS iM h0 ad u) → va_S A s.heap H locs → ∀ (ls : Array Slot), lv_has ls 3 [(0, .ref h0), (2, .int v2)] → W p l e R s m args below meth c H locs 0 0 (MQ below (mQv D cl cB cI cJ cZ cS iM h0 ad A x) args s 0 0 A) (F0 m 115 ls []))
  | 0 => (fun u v2 x hf => by cases hf)
  | n + 1 => wb_M_takeBack_115 C0 hR N (gg_M_takeBack N n) (wg_M_takeBack C0 hR N n)
def fm_M_takeBack (N : Nat) (u : MS) : Option (MS × Unit) := fb_M_takeBack_0 N (gg_M_takeBack N N) u
set_option maxRecDepth 100000 in
set_option maxHeartbeats 4000000 in
theorem c_M_takeBack (N : Nat) {l : Launch} {D : va_G} {cl : List vw_C} {cB cI cJ cZ cS : ClassId} {iM h0 : Nat} {ad : Nat → Nat} {u : MS} {sz : Nat} {x : MS × Unit} (hM : cl[iM]? = some (R_M, F_M, 171)) (hf : fm_M_takeBack N u = some x) : Met l y_M_takeBack (wd_ws y_M_takeBack b_M_takeBack 3 none) rm_M_takeBack (mPc D cl cB cI cJ cZ cS iM h0 ad u sz [.ref h0]) (mQv D cl cB cI cJ cZ cS iM h0 ad (mA cB cI cJ cZ cS iM h0 ad u sz) x) 0 0 (mA cB cI cJ cZ cS iM h0 ad u sz) :=
  mMet (by decide) rfl hM (Nat.le_of_ble_eq_true rfl) (fun p e s m below meth c ls hsz C0 hP hD hS hl => by
    have hR : rm_M_takeBack = rm_M_takeBack := rfl
    exact wb_M_takeBack_0 C0 hR N (gg_M_takeBack N N) (wg_M_takeBack C0 hR N N) u x hf s.heap [] hP hD hS ls (lv_sub hl [0] rfl))
abbrev b_M_forgetSaved : ByteArray := prog_14_method_56_code
def y_M_forgetSaved : MethodName := ⟨R_M, "forgetSaved", "()V"⟩
def w_M_forgetSaved : List Cond := wd_ws y_M_forgetSaved b_M_forgetSaved 1 none
set_option maxRecDepth 100000 in
theorem k_M_forgetSaved : Cond.code y_M_forgetSaved b_M_forgetSaved 1 none ∈ wd_tbl := wd_of 2873 rfl rfl
theorem d_M_forgetSaved_0 : decode b_M_forgetSaved 0 = .ok (.aload_n 0, 1) := by decide +kernel
theorem d_M_forgetSaved_1 : decode b_M_forgetSaved 1 = .ok (.dup, 1) := by decide +kernel
theorem d_M_forgetSaved_2 : decode b_M_forgetSaved 2 = .ok (.getfield 586, 3) := by decide +kernel
theorem d_M_forgetSaved_5 : decode b_M_forgetSaved 5 = .ok (.bipush 8, 2) := by decide +kernel
theorem d_M_forgetSaved_7 : decode b_M_forgetSaved 7 = .ok (.isub, 1) := by decide +kernel
theorem d_M_forgetSaved_8 : decode b_M_forgetSaved 8 = .ok (.putfield 586, 3) := by decide +kernel
theorem d_M_forgetSaved_11 : decode b_M_forgetSaved 11 = .ok (.aload_n 0, 1) := by decide +kernel
theorem d_M_forgetSaved_12 : decode b_M_forgetSaved 12 = .ok (.dup, 1) := by decide +kernel
theorem d_M_forgetSaved_13 : decode b_M_forgetSaved 13 = .ok (.getfield 589, 3) := by decide +kernel
theorem d_M_forgetSaved_16 : decode b_M_forgetSaved 16 = .ok (.bipush 54, 2) := by decide +kernel
theorem d_M_forgetSaved_18 : decode b_M_forgetSaved 18 = .ok (.isub, 1) := by decide +kernel
theorem d_M_forgetSaved_19 : decode b_M_forgetSaved 19 = .ok (.putfield 589, 3) := by decide +kernel
theorem d_M_forgetSaved_22 : decode b_M_forgetSaved 22 = .ok (.return_, 1) := by decide +kernel
set_option maxRecDepth 100000 in
theorem hl_M_forgetSaved : Cond.methodLink R_M 604 y_M_forgetSaved ∈ wd_tbl := wd_of 2870 (by decide +kernel) rfl
set_option maxRecDepth 100000 in
theorem hi_M_forgetSaved : Cond.instanceMethod y_M_forgetSaved ∈ wd_tbl := wd_of 2872 (by decide +kernel) rfl
set_option maxRecDepth 100000 in
theorem hs_M_forgetSaved : Cond.selects R_M y_M_forgetSaved y_M_forgetSaved ∈ wd_tbl := wd_of 180 (by decide +kernel) rfl
theorem hd_M_forgetSaved : y_M_forgetSaved.cls = R_M ∧ y_M_forgetSaved.cls ≠ "java/lang/invoke/MethodHandle" ∧ y_M_forgetSaved.cls ≠ "java/lang/invoke/VarHandle" ∧ (parseMethodDescriptor y_M_forgetSaved.desc).map (fun d => d.parameters.length) = some 0 := by decide +kernel
def rm_M_forgetSaved : Room := { frames := 0, cells := 0, slots := 0, locals := 0 }
def fb_M_forgetSaved_0 (N : Nat) (G : Unit) (u : MS) : Option (MS × Unit) := lt (upI u 75 ((u.1 75) - 8)) (fun w1 => lt (upI w1 77 ((w1.1 77) - 54)) (fun w2 => some (w2, ())))
set_option maxRecDepth 100000 in
set_option maxHeartbeats 4000000 in
theorem wb_M_forgetSaved_0 {p : Program} {l : Launch} {e : Env} {R : Room} {s : State} {m : MethodId} {args : Array Value} {below : List Frame} {meth : Method} {c : Code} {D : va_G} {cl : List vw_C} {cB cI cJ cZ cS : ClassId} {A : Nat → Prop} {iM h0 : Nat} {ad : Nat → Nat} (C0 : MCx p s m args meth c b_M_forgetSaved 1 none D cl cB cI cJ cZ cS iM A) (hR : R = rm_M_forgetSaved) (N : Nat) (G : Unit) (hG : True) : ∀ (u : MS) (x : MS × Unit), fb_M_forgetSaved_0 N G u = some x → ∀ (H : Heap) (locs : List Loc), va_P D cl (wM cB cI cJ cZ cS iM h0 ad u) H → va_D A (wM cB cI cJ cZ cS iM h0 ad u) → va_S A s.heap H locs → ∀ (ls : Array Slot), lv_has ls 1 [(0, .ref h0)] → W p l e R s m args below meth c H locs 0 0 (MQ below (mQv D cl cB cI cJ cZ cS iM h0 ad A x) args s 0 0 A) (F0 m 0 ls []) := by
  intro u x hf H locs hP hD hS ls hl
  obtain ⟨hx, hb, hr, hml, ht, hown, hM, hK, hA, hlocks⟩ := id C0
  unfold fb_M_forgetSaved_0 at hf
  refine lv_aload_n hx hb d_M_forgetSaved_0 rfl (lv_at hl 0 rfl) ?_
  refine lv_dup hx hb d_M_forgetSaved_1 rfl ?_
  refine ug_I hx hb ht hown hM hK hP 75 (by decide) lk_M_75 (by decide) d_M_forgetSaved_2 ?_
  refine lv_bipush (v := 8) hx hb d_M_forgetSaved_5 (by decide) ?_
  refine lv_isub hx hb d_M_forgetSaved_7 ?_
  refine up_I hx hb ht hown hM hK hP hD hS 75 (by decide) lk_M_75 (by decide) rfl rfl rfl d_M_forgetSaved_8 (fun H locs hP hD hS => ?_)
  obtain ⟨w1, e1, hf⟩ := lt_some hf
  rw [← e1] at hP hD
  refine lv_aload_n hx hb d_M_forgetSaved_11 rfl (lv_at hl 0 rfl) ?_
  refine lv_dup hx hb d_M_forgetSaved_12 rfl ?_
  refine ug_I hx hb ht hown hM hK hP 77 (by decide) lk_M_77 (by decide) d_M_forgetSaved_13 ?_
  refine lv_bipush (v := 54) hx hb d_M_forgetSaved_16 (by decide) ?_
  refine lv_isub hx hb d_M_forgetSaved_18 ?_
  refine up_I hx hb ht hown hM hK hP hD hS 77 (by decide) lk_M_77 (by decide) rfl rfl rfl d_M_forgetSaved_19 (fun H locs hP hD hS => ?_)
  obtain ⟨w2, e2, hf⟩ := lt_some hf
  rw [← e2] at hP hD
  exact mr_v C0 hP hD hS hf d_M_forgetSaved_22
def fm_M_forgetSaved (N : Nat) (u : MS) : Option (MS × Unit) := fb_M_forgetSaved_0 N () u
set_option maxRecDepth 100000 in
set_option maxHeartbeats 4000000 in
theorem c_M_forgetSaved (N : Nat) {l : Launch} {D : va_G} {cl : List vw_C} {cB cI cJ cZ cS : ClassId} {iM h0 : Nat} {ad : Nat → Nat} {u : MS} {sz : Nat} {x : MS × Unit} (hM : cl[iM]? = some (R_M, F_M, 171)) (hf : fm_M_forgetSaved N u = some x) : Met l y_M_forgetSaved (wd_ws y_M_forgetSaved b_M_forgetSaved 1 none) rm_M_forgetSaved (mPc D cl cB cI cJ cZ cS iM h0 ad u sz [.ref h0]) (mQv D cl cB cI cJ cZ cS iM h0 ad (mA cB cI cJ cZ cS iM h0 ad u sz) x) 0 0 (mA cB cI cJ cZ cS iM h0 ad u sz) :=
  mMet (by decide) rfl hM (Nat.le_of_ble_eq_true rfl) (fun p e s m below meth c ls hsz C0 hP hD hS hl => by
    have hR : rm_M_forgetSaved = rm_M_forgetSaved := rfl
    exact wb_M_forgetSaved_0 C0 hR N () trivial u x hf s.heap [] hP hD hS ls (lv_sub hl [0] rfl))
abbrev b_M_last : ByteArray := prog_14_method_43_code
def y_M_last : MethodName := ⟨R_M, "last", "(I)V"⟩
def w_M_last : List Cond := wd_ws y_M_last b_M_last 3 none
set_option maxRecDepth 100000 in
theorem k_M_last : Cond.code y_M_last b_M_last 3 none ∈ wd_tbl := wd_of 2877 rfl rfl
theorem d_M_last_0 : decode b_M_last 0 = .ok (.iload_n 1, 1) := by decide +kernel
theorem d_M_last_1 : decode b_M_last 1 = .ok (.iconst (-1), 1) := by decide +kernel
theorem d_M_last_2 : decode b_M_last 2 = .ok (.if_icmp .ne 4, 3) := by decide +kernel
theorem d_M_last_5 : decode b_M_last 5 = .ok (.return_, 1) := by decide +kernel
theorem d_M_last_6 : decode b_M_last 6 = .ok (.aload_n 0, 1) := by decide +kernel
theorem d_M_last_7 : decode b_M_last 7 = .ok (.getfield 56, 3) := by decide +kernel
theorem d_M_last_10 : decode b_M_last 10 = .ok (.iload_n 1, 1) := by decide +kernel
theorem d_M_last_11 : decode b_M_last 11 = .ok (.baload, 1) := by decide +kernel
theorem d_M_last_12 : decode b_M_last 12 = .ok (.bipush 12, 2) := by decide +kernel
theorem d_M_last_14 : decode b_M_last 14 = .ok (.if_icmp .eq 14, 3) := by decide +kernel
theorem d_M_last_17 : decode b_M_last 17 = .ok (.aload_n 0, 1) := by decide +kernel
theorem d_M_last_18 : decode b_M_last 18 = .ok (.getfield 56, 3) := by decide +kernel
theorem d_M_last_21 : decode b_M_last 21 = .ok (.iload_n 1, 1) := by decide +kernel
theorem d_M_last_22 : decode b_M_last 22 = .ok (.baload, 1) := by decide +kernel
theorem d_M_last_23 : decode b_M_last 23 = .ok (.bipush 13, 2) := by decide +kernel
theorem d_M_last_25 : decode b_M_last 25 = .ok (.if_icmp .ne 10, 3) := by decide +kernel
theorem d_M_last_28 : decode b_M_last 28 = .ok (.aload_n 0, 1) := by decide +kernel
theorem d_M_last_29 : decode b_M_last 29 = .ok (.getfield 78, 3) := by decide +kernel
theorem d_M_last_32 : decode b_M_last 32 = .ok (.iload_n 1, 1) := by decide +kernel
theorem d_M_last_33 : decode b_M_last 33 = .ok (.iconst 1, 1) := by decide +kernel
theorem d_M_last_34 : decode b_M_last 34 = .ok (.bastore, 1) := by decide +kernel
theorem d_M_last_35 : decode b_M_last 35 = .ok (.aload_n 0, 1) := by decide +kernel
theorem d_M_last_36 : decode b_M_last 36 = .ok (.getfield 72, 3) := by decide +kernel
theorem d_M_last_39 : decode b_M_last 39 = .ok (.iload_n 1, 1) := by decide +kernel
theorem d_M_last_40 : decode b_M_last 40 = .ok (.iaload, 1) := by decide +kernel
theorem d_M_last_41 : decode b_M_last 41 = .ok (.istore_n 2, 1) := by decide +kernel
theorem d_M_last_42 : decode b_M_last 42 = .ok (.iload_n 2, 1) := by decide +kernel
theorem d_M_last_43 : decode b_M_last 43 = .ok (.iconst (-1), 1) := by decide +kernel
theorem d_M_last_44 : decode b_M_last 44 = .ok (.if_icmp .eq 18, 3) := by decide +kernel
theorem d_M_last_47 : decode b_M_last 47 = .ok (.aload_n 0, 1) := by decide +kernel
theorem d_M_last_48 : decode b_M_last 48 = .ok (.iload_n 2, 1) := by decide +kernel
theorem d_M_last_49 : decode b_M_last 49 = .ok (.invokevirtual 546, 3) := by decide +kernel
theorem d_M_last_52 : decode b_M_last 52 = .ok (.aload_n 0, 1) := by decide +kernel
theorem d_M_last_53 : decode b_M_last 53 = .ok (.getfield 75, 3) := by decide +kernel
theorem d_M_last_56 : decode b_M_last 56 = .ok (.iload_n 2, 1) := by decide +kernel
theorem d_M_last_57 : decode b_M_last 57 = .ok (.iaload, 1) := by decide +kernel
theorem d_M_last_58 : decode b_M_last 58 = .ok (.istore_n 2, 1) := by decide +kernel
theorem d_M_last_59 : decode b_M_last 59 = .ok (.goto (-17), 3) := by decide +kernel
theorem d_M_last_62 : decode b_M_last 62 = .ok (.return_, 1) := by decide +kernel
set_option maxRecDepth 100000 in
theorem hl_M_last : Cond.methodLink R_M 546 y_M_last ∈ wd_tbl := wd_of 2874 (by decide +kernel) rfl
set_option maxRecDepth 100000 in
theorem hi_M_last : Cond.instanceMethod y_M_last ∈ wd_tbl := wd_of 2876 (by decide +kernel) rfl
set_option maxRecDepth 100000 in
theorem hs_M_last : Cond.selects R_M y_M_last y_M_last ∈ wd_tbl := wd_of 181 (by decide +kernel) rfl
theorem hd_M_last : y_M_last.cls = R_M ∧ y_M_last.cls ≠ "java/lang/invoke/MethodHandle" ∧ y_M_last.cls ≠ "java/lang/invoke/VarHandle" ∧ (parseMethodDescriptor y_M_last.desc).map (fun d => d.parameters.length) = some 1 := by decide +kernel
def rg_M_last (d : Nat) : Room := { frames := 0 + d, cells := 0, slots := 0, locals := 0 + 22 * d }
abbrev SG_M_last : Type := (MS → Int32 → Option (MS × Unit))
def HS_M_last (l : Launch) (D : va_G) (cl : List vw_C) (cB cI cJ cZ cS : ClassId) (iM h0 : Nat) (ad : Nat → Nat) (rm : Room) (S : SG_M_last) : Prop := (∀ (u : MS) (v1 : Int32) (x : MS × Unit) (sz : Nat), S u v1 = some x → Met l y_M_last (wd_ws y_M_last b_M_last 3 none) rm (mPc D cl cB cI cJ cZ cS iM h0 ad u sz [.ref h0, .int v1]) (mQv D cl cB cI cJ cZ cS iM h0 ad (mA cB cI cJ cZ cS iM h0 ad u sz) x) 0 0 (mA cB cI cJ cZ cS iM h0 ad u sz))
theorem rm_M_last_M_last {R : Room} {d : Nat} (hR : R = rg_M_last (d + 1)) : (rg_M_last d).frames + 1 ≤ R.frames ∧ 8 + (3 + 11) + (rg_M_last d).locals ≤ R.locals := by
  subst hR
  show 0 + d + 1 ≤ 0 + (d + 1) ∧ 8 + (3 + 11) + (0 + 22 * d) ≤ 0 + 22 * (d + 1)
  omega
def fb_M_last_42 (N : Nat) (S : SG_M_last) (G : (MS → Int32 → Option (MS × Unit))) (u : MS) (v2 : Int32) : Option (MS × Unit) := br (decide (v2 = (-1))) (some (u, ())) (bnd (S u v2) (fun u1 _ => ck (inb v2 (ln 29)) (G u1 ((u1.2.2.1 29 v2.toNatClampNeg)))))
set_option maxRecDepth 100000 in
set_option maxHeartbeats 4000000 in
theorem wb_M_last_42 {p : Program} {l : Launch} {e : Env} {R : Room} {s : State} {m : MethodId} {args : Array Value} {below : List Frame} {meth : Method} {c : Code} {D : va_G} {cl : List vw_C} {cB cI cJ cZ cS : ClassId} {A : Nat → Prop} {iM h0 : Nat} {ad : Nat → Nat} (C0 : MCx p s m args meth c b_M_last 3 none D cl cB cI cJ cZ cS iM A) {d : Nat} (hR : R = rg_M_last (d + 1)) (N : Nat) (S : SG_M_last) (hSg : HS_M_last l D cl cB cI cJ cZ cS iM h0 ad (rg_M_last d) S) (G : (MS → Int32 → Option (MS × Unit))) (hG : (∀ (u : MS) (v2 : Int32) (x : MS × Unit), G u v2 = some x → ∀ (H : Heap) (locs : List Loc), va_P D cl (wM cB cI cJ cZ cS iM h0 ad u) H → va_D A (wM cB cI cJ cZ cS iM h0 ad u) → va_S A s.heap H locs → ∀ (ls : Array Slot), lv_has ls 3 [(0, .ref h0), (2, .int v2)] → W p l e R s m args below meth c H locs 0 0 (MQ below (mQv D cl cB cI cJ cZ cS iM h0 ad A x) args s 0 0 A) (F0 m 42 ls []))) : ∀ (u : MS) (v2 : Int32) (x : MS × Unit), fb_M_last_42 N S G u v2 = some x → ∀ (H : Heap) (locs : List Loc), va_P D cl (wM cB cI cJ cZ cS iM h0 ad u) H → va_D A (wM cB cI cJ cZ cS iM h0 ad u) → va_S A s.heap H locs → ∀ (ls : Array Slot), lv_has ls 3 [(0, .ref h0), (2, .int v2)] → W p l e R s m args below meth c H locs 0 0 (MQ below (mQv D cl cB cI cJ cZ cS iM h0 ad A x) args s 0 0 A) (F0 m 42 ls []) := by
  intro u v2 x hf H locs hP hD hS ls hl
  obtain ⟨hx, hb, hr, hml, ht, hown, hM, hK, hA, hlocks⟩ := id C0
  unfold fb_M_last_42 at hf
  refine lv_iload_n hx hb d_M_last_42 rfl (lv_at hl 1 rfl) ?_
  refine lv_iconst (v := (-1)) hx hb d_M_last_43 (by decide) ?_
  refine lv_icmp_eq (tgt := 62) hx hb d_M_last_44 (by decide) (fun hc => ?_) (fun hc => ?_)
  · rw [br_p _ hc] at hf
    exact mr_v C0 hP hD hS hf d_M_last_62
  · rw [br_n _ hc] at hf
    refine lv_aload_n hx hb d_M_last_47 rfl (lv_at hl 0 rfl) ?_
    refine lv_iload_n hx hb d_M_last_48 rfl (lv_at hl 1 rfl) ?_
    obtain ⟨u1, r1, hc1, hf⟩ := bnd_some hf
    refine mV_v (As := [.int v2]) (rest := []) C0 hP hD hS (hSg _ _ _ _ hc1) k_M_last hl_M_last hi_M_last hs_M_last hini_M rfl rfl hd_M_last rfl (rm_M_last_M_last hR) hl.1 (Nat.le_of_ble_eq_true rfl) d_M_last_49 rfl ⟨Nat.zero_le _, Nat.zero_le _⟩ (fun H locs hP hD hS => ?_)
    refine lv_aload_n hx hb d_M_last_52 rfl (lv_at hl 0 rfl) ?_
    refine ug_R hx hb ht hown hM hK hP 29 (by decide) lk_M_29 (by decide) d_M_last_53 ?_
    refine lv_iload_n hx hb d_M_last_56 rfl (lv_at hl 1 rfl) ?_
    obtain ⟨hi9, hf⟩ := ck_some hf
    refine ul_I hx hb hK hP (by decide) (by decide) hi9 d_M_last_57 ?_
    refine lv_istore_n (lv' := [(2, .int (u1.2.2.1 29 v2.toNatClampNeg)), (0, .ref h0)]) hx hb d_M_last_58 rfl hl (by decide) rfl (fun ls hl => ?_)
    refine lv_goto (tgt := 42) hx hb d_M_last_59 (by decide) ?_
    exact hG _ _ _ hf H locs hP hD hS ls (lv_sub hl [1, 0] rfl)
def fb_M_last_35 (N : Nat) (S : SG_M_last) (G : (MS → Int32 → Option (MS × Unit))) (u : MS) (v1 : Int32) : Option (MS × Unit) := ck (inb v1 (ln 28)) (G u ((u.2.2.1 28 v1.toNatClampNeg)))
set_option maxRecDepth 100000 in
set_option maxHeartbeats 4000000 in
theorem wb_M_last_35 {p : Program} {l : Launch} {e : Env} {R : Room} {s : State} {m : MethodId} {args : Array Value} {below : List Frame} {meth : Method} {c : Code} {D : va_G} {cl : List vw_C} {cB cI cJ cZ cS : ClassId} {A : Nat → Prop} {iM h0 : Nat} {ad : Nat → Nat} (C0 : MCx p s m args meth c b_M_last 3 none D cl cB cI cJ cZ cS iM A) {d : Nat} (hR : R = rg_M_last (d + 1)) (N : Nat) (S : SG_M_last) (hSg : HS_M_last l D cl cB cI cJ cZ cS iM h0 ad (rg_M_last d) S) (G : (MS → Int32 → Option (MS × Unit))) (hG : (∀ (u : MS) (v2 : Int32) (x : MS × Unit), G u v2 = some x → ∀ (H : Heap) (locs : List Loc), va_P D cl (wM cB cI cJ cZ cS iM h0 ad u) H → va_D A (wM cB cI cJ cZ cS iM h0 ad u) → va_S A s.heap H locs → ∀ (ls : Array Slot), lv_has ls 3 [(0, .ref h0), (2, .int v2)] → W p l e R s m args below meth c H locs 0 0 (MQ below (mQv D cl cB cI cJ cZ cS iM h0 ad A x) args s 0 0 A) (F0 m 42 ls []))) : ∀ (u : MS) (v1 : Int32) (x : MS × Unit), fb_M_last_35 N S G u v1 = some x → ∀ (H : Heap) (locs : List Loc), va_P D cl (wM cB cI cJ cZ cS iM h0 ad u) H → va_D A (wM cB cI cJ cZ cS iM h0 ad u) → va_S A s.heap H locs → ∀ (ls : Array Slot), lv_has ls 3 [(0, .ref h0), (1, .int v1)] → W p l e R s m args below meth c H locs 0 0 (MQ below (mQv D cl cB cI cJ cZ cS iM h0 ad A x) args s 0 0 A) (F0 m 35 ls []) := by
  intro u v1 x hf H locs hP hD hS ls hl
  obtain ⟨hx, hb, hr, hml, ht, hown, hM, hK, hA, hlocks⟩ := id C0
  unfold fb_M_last_35 at hf
  refine lv_aload_n hx hb d_M_last_35 rfl (lv_at hl 0 rfl) ?_
  refine ug_R hx hb ht hown hM hK hP 28 (by decide) lk_M_28 (by decide) d_M_last_36 ?_
  refine lv_iload_n hx hb d_M_last_39 rfl (lv_at hl 1 rfl) ?_
  obtain ⟨hi9, hf⟩ := ck_some hf
  refine ul_I hx hb hK hP (by decide) (by decide) hi9 d_M_last_40 ?_
  refine lv_istore_n (lv' := [(2, .int (u.2.2.1 28 v1.toNatClampNeg)), (0, .ref h0), (1, .int v1)]) hx hb d_M_last_41 rfl hl (by decide) rfl (fun ls hl => ?_)
  exact hG _ _ _ hf H locs hP hD hS ls (lv_sub hl [1, 0] rfl)
def fb_M_last_28 (N : Nat) (S : SG_M_last) (G : (MS → Int32 → Option (MS × Unit))) (u : MS) (v1 : Int32) : Option (MS × Unit) := ck (inb v1 (ln 30)) (lt (upA u 30 (upd (u.2.2.1 30) v1.toNatClampNeg (vp_nar .boolean 1))) (fun w2 => fb_M_last_35 N S G w2 (v1)))
set_option maxRecDepth 100000 in
set_option maxHeartbeats 4000000 in
theorem wb_M_last_28 {p : Program} {l : Launch} {e : Env} {R : Room} {s : State} {m : MethodId} {args : Array Value} {below : List Frame} {meth : Method} {c : Code} {D : va_G} {cl : List vw_C} {cB cI cJ cZ cS : ClassId} {A : Nat → Prop} {iM h0 : Nat} {ad : Nat → Nat} (C0 : MCx p s m args meth c b_M_last 3 none D cl cB cI cJ cZ cS iM A) {d : Nat} (hR : R = rg_M_last (d + 1)) (N : Nat) (S : SG_M_last) (hSg : HS_M_last l D cl cB cI cJ cZ cS iM h0 ad (rg_M_last d) S) (G : (MS → Int32 → Option (MS × Unit))) (hG : (∀ (u : MS) (v2 : Int32) (x : MS × Unit), G u v2 = some x → ∀ (H : Heap) (locs : List Loc), va_P D cl (wM cB cI cJ cZ cS iM h0 ad u) H → va_D A (wM cB cI cJ cZ cS iM h0 ad u) → va_S A s.heap H locs → ∀ (ls : Array Slot), lv_has ls 3 [(0, .ref h0), (2, .int v2)] → W p l e R s m args below meth c H locs 0 0 (MQ below (mQv D cl cB cI cJ cZ cS iM h0 ad A x) args s 0 0 A) (F0 m 42 ls []))) : ∀ (u : MS) (v1 : Int32) (x : MS × Unit), fb_M_last_28 N S G u v1 = some x → ∀ (H : Heap) (locs : List Loc), va_P D cl (wM cB cI cJ cZ cS iM h0 ad u) H → va_D A (wM cB cI cJ cZ cS iM h0 ad u) → va_S A s.heap H locs → ∀ (ls : Array Slot), lv_has ls 3 [(0, .ref h0), (1, .int v1)] → W p l e R s m args below meth c H locs 0 0 (MQ below (mQv D cl cB cI cJ cZ cS iM h0 ad A x) args s 0 0 A) (F0 m 28 ls []) := by
  intro u v1 x hf H locs hP hD hS ls hl
  obtain ⟨hx, hb, hr, hml, ht, hown, hM, hK, hA, hlocks⟩ := id C0
  unfold fb_M_last_28 at hf
  refine lv_aload_n hx hb d_M_last_28 rfl (lv_at hl 0 rfl) ?_
  refine ug_R hx hb ht hown hM hK hP 30 (by decide) lk_M_30 (by decide) d_M_last_29 ?_
  refine lv_iload_n hx hb d_M_last_32 rfl (lv_at hl 1 rfl) ?_
  refine lv_iconst (v := 1) hx hb d_M_last_33 (by decide) ?_
  obtain ⟨hi9, hf⟩ := ck_some hf
  refine us_Z hx hb hK hP hD hS (by decide) (by decide) hi9 d_M_last_34 (fun H locs hP hD hS => ?_)
  obtain ⟨w2, e2, hf⟩ := lt_some hf
  rw [← e2] at hP hD
  exact wb_M_last_35 C0 hR N S hSg G hG _ _ _ hf H locs hP hD hS ls (lv_sub hl [0, 1] rfl)
def fb_M_last_0 (N : Nat) (S : SG_M_last) (G : (MS → Int32 → Option (MS × Unit))) (u : MS) (v1 : Int32) : Option (MS × Unit) := br (decide (v1 = (-1))) (some (u, ())) (ck (inb v1 (ln 23)) (br (decide ((u.2.2.1 23 v1.toNatClampNeg) = 12)) (fb_M_last_28 N S G u (v1)) (ck (inb v1 (ln 23)) (br (decide ((u.2.2.1 23 v1.toNatClampNeg) = 13)) (fb_M_last_28 N S G u (v1)) (fb_M_last_35 N S G u (v1))))))
set_option maxRecDepth 100000 in
set_option maxHeartbeats 4000000 in
theorem wb_M_last_0 {p : Program} {l : Launch} {e : Env} {R : Room} {s : State} {m : MethodId} {args : Array Value} {below : List Frame} {meth : Method} {c : Code} {D : va_G} {cl : List vw_C} {cB cI cJ cZ cS : ClassId} {A : Nat → Prop} {iM h0 : Nat} {ad : Nat → Nat} (C0 : MCx p s m args meth c b_M_last 3 none D cl cB cI cJ cZ cS iM A) {d : Nat} (hR : R = rg_M_last (d + 1)) (N : Nat) (S : SG_M_last) (hSg : HS_M_last l D cl cB cI cJ cZ cS iM h0 ad (rg_M_last d) S) (G : (MS → Int32 → Option (MS × Unit))) (hG : (∀ (u : MS) (v2 : Int32) (x : MS × Unit), G u v2 = some x → ∀ (H : Heap) (locs : List Loc), va_P D cl (wM cB cI cJ cZ cS iM h0 ad u) H → va_D A (wM cB cI cJ cZ cS iM h0 ad u) → va_S A s.heap H locs → ∀ (ls : Array Slot), lv_has ls 3 [(0, .ref h0), (2, .int v2)] → W p l e R s m args below meth c H locs 0 0 (MQ below (mQv D cl cB cI cJ cZ cS iM h0 ad A x) args s 0 0 A) (F0 m 42 ls []))) : ∀ (u : MS) (v1 : Int32) (x : MS × Unit), fb_M_last_0 N S G u v1 = some x → ∀ (H : Heap) (locs : List Loc), va_P D cl (wM cB cI cJ cZ cS iM h0 ad u) H → va_D A (wM cB cI cJ cZ cS iM h0 ad u) → va_S A s.heap H locs → ∀ (ls : Array Slot), lv_has ls 3 [(0, .ref h0), (1, .int v1)] → W p l e R s m args below meth c H locs 0 0 (MQ below (mQv D cl cB cI cJ cZ cS iM h0 ad A x) args s 0 0 A) (F0 m 0 ls []) := by
  intro u v1 x hf H locs hP hD hS ls hl
  obtain ⟨hx, hb, hr, hml, ht, hown, hM, hK, hA, hlocks⟩ := id C0
  unfold fb_M_last_0 at hf
  refine lv_iload_n hx hb d_M_last_0 rfl (lv_at hl 1 rfl) ?_
  refine lv_iconst (v := (-1)) hx hb d_M_last_1 (by decide) ?_
  refine lv_icmp_ne (tgt := 6) hx hb d_M_last_2 (by decide) (fun hc => ?_) (fun hc => ?_)
  · rw [br_n _ hc] at hf
    refine lv_aload_n hx hb d_M_last_6 rfl (lv_at hl 0 rfl) ?_
    refine ug_R hx hb ht hown hM hK hP 23 (by decide) lk_M_23 (by decide) d_M_last_7 ?_
    refine lv_iload_n hx hb d_M_last_10 rfl (lv_at hl 1 rfl) ?_
    obtain ⟨hi9, hf⟩ := ck_some hf
    refine ul_B hx hb hK hP (by decide) (by decide) hi9 d_M_last_11 ?_
    refine lv_bipush (v := 12) hx hb d_M_last_12 (by decide) ?_
    refine lv_icmp_eq (tgt := 28) hx hb d_M_last_14 (by decide) (fun hc => ?_) (fun hc => ?_)
    · rw [br_p _ hc] at hf
      exact wb_M_last_28 C0 hR N S hSg G hG _ _ _ hf H locs hP hD hS ls (lv_sub hl [0, 1] rfl)
    · rw [br_n _ hc] at hf
      refine lv_aload_n hx hb d_M_last_17 rfl (lv_at hl 0 rfl) ?_
      refine ug_R hx hb ht hown hM hK hP 23 (by decide) lk_M_23 (by decide) d_M_last_18 ?_
      refine lv_iload_n hx hb d_M_last_21 rfl (lv_at hl 1 rfl) ?_
      obtain ⟨hi9, hf⟩ := ck_some hf
      refine ul_B hx hb hK hP (by decide) (by decide) hi9 d_M_last_22 ?_
      refine lv_bipush (v := 13) hx hb d_M_last_23 (by decide) ?_
      refine lv_icmp_ne (tgt := 35) hx hb d_M_last_25 (by decide) (fun hc => ?_) (fun hc => ?_)
      · rw [br_n _ hc] at hf
        exact wb_M_last_35 C0 hR N S hSg G hG _ _ _ hf H locs hP hD hS ls (lv_sub hl [0, 1] rfl)
      · rw [br_p _ hc] at hf
        exact wb_M_last_28 C0 hR N S hSg G hG _ _ _ hf H locs hP hD hS ls (lv_sub hl [0, 1] rfl)
  · rw [br_p _ hc] at hf
    exact mr_v C0 hP hD hS hf d_M_last_5
def gg_M_last (N : Nat) (S : SG_M_last) : Nat → ((MS → Int32 → Option (MS × Unit)))
  | 0 => fun _ _ => none
  | n + 1 => fb_M_last_42 N S (gg_M_last N S n)
theorem wg_M_last {p : Program} {l : Launch} {e : Env} {R : Room} {s : State} {m : MethodId} {args : Array Value} {below : List Frame} {meth : Method} {c : Code} {D : va_G} {cl : List vw_C} {cB cI cJ cZ cS : ClassId} {A : Nat → Prop} {iM h0 : Nat} {ad : Nat → Nat} (C0 : MCx p s m args meth c b_M_last 3 none D cl cB cI cJ cZ cS iM A) {d : Nat} (hR : R = rg_M_last (d + 1)) (N : Nat) (S : SG_M_last) (hSg : HS_M_last l D cl cB cI cJ cZ cS iM h0 ad (rg_M_last d) S) : ∀ n : Nat, (∀ (u : MS) (v2 : Int32) (x : MS × Unit), gg_M_last N S n u v2 = some x → ∀ (H : Heap) (locs : List Loc), va_P D cl (wM cB cI cJ cZ cS iM h0 ad u) H → va_D A (wM cB cI cJ cZ cS iM h0 ad u) → va_S A s.heap H locs → ∀ (ls : Array Slot), lv_has ls 3 [(0, .ref h0), (2, .int v2)] → W p l e R s m args below meth c H locs 0 0 (MQ below (mQv D cl cB cI cJ cZ cS iM h0 ad A x) args s 0 0 A) (F0 m 42 ls []))
  | 0 => (fun u v2 x hf => by cases hf)
  | n + 1 => wb_M_last_42 C0 hR N S hSg (gg_M_last N S n) (wg_M_last C0 hR N S hSg n)
def fm_M_last (N : Nat) (S : SG_M_last) (u : MS) (v1 : Int32) : Option (MS × Unit) := fb_M_last_0 N S (gg_M_last N S N) u v1
set_option maxRecDepth 100000 in
set_option maxHeartbeats 4000000 in
theorem cs_M_last (N : Nat) {d : Nat} {l : Launch} {D : va_G} {cl : List vw_C} {cB cI cJ cZ cS : ClassId} {iM h0 : Nat} {ad : Nat → Nat} {u : MS} {sz : Nat} {v1 : Int32} {x : MS × Unit} (hM : cl[iM]? = some (R_M, F_M, 171)) (S : SG_M_last) (hSg : HS_M_last l D cl cB cI cJ cZ cS iM h0 ad (rg_M_last d) S) (hf : fm_M_last N S u v1 = some x) : Met l y_M_last (wd_ws y_M_last b_M_last 3 none) (rg_M_last (d + 1)) (mPc D cl cB cI cJ cZ cS iM h0 ad u sz [.ref h0, .int v1]) (mQv D cl cB cI cJ cZ cS iM h0 ad (mA cB cI cJ cZ cS iM h0 ad u sz) x) 0 0 (mA cB cI cJ cZ cS iM h0 ad u sz) :=
  mMet (by decide) rfl hM (Nat.le_of_ble_eq_true rfl) (fun p e s m below meth c ls hsz C0 hP hD hS hl => by
    have hR : (rg_M_last (d + 1)) = (rg_M_last (d + 1)) := rfl
    exact wb_M_last_0 C0 hR N S hSg (gg_M_last N S N) (wg_M_last C0 hR N S hSg N) u _ x hf s.heap [] hP hD hS ls (lv_sub hl [0, 1] rfl))
def rc_M_last (N : Nat) : Nat → (SG_M_last)
  | 0 => fun _ _ => none
  | d + 1 => fm_M_last N (rc_M_last N d)
theorem cg_M_last (N : Nat) {l : Launch} {D : va_G} {cl : List vw_C} {cB cI cJ cZ cS : ClassId} {iM h0 : Nat} {ad : Nat → Nat} (hM : cl[iM]? = some (R_M, F_M, 171)) : ∀ d : Nat, HS_M_last l D cl cB cI cJ cZ cS iM h0 ad (rg_M_last d) (rc_M_last N d)
  | 0 => (fun u _ x sz hf => by cases hf)
  | d + 1 => (fun u _ x sz hf => cs_M_last N hM (rc_M_last N d) (cg_M_last N hM d) hf)
def fr_M_last (N : Nat) (u : MS) (v1 : Int32) : Option (MS × Unit) := (rc_M_last N 60) u v1
def rm_M_last : Room := rg_M_last 60
theorem c_M_last (N : Nat) {l : Launch} {D : va_G} {cl : List vw_C} {cB cI cJ cZ cS : ClassId} {iM h0 : Nat} {ad : Nat → Nat} {u : MS} {sz : Nat} {v1 : Int32} {x : MS × Unit} (hM : cl[iM]? = some (R_M, F_M, 171)) (hf : fr_M_last N u v1 = some x) : Met l y_M_last (wd_ws y_M_last b_M_last 3 none) rm_M_last (mPc D cl cB cI cJ cZ cS iM h0 ad u sz [.ref h0, .int v1]) (mQv D cl cB cI cJ cZ cS iM h0 ad (mA cB cI cJ cZ cS iM h0 ad u sz) x) 0 0 (mA cB cI cJ cZ cS iM h0 ad u sz) := (cg_M_last N hM 60) _ _ _ _ hf
