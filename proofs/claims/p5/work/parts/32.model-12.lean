abbrev b_M_chosen : ByteArray := prog_14_method_119_code
def y_M_chosen : MethodName := ⟨R_M, "chosen", "()V"⟩
def w_M_chosen : List Cond := wd_ws y_M_chosen b_M_chosen 2 none
set_option maxRecDepth 100000 in
theorem k_M_chosen : Cond.code y_M_chosen b_M_chosen 2 none ∈ wd_tbl := wd_of 3058 rfl rfl
theorem d_M_chosen_0 : decode b_M_chosen 0 = .ok (.aload_n 0, 1) := by decide +kernel
theorem d_M_chosen_1 : decode b_M_chosen 1 = .ok (.iconst 0, 1) := by decide +kernel
theorem d_M_chosen_2 : decode b_M_chosen 2 = .ok (.putfield 795, 3) := by decide +kernel
theorem d_M_chosen_5 : decode b_M_chosen 5 = .ok (.aload_n 0, 1) := by decide +kernel
theorem d_M_chosen_6 : decode b_M_chosen 6 = .ok (.getfield 838, 3) := by decide +kernel
theorem d_M_chosen_9 : decode b_M_chosen 9 = .ok (.ifCond .ne 40, 3) := by decide +kernel
theorem d_M_chosen_12 : decode b_M_chosen 12 = .ok (.aload_n 0, 1) := by decide +kernel
theorem d_M_chosen_13 : decode b_M_chosen 13 = .ok (.getfield 202, 3) := by decide +kernel
theorem d_M_chosen_16 : decode b_M_chosen 16 = .ok (.aload_n 0, 1) := by decide +kernel
theorem d_M_chosen_17 : decode b_M_chosen 17 = .ok (.getfield 669, 3) := by decide +kernel
theorem d_M_chosen_20 : decode b_M_chosen 20 = .ok (.dup2, 1) := by decide +kernel
theorem d_M_chosen_21 : decode b_M_chosen 21 = .ok (.iaload, 1) := by decide +kernel
theorem d_M_chosen_22 : decode b_M_chosen 22 = .ok (.aload_n 0, 1) := by decide +kernel
theorem d_M_chosen_23 : decode b_M_chosen 23 = .ok (.getfield 107, 3) := by decide +kernel
theorem d_M_chosen_26 : decode b_M_chosen 26 = .ok (.aload_n 0, 1) := by decide +kernel
theorem d_M_chosen_27 : decode b_M_chosen 27 = .ok (.getfield 820, 3) := by decide +kernel
theorem d_M_chosen_30 : decode b_M_chosen 30 = .ok (.iaload, 1) := by decide +kernel
theorem d_M_chosen_31 : decode b_M_chosen 31 = .ok (.isub, 1) := by decide +kernel
theorem d_M_chosen_32 : decode b_M_chosen 32 = .ok (.iastore, 1) := by decide +kernel
theorem d_M_chosen_33 : decode b_M_chosen 33 = .ok (.aload_n 0, 1) := by decide +kernel
theorem d_M_chosen_34 : decode b_M_chosen 34 = .ok (.getfield 218, 3) := by decide +kernel
theorem d_M_chosen_37 : decode b_M_chosen 37 = .ok (.aload_n 0, 1) := by decide +kernel
theorem d_M_chosen_38 : decode b_M_chosen 38 = .ok (.invokevirtual 673, 3) := by decide +kernel
theorem d_M_chosen_41 : decode b_M_chosen 41 = .ok (.aload_n 0, 1) := by decide +kernel
theorem d_M_chosen_42 : decode b_M_chosen 42 = .ok (.getfield 820, 3) := by decide +kernel
theorem d_M_chosen_45 : decode b_M_chosen 45 = .ok (.iastore, 1) := by decide +kernel
theorem d_M_chosen_46 : decode b_M_chosen 46 = .ok (.goto 102, 3) := by decide +kernel
theorem d_M_chosen_49 : decode b_M_chosen 49 = .ok (.aload_n 0, 1) := by decide +kernel
theorem d_M_chosen_50 : decode b_M_chosen 50 = .ok (.getfield 838, 3) := by decide +kernel
theorem d_M_chosen_53 : decode b_M_chosen 53 = .ok (.iconst 1, 1) := by decide +kernel
theorem d_M_chosen_54 : decode b_M_chosen 54 = .ok (.if_icmp .ne 19, 3) := by decide +kernel
theorem d_M_chosen_57 : decode b_M_chosen 57 = .ok (.aload_n 0, 1) := by decide +kernel
theorem d_M_chosen_58 : decode b_M_chosen 58 = .ok (.getfield 202, 3) := by decide +kernel
theorem d_M_chosen_61 : decode b_M_chosen 61 = .ok (.aload_n 0, 1) := by decide +kernel
theorem d_M_chosen_62 : decode b_M_chosen 62 = .ok (.getfield 669, 3) := by decide +kernel
theorem d_M_chosen_65 : decode b_M_chosen 65 = .ok (.dup2, 1) := by decide +kernel
theorem d_M_chosen_66 : decode b_M_chosen 66 = .ok (.iaload, 1) := by decide +kernel
theorem d_M_chosen_67 : decode b_M_chosen 67 = .ok (.iconst 1, 1) := by decide +kernel
theorem d_M_chosen_68 : decode b_M_chosen 68 = .ok (.isub, 1) := by decide +kernel
theorem d_M_chosen_69 : decode b_M_chosen 69 = .ok (.iastore, 1) := by decide +kernel
theorem d_M_chosen_70 : decode b_M_chosen 70 = .ok (.goto 78, 3) := by decide +kernel
theorem d_M_chosen_73 : decode b_M_chosen 73 = .ok (.aload_n 0, 1) := by decide +kernel
theorem d_M_chosen_74 : decode b_M_chosen 74 = .ok (.getfield 838, 3) := by decide +kernel
theorem d_M_chosen_77 : decode b_M_chosen 77 = .ok (.iconst 3, 1) := by decide +kernel
theorem d_M_chosen_78 : decode b_M_chosen 78 = .ok (.if_icmp .ne 70, 3) := by decide +kernel
theorem d_M_chosen_81 : decode b_M_chosen 81 = .ok (.aload_n 0, 1) := by decide +kernel
theorem d_M_chosen_82 : decode b_M_chosen 82 = .ok (.getfield 252, 3) := by decide +kernel
theorem d_M_chosen_85 : decode b_M_chosen 85 = .ok (.aload_n 0, 1) := by decide +kernel
theorem d_M_chosen_86 : decode b_M_chosen 86 = .ok (.getfield 669, 3) := by decide +kernel
theorem d_M_chosen_89 : decode b_M_chosen 89 = .ok (.dup2, 1) := by decide +kernel
theorem d_M_chosen_90 : decode b_M_chosen 90 = .ok (.iaload, 1) := by decide +kernel
theorem d_M_chosen_91 : decode b_M_chosen 91 = .ok (.iconst 1, 1) := by decide +kernel
theorem d_M_chosen_92 : decode b_M_chosen 92 = .ok (.isub, 1) := by decide +kernel
theorem d_M_chosen_93 : decode b_M_chosen 93 = .ok (.iastore, 1) := by decide +kernel
theorem d_M_chosen_94 : decode b_M_chosen 94 = .ok (.aload_n 0, 1) := by decide +kernel
theorem d_M_chosen_95 : decode b_M_chosen 95 = .ok (.getfield 841, 3) := by decide +kernel
theorem d_M_chosen_98 : decode b_M_chosen 98 = .ok (.istore_n 1, 1) := by decide +kernel
theorem d_M_chosen_99 : decode b_M_chosen 99 = .ok (.iload_n 1, 1) := by decide +kernel
theorem d_M_chosen_100 : decode b_M_chosen 100 = .ok (.aload_n 0, 1) := by decide +kernel
theorem d_M_chosen_101 : decode b_M_chosen 101 = .ok (.getfield 252, 3) := by decide +kernel
theorem d_M_chosen_104 : decode b_M_chosen 104 = .ok (.aload_n 0, 1) := by decide +kernel
theorem d_M_chosen_105 : decode b_M_chosen 105 = .ok (.getfield 669, 3) := by decide +kernel
theorem d_M_chosen_108 : decode b_M_chosen 108 = .ok (.iaload, 1) := by decide +kernel
theorem d_M_chosen_109 : decode b_M_chosen 109 = .ok (.if_icmp .ge 39, 3) := by decide +kernel
theorem d_M_chosen_112 : decode b_M_chosen 112 = .ok (.aload_n 0, 1) := by decide +kernel
theorem d_M_chosen_113 : decode b_M_chosen 113 = .ok (.getfield 249, 3) := by decide +kernel
theorem d_M_chosen_116 : decode b_M_chosen 116 = .ok (.aload_n 0, 1) := by decide +kernel
theorem d_M_chosen_117 : decode b_M_chosen 117 = .ok (.getfield 669, 3) := by decide +kernel
theorem d_M_chosen_120 : decode b_M_chosen 120 = .ok (.bipush 30, 2) := by decide +kernel
theorem d_M_chosen_122 : decode b_M_chosen 122 = .ok (.imul, 1) := by decide +kernel
theorem d_M_chosen_123 : decode b_M_chosen 123 = .ok (.iload_n 1, 1) := by decide +kernel
theorem d_M_chosen_124 : decode b_M_chosen 124 = .ok (.iadd, 1) := by decide +kernel
theorem d_M_chosen_125 : decode b_M_chosen 125 = .ok (.aload_n 0, 1) := by decide +kernel
theorem d_M_chosen_126 : decode b_M_chosen 126 = .ok (.getfield 249, 3) := by decide +kernel
theorem d_M_chosen_129 : decode b_M_chosen 129 = .ok (.aload_n 0, 1) := by decide +kernel
theorem d_M_chosen_130 : decode b_M_chosen 130 = .ok (.getfield 669, 3) := by decide +kernel
theorem d_M_chosen_133 : decode b_M_chosen 133 = .ok (.bipush 30, 2) := by decide +kernel
theorem d_M_chosen_135 : decode b_M_chosen 135 = .ok (.imul, 1) := by decide +kernel
theorem d_M_chosen_136 : decode b_M_chosen 136 = .ok (.iload_n 1, 1) := by decide +kernel
theorem d_M_chosen_137 : decode b_M_chosen 137 = .ok (.iadd, 1) := by decide +kernel
theorem d_M_chosen_138 : decode b_M_chosen 138 = .ok (.iconst 1, 1) := by decide +kernel
theorem d_M_chosen_139 : decode b_M_chosen 139 = .ok (.iadd, 1) := by decide +kernel
theorem d_M_chosen_140 : decode b_M_chosen 140 = .ok (.laload, 1) := by decide +kernel
theorem d_M_chosen_141 : decode b_M_chosen 141 = .ok (.lastore, 1) := by decide +kernel
theorem d_M_chosen_142 : decode b_M_chosen 142 = .ok (.iinc 1 1, 3) := by decide +kernel
theorem d_M_chosen_145 : decode b_M_chosen 145 = .ok (.goto (-46), 3) := by decide +kernel
theorem d_M_chosen_148 : decode b_M_chosen 148 = .ok (.aload_n 0, 1) := by decide +kernel
theorem d_M_chosen_149 : decode b_M_chosen 149 = .ok (.aload_n 0, 1) := by decide +kernel
theorem d_M_chosen_150 : decode b_M_chosen 150 = .ok (.getfield 113, 3) := by decide +kernel
theorem d_M_chosen_153 : decode b_M_chosen 153 = .ok (.aload_n 0, 1) := by decide +kernel
theorem d_M_chosen_154 : decode b_M_chosen 154 = .ok (.getfield 820, 3) := by decide +kernel
theorem d_M_chosen_157 : decode b_M_chosen 157 = .ok (.iaload, 1) := by decide +kernel
theorem d_M_chosen_158 : decode b_M_chosen 158 = .ok (.invokevirtual 811, 3) := by decide +kernel
theorem d_M_chosen_161 : decode b_M_chosen 161 = .ok (.return_, 1) := by decide +kernel
set_option maxRecDepth 100000 in
theorem hl_M_chosen : Cond.methodLink R_M 835 y_M_chosen ∈ wd_tbl := wd_of 3055 (by decide +kernel) rfl
set_option maxRecDepth 100000 in
theorem hi_M_chosen : Cond.instanceMethod y_M_chosen ∈ wd_tbl := wd_of 3057 (by decide +kernel) rfl
set_option maxRecDepth 100000 in
theorem hs_M_chosen : Cond.selects R_M y_M_chosen y_M_chosen ∈ wd_tbl := wd_of 220 (by decide +kernel) rfl
theorem hd_M_chosen : y_M_chosen.cls = R_M ∧ y_M_chosen.cls ≠ "java/lang/invoke/MethodHandle" ∧ y_M_chosen.cls ≠ "java/lang/invoke/VarHandle" ∧ (parseMethodDescriptor y_M_chosen.desc).map (fun d => d.parameters.length) = some 0 := by decide +kernel
def rm_M_chosen : Room := { frames := 2, cells := 0, slots := 0, locals := 41 }
theorem rm_M_chosen_M_frame0 {R : Room} (hR : R = rm_M_chosen) : (rm_M_frame0).frames + 1 ≤ R.frames ∧ 8 + (1 + 11) + (rm_M_frame0).locals ≤ R.locals := by subst hR; decide
theorem rm_M_chosen_M_goTo {R : Room} (hR : R = rm_M_chosen) : (rm_M_goTo).frames + 1 ≤ R.frames ∧ 8 + (2 + 11) + (rm_M_goTo).locals ≤ R.locals := by subst hR; decide
def fb_M_chosen_148 (N : Nat) (G : (MS → Int32 → Option (MS × Unit))) (u : MS) : Option (MS × Unit) := ck (inb (u.1 154) (ln 43)) (bnd (fm_M_goTo N u (u.2.2.1 43 (u.1 154).toNatClampNeg)) (fun u1 _ => some (u1, ())))
set_option maxRecDepth 100000 in
set_option maxHeartbeats 4000000 in
theorem wb_M_chosen_148 {p : Program} {l : Launch} {e : Env} {R : Room} {s : State} {m : MethodId} {args : Array Value} {below : List Frame} {meth : Method} {c : Code} {D : va_G} {cl : List vw_C} {cB cI cJ cZ cS : ClassId} {A : Nat → Prop} {iM h0 : Nat} {ad : Nat → Nat} (C0 : MCx p s m args meth c b_M_chosen 2 none D cl cB cI cJ cZ cS iM A) (hR : R = rm_M_chosen) (N : Nat) (G : (MS → Int32 → Option (MS × Unit))) (hG : (∀ (u : MS) (v1 : Int32) (x : MS × Unit), G u v1 = some x → ∀ (H : Heap) (locs : List Loc), va_P D cl (wM cB cI cJ cZ cS iM h0 ad u) H → va_D A (wM cB cI cJ cZ cS iM h0 ad u) → va_S A s.heap H locs → ∀ (ls : Array Slot), lv_has ls 2 [(0, .ref h0), (1, .int v1)] → W p l e R s m args below meth c H locs 0 0 (MQ below (mQv D cl cB cI cJ cZ cS iM h0 ad A x) args s 0 0 A) (F0 m 99 ls []))) : ∀ (u : MS) (x : MS × Unit), fb_M_chosen_148 N G u = some x → ∀ (H : Heap) (locs : List Loc), va_P D cl (wM cB cI cJ cZ cS iM h0 ad u) H → va_D A (wM cB cI cJ cZ cS iM h0 ad u) → va_S A s.heap H locs → ∀ (ls : Array Slot), lv_has ls 2 [(0, .ref h0)] → W p l e R s m args below meth c H locs 0 0 (MQ below (mQv D cl cB cI cJ cZ cS iM h0 ad A x) args s 0 0 A) (F0 m 148 ls []) := by
  intro u x hf H locs hP hD hS ls hl
  obtain ⟨hx, hb, hr, hml, ht, hown, hM, hK, hA, hlocks⟩ := id C0
  unfold fb_M_chosen_148 at hf
  refine lv_aload_n hx hb d_M_chosen_148 rfl (lv_at hl 0 rfl) ?_
  refine lv_aload_n hx hb d_M_chosen_149 rfl (lv_at hl 0 rfl) ?_
  refine ug_R hx hb ht hown hM hK hP 43 (by decide) lk_M_43 (by decide) d_M_chosen_150 ?_
  refine lv_aload_n hx hb d_M_chosen_153 rfl (lv_at hl 0 rfl) ?_
  refine ug_I hx hb ht hown hM hK hP 154 (by decide) lk_M_154 (by decide) d_M_chosen_154 ?_
  obtain ⟨hi9, hf⟩ := ck_some hf
  refine ul_I hx hb hK hP (by decide) (by decide) hi9 d_M_chosen_157 ?_
  obtain ⟨u1, r1, hc1, hf⟩ := bnd_some hf
  refine mV_v (As := [.int (u.2.2.1 43 (u.1 154).toNatClampNeg)]) (rest := []) C0 hP hD hS (c_M_goTo N hM hc1) k_M_goTo hl_M_goTo hi_M_goTo hs_M_goTo hini_M rfl rfl hd_M_goTo rfl (rm_M_chosen_M_goTo hR) hl.1 (Nat.le_of_ble_eq_true rfl) d_M_chosen_158 rfl ⟨Nat.zero_le _, Nat.zero_le _⟩ (fun H locs hP hD hS => ?_)
  exact mr_v C0 hP hD hS hf d_M_chosen_161
def fb_M_chosen_99 (N : Nat) (G : (MS → Int32 → Option (MS × Unit))) (u : MS) (v1 : Int32) : Option (MS × Unit) := ck (inb (u.1 133) (ln 108)) (br (decide ((u.2.2.1 108 (u.1 133).toNatClampNeg) ≤ v1)) (fb_M_chosen_148 N G u) (ck (inb ((((u.1 133) * 30) + v1) + 1) (ln 107)) (ck (inb (((u.1 133) * 30) + v1) (ln 107)) (lt (upJ u 107 (vp_updL (u.2.2.2 107) (((u.1 133) * 30) + v1).toNatClampNeg (u.2.2.2 107 ((((u.1 133) * 30) + v1) + 1).toNatClampNeg))) (fun w2 => G w2 ((v1 + 1)))))))
set_option maxRecDepth 100000 in
set_option maxHeartbeats 4000000 in
theorem wb_M_chosen_99 {p : Program} {l : Launch} {e : Env} {R : Room} {s : State} {m : MethodId} {args : Array Value} {below : List Frame} {meth : Method} {c : Code} {D : va_G} {cl : List vw_C} {cB cI cJ cZ cS : ClassId} {A : Nat → Prop} {iM h0 : Nat} {ad : Nat → Nat} (C0 : MCx p s m args meth c b_M_chosen 2 none D cl cB cI cJ cZ cS iM A) (hR : R = rm_M_chosen) (N : Nat) (G : (MS → Int32 → Option (MS × Unit))) (hG : (∀ (u : MS) (v1 : Int32) (x : MS × Unit), G u v1 = some x → ∀ (H : Heap) (locs : List Loc), va_P D cl (wM cB cI cJ cZ cS iM h0 ad u) H → va_D A (wM cB cI cJ cZ cS iM h0 ad u) → va_S A s.heap H locs → ∀ (ls : Array Slot), lv_has ls 2 [(0, .ref h0), (1, .int v1)] → W p l e R s m args below meth c H locs 0 0 (MQ below (mQv D cl cB cI cJ cZ cS iM h0 ad A x) args s 0 0 A) (F0 m 99 ls []))) : ∀ (u : MS) (v1 : Int32) (x : MS × Unit), fb_M_chosen_99 N G u v1 = some x → ∀ (H : Heap) (locs : List Loc), va_P D cl (wM cB cI cJ cZ cS iM h0 ad u) H → va_D A (wM cB cI cJ cZ cS iM h0 ad u) → va_S A s.heap H locs → ∀ (ls : Array Slot), lv_has ls 2 [(0, .ref h0), (1, .int v1)] → W p l e R s m args below meth c H locs 0 0 (MQ below (mQv D cl cB cI cJ cZ cS iM h0 ad A x) args s 0 0 A) (F0 m 99 ls []) := by
  intro u v1 x hf H locs hP hD hS ls hl
  obtain ⟨hx, hb, hr, hml, ht, hown, hM, hK, hA, hlocks⟩ := id C0
  unfold fb_M_chosen_99 at hf
  refine lv_iload_n hx hb d_M_chosen_99 rfl (lv_at hl 1 rfl) ?_
  refine lv_aload_n hx hb d_M_chosen_100 rfl (lv_at hl 0 rfl) ?_
  refine ug_R hx hb ht hown hM hK hP 108 (by decide) lk_M_108 (by decide) d_M_chosen_101 ?_
  refine lv_aload_n hx hb d_M_chosen_104 rfl (lv_at hl 0 rfl) ?_
  refine ug_I hx hb ht hown hM hK hP 133 (by decide) lk_M_133 (by decide) d_M_chosen_105 ?_
  obtain ⟨hi9, hf⟩ := ck_some hf
  refine ul_I hx hb hK hP (by decide) (by decide) hi9 d_M_chosen_108 ?_
  refine lv_icmp_ge (tgt := 148) hx hb d_M_chosen_109 (by decide) (fun hc => ?_) (fun hc => ?_)
  · rw [br_p _ hc] at hf
    exact wb_M_chosen_148 C0 hR N G hG _ _ hf H locs hP hD hS ls (lv_sub hl [0] rfl)
  · rw [br_n _ hc] at hf
    refine lv_aload_n hx hb d_M_chosen_112 rfl (lv_at hl 0 rfl) ?_
    refine ug_R hx hb ht hown hM hK hP 107 (by decide) lk_M_107 (by decide) d_M_chosen_113 ?_
    refine lv_aload_n hx hb d_M_chosen_116 rfl (lv_at hl 0 rfl) ?_
    refine ug_I hx hb ht hown hM hK hP 133 (by decide) lk_M_133 (by decide) d_M_chosen_117 ?_
    refine lv_bipush (v := 30) hx hb d_M_chosen_120 (by decide) ?_
    refine lv_imul hx hb d_M_chosen_122 ?_
    refine lv_iload_n hx hb d_M_chosen_123 rfl (lv_at hl 1 rfl) ?_
    refine lv_iadd hx hb d_M_chosen_124 ?_
    refine lv_aload_n hx hb d_M_chosen_125 rfl (lv_at hl 0 rfl) ?_
    refine ug_R hx hb ht hown hM hK hP 107 (by decide) lk_M_107 (by decide) d_M_chosen_126 ?_
    refine lv_aload_n hx hb d_M_chosen_129 rfl (lv_at hl 0 rfl) ?_
    refine ug_I hx hb ht hown hM hK hP 133 (by decide) lk_M_133 (by decide) d_M_chosen_130 ?_
    refine lv_bipush (v := 30) hx hb d_M_chosen_133 (by decide) ?_
    refine lv_imul hx hb d_M_chosen_135 ?_
    refine lv_iload_n hx hb d_M_chosen_136 rfl (lv_at hl 1 rfl) ?_
    refine lv_iadd hx hb d_M_chosen_137 ?_
    refine lv_iconst (v := 1) hx hb d_M_chosen_138 (by decide) ?_
    refine lv_iadd hx hb d_M_chosen_139 ?_
    obtain ⟨hi9, hf⟩ := ck_some hf
    refine ul_J hx hb hK hP (by decide) (by decide) hi9 d_M_chosen_140 ?_
    obtain ⟨hi9, hf⟩ := ck_some hf
    refine us_J hx hb hK hP hD hS (by decide) (by decide) hi9 d_M_chosen_141 (fun H locs hP hD hS => ?_)
    obtain ⟨w2, e2, hf⟩ := lt_some hf
    rw [← e2] at hP hD
    refine lv_iinc (v := (v1 + 1)) (lv' := [(1, .int (v1 + 1)), (0, .ref h0)]) hx hb d_M_chosen_142 hl (k := 1) rfl rfl (by decide) rfl (fun ls hl => ?_)
    refine lv_goto (tgt := 99) hx hb d_M_chosen_145 (by decide) ?_
    exact hG _ _ _ hf H locs hP hD hS ls (lv_sub hl [1, 0] rfl)
def fb_M_chosen_0 (N : Nat) (G : (MS → Int32 → Option (MS × Unit))) (u : MS) : Option (MS × Unit) := lt (upI u 152 0) (fun w3 => br (decide ((w3.1 153) = 0)) (ck (inb (w3.1 133) (ln 92)) (ck (inb (w3.1 154) (ln 41)) (ck (inb (w3.1 133) (ln 92)) (lt (upA w3 92 (upd (w3.2.2.1 92) (w3.1 133).toNatClampNeg ((w3.2.2.1 92 (w3.1 133).toNatClampNeg) - (w3.2.2.1 41 (w3.1 154).toNatClampNeg)))) (fun w6 => bnd (fm_M_frame0 N w6) (fun u7 r7 => ck (inb r7 (ln 97)) (lt (upA u7 97 (upd (u7.2.2.1 97) r7.toNatClampNeg (u7.1 154))) (fun w8 => fb_M_chosen_148 N G w8)))))))) (br (decide ((w3.1 153) = 1)) (ck (inb (w3.1 133) (ln 92)) (ck (inb (w3.1 133) (ln 92)) (lt (upA w3 92 (upd (w3.2.2.1 92) (w3.1 133).toNatClampNeg ((w3.2.2.1 92 (w3.1 133).toNatClampNeg) - 1))) (fun w5 => fb_M_chosen_148 N G w5)))) (br (decide ((w3.1 153) = 3)) (ck (inb (w3.1 133) (ln 108)) (ck (inb (w3.1 133) (ln 108)) (lt (upA w3 108 (upd (w3.2.2.1 108) (w3.1 133).toNatClampNeg ((w3.2.2.1 108 (w3.1 133).toNatClampNeg) - 1))) (fun w4 => G w4 ((w4.1 158)))))) (fb_M_chosen_148 N G w3))))
set_option maxRecDepth 100000 in
set_option maxHeartbeats 4000000 in
theorem wb_M_chosen_0 {p : Program} {l : Launch} {e : Env} {R : Room} {s : State} {m : MethodId} {args : Array Value} {below : List Frame} {meth : Method} {c : Code} {D : va_G} {cl : List vw_C} {cB cI cJ cZ cS : ClassId} {A : Nat → Prop} {iM h0 : Nat} {ad : Nat → Nat} (C0 : MCx p s m args meth c b_M_chosen 2 none D cl cB cI cJ cZ cS iM A) (hR : R = rm_M_chosen) (N : Nat) (G : (MS → Int32 → Option (MS × Unit))) (hG : (∀ (u : MS) (v1 : Int32) (x : MS × Unit), G u v1 = some x → ∀ (H : Heap) (locs : List Loc), va_P D cl (wM cB cI cJ cZ cS iM h0 ad u) H → va_D A (wM cB cI cJ cZ cS iM h0 ad u) → va_S A s.heap H locs → ∀ (ls : Array Slot), lv_has ls 2 [(0, .ref h0), (1, .int v1)] → W p l e R s m args below meth c H locs 0 0 (MQ below (mQv D cl cB cI cJ cZ cS iM h0 ad A x) args s 0 0 A) (F0 m 99 ls []))) : ∀ (u : MS) (x : MS × Unit), fb_M_chosen_0 N G u = some x → ∀ (H : Heap) (locs : List Loc), va_P D cl (wM cB cI cJ cZ cS iM h0 ad u) H → va_D A (wM cB cI cJ cZ cS iM h0 ad u) → va_S A s.heap H locs → ∀ (ls : Array Slot), lv_has ls 2 [(0, .ref h0)] → W p l e R s m args below meth c H locs 0 0 (MQ below (mQv D cl cB cI cJ cZ cS iM h0 ad A x) args s 0 0 A) (F0 m 0 ls []) := by
  intro u x hf H locs hP hD hS ls hl
  obtain ⟨hx, hb, hr, hml, ht, hown, hM, hK, hA, hlocks⟩ := id C0
  unfold fb_M_chosen_0 at hf
  refine lv_aload_n hx hb d_M_chosen_0 rfl (lv_at hl 0 rfl) ?_
  refine lv_iconst (v := 0) hx hb d_M_chosen_1 (by decide) ?_
  refine up_I hx hb ht hown hM hK hP hD hS 152 (by decide) lk_M_152 (by decide) rfl rfl rfl d_M_chosen_2 (fun H locs hP hD hS => ?_)
  obtain ⟨w3, e3, hf⟩ := lt_some hf
  rw [← e3] at hP hD
  refine lv_aload_n hx hb d_M_chosen_5 rfl (lv_at hl 0 rfl) ?_
  refine ug_I hx hb ht hown hM hK hP 153 (by decide) lk_M_153 (by decide) d_M_chosen_6 ?_
  refine lv_if_ne (tgt := 49) hx hb d_M_chosen_9 (by decide) (fun hc => ?_) (fun hc => ?_)
  · rw [br_n _ hc] at hf
    refine lv_aload_n hx hb d_M_chosen_49 rfl (lv_at hl 0 rfl) ?_
    refine ug_I hx hb ht hown hM hK hP 153 (by decide) lk_M_153 (by decide) d_M_chosen_50 ?_
    refine lv_iconst (v := 1) hx hb d_M_chosen_53 (by decide) ?_
    refine lv_icmp_ne (tgt := 73) hx hb d_M_chosen_54 (by decide) (fun hc => ?_) (fun hc => ?_)
    · rw [br_n _ hc] at hf
      refine lv_aload_n hx hb d_M_chosen_73 rfl (lv_at hl 0 rfl) ?_
      refine ug_I hx hb ht hown hM hK hP 153 (by decide) lk_M_153 (by decide) d_M_chosen_74 ?_
      refine lv_iconst (v := 3) hx hb d_M_chosen_77 (by decide) ?_
      refine lv_icmp_ne (tgt := 148) hx hb d_M_chosen_78 (by decide) (fun hc => ?_) (fun hc => ?_)
      · rw [br_n _ hc] at hf
        exact wb_M_chosen_148 C0 hR N G hG _ _ hf H locs hP hD hS ls (lv_sub hl [0] rfl)
      · rw [br_p _ hc] at hf
        refine lv_aload_n hx hb d_M_chosen_81 rfl (lv_at hl 0 rfl) ?_
        refine ug_R hx hb ht hown hM hK hP 108 (by decide) lk_M_108 (by decide) d_M_chosen_82 ?_
        refine lv_aload_n hx hb d_M_chosen_85 rfl (lv_at hl 0 rfl) ?_
        refine ug_I hx hb ht hown hM hK hP 133 (by decide) lk_M_133 (by decide) d_M_chosen_86 ?_
        refine lv_dup2_11 hx hb d_M_chosen_89 rfl rfl ?_
        obtain ⟨hi9, hf⟩ := ck_some hf
        refine ul_I hx hb hK hP (by decide) (by decide) hi9 d_M_chosen_90 ?_
        refine lv_iconst (v := 1) hx hb d_M_chosen_91 (by decide) ?_
        refine lv_isub hx hb d_M_chosen_92 ?_
        obtain ⟨hi9, hf⟩ := ck_some hf
        refine us_I hx hb hK hP hD hS (by decide) (by decide) hi9 d_M_chosen_93 (fun H locs hP hD hS => ?_)
        obtain ⟨w4, e4, hf⟩ := lt_some hf
        rw [← e4] at hP hD
        refine lv_aload_n hx hb d_M_chosen_94 rfl (lv_at hl 0 rfl) ?_
        refine ug_I hx hb ht hown hM hK hP 158 (by decide) lk_M_158 (by decide) d_M_chosen_95 ?_
        refine lv_istore_n (lv' := [(1, .int (w4.1 158)), (0, .ref h0)]) hx hb d_M_chosen_98 rfl hl (by decide) rfl (fun ls hl => ?_)
        exact hG _ _ _ hf H locs hP hD hS ls (lv_sub hl [1, 0] rfl)
    · rw [br_p _ hc] at hf
      refine lv_aload_n hx hb d_M_chosen_57 rfl (lv_at hl 0 rfl) ?_
      refine ug_R hx hb ht hown hM hK hP 92 (by decide) lk_M_92 (by decide) d_M_chosen_58 ?_
      refine lv_aload_n hx hb d_M_chosen_61 rfl (lv_at hl 0 rfl) ?_
      refine ug_I hx hb ht hown hM hK hP 133 (by decide) lk_M_133 (by decide) d_M_chosen_62 ?_
      refine lv_dup2_11 hx hb d_M_chosen_65 rfl rfl ?_
      obtain ⟨hi9, hf⟩ := ck_some hf
      refine ul_I hx hb hK hP (by decide) (by decide) hi9 d_M_chosen_66 ?_
      refine lv_iconst (v := 1) hx hb d_M_chosen_67 (by decide) ?_
      refine lv_isub hx hb d_M_chosen_68 ?_
      obtain ⟨hi9, hf⟩ := ck_some hf
      refine us_I hx hb hK hP hD hS (by decide) (by decide) hi9 d_M_chosen_69 (fun H locs hP hD hS => ?_)
      obtain ⟨w5, e5, hf⟩ := lt_some hf
      rw [← e5] at hP hD
      refine lv_goto (tgt := 148) hx hb d_M_chosen_70 (by decide) ?_
      exact wb_M_chosen_148 C0 hR N G hG _ _ hf H locs hP hD hS ls (lv_sub hl [0] rfl)
  · rw [br_p _ hc] at hf
    refine lv_aload_n hx hb d_M_chosen_12 rfl (lv_at hl 0 rfl) ?_
    refine ug_R hx hb ht hown hM hK hP 92 (by decide) lk_M_92 (by decide) d_M_chosen_13 ?_
    refine lv_aload_n hx hb d_M_chosen_16 rfl (lv_at hl 0 rfl) ?_
    refine ug_I hx hb ht hown hM hK hP 133 (by decide) lk_M_133 (by decide) d_M_chosen_17 ?_
    refine lv_dup2_11 hx hb d_M_chosen_20 rfl rfl ?_
    obtain ⟨hi9, hf⟩ := ck_some hf
    refine ul_I hx hb hK hP (by decide) (by decide) hi9 d_M_chosen_21 ?_
    refine lv_aload_n hx hb d_M_chosen_22 rfl (lv_at hl 0 rfl) ?_
    refine ug_R hx hb ht hown hM hK hP 41 (by decide) lk_M_41 (by decide) d_M_chosen_23 ?_
    refine lv_aload_n hx hb d_M_chosen_26 rfl (lv_at hl 0 rfl) ?_
    refine ug_I hx hb ht hown hM hK hP 154 (by decide) lk_M_154 (by decide) d_M_chosen_27 ?_
    obtain ⟨hi9, hf⟩ := ck_some hf
    refine ul_I hx hb hK hP (by decide) (by decide) hi9 d_M_chosen_30 ?_
    refine lv_isub hx hb d_M_chosen_31 ?_
    obtain ⟨hi9, hf⟩ := ck_some hf
    refine us_I hx hb hK hP hD hS (by decide) (by decide) hi9 d_M_chosen_32 (fun H locs hP hD hS => ?_)
    obtain ⟨w6, e6, hf⟩ := lt_some hf
    rw [← e6] at hP hD
    refine lv_aload_n hx hb d_M_chosen_33 rfl (lv_at hl 0 rfl) ?_
    refine ug_R hx hb ht hown hM hK hP 97 (by decide) lk_M_97 (by decide) d_M_chosen_34 ?_
    refine lv_aload_n hx hb d_M_chosen_37 rfl (lv_at hl 0 rfl) ?_
    obtain ⟨u7, r7, hc7, hf⟩ := bnd_some hf
    refine mV_i (As := []) (rest := [.ref (ad 97)]) C0 hP hD hS (c_M_frame0 N hM hc7) k_M_frame0 hl_M_frame0 hi_M_frame0 hs_M_frame0 hini_M rfl rfl hd_M_frame0 rfl (rm_M_chosen_M_frame0 hR) hl.1 (Nat.le_of_ble_eq_true rfl) d_M_chosen_38 rfl ⟨Nat.zero_le _, Nat.zero_le _⟩ (fun H locs hP hD hS => ?_)
    refine lv_aload_n hx hb d_M_chosen_41 rfl (lv_at hl 0 rfl) ?_
    refine ug_I hx hb ht hown hM hK hP 154 (by decide) lk_M_154 (by decide) d_M_chosen_42 ?_
    obtain ⟨hi9, hf⟩ := ck_some hf
    refine us_I hx hb hK hP hD hS (by decide) (by decide) hi9 d_M_chosen_45 (fun H locs hP hD hS => ?_)
    obtain ⟨w8, e8, hf⟩ := lt_some hf
    rw [← e8] at hP hD
    refine lv_goto (tgt := 148) hx hb d_M_chosen_46 (by decide) ?_
    exact wb_M_chosen_148 C0 hR N G hG _ _ hf H locs hP hD hS ls (lv_sub hl [0] rfl)
def gg_M_chosen (N : Nat) : Nat → ((MS → Int32 → Option (MS × Unit)))
  | 0 => fun _ _ => none
  | n + 1 => fb_M_chosen_99 N (gg_M_chosen N n)
theorem wg_M_chosen {p : Program} {l : Launch} {e : Env} {R : Room} {s : State} {m : MethodId} {args : Array Value} {below : List Frame} {meth : Method} {c : Code} {D : va_G} {cl : List vw_C} {cB cI cJ cZ cS : ClassId} {A : Nat → Prop} {iM h0 : Nat} {ad : Nat → Nat} (C0 : MCx p s m args meth c b_M_chosen 2 none D cl cB cI cJ cZ cS iM A) (hR : R = rm_M_chosen) (N : Nat) : ∀ n : Nat, (∀ (u : MS) (v1 : Int32) (x : MS × Unit), gg_M_chosen N n u v1 = some x → ∀ (H : Heap) (locs : List Loc), va_P D cl (wM cB cI cJ cZ cS iM h0 ad u) H → va_D A (wM cB cI cJ cZ cS iM h0 ad u) → va_S A s.heap H locs → ∀ (ls : Array Slot), lv_has ls 2 [(0, .ref h0), (1, .int v1)] → W p l e R s m args below meth c H locs 0 0 (MQ below (mQv D cl cB cI cJ cZ cS iM h0 ad A x) args s 0 0 A) (F0 m 99 ls []))
  | 0 => (fun u v1 x hf => by cases hf)
  | n + 1 => wb_M_chosen_99 C0 hR N (gg_M_chosen N n) (wg_M_chosen C0 hR N n)
def fm_M_chosen (N : Nat) (u : MS) : Option (MS × Unit) := fb_M_chosen_0 N (gg_M_chosen N N) u
set_option maxRecDepth 100000 in
set_option maxHeartbeats 4000000 in
theorem c_M_chosen (N : Nat) {l : Launch} {D : va_G} {cl : List vw_C} {cB cI cJ cZ cS : ClassId} {iM h0 : Nat} {ad : Nat → Nat} {u : MS} {sz : Nat} {x : MS × Unit} (hM : cl[iM]? = some (R_M, F_M, 171)) (hf : fm_M_chosen N u = some x) : Met l y_M_chosen (wd_ws y_M_chosen b_M_chosen 2 none) rm_M_chosen (mPc D cl cB cI cJ cZ cS iM h0 ad u sz [.ref h0]) (mQv D cl cB cI cJ cZ cS iM h0 ad (mA cB cI cJ cZ cS iM h0 ad u sz) x) 0 0 (mA cB cI cJ cZ cS iM h0 ad u sz) :=
  mMet (by decide) rfl hM (Nat.le_of_ble_eq_true rfl) (fun p e s m below meth c ls hsz C0 hP hD hS hl => by
    have hR : rm_M_chosen = rm_M_chosen := rfl
    exact wb_M_chosen_0 C0 hR N (gg_M_chosen N N) (wg_M_chosen C0 hR N N) u x hf s.heap [] hP hD hS ls (lv_sub hl [0] rfl))
abbrev b_M_error : ByteArray := prog_14_method_113_code
def y_M_error : MethodName := ⟨R_M, "error", "(I)V"⟩
def w_M_error : List Cond := wd_ws y_M_error b_M_error 2 none
set_option maxRecDepth 100000 in
theorem k_M_error : Cond.code y_M_error b_M_error 2 none ∈ wd_tbl := wd_of 3018 rfl rfl
theorem d_M_error_0 : decode b_M_error 0 = .ok (.aload_n 0, 1) := by decide +kernel
theorem d_M_error_1 : decode b_M_error 1 = .ok (.iconst 0, 1) := by decide +kernel
theorem d_M_error_2 : decode b_M_error 2 = .ok (.iconst 1, 1) := by decide +kernel
theorem d_M_error_3 : decode b_M_error 3 = .ok (.iload_n 1, 1) := by decide +kernel
theorem d_M_error_4 : decode b_M_error 4 = .ok (.invokestatic 315, 3) := by decide +kernel
theorem d_M_error_7 : decode b_M_error 7 = .ok (.invokevirtual 814, 3) := by decide +kernel
theorem d_M_error_10 : decode b_M_error 10 = .ok (.return_, 1) := by decide +kernel
set_option maxRecDepth 100000 in
theorem hl_M_error : Cond.methodLink R_M 861 y_M_error ∈ wd_tbl := wd_of 3015 (by decide +kernel) rfl
set_option maxRecDepth 100000 in
theorem hi_M_error : Cond.instanceMethod y_M_error ∈ wd_tbl := wd_of 3017 (by decide +kernel) rfl
set_option maxRecDepth 100000 in
theorem hs_M_error : Cond.selects R_M y_M_error y_M_error ∈ wd_tbl := wd_of 211 (by decide +kernel) rfl
theorem hd_M_error : y_M_error.cls = R_M ∧ y_M_error.cls ≠ "java/lang/invoke/MethodHandle" ∧ y_M_error.cls ≠ "java/lang/invoke/VarHandle" ∧ (parseMethodDescriptor y_M_error.desc).map (fun d => d.parameters.length) = some 1 := by decide +kernel
abbrev b_M_errorOf : ByteArray := prog_14_method_114_code
def y_M_errorOf : MethodName := ⟨R_M, "errorOf", "(IJ)V"⟩
def w_M_errorOf : List Cond := wd_ws y_M_errorOf b_M_errorOf 7 none
set_option maxRecDepth 100000 in
theorem k_M_errorOf : Cond.code y_M_errorOf b_M_errorOf 7 none ∈ wd_tbl := wd_of 2944 rfl rfl
theorem d_M_errorOf_0 : decode b_M_errorOf 0 = .ok (.aload_n 0, 1) := by decide +kernel
theorem d_M_errorOf_1 : decode b_M_errorOf 1 = .ok (.getfield 795, 3) := by decide +kernel
theorem d_M_errorOf_4 : decode b_M_errorOf 4 = .ok (.ifCond .eq 8, 3) := by decide +kernel
theorem d_M_errorOf_7 : decode b_M_errorOf 7 = .ok (.aload_n 0, 1) := by decide +kernel
theorem d_M_errorOf_8 : decode b_M_errorOf 8 = .ok (.invokevirtual 798, 3) := by decide +kernel
theorem d_M_errorOf_11 : decode b_M_errorOf 11 = .ok (.return_, 1) := by decide +kernel
theorem d_M_errorOf_12 : decode b_M_errorOf 12 = .ok (.aload_n 0, 1) := by decide +kernel
theorem d_M_errorOf_13 : decode b_M_errorOf 13 = .ok (.aload_n 0, 1) := by decide +kernel
theorem d_M_errorOf_14 : decode b_M_errorOf 14 = .ok (.getfield 669, 3) := by decide +kernel
theorem d_M_errorOf_17 : decode b_M_errorOf 17 = .ok (.lload_n 2, 1) := by decide +kernel
theorem d_M_errorOf_18 : decode b_M_errorOf 18 = .ok (.invokevirtual 773, 3) := by decide +kernel
theorem d_M_errorOf_21 : decode b_M_errorOf 21 = .ok (.aload_n 0, 1) := by decide +kernel
theorem d_M_errorOf_22 : decode b_M_errorOf 22 = .ok (.aload_n 0, 1) := by decide +kernel
theorem d_M_errorOf_23 : decode b_M_errorOf 23 = .ok (.getfield 669, 3) := by decide +kernel
theorem d_M_errorOf_26 : decode b_M_errorOf 26 = .ok (.iconst 3, 1) := by decide +kernel
theorem d_M_errorOf_27 : decode b_M_errorOf 27 = .ok (.invokevirtual 776, 3) := by decide +kernel
theorem d_M_errorOf_30 : decode b_M_errorOf 30 = .ok (.istore 4, 2) := by decide +kernel
theorem d_M_errorOf_32 : decode b_M_errorOf 32 = .ok (.aload_n 0, 1) := by decide +kernel
theorem d_M_errorOf_33 : decode b_M_errorOf 33 = .ok (.getfield 319, 3) := by decide +kernel
theorem d_M_errorOf_36 : decode b_M_errorOf 36 = .ok (.lstore 5, 2) := by decide +kernel
theorem d_M_errorOf_38 : decode b_M_errorOf 38 = .ok (.aload_n 0, 1) := by decide +kernel
theorem d_M_errorOf_39 : decode b_M_errorOf 39 = .ok (.invokevirtual 780, 3) := by decide +kernel
theorem d_M_errorOf_42 : decode b_M_errorOf 42 = .ok (.iload 4, 2) := by decide +kernel
theorem d_M_errorOf_44 : decode b_M_errorOf 44 = .ok (.ifCond .eq 18, 3) := by decide +kernel
theorem d_M_errorOf_47 : decode b_M_errorOf 47 = .ok (.aload_n 0, 1) := by decide +kernel
theorem d_M_errorOf_48 : decode b_M_errorOf 48 = .ok (.iconst 0, 1) := by decide +kernel
theorem d_M_errorOf_49 : decode b_M_errorOf 49 = .ok (.aload_n 0, 1) := by decide +kernel
theorem d_M_errorOf_50 : decode b_M_errorOf 50 = .ok (.iload_n 1, 1) := by decide +kernel
theorem d_M_errorOf_51 : decode b_M_errorOf 51 = .ok (.lload 5, 2) := by decide +kernel
theorem d_M_errorOf_53 : decode b_M_errorOf 53 = .ok (.invokevirtual 808, 3) := by decide +kernel
theorem d_M_errorOf_56 : decode b_M_errorOf 56 = .ok (.invokevirtual 814, 3) := by decide +kernel
theorem d_M_errorOf_59 : decode b_M_errorOf 59 = .ok (.goto 7, 3) := by decide +kernel
theorem d_M_errorOf_62 : decode b_M_errorOf 62 = .ok (.aload_n 0, 1) := by decide +kernel
theorem d_M_errorOf_63 : decode b_M_errorOf 63 = .ok (.invokevirtual 805, 3) := by decide +kernel
theorem d_M_errorOf_66 : decode b_M_errorOf 66 = .ok (.return_, 1) := by decide +kernel
set_option maxRecDepth 100000 in
theorem hl_M_errorOf : Cond.methodLink R_M 858 y_M_errorOf ∈ wd_tbl := wd_of 2941 (by decide +kernel) rfl
set_option maxRecDepth 100000 in
theorem hi_M_errorOf : Cond.instanceMethod y_M_errorOf ∈ wd_tbl := wd_of 2943 (by decide +kernel) rfl
set_option maxRecDepth 100000 in
theorem hs_M_errorOf : Cond.selects R_M y_M_errorOf y_M_errorOf ∈ wd_tbl := wd_of 196 (by decide +kernel) rfl
theorem hd_M_errorOf : y_M_errorOf.cls = R_M ∧ y_M_errorOf.cls ≠ "java/lang/invoke/MethodHandle" ∧ y_M_errorOf.cls ≠ "java/lang/invoke/VarHandle" ∧ (parseMethodDescriptor y_M_errorOf.desc).map (fun d => d.parameters.length) = some 2 := by decide +kernel
abbrev b_M_nonePart : ByteArray := prog_14_method_118_code
def y_M_nonePart : MethodName := ⟨R_M, "nonePart", "()Z"⟩
def w_M_nonePart : List Cond := wd_ws y_M_nonePart b_M_nonePart 1 (some .boolean)
set_option maxRecDepth 100000 in
theorem k_M_nonePart : Cond.code y_M_nonePart b_M_nonePart 1 (some .boolean) ∈ wd_tbl := wd_of 2927 rfl rfl
theorem d_M_nonePart_0 : decode b_M_nonePart 0 = .ok (.aload_n 0, 1) := by decide +kernel
theorem d_M_nonePart_1 : decode b_M_nonePart 1 = .ok (.getfield 838, 3) := by decide +kernel
theorem d_M_nonePart_4 : decode b_M_nonePart 4 = .ok (.iconst 3, 1) := by decide +kernel
theorem d_M_nonePart_5 : decode b_M_nonePart 5 = .ok (.if_icmp .ne 76, 3) := by decide +kernel
theorem d_M_nonePart_8 : decode b_M_nonePart 8 = .ok (.aload_n 0, 1) := by decide +kernel
theorem d_M_nonePart_9 : decode b_M_nonePart 9 = .ok (.dup, 1) := by decide +kernel
theorem d_M_nonePart_10 : decode b_M_nonePart 10 = .ok (.getfield 841, 3) := by decide +kernel
theorem d_M_nonePart_13 : decode b_M_nonePart 13 = .ok (.iconst 1, 1) := by decide +kernel
theorem d_M_nonePart_14 : decode b_M_nonePart 14 = .ok (.iadd, 1) := by decide +kernel
theorem d_M_nonePart_15 : decode b_M_nonePart 15 = .ok (.putfield 841, 3) := by decide +kernel
theorem d_M_nonePart_18 : decode b_M_nonePart 18 = .ok (.aload_n 0, 1) := by decide +kernel
theorem d_M_nonePart_19 : decode b_M_nonePart 19 = .ok (.getfield 258, 3) := by decide +kernel
theorem d_M_nonePart_22 : decode b_M_nonePart 22 = .ok (.aload_n 0, 1) := by decide +kernel
theorem d_M_nonePart_23 : decode b_M_nonePart 23 = .ok (.getfield 669, 3) := by decide +kernel
theorem d_M_nonePart_26 : decode b_M_nonePart 26 = .ok (.aload_n 0, 1) := by decide +kernel
theorem d_M_nonePart_27 : decode b_M_nonePart 27 = .ok (.getfield 841, 3) := by decide +kernel
theorem d_M_nonePart_30 : decode b_M_nonePart 30 = .ok (.iastore, 1) := by decide +kernel
theorem d_M_nonePart_31 : decode b_M_nonePart 31 = .ok (.aload_n 0, 1) := by decide +kernel
theorem d_M_nonePart_32 : decode b_M_nonePart 32 = .ok (.getfield 841, 3) := by decide +kernel
theorem d_M_nonePart_35 : decode b_M_nonePart 35 = .ok (.aload_n 0, 1) := by decide +kernel
theorem d_M_nonePart_36 : decode b_M_nonePart 36 = .ok (.getfield 252, 3) := by decide +kernel
theorem d_M_nonePart_39 : decode b_M_nonePart 39 = .ok (.aload_n 0, 1) := by decide +kernel
theorem d_M_nonePart_40 : decode b_M_nonePart 40 = .ok (.getfield 669, 3) := by decide +kernel
theorem d_M_nonePart_43 : decode b_M_nonePart 43 = .ok (.iaload, 1) := by decide +kernel
theorem d_M_nonePart_44 : decode b_M_nonePart 44 = .ok (.if_icmp .ge 13, 3) := by decide +kernel
theorem d_M_nonePart_47 : decode b_M_nonePart 47 = .ok (.aload_n 0, 1) := by decide +kernel
theorem d_M_nonePart_48 : decode b_M_nonePart 48 = .ok (.aload_n 0, 1) := by decide +kernel
theorem d_M_nonePart_49 : decode b_M_nonePart 49 = .ok (.getfield 852, 3) := by decide +kernel
theorem d_M_nonePart_52 : decode b_M_nonePart 52 = .ok (.putfield 820, 3) := by decide +kernel
theorem d_M_nonePart_55 : decode b_M_nonePart 55 = .ok (.iconst 1, 1) := by decide +kernel
theorem d_M_nonePart_56 : decode b_M_nonePart 56 = .ok (.ireturn, 1) := by decide +kernel
theorem d_M_nonePart_57 : decode b_M_nonePart 57 = .ok (.aload_n 0, 1) := by decide +kernel
theorem d_M_nonePart_58 : decode b_M_nonePart 58 = .ok (.getfield 258, 3) := by decide +kernel
theorem d_M_nonePart_61 : decode b_M_nonePart 61 = .ok (.aload_n 0, 1) := by decide +kernel
theorem d_M_nonePart_62 : decode b_M_nonePart 62 = .ok (.getfield 669, 3) := by decide +kernel
theorem d_M_nonePart_65 : decode b_M_nonePart 65 = .ok (.aload_n 0, 1) := by decide +kernel
theorem d_M_nonePart_66 : decode b_M_nonePart 66 = .ok (.getfield 252, 3) := by decide +kernel
theorem d_M_nonePart_69 : decode b_M_nonePart 69 = .ok (.aload_n 0, 1) := by decide +kernel
theorem d_M_nonePart_70 : decode b_M_nonePart 70 = .ok (.getfield 669, 3) := by decide +kernel
theorem d_M_nonePart_73 : decode b_M_nonePart 73 = .ok (.iaload, 1) := by decide +kernel
theorem d_M_nonePart_74 : decode b_M_nonePart 74 = .ok (.iastore, 1) := by decide +kernel
theorem d_M_nonePart_75 : decode b_M_nonePart 75 = .ok (.aload_n 0, 1) := by decide +kernel
theorem d_M_nonePart_76 : decode b_M_nonePart 76 = .ok (.invokevirtual 855, 3) := by decide +kernel
theorem d_M_nonePart_79 : decode b_M_nonePart 79 = .ok (.iconst 0, 1) := by decide +kernel
theorem d_M_nonePart_80 : decode b_M_nonePart 80 = .ok (.ireturn, 1) := by decide +kernel
theorem d_M_nonePart_81 : decode b_M_nonePart 81 = .ok (.aload_n 0, 1) := by decide +kernel
theorem d_M_nonePart_82 : decode b_M_nonePart 82 = .ok (.getfield 838, 3) := by decide +kernel
theorem d_M_nonePart_85 : decode b_M_nonePart 85 = .ok (.iconst 1, 1) := by decide +kernel
theorem d_M_nonePart_86 : decode b_M_nonePart 86 = .ok (.if_icmp .ne 17, 3) := by decide +kernel
theorem d_M_nonePart_89 : decode b_M_nonePart 89 = .ok (.aload_n 0, 1) := by decide +kernel
theorem d_M_nonePart_90 : decode b_M_nonePart 90 = .ok (.bipush 15, 2) := by decide +kernel
theorem d_M_nonePart_92 : decode b_M_nonePart 92 = .ok (.aload_n 0, 1) := by decide +kernel
theorem d_M_nonePart_93 : decode b_M_nonePart 93 = .ok (.iconst 0, 1) := by decide +kernel
theorem d_M_nonePart_94 : decode b_M_nonePart 94 = .ok (.invokevirtual 848, 3) := by decide +kernel
theorem d_M_nonePart_97 : decode b_M_nonePart 97 = .ok (.invokevirtual 858, 3) := by decide +kernel
theorem d_M_nonePart_100 : decode b_M_nonePart 100 = .ok (.goto 22, 3) := by decide +kernel
theorem d_M_nonePart_103 : decode b_M_nonePart 103 = .ok (.aload_n 0, 1) := by decide +kernel
theorem d_M_nonePart_104 : decode b_M_nonePart 104 = .ok (.aload_n 0, 1) := by decide +kernel
theorem d_M_nonePart_105 : decode b_M_nonePart 105 = .ok (.getfield 838, 3) := by decide +kernel
theorem d_M_nonePart_108 : decode b_M_nonePart 108 = .ok (.iconst 2, 1) := by decide +kernel
theorem d_M_nonePart_109 : decode b_M_nonePart 109 = .ok (.if_icmp .ne 8, 3) := by decide +kernel
theorem d_M_nonePart_112 : decode b_M_nonePart 112 = .ok (.bipush 16, 2) := by decide +kernel
theorem d_M_nonePart_114 : decode b_M_nonePart 114 = .ok (.goto 5, 3) := by decide +kernel
theorem d_M_nonePart_117 : decode b_M_nonePart 117 = .ok (.bipush 14, 2) := by decide +kernel
theorem d_M_nonePart_119 : decode b_M_nonePart 119 = .ok (.invokevirtual 861, 3) := by decide +kernel
theorem d_M_nonePart_122 : decode b_M_nonePart 122 = .ok (.iconst 0, 1) := by decide +kernel
theorem d_M_nonePart_123 : decode b_M_nonePart 123 = .ok (.ireturn, 1) := by decide +kernel
set_option maxRecDepth 100000 in
theorem hl_M_nonePart : Cond.methodLink R_M 829 y_M_nonePart ∈ wd_tbl := wd_of 2924 (by decide +kernel) rfl
set_option maxRecDepth 100000 in
theorem hi_M_nonePart : Cond.instanceMethod y_M_nonePart ∈ wd_tbl := wd_of 2926 (by decide +kernel) rfl
set_option maxRecDepth 100000 in
theorem hs_M_nonePart : Cond.selects R_M y_M_nonePart y_M_nonePart ∈ wd_tbl := wd_of 192 (by decide +kernel) rfl
theorem hd_M_nonePart : y_M_nonePart.cls = R_M ∧ y_M_nonePart.cls ≠ "java/lang/invoke/MethodHandle" ∧ y_M_nonePart.cls ≠ "java/lang/invoke/VarHandle" ∧ (parseMethodDescriptor y_M_nonePart.desc).map (fun d => d.parameters.length) = some 0 := by decide +kernel
abbrev b_M_choose : ByteArray := prog_14_method_116_code
def y_M_choose : MethodName := ⟨R_M, "choose", "()V"⟩
def w_M_choose : List Cond := wd_ws y_M_choose b_M_choose 2 none
set_option maxRecDepth 100000 in
theorem k_M_choose : Cond.code y_M_choose b_M_choose 2 none ∈ wd_tbl := wd_of 2923 rfl rfl
theorem d_M_choose_0 : decode b_M_choose 0 = .ok (.iconst 1, 1) := by decide +kernel
theorem d_M_choose_1 : decode b_M_choose 1 = .ok (.istore_n 1, 1) := by decide +kernel
theorem d_M_choose_2 : decode b_M_choose 2 = .ok (.iload_n 1, 1) := by decide +kernel
theorem d_M_choose_3 : decode b_M_choose 3 = .ok (.ifCond .eq 111, 3) := by decide +kernel
theorem d_M_choose_6 : decode b_M_choose 6 = .ok (.aload_n 0, 1) := by decide +kernel
theorem d_M_choose_7 : decode b_M_choose 7 = .ok (.getfield 209, 3) := by decide +kernel
theorem d_M_choose_10 : decode b_M_choose 10 = .ok (.aload_n 0, 1) := by decide +kernel
theorem d_M_choose_11 : decode b_M_choose 11 = .ok (.getfield 669, 3) := by decide +kernel
theorem d_M_choose_14 : decode b_M_choose 14 = .ok (.aload_n 0, 1) := by decide +kernel
theorem d_M_choose_15 : decode b_M_choose 15 = .ok (.getfield 826, 3) := by decide +kernel
theorem d_M_choose_18 : decode b_M_choose 18 = .ok (.iastore, 1) := by decide +kernel
theorem d_M_choose_19 : decode b_M_choose 19 = .ok (.aload_n 0, 1) := by decide +kernel
theorem d_M_choose_20 : decode b_M_choose 20 = .ok (.getfield 820, 3) := by decide +kernel
theorem d_M_choose_23 : decode b_M_choose 23 = .ok (.iconst (-1), 1) := by decide +kernel
theorem d_M_choose_24 : decode b_M_choose 24 = .ok (.if_icmp .ne 11, 3) := by decide +kernel
theorem d_M_choose_27 : decode b_M_choose 27 = .ok (.aload_n 0, 1) := by decide +kernel
theorem d_M_choose_28 : decode b_M_choose 28 = .ok (.invokevirtual 829, 3) := by decide +kernel
theorem d_M_choose_31 : decode b_M_choose 31 = .ok (.istore_n 1, 1) := by decide +kernel
theorem d_M_choose_32 : decode b_M_choose 32 = .ok (.goto (-30), 3) := by decide +kernel
theorem d_M_choose_35 : decode b_M_choose 35 = .ok (.aload_n 0, 1) := by decide +kernel
theorem d_M_choose_36 : decode b_M_choose 36 = .ok (.invokevirtual 832, 3) := by decide +kernel
theorem d_M_choose_39 : decode b_M_choose 39 = .ok (.ifCond .eq 59, 3) := by decide +kernel
theorem d_M_choose_42 : decode b_M_choose 42 = .ok (.iconst 0, 1) := by decide +kernel
theorem d_M_choose_43 : decode b_M_choose 43 = .ok (.istore_n 1, 1) := by decide +kernel
theorem d_M_choose_44 : decode b_M_choose 44 = .ok (.aload_n 0, 1) := by decide +kernel
theorem d_M_choose_45 : decode b_M_choose 45 = .ok (.getfield 110, 3) := by decide +kernel
theorem d_M_choose_48 : decode b_M_choose 48 = .ok (.aload_n 0, 1) := by decide +kernel
theorem d_M_choose_49 : decode b_M_choose 49 = .ok (.getfield 820, 3) := by decide +kernel
theorem d_M_choose_52 : decode b_M_choose 52 = .ok (.iaload, 1) := by decide +kernel
theorem d_M_choose_53 : decode b_M_choose 53 = .ok (.iconst (-1), 1) := by decide +kernel
theorem d_M_choose_54 : decode b_M_choose 54 = .ok (.if_icmp .ne 10, 3) := by decide +kernel
theorem d_M_choose_57 : decode b_M_choose 57 = .ok (.aload_n 0, 1) := by decide +kernel
theorem d_M_choose_58 : decode b_M_choose 58 = .ok (.invokevirtual 835, 3) := by decide +kernel
theorem d_M_choose_61 : decode b_M_choose 61 = .ok (.goto (-59), 3) := by decide +kernel
theorem d_M_choose_64 : decode b_M_choose 64 = .ok (.aload_n 0, 1) := by decide +kernel
theorem d_M_choose_65 : decode b_M_choose 65 = .ok (.iconst 1, 1) := by decide +kernel
theorem d_M_choose_66 : decode b_M_choose 66 = .ok (.putfield 795, 3) := by decide +kernel
theorem d_M_choose_69 : decode b_M_choose 69 = .ok (.aload_n 0, 1) := by decide +kernel
theorem d_M_choose_70 : decode b_M_choose 70 = .ok (.aload_n 0, 1) := by decide +kernel
theorem d_M_choose_71 : decode b_M_choose 71 = .ok (.getfield 202, 3) := by decide +kernel
theorem d_M_choose_74 : decode b_M_choose 74 = .ok (.aload_n 0, 1) := by decide +kernel
theorem d_M_choose_75 : decode b_M_choose 75 = .ok (.getfield 669, 3) := by decide +kernel
theorem d_M_choose_78 : decode b_M_choose 78 = .ok (.iaload, 1) := by decide +kernel
theorem d_M_choose_79 : decode b_M_choose 79 = .ok (.putfield 817, 3) := by decide +kernel
theorem d_M_choose_82 : decode b_M_choose 82 = .ok (.aload_n 0, 1) := by decide +kernel
theorem d_M_choose_83 : decode b_M_choose 83 = .ok (.aload_n 0, 1) := by decide +kernel
theorem d_M_choose_84 : decode b_M_choose 84 = .ok (.getfield 110, 3) := by decide +kernel
theorem d_M_choose_87 : decode b_M_choose 87 = .ok (.aload_n 0, 1) := by decide +kernel
theorem d_M_choose_88 : decode b_M_choose 88 = .ok (.getfield 820, 3) := by decide +kernel
theorem d_M_choose_91 : decode b_M_choose 91 = .ok (.iaload, 1) := by decide +kernel
theorem d_M_choose_92 : decode b_M_choose 92 = .ok (.invokevirtual 811, 3) := by decide +kernel
theorem d_M_choose_95 : decode b_M_choose 95 = .ok (.goto (-93), 3) := by decide +kernel
theorem d_M_choose_98 : decode b_M_choose 98 = .ok (.aload_n 0, 1) := by decide +kernel
theorem d_M_choose_99 : decode b_M_choose 99 = .ok (.aload_n 0, 1) := by decide +kernel
theorem d_M_choose_100 : decode b_M_choose 100 = .ok (.getfield 119, 3) := by decide +kernel
theorem d_M_choose_103 : decode b_M_choose 103 = .ok (.aload_n 0, 1) := by decide +kernel
theorem d_M_choose_104 : decode b_M_choose 104 = .ok (.getfield 820, 3) := by decide +kernel
theorem d_M_choose_107 : decode b_M_choose 107 = .ok (.iaload, 1) := by decide +kernel
theorem d_M_choose_108 : decode b_M_choose 108 = .ok (.putfield 820, 3) := by decide +kernel
theorem d_M_choose_111 : decode b_M_choose 111 = .ok (.goto (-109), 3) := by decide +kernel
theorem d_M_choose_114 : decode b_M_choose 114 = .ok (.return_, 1) := by decide +kernel
set_option maxRecDepth 100000 in
theorem hl_M_choose : Cond.methodLink R_M 823 y_M_choose ∈ wd_tbl := wd_of 2920 (by decide +kernel) rfl
set_option maxRecDepth 100000 in
theorem hi_M_choose : Cond.instanceMethod y_M_choose ∈ wd_tbl := wd_of 2922 (by decide +kernel) rfl
set_option maxRecDepth 100000 in
theorem hs_M_choose : Cond.selects R_M y_M_choose y_M_choose ∈ wd_tbl := wd_of 191 (by decide +kernel) rfl
theorem hd_M_choose : y_M_choose.cls = R_M ∧ y_M_choose.cls ≠ "java/lang/invoke/MethodHandle" ∧ y_M_choose.cls ≠ "java/lang/invoke/VarHandle" ∧ (parseMethodDescriptor y_M_choose.desc).map (fun d => d.parameters.length) = some 0 := by decide +kernel
abbrev b_M_guardFails : ByteArray := prog_14_method_115_code
def y_M_guardFails : MethodName := ⟨R_M, "guardFails", "()V"⟩
def w_M_guardFails : List Cond := wd_ws y_M_guardFails b_M_guardFails 1 none
set_option maxRecDepth 100000 in
theorem k_M_guardFails : Cond.code y_M_guardFails b_M_guardFails 1 none ∈ wd_tbl := wd_of 2948 rfl rfl
theorem d_M_guardFails_0 : decode b_M_guardFails 0 = .ok (.aload_n 0, 1) := by decide +kernel
theorem d_M_guardFails_1 : decode b_M_guardFails 1 = .ok (.iconst 0, 1) := by decide +kernel
theorem d_M_guardFails_2 : decode b_M_guardFails 2 = .ok (.putfield 795, 3) := by decide +kernel
theorem d_M_guardFails_5 : decode b_M_guardFails 5 = .ok (.aload_n 0, 1) := by decide +kernel
theorem d_M_guardFails_6 : decode b_M_guardFails 6 = .ok (.getfield 202, 3) := by decide +kernel
theorem d_M_guardFails_9 : decode b_M_guardFails 9 = .ok (.aload_n 0, 1) := by decide +kernel
theorem d_M_guardFails_10 : decode b_M_guardFails 10 = .ok (.getfield 669, 3) := by decide +kernel
theorem d_M_guardFails_13 : decode b_M_guardFails 13 = .ok (.aload_n 0, 1) := by decide +kernel
theorem d_M_guardFails_14 : decode b_M_guardFails 14 = .ok (.getfield 817, 3) := by decide +kernel
theorem d_M_guardFails_17 : decode b_M_guardFails 17 = .ok (.iastore, 1) := by decide +kernel
theorem d_M_guardFails_18 : decode b_M_guardFails 18 = .ok (.aload_n 0, 1) := by decide +kernel
theorem d_M_guardFails_19 : decode b_M_guardFails 19 = .ok (.aload_n 0, 1) := by decide +kernel
theorem d_M_guardFails_20 : decode b_M_guardFails 20 = .ok (.getfield 119, 3) := by decide +kernel
theorem d_M_guardFails_23 : decode b_M_guardFails 23 = .ok (.aload_n 0, 1) := by decide +kernel
theorem d_M_guardFails_24 : decode b_M_guardFails 24 = .ok (.getfield 820, 3) := by decide +kernel
theorem d_M_guardFails_27 : decode b_M_guardFails 27 = .ok (.iaload, 1) := by decide +kernel
theorem d_M_guardFails_28 : decode b_M_guardFails 28 = .ok (.putfield 820, 3) := by decide +kernel
theorem d_M_guardFails_31 : decode b_M_guardFails 31 = .ok (.aload_n 0, 1) := by decide +kernel
theorem d_M_guardFails_32 : decode b_M_guardFails 32 = .ok (.invokevirtual 823, 3) := by decide +kernel
theorem d_M_guardFails_35 : decode b_M_guardFails 35 = .ok (.return_, 1) := by decide +kernel
set_option maxRecDepth 100000 in
theorem hl_M_guardFails : Cond.methodLink R_M 798 y_M_guardFails ∈ wd_tbl := wd_of 2945 (by decide +kernel) rfl
set_option maxRecDepth 100000 in
theorem hi_M_guardFails : Cond.instanceMethod y_M_guardFails ∈ wd_tbl := wd_of 2947 (by decide +kernel) rfl
set_option maxRecDepth 100000 in
theorem hs_M_guardFails : Cond.selects R_M y_M_guardFails y_M_guardFails ∈ wd_tbl := wd_of 197 (by decide +kernel) rfl
theorem hd_M_guardFails : y_M_guardFails.cls = R_M ∧ y_M_guardFails.cls ≠ "java/lang/invoke/MethodHandle" ∧ y_M_guardFails.cls ≠ "java/lang/invoke/VarHandle" ∧ (parseMethodDescriptor y_M_guardFails.desc).map (fun d => d.parameters.length) = some 0 := by decide +kernel
abbrev b_M_goesUp : ByteArray := prog_14_method_111_code
def y_M_goesUp : MethodName := ⟨R_M, "goesUp", "(IJ)V"⟩
def w_M_goesUp : List Cond := wd_ws y_M_goesUp b_M_goesUp 7 none
set_option maxRecDepth 100000 in
theorem k_M_goesUp : Cond.code y_M_goesUp b_M_goesUp 7 none ∈ wd_tbl := wd_of 2998 rfl rfl
theorem d_M_goesUp_0 : decode b_M_goesUp 0 = .ok (.aload_n 0, 1) := by decide +kernel
theorem d_M_goesUp_1 : decode b_M_goesUp 1 = .ok (.getfield 795, 3) := by decide +kernel
theorem d_M_goesUp_4 : decode b_M_goesUp 4 = .ok (.ifCond .eq 8, 3) := by decide +kernel
theorem d_M_goesUp_7 : decode b_M_goesUp 7 = .ok (.aload_n 0, 1) := by decide +kernel
theorem d_M_goesUp_8 : decode b_M_goesUp 8 = .ok (.invokevirtual 798, 3) := by decide +kernel
theorem d_M_goesUp_11 : decode b_M_goesUp 11 = .ok (.return_, 1) := by decide +kernel
theorem d_M_goesUp_12 : decode b_M_goesUp 12 = .ok (.aload_n 0, 1) := by decide +kernel
theorem d_M_goesUp_13 : decode b_M_goesUp 13 = .ok (.getfield 246, 3) := by decide +kernel
theorem d_M_goesUp_16 : decode b_M_goesUp 16 = .ok (.aload_n 0, 1) := by decide +kernel
theorem d_M_goesUp_17 : decode b_M_goesUp 17 = .ok (.getfield 669, 3) := by decide +kernel
theorem d_M_goesUp_20 : decode b_M_goesUp 20 = .ok (.iaload, 1) := by decide +kernel
theorem d_M_goesUp_21 : decode b_M_goesUp 21 = .ok (.ifCond .ne 27, 3) := by decide +kernel
theorem d_M_goesUp_24 : decode b_M_goesUp 24 = .ok (.aload_n 0, 1) := by decide +kernel
theorem d_M_goesUp_25 : decode b_M_goesUp 25 = .ok (.iload_n 1, 1) := by decide +kernel
theorem d_M_goesUp_26 : decode b_M_goesUp 26 = .ok (.ifCond .ne 7, 3) := by decide +kernel
theorem d_M_goesUp_29 : decode b_M_goesUp 29 = .ok (.iconst 1, 1) := by decide +kernel
theorem d_M_goesUp_30 : decode b_M_goesUp 30 = .ok (.goto 13, 3) := by decide +kernel
theorem d_M_goesUp_33 : decode b_M_goesUp 33 = .ok (.iload_n 1, 1) := by decide +kernel
theorem d_M_goesUp_34 : decode b_M_goesUp 34 = .ok (.iconst 1, 1) := by decide +kernel
theorem d_M_goesUp_35 : decode b_M_goesUp 35 = .ok (.if_icmp .ne 7, 3) := by decide +kernel
theorem d_M_goesUp_38 : decode b_M_goesUp 38 = .ok (.iconst 0, 1) := by decide +kernel
theorem d_M_goesUp_39 : decode b_M_goesUp 39 = .ok (.goto 4, 3) := by decide +kernel
theorem d_M_goesUp_42 : decode b_M_goesUp 42 = .ok (.iconst 2, 1) := by decide +kernel
theorem d_M_goesUp_43 : decode b_M_goesUp 43 = .ok (.lload_n 2, 1) := by decide +kernel
theorem d_M_goesUp_44 : decode b_M_goesUp 44 = .ok (.invokevirtual 792, 3) := by decide +kernel
theorem d_M_goesUp_47 : decode b_M_goesUp 47 = .ok (.return_, 1) := by decide +kernel
theorem d_M_goesUp_48 : decode b_M_goesUp 48 = .ok (.aload_n 0, 1) := by decide +kernel
theorem d_M_goesUp_49 : decode b_M_goesUp 49 = .ok (.getfield 246, 3) := by decide +kernel
theorem d_M_goesUp_52 : decode b_M_goesUp 52 = .ok (.aload_n 0, 1) := by decide +kernel
theorem d_M_goesUp_53 : decode b_M_goesUp 53 = .ok (.getfield 669, 3) := by decide +kernel
theorem d_M_goesUp_56 : decode b_M_goesUp 56 = .ok (.dup2, 1) := by decide +kernel
theorem d_M_goesUp_57 : decode b_M_goesUp 57 = .ok (.iaload, 1) := by decide +kernel
theorem d_M_goesUp_58 : decode b_M_goesUp 58 = .ok (.iconst 1, 1) := by decide +kernel
theorem d_M_goesUp_59 : decode b_M_goesUp 59 = .ok (.isub, 1) := by decide +kernel
theorem d_M_goesUp_60 : decode b_M_goesUp 60 = .ok (.iastore, 1) := by decide +kernel
theorem d_M_goesUp_61 : decode b_M_goesUp 61 = .ok (.aload_n 0, 1) := by decide +kernel
theorem d_M_goesUp_62 : decode b_M_goesUp 62 = .ok (.getfield 669, 3) := by decide +kernel
theorem d_M_goesUp_65 : decode b_M_goesUp 65 = .ok (.sipush 1600, 3) := by decide +kernel
theorem d_M_goesUp_68 : decode b_M_goesUp 68 = .ok (.imul, 1) := by decide +kernel
theorem d_M_goesUp_69 : decode b_M_goesUp 69 = .ok (.aload_n 0, 1) := by decide +kernel
theorem d_M_goesUp_70 : decode b_M_goesUp 70 = .ok (.getfield 246, 3) := by decide +kernel
theorem d_M_goesUp_73 : decode b_M_goesUp 73 = .ok (.aload_n 0, 1) := by decide +kernel
theorem d_M_goesUp_74 : decode b_M_goesUp 74 = .ok (.getfield 669, 3) := by decide +kernel
theorem d_M_goesUp_77 : decode b_M_goesUp 77 = .ok (.iaload, 1) := by decide +kernel
theorem d_M_goesUp_78 : decode b_M_goesUp 78 = .ok (.iadd, 1) := by decide +kernel
theorem d_M_goesUp_79 : decode b_M_goesUp 79 = .ok (.istore 4, 2) := by decide +kernel
theorem d_M_goesUp_81 : decode b_M_goesUp 81 = .ok (.aload_n 0, 1) := by decide +kernel
theorem d_M_goesUp_82 : decode b_M_goesUp 82 = .ok (.getfield 212, 3) := by decide +kernel
theorem d_M_goesUp_85 : decode b_M_goesUp 85 = .ok (.aload_n 0, 1) := by decide +kernel
theorem d_M_goesUp_86 : decode b_M_goesUp 86 = .ok (.getfield 669, 3) := by decide +kernel
theorem d_M_goesUp_89 : decode b_M_goesUp 89 = .ok (.aload_n 0, 1) := by decide +kernel
theorem d_M_goesUp_90 : decode b_M_goesUp 90 = .ok (.getfield 234, 3) := by decide +kernel
theorem d_M_goesUp_93 : decode b_M_goesUp 93 = .ok (.iload 4, 2) := by decide +kernel
theorem d_M_goesUp_95 : decode b_M_goesUp 95 = .ok (.iaload, 1) := by decide +kernel
theorem d_M_goesUp_96 : decode b_M_goesUp 96 = .ok (.iconst 1, 1) := by decide +kernel
theorem d_M_goesUp_97 : decode b_M_goesUp 97 = .ok (.iadd, 1) := by decide +kernel
theorem d_M_goesUp_98 : decode b_M_goesUp 98 = .ok (.iastore, 1) := by decide +kernel
theorem d_M_goesUp_99 : decode b_M_goesUp 99 = .ok (.aload_n 0, 1) := by decide +kernel
theorem d_M_goesUp_100 : decode b_M_goesUp 100 = .ok (.getfield 202, 3) := by decide +kernel
theorem d_M_goesUp_103 : decode b_M_goesUp 103 = .ok (.aload_n 0, 1) := by decide +kernel
theorem d_M_goesUp_104 : decode b_M_goesUp 104 = .ok (.getfield 669, 3) := by decide +kernel
theorem d_M_goesUp_107 : decode b_M_goesUp 107 = .ok (.aload_n 0, 1) := by decide +kernel
theorem d_M_goesUp_108 : decode b_M_goesUp 108 = .ok (.getfield 240, 3) := by decide +kernel
theorem d_M_goesUp_111 : decode b_M_goesUp 111 = .ok (.iload 4, 2) := by decide +kernel
theorem d_M_goesUp_113 : decode b_M_goesUp 113 = .ok (.iaload, 1) := by decide +kernel
theorem d_M_goesUp_114 : decode b_M_goesUp 114 = .ok (.iastore, 1) := by decide +kernel
theorem d_M_goesUp_115 : decode b_M_goesUp 115 = .ok (.aload_n 0, 1) := by decide +kernel
theorem d_M_goesUp_116 : decode b_M_goesUp 116 = .ok (.getfield 209, 3) := by decide +kernel
theorem d_M_goesUp_119 : decode b_M_goesUp 119 = .ok (.aload_n 0, 1) := by decide +kernel
theorem d_M_goesUp_120 : decode b_M_goesUp 120 = .ok (.getfield 669, 3) := by decide +kernel
theorem d_M_goesUp_123 : decode b_M_goesUp 123 = .ok (.aload_n 0, 1) := by decide +kernel
theorem d_M_goesUp_124 : decode b_M_goesUp 124 = .ok (.getfield 243, 3) := by decide +kernel
theorem d_M_goesUp_127 : decode b_M_goesUp 127 = .ok (.iload 4, 2) := by decide +kernel
theorem d_M_goesUp_129 : decode b_M_goesUp 129 = .ok (.iaload, 1) := by decide +kernel
theorem d_M_goesUp_130 : decode b_M_goesUp 130 = .ok (.iastore, 1) := by decide +kernel
theorem d_M_goesUp_131 : decode b_M_goesUp 131 = .ok (.iload_n 1, 1) := by decide +kernel
theorem d_M_goesUp_132 : decode b_M_goesUp 132 = .ok (.iconst 2, 1) := by decide +kernel
theorem d_M_goesUp_133 : decode b_M_goesUp 133 = .ok (.if_icmp .ne 11, 3) := by decide +kernel
theorem d_M_goesUp_136 : decode b_M_goesUp 136 = .ok (.aload_n 0, 1) := by decide +kernel
theorem d_M_goesUp_137 : decode b_M_goesUp 137 = .ok (.lload_n 2, 1) := by decide +kernel
theorem d_M_goesUp_138 : decode b_M_goesUp 138 = .ok (.invokevirtual 801, 3) := by decide +kernel
theorem d_M_goesUp_141 : decode b_M_goesUp 141 = .ok (.goto 64, 3) := by decide +kernel
theorem d_M_goesUp_144 : decode b_M_goesUp 144 = .ok (.aload_n 0, 1) := by decide +kernel
theorem d_M_goesUp_145 : decode b_M_goesUp 145 = .ok (.aload_n 0, 1) := by decide +kernel
theorem d_M_goesUp_146 : decode b_M_goesUp 146 = .ok (.getfield 669, 3) := by decide +kernel
theorem d_M_goesUp_149 : decode b_M_goesUp 149 = .ok (.lload_n 2, 1) := by decide +kernel
theorem d_M_goesUp_150 : decode b_M_goesUp 150 = .ok (.invokevirtual 773, 3) := by decide +kernel
theorem d_M_goesUp_153 : decode b_M_goesUp 153 = .ok (.aload_n 0, 1) := by decide +kernel
theorem d_M_goesUp_154 : decode b_M_goesUp 154 = .ok (.aload_n 0, 1) := by decide +kernel
theorem d_M_goesUp_155 : decode b_M_goesUp 155 = .ok (.getfield 669, 3) := by decide +kernel
theorem d_M_goesUp_158 : decode b_M_goesUp 158 = .ok (.iconst 3, 1) := by decide +kernel
theorem d_M_goesUp_159 : decode b_M_goesUp 159 = .ok (.invokevirtual 776, 3) := by decide +kernel
theorem d_M_goesUp_162 : decode b_M_goesUp 162 = .ok (.ifCond .ne 12, 3) := by decide +kernel
theorem d_M_goesUp_165 : decode b_M_goesUp 165 = .ok (.aload_n 0, 1) := by decide +kernel
theorem d_M_goesUp_166 : decode b_M_goesUp 166 = .ok (.invokevirtual 780, 3) := by decide +kernel
theorem d_M_goesUp_169 : decode b_M_goesUp 169 = .ok (.aload_n 0, 1) := by decide +kernel
theorem d_M_goesUp_170 : decode b_M_goesUp 170 = .ok (.invokevirtual 805, 3) := by decide +kernel
theorem d_M_goesUp_173 : decode b_M_goesUp 173 = .ok (.return_, 1) := by decide +kernel
theorem d_M_goesUp_174 : decode b_M_goesUp 174 = .ok (.aload_n 0, 1) := by decide +kernel
theorem d_M_goesUp_175 : decode b_M_goesUp 175 = .ok (.getfield 319, 3) := by decide +kernel
theorem d_M_goesUp_178 : decode b_M_goesUp 178 = .ok (.lstore 5, 2) := by decide +kernel
theorem d_M_goesUp_180 : decode b_M_goesUp 180 = .ok (.aload_n 0, 1) := by decide +kernel
theorem d_M_goesUp_181 : decode b_M_goesUp 181 = .ok (.invokevirtual 780, 3) := by decide +kernel
theorem d_M_goesUp_184 : decode b_M_goesUp 184 = .ok (.aload_n 0, 1) := by decide +kernel
theorem d_M_goesUp_185 : decode b_M_goesUp 185 = .ok (.aload_n 0, 1) := by decide +kernel
theorem d_M_goesUp_186 : decode b_M_goesUp 186 = .ok (.iload_n 1, 1) := by decide +kernel
theorem d_M_goesUp_187 : decode b_M_goesUp 187 = .ok (.ifCond .ne 8, 3) := by decide +kernel
theorem d_M_goesUp_190 : decode b_M_goesUp 190 = .ok (.bipush 7, 2) := by decide +kernel
theorem d_M_goesUp_192 : decode b_M_goesUp 192 = .ok (.goto 5, 3) := by decide +kernel
theorem d_M_goesUp_195 : decode b_M_goesUp 195 = .ok (.bipush 8, 2) := by decide +kernel
theorem d_M_goesUp_197 : decode b_M_goesUp 197 = .ok (.lload 5, 2) := by decide +kernel
theorem d_M_goesUp_199 : decode b_M_goesUp 199 = .ok (.invokevirtual 808, 3) := by decide +kernel
theorem d_M_goesUp_202 : decode b_M_goesUp 202 = .ok (.invokevirtual 801, 3) := by decide +kernel
theorem d_M_goesUp_205 : decode b_M_goesUp 205 = .ok (.aload_n 0, 1) := by decide +kernel
theorem d_M_goesUp_206 : decode b_M_goesUp 206 = .ok (.aload_n 0, 1) := by decide +kernel
theorem d_M_goesUp_207 : decode b_M_goesUp 207 = .ok (.getfield 63, 3) := by decide +kernel
theorem d_M_goesUp_210 : decode b_M_goesUp 210 = .ok (.aload_n 0, 1) := by decide +kernel
theorem d_M_goesUp_211 : decode b_M_goesUp 211 = .ok (.getfield 237, 3) := by decide +kernel
theorem d_M_goesUp_214 : decode b_M_goesUp 214 = .ok (.iload 4, 2) := by decide +kernel
theorem d_M_goesUp_216 : decode b_M_goesUp 216 = .ok (.iaload, 1) := by decide +kernel
theorem d_M_goesUp_217 : decode b_M_goesUp 217 = .ok (.iaload, 1) := by decide +kernel
theorem d_M_goesUp_218 : decode b_M_goesUp 218 = .ok (.invokevirtual 811, 3) := by decide +kernel
theorem d_M_goesUp_221 : decode b_M_goesUp 221 = .ok (.return_, 1) := by decide +kernel
set_option maxRecDepth 100000 in
theorem hl_M_goesUp : Cond.methodLink R_M 814 y_M_goesUp ∈ wd_tbl := wd_of 2995 (by decide +kernel) rfl
set_option maxRecDepth 100000 in
theorem hi_M_goesUp : Cond.instanceMethod y_M_goesUp ∈ wd_tbl := wd_of 2997 (by decide +kernel) rfl
set_option maxRecDepth 100000 in
theorem hs_M_goesUp : Cond.selects R_M y_M_goesUp y_M_goesUp ∈ wd_tbl := wd_of 206 (by decide +kernel) rfl
theorem hd_M_goesUp : y_M_goesUp.cls = R_M ∧ y_M_goesUp.cls ≠ "java/lang/invoke/MethodHandle" ∧ y_M_goesUp.cls ≠ "java/lang/invoke/VarHandle" ∧ (parseMethodDescriptor y_M_goesUp.desc).map (fun d => d.parameters.length) = some 2 := by decide +kernel
def rg_M_error (d : Nat) : Room := { frames := 6 + d, cells := 0, slots := 0, locals := 163 + 26 * d }
abbrev SG_M_error : Type := (MS → Int32 → Option (MS × Unit)) × (MS → Int32 → Int64 → Option (MS × Unit)) × (MS → Option (MS × Int32)) × (MS → Option (MS × Unit)) × (MS → Option (MS × Unit)) × (MS → Int32 → Int64 → Option (MS × Unit))
def HS_M_error (l : Launch) (D : va_G) (cl : List vw_C) (cB cI cJ cZ cS : ClassId) (iM h0 : Nat) (ad : Nat → Nat) (rm : Room) (S : SG_M_error) : Prop := (∀ (u : MS) (v1 : Int32) (x : MS × Unit) (sz : Nat), S.1 u v1 = some x → Met l y_M_error (wd_ws y_M_error b_M_error 2 none) rm (mPc D cl cB cI cJ cZ cS iM h0 ad u sz [.ref h0, .int v1]) (mQv D cl cB cI cJ cZ cS iM h0 ad (mA cB cI cJ cZ cS iM h0 ad u sz) x) 0 0 (mA cB cI cJ cZ cS iM h0 ad u sz)) ∧ (∀ (u : MS) (v1 : Int32) (v2 : Int64) (x : MS × Unit) (sz : Nat), S.2.1 u v1 v2 = some x → Met l y_M_errorOf (wd_ws y_M_errorOf b_M_errorOf 7 none) rm (mPc D cl cB cI cJ cZ cS iM h0 ad u sz [.ref h0, .int v1, .long v2]) (mQv D cl cB cI cJ cZ cS iM h0 ad (mA cB cI cJ cZ cS iM h0 ad u sz) x) 0 0 (mA cB cI cJ cZ cS iM h0 ad u sz)) ∧ (∀ (u : MS) (x : MS × Int32) (sz : Nat), S.2.2.1 u = some x → Met l y_M_nonePart (wd_ws y_M_nonePart b_M_nonePart 1 (some .boolean)) rm (mPc D cl cB cI cJ cZ cS iM h0 ad u sz [.ref h0]) (mQi D cl cB cI cJ cZ cS iM h0 ad (mA cB cI cJ cZ cS iM h0 ad u sz) x) 0 0 (mA cB cI cJ cZ cS iM h0 ad u sz)) ∧ (∀ (u : MS) (x : MS × Unit) (sz : Nat), S.2.2.2.1 u = some x → Met l y_M_choose (wd_ws y_M_choose b_M_choose 2 none) rm (mPc D cl cB cI cJ cZ cS iM h0 ad u sz [.ref h0]) (mQv D cl cB cI cJ cZ cS iM h0 ad (mA cB cI cJ cZ cS iM h0 ad u sz) x) 0 0 (mA cB cI cJ cZ cS iM h0 ad u sz)) ∧ (∀ (u : MS) (x : MS × Unit) (sz : Nat), S.2.2.2.2.1 u = some x → Met l y_M_guardFails (wd_ws y_M_guardFails b_M_guardFails 1 none) rm (mPc D cl cB cI cJ cZ cS iM h0 ad u sz [.ref h0]) (mQv D cl cB cI cJ cZ cS iM h0 ad (mA cB cI cJ cZ cS iM h0 ad u sz) x) 0 0 (mA cB cI cJ cZ cS iM h0 ad u sz)) ∧ (∀ (u : MS) (v1 : Int32) (v2 : Int64) (x : MS × Unit) (sz : Nat), S.2.2.2.2.2 u v1 v2 = some x → Met l y_M_goesUp (wd_ws y_M_goesUp b_M_goesUp 7 none) rm (mPc D cl cB cI cJ cZ cS iM h0 ad u sz [.ref h0, .int v1, .long v2]) (mQv D cl cB cI cJ cZ cS iM h0 ad (mA cB cI cJ cZ cS iM h0 ad u sz) x) 0 0 (mA cB cI cJ cZ cS iM h0 ad u sz))
theorem rm_M_error_M_term {R : Room} {d : Nat} (hR : R = rg_M_error (d + 1)) : (rm_M_term).frames + 1 ≤ R.frames ∧ 8 + (2 + 11) + (rm_M_term).locals ≤ R.locals := by
  subst hR
  have h1 : (rm_M_term).frames = 0 := rfl
  have h2 : (rm_M_term).locals = 0 := rfl
  show (rm_M_term).frames + 1 ≤ 6 + (d + 1) ∧ 8 + (2 + 11) + (rm_M_term).locals ≤ 163 + 26 * (d + 1)
  omega
theorem rm_M_error_M_goesUp {R : Room} {d : Nat} (hR : R = rg_M_error (d + 1)) : (rg_M_error d).frames + 1 ≤ R.frames ∧ 8 + (7 + 11) + (rg_M_error d).locals ≤ R.locals := by
  subst hR
  show 6 + d + 1 ≤ 6 + (d + 1) ∧ 8 + (7 + 11) + (163 + 26 * d) ≤ 163 + 26 * (d + 1)
  omega
def fb_M_error_0 (N : Nat) (S : SG_M_error) (G : Unit) (u : MS) (v1 : Int32) : Option (MS × Unit) := bnd (fm_M_term N u 1 v1) (fun u1 r1 => bnd (S.2.2.2.2.2 u1 0 r1) (fun u2 _ => some (u2, ())))
set_option maxRecDepth 100000 in
set_option maxHeartbeats 4000000 in
theorem wb_M_error_0 {p : Program} {l : Launch} {e : Env} {R : Room} {s : State} {m : MethodId} {args : Array Value} {below : List Frame} {meth : Method} {c : Code} {D : va_G} {cl : List vw_C} {cB cI cJ cZ cS : ClassId} {A : Nat → Prop} {iM h0 : Nat} {ad : Nat → Nat} (C0 : MCx p s m args meth c b_M_error 2 none D cl cB cI cJ cZ cS iM A) {d : Nat} (hR : R = rg_M_error (d + 1)) (N : Nat) (S : SG_M_error) (hSg : HS_M_error l D cl cB cI cJ cZ cS iM h0 ad (rg_M_error d) S) (G : Unit) (hG : True) : ∀ (u : MS) (v1 : Int32) (x : MS × Unit), fb_M_error_0 N S G u v1 = some x → ∀ (H : Heap) (locs : List Loc), va_P D cl (wM cB cI cJ cZ cS iM h0 ad u) H → va_D A (wM cB cI cJ cZ cS iM h0 ad u) → va_S A s.heap H locs → ∀ (ls : Array Slot), lv_has ls 2 [(0, .ref h0), (1, .int v1)] → W p l e R s m args below meth c H locs 0 0 (MQ below (mQv D cl cB cI cJ cZ cS iM h0 ad A x) args s 0 0 A) (F0 m 0 ls []) := by
  intro u v1 x hf H locs hP hD hS ls hl
  obtain ⟨hx, hb, hr, hml, ht, hown, hM, hK, hA, hlocks⟩ := id C0
  unfold fb_M_error_0 at hf
  refine lv_aload_n hx hb d_M_error_0 rfl (lv_at hl 0 rfl) ?_
  refine lv_iconst (v := 0) hx hb d_M_error_1 (by decide) ?_
  refine lv_iconst (v := 1) hx hb d_M_error_2 (by decide) ?_
  refine lv_iload_n hx hb d_M_error_3 rfl (lv_at hl 1 rfl) ?_
  obtain ⟨u1, r1, hc1, hf⟩ := bnd_some hf
  refine mS_l (As := [.int 1, .int v1]) (rest := [.int 0, .ref h0]) C0 hP hD hS (c_M_term N hM hc1) k_M_term hl_M_term ht_M_term hini_M rfl rfl hd_M_term rfl (rm_M_error_M_term hR) hl.1 (Nat.le_of_ble_eq_true rfl) d_M_error_4 rfl ⟨Nat.zero_le _, Nat.zero_le _⟩ (fun H locs hP hD hS => ?_)
  obtain ⟨u2, r2, hc2, hf⟩ := bnd_some hf
  refine mV_v (As := [.int 0, .long r1]) (rest := []) C0 hP hD hS (hSg.2.2.2.2.2 _ _ _ _ _ hc2) k_M_goesUp hl_M_goesUp hi_M_goesUp hs_M_goesUp hini_M rfl rfl hd_M_goesUp rfl (rm_M_error_M_goesUp hR) hl.1 (Nat.le_of_ble_eq_true rfl) d_M_error_7 rfl ⟨Nat.zero_le _, Nat.zero_le _⟩ (fun H locs hP hD hS => ?_)
  exact mr_v C0 hP hD hS hf d_M_error_10
def fm_M_error (N : Nat) (S : SG_M_error) (u : MS) (v1 : Int32) : Option (MS × Unit) := fb_M_error_0 N S () u v1
set_option maxRecDepth 100000 in
set_option maxHeartbeats 4000000 in
theorem cs_M_error (N : Nat) {d : Nat} {l : Launch} {D : va_G} {cl : List vw_C} {cB cI cJ cZ cS : ClassId} {iM h0 : Nat} {ad : Nat → Nat} {u : MS} {sz : Nat} {v1 : Int32} {x : MS × Unit} (hM : cl[iM]? = some (R_M, F_M, 171)) (S : SG_M_error) (hSg : HS_M_error l D cl cB cI cJ cZ cS iM h0 ad (rg_M_error d) S) (hf : fm_M_error N S u v1 = some x) : Met l y_M_error (wd_ws y_M_error b_M_error 2 none) (rg_M_error (d + 1)) (mPc D cl cB cI cJ cZ cS iM h0 ad u sz [.ref h0, .int v1]) (mQv D cl cB cI cJ cZ cS iM h0 ad (mA cB cI cJ cZ cS iM h0 ad u sz) x) 0 0 (mA cB cI cJ cZ cS iM h0 ad u sz) :=
  mMet (by decide) rfl hM (Nat.le_of_ble_eq_true rfl) (fun p e s m below meth c ls hsz C0 hP hD hS hl => by
    have hR : (rg_M_error (d + 1)) = (rg_M_error (d + 1)) := rfl
    exact wb_M_error_0 C0 hR N S hSg () trivial u _ x hf s.heap [] hP hD hS ls (lv_sub hl [0, 1] rfl))
theorem rm_M_errorOf_M_hand {R : Room} {d : Nat} (hR : R = rg_M_error (d + 1)) : (rm_M_hand).frames + 1 ≤ R.frames ∧ 8 + (4 + 11) + (rm_M_hand).locals ≤ R.locals := by
  subst hR
  have h1 : (rm_M_hand).frames = 0 := rfl
  have h2 : (rm_M_hand).locals = 0 := rfl
  show (rm_M_hand).frames + 1 ≤ 6 + (d + 1) ∧ 8 + (4 + 11) + (rm_M_hand).locals ≤ 163 + 26 * (d + 1)
  omega
theorem rm_M_errorOf_M_wants {R : Room} {d : Nat} (hR : R = rg_M_error (d + 1)) : (rm_M_wants).frames + 1 ≤ R.frames ∧ 8 + (3 + 11) + (rm_M_wants).locals ≤ R.locals := by
  subst hR
  have h1 : (rm_M_wants).frames = 4 := rfl
  have h2 : (rm_M_wants).locals = 101 := rfl
  show (rm_M_wants).frames + 1 ≤ 6 + (d + 1) ∧ 8 + (3 + 11) + (rm_M_wants).locals ≤ 163 + 26 * (d + 1)
  omega
theorem rm_M_errorOf_M_handNone {R : Room} {d : Nat} (hR : R = rg_M_error (d + 1)) : (rm_M_handNone).frames + 1 ≤ R.frames ∧ 8 + (1 + 11) + (rm_M_handNone).locals ≤ R.locals := by
  subst hR
  have h1 : (rm_M_handNone).frames = 1 := rfl
  have h2 : (rm_M_handNone).locals = 21 := rfl
  show (rm_M_handNone).frames + 1 ≤ 6 + (d + 1) ∧ 8 + (1 + 11) + (rm_M_handNone).locals ≤ 163 + 26 * (d + 1)
  omega
theorem rm_M_errorOf_M_two {R : Room} {d : Nat} (hR : R = rg_M_error (d + 1)) : (rm_M_two).frames + 1 ≤ R.frames ∧ 8 + (5 + 11) + (rm_M_two).locals ≤ R.locals := by
  subst hR
  have h1 : (rm_M_two).frames = 1 := rfl
  have h2 : (rm_M_two).locals = 21 := rfl
  show (rm_M_two).frames + 1 ≤ 6 + (d + 1) ∧ 8 + (5 + 11) + (rm_M_two).locals ≤ 163 + 26 * (d + 1)
  omega
theorem rm_M_errorOf_M_noRoom {R : Room} {d : Nat} (hR : R = rg_M_error (d + 1)) : (rm_M_noRoom).frames + 1 ≤ R.frames ∧ 8 + (1 + 11) + (rm_M_noRoom).locals ≤ R.locals := by
  subst hR
  have h1 : (rm_M_noRoom).frames = 2 := rfl
  have h2 : (rm_M_noRoom).locals = 48 := rfl
  show (rm_M_noRoom).frames + 1 ≤ 6 + (d + 1) ∧ 8 + (1 + 11) + (rm_M_noRoom).locals ≤ 163 + 26 * (d + 1)
  omega
theorem rm_M_errorOf_M_guardFails {R : Room} {d : Nat} (hR : R = rg_M_error (d + 1)) : (rg_M_error d).frames + 1 ≤ R.frames ∧ 8 + (1 + 11) + (rg_M_error d).locals ≤ R.locals := by
  subst hR
  show 6 + d + 1 ≤ 6 + (d + 1) ∧ 8 + (1 + 11) + (163 + 26 * d) ≤ 163 + 26 * (d + 1)
  omega
theorem rm_M_errorOf_M_goesUp {R : Room} {d : Nat} (hR : R = rg_M_error (d + 1)) : (rg_M_error d).frames + 1 ≤ R.frames ∧ 8 + (7 + 11) + (rg_M_error d).locals ≤ R.locals := by
  subst hR
  show 6 + d + 1 ≤ 6 + (d + 1) ∧ 8 + (7 + 11) + (163 + 26 * d) ≤ 163 + 26 * (d + 1)
  omega
def fb_M_errorOf_66 (N : Nat) (S : SG_M_error) (G : Unit) (u : MS) : Option (MS × Unit) := some (u, ())
set_option maxRecDepth 100000 in
set_option maxHeartbeats 4000000 in
theorem wb_M_errorOf_66 {p : Program} {l : Launch} {e : Env} {R : Room} {s : State} {m : MethodId} {args : Array Value} {below : List Frame} {meth : Method} {c : Code} {D : va_G} {cl : List vw_C} {cB cI cJ cZ cS : ClassId} {A : Nat → Prop} {iM h0 : Nat} {ad : Nat → Nat} (C0 : MCx p s m args meth c b_M_errorOf 7 none D cl cB cI cJ cZ cS iM A) {d : Nat} (hR : R = rg_M_error (d + 1)) (N : Nat) (S : SG_M_error) (hSg : HS_M_error l D cl cB cI cJ cZ cS iM h0 ad (rg_M_error d) S) (G : Unit) (hG : True) : ∀ (u : MS) (x : MS × Unit), fb_M_errorOf_66 N S G u = some x → ∀ (H : Heap) (locs : List Loc), va_P D cl (wM cB cI cJ cZ cS iM h0 ad u) H → va_D A (wM cB cI cJ cZ cS iM h0 ad u) → va_S A s.heap H locs → ∀ (ls : Array Slot), lv_has ls 7 [] → W p l e R s m args below meth c H locs 0 0 (MQ below (mQv D cl cB cI cJ cZ cS iM h0 ad A x) args s 0 0 A) (F0 m 66 ls []) := by
  intro u x hf H locs hP hD hS ls hl
  obtain ⟨hx, hb, hr, hml, ht, hown, hM, hK, hA, hlocks⟩ := id C0
  unfold fb_M_errorOf_66 at hf
  exact mr_v C0 hP hD hS hf d_M_errorOf_66
def fb_M_errorOf_0 (N : Nat) (S : SG_M_error) (G : Unit) (u : MS) (v1 : Int32) (v2 : Int64) : Option (MS × Unit) := br (decide ((u.1 152) = 0)) (bnd (fm_M_hand N u (u.1 133) v2) (fun u1 _ => bnd (fm_M_wants N u1 (u1.1 133) 3) (fun u2 r2 => bnd (fm_M_handNone N u2) (fun u3 _ => br (decide (r2 = 0)) (bnd (fm_M_noRoom N u3) (fun u4 _ => fb_M_errorOf_66 N S G u4)) (bnd (fm_M_two N u3 v1 (u2.2.1 139)) (fun u5 r5 => bnd (S.2.2.2.2.2 u5 0 r5) (fun u6 _ => fb_M_errorOf_66 N S G u6))))))) (bnd (S.2.2.2.2.1 u) (fun u7 _ => some (u7, ())))
set_option maxRecDepth 100000 in
set_option maxHeartbeats 4000000 in
theorem wb_M_errorOf_0 {p : Program} {l : Launch} {e : Env} {R : Room} {s : State} {m : MethodId} {args : Array Value} {below : List Frame} {meth : Method} {c : Code} {D : va_G} {cl : List vw_C} {cB cI cJ cZ cS : ClassId} {A : Nat → Prop} {iM h0 : Nat} {ad : Nat → Nat} (C0 : MCx p s m args meth c b_M_errorOf 7 none D cl cB cI cJ cZ cS iM A) {d : Nat} (hR : R = rg_M_error (d + 1)) (N : Nat) (S : SG_M_error) (hSg : HS_M_error l D cl cB cI cJ cZ cS iM h0 ad (rg_M_error d) S) (G : Unit) (hG : True) : ∀ (u : MS) (v1 : Int32) (v2 : Int64) (x : MS × Unit), fb_M_errorOf_0 N S G u v1 v2 = some x → ∀ (H : Heap) (locs : List Loc), va_P D cl (wM cB cI cJ cZ cS iM h0 ad u) H → va_D A (wM cB cI cJ cZ cS iM h0 ad u) → va_S A s.heap H locs → ∀ (ls : Array Slot), lv_has ls 7 [(0, .ref h0), (1, .int v1), (2, .long v2)] → W p l e R s m args below meth c H locs 0 0 (MQ below (mQv D cl cB cI cJ cZ cS iM h0 ad A x) args s 0 0 A) (F0 m 0 ls []) := by
  intro u v1 v2 x hf H locs hP hD hS ls hl
  obtain ⟨hx, hb, hr, hml, ht, hown, hM, hK, hA, hlocks⟩ := id C0
  unfold fb_M_errorOf_0 at hf
  refine lv_aload_n hx hb d_M_errorOf_0 rfl (lv_at hl 0 rfl) ?_
  refine ug_I hx hb ht hown hM hK hP 152 (by decide) lk_M_152 (by decide) d_M_errorOf_1 ?_
  refine lv_if_eq (tgt := 12) hx hb d_M_errorOf_4 (by decide) (fun hc => ?_) (fun hc => ?_)
  · rw [br_p _ hc] at hf
    refine lv_aload_n hx hb d_M_errorOf_12 rfl (lv_at hl 0 rfl) ?_
    refine lv_aload_n hx hb d_M_errorOf_13 rfl (lv_at hl 0 rfl) ?_
    refine ug_I hx hb ht hown hM hK hP 133 (by decide) lk_M_133 (by decide) d_M_errorOf_14 ?_
    refine lv_lload_n hx hb d_M_errorOf_17 rfl (lv_at hl 2 rfl) ?_
    obtain ⟨u1, r1, hc1, hf⟩ := bnd_some hf
    refine mV_v (As := [.int (u.1 133), .long v2]) (rest := []) C0 hP hD hS (c_M_hand N hM hc1) k_M_hand hl_M_hand hi_M_hand hs_M_hand hini_M rfl rfl hd_M_hand rfl (rm_M_errorOf_M_hand hR) hl.1 (Nat.le_of_ble_eq_true rfl) d_M_errorOf_18 rfl ⟨Nat.zero_le _, Nat.zero_le _⟩ (fun H locs hP hD hS => ?_)
    refine lv_aload_n hx hb d_M_errorOf_21 rfl (lv_at hl 0 rfl) ?_
    refine lv_aload_n hx hb d_M_errorOf_22 rfl (lv_at hl 0 rfl) ?_
    refine ug_I hx hb ht hown hM hK hP 133 (by decide) lk_M_133 (by decide) d_M_errorOf_23 ?_
    refine lv_iconst (v := 3) hx hb d_M_errorOf_26 (by decide) ?_
    obtain ⟨u2, r2, hc2, hf⟩ := bnd_some hf
    refine mV_i (As := [.int (u1.1 133), .int 3]) (rest := []) C0 hP hD hS (c_M_wants N hM hc2) k_M_wants hl_M_wants hi_M_wants hs_M_wants hini_M rfl rfl hd_M_wants rfl (rm_M_errorOf_M_wants hR) hl.1 (Nat.le_of_ble_eq_true rfl) d_M_errorOf_27 rfl ⟨Nat.zero_le _, Nat.zero_le _⟩ (fun H locs hP hD hS => ?_)
    refine lv_istore (lv' := [(4, .int r2), (0, .ref h0), (1, .int v1), (2, .long v2)]) hx hb d_M_errorOf_30 hl (by decide) rfl (fun ls hl => ?_)
    refine lv_aload_n hx hb d_M_errorOf_32 rfl (lv_at hl 1 rfl) ?_
    refine ug_L hx hb ht hown hM hK hP 139 (by decide) lk_M_139 (by decide) d_M_errorOf_33 ?_
    refine lv_lstore (lv' := [(5, .long (u2.2.1 139)), (4, .int r2), (0, .ref h0), (1, .int v1), (2, .long v2)]) hx hb d_M_errorOf_36 hl (by decide) rfl (fun ls hl => ?_)
    refine lv_aload_n hx hb d_M_errorOf_38 rfl (lv_at hl 2 rfl) ?_
    obtain ⟨u3, r3, hc3, hf⟩ := bnd_some hf
    refine mV_v (As := []) (rest := []) C0 hP hD hS (c_M_handNone N hM hc3) k_M_handNone hl_M_handNone hi_M_handNone hs_M_handNone hini_M rfl rfl hd_M_handNone rfl (rm_M_errorOf_M_handNone hR) hl.1 (Nat.le_of_ble_eq_true rfl) d_M_errorOf_39 rfl ⟨Nat.zero_le _, Nat.zero_le _⟩ (fun H locs hP hD hS => ?_)
    refine lv_iload hx hb d_M_errorOf_42 (lv_at hl 1 rfl) ?_
    refine lv_if_eq (tgt := 62) hx hb d_M_errorOf_44 (by decide) (fun hc => ?_) (fun hc => ?_)
    · rw [br_p _ hc] at hf
      refine lv_aload_n hx hb d_M_errorOf_62 rfl (lv_at hl 2 rfl) ?_
      obtain ⟨u4, r4, hc4, hf⟩ := bnd_some hf
      refine mV_v (As := []) (rest := []) C0 hP hD hS (c_M_noRoom N hM hc4) k_M_noRoom hl_M_noRoom hi_M_noRoom hs_M_noRoom hini_M rfl rfl hd_M_noRoom rfl (rm_M_errorOf_M_noRoom hR) hl.1 (Nat.le_of_ble_eq_true rfl) d_M_errorOf_63 rfl ⟨Nat.zero_le _, Nat.zero_le _⟩ (fun H locs hP hD hS => ?_)
      exact wb_M_errorOf_66 C0 hR N S hSg G hG _ _ hf H locs hP hD hS ls (lv_sub hl [] rfl)
    · rw [br_n _ hc] at hf
      refine lv_aload_n hx hb d_M_errorOf_47 rfl (lv_at hl 2 rfl) ?_
      refine lv_iconst (v := 0) hx hb d_M_errorOf_48 (by decide) ?_
      refine lv_aload_n hx hb d_M_errorOf_49 rfl (lv_at hl 2 rfl) ?_
      refine lv_iload_n hx hb d_M_errorOf_50 rfl (lv_at hl 3 rfl) ?_
      refine lv_lload hx hb d_M_errorOf_51 (lv_at hl 0 rfl) ?_
      obtain ⟨u5, r5, hc5, hf⟩ := bnd_some hf
      refine mV_l (As := [.int v1, .long (u2.2.1 139)]) (rest := [.int 0, .ref h0]) C0 hP hD hS (c_M_two N hM hc5) k_M_two hl_M_two hi_M_two hs_M_two hini_M rfl rfl hd_M_two rfl (rm_M_errorOf_M_two hR) hl.1 (Nat.le_of_ble_eq_true rfl) d_M_errorOf_53 rfl ⟨Nat.zero_le _, Nat.zero_le _⟩ (fun H locs hP hD hS => ?_)
      obtain ⟨u6, r6, hc6, hf⟩ := bnd_some hf
      refine mV_v (As := [.int 0, .long r5]) (rest := []) C0 hP hD hS (hSg.2.2.2.2.2 _ _ _ _ _ hc6) k_M_goesUp hl_M_goesUp hi_M_goesUp hs_M_goesUp hini_M rfl rfl hd_M_goesUp rfl (rm_M_errorOf_M_goesUp hR) hl.1 (Nat.le_of_ble_eq_true rfl) d_M_errorOf_56 rfl ⟨Nat.zero_le _, Nat.zero_le _⟩ (fun H locs hP hD hS => ?_)
      refine lv_goto (tgt := 66) hx hb d_M_errorOf_59 (by decide) ?_
      exact wb_M_errorOf_66 C0 hR N S hSg G hG _ _ hf H locs hP hD hS ls (lv_sub hl [] rfl)
  · rw [br_n _ hc] at hf
    refine lv_aload_n hx hb d_M_errorOf_7 rfl (lv_at hl 0 rfl) ?_
    obtain ⟨u7, r7, hc7, hf⟩ := bnd_some hf
    refine mV_v (As := []) (rest := []) C0 hP hD hS (hSg.2.2.2.2.1 _ _ _ hc7) k_M_guardFails hl_M_guardFails hi_M_guardFails hs_M_guardFails hini_M rfl rfl hd_M_guardFails rfl (rm_M_errorOf_M_guardFails hR) hl.1 (Nat.le_of_ble_eq_true rfl) d_M_errorOf_8 rfl ⟨Nat.zero_le _, Nat.zero_le _⟩ (fun H locs hP hD hS => ?_)
    exact mr_v C0 hP hD hS hf d_M_errorOf_11
def fm_M_errorOf (N : Nat) (S : SG_M_error) (u : MS) (v1 : Int32) (v2 : Int64) : Option (MS × Unit) := fb_M_errorOf_0 N S () u v1 v2
set_option maxRecDepth 100000 in
set_option maxHeartbeats 4000000 in
theorem cs_M_errorOf (N : Nat) {d : Nat} {l : Launch} {D : va_G} {cl : List vw_C} {cB cI cJ cZ cS : ClassId} {iM h0 : Nat} {ad : Nat → Nat} {u : MS} {sz : Nat} {v1 : Int32} {v2 : Int64} {x : MS × Unit} (hM : cl[iM]? = some (R_M, F_M, 171)) (S : SG_M_error) (hSg : HS_M_error l D cl cB cI cJ cZ cS iM h0 ad (rg_M_error d) S) (hf : fm_M_errorOf N S u v1 v2 = some x) : Met l y_M_errorOf (wd_ws y_M_errorOf b_M_errorOf 7 none) (rg_M_error (d + 1)) (mPc D cl cB cI cJ cZ cS iM h0 ad u sz [.ref h0, .int v1, .long v2]) (mQv D cl cB cI cJ cZ cS iM h0 ad (mA cB cI cJ cZ cS iM h0 ad u sz) x) 0 0 (mA cB cI cJ cZ cS iM h0 ad u sz) :=
  mMet (by decide) rfl hM (Nat.le_of_ble_eq_true rfl) (fun p e s m below meth c ls hsz C0 hP hD hS hl => by
    have hR : (rg_M_error (d + 1)) = (rg_M_error (d + 1)) := rfl
    exact wb_M_errorOf_0 C0 hR N S hSg () trivial u _ _ x hf s.heap [] hP hD hS ls (lv_sub hl [0, 1, 2] rfl))
theorem rm_M_nonePart_M_afterMessages {R : Room} {d : Nat} (hR : R = rg_M_error (d + 1)) : (rm_M_afterMessages).frames + 1 ≤ R.frames ∧ 8 + (1 + 11) + (rm_M_afterMessages).locals ≤ R.locals := by
  subst hR
  have h1 : (rm_M_afterMessages).frames = 2 := rfl
  have h2 : (rm_M_afterMessages).locals = 41 := rfl
  show (rm_M_afterMessages).frames + 1 ≤ 6 + (d + 1) ∧ 8 + (1 + 11) + (rm_M_afterMessages).locals ≤ 163 + 26 * (d + 1)
  omega
theorem rm_M_nonePart_M_top {R : Room} {d : Nat} (hR : R = rg_M_error (d + 1)) : (rm_M_top).frames + 1 ≤ R.frames ∧ 8 + (2 + 11) + (rm_M_top).locals ≤ R.locals := by
  subst hR
  have h1 : (rm_M_top).frames = 0 := rfl
  have h2 : (rm_M_top).locals = 0 := rfl
  show (rm_M_top).frames + 1 ≤ 6 + (d + 1) ∧ 8 + (2 + 11) + (rm_M_top).locals ≤ 163 + 26 * (d + 1)
  omega
theorem rm_M_nonePart_M_errorOf {R : Room} {d : Nat} (hR : R = rg_M_error (d + 1)) : (rg_M_error d).frames + 1 ≤ R.frames ∧ 8 + (7 + 11) + (rg_M_error d).locals ≤ R.locals := by
  subst hR
  show 6 + d + 1 ≤ 6 + (d + 1) ∧ 8 + (7 + 11) + (163 + 26 * d) ≤ 163 + 26 * (d + 1)
  omega
theorem rm_M_nonePart_M_error {R : Room} {d : Nat} (hR : R = rg_M_error (d + 1)) : (rg_M_error d).frames + 1 ≤ R.frames ∧ 8 + (2 + 11) + (rg_M_error d).locals ≤ R.locals := by
  subst hR
  show 6 + d + 1 ≤ 6 + (d + 1) ∧ 8 + (2 + 11) + (163 + 26 * d) ≤ 163 + 26 * (d + 1)
  omega
def fb_M_nonePart_122 (N : Nat) (S : SG_M_error) (G : Unit) (u : MS) : Option (MS × Int32) := ck (isb 0) (some (u, 0))
set_option maxRecDepth 100000 in
set_option maxHeartbeats 4000000 in
theorem wb_M_nonePart_122 {p : Program} {l : Launch} {e : Env} {R : Room} {s : State} {m : MethodId} {args : Array Value} {below : List Frame} {meth : Method} {c : Code} {D : va_G} {cl : List vw_C} {cB cI cJ cZ cS : ClassId} {A : Nat → Prop} {iM h0 : Nat} {ad : Nat → Nat} (C0 : MCx p s m args meth c b_M_nonePart 1 (some .boolean) D cl cB cI cJ cZ cS iM A) {d : Nat} (hR : R = rg_M_error (d + 1)) (N : Nat) (S : SG_M_error) (hSg : HS_M_error l D cl cB cI cJ cZ cS iM h0 ad (rg_M_error d) S) (G : Unit) (hG : True) : ∀ (u : MS) (x : MS × Int32), fb_M_nonePart_122 N S G u = some x → ∀ (H : Heap) (locs : List Loc), va_P D cl (wM cB cI cJ cZ cS iM h0 ad u) H → va_D A (wM cB cI cJ cZ cS iM h0 ad u) → va_S A s.heap H locs → ∀ (ls : Array Slot), lv_has ls 1 [] → W p l e R s m args below meth c H locs 0 0 (MQ below (mQi D cl cB cI cJ cZ cS iM h0 ad A x) args s 0 0 A) (F0 m 122 ls []) := by
  intro u x hf H locs hP hD hS ls hl
  obtain ⟨hx, hb, hr, hml, ht, hown, hM, hK, hA, hlocks⟩ := id C0
  unfold fb_M_nonePart_122 at hf
  refine lv_iconst (v := 0) hx hb d_M_nonePart_122 (by decide) ?_
  obtain ⟨hz, hf⟩ := ck_some hf
  exact mr_z C0 hP hD hS hz hf d_M_nonePart_123
def fb_M_nonePart_119 (N : Nat) (S : SG_M_error) (G : Unit) (u : MS) (t1 : Int32) : Option (MS × Int32) := bnd (S.1 u t1) (fun u1 _ => fb_M_nonePart_122 N S G u1)
set_option maxRecDepth 100000 in
set_option maxHeartbeats 4000000 in
theorem wb_M_nonePart_119 {p : Program} {l : Launch} {e : Env} {R : Room} {s : State} {m : MethodId} {args : Array Value} {below : List Frame} {meth : Method} {c : Code} {D : va_G} {cl : List vw_C} {cB cI cJ cZ cS : ClassId} {A : Nat → Prop} {iM h0 : Nat} {ad : Nat → Nat} (C0 : MCx p s m args meth c b_M_nonePart 1 (some .boolean) D cl cB cI cJ cZ cS iM A) {d : Nat} (hR : R = rg_M_error (d + 1)) (N : Nat) (S : SG_M_error) (hSg : HS_M_error l D cl cB cI cJ cZ cS iM h0 ad (rg_M_error d) S) (G : Unit) (hG : True) : ∀ (u : MS) (t1 : Int32) (x : MS × Int32), fb_M_nonePart_119 N S G u t1 = some x → ∀ (H : Heap) (locs : List Loc), va_P D cl (wM cB cI cJ cZ cS iM h0 ad u) H → va_D A (wM cB cI cJ cZ cS iM h0 ad u) → va_S A s.heap H locs → ∀ (ls : Array Slot), lv_has ls 1 [] → W p l e R s m args below meth c H locs 0 0 (MQ below (mQi D cl cB cI cJ cZ cS iM h0 ad A x) args s 0 0 A) (F0 m 119 ls [.int t1, .ref h0]) := by
  intro u t1 x hf H locs hP hD hS ls hl
  obtain ⟨hx, hb, hr, hml, ht, hown, hM, hK, hA, hlocks⟩ := id C0
  unfold fb_M_nonePart_119 at hf
  obtain ⟨u1, r1, hc1, hf⟩ := bnd_some hf
  refine mV_v (As := [.int t1]) (rest := []) C0 hP hD hS (hSg.1 _ _ _ _ hc1) k_M_error hl_M_error hi_M_error hs_M_error hini_M rfl rfl hd_M_error rfl (rm_M_nonePart_M_error hR) hl.1 (Nat.le_of_ble_eq_true rfl) d_M_nonePart_119 rfl ⟨Nat.zero_le _, Nat.zero_le _⟩ (fun H locs hP hD hS => ?_)
  exact wb_M_nonePart_122 C0 hR N S hSg G hG _ _ hf H locs hP hD hS ls (lv_sub hl [] rfl)
def fb_M_nonePart_0 (N : Nat) (S : SG_M_error) (G : Unit) (u : MS) : Option (MS × Int32) := br (decide ((u.1 153) = 3)) (lt (upI u 158 ((u.1 158) + 1)) (fun w4 => ck (inb (w4.1 133) (ln 110)) (lt (upA w4 110 (upd (w4.2.2.1 110) (w4.1 133).toNatClampNeg (w4.1 158))) (fun w5 => ck (inb (w5.1 133) (ln 108)) (br (decide ((w5.2.2.1 108 (w5.1 133).toNatClampNeg) ≤ (w5.1 158))) (ck (inb (w5.1 133) (ln 108)) (ck (inb (w5.1 133) (ln 110)) (lt (upA w5 110 (upd (w5.2.2.1 110) (w5.1 133).toNatClampNeg (w5.2.2.1 108 (w5.1 133).toNatClampNeg))) (fun w6 => bnd (fm_M_afterMessages N w6) (fun u7 _ => ck (isb 0) (some (u7, 0))))))) (lt (upI w5 154 (w5.1 155)) (fun w8 => ck (isb 1) (some (w8, 1))))))))) (br (decide ((u.1 153) = 1)) (bnd (fm_M_top N u 0) (fun u2 r2 => bnd (S.2.1 u2 15 r2) (fun u3 _ => fb_M_nonePart_122 N S G u3))) (br (decide ((u.1 153) = 2)) (fb_M_nonePart_119 N S G u (16)) (fb_M_nonePart_119 N S G u (14))))
set_option maxRecDepth 100000 in
set_option maxHeartbeats 4000000 in
theorem wb_M_nonePart_0 {p : Program} {l : Launch} {e : Env} {R : Room} {s : State} {m : MethodId} {args : Array Value} {below : List Frame} {meth : Method} {c : Code} {D : va_G} {cl : List vw_C} {cB cI cJ cZ cS : ClassId} {A : Nat → Prop} {iM h0 : Nat} {ad : Nat → Nat} (C0 : MCx p s m args meth c b_M_nonePart 1 (some .boolean) D cl cB cI cJ cZ cS iM A) {d : Nat} (hR : R = rg_M_error (d + 1)) (N : Nat) (S : SG_M_error) (hSg : HS_M_error l D cl cB cI cJ cZ cS iM h0 ad (rg_M_error d) S) (G : Unit) (hG : True) : ∀ (u : MS) (x : MS × Int32), fb_M_nonePart_0 N S G u = some x → ∀ (H : Heap) (locs : List Loc), va_P D cl (wM cB cI cJ cZ cS iM h0 ad u) H → va_D A (wM cB cI cJ cZ cS iM h0 ad u) → va_S A s.heap H locs → ∀ (ls : Array Slot), lv_has ls 1 [(0, .ref h0)] → W p l e R s m args below meth c H locs 0 0 (MQ below (mQi D cl cB cI cJ cZ cS iM h0 ad A x) args s 0 0 A) (F0 m 0 ls []) := by
  intro u x hf H locs hP hD hS ls hl
  obtain ⟨hx, hb, hr, hml, ht, hown, hM, hK, hA, hlocks⟩ := id C0
  unfold fb_M_nonePart_0 at hf
  refine lv_aload_n hx hb d_M_nonePart_0 rfl (lv_at hl 0 rfl) ?_
  refine ug_I hx hb ht hown hM hK hP 153 (by decide) lk_M_153 (by decide) d_M_nonePart_1 ?_
  refine lv_iconst (v := 3) hx hb d_M_nonePart_4 (by decide) ?_
  refine lv_icmp_ne (tgt := 81) hx hb d_M_nonePart_5 (by decide) (fun hc => ?_) (fun hc => ?_)
  · rw [br_n _ hc] at hf
    refine lv_aload_n hx hb d_M_nonePart_81 rfl (lv_at hl 0 rfl) ?_
    refine ug_I hx hb ht hown hM hK hP 153 (by decide) lk_M_153 (by decide) d_M_nonePart_82 ?_
    refine lv_iconst (v := 1) hx hb d_M_nonePart_85 (by decide) ?_
    refine lv_icmp_ne (tgt := 103) hx hb d_M_nonePart_86 (by decide) (fun hc => ?_) (fun hc => ?_)
    · rw [br_n _ hc] at hf
      refine lv_aload_n hx hb d_M_nonePart_103 rfl (lv_at hl 0 rfl) ?_
      refine lv_aload_n hx hb d_M_nonePart_104 rfl (lv_at hl 0 rfl) ?_
      refine ug_I hx hb ht hown hM hK hP 153 (by decide) lk_M_153 (by decide) d_M_nonePart_105 ?_
      refine lv_iconst (v := 2) hx hb d_M_nonePart_108 (by decide) ?_
      refine lv_icmp_ne (tgt := 117) hx hb d_M_nonePart_109 (by decide) (fun hc => ?_) (fun hc => ?_)
      · rw [br_n _ hc] at hf
        refine lv_bipush (v := 14) hx hb d_M_nonePart_117 (by decide) ?_
        exact wb_M_nonePart_119 C0 hR N S hSg G hG _ _ _ hf H locs hP hD hS ls (lv_sub hl [] rfl)
      · rw [br_p _ hc] at hf
        refine lv_bipush (v := 16) hx hb d_M_nonePart_112 (by decide) ?_
        refine lv_goto (tgt := 119) hx hb d_M_nonePart_114 (by decide) ?_
        exact wb_M_nonePart_119 C0 hR N S hSg G hG _ _ _ hf H locs hP hD hS ls (lv_sub hl [] rfl)
    · rw [br_p _ hc] at hf
      refine lv_aload_n hx hb d_M_nonePart_89 rfl (lv_at hl 0 rfl) ?_
      refine lv_bipush (v := 15) hx hb d_M_nonePart_90 (by decide) ?_
      refine lv_aload_n hx hb d_M_nonePart_92 rfl (lv_at hl 0 rfl) ?_
      refine lv_iconst (v := 0) hx hb d_M_nonePart_93 (by decide) ?_
      obtain ⟨u2, r2, hc2, hf⟩ := bnd_some hf
      refine mV_l (As := [.int 0]) (rest := [.int 15, .ref h0]) C0 hP hD hS (c_M_top N hM hc2) k_M_top hl_M_top hi_M_top hs_M_top hini_M rfl rfl hd_M_top rfl (rm_M_nonePart_M_top hR) hl.1 (Nat.le_of_ble_eq_true rfl) d_M_nonePart_94 rfl ⟨Nat.zero_le _, Nat.zero_le _⟩ (fun H locs hP hD hS => ?_)
      obtain ⟨u3, r3, hc3, hf⟩ := bnd_some hf
      refine mV_v (As := [.int 15, .long r2]) (rest := []) C0 hP hD hS (hSg.2.1 _ _ _ _ _ hc3) k_M_errorOf hl_M_errorOf hi_M_errorOf hs_M_errorOf hini_M rfl rfl hd_M_errorOf rfl (rm_M_nonePart_M_errorOf hR) hl.1 (Nat.le_of_ble_eq_true rfl) d_M_nonePart_97 rfl ⟨Nat.zero_le _, Nat.zero_le _⟩ (fun H locs hP hD hS => ?_)
      refine lv_goto (tgt := 122) hx hb d_M_nonePart_100 (by decide) ?_
      exact wb_M_nonePart_122 C0 hR N S hSg G hG _ _ hf H locs hP hD hS ls (lv_sub hl [] rfl)
  · rw [br_p _ hc] at hf
    refine lv_aload_n hx hb d_M_nonePart_8 rfl (lv_at hl 0 rfl) ?_
    refine lv_dup hx hb d_M_nonePart_9 rfl ?_
    refine ug_I hx hb ht hown hM hK hP 158 (by decide) lk_M_158 (by decide) d_M_nonePart_10 ?_
    refine lv_iconst (v := 1) hx hb d_M_nonePart_13 (by decide) ?_
    refine lv_iadd hx hb d_M_nonePart_14 ?_
    refine up_I hx hb ht hown hM hK hP hD hS 158 (by decide) lk_M_158 (by decide) rfl rfl rfl d_M_nonePart_15 (fun H locs hP hD hS => ?_)
    obtain ⟨w4, e4, hf⟩ := lt_some hf
    rw [← e4] at hP hD
    refine lv_aload_n hx hb d_M_nonePart_18 rfl (lv_at hl 0 rfl) ?_
    refine ug_R hx hb ht hown hM hK hP 110 (by decide) lk_M_110 (by decide) d_M_nonePart_19 ?_
    refine lv_aload_n hx hb d_M_nonePart_22 rfl (lv_at hl 0 rfl) ?_
    refine ug_I hx hb ht hown hM hK hP 133 (by decide) lk_M_133 (by decide) d_M_nonePart_23 ?_
    refine lv_aload_n hx hb d_M_nonePart_26 rfl (lv_at hl 0 rfl) ?_
    refine ug_I hx hb ht hown hM hK hP 158 (by decide) lk_M_158 (by decide) d_M_nonePart_27 ?_
    obtain ⟨hi9, hf⟩ := ck_some hf
    refine us_I hx hb hK hP hD hS (by decide) (by decide) hi9 d_M_nonePart_30 (fun H locs hP hD hS => ?_)
    obtain ⟨w5, e5, hf⟩ := lt_some hf
    rw [← e5] at hP hD
    refine lv_aload_n hx hb d_M_nonePart_31 rfl (lv_at hl 0 rfl) ?_
    refine ug_I hx hb ht hown hM hK hP 158 (by decide) lk_M_158 (by decide) d_M_nonePart_32 ?_
    refine lv_aload_n hx hb d_M_nonePart_35 rfl (lv_at hl 0 rfl) ?_
    refine ug_R hx hb ht hown hM hK hP 108 (by decide) lk_M_108 (by decide) d_M_nonePart_36 ?_
    refine lv_aload_n hx hb d_M_nonePart_39 rfl (lv_at hl 0 rfl) ?_
    refine ug_I hx hb ht hown hM hK hP 133 (by decide) lk_M_133 (by decide) d_M_nonePart_40 ?_
    obtain ⟨hi9, hf⟩ := ck_some hf
    refine ul_I hx hb hK hP (by decide) (by decide) hi9 d_M_nonePart_43 ?_
    refine lv_icmp_ge (tgt := 57) hx hb d_M_nonePart_44 (by decide) (fun hc => ?_) (fun hc => ?_)
    · rw [br_p _ hc] at hf
      refine lv_aload_n hx hb d_M_nonePart_57 rfl (lv_at hl 0 rfl) ?_
      refine ug_R hx hb ht hown hM hK hP 110 (by decide) lk_M_110 (by decide) d_M_nonePart_58 ?_
      refine lv_aload_n hx hb d_M_nonePart_61 rfl (lv_at hl 0 rfl) ?_
      refine ug_I hx hb ht hown hM hK hP 133 (by decide) lk_M_133 (by decide) d_M_nonePart_62 ?_
      refine lv_aload_n hx hb d_M_nonePart_65 rfl (lv_at hl 0 rfl) ?_
      refine ug_R hx hb ht hown hM hK hP 108 (by decide) lk_M_108 (by decide) d_M_nonePart_66 ?_
      refine lv_aload_n hx hb d_M_nonePart_69 rfl (lv_at hl 0 rfl) ?_
      refine ug_I hx hb ht hown hM hK hP 133 (by decide) lk_M_133 (by decide) d_M_nonePart_70 ?_
      obtain ⟨hi9, hf⟩ := ck_some hf
      refine ul_I hx hb hK hP (by decide) (by decide) hi9 d_M_nonePart_73 ?_
      obtain ⟨hi9, hf⟩ := ck_some hf
      refine us_I hx hb hK hP hD hS (by decide) (by decide) hi9 d_M_nonePart_74 (fun H locs hP hD hS => ?_)
      obtain ⟨w6, e6, hf⟩ := lt_some hf
      rw [← e6] at hP hD
      refine lv_aload_n hx hb d_M_nonePart_75 rfl (lv_at hl 0 rfl) ?_
      obtain ⟨u7, r7, hc7, hf⟩ := bnd_some hf
      refine mV_v (As := []) (rest := []) C0 hP hD hS (c_M_afterMessages N hM hc7) k_M_afterMessages hl_M_afterMessages hi_M_afterMessages hs_M_afterMessages hini_M rfl rfl hd_M_afterMessages rfl (rm_M_nonePart_M_afterMessages hR) hl.1 (Nat.le_of_ble_eq_true rfl) d_M_nonePart_76 rfl ⟨Nat.zero_le _, Nat.zero_le _⟩ (fun H locs hP hD hS => ?_)
      refine lv_iconst (v := 0) hx hb d_M_nonePart_79 (by decide) ?_
      obtain ⟨hz, hf⟩ := ck_some hf
      exact mr_z C0 hP hD hS hz hf d_M_nonePart_80
    · rw [br_n _ hc] at hf
      refine lv_aload_n hx hb d_M_nonePart_47 rfl (lv_at hl 0 rfl) ?_
      refine lv_aload_n hx hb d_M_nonePart_48 rfl (lv_at hl 0 rfl) ?_
      refine ug_I hx hb ht hown hM hK hP 155 (by decide) lk_M_155 (by decide) d_M_nonePart_49 ?_
      refine up_I hx hb ht hown hM hK hP hD hS 154 (by decide) lk_M_154 (by decide) rfl rfl rfl d_M_nonePart_52 (fun H locs hP hD hS => ?_)
      obtain ⟨w8, e8, hf⟩ := lt_some hf
      rw [← e8] at hP hD
      refine lv_iconst (v := 1) hx hb d_M_nonePart_55 (by decide) ?_
      obtain ⟨hz, hf⟩ := ck_some hf
      exact mr_z C0 hP hD hS hz hf d_M_nonePart_56
def fm_M_nonePart (N : Nat) (S : SG_M_error) (u : MS) : Option (MS × Int32) := fb_M_nonePart_0 N S () u
set_option maxRecDepth 100000 in
set_option maxHeartbeats 4000000 in
theorem cs_M_nonePart (N : Nat) {d : Nat} {l : Launch} {D : va_G} {cl : List vw_C} {cB cI cJ cZ cS : ClassId} {iM h0 : Nat} {ad : Nat → Nat} {u : MS} {sz : Nat} {x : MS × Int32} (hM : cl[iM]? = some (R_M, F_M, 171)) (S : SG_M_error) (hSg : HS_M_error l D cl cB cI cJ cZ cS iM h0 ad (rg_M_error d) S) (hf : fm_M_nonePart N S u = some x) : Met l y_M_nonePart (wd_ws y_M_nonePart b_M_nonePart 1 (some .boolean)) (rg_M_error (d + 1)) (mPc D cl cB cI cJ cZ cS iM h0 ad u sz [.ref h0]) (mQi D cl cB cI cJ cZ cS iM h0 ad (mA cB cI cJ cZ cS iM h0 ad u sz) x) 0 0 (mA cB cI cJ cZ cS iM h0 ad u sz) :=
  mMet (by decide) rfl hM (Nat.le_of_ble_eq_true rfl) (fun p e s m below meth c ls hsz C0 hP hD hS hl => by
    have hR : (rg_M_error (d + 1)) = (rg_M_error (d + 1)) := rfl
    exact wb_M_nonePart_0 C0 hR N S hSg () trivial u x hf s.heap [] hP hD hS ls (lv_sub hl [0] rfl))
theorem rm_M_choose_M_fitsPart {R : Room} {d : Nat} (hR : R = rg_M_error (d + 1)) : (rm_M_fitsPart).frames + 1 ≤ R.frames ∧ 8 + (4 + 11) + (rm_M_fitsPart).locals ≤ R.locals := by
  subst hR
  have h1 : (rm_M_fitsPart).frames = 5 := rfl
  have h2 : (rm_M_fitsPart).locals = 140 := rfl
  show (rm_M_fitsPart).frames + 1 ≤ 6 + (d + 1) ∧ 8 + (4 + 11) + (rm_M_fitsPart).locals ≤ 163 + 26 * (d + 1)
  omega
theorem rm_M_choose_M_chosen {R : Room} {d : Nat} (hR : R = rg_M_error (d + 1)) : (rm_M_chosen).frames + 1 ≤ R.frames ∧ 8 + (2 + 11) + (rm_M_chosen).locals ≤ R.locals := by
  subst hR
  have h1 : (rm_M_chosen).frames = 2 := rfl
  have h2 : (rm_M_chosen).locals = 41 := rfl
  show (rm_M_chosen).frames + 1 ≤ 6 + (d + 1) ∧ 8 + (2 + 11) + (rm_M_chosen).locals ≤ 163 + 26 * (d + 1)
  omega
theorem rm_M_choose_M_goTo {R : Room} {d : Nat} (hR : R = rg_M_error (d + 1)) : (rm_M_goTo).frames + 1 ≤ R.frames ∧ 8 + (2 + 11) + (rm_M_goTo).locals ≤ R.locals := by
  subst hR
  have h1 : (rm_M_goTo).frames = 1 := rfl
  have h2 : (rm_M_goTo).locals = 20 := rfl
  show (rm_M_goTo).frames + 1 ≤ 6 + (d + 1) ∧ 8 + (2 + 11) + (rm_M_goTo).locals ≤ 163 + 26 * (d + 1)
  omega
theorem rm_M_choose_M_nonePart {R : Room} {d : Nat} (hR : R = rg_M_error (d + 1)) : (rg_M_error d).frames + 1 ≤ R.frames ∧ 8 + (1 + 11) + (rg_M_error d).locals ≤ R.locals := by
  subst hR
  show 6 + d + 1 ≤ 6 + (d + 1) ∧ 8 + (1 + 11) + (163 + 26 * d) ≤ 163 + 26 * (d + 1)
  omega
def fb_M_choose_2 (N : Nat) (S : SG_M_error) (G : (MS → Int32 → Option (MS × Unit))) (u : MS) (v1 : Int32) : Option (MS × Unit) := br (decide (v1 = 0)) (some (u, ())) (ck (inb (u.1 133) (ln 94)) (lt (upA u 94 (upd (u.2.2.1 94) (u.1 133).toNatClampNeg (u.1 156))) (fun w1 => br (decide ((w1.1 154) = (-1))) (bnd (S.2.2.1 w1) (fun u8 r8 => G u8 (r8))) (bnd (fm_M_fitsPart N w1) (fun u2 r2 => br (decide (r2 = 0)) (ck (inb (u2.1 154) (ln 45)) (lt (upI u2 154 (u2.2.2.1 45 (u2.1 154).toNatClampNeg)) (fun w3 => G w3 (v1)))) (ck (inb (u2.1 154) (ln 42)) (br (decide ((u2.2.2.1 42 (u2.1 154).toNatClampNeg) = (-1))) (bnd (fm_M_chosen N u2) (fun u7 _ => G u7 (0))) (lt (upI u2 152 1) (fun w4 => ck (inb (w4.1 133) (ln 92)) (lt (upI w4 157 (w4.2.2.1 92 (w4.1 133).toNatClampNeg)) (fun w5 => ck (inb (w5.1 154) (ln 42)) (bnd (fm_M_goTo N w5 (w5.2.2.1 42 (w5.1 154).toNatClampNeg)) (fun u6 _ => G u6 (0))))))))))))))
set_option maxRecDepth 100000 in
set_option maxHeartbeats 4000000 in
theorem wb_M_choose_2 {p : Program} {l : Launch} {e : Env} {R : Room} {s : State} {m : MethodId} {args : Array Value} {below : List Frame} {meth : Method} {c : Code} {D : va_G} {cl : List vw_C} {cB cI cJ cZ cS : ClassId} {A : Nat → Prop} {iM h0 : Nat} {ad : Nat → Nat} (C0 : MCx p s m args meth c b_M_choose 2 none D cl cB cI cJ cZ cS iM A) {d : Nat} (hR : R = rg_M_error (d + 1)) (N : Nat) (S : SG_M_error) (hSg : HS_M_error l D cl cB cI cJ cZ cS iM h0 ad (rg_M_error d) S) (G : (MS → Int32 → Option (MS × Unit))) (hG : (∀ (u : MS) (v1 : Int32) (x : MS × Unit), G u v1 = some x → ∀ (H : Heap) (locs : List Loc), va_P D cl (wM cB cI cJ cZ cS iM h0 ad u) H → va_D A (wM cB cI cJ cZ cS iM h0 ad u) → va_S A s.heap H locs → ∀ (ls : Array Slot), lv_has ls 2 [(0, .ref h0), (1, .int v1)] → W p l e R s m args below meth c H locs 0 0 (MQ below (mQv D cl cB cI cJ cZ cS iM h0 ad A x) args s 0 0 A) (F0 m 2 ls []))) : ∀ (u : MS) (v1 : Int32) (x : MS × Unit), fb_M_choose_2 N S G u v1 = some x → ∀ (H : Heap) (locs : List Loc), va_P D cl (wM cB cI cJ cZ cS iM h0 ad u) H → va_D A (wM cB cI cJ cZ cS iM h0 ad u) → va_S A s.heap H locs → ∀ (ls : Array Slot), lv_has ls 2 [(0, .ref h0), (1, .int v1)] → W p l e R s m args below meth c H locs 0 0 (MQ below (mQv D cl cB cI cJ cZ cS iM h0 ad A x) args s 0 0 A) (F0 m 2 ls []) := by
  intro u v1 x hf H locs hP hD hS ls hl
  obtain ⟨hx, hb, hr, hml, ht, hown, hM, hK, hA, hlocks⟩ := id C0
  unfold fb_M_choose_2 at hf
  refine lv_iload_n hx hb d_M_choose_2 rfl (lv_at hl 1 rfl) ?_
  refine lv_if_eq (tgt := 114) hx hb d_M_choose_3 (by decide) (fun hc => ?_) (fun hc => ?_)
  · rw [br_p _ hc] at hf
    exact mr_v C0 hP hD hS hf d_M_choose_114
  · rw [br_n _ hc] at hf
    refine lv_aload_n hx hb d_M_choose_6 rfl (lv_at hl 0 rfl) ?_
    refine ug_R hx hb ht hown hM hK hP 94 (by decide) lk_M_94 (by decide) d_M_choose_7 ?_
    refine lv_aload_n hx hb d_M_choose_10 rfl (lv_at hl 0 rfl) ?_
    refine ug_I hx hb ht hown hM hK hP 133 (by decide) lk_M_133 (by decide) d_M_choose_11 ?_
    refine lv_aload_n hx hb d_M_choose_14 rfl (lv_at hl 0 rfl) ?_
    refine ug_I hx hb ht hown hM hK hP 156 (by decide) lk_M_156 (by decide) d_M_choose_15 ?_
    obtain ⟨hi9, hf⟩ := ck_some hf
    refine us_I hx hb hK hP hD hS (by decide) (by decide) hi9 d_M_choose_18 (fun H locs hP hD hS => ?_)
    obtain ⟨w1, e1, hf⟩ := lt_some hf
    rw [← e1] at hP hD
    refine lv_aload_n hx hb d_M_choose_19 rfl (lv_at hl 0 rfl) ?_
    refine ug_I hx hb ht hown hM hK hP 154 (by decide) lk_M_154 (by decide) d_M_choose_20 ?_
    refine lv_iconst (v := (-1)) hx hb d_M_choose_23 (by decide) ?_
    refine lv_icmp_ne (tgt := 35) hx hb d_M_choose_24 (by decide) (fun hc => ?_) (fun hc => ?_)
    · rw [br_n _ hc] at hf
      refine lv_aload_n hx hb d_M_choose_35 rfl (lv_at hl 0 rfl) ?_
      obtain ⟨u2, r2, hc2, hf⟩ := bnd_some hf
      refine mV_i (As := []) (rest := []) C0 hP hD hS (c_M_fitsPart N hM hc2) k_M_fitsPart hl_M_fitsPart hi_M_fitsPart hs_M_fitsPart hini_M rfl rfl hd_M_fitsPart rfl (rm_M_choose_M_fitsPart hR) hl.1 (Nat.le_of_ble_eq_true rfl) d_M_choose_36 rfl ⟨Nat.zero_le _, Nat.zero_le _⟩ (fun H locs hP hD hS => ?_)
      refine lv_if_eq (tgt := 98) hx hb d_M_choose_39 (by decide) (fun hc => ?_) (fun hc => ?_)
      · rw [br_p _ hc] at hf
        refine lv_aload_n hx hb d_M_choose_98 rfl (lv_at hl 0 rfl) ?_
        refine lv_aload_n hx hb d_M_choose_99 rfl (lv_at hl 0 rfl) ?_
        refine ug_R hx hb ht hown hM hK hP 45 (by decide) lk_M_45 (by decide) d_M_choose_100 ?_
        refine lv_aload_n hx hb d_M_choose_103 rfl (lv_at hl 0 rfl) ?_
        refine ug_I hx hb ht hown hM hK hP 154 (by decide) lk_M_154 (by decide) d_M_choose_104 ?_
        obtain ⟨hi9, hf⟩ := ck_some hf
        refine ul_I hx hb hK hP (by decide) (by decide) hi9 d_M_choose_107 ?_
        refine up_I hx hb ht hown hM hK hP hD hS 154 (by decide) lk_M_154 (by decide) rfl rfl rfl d_M_choose_108 (fun H locs hP hD hS => ?_)
        obtain ⟨w3, e3, hf⟩ := lt_some hf
        rw [← e3] at hP hD
        refine lv_goto (tgt := 2) hx hb d_M_choose_111 (by decide) ?_
        exact hG _ _ _ hf H locs hP hD hS ls (lv_sub hl [0, 1] rfl)
      · rw [br_n _ hc] at hf
        refine lv_iconst (v := 0) hx hb d_M_choose_42 (by decide) ?_
        refine lv_istore_n (lv' := [(1, .int 0), (0, .ref h0)]) hx hb d_M_choose_43 rfl hl (by decide) rfl (fun ls hl => ?_)
        refine lv_aload_n hx hb d_M_choose_44 rfl (lv_at hl 1 rfl) ?_
        refine ug_R hx hb ht hown hM hK hP 42 (by decide) lk_M_42 (by decide) d_M_choose_45 ?_
        refine lv_aload_n hx hb d_M_choose_48 rfl (lv_at hl 1 rfl) ?_
        refine ug_I hx hb ht hown hM hK hP 154 (by decide) lk_M_154 (by decide) d_M_choose_49 ?_
        obtain ⟨hi9, hf⟩ := ck_some hf
        refine ul_I hx hb hK hP (by decide) (by decide) hi9 d_M_choose_52 ?_
        refine lv_iconst (v := (-1)) hx hb d_M_choose_53 (by decide) ?_
        refine lv_icmp_ne (tgt := 64) hx hb d_M_choose_54 (by decide) (fun hc => ?_) (fun hc => ?_)
        · rw [br_n _ hc] at hf
          refine lv_aload_n hx hb d_M_choose_64 rfl (lv_at hl 1 rfl) ?_
          refine lv_iconst (v := 1) hx hb d_M_choose_65 (by decide) ?_
          refine up_I hx hb ht hown hM hK hP hD hS 152 (by decide) lk_M_152 (by decide) rfl rfl rfl d_M_choose_66 (fun H locs hP hD hS => ?_)
          obtain ⟨w4, e4, hf⟩ := lt_some hf
          rw [← e4] at hP hD
          refine lv_aload_n hx hb d_M_choose_69 rfl (lv_at hl 1 rfl) ?_
          refine lv_aload_n hx hb d_M_choose_70 rfl (lv_at hl 1 rfl) ?_
          refine ug_R hx hb ht hown hM hK hP 92 (by decide) lk_M_92 (by decide) d_M_choose_71 ?_
          refine lv_aload_n hx hb d_M_choose_74 rfl (lv_at hl 1 rfl) ?_
          refine ug_I hx hb ht hown hM hK hP 133 (by decide) lk_M_133 (by decide) d_M_choose_75 ?_
          obtain ⟨hi9, hf⟩ := ck_some hf
          refine ul_I hx hb hK hP (by decide) (by decide) hi9 d_M_choose_78 ?_
          refine up_I hx hb ht hown hM hK hP hD hS 157 (by decide) lk_M_157 (by decide) rfl rfl rfl d_M_choose_79 (fun H locs hP hD hS => ?_)
          obtain ⟨w5, e5, hf⟩ := lt_some hf
          rw [← e5] at hP hD
          refine lv_aload_n hx hb d_M_choose_82 rfl (lv_at hl 1 rfl) ?_
          refine lv_aload_n hx hb d_M_choose_83 rfl (lv_at hl 1 rfl) ?_
          refine ug_R hx hb ht hown hM hK hP 42 (by decide) lk_M_42 (by decide) d_M_choose_84 ?_
          refine lv_aload_n hx hb d_M_choose_87 rfl (lv_at hl 1 rfl) ?_
          refine ug_I hx hb ht hown hM hK hP 154 (by decide) lk_M_154 (by decide) d_M_choose_88 ?_
          obtain ⟨hi9, hf⟩ := ck_some hf
          refine ul_I hx hb hK hP (by decide) (by decide) hi9 d_M_choose_91 ?_
          obtain ⟨u6, r6, hc6, hf⟩ := bnd_some hf
          refine mV_v (As := [.int (w5.2.2.1 42 (w5.1 154).toNatClampNeg)]) (rest := []) C0 hP hD hS (c_M_goTo N hM hc6) k_M_goTo hl_M_goTo hi_M_goTo hs_M_goTo hini_M rfl rfl hd_M_goTo rfl (rm_M_choose_M_goTo hR) hl.1 (Nat.le_of_ble_eq_true rfl) d_M_choose_92 rfl ⟨Nat.zero_le _, Nat.zero_le _⟩ (fun H locs hP hD hS => ?_)
          refine lv_goto (tgt := 2) hx hb d_M_choose_95 (by decide) ?_
          exact hG _ _ _ hf H locs hP hD hS ls (lv_sub hl [1, 0] rfl)
        · rw [br_p _ hc] at hf
          refine lv_aload_n hx hb d_M_choose_57 rfl (lv_at hl 1 rfl) ?_
          obtain ⟨u7, r7, hc7, hf⟩ := bnd_some hf
          refine mV_v (As := []) (rest := []) C0 hP hD hS (c_M_chosen N hM hc7) k_M_chosen hl_M_chosen hi_M_chosen hs_M_chosen hini_M rfl rfl hd_M_chosen rfl (rm_M_choose_M_chosen hR) hl.1 (Nat.le_of_ble_eq_true rfl) d_M_choose_58 rfl ⟨Nat.zero_le _, Nat.zero_le _⟩ (fun H locs hP hD hS => ?_)
          refine lv_goto (tgt := 2) hx hb d_M_choose_61 (by decide) ?_
          exact hG _ _ _ hf H locs hP hD hS ls (lv_sub hl [1, 0] rfl)
    · rw [br_p _ hc] at hf
      refine lv_aload_n hx hb d_M_choose_27 rfl (lv_at hl 0 rfl) ?_
      obtain ⟨u8, r8, hc8, hf⟩ := bnd_some hf
      refine mV_i (As := []) (rest := []) C0 hP hD hS (hSg.2.2.1 _ _ _ hc8) k_M_nonePart hl_M_nonePart hi_M_nonePart hs_M_nonePart hini_M rfl rfl hd_M_nonePart rfl (rm_M_choose_M_nonePart hR) hl.1 (Nat.le_of_ble_eq_true rfl) d_M_choose_28 rfl ⟨Nat.zero_le _, Nat.zero_le _⟩ (fun H locs hP hD hS => ?_)
      refine lv_istore_n (lv' := [(1, .int r8), (0, .ref h0)]) hx hb d_M_choose_31 rfl hl (by decide) rfl (fun ls hl => ?_)
      refine lv_goto (tgt := 2) hx hb d_M_choose_32 (by decide) ?_
      exact hG _ _ _ hf H locs hP hD hS ls (lv_sub hl [1, 0] rfl)
def fb_M_choose_0 (N : Nat) (S : SG_M_error) (G : (MS → Int32 → Option (MS × Unit))) (u : MS) : Option (MS × Unit) := G u (1)
set_option maxRecDepth 100000 in
set_option maxHeartbeats 4000000 in
theorem wb_M_choose_0 {p : Program} {l : Launch} {e : Env} {R : Room} {s : State} {m : MethodId} {args : Array Value} {below : List Frame} {meth : Method} {c : Code} {D : va_G} {cl : List vw_C} {cB cI cJ cZ cS : ClassId} {A : Nat → Prop} {iM h0 : Nat} {ad : Nat → Nat} (C0 : MCx p s m args meth c b_M_choose 2 none D cl cB cI cJ cZ cS iM A) {d : Nat} (hR : R = rg_M_error (d + 1)) (N : Nat) (S : SG_M_error) (hSg : HS_M_error l D cl cB cI cJ cZ cS iM h0 ad (rg_M_error d) S) (G : (MS → Int32 → Option (MS × Unit))) (hG : (∀ (u : MS) (v1 : Int32) (x : MS × Unit), G u v1 = some x → ∀ (H : Heap) (locs : List Loc), va_P D cl (wM cB cI cJ cZ cS iM h0 ad u) H → va_D A (wM cB cI cJ cZ cS iM h0 ad u) → va_S A s.heap H locs → ∀ (ls : Array Slot), lv_has ls 2 [(0, .ref h0), (1, .int v1)] → W p l e R s m args below meth c H locs 0 0 (MQ below (mQv D cl cB cI cJ cZ cS iM h0 ad A x) args s 0 0 A) (F0 m 2 ls []))) : ∀ (u : MS) (x : MS × Unit), fb_M_choose_0 N S G u = some x → ∀ (H : Heap) (locs : List Loc), va_P D cl (wM cB cI cJ cZ cS iM h0 ad u) H → va_D A (wM cB cI cJ cZ cS iM h0 ad u) → va_S A s.heap H locs → ∀ (ls : Array Slot), lv_has ls 2 [(0, .ref h0)] → W p l e R s m args below meth c H locs 0 0 (MQ below (mQv D cl cB cI cJ cZ cS iM h0 ad A x) args s 0 0 A) (F0 m 0 ls []) := by
  intro u x hf H locs hP hD hS ls hl
  obtain ⟨hx, hb, hr, hml, ht, hown, hM, hK, hA, hlocks⟩ := id C0
  unfold fb_M_choose_0 at hf
  refine lv_iconst (v := 1) hx hb d_M_choose_0 (by decide) ?_
  refine lv_istore_n (lv' := [(1, .int 1), (0, .ref h0)]) hx hb d_M_choose_1 rfl hl (by decide) rfl (fun ls hl => ?_)
  exact hG _ _ _ hf H locs hP hD hS ls (lv_sub hl [1, 0] rfl)
def gg_M_choose (N : Nat) (S : SG_M_error) : Nat → ((MS → Int32 → Option (MS × Unit)))
  | 0 => fun _ _ => none
  | n + 1 => fb_M_choose_2 N S (gg_M_choose N S n)
theorem wg_M_choose {p : Program} {l : Launch} {e : Env} {R : Room} {s : State} {m : MethodId} {args : Array Value} {below : List Frame} {meth : Method} {c : Code} {D : va_G} {cl : List vw_C} {cB cI cJ cZ cS : ClassId} {A : Nat → Prop} {iM h0 : Nat} {ad : Nat → Nat} (C0 : MCx p s m args meth c b_M_choose 2 none D cl cB cI cJ cZ cS iM A) {d : Nat} (hR : R = rg_M_error (d + 1)) (N : Nat) (S : SG_M_error) (hSg : HS_M_error l D cl cB cI cJ cZ cS iM h0 ad (rg_M_error d) S) : ∀ n : Nat, (∀ (u : MS) (v1 : Int32) (x : MS × Unit), gg_M_choose N S n u v1 = some x → ∀ (H : Heap) (locs : List Loc), va_P D cl (wM cB cI cJ cZ cS iM h0 ad u) H → va_D A (wM cB cI cJ cZ cS iM h0 ad u) → va_S A s.heap H locs → ∀ (ls : Array Slot), lv_has ls 2 [(0, .ref h0), (1, .int v1)] → W p l e R s m args below meth c H locs 0 0 (MQ below (mQv D cl cB cI cJ cZ cS iM h0 ad A x) args s 0 0 A) (F0 m 2 ls []))
  | 0 => (fun u v1 x hf => by cases hf)
  | n + 1 => wb_M_choose_2 C0 hR N S hSg (gg_M_choose N S n) (wg_M_choose C0 hR N S hSg n)
def fm_M_choose (N : Nat) (S : SG_M_error) (u : MS) : Option (MS × Unit) := fb_M_choose_0 N S (gg_M_choose N S N) u
set_option maxRecDepth 100000 in
set_option maxHeartbeats 4000000 in
theorem cs_M_choose (N : Nat) {d : Nat} {l : Launch} {D : va_G} {cl : List vw_C} {cB cI cJ cZ cS : ClassId} {iM h0 : Nat} {ad : Nat → Nat} {u : MS} {sz : Nat} {x : MS × Unit} (hM : cl[iM]? = some (R_M, F_M, 171)) (S : SG_M_error) (hSg : HS_M_error l D cl cB cI cJ cZ cS iM h0 ad (rg_M_error d) S) (hf : fm_M_choose N S u = some x) : Met l y_M_choose (wd_ws y_M_choose b_M_choose 2 none) (rg_M_error (d + 1)) (mPc D cl cB cI cJ cZ cS iM h0 ad u sz [.ref h0]) (mQv D cl cB cI cJ cZ cS iM h0 ad (mA cB cI cJ cZ cS iM h0 ad u sz) x) 0 0 (mA cB cI cJ cZ cS iM h0 ad u sz) :=
  mMet (by decide) rfl hM (Nat.le_of_ble_eq_true rfl) (fun p e s m below meth c ls hsz C0 hP hD hS hl => by
    have hR : (rg_M_error (d + 1)) = (rg_M_error (d + 1)) := rfl
    exact wb_M_choose_0 C0 hR N S hSg (gg_M_choose N S N) (wg_M_choose C0 hR N S hSg N) u x hf s.heap [] hP hD hS ls (lv_sub hl [0] rfl))
theorem rm_M_guardFails_M_choose {R : Room} {d : Nat} (hR : R = rg_M_error (d + 1)) : (rg_M_error d).frames + 1 ≤ R.frames ∧ 8 + (2 + 11) + (rg_M_error d).locals ≤ R.locals := by
  subst hR
  show 6 + d + 1 ≤ 6 + (d + 1) ∧ 8 + (2 + 11) + (163 + 26 * d) ≤ 163 + 26 * (d + 1)
  omega
def fb_M_guardFails_0 (N : Nat) (S : SG_M_error) (G : Unit) (u : MS) : Option (MS × Unit) := lt (upI u 152 0) (fun w1 => ck (inb (w1.1 133) (ln 92)) (lt (upA w1 92 (upd (w1.2.2.1 92) (w1.1 133).toNatClampNeg (w1.1 157))) (fun w2 => ck (inb (w2.1 154) (ln 45)) (lt (upI w2 154 (w2.2.2.1 45 (w2.1 154).toNatClampNeg)) (fun w3 => bnd (S.2.2.2.1 w3) (fun u4 _ => some (u4, ())))))))
set_option maxRecDepth 100000 in
set_option maxHeartbeats 4000000 in
theorem wb_M_guardFails_0 {p : Program} {l : Launch} {e : Env} {R : Room} {s : State} {m : MethodId} {args : Array Value} {below : List Frame} {meth : Method} {c : Code} {D : va_G} {cl : List vw_C} {cB cI cJ cZ cS : ClassId} {A : Nat → Prop} {iM h0 : Nat} {ad : Nat → Nat} (C0 : MCx p s m args meth c b_M_guardFails 1 none D cl cB cI cJ cZ cS iM A) {d : Nat} (hR : R = rg_M_error (d + 1)) (N : Nat) (S : SG_M_error) (hSg : HS_M_error l D cl cB cI cJ cZ cS iM h0 ad (rg_M_error d) S) (G : Unit) (hG : True) : ∀ (u : MS) (x : MS × Unit), fb_M_guardFails_0 N S G u = some x → ∀ (H : Heap) (locs : List Loc), va_P D cl (wM cB cI cJ cZ cS iM h0 ad u) H → va_D A (wM cB cI cJ cZ cS iM h0 ad u) → va_S A s.heap H locs → ∀ (ls : Array Slot), lv_has ls 1 [(0, .ref h0)] → W p l e R s m args below meth c H locs 0 0 (MQ below (mQv D cl cB cI cJ cZ cS iM h0 ad A x) args s 0 0 A) (F0 m 0 ls []) := by
  intro u x hf H locs hP hD hS ls hl
  obtain ⟨hx, hb, hr, hml, ht, hown, hM, hK, hA, hlocks⟩ := id C0
  unfold fb_M_guardFails_0 at hf
  refine lv_aload_n hx hb d_M_guardFails_0 rfl (lv_at hl 0 rfl) ?_
  refine lv_iconst (v := 0) hx hb d_M_guardFails_1 (by decide) ?_
  refine up_I hx hb ht hown hM hK hP hD hS 152 (by decide) lk_M_152 (by decide) rfl rfl rfl d_M_guardFails_2 (fun H locs hP hD hS => ?_)
  obtain ⟨w1, e1, hf⟩ := lt_some hf
  rw [← e1] at hP hD
  refine lv_aload_n hx hb d_M_guardFails_5 rfl (lv_at hl 0 rfl) ?_
  refine ug_R hx hb ht hown hM hK hP 92 (by decide) lk_M_92 (by decide) d_M_guardFails_6 ?_
  refine lv_aload_n hx hb d_M_guardFails_9 rfl (lv_at hl 0 rfl) ?_
  refine ug_I hx hb ht hown hM hK hP 133 (by decide) lk_M_133 (by decide) d_M_guardFails_10 ?_
  refine lv_aload_n hx hb d_M_guardFails_13 rfl (lv_at hl 0 rfl) ?_
  refine ug_I hx hb ht hown hM hK hP 157 (by decide) lk_M_157 (by decide) d_M_guardFails_14 ?_
  obtain ⟨hi9, hf⟩ := ck_some hf
  refine us_I hx hb hK hP hD hS (by decide) (by decide) hi9 d_M_guardFails_17 (fun H locs hP hD hS => ?_)
  obtain ⟨w2, e2, hf⟩ := lt_some hf
  rw [← e2] at hP hD
  refine lv_aload_n hx hb d_M_guardFails_18 rfl (lv_at hl 0 rfl) ?_
  refine lv_aload_n hx hb d_M_guardFails_19 rfl (lv_at hl 0 rfl) ?_
  refine ug_R hx hb ht hown hM hK hP 45 (by decide) lk_M_45 (by decide) d_M_guardFails_20 ?_
  refine lv_aload_n hx hb d_M_guardFails_23 rfl (lv_at hl 0 rfl) ?_
  refine ug_I hx hb ht hown hM hK hP 154 (by decide) lk_M_154 (by decide) d_M_guardFails_24 ?_
  obtain ⟨hi9, hf⟩ := ck_some hf
  refine ul_I hx hb hK hP (by decide) (by decide) hi9 d_M_guardFails_27 ?_
  refine up_I hx hb ht hown hM hK hP hD hS 154 (by decide) lk_M_154 (by decide) rfl rfl rfl d_M_guardFails_28 (fun H locs hP hD hS => ?_)
  obtain ⟨w3, e3, hf⟩ := lt_some hf
  rw [← e3] at hP hD
  refine lv_aload_n hx hb d_M_guardFails_31 rfl (lv_at hl 0 rfl) ?_
  obtain ⟨u4, r4, hc4, hf⟩ := bnd_some hf
  refine mV_v (As := []) (rest := []) C0 hP hD hS (hSg.2.2.2.1 _ _ _ hc4) k_M_choose hl_M_choose hi_M_choose hs_M_choose hini_M rfl rfl hd_M_choose rfl (rm_M_guardFails_M_choose hR) hl.1 (Nat.le_of_ble_eq_true rfl) d_M_guardFails_32 rfl ⟨Nat.zero_le _, Nat.zero_le _⟩ (fun H locs hP hD hS => ?_)
  exact mr_v C0 hP hD hS hf d_M_guardFails_35
def fm_M_guardFails (N : Nat) (S : SG_M_error) (u : MS) : Option (MS × Unit) := fb_M_guardFails_0 N S () u
set_option maxRecDepth 100000 in
set_option maxHeartbeats 4000000 in
theorem cs_M_guardFails (N : Nat) {d : Nat} {l : Launch} {D : va_G} {cl : List vw_C} {cB cI cJ cZ cS : ClassId} {iM h0 : Nat} {ad : Nat → Nat} {u : MS} {sz : Nat} {x : MS × Unit} (hM : cl[iM]? = some (R_M, F_M, 171)) (S : SG_M_error) (hSg : HS_M_error l D cl cB cI cJ cZ cS iM h0 ad (rg_M_error d) S) (hf : fm_M_guardFails N S u = some x) : Met l y_M_guardFails (wd_ws y_M_guardFails b_M_guardFails 1 none) (rg_M_error (d + 1)) (mPc D cl cB cI cJ cZ cS iM h0 ad u sz [.ref h0]) (mQv D cl cB cI cJ cZ cS iM h0 ad (mA cB cI cJ cZ cS iM h0 ad u sz) x) 0 0 (mA cB cI cJ cZ cS iM h0 ad u sz) :=
  mMet (by decide) rfl hM (Nat.le_of_ble_eq_true rfl) (fun p e s m below meth c ls hsz C0 hP hD hS hl => by
    have hR : (rg_M_error (d + 1)) = (rg_M_error (d + 1)) := rfl
    exact wb_M_guardFails_0 C0 hR N S hSg () trivial u x hf s.heap [] hP hD hS ls (lv_sub hl [0] rfl))
theorem rm_M_goesUp_M_ends {R : Room} {d : Nat} (hR : R = rg_M_error (d + 1)) : (rm_M_ends).frames + 1 ≤ R.frames ∧ 8 + (4 + 11) + (rm_M_ends).locals ≤ R.locals := by
  subst hR
  have h1 : (rm_M_ends).frames = 1 := rfl
  have h2 : (rm_M_ends).locals = 25 := rfl
  show (rm_M_ends).frames + 1 ≤ 6 + (d + 1) ∧ 8 + (4 + 11) + (rm_M_ends).locals ≤ 163 + 26 * (d + 1)
  omega
theorem rm_M_goesUp_M_put {R : Room} {d : Nat} (hR : R = rg_M_error (d + 1)) : (rm_M_put).frames + 1 ≤ R.frames ∧ 8 + (3 + 11) + (rm_M_put).locals ≤ R.locals := by
  subst hR
  have h1 : (rm_M_put).frames = 0 := rfl
  have h2 : (rm_M_put).locals = 0 := rfl
  show (rm_M_put).frames + 1 ≤ 6 + (d + 1) ∧ 8 + (3 + 11) + (rm_M_put).locals ≤ 163 + 26 * (d + 1)
  omega
theorem rm_M_goesUp_M_hand {R : Room} {d : Nat} (hR : R = rg_M_error (d + 1)) : (rm_M_hand).frames + 1 ≤ R.frames ∧ 8 + (4 + 11) + (rm_M_hand).locals ≤ R.locals := by
  subst hR
  have h1 : (rm_M_hand).frames = 0 := rfl
  have h2 : (rm_M_hand).locals = 0 := rfl
  show (rm_M_hand).frames + 1 ≤ 6 + (d + 1) ∧ 8 + (4 + 11) + (rm_M_hand).locals ≤ 163 + 26 * (d + 1)
  omega
theorem rm_M_goesUp_M_wants {R : Room} {d : Nat} (hR : R = rg_M_error (d + 1)) : (rm_M_wants).frames + 1 ≤ R.frames ∧ 8 + (3 + 11) + (rm_M_wants).locals ≤ R.locals := by
  subst hR
  have h1 : (rm_M_wants).frames = 4 := rfl
  have h2 : (rm_M_wants).locals = 101 := rfl
  show (rm_M_wants).frames + 1 ≤ 6 + (d + 1) ∧ 8 + (3 + 11) + (rm_M_wants).locals ≤ 163 + 26 * (d + 1)
  omega
theorem rm_M_goesUp_M_handNone {R : Room} {d : Nat} (hR : R = rg_M_error (d + 1)) : (rm_M_handNone).frames + 1 ≤ R.frames ∧ 8 + (1 + 11) + (rm_M_handNone).locals ≤ R.locals := by
  subst hR
  have h1 : (rm_M_handNone).frames = 1 := rfl
  have h2 : (rm_M_handNone).locals = 21 := rfl
  show (rm_M_handNone).frames + 1 ≤ 6 + (d + 1) ∧ 8 + (1 + 11) + (rm_M_handNone).locals ≤ 163 + 26 * (d + 1)
  omega
theorem rm_M_goesUp_M_noRoom {R : Room} {d : Nat} (hR : R = rg_M_error (d + 1)) : (rm_M_noRoom).frames + 1 ≤ R.frames ∧ 8 + (1 + 11) + (rm_M_noRoom).locals ≤ R.locals := by
  subst hR
  have h1 : (rm_M_noRoom).frames = 2 := rfl
  have h2 : (rm_M_noRoom).locals = 48 := rfl
  show (rm_M_noRoom).frames + 1 ≤ 6 + (d + 1) ∧ 8 + (1 + 11) + (rm_M_noRoom).locals ≤ 163 + 26 * (d + 1)
  omega
theorem rm_M_goesUp_M_two {R : Room} {d : Nat} (hR : R = rg_M_error (d + 1)) : (rm_M_two).frames + 1 ≤ R.frames ∧ 8 + (5 + 11) + (rm_M_two).locals ≤ R.locals := by
  subst hR
  have h1 : (rm_M_two).frames = 1 := rfl
  have h2 : (rm_M_two).locals = 21 := rfl
  show (rm_M_two).frames + 1 ≤ 6 + (d + 1) ∧ 8 + (5 + 11) + (rm_M_two).locals ≤ 163 + 26 * (d + 1)
  omega
theorem rm_M_goesUp_M_goTo {R : Room} {d : Nat} (hR : R = rg_M_error (d + 1)) : (rm_M_goTo).frames + 1 ≤ R.frames ∧ 8 + (2 + 11) + (rm_M_goTo).locals ≤ R.locals := by
  subst hR
  have h1 : (rm_M_goTo).frames = 1 := rfl
  have h2 : (rm_M_goTo).locals = 20 := rfl
  show (rm_M_goTo).frames + 1 ≤ 6 + (d + 1) ∧ 8 + (2 + 11) + (rm_M_goTo).locals ≤ 163 + 26 * (d + 1)
  omega
theorem rm_M_goesUp_M_guardFails {R : Room} {d : Nat} (hR : R = rg_M_error (d + 1)) : (rg_M_error d).frames + 1 ≤ R.frames ∧ 8 + (1 + 11) + (rg_M_error d).locals ≤ R.locals := by
  subst hR
  show 6 + d + 1 ≤ 6 + (d + 1) ∧ 8 + (1 + 11) + (163 + 26 * d) ≤ 163 + 26 * (d + 1)
  omega
def fb_M_goesUp_205 (N : Nat) (S : SG_M_error) (G : Unit) (u : MS) (v4 : Int32) : Option (MS × Unit) := ck (inb v4 (ln 103)) (ck (inb (u.2.2.1 103 v4.toNatClampNeg) (ln 25)) (bnd (fm_M_goTo N u (u.2.2.1 25 (u.2.2.1 103 v4.toNatClampNeg).toNatClampNeg)) (fun u1 _ => some (u1, ()))))
set_option maxRecDepth 100000 in
set_option maxHeartbeats 4000000 in
theorem wb_M_goesUp_205 {p : Program} {l : Launch} {e : Env} {R : Room} {s : State} {m : MethodId} {args : Array Value} {below : List Frame} {meth : Method} {c : Code} {D : va_G} {cl : List vw_C} {cB cI cJ cZ cS : ClassId} {A : Nat → Prop} {iM h0 : Nat} {ad : Nat → Nat} (C0 : MCx p s m args meth c b_M_goesUp 7 none D cl cB cI cJ cZ cS iM A) {d : Nat} (hR : R = rg_M_error (d + 1)) (N : Nat) (S : SG_M_error) (hSg : HS_M_error l D cl cB cI cJ cZ cS iM h0 ad (rg_M_error d) S) (G : Unit) (hG : True) : ∀ (u : MS) (v4 : Int32) (x : MS × Unit), fb_M_goesUp_205 N S G u v4 = some x → ∀ (H : Heap) (locs : List Loc), va_P D cl (wM cB cI cJ cZ cS iM h0 ad u) H → va_D A (wM cB cI cJ cZ cS iM h0 ad u) → va_S A s.heap H locs → ∀ (ls : Array Slot), lv_has ls 7 [(0, .ref h0), (4, .int v4)] → W p l e R s m args below meth c H locs 0 0 (MQ below (mQv D cl cB cI cJ cZ cS iM h0 ad A x) args s 0 0 A) (F0 m 205 ls []) := by
  intro u v4 x hf H locs hP hD hS ls hl
  obtain ⟨hx, hb, hr, hml, ht, hown, hM, hK, hA, hlocks⟩ := id C0
  unfold fb_M_goesUp_205 at hf
  refine lv_aload_n hx hb d_M_goesUp_205 rfl (lv_at hl 0 rfl) ?_
  refine lv_aload_n hx hb d_M_goesUp_206 rfl (lv_at hl 0 rfl) ?_
  refine ug_R hx hb ht hown hM hK hP 25 (by decide) lk_M_25 (by decide) d_M_goesUp_207 ?_
  refine lv_aload_n hx hb d_M_goesUp_210 rfl (lv_at hl 0 rfl) ?_
  refine ug_R hx hb ht hown hM hK hP 103 (by decide) lk_M_103 (by decide) d_M_goesUp_211 ?_
  refine lv_iload hx hb d_M_goesUp_214 (lv_at hl 1 rfl) ?_
  obtain ⟨hi9, hf⟩ := ck_some hf
  refine ul_I hx hb hK hP (by decide) (by decide) hi9 d_M_goesUp_216 ?_
  obtain ⟨hi9, hf⟩ := ck_some hf
  refine ul_I hx hb hK hP (by decide) (by decide) hi9 d_M_goesUp_217 ?_
  obtain ⟨u1, r1, hc1, hf⟩ := bnd_some hf
  refine mV_v (As := [.int (u.2.2.1 25 (u.2.2.1 103 v4.toNatClampNeg).toNatClampNeg)]) (rest := []) C0 hP hD hS (c_M_goTo N hM hc1) k_M_goTo hl_M_goTo hi_M_goTo hs_M_goTo hini_M rfl rfl hd_M_goTo rfl (rm_M_goesUp_M_goTo hR) hl.1 (Nat.le_of_ble_eq_true rfl) d_M_goesUp_218 rfl ⟨Nat.zero_le _, Nat.zero_le _⟩ (fun H locs hP hD hS => ?_)
  exact mr_v C0 hP hD hS hf d_M_goesUp_221
def fb_M_goesUp_197 (N : Nat) (S : SG_M_error) (G : Unit) (u : MS) (v4 : Int32) (v5 : Int64) (t2 : Int32) : Option (MS × Unit) := bnd (fm_M_two N u t2 v5) (fun u2 r2 => bnd (fm_M_put N u2 r2) (fun u3 _ => fb_M_goesUp_205 N S G u3 (v4)))
set_option maxRecDepth 100000 in
set_option maxHeartbeats 4000000 in
theorem wb_M_goesUp_197 {p : Program} {l : Launch} {e : Env} {R : Room} {s : State} {m : MethodId} {args : Array Value} {below : List Frame} {meth : Method} {c : Code} {D : va_G} {cl : List vw_C} {cB cI cJ cZ cS : ClassId} {A : Nat → Prop} {iM h0 : Nat} {ad : Nat → Nat} (C0 : MCx p s m args meth c b_M_goesUp 7 none D cl cB cI cJ cZ cS iM A) {d : Nat} (hR : R = rg_M_error (d + 1)) (N : Nat) (S : SG_M_error) (hSg : HS_M_error l D cl cB cI cJ cZ cS iM h0 ad (rg_M_error d) S) (G : Unit) (hG : True) : ∀ (u : MS) (v4 : Int32) (v5 : Int64) (t2 : Int32) (x : MS × Unit), fb_M_goesUp_197 N S G u v4 v5 t2 = some x → ∀ (H : Heap) (locs : List Loc), va_P D cl (wM cB cI cJ cZ cS iM h0 ad u) H → va_D A (wM cB cI cJ cZ cS iM h0 ad u) → va_S A s.heap H locs → ∀ (ls : Array Slot), lv_has ls 7 [(0, .ref h0), (4, .int v4), (5, .long v5)] → W p l e R s m args below meth c H locs 0 0 (MQ below (mQv D cl cB cI cJ cZ cS iM h0 ad A x) args s 0 0 A) (F0 m 197 ls [.int t2, .ref h0, .ref h0]) := by
  intro u v4 v5 t2 x hf H locs hP hD hS ls hl
  obtain ⟨hx, hb, hr, hml, ht, hown, hM, hK, hA, hlocks⟩ := id C0
  unfold fb_M_goesUp_197 at hf
  refine lv_lload hx hb d_M_goesUp_197 (lv_at hl 2 rfl) ?_
  obtain ⟨u2, r2, hc2, hf⟩ := bnd_some hf
  refine mV_l (As := [.int t2, .long v5]) (rest := [.ref h0]) C0 hP hD hS (c_M_two N hM hc2) k_M_two hl_M_two hi_M_two hs_M_two hini_M rfl rfl hd_M_two rfl (rm_M_goesUp_M_two hR) hl.1 (Nat.le_of_ble_eq_true rfl) d_M_goesUp_199 rfl ⟨Nat.zero_le _, Nat.zero_le _⟩ (fun H locs hP hD hS => ?_)
  obtain ⟨u3, r3, hc3, hf⟩ := bnd_some hf
  refine mV_v (As := [.long r2]) (rest := []) C0 hP hD hS (c_M_put N hM hc3) k_M_put hl_M_put hi_M_put hs_M_put hini_M rfl rfl hd_M_put rfl (rm_M_goesUp_M_put hR) hl.1 (Nat.le_of_ble_eq_true rfl) d_M_goesUp_202 rfl ⟨Nat.zero_le _, Nat.zero_le _⟩ (fun H locs hP hD hS => ?_)
  exact wb_M_goesUp_205 C0 hR N S hSg G hG _ _ _ hf H locs hP hD hS ls (lv_sub hl [0, 1] rfl)
def fb_M_goesUp_43 (N : Nat) (S : SG_M_error) (G : Unit) (u : MS) (v2 : Int64) (t1 : Int32) : Option (MS × Unit) := bnd (fm_M_ends N u t1 v2) (fun u4 _ => some (u4, ()))
set_option maxRecDepth 100000 in
set_option maxHeartbeats 4000000 in
theorem wb_M_goesUp_43 {p : Program} {l : Launch} {e : Env} {R : Room} {s : State} {m : MethodId} {args : Array Value} {below : List Frame} {meth : Method} {c : Code} {D : va_G} {cl : List vw_C} {cB cI cJ cZ cS : ClassId} {A : Nat → Prop} {iM h0 : Nat} {ad : Nat → Nat} (C0 : MCx p s m args meth c b_M_goesUp 7 none D cl cB cI cJ cZ cS iM A) {d : Nat} (hR : R = rg_M_error (d + 1)) (N : Nat) (S : SG_M_error) (hSg : HS_M_error l D cl cB cI cJ cZ cS iM h0 ad (rg_M_error d) S) (G : Unit) (hG : True) : ∀ (u : MS) (v2 : Int64) (t1 : Int32) (x : MS × Unit), fb_M_goesUp_43 N S G u v2 t1 = some x → ∀ (H : Heap) (locs : List Loc), va_P D cl (wM cB cI cJ cZ cS iM h0 ad u) H → va_D A (wM cB cI cJ cZ cS iM h0 ad u) → va_S A s.heap H locs → ∀ (ls : Array Slot), lv_has ls 7 [(2, .long v2)] → W p l e R s m args below meth c H locs 0 0 (MQ below (mQv D cl cB cI cJ cZ cS iM h0 ad A x) args s 0 0 A) (F0 m 43 ls [.int t1, .ref h0]) := by
  intro u v2 t1 x hf H locs hP hD hS ls hl
  obtain ⟨hx, hb, hr, hml, ht, hown, hM, hK, hA, hlocks⟩ := id C0
  unfold fb_M_goesUp_43 at hf
  refine lv_lload_n hx hb d_M_goesUp_43 rfl (lv_at hl 0 rfl) ?_
  obtain ⟨u4, r4, hc4, hf⟩ := bnd_some hf
  refine mV_v (As := [.int t1, .long v2]) (rest := []) C0 hP hD hS (c_M_ends N hM hc4) k_M_ends hl_M_ends hi_M_ends hs_M_ends hini_M rfl rfl hd_M_ends rfl (rm_M_goesUp_M_ends hR) hl.1 (Nat.le_of_ble_eq_true rfl) d_M_goesUp_44 rfl ⟨Nat.zero_le _, Nat.zero_le _⟩ (fun H locs hP hD hS => ?_)
  exact mr_v C0 hP hD hS hf d_M_goesUp_47
def fb_M_goesUp_0 (N : Nat) (S : SG_M_error) (G : Unit) (u : MS) (v1 : Int32) (v2 : Int64) : Option (MS × Unit) := br (decide ((u.1 152) = 0)) (ck (inb (u.1 133) (ln 106)) (br (decide ((u.2.2.1 106 (u.1 133).toNatClampNeg) = 0)) (br (decide (v1 = 0)) (fb_M_goesUp_43 N S G u (v2) (1)) (br (decide (v1 = 1)) (fb_M_goesUp_43 N S G u (v2) (0)) (fb_M_goesUp_43 N S G u (v2) (2)))) (ck (inb (u.1 133) (ln 106)) (ck (inb (u.1 133) (ln 106)) (lt (upA u 106 (upd (u.2.2.1 106) (u.1 133).toNatClampNeg ((u.2.2.1 106 (u.1 133).toNatClampNeg) - 1))) (fun w5 => ck (inb (w5.1 133) (ln 106)) (lt (((w5.1 133) * 1600) + (w5.2.2.1 106 (w5.1 133).toNatClampNeg)) (fun y6 => ck (inb y6 (ln 102)) (ck (inb (w5.1 133) (ln 95)) (lt (upA w5 95 (upd (w5.2.2.1 95) (w5.1 133).toNatClampNeg ((w5.2.2.1 102 y6.toNatClampNeg) + 1))) (fun w7 => ck (inb y6 (ln 104)) (ck (inb (w7.1 133) (ln 92)) (lt (upA w7 92 (upd (w7.2.2.1 92) (w7.1 133).toNatClampNeg (w7.2.2.1 104 y6.toNatClampNeg))) (fun w8 => ck (inb y6 (ln 105)) (ck (inb (w8.1 133) (ln 94)) (lt (upA w8 94 (upd (w8.2.2.1 94) (w8.1 133).toNatClampNeg (w8.2.2.1 105 y6.toNatClampNeg))) (fun w9 => br (decide (v1 = 2)) (bnd (fm_M_put N w9 v2) (fun u15 _ => fb_M_goesUp_205 N S G u15 (y6))) (bnd (fm_M_hand N w9 (w9.1 133) v2) (fun u10 _ => bnd (fm_M_wants N u10 (u10.1 133) 3) (fun u11 r11 => br (decide (r11 = 0)) (bnd (fm_M_handNone N u11) (fun u13 _ => bnd (fm_M_noRoom N u13) (fun u14 _ => some (u14, ())))) (bnd (fm_M_handNone N u11) (fun u12 _ => br (decide (v1 = 0)) (fb_M_goesUp_197 N S G u12 (y6) ((u11.2.1 139)) (7)) (fb_M_goesUp_197 N S G u12 (y6) ((u11.2.1 139)) (8)))))))))))))))))))))))) (bnd (S.2.2.2.2.1 u) (fun u16 _ => some (u16, ())))
set_option maxRecDepth 100000 in
set_option maxHeartbeats 4000000 in
theorem wb_M_goesUp_0 {p : Program} {l : Launch} {e : Env} {R : Room} {s : State} {m : MethodId} {args : Array Value} {below : List Frame} {meth : Method} {c : Code} {D : va_G} {cl : List vw_C} {cB cI cJ cZ cS : ClassId} {A : Nat → Prop} {iM h0 : Nat} {ad : Nat → Nat} (C0 : MCx p s m args meth c b_M_goesUp 7 none D cl cB cI cJ cZ cS iM A) {d : Nat} (hR : R = rg_M_error (d + 1)) (N : Nat) (S : SG_M_error) (hSg : HS_M_error l D cl cB cI cJ cZ cS iM h0 ad (rg_M_error d) S) (G : Unit) (hG : True) : ∀ (u : MS) (v1 : Int32) (v2 : Int64) (x : MS × Unit), fb_M_goesUp_0 N S G u v1 v2 = some x → ∀ (H : Heap) (locs : List Loc), va_P D cl (wM cB cI cJ cZ cS iM h0 ad u) H → va_D A (wM cB cI cJ cZ cS iM h0 ad u) → va_S A s.heap H locs → ∀ (ls : Array Slot), lv_has ls 7 [(0, .ref h0), (1, .int v1), (2, .long v2)] → W p l e R s m args below meth c H locs 0 0 (MQ below (mQv D cl cB cI cJ cZ cS iM h0 ad A x) args s 0 0 A) (F0 m 0 ls []) := by
  intro u v1 v2 x hf H locs hP hD hS ls hl
  obtain ⟨hx, hb, hr, hml, ht, hown, hM, hK, hA, hlocks⟩ := id C0
  unfold fb_M_goesUp_0 at hf
  refine lv_aload_n hx hb d_M_goesUp_0 rfl (lv_at hl 0 rfl) ?_
  refine ug_I hx hb ht hown hM hK hP 152 (by decide) lk_M_152 (by decide) d_M_goesUp_1 ?_
  refine lv_if_eq (tgt := 12) hx hb d_M_goesUp_4 (by decide) (fun hc => ?_) (fun hc => ?_)
  · rw [br_p _ hc] at hf
    refine lv_aload_n hx hb d_M_goesUp_12 rfl (lv_at hl 0 rfl) ?_
    refine ug_R hx hb ht hown hM hK hP 106 (by decide) lk_M_106 (by decide) d_M_goesUp_13 ?_
    refine lv_aload_n hx hb d_M_goesUp_16 rfl (lv_at hl 0 rfl) ?_
    refine ug_I hx hb ht hown hM hK hP 133 (by decide) lk_M_133 (by decide) d_M_goesUp_17 ?_
    obtain ⟨hi9, hf⟩ := ck_some hf
    refine ul_I hx hb hK hP (by decide) (by decide) hi9 d_M_goesUp_20 ?_
    refine lv_if_ne (tgt := 48) hx hb d_M_goesUp_21 (by decide) (fun hc => ?_) (fun hc => ?_)
    · rw [br_n _ hc] at hf
      refine lv_aload_n hx hb d_M_goesUp_48 rfl (lv_at hl 0 rfl) ?_
      refine ug_R hx hb ht hown hM hK hP 106 (by decide) lk_M_106 (by decide) d_M_goesUp_49 ?_
      refine lv_aload_n hx hb d_M_goesUp_52 rfl (lv_at hl 0 rfl) ?_
      refine ug_I hx hb ht hown hM hK hP 133 (by decide) lk_M_133 (by decide) d_M_goesUp_53 ?_
      refine lv_dup2_11 hx hb d_M_goesUp_56 rfl rfl ?_
      obtain ⟨hi9, hf⟩ := ck_some hf
      refine ul_I hx hb hK hP (by decide) (by decide) hi9 d_M_goesUp_57 ?_
      refine lv_iconst (v := 1) hx hb d_M_goesUp_58 (by decide) ?_
      refine lv_isub hx hb d_M_goesUp_59 ?_
      obtain ⟨hi9, hf⟩ := ck_some hf
      refine us_I hx hb hK hP hD hS (by decide) (by decide) hi9 d_M_goesUp_60 (fun H locs hP hD hS => ?_)
      obtain ⟨w5, e5, hf⟩ := lt_some hf
      rw [← e5] at hP hD
      refine lv_aload_n hx hb d_M_goesUp_61 rfl (lv_at hl 0 rfl) ?_
      refine ug_I hx hb ht hown hM hK hP 133 (by decide) lk_M_133 (by decide) d_M_goesUp_62 ?_
      refine lv_sipush (v := 1600) hx hb d_M_goesUp_65 (by decide) ?_
      refine lv_imul hx hb d_M_goesUp_68 ?_
      refine lv_aload_n hx hb d_M_goesUp_69 rfl (lv_at hl 0 rfl) ?_
      refine ug_R hx hb ht hown hM hK hP 106 (by decide) lk_M_106 (by decide) d_M_goesUp_70 ?_
      refine lv_aload_n hx hb d_M_goesUp_73 rfl (lv_at hl 0 rfl) ?_
      refine ug_I hx hb ht hown hM hK hP 133 (by decide) lk_M_133 (by decide) d_M_goesUp_74 ?_
      obtain ⟨hi9, hf⟩ := ck_some hf
      refine ul_I hx hb hK hP (by decide) (by decide) hi9 d_M_goesUp_77 ?_
      refine lv_iadd hx hb d_M_goesUp_78 ?_
      obtain ⟨y6, e6, hf⟩ := lt_some hf
      rw [← e6]
      refine lv_istore (lv' := [(4, .int y6), (0, .ref h0), (1, .int v1), (2, .long v2)]) hx hb d_M_goesUp_79 hl (by decide) rfl (fun ls hl => ?_)
      refine lv_aload_n hx hb d_M_goesUp_81 rfl (lv_at hl 1 rfl) ?_
      refine ug_R hx hb ht hown hM hK hP 95 (by decide) lk_M_95 (by decide) d_M_goesUp_82 ?_
      refine lv_aload_n hx hb d_M_goesUp_85 rfl (lv_at hl 1 rfl) ?_
      refine ug_I hx hb ht hown hM hK hP 133 (by decide) lk_M_133 (by decide) d_M_goesUp_86 ?_
      refine lv_aload_n hx hb d_M_goesUp_89 rfl (lv_at hl 1 rfl) ?_
      refine ug_R hx hb ht hown hM hK hP 102 (by decide) lk_M_102 (by decide) d_M_goesUp_90 ?_
      refine lv_iload hx hb d_M_goesUp_93 (lv_at hl 0 rfl) ?_
      obtain ⟨hi9, hf⟩ := ck_some hf
      refine ul_I hx hb hK hP (by decide) (by decide) hi9 d_M_goesUp_95 ?_
      refine lv_iconst (v := 1) hx hb d_M_goesUp_96 (by decide) ?_
      refine lv_iadd hx hb d_M_goesUp_97 ?_
      obtain ⟨hi9, hf⟩ := ck_some hf
      refine us_I hx hb hK hP hD hS (by decide) (by decide) hi9 d_M_goesUp_98 (fun H locs hP hD hS => ?_)
      obtain ⟨w7, e7, hf⟩ := lt_some hf
      rw [← e7] at hP hD
      refine lv_aload_n hx hb d_M_goesUp_99 rfl (lv_at hl 1 rfl) ?_
      refine ug_R hx hb ht hown hM hK hP 92 (by decide) lk_M_92 (by decide) d_M_goesUp_100 ?_
      refine lv_aload_n hx hb d_M_goesUp_103 rfl (lv_at hl 1 rfl) ?_
      refine ug_I hx hb ht hown hM hK hP 133 (by decide) lk_M_133 (by decide) d_M_goesUp_104 ?_
      refine lv_aload_n hx hb d_M_goesUp_107 rfl (lv_at hl 1 rfl) ?_
      refine ug_R hx hb ht hown hM hK hP 104 (by decide) lk_M_104 (by decide) d_M_goesUp_108 ?_
      refine lv_iload hx hb d_M_goesUp_111 (lv_at hl 0 rfl) ?_
      obtain ⟨hi9, hf⟩ := ck_some hf
      refine ul_I hx hb hK hP (by decide) (by decide) hi9 d_M_goesUp_113 ?_
      obtain ⟨hi9, hf⟩ := ck_some hf
      refine us_I hx hb hK hP hD hS (by decide) (by decide) hi9 d_M_goesUp_114 (fun H locs hP hD hS => ?_)
      obtain ⟨w8, e8, hf⟩ := lt_some hf
      rw [← e8] at hP hD
      refine lv_aload_n hx hb d_M_goesUp_115 rfl (lv_at hl 1 rfl) ?_
      refine ug_R hx hb ht hown hM hK hP 94 (by decide) lk_M_94 (by decide) d_M_goesUp_116 ?_
      refine lv_aload_n hx hb d_M_goesUp_119 rfl (lv_at hl 1 rfl) ?_
      refine ug_I hx hb ht hown hM hK hP 133 (by decide) lk_M_133 (by decide) d_M_goesUp_120 ?_
      refine lv_aload_n hx hb d_M_goesUp_123 rfl (lv_at hl 1 rfl) ?_
      refine ug_R hx hb ht hown hM hK hP 105 (by decide) lk_M_105 (by decide) d_M_goesUp_124 ?_
      refine lv_iload hx hb d_M_goesUp_127 (lv_at hl 0 rfl) ?_
      obtain ⟨hi9, hf⟩ := ck_some hf
      refine ul_I hx hb hK hP (by decide) (by decide) hi9 d_M_goesUp_129 ?_
      obtain ⟨hi9, hf⟩ := ck_some hf
      refine us_I hx hb hK hP hD hS (by decide) (by decide) hi9 d_M_goesUp_130 (fun H locs hP hD hS => ?_)
      obtain ⟨w9, e9, hf⟩ := lt_some hf
      rw [← e9] at hP hD
      refine lv_iload_n hx hb d_M_goesUp_131 rfl (lv_at hl 2 rfl) ?_
      refine lv_iconst (v := 2) hx hb d_M_goesUp_132 (by decide) ?_
      refine lv_icmp_ne (tgt := 144) hx hb d_M_goesUp_133 (by decide) (fun hc => ?_) (fun hc => ?_)
      · rw [br_n _ hc] at hf
        refine lv_aload_n hx hb d_M_goesUp_144 rfl (lv_at hl 1 rfl) ?_
        refine lv_aload_n hx hb d_M_goesUp_145 rfl (lv_at hl 1 rfl) ?_
        refine ug_I hx hb ht hown hM hK hP 133 (by decide) lk_M_133 (by decide) d_M_goesUp_146 ?_
        refine lv_lload_n hx hb d_M_goesUp_149 rfl (lv_at hl 3 rfl) ?_
        obtain ⟨u10, r10, hc10, hf⟩ := bnd_some hf
        refine mV_v (As := [.int (w9.1 133), .long v2]) (rest := []) C0 hP hD hS (c_M_hand N hM hc10) k_M_hand hl_M_hand hi_M_hand hs_M_hand hini_M rfl rfl hd_M_hand rfl (rm_M_goesUp_M_hand hR) hl.1 (Nat.le_of_ble_eq_true rfl) d_M_goesUp_150 rfl ⟨Nat.zero_le _, Nat.zero_le _⟩ (fun H locs hP hD hS => ?_)
        refine lv_aload_n hx hb d_M_goesUp_153 rfl (lv_at hl 1 rfl) ?_
        refine lv_aload_n hx hb d_M_goesUp_154 rfl (lv_at hl 1 rfl) ?_
        refine ug_I hx hb ht hown hM hK hP 133 (by decide) lk_M_133 (by decide) d_M_goesUp_155 ?_
        refine lv_iconst (v := 3) hx hb d_M_goesUp_158 (by decide) ?_
        obtain ⟨u11, r11, hc11, hf⟩ := bnd_some hf
        refine mV_i (As := [.int (u10.1 133), .int 3]) (rest := []) C0 hP hD hS (c_M_wants N hM hc11) k_M_wants hl_M_wants hi_M_wants hs_M_wants hini_M rfl rfl hd_M_wants rfl (rm_M_goesUp_M_wants hR) hl.1 (Nat.le_of_ble_eq_true rfl) d_M_goesUp_159 rfl ⟨Nat.zero_le _, Nat.zero_le _⟩ (fun H locs hP hD hS => ?_)
        refine lv_if_ne (tgt := 174) hx hb d_M_goesUp_162 (by decide) (fun hc => ?_) (fun hc => ?_)
        · rw [br_n _ hc] at hf
          refine lv_aload_n hx hb d_M_goesUp_174 rfl (lv_at hl 1 rfl) ?_
          refine ug_L hx hb ht hown hM hK hP 139 (by decide) lk_M_139 (by decide) d_M_goesUp_175 ?_
          refine lv_lstore (lv' := [(5, .long (u11.2.1 139)), (4, .int y6), (0, .ref h0), (1, .int v1), (2, .long v2)]) hx hb d_M_goesUp_178 hl (by decide) rfl (fun ls hl => ?_)
          refine lv_aload_n hx hb d_M_goesUp_180 rfl (lv_at hl 2 rfl) ?_
          obtain ⟨u12, r12, hc12, hf⟩ := bnd_some hf
          refine mV_v (As := []) (rest := []) C0 hP hD hS (c_M_handNone N hM hc12) k_M_handNone hl_M_handNone hi_M_handNone hs_M_handNone hini_M rfl rfl hd_M_handNone rfl (rm_M_goesUp_M_handNone hR) hl.1 (Nat.le_of_ble_eq_true rfl) d_M_goesUp_181 rfl ⟨Nat.zero_le _, Nat.zero_le _⟩ (fun H locs hP hD hS => ?_)
          refine lv_aload_n hx hb d_M_goesUp_184 rfl (lv_at hl 2 rfl) ?_
          refine lv_aload_n hx hb d_M_goesUp_185 rfl (lv_at hl 2 rfl) ?_
          refine lv_iload_n hx hb d_M_goesUp_186 rfl (lv_at hl 3 rfl) ?_
          refine lv_if_ne (tgt := 195) hx hb d_M_goesUp_187 (by decide) (fun hc => ?_) (fun hc => ?_)
          · rw [br_n _ hc] at hf
            refine lv_bipush (v := 8) hx hb d_M_goesUp_195 (by decide) ?_
            exact wb_M_goesUp_197 C0 hR N S hSg G hG _ _ _ _ _ hf H locs hP hD hS ls (lv_sub hl [2, 1, 0] rfl)
          · rw [br_p _ hc] at hf
            refine lv_bipush (v := 7) hx hb d_M_goesUp_190 (by decide) ?_
            refine lv_goto (tgt := 197) hx hb d_M_goesUp_192 (by decide) ?_
            exact wb_M_goesUp_197 C0 hR N S hSg G hG _ _ _ _ _ hf H locs hP hD hS ls (lv_sub hl [2, 1, 0] rfl)
        · rw [br_p _ hc] at hf
          refine lv_aload_n hx hb d_M_goesUp_165 rfl (lv_at hl 1 rfl) ?_
          obtain ⟨u13, r13, hc13, hf⟩ := bnd_some hf
          refine mV_v (As := []) (rest := []) C0 hP hD hS (c_M_handNone N hM hc13) k_M_handNone hl_M_handNone hi_M_handNone hs_M_handNone hini_M rfl rfl hd_M_handNone rfl (rm_M_goesUp_M_handNone hR) hl.1 (Nat.le_of_ble_eq_true rfl) d_M_goesUp_166 rfl ⟨Nat.zero_le _, Nat.zero_le _⟩ (fun H locs hP hD hS => ?_)
          refine lv_aload_n hx hb d_M_goesUp_169 rfl (lv_at hl 1 rfl) ?_
          obtain ⟨u14, r14, hc14, hf⟩ := bnd_some hf
          refine mV_v (As := []) (rest := []) C0 hP hD hS (c_M_noRoom N hM hc14) k_M_noRoom hl_M_noRoom hi_M_noRoom hs_M_noRoom hini_M rfl rfl hd_M_noRoom rfl (rm_M_goesUp_M_noRoom hR) hl.1 (Nat.le_of_ble_eq_true rfl) d_M_goesUp_170 rfl ⟨Nat.zero_le _, Nat.zero_le _⟩ (fun H locs hP hD hS => ?_)
          exact mr_v C0 hP hD hS hf d_M_goesUp_173
      · rw [br_p _ hc] at hf
        refine lv_aload_n hx hb d_M_goesUp_136 rfl (lv_at hl 1 rfl) ?_
        refine lv_lload_n hx hb d_M_goesUp_137 rfl (lv_at hl 3 rfl) ?_
        obtain ⟨u15, r15, hc15, hf⟩ := bnd_some hf
        refine mV_v (As := [.long v2]) (rest := []) C0 hP hD hS (c_M_put N hM hc15) k_M_put hl_M_put hi_M_put hs_M_put hini_M rfl rfl hd_M_put rfl (rm_M_goesUp_M_put hR) hl.1 (Nat.le_of_ble_eq_true rfl) d_M_goesUp_138 rfl ⟨Nat.zero_le _, Nat.zero_le _⟩ (fun H locs hP hD hS => ?_)
        refine lv_goto (tgt := 205) hx hb d_M_goesUp_141 (by decide) ?_
        exact wb_M_goesUp_205 C0 hR N S hSg G hG _ _ _ hf H locs hP hD hS ls (lv_sub hl [1, 0] rfl)
    · rw [br_p _ hc] at hf
      refine lv_aload_n hx hb d_M_goesUp_24 rfl (lv_at hl 0 rfl) ?_
      refine lv_iload_n hx hb d_M_goesUp_25 rfl (lv_at hl 1 rfl) ?_
      refine lv_if_ne (tgt := 33) hx hb d_M_goesUp_26 (by decide) (fun hc => ?_) (fun hc => ?_)
      · rw [br_n _ hc] at hf
        refine lv_iload_n hx hb d_M_goesUp_33 rfl (lv_at hl 1 rfl) ?_
        refine lv_iconst (v := 1) hx hb d_M_goesUp_34 (by decide) ?_
        refine lv_icmp_ne (tgt := 42) hx hb d_M_goesUp_35 (by decide) (fun hc => ?_) (fun hc => ?_)
        · rw [br_n _ hc] at hf
          refine lv_iconst (v := 2) hx hb d_M_goesUp_42 (by decide) ?_
          exact wb_M_goesUp_43 C0 hR N S hSg G hG _ _ _ _ hf H locs hP hD hS ls (lv_sub hl [2] rfl)
        · rw [br_p _ hc] at hf
          refine lv_iconst (v := 0) hx hb d_M_goesUp_38 (by decide) ?_
          refine lv_goto (tgt := 43) hx hb d_M_goesUp_39 (by decide) ?_
          exact wb_M_goesUp_43 C0 hR N S hSg G hG _ _ _ _ hf H locs hP hD hS ls (lv_sub hl [2] rfl)
      · rw [br_p _ hc] at hf
        refine lv_iconst (v := 1) hx hb d_M_goesUp_29 (by decide) ?_
        refine lv_goto (tgt := 43) hx hb d_M_goesUp_30 (by decide) ?_
        exact wb_M_goesUp_43 C0 hR N S hSg G hG _ _ _ _ hf H locs hP hD hS ls (lv_sub hl [2] rfl)
  · rw [br_n _ hc] at hf
    refine lv_aload_n hx hb d_M_goesUp_7 rfl (lv_at hl 0 rfl) ?_
    obtain ⟨u16, r16, hc16, hf⟩ := bnd_some hf
    refine mV_v (As := []) (rest := []) C0 hP hD hS (hSg.2.2.2.2.1 _ _ _ hc16) k_M_guardFails hl_M_guardFails hi_M_guardFails hs_M_guardFails hini_M rfl rfl hd_M_guardFails rfl (rm_M_goesUp_M_guardFails hR) hl.1 (Nat.le_of_ble_eq_true rfl) d_M_goesUp_8 rfl ⟨Nat.zero_le _, Nat.zero_le _⟩ (fun H locs hP hD hS => ?_)
    exact mr_v C0 hP hD hS hf d_M_goesUp_11
def fm_M_goesUp (N : Nat) (S : SG_M_error) (u : MS) (v1 : Int32) (v2 : Int64) : Option (MS × Unit) := fb_M_goesUp_0 N S () u v1 v2
set_option maxRecDepth 100000 in
set_option maxHeartbeats 4000000 in
theorem cs_M_goesUp (N : Nat) {d : Nat} {l : Launch} {D : va_G} {cl : List vw_C} {cB cI cJ cZ cS : ClassId} {iM h0 : Nat} {ad : Nat → Nat} {u : MS} {sz : Nat} {v1 : Int32} {v2 : Int64} {x : MS × Unit} (hM : cl[iM]? = some (R_M, F_M, 171)) (S : SG_M_error) (hSg : HS_M_error l D cl cB cI cJ cZ cS iM h0 ad (rg_M_error d) S) (hf : fm_M_goesUp N S u v1 v2 = some x) : Met l y_M_goesUp (wd_ws y_M_goesUp b_M_goesUp 7 none) (rg_M_error (d + 1)) (mPc D cl cB cI cJ cZ cS iM h0 ad u sz [.ref h0, .int v1, .long v2]) (mQv D cl cB cI cJ cZ cS iM h0 ad (mA cB cI cJ cZ cS iM h0 ad u sz) x) 0 0 (mA cB cI cJ cZ cS iM h0 ad u sz) :=
  mMet (by decide) rfl hM (Nat.le_of_ble_eq_true rfl) (fun p e s m below meth c ls hsz C0 hP hD hS hl => by
    have hR : (rg_M_error (d + 1)) = (rg_M_error (d + 1)) := rfl
    exact wb_M_goesUp_0 C0 hR N S hSg () trivial u _ _ x hf s.heap [] hP hD hS ls (lv_sub hl [0, 1, 2] rfl))
def rc_M_error (N : Nat) : Nat → (SG_M_error)
  | 0 => (fun _ _ => none, fun _ _ _ => none, fun _ => none, fun _ => none, fun _ => none, fun _ _ _ => none)
  | d + 1 => (fm_M_error N (rc_M_error N d), fm_M_errorOf N (rc_M_error N d), fm_M_nonePart N (rc_M_error N d), fm_M_choose N (rc_M_error N d), fm_M_guardFails N (rc_M_error N d), fm_M_goesUp N (rc_M_error N d))
theorem cg_M_error (N : Nat) {l : Launch} {D : va_G} {cl : List vw_C} {cB cI cJ cZ cS : ClassId} {iM h0 : Nat} {ad : Nat → Nat} (hM : cl[iM]? = some (R_M, F_M, 171)) : ∀ d : Nat, HS_M_error l D cl cB cI cJ cZ cS iM h0 ad (rg_M_error d) (rc_M_error N d)
  | 0 => ⟨(fun u _ x sz hf => by cases hf), (fun u _ _ x sz hf => by cases hf), (fun u x sz hf => by cases hf), (fun u x sz hf => by cases hf), (fun u x sz hf => by cases hf), (fun u _ _ x sz hf => by cases hf)⟩
  | d + 1 => ⟨(fun u _ x sz hf => cs_M_error N hM (rc_M_error N d) (cg_M_error N hM d) hf), (fun u _ _ x sz hf => cs_M_errorOf N hM (rc_M_error N d) (cg_M_error N hM d) hf), (fun u x sz hf => cs_M_nonePart N hM (rc_M_error N d) (cg_M_error N hM d) hf), (fun u x sz hf => cs_M_choose N hM (rc_M_error N d) (cg_M_error N hM d) hf), (fun u x sz hf => cs_M_guardFails N hM (rc_M_error N d) (cg_M_error N hM d) hf), (fun u _ _ x sz hf => cs_M_goesUp N hM (rc_M_error N d) (cg_M_error N hM d) hf)⟩
def fr_M_error (N : Nat) (u : MS) (v1 : Int32) : Option (MS × Unit) := (rc_M_error N 20).1 u v1
def rm_M_error : Room := rg_M_error 20
theorem c_M_error (N : Nat) {l : Launch} {D : va_G} {cl : List vw_C} {cB cI cJ cZ cS : ClassId} {iM h0 : Nat} {ad : Nat → Nat} {u : MS} {sz : Nat} {v1 : Int32} {x : MS × Unit} (hM : cl[iM]? = some (R_M, F_M, 171)) (hf : fr_M_error N u v1 = some x) : Met l y_M_error (wd_ws y_M_error b_M_error 2 none) rm_M_error (mPc D cl cB cI cJ cZ cS iM h0 ad u sz [.ref h0, .int v1]) (mQv D cl cB cI cJ cZ cS iM h0 ad (mA cB cI cJ cZ cS iM h0 ad u sz) x) 0 0 (mA cB cI cJ cZ cS iM h0 ad u sz) := (cg_M_error N hM 20).1 _ _ _ _ hf
def fr_M_errorOf (N : Nat) (u : MS) (v1 : Int32) (v2 : Int64) : Option (MS × Unit) := (rc_M_error N 20).2.1 u v1 v2
def rm_M_errorOf : Room := rg_M_error 20
theorem c_M_errorOf (N : Nat) {l : Launch} {D : va_G} {cl : List vw_C} {cB cI cJ cZ cS : ClassId} {iM h0 : Nat} {ad : Nat → Nat} {u : MS} {sz : Nat} {v1 : Int32} {v2 : Int64} {x : MS × Unit} (hM : cl[iM]? = some (R_M, F_M, 171)) (hf : fr_M_errorOf N u v1 v2 = some x) : Met l y_M_errorOf (wd_ws y_M_errorOf b_M_errorOf 7 none) rm_M_errorOf (mPc D cl cB cI cJ cZ cS iM h0 ad u sz [.ref h0, .int v1, .long v2]) (mQv D cl cB cI cJ cZ cS iM h0 ad (mA cB cI cJ cZ cS iM h0 ad u sz) x) 0 0 (mA cB cI cJ cZ cS iM h0 ad u sz) := (cg_M_error N hM 20).2.1 _ _ _ _ _ hf
def fr_M_nonePart (N : Nat) (u : MS) : Option (MS × Int32) := (rc_M_error N 20).2.2.1 u
def rm_M_nonePart : Room := rg_M_error 20
theorem c_M_nonePart (N : Nat) {l : Launch} {D : va_G} {cl : List vw_C} {cB cI cJ cZ cS : ClassId} {iM h0 : Nat} {ad : Nat → Nat} {u : MS} {sz : Nat} {x : MS × Int32} (hM : cl[iM]? = some (R_M, F_M, 171)) (hf : fr_M_nonePart N u = some x) : Met l y_M_nonePart (wd_ws y_M_nonePart b_M_nonePart 1 (some .boolean)) rm_M_nonePart (mPc D cl cB cI cJ cZ cS iM h0 ad u sz [.ref h0]) (mQi D cl cB cI cJ cZ cS iM h0 ad (mA cB cI cJ cZ cS iM h0 ad u sz) x) 0 0 (mA cB cI cJ cZ cS iM h0 ad u sz) := (cg_M_error N hM 20).2.2.1 _ _ _ hf
def fr_M_choose (N : Nat) (u : MS) : Option (MS × Unit) := (rc_M_error N 20).2.2.2.1 u
def rm_M_choose : Room := rg_M_error 20
theorem c_M_choose (N : Nat) {l : Launch} {D : va_G} {cl : List vw_C} {cB cI cJ cZ cS : ClassId} {iM h0 : Nat} {ad : Nat → Nat} {u : MS} {sz : Nat} {x : MS × Unit} (hM : cl[iM]? = some (R_M, F_M, 171)) (hf : fr_M_choose N u = some x) : Met l y_M_choose (wd_ws y_M_choose b_M_choose 2 none) rm_M_choose (mPc D cl cB cI cJ cZ cS iM h0 ad u sz [.ref h0]) (mQv D cl cB cI cJ cZ cS iM h0 ad (mA cB cI cJ cZ cS iM h0 ad u sz) x) 0 0 (mA cB cI cJ cZ cS iM h0 ad u sz) := (cg_M_error N hM 20).2.2.2.1 _ _ _ hf
def fr_M_guardFails (N : Nat) (u : MS) : Option (MS × Unit) := (rc_M_error N 20).2.2.2.2.1 u
def rm_M_guardFails : Room := rg_M_error 20
theorem c_M_guardFails (N : Nat) {l : Launch} {D : va_G} {cl : List vw_C} {cB cI cJ cZ cS : ClassId} {iM h0 : Nat} {ad : Nat → Nat} {u : MS} {sz : Nat} {x : MS × Unit} (hM : cl[iM]? = some (R_M, F_M, 171)) (hf : fr_M_guardFails N u = some x) : Met l y_M_guardFails (wd_ws y_M_guardFails b_M_guardFails 1 none) rm_M_guardFails (mPc D cl cB cI cJ cZ cS iM h0 ad u sz [.ref h0]) (mQv D cl cB cI cJ cZ cS iM h0 ad (mA cB cI cJ cZ cS iM h0 ad u sz) x) 0 0 (mA cB cI cJ cZ cS iM h0 ad u sz) := (cg_M_error N hM 20).2.2.2.2.1 _ _ _ hf
def fr_M_goesUp (N : Nat) (u : MS) (v1 : Int32) (v2 : Int64) : Option (MS × Unit) := (rc_M_error N 20).2.2.2.2.2 u v1 v2
def rm_M_goesUp : Room := rg_M_error 20
theorem c_M_goesUp (N : Nat) {l : Launch} {D : va_G} {cl : List vw_C} {cB cI cJ cZ cS : ClassId} {iM h0 : Nat} {ad : Nat → Nat} {u : MS} {sz : Nat} {v1 : Int32} {v2 : Int64} {x : MS × Unit} (hM : cl[iM]? = some (R_M, F_M, 171)) (hf : fr_M_goesUp N u v1 v2 = some x) : Met l y_M_goesUp (wd_ws y_M_goesUp b_M_goesUp 7 none) rm_M_goesUp (mPc D cl cB cI cJ cZ cS iM h0 ad u sz [.ref h0, .int v1, .long v2]) (mQv D cl cB cI cJ cZ cS iM h0 ad (mA cB cI cJ cZ cS iM h0 ad u sz) x) 0 0 (mA cB cI cJ cZ cS iM h0 ad u sz) := (cg_M_error N hM 20).2.2.2.2.2 _ _ _ _ _ hf
abbrev b_M_namesTo : ByteArray := prog_14_method_124_code
def y_M_namesTo : MethodName := ⟨R_M, "namesTo", "(I)V"⟩
def w_M_namesTo : List Cond := wd_ws y_M_namesTo b_M_namesTo 3 none
set_option maxRecDepth 100000 in
theorem k_M_namesTo : Cond.code y_M_namesTo b_M_namesTo 3 none ∈ wd_tbl := wd_of 3217 rfl rfl
theorem d_M_namesTo_0 : decode b_M_namesTo 0 = .ok (.aload_n 0, 1) := by decide +kernel
theorem d_M_namesTo_1 : decode b_M_namesTo 1 = .ok (.invokevirtual 673, 3) := by decide +kernel
theorem d_M_namesTo_4 : decode b_M_namesTo 4 = .ok (.istore_n 2, 1) := by decide +kernel
theorem d_M_namesTo_5 : decode b_M_namesTo 5 = .ok (.aload_n 0, 1) := by decide +kernel
theorem d_M_namesTo_6 : decode b_M_namesTo 6 = .ok (.getfield 209, 3) := by decide +kernel
theorem d_M_namesTo_9 : decode b_M_namesTo 9 = .ok (.aload_n 0, 1) := by decide +kernel
theorem d_M_namesTo_10 : decode b_M_namesTo 10 = .ok (.getfield 669, 3) := by decide +kernel
theorem d_M_namesTo_13 : decode b_M_namesTo 13 = .ok (.aload_n 0, 1) := by decide +kernel
theorem d_M_namesTo_14 : decode b_M_namesTo 14 = .ok (.getfield 224, 3) := by decide +kernel
theorem d_M_namesTo_17 : decode b_M_namesTo 17 = .ok (.iload_n 2, 1) := by decide +kernel
theorem d_M_namesTo_18 : decode b_M_namesTo 18 = .ok (.iaload, 1) := by decide +kernel
theorem d_M_namesTo_19 : decode b_M_namesTo 19 = .ok (.aload_n 0, 1) := by decide +kernel
theorem d_M_namesTo_20 : decode b_M_namesTo 20 = .ok (.getfield 230, 3) := by decide +kernel
theorem d_M_namesTo_23 : decode b_M_namesTo 23 = .ok (.iload_n 2, 1) := by decide +kernel
theorem d_M_namesTo_24 : decode b_M_namesTo 24 = .ok (.iaload, 1) := by decide +kernel
theorem d_M_namesTo_25 : decode b_M_namesTo 25 = .ok (.iadd, 1) := by decide +kernel
theorem d_M_namesTo_26 : decode b_M_namesTo 26 = .ok (.iload_n 1, 1) := by decide +kernel
theorem d_M_namesTo_27 : decode b_M_namesTo 27 = .ok (.iadd, 1) := by decide +kernel
theorem d_M_namesTo_28 : decode b_M_namesTo 28 = .ok (.iastore, 1) := by decide +kernel
theorem d_M_namesTo_29 : decode b_M_namesTo 29 = .ok (.return_, 1) := by decide +kernel
set_option maxRecDepth 100000 in
theorem hl_M_namesTo : Cond.methodLink R_M 934 y_M_namesTo ∈ wd_tbl := wd_of 3214 (by decide +kernel) rfl
set_option maxRecDepth 100000 in
theorem hi_M_namesTo : Cond.instanceMethod y_M_namesTo ∈ wd_tbl := wd_of 3216 (by decide +kernel) rfl
set_option maxRecDepth 100000 in
theorem hs_M_namesTo : Cond.selects R_M y_M_namesTo y_M_namesTo ∈ wd_tbl := wd_of 258 (by decide +kernel) rfl
theorem hd_M_namesTo : y_M_namesTo.cls = R_M ∧ y_M_namesTo.cls ≠ "java/lang/invoke/MethodHandle" ∧ y_M_namesTo.cls ≠ "java/lang/invoke/VarHandle" ∧ (parseMethodDescriptor y_M_namesTo.desc).map (fun d => d.parameters.length) = some 1 := by decide +kernel
def rm_M_namesTo : Room := { frames := 1, cells := 0, slots := 0, locals := 20 }
theorem rm_M_namesTo_M_frame0 {R : Room} (hR : R = rm_M_namesTo) : (rm_M_frame0).frames + 1 ≤ R.frames ∧ 8 + (1 + 11) + (rm_M_frame0).locals ≤ R.locals := by subst hR; decide
def fb_M_namesTo_0 (N : Nat) (G : Unit) (u : MS) (v1 : Int32) : Option (MS × Unit) := bnd (fm_M_frame0 N u) (fun u1 r1 => ck (inb r1 (ln 99)) (ck (inb r1 (ln 101)) (ck (inb (u1.1 133) (ln 94)) (lt (upA u1 94 (upd (u1.2.2.1 94) (u1.1 133).toNatClampNeg (((u1.2.2.1 99 r1.toNatClampNeg) + (u1.2.2.1 101 r1.toNatClampNeg)) + v1))) (fun w2 => some (w2, ()))))))
set_option maxRecDepth 100000 in
set_option maxHeartbeats 4000000 in
theorem wb_M_namesTo_0 {p : Program} {l : Launch} {e : Env} {R : Room} {s : State} {m : MethodId} {args : Array Value} {below : List Frame} {meth : Method} {c : Code} {D : va_G} {cl : List vw_C} {cB cI cJ cZ cS : ClassId} {A : Nat → Prop} {iM h0 : Nat} {ad : Nat → Nat} (C0 : MCx p s m args meth c b_M_namesTo 3 none D cl cB cI cJ cZ cS iM A) (hR : R = rm_M_namesTo) (N : Nat) (G : Unit) (hG : True) : ∀ (u : MS) (v1 : Int32) (x : MS × Unit), fb_M_namesTo_0 N G u v1 = some x → ∀ (H : Heap) (locs : List Loc), va_P D cl (wM cB cI cJ cZ cS iM h0 ad u) H → va_D A (wM cB cI cJ cZ cS iM h0 ad u) → va_S A s.heap H locs → ∀ (ls : Array Slot), lv_has ls 3 [(0, .ref h0), (1, .int v1)] → W p l e R s m args below meth c H locs 0 0 (MQ below (mQv D cl cB cI cJ cZ cS iM h0 ad A x) args s 0 0 A) (F0 m 0 ls []) := by
  intro u v1 x hf H locs hP hD hS ls hl
  obtain ⟨hx, hb, hr, hml, ht, hown, hM, hK, hA, hlocks⟩ := id C0
  unfold fb_M_namesTo_0 at hf
  refine lv_aload_n hx hb d_M_namesTo_0 rfl (lv_at hl 0 rfl) ?_
  obtain ⟨u1, r1, hc1, hf⟩ := bnd_some hf
  refine mV_i (As := []) (rest := []) C0 hP hD hS (c_M_frame0 N hM hc1) k_M_frame0 hl_M_frame0 hi_M_frame0 hs_M_frame0 hini_M rfl rfl hd_M_frame0 rfl (rm_M_namesTo_M_frame0 hR) hl.1 (Nat.le_of_ble_eq_true rfl) d_M_namesTo_1 rfl ⟨Nat.zero_le _, Nat.zero_le _⟩ (fun H locs hP hD hS => ?_)
  refine lv_istore_n (lv' := [(2, .int r1), (0, .ref h0), (1, .int v1)]) hx hb d_M_namesTo_4 rfl hl (by decide) rfl (fun ls hl => ?_)
  refine lv_aload_n hx hb d_M_namesTo_5 rfl (lv_at hl 1 rfl) ?_
  refine ug_R hx hb ht hown hM hK hP 94 (by decide) lk_M_94 (by decide) d_M_namesTo_6 ?_
  refine lv_aload_n hx hb d_M_namesTo_9 rfl (lv_at hl 1 rfl) ?_
  refine ug_I hx hb ht hown hM hK hP 133 (by decide) lk_M_133 (by decide) d_M_namesTo_10 ?_
  refine lv_aload_n hx hb d_M_namesTo_13 rfl (lv_at hl 1 rfl) ?_
  refine ug_R hx hb ht hown hM hK hP 99 (by decide) lk_M_99 (by decide) d_M_namesTo_14 ?_
  refine lv_iload_n hx hb d_M_namesTo_17 rfl (lv_at hl 0 rfl) ?_
  obtain ⟨hi9, hf⟩ := ck_some hf
  refine ul_I hx hb hK hP (by decide) (by decide) hi9 d_M_namesTo_18 ?_
  refine lv_aload_n hx hb d_M_namesTo_19 rfl (lv_at hl 1 rfl) ?_
  refine ug_R hx hb ht hown hM hK hP 101 (by decide) lk_M_101 (by decide) d_M_namesTo_20 ?_
  refine lv_iload_n hx hb d_M_namesTo_23 rfl (lv_at hl 0 rfl) ?_
  obtain ⟨hi9, hf⟩ := ck_some hf
  refine ul_I hx hb hK hP (by decide) (by decide) hi9 d_M_namesTo_24 ?_
  refine lv_iadd hx hb d_M_namesTo_25 ?_
  refine lv_iload_n hx hb d_M_namesTo_26 rfl (lv_at hl 2 rfl) ?_
  refine lv_iadd hx hb d_M_namesTo_27 ?_
  obtain ⟨hi9, hf⟩ := ck_some hf
  refine us_I hx hb hK hP hD hS (by decide) (by decide) hi9 d_M_namesTo_28 (fun H locs hP hD hS => ?_)
  obtain ⟨w2, e2, hf⟩ := lt_some hf
  rw [← e2] at hP hD
  exact mr_v C0 hP hD hS hf d_M_namesTo_29
def fm_M_namesTo (N : Nat) (u : MS) (v1 : Int32) : Option (MS × Unit) := fb_M_namesTo_0 N () u v1
set_option maxRecDepth 100000 in
set_option maxHeartbeats 4000000 in
theorem c_M_namesTo (N : Nat) {l : Launch} {D : va_G} {cl : List vw_C} {cB cI cJ cZ cS : ClassId} {iM h0 : Nat} {ad : Nat → Nat} {u : MS} {sz : Nat} {v1 : Int32} {x : MS × Unit} (hM : cl[iM]? = some (R_M, F_M, 171)) (hf : fm_M_namesTo N u v1 = some x) : Met l y_M_namesTo (wd_ws y_M_namesTo b_M_namesTo 3 none) rm_M_namesTo (mPc D cl cB cI cJ cZ cS iM h0 ad u sz [.ref h0, .int v1]) (mQv D cl cB cI cJ cZ cS iM h0 ad (mA cB cI cJ cZ cS iM h0 ad u sz) x) 0 0 (mA cB cI cJ cZ cS iM h0 ad u sz) :=
  mMet (by decide) rfl hM (Nat.le_of_ble_eq_true rfl) (fun p e s m below meth c ls hsz C0 hP hD hS hl => by
    have hR : rm_M_namesTo = rm_M_namesTo := rfl
    exact wb_M_namesTo_0 C0 hR N () trivial u _ x hf s.heap [] hP hD hS ls (lv_sub hl [0, 1] rfl))
abbrev b_M_tryFrom : ByteArray := prog_14_method_125_code
def y_M_tryFrom : MethodName := ⟨R_M, "tryFrom", "(III)V"⟩
def w_M_tryFrom : List Cond := wd_ws y_M_tryFrom b_M_tryFrom 4 none
set_option maxRecDepth 100000 in
theorem k_M_tryFrom : Cond.code y_M_tryFrom b_M_tryFrom 4 none ∈ wd_tbl := wd_of 2919 rfl rfl
theorem d_M_tryFrom_0 : decode b_M_tryFrom 0 = .ok (.aload_n 0, 1) := by decide +kernel
theorem d_M_tryFrom_1 : decode b_M_tryFrom 1 = .ok (.iload_n 1, 1) := by decide +kernel
theorem d_M_tryFrom_2 : decode b_M_tryFrom 2 = .ok (.putfield 838, 3) := by decide +kernel
theorem d_M_tryFrom_5 : decode b_M_tryFrom 5 = .ok (.aload_n 0, 1) := by decide +kernel
theorem d_M_tryFrom_6 : decode b_M_tryFrom 6 = .ok (.iload_n 2, 1) := by decide +kernel
theorem d_M_tryFrom_7 : decode b_M_tryFrom 7 = .ok (.putfield 852, 3) := by decide +kernel
theorem d_M_tryFrom_10 : decode b_M_tryFrom 10 = .ok (.aload_n 0, 1) := by decide +kernel
theorem d_M_tryFrom_11 : decode b_M_tryFrom 11 = .ok (.iload_n 2, 1) := by decide +kernel
theorem d_M_tryFrom_12 : decode b_M_tryFrom 12 = .ok (.putfield 820, 3) := by decide +kernel
theorem d_M_tryFrom_15 : decode b_M_tryFrom 15 = .ok (.aload_n 0, 1) := by decide +kernel
theorem d_M_tryFrom_16 : decode b_M_tryFrom 16 = .ok (.iload_n 3, 1) := by decide +kernel
theorem d_M_tryFrom_17 : decode b_M_tryFrom 17 = .ok (.putfield 826, 3) := by decide +kernel
theorem d_M_tryFrom_20 : decode b_M_tryFrom 20 = .ok (.aload_n 0, 1) := by decide +kernel
theorem d_M_tryFrom_21 : decode b_M_tryFrom 21 = .ok (.invokevirtual 823, 3) := by decide +kernel
theorem d_M_tryFrom_24 : decode b_M_tryFrom 24 = .ok (.return_, 1) := by decide +kernel
set_option maxRecDepth 100000 in
theorem hl_M_tryFrom : Cond.methodLink R_M 876 y_M_tryFrom ∈ wd_tbl := wd_of 2916 (by decide +kernel) rfl
set_option maxRecDepth 100000 in
theorem hi_M_tryFrom : Cond.instanceMethod y_M_tryFrom ∈ wd_tbl := wd_of 2918 (by decide +kernel) rfl
set_option maxRecDepth 100000 in
theorem hs_M_tryFrom : Cond.selects R_M y_M_tryFrom y_M_tryFrom ∈ wd_tbl := wd_of 190 (by decide +kernel) rfl
theorem hd_M_tryFrom : y_M_tryFrom.cls = R_M ∧ y_M_tryFrom.cls ≠ "java/lang/invoke/MethodHandle" ∧ y_M_tryFrom.cls ≠ "java/lang/invoke/VarHandle" ∧ (parseMethodDescriptor y_M_tryFrom.desc).map (fun d => d.parameters.length) = some 3 := by decide +kernel
def rm_M_tryFrom : Room := { frames := 27, cells := 0, slots := 0, locals := 704 }
theorem rm_M_tryFrom_M_choose {R : Room} (hR : R = rm_M_tryFrom) : (rm_M_choose).frames + 1 ≤ R.frames ∧ 8 + (2 + 11) + (rm_M_choose).locals ≤ R.locals := by subst hR; decide
def fb_M_tryFrom_0 (N : Nat) (G : Unit) (u : MS) (v1 : Int32) (v2 : Int32) (v3 : Int32) : Option (MS × Unit) := lt (upI u 153 v1) (fun w1 => lt (upI w1 155 v2) (fun w2 => lt (upI w2 154 v2) (fun w3 => lt (upI w3 156 v3) (fun w4 => bnd (fr_M_choose N w4) (fun u5 _ => some (u5, ()))))))
set_option maxRecDepth 100000 in
set_option maxHeartbeats 4000000 in
theorem wb_M_tryFrom_0 {p : Program} {l : Launch} {e : Env} {R : Room} {s : State} {m : MethodId} {args : Array Value} {below : List Frame} {meth : Method} {c : Code} {D : va_G} {cl : List vw_C} {cB cI cJ cZ cS : ClassId} {A : Nat → Prop} {iM h0 : Nat} {ad : Nat → Nat} (C0 : MCx p s m args meth c b_M_tryFrom 4 none D cl cB cI cJ cZ cS iM A) (hR : R = rm_M_tryFrom) (N : Nat) (G : Unit) (hG : True) : ∀ (u : MS) (v1 : Int32) (v2 : Int32) (v3 : Int32) (x : MS × Unit), fb_M_tryFrom_0 N G u v1 v2 v3 = some x → ∀ (H : Heap) (locs : List Loc), va_P D cl (wM cB cI cJ cZ cS iM h0 ad u) H → va_D A (wM cB cI cJ cZ cS iM h0 ad u) → va_S A s.heap H locs → ∀ (ls : Array Slot), lv_has ls 4 [(0, .ref h0), (1, .int v1), (2, .int v2), (3, .int v3)] → W p l e R s m args below meth c H locs 0 0 (MQ below (mQv D cl cB cI cJ cZ cS iM h0 ad A x) args s 0 0 A) (F0 m 0 ls []) := by
  intro u v1 v2 v3 x hf H locs hP hD hS ls hl
  obtain ⟨hx, hb, hr, hml, ht, hown, hM, hK, hA, hlocks⟩ := id C0
  unfold fb_M_tryFrom_0 at hf
  refine lv_aload_n hx hb d_M_tryFrom_0 rfl (lv_at hl 0 rfl) ?_
  refine lv_iload_n hx hb d_M_tryFrom_1 rfl (lv_at hl 1 rfl) ?_
  refine up_I hx hb ht hown hM hK hP hD hS 153 (by decide) lk_M_153 (by decide) rfl rfl rfl d_M_tryFrom_2 (fun H locs hP hD hS => ?_)
  obtain ⟨w1, e1, hf⟩ := lt_some hf
  rw [← e1] at hP hD
  refine lv_aload_n hx hb d_M_tryFrom_5 rfl (lv_at hl 0 rfl) ?_
  refine lv_iload_n hx hb d_M_tryFrom_6 rfl (lv_at hl 2 rfl) ?_
  refine up_I hx hb ht hown hM hK hP hD hS 155 (by decide) lk_M_155 (by decide) rfl rfl rfl d_M_tryFrom_7 (fun H locs hP hD hS => ?_)
  obtain ⟨w2, e2, hf⟩ := lt_some hf
  rw [← e2] at hP hD
  refine lv_aload_n hx hb d_M_tryFrom_10 rfl (lv_at hl 0 rfl) ?_
  refine lv_iload_n hx hb d_M_tryFrom_11 rfl (lv_at hl 2 rfl) ?_
  refine up_I hx hb ht hown hM hK hP hD hS 154 (by decide) lk_M_154 (by decide) rfl rfl rfl d_M_tryFrom_12 (fun H locs hP hD hS => ?_)
  obtain ⟨w3, e3, hf⟩ := lt_some hf
  rw [← e3] at hP hD
  refine lv_aload_n hx hb d_M_tryFrom_15 rfl (lv_at hl 0 rfl) ?_
  refine lv_iload_n hx hb d_M_tryFrom_16 rfl (lv_at hl 3 rfl) ?_
  refine up_I hx hb ht hown hM hK hP hD hS 156 (by decide) lk_M_156 (by decide) rfl rfl rfl d_M_tryFrom_17 (fun H locs hP hD hS => ?_)
  obtain ⟨w4, e4, hf⟩ := lt_some hf
  rw [← e4] at hP hD
  refine lv_aload_n hx hb d_M_tryFrom_20 rfl (lv_at hl 0 rfl) ?_
  obtain ⟨u5, r5, hc5, hf⟩ := bnd_some hf
  refine mV_v (As := []) (rest := []) C0 hP hD hS (c_M_choose N hM hc5) k_M_choose hl_M_choose hi_M_choose hs_M_choose hini_M rfl rfl hd_M_choose rfl (rm_M_tryFrom_M_choose hR) hl.1 (Nat.le_of_ble_eq_true rfl) d_M_tryFrom_21 rfl ⟨Nat.zero_le _, Nat.zero_le _⟩ (fun H locs hP hD hS => ?_)
  exact mr_v C0 hP hD hS hf d_M_tryFrom_24
def fm_M_tryFrom (N : Nat) (u : MS) (v1 : Int32) (v2 : Int32) (v3 : Int32) : Option (MS × Unit) := fb_M_tryFrom_0 N () u v1 v2 v3
set_option maxRecDepth 100000 in
set_option maxHeartbeats 4000000 in
theorem c_M_tryFrom (N : Nat) {l : Launch} {D : va_G} {cl : List vw_C} {cB cI cJ cZ cS : ClassId} {iM h0 : Nat} {ad : Nat → Nat} {u : MS} {sz : Nat} {v1 : Int32} {v2 : Int32} {v3 : Int32} {x : MS × Unit} (hM : cl[iM]? = some (R_M, F_M, 171)) (hf : fm_M_tryFrom N u v1 v2 v3 = some x) : Met l y_M_tryFrom (wd_ws y_M_tryFrom b_M_tryFrom 4 none) rm_M_tryFrom (mPc D cl cB cI cJ cZ cS iM h0 ad u sz [.ref h0, .int v1, .int v2, .int v3]) (mQv D cl cB cI cJ cZ cS iM h0 ad (mA cB cI cJ cZ cS iM h0 ad u sz) x) 0 0 (mA cB cI cJ cZ cS iM h0 ad u sz) :=
  mMet (by decide) rfl hM (Nat.le_of_ble_eq_true rfl) (fun p e s m below meth c ls hsz C0 hP hD hS hl => by
    have hR : rm_M_tryFrom = rm_M_tryFrom := rfl
    exact wb_M_tryFrom_0 C0 hR N () trivial u _ _ _ x hf s.heap [] hP hD hS ls (lv_sub hl [0, 1, 2, 3] rfl))
abbrev b_M_clausesOf : ByteArray := prog_14_method_126_code
def y_M_clausesOf : MethodName := ⟨R_M, "clausesOf", "(I)V"⟩
def w_M_clausesOf : List Cond := wd_ws y_M_clausesOf b_M_clausesOf 3 none
set_option maxRecDepth 100000 in
theorem k_M_clausesOf : Cond.code y_M_clausesOf b_M_clausesOf 3 none ∈ wd_tbl := wd_of 2915 rfl rfl
theorem d_M_clausesOf_0 : decode b_M_clausesOf 0 = .ok (.aload_n 0, 1) := by decide +kernel
theorem d_M_clausesOf_1 : decode b_M_clausesOf 1 = .ok (.invokevirtual 673, 3) := by decide +kernel
theorem d_M_clausesOf_4 : decode b_M_clausesOf 4 = .ok (.istore_n 2, 1) := by decide +kernel
theorem d_M_clausesOf_5 : decode b_M_clausesOf 5 = .ok (.aload_n 0, 1) := by decide +kernel
theorem d_M_clausesOf_6 : decode b_M_clausesOf 6 = .ok (.iconst 0, 1) := by decide +kernel
theorem d_M_clausesOf_7 : decode b_M_clausesOf 7 = .ok (.iload_n 1, 1) := by decide +kernel
theorem d_M_clausesOf_8 : decode b_M_clausesOf 8 = .ok (.aload_n 0, 1) := by decide +kernel
theorem d_M_clausesOf_9 : decode b_M_clausesOf 9 = .ok (.getfield 224, 3) := by decide +kernel
theorem d_M_clausesOf_12 : decode b_M_clausesOf 12 = .ok (.iload_n 2, 1) := by decide +kernel
theorem d_M_clausesOf_13 : decode b_M_clausesOf 13 = .ok (.iaload, 1) := by decide +kernel
theorem d_M_clausesOf_14 : decode b_M_clausesOf 14 = .ok (.aload_n 0, 1) := by decide +kernel
theorem d_M_clausesOf_15 : decode b_M_clausesOf 15 = .ok (.getfield 230, 3) := by decide +kernel
theorem d_M_clausesOf_18 : decode b_M_clausesOf 18 = .ok (.iload_n 2, 1) := by decide +kernel
theorem d_M_clausesOf_19 : decode b_M_clausesOf 19 = .ok (.iaload, 1) := by decide +kernel
theorem d_M_clausesOf_20 : decode b_M_clausesOf 20 = .ok (.iadd, 1) := by decide +kernel
theorem d_M_clausesOf_21 : decode b_M_clausesOf 21 = .ok (.invokevirtual 876, 3) := by decide +kernel
theorem d_M_clausesOf_24 : decode b_M_clausesOf 24 = .ok (.return_, 1) := by decide +kernel
set_option maxRecDepth 100000 in
theorem hl_M_clausesOf : Cond.methodLink R_M 892 y_M_clausesOf ∈ wd_tbl := wd_of 2912 (by decide +kernel) rfl
set_option maxRecDepth 100000 in
theorem hi_M_clausesOf : Cond.instanceMethod y_M_clausesOf ∈ wd_tbl := wd_of 2914 (by decide +kernel) rfl
set_option maxRecDepth 100000 in
theorem hs_M_clausesOf : Cond.selects R_M y_M_clausesOf y_M_clausesOf ∈ wd_tbl := wd_of 189 (by decide +kernel) rfl
theorem hd_M_clausesOf : y_M_clausesOf.cls = R_M ∧ y_M_clausesOf.cls ≠ "java/lang/invoke/MethodHandle" ∧ y_M_clausesOf.cls ≠ "java/lang/invoke/VarHandle" ∧ (parseMethodDescriptor y_M_clausesOf.desc).map (fun d => d.parameters.length) = some 1 := by decide +kernel
def rm_M_clausesOf : Room := { frames := 28, cells := 0, slots := 0, locals := 727 }
theorem rm_M_clausesOf_M_frame0 {R : Room} (hR : R = rm_M_clausesOf) : (rm_M_frame0).frames + 1 ≤ R.frames ∧ 8 + (1 + 11) + (rm_M_frame0).locals ≤ R.locals := by subst hR; decide
theorem rm_M_clausesOf_M_tryFrom {R : Room} (hR : R = rm_M_clausesOf) : (rm_M_tryFrom).frames + 1 ≤ R.frames ∧ 8 + (4 + 11) + (rm_M_tryFrom).locals ≤ R.locals := by subst hR; decide
def fb_M_clausesOf_0 (N : Nat) (G : Unit) (u : MS) (v1 : Int32) : Option (MS × Unit) := bnd (fm_M_frame0 N u) (fun u1 r1 => ck (inb r1 (ln 99)) (ck (inb r1 (ln 101)) (bnd (fm_M_tryFrom N u1 0 v1 ((u1.2.2.1 99 r1.toNatClampNeg) + (u1.2.2.1 101 r1.toNatClampNeg))) (fun u2 _ => some (u2, ())))))
set_option maxRecDepth 100000 in
set_option maxHeartbeats 4000000 in
theorem wb_M_clausesOf_0 {p : Program} {l : Launch} {e : Env} {R : Room} {s : State} {m : MethodId} {args : Array Value} {below : List Frame} {meth : Method} {c : Code} {D : va_G} {cl : List vw_C} {cB cI cJ cZ cS : ClassId} {A : Nat → Prop} {iM h0 : Nat} {ad : Nat → Nat} (C0 : MCx p s m args meth c b_M_clausesOf 3 none D cl cB cI cJ cZ cS iM A) (hR : R = rm_M_clausesOf) (N : Nat) (G : Unit) (hG : True) : ∀ (u : MS) (v1 : Int32) (x : MS × Unit), fb_M_clausesOf_0 N G u v1 = some x → ∀ (H : Heap) (locs : List Loc), va_P D cl (wM cB cI cJ cZ cS iM h0 ad u) H → va_D A (wM cB cI cJ cZ cS iM h0 ad u) → va_S A s.heap H locs → ∀ (ls : Array Slot), lv_has ls 3 [(0, .ref h0), (1, .int v1)] → W p l e R s m args below meth c H locs 0 0 (MQ below (mQv D cl cB cI cJ cZ cS iM h0 ad A x) args s 0 0 A) (F0 m 0 ls []) := by
  intro u v1 x hf H locs hP hD hS ls hl
  obtain ⟨hx, hb, hr, hml, ht, hown, hM, hK, hA, hlocks⟩ := id C0
  unfold fb_M_clausesOf_0 at hf
  refine lv_aload_n hx hb d_M_clausesOf_0 rfl (lv_at hl 0 rfl) ?_
  obtain ⟨u1, r1, hc1, hf⟩ := bnd_some hf
  refine mV_i (As := []) (rest := []) C0 hP hD hS (c_M_frame0 N hM hc1) k_M_frame0 hl_M_frame0 hi_M_frame0 hs_M_frame0 hini_M rfl rfl hd_M_frame0 rfl (rm_M_clausesOf_M_frame0 hR) hl.1 (Nat.le_of_ble_eq_true rfl) d_M_clausesOf_1 rfl ⟨Nat.zero_le _, Nat.zero_le _⟩ (fun H locs hP hD hS => ?_)
  refine lv_istore_n (lv' := [(2, .int r1), (0, .ref h0), (1, .int v1)]) hx hb d_M_clausesOf_4 rfl hl (by decide) rfl (fun ls hl => ?_)
  refine lv_aload_n hx hb d_M_clausesOf_5 rfl (lv_at hl 1 rfl) ?_
  refine lv_iconst (v := 0) hx hb d_M_clausesOf_6 (by decide) ?_
  refine lv_iload_n hx hb d_M_clausesOf_7 rfl (lv_at hl 2 rfl) ?_
  refine lv_aload_n hx hb d_M_clausesOf_8 rfl (lv_at hl 1 rfl) ?_
  refine ug_R hx hb ht hown hM hK hP 99 (by decide) lk_M_99 (by decide) d_M_clausesOf_9 ?_
  refine lv_iload_n hx hb d_M_clausesOf_12 rfl (lv_at hl 0 rfl) ?_
  obtain ⟨hi9, hf⟩ := ck_some hf
  refine ul_I hx hb hK hP (by decide) (by decide) hi9 d_M_clausesOf_13 ?_
  refine lv_aload_n hx hb d_M_clausesOf_14 rfl (lv_at hl 1 rfl) ?_
  refine ug_R hx hb ht hown hM hK hP 101 (by decide) lk_M_101 (by decide) d_M_clausesOf_15 ?_
  refine lv_iload_n hx hb d_M_clausesOf_18 rfl (lv_at hl 0 rfl) ?_
  obtain ⟨hi9, hf⟩ := ck_some hf
  refine ul_I hx hb hK hP (by decide) (by decide) hi9 d_M_clausesOf_19 ?_
  refine lv_iadd hx hb d_M_clausesOf_20 ?_
  obtain ⟨u2, r2, hc2, hf⟩ := bnd_some hf
  refine mV_v (As := [.int 0, .int v1, .int ((u1.2.2.1 99 r1.toNatClampNeg) + (u1.2.2.1 101 r1.toNatClampNeg))]) (rest := []) C0 hP hD hS (c_M_tryFrom N hM hc2) k_M_tryFrom hl_M_tryFrom hi_M_tryFrom hs_M_tryFrom hini_M rfl rfl hd_M_tryFrom rfl (rm_M_clausesOf_M_tryFrom hR) hl.1 (Nat.le_of_ble_eq_true rfl) d_M_clausesOf_21 rfl ⟨Nat.zero_le _, Nat.zero_le _⟩ (fun H locs hP hD hS => ?_)
  exact mr_v C0 hP hD hS hf d_M_clausesOf_24
def fm_M_clausesOf (N : Nat) (u : MS) (v1 : Int32) : Option (MS × Unit) := fb_M_clausesOf_0 N () u v1
set_option maxRecDepth 100000 in
set_option maxHeartbeats 4000000 in
theorem c_M_clausesOf (N : Nat) {l : Launch} {D : va_G} {cl : List vw_C} {cB cI cJ cZ cS : ClassId} {iM h0 : Nat} {ad : Nat → Nat} {u : MS} {sz : Nat} {v1 : Int32} {x : MS × Unit} (hM : cl[iM]? = some (R_M, F_M, 171)) (hf : fm_M_clausesOf N u v1 = some x) : Met l y_M_clausesOf (wd_ws y_M_clausesOf b_M_clausesOf 3 none) rm_M_clausesOf (mPc D cl cB cI cJ cZ cS iM h0 ad u sz [.ref h0, .int v1]) (mQv D cl cB cI cJ cZ cS iM h0 ad (mA cB cI cJ cZ cS iM h0 ad u sz) x) 0 0 (mA cB cI cJ cZ cS iM h0 ad u sz) :=
  mMet (by decide) rfl hM (Nat.le_of_ble_eq_true rfl) (fun p e s m below meth c ls hsz C0 hP hD hS hl => by
    have hR : rm_M_clausesOf = rm_M_clausesOf := rfl
    exact wb_M_clausesOf_0 C0 hR N () trivial u _ x hf s.heap [] hP hD hS ls (lv_sub hl [0, 1] rfl))
abbrev b_M_isProcess : ByteArray := prog_14_method_161_code
def y_M_isProcess : MethodName := ⟨R_M, "isProcess", "(I)Z"⟩
def w_M_isProcess : List Cond := wd_ws y_M_isProcess b_M_isProcess 2 (some .boolean)
set_option maxRecDepth 100000 in
theorem k_M_isProcess : Cond.code y_M_isProcess b_M_isProcess 2 (some .boolean) ∈ wd_tbl := wd_of 2903 rfl rfl
theorem d_M_isProcess_0 : decode b_M_isProcess 0 = .ok (.aload_n 0, 1) := by decide +kernel
theorem d_M_isProcess_1 : decode b_M_isProcess 1 = .ok (.getfield 657, 3) := by decide +kernel
theorem d_M_isProcess_4 : decode b_M_isProcess 4 = .ok (.ifCond .eq 19, 3) := by decide +kernel
theorem d_M_isProcess_7 : decode b_M_isProcess 7 = .ok (.iload_n 1, 1) := by decide +kernel
theorem d_M_isProcess_8 : decode b_M_isProcess 8 = .ok (.ifCond .lt 15, 3) := by decide +kernel
theorem d_M_isProcess_11 : decode b_M_isProcess 11 = .ok (.iload_n 1, 1) := by decide +kernel
theorem d_M_isProcess_12 : decode b_M_isProcess 12 = .ok (.aload_n 0, 1) := by decide +kernel
theorem d_M_isProcess_13 : decode b_M_isProcess 13 = .ok (.getfield 989, 3) := by decide +kernel
theorem d_M_isProcess_16 : decode b_M_isProcess 16 = .ok (.if_icmp .ge 7, 3) := by decide +kernel
theorem d_M_isProcess_19 : decode b_M_isProcess 19 = .ok (.iconst 1, 1) := by decide +kernel
theorem d_M_isProcess_20 : decode b_M_isProcess 20 = .ok (.goto 4, 3) := by decide +kernel
theorem d_M_isProcess_23 : decode b_M_isProcess 23 = .ok (.iconst 0, 1) := by decide +kernel
theorem d_M_isProcess_24 : decode b_M_isProcess 24 = .ok (.ireturn, 1) := by decide +kernel
set_option maxRecDepth 100000 in
theorem hl_M_isProcess : Cond.methodLink R_M 880 y_M_isProcess ∈ wd_tbl := wd_of 2900 (by decide +kernel) rfl
set_option maxRecDepth 100000 in
theorem hi_M_isProcess : Cond.instanceMethod y_M_isProcess ∈ wd_tbl := wd_of 2902 (by decide +kernel) rfl
set_option maxRecDepth 100000 in
theorem hs_M_isProcess : Cond.selects R_M y_M_isProcess y_M_isProcess ∈ wd_tbl := wd_of 186 (by decide +kernel) rfl
theorem hd_M_isProcess : y_M_isProcess.cls = R_M ∧ y_M_isProcess.cls ≠ "java/lang/invoke/MethodHandle" ∧ y_M_isProcess.cls ≠ "java/lang/invoke/VarHandle" ∧ (parseMethodDescriptor y_M_isProcess.desc).map (fun d => d.parameters.length) = some 1 := by decide +kernel
def rm_M_isProcess : Room := { frames := 0, cells := 0, slots := 0, locals := 0 }
def fb_M_isProcess_24 (N : Nat) (G : Unit) (u : MS) (t0 : Int32) : Option (MS × Int32) := ck (isb t0) (some (u, t0))
set_option maxRecDepth 100000 in
set_option maxHeartbeats 4000000 in
theorem wb_M_isProcess_24 {p : Program} {l : Launch} {e : Env} {R : Room} {s : State} {m : MethodId} {args : Array Value} {below : List Frame} {meth : Method} {c : Code} {D : va_G} {cl : List vw_C} {cB cI cJ cZ cS : ClassId} {A : Nat → Prop} {iM h0 : Nat} {ad : Nat → Nat} (C0 : MCx p s m args meth c b_M_isProcess 2 (some .boolean) D cl cB cI cJ cZ cS iM A) (hR : R = rm_M_isProcess) (N : Nat) (G : Unit) (hG : True) : ∀ (u : MS) (t0 : Int32) (x : MS × Int32), fb_M_isProcess_24 N G u t0 = some x → ∀ (H : Heap) (locs : List Loc), va_P D cl (wM cB cI cJ cZ cS iM h0 ad u) H → va_D A (wM cB cI cJ cZ cS iM h0 ad u) → va_S A s.heap H locs → ∀ (ls : Array Slot), lv_has ls 2 [] → W p l e R s m args below meth c H locs 0 0 (MQ below (mQi D cl cB cI cJ cZ cS iM h0 ad A x) args s 0 0 A) (F0 m 24 ls [.int t0]) := by
  intro u t0 x hf H locs hP hD hS ls hl
  obtain ⟨hx, hb, hr, hml, ht, hown, hM, hK, hA, hlocks⟩ := id C0
  unfold fb_M_isProcess_24 at hf
  obtain ⟨hz, hf⟩ := ck_some hf
  exact mr_z C0 hP hD hS hz hf d_M_isProcess_24
def fb_M_isProcess_23 (N : Nat) (G : Unit) (u : MS) : Option (MS × Int32) := fb_M_isProcess_24 N G u (0)
set_option maxRecDepth 100000 in
set_option maxHeartbeats 4000000 in
theorem wb_M_isProcess_23 {p : Program} {l : Launch} {e : Env} {R : Room} {s : State} {m : MethodId} {args : Array Value} {below : List Frame} {meth : Method} {c : Code} {D : va_G} {cl : List vw_C} {cB cI cJ cZ cS : ClassId} {A : Nat → Prop} {iM h0 : Nat} {ad : Nat → Nat} (C0 : MCx p s m args meth c b_M_isProcess 2 (some .boolean) D cl cB cI cJ cZ cS iM A) (hR : R = rm_M_isProcess) (N : Nat) (G : Unit) (hG : True) : ∀ (u : MS) (x : MS × Int32), fb_M_isProcess_23 N G u = some x → ∀ (H : Heap) (locs : List Loc), va_P D cl (wM cB cI cJ cZ cS iM h0 ad u) H → va_D A (wM cB cI cJ cZ cS iM h0 ad u) → va_S A s.heap H locs → ∀ (ls : Array Slot), lv_has ls 2 [] → W p l e R s m args below meth c H locs 0 0 (MQ below (mQi D cl cB cI cJ cZ cS iM h0 ad A x) args s 0 0 A) (F0 m 23 ls []) := by
  intro u x hf H locs hP hD hS ls hl
  obtain ⟨hx, hb, hr, hml, ht, hown, hM, hK, hA, hlocks⟩ := id C0
  unfold fb_M_isProcess_23 at hf
  refine lv_iconst (v := 0) hx hb d_M_isProcess_23 (by decide) ?_
  exact wb_M_isProcess_24 C0 hR N G hG _ _ _ hf H locs hP hD hS ls (lv_sub hl [] rfl)
def fb_M_isProcess_0 (N : Nat) (G : Unit) (u : MS) (v1 : Int32) : Option (MS × Int32) := br (decide ((u.1 87) = 0)) (fb_M_isProcess_23 N G u) (br (decide (v1 < 0)) (fb_M_isProcess_23 N G u) (br (decide ((u.1 118) ≤ v1)) (fb_M_isProcess_23 N G u) (fb_M_isProcess_24 N G u (1))))
set_option maxRecDepth 100000 in
set_option maxHeartbeats 4000000 in
theorem wb_M_isProcess_0 {p : Program} {l : Launch} {e : Env} {R : Room} {s : State} {m : MethodId} {args : Array Value} {below : List Frame} {meth : Method} {c : Code} {D : va_G} {cl : List vw_C} {cB cI cJ cZ cS : ClassId} {A : Nat → Prop} {iM h0 : Nat} {ad : Nat → Nat} (C0 : MCx p s m args meth c b_M_isProcess 2 (some .boolean) D cl cB cI cJ cZ cS iM A) (hR : R = rm_M_isProcess) (N : Nat) (G : Unit) (hG : True) : ∀ (u : MS) (v1 : Int32) (x : MS × Int32), fb_M_isProcess_0 N G u v1 = some x → ∀ (H : Heap) (locs : List Loc), va_P D cl (wM cB cI cJ cZ cS iM h0 ad u) H → va_D A (wM cB cI cJ cZ cS iM h0 ad u) → va_S A s.heap H locs → ∀ (ls : Array Slot), lv_has ls 2 [(0, .ref h0), (1, .int v1)] → W p l e R s m args below meth c H locs 0 0 (MQ below (mQi D cl cB cI cJ cZ cS iM h0 ad A x) args s 0 0 A) (F0 m 0 ls []) := by
  intro u v1 x hf H locs hP hD hS ls hl
  obtain ⟨hx, hb, hr, hml, ht, hown, hM, hK, hA, hlocks⟩ := id C0
  unfold fb_M_isProcess_0 at hf
  refine lv_aload_n hx hb d_M_isProcess_0 rfl (lv_at hl 0 rfl) ?_
  refine ug_I hx hb ht hown hM hK hP 87 (by decide) lk_M_87 (by decide) d_M_isProcess_1 ?_
  refine lv_if_eq (tgt := 23) hx hb d_M_isProcess_4 (by decide) (fun hc => ?_) (fun hc => ?_)
  · rw [br_p _ hc] at hf
    exact wb_M_isProcess_23 C0 hR N G hG _ _ hf H locs hP hD hS ls (lv_sub hl [] rfl)
  · rw [br_n _ hc] at hf
    refine lv_iload_n hx hb d_M_isProcess_7 rfl (lv_at hl 1 rfl) ?_
    refine lv_if_lt (tgt := 23) hx hb d_M_isProcess_8 (by decide) (fun hc => ?_) (fun hc => ?_)
    · rw [br_p _ hc] at hf
      exact wb_M_isProcess_23 C0 hR N G hG _ _ hf H locs hP hD hS ls (lv_sub hl [] rfl)
    · rw [br_n _ hc] at hf
      refine lv_iload_n hx hb d_M_isProcess_11 rfl (lv_at hl 1 rfl) ?_
      refine lv_aload_n hx hb d_M_isProcess_12 rfl (lv_at hl 0 rfl) ?_
      refine ug_I hx hb ht hown hM hK hP 118 (by decide) lk_M_118 (by decide) d_M_isProcess_13 ?_
      refine lv_icmp_ge (tgt := 23) hx hb d_M_isProcess_16 (by decide) (fun hc => ?_) (fun hc => ?_)
      · rw [br_p _ hc] at hf
        exact wb_M_isProcess_23 C0 hR N G hG _ _ hf H locs hP hD hS ls (lv_sub hl [] rfl)
      · rw [br_n _ hc] at hf
        refine lv_iconst (v := 1) hx hb d_M_isProcess_19 (by decide) ?_
        refine lv_goto (tgt := 24) hx hb d_M_isProcess_20 (by decide) ?_
        exact wb_M_isProcess_24 C0 hR N G hG _ _ _ hf H locs hP hD hS ls (lv_sub hl [] rfl)
def fm_M_isProcess (N : Nat) (u : MS) (v1 : Int32) : Option (MS × Int32) := fb_M_isProcess_0 N () u v1
set_option maxRecDepth 100000 in
set_option maxHeartbeats 4000000 in
theorem c_M_isProcess (N : Nat) {l : Launch} {D : va_G} {cl : List vw_C} {cB cI cJ cZ cS : ClassId} {iM h0 : Nat} {ad : Nat → Nat} {u : MS} {sz : Nat} {v1 : Int32} {x : MS × Int32} (hM : cl[iM]? = some (R_M, F_M, 171)) (hf : fm_M_isProcess N u v1 = some x) : Met l y_M_isProcess (wd_ws y_M_isProcess b_M_isProcess 2 (some .boolean)) rm_M_isProcess (mPc D cl cB cI cJ cZ cS iM h0 ad u sz [.ref h0, .int v1]) (mQi D cl cB cI cJ cZ cS iM h0 ad (mA cB cI cJ cZ cS iM h0 ad u sz) x) 0 0 (mA cB cI cJ cZ cS iM h0 ad u sz) :=
  mMet (by decide) rfl hM (Nat.le_of_ble_eq_true rfl) (fun p e s m below meth c ls hsz C0 hP hD hS hl => by
    have hR : rm_M_isProcess = rm_M_isProcess := rfl
    exact wb_M_isProcess_0 C0 hR N () trivial u _ x hf s.heap [] hP hD hS ls (lv_sub hl [0, 1] rfl))
abbrev b_M_mayGo : ByteArray := prog_14_method_128_code
def y_M_mayGo : MethodName := ⟨R_M, "mayGo", "(I)Z"⟩
def w_M_mayGo : List Cond := wd_ws y_M_mayGo b_M_mayGo 2 (some .boolean)
set_option maxRecDepth 100000 in
theorem k_M_mayGo : Cond.code y_M_mayGo b_M_mayGo 2 (some .boolean) ∈ wd_tbl := wd_of 2907 rfl rfl
theorem d_M_mayGo_0 : decode b_M_mayGo 0 = .ok (.aload_n 0, 1) := by decide +kernel
theorem d_M_mayGo_1 : decode b_M_mayGo 1 = .ok (.getfield 258, 3) := by decide +kernel
theorem d_M_mayGo_4 : decode b_M_mayGo 4 = .ok (.iload_n 1, 1) := by decide +kernel
theorem d_M_mayGo_5 : decode b_M_mayGo 5 = .ok (.iaload, 1) := by decide +kernel
theorem d_M_mayGo_6 : decode b_M_mayGo 6 = .ok (.aload_n 0, 1) := by decide +kernel
theorem d_M_mayGo_7 : decode b_M_mayGo 7 = .ok (.getfield 252, 3) := by decide +kernel
theorem d_M_mayGo_10 : decode b_M_mayGo 10 = .ok (.iload_n 1, 1) := by decide +kernel
theorem d_M_mayGo_11 : decode b_M_mayGo 11 = .ok (.iaload, 1) := by decide +kernel
theorem d_M_mayGo_12 : decode b_M_mayGo 12 = .ok (.if_icmp .lt 29, 3) := by decide +kernel
theorem d_M_mayGo_15 : decode b_M_mayGo 15 = .ok (.aload_n 0, 1) := by decide +kernel
theorem d_M_mayGo_16 : decode b_M_mayGo 16 = .ok (.getfield 261, 3) := by decide +kernel
theorem d_M_mayGo_19 : decode b_M_mayGo 19 = .ok (.iload_n 1, 1) := by decide +kernel
theorem d_M_mayGo_20 : decode b_M_mayGo 20 = .ok (.laload, 1) := by decide +kernel
theorem d_M_mayGo_21 : decode b_M_mayGo 21 = .ok (.lconst 0, 1) := by decide +kernel
theorem d_M_mayGo_22 : decode b_M_mayGo 22 = .ok (.lcmp, 1) := by decide +kernel
theorem d_M_mayGo_23 : decode b_M_mayGo 23 = .ok (.ifCond .lt 22, 3) := by decide +kernel
theorem d_M_mayGo_26 : decode b_M_mayGo 26 = .ok (.aload_n 0, 1) := by decide +kernel
theorem d_M_mayGo_27 : decode b_M_mayGo 27 = .ok (.getfield 904, 3) := by decide +kernel
theorem d_M_mayGo_30 : decode b_M_mayGo 30 = .ok (.i2l, 1) := by decide +kernel
theorem d_M_mayGo_31 : decode b_M_mayGo 31 = .ok (.aload_n 0, 1) := by decide +kernel
theorem d_M_mayGo_32 : decode b_M_mayGo 32 = .ok (.getfield 261, 3) := by decide +kernel
theorem d_M_mayGo_35 : decode b_M_mayGo 35 = .ok (.iload_n 1, 1) := by decide +kernel
theorem d_M_mayGo_36 : decode b_M_mayGo 36 = .ok (.laload, 1) := by decide +kernel
theorem d_M_mayGo_37 : decode b_M_mayGo 37 = .ok (.lcmp, 1) := by decide +kernel
theorem d_M_mayGo_38 : decode b_M_mayGo 38 = .ok (.ifCond .lt 7, 3) := by decide +kernel
theorem d_M_mayGo_41 : decode b_M_mayGo 41 = .ok (.iconst 1, 1) := by decide +kernel
theorem d_M_mayGo_42 : decode b_M_mayGo 42 = .ok (.goto 4, 3) := by decide +kernel
theorem d_M_mayGo_45 : decode b_M_mayGo 45 = .ok (.iconst 0, 1) := by decide +kernel
theorem d_M_mayGo_46 : decode b_M_mayGo 46 = .ok (.ireturn, 1) := by decide +kernel
set_option maxRecDepth 100000 in
theorem hl_M_mayGo : Cond.methodLink R_M 883 y_M_mayGo ∈ wd_tbl := wd_of 2904 (by decide +kernel) rfl
set_option maxRecDepth 100000 in
theorem hi_M_mayGo : Cond.instanceMethod y_M_mayGo ∈ wd_tbl := wd_of 2906 (by decide +kernel) rfl
set_option maxRecDepth 100000 in
theorem hs_M_mayGo : Cond.selects R_M y_M_mayGo y_M_mayGo ∈ wd_tbl := wd_of 187 (by decide +kernel) rfl
theorem hd_M_mayGo : y_M_mayGo.cls = R_M ∧ y_M_mayGo.cls ≠ "java/lang/invoke/MethodHandle" ∧ y_M_mayGo.cls ≠ "java/lang/invoke/VarHandle" ∧ (parseMethodDescriptor y_M_mayGo.desc).map (fun d => d.parameters.length) = some 1 := by decide +kernel
def rm_M_mayGo : Room := { frames := 0, cells := 0, slots := 0, locals := 0 }
def fb_M_mayGo_46 (N : Nat) (G : Unit) (u : MS) (t0 : Int32) : Option (MS × Int32) := ck (isb t0) (some (u, t0))
set_option maxRecDepth 100000 in
set_option maxHeartbeats 4000000 in
theorem wb_M_mayGo_46 {p : Program} {l : Launch} {e : Env} {R : Room} {s : State} {m : MethodId} {args : Array Value} {below : List Frame} {meth : Method} {c : Code} {D : va_G} {cl : List vw_C} {cB cI cJ cZ cS : ClassId} {A : Nat → Prop} {iM h0 : Nat} {ad : Nat → Nat} (C0 : MCx p s m args meth c b_M_mayGo 2 (some .boolean) D cl cB cI cJ cZ cS iM A) (hR : R = rm_M_mayGo) (N : Nat) (G : Unit) (hG : True) : ∀ (u : MS) (t0 : Int32) (x : MS × Int32), fb_M_mayGo_46 N G u t0 = some x → ∀ (H : Heap) (locs : List Loc), va_P D cl (wM cB cI cJ cZ cS iM h0 ad u) H → va_D A (wM cB cI cJ cZ cS iM h0 ad u) → va_S A s.heap H locs → ∀ (ls : Array Slot), lv_has ls 2 [] → W p l e R s m args below meth c H locs 0 0 (MQ below (mQi D cl cB cI cJ cZ cS iM h0 ad A x) args s 0 0 A) (F0 m 46 ls [.int t0]) := by
  intro u t0 x hf H locs hP hD hS ls hl
  obtain ⟨hx, hb, hr, hml, ht, hown, hM, hK, hA, hlocks⟩ := id C0
  unfold fb_M_mayGo_46 at hf
  obtain ⟨hz, hf⟩ := ck_some hf
  exact mr_z C0 hP hD hS hz hf d_M_mayGo_46
def fb_M_mayGo_45 (N : Nat) (G : Unit) (u : MS) : Option (MS × Int32) := fb_M_mayGo_46 N G u (0)
set_option maxRecDepth 100000 in
set_option maxHeartbeats 4000000 in
theorem wb_M_mayGo_45 {p : Program} {l : Launch} {e : Env} {R : Room} {s : State} {m : MethodId} {args : Array Value} {below : List Frame} {meth : Method} {c : Code} {D : va_G} {cl : List vw_C} {cB cI cJ cZ cS : ClassId} {A : Nat → Prop} {iM h0 : Nat} {ad : Nat → Nat} (C0 : MCx p s m args meth c b_M_mayGo 2 (some .boolean) D cl cB cI cJ cZ cS iM A) (hR : R = rm_M_mayGo) (N : Nat) (G : Unit) (hG : True) : ∀ (u : MS) (x : MS × Int32), fb_M_mayGo_45 N G u = some x → ∀ (H : Heap) (locs : List Loc), va_P D cl (wM cB cI cJ cZ cS iM h0 ad u) H → va_D A (wM cB cI cJ cZ cS iM h0 ad u) → va_S A s.heap H locs → ∀ (ls : Array Slot), lv_has ls 2 [] → W p l e R s m args below meth c H locs 0 0 (MQ below (mQi D cl cB cI cJ cZ cS iM h0 ad A x) args s 0 0 A) (F0 m 45 ls []) := by
  intro u x hf H locs hP hD hS ls hl
  obtain ⟨hx, hb, hr, hml, ht, hown, hM, hK, hA, hlocks⟩ := id C0
  unfold fb_M_mayGo_45 at hf
  refine lv_iconst (v := 0) hx hb d_M_mayGo_45 (by decide) ?_
  exact wb_M_mayGo_46 C0 hR N G hG _ _ _ hf H locs hP hD hS ls (lv_sub hl [] rfl)
def fb_M_mayGo_41 (N : Nat) (G : Unit) (u : MS) : Option (MS × Int32) := fb_M_mayGo_46 N G u (1)
set_option maxRecDepth 100000 in
set_option maxHeartbeats 4000000 in
theorem wb_M_mayGo_41 {p : Program} {l : Launch} {e : Env} {R : Room} {s : State} {m : MethodId} {args : Array Value} {below : List Frame} {meth : Method} {c : Code} {D : va_G} {cl : List vw_C} {cB cI cJ cZ cS : ClassId} {A : Nat → Prop} {iM h0 : Nat} {ad : Nat → Nat} (C0 : MCx p s m args meth c b_M_mayGo 2 (some .boolean) D cl cB cI cJ cZ cS iM A) (hR : R = rm_M_mayGo) (N : Nat) (G : Unit) (hG : True) : ∀ (u : MS) (x : MS × Int32), fb_M_mayGo_41 N G u = some x → ∀ (H : Heap) (locs : List Loc), va_P D cl (wM cB cI cJ cZ cS iM h0 ad u) H → va_D A (wM cB cI cJ cZ cS iM h0 ad u) → va_S A s.heap H locs → ∀ (ls : Array Slot), lv_has ls 2 [] → W p l e R s m args below meth c H locs 0 0 (MQ below (mQi D cl cB cI cJ cZ cS iM h0 ad A x) args s 0 0 A) (F0 m 41 ls []) := by
  intro u x hf H locs hP hD hS ls hl
  obtain ⟨hx, hb, hr, hml, ht, hown, hM, hK, hA, hlocks⟩ := id C0
  unfold fb_M_mayGo_41 at hf
  refine lv_iconst (v := 1) hx hb d_M_mayGo_41 (by decide) ?_
  refine lv_goto (tgt := 46) hx hb d_M_mayGo_42 (by decide) ?_
  exact wb_M_mayGo_46 C0 hR N G hG _ _ _ hf H locs hP hD hS ls (lv_sub hl [] rfl)
def fb_M_mayGo_0 (N : Nat) (G : Unit) (u : MS) (v1 : Int32) : Option (MS × Int32) := ck (inb v1 (ln 110)) (ck (inb v1 (ln 108)) (br (decide ((u.2.2.1 110 v1.toNatClampNeg) < (u.2.2.1 108 v1.toNatClampNeg))) (fb_M_mayGo_41 N G u) (ck (inb v1 (ln 111)) (br (decide ((lg_cmp (u.2.2.2 111 v1.toNatClampNeg) 0) < 0)) (fb_M_mayGo_45 N G u) (ck (inb v1 (ln 111)) (br (decide ((lg_cmp ((u.1 120).toInt64) (u.2.2.2 111 v1.toNatClampNeg)) < 0)) (fb_M_mayGo_45 N G u) (fb_M_mayGo_41 N G u)))))))
set_option maxRecDepth 100000 in
set_option maxHeartbeats 4000000 in
theorem wb_M_mayGo_0 {p : Program} {l : Launch} {e : Env} {R : Room} {s : State} {m : MethodId} {args : Array Value} {below : List Frame} {meth : Method} {c : Code} {D : va_G} {cl : List vw_C} {cB cI cJ cZ cS : ClassId} {A : Nat → Prop} {iM h0 : Nat} {ad : Nat → Nat} (C0 : MCx p s m args meth c b_M_mayGo 2 (some .boolean) D cl cB cI cJ cZ cS iM A) (hR : R = rm_M_mayGo) (N : Nat) (G : Unit) (hG : True) : ∀ (u : MS) (v1 : Int32) (x : MS × Int32), fb_M_mayGo_0 N G u v1 = some x → ∀ (H : Heap) (locs : List Loc), va_P D cl (wM cB cI cJ cZ cS iM h0 ad u) H → va_D A (wM cB cI cJ cZ cS iM h0 ad u) → va_S A s.heap H locs → ∀ (ls : Array Slot), lv_has ls 2 [(0, .ref h0), (1, .int v1)] → W p l e R s m args below meth c H locs 0 0 (MQ below (mQi D cl cB cI cJ cZ cS iM h0 ad A x) args s 0 0 A) (F0 m 0 ls []) := by
  intro u v1 x hf H locs hP hD hS ls hl
  obtain ⟨hx, hb, hr, hml, ht, hown, hM, hK, hA, hlocks⟩ := id C0
  unfold fb_M_mayGo_0 at hf
  refine lv_aload_n hx hb d_M_mayGo_0 rfl (lv_at hl 0 rfl) ?_
  refine ug_R hx hb ht hown hM hK hP 110 (by decide) lk_M_110 (by decide) d_M_mayGo_1 ?_
  refine lv_iload_n hx hb d_M_mayGo_4 rfl (lv_at hl 1 rfl) ?_
  obtain ⟨hi9, hf⟩ := ck_some hf
  refine ul_I hx hb hK hP (by decide) (by decide) hi9 d_M_mayGo_5 ?_
  refine lv_aload_n hx hb d_M_mayGo_6 rfl (lv_at hl 0 rfl) ?_
  refine ug_R hx hb ht hown hM hK hP 108 (by decide) lk_M_108 (by decide) d_M_mayGo_7 ?_
  refine lv_iload_n hx hb d_M_mayGo_10 rfl (lv_at hl 1 rfl) ?_
  obtain ⟨hi9, hf⟩ := ck_some hf
  refine ul_I hx hb hK hP (by decide) (by decide) hi9 d_M_mayGo_11 ?_
  refine lv_icmp_lt (tgt := 41) hx hb d_M_mayGo_12 (by decide) (fun hc => ?_) (fun hc => ?_)
  · rw [br_p _ hc] at hf
    exact wb_M_mayGo_41 C0 hR N G hG _ _ hf H locs hP hD hS ls (lv_sub hl [] rfl)
  · rw [br_n _ hc] at hf
    refine lv_aload_n hx hb d_M_mayGo_15 rfl (lv_at hl 0 rfl) ?_
    refine ug_R hx hb ht hown hM hK hP 111 (by decide) lk_M_111 (by decide) d_M_mayGo_16 ?_
    refine lv_iload_n hx hb d_M_mayGo_19 rfl (lv_at hl 1 rfl) ?_
    obtain ⟨hi9, hf⟩ := ck_some hf
    refine ul_J hx hb hK hP (by decide) (by decide) hi9 d_M_mayGo_20 ?_
    refine lv_lconst (v := 0) hx hb d_M_mayGo_21 (by decide) ?_
    refine W.lcmp hx hb d_M_mayGo_22 ?_
    refine lv_if_lt (tgt := 45) hx hb d_M_mayGo_23 (by decide) (fun hc => ?_) (fun hc => ?_)
    · rw [br_p _ hc] at hf
      exact wb_M_mayGo_45 C0 hR N G hG _ _ hf H locs hP hD hS ls (lv_sub hl [] rfl)
    · rw [br_n _ hc] at hf
      refine lv_aload_n hx hb d_M_mayGo_26 rfl (lv_at hl 0 rfl) ?_
      refine ug_I hx hb ht hown hM hK hP 120 (by decide) lk_M_120 (by decide) d_M_mayGo_27 ?_
      refine lv_i2l hx hb d_M_mayGo_30 rfl ?_
      refine lv_aload_n hx hb d_M_mayGo_31 rfl (lv_at hl 0 rfl) ?_
      refine ug_R hx hb ht hown hM hK hP 111 (by decide) lk_M_111 (by decide) d_M_mayGo_32 ?_
      refine lv_iload_n hx hb d_M_mayGo_35 rfl (lv_at hl 1 rfl) ?_
      obtain ⟨hi9, hf⟩ := ck_some hf
      refine ul_J hx hb hK hP (by decide) (by decide) hi9 d_M_mayGo_36 ?_
      refine W.lcmp hx hb d_M_mayGo_37 ?_
      refine lv_if_lt (tgt := 45) hx hb d_M_mayGo_38 (by decide) (fun hc => ?_) (fun hc => ?_)
      · rw [br_p _ hc] at hf
        exact wb_M_mayGo_45 C0 hR N G hG _ _ hf H locs hP hD hS ls (lv_sub hl [] rfl)
      · rw [br_n _ hc] at hf
        exact wb_M_mayGo_41 C0 hR N G hG _ _ hf H locs hP hD hS ls (lv_sub hl [] rfl)
def fm_M_mayGo (N : Nat) (u : MS) (v1 : Int32) : Option (MS × Int32) := fb_M_mayGo_0 N () u v1
set_option maxRecDepth 100000 in
set_option maxHeartbeats 4000000 in
theorem c_M_mayGo (N : Nat) {l : Launch} {D : va_G} {cl : List vw_C} {cB cI cJ cZ cS : ClassId} {iM h0 : Nat} {ad : Nat → Nat} {u : MS} {sz : Nat} {v1 : Int32} {x : MS × Int32} (hM : cl[iM]? = some (R_M, F_M, 171)) (hf : fm_M_mayGo N u v1 = some x) : Met l y_M_mayGo (wd_ws y_M_mayGo b_M_mayGo 2 (some .boolean)) rm_M_mayGo (mPc D cl cB cI cJ cZ cS iM h0 ad u sz [.ref h0, .int v1]) (mQi D cl cB cI cJ cZ cS iM h0 ad (mA cB cI cJ cZ cS iM h0 ad u sz) x) 0 0 (mA cB cI cJ cZ cS iM h0 ad u sz) :=
  mMet (by decide) rfl hM (Nat.le_of_ble_eq_true rfl) (fun p e s m below meth c ls hsz C0 hP hD hS hl => by
    have hR : rm_M_mayGo = rm_M_mayGo := rfl
    exact wb_M_mayGo_0 C0 hR N () trivial u _ x hf s.heap [] hP hD hS ls (lv_sub hl [0, 1] rfl))
abbrev b_M_goOnWith : ByteArray := prog_14_method_129_code
def y_M_goOnWith : MethodName := ⟨R_M, "goOnWith", "(I)V"⟩
def w_M_goOnWith : List Cond := wd_ws y_M_goOnWith b_M_goOnWith 3 none
set_option maxRecDepth 100000 in
theorem k_M_goOnWith : Cond.code y_M_goOnWith b_M_goOnWith 3 none ∈ wd_tbl := wd_of 3062 rfl rfl
theorem d_M_goOnWith_0 : decode b_M_goOnWith 0 = .ok (.aload_n 0, 1) := by decide +kernel
theorem d_M_goOnWith_1 : decode b_M_goOnWith 1 = .ok (.invokevirtual 673, 3) := by decide +kernel
theorem d_M_goOnWith_4 : decode b_M_goOnWith 4 = .ok (.istore_n 2, 1) := by decide +kernel
theorem d_M_goOnWith_5 : decode b_M_goOnWith 5 = .ok (.aload_n 0, 1) := by decide +kernel
theorem d_M_goOnWith_6 : decode b_M_goOnWith 6 = .ok (.iload_n 1, 1) := by decide +kernel
theorem d_M_goOnWith_7 : decode b_M_goOnWith 7 = .ok (.putfield 907, 3) := by decide +kernel
theorem d_M_goOnWith_10 : decode b_M_goOnWith 10 = .ok (.aload_n 0, 1) := by decide +kernel
theorem d_M_goOnWith_11 : decode b_M_goOnWith 11 = .ok (.aload_n 0, 1) := by decide +kernel
theorem d_M_goOnWith_12 : decode b_M_goOnWith 12 = .ok (.getfield 258, 3) := by decide +kernel
theorem d_M_goOnWith_15 : decode b_M_goOnWith 15 = .ok (.aload_n 0, 1) := by decide +kernel
theorem d_M_goOnWith_16 : decode b_M_goOnWith 16 = .ok (.getfield 669, 3) := by decide +kernel
theorem d_M_goOnWith_19 : decode b_M_goOnWith 19 = .ok (.iaload, 1) := by decide +kernel
theorem d_M_goOnWith_20 : decode b_M_goOnWith 20 = .ok (.putfield 841, 3) := by decide +kernel
theorem d_M_goOnWith_23 : decode b_M_goOnWith 23 = .ok (.aload_n 0, 1) := by decide +kernel
theorem d_M_goOnWith_24 : decode b_M_goOnWith 24 = .ok (.iconst 3, 1) := by decide +kernel
theorem d_M_goOnWith_25 : decode b_M_goOnWith 25 = .ok (.putfield 838, 3) := by decide +kernel
theorem d_M_goOnWith_28 : decode b_M_goOnWith 28 = .ok (.aload_n 0, 1) := by decide +kernel
theorem d_M_goOnWith_29 : decode b_M_goOnWith 29 = .ok (.aload_n 0, 1) := by decide +kernel
theorem d_M_goOnWith_30 : decode b_M_goOnWith 30 = .ok (.getfield 63, 3) := by decide +kernel
theorem d_M_goOnWith_33 : decode b_M_goOnWith 33 = .ok (.iload_n 1, 1) := by decide +kernel
theorem d_M_goOnWith_34 : decode b_M_goOnWith 34 = .ok (.iaload, 1) := by decide +kernel
theorem d_M_goOnWith_35 : decode b_M_goOnWith 35 = .ok (.putfield 852, 3) := by decide +kernel
theorem d_M_goOnWith_38 : decode b_M_goOnWith 38 = .ok (.aload_n 0, 1) := by decide +kernel
theorem d_M_goOnWith_39 : decode b_M_goOnWith 39 = .ok (.aload_n 0, 1) := by decide +kernel
theorem d_M_goOnWith_40 : decode b_M_goOnWith 40 = .ok (.getfield 224, 3) := by decide +kernel
theorem d_M_goOnWith_43 : decode b_M_goOnWith 43 = .ok (.iload_n 2, 1) := by decide +kernel
theorem d_M_goOnWith_44 : decode b_M_goOnWith 44 = .ok (.iaload, 1) := by decide +kernel
theorem d_M_goOnWith_45 : decode b_M_goOnWith 45 = .ok (.aload_n 0, 1) := by decide +kernel
theorem d_M_goOnWith_46 : decode b_M_goOnWith 46 = .ok (.getfield 230, 3) := by decide +kernel
theorem d_M_goOnWith_49 : decode b_M_goOnWith 49 = .ok (.iload_n 2, 1) := by decide +kernel
theorem d_M_goOnWith_50 : decode b_M_goOnWith 50 = .ok (.iaload, 1) := by decide +kernel
theorem d_M_goOnWith_51 : decode b_M_goOnWith 51 = .ok (.iadd, 1) := by decide +kernel
theorem d_M_goOnWith_52 : decode b_M_goOnWith 52 = .ok (.aload_n 0, 1) := by decide +kernel
theorem d_M_goOnWith_53 : decode b_M_goOnWith 53 = .ok (.getfield 69, 3) := by decide +kernel
theorem d_M_goOnWith_56 : decode b_M_goOnWith 56 = .ok (.iload_n 1, 1) := by decide +kernel
theorem d_M_goOnWith_57 : decode b_M_goOnWith 57 = .ok (.iaload, 1) := by decide +kernel
theorem d_M_goOnWith_58 : decode b_M_goOnWith 58 = .ok (.iadd, 1) := by decide +kernel
theorem d_M_goOnWith_59 : decode b_M_goOnWith 59 = .ok (.putfield 826, 3) := by decide +kernel
theorem d_M_goOnWith_62 : decode b_M_goOnWith 62 = .ok (.aload_n 0, 1) := by decide +kernel
theorem d_M_goOnWith_63 : decode b_M_goOnWith 63 = .ok (.getfield 841, 3) := by decide +kernel
theorem d_M_goOnWith_66 : decode b_M_goOnWith 66 = .ok (.aload_n 0, 1) := by decide +kernel
theorem d_M_goOnWith_67 : decode b_M_goOnWith 67 = .ok (.getfield 252, 3) := by decide +kernel
theorem d_M_goOnWith_70 : decode b_M_goOnWith 70 = .ok (.aload_n 0, 1) := by decide +kernel
theorem d_M_goOnWith_71 : decode b_M_goOnWith 71 = .ok (.getfield 669, 3) := by decide +kernel
theorem d_M_goOnWith_74 : decode b_M_goOnWith 74 = .ok (.iaload, 1) := by decide +kernel
theorem d_M_goOnWith_75 : decode b_M_goOnWith 75 = .ok (.if_icmp .ge 26, 3) := by decide +kernel
theorem d_M_goOnWith_78 : decode b_M_goOnWith 78 = .ok (.aload_n 0, 1) := by decide +kernel
theorem d_M_goOnWith_79 : decode b_M_goOnWith 79 = .ok (.getfield 852, 3) := by decide +kernel
theorem d_M_goOnWith_82 : decode b_M_goOnWith 82 = .ok (.iconst (-1), 1) := by decide +kernel
theorem d_M_goOnWith_83 : decode b_M_goOnWith 83 = .ok (.if_icmp .eq 18, 3) := by decide +kernel
theorem d_M_goOnWith_86 : decode b_M_goOnWith 86 = .ok (.aload_n 0, 1) := by decide +kernel
theorem d_M_goOnWith_87 : decode b_M_goOnWith 87 = .ok (.aload_n 0, 1) := by decide +kernel
theorem d_M_goOnWith_88 : decode b_M_goOnWith 88 = .ok (.getfield 852, 3) := by decide +kernel
theorem d_M_goOnWith_91 : decode b_M_goOnWith 91 = .ok (.putfield 820, 3) := by decide +kernel
theorem d_M_goOnWith_94 : decode b_M_goOnWith 94 = .ok (.aload_n 0, 1) := by decide +kernel
theorem d_M_goOnWith_95 : decode b_M_goOnWith 95 = .ok (.invokevirtual 823, 3) := by decide +kernel
theorem d_M_goOnWith_98 : decode b_M_goOnWith 98 = .ok (.goto 38, 3) := by decide +kernel
theorem d_M_goOnWith_101 : decode b_M_goOnWith 101 = .ok (.aload_n 0, 1) := by decide +kernel
theorem d_M_goOnWith_102 : decode b_M_goOnWith 102 = .ok (.getfield 258, 3) := by decide +kernel
theorem d_M_goOnWith_105 : decode b_M_goOnWith 105 = .ok (.aload_n 0, 1) := by decide +kernel
theorem d_M_goOnWith_106 : decode b_M_goOnWith 106 = .ok (.getfield 669, 3) := by decide +kernel
theorem d_M_goOnWith_109 : decode b_M_goOnWith 109 = .ok (.aload_n 0, 1) := by decide +kernel
theorem d_M_goOnWith_110 : decode b_M_goOnWith 110 = .ok (.getfield 252, 3) := by decide +kernel
theorem d_M_goOnWith_113 : decode b_M_goOnWith 113 = .ok (.aload_n 0, 1) := by decide +kernel
theorem d_M_goOnWith_114 : decode b_M_goOnWith 114 = .ok (.getfield 669, 3) := by decide +kernel
theorem d_M_goOnWith_117 : decode b_M_goOnWith 117 = .ok (.iaload, 1) := by decide +kernel
theorem d_M_goOnWith_118 : decode b_M_goOnWith 118 = .ok (.iastore, 1) := by decide +kernel
theorem d_M_goOnWith_119 : decode b_M_goOnWith 119 = .ok (.aload_n 0, 1) := by decide +kernel
theorem d_M_goOnWith_120 : decode b_M_goOnWith 120 = .ok (.getfield 209, 3) := by decide +kernel
theorem d_M_goOnWith_123 : decode b_M_goOnWith 123 = .ok (.aload_n 0, 1) := by decide +kernel
theorem d_M_goOnWith_124 : decode b_M_goOnWith 124 = .ok (.getfield 669, 3) := by decide +kernel
theorem d_M_goOnWith_127 : decode b_M_goOnWith 127 = .ok (.aload_n 0, 1) := by decide +kernel
theorem d_M_goOnWith_128 : decode b_M_goOnWith 128 = .ok (.getfield 826, 3) := by decide +kernel
theorem d_M_goOnWith_131 : decode b_M_goOnWith 131 = .ok (.iastore, 1) := by decide +kernel
theorem d_M_goOnWith_132 : decode b_M_goOnWith 132 = .ok (.aload_n 0, 1) := by decide +kernel
theorem d_M_goOnWith_133 : decode b_M_goOnWith 133 = .ok (.invokevirtual 855, 3) := by decide +kernel
theorem d_M_goOnWith_136 : decode b_M_goOnWith 136 = .ok (.return_, 1) := by decide +kernel
set_option maxRecDepth 100000 in
theorem hl_M_goOnWith : Cond.methodLink R_M 895 y_M_goOnWith ∈ wd_tbl := wd_of 3059 (by decide +kernel) rfl
set_option maxRecDepth 100000 in
theorem hi_M_goOnWith : Cond.instanceMethod y_M_goOnWith ∈ wd_tbl := wd_of 3061 (by decide +kernel) rfl
set_option maxRecDepth 100000 in
theorem hs_M_goOnWith : Cond.selects R_M y_M_goOnWith y_M_goOnWith ∈ wd_tbl := wd_of 221 (by decide +kernel) rfl
theorem hd_M_goOnWith : y_M_goOnWith.cls = R_M ∧ y_M_goOnWith.cls ≠ "java/lang/invoke/MethodHandle" ∧ y_M_goOnWith.cls ≠ "java/lang/invoke/VarHandle" ∧ (parseMethodDescriptor y_M_goOnWith.desc).map (fun d => d.parameters.length) = some 1 := by decide +kernel
def rm_M_goOnWith : Room := { frames := 27, cells := 0, slots := 0, locals := 704 }
theorem rm_M_goOnWith_M_frame0 {R : Room} (hR : R = rm_M_goOnWith) : (rm_M_frame0).frames + 1 ≤ R.frames ∧ 8 + (1 + 11) + (rm_M_frame0).locals ≤ R.locals := by subst hR; decide
theorem rm_M_goOnWith_M_choose {R : Room} (hR : R = rm_M_goOnWith) : (rm_M_choose).frames + 1 ≤ R.frames ∧ 8 + (2 + 11) + (rm_M_choose).locals ≤ R.locals := by subst hR; decide
theorem rm_M_goOnWith_M_afterMessages {R : Room} (hR : R = rm_M_goOnWith) : (rm_M_afterMessages).frames + 1 ≤ R.frames ∧ 8 + (1 + 11) + (rm_M_afterMessages).locals ≤ R.locals := by subst hR; decide
def fb_M_goOnWith_136 (N : Nat) (G : Unit) (u : MS) : Option (MS × Unit) := some (u, ())
set_option maxRecDepth 100000 in
set_option maxHeartbeats 4000000 in
theorem wb_M_goOnWith_136 {p : Program} {l : Launch} {e : Env} {R : Room} {s : State} {m : MethodId} {args : Array Value} {below : List Frame} {meth : Method} {c : Code} {D : va_G} {cl : List vw_C} {cB cI cJ cZ cS : ClassId} {A : Nat → Prop} {iM h0 : Nat} {ad : Nat → Nat} (C0 : MCx p s m args meth c b_M_goOnWith 3 none D cl cB cI cJ cZ cS iM A) (hR : R = rm_M_goOnWith) (N : Nat) (G : Unit) (hG : True) : ∀ (u : MS) (x : MS × Unit), fb_M_goOnWith_136 N G u = some x → ∀ (H : Heap) (locs : List Loc), va_P D cl (wM cB cI cJ cZ cS iM h0 ad u) H → va_D A (wM cB cI cJ cZ cS iM h0 ad u) → va_S A s.heap H locs → ∀ (ls : Array Slot), lv_has ls 3 [] → W p l e R s m args below meth c H locs 0 0 (MQ below (mQv D cl cB cI cJ cZ cS iM h0 ad A x) args s 0 0 A) (F0 m 136 ls []) := by
  intro u x hf H locs hP hD hS ls hl
  obtain ⟨hx, hb, hr, hml, ht, hown, hM, hK, hA, hlocks⟩ := id C0
  unfold fb_M_goOnWith_136 at hf
  exact mr_v C0 hP hD hS hf d_M_goOnWith_136
def fb_M_goOnWith_101 (N : Nat) (G : Unit) (u : MS) : Option (MS × Unit) := ck (inb (u.1 133) (ln 108)) (ck (inb (u.1 133) (ln 110)) (lt (upA u 110 (upd (u.2.2.1 110) (u.1 133).toNatClampNeg (u.2.2.1 108 (u.1 133).toNatClampNeg))) (fun w1 => ck (inb (w1.1 133) (ln 94)) (lt (upA w1 94 (upd (w1.2.2.1 94) (w1.1 133).toNatClampNeg (w1.1 156))) (fun w2 => bnd (fm_M_afterMessages N w2) (fun u3 _ => fb_M_goOnWith_136 N G u3))))))
set_option maxRecDepth 100000 in
set_option maxHeartbeats 4000000 in
theorem wb_M_goOnWith_101 {p : Program} {l : Launch} {e : Env} {R : Room} {s : State} {m : MethodId} {args : Array Value} {below : List Frame} {meth : Method} {c : Code} {D : va_G} {cl : List vw_C} {cB cI cJ cZ cS : ClassId} {A : Nat → Prop} {iM h0 : Nat} {ad : Nat → Nat} (C0 : MCx p s m args meth c b_M_goOnWith 3 none D cl cB cI cJ cZ cS iM A) (hR : R = rm_M_goOnWith) (N : Nat) (G : Unit) (hG : True) : ∀ (u : MS) (x : MS × Unit), fb_M_goOnWith_101 N G u = some x → ∀ (H : Heap) (locs : List Loc), va_P D cl (wM cB cI cJ cZ cS iM h0 ad u) H → va_D A (wM cB cI cJ cZ cS iM h0 ad u) → va_S A s.heap H locs → ∀ (ls : Array Slot), lv_has ls 3 [(0, .ref h0)] → W p l e R s m args below meth c H locs 0 0 (MQ below (mQv D cl cB cI cJ cZ cS iM h0 ad A x) args s 0 0 A) (F0 m 101 ls []) := by
  intro u x hf H locs hP hD hS ls hl
  obtain ⟨hx, hb, hr, hml, ht, hown, hM, hK, hA, hlocks⟩ := id C0
  unfold fb_M_goOnWith_101 at hf
  refine lv_aload_n hx hb d_M_goOnWith_101 rfl (lv_at hl 0 rfl) ?_
  refine ug_R hx hb ht hown hM hK hP 110 (by decide) lk_M_110 (by decide) d_M_goOnWith_102 ?_
  refine lv_aload_n hx hb d_M_goOnWith_105 rfl (lv_at hl 0 rfl) ?_
  refine ug_I hx hb ht hown hM hK hP 133 (by decide) lk_M_133 (by decide) d_M_goOnWith_106 ?_
  refine lv_aload_n hx hb d_M_goOnWith_109 rfl (lv_at hl 0 rfl) ?_
  refine ug_R hx hb ht hown hM hK hP 108 (by decide) lk_M_108 (by decide) d_M_goOnWith_110 ?_
  refine lv_aload_n hx hb d_M_goOnWith_113 rfl (lv_at hl 0 rfl) ?_
  refine ug_I hx hb ht hown hM hK hP 133 (by decide) lk_M_133 (by decide) d_M_goOnWith_114 ?_
  obtain ⟨hi9, hf⟩ := ck_some hf
  refine ul_I hx hb hK hP (by decide) (by decide) hi9 d_M_goOnWith_117 ?_
  obtain ⟨hi9, hf⟩ := ck_some hf
  refine us_I hx hb hK hP hD hS (by decide) (by decide) hi9 d_M_goOnWith_118 (fun H locs hP hD hS => ?_)
  obtain ⟨w1, e1, hf⟩ := lt_some hf
  rw [← e1] at hP hD
  refine lv_aload_n hx hb d_M_goOnWith_119 rfl (lv_at hl 0 rfl) ?_
  refine ug_R hx hb ht hown hM hK hP 94 (by decide) lk_M_94 (by decide) d_M_goOnWith_120 ?_
  refine lv_aload_n hx hb d_M_goOnWith_123 rfl (lv_at hl 0 rfl) ?_
  refine ug_I hx hb ht hown hM hK hP 133 (by decide) lk_M_133 (by decide) d_M_goOnWith_124 ?_
  refine lv_aload_n hx hb d_M_goOnWith_127 rfl (lv_at hl 0 rfl) ?_
  refine ug_I hx hb ht hown hM hK hP 156 (by decide) lk_M_156 (by decide) d_M_goOnWith_128 ?_
  obtain ⟨hi9, hf⟩ := ck_some hf
  refine us_I hx hb hK hP hD hS (by decide) (by decide) hi9 d_M_goOnWith_131 (fun H locs hP hD hS => ?_)
  obtain ⟨w2, e2, hf⟩ := lt_some hf
  rw [← e2] at hP hD
  refine lv_aload_n hx hb d_M_goOnWith_132 rfl (lv_at hl 0 rfl) ?_
  obtain ⟨u3, r3, hc3, hf⟩ := bnd_some hf
  refine mV_v (As := []) (rest := []) C0 hP hD hS (c_M_afterMessages N hM hc3) k_M_afterMessages hl_M_afterMessages hi_M_afterMessages hs_M_afterMessages hini_M rfl rfl hd_M_afterMessages rfl (rm_M_goOnWith_M_afterMessages hR) hl.1 (Nat.le_of_ble_eq_true rfl) d_M_goOnWith_133 rfl ⟨Nat.zero_le _, Nat.zero_le _⟩ (fun H locs hP hD hS => ?_)
  exact wb_M_goOnWith_136 C0 hR N G hG _ _ hf H locs hP hD hS ls (lv_sub hl [] rfl)
def fb_M_goOnWith_0 (N : Nat) (G : Unit) (u : MS) (v1 : Int32) : Option (MS × Unit) := bnd (fm_M_frame0 N u) (fun u4 r4 => lt (upI u4 159 v1) (fun w5 => ck (inb (w5.1 133) (ln 110)) (lt (upI w5 158 (w5.2.2.1 110 (w5.1 133).toNatClampNeg)) (fun w6 => lt (upI w6 153 3) (fun w7 => ck (inb v1 (ln 25)) (lt (upI w7 155 (w7.2.2.1 25 v1.toNatClampNeg)) (fun w8 => ck (inb r4 (ln 99)) (ck (inb r4 (ln 101)) (ck (inb v1 (ln 27)) (lt (upI w8 156 (((w8.2.2.1 99 r4.toNatClampNeg) + (w8.2.2.1 101 r4.toNatClampNeg)) + (w8.2.2.1 27 v1.toNatClampNeg))) (fun w9 => ck (inb (w9.1 133) (ln 108)) (br (decide ((w9.2.2.1 108 (w9.1 133).toNatClampNeg) ≤ (w9.1 158))) (fb_M_goOnWith_101 N G w9) (br (decide ((w9.1 155) = (-1))) (fb_M_goOnWith_101 N G w9) (lt (upI w9 154 (w9.1 155)) (fun w10 => bnd (fr_M_choose N w10) (fun u11 _ => fb_M_goOnWith_136 N G u11))))))))))))))))
set_option maxRecDepth 100000 in
set_option maxHeartbeats 4000000 in
theorem wb_M_goOnWith_0 {p : Program} {l : Launch} {e : Env} {R : Room} {s : State} {m : MethodId} {args : Array Value} {below : List Frame} {meth : Method} {c : Code} {D : va_G} {cl : List vw_C} {cB cI cJ cZ cS : ClassId} {A : Nat → Prop} {iM h0 : Nat} {ad : Nat → Nat} (C0 : MCx p s m args meth c b_M_goOnWith 3 none D cl cB cI cJ cZ cS iM A) (hR : R = rm_M_goOnWith) (N : Nat) (G : Unit) (hG : True) : ∀ (u : MS) (v1 : Int32) (x : MS × Unit), fb_M_goOnWith_0 N G u v1 = some x → ∀ (H : Heap) (locs : List Loc), va_P D cl (wM cB cI cJ cZ cS iM h0 ad u) H → va_D A (wM cB cI cJ cZ cS iM h0 ad u) → va_S A s.heap H locs → ∀ (ls : Array Slot), lv_has ls 3 [(0, .ref h0), (1, .int v1)] → W p l e R s m args below meth c H locs 0 0 (MQ below (mQv D cl cB cI cJ cZ cS iM h0 ad A x) args s 0 0 A) (F0 m 0 ls []) := by
  intro u v1 x hf H locs hP hD hS ls hl
  obtain ⟨hx, hb, hr, hml, ht, hown, hM, hK, hA, hlocks⟩ := id C0
  unfold fb_M_goOnWith_0 at hf
  refine lv_aload_n hx hb d_M_goOnWith_0 rfl (lv_at hl 0 rfl) ?_
  obtain ⟨u4, r4, hc4, hf⟩ := bnd_some hf
  refine mV_i (As := []) (rest := []) C0 hP hD hS (c_M_frame0 N hM hc4) k_M_frame0 hl_M_frame0 hi_M_frame0 hs_M_frame0 hini_M rfl rfl hd_M_frame0 rfl (rm_M_goOnWith_M_frame0 hR) hl.1 (Nat.le_of_ble_eq_true rfl) d_M_goOnWith_1 rfl ⟨Nat.zero_le _, Nat.zero_le _⟩ (fun H locs hP hD hS => ?_)
  refine lv_istore_n (lv' := [(2, .int r4), (0, .ref h0), (1, .int v1)]) hx hb d_M_goOnWith_4 rfl hl (by decide) rfl (fun ls hl => ?_)
  refine lv_aload_n hx hb d_M_goOnWith_5 rfl (lv_at hl 1 rfl) ?_
  refine lv_iload_n hx hb d_M_goOnWith_6 rfl (lv_at hl 2 rfl) ?_
  refine up_I hx hb ht hown hM hK hP hD hS 159 (by decide) lk_M_159 (by decide) rfl rfl rfl d_M_goOnWith_7 (fun H locs hP hD hS => ?_)
  obtain ⟨w5, e5, hf⟩ := lt_some hf
  rw [← e5] at hP hD
  refine lv_aload_n hx hb d_M_goOnWith_10 rfl (lv_at hl 1 rfl) ?_
  refine lv_aload_n hx hb d_M_goOnWith_11 rfl (lv_at hl 1 rfl) ?_
  refine ug_R hx hb ht hown hM hK hP 110 (by decide) lk_M_110 (by decide) d_M_goOnWith_12 ?_
  refine lv_aload_n hx hb d_M_goOnWith_15 rfl (lv_at hl 1 rfl) ?_
  refine ug_I hx hb ht hown hM hK hP 133 (by decide) lk_M_133 (by decide) d_M_goOnWith_16 ?_
  obtain ⟨hi9, hf⟩ := ck_some hf
  refine ul_I hx hb hK hP (by decide) (by decide) hi9 d_M_goOnWith_19 ?_
  refine up_I hx hb ht hown hM hK hP hD hS 158 (by decide) lk_M_158 (by decide) rfl rfl rfl d_M_goOnWith_20 (fun H locs hP hD hS => ?_)
  obtain ⟨w6, e6, hf⟩ := lt_some hf
  rw [← e6] at hP hD
  refine lv_aload_n hx hb d_M_goOnWith_23 rfl (lv_at hl 1 rfl) ?_
  refine lv_iconst (v := 3) hx hb d_M_goOnWith_24 (by decide) ?_
  refine up_I hx hb ht hown hM hK hP hD hS 153 (by decide) lk_M_153 (by decide) rfl rfl rfl d_M_goOnWith_25 (fun H locs hP hD hS => ?_)
  obtain ⟨w7, e7, hf⟩ := lt_some hf
  rw [← e7] at hP hD
  refine lv_aload_n hx hb d_M_goOnWith_28 rfl (lv_at hl 1 rfl) ?_
  refine lv_aload_n hx hb d_M_goOnWith_29 rfl (lv_at hl 1 rfl) ?_
  refine ug_R hx hb ht hown hM hK hP 25 (by decide) lk_M_25 (by decide) d_M_goOnWith_30 ?_
  refine lv_iload_n hx hb d_M_goOnWith_33 rfl (lv_at hl 2 rfl) ?_
  obtain ⟨hi9, hf⟩ := ck_some hf
  refine ul_I hx hb hK hP (by decide) (by decide) hi9 d_M_goOnWith_34 ?_
  refine up_I hx hb ht hown hM hK hP hD hS 155 (by decide) lk_M_155 (by decide) rfl rfl rfl d_M_goOnWith_35 (fun H locs hP hD hS => ?_)
  obtain ⟨w8, e8, hf⟩ := lt_some hf
  rw [← e8] at hP hD
  refine lv_aload_n hx hb d_M_goOnWith_38 rfl (lv_at hl 1 rfl) ?_
  refine lv_aload_n hx hb d_M_goOnWith_39 rfl (lv_at hl 1 rfl) ?_
  refine ug_R hx hb ht hown hM hK hP 99 (by decide) lk_M_99 (by decide) d_M_goOnWith_40 ?_
  refine lv_iload_n hx hb d_M_goOnWith_43 rfl (lv_at hl 0 rfl) ?_
  obtain ⟨hi9, hf⟩ := ck_some hf
  refine ul_I hx hb hK hP (by decide) (by decide) hi9 d_M_goOnWith_44 ?_
  refine lv_aload_n hx hb d_M_goOnWith_45 rfl (lv_at hl 1 rfl) ?_
  refine ug_R hx hb ht hown hM hK hP 101 (by decide) lk_M_101 (by decide) d_M_goOnWith_46 ?_
  refine lv_iload_n hx hb d_M_goOnWith_49 rfl (lv_at hl 0 rfl) ?_
  obtain ⟨hi9, hf⟩ := ck_some hf
  refine ul_I hx hb hK hP (by decide) (by decide) hi9 d_M_goOnWith_50 ?_
  refine lv_iadd hx hb d_M_goOnWith_51 ?_
  refine lv_aload_n hx hb d_M_goOnWith_52 rfl (lv_at hl 1 rfl) ?_
  refine ug_R hx hb ht hown hM hK hP 27 (by decide) lk_M_27 (by decide) d_M_goOnWith_53 ?_
  refine lv_iload_n hx hb d_M_goOnWith_56 rfl (lv_at hl 2 rfl) ?_
  obtain ⟨hi9, hf⟩ := ck_some hf
  refine ul_I hx hb hK hP (by decide) (by decide) hi9 d_M_goOnWith_57 ?_
  refine lv_iadd hx hb d_M_goOnWith_58 ?_
  refine up_I hx hb ht hown hM hK hP hD hS 156 (by decide) lk_M_156 (by decide) rfl rfl rfl d_M_goOnWith_59 (fun H locs hP hD hS => ?_)
  obtain ⟨w9, e9, hf⟩ := lt_some hf
  rw [← e9] at hP hD
  refine lv_aload_n hx hb d_M_goOnWith_62 rfl (lv_at hl 1 rfl) ?_
  refine ug_I hx hb ht hown hM hK hP 158 (by decide) lk_M_158 (by decide) d_M_goOnWith_63 ?_
  refine lv_aload_n hx hb d_M_goOnWith_66 rfl (lv_at hl 1 rfl) ?_
  refine ug_R hx hb ht hown hM hK hP 108 (by decide) lk_M_108 (by decide) d_M_goOnWith_67 ?_
  refine lv_aload_n hx hb d_M_goOnWith_70 rfl (lv_at hl 1 rfl) ?_
  refine ug_I hx hb ht hown hM hK hP 133 (by decide) lk_M_133 (by decide) d_M_goOnWith_71 ?_
  obtain ⟨hi9, hf⟩ := ck_some hf
  refine ul_I hx hb hK hP (by decide) (by decide) hi9 d_M_goOnWith_74 ?_
  refine lv_icmp_ge (tgt := 101) hx hb d_M_goOnWith_75 (by decide) (fun hc => ?_) (fun hc => ?_)
  · rw [br_p _ hc] at hf
    exact wb_M_goOnWith_101 C0 hR N G hG _ _ hf H locs hP hD hS ls (lv_sub hl [1] rfl)
  · rw [br_n _ hc] at hf
    refine lv_aload_n hx hb d_M_goOnWith_78 rfl (lv_at hl 1 rfl) ?_
    refine ug_I hx hb ht hown hM hK hP 155 (by decide) lk_M_155 (by decide) d_M_goOnWith_79 ?_
    refine lv_iconst (v := (-1)) hx hb d_M_goOnWith_82 (by decide) ?_
    refine lv_icmp_eq (tgt := 101) hx hb d_M_goOnWith_83 (by decide) (fun hc => ?_) (fun hc => ?_)
    · rw [br_p _ hc] at hf
      exact wb_M_goOnWith_101 C0 hR N G hG _ _ hf H locs hP hD hS ls (lv_sub hl [1] rfl)
    · rw [br_n _ hc] at hf
      refine lv_aload_n hx hb d_M_goOnWith_86 rfl (lv_at hl 1 rfl) ?_
      refine lv_aload_n hx hb d_M_goOnWith_87 rfl (lv_at hl 1 rfl) ?_
      refine ug_I hx hb ht hown hM hK hP 155 (by decide) lk_M_155 (by decide) d_M_goOnWith_88 ?_
      refine up_I hx hb ht hown hM hK hP hD hS 154 (by decide) lk_M_154 (by decide) rfl rfl rfl d_M_goOnWith_91 (fun H locs hP hD hS => ?_)
      obtain ⟨w10, e10, hf⟩ := lt_some hf
      rw [← e10] at hP hD
      refine lv_aload_n hx hb d_M_goOnWith_94 rfl (lv_at hl 1 rfl) ?_
      obtain ⟨u11, r11, hc11, hf⟩ := bnd_some hf
      refine mV_v (As := []) (rest := []) C0 hP hD hS (c_M_choose N hM hc11) k_M_choose hl_M_choose hi_M_choose hs_M_choose hini_M rfl rfl hd_M_choose rfl (rm_M_goOnWith_M_choose hR) hl.1 (Nat.le_of_ble_eq_true rfl) d_M_goOnWith_95 rfl ⟨Nat.zero_le _, Nat.zero_le _⟩ (fun H locs hP hD hS => ?_)
      refine lv_goto (tgt := 136) hx hb d_M_goOnWith_98 (by decide) ?_
      exact wb_M_goOnWith_136 C0 hR N G hG _ _ hf H locs hP hD hS ls (lv_sub hl [] rfl)
def fm_M_goOnWith (N : Nat) (u : MS) (v1 : Int32) : Option (MS × Unit) := fb_M_goOnWith_0 N () u v1
set_option maxRecDepth 100000 in
set_option maxHeartbeats 4000000 in
theorem c_M_goOnWith (N : Nat) {l : Launch} {D : va_G} {cl : List vw_C} {cB cI cJ cZ cS : ClassId} {iM h0 : Nat} {ad : Nat → Nat} {u : MS} {sz : Nat} {v1 : Int32} {x : MS × Unit} (hM : cl[iM]? = some (R_M, F_M, 171)) (hf : fm_M_goOnWith N u v1 = some x) : Met l y_M_goOnWith (wd_ws y_M_goOnWith b_M_goOnWith 3 none) rm_M_goOnWith (mPc D cl cB cI cJ cZ cS iM h0 ad u sz [.ref h0, .int v1]) (mQv D cl cB cI cJ cZ cS iM h0 ad (mA cB cI cJ cZ cS iM h0 ad u sz) x) 0 0 (mA cB cI cJ cZ cS iM h0 ad u sz) :=
  mMet (by decide) rfl hM (Nat.le_of_ble_eq_true rfl) (fun p e s m below meth c ls hsz C0 hP hD hS hl => by
    have hR : rm_M_goOnWith = rm_M_goOnWith := rfl
    exact wb_M_goOnWith_0 C0 hR N () trivial u _ x hf s.heap [] hP hD hS ls (lv_sub hl [0, 1] rfl))
