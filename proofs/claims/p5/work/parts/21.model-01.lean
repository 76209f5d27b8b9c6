def fb_M_stringToken_123 (N : Nat) (G : (MS → Int32 → Int32 → Option (MS × Unit))) (u : MS) (v1 : Int32) (t1 : Int32) : Option (MS × Unit) := bnd (fm_M_token N u t1 (u.1 20)) (fun u1 _ => ck (inb (u1.1 20) (ln 19)) (ck (inb ((u1.1 20) + 1) (ln 19)) (lt (upA u1 19 (upd (u1.2.2.1 19) ((u1.1 20) + 1).toNatClampNeg ((u1.2.2.1 19 (u1.1 20).toNatClampNeg) + v1))) (fun w2 => lt (upI w2 20 ((w2.1 20) + 1)) (fun w3 => some (w3, ()))))))
set_option maxRecDepth 100000 in
set_option maxHeartbeats 4000000 in
theorem wb_M_stringToken_123 {p : Program} {l : Launch} {e : Env} {R : Room} {s : State} {m : MethodId} {args : Array Value} {below : List Frame} {meth : Method} {c : Code} {D : va_G} {cl : List vw_C} {cB cI cJ cZ cS : ClassId} {A : Nat → Prop} {iM h0 : Nat} {ad : Nat → Nat} (C0 : MCx p s m args meth c b_M_stringToken 4 none D cl cB cI cJ cZ cS iM A) (hR : R = rm_M_stringToken) (N : Nat) (G : (MS → Int32 → Int32 → Option (MS × Unit))) (hG : (∀ (u : MS) (v1 : Int32) (v2 : Int32) (x : MS × Unit), G u v1 v2 = some x → ∀ (H : Heap) (locs : List Loc), va_P D cl (wM cB cI cJ cZ cS iM h0 ad u) H → va_D A (wM cB cI cJ cZ cS iM h0 ad u) → va_S A s.heap H locs → ∀ (ls : Array Slot), lv_has ls 4 [(0, .ref h0), (1, .int v1), (2, .int v2)] → W p l e R s m args below meth c H locs 0 0 (MQ below (mQv D cl cB cI cJ cZ cS iM h0 ad A x) args s 0 0 A) (F0 m 14 ls []))) : ∀ (u : MS) (v1 : Int32) (t1 : Int32) (x : MS × Unit), fb_M_stringToken_123 N G u v1 t1 = some x → ∀ (H : Heap) (locs : List Loc), va_P D cl (wM cB cI cJ cZ cS iM h0 ad u) H → va_D A (wM cB cI cJ cZ cS iM h0 ad u) → va_S A s.heap H locs → ∀ (ls : Array Slot), lv_has ls 4 [(0, .ref h0), (1, .int v1)] → W p l e R s m args below meth c H locs 0 0 (MQ below (mQv D cl cB cI cJ cZ cS iM h0 ad A x) args s 0 0 A) (F0 m 123 ls [.int t1, .ref h0]) := by
  intro u v1 t1 x hf H locs hP hD hS ls hl
  obtain ⟨hx, hb, hr, hml, ht, hown, hM, hK, hA, hlocks⟩ := id C0
  unfold fb_M_stringToken_123 at hf
  refine lv_aload_n hx hb d_M_stringToken_123 rfl (lv_at hl 0 rfl) ?_
  refine ug_I hx hb ht hown hM hK hP 20 (by decide) lk_M_20 (by decide) d_M_stringToken_124 ?_
  obtain ⟨u1, r1, hc1, hf⟩ := bnd_some hf
  refine mV_v (As := [.int t1, .int (u.1 20)]) (rest := []) C0 hP hD hS (c_M_token N hM hc1) k_M_token hl_M_token hi_M_token hs_M_token hini_M rfl rfl hd_M_token rfl (rm_M_stringToken_M_token hR) hl.1 (Nat.le_of_ble_eq_true rfl) d_M_stringToken_127 rfl ⟨Nat.zero_le _, Nat.zero_le _⟩ (fun H locs hP hD hS => ?_)
  refine lv_aload_n hx hb d_M_stringToken_130 rfl (lv_at hl 0 rfl) ?_
  refine ug_R hx hb ht hown hM hK hP 19 (by decide) lk_M_19 (by decide) d_M_stringToken_131 ?_
  refine lv_aload_n hx hb d_M_stringToken_134 rfl (lv_at hl 0 rfl) ?_
  refine ug_I hx hb ht hown hM hK hP 20 (by decide) lk_M_20 (by decide) d_M_stringToken_135 ?_
  refine lv_iconst (v := 1) hx hb d_M_stringToken_138 (by decide) ?_
  refine lv_iadd hx hb d_M_stringToken_139 ?_
  refine lv_aload_n hx hb d_M_stringToken_140 rfl (lv_at hl 0 rfl) ?_
  refine ug_R hx hb ht hown hM hK hP 19 (by decide) lk_M_19 (by decide) d_M_stringToken_141 ?_
  refine lv_aload_n hx hb d_M_stringToken_144 rfl (lv_at hl 0 rfl) ?_
  refine ug_I hx hb ht hown hM hK hP 20 (by decide) lk_M_20 (by decide) d_M_stringToken_145 ?_
  obtain ⟨hi9, hf⟩ := ck_some hf
  refine ul_I hx hb hK hP (by decide) (by decide) hi9 d_M_stringToken_148 ?_
  refine lv_iload_n hx hb d_M_stringToken_149 rfl (lv_at hl 1 rfl) ?_
  refine lv_iadd hx hb d_M_stringToken_150 ?_
  obtain ⟨hi9, hf⟩ := ck_some hf
  refine us_I hx hb hK hP hD hS (by decide) (by decide) hi9 d_M_stringToken_151 (fun H locs hP hD hS => ?_)
  obtain ⟨w2, e2, hf⟩ := lt_some hf
  rw [← e2] at hP hD
  refine lv_aload_n hx hb d_M_stringToken_152 rfl (lv_at hl 0 rfl) ?_
  refine lv_dup hx hb d_M_stringToken_153 rfl ?_
  refine ug_I hx hb ht hown hM hK hP 20 (by decide) lk_M_20 (by decide) d_M_stringToken_154 ?_
  refine lv_iconst (v := 1) hx hb d_M_stringToken_157 (by decide) ?_
  refine lv_iadd hx hb d_M_stringToken_158 ?_
  refine up_I hx hb ht hown hM hK hP hD hS 20 (by decide) lk_M_20 (by decide) rfl rfl rfl d_M_stringToken_159 (fun H locs hP hD hS => ?_)
  obtain ⟨w3, e3, hf⟩ := lt_some hf
  rw [← e3] at hP hD
  exact mr_v C0 hP hD hS hf d_M_stringToken_162
def fb_M_stringToken_102 (N : Nat) (G : (MS → Int32 → Int32 → Option (MS × Unit))) (u : MS) (v1 : Int32) (v2 : Int32) : Option (MS × Unit) := lt (upI u 10 ((u.1 10) + 1)) (fun w4 => br (decide (v2 = 0)) (fb_M_stringToken_123 N G w4 (v1) (7)) (fb_M_stringToken_123 N G w4 (v1) (5)))
set_option maxRecDepth 100000 in
set_option maxHeartbeats 4000000 in
theorem wb_M_stringToken_102 {p : Program} {l : Launch} {e : Env} {R : Room} {s : State} {m : MethodId} {args : Array Value} {below : List Frame} {meth : Method} {c : Code} {D : va_G} {cl : List vw_C} {cB cI cJ cZ cS : ClassId} {A : Nat → Prop} {iM h0 : Nat} {ad : Nat → Nat} (C0 : MCx p s m args meth c b_M_stringToken 4 none D cl cB cI cJ cZ cS iM A) (hR : R = rm_M_stringToken) (N : Nat) (G : (MS → Int32 → Int32 → Option (MS × Unit))) (hG : (∀ (u : MS) (v1 : Int32) (v2 : Int32) (x : MS × Unit), G u v1 v2 = some x → ∀ (H : Heap) (locs : List Loc), va_P D cl (wM cB cI cJ cZ cS iM h0 ad u) H → va_D A (wM cB cI cJ cZ cS iM h0 ad u) → va_S A s.heap H locs → ∀ (ls : Array Slot), lv_has ls 4 [(0, .ref h0), (1, .int v1), (2, .int v2)] → W p l e R s m args below meth c H locs 0 0 (MQ below (mQv D cl cB cI cJ cZ cS iM h0 ad A x) args s 0 0 A) (F0 m 14 ls []))) : ∀ (u : MS) (v1 : Int32) (v2 : Int32) (x : MS × Unit), fb_M_stringToken_102 N G u v1 v2 = some x → ∀ (H : Heap) (locs : List Loc), va_P D cl (wM cB cI cJ cZ cS iM h0 ad u) H → va_D A (wM cB cI cJ cZ cS iM h0 ad u) → va_S A s.heap H locs → ∀ (ls : Array Slot), lv_has ls 4 [(0, .ref h0), (1, .int v1), (2, .int v2)] → W p l e R s m args below meth c H locs 0 0 (MQ below (mQv D cl cB cI cJ cZ cS iM h0 ad A x) args s 0 0 A) (F0 m 102 ls []) := by
  intro u v1 v2 x hf H locs hP hD hS ls hl
  obtain ⟨hx, hb, hr, hml, ht, hown, hM, hK, hA, hlocks⟩ := id C0
  unfold fb_M_stringToken_102 at hf
  refine lv_aload_n hx hb d_M_stringToken_102 rfl (lv_at hl 0 rfl) ?_
  refine lv_dup hx hb d_M_stringToken_103 rfl ?_
  refine ug_I hx hb ht hown hM hK hP 10 (by decide) lk_M_10 (by decide) d_M_stringToken_104 ?_
  refine lv_iconst (v := 1) hx hb d_M_stringToken_107 (by decide) ?_
  refine lv_iadd hx hb d_M_stringToken_108 ?_
  refine up_I hx hb ht hown hM hK hP hD hS 10 (by decide) lk_M_10 (by decide) rfl rfl rfl d_M_stringToken_109 (fun H locs hP hD hS => ?_)
  obtain ⟨w4, e4, hf⟩ := lt_some hf
  rw [← e4] at hP hD
  refine lv_aload_n hx hb d_M_stringToken_112 rfl (lv_at hl 0 rfl) ?_
  refine lv_iload_n hx hb d_M_stringToken_113 rfl (lv_at hl 2 rfl) ?_
  refine lv_if_eq (tgt := 121) hx hb d_M_stringToken_114 (by decide) (fun hc => ?_) (fun hc => ?_)
  · rw [br_p _ hc] at hf
    refine lv_bipush (v := 7) hx hb d_M_stringToken_121 (by decide) ?_
    exact wb_M_stringToken_123 C0 hR N G hG _ _ _ _ hf H locs hP hD hS ls (lv_sub hl [0, 1] rfl)
  · rw [br_n _ hc] at hf
    refine lv_iconst (v := 5) hx hb d_M_stringToken_117 (by decide) ?_
    refine lv_goto (tgt := 123) hx hb d_M_stringToken_118 (by decide) ?_
    exact wb_M_stringToken_123 C0 hR N G hG _ _ _ _ hf H locs hP hD hS ls (lv_sub hl [0, 1] rfl)
def fb_M_stringToken_99 (N : Nat) (G : (MS → Int32 → Int32 → Option (MS × Unit))) (u : MS) (v1 : Int32) (v2 : Int32) : Option (MS × Unit) := G u (v1) (v2)
set_option maxRecDepth 100000 in
set_option maxHeartbeats 4000000 in
theorem wb_M_stringToken_99 {p : Program} {l : Launch} {e : Env} {R : Room} {s : State} {m : MethodId} {args : Array Value} {below : List Frame} {meth : Method} {c : Code} {D : va_G} {cl : List vw_C} {cB cI cJ cZ cS : ClassId} {A : Nat → Prop} {iM h0 : Nat} {ad : Nat → Nat} (C0 : MCx p s m args meth c b_M_stringToken 4 none D cl cB cI cJ cZ cS iM A) (hR : R = rm_M_stringToken) (N : Nat) (G : (MS → Int32 → Int32 → Option (MS × Unit))) (hG : (∀ (u : MS) (v1 : Int32) (v2 : Int32) (x : MS × Unit), G u v1 v2 = some x → ∀ (H : Heap) (locs : List Loc), va_P D cl (wM cB cI cJ cZ cS iM h0 ad u) H → va_D A (wM cB cI cJ cZ cS iM h0 ad u) → va_S A s.heap H locs → ∀ (ls : Array Slot), lv_has ls 4 [(0, .ref h0), (1, .int v1), (2, .int v2)] → W p l e R s m args below meth c H locs 0 0 (MQ below (mQv D cl cB cI cJ cZ cS iM h0 ad A x) args s 0 0 A) (F0 m 14 ls []))) : ∀ (u : MS) (v1 : Int32) (v2 : Int32) (x : MS × Unit), fb_M_stringToken_99 N G u v1 v2 = some x → ∀ (H : Heap) (locs : List Loc), va_P D cl (wM cB cI cJ cZ cS iM h0 ad u) H → va_D A (wM cB cI cJ cZ cS iM h0 ad u) → va_S A s.heap H locs → ∀ (ls : Array Slot), lv_has ls 4 [(0, .ref h0), (1, .int v1), (2, .int v2)] → W p l e R s m args below meth c H locs 0 0 (MQ below (mQv D cl cB cI cJ cZ cS iM h0 ad A x) args s 0 0 A) (F0 m 99 ls []) := by
  intro u v1 v2 x hf H locs hP hD hS ls hl
  obtain ⟨hx, hb, hr, hml, ht, hown, hM, hK, hA, hlocks⟩ := id C0
  unfold fb_M_stringToken_99 at hf
  refine lv_goto (tgt := 14) hx hb d_M_stringToken_99 (by decide) ?_
  exact hG _ _ _ _ hf H locs hP hD hS ls (lv_sub hl [0, 1, 2] rfl)
def fb_M_stringToken_63 (N : Nat) (G : (MS → Int32 → Int32 → Option (MS × Unit))) (u : MS) (v1 : Int32) (v3 : Int32) (t0 : Int32) : Option (MS × Unit) := br (decide (t0 = 0)) (fb_M_stringToken_99 N G u (v1) (t0)) (ck (inb (u.1 20) (ln 19)) (ck (inb ((u.2.2.1 19 (u.1 20).toNatClampNeg) + v1) (ln 18)) (lt (upA u 18 (upd (u.2.2.1 18) ((u.2.2.1 19 (u.1 20).toNatClampNeg) + v1).toNatClampNeg (vp_nar .byte (v3.toInt8.toInt32)))) (fun w5 => lt (upI w5 10 ((w5.1 10) + 1)) (fun w6 => fb_M_stringToken_99 N G w6 ((v1 + 1)) (t0))))))
set_option maxRecDepth 100000 in
set_option maxHeartbeats 4000000 in
theorem wb_M_stringToken_63 {p : Program} {l : Launch} {e : Env} {R : Room} {s : State} {m : MethodId} {args : Array Value} {below : List Frame} {meth : Method} {c : Code} {D : va_G} {cl : List vw_C} {cB cI cJ cZ cS : ClassId} {A : Nat → Prop} {iM h0 : Nat} {ad : Nat → Nat} (C0 : MCx p s m args meth c b_M_stringToken 4 none D cl cB cI cJ cZ cS iM A) (hR : R = rm_M_stringToken) (N : Nat) (G : (MS → Int32 → Int32 → Option (MS × Unit))) (hG : (∀ (u : MS) (v1 : Int32) (v2 : Int32) (x : MS × Unit), G u v1 v2 = some x → ∀ (H : Heap) (locs : List Loc), va_P D cl (wM cB cI cJ cZ cS iM h0 ad u) H → va_D A (wM cB cI cJ cZ cS iM h0 ad u) → va_S A s.heap H locs → ∀ (ls : Array Slot), lv_has ls 4 [(0, .ref h0), (1, .int v1), (2, .int v2)] → W p l e R s m args below meth c H locs 0 0 (MQ below (mQv D cl cB cI cJ cZ cS iM h0 ad A x) args s 0 0 A) (F0 m 14 ls []))) : ∀ (u : MS) (v1 : Int32) (v3 : Int32) (t0 : Int32) (x : MS × Unit), fb_M_stringToken_63 N G u v1 v3 t0 = some x → ∀ (H : Heap) (locs : List Loc), va_P D cl (wM cB cI cJ cZ cS iM h0 ad u) H → va_D A (wM cB cI cJ cZ cS iM h0 ad u) → va_S A s.heap H locs → ∀ (ls : Array Slot), lv_has ls 4 [(0, .ref h0), (1, .int v1), (3, .int v3)] → W p l e R s m args below meth c H locs 0 0 (MQ below (mQv D cl cB cI cJ cZ cS iM h0 ad A x) args s 0 0 A) (F0 m 63 ls [.int t0]) := by
  intro u v1 v3 t0 x hf H locs hP hD hS ls hl
  obtain ⟨hx, hb, hr, hml, ht, hown, hM, hK, hA, hlocks⟩ := id C0
  unfold fb_M_stringToken_63 at hf
  refine lv_istore_n (lv' := [(2, .int t0), (0, .ref h0), (1, .int v1), (3, .int v3)]) hx hb d_M_stringToken_63 rfl hl (by decide) rfl (fun ls hl => ?_)
  refine lv_iload_n hx hb d_M_stringToken_64 rfl (lv_at hl 0 rfl) ?_
  refine lv_if_eq (tgt := 99) hx hb d_M_stringToken_65 (by decide) (fun hc => ?_) (fun hc => ?_)
  · rw [br_p _ hc] at hf
    exact wb_M_stringToken_99 C0 hR N G hG _ _ _ _ hf H locs hP hD hS ls (lv_sub hl [1, 2, 0] rfl)
  · rw [br_n _ hc] at hf
    refine lv_aload_n hx hb d_M_stringToken_68 rfl (lv_at hl 1 rfl) ?_
    refine ug_R hx hb ht hown hM hK hP 18 (by decide) lk_M_18 (by decide) d_M_stringToken_69 ?_
    refine lv_aload_n hx hb d_M_stringToken_72 rfl (lv_at hl 1 rfl) ?_
    refine ug_R hx hb ht hown hM hK hP 19 (by decide) lk_M_19 (by decide) d_M_stringToken_73 ?_
    refine lv_aload_n hx hb d_M_stringToken_76 rfl (lv_at hl 1 rfl) ?_
    refine ug_I hx hb ht hown hM hK hP 20 (by decide) lk_M_20 (by decide) d_M_stringToken_77 ?_
    obtain ⟨hi9, hf⟩ := ck_some hf
    refine ul_I hx hb hK hP (by decide) (by decide) hi9 d_M_stringToken_80 ?_
    refine lv_iload_n hx hb d_M_stringToken_81 rfl (lv_at hl 2 rfl) ?_
    refine lv_iadd hx hb d_M_stringToken_82 ?_
    refine lv_iload_n hx hb d_M_stringToken_83 rfl (lv_at hl 3 rfl) ?_
    refine lv_i2b hx hb d_M_stringToken_84 rfl ?_
    obtain ⟨hi9, hf⟩ := ck_some hf
    refine us_B hx hb hK hP hD hS (by decide) (by decide) hi9 d_M_stringToken_85 (fun H locs hP hD hS => ?_)
    obtain ⟨w5, e5, hf⟩ := lt_some hf
    rw [← e5] at hP hD
    refine lv_iinc (v := (v1 + 1)) (lv' := [(1, .int (v1 + 1)), (2, .int t0), (0, .ref h0), (3, .int v3)]) hx hb d_M_stringToken_86 hl (k := 2) rfl rfl (by decide) rfl (fun ls hl => ?_)
    refine lv_aload_n hx hb d_M_stringToken_89 rfl (lv_at hl 2 rfl) ?_
    refine lv_dup hx hb d_M_stringToken_90 rfl ?_
    refine ug_I hx hb ht hown hM hK hP 10 (by decide) lk_M_10 (by decide) d_M_stringToken_91 ?_
    refine lv_iconst (v := 1) hx hb d_M_stringToken_94 (by decide) ?_
    refine lv_iadd hx hb d_M_stringToken_95 ?_
    refine up_I hx hb ht hown hM hK hP hD hS 10 (by decide) lk_M_10 (by decide) rfl rfl rfl d_M_stringToken_96 (fun H locs hP hD hS => ?_)
    obtain ⟨w6, e6, hf⟩ := lt_some hf
    rw [← e6] at hP hD
    exact wb_M_stringToken_99 C0 hR N G hG _ _ _ _ hf H locs hP hD hS ls (lv_sub hl [2, 0, 1] rfl)
def fb_M_stringToken_62 (N : Nat) (G : (MS → Int32 → Int32 → Option (MS × Unit))) (u : MS) (v1 : Int32) (v3 : Int32) : Option (MS × Unit) := fb_M_stringToken_63 N G u (v1) (v3) (0)
set_option maxRecDepth 100000 in
set_option maxHeartbeats 4000000 in
theorem wb_M_stringToken_62 {p : Program} {l : Launch} {e : Env} {R : Room} {s : State} {m : MethodId} {args : Array Value} {below : List Frame} {meth : Method} {c : Code} {D : va_G} {cl : List vw_C} {cB cI cJ cZ cS : ClassId} {A : Nat → Prop} {iM h0 : Nat} {ad : Nat → Nat} (C0 : MCx p s m args meth c b_M_stringToken 4 none D cl cB cI cJ cZ cS iM A) (hR : R = rm_M_stringToken) (N : Nat) (G : (MS → Int32 → Int32 → Option (MS × Unit))) (hG : (∀ (u : MS) (v1 : Int32) (v2 : Int32) (x : MS × Unit), G u v1 v2 = some x → ∀ (H : Heap) (locs : List Loc), va_P D cl (wM cB cI cJ cZ cS iM h0 ad u) H → va_D A (wM cB cI cJ cZ cS iM h0 ad u) → va_S A s.heap H locs → ∀ (ls : Array Slot), lv_has ls 4 [(0, .ref h0), (1, .int v1), (2, .int v2)] → W p l e R s m args below meth c H locs 0 0 (MQ below (mQv D cl cB cI cJ cZ cS iM h0 ad A x) args s 0 0 A) (F0 m 14 ls []))) : ∀ (u : MS) (v1 : Int32) (v3 : Int32) (x : MS × Unit), fb_M_stringToken_62 N G u v1 v3 = some x → ∀ (H : Heap) (locs : List Loc), va_P D cl (wM cB cI cJ cZ cS iM h0 ad u) H → va_D A (wM cB cI cJ cZ cS iM h0 ad u) → va_S A s.heap H locs → ∀ (ls : Array Slot), lv_has ls 4 [(0, .ref h0), (1, .int v1), (3, .int v3)] → W p l e R s m args below meth c H locs 0 0 (MQ below (mQv D cl cB cI cJ cZ cS iM h0 ad A x) args s 0 0 A) (F0 m 62 ls []) := by
  intro u v1 v3 x hf H locs hP hD hS ls hl
  obtain ⟨hx, hb, hr, hml, ht, hown, hM, hK, hA, hlocks⟩ := id C0
  unfold fb_M_stringToken_62 at hf
  refine lv_iconst (v := 0) hx hb d_M_stringToken_62 (by decide) ?_
  exact wb_M_stringToken_63 C0 hR N G hG _ _ _ _ _ hf H locs hP hD hS ls (lv_sub hl [0, 1, 2] rfl)
def fb_M_stringToken_14 (N : Nat) (G : (MS → Int32 → Int32 → Option (MS × Unit))) (u : MS) (v1 : Int32) (v2 : Int32) : Option (MS × Unit) := br (decide (v2 = 0)) (fb_M_stringToken_102 N G u (v1) (v2)) (bnd (fm_M_byteAt N u (u.1 10)) (fun u7 r7 => br (decide (r7 = 34)) (fb_M_stringToken_102 N G u7 (v1) (v2)) (bnd (fm_M_byteAt N u7 (u7.1 10)) (fun u8 r8 => br (decide (r8 < 32)) (fb_M_stringToken_62 N G u8 (v1) (r8)) (br (decide (126 < r8)) (fb_M_stringToken_62 N G u8 (v1) (r8)) (br (decide (40 ≤ v1)) (fb_M_stringToken_62 N G u8 (v1) (r8)) (fb_M_stringToken_63 N G u8 (v1) (r8) (1))))))))
set_option maxRecDepth 100000 in
set_option maxHeartbeats 4000000 in
theorem wb_M_stringToken_14 {p : Program} {l : Launch} {e : Env} {R : Room} {s : State} {m : MethodId} {args : Array Value} {below : List Frame} {meth : Method} {c : Code} {D : va_G} {cl : List vw_C} {cB cI cJ cZ cS : ClassId} {A : Nat → Prop} {iM h0 : Nat} {ad : Nat → Nat} (C0 : MCx p s m args meth c b_M_stringToken 4 none D cl cB cI cJ cZ cS iM A) (hR : R = rm_M_stringToken) (N : Nat) (G : (MS → Int32 → Int32 → Option (MS × Unit))) (hG : (∀ (u : MS) (v1 : Int32) (v2 : Int32) (x : MS × Unit), G u v1 v2 = some x → ∀ (H : Heap) (locs : List Loc), va_P D cl (wM cB cI cJ cZ cS iM h0 ad u) H → va_D A (wM cB cI cJ cZ cS iM h0 ad u) → va_S A s.heap H locs → ∀ (ls : Array Slot), lv_has ls 4 [(0, .ref h0), (1, .int v1), (2, .int v2)] → W p l e R s m args below meth c H locs 0 0 (MQ below (mQv D cl cB cI cJ cZ cS iM h0 ad A x) args s 0 0 A) (F0 m 14 ls []))) : ∀ (u : MS) (v1 : Int32) (v2 : Int32) (x : MS × Unit), fb_M_stringToken_14 N G u v1 v2 = some x → ∀ (H : Heap) (locs : List Loc), va_P D cl (wM cB cI cJ cZ cS iM h0 ad u) H → va_D A (wM cB cI cJ cZ cS iM h0 ad u) → va_S A s.heap H locs → ∀ (ls : Array Slot), lv_has ls 4 [(0, .ref h0), (1, .int v1), (2, .int v2)] → W p l e R s m args below meth c H locs 0 0 (MQ below (mQv D cl cB cI cJ cZ cS iM h0 ad A x) args s 0 0 A) (F0 m 14 ls []) := by
  intro u v1 v2 x hf H locs hP hD hS ls hl
  obtain ⟨hx, hb, hr, hml, ht, hown, hM, hK, hA, hlocks⟩ := id C0
  unfold fb_M_stringToken_14 at hf
  refine lv_iload_n hx hb d_M_stringToken_14 rfl (lv_at hl 2 rfl) ?_
  refine lv_if_eq (tgt := 102) hx hb d_M_stringToken_15 (by decide) (fun hc => ?_) (fun hc => ?_)
  · rw [br_p _ hc] at hf
    exact wb_M_stringToken_102 C0 hR N G hG _ _ _ _ hf H locs hP hD hS ls (lv_sub hl [0, 1, 2] rfl)
  · rw [br_n _ hc] at hf
    refine lv_aload_n hx hb d_M_stringToken_18 rfl (lv_at hl 0 rfl) ?_
    refine lv_aload_n hx hb d_M_stringToken_19 rfl (lv_at hl 0 rfl) ?_
    refine ug_I hx hb ht hown hM hK hP 10 (by decide) lk_M_10 (by decide) d_M_stringToken_20 ?_
    obtain ⟨u7, r7, hc7, hf⟩ := bnd_some hf
    refine mV_i (As := [.int (u.1 10)]) (rest := []) C0 hP hD hS (c_M_byteAt N hM hc7) k_M_byteAt hl_M_byteAt hi_M_byteAt hs_M_byteAt hini_M rfl rfl hd_M_byteAt rfl (rm_M_stringToken_M_byteAt hR) hl.1 (Nat.le_of_ble_eq_true rfl) d_M_stringToken_23 rfl ⟨Nat.zero_le _, Nat.zero_le _⟩ (fun H locs hP hD hS => ?_)
    refine lv_bipush (v := 34) hx hb d_M_stringToken_26 (by decide) ?_
    refine lv_icmp_eq (tgt := 102) hx hb d_M_stringToken_28 (by decide) (fun hc => ?_) (fun hc => ?_)
    · rw [br_p _ hc] at hf
      exact wb_M_stringToken_102 C0 hR N G hG _ _ _ _ hf H locs hP hD hS ls (lv_sub hl [0, 1, 2] rfl)
    · rw [br_n _ hc] at hf
      refine lv_aload_n hx hb d_M_stringToken_31 rfl (lv_at hl 0 rfl) ?_
      refine lv_aload_n hx hb d_M_stringToken_32 rfl (lv_at hl 0 rfl) ?_
      refine ug_I hx hb ht hown hM hK hP 10 (by decide) lk_M_10 (by decide) d_M_stringToken_33 ?_
      obtain ⟨u8, r8, hc8, hf⟩ := bnd_some hf
      refine mV_i (As := [.int (u7.1 10)]) (rest := []) C0 hP hD hS (c_M_byteAt N hM hc8) k_M_byteAt hl_M_byteAt hi_M_byteAt hs_M_byteAt hini_M rfl rfl hd_M_byteAt rfl (rm_M_stringToken_M_byteAt hR) hl.1 (Nat.le_of_ble_eq_true rfl) d_M_stringToken_36 rfl ⟨Nat.zero_le _, Nat.zero_le _⟩ (fun H locs hP hD hS => ?_)
      refine lv_istore_n (lv' := [(3, .int r8), (0, .ref h0), (1, .int v1), (2, .int v2)]) hx hb d_M_stringToken_39 rfl hl (by decide) rfl (fun ls hl => ?_)
      refine lv_iload_n hx hb d_M_stringToken_40 rfl (lv_at hl 0 rfl) ?_
      refine lv_bipush (v := 32) hx hb d_M_stringToken_41 (by decide) ?_
      refine lv_icmp_lt (tgt := 62) hx hb d_M_stringToken_43 (by decide) (fun hc => ?_) (fun hc => ?_)
      · rw [br_p _ hc] at hf
        exact wb_M_stringToken_62 C0 hR N G hG _ _ _ _ hf H locs hP hD hS ls (lv_sub hl [1, 2, 0] rfl)
      · rw [br_n _ hc] at hf
        refine lv_iload_n hx hb d_M_stringToken_46 rfl (lv_at hl 0 rfl) ?_
        refine lv_bipush (v := 126) hx hb d_M_stringToken_47 (by decide) ?_
        refine lv_icmp_gt (tgt := 62) hx hb d_M_stringToken_49 (by decide) (fun hc => ?_) (fun hc => ?_)
        · rw [br_p _ hc] at hf
          exact wb_M_stringToken_62 C0 hR N G hG _ _ _ _ hf H locs hP hD hS ls (lv_sub hl [1, 2, 0] rfl)
        · rw [br_n _ hc] at hf
          refine lv_iload_n hx hb d_M_stringToken_52 rfl (lv_at hl 2 rfl) ?_
          refine lv_bipush (v := 40) hx hb d_M_stringToken_53 (by decide) ?_
          refine lv_icmp_ge (tgt := 62) hx hb d_M_stringToken_55 (by decide) (fun hc => ?_) (fun hc => ?_)
          · rw [br_p _ hc] at hf
            exact wb_M_stringToken_62 C0 hR N G hG _ _ _ _ hf H locs hP hD hS ls (lv_sub hl [1, 2, 0] rfl)
          · rw [br_n _ hc] at hf
            refine lv_iconst (v := 1) hx hb d_M_stringToken_58 (by decide) ?_
            refine lv_goto (tgt := 63) hx hb d_M_stringToken_59 (by decide) ?_
            exact wb_M_stringToken_63 C0 hR N G hG _ _ _ _ _ hf H locs hP hD hS ls (lv_sub hl [1, 2, 0] rfl)
def fb_M_stringToken_0 (N : Nat) (G : (MS → Int32 → Int32 → Option (MS × Unit))) (u : MS) : Option (MS × Unit) := lt (upI u 10 ((u.1 10) + 1)) (fun w9 => G w9 (0) (1))
set_option maxRecDepth 100000 in
set_option maxHeartbeats 4000000 in
theorem wb_M_stringToken_0 {p : Program} {l : Launch} {e : Env} {R : Room} {s : State} {m : MethodId} {args : Array Value} {below : List Frame} {meth : Method} {c : Code} {D : va_G} {cl : List vw_C} {cB cI cJ cZ cS : ClassId} {A : Nat → Prop} {iM h0 : Nat} {ad : Nat → Nat} (C0 : MCx p s m args meth c b_M_stringToken 4 none D cl cB cI cJ cZ cS iM A) (hR : R = rm_M_stringToken) (N : Nat) (G : (MS → Int32 → Int32 → Option (MS × Unit))) (hG : (∀ (u : MS) (v1 : Int32) (v2 : Int32) (x : MS × Unit), G u v1 v2 = some x → ∀ (H : Heap) (locs : List Loc), va_P D cl (wM cB cI cJ cZ cS iM h0 ad u) H → va_D A (wM cB cI cJ cZ cS iM h0 ad u) → va_S A s.heap H locs → ∀ (ls : Array Slot), lv_has ls 4 [(0, .ref h0), (1, .int v1), (2, .int v2)] → W p l e R s m args below meth c H locs 0 0 (MQ below (mQv D cl cB cI cJ cZ cS iM h0 ad A x) args s 0 0 A) (F0 m 14 ls []))) : ∀ (u : MS) (x : MS × Unit), fb_M_stringToken_0 N G u = some x → ∀ (H : Heap) (locs : List Loc), va_P D cl (wM cB cI cJ cZ cS iM h0 ad u) H → va_D A (wM cB cI cJ cZ cS iM h0 ad u) → va_S A s.heap H locs → ∀ (ls : Array Slot), lv_has ls 4 [(0, .ref h0)] → W p l e R s m args below meth c H locs 0 0 (MQ below (mQv D cl cB cI cJ cZ cS iM h0 ad A x) args s 0 0 A) (F0 m 0 ls []) := by
  intro u x hf H locs hP hD hS ls hl
  obtain ⟨hx, hb, hr, hml, ht, hown, hM, hK, hA, hlocks⟩ := id C0
  unfold fb_M_stringToken_0 at hf
  refine lv_iconst (v := 0) hx hb d_M_stringToken_0 (by decide) ?_
  refine lv_istore_n (lv' := [(1, .int 0), (0, .ref h0)]) hx hb d_M_stringToken_1 rfl hl (by decide) rfl (fun ls hl => ?_)
  refine lv_aload_n hx hb d_M_stringToken_2 rfl (lv_at hl 1 rfl) ?_
  refine lv_dup hx hb d_M_stringToken_3 rfl ?_
  refine ug_I hx hb ht hown hM hK hP 10 (by decide) lk_M_10 (by decide) d_M_stringToken_4 ?_
  refine lv_iconst (v := 1) hx hb d_M_stringToken_7 (by decide) ?_
  refine lv_iadd hx hb d_M_stringToken_8 ?_
  refine up_I hx hb ht hown hM hK hP hD hS 10 (by decide) lk_M_10 (by decide) rfl rfl rfl d_M_stringToken_9 (fun H locs hP hD hS => ?_)
  obtain ⟨w9, e9, hf⟩ := lt_some hf
  rw [← e9] at hP hD
  refine lv_iconst (v := 1) hx hb d_M_stringToken_12 (by decide) ?_
  refine lv_istore_n (lv' := [(2, .int 1), (1, .int 0), (0, .ref h0)]) hx hb d_M_stringToken_13 rfl hl (by decide) rfl (fun ls hl => ?_)
  exact hG _ _ _ _ hf H locs hP hD hS ls (lv_sub hl [2, 1, 0] rfl)
def gg_M_stringToken (N : Nat) : Nat → ((MS → Int32 → Int32 → Option (MS × Unit)))
  | 0 => fun _ _ _ => none
  | n + 1 => fb_M_stringToken_14 N (gg_M_stringToken N n)
theorem wg_M_stringToken {p : Program} {l : Launch} {e : Env} {R : Room} {s : State} {m : MethodId} {args : Array Value} {below : List Frame} {meth : Method} {c : Code} {D : va_G} {cl : List vw_C} {cB cI cJ cZ cS : ClassId} {A : Nat → Prop} {iM h0 : Nat} {ad : Nat → Nat} (C0 : MCx p s m args meth c b_M_stringToken 4 none D cl cB cI cJ cZ cS iM A) (hR : R = rm_M_stringToken) (N : Nat) : ∀ n : Nat, (∀ (u : MS) (v1 : Int32) (v2 : Int32) (x : MS × Unit), gg_M_stringToken N n u v1 v2 = some x → ∀ (H : Heap) (locs : List Loc), va_P D cl (wM cB cI cJ cZ cS iM h0 ad u) H → va_D A (wM cB cI cJ cZ cS iM h0 ad u) → va_S A s.heap H locs → ∀ (ls : Array Slot), lv_has ls 4 [(0, .ref h0), (1, .int v1), (2, .int v2)] → W p l e R s m args below meth c H locs 0 0 (MQ below (mQv D cl cB cI cJ cZ cS iM h0 ad A x) args s 0 0 A) (F0 m 14 ls []))
  | 0 => (fun u v1 v2 x hf => by cases hf)
  | n + 1 => wb_M_stringToken_14 C0 hR N (gg_M_stringToken N n) (wg_M_stringToken C0 hR N n)
def fm_M_stringToken (N : Nat) (u : MS) : Option (MS × Unit) := fb_M_stringToken_0 N (gg_M_stringToken N N) u
set_option maxRecDepth 100000 in
set_option maxHeartbeats 4000000 in
theorem c_M_stringToken (N : Nat) {l : Launch} {D : va_G} {cl : List vw_C} {cB cI cJ cZ cS : ClassId} {iM h0 : Nat} {ad : Nat → Nat} {u : MS} {sz : Nat} {x : MS × Unit} (hM : cl[iM]? = some (R_M, F_M, 171)) (hf : fm_M_stringToken N u = some x) : Met l y_M_stringToken (wd_ws y_M_stringToken b_M_stringToken 4 none) rm_M_stringToken (mPc D cl cB cI cJ cZ cS iM h0 ad u sz [.ref h0]) (mQv D cl cB cI cJ cZ cS iM h0 ad (mA cB cI cJ cZ cS iM h0 ad u sz) x) 0 0 (mA cB cI cJ cZ cS iM h0 ad u sz) :=
  mMet (by decide) rfl hM (Nat.le_of_ble_eq_true rfl) (fun p e s m below meth c ls hsz C0 hP hD hS hl => by
    have hR : rm_M_stringToken = rm_M_stringToken := rfl
    exact wb_M_stringToken_0 C0 hR N (gg_M_stringToken N N) (wg_M_stringToken C0 hR N N) u x hf s.heap [] hP hD hS ls (lv_sub hl [0] rfl))
abbrev b_M_signToken : ByteArray := prog_14_method_19_code
def y_M_signToken : MethodName := ⟨R_M, "signToken", "(I)V"⟩
def w_M_signToken : List Cond := wd_ws y_M_signToken b_M_signToken 6 none
set_option maxRecDepth 100000 in
theorem k_M_signToken : Cond.code y_M_signToken b_M_signToken 6 none ∈ wd_tbl := wd_of 2691 rfl rfl
theorem d_M_signToken_0 : decode b_M_signToken 0 = .ok (.aload_n 0, 1) := by decide +kernel
theorem d_M_signToken_1 : decode b_M_signToken 1 = .ok (.aload_n 0, 1) := by decide +kernel
theorem d_M_signToken_2 : decode b_M_signToken 2 = .ok (.getfield 408, 3) := by decide +kernel
theorem d_M_signToken_5 : decode b_M_signToken 5 = .ok (.iconst 1, 1) := by decide +kernel
theorem d_M_signToken_6 : decode b_M_signToken 6 = .ok (.iadd, 1) := by decide +kernel
theorem d_M_signToken_7 : decode b_M_signToken 7 = .ok (.invokevirtual 414, 3) := by decide +kernel
theorem d_M_signToken_10 : decode b_M_signToken 10 = .ok (.istore_n 2, 1) := by decide +kernel
theorem d_M_signToken_11 : decode b_M_signToken 11 = .ok (.iconst (-1), 1) := by decide +kernel
theorem d_M_signToken_12 : decode b_M_signToken 12 = .ok (.istore_n 3, 1) := by decide +kernel
theorem d_M_signToken_13 : decode b_M_signToken 13 = .ok (.iconst 1, 1) := by decide +kernel
theorem d_M_signToken_14 : decode b_M_signToken 14 = .ok (.istore 4, 2) := by decide +kernel
theorem d_M_signToken_16 : decode b_M_signToken 16 = .ok (.iconst 0, 1) := by decide +kernel
theorem d_M_signToken_17 : decode b_M_signToken 17 = .ok (.istore 5, 2) := by decide +kernel
theorem d_M_signToken_19 : decode b_M_signToken 19 = .ok (.iload 5, 2) := by decide +kernel
theorem d_M_signToken_21 : decode b_M_signToken 21 = .ok (.aload_n 0, 1) := by decide +kernel
theorem d_M_signToken_22 : decode b_M_signToken 22 = .ok (.getfield 53, 3) := by decide +kernel
theorem d_M_signToken_25 : decode b_M_signToken 25 = .ok (.arraylength, 1) := by decide +kernel
theorem d_M_signToken_26 : decode b_M_signToken 26 = .ok (.if_icmp .ge 34, 3) := by decide +kernel
theorem d_M_signToken_29 : decode b_M_signToken 29 = .ok (.aload_n 0, 1) := by decide +kernel
theorem d_M_signToken_30 : decode b_M_signToken 30 = .ok (.getfield 53, 3) := by decide +kernel
theorem d_M_signToken_33 : decode b_M_signToken 33 = .ok (.iload 5, 2) := by decide +kernel
theorem d_M_signToken_35 : decode b_M_signToken 35 = .ok (.baload, 1) := by decide +kernel
theorem d_M_signToken_36 : decode b_M_signToken 36 = .ok (.iload_n 1, 1) := by decide +kernel
theorem d_M_signToken_37 : decode b_M_signToken 37 = .ok (.if_icmp .ne 15, 3) := by decide +kernel
theorem d_M_signToken_40 : decode b_M_signToken 40 = .ok (.aload_n 0, 1) := by decide +kernel
theorem d_M_signToken_41 : decode b_M_signToken 41 = .ok (.getfield 53, 3) := by decide +kernel
theorem d_M_signToken_44 : decode b_M_signToken 44 = .ok (.iload 5, 2) := by decide +kernel
theorem d_M_signToken_46 : decode b_M_signToken 46 = .ok (.iconst 1, 1) := by decide +kernel
theorem d_M_signToken_47 : decode b_M_signToken 47 = .ok (.iadd, 1) := by decide +kernel
theorem d_M_signToken_48 : decode b_M_signToken 48 = .ok (.baload, 1) := by decide +kernel
theorem d_M_signToken_49 : decode b_M_signToken 49 = .ok (.goto 4, 3) := by decide +kernel
theorem d_M_signToken_52 : decode b_M_signToken 52 = .ok (.iload_n 3, 1) := by decide +kernel
theorem d_M_signToken_53 : decode b_M_signToken 53 = .ok (.istore_n 3, 1) := by decide +kernel
theorem d_M_signToken_54 : decode b_M_signToken 54 = .ok (.iinc 5 2, 3) := by decide +kernel
theorem d_M_signToken_57 : decode b_M_signToken 57 = .ok (.goto (-38), 3) := by decide +kernel
theorem d_M_signToken_60 : decode b_M_signToken 60 = .ok (.iconst 0, 1) := by decide +kernel
theorem d_M_signToken_61 : decode b_M_signToken 61 = .ok (.istore 5, 2) := by decide +kernel
theorem d_M_signToken_63 : decode b_M_signToken 63 = .ok (.iload 5, 2) := by decide +kernel
theorem d_M_signToken_65 : decode b_M_signToken 65 = .ok (.aload_n 0, 1) := by decide +kernel
theorem d_M_signToken_66 : decode b_M_signToken 66 = .ok (.getfield 50, 3) := by decide +kernel
theorem d_M_signToken_69 : decode b_M_signToken 69 = .ok (.arraylength, 1) := by decide +kernel
theorem d_M_signToken_70 : decode b_M_signToken 70 = .ok (.if_icmp .ge 46, 3) := by decide +kernel
theorem d_M_signToken_73 : decode b_M_signToken 73 = .ok (.aload_n 0, 1) := by decide +kernel
theorem d_M_signToken_74 : decode b_M_signToken 74 = .ok (.getfield 50, 3) := by decide +kernel
theorem d_M_signToken_77 : decode b_M_signToken 77 = .ok (.iload 5, 2) := by decide +kernel
theorem d_M_signToken_79 : decode b_M_signToken 79 = .ok (.baload, 1) := by decide +kernel
theorem d_M_signToken_80 : decode b_M_signToken 80 = .ok (.iload_n 1, 1) := by decide +kernel
theorem d_M_signToken_81 : decode b_M_signToken 81 = .ok (.if_icmp .ne 29, 3) := by decide +kernel
theorem d_M_signToken_84 : decode b_M_signToken 84 = .ok (.aload_n 0, 1) := by decide +kernel
theorem d_M_signToken_85 : decode b_M_signToken 85 = .ok (.getfield 50, 3) := by decide +kernel
theorem d_M_signToken_88 : decode b_M_signToken 88 = .ok (.iload 5, 2) := by decide +kernel
theorem d_M_signToken_90 : decode b_M_signToken 90 = .ok (.iconst 1, 1) := by decide +kernel
theorem d_M_signToken_91 : decode b_M_signToken 91 = .ok (.iadd, 1) := by decide +kernel
theorem d_M_signToken_92 : decode b_M_signToken 92 = .ok (.baload, 1) := by decide +kernel
theorem d_M_signToken_93 : decode b_M_signToken 93 = .ok (.iload_n 2, 1) := by decide +kernel
theorem d_M_signToken_94 : decode b_M_signToken 94 = .ok (.if_icmp .ne 16, 3) := by decide +kernel
theorem d_M_signToken_97 : decode b_M_signToken 97 = .ok (.aload_n 0, 1) := by decide +kernel
theorem d_M_signToken_98 : decode b_M_signToken 98 = .ok (.getfield 50, 3) := by decide +kernel
theorem d_M_signToken_101 : decode b_M_signToken 101 = .ok (.iload 5, 2) := by decide +kernel
theorem d_M_signToken_103 : decode b_M_signToken 103 = .ok (.iconst 2, 1) := by decide +kernel
theorem d_M_signToken_104 : decode b_M_signToken 104 = .ok (.iadd, 1) := by decide +kernel
theorem d_M_signToken_105 : decode b_M_signToken 105 = .ok (.baload, 1) := by decide +kernel
theorem d_M_signToken_106 : decode b_M_signToken 106 = .ok (.istore_n 3, 1) := by decide +kernel
theorem d_M_signToken_107 : decode b_M_signToken 107 = .ok (.iconst 2, 1) := by decide +kernel
theorem d_M_signToken_108 : decode b_M_signToken 108 = .ok (.istore 4, 2) := by decide +kernel
theorem d_M_signToken_110 : decode b_M_signToken 110 = .ok (.iinc 5 3, 3) := by decide +kernel
theorem d_M_signToken_113 : decode b_M_signToken 113 = .ok (.goto (-50), 3) := by decide +kernel
theorem d_M_signToken_116 : decode b_M_signToken 116 = .ok (.aload_n 0, 1) := by decide +kernel
theorem d_M_signToken_117 : decode b_M_signToken 117 = .ok (.iload_n 3, 1) := by decide +kernel
theorem d_M_signToken_118 : decode b_M_signToken 118 = .ok (.iconst (-1), 1) := by decide +kernel
theorem d_M_signToken_119 : decode b_M_signToken 119 = .ok (.if_icmp .ne 8, 3) := by decide +kernel
theorem d_M_signToken_122 : decode b_M_signToken 122 = .ok (.bipush 7, 2) := by decide +kernel
theorem d_M_signToken_124 : decode b_M_signToken 124 = .ok (.goto 5, 3) := by decide +kernel
theorem d_M_signToken_127 : decode b_M_signToken 127 = .ok (.bipush 6, 2) := by decide +kernel
theorem d_M_signToken_129 : decode b_M_signToken 129 = .ok (.iload_n 3, 1) := by decide +kernel
theorem d_M_signToken_130 : decode b_M_signToken 130 = .ok (.invokevirtual 431, 3) := by decide +kernel
theorem d_M_signToken_133 : decode b_M_signToken 133 = .ok (.aload_n 0, 1) := by decide +kernel
theorem d_M_signToken_134 : decode b_M_signToken 134 = .ok (.dup, 1) := by decide +kernel
theorem d_M_signToken_135 : decode b_M_signToken 135 = .ok (.getfield 408, 3) := by decide +kernel
theorem d_M_signToken_138 : decode b_M_signToken 138 = .ok (.iload 4, 2) := by decide +kernel
theorem d_M_signToken_140 : decode b_M_signToken 140 = .ok (.iadd, 1) := by decide +kernel
theorem d_M_signToken_141 : decode b_M_signToken 141 = .ok (.putfield 408, 3) := by decide +kernel
theorem d_M_signToken_144 : decode b_M_signToken 144 = .ok (.return_, 1) := by decide +kernel
set_option maxRecDepth 100000 in
theorem hl_M_signToken : Cond.methodLink R_M 428 y_M_signToken ∈ wd_tbl := wd_of 2688 (by decide +kernel) rfl
set_option maxRecDepth 100000 in
theorem hi_M_signToken : Cond.instanceMethod y_M_signToken ∈ wd_tbl := wd_of 2690 (by decide +kernel) rfl
set_option maxRecDepth 100000 in
theorem hs_M_signToken : Cond.selects R_M y_M_signToken y_M_signToken ∈ wd_tbl := wd_of 136 (by decide +kernel) rfl
theorem hd_M_signToken : y_M_signToken.cls = R_M ∧ y_M_signToken.cls ≠ "java/lang/invoke/MethodHandle" ∧ y_M_signToken.cls ≠ "java/lang/invoke/VarHandle" ∧ (parseMethodDescriptor y_M_signToken.desc).map (fun d => d.parameters.length) = some 1 := by decide +kernel
def rm_M_signToken : Room := { frames := 1, cells := 0, slots := 0, locals := 22 }
theorem rm_M_signToken_M_byteAt {R : Room} (hR : R = rm_M_signToken) : (rm_M_byteAt).frames + 1 ≤ R.frames ∧ 8 + (2 + 11) + (rm_M_byteAt).locals ≤ R.locals := by subst hR; decide
theorem rm_M_signToken_M_token {R : Room} (hR : R = rm_M_signToken) : (rm_M_token).frames + 1 ≤ R.frames ∧ 8 + (3 + 11) + (rm_M_token).locals ≤ R.locals := by subst hR; decide
def fb_M_signToken_129 (N : Nat) (G : (MS → Int32 → Int32 → Int32 → Int32 → Int32 → Option (MS × Unit)) × (MS → Int32 → Int32 → Int32 → Int32 → Int32 → Option (MS × Unit))) (u : MS) (v3 : Int32) (v4 : Int32) (t1 : Int32) : Option (MS × Unit) := bnd (fm_M_token N u t1 v3) (fun u1 _ => lt (upI u1 10 ((u1.1 10) + v4)) (fun w2 => some (w2, ())))
set_option maxRecDepth 100000 in
set_option maxHeartbeats 4000000 in
theorem wb_M_signToken_129 {p : Program} {l : Launch} {e : Env} {R : Room} {s : State} {m : MethodId} {args : Array Value} {below : List Frame} {meth : Method} {c : Code} {D : va_G} {cl : List vw_C} {cB cI cJ cZ cS : ClassId} {A : Nat → Prop} {iM h0 : Nat} {ad : Nat → Nat} (C0 : MCx p s m args meth c b_M_signToken 6 none D cl cB cI cJ cZ cS iM A) (hR : R = rm_M_signToken) (N : Nat) (G : (MS → Int32 → Int32 → Int32 → Int32 → Int32 → Option (MS × Unit)) × (MS → Int32 → Int32 → Int32 → Int32 → Int32 → Option (MS × Unit))) (hG : (∀ (u : MS) (v1 : Int32) (v2 : Int32) (v3 : Int32) (v4 : Int32) (v5 : Int32) (x : MS × Unit), G.1 u v1 v2 v3 v4 v5 = some x → ∀ (H : Heap) (locs : List Loc), va_P D cl (wM cB cI cJ cZ cS iM h0 ad u) H → va_D A (wM cB cI cJ cZ cS iM h0 ad u) → va_S A s.heap H locs → ∀ (ls : Array Slot), lv_has ls 6 [(0, .ref h0), (1, .int v1), (2, .int v2), (3, .int v3), (4, .int v4), (5, .int v5)] → W p l e R s m args below meth c H locs 0 0 (MQ below (mQv D cl cB cI cJ cZ cS iM h0 ad A x) args s 0 0 A) (F0 m 19 ls [])) ∧ (∀ (u : MS) (v1 : Int32) (v2 : Int32) (v3 : Int32) (v4 : Int32) (v5 : Int32) (x : MS × Unit), G.2 u v1 v2 v3 v4 v5 = some x → ∀ (H : Heap) (locs : List Loc), va_P D cl (wM cB cI cJ cZ cS iM h0 ad u) H → va_D A (wM cB cI cJ cZ cS iM h0 ad u) → va_S A s.heap H locs → ∀ (ls : Array Slot), lv_has ls 6 [(0, .ref h0), (1, .int v1), (2, .int v2), (3, .int v3), (4, .int v4), (5, .int v5)] → W p l e R s m args below meth c H locs 0 0 (MQ below (mQv D cl cB cI cJ cZ cS iM h0 ad A x) args s 0 0 A) (F0 m 63 ls []))) : ∀ (u : MS) (v3 : Int32) (v4 : Int32) (t1 : Int32) (x : MS × Unit), fb_M_signToken_129 N G u v3 v4 t1 = some x → ∀ (H : Heap) (locs : List Loc), va_P D cl (wM cB cI cJ cZ cS iM h0 ad u) H → va_D A (wM cB cI cJ cZ cS iM h0 ad u) → va_S A s.heap H locs → ∀ (ls : Array Slot), lv_has ls 6 [(0, .ref h0), (3, .int v3), (4, .int v4)] → W p l e R s m args below meth c H locs 0 0 (MQ below (mQv D cl cB cI cJ cZ cS iM h0 ad A x) args s 0 0 A) (F0 m 129 ls [.int t1, .ref h0]) := by
  intro u v3 v4 t1 x hf H locs hP hD hS ls hl
  obtain ⟨hx, hb, hr, hml, ht, hown, hM, hK, hA, hlocks⟩ := id C0
  unfold fb_M_signToken_129 at hf
  refine lv_iload_n hx hb d_M_signToken_129 rfl (lv_at hl 1 rfl) ?_
  obtain ⟨u1, r1, hc1, hf⟩ := bnd_some hf
  refine mV_v (As := [.int t1, .int v3]) (rest := []) C0 hP hD hS (c_M_token N hM hc1) k_M_token hl_M_token hi_M_token hs_M_token hini_M rfl rfl hd_M_token rfl (rm_M_signToken_M_token hR) hl.1 (Nat.le_of_ble_eq_true rfl) d_M_signToken_130 rfl ⟨Nat.zero_le _, Nat.zero_le _⟩ (fun H locs hP hD hS => ?_)
  refine lv_aload_n hx hb d_M_signToken_133 rfl (lv_at hl 0 rfl) ?_
  refine lv_dup hx hb d_M_signToken_134 rfl ?_
  refine ug_I hx hb ht hown hM hK hP 10 (by decide) lk_M_10 (by decide) d_M_signToken_135 ?_
  refine lv_iload hx hb d_M_signToken_138 (lv_at hl 2 rfl) ?_
  refine lv_iadd hx hb d_M_signToken_140 ?_
  refine up_I hx hb ht hown hM hK hP hD hS 10 (by decide) lk_M_10 (by decide) rfl rfl rfl d_M_signToken_141 (fun H locs hP hD hS => ?_)
  obtain ⟨w2, e2, hf⟩ := lt_some hf
  rw [← e2] at hP hD
  exact mr_v C0 hP hD hS hf d_M_signToken_144
def fb_M_signToken_110 (N : Nat) (G : (MS → Int32 → Int32 → Int32 → Int32 → Int32 → Option (MS × Unit)) × (MS → Int32 → Int32 → Int32 → Int32 → Int32 → Option (MS × Unit))) (u : MS) (v1 : Int32) (v2 : Int32) (v3 : Int32) (v4 : Int32) (v5 : Int32) : Option (MS × Unit) := G.2 u (v1) (v2) (v3) (v4) ((v5 + 3))
set_option maxRecDepth 100000 in
set_option maxHeartbeats 4000000 in
theorem wb_M_signToken_110 {p : Program} {l : Launch} {e : Env} {R : Room} {s : State} {m : MethodId} {args : Array Value} {below : List Frame} {meth : Method} {c : Code} {D : va_G} {cl : List vw_C} {cB cI cJ cZ cS : ClassId} {A : Nat → Prop} {iM h0 : Nat} {ad : Nat → Nat} (C0 : MCx p s m args meth c b_M_signToken 6 none D cl cB cI cJ cZ cS iM A) (hR : R = rm_M_signToken) (N : Nat) (G : (MS → Int32 → Int32 → Int32 → Int32 → Int32 → Option (MS × Unit)) × (MS → Int32 → Int32 → Int32 → Int32 → Int32 → Option (MS × Unit))) (hG : (∀ (u : MS) (v1 : Int32) (v2 : Int32) (v3 : Int32) (v4 : Int32) (v5 : Int32) (x : MS × Unit), G.1 u v1 v2 v3 v4 v5 = some x → ∀ (H : Heap) (locs : List Loc), va_P D cl (wM cB cI cJ cZ cS iM h0 ad u) H → va_D A (wM cB cI cJ cZ cS iM h0 ad u) → va_S A s.heap H locs → ∀ (ls : Array Slot), lv_has ls 6 [(0, .ref h0), (1, .int v1), (2, .int v2), (3, .int v3), (4, .int v4), (5, .int v5)] → W p l e R s m args below meth c H locs 0 0 (MQ below (mQv D cl cB cI cJ cZ cS iM h0 ad A x) args s 0 0 A) (F0 m 19 ls [])) ∧ (∀ (u : MS) (v1 : Int32) (v2 : Int32) (v3 : Int32) (v4 : Int32) (v5 : Int32) (x : MS × Unit), G.2 u v1 v2 v3 v4 v5 = some x → ∀ (H : Heap) (locs : List Loc), va_P D cl (wM cB cI cJ cZ cS iM h0 ad u) H → va_D A (wM cB cI cJ cZ cS iM h0 ad u) → va_S A s.heap H locs → ∀ (ls : Array Slot), lv_has ls 6 [(0, .ref h0), (1, .int v1), (2, .int v2), (3, .int v3), (4, .int v4), (5, .int v5)] → W p l e R s m args below meth c H locs 0 0 (MQ below (mQv D cl cB cI cJ cZ cS iM h0 ad A x) args s 0 0 A) (F0 m 63 ls []))) : ∀ (u : MS) (v1 : Int32) (v2 : Int32) (v3 : Int32) (v4 : Int32) (v5 : Int32) (x : MS × Unit), fb_M_signToken_110 N G u v1 v2 v3 v4 v5 = some x → ∀ (H : Heap) (locs : List Loc), va_P D cl (wM cB cI cJ cZ cS iM h0 ad u) H → va_D A (wM cB cI cJ cZ cS iM h0 ad u) → va_S A s.heap H locs → ∀ (ls : Array Slot), lv_has ls 6 [(0, .ref h0), (1, .int v1), (2, .int v2), (3, .int v3), (4, .int v4), (5, .int v5)] → W p l e R s m args below meth c H locs 0 0 (MQ below (mQv D cl cB cI cJ cZ cS iM h0 ad A x) args s 0 0 A) (F0 m 110 ls []) := by
  intro u v1 v2 v3 v4 v5 x hf H locs hP hD hS ls hl
  obtain ⟨hx, hb, hr, hml, ht, hown, hM, hK, hA, hlocks⟩ := id C0
  unfold fb_M_signToken_110 at hf
  refine lv_iinc (v := (v5 + 3)) (lv' := [(5, .int (v5 + 3)), (0, .ref h0), (1, .int v1), (2, .int v2), (3, .int v3), (4, .int v4)]) hx hb d_M_signToken_110 hl (k := 5) rfl rfl (by decide) rfl (fun ls hl => ?_)
  refine lv_goto (tgt := 63) hx hb d_M_signToken_113 (by decide) ?_
  exact hG.2 _ _ _ _ _ _ _ hf H locs hP hD hS ls (lv_sub hl [1, 2, 3, 4, 5, 0] rfl)
def fb_M_signToken_63 (N : Nat) (G : (MS → Int32 → Int32 → Int32 → Int32 → Int32 → Option (MS × Unit)) × (MS → Int32 → Int32 → Int32 → Int32 → Int32 → Option (MS × Unit))) (u : MS) (v1 : Int32) (v2 : Int32) (v3 : Int32) (v4 : Int32) (v5 : Int32) : Option (MS × Unit) := br (decide ((Int32.ofNat (ln 21)) ≤ v5)) (br (decide (v3 = (-1))) (fb_M_signToken_129 N G u (v3) (v4) (7)) (fb_M_signToken_129 N G u (v3) (v4) (6))) (ck (inb v5 (ln 21)) (br (decide ((u.2.2.1 21 v5.toNatClampNeg) = v1)) (ck (inb (v5 + 1) (ln 21)) (br (decide ((u.2.2.1 21 (v5 + 1).toNatClampNeg) = v2)) (ck (inb (v5 + 2) (ln 21)) (lt (u.2.2.1 21 (v5 + 2).toNatClampNeg) (fun y3 => fb_M_signToken_110 N G u (v1) (v2) (y3) (2) (v5)))) (fb_M_signToken_110 N G u (v1) (v2) (v3) (v4) (v5)))) (fb_M_signToken_110 N G u (v1) (v2) (v3) (v4) (v5))))
set_option maxRecDepth 100000 in
set_option maxHeartbeats 4000000 in
theorem wb_M_signToken_63 {p : Program} {l : Launch} {e : Env} {R : Room} {s : State} {m : MethodId} {args : Array Value} {below : List Frame} {meth : Method} {c : Code} {D : va_G} {cl : List vw_C} {cB cI cJ cZ cS : ClassId} {A : Nat → Prop} {iM h0 : Nat} {ad : Nat → Nat} (C0 : MCx p s m args meth c b_M_signToken 6 none D cl cB cI cJ cZ cS iM A) (hR : R = rm_M_signToken) (N : Nat) (G : (MS → Int32 → Int32 → Int32 → Int32 → Int32 → Option (MS × Unit)) × (MS → Int32 → Int32 → Int32 → Int32 → Int32 → Option (MS × Unit))) (hG : (∀ (u : MS) (v1 : Int32) (v2 : Int32) (v3 : Int32) (v4 : Int32) (v5 : Int32) (x : MS × Unit), G.1 u v1 v2 v3 v4 v5 = some x → ∀ (H : Heap) (locs : List Loc), va_P D cl (wM cB cI cJ cZ cS iM h0 ad u) H → va_D A (wM cB cI cJ cZ cS iM h0 ad u) → va_S A s.heap H locs → ∀ (ls : Array Slot), lv_has ls 6 [(0, .ref h0), (1, .int v1), (2, .int v2), (3, .int v3), (4, .int v4), (5, .int v5)] → W p l e R s m args below meth c H locs 0 0 (MQ below (mQv D cl cB cI cJ cZ cS iM h0 ad A x) args s 0 0 A) (F0 m 19 ls [])) ∧ (∀ (u : MS) (v1 : Int32) (v2 : Int32) (v3 : Int32) (v4 : Int32) (v5 : Int32) (x : MS × Unit), G.2 u v1 v2 v3 v4 v5 = some x → ∀ (H : Heap) (locs : List Loc), va_P D cl (wM cB cI cJ cZ cS iM h0 ad u) H → va_D A (wM cB cI cJ cZ cS iM h0 ad u) → va_S A s.heap H locs → ∀ (ls : Array Slot), lv_has ls 6 [(0, .ref h0), (1, .int v1), (2, .int v2), (3, .int v3), (4, .int v4), (5, .int v5)] → W p l e R s m args below meth c H locs 0 0 (MQ below (mQv D cl cB cI cJ cZ cS iM h0 ad A x) args s 0 0 A) (F0 m 63 ls []))) : ∀ (u : MS) (v1 : Int32) (v2 : Int32) (v3 : Int32) (v4 : Int32) (v5 : Int32) (x : MS × Unit), fb_M_signToken_63 N G u v1 v2 v3 v4 v5 = some x → ∀ (H : Heap) (locs : List Loc), va_P D cl (wM cB cI cJ cZ cS iM h0 ad u) H → va_D A (wM cB cI cJ cZ cS iM h0 ad u) → va_S A s.heap H locs → ∀ (ls : Array Slot), lv_has ls 6 [(0, .ref h0), (1, .int v1), (2, .int v2), (3, .int v3), (4, .int v4), (5, .int v5)] → W p l e R s m args below meth c H locs 0 0 (MQ below (mQv D cl cB cI cJ cZ cS iM h0 ad A x) args s 0 0 A) (F0 m 63 ls []) := by
  intro u v1 v2 v3 v4 v5 x hf H locs hP hD hS ls hl
  obtain ⟨hx, hb, hr, hml, ht, hown, hM, hK, hA, hlocks⟩ := id C0
  unfold fb_M_signToken_63 at hf
  refine lv_iload hx hb d_M_signToken_63 (lv_at hl 5 rfl) ?_
  refine lv_aload_n hx hb d_M_signToken_65 rfl (lv_at hl 0 rfl) ?_
  refine ug_R hx hb ht hown hM hK hP 21 (by decide) lk_M_21 (by decide) d_M_signToken_66 ?_
  refine un_A hx hb hK hP (k := 21) (by decide) (by decide) d_M_signToken_69 ?_
  refine lv_icmp_ge (tgt := 116) hx hb d_M_signToken_70 (by decide) (fun hc => ?_) (fun hc => ?_)
  · rw [br_p _ hc] at hf
    refine lv_aload_n hx hb d_M_signToken_116 rfl (lv_at hl 0 rfl) ?_
    refine lv_iload_n hx hb d_M_signToken_117 rfl (lv_at hl 3 rfl) ?_
    refine lv_iconst (v := (-1)) hx hb d_M_signToken_118 (by decide) ?_
    refine lv_icmp_ne (tgt := 127) hx hb d_M_signToken_119 (by decide) (fun hc => ?_) (fun hc => ?_)
    · rw [br_n _ hc] at hf
      refine lv_bipush (v := 6) hx hb d_M_signToken_127 (by decide) ?_
      exact wb_M_signToken_129 C0 hR N G hG _ _ _ _ _ hf H locs hP hD hS ls (lv_sub hl [0, 3, 4] rfl)
    · rw [br_p _ hc] at hf
      refine lv_bipush (v := 7) hx hb d_M_signToken_122 (by decide) ?_
      refine lv_goto (tgt := 129) hx hb d_M_signToken_124 (by decide) ?_
      exact wb_M_signToken_129 C0 hR N G hG _ _ _ _ _ hf H locs hP hD hS ls (lv_sub hl [0, 3, 4] rfl)
  · rw [br_n _ hc] at hf
    refine lv_aload_n hx hb d_M_signToken_73 rfl (lv_at hl 0 rfl) ?_
    refine ug_R hx hb ht hown hM hK hP 21 (by decide) lk_M_21 (by decide) d_M_signToken_74 ?_
    refine lv_iload hx hb d_M_signToken_77 (lv_at hl 5 rfl) ?_
    obtain ⟨hi9, hf⟩ := ck_some hf
    refine ul_B hx hb hK hP (by decide) (by decide) hi9 d_M_signToken_79 ?_
    refine lv_iload_n hx hb d_M_signToken_80 rfl (lv_at hl 1 rfl) ?_
    refine lv_icmp_ne (tgt := 110) hx hb d_M_signToken_81 (by decide) (fun hc => ?_) (fun hc => ?_)
    · rw [br_n _ hc] at hf
      exact wb_M_signToken_110 C0 hR N G hG _ _ _ _ _ _ _ hf H locs hP hD hS ls (lv_sub hl [0, 1, 2, 3, 4, 5] rfl)
    · rw [br_p _ hc] at hf
      refine lv_aload_n hx hb d_M_signToken_84 rfl (lv_at hl 0 rfl) ?_
      refine ug_R hx hb ht hown hM hK hP 21 (by decide) lk_M_21 (by decide) d_M_signToken_85 ?_
      refine lv_iload hx hb d_M_signToken_88 (lv_at hl 5 rfl) ?_
      refine lv_iconst (v := 1) hx hb d_M_signToken_90 (by decide) ?_
      refine lv_iadd hx hb d_M_signToken_91 ?_
      obtain ⟨hi9, hf⟩ := ck_some hf
      refine ul_B hx hb hK hP (by decide) (by decide) hi9 d_M_signToken_92 ?_
      refine lv_iload_n hx hb d_M_signToken_93 rfl (lv_at hl 2 rfl) ?_
      refine lv_icmp_ne (tgt := 110) hx hb d_M_signToken_94 (by decide) (fun hc => ?_) (fun hc => ?_)
      · rw [br_n _ hc] at hf
        exact wb_M_signToken_110 C0 hR N G hG _ _ _ _ _ _ _ hf H locs hP hD hS ls (lv_sub hl [0, 1, 2, 3, 4, 5] rfl)
      · rw [br_p _ hc] at hf
        refine lv_aload_n hx hb d_M_signToken_97 rfl (lv_at hl 0 rfl) ?_
        refine ug_R hx hb ht hown hM hK hP 21 (by decide) lk_M_21 (by decide) d_M_signToken_98 ?_
        refine lv_iload hx hb d_M_signToken_101 (lv_at hl 5 rfl) ?_
        refine lv_iconst (v := 2) hx hb d_M_signToken_103 (by decide) ?_
        refine lv_iadd hx hb d_M_signToken_104 ?_
        obtain ⟨hi9, hf⟩ := ck_some hf
        refine ul_B hx hb hK hP (by decide) (by decide) hi9 d_M_signToken_105 ?_
        obtain ⟨y3, e3, hf⟩ := lt_some hf
        rw [← e3]
        refine lv_istore_n (lv' := [(3, .int y3), (0, .ref h0), (1, .int v1), (2, .int v2), (4, .int v4), (5, .int v5)]) hx hb d_M_signToken_106 rfl hl (by decide) rfl (fun ls hl => ?_)
        refine lv_iconst (v := 2) hx hb d_M_signToken_107 (by decide) ?_
        refine lv_istore (lv' := [(4, .int 2), (3, .int y3), (0, .ref h0), (1, .int v1), (2, .int v2), (5, .int v5)]) hx hb d_M_signToken_108 hl (by decide) rfl (fun ls hl => ?_)
        exact wb_M_signToken_110 C0 hR N G hG _ _ _ _ _ _ _ hf H locs hP hD hS ls (lv_sub hl [2, 3, 4, 1, 0, 5] rfl)
def fb_M_signToken_53 (N : Nat) (G : (MS → Int32 → Int32 → Int32 → Int32 → Int32 → Option (MS × Unit)) × (MS → Int32 → Int32 → Int32 → Int32 → Int32 → Option (MS × Unit))) (u : MS) (v1 : Int32) (v2 : Int32) (v4 : Int32) (v5 : Int32) (t0 : Int32) : Option (MS × Unit) := G.1 u (v1) (v2) (t0) (v4) ((v5 + 2))
set_option maxRecDepth 100000 in
set_option maxHeartbeats 4000000 in
theorem wb_M_signToken_53 {p : Program} {l : Launch} {e : Env} {R : Room} {s : State} {m : MethodId} {args : Array Value} {below : List Frame} {meth : Method} {c : Code} {D : va_G} {cl : List vw_C} {cB cI cJ cZ cS : ClassId} {A : Nat → Prop} {iM h0 : Nat} {ad : Nat → Nat} (C0 : MCx p s m args meth c b_M_signToken 6 none D cl cB cI cJ cZ cS iM A) (hR : R = rm_M_signToken) (N : Nat) (G : (MS → Int32 → Int32 → Int32 → Int32 → Int32 → Option (MS × Unit)) × (MS → Int32 → Int32 → Int32 → Int32 → Int32 → Option (MS × Unit))) (hG : (∀ (u : MS) (v1 : Int32) (v2 : Int32) (v3 : Int32) (v4 : Int32) (v5 : Int32) (x : MS × Unit), G.1 u v1 v2 v3 v4 v5 = some x → ∀ (H : Heap) (locs : List Loc), va_P D cl (wM cB cI cJ cZ cS iM h0 ad u) H → va_D A (wM cB cI cJ cZ cS iM h0 ad u) → va_S A s.heap H locs → ∀ (ls : Array Slot), lv_has ls 6 [(0, .ref h0), (1, .int v1), (2, .int v2), (3, .int v3), (4, .int v4), (5, .int v5)] → W p l e R s m args below meth c H locs 0 0 (MQ below (mQv D cl cB cI cJ cZ cS iM h0 ad A x) args s 0 0 A) (F0 m 19 ls [])) ∧ (∀ (u : MS) (v1 : Int32) (v2 : Int32) (v3 : Int32) (v4 : Int32) (v5 : Int32) (x : MS × Unit), G.2 u v1 v2 v3 v4 v5 = some x → ∀ (H : Heap) (locs : List Loc), va_P D cl (wM cB cI cJ cZ cS iM h0 ad u) H → va_D A (wM cB cI cJ cZ cS iM h0 ad u) → va_S A s.heap H locs → ∀ (ls : Array Slot), lv_has ls 6 [(0, .ref h0), (1, .int v1), (2, .int v2), (3, .int v3), (4, .int v4), (5, .int v5)] → W p l e R s m args below meth c H locs 0 0 (MQ below (mQv D cl cB cI cJ cZ cS iM h0 ad A x) args s 0 0 A) (F0 m 63 ls []))) : ∀ (u : MS) (v1 : Int32) (v2 : Int32) (v4 : Int32) (v5 : Int32) (t0 : Int32) (x : MS × Unit), fb_M_signToken_53 N G u v1 v2 v4 v5 t0 = some x → ∀ (H : Heap) (locs : List Loc), va_P D cl (wM cB cI cJ cZ cS iM h0 ad u) H → va_D A (wM cB cI cJ cZ cS iM h0 ad u) → va_S A s.heap H locs → ∀ (ls : Array Slot), lv_has ls 6 [(0, .ref h0), (1, .int v1), (2, .int v2), (4, .int v4), (5, .int v5)] → W p l e R s m args below meth c H locs 0 0 (MQ below (mQv D cl cB cI cJ cZ cS iM h0 ad A x) args s 0 0 A) (F0 m 53 ls [.int t0]) := by
  intro u v1 v2 v4 v5 t0 x hf H locs hP hD hS ls hl
  obtain ⟨hx, hb, hr, hml, ht, hown, hM, hK, hA, hlocks⟩ := id C0
  unfold fb_M_signToken_53 at hf
  refine lv_istore_n (lv' := [(3, .int t0), (0, .ref h0), (1, .int v1), (2, .int v2), (4, .int v4), (5, .int v5)]) hx hb d_M_signToken_53 rfl hl (by decide) rfl (fun ls hl => ?_)
  refine lv_iinc (v := (v5 + 2)) (lv' := [(5, .int (v5 + 2)), (3, .int t0), (0, .ref h0), (1, .int v1), (2, .int v2), (4, .int v4)]) hx hb d_M_signToken_54 hl (k := 5) rfl rfl (by decide) rfl (fun ls hl => ?_)
  refine lv_goto (tgt := 19) hx hb d_M_signToken_57 (by decide) ?_
  exact hG.1 _ _ _ _ _ _ _ hf H locs hP hD hS ls (lv_sub hl [2, 3, 4, 1, 5, 0] rfl)
def fb_M_signToken_19 (N : Nat) (G : (MS → Int32 → Int32 → Int32 → Int32 → Int32 → Option (MS × Unit)) × (MS → Int32 → Int32 → Int32 → Int32 → Int32 → Option (MS × Unit))) (u : MS) (v1 : Int32) (v2 : Int32) (v3 : Int32) (v4 : Int32) (v5 : Int32) : Option (MS × Unit) := br (decide ((Int32.ofNat (ln 22)) ≤ v5)) (G.2 u (v1) (v2) (v3) (v4) (0)) (ck (inb v5 (ln 22)) (br (decide ((u.2.2.1 22 v5.toNatClampNeg) = v1)) (ck (inb (v5 + 1) (ln 22)) (fb_M_signToken_53 N G u (v1) (v2) (v4) (v5) ((u.2.2.1 22 (v5 + 1).toNatClampNeg)))) (fb_M_signToken_53 N G u (v1) (v2) (v4) (v5) (v3))))
set_option maxRecDepth 100000 in
set_option maxHeartbeats 4000000 in
theorem wb_M_signToken_19 {p : Program} {l : Launch} {e : Env} {R : Room} {s : State} {m : MethodId} {args : Array Value} {below : List Frame} {meth : Method} {c : Code} {D : va_G} {cl : List vw_C} {cB cI cJ cZ cS : ClassId} {A : Nat → Prop} {iM h0 : Nat} {ad : Nat → Nat} (C0 : MCx p s m args meth c b_M_signToken 6 none D cl cB cI cJ cZ cS iM A) (hR : R = rm_M_signToken) (N : Nat) (G : (MS → Int32 → Int32 → Int32 → Int32 → Int32 → Option (MS × Unit)) × (MS → Int32 → Int32 → Int32 → Int32 → Int32 → Option (MS × Unit))) (hG : (∀ (u : MS) (v1 : Int32) (v2 : Int32) (v3 : Int32) (v4 : Int32) (v5 : Int32) (x : MS × Unit), G.1 u v1 v2 v3 v4 v5 = some x → ∀ (H : Heap) (locs : List Loc), va_P D cl (wM cB cI cJ cZ cS iM h0 ad u) H → va_D A (wM cB cI cJ cZ cS iM h0 ad u) → va_S A s.heap H locs → ∀ (ls : Array Slot), lv_has ls 6 [(0, .ref h0), (1, .int v1), (2, .int v2), (3, .int v3), (4, .int v4), (5, .int v5)] → W p l e R s m args below meth c H locs 0 0 (MQ below (mQv D cl cB cI cJ cZ cS iM h0 ad A x) args s 0 0 A) (F0 m 19 ls [])) ∧ (∀ (u : MS) (v1 : Int32) (v2 : Int32) (v3 : Int32) (v4 : Int32) (v5 : Int32) (x : MS × Unit), G.2 u v1 v2 v3 v4 v5 = some x → ∀ (H : Heap) (locs : List Loc), va_P D cl (wM cB cI cJ cZ cS iM h0 ad u) H → va_D A (wM cB cI cJ cZ cS iM h0 ad u) → va_S A s.heap H locs → ∀ (ls : Array Slot), lv_has ls 6 [(0, .ref h0), (1, .int v1), (2, .int v2), (3, .int v3), (4, .int v4), (5, .int v5)] → W p l e R s m args below meth c H locs 0 0 (MQ below (mQv D cl cB cI cJ cZ cS iM h0 ad A x) args s 0 0 A) (F0 m 63 ls []))) : ∀ (u : MS) (v1 : Int32) (v2 : Int32) (v3 : Int32) (v4 : Int32) (v5 : Int32) (x : MS × Unit), fb_M_signToken_19 N G u v1 v2 v3 v4 v5 = some x → ∀ (H : Heap) (locs : List Loc), va_P D cl (wM cB cI cJ cZ cS iM h0 ad u) H → va_D A (wM cB cI cJ cZ cS iM h0 ad u) → va_S A s.heap H locs → ∀ (ls : Array Slot), lv_has ls 6 [(0, .ref h0), (1, .int v1), (2, .int v2), (3, .int v3), (4, .int v4), (5, .int v5)] → W p l e R s m args below meth c H locs 0 0 (MQ below (mQv D cl cB cI cJ cZ cS iM h0 ad A x) args s 0 0 A) (F0 m 19 ls []) := by
  intro u v1 v2 v3 v4 v5 x hf H locs hP hD hS ls hl
  obtain ⟨hx, hb, hr, hml, ht, hown, hM, hK, hA, hlocks⟩ := id C0
  unfold fb_M_signToken_19 at hf
  refine lv_iload hx hb d_M_signToken_19 (lv_at hl 5 rfl) ?_
  refine lv_aload_n hx hb d_M_signToken_21 rfl (lv_at hl 0 rfl) ?_
  refine ug_R hx hb ht hown hM hK hP 22 (by decide) lk_M_22 (by decide) d_M_signToken_22 ?_
  refine un_A hx hb hK hP (k := 22) (by decide) (by decide) d_M_signToken_25 ?_
  refine lv_icmp_ge (tgt := 60) hx hb d_M_signToken_26 (by decide) (fun hc => ?_) (fun hc => ?_)
  · rw [br_p _ hc] at hf
    refine lv_iconst (v := 0) hx hb d_M_signToken_60 (by decide) ?_
    refine lv_istore (lv' := [(5, .int 0), (0, .ref h0), (1, .int v1), (2, .int v2), (3, .int v3), (4, .int v4)]) hx hb d_M_signToken_61 hl (by decide) rfl (fun ls hl => ?_)
    exact hG.2 _ _ _ _ _ _ _ hf H locs hP hD hS ls (lv_sub hl [1, 2, 3, 4, 5, 0] rfl)
  · rw [br_n _ hc] at hf
    refine lv_aload_n hx hb d_M_signToken_29 rfl (lv_at hl 0 rfl) ?_
    refine ug_R hx hb ht hown hM hK hP 22 (by decide) lk_M_22 (by decide) d_M_signToken_30 ?_
    refine lv_iload hx hb d_M_signToken_33 (lv_at hl 5 rfl) ?_
    obtain ⟨hi9, hf⟩ := ck_some hf
    refine ul_B hx hb hK hP (by decide) (by decide) hi9 d_M_signToken_35 ?_
    refine lv_iload_n hx hb d_M_signToken_36 rfl (lv_at hl 1 rfl) ?_
    refine lv_icmp_ne (tgt := 52) hx hb d_M_signToken_37 (by decide) (fun hc => ?_) (fun hc => ?_)
    · rw [br_n _ hc] at hf
      refine lv_iload_n hx hb d_M_signToken_52 rfl (lv_at hl 3 rfl) ?_
      exact wb_M_signToken_53 C0 hR N G hG _ _ _ _ _ _ _ hf H locs hP hD hS ls (lv_sub hl [0, 1, 2, 4, 5] rfl)
    · rw [br_p _ hc] at hf
      refine lv_aload_n hx hb d_M_signToken_40 rfl (lv_at hl 0 rfl) ?_
      refine ug_R hx hb ht hown hM hK hP 22 (by decide) lk_M_22 (by decide) d_M_signToken_41 ?_
      refine lv_iload hx hb d_M_signToken_44 (lv_at hl 5 rfl) ?_
      refine lv_iconst (v := 1) hx hb d_M_signToken_46 (by decide) ?_
      refine lv_iadd hx hb d_M_signToken_47 ?_
      obtain ⟨hi9, hf⟩ := ck_some hf
      refine ul_B hx hb hK hP (by decide) (by decide) hi9 d_M_signToken_48 ?_
      refine lv_goto (tgt := 53) hx hb d_M_signToken_49 (by decide) ?_
      exact wb_M_signToken_53 C0 hR N G hG _ _ _ _ _ _ _ hf H locs hP hD hS ls (lv_sub hl [0, 1, 2, 4, 5] rfl)
def fb_M_signToken_0 (N : Nat) (G : (MS → Int32 → Int32 → Int32 → Int32 → Int32 → Option (MS × Unit)) × (MS → Int32 → Int32 → Int32 → Int32 → Int32 → Option (MS × Unit))) (u : MS) (v1 : Int32) : Option (MS × Unit) := bnd (fm_M_byteAt N u ((u.1 10) + 1)) (fun u4 r4 => G.1 u4 (v1) (r4) ((-1)) (1) (0))
set_option maxRecDepth 100000 in
set_option maxHeartbeats 4000000 in
theorem wb_M_signToken_0 {p : Program} {l : Launch} {e : Env} {R : Room} {s : State} {m : MethodId} {args : Array Value} {below : List Frame} {meth : Method} {c : Code} {D : va_G} {cl : List vw_C} {cB cI cJ cZ cS : ClassId} {A : Nat → Prop} {iM h0 : Nat} {ad : Nat → Nat} (C0 : MCx p s m args meth c b_M_signToken 6 none D cl cB cI cJ cZ cS iM A) (hR : R = rm_M_signToken) (N : Nat) (G : (MS → Int32 → Int32 → Int32 → Int32 → Int32 → Option (MS × Unit)) × (MS → Int32 → Int32 → Int32 → Int32 → Int32 → Option (MS × Unit))) (hG : (∀ (u : MS) (v1 : Int32) (v2 : Int32) (v3 : Int32) (v4 : Int32) (v5 : Int32) (x : MS × Unit), G.1 u v1 v2 v3 v4 v5 = some x → ∀ (H : Heap) (locs : List Loc), va_P D cl (wM cB cI cJ cZ cS iM h0 ad u) H → va_D A (wM cB cI cJ cZ cS iM h0 ad u) → va_S A s.heap H locs → ∀ (ls : Array Slot), lv_has ls 6 [(0, .ref h0), (1, .int v1), (2, .int v2), (3, .int v3), (4, .int v4), (5, .int v5)] → W p l e R s m args below meth c H locs 0 0 (MQ below (mQv D cl cB cI cJ cZ cS iM h0 ad A x) args s 0 0 A) (F0 m 19 ls [])) ∧ (∀ (u : MS) (v1 : Int32) (v2 : Int32) (v3 : Int32) (v4 : Int32) (v5 : Int32) (x : MS × Unit), G.2 u v1 v2 v3 v4 v5 = some x → ∀ (H : Heap) (locs : List Loc), va_P D cl (wM cB cI cJ cZ cS iM h0 ad u) H → va_D A (wM cB cI cJ cZ cS iM h0 ad u) → va_S A s.heap H locs → ∀ (ls : Array Slot), lv_has ls 6 [(0, .ref h0), (1, .int v1), (2, .int v2), (3, .int v3), (4, .int v4), (5, .int v5)] → W p l e R s m args below meth c H locs 0 0 (MQ below (mQv D cl cB cI cJ cZ cS iM h0 ad A x) args s 0 0 A) (F0 m 63 ls []))) : ∀ (u : MS) (v1 : Int32) (x : MS × Unit), fb_M_signToken_0 N G u v1 = some x → ∀ (H : Heap) (locs : List Loc), va_P D cl (wM cB cI cJ cZ cS iM h0 ad u) H → va_D A (wM cB cI cJ cZ cS iM h0 ad u) → va_S A s.heap H locs → ∀ (ls : Array Slot), lv_has ls 6 [(0, .ref h0), (1, .int v1)] → W p l e R s m args below meth c H locs 0 0 (MQ below (mQv D cl cB cI cJ cZ cS iM h0 ad A x) args s 0 0 A) (F0 m 0 ls []) := by
  intro u v1 x hf H locs hP hD hS ls hl
  obtain ⟨hx, hb, hr, hml, ht, hown, hM, hK, hA, hlocks⟩ := id C0
  unfold fb_M_signToken_0 at hf
  refine lv_aload_n hx hb d_M_signToken_0 rfl (lv_at hl 0 rfl) ?_
  refine lv_aload_n hx hb d_M_signToken_1 rfl (lv_at hl 0 rfl) ?_
  refine ug_I hx hb ht hown hM hK hP 10 (by decide) lk_M_10 (by decide) d_M_signToken_2 ?_
  refine lv_iconst (v := 1) hx hb d_M_signToken_5 (by decide) ?_
  refine lv_iadd hx hb d_M_signToken_6 ?_
  obtain ⟨u4, r4, hc4, hf⟩ := bnd_some hf
  refine mV_i (As := [.int ((u.1 10) + 1)]) (rest := []) C0 hP hD hS (c_M_byteAt N hM hc4) k_M_byteAt hl_M_byteAt hi_M_byteAt hs_M_byteAt hini_M rfl rfl hd_M_byteAt rfl (rm_M_signToken_M_byteAt hR) hl.1 (Nat.le_of_ble_eq_true rfl) d_M_signToken_7 rfl ⟨Nat.zero_le _, Nat.zero_le _⟩ (fun H locs hP hD hS => ?_)
  refine lv_istore_n (lv' := [(2, .int r4), (0, .ref h0), (1, .int v1)]) hx hb d_M_signToken_10 rfl hl (by decide) rfl (fun ls hl => ?_)
  refine lv_iconst (v := (-1)) hx hb d_M_signToken_11 (by decide) ?_
  refine lv_istore_n (lv' := [(3, .int (-1)), (2, .int r4), (0, .ref h0), (1, .int v1)]) hx hb d_M_signToken_12 rfl hl (by decide) rfl (fun ls hl => ?_)
  refine lv_iconst (v := 1) hx hb d_M_signToken_13 (by decide) ?_
  refine lv_istore (lv' := [(4, .int 1), (3, .int (-1)), (2, .int r4), (0, .ref h0), (1, .int v1)]) hx hb d_M_signToken_14 hl (by decide) rfl (fun ls hl => ?_)
  refine lv_iconst (v := 0) hx hb d_M_signToken_16 (by decide) ?_
  refine lv_istore (lv' := [(5, .int 0), (4, .int 1), (3, .int (-1)), (2, .int r4), (0, .ref h0), (1, .int v1)]) hx hb d_M_signToken_17 hl (by decide) rfl (fun ls hl => ?_)
  exact hG.1 _ _ _ _ _ _ _ hf H locs hP hD hS ls (lv_sub hl [4, 5, 3, 2, 1, 0] rfl)
def gg_M_signToken (N : Nat) : Nat → ((MS → Int32 → Int32 → Int32 → Int32 → Int32 → Option (MS × Unit)) × (MS → Int32 → Int32 → Int32 → Int32 → Int32 → Option (MS × Unit)))
  | 0 => (fun _ _ _ _ _ _ => none, fun _ _ _ _ _ _ => none)
  | n + 1 => (fb_M_signToken_19 N (gg_M_signToken N n), fb_M_signToken_63 N (gg_M_signToken N n))
theorem wg_M_signToken {p : Program} {l : Launch} {e : Env} {R : Room} {s : State} {m : MethodId} {args : Array Value} {below : List Frame} {meth : Method} {c : Code} {D : va_G} {cl : List vw_C} {cB cI cJ cZ cS : ClassId} {A : Nat → Prop} {iM h0 : Nat} {ad : Nat → Nat} (C0 : MCx p s m args meth c b_M_signToken 6 none D cl cB cI cJ cZ cS iM A) (hR : R = rm_M_signToken) (N : Nat) : ∀ n : Nat, (∀ (u : MS) (v1 : Int32) (v2 : Int32) (v3 : Int32) (v4 : Int32) (v5 : Int32) (x : MS × Unit), (gg_M_signToken N n).1 u v1 v2 v3 v4 v5 = some x → ∀ (H : Heap) (locs : List Loc), va_P D cl (wM cB cI cJ cZ cS iM h0 ad u) H → va_D A (wM cB cI cJ cZ cS iM h0 ad u) → va_S A s.heap H locs → ∀ (ls : Array Slot), lv_has ls 6 [(0, .ref h0), (1, .int v1), (2, .int v2), (3, .int v3), (4, .int v4), (5, .int v5)] → W p l e R s m args below meth c H locs 0 0 (MQ below (mQv D cl cB cI cJ cZ cS iM h0 ad A x) args s 0 0 A) (F0 m 19 ls [])) ∧ (∀ (u : MS) (v1 : Int32) (v2 : Int32) (v3 : Int32) (v4 : Int32) (v5 : Int32) (x : MS × Unit), (gg_M_signToken N n).2 u v1 v2 v3 v4 v5 = some x → ∀ (H : Heap) (locs : List Loc), va_P D cl (wM cB cI cJ cZ cS iM h0 ad u) H → va_D A (wM cB cI cJ cZ cS iM h0 ad u) → va_S A s.heap H locs → ∀ (ls : Array Slot), lv_has ls 6 [(0, .ref h0), (1, .int v1), (2, .int v2), (3, .int v3), (4, .int v4), (5, .int v5)] → W p l e R s m args below meth c H locs 0 0 (MQ below (mQv D cl cB cI cJ cZ cS iM h0 ad A x) args s 0 0 A) (F0 m 63 ls []))
  | 0 => ⟨(fun u v1 v2 v3 v4 v5 x hf => by cases hf), (fun u v1 v2 v3 v4 v5 x hf => by cases hf)⟩
  | n + 1 => ⟨wb_M_signToken_19 C0 hR N (gg_M_signToken N n) (wg_M_signToken C0 hR N n), wb_M_signToken_63 C0 hR N (gg_M_signToken N n) (wg_M_signToken C0 hR N n)⟩
def fm_M_signToken (N : Nat) (u : MS) (v1 : Int32) : Option (MS × Unit) := fb_M_signToken_0 N (gg_M_signToken N N) u v1
set_option maxRecDepth 100000 in
set_option maxHeartbeats 4000000 in
theorem c_M_signToken (N : Nat) {l : Launch} {D : va_G} {cl : List vw_C} {cB cI cJ cZ cS : ClassId} {iM h0 : Nat} {ad : Nat → Nat} {u : MS} {sz : Nat} {v1 : Int32} {x : MS × Unit} (hM : cl[iM]? = some (R_M, F_M, 171)) (hf : fm_M_signToken N u v1 = some x) : Met l y_M_signToken (wd_ws y_M_signToken b_M_signToken 6 none) rm_M_signToken (mPc D cl cB cI cJ cZ cS iM h0 ad u sz [.ref h0, .int v1]) (mQv D cl cB cI cJ cZ cS iM h0 ad (mA cB cI cJ cZ cS iM h0 ad u sz) x) 0 0 (mA cB cI cJ cZ cS iM h0 ad u sz) :=
  mMet (by decide) rfl hM (Nat.le_of_ble_eq_true rfl) (fun p e s m below meth c ls hsz C0 hP hD hS hl => by
    have hR : rm_M_signToken = rm_M_signToken := rfl
    exact wb_M_signToken_0 C0 hR N (gg_M_signToken N N) (wg_M_signToken C0 hR N N) u _ x hf s.heap [] hP hD hS ls (lv_sub hl [0, 1] rfl))
abbrev b_M_readTokens : ByteArray := prog_14_method_15_code
def y_M_readTokens : MethodName := ⟨R_M, "readTokens", "()V"⟩
def w_M_readTokens : List Cond := wd_ws y_M_readTokens b_M_readTokens 2 none
set_option maxRecDepth 100000 in
theorem k_M_readTokens : Cond.code y_M_readTokens b_M_readTokens 2 none ∈ wd_tbl := wd_of 2637 rfl rfl
theorem d_M_readTokens_0 : decode b_M_readTokens 0 = .ok (.aload_n 0, 1) := by decide +kernel
theorem d_M_readTokens_1 : decode b_M_readTokens 1 = .ok (.iconst 0, 1) := by decide +kernel
theorem d_M_readTokens_2 : decode b_M_readTokens 2 = .ok (.putfield 408, 3) := by decide +kernel
theorem d_M_readTokens_5 : decode b_M_readTokens 5 = .ok (.aload_n 0, 1) := by decide +kernel
theorem d_M_readTokens_6 : decode b_M_readTokens 6 = .ok (.iconst 1, 1) := by decide +kernel
theorem d_M_readTokens_7 : decode b_M_readTokens 7 = .ok (.putfield 405, 3) := by decide +kernel
theorem d_M_readTokens_10 : decode b_M_readTokens 10 = .ok (.aload_n 0, 1) := by decide +kernel
theorem d_M_readTokens_11 : decode b_M_readTokens 11 = .ok (.iconst 0, 1) := by decide +kernel
theorem d_M_readTokens_12 : decode b_M_readTokens 12 = .ok (.putfield 402, 3) := by decide +kernel
theorem d_M_readTokens_15 : decode b_M_readTokens 15 = .ok (.aload_n 0, 1) := by decide +kernel
theorem d_M_readTokens_16 : decode b_M_readTokens 16 = .ok (.invokevirtual 411, 3) := by decide +kernel
theorem d_M_readTokens_19 : decode b_M_readTokens 19 = .ok (.aload_n 0, 1) := by decide +kernel
theorem d_M_readTokens_20 : decode b_M_readTokens 20 = .ok (.getfield 408, 3) := by decide +kernel
theorem d_M_readTokens_23 : decode b_M_readTokens 23 = .ok (.aload_n 0, 1) := by decide +kernel
theorem d_M_readTokens_24 : decode b_M_readTokens 24 = .ok (.getfield 372, 3) := by decide +kernel
theorem d_M_readTokens_27 : decode b_M_readTokens 27 = .ok (.if_icmp .ge 189, 3) := by decide +kernel
theorem d_M_readTokens_30 : decode b_M_readTokens 30 = .ok (.aload_n 0, 1) := by decide +kernel
theorem d_M_readTokens_31 : decode b_M_readTokens 31 = .ok (.getfield 402, 3) := by decide +kernel
theorem d_M_readTokens_34 : decode b_M_readTokens 34 = .ok (.ifCond .eq 19, 3) := by decide +kernel
theorem d_M_readTokens_37 : decode b_M_readTokens 37 = .ok (.aload_n 0, 1) := by decide +kernel
theorem d_M_readTokens_38 : decode b_M_readTokens 38 = .ok (.getfield 22, 3) := by decide +kernel
theorem d_M_readTokens_41 : decode b_M_readTokens 41 = .ok (.aload_n 0, 1) := by decide +kernel
theorem d_M_readTokens_42 : decode b_M_readTokens 42 = .ok (.getfield 402, 3) := by decide +kernel
theorem d_M_readTokens_45 : decode b_M_readTokens 45 = .ok (.iconst 1, 1) := by decide +kernel
theorem d_M_readTokens_46 : decode b_M_readTokens 46 = .ok (.isub, 1) := by decide +kernel
theorem d_M_readTokens_47 : decode b_M_readTokens 47 = .ok (.baload, 1) := by decide +kernel
theorem d_M_readTokens_48 : decode b_M_readTokens 48 = .ok (.bipush 7, 2) := by decide +kernel
theorem d_M_readTokens_50 : decode b_M_readTokens 50 = .ok (.if_icmp .eq 166, 3) := by decide +kernel
theorem d_M_readTokens_53 : decode b_M_readTokens 53 = .ok (.aload_n 0, 1) := by decide +kernel
theorem d_M_readTokens_54 : decode b_M_readTokens 54 = .ok (.aload_n 0, 1) := by decide +kernel
theorem d_M_readTokens_55 : decode b_M_readTokens 55 = .ok (.getfield 408, 3) := by decide +kernel
theorem d_M_readTokens_58 : decode b_M_readTokens 58 = .ok (.invokevirtual 414, 3) := by decide +kernel
theorem d_M_readTokens_61 : decode b_M_readTokens 61 = .ok (.istore_n 1, 1) := by decide +kernel
theorem d_M_readTokens_62 : decode b_M_readTokens 62 = .ok (.iload_n 1, 1) := by decide +kernel
theorem d_M_readTokens_63 : decode b_M_readTokens 63 = .ok (.bipush 10, 2) := by decide +kernel
theorem d_M_readTokens_65 : decode b_M_readTokens 65 = .ok (.if_icmp .eq 15, 3) := by decide +kernel
theorem d_M_readTokens_68 : decode b_M_readTokens 68 = .ok (.iload_n 1, 1) := by decide +kernel
theorem d_M_readTokens_69 : decode b_M_readTokens 69 = .ok (.bipush 9, 2) := by decide +kernel
theorem d_M_readTokens_71 : decode b_M_readTokens 71 = .ok (.if_icmp .eq 9, 3) := by decide +kernel
theorem d_M_readTokens_74 : decode b_M_readTokens 74 = .ok (.iload_n 1, 1) := by decide +kernel
theorem d_M_readTokens_75 : decode b_M_readTokens 75 = .ok (.bipush 32, 2) := by decide +kernel
theorem d_M_readTokens_77 : decode b_M_readTokens 77 = .ok (.if_icmp .ne 39, 3) := by decide +kernel
theorem d_M_readTokens_80 : decode b_M_readTokens 80 = .ok (.aload_n 0, 1) := by decide +kernel
theorem d_M_readTokens_81 : decode b_M_readTokens 81 = .ok (.iload_n 1, 1) := by decide +kernel
theorem d_M_readTokens_82 : decode b_M_readTokens 82 = .ok (.bipush 10, 2) := by decide +kernel
theorem d_M_readTokens_84 : decode b_M_readTokens 84 = .ok (.if_icmp .ne 12, 3) := by decide +kernel
theorem d_M_readTokens_87 : decode b_M_readTokens 87 = .ok (.aload_n 0, 1) := by decide +kernel
theorem d_M_readTokens_88 : decode b_M_readTokens 88 = .ok (.getfield 405, 3) := by decide +kernel
theorem d_M_readTokens_91 : decode b_M_readTokens 91 = .ok (.iconst 1, 1) := by decide +kernel
theorem d_M_readTokens_92 : decode b_M_readTokens 92 = .ok (.iadd, 1) := by decide +kernel
theorem d_M_readTokens_93 : decode b_M_readTokens 93 = .ok (.goto 7, 3) := by decide +kernel
theorem d_M_readTokens_96 : decode b_M_readTokens 96 = .ok (.aload_n 0, 1) := by decide +kernel
theorem d_M_readTokens_97 : decode b_M_readTokens 97 = .ok (.getfield 405, 3) := by decide +kernel
theorem d_M_readTokens_100 : decode b_M_readTokens 100 = .ok (.putfield 405, 3) := by decide +kernel
theorem d_M_readTokens_103 : decode b_M_readTokens 103 = .ok (.aload_n 0, 1) := by decide +kernel
theorem d_M_readTokens_104 : decode b_M_readTokens 104 = .ok (.dup, 1) := by decide +kernel
theorem d_M_readTokens_105 : decode b_M_readTokens 105 = .ok (.getfield 408, 3) := by decide +kernel
theorem d_M_readTokens_108 : decode b_M_readTokens 108 = .ok (.iconst 1, 1) := by decide +kernel
theorem d_M_readTokens_109 : decode b_M_readTokens 109 = .ok (.iadd, 1) := by decide +kernel
theorem d_M_readTokens_110 : decode b_M_readTokens 110 = .ok (.putfield 408, 3) := by decide +kernel
theorem d_M_readTokens_113 : decode b_M_readTokens 113 = .ok (.goto 100, 3) := by decide +kernel
theorem d_M_readTokens_116 : decode b_M_readTokens 116 = .ok (.iload_n 1, 1) := by decide +kernel
theorem d_M_readTokens_117 : decode b_M_readTokens 117 = .ok (.bipush 37, 2) := by decide +kernel
theorem d_M_readTokens_119 : decode b_M_readTokens 119 = .ok (.if_icmp .ne 40, 3) := by decide +kernel
theorem d_M_readTokens_122 : decode b_M_readTokens 122 = .ok (.aload_n 0, 1) := by decide +kernel
theorem d_M_readTokens_123 : decode b_M_readTokens 123 = .ok (.getfield 408, 3) := by decide +kernel
theorem d_M_readTokens_126 : decode b_M_readTokens 126 = .ok (.aload_n 0, 1) := by decide +kernel
theorem d_M_readTokens_127 : decode b_M_readTokens 127 = .ok (.getfield 372, 3) := by decide +kernel
theorem d_M_readTokens_130 : decode b_M_readTokens 130 = .ok (.if_icmp .ge 83, 3) := by decide +kernel
theorem d_M_readTokens_133 : decode b_M_readTokens 133 = .ok (.aload_n 0, 1) := by decide +kernel
theorem d_M_readTokens_134 : decode b_M_readTokens 134 = .ok (.aload_n 0, 1) := by decide +kernel
theorem d_M_readTokens_135 : decode b_M_readTokens 135 = .ok (.getfield 408, 3) := by decide +kernel
theorem d_M_readTokens_138 : decode b_M_readTokens 138 = .ok (.invokevirtual 414, 3) := by decide +kernel
theorem d_M_readTokens_141 : decode b_M_readTokens 141 = .ok (.bipush 10, 2) := by decide +kernel
theorem d_M_readTokens_143 : decode b_M_readTokens 143 = .ok (.if_icmp .eq 70, 3) := by decide +kernel
theorem d_M_readTokens_146 : decode b_M_readTokens 146 = .ok (.aload_n 0, 1) := by decide +kernel
theorem d_M_readTokens_147 : decode b_M_readTokens 147 = .ok (.dup, 1) := by decide +kernel
theorem d_M_readTokens_148 : decode b_M_readTokens 148 = .ok (.getfield 408, 3) := by decide +kernel
theorem d_M_readTokens_151 : decode b_M_readTokens 151 = .ok (.iconst 1, 1) := by decide +kernel
theorem d_M_readTokens_152 : decode b_M_readTokens 152 = .ok (.iadd, 1) := by decide +kernel
theorem d_M_readTokens_153 : decode b_M_readTokens 153 = .ok (.putfield 408, 3) := by decide +kernel
theorem d_M_readTokens_156 : decode b_M_readTokens 156 = .ok (.goto (-34), 3) := by decide +kernel
theorem d_M_readTokens_159 : decode b_M_readTokens 159 = .ok (.iload_n 1, 1) := by decide +kernel
theorem d_M_readTokens_160 : decode b_M_readTokens 160 = .ok (.invokestatic 375, 3) := by decide +kernel
theorem d_M_readTokens_163 : decode b_M_readTokens 163 = .ok (.ifCond .ne 10, 3) := by decide +kernel
theorem d_M_readTokens_166 : decode b_M_readTokens 166 = .ok (.iload_n 1, 1) := by decide +kernel
theorem d_M_readTokens_167 : decode b_M_readTokens 167 = .ok (.invokestatic 379, 3) := by decide +kernel
theorem d_M_readTokens_170 : decode b_M_readTokens 170 = .ok (.ifCond .eq 11, 3) := by decide +kernel
theorem d_M_readTokens_173 : decode b_M_readTokens 173 = .ok (.aload_n 0, 1) := by decide +kernel
theorem d_M_readTokens_174 : decode b_M_readTokens 174 = .ok (.iload_n 1, 1) := by decide +kernel
theorem d_M_readTokens_175 : decode b_M_readTokens 175 = .ok (.invokevirtual 418, 3) := by decide +kernel
theorem d_M_readTokens_178 : decode b_M_readTokens 178 = .ok (.goto 35, 3) := by decide +kernel
theorem d_M_readTokens_181 : decode b_M_readTokens 181 = .ok (.iload_n 1, 1) := by decide +kernel
theorem d_M_readTokens_182 : decode b_M_readTokens 182 = .ok (.invokestatic 382, 3) := by decide +kernel
theorem d_M_readTokens_185 : decode b_M_readTokens 185 = .ok (.ifCond .eq 10, 3) := by decide +kernel
theorem d_M_readTokens_188 : decode b_M_readTokens 188 = .ok (.aload_n 0, 1) := by decide +kernel
theorem d_M_readTokens_189 : decode b_M_readTokens 189 = .ok (.invokevirtual 422, 3) := by decide +kernel
theorem d_M_readTokens_192 : decode b_M_readTokens 192 = .ok (.goto 21, 3) := by decide +kernel
theorem d_M_readTokens_195 : decode b_M_readTokens 195 = .ok (.iload_n 1, 1) := by decide +kernel
theorem d_M_readTokens_196 : decode b_M_readTokens 196 = .ok (.bipush 34, 2) := by decide +kernel
theorem d_M_readTokens_198 : decode b_M_readTokens 198 = .ok (.if_icmp .ne 10, 3) := by decide +kernel
theorem d_M_readTokens_201 : decode b_M_readTokens 201 = .ok (.aload_n 0, 1) := by decide +kernel
theorem d_M_readTokens_202 : decode b_M_readTokens 202 = .ok (.invokevirtual 425, 3) := by decide +kernel
theorem d_M_readTokens_205 : decode b_M_readTokens 205 = .ok (.goto 8, 3) := by decide +kernel
theorem d_M_readTokens_208 : decode b_M_readTokens 208 = .ok (.aload_n 0, 1) := by decide +kernel
theorem d_M_readTokens_209 : decode b_M_readTokens 209 = .ok (.iload_n 1, 1) := by decide +kernel
theorem d_M_readTokens_210 : decode b_M_readTokens 210 = .ok (.invokevirtual 428, 3) := by decide +kernel
theorem d_M_readTokens_213 : decode b_M_readTokens 213 = .ok (.goto (-194), 3) := by decide +kernel
theorem d_M_readTokens_216 : decode b_M_readTokens 216 = .ok (.aload_n 0, 1) := by decide +kernel
theorem d_M_readTokens_217 : decode b_M_readTokens 217 = .ok (.iconst 0, 1) := by decide +kernel
theorem d_M_readTokens_218 : decode b_M_readTokens 218 = .ok (.iconst 0, 1) := by decide +kernel
theorem d_M_readTokens_219 : decode b_M_readTokens 219 = .ok (.invokevirtual 431, 3) := by decide +kernel
theorem d_M_readTokens_222 : decode b_M_readTokens 222 = .ok (.aload_n 0, 1) := by decide +kernel
theorem d_M_readTokens_223 : decode b_M_readTokens 223 = .ok (.dup, 1) := by decide +kernel
theorem d_M_readTokens_224 : decode b_M_readTokens 224 = .ok (.getfield 402, 3) := by decide +kernel
theorem d_M_readTokens_227 : decode b_M_readTokens 227 = .ok (.iconst 1, 1) := by decide +kernel
theorem d_M_readTokens_228 : decode b_M_readTokens 228 = .ok (.isub, 1) := by decide +kernel
theorem d_M_readTokens_229 : decode b_M_readTokens 229 = .ok (.putfield 402, 3) := by decide +kernel
theorem d_M_readTokens_232 : decode b_M_readTokens 232 = .ok (.return_, 1) := by decide +kernel
set_option maxRecDepth 100000 in
theorem hl_M_readTokens : Cond.methodLink R_M 660 y_M_readTokens ∈ wd_tbl := wd_of 2634 (by decide +kernel) rfl
set_option maxRecDepth 100000 in
theorem hi_M_readTokens : Cond.instanceMethod y_M_readTokens ∈ wd_tbl := wd_of 2636 (by decide +kernel) rfl
set_option maxRecDepth 100000 in
theorem hs_M_readTokens : Cond.selects R_M y_M_readTokens y_M_readTokens ∈ wd_tbl := wd_of 127 (by decide +kernel) rfl
theorem hd_M_readTokens : y_M_readTokens.cls = R_M ∧ y_M_readTokens.cls ≠ "java/lang/invoke/MethodHandle" ∧ y_M_readTokens.cls ≠ "java/lang/invoke/VarHandle" ∧ (parseMethodDescriptor y_M_readTokens.desc).map (fun d => d.parameters.length) = some 0 := by decide +kernel
def rm_M_readTokens : Room := { frames := 3, cells := 0, slots := 0, locals := 76 }
theorem rm_M_readTokens_M_allFirstAtoms {R : Room} (hR : R = rm_M_readTokens) : (rm_M_allFirstAtoms).frames + 1 ≤ R.frames ∧ 8 + (3 + 11) + (rm_M_allFirstAtoms).locals ≤ R.locals := by subst hR; decide
theorem rm_M_readTokens_M_byteAt {R : Room} (hR : R = rm_M_readTokens) : (rm_M_byteAt).frames + 1 ≤ R.frames ∧ 8 + (2 + 11) + (rm_M_byteAt).locals ≤ R.locals := by subst hR; decide
theorem rm_M_readTokens_M_isSmall {R : Room} (hR : R = rm_M_readTokens) : (rm_M_isSmall).frames + 1 ≤ R.frames ∧ 8 + (1 + 11) + (rm_M_isSmall).locals ≤ R.locals := by subst hR; decide
theorem rm_M_readTokens_M_isGreat {R : Room} (hR : R = rm_M_readTokens) : (rm_M_isGreat).frames + 1 ≤ R.frames ∧ 8 + (1 + 11) + (rm_M_isGreat).locals ≤ R.locals := by subst hR; decide
theorem rm_M_readTokens_M_wordToken {R : Room} (hR : R = rm_M_readTokens) : (rm_M_wordToken).frames + 1 ≤ R.frames ∧ 8 + (5 + 11) + (rm_M_wordToken).locals ≤ R.locals := by subst hR; decide
theorem rm_M_readTokens_M_isDigit {R : Room} (hR : R = rm_M_readTokens) : (rm_M_isDigit).frames + 1 ≤ R.frames ∧ 8 + (1 + 11) + (rm_M_isDigit).locals ≤ R.locals := by subst hR; decide
theorem rm_M_readTokens_M_numberToken {R : Room} (hR : R = rm_M_readTokens) : (rm_M_numberToken).frames + 1 ≤ R.frames ∧ 8 + (3 + 11) + (rm_M_numberToken).locals ≤ R.locals := by subst hR; decide
theorem rm_M_readTokens_M_stringToken {R : Room} (hR : R = rm_M_readTokens) : (rm_M_stringToken).frames + 1 ≤ R.frames ∧ 8 + (4 + 11) + (rm_M_stringToken).locals ≤ R.locals := by subst hR; decide
theorem rm_M_readTokens_M_signToken {R : Room} (hR : R = rm_M_readTokens) : (rm_M_signToken).frames + 1 ≤ R.frames ∧ 8 + (6 + 11) + (rm_M_signToken).locals ≤ R.locals := by subst hR; decide
theorem rm_M_readTokens_M_token {R : Room} (hR : R = rm_M_readTokens) : (rm_M_token).frames + 1 ≤ R.frames ∧ 8 + (3 + 11) + (rm_M_token).locals ≤ R.locals := by subst hR; decide
def fb_M_readTokens_216 (N : Nat) (G : (MS → Option (MS × Unit)) × (MS → Option (MS × Unit))) (u : MS) : Option (MS × Unit) := bnd (fm_M_token N u 0 0) (fun u1 _ => lt (upI u1 9 ((u1.1 9) - 1)) (fun w2 => some (w2, ())))
set_option maxRecDepth 100000 in
set_option maxHeartbeats 4000000 in
theorem wb_M_readTokens_216 {p : Program} {l : Launch} {e : Env} {R : Room} {s : State} {m : MethodId} {args : Array Value} {below : List Frame} {meth : Method} {c : Code} {D : va_G} {cl : List vw_C} {cB cI cJ cZ cS : ClassId} {A : Nat → Prop} {iM h0 : Nat} {ad : Nat → Nat} (C0 : MCx p s m args meth c b_M_readTokens 2 none D cl cB cI cJ cZ cS iM A) (hR : R = rm_M_readTokens) (N : Nat) (G : (MS → Option (MS × Unit)) × (MS → Option (MS × Unit))) (hG : (∀ (u : MS) (x : MS × Unit), G.1 u = some x → ∀ (H : Heap) (locs : List Loc), va_P D cl (wM cB cI cJ cZ cS iM h0 ad u) H → va_D A (wM cB cI cJ cZ cS iM h0 ad u) → va_S A s.heap H locs → ∀ (ls : Array Slot), lv_has ls 2 [(0, .ref h0)] → W p l e R s m args below meth c H locs 0 0 (MQ below (mQv D cl cB cI cJ cZ cS iM h0 ad A x) args s 0 0 A) (F0 m 19 ls [])) ∧ (∀ (u : MS) (x : MS × Unit), G.2 u = some x → ∀ (H : Heap) (locs : List Loc), va_P D cl (wM cB cI cJ cZ cS iM h0 ad u) H → va_D A (wM cB cI cJ cZ cS iM h0 ad u) → va_S A s.heap H locs → ∀ (ls : Array Slot), lv_has ls 2 [(0, .ref h0)] → W p l e R s m args below meth c H locs 0 0 (MQ below (mQv D cl cB cI cJ cZ cS iM h0 ad A x) args s 0 0 A) (F0 m 122 ls []))) : ∀ (u : MS) (x : MS × Unit), fb_M_readTokens_216 N G u = some x → ∀ (H : Heap) (locs : List Loc), va_P D cl (wM cB cI cJ cZ cS iM h0 ad u) H → va_D A (wM cB cI cJ cZ cS iM h0 ad u) → va_S A s.heap H locs → ∀ (ls : Array Slot), lv_has ls 2 [(0, .ref h0)] → W p l e R s m args below meth c H locs 0 0 (MQ below (mQv D cl cB cI cJ cZ cS iM h0 ad A x) args s 0 0 A) (F0 m 216 ls []) := by
  intro u x hf H locs hP hD hS ls hl
  obtain ⟨hx, hb, hr, hml, ht, hown, hM, hK, hA, hlocks⟩ := id C0
  unfold fb_M_readTokens_216 at hf
  refine lv_aload_n hx hb d_M_readTokens_216 rfl (lv_at hl 0 rfl) ?_
  refine lv_iconst (v := 0) hx hb d_M_readTokens_217 (by decide) ?_
  refine lv_iconst (v := 0) hx hb d_M_readTokens_218 (by decide) ?_
  obtain ⟨u1, r1, hc1, hf⟩ := bnd_some hf
  refine mV_v (As := [.int 0, .int 0]) (rest := []) C0 hP hD hS (c_M_token N hM hc1) k_M_token hl_M_token hi_M_token hs_M_token hini_M rfl rfl hd_M_token rfl (rm_M_readTokens_M_token hR) hl.1 (Nat.le_of_ble_eq_true rfl) d_M_readTokens_219 rfl ⟨Nat.zero_le _, Nat.zero_le _⟩ (fun H locs hP hD hS => ?_)
  refine lv_aload_n hx hb d_M_readTokens_222 rfl (lv_at hl 0 rfl) ?_
  refine lv_dup hx hb d_M_readTokens_223 rfl ?_
  refine ug_I hx hb ht hown hM hK hP 9 (by decide) lk_M_9 (by decide) d_M_readTokens_224 ?_
  refine lv_iconst (v := 1) hx hb d_M_readTokens_227 (by decide) ?_
  refine lv_isub hx hb d_M_readTokens_228 ?_
  refine up_I hx hb ht hown hM hK hP hD hS 9 (by decide) lk_M_9 (by decide) rfl rfl rfl d_M_readTokens_229 (fun H locs hP hD hS => ?_)
  obtain ⟨w2, e2, hf⟩ := lt_some hf
  rw [← e2] at hP hD
  exact mr_v C0 hP hD hS hf d_M_readTokens_232
def fb_M_readTokens_213 (N : Nat) (G : (MS → Option (MS × Unit)) × (MS → Option (MS × Unit))) (u : MS) : Option (MS × Unit) := G.1 u
set_option maxRecDepth 100000 in
set_option maxHeartbeats 4000000 in
theorem wb_M_readTokens_213 {p : Program} {l : Launch} {e : Env} {R : Room} {s : State} {m : MethodId} {args : Array Value} {below : List Frame} {meth : Method} {c : Code} {D : va_G} {cl : List vw_C} {cB cI cJ cZ cS : ClassId} {A : Nat → Prop} {iM h0 : Nat} {ad : Nat → Nat} (C0 : MCx p s m args meth c b_M_readTokens 2 none D cl cB cI cJ cZ cS iM A) (hR : R = rm_M_readTokens) (N : Nat) (G : (MS → Option (MS × Unit)) × (MS → Option (MS × Unit))) (hG : (∀ (u : MS) (x : MS × Unit), G.1 u = some x → ∀ (H : Heap) (locs : List Loc), va_P D cl (wM cB cI cJ cZ cS iM h0 ad u) H → va_D A (wM cB cI cJ cZ cS iM h0 ad u) → va_S A s.heap H locs → ∀ (ls : Array Slot), lv_has ls 2 [(0, .ref h0)] → W p l e R s m args below meth c H locs 0 0 (MQ below (mQv D cl cB cI cJ cZ cS iM h0 ad A x) args s 0 0 A) (F0 m 19 ls [])) ∧ (∀ (u : MS) (x : MS × Unit), G.2 u = some x → ∀ (H : Heap) (locs : List Loc), va_P D cl (wM cB cI cJ cZ cS iM h0 ad u) H → va_D A (wM cB cI cJ cZ cS iM h0 ad u) → va_S A s.heap H locs → ∀ (ls : Array Slot), lv_has ls 2 [(0, .ref h0)] → W p l e R s m args below meth c H locs 0 0 (MQ below (mQv D cl cB cI cJ cZ cS iM h0 ad A x) args s 0 0 A) (F0 m 122 ls []))) : ∀ (u : MS) (x : MS × Unit), fb_M_readTokens_213 N G u = some x → ∀ (H : Heap) (locs : List Loc), va_P D cl (wM cB cI cJ cZ cS iM h0 ad u) H → va_D A (wM cB cI cJ cZ cS iM h0 ad u) → va_S A s.heap H locs → ∀ (ls : Array Slot), lv_has ls 2 [(0, .ref h0)] → W p l e R s m args below meth c H locs 0 0 (MQ below (mQv D cl cB cI cJ cZ cS iM h0 ad A x) args s 0 0 A) (F0 m 213 ls []) := by
  intro u x hf H locs hP hD hS ls hl
  obtain ⟨hx, hb, hr, hml, ht, hown, hM, hK, hA, hlocks⟩ := id C0
  unfold fb_M_readTokens_213 at hf
  refine lv_goto (tgt := 19) hx hb d_M_readTokens_213 (by decide) ?_
  exact hG.1 _ _ hf H locs hP hD hS ls (lv_sub hl [0] rfl)
def fb_M_readTokens_173 (N : Nat) (G : (MS → Option (MS × Unit)) × (MS → Option (MS × Unit))) (u : MS) (v1 : Int32) : Option (MS × Unit) := bnd (fm_M_wordToken N u v1) (fun u3 _ => fb_M_readTokens_213 N G u3)
set_option maxRecDepth 100000 in
set_option maxHeartbeats 4000000 in
theorem wb_M_readTokens_173 {p : Program} {l : Launch} {e : Env} {R : Room} {s : State} {m : MethodId} {args : Array Value} {below : List Frame} {meth : Method} {c : Code} {D : va_G} {cl : List vw_C} {cB cI cJ cZ cS : ClassId} {A : Nat → Prop} {iM h0 : Nat} {ad : Nat → Nat} (C0 : MCx p s m args meth c b_M_readTokens 2 none D cl cB cI cJ cZ cS iM A) (hR : R = rm_M_readTokens) (N : Nat) (G : (MS → Option (MS × Unit)) × (MS → Option (MS × Unit))) (hG : (∀ (u : MS) (x : MS × Unit), G.1 u = some x → ∀ (H : Heap) (locs : List Loc), va_P D cl (wM cB cI cJ cZ cS iM h0 ad u) H → va_D A (wM cB cI cJ cZ cS iM h0 ad u) → va_S A s.heap H locs → ∀ (ls : Array Slot), lv_has ls 2 [(0, .ref h0)] → W p l e R s m args below meth c H locs 0 0 (MQ below (mQv D cl cB cI cJ cZ cS iM h0 ad A x) args s 0 0 A) (F0 m 19 ls [])) ∧ (∀ (u : MS) (x : MS × Unit), G.2 u = some x → ∀ (H : Heap) (locs : List Loc), va_P D cl (wM cB cI cJ cZ cS iM h0 ad u) H → va_D A (wM cB cI cJ cZ cS iM h0 ad u) → va_S A s.heap H locs → ∀ (ls : Array Slot), lv_has ls 2 [(0, .ref h0)] → W p l e R s m args below meth c H locs 0 0 (MQ below (mQv D cl cB cI cJ cZ cS iM h0 ad A x) args s 0 0 A) (F0 m 122 ls []))) : ∀ (u : MS) (v1 : Int32) (x : MS × Unit), fb_M_readTokens_173 N G u v1 = some x → ∀ (H : Heap) (locs : List Loc), va_P D cl (wM cB cI cJ cZ cS iM h0 ad u) H → va_D A (wM cB cI cJ cZ cS iM h0 ad u) → va_S A s.heap H locs → ∀ (ls : Array Slot), lv_has ls 2 [(0, .ref h0), (1, .int v1)] → W p l e R s m args below meth c H locs 0 0 (MQ below (mQv D cl cB cI cJ cZ cS iM h0 ad A x) args s 0 0 A) (F0 m 173 ls []) := by
  intro u v1 x hf H locs hP hD hS ls hl
  obtain ⟨hx, hb, hr, hml, ht, hown, hM, hK, hA, hlocks⟩ := id C0
  unfold fb_M_readTokens_173 at hf
  refine lv_aload_n hx hb d_M_readTokens_173 rfl (lv_at hl 0 rfl) ?_
  refine lv_iload_n hx hb d_M_readTokens_174 rfl (lv_at hl 1 rfl) ?_
  obtain ⟨u3, r3, hc3, hf⟩ := bnd_some hf
  refine mV_v (As := [.int v1]) (rest := []) C0 hP hD hS (c_M_wordToken N hM hc3) k_M_wordToken hl_M_wordToken hi_M_wordToken hs_M_wordToken hini_M rfl rfl hd_M_wordToken rfl (rm_M_readTokens_M_wordToken hR) hl.1 (Nat.le_of_ble_eq_true rfl) d_M_readTokens_175 rfl ⟨Nat.zero_le _, Nat.zero_le _⟩ (fun H locs hP hD hS => ?_)
  refine lv_goto (tgt := 213) hx hb d_M_readTokens_178 (by decide) ?_
  exact wb_M_readTokens_213 C0 hR N G hG _ _ hf H locs hP hD hS ls (lv_sub hl [0] rfl)
def fb_M_readTokens_122 (N : Nat) (G : (MS → Option (MS × Unit)) × (MS → Option (MS × Unit))) (u : MS) : Option (MS × Unit) := br (decide ((u.1 5) ≤ (u.1 10))) (fb_M_readTokens_213 N G u) (bnd (fm_M_byteAt N u (u.1 10)) (fun u4 r4 => br (decide (r4 = 10)) (fb_M_readTokens_213 N G u4) (lt (upI u4 10 ((u4.1 10) + 1)) (fun w5 => G.2 w5))))
set_option maxRecDepth 100000 in
set_option maxHeartbeats 4000000 in
theorem wb_M_readTokens_122 {p : Program} {l : Launch} {e : Env} {R : Room} {s : State} {m : MethodId} {args : Array Value} {below : List Frame} {meth : Method} {c : Code} {D : va_G} {cl : List vw_C} {cB cI cJ cZ cS : ClassId} {A : Nat → Prop} {iM h0 : Nat} {ad : Nat → Nat} (C0 : MCx p s m args meth c b_M_readTokens 2 none D cl cB cI cJ cZ cS iM A) (hR : R = rm_M_readTokens) (N : Nat) (G : (MS → Option (MS × Unit)) × (MS → Option (MS × Unit))) (hG : (∀ (u : MS) (x : MS × Unit), G.1 u = some x → ∀ (H : Heap) (locs : List Loc), va_P D cl (wM cB cI cJ cZ cS iM h0 ad u) H → va_D A (wM cB cI cJ cZ cS iM h0 ad u) → va_S A s.heap H locs → ∀ (ls : Array Slot), lv_has ls 2 [(0, .ref h0)] → W p l e R s m args below meth c H locs 0 0 (MQ below (mQv D cl cB cI cJ cZ cS iM h0 ad A x) args s 0 0 A) (F0 m 19 ls [])) ∧ (∀ (u : MS) (x : MS × Unit), G.2 u = some x → ∀ (H : Heap) (locs : List Loc), va_P D cl (wM cB cI cJ cZ cS iM h0 ad u) H → va_D A (wM cB cI cJ cZ cS iM h0 ad u) → va_S A s.heap H locs → ∀ (ls : Array Slot), lv_has ls 2 [(0, .ref h0)] → W p l e R s m args below meth c H locs 0 0 (MQ below (mQv D cl cB cI cJ cZ cS iM h0 ad A x) args s 0 0 A) (F0 m 122 ls []))) : ∀ (u : MS) (x : MS × Unit), fb_M_readTokens_122 N G u = some x → ∀ (H : Heap) (locs : List Loc), va_P D cl (wM cB cI cJ cZ cS iM h0 ad u) H → va_D A (wM cB cI cJ cZ cS iM h0 ad u) → va_S A s.heap H locs → ∀ (ls : Array Slot), lv_has ls 2 [(0, .ref h0)] → W p l e R s m args below meth c H locs 0 0 (MQ below (mQv D cl cB cI cJ cZ cS iM h0 ad A x) args s 0 0 A) (F0 m 122 ls []) := by
  intro u x hf H locs hP hD hS ls hl
  obtain ⟨hx, hb, hr, hml, ht, hown, hM, hK, hA, hlocks⟩ := id C0
  unfold fb_M_readTokens_122 at hf
  refine lv_aload_n hx hb d_M_readTokens_122 rfl (lv_at hl 0 rfl) ?_
  refine ug_I hx hb ht hown hM hK hP 10 (by decide) lk_M_10 (by decide) d_M_readTokens_123 ?_
  refine lv_aload_n hx hb d_M_readTokens_126 rfl (lv_at hl 0 rfl) ?_
  refine ug_I hx hb ht hown hM hK hP 5 (by decide) lk_M_5 (by decide) d_M_readTokens_127 ?_
  refine lv_icmp_ge (tgt := 213) hx hb d_M_readTokens_130 (by decide) (fun hc => ?_) (fun hc => ?_)
  · rw [br_p _ hc] at hf
    exact wb_M_readTokens_213 C0 hR N G hG _ _ hf H locs hP hD hS ls (lv_sub hl [0] rfl)
  · rw [br_n _ hc] at hf
    refine lv_aload_n hx hb d_M_readTokens_133 rfl (lv_at hl 0 rfl) ?_
    refine lv_aload_n hx hb d_M_readTokens_134 rfl (lv_at hl 0 rfl) ?_
    refine ug_I hx hb ht hown hM hK hP 10 (by decide) lk_M_10 (by decide) d_M_readTokens_135 ?_
    obtain ⟨u4, r4, hc4, hf⟩ := bnd_some hf
    refine mV_i (As := [.int (u.1 10)]) (rest := []) C0 hP hD hS (c_M_byteAt N hM hc4) k_M_byteAt hl_M_byteAt hi_M_byteAt hs_M_byteAt hini_M rfl rfl hd_M_byteAt rfl (rm_M_readTokens_M_byteAt hR) hl.1 (Nat.le_of_ble_eq_true rfl) d_M_readTokens_138 rfl ⟨Nat.zero_le _, Nat.zero_le _⟩ (fun H locs hP hD hS => ?_)
    refine lv_bipush (v := 10) hx hb d_M_readTokens_141 (by decide) ?_
    refine lv_icmp_eq (tgt := 213) hx hb d_M_readTokens_143 (by decide) (fun hc => ?_) (fun hc => ?_)
    · rw [br_p _ hc] at hf
      exact wb_M_readTokens_213 C0 hR N G hG _ _ hf H locs hP hD hS ls (lv_sub hl [0] rfl)
    · rw [br_n _ hc] at hf
      refine lv_aload_n hx hb d_M_readTokens_146 rfl (lv_at hl 0 rfl) ?_
      refine lv_dup hx hb d_M_readTokens_147 rfl ?_
      refine ug_I hx hb ht hown hM hK hP 10 (by decide) lk_M_10 (by decide) d_M_readTokens_148 ?_
      refine lv_iconst (v := 1) hx hb d_M_readTokens_151 (by decide) ?_
      refine lv_iadd hx hb d_M_readTokens_152 ?_
      refine up_I hx hb ht hown hM hK hP hD hS 10 (by decide) lk_M_10 (by decide) rfl rfl rfl d_M_readTokens_153 (fun H locs hP hD hS => ?_)
      obtain ⟨w5, e5, hf⟩ := lt_some hf
      rw [← e5] at hP hD
      refine lv_goto (tgt := 122) hx hb d_M_readTokens_156 (by decide) ?_
      exact hG.2 _ _ hf H locs hP hD hS ls (lv_sub hl [0] rfl)
def fb_M_readTokens_100 (N : Nat) (G : (MS → Option (MS × Unit)) × (MS → Option (MS × Unit))) (u : MS) (t1 : Int32) : Option (MS × Unit) := lt (upI u 11 t1) (fun w6 => lt (upI w6 10 ((w6.1 10) + 1)) (fun w7 => fb_M_readTokens_213 N G w7))
set_option maxRecDepth 100000 in
set_option maxHeartbeats 4000000 in
theorem wb_M_readTokens_100 {p : Program} {l : Launch} {e : Env} {R : Room} {s : State} {m : MethodId} {args : Array Value} {below : List Frame} {meth : Method} {c : Code} {D : va_G} {cl : List vw_C} {cB cI cJ cZ cS : ClassId} {A : Nat → Prop} {iM h0 : Nat} {ad : Nat → Nat} (C0 : MCx p s m args meth c b_M_readTokens 2 none D cl cB cI cJ cZ cS iM A) (hR : R = rm_M_readTokens) (N : Nat) (G : (MS → Option (MS × Unit)) × (MS → Option (MS × Unit))) (hG : (∀ (u : MS) (x : MS × Unit), G.1 u = some x → ∀ (H : Heap) (locs : List Loc), va_P D cl (wM cB cI cJ cZ cS iM h0 ad u) H → va_D A (wM cB cI cJ cZ cS iM h0 ad u) → va_S A s.heap H locs → ∀ (ls : Array Slot), lv_has ls 2 [(0, .ref h0)] → W p l e R s m args below meth c H locs 0 0 (MQ below (mQv D cl cB cI cJ cZ cS iM h0 ad A x) args s 0 0 A) (F0 m 19 ls [])) ∧ (∀ (u : MS) (x : MS × Unit), G.2 u = some x → ∀ (H : Heap) (locs : List Loc), va_P D cl (wM cB cI cJ cZ cS iM h0 ad u) H → va_D A (wM cB cI cJ cZ cS iM h0 ad u) → va_S A s.heap H locs → ∀ (ls : Array Slot), lv_has ls 2 [(0, .ref h0)] → W p l e R s m args below meth c H locs 0 0 (MQ below (mQv D cl cB cI cJ cZ cS iM h0 ad A x) args s 0 0 A) (F0 m 122 ls []))) : ∀ (u : MS) (t1 : Int32) (x : MS × Unit), fb_M_readTokens_100 N G u t1 = some x → ∀ (H : Heap) (locs : List Loc), va_P D cl (wM cB cI cJ cZ cS iM h0 ad u) H → va_D A (wM cB cI cJ cZ cS iM h0 ad u) → va_S A s.heap H locs → ∀ (ls : Array Slot), lv_has ls 2 [(0, .ref h0)] → W p l e R s m args below meth c H locs 0 0 (MQ below (mQv D cl cB cI cJ cZ cS iM h0 ad A x) args s 0 0 A) (F0 m 100 ls [.int t1, .ref h0]) := by
  intro u t1 x hf H locs hP hD hS ls hl
  obtain ⟨hx, hb, hr, hml, ht, hown, hM, hK, hA, hlocks⟩ := id C0
  unfold fb_M_readTokens_100 at hf
  refine up_I hx hb ht hown hM hK hP hD hS 11 (by decide) lk_M_11 (by decide) rfl rfl rfl d_M_readTokens_100 (fun H locs hP hD hS => ?_)
  obtain ⟨w6, e6, hf⟩ := lt_some hf
  rw [← e6] at hP hD
  refine lv_aload_n hx hb d_M_readTokens_103 rfl (lv_at hl 0 rfl) ?_
  refine lv_dup hx hb d_M_readTokens_104 rfl ?_
  refine ug_I hx hb ht hown hM hK hP 10 (by decide) lk_M_10 (by decide) d_M_readTokens_105 ?_
  refine lv_iconst (v := 1) hx hb d_M_readTokens_108 (by decide) ?_
  refine lv_iadd hx hb d_M_readTokens_109 ?_
  refine up_I hx hb ht hown hM hK hP hD hS 10 (by decide) lk_M_10 (by decide) rfl rfl rfl d_M_readTokens_110 (fun H locs hP hD hS => ?_)
  obtain ⟨w7, e7, hf⟩ := lt_some hf
  rw [← e7] at hP hD
  refine lv_goto (tgt := 213) hx hb d_M_readTokens_113 (by decide) ?_
  exact wb_M_readTokens_213 C0 hR N G hG _ _ hf H locs hP hD hS ls (lv_sub hl [0] rfl)
def fb_M_readTokens_80 (N : Nat) (G : (MS → Option (MS × Unit)) × (MS → Option (MS × Unit))) (u : MS) (v1 : Int32) : Option (MS × Unit) := br (decide (v1 = 10)) (fb_M_readTokens_100 N G u (((u.1 11) + 1))) (fb_M_readTokens_100 N G u ((u.1 11)))
set_option maxRecDepth 100000 in
set_option maxHeartbeats 4000000 in
theorem wb_M_readTokens_80 {p : Program} {l : Launch} {e : Env} {R : Room} {s : State} {m : MethodId} {args : Array Value} {below : List Frame} {meth : Method} {c : Code} {D : va_G} {cl : List vw_C} {cB cI cJ cZ cS : ClassId} {A : Nat → Prop} {iM h0 : Nat} {ad : Nat → Nat} (C0 : MCx p s m args meth c b_M_readTokens 2 none D cl cB cI cJ cZ cS iM A) (hR : R = rm_M_readTokens) (N : Nat) (G : (MS → Option (MS × Unit)) × (MS → Option (MS × Unit))) (hG : (∀ (u : MS) (x : MS × Unit), G.1 u = some x → ∀ (H : Heap) (locs : List Loc), va_P D cl (wM cB cI cJ cZ cS iM h0 ad u) H → va_D A (wM cB cI cJ cZ cS iM h0 ad u) → va_S A s.heap H locs → ∀ (ls : Array Slot), lv_has ls 2 [(0, .ref h0)] → W p l e R s m args below meth c H locs 0 0 (MQ below (mQv D cl cB cI cJ cZ cS iM h0 ad A x) args s 0 0 A) (F0 m 19 ls [])) ∧ (∀ (u : MS) (x : MS × Unit), G.2 u = some x → ∀ (H : Heap) (locs : List Loc), va_P D cl (wM cB cI cJ cZ cS iM h0 ad u) H → va_D A (wM cB cI cJ cZ cS iM h0 ad u) → va_S A s.heap H locs → ∀ (ls : Array Slot), lv_has ls 2 [(0, .ref h0)] → W p l e R s m args below meth c H locs 0 0 (MQ below (mQv D cl cB cI cJ cZ cS iM h0 ad A x) args s 0 0 A) (F0 m 122 ls []))) : ∀ (u : MS) (v1 : Int32) (x : MS × Unit), fb_M_readTokens_80 N G u v1 = some x → ∀ (H : Heap) (locs : List Loc), va_P D cl (wM cB cI cJ cZ cS iM h0 ad u) H → va_D A (wM cB cI cJ cZ cS iM h0 ad u) → va_S A s.heap H locs → ∀ (ls : Array Slot), lv_has ls 2 [(0, .ref h0), (1, .int v1)] → W p l e R s m args below meth c H locs 0 0 (MQ below (mQv D cl cB cI cJ cZ cS iM h0 ad A x) args s 0 0 A) (F0 m 80 ls []) := by
  intro u v1 x hf H locs hP hD hS ls hl
  obtain ⟨hx, hb, hr, hml, ht, hown, hM, hK, hA, hlocks⟩ := id C0
  unfold fb_M_readTokens_80 at hf
  refine lv_aload_n hx hb d_M_readTokens_80 rfl (lv_at hl 0 rfl) ?_
  refine lv_iload_n hx hb d_M_readTokens_81 rfl (lv_at hl 1 rfl) ?_
  refine lv_bipush (v := 10) hx hb d_M_readTokens_82 (by decide) ?_
  refine lv_icmp_ne (tgt := 96) hx hb d_M_readTokens_84 (by decide) (fun hc => ?_) (fun hc => ?_)
  · rw [br_n _ hc] at hf
    refine lv_aload_n hx hb d_M_readTokens_96 rfl (lv_at hl 0 rfl) ?_
    refine ug_I hx hb ht hown hM hK hP 11 (by decide) lk_M_11 (by decide) d_M_readTokens_97 ?_
    exact wb_M_readTokens_100 C0 hR N G hG _ _ _ hf H locs hP hD hS ls (lv_sub hl [0] rfl)
  · rw [br_p _ hc] at hf
    refine lv_aload_n hx hb d_M_readTokens_87 rfl (lv_at hl 0 rfl) ?_
    refine ug_I hx hb ht hown hM hK hP 11 (by decide) lk_M_11 (by decide) d_M_readTokens_88 ?_
    refine lv_iconst (v := 1) hx hb d_M_readTokens_91 (by decide) ?_
    refine lv_iadd hx hb d_M_readTokens_92 ?_
    refine lv_goto (tgt := 100) hx hb d_M_readTokens_93 (by decide) ?_
    exact wb_M_readTokens_100 C0 hR N G hG _ _ _ hf H locs hP hD hS ls (lv_sub hl [0] rfl)
def fb_M_readTokens_53 (N : Nat) (G : (MS → Option (MS × Unit)) × (MS → Option (MS × Unit))) (u : MS) : Option (MS × Unit) := bnd (fm_M_byteAt N u (u.1 10)) (fun u8 r8 => br (decide (r8 = 10)) (fb_M_readTokens_80 N G u8 (r8)) (br (decide (r8 = 9)) (fb_M_readTokens_80 N G u8 (r8)) (br (decide (r8 = 32)) (fb_M_readTokens_80 N G u8 (r8)) (br (decide (r8 = 37)) (G.2 u8) (bnd (fm_M_isSmall N u8 r8) (fun u9 r9 => br (decide (r9 = 0)) (bnd (fm_M_isGreat N u9 r8) (fun u10 r10 => br (decide (r10 = 0)) (bnd (fm_M_isDigit N u10 r8) (fun u11 r11 => br (decide (r11 = 0)) (br (decide (r8 = 34)) (bnd (fm_M_stringToken N u11) (fun u13 _ => fb_M_readTokens_213 N G u13)) (bnd (fm_M_signToken N u11 r8) (fun u12 _ => fb_M_readTokens_213 N G u12))) (bnd (fm_M_numberToken N u11) (fun u14 _ => fb_M_readTokens_213 N G u14)))) (fb_M_readTokens_173 N G u10 (r8)))) (fb_M_readTokens_173 N G u9 (r8))))))))
set_option maxRecDepth 100000 in
set_option maxHeartbeats 4000000 in
theorem wb_M_readTokens_53 {p : Program} {l : Launch} {e : Env} {R : Room} {s : State} {m : MethodId} {args : Array Value} {below : List Frame} {meth : Method} {c : Code} {D : va_G} {cl : List vw_C} {cB cI cJ cZ cS : ClassId} {A : Nat → Prop} {iM h0 : Nat} {ad : Nat → Nat} (C0 : MCx p s m args meth c b_M_readTokens 2 none D cl cB cI cJ cZ cS iM A) (hR : R = rm_M_readTokens) (N : Nat) (G : (MS → Option (MS × Unit)) × (MS → Option (MS × Unit))) (hG : (∀ (u : MS) (x : MS × Unit), G.1 u = some x → ∀ (H : Heap) (locs : List Loc), va_P D cl (wM cB cI cJ cZ cS iM h0 ad u) H → va_D A (wM cB cI cJ cZ cS iM h0 ad u) → va_S A s.heap H locs → ∀ (ls : Array Slot), lv_has ls 2 [(0, .ref h0)] → W p l e R s m args below meth c H locs 0 0 (MQ below (mQv D cl cB cI cJ cZ cS iM h0 ad A x) args s 0 0 A) (F0 m 19 ls [])) ∧ (∀ (u : MS) (x : MS × Unit), G.2 u = some x → ∀ (H : Heap) (locs : List Loc), va_P D cl (wM cB cI cJ cZ cS iM h0 ad u) H → va_D A (wM cB cI cJ cZ cS iM h0 ad u) → va_S A s.heap H locs → ∀ (ls : Array Slot), lv_has ls 2 [(0, .ref h0)] → W p l e R s m args below meth c H locs 0 0 (MQ below (mQv D cl cB cI cJ cZ cS iM h0 ad A x) args s 0 0 A) (F0 m 122 ls []))) : ∀ (u : MS) (x : MS × Unit), fb_M_readTokens_53 N G u = some x → ∀ (H : Heap) (locs : List Loc), va_P D cl (wM cB cI cJ cZ cS iM h0 ad u) H → va_D A (wM cB cI cJ cZ cS iM h0 ad u) → va_S A s.heap H locs → ∀ (ls : Array Slot), lv_has ls 2 [(0, .ref h0)] → W p l e R s m args below meth c H locs 0 0 (MQ below (mQv D cl cB cI cJ cZ cS iM h0 ad A x) args s 0 0 A) (F0 m 53 ls []) := by
  intro u x hf H locs hP hD hS ls hl
  obtain ⟨hx, hb, hr, hml, ht, hown, hM, hK, hA, hlocks⟩ := id C0
  unfold fb_M_readTokens_53 at hf
  refine lv_aload_n hx hb d_M_readTokens_53 rfl (lv_at hl 0 rfl) ?_
  refine lv_aload_n hx hb d_M_readTokens_54 rfl (lv_at hl 0 rfl) ?_
  refine ug_I hx hb ht hown hM hK hP 10 (by decide) lk_M_10 (by decide) d_M_readTokens_55 ?_
  obtain ⟨u8, r8, hc8, hf⟩ := bnd_some hf
  refine mV_i (As := [.int (u.1 10)]) (rest := []) C0 hP hD hS (c_M_byteAt N hM hc8) k_M_byteAt hl_M_byteAt hi_M_byteAt hs_M_byteAt hini_M rfl rfl hd_M_byteAt rfl (rm_M_readTokens_M_byteAt hR) hl.1 (Nat.le_of_ble_eq_true rfl) d_M_readTokens_58 rfl ⟨Nat.zero_le _, Nat.zero_le _⟩ (fun H locs hP hD hS => ?_)
  refine lv_istore_n (lv' := [(1, .int r8), (0, .ref h0)]) hx hb d_M_readTokens_61 rfl hl (by decide) rfl (fun ls hl => ?_)
  refine lv_iload_n hx hb d_M_readTokens_62 rfl (lv_at hl 0 rfl) ?_
  refine lv_bipush (v := 10) hx hb d_M_readTokens_63 (by decide) ?_
  refine lv_icmp_eq (tgt := 80) hx hb d_M_readTokens_65 (by decide) (fun hc => ?_) (fun hc => ?_)
  · rw [br_p _ hc] at hf
    exact wb_M_readTokens_80 C0 hR N G hG _ _ _ hf H locs hP hD hS ls (lv_sub hl [1, 0] rfl)
  · rw [br_n _ hc] at hf
    refine lv_iload_n hx hb d_M_readTokens_68 rfl (lv_at hl 0 rfl) ?_
    refine lv_bipush (v := 9) hx hb d_M_readTokens_69 (by decide) ?_
    refine lv_icmp_eq (tgt := 80) hx hb d_M_readTokens_71 (by decide) (fun hc => ?_) (fun hc => ?_)
    · rw [br_p _ hc] at hf
      exact wb_M_readTokens_80 C0 hR N G hG _ _ _ hf H locs hP hD hS ls (lv_sub hl [1, 0] rfl)
    · rw [br_n _ hc] at hf
      refine lv_iload_n hx hb d_M_readTokens_74 rfl (lv_at hl 0 rfl) ?_
      refine lv_bipush (v := 32) hx hb d_M_readTokens_75 (by decide) ?_
      refine lv_icmp_ne (tgt := 116) hx hb d_M_readTokens_77 (by decide) (fun hc => ?_) (fun hc => ?_)
      · rw [br_n _ hc] at hf
        refine lv_iload_n hx hb d_M_readTokens_116 rfl (lv_at hl 0 rfl) ?_
        refine lv_bipush (v := 37) hx hb d_M_readTokens_117 (by decide) ?_
        refine lv_icmp_ne (tgt := 159) hx hb d_M_readTokens_119 (by decide) (fun hc => ?_) (fun hc => ?_)
        · rw [br_n _ hc] at hf
          refine lv_iload_n hx hb d_M_readTokens_159 rfl (lv_at hl 0 rfl) ?_
          obtain ⟨u9, r9, hc9, hf⟩ := bnd_some hf
          refine mS_i (As := [.int r8]) (rest := []) C0 hP hD hS (c_M_isSmall N hM hc9) k_M_isSmall hl_M_isSmall ht_M_isSmall hini_M rfl rfl hd_M_isSmall rfl (rm_M_readTokens_M_isSmall hR) hl.1 (Nat.le_of_ble_eq_true rfl) d_M_readTokens_160 rfl ⟨Nat.zero_le _, Nat.zero_le _⟩ (fun H locs hP hD hS => ?_)
          refine lv_if_ne (tgt := 173) hx hb d_M_readTokens_163 (by decide) (fun hc => ?_) (fun hc => ?_)
          · rw [br_n _ hc] at hf
            exact wb_M_readTokens_173 C0 hR N G hG _ _ _ hf H locs hP hD hS ls (lv_sub hl [1, 0] rfl)
          · rw [br_p _ hc] at hf
            refine lv_iload_n hx hb d_M_readTokens_166 rfl (lv_at hl 0 rfl) ?_
            obtain ⟨u10, r10, hc10, hf⟩ := bnd_some hf
            refine mS_i (As := [.int r8]) (rest := []) C0 hP hD hS (c_M_isGreat N hM hc10) k_M_isGreat hl_M_isGreat ht_M_isGreat hini_M rfl rfl hd_M_isGreat rfl (rm_M_readTokens_M_isGreat hR) hl.1 (Nat.le_of_ble_eq_true rfl) d_M_readTokens_167 rfl ⟨Nat.zero_le _, Nat.zero_le _⟩ (fun H locs hP hD hS => ?_)
            refine lv_if_eq (tgt := 181) hx hb d_M_readTokens_170 (by decide) (fun hc => ?_) (fun hc => ?_)
            · rw [br_p _ hc] at hf
              refine lv_iload_n hx hb d_M_readTokens_181 rfl (lv_at hl 0 rfl) ?_
              obtain ⟨u11, r11, hc11, hf⟩ := bnd_some hf
              refine mS_i (As := [.int r8]) (rest := []) C0 hP hD hS (c_M_isDigit N hM hc11) k_M_isDigit hl_M_isDigit ht_M_isDigit hini_M rfl rfl hd_M_isDigit rfl (rm_M_readTokens_M_isDigit hR) hl.1 (Nat.le_of_ble_eq_true rfl) d_M_readTokens_182 rfl ⟨Nat.zero_le _, Nat.zero_le _⟩ (fun H locs hP hD hS => ?_)
              refine lv_if_eq (tgt := 195) hx hb d_M_readTokens_185 (by decide) (fun hc => ?_) (fun hc => ?_)
              · rw [br_p _ hc] at hf
                refine lv_iload_n hx hb d_M_readTokens_195 rfl (lv_at hl 0 rfl) ?_
                refine lv_bipush (v := 34) hx hb d_M_readTokens_196 (by decide) ?_
                refine lv_icmp_ne (tgt := 208) hx hb d_M_readTokens_198 (by decide) (fun hc => ?_) (fun hc => ?_)
                · rw [br_n _ hc] at hf
                  refine lv_aload_n hx hb d_M_readTokens_208 rfl (lv_at hl 1 rfl) ?_
                  refine lv_iload_n hx hb d_M_readTokens_209 rfl (lv_at hl 0 rfl) ?_
                  obtain ⟨u12, r12, hc12, hf⟩ := bnd_some hf
                  refine mV_v (As := [.int r8]) (rest := []) C0 hP hD hS (c_M_signToken N hM hc12) k_M_signToken hl_M_signToken hi_M_signToken hs_M_signToken hini_M rfl rfl hd_M_signToken rfl (rm_M_readTokens_M_signToken hR) hl.1 (Nat.le_of_ble_eq_true rfl) d_M_readTokens_210 rfl ⟨Nat.zero_le _, Nat.zero_le _⟩ (fun H locs hP hD hS => ?_)
                  exact wb_M_readTokens_213 C0 hR N G hG _ _ hf H locs hP hD hS ls (lv_sub hl [1] rfl)
                · rw [br_p _ hc] at hf
                  refine lv_aload_n hx hb d_M_readTokens_201 rfl (lv_at hl 1 rfl) ?_
                  obtain ⟨u13, r13, hc13, hf⟩ := bnd_some hf
                  refine mV_v (As := []) (rest := []) C0 hP hD hS (c_M_stringToken N hM hc13) k_M_stringToken hl_M_stringToken hi_M_stringToken hs_M_stringToken hini_M rfl rfl hd_M_stringToken rfl (rm_M_readTokens_M_stringToken hR) hl.1 (Nat.le_of_ble_eq_true rfl) d_M_readTokens_202 rfl ⟨Nat.zero_le _, Nat.zero_le _⟩ (fun H locs hP hD hS => ?_)
                  refine lv_goto (tgt := 213) hx hb d_M_readTokens_205 (by decide) ?_
                  exact wb_M_readTokens_213 C0 hR N G hG _ _ hf H locs hP hD hS ls (lv_sub hl [1] rfl)
              · rw [br_n _ hc] at hf
                refine lv_aload_n hx hb d_M_readTokens_188 rfl (lv_at hl 1 rfl) ?_
                obtain ⟨u14, r14, hc14, hf⟩ := bnd_some hf
                refine mV_v (As := []) (rest := []) C0 hP hD hS (c_M_numberToken N hM hc14) k_M_numberToken hl_M_numberToken hi_M_numberToken hs_M_numberToken hini_M rfl rfl hd_M_numberToken rfl (rm_M_readTokens_M_numberToken hR) hl.1 (Nat.le_of_ble_eq_true rfl) d_M_readTokens_189 rfl ⟨Nat.zero_le _, Nat.zero_le _⟩ (fun H locs hP hD hS => ?_)
                refine lv_goto (tgt := 213) hx hb d_M_readTokens_192 (by decide) ?_
                exact wb_M_readTokens_213 C0 hR N G hG _ _ hf H locs hP hD hS ls (lv_sub hl [1] rfl)
            · rw [br_n _ hc] at hf
              exact wb_M_readTokens_173 C0 hR N G hG _ _ _ hf H locs hP hD hS ls (lv_sub hl [1, 0] rfl)
        · rw [br_p _ hc] at hf
          exact hG.2 _ _ hf H locs hP hD hS ls (lv_sub hl [1] rfl)
      · rw [br_p _ hc] at hf
        exact wb_M_readTokens_80 C0 hR N G hG _ _ _ hf H locs hP hD hS ls (lv_sub hl [1, 0] rfl)
def fb_M_readTokens_19 (N : Nat) (G : (MS → Option (MS × Unit)) × (MS → Option (MS × Unit))) (u : MS) : Option (MS × Unit) := br (decide ((u.1 5) ≤ (u.1 10))) (fb_M_readTokens_216 N G u) (br (decide ((u.1 9) = 0)) (fb_M_readTokens_53 N G u) (ck (inb ((u.1 9) - 1) (ln 6)) (br (decide ((u.2.2.1 6 ((u.1 9) - 1).toNatClampNeg) = 7)) (fb_M_readTokens_216 N G u) (fb_M_readTokens_53 N G u))))
set_option maxRecDepth 100000 in
set_option maxHeartbeats 4000000 in
theorem wb_M_readTokens_19 {p : Program} {l : Launch} {e : Env} {R : Room} {s : State} {m : MethodId} {args : Array Value} {below : List Frame} {meth : Method} {c : Code} {D : va_G} {cl : List vw_C} {cB cI cJ cZ cS : ClassId} {A : Nat → Prop} {iM h0 : Nat} {ad : Nat → Nat} (C0 : MCx p s m args meth c b_M_readTokens 2 none D cl cB cI cJ cZ cS iM A) (hR : R = rm_M_readTokens) (N : Nat) (G : (MS → Option (MS × Unit)) × (MS → Option (MS × Unit))) (hG : (∀ (u : MS) (x : MS × Unit), G.1 u = some x → ∀ (H : Heap) (locs : List Loc), va_P D cl (wM cB cI cJ cZ cS iM h0 ad u) H → va_D A (wM cB cI cJ cZ cS iM h0 ad u) → va_S A s.heap H locs → ∀ (ls : Array Slot), lv_has ls 2 [(0, .ref h0)] → W p l e R s m args below meth c H locs 0 0 (MQ below (mQv D cl cB cI cJ cZ cS iM h0 ad A x) args s 0 0 A) (F0 m 19 ls [])) ∧ (∀ (u : MS) (x : MS × Unit), G.2 u = some x → ∀ (H : Heap) (locs : List Loc), va_P D cl (wM cB cI cJ cZ cS iM h0 ad u) H → va_D A (wM cB cI cJ cZ cS iM h0 ad u) → va_S A s.heap H locs → ∀ (ls : Array Slot), lv_has ls 2 [(0, .ref h0)] → W p l e R s m args below meth c H locs 0 0 (MQ below (mQv D cl cB cI cJ cZ cS iM h0 ad A x) args s 0 0 A) (F0 m 122 ls []))) : ∀ (u : MS) (x : MS × Unit), fb_M_readTokens_19 N G u = some x → ∀ (H : Heap) (locs : List Loc), va_P D cl (wM cB cI cJ cZ cS iM h0 ad u) H → va_D A (wM cB cI cJ cZ cS iM h0 ad u) → va_S A s.heap H locs → ∀ (ls : Array Slot), lv_has ls 2 [(0, .ref h0)] → W p l e R s m args below meth c H locs 0 0 (MQ below (mQv D cl cB cI cJ cZ cS iM h0 ad A x) args s 0 0 A) (F0 m 19 ls []) := by
  intro u x hf H locs hP hD hS ls hl
  obtain ⟨hx, hb, hr, hml, ht, hown, hM, hK, hA, hlocks⟩ := id C0
  unfold fb_M_readTokens_19 at hf
  refine lv_aload_n hx hb d_M_readTokens_19 rfl (lv_at hl 0 rfl) ?_
  refine ug_I hx hb ht hown hM hK hP 10 (by decide) lk_M_10 (by decide) d_M_readTokens_20 ?_
  refine lv_aload_n hx hb d_M_readTokens_23 rfl (lv_at hl 0 rfl) ?_
  refine ug_I hx hb ht hown hM hK hP 5 (by decide) lk_M_5 (by decide) d_M_readTokens_24 ?_
  refine lv_icmp_ge (tgt := 216) hx hb d_M_readTokens_27 (by decide) (fun hc => ?_) (fun hc => ?_)
  · rw [br_p _ hc] at hf
    exact wb_M_readTokens_216 C0 hR N G hG _ _ hf H locs hP hD hS ls (lv_sub hl [0] rfl)
  · rw [br_n _ hc] at hf
    refine lv_aload_n hx hb d_M_readTokens_30 rfl (lv_at hl 0 rfl) ?_
    refine ug_I hx hb ht hown hM hK hP 9 (by decide) lk_M_9 (by decide) d_M_readTokens_31 ?_
    refine lv_if_eq (tgt := 53) hx hb d_M_readTokens_34 (by decide) (fun hc => ?_) (fun hc => ?_)
    · rw [br_p _ hc] at hf
      exact wb_M_readTokens_53 C0 hR N G hG _ _ hf H locs hP hD hS ls (lv_sub hl [0] rfl)
    · rw [br_n _ hc] at hf
      refine lv_aload_n hx hb d_M_readTokens_37 rfl (lv_at hl 0 rfl) ?_
      refine ug_R hx hb ht hown hM hK hP 6 (by decide) lk_M_6 (by decide) d_M_readTokens_38 ?_
      refine lv_aload_n hx hb d_M_readTokens_41 rfl (lv_at hl 0 rfl) ?_
      refine ug_I hx hb ht hown hM hK hP 9 (by decide) lk_M_9 (by decide) d_M_readTokens_42 ?_
      refine lv_iconst (v := 1) hx hb d_M_readTokens_45 (by decide) ?_
      refine lv_isub hx hb d_M_readTokens_46 ?_
      obtain ⟨hi9, hf⟩ := ck_some hf
      refine ul_B hx hb hK hP (by decide) (by decide) hi9 d_M_readTokens_47 ?_
      refine lv_bipush (v := 7) hx hb d_M_readTokens_48 (by decide) ?_
      refine lv_icmp_eq (tgt := 216) hx hb d_M_readTokens_50 (by decide) (fun hc => ?_) (fun hc => ?_)
      · rw [br_p _ hc] at hf
        exact wb_M_readTokens_216 C0 hR N G hG _ _ hf H locs hP hD hS ls (lv_sub hl [0] rfl)
      · rw [br_n _ hc] at hf
        exact wb_M_readTokens_53 C0 hR N G hG _ _ hf H locs hP hD hS ls (lv_sub hl [0] rfl)
def fb_M_readTokens_0 (N : Nat) (G : (MS → Option (MS × Unit)) × (MS → Option (MS × Unit))) (u : MS) : Option (MS × Unit) := lt (upI u 10 0) (fun w15 => lt (upI w15 11 1) (fun w16 => lt (upI w16 9 0) (fun w17 => bnd (fm_M_allFirstAtoms N w17) (fun u18 _ => G.1 u18))))
set_option maxRecDepth 100000 in
set_option maxHeartbeats 4000000 in
theorem wb_M_readTokens_0 {p : Program} {l : Launch} {e : Env} {R : Room} {s : State} {m : MethodId} {args : Array Value} {below : List Frame} {meth : Method} {c : Code} {D : va_G} {cl : List vw_C} {cB cI cJ cZ cS : ClassId} {A : Nat → Prop} {iM h0 : Nat} {ad : Nat → Nat} (C0 : MCx p s m args meth c b_M_readTokens 2 none D cl cB cI cJ cZ cS iM A) (hR : R = rm_M_readTokens) (N : Nat) (G : (MS → Option (MS × Unit)) × (MS → Option (MS × Unit))) (hG : (∀ (u : MS) (x : MS × Unit), G.1 u = some x → ∀ (H : Heap) (locs : List Loc), va_P D cl (wM cB cI cJ cZ cS iM h0 ad u) H → va_D A (wM cB cI cJ cZ cS iM h0 ad u) → va_S A s.heap H locs → ∀ (ls : Array Slot), lv_has ls 2 [(0, .ref h0)] → W p l e R s m args below meth c H locs 0 0 (MQ below (mQv D cl cB cI cJ cZ cS iM h0 ad A x) args s 0 0 A) (F0 m 19 ls [])) ∧ (∀ (u : MS) (x : MS × Unit), G.2 u = some x → ∀ (H : Heap) (locs : List Loc), va_P D cl (wM cB cI cJ cZ cS iM h0 ad u) H → va_D A (wM cB cI cJ cZ cS iM h0 ad u) → va_S A s.heap H locs → ∀ (ls : Array Slot), lv_has ls 2 [(0, .ref h0)] → W p l e R s m args below meth c H locs 0 0 (MQ below (mQv D cl cB cI cJ cZ cS iM h0 ad A x) args s 0 0 A) (F0 m 122 ls []))) : ∀ (u : MS) (x : MS × Unit), fb_M_readTokens_0 N G u = some x → ∀ (H : Heap) (locs : List Loc), va_P D cl (wM cB cI cJ cZ cS iM h0 ad u) H → va_D A (wM cB cI cJ cZ cS iM h0 ad u) → va_S A s.heap H locs → ∀ (ls : Array Slot), lv_has ls 2 [(0, .ref h0)] → W p l e R s m args below meth c H locs 0 0 (MQ below (mQv D cl cB cI cJ cZ cS iM h0 ad A x) args s 0 0 A) (F0 m 0 ls []) := by
  intro u x hf H locs hP hD hS ls hl
  obtain ⟨hx, hb, hr, hml, ht, hown, hM, hK, hA, hlocks⟩ := id C0
  unfold fb_M_readTokens_0 at hf
  refine lv_aload_n hx hb d_M_readTokens_0 rfl (lv_at hl 0 rfl) ?_
  refine lv_iconst (v := 0) hx hb d_M_readTokens_1 (by decide) ?_
  refine up_I hx hb ht hown hM hK hP hD hS 10 (by decide) lk_M_10 (by decide) rfl rfl rfl d_M_readTokens_2 (fun H locs hP hD hS => ?_)
  obtain ⟨w15, e15, hf⟩ := lt_some hf
  rw [← e15] at hP hD
  refine lv_aload_n hx hb d_M_readTokens_5 rfl (lv_at hl 0 rfl) ?_
  refine lv_iconst (v := 1) hx hb d_M_readTokens_6 (by decide) ?_
  refine up_I hx hb ht hown hM hK hP hD hS 11 (by decide) lk_M_11 (by decide) rfl rfl rfl d_M_readTokens_7 (fun H locs hP hD hS => ?_)
  obtain ⟨w16, e16, hf⟩ := lt_some hf
  rw [← e16] at hP hD
  refine lv_aload_n hx hb d_M_readTokens_10 rfl (lv_at hl 0 rfl) ?_
  refine lv_iconst (v := 0) hx hb d_M_readTokens_11 (by decide) ?_
  refine up_I hx hb ht hown hM hK hP hD hS 9 (by decide) lk_M_9 (by decide) rfl rfl rfl d_M_readTokens_12 (fun H locs hP hD hS => ?_)
  obtain ⟨w17, e17, hf⟩ := lt_some hf
  rw [← e17] at hP hD
  refine lv_aload_n hx hb d_M_readTokens_15 rfl (lv_at hl 0 rfl) ?_
  obtain ⟨u18, r18, hc18, hf⟩ := bnd_some hf
  refine mV_v (As := []) (rest := []) C0 hP hD hS (c_M_allFirstAtoms N hM hc18) k_M_allFirstAtoms hl_M_allFirstAtoms hi_M_allFirstAtoms hs_M_allFirstAtoms hini_M rfl rfl hd_M_allFirstAtoms rfl (rm_M_readTokens_M_allFirstAtoms hR) hl.1 (Nat.le_of_ble_eq_true rfl) d_M_readTokens_16 rfl ⟨Nat.zero_le _, Nat.zero_le _⟩ (fun H locs hP hD hS => ?_)
  exact hG.1 _ _ hf H locs hP hD hS ls (lv_sub hl [0] rfl)
def gg_M_readTokens (N : Nat) : Nat → ((MS → Option (MS × Unit)) × (MS → Option (MS × Unit)))
  | 0 => (fun _ => none, fun _ => none)
  | n + 1 => (fb_M_readTokens_19 N (gg_M_readTokens N n), fb_M_readTokens_122 N (gg_M_readTokens N n))
theorem wg_M_readTokens {p : Program} {l : Launch} {e : Env} {R : Room} {s : State} {m : MethodId} {args : Array Value} {below : List Frame} {meth : Method} {c : Code} {D : va_G} {cl : List vw_C} {cB cI cJ cZ cS : ClassId} {A : Nat → Prop} {iM h0 : Nat} {ad : Nat → Nat} (C0 : MCx p s m args meth c b_M_readTokens 2 none D cl cB cI cJ cZ cS iM A) (hR : R = rm_M_readTokens) (N : Nat) : ∀ n : Nat, (∀ (u : MS) (x : MS × Unit), (gg_M_readTokens N n).1 u = some x → ∀ (H : Heap) (locs : List Loc), va_P D cl (wM cB cI cJ cZ cS iM h0 ad u) H → va_D A (wM cB cI cJ cZ cS iM h0 ad u) → va_S A s.heap H locs → ∀ (ls : Array Slot), lv_has ls 2 [(0, .ref h0)] → W p l e R s m args below meth c H locs 0 0 (MQ below (mQv D cl cB cI cJ cZ cS iM h0 ad A x) args s 0 0 A) (F0 m 19 ls [])) ∧ (∀ (u : MS) (x : MS × Unit), (gg_M_readTokens N n).2 u = some x → ∀ (H : Heap) (locs : List Loc), va_P D cl (wM cB cI cJ cZ cS iM h0 ad u) H → va_D A (wM cB cI cJ cZ cS iM h0 ad u) → va_S A s.heap H locs → ∀ (ls : Array Slot), lv_has ls 2 [(0, .ref h0)] → W p l e R s m args below meth c H locs 0 0 (MQ below (mQv D cl cB cI cJ cZ cS iM h0 ad A x) args s 0 0 A) (F0 m 122 ls []))
  | 0 => ⟨(fun u x hf => by cases hf), (fun u x hf => by cases hf)⟩
  | n + 1 => ⟨wb_M_readTokens_19 C0 hR N (gg_M_readTokens N n) (wg_M_readTokens C0 hR N n), wb_M_readTokens_122 C0 hR N (gg_M_readTokens N n) (wg_M_readTokens C0 hR N n)⟩
def fm_M_readTokens (N : Nat) (u : MS) : Option (MS × Unit) := fb_M_readTokens_0 N (gg_M_readTokens N N) u
set_option maxRecDepth 100000 in
set_option maxHeartbeats 4000000 in
theorem c_M_readTokens (N : Nat) {l : Launch} {D : va_G} {cl : List vw_C} {cB cI cJ cZ cS : ClassId} {iM h0 : Nat} {ad : Nat → Nat} {u : MS} {sz : Nat} {x : MS × Unit} (hM : cl[iM]? = some (R_M, F_M, 171)) (hf : fm_M_readTokens N u = some x) : Met l y_M_readTokens (wd_ws y_M_readTokens b_M_readTokens 2 none) rm_M_readTokens (mPc D cl cB cI cJ cZ cS iM h0 ad u sz [.ref h0]) (mQv D cl cB cI cJ cZ cS iM h0 ad (mA cB cI cJ cZ cS iM h0 ad u sz) x) 0 0 (mA cB cI cJ cZ cS iM h0 ad u sz) :=
  mMet (by decide) rfl hM (Nat.le_of_ble_eq_true rfl) (fun p e s m below meth c ls hsz C0 hP hD hS hl => by
    have hR : rm_M_readTokens = rm_M_readTokens := rfl
    exact wb_M_readTokens_0 C0 hR N (gg_M_readTokens N N) (wg_M_readTokens C0 hR N N) u x hf s.heap [] hP hD hS ls (lv_sub hl [0] rfl))
abbrev b_M_node : ByteArray := prog_14_method_20_code
def y_M_node : MethodName := ⟨R_M, "node", "(II)I"⟩
def w_M_node : List Cond := wd_ws y_M_node b_M_node 3 (some .int)
set_option maxRecDepth 100000 in
theorem k_M_node : Cond.code y_M_node b_M_node 3 (some .int) ∈ wd_tbl := wd_of 2787 rfl rfl
theorem d_M_node_0 : decode b_M_node 0 = .ok (.aload_n 0, 1) := by decide +kernel
theorem d_M_node_1 : decode b_M_node 1 = .ok (.getfield 56, 3) := by decide +kernel
theorem d_M_node_4 : decode b_M_node 4 = .ok (.aload_n 0, 1) := by decide +kernel
theorem d_M_node_5 : decode b_M_node 5 = .ok (.getfield 448, 3) := by decide +kernel
theorem d_M_node_8 : decode b_M_node 8 = .ok (.iload_n 1, 1) := by decide +kernel
theorem d_M_node_9 : decode b_M_node 9 = .ok (.i2b, 1) := by decide +kernel
theorem d_M_node_10 : decode b_M_node 10 = .ok (.bastore, 1) := by decide +kernel
theorem d_M_node_11 : decode b_M_node 11 = .ok (.aload_n 0, 1) := by decide +kernel
theorem d_M_node_12 : decode b_M_node 12 = .ok (.getfield 59, 3) := by decide +kernel
theorem d_M_node_15 : decode b_M_node 15 = .ok (.aload_n 0, 1) := by decide +kernel
theorem d_M_node_16 : decode b_M_node 16 = .ok (.getfield 448, 3) := by decide +kernel
theorem d_M_node_19 : decode b_M_node 19 = .ok (.iload_n 2, 1) := by decide +kernel
theorem d_M_node_20 : decode b_M_node 20 = .ok (.i2s, 1) := by decide +kernel
theorem d_M_node_21 : decode b_M_node 21 = .ok (.sastore, 1) := by decide +kernel
theorem d_M_node_22 : decode b_M_node 22 = .ok (.aload_n 0, 1) := by decide +kernel
theorem d_M_node_23 : decode b_M_node 23 = .ok (.getfield 63, 3) := by decide +kernel
theorem d_M_node_26 : decode b_M_node 26 = .ok (.aload_n 0, 1) := by decide +kernel
theorem d_M_node_27 : decode b_M_node 27 = .ok (.getfield 448, 3) := by decide +kernel
theorem d_M_node_30 : decode b_M_node 30 = .ok (.iconst (-1), 1) := by decide +kernel
theorem d_M_node_31 : decode b_M_node 31 = .ok (.iastore, 1) := by decide +kernel
theorem d_M_node_32 : decode b_M_node 32 = .ok (.aload_n 0, 1) := by decide +kernel
theorem d_M_node_33 : decode b_M_node 33 = .ok (.getfield 66, 3) := by decide +kernel
theorem d_M_node_36 : decode b_M_node 36 = .ok (.aload_n 0, 1) := by decide +kernel
theorem d_M_node_37 : decode b_M_node 37 = .ok (.getfield 448, 3) := by decide +kernel
theorem d_M_node_40 : decode b_M_node 40 = .ok (.iconst (-1), 1) := by decide +kernel
theorem d_M_node_41 : decode b_M_node 41 = .ok (.iastore, 1) := by decide +kernel
theorem d_M_node_42 : decode b_M_node 42 = .ok (.aload_n 0, 1) := by decide +kernel
theorem d_M_node_43 : decode b_M_node 43 = .ok (.getfield 69, 3) := by decide +kernel
theorem d_M_node_46 : decode b_M_node 46 = .ok (.aload_n 0, 1) := by decide +kernel
theorem d_M_node_47 : decode b_M_node 47 = .ok (.getfield 448, 3) := by decide +kernel
theorem d_M_node_50 : decode b_M_node 50 = .ok (.iconst (-1), 1) := by decide +kernel
theorem d_M_node_51 : decode b_M_node 51 = .ok (.iastore, 1) := by decide +kernel
theorem d_M_node_52 : decode b_M_node 52 = .ok (.aload_n 0, 1) := by decide +kernel
theorem d_M_node_53 : decode b_M_node 53 = .ok (.getfield 72, 3) := by decide +kernel
theorem d_M_node_56 : decode b_M_node 56 = .ok (.aload_n 0, 1) := by decide +kernel
theorem d_M_node_57 : decode b_M_node 57 = .ok (.getfield 448, 3) := by decide +kernel
theorem d_M_node_60 : decode b_M_node 60 = .ok (.iconst (-1), 1) := by decide +kernel
theorem d_M_node_61 : decode b_M_node 61 = .ok (.iastore, 1) := by decide +kernel
theorem d_M_node_62 : decode b_M_node 62 = .ok (.aload_n 0, 1) := by decide +kernel
theorem d_M_node_63 : decode b_M_node 63 = .ok (.getfield 75, 3) := by decide +kernel
theorem d_M_node_66 : decode b_M_node 66 = .ok (.aload_n 0, 1) := by decide +kernel
theorem d_M_node_67 : decode b_M_node 67 = .ok (.getfield 448, 3) := by decide +kernel
theorem d_M_node_70 : decode b_M_node 70 = .ok (.iconst (-1), 1) := by decide +kernel
theorem d_M_node_71 : decode b_M_node 71 = .ok (.iastore, 1) := by decide +kernel
theorem d_M_node_72 : decode b_M_node 72 = .ok (.aload_n 0, 1) := by decide +kernel
theorem d_M_node_73 : decode b_M_node 73 = .ok (.getfield 78, 3) := by decide +kernel
theorem d_M_node_76 : decode b_M_node 76 = .ok (.aload_n 0, 1) := by decide +kernel
theorem d_M_node_77 : decode b_M_node 77 = .ok (.getfield 448, 3) := by decide +kernel
theorem d_M_node_80 : decode b_M_node 80 = .ok (.iconst 0, 1) := by decide +kernel
theorem d_M_node_81 : decode b_M_node 81 = .ok (.bastore, 1) := by decide +kernel
theorem d_M_node_82 : decode b_M_node 82 = .ok (.aload_n 0, 1) := by decide +kernel
theorem d_M_node_83 : decode b_M_node 83 = .ok (.dup, 1) := by decide +kernel
theorem d_M_node_84 : decode b_M_node 84 = .ok (.getfield 448, 3) := by decide +kernel
theorem d_M_node_87 : decode b_M_node 87 = .ok (.iconst 1, 1) := by decide +kernel
theorem d_M_node_88 : decode b_M_node 88 = .ok (.iadd, 1) := by decide +kernel
theorem d_M_node_89 : decode b_M_node 89 = .ok (.putfield 448, 3) := by decide +kernel
theorem d_M_node_92 : decode b_M_node 92 = .ok (.aload_n 0, 1) := by decide +kernel
theorem d_M_node_93 : decode b_M_node 93 = .ok (.getfield 448, 3) := by decide +kernel
theorem d_M_node_96 : decode b_M_node 96 = .ok (.iconst 1, 1) := by decide +kernel
theorem d_M_node_97 : decode b_M_node 97 = .ok (.isub, 1) := by decide +kernel
theorem d_M_node_98 : decode b_M_node 98 = .ok (.ireturn, 1) := by decide +kernel
set_option maxRecDepth 100000 in
theorem hl_M_node : Cond.methodLink R_M 500 y_M_node ∈ wd_tbl := wd_of 2784 (by decide +kernel) rfl
set_option maxRecDepth 100000 in
theorem hi_M_node : Cond.instanceMethod y_M_node ∈ wd_tbl := wd_of 2786 (by decide +kernel) rfl
set_option maxRecDepth 100000 in
theorem hs_M_node : Cond.selects R_M y_M_node y_M_node ∈ wd_tbl := wd_of 160 (by decide +kernel) rfl
theorem hd_M_node : y_M_node.cls = R_M ∧ y_M_node.cls ≠ "java/lang/invoke/MethodHandle" ∧ y_M_node.cls ≠ "java/lang/invoke/VarHandle" ∧ (parseMethodDescriptor y_M_node.desc).map (fun d => d.parameters.length) = some 2 := by decide +kernel
def rm_M_node : Room := { frames := 0, cells := 0, slots := 0, locals := 0 }
def fb_M_node_0 (N : Nat) (G : Unit) (u : MS) (v1 : Int32) (v2 : Int32) : Option (MS × Int32) := ck (inb (u.1 32) (ln 23)) (lt (upA u 23 (upd (u.2.2.1 23) (u.1 32).toNatClampNeg (vp_nar .byte (v1.toInt8.toInt32)))) (fun w1 => ck (inb (w1.1 32) (ln 24)) (lt (upA w1 24 (upd (w1.2.2.1 24) (w1.1 32).toNatClampNeg (vp_nar .short (v2.toInt16.toInt32)))) (fun w2 => ck (inb (w2.1 32) (ln 25)) (lt (upA w2 25 (upd (w2.2.2.1 25) (w2.1 32).toNatClampNeg (-1))) (fun w3 => ck (inb (w3.1 32) (ln 26)) (lt (upA w3 26 (upd (w3.2.2.1 26) (w3.1 32).toNatClampNeg (-1))) (fun w4 => ck (inb (w4.1 32) (ln 27)) (lt (upA w4 27 (upd (w4.2.2.1 27) (w4.1 32).toNatClampNeg (-1))) (fun w5 => ck (inb (w5.1 32) (ln 28)) (lt (upA w5 28 (upd (w5.2.2.1 28) (w5.1 32).toNatClampNeg (-1))) (fun w6 => ck (inb (w6.1 32) (ln 29)) (lt (upA w6 29 (upd (w6.2.2.1 29) (w6.1 32).toNatClampNeg (-1))) (fun w7 => ck (inb (w7.1 32) (ln 30)) (lt (upA w7 30 (upd (w7.2.2.1 30) (w7.1 32).toNatClampNeg (vp_nar .boolean 0))) (fun w8 => lt (upI w8 32 ((w8.1 32) + 1)) (fun w9 => some (w9, ((w9.1 32) - 1)))))))))))))))))))
set_option maxRecDepth 100000 in
set_option maxHeartbeats 4000000 in
theorem wb_M_node_0 {p : Program} {l : Launch} {e : Env} {R : Room} {s : State} {m : MethodId} {args : Array Value} {below : List Frame} {meth : Method} {c : Code} {D : va_G} {cl : List vw_C} {cB cI cJ cZ cS : ClassId} {A : Nat → Prop} {iM h0 : Nat} {ad : Nat → Nat} (C0 : MCx p s m args meth c b_M_node 3 (some .int) D cl cB cI cJ cZ cS iM A) (hR : R = rm_M_node) (N : Nat) (G : Unit) (hG : True) : ∀ (u : MS) (v1 : Int32) (v2 : Int32) (x : MS × Int32), fb_M_node_0 N G u v1 v2 = some x → ∀ (H : Heap) (locs : List Loc), va_P D cl (wM cB cI cJ cZ cS iM h0 ad u) H → va_D A (wM cB cI cJ cZ cS iM h0 ad u) → va_S A s.heap H locs → ∀ (ls : Array Slot), lv_has ls 3 [(0, .ref h0), (1, .int v1), (2, .int v2)] → W p l e R s m args below meth c H locs 0 0 (MQ below (mQi D cl cB cI cJ cZ cS iM h0 ad A x) args s 0 0 A) (F0 m 0 ls []) := by
  intro u v1 v2 x hf H locs hP hD hS ls hl
  obtain ⟨hx, hb, hr, hml, ht, hown, hM, hK, hA, hlocks⟩ := id C0
  unfold fb_M_node_0 at hf
  refine lv_aload_n hx hb d_M_node_0 rfl (lv_at hl 0 rfl) ?_
  refine ug_R hx hb ht hown hM hK hP 23 (by decide) lk_M_23 (by decide) d_M_node_1 ?_
  refine lv_aload_n hx hb d_M_node_4 rfl (lv_at hl 0 rfl) ?_
  refine ug_I hx hb ht hown hM hK hP 32 (by decide) lk_M_32 (by decide) d_M_node_5 ?_
  refine lv_iload_n hx hb d_M_node_8 rfl (lv_at hl 1 rfl) ?_
  refine lv_i2b hx hb d_M_node_9 rfl ?_
  obtain ⟨hi9, hf⟩ := ck_some hf
  refine us_B hx hb hK hP hD hS (by decide) (by decide) hi9 d_M_node_10 (fun H locs hP hD hS => ?_)
  obtain ⟨w1, e1, hf⟩ := lt_some hf
  rw [← e1] at hP hD
  refine lv_aload_n hx hb d_M_node_11 rfl (lv_at hl 0 rfl) ?_
  refine ug_R hx hb ht hown hM hK hP 24 (by decide) lk_M_24 (by decide) d_M_node_12 ?_
  refine lv_aload_n hx hb d_M_node_15 rfl (lv_at hl 0 rfl) ?_
  refine ug_I hx hb ht hown hM hK hP 32 (by decide) lk_M_32 (by decide) d_M_node_16 ?_
  refine lv_iload_n hx hb d_M_node_19 rfl (lv_at hl 2 rfl) ?_
  refine lv_i2s hx hb d_M_node_20 rfl ?_
  obtain ⟨hi9, hf⟩ := ck_some hf
  refine us_S hx hb hK hP hD hS (by decide) (by decide) hi9 d_M_node_21 (fun H locs hP hD hS => ?_)
  obtain ⟨w2, e2, hf⟩ := lt_some hf
  rw [← e2] at hP hD
  refine lv_aload_n hx hb d_M_node_22 rfl (lv_at hl 0 rfl) ?_
  refine ug_R hx hb ht hown hM hK hP 25 (by decide) lk_M_25 (by decide) d_M_node_23 ?_
  refine lv_aload_n hx hb d_M_node_26 rfl (lv_at hl 0 rfl) ?_
  refine ug_I hx hb ht hown hM hK hP 32 (by decide) lk_M_32 (by decide) d_M_node_27 ?_
  refine lv_iconst (v := (-1)) hx hb d_M_node_30 (by decide) ?_
  obtain ⟨hi9, hf⟩ := ck_some hf
  refine us_I hx hb hK hP hD hS (by decide) (by decide) hi9 d_M_node_31 (fun H locs hP hD hS => ?_)
  obtain ⟨w3, e3, hf⟩ := lt_some hf
  rw [← e3] at hP hD
  refine lv_aload_n hx hb d_M_node_32 rfl (lv_at hl 0 rfl) ?_
  refine ug_R hx hb ht hown hM hK hP 26 (by decide) lk_M_26 (by decide) d_M_node_33 ?_
  refine lv_aload_n hx hb d_M_node_36 rfl (lv_at hl 0 rfl) ?_
  refine ug_I hx hb ht hown hM hK hP 32 (by decide) lk_M_32 (by decide) d_M_node_37 ?_
  refine lv_iconst (v := (-1)) hx hb d_M_node_40 (by decide) ?_
  obtain ⟨hi9, hf⟩ := ck_some hf
  refine us_I hx hb hK hP hD hS (by decide) (by decide) hi9 d_M_node_41 (fun H locs hP hD hS => ?_)
  obtain ⟨w4, e4, hf⟩ := lt_some hf
  rw [← e4] at hP hD
  refine lv_aload_n hx hb d_M_node_42 rfl (lv_at hl 0 rfl) ?_
  refine ug_R hx hb ht hown hM hK hP 27 (by decide) lk_M_27 (by decide) d_M_node_43 ?_
  refine lv_aload_n hx hb d_M_node_46 rfl (lv_at hl 0 rfl) ?_
  refine ug_I hx hb ht hown hM hK hP 32 (by decide) lk_M_32 (by decide) d_M_node_47 ?_
  refine lv_iconst (v := (-1)) hx hb d_M_node_50 (by decide) ?_
  obtain ⟨hi9, hf⟩ := ck_some hf
  refine us_I hx hb hK hP hD hS (by decide) (by decide) hi9 d_M_node_51 (fun H locs hP hD hS => ?_)
  obtain ⟨w5, e5, hf⟩ := lt_some hf
  rw [← e5] at hP hD
  refine lv_aload_n hx hb d_M_node_52 rfl (lv_at hl 0 rfl) ?_
  refine ug_R hx hb ht hown hM hK hP 28 (by decide) lk_M_28 (by decide) d_M_node_53 ?_
  refine lv_aload_n hx hb d_M_node_56 rfl (lv_at hl 0 rfl) ?_
  refine ug_I hx hb ht hown hM hK hP 32 (by decide) lk_M_32 (by decide) d_M_node_57 ?_
  refine lv_iconst (v := (-1)) hx hb d_M_node_60 (by decide) ?_
  obtain ⟨hi9, hf⟩ := ck_some hf
  refine us_I hx hb hK hP hD hS (by decide) (by decide) hi9 d_M_node_61 (fun H locs hP hD hS => ?_)
  obtain ⟨w6, e6, hf⟩ := lt_some hf
  rw [← e6] at hP hD
  refine lv_aload_n hx hb d_M_node_62 rfl (lv_at hl 0 rfl) ?_
  refine ug_R hx hb ht hown hM hK hP 29 (by decide) lk_M_29 (by decide) d_M_node_63 ?_
  refine lv_aload_n hx hb d_M_node_66 rfl (lv_at hl 0 rfl) ?_
  refine ug_I hx hb ht hown hM hK hP 32 (by decide) lk_M_32 (by decide) d_M_node_67 ?_
  refine lv_iconst (v := (-1)) hx hb d_M_node_70 (by decide) ?_
  obtain ⟨hi9, hf⟩ := ck_some hf
  refine us_I hx hb hK hP hD hS (by decide) (by decide) hi9 d_M_node_71 (fun H locs hP hD hS => ?_)
  obtain ⟨w7, e7, hf⟩ := lt_some hf
  rw [← e7] at hP hD
  refine lv_aload_n hx hb d_M_node_72 rfl (lv_at hl 0 rfl) ?_
  refine ug_R hx hb ht hown hM hK hP 30 (by decide) lk_M_30 (by decide) d_M_node_73 ?_
  refine lv_aload_n hx hb d_M_node_76 rfl (lv_at hl 0 rfl) ?_
  refine ug_I hx hb ht hown hM hK hP 32 (by decide) lk_M_32 (by decide) d_M_node_77 ?_
  refine lv_iconst (v := 0) hx hb d_M_node_80 (by decide) ?_
  obtain ⟨hi9, hf⟩ := ck_some hf
  refine us_Z hx hb hK hP hD hS (by decide) (by decide) hi9 d_M_node_81 (fun H locs hP hD hS => ?_)
  obtain ⟨w8, e8, hf⟩ := lt_some hf
  rw [← e8] at hP hD
  refine lv_aload_n hx hb d_M_node_82 rfl (lv_at hl 0 rfl) ?_
  refine lv_dup hx hb d_M_node_83 rfl ?_
  refine ug_I hx hb ht hown hM hK hP 32 (by decide) lk_M_32 (by decide) d_M_node_84 ?_
  refine lv_iconst (v := 1) hx hb d_M_node_87 (by decide) ?_
  refine lv_iadd hx hb d_M_node_88 ?_
  refine up_I hx hb ht hown hM hK hP hD hS 32 (by decide) lk_M_32 (by decide) rfl rfl rfl d_M_node_89 (fun H locs hP hD hS => ?_)
  obtain ⟨w9, e9, hf⟩ := lt_some hf
  rw [← e9] at hP hD
  refine lv_aload_n hx hb d_M_node_92 rfl (lv_at hl 0 rfl) ?_
  refine ug_I hx hb ht hown hM hK hP 32 (by decide) lk_M_32 (by decide) d_M_node_93 ?_
  refine lv_iconst (v := 1) hx hb d_M_node_96 (by decide) ?_
  refine lv_isub hx hb d_M_node_97 ?_
  exact mr_i C0 hP hD hS hf d_M_node_98
def fm_M_node (N : Nat) (u : MS) (v1 : Int32) (v2 : Int32) : Option (MS × Int32) := fb_M_node_0 N () u v1 v2
set_option maxRecDepth 100000 in
set_option maxHeartbeats 4000000 in
theorem c_M_node (N : Nat) {l : Launch} {D : va_G} {cl : List vw_C} {cB cI cJ cZ cS : ClassId} {iM h0 : Nat} {ad : Nat → Nat} {u : MS} {sz : Nat} {v1 : Int32} {v2 : Int32} {x : MS × Int32} (hM : cl[iM]? = some (R_M, F_M, 171)) (hf : fm_M_node N u v1 v2 = some x) : Met l y_M_node (wd_ws y_M_node b_M_node 3 (some .int)) rm_M_node (mPc D cl cB cI cJ cZ cS iM h0 ad u sz [.ref h0, .int v1, .int v2]) (mQi D cl cB cI cJ cZ cS iM h0 ad (mA cB cI cJ cZ cS iM h0 ad u sz) x) 0 0 (mA cB cI cJ cZ cS iM h0 ad u sz) :=
  mMet (by decide) rfl hM (Nat.le_of_ble_eq_true rfl) (fun p e s m below meth c ls hsz C0 hP hD hS hl => by
    have hR : rm_M_node = rm_M_node := rfl
    exact wb_M_node_0 C0 hR N () trivial u _ _ x hf s.heap [] hP hD hS ls (lv_sub hl [0, 1, 2] rfl))
abbrev b_M_pattern : ByteArray := prog_14_method_21_code
def y_M_pattern : MethodName := ⟨R_M, "pattern", "(I)I"⟩
def w_M_pattern : List Cond := wd_ws y_M_pattern b_M_pattern 2 (some .int)
set_option maxRecDepth 100000 in
theorem k_M_pattern : Cond.code y_M_pattern b_M_pattern 2 (some .int) ∈ wd_tbl := wd_of 2739 rfl rfl
theorem d_M_pattern_0 : decode b_M_pattern 0 = .ok (.aload_n 0, 1) := by decide +kernel
theorem d_M_pattern_1 : decode b_M_pattern 1 = .ok (.getfield 85, 3) := by decide +kernel
theorem d_M_pattern_4 : decode b_M_pattern 4 = .ok (.aload_n 0, 1) := by decide +kernel
theorem d_M_pattern_5 : decode b_M_pattern 5 = .ok (.getfield 451, 3) := by decide +kernel
theorem d_M_pattern_8 : decode b_M_pattern 8 = .ok (.iload_n 1, 1) := by decide +kernel
theorem d_M_pattern_9 : decode b_M_pattern 9 = .ok (.i2b, 1) := by decide +kernel
theorem d_M_pattern_10 : decode b_M_pattern 10 = .ok (.bastore, 1) := by decide +kernel
theorem d_M_pattern_11 : decode b_M_pattern 11 = .ok (.aload_n 0, 1) := by decide +kernel
theorem d_M_pattern_12 : decode b_M_pattern 12 = .ok (.getfield 88, 3) := by decide +kernel
theorem d_M_pattern_15 : decode b_M_pattern 15 = .ok (.aload_n 0, 1) := by decide +kernel
theorem d_M_pattern_16 : decode b_M_pattern 16 = .ok (.getfield 451, 3) := by decide +kernel
theorem d_M_pattern_19 : decode b_M_pattern 19 = .ok (.lconst 0, 1) := by decide +kernel
theorem d_M_pattern_20 : decode b_M_pattern 20 = .ok (.lastore, 1) := by decide +kernel
theorem d_M_pattern_21 : decode b_M_pattern 21 = .ok (.aload_n 0, 1) := by decide +kernel
theorem d_M_pattern_22 : decode b_M_pattern 22 = .ok (.getfield 92, 3) := by decide +kernel
theorem d_M_pattern_25 : decode b_M_pattern 25 = .ok (.aload_n 0, 1) := by decide +kernel
theorem d_M_pattern_26 : decode b_M_pattern 26 = .ok (.getfield 451, 3) := by decide +kernel
theorem d_M_pattern_29 : decode b_M_pattern 29 = .ok (.iconst 0, 1) := by decide +kernel
theorem d_M_pattern_30 : decode b_M_pattern 30 = .ok (.iastore, 1) := by decide +kernel
theorem d_M_pattern_31 : decode b_M_pattern 31 = .ok (.aload_n 0, 1) := by decide +kernel
theorem d_M_pattern_32 : decode b_M_pattern 32 = .ok (.getfield 95, 3) := by decide +kernel
theorem d_M_pattern_35 : decode b_M_pattern 35 = .ok (.aload_n 0, 1) := by decide +kernel
theorem d_M_pattern_36 : decode b_M_pattern 36 = .ok (.getfield 451, 3) := by decide +kernel
theorem d_M_pattern_39 : decode b_M_pattern 39 = .ok (.iconst (-1), 1) := by decide +kernel
theorem d_M_pattern_40 : decode b_M_pattern 40 = .ok (.iastore, 1) := by decide +kernel
theorem d_M_pattern_41 : decode b_M_pattern 41 = .ok (.aload_n 0, 1) := by decide +kernel
theorem d_M_pattern_42 : decode b_M_pattern 42 = .ok (.getfield 98, 3) := by decide +kernel
theorem d_M_pattern_45 : decode b_M_pattern 45 = .ok (.aload_n 0, 1) := by decide +kernel
theorem d_M_pattern_46 : decode b_M_pattern 46 = .ok (.getfield 451, 3) := by decide +kernel
theorem d_M_pattern_49 : decode b_M_pattern 49 = .ok (.iconst (-1), 1) := by decide +kernel
theorem d_M_pattern_50 : decode b_M_pattern 50 = .ok (.iastore, 1) := by decide +kernel
theorem d_M_pattern_51 : decode b_M_pattern 51 = .ok (.aload_n 0, 1) := by decide +kernel
theorem d_M_pattern_52 : decode b_M_pattern 52 = .ok (.getfield 101, 3) := by decide +kernel
theorem d_M_pattern_55 : decode b_M_pattern 55 = .ok (.aload_n 0, 1) := by decide +kernel
theorem d_M_pattern_56 : decode b_M_pattern 56 = .ok (.getfield 451, 3) := by decide +kernel
theorem d_M_pattern_59 : decode b_M_pattern 59 = .ok (.iconst 0, 1) := by decide +kernel
theorem d_M_pattern_60 : decode b_M_pattern 60 = .ok (.bastore, 1) := by decide +kernel
theorem d_M_pattern_61 : decode b_M_pattern 61 = .ok (.aload_n 0, 1) := by decide +kernel
theorem d_M_pattern_62 : decode b_M_pattern 62 = .ok (.dup, 1) := by decide +kernel
theorem d_M_pattern_63 : decode b_M_pattern 63 = .ok (.getfield 451, 3) := by decide +kernel
theorem d_M_pattern_66 : decode b_M_pattern 66 = .ok (.iconst 1, 1) := by decide +kernel
theorem d_M_pattern_67 : decode b_M_pattern 67 = .ok (.iadd, 1) := by decide +kernel
theorem d_M_pattern_68 : decode b_M_pattern 68 = .ok (.putfield 451, 3) := by decide +kernel
theorem d_M_pattern_71 : decode b_M_pattern 71 = .ok (.aload_n 0, 1) := by decide +kernel
theorem d_M_pattern_72 : decode b_M_pattern 72 = .ok (.getfield 451, 3) := by decide +kernel
theorem d_M_pattern_75 : decode b_M_pattern 75 = .ok (.iconst 1, 1) := by decide +kernel
theorem d_M_pattern_76 : decode b_M_pattern 76 = .ok (.isub, 1) := by decide +kernel
theorem d_M_pattern_77 : decode b_M_pattern 77 = .ok (.ireturn, 1) := by decide +kernel
set_option maxRecDepth 100000 in
theorem hl_M_pattern : Cond.methodLink R_M 568 y_M_pattern ∈ wd_tbl := wd_of 2736 (by decide +kernel) rfl
set_option maxRecDepth 100000 in
theorem hi_M_pattern : Cond.instanceMethod y_M_pattern ∈ wd_tbl := wd_of 2738 (by decide +kernel) rfl
set_option maxRecDepth 100000 in
theorem hs_M_pattern : Cond.selects R_M y_M_pattern y_M_pattern ∈ wd_tbl := wd_of 148 (by decide +kernel) rfl
theorem hd_M_pattern : y_M_pattern.cls = R_M ∧ y_M_pattern.cls ≠ "java/lang/invoke/MethodHandle" ∧ y_M_pattern.cls ≠ "java/lang/invoke/VarHandle" ∧ (parseMethodDescriptor y_M_pattern.desc).map (fun d => d.parameters.length) = some 1 := by decide +kernel
def rm_M_pattern : Room := { frames := 0, cells := 0, slots := 0, locals := 0 }
def fb_M_pattern_0 (N : Nat) (G : Unit) (u : MS) (v1 : Int32) : Option (MS × Int32) := ck (inb (u.1 39) (ln 33)) (lt (upA u 33 (upd (u.2.2.1 33) (u.1 39).toNatClampNeg (vp_nar .byte (v1.toInt8.toInt32)))) (fun w1 => ck (inb (w1.1 39) (ln 34)) (lt (upJ w1 34 (vp_updL (w1.2.2.2 34) (w1.1 39).toNatClampNeg 0)) (fun w2 => ck (inb (w2.1 39) (ln 35)) (lt (upA w2 35 (upd (w2.2.2.1 35) (w2.1 39).toNatClampNeg 0)) (fun w3 => ck (inb (w3.1 39) (ln 36)) (lt (upA w3 36 (upd (w3.2.2.1 36) (w3.1 39).toNatClampNeg (-1))) (fun w4 => ck (inb (w4.1 39) (ln 37)) (lt (upA w4 37 (upd (w4.2.2.1 37) (w4.1 39).toNatClampNeg (-1))) (fun w5 => ck (inb (w5.1 39) (ln 38)) (lt (upA w5 38 (upd (w5.2.2.1 38) (w5.1 39).toNatClampNeg (vp_nar .boolean 0))) (fun w6 => lt (upI w6 39 ((w6.1 39) + 1)) (fun w7 => some (w7, ((w7.1 39) - 1)))))))))))))))
set_option maxRecDepth 100000 in
set_option maxHeartbeats 4000000 in
theorem wb_M_pattern_0 {p : Program} {l : Launch} {e : Env} {R : Room} {s : State} {m : MethodId} {args : Array Value} {below : List Frame} {meth : Method} {c : Code} {D : va_G} {cl : List vw_C} {cB cI cJ cZ cS : ClassId} {A : Nat → Prop} {iM h0 : Nat} {ad : Nat → Nat} (C0 : MCx p s m args meth c b_M_pattern 2 (some .int) D cl cB cI cJ cZ cS iM A) (hR : R = rm_M_pattern) (N : Nat) (G : Unit) (hG : True) : ∀ (u : MS) (v1 : Int32) (x : MS × Int32), fb_M_pattern_0 N G u v1 = some x → ∀ (H : Heap) (locs : List Loc), va_P D cl (wM cB cI cJ cZ cS iM h0 ad u) H → va_D A (wM cB cI cJ cZ cS iM h0 ad u) → va_S A s.heap H locs → ∀ (ls : Array Slot), lv_has ls 2 [(0, .ref h0), (1, .int v1)] → W p l e R s m args below meth c H locs 0 0 (MQ below (mQi D cl cB cI cJ cZ cS iM h0 ad A x) args s 0 0 A) (F0 m 0 ls []) := by
  intro u v1 x hf H locs hP hD hS ls hl
  obtain ⟨hx, hb, hr, hml, ht, hown, hM, hK, hA, hlocks⟩ := id C0
  unfold fb_M_pattern_0 at hf
  refine lv_aload_n hx hb d_M_pattern_0 rfl (lv_at hl 0 rfl) ?_
  refine ug_R hx hb ht hown hM hK hP 33 (by decide) lk_M_33 (by decide) d_M_pattern_1 ?_
  refine lv_aload_n hx hb d_M_pattern_4 rfl (lv_at hl 0 rfl) ?_
  refine ug_I hx hb ht hown hM hK hP 39 (by decide) lk_M_39 (by decide) d_M_pattern_5 ?_
  refine lv_iload_n hx hb d_M_pattern_8 rfl (lv_at hl 1 rfl) ?_
  refine lv_i2b hx hb d_M_pattern_9 rfl ?_
  obtain ⟨hi9, hf⟩ := ck_some hf
  refine us_B hx hb hK hP hD hS (by decide) (by decide) hi9 d_M_pattern_10 (fun H locs hP hD hS => ?_)
  obtain ⟨w1, e1, hf⟩ := lt_some hf
  rw [← e1] at hP hD
  refine lv_aload_n hx hb d_M_pattern_11 rfl (lv_at hl 0 rfl) ?_
  refine ug_R hx hb ht hown hM hK hP 34 (by decide) lk_M_34 (by decide) d_M_pattern_12 ?_
  refine lv_aload_n hx hb d_M_pattern_15 rfl (lv_at hl 0 rfl) ?_
  refine ug_I hx hb ht hown hM hK hP 39 (by decide) lk_M_39 (by decide) d_M_pattern_16 ?_
  refine lv_lconst (v := 0) hx hb d_M_pattern_19 (by decide) ?_
  obtain ⟨hi9, hf⟩ := ck_some hf
  refine us_J hx hb hK hP hD hS (by decide) (by decide) hi9 d_M_pattern_20 (fun H locs hP hD hS => ?_)
  obtain ⟨w2, e2, hf⟩ := lt_some hf
  rw [← e2] at hP hD
  refine lv_aload_n hx hb d_M_pattern_21 rfl (lv_at hl 0 rfl) ?_
  refine ug_R hx hb ht hown hM hK hP 35 (by decide) lk_M_35 (by decide) d_M_pattern_22 ?_
  refine lv_aload_n hx hb d_M_pattern_25 rfl (lv_at hl 0 rfl) ?_
  refine ug_I hx hb ht hown hM hK hP 39 (by decide) lk_M_39 (by decide) d_M_pattern_26 ?_
  refine lv_iconst (v := 0) hx hb d_M_pattern_29 (by decide) ?_
  obtain ⟨hi9, hf⟩ := ck_some hf
  refine us_I hx hb hK hP hD hS (by decide) (by decide) hi9 d_M_pattern_30 (fun H locs hP hD hS => ?_)
  obtain ⟨w3, e3, hf⟩ := lt_some hf
  rw [← e3] at hP hD
  refine lv_aload_n hx hb d_M_pattern_31 rfl (lv_at hl 0 rfl) ?_
  refine ug_R hx hb ht hown hM hK hP 36 (by decide) lk_M_36 (by decide) d_M_pattern_32 ?_
  refine lv_aload_n hx hb d_M_pattern_35 rfl (lv_at hl 0 rfl) ?_
  refine ug_I hx hb ht hown hM hK hP 39 (by decide) lk_M_39 (by decide) d_M_pattern_36 ?_
  refine lv_iconst (v := (-1)) hx hb d_M_pattern_39 (by decide) ?_
  obtain ⟨hi9, hf⟩ := ck_some hf
  refine us_I hx hb hK hP hD hS (by decide) (by decide) hi9 d_M_pattern_40 (fun H locs hP hD hS => ?_)
  obtain ⟨w4, e4, hf⟩ := lt_some hf
  rw [← e4] at hP hD
  refine lv_aload_n hx hb d_M_pattern_41 rfl (lv_at hl 0 rfl) ?_
  refine ug_R hx hb ht hown hM hK hP 37 (by decide) lk_M_37 (by decide) d_M_pattern_42 ?_
  refine lv_aload_n hx hb d_M_pattern_45 rfl (lv_at hl 0 rfl) ?_
  refine ug_I hx hb ht hown hM hK hP 39 (by decide) lk_M_39 (by decide) d_M_pattern_46 ?_
  refine lv_iconst (v := (-1)) hx hb d_M_pattern_49 (by decide) ?_
  obtain ⟨hi9, hf⟩ := ck_some hf
  refine us_I hx hb hK hP hD hS (by decide) (by decide) hi9 d_M_pattern_50 (fun H locs hP hD hS => ?_)
  obtain ⟨w5, e5, hf⟩ := lt_some hf
  rw [← e5] at hP hD
  refine lv_aload_n hx hb d_M_pattern_51 rfl (lv_at hl 0 rfl) ?_
  refine ug_R hx hb ht hown hM hK hP 38 (by decide) lk_M_38 (by decide) d_M_pattern_52 ?_
  refine lv_aload_n hx hb d_M_pattern_55 rfl (lv_at hl 0 rfl) ?_
  refine ug_I hx hb ht hown hM hK hP 39 (by decide) lk_M_39 (by decide) d_M_pattern_56 ?_
  refine lv_iconst (v := 0) hx hb d_M_pattern_59 (by decide) ?_
  obtain ⟨hi9, hf⟩ := ck_some hf
  refine us_Z hx hb hK hP hD hS (by decide) (by decide) hi9 d_M_pattern_60 (fun H locs hP hD hS => ?_)
  obtain ⟨w6, e6, hf⟩ := lt_some hf
  rw [← e6] at hP hD
  refine lv_aload_n hx hb d_M_pattern_61 rfl (lv_at hl 0 rfl) ?_
  refine lv_dup hx hb d_M_pattern_62 rfl ?_
  refine ug_I hx hb ht hown hM hK hP 39 (by decide) lk_M_39 (by decide) d_M_pattern_63 ?_
  refine lv_iconst (v := 1) hx hb d_M_pattern_66 (by decide) ?_
  refine lv_iadd hx hb d_M_pattern_67 ?_
  refine up_I hx hb ht hown hM hK hP hD hS 39 (by decide) lk_M_39 (by decide) rfl rfl rfl d_M_pattern_68 (fun H locs hP hD hS => ?_)
  obtain ⟨w7, e7, hf⟩ := lt_some hf
  rw [← e7] at hP hD
  refine lv_aload_n hx hb d_M_pattern_71 rfl (lv_at hl 0 rfl) ?_
  refine ug_I hx hb ht hown hM hK hP 39 (by decide) lk_M_39 (by decide) d_M_pattern_72 ?_
  refine lv_iconst (v := 1) hx hb d_M_pattern_75 (by decide) ?_
  refine lv_isub hx hb d_M_pattern_76 ?_
  exact mr_i C0 hP hD hS hf d_M_pattern_77
def fm_M_pattern (N : Nat) (u : MS) (v1 : Int32) : Option (MS × Int32) := fb_M_pattern_0 N () u v1
set_option maxRecDepth 100000 in
set_option maxHeartbeats 4000000 in
theorem c_M_pattern (N : Nat) {l : Launch} {D : va_G} {cl : List vw_C} {cB cI cJ cZ cS : ClassId} {iM h0 : Nat} {ad : Nat → Nat} {u : MS} {sz : Nat} {v1 : Int32} {x : MS × Int32} (hM : cl[iM]? = some (R_M, F_M, 171)) (hf : fm_M_pattern N u v1 = some x) : Met l y_M_pattern (wd_ws y_M_pattern b_M_pattern 2 (some .int)) rm_M_pattern (mPc D cl cB cI cJ cZ cS iM h0 ad u sz [.ref h0, .int v1]) (mQi D cl cB cI cJ cZ cS iM h0 ad (mA cB cI cJ cZ cS iM h0 ad u sz) x) 0 0 (mA cB cI cJ cZ cS iM h0 ad u sz) :=
  mMet (by decide) rfl hM (Nat.le_of_ble_eq_true rfl) (fun p e s m below meth c ls hsz C0 hP hD hS hl => by
    have hR : rm_M_pattern = rm_M_pattern := rfl
    exact wb_M_pattern_0 C0 hR N () trivial u _ x hf s.heap [] hP hD hS ls (lv_sub hl [0, 1] rfl))
abbrev b_M_wrong : ByteArray := prog_14_method_22_code
def y_M_wrong : MethodName := ⟨R_M, "wrong", "(I)V"⟩
def w_M_wrong : List Cond := wd_ws y_M_wrong b_M_wrong 2 none
set_option maxRecDepth 100000 in
theorem k_M_wrong : Cond.code y_M_wrong b_M_wrong 2 none ∈ wd_tbl := wd_of 2703 rfl rfl
theorem d_M_wrong_0 : decode b_M_wrong 0 = .ok (.aload_n 0, 1) := by decide +kernel
theorem d_M_wrong_1 : decode b_M_wrong 1 = .ok (.getfield 454, 3) := by decide +kernel
theorem d_M_wrong_4 : decode b_M_wrong 4 = .ok (.ifCond .ne 39, 3) := by decide +kernel
theorem d_M_wrong_7 : decode b_M_wrong 7 = .ok (.aload_n 0, 1) := by decide +kernel
theorem d_M_wrong_8 : decode b_M_wrong 8 = .ok (.aload_n 0, 1) := by decide +kernel
theorem d_M_wrong_9 : decode b_M_wrong 9 = .ok (.getfield 22, 3) := by decide +kernel
theorem d_M_wrong_12 : decode b_M_wrong 12 = .ok (.aload_n 0, 1) := by decide +kernel
theorem d_M_wrong_13 : decode b_M_wrong 13 = .ok (.getfield 457, 3) := by decide +kernel
theorem d_M_wrong_16 : decode b_M_wrong 16 = .ok (.baload, 1) := by decide +kernel
theorem d_M_wrong_17 : decode b_M_wrong 17 = .ok (.bipush 7, 2) := by decide +kernel
theorem d_M_wrong_19 : decode b_M_wrong 19 = .ok (.if_icmp .ne 7, 3) := by decide +kernel
theorem d_M_wrong_22 : decode b_M_wrong 22 = .ok (.iconst 1, 1) := by decide +kernel
theorem d_M_wrong_23 : decode b_M_wrong 23 = .ok (.goto 4, 3) := by decide +kernel
theorem d_M_wrong_26 : decode b_M_wrong 26 = .ok (.iload_n 1, 1) := by decide +kernel
theorem d_M_wrong_27 : decode b_M_wrong 27 = .ok (.putfield 454, 3) := by decide +kernel
theorem d_M_wrong_30 : decode b_M_wrong 30 = .ok (.aload_n 0, 1) := by decide +kernel
theorem d_M_wrong_31 : decode b_M_wrong 31 = .ok (.aload_n 0, 1) := by decide +kernel
theorem d_M_wrong_32 : decode b_M_wrong 32 = .ok (.getfield 29, 3) := by decide +kernel
theorem d_M_wrong_35 : decode b_M_wrong 35 = .ok (.aload_n 0, 1) := by decide +kernel
theorem d_M_wrong_36 : decode b_M_wrong 36 = .ok (.getfield 457, 3) := by decide +kernel
theorem d_M_wrong_39 : decode b_M_wrong 39 = .ok (.iaload, 1) := by decide +kernel
theorem d_M_wrong_40 : decode b_M_wrong 40 = .ok (.putfield 460, 3) := by decide +kernel
theorem d_M_wrong_43 : decode b_M_wrong 43 = .ok (.return_, 1) := by decide +kernel
set_option maxRecDepth 100000 in
theorem hl_M_wrong : Cond.methodLink R_M 478 y_M_wrong ∈ wd_tbl := wd_of 2700 (by decide +kernel) rfl
set_option maxRecDepth 100000 in
theorem hi_M_wrong : Cond.instanceMethod y_M_wrong ∈ wd_tbl := wd_of 2702 (by decide +kernel) rfl
set_option maxRecDepth 100000 in
theorem hs_M_wrong : Cond.selects R_M y_M_wrong y_M_wrong ∈ wd_tbl := wd_of 139 (by decide +kernel) rfl
theorem hd_M_wrong : y_M_wrong.cls = R_M ∧ y_M_wrong.cls ≠ "java/lang/invoke/MethodHandle" ∧ y_M_wrong.cls ≠ "java/lang/invoke/VarHandle" ∧ (parseMethodDescriptor y_M_wrong.desc).map (fun d => d.parameters.length) = some 1 := by decide +kernel
def rm_M_wrong : Room := { frames := 0, cells := 0, slots := 0, locals := 0 }
def fb_M_wrong_43 (N : Nat) (G : Unit) (u : MS) : Option (MS × Unit) := some (u, ())
set_option maxRecDepth 100000 in
set_option maxHeartbeats 4000000 in
theorem wb_M_wrong_43 {p : Program} {l : Launch} {e : Env} {R : Room} {s : State} {m : MethodId} {args : Array Value} {below : List Frame} {meth : Method} {c : Code} {D : va_G} {cl : List vw_C} {cB cI cJ cZ cS : ClassId} {A : Nat → Prop} {iM h0 : Nat} {ad : Nat → Nat} (C0 : MCx p s m args meth c b_M_wrong 2 none D cl cB cI cJ cZ cS iM A) (hR : R = rm_M_wrong) (N : Nat) (G : Unit) (hG : True) : ∀ (u : MS) (x : MS × Unit), fb_M_wrong_43 N G u = some x → ∀ (H : Heap) (locs : List Loc), va_P D cl (wM cB cI cJ cZ cS iM h0 ad u) H → va_D A (wM cB cI cJ cZ cS iM h0 ad u) → va_S A s.heap H locs → ∀ (ls : Array Slot), lv_has ls 2 [] → W p l e R s m args below meth c H locs 0 0 (MQ below (mQv D cl cB cI cJ cZ cS iM h0 ad A x) args s 0 0 A) (F0 m 43 ls []) := by
  intro u x hf H locs hP hD hS ls hl
  obtain ⟨hx, hb, hr, hml, ht, hown, hM, hK, hA, hlocks⟩ := id C0
  unfold fb_M_wrong_43 at hf
  exact mr_v C0 hP hD hS hf d_M_wrong_43
def fb_M_wrong_27 (N : Nat) (G : Unit) (u : MS) (t1 : Int32) : Option (MS × Unit) := lt (upI u 67 t1) (fun w1 => ck (inb (w1.1 69) (ln 8)) (lt (upI w1 68 (w1.2.2.1 8 (w1.1 69).toNatClampNeg)) (fun w2 => fb_M_wrong_43 N G w2)))
set_option maxRecDepth 100000 in
set_option maxHeartbeats 4000000 in
theorem wb_M_wrong_27 {p : Program} {l : Launch} {e : Env} {R : Room} {s : State} {m : MethodId} {args : Array Value} {below : List Frame} {meth : Method} {c : Code} {D : va_G} {cl : List vw_C} {cB cI cJ cZ cS : ClassId} {A : Nat → Prop} {iM h0 : Nat} {ad : Nat → Nat} (C0 : MCx p s m args meth c b_M_wrong 2 none D cl cB cI cJ cZ cS iM A) (hR : R = rm_M_wrong) (N : Nat) (G : Unit) (hG : True) : ∀ (u : MS) (t1 : Int32) (x : MS × Unit), fb_M_wrong_27 N G u t1 = some x → ∀ (H : Heap) (locs : List Loc), va_P D cl (wM cB cI cJ cZ cS iM h0 ad u) H → va_D A (wM cB cI cJ cZ cS iM h0 ad u) → va_S A s.heap H locs → ∀ (ls : Array Slot), lv_has ls 2 [(0, .ref h0)] → W p l e R s m args below meth c H locs 0 0 (MQ below (mQv D cl cB cI cJ cZ cS iM h0 ad A x) args s 0 0 A) (F0 m 27 ls [.int t1, .ref h0]) := by
  intro u t1 x hf H locs hP hD hS ls hl
  obtain ⟨hx, hb, hr, hml, ht, hown, hM, hK, hA, hlocks⟩ := id C0
  unfold fb_M_wrong_27 at hf
  refine up_I hx hb ht hown hM hK hP hD hS 67 (by decide) lk_M_67 (by decide) rfl rfl rfl d_M_wrong_27 (fun H locs hP hD hS => ?_)
  obtain ⟨w1, e1, hf⟩ := lt_some hf
  rw [← e1] at hP hD
  refine lv_aload_n hx hb d_M_wrong_30 rfl (lv_at hl 0 rfl) ?_
  refine lv_aload_n hx hb d_M_wrong_31 rfl (lv_at hl 0 rfl) ?_
  refine ug_R hx hb ht hown hM hK hP 8 (by decide) lk_M_8 (by decide) d_M_wrong_32 ?_
  refine lv_aload_n hx hb d_M_wrong_35 rfl (lv_at hl 0 rfl) ?_
  refine ug_I hx hb ht hown hM hK hP 69 (by decide) lk_M_69 (by decide) d_M_wrong_36 ?_
  obtain ⟨hi9, hf⟩ := ck_some hf
  refine ul_I hx hb hK hP (by decide) (by decide) hi9 d_M_wrong_39 ?_
  refine up_I hx hb ht hown hM hK hP hD hS 68 (by decide) lk_M_68 (by decide) rfl rfl rfl d_M_wrong_40 (fun H locs hP hD hS => ?_)
  obtain ⟨w2, e2, hf⟩ := lt_some hf
  rw [← e2] at hP hD
  exact wb_M_wrong_43 C0 hR N G hG _ _ hf H locs hP hD hS ls (lv_sub hl [] rfl)
def fb_M_wrong_0 (N : Nat) (G : Unit) (u : MS) (v1 : Int32) : Option (MS × Unit) := br (decide ((u.1 67) = 0)) (ck (inb (u.1 69) (ln 6)) (br (decide ((u.2.2.1 6 (u.1 69).toNatClampNeg) = 7)) (fb_M_wrong_27 N G u (1)) (fb_M_wrong_27 N G u (v1)))) (fb_M_wrong_43 N G u)
set_option maxRecDepth 100000 in
set_option maxHeartbeats 4000000 in
theorem wb_M_wrong_0 {p : Program} {l : Launch} {e : Env} {R : Room} {s : State} {m : MethodId} {args : Array Value} {below : List Frame} {meth : Method} {c : Code} {D : va_G} {cl : List vw_C} {cB cI cJ cZ cS : ClassId} {A : Nat → Prop} {iM h0 : Nat} {ad : Nat → Nat} (C0 : MCx p s m args meth c b_M_wrong 2 none D cl cB cI cJ cZ cS iM A) (hR : R = rm_M_wrong) (N : Nat) (G : Unit) (hG : True) : ∀ (u : MS) (v1 : Int32) (x : MS × Unit), fb_M_wrong_0 N G u v1 = some x → ∀ (H : Heap) (locs : List Loc), va_P D cl (wM cB cI cJ cZ cS iM h0 ad u) H → va_D A (wM cB cI cJ cZ cS iM h0 ad u) → va_S A s.heap H locs → ∀ (ls : Array Slot), lv_has ls 2 [(0, .ref h0), (1, .int v1)] → W p l e R s m args below meth c H locs 0 0 (MQ below (mQv D cl cB cI cJ cZ cS iM h0 ad A x) args s 0 0 A) (F0 m 0 ls []) := by
  intro u v1 x hf H locs hP hD hS ls hl
  obtain ⟨hx, hb, hr, hml, ht, hown, hM, hK, hA, hlocks⟩ := id C0
  unfold fb_M_wrong_0 at hf
  refine lv_aload_n hx hb d_M_wrong_0 rfl (lv_at hl 0 rfl) ?_
  refine ug_I hx hb ht hown hM hK hP 67 (by decide) lk_M_67 (by decide) d_M_wrong_1 ?_
  refine lv_if_ne (tgt := 43) hx hb d_M_wrong_4 (by decide) (fun hc => ?_) (fun hc => ?_)
  · rw [br_n _ hc] at hf
    exact wb_M_wrong_43 C0 hR N G hG _ _ hf H locs hP hD hS ls (lv_sub hl [] rfl)
  · rw [br_p _ hc] at hf
    refine lv_aload_n hx hb d_M_wrong_7 rfl (lv_at hl 0 rfl) ?_
    refine lv_aload_n hx hb d_M_wrong_8 rfl (lv_at hl 0 rfl) ?_
    refine ug_R hx hb ht hown hM hK hP 6 (by decide) lk_M_6 (by decide) d_M_wrong_9 ?_
    refine lv_aload_n hx hb d_M_wrong_12 rfl (lv_at hl 0 rfl) ?_
    refine ug_I hx hb ht hown hM hK hP 69 (by decide) lk_M_69 (by decide) d_M_wrong_13 ?_
    obtain ⟨hi9, hf⟩ := ck_some hf
    refine ul_B hx hb hK hP (by decide) (by decide) hi9 d_M_wrong_16 ?_
    refine lv_bipush (v := 7) hx hb d_M_wrong_17 (by decide) ?_
    refine lv_icmp_ne (tgt := 26) hx hb d_M_wrong_19 (by decide) (fun hc => ?_) (fun hc => ?_)
    · rw [br_n _ hc] at hf
      refine lv_iload_n hx hb d_M_wrong_26 rfl (lv_at hl 1 rfl) ?_
      exact wb_M_wrong_27 C0 hR N G hG _ _ _ hf H locs hP hD hS ls (lv_sub hl [0] rfl)
    · rw [br_p _ hc] at hf
      refine lv_iconst (v := 1) hx hb d_M_wrong_22 (by decide) ?_
      refine lv_goto (tgt := 27) hx hb d_M_wrong_23 (by decide) ?_
      exact wb_M_wrong_27 C0 hR N G hG _ _ _ hf H locs hP hD hS ls (lv_sub hl [0] rfl)
def fm_M_wrong (N : Nat) (u : MS) (v1 : Int32) : Option (MS × Unit) := fb_M_wrong_0 N () u v1
set_option maxRecDepth 100000 in
set_option maxHeartbeats 4000000 in
theorem c_M_wrong (N : Nat) {l : Launch} {D : va_G} {cl : List vw_C} {cB cI cJ cZ cS : ClassId} {iM h0 : Nat} {ad : Nat → Nat} {u : MS} {sz : Nat} {v1 : Int32} {x : MS × Unit} (hM : cl[iM]? = some (R_M, F_M, 171)) (hf : fm_M_wrong N u v1 = some x) : Met l y_M_wrong (wd_ws y_M_wrong b_M_wrong 2 none) rm_M_wrong (mPc D cl cB cI cJ cZ cS iM h0 ad u sz [.ref h0, .int v1]) (mQv D cl cB cI cJ cZ cS iM h0 ad (mA cB cI cJ cZ cS iM h0 ad u sz) x) 0 0 (mA cB cI cJ cZ cS iM h0 ad u sz) :=
  mMet (by decide) rfl hM (Nat.le_of_ble_eq_true rfl) (fun p e s m below meth c ls hsz C0 hP hD hS hl => by
    have hR : rm_M_wrong = rm_M_wrong := rfl
    exact wb_M_wrong_0 C0 hR N () trivial u _ x hf s.heap [] hP hD hS ls (lv_sub hl [0, 1] rfl))
abbrev b_M_rule : ByteArray := prog_14_method_23_code
def y_M_rule : MethodName := ⟨R_M, "rule", "(II)V"⟩
def w_M_rule : List Cond := wd_ws y_M_rule b_M_rule 3 none
set_option maxRecDepth 100000 in
theorem k_M_rule : Cond.code y_M_rule b_M_rule 3 none ∈ wd_tbl := wd_of 2783 rfl rfl
theorem d_M_rule_0 : decode b_M_rule 0 = .ok (.aload_n 0, 1) := by decide +kernel
theorem d_M_rule_1 : decode b_M_rule 1 = .ok (.getfield 463, 3) := by decide +kernel
theorem d_M_rule_4 : decode b_M_rule 4 = .ok (.ifCond .eq 27, 3) := by decide +kernel
theorem d_M_rule_7 : decode b_M_rule 7 = .ok (.iload_n 2, 1) := by decide +kernel
theorem d_M_rule_8 : decode b_M_rule 8 = .ok (.aload_n 0, 1) := by decide +kernel
theorem d_M_rule_9 : decode b_M_rule 9 = .ok (.getfield 466, 3) := by decide +kernel
theorem d_M_rule_12 : decode b_M_rule 12 = .ok (.if_icmp .lt 19, 3) := by decide +kernel
theorem d_M_rule_15 : decode b_M_rule 15 = .ok (.iload_n 2, 1) := by decide +kernel
theorem d_M_rule_16 : decode b_M_rule 16 = .ok (.aload_n 0, 1) := by decide +kernel
theorem d_M_rule_17 : decode b_M_rule 17 = .ok (.getfield 466, 3) := by decide +kernel
theorem d_M_rule_20 : decode b_M_rule 20 = .ok (.if_icmp .ne 21, 3) := by decide +kernel
theorem d_M_rule_23 : decode b_M_rule 23 = .ok (.iload_n 1, 1) := by decide +kernel
theorem d_M_rule_24 : decode b_M_rule 24 = .ok (.aload_n 0, 1) := by decide +kernel
theorem d_M_rule_25 : decode b_M_rule 25 = .ok (.getfield 463, 3) := by decide +kernel
theorem d_M_rule_28 : decode b_M_rule 28 = .ok (.if_icmp .ge 13, 3) := by decide +kernel
theorem d_M_rule_31 : decode b_M_rule 31 = .ok (.aload_n 0, 1) := by decide +kernel
theorem d_M_rule_32 : decode b_M_rule 32 = .ok (.iload_n 1, 1) := by decide +kernel
theorem d_M_rule_33 : decode b_M_rule 33 = .ok (.putfield 463, 3) := by decide +kernel
theorem d_M_rule_36 : decode b_M_rule 36 = .ok (.aload_n 0, 1) := by decide +kernel
theorem d_M_rule_37 : decode b_M_rule 37 = .ok (.iload_n 2, 1) := by decide +kernel
theorem d_M_rule_38 : decode b_M_rule 38 = .ok (.putfield 466, 3) := by decide +kernel
theorem d_M_rule_41 : decode b_M_rule 41 = .ok (.return_, 1) := by decide +kernel
set_option maxRecDepth 100000 in
theorem hl_M_rule : Cond.methodLink R_M 526 y_M_rule ∈ wd_tbl := wd_of 2780 (by decide +kernel) rfl
set_option maxRecDepth 100000 in
theorem hi_M_rule : Cond.instanceMethod y_M_rule ∈ wd_tbl := wd_of 2782 (by decide +kernel) rfl
set_option maxRecDepth 100000 in
theorem hs_M_rule : Cond.selects R_M y_M_rule y_M_rule ∈ wd_tbl := wd_of 159 (by decide +kernel) rfl
theorem hd_M_rule : y_M_rule.cls = R_M ∧ y_M_rule.cls ≠ "java/lang/invoke/MethodHandle" ∧ y_M_rule.cls ≠ "java/lang/invoke/VarHandle" ∧ (parseMethodDescriptor y_M_rule.desc).map (fun d => d.parameters.length) = some 2 := by decide +kernel
def rm_M_rule : Room := { frames := 0, cells := 0, slots := 0, locals := 0 }
def fb_M_rule_41 (N : Nat) (G : Unit) (u : MS) : Option (MS × Unit) := some (u, ())
set_option maxRecDepth 100000 in
set_option maxHeartbeats 4000000 in
theorem wb_M_rule_41 {p : Program} {l : Launch} {e : Env} {R : Room} {s : State} {m : MethodId} {args : Array Value} {below : List Frame} {meth : Method} {c : Code} {D : va_G} {cl : List vw_C} {cB cI cJ cZ cS : ClassId} {A : Nat → Prop} {iM h0 : Nat} {ad : Nat → Nat} (C0 : MCx p s m args meth c b_M_rule 3 none D cl cB cI cJ cZ cS iM A) (hR : R = rm_M_rule) (N : Nat) (G : Unit) (hG : True) : ∀ (u : MS) (x : MS × Unit), fb_M_rule_41 N G u = some x → ∀ (H : Heap) (locs : List Loc), va_P D cl (wM cB cI cJ cZ cS iM h0 ad u) H → va_D A (wM cB cI cJ cZ cS iM h0 ad u) → va_S A s.heap H locs → ∀ (ls : Array Slot), lv_has ls 3 [] → W p l e R s m args below meth c H locs 0 0 (MQ below (mQv D cl cB cI cJ cZ cS iM h0 ad A x) args s 0 0 A) (F0 m 41 ls []) := by
  intro u x hf H locs hP hD hS ls hl
  obtain ⟨hx, hb, hr, hml, ht, hown, hM, hK, hA, hlocks⟩ := id C0
  unfold fb_M_rule_41 at hf
  exact mr_v C0 hP hD hS hf d_M_rule_41
def fb_M_rule_31 (N : Nat) (G : Unit) (u : MS) (v1 : Int32) (v2 : Int32) : Option (MS × Unit) := lt (upI u 72 v1) (fun w1 => lt (upI w1 71 v2) (fun w2 => fb_M_rule_41 N G w2))
set_option maxRecDepth 100000 in
set_option maxHeartbeats 4000000 in
theorem wb_M_rule_31 {p : Program} {l : Launch} {e : Env} {R : Room} {s : State} {m : MethodId} {args : Array Value} {below : List Frame} {meth : Method} {c : Code} {D : va_G} {cl : List vw_C} {cB cI cJ cZ cS : ClassId} {A : Nat → Prop} {iM h0 : Nat} {ad : Nat → Nat} (C0 : MCx p s m args meth c b_M_rule 3 none D cl cB cI cJ cZ cS iM A) (hR : R = rm_M_rule) (N : Nat) (G : Unit) (hG : True) : ∀ (u : MS) (v1 : Int32) (v2 : Int32) (x : MS × Unit), fb_M_rule_31 N G u v1 v2 = some x → ∀ (H : Heap) (locs : List Loc), va_P D cl (wM cB cI cJ cZ cS iM h0 ad u) H → va_D A (wM cB cI cJ cZ cS iM h0 ad u) → va_S A s.heap H locs → ∀ (ls : Array Slot), lv_has ls 3 [(0, .ref h0), (1, .int v1), (2, .int v2)] → W p l e R s m args below meth c H locs 0 0 (MQ below (mQv D cl cB cI cJ cZ cS iM h0 ad A x) args s 0 0 A) (F0 m 31 ls []) := by
  intro u v1 v2 x hf H locs hP hD hS ls hl
  obtain ⟨hx, hb, hr, hml, ht, hown, hM, hK, hA, hlocks⟩ := id C0
  unfold fb_M_rule_31 at hf
  refine lv_aload_n hx hb d_M_rule_31 rfl (lv_at hl 0 rfl) ?_
  refine lv_iload_n hx hb d_M_rule_32 rfl (lv_at hl 1 rfl) ?_
  refine up_I hx hb ht hown hM hK hP hD hS 72 (by decide) lk_M_72 (by decide) rfl rfl rfl d_M_rule_33 (fun H locs hP hD hS => ?_)
  obtain ⟨w1, e1, hf⟩ := lt_some hf
  rw [← e1] at hP hD
  refine lv_aload_n hx hb d_M_rule_36 rfl (lv_at hl 0 rfl) ?_
  refine lv_iload_n hx hb d_M_rule_37 rfl (lv_at hl 2 rfl) ?_
  refine up_I hx hb ht hown hM hK hP hD hS 71 (by decide) lk_M_71 (by decide) rfl rfl rfl d_M_rule_38 (fun H locs hP hD hS => ?_)
  obtain ⟨w2, e2, hf⟩ := lt_some hf
  rw [← e2] at hP hD
  exact wb_M_rule_41 C0 hR N G hG _ _ hf H locs hP hD hS ls (lv_sub hl [] rfl)
def fb_M_rule_0 (N : Nat) (G : Unit) (u : MS) (v1 : Int32) (v2 : Int32) : Option (MS × Unit) := br (decide ((u.1 72) = 0)) (fb_M_rule_31 N G u (v1) (v2)) (br (decide (v2 < (u.1 71))) (fb_M_rule_31 N G u (v1) (v2)) (br (decide (v2 = (u.1 71))) (br (decide ((u.1 72) ≤ v1)) (fb_M_rule_41 N G u) (fb_M_rule_31 N G u (v1) (v2))) (fb_M_rule_41 N G u)))
set_option maxRecDepth 100000 in
set_option maxHeartbeats 4000000 in
theorem wb_M_rule_0 {p : Program} {l : Launch} {e : Env} {R : Room} {s : State} {m : MethodId} {args : Array Value} {below : List Frame} {meth : Method} {c : Code} {D : va_G} {cl : List vw_C} {cB cI cJ cZ cS : ClassId} {A : Nat → Prop} {iM h0 : Nat} {ad : Nat → Nat} (C0 : MCx p s m args meth c b_M_rule 3 none D cl cB cI cJ cZ cS iM A) (hR : R = rm_M_rule) (N : Nat) (G : Unit) (hG : True) : ∀ (u : MS) (v1 : Int32) (v2 : Int32) (x : MS × Unit), fb_M_rule_0 N G u v1 v2 = some x → ∀ (H : Heap) (locs : List Loc), va_P D cl (wM cB cI cJ cZ cS iM h0 ad u) H → va_D A (wM cB cI cJ cZ cS iM h0 ad u) → va_S A s.heap H locs → ∀ (ls : Array Slot), lv_has ls 3 [(0, .ref h0), (1, .int v1), (2, .int v2)] → W p l e R s m args below meth c H locs 0 0 (MQ below (mQv D cl cB cI cJ cZ cS iM h0 ad A x) args s 0 0 A) (F0 m 0 ls []) := by
  intro u v1 v2 x hf H locs hP hD hS ls hl
  obtain ⟨hx, hb, hr, hml, ht, hown, hM, hK, hA, hlocks⟩ := id C0
  unfold fb_M_rule_0 at hf
  refine lv_aload_n hx hb d_M_rule_0 rfl (lv_at hl 0 rfl) ?_
  refine ug_I hx hb ht hown hM hK hP 72 (by decide) lk_M_72 (by decide) d_M_rule_1 ?_
  refine lv_if_eq (tgt := 31) hx hb d_M_rule_4 (by decide) (fun hc => ?_) (fun hc => ?_)
  · rw [br_p _ hc] at hf
    exact wb_M_rule_31 C0 hR N G hG _ _ _ _ hf H locs hP hD hS ls (lv_sub hl [0, 1, 2] rfl)
  · rw [br_n _ hc] at hf
    refine lv_iload_n hx hb d_M_rule_7 rfl (lv_at hl 2 rfl) ?_
    refine lv_aload_n hx hb d_M_rule_8 rfl (lv_at hl 0 rfl) ?_
    refine ug_I hx hb ht hown hM hK hP 71 (by decide) lk_M_71 (by decide) d_M_rule_9 ?_
    refine lv_icmp_lt (tgt := 31) hx hb d_M_rule_12 (by decide) (fun hc => ?_) (fun hc => ?_)
    · rw [br_p _ hc] at hf
      exact wb_M_rule_31 C0 hR N G hG _ _ _ _ hf H locs hP hD hS ls (lv_sub hl [0, 1, 2] rfl)
    · rw [br_n _ hc] at hf
      refine lv_iload_n hx hb d_M_rule_15 rfl (lv_at hl 2 rfl) ?_
      refine lv_aload_n hx hb d_M_rule_16 rfl (lv_at hl 0 rfl) ?_
      refine ug_I hx hb ht hown hM hK hP 71 (by decide) lk_M_71 (by decide) d_M_rule_17 ?_
      refine lv_icmp_ne (tgt := 41) hx hb d_M_rule_20 (by decide) (fun hc => ?_) (fun hc => ?_)
      · rw [br_n _ hc] at hf
        exact wb_M_rule_41 C0 hR N G hG _ _ hf H locs hP hD hS ls (lv_sub hl [] rfl)
      · rw [br_p _ hc] at hf
        refine lv_iload_n hx hb d_M_rule_23 rfl (lv_at hl 1 rfl) ?_
        refine lv_aload_n hx hb d_M_rule_24 rfl (lv_at hl 0 rfl) ?_
        refine ug_I hx hb ht hown hM hK hP 72 (by decide) lk_M_72 (by decide) d_M_rule_25 ?_
        refine lv_icmp_ge (tgt := 41) hx hb d_M_rule_28 (by decide) (fun hc => ?_) (fun hc => ?_)
        · rw [br_p _ hc] at hf
          exact wb_M_rule_41 C0 hR N G hG _ _ hf H locs hP hD hS ls (lv_sub hl [] rfl)
        · rw [br_n _ hc] at hf
          exact wb_M_rule_31 C0 hR N G hG _ _ _ _ hf H locs hP hD hS ls (lv_sub hl [0, 1, 2] rfl)
def fm_M_rule (N : Nat) (u : MS) (v1 : Int32) (v2 : Int32) : Option (MS × Unit) := fb_M_rule_0 N () u v1 v2
set_option maxRecDepth 100000 in
set_option maxHeartbeats 4000000 in
theorem c_M_rule (N : Nat) {l : Launch} {D : va_G} {cl : List vw_C} {cB cI cJ cZ cS : ClassId} {iM h0 : Nat} {ad : Nat → Nat} {u : MS} {sz : Nat} {v1 : Int32} {v2 : Int32} {x : MS × Unit} (hM : cl[iM]? = some (R_M, F_M, 171)) (hf : fm_M_rule N u v1 v2 = some x) : Met l y_M_rule (wd_ws y_M_rule b_M_rule 3 none) rm_M_rule (mPc D cl cB cI cJ cZ cS iM h0 ad u sz [.ref h0, .int v1, .int v2]) (mQv D cl cB cI cJ cZ cS iM h0 ad (mA cB cI cJ cZ cS iM h0 ad u sz) x) 0 0 (mA cB cI cJ cZ cS iM h0 ad u sz) :=
  mMet (by decide) rfl hM (Nat.le_of_ble_eq_true rfl) (fun p e s m below meth c ls hsz C0 hP hD hS hl => by
    have hR : rm_M_rule = rm_M_rule := rfl
    exact wb_M_rule_0 C0 hR N () trivial u _ _ x hf s.heap [] hP hD hS ls (lv_sub hl [0, 1, 2] rfl))
abbrev b_M_isSign : ByteArray := prog_14_method_24_code
def y_M_isSign : MethodName := ⟨R_M, "isSign", "(I)Z"⟩
def w_M_isSign : List Cond := wd_ws y_M_isSign b_M_isSign 2 (some .boolean)
set_option maxRecDepth 100000 in
theorem k_M_isSign : Cond.code y_M_isSign b_M_isSign 2 (some .boolean) ∈ wd_tbl := wd_of 2719 rfl rfl
theorem d_M_isSign_0 : decode b_M_isSign 0 = .ok (.aload_n 0, 1) := by decide +kernel
theorem d_M_isSign_1 : decode b_M_isSign 1 = .ok (.getfield 22, 3) := by decide +kernel
theorem d_M_isSign_4 : decode b_M_isSign 4 = .ok (.aload_n 0, 1) := by decide +kernel
theorem d_M_isSign_5 : decode b_M_isSign 5 = .ok (.getfield 457, 3) := by decide +kernel
theorem d_M_isSign_8 : decode b_M_isSign 8 = .ok (.baload, 1) := by decide +kernel
theorem d_M_isSign_9 : decode b_M_isSign 9 = .ok (.bipush 6, 2) := by decide +kernel
theorem d_M_isSign_11 : decode b_M_isSign 11 = .ok (.if_icmp .ne 20, 3) := by decide +kernel
theorem d_M_isSign_14 : decode b_M_isSign 14 = .ok (.aload_n 0, 1) := by decide +kernel
theorem d_M_isSign_15 : decode b_M_isSign 15 = .ok (.getfield 25, 3) := by decide +kernel
theorem d_M_isSign_18 : decode b_M_isSign 18 = .ok (.aload_n 0, 1) := by decide +kernel
theorem d_M_isSign_19 : decode b_M_isSign 19 = .ok (.getfield 457, 3) := by decide +kernel
theorem d_M_isSign_22 : decode b_M_isSign 22 = .ok (.iaload, 1) := by decide +kernel
theorem d_M_isSign_23 : decode b_M_isSign 23 = .ok (.iload_n 1, 1) := by decide +kernel
theorem d_M_isSign_24 : decode b_M_isSign 24 = .ok (.if_icmp .ne 7, 3) := by decide +kernel
theorem d_M_isSign_27 : decode b_M_isSign 27 = .ok (.iconst 1, 1) := by decide +kernel
theorem d_M_isSign_28 : decode b_M_isSign 28 = .ok (.goto 4, 3) := by decide +kernel
theorem d_M_isSign_31 : decode b_M_isSign 31 = .ok (.iconst 0, 1) := by decide +kernel
theorem d_M_isSign_32 : decode b_M_isSign 32 = .ok (.ireturn, 1) := by decide +kernel
set_option maxRecDepth 100000 in
theorem hl_M_isSign : Cond.methodLink R_M 469 y_M_isSign ∈ wd_tbl := wd_of 2716 (by decide +kernel) rfl
set_option maxRecDepth 100000 in
theorem hi_M_isSign : Cond.instanceMethod y_M_isSign ∈ wd_tbl := wd_of 2718 (by decide +kernel) rfl
set_option maxRecDepth 100000 in
theorem hs_M_isSign : Cond.selects R_M y_M_isSign y_M_isSign ∈ wd_tbl := wd_of 143 (by decide +kernel) rfl
theorem hd_M_isSign : y_M_isSign.cls = R_M ∧ y_M_isSign.cls ≠ "java/lang/invoke/MethodHandle" ∧ y_M_isSign.cls ≠ "java/lang/invoke/VarHandle" ∧ (parseMethodDescriptor y_M_isSign.desc).map (fun d => d.parameters.length) = some 1 := by decide +kernel
def rm_M_isSign : Room := { frames := 0, cells := 0, slots := 0, locals := 0 }
def fb_M_isSign_32 (N : Nat) (G : Unit) (u : MS) (t0 : Int32) : Option (MS × Int32) := ck (isb t0) (some (u, t0))
set_option maxRecDepth 100000 in
set_option maxHeartbeats 4000000 in
theorem wb_M_isSign_32 {p : Program} {l : Launch} {e : Env} {R : Room} {s : State} {m : MethodId} {args : Array Value} {below : List Frame} {meth : Method} {c : Code} {D : va_G} {cl : List vw_C} {cB cI cJ cZ cS : ClassId} {A : Nat → Prop} {iM h0 : Nat} {ad : Nat → Nat} (C0 : MCx p s m args meth c b_M_isSign 2 (some .boolean) D cl cB cI cJ cZ cS iM A) (hR : R = rm_M_isSign) (N : Nat) (G : Unit) (hG : True) : ∀ (u : MS) (t0 : Int32) (x : MS × Int32), fb_M_isSign_32 N G u t0 = some x → ∀ (H : Heap) (locs : List Loc), va_P D cl (wM cB cI cJ cZ cS iM h0 ad u) H → va_D A (wM cB cI cJ cZ cS iM h0 ad u) → va_S A s.heap H locs → ∀ (ls : Array Slot), lv_has ls 2 [] → W p l e R s m args below meth c H locs 0 0 (MQ below (mQi D cl cB cI cJ cZ cS iM h0 ad A x) args s 0 0 A) (F0 m 32 ls [.int t0]) := by
  intro u t0 x hf H locs hP hD hS ls hl
  obtain ⟨hx, hb, hr, hml, ht, hown, hM, hK, hA, hlocks⟩ := id C0
  unfold fb_M_isSign_32 at hf
  obtain ⟨hz, hf⟩ := ck_some hf
  exact mr_z C0 hP hD hS hz hf d_M_isSign_32
def fb_M_isSign_31 (N : Nat) (G : Unit) (u : MS) : Option (MS × Int32) := fb_M_isSign_32 N G u (0)
set_option maxRecDepth 100000 in
set_option maxHeartbeats 4000000 in
theorem wb_M_isSign_31 {p : Program} {l : Launch} {e : Env} {R : Room} {s : State} {m : MethodId} {args : Array Value} {below : List Frame} {meth : Method} {c : Code} {D : va_G} {cl : List vw_C} {cB cI cJ cZ cS : ClassId} {A : Nat → Prop} {iM h0 : Nat} {ad : Nat → Nat} (C0 : MCx p s m args meth c b_M_isSign 2 (some .boolean) D cl cB cI cJ cZ cS iM A) (hR : R = rm_M_isSign) (N : Nat) (G : Unit) (hG : True) : ∀ (u : MS) (x : MS × Int32), fb_M_isSign_31 N G u = some x → ∀ (H : Heap) (locs : List Loc), va_P D cl (wM cB cI cJ cZ cS iM h0 ad u) H → va_D A (wM cB cI cJ cZ cS iM h0 ad u) → va_S A s.heap H locs → ∀ (ls : Array Slot), lv_has ls 2 [] → W p l e R s m args below meth c H locs 0 0 (MQ below (mQi D cl cB cI cJ cZ cS iM h0 ad A x) args s 0 0 A) (F0 m 31 ls []) := by
  intro u x hf H locs hP hD hS ls hl
  obtain ⟨hx, hb, hr, hml, ht, hown, hM, hK, hA, hlocks⟩ := id C0
  unfold fb_M_isSign_31 at hf
  refine lv_iconst (v := 0) hx hb d_M_isSign_31 (by decide) ?_
  exact wb_M_isSign_32 C0 hR N G hG _ _ _ hf H locs hP hD hS ls (lv_sub hl [] rfl)
def fb_M_isSign_0 (N : Nat) (G : Unit) (u : MS) (v1 : Int32) : Option (MS × Int32) := ck (inb (u.1 69) (ln 6)) (br (decide ((u.2.2.1 6 (u.1 69).toNatClampNeg) = 6)) (ck (inb (u.1 69) (ln 7)) (br (decide ((u.2.2.1 7 (u.1 69).toNatClampNeg) = v1)) (fb_M_isSign_32 N G u (1)) (fb_M_isSign_31 N G u))) (fb_M_isSign_31 N G u))
set_option maxRecDepth 100000 in
set_option maxHeartbeats 4000000 in
theorem wb_M_isSign_0 {p : Program} {l : Launch} {e : Env} {R : Room} {s : State} {m : MethodId} {args : Array Value} {below : List Frame} {meth : Method} {c : Code} {D : va_G} {cl : List vw_C} {cB cI cJ cZ cS : ClassId} {A : Nat → Prop} {iM h0 : Nat} {ad : Nat → Nat} (C0 : MCx p s m args meth c b_M_isSign 2 (some .boolean) D cl cB cI cJ cZ cS iM A) (hR : R = rm_M_isSign) (N : Nat) (G : Unit) (hG : True) : ∀ (u : MS) (v1 : Int32) (x : MS × Int32), fb_M_isSign_0 N G u v1 = some x → ∀ (H : Heap) (locs : List Loc), va_P D cl (wM cB cI cJ cZ cS iM h0 ad u) H → va_D A (wM cB cI cJ cZ cS iM h0 ad u) → va_S A s.heap H locs → ∀ (ls : Array Slot), lv_has ls 2 [(0, .ref h0), (1, .int v1)] → W p l e R s m args below meth c H locs 0 0 (MQ below (mQi D cl cB cI cJ cZ cS iM h0 ad A x) args s 0 0 A) (F0 m 0 ls []) := by
  intro u v1 x hf H locs hP hD hS ls hl
  obtain ⟨hx, hb, hr, hml, ht, hown, hM, hK, hA, hlocks⟩ := id C0
  unfold fb_M_isSign_0 at hf
  refine lv_aload_n hx hb d_M_isSign_0 rfl (lv_at hl 0 rfl) ?_
  refine ug_R hx hb ht hown hM hK hP 6 (by decide) lk_M_6 (by decide) d_M_isSign_1 ?_
  refine lv_aload_n hx hb d_M_isSign_4 rfl (lv_at hl 0 rfl) ?_
  refine ug_I hx hb ht hown hM hK hP 69 (by decide) lk_M_69 (by decide) d_M_isSign_5 ?_
  obtain ⟨hi9, hf⟩ := ck_some hf
  refine ul_B hx hb hK hP (by decide) (by decide) hi9 d_M_isSign_8 ?_
  refine lv_bipush (v := 6) hx hb d_M_isSign_9 (by decide) ?_
  refine lv_icmp_ne (tgt := 31) hx hb d_M_isSign_11 (by decide) (fun hc => ?_) (fun hc => ?_)
  · rw [br_n _ hc] at hf
    exact wb_M_isSign_31 C0 hR N G hG _ _ hf H locs hP hD hS ls (lv_sub hl [] rfl)
  · rw [br_p _ hc] at hf
    refine lv_aload_n hx hb d_M_isSign_14 rfl (lv_at hl 0 rfl) ?_
    refine ug_R hx hb ht hown hM hK hP 7 (by decide) lk_M_7 (by decide) d_M_isSign_15 ?_
    refine lv_aload_n hx hb d_M_isSign_18 rfl (lv_at hl 0 rfl) ?_
    refine ug_I hx hb ht hown hM hK hP 69 (by decide) lk_M_69 (by decide) d_M_isSign_19 ?_
    obtain ⟨hi9, hf⟩ := ck_some hf
    refine ul_I hx hb hK hP (by decide) (by decide) hi9 d_M_isSign_22 ?_
    refine lv_iload_n hx hb d_M_isSign_23 rfl (lv_at hl 1 rfl) ?_
    refine lv_icmp_ne (tgt := 31) hx hb d_M_isSign_24 (by decide) (fun hc => ?_) (fun hc => ?_)
    · rw [br_n _ hc] at hf
      exact wb_M_isSign_31 C0 hR N G hG _ _ hf H locs hP hD hS ls (lv_sub hl [] rfl)
    · rw [br_p _ hc] at hf
      refine lv_iconst (v := 1) hx hb d_M_isSign_27 (by decide) ?_
      refine lv_goto (tgt := 32) hx hb d_M_isSign_28 (by decide) ?_
      exact wb_M_isSign_32 C0 hR N G hG _ _ _ hf H locs hP hD hS ls (lv_sub hl [] rfl)
def fm_M_isSign (N : Nat) (u : MS) (v1 : Int32) : Option (MS × Int32) := fb_M_isSign_0 N () u v1
set_option maxRecDepth 100000 in
set_option maxHeartbeats 4000000 in
theorem c_M_isSign (N : Nat) {l : Launch} {D : va_G} {cl : List vw_C} {cB cI cJ cZ cS : ClassId} {iM h0 : Nat} {ad : Nat → Nat} {u : MS} {sz : Nat} {v1 : Int32} {x : MS × Int32} (hM : cl[iM]? = some (R_M, F_M, 171)) (hf : fm_M_isSign N u v1 = some x) : Met l y_M_isSign (wd_ws y_M_isSign b_M_isSign 2 (some .boolean)) rm_M_isSign (mPc D cl cB cI cJ cZ cS iM h0 ad u sz [.ref h0, .int v1]) (mQi D cl cB cI cJ cZ cS iM h0 ad (mA cB cI cJ cZ cS iM h0 ad u sz) x) 0 0 (mA cB cI cJ cZ cS iM h0 ad u sz) :=
  mMet (by decide) rfl hM (Nat.le_of_ble_eq_true rfl) (fun p e s m below meth c ls hsz C0 hP hD hS hl => by
    have hR : rm_M_isSign = rm_M_isSign := rfl
    exact wb_M_isSign_0 C0 hR N () trivial u _ x hf s.heap [] hP hD hS ls (lv_sub hl [0, 1] rfl))
abbrev b_M_isWord : ByteArray := prog_14_method_25_code
def y_M_isWord : MethodName := ⟨R_M, "isWord", "(I)Z"⟩
def w_M_isWord : List Cond := wd_ws y_M_isWord b_M_isWord 2 (some .boolean)
set_option maxRecDepth 100000 in
theorem k_M_isWord : Cond.code y_M_isWord b_M_isWord 2 (some .boolean) ∈ wd_tbl := wd_of 2767 rfl rfl
theorem d_M_isWord_0 : decode b_M_isWord 0 = .ok (.aload_n 0, 1) := by decide +kernel
theorem d_M_isWord_1 : decode b_M_isWord 1 = .ok (.getfield 22, 3) := by decide +kernel
theorem d_M_isWord_4 : decode b_M_isWord 4 = .ok (.aload_n 0, 1) := by decide +kernel
theorem d_M_isWord_5 : decode b_M_isWord 5 = .ok (.getfield 457, 3) := by decide +kernel
theorem d_M_isWord_8 : decode b_M_isWord 8 = .ok (.baload, 1) := by decide +kernel
theorem d_M_isWord_9 : decode b_M_isWord 9 = .ok (.iconst 3, 1) := by decide +kernel
theorem d_M_isWord_10 : decode b_M_isWord 10 = .ok (.if_icmp .ne 20, 3) := by decide +kernel
theorem d_M_isWord_13 : decode b_M_isWord 13 = .ok (.aload_n 0, 1) := by decide +kernel
theorem d_M_isWord_14 : decode b_M_isWord 14 = .ok (.getfield 25, 3) := by decide +kernel
theorem d_M_isWord_17 : decode b_M_isWord 17 = .ok (.aload_n 0, 1) := by decide +kernel
theorem d_M_isWord_18 : decode b_M_isWord 18 = .ok (.getfield 457, 3) := by decide +kernel
theorem d_M_isWord_21 : decode b_M_isWord 21 = .ok (.iaload, 1) := by decide +kernel
theorem d_M_isWord_22 : decode b_M_isWord 22 = .ok (.iload_n 1, 1) := by decide +kernel
theorem d_M_isWord_23 : decode b_M_isWord 23 = .ok (.if_icmp .ne 7, 3) := by decide +kernel
theorem d_M_isWord_26 : decode b_M_isWord 26 = .ok (.iconst 1, 1) := by decide +kernel
theorem d_M_isWord_27 : decode b_M_isWord 27 = .ok (.goto 4, 3) := by decide +kernel
theorem d_M_isWord_30 : decode b_M_isWord 30 = .ok (.iconst 0, 1) := by decide +kernel
theorem d_M_isWord_31 : decode b_M_isWord 31 = .ok (.ireturn, 1) := by decide +kernel
set_option maxRecDepth 100000 in
theorem hl_M_isWord : Cond.methodLink R_M 472 y_M_isWord ∈ wd_tbl := wd_of 2764 (by decide +kernel) rfl
set_option maxRecDepth 100000 in
theorem hi_M_isWord : Cond.instanceMethod y_M_isWord ∈ wd_tbl := wd_of 2766 (by decide +kernel) rfl
set_option maxRecDepth 100000 in
theorem hs_M_isWord : Cond.selects R_M y_M_isWord y_M_isWord ∈ wd_tbl := wd_of 155 (by decide +kernel) rfl
theorem hd_M_isWord : y_M_isWord.cls = R_M ∧ y_M_isWord.cls ≠ "java/lang/invoke/MethodHandle" ∧ y_M_isWord.cls ≠ "java/lang/invoke/VarHandle" ∧ (parseMethodDescriptor y_M_isWord.desc).map (fun d => d.parameters.length) = some 1 := by decide +kernel
def rm_M_isWord : Room := { frames := 0, cells := 0, slots := 0, locals := 0 }
def fb_M_isWord_31 (N : Nat) (G : Unit) (u : MS) (t0 : Int32) : Option (MS × Int32) := ck (isb t0) (some (u, t0))
set_option maxRecDepth 100000 in
set_option maxHeartbeats 4000000 in
theorem wb_M_isWord_31 {p : Program} {l : Launch} {e : Env} {R : Room} {s : State} {m : MethodId} {args : Array Value} {below : List Frame} {meth : Method} {c : Code} {D : va_G} {cl : List vw_C} {cB cI cJ cZ cS : ClassId} {A : Nat → Prop} {iM h0 : Nat} {ad : Nat → Nat} (C0 : MCx p s m args meth c b_M_isWord 2 (some .boolean) D cl cB cI cJ cZ cS iM A) (hR : R = rm_M_isWord) (N : Nat) (G : Unit) (hG : True) : ∀ (u : MS) (t0 : Int32) (x : MS × Int32), fb_M_isWord_31 N G u t0 = some x → ∀ (H : Heap) (locs : List Loc), va_P D cl (wM cB cI cJ cZ cS iM h0 ad u) H → va_D A (wM cB cI cJ cZ cS iM h0 ad u) → va_S A s.heap H locs → ∀ (ls : Array Slot), lv_has ls 2 [] → W p l e R s m args below meth c H locs 0 0 (MQ below (mQi D cl cB cI cJ cZ cS iM h0 ad A x) args s 0 0 A) (F0 m 31 ls [.int t0]) := by
  intro u t0 x hf H locs hP hD hS ls hl
  obtain ⟨hx, hb, hr, hml, ht, hown, hM, hK, hA, hlocks⟩ := id C0
  unfold fb_M_isWord_31 at hf
  obtain ⟨hz, hf⟩ := ck_some hf
  exact mr_z C0 hP hD hS hz hf d_M_isWord_31
def fb_M_isWord_30 (N : Nat) (G : Unit) (u : MS) : Option (MS × Int32) := fb_M_isWord_31 N G u (0)
set_option maxRecDepth 100000 in
set_option maxHeartbeats 4000000 in
theorem wb_M_isWord_30 {p : Program} {l : Launch} {e : Env} {R : Room} {s : State} {m : MethodId} {args : Array Value} {below : List Frame} {meth : Method} {c : Code} {D : va_G} {cl : List vw_C} {cB cI cJ cZ cS : ClassId} {A : Nat → Prop} {iM h0 : Nat} {ad : Nat → Nat} (C0 : MCx p s m args meth c b_M_isWord 2 (some .boolean) D cl cB cI cJ cZ cS iM A) (hR : R = rm_M_isWord) (N : Nat) (G : Unit) (hG : True) : ∀ (u : MS) (x : MS × Int32), fb_M_isWord_30 N G u = some x → ∀ (H : Heap) (locs : List Loc), va_P D cl (wM cB cI cJ cZ cS iM h0 ad u) H → va_D A (wM cB cI cJ cZ cS iM h0 ad u) → va_S A s.heap H locs → ∀ (ls : Array Slot), lv_has ls 2 [] → W p l e R s m args below meth c H locs 0 0 (MQ below (mQi D cl cB cI cJ cZ cS iM h0 ad A x) args s 0 0 A) (F0 m 30 ls []) := by
  intro u x hf H locs hP hD hS ls hl
  obtain ⟨hx, hb, hr, hml, ht, hown, hM, hK, hA, hlocks⟩ := id C0
  unfold fb_M_isWord_30 at hf
  refine lv_iconst (v := 0) hx hb d_M_isWord_30 (by decide) ?_
  exact wb_M_isWord_31 C0 hR N G hG _ _ _ hf H locs hP hD hS ls (lv_sub hl [] rfl)
def fb_M_isWord_0 (N : Nat) (G : Unit) (u : MS) (v1 : Int32) : Option (MS × Int32) := ck (inb (u.1 69) (ln 6)) (br (decide ((u.2.2.1 6 (u.1 69).toNatClampNeg) = 3)) (ck (inb (u.1 69) (ln 7)) (br (decide ((u.2.2.1 7 (u.1 69).toNatClampNeg) = v1)) (fb_M_isWord_31 N G u (1)) (fb_M_isWord_30 N G u))) (fb_M_isWord_30 N G u))
set_option maxRecDepth 100000 in
set_option maxHeartbeats 4000000 in
theorem wb_M_isWord_0 {p : Program} {l : Launch} {e : Env} {R : Room} {s : State} {m : MethodId} {args : Array Value} {below : List Frame} {meth : Method} {c : Code} {D : va_G} {cl : List vw_C} {cB cI cJ cZ cS : ClassId} {A : Nat → Prop} {iM h0 : Nat} {ad : Nat → Nat} (C0 : MCx p s m args meth c b_M_isWord 2 (some .boolean) D cl cB cI cJ cZ cS iM A) (hR : R = rm_M_isWord) (N : Nat) (G : Unit) (hG : True) : ∀ (u : MS) (v1 : Int32) (x : MS × Int32), fb_M_isWord_0 N G u v1 = some x → ∀ (H : Heap) (locs : List Loc), va_P D cl (wM cB cI cJ cZ cS iM h0 ad u) H → va_D A (wM cB cI cJ cZ cS iM h0 ad u) → va_S A s.heap H locs → ∀ (ls : Array Slot), lv_has ls 2 [(0, .ref h0), (1, .int v1)] → W p l e R s m args below meth c H locs 0 0 (MQ below (mQi D cl cB cI cJ cZ cS iM h0 ad A x) args s 0 0 A) (F0 m 0 ls []) := by
  intro u v1 x hf H locs hP hD hS ls hl
  obtain ⟨hx, hb, hr, hml, ht, hown, hM, hK, hA, hlocks⟩ := id C0
  unfold fb_M_isWord_0 at hf
  refine lv_aload_n hx hb d_M_isWord_0 rfl (lv_at hl 0 rfl) ?_
  refine ug_R hx hb ht hown hM hK hP 6 (by decide) lk_M_6 (by decide) d_M_isWord_1 ?_
  refine lv_aload_n hx hb d_M_isWord_4 rfl (lv_at hl 0 rfl) ?_
  refine ug_I hx hb ht hown hM hK hP 69 (by decide) lk_M_69 (by decide) d_M_isWord_5 ?_
  obtain ⟨hi9, hf⟩ := ck_some hf
  refine ul_B hx hb hK hP (by decide) (by decide) hi9 d_M_isWord_8 ?_
  refine lv_iconst (v := 3) hx hb d_M_isWord_9 (by decide) ?_
  refine lv_icmp_ne (tgt := 30) hx hb d_M_isWord_10 (by decide) (fun hc => ?_) (fun hc => ?_)
  · rw [br_n _ hc] at hf
    exact wb_M_isWord_30 C0 hR N G hG _ _ hf H locs hP hD hS ls (lv_sub hl [] rfl)
  · rw [br_p _ hc] at hf
    refine lv_aload_n hx hb d_M_isWord_13 rfl (lv_at hl 0 rfl) ?_
    refine ug_R hx hb ht hown hM hK hP 7 (by decide) lk_M_7 (by decide) d_M_isWord_14 ?_
    refine lv_aload_n hx hb d_M_isWord_17 rfl (lv_at hl 0 rfl) ?_
    refine ug_I hx hb ht hown hM hK hP 69 (by decide) lk_M_69 (by decide) d_M_isWord_18 ?_
    obtain ⟨hi9, hf⟩ := ck_some hf
    refine ul_I hx hb hK hP (by decide) (by decide) hi9 d_M_isWord_21 ?_
    refine lv_iload_n hx hb d_M_isWord_22 rfl (lv_at hl 1 rfl) ?_
    refine lv_icmp_ne (tgt := 30) hx hb d_M_isWord_23 (by decide) (fun hc => ?_) (fun hc => ?_)
    · rw [br_n _ hc] at hf
      exact wb_M_isWord_30 C0 hR N G hG _ _ hf H locs hP hD hS ls (lv_sub hl [] rfl)
    · rw [br_p _ hc] at hf
      refine lv_iconst (v := 1) hx hb d_M_isWord_26 (by decide) ?_
      refine lv_goto (tgt := 31) hx hb d_M_isWord_27 (by decide) ?_
      exact wb_M_isWord_31 C0 hR N G hG _ _ _ hf H locs hP hD hS ls (lv_sub hl [] rfl)
def fm_M_isWord (N : Nat) (u : MS) (v1 : Int32) : Option (MS × Int32) := fb_M_isWord_0 N () u v1
set_option maxRecDepth 100000 in
set_option maxHeartbeats 4000000 in
theorem c_M_isWord (N : Nat) {l : Launch} {D : va_G} {cl : List vw_C} {cB cI cJ cZ cS : ClassId} {iM h0 : Nat} {ad : Nat → Nat} {u : MS} {sz : Nat} {v1 : Int32} {x : MS × Int32} (hM : cl[iM]? = some (R_M, F_M, 171)) (hf : fm_M_isWord N u v1 = some x) : Met l y_M_isWord (wd_ws y_M_isWord b_M_isWord 2 (some .boolean)) rm_M_isWord (mPc D cl cB cI cJ cZ cS iM h0 ad u sz [.ref h0, .int v1]) (mQi D cl cB cI cJ cZ cS iM h0 ad (mA cB cI cJ cZ cS iM h0 ad u sz) x) 0 0 (mA cB cI cJ cZ cS iM h0 ad u sz) :=
  mMet (by decide) rfl hM (Nat.le_of_ble_eq_true rfl) (fun p e s m below meth c ls hsz C0 hP hD hS hl => by
    have hR : rm_M_isWord = rm_M_isWord := rfl
    exact wb_M_isWord_0 C0 hR N () trivial u _ x hf s.heap [] hP hD hS ls (lv_sub hl [0, 1] rfl))
abbrev b_M_takeSign : ByteArray := prog_14_method_26_code
def y_M_takeSign : MethodName := ⟨R_M, "takeSign", "(I)Z"⟩
def w_M_takeSign : List Cond := wd_ws y_M_takeSign b_M_takeSign 2 (some .boolean)
set_option maxRecDepth 100000 in
theorem k_M_takeSign : Cond.code y_M_takeSign b_M_takeSign 2 (some .boolean) ∈ wd_tbl := wd_of 2715 rfl rfl
theorem d_M_takeSign_0 : decode b_M_takeSign 0 = .ok (.aload_n 0, 1) := by decide +kernel
theorem d_M_takeSign_1 : decode b_M_takeSign 1 = .ok (.getfield 454, 3) := by decide +kernel
theorem d_M_takeSign_4 : decode b_M_takeSign 4 = .ok (.ifCond .ne 11, 3) := by decide +kernel
theorem d_M_takeSign_7 : decode b_M_takeSign 7 = .ok (.aload_n 0, 1) := by decide +kernel
theorem d_M_takeSign_8 : decode b_M_takeSign 8 = .ok (.iload_n 1, 1) := by decide +kernel
theorem d_M_takeSign_9 : decode b_M_takeSign 9 = .ok (.invokevirtual 469, 3) := by decide +kernel
theorem d_M_takeSign_12 : decode b_M_takeSign 12 = .ok (.ifCond .ne 5, 3) := by decide +kernel
theorem d_M_takeSign_15 : decode b_M_takeSign 15 = .ok (.iconst 0, 1) := by decide +kernel
theorem d_M_takeSign_16 : decode b_M_takeSign 16 = .ok (.ireturn, 1) := by decide +kernel
theorem d_M_takeSign_17 : decode b_M_takeSign 17 = .ok (.aload_n 0, 1) := by decide +kernel
theorem d_M_takeSign_18 : decode b_M_takeSign 18 = .ok (.dup, 1) := by decide +kernel
theorem d_M_takeSign_19 : decode b_M_takeSign 19 = .ok (.getfield 457, 3) := by decide +kernel
theorem d_M_takeSign_22 : decode b_M_takeSign 22 = .ok (.iconst 1, 1) := by decide +kernel
theorem d_M_takeSign_23 : decode b_M_takeSign 23 = .ok (.iadd, 1) := by decide +kernel
theorem d_M_takeSign_24 : decode b_M_takeSign 24 = .ok (.putfield 457, 3) := by decide +kernel
theorem d_M_takeSign_27 : decode b_M_takeSign 27 = .ok (.iconst 1, 1) := by decide +kernel
theorem d_M_takeSign_28 : decode b_M_takeSign 28 = .ok (.ireturn, 1) := by decide +kernel
set_option maxRecDepth 100000 in
theorem hl_M_takeSign : Cond.methodLink R_M 475 y_M_takeSign ∈ wd_tbl := wd_of 2712 (by decide +kernel) rfl
set_option maxRecDepth 100000 in
theorem hi_M_takeSign : Cond.instanceMethod y_M_takeSign ∈ wd_tbl := wd_of 2714 (by decide +kernel) rfl
set_option maxRecDepth 100000 in
theorem hs_M_takeSign : Cond.selects R_M y_M_takeSign y_M_takeSign ∈ wd_tbl := wd_of 142 (by decide +kernel) rfl
theorem hd_M_takeSign : y_M_takeSign.cls = R_M ∧ y_M_takeSign.cls ≠ "java/lang/invoke/MethodHandle" ∧ y_M_takeSign.cls ≠ "java/lang/invoke/VarHandle" ∧ (parseMethodDescriptor y_M_takeSign.desc).map (fun d => d.parameters.length) = some 1 := by decide +kernel
def rm_M_takeSign : Room := { frames := 1, cells := 0, slots := 0, locals := 21 }
theorem rm_M_takeSign_M_isSign {R : Room} (hR : R = rm_M_takeSign) : (rm_M_isSign).frames + 1 ≤ R.frames ∧ 8 + (2 + 11) + (rm_M_isSign).locals ≤ R.locals := by subst hR; decide
def fb_M_takeSign_15 (N : Nat) (G : Unit) (u : MS) : Option (MS × Int32) := ck (isb 0) (some (u, 0))
set_option maxRecDepth 100000 in
set_option maxHeartbeats 4000000 in
theorem wb_M_takeSign_15 {p : Program} {l : Launch} {e : Env} {R : Room} {s : State} {m : MethodId} {args : Array Value} {below : List Frame} {meth : Method} {c : Code} {D : va_G} {cl : List vw_C} {cB cI cJ cZ cS : ClassId} {A : Nat → Prop} {iM h0 : Nat} {ad : Nat → Nat} (C0 : MCx p s m args meth c b_M_takeSign 2 (some .boolean) D cl cB cI cJ cZ cS iM A) (hR : R = rm_M_takeSign) (N : Nat) (G : Unit) (hG : True) : ∀ (u : MS) (x : MS × Int32), fb_M_takeSign_15 N G u = some x → ∀ (H : Heap) (locs : List Loc), va_P D cl (wM cB cI cJ cZ cS iM h0 ad u) H → va_D A (wM cB cI cJ cZ cS iM h0 ad u) → va_S A s.heap H locs → ∀ (ls : Array Slot), lv_has ls 2 [] → W p l e R s m args below meth c H locs 0 0 (MQ below (mQi D cl cB cI cJ cZ cS iM h0 ad A x) args s 0 0 A) (F0 m 15 ls []) := by
  intro u x hf H locs hP hD hS ls hl
  obtain ⟨hx, hb, hr, hml, ht, hown, hM, hK, hA, hlocks⟩ := id C0
  unfold fb_M_takeSign_15 at hf
  refine lv_iconst (v := 0) hx hb d_M_takeSign_15 (by decide) ?_
  obtain ⟨hz, hf⟩ := ck_some hf
  exact mr_z C0 hP hD hS hz hf d_M_takeSign_16
def fb_M_takeSign_0 (N : Nat) (G : Unit) (u : MS) (v1 : Int32) : Option (MS × Int32) := br (decide ((u.1 67) = 0)) (bnd (fm_M_isSign N u v1) (fun u1 r1 => br (decide (r1 = 0)) (fb_M_takeSign_15 N G u1) (lt (upI u1 69 ((u1.1 69) + 1)) (fun w2 => ck (isb 1) (some (w2, 1)))))) (fb_M_takeSign_15 N G u)
set_option maxRecDepth 100000 in
set_option maxHeartbeats 4000000 in
theorem wb_M_takeSign_0 {p : Program} {l : Launch} {e : Env} {R : Room} {s : State} {m : MethodId} {args : Array Value} {below : List Frame} {meth : Method} {c : Code} {D : va_G} {cl : List vw_C} {cB cI cJ cZ cS : ClassId} {A : Nat → Prop} {iM h0 : Nat} {ad : Nat → Nat} (C0 : MCx p s m args meth c b_M_takeSign 2 (some .boolean) D cl cB cI cJ cZ cS iM A) (hR : R = rm_M_takeSign) (N : Nat) (G : Unit) (hG : True) : ∀ (u : MS) (v1 : Int32) (x : MS × Int32), fb_M_takeSign_0 N G u v1 = some x → ∀ (H : Heap) (locs : List Loc), va_P D cl (wM cB cI cJ cZ cS iM h0 ad u) H → va_D A (wM cB cI cJ cZ cS iM h0 ad u) → va_S A s.heap H locs → ∀ (ls : Array Slot), lv_has ls 2 [(0, .ref h0), (1, .int v1)] → W p l e R s m args below meth c H locs 0 0 (MQ below (mQi D cl cB cI cJ cZ cS iM h0 ad A x) args s 0 0 A) (F0 m 0 ls []) := by
  intro u v1 x hf H locs hP hD hS ls hl
  obtain ⟨hx, hb, hr, hml, ht, hown, hM, hK, hA, hlocks⟩ := id C0
  unfold fb_M_takeSign_0 at hf
  refine lv_aload_n hx hb d_M_takeSign_0 rfl (lv_at hl 0 rfl) ?_
  refine ug_I hx hb ht hown hM hK hP 67 (by decide) lk_M_67 (by decide) d_M_takeSign_1 ?_
  refine lv_if_ne (tgt := 15) hx hb d_M_takeSign_4 (by decide) (fun hc => ?_) (fun hc => ?_)
  · rw [br_n _ hc] at hf
    exact wb_M_takeSign_15 C0 hR N G hG _ _ hf H locs hP hD hS ls (lv_sub hl [] rfl)
  · rw [br_p _ hc] at hf
    refine lv_aload_n hx hb d_M_takeSign_7 rfl (lv_at hl 0 rfl) ?_
    refine lv_iload_n hx hb d_M_takeSign_8 rfl (lv_at hl 1 rfl) ?_
    obtain ⟨u1, r1, hc1, hf⟩ := bnd_some hf
    refine mV_i (As := [.int v1]) (rest := []) C0 hP hD hS (c_M_isSign N hM hc1) k_M_isSign hl_M_isSign hi_M_isSign hs_M_isSign hini_M rfl rfl hd_M_isSign rfl (rm_M_takeSign_M_isSign hR) hl.1 (Nat.le_of_ble_eq_true rfl) d_M_takeSign_9 rfl ⟨Nat.zero_le _, Nat.zero_le _⟩ (fun H locs hP hD hS => ?_)
    refine lv_if_ne (tgt := 17) hx hb d_M_takeSign_12 (by decide) (fun hc => ?_) (fun hc => ?_)
    · rw [br_n _ hc] at hf
      refine lv_aload_n hx hb d_M_takeSign_17 rfl (lv_at hl 0 rfl) ?_
      refine lv_dup hx hb d_M_takeSign_18 rfl ?_
      refine ug_I hx hb ht hown hM hK hP 69 (by decide) lk_M_69 (by decide) d_M_takeSign_19 ?_
      refine lv_iconst (v := 1) hx hb d_M_takeSign_22 (by decide) ?_
      refine lv_iadd hx hb d_M_takeSign_23 ?_
      refine up_I hx hb ht hown hM hK hP hD hS 69 (by decide) lk_M_69 (by decide) rfl rfl rfl d_M_takeSign_24 (fun H locs hP hD hS => ?_)
      obtain ⟨w2, e2, hf⟩ := lt_some hf
      rw [← e2] at hP hD
      refine lv_iconst (v := 1) hx hb d_M_takeSign_27 (by decide) ?_
      obtain ⟨hz, hf⟩ := ck_some hf
      exact mr_z C0 hP hD hS hz hf d_M_takeSign_28
    · rw [br_p _ hc] at hf
      exact wb_M_takeSign_15 C0 hR N G hG _ _ hf H locs hP hD hS ls (lv_sub hl [] rfl)
def fm_M_takeSign (N : Nat) (u : MS) (v1 : Int32) : Option (MS × Int32) := fb_M_takeSign_0 N () u v1
set_option maxRecDepth 100000 in
set_option maxHeartbeats 4000000 in
theorem c_M_takeSign (N : Nat) {l : Launch} {D : va_G} {cl : List vw_C} {cB cI cJ cZ cS : ClassId} {iM h0 : Nat} {ad : Nat → Nat} {u : MS} {sz : Nat} {v1 : Int32} {x : MS × Int32} (hM : cl[iM]? = some (R_M, F_M, 171)) (hf : fm_M_takeSign N u v1 = some x) : Met l y_M_takeSign (wd_ws y_M_takeSign b_M_takeSign 2 (some .boolean)) rm_M_takeSign (mPc D cl cB cI cJ cZ cS iM h0 ad u sz [.ref h0, .int v1]) (mQi D cl cB cI cJ cZ cS iM h0 ad (mA cB cI cJ cZ cS iM h0 ad u sz) x) 0 0 (mA cB cI cJ cZ cS iM h0 ad u sz) :=
  mMet (by decide) rfl hM (Nat.le_of_ble_eq_true rfl) (fun p e s m below meth c ls hsz C0 hP hD hS hl => by
    have hR : rm_M_takeSign = rm_M_takeSign := rfl
    exact wb_M_takeSign_0 C0 hR N () trivial u _ x hf s.heap [] hP hD hS ls (lv_sub hl [0, 1] rfl))
abbrev b_M_takeWord : ByteArray := prog_14_method_27_code
def y_M_takeWord : MethodName := ⟨R_M, "takeWord", "(I)Z"⟩
def w_M_takeWord : List Cond := wd_ws y_M_takeWord b_M_takeWord 2 (some .boolean)
set_option maxRecDepth 100000 in
theorem k_M_takeWord : Cond.code y_M_takeWord b_M_takeWord 2 (some .boolean) ∈ wd_tbl := wd_of 2763 rfl rfl
theorem d_M_takeWord_0 : decode b_M_takeWord 0 = .ok (.aload_n 0, 1) := by decide +kernel
theorem d_M_takeWord_1 : decode b_M_takeWord 1 = .ok (.getfield 454, 3) := by decide +kernel
theorem d_M_takeWord_4 : decode b_M_takeWord 4 = .ok (.ifCond .ne 11, 3) := by decide +kernel
theorem d_M_takeWord_7 : decode b_M_takeWord 7 = .ok (.aload_n 0, 1) := by decide +kernel
theorem d_M_takeWord_8 : decode b_M_takeWord 8 = .ok (.iload_n 1, 1) := by decide +kernel
theorem d_M_takeWord_9 : decode b_M_takeWord 9 = .ok (.invokevirtual 472, 3) := by decide +kernel
theorem d_M_takeWord_12 : decode b_M_takeWord 12 = .ok (.ifCond .ne 5, 3) := by decide +kernel
theorem d_M_takeWord_15 : decode b_M_takeWord 15 = .ok (.iconst 0, 1) := by decide +kernel
theorem d_M_takeWord_16 : decode b_M_takeWord 16 = .ok (.ireturn, 1) := by decide +kernel
theorem d_M_takeWord_17 : decode b_M_takeWord 17 = .ok (.aload_n 0, 1) := by decide +kernel
theorem d_M_takeWord_18 : decode b_M_takeWord 18 = .ok (.dup, 1) := by decide +kernel
theorem d_M_takeWord_19 : decode b_M_takeWord 19 = .ok (.getfield 457, 3) := by decide +kernel
theorem d_M_takeWord_22 : decode b_M_takeWord 22 = .ok (.iconst 1, 1) := by decide +kernel
theorem d_M_takeWord_23 : decode b_M_takeWord 23 = .ok (.iadd, 1) := by decide +kernel
theorem d_M_takeWord_24 : decode b_M_takeWord 24 = .ok (.putfield 457, 3) := by decide +kernel
theorem d_M_takeWord_27 : decode b_M_takeWord 27 = .ok (.iconst 1, 1) := by decide +kernel
theorem d_M_takeWord_28 : decode b_M_takeWord 28 = .ok (.ireturn, 1) := by decide +kernel
set_option maxRecDepth 100000 in
theorem hl_M_takeWord : Cond.methodLink R_M 481 y_M_takeWord ∈ wd_tbl := wd_of 2760 (by decide +kernel) rfl
set_option maxRecDepth 100000 in
theorem hi_M_takeWord : Cond.instanceMethod y_M_takeWord ∈ wd_tbl := wd_of 2762 (by decide +kernel) rfl
set_option maxRecDepth 100000 in
theorem hs_M_takeWord : Cond.selects R_M y_M_takeWord y_M_takeWord ∈ wd_tbl := wd_of 154 (by decide +kernel) rfl
theorem hd_M_takeWord : y_M_takeWord.cls = R_M ∧ y_M_takeWord.cls ≠ "java/lang/invoke/MethodHandle" ∧ y_M_takeWord.cls ≠ "java/lang/invoke/VarHandle" ∧ (parseMethodDescriptor y_M_takeWord.desc).map (fun d => d.parameters.length) = some 1 := by decide +kernel
def rm_M_takeWord : Room := { frames := 1, cells := 0, slots := 0, locals := 21 }
theorem rm_M_takeWord_M_isWord {R : Room} (hR : R = rm_M_takeWord) : (rm_M_isWord).frames + 1 ≤ R.frames ∧ 8 + (2 + 11) + (rm_M_isWord).locals ≤ R.locals := by subst hR; decide
def fb_M_takeWord_15 (N : Nat) (G : Unit) (u : MS) : Option (MS × Int32) := ck (isb 0) (some (u, 0))
set_option maxRecDepth 100000 in
set_option maxHeartbeats 4000000 in
theorem wb_M_takeWord_15 {p : Program} {l : Launch} {e : Env} {R : Room} {s : State} {m : MethodId} {args : Array Value} {below : List Frame} {meth : Method} {c : Code} {D : va_G} {cl : List vw_C} {cB cI cJ cZ cS : ClassId} {A : Nat → Prop} {iM h0 : Nat} {ad : Nat → Nat} (C0 : MCx p s m args meth c b_M_takeWord 2 (some .boolean) D cl cB cI cJ cZ cS iM A) (hR : R = rm_M_takeWord) (N : Nat) (G : Unit) (hG : True) : ∀ (u : MS) (x : MS × Int32), fb_M_takeWord_15 N G u = some x → ∀ (H : Heap) (locs : List Loc), va_P D cl (wM cB cI cJ cZ cS iM h0 ad u) H → va_D A (wM cB cI cJ cZ cS iM h0 ad u) → va_S A s.heap H locs → ∀ (ls : Array Slot), lv_has ls 2 [] → W p l e R s m args below meth c H locs 0 0 (MQ below (mQi D cl cB cI cJ cZ cS iM h0 ad A x) args s 0 0 A) (F0 m 15 ls []) := by
  intro u x hf H locs hP hD hS ls hl
  obtain ⟨hx, hb, hr, hml, ht, hown, hM, hK, hA, hlocks⟩ := id C0
  unfold fb_M_takeWord_15 at hf
  refine lv_iconst (v := 0) hx hb d_M_takeWord_15 (by decide) ?_
  obtain ⟨hz, hf⟩ := ck_some hf
  exact mr_z C0 hP hD hS hz hf d_M_takeWord_16
def fb_M_takeWord_0 (N : Nat) (G : Unit) (u : MS) (v1 : Int32) : Option (MS × Int32) := br (decide ((u.1 67) = 0)) (bnd (fm_M_isWord N u v1) (fun u1 r1 => br (decide (r1 = 0)) (fb_M_takeWord_15 N G u1) (lt (upI u1 69 ((u1.1 69) + 1)) (fun w2 => ck (isb 1) (some (w2, 1)))))) (fb_M_takeWord_15 N G u)
set_option maxRecDepth 100000 in
set_option maxHeartbeats 4000000 in
theorem wb_M_takeWord_0 {p : Program} {l : Launch} {e : Env} {R : Room} {s : State} {m : MethodId} {args : Array Value} {below : List Frame} {meth : Method} {c : Code} {D : va_G} {cl : List vw_C} {cB cI cJ cZ cS : ClassId} {A : Nat → Prop} {iM h0 : Nat} {ad : Nat → Nat} (C0 : MCx p s m args meth c b_M_takeWord 2 (some .boolean) D cl cB cI cJ cZ cS iM A) (hR : R = rm_M_takeWord) (N : Nat) (G : Unit) (hG : True) : ∀ (u : MS) (v1 : Int32) (x : MS × Int32), fb_M_takeWord_0 N G u v1 = some x → ∀ (H : Heap) (locs : List Loc), va_P D cl (wM cB cI cJ cZ cS iM h0 ad u) H → va_D A (wM cB cI cJ cZ cS iM h0 ad u) → va_S A s.heap H locs → ∀ (ls : Array Slot), lv_has ls 2 [(0, .ref h0), (1, .int v1)] → W p l e R s m args below meth c H locs 0 0 (MQ below (mQi D cl cB cI cJ cZ cS iM h0 ad A x) args s 0 0 A) (F0 m 0 ls []) := by
  intro u v1 x hf H locs hP hD hS ls hl
  obtain ⟨hx, hb, hr, hml, ht, hown, hM, hK, hA, hlocks⟩ := id C0
  unfold fb_M_takeWord_0 at hf
  refine lv_aload_n hx hb d_M_takeWord_0 rfl (lv_at hl 0 rfl) ?_
  refine ug_I hx hb ht hown hM hK hP 67 (by decide) lk_M_67 (by decide) d_M_takeWord_1 ?_
  refine lv_if_ne (tgt := 15) hx hb d_M_takeWord_4 (by decide) (fun hc => ?_) (fun hc => ?_)
  · rw [br_n _ hc] at hf
    exact wb_M_takeWord_15 C0 hR N G hG _ _ hf H locs hP hD hS ls (lv_sub hl [] rfl)
  · rw [br_p _ hc] at hf
    refine lv_aload_n hx hb d_M_takeWord_7 rfl (lv_at hl 0 rfl) ?_
    refine lv_iload_n hx hb d_M_takeWord_8 rfl (lv_at hl 1 rfl) ?_
    obtain ⟨u1, r1, hc1, hf⟩ := bnd_some hf
    refine mV_i (As := [.int v1]) (rest := []) C0 hP hD hS (c_M_isWord N hM hc1) k_M_isWord hl_M_isWord hi_M_isWord hs_M_isWord hini_M rfl rfl hd_M_isWord rfl (rm_M_takeWord_M_isWord hR) hl.1 (Nat.le_of_ble_eq_true rfl) d_M_takeWord_9 rfl ⟨Nat.zero_le _, Nat.zero_le _⟩ (fun H locs hP hD hS => ?_)
    refine lv_if_ne (tgt := 17) hx hb d_M_takeWord_12 (by decide) (fun hc => ?_) (fun hc => ?_)
    · rw [br_n _ hc] at hf
      refine lv_aload_n hx hb d_M_takeWord_17 rfl (lv_at hl 0 rfl) ?_
      refine lv_dup hx hb d_M_takeWord_18 rfl ?_
      refine ug_I hx hb ht hown hM hK hP 69 (by decide) lk_M_69 (by decide) d_M_takeWord_19 ?_
      refine lv_iconst (v := 1) hx hb d_M_takeWord_22 (by decide) ?_
      refine lv_iadd hx hb d_M_takeWord_23 ?_
      refine up_I hx hb ht hown hM hK hP hD hS 69 (by decide) lk_M_69 (by decide) rfl rfl rfl d_M_takeWord_24 (fun H locs hP hD hS => ?_)
      obtain ⟨w2, e2, hf⟩ := lt_some hf
      rw [← e2] at hP hD
      refine lv_iconst (v := 1) hx hb d_M_takeWord_27 (by decide) ?_
      obtain ⟨hz, hf⟩ := ck_some hf
      exact mr_z C0 hP hD hS hz hf d_M_takeWord_28
    · rw [br_p _ hc] at hf
      exact wb_M_takeWord_15 C0 hR N G hG _ _ hf H locs hP hD hS ls (lv_sub hl [] rfl)
def fm_M_takeWord (N : Nat) (u : MS) (v1 : Int32) : Option (MS × Int32) := fb_M_takeWord_0 N () u v1
set_option maxRecDepth 100000 in
set_option maxHeartbeats 4000000 in
theorem c_M_takeWord (N : Nat) {l : Launch} {D : va_G} {cl : List vw_C} {cB cI cJ cZ cS : ClassId} {iM h0 : Nat} {ad : Nat → Nat} {u : MS} {sz : Nat} {v1 : Int32} {x : MS × Int32} (hM : cl[iM]? = some (R_M, F_M, 171)) (hf : fm_M_takeWord N u v1 = some x) : Met l y_M_takeWord (wd_ws y_M_takeWord b_M_takeWord 2 (some .boolean)) rm_M_takeWord (mPc D cl cB cI cJ cZ cS iM h0 ad u sz [.ref h0, .int v1]) (mQi D cl cB cI cJ cZ cS iM h0 ad (mA cB cI cJ cZ cS iM h0 ad u sz) x) 0 0 (mA cB cI cJ cZ cS iM h0 ad u sz) :=
  mMet (by decide) rfl hM (Nat.le_of_ble_eq_true rfl) (fun p e s m below meth c ls hsz C0 hP hD hS hl => by
    have hR : rm_M_takeWord = rm_M_takeWord := rfl
    exact wb_M_takeWord_0 C0 hR N () trivial u _ x hf s.heap [] hP hD hS ls (lv_sub hl [0, 1] rfl))
abbrev b_M_needSign : ByteArray := prog_14_method_28_code
def y_M_needSign : MethodName := ⟨R_M, "needSign", "(I)V"⟩
def w_M_needSign : List Cond := wd_ws y_M_needSign b_M_needSign 2 none
set_option maxRecDepth 100000 in
theorem k_M_needSign : Cond.code y_M_needSign b_M_needSign 2 none ∈ wd_tbl := wd_of 2711 rfl rfl
theorem d_M_needSign_0 : decode b_M_needSign 0 = .ok (.aload_n 0, 1) := by decide +kernel
theorem d_M_needSign_1 : decode b_M_needSign 1 = .ok (.iload_n 1, 1) := by decide +kernel
theorem d_M_needSign_2 : decode b_M_needSign 2 = .ok (.invokevirtual 475, 3) := by decide +kernel
theorem d_M_needSign_5 : decode b_M_needSign 5 = .ok (.ifCond .ne 8, 3) := by decide +kernel
theorem d_M_needSign_8 : decode b_M_needSign 8 = .ok (.aload_n 0, 1) := by decide +kernel
theorem d_M_needSign_9 : decode b_M_needSign 9 = .ok (.iconst 2, 1) := by decide +kernel
theorem d_M_needSign_10 : decode b_M_needSign 10 = .ok (.invokevirtual 478, 3) := by decide +kernel
theorem d_M_needSign_13 : decode b_M_needSign 13 = .ok (.return_, 1) := by decide +kernel
set_option maxRecDepth 100000 in
theorem hl_M_needSign : Cond.methodLink R_M 529 y_M_needSign ∈ wd_tbl := wd_of 2708 (by decide +kernel) rfl
set_option maxRecDepth 100000 in
theorem hi_M_needSign : Cond.instanceMethod y_M_needSign ∈ wd_tbl := wd_of 2710 (by decide +kernel) rfl
set_option maxRecDepth 100000 in
theorem hs_M_needSign : Cond.selects R_M y_M_needSign y_M_needSign ∈ wd_tbl := wd_of 141 (by decide +kernel) rfl
theorem hd_M_needSign : y_M_needSign.cls = R_M ∧ y_M_needSign.cls ≠ "java/lang/invoke/MethodHandle" ∧ y_M_needSign.cls ≠ "java/lang/invoke/VarHandle" ∧ (parseMethodDescriptor y_M_needSign.desc).map (fun d => d.parameters.length) = some 1 := by decide +kernel
def rm_M_needSign : Room := { frames := 2, cells := 0, slots := 0, locals := 42 }
theorem rm_M_needSign_M_takeSign {R : Room} (hR : R = rm_M_needSign) : (rm_M_takeSign).frames + 1 ≤ R.frames ∧ 8 + (2 + 11) + (rm_M_takeSign).locals ≤ R.locals := by subst hR; decide
theorem rm_M_needSign_M_wrong {R : Room} (hR : R = rm_M_needSign) : (rm_M_wrong).frames + 1 ≤ R.frames ∧ 8 + (2 + 11) + (rm_M_wrong).locals ≤ R.locals := by subst hR; decide
def fb_M_needSign_13 (N : Nat) (G : Unit) (u : MS) : Option (MS × Unit) := some (u, ())
set_option maxRecDepth 100000 in
set_option maxHeartbeats 4000000 in
theorem wb_M_needSign_13 {p : Program} {l : Launch} {e : Env} {R : Room} {s : State} {m : MethodId} {args : Array Value} {below : List Frame} {meth : Method} {c : Code} {D : va_G} {cl : List vw_C} {cB cI cJ cZ cS : ClassId} {A : Nat → Prop} {iM h0 : Nat} {ad : Nat → Nat} (C0 : MCx p s m args meth c b_M_needSign 2 none D cl cB cI cJ cZ cS iM A) (hR : R = rm_M_needSign) (N : Nat) (G : Unit) (hG : True) : ∀ (u : MS) (x : MS × Unit), fb_M_needSign_13 N G u = some x → ∀ (H : Heap) (locs : List Loc), va_P D cl (wM cB cI cJ cZ cS iM h0 ad u) H → va_D A (wM cB cI cJ cZ cS iM h0 ad u) → va_S A s.heap H locs → ∀ (ls : Array Slot), lv_has ls 2 [] → W p l e R s m args below meth c H locs 0 0 (MQ below (mQv D cl cB cI cJ cZ cS iM h0 ad A x) args s 0 0 A) (F0 m 13 ls []) := by
  intro u x hf H locs hP hD hS ls hl
  obtain ⟨hx, hb, hr, hml, ht, hown, hM, hK, hA, hlocks⟩ := id C0
  unfold fb_M_needSign_13 at hf
  exact mr_v C0 hP hD hS hf d_M_needSign_13
def fb_M_needSign_0 (N : Nat) (G : Unit) (u : MS) (v1 : Int32) : Option (MS × Unit) := bnd (fm_M_takeSign N u v1) (fun u1 r1 => br (decide (r1 = 0)) (bnd (fm_M_wrong N u1 2) (fun u2 _ => fb_M_needSign_13 N G u2)) (fb_M_needSign_13 N G u1))
set_option maxRecDepth 100000 in
set_option maxHeartbeats 4000000 in
theorem wb_M_needSign_0 {p : Program} {l : Launch} {e : Env} {R : Room} {s : State} {m : MethodId} {args : Array Value} {below : List Frame} {meth : Method} {c : Code} {D : va_G} {cl : List vw_C} {cB cI cJ cZ cS : ClassId} {A : Nat → Prop} {iM h0 : Nat} {ad : Nat → Nat} (C0 : MCx p s m args meth c b_M_needSign 2 none D cl cB cI cJ cZ cS iM A) (hR : R = rm_M_needSign) (N : Nat) (G : Unit) (hG : True) : ∀ (u : MS) (v1 : Int32) (x : MS × Unit), fb_M_needSign_0 N G u v1 = some x → ∀ (H : Heap) (locs : List Loc), va_P D cl (wM cB cI cJ cZ cS iM h0 ad u) H → va_D A (wM cB cI cJ cZ cS iM h0 ad u) → va_S A s.heap H locs → ∀ (ls : Array Slot), lv_has ls 2 [(0, .ref h0), (1, .int v1)] → W p l e R s m args below meth c H locs 0 0 (MQ below (mQv D cl cB cI cJ cZ cS iM h0 ad A x) args s 0 0 A) (F0 m 0 ls []) := by
  intro u v1 x hf H locs hP hD hS ls hl
  obtain ⟨hx, hb, hr, hml, ht, hown, hM, hK, hA, hlocks⟩ := id C0
  unfold fb_M_needSign_0 at hf
  refine lv_aload_n hx hb d_M_needSign_0 rfl (lv_at hl 0 rfl) ?_
  refine lv_iload_n hx hb d_M_needSign_1 rfl (lv_at hl 1 rfl) ?_
  obtain ⟨u1, r1, hc1, hf⟩ := bnd_some hf
  refine mV_i (As := [.int v1]) (rest := []) C0 hP hD hS (c_M_takeSign N hM hc1) k_M_takeSign hl_M_takeSign hi_M_takeSign hs_M_takeSign hini_M rfl rfl hd_M_takeSign rfl (rm_M_needSign_M_takeSign hR) hl.1 (Nat.le_of_ble_eq_true rfl) d_M_needSign_2 rfl ⟨Nat.zero_le _, Nat.zero_le _⟩ (fun H locs hP hD hS => ?_)
  refine lv_if_ne (tgt := 13) hx hb d_M_needSign_5 (by decide) (fun hc => ?_) (fun hc => ?_)
  · rw [br_n _ hc] at hf
    exact wb_M_needSign_13 C0 hR N G hG _ _ hf H locs hP hD hS ls (lv_sub hl [] rfl)
  · rw [br_p _ hc] at hf
    refine lv_aload_n hx hb d_M_needSign_8 rfl (lv_at hl 0 rfl) ?_
    refine lv_iconst (v := 2) hx hb d_M_needSign_9 (by decide) ?_
    obtain ⟨u2, r2, hc2, hf⟩ := bnd_some hf
    refine mV_v (As := [.int 2]) (rest := []) C0 hP hD hS (c_M_wrong N hM hc2) k_M_wrong hl_M_wrong hi_M_wrong hs_M_wrong hini_M rfl rfl hd_M_wrong rfl (rm_M_needSign_M_wrong hR) hl.1 (Nat.le_of_ble_eq_true rfl) d_M_needSign_10 rfl ⟨Nat.zero_le _, Nat.zero_le _⟩ (fun H locs hP hD hS => ?_)
    exact wb_M_needSign_13 C0 hR N G hG _ _ hf H locs hP hD hS ls (lv_sub hl [] rfl)
def fm_M_needSign (N : Nat) (u : MS) (v1 : Int32) : Option (MS × Unit) := fb_M_needSign_0 N () u v1
set_option maxRecDepth 100000 in
set_option maxHeartbeats 4000000 in
theorem c_M_needSign (N : Nat) {l : Launch} {D : va_G} {cl : List vw_C} {cB cI cJ cZ cS : ClassId} {iM h0 : Nat} {ad : Nat → Nat} {u : MS} {sz : Nat} {v1 : Int32} {x : MS × Unit} (hM : cl[iM]? = some (R_M, F_M, 171)) (hf : fm_M_needSign N u v1 = some x) : Met l y_M_needSign (wd_ws y_M_needSign b_M_needSign 2 none) rm_M_needSign (mPc D cl cB cI cJ cZ cS iM h0 ad u sz [.ref h0, .int v1]) (mQv D cl cB cI cJ cZ cS iM h0 ad (mA cB cI cJ cZ cS iM h0 ad u sz) x) 0 0 (mA cB cI cJ cZ cS iM h0 ad u sz) :=
  mMet (by decide) rfl hM (Nat.le_of_ble_eq_true rfl) (fun p e s m below meth c ls hsz C0 hP hD hS hl => by
    have hR : rm_M_needSign = rm_M_needSign := rfl
    exact wb_M_needSign_0 C0 hR N () trivial u _ x hf s.heap [] hP hD hS ls (lv_sub hl [0, 1] rfl))
abbrev b_M_needWord : ByteArray := prog_14_method_29_code
def y_M_needWord : MethodName := ⟨R_M, "needWord", "(I)V"⟩
def w_M_needWord : List Cond := wd_ws y_M_needWord b_M_needWord 2 none
set_option maxRecDepth 100000 in
theorem k_M_needWord : Cond.code y_M_needWord b_M_needWord 2 none ∈ wd_tbl := wd_of 2827 rfl rfl
theorem d_M_needWord_0 : decode b_M_needWord 0 = .ok (.aload_n 0, 1) := by decide +kernel
theorem d_M_needWord_1 : decode b_M_needWord 1 = .ok (.iload_n 1, 1) := by decide +kernel
theorem d_M_needWord_2 : decode b_M_needWord 2 = .ok (.invokevirtual 481, 3) := by decide +kernel
theorem d_M_needWord_5 : decode b_M_needWord 5 = .ok (.ifCond .ne 8, 3) := by decide +kernel
theorem d_M_needWord_8 : decode b_M_needWord 8 = .ok (.aload_n 0, 1) := by decide +kernel
theorem d_M_needWord_9 : decode b_M_needWord 9 = .ok (.iconst 2, 1) := by decide +kernel
theorem d_M_needWord_10 : decode b_M_needWord 10 = .ok (.invokevirtual 478, 3) := by decide +kernel
theorem d_M_needWord_13 : decode b_M_needWord 13 = .ok (.return_, 1) := by decide +kernel
set_option maxRecDepth 100000 in
theorem hl_M_needWord : Cond.methodLink R_M 641 y_M_needWord ∈ wd_tbl := wd_of 2824 (by decide +kernel) rfl
set_option maxRecDepth 100000 in
theorem hi_M_needWord : Cond.instanceMethod y_M_needWord ∈ wd_tbl := wd_of 2826 (by decide +kernel) rfl
set_option maxRecDepth 100000 in
theorem hs_M_needWord : Cond.selects R_M y_M_needWord y_M_needWord ∈ wd_tbl := wd_of 170 (by decide +kernel) rfl
theorem hd_M_needWord : y_M_needWord.cls = R_M ∧ y_M_needWord.cls ≠ "java/lang/invoke/MethodHandle" ∧ y_M_needWord.cls ≠ "java/lang/invoke/VarHandle" ∧ (parseMethodDescriptor y_M_needWord.desc).map (fun d => d.parameters.length) = some 1 := by decide +kernel
def rm_M_needWord : Room := { frames := 2, cells := 0, slots := 0, locals := 42 }
theorem rm_M_needWord_M_takeWord {R : Room} (hR : R = rm_M_needWord) : (rm_M_takeWord).frames + 1 ≤ R.frames ∧ 8 + (2 + 11) + (rm_M_takeWord).locals ≤ R.locals := by subst hR; decide
theorem rm_M_needWord_M_wrong {R : Room} (hR : R = rm_M_needWord) : (rm_M_wrong).frames + 1 ≤ R.frames ∧ 8 + (2 + 11) + (rm_M_wrong).locals ≤ R.locals := by subst hR; decide
def fb_M_needWord_13 (N : Nat) (G : Unit) (u : MS) : Option (MS × Unit) := some (u, ())
set_option maxRecDepth 100000 in
set_option maxHeartbeats 4000000 in
theorem wb_M_needWord_13 {p : Program} {l : Launch} {e : Env} {R : Room} {s : State} {m : MethodId} {args : Array Value} {below : List Frame} {meth : Method} {c : Code} {D : va_G} {cl : List vw_C} {cB cI cJ cZ cS : ClassId} {A : Nat → Prop} {iM h0 : Nat} {ad : Nat → Nat} (C0 : MCx p s m args meth c b_M_needWord 2 none D cl cB cI cJ cZ cS iM A) (hR : R = rm_M_needWord) (N : Nat) (G : Unit) (hG : True) : ∀ (u : MS) (x : MS × Unit), fb_M_needWord_13 N G u = some x → ∀ (H : Heap) (locs : List Loc), va_P D cl (wM cB cI cJ cZ cS iM h0 ad u) H → va_D A (wM cB cI cJ cZ cS iM h0 ad u) → va_S A s.heap H locs → ∀ (ls : Array Slot), lv_has ls 2 [] → W p l e R s m args below meth c H locs 0 0 (MQ below (mQv D cl cB cI cJ cZ cS iM h0 ad A x) args s 0 0 A) (F0 m 13 ls []) := by
  intro u x hf H locs hP hD hS ls hl
  obtain ⟨hx, hb, hr, hml, ht, hown, hM, hK, hA, hlocks⟩ := id C0
  unfold fb_M_needWord_13 at hf
  exact mr_v C0 hP hD hS hf d_M_needWord_13
def fb_M_needWord_0 (N : Nat) (G : Unit) (u : MS) (v1 : Int32) : Option (MS × Unit) := bnd (fm_M_takeWord N u v1) (fun u1 r1 => br (decide (r1 = 0)) (bnd (fm_M_wrong N u1 2) (fun u2 _ => fb_M_needWord_13 N G u2)) (fb_M_needWord_13 N G u1))
set_option maxRecDepth 100000 in
set_option maxHeartbeats 4000000 in
theorem wb_M_needWord_0 {p : Program} {l : Launch} {e : Env} {R : Room} {s : State} {m : MethodId} {args : Array Value} {below : List Frame} {meth : Method} {c : Code} {D : va_G} {cl : List vw_C} {cB cI cJ cZ cS : ClassId} {A : Nat → Prop} {iM h0 : Nat} {ad : Nat → Nat} (C0 : MCx p s m args meth c b_M_needWord 2 none D cl cB cI cJ cZ cS iM A) (hR : R = rm_M_needWord) (N : Nat) (G : Unit) (hG : True) : ∀ (u : MS) (v1 : Int32) (x : MS × Unit), fb_M_needWord_0 N G u v1 = some x → ∀ (H : Heap) (locs : List Loc), va_P D cl (wM cB cI cJ cZ cS iM h0 ad u) H → va_D A (wM cB cI cJ cZ cS iM h0 ad u) → va_S A s.heap H locs → ∀ (ls : Array Slot), lv_has ls 2 [(0, .ref h0), (1, .int v1)] → W p l e R s m args below meth c H locs 0 0 (MQ below (mQv D cl cB cI cJ cZ cS iM h0 ad A x) args s 0 0 A) (F0 m 0 ls []) := by
  intro u v1 x hf H locs hP hD hS ls hl
  obtain ⟨hx, hb, hr, hml, ht, hown, hM, hK, hA, hlocks⟩ := id C0
  unfold fb_M_needWord_0 at hf
  refine lv_aload_n hx hb d_M_needWord_0 rfl (lv_at hl 0 rfl) ?_
  refine lv_iload_n hx hb d_M_needWord_1 rfl (lv_at hl 1 rfl) ?_
  obtain ⟨u1, r1, hc1, hf⟩ := bnd_some hf
  refine mV_i (As := [.int v1]) (rest := []) C0 hP hD hS (c_M_takeWord N hM hc1) k_M_takeWord hl_M_takeWord hi_M_takeWord hs_M_takeWord hini_M rfl rfl hd_M_takeWord rfl (rm_M_needWord_M_takeWord hR) hl.1 (Nat.le_of_ble_eq_true rfl) d_M_needWord_2 rfl ⟨Nat.zero_le _, Nat.zero_le _⟩ (fun H locs hP hD hS => ?_)
  refine lv_if_ne (tgt := 13) hx hb d_M_needWord_5 (by decide) (fun hc => ?_) (fun hc => ?_)
  · rw [br_n _ hc] at hf
    exact wb_M_needWord_13 C0 hR N G hG _ _ hf H locs hP hD hS ls (lv_sub hl [] rfl)
  · rw [br_p _ hc] at hf
    refine lv_aload_n hx hb d_M_needWord_8 rfl (lv_at hl 0 rfl) ?_
    refine lv_iconst (v := 2) hx hb d_M_needWord_9 (by decide) ?_
    obtain ⟨u2, r2, hc2, hf⟩ := bnd_some hf
    refine mV_v (As := [.int 2]) (rest := []) C0 hP hD hS (c_M_wrong N hM hc2) k_M_wrong hl_M_wrong hi_M_wrong hs_M_wrong hini_M rfl rfl hd_M_wrong rfl (rm_M_needWord_M_wrong hR) hl.1 (Nat.le_of_ble_eq_true rfl) d_M_needWord_10 rfl ⟨Nat.zero_le _, Nat.zero_le _⟩ (fun H locs hP hD hS => ?_)
    exact wb_M_needWord_13 C0 hR N G hG _ _ hf H locs hP hD hS ls (lv_sub hl [] rfl)
def fm_M_needWord (N : Nat) (u : MS) (v1 : Int32) : Option (MS × Unit) := fb_M_needWord_0 N () u v1
set_option maxRecDepth 100000 in
set_option maxHeartbeats 4000000 in
theorem c_M_needWord (N : Nat) {l : Launch} {D : va_G} {cl : List vw_C} {cB cI cJ cZ cS : ClassId} {iM h0 : Nat} {ad : Nat → Nat} {u : MS} {sz : Nat} {v1 : Int32} {x : MS × Unit} (hM : cl[iM]? = some (R_M, F_M, 171)) (hf : fm_M_needWord N u v1 = some x) : Met l y_M_needWord (wd_ws y_M_needWord b_M_needWord 2 none) rm_M_needWord (mPc D cl cB cI cJ cZ cS iM h0 ad u sz [.ref h0, .int v1]) (mQv D cl cB cI cJ cZ cS iM h0 ad (mA cB cI cJ cZ cS iM h0 ad u sz) x) 0 0 (mA cB cI cJ cZ cS iM h0 ad u sz) :=
  mMet (by decide) rfl hM (Nat.le_of_ble_eq_true rfl) (fun p e s m below meth c ls hsz C0 hP hD hS hl => by
    have hR : rm_M_needWord = rm_M_needWord := rfl
    exact wb_M_needWord_0 C0 hR N () trivial u _ x hf s.heap [] hP hD hS ls (lv_sub hl [0, 1] rfl))
abbrev b_M_opens : ByteArray := prog_14_method_30_code
def y_M_opens : MethodName := ⟨R_M, "opens", "()V"⟩
def w_M_opens : List Cond := wd_ws y_M_opens b_M_opens 1 none
set_option maxRecDepth 100000 in
theorem k_M_opens : Cond.code y_M_opens b_M_opens 1 none ∈ wd_tbl := wd_of 2727 rfl rfl
theorem d_M_opens_0 : decode b_M_opens 0 = .ok (.aload_n 0, 1) := by decide +kernel
theorem d_M_opens_1 : decode b_M_opens 1 = .ok (.getfield 484, 3) := by decide +kernel
theorem d_M_opens_4 : decode b_M_opens 4 = .ok (.bipush 25, 2) := by decide +kernel
theorem d_M_opens_6 : decode b_M_opens 6 = .ok (.if_icmp .lt 8, 3) := by decide +kernel
theorem d_M_opens_9 : decode b_M_opens 9 = .ok (.aload_n 0, 1) := by decide +kernel
theorem d_M_opens_10 : decode b_M_opens 10 = .ok (.iconst 3, 1) := by decide +kernel
theorem d_M_opens_11 : decode b_M_opens 11 = .ok (.invokevirtual 478, 3) := by decide +kernel
theorem d_M_opens_14 : decode b_M_opens 14 = .ok (.aload_n 0, 1) := by decide +kernel
theorem d_M_opens_15 : decode b_M_opens 15 = .ok (.dup, 1) := by decide +kernel
theorem d_M_opens_16 : decode b_M_opens 16 = .ok (.getfield 484, 3) := by decide +kernel
theorem d_M_opens_19 : decode b_M_opens 19 = .ok (.iconst 1, 1) := by decide +kernel
theorem d_M_opens_20 : decode b_M_opens 20 = .ok (.iadd, 1) := by decide +kernel
theorem d_M_opens_21 : decode b_M_opens 21 = .ok (.putfield 484, 3) := by decide +kernel
theorem d_M_opens_24 : decode b_M_opens 24 = .ok (.return_, 1) := by decide +kernel
set_option maxRecDepth 100000 in
theorem hl_M_opens : Cond.methodLink R_M 562 y_M_opens ∈ wd_tbl := wd_of 2724 (by decide +kernel) rfl
set_option maxRecDepth 100000 in
theorem hi_M_opens : Cond.instanceMethod y_M_opens ∈ wd_tbl := wd_of 2726 (by decide +kernel) rfl
set_option maxRecDepth 100000 in
theorem hs_M_opens : Cond.selects R_M y_M_opens y_M_opens ∈ wd_tbl := wd_of 145 (by decide +kernel) rfl
theorem hd_M_opens : y_M_opens.cls = R_M ∧ y_M_opens.cls ≠ "java/lang/invoke/MethodHandle" ∧ y_M_opens.cls ≠ "java/lang/invoke/VarHandle" ∧ (parseMethodDescriptor y_M_opens.desc).map (fun d => d.parameters.length) = some 0 := by decide +kernel
def rm_M_opens : Room := { frames := 1, cells := 0, slots := 0, locals := 21 }
theorem rm_M_opens_M_wrong {R : Room} (hR : R = rm_M_opens) : (rm_M_wrong).frames + 1 ≤ R.frames ∧ 8 + (2 + 11) + (rm_M_wrong).locals ≤ R.locals := by subst hR; decide
def fb_M_opens_14 (N : Nat) (G : Unit) (u : MS) : Option (MS × Unit) := lt (upI u 70 ((u.1 70) + 1)) (fun w1 => some (w1, ()))
set_option maxRecDepth 100000 in
set_option maxHeartbeats 4000000 in
theorem wb_M_opens_14 {p : Program} {l : Launch} {e : Env} {R : Room} {s : State} {m : MethodId} {args : Array Value} {below : List Frame} {meth : Method} {c : Code} {D : va_G} {cl : List vw_C} {cB cI cJ cZ cS : ClassId} {A : Nat → Prop} {iM h0 : Nat} {ad : Nat → Nat} (C0 : MCx p s m args meth c b_M_opens 1 none D cl cB cI cJ cZ cS iM A) (hR : R = rm_M_opens) (N : Nat) (G : Unit) (hG : True) : ∀ (u : MS) (x : MS × Unit), fb_M_opens_14 N G u = some x → ∀ (H : Heap) (locs : List Loc), va_P D cl (wM cB cI cJ cZ cS iM h0 ad u) H → va_D A (wM cB cI cJ cZ cS iM h0 ad u) → va_S A s.heap H locs → ∀ (ls : Array Slot), lv_has ls 1 [(0, .ref h0)] → W p l e R s m args below meth c H locs 0 0 (MQ below (mQv D cl cB cI cJ cZ cS iM h0 ad A x) args s 0 0 A) (F0 m 14 ls []) := by
  intro u x hf H locs hP hD hS ls hl
  obtain ⟨hx, hb, hr, hml, ht, hown, hM, hK, hA, hlocks⟩ := id C0
  unfold fb_M_opens_14 at hf
  refine lv_aload_n hx hb d_M_opens_14 rfl (lv_at hl 0 rfl) ?_
  refine lv_dup hx hb d_M_opens_15 rfl ?_
  refine ug_I hx hb ht hown hM hK hP 70 (by decide) lk_M_70 (by decide) d_M_opens_16 ?_
  refine lv_iconst (v := 1) hx hb d_M_opens_19 (by decide) ?_
  refine lv_iadd hx hb d_M_opens_20 ?_
  refine up_I hx hb ht hown hM hK hP hD hS 70 (by decide) lk_M_70 (by decide) rfl rfl rfl d_M_opens_21 (fun H locs hP hD hS => ?_)
  obtain ⟨w1, e1, hf⟩ := lt_some hf
  rw [← e1] at hP hD
  exact mr_v C0 hP hD hS hf d_M_opens_24
def fb_M_opens_0 (N : Nat) (G : Unit) (u : MS) : Option (MS × Unit) := br (decide ((u.1 70) < 25)) (fb_M_opens_14 N G u) (bnd (fm_M_wrong N u 3) (fun u2 _ => fb_M_opens_14 N G u2))
set_option maxRecDepth 100000 in
set_option maxHeartbeats 4000000 in
theorem wb_M_opens_0 {p : Program} {l : Launch} {e : Env} {R : Room} {s : State} {m : MethodId} {args : Array Value} {below : List Frame} {meth : Method} {c : Code} {D : va_G} {cl : List vw_C} {cB cI cJ cZ cS : ClassId} {A : Nat → Prop} {iM h0 : Nat} {ad : Nat → Nat} (C0 : MCx p s m args meth c b_M_opens 1 none D cl cB cI cJ cZ cS iM A) (hR : R = rm_M_opens) (N : Nat) (G : Unit) (hG : True) : ∀ (u : MS) (x : MS × Unit), fb_M_opens_0 N G u = some x → ∀ (H : Heap) (locs : List Loc), va_P D cl (wM cB cI cJ cZ cS iM h0 ad u) H → va_D A (wM cB cI cJ cZ cS iM h0 ad u) → va_S A s.heap H locs → ∀ (ls : Array Slot), lv_has ls 1 [(0, .ref h0)] → W p l e R s m args below meth c H locs 0 0 (MQ below (mQv D cl cB cI cJ cZ cS iM h0 ad A x) args s 0 0 A) (F0 m 0 ls []) := by
  intro u x hf H locs hP hD hS ls hl
  obtain ⟨hx, hb, hr, hml, ht, hown, hM, hK, hA, hlocks⟩ := id C0
  unfold fb_M_opens_0 at hf
  refine lv_aload_n hx hb d_M_opens_0 rfl (lv_at hl 0 rfl) ?_
  refine ug_I hx hb ht hown hM hK hP 70 (by decide) lk_M_70 (by decide) d_M_opens_1 ?_
  refine lv_bipush (v := 25) hx hb d_M_opens_4 (by decide) ?_
  refine lv_icmp_lt (tgt := 14) hx hb d_M_opens_6 (by decide) (fun hc => ?_) (fun hc => ?_)
  · rw [br_p _ hc] at hf
    exact wb_M_opens_14 C0 hR N G hG _ _ hf H locs hP hD hS ls (lv_sub hl [0] rfl)
  · rw [br_n _ hc] at hf
    refine lv_aload_n hx hb d_M_opens_9 rfl (lv_at hl 0 rfl) ?_
    refine lv_iconst (v := 3) hx hb d_M_opens_10 (by decide) ?_
    obtain ⟨u2, r2, hc2, hf⟩ := bnd_some hf
    refine mV_v (As := [.int 3]) (rest := []) C0 hP hD hS (c_M_wrong N hM hc2) k_M_wrong hl_M_wrong hi_M_wrong hs_M_wrong hini_M rfl rfl hd_M_wrong rfl (rm_M_opens_M_wrong hR) hl.1 (Nat.le_of_ble_eq_true rfl) d_M_opens_11 rfl ⟨Nat.zero_le _, Nat.zero_le _⟩ (fun H locs hP hD hS => ?_)
    exact wb_M_opens_14 C0 hR N G hG _ _ hf H locs hP hD hS ls (lv_sub hl [0] rfl)
def fm_M_opens (N : Nat) (u : MS) : Option (MS × Unit) := fb_M_opens_0 N () u
set_option maxRecDepth 100000 in
set_option maxHeartbeats 4000000 in
theorem c_M_opens (N : Nat) {l : Launch} {D : va_G} {cl : List vw_C} {cB cI cJ cZ cS : ClassId} {iM h0 : Nat} {ad : Nat → Nat} {u : MS} {sz : Nat} {x : MS × Unit} (hM : cl[iM]? = some (R_M, F_M, 171)) (hf : fm_M_opens N u = some x) : Met l y_M_opens (wd_ws y_M_opens b_M_opens 1 none) rm_M_opens (mPc D cl cB cI cJ cZ cS iM h0 ad u sz [.ref h0]) (mQv D cl cB cI cJ cZ cS iM h0 ad (mA cB cI cJ cZ cS iM h0 ad u sz) x) 0 0 (mA cB cI cJ cZ cS iM h0 ad u sz) :=
  mMet (by decide) rfl hM (Nat.le_of_ble_eq_true rfl) (fun p e s m below meth c ls hsz C0 hP hD hS hl => by
    have hR : rm_M_opens = rm_M_opens := rfl
    exact wb_M_opens_0 C0 hR N () trivial u x hf s.heap [] hP hD hS ls (lv_sub hl [0] rfl))
abbrev b_M_boundIn : ByteArray := prog_14_method_31_code
def y_M_boundIn : MethodName := ⟨R_M, "boundIn", "(II)I"⟩
def w_M_boundIn : List Cond := wd_ws y_M_boundIn b_M_boundIn 4 (some .int)
set_option maxRecDepth 100000 in
theorem k_M_boundIn : Cond.code y_M_boundIn b_M_boundIn 4 (some .int) ∈ wd_tbl := wd_of 2743 rfl rfl
theorem d_M_boundIn_0 : decode b_M_boundIn 0 = .ok (.iconst 0, 1) := by decide +kernel
theorem d_M_boundIn_1 : decode b_M_boundIn 1 = .ok (.istore_n 3, 1) := by decide +kernel
theorem d_M_boundIn_2 : decode b_M_boundIn 2 = .ok (.iload_n 3, 1) := by decide +kernel
theorem d_M_boundIn_3 : decode b_M_boundIn 3 = .ok (.aload_n 0, 1) := by decide +kernel
theorem d_M_boundIn_4 : decode b_M_boundIn 4 = .ok (.getfield 153, 3) := by decide +kernel
theorem d_M_boundIn_7 : decode b_M_boundIn 7 = .ok (.iload_n 1, 1) := by decide +kernel
theorem d_M_boundIn_8 : decode b_M_boundIn 8 = .ok (.iaload, 1) := by decide +kernel
theorem d_M_boundIn_9 : decode b_M_boundIn 9 = .ok (.if_icmp .ge 27, 3) := by decide +kernel
theorem d_M_boundIn_12 : decode b_M_boundIn 12 = .ok (.aload_n 0, 1) := by decide +kernel
theorem d_M_boundIn_13 : decode b_M_boundIn 13 = .ok (.getfield 150, 3) := by decide +kernel
theorem d_M_boundIn_16 : decode b_M_boundIn 16 = .ok (.sipush 1400, 3) := by decide +kernel
theorem d_M_boundIn_19 : decode b_M_boundIn 19 = .ok (.iload_n 1, 1) := by decide +kernel
theorem d_M_boundIn_20 : decode b_M_boundIn 20 = .ok (.imul, 1) := by decide +kernel
theorem d_M_boundIn_21 : decode b_M_boundIn 21 = .ok (.iload_n 3, 1) := by decide +kernel
theorem d_M_boundIn_22 : decode b_M_boundIn 22 = .ok (.iadd, 1) := by decide +kernel
theorem d_M_boundIn_23 : decode b_M_boundIn 23 = .ok (.iaload, 1) := by decide +kernel
theorem d_M_boundIn_24 : decode b_M_boundIn 24 = .ok (.iload_n 2, 1) := by decide +kernel
theorem d_M_boundIn_25 : decode b_M_boundIn 25 = .ok (.if_icmp .ne 5, 3) := by decide +kernel
theorem d_M_boundIn_28 : decode b_M_boundIn 28 = .ok (.iload_n 3, 1) := by decide +kernel
theorem d_M_boundIn_29 : decode b_M_boundIn 29 = .ok (.ireturn, 1) := by decide +kernel
theorem d_M_boundIn_30 : decode b_M_boundIn 30 = .ok (.iinc 3 1, 3) := by decide +kernel
theorem d_M_boundIn_33 : decode b_M_boundIn 33 = .ok (.goto (-31), 3) := by decide +kernel
theorem d_M_boundIn_36 : decode b_M_boundIn 36 = .ok (.iconst (-1), 1) := by decide +kernel
theorem d_M_boundIn_37 : decode b_M_boundIn 37 = .ok (.ireturn, 1) := by decide +kernel
set_option maxRecDepth 100000 in
theorem hl_M_boundIn : Cond.methodLink R_M 487 y_M_boundIn ∈ wd_tbl := wd_of 2740 (by decide +kernel) rfl
set_option maxRecDepth 100000 in
theorem hi_M_boundIn : Cond.instanceMethod y_M_boundIn ∈ wd_tbl := wd_of 2742 (by decide +kernel) rfl
set_option maxRecDepth 100000 in
theorem hs_M_boundIn : Cond.selects R_M y_M_boundIn y_M_boundIn ∈ wd_tbl := wd_of 149 (by decide +kernel) rfl
theorem hd_M_boundIn : y_M_boundIn.cls = R_M ∧ y_M_boundIn.cls ≠ "java/lang/invoke/MethodHandle" ∧ y_M_boundIn.cls ≠ "java/lang/invoke/VarHandle" ∧ (parseMethodDescriptor y_M_boundIn.desc).map (fun d => d.parameters.length) = some 2 := by decide +kernel
def rm_M_boundIn : Room := { frames := 0, cells := 0, slots := 0, locals := 0 }
def fb_M_boundIn_2 (N : Nat) (G : (MS → Int32 → Int32 → Int32 → Option (MS × Int32))) (u : MS) (v1 : Int32) (v2 : Int32) (v3 : Int32) : Option (MS × Int32) := ck (inb v1 (ln 60)) (br (decide ((u.2.2.1 60 v1.toNatClampNeg) ≤ v3)) (some (u, (-1))) (ck (inb ((1400 * v1) + v3) (ln 59)) (br (decide ((u.2.2.1 59 ((1400 * v1) + v3).toNatClampNeg) = v2)) (some (u, v3)) (G u (v1) (v2) ((v3 + 1))))))
set_option maxRecDepth 100000 in
set_option maxHeartbeats 4000000 in
theorem wb_M_boundIn_2 {p : Program} {l : Launch} {e : Env} {R : Room} {s : State} {m : MethodId} {args : Array Value} {below : List Frame} {meth : Method} {c : Code} {D : va_G} {cl : List vw_C} {cB cI cJ cZ cS : ClassId} {A : Nat → Prop} {iM h0 : Nat} {ad : Nat → Nat} (C0 : MCx p s m args meth c b_M_boundIn 4 (some .int) D cl cB cI cJ cZ cS iM A) (hR : R = rm_M_boundIn) (N : Nat) (G : (MS → Int32 → Int32 → Int32 → Option (MS × Int32))) (hG : (∀ (u : MS) (v1 : Int32) (v2 : Int32) (v3 : Int32) (x : MS × Int32), G u v1 v2 v3 = some x → ∀ (H : Heap) (locs : List Loc), va_P D cl (wM cB cI cJ cZ cS iM h0 ad u) H → va_D A (wM cB cI cJ cZ cS iM h0 ad u) → va_S A s.heap H locs → ∀ (ls : Array Slot), lv_has ls 4 [(0, .ref h0), (1, .int v1), (2, .int v2), (3, .int v3)] → W p l e R s m args below meth c H locs 0 0 (MQ below (mQi D cl cB cI cJ cZ cS iM h0 ad A x) args s 0 0 A) (F0 m 2 ls []))) : ∀ (u : MS) (v1 : Int32) (v2 : Int32) (v3 : Int32) (x : MS × Int32), fb_M_boundIn_2 N G u v1 v2 v3 = some x → ∀ (H : Heap) (locs : List Loc), va_P D cl (wM cB cI cJ cZ cS iM h0 ad u) H → va_D A (wM cB cI cJ cZ cS iM h0 ad u) → va_S A s.heap H locs → ∀ (ls : Array Slot), lv_has ls 4 [(0, .ref h0), (1, .int v1), (2, .int v2), (3, .int v3)] → W p l e R s m args below meth c H locs 0 0 (MQ below (mQi D cl cB cI cJ cZ cS iM h0 ad A x) args s 0 0 A) (F0 m 2 ls []) := by
  intro u v1 v2 v3 x hf H locs hP hD hS ls hl
  obtain ⟨hx, hb, hr, hml, ht, hown, hM, hK, hA, hlocks⟩ := id C0
  unfold fb_M_boundIn_2 at hf
  refine lv_iload_n hx hb d_M_boundIn_2 rfl (lv_at hl 3 rfl) ?_
  refine lv_aload_n hx hb d_M_boundIn_3 rfl (lv_at hl 0 rfl) ?_
  refine ug_R hx hb ht hown hM hK hP 60 (by decide) lk_M_60 (by decide) d_M_boundIn_4 ?_
  refine lv_iload_n hx hb d_M_boundIn_7 rfl (lv_at hl 1 rfl) ?_
  obtain ⟨hi9, hf⟩ := ck_some hf
  refine ul_I hx hb hK hP (by decide) (by decide) hi9 d_M_boundIn_8 ?_
  refine lv_icmp_ge (tgt := 36) hx hb d_M_boundIn_9 (by decide) (fun hc => ?_) (fun hc => ?_)
  · rw [br_p _ hc] at hf
    refine lv_iconst (v := (-1)) hx hb d_M_boundIn_36 (by decide) ?_
    exact mr_i C0 hP hD hS hf d_M_boundIn_37
  · rw [br_n _ hc] at hf
    refine lv_aload_n hx hb d_M_boundIn_12 rfl (lv_at hl 0 rfl) ?_
    refine ug_R hx hb ht hown hM hK hP 59 (by decide) lk_M_59 (by decide) d_M_boundIn_13 ?_
    refine lv_sipush (v := 1400) hx hb d_M_boundIn_16 (by decide) ?_
    refine lv_iload_n hx hb d_M_boundIn_19 rfl (lv_at hl 1 rfl) ?_
    refine lv_imul hx hb d_M_boundIn_20 ?_
    refine lv_iload_n hx hb d_M_boundIn_21 rfl (lv_at hl 3 rfl) ?_
    refine lv_iadd hx hb d_M_boundIn_22 ?_
    obtain ⟨hi9, hf⟩ := ck_some hf
    refine ul_I hx hb hK hP (by decide) (by decide) hi9 d_M_boundIn_23 ?_
    refine lv_iload_n hx hb d_M_boundIn_24 rfl (lv_at hl 2 rfl) ?_
    refine lv_icmp_ne (tgt := 30) hx hb d_M_boundIn_25 (by decide) (fun hc => ?_) (fun hc => ?_)
    · rw [br_n _ hc] at hf
      refine lv_iinc (v := (v3 + 1)) (lv' := [(3, .int (v3 + 1)), (0, .ref h0), (1, .int v1), (2, .int v2)]) hx hb d_M_boundIn_30 hl (k := 3) rfl rfl (by decide) rfl (fun ls hl => ?_)
      refine lv_goto (tgt := 2) hx hb d_M_boundIn_33 (by decide) ?_
      exact hG _ _ _ _ _ hf H locs hP hD hS ls (lv_sub hl [1, 2, 3, 0] rfl)
    · rw [br_p _ hc] at hf
      refine lv_iload_n hx hb d_M_boundIn_28 rfl (lv_at hl 3 rfl) ?_
      exact mr_i C0 hP hD hS hf d_M_boundIn_29
