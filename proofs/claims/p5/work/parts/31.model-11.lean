def fb_M_end_86 (N : Nat) (G : (MS → Int32 → Int32 → Int32 → Int64 → Int32 → Option (MS × Unit)) × (MS → Int32 → Int32 → Int32 → Int64 → Option (MS × Unit)) × (MS → Int32 → Int32 → Int32 → Int64 → Int32 → Option (MS × Unit)) × (MS → Int32 → Int32 → Option (MS × Unit))) (u : MS) (v1 : Int32) (v2 : Int32) (v3 : Int32) (v4 : Int64) (v6 : Int32) : Option (MS × Unit) := ck (inb v1 (ln 132)) (br (decide ((u.2.2.1 132 v1.toNatClampNeg) ≤ v6)) (ck (inb v1 (ln 113)) (lt (upA u 113 (upd (u.2.2.1 113) v1.toNatClampNeg (-1))) (fun w8 => G.2.1 w8 (v1) (v2) (v3) (v4)))) (ck (inb v6 (ln 143)) (ck (inb ((100 * v1) + v6) (ln 131)) (lt (upA u 131 (upd (u.2.2.1 131) ((100 * v1) + v6).toNatClampNeg (vp_nar .byte (u.2.2.1 143 v6.toNatClampNeg)))) (fun w9 => G.1 w9 (v1) (v2) (v3) (v4) ((v6 + 1)))))))
set_option maxRecDepth 100000 in
set_option maxHeartbeats 4000000 in
theorem wb_M_end_86 {p : Program} {l : Launch} {e : Env} {R : Room} {s : State} {m : MethodId} {args : Array Value} {below : List Frame} {meth : Method} {c : Code} {D : va_G} {cl : List vw_C} {cB cI cJ cZ cS : ClassId} {A : Nat → Prop} {iM h0 : Nat} {ad : Nat → Nat} (C0 : MCx p s m args meth c b_M_end 9 none D cl cB cI cJ cZ cS iM A) (hR : R = rm_M_end) (N : Nat) (G : (MS → Int32 → Int32 → Int32 → Int64 → Int32 → Option (MS × Unit)) × (MS → Int32 → Int32 → Int32 → Int64 → Option (MS × Unit)) × (MS → Int32 → Int32 → Int32 → Int64 → Int32 → Option (MS × Unit)) × (MS → Int32 → Int32 → Option (MS × Unit))) (hG : (∀ (u : MS) (v1 : Int32) (v2 : Int32) (v3 : Int32) (v4 : Int64) (v6 : Int32) (x : MS × Unit), G.1 u v1 v2 v3 v4 v6 = some x → ∀ (H : Heap) (locs : List Loc), va_P D cl (wM cB cI cJ cZ cS iM h0 ad u) H → va_D A (wM cB cI cJ cZ cS iM h0 ad u) → va_S A s.heap H locs → ∀ (ls : Array Slot), lv_has ls 9 [(0, .ref h0), (1, .int v1), (2, .int v2), (3, .int v3), (4, .long v4), (6, .int v6)] → W p l e R s m args below meth c H locs 0 0 (MQ below (mQv D cl cB cI cJ cZ cS iM h0 ad A x) args s 0 0 A) (F0 m 86 ls [])) ∧ (∀ (u : MS) (v1 : Int32) (v2 : Int32) (v3 : Int32) (v4 : Int64) (x : MS × Unit), G.2.1 u v1 v2 v3 v4 = some x → ∀ (H : Heap) (locs : List Loc), va_P D cl (wM cB cI cJ cZ cS iM h0 ad u) H → va_D A (wM cB cI cJ cZ cS iM h0 ad u) → va_S A s.heap H locs → ∀ (ls : Array Slot), lv_has ls 9 [(0, .ref h0), (1, .int v1), (2, .int v2), (3, .int v3), (4, .long v4)] → W p l e R s m args below meth c H locs 0 0 (MQ below (mQv D cl cB cI cJ cZ cS iM h0 ad A x) args s 0 0 A) (F0 m 129 ls [])) ∧ (∀ (u : MS) (v1 : Int32) (v2 : Int32) (v3 : Int32) (v4 : Int64) (v6 : Int32) (x : MS × Unit), G.2.2.1 u v1 v2 v3 v4 v6 = some x → ∀ (H : Heap) (locs : List Loc), va_P D cl (wM cB cI cJ cZ cS iM h0 ad u) H → va_D A (wM cB cI cJ cZ cS iM h0 ad u) → va_S A s.heap H locs → ∀ (ls : Array Slot), lv_has ls 9 [(0, .ref h0), (1, .int v1), (2, .int v2), (3, .int v3), (4, .long v4), (6, .int v6)] → W p l e R s m args below meth c H locs 0 0 (MQ below (mQv D cl cB cI cJ cZ cS iM h0 ad A x) args s 0 0 A) (F0 m 180 ls [])) ∧ (∀ (u : MS) (v1 : Int32) (v6 : Int32) (x : MS × Unit), G.2.2.2 u v1 v6 = some x → ∀ (H : Heap) (locs : List Loc), va_P D cl (wM cB cI cJ cZ cS iM h0 ad u) H → va_D A (wM cB cI cJ cZ cS iM h0 ad u) → va_S A s.heap H locs → ∀ (ls : Array Slot), lv_has ls 9 [(0, .ref h0), (1, .int v1), (6, .int v6)] → W p l e R s m args below meth c H locs 0 0 (MQ below (mQv D cl cB cI cJ cZ cS iM h0 ad A x) args s 0 0 A) (F0 m 250 ls []))) : ∀ (u : MS) (v1 : Int32) (v2 : Int32) (v3 : Int32) (v4 : Int64) (v6 : Int32) (x : MS × Unit), fb_M_end_86 N G u v1 v2 v3 v4 v6 = some x → ∀ (H : Heap) (locs : List Loc), va_P D cl (wM cB cI cJ cZ cS iM h0 ad u) H → va_D A (wM cB cI cJ cZ cS iM h0 ad u) → va_S A s.heap H locs → ∀ (ls : Array Slot), lv_has ls 9 [(0, .ref h0), (1, .int v1), (2, .int v2), (3, .int v3), (4, .long v4), (6, .int v6)] → W p l e R s m args below meth c H locs 0 0 (MQ below (mQv D cl cB cI cJ cZ cS iM h0 ad A x) args s 0 0 A) (F0 m 86 ls []) := by
  intro u v1 v2 v3 v4 v6 x hf H locs hP hD hS ls hl
  obtain ⟨hx, hb, hr, hml, ht, hown, hM, hK, hA, hlocks⟩ := id C0
  unfold fb_M_end_86 at hf
  refine lv_iload hx hb d_M_end_86 (lv_at hl 5 rfl) ?_
  refine lv_aload_n hx hb d_M_end_88 rfl (lv_at hl 0 rfl) ?_
  refine ug_R hx hb ht hown hM hK hP 132 (by decide) lk_M_132 (by decide) d_M_end_89 ?_
  refine lv_iload_n hx hb d_M_end_92 rfl (lv_at hl 1 rfl) ?_
  obtain ⟨hi9, hf⟩ := ck_some hf
  refine ul_I hx hb hK hP (by decide) (by decide) hi9 d_M_end_93 ?_
  refine lv_icmp_ge (tgt := 122) hx hb d_M_end_94 (by decide) (fun hc => ?_) (fun hc => ?_)
  · rw [br_p _ hc] at hf
    refine lv_aload_n hx hb d_M_end_122 rfl (lv_at hl 0 rfl) ?_
    refine ug_R hx hb ht hown hM hK hP 113 (by decide) lk_M_113 (by decide) d_M_end_123 ?_
    refine lv_iload_n hx hb d_M_end_126 rfl (lv_at hl 1 rfl) ?_
    refine lv_iconst (v := (-1)) hx hb d_M_end_127 (by decide) ?_
    obtain ⟨hi9, hf⟩ := ck_some hf
    refine us_I hx hb hK hP hD hS (by decide) (by decide) hi9 d_M_end_128 (fun H locs hP hD hS => ?_)
    obtain ⟨w8, e8, hf⟩ := lt_some hf
    rw [← e8] at hP hD
    exact hG.2.1 _ _ _ _ _ _ hf H locs hP hD hS ls (lv_sub hl [0, 1, 2, 3, 4] rfl)
  · rw [br_n _ hc] at hf
    refine lv_aload_n hx hb d_M_end_97 rfl (lv_at hl 0 rfl) ?_
    refine ug_R hx hb ht hown hM hK hP 131 (by decide) lk_M_131 (by decide) d_M_end_98 ?_
    refine lv_bipush (v := 100) hx hb d_M_end_101 (by decide) ?_
    refine lv_iload_n hx hb d_M_end_103 rfl (lv_at hl 1 rfl) ?_
    refine lv_imul hx hb d_M_end_104 ?_
    refine lv_iload hx hb d_M_end_105 (lv_at hl 5 rfl) ?_
    refine lv_iadd hx hb d_M_end_107 ?_
    refine lv_aload_n hx hb d_M_end_108 rfl (lv_at hl 0 rfl) ?_
    refine ug_R hx hb ht hown hM hK hP 143 (by decide) lk_M_143 (by decide) d_M_end_109 ?_
    refine lv_iload hx hb d_M_end_112 (lv_at hl 5 rfl) ?_
    obtain ⟨hi9, hf⟩ := ck_some hf
    refine ul_B hx hb hK hP (by decide) (by decide) hi9 d_M_end_114 ?_
    obtain ⟨hi9, hf⟩ := ck_some hf
    refine us_B hx hb hK hP hD hS (by decide) (by decide) hi9 d_M_end_115 (fun H locs hP hD hS => ?_)
    obtain ⟨w9, e9, hf⟩ := lt_some hf
    rw [← e9] at hP hD
    refine lv_iinc (v := (v6 + 1)) (lv' := [(6, .int (v6 + 1)), (0, .ref h0), (1, .int v1), (2, .int v2), (3, .int v3), (4, .long v4)]) hx hb d_M_end_116 hl (k := 5) rfl rfl (by decide) rfl (fun ls hl => ?_)
    refine lv_goto (tgt := 86) hx hb d_M_end_119 (by decide) ?_
    exact hG.1 _ _ _ _ _ _ _ hf H locs hP hD hS ls (lv_sub hl [1, 2, 3, 4, 5, 0] rfl)
def fb_M_end_82 (N : Nat) (G : (MS → Int32 → Int32 → Int32 → Int64 → Int32 → Option (MS × Unit)) × (MS → Int32 → Int32 → Int32 → Int64 → Option (MS × Unit)) × (MS → Int32 → Int32 → Int32 → Int64 → Int32 → Option (MS × Unit)) × (MS → Int32 → Int32 → Option (MS × Unit))) (u : MS) (v1 : Int32) (v2 : Int32) (v3 : Int32) (v4 : Int64) (t0 : Nat) (t1 : Int32) (t2 : Int32) : Option (MS × Unit) := ck (isK t0 4) (ck (inb t1 (ln t0)) (lt (upA u t0 (upd (u.2.2.1 t0) t1.toNatClampNeg t2)) (fun w10 => G.1 w10 (v1) (v2) (v3) (v4) (0))))
set_option maxRecDepth 100000 in
set_option maxHeartbeats 4000000 in
theorem wb_M_end_82 {p : Program} {l : Launch} {e : Env} {R : Room} {s : State} {m : MethodId} {args : Array Value} {below : List Frame} {meth : Method} {c : Code} {D : va_G} {cl : List vw_C} {cB cI cJ cZ cS : ClassId} {A : Nat → Prop} {iM h0 : Nat} {ad : Nat → Nat} (C0 : MCx p s m args meth c b_M_end 9 none D cl cB cI cJ cZ cS iM A) (hR : R = rm_M_end) (N : Nat) (G : (MS → Int32 → Int32 → Int32 → Int64 → Int32 → Option (MS × Unit)) × (MS → Int32 → Int32 → Int32 → Int64 → Option (MS × Unit)) × (MS → Int32 → Int32 → Int32 → Int64 → Int32 → Option (MS × Unit)) × (MS → Int32 → Int32 → Option (MS × Unit))) (hG : (∀ (u : MS) (v1 : Int32) (v2 : Int32) (v3 : Int32) (v4 : Int64) (v6 : Int32) (x : MS × Unit), G.1 u v1 v2 v3 v4 v6 = some x → ∀ (H : Heap) (locs : List Loc), va_P D cl (wM cB cI cJ cZ cS iM h0 ad u) H → va_D A (wM cB cI cJ cZ cS iM h0 ad u) → va_S A s.heap H locs → ∀ (ls : Array Slot), lv_has ls 9 [(0, .ref h0), (1, .int v1), (2, .int v2), (3, .int v3), (4, .long v4), (6, .int v6)] → W p l e R s m args below meth c H locs 0 0 (MQ below (mQv D cl cB cI cJ cZ cS iM h0 ad A x) args s 0 0 A) (F0 m 86 ls [])) ∧ (∀ (u : MS) (v1 : Int32) (v2 : Int32) (v3 : Int32) (v4 : Int64) (x : MS × Unit), G.2.1 u v1 v2 v3 v4 = some x → ∀ (H : Heap) (locs : List Loc), va_P D cl (wM cB cI cJ cZ cS iM h0 ad u) H → va_D A (wM cB cI cJ cZ cS iM h0 ad u) → va_S A s.heap H locs → ∀ (ls : Array Slot), lv_has ls 9 [(0, .ref h0), (1, .int v1), (2, .int v2), (3, .int v3), (4, .long v4)] → W p l e R s m args below meth c H locs 0 0 (MQ below (mQv D cl cB cI cJ cZ cS iM h0 ad A x) args s 0 0 A) (F0 m 129 ls [])) ∧ (∀ (u : MS) (v1 : Int32) (v2 : Int32) (v3 : Int32) (v4 : Int64) (v6 : Int32) (x : MS × Unit), G.2.2.1 u v1 v2 v3 v4 v6 = some x → ∀ (H : Heap) (locs : List Loc), va_P D cl (wM cB cI cJ cZ cS iM h0 ad u) H → va_D A (wM cB cI cJ cZ cS iM h0 ad u) → va_S A s.heap H locs → ∀ (ls : Array Slot), lv_has ls 9 [(0, .ref h0), (1, .int v1), (2, .int v2), (3, .int v3), (4, .long v4), (6, .int v6)] → W p l e R s m args below meth c H locs 0 0 (MQ below (mQv D cl cB cI cJ cZ cS iM h0 ad A x) args s 0 0 A) (F0 m 180 ls [])) ∧ (∀ (u : MS) (v1 : Int32) (v6 : Int32) (x : MS × Unit), G.2.2.2 u v1 v6 = some x → ∀ (H : Heap) (locs : List Loc), va_P D cl (wM cB cI cJ cZ cS iM h0 ad u) H → va_D A (wM cB cI cJ cZ cS iM h0 ad u) → va_S A s.heap H locs → ∀ (ls : Array Slot), lv_has ls 9 [(0, .ref h0), (1, .int v1), (6, .int v6)] → W p l e R s m args below meth c H locs 0 0 (MQ below (mQv D cl cB cI cJ cZ cS iM h0 ad A x) args s 0 0 A) (F0 m 250 ls []))) : ∀ (u : MS) (v1 : Int32) (v2 : Int32) (v3 : Int32) (v4 : Int64) (t0 : Nat) (t1 : Int32) (t2 : Int32) (x : MS × Unit), fb_M_end_82 N G u v1 v2 v3 v4 t0 t1 t2 = some x → ∀ (H : Heap) (locs : List Loc), va_P D cl (wM cB cI cJ cZ cS iM h0 ad u) H → va_D A (wM cB cI cJ cZ cS iM h0 ad u) → va_S A s.heap H locs → ∀ (ls : Array Slot), lv_has ls 9 [(0, .ref h0), (1, .int v1), (2, .int v2), (3, .int v3), (4, .long v4)] → W p l e R s m args below meth c H locs 0 0 (MQ below (mQv D cl cB cI cJ cZ cS iM h0 ad A x) args s 0 0 A) (F0 m 82 ls [.int t2, .int t1, .ref (ad t0)]) := by
  intro u v1 v2 v3 v4 t0 t1 t2 x hf H locs hP hD hS ls hl
  obtain ⟨hx, hb, hr, hml, ht, hown, hM, hK, hA, hlocks⟩ := id C0
  unfold fb_M_end_82 at hf
  obtain ⟨hk9, hf⟩ := ck_some hf
  obtain ⟨hi9, hf⟩ := ck_some hf
  refine us_I hx hb hK hP hD hS (isK_1 hk9) (isK_2 hk9) hi9 d_M_end_82 (fun H locs hP hD hS => ?_)
  obtain ⟨w10, e10, hf⟩ := lt_some hf
  rw [← e10] at hP hD
  refine lv_iconst (v := 0) hx hb d_M_end_83 (by decide) ?_
  refine lv_istore (lv' := [(6, .int 0), (0, .ref h0), (1, .int v1), (2, .int v2), (3, .int v3), (4, .long v4)]) hx hb d_M_end_84 hl (by decide) rfl (fun ls hl => ?_)
  exact hG.1 _ _ _ _ _ _ _ hf H locs hP hD hS ls (lv_sub hl [1, 2, 3, 4, 5, 0] rfl)
def fb_M_end_59 (N : Nat) (G : (MS → Int32 → Int32 → Int32 → Int64 → Int32 → Option (MS × Unit)) × (MS → Int32 → Int32 → Int32 → Int64 → Option (MS × Unit)) × (MS → Int32 → Int32 → Int32 → Int64 → Int32 → Option (MS × Unit)) × (MS → Int32 → Int32 → Option (MS × Unit))) (u : MS) (v1 : Int32) (v2 : Int32) (v3 : Int32) (v4 : Int64) : Option (MS × Unit) := br (decide ((u.1 144) ≤ 100)) (fb_M_end_82 N G u (v1) (v2) (v3) (v4) (132) (v1) ((u.1 144))) (fb_M_end_82 N G u (v1) (v2) (v3) (v4) (132) (v1) (100))
set_option maxRecDepth 100000 in
set_option maxHeartbeats 4000000 in
theorem wb_M_end_59 {p : Program} {l : Launch} {e : Env} {R : Room} {s : State} {m : MethodId} {args : Array Value} {below : List Frame} {meth : Method} {c : Code} {D : va_G} {cl : List vw_C} {cB cI cJ cZ cS : ClassId} {A : Nat → Prop} {iM h0 : Nat} {ad : Nat → Nat} (C0 : MCx p s m args meth c b_M_end 9 none D cl cB cI cJ cZ cS iM A) (hR : R = rm_M_end) (N : Nat) (G : (MS → Int32 → Int32 → Int32 → Int64 → Int32 → Option (MS × Unit)) × (MS → Int32 → Int32 → Int32 → Int64 → Option (MS × Unit)) × (MS → Int32 → Int32 → Int32 → Int64 → Int32 → Option (MS × Unit)) × (MS → Int32 → Int32 → Option (MS × Unit))) (hG : (∀ (u : MS) (v1 : Int32) (v2 : Int32) (v3 : Int32) (v4 : Int64) (v6 : Int32) (x : MS × Unit), G.1 u v1 v2 v3 v4 v6 = some x → ∀ (H : Heap) (locs : List Loc), va_P D cl (wM cB cI cJ cZ cS iM h0 ad u) H → va_D A (wM cB cI cJ cZ cS iM h0 ad u) → va_S A s.heap H locs → ∀ (ls : Array Slot), lv_has ls 9 [(0, .ref h0), (1, .int v1), (2, .int v2), (3, .int v3), (4, .long v4), (6, .int v6)] → W p l e R s m args below meth c H locs 0 0 (MQ below (mQv D cl cB cI cJ cZ cS iM h0 ad A x) args s 0 0 A) (F0 m 86 ls [])) ∧ (∀ (u : MS) (v1 : Int32) (v2 : Int32) (v3 : Int32) (v4 : Int64) (x : MS × Unit), G.2.1 u v1 v2 v3 v4 = some x → ∀ (H : Heap) (locs : List Loc), va_P D cl (wM cB cI cJ cZ cS iM h0 ad u) H → va_D A (wM cB cI cJ cZ cS iM h0 ad u) → va_S A s.heap H locs → ∀ (ls : Array Slot), lv_has ls 9 [(0, .ref h0), (1, .int v1), (2, .int v2), (3, .int v3), (4, .long v4)] → W p l e R s m args below meth c H locs 0 0 (MQ below (mQv D cl cB cI cJ cZ cS iM h0 ad A x) args s 0 0 A) (F0 m 129 ls [])) ∧ (∀ (u : MS) (v1 : Int32) (v2 : Int32) (v3 : Int32) (v4 : Int64) (v6 : Int32) (x : MS × Unit), G.2.2.1 u v1 v2 v3 v4 v6 = some x → ∀ (H : Heap) (locs : List Loc), va_P D cl (wM cB cI cJ cZ cS iM h0 ad u) H → va_D A (wM cB cI cJ cZ cS iM h0 ad u) → va_S A s.heap H locs → ∀ (ls : Array Slot), lv_has ls 9 [(0, .ref h0), (1, .int v1), (2, .int v2), (3, .int v3), (4, .long v4), (6, .int v6)] → W p l e R s m args below meth c H locs 0 0 (MQ below (mQv D cl cB cI cJ cZ cS iM h0 ad A x) args s 0 0 A) (F0 m 180 ls [])) ∧ (∀ (u : MS) (v1 : Int32) (v6 : Int32) (x : MS × Unit), G.2.2.2 u v1 v6 = some x → ∀ (H : Heap) (locs : List Loc), va_P D cl (wM cB cI cJ cZ cS iM h0 ad u) H → va_D A (wM cB cI cJ cZ cS iM h0 ad u) → va_S A s.heap H locs → ∀ (ls : Array Slot), lv_has ls 9 [(0, .ref h0), (1, .int v1), (6, .int v6)] → W p l e R s m args below meth c H locs 0 0 (MQ below (mQv D cl cB cI cJ cZ cS iM h0 ad A x) args s 0 0 A) (F0 m 250 ls []))) : ∀ (u : MS) (v1 : Int32) (v2 : Int32) (v3 : Int32) (v4 : Int64) (x : MS × Unit), fb_M_end_59 N G u v1 v2 v3 v4 = some x → ∀ (H : Heap) (locs : List Loc), va_P D cl (wM cB cI cJ cZ cS iM h0 ad u) H → va_D A (wM cB cI cJ cZ cS iM h0 ad u) → va_S A s.heap H locs → ∀ (ls : Array Slot), lv_has ls 9 [(0, .ref h0), (1, .int v1), (2, .int v2), (3, .int v3), (4, .long v4)] → W p l e R s m args below meth c H locs 0 0 (MQ below (mQv D cl cB cI cJ cZ cS iM h0 ad A x) args s 0 0 A) (F0 m 59 ls []) := by
  intro u v1 v2 v3 v4 x hf H locs hP hD hS ls hl
  obtain ⟨hx, hb, hr, hml, ht, hown, hM, hK, hA, hlocks⟩ := id C0
  unfold fb_M_end_59 at hf
  refine lv_aload_n hx hb d_M_end_59 rfl (lv_at hl 0 rfl) ?_
  refine ug_R hx hb ht hown hM hK hP 132 (by decide) lk_M_132 (by decide) d_M_end_60 ?_
  refine lv_iload_n hx hb d_M_end_63 rfl (lv_at hl 1 rfl) ?_
  refine lv_aload_n hx hb d_M_end_64 rfl (lv_at hl 0 rfl) ?_
  refine ug_I hx hb ht hown hM hK hP 144 (by decide) lk_M_144 (by decide) d_M_end_65 ?_
  refine lv_bipush (v := 100) hx hb d_M_end_68 (by decide) ?_
  refine lv_icmp_le (tgt := 78) hx hb d_M_end_70 (by decide) (fun hc => ?_) (fun hc => ?_)
  · rw [br_p _ hc] at hf
    refine lv_aload_n hx hb d_M_end_78 rfl (lv_at hl 0 rfl) ?_
    refine ug_I hx hb ht hown hM hK hP 144 (by decide) lk_M_144 (by decide) d_M_end_79 ?_
    exact wb_M_end_82 C0 hR N G hG _ _ _ _ _ _ _ _ _ hf H locs hP hD hS ls (lv_sub hl [0, 1, 2, 3, 4] rfl)
  · rw [br_n _ hc] at hf
    refine lv_bipush (v := 100) hx hb d_M_end_73 (by decide) ?_
    refine lv_goto (tgt := 82) hx hb d_M_end_75 (by decide) ?_
    exact wb_M_end_82 C0 hR N G hG _ _ _ _ _ _ _ _ _ hf H locs hP hD hS ls (lv_sub hl [0, 1, 2, 3, 4] rfl)
def fb_M_end_42 (N : Nat) (G : (MS → Int32 → Int32 → Int32 → Int64 → Int32 → Option (MS × Unit)) × (MS → Int32 → Int32 → Int32 → Int64 → Option (MS × Unit)) × (MS → Int32 → Int32 → Int32 → Int64 → Int32 → Option (MS × Unit)) × (MS → Int32 → Int32 → Option (MS × Unit))) (u : MS) (v1 : Int32) (v2 : Int32) (v3 : Int32) (v4 : Int64) : Option (MS × Unit) := bnd (fm_M_writeOn N u v3 v4) (fun u11 _ => br (decide (v2 ≤ 0)) (fb_M_end_59 N G u11 (v1) (v2) (v3) (v4)) (bnd (fm_M_sign N u11 125) (fun u12 _ => fb_M_end_59 N G u12 (v1) (v2) (v3) (v4))))
set_option maxRecDepth 100000 in
set_option maxHeartbeats 4000000 in
theorem wb_M_end_42 {p : Program} {l : Launch} {e : Env} {R : Room} {s : State} {m : MethodId} {args : Array Value} {below : List Frame} {meth : Method} {c : Code} {D : va_G} {cl : List vw_C} {cB cI cJ cZ cS : ClassId} {A : Nat → Prop} {iM h0 : Nat} {ad : Nat → Nat} (C0 : MCx p s m args meth c b_M_end 9 none D cl cB cI cJ cZ cS iM A) (hR : R = rm_M_end) (N : Nat) (G : (MS → Int32 → Int32 → Int32 → Int64 → Int32 → Option (MS × Unit)) × (MS → Int32 → Int32 → Int32 → Int64 → Option (MS × Unit)) × (MS → Int32 → Int32 → Int32 → Int64 → Int32 → Option (MS × Unit)) × (MS → Int32 → Int32 → Option (MS × Unit))) (hG : (∀ (u : MS) (v1 : Int32) (v2 : Int32) (v3 : Int32) (v4 : Int64) (v6 : Int32) (x : MS × Unit), G.1 u v1 v2 v3 v4 v6 = some x → ∀ (H : Heap) (locs : List Loc), va_P D cl (wM cB cI cJ cZ cS iM h0 ad u) H → va_D A (wM cB cI cJ cZ cS iM h0 ad u) → va_S A s.heap H locs → ∀ (ls : Array Slot), lv_has ls 9 [(0, .ref h0), (1, .int v1), (2, .int v2), (3, .int v3), (4, .long v4), (6, .int v6)] → W p l e R s m args below meth c H locs 0 0 (MQ below (mQv D cl cB cI cJ cZ cS iM h0 ad A x) args s 0 0 A) (F0 m 86 ls [])) ∧ (∀ (u : MS) (v1 : Int32) (v2 : Int32) (v3 : Int32) (v4 : Int64) (x : MS × Unit), G.2.1 u v1 v2 v3 v4 = some x → ∀ (H : Heap) (locs : List Loc), va_P D cl (wM cB cI cJ cZ cS iM h0 ad u) H → va_D A (wM cB cI cJ cZ cS iM h0 ad u) → va_S A s.heap H locs → ∀ (ls : Array Slot), lv_has ls 9 [(0, .ref h0), (1, .int v1), (2, .int v2), (3, .int v3), (4, .long v4)] → W p l e R s m args below meth c H locs 0 0 (MQ below (mQv D cl cB cI cJ cZ cS iM h0 ad A x) args s 0 0 A) (F0 m 129 ls [])) ∧ (∀ (u : MS) (v1 : Int32) (v2 : Int32) (v3 : Int32) (v4 : Int64) (v6 : Int32) (x : MS × Unit), G.2.2.1 u v1 v2 v3 v4 v6 = some x → ∀ (H : Heap) (locs : List Loc), va_P D cl (wM cB cI cJ cZ cS iM h0 ad u) H → va_D A (wM cB cI cJ cZ cS iM h0 ad u) → va_S A s.heap H locs → ∀ (ls : Array Slot), lv_has ls 9 [(0, .ref h0), (1, .int v1), (2, .int v2), (3, .int v3), (4, .long v4), (6, .int v6)] → W p l e R s m args below meth c H locs 0 0 (MQ below (mQv D cl cB cI cJ cZ cS iM h0 ad A x) args s 0 0 A) (F0 m 180 ls [])) ∧ (∀ (u : MS) (v1 : Int32) (v6 : Int32) (x : MS × Unit), G.2.2.2 u v1 v6 = some x → ∀ (H : Heap) (locs : List Loc), va_P D cl (wM cB cI cJ cZ cS iM h0 ad u) H → va_D A (wM cB cI cJ cZ cS iM h0 ad u) → va_S A s.heap H locs → ∀ (ls : Array Slot), lv_has ls 9 [(0, .ref h0), (1, .int v1), (6, .int v6)] → W p l e R s m args below meth c H locs 0 0 (MQ below (mQv D cl cB cI cJ cZ cS iM h0 ad A x) args s 0 0 A) (F0 m 250 ls []))) : ∀ (u : MS) (v1 : Int32) (v2 : Int32) (v3 : Int32) (v4 : Int64) (x : MS × Unit), fb_M_end_42 N G u v1 v2 v3 v4 = some x → ∀ (H : Heap) (locs : List Loc), va_P D cl (wM cB cI cJ cZ cS iM h0 ad u) H → va_D A (wM cB cI cJ cZ cS iM h0 ad u) → va_S A s.heap H locs → ∀ (ls : Array Slot), lv_has ls 9 [(0, .ref h0), (1, .int v1), (2, .int v2), (3, .int v3), (4, .long v4)] → W p l e R s m args below meth c H locs 0 0 (MQ below (mQv D cl cB cI cJ cZ cS iM h0 ad A x) args s 0 0 A) (F0 m 42 ls []) := by
  intro u v1 v2 v3 v4 x hf H locs hP hD hS ls hl
  obtain ⟨hx, hb, hr, hml, ht, hown, hM, hK, hA, hlocks⟩ := id C0
  unfold fb_M_end_42 at hf
  refine lv_aload_n hx hb d_M_end_42 rfl (lv_at hl 0 rfl) ?_
  refine lv_iload_n hx hb d_M_end_43 rfl (lv_at hl 3 rfl) ?_
  refine lv_lload hx hb d_M_end_44 (lv_at hl 4 rfl) ?_
  obtain ⟨u11, r11, hc11, hf⟩ := bnd_some hf
  refine mV_v (As := [.int v3, .long v4]) (rest := []) C0 hP hD hS (c_M_writeOn N hM hc11) k_M_writeOn hl_M_writeOn hi_M_writeOn hs_M_writeOn hini_M rfl rfl hd_M_writeOn rfl (rm_M_end_M_writeOn hR) hl.1 (Nat.le_of_ble_eq_true rfl) d_M_end_46 rfl ⟨Nat.zero_le _, Nat.zero_le _⟩ (fun H locs hP hD hS => ?_)
  refine lv_iload_n hx hb d_M_end_49 rfl (lv_at hl 2 rfl) ?_
  refine lv_if_le (tgt := 59) hx hb d_M_end_50 (by decide) (fun hc => ?_) (fun hc => ?_)
  · rw [br_p _ hc] at hf
    exact wb_M_end_59 C0 hR N G hG _ _ _ _ _ _ hf H locs hP hD hS ls (lv_sub hl [0, 1, 2, 3, 4] rfl)
  · rw [br_n _ hc] at hf
    refine lv_aload_n hx hb d_M_end_53 rfl (lv_at hl 0 rfl) ?_
    refine lv_bipush (v := 125) hx hb d_M_end_54 (by decide) ?_
    obtain ⟨u12, r12, hc12, hf⟩ := bnd_some hf
    refine mV_v (As := [.int 125]) (rest := []) C0 hP hD hS (c_M_sign N hM hc12) k_M_sign hl_M_sign hi_M_sign hs_M_sign hini_M rfl rfl hd_M_sign rfl (rm_M_end_M_sign hR) hl.1 (Nat.le_of_ble_eq_true rfl) d_M_end_56 rfl ⟨Nat.zero_le _, Nat.zero_le _⟩ (fun H locs hP hD hS => ?_)
    exact wb_M_end_59 C0 hR N G hG _ _ _ _ _ _ hf H locs hP hD hS ls (lv_sub hl [0, 1, 2, 3, 4] rfl)
def fb_M_end_30 (N : Nat) (G : (MS → Int32 → Int32 → Int32 → Int64 → Int32 → Option (MS × Unit)) × (MS → Int32 → Int32 → Int32 → Int64 → Option (MS × Unit)) × (MS → Int32 → Int32 → Int32 → Int64 → Int32 → Option (MS × Unit)) × (MS → Int32 → Int32 → Option (MS × Unit))) (u : MS) (v1 : Int32) (v2 : Int32) (v3 : Int32) (v4 : Int64) (t1 : Int32) (t2 : Int32) (t3 : Int32) : Option (MS × Unit) := bnd (fm_M_term N u t2 t3) (fun u13 r13 => bnd (fm_M_writeOn N u13 t1 r13) (fun u14 _ => bnd (fm_M_sign N u14 44) (fun u15 _ => fb_M_end_42 N G u15 (v1) (v2) (v3) (v4))))
set_option maxRecDepth 100000 in
set_option maxHeartbeats 4000000 in
theorem wb_M_end_30 {p : Program} {l : Launch} {e : Env} {R : Room} {s : State} {m : MethodId} {args : Array Value} {below : List Frame} {meth : Method} {c : Code} {D : va_G} {cl : List vw_C} {cB cI cJ cZ cS : ClassId} {A : Nat → Prop} {iM h0 : Nat} {ad : Nat → Nat} (C0 : MCx p s m args meth c b_M_end 9 none D cl cB cI cJ cZ cS iM A) (hR : R = rm_M_end) (N : Nat) (G : (MS → Int32 → Int32 → Int32 → Int64 → Int32 → Option (MS × Unit)) × (MS → Int32 → Int32 → Int32 → Int64 → Option (MS × Unit)) × (MS → Int32 → Int32 → Int32 → Int64 → Int32 → Option (MS × Unit)) × (MS → Int32 → Int32 → Option (MS × Unit))) (hG : (∀ (u : MS) (v1 : Int32) (v2 : Int32) (v3 : Int32) (v4 : Int64) (v6 : Int32) (x : MS × Unit), G.1 u v1 v2 v3 v4 v6 = some x → ∀ (H : Heap) (locs : List Loc), va_P D cl (wM cB cI cJ cZ cS iM h0 ad u) H → va_D A (wM cB cI cJ cZ cS iM h0 ad u) → va_S A s.heap H locs → ∀ (ls : Array Slot), lv_has ls 9 [(0, .ref h0), (1, .int v1), (2, .int v2), (3, .int v3), (4, .long v4), (6, .int v6)] → W p l e R s m args below meth c H locs 0 0 (MQ below (mQv D cl cB cI cJ cZ cS iM h0 ad A x) args s 0 0 A) (F0 m 86 ls [])) ∧ (∀ (u : MS) (v1 : Int32) (v2 : Int32) (v3 : Int32) (v4 : Int64) (x : MS × Unit), G.2.1 u v1 v2 v3 v4 = some x → ∀ (H : Heap) (locs : List Loc), va_P D cl (wM cB cI cJ cZ cS iM h0 ad u) H → va_D A (wM cB cI cJ cZ cS iM h0 ad u) → va_S A s.heap H locs → ∀ (ls : Array Slot), lv_has ls 9 [(0, .ref h0), (1, .int v1), (2, .int v2), (3, .int v3), (4, .long v4)] → W p l e R s m args below meth c H locs 0 0 (MQ below (mQv D cl cB cI cJ cZ cS iM h0 ad A x) args s 0 0 A) (F0 m 129 ls [])) ∧ (∀ (u : MS) (v1 : Int32) (v2 : Int32) (v3 : Int32) (v4 : Int64) (v6 : Int32) (x : MS × Unit), G.2.2.1 u v1 v2 v3 v4 v6 = some x → ∀ (H : Heap) (locs : List Loc), va_P D cl (wM cB cI cJ cZ cS iM h0 ad u) H → va_D A (wM cB cI cJ cZ cS iM h0 ad u) → va_S A s.heap H locs → ∀ (ls : Array Slot), lv_has ls 9 [(0, .ref h0), (1, .int v1), (2, .int v2), (3, .int v3), (4, .long v4), (6, .int v6)] → W p l e R s m args below meth c H locs 0 0 (MQ below (mQv D cl cB cI cJ cZ cS iM h0 ad A x) args s 0 0 A) (F0 m 180 ls [])) ∧ (∀ (u : MS) (v1 : Int32) (v6 : Int32) (x : MS × Unit), G.2.2.2 u v1 v6 = some x → ∀ (H : Heap) (locs : List Loc), va_P D cl (wM cB cI cJ cZ cS iM h0 ad u) H → va_D A (wM cB cI cJ cZ cS iM h0 ad u) → va_S A s.heap H locs → ∀ (ls : Array Slot), lv_has ls 9 [(0, .ref h0), (1, .int v1), (6, .int v6)] → W p l e R s m args below meth c H locs 0 0 (MQ below (mQv D cl cB cI cJ cZ cS iM h0 ad A x) args s 0 0 A) (F0 m 250 ls []))) : ∀ (u : MS) (v1 : Int32) (v2 : Int32) (v3 : Int32) (v4 : Int64) (t1 : Int32) (t2 : Int32) (t3 : Int32) (x : MS × Unit), fb_M_end_30 N G u v1 v2 v3 v4 t1 t2 t3 = some x → ∀ (H : Heap) (locs : List Loc), va_P D cl (wM cB cI cJ cZ cS iM h0 ad u) H → va_D A (wM cB cI cJ cZ cS iM h0 ad u) → va_S A s.heap H locs → ∀ (ls : Array Slot), lv_has ls 9 [(0, .ref h0), (1, .int v1), (2, .int v2), (3, .int v3), (4, .long v4)] → W p l e R s m args below meth c H locs 0 0 (MQ below (mQv D cl cB cI cJ cZ cS iM h0 ad A x) args s 0 0 A) (F0 m 30 ls [.int t3, .int t2, .int t1, .ref h0]) := by
  intro u v1 v2 v3 v4 t1 t2 t3 x hf H locs hP hD hS ls hl
  obtain ⟨hx, hb, hr, hml, ht, hown, hM, hK, hA, hlocks⟩ := id C0
  unfold fb_M_end_30 at hf
  obtain ⟨u13, r13, hc13, hf⟩ := bnd_some hf
  refine mS_l (As := [.int t2, .int t3]) (rest := [.int t1, .ref h0]) C0 hP hD hS (c_M_term N hM hc13) k_M_term hl_M_term ht_M_term hini_M rfl rfl hd_M_term rfl (rm_M_end_M_term hR) hl.1 (Nat.le_of_ble_eq_true rfl) d_M_end_30 rfl ⟨Nat.zero_le _, Nat.zero_le _⟩ (fun H locs hP hD hS => ?_)
  obtain ⟨u14, r14, hc14, hf⟩ := bnd_some hf
  refine mV_v (As := [.int t1, .long r13]) (rest := []) C0 hP hD hS (c_M_writeOn N hM hc14) k_M_writeOn hl_M_writeOn hi_M_writeOn hs_M_writeOn hini_M rfl rfl hd_M_writeOn rfl (rm_M_end_M_writeOn hR) hl.1 (Nat.le_of_ble_eq_true rfl) d_M_end_33 rfl ⟨Nat.zero_le _, Nat.zero_le _⟩ (fun H locs hP hD hS => ?_)
  refine lv_aload_n hx hb d_M_end_36 rfl (lv_at hl 0 rfl) ?_
  refine lv_bipush (v := 44) hx hb d_M_end_37 (by decide) ?_
  obtain ⟨u15, r15, hc15, hf⟩ := bnd_some hf
  refine mV_v (As := [.int 44]) (rest := []) C0 hP hD hS (c_M_sign N hM hc15) k_M_sign hl_M_sign hi_M_sign hs_M_sign hini_M rfl rfl hd_M_sign rfl (rm_M_end_M_sign hR) hl.1 (Nat.le_of_ble_eq_true rfl) d_M_end_39 rfl ⟨Nat.zero_le _, Nat.zero_le _⟩ (fun H locs hP hD hS => ?_)
  exact wb_M_end_42 C0 hR N G hG _ _ _ _ _ _ hf H locs hP hD hS ls (lv_sub hl [0, 1, 2, 3, 4] rfl)
def fb_M_end_0 (N : Nat) (G : (MS → Int32 → Int32 → Int32 → Int64 → Int32 → Option (MS × Unit)) × (MS → Int32 → Int32 → Int32 → Int64 → Option (MS × Unit)) × (MS → Int32 → Int32 → Int32 → Int64 → Int32 → Option (MS × Unit)) × (MS → Int32 → Int32 → Option (MS × Unit))) (u : MS) (v1 : Int32) (v2 : Int32) (v3 : Int32) (v4 : Int64) : Option (MS × Unit) := lt (upI u 144 0) (fun w16 => br (decide (v2 ≤ 0)) (fb_M_end_42 N G w16 (v1) (v2) (v3) (v4)) (bnd (fm_M_sign N w16 123) (fun u17 _ => br (decide (v2 = 1)) (fb_M_end_30 N G u17 (v1) (v2) (v3) (v4) (v1) (1) (7)) (fb_M_end_30 N G u17 (v1) (v2) (v3) (v4) (v1) (1) (19)))))
set_option maxRecDepth 100000 in
set_option maxHeartbeats 4000000 in
theorem wb_M_end_0 {p : Program} {l : Launch} {e : Env} {R : Room} {s : State} {m : MethodId} {args : Array Value} {below : List Frame} {meth : Method} {c : Code} {D : va_G} {cl : List vw_C} {cB cI cJ cZ cS : ClassId} {A : Nat → Prop} {iM h0 : Nat} {ad : Nat → Nat} (C0 : MCx p s m args meth c b_M_end 9 none D cl cB cI cJ cZ cS iM A) (hR : R = rm_M_end) (N : Nat) (G : (MS → Int32 → Int32 → Int32 → Int64 → Int32 → Option (MS × Unit)) × (MS → Int32 → Int32 → Int32 → Int64 → Option (MS × Unit)) × (MS → Int32 → Int32 → Int32 → Int64 → Int32 → Option (MS × Unit)) × (MS → Int32 → Int32 → Option (MS × Unit))) (hG : (∀ (u : MS) (v1 : Int32) (v2 : Int32) (v3 : Int32) (v4 : Int64) (v6 : Int32) (x : MS × Unit), G.1 u v1 v2 v3 v4 v6 = some x → ∀ (H : Heap) (locs : List Loc), va_P D cl (wM cB cI cJ cZ cS iM h0 ad u) H → va_D A (wM cB cI cJ cZ cS iM h0 ad u) → va_S A s.heap H locs → ∀ (ls : Array Slot), lv_has ls 9 [(0, .ref h0), (1, .int v1), (2, .int v2), (3, .int v3), (4, .long v4), (6, .int v6)] → W p l e R s m args below meth c H locs 0 0 (MQ below (mQv D cl cB cI cJ cZ cS iM h0 ad A x) args s 0 0 A) (F0 m 86 ls [])) ∧ (∀ (u : MS) (v1 : Int32) (v2 : Int32) (v3 : Int32) (v4 : Int64) (x : MS × Unit), G.2.1 u v1 v2 v3 v4 = some x → ∀ (H : Heap) (locs : List Loc), va_P D cl (wM cB cI cJ cZ cS iM h0 ad u) H → va_D A (wM cB cI cJ cZ cS iM h0 ad u) → va_S A s.heap H locs → ∀ (ls : Array Slot), lv_has ls 9 [(0, .ref h0), (1, .int v1), (2, .int v2), (3, .int v3), (4, .long v4)] → W p l e R s m args below meth c H locs 0 0 (MQ below (mQv D cl cB cI cJ cZ cS iM h0 ad A x) args s 0 0 A) (F0 m 129 ls [])) ∧ (∀ (u : MS) (v1 : Int32) (v2 : Int32) (v3 : Int32) (v4 : Int64) (v6 : Int32) (x : MS × Unit), G.2.2.1 u v1 v2 v3 v4 v6 = some x → ∀ (H : Heap) (locs : List Loc), va_P D cl (wM cB cI cJ cZ cS iM h0 ad u) H → va_D A (wM cB cI cJ cZ cS iM h0 ad u) → va_S A s.heap H locs → ∀ (ls : Array Slot), lv_has ls 9 [(0, .ref h0), (1, .int v1), (2, .int v2), (3, .int v3), (4, .long v4), (6, .int v6)] → W p l e R s m args below meth c H locs 0 0 (MQ below (mQv D cl cB cI cJ cZ cS iM h0 ad A x) args s 0 0 A) (F0 m 180 ls [])) ∧ (∀ (u : MS) (v1 : Int32) (v6 : Int32) (x : MS × Unit), G.2.2.2 u v1 v6 = some x → ∀ (H : Heap) (locs : List Loc), va_P D cl (wM cB cI cJ cZ cS iM h0 ad u) H → va_D A (wM cB cI cJ cZ cS iM h0 ad u) → va_S A s.heap H locs → ∀ (ls : Array Slot), lv_has ls 9 [(0, .ref h0), (1, .int v1), (6, .int v6)] → W p l e R s m args below meth c H locs 0 0 (MQ below (mQv D cl cB cI cJ cZ cS iM h0 ad A x) args s 0 0 A) (F0 m 250 ls []))) : ∀ (u : MS) (v1 : Int32) (v2 : Int32) (v3 : Int32) (v4 : Int64) (x : MS × Unit), fb_M_end_0 N G u v1 v2 v3 v4 = some x → ∀ (H : Heap) (locs : List Loc), va_P D cl (wM cB cI cJ cZ cS iM h0 ad u) H → va_D A (wM cB cI cJ cZ cS iM h0 ad u) → va_S A s.heap H locs → ∀ (ls : Array Slot), lv_has ls 9 [(0, .ref h0), (1, .int v1), (2, .int v2), (3, .int v3), (4, .long v4)] → W p l e R s m args below meth c H locs 0 0 (MQ below (mQv D cl cB cI cJ cZ cS iM h0 ad A x) args s 0 0 A) (F0 m 0 ls []) := by
  intro u v1 v2 v3 v4 x hf H locs hP hD hS ls hl
  obtain ⟨hx, hb, hr, hml, ht, hown, hM, hK, hA, hlocks⟩ := id C0
  unfold fb_M_end_0 at hf
  refine lv_aload_n hx hb d_M_end_0 rfl (lv_at hl 0 rfl) ?_
  refine lv_iconst (v := 0) hx hb d_M_end_1 (by decide) ?_
  refine up_I hx hb ht hown hM hK hP hD hS 144 (by decide) lk_M_144 (by decide) rfl rfl rfl d_M_end_2 (fun H locs hP hD hS => ?_)
  obtain ⟨w16, e16, hf⟩ := lt_some hf
  rw [← e16] at hP hD
  refine lv_iload_n hx hb d_M_end_5 rfl (lv_at hl 2 rfl) ?_
  refine lv_if_le (tgt := 42) hx hb d_M_end_6 (by decide) (fun hc => ?_) (fun hc => ?_)
  · rw [br_p _ hc] at hf
    exact wb_M_end_42 C0 hR N G hG _ _ _ _ _ _ hf H locs hP hD hS ls (lv_sub hl [0, 1, 2, 3, 4] rfl)
  · rw [br_n _ hc] at hf
    refine lv_aload_n hx hb d_M_end_9 rfl (lv_at hl 0 rfl) ?_
    refine lv_bipush (v := 123) hx hb d_M_end_10 (by decide) ?_
    obtain ⟨u17, r17, hc17, hf⟩ := bnd_some hf
    refine mV_v (As := [.int 123]) (rest := []) C0 hP hD hS (c_M_sign N hM hc17) k_M_sign hl_M_sign hi_M_sign hs_M_sign hini_M rfl rfl hd_M_sign rfl (rm_M_end_M_sign hR) hl.1 (Nat.le_of_ble_eq_true rfl) d_M_end_12 rfl ⟨Nat.zero_le _, Nat.zero_le _⟩ (fun H locs hP hD hS => ?_)
    refine lv_aload_n hx hb d_M_end_15 rfl (lv_at hl 0 rfl) ?_
    refine lv_iload_n hx hb d_M_end_16 rfl (lv_at hl 1 rfl) ?_
    refine lv_iconst (v := 1) hx hb d_M_end_17 (by decide) ?_
    refine lv_iload_n hx hb d_M_end_18 rfl (lv_at hl 2 rfl) ?_
    refine lv_iconst (v := 1) hx hb d_M_end_19 (by decide) ?_
    refine lv_icmp_ne (tgt := 28) hx hb d_M_end_20 (by decide) (fun hc => ?_) (fun hc => ?_)
    · rw [br_n _ hc] at hf
      refine lv_bipush (v := 19) hx hb d_M_end_28 (by decide) ?_
      exact wb_M_end_30 C0 hR N G hG _ _ _ _ _ _ _ _ _ hf H locs hP hD hS ls (lv_sub hl [0, 1, 2, 3, 4] rfl)
    · rw [br_p _ hc] at hf
      refine lv_bipush (v := 7) hx hb d_M_end_23 (by decide) ?_
      refine lv_goto (tgt := 30) hx hb d_M_end_25 (by decide) ?_
      exact wb_M_end_30 C0 hR N G hG _ _ _ _ _ _ _ _ _ hf H locs hP hD hS ls (lv_sub hl [0, 1, 2, 3, 4] rfl)
def gg_M_end (N : Nat) : Nat → ((MS → Int32 → Int32 → Int32 → Int64 → Int32 → Option (MS × Unit)) × (MS → Int32 → Int32 → Int32 → Int64 → Option (MS × Unit)) × (MS → Int32 → Int32 → Int32 → Int64 → Int32 → Option (MS × Unit)) × (MS → Int32 → Int32 → Option (MS × Unit)))
  | 0 => (fun _ _ _ _ _ _ => none, fun _ _ _ _ _ => none, fun _ _ _ _ _ _ => none, fun _ _ _ => none)
  | n + 1 => (fb_M_end_86 N (gg_M_end N n), fb_M_end_129 N (gg_M_end N n), fb_M_end_180 N (gg_M_end N n), fb_M_end_250 N (gg_M_end N n))
theorem wg_M_end {p : Program} {l : Launch} {e : Env} {R : Room} {s : State} {m : MethodId} {args : Array Value} {below : List Frame} {meth : Method} {c : Code} {D : va_G} {cl : List vw_C} {cB cI cJ cZ cS : ClassId} {A : Nat → Prop} {iM h0 : Nat} {ad : Nat → Nat} (C0 : MCx p s m args meth c b_M_end 9 none D cl cB cI cJ cZ cS iM A) (hR : R = rm_M_end) (N : Nat) : ∀ n : Nat, (∀ (u : MS) (v1 : Int32) (v2 : Int32) (v3 : Int32) (v4 : Int64) (v6 : Int32) (x : MS × Unit), (gg_M_end N n).1 u v1 v2 v3 v4 v6 = some x → ∀ (H : Heap) (locs : List Loc), va_P D cl (wM cB cI cJ cZ cS iM h0 ad u) H → va_D A (wM cB cI cJ cZ cS iM h0 ad u) → va_S A s.heap H locs → ∀ (ls : Array Slot), lv_has ls 9 [(0, .ref h0), (1, .int v1), (2, .int v2), (3, .int v3), (4, .long v4), (6, .int v6)] → W p l e R s m args below meth c H locs 0 0 (MQ below (mQv D cl cB cI cJ cZ cS iM h0 ad A x) args s 0 0 A) (F0 m 86 ls [])) ∧ (∀ (u : MS) (v1 : Int32) (v2 : Int32) (v3 : Int32) (v4 : Int64) (x : MS × Unit), (gg_M_end N n).2.1 u v1 v2 v3 v4 = some x → ∀ (H : Heap) (locs : List Loc), va_P D cl (wM cB cI cJ cZ cS iM h0 ad u) H → va_D A (wM cB cI cJ cZ cS iM h0 ad u) → va_S A s.heap H locs → ∀ (ls : Array Slot), lv_has ls 9 [(0, .ref h0), (1, .int v1), (2, .int v2), (3, .int v3), (4, .long v4)] → W p l e R s m args below meth c H locs 0 0 (MQ below (mQv D cl cB cI cJ cZ cS iM h0 ad A x) args s 0 0 A) (F0 m 129 ls [])) ∧ (∀ (u : MS) (v1 : Int32) (v2 : Int32) (v3 : Int32) (v4 : Int64) (v6 : Int32) (x : MS × Unit), (gg_M_end N n).2.2.1 u v1 v2 v3 v4 v6 = some x → ∀ (H : Heap) (locs : List Loc), va_P D cl (wM cB cI cJ cZ cS iM h0 ad u) H → va_D A (wM cB cI cJ cZ cS iM h0 ad u) → va_S A s.heap H locs → ∀ (ls : Array Slot), lv_has ls 9 [(0, .ref h0), (1, .int v1), (2, .int v2), (3, .int v3), (4, .long v4), (6, .int v6)] → W p l e R s m args below meth c H locs 0 0 (MQ below (mQv D cl cB cI cJ cZ cS iM h0 ad A x) args s 0 0 A) (F0 m 180 ls [])) ∧ (∀ (u : MS) (v1 : Int32) (v6 : Int32) (x : MS × Unit), (gg_M_end N n).2.2.2 u v1 v6 = some x → ∀ (H : Heap) (locs : List Loc), va_P D cl (wM cB cI cJ cZ cS iM h0 ad u) H → va_D A (wM cB cI cJ cZ cS iM h0 ad u) → va_S A s.heap H locs → ∀ (ls : Array Slot), lv_has ls 9 [(0, .ref h0), (1, .int v1), (6, .int v6)] → W p l e R s m args below meth c H locs 0 0 (MQ below (mQv D cl cB cI cJ cZ cS iM h0 ad A x) args s 0 0 A) (F0 m 250 ls []))
  | 0 => ⟨(fun u v1 v2 v3 v4 v6 x hf => by cases hf), (fun u v1 v2 v3 v4 x hf => by cases hf), (fun u v1 v2 v3 v4 v6 x hf => by cases hf), (fun u v1 v6 x hf => by cases hf)⟩
  | n + 1 => ⟨wb_M_end_86 C0 hR N (gg_M_end N n) (wg_M_end C0 hR N n), wb_M_end_129 C0 hR N (gg_M_end N n) (wg_M_end C0 hR N n), wb_M_end_180 C0 hR N (gg_M_end N n) (wg_M_end C0 hR N n), wb_M_end_250 C0 hR N (gg_M_end N n) (wg_M_end C0 hR N n)⟩
def fm_M_end (N : Nat) (u : MS) (v1 : Int32) (v2 : Int32) (v3 : Int32) (v4 : Int64) : Option (MS × Unit) := fb_M_end_0 N (gg_M_end N N) u v1 v2 v3 v4
set_option maxRecDepth 100000 in
set_option maxHeartbeats 4000000 in
theorem c_M_end (N : Nat) {l : Launch} {D : va_G} {cl : List vw_C} {cB cI cJ cZ cS : ClassId} {iM h0 : Nat} {ad : Nat → Nat} {u : MS} {sz : Nat} {v1 : Int32} {v2 : Int32} {v3 : Int32} {v4 : Int64} {x : MS × Unit} (hM : cl[iM]? = some (R_M, F_M, 171)) (hf : fm_M_end N u v1 v2 v3 v4 = some x) : Met l y_M_end (wd_ws y_M_end b_M_end 9 none) rm_M_end (mPc D cl cB cI cJ cZ cS iM h0 ad u sz [.ref h0, .int v1, .int v2, .int v3, .long v4]) (mQv D cl cB cI cJ cZ cS iM h0 ad (mA cB cI cJ cZ cS iM h0 ad u sz) x) 0 0 (mA cB cI cJ cZ cS iM h0 ad u sz) :=
  mMet (by decide) rfl hM (Nat.le_of_ble_eq_true rfl) (fun p e s m below meth c ls hsz C0 hP hD hS hl => by
    have hR : rm_M_end = rm_M_end := rfl
    exact wb_M_end_0 C0 hR N (gg_M_end N N) (wg_M_end C0 hR N N) u _ _ _ _ x hf s.heap [] hP hD hS ls (lv_sub hl [0, 1, 2, 3, 4] rfl))
abbrev b_M_allEnds : ByteArray := prog_14_method_103_code
def y_M_allEnds : MethodName := ⟨R_M, "allEnds", "()V"⟩
def w_M_allEnds : List Cond := wd_ws y_M_allEnds b_M_allEnds 2 none
set_option maxRecDepth 100000 in
theorem k_M_allEnds : Cond.code y_M_allEnds b_M_allEnds 2 none ∈ wd_tbl := wd_of 3237 rfl rfl
theorem d_M_allEnds_0 : decode b_M_allEnds 0 = .ok (.aload_n 0, 1) := by decide +kernel
theorem d_M_allEnds_1 : decode b_M_allEnds 1 = .ok (.getfield 743, 3) := by decide +kernel
theorem d_M_allEnds_4 : decode b_M_allEnds 4 = .ok (.aload_n 0, 1) := by decide +kernel
theorem d_M_allEnds_5 : decode b_M_allEnds 5 = .ok (.getfield 740, 3) := by decide +kernel
theorem d_M_allEnds_8 : decode b_M_allEnds 8 = .ok (.if_icmp .ge 49, 3) := by decide +kernel
theorem d_M_allEnds_11 : decode b_M_allEnds 11 = .ok (.aload_n 0, 1) := by decide +kernel
theorem d_M_allEnds_12 : decode b_M_allEnds 12 = .ok (.getfield 743, 3) := by decide +kernel
theorem d_M_allEnds_15 : decode b_M_allEnds 15 = .ok (.istore_n 1, 1) := by decide +kernel
theorem d_M_allEnds_16 : decode b_M_allEnds 16 = .ok (.aload_n 0, 1) := by decide +kernel
theorem d_M_allEnds_17 : decode b_M_allEnds 17 = .ok (.dup, 1) := by decide +kernel
theorem d_M_allEnds_18 : decode b_M_allEnds 18 = .ok (.getfield 743, 3) := by decide +kernel
theorem d_M_allEnds_21 : decode b_M_allEnds 21 = .ok (.iconst 1, 1) := by decide +kernel
theorem d_M_allEnds_22 : decode b_M_allEnds 22 = .ok (.iadd, 1) := by decide +kernel
theorem d_M_allEnds_23 : decode b_M_allEnds 23 = .ok (.putfield 743, 3) := by decide +kernel
theorem d_M_allEnds_26 : decode b_M_allEnds 26 = .ok (.aload_n 0, 1) := by decide +kernel
theorem d_M_allEnds_27 : decode b_M_allEnds 27 = .ok (.aload_n 0, 1) := by decide +kernel
theorem d_M_allEnds_28 : decode b_M_allEnds 28 = .ok (.getfield 336, 3) := by decide +kernel
theorem d_M_allEnds_31 : decode b_M_allEnds 31 = .ok (.iload_n 1, 1) := by decide +kernel
theorem d_M_allEnds_32 : decode b_M_allEnds 32 = .ok (.iaload, 1) := by decide +kernel
theorem d_M_allEnds_33 : decode b_M_allEnds 33 = .ok (.aload_n 0, 1) := by decide +kernel
theorem d_M_allEnds_34 : decode b_M_allEnds 34 = .ok (.getfield 339, 3) := by decide +kernel
theorem d_M_allEnds_37 : decode b_M_allEnds 37 = .ok (.iload_n 1, 1) := by decide +kernel
theorem d_M_allEnds_38 : decode b_M_allEnds 38 = .ok (.iaload, 1) := by decide +kernel
theorem d_M_allEnds_39 : decode b_M_allEnds 39 = .ok (.aload_n 0, 1) := by decide +kernel
theorem d_M_allEnds_40 : decode b_M_allEnds 40 = .ok (.getfield 342, 3) := by decide +kernel
theorem d_M_allEnds_43 : decode b_M_allEnds 43 = .ok (.iload_n 1, 1) := by decide +kernel
theorem d_M_allEnds_44 : decode b_M_allEnds 44 = .ok (.iaload, 1) := by decide +kernel
theorem d_M_allEnds_45 : decode b_M_allEnds 45 = .ok (.aload_n 0, 1) := by decide +kernel
theorem d_M_allEnds_46 : decode b_M_allEnds 46 = .ok (.getfield 345, 3) := by decide +kernel
theorem d_M_allEnds_49 : decode b_M_allEnds 49 = .ok (.iload_n 1, 1) := by decide +kernel
theorem d_M_allEnds_50 : decode b_M_allEnds 50 = .ok (.laload, 1) := by decide +kernel
theorem d_M_allEnds_51 : decode b_M_allEnds 51 = .ok (.invokevirtual 746, 3) := by decide +kernel
theorem d_M_allEnds_54 : decode b_M_allEnds 54 = .ok (.goto (-54), 3) := by decide +kernel
theorem d_M_allEnds_57 : decode b_M_allEnds 57 = .ok (.aload_n 0, 1) := by decide +kernel
theorem d_M_allEnds_58 : decode b_M_allEnds 58 = .ok (.iconst 0, 1) := by decide +kernel
theorem d_M_allEnds_59 : decode b_M_allEnds 59 = .ok (.putfield 743, 3) := by decide +kernel
theorem d_M_allEnds_62 : decode b_M_allEnds 62 = .ok (.aload_n 0, 1) := by decide +kernel
theorem d_M_allEnds_63 : decode b_M_allEnds 63 = .ok (.iconst 0, 1) := by decide +kernel
theorem d_M_allEnds_64 : decode b_M_allEnds 64 = .ok (.putfield 740, 3) := by decide +kernel
theorem d_M_allEnds_67 : decode b_M_allEnds 67 = .ok (.return_, 1) := by decide +kernel
set_option maxRecDepth 100000 in
theorem hl_M_allEnds : Cond.methodLink R_M 901 y_M_allEnds ∈ wd_tbl := wd_of 3234 (by decide +kernel) rfl
set_option maxRecDepth 100000 in
theorem hi_M_allEnds : Cond.instanceMethod y_M_allEnds ∈ wd_tbl := wd_of 3236 (by decide +kernel) rfl
set_option maxRecDepth 100000 in
theorem hs_M_allEnds : Cond.selects R_M y_M_allEnds y_M_allEnds ∈ wd_tbl := wd_of 263 (by decide +kernel) rfl
theorem hd_M_allEnds : y_M_allEnds.cls = R_M ∧ y_M_allEnds.cls ≠ "java/lang/invoke/MethodHandle" ∧ y_M_allEnds.cls ≠ "java/lang/invoke/VarHandle" ∧ (parseMethodDescriptor y_M_allEnds.desc).map (fun d => d.parameters.length) = some 0 := by decide +kernel
def rm_M_allEnds : Room := { frames := 8, cells := 0, slots := 0, locals := 214 }
theorem rm_M_allEnds_M_end {R : Room} (hR : R = rm_M_allEnds) : (rm_M_end).frames + 1 ≤ R.frames ∧ 8 + (9 + 11) + (rm_M_end).locals ≤ R.locals := by subst hR; decide
def fb_M_allEnds_0 (N : Nat) (G : (MS → Option (MS × Unit))) (u : MS) : Option (MS × Unit) := br (decide ((u.1 150) ≤ (u.1 149))) (lt (upI u 149 0) (fun w1 => lt (upI w1 150 0) (fun w2 => some (w2, ())))) (lt (upI u 149 ((u.1 149) + 1)) (fun w3 => ck (inb (u.1 149) (ln 145)) (ck (inb (u.1 149) (ln 146)) (ck (inb (u.1 149) (ln 147)) (ck (inb (u.1 149) (ln 148)) (bnd (fm_M_end N w3 (w3.2.2.1 145 (u.1 149).toNatClampNeg) (w3.2.2.1 146 (u.1 149).toNatClampNeg) (w3.2.2.1 147 (u.1 149).toNatClampNeg) (w3.2.2.2 148 (u.1 149).toNatClampNeg)) (fun u4 _ => G u4)))))))
set_option maxRecDepth 100000 in
set_option maxHeartbeats 4000000 in
theorem wb_M_allEnds_0 {p : Program} {l : Launch} {e : Env} {R : Room} {s : State} {m : MethodId} {args : Array Value} {below : List Frame} {meth : Method} {c : Code} {D : va_G} {cl : List vw_C} {cB cI cJ cZ cS : ClassId} {A : Nat → Prop} {iM h0 : Nat} {ad : Nat → Nat} (C0 : MCx p s m args meth c b_M_allEnds 2 none D cl cB cI cJ cZ cS iM A) (hR : R = rm_M_allEnds) (N : Nat) (G : (MS → Option (MS × Unit))) (hG : (∀ (u : MS) (x : MS × Unit), G u = some x → ∀ (H : Heap) (locs : List Loc), va_P D cl (wM cB cI cJ cZ cS iM h0 ad u) H → va_D A (wM cB cI cJ cZ cS iM h0 ad u) → va_S A s.heap H locs → ∀ (ls : Array Slot), lv_has ls 2 [(0, .ref h0)] → W p l e R s m args below meth c H locs 0 0 (MQ below (mQv D cl cB cI cJ cZ cS iM h0 ad A x) args s 0 0 A) (F0 m 0 ls []))) : ∀ (u : MS) (x : MS × Unit), fb_M_allEnds_0 N G u = some x → ∀ (H : Heap) (locs : List Loc), va_P D cl (wM cB cI cJ cZ cS iM h0 ad u) H → va_D A (wM cB cI cJ cZ cS iM h0 ad u) → va_S A s.heap H locs → ∀ (ls : Array Slot), lv_has ls 2 [(0, .ref h0)] → W p l e R s m args below meth c H locs 0 0 (MQ below (mQv D cl cB cI cJ cZ cS iM h0 ad A x) args s 0 0 A) (F0 m 0 ls []) := by
  intro u x hf H locs hP hD hS ls hl
  obtain ⟨hx, hb, hr, hml, ht, hown, hM, hK, hA, hlocks⟩ := id C0
  unfold fb_M_allEnds_0 at hf
  refine lv_aload_n hx hb d_M_allEnds_0 rfl (lv_at hl 0 rfl) ?_
  refine ug_I hx hb ht hown hM hK hP 149 (by decide) lk_M_149 (by decide) d_M_allEnds_1 ?_
  refine lv_aload_n hx hb d_M_allEnds_4 rfl (lv_at hl 0 rfl) ?_
  refine ug_I hx hb ht hown hM hK hP 150 (by decide) lk_M_150 (by decide) d_M_allEnds_5 ?_
  refine lv_icmp_ge (tgt := 57) hx hb d_M_allEnds_8 (by decide) (fun hc => ?_) (fun hc => ?_)
  · rw [br_p _ hc] at hf
    refine lv_aload_n hx hb d_M_allEnds_57 rfl (lv_at hl 0 rfl) ?_
    refine lv_iconst (v := 0) hx hb d_M_allEnds_58 (by decide) ?_
    refine up_I hx hb ht hown hM hK hP hD hS 149 (by decide) lk_M_149 (by decide) rfl rfl rfl d_M_allEnds_59 (fun H locs hP hD hS => ?_)
    obtain ⟨w1, e1, hf⟩ := lt_some hf
    rw [← e1] at hP hD
    refine lv_aload_n hx hb d_M_allEnds_62 rfl (lv_at hl 0 rfl) ?_
    refine lv_iconst (v := 0) hx hb d_M_allEnds_63 (by decide) ?_
    refine up_I hx hb ht hown hM hK hP hD hS 150 (by decide) lk_M_150 (by decide) rfl rfl rfl d_M_allEnds_64 (fun H locs hP hD hS => ?_)
    obtain ⟨w2, e2, hf⟩ := lt_some hf
    rw [← e2] at hP hD
    exact mr_v C0 hP hD hS hf d_M_allEnds_67
  · rw [br_n _ hc] at hf
    refine lv_aload_n hx hb d_M_allEnds_11 rfl (lv_at hl 0 rfl) ?_
    refine ug_I hx hb ht hown hM hK hP 149 (by decide) lk_M_149 (by decide) d_M_allEnds_12 ?_
    refine lv_istore_n (lv' := [(1, .int (u.1 149)), (0, .ref h0)]) hx hb d_M_allEnds_15 rfl hl (by decide) rfl (fun ls hl => ?_)
    refine lv_aload_n hx hb d_M_allEnds_16 rfl (lv_at hl 1 rfl) ?_
    refine lv_dup hx hb d_M_allEnds_17 rfl ?_
    refine ug_I hx hb ht hown hM hK hP 149 (by decide) lk_M_149 (by decide) d_M_allEnds_18 ?_
    refine lv_iconst (v := 1) hx hb d_M_allEnds_21 (by decide) ?_
    refine lv_iadd hx hb d_M_allEnds_22 ?_
    refine up_I hx hb ht hown hM hK hP hD hS 149 (by decide) lk_M_149 (by decide) rfl rfl rfl d_M_allEnds_23 (fun H locs hP hD hS => ?_)
    obtain ⟨w3, e3, hf⟩ := lt_some hf
    rw [← e3] at hP hD
    refine lv_aload_n hx hb d_M_allEnds_26 rfl (lv_at hl 1 rfl) ?_
    refine lv_aload_n hx hb d_M_allEnds_27 rfl (lv_at hl 1 rfl) ?_
    refine ug_R hx hb ht hown hM hK hP 145 (by decide) lk_M_145 (by decide) d_M_allEnds_28 ?_
    refine lv_iload_n hx hb d_M_allEnds_31 rfl (lv_at hl 0 rfl) ?_
    obtain ⟨hi9, hf⟩ := ck_some hf
    refine ul_I hx hb hK hP (by decide) (by decide) hi9 d_M_allEnds_32 ?_
    refine lv_aload_n hx hb d_M_allEnds_33 rfl (lv_at hl 1 rfl) ?_
    refine ug_R hx hb ht hown hM hK hP 146 (by decide) lk_M_146 (by decide) d_M_allEnds_34 ?_
    refine lv_iload_n hx hb d_M_allEnds_37 rfl (lv_at hl 0 rfl) ?_
    obtain ⟨hi9, hf⟩ := ck_some hf
    refine ul_I hx hb hK hP (by decide) (by decide) hi9 d_M_allEnds_38 ?_
    refine lv_aload_n hx hb d_M_allEnds_39 rfl (lv_at hl 1 rfl) ?_
    refine ug_R hx hb ht hown hM hK hP 147 (by decide) lk_M_147 (by decide) d_M_allEnds_40 ?_
    refine lv_iload_n hx hb d_M_allEnds_43 rfl (lv_at hl 0 rfl) ?_
    obtain ⟨hi9, hf⟩ := ck_some hf
    refine ul_I hx hb hK hP (by decide) (by decide) hi9 d_M_allEnds_44 ?_
    refine lv_aload_n hx hb d_M_allEnds_45 rfl (lv_at hl 1 rfl) ?_
    refine ug_R hx hb ht hown hM hK hP 148 (by decide) lk_M_148 (by decide) d_M_allEnds_46 ?_
    refine lv_iload_n hx hb d_M_allEnds_49 rfl (lv_at hl 0 rfl) ?_
    obtain ⟨hi9, hf⟩ := ck_some hf
    refine ul_J hx hb hK hP (by decide) (by decide) hi9 d_M_allEnds_50 ?_
    obtain ⟨u4, r4, hc4, hf⟩ := bnd_some hf
    refine mV_v (As := [.int (w3.2.2.1 145 (u.1 149).toNatClampNeg), .int (w3.2.2.1 146 (u.1 149).toNatClampNeg), .int (w3.2.2.1 147 (u.1 149).toNatClampNeg), .long (w3.2.2.2 148 (u.1 149).toNatClampNeg)]) (rest := []) C0 hP hD hS (c_M_end N hM hc4) k_M_end hl_M_end hi_M_end hs_M_end hini_M rfl rfl hd_M_end rfl (rm_M_allEnds_M_end hR) hl.1 (Nat.le_of_ble_eq_true rfl) d_M_allEnds_51 rfl ⟨Nat.zero_le _, Nat.zero_le _⟩ (fun H locs hP hD hS => ?_)
    refine lv_goto (tgt := 0) hx hb d_M_allEnds_54 (by decide) ?_
    exact hG _ _ hf H locs hP hD hS ls (lv_sub hl [1] rfl)
def gg_M_allEnds (N : Nat) : Nat → ((MS → Option (MS × Unit)))
  | 0 => fun _ => none
  | n + 1 => fb_M_allEnds_0 N (gg_M_allEnds N n)
theorem wg_M_allEnds {p : Program} {l : Launch} {e : Env} {R : Room} {s : State} {m : MethodId} {args : Array Value} {below : List Frame} {meth : Method} {c : Code} {D : va_G} {cl : List vw_C} {cB cI cJ cZ cS : ClassId} {A : Nat → Prop} {iM h0 : Nat} {ad : Nat → Nat} (C0 : MCx p s m args meth c b_M_allEnds 2 none D cl cB cI cJ cZ cS iM A) (hR : R = rm_M_allEnds) (N : Nat) : ∀ n : Nat, (∀ (u : MS) (x : MS × Unit), gg_M_allEnds N n u = some x → ∀ (H : Heap) (locs : List Loc), va_P D cl (wM cB cI cJ cZ cS iM h0 ad u) H → va_D A (wM cB cI cJ cZ cS iM h0 ad u) → va_S A s.heap H locs → ∀ (ls : Array Slot), lv_has ls 2 [(0, .ref h0)] → W p l e R s m args below meth c H locs 0 0 (MQ below (mQv D cl cB cI cJ cZ cS iM h0 ad A x) args s 0 0 A) (F0 m 0 ls []))
  | 0 => (fun u x hf => by cases hf)
  | n + 1 => wb_M_allEnds_0 C0 hR N (gg_M_allEnds N n) (wg_M_allEnds C0 hR N n)
def fm_M_allEnds (N : Nat) (u : MS) : Option (MS × Unit) := fb_M_allEnds_0 N (gg_M_allEnds N N) u
set_option maxRecDepth 100000 in
set_option maxHeartbeats 4000000 in
theorem c_M_allEnds (N : Nat) {l : Launch} {D : va_G} {cl : List vw_C} {cB cI cJ cZ cS : ClassId} {iM h0 : Nat} {ad : Nat → Nat} {u : MS} {sz : Nat} {x : MS × Unit} (hM : cl[iM]? = some (R_M, F_M, 171)) (hf : fm_M_allEnds N u = some x) : Met l y_M_allEnds (wd_ws y_M_allEnds b_M_allEnds 2 none) rm_M_allEnds (mPc D cl cB cI cJ cZ cS iM h0 ad u sz [.ref h0]) (mQv D cl cB cI cJ cZ cS iM h0 ad (mA cB cI cJ cZ cS iM h0 ad u sz) x) 0 0 (mA cB cI cJ cZ cS iM h0 ad u sz) :=
  mMet (by decide) rfl hM (Nat.le_of_ble_eq_true rfl) (fun p e s m below meth c ls hsz C0 hP hD hS hl => by
    have hR : rm_M_allEnds = rm_M_allEnds := rfl
    exact wb_M_allEnds_0 C0 hR N (gg_M_allEnds N N) (wg_M_allEnds C0 hR N N) u x hf s.heap [] hP hD hS ls (lv_sub hl [0] rfl))
abbrev b_M_ends : ByteArray := prog_14_method_109_code
def y_M_ends : MethodName := ⟨R_M, "ends", "(IJ)V"⟩
def w_M_ends : List Cond := wd_ws y_M_ends b_M_ends 4 none
set_option maxRecDepth 100000 in
theorem k_M_ends : Cond.code y_M_ends b_M_ends 4 none ∈ wd_tbl := wd_of 3002 rfl rfl
theorem d_M_ends_0 : decode b_M_ends 0 = .ok (.aload_n 0, 1) := by decide +kernel
theorem d_M_ends_1 : decode b_M_ends 1 = .ok (.aload_n 0, 1) := by decide +kernel
theorem d_M_ends_2 : decode b_M_ends 2 = .ok (.getfield 669, 3) := by decide +kernel
theorem d_M_ends_5 : decode b_M_ends 5 = .ok (.iload_n 1, 1) := by decide +kernel
theorem d_M_ends_6 : decode b_M_ends 6 = .ok (.aload_n 0, 1) := by decide +kernel
theorem d_M_ends_7 : decode b_M_ends 7 = .ok (.getfield 669, 3) := by decide +kernel
theorem d_M_ends_10 : decode b_M_ends 10 = .ok (.lload_n 2, 1) := by decide +kernel
theorem d_M_ends_11 : decode b_M_ends 11 = .ok (.invokevirtual 767, 3) := by decide +kernel
theorem d_M_ends_14 : decode b_M_ends 14 = .ok (.aload_n 0, 1) := by decide +kernel
theorem d_M_ends_15 : decode b_M_ends 15 = .ok (.iconst 1, 1) := by decide +kernel
theorem d_M_ends_16 : decode b_M_ends 16 = .ok (.putfield 789, 3) := by decide +kernel
theorem d_M_ends_19 : decode b_M_ends 19 = .ok (.return_, 1) := by decide +kernel
set_option maxRecDepth 100000 in
theorem hl_M_ends : Cond.methodLink R_M 792 y_M_ends ∈ wd_tbl := wd_of 2999 (by decide +kernel) rfl
set_option maxRecDepth 100000 in
theorem hi_M_ends : Cond.instanceMethod y_M_ends ∈ wd_tbl := wd_of 3001 (by decide +kernel) rfl
set_option maxRecDepth 100000 in
theorem hs_M_ends : Cond.selects R_M y_M_ends y_M_ends ∈ wd_tbl := wd_of 207 (by decide +kernel) rfl
theorem hd_M_ends : y_M_ends.cls = R_M ∧ y_M_ends.cls ≠ "java/lang/invoke/MethodHandle" ∧ y_M_ends.cls ≠ "java/lang/invoke/VarHandle" ∧ (parseMethodDescriptor y_M_ends.desc).map (fun d => d.parameters.length) = some 2 := by decide +kernel
def rm_M_ends : Room := { frames := 1, cells := 0, slots := 0, locals := 25 }
theorem rm_M_ends_M_willEnd {R : Room} (hR : R = rm_M_ends) : (rm_M_willEnd).frames + 1 ≤ R.frames ∧ 8 + (6 + 11) + (rm_M_willEnd).locals ≤ R.locals := by subst hR; decide
def fb_M_ends_0 (N : Nat) (G : Unit) (u : MS) (v1 : Int32) (v2 : Int64) : Option (MS × Unit) := bnd (fm_M_willEnd N u (u.1 133) v1 (u.1 133) v2) (fun u1 _ => lt (upI u1 151 1) (fun w2 => some (w2, ())))
set_option maxRecDepth 100000 in
set_option maxHeartbeats 4000000 in
theorem wb_M_ends_0 {p : Program} {l : Launch} {e : Env} {R : Room} {s : State} {m : MethodId} {args : Array Value} {below : List Frame} {meth : Method} {c : Code} {D : va_G} {cl : List vw_C} {cB cI cJ cZ cS : ClassId} {A : Nat → Prop} {iM h0 : Nat} {ad : Nat → Nat} (C0 : MCx p s m args meth c b_M_ends 4 none D cl cB cI cJ cZ cS iM A) (hR : R = rm_M_ends) (N : Nat) (G : Unit) (hG : True) : ∀ (u : MS) (v1 : Int32) (v2 : Int64) (x : MS × Unit), fb_M_ends_0 N G u v1 v2 = some x → ∀ (H : Heap) (locs : List Loc), va_P D cl (wM cB cI cJ cZ cS iM h0 ad u) H → va_D A (wM cB cI cJ cZ cS iM h0 ad u) → va_S A s.heap H locs → ∀ (ls : Array Slot), lv_has ls 4 [(0, .ref h0), (1, .int v1), (2, .long v2)] → W p l e R s m args below meth c H locs 0 0 (MQ below (mQv D cl cB cI cJ cZ cS iM h0 ad A x) args s 0 0 A) (F0 m 0 ls []) := by
  intro u v1 v2 x hf H locs hP hD hS ls hl
  obtain ⟨hx, hb, hr, hml, ht, hown, hM, hK, hA, hlocks⟩ := id C0
  unfold fb_M_ends_0 at hf
  refine lv_aload_n hx hb d_M_ends_0 rfl (lv_at hl 0 rfl) ?_
  refine lv_aload_n hx hb d_M_ends_1 rfl (lv_at hl 0 rfl) ?_
  refine ug_I hx hb ht hown hM hK hP 133 (by decide) lk_M_133 (by decide) d_M_ends_2 ?_
  refine lv_iload_n hx hb d_M_ends_5 rfl (lv_at hl 1 rfl) ?_
  refine lv_aload_n hx hb d_M_ends_6 rfl (lv_at hl 0 rfl) ?_
  refine ug_I hx hb ht hown hM hK hP 133 (by decide) lk_M_133 (by decide) d_M_ends_7 ?_
  refine lv_lload_n hx hb d_M_ends_10 rfl (lv_at hl 2 rfl) ?_
  obtain ⟨u1, r1, hc1, hf⟩ := bnd_some hf
  refine mV_v (As := [.int (u.1 133), .int v1, .int (u.1 133), .long v2]) (rest := []) C0 hP hD hS (c_M_willEnd N hM hc1) k_M_willEnd hl_M_willEnd hi_M_willEnd hs_M_willEnd hini_M rfl rfl hd_M_willEnd rfl (rm_M_ends_M_willEnd hR) hl.1 (Nat.le_of_ble_eq_true rfl) d_M_ends_11 rfl ⟨Nat.zero_le _, Nat.zero_le _⟩ (fun H locs hP hD hS => ?_)
  refine lv_aload_n hx hb d_M_ends_14 rfl (lv_at hl 0 rfl) ?_
  refine lv_iconst (v := 1) hx hb d_M_ends_15 (by decide) ?_
  refine up_I hx hb ht hown hM hK hP hD hS 151 (by decide) lk_M_151 (by decide) rfl rfl rfl d_M_ends_16 (fun H locs hP hD hS => ?_)
  obtain ⟨w2, e2, hf⟩ := lt_some hf
  rw [← e2] at hP hD
  exact mr_v C0 hP hD hS hf d_M_ends_19
def fm_M_ends (N : Nat) (u : MS) (v1 : Int32) (v2 : Int64) : Option (MS × Unit) := fb_M_ends_0 N () u v1 v2
set_option maxRecDepth 100000 in
set_option maxHeartbeats 4000000 in
theorem c_M_ends (N : Nat) {l : Launch} {D : va_G} {cl : List vw_C} {cB cI cJ cZ cS : ClassId} {iM h0 : Nat} {ad : Nat → Nat} {u : MS} {sz : Nat} {v1 : Int32} {v2 : Int64} {x : MS × Unit} (hM : cl[iM]? = some (R_M, F_M, 171)) (hf : fm_M_ends N u v1 v2 = some x) : Met l y_M_ends (wd_ws y_M_ends b_M_ends 4 none) rm_M_ends (mPc D cl cB cI cJ cZ cS iM h0 ad u sz [.ref h0, .int v1, .long v2]) (mQv D cl cB cI cJ cZ cS iM h0 ad (mA cB cI cJ cZ cS iM h0 ad u sz) x) 0 0 (mA cB cI cJ cZ cS iM h0 ad u sz) :=
  mMet (by decide) rfl hM (Nat.le_of_ble_eq_true rfl) (fun p e s m below meth c ls hsz C0 hP hD hS hl => by
    have hR : rm_M_ends = rm_M_ends := rfl
    exact wb_M_ends_0 C0 hR N () trivial u _ _ x hf s.heap [] hP hD hS ls (lv_sub hl [0, 1, 2] rfl))
abbrev b_M_noRoom : ByteArray := prog_14_method_110_code
def y_M_noRoom : MethodName := ⟨R_M, "noRoom", "()V"⟩
def w_M_noRoom : List Cond := wd_ws y_M_noRoom b_M_noRoom 1 none
set_option maxRecDepth 100000 in
theorem k_M_noRoom : Cond.code y_M_noRoom b_M_noRoom 1 none ∈ wd_tbl := wd_of 3014 rfl rfl
theorem d_M_noRoom_0 : decode b_M_noRoom 0 = .ok (.aload_n 0, 1) := by decide +kernel
theorem d_M_noRoom_1 : decode b_M_noRoom 1 = .ok (.iconst 0, 1) := by decide +kernel
theorem d_M_noRoom_2 : decode b_M_noRoom 2 = .ok (.iconst 1, 1) := by decide +kernel
theorem d_M_noRoom_3 : decode b_M_noRoom 3 = .ok (.bipush 20, 2) := by decide +kernel
theorem d_M_noRoom_5 : decode b_M_noRoom 5 = .ok (.invokestatic 315, 3) := by decide +kernel
theorem d_M_noRoom_8 : decode b_M_noRoom 8 = .ok (.invokevirtual 792, 3) := by decide +kernel
theorem d_M_noRoom_11 : decode b_M_noRoom 11 = .ok (.return_, 1) := by decide +kernel
set_option maxRecDepth 100000 in
theorem hl_M_noRoom : Cond.methodLink R_M 805 y_M_noRoom ∈ wd_tbl := wd_of 3011 (by decide +kernel) rfl
set_option maxRecDepth 100000 in
theorem hi_M_noRoom : Cond.instanceMethod y_M_noRoom ∈ wd_tbl := wd_of 3013 (by decide +kernel) rfl
set_option maxRecDepth 100000 in
theorem hs_M_noRoom : Cond.selects R_M y_M_noRoom y_M_noRoom ∈ wd_tbl := wd_of 210 (by decide +kernel) rfl
theorem hd_M_noRoom : y_M_noRoom.cls = R_M ∧ y_M_noRoom.cls ≠ "java/lang/invoke/MethodHandle" ∧ y_M_noRoom.cls ≠ "java/lang/invoke/VarHandle" ∧ (parseMethodDescriptor y_M_noRoom.desc).map (fun d => d.parameters.length) = some 0 := by decide +kernel
def rm_M_noRoom : Room := { frames := 2, cells := 0, slots := 0, locals := 48 }
theorem rm_M_noRoom_M_term {R : Room} (hR : R = rm_M_noRoom) : (rm_M_term).frames + 1 ≤ R.frames ∧ 8 + (2 + 11) + (rm_M_term).locals ≤ R.locals := by subst hR; decide
theorem rm_M_noRoom_M_ends {R : Room} (hR : R = rm_M_noRoom) : (rm_M_ends).frames + 1 ≤ R.frames ∧ 8 + (4 + 11) + (rm_M_ends).locals ≤ R.locals := by subst hR; decide
def fb_M_noRoom_0 (N : Nat) (G : Unit) (u : MS) : Option (MS × Unit) := bnd (fm_M_term N u 1 20) (fun u1 r1 => bnd (fm_M_ends N u1 0 r1) (fun u2 _ => some (u2, ())))
set_option maxRecDepth 100000 in
set_option maxHeartbeats 4000000 in
theorem wb_M_noRoom_0 {p : Program} {l : Launch} {e : Env} {R : Room} {s : State} {m : MethodId} {args : Array Value} {below : List Frame} {meth : Method} {c : Code} {D : va_G} {cl : List vw_C} {cB cI cJ cZ cS : ClassId} {A : Nat → Prop} {iM h0 : Nat} {ad : Nat → Nat} (C0 : MCx p s m args meth c b_M_noRoom 1 none D cl cB cI cJ cZ cS iM A) (hR : R = rm_M_noRoom) (N : Nat) (G : Unit) (hG : True) : ∀ (u : MS) (x : MS × Unit), fb_M_noRoom_0 N G u = some x → ∀ (H : Heap) (locs : List Loc), va_P D cl (wM cB cI cJ cZ cS iM h0 ad u) H → va_D A (wM cB cI cJ cZ cS iM h0 ad u) → va_S A s.heap H locs → ∀ (ls : Array Slot), lv_has ls 1 [(0, .ref h0)] → W p l e R s m args below meth c H locs 0 0 (MQ below (mQv D cl cB cI cJ cZ cS iM h0 ad A x) args s 0 0 A) (F0 m 0 ls []) := by
  intro u x hf H locs hP hD hS ls hl
  obtain ⟨hx, hb, hr, hml, ht, hown, hM, hK, hA, hlocks⟩ := id C0
  unfold fb_M_noRoom_0 at hf
  refine lv_aload_n hx hb d_M_noRoom_0 rfl (lv_at hl 0 rfl) ?_
  refine lv_iconst (v := 0) hx hb d_M_noRoom_1 (by decide) ?_
  refine lv_iconst (v := 1) hx hb d_M_noRoom_2 (by decide) ?_
  refine lv_bipush (v := 20) hx hb d_M_noRoom_3 (by decide) ?_
  obtain ⟨u1, r1, hc1, hf⟩ := bnd_some hf
  refine mS_l (As := [.int 1, .int 20]) (rest := [.int 0, .ref h0]) C0 hP hD hS (c_M_term N hM hc1) k_M_term hl_M_term ht_M_term hini_M rfl rfl hd_M_term rfl (rm_M_noRoom_M_term hR) hl.1 (Nat.le_of_ble_eq_true rfl) d_M_noRoom_5 rfl ⟨Nat.zero_le _, Nat.zero_le _⟩ (fun H locs hP hD hS => ?_)
  obtain ⟨u2, r2, hc2, hf⟩ := bnd_some hf
  refine mV_v (As := [.int 0, .long r1]) (rest := []) C0 hP hD hS (c_M_ends N hM hc2) k_M_ends hl_M_ends hi_M_ends hs_M_ends hini_M rfl rfl hd_M_ends rfl (rm_M_noRoom_M_ends hR) hl.1 (Nat.le_of_ble_eq_true rfl) d_M_noRoom_8 rfl ⟨Nat.zero_le _, Nat.zero_le _⟩ (fun H locs hP hD hS => ?_)
  exact mr_v C0 hP hD hS hf d_M_noRoom_11
def fm_M_noRoom (N : Nat) (u : MS) : Option (MS × Unit) := fb_M_noRoom_0 N () u
set_option maxRecDepth 100000 in
set_option maxHeartbeats 4000000 in
theorem c_M_noRoom (N : Nat) {l : Launch} {D : va_G} {cl : List vw_C} {cB cI cJ cZ cS : ClassId} {iM h0 : Nat} {ad : Nat → Nat} {u : MS} {sz : Nat} {x : MS × Unit} (hM : cl[iM]? = some (R_M, F_M, 171)) (hf : fm_M_noRoom N u = some x) : Met l y_M_noRoom (wd_ws y_M_noRoom b_M_noRoom 1 none) rm_M_noRoom (mPc D cl cB cI cJ cZ cS iM h0 ad u sz [.ref h0]) (mQv D cl cB cI cJ cZ cS iM h0 ad (mA cB cI cJ cZ cS iM h0 ad u sz) x) 0 0 (mA cB cI cJ cZ cS iM h0 ad u sz) :=
  mMet (by decide) rfl hM (Nat.le_of_ble_eq_true rfl) (fun p e s m below meth c ls hsz C0 hP hD hS hl => by
    have hR : rm_M_noRoom = rm_M_noRoom := rfl
    exact wb_M_noRoom_0 C0 hR N () trivial u x hf s.heap [] hP hD hS ls (lv_sub hl [0] rfl))
abbrev b_M_afterMessages : ByteArray := prog_14_method_130_code
def y_M_afterMessages : MethodName := ⟨R_M, "afterMessages", "()V"⟩
def w_M_afterMessages : List Cond := wd_ws y_M_afterMessages b_M_afterMessages 1 none
set_option maxRecDepth 100000 in
theorem k_M_afterMessages : Cond.code y_M_afterMessages b_M_afterMessages 1 none ∈ wd_tbl := wd_of 2931 rfl rfl
theorem d_M_afterMessages_0 : decode b_M_afterMessages 0 = .ok (.aload_n 0, 1) := by decide +kernel
theorem d_M_afterMessages_1 : decode b_M_afterMessages 1 = .ok (.getfield 261, 3) := by decide +kernel
theorem d_M_afterMessages_4 : decode b_M_afterMessages 4 = .ok (.aload_n 0, 1) := by decide +kernel
theorem d_M_afterMessages_5 : decode b_M_afterMessages 5 = .ok (.getfield 669, 3) := by decide +kernel
theorem d_M_afterMessages_8 : decode b_M_afterMessages 8 = .ok (.laload, 1) := by decide +kernel
theorem d_M_afterMessages_9 : decode b_M_afterMessages 9 = .ok (.lconst 0, 1) := by decide +kernel
theorem d_M_afterMessages_10 : decode b_M_afterMessages 10 = .ok (.lcmp, 1) := by decide +kernel
theorem d_M_afterMessages_11 : decode b_M_afterMessages 11 = .ok (.ifCond .lt 42, 3) := by decide +kernel
theorem d_M_afterMessages_14 : decode b_M_afterMessages 14 = .ok (.aload_n 0, 1) := by decide +kernel
theorem d_M_afterMessages_15 : decode b_M_afterMessages 15 = .ok (.getfield 904, 3) := by decide +kernel
theorem d_M_afterMessages_18 : decode b_M_afterMessages 18 = .ok (.i2l, 1) := by decide +kernel
theorem d_M_afterMessages_19 : decode b_M_afterMessages 19 = .ok (.aload_n 0, 1) := by decide +kernel
theorem d_M_afterMessages_20 : decode b_M_afterMessages 20 = .ok (.getfield 261, 3) := by decide +kernel
theorem d_M_afterMessages_23 : decode b_M_afterMessages 23 = .ok (.aload_n 0, 1) := by decide +kernel
theorem d_M_afterMessages_24 : decode b_M_afterMessages 24 = .ok (.getfield 669, 3) := by decide +kernel
theorem d_M_afterMessages_27 : decode b_M_afterMessages 27 = .ok (.laload, 1) := by decide +kernel
theorem d_M_afterMessages_28 : decode b_M_afterMessages 28 = .ok (.lcmp, 1) := by decide +kernel
theorem d_M_afterMessages_29 : decode b_M_afterMessages 29 = .ok (.ifCond .lt 24, 3) := by decide +kernel
theorem d_M_afterMessages_32 : decode b_M_afterMessages 32 = .ok (.aload_n 0, 1) := by decide +kernel
theorem d_M_afterMessages_33 : decode b_M_afterMessages 33 = .ok (.aload_n 0, 1) := by decide +kernel
theorem d_M_afterMessages_34 : decode b_M_afterMessages 34 = .ok (.getfield 66, 3) := by decide +kernel
theorem d_M_afterMessages_37 : decode b_M_afterMessages 37 = .ok (.aload_n 0, 1) := by decide +kernel
theorem d_M_afterMessages_38 : decode b_M_afterMessages 38 = .ok (.getfield 82, 3) := by decide +kernel
theorem d_M_afterMessages_41 : decode b_M_afterMessages 41 = .ok (.aload_n 0, 1) := by decide +kernel
theorem d_M_afterMessages_42 : decode b_M_afterMessages 42 = .ok (.getfield 907, 3) := by decide +kernel
theorem d_M_afterMessages_45 : decode b_M_afterMessages 45 = .ok (.iaload, 1) := by decide +kernel
theorem d_M_afterMessages_46 : decode b_M_afterMessages 46 = .ok (.iaload, 1) := by decide +kernel
theorem d_M_afterMessages_47 : decode b_M_afterMessages 47 = .ok (.invokevirtual 811, 3) := by decide +kernel
theorem d_M_afterMessages_50 : decode b_M_afterMessages 50 = .ok (.goto 21, 3) := by decide +kernel
theorem d_M_afterMessages_53 : decode b_M_afterMessages 53 = .ok (.aload_n 0, 1) := by decide +kernel
theorem d_M_afterMessages_54 : decode b_M_afterMessages 54 = .ok (.getfield 255, 3) := by decide +kernel
theorem d_M_afterMessages_57 : decode b_M_afterMessages 57 = .ok (.aload_n 0, 1) := by decide +kernel
theorem d_M_afterMessages_58 : decode b_M_afterMessages 58 = .ok (.getfield 669, 3) := by decide +kernel
theorem d_M_afterMessages_61 : decode b_M_afterMessages 61 = .ok (.iconst 1, 1) := by decide +kernel
theorem d_M_afterMessages_62 : decode b_M_afterMessages 62 = .ok (.iastore, 1) := by decide +kernel
theorem d_M_afterMessages_63 : decode b_M_afterMessages 63 = .ok (.aload_n 0, 1) := by decide +kernel
theorem d_M_afterMessages_64 : decode b_M_afterMessages 64 = .ok (.aload_n 0, 1) := by decide +kernel
theorem d_M_afterMessages_65 : decode b_M_afterMessages 65 = .ok (.getfield 907, 3) := by decide +kernel
theorem d_M_afterMessages_68 : decode b_M_afterMessages 68 = .ok (.invokevirtual 811, 3) := by decide +kernel
theorem d_M_afterMessages_71 : decode b_M_afterMessages 71 = .ok (.return_, 1) := by decide +kernel
set_option maxRecDepth 100000 in
theorem hl_M_afterMessages : Cond.methodLink R_M 855 y_M_afterMessages ∈ wd_tbl := wd_of 2928 (by decide +kernel) rfl
set_option maxRecDepth 100000 in
theorem hi_M_afterMessages : Cond.instanceMethod y_M_afterMessages ∈ wd_tbl := wd_of 2930 (by decide +kernel) rfl
set_option maxRecDepth 100000 in
theorem hs_M_afterMessages : Cond.selects R_M y_M_afterMessages y_M_afterMessages ∈ wd_tbl := wd_of 193 (by decide +kernel) rfl
theorem hd_M_afterMessages : y_M_afterMessages.cls = R_M ∧ y_M_afterMessages.cls ≠ "java/lang/invoke/MethodHandle" ∧ y_M_afterMessages.cls ≠ "java/lang/invoke/VarHandle" ∧ (parseMethodDescriptor y_M_afterMessages.desc).map (fun d => d.parameters.length) = some 0 := by decide +kernel
def rm_M_afterMessages : Room := { frames := 2, cells := 0, slots := 0, locals := 41 }
theorem rm_M_afterMessages_M_goTo {R : Room} (hR : R = rm_M_afterMessages) : (rm_M_goTo).frames + 1 ≤ R.frames ∧ 8 + (2 + 11) + (rm_M_goTo).locals ≤ R.locals := by subst hR; decide
def fb_M_afterMessages_71 (N : Nat) (G : Unit) (u : MS) : Option (MS × Unit) := some (u, ())
set_option maxRecDepth 100000 in
set_option maxHeartbeats 4000000 in
theorem wb_M_afterMessages_71 {p : Program} {l : Launch} {e : Env} {R : Room} {s : State} {m : MethodId} {args : Array Value} {below : List Frame} {meth : Method} {c : Code} {D : va_G} {cl : List vw_C} {cB cI cJ cZ cS : ClassId} {A : Nat → Prop} {iM h0 : Nat} {ad : Nat → Nat} (C0 : MCx p s m args meth c b_M_afterMessages 1 none D cl cB cI cJ cZ cS iM A) (hR : R = rm_M_afterMessages) (N : Nat) (G : Unit) (hG : True) : ∀ (u : MS) (x : MS × Unit), fb_M_afterMessages_71 N G u = some x → ∀ (H : Heap) (locs : List Loc), va_P D cl (wM cB cI cJ cZ cS iM h0 ad u) H → va_D A (wM cB cI cJ cZ cS iM h0 ad u) → va_S A s.heap H locs → ∀ (ls : Array Slot), lv_has ls 1 [] → W p l e R s m args below meth c H locs 0 0 (MQ below (mQv D cl cB cI cJ cZ cS iM h0 ad A x) args s 0 0 A) (F0 m 71 ls []) := by
  intro u x hf H locs hP hD hS ls hl
  obtain ⟨hx, hb, hr, hml, ht, hown, hM, hK, hA, hlocks⟩ := id C0
  unfold fb_M_afterMessages_71 at hf
  exact mr_v C0 hP hD hS hf d_M_afterMessages_71
def fb_M_afterMessages_53 (N : Nat) (G : Unit) (u : MS) : Option (MS × Unit) := ck (inb (u.1 133) (ln 109)) (lt (upA u 109 (upd (u.2.2.1 109) (u.1 133).toNatClampNeg 1)) (fun w1 => bnd (fm_M_goTo N w1 (w1.1 159)) (fun u2 _ => fb_M_afterMessages_71 N G u2)))
set_option maxRecDepth 100000 in
set_option maxHeartbeats 4000000 in
theorem wb_M_afterMessages_53 {p : Program} {l : Launch} {e : Env} {R : Room} {s : State} {m : MethodId} {args : Array Value} {below : List Frame} {meth : Method} {c : Code} {D : va_G} {cl : List vw_C} {cB cI cJ cZ cS : ClassId} {A : Nat → Prop} {iM h0 : Nat} {ad : Nat → Nat} (C0 : MCx p s m args meth c b_M_afterMessages 1 none D cl cB cI cJ cZ cS iM A) (hR : R = rm_M_afterMessages) (N : Nat) (G : Unit) (hG : True) : ∀ (u : MS) (x : MS × Unit), fb_M_afterMessages_53 N G u = some x → ∀ (H : Heap) (locs : List Loc), va_P D cl (wM cB cI cJ cZ cS iM h0 ad u) H → va_D A (wM cB cI cJ cZ cS iM h0 ad u) → va_S A s.heap H locs → ∀ (ls : Array Slot), lv_has ls 1 [(0, .ref h0)] → W p l e R s m args below meth c H locs 0 0 (MQ below (mQv D cl cB cI cJ cZ cS iM h0 ad A x) args s 0 0 A) (F0 m 53 ls []) := by
  intro u x hf H locs hP hD hS ls hl
  obtain ⟨hx, hb, hr, hml, ht, hown, hM, hK, hA, hlocks⟩ := id C0
  unfold fb_M_afterMessages_53 at hf
  refine lv_aload_n hx hb d_M_afterMessages_53 rfl (lv_at hl 0 rfl) ?_
  refine ug_R hx hb ht hown hM hK hP 109 (by decide) lk_M_109 (by decide) d_M_afterMessages_54 ?_
  refine lv_aload_n hx hb d_M_afterMessages_57 rfl (lv_at hl 0 rfl) ?_
  refine ug_I hx hb ht hown hM hK hP 133 (by decide) lk_M_133 (by decide) d_M_afterMessages_58 ?_
  refine lv_iconst (v := 1) hx hb d_M_afterMessages_61 (by decide) ?_
  obtain ⟨hi9, hf⟩ := ck_some hf
  refine us_I hx hb hK hP hD hS (by decide) (by decide) hi9 d_M_afterMessages_62 (fun H locs hP hD hS => ?_)
  obtain ⟨w1, e1, hf⟩ := lt_some hf
  rw [← e1] at hP hD
  refine lv_aload_n hx hb d_M_afterMessages_63 rfl (lv_at hl 0 rfl) ?_
  refine lv_aload_n hx hb d_M_afterMessages_64 rfl (lv_at hl 0 rfl) ?_
  refine ug_I hx hb ht hown hM hK hP 159 (by decide) lk_M_159 (by decide) d_M_afterMessages_65 ?_
  obtain ⟨u2, r2, hc2, hf⟩ := bnd_some hf
  refine mV_v (As := [.int (w1.1 159)]) (rest := []) C0 hP hD hS (c_M_goTo N hM hc2) k_M_goTo hl_M_goTo hi_M_goTo hs_M_goTo hini_M rfl rfl hd_M_goTo rfl (rm_M_afterMessages_M_goTo hR) hl.1 (Nat.le_of_ble_eq_true rfl) d_M_afterMessages_68 rfl ⟨Nat.zero_le _, Nat.zero_le _⟩ (fun H locs hP hD hS => ?_)
  exact wb_M_afterMessages_71 C0 hR N G hG _ _ hf H locs hP hD hS ls (lv_sub hl [] rfl)
def fb_M_afterMessages_0 (N : Nat) (G : Unit) (u : MS) : Option (MS × Unit) := ck (inb (u.1 133) (ln 111)) (br (decide ((lg_cmp (u.2.2.2 111 (u.1 133).toNatClampNeg) 0) < 0)) (fb_M_afterMessages_53 N G u) (ck (inb (u.1 133) (ln 111)) (br (decide ((lg_cmp ((u.1 120).toInt64) (u.2.2.2 111 (u.1 133).toNatClampNeg)) < 0)) (fb_M_afterMessages_53 N G u) (ck (inb (u.1 159) (ln 31)) (ck (inb (u.2.2.1 31 (u.1 159).toNatClampNeg) (ln 26)) (bnd (fm_M_goTo N u (u.2.2.1 26 (u.2.2.1 31 (u.1 159).toNatClampNeg).toNatClampNeg)) (fun u3 _ => fb_M_afterMessages_71 N G u3)))))))
set_option maxRecDepth 100000 in
set_option maxHeartbeats 4000000 in
theorem wb_M_afterMessages_0 {p : Program} {l : Launch} {e : Env} {R : Room} {s : State} {m : MethodId} {args : Array Value} {below : List Frame} {meth : Method} {c : Code} {D : va_G} {cl : List vw_C} {cB cI cJ cZ cS : ClassId} {A : Nat → Prop} {iM h0 : Nat} {ad : Nat → Nat} (C0 : MCx p s m args meth c b_M_afterMessages 1 none D cl cB cI cJ cZ cS iM A) (hR : R = rm_M_afterMessages) (N : Nat) (G : Unit) (hG : True) : ∀ (u : MS) (x : MS × Unit), fb_M_afterMessages_0 N G u = some x → ∀ (H : Heap) (locs : List Loc), va_P D cl (wM cB cI cJ cZ cS iM h0 ad u) H → va_D A (wM cB cI cJ cZ cS iM h0 ad u) → va_S A s.heap H locs → ∀ (ls : Array Slot), lv_has ls 1 [(0, .ref h0)] → W p l e R s m args below meth c H locs 0 0 (MQ below (mQv D cl cB cI cJ cZ cS iM h0 ad A x) args s 0 0 A) (F0 m 0 ls []) := by
  intro u x hf H locs hP hD hS ls hl
  obtain ⟨hx, hb, hr, hml, ht, hown, hM, hK, hA, hlocks⟩ := id C0
  unfold fb_M_afterMessages_0 at hf
  refine lv_aload_n hx hb d_M_afterMessages_0 rfl (lv_at hl 0 rfl) ?_
  refine ug_R hx hb ht hown hM hK hP 111 (by decide) lk_M_111 (by decide) d_M_afterMessages_1 ?_
  refine lv_aload_n hx hb d_M_afterMessages_4 rfl (lv_at hl 0 rfl) ?_
  refine ug_I hx hb ht hown hM hK hP 133 (by decide) lk_M_133 (by decide) d_M_afterMessages_5 ?_
  obtain ⟨hi9, hf⟩ := ck_some hf
  refine ul_J hx hb hK hP (by decide) (by decide) hi9 d_M_afterMessages_8 ?_
  refine lv_lconst (v := 0) hx hb d_M_afterMessages_9 (by decide) ?_
  refine W.lcmp hx hb d_M_afterMessages_10 ?_
  refine lv_if_lt (tgt := 53) hx hb d_M_afterMessages_11 (by decide) (fun hc => ?_) (fun hc => ?_)
  · rw [br_p _ hc] at hf
    exact wb_M_afterMessages_53 C0 hR N G hG _ _ hf H locs hP hD hS ls (lv_sub hl [0] rfl)
  · rw [br_n _ hc] at hf
    refine lv_aload_n hx hb d_M_afterMessages_14 rfl (lv_at hl 0 rfl) ?_
    refine ug_I hx hb ht hown hM hK hP 120 (by decide) lk_M_120 (by decide) d_M_afterMessages_15 ?_
    refine lv_i2l hx hb d_M_afterMessages_18 rfl ?_
    refine lv_aload_n hx hb d_M_afterMessages_19 rfl (lv_at hl 0 rfl) ?_
    refine ug_R hx hb ht hown hM hK hP 111 (by decide) lk_M_111 (by decide) d_M_afterMessages_20 ?_
    refine lv_aload_n hx hb d_M_afterMessages_23 rfl (lv_at hl 0 rfl) ?_
    refine ug_I hx hb ht hown hM hK hP 133 (by decide) lk_M_133 (by decide) d_M_afterMessages_24 ?_
    obtain ⟨hi9, hf⟩ := ck_some hf
    refine ul_J hx hb hK hP (by decide) (by decide) hi9 d_M_afterMessages_27 ?_
    refine W.lcmp hx hb d_M_afterMessages_28 ?_
    refine lv_if_lt (tgt := 53) hx hb d_M_afterMessages_29 (by decide) (fun hc => ?_) (fun hc => ?_)
    · rw [br_p _ hc] at hf
      exact wb_M_afterMessages_53 C0 hR N G hG _ _ hf H locs hP hD hS ls (lv_sub hl [0] rfl)
    · rw [br_n _ hc] at hf
      refine lv_aload_n hx hb d_M_afterMessages_32 rfl (lv_at hl 0 rfl) ?_
      refine lv_aload_n hx hb d_M_afterMessages_33 rfl (lv_at hl 0 rfl) ?_
      refine ug_R hx hb ht hown hM hK hP 26 (by decide) lk_M_26 (by decide) d_M_afterMessages_34 ?_
      refine lv_aload_n hx hb d_M_afterMessages_37 rfl (lv_at hl 0 rfl) ?_
      refine ug_R hx hb ht hown hM hK hP 31 (by decide) lk_M_31 (by decide) d_M_afterMessages_38 ?_
      refine lv_aload_n hx hb d_M_afterMessages_41 rfl (lv_at hl 0 rfl) ?_
      refine ug_I hx hb ht hown hM hK hP 159 (by decide) lk_M_159 (by decide) d_M_afterMessages_42 ?_
      obtain ⟨hi9, hf⟩ := ck_some hf
      refine ul_I hx hb hK hP (by decide) (by decide) hi9 d_M_afterMessages_45 ?_
      obtain ⟨hi9, hf⟩ := ck_some hf
      refine ul_I hx hb hK hP (by decide) (by decide) hi9 d_M_afterMessages_46 ?_
      obtain ⟨u3, r3, hc3, hf⟩ := bnd_some hf
      refine mV_v (As := [.int (u.2.2.1 26 (u.2.2.1 31 (u.1 159).toNatClampNeg).toNatClampNeg)]) (rest := []) C0 hP hD hS (c_M_goTo N hM hc3) k_M_goTo hl_M_goTo hi_M_goTo hs_M_goTo hini_M rfl rfl hd_M_goTo rfl (rm_M_afterMessages_M_goTo hR) hl.1 (Nat.le_of_ble_eq_true rfl) d_M_afterMessages_47 rfl ⟨Nat.zero_le _, Nat.zero_le _⟩ (fun H locs hP hD hS => ?_)
      refine lv_goto (tgt := 71) hx hb d_M_afterMessages_50 (by decide) ?_
      exact wb_M_afterMessages_71 C0 hR N G hG _ _ hf H locs hP hD hS ls (lv_sub hl [] rfl)
def fm_M_afterMessages (N : Nat) (u : MS) : Option (MS × Unit) := fb_M_afterMessages_0 N () u
set_option maxRecDepth 100000 in
set_option maxHeartbeats 4000000 in
theorem c_M_afterMessages (N : Nat) {l : Launch} {D : va_G} {cl : List vw_C} {cB cI cJ cZ cS : ClassId} {iM h0 : Nat} {ad : Nat → Nat} {u : MS} {sz : Nat} {x : MS × Unit} (hM : cl[iM]? = some (R_M, F_M, 171)) (hf : fm_M_afterMessages N u = some x) : Met l y_M_afterMessages (wd_ws y_M_afterMessages b_M_afterMessages 1 none) rm_M_afterMessages (mPc D cl cB cI cJ cZ cS iM h0 ad u sz [.ref h0]) (mQv D cl cB cI cJ cZ cS iM h0 ad (mA cB cI cJ cZ cS iM h0 ad u sz) x) 0 0 (mA cB cI cJ cZ cS iM h0 ad u sz) :=
  mMet (by decide) rfl hM (Nat.le_of_ble_eq_true rfl) (fun p e s m below meth c ls hsz C0 hP hD hS hl => by
    have hR : rm_M_afterMessages = rm_M_afterMessages := rfl
    exact wb_M_afterMessages_0 C0 hR N () trivial u x hf s.heap [] hP hD hS ls (lv_sub hl [0] rfl))
abbrev b_M_two : ByteArray := prog_14_method_112_code
def y_M_two : MethodName := ⟨R_M, "two", "(IJ)J"⟩
def w_M_two : List Cond := wd_ws y_M_two b_M_two 5 (some .long)
set_option maxRecDepth 100000 in
theorem k_M_two : Cond.code y_M_two b_M_two 5 (some .long) ∈ wd_tbl := wd_of 2993 rfl rfl
theorem d_M_two_0 : decode b_M_two 0 = .ok (.aload_n 0, 1) := by decide +kernel
theorem d_M_two_1 : decode b_M_two 1 = .ok (.getfield 669, 3) := by decide +kernel
theorem d_M_two_4 : decode b_M_two 4 = .ok (.sipush 500, 3) := by decide +kernel
theorem d_M_two_7 : decode b_M_two 7 = .ok (.imul, 1) := by decide +kernel
theorem d_M_two_8 : decode b_M_two 8 = .ok (.aload_n 0, 1) := by decide +kernel
theorem d_M_two_9 : decode b_M_two 9 = .ok (.getfield 192, 3) := by decide +kernel
theorem d_M_two_12 : decode b_M_two 12 = .ok (.aload_n 0, 1) := by decide +kernel
theorem d_M_two_13 : decode b_M_two 13 = .ok (.getfield 669, 3) := by decide +kernel
theorem d_M_two_16 : decode b_M_two 16 = .ok (.iaload, 1) := by decide +kernel
theorem d_M_two_17 : decode b_M_two 17 = .ok (.iadd, 1) := by decide +kernel
theorem d_M_two_18 : decode b_M_two 18 = .ok (.istore 4, 2) := by decide +kernel
theorem d_M_two_20 : decode b_M_two 20 = .ok (.aload_n 0, 1) := by decide +kernel
theorem d_M_two_21 : decode b_M_two 21 = .ok (.getfield 189, 3) := by decide +kernel
theorem d_M_two_24 : decode b_M_two 24 = .ok (.iload 4, 2) := by decide +kernel
theorem d_M_two_26 : decode b_M_two 26 = .ok (.ldc2_w 783, 3) := by decide +kernel
theorem d_M_two_29 : decode b_M_two 29 = .ok (.lastore, 1) := by decide +kernel
theorem d_M_two_30 : decode b_M_two 30 = .ok (.aload_n 0, 1) := by decide +kernel
theorem d_M_two_31 : decode b_M_two 31 = .ok (.getfield 189, 3) := by decide +kernel
theorem d_M_two_34 : decode b_M_two 34 = .ok (.iload 4, 2) := by decide +kernel
theorem d_M_two_36 : decode b_M_two 36 = .ok (.iconst 1, 1) := by decide +kernel
theorem d_M_two_37 : decode b_M_two 37 = .ok (.iadd, 1) := by decide +kernel
theorem d_M_two_38 : decode b_M_two 38 = .ok (.iconst 1, 1) := by decide +kernel
theorem d_M_two_39 : decode b_M_two 39 = .ok (.iload_n 1, 1) := by decide +kernel
theorem d_M_two_40 : decode b_M_two 40 = .ok (.invokestatic 315, 3) := by decide +kernel
theorem d_M_two_43 : decode b_M_two 43 = .ok (.lastore, 1) := by decide +kernel
theorem d_M_two_44 : decode b_M_two 44 = .ok (.aload_n 0, 1) := by decide +kernel
theorem d_M_two_45 : decode b_M_two 45 = .ok (.getfield 189, 3) := by decide +kernel
theorem d_M_two_48 : decode b_M_two 48 = .ok (.iload 4, 2) := by decide +kernel
theorem d_M_two_50 : decode b_M_two 50 = .ok (.iconst 2, 1) := by decide +kernel
theorem d_M_two_51 : decode b_M_two 51 = .ok (.iadd, 1) := by decide +kernel
theorem d_M_two_52 : decode b_M_two 52 = .ok (.lload_n 2, 1) := by decide +kernel
theorem d_M_two_53 : decode b_M_two 53 = .ok (.lastore, 1) := by decide +kernel
theorem d_M_two_54 : decode b_M_two 54 = .ok (.aload_n 0, 1) := by decide +kernel
theorem d_M_two_55 : decode b_M_two 55 = .ok (.getfield 192, 3) := by decide +kernel
theorem d_M_two_58 : decode b_M_two 58 = .ok (.aload_n 0, 1) := by decide +kernel
theorem d_M_two_59 : decode b_M_two 59 = .ok (.getfield 669, 3) := by decide +kernel
theorem d_M_two_62 : decode b_M_two 62 = .ok (.dup2, 1) := by decide +kernel
theorem d_M_two_63 : decode b_M_two 63 = .ok (.iaload, 1) := by decide +kernel
theorem d_M_two_64 : decode b_M_two 64 = .ok (.iconst 3, 1) := by decide +kernel
theorem d_M_two_65 : decode b_M_two 65 = .ok (.iadd, 1) := by decide +kernel
theorem d_M_two_66 : decode b_M_two 66 = .ok (.iastore, 1) := by decide +kernel
theorem d_M_two_67 : decode b_M_two 67 = .ok (.iconst 5, 1) := by decide +kernel
theorem d_M_two_68 : decode b_M_two 68 = .ok (.aload_n 0, 1) := by decide +kernel
theorem d_M_two_69 : decode b_M_two 69 = .ok (.getfield 192, 3) := by decide +kernel
theorem d_M_two_72 : decode b_M_two 72 = .ok (.aload_n 0, 1) := by decide +kernel
theorem d_M_two_73 : decode b_M_two 73 = .ok (.getfield 669, 3) := by decide +kernel
theorem d_M_two_76 : decode b_M_two 76 = .ok (.iaload, 1) := by decide +kernel
theorem d_M_two_77 : decode b_M_two 77 = .ok (.iconst 3, 1) := by decide +kernel
theorem d_M_two_78 : decode b_M_two 78 = .ok (.isub, 1) := by decide +kernel
theorem d_M_two_79 : decode b_M_two 79 = .ok (.invokestatic 315, 3) := by decide +kernel
theorem d_M_two_82 : decode b_M_two 82 = .ok (.lreturn, 1) := by decide +kernel
set_option maxRecDepth 100000 in
theorem hl_M_two : Cond.methodLink R_M 808 y_M_two ∈ wd_tbl := wd_of 2990 (by decide +kernel) rfl
set_option maxRecDepth 100000 in
theorem hi_M_two : Cond.instanceMethod y_M_two ∈ wd_tbl := wd_of 2992 (by decide +kernel) rfl
set_option maxRecDepth 100000 in
theorem hs_M_two : Cond.selects R_M y_M_two y_M_two ∈ wd_tbl := wd_of 205 (by decide +kernel) rfl
theorem hd_M_two : y_M_two.cls = R_M ∧ y_M_two.cls ≠ "java/lang/invoke/MethodHandle" ∧ y_M_two.cls ≠ "java/lang/invoke/VarHandle" ∧ (parseMethodDescriptor y_M_two.desc).map (fun d => d.parameters.length) = some 2 := by decide +kernel
def rm_M_two : Room := { frames := 1, cells := 0, slots := 0, locals := 21 }
theorem rm_M_two_M_term {R : Room} (hR : R = rm_M_two) : (rm_M_term).frames + 1 ≤ R.frames ∧ 8 + (2 + 11) + (rm_M_term).locals ≤ R.locals := by subst hR; decide
def fb_M_two_0 (N : Nat) (G : Unit) (u : MS) (v1 : Int32) (v2 : Int64) : Option (MS × Int64) := ck (inb (u.1 133) (ln 89)) (lt (((u.1 133) * 500) + (u.2.2.1 89 (u.1 133).toNatClampNeg)) (fun y1 => ck (inb y1 (ln 88)) (lt (upJ u 88 (vp_updL (u.2.2.2 88) y1.toNatClampNeg 2)) (fun w2 => bnd (fm_M_term N w2 1 v1) (fun u3 r3 => ck (inb (y1 + 1) (ln 88)) (lt (upJ u3 88 (vp_updL (u3.2.2.2 88) (y1 + 1).toNatClampNeg r3)) (fun w4 => ck (inb (y1 + 2) (ln 88)) (lt (upJ w4 88 (vp_updL (w4.2.2.2 88) (y1 + 2).toNatClampNeg v2)) (fun w5 => ck (inb (w5.1 133) (ln 89)) (ck (inb (w5.1 133) (ln 89)) (lt (upA w5 89 (upd (w5.2.2.1 89) (w5.1 133).toNatClampNeg ((w5.2.2.1 89 (w5.1 133).toNatClampNeg) + 3))) (fun w6 => ck (inb (w6.1 133) (ln 89)) (bnd (fm_M_term N w6 5 ((w6.2.2.1 89 (w6.1 133).toNatClampNeg) - 3)) (fun u7 r7 => some (u7, r7)))))))))))))))
set_option maxRecDepth 100000 in
set_option maxHeartbeats 4000000 in
theorem wb_M_two_0 {p : Program} {l : Launch} {e : Env} {R : Room} {s : State} {m : MethodId} {args : Array Value} {below : List Frame} {meth : Method} {c : Code} {D : va_G} {cl : List vw_C} {cB cI cJ cZ cS : ClassId} {A : Nat → Prop} {iM h0 : Nat} {ad : Nat → Nat} (C0 : MCx p s m args meth c b_M_two 5 (some .long) D cl cB cI cJ cZ cS iM A) (hR : R = rm_M_two) (N : Nat) (G : Unit) (hG : True) : ∀ (u : MS) (v1 : Int32) (v2 : Int64) (x : MS × Int64), fb_M_two_0 N G u v1 v2 = some x → ∀ (H : Heap) (locs : List Loc), va_P D cl (wM cB cI cJ cZ cS iM h0 ad u) H → va_D A (wM cB cI cJ cZ cS iM h0 ad u) → va_S A s.heap H locs → ∀ (ls : Array Slot), lv_has ls 5 [(0, .ref h0), (1, .int v1), (2, .long v2)] → W p l e R s m args below meth c H locs 0 0 (MQ below (mQl D cl cB cI cJ cZ cS iM h0 ad A x) args s 0 0 A) (F0 m 0 ls []) := by
  intro u v1 v2 x hf H locs hP hD hS ls hl
  obtain ⟨hx, hb, hr, hml, ht, hown, hM, hK, hA, hlocks⟩ := id C0
  unfold fb_M_two_0 at hf
  refine lv_aload_n hx hb d_M_two_0 rfl (lv_at hl 0 rfl) ?_
  refine ug_I hx hb ht hown hM hK hP 133 (by decide) lk_M_133 (by decide) d_M_two_1 ?_
  refine lv_sipush (v := 500) hx hb d_M_two_4 (by decide) ?_
  refine lv_imul hx hb d_M_two_7 ?_
  refine lv_aload_n hx hb d_M_two_8 rfl (lv_at hl 0 rfl) ?_
  refine ug_R hx hb ht hown hM hK hP 89 (by decide) lk_M_89 (by decide) d_M_two_9 ?_
  refine lv_aload_n hx hb d_M_two_12 rfl (lv_at hl 0 rfl) ?_
  refine ug_I hx hb ht hown hM hK hP 133 (by decide) lk_M_133 (by decide) d_M_two_13 ?_
  obtain ⟨hi9, hf⟩ := ck_some hf
  refine ul_I hx hb hK hP (by decide) (by decide) hi9 d_M_two_16 ?_
  refine lv_iadd hx hb d_M_two_17 ?_
  obtain ⟨y1, e1, hf⟩ := lt_some hf
  rw [← e1]
  refine lv_istore (lv' := [(4, .int y1), (0, .ref h0), (1, .int v1), (2, .long v2)]) hx hb d_M_two_18 hl (by decide) rfl (fun ls hl => ?_)
  refine lv_aload_n hx hb d_M_two_20 rfl (lv_at hl 1 rfl) ?_
  refine ug_R hx hb ht hown hM hK hP 88 (by decide) lk_M_88 (by decide) d_M_two_21 ?_
  refine lv_iload hx hb d_M_two_24 (lv_at hl 0 rfl) ?_
  refine lv_ldc2 (v := 2) hx hb hown (ht _ (wd_of 2994 (by decide +kernel) rfl)) d_M_two_26 ?_
  obtain ⟨hi9, hf⟩ := ck_some hf
  refine us_J hx hb hK hP hD hS (by decide) (by decide) hi9 d_M_two_29 (fun H locs hP hD hS => ?_)
  obtain ⟨w2, e2, hf⟩ := lt_some hf
  rw [← e2] at hP hD
  refine lv_aload_n hx hb d_M_two_30 rfl (lv_at hl 1 rfl) ?_
  refine ug_R hx hb ht hown hM hK hP 88 (by decide) lk_M_88 (by decide) d_M_two_31 ?_
  refine lv_iload hx hb d_M_two_34 (lv_at hl 0 rfl) ?_
  refine lv_iconst (v := 1) hx hb d_M_two_36 (by decide) ?_
  refine lv_iadd hx hb d_M_two_37 ?_
  refine lv_iconst (v := 1) hx hb d_M_two_38 (by decide) ?_
  refine lv_iload_n hx hb d_M_two_39 rfl (lv_at hl 2 rfl) ?_
  obtain ⟨u3, r3, hc3, hf⟩ := bnd_some hf
  refine mS_l (As := [.int 1, .int v1]) (rest := [.int (y1 + 1), .ref (ad 88)]) C0 hP hD hS (c_M_term N hM hc3) k_M_term hl_M_term ht_M_term hini_M rfl rfl hd_M_term rfl (rm_M_two_M_term hR) hl.1 (Nat.le_of_ble_eq_true rfl) d_M_two_40 rfl ⟨Nat.zero_le _, Nat.zero_le _⟩ (fun H locs hP hD hS => ?_)
  obtain ⟨hi9, hf⟩ := ck_some hf
  refine us_J hx hb hK hP hD hS (by decide) (by decide) hi9 d_M_two_43 (fun H locs hP hD hS => ?_)
  obtain ⟨w4, e4, hf⟩ := lt_some hf
  rw [← e4] at hP hD
  refine lv_aload_n hx hb d_M_two_44 rfl (lv_at hl 1 rfl) ?_
  refine ug_R hx hb ht hown hM hK hP 88 (by decide) lk_M_88 (by decide) d_M_two_45 ?_
  refine lv_iload hx hb d_M_two_48 (lv_at hl 0 rfl) ?_
  refine lv_iconst (v := 2) hx hb d_M_two_50 (by decide) ?_
  refine lv_iadd hx hb d_M_two_51 ?_
  refine lv_lload_n hx hb d_M_two_52 rfl (lv_at hl 3 rfl) ?_
  obtain ⟨hi9, hf⟩ := ck_some hf
  refine us_J hx hb hK hP hD hS (by decide) (by decide) hi9 d_M_two_53 (fun H locs hP hD hS => ?_)
  obtain ⟨w5, e5, hf⟩ := lt_some hf
  rw [← e5] at hP hD
  refine lv_aload_n hx hb d_M_two_54 rfl (lv_at hl 1 rfl) ?_
  refine ug_R hx hb ht hown hM hK hP 89 (by decide) lk_M_89 (by decide) d_M_two_55 ?_
  refine lv_aload_n hx hb d_M_two_58 rfl (lv_at hl 1 rfl) ?_
  refine ug_I hx hb ht hown hM hK hP 133 (by decide) lk_M_133 (by decide) d_M_two_59 ?_
  refine lv_dup2_11 hx hb d_M_two_62 rfl rfl ?_
  obtain ⟨hi9, hf⟩ := ck_some hf
  refine ul_I hx hb hK hP (by decide) (by decide) hi9 d_M_two_63 ?_
  refine lv_iconst (v := 3) hx hb d_M_two_64 (by decide) ?_
  refine lv_iadd hx hb d_M_two_65 ?_
  obtain ⟨hi9, hf⟩ := ck_some hf
  refine us_I hx hb hK hP hD hS (by decide) (by decide) hi9 d_M_two_66 (fun H locs hP hD hS => ?_)
  obtain ⟨w6, e6, hf⟩ := lt_some hf
  rw [← e6] at hP hD
  refine lv_iconst (v := 5) hx hb d_M_two_67 (by decide) ?_
  refine lv_aload_n hx hb d_M_two_68 rfl (lv_at hl 1 rfl) ?_
  refine ug_R hx hb ht hown hM hK hP 89 (by decide) lk_M_89 (by decide) d_M_two_69 ?_
  refine lv_aload_n hx hb d_M_two_72 rfl (lv_at hl 1 rfl) ?_
  refine ug_I hx hb ht hown hM hK hP 133 (by decide) lk_M_133 (by decide) d_M_two_73 ?_
  obtain ⟨hi9, hf⟩ := ck_some hf
  refine ul_I hx hb hK hP (by decide) (by decide) hi9 d_M_two_76 ?_
  refine lv_iconst (v := 3) hx hb d_M_two_77 (by decide) ?_
  refine lv_isub hx hb d_M_two_78 ?_
  obtain ⟨u7, r7, hc7, hf⟩ := bnd_some hf
  refine mS_l (As := [.int 5, .int ((w6.2.2.1 89 (w6.1 133).toNatClampNeg) - 3)]) (rest := []) C0 hP hD hS (c_M_term N hM hc7) k_M_term hl_M_term ht_M_term hini_M rfl rfl hd_M_term rfl (rm_M_two_M_term hR) hl.1 (Nat.le_of_ble_eq_true rfl) d_M_two_79 rfl ⟨Nat.zero_le _, Nat.zero_le _⟩ (fun H locs hP hD hS => ?_)
  exact mr_l C0 hP hD hS hf d_M_two_82
def fm_M_two (N : Nat) (u : MS) (v1 : Int32) (v2 : Int64) : Option (MS × Int64) := fb_M_two_0 N () u v1 v2
set_option maxRecDepth 100000 in
set_option maxHeartbeats 4000000 in
theorem c_M_two (N : Nat) {l : Launch} {D : va_G} {cl : List vw_C} {cB cI cJ cZ cS : ClassId} {iM h0 : Nat} {ad : Nat → Nat} {u : MS} {sz : Nat} {v1 : Int32} {v2 : Int64} {x : MS × Int64} (hM : cl[iM]? = some (R_M, F_M, 171)) (hf : fm_M_two N u v1 v2 = some x) : Met l y_M_two (wd_ws y_M_two b_M_two 5 (some .long)) rm_M_two (mPc D cl cB cI cJ cZ cS iM h0 ad u sz [.ref h0, .int v1, .long v2]) (mQl D cl cB cI cJ cZ cS iM h0 ad (mA cB cI cJ cZ cS iM h0 ad u sz) x) 0 0 (mA cB cI cJ cZ cS iM h0 ad u sz) :=
  mMet (by decide) rfl hM (Nat.le_of_ble_eq_true rfl) (fun p e s m below meth c ls hsz C0 hP hD hS hl => by
    have hR : rm_M_two = rm_M_two := rfl
    exact wb_M_two_0 C0 hR N () trivial u _ _ x hf s.heap [] hP hD hS ls (lv_sub hl [0, 1, 2] rfl))
abbrev b_M_nameAt : ByteArray := prog_14_method_123_code
def y_M_nameAt : MethodName := ⟨R_M, "nameAt", "(I)J"⟩
def w_M_nameAt : List Cond := wd_ws y_M_nameAt b_M_nameAt 3 (some .long)
set_option maxRecDepth 100000 in
theorem k_M_nameAt : Cond.code y_M_nameAt b_M_nameAt 3 (some .long) ∈ wd_tbl := wd_of 3030 rfl rfl
theorem d_M_nameAt_0 : decode b_M_nameAt 0 = .ok (.aload_n 0, 1) := by decide +kernel
theorem d_M_nameAt_1 : decode b_M_nameAt 1 = .ok (.invokevirtual 673, 3) := by decide +kernel
theorem d_M_nameAt_4 : decode b_M_nameAt 4 = .ok (.istore_n 2, 1) := by decide +kernel
theorem d_M_nameAt_5 : decode b_M_nameAt 5 = .ok (.aload_n 0, 1) := by decide +kernel
theorem d_M_nameAt_6 : decode b_M_nameAt 6 = .ok (.getfield 206, 3) := by decide +kernel
theorem d_M_nameAt_9 : decode b_M_nameAt 9 = .ok (.aload_n 0, 1) := by decide +kernel
theorem d_M_nameAt_10 : decode b_M_nameAt 10 = .ok (.getfield 669, 3) := by decide +kernel
theorem d_M_nameAt_13 : decode b_M_nameAt 13 = .ok (.sipush 2500, 3) := by decide +kernel
theorem d_M_nameAt_16 : decode b_M_nameAt 16 = .ok (.imul, 1) := by decide +kernel
theorem d_M_nameAt_17 : decode b_M_nameAt 17 = .ok (.aload_n 0, 1) := by decide +kernel
theorem d_M_nameAt_18 : decode b_M_nameAt 18 = .ok (.getfield 224, 3) := by decide +kernel
theorem d_M_nameAt_21 : decode b_M_nameAt 21 = .ok (.iload_n 2, 1) := by decide +kernel
theorem d_M_nameAt_22 : decode b_M_nameAt 22 = .ok (.iaload, 1) := by decide +kernel
theorem d_M_nameAt_23 : decode b_M_nameAt 23 = .ok (.iadd, 1) := by decide +kernel
theorem d_M_nameAt_24 : decode b_M_nameAt 24 = .ok (.iload_n 1, 1) := by decide +kernel
theorem d_M_nameAt_25 : decode b_M_nameAt 25 = .ok (.ifCond .ge 10, 3) := by decide +kernel
theorem d_M_nameAt_28 : decode b_M_nameAt 28 = .ok (.bipush (-2), 2) := by decide +kernel
theorem d_M_nameAt_30 : decode b_M_nameAt 30 = .ok (.iload_n 1, 1) := by decide +kernel
theorem d_M_nameAt_31 : decode b_M_nameAt 31 = .ok (.isub, 1) := by decide +kernel
theorem d_M_nameAt_32 : decode b_M_nameAt 32 = .ok (.goto 11, 3) := by decide +kernel
theorem d_M_nameAt_35 : decode b_M_nameAt 35 = .ok (.aload_n 0, 1) := by decide +kernel
theorem d_M_nameAt_36 : decode b_M_nameAt 36 = .ok (.getfield 230, 3) := by decide +kernel
theorem d_M_nameAt_39 : decode b_M_nameAt 39 = .ok (.iload_n 2, 1) := by decide +kernel
theorem d_M_nameAt_40 : decode b_M_nameAt 40 = .ok (.iaload, 1) := by decide +kernel
theorem d_M_nameAt_41 : decode b_M_nameAt 41 = .ok (.iload_n 1, 1) := by decide +kernel
theorem d_M_nameAt_42 : decode b_M_nameAt 42 = .ok (.iadd, 1) := by decide +kernel
theorem d_M_nameAt_43 : decode b_M_nameAt 43 = .ok (.iadd, 1) := by decide +kernel
theorem d_M_nameAt_44 : decode b_M_nameAt 44 = .ok (.laload, 1) := by decide +kernel
theorem d_M_nameAt_45 : decode b_M_nameAt 45 = .ok (.lreturn, 1) := by decide +kernel
set_option maxRecDepth 100000 in
theorem hl_M_nameAt : Cond.methodLink R_M 864 y_M_nameAt ∈ wd_tbl := wd_of 3027 (by decide +kernel) rfl
set_option maxRecDepth 100000 in
theorem hi_M_nameAt : Cond.instanceMethod y_M_nameAt ∈ wd_tbl := wd_of 3029 (by decide +kernel) rfl
set_option maxRecDepth 100000 in
theorem hs_M_nameAt : Cond.selects R_M y_M_nameAt y_M_nameAt ∈ wd_tbl := wd_of 214 (by decide +kernel) rfl
theorem hd_M_nameAt : y_M_nameAt.cls = R_M ∧ y_M_nameAt.cls ≠ "java/lang/invoke/MethodHandle" ∧ y_M_nameAt.cls ≠ "java/lang/invoke/VarHandle" ∧ (parseMethodDescriptor y_M_nameAt.desc).map (fun d => d.parameters.length) = some 1 := by decide +kernel
def rm_M_nameAt : Room := { frames := 1, cells := 0, slots := 0, locals := 20 }
theorem rm_M_nameAt_M_frame0 {R : Room} (hR : R = rm_M_nameAt) : (rm_M_frame0).frames + 1 ≤ R.frames ∧ 8 + (1 + 11) + (rm_M_frame0).locals ≤ R.locals := by subst hR; decide
def fb_M_nameAt_43 (N : Nat) (G : Unit) (u : MS) (t0 : Nat) (t1 : Int32) (t2 : Int32) : Option (MS × Int64) := ck (isK t0 5) (ck (inb (t1 + t2) (ln t0)) (some (u, (u.2.2.2 t0 (t1 + t2).toNatClampNeg))))
set_option maxRecDepth 100000 in
set_option maxHeartbeats 4000000 in
theorem wb_M_nameAt_43 {p : Program} {l : Launch} {e : Env} {R : Room} {s : State} {m : MethodId} {args : Array Value} {below : List Frame} {meth : Method} {c : Code} {D : va_G} {cl : List vw_C} {cB cI cJ cZ cS : ClassId} {A : Nat → Prop} {iM h0 : Nat} {ad : Nat → Nat} (C0 : MCx p s m args meth c b_M_nameAt 3 (some .long) D cl cB cI cJ cZ cS iM A) (hR : R = rm_M_nameAt) (N : Nat) (G : Unit) (hG : True) : ∀ (u : MS) (t0 : Nat) (t1 : Int32) (t2 : Int32) (x : MS × Int64), fb_M_nameAt_43 N G u t0 t1 t2 = some x → ∀ (H : Heap) (locs : List Loc), va_P D cl (wM cB cI cJ cZ cS iM h0 ad u) H → va_D A (wM cB cI cJ cZ cS iM h0 ad u) → va_S A s.heap H locs → ∀ (ls : Array Slot), lv_has ls 3 [] → W p l e R s m args below meth c H locs 0 0 (MQ below (mQl D cl cB cI cJ cZ cS iM h0 ad A x) args s 0 0 A) (F0 m 43 ls [.int t2, .int t1, .ref (ad t0)]) := by
  intro u t0 t1 t2 x hf H locs hP hD hS ls hl
  obtain ⟨hx, hb, hr, hml, ht, hown, hM, hK, hA, hlocks⟩ := id C0
  unfold fb_M_nameAt_43 at hf
  refine lv_iadd hx hb d_M_nameAt_43 ?_
  obtain ⟨hk9, hf⟩ := ck_some hf
  obtain ⟨hi9, hf⟩ := ck_some hf
  refine ul_J hx hb hK hP (isK_1 hk9) (isK_2 hk9) hi9 d_M_nameAt_44 ?_
  exact mr_l C0 hP hD hS hf d_M_nameAt_45
def fb_M_nameAt_0 (N : Nat) (G : Unit) (u : MS) (v1 : Int32) : Option (MS × Int64) := bnd (fm_M_frame0 N u) (fun u1 r1 => ck (inb r1 (ln 99)) (br (decide (0 ≤ v1)) (ck (inb r1 (ln 101)) (fb_M_nameAt_43 N G u1 (93) ((((u1.1 133) * 2500) + (u1.2.2.1 99 r1.toNatClampNeg))) (((u1.2.2.1 101 r1.toNatClampNeg) + v1)))) (fb_M_nameAt_43 N G u1 (93) ((((u1.1 133) * 2500) + (u1.2.2.1 99 r1.toNatClampNeg))) (((-2) - v1)))))
set_option maxRecDepth 100000 in
set_option maxHeartbeats 4000000 in
theorem wb_M_nameAt_0 {p : Program} {l : Launch} {e : Env} {R : Room} {s : State} {m : MethodId} {args : Array Value} {below : List Frame} {meth : Method} {c : Code} {D : va_G} {cl : List vw_C} {cB cI cJ cZ cS : ClassId} {A : Nat → Prop} {iM h0 : Nat} {ad : Nat → Nat} (C0 : MCx p s m args meth c b_M_nameAt 3 (some .long) D cl cB cI cJ cZ cS iM A) (hR : R = rm_M_nameAt) (N : Nat) (G : Unit) (hG : True) : ∀ (u : MS) (v1 : Int32) (x : MS × Int64), fb_M_nameAt_0 N G u v1 = some x → ∀ (H : Heap) (locs : List Loc), va_P D cl (wM cB cI cJ cZ cS iM h0 ad u) H → va_D A (wM cB cI cJ cZ cS iM h0 ad u) → va_S A s.heap H locs → ∀ (ls : Array Slot), lv_has ls 3 [(0, .ref h0), (1, .int v1)] → W p l e R s m args below meth c H locs 0 0 (MQ below (mQl D cl cB cI cJ cZ cS iM h0 ad A x) args s 0 0 A) (F0 m 0 ls []) := by
  intro u v1 x hf H locs hP hD hS ls hl
  obtain ⟨hx, hb, hr, hml, ht, hown, hM, hK, hA, hlocks⟩ := id C0
  unfold fb_M_nameAt_0 at hf
  refine lv_aload_n hx hb d_M_nameAt_0 rfl (lv_at hl 0 rfl) ?_
  obtain ⟨u1, r1, hc1, hf⟩ := bnd_some hf
  refine mV_i (As := []) (rest := []) C0 hP hD hS (c_M_frame0 N hM hc1) k_M_frame0 hl_M_frame0 hi_M_frame0 hs_M_frame0 hini_M rfl rfl hd_M_frame0 rfl (rm_M_nameAt_M_frame0 hR) hl.1 (Nat.le_of_ble_eq_true rfl) d_M_nameAt_1 rfl ⟨Nat.zero_le _, Nat.zero_le _⟩ (fun H locs hP hD hS => ?_)
  refine lv_istore_n (lv' := [(2, .int r1), (0, .ref h0), (1, .int v1)]) hx hb d_M_nameAt_4 rfl hl (by decide) rfl (fun ls hl => ?_)
  refine lv_aload_n hx hb d_M_nameAt_5 rfl (lv_at hl 1 rfl) ?_
  refine ug_R hx hb ht hown hM hK hP 93 (by decide) lk_M_93 (by decide) d_M_nameAt_6 ?_
  refine lv_aload_n hx hb d_M_nameAt_9 rfl (lv_at hl 1 rfl) ?_
  refine ug_I hx hb ht hown hM hK hP 133 (by decide) lk_M_133 (by decide) d_M_nameAt_10 ?_
  refine lv_sipush (v := 2500) hx hb d_M_nameAt_13 (by decide) ?_
  refine lv_imul hx hb d_M_nameAt_16 ?_
  refine lv_aload_n hx hb d_M_nameAt_17 rfl (lv_at hl 1 rfl) ?_
  refine ug_R hx hb ht hown hM hK hP 99 (by decide) lk_M_99 (by decide) d_M_nameAt_18 ?_
  refine lv_iload_n hx hb d_M_nameAt_21 rfl (lv_at hl 0 rfl) ?_
  obtain ⟨hi9, hf⟩ := ck_some hf
  refine ul_I hx hb hK hP (by decide) (by decide) hi9 d_M_nameAt_22 ?_
  refine lv_iadd hx hb d_M_nameAt_23 ?_
  refine lv_iload_n hx hb d_M_nameAt_24 rfl (lv_at hl 2 rfl) ?_
  refine lv_if_ge (tgt := 35) hx hb d_M_nameAt_25 (by decide) (fun hc => ?_) (fun hc => ?_)
  · rw [br_p _ hc] at hf
    refine lv_aload_n hx hb d_M_nameAt_35 rfl (lv_at hl 1 rfl) ?_
    refine ug_R hx hb ht hown hM hK hP 101 (by decide) lk_M_101 (by decide) d_M_nameAt_36 ?_
    refine lv_iload_n hx hb d_M_nameAt_39 rfl (lv_at hl 0 rfl) ?_
    obtain ⟨hi9, hf⟩ := ck_some hf
    refine ul_I hx hb hK hP (by decide) (by decide) hi9 d_M_nameAt_40 ?_
    refine lv_iload_n hx hb d_M_nameAt_41 rfl (lv_at hl 2 rfl) ?_
    refine lv_iadd hx hb d_M_nameAt_42 ?_
    exact wb_M_nameAt_43 C0 hR N G hG _ _ _ _ _ hf H locs hP hD hS ls (lv_sub hl [] rfl)
  · rw [br_n _ hc] at hf
    refine lv_bipush (v := (-2)) hx hb d_M_nameAt_28 (by decide) ?_
    refine lv_iload_n hx hb d_M_nameAt_30 rfl (lv_at hl 2 rfl) ?_
    refine lv_isub hx hb d_M_nameAt_31 ?_
    refine lv_goto (tgt := 43) hx hb d_M_nameAt_32 (by decide) ?_
    exact wb_M_nameAt_43 C0 hR N G hG _ _ _ _ _ hf H locs hP hD hS ls (lv_sub hl [] rfl)
def fm_M_nameAt (N : Nat) (u : MS) (v1 : Int32) : Option (MS × Int64) := fb_M_nameAt_0 N () u v1
set_option maxRecDepth 100000 in
set_option maxHeartbeats 4000000 in
theorem c_M_nameAt (N : Nat) {l : Launch} {D : va_G} {cl : List vw_C} {cB cI cJ cZ cS : ClassId} {iM h0 : Nat} {ad : Nat → Nat} {u : MS} {sz : Nat} {v1 : Int32} {x : MS × Int64} (hM : cl[iM]? = some (R_M, F_M, 171)) (hf : fm_M_nameAt N u v1 = some x) : Met l y_M_nameAt (wd_ws y_M_nameAt b_M_nameAt 3 (some .long)) rm_M_nameAt (mPc D cl cB cI cJ cZ cS iM h0 ad u sz [.ref h0, .int v1]) (mQl D cl cB cI cJ cZ cS iM h0 ad (mA cB cI cJ cZ cS iM h0 ad u sz) x) 0 0 (mA cB cI cJ cZ cS iM h0 ad u sz) :=
  mMet (by decide) rfl hM (Nat.le_of_ble_eq_true rfl) (fun p e s m below meth c ls hsz C0 hP hD hS hl => by
    have hR : rm_M_nameAt = rm_M_nameAt := rfl
    exact wb_M_nameAt_0 C0 hR N () trivial u _ x hf s.heap [] hP hD hS ls (lv_sub hl [0, 1] rfl))
abbrev b_M_isString : ByteArray := prog_14_method_122_code
def y_M_isString : MethodName := ⟨R_M, "isString", "(IJ)Z"⟩
def w_M_isString : List Cond := wd_ws y_M_isString b_M_isString 7 (some .boolean)
set_option maxRecDepth 100000 in
theorem k_M_isString : Cond.code y_M_isString b_M_isString 7 (some .boolean) ∈ wd_tbl := wd_of 3050 rfl rfl
theorem d_M_isString_0 : decode b_M_isString 0 = .ok (.lload_n 2, 1) := by decide +kernel
theorem d_M_isString_1 : decode b_M_isString 1 = .ok (.lstore 4, 2) := by decide +kernel
theorem d_M_isString_3 : decode b_M_isString 3 = .ok (.aload_n 0, 1) := by decide +kernel
theorem d_M_isString_4 : decode b_M_isString 4 = .ok (.getfield 47, 3) := by decide +kernel
theorem d_M_isString_7 : decode b_M_isString 7 = .ok (.iload_n 1, 1) := by decide +kernel
theorem d_M_isString_8 : decode b_M_isString 8 = .ok (.iaload, 1) := by decide +kernel
theorem d_M_isString_9 : decode b_M_isString 9 = .ok (.istore 6, 2) := by decide +kernel
theorem d_M_isString_11 : decode b_M_isString 11 = .ok (.iload 6, 2) := by decide +kernel
theorem d_M_isString_13 : decode b_M_isString 13 = .ok (.aload_n 0, 1) := by decide +kernel
theorem d_M_isString_14 : decode b_M_isString 14 = .ok (.getfield 47, 3) := by decide +kernel
theorem d_M_isString_17 : decode b_M_isString 17 = .ok (.iload_n 1, 1) := by decide +kernel
theorem d_M_isString_18 : decode b_M_isString 18 = .ok (.iconst 1, 1) := by decide +kernel
theorem d_M_isString_19 : decode b_M_isString 19 = .ok (.iadd, 1) := by decide +kernel
theorem d_M_isString_20 : decode b_M_isString 20 = .ok (.iaload, 1) := by decide +kernel
theorem d_M_isString_21 : decode b_M_isString 21 = .ok (.if_icmp .ge 66, 3) := by decide +kernel
theorem d_M_isString_24 : decode b_M_isString 24 = .ok (.lload 4, 2) := by decide +kernel
theorem d_M_isString_26 : decode b_M_isString 26 = .ok (.invokestatic 676, 3) := by decide +kernel
theorem d_M_isString_29 : decode b_M_isString 29 = .ok (.bipush 7, 2) := by decide +kernel
theorem d_M_isString_31 : decode b_M_isString 31 = .ok (.if_icmp .ne 31, 3) := by decide +kernel
theorem d_M_isString_34 : decode b_M_isString 34 = .ok (.aload_n 0, 1) := by decide +kernel
theorem d_M_isString_35 : decode b_M_isString 35 = .ok (.aload_n 0, 1) := by decide +kernel
theorem d_M_isString_36 : decode b_M_isString 36 = .ok (.getfield 669, 3) := by decide +kernel
theorem d_M_isString_39 : decode b_M_isString 39 = .ok (.lload 4, 2) := by decide +kernel
theorem d_M_isString_41 : decode b_M_isString 41 = .ok (.invokestatic 680, 3) := by decide +kernel
theorem d_M_isString_44 : decode b_M_isString 44 = .ok (.invokevirtual 683, 3) := by decide +kernel
theorem d_M_isString_47 : decode b_M_isString 47 = .ok (.iconst 0, 1) := by decide +kernel
theorem d_M_isString_48 : decode b_M_isString 48 = .ok (.aload_n 0, 1) := by decide +kernel
theorem d_M_isString_49 : decode b_M_isString 49 = .ok (.getfield 44, 3) := by decide +kernel
theorem d_M_isString_52 : decode b_M_isString 52 = .ok (.iload 6, 2) := by decide +kernel
theorem d_M_isString_54 : decode b_M_isString 54 = .ok (.baload, 1) := by decide +kernel
theorem d_M_isString_55 : decode b_M_isString 55 = .ok (.invokestatic 315, 3) := by decide +kernel
theorem d_M_isString_58 : decode b_M_isString 58 = .ok (.lcmp, 1) := by decide +kernel
theorem d_M_isString_59 : decode b_M_isString 59 = .ok (.ifCond .eq 5, 3) := by decide +kernel
theorem d_M_isString_62 : decode b_M_isString 62 = .ok (.iconst 0, 1) := by decide +kernel
theorem d_M_isString_63 : decode b_M_isString 63 = .ok (.ireturn, 1) := by decide +kernel
theorem d_M_isString_64 : decode b_M_isString 64 = .ok (.aload_n 0, 1) := by decide +kernel
theorem d_M_isString_65 : decode b_M_isString 65 = .ok (.aload_n 0, 1) := by decide +kernel
theorem d_M_isString_66 : decode b_M_isString 66 = .ok (.getfield 669, 3) := by decide +kernel
theorem d_M_isString_69 : decode b_M_isString 69 = .ok (.lload 4, 2) := by decide +kernel
theorem d_M_isString_71 : decode b_M_isString 71 = .ok (.invokestatic 680, 3) := by decide +kernel
theorem d_M_isString_74 : decode b_M_isString 74 = .ok (.iconst 1, 1) := by decide +kernel
theorem d_M_isString_75 : decode b_M_isString 75 = .ok (.iadd, 1) := by decide +kernel
theorem d_M_isString_76 : decode b_M_isString 76 = .ok (.invokevirtual 683, 3) := by decide +kernel
theorem d_M_isString_79 : decode b_M_isString 79 = .ok (.lstore 4, 2) := by decide +kernel
theorem d_M_isString_81 : decode b_M_isString 81 = .ok (.iinc 6 1, 3) := by decide +kernel
theorem d_M_isString_84 : decode b_M_isString 84 = .ok (.goto (-73), 3) := by decide +kernel
theorem d_M_isString_87 : decode b_M_isString 87 = .ok (.lload 4, 2) := by decide +kernel
theorem d_M_isString_89 : decode b_M_isString 89 = .ok (.invokestatic 676, 3) := by decide +kernel
theorem d_M_isString_92 : decode b_M_isString 92 = .ok (.bipush 6, 2) := by decide +kernel
theorem d_M_isString_94 : decode b_M_isString 94 = .ok (.if_icmp .ne 7, 3) := by decide +kernel
theorem d_M_isString_97 : decode b_M_isString 97 = .ok (.iconst 1, 1) := by decide +kernel
theorem d_M_isString_98 : decode b_M_isString 98 = .ok (.goto 4, 3) := by decide +kernel
theorem d_M_isString_101 : decode b_M_isString 101 = .ok (.iconst 0, 1) := by decide +kernel
theorem d_M_isString_102 : decode b_M_isString 102 = .ok (.ireturn, 1) := by decide +kernel
set_option maxRecDepth 100000 in
theorem hl_M_isString : Cond.methodLink R_M 870 y_M_isString ∈ wd_tbl := wd_of 3047 (by decide +kernel) rfl
set_option maxRecDepth 100000 in
theorem hi_M_isString : Cond.instanceMethod y_M_isString ∈ wd_tbl := wd_of 3049 (by decide +kernel) rfl
set_option maxRecDepth 100000 in
theorem hs_M_isString : Cond.selects R_M y_M_isString y_M_isString ∈ wd_tbl := wd_of 218 (by decide +kernel) rfl
theorem hd_M_isString : y_M_isString.cls = R_M ∧ y_M_isString.cls ≠ "java/lang/invoke/MethodHandle" ∧ y_M_isString.cls ≠ "java/lang/invoke/VarHandle" ∧ (parseMethodDescriptor y_M_isString.desc).map (fun d => d.parameters.length) = some 2 := by decide +kernel
def rm_M_isString : Room := { frames := 1, cells := 0, slots := 0, locals := 22 }
theorem rm_M_isString_M_sortOf {R : Room} (hR : R = rm_M_isString) : (rm_M_sortOf).frames + 1 ≤ R.frames ∧ 8 + (2 + 11) + (rm_M_sortOf).locals ≤ R.locals := by subst hR; decide
theorem rm_M_isString_M_valueOf {R : Room} (hR : R = rm_M_isString) : (rm_M_valueOf).frames + 1 ≤ R.frames ∧ 8 + (2 + 11) + (rm_M_valueOf).locals ≤ R.locals := by subst hR; decide
theorem rm_M_isString_M_cell {R : Room} (hR : R = rm_M_isString) : (rm_M_cell).frames + 1 ≤ R.frames ∧ 8 + (3 + 11) + (rm_M_cell).locals ≤ R.locals := by subst hR; decide
theorem rm_M_isString_M_term {R : Room} (hR : R = rm_M_isString) : (rm_M_term).frames + 1 ≤ R.frames ∧ 8 + (2 + 11) + (rm_M_term).locals ≤ R.locals := by subst hR; decide
def fb_M_isString_102 (N : Nat) (G : (MS → Int32 → Int64 → Int32 → Option (MS × Int32))) (u : MS) (t0 : Int32) : Option (MS × Int32) := ck (isb t0) (some (u, t0))
set_option maxRecDepth 100000 in
set_option maxHeartbeats 4000000 in
theorem wb_M_isString_102 {p : Program} {l : Launch} {e : Env} {R : Room} {s : State} {m : MethodId} {args : Array Value} {below : List Frame} {meth : Method} {c : Code} {D : va_G} {cl : List vw_C} {cB cI cJ cZ cS : ClassId} {A : Nat → Prop} {iM h0 : Nat} {ad : Nat → Nat} (C0 : MCx p s m args meth c b_M_isString 7 (some .boolean) D cl cB cI cJ cZ cS iM A) (hR : R = rm_M_isString) (N : Nat) (G : (MS → Int32 → Int64 → Int32 → Option (MS × Int32))) (hG : (∀ (u : MS) (v1 : Int32) (v4 : Int64) (v6 : Int32) (x : MS × Int32), G u v1 v4 v6 = some x → ∀ (H : Heap) (locs : List Loc), va_P D cl (wM cB cI cJ cZ cS iM h0 ad u) H → va_D A (wM cB cI cJ cZ cS iM h0 ad u) → va_S A s.heap H locs → ∀ (ls : Array Slot), lv_has ls 7 [(0, .ref h0), (1, .int v1), (4, .long v4), (6, .int v6)] → W p l e R s m args below meth c H locs 0 0 (MQ below (mQi D cl cB cI cJ cZ cS iM h0 ad A x) args s 0 0 A) (F0 m 11 ls []))) : ∀ (u : MS) (t0 : Int32) (x : MS × Int32), fb_M_isString_102 N G u t0 = some x → ∀ (H : Heap) (locs : List Loc), va_P D cl (wM cB cI cJ cZ cS iM h0 ad u) H → va_D A (wM cB cI cJ cZ cS iM h0 ad u) → va_S A s.heap H locs → ∀ (ls : Array Slot), lv_has ls 7 [] → W p l e R s m args below meth c H locs 0 0 (MQ below (mQi D cl cB cI cJ cZ cS iM h0 ad A x) args s 0 0 A) (F0 m 102 ls [.int t0]) := by
  intro u t0 x hf H locs hP hD hS ls hl
  obtain ⟨hx, hb, hr, hml, ht, hown, hM, hK, hA, hlocks⟩ := id C0
  unfold fb_M_isString_102 at hf
  obtain ⟨hz, hf⟩ := ck_some hf
  exact mr_z C0 hP hD hS hz hf d_M_isString_102
def fb_M_isString_62 (N : Nat) (G : (MS → Int32 → Int64 → Int32 → Option (MS × Int32))) (u : MS) : Option (MS × Int32) := ck (isb 0) (some (u, 0))
set_option maxRecDepth 100000 in
set_option maxHeartbeats 4000000 in
theorem wb_M_isString_62 {p : Program} {l : Launch} {e : Env} {R : Room} {s : State} {m : MethodId} {args : Array Value} {below : List Frame} {meth : Method} {c : Code} {D : va_G} {cl : List vw_C} {cB cI cJ cZ cS : ClassId} {A : Nat → Prop} {iM h0 : Nat} {ad : Nat → Nat} (C0 : MCx p s m args meth c b_M_isString 7 (some .boolean) D cl cB cI cJ cZ cS iM A) (hR : R = rm_M_isString) (N : Nat) (G : (MS → Int32 → Int64 → Int32 → Option (MS × Int32))) (hG : (∀ (u : MS) (v1 : Int32) (v4 : Int64) (v6 : Int32) (x : MS × Int32), G u v1 v4 v6 = some x → ∀ (H : Heap) (locs : List Loc), va_P D cl (wM cB cI cJ cZ cS iM h0 ad u) H → va_D A (wM cB cI cJ cZ cS iM h0 ad u) → va_S A s.heap H locs → ∀ (ls : Array Slot), lv_has ls 7 [(0, .ref h0), (1, .int v1), (4, .long v4), (6, .int v6)] → W p l e R s m args below meth c H locs 0 0 (MQ below (mQi D cl cB cI cJ cZ cS iM h0 ad A x) args s 0 0 A) (F0 m 11 ls []))) : ∀ (u : MS) (x : MS × Int32), fb_M_isString_62 N G u = some x → ∀ (H : Heap) (locs : List Loc), va_P D cl (wM cB cI cJ cZ cS iM h0 ad u) H → va_D A (wM cB cI cJ cZ cS iM h0 ad u) → va_S A s.heap H locs → ∀ (ls : Array Slot), lv_has ls 7 [] → W p l e R s m args below meth c H locs 0 0 (MQ below (mQi D cl cB cI cJ cZ cS iM h0 ad A x) args s 0 0 A) (F0 m 62 ls []) := by
  intro u x hf H locs hP hD hS ls hl
  obtain ⟨hx, hb, hr, hml, ht, hown, hM, hK, hA, hlocks⟩ := id C0
  unfold fb_M_isString_62 at hf
  refine lv_iconst (v := 0) hx hb d_M_isString_62 (by decide) ?_
  obtain ⟨hz, hf⟩ := ck_some hf
  exact mr_z C0 hP hD hS hz hf d_M_isString_63
def fb_M_isString_11 (N : Nat) (G : (MS → Int32 → Int64 → Int32 → Option (MS × Int32))) (u : MS) (v1 : Int32) (v4 : Int64) (v6 : Int32) : Option (MS × Int32) := ck (inb (v1 + 1) (ln 19)) (br (decide ((u.2.2.1 19 (v1 + 1).toNatClampNeg) ≤ v6)) (bnd (fm_M_sortOf N u v4) (fun u1 r1 => br (decide (r1 = 6)) (fb_M_isString_102 N G u1 (1)) (fb_M_isString_102 N G u1 (0)))) (bnd (fm_M_sortOf N u v4) (fun u2 r2 => br (decide (r2 = 7)) (bnd (fm_M_valueOf N u2 v4) (fun u3 r3 => bnd (fm_M_cell N u3 (u2.1 133) r3) (fun u4 r4 => ck (inb v6 (ln 18)) (bnd (fm_M_term N u4 0 (u4.2.2.1 18 v6.toNatClampNeg)) (fun u5 r5 => br (decide ((lg_cmp r4 r5) = 0)) (bnd (fm_M_valueOf N u5 v4) (fun u6 r6 => bnd (fm_M_cell N u6 (u5.1 133) (r6 + 1)) (fun u7 r7 => G u7 (v1) (r7) ((v6 + 1))))) (fb_M_isString_62 N G u5)))))) (fb_M_isString_62 N G u2))))
set_option maxRecDepth 100000 in
set_option maxHeartbeats 4000000 in
theorem wb_M_isString_11 {p : Program} {l : Launch} {e : Env} {R : Room} {s : State} {m : MethodId} {args : Array Value} {below : List Frame} {meth : Method} {c : Code} {D : va_G} {cl : List vw_C} {cB cI cJ cZ cS : ClassId} {A : Nat → Prop} {iM h0 : Nat} {ad : Nat → Nat} (C0 : MCx p s m args meth c b_M_isString 7 (some .boolean) D cl cB cI cJ cZ cS iM A) (hR : R = rm_M_isString) (N : Nat) (G : (MS → Int32 → Int64 → Int32 → Option (MS × Int32))) (hG : (∀ (u : MS) (v1 : Int32) (v4 : Int64) (v6 : Int32) (x : MS × Int32), G u v1 v4 v6 = some x → ∀ (H : Heap) (locs : List Loc), va_P D cl (wM cB cI cJ cZ cS iM h0 ad u) H → va_D A (wM cB cI cJ cZ cS iM h0 ad u) → va_S A s.heap H locs → ∀ (ls : Array Slot), lv_has ls 7 [(0, .ref h0), (1, .int v1), (4, .long v4), (6, .int v6)] → W p l e R s m args below meth c H locs 0 0 (MQ below (mQi D cl cB cI cJ cZ cS iM h0 ad A x) args s 0 0 A) (F0 m 11 ls []))) : ∀ (u : MS) (v1 : Int32) (v4 : Int64) (v6 : Int32) (x : MS × Int32), fb_M_isString_11 N G u v1 v4 v6 = some x → ∀ (H : Heap) (locs : List Loc), va_P D cl (wM cB cI cJ cZ cS iM h0 ad u) H → va_D A (wM cB cI cJ cZ cS iM h0 ad u) → va_S A s.heap H locs → ∀ (ls : Array Slot), lv_has ls 7 [(0, .ref h0), (1, .int v1), (4, .long v4), (6, .int v6)] → W p l e R s m args below meth c H locs 0 0 (MQ below (mQi D cl cB cI cJ cZ cS iM h0 ad A x) args s 0 0 A) (F0 m 11 ls []) := by
  intro u v1 v4 v6 x hf H locs hP hD hS ls hl
  obtain ⟨hx, hb, hr, hml, ht, hown, hM, hK, hA, hlocks⟩ := id C0
  unfold fb_M_isString_11 at hf
  refine lv_iload hx hb d_M_isString_11 (lv_at hl 3 rfl) ?_
  refine lv_aload_n hx hb d_M_isString_13 rfl (lv_at hl 0 rfl) ?_
  refine ug_R hx hb ht hown hM hK hP 19 (by decide) lk_M_19 (by decide) d_M_isString_14 ?_
  refine lv_iload_n hx hb d_M_isString_17 rfl (lv_at hl 1 rfl) ?_
  refine lv_iconst (v := 1) hx hb d_M_isString_18 (by decide) ?_
  refine lv_iadd hx hb d_M_isString_19 ?_
  obtain ⟨hi9, hf⟩ := ck_some hf
  refine ul_I hx hb hK hP (by decide) (by decide) hi9 d_M_isString_20 ?_
  refine lv_icmp_ge (tgt := 87) hx hb d_M_isString_21 (by decide) (fun hc => ?_) (fun hc => ?_)
  · rw [br_p _ hc] at hf
    refine lv_lload hx hb d_M_isString_87 (lv_at hl 2 rfl) ?_
    obtain ⟨u1, r1, hc1, hf⟩ := bnd_some hf
    refine mS_i (As := [.long v4]) (rest := []) C0 hP hD hS (c_M_sortOf N hM hc1) k_M_sortOf hl_M_sortOf ht_M_sortOf hini_M rfl rfl hd_M_sortOf rfl (rm_M_isString_M_sortOf hR) hl.1 (Nat.le_of_ble_eq_true rfl) d_M_isString_89 rfl ⟨Nat.zero_le _, Nat.zero_le _⟩ (fun H locs hP hD hS => ?_)
    refine lv_bipush (v := 6) hx hb d_M_isString_92 (by decide) ?_
    refine lv_icmp_ne (tgt := 101) hx hb d_M_isString_94 (by decide) (fun hc => ?_) (fun hc => ?_)
    · rw [br_n _ hc] at hf
      refine lv_iconst (v := 0) hx hb d_M_isString_101 (by decide) ?_
      exact wb_M_isString_102 C0 hR N G hG _ _ _ hf H locs hP hD hS ls (lv_sub hl [] rfl)
    · rw [br_p _ hc] at hf
      refine lv_iconst (v := 1) hx hb d_M_isString_97 (by decide) ?_
      refine lv_goto (tgt := 102) hx hb d_M_isString_98 (by decide) ?_
      exact wb_M_isString_102 C0 hR N G hG _ _ _ hf H locs hP hD hS ls (lv_sub hl [] rfl)
  · rw [br_n _ hc] at hf
    refine lv_lload hx hb d_M_isString_24 (lv_at hl 2 rfl) ?_
    obtain ⟨u2, r2, hc2, hf⟩ := bnd_some hf
    refine mS_i (As := [.long v4]) (rest := []) C0 hP hD hS (c_M_sortOf N hM hc2) k_M_sortOf hl_M_sortOf ht_M_sortOf hini_M rfl rfl hd_M_sortOf rfl (rm_M_isString_M_sortOf hR) hl.1 (Nat.le_of_ble_eq_true rfl) d_M_isString_26 rfl ⟨Nat.zero_le _, Nat.zero_le _⟩ (fun H locs hP hD hS => ?_)
    refine lv_bipush (v := 7) hx hb d_M_isString_29 (by decide) ?_
    refine lv_icmp_ne (tgt := 62) hx hb d_M_isString_31 (by decide) (fun hc => ?_) (fun hc => ?_)
    · rw [br_n _ hc] at hf
      exact wb_M_isString_62 C0 hR N G hG _ _ hf H locs hP hD hS ls (lv_sub hl [] rfl)
    · rw [br_p _ hc] at hf
      refine lv_aload_n hx hb d_M_isString_34 rfl (lv_at hl 0 rfl) ?_
      refine lv_aload_n hx hb d_M_isString_35 rfl (lv_at hl 0 rfl) ?_
      refine ug_I hx hb ht hown hM hK hP 133 (by decide) lk_M_133 (by decide) d_M_isString_36 ?_
      refine lv_lload hx hb d_M_isString_39 (lv_at hl 2 rfl) ?_
      obtain ⟨u3, r3, hc3, hf⟩ := bnd_some hf
      refine mS_i (As := [.long v4]) (rest := [.int (u2.1 133), .ref h0]) C0 hP hD hS (c_M_valueOf N hM hc3) k_M_valueOf hl_M_valueOf ht_M_valueOf hini_M rfl rfl hd_M_valueOf rfl (rm_M_isString_M_valueOf hR) hl.1 (Nat.le_of_ble_eq_true rfl) d_M_isString_41 rfl ⟨Nat.zero_le _, Nat.zero_le _⟩ (fun H locs hP hD hS => ?_)
      obtain ⟨u4, r4, hc4, hf⟩ := bnd_some hf
      refine mV_l (As := [.int (u2.1 133), .int r3]) (rest := []) C0 hP hD hS (c_M_cell N hM hc4) k_M_cell hl_M_cell hi_M_cell hs_M_cell hini_M rfl rfl hd_M_cell rfl (rm_M_isString_M_cell hR) hl.1 (Nat.le_of_ble_eq_true rfl) d_M_isString_44 rfl ⟨Nat.zero_le _, Nat.zero_le _⟩ (fun H locs hP hD hS => ?_)
      refine lv_iconst (v := 0) hx hb d_M_isString_47 (by decide) ?_
      refine lv_aload_n hx hb d_M_isString_48 rfl (lv_at hl 0 rfl) ?_
      refine ug_R hx hb ht hown hM hK hP 18 (by decide) lk_M_18 (by decide) d_M_isString_49 ?_
      refine lv_iload hx hb d_M_isString_52 (lv_at hl 3 rfl) ?_
      obtain ⟨hi9, hf⟩ := ck_some hf
      refine ul_B hx hb hK hP (by decide) (by decide) hi9 d_M_isString_54 ?_
      obtain ⟨u5, r5, hc5, hf⟩ := bnd_some hf
      refine mS_l (As := [.int 0, .int (u4.2.2.1 18 v6.toNatClampNeg)]) (rest := [.long r4]) C0 hP hD hS (c_M_term N hM hc5) k_M_term hl_M_term ht_M_term hini_M rfl rfl hd_M_term rfl (rm_M_isString_M_term hR) hl.1 (Nat.le_of_ble_eq_true rfl) d_M_isString_55 rfl ⟨Nat.zero_le _, Nat.zero_le _⟩ (fun H locs hP hD hS => ?_)
      refine W.lcmp hx hb d_M_isString_58 ?_
      refine lv_if_eq (tgt := 64) hx hb d_M_isString_59 (by decide) (fun hc => ?_) (fun hc => ?_)
      · rw [br_p _ hc] at hf
        refine lv_aload_n hx hb d_M_isString_64 rfl (lv_at hl 0 rfl) ?_
        refine lv_aload_n hx hb d_M_isString_65 rfl (lv_at hl 0 rfl) ?_
        refine ug_I hx hb ht hown hM hK hP 133 (by decide) lk_M_133 (by decide) d_M_isString_66 ?_
        refine lv_lload hx hb d_M_isString_69 (lv_at hl 2 rfl) ?_
        obtain ⟨u6, r6, hc6, hf⟩ := bnd_some hf
        refine mS_i (As := [.long v4]) (rest := [.int (u5.1 133), .ref h0]) C0 hP hD hS (c_M_valueOf N hM hc6) k_M_valueOf hl_M_valueOf ht_M_valueOf hini_M rfl rfl hd_M_valueOf rfl (rm_M_isString_M_valueOf hR) hl.1 (Nat.le_of_ble_eq_true rfl) d_M_isString_71 rfl ⟨Nat.zero_le _, Nat.zero_le _⟩ (fun H locs hP hD hS => ?_)
        refine lv_iconst (v := 1) hx hb d_M_isString_74 (by decide) ?_
        refine lv_iadd hx hb d_M_isString_75 ?_
        obtain ⟨u7, r7, hc7, hf⟩ := bnd_some hf
        refine mV_l (As := [.int (u5.1 133), .int (r6 + 1)]) (rest := []) C0 hP hD hS (c_M_cell N hM hc7) k_M_cell hl_M_cell hi_M_cell hs_M_cell hini_M rfl rfl hd_M_cell rfl (rm_M_isString_M_cell hR) hl.1 (Nat.le_of_ble_eq_true rfl) d_M_isString_76 rfl ⟨Nat.zero_le _, Nat.zero_le _⟩ (fun H locs hP hD hS => ?_)
        refine lv_lstore (lv' := [(4, .long r7), (0, .ref h0), (1, .int v1), (6, .int v6)]) hx hb d_M_isString_79 hl (by decide) rfl (fun ls hl => ?_)
        refine lv_iinc (v := (v6 + 1)) (lv' := [(6, .int (v6 + 1)), (4, .long r7), (0, .ref h0), (1, .int v1)]) hx hb d_M_isString_81 hl (k := 3) rfl rfl (by decide) rfl (fun ls hl => ?_)
        refine lv_goto (tgt := 11) hx hb d_M_isString_84 (by decide) ?_
        exact hG _ _ _ _ _ hf H locs hP hD hS ls (lv_sub hl [2, 3, 1, 0] rfl)
      · rw [br_n _ hc] at hf
        exact wb_M_isString_62 C0 hR N G hG _ _ hf H locs hP hD hS ls (lv_sub hl [] rfl)
def fb_M_isString_0 (N : Nat) (G : (MS → Int32 → Int64 → Int32 → Option (MS × Int32))) (u : MS) (v1 : Int32) (v2 : Int64) : Option (MS × Int32) := ck (inb v1 (ln 19)) (G u (v1) (v2) ((u.2.2.1 19 v1.toNatClampNeg)))
set_option maxRecDepth 100000 in
set_option maxHeartbeats 4000000 in
theorem wb_M_isString_0 {p : Program} {l : Launch} {e : Env} {R : Room} {s : State} {m : MethodId} {args : Array Value} {below : List Frame} {meth : Method} {c : Code} {D : va_G} {cl : List vw_C} {cB cI cJ cZ cS : ClassId} {A : Nat → Prop} {iM h0 : Nat} {ad : Nat → Nat} (C0 : MCx p s m args meth c b_M_isString 7 (some .boolean) D cl cB cI cJ cZ cS iM A) (hR : R = rm_M_isString) (N : Nat) (G : (MS → Int32 → Int64 → Int32 → Option (MS × Int32))) (hG : (∀ (u : MS) (v1 : Int32) (v4 : Int64) (v6 : Int32) (x : MS × Int32), G u v1 v4 v6 = some x → ∀ (H : Heap) (locs : List Loc), va_P D cl (wM cB cI cJ cZ cS iM h0 ad u) H → va_D A (wM cB cI cJ cZ cS iM h0 ad u) → va_S A s.heap H locs → ∀ (ls : Array Slot), lv_has ls 7 [(0, .ref h0), (1, .int v1), (4, .long v4), (6, .int v6)] → W p l e R s m args below meth c H locs 0 0 (MQ below (mQi D cl cB cI cJ cZ cS iM h0 ad A x) args s 0 0 A) (F0 m 11 ls []))) : ∀ (u : MS) (v1 : Int32) (v2 : Int64) (x : MS × Int32), fb_M_isString_0 N G u v1 v2 = some x → ∀ (H : Heap) (locs : List Loc), va_P D cl (wM cB cI cJ cZ cS iM h0 ad u) H → va_D A (wM cB cI cJ cZ cS iM h0 ad u) → va_S A s.heap H locs → ∀ (ls : Array Slot), lv_has ls 7 [(0, .ref h0), (1, .int v1), (2, .long v2)] → W p l e R s m args below meth c H locs 0 0 (MQ below (mQi D cl cB cI cJ cZ cS iM h0 ad A x) args s 0 0 A) (F0 m 0 ls []) := by
  intro u v1 v2 x hf H locs hP hD hS ls hl
  obtain ⟨hx, hb, hr, hml, ht, hown, hM, hK, hA, hlocks⟩ := id C0
  unfold fb_M_isString_0 at hf
  refine lv_lload_n hx hb d_M_isString_0 rfl (lv_at hl 2 rfl) ?_
  refine lv_lstore (lv' := [(4, .long v2), (0, .ref h0), (1, .int v1), (2, .long v2)]) hx hb d_M_isString_1 hl (by decide) rfl (fun ls hl => ?_)
  refine lv_aload_n hx hb d_M_isString_3 rfl (lv_at hl 1 rfl) ?_
  refine ug_R hx hb ht hown hM hK hP 19 (by decide) lk_M_19 (by decide) d_M_isString_4 ?_
  refine lv_iload_n hx hb d_M_isString_7 rfl (lv_at hl 2 rfl) ?_
  obtain ⟨hi9, hf⟩ := ck_some hf
  refine ul_I hx hb hK hP (by decide) (by decide) hi9 d_M_isString_8 ?_
  refine lv_istore (lv' := [(6, .int (u.2.2.1 19 v1.toNatClampNeg)), (4, .long v2), (0, .ref h0), (1, .int v1), (2, .long v2)]) hx hb d_M_isString_9 hl (by decide) rfl (fun ls hl => ?_)
  exact hG _ _ _ _ _ hf H locs hP hD hS ls (lv_sub hl [2, 3, 1, 0] rfl)
def gg_M_isString (N : Nat) : Nat → ((MS → Int32 → Int64 → Int32 → Option (MS × Int32)))
  | 0 => fun _ _ _ _ => none
  | n + 1 => fb_M_isString_11 N (gg_M_isString N n)
theorem wg_M_isString {p : Program} {l : Launch} {e : Env} {R : Room} {s : State} {m : MethodId} {args : Array Value} {below : List Frame} {meth : Method} {c : Code} {D : va_G} {cl : List vw_C} {cB cI cJ cZ cS : ClassId} {A : Nat → Prop} {iM h0 : Nat} {ad : Nat → Nat} (C0 : MCx p s m args meth c b_M_isString 7 (some .boolean) D cl cB cI cJ cZ cS iM A) (hR : R = rm_M_isString) (N : Nat) : ∀ n : Nat, (∀ (u : MS) (v1 : Int32) (v4 : Int64) (v6 : Int32) (x : MS × Int32), gg_M_isString N n u v1 v4 v6 = some x → ∀ (H : Heap) (locs : List Loc), va_P D cl (wM cB cI cJ cZ cS iM h0 ad u) H → va_D A (wM cB cI cJ cZ cS iM h0 ad u) → va_S A s.heap H locs → ∀ (ls : Array Slot), lv_has ls 7 [(0, .ref h0), (1, .int v1), (4, .long v4), (6, .int v6)] → W p l e R s m args below meth c H locs 0 0 (MQ below (mQi D cl cB cI cJ cZ cS iM h0 ad A x) args s 0 0 A) (F0 m 11 ls []))
  | 0 => (fun u v1 v4 v6 x hf => by cases hf)
  | n + 1 => wb_M_isString_11 C0 hR N (gg_M_isString N n) (wg_M_isString C0 hR N n)
def fm_M_isString (N : Nat) (u : MS) (v1 : Int32) (v2 : Int64) : Option (MS × Int32) := fb_M_isString_0 N (gg_M_isString N N) u v1 v2
set_option maxRecDepth 100000 in
set_option maxHeartbeats 4000000 in
theorem c_M_isString (N : Nat) {l : Launch} {D : va_G} {cl : List vw_C} {cB cI cJ cZ cS : ClassId} {iM h0 : Nat} {ad : Nat → Nat} {u : MS} {sz : Nat} {v1 : Int32} {v2 : Int64} {x : MS × Int32} (hM : cl[iM]? = some (R_M, F_M, 171)) (hf : fm_M_isString N u v1 v2 = some x) : Met l y_M_isString (wd_ws y_M_isString b_M_isString 7 (some .boolean)) rm_M_isString (mPc D cl cB cI cJ cZ cS iM h0 ad u sz [.ref h0, .int v1, .long v2]) (mQi D cl cB cI cJ cZ cS iM h0 ad (mA cB cI cJ cZ cS iM h0 ad u sz) x) 0 0 (mA cB cI cJ cZ cS iM h0 ad u sz) :=
  mMet (by decide) rfl hM (Nat.le_of_ble_eq_true rfl) (fun p e s m below meth c ls hsz C0 hP hD hS hl => by
    have hR : rm_M_isString = rm_M_isString := rfl
    exact wb_M_isString_0 C0 hR N (gg_M_isString N N) (wg_M_isString C0 hR N N) u _ _ x hf s.heap [] hP hD hS ls (lv_sub hl [0, 1, 2] rfl))
abbrev b_M_parts1 : ByteArray := prog_14_method_121_code
def y_M_parts1 : MethodName := ⟨R_M, "parts", "(IJI)I"⟩
def w_M_parts1 : List Cond := wd_ws y_M_parts1 b_M_parts1 10 (some .int)
set_option maxRecDepth 100000 in
theorem k_M_parts1 : Cond.code y_M_parts1 b_M_parts1 10 (some .int) ∈ wd_tbl := wd_of 3054 rfl rfl
theorem d_M_parts1_0 : decode b_M_parts1 0 = .ok (.lload_n 2, 1) := by decide +kernel
theorem d_M_parts1_1 : decode b_M_parts1 1 = .ok (.lstore 5, 2) := by decide +kernel
theorem d_M_parts1_3 : decode b_M_parts1 3 = .ok (.iconst 0, 1) := by decide +kernel
theorem d_M_parts1_4 : decode b_M_parts1 4 = .ok (.istore 7, 2) := by decide +kernel
theorem d_M_parts1_6 : decode b_M_parts1 6 = .ok (.aload_n 0, 1) := by decide +kernel
theorem d_M_parts1_7 : decode b_M_parts1 7 = .ok (.getfield 85, 3) := by decide +kernel
theorem d_M_parts1_10 : decode b_M_parts1 10 = .ok (.iload_n 1, 1) := by decide +kernel
theorem d_M_parts1_11 : decode b_M_parts1 11 = .ok (.baload, 1) := by decide +kernel
theorem d_M_parts1_12 : decode b_M_parts1 12 = .ok (.iconst 5, 1) := by decide +kernel
theorem d_M_parts1_13 : decode b_M_parts1 13 = .ok (.if_icmp .ne 104, 3) := by decide +kernel
theorem d_M_parts1_16 : decode b_M_parts1 16 = .ok (.lload 5, 2) := by decide +kernel
theorem d_M_parts1_18 : decode b_M_parts1 18 = .ok (.invokestatic 676, 3) := by decide +kernel
theorem d_M_parts1_21 : decode b_M_parts1 21 = .ok (.iconst 5, 1) := by decide +kernel
theorem d_M_parts1_22 : decode b_M_parts1 22 = .ok (.if_icmp .ne 27, 3) := by decide +kernel
theorem d_M_parts1_25 : decode b_M_parts1 25 = .ok (.aload_n 0, 1) := by decide +kernel
theorem d_M_parts1_26 : decode b_M_parts1 26 = .ok (.aload_n 0, 1) := by decide +kernel
theorem d_M_parts1_27 : decode b_M_parts1 27 = .ok (.getfield 669, 3) := by decide +kernel
theorem d_M_parts1_30 : decode b_M_parts1 30 = .ok (.lload 5, 2) := by decide +kernel
theorem d_M_parts1_32 : decode b_M_parts1 32 = .ok (.invokestatic 680, 3) := by decide +kernel
theorem d_M_parts1_35 : decode b_M_parts1 35 = .ok (.invokevirtual 683, 3) := by decide +kernel
theorem d_M_parts1_38 : decode b_M_parts1 38 = .ok (.aload_n 0, 1) := by decide +kernel
theorem d_M_parts1_39 : decode b_M_parts1 39 = .ok (.getfield 92, 3) := by decide +kernel
theorem d_M_parts1_42 : decode b_M_parts1 42 = .ok (.iload_n 1, 1) := by decide +kernel
theorem d_M_parts1_43 : decode b_M_parts1 43 = .ok (.iaload, 1) := by decide +kernel
theorem d_M_parts1_44 : decode b_M_parts1 44 = .ok (.i2l, 1) := by decide +kernel
theorem d_M_parts1_45 : decode b_M_parts1 45 = .ok (.lcmp, 1) := by decide +kernel
theorem d_M_parts1_46 : decode b_M_parts1 46 = .ok (.ifCond .eq 5, 3) := by decide +kernel
theorem d_M_parts1_49 : decode b_M_parts1 49 = .ok (.iconst (-1), 1) := by decide +kernel
theorem d_M_parts1_50 : decode b_M_parts1 50 = .ok (.ireturn, 1) := by decide +kernel
theorem d_M_parts1_51 : decode b_M_parts1 51 = .ok (.aload_n 0, 1) := by decide +kernel
theorem d_M_parts1_52 : decode b_M_parts1 52 = .ok (.getfield 95, 3) := by decide +kernel
theorem d_M_parts1_55 : decode b_M_parts1 55 = .ok (.iload_n 1, 1) := by decide +kernel
theorem d_M_parts1_56 : decode b_M_parts1 56 = .ok (.iaload, 1) := by decide +kernel
theorem d_M_parts1_57 : decode b_M_parts1 57 = .ok (.istore 8, 2) := by decide +kernel
theorem d_M_parts1_59 : decode b_M_parts1 59 = .ok (.iload 8, 2) := by decide +kernel
theorem d_M_parts1_61 : decode b_M_parts1 61 = .ok (.iconst (-1), 1) := by decide +kernel
theorem d_M_parts1_62 : decode b_M_parts1 62 = .ok (.if_icmp .eq 52, 3) := by decide +kernel
theorem d_M_parts1_65 : decode b_M_parts1 65 = .ok (.aload_n 0, 1) := by decide +kernel
theorem d_M_parts1_66 : decode b_M_parts1 66 = .ok (.getfield 354, 3) := by decide +kernel
theorem d_M_parts1_69 : decode b_M_parts1 69 = .ok (.iload 7, 2) := by decide +kernel
theorem d_M_parts1_71 : decode b_M_parts1 71 = .ok (.iload 8, 2) := by decide +kernel
theorem d_M_parts1_73 : decode b_M_parts1 73 = .ok (.iastore, 1) := by decide +kernel
theorem d_M_parts1_74 : decode b_M_parts1 74 = .ok (.aload_n 0, 1) := by decide +kernel
theorem d_M_parts1_75 : decode b_M_parts1 75 = .ok (.getfield 357, 3) := by decide +kernel
theorem d_M_parts1_78 : decode b_M_parts1 78 = .ok (.iload 7, 2) := by decide +kernel
theorem d_M_parts1_80 : decode b_M_parts1 80 = .ok (.aload_n 0, 1) := by decide +kernel
theorem d_M_parts1_81 : decode b_M_parts1 81 = .ok (.aload_n 0, 1) := by decide +kernel
theorem d_M_parts1_82 : decode b_M_parts1 82 = .ok (.getfield 669, 3) := by decide +kernel
theorem d_M_parts1_85 : decode b_M_parts1 85 = .ok (.lload 5, 2) := by decide +kernel
theorem d_M_parts1_87 : decode b_M_parts1 87 = .ok (.invokestatic 680, 3) := by decide +kernel
theorem d_M_parts1_90 : decode b_M_parts1 90 = .ok (.iconst 1, 1) := by decide +kernel
theorem d_M_parts1_91 : decode b_M_parts1 91 = .ok (.iadd, 1) := by decide +kernel
theorem d_M_parts1_92 : decode b_M_parts1 92 = .ok (.iload 7, 2) := by decide +kernel
theorem d_M_parts1_94 : decode b_M_parts1 94 = .ok (.iadd, 1) := by decide +kernel
theorem d_M_parts1_95 : decode b_M_parts1 95 = .ok (.invokevirtual 683, 3) := by decide +kernel
theorem d_M_parts1_98 : decode b_M_parts1 98 = .ok (.lastore, 1) := by decide +kernel
theorem d_M_parts1_99 : decode b_M_parts1 99 = .ok (.iinc 7 1, 3) := by decide +kernel
theorem d_M_parts1_102 : decode b_M_parts1 102 = .ok (.aload_n 0, 1) := by decide +kernel
theorem d_M_parts1_103 : decode b_M_parts1 103 = .ok (.getfield 98, 3) := by decide +kernel
theorem d_M_parts1_106 : decode b_M_parts1 106 = .ok (.iload 8, 2) := by decide +kernel
theorem d_M_parts1_108 : decode b_M_parts1 108 = .ok (.iaload, 1) := by decide +kernel
theorem d_M_parts1_109 : decode b_M_parts1 109 = .ok (.istore 8, 2) := by decide +kernel
theorem d_M_parts1_111 : decode b_M_parts1 111 = .ok (.goto (-52), 3) := by decide +kernel
theorem d_M_parts1_114 : decode b_M_parts1 114 = .ok (.goto 146, 3) := by decide +kernel
theorem d_M_parts1_117 : decode b_M_parts1 117 = .ok (.aload_n 0, 1) := by decide +kernel
theorem d_M_parts1_118 : decode b_M_parts1 118 = .ok (.getfield 95, 3) := by decide +kernel
theorem d_M_parts1_121 : decode b_M_parts1 121 = .ok (.iload_n 1, 1) := by decide +kernel
theorem d_M_parts1_122 : decode b_M_parts1 122 = .ok (.iaload, 1) := by decide +kernel
theorem d_M_parts1_123 : decode b_M_parts1 123 = .ok (.istore 8, 2) := by decide +kernel
theorem d_M_parts1_125 : decode b_M_parts1 125 = .ok (.iconst 0, 1) := by decide +kernel
theorem d_M_parts1_126 : decode b_M_parts1 126 = .ok (.istore 9, 2) := by decide +kernel
theorem d_M_parts1_128 : decode b_M_parts1 128 = .ok (.iload 9, 2) := by decide +kernel
theorem d_M_parts1_130 : decode b_M_parts1 130 = .ok (.aload_n 0, 1) := by decide +kernel
theorem d_M_parts1_131 : decode b_M_parts1 131 = .ok (.getfield 92, 3) := by decide +kernel
theorem d_M_parts1_134 : decode b_M_parts1 134 = .ok (.iload_n 1, 1) := by decide +kernel
theorem d_M_parts1_135 : decode b_M_parts1 135 = .ok (.iaload, 1) := by decide +kernel
theorem d_M_parts1_136 : decode b_M_parts1 136 = .ok (.if_icmp .ge 79, 3) := by decide +kernel
theorem d_M_parts1_139 : decode b_M_parts1 139 = .ok (.lload 5, 2) := by decide +kernel
theorem d_M_parts1_141 : decode b_M_parts1 141 = .ok (.invokestatic 676, 3) := by decide +kernel
theorem d_M_parts1_144 : decode b_M_parts1 144 = .ok (.bipush 7, 2) := by decide +kernel
theorem d_M_parts1_146 : decode b_M_parts1 146 = .ok (.if_icmp .eq 5, 3) := by decide +kernel
theorem d_M_parts1_149 : decode b_M_parts1 149 = .ok (.iconst (-1), 1) := by decide +kernel
theorem d_M_parts1_150 : decode b_M_parts1 150 = .ok (.ireturn, 1) := by decide +kernel
theorem d_M_parts1_151 : decode b_M_parts1 151 = .ok (.aload_n 0, 1) := by decide +kernel
theorem d_M_parts1_152 : decode b_M_parts1 152 = .ok (.getfield 354, 3) := by decide +kernel
theorem d_M_parts1_155 : decode b_M_parts1 155 = .ok (.iload 7, 2) := by decide +kernel
theorem d_M_parts1_157 : decode b_M_parts1 157 = .ok (.iload 8, 2) := by decide +kernel
theorem d_M_parts1_159 : decode b_M_parts1 159 = .ok (.iastore, 1) := by decide +kernel
theorem d_M_parts1_160 : decode b_M_parts1 160 = .ok (.aload_n 0, 1) := by decide +kernel
theorem d_M_parts1_161 : decode b_M_parts1 161 = .ok (.getfield 357, 3) := by decide +kernel
theorem d_M_parts1_164 : decode b_M_parts1 164 = .ok (.iload 7, 2) := by decide +kernel
theorem d_M_parts1_166 : decode b_M_parts1 166 = .ok (.aload_n 0, 1) := by decide +kernel
theorem d_M_parts1_167 : decode b_M_parts1 167 = .ok (.aload_n 0, 1) := by decide +kernel
theorem d_M_parts1_168 : decode b_M_parts1 168 = .ok (.getfield 669, 3) := by decide +kernel
theorem d_M_parts1_171 : decode b_M_parts1 171 = .ok (.lload 5, 2) := by decide +kernel
theorem d_M_parts1_173 : decode b_M_parts1 173 = .ok (.invokestatic 680, 3) := by decide +kernel
theorem d_M_parts1_176 : decode b_M_parts1 176 = .ok (.invokevirtual 683, 3) := by decide +kernel
theorem d_M_parts1_179 : decode b_M_parts1 179 = .ok (.lastore, 1) := by decide +kernel
theorem d_M_parts1_180 : decode b_M_parts1 180 = .ok (.aload_n 0, 1) := by decide +kernel
theorem d_M_parts1_181 : decode b_M_parts1 181 = .ok (.aload_n 0, 1) := by decide +kernel
theorem d_M_parts1_182 : decode b_M_parts1 182 = .ok (.getfield 669, 3) := by decide +kernel
theorem d_M_parts1_185 : decode b_M_parts1 185 = .ok (.lload 5, 2) := by decide +kernel
theorem d_M_parts1_187 : decode b_M_parts1 187 = .ok (.invokestatic 680, 3) := by decide +kernel
theorem d_M_parts1_190 : decode b_M_parts1 190 = .ok (.iconst 1, 1) := by decide +kernel
theorem d_M_parts1_191 : decode b_M_parts1 191 = .ok (.iadd, 1) := by decide +kernel
theorem d_M_parts1_192 : decode b_M_parts1 192 = .ok (.invokevirtual 683, 3) := by decide +kernel
theorem d_M_parts1_195 : decode b_M_parts1 195 = .ok (.lstore 5, 2) := by decide +kernel
theorem d_M_parts1_197 : decode b_M_parts1 197 = .ok (.aload_n 0, 1) := by decide +kernel
theorem d_M_parts1_198 : decode b_M_parts1 198 = .ok (.getfield 98, 3) := by decide +kernel
theorem d_M_parts1_201 : decode b_M_parts1 201 = .ok (.iload 8, 2) := by decide +kernel
theorem d_M_parts1_203 : decode b_M_parts1 203 = .ok (.iaload, 1) := by decide +kernel
theorem d_M_parts1_204 : decode b_M_parts1 204 = .ok (.istore 8, 2) := by decide +kernel
theorem d_M_parts1_206 : decode b_M_parts1 206 = .ok (.iinc 7 1, 3) := by decide +kernel
theorem d_M_parts1_209 : decode b_M_parts1 209 = .ok (.iinc 9 1, 3) := by decide +kernel
theorem d_M_parts1_212 : decode b_M_parts1 212 = .ok (.goto (-84), 3) := by decide +kernel
theorem d_M_parts1_215 : decode b_M_parts1 215 = .ok (.aload_n 0, 1) := by decide +kernel
theorem d_M_parts1_216 : decode b_M_parts1 216 = .ok (.getfield 101, 3) := by decide +kernel
theorem d_M_parts1_219 : decode b_M_parts1 219 = .ok (.iload_n 1, 1) := by decide +kernel
theorem d_M_parts1_220 : decode b_M_parts1 220 = .ok (.baload, 1) := by decide +kernel
theorem d_M_parts1_221 : decode b_M_parts1 221 = .ok (.ifCond .eq 27, 3) := by decide +kernel
theorem d_M_parts1_224 : decode b_M_parts1 224 = .ok (.aload_n 0, 1) := by decide +kernel
theorem d_M_parts1_225 : decode b_M_parts1 225 = .ok (.getfield 354, 3) := by decide +kernel
theorem d_M_parts1_228 : decode b_M_parts1 228 = .ok (.iload 7, 2) := by decide +kernel
theorem d_M_parts1_230 : decode b_M_parts1 230 = .ok (.iload 8, 2) := by decide +kernel
theorem d_M_parts1_232 : decode b_M_parts1 232 = .ok (.iastore, 1) := by decide +kernel
theorem d_M_parts1_233 : decode b_M_parts1 233 = .ok (.aload_n 0, 1) := by decide +kernel
theorem d_M_parts1_234 : decode b_M_parts1 234 = .ok (.getfield 357, 3) := by decide +kernel
theorem d_M_parts1_237 : decode b_M_parts1 237 = .ok (.iload 7, 2) := by decide +kernel
theorem d_M_parts1_239 : decode b_M_parts1 239 = .ok (.lload 5, 2) := by decide +kernel
theorem d_M_parts1_241 : decode b_M_parts1 241 = .ok (.lastore, 1) := by decide +kernel
theorem d_M_parts1_242 : decode b_M_parts1 242 = .ok (.iinc 7 1, 3) := by decide +kernel
theorem d_M_parts1_245 : decode b_M_parts1 245 = .ok (.goto 15, 3) := by decide +kernel
theorem d_M_parts1_248 : decode b_M_parts1 248 = .ok (.lload 5, 2) := by decide +kernel
theorem d_M_parts1_250 : decode b_M_parts1 250 = .ok (.invokestatic 676, 3) := by decide +kernel
theorem d_M_parts1_253 : decode b_M_parts1 253 = .ok (.bipush 6, 2) := by decide +kernel
theorem d_M_parts1_255 : decode b_M_parts1 255 = .ok (.if_icmp .eq 5, 3) := by decide +kernel
theorem d_M_parts1_258 : decode b_M_parts1 258 = .ok (.iconst (-1), 1) := by decide +kernel
theorem d_M_parts1_259 : decode b_M_parts1 259 = .ok (.ireturn, 1) := by decide +kernel
theorem d_M_parts1_260 : decode b_M_parts1 260 = .ok (.iload 7, 2) := by decide +kernel
theorem d_M_parts1_262 : decode b_M_parts1 262 = .ok (.iconst 1, 1) := by decide +kernel
theorem d_M_parts1_263 : decode b_M_parts1 263 = .ok (.isub, 1) := by decide +kernel
theorem d_M_parts1_264 : decode b_M_parts1 264 = .ok (.istore 8, 2) := by decide +kernel
theorem d_M_parts1_266 : decode b_M_parts1 266 = .ok (.iload 8, 2) := by decide +kernel
theorem d_M_parts1_268 : decode b_M_parts1 268 = .ok (.ifCond .lt 53, 3) := by decide +kernel
theorem d_M_parts1_271 : decode b_M_parts1 271 = .ok (.aload_n 0, 1) := by decide +kernel
theorem d_M_parts1_272 : decode b_M_parts1 272 = .ok (.getfield 348, 3) := by decide +kernel
theorem d_M_parts1_275 : decode b_M_parts1 275 = .ok (.iload 4, 2) := by decide +kernel
theorem d_M_parts1_277 : decode b_M_parts1 277 = .ok (.iload 7, 2) := by decide +kernel
theorem d_M_parts1_279 : decode b_M_parts1 279 = .ok (.iadd, 1) := by decide +kernel
theorem d_M_parts1_280 : decode b_M_parts1 280 = .ok (.iconst 1, 1) := by decide +kernel
theorem d_M_parts1_281 : decode b_M_parts1 281 = .ok (.isub, 1) := by decide +kernel
theorem d_M_parts1_282 : decode b_M_parts1 282 = .ok (.iload 8, 2) := by decide +kernel
theorem d_M_parts1_284 : decode b_M_parts1 284 = .ok (.isub, 1) := by decide +kernel
theorem d_M_parts1_285 : decode b_M_parts1 285 = .ok (.aload_n 0, 1) := by decide +kernel
theorem d_M_parts1_286 : decode b_M_parts1 286 = .ok (.getfield 354, 3) := by decide +kernel
theorem d_M_parts1_289 : decode b_M_parts1 289 = .ok (.iload 8, 2) := by decide +kernel
theorem d_M_parts1_291 : decode b_M_parts1 291 = .ok (.iaload, 1) := by decide +kernel
theorem d_M_parts1_292 : decode b_M_parts1 292 = .ok (.iastore, 1) := by decide +kernel
theorem d_M_parts1_293 : decode b_M_parts1 293 = .ok (.aload_n 0, 1) := by decide +kernel
theorem d_M_parts1_294 : decode b_M_parts1 294 = .ok (.getfield 351, 3) := by decide +kernel
theorem d_M_parts1_297 : decode b_M_parts1 297 = .ok (.iload 4, 2) := by decide +kernel
theorem d_M_parts1_299 : decode b_M_parts1 299 = .ok (.iload 7, 2) := by decide +kernel
theorem d_M_parts1_301 : decode b_M_parts1 301 = .ok (.iadd, 1) := by decide +kernel
theorem d_M_parts1_302 : decode b_M_parts1 302 = .ok (.iconst 1, 1) := by decide +kernel
theorem d_M_parts1_303 : decode b_M_parts1 303 = .ok (.isub, 1) := by decide +kernel
theorem d_M_parts1_304 : decode b_M_parts1 304 = .ok (.iload 8, 2) := by decide +kernel
theorem d_M_parts1_306 : decode b_M_parts1 306 = .ok (.isub, 1) := by decide +kernel
theorem d_M_parts1_307 : decode b_M_parts1 307 = .ok (.aload_n 0, 1) := by decide +kernel
theorem d_M_parts1_308 : decode b_M_parts1 308 = .ok (.getfield 357, 3) := by decide +kernel
theorem d_M_parts1_311 : decode b_M_parts1 311 = .ok (.iload 8, 2) := by decide +kernel
theorem d_M_parts1_313 : decode b_M_parts1 313 = .ok (.laload, 1) := by decide +kernel
theorem d_M_parts1_314 : decode b_M_parts1 314 = .ok (.lastore, 1) := by decide +kernel
theorem d_M_parts1_315 : decode b_M_parts1 315 = .ok (.iinc 8 (-1), 3) := by decide +kernel
theorem d_M_parts1_318 : decode b_M_parts1 318 = .ok (.goto (-52), 3) := by decide +kernel
theorem d_M_parts1_321 : decode b_M_parts1 321 = .ok (.iload 4, 2) := by decide +kernel
theorem d_M_parts1_323 : decode b_M_parts1 323 = .ok (.iload 7, 2) := by decide +kernel
theorem d_M_parts1_325 : decode b_M_parts1 325 = .ok (.iadd, 1) := by decide +kernel
theorem d_M_parts1_326 : decode b_M_parts1 326 = .ok (.ireturn, 1) := by decide +kernel
set_option maxRecDepth 100000 in
theorem hl_M_parts1 : Cond.methodLink R_M 873 y_M_parts1 ∈ wd_tbl := wd_of 3051 (by decide +kernel) rfl
set_option maxRecDepth 100000 in
theorem hi_M_parts1 : Cond.instanceMethod y_M_parts1 ∈ wd_tbl := wd_of 3053 (by decide +kernel) rfl
set_option maxRecDepth 100000 in
theorem hs_M_parts1 : Cond.selects R_M y_M_parts1 y_M_parts1 ∈ wd_tbl := wd_of 219 (by decide +kernel) rfl
theorem hd_M_parts1 : y_M_parts1.cls = R_M ∧ y_M_parts1.cls ≠ "java/lang/invoke/MethodHandle" ∧ y_M_parts1.cls ≠ "java/lang/invoke/VarHandle" ∧ (parseMethodDescriptor y_M_parts1.desc).map (fun d => d.parameters.length) = some 3 := by decide +kernel
def rm_M_parts1 : Room := { frames := 1, cells := 0, slots := 0, locals := 22 }
theorem rm_M_parts1_M_sortOf {R : Room} (hR : R = rm_M_parts1) : (rm_M_sortOf).frames + 1 ≤ R.frames ∧ 8 + (2 + 11) + (rm_M_sortOf).locals ≤ R.locals := by subst hR; decide
theorem rm_M_parts1_M_valueOf {R : Room} (hR : R = rm_M_parts1) : (rm_M_valueOf).frames + 1 ≤ R.frames ∧ 8 + (2 + 11) + (rm_M_valueOf).locals ≤ R.locals := by subst hR; decide
theorem rm_M_parts1_M_cell {R : Room} (hR : R = rm_M_parts1) : (rm_M_cell).frames + 1 ≤ R.frames ∧ 8 + (3 + 11) + (rm_M_cell).locals ≤ R.locals := by subst hR; decide
def fb_M_parts1_266 (N : Nat) (G : (MS → Int32 → Int64 → Int32 → Int32 → Option (MS × Int32)) × (MS → Int32 → Int32 → Int64 → Int32 → Int32 → Int32 → Option (MS × Int32)) × (MS → Int32 → Int32 → Int32 → Option (MS × Int32))) (u : MS) (v4 : Int32) (v7 : Int32) (v8 : Int32) : Option (MS × Int32) := br (decide (v8 < 0)) (some (u, (v4 + v7))) (ck (inb v8 (ln 162)) (ck (inb (((v4 + v7) - 1) - v8) (ln 160)) (lt (upA u 160 (upd (u.2.2.1 160) (((v4 + v7) - 1) - v8).toNatClampNeg (u.2.2.1 162 v8.toNatClampNeg))) (fun w1 => ck (inb v8 (ln 163)) (ck (inb (((v4 + v7) - 1) - v8) (ln 161)) (lt (upJ w1 161 (vp_updL (w1.2.2.2 161) (((v4 + v7) - 1) - v8).toNatClampNeg (w1.2.2.2 163 v8.toNatClampNeg))) (fun w2 => G.2.2 w2 (v4) (v7) ((v8 + (-1))))))))))
set_option maxRecDepth 100000 in
set_option maxHeartbeats 4000000 in
theorem wb_M_parts1_266 {p : Program} {l : Launch} {e : Env} {R : Room} {s : State} {m : MethodId} {args : Array Value} {below : List Frame} {meth : Method} {c : Code} {D : va_G} {cl : List vw_C} {cB cI cJ cZ cS : ClassId} {A : Nat → Prop} {iM h0 : Nat} {ad : Nat → Nat} (C0 : MCx p s m args meth c b_M_parts1 10 (some .int) D cl cB cI cJ cZ cS iM A) (hR : R = rm_M_parts1) (N : Nat) (G : (MS → Int32 → Int64 → Int32 → Int32 → Option (MS × Int32)) × (MS → Int32 → Int32 → Int64 → Int32 → Int32 → Int32 → Option (MS × Int32)) × (MS → Int32 → Int32 → Int32 → Option (MS × Int32))) (hG : (∀ (u : MS) (v4 : Int32) (v5 : Int64) (v7 : Int32) (v8 : Int32) (x : MS × Int32), G.1 u v4 v5 v7 v8 = some x → ∀ (H : Heap) (locs : List Loc), va_P D cl (wM cB cI cJ cZ cS iM h0 ad u) H → va_D A (wM cB cI cJ cZ cS iM h0 ad u) → va_S A s.heap H locs → ∀ (ls : Array Slot), lv_has ls 10 [(0, .ref h0), (4, .int v4), (5, .long v5), (7, .int v7), (8, .int v8)] → W p l e R s m args below meth c H locs 0 0 (MQ below (mQi D cl cB cI cJ cZ cS iM h0 ad A x) args s 0 0 A) (F0 m 59 ls [])) ∧ (∀ (u : MS) (v1 : Int32) (v4 : Int32) (v5 : Int64) (v7 : Int32) (v8 : Int32) (v9 : Int32) (x : MS × Int32), G.2.1 u v1 v4 v5 v7 v8 v9 = some x → ∀ (H : Heap) (locs : List Loc), va_P D cl (wM cB cI cJ cZ cS iM h0 ad u) H → va_D A (wM cB cI cJ cZ cS iM h0 ad u) → va_S A s.heap H locs → ∀ (ls : Array Slot), lv_has ls 10 [(0, .ref h0), (1, .int v1), (4, .int v4), (5, .long v5), (7, .int v7), (8, .int v8), (9, .int v9)] → W p l e R s m args below meth c H locs 0 0 (MQ below (mQi D cl cB cI cJ cZ cS iM h0 ad A x) args s 0 0 A) (F0 m 128 ls [])) ∧ (∀ (u : MS) (v4 : Int32) (v7 : Int32) (v8 : Int32) (x : MS × Int32), G.2.2 u v4 v7 v8 = some x → ∀ (H : Heap) (locs : List Loc), va_P D cl (wM cB cI cJ cZ cS iM h0 ad u) H → va_D A (wM cB cI cJ cZ cS iM h0 ad u) → va_S A s.heap H locs → ∀ (ls : Array Slot), lv_has ls 10 [(0, .ref h0), (4, .int v4), (7, .int v7), (8, .int v8)] → W p l e R s m args below meth c H locs 0 0 (MQ below (mQi D cl cB cI cJ cZ cS iM h0 ad A x) args s 0 0 A) (F0 m 266 ls []))) : ∀ (u : MS) (v4 : Int32) (v7 : Int32) (v8 : Int32) (x : MS × Int32), fb_M_parts1_266 N G u v4 v7 v8 = some x → ∀ (H : Heap) (locs : List Loc), va_P D cl (wM cB cI cJ cZ cS iM h0 ad u) H → va_D A (wM cB cI cJ cZ cS iM h0 ad u) → va_S A s.heap H locs → ∀ (ls : Array Slot), lv_has ls 10 [(0, .ref h0), (4, .int v4), (7, .int v7), (8, .int v8)] → W p l e R s m args below meth c H locs 0 0 (MQ below (mQi D cl cB cI cJ cZ cS iM h0 ad A x) args s 0 0 A) (F0 m 266 ls []) := by
  intro u v4 v7 v8 x hf H locs hP hD hS ls hl
  obtain ⟨hx, hb, hr, hml, ht, hown, hM, hK, hA, hlocks⟩ := id C0
  unfold fb_M_parts1_266 at hf
  refine lv_iload hx hb d_M_parts1_266 (lv_at hl 3 rfl) ?_
  refine lv_if_lt (tgt := 321) hx hb d_M_parts1_268 (by decide) (fun hc => ?_) (fun hc => ?_)
  · rw [br_p _ hc] at hf
    refine lv_iload hx hb d_M_parts1_321 (lv_at hl 1 rfl) ?_
    refine lv_iload hx hb d_M_parts1_323 (lv_at hl 2 rfl) ?_
    refine lv_iadd hx hb d_M_parts1_325 ?_
    exact mr_i C0 hP hD hS hf d_M_parts1_326
  · rw [br_n _ hc] at hf
    refine lv_aload_n hx hb d_M_parts1_271 rfl (lv_at hl 0 rfl) ?_
    refine ug_R hx hb ht hown hM hK hP 160 (by decide) lk_M_160 (by decide) d_M_parts1_272 ?_
    refine lv_iload hx hb d_M_parts1_275 (lv_at hl 1 rfl) ?_
    refine lv_iload hx hb d_M_parts1_277 (lv_at hl 2 rfl) ?_
    refine lv_iadd hx hb d_M_parts1_279 ?_
    refine lv_iconst (v := 1) hx hb d_M_parts1_280 (by decide) ?_
    refine lv_isub hx hb d_M_parts1_281 ?_
    refine lv_iload hx hb d_M_parts1_282 (lv_at hl 3 rfl) ?_
    refine lv_isub hx hb d_M_parts1_284 ?_
    refine lv_aload_n hx hb d_M_parts1_285 rfl (lv_at hl 0 rfl) ?_
    refine ug_R hx hb ht hown hM hK hP 162 (by decide) lk_M_162 (by decide) d_M_parts1_286 ?_
    refine lv_iload hx hb d_M_parts1_289 (lv_at hl 3 rfl) ?_
    obtain ⟨hi9, hf⟩ := ck_some hf
    refine ul_I hx hb hK hP (by decide) (by decide) hi9 d_M_parts1_291 ?_
    obtain ⟨hi9, hf⟩ := ck_some hf
    refine us_I hx hb hK hP hD hS (by decide) (by decide) hi9 d_M_parts1_292 (fun H locs hP hD hS => ?_)
    obtain ⟨w1, e1, hf⟩ := lt_some hf
    rw [← e1] at hP hD
    refine lv_aload_n hx hb d_M_parts1_293 rfl (lv_at hl 0 rfl) ?_
    refine ug_R hx hb ht hown hM hK hP 161 (by decide) lk_M_161 (by decide) d_M_parts1_294 ?_
    refine lv_iload hx hb d_M_parts1_297 (lv_at hl 1 rfl) ?_
    refine lv_iload hx hb d_M_parts1_299 (lv_at hl 2 rfl) ?_
    refine lv_iadd hx hb d_M_parts1_301 ?_
    refine lv_iconst (v := 1) hx hb d_M_parts1_302 (by decide) ?_
    refine lv_isub hx hb d_M_parts1_303 ?_
    refine lv_iload hx hb d_M_parts1_304 (lv_at hl 3 rfl) ?_
    refine lv_isub hx hb d_M_parts1_306 ?_
    refine lv_aload_n hx hb d_M_parts1_307 rfl (lv_at hl 0 rfl) ?_
    refine ug_R hx hb ht hown hM hK hP 163 (by decide) lk_M_163 (by decide) d_M_parts1_308 ?_
    refine lv_iload hx hb d_M_parts1_311 (lv_at hl 3 rfl) ?_
    obtain ⟨hi9, hf⟩ := ck_some hf
    refine ul_J hx hb hK hP (by decide) (by decide) hi9 d_M_parts1_313 ?_
    obtain ⟨hi9, hf⟩ := ck_some hf
    refine us_J hx hb hK hP hD hS (by decide) (by decide) hi9 d_M_parts1_314 (fun H locs hP hD hS => ?_)
    obtain ⟨w2, e2, hf⟩ := lt_some hf
    rw [← e2] at hP hD
    refine lv_iinc (v := (v8 + (-1))) (lv' := [(8, .int (v8 + (-1))), (0, .ref h0), (4, .int v4), (7, .int v7)]) hx hb d_M_parts1_315 hl (k := 3) rfl rfl (by decide) rfl (fun ls hl => ?_)
    refine lv_goto (tgt := 266) hx hb d_M_parts1_318 (by decide) ?_
    exact hG.2.2 _ _ _ _ _ hf H locs hP hD hS ls (lv_sub hl [1, 2, 3, 0] rfl)
def fb_M_parts1_260 (N : Nat) (G : (MS → Int32 → Int64 → Int32 → Int32 → Option (MS × Int32)) × (MS → Int32 → Int32 → Int64 → Int32 → Int32 → Int32 → Option (MS × Int32)) × (MS → Int32 → Int32 → Int32 → Option (MS × Int32))) (u : MS) (v4 : Int32) (v7 : Int32) : Option (MS × Int32) := G.2.2 u (v4) (v7) ((v7 - 1))
set_option maxRecDepth 100000 in
set_option maxHeartbeats 4000000 in
theorem wb_M_parts1_260 {p : Program} {l : Launch} {e : Env} {R : Room} {s : State} {m : MethodId} {args : Array Value} {below : List Frame} {meth : Method} {c : Code} {D : va_G} {cl : List vw_C} {cB cI cJ cZ cS : ClassId} {A : Nat → Prop} {iM h0 : Nat} {ad : Nat → Nat} (C0 : MCx p s m args meth c b_M_parts1 10 (some .int) D cl cB cI cJ cZ cS iM A) (hR : R = rm_M_parts1) (N : Nat) (G : (MS → Int32 → Int64 → Int32 → Int32 → Option (MS × Int32)) × (MS → Int32 → Int32 → Int64 → Int32 → Int32 → Int32 → Option (MS × Int32)) × (MS → Int32 → Int32 → Int32 → Option (MS × Int32))) (hG : (∀ (u : MS) (v4 : Int32) (v5 : Int64) (v7 : Int32) (v8 : Int32) (x : MS × Int32), G.1 u v4 v5 v7 v8 = some x → ∀ (H : Heap) (locs : List Loc), va_P D cl (wM cB cI cJ cZ cS iM h0 ad u) H → va_D A (wM cB cI cJ cZ cS iM h0 ad u) → va_S A s.heap H locs → ∀ (ls : Array Slot), lv_has ls 10 [(0, .ref h0), (4, .int v4), (5, .long v5), (7, .int v7), (8, .int v8)] → W p l e R s m args below meth c H locs 0 0 (MQ below (mQi D cl cB cI cJ cZ cS iM h0 ad A x) args s 0 0 A) (F0 m 59 ls [])) ∧ (∀ (u : MS) (v1 : Int32) (v4 : Int32) (v5 : Int64) (v7 : Int32) (v8 : Int32) (v9 : Int32) (x : MS × Int32), G.2.1 u v1 v4 v5 v7 v8 v9 = some x → ∀ (H : Heap) (locs : List Loc), va_P D cl (wM cB cI cJ cZ cS iM h0 ad u) H → va_D A (wM cB cI cJ cZ cS iM h0 ad u) → va_S A s.heap H locs → ∀ (ls : Array Slot), lv_has ls 10 [(0, .ref h0), (1, .int v1), (4, .int v4), (5, .long v5), (7, .int v7), (8, .int v8), (9, .int v9)] → W p l e R s m args below meth c H locs 0 0 (MQ below (mQi D cl cB cI cJ cZ cS iM h0 ad A x) args s 0 0 A) (F0 m 128 ls [])) ∧ (∀ (u : MS) (v4 : Int32) (v7 : Int32) (v8 : Int32) (x : MS × Int32), G.2.2 u v4 v7 v8 = some x → ∀ (H : Heap) (locs : List Loc), va_P D cl (wM cB cI cJ cZ cS iM h0 ad u) H → va_D A (wM cB cI cJ cZ cS iM h0 ad u) → va_S A s.heap H locs → ∀ (ls : Array Slot), lv_has ls 10 [(0, .ref h0), (4, .int v4), (7, .int v7), (8, .int v8)] → W p l e R s m args below meth c H locs 0 0 (MQ below (mQi D cl cB cI cJ cZ cS iM h0 ad A x) args s 0 0 A) (F0 m 266 ls []))) : ∀ (u : MS) (v4 : Int32) (v7 : Int32) (x : MS × Int32), fb_M_parts1_260 N G u v4 v7 = some x → ∀ (H : Heap) (locs : List Loc), va_P D cl (wM cB cI cJ cZ cS iM h0 ad u) H → va_D A (wM cB cI cJ cZ cS iM h0 ad u) → va_S A s.heap H locs → ∀ (ls : Array Slot), lv_has ls 10 [(0, .ref h0), (4, .int v4), (7, .int v7)] → W p l e R s m args below meth c H locs 0 0 (MQ below (mQi D cl cB cI cJ cZ cS iM h0 ad A x) args s 0 0 A) (F0 m 260 ls []) := by
  intro u v4 v7 x hf H locs hP hD hS ls hl
  obtain ⟨hx, hb, hr, hml, ht, hown, hM, hK, hA, hlocks⟩ := id C0
  unfold fb_M_parts1_260 at hf
  refine lv_iload hx hb d_M_parts1_260 (lv_at hl 2 rfl) ?_
  refine lv_iconst (v := 1) hx hb d_M_parts1_262 (by decide) ?_
  refine lv_isub hx hb d_M_parts1_263 ?_
  refine lv_istore (lv' := [(8, .int (v7 - 1)), (0, .ref h0), (4, .int v4), (7, .int v7)]) hx hb d_M_parts1_264 hl (by decide) rfl (fun ls hl => ?_)
  exact hG.2.2 _ _ _ _ _ hf H locs hP hD hS ls (lv_sub hl [1, 2, 3, 0] rfl)
def fb_M_parts1_128 (N : Nat) (G : (MS → Int32 → Int64 → Int32 → Int32 → Option (MS × Int32)) × (MS → Int32 → Int32 → Int64 → Int32 → Int32 → Int32 → Option (MS × Int32)) × (MS → Int32 → Int32 → Int32 → Option (MS × Int32))) (u : MS) (v1 : Int32) (v4 : Int32) (v5 : Int64) (v7 : Int32) (v8 : Int32) (v9 : Int32) : Option (MS × Int32) := ck (inb v1 (ln 35)) (br (decide ((u.2.2.1 35 v1.toNatClampNeg) ≤ v9)) (ck (inb v1 (ln 38)) (br (decide ((u.2.2.1 38 v1.toNatClampNeg) = 0)) (bnd (fm_M_sortOf N u v5) (fun u3 r3 => br (decide (r3 = 6)) (fb_M_parts1_260 N G u3 (v4) (v7)) (some (u3, (-1))))) (ck (inb v7 (ln 162)) (lt (upA u 162 (upd (u.2.2.1 162) v7.toNatClampNeg v8)) (fun w4 => ck (inb v7 (ln 163)) (lt (upJ w4 163 (vp_updL (w4.2.2.2 163) v7.toNatClampNeg v5)) (fun w5 => fb_M_parts1_260 N G w5 (v4) ((v7 + 1))))))))) (bnd (fm_M_sortOf N u v5) (fun u6 r6 => br (decide (r6 = 7)) (ck (inb v7 (ln 162)) (lt (upA u6 162 (upd (u6.2.2.1 162) v7.toNatClampNeg v8)) (fun w7 => bnd (fm_M_valueOf N w7 v5) (fun u8 r8 => bnd (fm_M_cell N u8 (w7.1 133) r8) (fun u9 r9 => ck (inb v7 (ln 163)) (lt (upJ u9 163 (vp_updL (u9.2.2.2 163) v7.toNatClampNeg r9)) (fun w10 => bnd (fm_M_valueOf N w10 v5) (fun u11 r11 => bnd (fm_M_cell N u11 (w10.1 133) (r11 + 1)) (fun u12 r12 => ck (inb v8 (ln 37)) (lt (u12.2.2.1 37 v8.toNatClampNeg) (fun y13 => G.2.1 u12 (v1) (v4) (r12) ((v7 + 1)) (y13) ((v9 + 1))))))))))))) (some (u6, (-1))))))
set_option maxRecDepth 100000 in
set_option maxHeartbeats 4000000 in
theorem wb_M_parts1_128 {p : Program} {l : Launch} {e : Env} {R : Room} {s : State} {m : MethodId} {args : Array Value} {below : List Frame} {meth : Method} {c : Code} {D : va_G} {cl : List vw_C} {cB cI cJ cZ cS : ClassId} {A : Nat → Prop} {iM h0 : Nat} {ad : Nat → Nat} (C0 : MCx p s m args meth c b_M_parts1 10 (some .int) D cl cB cI cJ cZ cS iM A) (hR : R = rm_M_parts1) (N : Nat) (G : (MS → Int32 → Int64 → Int32 → Int32 → Option (MS × Int32)) × (MS → Int32 → Int32 → Int64 → Int32 → Int32 → Int32 → Option (MS × Int32)) × (MS → Int32 → Int32 → Int32 → Option (MS × Int32))) (hG : (∀ (u : MS) (v4 : Int32) (v5 : Int64) (v7 : Int32) (v8 : Int32) (x : MS × Int32), G.1 u v4 v5 v7 v8 = some x → ∀ (H : Heap) (locs : List Loc), va_P D cl (wM cB cI cJ cZ cS iM h0 ad u) H → va_D A (wM cB cI cJ cZ cS iM h0 ad u) → va_S A s.heap H locs → ∀ (ls : Array Slot), lv_has ls 10 [(0, .ref h0), (4, .int v4), (5, .long v5), (7, .int v7), (8, .int v8)] → W p l e R s m args below meth c H locs 0 0 (MQ below (mQi D cl cB cI cJ cZ cS iM h0 ad A x) args s 0 0 A) (F0 m 59 ls [])) ∧ (∀ (u : MS) (v1 : Int32) (v4 : Int32) (v5 : Int64) (v7 : Int32) (v8 : Int32) (v9 : Int32) (x : MS × Int32), G.2.1 u v1 v4 v5 v7 v8 v9 = some x → ∀ (H : Heap) (locs : List Loc), va_P D cl (wM cB cI cJ cZ cS iM h0 ad u) H → va_D A (wM cB cI cJ cZ cS iM h0 ad u) → va_S A s.heap H locs → ∀ (ls : Array Slot), lv_has ls 10 [(0, .ref h0), (1, .int v1), (4, .int v4), (5, .long v5), (7, .int v7), (8, .int v8), (9, .int v9)] → W p l e R s m args below meth c H locs 0 0 (MQ below (mQi D cl cB cI cJ cZ cS iM h0 ad A x) args s 0 0 A) (F0 m 128 ls [])) ∧ (∀ (u : MS) (v4 : Int32) (v7 : Int32) (v8 : Int32) (x : MS × Int32), G.2.2 u v4 v7 v8 = some x → ∀ (H : Heap) (locs : List Loc), va_P D cl (wM cB cI cJ cZ cS iM h0 ad u) H → va_D A (wM cB cI cJ cZ cS iM h0 ad u) → va_S A s.heap H locs → ∀ (ls : Array Slot), lv_has ls 10 [(0, .ref h0), (4, .int v4), (7, .int v7), (8, .int v8)] → W p l e R s m args below meth c H locs 0 0 (MQ below (mQi D cl cB cI cJ cZ cS iM h0 ad A x) args s 0 0 A) (F0 m 266 ls []))) : ∀ (u : MS) (v1 : Int32) (v4 : Int32) (v5 : Int64) (v7 : Int32) (v8 : Int32) (v9 : Int32) (x : MS × Int32), fb_M_parts1_128 N G u v1 v4 v5 v7 v8 v9 = some x → ∀ (H : Heap) (locs : List Loc), va_P D cl (wM cB cI cJ cZ cS iM h0 ad u) H → va_D A (wM cB cI cJ cZ cS iM h0 ad u) → va_S A s.heap H locs → ∀ (ls : Array Slot), lv_has ls 10 [(0, .ref h0), (1, .int v1), (4, .int v4), (5, .long v5), (7, .int v7), (8, .int v8), (9, .int v9)] → W p l e R s m args below meth c H locs 0 0 (MQ below (mQi D cl cB cI cJ cZ cS iM h0 ad A x) args s 0 0 A) (F0 m 128 ls []) := by
  intro u v1 v4 v5 v7 v8 v9 x hf H locs hP hD hS ls hl
  obtain ⟨hx, hb, hr, hml, ht, hown, hM, hK, hA, hlocks⟩ := id C0
  unfold fb_M_parts1_128 at hf
  refine lv_iload hx hb d_M_parts1_128 (lv_at hl 6 rfl) ?_
  refine lv_aload_n hx hb d_M_parts1_130 rfl (lv_at hl 0 rfl) ?_
  refine ug_R hx hb ht hown hM hK hP 35 (by decide) lk_M_35 (by decide) d_M_parts1_131 ?_
  refine lv_iload_n hx hb d_M_parts1_134 rfl (lv_at hl 1 rfl) ?_
  obtain ⟨hi9, hf⟩ := ck_some hf
  refine ul_I hx hb hK hP (by decide) (by decide) hi9 d_M_parts1_135 ?_
  refine lv_icmp_ge (tgt := 215) hx hb d_M_parts1_136 (by decide) (fun hc => ?_) (fun hc => ?_)
  · rw [br_p _ hc] at hf
    refine lv_aload_n hx hb d_M_parts1_215 rfl (lv_at hl 0 rfl) ?_
    refine ug_R hx hb ht hown hM hK hP 38 (by decide) lk_M_38 (by decide) d_M_parts1_216 ?_
    refine lv_iload_n hx hb d_M_parts1_219 rfl (lv_at hl 1 rfl) ?_
    obtain ⟨hi9, hf⟩ := ck_some hf
    refine ul_Z hx hb hK hP (by decide) (by decide) hi9 d_M_parts1_220 ?_
    refine lv_if_eq (tgt := 248) hx hb d_M_parts1_221 (by decide) (fun hc => ?_) (fun hc => ?_)
    · rw [br_p _ hc] at hf
      refine lv_lload hx hb d_M_parts1_248 (lv_at hl 3 rfl) ?_
      obtain ⟨u3, r3, hc3, hf⟩ := bnd_some hf
      refine mS_i (As := [.long v5]) (rest := []) C0 hP hD hS (c_M_sortOf N hM hc3) k_M_sortOf hl_M_sortOf ht_M_sortOf hini_M rfl rfl hd_M_sortOf rfl (rm_M_parts1_M_sortOf hR) hl.1 (Nat.le_of_ble_eq_true rfl) d_M_parts1_250 rfl ⟨Nat.zero_le _, Nat.zero_le _⟩ (fun H locs hP hD hS => ?_)
      refine lv_bipush (v := 6) hx hb d_M_parts1_253 (by decide) ?_
      refine lv_icmp_eq (tgt := 260) hx hb d_M_parts1_255 (by decide) (fun hc => ?_) (fun hc => ?_)
      · rw [br_p _ hc] at hf
        exact wb_M_parts1_260 C0 hR N G hG _ _ _ _ hf H locs hP hD hS ls (lv_sub hl [0, 2, 4] rfl)
      · rw [br_n _ hc] at hf
        refine lv_iconst (v := (-1)) hx hb d_M_parts1_258 (by decide) ?_
        exact mr_i C0 hP hD hS hf d_M_parts1_259
    · rw [br_n _ hc] at hf
      refine lv_aload_n hx hb d_M_parts1_224 rfl (lv_at hl 0 rfl) ?_
      refine ug_R hx hb ht hown hM hK hP 162 (by decide) lk_M_162 (by decide) d_M_parts1_225 ?_
      refine lv_iload hx hb d_M_parts1_228 (lv_at hl 4 rfl) ?_
      refine lv_iload hx hb d_M_parts1_230 (lv_at hl 5 rfl) ?_
      obtain ⟨hi9, hf⟩ := ck_some hf
      refine us_I hx hb hK hP hD hS (by decide) (by decide) hi9 d_M_parts1_232 (fun H locs hP hD hS => ?_)
      obtain ⟨w4, e4, hf⟩ := lt_some hf
      rw [← e4] at hP hD
      refine lv_aload_n hx hb d_M_parts1_233 rfl (lv_at hl 0 rfl) ?_
      refine ug_R hx hb ht hown hM hK hP 163 (by decide) lk_M_163 (by decide) d_M_parts1_234 ?_
      refine lv_iload hx hb d_M_parts1_237 (lv_at hl 4 rfl) ?_
      refine lv_lload hx hb d_M_parts1_239 (lv_at hl 3 rfl) ?_
      obtain ⟨hi9, hf⟩ := ck_some hf
      refine us_J hx hb hK hP hD hS (by decide) (by decide) hi9 d_M_parts1_241 (fun H locs hP hD hS => ?_)
      obtain ⟨w5, e5, hf⟩ := lt_some hf
      rw [← e5] at hP hD
      refine lv_iinc (v := (v7 + 1)) (lv' := [(7, .int (v7 + 1)), (0, .ref h0), (1, .int v1), (4, .int v4), (5, .long v5), (8, .int v8), (9, .int v9)]) hx hb d_M_parts1_242 hl (k := 4) rfl rfl (by decide) rfl (fun ls hl => ?_)
      refine lv_goto (tgt := 260) hx hb d_M_parts1_245 (by decide) ?_
      exact wb_M_parts1_260 C0 hR N G hG _ _ _ _ hf H locs hP hD hS ls (lv_sub hl [1, 3, 0] rfl)
  · rw [br_n _ hc] at hf
    refine lv_lload hx hb d_M_parts1_139 (lv_at hl 3 rfl) ?_
    obtain ⟨u6, r6, hc6, hf⟩ := bnd_some hf
    refine mS_i (As := [.long v5]) (rest := []) C0 hP hD hS (c_M_sortOf N hM hc6) k_M_sortOf hl_M_sortOf ht_M_sortOf hini_M rfl rfl hd_M_sortOf rfl (rm_M_parts1_M_sortOf hR) hl.1 (Nat.le_of_ble_eq_true rfl) d_M_parts1_141 rfl ⟨Nat.zero_le _, Nat.zero_le _⟩ (fun H locs hP hD hS => ?_)
    refine lv_bipush (v := 7) hx hb d_M_parts1_144 (by decide) ?_
    refine lv_icmp_eq (tgt := 151) hx hb d_M_parts1_146 (by decide) (fun hc => ?_) (fun hc => ?_)
    · rw [br_p _ hc] at hf
      refine lv_aload_n hx hb d_M_parts1_151 rfl (lv_at hl 0 rfl) ?_
      refine ug_R hx hb ht hown hM hK hP 162 (by decide) lk_M_162 (by decide) d_M_parts1_152 ?_
      refine lv_iload hx hb d_M_parts1_155 (lv_at hl 4 rfl) ?_
      refine lv_iload hx hb d_M_parts1_157 (lv_at hl 5 rfl) ?_
      obtain ⟨hi9, hf⟩ := ck_some hf
      refine us_I hx hb hK hP hD hS (by decide) (by decide) hi9 d_M_parts1_159 (fun H locs hP hD hS => ?_)
      obtain ⟨w7, e7, hf⟩ := lt_some hf
      rw [← e7] at hP hD
      refine lv_aload_n hx hb d_M_parts1_160 rfl (lv_at hl 0 rfl) ?_
      refine ug_R hx hb ht hown hM hK hP 163 (by decide) lk_M_163 (by decide) d_M_parts1_161 ?_
      refine lv_iload hx hb d_M_parts1_164 (lv_at hl 4 rfl) ?_
      refine lv_aload_n hx hb d_M_parts1_166 rfl (lv_at hl 0 rfl) ?_
      refine lv_aload_n hx hb d_M_parts1_167 rfl (lv_at hl 0 rfl) ?_
      refine ug_I hx hb ht hown hM hK hP 133 (by decide) lk_M_133 (by decide) d_M_parts1_168 ?_
      refine lv_lload hx hb d_M_parts1_171 (lv_at hl 3 rfl) ?_
      obtain ⟨u8, r8, hc8, hf⟩ := bnd_some hf
      refine mS_i (As := [.long v5]) (rest := [.int (w7.1 133), .ref h0, .int v7, .ref (ad 163)]) C0 hP hD hS (c_M_valueOf N hM hc8) k_M_valueOf hl_M_valueOf ht_M_valueOf hini_M rfl rfl hd_M_valueOf rfl (rm_M_parts1_M_valueOf hR) hl.1 (Nat.le_of_ble_eq_true rfl) d_M_parts1_173 rfl ⟨Nat.zero_le _, Nat.zero_le _⟩ (fun H locs hP hD hS => ?_)
      obtain ⟨u9, r9, hc9, hf⟩ := bnd_some hf
      refine mV_l (As := [.int (w7.1 133), .int r8]) (rest := [.int v7, .ref (ad 163)]) C0 hP hD hS (c_M_cell N hM hc9) k_M_cell hl_M_cell hi_M_cell hs_M_cell hini_M rfl rfl hd_M_cell rfl (rm_M_parts1_M_cell hR) hl.1 (Nat.le_of_ble_eq_true rfl) d_M_parts1_176 rfl ⟨Nat.zero_le _, Nat.zero_le _⟩ (fun H locs hP hD hS => ?_)
      obtain ⟨hi9, hf⟩ := ck_some hf
      refine us_J hx hb hK hP hD hS (by decide) (by decide) hi9 d_M_parts1_179 (fun H locs hP hD hS => ?_)
      obtain ⟨w10, e10, hf⟩ := lt_some hf
      rw [← e10] at hP hD
      refine lv_aload_n hx hb d_M_parts1_180 rfl (lv_at hl 0 rfl) ?_
      refine lv_aload_n hx hb d_M_parts1_181 rfl (lv_at hl 0 rfl) ?_
      refine ug_I hx hb ht hown hM hK hP 133 (by decide) lk_M_133 (by decide) d_M_parts1_182 ?_
      refine lv_lload hx hb d_M_parts1_185 (lv_at hl 3 rfl) ?_
      obtain ⟨u11, r11, hc11, hf⟩ := bnd_some hf
      refine mS_i (As := [.long v5]) (rest := [.int (w10.1 133), .ref h0]) C0 hP hD hS (c_M_valueOf N hM hc11) k_M_valueOf hl_M_valueOf ht_M_valueOf hini_M rfl rfl hd_M_valueOf rfl (rm_M_parts1_M_valueOf hR) hl.1 (Nat.le_of_ble_eq_true rfl) d_M_parts1_187 rfl ⟨Nat.zero_le _, Nat.zero_le _⟩ (fun H locs hP hD hS => ?_)
      refine lv_iconst (v := 1) hx hb d_M_parts1_190 (by decide) ?_
      refine lv_iadd hx hb d_M_parts1_191 ?_
      obtain ⟨u12, r12, hc12, hf⟩ := bnd_some hf
      refine mV_l (As := [.int (w10.1 133), .int (r11 + 1)]) (rest := []) C0 hP hD hS (c_M_cell N hM hc12) k_M_cell hl_M_cell hi_M_cell hs_M_cell hini_M rfl rfl hd_M_cell rfl (rm_M_parts1_M_cell hR) hl.1 (Nat.le_of_ble_eq_true rfl) d_M_parts1_192 rfl ⟨Nat.zero_le _, Nat.zero_le _⟩ (fun H locs hP hD hS => ?_)
      refine lv_lstore (lv' := [(5, .long r12), (0, .ref h0), (1, .int v1), (4, .int v4), (7, .int v7), (8, .int v8), (9, .int v9)]) hx hb d_M_parts1_195 hl (by decide) rfl (fun ls hl => ?_)
      refine lv_aload_n hx hb d_M_parts1_197 rfl (lv_at hl 1 rfl) ?_
      refine ug_R hx hb ht hown hM hK hP 37 (by decide) lk_M_37 (by decide) d_M_parts1_198 ?_
      refine lv_iload hx hb d_M_parts1_201 (lv_at hl 5 rfl) ?_
      obtain ⟨hi9, hf⟩ := ck_some hf
      refine ul_I hx hb hK hP (by decide) (by decide) hi9 d_M_parts1_203 ?_
      obtain ⟨y13, e13, hf⟩ := lt_some hf
      rw [← e13]
      refine lv_istore (lv' := [(8, .int y13), (5, .long r12), (0, .ref h0), (1, .int v1), (4, .int v4), (7, .int v7), (9, .int v9)]) hx hb d_M_parts1_204 hl (by decide) rfl (fun ls hl => ?_)
      refine lv_iinc (v := (v7 + 1)) (lv' := [(7, .int (v7 + 1)), (8, .int y13), (5, .long r12), (0, .ref h0), (1, .int v1), (4, .int v4), (9, .int v9)]) hx hb d_M_parts1_206 hl (k := 5) rfl rfl (by decide) rfl (fun ls hl => ?_)
      refine lv_iinc (v := (v9 + 1)) (lv' := [(9, .int (v9 + 1)), (7, .int (v7 + 1)), (8, .int y13), (5, .long r12), (0, .ref h0), (1, .int v1), (4, .int v4)]) hx hb d_M_parts1_209 hl (k := 6) rfl rfl (by decide) rfl (fun ls hl => ?_)
      refine lv_goto (tgt := 128) hx hb d_M_parts1_212 (by decide) ?_
      exact hG.2.1 _ _ _ _ _ _ _ _ hf H locs hP hD hS ls (lv_sub hl [4, 5, 6, 3, 1, 2, 0] rfl)
    · rw [br_n _ hc] at hf
      refine lv_iconst (v := (-1)) hx hb d_M_parts1_149 (by decide) ?_
      exact mr_i C0 hP hD hS hf d_M_parts1_150
def fb_M_parts1_59 (N : Nat) (G : (MS → Int32 → Int64 → Int32 → Int32 → Option (MS × Int32)) × (MS → Int32 → Int32 → Int64 → Int32 → Int32 → Int32 → Option (MS × Int32)) × (MS → Int32 → Int32 → Int32 → Option (MS × Int32))) (u : MS) (v4 : Int32) (v5 : Int64) (v7 : Int32) (v8 : Int32) : Option (MS × Int32) := br (decide (v8 = (-1))) (fb_M_parts1_260 N G u (v4) (v7)) (ck (inb v7 (ln 162)) (lt (upA u 162 (upd (u.2.2.1 162) v7.toNatClampNeg v8)) (fun w14 => bnd (fm_M_valueOf N w14 v5) (fun u15 r15 => bnd (fm_M_cell N u15 (w14.1 133) ((r15 + 1) + v7)) (fun u16 r16 => ck (inb v7 (ln 163)) (lt (upJ u16 163 (vp_updL (u16.2.2.2 163) v7.toNatClampNeg r16)) (fun w17 => ck (inb v8 (ln 37)) (lt (w17.2.2.1 37 v8.toNatClampNeg) (fun y18 => G.1 w17 (v4) (v5) ((v7 + 1)) (y18))))))))))
set_option maxRecDepth 100000 in
set_option maxHeartbeats 4000000 in
theorem wb_M_parts1_59 {p : Program} {l : Launch} {e : Env} {R : Room} {s : State} {m : MethodId} {args : Array Value} {below : List Frame} {meth : Method} {c : Code} {D : va_G} {cl : List vw_C} {cB cI cJ cZ cS : ClassId} {A : Nat → Prop} {iM h0 : Nat} {ad : Nat → Nat} (C0 : MCx p s m args meth c b_M_parts1 10 (some .int) D cl cB cI cJ cZ cS iM A) (hR : R = rm_M_parts1) (N : Nat) (G : (MS → Int32 → Int64 → Int32 → Int32 → Option (MS × Int32)) × (MS → Int32 → Int32 → Int64 → Int32 → Int32 → Int32 → Option (MS × Int32)) × (MS → Int32 → Int32 → Int32 → Option (MS × Int32))) (hG : (∀ (u : MS) (v4 : Int32) (v5 : Int64) (v7 : Int32) (v8 : Int32) (x : MS × Int32), G.1 u v4 v5 v7 v8 = some x → ∀ (H : Heap) (locs : List Loc), va_P D cl (wM cB cI cJ cZ cS iM h0 ad u) H → va_D A (wM cB cI cJ cZ cS iM h0 ad u) → va_S A s.heap H locs → ∀ (ls : Array Slot), lv_has ls 10 [(0, .ref h0), (4, .int v4), (5, .long v5), (7, .int v7), (8, .int v8)] → W p l e R s m args below meth c H locs 0 0 (MQ below (mQi D cl cB cI cJ cZ cS iM h0 ad A x) args s 0 0 A) (F0 m 59 ls [])) ∧ (∀ (u : MS) (v1 : Int32) (v4 : Int32) (v5 : Int64) (v7 : Int32) (v8 : Int32) (v9 : Int32) (x : MS × Int32), G.2.1 u v1 v4 v5 v7 v8 v9 = some x → ∀ (H : Heap) (locs : List Loc), va_P D cl (wM cB cI cJ cZ cS iM h0 ad u) H → va_D A (wM cB cI cJ cZ cS iM h0 ad u) → va_S A s.heap H locs → ∀ (ls : Array Slot), lv_has ls 10 [(0, .ref h0), (1, .int v1), (4, .int v4), (5, .long v5), (7, .int v7), (8, .int v8), (9, .int v9)] → W p l e R s m args below meth c H locs 0 0 (MQ below (mQi D cl cB cI cJ cZ cS iM h0 ad A x) args s 0 0 A) (F0 m 128 ls [])) ∧ (∀ (u : MS) (v4 : Int32) (v7 : Int32) (v8 : Int32) (x : MS × Int32), G.2.2 u v4 v7 v8 = some x → ∀ (H : Heap) (locs : List Loc), va_P D cl (wM cB cI cJ cZ cS iM h0 ad u) H → va_D A (wM cB cI cJ cZ cS iM h0 ad u) → va_S A s.heap H locs → ∀ (ls : Array Slot), lv_has ls 10 [(0, .ref h0), (4, .int v4), (7, .int v7), (8, .int v8)] → W p l e R s m args below meth c H locs 0 0 (MQ below (mQi D cl cB cI cJ cZ cS iM h0 ad A x) args s 0 0 A) (F0 m 266 ls []))) : ∀ (u : MS) (v4 : Int32) (v5 : Int64) (v7 : Int32) (v8 : Int32) (x : MS × Int32), fb_M_parts1_59 N G u v4 v5 v7 v8 = some x → ∀ (H : Heap) (locs : List Loc), va_P D cl (wM cB cI cJ cZ cS iM h0 ad u) H → va_D A (wM cB cI cJ cZ cS iM h0 ad u) → va_S A s.heap H locs → ∀ (ls : Array Slot), lv_has ls 10 [(0, .ref h0), (4, .int v4), (5, .long v5), (7, .int v7), (8, .int v8)] → W p l e R s m args below meth c H locs 0 0 (MQ below (mQi D cl cB cI cJ cZ cS iM h0 ad A x) args s 0 0 A) (F0 m 59 ls []) := by
  intro u v4 v5 v7 v8 x hf H locs hP hD hS ls hl
  obtain ⟨hx, hb, hr, hml, ht, hown, hM, hK, hA, hlocks⟩ := id C0
  unfold fb_M_parts1_59 at hf
  refine lv_iload hx hb d_M_parts1_59 (lv_at hl 4 rfl) ?_
  refine lv_iconst (v := (-1)) hx hb d_M_parts1_61 (by decide) ?_
  refine lv_icmp_eq (tgt := 114) hx hb d_M_parts1_62 (by decide) (fun hc => ?_) (fun hc => ?_)
  · rw [br_p _ hc] at hf
    refine lv_goto (tgt := 260) hx hb d_M_parts1_114 (by decide) ?_
    exact wb_M_parts1_260 C0 hR N G hG _ _ _ _ hf H locs hP hD hS ls (lv_sub hl [0, 1, 3] rfl)
  · rw [br_n _ hc] at hf
    refine lv_aload_n hx hb d_M_parts1_65 rfl (lv_at hl 0 rfl) ?_
    refine ug_R hx hb ht hown hM hK hP 162 (by decide) lk_M_162 (by decide) d_M_parts1_66 ?_
    refine lv_iload hx hb d_M_parts1_69 (lv_at hl 3 rfl) ?_
    refine lv_iload hx hb d_M_parts1_71 (lv_at hl 4 rfl) ?_
    obtain ⟨hi9, hf⟩ := ck_some hf
    refine us_I hx hb hK hP hD hS (by decide) (by decide) hi9 d_M_parts1_73 (fun H locs hP hD hS => ?_)
    obtain ⟨w14, e14, hf⟩ := lt_some hf
    rw [← e14] at hP hD
    refine lv_aload_n hx hb d_M_parts1_74 rfl (lv_at hl 0 rfl) ?_
    refine ug_R hx hb ht hown hM hK hP 163 (by decide) lk_M_163 (by decide) d_M_parts1_75 ?_
    refine lv_iload hx hb d_M_parts1_78 (lv_at hl 3 rfl) ?_
    refine lv_aload_n hx hb d_M_parts1_80 rfl (lv_at hl 0 rfl) ?_
    refine lv_aload_n hx hb d_M_parts1_81 rfl (lv_at hl 0 rfl) ?_
    refine ug_I hx hb ht hown hM hK hP 133 (by decide) lk_M_133 (by decide) d_M_parts1_82 ?_
    refine lv_lload hx hb d_M_parts1_85 (lv_at hl 2 rfl) ?_
    obtain ⟨u15, r15, hc15, hf⟩ := bnd_some hf
    refine mS_i (As := [.long v5]) (rest := [.int (w14.1 133), .ref h0, .int v7, .ref (ad 163)]) C0 hP hD hS (c_M_valueOf N hM hc15) k_M_valueOf hl_M_valueOf ht_M_valueOf hini_M rfl rfl hd_M_valueOf rfl (rm_M_parts1_M_valueOf hR) hl.1 (Nat.le_of_ble_eq_true rfl) d_M_parts1_87 rfl ⟨Nat.zero_le _, Nat.zero_le _⟩ (fun H locs hP hD hS => ?_)
    refine lv_iconst (v := 1) hx hb d_M_parts1_90 (by decide) ?_
    refine lv_iadd hx hb d_M_parts1_91 ?_
    refine lv_iload hx hb d_M_parts1_92 (lv_at hl 3 rfl) ?_
    refine lv_iadd hx hb d_M_parts1_94 ?_
    obtain ⟨u16, r16, hc16, hf⟩ := bnd_some hf
    refine mV_l (As := [.int (w14.1 133), .int ((r15 + 1) + v7)]) (rest := [.int v7, .ref (ad 163)]) C0 hP hD hS (c_M_cell N hM hc16) k_M_cell hl_M_cell hi_M_cell hs_M_cell hini_M rfl rfl hd_M_cell rfl (rm_M_parts1_M_cell hR) hl.1 (Nat.le_of_ble_eq_true rfl) d_M_parts1_95 rfl ⟨Nat.zero_le _, Nat.zero_le _⟩ (fun H locs hP hD hS => ?_)
    obtain ⟨hi9, hf⟩ := ck_some hf
    refine us_J hx hb hK hP hD hS (by decide) (by decide) hi9 d_M_parts1_98 (fun H locs hP hD hS => ?_)
    obtain ⟨w17, e17, hf⟩ := lt_some hf
    rw [← e17] at hP hD
    refine lv_iinc (v := (v7 + 1)) (lv' := [(7, .int (v7 + 1)), (0, .ref h0), (4, .int v4), (5, .long v5), (8, .int v8)]) hx hb d_M_parts1_99 hl (k := 3) rfl rfl (by decide) rfl (fun ls hl => ?_)
    refine lv_aload_n hx hb d_M_parts1_102 rfl (lv_at hl 1 rfl) ?_
    refine ug_R hx hb ht hown hM hK hP 37 (by decide) lk_M_37 (by decide) d_M_parts1_103 ?_
    refine lv_iload hx hb d_M_parts1_106 (lv_at hl 4 rfl) ?_
    obtain ⟨hi9, hf⟩ := ck_some hf
    refine ul_I hx hb hK hP (by decide) (by decide) hi9 d_M_parts1_108 ?_
    obtain ⟨y18, e18, hf⟩ := lt_some hf
    rw [← e18]
    refine lv_istore (lv' := [(8, .int y18), (7, .int (v7 + 1)), (0, .ref h0), (4, .int v4), (5, .long v5)]) hx hb d_M_parts1_109 hl (by decide) rfl (fun ls hl => ?_)
    refine lv_goto (tgt := 59) hx hb d_M_parts1_111 (by decide) ?_
    exact hG.1 _ _ _ _ _ _ hf H locs hP hD hS ls (lv_sub hl [2, 3, 4, 1, 0] rfl)
def fb_M_parts1_49 (N : Nat) (G : (MS → Int32 → Int64 → Int32 → Int32 → Option (MS × Int32)) × (MS → Int32 → Int32 → Int64 → Int32 → Int32 → Int32 → Option (MS × Int32)) × (MS → Int32 → Int32 → Int32 → Option (MS × Int32))) (u : MS) : Option (MS × Int32) := some (u, (-1))
set_option maxRecDepth 100000 in
set_option maxHeartbeats 4000000 in
theorem wb_M_parts1_49 {p : Program} {l : Launch} {e : Env} {R : Room} {s : State} {m : MethodId} {args : Array Value} {below : List Frame} {meth : Method} {c : Code} {D : va_G} {cl : List vw_C} {cB cI cJ cZ cS : ClassId} {A : Nat → Prop} {iM h0 : Nat} {ad : Nat → Nat} (C0 : MCx p s m args meth c b_M_parts1 10 (some .int) D cl cB cI cJ cZ cS iM A) (hR : R = rm_M_parts1) (N : Nat) (G : (MS → Int32 → Int64 → Int32 → Int32 → Option (MS × Int32)) × (MS → Int32 → Int32 → Int64 → Int32 → Int32 → Int32 → Option (MS × Int32)) × (MS → Int32 → Int32 → Int32 → Option (MS × Int32))) (hG : (∀ (u : MS) (v4 : Int32) (v5 : Int64) (v7 : Int32) (v8 : Int32) (x : MS × Int32), G.1 u v4 v5 v7 v8 = some x → ∀ (H : Heap) (locs : List Loc), va_P D cl (wM cB cI cJ cZ cS iM h0 ad u) H → va_D A (wM cB cI cJ cZ cS iM h0 ad u) → va_S A s.heap H locs → ∀ (ls : Array Slot), lv_has ls 10 [(0, .ref h0), (4, .int v4), (5, .long v5), (7, .int v7), (8, .int v8)] → W p l e R s m args below meth c H locs 0 0 (MQ below (mQi D cl cB cI cJ cZ cS iM h0 ad A x) args s 0 0 A) (F0 m 59 ls [])) ∧ (∀ (u : MS) (v1 : Int32) (v4 : Int32) (v5 : Int64) (v7 : Int32) (v8 : Int32) (v9 : Int32) (x : MS × Int32), G.2.1 u v1 v4 v5 v7 v8 v9 = some x → ∀ (H : Heap) (locs : List Loc), va_P D cl (wM cB cI cJ cZ cS iM h0 ad u) H → va_D A (wM cB cI cJ cZ cS iM h0 ad u) → va_S A s.heap H locs → ∀ (ls : Array Slot), lv_has ls 10 [(0, .ref h0), (1, .int v1), (4, .int v4), (5, .long v5), (7, .int v7), (8, .int v8), (9, .int v9)] → W p l e R s m args below meth c H locs 0 0 (MQ below (mQi D cl cB cI cJ cZ cS iM h0 ad A x) args s 0 0 A) (F0 m 128 ls [])) ∧ (∀ (u : MS) (v4 : Int32) (v7 : Int32) (v8 : Int32) (x : MS × Int32), G.2.2 u v4 v7 v8 = some x → ∀ (H : Heap) (locs : List Loc), va_P D cl (wM cB cI cJ cZ cS iM h0 ad u) H → va_D A (wM cB cI cJ cZ cS iM h0 ad u) → va_S A s.heap H locs → ∀ (ls : Array Slot), lv_has ls 10 [(0, .ref h0), (4, .int v4), (7, .int v7), (8, .int v8)] → W p l e R s m args below meth c H locs 0 0 (MQ below (mQi D cl cB cI cJ cZ cS iM h0 ad A x) args s 0 0 A) (F0 m 266 ls []))) : ∀ (u : MS) (x : MS × Int32), fb_M_parts1_49 N G u = some x → ∀ (H : Heap) (locs : List Loc), va_P D cl (wM cB cI cJ cZ cS iM h0 ad u) H → va_D A (wM cB cI cJ cZ cS iM h0 ad u) → va_S A s.heap H locs → ∀ (ls : Array Slot), lv_has ls 10 [] → W p l e R s m args below meth c H locs 0 0 (MQ below (mQi D cl cB cI cJ cZ cS iM h0 ad A x) args s 0 0 A) (F0 m 49 ls []) := by
  intro u x hf H locs hP hD hS ls hl
  obtain ⟨hx, hb, hr, hml, ht, hown, hM, hK, hA, hlocks⟩ := id C0
  unfold fb_M_parts1_49 at hf
  refine lv_iconst (v := (-1)) hx hb d_M_parts1_49 (by decide) ?_
  exact mr_i C0 hP hD hS hf d_M_parts1_50
def fb_M_parts1_0 (N : Nat) (G : (MS → Int32 → Int64 → Int32 → Int32 → Option (MS × Int32)) × (MS → Int32 → Int32 → Int64 → Int32 → Int32 → Int32 → Option (MS × Int32)) × (MS → Int32 → Int32 → Int32 → Option (MS × Int32))) (u : MS) (v1 : Int32) (v2 : Int64) (v4 : Int32) : Option (MS × Int32) := ck (inb v1 (ln 33)) (br (decide ((u.2.2.1 33 v1.toNatClampNeg) = 5)) (bnd (fm_M_sortOf N u v2) (fun u19 r19 => br (decide (r19 = 5)) (bnd (fm_M_valueOf N u19 v2) (fun u20 r20 => bnd (fm_M_cell N u20 (u19.1 133) r20) (fun u21 r21 => ck (inb v1 (ln 35)) (br (decide ((lg_cmp r21 ((u21.2.2.1 35 v1.toNatClampNeg).toInt64)) = 0)) (ck (inb v1 (ln 36)) (lt (u21.2.2.1 36 v1.toNatClampNeg) (fun y22 => G.1 u21 (v4) (v2) (0) (y22)))) (fb_M_parts1_49 N G u21))))) (fb_M_parts1_49 N G u19))) (ck (inb v1 (ln 36)) (G.2.1 u (v1) (v4) (v2) (0) ((u.2.2.1 36 v1.toNatClampNeg)) (0))))
set_option maxRecDepth 100000 in
set_option maxHeartbeats 4000000 in
theorem wb_M_parts1_0 {p : Program} {l : Launch} {e : Env} {R : Room} {s : State} {m : MethodId} {args : Array Value} {below : List Frame} {meth : Method} {c : Code} {D : va_G} {cl : List vw_C} {cB cI cJ cZ cS : ClassId} {A : Nat → Prop} {iM h0 : Nat} {ad : Nat → Nat} (C0 : MCx p s m args meth c b_M_parts1 10 (some .int) D cl cB cI cJ cZ cS iM A) (hR : R = rm_M_parts1) (N : Nat) (G : (MS → Int32 → Int64 → Int32 → Int32 → Option (MS × Int32)) × (MS → Int32 → Int32 → Int64 → Int32 → Int32 → Int32 → Option (MS × Int32)) × (MS → Int32 → Int32 → Int32 → Option (MS × Int32))) (hG : (∀ (u : MS) (v4 : Int32) (v5 : Int64) (v7 : Int32) (v8 : Int32) (x : MS × Int32), G.1 u v4 v5 v7 v8 = some x → ∀ (H : Heap) (locs : List Loc), va_P D cl (wM cB cI cJ cZ cS iM h0 ad u) H → va_D A (wM cB cI cJ cZ cS iM h0 ad u) → va_S A s.heap H locs → ∀ (ls : Array Slot), lv_has ls 10 [(0, .ref h0), (4, .int v4), (5, .long v5), (7, .int v7), (8, .int v8)] → W p l e R s m args below meth c H locs 0 0 (MQ below (mQi D cl cB cI cJ cZ cS iM h0 ad A x) args s 0 0 A) (F0 m 59 ls [])) ∧ (∀ (u : MS) (v1 : Int32) (v4 : Int32) (v5 : Int64) (v7 : Int32) (v8 : Int32) (v9 : Int32) (x : MS × Int32), G.2.1 u v1 v4 v5 v7 v8 v9 = some x → ∀ (H : Heap) (locs : List Loc), va_P D cl (wM cB cI cJ cZ cS iM h0 ad u) H → va_D A (wM cB cI cJ cZ cS iM h0 ad u) → va_S A s.heap H locs → ∀ (ls : Array Slot), lv_has ls 10 [(0, .ref h0), (1, .int v1), (4, .int v4), (5, .long v5), (7, .int v7), (8, .int v8), (9, .int v9)] → W p l e R s m args below meth c H locs 0 0 (MQ below (mQi D cl cB cI cJ cZ cS iM h0 ad A x) args s 0 0 A) (F0 m 128 ls [])) ∧ (∀ (u : MS) (v4 : Int32) (v7 : Int32) (v8 : Int32) (x : MS × Int32), G.2.2 u v4 v7 v8 = some x → ∀ (H : Heap) (locs : List Loc), va_P D cl (wM cB cI cJ cZ cS iM h0 ad u) H → va_D A (wM cB cI cJ cZ cS iM h0 ad u) → va_S A s.heap H locs → ∀ (ls : Array Slot), lv_has ls 10 [(0, .ref h0), (4, .int v4), (7, .int v7), (8, .int v8)] → W p l e R s m args below meth c H locs 0 0 (MQ below (mQi D cl cB cI cJ cZ cS iM h0 ad A x) args s 0 0 A) (F0 m 266 ls []))) : ∀ (u : MS) (v1 : Int32) (v2 : Int64) (v4 : Int32) (x : MS × Int32), fb_M_parts1_0 N G u v1 v2 v4 = some x → ∀ (H : Heap) (locs : List Loc), va_P D cl (wM cB cI cJ cZ cS iM h0 ad u) H → va_D A (wM cB cI cJ cZ cS iM h0 ad u) → va_S A s.heap H locs → ∀ (ls : Array Slot), lv_has ls 10 [(0, .ref h0), (1, .int v1), (2, .long v2), (4, .int v4)] → W p l e R s m args below meth c H locs 0 0 (MQ below (mQi D cl cB cI cJ cZ cS iM h0 ad A x) args s 0 0 A) (F0 m 0 ls []) := by
  intro u v1 v2 v4 x hf H locs hP hD hS ls hl
  obtain ⟨hx, hb, hr, hml, ht, hown, hM, hK, hA, hlocks⟩ := id C0
  unfold fb_M_parts1_0 at hf
  refine lv_lload_n hx hb d_M_parts1_0 rfl (lv_at hl 2 rfl) ?_
  refine lv_lstore (lv' := [(5, .long v2), (0, .ref h0), (1, .int v1), (2, .long v2), (4, .int v4)]) hx hb d_M_parts1_1 hl (by decide) rfl (fun ls hl => ?_)
  refine lv_iconst (v := 0) hx hb d_M_parts1_3 (by decide) ?_
  refine lv_istore (lv' := [(7, .int 0), (5, .long v2), (0, .ref h0), (1, .int v1), (2, .long v2), (4, .int v4)]) hx hb d_M_parts1_4 hl (by decide) rfl (fun ls hl => ?_)
  refine lv_aload_n hx hb d_M_parts1_6 rfl (lv_at hl 2 rfl) ?_
  refine ug_R hx hb ht hown hM hK hP 33 (by decide) lk_M_33 (by decide) d_M_parts1_7 ?_
  refine lv_iload_n hx hb d_M_parts1_10 rfl (lv_at hl 3 rfl) ?_
  obtain ⟨hi9, hf⟩ := ck_some hf
  refine ul_B hx hb hK hP (by decide) (by decide) hi9 d_M_parts1_11 ?_
  refine lv_iconst (v := 5) hx hb d_M_parts1_12 (by decide) ?_
  refine lv_icmp_ne (tgt := 117) hx hb d_M_parts1_13 (by decide) (fun hc => ?_) (fun hc => ?_)
  · rw [br_n _ hc] at hf
    refine lv_aload_n hx hb d_M_parts1_117 rfl (lv_at hl 2 rfl) ?_
    refine ug_R hx hb ht hown hM hK hP 36 (by decide) lk_M_36 (by decide) d_M_parts1_118 ?_
    refine lv_iload_n hx hb d_M_parts1_121 rfl (lv_at hl 3 rfl) ?_
    obtain ⟨hi9, hf⟩ := ck_some hf
    refine ul_I hx hb hK hP (by decide) (by decide) hi9 d_M_parts1_122 ?_
    refine lv_istore (lv' := [(8, .int (u.2.2.1 36 v1.toNatClampNeg)), (7, .int 0), (5, .long v2), (0, .ref h0), (1, .int v1), (2, .long v2), (4, .int v4)]) hx hb d_M_parts1_123 hl (by decide) rfl (fun ls hl => ?_)
    refine lv_iconst (v := 0) hx hb d_M_parts1_125 (by decide) ?_
    refine lv_istore (lv' := [(9, .int 0), (8, .int (u.2.2.1 36 v1.toNatClampNeg)), (7, .int 0), (5, .long v2), (0, .ref h0), (1, .int v1), (2, .long v2), (4, .int v4)]) hx hb d_M_parts1_126 hl (by decide) rfl (fun ls hl => ?_)
    exact hG.2.1 _ _ _ _ _ _ _ _ hf H locs hP hD hS ls (lv_sub hl [4, 5, 7, 3, 2, 1, 0] rfl)
  · rw [br_p _ hc] at hf
    refine lv_lload hx hb d_M_parts1_16 (lv_at hl 1 rfl) ?_
    obtain ⟨u19, r19, hc19, hf⟩ := bnd_some hf
    refine mS_i (As := [.long v2]) (rest := []) C0 hP hD hS (c_M_sortOf N hM hc19) k_M_sortOf hl_M_sortOf ht_M_sortOf hini_M rfl rfl hd_M_sortOf rfl (rm_M_parts1_M_sortOf hR) hl.1 (Nat.le_of_ble_eq_true rfl) d_M_parts1_18 rfl ⟨Nat.zero_le _, Nat.zero_le _⟩ (fun H locs hP hD hS => ?_)
    refine lv_iconst (v := 5) hx hb d_M_parts1_21 (by decide) ?_
    refine lv_icmp_ne (tgt := 49) hx hb d_M_parts1_22 (by decide) (fun hc => ?_) (fun hc => ?_)
    · rw [br_n _ hc] at hf
      exact wb_M_parts1_49 C0 hR N G hG _ _ hf H locs hP hD hS ls (lv_sub hl [] rfl)
    · rw [br_p _ hc] at hf
      refine lv_aload_n hx hb d_M_parts1_25 rfl (lv_at hl 2 rfl) ?_
      refine lv_aload_n hx hb d_M_parts1_26 rfl (lv_at hl 2 rfl) ?_
      refine ug_I hx hb ht hown hM hK hP 133 (by decide) lk_M_133 (by decide) d_M_parts1_27 ?_
      refine lv_lload hx hb d_M_parts1_30 (lv_at hl 1 rfl) ?_
      obtain ⟨u20, r20, hc20, hf⟩ := bnd_some hf
      refine mS_i (As := [.long v2]) (rest := [.int (u19.1 133), .ref h0]) C0 hP hD hS (c_M_valueOf N hM hc20) k_M_valueOf hl_M_valueOf ht_M_valueOf hini_M rfl rfl hd_M_valueOf rfl (rm_M_parts1_M_valueOf hR) hl.1 (Nat.le_of_ble_eq_true rfl) d_M_parts1_32 rfl ⟨Nat.zero_le _, Nat.zero_le _⟩ (fun H locs hP hD hS => ?_)
      obtain ⟨u21, r21, hc21, hf⟩ := bnd_some hf
      refine mV_l (As := [.int (u19.1 133), .int r20]) (rest := []) C0 hP hD hS (c_M_cell N hM hc21) k_M_cell hl_M_cell hi_M_cell hs_M_cell hini_M rfl rfl hd_M_cell rfl (rm_M_parts1_M_cell hR) hl.1 (Nat.le_of_ble_eq_true rfl) d_M_parts1_35 rfl ⟨Nat.zero_le _, Nat.zero_le _⟩ (fun H locs hP hD hS => ?_)
      refine lv_aload_n hx hb d_M_parts1_38 rfl (lv_at hl 2 rfl) ?_
      refine ug_R hx hb ht hown hM hK hP 35 (by decide) lk_M_35 (by decide) d_M_parts1_39 ?_
      refine lv_iload_n hx hb d_M_parts1_42 rfl (lv_at hl 3 rfl) ?_
      obtain ⟨hi9, hf⟩ := ck_some hf
      refine ul_I hx hb hK hP (by decide) (by decide) hi9 d_M_parts1_43 ?_
      refine lv_i2l hx hb d_M_parts1_44 rfl ?_
      refine W.lcmp hx hb d_M_parts1_45 ?_
      refine lv_if_eq (tgt := 51) hx hb d_M_parts1_46 (by decide) (fun hc => ?_) (fun hc => ?_)
      · rw [br_p _ hc] at hf
        refine lv_aload_n hx hb d_M_parts1_51 rfl (lv_at hl 2 rfl) ?_
        refine ug_R hx hb ht hown hM hK hP 36 (by decide) lk_M_36 (by decide) d_M_parts1_52 ?_
        refine lv_iload_n hx hb d_M_parts1_55 rfl (lv_at hl 3 rfl) ?_
        obtain ⟨hi9, hf⟩ := ck_some hf
        refine ul_I hx hb hK hP (by decide) (by decide) hi9 d_M_parts1_56 ?_
        obtain ⟨y22, e22, hf⟩ := lt_some hf
        rw [← e22]
        refine lv_istore (lv' := [(8, .int y22), (7, .int 0), (5, .long v2), (0, .ref h0), (1, .int v1), (2, .long v2), (4, .int v4)]) hx hb d_M_parts1_57 hl (by decide) rfl (fun ls hl => ?_)
        exact hG.1 _ _ _ _ _ _ hf H locs hP hD hS ls (lv_sub hl [3, 6, 2, 1, 0] rfl)
      · rw [br_n _ hc] at hf
        exact wb_M_parts1_49 C0 hR N G hG _ _ hf H locs hP hD hS ls (lv_sub hl [] rfl)
def gg_M_parts1 (N : Nat) : Nat → ((MS → Int32 → Int64 → Int32 → Int32 → Option (MS × Int32)) × (MS → Int32 → Int32 → Int64 → Int32 → Int32 → Int32 → Option (MS × Int32)) × (MS → Int32 → Int32 → Int32 → Option (MS × Int32)))
  | 0 => (fun _ _ _ _ _ => none, fun _ _ _ _ _ _ _ => none, fun _ _ _ _ => none)
  | n + 1 => (fb_M_parts1_59 N (gg_M_parts1 N n), fb_M_parts1_128 N (gg_M_parts1 N n), fb_M_parts1_266 N (gg_M_parts1 N n))
theorem wg_M_parts1 {p : Program} {l : Launch} {e : Env} {R : Room} {s : State} {m : MethodId} {args : Array Value} {below : List Frame} {meth : Method} {c : Code} {D : va_G} {cl : List vw_C} {cB cI cJ cZ cS : ClassId} {A : Nat → Prop} {iM h0 : Nat} {ad : Nat → Nat} (C0 : MCx p s m args meth c b_M_parts1 10 (some .int) D cl cB cI cJ cZ cS iM A) (hR : R = rm_M_parts1) (N : Nat) : ∀ n : Nat, (∀ (u : MS) (v4 : Int32) (v5 : Int64) (v7 : Int32) (v8 : Int32) (x : MS × Int32), (gg_M_parts1 N n).1 u v4 v5 v7 v8 = some x → ∀ (H : Heap) (locs : List Loc), va_P D cl (wM cB cI cJ cZ cS iM h0 ad u) H → va_D A (wM cB cI cJ cZ cS iM h0 ad u) → va_S A s.heap H locs → ∀ (ls : Array Slot), lv_has ls 10 [(0, .ref h0), (4, .int v4), (5, .long v5), (7, .int v7), (8, .int v8)] → W p l e R s m args below meth c H locs 0 0 (MQ below (mQi D cl cB cI cJ cZ cS iM h0 ad A x) args s 0 0 A) (F0 m 59 ls [])) ∧ (∀ (u : MS) (v1 : Int32) (v4 : Int32) (v5 : Int64) (v7 : Int32) (v8 : Int32) (v9 : Int32) (x : MS × Int32), (gg_M_parts1 N n).2.1 u v1 v4 v5 v7 v8 v9 = some x → ∀ (H : Heap) (locs : List Loc), va_P D cl (wM cB cI cJ cZ cS iM h0 ad u) H → va_D A (wM cB cI cJ cZ cS iM h0 ad u) → va_S A s.heap H locs → ∀ (ls : Array Slot), lv_has ls 10 [(0, .ref h0), (1, .int v1), (4, .int v4), (5, .long v5), (7, .int v7), (8, .int v8), (9, .int v9)] → W p l e R s m args below meth c H locs 0 0 (MQ below (mQi D cl cB cI cJ cZ cS iM h0 ad A x) args s 0 0 A) (F0 m 128 ls [])) ∧ (∀ (u : MS) (v4 : Int32) (v7 : Int32) (v8 : Int32) (x : MS × Int32), (gg_M_parts1 N n).2.2 u v4 v7 v8 = some x → ∀ (H : Heap) (locs : List Loc), va_P D cl (wM cB cI cJ cZ cS iM h0 ad u) H → va_D A (wM cB cI cJ cZ cS iM h0 ad u) → va_S A s.heap H locs → ∀ (ls : Array Slot), lv_has ls 10 [(0, .ref h0), (4, .int v4), (7, .int v7), (8, .int v8)] → W p l e R s m args below meth c H locs 0 0 (MQ below (mQi D cl cB cI cJ cZ cS iM h0 ad A x) args s 0 0 A) (F0 m 266 ls []))
  | 0 => ⟨(fun u v4 v5 v7 v8 x hf => by cases hf), (fun u v1 v4 v5 v7 v8 v9 x hf => by cases hf), (fun u v4 v7 v8 x hf => by cases hf)⟩
  | n + 1 => ⟨wb_M_parts1_59 C0 hR N (gg_M_parts1 N n) (wg_M_parts1 C0 hR N n), wb_M_parts1_128 C0 hR N (gg_M_parts1 N n) (wg_M_parts1 C0 hR N n), wb_M_parts1_266 C0 hR N (gg_M_parts1 N n) (wg_M_parts1 C0 hR N n)⟩
def fm_M_parts1 (N : Nat) (u : MS) (v1 : Int32) (v2 : Int64) (v4 : Int32) : Option (MS × Int32) := fb_M_parts1_0 N (gg_M_parts1 N N) u v1 v2 v4
set_option maxRecDepth 100000 in
set_option maxHeartbeats 4000000 in
theorem c_M_parts1 (N : Nat) {l : Launch} {D : va_G} {cl : List vw_C} {cB cI cJ cZ cS : ClassId} {iM h0 : Nat} {ad : Nat → Nat} {u : MS} {sz : Nat} {v1 : Int32} {v2 : Int64} {v4 : Int32} {x : MS × Int32} (hM : cl[iM]? = some (R_M, F_M, 171)) (hf : fm_M_parts1 N u v1 v2 v4 = some x) : Met l y_M_parts1 (wd_ws y_M_parts1 b_M_parts1 10 (some .int)) rm_M_parts1 (mPc D cl cB cI cJ cZ cS iM h0 ad u sz [.ref h0, .int v1, .long v2, .int v4]) (mQi D cl cB cI cJ cZ cS iM h0 ad (mA cB cI cJ cZ cS iM h0 ad u sz) x) 0 0 (mA cB cI cJ cZ cS iM h0 ad u sz) :=
  mMet (by decide) rfl hM (Nat.le_of_ble_eq_true rfl) (fun p e s m below meth c ls hsz C0 hP hD hS hl => by
    have hR : rm_M_parts1 = rm_M_parts1 := rfl
    exact wb_M_parts1_0 C0 hR N (gg_M_parts1 N N) (wg_M_parts1 C0 hR N N) u _ _ _ x hf s.heap [] hP hD hS ls (lv_sub hl [0, 1, 2, 3] rfl))
abbrev b_M_fits : ByteArray := prog_14_method_120_code
def y_M_fits : MethodName := ⟨R_M, "fits", "(IJ)Z"⟩
def w_M_fits : List Cond := wd_ws y_M_fits b_M_fits 9 (some .boolean)
set_option maxRecDepth 100000 in
theorem k_M_fits : Cond.code y_M_fits b_M_fits 9 (some .boolean) ∈ wd_tbl := wd_of 3026 rfl rfl
theorem d_M_fits_0 : decode b_M_fits 0 = .ok (.iconst 1, 1) := by decide +kernel
theorem d_M_fits_1 : decode b_M_fits 1 = .ok (.istore 4, 2) := by decide +kernel
theorem d_M_fits_3 : decode b_M_fits 3 = .ok (.aload_n 0, 1) := by decide +kernel
theorem d_M_fits_4 : decode b_M_fits 4 = .ok (.getfield 348, 3) := by decide +kernel
theorem d_M_fits_7 : decode b_M_fits 7 = .ok (.iconst 0, 1) := by decide +kernel
theorem d_M_fits_8 : decode b_M_fits 8 = .ok (.iload_n 1, 1) := by decide +kernel
theorem d_M_fits_9 : decode b_M_fits 9 = .ok (.iastore, 1) := by decide +kernel
theorem d_M_fits_10 : decode b_M_fits 10 = .ok (.aload_n 0, 1) := by decide +kernel
theorem d_M_fits_11 : decode b_M_fits 11 = .ok (.getfield 351, 3) := by decide +kernel
theorem d_M_fits_14 : decode b_M_fits 14 = .ok (.iconst 0, 1) := by decide +kernel
theorem d_M_fits_15 : decode b_M_fits 15 = .ok (.lload_n 2, 1) := by decide +kernel
theorem d_M_fits_16 : decode b_M_fits 16 = .ok (.lastore, 1) := by decide +kernel
theorem d_M_fits_17 : decode b_M_fits 17 = .ok (.iload 4, 2) := by decide +kernel
theorem d_M_fits_19 : decode b_M_fits 19 = .ok (.ifCond .le 182, 3) := by decide +kernel
theorem d_M_fits_22 : decode b_M_fits 22 = .ok (.iinc 4 (-1), 3) := by decide +kernel
theorem d_M_fits_25 : decode b_M_fits 25 = .ok (.aload_n 0, 1) := by decide +kernel
theorem d_M_fits_26 : decode b_M_fits 26 = .ok (.getfield 348, 3) := by decide +kernel
theorem d_M_fits_29 : decode b_M_fits 29 = .ok (.iload 4, 2) := by decide +kernel
theorem d_M_fits_31 : decode b_M_fits 31 = .ok (.iaload, 1) := by decide +kernel
theorem d_M_fits_32 : decode b_M_fits 32 = .ok (.istore 5, 2) := by decide +kernel
theorem d_M_fits_34 : decode b_M_fits 34 = .ok (.aload_n 0, 1) := by decide +kernel
theorem d_M_fits_35 : decode b_M_fits 35 = .ok (.getfield 351, 3) := by decide +kernel
theorem d_M_fits_38 : decode b_M_fits 38 = .ok (.iload 4, 2) := by decide +kernel
theorem d_M_fits_40 : decode b_M_fits 40 = .ok (.laload, 1) := by decide +kernel
theorem d_M_fits_41 : decode b_M_fits 41 = .ok (.lstore 6, 2) := by decide +kernel
theorem d_M_fits_43 : decode b_M_fits 43 = .ok (.aload_n 0, 1) := by decide +kernel
theorem d_M_fits_44 : decode b_M_fits 44 = .ok (.getfield 85, 3) := by decide +kernel
theorem d_M_fits_47 : decode b_M_fits 47 = .ok (.iload 5, 2) := by decide +kernel
theorem d_M_fits_49 : decode b_M_fits 49 = .ok (.baload, 1) := by decide +kernel
theorem d_M_fits_50 : decode b_M_fits 50 = .ok (.istore 8, 2) := by decide +kernel
theorem d_M_fits_52 : decode b_M_fits 52 = .ok (.iload 8, 2) := by decide +kernel
theorem d_M_fits_54 : decode b_M_fits 54 = .ok (.iconst 1, 1) := by decide +kernel
theorem d_M_fits_55 : decode b_M_fits 55 = .ok (.if_icmp .ne 44, 3) := by decide +kernel
theorem d_M_fits_58 : decode b_M_fits 58 = .ok (.aload_n 0, 1) := by decide +kernel
theorem d_M_fits_59 : decode b_M_fits 59 = .ok (.getfield 206, 3) := by decide +kernel
theorem d_M_fits_62 : decode b_M_fits 62 = .ok (.aload_n 0, 1) := by decide +kernel
theorem d_M_fits_63 : decode b_M_fits 63 = .ok (.getfield 669, 3) := by decide +kernel
theorem d_M_fits_66 : decode b_M_fits 66 = .ok (.sipush 2500, 3) := by decide +kernel
theorem d_M_fits_69 : decode b_M_fits 69 = .ok (.imul, 1) := by decide +kernel
theorem d_M_fits_70 : decode b_M_fits 70 = .ok (.aload_n 0, 1) := by decide +kernel
theorem d_M_fits_71 : decode b_M_fits 71 = .ok (.getfield 209, 3) := by decide +kernel
theorem d_M_fits_74 : decode b_M_fits 74 = .ok (.aload_n 0, 1) := by decide +kernel
theorem d_M_fits_75 : decode b_M_fits 75 = .ok (.getfield 669, 3) := by decide +kernel
theorem d_M_fits_78 : decode b_M_fits 78 = .ok (.iaload, 1) := by decide +kernel
theorem d_M_fits_79 : decode b_M_fits 79 = .ok (.iadd, 1) := by decide +kernel
theorem d_M_fits_80 : decode b_M_fits 80 = .ok (.lload 6, 2) := by decide +kernel
theorem d_M_fits_82 : decode b_M_fits 82 = .ok (.lastore, 1) := by decide +kernel
theorem d_M_fits_83 : decode b_M_fits 83 = .ok (.aload_n 0, 1) := by decide +kernel
theorem d_M_fits_84 : decode b_M_fits 84 = .ok (.getfield 209, 3) := by decide +kernel
theorem d_M_fits_87 : decode b_M_fits 87 = .ok (.aload_n 0, 1) := by decide +kernel
theorem d_M_fits_88 : decode b_M_fits 88 = .ok (.getfield 669, 3) := by decide +kernel
theorem d_M_fits_91 : decode b_M_fits 91 = .ok (.dup2, 1) := by decide +kernel
theorem d_M_fits_92 : decode b_M_fits 92 = .ok (.iaload, 1) := by decide +kernel
theorem d_M_fits_93 : decode b_M_fits 93 = .ok (.iconst 1, 1) := by decide +kernel
theorem d_M_fits_94 : decode b_M_fits 94 = .ok (.iadd, 1) := by decide +kernel
theorem d_M_fits_95 : decode b_M_fits 95 = .ok (.iastore, 1) := by decide +kernel
theorem d_M_fits_96 : decode b_M_fits 96 = .ok (.goto 102, 3) := by decide +kernel
theorem d_M_fits_99 : decode b_M_fits 99 = .ok (.iload 8, 2) := by decide +kernel
theorem d_M_fits_101 : decode b_M_fits 101 = .ok (.iconst 2, 1) := by decide +kernel
theorem d_M_fits_102 : decode b_M_fits 102 = .ok (.if_icmp .ne 25, 3) := by decide +kernel
theorem d_M_fits_105 : decode b_M_fits 105 = .ok (.aload_n 0, 1) := by decide +kernel
theorem d_M_fits_106 : decode b_M_fits 106 = .ok (.aload_n 0, 1) := by decide +kernel
theorem d_M_fits_107 : decode b_M_fits 107 = .ok (.aload_n 0, 1) := by decide +kernel
theorem d_M_fits_108 : decode b_M_fits 108 = .ok (.getfield 92, 3) := by decide +kernel
theorem d_M_fits_111 : decode b_M_fits 111 = .ok (.iload 5, 2) := by decide +kernel
theorem d_M_fits_113 : decode b_M_fits 113 = .ok (.iaload, 1) := by decide +kernel
theorem d_M_fits_114 : decode b_M_fits 114 = .ok (.invokevirtual 864, 3) := by decide +kernel
theorem d_M_fits_117 : decode b_M_fits 117 = .ok (.lload 6, 2) := by decide +kernel
theorem d_M_fits_119 : decode b_M_fits 119 = .ok (.invokevirtual 867, 3) := by decide +kernel
theorem d_M_fits_122 : decode b_M_fits 122 = .ok (.ifCond .eq 76, 3) := by decide +kernel
theorem d_M_fits_125 : decode b_M_fits 125 = .ok (.iconst 0, 1) := by decide +kernel
theorem d_M_fits_126 : decode b_M_fits 126 = .ok (.ireturn, 1) := by decide +kernel
theorem d_M_fits_127 : decode b_M_fits 127 = .ok (.iload 8, 2) := by decide +kernel
theorem d_M_fits_129 : decode b_M_fits 129 = .ok (.iconst 3, 1) := by decide +kernel
theorem d_M_fits_130 : decode b_M_fits 130 = .ok (.if_icmp .ne 18, 3) := by decide +kernel
theorem d_M_fits_133 : decode b_M_fits 133 = .ok (.aload_n 0, 1) := by decide +kernel
theorem d_M_fits_134 : decode b_M_fits 134 = .ok (.getfield 88, 3) := by decide +kernel
theorem d_M_fits_137 : decode b_M_fits 137 = .ok (.iload 5, 2) := by decide +kernel
theorem d_M_fits_139 : decode b_M_fits 139 = .ok (.laload, 1) := by decide +kernel
theorem d_M_fits_140 : decode b_M_fits 140 = .ok (.lload 6, 2) := by decide +kernel
theorem d_M_fits_142 : decode b_M_fits 142 = .ok (.lcmp, 1) := by decide +kernel
theorem d_M_fits_143 : decode b_M_fits 143 = .ok (.ifCond .eq 55, 3) := by decide +kernel
theorem d_M_fits_146 : decode b_M_fits 146 = .ok (.iconst 0, 1) := by decide +kernel
theorem d_M_fits_147 : decode b_M_fits 147 = .ok (.ireturn, 1) := by decide +kernel
theorem d_M_fits_148 : decode b_M_fits 148 = .ok (.iload 8, 2) := by decide +kernel
theorem d_M_fits_150 : decode b_M_fits 150 = .ok (.iconst 4, 1) := by decide +kernel
theorem d_M_fits_151 : decode b_M_fits 151 = .ok (.if_icmp .ne 21, 3) := by decide +kernel
theorem d_M_fits_154 : decode b_M_fits 154 = .ok (.aload_n 0, 1) := by decide +kernel
theorem d_M_fits_155 : decode b_M_fits 155 = .ok (.aload_n 0, 1) := by decide +kernel
theorem d_M_fits_156 : decode b_M_fits 156 = .ok (.getfield 92, 3) := by decide +kernel
theorem d_M_fits_159 : decode b_M_fits 159 = .ok (.iload 5, 2) := by decide +kernel
theorem d_M_fits_161 : decode b_M_fits 161 = .ok (.iaload, 1) := by decide +kernel
theorem d_M_fits_162 : decode b_M_fits 162 = .ok (.lload 6, 2) := by decide +kernel
theorem d_M_fits_164 : decode b_M_fits 164 = .ok (.invokevirtual 870, 3) := by decide +kernel
theorem d_M_fits_167 : decode b_M_fits 167 = .ok (.ifCond .ne 31, 3) := by decide +kernel
theorem d_M_fits_170 : decode b_M_fits 170 = .ok (.iconst 0, 1) := by decide +kernel
theorem d_M_fits_171 : decode b_M_fits 171 = .ok (.ireturn, 1) := by decide +kernel
theorem d_M_fits_172 : decode b_M_fits 172 = .ok (.iload 8, 2) := by decide +kernel
theorem d_M_fits_174 : decode b_M_fits 174 = .ok (.iconst 4, 1) := by decide +kernel
theorem d_M_fits_175 : decode b_M_fits 175 = .ok (.if_icmp .le 23, 3) := by decide +kernel
theorem d_M_fits_178 : decode b_M_fits 178 = .ok (.aload_n 0, 1) := by decide +kernel
theorem d_M_fits_179 : decode b_M_fits 179 = .ok (.iload 5, 2) := by decide +kernel
theorem d_M_fits_181 : decode b_M_fits 181 = .ok (.lload 6, 2) := by decide +kernel
theorem d_M_fits_183 : decode b_M_fits 183 = .ok (.iload 4, 2) := by decide +kernel
theorem d_M_fits_185 : decode b_M_fits 185 = .ok (.invokevirtual 873, 3) := by decide +kernel
theorem d_M_fits_188 : decode b_M_fits 188 = .ok (.istore 4, 2) := by decide +kernel
theorem d_M_fits_190 : decode b_M_fits 190 = .ok (.iload 4, 2) := by decide +kernel
theorem d_M_fits_192 : decode b_M_fits 192 = .ok (.iconst (-1), 1) := by decide +kernel
theorem d_M_fits_193 : decode b_M_fits 193 = .ok (.if_icmp .ne 5, 3) := by decide +kernel
theorem d_M_fits_196 : decode b_M_fits 196 = .ok (.iconst 0, 1) := by decide +kernel
theorem d_M_fits_197 : decode b_M_fits 197 = .ok (.ireturn, 1) := by decide +kernel
theorem d_M_fits_198 : decode b_M_fits 198 = .ok (.goto (-181), 3) := by decide +kernel
theorem d_M_fits_201 : decode b_M_fits 201 = .ok (.iconst 1, 1) := by decide +kernel
theorem d_M_fits_202 : decode b_M_fits 202 = .ok (.ireturn, 1) := by decide +kernel
set_option maxRecDepth 100000 in
theorem hl_M_fits : Cond.methodLink R_M 844 y_M_fits ∈ wd_tbl := wd_of 3023 (by decide +kernel) rfl
set_option maxRecDepth 100000 in
theorem hi_M_fits : Cond.instanceMethod y_M_fits ∈ wd_tbl := wd_of 3025 (by decide +kernel) rfl
set_option maxRecDepth 100000 in
theorem hs_M_fits : Cond.selects R_M y_M_fits y_M_fits ∈ wd_tbl := wd_of 213 (by decide +kernel) rfl
theorem hd_M_fits : y_M_fits.cls = R_M ∧ y_M_fits.cls ≠ "java/lang/invoke/MethodHandle" ∧ y_M_fits.cls ≠ "java/lang/invoke/VarHandle" ∧ (parseMethodDescriptor y_M_fits.desc).map (fun d => d.parameters.length) = some 2 := by decide +kernel
def rm_M_fits : Room := { frames := 4, cells := 0, slots := 0, locals := 112 }
theorem rm_M_fits_M_nameAt {R : Room} (hR : R = rm_M_fits) : (rm_M_nameAt).frames + 1 ≤ R.frames ∧ 8 + (3 + 11) + (rm_M_nameAt).locals ≤ R.locals := by subst hR; decide
theorem rm_M_fits_M_order {R : Room} (hR : R = rm_M_fits) : (rm_M_order).frames + 1 ≤ R.frames ∧ 8 + (13 + 11) + (rm_M_order).locals ≤ R.locals := by subst hR; decide
theorem rm_M_fits_M_isString {R : Room} (hR : R = rm_M_fits) : (rm_M_isString).frames + 1 ≤ R.frames ∧ 8 + (7 + 11) + (rm_M_isString).locals ≤ R.locals := by subst hR; decide
theorem rm_M_fits_M_parts1 {R : Room} (hR : R = rm_M_fits) : (rm_M_parts1).frames + 1 ≤ R.frames ∧ 8 + (10 + 11) + (rm_M_parts1).locals ≤ R.locals := by subst hR; decide
def fb_M_fits_198 (N : Nat) (G : (MS → Int32 → Option (MS × Int32))) (u : MS) (v4 : Int32) : Option (MS × Int32) := G u (v4)
set_option maxRecDepth 100000 in
set_option maxHeartbeats 4000000 in
theorem wb_M_fits_198 {p : Program} {l : Launch} {e : Env} {R : Room} {s : State} {m : MethodId} {args : Array Value} {below : List Frame} {meth : Method} {c : Code} {D : va_G} {cl : List vw_C} {cB cI cJ cZ cS : ClassId} {A : Nat → Prop} {iM h0 : Nat} {ad : Nat → Nat} (C0 : MCx p s m args meth c b_M_fits 9 (some .boolean) D cl cB cI cJ cZ cS iM A) (hR : R = rm_M_fits) (N : Nat) (G : (MS → Int32 → Option (MS × Int32))) (hG : (∀ (u : MS) (v4 : Int32) (x : MS × Int32), G u v4 = some x → ∀ (H : Heap) (locs : List Loc), va_P D cl (wM cB cI cJ cZ cS iM h0 ad u) H → va_D A (wM cB cI cJ cZ cS iM h0 ad u) → va_S A s.heap H locs → ∀ (ls : Array Slot), lv_has ls 9 [(0, .ref h0), (4, .int v4)] → W p l e R s m args below meth c H locs 0 0 (MQ below (mQi D cl cB cI cJ cZ cS iM h0 ad A x) args s 0 0 A) (F0 m 17 ls []))) : ∀ (u : MS) (v4 : Int32) (x : MS × Int32), fb_M_fits_198 N G u v4 = some x → ∀ (H : Heap) (locs : List Loc), va_P D cl (wM cB cI cJ cZ cS iM h0 ad u) H → va_D A (wM cB cI cJ cZ cS iM h0 ad u) → va_S A s.heap H locs → ∀ (ls : Array Slot), lv_has ls 9 [(0, .ref h0), (4, .int v4)] → W p l e R s m args below meth c H locs 0 0 (MQ below (mQi D cl cB cI cJ cZ cS iM h0 ad A x) args s 0 0 A) (F0 m 198 ls []) := by
  intro u v4 x hf H locs hP hD hS ls hl
  obtain ⟨hx, hb, hr, hml, ht, hown, hM, hK, hA, hlocks⟩ := id C0
  unfold fb_M_fits_198 at hf
  refine lv_goto (tgt := 17) hx hb d_M_fits_198 (by decide) ?_
  exact hG _ _ _ hf H locs hP hD hS ls (lv_sub hl [0, 1] rfl)
def fb_M_fits_17 (N : Nat) (G : (MS → Int32 → Option (MS × Int32))) (u : MS) (v4 : Int32) : Option (MS × Int32) := br (decide (v4 ≤ 0)) (ck (isb 1) (some (u, 1))) (ck (inb (v4 + (-1)) (ln 160)) (lt (u.2.2.1 160 (v4 + (-1)).toNatClampNeg) (fun y1 => ck (inb (v4 + (-1)) (ln 161)) (lt (u.2.2.2 161 (v4 + (-1)).toNatClampNeg) (fun y2 => ck (inb y1 (ln 33)) (br (decide ((u.2.2.1 33 y1.toNatClampNeg) = 1)) (ck (inb (u.1 133) (ln 94)) (ck (inb (((u.1 133) * 2500) + (u.2.2.1 94 (u.1 133).toNatClampNeg)) (ln 93)) (lt (upJ u 93 (vp_updL (u.2.2.2 93) (((u.1 133) * 2500) + (u.2.2.1 94 (u.1 133).toNatClampNeg)).toNatClampNeg y2)) (fun w7 => ck (inb (w7.1 133) (ln 94)) (ck (inb (w7.1 133) (ln 94)) (lt (upA w7 94 (upd (w7.2.2.1 94) (w7.1 133).toNatClampNeg ((w7.2.2.1 94 (w7.1 133).toNatClampNeg) + 1))) (fun w8 => fb_M_fits_198 N G w8 ((v4 + (-1)))))))))) (br (decide ((u.2.2.1 33 y1.toNatClampNeg) = 2)) (ck (inb y1 (ln 35)) (bnd (fm_M_nameAt N u (u.2.2.1 35 y1.toNatClampNeg)) (fun u5 r5 => bnd (fm_M_order N u5 r5 y2) (fun u6 r6 => br (decide (r6 = 0)) (fb_M_fits_198 N G u6 ((v4 + (-1)))) (ck (isb 0) (some (u6, 0))))))) (br (decide ((u.2.2.1 33 y1.toNatClampNeg) = 3)) (ck (inb y1 (ln 34)) (br (decide ((lg_cmp (u.2.2.2 34 y1.toNatClampNeg) y2) = 0)) (fb_M_fits_198 N G u ((v4 + (-1)))) (ck (isb 0) (some (u, 0))))) (br (decide ((u.2.2.1 33 y1.toNatClampNeg) = 4)) (ck (inb y1 (ln 35)) (bnd (fm_M_isString N u (u.2.2.1 35 y1.toNatClampNeg) y2) (fun u4 r4 => br (decide (r4 = 0)) (ck (isb 0) (some (u4, 0))) (fb_M_fits_198 N G u4 ((v4 + (-1))))))) (br (decide ((u.2.2.1 33 y1.toNatClampNeg) ≤ 4)) (fb_M_fits_198 N G u ((v4 + (-1)))) (bnd (fm_M_parts1 N u y1 y2 (v4 + (-1))) (fun u3 r3 => br (decide (r3 = (-1))) (ck (isb 0) (some (u3, 0))) (fb_M_fits_198 N G u3 (r3))))))))))))))
set_option maxRecDepth 100000 in
set_option maxHeartbeats 4000000 in
theorem wb_M_fits_17 {p : Program} {l : Launch} {e : Env} {R : Room} {s : State} {m : MethodId} {args : Array Value} {below : List Frame} {meth : Method} {c : Code} {D : va_G} {cl : List vw_C} {cB cI cJ cZ cS : ClassId} {A : Nat → Prop} {iM h0 : Nat} {ad : Nat → Nat} (C0 : MCx p s m args meth c b_M_fits 9 (some .boolean) D cl cB cI cJ cZ cS iM A) (hR : R = rm_M_fits) (N : Nat) (G : (MS → Int32 → Option (MS × Int32))) (hG : (∀ (u : MS) (v4 : Int32) (x : MS × Int32), G u v4 = some x → ∀ (H : Heap) (locs : List Loc), va_P D cl (wM cB cI cJ cZ cS iM h0 ad u) H → va_D A (wM cB cI cJ cZ cS iM h0 ad u) → va_S A s.heap H locs → ∀ (ls : Array Slot), lv_has ls 9 [(0, .ref h0), (4, .int v4)] → W p l e R s m args below meth c H locs 0 0 (MQ below (mQi D cl cB cI cJ cZ cS iM h0 ad A x) args s 0 0 A) (F0 m 17 ls []))) : ∀ (u : MS) (v4 : Int32) (x : MS × Int32), fb_M_fits_17 N G u v4 = some x → ∀ (H : Heap) (locs : List Loc), va_P D cl (wM cB cI cJ cZ cS iM h0 ad u) H → va_D A (wM cB cI cJ cZ cS iM h0 ad u) → va_S A s.heap H locs → ∀ (ls : Array Slot), lv_has ls 9 [(0, .ref h0), (4, .int v4)] → W p l e R s m args below meth c H locs 0 0 (MQ below (mQi D cl cB cI cJ cZ cS iM h0 ad A x) args s 0 0 A) (F0 m 17 ls []) := by
  intro u v4 x hf H locs hP hD hS ls hl
  obtain ⟨hx, hb, hr, hml, ht, hown, hM, hK, hA, hlocks⟩ := id C0
  unfold fb_M_fits_17 at hf
  refine lv_iload hx hb d_M_fits_17 (lv_at hl 1 rfl) ?_
  refine lv_if_le (tgt := 201) hx hb d_M_fits_19 (by decide) (fun hc => ?_) (fun hc => ?_)
  · rw [br_p _ hc] at hf
    refine lv_iconst (v := 1) hx hb d_M_fits_201 (by decide) ?_
    obtain ⟨hz, hf⟩ := ck_some hf
    exact mr_z C0 hP hD hS hz hf d_M_fits_202
  · rw [br_n _ hc] at hf
    refine lv_iinc (v := (v4 + (-1))) (lv' := [(4, .int (v4 + (-1))), (0, .ref h0)]) hx hb d_M_fits_22 hl (k := 1) rfl rfl (by decide) rfl (fun ls hl => ?_)
    refine lv_aload_n hx hb d_M_fits_25 rfl (lv_at hl 1 rfl) ?_
    refine ug_R hx hb ht hown hM hK hP 160 (by decide) lk_M_160 (by decide) d_M_fits_26 ?_
    refine lv_iload hx hb d_M_fits_29 (lv_at hl 0 rfl) ?_
    obtain ⟨hi9, hf⟩ := ck_some hf
    refine ul_I hx hb hK hP (by decide) (by decide) hi9 d_M_fits_31 ?_
    obtain ⟨y1, e1, hf⟩ := lt_some hf
    rw [← e1]
    refine lv_istore (lv' := [(5, .int y1), (4, .int (v4 + (-1))), (0, .ref h0)]) hx hb d_M_fits_32 hl (by decide) rfl (fun ls hl => ?_)
    refine lv_aload_n hx hb d_M_fits_34 rfl (lv_at hl 2 rfl) ?_
    refine ug_R hx hb ht hown hM hK hP 161 (by decide) lk_M_161 (by decide) d_M_fits_35 ?_
    refine lv_iload hx hb d_M_fits_38 (lv_at hl 1 rfl) ?_
    obtain ⟨hi9, hf⟩ := ck_some hf
    refine ul_J hx hb hK hP (by decide) (by decide) hi9 d_M_fits_40 ?_
    obtain ⟨y2, e2, hf⟩ := lt_some hf
    rw [← e2]
    refine lv_lstore (lv' := [(6, .long y2), (5, .int y1), (4, .int (v4 + (-1))), (0, .ref h0)]) hx hb d_M_fits_41 hl (by decide) rfl (fun ls hl => ?_)
    refine lv_aload_n hx hb d_M_fits_43 rfl (lv_at hl 3 rfl) ?_
    refine ug_R hx hb ht hown hM hK hP 33 (by decide) lk_M_33 (by decide) d_M_fits_44 ?_
    refine lv_iload hx hb d_M_fits_47 (lv_at hl 1 rfl) ?_
    obtain ⟨hi9, hf⟩ := ck_some hf
    refine ul_B hx hb hK hP (by decide) (by decide) hi9 d_M_fits_49 ?_
    refine lv_istore (lv' := [(8, .int (u.2.2.1 33 y1.toNatClampNeg)), (6, .long y2), (5, .int y1), (4, .int (v4 + (-1))), (0, .ref h0)]) hx hb d_M_fits_50 hl (by decide) rfl (fun ls hl => ?_)
    refine lv_iload hx hb d_M_fits_52 (lv_at hl 0 rfl) ?_
    refine lv_iconst (v := 1) hx hb d_M_fits_54 (by decide) ?_
    refine lv_icmp_ne (tgt := 99) hx hb d_M_fits_55 (by decide) (fun hc => ?_) (fun hc => ?_)
    · rw [br_n _ hc] at hf
      refine lv_iload hx hb d_M_fits_99 (lv_at hl 0 rfl) ?_
      refine lv_iconst (v := 2) hx hb d_M_fits_101 (by decide) ?_
      refine lv_icmp_ne (tgt := 127) hx hb d_M_fits_102 (by decide) (fun hc => ?_) (fun hc => ?_)
      · rw [br_n _ hc] at hf
        refine lv_iload hx hb d_M_fits_127 (lv_at hl 0 rfl) ?_
        refine lv_iconst (v := 3) hx hb d_M_fits_129 (by decide) ?_
        refine lv_icmp_ne (tgt := 148) hx hb d_M_fits_130 (by decide) (fun hc => ?_) (fun hc => ?_)
        · rw [br_n _ hc] at hf
          refine lv_iload hx hb d_M_fits_148 (lv_at hl 0 rfl) ?_
          refine lv_iconst (v := 4) hx hb d_M_fits_150 (by decide) ?_
          refine lv_icmp_ne (tgt := 172) hx hb d_M_fits_151 (by decide) (fun hc => ?_) (fun hc => ?_)
          · rw [br_n _ hc] at hf
            refine lv_iload hx hb d_M_fits_172 (lv_at hl 0 rfl) ?_
            refine lv_iconst (v := 4) hx hb d_M_fits_174 (by decide) ?_
            refine lv_icmp_le (tgt := 198) hx hb d_M_fits_175 (by decide) (fun hc => ?_) (fun hc => ?_)
            · rw [br_p _ hc] at hf
              exact wb_M_fits_198 C0 hR N G hG _ _ _ hf H locs hP hD hS ls (lv_sub hl [4, 3] rfl)
            · rw [br_n _ hc] at hf
              refine lv_aload_n hx hb d_M_fits_178 rfl (lv_at hl 4 rfl) ?_
              refine lv_iload hx hb d_M_fits_179 (lv_at hl 2 rfl) ?_
              refine lv_lload hx hb d_M_fits_181 (lv_at hl 1 rfl) ?_
              refine lv_iload hx hb d_M_fits_183 (lv_at hl 3 rfl) ?_
              obtain ⟨u3, r3, hc3, hf⟩ := bnd_some hf
              refine mV_i (As := [.int y1, .long y2, .int (v4 + (-1))]) (rest := []) C0 hP hD hS (c_M_parts1 N hM hc3) k_M_parts1 hl_M_parts1 hi_M_parts1 hs_M_parts1 hini_M rfl rfl hd_M_parts1 rfl (rm_M_fits_M_parts1 hR) hl.1 (Nat.le_of_ble_eq_true rfl) d_M_fits_185 rfl ⟨Nat.zero_le _, Nat.zero_le _⟩ (fun H locs hP hD hS => ?_)
              refine lv_istore (lv' := [(4, .int r3), (8, .int (u.2.2.1 33 y1.toNatClampNeg)), (6, .long y2), (5, .int y1), (0, .ref h0)]) hx hb d_M_fits_188 hl (by decide) rfl (fun ls hl => ?_)
              refine lv_iload hx hb d_M_fits_190 (lv_at hl 0 rfl) ?_
              refine lv_iconst (v := (-1)) hx hb d_M_fits_192 (by decide) ?_
              refine lv_icmp_ne (tgt := 198) hx hb d_M_fits_193 (by decide) (fun hc => ?_) (fun hc => ?_)
              · rw [br_n _ hc] at hf
                exact wb_M_fits_198 C0 hR N G hG _ _ _ hf H locs hP hD hS ls (lv_sub hl [4, 0] rfl)
              · rw [br_p _ hc] at hf
                refine lv_iconst (v := 0) hx hb d_M_fits_196 (by decide) ?_
                obtain ⟨hz, hf⟩ := ck_some hf
                exact mr_z C0 hP hD hS hz hf d_M_fits_197
          · rw [br_p _ hc] at hf
            refine lv_aload_n hx hb d_M_fits_154 rfl (lv_at hl 4 rfl) ?_
            refine lv_aload_n hx hb d_M_fits_155 rfl (lv_at hl 4 rfl) ?_
            refine ug_R hx hb ht hown hM hK hP 35 (by decide) lk_M_35 (by decide) d_M_fits_156 ?_
            refine lv_iload hx hb d_M_fits_159 (lv_at hl 2 rfl) ?_
            obtain ⟨hi9, hf⟩ := ck_some hf
            refine ul_I hx hb hK hP (by decide) (by decide) hi9 d_M_fits_161 ?_
            refine lv_lload hx hb d_M_fits_162 (lv_at hl 1 rfl) ?_
            obtain ⟨u4, r4, hc4, hf⟩ := bnd_some hf
            refine mV_i (As := [.int (u.2.2.1 35 y1.toNatClampNeg), .long y2]) (rest := []) C0 hP hD hS (c_M_isString N hM hc4) k_M_isString hl_M_isString hi_M_isString hs_M_isString hini_M rfl rfl hd_M_isString rfl (rm_M_fits_M_isString hR) hl.1 (Nat.le_of_ble_eq_true rfl) d_M_fits_164 rfl ⟨Nat.zero_le _, Nat.zero_le _⟩ (fun H locs hP hD hS => ?_)
            refine lv_if_ne (tgt := 198) hx hb d_M_fits_167 (by decide) (fun hc => ?_) (fun hc => ?_)
            · rw [br_n _ hc] at hf
              exact wb_M_fits_198 C0 hR N G hG _ _ _ hf H locs hP hD hS ls (lv_sub hl [4, 3] rfl)
            · rw [br_p _ hc] at hf
              refine lv_iconst (v := 0) hx hb d_M_fits_170 (by decide) ?_
              obtain ⟨hz, hf⟩ := ck_some hf
              exact mr_z C0 hP hD hS hz hf d_M_fits_171
        · rw [br_p _ hc] at hf
          refine lv_aload_n hx hb d_M_fits_133 rfl (lv_at hl 4 rfl) ?_
          refine ug_R hx hb ht hown hM hK hP 34 (by decide) lk_M_34 (by decide) d_M_fits_134 ?_
          refine lv_iload hx hb d_M_fits_137 (lv_at hl 2 rfl) ?_
          obtain ⟨hi9, hf⟩ := ck_some hf
          refine ul_J hx hb hK hP (by decide) (by decide) hi9 d_M_fits_139 ?_
          refine lv_lload hx hb d_M_fits_140 (lv_at hl 1 rfl) ?_
          refine W.lcmp hx hb d_M_fits_142 ?_
          refine lv_if_eq (tgt := 198) hx hb d_M_fits_143 (by decide) (fun hc => ?_) (fun hc => ?_)
          · rw [br_p _ hc] at hf
            exact wb_M_fits_198 C0 hR N G hG _ _ _ hf H locs hP hD hS ls (lv_sub hl [4, 3] rfl)
          · rw [br_n _ hc] at hf
            refine lv_iconst (v := 0) hx hb d_M_fits_146 (by decide) ?_
            obtain ⟨hz, hf⟩ := ck_some hf
            exact mr_z C0 hP hD hS hz hf d_M_fits_147
      · rw [br_p _ hc] at hf
        refine lv_aload_n hx hb d_M_fits_105 rfl (lv_at hl 4 rfl) ?_
        refine lv_aload_n hx hb d_M_fits_106 rfl (lv_at hl 4 rfl) ?_
        refine lv_aload_n hx hb d_M_fits_107 rfl (lv_at hl 4 rfl) ?_
        refine ug_R hx hb ht hown hM hK hP 35 (by decide) lk_M_35 (by decide) d_M_fits_108 ?_
        refine lv_iload hx hb d_M_fits_111 (lv_at hl 2 rfl) ?_
        obtain ⟨hi9, hf⟩ := ck_some hf
        refine ul_I hx hb hK hP (by decide) (by decide) hi9 d_M_fits_113 ?_
        obtain ⟨u5, r5, hc5, hf⟩ := bnd_some hf
        refine mV_l (As := [.int (u.2.2.1 35 y1.toNatClampNeg)]) (rest := [.ref h0]) C0 hP hD hS (c_M_nameAt N hM hc5) k_M_nameAt hl_M_nameAt hi_M_nameAt hs_M_nameAt hini_M rfl rfl hd_M_nameAt rfl (rm_M_fits_M_nameAt hR) hl.1 (Nat.le_of_ble_eq_true rfl) d_M_fits_114 rfl ⟨Nat.zero_le _, Nat.zero_le _⟩ (fun H locs hP hD hS => ?_)
        refine lv_lload hx hb d_M_fits_117 (lv_at hl 1 rfl) ?_
        obtain ⟨u6, r6, hc6, hf⟩ := bnd_some hf
        refine mV_i (As := [.long r5, .long y2]) (rest := []) C0 hP hD hS (c_M_order N hM hc6) k_M_order hl_M_order hi_M_order hs_M_order hini_M rfl rfl hd_M_order rfl (rm_M_fits_M_order hR) hl.1 (Nat.le_of_ble_eq_true rfl) d_M_fits_119 rfl ⟨Nat.zero_le _, Nat.zero_le _⟩ (fun H locs hP hD hS => ?_)
        refine lv_if_eq (tgt := 198) hx hb d_M_fits_122 (by decide) (fun hc => ?_) (fun hc => ?_)
        · rw [br_p _ hc] at hf
          exact wb_M_fits_198 C0 hR N G hG _ _ _ hf H locs hP hD hS ls (lv_sub hl [4, 3] rfl)
        · rw [br_n _ hc] at hf
          refine lv_iconst (v := 0) hx hb d_M_fits_125 (by decide) ?_
          obtain ⟨hz, hf⟩ := ck_some hf
          exact mr_z C0 hP hD hS hz hf d_M_fits_126
    · rw [br_p _ hc] at hf
      refine lv_aload_n hx hb d_M_fits_58 rfl (lv_at hl 4 rfl) ?_
      refine ug_R hx hb ht hown hM hK hP 93 (by decide) lk_M_93 (by decide) d_M_fits_59 ?_
      refine lv_aload_n hx hb d_M_fits_62 rfl (lv_at hl 4 rfl) ?_
      refine ug_I hx hb ht hown hM hK hP 133 (by decide) lk_M_133 (by decide) d_M_fits_63 ?_
      refine lv_sipush (v := 2500) hx hb d_M_fits_66 (by decide) ?_
      refine lv_imul hx hb d_M_fits_69 ?_
      refine lv_aload_n hx hb d_M_fits_70 rfl (lv_at hl 4 rfl) ?_
      refine ug_R hx hb ht hown hM hK hP 94 (by decide) lk_M_94 (by decide) d_M_fits_71 ?_
      refine lv_aload_n hx hb d_M_fits_74 rfl (lv_at hl 4 rfl) ?_
      refine ug_I hx hb ht hown hM hK hP 133 (by decide) lk_M_133 (by decide) d_M_fits_75 ?_
      obtain ⟨hi9, hf⟩ := ck_some hf
      refine ul_I hx hb hK hP (by decide) (by decide) hi9 d_M_fits_78 ?_
      refine lv_iadd hx hb d_M_fits_79 ?_
      refine lv_lload hx hb d_M_fits_80 (lv_at hl 1 rfl) ?_
      obtain ⟨hi9, hf⟩ := ck_some hf
      refine us_J hx hb hK hP hD hS (by decide) (by decide) hi9 d_M_fits_82 (fun H locs hP hD hS => ?_)
      obtain ⟨w7, e7, hf⟩ := lt_some hf
      rw [← e7] at hP hD
      refine lv_aload_n hx hb d_M_fits_83 rfl (lv_at hl 4 rfl) ?_
      refine ug_R hx hb ht hown hM hK hP 94 (by decide) lk_M_94 (by decide) d_M_fits_84 ?_
      refine lv_aload_n hx hb d_M_fits_87 rfl (lv_at hl 4 rfl) ?_
      refine ug_I hx hb ht hown hM hK hP 133 (by decide) lk_M_133 (by decide) d_M_fits_88 ?_
      refine lv_dup2_11 hx hb d_M_fits_91 rfl rfl ?_
      obtain ⟨hi9, hf⟩ := ck_some hf
      refine ul_I hx hb hK hP (by decide) (by decide) hi9 d_M_fits_92 ?_
      refine lv_iconst (v := 1) hx hb d_M_fits_93 (by decide) ?_
      refine lv_iadd hx hb d_M_fits_94 ?_
      obtain ⟨hi9, hf⟩ := ck_some hf
      refine us_I hx hb hK hP hD hS (by decide) (by decide) hi9 d_M_fits_95 (fun H locs hP hD hS => ?_)
      obtain ⟨w8, e8, hf⟩ := lt_some hf
      rw [← e8] at hP hD
      refine lv_goto (tgt := 198) hx hb d_M_fits_96 (by decide) ?_
      exact wb_M_fits_198 C0 hR N G hG _ _ _ hf H locs hP hD hS ls (lv_sub hl [4, 3] rfl)
def fb_M_fits_0 (N : Nat) (G : (MS → Int32 → Option (MS × Int32))) (u : MS) (v1 : Int32) (v2 : Int64) : Option (MS × Int32) := ck (inb (0 : Int32) (ln 160)) (lt (upA u 160 (upd (u.2.2.1 160) (0 : Int32).toNatClampNeg v1)) (fun w9 => ck (inb (0 : Int32) (ln 161)) (lt (upJ w9 161 (vp_updL (w9.2.2.2 161) (0 : Int32).toNatClampNeg v2)) (fun w10 => G w10 (1)))))
set_option maxRecDepth 100000 in
set_option maxHeartbeats 4000000 in
theorem wb_M_fits_0 {p : Program} {l : Launch} {e : Env} {R : Room} {s : State} {m : MethodId} {args : Array Value} {below : List Frame} {meth : Method} {c : Code} {D : va_G} {cl : List vw_C} {cB cI cJ cZ cS : ClassId} {A : Nat → Prop} {iM h0 : Nat} {ad : Nat → Nat} (C0 : MCx p s m args meth c b_M_fits 9 (some .boolean) D cl cB cI cJ cZ cS iM A) (hR : R = rm_M_fits) (N : Nat) (G : (MS → Int32 → Option (MS × Int32))) (hG : (∀ (u : MS) (v4 : Int32) (x : MS × Int32), G u v4 = some x → ∀ (H : Heap) (locs : List Loc), va_P D cl (wM cB cI cJ cZ cS iM h0 ad u) H → va_D A (wM cB cI cJ cZ cS iM h0 ad u) → va_S A s.heap H locs → ∀ (ls : Array Slot), lv_has ls 9 [(0, .ref h0), (4, .int v4)] → W p l e R s m args below meth c H locs 0 0 (MQ below (mQi D cl cB cI cJ cZ cS iM h0 ad A x) args s 0 0 A) (F0 m 17 ls []))) : ∀ (u : MS) (v1 : Int32) (v2 : Int64) (x : MS × Int32), fb_M_fits_0 N G u v1 v2 = some x → ∀ (H : Heap) (locs : List Loc), va_P D cl (wM cB cI cJ cZ cS iM h0 ad u) H → va_D A (wM cB cI cJ cZ cS iM h0 ad u) → va_S A s.heap H locs → ∀ (ls : Array Slot), lv_has ls 9 [(0, .ref h0), (1, .int v1), (2, .long v2)] → W p l e R s m args below meth c H locs 0 0 (MQ below (mQi D cl cB cI cJ cZ cS iM h0 ad A x) args s 0 0 A) (F0 m 0 ls []) := by
  intro u v1 v2 x hf H locs hP hD hS ls hl
  obtain ⟨hx, hb, hr, hml, ht, hown, hM, hK, hA, hlocks⟩ := id C0
  unfold fb_M_fits_0 at hf
  refine lv_iconst (v := 1) hx hb d_M_fits_0 (by decide) ?_
  refine lv_istore (lv' := [(4, .int 1), (0, .ref h0), (1, .int v1), (2, .long v2)]) hx hb d_M_fits_1 hl (by decide) rfl (fun ls hl => ?_)
  refine lv_aload_n hx hb d_M_fits_3 rfl (lv_at hl 1 rfl) ?_
  refine ug_R hx hb ht hown hM hK hP 160 (by decide) lk_M_160 (by decide) d_M_fits_4 ?_
  refine lv_iconst (v := 0) hx hb d_M_fits_7 (by decide) ?_
  refine lv_iload_n hx hb d_M_fits_8 rfl (lv_at hl 2 rfl) ?_
  obtain ⟨hi9, hf⟩ := ck_some hf
  refine us_I hx hb hK hP hD hS (by decide) (by decide) hi9 d_M_fits_9 (fun H locs hP hD hS => ?_)
  obtain ⟨w9, e9, hf⟩ := lt_some hf
  rw [← e9] at hP hD
  refine lv_aload_n hx hb d_M_fits_10 rfl (lv_at hl 1 rfl) ?_
  refine ug_R hx hb ht hown hM hK hP 161 (by decide) lk_M_161 (by decide) d_M_fits_11 ?_
  refine lv_iconst (v := 0) hx hb d_M_fits_14 (by decide) ?_
  refine lv_lload_n hx hb d_M_fits_15 rfl (lv_at hl 3 rfl) ?_
  obtain ⟨hi9, hf⟩ := ck_some hf
  refine us_J hx hb hK hP hD hS (by decide) (by decide) hi9 d_M_fits_16 (fun H locs hP hD hS => ?_)
  obtain ⟨w10, e10, hf⟩ := lt_some hf
  rw [← e10] at hP hD
  exact hG _ _ _ hf H locs hP hD hS ls (lv_sub hl [1, 0] rfl)
def gg_M_fits (N : Nat) : Nat → ((MS → Int32 → Option (MS × Int32)))
  | 0 => fun _ _ => none
  | n + 1 => fb_M_fits_17 N (gg_M_fits N n)
theorem wg_M_fits {p : Program} {l : Launch} {e : Env} {R : Room} {s : State} {m : MethodId} {args : Array Value} {below : List Frame} {meth : Method} {c : Code} {D : va_G} {cl : List vw_C} {cB cI cJ cZ cS : ClassId} {A : Nat → Prop} {iM h0 : Nat} {ad : Nat → Nat} (C0 : MCx p s m args meth c b_M_fits 9 (some .boolean) D cl cB cI cJ cZ cS iM A) (hR : R = rm_M_fits) (N : Nat) : ∀ n : Nat, (∀ (u : MS) (v4 : Int32) (x : MS × Int32), gg_M_fits N n u v4 = some x → ∀ (H : Heap) (locs : List Loc), va_P D cl (wM cB cI cJ cZ cS iM h0 ad u) H → va_D A (wM cB cI cJ cZ cS iM h0 ad u) → va_S A s.heap H locs → ∀ (ls : Array Slot), lv_has ls 9 [(0, .ref h0), (4, .int v4)] → W p l e R s m args below meth c H locs 0 0 (MQ below (mQi D cl cB cI cJ cZ cS iM h0 ad A x) args s 0 0 A) (F0 m 17 ls []))
  | 0 => (fun u v4 x hf => by cases hf)
  | n + 1 => wb_M_fits_17 C0 hR N (gg_M_fits N n) (wg_M_fits C0 hR N n)
def fm_M_fits (N : Nat) (u : MS) (v1 : Int32) (v2 : Int64) : Option (MS × Int32) := fb_M_fits_0 N (gg_M_fits N N) u v1 v2
set_option maxRecDepth 100000 in
set_option maxHeartbeats 4000000 in
theorem c_M_fits (N : Nat) {l : Launch} {D : va_G} {cl : List vw_C} {cB cI cJ cZ cS : ClassId} {iM h0 : Nat} {ad : Nat → Nat} {u : MS} {sz : Nat} {v1 : Int32} {v2 : Int64} {x : MS × Int32} (hM : cl[iM]? = some (R_M, F_M, 171)) (hf : fm_M_fits N u v1 v2 = some x) : Met l y_M_fits (wd_ws y_M_fits b_M_fits 9 (some .boolean)) rm_M_fits (mPc D cl cB cI cJ cZ cS iM h0 ad u sz [.ref h0, .int v1, .long v2]) (mQi D cl cB cI cJ cZ cS iM h0 ad (mA cB cI cJ cZ cS iM h0 ad u sz) x) 0 0 (mA cB cI cJ cZ cS iM h0 ad u sz) :=
  mMet (by decide) rfl hM (Nat.le_of_ble_eq_true rfl) (fun p e s m below meth c ls hsz C0 hP hD hS hl => by
    have hR : rm_M_fits = rm_M_fits := rfl
    exact wb_M_fits_0 C0 hR N (gg_M_fits N N) (wg_M_fits C0 hR N N) u _ _ x hf s.heap [] hP hD hS ls (lv_sub hl [0, 1, 2] rfl))
abbrev b_M_fitsPart : ByteArray := prog_14_method_117_code
def y_M_fitsPart : MethodName := ⟨R_M, "fitsPart", "()Z"⟩
def w_M_fitsPart : List Cond := wd_ws y_M_fitsPart b_M_fitsPart 4 (some .boolean)
set_option maxRecDepth 100000 in
theorem k_M_fitsPart : Cond.code y_M_fitsPart b_M_fitsPart 4 (some .boolean) ∈ wd_tbl := wd_of 3022 rfl rfl
theorem d_M_fitsPart_0 : decode b_M_fitsPart 0 = .ok (.aload_n 0, 1) := by decide +kernel
theorem d_M_fitsPart_1 : decode b_M_fitsPart 1 = .ok (.getfield 838, 3) := by decide +kernel
theorem d_M_fitsPart_4 : decode b_M_fitsPart 4 = .ok (.iconst 2, 1) := by decide +kernel
theorem d_M_fitsPart_5 : decode b_M_fitsPart 5 = .ok (.if_icmp .ne 5, 3) := by decide +kernel
theorem d_M_fitsPart_8 : decode b_M_fitsPart 8 = .ok (.iconst 1, 1) := by decide +kernel
theorem d_M_fitsPart_9 : decode b_M_fitsPart 9 = .ok (.ireturn, 1) := by decide +kernel
theorem d_M_fitsPart_10 : decode b_M_fitsPart 10 = .ok (.aload_n 0, 1) := by decide +kernel
theorem d_M_fitsPart_11 : decode b_M_fitsPart 11 = .ok (.getfield 838, 3) := by decide +kernel
theorem d_M_fitsPart_14 : decode b_M_fitsPart 14 = .ok (.iconst 3, 1) := by decide +kernel
theorem d_M_fitsPart_15 : decode b_M_fitsPart 15 = .ok (.if_icmp .ne 34, 3) := by decide +kernel
theorem d_M_fitsPart_18 : decode b_M_fitsPart 18 = .ok (.aload_n 0, 1) := by decide +kernel
theorem d_M_fitsPart_19 : decode b_M_fitsPart 19 = .ok (.aload_n 0, 1) := by decide +kernel
theorem d_M_fitsPart_20 : decode b_M_fitsPart 20 = .ok (.getfield 104, 3) := by decide +kernel
theorem d_M_fitsPart_23 : decode b_M_fitsPart 23 = .ok (.aload_n 0, 1) := by decide +kernel
theorem d_M_fitsPart_24 : decode b_M_fitsPart 24 = .ok (.getfield 820, 3) := by decide +kernel
theorem d_M_fitsPart_27 : decode b_M_fitsPart 27 = .ok (.iaload, 1) := by decide +kernel
theorem d_M_fitsPart_28 : decode b_M_fitsPart 28 = .ok (.aload_n 0, 1) := by decide +kernel
theorem d_M_fitsPart_29 : decode b_M_fitsPart 29 = .ok (.getfield 249, 3) := by decide +kernel
theorem d_M_fitsPart_32 : decode b_M_fitsPart 32 = .ok (.aload_n 0, 1) := by decide +kernel
theorem d_M_fitsPart_33 : decode b_M_fitsPart 33 = .ok (.getfield 669, 3) := by decide +kernel
theorem d_M_fitsPart_36 : decode b_M_fitsPart 36 = .ok (.bipush 30, 2) := by decide +kernel
theorem d_M_fitsPart_38 : decode b_M_fitsPart 38 = .ok (.imul, 1) := by decide +kernel
theorem d_M_fitsPart_39 : decode b_M_fitsPart 39 = .ok (.aload_n 0, 1) := by decide +kernel
theorem d_M_fitsPart_40 : decode b_M_fitsPart 40 = .ok (.getfield 841, 3) := by decide +kernel
theorem d_M_fitsPart_43 : decode b_M_fitsPart 43 = .ok (.iadd, 1) := by decide +kernel
theorem d_M_fitsPart_44 : decode b_M_fitsPart 44 = .ok (.laload, 1) := by decide +kernel
theorem d_M_fitsPart_45 : decode b_M_fitsPart 45 = .ok (.invokevirtual 844, 3) := by decide +kernel
theorem d_M_fitsPart_48 : decode b_M_fitsPart 48 = .ok (.ireturn, 1) := by decide +kernel
theorem d_M_fitsPart_49 : decode b_M_fitsPart 49 = .ok (.aload_n 0, 1) := by decide +kernel
theorem d_M_fitsPart_50 : decode b_M_fitsPart 50 = .ok (.getfield 838, 3) := by decide +kernel
theorem d_M_fitsPart_53 : decode b_M_fitsPart 53 = .ok (.iconst 1, 1) := by decide +kernel
theorem d_M_fitsPart_54 : decode b_M_fitsPart 54 = .ok (.if_icmp .ne 7, 3) := by decide +kernel
theorem d_M_fitsPart_57 : decode b_M_fitsPart 57 = .ok (.iconst 1, 1) := by decide +kernel
theorem d_M_fitsPart_58 : decode b_M_fitsPart 58 = .ok (.goto 12, 3) := by decide +kernel
theorem d_M_fitsPart_61 : decode b_M_fitsPart 61 = .ok (.aload_n 0, 1) := by decide +kernel
theorem d_M_fitsPart_62 : decode b_M_fitsPart 62 = .ok (.getfield 107, 3) := by decide +kernel
theorem d_M_fitsPart_65 : decode b_M_fitsPart 65 = .ok (.aload_n 0, 1) := by decide +kernel
theorem d_M_fitsPart_66 : decode b_M_fitsPart 66 = .ok (.getfield 820, 3) := by decide +kernel
theorem d_M_fitsPart_69 : decode b_M_fitsPart 69 = .ok (.iaload, 1) := by decide +kernel
theorem d_M_fitsPart_70 : decode b_M_fitsPart 70 = .ok (.istore_n 1, 1) := by decide +kernel
theorem d_M_fitsPart_71 : decode b_M_fitsPart 71 = .ok (.aload_n 0, 1) := by decide +kernel
theorem d_M_fitsPart_72 : decode b_M_fitsPart 72 = .ok (.getfield 104, 3) := by decide +kernel
theorem d_M_fitsPart_75 : decode b_M_fitsPart 75 = .ok (.aload_n 0, 1) := by decide +kernel
theorem d_M_fitsPart_76 : decode b_M_fitsPart 76 = .ok (.getfield 820, 3) := by decide +kernel
theorem d_M_fitsPart_79 : decode b_M_fitsPart 79 = .ok (.iaload, 1) := by decide +kernel
theorem d_M_fitsPart_80 : decode b_M_fitsPart 80 = .ok (.istore_n 2, 1) := by decide +kernel
theorem d_M_fitsPart_81 : decode b_M_fitsPart 81 = .ok (.iload_n 1, 1) := by decide +kernel
theorem d_M_fitsPart_82 : decode b_M_fitsPart 82 = .ok (.iconst 1, 1) := by decide +kernel
theorem d_M_fitsPart_83 : decode b_M_fitsPart 83 = .ok (.isub, 1) := by decide +kernel
theorem d_M_fitsPart_84 : decode b_M_fitsPart 84 = .ok (.istore_n 3, 1) := by decide +kernel
theorem d_M_fitsPart_85 : decode b_M_fitsPart 85 = .ok (.iload_n 3, 1) := by decide +kernel
theorem d_M_fitsPart_86 : decode b_M_fitsPart 86 = .ok (.ifCond .lt 31, 3) := by decide +kernel
theorem d_M_fitsPart_89 : decode b_M_fitsPart 89 = .ok (.aload_n 0, 1) := by decide +kernel
theorem d_M_fitsPart_90 : decode b_M_fitsPart 90 = .ok (.iload_n 2, 1) := by decide +kernel
theorem d_M_fitsPart_91 : decode b_M_fitsPart 91 = .ok (.aload_n 0, 1) := by decide +kernel
theorem d_M_fitsPart_92 : decode b_M_fitsPart 92 = .ok (.iload_n 3, 1) := by decide +kernel
theorem d_M_fitsPart_93 : decode b_M_fitsPart 93 = .ok (.invokevirtual 848, 3) := by decide +kernel
theorem d_M_fitsPart_96 : decode b_M_fitsPart 96 = .ok (.invokevirtual 844, 3) := by decide +kernel
theorem d_M_fitsPart_99 : decode b_M_fitsPart 99 = .ok (.ifCond .ne 5, 3) := by decide +kernel
theorem d_M_fitsPart_102 : decode b_M_fitsPart 102 = .ok (.iconst 0, 1) := by decide +kernel
theorem d_M_fitsPart_103 : decode b_M_fitsPart 103 = .ok (.ireturn, 1) := by decide +kernel
theorem d_M_fitsPart_104 : decode b_M_fitsPart 104 = .ok (.aload_n 0, 1) := by decide +kernel
theorem d_M_fitsPart_105 : decode b_M_fitsPart 105 = .ok (.getfield 98, 3) := by decide +kernel
theorem d_M_fitsPart_108 : decode b_M_fitsPart 108 = .ok (.iload_n 2, 1) := by decide +kernel
theorem d_M_fitsPart_109 : decode b_M_fitsPart 109 = .ok (.iaload, 1) := by decide +kernel
theorem d_M_fitsPart_110 : decode b_M_fitsPart 110 = .ok (.istore_n 2, 1) := by decide +kernel
theorem d_M_fitsPart_111 : decode b_M_fitsPart 111 = .ok (.iinc 3 (-1), 3) := by decide +kernel
theorem d_M_fitsPart_114 : decode b_M_fitsPart 114 = .ok (.goto (-29), 3) := by decide +kernel
theorem d_M_fitsPart_117 : decode b_M_fitsPart 117 = .ok (.iconst 1, 1) := by decide +kernel
theorem d_M_fitsPart_118 : decode b_M_fitsPart 118 = .ok (.ireturn, 1) := by decide +kernel
set_option maxRecDepth 100000 in
theorem hl_M_fitsPart : Cond.methodLink R_M 832 y_M_fitsPart ∈ wd_tbl := wd_of 3019 (by decide +kernel) rfl
set_option maxRecDepth 100000 in
theorem hi_M_fitsPart : Cond.instanceMethod y_M_fitsPart ∈ wd_tbl := wd_of 3021 (by decide +kernel) rfl
set_option maxRecDepth 100000 in
theorem hs_M_fitsPart : Cond.selects R_M y_M_fitsPart y_M_fitsPart ∈ wd_tbl := wd_of 212 (by decide +kernel) rfl
theorem hd_M_fitsPart : y_M_fitsPart.cls = R_M ∧ y_M_fitsPart.cls ≠ "java/lang/invoke/MethodHandle" ∧ y_M_fitsPart.cls ≠ "java/lang/invoke/VarHandle" ∧ (parseMethodDescriptor y_M_fitsPart.desc).map (fun d => d.parameters.length) = some 0 := by decide +kernel
def rm_M_fitsPart : Room := { frames := 5, cells := 0, slots := 0, locals := 140 }
theorem rm_M_fitsPart_M_fits {R : Room} (hR : R = rm_M_fitsPart) : (rm_M_fits).frames + 1 ≤ R.frames ∧ 8 + (9 + 11) + (rm_M_fits).locals ≤ R.locals := by subst hR; decide
theorem rm_M_fitsPart_M_top {R : Room} (hR : R = rm_M_fitsPart) : (rm_M_top).frames + 1 ≤ R.frames ∧ 8 + (2 + 11) + (rm_M_top).locals ≤ R.locals := by subst hR; decide
def fb_M_fitsPart_85 (N : Nat) (G : (MS → Int32 → Int32 → Option (MS × Int32))) (u : MS) (v2 : Int32) (v3 : Int32) : Option (MS × Int32) := br (decide (v3 < 0)) (ck (isb 1) (some (u, 1))) (bnd (fm_M_top N u v3) (fun u1 r1 => bnd (fm_M_fits N u1 v2 r1) (fun u2 r2 => br (decide (r2 = 0)) (ck (isb 0) (some (u2, 0))) (ck (inb v2 (ln 37)) (G u2 ((u2.2.2.1 37 v2.toNatClampNeg)) ((v3 + (-1))))))))
set_option maxRecDepth 100000 in
set_option maxHeartbeats 4000000 in
theorem wb_M_fitsPart_85 {p : Program} {l : Launch} {e : Env} {R : Room} {s : State} {m : MethodId} {args : Array Value} {below : List Frame} {meth : Method} {c : Code} {D : va_G} {cl : List vw_C} {cB cI cJ cZ cS : ClassId} {A : Nat → Prop} {iM h0 : Nat} {ad : Nat → Nat} (C0 : MCx p s m args meth c b_M_fitsPart 4 (some .boolean) D cl cB cI cJ cZ cS iM A) (hR : R = rm_M_fitsPart) (N : Nat) (G : (MS → Int32 → Int32 → Option (MS × Int32))) (hG : (∀ (u : MS) (v2 : Int32) (v3 : Int32) (x : MS × Int32), G u v2 v3 = some x → ∀ (H : Heap) (locs : List Loc), va_P D cl (wM cB cI cJ cZ cS iM h0 ad u) H → va_D A (wM cB cI cJ cZ cS iM h0 ad u) → va_S A s.heap H locs → ∀ (ls : Array Slot), lv_has ls 4 [(0, .ref h0), (2, .int v2), (3, .int v3)] → W p l e R s m args below meth c H locs 0 0 (MQ below (mQi D cl cB cI cJ cZ cS iM h0 ad A x) args s 0 0 A) (F0 m 85 ls []))) : ∀ (u : MS) (v2 : Int32) (v3 : Int32) (x : MS × Int32), fb_M_fitsPart_85 N G u v2 v3 = some x → ∀ (H : Heap) (locs : List Loc), va_P D cl (wM cB cI cJ cZ cS iM h0 ad u) H → va_D A (wM cB cI cJ cZ cS iM h0 ad u) → va_S A s.heap H locs → ∀ (ls : Array Slot), lv_has ls 4 [(0, .ref h0), (2, .int v2), (3, .int v3)] → W p l e R s m args below meth c H locs 0 0 (MQ below (mQi D cl cB cI cJ cZ cS iM h0 ad A x) args s 0 0 A) (F0 m 85 ls []) := by
  intro u v2 v3 x hf H locs hP hD hS ls hl
  obtain ⟨hx, hb, hr, hml, ht, hown, hM, hK, hA, hlocks⟩ := id C0
  unfold fb_M_fitsPart_85 at hf
  refine lv_iload_n hx hb d_M_fitsPart_85 rfl (lv_at hl 2 rfl) ?_
  refine lv_if_lt (tgt := 117) hx hb d_M_fitsPart_86 (by decide) (fun hc => ?_) (fun hc => ?_)
  · rw [br_p _ hc] at hf
    refine lv_iconst (v := 1) hx hb d_M_fitsPart_117 (by decide) ?_
    obtain ⟨hz, hf⟩ := ck_some hf
    exact mr_z C0 hP hD hS hz hf d_M_fitsPart_118
  · rw [br_n _ hc] at hf
    refine lv_aload_n hx hb d_M_fitsPart_89 rfl (lv_at hl 0 rfl) ?_
    refine lv_iload_n hx hb d_M_fitsPart_90 rfl (lv_at hl 1 rfl) ?_
    refine lv_aload_n hx hb d_M_fitsPart_91 rfl (lv_at hl 0 rfl) ?_
    refine lv_iload_n hx hb d_M_fitsPart_92 rfl (lv_at hl 2 rfl) ?_
    obtain ⟨u1, r1, hc1, hf⟩ := bnd_some hf
    refine mV_l (As := [.int v3]) (rest := [.int v2, .ref h0]) C0 hP hD hS (c_M_top N hM hc1) k_M_top hl_M_top hi_M_top hs_M_top hini_M rfl rfl hd_M_top rfl (rm_M_fitsPart_M_top hR) hl.1 (Nat.le_of_ble_eq_true rfl) d_M_fitsPart_93 rfl ⟨Nat.zero_le _, Nat.zero_le _⟩ (fun H locs hP hD hS => ?_)
    obtain ⟨u2, r2, hc2, hf⟩ := bnd_some hf
    refine mV_i (As := [.int v2, .long r1]) (rest := []) C0 hP hD hS (c_M_fits N hM hc2) k_M_fits hl_M_fits hi_M_fits hs_M_fits hini_M rfl rfl hd_M_fits rfl (rm_M_fitsPart_M_fits hR) hl.1 (Nat.le_of_ble_eq_true rfl) d_M_fitsPart_96 rfl ⟨Nat.zero_le _, Nat.zero_le _⟩ (fun H locs hP hD hS => ?_)
    refine lv_if_ne (tgt := 104) hx hb d_M_fitsPart_99 (by decide) (fun hc => ?_) (fun hc => ?_)
    · rw [br_n _ hc] at hf
      refine lv_aload_n hx hb d_M_fitsPart_104 rfl (lv_at hl 0 rfl) ?_
      refine ug_R hx hb ht hown hM hK hP 37 (by decide) lk_M_37 (by decide) d_M_fitsPart_105 ?_
      refine lv_iload_n hx hb d_M_fitsPart_108 rfl (lv_at hl 1 rfl) ?_
      obtain ⟨hi9, hf⟩ := ck_some hf
      refine ul_I hx hb hK hP (by decide) (by decide) hi9 d_M_fitsPart_109 ?_
      refine lv_istore_n (lv' := [(2, .int (u2.2.2.1 37 v2.toNatClampNeg)), (0, .ref h0), (3, .int v3)]) hx hb d_M_fitsPart_110 rfl hl (by decide) rfl (fun ls hl => ?_)
      refine lv_iinc (v := (v3 + (-1))) (lv' := [(3, .int (v3 + (-1))), (2, .int (u2.2.2.1 37 v2.toNatClampNeg)), (0, .ref h0)]) hx hb d_M_fitsPart_111 hl (k := 2) rfl rfl (by decide) rfl (fun ls hl => ?_)
      refine lv_goto (tgt := 85) hx hb d_M_fitsPart_114 (by decide) ?_
      exact hG _ _ _ _ hf H locs hP hD hS ls (lv_sub hl [2, 1, 0] rfl)
    · rw [br_p _ hc] at hf
      refine lv_iconst (v := 0) hx hb d_M_fitsPart_102 (by decide) ?_
      obtain ⟨hz, hf⟩ := ck_some hf
      exact mr_z C0 hP hD hS hz hf d_M_fitsPart_103
def fb_M_fitsPart_70 (N : Nat) (G : (MS → Int32 → Int32 → Option (MS × Int32))) (u : MS) (t0 : Int32) : Option (MS × Int32) := ck (inb (u.1 154) (ln 40)) (lt (u.2.2.1 40 (u.1 154).toNatClampNeg) (fun y3 => G u (y3) ((t0 - 1))))
set_option maxRecDepth 100000 in
set_option maxHeartbeats 4000000 in
theorem wb_M_fitsPart_70 {p : Program} {l : Launch} {e : Env} {R : Room} {s : State} {m : MethodId} {args : Array Value} {below : List Frame} {meth : Method} {c : Code} {D : va_G} {cl : List vw_C} {cB cI cJ cZ cS : ClassId} {A : Nat → Prop} {iM h0 : Nat} {ad : Nat → Nat} (C0 : MCx p s m args meth c b_M_fitsPart 4 (some .boolean) D cl cB cI cJ cZ cS iM A) (hR : R = rm_M_fitsPart) (N : Nat) (G : (MS → Int32 → Int32 → Option (MS × Int32))) (hG : (∀ (u : MS) (v2 : Int32) (v3 : Int32) (x : MS × Int32), G u v2 v3 = some x → ∀ (H : Heap) (locs : List Loc), va_P D cl (wM cB cI cJ cZ cS iM h0 ad u) H → va_D A (wM cB cI cJ cZ cS iM h0 ad u) → va_S A s.heap H locs → ∀ (ls : Array Slot), lv_has ls 4 [(0, .ref h0), (2, .int v2), (3, .int v3)] → W p l e R s m args below meth c H locs 0 0 (MQ below (mQi D cl cB cI cJ cZ cS iM h0 ad A x) args s 0 0 A) (F0 m 85 ls []))) : ∀ (u : MS) (t0 : Int32) (x : MS × Int32), fb_M_fitsPart_70 N G u t0 = some x → ∀ (H : Heap) (locs : List Loc), va_P D cl (wM cB cI cJ cZ cS iM h0 ad u) H → va_D A (wM cB cI cJ cZ cS iM h0 ad u) → va_S A s.heap H locs → ∀ (ls : Array Slot), lv_has ls 4 [(0, .ref h0)] → W p l e R s m args below meth c H locs 0 0 (MQ below (mQi D cl cB cI cJ cZ cS iM h0 ad A x) args s 0 0 A) (F0 m 70 ls [.int t0]) := by
  intro u t0 x hf H locs hP hD hS ls hl
  obtain ⟨hx, hb, hr, hml, ht, hown, hM, hK, hA, hlocks⟩ := id C0
  unfold fb_M_fitsPart_70 at hf
  refine lv_istore_n (lv' := [(1, .int t0), (0, .ref h0)]) hx hb d_M_fitsPart_70 rfl hl (by decide) rfl (fun ls hl => ?_)
  refine lv_aload_n hx hb d_M_fitsPart_71 rfl (lv_at hl 1 rfl) ?_
  refine ug_R hx hb ht hown hM hK hP 40 (by decide) lk_M_40 (by decide) d_M_fitsPart_72 ?_
  refine lv_aload_n hx hb d_M_fitsPart_75 rfl (lv_at hl 1 rfl) ?_
  refine ug_I hx hb ht hown hM hK hP 154 (by decide) lk_M_154 (by decide) d_M_fitsPart_76 ?_
  obtain ⟨hi9, hf⟩ := ck_some hf
  refine ul_I hx hb hK hP (by decide) (by decide) hi9 d_M_fitsPart_79 ?_
  obtain ⟨y3, e3, hf⟩ := lt_some hf
  rw [← e3]
  refine lv_istore_n (lv' := [(2, .int y3), (1, .int t0), (0, .ref h0)]) hx hb d_M_fitsPart_80 rfl hl (by decide) rfl (fun ls hl => ?_)
  refine lv_iload_n hx hb d_M_fitsPart_81 rfl (lv_at hl 1 rfl) ?_
  refine lv_iconst (v := 1) hx hb d_M_fitsPart_82 (by decide) ?_
  refine lv_isub hx hb d_M_fitsPart_83 ?_
  refine lv_istore_n (lv' := [(3, .int (t0 - 1)), (2, .int y3), (1, .int t0), (0, .ref h0)]) hx hb d_M_fitsPart_84 rfl hl (by decide) rfl (fun ls hl => ?_)
  exact hG _ _ _ _ hf H locs hP hD hS ls (lv_sub hl [3, 1, 0] rfl)
def fb_M_fitsPart_0 (N : Nat) (G : (MS → Int32 → Int32 → Option (MS × Int32))) (u : MS) : Option (MS × Int32) := br (decide ((u.1 153) = 2)) (ck (isb 1) (some (u, 1))) (br (decide ((u.1 153) = 3)) (ck (inb (u.1 154) (ln 40)) (ck (inb (((u.1 133) * 30) + (u.1 158)) (ln 107)) (bnd (fm_M_fits N u (u.2.2.1 40 (u.1 154).toNatClampNeg) (u.2.2.2 107 (((u.1 133) * 30) + (u.1 158)).toNatClampNeg)) (fun u4 r4 => ck (isb r4) (some (u4, r4)))))) (br (decide ((u.1 153) = 1)) (fb_M_fitsPart_70 N G u (1)) (ck (inb (u.1 154) (ln 41)) (fb_M_fitsPart_70 N G u ((u.2.2.1 41 (u.1 154).toNatClampNeg))))))
set_option maxRecDepth 100000 in
set_option maxHeartbeats 4000000 in
theorem wb_M_fitsPart_0 {p : Program} {l : Launch} {e : Env} {R : Room} {s : State} {m : MethodId} {args : Array Value} {below : List Frame} {meth : Method} {c : Code} {D : va_G} {cl : List vw_C} {cB cI cJ cZ cS : ClassId} {A : Nat → Prop} {iM h0 : Nat} {ad : Nat → Nat} (C0 : MCx p s m args meth c b_M_fitsPart 4 (some .boolean) D cl cB cI cJ cZ cS iM A) (hR : R = rm_M_fitsPart) (N : Nat) (G : (MS → Int32 → Int32 → Option (MS × Int32))) (hG : (∀ (u : MS) (v2 : Int32) (v3 : Int32) (x : MS × Int32), G u v2 v3 = some x → ∀ (H : Heap) (locs : List Loc), va_P D cl (wM cB cI cJ cZ cS iM h0 ad u) H → va_D A (wM cB cI cJ cZ cS iM h0 ad u) → va_S A s.heap H locs → ∀ (ls : Array Slot), lv_has ls 4 [(0, .ref h0), (2, .int v2), (3, .int v3)] → W p l e R s m args below meth c H locs 0 0 (MQ below (mQi D cl cB cI cJ cZ cS iM h0 ad A x) args s 0 0 A) (F0 m 85 ls []))) : ∀ (u : MS) (x : MS × Int32), fb_M_fitsPart_0 N G u = some x → ∀ (H : Heap) (locs : List Loc), va_P D cl (wM cB cI cJ cZ cS iM h0 ad u) H → va_D A (wM cB cI cJ cZ cS iM h0 ad u) → va_S A s.heap H locs → ∀ (ls : Array Slot), lv_has ls 4 [(0, .ref h0)] → W p l e R s m args below meth c H locs 0 0 (MQ below (mQi D cl cB cI cJ cZ cS iM h0 ad A x) args s 0 0 A) (F0 m 0 ls []) := by
  intro u x hf H locs hP hD hS ls hl
  obtain ⟨hx, hb, hr, hml, ht, hown, hM, hK, hA, hlocks⟩ := id C0
  unfold fb_M_fitsPart_0 at hf
  refine lv_aload_n hx hb d_M_fitsPart_0 rfl (lv_at hl 0 rfl) ?_
  refine ug_I hx hb ht hown hM hK hP 153 (by decide) lk_M_153 (by decide) d_M_fitsPart_1 ?_
  refine lv_iconst (v := 2) hx hb d_M_fitsPart_4 (by decide) ?_
  refine lv_icmp_ne (tgt := 10) hx hb d_M_fitsPart_5 (by decide) (fun hc => ?_) (fun hc => ?_)
  · rw [br_n _ hc] at hf
    refine lv_aload_n hx hb d_M_fitsPart_10 rfl (lv_at hl 0 rfl) ?_
    refine ug_I hx hb ht hown hM hK hP 153 (by decide) lk_M_153 (by decide) d_M_fitsPart_11 ?_
    refine lv_iconst (v := 3) hx hb d_M_fitsPart_14 (by decide) ?_
    refine lv_icmp_ne (tgt := 49) hx hb d_M_fitsPart_15 (by decide) (fun hc => ?_) (fun hc => ?_)
    · rw [br_n _ hc] at hf
      refine lv_aload_n hx hb d_M_fitsPart_49 rfl (lv_at hl 0 rfl) ?_
      refine ug_I hx hb ht hown hM hK hP 153 (by decide) lk_M_153 (by decide) d_M_fitsPart_50 ?_
      refine lv_iconst (v := 1) hx hb d_M_fitsPart_53 (by decide) ?_
      refine lv_icmp_ne (tgt := 61) hx hb d_M_fitsPart_54 (by decide) (fun hc => ?_) (fun hc => ?_)
      · rw [br_n _ hc] at hf
        refine lv_aload_n hx hb d_M_fitsPart_61 rfl (lv_at hl 0 rfl) ?_
        refine ug_R hx hb ht hown hM hK hP 41 (by decide) lk_M_41 (by decide) d_M_fitsPart_62 ?_
        refine lv_aload_n hx hb d_M_fitsPart_65 rfl (lv_at hl 0 rfl) ?_
        refine ug_I hx hb ht hown hM hK hP 154 (by decide) lk_M_154 (by decide) d_M_fitsPart_66 ?_
        obtain ⟨hi9, hf⟩ := ck_some hf
        refine ul_I hx hb hK hP (by decide) (by decide) hi9 d_M_fitsPart_69 ?_
        exact wb_M_fitsPart_70 C0 hR N G hG _ _ _ hf H locs hP hD hS ls (lv_sub hl [0] rfl)
      · rw [br_p _ hc] at hf
        refine lv_iconst (v := 1) hx hb d_M_fitsPart_57 (by decide) ?_
        refine lv_goto (tgt := 70) hx hb d_M_fitsPart_58 (by decide) ?_
        exact wb_M_fitsPart_70 C0 hR N G hG _ _ _ hf H locs hP hD hS ls (lv_sub hl [0] rfl)
    · rw [br_p _ hc] at hf
      refine lv_aload_n hx hb d_M_fitsPart_18 rfl (lv_at hl 0 rfl) ?_
      refine lv_aload_n hx hb d_M_fitsPart_19 rfl (lv_at hl 0 rfl) ?_
      refine ug_R hx hb ht hown hM hK hP 40 (by decide) lk_M_40 (by decide) d_M_fitsPart_20 ?_
      refine lv_aload_n hx hb d_M_fitsPart_23 rfl (lv_at hl 0 rfl) ?_
      refine ug_I hx hb ht hown hM hK hP 154 (by decide) lk_M_154 (by decide) d_M_fitsPart_24 ?_
      obtain ⟨hi9, hf⟩ := ck_some hf
      refine ul_I hx hb hK hP (by decide) (by decide) hi9 d_M_fitsPart_27 ?_
      refine lv_aload_n hx hb d_M_fitsPart_28 rfl (lv_at hl 0 rfl) ?_
      refine ug_R hx hb ht hown hM hK hP 107 (by decide) lk_M_107 (by decide) d_M_fitsPart_29 ?_
      refine lv_aload_n hx hb d_M_fitsPart_32 rfl (lv_at hl 0 rfl) ?_
      refine ug_I hx hb ht hown hM hK hP 133 (by decide) lk_M_133 (by decide) d_M_fitsPart_33 ?_
      refine lv_bipush (v := 30) hx hb d_M_fitsPart_36 (by decide) ?_
      refine lv_imul hx hb d_M_fitsPart_38 ?_
      refine lv_aload_n hx hb d_M_fitsPart_39 rfl (lv_at hl 0 rfl) ?_
      refine ug_I hx hb ht hown hM hK hP 158 (by decide) lk_M_158 (by decide) d_M_fitsPart_40 ?_
      refine lv_iadd hx hb d_M_fitsPart_43 ?_
      obtain ⟨hi9, hf⟩ := ck_some hf
      refine ul_J hx hb hK hP (by decide) (by decide) hi9 d_M_fitsPart_44 ?_
      obtain ⟨u4, r4, hc4, hf⟩ := bnd_some hf
      refine mV_i (As := [.int (u.2.2.1 40 (u.1 154).toNatClampNeg), .long (u.2.2.2 107 (((u.1 133) * 30) + (u.1 158)).toNatClampNeg)]) (rest := []) C0 hP hD hS (c_M_fits N hM hc4) k_M_fits hl_M_fits hi_M_fits hs_M_fits hini_M rfl rfl hd_M_fits rfl (rm_M_fitsPart_M_fits hR) hl.1 (Nat.le_of_ble_eq_true rfl) d_M_fitsPart_45 rfl ⟨Nat.zero_le _, Nat.zero_le _⟩ (fun H locs hP hD hS => ?_)
      obtain ⟨hz, hf⟩ := ck_some hf
      exact mr_z C0 hP hD hS hz hf d_M_fitsPart_48
  · rw [br_p _ hc] at hf
    refine lv_iconst (v := 1) hx hb d_M_fitsPart_8 (by decide) ?_
    obtain ⟨hz, hf⟩ := ck_some hf
    exact mr_z C0 hP hD hS hz hf d_M_fitsPart_9
def gg_M_fitsPart (N : Nat) : Nat → ((MS → Int32 → Int32 → Option (MS × Int32)))
  | 0 => fun _ _ _ => none
  | n + 1 => fb_M_fitsPart_85 N (gg_M_fitsPart N n)
theorem wg_M_fitsPart {p : Program} {l : Launch} {e : Env} {R : Room} {s : State} {m : MethodId} {args : Array Value} {below : List Frame} {meth : Method} {c : Code} {D : va_G} {cl : List vw_C} {cB cI cJ cZ cS : ClassId} {A : Nat → Prop} {iM h0 : Nat} {ad : Nat → Nat} (C0 : MCx p s m args meth c b_M_fitsPart 4 (some .boolean) D cl cB cI cJ cZ cS iM A) (hR : R = rm_M_fitsPart) (N : Nat) : ∀ n : Nat, (∀ (u : MS) (v2 : Int32) (v3 : Int32) (x : MS × Int32), gg_M_fitsPart N n u v2 v3 = some x → ∀ (H : Heap) (locs : List Loc), va_P D cl (wM cB cI cJ cZ cS iM h0 ad u) H → va_D A (wM cB cI cJ cZ cS iM h0 ad u) → va_S A s.heap H locs → ∀ (ls : Array Slot), lv_has ls 4 [(0, .ref h0), (2, .int v2), (3, .int v3)] → W p l e R s m args below meth c H locs 0 0 (MQ below (mQi D cl cB cI cJ cZ cS iM h0 ad A x) args s 0 0 A) (F0 m 85 ls []))
  | 0 => (fun u v2 v3 x hf => by cases hf)
  | n + 1 => wb_M_fitsPart_85 C0 hR N (gg_M_fitsPart N n) (wg_M_fitsPart C0 hR N n)
def fm_M_fitsPart (N : Nat) (u : MS) : Option (MS × Int32) := fb_M_fitsPart_0 N (gg_M_fitsPart N N) u
set_option maxRecDepth 100000 in
set_option maxHeartbeats 4000000 in
theorem c_M_fitsPart (N : Nat) {l : Launch} {D : va_G} {cl : List vw_C} {cB cI cJ cZ cS : ClassId} {iM h0 : Nat} {ad : Nat → Nat} {u : MS} {sz : Nat} {x : MS × Int32} (hM : cl[iM]? = some (R_M, F_M, 171)) (hf : fm_M_fitsPart N u = some x) : Met l y_M_fitsPart (wd_ws y_M_fitsPart b_M_fitsPart 4 (some .boolean)) rm_M_fitsPart (mPc D cl cB cI cJ cZ cS iM h0 ad u sz [.ref h0]) (mQi D cl cB cI cJ cZ cS iM h0 ad (mA cB cI cJ cZ cS iM h0 ad u sz) x) 0 0 (mA cB cI cJ cZ cS iM h0 ad u sz) :=
  mMet (by decide) rfl hM (Nat.le_of_ble_eq_true rfl) (fun p e s m below meth c ls hsz C0 hP hD hS hl => by
    have hR : rm_M_fitsPart = rm_M_fitsPart := rfl
    exact wb_M_fitsPart_0 C0 hR N (gg_M_fitsPart N N) (wg_M_fitsPart C0 hR N N) u x hf s.heap [] hP hD hS ls (lv_sub hl [0] rfl))
