def fb_M_copySize_132 (N : Nat) (G : (MS → Int32 → Int32 → Int32 → Option (MS × Int32)) × (MS → Int32 → Int32 → Int32 → Int64 → Int32 → Int32 → Option (MS × Int32))) (u : MS) (t0 : Int32) : Option (MS × Int32) := some (u, t0)
set_option maxRecDepth 100000 in
set_option maxHeartbeats 4000000 in
theorem wb_M_copySize_132 {p : Program} {l : Launch} {e : Env} {R : Room} {s : State} {m : MethodId} {args : Array Value} {below : List Frame} {meth : Method} {c : Code} {D : va_G} {cl : List vw_C} {cB cI cJ cZ cS : ClassId} {A : Nat → Prop} {iM h0 : Nat} {ad : Nat → Nat} (C0 : MCx p s m args meth c b_M_copySize 10 (some .int) D cl cB cI cJ cZ cS iM A) (hR : R = rm_M_copySize) (N : Nat) (G : (MS → Int32 → Int32 → Int32 → Option (MS × Int32)) × (MS → Int32 → Int32 → Int32 → Int64 → Int32 → Int32 → Option (MS × Int32))) (hG : (∀ (u : MS) (v1 : Int32) (v4 : Int32) (v5 : Int32) (x : MS × Int32), G.1 u v1 v4 v5 = some x → ∀ (H : Heap) (locs : List Loc), va_P D cl (wM cB cI cJ cZ cS iM h0 ad u) H → va_D A (wM cB cI cJ cZ cS iM h0 ad u) → va_S A s.heap H locs → ∀ (ls : Array Slot), lv_has ls 10 [(0, .ref h0), (1, .int v1), (4, .int v4), (5, .int v5)] → W p l e R s m args below meth c H locs 0 0 (MQ below (mQi D cl cB cI cJ cZ cS iM h0 ad A x) args s 0 0 A) (F0 m 13 ls [])) ∧ (∀ (u : MS) (v1 : Int32) (v4 : Int32) (v5 : Int32) (v6 : Int64) (v8 : Int32) (v9 : Int32) (x : MS × Int32), G.2 u v1 v4 v5 v6 v8 v9 = some x → ∀ (H : Heap) (locs : List Loc), va_P D cl (wM cB cI cJ cZ cS iM h0 ad u) H → va_D A (wM cB cI cJ cZ cS iM h0 ad u) → va_S A s.heap H locs → ∀ (ls : Array Slot), lv_has ls 10 [(0, .ref h0), (1, .int v1), (4, .int v4), (5, .int v5), (6, .long v6), (8, .int v8), (9, .int v9)] → W p l e R s m args below meth c H locs 0 0 (MQ below (mQi D cl cB cI cJ cZ cS iM h0 ad A x) args s 0 0 A) (F0 m 69 ls []))) : ∀ (u : MS) (t0 : Int32) (x : MS × Int32), fb_M_copySize_132 N G u t0 = some x → ∀ (H : Heap) (locs : List Loc), va_P D cl (wM cB cI cJ cZ cS iM h0 ad u) H → va_D A (wM cB cI cJ cZ cS iM h0 ad u) → va_S A s.heap H locs → ∀ (ls : Array Slot), lv_has ls 10 [] → W p l e R s m args below meth c H locs 0 0 (MQ below (mQi D cl cB cI cJ cZ cS iM h0 ad A x) args s 0 0 A) (F0 m 132 ls [.int t0]) := by
  intro u t0 x hf H locs hP hD hS ls hl
  obtain ⟨hx, hb, hr, hml, ht, hown, hM, hK, hA, hlocks⟩ := id C0
  unfold fb_M_copySize_132 at hf
  exact mr_i C0 hP hD hS hf d_M_copySize_132
def fb_M_copySize_116 (N : Nat) (G : (MS → Int32 → Int32 → Int32 → Option (MS × Int32)) × (MS → Int32 → Int32 → Int32 → Int64 → Int32 → Int32 → Option (MS × Int32))) (u : MS) (v4 : Int32) : Option (MS × Int32) := br (decide (v4 ≤ 500)) (fb_M_copySize_132 N G u (v4)) (fb_M_copySize_132 N G u (501))
set_option maxRecDepth 100000 in
set_option maxHeartbeats 4000000 in
theorem wb_M_copySize_116 {p : Program} {l : Launch} {e : Env} {R : Room} {s : State} {m : MethodId} {args : Array Value} {below : List Frame} {meth : Method} {c : Code} {D : va_G} {cl : List vw_C} {cB cI cJ cZ cS : ClassId} {A : Nat → Prop} {iM h0 : Nat} {ad : Nat → Nat} (C0 : MCx p s m args meth c b_M_copySize 10 (some .int) D cl cB cI cJ cZ cS iM A) (hR : R = rm_M_copySize) (N : Nat) (G : (MS → Int32 → Int32 → Int32 → Option (MS × Int32)) × (MS → Int32 → Int32 → Int32 → Int64 → Int32 → Int32 → Option (MS × Int32))) (hG : (∀ (u : MS) (v1 : Int32) (v4 : Int32) (v5 : Int32) (x : MS × Int32), G.1 u v1 v4 v5 = some x → ∀ (H : Heap) (locs : List Loc), va_P D cl (wM cB cI cJ cZ cS iM h0 ad u) H → va_D A (wM cB cI cJ cZ cS iM h0 ad u) → va_S A s.heap H locs → ∀ (ls : Array Slot), lv_has ls 10 [(0, .ref h0), (1, .int v1), (4, .int v4), (5, .int v5)] → W p l e R s m args below meth c H locs 0 0 (MQ below (mQi D cl cB cI cJ cZ cS iM h0 ad A x) args s 0 0 A) (F0 m 13 ls [])) ∧ (∀ (u : MS) (v1 : Int32) (v4 : Int32) (v5 : Int32) (v6 : Int64) (v8 : Int32) (v9 : Int32) (x : MS × Int32), G.2 u v1 v4 v5 v6 v8 v9 = some x → ∀ (H : Heap) (locs : List Loc), va_P D cl (wM cB cI cJ cZ cS iM h0 ad u) H → va_D A (wM cB cI cJ cZ cS iM h0 ad u) → va_S A s.heap H locs → ∀ (ls : Array Slot), lv_has ls 10 [(0, .ref h0), (1, .int v1), (4, .int v4), (5, .int v5), (6, .long v6), (8, .int v8), (9, .int v9)] → W p l e R s m args below meth c H locs 0 0 (MQ below (mQi D cl cB cI cJ cZ cS iM h0 ad A x) args s 0 0 A) (F0 m 69 ls []))) : ∀ (u : MS) (v4 : Int32) (x : MS × Int32), fb_M_copySize_116 N G u v4 = some x → ∀ (H : Heap) (locs : List Loc), va_P D cl (wM cB cI cJ cZ cS iM h0 ad u) H → va_D A (wM cB cI cJ cZ cS iM h0 ad u) → va_S A s.heap H locs → ∀ (ls : Array Slot), lv_has ls 10 [(4, .int v4)] → W p l e R s m args below meth c H locs 0 0 (MQ below (mQi D cl cB cI cJ cZ cS iM h0 ad A x) args s 0 0 A) (F0 m 116 ls []) := by
  intro u v4 x hf H locs hP hD hS ls hl
  obtain ⟨hx, hb, hr, hml, ht, hown, hM, hK, hA, hlocks⟩ := id C0
  unfold fb_M_copySize_116 at hf
  refine lv_iload hx hb d_M_copySize_116 (lv_at hl 0 rfl) ?_
  refine lv_sipush (v := 500) hx hb d_M_copySize_118 (by decide) ?_
  refine lv_icmp_le (tgt := 130) hx hb d_M_copySize_121 (by decide) (fun hc => ?_) (fun hc => ?_)
  · rw [br_p _ hc] at hf
    refine lv_iload hx hb d_M_copySize_130 (lv_at hl 0 rfl) ?_
    exact wb_M_copySize_132 C0 hR N G hG _ _ _ hf H locs hP hD hS ls (lv_sub hl [] rfl)
  · rw [br_n _ hc] at hf
    refine lv_sipush (v := 501) hx hb d_M_copySize_124 (by decide) ?_
    refine lv_goto (tgt := 132) hx hb d_M_copySize_127 (by decide) ?_
    exact wb_M_copySize_132 C0 hR N G hG _ _ _ hf H locs hP hD hS ls (lv_sub hl [] rfl)
def fb_M_copySize_113 (N : Nat) (G : (MS → Int32 → Int32 → Int32 → Option (MS × Int32)) × (MS → Int32 → Int32 → Int32 → Int64 → Int32 → Int32 → Option (MS × Int32))) (u : MS) (v1 : Int32) (v4 : Int32) (v5 : Int32) : Option (MS × Int32) := G.1 u (v1) (v4) (v5)
set_option maxRecDepth 100000 in
set_option maxHeartbeats 4000000 in
theorem wb_M_copySize_113 {p : Program} {l : Launch} {e : Env} {R : Room} {s : State} {m : MethodId} {args : Array Value} {below : List Frame} {meth : Method} {c : Code} {D : va_G} {cl : List vw_C} {cB cI cJ cZ cS : ClassId} {A : Nat → Prop} {iM h0 : Nat} {ad : Nat → Nat} (C0 : MCx p s m args meth c b_M_copySize 10 (some .int) D cl cB cI cJ cZ cS iM A) (hR : R = rm_M_copySize) (N : Nat) (G : (MS → Int32 → Int32 → Int32 → Option (MS × Int32)) × (MS → Int32 → Int32 → Int32 → Int64 → Int32 → Int32 → Option (MS × Int32))) (hG : (∀ (u : MS) (v1 : Int32) (v4 : Int32) (v5 : Int32) (x : MS × Int32), G.1 u v1 v4 v5 = some x → ∀ (H : Heap) (locs : List Loc), va_P D cl (wM cB cI cJ cZ cS iM h0 ad u) H → va_D A (wM cB cI cJ cZ cS iM h0 ad u) → va_S A s.heap H locs → ∀ (ls : Array Slot), lv_has ls 10 [(0, .ref h0), (1, .int v1), (4, .int v4), (5, .int v5)] → W p l e R s m args below meth c H locs 0 0 (MQ below (mQi D cl cB cI cJ cZ cS iM h0 ad A x) args s 0 0 A) (F0 m 13 ls [])) ∧ (∀ (u : MS) (v1 : Int32) (v4 : Int32) (v5 : Int32) (v6 : Int64) (v8 : Int32) (v9 : Int32) (x : MS × Int32), G.2 u v1 v4 v5 v6 v8 v9 = some x → ∀ (H : Heap) (locs : List Loc), va_P D cl (wM cB cI cJ cZ cS iM h0 ad u) H → va_D A (wM cB cI cJ cZ cS iM h0 ad u) → va_S A s.heap H locs → ∀ (ls : Array Slot), lv_has ls 10 [(0, .ref h0), (1, .int v1), (4, .int v4), (5, .int v5), (6, .long v6), (8, .int v8), (9, .int v9)] → W p l e R s m args below meth c H locs 0 0 (MQ below (mQi D cl cB cI cJ cZ cS iM h0 ad A x) args s 0 0 A) (F0 m 69 ls []))) : ∀ (u : MS) (v1 : Int32) (v4 : Int32) (v5 : Int32) (x : MS × Int32), fb_M_copySize_113 N G u v1 v4 v5 = some x → ∀ (H : Heap) (locs : List Loc), va_P D cl (wM cB cI cJ cZ cS iM h0 ad u) H → va_D A (wM cB cI cJ cZ cS iM h0 ad u) → va_S A s.heap H locs → ∀ (ls : Array Slot), lv_has ls 10 [(0, .ref h0), (1, .int v1), (4, .int v4), (5, .int v5)] → W p l e R s m args below meth c H locs 0 0 (MQ below (mQi D cl cB cI cJ cZ cS iM h0 ad A x) args s 0 0 A) (F0 m 113 ls []) := by
  intro u v1 v4 v5 x hf H locs hP hD hS ls hl
  obtain ⟨hx, hb, hr, hml, ht, hown, hM, hK, hA, hlocks⟩ := id C0
  unfold fb_M_copySize_113 at hf
  refine lv_goto (tgt := 13) hx hb d_M_copySize_113 (by decide) ?_
  exact hG.1 _ _ _ _ _ hf H locs hP hD hS ls (lv_sub hl [0, 1, 2, 3] rfl)
def fb_M_copySize_69 (N : Nat) (G : (MS → Int32 → Int32 → Int32 → Option (MS × Int32)) × (MS → Int32 → Int32 → Int32 → Int64 → Int32 → Int32 → Option (MS × Int32))) (u : MS) (v1 : Int32) (v4 : Int32) (v5 : Int32) (v6 : Int64) (v8 : Int32) (v9 : Int32) : Option (MS × Int32) := br (decide (v8 ≤ v9)) (fb_M_copySize_113 N G u (v1) (v4) (v5)) (br (decide (500 < v4)) (fb_M_copySize_113 N G u (v1) (v4) (v5)) (bnd (fm_M_valueOf N u v6) (fun u1 r1 => bnd (fm_M_cell N u1 v1 (r1 + v9)) (fun u2 r2 => ck (inb v5 (ln 141)) (lt (upJ u2 141 (vp_updL (u2.2.2.2 141) v5.toNatClampNeg r2)) (fun w3 => G.2 w3 (v1) (v4) ((v5 + 1)) (v6) (v8) ((v9 + 1))))))))
set_option maxRecDepth 100000 in
set_option maxHeartbeats 4000000 in
theorem wb_M_copySize_69 {p : Program} {l : Launch} {e : Env} {R : Room} {s : State} {m : MethodId} {args : Array Value} {below : List Frame} {meth : Method} {c : Code} {D : va_G} {cl : List vw_C} {cB cI cJ cZ cS : ClassId} {A : Nat → Prop} {iM h0 : Nat} {ad : Nat → Nat} (C0 : MCx p s m args meth c b_M_copySize 10 (some .int) D cl cB cI cJ cZ cS iM A) (hR : R = rm_M_copySize) (N : Nat) (G : (MS → Int32 → Int32 → Int32 → Option (MS × Int32)) × (MS → Int32 → Int32 → Int32 → Int64 → Int32 → Int32 → Option (MS × Int32))) (hG : (∀ (u : MS) (v1 : Int32) (v4 : Int32) (v5 : Int32) (x : MS × Int32), G.1 u v1 v4 v5 = some x → ∀ (H : Heap) (locs : List Loc), va_P D cl (wM cB cI cJ cZ cS iM h0 ad u) H → va_D A (wM cB cI cJ cZ cS iM h0 ad u) → va_S A s.heap H locs → ∀ (ls : Array Slot), lv_has ls 10 [(0, .ref h0), (1, .int v1), (4, .int v4), (5, .int v5)] → W p l e R s m args below meth c H locs 0 0 (MQ below (mQi D cl cB cI cJ cZ cS iM h0 ad A x) args s 0 0 A) (F0 m 13 ls [])) ∧ (∀ (u : MS) (v1 : Int32) (v4 : Int32) (v5 : Int32) (v6 : Int64) (v8 : Int32) (v9 : Int32) (x : MS × Int32), G.2 u v1 v4 v5 v6 v8 v9 = some x → ∀ (H : Heap) (locs : List Loc), va_P D cl (wM cB cI cJ cZ cS iM h0 ad u) H → va_D A (wM cB cI cJ cZ cS iM h0 ad u) → va_S A s.heap H locs → ∀ (ls : Array Slot), lv_has ls 10 [(0, .ref h0), (1, .int v1), (4, .int v4), (5, .int v5), (6, .long v6), (8, .int v8), (9, .int v9)] → W p l e R s m args below meth c H locs 0 0 (MQ below (mQi D cl cB cI cJ cZ cS iM h0 ad A x) args s 0 0 A) (F0 m 69 ls []))) : ∀ (u : MS) (v1 : Int32) (v4 : Int32) (v5 : Int32) (v6 : Int64) (v8 : Int32) (v9 : Int32) (x : MS × Int32), fb_M_copySize_69 N G u v1 v4 v5 v6 v8 v9 = some x → ∀ (H : Heap) (locs : List Loc), va_P D cl (wM cB cI cJ cZ cS iM h0 ad u) H → va_D A (wM cB cI cJ cZ cS iM h0 ad u) → va_S A s.heap H locs → ∀ (ls : Array Slot), lv_has ls 10 [(0, .ref h0), (1, .int v1), (4, .int v4), (5, .int v5), (6, .long v6), (8, .int v8), (9, .int v9)] → W p l e R s m args below meth c H locs 0 0 (MQ below (mQi D cl cB cI cJ cZ cS iM h0 ad A x) args s 0 0 A) (F0 m 69 ls []) := by
  intro u v1 v4 v5 v6 v8 v9 x hf H locs hP hD hS ls hl
  obtain ⟨hx, hb, hr, hml, ht, hown, hM, hK, hA, hlocks⟩ := id C0
  unfold fb_M_copySize_69 at hf
  refine lv_iload hx hb d_M_copySize_69 (lv_at hl 6 rfl) ?_
  refine lv_iload hx hb d_M_copySize_71 (lv_at hl 5 rfl) ?_
  refine lv_icmp_ge (tgt := 113) hx hb d_M_copySize_73 (by decide) (fun hc => ?_) (fun hc => ?_)
  · rw [br_p _ hc] at hf
    exact wb_M_copySize_113 C0 hR N G hG _ _ _ _ _ hf H locs hP hD hS ls (lv_sub hl [0, 1, 2, 3] rfl)
  · rw [br_n _ hc] at hf
    refine lv_iload hx hb d_M_copySize_76 (lv_at hl 2 rfl) ?_
    refine lv_sipush (v := 500) hx hb d_M_copySize_78 (by decide) ?_
    refine lv_icmp_gt (tgt := 113) hx hb d_M_copySize_81 (by decide) (fun hc => ?_) (fun hc => ?_)
    · rw [br_p _ hc] at hf
      exact wb_M_copySize_113 C0 hR N G hG _ _ _ _ _ hf H locs hP hD hS ls (lv_sub hl [0, 1, 2, 3] rfl)
    · rw [br_n _ hc] at hf
      refine lv_aload_n hx hb d_M_copySize_84 rfl (lv_at hl 0 rfl) ?_
      refine ug_R hx hb ht hown hM hK hP 141 (by decide) lk_M_141 (by decide) d_M_copySize_85 ?_
      refine lv_iload hx hb d_M_copySize_88 (lv_at hl 3 rfl) ?_
      refine lv_aload_n hx hb d_M_copySize_90 rfl (lv_at hl 0 rfl) ?_
      refine lv_iload_n hx hb d_M_copySize_91 rfl (lv_at hl 1 rfl) ?_
      refine lv_lload hx hb d_M_copySize_92 (lv_at hl 4 rfl) ?_
      obtain ⟨u1, r1, hc1, hf⟩ := bnd_some hf
      refine mS_i (As := [.long v6]) (rest := [.int v1, .ref h0, .int v5, .ref (ad 141)]) C0 hP hD hS (c_M_valueOf N hM hc1) k_M_valueOf hl_M_valueOf ht_M_valueOf hini_M rfl rfl hd_M_valueOf rfl (rm_M_copySize_M_valueOf hR) hl.1 (Nat.le_of_ble_eq_true rfl) d_M_copySize_94 rfl ⟨Nat.zero_le _, Nat.zero_le _⟩ (fun H locs hP hD hS => ?_)
      refine lv_iload hx hb d_M_copySize_97 (lv_at hl 6 rfl) ?_
      refine lv_iadd hx hb d_M_copySize_99 ?_
      obtain ⟨u2, r2, hc2, hf⟩ := bnd_some hf
      refine mV_l (As := [.int v1, .int (r1 + v9)]) (rest := [.int v5, .ref (ad 141)]) C0 hP hD hS (c_M_cell N hM hc2) k_M_cell hl_M_cell hi_M_cell hs_M_cell hini_M rfl rfl hd_M_cell rfl (rm_M_copySize_M_cell hR) hl.1 (Nat.le_of_ble_eq_true rfl) d_M_copySize_100 rfl ⟨Nat.zero_le _, Nat.zero_le _⟩ (fun H locs hP hD hS => ?_)
      obtain ⟨hi9, hf⟩ := ck_some hf
      refine us_J hx hb hK hP hD hS (by decide) (by decide) hi9 d_M_copySize_103 (fun H locs hP hD hS => ?_)
      obtain ⟨w3, e3, hf⟩ := lt_some hf
      rw [← e3] at hP hD
      refine lv_iinc (v := (v5 + 1)) (lv' := [(5, .int (v5 + 1)), (0, .ref h0), (1, .int v1), (4, .int v4), (6, .long v6), (8, .int v8), (9, .int v9)]) hx hb d_M_copySize_104 hl (k := 3) rfl rfl (by decide) rfl (fun ls hl => ?_)
      refine lv_iinc (v := (v9 + 1)) (lv' := [(9, .int (v9 + 1)), (5, .int (v5 + 1)), (0, .ref h0), (1, .int v1), (4, .int v4), (6, .long v6), (8, .int v8)]) hx hb d_M_copySize_107 hl (k := 6) rfl rfl (by decide) rfl (fun ls hl => ?_)
      refine lv_goto (tgt := 69) hx hb d_M_copySize_110 (by decide) ?_
      exact hG.2 _ _ _ _ _ _ _ _ hf H locs hP hD hS ls (lv_sub hl [2, 3, 4, 1, 5, 6, 0] rfl)
def fb_M_copySize_13 (N : Nat) (G : (MS → Int32 → Int32 → Int32 → Option (MS × Int32)) × (MS → Int32 → Int32 → Int32 → Int64 → Int32 → Int32 → Option (MS × Int32))) (u : MS) (v1 : Int32) (v4 : Int32) (v5 : Int32) : Option (MS × Int32) := br (decide (v5 ≤ 0)) (fb_M_copySize_116 N G u (v4)) (br (decide (500 < v4)) (fb_M_copySize_116 N G u (v4)) (ck (inb (v5 + (-1)) (ln 141)) (lt (u.2.2.2 141 (v5 + (-1)).toNatClampNeg) (fun y4 => bnd (fm_M_inHeap N u y4) (fun u5 r5 => br (decide (r5 = 0)) (fb_M_copySize_113 N G u5 (v1) (v4) ((v5 + (-1)))) (bnd (fm_M_sizeOf N u5 v1 y4) (fun u6 r6 => bnd (fm_M_partsFrom N u6 y4) (fun u7 r7 => G.2 u7 (v1) ((v4 + r6)) ((v5 + (-1))) (y4) (r6) (r7)))))))))
set_option maxRecDepth 100000 in
set_option maxHeartbeats 4000000 in
theorem wb_M_copySize_13 {p : Program} {l : Launch} {e : Env} {R : Room} {s : State} {m : MethodId} {args : Array Value} {below : List Frame} {meth : Method} {c : Code} {D : va_G} {cl : List vw_C} {cB cI cJ cZ cS : ClassId} {A : Nat → Prop} {iM h0 : Nat} {ad : Nat → Nat} (C0 : MCx p s m args meth c b_M_copySize 10 (some .int) D cl cB cI cJ cZ cS iM A) (hR : R = rm_M_copySize) (N : Nat) (G : (MS → Int32 → Int32 → Int32 → Option (MS × Int32)) × (MS → Int32 → Int32 → Int32 → Int64 → Int32 → Int32 → Option (MS × Int32))) (hG : (∀ (u : MS) (v1 : Int32) (v4 : Int32) (v5 : Int32) (x : MS × Int32), G.1 u v1 v4 v5 = some x → ∀ (H : Heap) (locs : List Loc), va_P D cl (wM cB cI cJ cZ cS iM h0 ad u) H → va_D A (wM cB cI cJ cZ cS iM h0 ad u) → va_S A s.heap H locs → ∀ (ls : Array Slot), lv_has ls 10 [(0, .ref h0), (1, .int v1), (4, .int v4), (5, .int v5)] → W p l e R s m args below meth c H locs 0 0 (MQ below (mQi D cl cB cI cJ cZ cS iM h0 ad A x) args s 0 0 A) (F0 m 13 ls [])) ∧ (∀ (u : MS) (v1 : Int32) (v4 : Int32) (v5 : Int32) (v6 : Int64) (v8 : Int32) (v9 : Int32) (x : MS × Int32), G.2 u v1 v4 v5 v6 v8 v9 = some x → ∀ (H : Heap) (locs : List Loc), va_P D cl (wM cB cI cJ cZ cS iM h0 ad u) H → va_D A (wM cB cI cJ cZ cS iM h0 ad u) → va_S A s.heap H locs → ∀ (ls : Array Slot), lv_has ls 10 [(0, .ref h0), (1, .int v1), (4, .int v4), (5, .int v5), (6, .long v6), (8, .int v8), (9, .int v9)] → W p l e R s m args below meth c H locs 0 0 (MQ below (mQi D cl cB cI cJ cZ cS iM h0 ad A x) args s 0 0 A) (F0 m 69 ls []))) : ∀ (u : MS) (v1 : Int32) (v4 : Int32) (v5 : Int32) (x : MS × Int32), fb_M_copySize_13 N G u v1 v4 v5 = some x → ∀ (H : Heap) (locs : List Loc), va_P D cl (wM cB cI cJ cZ cS iM h0 ad u) H → va_D A (wM cB cI cJ cZ cS iM h0 ad u) → va_S A s.heap H locs → ∀ (ls : Array Slot), lv_has ls 10 [(0, .ref h0), (1, .int v1), (4, .int v4), (5, .int v5)] → W p l e R s m args below meth c H locs 0 0 (MQ below (mQi D cl cB cI cJ cZ cS iM h0 ad A x) args s 0 0 A) (F0 m 13 ls []) := by
  intro u v1 v4 v5 x hf H locs hP hD hS ls hl
  obtain ⟨hx, hb, hr, hml, ht, hown, hM, hK, hA, hlocks⟩ := id C0
  unfold fb_M_copySize_13 at hf
  refine lv_iload hx hb d_M_copySize_13 (lv_at hl 3 rfl) ?_
  refine lv_if_le (tgt := 116) hx hb d_M_copySize_15 (by decide) (fun hc => ?_) (fun hc => ?_)
  · rw [br_p _ hc] at hf
    exact wb_M_copySize_116 C0 hR N G hG _ _ _ hf H locs hP hD hS ls (lv_sub hl [2] rfl)
  · rw [br_n _ hc] at hf
    refine lv_iload hx hb d_M_copySize_18 (lv_at hl 2 rfl) ?_
    refine lv_sipush (v := 500) hx hb d_M_copySize_20 (by decide) ?_
    refine lv_icmp_gt (tgt := 116) hx hb d_M_copySize_23 (by decide) (fun hc => ?_) (fun hc => ?_)
    · rw [br_p _ hc] at hf
      exact wb_M_copySize_116 C0 hR N G hG _ _ _ hf H locs hP hD hS ls (lv_sub hl [2] rfl)
    · rw [br_n _ hc] at hf
      refine lv_iinc (v := (v5 + (-1))) (lv' := [(5, .int (v5 + (-1))), (0, .ref h0), (1, .int v1), (4, .int v4)]) hx hb d_M_copySize_26 hl (k := 3) rfl rfl (by decide) rfl (fun ls hl => ?_)
      refine lv_aload_n hx hb d_M_copySize_29 rfl (lv_at hl 1 rfl) ?_
      refine ug_R hx hb ht hown hM hK hP 141 (by decide) lk_M_141 (by decide) d_M_copySize_30 ?_
      refine lv_iload hx hb d_M_copySize_33 (lv_at hl 0 rfl) ?_
      obtain ⟨hi9, hf⟩ := ck_some hf
      refine ul_J hx hb hK hP (by decide) (by decide) hi9 d_M_copySize_35 ?_
      obtain ⟨y4, e4, hf⟩ := lt_some hf
      rw [← e4]
      refine lv_lstore (lv' := [(6, .long y4), (5, .int (v5 + (-1))), (0, .ref h0), (1, .int v1), (4, .int v4)]) hx hb d_M_copySize_36 hl (by decide) rfl (fun ls hl => ?_)
      refine lv_lload hx hb d_M_copySize_38 (lv_at hl 0 rfl) ?_
      obtain ⟨u5, r5, hc5, hf⟩ := bnd_some hf
      refine mS_i (As := [.long y4]) (rest := []) C0 hP hD hS (c_M_inHeap N hM hc5) k_M_inHeap hl_M_inHeap ht_M_inHeap hini_M rfl rfl hd_M_inHeap rfl (rm_M_copySize_M_inHeap hR) hl.1 (Nat.le_of_ble_eq_true rfl) d_M_copySize_40 rfl ⟨Nat.zero_le _, Nat.zero_le _⟩ (fun H locs hP hD hS => ?_)
      refine lv_if_eq (tgt := 113) hx hb d_M_copySize_43 (by decide) (fun hc => ?_) (fun hc => ?_)
      · rw [br_p _ hc] at hf
        exact wb_M_copySize_113 C0 hR N G hG _ _ _ _ _ hf H locs hP hD hS ls (lv_sub hl [2, 3, 4, 1] rfl)
      · rw [br_n _ hc] at hf
        refine lv_aload_n hx hb d_M_copySize_46 rfl (lv_at hl 2 rfl) ?_
        refine lv_iload_n hx hb d_M_copySize_47 rfl (lv_at hl 3 rfl) ?_
        refine lv_lload hx hb d_M_copySize_48 (lv_at hl 0 rfl) ?_
        obtain ⟨u6, r6, hc6, hf⟩ := bnd_some hf
        refine mV_i (As := [.int v1, .long y4]) (rest := []) C0 hP hD hS (c_M_sizeOf N hM hc6) k_M_sizeOf hl_M_sizeOf hi_M_sizeOf hs_M_sizeOf hini_M rfl rfl hd_M_sizeOf rfl (rm_M_copySize_M_sizeOf hR) hl.1 (Nat.le_of_ble_eq_true rfl) d_M_copySize_50 rfl ⟨Nat.zero_le _, Nat.zero_le _⟩ (fun H locs hP hD hS => ?_)
        refine lv_istore (lv' := [(8, .int r6), (6, .long y4), (5, .int (v5 + (-1))), (0, .ref h0), (1, .int v1), (4, .int v4)]) hx hb d_M_copySize_53 hl (by decide) rfl (fun ls hl => ?_)
        refine lv_iload hx hb d_M_copySize_55 (lv_at hl 5 rfl) ?_
        refine lv_iload hx hb d_M_copySize_57 (lv_at hl 0 rfl) ?_
        refine lv_iadd hx hb d_M_copySize_59 ?_
        refine lv_istore (lv' := [(4, .int (v4 + r6)), (8, .int r6), (6, .long y4), (5, .int (v5 + (-1))), (0, .ref h0), (1, .int v1)]) hx hb d_M_copySize_60 hl (by decide) rfl (fun ls hl => ?_)
        refine lv_lload hx hb d_M_copySize_62 (lv_at hl 2 rfl) ?_
        obtain ⟨u7, r7, hc7, hf⟩ := bnd_some hf
        refine mS_i (As := [.long y4]) (rest := []) C0 hP hD hS (c_M_partsFrom N hM hc7) k_M_partsFrom hl_M_partsFrom ht_M_partsFrom hini_M rfl rfl hd_M_partsFrom rfl (rm_M_copySize_M_partsFrom hR) hl.1 (Nat.le_of_ble_eq_true rfl) d_M_copySize_64 rfl ⟨Nat.zero_le _, Nat.zero_le _⟩ (fun H locs hP hD hS => ?_)
        refine lv_istore (lv' := [(9, .int r7), (4, .int (v4 + r6)), (8, .int r6), (6, .long y4), (5, .int (v5 + (-1))), (0, .ref h0), (1, .int v1)]) hx hb d_M_copySize_67 hl (by decide) rfl (fun ls hl => ?_)
        exact hG.2 _ _ _ _ _ _ _ _ hf H locs hP hD hS ls (lv_sub hl [5, 6, 1, 4, 3, 2, 0] rfl)
def fb_M_copySize_0 (N : Nat) (G : (MS → Int32 → Int32 → Int32 → Option (MS × Int32)) × (MS → Int32 → Int32 → Int32 → Int64 → Int32 → Int32 → Option (MS × Int32))) (u : MS) (v1 : Int32) (v2 : Int64) : Option (MS × Int32) := ck (inb (0 : Int32) (ln 141)) (lt (upJ u 141 (vp_updL (u.2.2.2 141) (0 : Int32).toNatClampNeg v2)) (fun w8 => G.1 w8 (v1) (0) (1)))
set_option maxRecDepth 100000 in
set_option maxHeartbeats 4000000 in
theorem wb_M_copySize_0 {p : Program} {l : Launch} {e : Env} {R : Room} {s : State} {m : MethodId} {args : Array Value} {below : List Frame} {meth : Method} {c : Code} {D : va_G} {cl : List vw_C} {cB cI cJ cZ cS : ClassId} {A : Nat → Prop} {iM h0 : Nat} {ad : Nat → Nat} (C0 : MCx p s m args meth c b_M_copySize 10 (some .int) D cl cB cI cJ cZ cS iM A) (hR : R = rm_M_copySize) (N : Nat) (G : (MS → Int32 → Int32 → Int32 → Option (MS × Int32)) × (MS → Int32 → Int32 → Int32 → Int64 → Int32 → Int32 → Option (MS × Int32))) (hG : (∀ (u : MS) (v1 : Int32) (v4 : Int32) (v5 : Int32) (x : MS × Int32), G.1 u v1 v4 v5 = some x → ∀ (H : Heap) (locs : List Loc), va_P D cl (wM cB cI cJ cZ cS iM h0 ad u) H → va_D A (wM cB cI cJ cZ cS iM h0 ad u) → va_S A s.heap H locs → ∀ (ls : Array Slot), lv_has ls 10 [(0, .ref h0), (1, .int v1), (4, .int v4), (5, .int v5)] → W p l e R s m args below meth c H locs 0 0 (MQ below (mQi D cl cB cI cJ cZ cS iM h0 ad A x) args s 0 0 A) (F0 m 13 ls [])) ∧ (∀ (u : MS) (v1 : Int32) (v4 : Int32) (v5 : Int32) (v6 : Int64) (v8 : Int32) (v9 : Int32) (x : MS × Int32), G.2 u v1 v4 v5 v6 v8 v9 = some x → ∀ (H : Heap) (locs : List Loc), va_P D cl (wM cB cI cJ cZ cS iM h0 ad u) H → va_D A (wM cB cI cJ cZ cS iM h0 ad u) → va_S A s.heap H locs → ∀ (ls : Array Slot), lv_has ls 10 [(0, .ref h0), (1, .int v1), (4, .int v4), (5, .int v5), (6, .long v6), (8, .int v8), (9, .int v9)] → W p l e R s m args below meth c H locs 0 0 (MQ below (mQi D cl cB cI cJ cZ cS iM h0 ad A x) args s 0 0 A) (F0 m 69 ls []))) : ∀ (u : MS) (v1 : Int32) (v2 : Int64) (x : MS × Int32), fb_M_copySize_0 N G u v1 v2 = some x → ∀ (H : Heap) (locs : List Loc), va_P D cl (wM cB cI cJ cZ cS iM h0 ad u) H → va_D A (wM cB cI cJ cZ cS iM h0 ad u) → va_S A s.heap H locs → ∀ (ls : Array Slot), lv_has ls 10 [(0, .ref h0), (1, .int v1), (2, .long v2)] → W p l e R s m args below meth c H locs 0 0 (MQ below (mQi D cl cB cI cJ cZ cS iM h0 ad A x) args s 0 0 A) (F0 m 0 ls []) := by
  intro u v1 v2 x hf H locs hP hD hS ls hl
  obtain ⟨hx, hb, hr, hml, ht, hown, hM, hK, hA, hlocks⟩ := id C0
  unfold fb_M_copySize_0 at hf
  refine lv_iconst (v := 0) hx hb d_M_copySize_0 (by decide) ?_
  refine lv_istore (lv' := [(4, .int 0), (0, .ref h0), (1, .int v1), (2, .long v2)]) hx hb d_M_copySize_1 hl (by decide) rfl (fun ls hl => ?_)
  refine lv_iconst (v := 1) hx hb d_M_copySize_3 (by decide) ?_
  refine lv_istore (lv' := [(5, .int 1), (4, .int 0), (0, .ref h0), (1, .int v1), (2, .long v2)]) hx hb d_M_copySize_4 hl (by decide) rfl (fun ls hl => ?_)
  refine lv_aload_n hx hb d_M_copySize_6 rfl (lv_at hl 2 rfl) ?_
  refine ug_R hx hb ht hown hM hK hP 141 (by decide) lk_M_141 (by decide) d_M_copySize_7 ?_
  refine lv_iconst (v := 0) hx hb d_M_copySize_10 (by decide) ?_
  refine lv_lload_n hx hb d_M_copySize_11 rfl (lv_at hl 4 rfl) ?_
  obtain ⟨hi9, hf⟩ := ck_some hf
  refine us_J hx hb hK hP hD hS (by decide) (by decide) hi9 d_M_copySize_12 (fun H locs hP hD hS => ?_)
  obtain ⟨w8, e8, hf⟩ := lt_some hf
  rw [← e8] at hP hD
  exact hG.1 _ _ _ _ _ hf H locs hP hD hS ls (lv_sub hl [2, 3, 1, 0] rfl)
def gg_M_copySize (N : Nat) : Nat → ((MS → Int32 → Int32 → Int32 → Option (MS × Int32)) × (MS → Int32 → Int32 → Int32 → Int64 → Int32 → Int32 → Option (MS × Int32)))
  | 0 => (fun _ _ _ _ => none, fun _ _ _ _ _ _ _ => none)
  | n + 1 => (fb_M_copySize_13 N (gg_M_copySize N n), fb_M_copySize_69 N (gg_M_copySize N n))
theorem wg_M_copySize {p : Program} {l : Launch} {e : Env} {R : Room} {s : State} {m : MethodId} {args : Array Value} {below : List Frame} {meth : Method} {c : Code} {D : va_G} {cl : List vw_C} {cB cI cJ cZ cS : ClassId} {A : Nat → Prop} {iM h0 : Nat} {ad : Nat → Nat} (C0 : MCx p s m args meth c b_M_copySize 10 (some .int) D cl cB cI cJ cZ cS iM A) (hR : R = rm_M_copySize) (N : Nat) : ∀ n : Nat, (∀ (u : MS) (v1 : Int32) (v4 : Int32) (v5 : Int32) (x : MS × Int32), (gg_M_copySize N n).1 u v1 v4 v5 = some x → ∀ (H : Heap) (locs : List Loc), va_P D cl (wM cB cI cJ cZ cS iM h0 ad u) H → va_D A (wM cB cI cJ cZ cS iM h0 ad u) → va_S A s.heap H locs → ∀ (ls : Array Slot), lv_has ls 10 [(0, .ref h0), (1, .int v1), (4, .int v4), (5, .int v5)] → W p l e R s m args below meth c H locs 0 0 (MQ below (mQi D cl cB cI cJ cZ cS iM h0 ad A x) args s 0 0 A) (F0 m 13 ls [])) ∧ (∀ (u : MS) (v1 : Int32) (v4 : Int32) (v5 : Int32) (v6 : Int64) (v8 : Int32) (v9 : Int32) (x : MS × Int32), (gg_M_copySize N n).2 u v1 v4 v5 v6 v8 v9 = some x → ∀ (H : Heap) (locs : List Loc), va_P D cl (wM cB cI cJ cZ cS iM h0 ad u) H → va_D A (wM cB cI cJ cZ cS iM h0 ad u) → va_S A s.heap H locs → ∀ (ls : Array Slot), lv_has ls 10 [(0, .ref h0), (1, .int v1), (4, .int v4), (5, .int v5), (6, .long v6), (8, .int v8), (9, .int v9)] → W p l e R s m args below meth c H locs 0 0 (MQ below (mQi D cl cB cI cJ cZ cS iM h0 ad A x) args s 0 0 A) (F0 m 69 ls []))
  | 0 => ⟨(fun u v1 v4 v5 x hf => by cases hf), (fun u v1 v4 v5 v6 v8 v9 x hf => by cases hf)⟩
  | n + 1 => ⟨wb_M_copySize_13 C0 hR N (gg_M_copySize N n) (wg_M_copySize C0 hR N n), wb_M_copySize_69 C0 hR N (gg_M_copySize N n) (wg_M_copySize C0 hR N n)⟩
def fm_M_copySize (N : Nat) (u : MS) (v1 : Int32) (v2 : Int64) : Option (MS × Int32) := fb_M_copySize_0 N (gg_M_copySize N N) u v1 v2
set_option maxRecDepth 100000 in
set_option maxHeartbeats 4000000 in
theorem c_M_copySize (N : Nat) {l : Launch} {D : va_G} {cl : List vw_C} {cB cI cJ cZ cS : ClassId} {iM h0 : Nat} {ad : Nat → Nat} {u : MS} {sz : Nat} {v1 : Int32} {v2 : Int64} {x : MS × Int32} (hM : cl[iM]? = some (R_M, F_M, 171)) (hf : fm_M_copySize N u v1 v2 = some x) : Met l y_M_copySize (wd_ws y_M_copySize b_M_copySize 10 (some .int)) rm_M_copySize (mPc D cl cB cI cJ cZ cS iM h0 ad u sz [.ref h0, .int v1, .long v2]) (mQi D cl cB cI cJ cZ cS iM h0 ad (mA cB cI cJ cZ cS iM h0 ad u sz) x) 0 0 (mA cB cI cJ cZ cS iM h0 ad u sz) :=
  mMet (by decide) rfl hM (Nat.le_of_ble_eq_true rfl) (fun p e s m below meth c ls hsz C0 hP hD hS hl => by
    have hR : rm_M_copySize = rm_M_copySize := rfl
    exact wb_M_copySize_0 C0 hR N (gg_M_copySize N N) (wg_M_copySize C0 hR N N) u _ _ x hf s.heap [] hP hD hS ls (lv_sub hl [0, 1, 2] rfl))
abbrev b_M_copy : ByteArray := prog_14_method_92_code
def y_M_copy : MethodName := ⟨R_M, "copy", "(IJI)J"⟩
def w_M_copy : List Cond := wd_ws y_M_copy b_M_copy 16 (some .long)
set_option maxRecDepth 100000 in
theorem k_M_copy : Cond.code y_M_copy b_M_copy 16 (some .long) ∈ wd_tbl := wd_of 3106 rfl rfl
theorem d_M_copy_0 : decode b_M_copy 0 = .ok (.lload_n 2, 1) := by decide +kernel
theorem d_M_copy_1 : decode b_M_copy 1 = .ok (.invokestatic 686, 3) := by decide +kernel
theorem d_M_copy_4 : decode b_M_copy 4 = .ok (.ifCond .ne 5, 3) := by decide +kernel
theorem d_M_copy_7 : decode b_M_copy 7 = .ok (.lload_n 2, 1) := by decide +kernel
theorem d_M_copy_8 : decode b_M_copy 8 = .ok (.lreturn, 1) := by decide +kernel
theorem d_M_copy_9 : decode b_M_copy 9 = .ok (.lload_n 2, 1) := by decide +kernel
theorem d_M_copy_10 : decode b_M_copy 10 = .ok (.ldc2_w 700, 3) := by decide +kernel
theorem d_M_copy_13 : decode b_M_copy 13 = .ok (.land, 1) := by decide +kernel
theorem d_M_copy_14 : decode b_M_copy 14 = .ok (.aload_n 0, 1) := by decide +kernel
theorem d_M_copy_15 : decode b_M_copy 15 = .ok (.getfield 192, 3) := by decide +kernel
theorem d_M_copy_18 : decode b_M_copy 18 = .ok (.iload 4, 2) := by decide +kernel
theorem d_M_copy_20 : decode b_M_copy 20 = .ok (.iaload, 1) := by decide +kernel
theorem d_M_copy_21 : decode b_M_copy 21 = .ok (.i2l, 1) := by decide +kernel
theorem d_M_copy_22 : decode b_M_copy 22 = .ok (.lor, 1) := by decide +kernel
theorem d_M_copy_23 : decode b_M_copy 23 = .ok (.lstore 5, 2) := by decide +kernel
theorem d_M_copy_25 : decode b_M_copy 25 = .ok (.iconst 1, 1) := by decide +kernel
theorem d_M_copy_26 : decode b_M_copy 26 = .ok (.istore 7, 2) := by decide +kernel
theorem d_M_copy_28 : decode b_M_copy 28 = .ok (.aload_n 0, 1) := by decide +kernel
theorem d_M_copy_29 : decode b_M_copy 29 = .ok (.getfield 327, 3) := by decide +kernel
theorem d_M_copy_32 : decode b_M_copy 32 = .ok (.iconst 0, 1) := by decide +kernel
theorem d_M_copy_33 : decode b_M_copy 33 = .ok (.lload_n 2, 1) := by decide +kernel
theorem d_M_copy_34 : decode b_M_copy 34 = .ok (.lastore, 1) := by decide +kernel
theorem d_M_copy_35 : decode b_M_copy 35 = .ok (.aload_n 0, 1) := by decide +kernel
theorem d_M_copy_36 : decode b_M_copy 36 = .ok (.getfield 330, 3) := by decide +kernel
theorem d_M_copy_39 : decode b_M_copy 39 = .ok (.iconst 0, 1) := by decide +kernel
theorem d_M_copy_40 : decode b_M_copy 40 = .ok (.iconst (-1), 1) := by decide +kernel
theorem d_M_copy_41 : decode b_M_copy 41 = .ok (.iastore, 1) := by decide +kernel
theorem d_M_copy_42 : decode b_M_copy 42 = .ok (.iload 7, 2) := by decide +kernel
theorem d_M_copy_44 : decode b_M_copy 44 = .ok (.ifCond .le 179, 3) := by decide +kernel
theorem d_M_copy_47 : decode b_M_copy 47 = .ok (.iinc 7 (-1), 3) := by decide +kernel
theorem d_M_copy_50 : decode b_M_copy 50 = .ok (.aload_n 0, 1) := by decide +kernel
theorem d_M_copy_51 : decode b_M_copy 51 = .ok (.getfield 327, 3) := by decide +kernel
theorem d_M_copy_54 : decode b_M_copy 54 = .ok (.iload 7, 2) := by decide +kernel
theorem d_M_copy_56 : decode b_M_copy 56 = .ok (.laload, 1) := by decide +kernel
theorem d_M_copy_57 : decode b_M_copy 57 = .ok (.lstore 8, 2) := by decide +kernel
theorem d_M_copy_59 : decode b_M_copy 59 = .ok (.aload_n 0, 1) := by decide +kernel
theorem d_M_copy_60 : decode b_M_copy 60 = .ok (.getfield 330, 3) := by decide +kernel
theorem d_M_copy_63 : decode b_M_copy 63 = .ok (.iload 7, 2) := by decide +kernel
theorem d_M_copy_65 : decode b_M_copy 65 = .ok (.iaload, 1) := by decide +kernel
theorem d_M_copy_66 : decode b_M_copy 66 = .ok (.istore 10, 2) := by decide +kernel
theorem d_M_copy_68 : decode b_M_copy 68 = .ok (.aload_n 0, 1) := by decide +kernel
theorem d_M_copy_69 : decode b_M_copy 69 = .ok (.iload_n 1, 1) := by decide +kernel
theorem d_M_copy_70 : decode b_M_copy 70 = .ok (.lload 8, 2) := by decide +kernel
theorem d_M_copy_72 : decode b_M_copy 72 = .ok (.invokevirtual 690, 3) := by decide +kernel
theorem d_M_copy_75 : decode b_M_copy 75 = .ok (.istore 11, 2) := by decide +kernel
theorem d_M_copy_77 : decode b_M_copy 77 = .ok (.aload_n 0, 1) := by decide +kernel
theorem d_M_copy_78 : decode b_M_copy 78 = .ok (.getfield 192, 3) := by decide +kernel
theorem d_M_copy_81 : decode b_M_copy 81 = .ok (.iload 4, 2) := by decide +kernel
theorem d_M_copy_83 : decode b_M_copy 83 = .ok (.iaload, 1) := by decide +kernel
theorem d_M_copy_84 : decode b_M_copy 84 = .ok (.istore 12, 2) := by decide +kernel
theorem d_M_copy_86 : decode b_M_copy 86 = .ok (.aload_n 0, 1) := by decide +kernel
theorem d_M_copy_87 : decode b_M_copy 87 = .ok (.getfield 192, 3) := by decide +kernel
theorem d_M_copy_90 : decode b_M_copy 90 = .ok (.iload 4, 2) := by decide +kernel
theorem d_M_copy_92 : decode b_M_copy 92 = .ok (.dup2, 1) := by decide +kernel
theorem d_M_copy_93 : decode b_M_copy 93 = .ok (.iaload, 1) := by decide +kernel
theorem d_M_copy_94 : decode b_M_copy 94 = .ok (.iload 11, 2) := by decide +kernel
theorem d_M_copy_96 : decode b_M_copy 96 = .ok (.iadd, 1) := by decide +kernel
theorem d_M_copy_97 : decode b_M_copy 97 = .ok (.iastore, 1) := by decide +kernel
theorem d_M_copy_98 : decode b_M_copy 98 = .ok (.iload 10, 2) := by decide +kernel
theorem d_M_copy_100 : decode b_M_copy 100 = .ok (.iconst (-1), 1) := by decide +kernel
theorem d_M_copy_101 : decode b_M_copy 101 = .ok (.if_icmp .eq 27, 3) := by decide +kernel
theorem d_M_copy_104 : decode b_M_copy 104 = .ok (.aload_n 0, 1) := by decide +kernel
theorem d_M_copy_105 : decode b_M_copy 105 = .ok (.getfield 189, 3) := by decide +kernel
theorem d_M_copy_108 : decode b_M_copy 108 = .ok (.iload 4, 2) := by decide +kernel
theorem d_M_copy_110 : decode b_M_copy 110 = .ok (.sipush 500, 3) := by decide +kernel
theorem d_M_copy_113 : decode b_M_copy 113 = .ok (.imul, 1) := by decide +kernel
theorem d_M_copy_114 : decode b_M_copy 114 = .ok (.iload 10, 2) := by decide +kernel
theorem d_M_copy_116 : decode b_M_copy 116 = .ok (.iadd, 1) := by decide +kernel
theorem d_M_copy_117 : decode b_M_copy 117 = .ok (.lload 8, 2) := by decide +kernel
theorem d_M_copy_119 : decode b_M_copy 119 = .ok (.ldc2_w 700, 3) := by decide +kernel
theorem d_M_copy_122 : decode b_M_copy 122 = .ok (.land, 1) := by decide +kernel
theorem d_M_copy_123 : decode b_M_copy 123 = .ok (.iload 12, 2) := by decide +kernel
theorem d_M_copy_125 : decode b_M_copy 125 = .ok (.i2l, 1) := by decide +kernel
theorem d_M_copy_126 : decode b_M_copy 126 = .ok (.lor, 1) := by decide +kernel
theorem d_M_copy_127 : decode b_M_copy 127 = .ok (.lastore, 1) := by decide +kernel
theorem d_M_copy_128 : decode b_M_copy 128 = .ok (.iconst 0, 1) := by decide +kernel
theorem d_M_copy_129 : decode b_M_copy 129 = .ok (.istore 13, 2) := by decide +kernel
theorem d_M_copy_131 : decode b_M_copy 131 = .ok (.iload 13, 2) := by decide +kernel
theorem d_M_copy_133 : decode b_M_copy 133 = .ok (.iload 11, 2) := by decide +kernel
theorem d_M_copy_135 : decode b_M_copy 135 = .ok (.if_icmp .ge 85, 3) := by decide +kernel
theorem d_M_copy_138 : decode b_M_copy 138 = .ok (.aload_n 0, 1) := by decide +kernel
theorem d_M_copy_139 : decode b_M_copy 139 = .ok (.iload_n 1, 1) := by decide +kernel
theorem d_M_copy_140 : decode b_M_copy 140 = .ok (.lload 8, 2) := by decide +kernel
theorem d_M_copy_142 : decode b_M_copy 142 = .ok (.invokestatic 680, 3) := by decide +kernel
theorem d_M_copy_145 : decode b_M_copy 145 = .ok (.iload 13, 2) := by decide +kernel
theorem d_M_copy_147 : decode b_M_copy 147 = .ok (.iadd, 1) := by decide +kernel
theorem d_M_copy_148 : decode b_M_copy 148 = .ok (.invokevirtual 683, 3) := by decide +kernel
theorem d_M_copy_151 : decode b_M_copy 151 = .ok (.lstore 14, 2) := by decide +kernel
theorem d_M_copy_153 : decode b_M_copy 153 = .ok (.aload_n 0, 1) := by decide +kernel
theorem d_M_copy_154 : decode b_M_copy 154 = .ok (.getfield 189, 3) := by decide +kernel
theorem d_M_copy_157 : decode b_M_copy 157 = .ok (.iload 4, 2) := by decide +kernel
theorem d_M_copy_159 : decode b_M_copy 159 = .ok (.sipush 500, 3) := by decide +kernel
theorem d_M_copy_162 : decode b_M_copy 162 = .ok (.imul, 1) := by decide +kernel
theorem d_M_copy_163 : decode b_M_copy 163 = .ok (.iload 12, 2) := by decide +kernel
theorem d_M_copy_165 : decode b_M_copy 165 = .ok (.iadd, 1) := by decide +kernel
theorem d_M_copy_166 : decode b_M_copy 166 = .ok (.iload 13, 2) := by decide +kernel
theorem d_M_copy_168 : decode b_M_copy 168 = .ok (.iadd, 1) := by decide +kernel
theorem d_M_copy_169 : decode b_M_copy 169 = .ok (.lload 14, 2) := by decide +kernel
theorem d_M_copy_171 : decode b_M_copy 171 = .ok (.lastore, 1) := by decide +kernel
theorem d_M_copy_172 : decode b_M_copy 172 = .ok (.iload 13, 2) := by decide +kernel
theorem d_M_copy_174 : decode b_M_copy 174 = .ok (.lload 8, 2) := by decide +kernel
theorem d_M_copy_176 : decode b_M_copy 176 = .ok (.invokestatic 706, 3) := by decide +kernel
theorem d_M_copy_179 : decode b_M_copy 179 = .ok (.if_icmp .lt 35, 3) := by decide +kernel
theorem d_M_copy_182 : decode b_M_copy 182 = .ok (.lload 14, 2) := by decide +kernel
theorem d_M_copy_184 : decode b_M_copy 184 = .ok (.invokestatic 686, 3) := by decide +kernel
theorem d_M_copy_187 : decode b_M_copy 187 = .ok (.ifCond .eq 27, 3) := by decide +kernel
theorem d_M_copy_190 : decode b_M_copy 190 = .ok (.aload_n 0, 1) := by decide +kernel
theorem d_M_copy_191 : decode b_M_copy 191 = .ok (.getfield 327, 3) := by decide +kernel
theorem d_M_copy_194 : decode b_M_copy 194 = .ok (.iload 7, 2) := by decide +kernel
theorem d_M_copy_196 : decode b_M_copy 196 = .ok (.lload 14, 2) := by decide +kernel
theorem d_M_copy_198 : decode b_M_copy 198 = .ok (.lastore, 1) := by decide +kernel
theorem d_M_copy_199 : decode b_M_copy 199 = .ok (.aload_n 0, 1) := by decide +kernel
theorem d_M_copy_200 : decode b_M_copy 200 = .ok (.getfield 330, 3) := by decide +kernel
theorem d_M_copy_203 : decode b_M_copy 203 = .ok (.iload 7, 2) := by decide +kernel
theorem d_M_copy_205 : decode b_M_copy 205 = .ok (.iload 12, 2) := by decide +kernel
theorem d_M_copy_207 : decode b_M_copy 207 = .ok (.iload 13, 2) := by decide +kernel
theorem d_M_copy_209 : decode b_M_copy 209 = .ok (.iadd, 1) := by decide +kernel
theorem d_M_copy_210 : decode b_M_copy 210 = .ok (.iastore, 1) := by decide +kernel
theorem d_M_copy_211 : decode b_M_copy 211 = .ok (.iinc 7 1, 3) := by decide +kernel
theorem d_M_copy_214 : decode b_M_copy 214 = .ok (.iinc 13 1, 3) := by decide +kernel
theorem d_M_copy_217 : decode b_M_copy 217 = .ok (.goto (-86), 3) := by decide +kernel
theorem d_M_copy_220 : decode b_M_copy 220 = .ok (.goto (-178), 3) := by decide +kernel
theorem d_M_copy_223 : decode b_M_copy 223 = .ok (.lload 5, 2) := by decide +kernel
theorem d_M_copy_225 : decode b_M_copy 225 = .ok (.lreturn, 1) := by decide +kernel
set_option maxRecDepth 100000 in
theorem hl_M_copy : Cond.methodLink R_M 785 y_M_copy ∈ wd_tbl := wd_of 3103 (by decide +kernel) rfl
set_option maxRecDepth 100000 in
theorem hi_M_copy : Cond.instanceMethod y_M_copy ∈ wd_tbl := wd_of 3105 (by decide +kernel) rfl
set_option maxRecDepth 100000 in
theorem hs_M_copy : Cond.selects R_M y_M_copy y_M_copy ∈ wd_tbl := wd_of 231 (by decide +kernel) rfl
theorem hd_M_copy : y_M_copy.cls = R_M ∧ y_M_copy.cls ≠ "java/lang/invoke/MethodHandle" ∧ y_M_copy.cls ≠ "java/lang/invoke/VarHandle" ∧ (parseMethodDescriptor y_M_copy.desc).map (fun d => d.parameters.length) = some 3 := by decide +kernel
def rm_M_copy : Room := { frames := 2, cells := 0, slots := 0, locals := 47 }
theorem rm_M_copy_M_inHeap {R : Room} (hR : R = rm_M_copy) : (rm_M_inHeap).frames + 1 ≤ R.frames ∧ 8 + (3 + 11) + (rm_M_inHeap).locals ≤ R.locals := by subst hR; decide
theorem rm_M_copy_M_sizeOf {R : Room} (hR : R = rm_M_copy) : (rm_M_sizeOf).frames + 1 ≤ R.frames ∧ 8 + (6 + 11) + (rm_M_sizeOf).locals ≤ R.locals := by subst hR; decide
theorem rm_M_copy_M_valueOf {R : Room} (hR : R = rm_M_copy) : (rm_M_valueOf).frames + 1 ≤ R.frames ∧ 8 + (2 + 11) + (rm_M_valueOf).locals ≤ R.locals := by subst hR; decide
theorem rm_M_copy_M_cell {R : Room} (hR : R = rm_M_copy) : (rm_M_cell).frames + 1 ≤ R.frames ∧ 8 + (3 + 11) + (rm_M_cell).locals ≤ R.locals := by subst hR; decide
theorem rm_M_copy_M_partsFrom {R : Room} (hR : R = rm_M_copy) : (rm_M_partsFrom).frames + 1 ≤ R.frames ∧ 8 + (3 + 11) + (rm_M_partsFrom).locals ≤ R.locals := by subst hR; decide
def fb_M_copy_214 (N : Nat) (G : (MS → Int32 → Int32 → Int64 → Int32 → Option (MS × Int64)) × (MS → Int32 → Int32 → Int64 → Int32 → Int64 → Int32 → Int32 → Int32 → Option (MS × Int64))) (u : MS) (v1 : Int32) (v4 : Int32) (v5 : Int64) (v7 : Int32) (v8 : Int64) (v11 : Int32) (v12 : Int32) (v13 : Int32) : Option (MS × Int64) := G.2 u (v1) (v4) (v5) (v7) (v8) (v11) (v12) ((v13 + 1))
set_option maxRecDepth 100000 in
set_option maxHeartbeats 4000000 in
theorem wb_M_copy_214 {p : Program} {l : Launch} {e : Env} {R : Room} {s : State} {m : MethodId} {args : Array Value} {below : List Frame} {meth : Method} {c : Code} {D : va_G} {cl : List vw_C} {cB cI cJ cZ cS : ClassId} {A : Nat → Prop} {iM h0 : Nat} {ad : Nat → Nat} (C0 : MCx p s m args meth c b_M_copy 16 (some .long) D cl cB cI cJ cZ cS iM A) (hR : R = rm_M_copy) (N : Nat) (G : (MS → Int32 → Int32 → Int64 → Int32 → Option (MS × Int64)) × (MS → Int32 → Int32 → Int64 → Int32 → Int64 → Int32 → Int32 → Int32 → Option (MS × Int64))) (hG : (∀ (u : MS) (v1 : Int32) (v4 : Int32) (v5 : Int64) (v7 : Int32) (x : MS × Int64), G.1 u v1 v4 v5 v7 = some x → ∀ (H : Heap) (locs : List Loc), va_P D cl (wM cB cI cJ cZ cS iM h0 ad u) H → va_D A (wM cB cI cJ cZ cS iM h0 ad u) → va_S A s.heap H locs → ∀ (ls : Array Slot), lv_has ls 16 [(0, .ref h0), (1, .int v1), (4, .int v4), (5, .long v5), (7, .int v7)] → W p l e R s m args below meth c H locs 0 0 (MQ below (mQl D cl cB cI cJ cZ cS iM h0 ad A x) args s 0 0 A) (F0 m 42 ls [])) ∧ (∀ (u : MS) (v1 : Int32) (v4 : Int32) (v5 : Int64) (v7 : Int32) (v8 : Int64) (v11 : Int32) (v12 : Int32) (v13 : Int32) (x : MS × Int64), G.2 u v1 v4 v5 v7 v8 v11 v12 v13 = some x → ∀ (H : Heap) (locs : List Loc), va_P D cl (wM cB cI cJ cZ cS iM h0 ad u) H → va_D A (wM cB cI cJ cZ cS iM h0 ad u) → va_S A s.heap H locs → ∀ (ls : Array Slot), lv_has ls 16 [(0, .ref h0), (1, .int v1), (4, .int v4), (5, .long v5), (7, .int v7), (8, .long v8), (11, .int v11), (12, .int v12), (13, .int v13)] → W p l e R s m args below meth c H locs 0 0 (MQ below (mQl D cl cB cI cJ cZ cS iM h0 ad A x) args s 0 0 A) (F0 m 131 ls []))) : ∀ (u : MS) (v1 : Int32) (v4 : Int32) (v5 : Int64) (v7 : Int32) (v8 : Int64) (v11 : Int32) (v12 : Int32) (v13 : Int32) (x : MS × Int64), fb_M_copy_214 N G u v1 v4 v5 v7 v8 v11 v12 v13 = some x → ∀ (H : Heap) (locs : List Loc), va_P D cl (wM cB cI cJ cZ cS iM h0 ad u) H → va_D A (wM cB cI cJ cZ cS iM h0 ad u) → va_S A s.heap H locs → ∀ (ls : Array Slot), lv_has ls 16 [(0, .ref h0), (1, .int v1), (4, .int v4), (5, .long v5), (7, .int v7), (8, .long v8), (11, .int v11), (12, .int v12), (13, .int v13)] → W p l e R s m args below meth c H locs 0 0 (MQ below (mQl D cl cB cI cJ cZ cS iM h0 ad A x) args s 0 0 A) (F0 m 214 ls []) := by
  intro u v1 v4 v5 v7 v8 v11 v12 v13 x hf H locs hP hD hS ls hl
  obtain ⟨hx, hb, hr, hml, ht, hown, hM, hK, hA, hlocks⟩ := id C0
  unfold fb_M_copy_214 at hf
  refine lv_iinc (v := (v13 + 1)) (lv' := [(13, .int (v13 + 1)), (0, .ref h0), (1, .int v1), (4, .int v4), (5, .long v5), (7, .int v7), (8, .long v8), (11, .int v11), (12, .int v12)]) hx hb d_M_copy_214 hl (k := 8) rfl rfl (by decide) rfl (fun ls hl => ?_)
  refine lv_goto (tgt := 131) hx hb d_M_copy_217 (by decide) ?_
  exact hG.2 _ _ _ _ _ _ _ _ _ _ hf H locs hP hD hS ls (lv_sub hl [1, 2, 3, 4, 5, 6, 7, 8, 0] rfl)
def fb_M_copy_131 (N : Nat) (G : (MS → Int32 → Int32 → Int64 → Int32 → Option (MS × Int64)) × (MS → Int32 → Int32 → Int64 → Int32 → Int64 → Int32 → Int32 → Int32 → Option (MS × Int64))) (u : MS) (v1 : Int32) (v4 : Int32) (v5 : Int64) (v7 : Int32) (v8 : Int64) (v11 : Int32) (v12 : Int32) (v13 : Int32) : Option (MS × Int64) := br (decide (v11 ≤ v13)) (G.1 u (v1) (v4) (v5) (v7)) (bnd (fm_M_valueOf N u v8) (fun u1 r1 => bnd (fm_M_cell N u1 v1 (r1 + v13)) (fun u2 r2 => ck (inb (((v4 * 500) + v12) + v13) (ln 88)) (lt (upJ u2 88 (vp_updL (u2.2.2.2 88) (((v4 * 500) + v12) + v13).toNatClampNeg r2)) (fun w3 => bnd (fm_M_partsFrom N w3 v8) (fun u4 r4 => br (decide (v13 < r4)) (fb_M_copy_214 N G u4 (v1) (v4) (v5) (v7) (v8) (v11) (v12) (v13)) (bnd (fm_M_inHeap N u4 r2) (fun u5 r5 => br (decide (r5 = 0)) (fb_M_copy_214 N G u5 (v1) (v4) (v5) (v7) (v8) (v11) (v12) (v13)) (ck (inb v7 (ln 141)) (lt (upJ u5 141 (vp_updL (u5.2.2.2 141) v7.toNatClampNeg r2)) (fun w6 => ck (inb v7 (ln 142)) (lt (upA w6 142 (upd (w6.2.2.1 142) v7.toNatClampNeg (v12 + v13))) (fun w7 => fb_M_copy_214 N G w7 (v1) (v4) (v5) ((v7 + 1)) (v8) (v11) (v12) (v13))))))))))))))
set_option maxRecDepth 100000 in
set_option maxHeartbeats 4000000 in
theorem wb_M_copy_131 {p : Program} {l : Launch} {e : Env} {R : Room} {s : State} {m : MethodId} {args : Array Value} {below : List Frame} {meth : Method} {c : Code} {D : va_G} {cl : List vw_C} {cB cI cJ cZ cS : ClassId} {A : Nat → Prop} {iM h0 : Nat} {ad : Nat → Nat} (C0 : MCx p s m args meth c b_M_copy 16 (some .long) D cl cB cI cJ cZ cS iM A) (hR : R = rm_M_copy) (N : Nat) (G : (MS → Int32 → Int32 → Int64 → Int32 → Option (MS × Int64)) × (MS → Int32 → Int32 → Int64 → Int32 → Int64 → Int32 → Int32 → Int32 → Option (MS × Int64))) (hG : (∀ (u : MS) (v1 : Int32) (v4 : Int32) (v5 : Int64) (v7 : Int32) (x : MS × Int64), G.1 u v1 v4 v5 v7 = some x → ∀ (H : Heap) (locs : List Loc), va_P D cl (wM cB cI cJ cZ cS iM h0 ad u) H → va_D A (wM cB cI cJ cZ cS iM h0 ad u) → va_S A s.heap H locs → ∀ (ls : Array Slot), lv_has ls 16 [(0, .ref h0), (1, .int v1), (4, .int v4), (5, .long v5), (7, .int v7)] → W p l e R s m args below meth c H locs 0 0 (MQ below (mQl D cl cB cI cJ cZ cS iM h0 ad A x) args s 0 0 A) (F0 m 42 ls [])) ∧ (∀ (u : MS) (v1 : Int32) (v4 : Int32) (v5 : Int64) (v7 : Int32) (v8 : Int64) (v11 : Int32) (v12 : Int32) (v13 : Int32) (x : MS × Int64), G.2 u v1 v4 v5 v7 v8 v11 v12 v13 = some x → ∀ (H : Heap) (locs : List Loc), va_P D cl (wM cB cI cJ cZ cS iM h0 ad u) H → va_D A (wM cB cI cJ cZ cS iM h0 ad u) → va_S A s.heap H locs → ∀ (ls : Array Slot), lv_has ls 16 [(0, .ref h0), (1, .int v1), (4, .int v4), (5, .long v5), (7, .int v7), (8, .long v8), (11, .int v11), (12, .int v12), (13, .int v13)] → W p l e R s m args below meth c H locs 0 0 (MQ below (mQl D cl cB cI cJ cZ cS iM h0 ad A x) args s 0 0 A) (F0 m 131 ls []))) : ∀ (u : MS) (v1 : Int32) (v4 : Int32) (v5 : Int64) (v7 : Int32) (v8 : Int64) (v11 : Int32) (v12 : Int32) (v13 : Int32) (x : MS × Int64), fb_M_copy_131 N G u v1 v4 v5 v7 v8 v11 v12 v13 = some x → ∀ (H : Heap) (locs : List Loc), va_P D cl (wM cB cI cJ cZ cS iM h0 ad u) H → va_D A (wM cB cI cJ cZ cS iM h0 ad u) → va_S A s.heap H locs → ∀ (ls : Array Slot), lv_has ls 16 [(0, .ref h0), (1, .int v1), (4, .int v4), (5, .long v5), (7, .int v7), (8, .long v8), (11, .int v11), (12, .int v12), (13, .int v13)] → W p l e R s m args below meth c H locs 0 0 (MQ below (mQl D cl cB cI cJ cZ cS iM h0 ad A x) args s 0 0 A) (F0 m 131 ls []) := by
  intro u v1 v4 v5 v7 v8 v11 v12 v13 x hf H locs hP hD hS ls hl
  obtain ⟨hx, hb, hr, hml, ht, hown, hM, hK, hA, hlocks⟩ := id C0
  unfold fb_M_copy_131 at hf
  refine lv_iload hx hb d_M_copy_131 (lv_at hl 8 rfl) ?_
  refine lv_iload hx hb d_M_copy_133 (lv_at hl 6 rfl) ?_
  refine lv_icmp_ge (tgt := 220) hx hb d_M_copy_135 (by decide) (fun hc => ?_) (fun hc => ?_)
  · rw [br_p _ hc] at hf
    refine lv_goto (tgt := 42) hx hb d_M_copy_220 (by decide) ?_
    exact hG.1 _ _ _ _ _ _ hf H locs hP hD hS ls (lv_sub hl [0, 1, 2, 3, 4] rfl)
  · rw [br_n _ hc] at hf
    refine lv_aload_n hx hb d_M_copy_138 rfl (lv_at hl 0 rfl) ?_
    refine lv_iload_n hx hb d_M_copy_139 rfl (lv_at hl 1 rfl) ?_
    refine lv_lload hx hb d_M_copy_140 (lv_at hl 5 rfl) ?_
    obtain ⟨u1, r1, hc1, hf⟩ := bnd_some hf
    refine mS_i (As := [.long v8]) (rest := [.int v1, .ref h0]) C0 hP hD hS (c_M_valueOf N hM hc1) k_M_valueOf hl_M_valueOf ht_M_valueOf hini_M rfl rfl hd_M_valueOf rfl (rm_M_copy_M_valueOf hR) hl.1 (Nat.le_of_ble_eq_true rfl) d_M_copy_142 rfl ⟨Nat.zero_le _, Nat.zero_le _⟩ (fun H locs hP hD hS => ?_)
    refine lv_iload hx hb d_M_copy_145 (lv_at hl 8 rfl) ?_
    refine lv_iadd hx hb d_M_copy_147 ?_
    obtain ⟨u2, r2, hc2, hf⟩ := bnd_some hf
    refine mV_l (As := [.int v1, .int (r1 + v13)]) (rest := []) C0 hP hD hS (c_M_cell N hM hc2) k_M_cell hl_M_cell hi_M_cell hs_M_cell hini_M rfl rfl hd_M_cell rfl (rm_M_copy_M_cell hR) hl.1 (Nat.le_of_ble_eq_true rfl) d_M_copy_148 rfl ⟨Nat.zero_le _, Nat.zero_le _⟩ (fun H locs hP hD hS => ?_)
    refine lv_lstore (lv' := [(14, .long r2), (0, .ref h0), (1, .int v1), (4, .int v4), (5, .long v5), (7, .int v7), (8, .long v8), (11, .int v11), (12, .int v12), (13, .int v13)]) hx hb d_M_copy_151 hl (by decide) rfl (fun ls hl => ?_)
    refine lv_aload_n hx hb d_M_copy_153 rfl (lv_at hl 1 rfl) ?_
    refine ug_R hx hb ht hown hM hK hP 88 (by decide) lk_M_88 (by decide) d_M_copy_154 ?_
    refine lv_iload hx hb d_M_copy_157 (lv_at hl 3 rfl) ?_
    refine lv_sipush (v := 500) hx hb d_M_copy_159 (by decide) ?_
    refine lv_imul hx hb d_M_copy_162 ?_
    refine lv_iload hx hb d_M_copy_163 (lv_at hl 8 rfl) ?_
    refine lv_iadd hx hb d_M_copy_165 ?_
    refine lv_iload hx hb d_M_copy_166 (lv_at hl 9 rfl) ?_
    refine lv_iadd hx hb d_M_copy_168 ?_
    refine lv_lload hx hb d_M_copy_169 (lv_at hl 0 rfl) ?_
    obtain ⟨hi9, hf⟩ := ck_some hf
    refine us_J hx hb hK hP hD hS (by decide) (by decide) hi9 d_M_copy_171 (fun H locs hP hD hS => ?_)
    obtain ⟨w3, e3, hf⟩ := lt_some hf
    rw [← e3] at hP hD
    refine lv_iload hx hb d_M_copy_172 (lv_at hl 9 rfl) ?_
    refine lv_lload hx hb d_M_copy_174 (lv_at hl 6 rfl) ?_
    obtain ⟨u4, r4, hc4, hf⟩ := bnd_some hf
    refine mS_i (As := [.long v8]) (rest := [.int v13]) C0 hP hD hS (c_M_partsFrom N hM hc4) k_M_partsFrom hl_M_partsFrom ht_M_partsFrom hini_M rfl rfl hd_M_partsFrom rfl (rm_M_copy_M_partsFrom hR) hl.1 (Nat.le_of_ble_eq_true rfl) d_M_copy_176 rfl ⟨Nat.zero_le _, Nat.zero_le _⟩ (fun H locs hP hD hS => ?_)
    refine lv_icmp_lt (tgt := 214) hx hb d_M_copy_179 (by decide) (fun hc => ?_) (fun hc => ?_)
    · rw [br_p _ hc] at hf
      exact wb_M_copy_214 C0 hR N G hG _ _ _ _ _ _ _ _ _ _ hf H locs hP hD hS ls (lv_sub hl [1, 2, 3, 4, 5, 6, 7, 8, 9] rfl)
    · rw [br_n _ hc] at hf
      refine lv_lload hx hb d_M_copy_182 (lv_at hl 0 rfl) ?_
      obtain ⟨u5, r5, hc5, hf⟩ := bnd_some hf
      refine mS_i (As := [.long r2]) (rest := []) C0 hP hD hS (c_M_inHeap N hM hc5) k_M_inHeap hl_M_inHeap ht_M_inHeap hini_M rfl rfl hd_M_inHeap rfl (rm_M_copy_M_inHeap hR) hl.1 (Nat.le_of_ble_eq_true rfl) d_M_copy_184 rfl ⟨Nat.zero_le _, Nat.zero_le _⟩ (fun H locs hP hD hS => ?_)
      refine lv_if_eq (tgt := 214) hx hb d_M_copy_187 (by decide) (fun hc => ?_) (fun hc => ?_)
      · rw [br_p _ hc] at hf
        exact wb_M_copy_214 C0 hR N G hG _ _ _ _ _ _ _ _ _ _ hf H locs hP hD hS ls (lv_sub hl [1, 2, 3, 4, 5, 6, 7, 8, 9] rfl)
      · rw [br_n _ hc] at hf
        refine lv_aload_n hx hb d_M_copy_190 rfl (lv_at hl 1 rfl) ?_
        refine ug_R hx hb ht hown hM hK hP 141 (by decide) lk_M_141 (by decide) d_M_copy_191 ?_
        refine lv_iload hx hb d_M_copy_194 (lv_at hl 5 rfl) ?_
        refine lv_lload hx hb d_M_copy_196 (lv_at hl 0 rfl) ?_
        obtain ⟨hi9, hf⟩ := ck_some hf
        refine us_J hx hb hK hP hD hS (by decide) (by decide) hi9 d_M_copy_198 (fun H locs hP hD hS => ?_)
        obtain ⟨w6, e6, hf⟩ := lt_some hf
        rw [← e6] at hP hD
        refine lv_aload_n hx hb d_M_copy_199 rfl (lv_at hl 1 rfl) ?_
        refine ug_R hx hb ht hown hM hK hP 142 (by decide) lk_M_142 (by decide) d_M_copy_200 ?_
        refine lv_iload hx hb d_M_copy_203 (lv_at hl 5 rfl) ?_
        refine lv_iload hx hb d_M_copy_205 (lv_at hl 8 rfl) ?_
        refine lv_iload hx hb d_M_copy_207 (lv_at hl 9 rfl) ?_
        refine lv_iadd hx hb d_M_copy_209 ?_
        obtain ⟨hi9, hf⟩ := ck_some hf
        refine us_I hx hb hK hP hD hS (by decide) (by decide) hi9 d_M_copy_210 (fun H locs hP hD hS => ?_)
        obtain ⟨w7, e7, hf⟩ := lt_some hf
        rw [← e7] at hP hD
        refine lv_iinc (v := (v7 + 1)) (lv' := [(7, .int (v7 + 1)), (14, .long r2), (0, .ref h0), (1, .int v1), (4, .int v4), (5, .long v5), (8, .long v8), (11, .int v11), (12, .int v12), (13, .int v13)]) hx hb d_M_copy_211 hl (k := 5) rfl rfl (by decide) rfl (fun ls hl => ?_)
        exact wb_M_copy_214 C0 hR N G hG _ _ _ _ _ _ _ _ _ _ hf H locs hP hD hS ls (lv_sub hl [2, 3, 4, 5, 0, 6, 7, 8, 9] rfl)
def fb_M_copy_128 (N : Nat) (G : (MS → Int32 → Int32 → Int64 → Int32 → Option (MS × Int64)) × (MS → Int32 → Int32 → Int64 → Int32 → Int64 → Int32 → Int32 → Int32 → Option (MS × Int64))) (u : MS) (v1 : Int32) (v4 : Int32) (v5 : Int64) (v7 : Int32) (v8 : Int64) (v11 : Int32) (v12 : Int32) : Option (MS × Int64) := G.2 u (v1) (v4) (v5) (v7) (v8) (v11) (v12) (0)
set_option maxRecDepth 100000 in
set_option maxHeartbeats 4000000 in
theorem wb_M_copy_128 {p : Program} {l : Launch} {e : Env} {R : Room} {s : State} {m : MethodId} {args : Array Value} {below : List Frame} {meth : Method} {c : Code} {D : va_G} {cl : List vw_C} {cB cI cJ cZ cS : ClassId} {A : Nat → Prop} {iM h0 : Nat} {ad : Nat → Nat} (C0 : MCx p s m args meth c b_M_copy 16 (some .long) D cl cB cI cJ cZ cS iM A) (hR : R = rm_M_copy) (N : Nat) (G : (MS → Int32 → Int32 → Int64 → Int32 → Option (MS × Int64)) × (MS → Int32 → Int32 → Int64 → Int32 → Int64 → Int32 → Int32 → Int32 → Option (MS × Int64))) (hG : (∀ (u : MS) (v1 : Int32) (v4 : Int32) (v5 : Int64) (v7 : Int32) (x : MS × Int64), G.1 u v1 v4 v5 v7 = some x → ∀ (H : Heap) (locs : List Loc), va_P D cl (wM cB cI cJ cZ cS iM h0 ad u) H → va_D A (wM cB cI cJ cZ cS iM h0 ad u) → va_S A s.heap H locs → ∀ (ls : Array Slot), lv_has ls 16 [(0, .ref h0), (1, .int v1), (4, .int v4), (5, .long v5), (7, .int v7)] → W p l e R s m args below meth c H locs 0 0 (MQ below (mQl D cl cB cI cJ cZ cS iM h0 ad A x) args s 0 0 A) (F0 m 42 ls [])) ∧ (∀ (u : MS) (v1 : Int32) (v4 : Int32) (v5 : Int64) (v7 : Int32) (v8 : Int64) (v11 : Int32) (v12 : Int32) (v13 : Int32) (x : MS × Int64), G.2 u v1 v4 v5 v7 v8 v11 v12 v13 = some x → ∀ (H : Heap) (locs : List Loc), va_P D cl (wM cB cI cJ cZ cS iM h0 ad u) H → va_D A (wM cB cI cJ cZ cS iM h0 ad u) → va_S A s.heap H locs → ∀ (ls : Array Slot), lv_has ls 16 [(0, .ref h0), (1, .int v1), (4, .int v4), (5, .long v5), (7, .int v7), (8, .long v8), (11, .int v11), (12, .int v12), (13, .int v13)] → W p l e R s m args below meth c H locs 0 0 (MQ below (mQl D cl cB cI cJ cZ cS iM h0 ad A x) args s 0 0 A) (F0 m 131 ls []))) : ∀ (u : MS) (v1 : Int32) (v4 : Int32) (v5 : Int64) (v7 : Int32) (v8 : Int64) (v11 : Int32) (v12 : Int32) (x : MS × Int64), fb_M_copy_128 N G u v1 v4 v5 v7 v8 v11 v12 = some x → ∀ (H : Heap) (locs : List Loc), va_P D cl (wM cB cI cJ cZ cS iM h0 ad u) H → va_D A (wM cB cI cJ cZ cS iM h0 ad u) → va_S A s.heap H locs → ∀ (ls : Array Slot), lv_has ls 16 [(0, .ref h0), (1, .int v1), (4, .int v4), (5, .long v5), (7, .int v7), (8, .long v8), (11, .int v11), (12, .int v12)] → W p l e R s m args below meth c H locs 0 0 (MQ below (mQl D cl cB cI cJ cZ cS iM h0 ad A x) args s 0 0 A) (F0 m 128 ls []) := by
  intro u v1 v4 v5 v7 v8 v11 v12 x hf H locs hP hD hS ls hl
  obtain ⟨hx, hb, hr, hml, ht, hown, hM, hK, hA, hlocks⟩ := id C0
  unfold fb_M_copy_128 at hf
  refine lv_iconst (v := 0) hx hb d_M_copy_128 (by decide) ?_
  refine lv_istore (lv' := [(13, .int 0), (0, .ref h0), (1, .int v1), (4, .int v4), (5, .long v5), (7, .int v7), (8, .long v8), (11, .int v11), (12, .int v12)]) hx hb d_M_copy_129 hl (by decide) rfl (fun ls hl => ?_)
  exact hG.2 _ _ _ _ _ _ _ _ _ _ hf H locs hP hD hS ls (lv_sub hl [1, 2, 3, 4, 5, 6, 7, 8, 0] rfl)
def fb_M_copy_42 (N : Nat) (G : (MS → Int32 → Int32 → Int64 → Int32 → Option (MS × Int64)) × (MS → Int32 → Int32 → Int64 → Int32 → Int64 → Int32 → Int32 → Int32 → Option (MS × Int64))) (u : MS) (v1 : Int32) (v4 : Int32) (v5 : Int64) (v7 : Int32) : Option (MS × Int64) := br (decide (v7 ≤ 0)) (some (u, v5)) (ck (inb (v7 + (-1)) (ln 141)) (lt (u.2.2.2 141 (v7 + (-1)).toNatClampNeg) (fun y8 => ck (inb (v7 + (-1)) (ln 142)) (lt (u.2.2.1 142 (v7 + (-1)).toNatClampNeg) (fun y9 => bnd (fm_M_sizeOf N u v1 y8) (fun u10 r10 => ck (inb v4 (ln 89)) (lt (u10.2.2.1 89 v4.toNatClampNeg) (fun y11 => ck (inb v4 (ln 89)) (ck (inb v4 (ln 89)) (lt (upA u10 89 (upd (u10.2.2.1 89) v4.toNatClampNeg ((u10.2.2.1 89 v4.toNatClampNeg) + r10))) (fun w12 => br (decide (y9 = (-1))) (fb_M_copy_128 N G w12 (v1) (v4) (v5) ((v7 + (-1))) (y8) (r10) (y11)) (ck (inb ((v4 * 500) + y9) (ln 88)) (lt (upJ w12 88 (vp_updL (w12.2.2.2 88) ((v4 * 500) + y9).toNatClampNeg ((y8 &&& (-4294967296)) ||| y11.toInt64))) (fun w13 => fb_M_copy_128 N G w13 (v1) (v4) (v5) ((v7 + (-1))) (y8) (r10) (y11)))))))))))))))
set_option maxRecDepth 100000 in
set_option maxHeartbeats 4000000 in
theorem wb_M_copy_42 {p : Program} {l : Launch} {e : Env} {R : Room} {s : State} {m : MethodId} {args : Array Value} {below : List Frame} {meth : Method} {c : Code} {D : va_G} {cl : List vw_C} {cB cI cJ cZ cS : ClassId} {A : Nat → Prop} {iM h0 : Nat} {ad : Nat → Nat} (C0 : MCx p s m args meth c b_M_copy 16 (some .long) D cl cB cI cJ cZ cS iM A) (hR : R = rm_M_copy) (N : Nat) (G : (MS → Int32 → Int32 → Int64 → Int32 → Option (MS × Int64)) × (MS → Int32 → Int32 → Int64 → Int32 → Int64 → Int32 → Int32 → Int32 → Option (MS × Int64))) (hG : (∀ (u : MS) (v1 : Int32) (v4 : Int32) (v5 : Int64) (v7 : Int32) (x : MS × Int64), G.1 u v1 v4 v5 v7 = some x → ∀ (H : Heap) (locs : List Loc), va_P D cl (wM cB cI cJ cZ cS iM h0 ad u) H → va_D A (wM cB cI cJ cZ cS iM h0 ad u) → va_S A s.heap H locs → ∀ (ls : Array Slot), lv_has ls 16 [(0, .ref h0), (1, .int v1), (4, .int v4), (5, .long v5), (7, .int v7)] → W p l e R s m args below meth c H locs 0 0 (MQ below (mQl D cl cB cI cJ cZ cS iM h0 ad A x) args s 0 0 A) (F0 m 42 ls [])) ∧ (∀ (u : MS) (v1 : Int32) (v4 : Int32) (v5 : Int64) (v7 : Int32) (v8 : Int64) (v11 : Int32) (v12 : Int32) (v13 : Int32) (x : MS × Int64), G.2 u v1 v4 v5 v7 v8 v11 v12 v13 = some x → ∀ (H : Heap) (locs : List Loc), va_P D cl (wM cB cI cJ cZ cS iM h0 ad u) H → va_D A (wM cB cI cJ cZ cS iM h0 ad u) → va_S A s.heap H locs → ∀ (ls : Array Slot), lv_has ls 16 [(0, .ref h0), (1, .int v1), (4, .int v4), (5, .long v5), (7, .int v7), (8, .long v8), (11, .int v11), (12, .int v12), (13, .int v13)] → W p l e R s m args below meth c H locs 0 0 (MQ below (mQl D cl cB cI cJ cZ cS iM h0 ad A x) args s 0 0 A) (F0 m 131 ls []))) : ∀ (u : MS) (v1 : Int32) (v4 : Int32) (v5 : Int64) (v7 : Int32) (x : MS × Int64), fb_M_copy_42 N G u v1 v4 v5 v7 = some x → ∀ (H : Heap) (locs : List Loc), va_P D cl (wM cB cI cJ cZ cS iM h0 ad u) H → va_D A (wM cB cI cJ cZ cS iM h0 ad u) → va_S A s.heap H locs → ∀ (ls : Array Slot), lv_has ls 16 [(0, .ref h0), (1, .int v1), (4, .int v4), (5, .long v5), (7, .int v7)] → W p l e R s m args below meth c H locs 0 0 (MQ below (mQl D cl cB cI cJ cZ cS iM h0 ad A x) args s 0 0 A) (F0 m 42 ls []) := by
  intro u v1 v4 v5 v7 x hf H locs hP hD hS ls hl
  obtain ⟨hx, hb, hr, hml, ht, hown, hM, hK, hA, hlocks⟩ := id C0
  unfold fb_M_copy_42 at hf
  refine lv_iload hx hb d_M_copy_42 (lv_at hl 4 rfl) ?_
  refine lv_if_le (tgt := 223) hx hb d_M_copy_44 (by decide) (fun hc => ?_) (fun hc => ?_)
  · rw [br_p _ hc] at hf
    refine lv_lload hx hb d_M_copy_223 (lv_at hl 3 rfl) ?_
    exact mr_l C0 hP hD hS hf d_M_copy_225
  · rw [br_n _ hc] at hf
    refine lv_iinc (v := (v7 + (-1))) (lv' := [(7, .int (v7 + (-1))), (0, .ref h0), (1, .int v1), (4, .int v4), (5, .long v5)]) hx hb d_M_copy_47 hl (k := 4) rfl rfl (by decide) rfl (fun ls hl => ?_)
    refine lv_aload_n hx hb d_M_copy_50 rfl (lv_at hl 1 rfl) ?_
    refine ug_R hx hb ht hown hM hK hP 141 (by decide) lk_M_141 (by decide) d_M_copy_51 ?_
    refine lv_iload hx hb d_M_copy_54 (lv_at hl 0 rfl) ?_
    obtain ⟨hi9, hf⟩ := ck_some hf
    refine ul_J hx hb hK hP (by decide) (by decide) hi9 d_M_copy_56 ?_
    obtain ⟨y8, e8, hf⟩ := lt_some hf
    rw [← e8]
    refine lv_lstore (lv' := [(8, .long y8), (7, .int (v7 + (-1))), (0, .ref h0), (1, .int v1), (4, .int v4), (5, .long v5)]) hx hb d_M_copy_57 hl (by decide) rfl (fun ls hl => ?_)
    refine lv_aload_n hx hb d_M_copy_59 rfl (lv_at hl 2 rfl) ?_
    refine ug_R hx hb ht hown hM hK hP 142 (by decide) lk_M_142 (by decide) d_M_copy_60 ?_
    refine lv_iload hx hb d_M_copy_63 (lv_at hl 1 rfl) ?_
    obtain ⟨hi9, hf⟩ := ck_some hf
    refine ul_I hx hb hK hP (by decide) (by decide) hi9 d_M_copy_65 ?_
    obtain ⟨y9, e9, hf⟩ := lt_some hf
    rw [← e9]
    refine lv_istore (lv' := [(10, .int y9), (8, .long y8), (7, .int (v7 + (-1))), (0, .ref h0), (1, .int v1), (4, .int v4), (5, .long v5)]) hx hb d_M_copy_66 hl (by decide) rfl (fun ls hl => ?_)
    refine lv_aload_n hx hb d_M_copy_68 rfl (lv_at hl 3 rfl) ?_
    refine lv_iload_n hx hb d_M_copy_69 rfl (lv_at hl 4 rfl) ?_
    refine lv_lload hx hb d_M_copy_70 (lv_at hl 1 rfl) ?_
    obtain ⟨u10, r10, hc10, hf⟩ := bnd_some hf
    refine mV_i (As := [.int v1, .long y8]) (rest := []) C0 hP hD hS (c_M_sizeOf N hM hc10) k_M_sizeOf hl_M_sizeOf hi_M_sizeOf hs_M_sizeOf hini_M rfl rfl hd_M_sizeOf rfl (rm_M_copy_M_sizeOf hR) hl.1 (Nat.le_of_ble_eq_true rfl) d_M_copy_72 rfl ⟨Nat.zero_le _, Nat.zero_le _⟩ (fun H locs hP hD hS => ?_)
    refine lv_istore (lv' := [(11, .int r10), (10, .int y9), (8, .long y8), (7, .int (v7 + (-1))), (0, .ref h0), (1, .int v1), (4, .int v4), (5, .long v5)]) hx hb d_M_copy_75 hl (by decide) rfl (fun ls hl => ?_)
    refine lv_aload_n hx hb d_M_copy_77 rfl (lv_at hl 4 rfl) ?_
    refine ug_R hx hb ht hown hM hK hP 89 (by decide) lk_M_89 (by decide) d_M_copy_78 ?_
    refine lv_iload hx hb d_M_copy_81 (lv_at hl 6 rfl) ?_
    obtain ⟨hi9, hf⟩ := ck_some hf
    refine ul_I hx hb hK hP (by decide) (by decide) hi9 d_M_copy_83 ?_
    obtain ⟨y11, e11, hf⟩ := lt_some hf
    rw [← e11]
    refine lv_istore (lv' := [(12, .int y11), (11, .int r10), (10, .int y9), (8, .long y8), (7, .int (v7 + (-1))), (0, .ref h0), (1, .int v1), (4, .int v4), (5, .long v5)]) hx hb d_M_copy_84 hl (by decide) rfl (fun ls hl => ?_)
    refine lv_aload_n hx hb d_M_copy_86 rfl (lv_at hl 5 rfl) ?_
    refine ug_R hx hb ht hown hM hK hP 89 (by decide) lk_M_89 (by decide) d_M_copy_87 ?_
    refine lv_iload hx hb d_M_copy_90 (lv_at hl 7 rfl) ?_
    refine lv_dup2_11 hx hb d_M_copy_92 rfl rfl ?_
    obtain ⟨hi9, hf⟩ := ck_some hf
    refine ul_I hx hb hK hP (by decide) (by decide) hi9 d_M_copy_93 ?_
    refine lv_iload hx hb d_M_copy_94 (lv_at hl 1 rfl) ?_
    refine lv_iadd hx hb d_M_copy_96 ?_
    obtain ⟨hi9, hf⟩ := ck_some hf
    refine us_I hx hb hK hP hD hS (by decide) (by decide) hi9 d_M_copy_97 (fun H locs hP hD hS => ?_)
    obtain ⟨w12, e12, hf⟩ := lt_some hf
    rw [← e12] at hP hD
    refine lv_iload hx hb d_M_copy_98 (lv_at hl 2 rfl) ?_
    refine lv_iconst (v := (-1)) hx hb d_M_copy_100 (by decide) ?_
    refine lv_icmp_eq (tgt := 128) hx hb d_M_copy_101 (by decide) (fun hc => ?_) (fun hc => ?_)
    · rw [br_p _ hc] at hf
      exact wb_M_copy_128 C0 hR N G hG _ _ _ _ _ _ _ _ _ hf H locs hP hD hS ls (lv_sub hl [5, 6, 7, 8, 4, 3, 1, 0] rfl)
    · rw [br_n _ hc] at hf
      refine lv_aload_n hx hb d_M_copy_104 rfl (lv_at hl 5 rfl) ?_
      refine ug_R hx hb ht hown hM hK hP 88 (by decide) lk_M_88 (by decide) d_M_copy_105 ?_
      refine lv_iload hx hb d_M_copy_108 (lv_at hl 7 rfl) ?_
      refine lv_sipush (v := 500) hx hb d_M_copy_110 (by decide) ?_
      refine lv_imul hx hb d_M_copy_113 ?_
      refine lv_iload hx hb d_M_copy_114 (lv_at hl 2 rfl) ?_
      refine lv_iadd hx hb d_M_copy_116 ?_
      refine lv_lload hx hb d_M_copy_117 (lv_at hl 3 rfl) ?_
      refine lv_ldc2 (v := (-4294967296)) hx hb hown (ht _ (wd_of 2982 (by decide +kernel) rfl)) d_M_copy_119 ?_
      refine lv_land hx hb d_M_copy_122 ?_
      refine lv_iload hx hb d_M_copy_123 (lv_at hl 0 rfl) ?_
      refine lv_i2l hx hb d_M_copy_125 rfl ?_
      refine lv_lor hx hb d_M_copy_126 ?_
      obtain ⟨hi9, hf⟩ := ck_some hf
      refine us_J hx hb hK hP hD hS (by decide) (by decide) hi9 d_M_copy_127 (fun H locs hP hD hS => ?_)
      obtain ⟨w13, e13, hf⟩ := lt_some hf
      rw [← e13] at hP hD
      exact wb_M_copy_128 C0 hR N G hG _ _ _ _ _ _ _ _ _ hf H locs hP hD hS ls (lv_sub hl [5, 6, 7, 8, 4, 3, 1, 0] rfl)
def fb_M_copy_0 (N : Nat) (G : (MS → Int32 → Int32 → Int64 → Int32 → Option (MS × Int64)) × (MS → Int32 → Int32 → Int64 → Int32 → Int64 → Int32 → Int32 → Int32 → Option (MS × Int64))) (u : MS) (v1 : Int32) (v2 : Int64) (v4 : Int32) : Option (MS × Int64) := bnd (fm_M_inHeap N u v2) (fun u14 r14 => br (decide (r14 = 0)) (some (u14, v2)) (ck (inb v4 (ln 89)) (lt ((v2 &&& (-4294967296)) ||| (u14.2.2.1 89 v4.toNatClampNeg).toInt64) (fun y15 => ck (inb (0 : Int32) (ln 141)) (lt (upJ u14 141 (vp_updL (u14.2.2.2 141) (0 : Int32).toNatClampNeg v2)) (fun w16 => ck (inb (0 : Int32) (ln 142)) (lt (upA w16 142 (upd (w16.2.2.1 142) (0 : Int32).toNatClampNeg (-1))) (fun w17 => G.1 w17 (v1) (v4) (y15) (1)))))))))
set_option maxRecDepth 100000 in
set_option maxHeartbeats 4000000 in
theorem wb_M_copy_0 {p : Program} {l : Launch} {e : Env} {R : Room} {s : State} {m : MethodId} {args : Array Value} {below : List Frame} {meth : Method} {c : Code} {D : va_G} {cl : List vw_C} {cB cI cJ cZ cS : ClassId} {A : Nat → Prop} {iM h0 : Nat} {ad : Nat → Nat} (C0 : MCx p s m args meth c b_M_copy 16 (some .long) D cl cB cI cJ cZ cS iM A) (hR : R = rm_M_copy) (N : Nat) (G : (MS → Int32 → Int32 → Int64 → Int32 → Option (MS × Int64)) × (MS → Int32 → Int32 → Int64 → Int32 → Int64 → Int32 → Int32 → Int32 → Option (MS × Int64))) (hG : (∀ (u : MS) (v1 : Int32) (v4 : Int32) (v5 : Int64) (v7 : Int32) (x : MS × Int64), G.1 u v1 v4 v5 v7 = some x → ∀ (H : Heap) (locs : List Loc), va_P D cl (wM cB cI cJ cZ cS iM h0 ad u) H → va_D A (wM cB cI cJ cZ cS iM h0 ad u) → va_S A s.heap H locs → ∀ (ls : Array Slot), lv_has ls 16 [(0, .ref h0), (1, .int v1), (4, .int v4), (5, .long v5), (7, .int v7)] → W p l e R s m args below meth c H locs 0 0 (MQ below (mQl D cl cB cI cJ cZ cS iM h0 ad A x) args s 0 0 A) (F0 m 42 ls [])) ∧ (∀ (u : MS) (v1 : Int32) (v4 : Int32) (v5 : Int64) (v7 : Int32) (v8 : Int64) (v11 : Int32) (v12 : Int32) (v13 : Int32) (x : MS × Int64), G.2 u v1 v4 v5 v7 v8 v11 v12 v13 = some x → ∀ (H : Heap) (locs : List Loc), va_P D cl (wM cB cI cJ cZ cS iM h0 ad u) H → va_D A (wM cB cI cJ cZ cS iM h0 ad u) → va_S A s.heap H locs → ∀ (ls : Array Slot), lv_has ls 16 [(0, .ref h0), (1, .int v1), (4, .int v4), (5, .long v5), (7, .int v7), (8, .long v8), (11, .int v11), (12, .int v12), (13, .int v13)] → W p l e R s m args below meth c H locs 0 0 (MQ below (mQl D cl cB cI cJ cZ cS iM h0 ad A x) args s 0 0 A) (F0 m 131 ls []))) : ∀ (u : MS) (v1 : Int32) (v2 : Int64) (v4 : Int32) (x : MS × Int64), fb_M_copy_0 N G u v1 v2 v4 = some x → ∀ (H : Heap) (locs : List Loc), va_P D cl (wM cB cI cJ cZ cS iM h0 ad u) H → va_D A (wM cB cI cJ cZ cS iM h0 ad u) → va_S A s.heap H locs → ∀ (ls : Array Slot), lv_has ls 16 [(0, .ref h0), (1, .int v1), (2, .long v2), (4, .int v4)] → W p l e R s m args below meth c H locs 0 0 (MQ below (mQl D cl cB cI cJ cZ cS iM h0 ad A x) args s 0 0 A) (F0 m 0 ls []) := by
  intro u v1 v2 v4 x hf H locs hP hD hS ls hl
  obtain ⟨hx, hb, hr, hml, ht, hown, hM, hK, hA, hlocks⟩ := id C0
  unfold fb_M_copy_0 at hf
  refine lv_lload_n hx hb d_M_copy_0 rfl (lv_at hl 2 rfl) ?_
  obtain ⟨u14, r14, hc14, hf⟩ := bnd_some hf
  refine mS_i (As := [.long v2]) (rest := []) C0 hP hD hS (c_M_inHeap N hM hc14) k_M_inHeap hl_M_inHeap ht_M_inHeap hini_M rfl rfl hd_M_inHeap rfl (rm_M_copy_M_inHeap hR) hl.1 (Nat.le_of_ble_eq_true rfl) d_M_copy_1 rfl ⟨Nat.zero_le _, Nat.zero_le _⟩ (fun H locs hP hD hS => ?_)
  refine lv_if_ne (tgt := 9) hx hb d_M_copy_4 (by decide) (fun hc => ?_) (fun hc => ?_)
  · rw [br_n _ hc] at hf
    refine lv_lload_n hx hb d_M_copy_9 rfl (lv_at hl 2 rfl) ?_
    refine lv_ldc2 (v := (-4294967296)) hx hb hown (ht _ (wd_of 2982 (by decide +kernel) rfl)) d_M_copy_10 ?_
    refine lv_land hx hb d_M_copy_13 ?_
    refine lv_aload_n hx hb d_M_copy_14 rfl (lv_at hl 0 rfl) ?_
    refine ug_R hx hb ht hown hM hK hP 89 (by decide) lk_M_89 (by decide) d_M_copy_15 ?_
    refine lv_iload hx hb d_M_copy_18 (lv_at hl 3 rfl) ?_
    obtain ⟨hi9, hf⟩ := ck_some hf
    refine ul_I hx hb hK hP (by decide) (by decide) hi9 d_M_copy_20 ?_
    refine lv_i2l hx hb d_M_copy_21 rfl ?_
    refine lv_lor hx hb d_M_copy_22 ?_
    obtain ⟨y15, e15, hf⟩ := lt_some hf
    rw [← e15]
    refine lv_lstore (lv' := [(5, .long y15), (0, .ref h0), (1, .int v1), (2, .long v2), (4, .int v4)]) hx hb d_M_copy_23 hl (by decide) rfl (fun ls hl => ?_)
    refine lv_iconst (v := 1) hx hb d_M_copy_25 (by decide) ?_
    refine lv_istore (lv' := [(7, .int 1), (5, .long y15), (0, .ref h0), (1, .int v1), (2, .long v2), (4, .int v4)]) hx hb d_M_copy_26 hl (by decide) rfl (fun ls hl => ?_)
    refine lv_aload_n hx hb d_M_copy_28 rfl (lv_at hl 2 rfl) ?_
    refine ug_R hx hb ht hown hM hK hP 141 (by decide) lk_M_141 (by decide) d_M_copy_29 ?_
    refine lv_iconst (v := 0) hx hb d_M_copy_32 (by decide) ?_
    refine lv_lload_n hx hb d_M_copy_33 rfl (lv_at hl 4 rfl) ?_
    obtain ⟨hi9, hf⟩ := ck_some hf
    refine us_J hx hb hK hP hD hS (by decide) (by decide) hi9 d_M_copy_34 (fun H locs hP hD hS => ?_)
    obtain ⟨w16, e16, hf⟩ := lt_some hf
    rw [← e16] at hP hD
    refine lv_aload_n hx hb d_M_copy_35 rfl (lv_at hl 2 rfl) ?_
    refine ug_R hx hb ht hown hM hK hP 142 (by decide) lk_M_142 (by decide) d_M_copy_36 ?_
    refine lv_iconst (v := 0) hx hb d_M_copy_39 (by decide) ?_
    refine lv_iconst (v := (-1)) hx hb d_M_copy_40 (by decide) ?_
    obtain ⟨hi9, hf⟩ := ck_some hf
    refine us_I hx hb hK hP hD hS (by decide) (by decide) hi9 d_M_copy_41 (fun H locs hP hD hS => ?_)
    obtain ⟨w17, e17, hf⟩ := lt_some hf
    rw [← e17] at hP hD
    exact hG.1 _ _ _ _ _ _ hf H locs hP hD hS ls (lv_sub hl [2, 3, 5, 1, 0] rfl)
  · rw [br_p _ hc] at hf
    refine lv_lload_n hx hb d_M_copy_7 rfl (lv_at hl 2 rfl) ?_
    exact mr_l C0 hP hD hS hf d_M_copy_8
def gg_M_copy (N : Nat) : Nat → ((MS → Int32 → Int32 → Int64 → Int32 → Option (MS × Int64)) × (MS → Int32 → Int32 → Int64 → Int32 → Int64 → Int32 → Int32 → Int32 → Option (MS × Int64)))
  | 0 => (fun _ _ _ _ _ => none, fun _ _ _ _ _ _ _ _ _ => none)
  | n + 1 => (fb_M_copy_42 N (gg_M_copy N n), fb_M_copy_131 N (gg_M_copy N n))
theorem wg_M_copy {p : Program} {l : Launch} {e : Env} {R : Room} {s : State} {m : MethodId} {args : Array Value} {below : List Frame} {meth : Method} {c : Code} {D : va_G} {cl : List vw_C} {cB cI cJ cZ cS : ClassId} {A : Nat → Prop} {iM h0 : Nat} {ad : Nat → Nat} (C0 : MCx p s m args meth c b_M_copy 16 (some .long) D cl cB cI cJ cZ cS iM A) (hR : R = rm_M_copy) (N : Nat) : ∀ n : Nat, (∀ (u : MS) (v1 : Int32) (v4 : Int32) (v5 : Int64) (v7 : Int32) (x : MS × Int64), (gg_M_copy N n).1 u v1 v4 v5 v7 = some x → ∀ (H : Heap) (locs : List Loc), va_P D cl (wM cB cI cJ cZ cS iM h0 ad u) H → va_D A (wM cB cI cJ cZ cS iM h0 ad u) → va_S A s.heap H locs → ∀ (ls : Array Slot), lv_has ls 16 [(0, .ref h0), (1, .int v1), (4, .int v4), (5, .long v5), (7, .int v7)] → W p l e R s m args below meth c H locs 0 0 (MQ below (mQl D cl cB cI cJ cZ cS iM h0 ad A x) args s 0 0 A) (F0 m 42 ls [])) ∧ (∀ (u : MS) (v1 : Int32) (v4 : Int32) (v5 : Int64) (v7 : Int32) (v8 : Int64) (v11 : Int32) (v12 : Int32) (v13 : Int32) (x : MS × Int64), (gg_M_copy N n).2 u v1 v4 v5 v7 v8 v11 v12 v13 = some x → ∀ (H : Heap) (locs : List Loc), va_P D cl (wM cB cI cJ cZ cS iM h0 ad u) H → va_D A (wM cB cI cJ cZ cS iM h0 ad u) → va_S A s.heap H locs → ∀ (ls : Array Slot), lv_has ls 16 [(0, .ref h0), (1, .int v1), (4, .int v4), (5, .long v5), (7, .int v7), (8, .long v8), (11, .int v11), (12, .int v12), (13, .int v13)] → W p l e R s m args below meth c H locs 0 0 (MQ below (mQl D cl cB cI cJ cZ cS iM h0 ad A x) args s 0 0 A) (F0 m 131 ls []))
  | 0 => ⟨(fun u v1 v4 v5 v7 x hf => by cases hf), (fun u v1 v4 v5 v7 v8 v11 v12 v13 x hf => by cases hf)⟩
  | n + 1 => ⟨wb_M_copy_42 C0 hR N (gg_M_copy N n) (wg_M_copy C0 hR N n), wb_M_copy_131 C0 hR N (gg_M_copy N n) (wg_M_copy C0 hR N n)⟩
def fm_M_copy (N : Nat) (u : MS) (v1 : Int32) (v2 : Int64) (v4 : Int32) : Option (MS × Int64) := fb_M_copy_0 N (gg_M_copy N N) u v1 v2 v4
set_option maxRecDepth 100000 in
set_option maxHeartbeats 4000000 in
theorem c_M_copy (N : Nat) {l : Launch} {D : va_G} {cl : List vw_C} {cB cI cJ cZ cS : ClassId} {iM h0 : Nat} {ad : Nat → Nat} {u : MS} {sz : Nat} {v1 : Int32} {v2 : Int64} {v4 : Int32} {x : MS × Int64} (hM : cl[iM]? = some (R_M, F_M, 171)) (hf : fm_M_copy N u v1 v2 v4 = some x) : Met l y_M_copy (wd_ws y_M_copy b_M_copy 16 (some .long)) rm_M_copy (mPc D cl cB cI cJ cZ cS iM h0 ad u sz [.ref h0, .int v1, .long v2, .int v4]) (mQl D cl cB cI cJ cZ cS iM h0 ad (mA cB cI cJ cZ cS iM h0 ad u sz) x) 0 0 (mA cB cI cJ cZ cS iM h0 ad u sz) :=
  mMet (by decide) rfl hM (Nat.le_of_ble_eq_true rfl) (fun p e s m below meth c ls hsz C0 hP hD hS hl => by
    have hR : rm_M_copy = rm_M_copy := rfl
    exact wb_M_copy_0 C0 hR N (gg_M_copy N N) (wg_M_copy C0 hR N N) u _ _ _ x hf s.heap [] hP hD hS ls (lv_sub hl [0, 1, 2, 3] rfl))
abbrev b_M_compare : ByteArray := prog_14_method_94_code
def y_M_compare : MethodName := ⟨R_M, "compare", "(JJ)I"⟩
def w_M_compare : List Cond := wd_ws y_M_compare b_M_compare 4 (some .int)
set_option maxRecDepth 100000 in
theorem k_M_compare : Cond.code y_M_compare b_M_compare 4 (some .int) ∈ wd_tbl := wd_of 3041 rfl rfl
theorem d_M_compare_0 : decode b_M_compare 0 = .ok (.lload_n 0, 1) := by decide +kernel
theorem d_M_compare_1 : decode b_M_compare 1 = .ok (.lload_n 2, 1) := by decide +kernel
theorem d_M_compare_2 : decode b_M_compare 2 = .ok (.lcmp, 1) := by decide +kernel
theorem d_M_compare_3 : decode b_M_compare 3 = .ok (.ifCond .ge 7, 3) := by decide +kernel
theorem d_M_compare_6 : decode b_M_compare 6 = .ok (.iconst (-1), 1) := by decide +kernel
theorem d_M_compare_7 : decode b_M_compare 7 = .ok (.goto 14, 3) := by decide +kernel
theorem d_M_compare_10 : decode b_M_compare 10 = .ok (.lload_n 0, 1) := by decide +kernel
theorem d_M_compare_11 : decode b_M_compare 11 = .ok (.lload_n 2, 1) := by decide +kernel
theorem d_M_compare_12 : decode b_M_compare 12 = .ok (.lcmp, 1) := by decide +kernel
theorem d_M_compare_13 : decode b_M_compare 13 = .ok (.ifCond .le 7, 3) := by decide +kernel
theorem d_M_compare_16 : decode b_M_compare 16 = .ok (.iconst 1, 1) := by decide +kernel
theorem d_M_compare_17 : decode b_M_compare 17 = .ok (.goto 4, 3) := by decide +kernel
theorem d_M_compare_20 : decode b_M_compare 20 = .ok (.iconst 0, 1) := by decide +kernel
theorem d_M_compare_21 : decode b_M_compare 21 = .ok (.ireturn, 1) := by decide +kernel
set_option maxRecDepth 100000 in
theorem hl_M_compare : Cond.methodLink R_M 716 y_M_compare ∈ wd_tbl := wd_of 3039 (by decide +kernel) rfl
set_option maxRecDepth 100000 in
theorem ht_M_compare : Cond.static y_M_compare ∈ wd_tbl := wd_of 3040 (by decide +kernel) rfl
theorem hd_M_compare : y_M_compare.cls = R_M ∧ y_M_compare.cls ≠ "java/lang/invoke/MethodHandle" ∧ y_M_compare.cls ≠ "java/lang/invoke/VarHandle" ∧ (parseMethodDescriptor y_M_compare.desc).map (fun d => d.parameters.length) = some 2 := by decide +kernel
def rm_M_compare : Room := { frames := 0, cells := 0, slots := 0, locals := 0 }
def fb_M_compare_21 (N : Nat) (G : Unit) (u : MS) (t0 : Int32) : Option (MS × Int32) := some (u, t0)
set_option maxRecDepth 100000 in
set_option maxHeartbeats 4000000 in
theorem wb_M_compare_21 {p : Program} {l : Launch} {e : Env} {R : Room} {s : State} {m : MethodId} {args : Array Value} {below : List Frame} {meth : Method} {c : Code} {D : va_G} {cl : List vw_C} {cB cI cJ cZ cS : ClassId} {A : Nat → Prop} {iM h0 : Nat} {ad : Nat → Nat} (C0 : MCx p s m args meth c b_M_compare 4 (some .int) D cl cB cI cJ cZ cS iM A) (hR : R = rm_M_compare) (N : Nat) (G : Unit) (hG : True) : ∀ (u : MS) (t0 : Int32) (x : MS × Int32), fb_M_compare_21 N G u t0 = some x → ∀ (H : Heap) (locs : List Loc), va_P D cl (wM cB cI cJ cZ cS iM h0 ad u) H → va_D A (wM cB cI cJ cZ cS iM h0 ad u) → va_S A s.heap H locs → ∀ (ls : Array Slot), lv_has ls 4 [] → W p l e R s m args below meth c H locs 0 0 (MQ below (mQi D cl cB cI cJ cZ cS iM h0 ad A x) args s 0 0 A) (F0 m 21 ls [.int t0]) := by
  intro u t0 x hf H locs hP hD hS ls hl
  obtain ⟨hx, hb, hr, hml, ht, hown, hM, hK, hA, hlocks⟩ := id C0
  unfold fb_M_compare_21 at hf
  exact mr_i C0 hP hD hS hf d_M_compare_21
def fb_M_compare_0 (N : Nat) (G : Unit) (u : MS) (v0 : Int64) (v2 : Int64) : Option (MS × Int32) := br (decide (0 ≤ (lg_cmp v0 v2))) (br (decide ((lg_cmp v0 v2) ≤ 0)) (fb_M_compare_21 N G u (0)) (fb_M_compare_21 N G u (1))) (fb_M_compare_21 N G u ((-1)))
set_option maxRecDepth 100000 in
set_option maxHeartbeats 4000000 in
theorem wb_M_compare_0 {p : Program} {l : Launch} {e : Env} {R : Room} {s : State} {m : MethodId} {args : Array Value} {below : List Frame} {meth : Method} {c : Code} {D : va_G} {cl : List vw_C} {cB cI cJ cZ cS : ClassId} {A : Nat → Prop} {iM h0 : Nat} {ad : Nat → Nat} (C0 : MCx p s m args meth c b_M_compare 4 (some .int) D cl cB cI cJ cZ cS iM A) (hR : R = rm_M_compare) (N : Nat) (G : Unit) (hG : True) : ∀ (u : MS) (v0 : Int64) (v2 : Int64) (x : MS × Int32), fb_M_compare_0 N G u v0 v2 = some x → ∀ (H : Heap) (locs : List Loc), va_P D cl (wM cB cI cJ cZ cS iM h0 ad u) H → va_D A (wM cB cI cJ cZ cS iM h0 ad u) → va_S A s.heap H locs → ∀ (ls : Array Slot), lv_has ls 4 [(0, .long v0), (2, .long v2)] → W p l e R s m args below meth c H locs 0 0 (MQ below (mQi D cl cB cI cJ cZ cS iM h0 ad A x) args s 0 0 A) (F0 m 0 ls []) := by
  intro u v0 v2 x hf H locs hP hD hS ls hl
  obtain ⟨hx, hb, hr, hml, ht, hown, hM, hK, hA, hlocks⟩ := id C0
  unfold fb_M_compare_0 at hf
  refine lv_lload_n hx hb d_M_compare_0 rfl (lv_at hl 0 rfl) ?_
  refine lv_lload_n hx hb d_M_compare_1 rfl (lv_at hl 1 rfl) ?_
  refine W.lcmp hx hb d_M_compare_2 ?_
  refine lv_if_ge (tgt := 10) hx hb d_M_compare_3 (by decide) (fun hc => ?_) (fun hc => ?_)
  · rw [br_p _ hc] at hf
    refine lv_lload_n hx hb d_M_compare_10 rfl (lv_at hl 0 rfl) ?_
    refine lv_lload_n hx hb d_M_compare_11 rfl (lv_at hl 1 rfl) ?_
    refine W.lcmp hx hb d_M_compare_12 ?_
    refine lv_if_le (tgt := 20) hx hb d_M_compare_13 (by decide) (fun hc => ?_) (fun hc => ?_)
    · rw [br_p _ hc] at hf
      refine lv_iconst (v := 0) hx hb d_M_compare_20 (by decide) ?_
      exact wb_M_compare_21 C0 hR N G hG _ _ _ hf H locs hP hD hS ls (lv_sub hl [] rfl)
    · rw [br_n _ hc] at hf
      refine lv_iconst (v := 1) hx hb d_M_compare_16 (by decide) ?_
      refine lv_goto (tgt := 21) hx hb d_M_compare_17 (by decide) ?_
      exact wb_M_compare_21 C0 hR N G hG _ _ _ hf H locs hP hD hS ls (lv_sub hl [] rfl)
  · rw [br_n _ hc] at hf
    refine lv_iconst (v := (-1)) hx hb d_M_compare_6 (by decide) ?_
    refine lv_goto (tgt := 21) hx hb d_M_compare_7 (by decide) ?_
    exact wb_M_compare_21 C0 hR N G hG _ _ _ hf H locs hP hD hS ls (lv_sub hl [] rfl)
def fm_M_compare (N : Nat) (u : MS) (v0 : Int64) (v2 : Int64) : Option (MS × Int32) := fb_M_compare_0 N () u v0 v2
set_option maxRecDepth 100000 in
set_option maxHeartbeats 4000000 in
theorem c_M_compare (N : Nat) {l : Launch} {D : va_G} {cl : List vw_C} {cB cI cJ cZ cS : ClassId} {iM h0 : Nat} {ad : Nat → Nat} {u : MS} {sz : Nat} {v0 : Int64} {v2 : Int64} {x : MS × Int32} (hM : cl[iM]? = some (R_M, F_M, 171)) (hf : fm_M_compare N u v0 v2 = some x) : Met l y_M_compare (wd_ws y_M_compare b_M_compare 4 (some .int)) rm_M_compare (mPc D cl cB cI cJ cZ cS iM h0 ad u sz [.long v0, .long v2]) (mQi D cl cB cI cJ cZ cS iM h0 ad (mA cB cI cJ cZ cS iM h0 ad u sz) x) 0 0 (mA cB cI cJ cZ cS iM h0 ad u sz) :=
  mMet (by decide) rfl hM (Nat.le_of_ble_eq_true rfl) (fun p e s m below meth c ls hsz C0 hP hD hS hl => by
    have hR : rm_M_compare = rm_M_compare := rfl
    exact wb_M_compare_0 C0 hR N () trivial u _ _ x hf s.heap [] hP hD hS ls (lv_sub hl [0, 1] rfl))
abbrev b_M_orderAtoms : ByteArray := prog_14_method_96_code
def y_M_orderAtoms : MethodName := ⟨R_M, "orderAtoms", "(II)I"⟩
def w_M_orderAtoms : List Cond := wd_ws y_M_orderAtoms b_M_orderAtoms 7 (some .int)
set_option maxRecDepth 100000 in
theorem k_M_orderAtoms : Cond.code y_M_orderAtoms b_M_orderAtoms 7 (some .int) ∈ wd_tbl := wd_of 3045 rfl rfl
theorem d_M_orderAtoms_0 : decode b_M_orderAtoms 0 = .ok (.aload_n 0, 1) := by decide +kernel
theorem d_M_orderAtoms_1 : decode b_M_orderAtoms 1 = .ok (.getfield 35, 3) := by decide +kernel
theorem d_M_orderAtoms_4 : decode b_M_orderAtoms 4 = .ok (.iload_n 1, 1) := by decide +kernel
theorem d_M_orderAtoms_5 : decode b_M_orderAtoms 5 = .ok (.iconst 1, 1) := by decide +kernel
theorem d_M_orderAtoms_6 : decode b_M_orderAtoms 6 = .ok (.iadd, 1) := by decide +kernel
theorem d_M_orderAtoms_7 : decode b_M_orderAtoms 7 = .ok (.iaload, 1) := by decide +kernel
theorem d_M_orderAtoms_8 : decode b_M_orderAtoms 8 = .ok (.aload_n 0, 1) := by decide +kernel
theorem d_M_orderAtoms_9 : decode b_M_orderAtoms 9 = .ok (.getfield 35, 3) := by decide +kernel
theorem d_M_orderAtoms_12 : decode b_M_orderAtoms 12 = .ok (.iload_n 1, 1) := by decide +kernel
theorem d_M_orderAtoms_13 : decode b_M_orderAtoms 13 = .ok (.iaload, 1) := by decide +kernel
theorem d_M_orderAtoms_14 : decode b_M_orderAtoms 14 = .ok (.isub, 1) := by decide +kernel
theorem d_M_orderAtoms_15 : decode b_M_orderAtoms 15 = .ok (.istore_n 3, 1) := by decide +kernel
theorem d_M_orderAtoms_16 : decode b_M_orderAtoms 16 = .ok (.aload_n 0, 1) := by decide +kernel
theorem d_M_orderAtoms_17 : decode b_M_orderAtoms 17 = .ok (.getfield 35, 3) := by decide +kernel
theorem d_M_orderAtoms_20 : decode b_M_orderAtoms 20 = .ok (.iload_n 2, 1) := by decide +kernel
theorem d_M_orderAtoms_21 : decode b_M_orderAtoms 21 = .ok (.iconst 1, 1) := by decide +kernel
theorem d_M_orderAtoms_22 : decode b_M_orderAtoms 22 = .ok (.iadd, 1) := by decide +kernel
theorem d_M_orderAtoms_23 : decode b_M_orderAtoms 23 = .ok (.iaload, 1) := by decide +kernel
theorem d_M_orderAtoms_24 : decode b_M_orderAtoms 24 = .ok (.aload_n 0, 1) := by decide +kernel
theorem d_M_orderAtoms_25 : decode b_M_orderAtoms 25 = .ok (.getfield 35, 3) := by decide +kernel
theorem d_M_orderAtoms_28 : decode b_M_orderAtoms 28 = .ok (.iload_n 2, 1) := by decide +kernel
theorem d_M_orderAtoms_29 : decode b_M_orderAtoms 29 = .ok (.iaload, 1) := by decide +kernel
theorem d_M_orderAtoms_30 : decode b_M_orderAtoms 30 = .ok (.isub, 1) := by decide +kernel
theorem d_M_orderAtoms_31 : decode b_M_orderAtoms 31 = .ok (.istore 4, 2) := by decide +kernel
theorem d_M_orderAtoms_33 : decode b_M_orderAtoms 33 = .ok (.iconst 0, 1) := by decide +kernel
theorem d_M_orderAtoms_34 : decode b_M_orderAtoms 34 = .ok (.istore 5, 2) := by decide +kernel
theorem d_M_orderAtoms_36 : decode b_M_orderAtoms 36 = .ok (.iload 5, 2) := by decide +kernel
theorem d_M_orderAtoms_38 : decode b_M_orderAtoms 38 = .ok (.iload_n 3, 1) := by decide +kernel
theorem d_M_orderAtoms_39 : decode b_M_orderAtoms 39 = .ok (.if_icmp .ge 63, 3) := by decide +kernel
theorem d_M_orderAtoms_42 : decode b_M_orderAtoms 42 = .ok (.iload 5, 2) := by decide +kernel
theorem d_M_orderAtoms_44 : decode b_M_orderAtoms 44 = .ok (.iload 4, 2) := by decide +kernel
theorem d_M_orderAtoms_46 : decode b_M_orderAtoms 46 = .ok (.if_icmp .ge 56, 3) := by decide +kernel
theorem d_M_orderAtoms_49 : decode b_M_orderAtoms 49 = .ok (.aload_n 0, 1) := by decide +kernel
theorem d_M_orderAtoms_50 : decode b_M_orderAtoms 50 = .ok (.getfield 32, 3) := by decide +kernel
theorem d_M_orderAtoms_53 : decode b_M_orderAtoms 53 = .ok (.aload_n 0, 1) := by decide +kernel
theorem d_M_orderAtoms_54 : decode b_M_orderAtoms 54 = .ok (.getfield 35, 3) := by decide +kernel
theorem d_M_orderAtoms_57 : decode b_M_orderAtoms 57 = .ok (.iload_n 1, 1) := by decide +kernel
theorem d_M_orderAtoms_58 : decode b_M_orderAtoms 58 = .ok (.iaload, 1) := by decide +kernel
theorem d_M_orderAtoms_59 : decode b_M_orderAtoms 59 = .ok (.iload 5, 2) := by decide +kernel
theorem d_M_orderAtoms_61 : decode b_M_orderAtoms 61 = .ok (.iadd, 1) := by decide +kernel
theorem d_M_orderAtoms_62 : decode b_M_orderAtoms 62 = .ok (.baload, 1) := by decide +kernel
theorem d_M_orderAtoms_63 : decode b_M_orderAtoms 63 = .ok (.aload_n 0, 1) := by decide +kernel
theorem d_M_orderAtoms_64 : decode b_M_orderAtoms 64 = .ok (.getfield 32, 3) := by decide +kernel
theorem d_M_orderAtoms_67 : decode b_M_orderAtoms 67 = .ok (.aload_n 0, 1) := by decide +kernel
theorem d_M_orderAtoms_68 : decode b_M_orderAtoms 68 = .ok (.getfield 35, 3) := by decide +kernel
theorem d_M_orderAtoms_71 : decode b_M_orderAtoms 71 = .ok (.iload_n 2, 1) := by decide +kernel
theorem d_M_orderAtoms_72 : decode b_M_orderAtoms 72 = .ok (.iaload, 1) := by decide +kernel
theorem d_M_orderAtoms_73 : decode b_M_orderAtoms 73 = .ok (.iload 5, 2) := by decide +kernel
theorem d_M_orderAtoms_75 : decode b_M_orderAtoms 75 = .ok (.iadd, 1) := by decide +kernel
theorem d_M_orderAtoms_76 : decode b_M_orderAtoms 76 = .ok (.baload, 1) := by decide +kernel
theorem d_M_orderAtoms_77 : decode b_M_orderAtoms 77 = .ok (.isub, 1) := by decide +kernel
theorem d_M_orderAtoms_78 : decode b_M_orderAtoms 78 = .ok (.istore 6, 2) := by decide +kernel
theorem d_M_orderAtoms_80 : decode b_M_orderAtoms 80 = .ok (.iload 6, 2) := by decide +kernel
theorem d_M_orderAtoms_82 : decode b_M_orderAtoms 82 = .ok (.ifCond .eq 14, 3) := by decide +kernel
theorem d_M_orderAtoms_85 : decode b_M_orderAtoms 85 = .ok (.iload 6, 2) := by decide +kernel
theorem d_M_orderAtoms_87 : decode b_M_orderAtoms 87 = .ok (.ifCond .ge 7, 3) := by decide +kernel
theorem d_M_orderAtoms_90 : decode b_M_orderAtoms 90 = .ok (.iconst (-1), 1) := by decide +kernel
theorem d_M_orderAtoms_91 : decode b_M_orderAtoms 91 = .ok (.goto 4, 3) := by decide +kernel
theorem d_M_orderAtoms_94 : decode b_M_orderAtoms 94 = .ok (.iconst 1, 1) := by decide +kernel
theorem d_M_orderAtoms_95 : decode b_M_orderAtoms 95 = .ok (.ireturn, 1) := by decide +kernel
theorem d_M_orderAtoms_96 : decode b_M_orderAtoms 96 = .ok (.iinc 5 1, 3) := by decide +kernel
theorem d_M_orderAtoms_99 : decode b_M_orderAtoms 99 = .ok (.goto (-63), 3) := by decide +kernel
theorem d_M_orderAtoms_102 : decode b_M_orderAtoms 102 = .ok (.iload_n 3, 1) := by decide +kernel
theorem d_M_orderAtoms_103 : decode b_M_orderAtoms 103 = .ok (.i2l, 1) := by decide +kernel
theorem d_M_orderAtoms_104 : decode b_M_orderAtoms 104 = .ok (.iload 4, 2) := by decide +kernel
theorem d_M_orderAtoms_106 : decode b_M_orderAtoms 106 = .ok (.i2l, 1) := by decide +kernel
theorem d_M_orderAtoms_107 : decode b_M_orderAtoms 107 = .ok (.invokestatic 716, 3) := by decide +kernel
theorem d_M_orderAtoms_110 : decode b_M_orderAtoms 110 = .ok (.ireturn, 1) := by decide +kernel
set_option maxRecDepth 100000 in
theorem hl_M_orderAtoms : Cond.methodLink R_M 719 y_M_orderAtoms ∈ wd_tbl := wd_of 3042 (by decide +kernel) rfl
set_option maxRecDepth 100000 in
theorem hi_M_orderAtoms : Cond.instanceMethod y_M_orderAtoms ∈ wd_tbl := wd_of 3044 (by decide +kernel) rfl
set_option maxRecDepth 100000 in
theorem hs_M_orderAtoms : Cond.selects R_M y_M_orderAtoms y_M_orderAtoms ∈ wd_tbl := wd_of 217 (by decide +kernel) rfl
theorem hd_M_orderAtoms : y_M_orderAtoms.cls = R_M ∧ y_M_orderAtoms.cls ≠ "java/lang/invoke/MethodHandle" ∧ y_M_orderAtoms.cls ≠ "java/lang/invoke/VarHandle" ∧ (parseMethodDescriptor y_M_orderAtoms.desc).map (fun d => d.parameters.length) = some 2 := by decide +kernel
def rm_M_orderAtoms : Room := { frames := 1, cells := 0, slots := 0, locals := 23 }
theorem rm_M_orderAtoms_M_compare {R : Room} (hR : R = rm_M_orderAtoms) : (rm_M_compare).frames + 1 ≤ R.frames ∧ 8 + (4 + 11) + (rm_M_compare).locals ≤ R.locals := by subst hR; decide
def fb_M_orderAtoms_102 (N : Nat) (G : (MS → Int32 → Int32 → Int32 → Int32 → Int32 → Option (MS × Int32))) (u : MS) (v3 : Int32) (v4 : Int32) : Option (MS × Int32) := bnd (fm_M_compare N u (v3.toInt64) (v4.toInt64)) (fun u1 r1 => some (u1, r1))
set_option maxRecDepth 100000 in
set_option maxHeartbeats 4000000 in
theorem wb_M_orderAtoms_102 {p : Program} {l : Launch} {e : Env} {R : Room} {s : State} {m : MethodId} {args : Array Value} {below : List Frame} {meth : Method} {c : Code} {D : va_G} {cl : List vw_C} {cB cI cJ cZ cS : ClassId} {A : Nat → Prop} {iM h0 : Nat} {ad : Nat → Nat} (C0 : MCx p s m args meth c b_M_orderAtoms 7 (some .int) D cl cB cI cJ cZ cS iM A) (hR : R = rm_M_orderAtoms) (N : Nat) (G : (MS → Int32 → Int32 → Int32 → Int32 → Int32 → Option (MS × Int32))) (hG : (∀ (u : MS) (v1 : Int32) (v2 : Int32) (v3 : Int32) (v4 : Int32) (v5 : Int32) (x : MS × Int32), G u v1 v2 v3 v4 v5 = some x → ∀ (H : Heap) (locs : List Loc), va_P D cl (wM cB cI cJ cZ cS iM h0 ad u) H → va_D A (wM cB cI cJ cZ cS iM h0 ad u) → va_S A s.heap H locs → ∀ (ls : Array Slot), lv_has ls 7 [(0, .ref h0), (1, .int v1), (2, .int v2), (3, .int v3), (4, .int v4), (5, .int v5)] → W p l e R s m args below meth c H locs 0 0 (MQ below (mQi D cl cB cI cJ cZ cS iM h0 ad A x) args s 0 0 A) (F0 m 36 ls []))) : ∀ (u : MS) (v3 : Int32) (v4 : Int32) (x : MS × Int32), fb_M_orderAtoms_102 N G u v3 v4 = some x → ∀ (H : Heap) (locs : List Loc), va_P D cl (wM cB cI cJ cZ cS iM h0 ad u) H → va_D A (wM cB cI cJ cZ cS iM h0 ad u) → va_S A s.heap H locs → ∀ (ls : Array Slot), lv_has ls 7 [(3, .int v3), (4, .int v4)] → W p l e R s m args below meth c H locs 0 0 (MQ below (mQi D cl cB cI cJ cZ cS iM h0 ad A x) args s 0 0 A) (F0 m 102 ls []) := by
  intro u v3 v4 x hf H locs hP hD hS ls hl
  obtain ⟨hx, hb, hr, hml, ht, hown, hM, hK, hA, hlocks⟩ := id C0
  unfold fb_M_orderAtoms_102 at hf
  refine lv_iload_n hx hb d_M_orderAtoms_102 rfl (lv_at hl 0 rfl) ?_
  refine lv_i2l hx hb d_M_orderAtoms_103 rfl ?_
  refine lv_iload hx hb d_M_orderAtoms_104 (lv_at hl 1 rfl) ?_
  refine lv_i2l hx hb d_M_orderAtoms_106 rfl ?_
  obtain ⟨u1, r1, hc1, hf⟩ := bnd_some hf
  refine mS_i (As := [.long v3.toInt64, .long v4.toInt64]) (rest := []) C0 hP hD hS (c_M_compare N hM hc1) k_M_compare hl_M_compare ht_M_compare hini_M rfl rfl hd_M_compare rfl (rm_M_orderAtoms_M_compare hR) hl.1 (Nat.le_of_ble_eq_true rfl) d_M_orderAtoms_107 rfl ⟨Nat.zero_le _, Nat.zero_le _⟩ (fun H locs hP hD hS => ?_)
  exact mr_i C0 hP hD hS hf d_M_orderAtoms_110
def fb_M_orderAtoms_95 (N : Nat) (G : (MS → Int32 → Int32 → Int32 → Int32 → Int32 → Option (MS × Int32))) (u : MS) (t0 : Int32) : Option (MS × Int32) := some (u, t0)
set_option maxRecDepth 100000 in
set_option maxHeartbeats 4000000 in
theorem wb_M_orderAtoms_95 {p : Program} {l : Launch} {e : Env} {R : Room} {s : State} {m : MethodId} {args : Array Value} {below : List Frame} {meth : Method} {c : Code} {D : va_G} {cl : List vw_C} {cB cI cJ cZ cS : ClassId} {A : Nat → Prop} {iM h0 : Nat} {ad : Nat → Nat} (C0 : MCx p s m args meth c b_M_orderAtoms 7 (some .int) D cl cB cI cJ cZ cS iM A) (hR : R = rm_M_orderAtoms) (N : Nat) (G : (MS → Int32 → Int32 → Int32 → Int32 → Int32 → Option (MS × Int32))) (hG : (∀ (u : MS) (v1 : Int32) (v2 : Int32) (v3 : Int32) (v4 : Int32) (v5 : Int32) (x : MS × Int32), G u v1 v2 v3 v4 v5 = some x → ∀ (H : Heap) (locs : List Loc), va_P D cl (wM cB cI cJ cZ cS iM h0 ad u) H → va_D A (wM cB cI cJ cZ cS iM h0 ad u) → va_S A s.heap H locs → ∀ (ls : Array Slot), lv_has ls 7 [(0, .ref h0), (1, .int v1), (2, .int v2), (3, .int v3), (4, .int v4), (5, .int v5)] → W p l e R s m args below meth c H locs 0 0 (MQ below (mQi D cl cB cI cJ cZ cS iM h0 ad A x) args s 0 0 A) (F0 m 36 ls []))) : ∀ (u : MS) (t0 : Int32) (x : MS × Int32), fb_M_orderAtoms_95 N G u t0 = some x → ∀ (H : Heap) (locs : List Loc), va_P D cl (wM cB cI cJ cZ cS iM h0 ad u) H → va_D A (wM cB cI cJ cZ cS iM h0 ad u) → va_S A s.heap H locs → ∀ (ls : Array Slot), lv_has ls 7 [] → W p l e R s m args below meth c H locs 0 0 (MQ below (mQi D cl cB cI cJ cZ cS iM h0 ad A x) args s 0 0 A) (F0 m 95 ls [.int t0]) := by
  intro u t0 x hf H locs hP hD hS ls hl
  obtain ⟨hx, hb, hr, hml, ht, hown, hM, hK, hA, hlocks⟩ := id C0
  unfold fb_M_orderAtoms_95 at hf
  exact mr_i C0 hP hD hS hf d_M_orderAtoms_95
def fb_M_orderAtoms_36 (N : Nat) (G : (MS → Int32 → Int32 → Int32 → Int32 → Int32 → Option (MS × Int32))) (u : MS) (v1 : Int32) (v2 : Int32) (v3 : Int32) (v4 : Int32) (v5 : Int32) : Option (MS × Int32) := br (decide (v3 ≤ v5)) (fb_M_orderAtoms_102 N G u (v3) (v4)) (br (decide (v4 ≤ v5)) (fb_M_orderAtoms_102 N G u (v3) (v4)) (ck (inb v1 (ln 13)) (ck (inb ((u.2.2.1 13 v1.toNatClampNeg) + v5) (ln 12)) (ck (inb v2 (ln 13)) (ck (inb ((u.2.2.1 13 v2.toNatClampNeg) + v5) (ln 12)) (lt ((u.2.2.1 12 ((u.2.2.1 13 v1.toNatClampNeg) + v5).toNatClampNeg) - (u.2.2.1 12 ((u.2.2.1 13 v2.toNatClampNeg) + v5).toNatClampNeg)) (fun y2 => br (decide (y2 = 0)) (G u (v1) (v2) (v3) (v4) ((v5 + 1))) (br (decide (0 ≤ y2)) (fb_M_orderAtoms_95 N G u (1)) (fb_M_orderAtoms_95 N G u ((-1)))))))))))
set_option maxRecDepth 100000 in
set_option maxHeartbeats 4000000 in
theorem wb_M_orderAtoms_36 {p : Program} {l : Launch} {e : Env} {R : Room} {s : State} {m : MethodId} {args : Array Value} {below : List Frame} {meth : Method} {c : Code} {D : va_G} {cl : List vw_C} {cB cI cJ cZ cS : ClassId} {A : Nat → Prop} {iM h0 : Nat} {ad : Nat → Nat} (C0 : MCx p s m args meth c b_M_orderAtoms 7 (some .int) D cl cB cI cJ cZ cS iM A) (hR : R = rm_M_orderAtoms) (N : Nat) (G : (MS → Int32 → Int32 → Int32 → Int32 → Int32 → Option (MS × Int32))) (hG : (∀ (u : MS) (v1 : Int32) (v2 : Int32) (v3 : Int32) (v4 : Int32) (v5 : Int32) (x : MS × Int32), G u v1 v2 v3 v4 v5 = some x → ∀ (H : Heap) (locs : List Loc), va_P D cl (wM cB cI cJ cZ cS iM h0 ad u) H → va_D A (wM cB cI cJ cZ cS iM h0 ad u) → va_S A s.heap H locs → ∀ (ls : Array Slot), lv_has ls 7 [(0, .ref h0), (1, .int v1), (2, .int v2), (3, .int v3), (4, .int v4), (5, .int v5)] → W p l e R s m args below meth c H locs 0 0 (MQ below (mQi D cl cB cI cJ cZ cS iM h0 ad A x) args s 0 0 A) (F0 m 36 ls []))) : ∀ (u : MS) (v1 : Int32) (v2 : Int32) (v3 : Int32) (v4 : Int32) (v5 : Int32) (x : MS × Int32), fb_M_orderAtoms_36 N G u v1 v2 v3 v4 v5 = some x → ∀ (H : Heap) (locs : List Loc), va_P D cl (wM cB cI cJ cZ cS iM h0 ad u) H → va_D A (wM cB cI cJ cZ cS iM h0 ad u) → va_S A s.heap H locs → ∀ (ls : Array Slot), lv_has ls 7 [(0, .ref h0), (1, .int v1), (2, .int v2), (3, .int v3), (4, .int v4), (5, .int v5)] → W p l e R s m args below meth c H locs 0 0 (MQ below (mQi D cl cB cI cJ cZ cS iM h0 ad A x) args s 0 0 A) (F0 m 36 ls []) := by
  intro u v1 v2 v3 v4 v5 x hf H locs hP hD hS ls hl
  obtain ⟨hx, hb, hr, hml, ht, hown, hM, hK, hA, hlocks⟩ := id C0
  unfold fb_M_orderAtoms_36 at hf
  refine lv_iload hx hb d_M_orderAtoms_36 (lv_at hl 5 rfl) ?_
  refine lv_iload_n hx hb d_M_orderAtoms_38 rfl (lv_at hl 3 rfl) ?_
  refine lv_icmp_ge (tgt := 102) hx hb d_M_orderAtoms_39 (by decide) (fun hc => ?_) (fun hc => ?_)
  · rw [br_p _ hc] at hf
    exact wb_M_orderAtoms_102 C0 hR N G hG _ _ _ _ hf H locs hP hD hS ls (lv_sub hl [3, 4] rfl)
  · rw [br_n _ hc] at hf
    refine lv_iload hx hb d_M_orderAtoms_42 (lv_at hl 5 rfl) ?_
    refine lv_iload hx hb d_M_orderAtoms_44 (lv_at hl 4 rfl) ?_
    refine lv_icmp_ge (tgt := 102) hx hb d_M_orderAtoms_46 (by decide) (fun hc => ?_) (fun hc => ?_)
    · rw [br_p _ hc] at hf
      exact wb_M_orderAtoms_102 C0 hR N G hG _ _ _ _ hf H locs hP hD hS ls (lv_sub hl [3, 4] rfl)
    · rw [br_n _ hc] at hf
      refine lv_aload_n hx hb d_M_orderAtoms_49 rfl (lv_at hl 0 rfl) ?_
      refine ug_R hx hb ht hown hM hK hP 12 (by decide) lk_M_12 (by decide) d_M_orderAtoms_50 ?_
      refine lv_aload_n hx hb d_M_orderAtoms_53 rfl (lv_at hl 0 rfl) ?_
      refine ug_R hx hb ht hown hM hK hP 13 (by decide) lk_M_13 (by decide) d_M_orderAtoms_54 ?_
      refine lv_iload_n hx hb d_M_orderAtoms_57 rfl (lv_at hl 1 rfl) ?_
      obtain ⟨hi9, hf⟩ := ck_some hf
      refine ul_I hx hb hK hP (by decide) (by decide) hi9 d_M_orderAtoms_58 ?_
      refine lv_iload hx hb d_M_orderAtoms_59 (lv_at hl 5 rfl) ?_
      refine lv_iadd hx hb d_M_orderAtoms_61 ?_
      obtain ⟨hi9, hf⟩ := ck_some hf
      refine ul_B hx hb hK hP (by decide) (by decide) hi9 d_M_orderAtoms_62 ?_
      refine lv_aload_n hx hb d_M_orderAtoms_63 rfl (lv_at hl 0 rfl) ?_
      refine ug_R hx hb ht hown hM hK hP 12 (by decide) lk_M_12 (by decide) d_M_orderAtoms_64 ?_
      refine lv_aload_n hx hb d_M_orderAtoms_67 rfl (lv_at hl 0 rfl) ?_
      refine ug_R hx hb ht hown hM hK hP 13 (by decide) lk_M_13 (by decide) d_M_orderAtoms_68 ?_
      refine lv_iload_n hx hb d_M_orderAtoms_71 rfl (lv_at hl 2 rfl) ?_
      obtain ⟨hi9, hf⟩ := ck_some hf
      refine ul_I hx hb hK hP (by decide) (by decide) hi9 d_M_orderAtoms_72 ?_
      refine lv_iload hx hb d_M_orderAtoms_73 (lv_at hl 5 rfl) ?_
      refine lv_iadd hx hb d_M_orderAtoms_75 ?_
      obtain ⟨hi9, hf⟩ := ck_some hf
      refine ul_B hx hb hK hP (by decide) (by decide) hi9 d_M_orderAtoms_76 ?_
      refine lv_isub hx hb d_M_orderAtoms_77 ?_
      obtain ⟨y2, e2, hf⟩ := lt_some hf
      rw [← e2]
      refine lv_istore (lv' := [(6, .int y2), (0, .ref h0), (1, .int v1), (2, .int v2), (3, .int v3), (4, .int v4), (5, .int v5)]) hx hb d_M_orderAtoms_78 hl (by decide) rfl (fun ls hl => ?_)
      refine lv_iload hx hb d_M_orderAtoms_80 (lv_at hl 0 rfl) ?_
      refine lv_if_eq (tgt := 96) hx hb d_M_orderAtoms_82 (by decide) (fun hc => ?_) (fun hc => ?_)
      · rw [br_p _ hc] at hf
        refine lv_iinc (v := (v5 + 1)) (lv' := [(5, .int (v5 + 1)), (6, .int y2), (0, .ref h0), (1, .int v1), (2, .int v2), (3, .int v3), (4, .int v4)]) hx hb d_M_orderAtoms_96 hl (k := 6) rfl rfl (by decide) rfl (fun ls hl => ?_)
        refine lv_goto (tgt := 36) hx hb d_M_orderAtoms_99 (by decide) ?_
        exact hG _ _ _ _ _ _ _ hf H locs hP hD hS ls (lv_sub hl [2, 3, 4, 5, 6, 0] rfl)
      · rw [br_n _ hc] at hf
        refine lv_iload hx hb d_M_orderAtoms_85 (lv_at hl 0 rfl) ?_
        refine lv_if_ge (tgt := 94) hx hb d_M_orderAtoms_87 (by decide) (fun hc => ?_) (fun hc => ?_)
        · rw [br_p _ hc] at hf
          refine lv_iconst (v := 1) hx hb d_M_orderAtoms_94 (by decide) ?_
          exact wb_M_orderAtoms_95 C0 hR N G hG _ _ _ hf H locs hP hD hS ls (lv_sub hl [] rfl)
        · rw [br_n _ hc] at hf
          refine lv_iconst (v := (-1)) hx hb d_M_orderAtoms_90 (by decide) ?_
          refine lv_goto (tgt := 95) hx hb d_M_orderAtoms_91 (by decide) ?_
          exact wb_M_orderAtoms_95 C0 hR N G hG _ _ _ hf H locs hP hD hS ls (lv_sub hl [] rfl)
def fb_M_orderAtoms_0 (N : Nat) (G : (MS → Int32 → Int32 → Int32 → Int32 → Int32 → Option (MS × Int32))) (u : MS) (v1 : Int32) (v2 : Int32) : Option (MS × Int32) := ck (inb (v1 + 1) (ln 13)) (ck (inb v1 (ln 13)) (lt ((u.2.2.1 13 (v1 + 1).toNatClampNeg) - (u.2.2.1 13 v1.toNatClampNeg)) (fun y3 => ck (inb (v2 + 1) (ln 13)) (ck (inb v2 (ln 13)) (lt ((u.2.2.1 13 (v2 + 1).toNatClampNeg) - (u.2.2.1 13 v2.toNatClampNeg)) (fun y4 => G u (v1) (v2) (y3) (y4) (0)))))))
set_option maxRecDepth 100000 in
set_option maxHeartbeats 4000000 in
theorem wb_M_orderAtoms_0 {p : Program} {l : Launch} {e : Env} {R : Room} {s : State} {m : MethodId} {args : Array Value} {below : List Frame} {meth : Method} {c : Code} {D : va_G} {cl : List vw_C} {cB cI cJ cZ cS : ClassId} {A : Nat → Prop} {iM h0 : Nat} {ad : Nat → Nat} (C0 : MCx p s m args meth c b_M_orderAtoms 7 (some .int) D cl cB cI cJ cZ cS iM A) (hR : R = rm_M_orderAtoms) (N : Nat) (G : (MS → Int32 → Int32 → Int32 → Int32 → Int32 → Option (MS × Int32))) (hG : (∀ (u : MS) (v1 : Int32) (v2 : Int32) (v3 : Int32) (v4 : Int32) (v5 : Int32) (x : MS × Int32), G u v1 v2 v3 v4 v5 = some x → ∀ (H : Heap) (locs : List Loc), va_P D cl (wM cB cI cJ cZ cS iM h0 ad u) H → va_D A (wM cB cI cJ cZ cS iM h0 ad u) → va_S A s.heap H locs → ∀ (ls : Array Slot), lv_has ls 7 [(0, .ref h0), (1, .int v1), (2, .int v2), (3, .int v3), (4, .int v4), (5, .int v5)] → W p l e R s m args below meth c H locs 0 0 (MQ below (mQi D cl cB cI cJ cZ cS iM h0 ad A x) args s 0 0 A) (F0 m 36 ls []))) : ∀ (u : MS) (v1 : Int32) (v2 : Int32) (x : MS × Int32), fb_M_orderAtoms_0 N G u v1 v2 = some x → ∀ (H : Heap) (locs : List Loc), va_P D cl (wM cB cI cJ cZ cS iM h0 ad u) H → va_D A (wM cB cI cJ cZ cS iM h0 ad u) → va_S A s.heap H locs → ∀ (ls : Array Slot), lv_has ls 7 [(0, .ref h0), (1, .int v1), (2, .int v2)] → W p l e R s m args below meth c H locs 0 0 (MQ below (mQi D cl cB cI cJ cZ cS iM h0 ad A x) args s 0 0 A) (F0 m 0 ls []) := by
  intro u v1 v2 x hf H locs hP hD hS ls hl
  obtain ⟨hx, hb, hr, hml, ht, hown, hM, hK, hA, hlocks⟩ := id C0
  unfold fb_M_orderAtoms_0 at hf
  refine lv_aload_n hx hb d_M_orderAtoms_0 rfl (lv_at hl 0 rfl) ?_
  refine ug_R hx hb ht hown hM hK hP 13 (by decide) lk_M_13 (by decide) d_M_orderAtoms_1 ?_
  refine lv_iload_n hx hb d_M_orderAtoms_4 rfl (lv_at hl 1 rfl) ?_
  refine lv_iconst (v := 1) hx hb d_M_orderAtoms_5 (by decide) ?_
  refine lv_iadd hx hb d_M_orderAtoms_6 ?_
  obtain ⟨hi9, hf⟩ := ck_some hf
  refine ul_I hx hb hK hP (by decide) (by decide) hi9 d_M_orderAtoms_7 ?_
  refine lv_aload_n hx hb d_M_orderAtoms_8 rfl (lv_at hl 0 rfl) ?_
  refine ug_R hx hb ht hown hM hK hP 13 (by decide) lk_M_13 (by decide) d_M_orderAtoms_9 ?_
  refine lv_iload_n hx hb d_M_orderAtoms_12 rfl (lv_at hl 1 rfl) ?_
  obtain ⟨hi9, hf⟩ := ck_some hf
  refine ul_I hx hb hK hP (by decide) (by decide) hi9 d_M_orderAtoms_13 ?_
  refine lv_isub hx hb d_M_orderAtoms_14 ?_
  obtain ⟨y3, e3, hf⟩ := lt_some hf
  rw [← e3]
  refine lv_istore_n (lv' := [(3, .int y3), (0, .ref h0), (1, .int v1), (2, .int v2)]) hx hb d_M_orderAtoms_15 rfl hl (by decide) rfl (fun ls hl => ?_)
  refine lv_aload_n hx hb d_M_orderAtoms_16 rfl (lv_at hl 1 rfl) ?_
  refine ug_R hx hb ht hown hM hK hP 13 (by decide) lk_M_13 (by decide) d_M_orderAtoms_17 ?_
  refine lv_iload_n hx hb d_M_orderAtoms_20 rfl (lv_at hl 3 rfl) ?_
  refine lv_iconst (v := 1) hx hb d_M_orderAtoms_21 (by decide) ?_
  refine lv_iadd hx hb d_M_orderAtoms_22 ?_
  obtain ⟨hi9, hf⟩ := ck_some hf
  refine ul_I hx hb hK hP (by decide) (by decide) hi9 d_M_orderAtoms_23 ?_
  refine lv_aload_n hx hb d_M_orderAtoms_24 rfl (lv_at hl 1 rfl) ?_
  refine ug_R hx hb ht hown hM hK hP 13 (by decide) lk_M_13 (by decide) d_M_orderAtoms_25 ?_
  refine lv_iload_n hx hb d_M_orderAtoms_28 rfl (lv_at hl 3 rfl) ?_
  obtain ⟨hi9, hf⟩ := ck_some hf
  refine ul_I hx hb hK hP (by decide) (by decide) hi9 d_M_orderAtoms_29 ?_
  refine lv_isub hx hb d_M_orderAtoms_30 ?_
  obtain ⟨y4, e4, hf⟩ := lt_some hf
  rw [← e4]
  refine lv_istore (lv' := [(4, .int y4), (3, .int y3), (0, .ref h0), (1, .int v1), (2, .int v2)]) hx hb d_M_orderAtoms_31 hl (by decide) rfl (fun ls hl => ?_)
  refine lv_iconst (v := 0) hx hb d_M_orderAtoms_33 (by decide) ?_
  refine lv_istore (lv' := [(5, .int 0), (4, .int y4), (3, .int y3), (0, .ref h0), (1, .int v1), (2, .int v2)]) hx hb d_M_orderAtoms_34 hl (by decide) rfl (fun ls hl => ?_)
  exact hG _ _ _ _ _ _ _ hf H locs hP hD hS ls (lv_sub hl [3, 4, 5, 2, 1, 0] rfl)
def gg_M_orderAtoms (N : Nat) : Nat → ((MS → Int32 → Int32 → Int32 → Int32 → Int32 → Option (MS × Int32)))
  | 0 => fun _ _ _ _ _ _ => none
  | n + 1 => fb_M_orderAtoms_36 N (gg_M_orderAtoms N n)
theorem wg_M_orderAtoms {p : Program} {l : Launch} {e : Env} {R : Room} {s : State} {m : MethodId} {args : Array Value} {below : List Frame} {meth : Method} {c : Code} {D : va_G} {cl : List vw_C} {cB cI cJ cZ cS : ClassId} {A : Nat → Prop} {iM h0 : Nat} {ad : Nat → Nat} (C0 : MCx p s m args meth c b_M_orderAtoms 7 (some .int) D cl cB cI cJ cZ cS iM A) (hR : R = rm_M_orderAtoms) (N : Nat) : ∀ n : Nat, (∀ (u : MS) (v1 : Int32) (v2 : Int32) (v3 : Int32) (v4 : Int32) (v5 : Int32) (x : MS × Int32), gg_M_orderAtoms N n u v1 v2 v3 v4 v5 = some x → ∀ (H : Heap) (locs : List Loc), va_P D cl (wM cB cI cJ cZ cS iM h0 ad u) H → va_D A (wM cB cI cJ cZ cS iM h0 ad u) → va_S A s.heap H locs → ∀ (ls : Array Slot), lv_has ls 7 [(0, .ref h0), (1, .int v1), (2, .int v2), (3, .int v3), (4, .int v4), (5, .int v5)] → W p l e R s m args below meth c H locs 0 0 (MQ below (mQi D cl cB cI cJ cZ cS iM h0 ad A x) args s 0 0 A) (F0 m 36 ls []))
  | 0 => (fun u v1 v2 v3 v4 v5 x hf => by cases hf)
  | n + 1 => wb_M_orderAtoms_36 C0 hR N (gg_M_orderAtoms N n) (wg_M_orderAtoms C0 hR N n)
def fm_M_orderAtoms (N : Nat) (u : MS) (v1 : Int32) (v2 : Int32) : Option (MS × Int32) := fb_M_orderAtoms_0 N (gg_M_orderAtoms N N) u v1 v2
set_option maxRecDepth 100000 in
set_option maxHeartbeats 4000000 in
theorem c_M_orderAtoms (N : Nat) {l : Launch} {D : va_G} {cl : List vw_C} {cB cI cJ cZ cS : ClassId} {iM h0 : Nat} {ad : Nat → Nat} {u : MS} {sz : Nat} {v1 : Int32} {v2 : Int32} {x : MS × Int32} (hM : cl[iM]? = some (R_M, F_M, 171)) (hf : fm_M_orderAtoms N u v1 v2 = some x) : Met l y_M_orderAtoms (wd_ws y_M_orderAtoms b_M_orderAtoms 7 (some .int)) rm_M_orderAtoms (mPc D cl cB cI cJ cZ cS iM h0 ad u sz [.ref h0, .int v1, .int v2]) (mQi D cl cB cI cJ cZ cS iM h0 ad (mA cB cI cJ cZ cS iM h0 ad u sz) x) 0 0 (mA cB cI cJ cZ cS iM h0 ad u sz) :=
  mMet (by decide) rfl hM (Nat.le_of_ble_eq_true rfl) (fun p e s m below meth c ls hsz C0 hP hD hS hl => by
    have hR : rm_M_orderAtoms = rm_M_orderAtoms := rfl
    exact wb_M_orderAtoms_0 C0 hR N (gg_M_orderAtoms N N) (wg_M_orderAtoms C0 hR N N) u _ _ x hf s.heap [] hP hD hS ls (lv_sub hl [0, 1, 2] rfl))
abbrev b_M_orderOne : ByteArray := prog_14_method_95_code
def y_M_orderOne : MethodName := ⟨R_M, "orderOne", "(JJ)I"⟩
def w_M_orderOne : List Cond := wd_ws y_M_orderOne b_M_orderOne 12 (some .int)
set_option maxRecDepth 100000 in
theorem k_M_orderOne : Cond.code y_M_orderOne b_M_orderOne 12 (some .int) ∈ wd_tbl := wd_of 3038 rfl rfl
theorem d_M_orderOne_0 : decode b_M_orderOne 0 = .ok (.lload_n 1, 1) := by decide +kernel
theorem d_M_orderOne_1 : decode b_M_orderOne 1 = .ok (.invokestatic 676, 3) := by decide +kernel
theorem d_M_orderOne_4 : decode b_M_orderOne 4 = .ok (.istore 5, 2) := by decide +kernel
theorem d_M_orderOne_6 : decode b_M_orderOne 6 = .ok (.iload 5, 2) := by decide +kernel
theorem d_M_orderOne_8 : decode b_M_orderOne 8 = .ok (.lload_n 3, 1) := by decide +kernel
theorem d_M_orderOne_9 : decode b_M_orderOne 9 = .ok (.invokestatic 676, 3) := by decide +kernel
theorem d_M_orderOne_12 : decode b_M_orderOne 12 = .ok (.if_icmp .eq 15, 3) := by decide +kernel
theorem d_M_orderOne_15 : decode b_M_orderOne 15 = .ok (.iload 5, 2) := by decide +kernel
theorem d_M_orderOne_17 : decode b_M_orderOne 17 = .ok (.i2l, 1) := by decide +kernel
theorem d_M_orderOne_18 : decode b_M_orderOne 18 = .ok (.lload_n 3, 1) := by decide +kernel
theorem d_M_orderOne_19 : decode b_M_orderOne 19 = .ok (.invokestatic 676, 3) := by decide +kernel
theorem d_M_orderOne_22 : decode b_M_orderOne 22 = .ok (.i2l, 1) := by decide +kernel
theorem d_M_orderOne_23 : decode b_M_orderOne 23 = .ok (.invokestatic 716, 3) := by decide +kernel
theorem d_M_orderOne_26 : decode b_M_orderOne 26 = .ok (.ireturn, 1) := by decide +kernel
theorem d_M_orderOne_27 : decode b_M_orderOne 27 = .ok (.lload_n 1, 1) := by decide +kernel
theorem d_M_orderOne_28 : decode b_M_orderOne 28 = .ok (.invokestatic 680, 3) := by decide +kernel
theorem d_M_orderOne_31 : decode b_M_orderOne 31 = .ok (.istore 6, 2) := by decide +kernel
theorem d_M_orderOne_33 : decode b_M_orderOne 33 = .ok (.lload_n 3, 1) := by decide +kernel
theorem d_M_orderOne_34 : decode b_M_orderOne 34 = .ok (.invokestatic 680, 3) := by decide +kernel
theorem d_M_orderOne_37 : decode b_M_orderOne 37 = .ok (.istore 7, 2) := by decide +kernel
theorem d_M_orderOne_39 : decode b_M_orderOne 39 = .ok (.iload 5, 2) := by decide +kernel
theorem d_M_orderOne_41 : decode b_M_orderOne 41 = .ok (.iconst 1, 1) := by decide +kernel
theorem d_M_orderOne_42 : decode b_M_orderOne 42 = .ok (.if_icmp .ne 12, 3) := by decide +kernel
theorem d_M_orderOne_45 : decode b_M_orderOne 45 = .ok (.aload_n 0, 1) := by decide +kernel
theorem d_M_orderOne_46 : decode b_M_orderOne 46 = .ok (.iload 6, 2) := by decide +kernel
theorem d_M_orderOne_48 : decode b_M_orderOne 48 = .ok (.iload 7, 2) := by decide +kernel
theorem d_M_orderOne_50 : decode b_M_orderOne 50 = .ok (.invokevirtual 719, 3) := by decide +kernel
theorem d_M_orderOne_53 : decode b_M_orderOne 53 = .ok (.ireturn, 1) := by decide +kernel
theorem d_M_orderOne_54 : decode b_M_orderOne 54 = .ok (.iload 5, 2) := by decide +kernel
theorem d_M_orderOne_56 : decode b_M_orderOne 56 = .ok (.iconst 5, 1) := by decide +kernel
theorem d_M_orderOne_57 : decode b_M_orderOne 57 = .ok (.if_icmp .ne 27, 3) := by decide +kernel
theorem d_M_orderOne_60 : decode b_M_orderOne 60 = .ok (.aload_n 0, 1) := by decide +kernel
theorem d_M_orderOne_61 : decode b_M_orderOne 61 = .ok (.aload_n 0, 1) := by decide +kernel
theorem d_M_orderOne_62 : decode b_M_orderOne 62 = .ok (.getfield 669, 3) := by decide +kernel
theorem d_M_orderOne_65 : decode b_M_orderOne 65 = .ok (.iload 6, 2) := by decide +kernel
theorem d_M_orderOne_67 : decode b_M_orderOne 67 = .ok (.invokevirtual 683, 3) := by decide +kernel
theorem d_M_orderOne_70 : decode b_M_orderOne 70 = .ok (.aload_n 0, 1) := by decide +kernel
theorem d_M_orderOne_71 : decode b_M_orderOne 71 = .ok (.aload_n 0, 1) := by decide +kernel
theorem d_M_orderOne_72 : decode b_M_orderOne 72 = .ok (.getfield 669, 3) := by decide +kernel
theorem d_M_orderOne_75 : decode b_M_orderOne 75 = .ok (.iload 7, 2) := by decide +kernel
theorem d_M_orderOne_77 : decode b_M_orderOne 77 = .ok (.invokevirtual 683, 3) := by decide +kernel
theorem d_M_orderOne_80 : decode b_M_orderOne 80 = .ok (.invokestatic 716, 3) := by decide +kernel
theorem d_M_orderOne_83 : decode b_M_orderOne 83 = .ok (.ireturn, 1) := by decide +kernel
theorem d_M_orderOne_84 : decode b_M_orderOne 84 = .ok (.iload 5, 2) := by decide +kernel
theorem d_M_orderOne_86 : decode b_M_orderOne 86 = .ok (.iconst 3, 1) := by decide +kernel
theorem d_M_orderOne_87 : decode b_M_orderOne 87 = .ok (.if_icmp .ne 91, 3) := by decide +kernel
theorem d_M_orderOne_90 : decode b_M_orderOne 90 = .ok (.aload_n 0, 1) := by decide +kernel
theorem d_M_orderOne_91 : decode b_M_orderOne 91 = .ok (.aload_n 0, 1) := by decide +kernel
theorem d_M_orderOne_92 : decode b_M_orderOne 92 = .ok (.getfield 669, 3) := by decide +kernel
theorem d_M_orderOne_95 : decode b_M_orderOne 95 = .ok (.iload 6, 2) := by decide +kernel
theorem d_M_orderOne_97 : decode b_M_orderOne 97 = .ok (.invokevirtual 683, 3) := by decide +kernel
theorem d_M_orderOne_100 : decode b_M_orderOne 100 = .ok (.lstore 8, 2) := by decide +kernel
theorem d_M_orderOne_102 : decode b_M_orderOne 102 = .ok (.aload_n 0, 1) := by decide +kernel
theorem d_M_orderOne_103 : decode b_M_orderOne 103 = .ok (.aload_n 0, 1) := by decide +kernel
theorem d_M_orderOne_104 : decode b_M_orderOne 104 = .ok (.getfield 669, 3) := by decide +kernel
theorem d_M_orderOne_107 : decode b_M_orderOne 107 = .ok (.iload 7, 2) := by decide +kernel
theorem d_M_orderOne_109 : decode b_M_orderOne 109 = .ok (.invokevirtual 683, 3) := by decide +kernel
theorem d_M_orderOne_112 : decode b_M_orderOne 112 = .ok (.lstore 10, 2) := by decide +kernel
theorem d_M_orderOne_114 : decode b_M_orderOne 114 = .ok (.lload 8, 2) := by decide +kernel
theorem d_M_orderOne_116 : decode b_M_orderOne 116 = .ok (.lconst 0, 1) := by decide +kernel
theorem d_M_orderOne_117 : decode b_M_orderOne 117 = .ok (.lcmp, 1) := by decide +kernel
theorem d_M_orderOne_118 : decode b_M_orderOne 118 = .ok (.ifCond .lt 10, 3) := by decide +kernel
theorem d_M_orderOne_121 : decode b_M_orderOne 121 = .ok (.lload 10, 2) := by decide +kernel
theorem d_M_orderOne_123 : decode b_M_orderOne 123 = .ok (.lconst 0, 1) := by decide +kernel
theorem d_M_orderOne_124 : decode b_M_orderOne 124 = .ok (.lcmp, 1) := by decide +kernel
theorem d_M_orderOne_125 : decode b_M_orderOne 125 = .ok (.ifCond .ge 45, 3) := by decide +kernel
theorem d_M_orderOne_128 : decode b_M_orderOne 128 = .ok (.lload 8, 2) := by decide +kernel
theorem d_M_orderOne_130 : decode b_M_orderOne 130 = .ok (.lconst 0, 1) := by decide +kernel
theorem d_M_orderOne_131 : decode b_M_orderOne 131 = .ok (.lcmp, 1) := by decide +kernel
theorem d_M_orderOne_132 : decode b_M_orderOne 132 = .ok (.ifCond .ge 12, 3) := by decide +kernel
theorem d_M_orderOne_135 : decode b_M_orderOne 135 = .ok (.ldc2_w 722, 3) := by decide +kernel
theorem d_M_orderOne_138 : decode b_M_orderOne 138 = .ok (.lload 8, 2) := by decide +kernel
theorem d_M_orderOne_140 : decode b_M_orderOne 140 = .ok (.lsub, 1) := by decide +kernel
theorem d_M_orderOne_141 : decode b_M_orderOne 141 = .ok (.goto 5, 3) := by decide +kernel
theorem d_M_orderOne_144 : decode b_M_orderOne 144 = .ok (.lload 8, 2) := by decide +kernel
theorem d_M_orderOne_146 : decode b_M_orderOne 146 = .ok (.lload 10, 2) := by decide +kernel
theorem d_M_orderOne_148 : decode b_M_orderOne 148 = .ok (.lconst 0, 1) := by decide +kernel
theorem d_M_orderOne_149 : decode b_M_orderOne 149 = .ok (.lcmp, 1) := by decide +kernel
theorem d_M_orderOne_150 : decode b_M_orderOne 150 = .ok (.ifCond .ge 12, 3) := by decide +kernel
theorem d_M_orderOne_153 : decode b_M_orderOne 153 = .ok (.ldc2_w 722, 3) := by decide +kernel
theorem d_M_orderOne_156 : decode b_M_orderOne 156 = .ok (.lload 10, 2) := by decide +kernel
theorem d_M_orderOne_158 : decode b_M_orderOne 158 = .ok (.lsub, 1) := by decide +kernel
theorem d_M_orderOne_159 : decode b_M_orderOne 159 = .ok (.goto 5, 3) := by decide +kernel
theorem d_M_orderOne_162 : decode b_M_orderOne 162 = .ok (.lload 10, 2) := by decide +kernel
theorem d_M_orderOne_164 : decode b_M_orderOne 164 = .ok (.invokestatic 716, 3) := by decide +kernel
theorem d_M_orderOne_167 : decode b_M_orderOne 167 = .ok (.goto 10, 3) := by decide +kernel
theorem d_M_orderOne_170 : decode b_M_orderOne 170 = .ok (.lload 8, 2) := by decide +kernel
theorem d_M_orderOne_172 : decode b_M_orderOne 172 = .ok (.lload 10, 2) := by decide +kernel
theorem d_M_orderOne_174 : decode b_M_orderOne 174 = .ok (.invokestatic 716, 3) := by decide +kernel
theorem d_M_orderOne_177 : decode b_M_orderOne 177 = .ok (.ireturn, 1) := by decide +kernel
theorem d_M_orderOne_178 : decode b_M_orderOne 178 = .ok (.iload 5, 2) := by decide +kernel
theorem d_M_orderOne_180 : decode b_M_orderOne 180 = .ok (.bipush 7, 2) := by decide +kernel
theorem d_M_orderOne_182 : decode b_M_orderOne 182 = .ok (.if_icmp .eq 10, 3) := by decide +kernel
theorem d_M_orderOne_185 : decode b_M_orderOne 185 = .ok (.iload 5, 2) := by decide +kernel
theorem d_M_orderOne_187 : decode b_M_orderOne 187 = .ok (.bipush 6, 2) := by decide +kernel
theorem d_M_orderOne_189 : decode b_M_orderOne 189 = .ok (.if_icmp .ne 7, 3) := by decide +kernel
theorem d_M_orderOne_192 : decode b_M_orderOne 192 = .ok (.iconst 0, 1) := by decide +kernel
theorem d_M_orderOne_193 : decode b_M_orderOne 193 = .ok (.goto 12, 3) := by decide +kernel
theorem d_M_orderOne_196 : decode b_M_orderOne 196 = .ok (.iload 6, 2) := by decide +kernel
theorem d_M_orderOne_198 : decode b_M_orderOne 198 = .ok (.i2l, 1) := by decide +kernel
theorem d_M_orderOne_199 : decode b_M_orderOne 199 = .ok (.iload 7, 2) := by decide +kernel
theorem d_M_orderOne_201 : decode b_M_orderOne 201 = .ok (.i2l, 1) := by decide +kernel
theorem d_M_orderOne_202 : decode b_M_orderOne 202 = .ok (.invokestatic 716, 3) := by decide +kernel
theorem d_M_orderOne_205 : decode b_M_orderOne 205 = .ok (.ireturn, 1) := by decide +kernel
set_option maxRecDepth 100000 in
theorem hl_M_orderOne : Cond.methodLink R_M 712 y_M_orderOne ∈ wd_tbl := wd_of 3035 (by decide +kernel) rfl
set_option maxRecDepth 100000 in
theorem hi_M_orderOne : Cond.instanceMethod y_M_orderOne ∈ wd_tbl := wd_of 3037 (by decide +kernel) rfl
set_option maxRecDepth 100000 in
theorem hs_M_orderOne : Cond.selects R_M y_M_orderOne y_M_orderOne ∈ wd_tbl := wd_of 216 (by decide +kernel) rfl
theorem hd_M_orderOne : y_M_orderOne.cls = R_M ∧ y_M_orderOne.cls ≠ "java/lang/invoke/MethodHandle" ∧ y_M_orderOne.cls ≠ "java/lang/invoke/VarHandle" ∧ (parseMethodDescriptor y_M_orderOne.desc).map (fun d => d.parameters.length) = some 2 := by decide +kernel
def rm_M_orderOne : Room := { frames := 2, cells := 0, slots := 0, locals := 49 }
theorem rm_M_orderOne_M_sortOf {R : Room} (hR : R = rm_M_orderOne) : (rm_M_sortOf).frames + 1 ≤ R.frames ∧ 8 + (2 + 11) + (rm_M_sortOf).locals ≤ R.locals := by subst hR; decide
theorem rm_M_orderOne_M_compare {R : Room} (hR : R = rm_M_orderOne) : (rm_M_compare).frames + 1 ≤ R.frames ∧ 8 + (4 + 11) + (rm_M_compare).locals ≤ R.locals := by subst hR; decide
theorem rm_M_orderOne_M_valueOf {R : Room} (hR : R = rm_M_orderOne) : (rm_M_valueOf).frames + 1 ≤ R.frames ∧ 8 + (2 + 11) + (rm_M_valueOf).locals ≤ R.locals := by subst hR; decide
theorem rm_M_orderOne_M_orderAtoms {R : Room} (hR : R = rm_M_orderOne) : (rm_M_orderAtoms).frames + 1 ≤ R.frames ∧ 8 + (7 + 11) + (rm_M_orderAtoms).locals ≤ R.locals := by subst hR; decide
theorem rm_M_orderOne_M_cell {R : Room} (hR : R = rm_M_orderOne) : (rm_M_cell).frames + 1 ≤ R.frames ∧ 8 + (3 + 11) + (rm_M_cell).locals ≤ R.locals := by subst hR; decide
def fb_M_orderOne_205 (N : Nat) (G : Unit) (u : MS) (t0 : Int32) : Option (MS × Int32) := some (u, t0)
set_option maxRecDepth 100000 in
set_option maxHeartbeats 4000000 in
theorem wb_M_orderOne_205 {p : Program} {l : Launch} {e : Env} {R : Room} {s : State} {m : MethodId} {args : Array Value} {below : List Frame} {meth : Method} {c : Code} {D : va_G} {cl : List vw_C} {cB cI cJ cZ cS : ClassId} {A : Nat → Prop} {iM h0 : Nat} {ad : Nat → Nat} (C0 : MCx p s m args meth c b_M_orderOne 12 (some .int) D cl cB cI cJ cZ cS iM A) (hR : R = rm_M_orderOne) (N : Nat) (G : Unit) (hG : True) : ∀ (u : MS) (t0 : Int32) (x : MS × Int32), fb_M_orderOne_205 N G u t0 = some x → ∀ (H : Heap) (locs : List Loc), va_P D cl (wM cB cI cJ cZ cS iM h0 ad u) H → va_D A (wM cB cI cJ cZ cS iM h0 ad u) → va_S A s.heap H locs → ∀ (ls : Array Slot), lv_has ls 12 [] → W p l e R s m args below meth c H locs 0 0 (MQ below (mQi D cl cB cI cJ cZ cS iM h0 ad A x) args s 0 0 A) (F0 m 205 ls [.int t0]) := by
  intro u t0 x hf H locs hP hD hS ls hl
  obtain ⟨hx, hb, hr, hml, ht, hown, hM, hK, hA, hlocks⟩ := id C0
  unfold fb_M_orderOne_205 at hf
  exact mr_i C0 hP hD hS hf d_M_orderOne_205
def fb_M_orderOne_192 (N : Nat) (G : Unit) (u : MS) : Option (MS × Int32) := fb_M_orderOne_205 N G u (0)
set_option maxRecDepth 100000 in
set_option maxHeartbeats 4000000 in
theorem wb_M_orderOne_192 {p : Program} {l : Launch} {e : Env} {R : Room} {s : State} {m : MethodId} {args : Array Value} {below : List Frame} {meth : Method} {c : Code} {D : va_G} {cl : List vw_C} {cB cI cJ cZ cS : ClassId} {A : Nat → Prop} {iM h0 : Nat} {ad : Nat → Nat} (C0 : MCx p s m args meth c b_M_orderOne 12 (some .int) D cl cB cI cJ cZ cS iM A) (hR : R = rm_M_orderOne) (N : Nat) (G : Unit) (hG : True) : ∀ (u : MS) (x : MS × Int32), fb_M_orderOne_192 N G u = some x → ∀ (H : Heap) (locs : List Loc), va_P D cl (wM cB cI cJ cZ cS iM h0 ad u) H → va_D A (wM cB cI cJ cZ cS iM h0 ad u) → va_S A s.heap H locs → ∀ (ls : Array Slot), lv_has ls 12 [] → W p l e R s m args below meth c H locs 0 0 (MQ below (mQi D cl cB cI cJ cZ cS iM h0 ad A x) args s 0 0 A) (F0 m 192 ls []) := by
  intro u x hf H locs hP hD hS ls hl
  obtain ⟨hx, hb, hr, hml, ht, hown, hM, hK, hA, hlocks⟩ := id C0
  unfold fb_M_orderOne_192 at hf
  refine lv_iconst (v := 0) hx hb d_M_orderOne_192 (by decide) ?_
  refine lv_goto (tgt := 205) hx hb d_M_orderOne_193 (by decide) ?_
  exact wb_M_orderOne_205 C0 hR N G hG _ _ _ hf H locs hP hD hS ls (lv_sub hl [] rfl)
def fb_M_orderOne_177 (N : Nat) (G : Unit) (u : MS) (t0 : Int32) : Option (MS × Int32) := some (u, t0)
set_option maxRecDepth 100000 in
set_option maxHeartbeats 4000000 in
theorem wb_M_orderOne_177 {p : Program} {l : Launch} {e : Env} {R : Room} {s : State} {m : MethodId} {args : Array Value} {below : List Frame} {meth : Method} {c : Code} {D : va_G} {cl : List vw_C} {cB cI cJ cZ cS : ClassId} {A : Nat → Prop} {iM h0 : Nat} {ad : Nat → Nat} (C0 : MCx p s m args meth c b_M_orderOne 12 (some .int) D cl cB cI cJ cZ cS iM A) (hR : R = rm_M_orderOne) (N : Nat) (G : Unit) (hG : True) : ∀ (u : MS) (t0 : Int32) (x : MS × Int32), fb_M_orderOne_177 N G u t0 = some x → ∀ (H : Heap) (locs : List Loc), va_P D cl (wM cB cI cJ cZ cS iM h0 ad u) H → va_D A (wM cB cI cJ cZ cS iM h0 ad u) → va_S A s.heap H locs → ∀ (ls : Array Slot), lv_has ls 12 [] → W p l e R s m args below meth c H locs 0 0 (MQ below (mQi D cl cB cI cJ cZ cS iM h0 ad A x) args s 0 0 A) (F0 m 177 ls [.int t0]) := by
  intro u t0 x hf H locs hP hD hS ls hl
  obtain ⟨hx, hb, hr, hml, ht, hown, hM, hK, hA, hlocks⟩ := id C0
  unfold fb_M_orderOne_177 at hf
  exact mr_i C0 hP hD hS hf d_M_orderOne_177
def fb_M_orderOne_164 (N : Nat) (G : Unit) (u : MS) (t0 : Int64) (t1 : Int64) : Option (MS × Int32) := bnd (fm_M_compare N u t0 t1) (fun u1 r1 => fb_M_orderOne_177 N G u1 (r1))
set_option maxRecDepth 100000 in
set_option maxHeartbeats 4000000 in
theorem wb_M_orderOne_164 {p : Program} {l : Launch} {e : Env} {R : Room} {s : State} {m : MethodId} {args : Array Value} {below : List Frame} {meth : Method} {c : Code} {D : va_G} {cl : List vw_C} {cB cI cJ cZ cS : ClassId} {A : Nat → Prop} {iM h0 : Nat} {ad : Nat → Nat} (C0 : MCx p s m args meth c b_M_orderOne 12 (some .int) D cl cB cI cJ cZ cS iM A) (hR : R = rm_M_orderOne) (N : Nat) (G : Unit) (hG : True) : ∀ (u : MS) (t0 : Int64) (t1 : Int64) (x : MS × Int32), fb_M_orderOne_164 N G u t0 t1 = some x → ∀ (H : Heap) (locs : List Loc), va_P D cl (wM cB cI cJ cZ cS iM h0 ad u) H → va_D A (wM cB cI cJ cZ cS iM h0 ad u) → va_S A s.heap H locs → ∀ (ls : Array Slot), lv_has ls 12 [] → W p l e R s m args below meth c H locs 0 0 (MQ below (mQi D cl cB cI cJ cZ cS iM h0 ad A x) args s 0 0 A) (F0 m 164 ls [.long t1, .long t0]) := by
  intro u t0 t1 x hf H locs hP hD hS ls hl
  obtain ⟨hx, hb, hr, hml, ht, hown, hM, hK, hA, hlocks⟩ := id C0
  unfold fb_M_orderOne_164 at hf
  obtain ⟨u1, r1, hc1, hf⟩ := bnd_some hf
  refine mS_i (As := [.long t0, .long t1]) (rest := []) C0 hP hD hS (c_M_compare N hM hc1) k_M_compare hl_M_compare ht_M_compare hini_M rfl rfl hd_M_compare rfl (rm_M_orderOne_M_compare hR) hl.1 (Nat.le_of_ble_eq_true rfl) d_M_orderOne_164 rfl ⟨Nat.zero_le _, Nat.zero_le _⟩ (fun H locs hP hD hS => ?_)
  refine lv_goto (tgt := 177) hx hb d_M_orderOne_167 (by decide) ?_
  exact wb_M_orderOne_177 C0 hR N G hG _ _ _ hf H locs hP hD hS ls (lv_sub hl [] rfl)
def fb_M_orderOne_146 (N : Nat) (G : Unit) (u : MS) (v10 : Int64) (t0 : Int64) : Option (MS × Int32) := br (decide (0 ≤ (lg_cmp v10 0))) (fb_M_orderOne_164 N G u (t0) (v10)) (fb_M_orderOne_164 N G u (t0) ((100000 - v10)))
set_option maxRecDepth 100000 in
set_option maxHeartbeats 4000000 in
theorem wb_M_orderOne_146 {p : Program} {l : Launch} {e : Env} {R : Room} {s : State} {m : MethodId} {args : Array Value} {below : List Frame} {meth : Method} {c : Code} {D : va_G} {cl : List vw_C} {cB cI cJ cZ cS : ClassId} {A : Nat → Prop} {iM h0 : Nat} {ad : Nat → Nat} (C0 : MCx p s m args meth c b_M_orderOne 12 (some .int) D cl cB cI cJ cZ cS iM A) (hR : R = rm_M_orderOne) (N : Nat) (G : Unit) (hG : True) : ∀ (u : MS) (v10 : Int64) (t0 : Int64) (x : MS × Int32), fb_M_orderOne_146 N G u v10 t0 = some x → ∀ (H : Heap) (locs : List Loc), va_P D cl (wM cB cI cJ cZ cS iM h0 ad u) H → va_D A (wM cB cI cJ cZ cS iM h0 ad u) → va_S A s.heap H locs → ∀ (ls : Array Slot), lv_has ls 12 [(10, .long v10)] → W p l e R s m args below meth c H locs 0 0 (MQ below (mQi D cl cB cI cJ cZ cS iM h0 ad A x) args s 0 0 A) (F0 m 146 ls [.long t0]) := by
  intro u v10 t0 x hf H locs hP hD hS ls hl
  obtain ⟨hx, hb, hr, hml, ht, hown, hM, hK, hA, hlocks⟩ := id C0
  unfold fb_M_orderOne_146 at hf
  refine lv_lload hx hb d_M_orderOne_146 (lv_at hl 0 rfl) ?_
  refine lv_lconst (v := 0) hx hb d_M_orderOne_148 (by decide) ?_
  refine W.lcmp hx hb d_M_orderOne_149 ?_
  refine lv_if_ge (tgt := 162) hx hb d_M_orderOne_150 (by decide) (fun hc => ?_) (fun hc => ?_)
  · rw [br_p _ hc] at hf
    refine lv_lload hx hb d_M_orderOne_162 (lv_at hl 0 rfl) ?_
    exact wb_M_orderOne_164 C0 hR N G hG _ _ _ _ hf H locs hP hD hS ls (lv_sub hl [] rfl)
  · rw [br_n _ hc] at hf
    refine lv_ldc2 (v := 100000) hx hb hown (ht _ (wd_of 3046 (by decide +kernel) rfl)) d_M_orderOne_153 ?_
    refine lv_lload hx hb d_M_orderOne_156 (lv_at hl 0 rfl) ?_
    refine lv_lsub hx hb d_M_orderOne_158 ?_
    refine lv_goto (tgt := 164) hx hb d_M_orderOne_159 (by decide) ?_
    exact wb_M_orderOne_164 C0 hR N G hG _ _ _ _ hf H locs hP hD hS ls (lv_sub hl [] rfl)
def fb_M_orderOne_128 (N : Nat) (G : Unit) (u : MS) (v8 : Int64) (v10 : Int64) : Option (MS × Int32) := br (decide (0 ≤ (lg_cmp v8 0))) (fb_M_orderOne_146 N G u (v10) (v8)) (fb_M_orderOne_146 N G u (v10) ((100000 - v8)))
set_option maxRecDepth 100000 in
set_option maxHeartbeats 4000000 in
theorem wb_M_orderOne_128 {p : Program} {l : Launch} {e : Env} {R : Room} {s : State} {m : MethodId} {args : Array Value} {below : List Frame} {meth : Method} {c : Code} {D : va_G} {cl : List vw_C} {cB cI cJ cZ cS : ClassId} {A : Nat → Prop} {iM h0 : Nat} {ad : Nat → Nat} (C0 : MCx p s m args meth c b_M_orderOne 12 (some .int) D cl cB cI cJ cZ cS iM A) (hR : R = rm_M_orderOne) (N : Nat) (G : Unit) (hG : True) : ∀ (u : MS) (v8 : Int64) (v10 : Int64) (x : MS × Int32), fb_M_orderOne_128 N G u v8 v10 = some x → ∀ (H : Heap) (locs : List Loc), va_P D cl (wM cB cI cJ cZ cS iM h0 ad u) H → va_D A (wM cB cI cJ cZ cS iM h0 ad u) → va_S A s.heap H locs → ∀ (ls : Array Slot), lv_has ls 12 [(8, .long v8), (10, .long v10)] → W p l e R s m args below meth c H locs 0 0 (MQ below (mQi D cl cB cI cJ cZ cS iM h0 ad A x) args s 0 0 A) (F0 m 128 ls []) := by
  intro u v8 v10 x hf H locs hP hD hS ls hl
  obtain ⟨hx, hb, hr, hml, ht, hown, hM, hK, hA, hlocks⟩ := id C0
  unfold fb_M_orderOne_128 at hf
  refine lv_lload hx hb d_M_orderOne_128 (lv_at hl 0 rfl) ?_
  refine lv_lconst (v := 0) hx hb d_M_orderOne_130 (by decide) ?_
  refine W.lcmp hx hb d_M_orderOne_131 ?_
  refine lv_if_ge (tgt := 144) hx hb d_M_orderOne_132 (by decide) (fun hc => ?_) (fun hc => ?_)
  · rw [br_p _ hc] at hf
    refine lv_lload hx hb d_M_orderOne_144 (lv_at hl 0 rfl) ?_
    exact wb_M_orderOne_146 C0 hR N G hG _ _ _ _ hf H locs hP hD hS ls (lv_sub hl [1] rfl)
  · rw [br_n _ hc] at hf
    refine lv_ldc2 (v := 100000) hx hb hown (ht _ (wd_of 3046 (by decide +kernel) rfl)) d_M_orderOne_135 ?_
    refine lv_lload hx hb d_M_orderOne_138 (lv_at hl 0 rfl) ?_
    refine lv_lsub hx hb d_M_orderOne_140 ?_
    refine lv_goto (tgt := 146) hx hb d_M_orderOne_141 (by decide) ?_
    exact wb_M_orderOne_146 C0 hR N G hG _ _ _ _ hf H locs hP hD hS ls (lv_sub hl [1] rfl)
def fb_M_orderOne_0 (N : Nat) (G : Unit) (u : MS) (v1 : Int64) (v3 : Int64) : Option (MS × Int32) := bnd (fm_M_sortOf N u v1) (fun u2 r2 => bnd (fm_M_sortOf N u2 v3) (fun u3 r3 => br (decide (r2 = r3)) (bnd (fm_M_valueOf N u3 v1) (fun u4 r4 => bnd (fm_M_valueOf N u4 v3) (fun u5 r5 => br (decide (r2 = 1)) (bnd (fm_M_orderAtoms N u5 r4 r5) (fun u13 r13 => some (u13, r13))) (br (decide (r2 = 5)) (bnd (fm_M_cell N u5 (u5.1 133) r4) (fun u10 r10 => bnd (fm_M_cell N u10 (u10.1 133) r5) (fun u11 r11 => bnd (fm_M_compare N u11 r10 r11) (fun u12 r12 => some (u12, r12))))) (br (decide (r2 = 3)) (bnd (fm_M_cell N u5 (u5.1 133) r4) (fun u7 r7 => bnd (fm_M_cell N u7 (u7.1 133) r5) (fun u8 r8 => br (decide ((lg_cmp r7 0) < 0)) (fb_M_orderOne_128 N G u8 (r7) (r8)) (br (decide (0 ≤ (lg_cmp r8 0))) (bnd (fm_M_compare N u8 r7 r8) (fun u9 r9 => fb_M_orderOne_177 N G u9 (r9))) (fb_M_orderOne_128 N G u8 (r7) (r8)))))) (br (decide (r2 = 7)) (fb_M_orderOne_192 N G u5) (br (decide (r2 = 6)) (fb_M_orderOne_192 N G u5) (bnd (fm_M_compare N u5 (r4.toInt64) (r5.toInt64)) (fun u6 r6 => fb_M_orderOne_205 N G u6 (r6)))))))))) (bnd (fm_M_sortOf N u3 v3) (fun u14 r14 => bnd (fm_M_compare N u14 (r2.toInt64) (r14.toInt64)) (fun u15 r15 => some (u15, r15))))))
set_option maxRecDepth 100000 in
set_option maxHeartbeats 4000000 in
theorem wb_M_orderOne_0 {p : Program} {l : Launch} {e : Env} {R : Room} {s : State} {m : MethodId} {args : Array Value} {below : List Frame} {meth : Method} {c : Code} {D : va_G} {cl : List vw_C} {cB cI cJ cZ cS : ClassId} {A : Nat → Prop} {iM h0 : Nat} {ad : Nat → Nat} (C0 : MCx p s m args meth c b_M_orderOne 12 (some .int) D cl cB cI cJ cZ cS iM A) (hR : R = rm_M_orderOne) (N : Nat) (G : Unit) (hG : True) : ∀ (u : MS) (v1 : Int64) (v3 : Int64) (x : MS × Int32), fb_M_orderOne_0 N G u v1 v3 = some x → ∀ (H : Heap) (locs : List Loc), va_P D cl (wM cB cI cJ cZ cS iM h0 ad u) H → va_D A (wM cB cI cJ cZ cS iM h0 ad u) → va_S A s.heap H locs → ∀ (ls : Array Slot), lv_has ls 12 [(0, .ref h0), (1, .long v1), (3, .long v3)] → W p l e R s m args below meth c H locs 0 0 (MQ below (mQi D cl cB cI cJ cZ cS iM h0 ad A x) args s 0 0 A) (F0 m 0 ls []) := by
  intro u v1 v3 x hf H locs hP hD hS ls hl
  obtain ⟨hx, hb, hr, hml, ht, hown, hM, hK, hA, hlocks⟩ := id C0
  unfold fb_M_orderOne_0 at hf
  refine lv_lload_n hx hb d_M_orderOne_0 rfl (lv_at hl 1 rfl) ?_
  obtain ⟨u2, r2, hc2, hf⟩ := bnd_some hf
  refine mS_i (As := [.long v1]) (rest := []) C0 hP hD hS (c_M_sortOf N hM hc2) k_M_sortOf hl_M_sortOf ht_M_sortOf hini_M rfl rfl hd_M_sortOf rfl (rm_M_orderOne_M_sortOf hR) hl.1 (Nat.le_of_ble_eq_true rfl) d_M_orderOne_1 rfl ⟨Nat.zero_le _, Nat.zero_le _⟩ (fun H locs hP hD hS => ?_)
  refine lv_istore (lv' := [(5, .int r2), (0, .ref h0), (1, .long v1), (3, .long v3)]) hx hb d_M_orderOne_4 hl (by decide) rfl (fun ls hl => ?_)
  refine lv_iload hx hb d_M_orderOne_6 (lv_at hl 0 rfl) ?_
  refine lv_lload_n hx hb d_M_orderOne_8 rfl (lv_at hl 3 rfl) ?_
  obtain ⟨u3, r3, hc3, hf⟩ := bnd_some hf
  refine mS_i (As := [.long v3]) (rest := [.int r2]) C0 hP hD hS (c_M_sortOf N hM hc3) k_M_sortOf hl_M_sortOf ht_M_sortOf hini_M rfl rfl hd_M_sortOf rfl (rm_M_orderOne_M_sortOf hR) hl.1 (Nat.le_of_ble_eq_true rfl) d_M_orderOne_9 rfl ⟨Nat.zero_le _, Nat.zero_le _⟩ (fun H locs hP hD hS => ?_)
  refine lv_icmp_eq (tgt := 27) hx hb d_M_orderOne_12 (by decide) (fun hc => ?_) (fun hc => ?_)
  · rw [br_p _ hc] at hf
    refine lv_lload_n hx hb d_M_orderOne_27 rfl (lv_at hl 2 rfl) ?_
    obtain ⟨u4, r4, hc4, hf⟩ := bnd_some hf
    refine mS_i (As := [.long v1]) (rest := []) C0 hP hD hS (c_M_valueOf N hM hc4) k_M_valueOf hl_M_valueOf ht_M_valueOf hini_M rfl rfl hd_M_valueOf rfl (rm_M_orderOne_M_valueOf hR) hl.1 (Nat.le_of_ble_eq_true rfl) d_M_orderOne_28 rfl ⟨Nat.zero_le _, Nat.zero_le _⟩ (fun H locs hP hD hS => ?_)
    refine lv_istore (lv' := [(6, .int r4), (5, .int r2), (0, .ref h0), (1, .long v1), (3, .long v3)]) hx hb d_M_orderOne_31 hl (by decide) rfl (fun ls hl => ?_)
    refine lv_lload_n hx hb d_M_orderOne_33 rfl (lv_at hl 4 rfl) ?_
    obtain ⟨u5, r5, hc5, hf⟩ := bnd_some hf
    refine mS_i (As := [.long v3]) (rest := []) C0 hP hD hS (c_M_valueOf N hM hc5) k_M_valueOf hl_M_valueOf ht_M_valueOf hini_M rfl rfl hd_M_valueOf rfl (rm_M_orderOne_M_valueOf hR) hl.1 (Nat.le_of_ble_eq_true rfl) d_M_orderOne_34 rfl ⟨Nat.zero_le _, Nat.zero_le _⟩ (fun H locs hP hD hS => ?_)
    refine lv_istore (lv' := [(7, .int r5), (6, .int r4), (5, .int r2), (0, .ref h0), (1, .long v1), (3, .long v3)]) hx hb d_M_orderOne_37 hl (by decide) rfl (fun ls hl => ?_)
    refine lv_iload hx hb d_M_orderOne_39 (lv_at hl 2 rfl) ?_
    refine lv_iconst (v := 1) hx hb d_M_orderOne_41 (by decide) ?_
    refine lv_icmp_ne (tgt := 54) hx hb d_M_orderOne_42 (by decide) (fun hc => ?_) (fun hc => ?_)
    · rw [br_n _ hc] at hf
      refine lv_iload hx hb d_M_orderOne_54 (lv_at hl 2 rfl) ?_
      refine lv_iconst (v := 5) hx hb d_M_orderOne_56 (by decide) ?_
      refine lv_icmp_ne (tgt := 84) hx hb d_M_orderOne_57 (by decide) (fun hc => ?_) (fun hc => ?_)
      · rw [br_n _ hc] at hf
        refine lv_iload hx hb d_M_orderOne_84 (lv_at hl 2 rfl) ?_
        refine lv_iconst (v := 3) hx hb d_M_orderOne_86 (by decide) ?_
        refine lv_icmp_ne (tgt := 178) hx hb d_M_orderOne_87 (by decide) (fun hc => ?_) (fun hc => ?_)
        · rw [br_n _ hc] at hf
          refine lv_iload hx hb d_M_orderOne_178 (lv_at hl 2 rfl) ?_
          refine lv_bipush (v := 7) hx hb d_M_orderOne_180 (by decide) ?_
          refine lv_icmp_eq (tgt := 192) hx hb d_M_orderOne_182 (by decide) (fun hc => ?_) (fun hc => ?_)
          · rw [br_p _ hc] at hf
            exact wb_M_orderOne_192 C0 hR N G hG _ _ hf H locs hP hD hS ls (lv_sub hl [] rfl)
          · rw [br_n _ hc] at hf
            refine lv_iload hx hb d_M_orderOne_185 (lv_at hl 2 rfl) ?_
            refine lv_bipush (v := 6) hx hb d_M_orderOne_187 (by decide) ?_
            refine lv_icmp_ne (tgt := 196) hx hb d_M_orderOne_189 (by decide) (fun hc => ?_) (fun hc => ?_)
            · rw [br_n _ hc] at hf
              refine lv_iload hx hb d_M_orderOne_196 (lv_at hl 1 rfl) ?_
              refine lv_i2l hx hb d_M_orderOne_198 rfl ?_
              refine lv_iload hx hb d_M_orderOne_199 (lv_at hl 0 rfl) ?_
              refine lv_i2l hx hb d_M_orderOne_201 rfl ?_
              obtain ⟨u6, r6, hc6, hf⟩ := bnd_some hf
              refine mS_i (As := [.long r4.toInt64, .long r5.toInt64]) (rest := []) C0 hP hD hS (c_M_compare N hM hc6) k_M_compare hl_M_compare ht_M_compare hini_M rfl rfl hd_M_compare rfl (rm_M_orderOne_M_compare hR) hl.1 (Nat.le_of_ble_eq_true rfl) d_M_orderOne_202 rfl ⟨Nat.zero_le _, Nat.zero_le _⟩ (fun H locs hP hD hS => ?_)
              exact wb_M_orderOne_205 C0 hR N G hG _ _ _ hf H locs hP hD hS ls (lv_sub hl [] rfl)
            · rw [br_p _ hc] at hf
              exact wb_M_orderOne_192 C0 hR N G hG _ _ hf H locs hP hD hS ls (lv_sub hl [] rfl)
        · rw [br_p _ hc] at hf
          refine lv_aload_n hx hb d_M_orderOne_90 rfl (lv_at hl 3 rfl) ?_
          refine lv_aload_n hx hb d_M_orderOne_91 rfl (lv_at hl 3 rfl) ?_
          refine ug_I hx hb ht hown hM hK hP 133 (by decide) lk_M_133 (by decide) d_M_orderOne_92 ?_
          refine lv_iload hx hb d_M_orderOne_95 (lv_at hl 1 rfl) ?_
          obtain ⟨u7, r7, hc7, hf⟩ := bnd_some hf
          refine mV_l (As := [.int (u5.1 133), .int r4]) (rest := []) C0 hP hD hS (c_M_cell N hM hc7) k_M_cell hl_M_cell hi_M_cell hs_M_cell hini_M rfl rfl hd_M_cell rfl (rm_M_orderOne_M_cell hR) hl.1 (Nat.le_of_ble_eq_true rfl) d_M_orderOne_97 rfl ⟨Nat.zero_le _, Nat.zero_le _⟩ (fun H locs hP hD hS => ?_)
          refine lv_lstore (lv' := [(8, .long r7), (7, .int r5), (6, .int r4), (5, .int r2), (0, .ref h0), (1, .long v1), (3, .long v3)]) hx hb d_M_orderOne_100 hl (by decide) rfl (fun ls hl => ?_)
          refine lv_aload_n hx hb d_M_orderOne_102 rfl (lv_at hl 4 rfl) ?_
          refine lv_aload_n hx hb d_M_orderOne_103 rfl (lv_at hl 4 rfl) ?_
          refine ug_I hx hb ht hown hM hK hP 133 (by decide) lk_M_133 (by decide) d_M_orderOne_104 ?_
          refine lv_iload hx hb d_M_orderOne_107 (lv_at hl 1 rfl) ?_
          obtain ⟨u8, r8, hc8, hf⟩ := bnd_some hf
          refine mV_l (As := [.int (u7.1 133), .int r5]) (rest := []) C0 hP hD hS (c_M_cell N hM hc8) k_M_cell hl_M_cell hi_M_cell hs_M_cell hini_M rfl rfl hd_M_cell rfl (rm_M_orderOne_M_cell hR) hl.1 (Nat.le_of_ble_eq_true rfl) d_M_orderOne_109 rfl ⟨Nat.zero_le _, Nat.zero_le _⟩ (fun H locs hP hD hS => ?_)
          refine lv_lstore (lv' := [(10, .long r8), (8, .long r7), (7, .int r5), (6, .int r4), (5, .int r2), (0, .ref h0), (1, .long v1), (3, .long v3)]) hx hb d_M_orderOne_112 hl (by decide) rfl (fun ls hl => ?_)
          refine lv_lload hx hb d_M_orderOne_114 (lv_at hl 1 rfl) ?_
          refine lv_lconst (v := 0) hx hb d_M_orderOne_116 (by decide) ?_
          refine W.lcmp hx hb d_M_orderOne_117 ?_
          refine lv_if_lt (tgt := 128) hx hb d_M_orderOne_118 (by decide) (fun hc => ?_) (fun hc => ?_)
          · rw [br_p _ hc] at hf
            exact wb_M_orderOne_128 C0 hR N G hG _ _ _ _ hf H locs hP hD hS ls (lv_sub hl [1, 0] rfl)
          · rw [br_n _ hc] at hf
            refine lv_lload hx hb d_M_orderOne_121 (lv_at hl 0 rfl) ?_
            refine lv_lconst (v := 0) hx hb d_M_orderOne_123 (by decide) ?_
            refine W.lcmp hx hb d_M_orderOne_124 ?_
            refine lv_if_ge (tgt := 170) hx hb d_M_orderOne_125 (by decide) (fun hc => ?_) (fun hc => ?_)
            · rw [br_p _ hc] at hf
              refine lv_lload hx hb d_M_orderOne_170 (lv_at hl 1 rfl) ?_
              refine lv_lload hx hb d_M_orderOne_172 (lv_at hl 0 rfl) ?_
              obtain ⟨u9, r9, hc9, hf⟩ := bnd_some hf
              refine mS_i (As := [.long r7, .long r8]) (rest := []) C0 hP hD hS (c_M_compare N hM hc9) k_M_compare hl_M_compare ht_M_compare hini_M rfl rfl hd_M_compare rfl (rm_M_orderOne_M_compare hR) hl.1 (Nat.le_of_ble_eq_true rfl) d_M_orderOne_174 rfl ⟨Nat.zero_le _, Nat.zero_le _⟩ (fun H locs hP hD hS => ?_)
              exact wb_M_orderOne_177 C0 hR N G hG _ _ _ hf H locs hP hD hS ls (lv_sub hl [] rfl)
            · rw [br_n _ hc] at hf
              exact wb_M_orderOne_128 C0 hR N G hG _ _ _ _ hf H locs hP hD hS ls (lv_sub hl [1, 0] rfl)
      · rw [br_p _ hc] at hf
        refine lv_aload_n hx hb d_M_orderOne_60 rfl (lv_at hl 3 rfl) ?_
        refine lv_aload_n hx hb d_M_orderOne_61 rfl (lv_at hl 3 rfl) ?_
        refine ug_I hx hb ht hown hM hK hP 133 (by decide) lk_M_133 (by decide) d_M_orderOne_62 ?_
        refine lv_iload hx hb d_M_orderOne_65 (lv_at hl 1 rfl) ?_
        obtain ⟨u10, r10, hc10, hf⟩ := bnd_some hf
        refine mV_l (As := [.int (u5.1 133), .int r4]) (rest := []) C0 hP hD hS (c_M_cell N hM hc10) k_M_cell hl_M_cell hi_M_cell hs_M_cell hini_M rfl rfl hd_M_cell rfl (rm_M_orderOne_M_cell hR) hl.1 (Nat.le_of_ble_eq_true rfl) d_M_orderOne_67 rfl ⟨Nat.zero_le _, Nat.zero_le _⟩ (fun H locs hP hD hS => ?_)
        refine lv_aload_n hx hb d_M_orderOne_70 rfl (lv_at hl 3 rfl) ?_
        refine lv_aload_n hx hb d_M_orderOne_71 rfl (lv_at hl 3 rfl) ?_
        refine ug_I hx hb ht hown hM hK hP 133 (by decide) lk_M_133 (by decide) d_M_orderOne_72 ?_
        refine lv_iload hx hb d_M_orderOne_75 (lv_at hl 0 rfl) ?_
        obtain ⟨u11, r11, hc11, hf⟩ := bnd_some hf
        refine mV_l (As := [.int (u10.1 133), .int r5]) (rest := [.long r10]) C0 hP hD hS (c_M_cell N hM hc11) k_M_cell hl_M_cell hi_M_cell hs_M_cell hini_M rfl rfl hd_M_cell rfl (rm_M_orderOne_M_cell hR) hl.1 (Nat.le_of_ble_eq_true rfl) d_M_orderOne_77 rfl ⟨Nat.zero_le _, Nat.zero_le _⟩ (fun H locs hP hD hS => ?_)
        obtain ⟨u12, r12, hc12, hf⟩ := bnd_some hf
        refine mS_i (As := [.long r10, .long r11]) (rest := []) C0 hP hD hS (c_M_compare N hM hc12) k_M_compare hl_M_compare ht_M_compare hini_M rfl rfl hd_M_compare rfl (rm_M_orderOne_M_compare hR) hl.1 (Nat.le_of_ble_eq_true rfl) d_M_orderOne_80 rfl ⟨Nat.zero_le _, Nat.zero_le _⟩ (fun H locs hP hD hS => ?_)
        exact mr_i C0 hP hD hS hf d_M_orderOne_83
    · rw [br_p _ hc] at hf
      refine lv_aload_n hx hb d_M_orderOne_45 rfl (lv_at hl 3 rfl) ?_
      refine lv_iload hx hb d_M_orderOne_46 (lv_at hl 1 rfl) ?_
      refine lv_iload hx hb d_M_orderOne_48 (lv_at hl 0 rfl) ?_
      obtain ⟨u13, r13, hc13, hf⟩ := bnd_some hf
      refine mV_i (As := [.int r4, .int r5]) (rest := []) C0 hP hD hS (c_M_orderAtoms N hM hc13) k_M_orderAtoms hl_M_orderAtoms hi_M_orderAtoms hs_M_orderAtoms hini_M rfl rfl hd_M_orderAtoms rfl (rm_M_orderOne_M_orderAtoms hR) hl.1 (Nat.le_of_ble_eq_true rfl) d_M_orderOne_50 rfl ⟨Nat.zero_le _, Nat.zero_le _⟩ (fun H locs hP hD hS => ?_)
      exact mr_i C0 hP hD hS hf d_M_orderOne_53
  · rw [br_n _ hc] at hf
    refine lv_iload hx hb d_M_orderOne_15 (lv_at hl 0 rfl) ?_
    refine lv_i2l hx hb d_M_orderOne_17 rfl ?_
    refine lv_lload_n hx hb d_M_orderOne_18 rfl (lv_at hl 3 rfl) ?_
    obtain ⟨u14, r14, hc14, hf⟩ := bnd_some hf
    refine mS_i (As := [.long v3]) (rest := [.long r2.toInt64]) C0 hP hD hS (c_M_sortOf N hM hc14) k_M_sortOf hl_M_sortOf ht_M_sortOf hini_M rfl rfl hd_M_sortOf rfl (rm_M_orderOne_M_sortOf hR) hl.1 (Nat.le_of_ble_eq_true rfl) d_M_orderOne_19 rfl ⟨Nat.zero_le _, Nat.zero_le _⟩ (fun H locs hP hD hS => ?_)
    refine lv_i2l hx hb d_M_orderOne_22 rfl ?_
    obtain ⟨u15, r15, hc15, hf⟩ := bnd_some hf
    refine mS_i (As := [.long r2.toInt64, .long r14.toInt64]) (rest := []) C0 hP hD hS (c_M_compare N hM hc15) k_M_compare hl_M_compare ht_M_compare hini_M rfl rfl hd_M_compare rfl (rm_M_orderOne_M_compare hR) hl.1 (Nat.le_of_ble_eq_true rfl) d_M_orderOne_23 rfl ⟨Nat.zero_le _, Nat.zero_le _⟩ (fun H locs hP hD hS => ?_)
    exact mr_i C0 hP hD hS hf d_M_orderOne_26
def fm_M_orderOne (N : Nat) (u : MS) (v1 : Int64) (v3 : Int64) : Option (MS × Int32) := fb_M_orderOne_0 N () u v1 v3
set_option maxRecDepth 100000 in
set_option maxHeartbeats 4000000 in
theorem c_M_orderOne (N : Nat) {l : Launch} {D : va_G} {cl : List vw_C} {cB cI cJ cZ cS : ClassId} {iM h0 : Nat} {ad : Nat → Nat} {u : MS} {sz : Nat} {v1 : Int64} {v3 : Int64} {x : MS × Int32} (hM : cl[iM]? = some (R_M, F_M, 171)) (hf : fm_M_orderOne N u v1 v3 = some x) : Met l y_M_orderOne (wd_ws y_M_orderOne b_M_orderOne 12 (some .int)) rm_M_orderOne (mPc D cl cB cI cJ cZ cS iM h0 ad u sz [.ref h0, .long v1, .long v3]) (mQi D cl cB cI cJ cZ cS iM h0 ad (mA cB cI cJ cZ cS iM h0 ad u sz) x) 0 0 (mA cB cI cJ cZ cS iM h0 ad u sz) :=
  mMet (by decide) rfl hM (Nat.le_of_ble_eq_true rfl) (fun p e s m below meth c ls hsz C0 hP hD hS hl => by
    have hR : rm_M_orderOne = rm_M_orderOne := rfl
    exact wb_M_orderOne_0 C0 hR N () trivial u _ _ x hf s.heap [] hP hD hS ls (lv_sub hl [0, 1, 2] rfl))
abbrev b_M_order : ByteArray := prog_14_method_93_code
def y_M_order : MethodName := ⟨R_M, "order", "(JJ)I"⟩
def w_M_order : List Cond := wd_ws y_M_order b_M_order 13 (some .int)
set_option maxRecDepth 100000 in
theorem k_M_order : Cond.code y_M_order b_M_order 13 (some .int) ∈ wd_tbl := wd_of 3034 rfl rfl
theorem d_M_order_0 : decode b_M_order 0 = .ok (.iconst 2, 1) := by decide +kernel
theorem d_M_order_1 : decode b_M_order 1 = .ok (.istore 5, 2) := by decide +kernel
theorem d_M_order_3 : decode b_M_order 3 = .ok (.aload_n 0, 1) := by decide +kernel
theorem d_M_order_4 : decode b_M_order 4 = .ok (.getfield 327, 3) := by decide +kernel
theorem d_M_order_7 : decode b_M_order 7 = .ok (.iconst 0, 1) := by decide +kernel
theorem d_M_order_8 : decode b_M_order 8 = .ok (.lload_n 3, 1) := by decide +kernel
theorem d_M_order_9 : decode b_M_order 9 = .ok (.lastore, 1) := by decide +kernel
theorem d_M_order_10 : decode b_M_order 10 = .ok (.aload_n 0, 1) := by decide +kernel
theorem d_M_order_11 : decode b_M_order 11 = .ok (.getfield 327, 3) := by decide +kernel
theorem d_M_order_14 : decode b_M_order 14 = .ok (.iconst 1, 1) := by decide +kernel
theorem d_M_order_15 : decode b_M_order 15 = .ok (.lload_n 1, 1) := by decide +kernel
theorem d_M_order_16 : decode b_M_order 16 = .ok (.lastore, 1) := by decide +kernel
theorem d_M_order_17 : decode b_M_order 17 = .ok (.iload 5, 2) := by decide +kernel
theorem d_M_order_19 : decode b_M_order 19 = .ok (.ifCond .le 142, 3) := by decide +kernel
theorem d_M_order_22 : decode b_M_order 22 = .ok (.aload_n 0, 1) := by decide +kernel
theorem d_M_order_23 : decode b_M_order 23 = .ok (.getfield 327, 3) := by decide +kernel
theorem d_M_order_26 : decode b_M_order 26 = .ok (.iload 5, 2) := by decide +kernel
theorem d_M_order_28 : decode b_M_order 28 = .ok (.iconst 1, 1) := by decide +kernel
theorem d_M_order_29 : decode b_M_order 29 = .ok (.isub, 1) := by decide +kernel
theorem d_M_order_30 : decode b_M_order 30 = .ok (.laload, 1) := by decide +kernel
theorem d_M_order_31 : decode b_M_order 31 = .ok (.lstore 6, 2) := by decide +kernel
theorem d_M_order_33 : decode b_M_order 33 = .ok (.aload_n 0, 1) := by decide +kernel
theorem d_M_order_34 : decode b_M_order 34 = .ok (.getfield 327, 3) := by decide +kernel
theorem d_M_order_37 : decode b_M_order 37 = .ok (.iload 5, 2) := by decide +kernel
theorem d_M_order_39 : decode b_M_order 39 = .ok (.iconst 2, 1) := by decide +kernel
theorem d_M_order_40 : decode b_M_order 40 = .ok (.isub, 1) := by decide +kernel
theorem d_M_order_41 : decode b_M_order 41 = .ok (.laload, 1) := by decide +kernel
theorem d_M_order_42 : decode b_M_order 42 = .ok (.lstore 8, 2) := by decide +kernel
theorem d_M_order_44 : decode b_M_order 44 = .ok (.iinc 5 (-2), 3) := by decide +kernel
theorem d_M_order_47 : decode b_M_order 47 = .ok (.aload_n 0, 1) := by decide +kernel
theorem d_M_order_48 : decode b_M_order 48 = .ok (.lload 6, 2) := by decide +kernel
theorem d_M_order_50 : decode b_M_order 50 = .ok (.lload 8, 2) := by decide +kernel
theorem d_M_order_52 : decode b_M_order 52 = .ok (.invokevirtual 712, 3) := by decide +kernel
theorem d_M_order_55 : decode b_M_order 55 = .ok (.istore 10, 2) := by decide +kernel
theorem d_M_order_57 : decode b_M_order 57 = .ok (.iload 10, 2) := by decide +kernel
theorem d_M_order_59 : decode b_M_order 59 = .ok (.ifCond .eq 6, 3) := by decide +kernel
theorem d_M_order_62 : decode b_M_order 62 = .ok (.iload 10, 2) := by decide +kernel
theorem d_M_order_64 : decode b_M_order 64 = .ok (.ireturn, 1) := by decide +kernel
theorem d_M_order_65 : decode b_M_order 65 = .ok (.lload 6, 2) := by decide +kernel
theorem d_M_order_67 : decode b_M_order 67 = .ok (.invokestatic 686, 3) := by decide +kernel
theorem d_M_order_70 : decode b_M_order 70 = .ok (.ifCond .eq 88, 3) := by decide +kernel
theorem d_M_order_73 : decode b_M_order 73 = .ok (.aload_n 0, 1) := by decide +kernel
theorem d_M_order_74 : decode b_M_order 74 = .ok (.aload_n 0, 1) := by decide +kernel
theorem d_M_order_75 : decode b_M_order 75 = .ok (.getfield 669, 3) := by decide +kernel
theorem d_M_order_78 : decode b_M_order 78 = .ok (.lload 6, 2) := by decide +kernel
theorem d_M_order_80 : decode b_M_order 80 = .ok (.invokevirtual 690, 3) := by decide +kernel
theorem d_M_order_83 : decode b_M_order 83 = .ok (.istore 11, 2) := by decide +kernel
theorem d_M_order_85 : decode b_M_order 85 = .ok (.iload 11, 2) := by decide +kernel
theorem d_M_order_87 : decode b_M_order 87 = .ok (.iconst 1, 1) := by decide +kernel
theorem d_M_order_88 : decode b_M_order 88 = .ok (.isub, 1) := by decide +kernel
theorem d_M_order_89 : decode b_M_order 89 = .ok (.istore 12, 2) := by decide +kernel
theorem d_M_order_91 : decode b_M_order 91 = .ok (.iload 12, 2) := by decide +kernel
theorem d_M_order_93 : decode b_M_order 93 = .ok (.lload 6, 2) := by decide +kernel
theorem d_M_order_95 : decode b_M_order 95 = .ok (.invokestatic 706, 3) := by decide +kernel
theorem d_M_order_98 : decode b_M_order 98 = .ok (.if_icmp .lt 60, 3) := by decide +kernel
theorem d_M_order_101 : decode b_M_order 101 = .ok (.aload_n 0, 1) := by decide +kernel
theorem d_M_order_102 : decode b_M_order 102 = .ok (.getfield 327, 3) := by decide +kernel
theorem d_M_order_105 : decode b_M_order 105 = .ok (.iload 5, 2) := by decide +kernel
theorem d_M_order_107 : decode b_M_order 107 = .ok (.aload_n 0, 1) := by decide +kernel
theorem d_M_order_108 : decode b_M_order 108 = .ok (.aload_n 0, 1) := by decide +kernel
theorem d_M_order_109 : decode b_M_order 109 = .ok (.getfield 669, 3) := by decide +kernel
theorem d_M_order_112 : decode b_M_order 112 = .ok (.lload 8, 2) := by decide +kernel
theorem d_M_order_114 : decode b_M_order 114 = .ok (.invokestatic 680, 3) := by decide +kernel
theorem d_M_order_117 : decode b_M_order 117 = .ok (.iload 12, 2) := by decide +kernel
theorem d_M_order_119 : decode b_M_order 119 = .ok (.iadd, 1) := by decide +kernel
theorem d_M_order_120 : decode b_M_order 120 = .ok (.invokevirtual 683, 3) := by decide +kernel
theorem d_M_order_123 : decode b_M_order 123 = .ok (.lastore, 1) := by decide +kernel
theorem d_M_order_124 : decode b_M_order 124 = .ok (.aload_n 0, 1) := by decide +kernel
theorem d_M_order_125 : decode b_M_order 125 = .ok (.getfield 327, 3) := by decide +kernel
theorem d_M_order_128 : decode b_M_order 128 = .ok (.iload 5, 2) := by decide +kernel
theorem d_M_order_130 : decode b_M_order 130 = .ok (.iconst 1, 1) := by decide +kernel
theorem d_M_order_131 : decode b_M_order 131 = .ok (.iadd, 1) := by decide +kernel
theorem d_M_order_132 : decode b_M_order 132 = .ok (.aload_n 0, 1) := by decide +kernel
theorem d_M_order_133 : decode b_M_order 133 = .ok (.aload_n 0, 1) := by decide +kernel
theorem d_M_order_134 : decode b_M_order 134 = .ok (.getfield 669, 3) := by decide +kernel
theorem d_M_order_137 : decode b_M_order 137 = .ok (.lload 6, 2) := by decide +kernel
theorem d_M_order_139 : decode b_M_order 139 = .ok (.invokestatic 680, 3) := by decide +kernel
theorem d_M_order_142 : decode b_M_order 142 = .ok (.iload 12, 2) := by decide +kernel
theorem d_M_order_144 : decode b_M_order 144 = .ok (.iadd, 1) := by decide +kernel
theorem d_M_order_145 : decode b_M_order 145 = .ok (.invokevirtual 683, 3) := by decide +kernel
theorem d_M_order_148 : decode b_M_order 148 = .ok (.lastore, 1) := by decide +kernel
theorem d_M_order_149 : decode b_M_order 149 = .ok (.iinc 5 2, 3) := by decide +kernel
theorem d_M_order_152 : decode b_M_order 152 = .ok (.iinc 12 (-1), 3) := by decide +kernel
theorem d_M_order_155 : decode b_M_order 155 = .ok (.goto (-64), 3) := by decide +kernel
theorem d_M_order_158 : decode b_M_order 158 = .ok (.goto (-141), 3) := by decide +kernel
theorem d_M_order_161 : decode b_M_order 161 = .ok (.iconst 0, 1) := by decide +kernel
theorem d_M_order_162 : decode b_M_order 162 = .ok (.ireturn, 1) := by decide +kernel
set_option maxRecDepth 100000 in
theorem hl_M_order : Cond.methodLink R_M 867 y_M_order ∈ wd_tbl := wd_of 3031 (by decide +kernel) rfl
set_option maxRecDepth 100000 in
theorem hi_M_order : Cond.instanceMethod y_M_order ∈ wd_tbl := wd_of 3033 (by decide +kernel) rfl
set_option maxRecDepth 100000 in
theorem hs_M_order : Cond.selects R_M y_M_order y_M_order ∈ wd_tbl := wd_of 215 (by decide +kernel) rfl
theorem hd_M_order : y_M_order.cls = R_M ∧ y_M_order.cls ≠ "java/lang/invoke/MethodHandle" ∧ y_M_order.cls ≠ "java/lang/invoke/VarHandle" ∧ (parseMethodDescriptor y_M_order.desc).map (fun d => d.parameters.length) = some 2 := by decide +kernel
def rm_M_order : Room := { frames := 3, cells := 0, slots := 0, locals := 80 }
theorem rm_M_order_M_orderOne {R : Room} (hR : R = rm_M_order) : (rm_M_orderOne).frames + 1 ≤ R.frames ∧ 8 + (12 + 11) + (rm_M_orderOne).locals ≤ R.locals := by subst hR; decide
theorem rm_M_order_M_inHeap {R : Room} (hR : R = rm_M_order) : (rm_M_inHeap).frames + 1 ≤ R.frames ∧ 8 + (3 + 11) + (rm_M_inHeap).locals ≤ R.locals := by subst hR; decide
theorem rm_M_order_M_sizeOf {R : Room} (hR : R = rm_M_order) : (rm_M_sizeOf).frames + 1 ≤ R.frames ∧ 8 + (6 + 11) + (rm_M_sizeOf).locals ≤ R.locals := by subst hR; decide
theorem rm_M_order_M_partsFrom {R : Room} (hR : R = rm_M_order) : (rm_M_partsFrom).frames + 1 ≤ R.frames ∧ 8 + (3 + 11) + (rm_M_partsFrom).locals ≤ R.locals := by subst hR; decide
theorem rm_M_order_M_valueOf {R : Room} (hR : R = rm_M_order) : (rm_M_valueOf).frames + 1 ≤ R.frames ∧ 8 + (2 + 11) + (rm_M_valueOf).locals ≤ R.locals := by subst hR; decide
theorem rm_M_order_M_cell {R : Room} (hR : R = rm_M_order) : (rm_M_cell).frames + 1 ≤ R.frames ∧ 8 + (3 + 11) + (rm_M_cell).locals ≤ R.locals := by subst hR; decide
def fb_M_order_158 (N : Nat) (G : (MS → Int32 → Option (MS × Int32)) × (MS → Int32 → Int64 → Int64 → Int32 → Option (MS × Int32))) (u : MS) (v5 : Int32) : Option (MS × Int32) := G.1 u (v5)
set_option maxRecDepth 100000 in
set_option maxHeartbeats 4000000 in
theorem wb_M_order_158 {p : Program} {l : Launch} {e : Env} {R : Room} {s : State} {m : MethodId} {args : Array Value} {below : List Frame} {meth : Method} {c : Code} {D : va_G} {cl : List vw_C} {cB cI cJ cZ cS : ClassId} {A : Nat → Prop} {iM h0 : Nat} {ad : Nat → Nat} (C0 : MCx p s m args meth c b_M_order 13 (some .int) D cl cB cI cJ cZ cS iM A) (hR : R = rm_M_order) (N : Nat) (G : (MS → Int32 → Option (MS × Int32)) × (MS → Int32 → Int64 → Int64 → Int32 → Option (MS × Int32))) (hG : (∀ (u : MS) (v5 : Int32) (x : MS × Int32), G.1 u v5 = some x → ∀ (H : Heap) (locs : List Loc), va_P D cl (wM cB cI cJ cZ cS iM h0 ad u) H → va_D A (wM cB cI cJ cZ cS iM h0 ad u) → va_S A s.heap H locs → ∀ (ls : Array Slot), lv_has ls 13 [(0, .ref h0), (5, .int v5)] → W p l e R s m args below meth c H locs 0 0 (MQ below (mQi D cl cB cI cJ cZ cS iM h0 ad A x) args s 0 0 A) (F0 m 17 ls [])) ∧ (∀ (u : MS) (v5 : Int32) (v6 : Int64) (v8 : Int64) (v12 : Int32) (x : MS × Int32), G.2 u v5 v6 v8 v12 = some x → ∀ (H : Heap) (locs : List Loc), va_P D cl (wM cB cI cJ cZ cS iM h0 ad u) H → va_D A (wM cB cI cJ cZ cS iM h0 ad u) → va_S A s.heap H locs → ∀ (ls : Array Slot), lv_has ls 13 [(0, .ref h0), (5, .int v5), (6, .long v6), (8, .long v8), (12, .int v12)] → W p l e R s m args below meth c H locs 0 0 (MQ below (mQi D cl cB cI cJ cZ cS iM h0 ad A x) args s 0 0 A) (F0 m 91 ls []))) : ∀ (u : MS) (v5 : Int32) (x : MS × Int32), fb_M_order_158 N G u v5 = some x → ∀ (H : Heap) (locs : List Loc), va_P D cl (wM cB cI cJ cZ cS iM h0 ad u) H → va_D A (wM cB cI cJ cZ cS iM h0 ad u) → va_S A s.heap H locs → ∀ (ls : Array Slot), lv_has ls 13 [(0, .ref h0), (5, .int v5)] → W p l e R s m args below meth c H locs 0 0 (MQ below (mQi D cl cB cI cJ cZ cS iM h0 ad A x) args s 0 0 A) (F0 m 158 ls []) := by
  intro u v5 x hf H locs hP hD hS ls hl
  obtain ⟨hx, hb, hr, hml, ht, hown, hM, hK, hA, hlocks⟩ := id C0
  unfold fb_M_order_158 at hf
  refine lv_goto (tgt := 17) hx hb d_M_order_158 (by decide) ?_
  exact hG.1 _ _ _ hf H locs hP hD hS ls (lv_sub hl [0, 1] rfl)
def fb_M_order_91 (N : Nat) (G : (MS → Int32 → Option (MS × Int32)) × (MS → Int32 → Int64 → Int64 → Int32 → Option (MS × Int32))) (u : MS) (v5 : Int32) (v6 : Int64) (v8 : Int64) (v12 : Int32) : Option (MS × Int32) := bnd (fm_M_partsFrom N u v6) (fun u1 r1 => br (decide (v12 < r1)) (fb_M_order_158 N G u1 (v5)) (bnd (fm_M_valueOf N u1 v8) (fun u2 r2 => bnd (fm_M_cell N u2 (u1.1 133) (r2 + v12)) (fun u3 r3 => ck (inb v5 (ln 141)) (lt (upJ u3 141 (vp_updL (u3.2.2.2 141) v5.toNatClampNeg r3)) (fun w4 => bnd (fm_M_valueOf N w4 v6) (fun u5 r5 => bnd (fm_M_cell N u5 (w4.1 133) (r5 + v12)) (fun u6 r6 => ck (inb (v5 + 1) (ln 141)) (lt (upJ u6 141 (vp_updL (u6.2.2.2 141) (v5 + 1).toNatClampNeg r6)) (fun w7 => G.2 w7 ((v5 + 2)) (v6) (v8) ((v12 + (-1)))))))))))))
set_option maxRecDepth 100000 in
set_option maxHeartbeats 4000000 in
theorem wb_M_order_91 {p : Program} {l : Launch} {e : Env} {R : Room} {s : State} {m : MethodId} {args : Array Value} {below : List Frame} {meth : Method} {c : Code} {D : va_G} {cl : List vw_C} {cB cI cJ cZ cS : ClassId} {A : Nat → Prop} {iM h0 : Nat} {ad : Nat → Nat} (C0 : MCx p s m args meth c b_M_order 13 (some .int) D cl cB cI cJ cZ cS iM A) (hR : R = rm_M_order) (N : Nat) (G : (MS → Int32 → Option (MS × Int32)) × (MS → Int32 → Int64 → Int64 → Int32 → Option (MS × Int32))) (hG : (∀ (u : MS) (v5 : Int32) (x : MS × Int32), G.1 u v5 = some x → ∀ (H : Heap) (locs : List Loc), va_P D cl (wM cB cI cJ cZ cS iM h0 ad u) H → va_D A (wM cB cI cJ cZ cS iM h0 ad u) → va_S A s.heap H locs → ∀ (ls : Array Slot), lv_has ls 13 [(0, .ref h0), (5, .int v5)] → W p l e R s m args below meth c H locs 0 0 (MQ below (mQi D cl cB cI cJ cZ cS iM h0 ad A x) args s 0 0 A) (F0 m 17 ls [])) ∧ (∀ (u : MS) (v5 : Int32) (v6 : Int64) (v8 : Int64) (v12 : Int32) (x : MS × Int32), G.2 u v5 v6 v8 v12 = some x → ∀ (H : Heap) (locs : List Loc), va_P D cl (wM cB cI cJ cZ cS iM h0 ad u) H → va_D A (wM cB cI cJ cZ cS iM h0 ad u) → va_S A s.heap H locs → ∀ (ls : Array Slot), lv_has ls 13 [(0, .ref h0), (5, .int v5), (6, .long v6), (8, .long v8), (12, .int v12)] → W p l e R s m args below meth c H locs 0 0 (MQ below (mQi D cl cB cI cJ cZ cS iM h0 ad A x) args s 0 0 A) (F0 m 91 ls []))) : ∀ (u : MS) (v5 : Int32) (v6 : Int64) (v8 : Int64) (v12 : Int32) (x : MS × Int32), fb_M_order_91 N G u v5 v6 v8 v12 = some x → ∀ (H : Heap) (locs : List Loc), va_P D cl (wM cB cI cJ cZ cS iM h0 ad u) H → va_D A (wM cB cI cJ cZ cS iM h0 ad u) → va_S A s.heap H locs → ∀ (ls : Array Slot), lv_has ls 13 [(0, .ref h0), (5, .int v5), (6, .long v6), (8, .long v8), (12, .int v12)] → W p l e R s m args below meth c H locs 0 0 (MQ below (mQi D cl cB cI cJ cZ cS iM h0 ad A x) args s 0 0 A) (F0 m 91 ls []) := by
  intro u v5 v6 v8 v12 x hf H locs hP hD hS ls hl
  obtain ⟨hx, hb, hr, hml, ht, hown, hM, hK, hA, hlocks⟩ := id C0
  unfold fb_M_order_91 at hf
  refine lv_iload hx hb d_M_order_91 (lv_at hl 4 rfl) ?_
  refine lv_lload hx hb d_M_order_93 (lv_at hl 2 rfl) ?_
  obtain ⟨u1, r1, hc1, hf⟩ := bnd_some hf
  refine mS_i (As := [.long v6]) (rest := [.int v12]) C0 hP hD hS (c_M_partsFrom N hM hc1) k_M_partsFrom hl_M_partsFrom ht_M_partsFrom hini_M rfl rfl hd_M_partsFrom rfl (rm_M_order_M_partsFrom hR) hl.1 (Nat.le_of_ble_eq_true rfl) d_M_order_95 rfl ⟨Nat.zero_le _, Nat.zero_le _⟩ (fun H locs hP hD hS => ?_)
  refine lv_icmp_lt (tgt := 158) hx hb d_M_order_98 (by decide) (fun hc => ?_) (fun hc => ?_)
  · rw [br_p _ hc] at hf
    exact wb_M_order_158 C0 hR N G hG _ _ _ hf H locs hP hD hS ls (lv_sub hl [0, 1] rfl)
  · rw [br_n _ hc] at hf
    refine lv_aload_n hx hb d_M_order_101 rfl (lv_at hl 0 rfl) ?_
    refine ug_R hx hb ht hown hM hK hP 141 (by decide) lk_M_141 (by decide) d_M_order_102 ?_
    refine lv_iload hx hb d_M_order_105 (lv_at hl 1 rfl) ?_
    refine lv_aload_n hx hb d_M_order_107 rfl (lv_at hl 0 rfl) ?_
    refine lv_aload_n hx hb d_M_order_108 rfl (lv_at hl 0 rfl) ?_
    refine ug_I hx hb ht hown hM hK hP 133 (by decide) lk_M_133 (by decide) d_M_order_109 ?_
    refine lv_lload hx hb d_M_order_112 (lv_at hl 3 rfl) ?_
    obtain ⟨u2, r2, hc2, hf⟩ := bnd_some hf
    refine mS_i (As := [.long v8]) (rest := [.int (u1.1 133), .ref h0, .int v5, .ref (ad 141)]) C0 hP hD hS (c_M_valueOf N hM hc2) k_M_valueOf hl_M_valueOf ht_M_valueOf hini_M rfl rfl hd_M_valueOf rfl (rm_M_order_M_valueOf hR) hl.1 (Nat.le_of_ble_eq_true rfl) d_M_order_114 rfl ⟨Nat.zero_le _, Nat.zero_le _⟩ (fun H locs hP hD hS => ?_)
    refine lv_iload hx hb d_M_order_117 (lv_at hl 4 rfl) ?_
    refine lv_iadd hx hb d_M_order_119 ?_
    obtain ⟨u3, r3, hc3, hf⟩ := bnd_some hf
    refine mV_l (As := [.int (u1.1 133), .int (r2 + v12)]) (rest := [.int v5, .ref (ad 141)]) C0 hP hD hS (c_M_cell N hM hc3) k_M_cell hl_M_cell hi_M_cell hs_M_cell hini_M rfl rfl hd_M_cell rfl (rm_M_order_M_cell hR) hl.1 (Nat.le_of_ble_eq_true rfl) d_M_order_120 rfl ⟨Nat.zero_le _, Nat.zero_le _⟩ (fun H locs hP hD hS => ?_)
    obtain ⟨hi9, hf⟩ := ck_some hf
    refine us_J hx hb hK hP hD hS (by decide) (by decide) hi9 d_M_order_123 (fun H locs hP hD hS => ?_)
    obtain ⟨w4, e4, hf⟩ := lt_some hf
    rw [← e4] at hP hD
    refine lv_aload_n hx hb d_M_order_124 rfl (lv_at hl 0 rfl) ?_
    refine ug_R hx hb ht hown hM hK hP 141 (by decide) lk_M_141 (by decide) d_M_order_125 ?_
    refine lv_iload hx hb d_M_order_128 (lv_at hl 1 rfl) ?_
    refine lv_iconst (v := 1) hx hb d_M_order_130 (by decide) ?_
    refine lv_iadd hx hb d_M_order_131 ?_
    refine lv_aload_n hx hb d_M_order_132 rfl (lv_at hl 0 rfl) ?_
    refine lv_aload_n hx hb d_M_order_133 rfl (lv_at hl 0 rfl) ?_
    refine ug_I hx hb ht hown hM hK hP 133 (by decide) lk_M_133 (by decide) d_M_order_134 ?_
    refine lv_lload hx hb d_M_order_137 (lv_at hl 2 rfl) ?_
    obtain ⟨u5, r5, hc5, hf⟩ := bnd_some hf
    refine mS_i (As := [.long v6]) (rest := [.int (w4.1 133), .ref h0, .int (v5 + 1), .ref (ad 141)]) C0 hP hD hS (c_M_valueOf N hM hc5) k_M_valueOf hl_M_valueOf ht_M_valueOf hini_M rfl rfl hd_M_valueOf rfl (rm_M_order_M_valueOf hR) hl.1 (Nat.le_of_ble_eq_true rfl) d_M_order_139 rfl ⟨Nat.zero_le _, Nat.zero_le _⟩ (fun H locs hP hD hS => ?_)
    refine lv_iload hx hb d_M_order_142 (lv_at hl 4 rfl) ?_
    refine lv_iadd hx hb d_M_order_144 ?_
    obtain ⟨u6, r6, hc6, hf⟩ := bnd_some hf
    refine mV_l (As := [.int (w4.1 133), .int (r5 + v12)]) (rest := [.int (v5 + 1), .ref (ad 141)]) C0 hP hD hS (c_M_cell N hM hc6) k_M_cell hl_M_cell hi_M_cell hs_M_cell hini_M rfl rfl hd_M_cell rfl (rm_M_order_M_cell hR) hl.1 (Nat.le_of_ble_eq_true rfl) d_M_order_145 rfl ⟨Nat.zero_le _, Nat.zero_le _⟩ (fun H locs hP hD hS => ?_)
    obtain ⟨hi9, hf⟩ := ck_some hf
    refine us_J hx hb hK hP hD hS (by decide) (by decide) hi9 d_M_order_148 (fun H locs hP hD hS => ?_)
    obtain ⟨w7, e7, hf⟩ := lt_some hf
    rw [← e7] at hP hD
    refine lv_iinc (v := (v5 + 2)) (lv' := [(5, .int (v5 + 2)), (0, .ref h0), (6, .long v6), (8, .long v8), (12, .int v12)]) hx hb d_M_order_149 hl (k := 1) rfl rfl (by decide) rfl (fun ls hl => ?_)
    refine lv_iinc (v := (v12 + (-1))) (lv' := [(12, .int (v12 + (-1))), (5, .int (v5 + 2)), (0, .ref h0), (6, .long v6), (8, .long v8)]) hx hb d_M_order_152 hl (k := 4) rfl rfl (by decide) rfl (fun ls hl => ?_)
    refine lv_goto (tgt := 91) hx hb d_M_order_155 (by decide) ?_
    exact hG.2 _ _ _ _ _ _ hf H locs hP hD hS ls (lv_sub hl [2, 1, 3, 4, 0] rfl)
def fb_M_order_17 (N : Nat) (G : (MS → Int32 → Option (MS × Int32)) × (MS → Int32 → Int64 → Int64 → Int32 → Option (MS × Int32))) (u : MS) (v5 : Int32) : Option (MS × Int32) := br (decide (v5 ≤ 0)) (some (u, 0)) (ck (inb (v5 - 1) (ln 141)) (lt (u.2.2.2 141 (v5 - 1).toNatClampNeg) (fun y8 => ck (inb (v5 - 2) (ln 141)) (lt (u.2.2.2 141 (v5 - 2).toNatClampNeg) (fun y9 => bnd (fm_M_orderOne N u y8 y9) (fun u10 r10 => br (decide (r10 = 0)) (bnd (fm_M_inHeap N u10 y8) (fun u11 r11 => br (decide (r11 = 0)) (fb_M_order_158 N G u11 ((v5 + (-2)))) (bnd (fm_M_sizeOf N u11 (u11.1 133) y8) (fun u12 r12 => G.2 u12 ((v5 + (-2))) (y8) (y9) ((r12 - 1)))))) (some (u10, r10))))))))
set_option maxRecDepth 100000 in
set_option maxHeartbeats 4000000 in
theorem wb_M_order_17 {p : Program} {l : Launch} {e : Env} {R : Room} {s : State} {m : MethodId} {args : Array Value} {below : List Frame} {meth : Method} {c : Code} {D : va_G} {cl : List vw_C} {cB cI cJ cZ cS : ClassId} {A : Nat → Prop} {iM h0 : Nat} {ad : Nat → Nat} (C0 : MCx p s m args meth c b_M_order 13 (some .int) D cl cB cI cJ cZ cS iM A) (hR : R = rm_M_order) (N : Nat) (G : (MS → Int32 → Option (MS × Int32)) × (MS → Int32 → Int64 → Int64 → Int32 → Option (MS × Int32))) (hG : (∀ (u : MS) (v5 : Int32) (x : MS × Int32), G.1 u v5 = some x → ∀ (H : Heap) (locs : List Loc), va_P D cl (wM cB cI cJ cZ cS iM h0 ad u) H → va_D A (wM cB cI cJ cZ cS iM h0 ad u) → va_S A s.heap H locs → ∀ (ls : Array Slot), lv_has ls 13 [(0, .ref h0), (5, .int v5)] → W p l e R s m args below meth c H locs 0 0 (MQ below (mQi D cl cB cI cJ cZ cS iM h0 ad A x) args s 0 0 A) (F0 m 17 ls [])) ∧ (∀ (u : MS) (v5 : Int32) (v6 : Int64) (v8 : Int64) (v12 : Int32) (x : MS × Int32), G.2 u v5 v6 v8 v12 = some x → ∀ (H : Heap) (locs : List Loc), va_P D cl (wM cB cI cJ cZ cS iM h0 ad u) H → va_D A (wM cB cI cJ cZ cS iM h0 ad u) → va_S A s.heap H locs → ∀ (ls : Array Slot), lv_has ls 13 [(0, .ref h0), (5, .int v5), (6, .long v6), (8, .long v8), (12, .int v12)] → W p l e R s m args below meth c H locs 0 0 (MQ below (mQi D cl cB cI cJ cZ cS iM h0 ad A x) args s 0 0 A) (F0 m 91 ls []))) : ∀ (u : MS) (v5 : Int32) (x : MS × Int32), fb_M_order_17 N G u v5 = some x → ∀ (H : Heap) (locs : List Loc), va_P D cl (wM cB cI cJ cZ cS iM h0 ad u) H → va_D A (wM cB cI cJ cZ cS iM h0 ad u) → va_S A s.heap H locs → ∀ (ls : Array Slot), lv_has ls 13 [(0, .ref h0), (5, .int v5)] → W p l e R s m args below meth c H locs 0 0 (MQ below (mQi D cl cB cI cJ cZ cS iM h0 ad A x) args s 0 0 A) (F0 m 17 ls []) := by
  intro u v5 x hf H locs hP hD hS ls hl
  obtain ⟨hx, hb, hr, hml, ht, hown, hM, hK, hA, hlocks⟩ := id C0
  unfold fb_M_order_17 at hf
  refine lv_iload hx hb d_M_order_17 (lv_at hl 1 rfl) ?_
  refine lv_if_le (tgt := 161) hx hb d_M_order_19 (by decide) (fun hc => ?_) (fun hc => ?_)
  · rw [br_p _ hc] at hf
    refine lv_iconst (v := 0) hx hb d_M_order_161 (by decide) ?_
    exact mr_i C0 hP hD hS hf d_M_order_162
  · rw [br_n _ hc] at hf
    refine lv_aload_n hx hb d_M_order_22 rfl (lv_at hl 0 rfl) ?_
    refine ug_R hx hb ht hown hM hK hP 141 (by decide) lk_M_141 (by decide) d_M_order_23 ?_
    refine lv_iload hx hb d_M_order_26 (lv_at hl 1 rfl) ?_
    refine lv_iconst (v := 1) hx hb d_M_order_28 (by decide) ?_
    refine lv_isub hx hb d_M_order_29 ?_
    obtain ⟨hi9, hf⟩ := ck_some hf
    refine ul_J hx hb hK hP (by decide) (by decide) hi9 d_M_order_30 ?_
    obtain ⟨y8, e8, hf⟩ := lt_some hf
    rw [← e8]
    refine lv_lstore (lv' := [(6, .long y8), (0, .ref h0), (5, .int v5)]) hx hb d_M_order_31 hl (by decide) rfl (fun ls hl => ?_)
    refine lv_aload_n hx hb d_M_order_33 rfl (lv_at hl 1 rfl) ?_
    refine ug_R hx hb ht hown hM hK hP 141 (by decide) lk_M_141 (by decide) d_M_order_34 ?_
    refine lv_iload hx hb d_M_order_37 (lv_at hl 2 rfl) ?_
    refine lv_iconst (v := 2) hx hb d_M_order_39 (by decide) ?_
    refine lv_isub hx hb d_M_order_40 ?_
    obtain ⟨hi9, hf⟩ := ck_some hf
    refine ul_J hx hb hK hP (by decide) (by decide) hi9 d_M_order_41 ?_
    obtain ⟨y9, e9, hf⟩ := lt_some hf
    rw [← e9]
    refine lv_lstore (lv' := [(8, .long y9), (6, .long y8), (0, .ref h0), (5, .int v5)]) hx hb d_M_order_42 hl (by decide) rfl (fun ls hl => ?_)
    refine lv_iinc (v := (v5 + (-2))) (lv' := [(5, .int (v5 + (-2))), (8, .long y9), (6, .long y8), (0, .ref h0)]) hx hb d_M_order_44 hl (k := 3) rfl rfl (by decide) rfl (fun ls hl => ?_)
    refine lv_aload_n hx hb d_M_order_47 rfl (lv_at hl 3 rfl) ?_
    refine lv_lload hx hb d_M_order_48 (lv_at hl 2 rfl) ?_
    refine lv_lload hx hb d_M_order_50 (lv_at hl 1 rfl) ?_
    obtain ⟨u10, r10, hc10, hf⟩ := bnd_some hf
    refine mV_i (As := [.long y8, .long y9]) (rest := []) C0 hP hD hS (c_M_orderOne N hM hc10) k_M_orderOne hl_M_orderOne hi_M_orderOne hs_M_orderOne hini_M rfl rfl hd_M_orderOne rfl (rm_M_order_M_orderOne hR) hl.1 (Nat.le_of_ble_eq_true rfl) d_M_order_52 rfl ⟨Nat.zero_le _, Nat.zero_le _⟩ (fun H locs hP hD hS => ?_)
    refine lv_istore (lv' := [(10, .int r10), (5, .int (v5 + (-2))), (8, .long y9), (6, .long y8), (0, .ref h0)]) hx hb d_M_order_55 hl (by decide) rfl (fun ls hl => ?_)
    refine lv_iload hx hb d_M_order_57 (lv_at hl 0 rfl) ?_
    refine lv_if_eq (tgt := 65) hx hb d_M_order_59 (by decide) (fun hc => ?_) (fun hc => ?_)
    · rw [br_p _ hc] at hf
      refine lv_lload hx hb d_M_order_65 (lv_at hl 3 rfl) ?_
      obtain ⟨u11, r11, hc11, hf⟩ := bnd_some hf
      refine mS_i (As := [.long y8]) (rest := []) C0 hP hD hS (c_M_inHeap N hM hc11) k_M_inHeap hl_M_inHeap ht_M_inHeap hini_M rfl rfl hd_M_inHeap rfl (rm_M_order_M_inHeap hR) hl.1 (Nat.le_of_ble_eq_true rfl) d_M_order_67 rfl ⟨Nat.zero_le _, Nat.zero_le _⟩ (fun H locs hP hD hS => ?_)
      refine lv_if_eq (tgt := 158) hx hb d_M_order_70 (by decide) (fun hc => ?_) (fun hc => ?_)
      · rw [br_p _ hc] at hf
        exact wb_M_order_158 C0 hR N G hG _ _ _ hf H locs hP hD hS ls (lv_sub hl [4, 1] rfl)
      · rw [br_n _ hc] at hf
        refine lv_aload_n hx hb d_M_order_73 rfl (lv_at hl 4 rfl) ?_
        refine lv_aload_n hx hb d_M_order_74 rfl (lv_at hl 4 rfl) ?_
        refine ug_I hx hb ht hown hM hK hP 133 (by decide) lk_M_133 (by decide) d_M_order_75 ?_
        refine lv_lload hx hb d_M_order_78 (lv_at hl 3 rfl) ?_
        obtain ⟨u12, r12, hc12, hf⟩ := bnd_some hf
        refine mV_i (As := [.int (u11.1 133), .long y8]) (rest := []) C0 hP hD hS (c_M_sizeOf N hM hc12) k_M_sizeOf hl_M_sizeOf hi_M_sizeOf hs_M_sizeOf hini_M rfl rfl hd_M_sizeOf rfl (rm_M_order_M_sizeOf hR) hl.1 (Nat.le_of_ble_eq_true rfl) d_M_order_80 rfl ⟨Nat.zero_le _, Nat.zero_le _⟩ (fun H locs hP hD hS => ?_)
        refine lv_istore (lv' := [(11, .int r12), (10, .int r10), (5, .int (v5 + (-2))), (8, .long y9), (6, .long y8), (0, .ref h0)]) hx hb d_M_order_83 hl (by decide) rfl (fun ls hl => ?_)
        refine lv_iload hx hb d_M_order_85 (lv_at hl 0 rfl) ?_
        refine lv_iconst (v := 1) hx hb d_M_order_87 (by decide) ?_
        refine lv_isub hx hb d_M_order_88 ?_
        refine lv_istore (lv' := [(12, .int (r12 - 1)), (11, .int r12), (10, .int r10), (5, .int (v5 + (-2))), (8, .long y9), (6, .long y8), (0, .ref h0)]) hx hb d_M_order_89 hl (by decide) rfl (fun ls hl => ?_)
        exact hG.2 _ _ _ _ _ _ hf H locs hP hD hS ls (lv_sub hl [6, 3, 5, 4, 0] rfl)
    · rw [br_n _ hc] at hf
      refine lv_iload hx hb d_M_order_62 (lv_at hl 0 rfl) ?_
      exact mr_i C0 hP hD hS hf d_M_order_64
def fb_M_order_0 (N : Nat) (G : (MS → Int32 → Option (MS × Int32)) × (MS → Int32 → Int64 → Int64 → Int32 → Option (MS × Int32))) (u : MS) (v1 : Int64) (v3 : Int64) : Option (MS × Int32) := ck (inb (0 : Int32) (ln 141)) (lt (upJ u 141 (vp_updL (u.2.2.2 141) (0 : Int32).toNatClampNeg v3)) (fun w13 => ck (inb (1 : Int32) (ln 141)) (lt (upJ w13 141 (vp_updL (w13.2.2.2 141) (1 : Int32).toNatClampNeg v1)) (fun w14 => G.1 w14 (2)))))
set_option maxRecDepth 100000 in
set_option maxHeartbeats 4000000 in
theorem wb_M_order_0 {p : Program} {l : Launch} {e : Env} {R : Room} {s : State} {m : MethodId} {args : Array Value} {below : List Frame} {meth : Method} {c : Code} {D : va_G} {cl : List vw_C} {cB cI cJ cZ cS : ClassId} {A : Nat → Prop} {iM h0 : Nat} {ad : Nat → Nat} (C0 : MCx p s m args meth c b_M_order 13 (some .int) D cl cB cI cJ cZ cS iM A) (hR : R = rm_M_order) (N : Nat) (G : (MS → Int32 → Option (MS × Int32)) × (MS → Int32 → Int64 → Int64 → Int32 → Option (MS × Int32))) (hG : (∀ (u : MS) (v5 : Int32) (x : MS × Int32), G.1 u v5 = some x → ∀ (H : Heap) (locs : List Loc), va_P D cl (wM cB cI cJ cZ cS iM h0 ad u) H → va_D A (wM cB cI cJ cZ cS iM h0 ad u) → va_S A s.heap H locs → ∀ (ls : Array Slot), lv_has ls 13 [(0, .ref h0), (5, .int v5)] → W p l e R s m args below meth c H locs 0 0 (MQ below (mQi D cl cB cI cJ cZ cS iM h0 ad A x) args s 0 0 A) (F0 m 17 ls [])) ∧ (∀ (u : MS) (v5 : Int32) (v6 : Int64) (v8 : Int64) (v12 : Int32) (x : MS × Int32), G.2 u v5 v6 v8 v12 = some x → ∀ (H : Heap) (locs : List Loc), va_P D cl (wM cB cI cJ cZ cS iM h0 ad u) H → va_D A (wM cB cI cJ cZ cS iM h0 ad u) → va_S A s.heap H locs → ∀ (ls : Array Slot), lv_has ls 13 [(0, .ref h0), (5, .int v5), (6, .long v6), (8, .long v8), (12, .int v12)] → W p l e R s m args below meth c H locs 0 0 (MQ below (mQi D cl cB cI cJ cZ cS iM h0 ad A x) args s 0 0 A) (F0 m 91 ls []))) : ∀ (u : MS) (v1 : Int64) (v3 : Int64) (x : MS × Int32), fb_M_order_0 N G u v1 v3 = some x → ∀ (H : Heap) (locs : List Loc), va_P D cl (wM cB cI cJ cZ cS iM h0 ad u) H → va_D A (wM cB cI cJ cZ cS iM h0 ad u) → va_S A s.heap H locs → ∀ (ls : Array Slot), lv_has ls 13 [(0, .ref h0), (1, .long v1), (3, .long v3)] → W p l e R s m args below meth c H locs 0 0 (MQ below (mQi D cl cB cI cJ cZ cS iM h0 ad A x) args s 0 0 A) (F0 m 0 ls []) := by
  intro u v1 v3 x hf H locs hP hD hS ls hl
  obtain ⟨hx, hb, hr, hml, ht, hown, hM, hK, hA, hlocks⟩ := id C0
  unfold fb_M_order_0 at hf
  refine lv_iconst (v := 2) hx hb d_M_order_0 (by decide) ?_
  refine lv_istore (lv' := [(5, .int 2), (0, .ref h0), (1, .long v1), (3, .long v3)]) hx hb d_M_order_1 hl (by decide) rfl (fun ls hl => ?_)
  refine lv_aload_n hx hb d_M_order_3 rfl (lv_at hl 1 rfl) ?_
  refine ug_R hx hb ht hown hM hK hP 141 (by decide) lk_M_141 (by decide) d_M_order_4 ?_
  refine lv_iconst (v := 0) hx hb d_M_order_7 (by decide) ?_
  refine lv_lload_n hx hb d_M_order_8 rfl (lv_at hl 3 rfl) ?_
  obtain ⟨hi9, hf⟩ := ck_some hf
  refine us_J hx hb hK hP hD hS (by decide) (by decide) hi9 d_M_order_9 (fun H locs hP hD hS => ?_)
  obtain ⟨w13, e13, hf⟩ := lt_some hf
  rw [← e13] at hP hD
  refine lv_aload_n hx hb d_M_order_10 rfl (lv_at hl 1 rfl) ?_
  refine ug_R hx hb ht hown hM hK hP 141 (by decide) lk_M_141 (by decide) d_M_order_11 ?_
  refine lv_iconst (v := 1) hx hb d_M_order_14 (by decide) ?_
  refine lv_lload_n hx hb d_M_order_15 rfl (lv_at hl 2 rfl) ?_
  obtain ⟨hi9, hf⟩ := ck_some hf
  refine us_J hx hb hK hP hD hS (by decide) (by decide) hi9 d_M_order_16 (fun H locs hP hD hS => ?_)
  obtain ⟨w14, e14, hf⟩ := lt_some hf
  rw [← e14] at hP hD
  exact hG.1 _ _ _ hf H locs hP hD hS ls (lv_sub hl [1, 0] rfl)
def gg_M_order (N : Nat) : Nat → ((MS → Int32 → Option (MS × Int32)) × (MS → Int32 → Int64 → Int64 → Int32 → Option (MS × Int32)))
  | 0 => (fun _ _ => none, fun _ _ _ _ _ => none)
  | n + 1 => (fb_M_order_17 N (gg_M_order N n), fb_M_order_91 N (gg_M_order N n))
theorem wg_M_order {p : Program} {l : Launch} {e : Env} {R : Room} {s : State} {m : MethodId} {args : Array Value} {below : List Frame} {meth : Method} {c : Code} {D : va_G} {cl : List vw_C} {cB cI cJ cZ cS : ClassId} {A : Nat → Prop} {iM h0 : Nat} {ad : Nat → Nat} (C0 : MCx p s m args meth c b_M_order 13 (some .int) D cl cB cI cJ cZ cS iM A) (hR : R = rm_M_order) (N : Nat) : ∀ n : Nat, (∀ (u : MS) (v5 : Int32) (x : MS × Int32), (gg_M_order N n).1 u v5 = some x → ∀ (H : Heap) (locs : List Loc), va_P D cl (wM cB cI cJ cZ cS iM h0 ad u) H → va_D A (wM cB cI cJ cZ cS iM h0 ad u) → va_S A s.heap H locs → ∀ (ls : Array Slot), lv_has ls 13 [(0, .ref h0), (5, .int v5)] → W p l e R s m args below meth c H locs 0 0 (MQ below (mQi D cl cB cI cJ cZ cS iM h0 ad A x) args s 0 0 A) (F0 m 17 ls [])) ∧ (∀ (u : MS) (v5 : Int32) (v6 : Int64) (v8 : Int64) (v12 : Int32) (x : MS × Int32), (gg_M_order N n).2 u v5 v6 v8 v12 = some x → ∀ (H : Heap) (locs : List Loc), va_P D cl (wM cB cI cJ cZ cS iM h0 ad u) H → va_D A (wM cB cI cJ cZ cS iM h0 ad u) → va_S A s.heap H locs → ∀ (ls : Array Slot), lv_has ls 13 [(0, .ref h0), (5, .int v5), (6, .long v6), (8, .long v8), (12, .int v12)] → W p l e R s m args below meth c H locs 0 0 (MQ below (mQi D cl cB cI cJ cZ cS iM h0 ad A x) args s 0 0 A) (F0 m 91 ls []))
  | 0 => ⟨(fun u v5 x hf => by cases hf), (fun u v5 v6 v8 v12 x hf => by cases hf)⟩
  | n + 1 => ⟨wb_M_order_17 C0 hR N (gg_M_order N n) (wg_M_order C0 hR N n), wb_M_order_91 C0 hR N (gg_M_order N n) (wg_M_order C0 hR N n)⟩
def fm_M_order (N : Nat) (u : MS) (v1 : Int64) (v3 : Int64) : Option (MS × Int32) := fb_M_order_0 N (gg_M_order N N) u v1 v3
set_option maxRecDepth 100000 in
set_option maxHeartbeats 4000000 in
theorem c_M_order (N : Nat) {l : Launch} {D : va_G} {cl : List vw_C} {cB cI cJ cZ cS : ClassId} {iM h0 : Nat} {ad : Nat → Nat} {u : MS} {sz : Nat} {v1 : Int64} {v3 : Int64} {x : MS × Int32} (hM : cl[iM]? = some (R_M, F_M, 171)) (hf : fm_M_order N u v1 v3 = some x) : Met l y_M_order (wd_ws y_M_order b_M_order 13 (some .int)) rm_M_order (mPc D cl cB cI cJ cZ cS iM h0 ad u sz [.ref h0, .long v1, .long v3]) (mQi D cl cB cI cJ cZ cS iM h0 ad (mA cB cI cJ cZ cS iM h0 ad u sz) x) 0 0 (mA cB cI cJ cZ cS iM h0 ad u sz) :=
  mMet (by decide) rfl hM (Nat.le_of_ble_eq_true rfl) (fun p e s m below meth c ls hsz C0 hP hD hS hl => by
    have hR : rm_M_order = rm_M_order := rfl
    exact wb_M_order_0 C0 hR N (gg_M_order N N) (wg_M_order C0 hR N N) u _ _ x hf s.heap [] hP hD hS ls (lv_sub hl [0, 1, 2] rfl))
abbrev b_M_sign : ByteArray := prog_14_method_97_code
def y_M_sign : MethodName := ⟨R_M, "sign", "(I)V"⟩
def w_M_sign : List Cond := wd_ws y_M_sign b_M_sign 2 none
set_option maxRecDepth 100000 in
theorem k_M_sign : Cond.code y_M_sign b_M_sign 2 none ∈ wd_tbl := wd_of 3122 rfl rfl
theorem d_M_sign_0 : decode b_M_sign 0 = .ok (.aload_n 0, 1) := by decide +kernel
theorem d_M_sign_1 : decode b_M_sign 1 = .ok (.getfield 724, 3) := by decide +kernel
theorem d_M_sign_4 : decode b_M_sign 4 = .ok (.bipush 100, 2) := by decide +kernel
theorem d_M_sign_6 : decode b_M_sign 6 = .ok (.if_icmp .ge 14, 3) := by decide +kernel
theorem d_M_sign_9 : decode b_M_sign 9 = .ok (.aload_n 0, 1) := by decide +kernel
theorem d_M_sign_10 : decode b_M_sign 10 = .ok (.getfield 333, 3) := by decide +kernel
theorem d_M_sign_13 : decode b_M_sign 13 = .ok (.aload_n 0, 1) := by decide +kernel
theorem d_M_sign_14 : decode b_M_sign 14 = .ok (.getfield 724, 3) := by decide +kernel
theorem d_M_sign_17 : decode b_M_sign 17 = .ok (.iload_n 1, 1) := by decide +kernel
theorem d_M_sign_18 : decode b_M_sign 18 = .ok (.i2b, 1) := by decide +kernel
theorem d_M_sign_19 : decode b_M_sign 19 = .ok (.bastore, 1) := by decide +kernel
theorem d_M_sign_20 : decode b_M_sign 20 = .ok (.aload_n 0, 1) := by decide +kernel
theorem d_M_sign_21 : decode b_M_sign 21 = .ok (.dup, 1) := by decide +kernel
theorem d_M_sign_22 : decode b_M_sign 22 = .ok (.getfield 724, 3) := by decide +kernel
theorem d_M_sign_25 : decode b_M_sign 25 = .ok (.iconst 1, 1) := by decide +kernel
theorem d_M_sign_26 : decode b_M_sign 26 = .ok (.iadd, 1) := by decide +kernel
theorem d_M_sign_27 : decode b_M_sign 27 = .ok (.putfield 724, 3) := by decide +kernel
theorem d_M_sign_30 : decode b_M_sign 30 = .ok (.return_, 1) := by decide +kernel
set_option maxRecDepth 100000 in
theorem hl_M_sign : Cond.methodLink R_M 727 y_M_sign ∈ wd_tbl := wd_of 3119 (by decide +kernel) rfl
set_option maxRecDepth 100000 in
theorem hi_M_sign : Cond.instanceMethod y_M_sign ∈ wd_tbl := wd_of 3121 (by decide +kernel) rfl
set_option maxRecDepth 100000 in
theorem hs_M_sign : Cond.selects R_M y_M_sign y_M_sign ∈ wd_tbl := wd_of 235 (by decide +kernel) rfl
theorem hd_M_sign : y_M_sign.cls = R_M ∧ y_M_sign.cls ≠ "java/lang/invoke/MethodHandle" ∧ y_M_sign.cls ≠ "java/lang/invoke/VarHandle" ∧ (parseMethodDescriptor y_M_sign.desc).map (fun d => d.parameters.length) = some 1 := by decide +kernel
def rm_M_sign : Room := { frames := 0, cells := 0, slots := 0, locals := 0 }
def fb_M_sign_20 (N : Nat) (G : Unit) (u : MS) : Option (MS × Unit) := lt (upI u 144 ((u.1 144) + 1)) (fun w1 => some (w1, ()))
set_option maxRecDepth 100000 in
set_option maxHeartbeats 4000000 in
theorem wb_M_sign_20 {p : Program} {l : Launch} {e : Env} {R : Room} {s : State} {m : MethodId} {args : Array Value} {below : List Frame} {meth : Method} {c : Code} {D : va_G} {cl : List vw_C} {cB cI cJ cZ cS : ClassId} {A : Nat → Prop} {iM h0 : Nat} {ad : Nat → Nat} (C0 : MCx p s m args meth c b_M_sign 2 none D cl cB cI cJ cZ cS iM A) (hR : R = rm_M_sign) (N : Nat) (G : Unit) (hG : True) : ∀ (u : MS) (x : MS × Unit), fb_M_sign_20 N G u = some x → ∀ (H : Heap) (locs : List Loc), va_P D cl (wM cB cI cJ cZ cS iM h0 ad u) H → va_D A (wM cB cI cJ cZ cS iM h0 ad u) → va_S A s.heap H locs → ∀ (ls : Array Slot), lv_has ls 2 [(0, .ref h0)] → W p l e R s m args below meth c H locs 0 0 (MQ below (mQv D cl cB cI cJ cZ cS iM h0 ad A x) args s 0 0 A) (F0 m 20 ls []) := by
  intro u x hf H locs hP hD hS ls hl
  obtain ⟨hx, hb, hr, hml, ht, hown, hM, hK, hA, hlocks⟩ := id C0
  unfold fb_M_sign_20 at hf
  refine lv_aload_n hx hb d_M_sign_20 rfl (lv_at hl 0 rfl) ?_
  refine lv_dup hx hb d_M_sign_21 rfl ?_
  refine ug_I hx hb ht hown hM hK hP 144 (by decide) lk_M_144 (by decide) d_M_sign_22 ?_
  refine lv_iconst (v := 1) hx hb d_M_sign_25 (by decide) ?_
  refine lv_iadd hx hb d_M_sign_26 ?_
  refine up_I hx hb ht hown hM hK hP hD hS 144 (by decide) lk_M_144 (by decide) rfl rfl rfl d_M_sign_27 (fun H locs hP hD hS => ?_)
  obtain ⟨w1, e1, hf⟩ := lt_some hf
  rw [← e1] at hP hD
  exact mr_v C0 hP hD hS hf d_M_sign_30
def fb_M_sign_0 (N : Nat) (G : Unit) (u : MS) (v1 : Int32) : Option (MS × Unit) := br (decide (100 ≤ (u.1 144))) (fb_M_sign_20 N G u) (ck (inb (u.1 144) (ln 143)) (lt (upA u 143 (upd (u.2.2.1 143) (u.1 144).toNatClampNeg (vp_nar .byte (v1.toInt8.toInt32)))) (fun w2 => fb_M_sign_20 N G w2)))
set_option maxRecDepth 100000 in
set_option maxHeartbeats 4000000 in
theorem wb_M_sign_0 {p : Program} {l : Launch} {e : Env} {R : Room} {s : State} {m : MethodId} {args : Array Value} {below : List Frame} {meth : Method} {c : Code} {D : va_G} {cl : List vw_C} {cB cI cJ cZ cS : ClassId} {A : Nat → Prop} {iM h0 : Nat} {ad : Nat → Nat} (C0 : MCx p s m args meth c b_M_sign 2 none D cl cB cI cJ cZ cS iM A) (hR : R = rm_M_sign) (N : Nat) (G : Unit) (hG : True) : ∀ (u : MS) (v1 : Int32) (x : MS × Unit), fb_M_sign_0 N G u v1 = some x → ∀ (H : Heap) (locs : List Loc), va_P D cl (wM cB cI cJ cZ cS iM h0 ad u) H → va_D A (wM cB cI cJ cZ cS iM h0 ad u) → va_S A s.heap H locs → ∀ (ls : Array Slot), lv_has ls 2 [(0, .ref h0), (1, .int v1)] → W p l e R s m args below meth c H locs 0 0 (MQ below (mQv D cl cB cI cJ cZ cS iM h0 ad A x) args s 0 0 A) (F0 m 0 ls []) := by
  intro u v1 x hf H locs hP hD hS ls hl
  obtain ⟨hx, hb, hr, hml, ht, hown, hM, hK, hA, hlocks⟩ := id C0
  unfold fb_M_sign_0 at hf
  refine lv_aload_n hx hb d_M_sign_0 rfl (lv_at hl 0 rfl) ?_
  refine ug_I hx hb ht hown hM hK hP 144 (by decide) lk_M_144 (by decide) d_M_sign_1 ?_
  refine lv_bipush (v := 100) hx hb d_M_sign_4 (by decide) ?_
  refine lv_icmp_ge (tgt := 20) hx hb d_M_sign_6 (by decide) (fun hc => ?_) (fun hc => ?_)
  · rw [br_p _ hc] at hf
    exact wb_M_sign_20 C0 hR N G hG _ _ hf H locs hP hD hS ls (lv_sub hl [0] rfl)
  · rw [br_n _ hc] at hf
    refine lv_aload_n hx hb d_M_sign_9 rfl (lv_at hl 0 rfl) ?_
    refine ug_R hx hb ht hown hM hK hP 143 (by decide) lk_M_143 (by decide) d_M_sign_10 ?_
    refine lv_aload_n hx hb d_M_sign_13 rfl (lv_at hl 0 rfl) ?_
    refine ug_I hx hb ht hown hM hK hP 144 (by decide) lk_M_144 (by decide) d_M_sign_14 ?_
    refine lv_iload_n hx hb d_M_sign_17 rfl (lv_at hl 1 rfl) ?_
    refine lv_i2b hx hb d_M_sign_18 rfl ?_
    obtain ⟨hi9, hf⟩ := ck_some hf
    refine us_B hx hb hK hP hD hS (by decide) (by decide) hi9 d_M_sign_19 (fun H locs hP hD hS => ?_)
    obtain ⟨w2, e2, hf⟩ := lt_some hf
    rw [← e2] at hP hD
    exact wb_M_sign_20 C0 hR N G hG _ _ hf H locs hP hD hS ls (lv_sub hl [0] rfl)
def fm_M_sign (N : Nat) (u : MS) (v1 : Int32) : Option (MS × Unit) := fb_M_sign_0 N () u v1
set_option maxRecDepth 100000 in
set_option maxHeartbeats 4000000 in
theorem c_M_sign (N : Nat) {l : Launch} {D : va_G} {cl : List vw_C} {cB cI cJ cZ cS : ClassId} {iM h0 : Nat} {ad : Nat → Nat} {u : MS} {sz : Nat} {v1 : Int32} {x : MS × Unit} (hM : cl[iM]? = some (R_M, F_M, 171)) (hf : fm_M_sign N u v1 = some x) : Met l y_M_sign (wd_ws y_M_sign b_M_sign 2 none) rm_M_sign (mPc D cl cB cI cJ cZ cS iM h0 ad u sz [.ref h0, .int v1]) (mQv D cl cB cI cJ cZ cS iM h0 ad (mA cB cI cJ cZ cS iM h0 ad u sz) x) 0 0 (mA cB cI cJ cZ cS iM h0 ad u sz) :=
  mMet (by decide) rfl hM (Nat.le_of_ble_eq_true rfl) (fun p e s m below meth c ls hsz C0 hP hD hS hl => by
    have hR : rm_M_sign = rm_M_sign := rfl
    exact wb_M_sign_0 C0 hR N () trivial u _ x hf s.heap [] hP hD hS ls (lv_sub hl [0, 1] rfl))
abbrev b_M_digits : ByteArray := prog_14_method_98_code
def y_M_digits : MethodName := ⟨R_M, "digits", "(I)V"⟩
def w_M_digits : List Cond := wd_ws y_M_digits b_M_digits 6 none
set_option maxRecDepth 100000 in
theorem k_M_digits : Cond.code y_M_digits b_M_digits 6 none ∈ wd_tbl := wd_of 3130 rfl rfl
theorem d_M_digits_0 : decode b_M_digits 0 = .ok (.iload_n 1, 1) := by decide +kernel
theorem d_M_digits_1 : decode b_M_digits 1 = .ok (.ifCond .ge 9, 3) := by decide +kernel
theorem d_M_digits_4 : decode b_M_digits 4 = .ok (.iload_n 1, 1) := by decide +kernel
theorem d_M_digits_5 : decode b_M_digits 5 = .ok (.i2l, 1) := by decide +kernel
theorem d_M_digits_6 : decode b_M_digits 6 = .ok (.lneg, 1) := by decide +kernel
theorem d_M_digits_7 : decode b_M_digits 7 = .ok (.goto 5, 3) := by decide +kernel
theorem d_M_digits_10 : decode b_M_digits 10 = .ok (.iload_n 1, 1) := by decide +kernel
theorem d_M_digits_11 : decode b_M_digits 11 = .ok (.i2l, 1) := by decide +kernel
theorem d_M_digits_12 : decode b_M_digits 12 = .ok (.lstore_n 2, 1) := by decide +kernel
theorem d_M_digits_13 : decode b_M_digits 13 = .ok (.lconst 1, 1) := by decide +kernel
theorem d_M_digits_14 : decode b_M_digits 14 = .ok (.lstore 4, 2) := by decide +kernel
theorem d_M_digits_16 : decode b_M_digits 16 = .ok (.lload 4, 2) := by decide +kernel
theorem d_M_digits_18 : decode b_M_digits 18 = .ok (.ldc2_w 444, 3) := by decide +kernel
theorem d_M_digits_21 : decode b_M_digits 21 = .ok (.lmul, 1) := by decide +kernel
theorem d_M_digits_22 : decode b_M_digits 22 = .ok (.lload_n 2, 1) := by decide +kernel
theorem d_M_digits_23 : decode b_M_digits 23 = .ok (.lcmp, 1) := by decide +kernel
theorem d_M_digits_24 : decode b_M_digits 24 = .ok (.ifCond .gt 14, 3) := by decide +kernel
theorem d_M_digits_27 : decode b_M_digits 27 = .ok (.lload 4, 2) := by decide +kernel
theorem d_M_digits_29 : decode b_M_digits 29 = .ok (.ldc2_w 444, 3) := by decide +kernel
theorem d_M_digits_32 : decode b_M_digits 32 = .ok (.lmul, 1) := by decide +kernel
theorem d_M_digits_33 : decode b_M_digits 33 = .ok (.lstore 4, 2) := by decide +kernel
theorem d_M_digits_35 : decode b_M_digits 35 = .ok (.goto (-19), 3) := by decide +kernel
theorem d_M_digits_38 : decode b_M_digits 38 = .ok (.iload_n 1, 1) := by decide +kernel
theorem d_M_digits_39 : decode b_M_digits 39 = .ok (.ifCond .ge 9, 3) := by decide +kernel
theorem d_M_digits_42 : decode b_M_digits 42 = .ok (.aload_n 0, 1) := by decide +kernel
theorem d_M_digits_43 : decode b_M_digits 43 = .ok (.bipush 45, 2) := by decide +kernel
theorem d_M_digits_45 : decode b_M_digits 45 = .ok (.invokevirtual 727, 3) := by decide +kernel
theorem d_M_digits_48 : decode b_M_digits 48 = .ok (.lload 4, 2) := by decide +kernel
theorem d_M_digits_50 : decode b_M_digits 50 = .ok (.lconst 0, 1) := by decide +kernel
theorem d_M_digits_51 : decode b_M_digits 51 = .ok (.lcmp, 1) := by decide +kernel
theorem d_M_digits_52 : decode b_M_digits 52 = .ok (.ifCond .le 31, 3) := by decide +kernel
theorem d_M_digits_55 : decode b_M_digits 55 = .ok (.aload_n 0, 1) := by decide +kernel
theorem d_M_digits_56 : decode b_M_digits 56 = .ok (.ldc2_w 446, 3) := by decide +kernel
theorem d_M_digits_59 : decode b_M_digits 59 = .ok (.lload_n 2, 1) := by decide +kernel
theorem d_M_digits_60 : decode b_M_digits 60 = .ok (.lload 4, 2) := by decide +kernel
theorem d_M_digits_62 : decode b_M_digits 62 = .ok (.ldiv, 1) := by decide +kernel
theorem d_M_digits_63 : decode b_M_digits 63 = .ok (.ldc2_w 444, 3) := by decide +kernel
theorem d_M_digits_66 : decode b_M_digits 66 = .ok (.lrem, 1) := by decide +kernel
theorem d_M_digits_67 : decode b_M_digits 67 = .ok (.ladd, 1) := by decide +kernel
theorem d_M_digits_68 : decode b_M_digits 68 = .ok (.l2i, 1) := by decide +kernel
theorem d_M_digits_69 : decode b_M_digits 69 = .ok (.invokevirtual 727, 3) := by decide +kernel
theorem d_M_digits_72 : decode b_M_digits 72 = .ok (.lload 4, 2) := by decide +kernel
theorem d_M_digits_74 : decode b_M_digits 74 = .ok (.ldc2_w 444, 3) := by decide +kernel
theorem d_M_digits_77 : decode b_M_digits 77 = .ok (.ldiv, 1) := by decide +kernel
theorem d_M_digits_78 : decode b_M_digits 78 = .ok (.lstore 4, 2) := by decide +kernel
theorem d_M_digits_80 : decode b_M_digits 80 = .ok (.goto (-32), 3) := by decide +kernel
theorem d_M_digits_83 : decode b_M_digits 83 = .ok (.return_, 1) := by decide +kernel
set_option maxRecDepth 100000 in
theorem hl_M_digits : Cond.methodLink R_M 737 y_M_digits ∈ wd_tbl := wd_of 3127 (by decide +kernel) rfl
set_option maxRecDepth 100000 in
theorem hi_M_digits : Cond.instanceMethod y_M_digits ∈ wd_tbl := wd_of 3129 (by decide +kernel) rfl
set_option maxRecDepth 100000 in
theorem hs_M_digits : Cond.selects R_M y_M_digits y_M_digits ∈ wd_tbl := wd_of 237 (by decide +kernel) rfl
theorem hd_M_digits : y_M_digits.cls = R_M ∧ y_M_digits.cls ≠ "java/lang/invoke/MethodHandle" ∧ y_M_digits.cls ≠ "java/lang/invoke/VarHandle" ∧ (parseMethodDescriptor y_M_digits.desc).map (fun d => d.parameters.length) = some 1 := by decide +kernel
def rm_M_digits : Room := { frames := 1, cells := 0, slots := 0, locals := 21 }
theorem rm_M_digits_M_sign {R : Room} (hR : R = rm_M_digits) : (rm_M_sign).frames + 1 ≤ R.frames ∧ 8 + (2 + 11) + (rm_M_sign).locals ≤ R.locals := by subst hR; decide
def fb_M_digits_48 (N : Nat) (G : (MS → Int32 → Int64 → Int64 → Option (MS × Unit)) × (MS → Int64 → Int64 → Option (MS × Unit))) (u : MS) (v2 : Int64) (v4 : Int64) : Option (MS × Unit) := br (decide ((lg_cmp v4 0) ≤ 0)) (some (u, ())) (ck (decide (¬ v4 = 0)) (ck (decide (¬ 10 = 0)) (bnd (fm_M_sign N u ((48 + ((v2 / v4) - (v2 / v4) / 10 * 10)).toInt32)) (fun u1 _ => ck (decide (¬ 10 = 0)) (G.2 u1 (v2) ((v4 / 10)))))))
set_option maxRecDepth 100000 in
set_option maxHeartbeats 4000000 in
theorem wb_M_digits_48 {p : Program} {l : Launch} {e : Env} {R : Room} {s : State} {m : MethodId} {args : Array Value} {below : List Frame} {meth : Method} {c : Code} {D : va_G} {cl : List vw_C} {cB cI cJ cZ cS : ClassId} {A : Nat → Prop} {iM h0 : Nat} {ad : Nat → Nat} (C0 : MCx p s m args meth c b_M_digits 6 none D cl cB cI cJ cZ cS iM A) (hR : R = rm_M_digits) (N : Nat) (G : (MS → Int32 → Int64 → Int64 → Option (MS × Unit)) × (MS → Int64 → Int64 → Option (MS × Unit))) (hG : (∀ (u : MS) (v1 : Int32) (v2 : Int64) (v4 : Int64) (x : MS × Unit), G.1 u v1 v2 v4 = some x → ∀ (H : Heap) (locs : List Loc), va_P D cl (wM cB cI cJ cZ cS iM h0 ad u) H → va_D A (wM cB cI cJ cZ cS iM h0 ad u) → va_S A s.heap H locs → ∀ (ls : Array Slot), lv_has ls 6 [(0, .ref h0), (1, .int v1), (2, .long v2), (4, .long v4)] → W p l e R s m args below meth c H locs 0 0 (MQ below (mQv D cl cB cI cJ cZ cS iM h0 ad A x) args s 0 0 A) (F0 m 16 ls [])) ∧ (∀ (u : MS) (v2 : Int64) (v4 : Int64) (x : MS × Unit), G.2 u v2 v4 = some x → ∀ (H : Heap) (locs : List Loc), va_P D cl (wM cB cI cJ cZ cS iM h0 ad u) H → va_D A (wM cB cI cJ cZ cS iM h0 ad u) → va_S A s.heap H locs → ∀ (ls : Array Slot), lv_has ls 6 [(0, .ref h0), (2, .long v2), (4, .long v4)] → W p l e R s m args below meth c H locs 0 0 (MQ below (mQv D cl cB cI cJ cZ cS iM h0 ad A x) args s 0 0 A) (F0 m 48 ls []))) : ∀ (u : MS) (v2 : Int64) (v4 : Int64) (x : MS × Unit), fb_M_digits_48 N G u v2 v4 = some x → ∀ (H : Heap) (locs : List Loc), va_P D cl (wM cB cI cJ cZ cS iM h0 ad u) H → va_D A (wM cB cI cJ cZ cS iM h0 ad u) → va_S A s.heap H locs → ∀ (ls : Array Slot), lv_has ls 6 [(0, .ref h0), (2, .long v2), (4, .long v4)] → W p l e R s m args below meth c H locs 0 0 (MQ below (mQv D cl cB cI cJ cZ cS iM h0 ad A x) args s 0 0 A) (F0 m 48 ls []) := by
  intro u v2 v4 x hf H locs hP hD hS ls hl
  obtain ⟨hx, hb, hr, hml, ht, hown, hM, hK, hA, hlocks⟩ := id C0
  unfold fb_M_digits_48 at hf
  refine lv_lload hx hb d_M_digits_48 (lv_at hl 2 rfl) ?_
  refine lv_lconst (v := 0) hx hb d_M_digits_50 (by decide) ?_
  refine W.lcmp hx hb d_M_digits_51 ?_
  refine lv_if_le (tgt := 83) hx hb d_M_digits_52 (by decide) (fun hc => ?_) (fun hc => ?_)
  · rw [br_p _ hc] at hf
    exact mr_v C0 hP hD hS hf d_M_digits_83
  · rw [br_n _ hc] at hf
    refine lv_aload_n hx hb d_M_digits_55 rfl (lv_at hl 0 rfl) ?_
    refine lv_ldc2 (v := 48) hx hb hown (ht _ (wd_of 2683 (by decide +kernel) rfl)) d_M_digits_56 ?_
    refine lv_lload_n hx hb d_M_digits_59 rfl (lv_at hl 1 rfl) ?_
    refine lv_lload hx hb d_M_digits_60 (lv_at hl 2 rfl) ?_
    obtain ⟨hn9, hf⟩ := ck_some hf
    refine lv_ldiv hx hb d_M_digits_62 (of_decide_eq_true hn9) ?_
    refine lv_ldc2 (v := 10) hx hb hown (ht _ (wd_of 2682 (by decide +kernel) rfl)) d_M_digits_63 ?_
    obtain ⟨hn9, hf⟩ := ck_some hf
    refine lv_lrem hx hb d_M_digits_66 (of_decide_eq_true hn9) ?_
    refine lv_ladd hx hb d_M_digits_67 ?_
    refine lv_l2i hx hb d_M_digits_68 rfl ?_
    obtain ⟨u1, r1, hc1, hf⟩ := bnd_some hf
    refine mV_v (As := [.int (48 + ((v2 / v4) - (v2 / v4) / 10 * 10)).toInt32]) (rest := []) C0 hP hD hS (c_M_sign N hM hc1) k_M_sign hl_M_sign hi_M_sign hs_M_sign hini_M rfl rfl hd_M_sign rfl (rm_M_digits_M_sign hR) hl.1 (Nat.le_of_ble_eq_true rfl) d_M_digits_69 rfl ⟨Nat.zero_le _, Nat.zero_le _⟩ (fun H locs hP hD hS => ?_)
    refine lv_lload hx hb d_M_digits_72 (lv_at hl 2 rfl) ?_
    refine lv_ldc2 (v := 10) hx hb hown (ht _ (wd_of 2682 (by decide +kernel) rfl)) d_M_digits_74 ?_
    obtain ⟨hn9, hf⟩ := ck_some hf
    refine lv_ldiv hx hb d_M_digits_77 (of_decide_eq_true hn9) ?_
    refine lv_lstore (lv' := [(4, .long (v4 / 10)), (0, .ref h0), (2, .long v2)]) hx hb d_M_digits_78 hl (by decide) rfl (fun ls hl => ?_)
    refine lv_goto (tgt := 48) hx hb d_M_digits_80 (by decide) ?_
    exact hG.2 _ _ _ _ hf H locs hP hD hS ls (lv_sub hl [1, 2, 0] rfl)
def fb_M_digits_16 (N : Nat) (G : (MS → Int32 → Int64 → Int64 → Option (MS × Unit)) × (MS → Int64 → Int64 → Option (MS × Unit))) (u : MS) (v1 : Int32) (v2 : Int64) (v4 : Int64) : Option (MS × Unit) := br (decide (0 < (lg_cmp (v4 * 10) v2))) (br (decide (0 ≤ v1)) (G.2 u (v2) (v4)) (bnd (fm_M_sign N u 45) (fun u2 _ => G.2 u2 (v2) (v4)))) (G.1 u (v1) (v2) ((v4 * 10)))
set_option maxRecDepth 100000 in
set_option maxHeartbeats 4000000 in
theorem wb_M_digits_16 {p : Program} {l : Launch} {e : Env} {R : Room} {s : State} {m : MethodId} {args : Array Value} {below : List Frame} {meth : Method} {c : Code} {D : va_G} {cl : List vw_C} {cB cI cJ cZ cS : ClassId} {A : Nat → Prop} {iM h0 : Nat} {ad : Nat → Nat} (C0 : MCx p s m args meth c b_M_digits 6 none D cl cB cI cJ cZ cS iM A) (hR : R = rm_M_digits) (N : Nat) (G : (MS → Int32 → Int64 → Int64 → Option (MS × Unit)) × (MS → Int64 → Int64 → Option (MS × Unit))) (hG : (∀ (u : MS) (v1 : Int32) (v2 : Int64) (v4 : Int64) (x : MS × Unit), G.1 u v1 v2 v4 = some x → ∀ (H : Heap) (locs : List Loc), va_P D cl (wM cB cI cJ cZ cS iM h0 ad u) H → va_D A (wM cB cI cJ cZ cS iM h0 ad u) → va_S A s.heap H locs → ∀ (ls : Array Slot), lv_has ls 6 [(0, .ref h0), (1, .int v1), (2, .long v2), (4, .long v4)] → W p l e R s m args below meth c H locs 0 0 (MQ below (mQv D cl cB cI cJ cZ cS iM h0 ad A x) args s 0 0 A) (F0 m 16 ls [])) ∧ (∀ (u : MS) (v2 : Int64) (v4 : Int64) (x : MS × Unit), G.2 u v2 v4 = some x → ∀ (H : Heap) (locs : List Loc), va_P D cl (wM cB cI cJ cZ cS iM h0 ad u) H → va_D A (wM cB cI cJ cZ cS iM h0 ad u) → va_S A s.heap H locs → ∀ (ls : Array Slot), lv_has ls 6 [(0, .ref h0), (2, .long v2), (4, .long v4)] → W p l e R s m args below meth c H locs 0 0 (MQ below (mQv D cl cB cI cJ cZ cS iM h0 ad A x) args s 0 0 A) (F0 m 48 ls []))) : ∀ (u : MS) (v1 : Int32) (v2 : Int64) (v4 : Int64) (x : MS × Unit), fb_M_digits_16 N G u v1 v2 v4 = some x → ∀ (H : Heap) (locs : List Loc), va_P D cl (wM cB cI cJ cZ cS iM h0 ad u) H → va_D A (wM cB cI cJ cZ cS iM h0 ad u) → va_S A s.heap H locs → ∀ (ls : Array Slot), lv_has ls 6 [(0, .ref h0), (1, .int v1), (2, .long v2), (4, .long v4)] → W p l e R s m args below meth c H locs 0 0 (MQ below (mQv D cl cB cI cJ cZ cS iM h0 ad A x) args s 0 0 A) (F0 m 16 ls []) := by
  intro u v1 v2 v4 x hf H locs hP hD hS ls hl
  obtain ⟨hx, hb, hr, hml, ht, hown, hM, hK, hA, hlocks⟩ := id C0
  unfold fb_M_digits_16 at hf
  refine lv_lload hx hb d_M_digits_16 (lv_at hl 3 rfl) ?_
  refine lv_ldc2 (v := 10) hx hb hown (ht _ (wd_of 2682 (by decide +kernel) rfl)) d_M_digits_18 ?_
  refine lv_lmul hx hb d_M_digits_21 ?_
  refine lv_lload_n hx hb d_M_digits_22 rfl (lv_at hl 2 rfl) ?_
  refine W.lcmp hx hb d_M_digits_23 ?_
  refine lv_if_gt (tgt := 38) hx hb d_M_digits_24 (by decide) (fun hc => ?_) (fun hc => ?_)
  · rw [br_p _ hc] at hf
    refine lv_iload_n hx hb d_M_digits_38 rfl (lv_at hl 1 rfl) ?_
    refine lv_if_ge (tgt := 48) hx hb d_M_digits_39 (by decide) (fun hc => ?_) (fun hc => ?_)
    · rw [br_p _ hc] at hf
      exact hG.2 _ _ _ _ hf H locs hP hD hS ls (lv_sub hl [0, 2, 3] rfl)
    · rw [br_n _ hc] at hf
      refine lv_aload_n hx hb d_M_digits_42 rfl (lv_at hl 0 rfl) ?_
      refine lv_bipush (v := 45) hx hb d_M_digits_43 (by decide) ?_
      obtain ⟨u2, r2, hc2, hf⟩ := bnd_some hf
      refine mV_v (As := [.int 45]) (rest := []) C0 hP hD hS (c_M_sign N hM hc2) k_M_sign hl_M_sign hi_M_sign hs_M_sign hini_M rfl rfl hd_M_sign rfl (rm_M_digits_M_sign hR) hl.1 (Nat.le_of_ble_eq_true rfl) d_M_digits_45 rfl ⟨Nat.zero_le _, Nat.zero_le _⟩ (fun H locs hP hD hS => ?_)
      exact hG.2 _ _ _ _ hf H locs hP hD hS ls (lv_sub hl [0, 2, 3] rfl)
  · rw [br_n _ hc] at hf
    refine lv_lload hx hb d_M_digits_27 (lv_at hl 3 rfl) ?_
    refine lv_ldc2 (v := 10) hx hb hown (ht _ (wd_of 2682 (by decide +kernel) rfl)) d_M_digits_29 ?_
    refine lv_lmul hx hb d_M_digits_32 ?_
    refine lv_lstore (lv' := [(4, .long (v4 * 10)), (0, .ref h0), (1, .int v1), (2, .long v2)]) hx hb d_M_digits_33 hl (by decide) rfl (fun ls hl => ?_)
    refine lv_goto (tgt := 16) hx hb d_M_digits_35 (by decide) ?_
    exact hG.1 _ _ _ _ _ hf H locs hP hD hS ls (lv_sub hl [1, 2, 3, 0] rfl)
def fb_M_digits_12 (N : Nat) (G : (MS → Int32 → Int64 → Int64 → Option (MS × Unit)) × (MS → Int64 → Int64 → Option (MS × Unit))) (u : MS) (v1 : Int32) (t0 : Int64) : Option (MS × Unit) := G.1 u (v1) (t0) (1)
set_option maxRecDepth 100000 in
set_option maxHeartbeats 4000000 in
theorem wb_M_digits_12 {p : Program} {l : Launch} {e : Env} {R : Room} {s : State} {m : MethodId} {args : Array Value} {below : List Frame} {meth : Method} {c : Code} {D : va_G} {cl : List vw_C} {cB cI cJ cZ cS : ClassId} {A : Nat → Prop} {iM h0 : Nat} {ad : Nat → Nat} (C0 : MCx p s m args meth c b_M_digits 6 none D cl cB cI cJ cZ cS iM A) (hR : R = rm_M_digits) (N : Nat) (G : (MS → Int32 → Int64 → Int64 → Option (MS × Unit)) × (MS → Int64 → Int64 → Option (MS × Unit))) (hG : (∀ (u : MS) (v1 : Int32) (v2 : Int64) (v4 : Int64) (x : MS × Unit), G.1 u v1 v2 v4 = some x → ∀ (H : Heap) (locs : List Loc), va_P D cl (wM cB cI cJ cZ cS iM h0 ad u) H → va_D A (wM cB cI cJ cZ cS iM h0 ad u) → va_S A s.heap H locs → ∀ (ls : Array Slot), lv_has ls 6 [(0, .ref h0), (1, .int v1), (2, .long v2), (4, .long v4)] → W p l e R s m args below meth c H locs 0 0 (MQ below (mQv D cl cB cI cJ cZ cS iM h0 ad A x) args s 0 0 A) (F0 m 16 ls [])) ∧ (∀ (u : MS) (v2 : Int64) (v4 : Int64) (x : MS × Unit), G.2 u v2 v4 = some x → ∀ (H : Heap) (locs : List Loc), va_P D cl (wM cB cI cJ cZ cS iM h0 ad u) H → va_D A (wM cB cI cJ cZ cS iM h0 ad u) → va_S A s.heap H locs → ∀ (ls : Array Slot), lv_has ls 6 [(0, .ref h0), (2, .long v2), (4, .long v4)] → W p l e R s m args below meth c H locs 0 0 (MQ below (mQv D cl cB cI cJ cZ cS iM h0 ad A x) args s 0 0 A) (F0 m 48 ls []))) : ∀ (u : MS) (v1 : Int32) (t0 : Int64) (x : MS × Unit), fb_M_digits_12 N G u v1 t0 = some x → ∀ (H : Heap) (locs : List Loc), va_P D cl (wM cB cI cJ cZ cS iM h0 ad u) H → va_D A (wM cB cI cJ cZ cS iM h0 ad u) → va_S A s.heap H locs → ∀ (ls : Array Slot), lv_has ls 6 [(0, .ref h0), (1, .int v1)] → W p l e R s m args below meth c H locs 0 0 (MQ below (mQv D cl cB cI cJ cZ cS iM h0 ad A x) args s 0 0 A) (F0 m 12 ls [.long t0]) := by
  intro u v1 t0 x hf H locs hP hD hS ls hl
  obtain ⟨hx, hb, hr, hml, ht, hown, hM, hK, hA, hlocks⟩ := id C0
  unfold fb_M_digits_12 at hf
  refine lv_lstore_n (lv' := [(2, .long t0), (0, .ref h0), (1, .int v1)]) hx hb d_M_digits_12 rfl hl (by decide) rfl (fun ls hl => ?_)
  refine lv_lconst (v := 1) hx hb d_M_digits_13 (by decide) ?_
  refine lv_lstore (lv' := [(4, .long 1), (2, .long t0), (0, .ref h0), (1, .int v1)]) hx hb d_M_digits_14 hl (by decide) rfl (fun ls hl => ?_)
  exact hG.1 _ _ _ _ _ hf H locs hP hD hS ls (lv_sub hl [2, 3, 1, 0] rfl)
def fb_M_digits_0 (N : Nat) (G : (MS → Int32 → Int64 → Int64 → Option (MS × Unit)) × (MS → Int64 → Int64 → Option (MS × Unit))) (u : MS) (v1 : Int32) : Option (MS × Unit) := br (decide (0 ≤ v1)) (fb_M_digits_12 N G u (v1) (v1.toInt64)) (fb_M_digits_12 N G u (v1) ((-(v1.toInt64))))
set_option maxRecDepth 100000 in
set_option maxHeartbeats 4000000 in
theorem wb_M_digits_0 {p : Program} {l : Launch} {e : Env} {R : Room} {s : State} {m : MethodId} {args : Array Value} {below : List Frame} {meth : Method} {c : Code} {D : va_G} {cl : List vw_C} {cB cI cJ cZ cS : ClassId} {A : Nat → Prop} {iM h0 : Nat} {ad : Nat → Nat} (C0 : MCx p s m args meth c b_M_digits 6 none D cl cB cI cJ cZ cS iM A) (hR : R = rm_M_digits) (N : Nat) (G : (MS → Int32 → Int64 → Int64 → Option (MS × Unit)) × (MS → Int64 → Int64 → Option (MS × Unit))) (hG : (∀ (u : MS) (v1 : Int32) (v2 : Int64) (v4 : Int64) (x : MS × Unit), G.1 u v1 v2 v4 = some x → ∀ (H : Heap) (locs : List Loc), va_P D cl (wM cB cI cJ cZ cS iM h0 ad u) H → va_D A (wM cB cI cJ cZ cS iM h0 ad u) → va_S A s.heap H locs → ∀ (ls : Array Slot), lv_has ls 6 [(0, .ref h0), (1, .int v1), (2, .long v2), (4, .long v4)] → W p l e R s m args below meth c H locs 0 0 (MQ below (mQv D cl cB cI cJ cZ cS iM h0 ad A x) args s 0 0 A) (F0 m 16 ls [])) ∧ (∀ (u : MS) (v2 : Int64) (v4 : Int64) (x : MS × Unit), G.2 u v2 v4 = some x → ∀ (H : Heap) (locs : List Loc), va_P D cl (wM cB cI cJ cZ cS iM h0 ad u) H → va_D A (wM cB cI cJ cZ cS iM h0 ad u) → va_S A s.heap H locs → ∀ (ls : Array Slot), lv_has ls 6 [(0, .ref h0), (2, .long v2), (4, .long v4)] → W p l e R s m args below meth c H locs 0 0 (MQ below (mQv D cl cB cI cJ cZ cS iM h0 ad A x) args s 0 0 A) (F0 m 48 ls []))) : ∀ (u : MS) (v1 : Int32) (x : MS × Unit), fb_M_digits_0 N G u v1 = some x → ∀ (H : Heap) (locs : List Loc), va_P D cl (wM cB cI cJ cZ cS iM h0 ad u) H → va_D A (wM cB cI cJ cZ cS iM h0 ad u) → va_S A s.heap H locs → ∀ (ls : Array Slot), lv_has ls 6 [(0, .ref h0), (1, .int v1)] → W p l e R s m args below meth c H locs 0 0 (MQ below (mQv D cl cB cI cJ cZ cS iM h0 ad A x) args s 0 0 A) (F0 m 0 ls []) := by
  intro u v1 x hf H locs hP hD hS ls hl
  obtain ⟨hx, hb, hr, hml, ht, hown, hM, hK, hA, hlocks⟩ := id C0
  unfold fb_M_digits_0 at hf
  refine lv_iload_n hx hb d_M_digits_0 rfl (lv_at hl 1 rfl) ?_
  refine lv_if_ge (tgt := 10) hx hb d_M_digits_1 (by decide) (fun hc => ?_) (fun hc => ?_)
  · rw [br_p _ hc] at hf
    refine lv_iload_n hx hb d_M_digits_10 rfl (lv_at hl 1 rfl) ?_
    refine lv_i2l hx hb d_M_digits_11 rfl ?_
    exact wb_M_digits_12 C0 hR N G hG _ _ _ _ hf H locs hP hD hS ls (lv_sub hl [0, 1] rfl)
  · rw [br_n _ hc] at hf
    refine lv_iload_n hx hb d_M_digits_4 rfl (lv_at hl 1 rfl) ?_
    refine lv_i2l hx hb d_M_digits_5 rfl ?_
    refine lv_lneg hx hb d_M_digits_6 ?_
    refine lv_goto (tgt := 12) hx hb d_M_digits_7 (by decide) ?_
    exact wb_M_digits_12 C0 hR N G hG _ _ _ _ hf H locs hP hD hS ls (lv_sub hl [0, 1] rfl)
def gg_M_digits (N : Nat) : Nat → ((MS → Int32 → Int64 → Int64 → Option (MS × Unit)) × (MS → Int64 → Int64 → Option (MS × Unit)))
  | 0 => (fun _ _ _ _ => none, fun _ _ _ => none)
  | n + 1 => (fb_M_digits_16 N (gg_M_digits N n), fb_M_digits_48 N (gg_M_digits N n))
theorem wg_M_digits {p : Program} {l : Launch} {e : Env} {R : Room} {s : State} {m : MethodId} {args : Array Value} {below : List Frame} {meth : Method} {c : Code} {D : va_G} {cl : List vw_C} {cB cI cJ cZ cS : ClassId} {A : Nat → Prop} {iM h0 : Nat} {ad : Nat → Nat} (C0 : MCx p s m args meth c b_M_digits 6 none D cl cB cI cJ cZ cS iM A) (hR : R = rm_M_digits) (N : Nat) : ∀ n : Nat, (∀ (u : MS) (v1 : Int32) (v2 : Int64) (v4 : Int64) (x : MS × Unit), (gg_M_digits N n).1 u v1 v2 v4 = some x → ∀ (H : Heap) (locs : List Loc), va_P D cl (wM cB cI cJ cZ cS iM h0 ad u) H → va_D A (wM cB cI cJ cZ cS iM h0 ad u) → va_S A s.heap H locs → ∀ (ls : Array Slot), lv_has ls 6 [(0, .ref h0), (1, .int v1), (2, .long v2), (4, .long v4)] → W p l e R s m args below meth c H locs 0 0 (MQ below (mQv D cl cB cI cJ cZ cS iM h0 ad A x) args s 0 0 A) (F0 m 16 ls [])) ∧ (∀ (u : MS) (v2 : Int64) (v4 : Int64) (x : MS × Unit), (gg_M_digits N n).2 u v2 v4 = some x → ∀ (H : Heap) (locs : List Loc), va_P D cl (wM cB cI cJ cZ cS iM h0 ad u) H → va_D A (wM cB cI cJ cZ cS iM h0 ad u) → va_S A s.heap H locs → ∀ (ls : Array Slot), lv_has ls 6 [(0, .ref h0), (2, .long v2), (4, .long v4)] → W p l e R s m args below meth c H locs 0 0 (MQ below (mQv D cl cB cI cJ cZ cS iM h0 ad A x) args s 0 0 A) (F0 m 48 ls []))
  | 0 => ⟨(fun u v1 v2 v4 x hf => by cases hf), (fun u v2 v4 x hf => by cases hf)⟩
  | n + 1 => ⟨wb_M_digits_16 C0 hR N (gg_M_digits N n) (wg_M_digits C0 hR N n), wb_M_digits_48 C0 hR N (gg_M_digits N n) (wg_M_digits C0 hR N n)⟩
def fm_M_digits (N : Nat) (u : MS) (v1 : Int32) : Option (MS × Unit) := fb_M_digits_0 N (gg_M_digits N N) u v1
set_option maxRecDepth 100000 in
set_option maxHeartbeats 4000000 in
theorem c_M_digits (N : Nat) {l : Launch} {D : va_G} {cl : List vw_C} {cB cI cJ cZ cS : ClassId} {iM h0 : Nat} {ad : Nat → Nat} {u : MS} {sz : Nat} {v1 : Int32} {x : MS × Unit} (hM : cl[iM]? = some (R_M, F_M, 171)) (hf : fm_M_digits N u v1 = some x) : Met l y_M_digits (wd_ws y_M_digits b_M_digits 6 none) rm_M_digits (mPc D cl cB cI cJ cZ cS iM h0 ad u sz [.ref h0, .int v1]) (mQv D cl cB cI cJ cZ cS iM h0 ad (mA cB cI cJ cZ cS iM h0 ad u sz) x) 0 0 (mA cB cI cJ cZ cS iM h0 ad u sz) :=
  mMet (by decide) rfl hM (Nat.le_of_ble_eq_true rfl) (fun p e s m below meth c ls hsz C0 hP hD hS hl => by
    have hR : rm_M_digits = rm_M_digits := rfl
    exact wb_M_digits_0 C0 hR N (gg_M_digits N N) (wg_M_digits C0 hR N N) u _ x hf s.heap [] hP hD hS ls (lv_sub hl [0, 1] rfl))
abbrev b_M_restOfList : ByteArray := prog_14_method_101_code
def y_M_restOfList : MethodName := ⟨R_M, "restOfList", "(III)I"⟩
def w_M_restOfList : List Cond := wd_ws y_M_restOfList b_M_restOfList 7 (some .int)
set_option maxRecDepth 100000 in
theorem k_M_restOfList : Cond.code y_M_restOfList b_M_restOfList 7 (some .int) ∈ wd_tbl := wd_of 3126 rfl rfl
theorem d_M_restOfList_0 : decode b_M_restOfList 0 = .ok (.aload_n 0, 1) := by decide +kernel
theorem d_M_restOfList_1 : decode b_M_restOfList 1 = .ok (.iload_n 1, 1) := by decide +kernel
theorem d_M_restOfList_2 : decode b_M_restOfList 2 = .ok (.iload_n 3, 1) := by decide +kernel
theorem d_M_restOfList_3 : decode b_M_restOfList 3 = .ok (.iconst 1, 1) := by decide +kernel
theorem d_M_restOfList_4 : decode b_M_restOfList 4 = .ok (.iadd, 1) := by decide +kernel
theorem d_M_restOfList_5 : decode b_M_restOfList 5 = .ok (.invokevirtual 683, 3) := by decide +kernel
theorem d_M_restOfList_8 : decode b_M_restOfList 8 = .ok (.lstore 4, 2) := by decide +kernel
theorem d_M_restOfList_10 : decode b_M_restOfList 10 = .ok (.iload_n 2, 1) := by decide +kernel
theorem d_M_restOfList_11 : decode b_M_restOfList 11 = .ok (.istore 6, 2) := by decide +kernel
theorem d_M_restOfList_13 : decode b_M_restOfList 13 = .ok (.lload 4, 2) := by decide +kernel
theorem d_M_restOfList_15 : decode b_M_restOfList 15 = .ok (.invokestatic 676, 3) := by decide +kernel
theorem d_M_restOfList_18 : decode b_M_restOfList 18 = .ok (.bipush 6, 2) := by decide +kernel
theorem d_M_restOfList_20 : decode b_M_restOfList 20 = .ok (.if_icmp .ne 12, 3) := by decide +kernel
theorem d_M_restOfList_23 : decode b_M_restOfList 23 = .ok (.aload_n 0, 1) := by decide +kernel
theorem d_M_restOfList_24 : decode b_M_restOfList 24 = .ok (.bipush 93, 2) := by decide +kernel
theorem d_M_restOfList_26 : decode b_M_restOfList 26 = .ok (.invokevirtual 727, 3) := by decide +kernel
theorem d_M_restOfList_29 : decode b_M_restOfList 29 = .ok (.goto 95, 3) := by decide +kernel
theorem d_M_restOfList_32 : decode b_M_restOfList 32 = .ok (.lload 4, 2) := by decide +kernel
theorem d_M_restOfList_34 : decode b_M_restOfList 34 = .ok (.invokestatic 676, 3) := by decide +kernel
theorem d_M_restOfList_37 : decode b_M_restOfList 37 = .ok (.bipush 7, 2) := by decide +kernel
theorem d_M_restOfList_39 : decode b_M_restOfList 39 = .ok (.if_icmp .ne 51, 3) := by decide +kernel
theorem d_M_restOfList_42 : decode b_M_restOfList 42 = .ok (.aload_n 0, 1) := by decide +kernel
theorem d_M_restOfList_43 : decode b_M_restOfList 43 = .ok (.bipush 44, 2) := by decide +kernel
theorem d_M_restOfList_45 : decode b_M_restOfList 45 = .ok (.invokevirtual 727, 3) := by decide +kernel
theorem d_M_restOfList_48 : decode b_M_restOfList 48 = .ok (.aload_n 0, 1) := by decide +kernel
theorem d_M_restOfList_49 : decode b_M_restOfList 49 = .ok (.getfield 327, 3) := by decide +kernel
theorem d_M_restOfList_52 : decode b_M_restOfList 52 = .ok (.iload 6, 2) := by decide +kernel
theorem d_M_restOfList_54 : decode b_M_restOfList 54 = .ok (.bipush 21, 2) := by decide +kernel
theorem d_M_restOfList_56 : decode b_M_restOfList 56 = .ok (.lload 4, 2) := by decide +kernel
theorem d_M_restOfList_58 : decode b_M_restOfList 58 = .ok (.invokestatic 680, 3) := by decide +kernel
theorem d_M_restOfList_61 : decode b_M_restOfList 61 = .ok (.invokestatic 315, 3) := by decide +kernel
theorem d_M_restOfList_64 : decode b_M_restOfList 64 = .ok (.lastore, 1) := by decide +kernel
theorem d_M_restOfList_65 : decode b_M_restOfList 65 = .ok (.aload_n 0, 1) := by decide +kernel
theorem d_M_restOfList_66 : decode b_M_restOfList 66 = .ok (.getfield 327, 3) := by decide +kernel
theorem d_M_restOfList_69 : decode b_M_restOfList 69 = .ok (.iload 6, 2) := by decide +kernel
theorem d_M_restOfList_71 : decode b_M_restOfList 71 = .ok (.iconst 1, 1) := by decide +kernel
theorem d_M_restOfList_72 : decode b_M_restOfList 72 = .ok (.iadd, 1) := by decide +kernel
theorem d_M_restOfList_73 : decode b_M_restOfList 73 = .ok (.aload_n 0, 1) := by decide +kernel
theorem d_M_restOfList_74 : decode b_M_restOfList 74 = .ok (.iload_n 1, 1) := by decide +kernel
theorem d_M_restOfList_75 : decode b_M_restOfList 75 = .ok (.lload 4, 2) := by decide +kernel
theorem d_M_restOfList_77 : decode b_M_restOfList 77 = .ok (.invokestatic 680, 3) := by decide +kernel
theorem d_M_restOfList_80 : decode b_M_restOfList 80 = .ok (.invokevirtual 683, 3) := by decide +kernel
theorem d_M_restOfList_83 : decode b_M_restOfList 83 = .ok (.lastore, 1) := by decide +kernel
theorem d_M_restOfList_84 : decode b_M_restOfList 84 = .ok (.iinc 6 2, 3) := by decide +kernel
theorem d_M_restOfList_87 : decode b_M_restOfList 87 = .ok (.goto 37, 3) := by decide +kernel
theorem d_M_restOfList_90 : decode b_M_restOfList 90 = .ok (.aload_n 0, 1) := by decide +kernel
theorem d_M_restOfList_91 : decode b_M_restOfList 91 = .ok (.bipush 124, 2) := by decide +kernel
theorem d_M_restOfList_93 : decode b_M_restOfList 93 = .ok (.invokevirtual 727, 3) := by decide +kernel
theorem d_M_restOfList_96 : decode b_M_restOfList 96 = .ok (.aload_n 0, 1) := by decide +kernel
theorem d_M_restOfList_97 : decode b_M_restOfList 97 = .ok (.getfield 327, 3) := by decide +kernel
theorem d_M_restOfList_100 : decode b_M_restOfList 100 = .ok (.iload 6, 2) := by decide +kernel
theorem d_M_restOfList_102 : decode b_M_restOfList 102 = .ok (.bipush 20, 2) := by decide +kernel
theorem d_M_restOfList_104 : decode b_M_restOfList 104 = .ok (.bipush 93, 2) := by decide +kernel
theorem d_M_restOfList_106 : decode b_M_restOfList 106 = .ok (.invokestatic 315, 3) := by decide +kernel
theorem d_M_restOfList_109 : decode b_M_restOfList 109 = .ok (.lastore, 1) := by decide +kernel
theorem d_M_restOfList_110 : decode b_M_restOfList 110 = .ok (.aload_n 0, 1) := by decide +kernel
theorem d_M_restOfList_111 : decode b_M_restOfList 111 = .ok (.getfield 327, 3) := by decide +kernel
theorem d_M_restOfList_114 : decode b_M_restOfList 114 = .ok (.iload 6, 2) := by decide +kernel
theorem d_M_restOfList_116 : decode b_M_restOfList 116 = .ok (.iconst 1, 1) := by decide +kernel
theorem d_M_restOfList_117 : decode b_M_restOfList 117 = .ok (.iadd, 1) := by decide +kernel
theorem d_M_restOfList_118 : decode b_M_restOfList 118 = .ok (.lload 4, 2) := by decide +kernel
theorem d_M_restOfList_120 : decode b_M_restOfList 120 = .ok (.lastore, 1) := by decide +kernel
theorem d_M_restOfList_121 : decode b_M_restOfList 121 = .ok (.iinc 6 2, 3) := by decide +kernel
theorem d_M_restOfList_124 : decode b_M_restOfList 124 = .ok (.iload 6, 2) := by decide +kernel
theorem d_M_restOfList_126 : decode b_M_restOfList 126 = .ok (.ireturn, 1) := by decide +kernel
set_option maxRecDepth 100000 in
theorem hl_M_restOfList : Cond.methodLink R_M 734 y_M_restOfList ∈ wd_tbl := wd_of 3123 (by decide +kernel) rfl
set_option maxRecDepth 100000 in
theorem hi_M_restOfList : Cond.instanceMethod y_M_restOfList ∈ wd_tbl := wd_of 3125 (by decide +kernel) rfl
set_option maxRecDepth 100000 in
theorem hs_M_restOfList : Cond.selects R_M y_M_restOfList y_M_restOfList ∈ wd_tbl := wd_of 236 (by decide +kernel) rfl
theorem hd_M_restOfList : y_M_restOfList.cls = R_M ∧ y_M_restOfList.cls ≠ "java/lang/invoke/MethodHandle" ∧ y_M_restOfList.cls ≠ "java/lang/invoke/VarHandle" ∧ (parseMethodDescriptor y_M_restOfList.desc).map (fun d => d.parameters.length) = some 3 := by decide +kernel
def rm_M_restOfList : Room := { frames := 1, cells := 0, slots := 0, locals := 22 }
theorem rm_M_restOfList_M_cell {R : Room} (hR : R = rm_M_restOfList) : (rm_M_cell).frames + 1 ≤ R.frames ∧ 8 + (3 + 11) + (rm_M_cell).locals ≤ R.locals := by subst hR; decide
theorem rm_M_restOfList_M_sortOf {R : Room} (hR : R = rm_M_restOfList) : (rm_M_sortOf).frames + 1 ≤ R.frames ∧ 8 + (2 + 11) + (rm_M_sortOf).locals ≤ R.locals := by subst hR; decide
theorem rm_M_restOfList_M_sign {R : Room} (hR : R = rm_M_restOfList) : (rm_M_sign).frames + 1 ≤ R.frames ∧ 8 + (2 + 11) + (rm_M_sign).locals ≤ R.locals := by subst hR; decide
theorem rm_M_restOfList_M_valueOf {R : Room} (hR : R = rm_M_restOfList) : (rm_M_valueOf).frames + 1 ≤ R.frames ∧ 8 + (2 + 11) + (rm_M_valueOf).locals ≤ R.locals := by subst hR; decide
theorem rm_M_restOfList_M_term {R : Room} (hR : R = rm_M_restOfList) : (rm_M_term).frames + 1 ≤ R.frames ∧ 8 + (2 + 11) + (rm_M_term).locals ≤ R.locals := by subst hR; decide
def fb_M_restOfList_124 (N : Nat) (G : Unit) (u : MS) (v6 : Int32) : Option (MS × Int32) := some (u, v6)
set_option maxRecDepth 100000 in
set_option maxHeartbeats 4000000 in
theorem wb_M_restOfList_124 {p : Program} {l : Launch} {e : Env} {R : Room} {s : State} {m : MethodId} {args : Array Value} {below : List Frame} {meth : Method} {c : Code} {D : va_G} {cl : List vw_C} {cB cI cJ cZ cS : ClassId} {A : Nat → Prop} {iM h0 : Nat} {ad : Nat → Nat} (C0 : MCx p s m args meth c b_M_restOfList 7 (some .int) D cl cB cI cJ cZ cS iM A) (hR : R = rm_M_restOfList) (N : Nat) (G : Unit) (hG : True) : ∀ (u : MS) (v6 : Int32) (x : MS × Int32), fb_M_restOfList_124 N G u v6 = some x → ∀ (H : Heap) (locs : List Loc), va_P D cl (wM cB cI cJ cZ cS iM h0 ad u) H → va_D A (wM cB cI cJ cZ cS iM h0 ad u) → va_S A s.heap H locs → ∀ (ls : Array Slot), lv_has ls 7 [(6, .int v6)] → W p l e R s m args below meth c H locs 0 0 (MQ below (mQi D cl cB cI cJ cZ cS iM h0 ad A x) args s 0 0 A) (F0 m 124 ls []) := by
  intro u v6 x hf H locs hP hD hS ls hl
  obtain ⟨hx, hb, hr, hml, ht, hown, hM, hK, hA, hlocks⟩ := id C0
  unfold fb_M_restOfList_124 at hf
  refine lv_iload hx hb d_M_restOfList_124 (lv_at hl 0 rfl) ?_
  exact mr_i C0 hP hD hS hf d_M_restOfList_126
def fb_M_restOfList_0 (N : Nat) (G : Unit) (u : MS) (v1 : Int32) (v2 : Int32) (v3 : Int32) : Option (MS × Int32) := bnd (fm_M_cell N u v1 (v3 + 1)) (fun u1 r1 => bnd (fm_M_sortOf N u1 r1) (fun u2 r2 => br (decide (r2 = 6)) (bnd (fm_M_sign N u2 93) (fun u15 _ => fb_M_restOfList_124 N G u15 (v2))) (bnd (fm_M_sortOf N u2 r1) (fun u3 r3 => br (decide (r3 = 7)) (bnd (fm_M_sign N u3 44) (fun u8 _ => bnd (fm_M_valueOf N u8 r1) (fun u9 r9 => bnd (fm_M_term N u9 21 r9) (fun u10 r10 => ck (inb v2 (ln 141)) (lt (upJ u10 141 (vp_updL (u10.2.2.2 141) v2.toNatClampNeg r10)) (fun w11 => bnd (fm_M_valueOf N w11 r1) (fun u12 r12 => bnd (fm_M_cell N u12 v1 r12) (fun u13 r13 => ck (inb (v2 + 1) (ln 141)) (lt (upJ u13 141 (vp_updL (u13.2.2.2 141) (v2 + 1).toNatClampNeg r13)) (fun w14 => fb_M_restOfList_124 N G w14 ((v2 + 2)))))))))))) (bnd (fm_M_sign N u3 124) (fun u4 _ => bnd (fm_M_term N u4 20 93) (fun u5 r5 => ck (inb v2 (ln 141)) (lt (upJ u5 141 (vp_updL (u5.2.2.2 141) v2.toNatClampNeg r5)) (fun w6 => ck (inb (v2 + 1) (ln 141)) (lt (upJ w6 141 (vp_updL (w6.2.2.2 141) (v2 + 1).toNatClampNeg r1)) (fun w7 => fb_M_restOfList_124 N G w7 ((v2 + 2)))))))))))))
set_option maxRecDepth 100000 in
set_option maxHeartbeats 4000000 in
theorem wb_M_restOfList_0 {p : Program} {l : Launch} {e : Env} {R : Room} {s : State} {m : MethodId} {args : Array Value} {below : List Frame} {meth : Method} {c : Code} {D : va_G} {cl : List vw_C} {cB cI cJ cZ cS : ClassId} {A : Nat → Prop} {iM h0 : Nat} {ad : Nat → Nat} (C0 : MCx p s m args meth c b_M_restOfList 7 (some .int) D cl cB cI cJ cZ cS iM A) (hR : R = rm_M_restOfList) (N : Nat) (G : Unit) (hG : True) : ∀ (u : MS) (v1 : Int32) (v2 : Int32) (v3 : Int32) (x : MS × Int32), fb_M_restOfList_0 N G u v1 v2 v3 = some x → ∀ (H : Heap) (locs : List Loc), va_P D cl (wM cB cI cJ cZ cS iM h0 ad u) H → va_D A (wM cB cI cJ cZ cS iM h0 ad u) → va_S A s.heap H locs → ∀ (ls : Array Slot), lv_has ls 7 [(0, .ref h0), (1, .int v1), (2, .int v2), (3, .int v3)] → W p l e R s m args below meth c H locs 0 0 (MQ below (mQi D cl cB cI cJ cZ cS iM h0 ad A x) args s 0 0 A) (F0 m 0 ls []) := by
  intro u v1 v2 v3 x hf H locs hP hD hS ls hl
  obtain ⟨hx, hb, hr, hml, ht, hown, hM, hK, hA, hlocks⟩ := id C0
  unfold fb_M_restOfList_0 at hf
  refine lv_aload_n hx hb d_M_restOfList_0 rfl (lv_at hl 0 rfl) ?_
  refine lv_iload_n hx hb d_M_restOfList_1 rfl (lv_at hl 1 rfl) ?_
  refine lv_iload_n hx hb d_M_restOfList_2 rfl (lv_at hl 3 rfl) ?_
  refine lv_iconst (v := 1) hx hb d_M_restOfList_3 (by decide) ?_
  refine lv_iadd hx hb d_M_restOfList_4 ?_
  obtain ⟨u1, r1, hc1, hf⟩ := bnd_some hf
  refine mV_l (As := [.int v1, .int (v3 + 1)]) (rest := []) C0 hP hD hS (c_M_cell N hM hc1) k_M_cell hl_M_cell hi_M_cell hs_M_cell hini_M rfl rfl hd_M_cell rfl (rm_M_restOfList_M_cell hR) hl.1 (Nat.le_of_ble_eq_true rfl) d_M_restOfList_5 rfl ⟨Nat.zero_le _, Nat.zero_le _⟩ (fun H locs hP hD hS => ?_)
  refine lv_lstore (lv' := [(4, .long r1), (0, .ref h0), (1, .int v1), (2, .int v2), (3, .int v3)]) hx hb d_M_restOfList_8 hl (by decide) rfl (fun ls hl => ?_)
  refine lv_iload_n hx hb d_M_restOfList_10 rfl (lv_at hl 3 rfl) ?_
  refine lv_istore (lv' := [(6, .int v2), (4, .long r1), (0, .ref h0), (1, .int v1), (2, .int v2), (3, .int v3)]) hx hb d_M_restOfList_11 hl (by decide) rfl (fun ls hl => ?_)
  refine lv_lload hx hb d_M_restOfList_13 (lv_at hl 1 rfl) ?_
  obtain ⟨u2, r2, hc2, hf⟩ := bnd_some hf
  refine mS_i (As := [.long r1]) (rest := []) C0 hP hD hS (c_M_sortOf N hM hc2) k_M_sortOf hl_M_sortOf ht_M_sortOf hini_M rfl rfl hd_M_sortOf rfl (rm_M_restOfList_M_sortOf hR) hl.1 (Nat.le_of_ble_eq_true rfl) d_M_restOfList_15 rfl ⟨Nat.zero_le _, Nat.zero_le _⟩ (fun H locs hP hD hS => ?_)
  refine lv_bipush (v := 6) hx hb d_M_restOfList_18 (by decide) ?_
  refine lv_icmp_ne (tgt := 32) hx hb d_M_restOfList_20 (by decide) (fun hc => ?_) (fun hc => ?_)
  · rw [br_n _ hc] at hf
    refine lv_lload hx hb d_M_restOfList_32 (lv_at hl 1 rfl) ?_
    obtain ⟨u3, r3, hc3, hf⟩ := bnd_some hf
    refine mS_i (As := [.long r1]) (rest := []) C0 hP hD hS (c_M_sortOf N hM hc3) k_M_sortOf hl_M_sortOf ht_M_sortOf hini_M rfl rfl hd_M_sortOf rfl (rm_M_restOfList_M_sortOf hR) hl.1 (Nat.le_of_ble_eq_true rfl) d_M_restOfList_34 rfl ⟨Nat.zero_le _, Nat.zero_le _⟩ (fun H locs hP hD hS => ?_)
    refine lv_bipush (v := 7) hx hb d_M_restOfList_37 (by decide) ?_
    refine lv_icmp_ne (tgt := 90) hx hb d_M_restOfList_39 (by decide) (fun hc => ?_) (fun hc => ?_)
    · rw [br_n _ hc] at hf
      refine lv_aload_n hx hb d_M_restOfList_90 rfl (lv_at hl 2 rfl) ?_
      refine lv_bipush (v := 124) hx hb d_M_restOfList_91 (by decide) ?_
      obtain ⟨u4, r4, hc4, hf⟩ := bnd_some hf
      refine mV_v (As := [.int 124]) (rest := []) C0 hP hD hS (c_M_sign N hM hc4) k_M_sign hl_M_sign hi_M_sign hs_M_sign hini_M rfl rfl hd_M_sign rfl (rm_M_restOfList_M_sign hR) hl.1 (Nat.le_of_ble_eq_true rfl) d_M_restOfList_93 rfl ⟨Nat.zero_le _, Nat.zero_le _⟩ (fun H locs hP hD hS => ?_)
      refine lv_aload_n hx hb d_M_restOfList_96 rfl (lv_at hl 2 rfl) ?_
      refine ug_R hx hb ht hown hM hK hP 141 (by decide) lk_M_141 (by decide) d_M_restOfList_97 ?_
      refine lv_iload hx hb d_M_restOfList_100 (lv_at hl 0 rfl) ?_
      refine lv_bipush (v := 20) hx hb d_M_restOfList_102 (by decide) ?_
      refine lv_bipush (v := 93) hx hb d_M_restOfList_104 (by decide) ?_
      obtain ⟨u5, r5, hc5, hf⟩ := bnd_some hf
      refine mS_l (As := [.int 20, .int 93]) (rest := [.int v2, .ref (ad 141)]) C0 hP hD hS (c_M_term N hM hc5) k_M_term hl_M_term ht_M_term hini_M rfl rfl hd_M_term rfl (rm_M_restOfList_M_term hR) hl.1 (Nat.le_of_ble_eq_true rfl) d_M_restOfList_106 rfl ⟨Nat.zero_le _, Nat.zero_le _⟩ (fun H locs hP hD hS => ?_)
      obtain ⟨hi9, hf⟩ := ck_some hf
      refine us_J hx hb hK hP hD hS (by decide) (by decide) hi9 d_M_restOfList_109 (fun H locs hP hD hS => ?_)
      obtain ⟨w6, e6, hf⟩ := lt_some hf
      rw [← e6] at hP hD
      refine lv_aload_n hx hb d_M_restOfList_110 rfl (lv_at hl 2 rfl) ?_
      refine ug_R hx hb ht hown hM hK hP 141 (by decide) lk_M_141 (by decide) d_M_restOfList_111 ?_
      refine lv_iload hx hb d_M_restOfList_114 (lv_at hl 0 rfl) ?_
      refine lv_iconst (v := 1) hx hb d_M_restOfList_116 (by decide) ?_
      refine lv_iadd hx hb d_M_restOfList_117 ?_
      refine lv_lload hx hb d_M_restOfList_118 (lv_at hl 1 rfl) ?_
      obtain ⟨hi9, hf⟩ := ck_some hf
      refine us_J hx hb hK hP hD hS (by decide) (by decide) hi9 d_M_restOfList_120 (fun H locs hP hD hS => ?_)
      obtain ⟨w7, e7, hf⟩ := lt_some hf
      rw [← e7] at hP hD
      refine lv_iinc (v := (v2 + 2)) (lv' := [(6, .int (v2 + 2)), (4, .long r1), (0, .ref h0), (1, .int v1), (2, .int v2), (3, .int v3)]) hx hb d_M_restOfList_121 hl (k := 0) rfl rfl (by decide) rfl (fun ls hl => ?_)
      exact wb_M_restOfList_124 C0 hR N G hG _ _ _ hf H locs hP hD hS ls (lv_sub hl [0] rfl)
    · rw [br_p _ hc] at hf
      refine lv_aload_n hx hb d_M_restOfList_42 rfl (lv_at hl 2 rfl) ?_
      refine lv_bipush (v := 44) hx hb d_M_restOfList_43 (by decide) ?_
      obtain ⟨u8, r8, hc8, hf⟩ := bnd_some hf
      refine mV_v (As := [.int 44]) (rest := []) C0 hP hD hS (c_M_sign N hM hc8) k_M_sign hl_M_sign hi_M_sign hs_M_sign hini_M rfl rfl hd_M_sign rfl (rm_M_restOfList_M_sign hR) hl.1 (Nat.le_of_ble_eq_true rfl) d_M_restOfList_45 rfl ⟨Nat.zero_le _, Nat.zero_le _⟩ (fun H locs hP hD hS => ?_)
      refine lv_aload_n hx hb d_M_restOfList_48 rfl (lv_at hl 2 rfl) ?_
      refine ug_R hx hb ht hown hM hK hP 141 (by decide) lk_M_141 (by decide) d_M_restOfList_49 ?_
      refine lv_iload hx hb d_M_restOfList_52 (lv_at hl 0 rfl) ?_
      refine lv_bipush (v := 21) hx hb d_M_restOfList_54 (by decide) ?_
      refine lv_lload hx hb d_M_restOfList_56 (lv_at hl 1 rfl) ?_
      obtain ⟨u9, r9, hc9, hf⟩ := bnd_some hf
      refine mS_i (As := [.long r1]) (rest := [.int 21, .int v2, .ref (ad 141)]) C0 hP hD hS (c_M_valueOf N hM hc9) k_M_valueOf hl_M_valueOf ht_M_valueOf hini_M rfl rfl hd_M_valueOf rfl (rm_M_restOfList_M_valueOf hR) hl.1 (Nat.le_of_ble_eq_true rfl) d_M_restOfList_58 rfl ⟨Nat.zero_le _, Nat.zero_le _⟩ (fun H locs hP hD hS => ?_)
      obtain ⟨u10, r10, hc10, hf⟩ := bnd_some hf
      refine mS_l (As := [.int 21, .int r9]) (rest := [.int v2, .ref (ad 141)]) C0 hP hD hS (c_M_term N hM hc10) k_M_term hl_M_term ht_M_term hini_M rfl rfl hd_M_term rfl (rm_M_restOfList_M_term hR) hl.1 (Nat.le_of_ble_eq_true rfl) d_M_restOfList_61 rfl ⟨Nat.zero_le _, Nat.zero_le _⟩ (fun H locs hP hD hS => ?_)
      obtain ⟨hi9, hf⟩ := ck_some hf
      refine us_J hx hb hK hP hD hS (by decide) (by decide) hi9 d_M_restOfList_64 (fun H locs hP hD hS => ?_)
      obtain ⟨w11, e11, hf⟩ := lt_some hf
      rw [← e11] at hP hD
      refine lv_aload_n hx hb d_M_restOfList_65 rfl (lv_at hl 2 rfl) ?_
      refine ug_R hx hb ht hown hM hK hP 141 (by decide) lk_M_141 (by decide) d_M_restOfList_66 ?_
      refine lv_iload hx hb d_M_restOfList_69 (lv_at hl 0 rfl) ?_
      refine lv_iconst (v := 1) hx hb d_M_restOfList_71 (by decide) ?_
      refine lv_iadd hx hb d_M_restOfList_72 ?_
      refine lv_aload_n hx hb d_M_restOfList_73 rfl (lv_at hl 2 rfl) ?_
      refine lv_iload_n hx hb d_M_restOfList_74 rfl (lv_at hl 3 rfl) ?_
      refine lv_lload hx hb d_M_restOfList_75 (lv_at hl 1 rfl) ?_
      obtain ⟨u12, r12, hc12, hf⟩ := bnd_some hf
      refine mS_i (As := [.long r1]) (rest := [.int v1, .ref h0, .int (v2 + 1), .ref (ad 141)]) C0 hP hD hS (c_M_valueOf N hM hc12) k_M_valueOf hl_M_valueOf ht_M_valueOf hini_M rfl rfl hd_M_valueOf rfl (rm_M_restOfList_M_valueOf hR) hl.1 (Nat.le_of_ble_eq_true rfl) d_M_restOfList_77 rfl ⟨Nat.zero_le _, Nat.zero_le _⟩ (fun H locs hP hD hS => ?_)
      obtain ⟨u13, r13, hc13, hf⟩ := bnd_some hf
      refine mV_l (As := [.int v1, .int r12]) (rest := [.int (v2 + 1), .ref (ad 141)]) C0 hP hD hS (c_M_cell N hM hc13) k_M_cell hl_M_cell hi_M_cell hs_M_cell hini_M rfl rfl hd_M_cell rfl (rm_M_restOfList_M_cell hR) hl.1 (Nat.le_of_ble_eq_true rfl) d_M_restOfList_80 rfl ⟨Nat.zero_le _, Nat.zero_le _⟩ (fun H locs hP hD hS => ?_)
      obtain ⟨hi9, hf⟩ := ck_some hf
      refine us_J hx hb hK hP hD hS (by decide) (by decide) hi9 d_M_restOfList_83 (fun H locs hP hD hS => ?_)
      obtain ⟨w14, e14, hf⟩ := lt_some hf
      rw [← e14] at hP hD
      refine lv_iinc (v := (v2 + 2)) (lv' := [(6, .int (v2 + 2)), (4, .long r1), (0, .ref h0), (1, .int v1), (2, .int v2), (3, .int v3)]) hx hb d_M_restOfList_84 hl (k := 0) rfl rfl (by decide) rfl (fun ls hl => ?_)
      refine lv_goto (tgt := 124) hx hb d_M_restOfList_87 (by decide) ?_
      exact wb_M_restOfList_124 C0 hR N G hG _ _ _ hf H locs hP hD hS ls (lv_sub hl [0] rfl)
  · rw [br_p _ hc] at hf
    refine lv_aload_n hx hb d_M_restOfList_23 rfl (lv_at hl 2 rfl) ?_
    refine lv_bipush (v := 93) hx hb d_M_restOfList_24 (by decide) ?_
    obtain ⟨u15, r15, hc15, hf⟩ := bnd_some hf
    refine mV_v (As := [.int 93]) (rest := []) C0 hP hD hS (c_M_sign N hM hc15) k_M_sign hl_M_sign hi_M_sign hs_M_sign hini_M rfl rfl hd_M_sign rfl (rm_M_restOfList_M_sign hR) hl.1 (Nat.le_of_ble_eq_true rfl) d_M_restOfList_26 rfl ⟨Nat.zero_le _, Nat.zero_le _⟩ (fun H locs hP hD hS => ?_)
    refine lv_goto (tgt := 124) hx hb d_M_restOfList_29 (by decide) ?_
    exact wb_M_restOfList_124 C0 hR N G hG _ _ _ hf H locs hP hD hS ls (lv_sub hl [0] rfl)
def fm_M_restOfList (N : Nat) (u : MS) (v1 : Int32) (v2 : Int32) (v3 : Int32) : Option (MS × Int32) := fb_M_restOfList_0 N () u v1 v2 v3
set_option maxRecDepth 100000 in
set_option maxHeartbeats 4000000 in
theorem c_M_restOfList (N : Nat) {l : Launch} {D : va_G} {cl : List vw_C} {cB cI cJ cZ cS : ClassId} {iM h0 : Nat} {ad : Nat → Nat} {u : MS} {sz : Nat} {v1 : Int32} {v2 : Int32} {v3 : Int32} {x : MS × Int32} (hM : cl[iM]? = some (R_M, F_M, 171)) (hf : fm_M_restOfList N u v1 v2 v3 = some x) : Met l y_M_restOfList (wd_ws y_M_restOfList b_M_restOfList 7 (some .int)) rm_M_restOfList (mPc D cl cB cI cJ cZ cS iM h0 ad u sz [.ref h0, .int v1, .int v2, .int v3]) (mQi D cl cB cI cJ cZ cS iM h0 ad (mA cB cI cJ cZ cS iM h0 ad u sz) x) 0 0 (mA cB cI cJ cZ cS iM h0 ad u sz) :=
  mMet (by decide) rfl hM (Nat.le_of_ble_eq_true rfl) (fun p e s m below meth c ls hsz C0 hP hD hS hl => by
    have hR : rm_M_restOfList = rm_M_restOfList := rfl
    exact wb_M_restOfList_0 C0 hR N () trivial u _ _ _ x hf s.heap [] hP hD hS ls (lv_sub hl [0, 1, 2, 3] rfl))
abbrev b_M_writeOn : ByteArray := prog_14_method_100_code
def y_M_writeOn : MethodName := ⟨R_M, "writeOn", "(IJ)V"⟩
def w_M_writeOn : List Cond := wd_ws y_M_writeOn b_M_writeOn 10 none
set_option maxRecDepth 100000 in
theorem k_M_writeOn : Cond.code y_M_writeOn b_M_writeOn 10 none ∈ wd_tbl := wd_of 3118 rfl rfl
theorem d_M_writeOn_0 : decode b_M_writeOn 0 = .ok (.iconst 1, 1) := by decide +kernel
theorem d_M_writeOn_1 : decode b_M_writeOn 1 = .ok (.istore 4, 2) := by decide +kernel
theorem d_M_writeOn_3 : decode b_M_writeOn 3 = .ok (.aload_n 0, 1) := by decide +kernel
theorem d_M_writeOn_4 : decode b_M_writeOn 4 = .ok (.getfield 327, 3) := by decide +kernel
theorem d_M_writeOn_7 : decode b_M_writeOn 7 = .ok (.iconst 0, 1) := by decide +kernel
theorem d_M_writeOn_8 : decode b_M_writeOn 8 = .ok (.lload_n 2, 1) := by decide +kernel
theorem d_M_writeOn_9 : decode b_M_writeOn 9 = .ok (.lastore, 1) := by decide +kernel
theorem d_M_writeOn_10 : decode b_M_writeOn 10 = .ok (.iload 4, 2) := by decide +kernel
theorem d_M_writeOn_12 : decode b_M_writeOn 12 = .ok (.ifCond .le 375, 3) := by decide +kernel
theorem d_M_writeOn_15 : decode b_M_writeOn 15 = .ok (.aload_n 0, 1) := by decide +kernel
theorem d_M_writeOn_16 : decode b_M_writeOn 16 = .ok (.getfield 724, 3) := by decide +kernel
theorem d_M_writeOn_19 : decode b_M_writeOn 19 = .ok (.bipush 100, 2) := by decide +kernel
theorem d_M_writeOn_21 : decode b_M_writeOn 21 = .ok (.if_icmp .ge 366, 3) := by decide +kernel
theorem d_M_writeOn_24 : decode b_M_writeOn 24 = .ok (.iinc 4 (-1), 3) := by decide +kernel
theorem d_M_writeOn_27 : decode b_M_writeOn 27 = .ok (.aload_n 0, 1) := by decide +kernel
theorem d_M_writeOn_28 : decode b_M_writeOn 28 = .ok (.getfield 327, 3) := by decide +kernel
theorem d_M_writeOn_31 : decode b_M_writeOn 31 = .ok (.iload 4, 2) := by decide +kernel
theorem d_M_writeOn_33 : decode b_M_writeOn 33 = .ok (.laload, 1) := by decide +kernel
theorem d_M_writeOn_34 : decode b_M_writeOn 34 = .ok (.lstore 5, 2) := by decide +kernel
theorem d_M_writeOn_36 : decode b_M_writeOn 36 = .ok (.lload 5, 2) := by decide +kernel
theorem d_M_writeOn_38 : decode b_M_writeOn 38 = .ok (.invokestatic 676, 3) := by decide +kernel
theorem d_M_writeOn_41 : decode b_M_writeOn 41 = .ok (.istore 7, 2) := by decide +kernel
theorem d_M_writeOn_43 : decode b_M_writeOn 43 = .ok (.lload 5, 2) := by decide +kernel
theorem d_M_writeOn_45 : decode b_M_writeOn 45 = .ok (.invokestatic 680, 3) := by decide +kernel
theorem d_M_writeOn_48 : decode b_M_writeOn 48 = .ok (.istore 8, 2) := by decide +kernel
theorem d_M_writeOn_50 : decode b_M_writeOn 50 = .ok (.iload 7, 2) := by decide +kernel
theorem d_M_writeOn_52 : decode b_M_writeOn 52 = .ok (.bipush 20, 2) := by decide +kernel
theorem d_M_writeOn_54 : decode b_M_writeOn 54 = .ok (.if_icmp .ne 12, 3) := by decide +kernel
theorem d_M_writeOn_57 : decode b_M_writeOn 57 = .ok (.aload_n 0, 1) := by decide +kernel
theorem d_M_writeOn_58 : decode b_M_writeOn 58 = .ok (.iload 8, 2) := by decide +kernel
theorem d_M_writeOn_60 : decode b_M_writeOn 60 = .ok (.invokevirtual 727, 3) := by decide +kernel
theorem d_M_writeOn_63 : decode b_M_writeOn 63 = .ok (.goto 321, 3) := by decide +kernel
theorem d_M_writeOn_66 : decode b_M_writeOn 66 = .ok (.iload 7, 2) := by decide +kernel
theorem d_M_writeOn_68 : decode b_M_writeOn 68 = .ok (.bipush 21, 2) := by decide +kernel
theorem d_M_writeOn_70 : decode b_M_writeOn 70 = .ok (.if_icmp .ne 17, 3) := by decide +kernel
theorem d_M_writeOn_73 : decode b_M_writeOn 73 = .ok (.aload_n 0, 1) := by decide +kernel
theorem d_M_writeOn_74 : decode b_M_writeOn 74 = .ok (.iload_n 1, 1) := by decide +kernel
theorem d_M_writeOn_75 : decode b_M_writeOn 75 = .ok (.iload 4, 2) := by decide +kernel
theorem d_M_writeOn_77 : decode b_M_writeOn 77 = .ok (.iload 8, 2) := by decide +kernel
theorem d_M_writeOn_79 : decode b_M_writeOn 79 = .ok (.invokevirtual 734, 3) := by decide +kernel
theorem d_M_writeOn_82 : decode b_M_writeOn 82 = .ok (.istore 4, 2) := by decide +kernel
theorem d_M_writeOn_84 : decode b_M_writeOn 84 = .ok (.goto 300, 3) := by decide +kernel
theorem d_M_writeOn_87 : decode b_M_writeOn 87 = .ok (.iload 7, 2) := by decide +kernel
theorem d_M_writeOn_89 : decode b_M_writeOn 89 = .ok (.ifCond .ne 12, 3) := by decide +kernel
theorem d_M_writeOn_92 : decode b_M_writeOn 92 = .ok (.aload_n 0, 1) := by decide +kernel
theorem d_M_writeOn_93 : decode b_M_writeOn 93 = .ok (.iload 8, 2) := by decide +kernel
theorem d_M_writeOn_95 : decode b_M_writeOn 95 = .ok (.invokevirtual 737, 3) := by decide +kernel
theorem d_M_writeOn_98 : decode b_M_writeOn 98 = .ok (.goto 286, 3) := by decide +kernel
theorem d_M_writeOn_101 : decode b_M_writeOn 101 = .ok (.iload 7, 2) := by decide +kernel
theorem d_M_writeOn_103 : decode b_M_writeOn 103 = .ok (.iconst 1, 1) := by decide +kernel
theorem d_M_writeOn_104 : decode b_M_writeOn 104 = .ok (.if_icmp .ne 46, 3) := by decide +kernel
theorem d_M_writeOn_107 : decode b_M_writeOn 107 = .ok (.aload_n 0, 1) := by decide +kernel
theorem d_M_writeOn_108 : decode b_M_writeOn 108 = .ok (.getfield 35, 3) := by decide +kernel
theorem d_M_writeOn_111 : decode b_M_writeOn 111 = .ok (.iload 8, 2) := by decide +kernel
theorem d_M_writeOn_113 : decode b_M_writeOn 113 = .ok (.iaload, 1) := by decide +kernel
theorem d_M_writeOn_114 : decode b_M_writeOn 114 = .ok (.istore 9, 2) := by decide +kernel
theorem d_M_writeOn_116 : decode b_M_writeOn 116 = .ok (.iload 9, 2) := by decide +kernel
theorem d_M_writeOn_118 : decode b_M_writeOn 118 = .ok (.aload_n 0, 1) := by decide +kernel
theorem d_M_writeOn_119 : decode b_M_writeOn 119 = .ok (.getfield 35, 3) := by decide +kernel
theorem d_M_writeOn_122 : decode b_M_writeOn 122 = .ok (.iload 8, 2) := by decide +kernel
theorem d_M_writeOn_124 : decode b_M_writeOn 124 = .ok (.iconst 1, 1) := by decide +kernel
theorem d_M_writeOn_125 : decode b_M_writeOn 125 = .ok (.iadd, 1) := by decide +kernel
theorem d_M_writeOn_126 : decode b_M_writeOn 126 = .ok (.iaload, 1) := by decide +kernel
theorem d_M_writeOn_127 : decode b_M_writeOn 127 = .ok (.if_icmp .ge 20, 3) := by decide +kernel
theorem d_M_writeOn_130 : decode b_M_writeOn 130 = .ok (.aload_n 0, 1) := by decide +kernel
theorem d_M_writeOn_131 : decode b_M_writeOn 131 = .ok (.aload_n 0, 1) := by decide +kernel
theorem d_M_writeOn_132 : decode b_M_writeOn 132 = .ok (.getfield 32, 3) := by decide +kernel
theorem d_M_writeOn_135 : decode b_M_writeOn 135 = .ok (.iload 9, 2) := by decide +kernel
theorem d_M_writeOn_137 : decode b_M_writeOn 137 = .ok (.baload, 1) := by decide +kernel
theorem d_M_writeOn_138 : decode b_M_writeOn 138 = .ok (.invokevirtual 727, 3) := by decide +kernel
theorem d_M_writeOn_141 : decode b_M_writeOn 141 = .ok (.iinc 9 1, 3) := by decide +kernel
theorem d_M_writeOn_144 : decode b_M_writeOn 144 = .ok (.goto (-28), 3) := by decide +kernel
theorem d_M_writeOn_147 : decode b_M_writeOn 147 = .ok (.goto 237, 3) := by decide +kernel
theorem d_M_writeOn_150 : decode b_M_writeOn 150 = .ok (.iload 7, 2) := by decide +kernel
theorem d_M_writeOn_152 : decode b_M_writeOn 152 = .ok (.iconst 4, 1) := by decide +kernel
theorem d_M_writeOn_153 : decode b_M_writeOn 153 = .ok (.if_icmp .ne 24, 3) := by decide +kernel
theorem d_M_writeOn_156 : decode b_M_writeOn 156 = .ok (.aload_n 0, 1) := by decide +kernel
theorem d_M_writeOn_157 : decode b_M_writeOn 157 = .ok (.bipush 60, 2) := by decide +kernel
theorem d_M_writeOn_159 : decode b_M_writeOn 159 = .ok (.invokevirtual 727, 3) := by decide +kernel
theorem d_M_writeOn_162 : decode b_M_writeOn 162 = .ok (.aload_n 0, 1) := by decide +kernel
theorem d_M_writeOn_163 : decode b_M_writeOn 163 = .ok (.iload 8, 2) := by decide +kernel
theorem d_M_writeOn_165 : decode b_M_writeOn 165 = .ok (.invokevirtual 737, 3) := by decide +kernel
theorem d_M_writeOn_168 : decode b_M_writeOn 168 = .ok (.aload_n 0, 1) := by decide +kernel
theorem d_M_writeOn_169 : decode b_M_writeOn 169 = .ok (.bipush 62, 2) := by decide +kernel
theorem d_M_writeOn_171 : decode b_M_writeOn 171 = .ok (.invokevirtual 727, 3) := by decide +kernel
theorem d_M_writeOn_174 : decode b_M_writeOn 174 = .ok (.goto 210, 3) := by decide +kernel
theorem d_M_writeOn_177 : decode b_M_writeOn 177 = .ok (.iload 7, 2) := by decide +kernel
theorem d_M_writeOn_179 : decode b_M_writeOn 179 = .ok (.iconst 2, 1) := by decide +kernel
theorem d_M_writeOn_180 : decode b_M_writeOn 180 = .ok (.if_icmp .ne 18, 3) := by decide +kernel
theorem d_M_writeOn_183 : decode b_M_writeOn 183 = .ok (.aload_n 0, 1) := by decide +kernel
theorem d_M_writeOn_184 : decode b_M_writeOn 184 = .ok (.bipush 35, 2) := by decide +kernel
theorem d_M_writeOn_186 : decode b_M_writeOn 186 = .ok (.invokevirtual 727, 3) := by decide +kernel
theorem d_M_writeOn_189 : decode b_M_writeOn 189 = .ok (.aload_n 0, 1) := by decide +kernel
theorem d_M_writeOn_190 : decode b_M_writeOn 190 = .ok (.iload 8, 2) := by decide +kernel
theorem d_M_writeOn_192 : decode b_M_writeOn 192 = .ok (.invokevirtual 737, 3) := by decide +kernel
theorem d_M_writeOn_195 : decode b_M_writeOn 195 = .ok (.goto 189, 3) := by decide +kernel
theorem d_M_writeOn_198 : decode b_M_writeOn 198 = .ok (.iload 7, 2) := by decide +kernel
theorem d_M_writeOn_200 : decode b_M_writeOn 200 = .ok (.iconst 3, 1) := by decide +kernel
theorem d_M_writeOn_201 : decode b_M_writeOn 201 = .ok (.if_icmp .ne 24, 3) := by decide +kernel
theorem d_M_writeOn_204 : decode b_M_writeOn 204 = .ok (.aload_n 0, 1) := by decide +kernel
theorem d_M_writeOn_205 : decode b_M_writeOn 205 = .ok (.bipush 102, 2) := by decide +kernel
theorem d_M_writeOn_207 : decode b_M_writeOn 207 = .ok (.invokevirtual 727, 3) := by decide +kernel
theorem d_M_writeOn_210 : decode b_M_writeOn 210 = .ok (.aload_n 0, 1) := by decide +kernel
theorem d_M_writeOn_211 : decode b_M_writeOn 211 = .ok (.bipush 117, 2) := by decide +kernel
theorem d_M_writeOn_213 : decode b_M_writeOn 213 = .ok (.invokevirtual 727, 3) := by decide +kernel
theorem d_M_writeOn_216 : decode b_M_writeOn 216 = .ok (.aload_n 0, 1) := by decide +kernel
theorem d_M_writeOn_217 : decode b_M_writeOn 217 = .ok (.bipush 110, 2) := by decide +kernel
theorem d_M_writeOn_219 : decode b_M_writeOn 219 = .ok (.invokevirtual 727, 3) := by decide +kernel
theorem d_M_writeOn_222 : decode b_M_writeOn 222 = .ok (.goto 162, 3) := by decide +kernel
theorem d_M_writeOn_225 : decode b_M_writeOn 225 = .ok (.iload 7, 2) := by decide +kernel
theorem d_M_writeOn_227 : decode b_M_writeOn 227 = .ok (.bipush 6, 2) := by decide +kernel
theorem d_M_writeOn_229 : decode b_M_writeOn 229 = .ok (.if_icmp .ne 18, 3) := by decide +kernel
theorem d_M_writeOn_232 : decode b_M_writeOn 232 = .ok (.aload_n 0, 1) := by decide +kernel
theorem d_M_writeOn_233 : decode b_M_writeOn 233 = .ok (.bipush 91, 2) := by decide +kernel
theorem d_M_writeOn_235 : decode b_M_writeOn 235 = .ok (.invokevirtual 727, 3) := by decide +kernel
theorem d_M_writeOn_238 : decode b_M_writeOn 238 = .ok (.aload_n 0, 1) := by decide +kernel
theorem d_M_writeOn_239 : decode b_M_writeOn 239 = .ok (.bipush 93, 2) := by decide +kernel
theorem d_M_writeOn_241 : decode b_M_writeOn 241 = .ok (.invokevirtual 727, 3) := by decide +kernel
theorem d_M_writeOn_244 : decode b_M_writeOn 244 = .ok (.goto 140, 3) := by decide +kernel
theorem d_M_writeOn_247 : decode b_M_writeOn 247 = .ok (.iload 7, 2) := by decide +kernel
theorem d_M_writeOn_249 : decode b_M_writeOn 249 = .ok (.bipush 7, 2) := by decide +kernel
theorem d_M_writeOn_251 : decode b_M_writeOn 251 = .ok (.if_icmp .ne 45, 3) := by decide +kernel
theorem d_M_writeOn_254 : decode b_M_writeOn 254 = .ok (.aload_n 0, 1) := by decide +kernel
theorem d_M_writeOn_255 : decode b_M_writeOn 255 = .ok (.bipush 91, 2) := by decide +kernel
theorem d_M_writeOn_257 : decode b_M_writeOn 257 = .ok (.invokevirtual 727, 3) := by decide +kernel
theorem d_M_writeOn_260 : decode b_M_writeOn 260 = .ok (.aload_n 0, 1) := by decide +kernel
theorem d_M_writeOn_261 : decode b_M_writeOn 261 = .ok (.getfield 327, 3) := by decide +kernel
theorem d_M_writeOn_264 : decode b_M_writeOn 264 = .ok (.iload 4, 2) := by decide +kernel
theorem d_M_writeOn_266 : decode b_M_writeOn 266 = .ok (.bipush 21, 2) := by decide +kernel
theorem d_M_writeOn_268 : decode b_M_writeOn 268 = .ok (.iload 8, 2) := by decide +kernel
theorem d_M_writeOn_270 : decode b_M_writeOn 270 = .ok (.invokestatic 315, 3) := by decide +kernel
theorem d_M_writeOn_273 : decode b_M_writeOn 273 = .ok (.lastore, 1) := by decide +kernel
theorem d_M_writeOn_274 : decode b_M_writeOn 274 = .ok (.aload_n 0, 1) := by decide +kernel
theorem d_M_writeOn_275 : decode b_M_writeOn 275 = .ok (.getfield 327, 3) := by decide +kernel
theorem d_M_writeOn_278 : decode b_M_writeOn 278 = .ok (.iload 4, 2) := by decide +kernel
theorem d_M_writeOn_280 : decode b_M_writeOn 280 = .ok (.iconst 1, 1) := by decide +kernel
theorem d_M_writeOn_281 : decode b_M_writeOn 281 = .ok (.iadd, 1) := by decide +kernel
theorem d_M_writeOn_282 : decode b_M_writeOn 282 = .ok (.aload_n 0, 1) := by decide +kernel
theorem d_M_writeOn_283 : decode b_M_writeOn 283 = .ok (.iload_n 1, 1) := by decide +kernel
theorem d_M_writeOn_284 : decode b_M_writeOn 284 = .ok (.iload 8, 2) := by decide +kernel
theorem d_M_writeOn_286 : decode b_M_writeOn 286 = .ok (.invokevirtual 683, 3) := by decide +kernel
theorem d_M_writeOn_289 : decode b_M_writeOn 289 = .ok (.lastore, 1) := by decide +kernel
theorem d_M_writeOn_290 : decode b_M_writeOn 290 = .ok (.iinc 4 2, 3) := by decide +kernel
theorem d_M_writeOn_293 : decode b_M_writeOn 293 = .ok (.goto 91, 3) := by decide +kernel
theorem d_M_writeOn_296 : decode b_M_writeOn 296 = .ok (.aload_n 0, 1) := by decide +kernel
theorem d_M_writeOn_297 : decode b_M_writeOn 297 = .ok (.bipush 123, 2) := by decide +kernel
theorem d_M_writeOn_299 : decode b_M_writeOn 299 = .ok (.invokevirtual 727, 3) := by decide +kernel
theorem d_M_writeOn_302 : decode b_M_writeOn 302 = .ok (.aload_n 0, 1) := by decide +kernel
theorem d_M_writeOn_303 : decode b_M_writeOn 303 = .ok (.getfield 327, 3) := by decide +kernel
theorem d_M_writeOn_306 : decode b_M_writeOn 306 = .ok (.iload 4, 2) := by decide +kernel
theorem d_M_writeOn_308 : decode b_M_writeOn 308 = .ok (.bipush 20, 2) := by decide +kernel
theorem d_M_writeOn_310 : decode b_M_writeOn 310 = .ok (.bipush 125, 2) := by decide +kernel
theorem d_M_writeOn_312 : decode b_M_writeOn 312 = .ok (.invokestatic 315, 3) := by decide +kernel
theorem d_M_writeOn_315 : decode b_M_writeOn 315 = .ok (.lastore, 1) := by decide +kernel
theorem d_M_writeOn_316 : decode b_M_writeOn 316 = .ok (.iinc 4 1, 3) := by decide +kernel
theorem d_M_writeOn_319 : decode b_M_writeOn 319 = .ok (.aload_n 0, 1) := by decide +kernel
theorem d_M_writeOn_320 : decode b_M_writeOn 320 = .ok (.iload_n 1, 1) := by decide +kernel
theorem d_M_writeOn_321 : decode b_M_writeOn 321 = .ok (.iload 8, 2) := by decide +kernel
theorem d_M_writeOn_323 : decode b_M_writeOn 323 = .ok (.invokevirtual 683, 3) := by decide +kernel
theorem d_M_writeOn_326 : decode b_M_writeOn 326 = .ok (.l2i, 1) := by decide +kernel
theorem d_M_writeOn_327 : decode b_M_writeOn 327 = .ok (.istore 9, 2) := by decide +kernel
theorem d_M_writeOn_329 : decode b_M_writeOn 329 = .ok (.iload 9, 2) := by decide +kernel
theorem d_M_writeOn_331 : decode b_M_writeOn 331 = .ok (.iconst 1, 1) := by decide +kernel
theorem d_M_writeOn_332 : decode b_M_writeOn 332 = .ok (.if_icmp .lt 52, 3) := by decide +kernel
theorem d_M_writeOn_335 : decode b_M_writeOn 335 = .ok (.aload_n 0, 1) := by decide +kernel
theorem d_M_writeOn_336 : decode b_M_writeOn 336 = .ok (.getfield 327, 3) := by decide +kernel
theorem d_M_writeOn_339 : decode b_M_writeOn 339 = .ok (.iload 4, 2) := by decide +kernel
theorem d_M_writeOn_341 : decode b_M_writeOn 341 = .ok (.aload_n 0, 1) := by decide +kernel
theorem d_M_writeOn_342 : decode b_M_writeOn 342 = .ok (.iload_n 1, 1) := by decide +kernel
theorem d_M_writeOn_343 : decode b_M_writeOn 343 = .ok (.iload 8, 2) := by decide +kernel
theorem d_M_writeOn_345 : decode b_M_writeOn 345 = .ok (.iload 9, 2) := by decide +kernel
theorem d_M_writeOn_347 : decode b_M_writeOn 347 = .ok (.iadd, 1) := by decide +kernel
theorem d_M_writeOn_348 : decode b_M_writeOn 348 = .ok (.invokevirtual 683, 3) := by decide +kernel
theorem d_M_writeOn_351 : decode b_M_writeOn 351 = .ok (.lastore, 1) := by decide +kernel
theorem d_M_writeOn_352 : decode b_M_writeOn 352 = .ok (.iinc 4 1, 3) := by decide +kernel
theorem d_M_writeOn_355 : decode b_M_writeOn 355 = .ok (.iload 9, 2) := by decide +kernel
theorem d_M_writeOn_357 : decode b_M_writeOn 357 = .ok (.iconst 1, 1) := by decide +kernel
theorem d_M_writeOn_358 : decode b_M_writeOn 358 = .ok (.if_icmp .le 20, 3) := by decide +kernel
theorem d_M_writeOn_361 : decode b_M_writeOn 361 = .ok (.aload_n 0, 1) := by decide +kernel
theorem d_M_writeOn_362 : decode b_M_writeOn 362 = .ok (.getfield 327, 3) := by decide +kernel
theorem d_M_writeOn_365 : decode b_M_writeOn 365 = .ok (.iload 4, 2) := by decide +kernel
theorem d_M_writeOn_367 : decode b_M_writeOn 367 = .ok (.bipush 20, 2) := by decide +kernel
theorem d_M_writeOn_369 : decode b_M_writeOn 369 = .ok (.bipush 44, 2) := by decide +kernel
theorem d_M_writeOn_371 : decode b_M_writeOn 371 = .ok (.invokestatic 315, 3) := by decide +kernel
theorem d_M_writeOn_374 : decode b_M_writeOn 374 = .ok (.lastore, 1) := by decide +kernel
theorem d_M_writeOn_375 : decode b_M_writeOn 375 = .ok (.iinc 4 1, 3) := by decide +kernel
theorem d_M_writeOn_378 : decode b_M_writeOn 378 = .ok (.iinc 9 (-1), 3) := by decide +kernel
theorem d_M_writeOn_381 : decode b_M_writeOn 381 = .ok (.goto (-52), 3) := by decide +kernel
theorem d_M_writeOn_384 : decode b_M_writeOn 384 = .ok (.goto (-374), 3) := by decide +kernel
theorem d_M_writeOn_387 : decode b_M_writeOn 387 = .ok (.return_, 1) := by decide +kernel
set_option maxRecDepth 100000 in
theorem hl_M_writeOn : Cond.methodLink R_M 730 y_M_writeOn ∈ wd_tbl := wd_of 3115 (by decide +kernel) rfl
set_option maxRecDepth 100000 in
theorem hi_M_writeOn : Cond.instanceMethod y_M_writeOn ∈ wd_tbl := wd_of 3117 (by decide +kernel) rfl
set_option maxRecDepth 100000 in
theorem hs_M_writeOn : Cond.selects R_M y_M_writeOn y_M_writeOn ∈ wd_tbl := wd_of 234 (by decide +kernel) rfl
theorem hd_M_writeOn : y_M_writeOn.cls = R_M ∧ y_M_writeOn.cls ≠ "java/lang/invoke/MethodHandle" ∧ y_M_writeOn.cls ≠ "java/lang/invoke/VarHandle" ∧ (parseMethodDescriptor y_M_writeOn.desc).map (fun d => d.parameters.length) = some 2 := by decide +kernel
def rm_M_writeOn : Room := { frames := 2, cells := 0, slots := 0, locals := 48 }
theorem rm_M_writeOn_M_sortOf {R : Room} (hR : R = rm_M_writeOn) : (rm_M_sortOf).frames + 1 ≤ R.frames ∧ 8 + (2 + 11) + (rm_M_sortOf).locals ≤ R.locals := by subst hR; decide
theorem rm_M_writeOn_M_valueOf {R : Room} (hR : R = rm_M_writeOn) : (rm_M_valueOf).frames + 1 ≤ R.frames ∧ 8 + (2 + 11) + (rm_M_valueOf).locals ≤ R.locals := by subst hR; decide
theorem rm_M_writeOn_M_sign {R : Room} (hR : R = rm_M_writeOn) : (rm_M_sign).frames + 1 ≤ R.frames ∧ 8 + (2 + 11) + (rm_M_sign).locals ≤ R.locals := by subst hR; decide
theorem rm_M_writeOn_M_restOfList {R : Room} (hR : R = rm_M_writeOn) : (rm_M_restOfList).frames + 1 ≤ R.frames ∧ 8 + (7 + 11) + (rm_M_restOfList).locals ≤ R.locals := by subst hR; decide
theorem rm_M_writeOn_M_digits {R : Room} (hR : R = rm_M_writeOn) : (rm_M_digits).frames + 1 ≤ R.frames ∧ 8 + (6 + 11) + (rm_M_digits).locals ≤ R.locals := by subst hR; decide
theorem rm_M_writeOn_M_term {R : Room} (hR : R = rm_M_writeOn) : (rm_M_term).frames + 1 ≤ R.frames ∧ 8 + (2 + 11) + (rm_M_term).locals ≤ R.locals := by subst hR; decide
theorem rm_M_writeOn_M_cell {R : Room} (hR : R = rm_M_writeOn) : (rm_M_cell).frames + 1 ≤ R.frames ∧ 8 + (3 + 11) + (rm_M_cell).locals ≤ R.locals := by subst hR; decide
