def fb_M_writeOn_387 (N : Nat) (G : (MS → Int32 → Int32 → Option (MS × Unit)) × (MS → Int32 → Int32 → Int32 → Int32 → Option (MS × Unit)) × (MS → Int32 → Int32 → Int32 → Int32 → Option (MS × Unit))) (u : MS) : Option (MS × Unit) := some (u, ())
set_option maxRecDepth 100000 in
set_option maxHeartbeats 4000000 in
theorem wb_M_writeOn_387 {p : Program} {l : Launch} {e : Env} {R : Room} {s : State} {m : MethodId} {args : Array Value} {below : List Frame} {meth : Method} {c : Code} {D : va_G} {cl : List vw_C} {cB cI cJ cZ cS : ClassId} {A : Nat → Prop} {iM h0 : Nat} {ad : Nat → Nat} (C0 : MCx p s m args meth c b_M_writeOn 10 none D cl cB cI cJ cZ cS iM A) (hR : R = rm_M_writeOn) (N : Nat) (G : (MS → Int32 → Int32 → Option (MS × Unit)) × (MS → Int32 → Int32 → Int32 → Int32 → Option (MS × Unit)) × (MS → Int32 → Int32 → Int32 → Int32 → Option (MS × Unit))) (hG : (∀ (u : MS) (v1 : Int32) (v4 : Int32) (x : MS × Unit), G.1 u v1 v4 = some x → ∀ (H : Heap) (locs : List Loc), va_P D cl (wM cB cI cJ cZ cS iM h0 ad u) H → va_D A (wM cB cI cJ cZ cS iM h0 ad u) → va_S A s.heap H locs → ∀ (ls : Array Slot), lv_has ls 10 [(0, .ref h0), (1, .int v1), (4, .int v4)] → W p l e R s m args below meth c H locs 0 0 (MQ below (mQv D cl cB cI cJ cZ cS iM h0 ad A x) args s 0 0 A) (F0 m 10 ls [])) ∧ (∀ (u : MS) (v1 : Int32) (v4 : Int32) (v8 : Int32) (v9 : Int32) (x : MS × Unit), G.2.1 u v1 v4 v8 v9 = some x → ∀ (H : Heap) (locs : List Loc), va_P D cl (wM cB cI cJ cZ cS iM h0 ad u) H → va_D A (wM cB cI cJ cZ cS iM h0 ad u) → va_S A s.heap H locs → ∀ (ls : Array Slot), lv_has ls 10 [(0, .ref h0), (1, .int v1), (4, .int v4), (8, .int v8), (9, .int v9)] → W p l e R s m args below meth c H locs 0 0 (MQ below (mQv D cl cB cI cJ cZ cS iM h0 ad A x) args s 0 0 A) (F0 m 116 ls [])) ∧ (∀ (u : MS) (v1 : Int32) (v4 : Int32) (v8 : Int32) (v9 : Int32) (x : MS × Unit), G.2.2 u v1 v4 v8 v9 = some x → ∀ (H : Heap) (locs : List Loc), va_P D cl (wM cB cI cJ cZ cS iM h0 ad u) H → va_D A (wM cB cI cJ cZ cS iM h0 ad u) → va_S A s.heap H locs → ∀ (ls : Array Slot), lv_has ls 10 [(0, .ref h0), (1, .int v1), (4, .int v4), (8, .int v8), (9, .int v9)] → W p l e R s m args below meth c H locs 0 0 (MQ below (mQv D cl cB cI cJ cZ cS iM h0 ad A x) args s 0 0 A) (F0 m 329 ls []))) : ∀ (u : MS) (x : MS × Unit), fb_M_writeOn_387 N G u = some x → ∀ (H : Heap) (locs : List Loc), va_P D cl (wM cB cI cJ cZ cS iM h0 ad u) H → va_D A (wM cB cI cJ cZ cS iM h0 ad u) → va_S A s.heap H locs → ∀ (ls : Array Slot), lv_has ls 10 [] → W p l e R s m args below meth c H locs 0 0 (MQ below (mQv D cl cB cI cJ cZ cS iM h0 ad A x) args s 0 0 A) (F0 m 387 ls []) := by
  intro u x hf H locs hP hD hS ls hl
  obtain ⟨hx, hb, hr, hml, ht, hown, hM, hK, hA, hlocks⟩ := id C0
  unfold fb_M_writeOn_387 at hf
  exact mr_v C0 hP hD hS hf d_M_writeOn_387
def fb_M_writeOn_384 (N : Nat) (G : (MS → Int32 → Int32 → Option (MS × Unit)) × (MS → Int32 → Int32 → Int32 → Int32 → Option (MS × Unit)) × (MS → Int32 → Int32 → Int32 → Int32 → Option (MS × Unit))) (u : MS) (v1 : Int32) (v4 : Int32) : Option (MS × Unit) := G.1 u (v1) (v4)
set_option maxRecDepth 100000 in
set_option maxHeartbeats 4000000 in
theorem wb_M_writeOn_384 {p : Program} {l : Launch} {e : Env} {R : Room} {s : State} {m : MethodId} {args : Array Value} {below : List Frame} {meth : Method} {c : Code} {D : va_G} {cl : List vw_C} {cB cI cJ cZ cS : ClassId} {A : Nat → Prop} {iM h0 : Nat} {ad : Nat → Nat} (C0 : MCx p s m args meth c b_M_writeOn 10 none D cl cB cI cJ cZ cS iM A) (hR : R = rm_M_writeOn) (N : Nat) (G : (MS → Int32 → Int32 → Option (MS × Unit)) × (MS → Int32 → Int32 → Int32 → Int32 → Option (MS × Unit)) × (MS → Int32 → Int32 → Int32 → Int32 → Option (MS × Unit))) (hG : (∀ (u : MS) (v1 : Int32) (v4 : Int32) (x : MS × Unit), G.1 u v1 v4 = some x → ∀ (H : Heap) (locs : List Loc), va_P D cl (wM cB cI cJ cZ cS iM h0 ad u) H → va_D A (wM cB cI cJ cZ cS iM h0 ad u) → va_S A s.heap H locs → ∀ (ls : Array Slot), lv_has ls 10 [(0, .ref h0), (1, .int v1), (4, .int v4)] → W p l e R s m args below meth c H locs 0 0 (MQ below (mQv D cl cB cI cJ cZ cS iM h0 ad A x) args s 0 0 A) (F0 m 10 ls [])) ∧ (∀ (u : MS) (v1 : Int32) (v4 : Int32) (v8 : Int32) (v9 : Int32) (x : MS × Unit), G.2.1 u v1 v4 v8 v9 = some x → ∀ (H : Heap) (locs : List Loc), va_P D cl (wM cB cI cJ cZ cS iM h0 ad u) H → va_D A (wM cB cI cJ cZ cS iM h0 ad u) → va_S A s.heap H locs → ∀ (ls : Array Slot), lv_has ls 10 [(0, .ref h0), (1, .int v1), (4, .int v4), (8, .int v8), (9, .int v9)] → W p l e R s m args below meth c H locs 0 0 (MQ below (mQv D cl cB cI cJ cZ cS iM h0 ad A x) args s 0 0 A) (F0 m 116 ls [])) ∧ (∀ (u : MS) (v1 : Int32) (v4 : Int32) (v8 : Int32) (v9 : Int32) (x : MS × Unit), G.2.2 u v1 v4 v8 v9 = some x → ∀ (H : Heap) (locs : List Loc), va_P D cl (wM cB cI cJ cZ cS iM h0 ad u) H → va_D A (wM cB cI cJ cZ cS iM h0 ad u) → va_S A s.heap H locs → ∀ (ls : Array Slot), lv_has ls 10 [(0, .ref h0), (1, .int v1), (4, .int v4), (8, .int v8), (9, .int v9)] → W p l e R s m args below meth c H locs 0 0 (MQ below (mQv D cl cB cI cJ cZ cS iM h0 ad A x) args s 0 0 A) (F0 m 329 ls []))) : ∀ (u : MS) (v1 : Int32) (v4 : Int32) (x : MS × Unit), fb_M_writeOn_384 N G u v1 v4 = some x → ∀ (H : Heap) (locs : List Loc), va_P D cl (wM cB cI cJ cZ cS iM h0 ad u) H → va_D A (wM cB cI cJ cZ cS iM h0 ad u) → va_S A s.heap H locs → ∀ (ls : Array Slot), lv_has ls 10 [(0, .ref h0), (1, .int v1), (4, .int v4)] → W p l e R s m args below meth c H locs 0 0 (MQ below (mQv D cl cB cI cJ cZ cS iM h0 ad A x) args s 0 0 A) (F0 m 384 ls []) := by
  intro u v1 v4 x hf H locs hP hD hS ls hl
  obtain ⟨hx, hb, hr, hml, ht, hown, hM, hK, hA, hlocks⟩ := id C0
  unfold fb_M_writeOn_384 at hf
  refine lv_goto (tgt := 10) hx hb d_M_writeOn_384 (by decide) ?_
  exact hG.1 _ _ _ _ hf H locs hP hD hS ls (lv_sub hl [0, 1, 2] rfl)
def fb_M_writeOn_378 (N : Nat) (G : (MS → Int32 → Int32 → Option (MS × Unit)) × (MS → Int32 → Int32 → Int32 → Int32 → Option (MS × Unit)) × (MS → Int32 → Int32 → Int32 → Int32 → Option (MS × Unit))) (u : MS) (v1 : Int32) (v4 : Int32) (v8 : Int32) (v9 : Int32) : Option (MS × Unit) := G.2.2 u (v1) (v4) (v8) ((v9 + (-1)))
set_option maxRecDepth 100000 in
set_option maxHeartbeats 4000000 in
theorem wb_M_writeOn_378 {p : Program} {l : Launch} {e : Env} {R : Room} {s : State} {m : MethodId} {args : Array Value} {below : List Frame} {meth : Method} {c : Code} {D : va_G} {cl : List vw_C} {cB cI cJ cZ cS : ClassId} {A : Nat → Prop} {iM h0 : Nat} {ad : Nat → Nat} (C0 : MCx p s m args meth c b_M_writeOn 10 none D cl cB cI cJ cZ cS iM A) (hR : R = rm_M_writeOn) (N : Nat) (G : (MS → Int32 → Int32 → Option (MS × Unit)) × (MS → Int32 → Int32 → Int32 → Int32 → Option (MS × Unit)) × (MS → Int32 → Int32 → Int32 → Int32 → Option (MS × Unit))) (hG : (∀ (u : MS) (v1 : Int32) (v4 : Int32) (x : MS × Unit), G.1 u v1 v4 = some x → ∀ (H : Heap) (locs : List Loc), va_P D cl (wM cB cI cJ cZ cS iM h0 ad u) H → va_D A (wM cB cI cJ cZ cS iM h0 ad u) → va_S A s.heap H locs → ∀ (ls : Array Slot), lv_has ls 10 [(0, .ref h0), (1, .int v1), (4, .int v4)] → W p l e R s m args below meth c H locs 0 0 (MQ below (mQv D cl cB cI cJ cZ cS iM h0 ad A x) args s 0 0 A) (F0 m 10 ls [])) ∧ (∀ (u : MS) (v1 : Int32) (v4 : Int32) (v8 : Int32) (v9 : Int32) (x : MS × Unit), G.2.1 u v1 v4 v8 v9 = some x → ∀ (H : Heap) (locs : List Loc), va_P D cl (wM cB cI cJ cZ cS iM h0 ad u) H → va_D A (wM cB cI cJ cZ cS iM h0 ad u) → va_S A s.heap H locs → ∀ (ls : Array Slot), lv_has ls 10 [(0, .ref h0), (1, .int v1), (4, .int v4), (8, .int v8), (9, .int v9)] → W p l e R s m args below meth c H locs 0 0 (MQ below (mQv D cl cB cI cJ cZ cS iM h0 ad A x) args s 0 0 A) (F0 m 116 ls [])) ∧ (∀ (u : MS) (v1 : Int32) (v4 : Int32) (v8 : Int32) (v9 : Int32) (x : MS × Unit), G.2.2 u v1 v4 v8 v9 = some x → ∀ (H : Heap) (locs : List Loc), va_P D cl (wM cB cI cJ cZ cS iM h0 ad u) H → va_D A (wM cB cI cJ cZ cS iM h0 ad u) → va_S A s.heap H locs → ∀ (ls : Array Slot), lv_has ls 10 [(0, .ref h0), (1, .int v1), (4, .int v4), (8, .int v8), (9, .int v9)] → W p l e R s m args below meth c H locs 0 0 (MQ below (mQv D cl cB cI cJ cZ cS iM h0 ad A x) args s 0 0 A) (F0 m 329 ls []))) : ∀ (u : MS) (v1 : Int32) (v4 : Int32) (v8 : Int32) (v9 : Int32) (x : MS × Unit), fb_M_writeOn_378 N G u v1 v4 v8 v9 = some x → ∀ (H : Heap) (locs : List Loc), va_P D cl (wM cB cI cJ cZ cS iM h0 ad u) H → va_D A (wM cB cI cJ cZ cS iM h0 ad u) → va_S A s.heap H locs → ∀ (ls : Array Slot), lv_has ls 10 [(0, .ref h0), (1, .int v1), (4, .int v4), (8, .int v8), (9, .int v9)] → W p l e R s m args below meth c H locs 0 0 (MQ below (mQv D cl cB cI cJ cZ cS iM h0 ad A x) args s 0 0 A) (F0 m 378 ls []) := by
  intro u v1 v4 v8 v9 x hf H locs hP hD hS ls hl
  obtain ⟨hx, hb, hr, hml, ht, hown, hM, hK, hA, hlocks⟩ := id C0
  unfold fb_M_writeOn_378 at hf
  refine lv_iinc (v := (v9 + (-1))) (lv' := [(9, .int (v9 + (-1))), (0, .ref h0), (1, .int v1), (4, .int v4), (8, .int v8)]) hx hb d_M_writeOn_378 hl (k := 4) rfl rfl (by decide) rfl (fun ls hl => ?_)
  refine lv_goto (tgt := 329) hx hb d_M_writeOn_381 (by decide) ?_
  exact hG.2.2 _ _ _ _ _ _ hf H locs hP hD hS ls (lv_sub hl [1, 2, 3, 4, 0] rfl)
def fb_M_writeOn_329 (N : Nat) (G : (MS → Int32 → Int32 → Option (MS × Unit)) × (MS → Int32 → Int32 → Int32 → Int32 → Option (MS × Unit)) × (MS → Int32 → Int32 → Int32 → Int32 → Option (MS × Unit))) (u : MS) (v1 : Int32) (v4 : Int32) (v8 : Int32) (v9 : Int32) : Option (MS × Unit) := br (decide (v9 < 1)) (fb_M_writeOn_384 N G u (v1) (v4)) (bnd (fm_M_cell N u v1 (v8 + v9)) (fun u1 r1 => ck (inb v4 (ln 141)) (lt (upJ u1 141 (vp_updL (u1.2.2.2 141) v4.toNatClampNeg r1)) (fun w2 => br (decide (v9 ≤ 1)) (fb_M_writeOn_378 N G w2 (v1) ((v4 + 1)) (v8) (v9)) (bnd (fm_M_term N w2 20 44) (fun u3 r3 => ck (inb (v4 + 1) (ln 141)) (lt (upJ u3 141 (vp_updL (u3.2.2.2 141) (v4 + 1).toNatClampNeg r3)) (fun w4 => fb_M_writeOn_378 N G w4 (v1) (((v4 + 1) + 1)) (v8) (v9)))))))))
set_option maxRecDepth 100000 in
set_option maxHeartbeats 4000000 in
theorem wb_M_writeOn_329 {p : Program} {l : Launch} {e : Env} {R : Room} {s : State} {m : MethodId} {args : Array Value} {below : List Frame} {meth : Method} {c : Code} {D : va_G} {cl : List vw_C} {cB cI cJ cZ cS : ClassId} {A : Nat → Prop} {iM h0 : Nat} {ad : Nat → Nat} (C0 : MCx p s m args meth c b_M_writeOn 10 none D cl cB cI cJ cZ cS iM A) (hR : R = rm_M_writeOn) (N : Nat) (G : (MS → Int32 → Int32 → Option (MS × Unit)) × (MS → Int32 → Int32 → Int32 → Int32 → Option (MS × Unit)) × (MS → Int32 → Int32 → Int32 → Int32 → Option (MS × Unit))) (hG : (∀ (u : MS) (v1 : Int32) (v4 : Int32) (x : MS × Unit), G.1 u v1 v4 = some x → ∀ (H : Heap) (locs : List Loc), va_P D cl (wM cB cI cJ cZ cS iM h0 ad u) H → va_D A (wM cB cI cJ cZ cS iM h0 ad u) → va_S A s.heap H locs → ∀ (ls : Array Slot), lv_has ls 10 [(0, .ref h0), (1, .int v1), (4, .int v4)] → W p l e R s m args below meth c H locs 0 0 (MQ below (mQv D cl cB cI cJ cZ cS iM h0 ad A x) args s 0 0 A) (F0 m 10 ls [])) ∧ (∀ (u : MS) (v1 : Int32) (v4 : Int32) (v8 : Int32) (v9 : Int32) (x : MS × Unit), G.2.1 u v1 v4 v8 v9 = some x → ∀ (H : Heap) (locs : List Loc), va_P D cl (wM cB cI cJ cZ cS iM h0 ad u) H → va_D A (wM cB cI cJ cZ cS iM h0 ad u) → va_S A s.heap H locs → ∀ (ls : Array Slot), lv_has ls 10 [(0, .ref h0), (1, .int v1), (4, .int v4), (8, .int v8), (9, .int v9)] → W p l e R s m args below meth c H locs 0 0 (MQ below (mQv D cl cB cI cJ cZ cS iM h0 ad A x) args s 0 0 A) (F0 m 116 ls [])) ∧ (∀ (u : MS) (v1 : Int32) (v4 : Int32) (v8 : Int32) (v9 : Int32) (x : MS × Unit), G.2.2 u v1 v4 v8 v9 = some x → ∀ (H : Heap) (locs : List Loc), va_P D cl (wM cB cI cJ cZ cS iM h0 ad u) H → va_D A (wM cB cI cJ cZ cS iM h0 ad u) → va_S A s.heap H locs → ∀ (ls : Array Slot), lv_has ls 10 [(0, .ref h0), (1, .int v1), (4, .int v4), (8, .int v8), (9, .int v9)] → W p l e R s m args below meth c H locs 0 0 (MQ below (mQv D cl cB cI cJ cZ cS iM h0 ad A x) args s 0 0 A) (F0 m 329 ls []))) : ∀ (u : MS) (v1 : Int32) (v4 : Int32) (v8 : Int32) (v9 : Int32) (x : MS × Unit), fb_M_writeOn_329 N G u v1 v4 v8 v9 = some x → ∀ (H : Heap) (locs : List Loc), va_P D cl (wM cB cI cJ cZ cS iM h0 ad u) H → va_D A (wM cB cI cJ cZ cS iM h0 ad u) → va_S A s.heap H locs → ∀ (ls : Array Slot), lv_has ls 10 [(0, .ref h0), (1, .int v1), (4, .int v4), (8, .int v8), (9, .int v9)] → W p l e R s m args below meth c H locs 0 0 (MQ below (mQv D cl cB cI cJ cZ cS iM h0 ad A x) args s 0 0 A) (F0 m 329 ls []) := by
  intro u v1 v4 v8 v9 x hf H locs hP hD hS ls hl
  obtain ⟨hx, hb, hr, hml, ht, hown, hM, hK, hA, hlocks⟩ := id C0
  unfold fb_M_writeOn_329 at hf
  refine lv_iload hx hb d_M_writeOn_329 (lv_at hl 4 rfl) ?_
  refine lv_iconst (v := 1) hx hb d_M_writeOn_331 (by decide) ?_
  refine lv_icmp_lt (tgt := 384) hx hb d_M_writeOn_332 (by decide) (fun hc => ?_) (fun hc => ?_)
  · rw [br_p _ hc] at hf
    exact wb_M_writeOn_384 C0 hR N G hG _ _ _ _ hf H locs hP hD hS ls (lv_sub hl [0, 1, 2] rfl)
  · rw [br_n _ hc] at hf
    refine lv_aload_n hx hb d_M_writeOn_335 rfl (lv_at hl 0 rfl) ?_
    refine ug_R hx hb ht hown hM hK hP 141 (by decide) lk_M_141 (by decide) d_M_writeOn_336 ?_
    refine lv_iload hx hb d_M_writeOn_339 (lv_at hl 2 rfl) ?_
    refine lv_aload_n hx hb d_M_writeOn_341 rfl (lv_at hl 0 rfl) ?_
    refine lv_iload_n hx hb d_M_writeOn_342 rfl (lv_at hl 1 rfl) ?_
    refine lv_iload hx hb d_M_writeOn_343 (lv_at hl 3 rfl) ?_
    refine lv_iload hx hb d_M_writeOn_345 (lv_at hl 4 rfl) ?_
    refine lv_iadd hx hb d_M_writeOn_347 ?_
    obtain ⟨u1, r1, hc1, hf⟩ := bnd_some hf
    refine mV_l (As := [.int v1, .int (v8 + v9)]) (rest := [.int v4, .ref (ad 141)]) C0 hP hD hS (c_M_cell N hM hc1) k_M_cell hl_M_cell hi_M_cell hs_M_cell hini_M rfl rfl hd_M_cell rfl (rm_M_writeOn_M_cell hR) hl.1 (Nat.le_of_ble_eq_true rfl) d_M_writeOn_348 rfl ⟨Nat.zero_le _, Nat.zero_le _⟩ (fun H locs hP hD hS => ?_)
    obtain ⟨hi9, hf⟩ := ck_some hf
    refine us_J hx hb hK hP hD hS (by decide) (by decide) hi9 d_M_writeOn_351 (fun H locs hP hD hS => ?_)
    obtain ⟨w2, e2, hf⟩ := lt_some hf
    rw [← e2] at hP hD
    refine lv_iinc (v := (v4 + 1)) (lv' := [(4, .int (v4 + 1)), (0, .ref h0), (1, .int v1), (8, .int v8), (9, .int v9)]) hx hb d_M_writeOn_352 hl (k := 2) rfl rfl (by decide) rfl (fun ls hl => ?_)
    refine lv_iload hx hb d_M_writeOn_355 (lv_at hl 4 rfl) ?_
    refine lv_iconst (v := 1) hx hb d_M_writeOn_357 (by decide) ?_
    refine lv_icmp_le (tgt := 378) hx hb d_M_writeOn_358 (by decide) (fun hc => ?_) (fun hc => ?_)
    · rw [br_p _ hc] at hf
      exact wb_M_writeOn_378 C0 hR N G hG _ _ _ _ _ _ hf H locs hP hD hS ls (lv_sub hl [1, 2, 0, 3, 4] rfl)
    · rw [br_n _ hc] at hf
      refine lv_aload_n hx hb d_M_writeOn_361 rfl (lv_at hl 1 rfl) ?_
      refine ug_R hx hb ht hown hM hK hP 141 (by decide) lk_M_141 (by decide) d_M_writeOn_362 ?_
      refine lv_iload hx hb d_M_writeOn_365 (lv_at hl 0 rfl) ?_
      refine lv_bipush (v := 20) hx hb d_M_writeOn_367 (by decide) ?_
      refine lv_bipush (v := 44) hx hb d_M_writeOn_369 (by decide) ?_
      obtain ⟨u3, r3, hc3, hf⟩ := bnd_some hf
      refine mS_l (As := [.int 20, .int 44]) (rest := [.int (v4 + 1), .ref (ad 141)]) C0 hP hD hS (c_M_term N hM hc3) k_M_term hl_M_term ht_M_term hini_M rfl rfl hd_M_term rfl (rm_M_writeOn_M_term hR) hl.1 (Nat.le_of_ble_eq_true rfl) d_M_writeOn_371 rfl ⟨Nat.zero_le _, Nat.zero_le _⟩ (fun H locs hP hD hS => ?_)
      obtain ⟨hi9, hf⟩ := ck_some hf
      refine us_J hx hb hK hP hD hS (by decide) (by decide) hi9 d_M_writeOn_374 (fun H locs hP hD hS => ?_)
      obtain ⟨w4, e4, hf⟩ := lt_some hf
      rw [← e4] at hP hD
      refine lv_iinc (v := ((v4 + 1) + 1)) (lv' := [(4, .int ((v4 + 1) + 1)), (0, .ref h0), (1, .int v1), (8, .int v8), (9, .int v9)]) hx hb d_M_writeOn_375 hl (k := 0) rfl rfl (by decide) rfl (fun ls hl => ?_)
      exact wb_M_writeOn_378 C0 hR N G hG _ _ _ _ _ _ hf H locs hP hD hS ls (lv_sub hl [1, 2, 0, 3, 4] rfl)
def fb_M_writeOn_116 (N : Nat) (G : (MS → Int32 → Int32 → Option (MS × Unit)) × (MS → Int32 → Int32 → Int32 → Int32 → Option (MS × Unit)) × (MS → Int32 → Int32 → Int32 → Int32 → Option (MS × Unit))) (u : MS) (v1 : Int32) (v4 : Int32) (v8 : Int32) (v9 : Int32) : Option (MS × Unit) := ck (inb (v8 + 1) (ln 13)) (br (decide ((u.2.2.1 13 (v8 + 1).toNatClampNeg) ≤ v9)) (fb_M_writeOn_384 N G u (v1) (v4)) (ck (inb v9 (ln 12)) (bnd (fm_M_sign N u (u.2.2.1 12 v9.toNatClampNeg)) (fun u5 _ => G.2.1 u5 (v1) (v4) (v8) ((v9 + 1))))))
set_option maxRecDepth 100000 in
set_option maxHeartbeats 4000000 in
theorem wb_M_writeOn_116 {p : Program} {l : Launch} {e : Env} {R : Room} {s : State} {m : MethodId} {args : Array Value} {below : List Frame} {meth : Method} {c : Code} {D : va_G} {cl : List vw_C} {cB cI cJ cZ cS : ClassId} {A : Nat → Prop} {iM h0 : Nat} {ad : Nat → Nat} (C0 : MCx p s m args meth c b_M_writeOn 10 none D cl cB cI cJ cZ cS iM A) (hR : R = rm_M_writeOn) (N : Nat) (G : (MS → Int32 → Int32 → Option (MS × Unit)) × (MS → Int32 → Int32 → Int32 → Int32 → Option (MS × Unit)) × (MS → Int32 → Int32 → Int32 → Int32 → Option (MS × Unit))) (hG : (∀ (u : MS) (v1 : Int32) (v4 : Int32) (x : MS × Unit), G.1 u v1 v4 = some x → ∀ (H : Heap) (locs : List Loc), va_P D cl (wM cB cI cJ cZ cS iM h0 ad u) H → va_D A (wM cB cI cJ cZ cS iM h0 ad u) → va_S A s.heap H locs → ∀ (ls : Array Slot), lv_has ls 10 [(0, .ref h0), (1, .int v1), (4, .int v4)] → W p l e R s m args below meth c H locs 0 0 (MQ below (mQv D cl cB cI cJ cZ cS iM h0 ad A x) args s 0 0 A) (F0 m 10 ls [])) ∧ (∀ (u : MS) (v1 : Int32) (v4 : Int32) (v8 : Int32) (v9 : Int32) (x : MS × Unit), G.2.1 u v1 v4 v8 v9 = some x → ∀ (H : Heap) (locs : List Loc), va_P D cl (wM cB cI cJ cZ cS iM h0 ad u) H → va_D A (wM cB cI cJ cZ cS iM h0 ad u) → va_S A s.heap H locs → ∀ (ls : Array Slot), lv_has ls 10 [(0, .ref h0), (1, .int v1), (4, .int v4), (8, .int v8), (9, .int v9)] → W p l e R s m args below meth c H locs 0 0 (MQ below (mQv D cl cB cI cJ cZ cS iM h0 ad A x) args s 0 0 A) (F0 m 116 ls [])) ∧ (∀ (u : MS) (v1 : Int32) (v4 : Int32) (v8 : Int32) (v9 : Int32) (x : MS × Unit), G.2.2 u v1 v4 v8 v9 = some x → ∀ (H : Heap) (locs : List Loc), va_P D cl (wM cB cI cJ cZ cS iM h0 ad u) H → va_D A (wM cB cI cJ cZ cS iM h0 ad u) → va_S A s.heap H locs → ∀ (ls : Array Slot), lv_has ls 10 [(0, .ref h0), (1, .int v1), (4, .int v4), (8, .int v8), (9, .int v9)] → W p l e R s m args below meth c H locs 0 0 (MQ below (mQv D cl cB cI cJ cZ cS iM h0 ad A x) args s 0 0 A) (F0 m 329 ls []))) : ∀ (u : MS) (v1 : Int32) (v4 : Int32) (v8 : Int32) (v9 : Int32) (x : MS × Unit), fb_M_writeOn_116 N G u v1 v4 v8 v9 = some x → ∀ (H : Heap) (locs : List Loc), va_P D cl (wM cB cI cJ cZ cS iM h0 ad u) H → va_D A (wM cB cI cJ cZ cS iM h0 ad u) → va_S A s.heap H locs → ∀ (ls : Array Slot), lv_has ls 10 [(0, .ref h0), (1, .int v1), (4, .int v4), (8, .int v8), (9, .int v9)] → W p l e R s m args below meth c H locs 0 0 (MQ below (mQv D cl cB cI cJ cZ cS iM h0 ad A x) args s 0 0 A) (F0 m 116 ls []) := by
  intro u v1 v4 v8 v9 x hf H locs hP hD hS ls hl
  obtain ⟨hx, hb, hr, hml, ht, hown, hM, hK, hA, hlocks⟩ := id C0
  unfold fb_M_writeOn_116 at hf
  refine lv_iload hx hb d_M_writeOn_116 (lv_at hl 4 rfl) ?_
  refine lv_aload_n hx hb d_M_writeOn_118 rfl (lv_at hl 0 rfl) ?_
  refine ug_R hx hb ht hown hM hK hP 13 (by decide) lk_M_13 (by decide) d_M_writeOn_119 ?_
  refine lv_iload hx hb d_M_writeOn_122 (lv_at hl 3 rfl) ?_
  refine lv_iconst (v := 1) hx hb d_M_writeOn_124 (by decide) ?_
  refine lv_iadd hx hb d_M_writeOn_125 ?_
  obtain ⟨hi9, hf⟩ := ck_some hf
  refine ul_I hx hb hK hP (by decide) (by decide) hi9 d_M_writeOn_126 ?_
  refine lv_icmp_ge (tgt := 147) hx hb d_M_writeOn_127 (by decide) (fun hc => ?_) (fun hc => ?_)
  · rw [br_p _ hc] at hf
    refine lv_goto (tgt := 384) hx hb d_M_writeOn_147 (by decide) ?_
    exact wb_M_writeOn_384 C0 hR N G hG _ _ _ _ hf H locs hP hD hS ls (lv_sub hl [0, 1, 2] rfl)
  · rw [br_n _ hc] at hf
    refine lv_aload_n hx hb d_M_writeOn_130 rfl (lv_at hl 0 rfl) ?_
    refine lv_aload_n hx hb d_M_writeOn_131 rfl (lv_at hl 0 rfl) ?_
    refine ug_R hx hb ht hown hM hK hP 12 (by decide) lk_M_12 (by decide) d_M_writeOn_132 ?_
    refine lv_iload hx hb d_M_writeOn_135 (lv_at hl 4 rfl) ?_
    obtain ⟨hi9, hf⟩ := ck_some hf
    refine ul_B hx hb hK hP (by decide) (by decide) hi9 d_M_writeOn_137 ?_
    obtain ⟨u5, r5, hc5, hf⟩ := bnd_some hf
    refine mV_v (As := [.int (u.2.2.1 12 v9.toNatClampNeg)]) (rest := []) C0 hP hD hS (c_M_sign N hM hc5) k_M_sign hl_M_sign hi_M_sign hs_M_sign hini_M rfl rfl hd_M_sign rfl (rm_M_writeOn_M_sign hR) hl.1 (Nat.le_of_ble_eq_true rfl) d_M_writeOn_138 rfl ⟨Nat.zero_le _, Nat.zero_le _⟩ (fun H locs hP hD hS => ?_)
    refine lv_iinc (v := (v9 + 1)) (lv' := [(9, .int (v9 + 1)), (0, .ref h0), (1, .int v1), (4, .int v4), (8, .int v8)]) hx hb d_M_writeOn_141 hl (k := 4) rfl rfl (by decide) rfl (fun ls hl => ?_)
    refine lv_goto (tgt := 116) hx hb d_M_writeOn_144 (by decide) ?_
    exact hG.2.1 _ _ _ _ _ _ hf H locs hP hD hS ls (lv_sub hl [1, 2, 3, 4, 0] rfl)
def fb_M_writeOn_10 (N : Nat) (G : (MS → Int32 → Int32 → Option (MS × Unit)) × (MS → Int32 → Int32 → Int32 → Int32 → Option (MS × Unit)) × (MS → Int32 → Int32 → Int32 → Int32 → Option (MS × Unit))) (u : MS) (v1 : Int32) (v4 : Int32) : Option (MS × Unit) := br (decide (v4 ≤ 0)) (fb_M_writeOn_387 N G u) (br (decide (100 ≤ (u.1 144))) (fb_M_writeOn_387 N G u) (ck (inb (v4 + (-1)) (ln 141)) (lt (u.2.2.2 141 (v4 + (-1)).toNatClampNeg) (fun y6 => bnd (fm_M_sortOf N u y6) (fun u7 r7 => bnd (fm_M_valueOf N u7 y6) (fun u8 r8 => br (decide (r7 = 20)) (bnd (fm_M_sign N u8 r8) (fun u30 _ => fb_M_writeOn_384 N G u30 (v1) ((v4 + (-1))))) (br (decide (r7 = 21)) (bnd (fm_M_restOfList N u8 v1 (v4 + (-1)) r8) (fun u29 r29 => fb_M_writeOn_384 N G u29 (v1) (r29))) (br (decide (r7 = 0)) (bnd (fm_M_digits N u8 r8) (fun u28 _ => fb_M_writeOn_384 N G u28 (v1) ((v4 + (-1))))) (br (decide (r7 = 1)) (ck (inb r8 (ln 13)) (G.2.1 u8 (v1) ((v4 + (-1))) (r8) ((u8.2.2.1 13 r8.toNatClampNeg)))) (br (decide (r7 = 4)) (bnd (fm_M_sign N u8 60) (fun u25 _ => bnd (fm_M_digits N u25 r8) (fun u26 _ => bnd (fm_M_sign N u26 62) (fun u27 _ => fb_M_writeOn_384 N G u27 (v1) ((v4 + (-1))))))) (br (decide (r7 = 2)) (bnd (fm_M_sign N u8 35) (fun u23 _ => bnd (fm_M_digits N u23 r8) (fun u24 _ => fb_M_writeOn_384 N G u24 (v1) ((v4 + (-1)))))) (br (decide (r7 = 3)) (bnd (fm_M_sign N u8 102) (fun u20 _ => bnd (fm_M_sign N u20 117) (fun u21 _ => bnd (fm_M_sign N u21 110) (fun u22 _ => fb_M_writeOn_384 N G u22 (v1) ((v4 + (-1))))))) (br (decide (r7 = 6)) (bnd (fm_M_sign N u8 91) (fun u18 _ => bnd (fm_M_sign N u18 93) (fun u19 _ => fb_M_writeOn_384 N G u19 (v1) ((v4 + (-1)))))) (br (decide (r7 = 7)) (bnd (fm_M_sign N u8 91) (fun u13 _ => bnd (fm_M_term N u13 21 r8) (fun u14 r14 => ck (inb (v4 + (-1)) (ln 141)) (lt (upJ u14 141 (vp_updL (u14.2.2.2 141) (v4 + (-1)).toNatClampNeg r14)) (fun w15 => bnd (fm_M_cell N w15 v1 r8) (fun u16 r16 => ck (inb ((v4 + (-1)) + 1) (ln 141)) (lt (upJ u16 141 (vp_updL (u16.2.2.2 141) ((v4 + (-1)) + 1).toNatClampNeg r16)) (fun w17 => fb_M_writeOn_384 N G w17 (v1) (((v4 + (-1)) + 2)))))))))) (bnd (fm_M_sign N u8 123) (fun u9 _ => bnd (fm_M_term N u9 20 125) (fun u10 r10 => ck (inb (v4 + (-1)) (ln 141)) (lt (upJ u10 141 (vp_updL (u10.2.2.2 141) (v4 + (-1)).toNatClampNeg r10)) (fun w11 => bnd (fm_M_cell N w11 v1 r8) (fun u12 r12 => G.2.2 u12 (v1) (((v4 + (-1)) + 1)) (r8) (r12.toInt32)))))))))))))))))))))
set_option maxRecDepth 100000 in
set_option maxHeartbeats 4000000 in
theorem wb_M_writeOn_10 {p : Program} {l : Launch} {e : Env} {R : Room} {s : State} {m : MethodId} {args : Array Value} {below : List Frame} {meth : Method} {c : Code} {D : va_G} {cl : List vw_C} {cB cI cJ cZ cS : ClassId} {A : Nat → Prop} {iM h0 : Nat} {ad : Nat → Nat} (C0 : MCx p s m args meth c b_M_writeOn 10 none D cl cB cI cJ cZ cS iM A) (hR : R = rm_M_writeOn) (N : Nat) (G : (MS → Int32 → Int32 → Option (MS × Unit)) × (MS → Int32 → Int32 → Int32 → Int32 → Option (MS × Unit)) × (MS → Int32 → Int32 → Int32 → Int32 → Option (MS × Unit))) (hG : (∀ (u : MS) (v1 : Int32) (v4 : Int32) (x : MS × Unit), G.1 u v1 v4 = some x → ∀ (H : Heap) (locs : List Loc), va_P D cl (wM cB cI cJ cZ cS iM h0 ad u) H → va_D A (wM cB cI cJ cZ cS iM h0 ad u) → va_S A s.heap H locs → ∀ (ls : Array Slot), lv_has ls 10 [(0, .ref h0), (1, .int v1), (4, .int v4)] → W p l e R s m args below meth c H locs 0 0 (MQ below (mQv D cl cB cI cJ cZ cS iM h0 ad A x) args s 0 0 A) (F0 m 10 ls [])) ∧ (∀ (u : MS) (v1 : Int32) (v4 : Int32) (v8 : Int32) (v9 : Int32) (x : MS × Unit), G.2.1 u v1 v4 v8 v9 = some x → ∀ (H : Heap) (locs : List Loc), va_P D cl (wM cB cI cJ cZ cS iM h0 ad u) H → va_D A (wM cB cI cJ cZ cS iM h0 ad u) → va_S A s.heap H locs → ∀ (ls : Array Slot), lv_has ls 10 [(0, .ref h0), (1, .int v1), (4, .int v4), (8, .int v8), (9, .int v9)] → W p l e R s m args below meth c H locs 0 0 (MQ below (mQv D cl cB cI cJ cZ cS iM h0 ad A x) args s 0 0 A) (F0 m 116 ls [])) ∧ (∀ (u : MS) (v1 : Int32) (v4 : Int32) (v8 : Int32) (v9 : Int32) (x : MS × Unit), G.2.2 u v1 v4 v8 v9 = some x → ∀ (H : Heap) (locs : List Loc), va_P D cl (wM cB cI cJ cZ cS iM h0 ad u) H → va_D A (wM cB cI cJ cZ cS iM h0 ad u) → va_S A s.heap H locs → ∀ (ls : Array Slot), lv_has ls 10 [(0, .ref h0), (1, .int v1), (4, .int v4), (8, .int v8), (9, .int v9)] → W p l e R s m args below meth c H locs 0 0 (MQ below (mQv D cl cB cI cJ cZ cS iM h0 ad A x) args s 0 0 A) (F0 m 329 ls []))) : ∀ (u : MS) (v1 : Int32) (v4 : Int32) (x : MS × Unit), fb_M_writeOn_10 N G u v1 v4 = some x → ∀ (H : Heap) (locs : List Loc), va_P D cl (wM cB cI cJ cZ cS iM h0 ad u) H → va_D A (wM cB cI cJ cZ cS iM h0 ad u) → va_S A s.heap H locs → ∀ (ls : Array Slot), lv_has ls 10 [(0, .ref h0), (1, .int v1), (4, .int v4)] → W p l e R s m args below meth c H locs 0 0 (MQ below (mQv D cl cB cI cJ cZ cS iM h0 ad A x) args s 0 0 A) (F0 m 10 ls []) := by
  intro u v1 v4 x hf H locs hP hD hS ls hl
  obtain ⟨hx, hb, hr, hml, ht, hown, hM, hK, hA, hlocks⟩ := id C0
  unfold fb_M_writeOn_10 at hf
  refine lv_iload hx hb d_M_writeOn_10 (lv_at hl 2 rfl) ?_
  refine lv_if_le (tgt := 387) hx hb d_M_writeOn_12 (by decide) (fun hc => ?_) (fun hc => ?_)
  · rw [br_p _ hc] at hf
    exact wb_M_writeOn_387 C0 hR N G hG _ _ hf H locs hP hD hS ls (lv_sub hl [] rfl)
  · rw [br_n _ hc] at hf
    refine lv_aload_n hx hb d_M_writeOn_15 rfl (lv_at hl 0 rfl) ?_
    refine ug_I hx hb ht hown hM hK hP 144 (by decide) lk_M_144 (by decide) d_M_writeOn_16 ?_
    refine lv_bipush (v := 100) hx hb d_M_writeOn_19 (by decide) ?_
    refine lv_icmp_ge (tgt := 387) hx hb d_M_writeOn_21 (by decide) (fun hc => ?_) (fun hc => ?_)
    · rw [br_p _ hc] at hf
      exact wb_M_writeOn_387 C0 hR N G hG _ _ hf H locs hP hD hS ls (lv_sub hl [] rfl)
    · rw [br_n _ hc] at hf
      refine lv_iinc (v := (v4 + (-1))) (lv' := [(4, .int (v4 + (-1))), (0, .ref h0), (1, .int v1)]) hx hb d_M_writeOn_24 hl (k := 2) rfl rfl (by decide) rfl (fun ls hl => ?_)
      refine lv_aload_n hx hb d_M_writeOn_27 rfl (lv_at hl 1 rfl) ?_
      refine ug_R hx hb ht hown hM hK hP 141 (by decide) lk_M_141 (by decide) d_M_writeOn_28 ?_
      refine lv_iload hx hb d_M_writeOn_31 (lv_at hl 0 rfl) ?_
      obtain ⟨hi9, hf⟩ := ck_some hf
      refine ul_J hx hb hK hP (by decide) (by decide) hi9 d_M_writeOn_33 ?_
      obtain ⟨y6, e6, hf⟩ := lt_some hf
      rw [← e6]
      refine lv_lstore (lv' := [(5, .long y6), (4, .int (v4 + (-1))), (0, .ref h0), (1, .int v1)]) hx hb d_M_writeOn_34 hl (by decide) rfl (fun ls hl => ?_)
      refine lv_lload hx hb d_M_writeOn_36 (lv_at hl 0 rfl) ?_
      obtain ⟨u7, r7, hc7, hf⟩ := bnd_some hf
      refine mS_i (As := [.long y6]) (rest := []) C0 hP hD hS (c_M_sortOf N hM hc7) k_M_sortOf hl_M_sortOf ht_M_sortOf hini_M rfl rfl hd_M_sortOf rfl (rm_M_writeOn_M_sortOf hR) hl.1 (Nat.le_of_ble_eq_true rfl) d_M_writeOn_38 rfl ⟨Nat.zero_le _, Nat.zero_le _⟩ (fun H locs hP hD hS => ?_)
      refine lv_istore (lv' := [(7, .int r7), (5, .long y6), (4, .int (v4 + (-1))), (0, .ref h0), (1, .int v1)]) hx hb d_M_writeOn_41 hl (by decide) rfl (fun ls hl => ?_)
      refine lv_lload hx hb d_M_writeOn_43 (lv_at hl 1 rfl) ?_
      obtain ⟨u8, r8, hc8, hf⟩ := bnd_some hf
      refine mS_i (As := [.long y6]) (rest := []) C0 hP hD hS (c_M_valueOf N hM hc8) k_M_valueOf hl_M_valueOf ht_M_valueOf hini_M rfl rfl hd_M_valueOf rfl (rm_M_writeOn_M_valueOf hR) hl.1 (Nat.le_of_ble_eq_true rfl) d_M_writeOn_45 rfl ⟨Nat.zero_le _, Nat.zero_le _⟩ (fun H locs hP hD hS => ?_)
      refine lv_istore (lv' := [(8, .int r8), (7, .int r7), (5, .long y6), (4, .int (v4 + (-1))), (0, .ref h0), (1, .int v1)]) hx hb d_M_writeOn_48 hl (by decide) rfl (fun ls hl => ?_)
      refine lv_iload hx hb d_M_writeOn_50 (lv_at hl 1 rfl) ?_
      refine lv_bipush (v := 20) hx hb d_M_writeOn_52 (by decide) ?_
      refine lv_icmp_ne (tgt := 66) hx hb d_M_writeOn_54 (by decide) (fun hc => ?_) (fun hc => ?_)
      · rw [br_n _ hc] at hf
        refine lv_iload hx hb d_M_writeOn_66 (lv_at hl 1 rfl) ?_
        refine lv_bipush (v := 21) hx hb d_M_writeOn_68 (by decide) ?_
        refine lv_icmp_ne (tgt := 87) hx hb d_M_writeOn_70 (by decide) (fun hc => ?_) (fun hc => ?_)
        · rw [br_n _ hc] at hf
          refine lv_iload hx hb d_M_writeOn_87 (lv_at hl 1 rfl) ?_
          refine lv_if_ne (tgt := 101) hx hb d_M_writeOn_89 (by decide) (fun hc => ?_) (fun hc => ?_)
          · rw [br_n _ hc] at hf
            refine lv_iload hx hb d_M_writeOn_101 (lv_at hl 1 rfl) ?_
            refine lv_iconst (v := 1) hx hb d_M_writeOn_103 (by decide) ?_
            refine lv_icmp_ne (tgt := 150) hx hb d_M_writeOn_104 (by decide) (fun hc => ?_) (fun hc => ?_)
            · rw [br_n _ hc] at hf
              refine lv_iload hx hb d_M_writeOn_150 (lv_at hl 1 rfl) ?_
              refine lv_iconst (v := 4) hx hb d_M_writeOn_152 (by decide) ?_
              refine lv_icmp_ne (tgt := 177) hx hb d_M_writeOn_153 (by decide) (fun hc => ?_) (fun hc => ?_)
              · rw [br_n _ hc] at hf
                refine lv_iload hx hb d_M_writeOn_177 (lv_at hl 1 rfl) ?_
                refine lv_iconst (v := 2) hx hb d_M_writeOn_179 (by decide) ?_
                refine lv_icmp_ne (tgt := 198) hx hb d_M_writeOn_180 (by decide) (fun hc => ?_) (fun hc => ?_)
                · rw [br_n _ hc] at hf
                  refine lv_iload hx hb d_M_writeOn_198 (lv_at hl 1 rfl) ?_
                  refine lv_iconst (v := 3) hx hb d_M_writeOn_200 (by decide) ?_
                  refine lv_icmp_ne (tgt := 225) hx hb d_M_writeOn_201 (by decide) (fun hc => ?_) (fun hc => ?_)
                  · rw [br_n _ hc] at hf
                    refine lv_iload hx hb d_M_writeOn_225 (lv_at hl 1 rfl) ?_
                    refine lv_bipush (v := 6) hx hb d_M_writeOn_227 (by decide) ?_
                    refine lv_icmp_ne (tgt := 247) hx hb d_M_writeOn_229 (by decide) (fun hc => ?_) (fun hc => ?_)
                    · rw [br_n _ hc] at hf
                      refine lv_iload hx hb d_M_writeOn_247 (lv_at hl 1 rfl) ?_
                      refine lv_bipush (v := 7) hx hb d_M_writeOn_249 (by decide) ?_
                      refine lv_icmp_ne (tgt := 296) hx hb d_M_writeOn_251 (by decide) (fun hc => ?_) (fun hc => ?_)
                      · rw [br_n _ hc] at hf
                        refine lv_aload_n hx hb d_M_writeOn_296 rfl (lv_at hl 4 rfl) ?_
                        refine lv_bipush (v := 123) hx hb d_M_writeOn_297 (by decide) ?_
                        obtain ⟨u9, r9, hc9, hf⟩ := bnd_some hf
                        refine mV_v (As := [.int 123]) (rest := []) C0 hP hD hS (c_M_sign N hM hc9) k_M_sign hl_M_sign hi_M_sign hs_M_sign hini_M rfl rfl hd_M_sign rfl (rm_M_writeOn_M_sign hR) hl.1 (Nat.le_of_ble_eq_true rfl) d_M_writeOn_299 rfl ⟨Nat.zero_le _, Nat.zero_le _⟩ (fun H locs hP hD hS => ?_)
                        refine lv_aload_n hx hb d_M_writeOn_302 rfl (lv_at hl 4 rfl) ?_
                        refine ug_R hx hb ht hown hM hK hP 141 (by decide) lk_M_141 (by decide) d_M_writeOn_303 ?_
                        refine lv_iload hx hb d_M_writeOn_306 (lv_at hl 3 rfl) ?_
                        refine lv_bipush (v := 20) hx hb d_M_writeOn_308 (by decide) ?_
                        refine lv_bipush (v := 125) hx hb d_M_writeOn_310 (by decide) ?_
                        obtain ⟨u10, r10, hc10, hf⟩ := bnd_some hf
                        refine mS_l (As := [.int 20, .int 125]) (rest := [.int (v4 + (-1)), .ref (ad 141)]) C0 hP hD hS (c_M_term N hM hc10) k_M_term hl_M_term ht_M_term hini_M rfl rfl hd_M_term rfl (rm_M_writeOn_M_term hR) hl.1 (Nat.le_of_ble_eq_true rfl) d_M_writeOn_312 rfl ⟨Nat.zero_le _, Nat.zero_le _⟩ (fun H locs hP hD hS => ?_)
                        obtain ⟨hi9, hf⟩ := ck_some hf
                        refine us_J hx hb hK hP hD hS (by decide) (by decide) hi9 d_M_writeOn_315 (fun H locs hP hD hS => ?_)
                        obtain ⟨w11, e11, hf⟩ := lt_some hf
                        rw [← e11] at hP hD
                        refine lv_iinc (v := ((v4 + (-1)) + 1)) (lv' := [(4, .int ((v4 + (-1)) + 1)), (8, .int r8), (7, .int r7), (5, .long y6), (0, .ref h0), (1, .int v1)]) hx hb d_M_writeOn_316 hl (k := 3) rfl rfl (by decide) rfl (fun ls hl => ?_)
                        refine lv_aload_n hx hb d_M_writeOn_319 rfl (lv_at hl 4 rfl) ?_
                        refine lv_iload_n hx hb d_M_writeOn_320 rfl (lv_at hl 5 rfl) ?_
                        refine lv_iload hx hb d_M_writeOn_321 (lv_at hl 1 rfl) ?_
                        obtain ⟨u12, r12, hc12, hf⟩ := bnd_some hf
                        refine mV_l (As := [.int v1, .int r8]) (rest := []) C0 hP hD hS (c_M_cell N hM hc12) k_M_cell hl_M_cell hi_M_cell hs_M_cell hini_M rfl rfl hd_M_cell rfl (rm_M_writeOn_M_cell hR) hl.1 (Nat.le_of_ble_eq_true rfl) d_M_writeOn_323 rfl ⟨Nat.zero_le _, Nat.zero_le _⟩ (fun H locs hP hD hS => ?_)
                        refine lv_l2i hx hb d_M_writeOn_326 rfl ?_
                        refine lv_istore (lv' := [(9, .int r12.toInt32), (4, .int ((v4 + (-1)) + 1)), (8, .int r8), (7, .int r7), (5, .long y6), (0, .ref h0), (1, .int v1)]) hx hb d_M_writeOn_327 hl (by decide) rfl (fun ls hl => ?_)
                        exact hG.2.2 _ _ _ _ _ _ hf H locs hP hD hS ls (lv_sub hl [5, 6, 1, 2, 0] rfl)
                      · rw [br_p _ hc] at hf
                        refine lv_aload_n hx hb d_M_writeOn_254 rfl (lv_at hl 4 rfl) ?_
                        refine lv_bipush (v := 91) hx hb d_M_writeOn_255 (by decide) ?_
                        obtain ⟨u13, r13, hc13, hf⟩ := bnd_some hf
                        refine mV_v (As := [.int 91]) (rest := []) C0 hP hD hS (c_M_sign N hM hc13) k_M_sign hl_M_sign hi_M_sign hs_M_sign hini_M rfl rfl hd_M_sign rfl (rm_M_writeOn_M_sign hR) hl.1 (Nat.le_of_ble_eq_true rfl) d_M_writeOn_257 rfl ⟨Nat.zero_le _, Nat.zero_le _⟩ (fun H locs hP hD hS => ?_)
                        refine lv_aload_n hx hb d_M_writeOn_260 rfl (lv_at hl 4 rfl) ?_
                        refine ug_R hx hb ht hown hM hK hP 141 (by decide) lk_M_141 (by decide) d_M_writeOn_261 ?_
                        refine lv_iload hx hb d_M_writeOn_264 (lv_at hl 3 rfl) ?_
                        refine lv_bipush (v := 21) hx hb d_M_writeOn_266 (by decide) ?_
                        refine lv_iload hx hb d_M_writeOn_268 (lv_at hl 0 rfl) ?_
                        obtain ⟨u14, r14, hc14, hf⟩ := bnd_some hf
                        refine mS_l (As := [.int 21, .int r8]) (rest := [.int (v4 + (-1)), .ref (ad 141)]) C0 hP hD hS (c_M_term N hM hc14) k_M_term hl_M_term ht_M_term hini_M rfl rfl hd_M_term rfl (rm_M_writeOn_M_term hR) hl.1 (Nat.le_of_ble_eq_true rfl) d_M_writeOn_270 rfl ⟨Nat.zero_le _, Nat.zero_le _⟩ (fun H locs hP hD hS => ?_)
                        obtain ⟨hi9, hf⟩ := ck_some hf
                        refine us_J hx hb hK hP hD hS (by decide) (by decide) hi9 d_M_writeOn_273 (fun H locs hP hD hS => ?_)
                        obtain ⟨w15, e15, hf⟩ := lt_some hf
                        rw [← e15] at hP hD
                        refine lv_aload_n hx hb d_M_writeOn_274 rfl (lv_at hl 4 rfl) ?_
                        refine ug_R hx hb ht hown hM hK hP 141 (by decide) lk_M_141 (by decide) d_M_writeOn_275 ?_
                        refine lv_iload hx hb d_M_writeOn_278 (lv_at hl 3 rfl) ?_
                        refine lv_iconst (v := 1) hx hb d_M_writeOn_280 (by decide) ?_
                        refine lv_iadd hx hb d_M_writeOn_281 ?_
                        refine lv_aload_n hx hb d_M_writeOn_282 rfl (lv_at hl 4 rfl) ?_
                        refine lv_iload_n hx hb d_M_writeOn_283 rfl (lv_at hl 5 rfl) ?_
                        refine lv_iload hx hb d_M_writeOn_284 (lv_at hl 0 rfl) ?_
                        obtain ⟨u16, r16, hc16, hf⟩ := bnd_some hf
                        refine mV_l (As := [.int v1, .int r8]) (rest := [.int ((v4 + (-1)) + 1), .ref (ad 141)]) C0 hP hD hS (c_M_cell N hM hc16) k_M_cell hl_M_cell hi_M_cell hs_M_cell hini_M rfl rfl hd_M_cell rfl (rm_M_writeOn_M_cell hR) hl.1 (Nat.le_of_ble_eq_true rfl) d_M_writeOn_286 rfl ⟨Nat.zero_le _, Nat.zero_le _⟩ (fun H locs hP hD hS => ?_)
                        obtain ⟨hi9, hf⟩ := ck_some hf
                        refine us_J hx hb hK hP hD hS (by decide) (by decide) hi9 d_M_writeOn_289 (fun H locs hP hD hS => ?_)
                        obtain ⟨w17, e17, hf⟩ := lt_some hf
                        rw [← e17] at hP hD
                        refine lv_iinc (v := ((v4 + (-1)) + 2)) (lv' := [(4, .int ((v4 + (-1)) + 2)), (8, .int r8), (7, .int r7), (5, .long y6), (0, .ref h0), (1, .int v1)]) hx hb d_M_writeOn_290 hl (k := 3) rfl rfl (by decide) rfl (fun ls hl => ?_)
                        refine lv_goto (tgt := 384) hx hb d_M_writeOn_293 (by decide) ?_
                        exact wb_M_writeOn_384 C0 hR N G hG _ _ _ _ hf H locs hP hD hS ls (lv_sub hl [4, 5, 0] rfl)
                    · rw [br_p _ hc] at hf
                      refine lv_aload_n hx hb d_M_writeOn_232 rfl (lv_at hl 4 rfl) ?_
                      refine lv_bipush (v := 91) hx hb d_M_writeOn_233 (by decide) ?_
                      obtain ⟨u18, r18, hc18, hf⟩ := bnd_some hf
                      refine mV_v (As := [.int 91]) (rest := []) C0 hP hD hS (c_M_sign N hM hc18) k_M_sign hl_M_sign hi_M_sign hs_M_sign hini_M rfl rfl hd_M_sign rfl (rm_M_writeOn_M_sign hR) hl.1 (Nat.le_of_ble_eq_true rfl) d_M_writeOn_235 rfl ⟨Nat.zero_le _, Nat.zero_le _⟩ (fun H locs hP hD hS => ?_)
                      refine lv_aload_n hx hb d_M_writeOn_238 rfl (lv_at hl 4 rfl) ?_
                      refine lv_bipush (v := 93) hx hb d_M_writeOn_239 (by decide) ?_
                      obtain ⟨u19, r19, hc19, hf⟩ := bnd_some hf
                      refine mV_v (As := [.int 93]) (rest := []) C0 hP hD hS (c_M_sign N hM hc19) k_M_sign hl_M_sign hi_M_sign hs_M_sign hini_M rfl rfl hd_M_sign rfl (rm_M_writeOn_M_sign hR) hl.1 (Nat.le_of_ble_eq_true rfl) d_M_writeOn_241 rfl ⟨Nat.zero_le _, Nat.zero_le _⟩ (fun H locs hP hD hS => ?_)
                      refine lv_goto (tgt := 384) hx hb d_M_writeOn_244 (by decide) ?_
                      exact wb_M_writeOn_384 C0 hR N G hG _ _ _ _ hf H locs hP hD hS ls (lv_sub hl [4, 5, 3] rfl)
                  · rw [br_p _ hc] at hf
                    refine lv_aload_n hx hb d_M_writeOn_204 rfl (lv_at hl 4 rfl) ?_
                    refine lv_bipush (v := 102) hx hb d_M_writeOn_205 (by decide) ?_
                    obtain ⟨u20, r20, hc20, hf⟩ := bnd_some hf
                    refine mV_v (As := [.int 102]) (rest := []) C0 hP hD hS (c_M_sign N hM hc20) k_M_sign hl_M_sign hi_M_sign hs_M_sign hini_M rfl rfl hd_M_sign rfl (rm_M_writeOn_M_sign hR) hl.1 (Nat.le_of_ble_eq_true rfl) d_M_writeOn_207 rfl ⟨Nat.zero_le _, Nat.zero_le _⟩ (fun H locs hP hD hS => ?_)
                    refine lv_aload_n hx hb d_M_writeOn_210 rfl (lv_at hl 4 rfl) ?_
                    refine lv_bipush (v := 117) hx hb d_M_writeOn_211 (by decide) ?_
                    obtain ⟨u21, r21, hc21, hf⟩ := bnd_some hf
                    refine mV_v (As := [.int 117]) (rest := []) C0 hP hD hS (c_M_sign N hM hc21) k_M_sign hl_M_sign hi_M_sign hs_M_sign hini_M rfl rfl hd_M_sign rfl (rm_M_writeOn_M_sign hR) hl.1 (Nat.le_of_ble_eq_true rfl) d_M_writeOn_213 rfl ⟨Nat.zero_le _, Nat.zero_le _⟩ (fun H locs hP hD hS => ?_)
                    refine lv_aload_n hx hb d_M_writeOn_216 rfl (lv_at hl 4 rfl) ?_
                    refine lv_bipush (v := 110) hx hb d_M_writeOn_217 (by decide) ?_
                    obtain ⟨u22, r22, hc22, hf⟩ := bnd_some hf
                    refine mV_v (As := [.int 110]) (rest := []) C0 hP hD hS (c_M_sign N hM hc22) k_M_sign hl_M_sign hi_M_sign hs_M_sign hini_M rfl rfl hd_M_sign rfl (rm_M_writeOn_M_sign hR) hl.1 (Nat.le_of_ble_eq_true rfl) d_M_writeOn_219 rfl ⟨Nat.zero_le _, Nat.zero_le _⟩ (fun H locs hP hD hS => ?_)
                    refine lv_goto (tgt := 384) hx hb d_M_writeOn_222 (by decide) ?_
                    exact wb_M_writeOn_384 C0 hR N G hG _ _ _ _ hf H locs hP hD hS ls (lv_sub hl [4, 5, 3] rfl)
                · rw [br_p _ hc] at hf
                  refine lv_aload_n hx hb d_M_writeOn_183 rfl (lv_at hl 4 rfl) ?_
                  refine lv_bipush (v := 35) hx hb d_M_writeOn_184 (by decide) ?_
                  obtain ⟨u23, r23, hc23, hf⟩ := bnd_some hf
                  refine mV_v (As := [.int 35]) (rest := []) C0 hP hD hS (c_M_sign N hM hc23) k_M_sign hl_M_sign hi_M_sign hs_M_sign hini_M rfl rfl hd_M_sign rfl (rm_M_writeOn_M_sign hR) hl.1 (Nat.le_of_ble_eq_true rfl) d_M_writeOn_186 rfl ⟨Nat.zero_le _, Nat.zero_le _⟩ (fun H locs hP hD hS => ?_)
                  refine lv_aload_n hx hb d_M_writeOn_189 rfl (lv_at hl 4 rfl) ?_
                  refine lv_iload hx hb d_M_writeOn_190 (lv_at hl 0 rfl) ?_
                  obtain ⟨u24, r24, hc24, hf⟩ := bnd_some hf
                  refine mV_v (As := [.int r8]) (rest := []) C0 hP hD hS (c_M_digits N hM hc24) k_M_digits hl_M_digits hi_M_digits hs_M_digits hini_M rfl rfl hd_M_digits rfl (rm_M_writeOn_M_digits hR) hl.1 (Nat.le_of_ble_eq_true rfl) d_M_writeOn_192 rfl ⟨Nat.zero_le _, Nat.zero_le _⟩ (fun H locs hP hD hS => ?_)
                  refine lv_goto (tgt := 384) hx hb d_M_writeOn_195 (by decide) ?_
                  exact wb_M_writeOn_384 C0 hR N G hG _ _ _ _ hf H locs hP hD hS ls (lv_sub hl [4, 5, 3] rfl)
              · rw [br_p _ hc] at hf
                refine lv_aload_n hx hb d_M_writeOn_156 rfl (lv_at hl 4 rfl) ?_
                refine lv_bipush (v := 60) hx hb d_M_writeOn_157 (by decide) ?_
                obtain ⟨u25, r25, hc25, hf⟩ := bnd_some hf
                refine mV_v (As := [.int 60]) (rest := []) C0 hP hD hS (c_M_sign N hM hc25) k_M_sign hl_M_sign hi_M_sign hs_M_sign hini_M rfl rfl hd_M_sign rfl (rm_M_writeOn_M_sign hR) hl.1 (Nat.le_of_ble_eq_true rfl) d_M_writeOn_159 rfl ⟨Nat.zero_le _, Nat.zero_le _⟩ (fun H locs hP hD hS => ?_)
                refine lv_aload_n hx hb d_M_writeOn_162 rfl (lv_at hl 4 rfl) ?_
                refine lv_iload hx hb d_M_writeOn_163 (lv_at hl 0 rfl) ?_
                obtain ⟨u26, r26, hc26, hf⟩ := bnd_some hf
                refine mV_v (As := [.int r8]) (rest := []) C0 hP hD hS (c_M_digits N hM hc26) k_M_digits hl_M_digits hi_M_digits hs_M_digits hini_M rfl rfl hd_M_digits rfl (rm_M_writeOn_M_digits hR) hl.1 (Nat.le_of_ble_eq_true rfl) d_M_writeOn_165 rfl ⟨Nat.zero_le _, Nat.zero_le _⟩ (fun H locs hP hD hS => ?_)
                refine lv_aload_n hx hb d_M_writeOn_168 rfl (lv_at hl 4 rfl) ?_
                refine lv_bipush (v := 62) hx hb d_M_writeOn_169 (by decide) ?_
                obtain ⟨u27, r27, hc27, hf⟩ := bnd_some hf
                refine mV_v (As := [.int 62]) (rest := []) C0 hP hD hS (c_M_sign N hM hc27) k_M_sign hl_M_sign hi_M_sign hs_M_sign hini_M rfl rfl hd_M_sign rfl (rm_M_writeOn_M_sign hR) hl.1 (Nat.le_of_ble_eq_true rfl) d_M_writeOn_171 rfl ⟨Nat.zero_le _, Nat.zero_le _⟩ (fun H locs hP hD hS => ?_)
                refine lv_goto (tgt := 384) hx hb d_M_writeOn_174 (by decide) ?_
                exact wb_M_writeOn_384 C0 hR N G hG _ _ _ _ hf H locs hP hD hS ls (lv_sub hl [4, 5, 3] rfl)
            · rw [br_p _ hc] at hf
              refine lv_aload_n hx hb d_M_writeOn_107 rfl (lv_at hl 4 rfl) ?_
              refine ug_R hx hb ht hown hM hK hP 13 (by decide) lk_M_13 (by decide) d_M_writeOn_108 ?_
              refine lv_iload hx hb d_M_writeOn_111 (lv_at hl 0 rfl) ?_
              obtain ⟨hi9, hf⟩ := ck_some hf
              refine ul_I hx hb hK hP (by decide) (by decide) hi9 d_M_writeOn_113 ?_
              refine lv_istore (lv' := [(9, .int (u8.2.2.1 13 r8.toNatClampNeg)), (8, .int r8), (7, .int r7), (5, .long y6), (4, .int (v4 + (-1))), (0, .ref h0), (1, .int v1)]) hx hb d_M_writeOn_114 hl (by decide) rfl (fun ls hl => ?_)
              exact hG.2.1 _ _ _ _ _ _ hf H locs hP hD hS ls (lv_sub hl [5, 6, 4, 1, 0] rfl)
          · rw [br_p _ hc] at hf
            refine lv_aload_n hx hb d_M_writeOn_92 rfl (lv_at hl 4 rfl) ?_
            refine lv_iload hx hb d_M_writeOn_93 (lv_at hl 0 rfl) ?_
            obtain ⟨u28, r28, hc28, hf⟩ := bnd_some hf
            refine mV_v (As := [.int r8]) (rest := []) C0 hP hD hS (c_M_digits N hM hc28) k_M_digits hl_M_digits hi_M_digits hs_M_digits hini_M rfl rfl hd_M_digits rfl (rm_M_writeOn_M_digits hR) hl.1 (Nat.le_of_ble_eq_true rfl) d_M_writeOn_95 rfl ⟨Nat.zero_le _, Nat.zero_le _⟩ (fun H locs hP hD hS => ?_)
            refine lv_goto (tgt := 384) hx hb d_M_writeOn_98 (by decide) ?_
            exact wb_M_writeOn_384 C0 hR N G hG _ _ _ _ hf H locs hP hD hS ls (lv_sub hl [4, 5, 3] rfl)
        · rw [br_p _ hc] at hf
          refine lv_aload_n hx hb d_M_writeOn_73 rfl (lv_at hl 4 rfl) ?_
          refine lv_iload_n hx hb d_M_writeOn_74 rfl (lv_at hl 5 rfl) ?_
          refine lv_iload hx hb d_M_writeOn_75 (lv_at hl 3 rfl) ?_
          refine lv_iload hx hb d_M_writeOn_77 (lv_at hl 0 rfl) ?_
          obtain ⟨u29, r29, hc29, hf⟩ := bnd_some hf
          refine mV_i (As := [.int v1, .int (v4 + (-1)), .int r8]) (rest := []) C0 hP hD hS (c_M_restOfList N hM hc29) k_M_restOfList hl_M_restOfList hi_M_restOfList hs_M_restOfList hini_M rfl rfl hd_M_restOfList rfl (rm_M_writeOn_M_restOfList hR) hl.1 (Nat.le_of_ble_eq_true rfl) d_M_writeOn_79 rfl ⟨Nat.zero_le _, Nat.zero_le _⟩ (fun H locs hP hD hS => ?_)
          refine lv_istore (lv' := [(4, .int r29), (8, .int r8), (7, .int r7), (5, .long y6), (0, .ref h0), (1, .int v1)]) hx hb d_M_writeOn_82 hl (by decide) rfl (fun ls hl => ?_)
          refine lv_goto (tgt := 384) hx hb d_M_writeOn_84 (by decide) ?_
          exact wb_M_writeOn_384 C0 hR N G hG _ _ _ _ hf H locs hP hD hS ls (lv_sub hl [4, 5, 0] rfl)
      · rw [br_p _ hc] at hf
        refine lv_aload_n hx hb d_M_writeOn_57 rfl (lv_at hl 4 rfl) ?_
        refine lv_iload hx hb d_M_writeOn_58 (lv_at hl 0 rfl) ?_
        obtain ⟨u30, r30, hc30, hf⟩ := bnd_some hf
        refine mV_v (As := [.int r8]) (rest := []) C0 hP hD hS (c_M_sign N hM hc30) k_M_sign hl_M_sign hi_M_sign hs_M_sign hini_M rfl rfl hd_M_sign rfl (rm_M_writeOn_M_sign hR) hl.1 (Nat.le_of_ble_eq_true rfl) d_M_writeOn_60 rfl ⟨Nat.zero_le _, Nat.zero_le _⟩ (fun H locs hP hD hS => ?_)
        refine lv_goto (tgt := 384) hx hb d_M_writeOn_63 (by decide) ?_
        exact wb_M_writeOn_384 C0 hR N G hG _ _ _ _ hf H locs hP hD hS ls (lv_sub hl [4, 5, 3] rfl)
def fb_M_writeOn_0 (N : Nat) (G : (MS → Int32 → Int32 → Option (MS × Unit)) × (MS → Int32 → Int32 → Int32 → Int32 → Option (MS × Unit)) × (MS → Int32 → Int32 → Int32 → Int32 → Option (MS × Unit))) (u : MS) (v1 : Int32) (v2 : Int64) : Option (MS × Unit) := ck (inb (0 : Int32) (ln 141)) (lt (upJ u 141 (vp_updL (u.2.2.2 141) (0 : Int32).toNatClampNeg v2)) (fun w31 => G.1 w31 (v1) (1)))
set_option maxRecDepth 100000 in
set_option maxHeartbeats 4000000 in
theorem wb_M_writeOn_0 {p : Program} {l : Launch} {e : Env} {R : Room} {s : State} {m : MethodId} {args : Array Value} {below : List Frame} {meth : Method} {c : Code} {D : va_G} {cl : List vw_C} {cB cI cJ cZ cS : ClassId} {A : Nat → Prop} {iM h0 : Nat} {ad : Nat → Nat} (C0 : MCx p s m args meth c b_M_writeOn 10 none D cl cB cI cJ cZ cS iM A) (hR : R = rm_M_writeOn) (N : Nat) (G : (MS → Int32 → Int32 → Option (MS × Unit)) × (MS → Int32 → Int32 → Int32 → Int32 → Option (MS × Unit)) × (MS → Int32 → Int32 → Int32 → Int32 → Option (MS × Unit))) (hG : (∀ (u : MS) (v1 : Int32) (v4 : Int32) (x : MS × Unit), G.1 u v1 v4 = some x → ∀ (H : Heap) (locs : List Loc), va_P D cl (wM cB cI cJ cZ cS iM h0 ad u) H → va_D A (wM cB cI cJ cZ cS iM h0 ad u) → va_S A s.heap H locs → ∀ (ls : Array Slot), lv_has ls 10 [(0, .ref h0), (1, .int v1), (4, .int v4)] → W p l e R s m args below meth c H locs 0 0 (MQ below (mQv D cl cB cI cJ cZ cS iM h0 ad A x) args s 0 0 A) (F0 m 10 ls [])) ∧ (∀ (u : MS) (v1 : Int32) (v4 : Int32) (v8 : Int32) (v9 : Int32) (x : MS × Unit), G.2.1 u v1 v4 v8 v9 = some x → ∀ (H : Heap) (locs : List Loc), va_P D cl (wM cB cI cJ cZ cS iM h0 ad u) H → va_D A (wM cB cI cJ cZ cS iM h0 ad u) → va_S A s.heap H locs → ∀ (ls : Array Slot), lv_has ls 10 [(0, .ref h0), (1, .int v1), (4, .int v4), (8, .int v8), (9, .int v9)] → W p l e R s m args below meth c H locs 0 0 (MQ below (mQv D cl cB cI cJ cZ cS iM h0 ad A x) args s 0 0 A) (F0 m 116 ls [])) ∧ (∀ (u : MS) (v1 : Int32) (v4 : Int32) (v8 : Int32) (v9 : Int32) (x : MS × Unit), G.2.2 u v1 v4 v8 v9 = some x → ∀ (H : Heap) (locs : List Loc), va_P D cl (wM cB cI cJ cZ cS iM h0 ad u) H → va_D A (wM cB cI cJ cZ cS iM h0 ad u) → va_S A s.heap H locs → ∀ (ls : Array Slot), lv_has ls 10 [(0, .ref h0), (1, .int v1), (4, .int v4), (8, .int v8), (9, .int v9)] → W p l e R s m args below meth c H locs 0 0 (MQ below (mQv D cl cB cI cJ cZ cS iM h0 ad A x) args s 0 0 A) (F0 m 329 ls []))) : ∀ (u : MS) (v1 : Int32) (v2 : Int64) (x : MS × Unit), fb_M_writeOn_0 N G u v1 v2 = some x → ∀ (H : Heap) (locs : List Loc), va_P D cl (wM cB cI cJ cZ cS iM h0 ad u) H → va_D A (wM cB cI cJ cZ cS iM h0 ad u) → va_S A s.heap H locs → ∀ (ls : Array Slot), lv_has ls 10 [(0, .ref h0), (1, .int v1), (2, .long v2)] → W p l e R s m args below meth c H locs 0 0 (MQ below (mQv D cl cB cI cJ cZ cS iM h0 ad A x) args s 0 0 A) (F0 m 0 ls []) := by
  intro u v1 v2 x hf H locs hP hD hS ls hl
  obtain ⟨hx, hb, hr, hml, ht, hown, hM, hK, hA, hlocks⟩ := id C0
  unfold fb_M_writeOn_0 at hf
  refine lv_iconst (v := 1) hx hb d_M_writeOn_0 (by decide) ?_
  refine lv_istore (lv' := [(4, .int 1), (0, .ref h0), (1, .int v1), (2, .long v2)]) hx hb d_M_writeOn_1 hl (by decide) rfl (fun ls hl => ?_)
  refine lv_aload_n hx hb d_M_writeOn_3 rfl (lv_at hl 1 rfl) ?_
  refine ug_R hx hb ht hown hM hK hP 141 (by decide) lk_M_141 (by decide) d_M_writeOn_4 ?_
  refine lv_iconst (v := 0) hx hb d_M_writeOn_7 (by decide) ?_
  refine lv_lload_n hx hb d_M_writeOn_8 rfl (lv_at hl 3 rfl) ?_
  obtain ⟨hi9, hf⟩ := ck_some hf
  refine us_J hx hb hK hP hD hS (by decide) (by decide) hi9 d_M_writeOn_9 (fun H locs hP hD hS => ?_)
  obtain ⟨w31, e31, hf⟩ := lt_some hf
  rw [← e31] at hP hD
  exact hG.1 _ _ _ _ hf H locs hP hD hS ls (lv_sub hl [1, 2, 0] rfl)
def gg_M_writeOn (N : Nat) : Nat → ((MS → Int32 → Int32 → Option (MS × Unit)) × (MS → Int32 → Int32 → Int32 → Int32 → Option (MS × Unit)) × (MS → Int32 → Int32 → Int32 → Int32 → Option (MS × Unit)))
  | 0 => (fun _ _ _ => none, fun _ _ _ _ _ => none, fun _ _ _ _ _ => none)
  | n + 1 => (fb_M_writeOn_10 N (gg_M_writeOn N n), fb_M_writeOn_116 N (gg_M_writeOn N n), fb_M_writeOn_329 N (gg_M_writeOn N n))
theorem wg_M_writeOn {p : Program} {l : Launch} {e : Env} {R : Room} {s : State} {m : MethodId} {args : Array Value} {below : List Frame} {meth : Method} {c : Code} {D : va_G} {cl : List vw_C} {cB cI cJ cZ cS : ClassId} {A : Nat → Prop} {iM h0 : Nat} {ad : Nat → Nat} (C0 : MCx p s m args meth c b_M_writeOn 10 none D cl cB cI cJ cZ cS iM A) (hR : R = rm_M_writeOn) (N : Nat) : ∀ n : Nat, (∀ (u : MS) (v1 : Int32) (v4 : Int32) (x : MS × Unit), (gg_M_writeOn N n).1 u v1 v4 = some x → ∀ (H : Heap) (locs : List Loc), va_P D cl (wM cB cI cJ cZ cS iM h0 ad u) H → va_D A (wM cB cI cJ cZ cS iM h0 ad u) → va_S A s.heap H locs → ∀ (ls : Array Slot), lv_has ls 10 [(0, .ref h0), (1, .int v1), (4, .int v4)] → W p l e R s m args below meth c H locs 0 0 (MQ below (mQv D cl cB cI cJ cZ cS iM h0 ad A x) args s 0 0 A) (F0 m 10 ls [])) ∧ (∀ (u : MS) (v1 : Int32) (v4 : Int32) (v8 : Int32) (v9 : Int32) (x : MS × Unit), (gg_M_writeOn N n).2.1 u v1 v4 v8 v9 = some x → ∀ (H : Heap) (locs : List Loc), va_P D cl (wM cB cI cJ cZ cS iM h0 ad u) H → va_D A (wM cB cI cJ cZ cS iM h0 ad u) → va_S A s.heap H locs → ∀ (ls : Array Slot), lv_has ls 10 [(0, .ref h0), (1, .int v1), (4, .int v4), (8, .int v8), (9, .int v9)] → W p l e R s m args below meth c H locs 0 0 (MQ below (mQv D cl cB cI cJ cZ cS iM h0 ad A x) args s 0 0 A) (F0 m 116 ls [])) ∧ (∀ (u : MS) (v1 : Int32) (v4 : Int32) (v8 : Int32) (v9 : Int32) (x : MS × Unit), (gg_M_writeOn N n).2.2 u v1 v4 v8 v9 = some x → ∀ (H : Heap) (locs : List Loc), va_P D cl (wM cB cI cJ cZ cS iM h0 ad u) H → va_D A (wM cB cI cJ cZ cS iM h0 ad u) → va_S A s.heap H locs → ∀ (ls : Array Slot), lv_has ls 10 [(0, .ref h0), (1, .int v1), (4, .int v4), (8, .int v8), (9, .int v9)] → W p l e R s m args below meth c H locs 0 0 (MQ below (mQv D cl cB cI cJ cZ cS iM h0 ad A x) args s 0 0 A) (F0 m 329 ls []))
  | 0 => ⟨(fun u v1 v4 x hf => by cases hf), (fun u v1 v4 v8 v9 x hf => by cases hf), (fun u v1 v4 v8 v9 x hf => by cases hf)⟩
  | n + 1 => ⟨wb_M_writeOn_10 C0 hR N (gg_M_writeOn N n) (wg_M_writeOn C0 hR N n), wb_M_writeOn_116 C0 hR N (gg_M_writeOn N n) (wg_M_writeOn C0 hR N n), wb_M_writeOn_329 C0 hR N (gg_M_writeOn N n) (wg_M_writeOn C0 hR N n)⟩
def fm_M_writeOn (N : Nat) (u : MS) (v1 : Int32) (v2 : Int64) : Option (MS × Unit) := fb_M_writeOn_0 N (gg_M_writeOn N N) u v1 v2
set_option maxRecDepth 100000 in
set_option maxHeartbeats 4000000 in
theorem c_M_writeOn (N : Nat) {l : Launch} {D : va_G} {cl : List vw_C} {cB cI cJ cZ cS : ClassId} {iM h0 : Nat} {ad : Nat → Nat} {u : MS} {sz : Nat} {v1 : Int32} {v2 : Int64} {x : MS × Unit} (hM : cl[iM]? = some (R_M, F_M, 171)) (hf : fm_M_writeOn N u v1 v2 = some x) : Met l y_M_writeOn (wd_ws y_M_writeOn b_M_writeOn 10 none) rm_M_writeOn (mPc D cl cB cI cJ cZ cS iM h0 ad u sz [.ref h0, .int v1, .long v2]) (mQv D cl cB cI cJ cZ cS iM h0 ad (mA cB cI cJ cZ cS iM h0 ad u sz) x) 0 0 (mA cB cI cJ cZ cS iM h0 ad u sz) :=
  mMet (by decide) rfl hM (Nat.le_of_ble_eq_true rfl) (fun p e s m below meth c ls hsz C0 hP hD hS hl => by
    have hR : rm_M_writeOn = rm_M_writeOn := rfl
    exact wb_M_writeOn_0 C0 hR N (gg_M_writeOn N N) (wg_M_writeOn C0 hR N N) u _ _ x hf s.heap [] hP hD hS ls (lv_sub hl [0, 1, 2] rfl))
abbrev b_M_write : ByteArray := prog_14_method_99_code
def y_M_write : MethodName := ⟨R_M, "write", "(IJ)V"⟩
def w_M_write : List Cond := wd_ws y_M_write b_M_write 4 none
set_option maxRecDepth 100000 in
theorem k_M_write : Cond.code y_M_write b_M_write 4 none ∈ wd_tbl := wd_of 3114 rfl rfl
theorem d_M_write_0 : decode b_M_write 0 = .ok (.aload_n 0, 1) := by decide +kernel
theorem d_M_write_1 : decode b_M_write 1 = .ok (.iconst 0, 1) := by decide +kernel
theorem d_M_write_2 : decode b_M_write 2 = .ok (.putfield 724, 3) := by decide +kernel
theorem d_M_write_5 : decode b_M_write 5 = .ok (.aload_n 0, 1) := by decide +kernel
theorem d_M_write_6 : decode b_M_write 6 = .ok (.iload_n 1, 1) := by decide +kernel
theorem d_M_write_7 : decode b_M_write 7 = .ok (.lload_n 2, 1) := by decide +kernel
theorem d_M_write_8 : decode b_M_write 8 = .ok (.invokevirtual 730, 3) := by decide +kernel
theorem d_M_write_11 : decode b_M_write 11 = .ok (.aload_n 0, 1) := by decide +kernel
theorem d_M_write_12 : decode b_M_write 12 = .ok (.aload_n 0, 1) := by decide +kernel
theorem d_M_write_13 : decode b_M_write 13 = .ok (.getfield 724, 3) := by decide +kernel
theorem d_M_write_16 : decode b_M_write 16 = .ok (.bipush 100, 2) := by decide +kernel
theorem d_M_write_18 : decode b_M_write 18 = .ok (.if_icmp .le 8, 3) := by decide +kernel
theorem d_M_write_21 : decode b_M_write 21 = .ok (.bipush 100, 2) := by decide +kernel
theorem d_M_write_23 : decode b_M_write 23 = .ok (.goto 7, 3) := by decide +kernel
theorem d_M_write_26 : decode b_M_write 26 = .ok (.aload_n 0, 1) := by decide +kernel
theorem d_M_write_27 : decode b_M_write 27 = .ok (.getfield 724, 3) := by decide +kernel
theorem d_M_write_30 : decode b_M_write 30 = .ok (.putfield 724, 3) := by decide +kernel
theorem d_M_write_33 : decode b_M_write 33 = .ok (.return_, 1) := by decide +kernel
set_option maxRecDepth 100000 in
theorem hl_M_write : Cond.methodLink R_M 1013 y_M_write ∈ wd_tbl := wd_of 3111 (by decide +kernel) rfl
set_option maxRecDepth 100000 in
theorem hi_M_write : Cond.instanceMethod y_M_write ∈ wd_tbl := wd_of 3113 (by decide +kernel) rfl
set_option maxRecDepth 100000 in
theorem hs_M_write : Cond.selects R_M y_M_write y_M_write ∈ wd_tbl := wd_of 233 (by decide +kernel) rfl
theorem hd_M_write : y_M_write.cls = R_M ∧ y_M_write.cls ≠ "java/lang/invoke/MethodHandle" ∧ y_M_write.cls ≠ "java/lang/invoke/VarHandle" ∧ (parseMethodDescriptor y_M_write.desc).map (fun d => d.parameters.length) = some 2 := by decide +kernel
def rm_M_write : Room := { frames := 3, cells := 0, slots := 0, locals := 77 }
theorem rm_M_write_M_writeOn {R : Room} (hR : R = rm_M_write) : (rm_M_writeOn).frames + 1 ≤ R.frames ∧ 8 + (10 + 11) + (rm_M_writeOn).locals ≤ R.locals := by subst hR; decide
def fb_M_write_30 (N : Nat) (G : Unit) (u : MS) (t1 : Int32) : Option (MS × Unit) := lt (upI u 144 t1) (fun w1 => some (w1, ()))
set_option maxRecDepth 100000 in
set_option maxHeartbeats 4000000 in
theorem wb_M_write_30 {p : Program} {l : Launch} {e : Env} {R : Room} {s : State} {m : MethodId} {args : Array Value} {below : List Frame} {meth : Method} {c : Code} {D : va_G} {cl : List vw_C} {cB cI cJ cZ cS : ClassId} {A : Nat → Prop} {iM h0 : Nat} {ad : Nat → Nat} (C0 : MCx p s m args meth c b_M_write 4 none D cl cB cI cJ cZ cS iM A) (hR : R = rm_M_write) (N : Nat) (G : Unit) (hG : True) : ∀ (u : MS) (t1 : Int32) (x : MS × Unit), fb_M_write_30 N G u t1 = some x → ∀ (H : Heap) (locs : List Loc), va_P D cl (wM cB cI cJ cZ cS iM h0 ad u) H → va_D A (wM cB cI cJ cZ cS iM h0 ad u) → va_S A s.heap H locs → ∀ (ls : Array Slot), lv_has ls 4 [] → W p l e R s m args below meth c H locs 0 0 (MQ below (mQv D cl cB cI cJ cZ cS iM h0 ad A x) args s 0 0 A) (F0 m 30 ls [.int t1, .ref h0]) := by
  intro u t1 x hf H locs hP hD hS ls hl
  obtain ⟨hx, hb, hr, hml, ht, hown, hM, hK, hA, hlocks⟩ := id C0
  unfold fb_M_write_30 at hf
  refine up_I hx hb ht hown hM hK hP hD hS 144 (by decide) lk_M_144 (by decide) rfl rfl rfl d_M_write_30 (fun H locs hP hD hS => ?_)
  obtain ⟨w1, e1, hf⟩ := lt_some hf
  rw [← e1] at hP hD
  exact mr_v C0 hP hD hS hf d_M_write_33
def fb_M_write_0 (N : Nat) (G : Unit) (u : MS) (v1 : Int32) (v2 : Int64) : Option (MS × Unit) := lt (upI u 144 0) (fun w2 => bnd (fm_M_writeOn N w2 v1 v2) (fun u3 _ => br (decide ((u3.1 144) ≤ 100)) (fb_M_write_30 N G u3 ((u3.1 144))) (fb_M_write_30 N G u3 (100))))
set_option maxRecDepth 100000 in
set_option maxHeartbeats 4000000 in
theorem wb_M_write_0 {p : Program} {l : Launch} {e : Env} {R : Room} {s : State} {m : MethodId} {args : Array Value} {below : List Frame} {meth : Method} {c : Code} {D : va_G} {cl : List vw_C} {cB cI cJ cZ cS : ClassId} {A : Nat → Prop} {iM h0 : Nat} {ad : Nat → Nat} (C0 : MCx p s m args meth c b_M_write 4 none D cl cB cI cJ cZ cS iM A) (hR : R = rm_M_write) (N : Nat) (G : Unit) (hG : True) : ∀ (u : MS) (v1 : Int32) (v2 : Int64) (x : MS × Unit), fb_M_write_0 N G u v1 v2 = some x → ∀ (H : Heap) (locs : List Loc), va_P D cl (wM cB cI cJ cZ cS iM h0 ad u) H → va_D A (wM cB cI cJ cZ cS iM h0 ad u) → va_S A s.heap H locs → ∀ (ls : Array Slot), lv_has ls 4 [(0, .ref h0), (1, .int v1), (2, .long v2)] → W p l e R s m args below meth c H locs 0 0 (MQ below (mQv D cl cB cI cJ cZ cS iM h0 ad A x) args s 0 0 A) (F0 m 0 ls []) := by
  intro u v1 v2 x hf H locs hP hD hS ls hl
  obtain ⟨hx, hb, hr, hml, ht, hown, hM, hK, hA, hlocks⟩ := id C0
  unfold fb_M_write_0 at hf
  refine lv_aload_n hx hb d_M_write_0 rfl (lv_at hl 0 rfl) ?_
  refine lv_iconst (v := 0) hx hb d_M_write_1 (by decide) ?_
  refine up_I hx hb ht hown hM hK hP hD hS 144 (by decide) lk_M_144 (by decide) rfl rfl rfl d_M_write_2 (fun H locs hP hD hS => ?_)
  obtain ⟨w2, e2, hf⟩ := lt_some hf
  rw [← e2] at hP hD
  refine lv_aload_n hx hb d_M_write_5 rfl (lv_at hl 0 rfl) ?_
  refine lv_iload_n hx hb d_M_write_6 rfl (lv_at hl 1 rfl) ?_
  refine lv_lload_n hx hb d_M_write_7 rfl (lv_at hl 2 rfl) ?_
  obtain ⟨u3, r3, hc3, hf⟩ := bnd_some hf
  refine mV_v (As := [.int v1, .long v2]) (rest := []) C0 hP hD hS (c_M_writeOn N hM hc3) k_M_writeOn hl_M_writeOn hi_M_writeOn hs_M_writeOn hini_M rfl rfl hd_M_writeOn rfl (rm_M_write_M_writeOn hR) hl.1 (Nat.le_of_ble_eq_true rfl) d_M_write_8 rfl ⟨Nat.zero_le _, Nat.zero_le _⟩ (fun H locs hP hD hS => ?_)
  refine lv_aload_n hx hb d_M_write_11 rfl (lv_at hl 0 rfl) ?_
  refine lv_aload_n hx hb d_M_write_12 rfl (lv_at hl 0 rfl) ?_
  refine ug_I hx hb ht hown hM hK hP 144 (by decide) lk_M_144 (by decide) d_M_write_13 ?_
  refine lv_bipush (v := 100) hx hb d_M_write_16 (by decide) ?_
  refine lv_icmp_le (tgt := 26) hx hb d_M_write_18 (by decide) (fun hc => ?_) (fun hc => ?_)
  · rw [br_p _ hc] at hf
    refine lv_aload_n hx hb d_M_write_26 rfl (lv_at hl 0 rfl) ?_
    refine ug_I hx hb ht hown hM hK hP 144 (by decide) lk_M_144 (by decide) d_M_write_27 ?_
    exact wb_M_write_30 C0 hR N G hG _ _ _ hf H locs hP hD hS ls (lv_sub hl [] rfl)
  · rw [br_n _ hc] at hf
    refine lv_bipush (v := 100) hx hb d_M_write_21 (by decide) ?_
    refine lv_goto (tgt := 30) hx hb d_M_write_23 (by decide) ?_
    exact wb_M_write_30 C0 hR N G hG _ _ _ hf H locs hP hD hS ls (lv_sub hl [] rfl)
def fm_M_write (N : Nat) (u : MS) (v1 : Int32) (v2 : Int64) : Option (MS × Unit) := fb_M_write_0 N () u v1 v2
set_option maxRecDepth 100000 in
set_option maxHeartbeats 4000000 in
theorem c_M_write (N : Nat) {l : Launch} {D : va_G} {cl : List vw_C} {cB cI cJ cZ cS : ClassId} {iM h0 : Nat} {ad : Nat → Nat} {u : MS} {sz : Nat} {v1 : Int32} {v2 : Int64} {x : MS × Unit} (hM : cl[iM]? = some (R_M, F_M, 171)) (hf : fm_M_write N u v1 v2 = some x) : Met l y_M_write (wd_ws y_M_write b_M_write 4 none) rm_M_write (mPc D cl cB cI cJ cZ cS iM h0 ad u sz [.ref h0, .int v1, .long v2]) (mQv D cl cB cI cJ cZ cS iM h0 ad (mA cB cI cJ cZ cS iM h0 ad u sz) x) 0 0 (mA cB cI cJ cZ cS iM h0 ad u sz) :=
  mMet (by decide) rfl hM (Nat.le_of_ble_eq_true rfl) (fun p e s m below meth c ls hsz C0 hP hD hS hl => by
    have hR : rm_M_write = rm_M_write := rfl
    exact wb_M_write_0 C0 hR N () trivial u _ _ x hf s.heap [] hP hD hS ls (lv_sub hl [0, 1, 2] rfl))
abbrev b_M_willEnd : ByteArray := prog_14_method_102_code
def y_M_willEnd : MethodName := ⟨R_M, "willEnd", "(IIIJ)V"⟩
def w_M_willEnd : List Cond := wd_ws y_M_willEnd b_M_willEnd 6 none
set_option maxRecDepth 100000 in
theorem k_M_willEnd : Cond.code y_M_willEnd b_M_willEnd 6 none ∈ wd_tbl := wd_of 3006 rfl rfl
theorem d_M_willEnd_0 : decode b_M_willEnd 0 = .ok (.aload_n 0, 1) := by decide +kernel
theorem d_M_willEnd_1 : decode b_M_willEnd 1 = .ok (.getfield 255, 3) := by decide +kernel
theorem d_M_willEnd_4 : decode b_M_willEnd 4 = .ok (.iload_n 1, 1) := by decide +kernel
theorem d_M_willEnd_5 : decode b_M_willEnd 5 = .ok (.iaload, 1) := by decide +kernel
theorem d_M_willEnd_6 : decode b_M_willEnd 6 = .ok (.iconst 3, 1) := by decide +kernel
theorem d_M_willEnd_7 : decode b_M_willEnd 7 = .ok (.if_icmp .eq 61, 3) := by decide +kernel
theorem d_M_willEnd_10 : decode b_M_willEnd 10 = .ok (.aload_n 0, 1) := by decide +kernel
theorem d_M_willEnd_11 : decode b_M_willEnd 11 = .ok (.getfield 255, 3) := by decide +kernel
theorem d_M_willEnd_14 : decode b_M_willEnd 14 = .ok (.iload_n 1, 1) := by decide +kernel
theorem d_M_willEnd_15 : decode b_M_willEnd 15 = .ok (.iconst 3, 1) := by decide +kernel
theorem d_M_willEnd_16 : decode b_M_willEnd 16 = .ok (.iastore, 1) := by decide +kernel
theorem d_M_willEnd_17 : decode b_M_willEnd 17 = .ok (.aload_n 0, 1) := by decide +kernel
theorem d_M_willEnd_18 : decode b_M_willEnd 18 = .ok (.getfield 336, 3) := by decide +kernel
theorem d_M_willEnd_21 : decode b_M_willEnd 21 = .ok (.aload_n 0, 1) := by decide +kernel
theorem d_M_willEnd_22 : decode b_M_willEnd 22 = .ok (.getfield 740, 3) := by decide +kernel
theorem d_M_willEnd_25 : decode b_M_willEnd 25 = .ok (.iload_n 1, 1) := by decide +kernel
theorem d_M_willEnd_26 : decode b_M_willEnd 26 = .ok (.iastore, 1) := by decide +kernel
theorem d_M_willEnd_27 : decode b_M_willEnd 27 = .ok (.aload_n 0, 1) := by decide +kernel
theorem d_M_willEnd_28 : decode b_M_willEnd 28 = .ok (.getfield 339, 3) := by decide +kernel
theorem d_M_willEnd_31 : decode b_M_willEnd 31 = .ok (.aload_n 0, 1) := by decide +kernel
theorem d_M_willEnd_32 : decode b_M_willEnd 32 = .ok (.getfield 740, 3) := by decide +kernel
theorem d_M_willEnd_35 : decode b_M_willEnd 35 = .ok (.iload_n 2, 1) := by decide +kernel
theorem d_M_willEnd_36 : decode b_M_willEnd 36 = .ok (.iastore, 1) := by decide +kernel
theorem d_M_willEnd_37 : decode b_M_willEnd 37 = .ok (.aload_n 0, 1) := by decide +kernel
theorem d_M_willEnd_38 : decode b_M_willEnd 38 = .ok (.getfield 342, 3) := by decide +kernel
theorem d_M_willEnd_41 : decode b_M_willEnd 41 = .ok (.aload_n 0, 1) := by decide +kernel
theorem d_M_willEnd_42 : decode b_M_willEnd 42 = .ok (.getfield 740, 3) := by decide +kernel
theorem d_M_willEnd_45 : decode b_M_willEnd 45 = .ok (.iload_n 3, 1) := by decide +kernel
theorem d_M_willEnd_46 : decode b_M_willEnd 46 = .ok (.iastore, 1) := by decide +kernel
theorem d_M_willEnd_47 : decode b_M_willEnd 47 = .ok (.aload_n 0, 1) := by decide +kernel
theorem d_M_willEnd_48 : decode b_M_willEnd 48 = .ok (.getfield 345, 3) := by decide +kernel
theorem d_M_willEnd_51 : decode b_M_willEnd 51 = .ok (.aload_n 0, 1) := by decide +kernel
theorem d_M_willEnd_52 : decode b_M_willEnd 52 = .ok (.getfield 740, 3) := by decide +kernel
theorem d_M_willEnd_55 : decode b_M_willEnd 55 = .ok (.lload 4, 2) := by decide +kernel
theorem d_M_willEnd_57 : decode b_M_willEnd 57 = .ok (.lastore, 1) := by decide +kernel
theorem d_M_willEnd_58 : decode b_M_willEnd 58 = .ok (.aload_n 0, 1) := by decide +kernel
theorem d_M_willEnd_59 : decode b_M_willEnd 59 = .ok (.dup, 1) := by decide +kernel
theorem d_M_willEnd_60 : decode b_M_willEnd 60 = .ok (.getfield 740, 3) := by decide +kernel
theorem d_M_willEnd_63 : decode b_M_willEnd 63 = .ok (.iconst 1, 1) := by decide +kernel
theorem d_M_willEnd_64 : decode b_M_willEnd 64 = .ok (.iadd, 1) := by decide +kernel
theorem d_M_willEnd_65 : decode b_M_willEnd 65 = .ok (.putfield 740, 3) := by decide +kernel
theorem d_M_willEnd_68 : decode b_M_willEnd 68 = .ok (.return_, 1) := by decide +kernel
set_option maxRecDepth 100000 in
theorem hl_M_willEnd : Cond.methodLink R_M 767 y_M_willEnd ∈ wd_tbl := wd_of 3003 (by decide +kernel) rfl
set_option maxRecDepth 100000 in
theorem hi_M_willEnd : Cond.instanceMethod y_M_willEnd ∈ wd_tbl := wd_of 3005 (by decide +kernel) rfl
set_option maxRecDepth 100000 in
theorem hs_M_willEnd : Cond.selects R_M y_M_willEnd y_M_willEnd ∈ wd_tbl := wd_of 208 (by decide +kernel) rfl
theorem hd_M_willEnd : y_M_willEnd.cls = R_M ∧ y_M_willEnd.cls ≠ "java/lang/invoke/MethodHandle" ∧ y_M_willEnd.cls ≠ "java/lang/invoke/VarHandle" ∧ (parseMethodDescriptor y_M_willEnd.desc).map (fun d => d.parameters.length) = some 4 := by decide +kernel
def rm_M_willEnd : Room := { frames := 0, cells := 0, slots := 0, locals := 0 }
def fb_M_willEnd_68 (N : Nat) (G : Unit) (u : MS) : Option (MS × Unit) := some (u, ())
set_option maxRecDepth 100000 in
set_option maxHeartbeats 4000000 in
theorem wb_M_willEnd_68 {p : Program} {l : Launch} {e : Env} {R : Room} {s : State} {m : MethodId} {args : Array Value} {below : List Frame} {meth : Method} {c : Code} {D : va_G} {cl : List vw_C} {cB cI cJ cZ cS : ClassId} {A : Nat → Prop} {iM h0 : Nat} {ad : Nat → Nat} (C0 : MCx p s m args meth c b_M_willEnd 6 none D cl cB cI cJ cZ cS iM A) (hR : R = rm_M_willEnd) (N : Nat) (G : Unit) (hG : True) : ∀ (u : MS) (x : MS × Unit), fb_M_willEnd_68 N G u = some x → ∀ (H : Heap) (locs : List Loc), va_P D cl (wM cB cI cJ cZ cS iM h0 ad u) H → va_D A (wM cB cI cJ cZ cS iM h0 ad u) → va_S A s.heap H locs → ∀ (ls : Array Slot), lv_has ls 6 [] → W p l e R s m args below meth c H locs 0 0 (MQ below (mQv D cl cB cI cJ cZ cS iM h0 ad A x) args s 0 0 A) (F0 m 68 ls []) := by
  intro u x hf H locs hP hD hS ls hl
  obtain ⟨hx, hb, hr, hml, ht, hown, hM, hK, hA, hlocks⟩ := id C0
  unfold fb_M_willEnd_68 at hf
  exact mr_v C0 hP hD hS hf d_M_willEnd_68
def fb_M_willEnd_0 (N : Nat) (G : Unit) (u : MS) (v1 : Int32) (v2 : Int32) (v3 : Int32) (v4 : Int64) : Option (MS × Unit) := ck (inb v1 (ln 109)) (br (decide ((u.2.2.1 109 v1.toNatClampNeg) = 3)) (fb_M_willEnd_68 N G u) (ck (inb v1 (ln 109)) (lt (upA u 109 (upd (u.2.2.1 109) v1.toNatClampNeg 3)) (fun w1 => ck (inb (w1.1 150) (ln 145)) (lt (upA w1 145 (upd (w1.2.2.1 145) (w1.1 150).toNatClampNeg v1)) (fun w2 => ck (inb (w2.1 150) (ln 146)) (lt (upA w2 146 (upd (w2.2.2.1 146) (w2.1 150).toNatClampNeg v2)) (fun w3 => ck (inb (w3.1 150) (ln 147)) (lt (upA w3 147 (upd (w3.2.2.1 147) (w3.1 150).toNatClampNeg v3)) (fun w4 => ck (inb (w4.1 150) (ln 148)) (lt (upJ w4 148 (vp_updL (w4.2.2.2 148) (w4.1 150).toNatClampNeg v4)) (fun w5 => lt (upI w5 150 ((w5.1 150) + 1)) (fun w6 => fb_M_willEnd_68 N G w6)))))))))))))
set_option maxRecDepth 100000 in
set_option maxHeartbeats 4000000 in
theorem wb_M_willEnd_0 {p : Program} {l : Launch} {e : Env} {R : Room} {s : State} {m : MethodId} {args : Array Value} {below : List Frame} {meth : Method} {c : Code} {D : va_G} {cl : List vw_C} {cB cI cJ cZ cS : ClassId} {A : Nat → Prop} {iM h0 : Nat} {ad : Nat → Nat} (C0 : MCx p s m args meth c b_M_willEnd 6 none D cl cB cI cJ cZ cS iM A) (hR : R = rm_M_willEnd) (N : Nat) (G : Unit) (hG : True) : ∀ (u : MS) (v1 : Int32) (v2 : Int32) (v3 : Int32) (v4 : Int64) (x : MS × Unit), fb_M_willEnd_0 N G u v1 v2 v3 v4 = some x → ∀ (H : Heap) (locs : List Loc), va_P D cl (wM cB cI cJ cZ cS iM h0 ad u) H → va_D A (wM cB cI cJ cZ cS iM h0 ad u) → va_S A s.heap H locs → ∀ (ls : Array Slot), lv_has ls 6 [(0, .ref h0), (1, .int v1), (2, .int v2), (3, .int v3), (4, .long v4)] → W p l e R s m args below meth c H locs 0 0 (MQ below (mQv D cl cB cI cJ cZ cS iM h0 ad A x) args s 0 0 A) (F0 m 0 ls []) := by
  intro u v1 v2 v3 v4 x hf H locs hP hD hS ls hl
  obtain ⟨hx, hb, hr, hml, ht, hown, hM, hK, hA, hlocks⟩ := id C0
  unfold fb_M_willEnd_0 at hf
  refine lv_aload_n hx hb d_M_willEnd_0 rfl (lv_at hl 0 rfl) ?_
  refine ug_R hx hb ht hown hM hK hP 109 (by decide) lk_M_109 (by decide) d_M_willEnd_1 ?_
  refine lv_iload_n hx hb d_M_willEnd_4 rfl (lv_at hl 1 rfl) ?_
  obtain ⟨hi9, hf⟩ := ck_some hf
  refine ul_I hx hb hK hP (by decide) (by decide) hi9 d_M_willEnd_5 ?_
  refine lv_iconst (v := 3) hx hb d_M_willEnd_6 (by decide) ?_
  refine lv_icmp_eq (tgt := 68) hx hb d_M_willEnd_7 (by decide) (fun hc => ?_) (fun hc => ?_)
  · rw [br_p _ hc] at hf
    exact wb_M_willEnd_68 C0 hR N G hG _ _ hf H locs hP hD hS ls (lv_sub hl [] rfl)
  · rw [br_n _ hc] at hf
    refine lv_aload_n hx hb d_M_willEnd_10 rfl (lv_at hl 0 rfl) ?_
    refine ug_R hx hb ht hown hM hK hP 109 (by decide) lk_M_109 (by decide) d_M_willEnd_11 ?_
    refine lv_iload_n hx hb d_M_willEnd_14 rfl (lv_at hl 1 rfl) ?_
    refine lv_iconst (v := 3) hx hb d_M_willEnd_15 (by decide) ?_
    obtain ⟨hi9, hf⟩ := ck_some hf
    refine us_I hx hb hK hP hD hS (by decide) (by decide) hi9 d_M_willEnd_16 (fun H locs hP hD hS => ?_)
    obtain ⟨w1, e1, hf⟩ := lt_some hf
    rw [← e1] at hP hD
    refine lv_aload_n hx hb d_M_willEnd_17 rfl (lv_at hl 0 rfl) ?_
    refine ug_R hx hb ht hown hM hK hP 145 (by decide) lk_M_145 (by decide) d_M_willEnd_18 ?_
    refine lv_aload_n hx hb d_M_willEnd_21 rfl (lv_at hl 0 rfl) ?_
    refine ug_I hx hb ht hown hM hK hP 150 (by decide) lk_M_150 (by decide) d_M_willEnd_22 ?_
    refine lv_iload_n hx hb d_M_willEnd_25 rfl (lv_at hl 1 rfl) ?_
    obtain ⟨hi9, hf⟩ := ck_some hf
    refine us_I hx hb hK hP hD hS (by decide) (by decide) hi9 d_M_willEnd_26 (fun H locs hP hD hS => ?_)
    obtain ⟨w2, e2, hf⟩ := lt_some hf
    rw [← e2] at hP hD
    refine lv_aload_n hx hb d_M_willEnd_27 rfl (lv_at hl 0 rfl) ?_
    refine ug_R hx hb ht hown hM hK hP 146 (by decide) lk_M_146 (by decide) d_M_willEnd_28 ?_
    refine lv_aload_n hx hb d_M_willEnd_31 rfl (lv_at hl 0 rfl) ?_
    refine ug_I hx hb ht hown hM hK hP 150 (by decide) lk_M_150 (by decide) d_M_willEnd_32 ?_
    refine lv_iload_n hx hb d_M_willEnd_35 rfl (lv_at hl 2 rfl) ?_
    obtain ⟨hi9, hf⟩ := ck_some hf
    refine us_I hx hb hK hP hD hS (by decide) (by decide) hi9 d_M_willEnd_36 (fun H locs hP hD hS => ?_)
    obtain ⟨w3, e3, hf⟩ := lt_some hf
    rw [← e3] at hP hD
    refine lv_aload_n hx hb d_M_willEnd_37 rfl (lv_at hl 0 rfl) ?_
    refine ug_R hx hb ht hown hM hK hP 147 (by decide) lk_M_147 (by decide) d_M_willEnd_38 ?_
    refine lv_aload_n hx hb d_M_willEnd_41 rfl (lv_at hl 0 rfl) ?_
    refine ug_I hx hb ht hown hM hK hP 150 (by decide) lk_M_150 (by decide) d_M_willEnd_42 ?_
    refine lv_iload_n hx hb d_M_willEnd_45 rfl (lv_at hl 3 rfl) ?_
    obtain ⟨hi9, hf⟩ := ck_some hf
    refine us_I hx hb hK hP hD hS (by decide) (by decide) hi9 d_M_willEnd_46 (fun H locs hP hD hS => ?_)
    obtain ⟨w4, e4, hf⟩ := lt_some hf
    rw [← e4] at hP hD
    refine lv_aload_n hx hb d_M_willEnd_47 rfl (lv_at hl 0 rfl) ?_
    refine ug_R hx hb ht hown hM hK hP 148 (by decide) lk_M_148 (by decide) d_M_willEnd_48 ?_
    refine lv_aload_n hx hb d_M_willEnd_51 rfl (lv_at hl 0 rfl) ?_
    refine ug_I hx hb ht hown hM hK hP 150 (by decide) lk_M_150 (by decide) d_M_willEnd_52 ?_
    refine lv_lload hx hb d_M_willEnd_55 (lv_at hl 4 rfl) ?_
    obtain ⟨hi9, hf⟩ := ck_some hf
    refine us_J hx hb hK hP hD hS (by decide) (by decide) hi9 d_M_willEnd_57 (fun H locs hP hD hS => ?_)
    obtain ⟨w5, e5, hf⟩ := lt_some hf
    rw [← e5] at hP hD
    refine lv_aload_n hx hb d_M_willEnd_58 rfl (lv_at hl 0 rfl) ?_
    refine lv_dup hx hb d_M_willEnd_59 rfl ?_
    refine ug_I hx hb ht hown hM hK hP 150 (by decide) lk_M_150 (by decide) d_M_willEnd_60 ?_
    refine lv_iconst (v := 1) hx hb d_M_willEnd_63 (by decide) ?_
    refine lv_iadd hx hb d_M_willEnd_64 ?_
    refine up_I hx hb ht hown hM hK hP hD hS 150 (by decide) lk_M_150 (by decide) rfl rfl rfl d_M_willEnd_65 (fun H locs hP hD hS => ?_)
    obtain ⟨w6, e6, hf⟩ := lt_some hf
    rw [← e6] at hP hD
    exact wb_M_willEnd_68 C0 hR N G hG _ _ hf H locs hP hD hS ls (lv_sub hl [] rfl)
def fm_M_willEnd (N : Nat) (u : MS) (v1 : Int32) (v2 : Int32) (v3 : Int32) (v4 : Int64) : Option (MS × Unit) := fb_M_willEnd_0 N () u v1 v2 v3 v4
set_option maxRecDepth 100000 in
set_option maxHeartbeats 4000000 in
theorem c_M_willEnd (N : Nat) {l : Launch} {D : va_G} {cl : List vw_C} {cB cI cJ cZ cS : ClassId} {iM h0 : Nat} {ad : Nat → Nat} {u : MS} {sz : Nat} {v1 : Int32} {v2 : Int32} {v3 : Int32} {v4 : Int64} {x : MS × Unit} (hM : cl[iM]? = some (R_M, F_M, 171)) (hf : fm_M_willEnd N u v1 v2 v3 v4 = some x) : Met l y_M_willEnd (wd_ws y_M_willEnd b_M_willEnd 6 none) rm_M_willEnd (mPc D cl cB cI cJ cZ cS iM h0 ad u sz [.ref h0, .int v1, .int v2, .int v3, .long v4]) (mQv D cl cB cI cJ cZ cS iM h0 ad (mA cB cI cJ cZ cS iM h0 ad u sz) x) 0 0 (mA cB cI cJ cZ cS iM h0 ad u sz) :=
  mMet (by decide) rfl hM (Nat.le_of_ble_eq_true rfl) (fun p e s m below meth c ls hsz C0 hP hD hS hl => by
    have hR : rm_M_willEnd = rm_M_willEnd := rfl
    exact wb_M_willEnd_0 C0 hR N () trivial u _ _ _ _ x hf s.heap [] hP hD hS ls (lv_sub hl [0, 1, 2, 3, 4] rfl))
abbrev b_M_removeLink : ByteArray := prog_14_method_105_code
def y_M_removeLink : MethodName := ⟨R_M, "removeLink", "(II)V"⟩
def w_M_removeLink : List Cond := wd_ws y_M_removeLink b_M_removeLink 5 none
set_option maxRecDepth 100000 in
theorem k_M_removeLink : Cond.code y_M_removeLink b_M_removeLink 5 none ∈ wd_tbl := wd_of 3165 rfl rfl
theorem d_M_removeLink_0 : decode b_M_removeLink 0 = .ok (.iconst 0, 1) := by decide +kernel
theorem d_M_removeLink_1 : decode b_M_removeLink 1 = .ok (.istore_n 3, 1) := by decide +kernel
theorem d_M_removeLink_2 : decode b_M_removeLink 2 = .ok (.iconst 0, 1) := by decide +kernel
theorem d_M_removeLink_3 : decode b_M_removeLink 3 = .ok (.istore 4, 2) := by decide +kernel
theorem d_M_removeLink_5 : decode b_M_removeLink 5 = .ok (.iload 4, 2) := by decide +kernel
theorem d_M_removeLink_7 : decode b_M_removeLink 7 = .ok (.aload_n 0, 1) := by decide +kernel
theorem d_M_removeLink_8 : decode b_M_removeLink 8 = .ok (.getfield 279, 3) := by decide +kernel
theorem d_M_removeLink_11 : decode b_M_removeLink 11 = .ok (.iload_n 1, 1) := by decide +kernel
theorem d_M_removeLink_12 : decode b_M_removeLink 12 = .ok (.iaload, 1) := by decide +kernel
theorem d_M_removeLink_13 : decode b_M_removeLink 13 = .ok (.if_icmp .ge 51, 3) := by decide +kernel
theorem d_M_removeLink_16 : decode b_M_removeLink 16 = .ok (.aload_n 0, 1) := by decide +kernel
theorem d_M_removeLink_17 : decode b_M_removeLink 17 = .ok (.getfield 276, 3) := by decide +kernel
theorem d_M_removeLink_20 : decode b_M_removeLink 20 = .ok (.bipush 24, 2) := by decide +kernel
theorem d_M_removeLink_22 : decode b_M_removeLink 22 = .ok (.iload_n 1, 1) := by decide +kernel
theorem d_M_removeLink_23 : decode b_M_removeLink 23 = .ok (.imul, 1) := by decide +kernel
theorem d_M_removeLink_24 : decode b_M_removeLink 24 = .ok (.iload 4, 2) := by decide +kernel
theorem d_M_removeLink_26 : decode b_M_removeLink 26 = .ok (.iadd, 1) := by decide +kernel
theorem d_M_removeLink_27 : decode b_M_removeLink 27 = .ok (.iaload, 1) := by decide +kernel
theorem d_M_removeLink_28 : decode b_M_removeLink 28 = .ok (.iload_n 2, 1) := by decide +kernel
theorem d_M_removeLink_29 : decode b_M_removeLink 29 = .ok (.if_icmp .eq 29, 3) := by decide +kernel
theorem d_M_removeLink_32 : decode b_M_removeLink 32 = .ok (.aload_n 0, 1) := by decide +kernel
theorem d_M_removeLink_33 : decode b_M_removeLink 33 = .ok (.getfield 276, 3) := by decide +kernel
theorem d_M_removeLink_36 : decode b_M_removeLink 36 = .ok (.bipush 24, 2) := by decide +kernel
theorem d_M_removeLink_38 : decode b_M_removeLink 38 = .ok (.iload_n 1, 1) := by decide +kernel
theorem d_M_removeLink_39 : decode b_M_removeLink 39 = .ok (.imul, 1) := by decide +kernel
theorem d_M_removeLink_40 : decode b_M_removeLink 40 = .ok (.iload_n 3, 1) := by decide +kernel
theorem d_M_removeLink_41 : decode b_M_removeLink 41 = .ok (.iadd, 1) := by decide +kernel
theorem d_M_removeLink_42 : decode b_M_removeLink 42 = .ok (.aload_n 0, 1) := by decide +kernel
theorem d_M_removeLink_43 : decode b_M_removeLink 43 = .ok (.getfield 276, 3) := by decide +kernel
theorem d_M_removeLink_46 : decode b_M_removeLink 46 = .ok (.bipush 24, 2) := by decide +kernel
theorem d_M_removeLink_48 : decode b_M_removeLink 48 = .ok (.iload_n 1, 1) := by decide +kernel
theorem d_M_removeLink_49 : decode b_M_removeLink 49 = .ok (.imul, 1) := by decide +kernel
theorem d_M_removeLink_50 : decode b_M_removeLink 50 = .ok (.iload 4, 2) := by decide +kernel
theorem d_M_removeLink_52 : decode b_M_removeLink 52 = .ok (.iadd, 1) := by decide +kernel
theorem d_M_removeLink_53 : decode b_M_removeLink 53 = .ok (.iaload, 1) := by decide +kernel
theorem d_M_removeLink_54 : decode b_M_removeLink 54 = .ok (.iastore, 1) := by decide +kernel
theorem d_M_removeLink_55 : decode b_M_removeLink 55 = .ok (.iinc 3 1, 3) := by decide +kernel
theorem d_M_removeLink_58 : decode b_M_removeLink 58 = .ok (.iinc 4 1, 3) := by decide +kernel
theorem d_M_removeLink_61 : decode b_M_removeLink 61 = .ok (.goto (-56), 3) := by decide +kernel
theorem d_M_removeLink_64 : decode b_M_removeLink 64 = .ok (.aload_n 0, 1) := by decide +kernel
theorem d_M_removeLink_65 : decode b_M_removeLink 65 = .ok (.getfield 279, 3) := by decide +kernel
theorem d_M_removeLink_68 : decode b_M_removeLink 68 = .ok (.iload_n 1, 1) := by decide +kernel
theorem d_M_removeLink_69 : decode b_M_removeLink 69 = .ok (.iload_n 3, 1) := by decide +kernel
theorem d_M_removeLink_70 : decode b_M_removeLink 70 = .ok (.iastore, 1) := by decide +kernel
theorem d_M_removeLink_71 : decode b_M_removeLink 71 = .ok (.return_, 1) := by decide +kernel
set_option maxRecDepth 100000 in
theorem hl_M_removeLink : Cond.methodLink R_M 750 y_M_removeLink ∈ wd_tbl := wd_of 3162 (by decide +kernel) rfl
set_option maxRecDepth 100000 in
theorem hi_M_removeLink : Cond.instanceMethod y_M_removeLink ∈ wd_tbl := wd_of 3164 (by decide +kernel) rfl
set_option maxRecDepth 100000 in
theorem hs_M_removeLink : Cond.selects R_M y_M_removeLink y_M_removeLink ∈ wd_tbl := wd_of 245 (by decide +kernel) rfl
theorem hd_M_removeLink : y_M_removeLink.cls = R_M ∧ y_M_removeLink.cls ≠ "java/lang/invoke/MethodHandle" ∧ y_M_removeLink.cls ≠ "java/lang/invoke/VarHandle" ∧ (parseMethodDescriptor y_M_removeLink.desc).map (fun d => d.parameters.length) = some 2 := by decide +kernel
def rm_M_removeLink : Room := { frames := 0, cells := 0, slots := 0, locals := 0 }
def fb_M_removeLink_58 (N : Nat) (G : (MS → Int32 → Int32 → Int32 → Int32 → Option (MS × Unit))) (u : MS) (v1 : Int32) (v2 : Int32) (v3 : Int32) (v4 : Int32) : Option (MS × Unit) := G u (v1) (v2) (v3) ((v4 + 1))
set_option maxRecDepth 100000 in
set_option maxHeartbeats 4000000 in
theorem wb_M_removeLink_58 {p : Program} {l : Launch} {e : Env} {R : Room} {s : State} {m : MethodId} {args : Array Value} {below : List Frame} {meth : Method} {c : Code} {D : va_G} {cl : List vw_C} {cB cI cJ cZ cS : ClassId} {A : Nat → Prop} {iM h0 : Nat} {ad : Nat → Nat} (C0 : MCx p s m args meth c b_M_removeLink 5 none D cl cB cI cJ cZ cS iM A) (hR : R = rm_M_removeLink) (N : Nat) (G : (MS → Int32 → Int32 → Int32 → Int32 → Option (MS × Unit))) (hG : (∀ (u : MS) (v1 : Int32) (v2 : Int32) (v3 : Int32) (v4 : Int32) (x : MS × Unit), G u v1 v2 v3 v4 = some x → ∀ (H : Heap) (locs : List Loc), va_P D cl (wM cB cI cJ cZ cS iM h0 ad u) H → va_D A (wM cB cI cJ cZ cS iM h0 ad u) → va_S A s.heap H locs → ∀ (ls : Array Slot), lv_has ls 5 [(0, .ref h0), (1, .int v1), (2, .int v2), (3, .int v3), (4, .int v4)] → W p l e R s m args below meth c H locs 0 0 (MQ below (mQv D cl cB cI cJ cZ cS iM h0 ad A x) args s 0 0 A) (F0 m 5 ls []))) : ∀ (u : MS) (v1 : Int32) (v2 : Int32) (v3 : Int32) (v4 : Int32) (x : MS × Unit), fb_M_removeLink_58 N G u v1 v2 v3 v4 = some x → ∀ (H : Heap) (locs : List Loc), va_P D cl (wM cB cI cJ cZ cS iM h0 ad u) H → va_D A (wM cB cI cJ cZ cS iM h0 ad u) → va_S A s.heap H locs → ∀ (ls : Array Slot), lv_has ls 5 [(0, .ref h0), (1, .int v1), (2, .int v2), (3, .int v3), (4, .int v4)] → W p l e R s m args below meth c H locs 0 0 (MQ below (mQv D cl cB cI cJ cZ cS iM h0 ad A x) args s 0 0 A) (F0 m 58 ls []) := by
  intro u v1 v2 v3 v4 x hf H locs hP hD hS ls hl
  obtain ⟨hx, hb, hr, hml, ht, hown, hM, hK, hA, hlocks⟩ := id C0
  unfold fb_M_removeLink_58 at hf
  refine lv_iinc (v := (v4 + 1)) (lv' := [(4, .int (v4 + 1)), (0, .ref h0), (1, .int v1), (2, .int v2), (3, .int v3)]) hx hb d_M_removeLink_58 hl (k := 4) rfl rfl (by decide) rfl (fun ls hl => ?_)
  refine lv_goto (tgt := 5) hx hb d_M_removeLink_61 (by decide) ?_
  exact hG _ _ _ _ _ _ hf H locs hP hD hS ls (lv_sub hl [1, 2, 3, 4, 0] rfl)
def fb_M_removeLink_5 (N : Nat) (G : (MS → Int32 → Int32 → Int32 → Int32 → Option (MS × Unit))) (u : MS) (v1 : Int32) (v2 : Int32) (v3 : Int32) (v4 : Int32) : Option (MS × Unit) := ck (inb v1 (ln 117)) (br (decide ((u.2.2.1 117 v1.toNatClampNeg) ≤ v4)) (ck (inb v1 (ln 117)) (lt (upA u 117 (upd (u.2.2.1 117) v1.toNatClampNeg v3)) (fun w1 => some (w1, ())))) (ck (inb ((24 * v1) + v4) (ln 116)) (br (decide ((u.2.2.1 116 ((24 * v1) + v4).toNatClampNeg) = v2)) (fb_M_removeLink_58 N G u (v1) (v2) (v3) (v4)) (ck (inb ((24 * v1) + v4) (ln 116)) (ck (inb ((24 * v1) + v3) (ln 116)) (lt (upA u 116 (upd (u.2.2.1 116) ((24 * v1) + v3).toNatClampNeg (u.2.2.1 116 ((24 * v1) + v4).toNatClampNeg))) (fun w2 => fb_M_removeLink_58 N G w2 (v1) (v2) ((v3 + 1)) (v4))))))))
set_option maxRecDepth 100000 in
set_option maxHeartbeats 4000000 in
theorem wb_M_removeLink_5 {p : Program} {l : Launch} {e : Env} {R : Room} {s : State} {m : MethodId} {args : Array Value} {below : List Frame} {meth : Method} {c : Code} {D : va_G} {cl : List vw_C} {cB cI cJ cZ cS : ClassId} {A : Nat → Prop} {iM h0 : Nat} {ad : Nat → Nat} (C0 : MCx p s m args meth c b_M_removeLink 5 none D cl cB cI cJ cZ cS iM A) (hR : R = rm_M_removeLink) (N : Nat) (G : (MS → Int32 → Int32 → Int32 → Int32 → Option (MS × Unit))) (hG : (∀ (u : MS) (v1 : Int32) (v2 : Int32) (v3 : Int32) (v4 : Int32) (x : MS × Unit), G u v1 v2 v3 v4 = some x → ∀ (H : Heap) (locs : List Loc), va_P D cl (wM cB cI cJ cZ cS iM h0 ad u) H → va_D A (wM cB cI cJ cZ cS iM h0 ad u) → va_S A s.heap H locs → ∀ (ls : Array Slot), lv_has ls 5 [(0, .ref h0), (1, .int v1), (2, .int v2), (3, .int v3), (4, .int v4)] → W p l e R s m args below meth c H locs 0 0 (MQ below (mQv D cl cB cI cJ cZ cS iM h0 ad A x) args s 0 0 A) (F0 m 5 ls []))) : ∀ (u : MS) (v1 : Int32) (v2 : Int32) (v3 : Int32) (v4 : Int32) (x : MS × Unit), fb_M_removeLink_5 N G u v1 v2 v3 v4 = some x → ∀ (H : Heap) (locs : List Loc), va_P D cl (wM cB cI cJ cZ cS iM h0 ad u) H → va_D A (wM cB cI cJ cZ cS iM h0 ad u) → va_S A s.heap H locs → ∀ (ls : Array Slot), lv_has ls 5 [(0, .ref h0), (1, .int v1), (2, .int v2), (3, .int v3), (4, .int v4)] → W p l e R s m args below meth c H locs 0 0 (MQ below (mQv D cl cB cI cJ cZ cS iM h0 ad A x) args s 0 0 A) (F0 m 5 ls []) := by
  intro u v1 v2 v3 v4 x hf H locs hP hD hS ls hl
  obtain ⟨hx, hb, hr, hml, ht, hown, hM, hK, hA, hlocks⟩ := id C0
  unfold fb_M_removeLink_5 at hf
  refine lv_iload hx hb d_M_removeLink_5 (lv_at hl 4 rfl) ?_
  refine lv_aload_n hx hb d_M_removeLink_7 rfl (lv_at hl 0 rfl) ?_
  refine ug_R hx hb ht hown hM hK hP 117 (by decide) lk_M_117 (by decide) d_M_removeLink_8 ?_
  refine lv_iload_n hx hb d_M_removeLink_11 rfl (lv_at hl 1 rfl) ?_
  obtain ⟨hi9, hf⟩ := ck_some hf
  refine ul_I hx hb hK hP (by decide) (by decide) hi9 d_M_removeLink_12 ?_
  refine lv_icmp_ge (tgt := 64) hx hb d_M_removeLink_13 (by decide) (fun hc => ?_) (fun hc => ?_)
  · rw [br_p _ hc] at hf
    refine lv_aload_n hx hb d_M_removeLink_64 rfl (lv_at hl 0 rfl) ?_
    refine ug_R hx hb ht hown hM hK hP 117 (by decide) lk_M_117 (by decide) d_M_removeLink_65 ?_
    refine lv_iload_n hx hb d_M_removeLink_68 rfl (lv_at hl 1 rfl) ?_
    refine lv_iload_n hx hb d_M_removeLink_69 rfl (lv_at hl 3 rfl) ?_
    obtain ⟨hi9, hf⟩ := ck_some hf
    refine us_I hx hb hK hP hD hS (by decide) (by decide) hi9 d_M_removeLink_70 (fun H locs hP hD hS => ?_)
    obtain ⟨w1, e1, hf⟩ := lt_some hf
    rw [← e1] at hP hD
    exact mr_v C0 hP hD hS hf d_M_removeLink_71
  · rw [br_n _ hc] at hf
    refine lv_aload_n hx hb d_M_removeLink_16 rfl (lv_at hl 0 rfl) ?_
    refine ug_R hx hb ht hown hM hK hP 116 (by decide) lk_M_116 (by decide) d_M_removeLink_17 ?_
    refine lv_bipush (v := 24) hx hb d_M_removeLink_20 (by decide) ?_
    refine lv_iload_n hx hb d_M_removeLink_22 rfl (lv_at hl 1 rfl) ?_
    refine lv_imul hx hb d_M_removeLink_23 ?_
    refine lv_iload hx hb d_M_removeLink_24 (lv_at hl 4 rfl) ?_
    refine lv_iadd hx hb d_M_removeLink_26 ?_
    obtain ⟨hi9, hf⟩ := ck_some hf
    refine ul_I hx hb hK hP (by decide) (by decide) hi9 d_M_removeLink_27 ?_
    refine lv_iload_n hx hb d_M_removeLink_28 rfl (lv_at hl 2 rfl) ?_
    refine lv_icmp_eq (tgt := 58) hx hb d_M_removeLink_29 (by decide) (fun hc => ?_) (fun hc => ?_)
    · rw [br_p _ hc] at hf
      exact wb_M_removeLink_58 C0 hR N G hG _ _ _ _ _ _ hf H locs hP hD hS ls (lv_sub hl [0, 1, 2, 3, 4] rfl)
    · rw [br_n _ hc] at hf
      refine lv_aload_n hx hb d_M_removeLink_32 rfl (lv_at hl 0 rfl) ?_
      refine ug_R hx hb ht hown hM hK hP 116 (by decide) lk_M_116 (by decide) d_M_removeLink_33 ?_
      refine lv_bipush (v := 24) hx hb d_M_removeLink_36 (by decide) ?_
      refine lv_iload_n hx hb d_M_removeLink_38 rfl (lv_at hl 1 rfl) ?_
      refine lv_imul hx hb d_M_removeLink_39 ?_
      refine lv_iload_n hx hb d_M_removeLink_40 rfl (lv_at hl 3 rfl) ?_
      refine lv_iadd hx hb d_M_removeLink_41 ?_
      refine lv_aload_n hx hb d_M_removeLink_42 rfl (lv_at hl 0 rfl) ?_
      refine ug_R hx hb ht hown hM hK hP 116 (by decide) lk_M_116 (by decide) d_M_removeLink_43 ?_
      refine lv_bipush (v := 24) hx hb d_M_removeLink_46 (by decide) ?_
      refine lv_iload_n hx hb d_M_removeLink_48 rfl (lv_at hl 1 rfl) ?_
      refine lv_imul hx hb d_M_removeLink_49 ?_
      refine lv_iload hx hb d_M_removeLink_50 (lv_at hl 4 rfl) ?_
      refine lv_iadd hx hb d_M_removeLink_52 ?_
      obtain ⟨hi9, hf⟩ := ck_some hf
      refine ul_I hx hb hK hP (by decide) (by decide) hi9 d_M_removeLink_53 ?_
      obtain ⟨hi9, hf⟩ := ck_some hf
      refine us_I hx hb hK hP hD hS (by decide) (by decide) hi9 d_M_removeLink_54 (fun H locs hP hD hS => ?_)
      obtain ⟨w2, e2, hf⟩ := lt_some hf
      rw [← e2] at hP hD
      refine lv_iinc (v := (v3 + 1)) (lv' := [(3, .int (v3 + 1)), (0, .ref h0), (1, .int v1), (2, .int v2), (4, .int v4)]) hx hb d_M_removeLink_55 hl (k := 3) rfl rfl (by decide) rfl (fun ls hl => ?_)
      exact wb_M_removeLink_58 C0 hR N G hG _ _ _ _ _ _ hf H locs hP hD hS ls (lv_sub hl [1, 2, 3, 0, 4] rfl)
def fb_M_removeLink_0 (N : Nat) (G : (MS → Int32 → Int32 → Int32 → Int32 → Option (MS × Unit))) (u : MS) (v1 : Int32) (v2 : Int32) : Option (MS × Unit) := G u (v1) (v2) (0) (0)
set_option maxRecDepth 100000 in
set_option maxHeartbeats 4000000 in
theorem wb_M_removeLink_0 {p : Program} {l : Launch} {e : Env} {R : Room} {s : State} {m : MethodId} {args : Array Value} {below : List Frame} {meth : Method} {c : Code} {D : va_G} {cl : List vw_C} {cB cI cJ cZ cS : ClassId} {A : Nat → Prop} {iM h0 : Nat} {ad : Nat → Nat} (C0 : MCx p s m args meth c b_M_removeLink 5 none D cl cB cI cJ cZ cS iM A) (hR : R = rm_M_removeLink) (N : Nat) (G : (MS → Int32 → Int32 → Int32 → Int32 → Option (MS × Unit))) (hG : (∀ (u : MS) (v1 : Int32) (v2 : Int32) (v3 : Int32) (v4 : Int32) (x : MS × Unit), G u v1 v2 v3 v4 = some x → ∀ (H : Heap) (locs : List Loc), va_P D cl (wM cB cI cJ cZ cS iM h0 ad u) H → va_D A (wM cB cI cJ cZ cS iM h0 ad u) → va_S A s.heap H locs → ∀ (ls : Array Slot), lv_has ls 5 [(0, .ref h0), (1, .int v1), (2, .int v2), (3, .int v3), (4, .int v4)] → W p l e R s m args below meth c H locs 0 0 (MQ below (mQv D cl cB cI cJ cZ cS iM h0 ad A x) args s 0 0 A) (F0 m 5 ls []))) : ∀ (u : MS) (v1 : Int32) (v2 : Int32) (x : MS × Unit), fb_M_removeLink_0 N G u v1 v2 = some x → ∀ (H : Heap) (locs : List Loc), va_P D cl (wM cB cI cJ cZ cS iM h0 ad u) H → va_D A (wM cB cI cJ cZ cS iM h0 ad u) → va_S A s.heap H locs → ∀ (ls : Array Slot), lv_has ls 5 [(0, .ref h0), (1, .int v1), (2, .int v2)] → W p l e R s m args below meth c H locs 0 0 (MQ below (mQv D cl cB cI cJ cZ cS iM h0 ad A x) args s 0 0 A) (F0 m 0 ls []) := by
  intro u v1 v2 x hf H locs hP hD hS ls hl
  obtain ⟨hx, hb, hr, hml, ht, hown, hM, hK, hA, hlocks⟩ := id C0
  unfold fb_M_removeLink_0 at hf
  refine lv_iconst (v := 0) hx hb d_M_removeLink_0 (by decide) ?_
  refine lv_istore_n (lv' := [(3, .int 0), (0, .ref h0), (1, .int v1), (2, .int v2)]) hx hb d_M_removeLink_1 rfl hl (by decide) rfl (fun ls hl => ?_)
  refine lv_iconst (v := 0) hx hb d_M_removeLink_2 (by decide) ?_
  refine lv_istore (lv' := [(4, .int 0), (3, .int 0), (0, .ref h0), (1, .int v1), (2, .int v2)]) hx hb d_M_removeLink_3 hl (by decide) rfl (fun ls hl => ?_)
  exact hG _ _ _ _ _ _ hf H locs hP hD hS ls (lv_sub hl [2, 3, 4, 1, 0] rfl)
def gg_M_removeLink (N : Nat) : Nat → ((MS → Int32 → Int32 → Int32 → Int32 → Option (MS × Unit)))
  | 0 => fun _ _ _ _ _ => none
  | n + 1 => fb_M_removeLink_5 N (gg_M_removeLink N n)
theorem wg_M_removeLink {p : Program} {l : Launch} {e : Env} {R : Room} {s : State} {m : MethodId} {args : Array Value} {below : List Frame} {meth : Method} {c : Code} {D : va_G} {cl : List vw_C} {cB cI cJ cZ cS : ClassId} {A : Nat → Prop} {iM h0 : Nat} {ad : Nat → Nat} (C0 : MCx p s m args meth c b_M_removeLink 5 none D cl cB cI cJ cZ cS iM A) (hR : R = rm_M_removeLink) (N : Nat) : ∀ n : Nat, (∀ (u : MS) (v1 : Int32) (v2 : Int32) (v3 : Int32) (v4 : Int32) (x : MS × Unit), gg_M_removeLink N n u v1 v2 v3 v4 = some x → ∀ (H : Heap) (locs : List Loc), va_P D cl (wM cB cI cJ cZ cS iM h0 ad u) H → va_D A (wM cB cI cJ cZ cS iM h0 ad u) → va_S A s.heap H locs → ∀ (ls : Array Slot), lv_has ls 5 [(0, .ref h0), (1, .int v1), (2, .int v2), (3, .int v3), (4, .int v4)] → W p l e R s m args below meth c H locs 0 0 (MQ below (mQv D cl cB cI cJ cZ cS iM h0 ad A x) args s 0 0 A) (F0 m 5 ls []))
  | 0 => (fun u v1 v2 v3 v4 x hf => by cases hf)
  | n + 1 => wb_M_removeLink_5 C0 hR N (gg_M_removeLink N n) (wg_M_removeLink C0 hR N n)
def fm_M_removeLink (N : Nat) (u : MS) (v1 : Int32) (v2 : Int32) : Option (MS × Unit) := fb_M_removeLink_0 N (gg_M_removeLink N N) u v1 v2
set_option maxRecDepth 100000 in
set_option maxHeartbeats 4000000 in
theorem c_M_removeLink (N : Nat) {l : Launch} {D : va_G} {cl : List vw_C} {cB cI cJ cZ cS : ClassId} {iM h0 : Nat} {ad : Nat → Nat} {u : MS} {sz : Nat} {v1 : Int32} {v2 : Int32} {x : MS × Unit} (hM : cl[iM]? = some (R_M, F_M, 171)) (hf : fm_M_removeLink N u v1 v2 = some x) : Met l y_M_removeLink (wd_ws y_M_removeLink b_M_removeLink 5 none) rm_M_removeLink (mPc D cl cB cI cJ cZ cS iM h0 ad u sz [.ref h0, .int v1, .int v2]) (mQv D cl cB cI cJ cZ cS iM h0 ad (mA cB cI cJ cZ cS iM h0 ad u sz) x) 0 0 (mA cB cI cJ cZ cS iM h0 ad u sz) :=
  mMet (by decide) rfl hM (Nat.le_of_ble_eq_true rfl) (fun p e s m below meth c ls hsz C0 hP hD hS hl => by
    have hR : rm_M_removeLink = rm_M_removeLink := rfl
    exact wb_M_removeLink_0 C0 hR N (gg_M_removeLink N N) (wg_M_removeLink C0 hR N N) u _ _ x hf s.heap [] hP hD hS ls (lv_sub hl [0, 1, 2] rfl))
abbrev b_M_message : ByteArray := prog_14_method_108_code
def y_M_message : MethodName := ⟨R_M, "message", "(IIIIIIJ)V"⟩
def w_M_message : List Cond := wd_ws y_M_message b_M_message 18 none
set_option maxRecDepth 100000 in
theorem k_M_message : Cond.code y_M_message b_M_message 18 none ∈ wd_tbl := wd_of 3157 rfl rfl
theorem d_M_message_0 : decode b_M_message 0 = .ok (.aload_n 0, 1) := by decide +kernel
theorem d_M_message_1 : decode b_M_message 1 = .ok (.getfield 255, 3) := by decide +kernel
theorem d_M_message_4 : decode b_M_message 4 = .ok (.iload_n 1, 1) := by decide +kernel
theorem d_M_message_5 : decode b_M_message 5 = .ok (.iaload, 1) := by decide +kernel
theorem d_M_message_6 : decode b_M_message 6 = .ok (.iconst 3, 1) := by decide +kernel
theorem d_M_message_7 : decode b_M_message 7 = .ok (.if_icmp .eq 14, 3) := by decide +kernel
theorem d_M_message_10 : decode b_M_message 10 = .ok (.aload_n 0, 1) := by decide +kernel
theorem d_M_message_11 : decode b_M_message 11 = .ok (.getfield 252, 3) := by decide +kernel
theorem d_M_message_14 : decode b_M_message 14 = .ok (.iload_n 1, 1) := by decide +kernel
theorem d_M_message_15 : decode b_M_message 15 = .ok (.iaload, 1) := by decide +kernel
theorem d_M_message_16 : decode b_M_message 16 = .ok (.bipush 30, 2) := by decide +kernel
theorem d_M_message_18 : decode b_M_message 18 = .ok (.if_icmp .ne 4, 3) := by decide +kernel
theorem d_M_message_21 : decode b_M_message 21 = .ok (.return_, 1) := by decide +kernel
theorem d_M_message_22 : decode b_M_message 22 = .ok (.iload_n 2, 1) := by decide +kernel
theorem d_M_message_23 : decode b_M_message 23 = .ok (.ifCond .ne 7, 3) := by decide +kernel
theorem d_M_message_26 : decode b_M_message 26 = .ok (.iconst 4, 1) := by decide +kernel
theorem d_M_message_27 : decode b_M_message 27 = .ok (.goto 13, 3) := by decide +kernel
theorem d_M_message_30 : decode b_M_message 30 = .ok (.iload_n 2, 1) := by decide +kernel
theorem d_M_message_31 : decode b_M_message 31 = .ok (.iconst 1, 1) := by decide +kernel
theorem d_M_message_32 : decode b_M_message 32 = .ok (.if_icmp .ne 7, 3) := by decide +kernel
theorem d_M_message_35 : decode b_M_message 35 = .ok (.iconst 5, 1) := by decide +kernel
theorem d_M_message_36 : decode b_M_message 36 = .ok (.goto 4, 3) := by decide +kernel
theorem d_M_message_39 : decode b_M_message 39 = .ok (.iconst 0, 1) := by decide +kernel
theorem d_M_message_40 : decode b_M_message 40 = .ok (.iload 5, 2) := by decide +kernel
theorem d_M_message_42 : decode b_M_message 42 = .ok (.ifCond .le 7, 3) := by decide +kernel
theorem d_M_message_45 : decode b_M_message 45 = .ok (.iconst 3, 1) := by decide +kernel
theorem d_M_message_46 : decode b_M_message 46 = .ok (.goto 4, 3) := by decide +kernel
theorem d_M_message_49 : decode b_M_message 49 = .ok (.iconst 0, 1) := by decide +kernel
theorem d_M_message_50 : decode b_M_message 50 = .ok (.iadd, 1) := by decide +kernel
theorem d_M_message_51 : decode b_M_message 51 = .ok (.aload_n 0, 1) := by decide +kernel
theorem d_M_message_52 : decode b_M_message 52 = .ok (.iload 6, 2) := by decide +kernel
theorem d_M_message_54 : decode b_M_message 54 = .ok (.lload 7, 2) := by decide +kernel
theorem d_M_message_56 : decode b_M_message 56 = .ok (.invokevirtual 770, 3) := by decide +kernel
theorem d_M_message_59 : decode b_M_message 59 = .ok (.iadd, 1) := by decide +kernel
theorem d_M_message_60 : decode b_M_message 60 = .ok (.istore 9, 2) := by decide +kernel
theorem d_M_message_62 : decode b_M_message 62 = .ok (.aload_n 0, 1) := by decide +kernel
theorem d_M_message_63 : decode b_M_message 63 = .ok (.iload 6, 2) := by decide +kernel
theorem d_M_message_65 : decode b_M_message 65 = .ok (.lload 7, 2) := by decide +kernel
theorem d_M_message_67 : decode b_M_message 67 = .ok (.invokevirtual 773, 3) := by decide +kernel
theorem d_M_message_70 : decode b_M_message 70 = .ok (.aload_n 0, 1) := by decide +kernel
theorem d_M_message_71 : decode b_M_message 71 = .ok (.iload_n 1, 1) := by decide +kernel
theorem d_M_message_72 : decode b_M_message 72 = .ok (.iload 9, 2) := by decide +kernel
theorem d_M_message_74 : decode b_M_message 74 = .ok (.invokevirtual 776, 3) := by decide +kernel
theorem d_M_message_77 : decode b_M_message 77 = .ok (.ifCond .ne 21, 3) := by decide +kernel
theorem d_M_message_80 : decode b_M_message 80 = .ok (.aload_n 0, 1) := by decide +kernel
theorem d_M_message_81 : decode b_M_message 81 = .ok (.invokevirtual 780, 3) := by decide +kernel
theorem d_M_message_84 : decode b_M_message 84 = .ok (.aload_n 0, 1) := by decide +kernel
theorem d_M_message_85 : decode b_M_message 85 = .ok (.iload_n 1, 1) := by decide +kernel
theorem d_M_message_86 : decode b_M_message 86 = .ok (.iconst 0, 1) := by decide +kernel
theorem d_M_message_87 : decode b_M_message 87 = .ok (.iload_n 1, 1) := by decide +kernel
theorem d_M_message_88 : decode b_M_message 88 = .ok (.iconst 1, 1) := by decide +kernel
theorem d_M_message_89 : decode b_M_message 89 = .ok (.bipush 20, 2) := by decide +kernel
theorem d_M_message_91 : decode b_M_message 91 = .ok (.invokestatic 315, 3) := by decide +kernel
theorem d_M_message_94 : decode b_M_message 94 = .ok (.invokevirtual 767, 3) := by decide +kernel
theorem d_M_message_97 : decode b_M_message 97 = .ok (.return_, 1) := by decide +kernel
theorem d_M_message_98 : decode b_M_message 98 = .ok (.aload_n 0, 1) := by decide +kernel
theorem d_M_message_99 : decode b_M_message 99 = .ok (.getfield 319, 3) := by decide +kernel
theorem d_M_message_102 : decode b_M_message 102 = .ok (.lstore 10, 2) := by decide +kernel
theorem d_M_message_104 : decode b_M_message 104 = .ok (.aload_n 0, 1) := by decide +kernel
theorem d_M_message_105 : decode b_M_message 105 = .ok (.invokevirtual 780, 3) := by decide +kernel
theorem d_M_message_108 : decode b_M_message 108 = .ok (.lconst 0, 1) := by decide +kernel
theorem d_M_message_109 : decode b_M_message 109 = .ok (.lstore 12, 2) := by decide +kernel
theorem d_M_message_111 : decode b_M_message 111 = .ok (.iconst (-1), 1) := by decide +kernel
theorem d_M_message_112 : decode b_M_message 112 = .ok (.istore 14, 2) := by decide +kernel
theorem d_M_message_114 : decode b_M_message 114 = .ok (.iload_n 2, 1) := by decide +kernel
theorem d_M_message_115 : decode b_M_message 115 = .ok (.iconst 2, 1) := by decide +kernel
theorem d_M_message_116 : decode b_M_message 116 = .ok (.if_icmp .ge 145, 3) := by decide +kernel
theorem d_M_message_119 : decode b_M_message 119 = .ok (.aload_n 0, 1) := by decide +kernel
theorem d_M_message_120 : decode b_M_message 120 = .ok (.getfield 192, 3) := by decide +kernel
theorem d_M_message_123 : decode b_M_message 123 = .ok (.iload_n 1, 1) := by decide +kernel
theorem d_M_message_124 : decode b_M_message 124 = .ok (.iaload, 1) := by decide +kernel
theorem d_M_message_125 : decode b_M_message 125 = .ok (.istore 15, 2) := by decide +kernel
theorem d_M_message_127 : decode b_M_message 127 = .ok (.iload_n 2, 1) := by decide +kernel
theorem d_M_message_128 : decode b_M_message 128 = .ok (.ifCond .ne 7, 3) := by decide +kernel
theorem d_M_message_131 : decode b_M_message 131 = .ok (.iconst 3, 1) := by decide +kernel
theorem d_M_message_132 : decode b_M_message 132 = .ok (.goto 4, 3) := by decide +kernel
theorem d_M_message_135 : decode b_M_message 135 = .ok (.iconst 4, 1) := by decide +kernel
theorem d_M_message_136 : decode b_M_message 136 = .ok (.istore 16, 2) := by decide +kernel
theorem d_M_message_138 : decode b_M_message 138 = .ok (.aload_n 0, 1) := by decide +kernel
theorem d_M_message_139 : decode b_M_message 139 = .ok (.getfield 192, 3) := by decide +kernel
theorem d_M_message_142 : decode b_M_message 142 = .ok (.iload_n 1, 1) := by decide +kernel
theorem d_M_message_143 : decode b_M_message 143 = .ok (.dup2, 1) := by decide +kernel
theorem d_M_message_144 : decode b_M_message 144 = .ok (.iaload, 1) := by decide +kernel
theorem d_M_message_145 : decode b_M_message 145 = .ok (.iload 16, 2) := by decide +kernel
theorem d_M_message_147 : decode b_M_message 147 = .ok (.iconst 1, 1) := by decide +kernel
theorem d_M_message_148 : decode b_M_message 148 = .ok (.iadd, 1) := by decide +kernel
theorem d_M_message_149 : decode b_M_message 149 = .ok (.iadd, 1) := by decide +kernel
theorem d_M_message_150 : decode b_M_message 150 = .ok (.iastore, 1) := by decide +kernel
theorem d_M_message_151 : decode b_M_message 151 = .ok (.aload_n 0, 1) := by decide +kernel
theorem d_M_message_152 : decode b_M_message 152 = .ok (.getfield 189, 3) := by decide +kernel
theorem d_M_message_155 : decode b_M_message 155 = .ok (.iload_n 1, 1) := by decide +kernel
theorem d_M_message_156 : decode b_M_message 156 = .ok (.sipush 500, 3) := by decide +kernel
theorem d_M_message_159 : decode b_M_message 159 = .ok (.imul, 1) := by decide +kernel
theorem d_M_message_160 : decode b_M_message 160 = .ok (.iload 15, 2) := by decide +kernel
theorem d_M_message_162 : decode b_M_message 162 = .ok (.iadd, 1) := by decide +kernel
theorem d_M_message_163 : decode b_M_message 163 = .ok (.iload 16, 2) := by decide +kernel
theorem d_M_message_165 : decode b_M_message 165 = .ok (.i2l, 1) := by decide +kernel
theorem d_M_message_166 : decode b_M_message 166 = .ok (.lastore, 1) := by decide +kernel
theorem d_M_message_167 : decode b_M_message 167 = .ok (.aload_n 0, 1) := by decide +kernel
theorem d_M_message_168 : decode b_M_message 168 = .ok (.getfield 189, 3) := by decide +kernel
theorem d_M_message_171 : decode b_M_message 171 = .ok (.iload_n 1, 1) := by decide +kernel
theorem d_M_message_172 : decode b_M_message 172 = .ok (.sipush 500, 3) := by decide +kernel
theorem d_M_message_175 : decode b_M_message 175 = .ok (.imul, 1) := by decide +kernel
theorem d_M_message_176 : decode b_M_message 176 = .ok (.iload 15, 2) := by decide +kernel
theorem d_M_message_178 : decode b_M_message 178 = .ok (.iadd, 1) := by decide +kernel
theorem d_M_message_179 : decode b_M_message 179 = .ok (.iconst 1, 1) := by decide +kernel
theorem d_M_message_180 : decode b_M_message 180 = .ok (.iadd, 1) := by decide +kernel
theorem d_M_message_181 : decode b_M_message 181 = .ok (.iconst 1, 1) := by decide +kernel
theorem d_M_message_182 : decode b_M_message 182 = .ok (.iload_n 2, 1) := by decide +kernel
theorem d_M_message_183 : decode b_M_message 183 = .ok (.ifCond .ne 8, 3) := by decide +kernel
theorem d_M_message_186 : decode b_M_message 186 = .ok (.bipush 8, 2) := by decide +kernel
theorem d_M_message_188 : decode b_M_message 188 = .ok (.goto 5, 3) := by decide +kernel
theorem d_M_message_191 : decode b_M_message 191 = .ok (.bipush 9, 2) := by decide +kernel
theorem d_M_message_193 : decode b_M_message 193 = .ok (.invokestatic 315, 3) := by decide +kernel
theorem d_M_message_196 : decode b_M_message 196 = .ok (.lastore, 1) := by decide +kernel
theorem d_M_message_197 : decode b_M_message 197 = .ok (.iload_n 2, 1) := by decide +kernel
theorem d_M_message_198 : decode b_M_message 198 = .ok (.iconst 1, 1) := by decide +kernel
theorem d_M_message_199 : decode b_M_message 199 = .ok (.if_icmp .ne 23, 3) := by decide +kernel
theorem d_M_message_202 : decode b_M_message 202 = .ok (.aload_n 0, 1) := by decide +kernel
theorem d_M_message_203 : decode b_M_message 203 = .ok (.getfield 189, 3) := by decide +kernel
theorem d_M_message_206 : decode b_M_message 206 = .ok (.iload_n 1, 1) := by decide +kernel
theorem d_M_message_207 : decode b_M_message 207 = .ok (.sipush 500, 3) := by decide +kernel
theorem d_M_message_210 : decode b_M_message 210 = .ok (.imul, 1) := by decide +kernel
theorem d_M_message_211 : decode b_M_message 211 = .ok (.iload 15, 2) := by decide +kernel
theorem d_M_message_213 : decode b_M_message 213 = .ok (.iadd, 1) := by decide +kernel
theorem d_M_message_214 : decode b_M_message 214 = .ok (.iconst 2, 1) := by decide +kernel
theorem d_M_message_215 : decode b_M_message 215 = .ok (.iadd, 1) := by decide +kernel
theorem d_M_message_216 : decode b_M_message 216 = .ok (.iconst 2, 1) := by decide +kernel
theorem d_M_message_217 : decode b_M_message 217 = .ok (.iload_n 3, 1) := by decide +kernel
theorem d_M_message_218 : decode b_M_message 218 = .ok (.invokestatic 315, 3) := by decide +kernel
theorem d_M_message_221 : decode b_M_message 221 = .ok (.lastore, 1) := by decide +kernel
theorem d_M_message_222 : decode b_M_message 222 = .ok (.aload_n 0, 1) := by decide +kernel
theorem d_M_message_223 : decode b_M_message 223 = .ok (.getfield 189, 3) := by decide +kernel
theorem d_M_message_226 : decode b_M_message 226 = .ok (.iload_n 1, 1) := by decide +kernel
theorem d_M_message_227 : decode b_M_message 227 = .ok (.sipush 500, 3) := by decide +kernel
theorem d_M_message_230 : decode b_M_message 230 = .ok (.imul, 1) := by decide +kernel
theorem d_M_message_231 : decode b_M_message 231 = .ok (.iload 15, 2) := by decide +kernel
theorem d_M_message_233 : decode b_M_message 233 = .ok (.iadd, 1) := by decide +kernel
theorem d_M_message_234 : decode b_M_message 234 = .ok (.iload 16, 2) := by decide +kernel
theorem d_M_message_236 : decode b_M_message 236 = .ok (.iadd, 1) := by decide +kernel
theorem d_M_message_237 : decode b_M_message 237 = .ok (.iconst 1, 1) := by decide +kernel
theorem d_M_message_238 : decode b_M_message 238 = .ok (.isub, 1) := by decide +kernel
theorem d_M_message_239 : decode b_M_message 239 = .ok (.iconst 4, 1) := by decide +kernel
theorem d_M_message_240 : decode b_M_message 240 = .ok (.iload 4, 2) := by decide +kernel
theorem d_M_message_242 : decode b_M_message 242 = .ok (.invokestatic 315, 3) := by decide +kernel
theorem d_M_message_245 : decode b_M_message 245 = .ok (.lastore, 1) := by decide +kernel
theorem d_M_message_246 : decode b_M_message 246 = .ok (.iload 15, 2) := by decide +kernel
theorem d_M_message_248 : decode b_M_message 248 = .ok (.iload 16, 2) := by decide +kernel
theorem d_M_message_250 : decode b_M_message 250 = .ok (.iadd, 1) := by decide +kernel
theorem d_M_message_251 : decode b_M_message 251 = .ok (.istore 14, 2) := by decide +kernel
theorem d_M_message_253 : decode b_M_message 253 = .ok (.iconst 5, 1) := by decide +kernel
theorem d_M_message_254 : decode b_M_message 254 = .ok (.iload 15, 2) := by decide +kernel
theorem d_M_message_256 : decode b_M_message 256 = .ok (.invokestatic 315, 3) := by decide +kernel
theorem d_M_message_259 : decode b_M_message 259 = .ok (.lstore 12, 2) := by decide +kernel
theorem d_M_message_261 : decode b_M_message 261 = .ok (.iload 5, 2) := by decide +kernel
theorem d_M_message_263 : decode b_M_message 263 = .ok (.ifCond .le 104, 3) := by decide +kernel
theorem d_M_message_266 : decode b_M_message 266 = .ok (.aload_n 0, 1) := by decide +kernel
theorem d_M_message_267 : decode b_M_message 267 = .ok (.getfield 192, 3) := by decide +kernel
theorem d_M_message_270 : decode b_M_message 270 = .ok (.iload_n 1, 1) := by decide +kernel
theorem d_M_message_271 : decode b_M_message 271 = .ok (.iaload, 1) := by decide +kernel
theorem d_M_message_272 : decode b_M_message 272 = .ok (.istore 17, 2) := by decide +kernel
theorem d_M_message_274 : decode b_M_message 274 = .ok (.aload_n 0, 1) := by decide +kernel
theorem d_M_message_275 : decode b_M_message 275 = .ok (.getfield 192, 3) := by decide +kernel
theorem d_M_message_278 : decode b_M_message 278 = .ok (.iload_n 1, 1) := by decide +kernel
theorem d_M_message_279 : decode b_M_message 279 = .ok (.dup2, 1) := by decide +kernel
theorem d_M_message_280 : decode b_M_message 280 = .ok (.iaload, 1) := by decide +kernel
theorem d_M_message_281 : decode b_M_message 281 = .ok (.iconst 3, 1) := by decide +kernel
theorem d_M_message_282 : decode b_M_message 282 = .ok (.iadd, 1) := by decide +kernel
theorem d_M_message_283 : decode b_M_message 283 = .ok (.iastore, 1) := by decide +kernel
theorem d_M_message_284 : decode b_M_message 284 = .ok (.aload_n 0, 1) := by decide +kernel
theorem d_M_message_285 : decode b_M_message 285 = .ok (.getfield 189, 3) := by decide +kernel
theorem d_M_message_288 : decode b_M_message 288 = .ok (.iload_n 1, 1) := by decide +kernel
theorem d_M_message_289 : decode b_M_message 289 = .ok (.sipush 500, 3) := by decide +kernel
theorem d_M_message_292 : decode b_M_message 292 = .ok (.imul, 1) := by decide +kernel
theorem d_M_message_293 : decode b_M_message 293 = .ok (.iload 17, 2) := by decide +kernel
theorem d_M_message_295 : decode b_M_message 295 = .ok (.iadd, 1) := by decide +kernel
theorem d_M_message_296 : decode b_M_message 296 = .ok (.ldc2_w 783, 3) := by decide +kernel
theorem d_M_message_299 : decode b_M_message 299 = .ok (.lastore, 1) := by decide +kernel
theorem d_M_message_300 : decode b_M_message 300 = .ok (.aload_n 0, 1) := by decide +kernel
theorem d_M_message_301 : decode b_M_message 301 = .ok (.getfield 189, 3) := by decide +kernel
theorem d_M_message_304 : decode b_M_message 304 = .ok (.iload_n 1, 1) := by decide +kernel
theorem d_M_message_305 : decode b_M_message 305 = .ok (.sipush 500, 3) := by decide +kernel
theorem d_M_message_308 : decode b_M_message 308 = .ok (.imul, 1) := by decide +kernel
theorem d_M_message_309 : decode b_M_message 309 = .ok (.iload 17, 2) := by decide +kernel
theorem d_M_message_311 : decode b_M_message 311 = .ok (.iadd, 1) := by decide +kernel
theorem d_M_message_312 : decode b_M_message 312 = .ok (.iconst 1, 1) := by decide +kernel
theorem d_M_message_313 : decode b_M_message 313 = .ok (.iadd, 1) := by decide +kernel
theorem d_M_message_314 : decode b_M_message 314 = .ok (.iconst 1, 1) := by decide +kernel
theorem d_M_message_315 : decode b_M_message 315 = .ok (.iload 5, 2) := by decide +kernel
theorem d_M_message_317 : decode b_M_message 317 = .ok (.iconst 1, 1) := by decide +kernel
theorem d_M_message_318 : decode b_M_message 318 = .ok (.if_icmp .ne 8, 3) := by decide +kernel
theorem d_M_message_321 : decode b_M_message 321 = .ok (.bipush 7, 2) := by decide +kernel
theorem d_M_message_323 : decode b_M_message 323 = .ok (.goto 5, 3) := by decide +kernel
theorem d_M_message_326 : decode b_M_message 326 = .ok (.bipush 19, 2) := by decide +kernel
theorem d_M_message_328 : decode b_M_message 328 = .ok (.invokestatic 315, 3) := by decide +kernel
theorem d_M_message_331 : decode b_M_message 331 = .ok (.lastore, 1) := by decide +kernel
theorem d_M_message_332 : decode b_M_message 332 = .ok (.aload_n 0, 1) := by decide +kernel
theorem d_M_message_333 : decode b_M_message 333 = .ok (.getfield 189, 3) := by decide +kernel
theorem d_M_message_336 : decode b_M_message 336 = .ok (.iload_n 1, 1) := by decide +kernel
theorem d_M_message_337 : decode b_M_message 337 = .ok (.sipush 500, 3) := by decide +kernel
theorem d_M_message_340 : decode b_M_message 340 = .ok (.imul, 1) := by decide +kernel
theorem d_M_message_341 : decode b_M_message 341 = .ok (.iload 17, 2) := by decide +kernel
theorem d_M_message_343 : decode b_M_message 343 = .ok (.iadd, 1) := by decide +kernel
theorem d_M_message_344 : decode b_M_message 344 = .ok (.iconst 2, 1) := by decide +kernel
theorem d_M_message_345 : decode b_M_message 345 = .ok (.iadd, 1) := by decide +kernel
theorem d_M_message_346 : decode b_M_message 346 = .ok (.aload_n 0, 1) := by decide +kernel
theorem d_M_message_347 : decode b_M_message 347 = .ok (.iload 6, 2) := by decide +kernel
theorem d_M_message_349 : decode b_M_message 349 = .ok (.lload 10, 2) := by decide +kernel
theorem d_M_message_351 : decode b_M_message 351 = .ok (.iload_n 1, 1) := by decide +kernel
theorem d_M_message_352 : decode b_M_message 352 = .ok (.invokevirtual 785, 3) := by decide +kernel
theorem d_M_message_355 : decode b_M_message 355 = .ok (.lastore, 1) := by decide +kernel
theorem d_M_message_356 : decode b_M_message 356 = .ok (.iconst 5, 1) := by decide +kernel
theorem d_M_message_357 : decode b_M_message 357 = .ok (.iload 17, 2) := by decide +kernel
theorem d_M_message_359 : decode b_M_message 359 = .ok (.invokestatic 315, 3) := by decide +kernel
theorem d_M_message_362 : decode b_M_message 362 = .ok (.lstore 15, 2) := by decide +kernel
theorem d_M_message_364 : decode b_M_message 364 = .ok (.goto 14, 3) := by decide +kernel
theorem d_M_message_367 : decode b_M_message 367 = .ok (.aload_n 0, 1) := by decide +kernel
theorem d_M_message_368 : decode b_M_message 368 = .ok (.iload 6, 2) := by decide +kernel
theorem d_M_message_370 : decode b_M_message 370 = .ok (.lload 10, 2) := by decide +kernel
theorem d_M_message_372 : decode b_M_message 372 = .ok (.iload_n 1, 1) := by decide +kernel
theorem d_M_message_373 : decode b_M_message 373 = .ok (.invokevirtual 785, 3) := by decide +kernel
theorem d_M_message_376 : decode b_M_message 376 = .ok (.lstore 15, 2) := by decide +kernel
theorem d_M_message_378 : decode b_M_message 378 = .ok (.iload 14, 2) := by decide +kernel
theorem d_M_message_380 : decode b_M_message 380 = .ok (.iconst (-1), 1) := by decide +kernel
theorem d_M_message_381 : decode b_M_message 381 = .ok (.if_icmp .ne 10, 3) := by decide +kernel
theorem d_M_message_384 : decode b_M_message 384 = .ok (.lload 15, 2) := by decide +kernel
theorem d_M_message_386 : decode b_M_message 386 = .ok (.lstore 12, 2) := by decide +kernel
theorem d_M_message_388 : decode b_M_message 388 = .ok (.goto 18, 3) := by decide +kernel
theorem d_M_message_391 : decode b_M_message 391 = .ok (.aload_n 0, 1) := by decide +kernel
theorem d_M_message_392 : decode b_M_message 392 = .ok (.getfield 189, 3) := by decide +kernel
theorem d_M_message_395 : decode b_M_message 395 = .ok (.iload_n 1, 1) := by decide +kernel
theorem d_M_message_396 : decode b_M_message 396 = .ok (.sipush 500, 3) := by decide +kernel
theorem d_M_message_399 : decode b_M_message 399 = .ok (.imul, 1) := by decide +kernel
theorem d_M_message_400 : decode b_M_message 400 = .ok (.iload 14, 2) := by decide +kernel
theorem d_M_message_402 : decode b_M_message 402 = .ok (.iadd, 1) := by decide +kernel
theorem d_M_message_403 : decode b_M_message 403 = .ok (.lload 15, 2) := by decide +kernel
theorem d_M_message_405 : decode b_M_message 405 = .ok (.lastore, 1) := by decide +kernel
theorem d_M_message_406 : decode b_M_message 406 = .ok (.aload_n 0, 1) := by decide +kernel
theorem d_M_message_407 : decode b_M_message 407 = .ok (.getfield 249, 3) := by decide +kernel
theorem d_M_message_410 : decode b_M_message 410 = .ok (.iload_n 1, 1) := by decide +kernel
theorem d_M_message_411 : decode b_M_message 411 = .ok (.bipush 30, 2) := by decide +kernel
theorem d_M_message_413 : decode b_M_message 413 = .ok (.imul, 1) := by decide +kernel
theorem d_M_message_414 : decode b_M_message 414 = .ok (.aload_n 0, 1) := by decide +kernel
theorem d_M_message_415 : decode b_M_message 415 = .ok (.getfield 252, 3) := by decide +kernel
theorem d_M_message_418 : decode b_M_message 418 = .ok (.iload_n 1, 1) := by decide +kernel
theorem d_M_message_419 : decode b_M_message 419 = .ok (.iaload, 1) := by decide +kernel
theorem d_M_message_420 : decode b_M_message 420 = .ok (.iadd, 1) := by decide +kernel
theorem d_M_message_421 : decode b_M_message 421 = .ok (.lload 12, 2) := by decide +kernel
theorem d_M_message_423 : decode b_M_message 423 = .ok (.lastore, 1) := by decide +kernel
theorem d_M_message_424 : decode b_M_message 424 = .ok (.aload_n 0, 1) := by decide +kernel
theorem d_M_message_425 : decode b_M_message 425 = .ok (.getfield 252, 3) := by decide +kernel
theorem d_M_message_428 : decode b_M_message 428 = .ok (.iload_n 1, 1) := by decide +kernel
theorem d_M_message_429 : decode b_M_message 429 = .ok (.dup2, 1) := by decide +kernel
theorem d_M_message_430 : decode b_M_message 430 = .ok (.iaload, 1) := by decide +kernel
theorem d_M_message_431 : decode b_M_message 431 = .ok (.iconst 1, 1) := by decide +kernel
theorem d_M_message_432 : decode b_M_message 432 = .ok (.iadd, 1) := by decide +kernel
theorem d_M_message_433 : decode b_M_message 433 = .ok (.iastore, 1) := by decide +kernel
theorem d_M_message_434 : decode b_M_message 434 = .ok (.return_, 1) := by decide +kernel
set_option maxRecDepth 100000 in
theorem hl_M_message : Cond.methodLink R_M 763 y_M_message ∈ wd_tbl := wd_of 3154 (by decide +kernel) rfl
set_option maxRecDepth 100000 in
theorem hi_M_message : Cond.instanceMethod y_M_message ∈ wd_tbl := wd_of 3156 (by decide +kernel) rfl
set_option maxRecDepth 100000 in
theorem hs_M_message : Cond.selects R_M y_M_message y_M_message ∈ wd_tbl := wd_of 243 (by decide +kernel) rfl
theorem hd_M_message : y_M_message.cls = R_M ∧ y_M_message.cls ≠ "java/lang/invoke/MethodHandle" ∧ y_M_message.cls ≠ "java/lang/invoke/VarHandle" ∧ (parseMethodDescriptor y_M_message.desc).map (fun d => d.parameters.length) = some 7 := by decide +kernel
def rm_M_message : Room := { frames := 5, cells := 0, slots := 0, locals := 123 }
theorem rm_M_message_M_copySize {R : Room} (hR : R = rm_M_message) : (rm_M_copySize).frames + 1 ≤ R.frames ∧ 8 + (10 + 11) + (rm_M_copySize).locals ≤ R.locals := by subst hR; decide
theorem rm_M_message_M_hand {R : Room} (hR : R = rm_M_message) : (rm_M_hand).frames + 1 ≤ R.frames ∧ 8 + (4 + 11) + (rm_M_hand).locals ≤ R.locals := by subst hR; decide
theorem rm_M_message_M_wants {R : Room} (hR : R = rm_M_message) : (rm_M_wants).frames + 1 ≤ R.frames ∧ 8 + (3 + 11) + (rm_M_wants).locals ≤ R.locals := by subst hR; decide
theorem rm_M_message_M_handNone {R : Room} (hR : R = rm_M_message) : (rm_M_handNone).frames + 1 ≤ R.frames ∧ 8 + (1 + 11) + (rm_M_handNone).locals ≤ R.locals := by subst hR; decide
theorem rm_M_message_M_term {R : Room} (hR : R = rm_M_message) : (rm_M_term).frames + 1 ≤ R.frames ∧ 8 + (2 + 11) + (rm_M_term).locals ≤ R.locals := by subst hR; decide
theorem rm_M_message_M_willEnd {R : Room} (hR : R = rm_M_message) : (rm_M_willEnd).frames + 1 ≤ R.frames ∧ 8 + (6 + 11) + (rm_M_willEnd).locals ≤ R.locals := by subst hR; decide
theorem rm_M_message_M_copy {R : Room} (hR : R = rm_M_message) : (rm_M_copy).frames + 1 ≤ R.frames ∧ 8 + (16 + 11) + (rm_M_copy).locals ≤ R.locals := by subst hR; decide
def fb_M_message_406 (N : Nat) (G : Unit) (u : MS) (v1 : Int32) (v12 : Int64) : Option (MS × Unit) := ck (inb v1 (ln 108)) (ck (inb ((v1 * 30) + (u.2.2.1 108 v1.toNatClampNeg)) (ln 107)) (lt (upJ u 107 (vp_updL (u.2.2.2 107) ((v1 * 30) + (u.2.2.1 108 v1.toNatClampNeg)).toNatClampNeg v12)) (fun w1 => ck (inb v1 (ln 108)) (ck (inb v1 (ln 108)) (lt (upA w1 108 (upd (w1.2.2.1 108) v1.toNatClampNeg ((w1.2.2.1 108 v1.toNatClampNeg) + 1))) (fun w2 => some (w2, ())))))))
set_option maxRecDepth 100000 in
set_option maxHeartbeats 4000000 in
theorem wb_M_message_406 {p : Program} {l : Launch} {e : Env} {R : Room} {s : State} {m : MethodId} {args : Array Value} {below : List Frame} {meth : Method} {c : Code} {D : va_G} {cl : List vw_C} {cB cI cJ cZ cS : ClassId} {A : Nat → Prop} {iM h0 : Nat} {ad : Nat → Nat} (C0 : MCx p s m args meth c b_M_message 18 none D cl cB cI cJ cZ cS iM A) (hR : R = rm_M_message) (N : Nat) (G : Unit) (hG : True) : ∀ (u : MS) (v1 : Int32) (v12 : Int64) (x : MS × Unit), fb_M_message_406 N G u v1 v12 = some x → ∀ (H : Heap) (locs : List Loc), va_P D cl (wM cB cI cJ cZ cS iM h0 ad u) H → va_D A (wM cB cI cJ cZ cS iM h0 ad u) → va_S A s.heap H locs → ∀ (ls : Array Slot), lv_has ls 18 [(0, .ref h0), (1, .int v1), (12, .long v12)] → W p l e R s m args below meth c H locs 0 0 (MQ below (mQv D cl cB cI cJ cZ cS iM h0 ad A x) args s 0 0 A) (F0 m 406 ls []) := by
  intro u v1 v12 x hf H locs hP hD hS ls hl
  obtain ⟨hx, hb, hr, hml, ht, hown, hM, hK, hA, hlocks⟩ := id C0
  unfold fb_M_message_406 at hf
  refine lv_aload_n hx hb d_M_message_406 rfl (lv_at hl 0 rfl) ?_
  refine ug_R hx hb ht hown hM hK hP 107 (by decide) lk_M_107 (by decide) d_M_message_407 ?_
  refine lv_iload_n hx hb d_M_message_410 rfl (lv_at hl 1 rfl) ?_
  refine lv_bipush (v := 30) hx hb d_M_message_411 (by decide) ?_
  refine lv_imul hx hb d_M_message_413 ?_
  refine lv_aload_n hx hb d_M_message_414 rfl (lv_at hl 0 rfl) ?_
  refine ug_R hx hb ht hown hM hK hP 108 (by decide) lk_M_108 (by decide) d_M_message_415 ?_
  refine lv_iload_n hx hb d_M_message_418 rfl (lv_at hl 1 rfl) ?_
  obtain ⟨hi9, hf⟩ := ck_some hf
  refine ul_I hx hb hK hP (by decide) (by decide) hi9 d_M_message_419 ?_
  refine lv_iadd hx hb d_M_message_420 ?_
  refine lv_lload hx hb d_M_message_421 (lv_at hl 2 rfl) ?_
  obtain ⟨hi9, hf⟩ := ck_some hf
  refine us_J hx hb hK hP hD hS (by decide) (by decide) hi9 d_M_message_423 (fun H locs hP hD hS => ?_)
  obtain ⟨w1, e1, hf⟩ := lt_some hf
  rw [← e1] at hP hD
  refine lv_aload_n hx hb d_M_message_424 rfl (lv_at hl 0 rfl) ?_
  refine ug_R hx hb ht hown hM hK hP 108 (by decide) lk_M_108 (by decide) d_M_message_425 ?_
  refine lv_iload_n hx hb d_M_message_428 rfl (lv_at hl 1 rfl) ?_
  refine lv_dup2_11 hx hb d_M_message_429 rfl rfl ?_
  obtain ⟨hi9, hf⟩ := ck_some hf
  refine ul_I hx hb hK hP (by decide) (by decide) hi9 d_M_message_430 ?_
  refine lv_iconst (v := 1) hx hb d_M_message_431 (by decide) ?_
  refine lv_iadd hx hb d_M_message_432 ?_
  obtain ⟨hi9, hf⟩ := ck_some hf
  refine us_I hx hb hK hP hD hS (by decide) (by decide) hi9 d_M_message_433 (fun H locs hP hD hS => ?_)
  obtain ⟨w2, e2, hf⟩ := lt_some hf
  rw [← e2] at hP hD
  exact mr_v C0 hP hD hS hf d_M_message_434
def fb_M_message_378 (N : Nat) (G : Unit) (u : MS) (v1 : Int32) (v12 : Int64) (v14 : Int32) (v15 : Int64) : Option (MS × Unit) := br (decide (v14 = (-1))) (fb_M_message_406 N G u (v1) (v15)) (ck (inb ((v1 * 500) + v14) (ln 88)) (lt (upJ u 88 (vp_updL (u.2.2.2 88) ((v1 * 500) + v14).toNatClampNeg v15)) (fun w3 => fb_M_message_406 N G w3 (v1) (v12))))
set_option maxRecDepth 100000 in
set_option maxHeartbeats 4000000 in
theorem wb_M_message_378 {p : Program} {l : Launch} {e : Env} {R : Room} {s : State} {m : MethodId} {args : Array Value} {below : List Frame} {meth : Method} {c : Code} {D : va_G} {cl : List vw_C} {cB cI cJ cZ cS : ClassId} {A : Nat → Prop} {iM h0 : Nat} {ad : Nat → Nat} (C0 : MCx p s m args meth c b_M_message 18 none D cl cB cI cJ cZ cS iM A) (hR : R = rm_M_message) (N : Nat) (G : Unit) (hG : True) : ∀ (u : MS) (v1 : Int32) (v12 : Int64) (v14 : Int32) (v15 : Int64) (x : MS × Unit), fb_M_message_378 N G u v1 v12 v14 v15 = some x → ∀ (H : Heap) (locs : List Loc), va_P D cl (wM cB cI cJ cZ cS iM h0 ad u) H → va_D A (wM cB cI cJ cZ cS iM h0 ad u) → va_S A s.heap H locs → ∀ (ls : Array Slot), lv_has ls 18 [(0, .ref h0), (1, .int v1), (12, .long v12), (14, .int v14), (15, .long v15)] → W p l e R s m args below meth c H locs 0 0 (MQ below (mQv D cl cB cI cJ cZ cS iM h0 ad A x) args s 0 0 A) (F0 m 378 ls []) := by
  intro u v1 v12 v14 v15 x hf H locs hP hD hS ls hl
  obtain ⟨hx, hb, hr, hml, ht, hown, hM, hK, hA, hlocks⟩ := id C0
  unfold fb_M_message_378 at hf
  refine lv_iload hx hb d_M_message_378 (lv_at hl 3 rfl) ?_
  refine lv_iconst (v := (-1)) hx hb d_M_message_380 (by decide) ?_
  refine lv_icmp_ne (tgt := 391) hx hb d_M_message_381 (by decide) (fun hc => ?_) (fun hc => ?_)
  · rw [br_n _ hc] at hf
    refine lv_aload_n hx hb d_M_message_391 rfl (lv_at hl 0 rfl) ?_
    refine ug_R hx hb ht hown hM hK hP 88 (by decide) lk_M_88 (by decide) d_M_message_392 ?_
    refine lv_iload_n hx hb d_M_message_395 rfl (lv_at hl 1 rfl) ?_
    refine lv_sipush (v := 500) hx hb d_M_message_396 (by decide) ?_
    refine lv_imul hx hb d_M_message_399 ?_
    refine lv_iload hx hb d_M_message_400 (lv_at hl 3 rfl) ?_
    refine lv_iadd hx hb d_M_message_402 ?_
    refine lv_lload hx hb d_M_message_403 (lv_at hl 4 rfl) ?_
    obtain ⟨hi9, hf⟩ := ck_some hf
    refine us_J hx hb hK hP hD hS (by decide) (by decide) hi9 d_M_message_405 (fun H locs hP hD hS => ?_)
    obtain ⟨w3, e3, hf⟩ := lt_some hf
    rw [← e3] at hP hD
    exact wb_M_message_406 C0 hR N G hG _ _ _ _ hf H locs hP hD hS ls (lv_sub hl [0, 1, 2] rfl)
  · rw [br_p _ hc] at hf
    refine lv_lload hx hb d_M_message_384 (lv_at hl 4 rfl) ?_
    refine lv_lstore (lv' := [(12, .long v15), (0, .ref h0), (1, .int v1), (14, .int v14), (15, .long v15)]) hx hb d_M_message_386 hl (by decide) rfl (fun ls hl => ?_)
    refine lv_goto (tgt := 406) hx hb d_M_message_388 (by decide) ?_
    exact wb_M_message_406 C0 hR N G hG _ _ _ _ hf H locs hP hD hS ls (lv_sub hl [1, 2, 0] rfl)
def fb_M_message_328 (N : Nat) (G : Unit) (u : MS) (v1 : Int32) (v6 : Int32) (v10 : Int64) (v12 : Int64) (v14 : Int32) (v17 : Int32) (t0 : Nat) (t1 : Int32) (t2 : Int32) (t3 : Int32) : Option (MS × Unit) := bnd (fm_M_term N u t2 t3) (fun u4 r4 => ck (isK t0 5) (ck (inb t1 (ln t0)) (lt (upJ u4 t0 (vp_updL (u4.2.2.2 t0) t1.toNatClampNeg r4)) (fun w5 => bnd (fm_M_copy N w5 v6 v10 v1) (fun u6 r6 => ck (inb (((v1 * 500) + v17) + 2) (ln 88)) (lt (upJ u6 88 (vp_updL (u6.2.2.2 88) (((v1 * 500) + v17) + 2).toNatClampNeg r6)) (fun w7 => bnd (fm_M_term N w7 5 v17) (fun u8 r8 => fb_M_message_378 N G u8 (v1) (v12) (v14) (r8)))))))))
set_option maxRecDepth 100000 in
set_option maxHeartbeats 4000000 in
theorem wb_M_message_328 {p : Program} {l : Launch} {e : Env} {R : Room} {s : State} {m : MethodId} {args : Array Value} {below : List Frame} {meth : Method} {c : Code} {D : va_G} {cl : List vw_C} {cB cI cJ cZ cS : ClassId} {A : Nat → Prop} {iM h0 : Nat} {ad : Nat → Nat} (C0 : MCx p s m args meth c b_M_message 18 none D cl cB cI cJ cZ cS iM A) (hR : R = rm_M_message) (N : Nat) (G : Unit) (hG : True) : ∀ (u : MS) (v1 : Int32) (v6 : Int32) (v10 : Int64) (v12 : Int64) (v14 : Int32) (v17 : Int32) (t0 : Nat) (t1 : Int32) (t2 : Int32) (t3 : Int32) (x : MS × Unit), fb_M_message_328 N G u v1 v6 v10 v12 v14 v17 t0 t1 t2 t3 = some x → ∀ (H : Heap) (locs : List Loc), va_P D cl (wM cB cI cJ cZ cS iM h0 ad u) H → va_D A (wM cB cI cJ cZ cS iM h0 ad u) → va_S A s.heap H locs → ∀ (ls : Array Slot), lv_has ls 18 [(0, .ref h0), (1, .int v1), (6, .int v6), (10, .long v10), (12, .long v12), (14, .int v14), (17, .int v17)] → W p l e R s m args below meth c H locs 0 0 (MQ below (mQv D cl cB cI cJ cZ cS iM h0 ad A x) args s 0 0 A) (F0 m 328 ls [.int t3, .int t2, .int t1, .ref (ad t0)]) := by
  intro u v1 v6 v10 v12 v14 v17 t0 t1 t2 t3 x hf H locs hP hD hS ls hl
  obtain ⟨hx, hb, hr, hml, ht, hown, hM, hK, hA, hlocks⟩ := id C0
  unfold fb_M_message_328 at hf
  obtain ⟨u4, r4, hc4, hf⟩ := bnd_some hf
  refine mS_l (As := [.int t2, .int t3]) (rest := [.int t1, .ref (ad t0)]) C0 hP hD hS (c_M_term N hM hc4) k_M_term hl_M_term ht_M_term hini_M rfl rfl hd_M_term rfl (rm_M_message_M_term hR) hl.1 (Nat.le_of_ble_eq_true rfl) d_M_message_328 rfl ⟨Nat.zero_le _, Nat.zero_le _⟩ (fun H locs hP hD hS => ?_)
  obtain ⟨hk9, hf⟩ := ck_some hf
  obtain ⟨hi9, hf⟩ := ck_some hf
  refine us_J hx hb hK hP hD hS (isK_1 hk9) (isK_2 hk9) hi9 d_M_message_331 (fun H locs hP hD hS => ?_)
  obtain ⟨w5, e5, hf⟩ := lt_some hf
  rw [← e5] at hP hD
  refine lv_aload_n hx hb d_M_message_332 rfl (lv_at hl 0 rfl) ?_
  refine ug_R hx hb ht hown hM hK hP 88 (by decide) lk_M_88 (by decide) d_M_message_333 ?_
  refine lv_iload_n hx hb d_M_message_336 rfl (lv_at hl 1 rfl) ?_
  refine lv_sipush (v := 500) hx hb d_M_message_337 (by decide) ?_
  refine lv_imul hx hb d_M_message_340 ?_
  refine lv_iload hx hb d_M_message_341 (lv_at hl 6 rfl) ?_
  refine lv_iadd hx hb d_M_message_343 ?_
  refine lv_iconst (v := 2) hx hb d_M_message_344 (by decide) ?_
  refine lv_iadd hx hb d_M_message_345 ?_
  refine lv_aload_n hx hb d_M_message_346 rfl (lv_at hl 0 rfl) ?_
  refine lv_iload hx hb d_M_message_347 (lv_at hl 2 rfl) ?_
  refine lv_lload hx hb d_M_message_349 (lv_at hl 3 rfl) ?_
  refine lv_iload_n hx hb d_M_message_351 rfl (lv_at hl 1 rfl) ?_
  obtain ⟨u6, r6, hc6, hf⟩ := bnd_some hf
  refine mV_l (As := [.int v6, .long v10, .int v1]) (rest := [.int (((v1 * 500) + v17) + 2), .ref (ad 88)]) C0 hP hD hS (c_M_copy N hM hc6) k_M_copy hl_M_copy hi_M_copy hs_M_copy hini_M rfl rfl hd_M_copy rfl (rm_M_message_M_copy hR) hl.1 (Nat.le_of_ble_eq_true rfl) d_M_message_352 rfl ⟨Nat.zero_le _, Nat.zero_le _⟩ (fun H locs hP hD hS => ?_)
  obtain ⟨hi9, hf⟩ := ck_some hf
  refine us_J hx hb hK hP hD hS (by decide) (by decide) hi9 d_M_message_355 (fun H locs hP hD hS => ?_)
  obtain ⟨w7, e7, hf⟩ := lt_some hf
  rw [← e7] at hP hD
  refine lv_iconst (v := 5) hx hb d_M_message_356 (by decide) ?_
  refine lv_iload hx hb d_M_message_357 (lv_at hl 6 rfl) ?_
  obtain ⟨u8, r8, hc8, hf⟩ := bnd_some hf
  refine mS_l (As := [.int 5, .int v17]) (rest := []) C0 hP hD hS (c_M_term N hM hc8) k_M_term hl_M_term ht_M_term hini_M rfl rfl hd_M_term rfl (rm_M_message_M_term hR) hl.1 (Nat.le_of_ble_eq_true rfl) d_M_message_359 rfl ⟨Nat.zero_le _, Nat.zero_le _⟩ (fun H locs hP hD hS => ?_)
  refine lv_lstore (lv' := [(15, .long r8), (0, .ref h0), (1, .int v1), (6, .int v6), (10, .long v10), (12, .long v12), (14, .int v14), (17, .int v17)]) hx hb d_M_message_362 hl (by decide) rfl (fun ls hl => ?_)
  refine lv_goto (tgt := 378) hx hb d_M_message_364 (by decide) ?_
  exact wb_M_message_378 C0 hR N G hG _ _ _ _ _ _ hf H locs hP hD hS ls (lv_sub hl [1, 2, 5, 6, 0] rfl)
def fb_M_message_261 (N : Nat) (G : Unit) (u : MS) (v1 : Int32) (v5 : Int32) (v6 : Int32) (v10 : Int64) (v12 : Int64) (v14 : Int32) : Option (MS × Unit) := br (decide (v5 ≤ 0)) (bnd (fm_M_copy N u v6 v10 v1) (fun u9 r9 => fb_M_message_378 N G u9 (v1) (v12) (v14) (r9))) (ck (inb v1 (ln 89)) (ck (inb v1 (ln 89)) (ck (inb v1 (ln 89)) (lt (upA u 89 (upd (u.2.2.1 89) v1.toNatClampNeg ((u.2.2.1 89 v1.toNatClampNeg) + 3))) (fun w10 => ck (inb ((v1 * 500) + (u.2.2.1 89 v1.toNatClampNeg)) (ln 88)) (lt (upJ w10 88 (vp_updL (w10.2.2.2 88) ((v1 * 500) + (u.2.2.1 89 v1.toNatClampNeg)).toNatClampNeg 2)) (fun w11 => br (decide (v5 = 1)) (fb_M_message_328 N G w11 (v1) (v6) (v10) (v12) (v14) ((u.2.2.1 89 v1.toNatClampNeg)) (88) ((((v1 * 500) + (u.2.2.1 89 v1.toNatClampNeg)) + 1)) (1) (7)) (fb_M_message_328 N G w11 (v1) (v6) (v10) (v12) (v14) ((u.2.2.1 89 v1.toNatClampNeg)) (88) ((((v1 * 500) + (u.2.2.1 89 v1.toNatClampNeg)) + 1)) (1) (19)))))))))
set_option maxRecDepth 100000 in
set_option maxHeartbeats 4000000 in
theorem wb_M_message_261 {p : Program} {l : Launch} {e : Env} {R : Room} {s : State} {m : MethodId} {args : Array Value} {below : List Frame} {meth : Method} {c : Code} {D : va_G} {cl : List vw_C} {cB cI cJ cZ cS : ClassId} {A : Nat → Prop} {iM h0 : Nat} {ad : Nat → Nat} (C0 : MCx p s m args meth c b_M_message 18 none D cl cB cI cJ cZ cS iM A) (hR : R = rm_M_message) (N : Nat) (G : Unit) (hG : True) : ∀ (u : MS) (v1 : Int32) (v5 : Int32) (v6 : Int32) (v10 : Int64) (v12 : Int64) (v14 : Int32) (x : MS × Unit), fb_M_message_261 N G u v1 v5 v6 v10 v12 v14 = some x → ∀ (H : Heap) (locs : List Loc), va_P D cl (wM cB cI cJ cZ cS iM h0 ad u) H → va_D A (wM cB cI cJ cZ cS iM h0 ad u) → va_S A s.heap H locs → ∀ (ls : Array Slot), lv_has ls 18 [(0, .ref h0), (1, .int v1), (5, .int v5), (6, .int v6), (10, .long v10), (12, .long v12), (14, .int v14)] → W p l e R s m args below meth c H locs 0 0 (MQ below (mQv D cl cB cI cJ cZ cS iM h0 ad A x) args s 0 0 A) (F0 m 261 ls []) := by
  intro u v1 v5 v6 v10 v12 v14 x hf H locs hP hD hS ls hl
  obtain ⟨hx, hb, hr, hml, ht, hown, hM, hK, hA, hlocks⟩ := id C0
  unfold fb_M_message_261 at hf
  refine lv_iload hx hb d_M_message_261 (lv_at hl 2 rfl) ?_
  refine lv_if_le (tgt := 367) hx hb d_M_message_263 (by decide) (fun hc => ?_) (fun hc => ?_)
  · rw [br_p _ hc] at hf
    refine lv_aload_n hx hb d_M_message_367 rfl (lv_at hl 0 rfl) ?_
    refine lv_iload hx hb d_M_message_368 (lv_at hl 3 rfl) ?_
    refine lv_lload hx hb d_M_message_370 (lv_at hl 4 rfl) ?_
    refine lv_iload_n hx hb d_M_message_372 rfl (lv_at hl 1 rfl) ?_
    obtain ⟨u9, r9, hc9, hf⟩ := bnd_some hf
    refine mV_l (As := [.int v6, .long v10, .int v1]) (rest := []) C0 hP hD hS (c_M_copy N hM hc9) k_M_copy hl_M_copy hi_M_copy hs_M_copy hini_M rfl rfl hd_M_copy rfl (rm_M_message_M_copy hR) hl.1 (Nat.le_of_ble_eq_true rfl) d_M_message_373 rfl ⟨Nat.zero_le _, Nat.zero_le _⟩ (fun H locs hP hD hS => ?_)
    refine lv_lstore (lv' := [(15, .long r9), (0, .ref h0), (1, .int v1), (5, .int v5), (6, .int v6), (10, .long v10), (12, .long v12), (14, .int v14)]) hx hb d_M_message_376 hl (by decide) rfl (fun ls hl => ?_)
    exact wb_M_message_378 C0 hR N G hG _ _ _ _ _ _ hf H locs hP hD hS ls (lv_sub hl [1, 2, 6, 7, 0] rfl)
  · rw [br_n _ hc] at hf
    refine lv_aload_n hx hb d_M_message_266 rfl (lv_at hl 0 rfl) ?_
    refine ug_R hx hb ht hown hM hK hP 89 (by decide) lk_M_89 (by decide) d_M_message_267 ?_
    refine lv_iload_n hx hb d_M_message_270 rfl (lv_at hl 1 rfl) ?_
    obtain ⟨hi9, hf⟩ := ck_some hf
    refine ul_I hx hb hK hP (by decide) (by decide) hi9 d_M_message_271 ?_
    refine lv_istore (lv' := [(17, .int (u.2.2.1 89 v1.toNatClampNeg)), (0, .ref h0), (1, .int v1), (5, .int v5), (6, .int v6), (10, .long v10), (12, .long v12), (14, .int v14)]) hx hb d_M_message_272 hl (by decide) rfl (fun ls hl => ?_)
    refine lv_aload_n hx hb d_M_message_274 rfl (lv_at hl 1 rfl) ?_
    refine ug_R hx hb ht hown hM hK hP 89 (by decide) lk_M_89 (by decide) d_M_message_275 ?_
    refine lv_iload_n hx hb d_M_message_278 rfl (lv_at hl 2 rfl) ?_
    refine lv_dup2_11 hx hb d_M_message_279 rfl rfl ?_
    obtain ⟨hi9, hf⟩ := ck_some hf
    refine ul_I hx hb hK hP (by decide) (by decide) hi9 d_M_message_280 ?_
    refine lv_iconst (v := 3) hx hb d_M_message_281 (by decide) ?_
    refine lv_iadd hx hb d_M_message_282 ?_
    obtain ⟨hi9, hf⟩ := ck_some hf
    refine us_I hx hb hK hP hD hS (by decide) (by decide) hi9 d_M_message_283 (fun H locs hP hD hS => ?_)
    obtain ⟨w10, e10, hf⟩ := lt_some hf
    rw [← e10] at hP hD
    refine lv_aload_n hx hb d_M_message_284 rfl (lv_at hl 1 rfl) ?_
    refine ug_R hx hb ht hown hM hK hP 88 (by decide) lk_M_88 (by decide) d_M_message_285 ?_
    refine lv_iload_n hx hb d_M_message_288 rfl (lv_at hl 2 rfl) ?_
    refine lv_sipush (v := 500) hx hb d_M_message_289 (by decide) ?_
    refine lv_imul hx hb d_M_message_292 ?_
    refine lv_iload hx hb d_M_message_293 (lv_at hl 0 rfl) ?_
    refine lv_iadd hx hb d_M_message_295 ?_
    refine lv_ldc2 (v := 2) hx hb hown (ht _ (wd_of 2994 (by decide +kernel) rfl)) d_M_message_296 ?_
    obtain ⟨hi9, hf⟩ := ck_some hf
    refine us_J hx hb hK hP hD hS (by decide) (by decide) hi9 d_M_message_299 (fun H locs hP hD hS => ?_)
    obtain ⟨w11, e11, hf⟩ := lt_some hf
    rw [← e11] at hP hD
    refine lv_aload_n hx hb d_M_message_300 rfl (lv_at hl 1 rfl) ?_
    refine ug_R hx hb ht hown hM hK hP 88 (by decide) lk_M_88 (by decide) d_M_message_301 ?_
    refine lv_iload_n hx hb d_M_message_304 rfl (lv_at hl 2 rfl) ?_
    refine lv_sipush (v := 500) hx hb d_M_message_305 (by decide) ?_
    refine lv_imul hx hb d_M_message_308 ?_
    refine lv_iload hx hb d_M_message_309 (lv_at hl 0 rfl) ?_
    refine lv_iadd hx hb d_M_message_311 ?_
    refine lv_iconst (v := 1) hx hb d_M_message_312 (by decide) ?_
    refine lv_iadd hx hb d_M_message_313 ?_
    refine lv_iconst (v := 1) hx hb d_M_message_314 (by decide) ?_
    refine lv_iload hx hb d_M_message_315 (lv_at hl 3 rfl) ?_
    refine lv_iconst (v := 1) hx hb d_M_message_317 (by decide) ?_
    refine lv_icmp_ne (tgt := 326) hx hb d_M_message_318 (by decide) (fun hc => ?_) (fun hc => ?_)
    · rw [br_n _ hc] at hf
      refine lv_bipush (v := 19) hx hb d_M_message_326 (by decide) ?_
      exact wb_M_message_328 C0 hR N G hG _ _ _ _ _ _ _ _ _ _ _ _ hf H locs hP hD hS ls (lv_sub hl [1, 2, 4, 5, 6, 7, 0] rfl)
    · rw [br_p _ hc] at hf
      refine lv_bipush (v := 7) hx hb d_M_message_321 (by decide) ?_
      refine lv_goto (tgt := 328) hx hb d_M_message_323 (by decide) ?_
      exact wb_M_message_328 C0 hR N G hG _ _ _ _ _ _ _ _ _ _ _ _ hf H locs hP hD hS ls (lv_sub hl [1, 2, 4, 5, 6, 7, 0] rfl)
def fb_M_message_222 (N : Nat) (G : Unit) (u : MS) (v1 : Int32) (v4 : Int32) (v5 : Int32) (v6 : Int32) (v10 : Int64) (v15 : Int32) (v16 : Int32) : Option (MS × Unit) := bnd (fm_M_term N u 4 v4) (fun u12 r12 => ck (inb ((((v1 * 500) + v15) + v16) - 1) (ln 88)) (lt (upJ u12 88 (vp_updL (u12.2.2.2 88) ((((v1 * 500) + v15) + v16) - 1).toNatClampNeg r12)) (fun w13 => bnd (fm_M_term N w13 5 v15) (fun u14 r14 => fb_M_message_261 N G u14 (v1) (v5) (v6) (v10) (r14) ((v15 + v16))))))
set_option maxRecDepth 100000 in
set_option maxHeartbeats 4000000 in
theorem wb_M_message_222 {p : Program} {l : Launch} {e : Env} {R : Room} {s : State} {m : MethodId} {args : Array Value} {below : List Frame} {meth : Method} {c : Code} {D : va_G} {cl : List vw_C} {cB cI cJ cZ cS : ClassId} {A : Nat → Prop} {iM h0 : Nat} {ad : Nat → Nat} (C0 : MCx p s m args meth c b_M_message 18 none D cl cB cI cJ cZ cS iM A) (hR : R = rm_M_message) (N : Nat) (G : Unit) (hG : True) : ∀ (u : MS) (v1 : Int32) (v4 : Int32) (v5 : Int32) (v6 : Int32) (v10 : Int64) (v15 : Int32) (v16 : Int32) (x : MS × Unit), fb_M_message_222 N G u v1 v4 v5 v6 v10 v15 v16 = some x → ∀ (H : Heap) (locs : List Loc), va_P D cl (wM cB cI cJ cZ cS iM h0 ad u) H → va_D A (wM cB cI cJ cZ cS iM h0 ad u) → va_S A s.heap H locs → ∀ (ls : Array Slot), lv_has ls 18 [(0, .ref h0), (1, .int v1), (4, .int v4), (5, .int v5), (6, .int v6), (10, .long v10), (15, .int v15), (16, .int v16)] → W p l e R s m args below meth c H locs 0 0 (MQ below (mQv D cl cB cI cJ cZ cS iM h0 ad A x) args s 0 0 A) (F0 m 222 ls []) := by
  intro u v1 v4 v5 v6 v10 v15 v16 x hf H locs hP hD hS ls hl
  obtain ⟨hx, hb, hr, hml, ht, hown, hM, hK, hA, hlocks⟩ := id C0
  unfold fb_M_message_222 at hf
  refine lv_aload_n hx hb d_M_message_222 rfl (lv_at hl 0 rfl) ?_
  refine ug_R hx hb ht hown hM hK hP 88 (by decide) lk_M_88 (by decide) d_M_message_223 ?_
  refine lv_iload_n hx hb d_M_message_226 rfl (lv_at hl 1 rfl) ?_
  refine lv_sipush (v := 500) hx hb d_M_message_227 (by decide) ?_
  refine lv_imul hx hb d_M_message_230 ?_
  refine lv_iload hx hb d_M_message_231 (lv_at hl 6 rfl) ?_
  refine lv_iadd hx hb d_M_message_233 ?_
  refine lv_iload hx hb d_M_message_234 (lv_at hl 7 rfl) ?_
  refine lv_iadd hx hb d_M_message_236 ?_
  refine lv_iconst (v := 1) hx hb d_M_message_237 (by decide) ?_
  refine lv_isub hx hb d_M_message_238 ?_
  refine lv_iconst (v := 4) hx hb d_M_message_239 (by decide) ?_
  refine lv_iload hx hb d_M_message_240 (lv_at hl 2 rfl) ?_
  obtain ⟨u12, r12, hc12, hf⟩ := bnd_some hf
  refine mS_l (As := [.int 4, .int v4]) (rest := [.int ((((v1 * 500) + v15) + v16) - 1), .ref (ad 88)]) C0 hP hD hS (c_M_term N hM hc12) k_M_term hl_M_term ht_M_term hini_M rfl rfl hd_M_term rfl (rm_M_message_M_term hR) hl.1 (Nat.le_of_ble_eq_true rfl) d_M_message_242 rfl ⟨Nat.zero_le _, Nat.zero_le _⟩ (fun H locs hP hD hS => ?_)
  obtain ⟨hi9, hf⟩ := ck_some hf
  refine us_J hx hb hK hP hD hS (by decide) (by decide) hi9 d_M_message_245 (fun H locs hP hD hS => ?_)
  obtain ⟨w13, e13, hf⟩ := lt_some hf
  rw [← e13] at hP hD
  refine lv_iload hx hb d_M_message_246 (lv_at hl 6 rfl) ?_
  refine lv_iload hx hb d_M_message_248 (lv_at hl 7 rfl) ?_
  refine lv_iadd hx hb d_M_message_250 ?_
  refine lv_istore (lv' := [(14, .int (v15 + v16)), (0, .ref h0), (1, .int v1), (4, .int v4), (5, .int v5), (6, .int v6), (10, .long v10), (15, .int v15), (16, .int v16)]) hx hb d_M_message_251 hl (by decide) rfl (fun ls hl => ?_)
  refine lv_iconst (v := 5) hx hb d_M_message_253 (by decide) ?_
  refine lv_iload hx hb d_M_message_254 (lv_at hl 7 rfl) ?_
  obtain ⟨u14, r14, hc14, hf⟩ := bnd_some hf
  refine mS_l (As := [.int 5, .int v15]) (rest := []) C0 hP hD hS (c_M_term N hM hc14) k_M_term hl_M_term ht_M_term hini_M rfl rfl hd_M_term rfl (rm_M_message_M_term hR) hl.1 (Nat.le_of_ble_eq_true rfl) d_M_message_256 rfl ⟨Nat.zero_le _, Nat.zero_le _⟩ (fun H locs hP hD hS => ?_)
  refine lv_lstore (lv' := [(12, .long r14), (14, .int (v15 + v16)), (0, .ref h0), (1, .int v1), (4, .int v4), (5, .int v5), (6, .int v6), (10, .long v10), (15, .int v15), (16, .int v16)]) hx hb d_M_message_259 hl (by decide) rfl (fun ls hl => ?_)
  exact wb_M_message_261 C0 hR N G hG _ _ _ _ _ _ _ _ hf H locs hP hD hS ls (lv_sub hl [2, 3, 5, 6, 7, 0, 1] rfl)
def fb_M_message_193 (N : Nat) (G : Unit) (u : MS) (v1 : Int32) (v2 : Int32) (v3 : Int32) (v4 : Int32) (v5 : Int32) (v6 : Int32) (v10 : Int64) (v15 : Int32) (v16 : Int32) (t0 : Nat) (t1 : Int32) (t2 : Int32) (t3 : Int32) : Option (MS × Unit) := bnd (fm_M_term N u t2 t3) (fun u15 r15 => ck (isK t0 5) (ck (inb t1 (ln t0)) (lt (upJ u15 t0 (vp_updL (u15.2.2.2 t0) t1.toNatClampNeg r15)) (fun w16 => br (decide (v2 = 1)) (bnd (fm_M_term N w16 2 v3) (fun u17 r17 => ck (inb (((v1 * 500) + v15) + 2) (ln 88)) (lt (upJ u17 88 (vp_updL (u17.2.2.2 88) (((v1 * 500) + v15) + 2).toNatClampNeg r17)) (fun w18 => fb_M_message_222 N G w18 (v1) (v4) (v5) (v6) (v10) (v15) (v16))))) (fb_M_message_222 N G w16 (v1) (v4) (v5) (v6) (v10) (v15) (v16))))))
set_option maxRecDepth 100000 in
set_option maxHeartbeats 4000000 in
theorem wb_M_message_193 {p : Program} {l : Launch} {e : Env} {R : Room} {s : State} {m : MethodId} {args : Array Value} {below : List Frame} {meth : Method} {c : Code} {D : va_G} {cl : List vw_C} {cB cI cJ cZ cS : ClassId} {A : Nat → Prop} {iM h0 : Nat} {ad : Nat → Nat} (C0 : MCx p s m args meth c b_M_message 18 none D cl cB cI cJ cZ cS iM A) (hR : R = rm_M_message) (N : Nat) (G : Unit) (hG : True) : ∀ (u : MS) (v1 : Int32) (v2 : Int32) (v3 : Int32) (v4 : Int32) (v5 : Int32) (v6 : Int32) (v10 : Int64) (v15 : Int32) (v16 : Int32) (t0 : Nat) (t1 : Int32) (t2 : Int32) (t3 : Int32) (x : MS × Unit), fb_M_message_193 N G u v1 v2 v3 v4 v5 v6 v10 v15 v16 t0 t1 t2 t3 = some x → ∀ (H : Heap) (locs : List Loc), va_P D cl (wM cB cI cJ cZ cS iM h0 ad u) H → va_D A (wM cB cI cJ cZ cS iM h0 ad u) → va_S A s.heap H locs → ∀ (ls : Array Slot), lv_has ls 18 [(0, .ref h0), (1, .int v1), (2, .int v2), (3, .int v3), (4, .int v4), (5, .int v5), (6, .int v6), (10, .long v10), (15, .int v15), (16, .int v16)] → W p l e R s m args below meth c H locs 0 0 (MQ below (mQv D cl cB cI cJ cZ cS iM h0 ad A x) args s 0 0 A) (F0 m 193 ls [.int t3, .int t2, .int t1, .ref (ad t0)]) := by
  intro u v1 v2 v3 v4 v5 v6 v10 v15 v16 t0 t1 t2 t3 x hf H locs hP hD hS ls hl
  obtain ⟨hx, hb, hr, hml, ht, hown, hM, hK, hA, hlocks⟩ := id C0
  unfold fb_M_message_193 at hf
  obtain ⟨u15, r15, hc15, hf⟩ := bnd_some hf
  refine mS_l (As := [.int t2, .int t3]) (rest := [.int t1, .ref (ad t0)]) C0 hP hD hS (c_M_term N hM hc15) k_M_term hl_M_term ht_M_term hini_M rfl rfl hd_M_term rfl (rm_M_message_M_term hR) hl.1 (Nat.le_of_ble_eq_true rfl) d_M_message_193 rfl ⟨Nat.zero_le _, Nat.zero_le _⟩ (fun H locs hP hD hS => ?_)
  obtain ⟨hk9, hf⟩ := ck_some hf
  obtain ⟨hi9, hf⟩ := ck_some hf
  refine us_J hx hb hK hP hD hS (isK_1 hk9) (isK_2 hk9) hi9 d_M_message_196 (fun H locs hP hD hS => ?_)
  obtain ⟨w16, e16, hf⟩ := lt_some hf
  rw [← e16] at hP hD
  refine lv_iload_n hx hb d_M_message_197 rfl (lv_at hl 2 rfl) ?_
  refine lv_iconst (v := 1) hx hb d_M_message_198 (by decide) ?_
  refine lv_icmp_ne (tgt := 222) hx hb d_M_message_199 (by decide) (fun hc => ?_) (fun hc => ?_)
  · rw [br_n _ hc] at hf
    exact wb_M_message_222 C0 hR N G hG _ _ _ _ _ _ _ _ _ hf H locs hP hD hS ls (lv_sub hl [0, 1, 4, 5, 6, 7, 8, 9] rfl)
  · rw [br_p _ hc] at hf
    refine lv_aload_n hx hb d_M_message_202 rfl (lv_at hl 0 rfl) ?_
    refine ug_R hx hb ht hown hM hK hP 88 (by decide) lk_M_88 (by decide) d_M_message_203 ?_
    refine lv_iload_n hx hb d_M_message_206 rfl (lv_at hl 1 rfl) ?_
    refine lv_sipush (v := 500) hx hb d_M_message_207 (by decide) ?_
    refine lv_imul hx hb d_M_message_210 ?_
    refine lv_iload hx hb d_M_message_211 (lv_at hl 8 rfl) ?_
    refine lv_iadd hx hb d_M_message_213 ?_
    refine lv_iconst (v := 2) hx hb d_M_message_214 (by decide) ?_
    refine lv_iadd hx hb d_M_message_215 ?_
    refine lv_iconst (v := 2) hx hb d_M_message_216 (by decide) ?_
    refine lv_iload_n hx hb d_M_message_217 rfl (lv_at hl 3 rfl) ?_
    obtain ⟨u17, r17, hc17, hf⟩ := bnd_some hf
    refine mS_l (As := [.int 2, .int v3]) (rest := [.int (((v1 * 500) + v15) + 2), .ref (ad 88)]) C0 hP hD hS (c_M_term N hM hc17) k_M_term hl_M_term ht_M_term hini_M rfl rfl hd_M_term rfl (rm_M_message_M_term hR) hl.1 (Nat.le_of_ble_eq_true rfl) d_M_message_218 rfl ⟨Nat.zero_le _, Nat.zero_le _⟩ (fun H locs hP hD hS => ?_)
    obtain ⟨hi9, hf⟩ := ck_some hf
    refine us_J hx hb hK hP hD hS (by decide) (by decide) hi9 d_M_message_221 (fun H locs hP hD hS => ?_)
    obtain ⟨w18, e18, hf⟩ := lt_some hf
    rw [← e18] at hP hD
    exact wb_M_message_222 C0 hR N G hG _ _ _ _ _ _ _ _ _ hf H locs hP hD hS ls (lv_sub hl [0, 1, 4, 5, 6, 7, 8, 9] rfl)
def fb_M_message_136 (N : Nat) (G : Unit) (u : MS) (v1 : Int32) (v2 : Int32) (v3 : Int32) (v4 : Int32) (v5 : Int32) (v6 : Int32) (v10 : Int64) (v15 : Int32) (t0 : Int32) : Option (MS × Unit) := ck (inb v1 (ln 89)) (ck (inb v1 (ln 89)) (lt (upA u 89 (upd (u.2.2.1 89) v1.toNatClampNeg ((u.2.2.1 89 v1.toNatClampNeg) + (t0 + 1)))) (fun w19 => ck (inb ((v1 * 500) + v15) (ln 88)) (lt (upJ w19 88 (vp_updL (w19.2.2.2 88) ((v1 * 500) + v15).toNatClampNeg (t0.toInt64))) (fun w20 => br (decide (v2 = 0)) (fb_M_message_193 N G w20 (v1) (v2) (v3) (v4) (v5) (v6) (v10) (v15) (t0) (88) ((((v1 * 500) + v15) + 1)) (1) (8)) (fb_M_message_193 N G w20 (v1) (v2) (v3) (v4) (v5) (v6) (v10) (v15) (t0) (88) ((((v1 * 500) + v15) + 1)) (1) (9)))))))
set_option maxRecDepth 100000 in
set_option maxHeartbeats 4000000 in
theorem wb_M_message_136 {p : Program} {l : Launch} {e : Env} {R : Room} {s : State} {m : MethodId} {args : Array Value} {below : List Frame} {meth : Method} {c : Code} {D : va_G} {cl : List vw_C} {cB cI cJ cZ cS : ClassId} {A : Nat → Prop} {iM h0 : Nat} {ad : Nat → Nat} (C0 : MCx p s m args meth c b_M_message 18 none D cl cB cI cJ cZ cS iM A) (hR : R = rm_M_message) (N : Nat) (G : Unit) (hG : True) : ∀ (u : MS) (v1 : Int32) (v2 : Int32) (v3 : Int32) (v4 : Int32) (v5 : Int32) (v6 : Int32) (v10 : Int64) (v15 : Int32) (t0 : Int32) (x : MS × Unit), fb_M_message_136 N G u v1 v2 v3 v4 v5 v6 v10 v15 t0 = some x → ∀ (H : Heap) (locs : List Loc), va_P D cl (wM cB cI cJ cZ cS iM h0 ad u) H → va_D A (wM cB cI cJ cZ cS iM h0 ad u) → va_S A s.heap H locs → ∀ (ls : Array Slot), lv_has ls 18 [(0, .ref h0), (1, .int v1), (2, .int v2), (3, .int v3), (4, .int v4), (5, .int v5), (6, .int v6), (10, .long v10), (15, .int v15)] → W p l e R s m args below meth c H locs 0 0 (MQ below (mQv D cl cB cI cJ cZ cS iM h0 ad A x) args s 0 0 A) (F0 m 136 ls [.int t0]) := by
  intro u v1 v2 v3 v4 v5 v6 v10 v15 t0 x hf H locs hP hD hS ls hl
  obtain ⟨hx, hb, hr, hml, ht, hown, hM, hK, hA, hlocks⟩ := id C0
  unfold fb_M_message_136 at hf
  refine lv_istore (lv' := [(16, .int t0), (0, .ref h0), (1, .int v1), (2, .int v2), (3, .int v3), (4, .int v4), (5, .int v5), (6, .int v6), (10, .long v10), (15, .int v15)]) hx hb d_M_message_136 hl (by decide) rfl (fun ls hl => ?_)
  refine lv_aload_n hx hb d_M_message_138 rfl (lv_at hl 1 rfl) ?_
  refine ug_R hx hb ht hown hM hK hP 89 (by decide) lk_M_89 (by decide) d_M_message_139 ?_
  refine lv_iload_n hx hb d_M_message_142 rfl (lv_at hl 2 rfl) ?_
  refine lv_dup2_11 hx hb d_M_message_143 rfl rfl ?_
  obtain ⟨hi9, hf⟩ := ck_some hf
  refine ul_I hx hb hK hP (by decide) (by decide) hi9 d_M_message_144 ?_
  refine lv_iload hx hb d_M_message_145 (lv_at hl 0 rfl) ?_
  refine lv_iconst (v := 1) hx hb d_M_message_147 (by decide) ?_
  refine lv_iadd hx hb d_M_message_148 ?_
  refine lv_iadd hx hb d_M_message_149 ?_
  obtain ⟨hi9, hf⟩ := ck_some hf
  refine us_I hx hb hK hP hD hS (by decide) (by decide) hi9 d_M_message_150 (fun H locs hP hD hS => ?_)
  obtain ⟨w19, e19, hf⟩ := lt_some hf
  rw [← e19] at hP hD
  refine lv_aload_n hx hb d_M_message_151 rfl (lv_at hl 1 rfl) ?_
  refine ug_R hx hb ht hown hM hK hP 88 (by decide) lk_M_88 (by decide) d_M_message_152 ?_
  refine lv_iload_n hx hb d_M_message_155 rfl (lv_at hl 2 rfl) ?_
  refine lv_sipush (v := 500) hx hb d_M_message_156 (by decide) ?_
  refine lv_imul hx hb d_M_message_159 ?_
  refine lv_iload hx hb d_M_message_160 (lv_at hl 9 rfl) ?_
  refine lv_iadd hx hb d_M_message_162 ?_
  refine lv_iload hx hb d_M_message_163 (lv_at hl 0 rfl) ?_
  refine lv_i2l hx hb d_M_message_165 rfl ?_
  obtain ⟨hi9, hf⟩ := ck_some hf
  refine us_J hx hb hK hP hD hS (by decide) (by decide) hi9 d_M_message_166 (fun H locs hP hD hS => ?_)
  obtain ⟨w20, e20, hf⟩ := lt_some hf
  rw [← e20] at hP hD
  refine lv_aload_n hx hb d_M_message_167 rfl (lv_at hl 1 rfl) ?_
  refine ug_R hx hb ht hown hM hK hP 88 (by decide) lk_M_88 (by decide) d_M_message_168 ?_
  refine lv_iload_n hx hb d_M_message_171 rfl (lv_at hl 2 rfl) ?_
  refine lv_sipush (v := 500) hx hb d_M_message_172 (by decide) ?_
  refine lv_imul hx hb d_M_message_175 ?_
  refine lv_iload hx hb d_M_message_176 (lv_at hl 9 rfl) ?_
  refine lv_iadd hx hb d_M_message_178 ?_
  refine lv_iconst (v := 1) hx hb d_M_message_179 (by decide) ?_
  refine lv_iadd hx hb d_M_message_180 ?_
  refine lv_iconst (v := 1) hx hb d_M_message_181 (by decide) ?_
  refine lv_iload_n hx hb d_M_message_182 rfl (lv_at hl 3 rfl) ?_
  refine lv_if_ne (tgt := 191) hx hb d_M_message_183 (by decide) (fun hc => ?_) (fun hc => ?_)
  · rw [br_n _ hc] at hf
    refine lv_bipush (v := 9) hx hb d_M_message_191 (by decide) ?_
    exact wb_M_message_193 C0 hR N G hG _ _ _ _ _ _ _ _ _ _ _ _ _ _ _ hf H locs hP hD hS ls (lv_sub hl [1, 2, 3, 4, 5, 6, 7, 8, 9, 0] rfl)
  · rw [br_p _ hc] at hf
    refine lv_bipush (v := 8) hx hb d_M_message_186 (by decide) ?_
    refine lv_goto (tgt := 193) hx hb d_M_message_188 (by decide) ?_
    exact wb_M_message_193 C0 hR N G hG _ _ _ _ _ _ _ _ _ _ _ _ _ _ _ hf H locs hP hD hS ls (lv_sub hl [1, 2, 3, 4, 5, 6, 7, 8, 9, 0] rfl)
def fb_M_message_50 (N : Nat) (G : Unit) (u : MS) (v1 : Int32) (v2 : Int32) (v3 : Int32) (v4 : Int32) (v5 : Int32) (v6 : Int32) (v7 : Int64) (t0 : Int32) (t1 : Int32) : Option (MS × Unit) := bnd (fm_M_copySize N u v6 v7) (fun u21 r21 => bnd (fm_M_hand N u21 v6 v7) (fun u22 _ => bnd (fm_M_wants N u22 v1 ((t0 + t1) + r21)) (fun u23 r23 => br (decide (r23 = 0)) (bnd (fm_M_handNone N u23) (fun u26 _ => bnd (fm_M_term N u26 1 20) (fun u27 r27 => bnd (fm_M_willEnd N u27 v1 0 v1 r27) (fun u28 _ => some (u28, ()))))) (bnd (fm_M_handNone N u23) (fun u24 _ => br (decide (2 ≤ v2)) (fb_M_message_261 N G u24 (v1) (v5) (v6) ((u23.2.1 139)) (0) ((-1))) (ck (inb v1 (ln 89)) (lt (u24.2.2.1 89 v1.toNatClampNeg) (fun y25 => br (decide (v2 = 0)) (fb_M_message_136 N G u24 (v1) (v2) (v3) (v4) (v5) (v6) ((u23.2.1 139)) (y25) (3)) (fb_M_message_136 N G u24 (v1) (v2) (v3) (v4) (v5) (v6) ((u23.2.1 139)) (y25) (4))))))))))
set_option maxRecDepth 100000 in
set_option maxHeartbeats 4000000 in
theorem wb_M_message_50 {p : Program} {l : Launch} {e : Env} {R : Room} {s : State} {m : MethodId} {args : Array Value} {below : List Frame} {meth : Method} {c : Code} {D : va_G} {cl : List vw_C} {cB cI cJ cZ cS : ClassId} {A : Nat → Prop} {iM h0 : Nat} {ad : Nat → Nat} (C0 : MCx p s m args meth c b_M_message 18 none D cl cB cI cJ cZ cS iM A) (hR : R = rm_M_message) (N : Nat) (G : Unit) (hG : True) : ∀ (u : MS) (v1 : Int32) (v2 : Int32) (v3 : Int32) (v4 : Int32) (v5 : Int32) (v6 : Int32) (v7 : Int64) (t0 : Int32) (t1 : Int32) (x : MS × Unit), fb_M_message_50 N G u v1 v2 v3 v4 v5 v6 v7 t0 t1 = some x → ∀ (H : Heap) (locs : List Loc), va_P D cl (wM cB cI cJ cZ cS iM h0 ad u) H → va_D A (wM cB cI cJ cZ cS iM h0 ad u) → va_S A s.heap H locs → ∀ (ls : Array Slot), lv_has ls 18 [(0, .ref h0), (1, .int v1), (2, .int v2), (3, .int v3), (4, .int v4), (5, .int v5), (6, .int v6), (7, .long v7)] → W p l e R s m args below meth c H locs 0 0 (MQ below (mQv D cl cB cI cJ cZ cS iM h0 ad A x) args s 0 0 A) (F0 m 50 ls [.int t1, .int t0]) := by
  intro u v1 v2 v3 v4 v5 v6 v7 t0 t1 x hf H locs hP hD hS ls hl
  obtain ⟨hx, hb, hr, hml, ht, hown, hM, hK, hA, hlocks⟩ := id C0
  unfold fb_M_message_50 at hf
  refine lv_iadd hx hb d_M_message_50 ?_
  refine lv_aload_n hx hb d_M_message_51 rfl (lv_at hl 0 rfl) ?_
  refine lv_iload hx hb d_M_message_52 (lv_at hl 6 rfl) ?_
  refine lv_lload hx hb d_M_message_54 (lv_at hl 7 rfl) ?_
  obtain ⟨u21, r21, hc21, hf⟩ := bnd_some hf
  refine mV_i (As := [.int v6, .long v7]) (rest := [.int (t0 + t1)]) C0 hP hD hS (c_M_copySize N hM hc21) k_M_copySize hl_M_copySize hi_M_copySize hs_M_copySize hini_M rfl rfl hd_M_copySize rfl (rm_M_message_M_copySize hR) hl.1 (Nat.le_of_ble_eq_true rfl) d_M_message_56 rfl ⟨Nat.zero_le _, Nat.zero_le _⟩ (fun H locs hP hD hS => ?_)
  refine lv_iadd hx hb d_M_message_59 ?_
  refine lv_istore (lv' := [(9, .int ((t0 + t1) + r21)), (0, .ref h0), (1, .int v1), (2, .int v2), (3, .int v3), (4, .int v4), (5, .int v5), (6, .int v6), (7, .long v7)]) hx hb d_M_message_60 hl (by decide) rfl (fun ls hl => ?_)
  refine lv_aload_n hx hb d_M_message_62 rfl (lv_at hl 1 rfl) ?_
  refine lv_iload hx hb d_M_message_63 (lv_at hl 7 rfl) ?_
  refine lv_lload hx hb d_M_message_65 (lv_at hl 8 rfl) ?_
  obtain ⟨u22, r22, hc22, hf⟩ := bnd_some hf
  refine mV_v (As := [.int v6, .long v7]) (rest := []) C0 hP hD hS (c_M_hand N hM hc22) k_M_hand hl_M_hand hi_M_hand hs_M_hand hini_M rfl rfl hd_M_hand rfl (rm_M_message_M_hand hR) hl.1 (Nat.le_of_ble_eq_true rfl) d_M_message_67 rfl ⟨Nat.zero_le _, Nat.zero_le _⟩ (fun H locs hP hD hS => ?_)
  refine lv_aload_n hx hb d_M_message_70 rfl (lv_at hl 1 rfl) ?_
  refine lv_iload_n hx hb d_M_message_71 rfl (lv_at hl 2 rfl) ?_
  refine lv_iload hx hb d_M_message_72 (lv_at hl 0 rfl) ?_
  obtain ⟨u23, r23, hc23, hf⟩ := bnd_some hf
  refine mV_i (As := [.int v1, .int ((t0 + t1) + r21)]) (rest := []) C0 hP hD hS (c_M_wants N hM hc23) k_M_wants hl_M_wants hi_M_wants hs_M_wants hini_M rfl rfl hd_M_wants rfl (rm_M_message_M_wants hR) hl.1 (Nat.le_of_ble_eq_true rfl) d_M_message_74 rfl ⟨Nat.zero_le _, Nat.zero_le _⟩ (fun H locs hP hD hS => ?_)
  refine lv_if_ne (tgt := 98) hx hb d_M_message_77 (by decide) (fun hc => ?_) (fun hc => ?_)
  · rw [br_n _ hc] at hf
    refine lv_aload_n hx hb d_M_message_98 rfl (lv_at hl 1 rfl) ?_
    refine ug_L hx hb ht hown hM hK hP 139 (by decide) lk_M_139 (by decide) d_M_message_99 ?_
    refine lv_lstore (lv' := [(10, .long (u23.2.1 139)), (9, .int ((t0 + t1) + r21)), (0, .ref h0), (1, .int v1), (2, .int v2), (3, .int v3), (4, .int v4), (5, .int v5), (6, .int v6), (7, .long v7)]) hx hb d_M_message_102 hl (by decide) rfl (fun ls hl => ?_)
    refine lv_aload_n hx hb d_M_message_104 rfl (lv_at hl 2 rfl) ?_
    obtain ⟨u24, r24, hc24, hf⟩ := bnd_some hf
    refine mV_v (As := []) (rest := []) C0 hP hD hS (c_M_handNone N hM hc24) k_M_handNone hl_M_handNone hi_M_handNone hs_M_handNone hini_M rfl rfl hd_M_handNone rfl (rm_M_message_M_handNone hR) hl.1 (Nat.le_of_ble_eq_true rfl) d_M_message_105 rfl ⟨Nat.zero_le _, Nat.zero_le _⟩ (fun H locs hP hD hS => ?_)
    refine lv_lconst (v := 0) hx hb d_M_message_108 (by decide) ?_
    refine lv_lstore (lv' := [(12, .long 0), (10, .long (u23.2.1 139)), (9, .int ((t0 + t1) + r21)), (0, .ref h0), (1, .int v1), (2, .int v2), (3, .int v3), (4, .int v4), (5, .int v5), (6, .int v6), (7, .long v7)]) hx hb d_M_message_109 hl (by decide) rfl (fun ls hl => ?_)
    refine lv_iconst (v := (-1)) hx hb d_M_message_111 (by decide) ?_
    refine lv_istore (lv' := [(14, .int (-1)), (12, .long 0), (10, .long (u23.2.1 139)), (9, .int ((t0 + t1) + r21)), (0, .ref h0), (1, .int v1), (2, .int v2), (3, .int v3), (4, .int v4), (5, .int v5), (6, .int v6), (7, .long v7)]) hx hb d_M_message_112 hl (by decide) rfl (fun ls hl => ?_)
    refine lv_iload_n hx hb d_M_message_114 rfl (lv_at hl 6 rfl) ?_
    refine lv_iconst (v := 2) hx hb d_M_message_115 (by decide) ?_
    refine lv_icmp_ge (tgt := 261) hx hb d_M_message_116 (by decide) (fun hc => ?_) (fun hc => ?_)
    · rw [br_p _ hc] at hf
      exact wb_M_message_261 C0 hR N G hG _ _ _ _ _ _ _ _ hf H locs hP hD hS ls (lv_sub hl [4, 5, 9, 10, 2, 1, 0] rfl)
    · rw [br_n _ hc] at hf
      refine lv_aload_n hx hb d_M_message_119 rfl (lv_at hl 4 rfl) ?_
      refine ug_R hx hb ht hown hM hK hP 89 (by decide) lk_M_89 (by decide) d_M_message_120 ?_
      refine lv_iload_n hx hb d_M_message_123 rfl (lv_at hl 5 rfl) ?_
      obtain ⟨hi9, hf⟩ := ck_some hf
      refine ul_I hx hb hK hP (by decide) (by decide) hi9 d_M_message_124 ?_
      obtain ⟨y25, e25, hf⟩ := lt_some hf
      rw [← e25]
      refine lv_istore (lv' := [(15, .int y25), (14, .int (-1)), (12, .long 0), (10, .long (u23.2.1 139)), (9, .int ((t0 + t1) + r21)), (0, .ref h0), (1, .int v1), (2, .int v2), (3, .int v3), (4, .int v4), (5, .int v5), (6, .int v6), (7, .long v7)]) hx hb d_M_message_125 hl (by decide) rfl (fun ls hl => ?_)
      refine lv_iload_n hx hb d_M_message_127 rfl (lv_at hl 7 rfl) ?_
      refine lv_if_ne (tgt := 135) hx hb d_M_message_128 (by decide) (fun hc => ?_) (fun hc => ?_)
      · rw [br_n _ hc] at hf
        refine lv_iconst (v := 4) hx hb d_M_message_135 (by decide) ?_
        exact wb_M_message_136 C0 hR N G hG _ _ _ _ _ _ _ _ _ _ _ hf H locs hP hD hS ls (lv_sub hl [5, 6, 7, 8, 9, 10, 11, 3, 0] rfl)
      · rw [br_p _ hc] at hf
        refine lv_iconst (v := 3) hx hb d_M_message_131 (by decide) ?_
        refine lv_goto (tgt := 136) hx hb d_M_message_132 (by decide) ?_
        exact wb_M_message_136 C0 hR N G hG _ _ _ _ _ _ _ _ _ _ _ hf H locs hP hD hS ls (lv_sub hl [5, 6, 7, 8, 9, 10, 11, 3, 0] rfl)
  · rw [br_p _ hc] at hf
    refine lv_aload_n hx hb d_M_message_80 rfl (lv_at hl 1 rfl) ?_
    obtain ⟨u26, r26, hc26, hf⟩ := bnd_some hf
    refine mV_v (As := []) (rest := []) C0 hP hD hS (c_M_handNone N hM hc26) k_M_handNone hl_M_handNone hi_M_handNone hs_M_handNone hini_M rfl rfl hd_M_handNone rfl (rm_M_message_M_handNone hR) hl.1 (Nat.le_of_ble_eq_true rfl) d_M_message_81 rfl ⟨Nat.zero_le _, Nat.zero_le _⟩ (fun H locs hP hD hS => ?_)
    refine lv_aload_n hx hb d_M_message_84 rfl (lv_at hl 1 rfl) ?_
    refine lv_iload_n hx hb d_M_message_85 rfl (lv_at hl 2 rfl) ?_
    refine lv_iconst (v := 0) hx hb d_M_message_86 (by decide) ?_
    refine lv_iload_n hx hb d_M_message_87 rfl (lv_at hl 2 rfl) ?_
    refine lv_iconst (v := 1) hx hb d_M_message_88 (by decide) ?_
    refine lv_bipush (v := 20) hx hb d_M_message_89 (by decide) ?_
    obtain ⟨u27, r27, hc27, hf⟩ := bnd_some hf
    refine mS_l (As := [.int 1, .int 20]) (rest := [.int v1, .int 0, .int v1, .ref h0]) C0 hP hD hS (c_M_term N hM hc27) k_M_term hl_M_term ht_M_term hini_M rfl rfl hd_M_term rfl (rm_M_message_M_term hR) hl.1 (Nat.le_of_ble_eq_true rfl) d_M_message_91 rfl ⟨Nat.zero_le _, Nat.zero_le _⟩ (fun H locs hP hD hS => ?_)
    obtain ⟨u28, r28, hc28, hf⟩ := bnd_some hf
    refine mV_v (As := [.int v1, .int 0, .int v1, .long r27]) (rest := []) C0 hP hD hS (c_M_willEnd N hM hc28) k_M_willEnd hl_M_willEnd hi_M_willEnd hs_M_willEnd hini_M rfl rfl hd_M_willEnd rfl (rm_M_message_M_willEnd hR) hl.1 (Nat.le_of_ble_eq_true rfl) d_M_message_94 rfl ⟨Nat.zero_le _, Nat.zero_le _⟩ (fun H locs hP hD hS => ?_)
    exact mr_v C0 hP hD hS hf d_M_message_97
def fb_M_message_40 (N : Nat) (G : Unit) (u : MS) (v1 : Int32) (v2 : Int32) (v3 : Int32) (v4 : Int32) (v5 : Int32) (v6 : Int32) (v7 : Int64) (t0 : Int32) : Option (MS × Unit) := br (decide (v5 ≤ 0)) (fb_M_message_50 N G u (v1) (v2) (v3) (v4) (v5) (v6) (v7) (t0) (0)) (fb_M_message_50 N G u (v1) (v2) (v3) (v4) (v5) (v6) (v7) (t0) (3))
set_option maxRecDepth 100000 in
set_option maxHeartbeats 4000000 in
theorem wb_M_message_40 {p : Program} {l : Launch} {e : Env} {R : Room} {s : State} {m : MethodId} {args : Array Value} {below : List Frame} {meth : Method} {c : Code} {D : va_G} {cl : List vw_C} {cB cI cJ cZ cS : ClassId} {A : Nat → Prop} {iM h0 : Nat} {ad : Nat → Nat} (C0 : MCx p s m args meth c b_M_message 18 none D cl cB cI cJ cZ cS iM A) (hR : R = rm_M_message) (N : Nat) (G : Unit) (hG : True) : ∀ (u : MS) (v1 : Int32) (v2 : Int32) (v3 : Int32) (v4 : Int32) (v5 : Int32) (v6 : Int32) (v7 : Int64) (t0 : Int32) (x : MS × Unit), fb_M_message_40 N G u v1 v2 v3 v4 v5 v6 v7 t0 = some x → ∀ (H : Heap) (locs : List Loc), va_P D cl (wM cB cI cJ cZ cS iM h0 ad u) H → va_D A (wM cB cI cJ cZ cS iM h0 ad u) → va_S A s.heap H locs → ∀ (ls : Array Slot), lv_has ls 18 [(0, .ref h0), (1, .int v1), (2, .int v2), (3, .int v3), (4, .int v4), (5, .int v5), (6, .int v6), (7, .long v7)] → W p l e R s m args below meth c H locs 0 0 (MQ below (mQv D cl cB cI cJ cZ cS iM h0 ad A x) args s 0 0 A) (F0 m 40 ls [.int t0]) := by
  intro u v1 v2 v3 v4 v5 v6 v7 t0 x hf H locs hP hD hS ls hl
  obtain ⟨hx, hb, hr, hml, ht, hown, hM, hK, hA, hlocks⟩ := id C0
  unfold fb_M_message_40 at hf
  refine lv_iload hx hb d_M_message_40 (lv_at hl 5 rfl) ?_
  refine lv_if_le (tgt := 49) hx hb d_M_message_42 (by decide) (fun hc => ?_) (fun hc => ?_)
  · rw [br_p _ hc] at hf
    refine lv_iconst (v := 0) hx hb d_M_message_49 (by decide) ?_
    exact wb_M_message_50 C0 hR N G hG _ _ _ _ _ _ _ _ _ _ _ hf H locs hP hD hS ls (lv_sub hl [0, 1, 2, 3, 4, 5, 6, 7] rfl)
  · rw [br_n _ hc] at hf
    refine lv_iconst (v := 3) hx hb d_M_message_45 (by decide) ?_
    refine lv_goto (tgt := 50) hx hb d_M_message_46 (by decide) ?_
    exact wb_M_message_50 C0 hR N G hG _ _ _ _ _ _ _ _ _ _ _ hf H locs hP hD hS ls (lv_sub hl [0, 1, 2, 3, 4, 5, 6, 7] rfl)
def fb_M_message_21 (N : Nat) (G : Unit) (u : MS) : Option (MS × Unit) := some (u, ())
set_option maxRecDepth 100000 in
set_option maxHeartbeats 4000000 in
theorem wb_M_message_21 {p : Program} {l : Launch} {e : Env} {R : Room} {s : State} {m : MethodId} {args : Array Value} {below : List Frame} {meth : Method} {c : Code} {D : va_G} {cl : List vw_C} {cB cI cJ cZ cS : ClassId} {A : Nat → Prop} {iM h0 : Nat} {ad : Nat → Nat} (C0 : MCx p s m args meth c b_M_message 18 none D cl cB cI cJ cZ cS iM A) (hR : R = rm_M_message) (N : Nat) (G : Unit) (hG : True) : ∀ (u : MS) (x : MS × Unit), fb_M_message_21 N G u = some x → ∀ (H : Heap) (locs : List Loc), va_P D cl (wM cB cI cJ cZ cS iM h0 ad u) H → va_D A (wM cB cI cJ cZ cS iM h0 ad u) → va_S A s.heap H locs → ∀ (ls : Array Slot), lv_has ls 18 [] → W p l e R s m args below meth c H locs 0 0 (MQ below (mQv D cl cB cI cJ cZ cS iM h0 ad A x) args s 0 0 A) (F0 m 21 ls []) := by
  intro u x hf H locs hP hD hS ls hl
  obtain ⟨hx, hb, hr, hml, ht, hown, hM, hK, hA, hlocks⟩ := id C0
  unfold fb_M_message_21 at hf
  exact mr_v C0 hP hD hS hf d_M_message_21
def fb_M_message_0 (N : Nat) (G : Unit) (u : MS) (v1 : Int32) (v2 : Int32) (v3 : Int32) (v4 : Int32) (v5 : Int32) (v6 : Int32) (v7 : Int64) : Option (MS × Unit) := ck (inb v1 (ln 109)) (br (decide ((u.2.2.1 109 v1.toNatClampNeg) = 3)) (fb_M_message_21 N G u) (ck (inb v1 (ln 108)) (br (decide ((u.2.2.1 108 v1.toNatClampNeg) = 30)) (fb_M_message_21 N G u) (br (decide (v2 = 0)) (fb_M_message_40 N G u (v1) (v2) (v3) (v4) (v5) (v6) (v7) (4)) (br (decide (v2 = 1)) (fb_M_message_40 N G u (v1) (v2) (v3) (v4) (v5) (v6) (v7) (5)) (fb_M_message_40 N G u (v1) (v2) (v3) (v4) (v5) (v6) (v7) (0)))))))
set_option maxRecDepth 100000 in
set_option maxHeartbeats 4000000 in
theorem wb_M_message_0 {p : Program} {l : Launch} {e : Env} {R : Room} {s : State} {m : MethodId} {args : Array Value} {below : List Frame} {meth : Method} {c : Code} {D : va_G} {cl : List vw_C} {cB cI cJ cZ cS : ClassId} {A : Nat → Prop} {iM h0 : Nat} {ad : Nat → Nat} (C0 : MCx p s m args meth c b_M_message 18 none D cl cB cI cJ cZ cS iM A) (hR : R = rm_M_message) (N : Nat) (G : Unit) (hG : True) : ∀ (u : MS) (v1 : Int32) (v2 : Int32) (v3 : Int32) (v4 : Int32) (v5 : Int32) (v6 : Int32) (v7 : Int64) (x : MS × Unit), fb_M_message_0 N G u v1 v2 v3 v4 v5 v6 v7 = some x → ∀ (H : Heap) (locs : List Loc), va_P D cl (wM cB cI cJ cZ cS iM h0 ad u) H → va_D A (wM cB cI cJ cZ cS iM h0 ad u) → va_S A s.heap H locs → ∀ (ls : Array Slot), lv_has ls 18 [(0, .ref h0), (1, .int v1), (2, .int v2), (3, .int v3), (4, .int v4), (5, .int v5), (6, .int v6), (7, .long v7)] → W p l e R s m args below meth c H locs 0 0 (MQ below (mQv D cl cB cI cJ cZ cS iM h0 ad A x) args s 0 0 A) (F0 m 0 ls []) := by
  intro u v1 v2 v3 v4 v5 v6 v7 x hf H locs hP hD hS ls hl
  obtain ⟨hx, hb, hr, hml, ht, hown, hM, hK, hA, hlocks⟩ := id C0
  unfold fb_M_message_0 at hf
  refine lv_aload_n hx hb d_M_message_0 rfl (lv_at hl 0 rfl) ?_
  refine ug_R hx hb ht hown hM hK hP 109 (by decide) lk_M_109 (by decide) d_M_message_1 ?_
  refine lv_iload_n hx hb d_M_message_4 rfl (lv_at hl 1 rfl) ?_
  obtain ⟨hi9, hf⟩ := ck_some hf
  refine ul_I hx hb hK hP (by decide) (by decide) hi9 d_M_message_5 ?_
  refine lv_iconst (v := 3) hx hb d_M_message_6 (by decide) ?_
  refine lv_icmp_eq (tgt := 21) hx hb d_M_message_7 (by decide) (fun hc => ?_) (fun hc => ?_)
  · rw [br_p _ hc] at hf
    exact wb_M_message_21 C0 hR N G hG _ _ hf H locs hP hD hS ls (lv_sub hl [] rfl)
  · rw [br_n _ hc] at hf
    refine lv_aload_n hx hb d_M_message_10 rfl (lv_at hl 0 rfl) ?_
    refine ug_R hx hb ht hown hM hK hP 108 (by decide) lk_M_108 (by decide) d_M_message_11 ?_
    refine lv_iload_n hx hb d_M_message_14 rfl (lv_at hl 1 rfl) ?_
    obtain ⟨hi9, hf⟩ := ck_some hf
    refine ul_I hx hb hK hP (by decide) (by decide) hi9 d_M_message_15 ?_
    refine lv_bipush (v := 30) hx hb d_M_message_16 (by decide) ?_
    refine lv_icmp_ne (tgt := 22) hx hb d_M_message_18 (by decide) (fun hc => ?_) (fun hc => ?_)
    · rw [br_n _ hc] at hf
      refine lv_iload_n hx hb d_M_message_22 rfl (lv_at hl 2 rfl) ?_
      refine lv_if_ne (tgt := 30) hx hb d_M_message_23 (by decide) (fun hc => ?_) (fun hc => ?_)
      · rw [br_n _ hc] at hf
        refine lv_iload_n hx hb d_M_message_30 rfl (lv_at hl 2 rfl) ?_
        refine lv_iconst (v := 1) hx hb d_M_message_31 (by decide) ?_
        refine lv_icmp_ne (tgt := 39) hx hb d_M_message_32 (by decide) (fun hc => ?_) (fun hc => ?_)
        · rw [br_n _ hc] at hf
          refine lv_iconst (v := 0) hx hb d_M_message_39 (by decide) ?_
          exact wb_M_message_40 C0 hR N G hG _ _ _ _ _ _ _ _ _ _ hf H locs hP hD hS ls (lv_sub hl [0, 1, 2, 3, 4, 5, 6, 7] rfl)
        · rw [br_p _ hc] at hf
          refine lv_iconst (v := 5) hx hb d_M_message_35 (by decide) ?_
          refine lv_goto (tgt := 40) hx hb d_M_message_36 (by decide) ?_
          exact wb_M_message_40 C0 hR N G hG _ _ _ _ _ _ _ _ _ _ hf H locs hP hD hS ls (lv_sub hl [0, 1, 2, 3, 4, 5, 6, 7] rfl)
      · rw [br_p _ hc] at hf
        refine lv_iconst (v := 4) hx hb d_M_message_26 (by decide) ?_
        refine lv_goto (tgt := 40) hx hb d_M_message_27 (by decide) ?_
        exact wb_M_message_40 C0 hR N G hG _ _ _ _ _ _ _ _ _ _ hf H locs hP hD hS ls (lv_sub hl [0, 1, 2, 3, 4, 5, 6, 7] rfl)
    · rw [br_p _ hc] at hf
      exact wb_M_message_21 C0 hR N G hG _ _ hf H locs hP hD hS ls (lv_sub hl [] rfl)
def fm_M_message (N : Nat) (u : MS) (v1 : Int32) (v2 : Int32) (v3 : Int32) (v4 : Int32) (v5 : Int32) (v6 : Int32) (v7 : Int64) : Option (MS × Unit) := fb_M_message_0 N () u v1 v2 v3 v4 v5 v6 v7
set_option maxRecDepth 100000 in
set_option maxHeartbeats 4000000 in
theorem c_M_message (N : Nat) {l : Launch} {D : va_G} {cl : List vw_C} {cB cI cJ cZ cS : ClassId} {iM h0 : Nat} {ad : Nat → Nat} {u : MS} {sz : Nat} {v1 : Int32} {v2 : Int32} {v3 : Int32} {v4 : Int32} {v5 : Int32} {v6 : Int32} {v7 : Int64} {x : MS × Unit} (hM : cl[iM]? = some (R_M, F_M, 171)) (hf : fm_M_message N u v1 v2 v3 v4 v5 v6 v7 = some x) : Met l y_M_message (wd_ws y_M_message b_M_message 18 none) rm_M_message (mPc D cl cB cI cJ cZ cS iM h0 ad u sz [.ref h0, .int v1, .int v2, .int v3, .int v4, .int v5, .int v6, .long v7]) (mQv D cl cB cI cJ cZ cS iM h0 ad (mA cB cI cJ cZ cS iM h0 ad u sz) x) 0 0 (mA cB cI cJ cZ cS iM h0 ad u sz) :=
  mMet (by decide) rfl hM (Nat.le_of_ble_eq_true rfl) (fun p e s m below meth c ls hsz C0 hP hD hS hl => by
    have hR : rm_M_message = rm_M_message := rfl
    exact wb_M_message_0 C0 hR N () trivial u _ _ _ _ _ _ _ x hf s.heap [] hP hD hS ls (lv_sub hl [0, 1, 2, 3, 4, 5, 6, 7] rfl))
abbrev b_M_signal : ByteArray := prog_14_method_107_code
def y_M_signal : MethodName := ⟨R_M, "signal", "(IIIIJ)V"⟩
def w_M_signal : List Cond := wd_ws y_M_signal b_M_signal 7 none
set_option maxRecDepth 100000 in
theorem k_M_signal : Cond.code y_M_signal b_M_signal 7 none ∈ wd_tbl := wd_of 3169 rfl rfl
theorem d_M_signal_0 : decode b_M_signal 0 = .ok (.aload_n 0, 1) := by decide +kernel
theorem d_M_signal_1 : decode b_M_signal 1 = .ok (.getfield 255, 3) := by decide +kernel
theorem d_M_signal_4 : decode b_M_signal 4 = .ok (.iload_n 1, 1) := by decide +kernel
theorem d_M_signal_5 : decode b_M_signal 5 = .ok (.iaload, 1) := by decide +kernel
theorem d_M_signal_6 : decode b_M_signal 6 = .ok (.iconst 3, 1) := by decide +kernel
theorem d_M_signal_7 : decode b_M_signal 7 = .ok (.if_icmp .ne 4, 3) := by decide +kernel
theorem d_M_signal_10 : decode b_M_signal 10 = .ok (.return_, 1) := by decide +kernel
theorem d_M_signal_11 : decode b_M_signal 11 = .ok (.aload_n 0, 1) := by decide +kernel
theorem d_M_signal_12 : decode b_M_signal 12 = .ok (.getfield 264, 3) := by decide +kernel
theorem d_M_signal_15 : decode b_M_signal 15 = .ok (.iload_n 1, 1) := by decide +kernel
theorem d_M_signal_16 : decode b_M_signal 16 = .ok (.baload, 1) := by decide +kernel
theorem d_M_signal_17 : decode b_M_signal 17 = .ok (.ifCond .eq 19, 3) := by decide +kernel
theorem d_M_signal_20 : decode b_M_signal 20 = .ok (.aload_n 0, 1) := by decide +kernel
theorem d_M_signal_21 : decode b_M_signal 21 = .ok (.iload_n 1, 1) := by decide +kernel
theorem d_M_signal_22 : decode b_M_signal 22 = .ok (.iconst 0, 1) := by decide +kernel
theorem d_M_signal_23 : decode b_M_signal 23 = .ok (.iconst 0, 1) := by decide +kernel
theorem d_M_signal_24 : decode b_M_signal 24 = .ok (.iload_n 2, 1) := by decide +kernel
theorem d_M_signal_25 : decode b_M_signal 25 = .ok (.iload_n 3, 1) := by decide +kernel
theorem d_M_signal_26 : decode b_M_signal 26 = .ok (.iload 4, 2) := by decide +kernel
theorem d_M_signal_28 : decode b_M_signal 28 = .ok (.lload 5, 2) := by decide +kernel
theorem d_M_signal_30 : decode b_M_signal 30 = .ok (.invokevirtual 763, 3) := by decide +kernel
theorem d_M_signal_33 : decode b_M_signal 33 = .ok (.goto 28, 3) := by decide +kernel
theorem d_M_signal_36 : decode b_M_signal 36 = .ok (.iload_n 3, 1) := by decide +kernel
theorem d_M_signal_37 : decode b_M_signal 37 = .ok (.ifCond .ne 14, 3) := by decide +kernel
theorem d_M_signal_40 : decode b_M_signal 40 = .ok (.lload 5, 2) := by decide +kernel
theorem d_M_signal_42 : decode b_M_signal 42 = .ok (.iconst 1, 1) := by decide +kernel
theorem d_M_signal_43 : decode b_M_signal 43 = .ok (.iconst 4, 1) := by decide +kernel
theorem d_M_signal_44 : decode b_M_signal 44 = .ok (.invokestatic 315, 3) := by decide +kernel
theorem d_M_signal_47 : decode b_M_signal 47 = .ok (.lcmp, 1) := by decide +kernel
theorem d_M_signal_48 : decode b_M_signal 48 = .ok (.ifCond .eq 13, 3) := by decide +kernel
theorem d_M_signal_51 : decode b_M_signal 51 = .ok (.aload_n 0, 1) := by decide +kernel
theorem d_M_signal_52 : decode b_M_signal 52 = .ok (.iload_n 1, 1) := by decide +kernel
theorem d_M_signal_53 : decode b_M_signal 53 = .ok (.iload_n 3, 1) := by decide +kernel
theorem d_M_signal_54 : decode b_M_signal 54 = .ok (.iload 4, 2) := by decide +kernel
theorem d_M_signal_56 : decode b_M_signal 56 = .ok (.lload 5, 2) := by decide +kernel
theorem d_M_signal_58 : decode b_M_signal 58 = .ok (.invokevirtual 767, 3) := by decide +kernel
theorem d_M_signal_61 : decode b_M_signal 61 = .ok (.return_, 1) := by decide +kernel
set_option maxRecDepth 100000 in
theorem hl_M_signal : Cond.methodLink R_M 753 y_M_signal ∈ wd_tbl := wd_of 3166 (by decide +kernel) rfl
set_option maxRecDepth 100000 in
theorem hi_M_signal : Cond.instanceMethod y_M_signal ∈ wd_tbl := wd_of 3168 (by decide +kernel) rfl
set_option maxRecDepth 100000 in
theorem hs_M_signal : Cond.selects R_M y_M_signal y_M_signal ∈ wd_tbl := wd_of 246 (by decide +kernel) rfl
theorem hd_M_signal : y_M_signal.cls = R_M ∧ y_M_signal.cls ≠ "java/lang/invoke/MethodHandle" ∧ y_M_signal.cls ≠ "java/lang/invoke/VarHandle" ∧ (parseMethodDescriptor y_M_signal.desc).map (fun d => d.parameters.length) = some 5 := by decide +kernel
def rm_M_signal : Room := { frames := 6, cells := 0, slots := 0, locals := 160 }
theorem rm_M_signal_M_message {R : Room} (hR : R = rm_M_signal) : (rm_M_message).frames + 1 ≤ R.frames ∧ 8 + (18 + 11) + (rm_M_message).locals ≤ R.locals := by subst hR; decide
theorem rm_M_signal_M_term {R : Room} (hR : R = rm_M_signal) : (rm_M_term).frames + 1 ≤ R.frames ∧ 8 + (2 + 11) + (rm_M_term).locals ≤ R.locals := by subst hR; decide
theorem rm_M_signal_M_willEnd {R : Room} (hR : R = rm_M_signal) : (rm_M_willEnd).frames + 1 ≤ R.frames ∧ 8 + (6 + 11) + (rm_M_willEnd).locals ≤ R.locals := by subst hR; decide
def fb_M_signal_61 (N : Nat) (G : Unit) (u : MS) : Option (MS × Unit) := some (u, ())
set_option maxRecDepth 100000 in
set_option maxHeartbeats 4000000 in
theorem wb_M_signal_61 {p : Program} {l : Launch} {e : Env} {R : Room} {s : State} {m : MethodId} {args : Array Value} {below : List Frame} {meth : Method} {c : Code} {D : va_G} {cl : List vw_C} {cB cI cJ cZ cS : ClassId} {A : Nat → Prop} {iM h0 : Nat} {ad : Nat → Nat} (C0 : MCx p s m args meth c b_M_signal 7 none D cl cB cI cJ cZ cS iM A) (hR : R = rm_M_signal) (N : Nat) (G : Unit) (hG : True) : ∀ (u : MS) (x : MS × Unit), fb_M_signal_61 N G u = some x → ∀ (H : Heap) (locs : List Loc), va_P D cl (wM cB cI cJ cZ cS iM h0 ad u) H → va_D A (wM cB cI cJ cZ cS iM h0 ad u) → va_S A s.heap H locs → ∀ (ls : Array Slot), lv_has ls 7 [] → W p l e R s m args below meth c H locs 0 0 (MQ below (mQv D cl cB cI cJ cZ cS iM h0 ad A x) args s 0 0 A) (F0 m 61 ls []) := by
  intro u x hf H locs hP hD hS ls hl
  obtain ⟨hx, hb, hr, hml, ht, hown, hM, hK, hA, hlocks⟩ := id C0
  unfold fb_M_signal_61 at hf
  exact mr_v C0 hP hD hS hf d_M_signal_61
def fb_M_signal_51 (N : Nat) (G : Unit) (u : MS) (v1 : Int32) (v3 : Int32) (v4 : Int32) (v5 : Int64) : Option (MS × Unit) := bnd (fm_M_willEnd N u v1 v3 v4 v5) (fun u1 _ => fb_M_signal_61 N G u1)
set_option maxRecDepth 100000 in
set_option maxHeartbeats 4000000 in
theorem wb_M_signal_51 {p : Program} {l : Launch} {e : Env} {R : Room} {s : State} {m : MethodId} {args : Array Value} {below : List Frame} {meth : Method} {c : Code} {D : va_G} {cl : List vw_C} {cB cI cJ cZ cS : ClassId} {A : Nat → Prop} {iM h0 : Nat} {ad : Nat → Nat} (C0 : MCx p s m args meth c b_M_signal 7 none D cl cB cI cJ cZ cS iM A) (hR : R = rm_M_signal) (N : Nat) (G : Unit) (hG : True) : ∀ (u : MS) (v1 : Int32) (v3 : Int32) (v4 : Int32) (v5 : Int64) (x : MS × Unit), fb_M_signal_51 N G u v1 v3 v4 v5 = some x → ∀ (H : Heap) (locs : List Loc), va_P D cl (wM cB cI cJ cZ cS iM h0 ad u) H → va_D A (wM cB cI cJ cZ cS iM h0 ad u) → va_S A s.heap H locs → ∀ (ls : Array Slot), lv_has ls 7 [(0, .ref h0), (1, .int v1), (3, .int v3), (4, .int v4), (5, .long v5)] → W p l e R s m args below meth c H locs 0 0 (MQ below (mQv D cl cB cI cJ cZ cS iM h0 ad A x) args s 0 0 A) (F0 m 51 ls []) := by
  intro u v1 v3 v4 v5 x hf H locs hP hD hS ls hl
  obtain ⟨hx, hb, hr, hml, ht, hown, hM, hK, hA, hlocks⟩ := id C0
  unfold fb_M_signal_51 at hf
  refine lv_aload_n hx hb d_M_signal_51 rfl (lv_at hl 0 rfl) ?_
  refine lv_iload_n hx hb d_M_signal_52 rfl (lv_at hl 1 rfl) ?_
  refine lv_iload_n hx hb d_M_signal_53 rfl (lv_at hl 2 rfl) ?_
  refine lv_iload hx hb d_M_signal_54 (lv_at hl 3 rfl) ?_
  refine lv_lload hx hb d_M_signal_56 (lv_at hl 4 rfl) ?_
  obtain ⟨u1, r1, hc1, hf⟩ := bnd_some hf
  refine mV_v (As := [.int v1, .int v3, .int v4, .long v5]) (rest := []) C0 hP hD hS (c_M_willEnd N hM hc1) k_M_willEnd hl_M_willEnd hi_M_willEnd hs_M_willEnd hini_M rfl rfl hd_M_willEnd rfl (rm_M_signal_M_willEnd hR) hl.1 (Nat.le_of_ble_eq_true rfl) d_M_signal_58 rfl ⟨Nat.zero_le _, Nat.zero_le _⟩ (fun H locs hP hD hS => ?_)
  exact wb_M_signal_61 C0 hR N G hG _ _ hf H locs hP hD hS ls (lv_sub hl [] rfl)
def fb_M_signal_0 (N : Nat) (G : Unit) (u : MS) (v1 : Int32) (v2 : Int32) (v3 : Int32) (v4 : Int32) (v5 : Int64) : Option (MS × Unit) := ck (inb v1 (ln 109)) (br (decide ((u.2.2.1 109 v1.toNatClampNeg) = 3)) (some (u, ())) (ck (inb v1 (ln 112)) (br (decide ((u.2.2.1 112 v1.toNatClampNeg) = 0)) (br (decide (v3 = 0)) (bnd (fm_M_term N u 1 4) (fun u2 r2 => br (decide ((lg_cmp v5 r2) = 0)) (fb_M_signal_61 N G u2) (fb_M_signal_51 N G u2 (v1) (v3) (v4) (v5)))) (fb_M_signal_51 N G u (v1) (v3) (v4) (v5))) (bnd (fm_M_message N u v1 0 0 v2 v3 v4 v5) (fun u3 _ => fb_M_signal_61 N G u3)))))
set_option maxRecDepth 100000 in
set_option maxHeartbeats 4000000 in
theorem wb_M_signal_0 {p : Program} {l : Launch} {e : Env} {R : Room} {s : State} {m : MethodId} {args : Array Value} {below : List Frame} {meth : Method} {c : Code} {D : va_G} {cl : List vw_C} {cB cI cJ cZ cS : ClassId} {A : Nat → Prop} {iM h0 : Nat} {ad : Nat → Nat} (C0 : MCx p s m args meth c b_M_signal 7 none D cl cB cI cJ cZ cS iM A) (hR : R = rm_M_signal) (N : Nat) (G : Unit) (hG : True) : ∀ (u : MS) (v1 : Int32) (v2 : Int32) (v3 : Int32) (v4 : Int32) (v5 : Int64) (x : MS × Unit), fb_M_signal_0 N G u v1 v2 v3 v4 v5 = some x → ∀ (H : Heap) (locs : List Loc), va_P D cl (wM cB cI cJ cZ cS iM h0 ad u) H → va_D A (wM cB cI cJ cZ cS iM h0 ad u) → va_S A s.heap H locs → ∀ (ls : Array Slot), lv_has ls 7 [(0, .ref h0), (1, .int v1), (2, .int v2), (3, .int v3), (4, .int v4), (5, .long v5)] → W p l e R s m args below meth c H locs 0 0 (MQ below (mQv D cl cB cI cJ cZ cS iM h0 ad A x) args s 0 0 A) (F0 m 0 ls []) := by
  intro u v1 v2 v3 v4 v5 x hf H locs hP hD hS ls hl
  obtain ⟨hx, hb, hr, hml, ht, hown, hM, hK, hA, hlocks⟩ := id C0
  unfold fb_M_signal_0 at hf
  refine lv_aload_n hx hb d_M_signal_0 rfl (lv_at hl 0 rfl) ?_
  refine ug_R hx hb ht hown hM hK hP 109 (by decide) lk_M_109 (by decide) d_M_signal_1 ?_
  refine lv_iload_n hx hb d_M_signal_4 rfl (lv_at hl 1 rfl) ?_
  obtain ⟨hi9, hf⟩ := ck_some hf
  refine ul_I hx hb hK hP (by decide) (by decide) hi9 d_M_signal_5 ?_
  refine lv_iconst (v := 3) hx hb d_M_signal_6 (by decide) ?_
  refine lv_icmp_ne (tgt := 11) hx hb d_M_signal_7 (by decide) (fun hc => ?_) (fun hc => ?_)
  · rw [br_n _ hc] at hf
    refine lv_aload_n hx hb d_M_signal_11 rfl (lv_at hl 0 rfl) ?_
    refine ug_R hx hb ht hown hM hK hP 112 (by decide) lk_M_112 (by decide) d_M_signal_12 ?_
    refine lv_iload_n hx hb d_M_signal_15 rfl (lv_at hl 1 rfl) ?_
    obtain ⟨hi9, hf⟩ := ck_some hf
    refine ul_Z hx hb hK hP (by decide) (by decide) hi9 d_M_signal_16 ?_
    refine lv_if_eq (tgt := 36) hx hb d_M_signal_17 (by decide) (fun hc => ?_) (fun hc => ?_)
    · rw [br_p _ hc] at hf
      refine lv_iload_n hx hb d_M_signal_36 rfl (lv_at hl 3 rfl) ?_
      refine lv_if_ne (tgt := 51) hx hb d_M_signal_37 (by decide) (fun hc => ?_) (fun hc => ?_)
      · rw [br_n _ hc] at hf
        exact wb_M_signal_51 C0 hR N G hG _ _ _ _ _ _ hf H locs hP hD hS ls (lv_sub hl [0, 1, 3, 4, 5] rfl)
      · rw [br_p _ hc] at hf
        refine lv_lload hx hb d_M_signal_40 (lv_at hl 5 rfl) ?_
        refine lv_iconst (v := 1) hx hb d_M_signal_42 (by decide) ?_
        refine lv_iconst (v := 4) hx hb d_M_signal_43 (by decide) ?_
        obtain ⟨u2, r2, hc2, hf⟩ := bnd_some hf
        refine mS_l (As := [.int 1, .int 4]) (rest := [.long v5]) C0 hP hD hS (c_M_term N hM hc2) k_M_term hl_M_term ht_M_term hini_M rfl rfl hd_M_term rfl (rm_M_signal_M_term hR) hl.1 (Nat.le_of_ble_eq_true rfl) d_M_signal_44 rfl ⟨Nat.zero_le _, Nat.zero_le _⟩ (fun H locs hP hD hS => ?_)
        refine W.lcmp hx hb d_M_signal_47 ?_
        refine lv_if_eq (tgt := 61) hx hb d_M_signal_48 (by decide) (fun hc => ?_) (fun hc => ?_)
        · rw [br_p _ hc] at hf
          exact wb_M_signal_61 C0 hR N G hG _ _ hf H locs hP hD hS ls (lv_sub hl [] rfl)
        · rw [br_n _ hc] at hf
          exact wb_M_signal_51 C0 hR N G hG _ _ _ _ _ _ hf H locs hP hD hS ls (lv_sub hl [0, 1, 3, 4, 5] rfl)
    · rw [br_n _ hc] at hf
      refine lv_aload_n hx hb d_M_signal_20 rfl (lv_at hl 0 rfl) ?_
      refine lv_iload_n hx hb d_M_signal_21 rfl (lv_at hl 1 rfl) ?_
      refine lv_iconst (v := 0) hx hb d_M_signal_22 (by decide) ?_
      refine lv_iconst (v := 0) hx hb d_M_signal_23 (by decide) ?_
      refine lv_iload_n hx hb d_M_signal_24 rfl (lv_at hl 2 rfl) ?_
      refine lv_iload_n hx hb d_M_signal_25 rfl (lv_at hl 3 rfl) ?_
      refine lv_iload hx hb d_M_signal_26 (lv_at hl 4 rfl) ?_
      refine lv_lload hx hb d_M_signal_28 (lv_at hl 5 rfl) ?_
      obtain ⟨u3, r3, hc3, hf⟩ := bnd_some hf
      refine mV_v (As := [.int v1, .int 0, .int 0, .int v2, .int v3, .int v4, .long v5]) (rest := []) C0 hP hD hS (c_M_message N hM hc3) k_M_message hl_M_message hi_M_message hs_M_message hini_M rfl rfl hd_M_message rfl (rm_M_signal_M_message hR) hl.1 (Nat.le_of_ble_eq_true rfl) d_M_signal_30 rfl ⟨Nat.zero_le _, Nat.zero_le _⟩ (fun H locs hP hD hS => ?_)
      refine lv_goto (tgt := 61) hx hb d_M_signal_33 (by decide) ?_
      exact wb_M_signal_61 C0 hR N G hG _ _ hf H locs hP hD hS ls (lv_sub hl [] rfl)
  · rw [br_p _ hc] at hf
    exact mr_v C0 hP hD hS hf d_M_signal_10
def fm_M_signal (N : Nat) (u : MS) (v1 : Int32) (v2 : Int32) (v3 : Int32) (v4 : Int32) (v5 : Int64) : Option (MS × Unit) := fb_M_signal_0 N () u v1 v2 v3 v4 v5
set_option maxRecDepth 100000 in
set_option maxHeartbeats 4000000 in
theorem c_M_signal (N : Nat) {l : Launch} {D : va_G} {cl : List vw_C} {cB cI cJ cZ cS : ClassId} {iM h0 : Nat} {ad : Nat → Nat} {u : MS} {sz : Nat} {v1 : Int32} {v2 : Int32} {v3 : Int32} {v4 : Int32} {v5 : Int64} {x : MS × Unit} (hM : cl[iM]? = some (R_M, F_M, 171)) (hf : fm_M_signal N u v1 v2 v3 v4 v5 = some x) : Met l y_M_signal (wd_ws y_M_signal b_M_signal 7 none) rm_M_signal (mPc D cl cB cI cJ cZ cS iM h0 ad u sz [.ref h0, .int v1, .int v2, .int v3, .int v4, .long v5]) (mQv D cl cB cI cJ cZ cS iM h0 ad (mA cB cI cJ cZ cS iM h0 ad u sz) x) 0 0 (mA cB cI cJ cZ cS iM h0 ad u sz) :=
  mMet (by decide) rfl hM (Nat.le_of_ble_eq_true rfl) (fun p e s m below meth c ls hsz C0 hP hD hS hl => by
    have hR : rm_M_signal = rm_M_signal := rfl
    exact wb_M_signal_0 C0 hR N () trivial u _ _ _ _ _ x hf s.heap [] hP hD hS ls (lv_sub hl [0, 1, 2, 3, 4, 5] rfl))
abbrev b_M_removeWatch : ByteArray := prog_14_method_106_code
def y_M_removeWatch : MethodName := ⟨R_M, "removeWatch", "(I)V"⟩
def w_M_removeWatch : List Cond := wd_ws y_M_removeWatch b_M_removeWatch 3 none
set_option maxRecDepth 100000 in
theorem k_M_removeWatch : Cond.code y_M_removeWatch b_M_removeWatch 3 none ∈ wd_tbl := wd_of 3153 rfl rfl
theorem d_M_removeWatch_0 : decode b_M_removeWatch 0 = .ok (.aload_n 0, 1) := by decide +kernel
theorem d_M_removeWatch_1 : decode b_M_removeWatch 1 = .ok (.dup, 1) := by decide +kernel
theorem d_M_removeWatch_2 : decode b_M_removeWatch 2 = .ok (.getfield 757, 3) := by decide +kernel
theorem d_M_removeWatch_5 : decode b_M_removeWatch 5 = .ok (.iconst 1, 1) := by decide +kernel
theorem d_M_removeWatch_6 : decode b_M_removeWatch 6 = .ok (.isub, 1) := by decide +kernel
theorem d_M_removeWatch_7 : decode b_M_removeWatch 7 = .ok (.putfield 757, 3) := by decide +kernel
theorem d_M_removeWatch_10 : decode b_M_removeWatch 10 = .ok (.iload_n 1, 1) := by decide +kernel
theorem d_M_removeWatch_11 : decode b_M_removeWatch 11 = .ok (.istore_n 2, 1) := by decide +kernel
theorem d_M_removeWatch_12 : decode b_M_removeWatch 12 = .ok (.iload_n 2, 1) := by decide +kernel
theorem d_M_removeWatch_13 : decode b_M_removeWatch 13 = .ok (.aload_n 0, 1) := by decide +kernel
theorem d_M_removeWatch_14 : decode b_M_removeWatch 14 = .ok (.getfield 757, 3) := by decide +kernel
theorem d_M_removeWatch_17 : decode b_M_removeWatch 17 = .ok (.if_icmp .ge 51, 3) := by decide +kernel
theorem d_M_removeWatch_20 : decode b_M_removeWatch 20 = .ok (.aload_n 0, 1) := by decide +kernel
theorem d_M_removeWatch_21 : decode b_M_removeWatch 21 = .ok (.getfield 282, 3) := by decide +kernel
theorem d_M_removeWatch_24 : decode b_M_removeWatch 24 = .ok (.iload_n 2, 1) := by decide +kernel
theorem d_M_removeWatch_25 : decode b_M_removeWatch 25 = .ok (.aload_n 0, 1) := by decide +kernel
theorem d_M_removeWatch_26 : decode b_M_removeWatch 26 = .ok (.getfield 282, 3) := by decide +kernel
theorem d_M_removeWatch_29 : decode b_M_removeWatch 29 = .ok (.iload_n 2, 1) := by decide +kernel
theorem d_M_removeWatch_30 : decode b_M_removeWatch 30 = .ok (.iconst 1, 1) := by decide +kernel
theorem d_M_removeWatch_31 : decode b_M_removeWatch 31 = .ok (.iadd, 1) := by decide +kernel
theorem d_M_removeWatch_32 : decode b_M_removeWatch 32 = .ok (.iaload, 1) := by decide +kernel
theorem d_M_removeWatch_33 : decode b_M_removeWatch 33 = .ok (.iastore, 1) := by decide +kernel
theorem d_M_removeWatch_34 : decode b_M_removeWatch 34 = .ok (.aload_n 0, 1) := by decide +kernel
theorem d_M_removeWatch_35 : decode b_M_removeWatch 35 = .ok (.getfield 285, 3) := by decide +kernel
theorem d_M_removeWatch_38 : decode b_M_removeWatch 38 = .ok (.iload_n 2, 1) := by decide +kernel
theorem d_M_removeWatch_39 : decode b_M_removeWatch 39 = .ok (.aload_n 0, 1) := by decide +kernel
theorem d_M_removeWatch_40 : decode b_M_removeWatch 40 = .ok (.getfield 285, 3) := by decide +kernel
theorem d_M_removeWatch_43 : decode b_M_removeWatch 43 = .ok (.iload_n 2, 1) := by decide +kernel
theorem d_M_removeWatch_44 : decode b_M_removeWatch 44 = .ok (.iconst 1, 1) := by decide +kernel
theorem d_M_removeWatch_45 : decode b_M_removeWatch 45 = .ok (.iadd, 1) := by decide +kernel
theorem d_M_removeWatch_46 : decode b_M_removeWatch 46 = .ok (.iaload, 1) := by decide +kernel
theorem d_M_removeWatch_47 : decode b_M_removeWatch 47 = .ok (.iastore, 1) := by decide +kernel
theorem d_M_removeWatch_48 : decode b_M_removeWatch 48 = .ok (.aload_n 0, 1) := by decide +kernel
theorem d_M_removeWatch_49 : decode b_M_removeWatch 49 = .ok (.getfield 288, 3) := by decide +kernel
theorem d_M_removeWatch_52 : decode b_M_removeWatch 52 = .ok (.iload_n 2, 1) := by decide +kernel
theorem d_M_removeWatch_53 : decode b_M_removeWatch 53 = .ok (.aload_n 0, 1) := by decide +kernel
theorem d_M_removeWatch_54 : decode b_M_removeWatch 54 = .ok (.getfield 288, 3) := by decide +kernel
theorem d_M_removeWatch_57 : decode b_M_removeWatch 57 = .ok (.iload_n 2, 1) := by decide +kernel
theorem d_M_removeWatch_58 : decode b_M_removeWatch 58 = .ok (.iconst 1, 1) := by decide +kernel
theorem d_M_removeWatch_59 : decode b_M_removeWatch 59 = .ok (.iadd, 1) := by decide +kernel
theorem d_M_removeWatch_60 : decode b_M_removeWatch 60 = .ok (.iaload, 1) := by decide +kernel
theorem d_M_removeWatch_61 : decode b_M_removeWatch 61 = .ok (.iastore, 1) := by decide +kernel
theorem d_M_removeWatch_62 : decode b_M_removeWatch 62 = .ok (.iinc 2 1, 3) := by decide +kernel
theorem d_M_removeWatch_65 : decode b_M_removeWatch 65 = .ok (.goto (-53), 3) := by decide +kernel
theorem d_M_removeWatch_68 : decode b_M_removeWatch 68 = .ok (.return_, 1) := by decide +kernel
set_option maxRecDepth 100000 in
theorem hl_M_removeWatch : Cond.methodLink R_M 760 y_M_removeWatch ∈ wd_tbl := wd_of 3150 (by decide +kernel) rfl
set_option maxRecDepth 100000 in
theorem hi_M_removeWatch : Cond.instanceMethod y_M_removeWatch ∈ wd_tbl := wd_of 3152 (by decide +kernel) rfl
set_option maxRecDepth 100000 in
theorem hs_M_removeWatch : Cond.selects R_M y_M_removeWatch y_M_removeWatch ∈ wd_tbl := wd_of 242 (by decide +kernel) rfl
theorem hd_M_removeWatch : y_M_removeWatch.cls = R_M ∧ y_M_removeWatch.cls ≠ "java/lang/invoke/MethodHandle" ∧ y_M_removeWatch.cls ≠ "java/lang/invoke/VarHandle" ∧ (parseMethodDescriptor y_M_removeWatch.desc).map (fun d => d.parameters.length) = some 1 := by decide +kernel
def rm_M_removeWatch : Room := { frames := 0, cells := 0, slots := 0, locals := 0 }
def fb_M_removeWatch_12 (N : Nat) (G : (MS → Int32 → Option (MS × Unit))) (u : MS) (v2 : Int32) : Option (MS × Unit) := br (decide ((u.1 125) ≤ v2)) (some (u, ())) (ck (inb (v2 + 1) (ln 122)) (ck (inb v2 (ln 122)) (lt (upA u 122 (upd (u.2.2.1 122) v2.toNatClampNeg (u.2.2.1 122 (v2 + 1).toNatClampNeg))) (fun w1 => ck (inb (v2 + 1) (ln 123)) (ck (inb v2 (ln 123)) (lt (upA w1 123 (upd (w1.2.2.1 123) v2.toNatClampNeg (w1.2.2.1 123 (v2 + 1).toNatClampNeg))) (fun w2 => ck (inb (v2 + 1) (ln 124)) (ck (inb v2 (ln 124)) (lt (upA w2 124 (upd (w2.2.2.1 124) v2.toNatClampNeg (w2.2.2.1 124 (v2 + 1).toNatClampNeg))) (fun w3 => G w3 ((v2 + 1))))))))))))
set_option maxRecDepth 100000 in
set_option maxHeartbeats 4000000 in
theorem wb_M_removeWatch_12 {p : Program} {l : Launch} {e : Env} {R : Room} {s : State} {m : MethodId} {args : Array Value} {below : List Frame} {meth : Method} {c : Code} {D : va_G} {cl : List vw_C} {cB cI cJ cZ cS : ClassId} {A : Nat → Prop} {iM h0 : Nat} {ad : Nat → Nat} (C0 : MCx p s m args meth c b_M_removeWatch 3 none D cl cB cI cJ cZ cS iM A) (hR : R = rm_M_removeWatch) (N : Nat) (G : (MS → Int32 → Option (MS × Unit))) (hG : (∀ (u : MS) (v2 : Int32) (x : MS × Unit), G u v2 = some x → ∀ (H : Heap) (locs : List Loc), va_P D cl (wM cB cI cJ cZ cS iM h0 ad u) H → va_D A (wM cB cI cJ cZ cS iM h0 ad u) → va_S A s.heap H locs → ∀ (ls : Array Slot), lv_has ls 3 [(0, .ref h0), (2, .int v2)] → W p l e R s m args below meth c H locs 0 0 (MQ below (mQv D cl cB cI cJ cZ cS iM h0 ad A x) args s 0 0 A) (F0 m 12 ls []))) : ∀ (u : MS) (v2 : Int32) (x : MS × Unit), fb_M_removeWatch_12 N G u v2 = some x → ∀ (H : Heap) (locs : List Loc), va_P D cl (wM cB cI cJ cZ cS iM h0 ad u) H → va_D A (wM cB cI cJ cZ cS iM h0 ad u) → va_S A s.heap H locs → ∀ (ls : Array Slot), lv_has ls 3 [(0, .ref h0), (2, .int v2)] → W p l e R s m args below meth c H locs 0 0 (MQ below (mQv D cl cB cI cJ cZ cS iM h0 ad A x) args s 0 0 A) (F0 m 12 ls []) := by
  intro u v2 x hf H locs hP hD hS ls hl
  obtain ⟨hx, hb, hr, hml, ht, hown, hM, hK, hA, hlocks⟩ := id C0
  unfold fb_M_removeWatch_12 at hf
  refine lv_iload_n hx hb d_M_removeWatch_12 rfl (lv_at hl 1 rfl) ?_
  refine lv_aload_n hx hb d_M_removeWatch_13 rfl (lv_at hl 0 rfl) ?_
  refine ug_I hx hb ht hown hM hK hP 125 (by decide) lk_M_125 (by decide) d_M_removeWatch_14 ?_
  refine lv_icmp_ge (tgt := 68) hx hb d_M_removeWatch_17 (by decide) (fun hc => ?_) (fun hc => ?_)
  · rw [br_p _ hc] at hf
    exact mr_v C0 hP hD hS hf d_M_removeWatch_68
  · rw [br_n _ hc] at hf
    refine lv_aload_n hx hb d_M_removeWatch_20 rfl (lv_at hl 0 rfl) ?_
    refine ug_R hx hb ht hown hM hK hP 122 (by decide) lk_M_122 (by decide) d_M_removeWatch_21 ?_
    refine lv_iload_n hx hb d_M_removeWatch_24 rfl (lv_at hl 1 rfl) ?_
    refine lv_aload_n hx hb d_M_removeWatch_25 rfl (lv_at hl 0 rfl) ?_
    refine ug_R hx hb ht hown hM hK hP 122 (by decide) lk_M_122 (by decide) d_M_removeWatch_26 ?_
    refine lv_iload_n hx hb d_M_removeWatch_29 rfl (lv_at hl 1 rfl) ?_
    refine lv_iconst (v := 1) hx hb d_M_removeWatch_30 (by decide) ?_
    refine lv_iadd hx hb d_M_removeWatch_31 ?_
    obtain ⟨hi9, hf⟩ := ck_some hf
    refine ul_I hx hb hK hP (by decide) (by decide) hi9 d_M_removeWatch_32 ?_
    obtain ⟨hi9, hf⟩ := ck_some hf
    refine us_I hx hb hK hP hD hS (by decide) (by decide) hi9 d_M_removeWatch_33 (fun H locs hP hD hS => ?_)
    obtain ⟨w1, e1, hf⟩ := lt_some hf
    rw [← e1] at hP hD
    refine lv_aload_n hx hb d_M_removeWatch_34 rfl (lv_at hl 0 rfl) ?_
    refine ug_R hx hb ht hown hM hK hP 123 (by decide) lk_M_123 (by decide) d_M_removeWatch_35 ?_
    refine lv_iload_n hx hb d_M_removeWatch_38 rfl (lv_at hl 1 rfl) ?_
    refine lv_aload_n hx hb d_M_removeWatch_39 rfl (lv_at hl 0 rfl) ?_
    refine ug_R hx hb ht hown hM hK hP 123 (by decide) lk_M_123 (by decide) d_M_removeWatch_40 ?_
    refine lv_iload_n hx hb d_M_removeWatch_43 rfl (lv_at hl 1 rfl) ?_
    refine lv_iconst (v := 1) hx hb d_M_removeWatch_44 (by decide) ?_
    refine lv_iadd hx hb d_M_removeWatch_45 ?_
    obtain ⟨hi9, hf⟩ := ck_some hf
    refine ul_I hx hb hK hP (by decide) (by decide) hi9 d_M_removeWatch_46 ?_
    obtain ⟨hi9, hf⟩ := ck_some hf
    refine us_I hx hb hK hP hD hS (by decide) (by decide) hi9 d_M_removeWatch_47 (fun H locs hP hD hS => ?_)
    obtain ⟨w2, e2, hf⟩ := lt_some hf
    rw [← e2] at hP hD
    refine lv_aload_n hx hb d_M_removeWatch_48 rfl (lv_at hl 0 rfl) ?_
    refine ug_R hx hb ht hown hM hK hP 124 (by decide) lk_M_124 (by decide) d_M_removeWatch_49 ?_
    refine lv_iload_n hx hb d_M_removeWatch_52 rfl (lv_at hl 1 rfl) ?_
    refine lv_aload_n hx hb d_M_removeWatch_53 rfl (lv_at hl 0 rfl) ?_
    refine ug_R hx hb ht hown hM hK hP 124 (by decide) lk_M_124 (by decide) d_M_removeWatch_54 ?_
    refine lv_iload_n hx hb d_M_removeWatch_57 rfl (lv_at hl 1 rfl) ?_
    refine lv_iconst (v := 1) hx hb d_M_removeWatch_58 (by decide) ?_
    refine lv_iadd hx hb d_M_removeWatch_59 ?_
    obtain ⟨hi9, hf⟩ := ck_some hf
    refine ul_I hx hb hK hP (by decide) (by decide) hi9 d_M_removeWatch_60 ?_
    obtain ⟨hi9, hf⟩ := ck_some hf
    refine us_I hx hb hK hP hD hS (by decide) (by decide) hi9 d_M_removeWatch_61 (fun H locs hP hD hS => ?_)
    obtain ⟨w3, e3, hf⟩ := lt_some hf
    rw [← e3] at hP hD
    refine lv_iinc (v := (v2 + 1)) (lv' := [(2, .int (v2 + 1)), (0, .ref h0)]) hx hb d_M_removeWatch_62 hl (k := 1) rfl rfl (by decide) rfl (fun ls hl => ?_)
    refine lv_goto (tgt := 12) hx hb d_M_removeWatch_65 (by decide) ?_
    exact hG _ _ _ hf H locs hP hD hS ls (lv_sub hl [1, 0] rfl)
def fb_M_removeWatch_0 (N : Nat) (G : (MS → Int32 → Option (MS × Unit))) (u : MS) (v1 : Int32) : Option (MS × Unit) := lt (upI u 125 ((u.1 125) - 1)) (fun w4 => G w4 (v1))
set_option maxRecDepth 100000 in
set_option maxHeartbeats 4000000 in
theorem wb_M_removeWatch_0 {p : Program} {l : Launch} {e : Env} {R : Room} {s : State} {m : MethodId} {args : Array Value} {below : List Frame} {meth : Method} {c : Code} {D : va_G} {cl : List vw_C} {cB cI cJ cZ cS : ClassId} {A : Nat → Prop} {iM h0 : Nat} {ad : Nat → Nat} (C0 : MCx p s m args meth c b_M_removeWatch 3 none D cl cB cI cJ cZ cS iM A) (hR : R = rm_M_removeWatch) (N : Nat) (G : (MS → Int32 → Option (MS × Unit))) (hG : (∀ (u : MS) (v2 : Int32) (x : MS × Unit), G u v2 = some x → ∀ (H : Heap) (locs : List Loc), va_P D cl (wM cB cI cJ cZ cS iM h0 ad u) H → va_D A (wM cB cI cJ cZ cS iM h0 ad u) → va_S A s.heap H locs → ∀ (ls : Array Slot), lv_has ls 3 [(0, .ref h0), (2, .int v2)] → W p l e R s m args below meth c H locs 0 0 (MQ below (mQv D cl cB cI cJ cZ cS iM h0 ad A x) args s 0 0 A) (F0 m 12 ls []))) : ∀ (u : MS) (v1 : Int32) (x : MS × Unit), fb_M_removeWatch_0 N G u v1 = some x → ∀ (H : Heap) (locs : List Loc), va_P D cl (wM cB cI cJ cZ cS iM h0 ad u) H → va_D A (wM cB cI cJ cZ cS iM h0 ad u) → va_S A s.heap H locs → ∀ (ls : Array Slot), lv_has ls 3 [(0, .ref h0), (1, .int v1)] → W p l e R s m args below meth c H locs 0 0 (MQ below (mQv D cl cB cI cJ cZ cS iM h0 ad A x) args s 0 0 A) (F0 m 0 ls []) := by
  intro u v1 x hf H locs hP hD hS ls hl
  obtain ⟨hx, hb, hr, hml, ht, hown, hM, hK, hA, hlocks⟩ := id C0
  unfold fb_M_removeWatch_0 at hf
  refine lv_aload_n hx hb d_M_removeWatch_0 rfl (lv_at hl 0 rfl) ?_
  refine lv_dup hx hb d_M_removeWatch_1 rfl ?_
  refine ug_I hx hb ht hown hM hK hP 125 (by decide) lk_M_125 (by decide) d_M_removeWatch_2 ?_
  refine lv_iconst (v := 1) hx hb d_M_removeWatch_5 (by decide) ?_
  refine lv_isub hx hb d_M_removeWatch_6 ?_
  refine up_I hx hb ht hown hM hK hP hD hS 125 (by decide) lk_M_125 (by decide) rfl rfl rfl d_M_removeWatch_7 (fun H locs hP hD hS => ?_)
  obtain ⟨w4, e4, hf⟩ := lt_some hf
  rw [← e4] at hP hD
  refine lv_iload_n hx hb d_M_removeWatch_10 rfl (lv_at hl 1 rfl) ?_
  refine lv_istore_n (lv' := [(2, .int v1), (0, .ref h0), (1, .int v1)]) hx hb d_M_removeWatch_11 rfl hl (by decide) rfl (fun ls hl => ?_)
  exact hG _ _ _ hf H locs hP hD hS ls (lv_sub hl [1, 0] rfl)
def gg_M_removeWatch (N : Nat) : Nat → ((MS → Int32 → Option (MS × Unit)))
  | 0 => fun _ _ => none
  | n + 1 => fb_M_removeWatch_12 N (gg_M_removeWatch N n)
theorem wg_M_removeWatch {p : Program} {l : Launch} {e : Env} {R : Room} {s : State} {m : MethodId} {args : Array Value} {below : List Frame} {meth : Method} {c : Code} {D : va_G} {cl : List vw_C} {cB cI cJ cZ cS : ClassId} {A : Nat → Prop} {iM h0 : Nat} {ad : Nat → Nat} (C0 : MCx p s m args meth c b_M_removeWatch 3 none D cl cB cI cJ cZ cS iM A) (hR : R = rm_M_removeWatch) (N : Nat) : ∀ n : Nat, (∀ (u : MS) (v2 : Int32) (x : MS × Unit), gg_M_removeWatch N n u v2 = some x → ∀ (H : Heap) (locs : List Loc), va_P D cl (wM cB cI cJ cZ cS iM h0 ad u) H → va_D A (wM cB cI cJ cZ cS iM h0 ad u) → va_S A s.heap H locs → ∀ (ls : Array Slot), lv_has ls 3 [(0, .ref h0), (2, .int v2)] → W p l e R s m args below meth c H locs 0 0 (MQ below (mQv D cl cB cI cJ cZ cS iM h0 ad A x) args s 0 0 A) (F0 m 12 ls []))
  | 0 => (fun u v2 x hf => by cases hf)
  | n + 1 => wb_M_removeWatch_12 C0 hR N (gg_M_removeWatch N n) (wg_M_removeWatch C0 hR N n)
def fm_M_removeWatch (N : Nat) (u : MS) (v1 : Int32) : Option (MS × Unit) := fb_M_removeWatch_0 N (gg_M_removeWatch N N) u v1
set_option maxRecDepth 100000 in
set_option maxHeartbeats 4000000 in
theorem c_M_removeWatch (N : Nat) {l : Launch} {D : va_G} {cl : List vw_C} {cB cI cJ cZ cS : ClassId} {iM h0 : Nat} {ad : Nat → Nat} {u : MS} {sz : Nat} {v1 : Int32} {x : MS × Unit} (hM : cl[iM]? = some (R_M, F_M, 171)) (hf : fm_M_removeWatch N u v1 = some x) : Met l y_M_removeWatch (wd_ws y_M_removeWatch b_M_removeWatch 3 none) rm_M_removeWatch (mPc D cl cB cI cJ cZ cS iM h0 ad u sz [.ref h0, .int v1]) (mQv D cl cB cI cJ cZ cS iM h0 ad (mA cB cI cJ cZ cS iM h0 ad u sz) x) 0 0 (mA cB cI cJ cZ cS iM h0 ad u sz) :=
  mMet (by decide) rfl hM (Nat.le_of_ble_eq_true rfl) (fun p e s m below meth c ls hsz C0 hP hD hS hl => by
    have hR : rm_M_removeWatch = rm_M_removeWatch := rfl
    exact wb_M_removeWatch_0 C0 hR N (gg_M_removeWatch N N) (wg_M_removeWatch C0 hR N N) u _ x hf s.heap [] hP hD hS ls (lv_sub hl [0, 1] rfl))
abbrev b_M_end : ByteArray := prog_14_method_104_code
def y_M_end : MethodName := ⟨R_M, "end", "(IIIJ)V"⟩
def w_M_end : List Cond := wd_ws y_M_end b_M_end 9 none
set_option maxRecDepth 100000 in
theorem k_M_end : Cond.code y_M_end b_M_end 9 none ∈ wd_tbl := wd_of 3241 rfl rfl
theorem d_M_end_0 : decode b_M_end 0 = .ok (.aload_n 0, 1) := by decide +kernel
theorem d_M_end_1 : decode b_M_end 1 = .ok (.iconst 0, 1) := by decide +kernel
theorem d_M_end_2 : decode b_M_end 2 = .ok (.putfield 724, 3) := by decide +kernel
theorem d_M_end_5 : decode b_M_end 5 = .ok (.iload_n 2, 1) := by decide +kernel
theorem d_M_end_6 : decode b_M_end 6 = .ok (.ifCond .le 36, 3) := by decide +kernel
theorem d_M_end_9 : decode b_M_end 9 = .ok (.aload_n 0, 1) := by decide +kernel
theorem d_M_end_10 : decode b_M_end 10 = .ok (.bipush 123, 2) := by decide +kernel
theorem d_M_end_12 : decode b_M_end 12 = .ok (.invokevirtual 727, 3) := by decide +kernel
theorem d_M_end_15 : decode b_M_end 15 = .ok (.aload_n 0, 1) := by decide +kernel
theorem d_M_end_16 : decode b_M_end 16 = .ok (.iload_n 1, 1) := by decide +kernel
theorem d_M_end_17 : decode b_M_end 17 = .ok (.iconst 1, 1) := by decide +kernel
theorem d_M_end_18 : decode b_M_end 18 = .ok (.iload_n 2, 1) := by decide +kernel
theorem d_M_end_19 : decode b_M_end 19 = .ok (.iconst 1, 1) := by decide +kernel
theorem d_M_end_20 : decode b_M_end 20 = .ok (.if_icmp .ne 8, 3) := by decide +kernel
theorem d_M_end_23 : decode b_M_end 23 = .ok (.bipush 7, 2) := by decide +kernel
theorem d_M_end_25 : decode b_M_end 25 = .ok (.goto 5, 3) := by decide +kernel
theorem d_M_end_28 : decode b_M_end 28 = .ok (.bipush 19, 2) := by decide +kernel
theorem d_M_end_30 : decode b_M_end 30 = .ok (.invokestatic 315, 3) := by decide +kernel
theorem d_M_end_33 : decode b_M_end 33 = .ok (.invokevirtual 730, 3) := by decide +kernel
theorem d_M_end_36 : decode b_M_end 36 = .ok (.aload_n 0, 1) := by decide +kernel
theorem d_M_end_37 : decode b_M_end 37 = .ok (.bipush 44, 2) := by decide +kernel
theorem d_M_end_39 : decode b_M_end 39 = .ok (.invokevirtual 727, 3) := by decide +kernel
theorem d_M_end_42 : decode b_M_end 42 = .ok (.aload_n 0, 1) := by decide +kernel
theorem d_M_end_43 : decode b_M_end 43 = .ok (.iload_n 3, 1) := by decide +kernel
theorem d_M_end_44 : decode b_M_end 44 = .ok (.lload 4, 2) := by decide +kernel
theorem d_M_end_46 : decode b_M_end 46 = .ok (.invokevirtual 730, 3) := by decide +kernel
theorem d_M_end_49 : decode b_M_end 49 = .ok (.iload_n 2, 1) := by decide +kernel
theorem d_M_end_50 : decode b_M_end 50 = .ok (.ifCond .le 9, 3) := by decide +kernel
theorem d_M_end_53 : decode b_M_end 53 = .ok (.aload_n 0, 1) := by decide +kernel
theorem d_M_end_54 : decode b_M_end 54 = .ok (.bipush 125, 2) := by decide +kernel
theorem d_M_end_56 : decode b_M_end 56 = .ok (.invokevirtual 727, 3) := by decide +kernel
theorem d_M_end_59 : decode b_M_end 59 = .ok (.aload_n 0, 1) := by decide +kernel
theorem d_M_end_60 : decode b_M_end 60 = .ok (.getfield 303, 3) := by decide +kernel
theorem d_M_end_63 : decode b_M_end 63 = .ok (.iload_n 1, 1) := by decide +kernel
theorem d_M_end_64 : decode b_M_end 64 = .ok (.aload_n 0, 1) := by decide +kernel
theorem d_M_end_65 : decode b_M_end 65 = .ok (.getfield 724, 3) := by decide +kernel
theorem d_M_end_68 : decode b_M_end 68 = .ok (.bipush 100, 2) := by decide +kernel
theorem d_M_end_70 : decode b_M_end 70 = .ok (.if_icmp .le 8, 3) := by decide +kernel
theorem d_M_end_73 : decode b_M_end 73 = .ok (.bipush 100, 2) := by decide +kernel
theorem d_M_end_75 : decode b_M_end 75 = .ok (.goto 7, 3) := by decide +kernel
theorem d_M_end_78 : decode b_M_end 78 = .ok (.aload_n 0, 1) := by decide +kernel
theorem d_M_end_79 : decode b_M_end 79 = .ok (.getfield 724, 3) := by decide +kernel
theorem d_M_end_82 : decode b_M_end 82 = .ok (.iastore, 1) := by decide +kernel
theorem d_M_end_83 : decode b_M_end 83 = .ok (.iconst 0, 1) := by decide +kernel
theorem d_M_end_84 : decode b_M_end 84 = .ok (.istore 6, 2) := by decide +kernel
theorem d_M_end_86 : decode b_M_end 86 = .ok (.iload 6, 2) := by decide +kernel
theorem d_M_end_88 : decode b_M_end 88 = .ok (.aload_n 0, 1) := by decide +kernel
theorem d_M_end_89 : decode b_M_end 89 = .ok (.getfield 303, 3) := by decide +kernel
theorem d_M_end_92 : decode b_M_end 92 = .ok (.iload_n 1, 1) := by decide +kernel
theorem d_M_end_93 : decode b_M_end 93 = .ok (.iaload, 1) := by decide +kernel
theorem d_M_end_94 : decode b_M_end 94 = .ok (.if_icmp .ge 28, 3) := by decide +kernel
theorem d_M_end_97 : decode b_M_end 97 = .ok (.aload_n 0, 1) := by decide +kernel
theorem d_M_end_98 : decode b_M_end 98 = .ok (.getfield 300, 3) := by decide +kernel
theorem d_M_end_101 : decode b_M_end 101 = .ok (.bipush 100, 2) := by decide +kernel
theorem d_M_end_103 : decode b_M_end 103 = .ok (.iload_n 1, 1) := by decide +kernel
theorem d_M_end_104 : decode b_M_end 104 = .ok (.imul, 1) := by decide +kernel
theorem d_M_end_105 : decode b_M_end 105 = .ok (.iload 6, 2) := by decide +kernel
theorem d_M_end_107 : decode b_M_end 107 = .ok (.iadd, 1) := by decide +kernel
theorem d_M_end_108 : decode b_M_end 108 = .ok (.aload_n 0, 1) := by decide +kernel
theorem d_M_end_109 : decode b_M_end 109 = .ok (.getfield 333, 3) := by decide +kernel
theorem d_M_end_112 : decode b_M_end 112 = .ok (.iload 6, 2) := by decide +kernel
theorem d_M_end_114 : decode b_M_end 114 = .ok (.baload, 1) := by decide +kernel
theorem d_M_end_115 : decode b_M_end 115 = .ok (.bastore, 1) := by decide +kernel
theorem d_M_end_116 : decode b_M_end 116 = .ok (.iinc 6 1, 3) := by decide +kernel
theorem d_M_end_119 : decode b_M_end 119 = .ok (.goto (-33), 3) := by decide +kernel
theorem d_M_end_122 : decode b_M_end 122 = .ok (.aload_n 0, 1) := by decide +kernel
theorem d_M_end_123 : decode b_M_end 123 = .ok (.getfield 267, 3) := by decide +kernel
theorem d_M_end_126 : decode b_M_end 126 = .ok (.iload_n 1, 1) := by decide +kernel
theorem d_M_end_127 : decode b_M_end 127 = .ok (.iconst (-1), 1) := by decide +kernel
theorem d_M_end_128 : decode b_M_end 128 = .ok (.iastore, 1) := by decide +kernel
theorem d_M_end_129 : decode b_M_end 129 = .ok (.aload_n 0, 1) := by decide +kernel
theorem d_M_end_130 : decode b_M_end 130 = .ok (.getfield 279, 3) := by decide +kernel
theorem d_M_end_133 : decode b_M_end 133 = .ok (.iload_n 1, 1) := by decide +kernel
theorem d_M_end_134 : decode b_M_end 134 = .ok (.iaload, 1) := by decide +kernel
theorem d_M_end_135 : decode b_M_end 135 = .ok (.ifCond .le 42, 3) := by decide +kernel
theorem d_M_end_138 : decode b_M_end 138 = .ok (.aload_n 0, 1) := by decide +kernel
theorem d_M_end_139 : decode b_M_end 139 = .ok (.getfield 276, 3) := by decide +kernel
theorem d_M_end_142 : decode b_M_end 142 = .ok (.bipush 24, 2) := by decide +kernel
theorem d_M_end_144 : decode b_M_end 144 = .ok (.iload_n 1, 1) := by decide +kernel
theorem d_M_end_145 : decode b_M_end 145 = .ok (.imul, 1) := by decide +kernel
theorem d_M_end_146 : decode b_M_end 146 = .ok (.iaload, 1) := by decide +kernel
theorem d_M_end_147 : decode b_M_end 147 = .ok (.istore 6, 2) := by decide +kernel
theorem d_M_end_149 : decode b_M_end 149 = .ok (.aload_n 0, 1) := by decide +kernel
theorem d_M_end_150 : decode b_M_end 150 = .ok (.iload_n 1, 1) := by decide +kernel
theorem d_M_end_151 : decode b_M_end 151 = .ok (.iload 6, 2) := by decide +kernel
theorem d_M_end_153 : decode b_M_end 153 = .ok (.invokevirtual 750, 3) := by decide +kernel
theorem d_M_end_156 : decode b_M_end 156 = .ok (.aload_n 0, 1) := by decide +kernel
theorem d_M_end_157 : decode b_M_end 157 = .ok (.iload 6, 2) := by decide +kernel
theorem d_M_end_159 : decode b_M_end 159 = .ok (.iload_n 1, 1) := by decide +kernel
theorem d_M_end_160 : decode b_M_end 160 = .ok (.invokevirtual 750, 3) := by decide +kernel
theorem d_M_end_163 : decode b_M_end 163 = .ok (.aload_n 0, 1) := by decide +kernel
theorem d_M_end_164 : decode b_M_end 164 = .ok (.iload 6, 2) := by decide +kernel
theorem d_M_end_166 : decode b_M_end 166 = .ok (.iload_n 1, 1) := by decide +kernel
theorem d_M_end_167 : decode b_M_end 167 = .ok (.iload_n 2, 1) := by decide +kernel
theorem d_M_end_168 : decode b_M_end 168 = .ok (.iload_n 3, 1) := by decide +kernel
theorem d_M_end_169 : decode b_M_end 169 = .ok (.lload 4, 2) := by decide +kernel
theorem d_M_end_171 : decode b_M_end 171 = .ok (.invokevirtual 753, 3) := by decide +kernel
theorem d_M_end_174 : decode b_M_end 174 = .ok (.goto (-45), 3) := by decide +kernel
theorem d_M_end_177 : decode b_M_end 177 = .ok (.iconst 0, 1) := by decide +kernel
theorem d_M_end_178 : decode b_M_end 178 = .ok (.istore 6, 2) := by decide +kernel
theorem d_M_end_180 : decode b_M_end 180 = .ok (.iload 6, 2) := by decide +kernel
theorem d_M_end_182 : decode b_M_end 182 = .ok (.aload_n 0, 1) := by decide +kernel
theorem d_M_end_183 : decode b_M_end 183 = .ok (.getfield 757, 3) := by decide +kernel
theorem d_M_end_186 : decode b_M_end 186 = .ok (.if_icmp .ge 61, 3) := by decide +kernel
theorem d_M_end_189 : decode b_M_end 189 = .ok (.aload_n 0, 1) := by decide +kernel
theorem d_M_end_190 : decode b_M_end 190 = .ok (.getfield 288, 3) := by decide +kernel
theorem d_M_end_193 : decode b_M_end 193 = .ok (.iload 6, 2) := by decide +kernel
theorem d_M_end_195 : decode b_M_end 195 = .ok (.iaload, 1) := by decide +kernel
theorem d_M_end_196 : decode b_M_end 196 = .ok (.iload_n 1, 1) := by decide +kernel
theorem d_M_end_197 : decode b_M_end 197 = .ok (.if_icmp .ne 44, 3) := by decide +kernel
theorem d_M_end_200 : decode b_M_end 200 = .ok (.aload_n 0, 1) := by decide +kernel
theorem d_M_end_201 : decode b_M_end 201 = .ok (.getfield 285, 3) := by decide +kernel
theorem d_M_end_204 : decode b_M_end 204 = .ok (.iload 6, 2) := by decide +kernel
theorem d_M_end_206 : decode b_M_end 206 = .ok (.iaload, 1) := by decide +kernel
theorem d_M_end_207 : decode b_M_end 207 = .ok (.istore 7, 2) := by decide +kernel
theorem d_M_end_209 : decode b_M_end 209 = .ok (.aload_n 0, 1) := by decide +kernel
theorem d_M_end_210 : decode b_M_end 210 = .ok (.getfield 282, 3) := by decide +kernel
theorem d_M_end_213 : decode b_M_end 213 = .ok (.iload 6, 2) := by decide +kernel
theorem d_M_end_215 : decode b_M_end 215 = .ok (.iaload, 1) := by decide +kernel
theorem d_M_end_216 : decode b_M_end 216 = .ok (.istore 8, 2) := by decide +kernel
theorem d_M_end_218 : decode b_M_end 218 = .ok (.aload_n 0, 1) := by decide +kernel
theorem d_M_end_219 : decode b_M_end 219 = .ok (.iload 6, 2) := by decide +kernel
theorem d_M_end_221 : decode b_M_end 221 = .ok (.invokevirtual 760, 3) := by decide +kernel
theorem d_M_end_224 : decode b_M_end 224 = .ok (.aload_n 0, 1) := by decide +kernel
theorem d_M_end_225 : decode b_M_end 225 = .ok (.iload 7, 2) := by decide +kernel
theorem d_M_end_227 : decode b_M_end 227 = .ok (.iconst 1, 1) := by decide +kernel
theorem d_M_end_228 : decode b_M_end 228 = .ok (.iload 8, 2) := by decide +kernel
theorem d_M_end_230 : decode b_M_end 230 = .ok (.iload_n 1, 1) := by decide +kernel
theorem d_M_end_231 : decode b_M_end 231 = .ok (.iload_n 2, 1) := by decide +kernel
theorem d_M_end_232 : decode b_M_end 232 = .ok (.iload_n 3, 1) := by decide +kernel
theorem d_M_end_233 : decode b_M_end 233 = .ok (.lload 4, 2) := by decide +kernel
theorem d_M_end_235 : decode b_M_end 235 = .ok (.invokevirtual 763, 3) := by decide +kernel
theorem d_M_end_238 : decode b_M_end 238 = .ok (.goto (-58), 3) := by decide +kernel
theorem d_M_end_241 : decode b_M_end 241 = .ok (.iinc 6 1, 3) := by decide +kernel
theorem d_M_end_244 : decode b_M_end 244 = .ok (.goto (-64), 3) := by decide +kernel
theorem d_M_end_247 : decode b_M_end 247 = .ok (.iconst 0, 1) := by decide +kernel
theorem d_M_end_248 : decode b_M_end 248 = .ok (.istore 6, 2) := by decide +kernel
theorem d_M_end_250 : decode b_M_end 250 = .ok (.iload 6, 2) := by decide +kernel
theorem d_M_end_252 : decode b_M_end 252 = .ok (.aload_n 0, 1) := by decide +kernel
theorem d_M_end_253 : decode b_M_end 253 = .ok (.getfield 757, 3) := by decide +kernel
theorem d_M_end_256 : decode b_M_end 256 = .ok (.if_icmp .ge 29, 3) := by decide +kernel
theorem d_M_end_259 : decode b_M_end 259 = .ok (.aload_n 0, 1) := by decide +kernel
theorem d_M_end_260 : decode b_M_end 260 = .ok (.getfield 285, 3) := by decide +kernel
theorem d_M_end_263 : decode b_M_end 263 = .ok (.iload 6, 2) := by decide +kernel
theorem d_M_end_265 : decode b_M_end 265 = .ok (.iaload, 1) := by decide +kernel
theorem d_M_end_266 : decode b_M_end 266 = .ok (.iload_n 1, 1) := by decide +kernel
theorem d_M_end_267 : decode b_M_end 267 = .ok (.if_icmp .ne 12, 3) := by decide +kernel
theorem d_M_end_270 : decode b_M_end 270 = .ok (.aload_n 0, 1) := by decide +kernel
theorem d_M_end_271 : decode b_M_end 271 = .ok (.iload 6, 2) := by decide +kernel
theorem d_M_end_273 : decode b_M_end 273 = .ok (.invokevirtual 760, 3) := by decide +kernel
theorem d_M_end_276 : decode b_M_end 276 = .ok (.goto (-26), 3) := by decide +kernel
theorem d_M_end_279 : decode b_M_end 279 = .ok (.iinc 6 1, 3) := by decide +kernel
theorem d_M_end_282 : decode b_M_end 282 = .ok (.goto (-32), 3) := by decide +kernel
theorem d_M_end_285 : decode b_M_end 285 = .ok (.return_, 1) := by decide +kernel
set_option maxRecDepth 100000 in
theorem hl_M_end : Cond.methodLink R_M 746 y_M_end ∈ wd_tbl := wd_of 3238 (by decide +kernel) rfl
set_option maxRecDepth 100000 in
theorem hi_M_end : Cond.instanceMethod y_M_end ∈ wd_tbl := wd_of 3240 (by decide +kernel) rfl
set_option maxRecDepth 100000 in
theorem hs_M_end : Cond.selects R_M y_M_end y_M_end ∈ wd_tbl := wd_of 264 (by decide +kernel) rfl
theorem hd_M_end : y_M_end.cls = R_M ∧ y_M_end.cls ≠ "java/lang/invoke/MethodHandle" ∧ y_M_end.cls ≠ "java/lang/invoke/VarHandle" ∧ (parseMethodDescriptor y_M_end.desc).map (fun d => d.parameters.length) = some 4 := by decide +kernel
def rm_M_end : Room := { frames := 7, cells := 0, slots := 0, locals := 186 }
theorem rm_M_end_M_sign {R : Room} (hR : R = rm_M_end) : (rm_M_sign).frames + 1 ≤ R.frames ∧ 8 + (2 + 11) + (rm_M_sign).locals ≤ R.locals := by subst hR; decide
theorem rm_M_end_M_term {R : Room} (hR : R = rm_M_end) : (rm_M_term).frames + 1 ≤ R.frames ∧ 8 + (2 + 11) + (rm_M_term).locals ≤ R.locals := by subst hR; decide
theorem rm_M_end_M_writeOn {R : Room} (hR : R = rm_M_end) : (rm_M_writeOn).frames + 1 ≤ R.frames ∧ 8 + (10 + 11) + (rm_M_writeOn).locals ≤ R.locals := by subst hR; decide
theorem rm_M_end_M_removeLink {R : Room} (hR : R = rm_M_end) : (rm_M_removeLink).frames + 1 ≤ R.frames ∧ 8 + (5 + 11) + (rm_M_removeLink).locals ≤ R.locals := by subst hR; decide
theorem rm_M_end_M_signal {R : Room} (hR : R = rm_M_end) : (rm_M_signal).frames + 1 ≤ R.frames ∧ 8 + (7 + 11) + (rm_M_signal).locals ≤ R.locals := by subst hR; decide
theorem rm_M_end_M_removeWatch {R : Room} (hR : R = rm_M_end) : (rm_M_removeWatch).frames + 1 ≤ R.frames ∧ 8 + (3 + 11) + (rm_M_removeWatch).locals ≤ R.locals := by subst hR; decide
theorem rm_M_end_M_message {R : Room} (hR : R = rm_M_end) : (rm_M_message).frames + 1 ≤ R.frames ∧ 8 + (18 + 11) + (rm_M_message).locals ≤ R.locals := by subst hR; decide
def fb_M_end_250 (N : Nat) (G : (MS → Int32 → Int32 → Int32 → Int64 → Int32 → Option (MS × Unit)) × (MS → Int32 → Int32 → Int32 → Int64 → Option (MS × Unit)) × (MS → Int32 → Int32 → Int32 → Int64 → Int32 → Option (MS × Unit)) × (MS → Int32 → Int32 → Option (MS × Unit))) (u : MS) (v1 : Int32) (v6 : Int32) : Option (MS × Unit) := br (decide ((u.1 125) ≤ v6)) (some (u, ())) (ck (inb v6 (ln 123)) (br (decide ((u.2.2.1 123 v6.toNatClampNeg) = v1)) (bnd (fm_M_removeWatch N u v6) (fun u1 _ => G.2.2.2 u1 (v1) (v6))) (G.2.2.2 u (v1) ((v6 + 1)))))
set_option maxRecDepth 100000 in
set_option maxHeartbeats 4000000 in
theorem wb_M_end_250 {p : Program} {l : Launch} {e : Env} {R : Room} {s : State} {m : MethodId} {args : Array Value} {below : List Frame} {meth : Method} {c : Code} {D : va_G} {cl : List vw_C} {cB cI cJ cZ cS : ClassId} {A : Nat → Prop} {iM h0 : Nat} {ad : Nat → Nat} (C0 : MCx p s m args meth c b_M_end 9 none D cl cB cI cJ cZ cS iM A) (hR : R = rm_M_end) (N : Nat) (G : (MS → Int32 → Int32 → Int32 → Int64 → Int32 → Option (MS × Unit)) × (MS → Int32 → Int32 → Int32 → Int64 → Option (MS × Unit)) × (MS → Int32 → Int32 → Int32 → Int64 → Int32 → Option (MS × Unit)) × (MS → Int32 → Int32 → Option (MS × Unit))) (hG : (∀ (u : MS) (v1 : Int32) (v2 : Int32) (v3 : Int32) (v4 : Int64) (v6 : Int32) (x : MS × Unit), G.1 u v1 v2 v3 v4 v6 = some x → ∀ (H : Heap) (locs : List Loc), va_P D cl (wM cB cI cJ cZ cS iM h0 ad u) H → va_D A (wM cB cI cJ cZ cS iM h0 ad u) → va_S A s.heap H locs → ∀ (ls : Array Slot), lv_has ls 9 [(0, .ref h0), (1, .int v1), (2, .int v2), (3, .int v3), (4, .long v4), (6, .int v6)] → W p l e R s m args below meth c H locs 0 0 (MQ below (mQv D cl cB cI cJ cZ cS iM h0 ad A x) args s 0 0 A) (F0 m 86 ls [])) ∧ (∀ (u : MS) (v1 : Int32) (v2 : Int32) (v3 : Int32) (v4 : Int64) (x : MS × Unit), G.2.1 u v1 v2 v3 v4 = some x → ∀ (H : Heap) (locs : List Loc), va_P D cl (wM cB cI cJ cZ cS iM h0 ad u) H → va_D A (wM cB cI cJ cZ cS iM h0 ad u) → va_S A s.heap H locs → ∀ (ls : Array Slot), lv_has ls 9 [(0, .ref h0), (1, .int v1), (2, .int v2), (3, .int v3), (4, .long v4)] → W p l e R s m args below meth c H locs 0 0 (MQ below (mQv D cl cB cI cJ cZ cS iM h0 ad A x) args s 0 0 A) (F0 m 129 ls [])) ∧ (∀ (u : MS) (v1 : Int32) (v2 : Int32) (v3 : Int32) (v4 : Int64) (v6 : Int32) (x : MS × Unit), G.2.2.1 u v1 v2 v3 v4 v6 = some x → ∀ (H : Heap) (locs : List Loc), va_P D cl (wM cB cI cJ cZ cS iM h0 ad u) H → va_D A (wM cB cI cJ cZ cS iM h0 ad u) → va_S A s.heap H locs → ∀ (ls : Array Slot), lv_has ls 9 [(0, .ref h0), (1, .int v1), (2, .int v2), (3, .int v3), (4, .long v4), (6, .int v6)] → W p l e R s m args below meth c H locs 0 0 (MQ below (mQv D cl cB cI cJ cZ cS iM h0 ad A x) args s 0 0 A) (F0 m 180 ls [])) ∧ (∀ (u : MS) (v1 : Int32) (v6 : Int32) (x : MS × Unit), G.2.2.2 u v1 v6 = some x → ∀ (H : Heap) (locs : List Loc), va_P D cl (wM cB cI cJ cZ cS iM h0 ad u) H → va_D A (wM cB cI cJ cZ cS iM h0 ad u) → va_S A s.heap H locs → ∀ (ls : Array Slot), lv_has ls 9 [(0, .ref h0), (1, .int v1), (6, .int v6)] → W p l e R s m args below meth c H locs 0 0 (MQ below (mQv D cl cB cI cJ cZ cS iM h0 ad A x) args s 0 0 A) (F0 m 250 ls []))) : ∀ (u : MS) (v1 : Int32) (v6 : Int32) (x : MS × Unit), fb_M_end_250 N G u v1 v6 = some x → ∀ (H : Heap) (locs : List Loc), va_P D cl (wM cB cI cJ cZ cS iM h0 ad u) H → va_D A (wM cB cI cJ cZ cS iM h0 ad u) → va_S A s.heap H locs → ∀ (ls : Array Slot), lv_has ls 9 [(0, .ref h0), (1, .int v1), (6, .int v6)] → W p l e R s m args below meth c H locs 0 0 (MQ below (mQv D cl cB cI cJ cZ cS iM h0 ad A x) args s 0 0 A) (F0 m 250 ls []) := by
  intro u v1 v6 x hf H locs hP hD hS ls hl
  obtain ⟨hx, hb, hr, hml, ht, hown, hM, hK, hA, hlocks⟩ := id C0
  unfold fb_M_end_250 at hf
  refine lv_iload hx hb d_M_end_250 (lv_at hl 2 rfl) ?_
  refine lv_aload_n hx hb d_M_end_252 rfl (lv_at hl 0 rfl) ?_
  refine ug_I hx hb ht hown hM hK hP 125 (by decide) lk_M_125 (by decide) d_M_end_253 ?_
  refine lv_icmp_ge (tgt := 285) hx hb d_M_end_256 (by decide) (fun hc => ?_) (fun hc => ?_)
  · rw [br_p _ hc] at hf
    exact mr_v C0 hP hD hS hf d_M_end_285
  · rw [br_n _ hc] at hf
    refine lv_aload_n hx hb d_M_end_259 rfl (lv_at hl 0 rfl) ?_
    refine ug_R hx hb ht hown hM hK hP 123 (by decide) lk_M_123 (by decide) d_M_end_260 ?_
    refine lv_iload hx hb d_M_end_263 (lv_at hl 2 rfl) ?_
    obtain ⟨hi9, hf⟩ := ck_some hf
    refine ul_I hx hb hK hP (by decide) (by decide) hi9 d_M_end_265 ?_
    refine lv_iload_n hx hb d_M_end_266 rfl (lv_at hl 1 rfl) ?_
    refine lv_icmp_ne (tgt := 279) hx hb d_M_end_267 (by decide) (fun hc => ?_) (fun hc => ?_)
    · rw [br_n _ hc] at hf
      refine lv_iinc (v := (v6 + 1)) (lv' := [(6, .int (v6 + 1)), (0, .ref h0), (1, .int v1)]) hx hb d_M_end_279 hl (k := 2) rfl rfl (by decide) rfl (fun ls hl => ?_)
      refine lv_goto (tgt := 250) hx hb d_M_end_282 (by decide) ?_
      exact hG.2.2.2 _ _ _ _ hf H locs hP hD hS ls (lv_sub hl [1, 2, 0] rfl)
    · rw [br_p _ hc] at hf
      refine lv_aload_n hx hb d_M_end_270 rfl (lv_at hl 0 rfl) ?_
      refine lv_iload hx hb d_M_end_271 (lv_at hl 2 rfl) ?_
      obtain ⟨u1, r1, hc1, hf⟩ := bnd_some hf
      refine mV_v (As := [.int v6]) (rest := []) C0 hP hD hS (c_M_removeWatch N hM hc1) k_M_removeWatch hl_M_removeWatch hi_M_removeWatch hs_M_removeWatch hini_M rfl rfl hd_M_removeWatch rfl (rm_M_end_M_removeWatch hR) hl.1 (Nat.le_of_ble_eq_true rfl) d_M_end_273 rfl ⟨Nat.zero_le _, Nat.zero_le _⟩ (fun H locs hP hD hS => ?_)
      refine lv_goto (tgt := 250) hx hb d_M_end_276 (by decide) ?_
      exact hG.2.2.2 _ _ _ _ hf H locs hP hD hS ls (lv_sub hl [0, 1, 2] rfl)
def fb_M_end_180 (N : Nat) (G : (MS → Int32 → Int32 → Int32 → Int64 → Int32 → Option (MS × Unit)) × (MS → Int32 → Int32 → Int32 → Int64 → Option (MS × Unit)) × (MS → Int32 → Int32 → Int32 → Int64 → Int32 → Option (MS × Unit)) × (MS → Int32 → Int32 → Option (MS × Unit))) (u : MS) (v1 : Int32) (v2 : Int32) (v3 : Int32) (v4 : Int64) (v6 : Int32) : Option (MS × Unit) := br (decide ((u.1 125) ≤ v6)) (G.2.2.2 u (v1) (0)) (ck (inb v6 (ln 124)) (br (decide ((u.2.2.1 124 v6.toNatClampNeg) = v1)) (ck (inb v6 (ln 123)) (ck (inb v6 (ln 122)) (bnd (fm_M_removeWatch N u v6) (fun u2 _ => bnd (fm_M_message N u2 (u.2.2.1 123 v6.toNatClampNeg) 1 (u.2.2.1 122 v6.toNatClampNeg) v1 v2 v3 v4) (fun u3 _ => G.2.2.1 u3 (v1) (v2) (v3) (v4) (v6)))))) (G.2.2.1 u (v1) (v2) (v3) (v4) ((v6 + 1)))))
set_option maxRecDepth 100000 in
set_option maxHeartbeats 4000000 in
theorem wb_M_end_180 {p : Program} {l : Launch} {e : Env} {R : Room} {s : State} {m : MethodId} {args : Array Value} {below : List Frame} {meth : Method} {c : Code} {D : va_G} {cl : List vw_C} {cB cI cJ cZ cS : ClassId} {A : Nat → Prop} {iM h0 : Nat} {ad : Nat → Nat} (C0 : MCx p s m args meth c b_M_end 9 none D cl cB cI cJ cZ cS iM A) (hR : R = rm_M_end) (N : Nat) (G : (MS → Int32 → Int32 → Int32 → Int64 → Int32 → Option (MS × Unit)) × (MS → Int32 → Int32 → Int32 → Int64 → Option (MS × Unit)) × (MS → Int32 → Int32 → Int32 → Int64 → Int32 → Option (MS × Unit)) × (MS → Int32 → Int32 → Option (MS × Unit))) (hG : (∀ (u : MS) (v1 : Int32) (v2 : Int32) (v3 : Int32) (v4 : Int64) (v6 : Int32) (x : MS × Unit), G.1 u v1 v2 v3 v4 v6 = some x → ∀ (H : Heap) (locs : List Loc), va_P D cl (wM cB cI cJ cZ cS iM h0 ad u) H → va_D A (wM cB cI cJ cZ cS iM h0 ad u) → va_S A s.heap H locs → ∀ (ls : Array Slot), lv_has ls 9 [(0, .ref h0), (1, .int v1), (2, .int v2), (3, .int v3), (4, .long v4), (6, .int v6)] → W p l e R s m args below meth c H locs 0 0 (MQ below (mQv D cl cB cI cJ cZ cS iM h0 ad A x) args s 0 0 A) (F0 m 86 ls [])) ∧ (∀ (u : MS) (v1 : Int32) (v2 : Int32) (v3 : Int32) (v4 : Int64) (x : MS × Unit), G.2.1 u v1 v2 v3 v4 = some x → ∀ (H : Heap) (locs : List Loc), va_P D cl (wM cB cI cJ cZ cS iM h0 ad u) H → va_D A (wM cB cI cJ cZ cS iM h0 ad u) → va_S A s.heap H locs → ∀ (ls : Array Slot), lv_has ls 9 [(0, .ref h0), (1, .int v1), (2, .int v2), (3, .int v3), (4, .long v4)] → W p l e R s m args below meth c H locs 0 0 (MQ below (mQv D cl cB cI cJ cZ cS iM h0 ad A x) args s 0 0 A) (F0 m 129 ls [])) ∧ (∀ (u : MS) (v1 : Int32) (v2 : Int32) (v3 : Int32) (v4 : Int64) (v6 : Int32) (x : MS × Unit), G.2.2.1 u v1 v2 v3 v4 v6 = some x → ∀ (H : Heap) (locs : List Loc), va_P D cl (wM cB cI cJ cZ cS iM h0 ad u) H → va_D A (wM cB cI cJ cZ cS iM h0 ad u) → va_S A s.heap H locs → ∀ (ls : Array Slot), lv_has ls 9 [(0, .ref h0), (1, .int v1), (2, .int v2), (3, .int v3), (4, .long v4), (6, .int v6)] → W p l e R s m args below meth c H locs 0 0 (MQ below (mQv D cl cB cI cJ cZ cS iM h0 ad A x) args s 0 0 A) (F0 m 180 ls [])) ∧ (∀ (u : MS) (v1 : Int32) (v6 : Int32) (x : MS × Unit), G.2.2.2 u v1 v6 = some x → ∀ (H : Heap) (locs : List Loc), va_P D cl (wM cB cI cJ cZ cS iM h0 ad u) H → va_D A (wM cB cI cJ cZ cS iM h0 ad u) → va_S A s.heap H locs → ∀ (ls : Array Slot), lv_has ls 9 [(0, .ref h0), (1, .int v1), (6, .int v6)] → W p l e R s m args below meth c H locs 0 0 (MQ below (mQv D cl cB cI cJ cZ cS iM h0 ad A x) args s 0 0 A) (F0 m 250 ls []))) : ∀ (u : MS) (v1 : Int32) (v2 : Int32) (v3 : Int32) (v4 : Int64) (v6 : Int32) (x : MS × Unit), fb_M_end_180 N G u v1 v2 v3 v4 v6 = some x → ∀ (H : Heap) (locs : List Loc), va_P D cl (wM cB cI cJ cZ cS iM h0 ad u) H → va_D A (wM cB cI cJ cZ cS iM h0 ad u) → va_S A s.heap H locs → ∀ (ls : Array Slot), lv_has ls 9 [(0, .ref h0), (1, .int v1), (2, .int v2), (3, .int v3), (4, .long v4), (6, .int v6)] → W p l e R s m args below meth c H locs 0 0 (MQ below (mQv D cl cB cI cJ cZ cS iM h0 ad A x) args s 0 0 A) (F0 m 180 ls []) := by
  intro u v1 v2 v3 v4 v6 x hf H locs hP hD hS ls hl
  obtain ⟨hx, hb, hr, hml, ht, hown, hM, hK, hA, hlocks⟩ := id C0
  unfold fb_M_end_180 at hf
  refine lv_iload hx hb d_M_end_180 (lv_at hl 5 rfl) ?_
  refine lv_aload_n hx hb d_M_end_182 rfl (lv_at hl 0 rfl) ?_
  refine ug_I hx hb ht hown hM hK hP 125 (by decide) lk_M_125 (by decide) d_M_end_183 ?_
  refine lv_icmp_ge (tgt := 247) hx hb d_M_end_186 (by decide) (fun hc => ?_) (fun hc => ?_)
  · rw [br_p _ hc] at hf
    refine lv_iconst (v := 0) hx hb d_M_end_247 (by decide) ?_
    refine lv_istore (lv' := [(6, .int 0), (0, .ref h0), (1, .int v1), (2, .int v2), (3, .int v3), (4, .long v4)]) hx hb d_M_end_248 hl (by decide) rfl (fun ls hl => ?_)
    exact hG.2.2.2 _ _ _ _ hf H locs hP hD hS ls (lv_sub hl [1, 2, 0] rfl)
  · rw [br_n _ hc] at hf
    refine lv_aload_n hx hb d_M_end_189 rfl (lv_at hl 0 rfl) ?_
    refine ug_R hx hb ht hown hM hK hP 124 (by decide) lk_M_124 (by decide) d_M_end_190 ?_
    refine lv_iload hx hb d_M_end_193 (lv_at hl 5 rfl) ?_
    obtain ⟨hi9, hf⟩ := ck_some hf
    refine ul_I hx hb hK hP (by decide) (by decide) hi9 d_M_end_195 ?_
    refine lv_iload_n hx hb d_M_end_196 rfl (lv_at hl 1 rfl) ?_
    refine lv_icmp_ne (tgt := 241) hx hb d_M_end_197 (by decide) (fun hc => ?_) (fun hc => ?_)
    · rw [br_n _ hc] at hf
      refine lv_iinc (v := (v6 + 1)) (lv' := [(6, .int (v6 + 1)), (0, .ref h0), (1, .int v1), (2, .int v2), (3, .int v3), (4, .long v4)]) hx hb d_M_end_241 hl (k := 5) rfl rfl (by decide) rfl (fun ls hl => ?_)
      refine lv_goto (tgt := 180) hx hb d_M_end_244 (by decide) ?_
      exact hG.2.2.1 _ _ _ _ _ _ _ hf H locs hP hD hS ls (lv_sub hl [1, 2, 3, 4, 5, 0] rfl)
    · rw [br_p _ hc] at hf
      refine lv_aload_n hx hb d_M_end_200 rfl (lv_at hl 0 rfl) ?_
      refine ug_R hx hb ht hown hM hK hP 123 (by decide) lk_M_123 (by decide) d_M_end_201 ?_
      refine lv_iload hx hb d_M_end_204 (lv_at hl 5 rfl) ?_
      obtain ⟨hi9, hf⟩ := ck_some hf
      refine ul_I hx hb hK hP (by decide) (by decide) hi9 d_M_end_206 ?_
      refine lv_istore (lv' := [(7, .int (u.2.2.1 123 v6.toNatClampNeg)), (0, .ref h0), (1, .int v1), (2, .int v2), (3, .int v3), (4, .long v4), (6, .int v6)]) hx hb d_M_end_207 hl (by decide) rfl (fun ls hl => ?_)
      refine lv_aload_n hx hb d_M_end_209 rfl (lv_at hl 1 rfl) ?_
      refine ug_R hx hb ht hown hM hK hP 122 (by decide) lk_M_122 (by decide) d_M_end_210 ?_
      refine lv_iload hx hb d_M_end_213 (lv_at hl 6 rfl) ?_
      obtain ⟨hi9, hf⟩ := ck_some hf
      refine ul_I hx hb hK hP (by decide) (by decide) hi9 d_M_end_215 ?_
      refine lv_istore (lv' := [(8, .int (u.2.2.1 122 v6.toNatClampNeg)), (7, .int (u.2.2.1 123 v6.toNatClampNeg)), (0, .ref h0), (1, .int v1), (2, .int v2), (3, .int v3), (4, .long v4), (6, .int v6)]) hx hb d_M_end_216 hl (by decide) rfl (fun ls hl => ?_)
      refine lv_aload_n hx hb d_M_end_218 rfl (lv_at hl 2 rfl) ?_
      refine lv_iload hx hb d_M_end_219 (lv_at hl 7 rfl) ?_
      obtain ⟨u2, r2, hc2, hf⟩ := bnd_some hf
      refine mV_v (As := [.int v6]) (rest := []) C0 hP hD hS (c_M_removeWatch N hM hc2) k_M_removeWatch hl_M_removeWatch hi_M_removeWatch hs_M_removeWatch hini_M rfl rfl hd_M_removeWatch rfl (rm_M_end_M_removeWatch hR) hl.1 (Nat.le_of_ble_eq_true rfl) d_M_end_221 rfl ⟨Nat.zero_le _, Nat.zero_le _⟩ (fun H locs hP hD hS => ?_)
      refine lv_aload_n hx hb d_M_end_224 rfl (lv_at hl 2 rfl) ?_
      refine lv_iload hx hb d_M_end_225 (lv_at hl 1 rfl) ?_
      refine lv_iconst (v := 1) hx hb d_M_end_227 (by decide) ?_
      refine lv_iload hx hb d_M_end_228 (lv_at hl 0 rfl) ?_
      refine lv_iload_n hx hb d_M_end_230 rfl (lv_at hl 3 rfl) ?_
      refine lv_iload_n hx hb d_M_end_231 rfl (lv_at hl 4 rfl) ?_
      refine lv_iload_n hx hb d_M_end_232 rfl (lv_at hl 5 rfl) ?_
      refine lv_lload hx hb d_M_end_233 (lv_at hl 6 rfl) ?_
      obtain ⟨u3, r3, hc3, hf⟩ := bnd_some hf
      refine mV_v (As := [.int (u.2.2.1 123 v6.toNatClampNeg), .int 1, .int (u.2.2.1 122 v6.toNatClampNeg), .int v1, .int v2, .int v3, .long v4]) (rest := []) C0 hP hD hS (c_M_message N hM hc3) k_M_message hl_M_message hi_M_message hs_M_message hini_M rfl rfl hd_M_message rfl (rm_M_end_M_message hR) hl.1 (Nat.le_of_ble_eq_true rfl) d_M_end_235 rfl ⟨Nat.zero_le _, Nat.zero_le _⟩ (fun H locs hP hD hS => ?_)
      refine lv_goto (tgt := 180) hx hb d_M_end_238 (by decide) ?_
      exact hG.2.2.1 _ _ _ _ _ _ _ hf H locs hP hD hS ls (lv_sub hl [2, 3, 4, 5, 6, 7] rfl)
def fb_M_end_129 (N : Nat) (G : (MS → Int32 → Int32 → Int32 → Int64 → Int32 → Option (MS × Unit)) × (MS → Int32 → Int32 → Int32 → Int64 → Option (MS × Unit)) × (MS → Int32 → Int32 → Int32 → Int64 → Int32 → Option (MS × Unit)) × (MS → Int32 → Int32 → Option (MS × Unit))) (u : MS) (v1 : Int32) (v2 : Int32) (v3 : Int32) (v4 : Int64) : Option (MS × Unit) := ck (inb v1 (ln 117)) (br (decide ((u.2.2.1 117 v1.toNatClampNeg) ≤ 0)) (G.2.2.1 u (v1) (v2) (v3) (v4) (0)) (ck (inb (24 * v1) (ln 116)) (lt (u.2.2.1 116 (24 * v1).toNatClampNeg) (fun y4 => bnd (fm_M_removeLink N u v1 y4) (fun u5 _ => bnd (fm_M_removeLink N u5 y4 v1) (fun u6 _ => bnd (fm_M_signal N u6 y4 v1 v2 v3 v4) (fun u7 _ => G.2.1 u7 (v1) (v2) (v3) (v4))))))))
set_option maxRecDepth 100000 in
set_option maxHeartbeats 4000000 in
theorem wb_M_end_129 {p : Program} {l : Launch} {e : Env} {R : Room} {s : State} {m : MethodId} {args : Array Value} {below : List Frame} {meth : Method} {c : Code} {D : va_G} {cl : List vw_C} {cB cI cJ cZ cS : ClassId} {A : Nat → Prop} {iM h0 : Nat} {ad : Nat → Nat} (C0 : MCx p s m args meth c b_M_end 9 none D cl cB cI cJ cZ cS iM A) (hR : R = rm_M_end) (N : Nat) (G : (MS → Int32 → Int32 → Int32 → Int64 → Int32 → Option (MS × Unit)) × (MS → Int32 → Int32 → Int32 → Int64 → Option (MS × Unit)) × (MS → Int32 → Int32 → Int32 → Int64 → Int32 → Option (MS × Unit)) × (MS → Int32 → Int32 → Option (MS × Unit))) (hG : (∀ (u : MS) (v1 : Int32) (v2 : Int32) (v3 : Int32) (v4 : Int64) (v6 : Int32) (x : MS × Unit), G.1 u v1 v2 v3 v4 v6 = some x → ∀ (H : Heap) (locs : List Loc), va_P D cl (wM cB cI cJ cZ cS iM h0 ad u) H → va_D A (wM cB cI cJ cZ cS iM h0 ad u) → va_S A s.heap H locs → ∀ (ls : Array Slot), lv_has ls 9 [(0, .ref h0), (1, .int v1), (2, .int v2), (3, .int v3), (4, .long v4), (6, .int v6)] → W p l e R s m args below meth c H locs 0 0 (MQ below (mQv D cl cB cI cJ cZ cS iM h0 ad A x) args s 0 0 A) (F0 m 86 ls [])) ∧ (∀ (u : MS) (v1 : Int32) (v2 : Int32) (v3 : Int32) (v4 : Int64) (x : MS × Unit), G.2.1 u v1 v2 v3 v4 = some x → ∀ (H : Heap) (locs : List Loc), va_P D cl (wM cB cI cJ cZ cS iM h0 ad u) H → va_D A (wM cB cI cJ cZ cS iM h0 ad u) → va_S A s.heap H locs → ∀ (ls : Array Slot), lv_has ls 9 [(0, .ref h0), (1, .int v1), (2, .int v2), (3, .int v3), (4, .long v4)] → W p l e R s m args below meth c H locs 0 0 (MQ below (mQv D cl cB cI cJ cZ cS iM h0 ad A x) args s 0 0 A) (F0 m 129 ls [])) ∧ (∀ (u : MS) (v1 : Int32) (v2 : Int32) (v3 : Int32) (v4 : Int64) (v6 : Int32) (x : MS × Unit), G.2.2.1 u v1 v2 v3 v4 v6 = some x → ∀ (H : Heap) (locs : List Loc), va_P D cl (wM cB cI cJ cZ cS iM h0 ad u) H → va_D A (wM cB cI cJ cZ cS iM h0 ad u) → va_S A s.heap H locs → ∀ (ls : Array Slot), lv_has ls 9 [(0, .ref h0), (1, .int v1), (2, .int v2), (3, .int v3), (4, .long v4), (6, .int v6)] → W p l e R s m args below meth c H locs 0 0 (MQ below (mQv D cl cB cI cJ cZ cS iM h0 ad A x) args s 0 0 A) (F0 m 180 ls [])) ∧ (∀ (u : MS) (v1 : Int32) (v6 : Int32) (x : MS × Unit), G.2.2.2 u v1 v6 = some x → ∀ (H : Heap) (locs : List Loc), va_P D cl (wM cB cI cJ cZ cS iM h0 ad u) H → va_D A (wM cB cI cJ cZ cS iM h0 ad u) → va_S A s.heap H locs → ∀ (ls : Array Slot), lv_has ls 9 [(0, .ref h0), (1, .int v1), (6, .int v6)] → W p l e R s m args below meth c H locs 0 0 (MQ below (mQv D cl cB cI cJ cZ cS iM h0 ad A x) args s 0 0 A) (F0 m 250 ls []))) : ∀ (u : MS) (v1 : Int32) (v2 : Int32) (v3 : Int32) (v4 : Int64) (x : MS × Unit), fb_M_end_129 N G u v1 v2 v3 v4 = some x → ∀ (H : Heap) (locs : List Loc), va_P D cl (wM cB cI cJ cZ cS iM h0 ad u) H → va_D A (wM cB cI cJ cZ cS iM h0 ad u) → va_S A s.heap H locs → ∀ (ls : Array Slot), lv_has ls 9 [(0, .ref h0), (1, .int v1), (2, .int v2), (3, .int v3), (4, .long v4)] → W p l e R s m args below meth c H locs 0 0 (MQ below (mQv D cl cB cI cJ cZ cS iM h0 ad A x) args s 0 0 A) (F0 m 129 ls []) := by
  intro u v1 v2 v3 v4 x hf H locs hP hD hS ls hl
  obtain ⟨hx, hb, hr, hml, ht, hown, hM, hK, hA, hlocks⟩ := id C0
  unfold fb_M_end_129 at hf
  refine lv_aload_n hx hb d_M_end_129 rfl (lv_at hl 0 rfl) ?_
  refine ug_R hx hb ht hown hM hK hP 117 (by decide) lk_M_117 (by decide) d_M_end_130 ?_
  refine lv_iload_n hx hb d_M_end_133 rfl (lv_at hl 1 rfl) ?_
  obtain ⟨hi9, hf⟩ := ck_some hf
  refine ul_I hx hb hK hP (by decide) (by decide) hi9 d_M_end_134 ?_
  refine lv_if_le (tgt := 177) hx hb d_M_end_135 (by decide) (fun hc => ?_) (fun hc => ?_)
  · rw [br_p _ hc] at hf
    refine lv_iconst (v := 0) hx hb d_M_end_177 (by decide) ?_
    refine lv_istore (lv' := [(6, .int 0), (0, .ref h0), (1, .int v1), (2, .int v2), (3, .int v3), (4, .long v4)]) hx hb d_M_end_178 hl (by decide) rfl (fun ls hl => ?_)
    exact hG.2.2.1 _ _ _ _ _ _ _ hf H locs hP hD hS ls (lv_sub hl [1, 2, 3, 4, 5, 0] rfl)
  · rw [br_n _ hc] at hf
    refine lv_aload_n hx hb d_M_end_138 rfl (lv_at hl 0 rfl) ?_
    refine ug_R hx hb ht hown hM hK hP 116 (by decide) lk_M_116 (by decide) d_M_end_139 ?_
    refine lv_bipush (v := 24) hx hb d_M_end_142 (by decide) ?_
    refine lv_iload_n hx hb d_M_end_144 rfl (lv_at hl 1 rfl) ?_
    refine lv_imul hx hb d_M_end_145 ?_
    obtain ⟨hi9, hf⟩ := ck_some hf
    refine ul_I hx hb hK hP (by decide) (by decide) hi9 d_M_end_146 ?_
    obtain ⟨y4, e4, hf⟩ := lt_some hf
    rw [← e4]
    refine lv_istore (lv' := [(6, .int y4), (0, .ref h0), (1, .int v1), (2, .int v2), (3, .int v3), (4, .long v4)]) hx hb d_M_end_147 hl (by decide) rfl (fun ls hl => ?_)
    refine lv_aload_n hx hb d_M_end_149 rfl (lv_at hl 1 rfl) ?_
    refine lv_iload_n hx hb d_M_end_150 rfl (lv_at hl 2 rfl) ?_
    refine lv_iload hx hb d_M_end_151 (lv_at hl 0 rfl) ?_
    obtain ⟨u5, r5, hc5, hf⟩ := bnd_some hf
    refine mV_v (As := [.int v1, .int y4]) (rest := []) C0 hP hD hS (c_M_removeLink N hM hc5) k_M_removeLink hl_M_removeLink hi_M_removeLink hs_M_removeLink hini_M rfl rfl hd_M_removeLink rfl (rm_M_end_M_removeLink hR) hl.1 (Nat.le_of_ble_eq_true rfl) d_M_end_153 rfl ⟨Nat.zero_le _, Nat.zero_le _⟩ (fun H locs hP hD hS => ?_)
    refine lv_aload_n hx hb d_M_end_156 rfl (lv_at hl 1 rfl) ?_
    refine lv_iload hx hb d_M_end_157 (lv_at hl 0 rfl) ?_
    refine lv_iload_n hx hb d_M_end_159 rfl (lv_at hl 2 rfl) ?_
    obtain ⟨u6, r6, hc6, hf⟩ := bnd_some hf
    refine mV_v (As := [.int y4, .int v1]) (rest := []) C0 hP hD hS (c_M_removeLink N hM hc6) k_M_removeLink hl_M_removeLink hi_M_removeLink hs_M_removeLink hini_M rfl rfl hd_M_removeLink rfl (rm_M_end_M_removeLink hR) hl.1 (Nat.le_of_ble_eq_true rfl) d_M_end_160 rfl ⟨Nat.zero_le _, Nat.zero_le _⟩ (fun H locs hP hD hS => ?_)
    refine lv_aload_n hx hb d_M_end_163 rfl (lv_at hl 1 rfl) ?_
    refine lv_iload hx hb d_M_end_164 (lv_at hl 0 rfl) ?_
    refine lv_iload_n hx hb d_M_end_166 rfl (lv_at hl 2 rfl) ?_
    refine lv_iload_n hx hb d_M_end_167 rfl (lv_at hl 3 rfl) ?_
    refine lv_iload_n hx hb d_M_end_168 rfl (lv_at hl 4 rfl) ?_
    refine lv_lload hx hb d_M_end_169 (lv_at hl 5 rfl) ?_
    obtain ⟨u7, r7, hc7, hf⟩ := bnd_some hf
    refine mV_v (As := [.int y4, .int v1, .int v2, .int v3, .long v4]) (rest := []) C0 hP hD hS (c_M_signal N hM hc7) k_M_signal hl_M_signal hi_M_signal hs_M_signal hini_M rfl rfl hd_M_signal rfl (rm_M_end_M_signal hR) hl.1 (Nat.le_of_ble_eq_true rfl) d_M_end_171 rfl ⟨Nat.zero_le _, Nat.zero_le _⟩ (fun H locs hP hD hS => ?_)
    refine lv_goto (tgt := 129) hx hb d_M_end_174 (by decide) ?_
    exact hG.2.1 _ _ _ _ _ _ hf H locs hP hD hS ls (lv_sub hl [1, 2, 3, 4, 5] rfl)
