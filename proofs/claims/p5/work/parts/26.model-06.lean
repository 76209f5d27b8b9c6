def fb_M_alone_361 (N : Nat) (S : SG_M_behind) (G : Unit) (u : MS) (v2 : Int32) : Option (MS × Int32) := some (u, v2)
set_option maxRecDepth 100000 in
set_option maxHeartbeats 4000000 in
theorem wb_M_alone_361 {p : Program} {l : Launch} {e : Env} {R : Room} {s : State} {m : MethodId} {args : Array Value} {below : List Frame} {meth : Method} {c : Code} {D : va_G} {cl : List vw_C} {cB cI cJ cZ cS : ClassId} {A : Nat → Prop} {iM h0 : Nat} {ad : Nat → Nat} (C0 : MCx p s m args meth c b_M_alone 4 (some .int) D cl cB cI cJ cZ cS iM A) {d : Nat} (hR : R = rg_M_behind (d + 1)) (N : Nat) (S : SG_M_behind) (hSg : HS_M_behind l D cl cB cI cJ cZ cS iM h0 ad (rg_M_behind d) S) (G : Unit) (hG : True) : ∀ (u : MS) (v2 : Int32) (x : MS × Int32), fb_M_alone_361 N S G u v2 = some x → ∀ (H : Heap) (locs : List Loc), va_P D cl (wM cB cI cJ cZ cS iM h0 ad u) H → va_D A (wM cB cI cJ cZ cS iM h0 ad u) → va_S A s.heap H locs → ∀ (ls : Array Slot), lv_has ls 4 [(2, .int v2)] → W p l e R s m args below meth c H locs 0 0 (MQ below (mQi D cl cB cI cJ cZ cS iM h0 ad A x) args s 0 0 A) (F0 m 361 ls []) := by
  intro u v2 x hf H locs hP hD hS ls hl
  obtain ⟨hx, hb, hr, hml, ht, hown, hM, hK, hA, hlocks⟩ := id C0
  unfold fb_M_alone_361 at hf
  refine lv_iload_n hx hb d_M_alone_361 rfl (lv_at hl 0 rfl) ?_
  exact mr_i C0 hP hD hS hf d_M_alone_362
def fb_M_alone_347 (N : Nat) (S : SG_M_behind) (G : Unit) (u : MS) (v3 : Int32) (t0 : Int32) : Option (MS × Int32) := ck (isb v3) (lt (upI u 73 v3) (fun w1 => fb_M_alone_361 N S G w1 (t0)))
set_option maxRecDepth 100000 in
set_option maxHeartbeats 4000000 in
theorem wb_M_alone_347 {p : Program} {l : Launch} {e : Env} {R : Room} {s : State} {m : MethodId} {args : Array Value} {below : List Frame} {meth : Method} {c : Code} {D : va_G} {cl : List vw_C} {cB cI cJ cZ cS : ClassId} {A : Nat → Prop} {iM h0 : Nat} {ad : Nat → Nat} (C0 : MCx p s m args meth c b_M_alone 4 (some .int) D cl cB cI cJ cZ cS iM A) {d : Nat} (hR : R = rg_M_behind (d + 1)) (N : Nat) (S : SG_M_behind) (hSg : HS_M_behind l D cl cB cI cJ cZ cS iM h0 ad (rg_M_behind d) S) (G : Unit) (hG : True) : ∀ (u : MS) (v3 : Int32) (t0 : Int32) (x : MS × Int32), fb_M_alone_347 N S G u v3 t0 = some x → ∀ (H : Heap) (locs : List Loc), va_P D cl (wM cB cI cJ cZ cS iM h0 ad u) H → va_D A (wM cB cI cJ cZ cS iM h0 ad u) → va_S A s.heap H locs → ∀ (ls : Array Slot), lv_has ls 4 [(0, .ref h0), (3, .int v3)] → W p l e R s m args below meth c H locs 0 0 (MQ below (mQi D cl cB cI cJ cZ cS iM h0 ad A x) args s 0 0 A) (F0 m 347 ls [.int t0]) := by
  intro u v3 t0 x hf H locs hP hD hS ls hl
  obtain ⟨hx, hb, hr, hml, ht, hown, hM, hK, hA, hlocks⟩ := id C0
  unfold fb_M_alone_347 at hf
  refine lv_istore_n (lv' := [(2, .int t0), (0, .ref h0), (3, .int v3)]) hx hb d_M_alone_347 rfl hl (by decide) rfl (fun ls hl => ?_)
  refine lv_aload_n hx hb d_M_alone_348 rfl (lv_at hl 1 rfl) ?_
  refine lv_iload_n hx hb d_M_alone_349 rfl (lv_at hl 2 rfl) ?_
  obtain ⟨hz, hf⟩ := ck_some hf
  refine up_I hx hb ht hown hM hK hP hD hS 73 (by decide) lk_M_73 (by decide) rfl (isb_n hz) (isb_f hz) d_M_alone_350 (fun H locs hP hD hS => ?_)
  obtain ⟨w1, e1, hf⟩ := lt_some hf
  rw [← e1] at hP hD
  refine lv_goto (tgt := 361) hx hb d_M_alone_353 (by decide) ?_
  exact wb_M_alone_361 C0 hR N S hSg G hG _ _ _ hf H locs hP hD hS ls (lv_sub hl [0] rfl)
def fb_M_alone_315 (N : Nat) (S : SG_M_behind) (G : Unit) (u : MS) (v1 : Int32) : Option (MS × Int32) := lt (upI u 73 0) (fun w2 => bnd (fm_M_isWord N w2 7) (fun u3 r3 => br (decide (r3 = 0)) (bnd (S.2.2.2.2.2.1 u3 v1) (fun u4 r4 => fb_M_alone_347 N S G u4 ((u.1 73)) (r4))) (bnd (S.2.2.2.2.2.2.1 u3 v1) (fun u5 r5 => fb_M_alone_347 N S G u5 ((u.1 73)) (r5)))))
set_option maxRecDepth 100000 in
set_option maxHeartbeats 4000000 in
theorem wb_M_alone_315 {p : Program} {l : Launch} {e : Env} {R : Room} {s : State} {m : MethodId} {args : Array Value} {below : List Frame} {meth : Method} {c : Code} {D : va_G} {cl : List vw_C} {cB cI cJ cZ cS : ClassId} {A : Nat → Prop} {iM h0 : Nat} {ad : Nat → Nat} (C0 : MCx p s m args meth c b_M_alone 4 (some .int) D cl cB cI cJ cZ cS iM A) {d : Nat} (hR : R = rg_M_behind (d + 1)) (N : Nat) (S : SG_M_behind) (hSg : HS_M_behind l D cl cB cI cJ cZ cS iM h0 ad (rg_M_behind d) S) (G : Unit) (hG : True) : ∀ (u : MS) (v1 : Int32) (x : MS × Int32), fb_M_alone_315 N S G u v1 = some x → ∀ (H : Heap) (locs : List Loc), va_P D cl (wM cB cI cJ cZ cS iM h0 ad u) H → va_D A (wM cB cI cJ cZ cS iM h0 ad u) → va_S A s.heap H locs → ∀ (ls : Array Slot), lv_has ls 4 [(0, .ref h0), (1, .int v1)] → W p l e R s m args below meth c H locs 0 0 (MQ below (mQi D cl cB cI cJ cZ cS iM h0 ad A x) args s 0 0 A) (F0 m 315 ls []) := by
  intro u v1 x hf H locs hP hD hS ls hl
  obtain ⟨hx, hb, hr, hml, ht, hown, hM, hK, hA, hlocks⟩ := id C0
  unfold fb_M_alone_315 at hf
  refine lv_aload_n hx hb d_M_alone_315 rfl (lv_at hl 0 rfl) ?_
  refine ug_I hx hb ht hown hM hK hP 73 (by decide) lk_M_73 (by decide) d_M_alone_316 ?_
  refine lv_istore_n (lv' := [(3, .int (u.1 73)), (0, .ref h0), (1, .int v1)]) hx hb d_M_alone_319 rfl hl (by decide) rfl (fun ls hl => ?_)
  refine lv_aload_n hx hb d_M_alone_320 rfl (lv_at hl 1 rfl) ?_
  refine lv_iconst (v := 0) hx hb d_M_alone_321 (by decide) ?_
  refine up_I hx hb ht hown hM hK hP hD hS 73 (by decide) lk_M_73 (by decide) rfl rfl rfl d_M_alone_322 (fun H locs hP hD hS => ?_)
  obtain ⟨w2, e2, hf⟩ := lt_some hf
  rw [← e2] at hP hD
  refine lv_aload_n hx hb d_M_alone_325 rfl (lv_at hl 1 rfl) ?_
  refine lv_bipush (v := 7) hx hb d_M_alone_326 (by decide) ?_
  obtain ⟨u3, r3, hc3, hf⟩ := bnd_some hf
  refine mV_i (As := [.int 7]) (rest := []) C0 hP hD hS (c_M_isWord N hM hc3) k_M_isWord hl_M_isWord hi_M_isWord hs_M_isWord hini_M rfl rfl hd_M_isWord rfl (rm_M_alone_M_isWord hR) hl.1 (Nat.le_of_ble_eq_true rfl) d_M_alone_328 rfl ⟨Nat.zero_le _, Nat.zero_le _⟩ (fun H locs hP hD hS => ?_)
  refine lv_if_eq (tgt := 342) hx hb d_M_alone_331 (by decide) (fun hc => ?_) (fun hc => ?_)
  · rw [br_p _ hc] at hf
    refine lv_aload_n hx hb d_M_alone_342 rfl (lv_at hl 1 rfl) ?_
    refine lv_iload_n hx hb d_M_alone_343 rfl (lv_at hl 2 rfl) ?_
    obtain ⟨u4, r4, hc4, hf⟩ := bnd_some hf
    refine mV_i (As := [.int v1]) (rest := []) C0 hP hD hS (hSg.2.2.2.2.2.1 _ _ _ _ hc4) k_M_block hl_M_block hi_M_block hs_M_block hini_M rfl rfl hd_M_block rfl (rm_M_alone_M_block hR) hl.1 (Nat.le_of_ble_eq_true rfl) d_M_alone_344 rfl ⟨Nat.zero_le _, Nat.zero_le _⟩ (fun H locs hP hD hS => ?_)
    exact wb_M_alone_347 C0 hR N S hSg G hG _ _ _ _ hf H locs hP hD hS ls (lv_sub hl [1, 0] rfl)
  · rw [br_n _ hc] at hf
    refine lv_aload_n hx hb d_M_alone_334 rfl (lv_at hl 1 rfl) ?_
    refine lv_iload_n hx hb d_M_alone_335 rfl (lv_at hl 2 rfl) ?_
    obtain ⟨u5, r5, hc5, hf⟩ := bnd_some hf
    refine mV_i (As := [.int v1]) (rest := []) C0 hP hD hS (hSg.2.2.2.2.2.2.1 _ _ _ _ hc5) k_M_fun hl_M_fun hi_M_fun hs_M_fun hini_M rfl rfl hd_M_fun rfl (rm_M_alone_M_fun hR) hl.1 (Nat.le_of_ble_eq_true rfl) d_M_alone_336 rfl ⟨Nat.zero_le _, Nat.zero_le _⟩ (fun H locs hP hD hS => ?_)
    refine lv_goto (tgt := 347) hx hb d_M_alone_339 (by decide) ?_
    exact wb_M_alone_347 C0 hR N S hSg G hG _ _ _ _ hf H locs hP hD hS ls (lv_sub hl [1, 0] rfl)
def fb_M_alone_270 (N : Nat) (S : SG_M_behind) (G : Unit) (u : MS) (v1 : Int32) : Option (MS × Int32) := bnd (S.2.2.2.2.2.2.2.1 u v1) (fun u6 r6 => fb_M_alone_361 N S G u6 (r6))
set_option maxRecDepth 100000 in
set_option maxHeartbeats 4000000 in
theorem wb_M_alone_270 {p : Program} {l : Launch} {e : Env} {R : Room} {s : State} {m : MethodId} {args : Array Value} {below : List Frame} {meth : Method} {c : Code} {D : va_G} {cl : List vw_C} {cB cI cJ cZ cS : ClassId} {A : Nat → Prop} {iM h0 : Nat} {ad : Nat → Nat} (C0 : MCx p s m args meth c b_M_alone 4 (some .int) D cl cB cI cJ cZ cS iM A) {d : Nat} (hR : R = rg_M_behind (d + 1)) (N : Nat) (S : SG_M_behind) (hSg : HS_M_behind l D cl cB cI cJ cZ cS iM h0 ad (rg_M_behind d) S) (G : Unit) (hG : True) : ∀ (u : MS) (v1 : Int32) (x : MS × Int32), fb_M_alone_270 N S G u v1 = some x → ∀ (H : Heap) (locs : List Loc), va_P D cl (wM cB cI cJ cZ cS iM h0 ad u) H → va_D A (wM cB cI cJ cZ cS iM h0 ad u) → va_S A s.heap H locs → ∀ (ls : Array Slot), lv_has ls 4 [(0, .ref h0), (1, .int v1)] → W p l e R s m args below meth c H locs 0 0 (MQ below (mQi D cl cB cI cJ cZ cS iM h0 ad A x) args s 0 0 A) (F0 m 270 ls []) := by
  intro u v1 x hf H locs hP hD hS ls hl
  obtain ⟨hx, hb, hr, hml, ht, hown, hM, hK, hA, hlocks⟩ := id C0
  unfold fb_M_alone_270 at hf
  refine lv_aload_n hx hb d_M_alone_270 rfl (lv_at hl 0 rfl) ?_
  refine lv_iload_n hx hb d_M_alone_271 rfl (lv_at hl 1 rfl) ?_
  obtain ⟨u6, r6, hc6, hf⟩ := bnd_some hf
  refine mV_i (As := [.int v1]) (rest := []) C0 hP hD hS (hSg.2.2.2.2.2.2.2.1 _ _ _ _ hc6) k_M_row hl_M_row hi_M_row hs_M_row hini_M rfl rfl hd_M_row rfl (rm_M_alone_M_row hR) hl.1 (Nat.le_of_ble_eq_true rfl) d_M_alone_272 rfl ⟨Nat.zero_le _, Nat.zero_le _⟩ (fun H locs hP hD hS => ?_)
  refine lv_istore_n (lv' := [(2, .int r6), (0, .ref h0), (1, .int v1)]) hx hb d_M_alone_275 rfl hl (by decide) rfl (fun ls hl => ?_)
  refine lv_goto (tgt := 361) hx hb d_M_alone_276 (by decide) ?_
  exact wb_M_alone_361 C0 hR N S hSg G hG _ _ _ hf H locs hP hD hS ls (lv_sub hl [0] rfl)
def fb_M_alone_213 (N : Nat) (S : SG_M_behind) (G : Unit) (u : MS) (v2 : Int32) (v3 : Int32) : Option (MS × Int32) := ck (inb v2 (ln 25)) (lt (upA u 25 (upd (u.2.2.1 25) v2.toNatClampNeg v3)) (fun w7 => lt (upI w7 69 ((w7.1 69) + 1)) (fun w8 => fb_M_alone_361 N S G w8 (v2))))
set_option maxRecDepth 100000 in
set_option maxHeartbeats 4000000 in
theorem wb_M_alone_213 {p : Program} {l : Launch} {e : Env} {R : Room} {s : State} {m : MethodId} {args : Array Value} {below : List Frame} {meth : Method} {c : Code} {D : va_G} {cl : List vw_C} {cB cI cJ cZ cS : ClassId} {A : Nat → Prop} {iM h0 : Nat} {ad : Nat → Nat} (C0 : MCx p s m args meth c b_M_alone 4 (some .int) D cl cB cI cJ cZ cS iM A) {d : Nat} (hR : R = rg_M_behind (d + 1)) (N : Nat) (S : SG_M_behind) (hSg : HS_M_behind l D cl cB cI cJ cZ cS iM h0 ad (rg_M_behind d) S) (G : Unit) (hG : True) : ∀ (u : MS) (v2 : Int32) (v3 : Int32) (x : MS × Int32), fb_M_alone_213 N S G u v2 v3 = some x → ∀ (H : Heap) (locs : List Loc), va_P D cl (wM cB cI cJ cZ cS iM h0 ad u) H → va_D A (wM cB cI cJ cZ cS iM h0 ad u) → va_S A s.heap H locs → ∀ (ls : Array Slot), lv_has ls 4 [(0, .ref h0), (2, .int v2), (3, .int v3)] → W p l e R s m args below meth c H locs 0 0 (MQ below (mQi D cl cB cI cJ cZ cS iM h0 ad A x) args s 0 0 A) (F0 m 213 ls []) := by
  intro u v2 v3 x hf H locs hP hD hS ls hl
  obtain ⟨hx, hb, hr, hml, ht, hown, hM, hK, hA, hlocks⟩ := id C0
  unfold fb_M_alone_213 at hf
  refine lv_aload_n hx hb d_M_alone_213 rfl (lv_at hl 0 rfl) ?_
  refine ug_R hx hb ht hown hM hK hP 25 (by decide) lk_M_25 (by decide) d_M_alone_214 ?_
  refine lv_iload_n hx hb d_M_alone_217 rfl (lv_at hl 1 rfl) ?_
  refine lv_iload_n hx hb d_M_alone_218 rfl (lv_at hl 2 rfl) ?_
  obtain ⟨hi9, hf⟩ := ck_some hf
  refine us_I hx hb hK hP hD hS (by decide) (by decide) hi9 d_M_alone_219 (fun H locs hP hD hS => ?_)
  obtain ⟨w7, e7, hf⟩ := lt_some hf
  rw [← e7] at hP hD
  refine lv_aload_n hx hb d_M_alone_220 rfl (lv_at hl 0 rfl) ?_
  refine lv_dup hx hb d_M_alone_221 rfl ?_
  refine ug_I hx hb ht hown hM hK hP 69 (by decide) lk_M_69 (by decide) d_M_alone_222 ?_
  refine lv_iconst (v := 1) hx hb d_M_alone_225 (by decide) ?_
  refine lv_iadd hx hb d_M_alone_226 ?_
  refine up_I hx hb ht hown hM hK hP hD hS 69 (by decide) lk_M_69 (by decide) rfl rfl rfl d_M_alone_227 (fun H locs hP hD hS => ?_)
  obtain ⟨w8, e8, hf⟩ := lt_some hf
  rw [← e8] at hP hD
  refine lv_goto (tgt := 361) hx hb d_M_alone_230 (by decide) ?_
  exact wb_M_alone_361 C0 hR N S hSg G hG _ _ _ hf H locs hP hD hS ls (lv_sub hl [1] rfl)
def fb_M_alone_201 (N : Nat) (S : SG_M_behind) (G : Unit) (u : MS) (v1 : Int32) (v2 : Int32) (t0 : Int32) : Option (MS × Int32) := br (decide (t0 = (-1))) (bnd (fm_M_rule N u 5 v1) (fun u9 _ => fb_M_alone_213 N S G u9 (v2) (t0))) (fb_M_alone_213 N S G u (v2) (t0))
set_option maxRecDepth 100000 in
set_option maxHeartbeats 4000000 in
theorem wb_M_alone_201 {p : Program} {l : Launch} {e : Env} {R : Room} {s : State} {m : MethodId} {args : Array Value} {below : List Frame} {meth : Method} {c : Code} {D : va_G} {cl : List vw_C} {cB cI cJ cZ cS : ClassId} {A : Nat → Prop} {iM h0 : Nat} {ad : Nat → Nat} (C0 : MCx p s m args meth c b_M_alone 4 (some .int) D cl cB cI cJ cZ cS iM A) {d : Nat} (hR : R = rg_M_behind (d + 1)) (N : Nat) (S : SG_M_behind) (hSg : HS_M_behind l D cl cB cI cJ cZ cS iM h0 ad (rg_M_behind d) S) (G : Unit) (hG : True) : ∀ (u : MS) (v1 : Int32) (v2 : Int32) (t0 : Int32) (x : MS × Int32), fb_M_alone_201 N S G u v1 v2 t0 = some x → ∀ (H : Heap) (locs : List Loc), va_P D cl (wM cB cI cJ cZ cS iM h0 ad u) H → va_D A (wM cB cI cJ cZ cS iM h0 ad u) → va_S A s.heap H locs → ∀ (ls : Array Slot), lv_has ls 4 [(0, .ref h0), (1, .int v1), (2, .int v2)] → W p l e R s m args below meth c H locs 0 0 (MQ below (mQi D cl cB cI cJ cZ cS iM h0 ad A x) args s 0 0 A) (F0 m 201 ls [.int t0]) := by
  intro u v1 v2 t0 x hf H locs hP hD hS ls hl
  obtain ⟨hx, hb, hr, hml, ht, hown, hM, hK, hA, hlocks⟩ := id C0
  unfold fb_M_alone_201 at hf
  refine lv_istore_n (lv' := [(3, .int t0), (0, .ref h0), (1, .int v1), (2, .int v2)]) hx hb d_M_alone_201 rfl hl (by decide) rfl (fun ls hl => ?_)
  refine lv_iload_n hx hb d_M_alone_202 rfl (lv_at hl 0 rfl) ?_
  refine lv_iconst (v := (-1)) hx hb d_M_alone_203 (by decide) ?_
  refine lv_icmp_ne (tgt := 213) hx hb d_M_alone_204 (by decide) (fun hc => ?_) (fun hc => ?_)
  · rw [br_n _ hc] at hf
    exact wb_M_alone_213 C0 hR N S hSg G hG _ _ _ _ hf H locs hP hD hS ls (lv_sub hl [1, 3, 0] rfl)
  · rw [br_p _ hc] at hf
    refine lv_aload_n hx hb d_M_alone_207 rfl (lv_at hl 1 rfl) ?_
    refine lv_iconst (v := 5) hx hb d_M_alone_208 (by decide) ?_
    refine lv_iload_n hx hb d_M_alone_209 rfl (lv_at hl 2 rfl) ?_
    obtain ⟨u9, r9, hc9, hf⟩ := bnd_some hf
    refine mV_v (As := [.int 5, .int v1]) (rest := []) C0 hP hD hS (c_M_rule N hM hc9) k_M_rule hl_M_rule hi_M_rule hs_M_rule hini_M rfl rfl hd_M_rule rfl (rm_M_alone_M_rule hR) hl.1 (Nat.le_of_ble_eq_true rfl) d_M_alone_210 rfl ⟨Nat.zero_le _, Nat.zero_le _⟩ (fun H locs hP hD hS => ?_)
    exact wb_M_alone_213 C0 hR N S hSg G hG _ _ _ _ hf H locs hP hD hS ls (lv_sub hl [1, 3, 0] rfl)
def fb_M_alone_114 (N : Nat) (S : SG_M_behind) (G : Unit) (u : MS) (v1 : Int32) : Option (MS × Int32) := bnd (fm_M_node N u 2 v1) (fun u10 r10 => ck (inb (u10.1 69) (ln 7)) (ck (inb r10 (ln 25)) (lt (upA u10 25 (upd (u10.2.2.1 25) r10.toNatClampNeg (u10.2.2.1 7 (u10.1 69).toNatClampNeg))) (fun w11 => lt (upI w11 69 ((w11.1 69) + 1)) (fun w12 => fb_M_alone_361 N S G w12 (r10))))))
set_option maxRecDepth 100000 in
set_option maxHeartbeats 4000000 in
theorem wb_M_alone_114 {p : Program} {l : Launch} {e : Env} {R : Room} {s : State} {m : MethodId} {args : Array Value} {below : List Frame} {meth : Method} {c : Code} {D : va_G} {cl : List vw_C} {cB cI cJ cZ cS : ClassId} {A : Nat → Prop} {iM h0 : Nat} {ad : Nat → Nat} (C0 : MCx p s m args meth c b_M_alone 4 (some .int) D cl cB cI cJ cZ cS iM A) {d : Nat} (hR : R = rg_M_behind (d + 1)) (N : Nat) (S : SG_M_behind) (hSg : HS_M_behind l D cl cB cI cJ cZ cS iM h0 ad (rg_M_behind d) S) (G : Unit) (hG : True) : ∀ (u : MS) (v1 : Int32) (x : MS × Int32), fb_M_alone_114 N S G u v1 = some x → ∀ (H : Heap) (locs : List Loc), va_P D cl (wM cB cI cJ cZ cS iM h0 ad u) H → va_D A (wM cB cI cJ cZ cS iM h0 ad u) → va_S A s.heap H locs → ∀ (ls : Array Slot), lv_has ls 4 [(0, .ref h0), (1, .int v1)] → W p l e R s m args below meth c H locs 0 0 (MQ below (mQi D cl cB cI cJ cZ cS iM h0 ad A x) args s 0 0 A) (F0 m 114 ls []) := by
  intro u v1 x hf H locs hP hD hS ls hl
  obtain ⟨hx, hb, hr, hml, ht, hown, hM, hK, hA, hlocks⟩ := id C0
  unfold fb_M_alone_114 at hf
  refine lv_aload_n hx hb d_M_alone_114 rfl (lv_at hl 0 rfl) ?_
  refine lv_iconst (v := 2) hx hb d_M_alone_115 (by decide) ?_
  refine lv_iload_n hx hb d_M_alone_116 rfl (lv_at hl 1 rfl) ?_
  obtain ⟨u10, r10, hc10, hf⟩ := bnd_some hf
  refine mV_i (As := [.int 2, .int v1]) (rest := []) C0 hP hD hS (c_M_node N hM hc10) k_M_node hl_M_node hi_M_node hs_M_node hini_M rfl rfl hd_M_node rfl (rm_M_alone_M_node hR) hl.1 (Nat.le_of_ble_eq_true rfl) d_M_alone_117 rfl ⟨Nat.zero_le _, Nat.zero_le _⟩ (fun H locs hP hD hS => ?_)
  refine lv_istore_n (lv' := [(2, .int r10), (0, .ref h0), (1, .int v1)]) hx hb d_M_alone_120 rfl hl (by decide) rfl (fun ls hl => ?_)
  refine lv_aload_n hx hb d_M_alone_121 rfl (lv_at hl 1 rfl) ?_
  refine ug_R hx hb ht hown hM hK hP 25 (by decide) lk_M_25 (by decide) d_M_alone_122 ?_
  refine lv_iload_n hx hb d_M_alone_125 rfl (lv_at hl 0 rfl) ?_
  refine lv_aload_n hx hb d_M_alone_126 rfl (lv_at hl 1 rfl) ?_
  refine ug_R hx hb ht hown hM hK hP 7 (by decide) lk_M_7 (by decide) d_M_alone_127 ?_
  refine lv_aload_n hx hb d_M_alone_130 rfl (lv_at hl 1 rfl) ?_
  refine ug_I hx hb ht hown hM hK hP 69 (by decide) lk_M_69 (by decide) d_M_alone_131 ?_
  obtain ⟨hi9, hf⟩ := ck_some hf
  refine ul_I hx hb hK hP (by decide) (by decide) hi9 d_M_alone_134 ?_
  obtain ⟨hi9, hf⟩ := ck_some hf
  refine us_I hx hb hK hP hD hS (by decide) (by decide) hi9 d_M_alone_135 (fun H locs hP hD hS => ?_)
  obtain ⟨w11, e11, hf⟩ := lt_some hf
  rw [← e11] at hP hD
  refine lv_aload_n hx hb d_M_alone_136 rfl (lv_at hl 1 rfl) ?_
  refine lv_dup hx hb d_M_alone_137 rfl ?_
  refine ug_I hx hb ht hown hM hK hP 69 (by decide) lk_M_69 (by decide) d_M_alone_138 ?_
  refine lv_iconst (v := 1) hx hb d_M_alone_141 (by decide) ?_
  refine lv_iadd hx hb d_M_alone_142 ?_
  refine up_I hx hb ht hown hM hK hP hD hS 69 (by decide) lk_M_69 (by decide) rfl rfl rfl d_M_alone_143 (fun H locs hP hD hS => ?_)
  obtain ⟨w12, e12, hf⟩ := lt_some hf
  rw [← e12] at hP hD
  refine lv_goto (tgt := 361) hx hb d_M_alone_146 (by decide) ?_
  exact wb_M_alone_361 C0 hR N S hSg G hG _ _ _ hf H locs hP hD hS ls (lv_sub hl [0] rfl)
def fb_M_alone_58 (N : Nat) (S : SG_M_behind) (G : Unit) (u : MS) (v2 : Int32) (t0 : Nat) (t1 : Int32) (t2 : Int32) : Option (MS × Int32) := ck (isK t0 4) (ck (inb t1 (ln t0)) (lt (upA u t0 (upd (u.2.2.1 t0) t1.toNatClampNeg t2)) (fun w13 => ck (inb (w13.1 69) (ln 7)) (ck (inb v2 (ln 26)) (lt (upA w13 26 (upd (w13.2.2.1 26) v2.toNatClampNeg (w13.2.2.1 7 (w13.1 69).toNatClampNeg))) (fun w14 => lt (upI w14 69 ((w14.1 69) + 1)) (fun w15 => fb_M_alone_361 N S G w15 (v2))))))))
set_option maxRecDepth 100000 in
set_option maxHeartbeats 4000000 in
theorem wb_M_alone_58 {p : Program} {l : Launch} {e : Env} {R : Room} {s : State} {m : MethodId} {args : Array Value} {below : List Frame} {meth : Method} {c : Code} {D : va_G} {cl : List vw_C} {cB cI cJ cZ cS : ClassId} {A : Nat → Prop} {iM h0 : Nat} {ad : Nat → Nat} (C0 : MCx p s m args meth c b_M_alone 4 (some .int) D cl cB cI cJ cZ cS iM A) {d : Nat} (hR : R = rg_M_behind (d + 1)) (N : Nat) (S : SG_M_behind) (hSg : HS_M_behind l D cl cB cI cJ cZ cS iM h0 ad (rg_M_behind d) S) (G : Unit) (hG : True) : ∀ (u : MS) (v2 : Int32) (t0 : Nat) (t1 : Int32) (t2 : Int32) (x : MS × Int32), fb_M_alone_58 N S G u v2 t0 t1 t2 = some x → ∀ (H : Heap) (locs : List Loc), va_P D cl (wM cB cI cJ cZ cS iM h0 ad u) H → va_D A (wM cB cI cJ cZ cS iM h0 ad u) → va_S A s.heap H locs → ∀ (ls : Array Slot), lv_has ls 4 [(0, .ref h0), (2, .int v2)] → W p l e R s m args below meth c H locs 0 0 (MQ below (mQi D cl cB cI cJ cZ cS iM h0 ad A x) args s 0 0 A) (F0 m 58 ls [.int t2, .int t1, .ref (ad t0)]) := by
  intro u v2 t0 t1 t2 x hf H locs hP hD hS ls hl
  obtain ⟨hx, hb, hr, hml, ht, hown, hM, hK, hA, hlocks⟩ := id C0
  unfold fb_M_alone_58 at hf
  obtain ⟨hk9, hf⟩ := ck_some hf
  obtain ⟨hi9, hf⟩ := ck_some hf
  refine us_I hx hb hK hP hD hS (isK_1 hk9) (isK_2 hk9) hi9 d_M_alone_58 (fun H locs hP hD hS => ?_)
  obtain ⟨w13, e13, hf⟩ := lt_some hf
  rw [← e13] at hP hD
  refine lv_aload_n hx hb d_M_alone_59 rfl (lv_at hl 0 rfl) ?_
  refine ug_R hx hb ht hown hM hK hP 26 (by decide) lk_M_26 (by decide) d_M_alone_60 ?_
  refine lv_iload_n hx hb d_M_alone_63 rfl (lv_at hl 1 rfl) ?_
  refine lv_aload_n hx hb d_M_alone_64 rfl (lv_at hl 0 rfl) ?_
  refine ug_R hx hb ht hown hM hK hP 7 (by decide) lk_M_7 (by decide) d_M_alone_65 ?_
  refine lv_aload_n hx hb d_M_alone_68 rfl (lv_at hl 0 rfl) ?_
  refine ug_I hx hb ht hown hM hK hP 69 (by decide) lk_M_69 (by decide) d_M_alone_69 ?_
  obtain ⟨hi9, hf⟩ := ck_some hf
  refine ul_I hx hb hK hP (by decide) (by decide) hi9 d_M_alone_72 ?_
  obtain ⟨hi9, hf⟩ := ck_some hf
  refine us_I hx hb hK hP hD hS (by decide) (by decide) hi9 d_M_alone_73 (fun H locs hP hD hS => ?_)
  obtain ⟨w14, e14, hf⟩ := lt_some hf
  rw [← e14] at hP hD
  refine lv_aload_n hx hb d_M_alone_74 rfl (lv_at hl 0 rfl) ?_
  refine lv_dup hx hb d_M_alone_75 rfl ?_
  refine ug_I hx hb ht hown hM hK hP 69 (by decide) lk_M_69 (by decide) d_M_alone_76 ?_
  refine lv_iconst (v := 1) hx hb d_M_alone_79 (by decide) ?_
  refine lv_iadd hx hb d_M_alone_80 ?_
  refine up_I hx hb ht hown hM hK hP hD hS 69 (by decide) lk_M_69 (by decide) rfl rfl rfl d_M_alone_81 (fun H locs hP hD hS => ?_)
  obtain ⟨w15, e15, hf⟩ := lt_some hf
  rw [← e15] at hP hD
  refine lv_goto (tgt := 361) hx hb d_M_alone_84 (by decide) ?_
  exact wb_M_alone_361 C0 hR N S hSg G hG _ _ _ hf H locs hP hD hS ls (lv_sub hl [1] rfl)
def fb_M_alone_28 (N : Nat) (S : SG_M_behind) (G : Unit) (u : MS) (v1 : Int32) : Option (MS × Int32) := bnd (fm_M_node N u 1 v1) (fun u16 r16 => ck (inb (u16.1 69) (ln 6)) (br (decide ((u16.2.2.1 6 (u16.1 69).toNatClampNeg) = 4)) (fb_M_alone_58 N S G u16 (r16) (25) (r16) (0)) (fb_M_alone_58 N S G u16 (r16) (25) (r16) (1))))
set_option maxRecDepth 100000 in
set_option maxHeartbeats 4000000 in
theorem wb_M_alone_28 {p : Program} {l : Launch} {e : Env} {R : Room} {s : State} {m : MethodId} {args : Array Value} {below : List Frame} {meth : Method} {c : Code} {D : va_G} {cl : List vw_C} {cB cI cJ cZ cS : ClassId} {A : Nat → Prop} {iM h0 : Nat} {ad : Nat → Nat} (C0 : MCx p s m args meth c b_M_alone 4 (some .int) D cl cB cI cJ cZ cS iM A) {d : Nat} (hR : R = rg_M_behind (d + 1)) (N : Nat) (S : SG_M_behind) (hSg : HS_M_behind l D cl cB cI cJ cZ cS iM h0 ad (rg_M_behind d) S) (G : Unit) (hG : True) : ∀ (u : MS) (v1 : Int32) (x : MS × Int32), fb_M_alone_28 N S G u v1 = some x → ∀ (H : Heap) (locs : List Loc), va_P D cl (wM cB cI cJ cZ cS iM h0 ad u) H → va_D A (wM cB cI cJ cZ cS iM h0 ad u) → va_S A s.heap H locs → ∀ (ls : Array Slot), lv_has ls 4 [(0, .ref h0), (1, .int v1)] → W p l e R s m args below meth c H locs 0 0 (MQ below (mQi D cl cB cI cJ cZ cS iM h0 ad A x) args s 0 0 A) (F0 m 28 ls []) := by
  intro u v1 x hf H locs hP hD hS ls hl
  obtain ⟨hx, hb, hr, hml, ht, hown, hM, hK, hA, hlocks⟩ := id C0
  unfold fb_M_alone_28 at hf
  refine lv_aload_n hx hb d_M_alone_28 rfl (lv_at hl 0 rfl) ?_
  refine lv_iconst (v := 1) hx hb d_M_alone_29 (by decide) ?_
  refine lv_iload_n hx hb d_M_alone_30 rfl (lv_at hl 1 rfl) ?_
  obtain ⟨u16, r16, hc16, hf⟩ := bnd_some hf
  refine mV_i (As := [.int 1, .int v1]) (rest := []) C0 hP hD hS (c_M_node N hM hc16) k_M_node hl_M_node hi_M_node hs_M_node hini_M rfl rfl hd_M_node rfl (rm_M_alone_M_node hR) hl.1 (Nat.le_of_ble_eq_true rfl) d_M_alone_31 rfl ⟨Nat.zero_le _, Nat.zero_le _⟩ (fun H locs hP hD hS => ?_)
  refine lv_istore_n (lv' := [(2, .int r16), (0, .ref h0), (1, .int v1)]) hx hb d_M_alone_34 rfl hl (by decide) rfl (fun ls hl => ?_)
  refine lv_aload_n hx hb d_M_alone_35 rfl (lv_at hl 1 rfl) ?_
  refine ug_R hx hb ht hown hM hK hP 25 (by decide) lk_M_25 (by decide) d_M_alone_36 ?_
  refine lv_iload_n hx hb d_M_alone_39 rfl (lv_at hl 0 rfl) ?_
  refine lv_aload_n hx hb d_M_alone_40 rfl (lv_at hl 1 rfl) ?_
  refine ug_R hx hb ht hown hM hK hP 6 (by decide) lk_M_6 (by decide) d_M_alone_41 ?_
  refine lv_aload_n hx hb d_M_alone_44 rfl (lv_at hl 1 rfl) ?_
  refine ug_I hx hb ht hown hM hK hP 69 (by decide) lk_M_69 (by decide) d_M_alone_45 ?_
  obtain ⟨hi9, hf⟩ := ck_some hf
  refine ul_B hx hb hK hP (by decide) (by decide) hi9 d_M_alone_48 ?_
  refine lv_iconst (v := 4) hx hb d_M_alone_49 (by decide) ?_
  refine lv_icmp_ne (tgt := 57) hx hb d_M_alone_50 (by decide) (fun hc => ?_) (fun hc => ?_)
  · rw [br_n _ hc] at hf
    refine lv_iconst (v := 1) hx hb d_M_alone_57 (by decide) ?_
    exact wb_M_alone_58 C0 hR N S hSg G hG _ _ _ _ _ _ hf H locs hP hD hS ls (lv_sub hl [1, 0] rfl)
  · rw [br_p _ hc] at hf
    refine lv_iconst (v := 0) hx hb d_M_alone_53 (by decide) ?_
    refine lv_goto (tgt := 58) hx hb d_M_alone_54 (by decide) ?_
    exact wb_M_alone_58 C0 hR N S hSg G hG _ _ _ _ _ _ hf H locs hP hD hS ls (lv_sub hl [1, 0] rfl)
def fb_M_alone_0 (N : Nat) (S : SG_M_behind) (G : Unit) (u : MS) (v1 : Int32) : Option (MS × Int32) := ck (inb (u.1 69) (ln 6)) (br (decide ((u.2.2.1 6 (u.1 69).toNatClampNeg) = 4)) (fb_M_alone_28 N S G u (v1)) (ck (inb (u.1 69) (ln 6)) (br (decide ((u.2.2.1 6 (u.1 69).toNatClampNeg) = 1)) (fb_M_alone_28 N S G u (v1)) (ck (inb (u.1 69) (ln 6)) (br (decide ((u.2.2.1 6 (u.1 69).toNatClampNeg) = 5)) (br (decide ((u.1 73) = 0)) (fb_M_alone_114 N S G u (v1)) (bnd (fm_M_rule N u 7 v1) (fun u28 _ => fb_M_alone_114 N S G u28 (v1)))) (ck (inb (u.1 69) (ln 6)) (br (decide ((u.2.2.1 6 (u.1 69).toNatClampNeg) = 2)) (bnd (fm_M_node N u 3 v1) (fun u25 r25 => bnd (fm_M_isUnderscore N u25 (u25.1 69)) (fun u26 r26 => br (decide (r26 = 0)) (ck (inb (u26.1 69) (ln 7)) (bnd (fr_M_found N u26 (u26.1 65) (u26.2.2.1 7 (u26.1 69).toNatClampNeg)) (fun u27 r27 => fb_M_alone_201 N S G u27 (v1) (r25) (r27)))) (fb_M_alone_201 N S G u26 (v1) (r25) ((-1)))))) (bnd (fm_M_takeSign N u 0) (fun u17 r17 => br (decide (r17 = 0)) (bnd (fm_M_isSign N u17 2) (fun u18 r18 => br (decide (r18 = 0)) (bnd (fm_M_isSign N u18 4) (fun u19 r19 => br (decide (r19 = 0)) (ck (inb (u19.1 69) (ln 6)) (br (decide ((u19.2.2.1 6 (u19.1 69).toNatClampNeg) = 3)) (br (decide ((u19.1 73) = 0)) (fb_M_alone_315 N S G u19 (v1)) (bnd (fm_M_isWord N u19 9) (fun u21 r21 => br (decide (r21 = 0)) (bnd (fm_M_rule N u21 7 v1) (fun u22 _ => fb_M_alone_315 N S G u22 (v1))) (fb_M_alone_315 N S G u21 (v1))))) (bnd (fm_M_wrong N u19 2) (fun u20 _ => fb_M_alone_361 N S G u20 ((-1)))))) (fb_M_alone_270 N S G u19 (v1)))) (fb_M_alone_270 N S G u18 (v1)))) (bnd (S.2.2.2.2.2.2.2.2.2.2.2.2.2.1 u17) (fun u23 r23 => bnd (fm_M_needSign N u23 1) (fun u24 _ => fb_M_alone_361 N S G u24 (r23)))))))))))))
set_option maxRecDepth 100000 in
set_option maxHeartbeats 4000000 in
theorem wb_M_alone_0 {p : Program} {l : Launch} {e : Env} {R : Room} {s : State} {m : MethodId} {args : Array Value} {below : List Frame} {meth : Method} {c : Code} {D : va_G} {cl : List vw_C} {cB cI cJ cZ cS : ClassId} {A : Nat → Prop} {iM h0 : Nat} {ad : Nat → Nat} (C0 : MCx p s m args meth c b_M_alone 4 (some .int) D cl cB cI cJ cZ cS iM A) {d : Nat} (hR : R = rg_M_behind (d + 1)) (N : Nat) (S : SG_M_behind) (hSg : HS_M_behind l D cl cB cI cJ cZ cS iM h0 ad (rg_M_behind d) S) (G : Unit) (hG : True) : ∀ (u : MS) (v1 : Int32) (x : MS × Int32), fb_M_alone_0 N S G u v1 = some x → ∀ (H : Heap) (locs : List Loc), va_P D cl (wM cB cI cJ cZ cS iM h0 ad u) H → va_D A (wM cB cI cJ cZ cS iM h0 ad u) → va_S A s.heap H locs → ∀ (ls : Array Slot), lv_has ls 4 [(0, .ref h0), (1, .int v1)] → W p l e R s m args below meth c H locs 0 0 (MQ below (mQi D cl cB cI cJ cZ cS iM h0 ad A x) args s 0 0 A) (F0 m 0 ls []) := by
  intro u v1 x hf H locs hP hD hS ls hl
  obtain ⟨hx, hb, hr, hml, ht, hown, hM, hK, hA, hlocks⟩ := id C0
  unfold fb_M_alone_0 at hf
  refine lv_iconst (v := (-1)) hx hb d_M_alone_0 (by decide) ?_
  refine lv_istore_n (lv' := [(2, .int (-1)), (0, .ref h0), (1, .int v1)]) hx hb d_M_alone_1 rfl hl (by decide) rfl (fun ls hl => ?_)
  refine lv_aload_n hx hb d_M_alone_2 rfl (lv_at hl 1 rfl) ?_
  refine ug_R hx hb ht hown hM hK hP 6 (by decide) lk_M_6 (by decide) d_M_alone_3 ?_
  refine lv_aload_n hx hb d_M_alone_6 rfl (lv_at hl 1 rfl) ?_
  refine ug_I hx hb ht hown hM hK hP 69 (by decide) lk_M_69 (by decide) d_M_alone_7 ?_
  obtain ⟨hi9, hf⟩ := ck_some hf
  refine ul_B hx hb hK hP (by decide) (by decide) hi9 d_M_alone_10 ?_
  refine lv_iconst (v := 4) hx hb d_M_alone_11 (by decide) ?_
  refine lv_icmp_eq (tgt := 28) hx hb d_M_alone_12 (by decide) (fun hc => ?_) (fun hc => ?_)
  · rw [br_p _ hc] at hf
    exact wb_M_alone_28 C0 hR N S hSg G hG _ _ _ hf H locs hP hD hS ls (lv_sub hl [1, 2] rfl)
  · rw [br_n _ hc] at hf
    refine lv_aload_n hx hb d_M_alone_15 rfl (lv_at hl 1 rfl) ?_
    refine ug_R hx hb ht hown hM hK hP 6 (by decide) lk_M_6 (by decide) d_M_alone_16 ?_
    refine lv_aload_n hx hb d_M_alone_19 rfl (lv_at hl 1 rfl) ?_
    refine ug_I hx hb ht hown hM hK hP 69 (by decide) lk_M_69 (by decide) d_M_alone_20 ?_
    obtain ⟨hi9, hf⟩ := ck_some hf
    refine ul_B hx hb hK hP (by decide) (by decide) hi9 d_M_alone_23 ?_
    refine lv_iconst (v := 1) hx hb d_M_alone_24 (by decide) ?_
    refine lv_icmp_ne (tgt := 87) hx hb d_M_alone_25 (by decide) (fun hc => ?_) (fun hc => ?_)
    · rw [br_n _ hc] at hf
      refine lv_aload_n hx hb d_M_alone_87 rfl (lv_at hl 1 rfl) ?_
      refine ug_R hx hb ht hown hM hK hP 6 (by decide) lk_M_6 (by decide) d_M_alone_88 ?_
      refine lv_aload_n hx hb d_M_alone_91 rfl (lv_at hl 1 rfl) ?_
      refine ug_I hx hb ht hown hM hK hP 69 (by decide) lk_M_69 (by decide) d_M_alone_92 ?_
      obtain ⟨hi9, hf⟩ := ck_some hf
      refine ul_B hx hb hK hP (by decide) (by decide) hi9 d_M_alone_95 ?_
      refine lv_iconst (v := 5) hx hb d_M_alone_96 (by decide) ?_
      refine lv_icmp_ne (tgt := 149) hx hb d_M_alone_97 (by decide) (fun hc => ?_) (fun hc => ?_)
      · rw [br_n _ hc] at hf
        refine lv_aload_n hx hb d_M_alone_149 rfl (lv_at hl 1 rfl) ?_
        refine ug_R hx hb ht hown hM hK hP 6 (by decide) lk_M_6 (by decide) d_M_alone_150 ?_
        refine lv_aload_n hx hb d_M_alone_153 rfl (lv_at hl 1 rfl) ?_
        refine ug_I hx hb ht hown hM hK hP 69 (by decide) lk_M_69 (by decide) d_M_alone_154 ?_
        obtain ⟨hi9, hf⟩ := ck_some hf
        refine ul_B hx hb hK hP (by decide) (by decide) hi9 d_M_alone_157 ?_
        refine lv_iconst (v := 2) hx hb d_M_alone_158 (by decide) ?_
        refine lv_icmp_ne (tgt := 233) hx hb d_M_alone_159 (by decide) (fun hc => ?_) (fun hc => ?_)
        · rw [br_n _ hc] at hf
          refine lv_aload_n hx hb d_M_alone_233 rfl (lv_at hl 1 rfl) ?_
          refine lv_iconst (v := 0) hx hb d_M_alone_234 (by decide) ?_
          obtain ⟨u17, r17, hc17, hf⟩ := bnd_some hf
          refine mV_i (As := [.int 0]) (rest := []) C0 hP hD hS (c_M_takeSign N hM hc17) k_M_takeSign hl_M_takeSign hi_M_takeSign hs_M_takeSign hini_M rfl rfl hd_M_takeSign rfl (rm_M_alone_M_takeSign hR) hl.1 (Nat.le_of_ble_eq_true rfl) d_M_alone_235 rfl ⟨Nat.zero_le _, Nat.zero_le _⟩ (fun H locs hP hD hS => ?_)
          refine lv_if_eq (tgt := 254) hx hb d_M_alone_238 (by decide) (fun hc => ?_) (fun hc => ?_)
          · rw [br_p _ hc] at hf
            refine lv_aload_n hx hb d_M_alone_254 rfl (lv_at hl 1 rfl) ?_
            refine lv_iconst (v := 2) hx hb d_M_alone_255 (by decide) ?_
            obtain ⟨u18, r18, hc18, hf⟩ := bnd_some hf
            refine mV_i (As := [.int 2]) (rest := []) C0 hP hD hS (c_M_isSign N hM hc18) k_M_isSign hl_M_isSign hi_M_isSign hs_M_isSign hini_M rfl rfl hd_M_isSign rfl (rm_M_alone_M_isSign hR) hl.1 (Nat.le_of_ble_eq_true rfl) d_M_alone_256 rfl ⟨Nat.zero_le _, Nat.zero_le _⟩ (fun H locs hP hD hS => ?_)
            refine lv_if_ne (tgt := 270) hx hb d_M_alone_259 (by decide) (fun hc => ?_) (fun hc => ?_)
            · rw [br_n _ hc] at hf
              exact wb_M_alone_270 C0 hR N S hSg G hG _ _ _ hf H locs hP hD hS ls (lv_sub hl [1, 2] rfl)
            · rw [br_p _ hc] at hf
              refine lv_aload_n hx hb d_M_alone_262 rfl (lv_at hl 1 rfl) ?_
              refine lv_iconst (v := 4) hx hb d_M_alone_263 (by decide) ?_
              obtain ⟨u19, r19, hc19, hf⟩ := bnd_some hf
              refine mV_i (As := [.int 4]) (rest := []) C0 hP hD hS (c_M_isSign N hM hc19) k_M_isSign hl_M_isSign hi_M_isSign hs_M_isSign hini_M rfl rfl hd_M_isSign rfl (rm_M_alone_M_isSign hR) hl.1 (Nat.le_of_ble_eq_true rfl) d_M_alone_264 rfl ⟨Nat.zero_le _, Nat.zero_le _⟩ (fun H locs hP hD hS => ?_)
              refine lv_if_eq (tgt := 279) hx hb d_M_alone_267 (by decide) (fun hc => ?_) (fun hc => ?_)
              · rw [br_p _ hc] at hf
                refine lv_aload_n hx hb d_M_alone_279 rfl (lv_at hl 1 rfl) ?_
                refine ug_R hx hb ht hown hM hK hP 6 (by decide) lk_M_6 (by decide) d_M_alone_280 ?_
                refine lv_aload_n hx hb d_M_alone_283 rfl (lv_at hl 1 rfl) ?_
                refine ug_I hx hb ht hown hM hK hP 69 (by decide) lk_M_69 (by decide) d_M_alone_284 ?_
                obtain ⟨hi9, hf⟩ := ck_some hf
                refine ul_B hx hb hK hP (by decide) (by decide) hi9 d_M_alone_287 ?_
                refine lv_iconst (v := 3) hx hb d_M_alone_288 (by decide) ?_
                refine lv_icmp_ne (tgt := 356) hx hb d_M_alone_289 (by decide) (fun hc => ?_) (fun hc => ?_)
                · rw [br_n _ hc] at hf
                  refine lv_aload_n hx hb d_M_alone_356 rfl (lv_at hl 1 rfl) ?_
                  refine lv_iconst (v := 2) hx hb d_M_alone_357 (by decide) ?_
                  obtain ⟨u20, r20, hc20, hf⟩ := bnd_some hf
                  refine mV_v (As := [.int 2]) (rest := []) C0 hP hD hS (c_M_wrong N hM hc20) k_M_wrong hl_M_wrong hi_M_wrong hs_M_wrong hini_M rfl rfl hd_M_wrong rfl (rm_M_alone_M_wrong hR) hl.1 (Nat.le_of_ble_eq_true rfl) d_M_alone_358 rfl ⟨Nat.zero_le _, Nat.zero_le _⟩ (fun H locs hP hD hS => ?_)
                  exact wb_M_alone_361 C0 hR N S hSg G hG _ _ _ hf H locs hP hD hS ls (lv_sub hl [0] rfl)
                · rw [br_p _ hc] at hf
                  refine lv_aload_n hx hb d_M_alone_292 rfl (lv_at hl 1 rfl) ?_
                  refine ug_I hx hb ht hown hM hK hP 73 (by decide) lk_M_73 (by decide) d_M_alone_293 ?_
                  refine lv_if_eq (tgt := 315) hx hb d_M_alone_296 (by decide) (fun hc => ?_) (fun hc => ?_)
                  · rw [br_p _ hc] at hf
                    exact wb_M_alone_315 C0 hR N S hSg G hG _ _ _ hf H locs hP hD hS ls (lv_sub hl [1, 2] rfl)
                  · rw [br_n _ hc] at hf
                    refine lv_aload_n hx hb d_M_alone_299 rfl (lv_at hl 1 rfl) ?_
                    refine lv_bipush (v := 9) hx hb d_M_alone_300 (by decide) ?_
                    obtain ⟨u21, r21, hc21, hf⟩ := bnd_some hf
                    refine mV_i (As := [.int 9]) (rest := []) C0 hP hD hS (c_M_isWord N hM hc21) k_M_isWord hl_M_isWord hi_M_isWord hs_M_isWord hini_M rfl rfl hd_M_isWord rfl (rm_M_alone_M_isWord hR) hl.1 (Nat.le_of_ble_eq_true rfl) d_M_alone_302 rfl ⟨Nat.zero_le _, Nat.zero_le _⟩ (fun H locs hP hD hS => ?_)
                    refine lv_if_ne (tgt := 315) hx hb d_M_alone_305 (by decide) (fun hc => ?_) (fun hc => ?_)
                    · rw [br_n _ hc] at hf
                      exact wb_M_alone_315 C0 hR N S hSg G hG _ _ _ hf H locs hP hD hS ls (lv_sub hl [1, 2] rfl)
                    · rw [br_p _ hc] at hf
                      refine lv_aload_n hx hb d_M_alone_308 rfl (lv_at hl 1 rfl) ?_
                      refine lv_bipush (v := 7) hx hb d_M_alone_309 (by decide) ?_
                      refine lv_iload_n hx hb d_M_alone_311 rfl (lv_at hl 2 rfl) ?_
                      obtain ⟨u22, r22, hc22, hf⟩ := bnd_some hf
                      refine mV_v (As := [.int 7, .int v1]) (rest := []) C0 hP hD hS (c_M_rule N hM hc22) k_M_rule hl_M_rule hi_M_rule hs_M_rule hini_M rfl rfl hd_M_rule rfl (rm_M_alone_M_rule hR) hl.1 (Nat.le_of_ble_eq_true rfl) d_M_alone_312 rfl ⟨Nat.zero_le _, Nat.zero_le _⟩ (fun H locs hP hD hS => ?_)
                      exact wb_M_alone_315 C0 hR N S hSg G hG _ _ _ hf H locs hP hD hS ls (lv_sub hl [1, 2] rfl)
              · rw [br_n _ hc] at hf
                exact wb_M_alone_270 C0 hR N S hSg G hG _ _ _ hf H locs hP hD hS ls (lv_sub hl [1, 2] rfl)
          · rw [br_n _ hc] at hf
            refine lv_aload_n hx hb d_M_alone_241 rfl (lv_at hl 1 rfl) ?_
            obtain ⟨u23, r23, hc23, hf⟩ := bnd_some hf
            refine mV_i (As := []) (rest := []) C0 hP hD hS (hSg.2.2.2.2.2.2.2.2.2.2.2.2.2.1 _ _ _ hc23) k_M_expression hl_M_expression hi_M_expression hs_M_expression hini_M rfl rfl hd_M_expression rfl (rm_M_alone_M_expression hR) hl.1 (Nat.le_of_ble_eq_true rfl) d_M_alone_242 rfl ⟨Nat.zero_le _, Nat.zero_le _⟩ (fun H locs hP hD hS => ?_)
            refine lv_istore_n (lv' := [(2, .int r23), (0, .ref h0), (1, .int v1)]) hx hb d_M_alone_245 rfl hl (by decide) rfl (fun ls hl => ?_)
            refine lv_aload_n hx hb d_M_alone_246 rfl (lv_at hl 1 rfl) ?_
            refine lv_iconst (v := 1) hx hb d_M_alone_247 (by decide) ?_
            obtain ⟨u24, r24, hc24, hf⟩ := bnd_some hf
            refine mV_v (As := [.int 1]) (rest := []) C0 hP hD hS (c_M_needSign N hM hc24) k_M_needSign hl_M_needSign hi_M_needSign hs_M_needSign hini_M rfl rfl hd_M_needSign rfl (rm_M_alone_M_needSign hR) hl.1 (Nat.le_of_ble_eq_true rfl) d_M_alone_248 rfl ⟨Nat.zero_le _, Nat.zero_le _⟩ (fun H locs hP hD hS => ?_)
            refine lv_goto (tgt := 361) hx hb d_M_alone_251 (by decide) ?_
            exact wb_M_alone_361 C0 hR N S hSg G hG _ _ _ hf H locs hP hD hS ls (lv_sub hl [0] rfl)
        · rw [br_p _ hc] at hf
          refine lv_aload_n hx hb d_M_alone_162 rfl (lv_at hl 1 rfl) ?_
          refine lv_iconst (v := 3) hx hb d_M_alone_163 (by decide) ?_
          refine lv_iload_n hx hb d_M_alone_164 rfl (lv_at hl 2 rfl) ?_
          obtain ⟨u25, r25, hc25, hf⟩ := bnd_some hf
          refine mV_i (As := [.int 3, .int v1]) (rest := []) C0 hP hD hS (c_M_node N hM hc25) k_M_node hl_M_node hi_M_node hs_M_node hini_M rfl rfl hd_M_node rfl (rm_M_alone_M_node hR) hl.1 (Nat.le_of_ble_eq_true rfl) d_M_alone_165 rfl ⟨Nat.zero_le _, Nat.zero_le _⟩ (fun H locs hP hD hS => ?_)
          refine lv_istore_n (lv' := [(2, .int r25), (0, .ref h0), (1, .int v1)]) hx hb d_M_alone_168 rfl hl (by decide) rfl (fun ls hl => ?_)
          refine lv_aload_n hx hb d_M_alone_169 rfl (lv_at hl 1 rfl) ?_
          refine lv_aload_n hx hb d_M_alone_170 rfl (lv_at hl 1 rfl) ?_
          refine ug_I hx hb ht hown hM hK hP 69 (by decide) lk_M_69 (by decide) d_M_alone_171 ?_
          obtain ⟨u26, r26, hc26, hf⟩ := bnd_some hf
          refine mV_i (As := [.int (u25.1 69)]) (rest := []) C0 hP hD hS (c_M_isUnderscore N hM hc26) k_M_isUnderscore hl_M_isUnderscore hi_M_isUnderscore hs_M_isUnderscore hini_M rfl rfl hd_M_isUnderscore rfl (rm_M_alone_M_isUnderscore hR) hl.1 (Nat.le_of_ble_eq_true rfl) d_M_alone_174 rfl ⟨Nat.zero_le _, Nat.zero_le _⟩ (fun H locs hP hD hS => ?_)
          refine lv_if_eq (tgt := 184) hx hb d_M_alone_177 (by decide) (fun hc => ?_) (fun hc => ?_)
          · rw [br_p _ hc] at hf
            refine lv_aload_n hx hb d_M_alone_184 rfl (lv_at hl 1 rfl) ?_
            refine lv_aload_n hx hb d_M_alone_185 rfl (lv_at hl 1 rfl) ?_
            refine ug_I hx hb ht hown hM hK hP 65 (by decide) lk_M_65 (by decide) d_M_alone_186 ?_
            refine lv_aload_n hx hb d_M_alone_189 rfl (lv_at hl 1 rfl) ?_
            refine ug_R hx hb ht hown hM hK hP 7 (by decide) lk_M_7 (by decide) d_M_alone_190 ?_
            refine lv_aload_n hx hb d_M_alone_193 rfl (lv_at hl 1 rfl) ?_
            refine ug_I hx hb ht hown hM hK hP 69 (by decide) lk_M_69 (by decide) d_M_alone_194 ?_
            obtain ⟨hi9, hf⟩ := ck_some hf
            refine ul_I hx hb hK hP (by decide) (by decide) hi9 d_M_alone_197 ?_
            obtain ⟨u27, r27, hc27, hf⟩ := bnd_some hf
            refine mV_i (As := [.int (u26.1 65), .int (u26.2.2.1 7 (u26.1 69).toNatClampNeg)]) (rest := []) C0 hP hD hS (c_M_found N hM hc27) k_M_found hl_M_found hi_M_found hs_M_found hini_M rfl rfl hd_M_found rfl (rm_M_alone_M_found hR) hl.1 (Nat.le_of_ble_eq_true rfl) d_M_alone_198 rfl ⟨Nat.zero_le _, Nat.zero_le _⟩ (fun H locs hP hD hS => ?_)
            exact wb_M_alone_201 C0 hR N S hSg G hG _ _ _ _ _ hf H locs hP hD hS ls (lv_sub hl [1, 2, 0] rfl)
          · rw [br_n _ hc] at hf
            refine lv_iconst (v := (-1)) hx hb d_M_alone_180 (by decide) ?_
            refine lv_goto (tgt := 201) hx hb d_M_alone_181 (by decide) ?_
            exact wb_M_alone_201 C0 hR N S hSg G hG _ _ _ _ _ hf H locs hP hD hS ls (lv_sub hl [1, 2, 0] rfl)
      · rw [br_p _ hc] at hf
        refine lv_aload_n hx hb d_M_alone_100 rfl (lv_at hl 1 rfl) ?_
        refine ug_I hx hb ht hown hM hK hP 73 (by decide) lk_M_73 (by decide) d_M_alone_101 ?_
        refine lv_if_eq (tgt := 114) hx hb d_M_alone_104 (by decide) (fun hc => ?_) (fun hc => ?_)
        · rw [br_p _ hc] at hf
          exact wb_M_alone_114 C0 hR N S hSg G hG _ _ _ hf H locs hP hD hS ls (lv_sub hl [1, 2] rfl)
        · rw [br_n _ hc] at hf
          refine lv_aload_n hx hb d_M_alone_107 rfl (lv_at hl 1 rfl) ?_
          refine lv_bipush (v := 7) hx hb d_M_alone_108 (by decide) ?_
          refine lv_iload_n hx hb d_M_alone_110 rfl (lv_at hl 2 rfl) ?_
          obtain ⟨u28, r28, hc28, hf⟩ := bnd_some hf
          refine mV_v (As := [.int 7, .int v1]) (rest := []) C0 hP hD hS (c_M_rule N hM hc28) k_M_rule hl_M_rule hi_M_rule hs_M_rule hini_M rfl rfl hd_M_rule rfl (rm_M_alone_M_rule hR) hl.1 (Nat.le_of_ble_eq_true rfl) d_M_alone_111 rfl ⟨Nat.zero_le _, Nat.zero_le _⟩ (fun H locs hP hD hS => ?_)
          exact wb_M_alone_114 C0 hR N S hSg G hG _ _ _ hf H locs hP hD hS ls (lv_sub hl [1, 2] rfl)
    · rw [br_p _ hc] at hf
      exact wb_M_alone_28 C0 hR N S hSg G hG _ _ _ hf H locs hP hD hS ls (lv_sub hl [1, 2] rfl)
def fm_M_alone (N : Nat) (S : SG_M_behind) (u : MS) (v1 : Int32) : Option (MS × Int32) := fb_M_alone_0 N S () u v1
set_option maxRecDepth 100000 in
set_option maxHeartbeats 4000000 in
theorem cs_M_alone (N : Nat) {d : Nat} {l : Launch} {D : va_G} {cl : List vw_C} {cB cI cJ cZ cS : ClassId} {iM h0 : Nat} {ad : Nat → Nat} {u : MS} {sz : Nat} {v1 : Int32} {x : MS × Int32} (hM : cl[iM]? = some (R_M, F_M, 171)) (S : SG_M_behind) (hSg : HS_M_behind l D cl cB cI cJ cZ cS iM h0 ad (rg_M_behind d) S) (hf : fm_M_alone N S u v1 = some x) : Met l y_M_alone (wd_ws y_M_alone b_M_alone 4 (some .int)) (rg_M_behind (d + 1)) (mPc D cl cB cI cJ cZ cS iM h0 ad u sz [.ref h0, .int v1]) (mQi D cl cB cI cJ cZ cS iM h0 ad (mA cB cI cJ cZ cS iM h0 ad u sz) x) 0 0 (mA cB cI cJ cZ cS iM h0 ad u sz) :=
  mMet (by decide) rfl hM (Nat.le_of_ble_eq_true rfl) (fun p e s m below meth c ls hsz C0 hP hD hS hl => by
    have hR : (rg_M_behind (d + 1)) = (rg_M_behind (d + 1)) := rfl
    exact wb_M_alone_0 C0 hR N S hSg () trivial u _ x hf s.heap [] hP hD hS ls (lv_sub hl [0, 1] rfl))
theorem rm_M_arguments_M_needSign {R : Room} {d : Nat} (hR : R = rg_M_behind (d + 1)) : (rm_M_needSign).frames + 1 ≤ R.frames ∧ 8 + (2 + 11) + (rm_M_needSign).locals ≤ R.locals := by
  subst hR
  have h1 : (rm_M_needSign).frames = 2 := rfl
  have h2 : (rm_M_needSign).locals = 42 := rfl
  show (rm_M_needSign).frames + 1 ≤ 94 + (d + 1) ∧ 8 + (2 + 11) + (rm_M_needSign).locals ≤ 2494 + 29 * (d + 1)
  omega
theorem rm_M_arguments_M_isSign {R : Room} {d : Nat} (hR : R = rg_M_behind (d + 1)) : (rm_M_isSign).frames + 1 ≤ R.frames ∧ 8 + (2 + 11) + (rm_M_isSign).locals ≤ R.locals := by
  subst hR
  have h1 : (rm_M_isSign).frames = 0 := rfl
  have h2 : (rm_M_isSign).locals = 0 := rfl
  show (rm_M_isSign).frames + 1 ≤ 94 + (d + 1) ∧ 8 + (2 + 11) + (rm_M_isSign).locals ≤ 2494 + 29 * (d + 1)
  omega
theorem rm_M_arguments_M_wrong {R : Room} {d : Nat} (hR : R = rg_M_behind (d + 1)) : (rm_M_wrong).frames + 1 ≤ R.frames ∧ 8 + (2 + 11) + (rm_M_wrong).locals ≤ R.locals := by
  subst hR
  have h1 : (rm_M_wrong).frames = 0 := rfl
  have h2 : (rm_M_wrong).locals = 0 := rfl
  show (rm_M_wrong).frames + 1 ≤ 94 + (d + 1) ∧ 8 + (2 + 11) + (rm_M_wrong).locals ≤ 2494 + 29 * (d + 1)
  omega
theorem rm_M_arguments_M_takeSign {R : Room} {d : Nat} (hR : R = rg_M_behind (d + 1)) : (rm_M_takeSign).frames + 1 ≤ R.frames ∧ 8 + (2 + 11) + (rm_M_takeSign).locals ≤ R.locals := by
  subst hR
  have h1 : (rm_M_takeSign).frames = 1 := rfl
  have h2 : (rm_M_takeSign).locals = 21 := rfl
  show (rm_M_takeSign).frames + 1 ≤ 94 + (d + 1) ∧ 8 + (2 + 11) + (rm_M_takeSign).locals ≤ 2494 + 29 * (d + 1)
  omega
theorem rm_M_arguments_M_expression {R : Room} {d : Nat} (hR : R = rg_M_behind (d + 1)) : (rg_M_behind d).frames + 1 ≤ R.frames ∧ 8 + (4 + 11) + (rg_M_behind d).locals ≤ R.locals := by
  subst hR
  show 94 + d + 1 ≤ 94 + (d + 1) ∧ 8 + (4 + 11) + (2494 + 29 * d) ≤ 2494 + 29 * (d + 1)
  omega
def fb_M_arguments_73 (N : Nat) (S : SG_M_behind) (G : (MS → Int32 → Int32 → Option (MS × Unit))) (u : MS) (v1 : Int32) : Option (MS × Unit) := bnd (fm_M_needSign N u 1) (fun u1 _ => lt (upI u1 84 v1) (fun w2 => some (w2, ())))
set_option maxRecDepth 100000 in
set_option maxHeartbeats 4000000 in
theorem wb_M_arguments_73 {p : Program} {l : Launch} {e : Env} {R : Room} {s : State} {m : MethodId} {args : Array Value} {below : List Frame} {meth : Method} {c : Code} {D : va_G} {cl : List vw_C} {cB cI cJ cZ cS : ClassId} {A : Nat → Prop} {iM h0 : Nat} {ad : Nat → Nat} (C0 : MCx p s m args meth c b_M_arguments 4 none D cl cB cI cJ cZ cS iM A) {d : Nat} (hR : R = rg_M_behind (d + 1)) (N : Nat) (S : SG_M_behind) (hSg : HS_M_behind l D cl cB cI cJ cZ cS iM h0 ad (rg_M_behind d) S) (G : (MS → Int32 → Int32 → Option (MS × Unit))) (hG : (∀ (u : MS) (v1 : Int32) (v2 : Int32) (x : MS × Unit), G u v1 v2 = some x → ∀ (H : Heap) (locs : List Loc), va_P D cl (wM cB cI cJ cZ cS iM h0 ad u) H → va_D A (wM cB cI cJ cZ cS iM h0 ad u) → va_S A s.heap H locs → ∀ (ls : Array Slot), lv_has ls 4 [(0, .ref h0), (1, .int v1), (2, .int v2)] → W p l e R s m args below meth c H locs 0 0 (MQ below (mQv D cl cB cI cJ cZ cS iM h0 ad A x) args s 0 0 A) (F0 m 24 ls []))) : ∀ (u : MS) (v1 : Int32) (x : MS × Unit), fb_M_arguments_73 N S G u v1 = some x → ∀ (H : Heap) (locs : List Loc), va_P D cl (wM cB cI cJ cZ cS iM h0 ad u) H → va_D A (wM cB cI cJ cZ cS iM h0 ad u) → va_S A s.heap H locs → ∀ (ls : Array Slot), lv_has ls 4 [(0, .ref h0), (1, .int v1)] → W p l e R s m args below meth c H locs 0 0 (MQ below (mQv D cl cB cI cJ cZ cS iM h0 ad A x) args s 0 0 A) (F0 m 73 ls []) := by
  intro u v1 x hf H locs hP hD hS ls hl
  obtain ⟨hx, hb, hr, hml, ht, hown, hM, hK, hA, hlocks⟩ := id C0
  unfold fb_M_arguments_73 at hf
  refine lv_aload_n hx hb d_M_arguments_73 rfl (lv_at hl 0 rfl) ?_
  refine lv_iconst (v := 1) hx hb d_M_arguments_74 (by decide) ?_
  obtain ⟨u1, r1, hc1, hf⟩ := bnd_some hf
  refine mV_v (As := [.int 1]) (rest := []) C0 hP hD hS (c_M_needSign N hM hc1) k_M_needSign hl_M_needSign hi_M_needSign hs_M_needSign hini_M rfl rfl hd_M_needSign rfl (rm_M_arguments_M_needSign hR) hl.1 (Nat.le_of_ble_eq_true rfl) d_M_arguments_75 rfl ⟨Nat.zero_le _, Nat.zero_le _⟩ (fun H locs hP hD hS => ?_)
  refine lv_aload_n hx hb d_M_arguments_78 rfl (lv_at hl 0 rfl) ?_
  refine lv_iload_n hx hb d_M_arguments_79 rfl (lv_at hl 1 rfl) ?_
  refine up_I hx hb ht hown hM hK hP hD hS 84 (by decide) lk_M_84 (by decide) rfl rfl rfl d_M_arguments_80 (fun H locs hP hD hS => ?_)
  obtain ⟨w2, e2, hf⟩ := lt_some hf
  rw [← e2] at hP hD
  exact mr_v C0 hP hD hS hf d_M_arguments_83
def fb_M_arguments_63 (N : Nat) (S : SG_M_behind) (G : (MS → Int32 → Int32 → Option (MS × Unit))) (u : MS) (v1 : Int32) : Option (MS × Unit) := bnd (fm_M_takeSign N u 6) (fun u3 r3 => G u3 (v1) (r3))
set_option maxRecDepth 100000 in
set_option maxHeartbeats 4000000 in
theorem wb_M_arguments_63 {p : Program} {l : Launch} {e : Env} {R : Room} {s : State} {m : MethodId} {args : Array Value} {below : List Frame} {meth : Method} {c : Code} {D : va_G} {cl : List vw_C} {cB cI cJ cZ cS : ClassId} {A : Nat → Prop} {iM h0 : Nat} {ad : Nat → Nat} (C0 : MCx p s m args meth c b_M_arguments 4 none D cl cB cI cJ cZ cS iM A) {d : Nat} (hR : R = rg_M_behind (d + 1)) (N : Nat) (S : SG_M_behind) (hSg : HS_M_behind l D cl cB cI cJ cZ cS iM h0 ad (rg_M_behind d) S) (G : (MS → Int32 → Int32 → Option (MS × Unit))) (hG : (∀ (u : MS) (v1 : Int32) (v2 : Int32) (x : MS × Unit), G u v1 v2 = some x → ∀ (H : Heap) (locs : List Loc), va_P D cl (wM cB cI cJ cZ cS iM h0 ad u) H → va_D A (wM cB cI cJ cZ cS iM h0 ad u) → va_S A s.heap H locs → ∀ (ls : Array Slot), lv_has ls 4 [(0, .ref h0), (1, .int v1), (2, .int v2)] → W p l e R s m args below meth c H locs 0 0 (MQ below (mQv D cl cB cI cJ cZ cS iM h0 ad A x) args s 0 0 A) (F0 m 24 ls []))) : ∀ (u : MS) (v1 : Int32) (x : MS × Unit), fb_M_arguments_63 N S G u v1 = some x → ∀ (H : Heap) (locs : List Loc), va_P D cl (wM cB cI cJ cZ cS iM h0 ad u) H → va_D A (wM cB cI cJ cZ cS iM h0 ad u) → va_S A s.heap H locs → ∀ (ls : Array Slot), lv_has ls 4 [(0, .ref h0), (1, .int v1)] → W p l e R s m args below meth c H locs 0 0 (MQ below (mQv D cl cB cI cJ cZ cS iM h0 ad A x) args s 0 0 A) (F0 m 63 ls []) := by
  intro u v1 x hf H locs hP hD hS ls hl
  obtain ⟨hx, hb, hr, hml, ht, hown, hM, hK, hA, hlocks⟩ := id C0
  unfold fb_M_arguments_63 at hf
  refine lv_aload_n hx hb d_M_arguments_63 rfl (lv_at hl 0 rfl) ?_
  refine lv_bipush (v := 6) hx hb d_M_arguments_64 (by decide) ?_
  obtain ⟨u3, r3, hc3, hf⟩ := bnd_some hf
  refine mV_i (As := [.int 6]) (rest := []) C0 hP hD hS (c_M_takeSign N hM hc3) k_M_takeSign hl_M_takeSign hi_M_takeSign hs_M_takeSign hini_M rfl rfl hd_M_takeSign rfl (rm_M_arguments_M_takeSign hR) hl.1 (Nat.le_of_ble_eq_true rfl) d_M_arguments_66 rfl ⟨Nat.zero_le _, Nat.zero_le _⟩ (fun H locs hP hD hS => ?_)
  refine lv_istore_n (lv' := [(2, .int r3), (0, .ref h0), (1, .int v1)]) hx hb d_M_arguments_69 rfl hl (by decide) rfl (fun ls hl => ?_)
  refine lv_goto (tgt := 24) hx hb d_M_arguments_70 (by decide) ?_
  exact hG _ _ _ _ hf H locs hP hD hS ls (lv_sub hl [1, 2, 0] rfl)
def fb_M_arguments_24 (N : Nat) (S : SG_M_behind) (G : (MS → Int32 → Int32 → Option (MS × Unit))) (u : MS) (v1 : Int32) (v2 : Int32) : Option (MS × Unit) := br (decide (v2 = 0)) (fb_M_arguments_73 N S G u (v1)) (br (decide ((u.1 67) = 0)) (bnd (S.2.2.2.2.2.2.2.2.2.2.2.2.2.1 u) (fun u4 r4 => br (decide ((v1 + 1) = 6)) (bnd (fm_M_isSign N u4 6) (fun u5 r5 => br (decide (r5 = 0)) (fb_M_arguments_63 N S G u5 ((v1 + 1))) (bnd (fm_M_wrong N u5 2) (fun u6 _ => fb_M_arguments_63 N S G u6 ((v1 + 1)))))) (fb_M_arguments_63 N S G u4 ((v1 + 1))))) (fb_M_arguments_73 N S G u (v1)))
set_option maxRecDepth 100000 in
set_option maxHeartbeats 4000000 in
theorem wb_M_arguments_24 {p : Program} {l : Launch} {e : Env} {R : Room} {s : State} {m : MethodId} {args : Array Value} {below : List Frame} {meth : Method} {c : Code} {D : va_G} {cl : List vw_C} {cB cI cJ cZ cS : ClassId} {A : Nat → Prop} {iM h0 : Nat} {ad : Nat → Nat} (C0 : MCx p s m args meth c b_M_arguments 4 none D cl cB cI cJ cZ cS iM A) {d : Nat} (hR : R = rg_M_behind (d + 1)) (N : Nat) (S : SG_M_behind) (hSg : HS_M_behind l D cl cB cI cJ cZ cS iM h0 ad (rg_M_behind d) S) (G : (MS → Int32 → Int32 → Option (MS × Unit))) (hG : (∀ (u : MS) (v1 : Int32) (v2 : Int32) (x : MS × Unit), G u v1 v2 = some x → ∀ (H : Heap) (locs : List Loc), va_P D cl (wM cB cI cJ cZ cS iM h0 ad u) H → va_D A (wM cB cI cJ cZ cS iM h0 ad u) → va_S A s.heap H locs → ∀ (ls : Array Slot), lv_has ls 4 [(0, .ref h0), (1, .int v1), (2, .int v2)] → W p l e R s m args below meth c H locs 0 0 (MQ below (mQv D cl cB cI cJ cZ cS iM h0 ad A x) args s 0 0 A) (F0 m 24 ls []))) : ∀ (u : MS) (v1 : Int32) (v2 : Int32) (x : MS × Unit), fb_M_arguments_24 N S G u v1 v2 = some x → ∀ (H : Heap) (locs : List Loc), va_P D cl (wM cB cI cJ cZ cS iM h0 ad u) H → va_D A (wM cB cI cJ cZ cS iM h0 ad u) → va_S A s.heap H locs → ∀ (ls : Array Slot), lv_has ls 4 [(0, .ref h0), (1, .int v1), (2, .int v2)] → W p l e R s m args below meth c H locs 0 0 (MQ below (mQv D cl cB cI cJ cZ cS iM h0 ad A x) args s 0 0 A) (F0 m 24 ls []) := by
  intro u v1 v2 x hf H locs hP hD hS ls hl
  obtain ⟨hx, hb, hr, hml, ht, hown, hM, hK, hA, hlocks⟩ := id C0
  unfold fb_M_arguments_24 at hf
  refine lv_iload_n hx hb d_M_arguments_24 rfl (lv_at hl 2 rfl) ?_
  refine lv_if_eq (tgt := 73) hx hb d_M_arguments_25 (by decide) (fun hc => ?_) (fun hc => ?_)
  · rw [br_p _ hc] at hf
    exact wb_M_arguments_73 C0 hR N S hSg G hG _ _ _ hf H locs hP hD hS ls (lv_sub hl [0, 1] rfl)
  · rw [br_n _ hc] at hf
    refine lv_aload_n hx hb d_M_arguments_28 rfl (lv_at hl 0 rfl) ?_
    refine ug_I hx hb ht hown hM hK hP 67 (by decide) lk_M_67 (by decide) d_M_arguments_29 ?_
    refine lv_if_ne (tgt := 73) hx hb d_M_arguments_32 (by decide) (fun hc => ?_) (fun hc => ?_)
    · rw [br_n _ hc] at hf
      exact wb_M_arguments_73 C0 hR N S hSg G hG _ _ _ hf H locs hP hD hS ls (lv_sub hl [0, 1] rfl)
    · rw [br_p _ hc] at hf
      refine lv_aload_n hx hb d_M_arguments_35 rfl (lv_at hl 0 rfl) ?_
      obtain ⟨u4, r4, hc4, hf⟩ := bnd_some hf
      refine mV_i (As := []) (rest := []) C0 hP hD hS (hSg.2.2.2.2.2.2.2.2.2.2.2.2.2.1 _ _ _ hc4) k_M_expression hl_M_expression hi_M_expression hs_M_expression hini_M rfl rfl hd_M_expression rfl (rm_M_arguments_M_expression hR) hl.1 (Nat.le_of_ble_eq_true rfl) d_M_arguments_36 rfl ⟨Nat.zero_le _, Nat.zero_le _⟩ (fun H locs hP hD hS => ?_)
      refine lv_istore_n (lv' := [(3, .int r4), (0, .ref h0), (1, .int v1), (2, .int v2)]) hx hb d_M_arguments_39 rfl hl (by decide) rfl (fun ls hl => ?_)
      refine lv_iinc (v := (v1 + 1)) (lv' := [(1, .int (v1 + 1)), (3, .int r4), (0, .ref h0), (2, .int v2)]) hx hb d_M_arguments_40 hl (k := 2) rfl rfl (by decide) rfl (fun ls hl => ?_)
      refine lv_iload_n hx hb d_M_arguments_43 rfl (lv_at hl 0 rfl) ?_
      refine lv_bipush (v := 6) hx hb d_M_arguments_44 (by decide) ?_
      refine lv_icmp_ne (tgt := 63) hx hb d_M_arguments_46 (by decide) (fun hc => ?_) (fun hc => ?_)
      · rw [br_n _ hc] at hf
        exact wb_M_arguments_63 C0 hR N S hSg G hG _ _ _ hf H locs hP hD hS ls (lv_sub hl [2, 0] rfl)
      · rw [br_p _ hc] at hf
        refine lv_aload_n hx hb d_M_arguments_49 rfl (lv_at hl 2 rfl) ?_
        refine lv_bipush (v := 6) hx hb d_M_arguments_50 (by decide) ?_
        obtain ⟨u5, r5, hc5, hf⟩ := bnd_some hf
        refine mV_i (As := [.int 6]) (rest := []) C0 hP hD hS (c_M_isSign N hM hc5) k_M_isSign hl_M_isSign hi_M_isSign hs_M_isSign hini_M rfl rfl hd_M_isSign rfl (rm_M_arguments_M_isSign hR) hl.1 (Nat.le_of_ble_eq_true rfl) d_M_arguments_52 rfl ⟨Nat.zero_le _, Nat.zero_le _⟩ (fun H locs hP hD hS => ?_)
        refine lv_if_eq (tgt := 63) hx hb d_M_arguments_55 (by decide) (fun hc => ?_) (fun hc => ?_)
        · rw [br_p _ hc] at hf
          exact wb_M_arguments_63 C0 hR N S hSg G hG _ _ _ hf H locs hP hD hS ls (lv_sub hl [2, 0] rfl)
        · rw [br_n _ hc] at hf
          refine lv_aload_n hx hb d_M_arguments_58 rfl (lv_at hl 2 rfl) ?_
          refine lv_iconst (v := 2) hx hb d_M_arguments_59 (by decide) ?_
          obtain ⟨u6, r6, hc6, hf⟩ := bnd_some hf
          refine mV_v (As := [.int 2]) (rest := []) C0 hP hD hS (c_M_wrong N hM hc6) k_M_wrong hl_M_wrong hi_M_wrong hs_M_wrong hini_M rfl rfl hd_M_wrong rfl (rm_M_arguments_M_wrong hR) hl.1 (Nat.le_of_ble_eq_true rfl) d_M_arguments_60 rfl ⟨Nat.zero_le _, Nat.zero_le _⟩ (fun H locs hP hD hS => ?_)
          exact wb_M_arguments_63 C0 hR N S hSg G hG _ _ _ hf H locs hP hD hS ls (lv_sub hl [2, 0] rfl)
def fb_M_arguments_0 (N : Nat) (S : SG_M_behind) (G : (MS → Int32 → Int32 → Option (MS × Unit))) (u : MS) : Option (MS × Unit) := bnd (fm_M_needSign N u 0) (fun u7 _ => br (decide ((u7.1 67) = 0)) (bnd (fm_M_isSign N u7 1) (fun u8 r8 => br (decide (r8 = 0)) (G u8 (0) (1)) (fb_M_arguments_73 N S G u8 (0)))) (fb_M_arguments_73 N S G u7 (0)))
set_option maxRecDepth 100000 in
set_option maxHeartbeats 4000000 in
theorem wb_M_arguments_0 {p : Program} {l : Launch} {e : Env} {R : Room} {s : State} {m : MethodId} {args : Array Value} {below : List Frame} {meth : Method} {c : Code} {D : va_G} {cl : List vw_C} {cB cI cJ cZ cS : ClassId} {A : Nat → Prop} {iM h0 : Nat} {ad : Nat → Nat} (C0 : MCx p s m args meth c b_M_arguments 4 none D cl cB cI cJ cZ cS iM A) {d : Nat} (hR : R = rg_M_behind (d + 1)) (N : Nat) (S : SG_M_behind) (hSg : HS_M_behind l D cl cB cI cJ cZ cS iM h0 ad (rg_M_behind d) S) (G : (MS → Int32 → Int32 → Option (MS × Unit))) (hG : (∀ (u : MS) (v1 : Int32) (v2 : Int32) (x : MS × Unit), G u v1 v2 = some x → ∀ (H : Heap) (locs : List Loc), va_P D cl (wM cB cI cJ cZ cS iM h0 ad u) H → va_D A (wM cB cI cJ cZ cS iM h0 ad u) → va_S A s.heap H locs → ∀ (ls : Array Slot), lv_has ls 4 [(0, .ref h0), (1, .int v1), (2, .int v2)] → W p l e R s m args below meth c H locs 0 0 (MQ below (mQv D cl cB cI cJ cZ cS iM h0 ad A x) args s 0 0 A) (F0 m 24 ls []))) : ∀ (u : MS) (x : MS × Unit), fb_M_arguments_0 N S G u = some x → ∀ (H : Heap) (locs : List Loc), va_P D cl (wM cB cI cJ cZ cS iM h0 ad u) H → va_D A (wM cB cI cJ cZ cS iM h0 ad u) → va_S A s.heap H locs → ∀ (ls : Array Slot), lv_has ls 4 [(0, .ref h0)] → W p l e R s m args below meth c H locs 0 0 (MQ below (mQv D cl cB cI cJ cZ cS iM h0 ad A x) args s 0 0 A) (F0 m 0 ls []) := by
  intro u x hf H locs hP hD hS ls hl
  obtain ⟨hx, hb, hr, hml, ht, hown, hM, hK, hA, hlocks⟩ := id C0
  unfold fb_M_arguments_0 at hf
  refine lv_iconst (v := 0) hx hb d_M_arguments_0 (by decide) ?_
  refine lv_istore_n (lv' := [(1, .int 0), (0, .ref h0)]) hx hb d_M_arguments_1 rfl hl (by decide) rfl (fun ls hl => ?_)
  refine lv_aload_n hx hb d_M_arguments_2 rfl (lv_at hl 1 rfl) ?_
  refine lv_iconst (v := 0) hx hb d_M_arguments_3 (by decide) ?_
  obtain ⟨u7, r7, hc7, hf⟩ := bnd_some hf
  refine mV_v (As := [.int 0]) (rest := []) C0 hP hD hS (c_M_needSign N hM hc7) k_M_needSign hl_M_needSign hi_M_needSign hs_M_needSign hini_M rfl rfl hd_M_needSign rfl (rm_M_arguments_M_needSign hR) hl.1 (Nat.le_of_ble_eq_true rfl) d_M_arguments_4 rfl ⟨Nat.zero_le _, Nat.zero_le _⟩ (fun H locs hP hD hS => ?_)
  refine lv_aload_n hx hb d_M_arguments_7 rfl (lv_at hl 1 rfl) ?_
  refine ug_I hx hb ht hown hM hK hP 67 (by decide) lk_M_67 (by decide) d_M_arguments_8 ?_
  refine lv_if_ne (tgt := 73) hx hb d_M_arguments_11 (by decide) (fun hc => ?_) (fun hc => ?_)
  · rw [br_n _ hc] at hf
    exact wb_M_arguments_73 C0 hR N S hSg G hG _ _ _ hf H locs hP hD hS ls (lv_sub hl [1, 0] rfl)
  · rw [br_p _ hc] at hf
    refine lv_aload_n hx hb d_M_arguments_14 rfl (lv_at hl 1 rfl) ?_
    refine lv_iconst (v := 1) hx hb d_M_arguments_15 (by decide) ?_
    obtain ⟨u8, r8, hc8, hf⟩ := bnd_some hf
    refine mV_i (As := [.int 1]) (rest := []) C0 hP hD hS (c_M_isSign N hM hc8) k_M_isSign hl_M_isSign hi_M_isSign hs_M_isSign hini_M rfl rfl hd_M_isSign rfl (rm_M_arguments_M_isSign hR) hl.1 (Nat.le_of_ble_eq_true rfl) d_M_arguments_16 rfl ⟨Nat.zero_le _, Nat.zero_le _⟩ (fun H locs hP hD hS => ?_)
    refine lv_if_ne (tgt := 73) hx hb d_M_arguments_19 (by decide) (fun hc => ?_) (fun hc => ?_)
    · rw [br_n _ hc] at hf
      exact wb_M_arguments_73 C0 hR N S hSg G hG _ _ _ hf H locs hP hD hS ls (lv_sub hl [1, 0] rfl)
    · rw [br_p _ hc] at hf
      refine lv_iconst (v := 1) hx hb d_M_arguments_22 (by decide) ?_
      refine lv_istore_n (lv' := [(2, .int 1), (1, .int 0), (0, .ref h0)]) hx hb d_M_arguments_23 rfl hl (by decide) rfl (fun ls hl => ?_)
      exact hG _ _ _ _ hf H locs hP hD hS ls (lv_sub hl [2, 1, 0] rfl)
def gg_M_arguments (N : Nat) (S : SG_M_behind) : Nat → ((MS → Int32 → Int32 → Option (MS × Unit)))
  | 0 => fun _ _ _ => none
  | n + 1 => fb_M_arguments_24 N S (gg_M_arguments N S n)
theorem wg_M_arguments {p : Program} {l : Launch} {e : Env} {R : Room} {s : State} {m : MethodId} {args : Array Value} {below : List Frame} {meth : Method} {c : Code} {D : va_G} {cl : List vw_C} {cB cI cJ cZ cS : ClassId} {A : Nat → Prop} {iM h0 : Nat} {ad : Nat → Nat} (C0 : MCx p s m args meth c b_M_arguments 4 none D cl cB cI cJ cZ cS iM A) {d : Nat} (hR : R = rg_M_behind (d + 1)) (N : Nat) (S : SG_M_behind) (hSg : HS_M_behind l D cl cB cI cJ cZ cS iM h0 ad (rg_M_behind d) S) : ∀ n : Nat, (∀ (u : MS) (v1 : Int32) (v2 : Int32) (x : MS × Unit), gg_M_arguments N S n u v1 v2 = some x → ∀ (H : Heap) (locs : List Loc), va_P D cl (wM cB cI cJ cZ cS iM h0 ad u) H → va_D A (wM cB cI cJ cZ cS iM h0 ad u) → va_S A s.heap H locs → ∀ (ls : Array Slot), lv_has ls 4 [(0, .ref h0), (1, .int v1), (2, .int v2)] → W p l e R s m args below meth c H locs 0 0 (MQ below (mQv D cl cB cI cJ cZ cS iM h0 ad A x) args s 0 0 A) (F0 m 24 ls []))
  | 0 => (fun u v1 v2 x hf => by cases hf)
  | n + 1 => wb_M_arguments_24 C0 hR N S hSg (gg_M_arguments N S n) (wg_M_arguments C0 hR N S hSg n)
def fm_M_arguments (N : Nat) (S : SG_M_behind) (u : MS) : Option (MS × Unit) := fb_M_arguments_0 N S (gg_M_arguments N S N) u
set_option maxRecDepth 100000 in
set_option maxHeartbeats 4000000 in
theorem cs_M_arguments (N : Nat) {d : Nat} {l : Launch} {D : va_G} {cl : List vw_C} {cB cI cJ cZ cS : ClassId} {iM h0 : Nat} {ad : Nat → Nat} {u : MS} {sz : Nat} {x : MS × Unit} (hM : cl[iM]? = some (R_M, F_M, 171)) (S : SG_M_behind) (hSg : HS_M_behind l D cl cB cI cJ cZ cS iM h0 ad (rg_M_behind d) S) (hf : fm_M_arguments N S u = some x) : Met l y_M_arguments (wd_ws y_M_arguments b_M_arguments 4 none) (rg_M_behind (d + 1)) (mPc D cl cB cI cJ cZ cS iM h0 ad u sz [.ref h0]) (mQv D cl cB cI cJ cZ cS iM h0 ad (mA cB cI cJ cZ cS iM h0 ad u sz) x) 0 0 (mA cB cI cJ cZ cS iM h0 ad u sz) :=
  mMet (by decide) rfl hM (Nat.le_of_ble_eq_true rfl) (fun p e s m below meth c ls hsz C0 hP hD hS hl => by
    have hR : (rg_M_behind (d + 1)) = (rg_M_behind (d + 1)) := rfl
    exact wb_M_arguments_0 C0 hR N S hSg (gg_M_arguments N S N) (wg_M_arguments C0 hR N S hSg N) u x hf s.heap [] hP hD hS ls (lv_sub hl [0] rfl))
theorem rm_M_primary_M_node {R : Room} {d : Nat} (hR : R = rg_M_behind (d + 1)) : (rm_M_node).frames + 1 ≤ R.frames ∧ 8 + (3 + 11) + (rm_M_node).locals ≤ R.locals := by
  subst hR
  have h1 : (rm_M_node).frames = 0 := rfl
  have h2 : (rm_M_node).locals = 0 := rfl
  show (rm_M_node).frames + 1 ≤ 94 + (d + 1) ∧ 8 + (3 + 11) + (rm_M_node).locals ≤ 2494 + 29 * (d + 1)
  omega
theorem rm_M_primary_M_isSign {R : Room} {d : Nat} (hR : R = rg_M_behind (d + 1)) : (rm_M_isSign).frames + 1 ≤ R.frames ∧ 8 + (2 + 11) + (rm_M_isSign).locals ≤ R.locals := by
  subst hR
  have h1 : (rm_M_isSign).frames = 0 := rfl
  have h2 : (rm_M_isSign).locals = 0 := rfl
  show (rm_M_isSign).frames + 1 ≤ 94 + (d + 1) ∧ 8 + (2 + 11) + (rm_M_isSign).locals ≤ 2494 + 29 * (d + 1)
  omega
theorem rm_M_primary_M_rule {R : Room} {d : Nat} (hR : R = rg_M_behind (d + 1)) : (rm_M_rule).frames + 1 ≤ R.frames ∧ 8 + (3 + 11) + (rm_M_rule).locals ≤ R.locals := by
  subst hR
  have h1 : (rm_M_rule).frames = 0 := rfl
  have h2 : (rm_M_rule).locals = 0 := rfl
  show (rm_M_rule).frames + 1 ≤ 94 + (d + 1) ∧ 8 + (3 + 11) + (rm_M_rule).locals ≤ 2494 + 29 * (d + 1)
  omega
theorem rm_M_primary_M_arguments {R : Room} {d : Nat} (hR : R = rg_M_behind (d + 1)) : (rg_M_behind d).frames + 1 ≤ R.frames ∧ 8 + (4 + 11) + (rg_M_behind d).locals ≤ R.locals := by
  subst hR
  show 94 + d + 1 ≤ 94 + (d + 1) ∧ 8 + (4 + 11) + (2494 + 29 * d) ≤ 2494 + 29 * (d + 1)
  omega
theorem rm_M_primary_M_alone {R : Room} {d : Nat} (hR : R = rg_M_behind (d + 1)) : (rg_M_behind d).frames + 1 ≤ R.frames ∧ 8 + (4 + 11) + (rg_M_behind d).locals ≤ R.locals := by
  subst hR
  show 94 + d + 1 ≤ 94 + (d + 1) ∧ 8 + (4 + 11) + (2494 + 29 * d) ≤ 2494 + 29 * (d + 1)
  omega
def fb_M_primary_182 (N : Nat) (S : SG_M_behind) (G : (MS → Int32 → Int32 → Option (MS × Int32))) (u : MS) (v2 : Int32) : Option (MS × Int32) := some (u, v2)
set_option maxRecDepth 100000 in
set_option maxHeartbeats 4000000 in
theorem wb_M_primary_182 {p : Program} {l : Launch} {e : Env} {R : Room} {s : State} {m : MethodId} {args : Array Value} {below : List Frame} {meth : Method} {c : Code} {D : va_G} {cl : List vw_C} {cB cI cJ cZ cS : ClassId} {A : Nat → Prop} {iM h0 : Nat} {ad : Nat → Nat} (C0 : MCx p s m args meth c b_M_primary 3 (some .int) D cl cB cI cJ cZ cS iM A) {d : Nat} (hR : R = rg_M_behind (d + 1)) (N : Nat) (S : SG_M_behind) (hSg : HS_M_behind l D cl cB cI cJ cZ cS iM h0 ad (rg_M_behind d) S) (G : (MS → Int32 → Int32 → Option (MS × Int32))) (hG : (∀ (u : MS) (v1 : Int32) (v2 : Int32) (x : MS × Int32), G u v1 v2 = some x → ∀ (H : Heap) (locs : List Loc), va_P D cl (wM cB cI cJ cZ cS iM h0 ad u) H → va_D A (wM cB cI cJ cZ cS iM h0 ad u) → va_S A s.heap H locs → ∀ (ls : Array Slot), lv_has ls 3 [(0, .ref h0), (1, .int v1), (2, .int v2)] → W p l e R s m args below meth c H locs 0 0 (MQ below (mQi D cl cB cI cJ cZ cS iM h0 ad A x) args s 0 0 A) (F0 m 128 ls []))) : ∀ (u : MS) (v2 : Int32) (x : MS × Int32), fb_M_primary_182 N S G u v2 = some x → ∀ (H : Heap) (locs : List Loc), va_P D cl (wM cB cI cJ cZ cS iM h0 ad u) H → va_D A (wM cB cI cJ cZ cS iM h0 ad u) → va_S A s.heap H locs → ∀ (ls : Array Slot), lv_has ls 3 [(2, .int v2)] → W p l e R s m args below meth c H locs 0 0 (MQ below (mQi D cl cB cI cJ cZ cS iM h0 ad A x) args s 0 0 A) (F0 m 182 ls []) := by
  intro u v2 x hf H locs hP hD hS ls hl
  obtain ⟨hx, hb, hr, hml, ht, hown, hM, hK, hA, hlocks⟩ := id C0
  unfold fb_M_primary_182 at hf
  refine lv_iload_n hx hb d_M_primary_182 rfl (lv_at hl 0 rfl) ?_
  exact mr_i C0 hP hD hS hf d_M_primary_183
def fb_M_primary_157 (N : Nat) (S : SG_M_behind) (G : (MS → Int32 → Int32 → Option (MS × Int32))) (u : MS) (v1 : Int32) : Option (MS × Int32) := bnd (S.2.2.2.2.2.2.2.2.2.1 u) (fun u1 _ => bnd (fm_M_node N u1 13 v1) (fun u2 r2 => ck (inb r2 (ln 26)) (lt (upA u2 26 (upd (u2.2.2.1 26) r2.toNatClampNeg (u2.1 84))) (fun w3 => G w3 (v1) (r2)))))
set_option maxRecDepth 100000 in
set_option maxHeartbeats 4000000 in
theorem wb_M_primary_157 {p : Program} {l : Launch} {e : Env} {R : Room} {s : State} {m : MethodId} {args : Array Value} {below : List Frame} {meth : Method} {c : Code} {D : va_G} {cl : List vw_C} {cB cI cJ cZ cS : ClassId} {A : Nat → Prop} {iM h0 : Nat} {ad : Nat → Nat} (C0 : MCx p s m args meth c b_M_primary 3 (some .int) D cl cB cI cJ cZ cS iM A) {d : Nat} (hR : R = rg_M_behind (d + 1)) (N : Nat) (S : SG_M_behind) (hSg : HS_M_behind l D cl cB cI cJ cZ cS iM h0 ad (rg_M_behind d) S) (G : (MS → Int32 → Int32 → Option (MS × Int32))) (hG : (∀ (u : MS) (v1 : Int32) (v2 : Int32) (x : MS × Int32), G u v1 v2 = some x → ∀ (H : Heap) (locs : List Loc), va_P D cl (wM cB cI cJ cZ cS iM h0 ad u) H → va_D A (wM cB cI cJ cZ cS iM h0 ad u) → va_S A s.heap H locs → ∀ (ls : Array Slot), lv_has ls 3 [(0, .ref h0), (1, .int v1), (2, .int v2)] → W p l e R s m args below meth c H locs 0 0 (MQ below (mQi D cl cB cI cJ cZ cS iM h0 ad A x) args s 0 0 A) (F0 m 128 ls []))) : ∀ (u : MS) (v1 : Int32) (x : MS × Int32), fb_M_primary_157 N S G u v1 = some x → ∀ (H : Heap) (locs : List Loc), va_P D cl (wM cB cI cJ cZ cS iM h0 ad u) H → va_D A (wM cB cI cJ cZ cS iM h0 ad u) → va_S A s.heap H locs → ∀ (ls : Array Slot), lv_has ls 3 [(0, .ref h0), (1, .int v1)] → W p l e R s m args below meth c H locs 0 0 (MQ below (mQi D cl cB cI cJ cZ cS iM h0 ad A x) args s 0 0 A) (F0 m 157 ls []) := by
  intro u v1 x hf H locs hP hD hS ls hl
  obtain ⟨hx, hb, hr, hml, ht, hown, hM, hK, hA, hlocks⟩ := id C0
  unfold fb_M_primary_157 at hf
  refine lv_aload_n hx hb d_M_primary_157 rfl (lv_at hl 0 rfl) ?_
  obtain ⟨u1, r1, hc1, hf⟩ := bnd_some hf
  refine mV_v (As := []) (rest := []) C0 hP hD hS (hSg.2.2.2.2.2.2.2.2.2.1 _ _ _ hc1) k_M_arguments hl_M_arguments hi_M_arguments hs_M_arguments hini_M rfl rfl hd_M_arguments rfl (rm_M_primary_M_arguments hR) hl.1 (Nat.le_of_ble_eq_true rfl) d_M_primary_158 rfl ⟨Nat.zero_le _, Nat.zero_le _⟩ (fun H locs hP hD hS => ?_)
  refine lv_aload_n hx hb d_M_primary_161 rfl (lv_at hl 0 rfl) ?_
  refine lv_bipush (v := 13) hx hb d_M_primary_162 (by decide) ?_
  refine lv_iload_n hx hb d_M_primary_164 rfl (lv_at hl 1 rfl) ?_
  obtain ⟨u2, r2, hc2, hf⟩ := bnd_some hf
  refine mV_i (As := [.int 13, .int v1]) (rest := []) C0 hP hD hS (c_M_node N hM hc2) k_M_node hl_M_node hi_M_node hs_M_node hini_M rfl rfl hd_M_node rfl (rm_M_primary_M_node hR) hl.1 (Nat.le_of_ble_eq_true rfl) d_M_primary_165 rfl ⟨Nat.zero_le _, Nat.zero_le _⟩ (fun H locs hP hD hS => ?_)
  refine lv_istore_n (lv' := [(2, .int r2), (0, .ref h0), (1, .int v1)]) hx hb d_M_primary_168 rfl hl (by decide) rfl (fun ls hl => ?_)
  refine lv_aload_n hx hb d_M_primary_169 rfl (lv_at hl 1 rfl) ?_
  refine ug_R hx hb ht hown hM hK hP 26 (by decide) lk_M_26 (by decide) d_M_primary_170 ?_
  refine lv_iload_n hx hb d_M_primary_173 rfl (lv_at hl 0 rfl) ?_
  refine lv_aload_n hx hb d_M_primary_174 rfl (lv_at hl 1 rfl) ?_
  refine ug_I hx hb ht hown hM hK hP 84 (by decide) lk_M_84 (by decide) d_M_primary_175 ?_
  obtain ⟨hi9, hf⟩ := ck_some hf
  refine us_I hx hb hK hP hD hS (by decide) (by decide) hi9 d_M_primary_178 (fun H locs hP hD hS => ?_)
  obtain ⟨w3, e3, hf⟩ := lt_some hf
  rw [← e3] at hP hD
  refine lv_goto (tgt := 128) hx hb d_M_primary_179 (by decide) ?_
  exact hG _ _ _ _ hf H locs hP hD hS ls (lv_sub hl [1, 2, 0] rfl)
def fb_M_primary_128 (N : Nat) (S : SG_M_behind) (G : (MS → Int32 → Int32 → Option (MS × Int32))) (u : MS) (v1 : Int32) (v2 : Int32) : Option (MS × Int32) := br (decide ((u.1 67) = 0)) (bnd (fm_M_isSign N u 0) (fun u4 r4 => br (decide (r4 = 0)) (fb_M_primary_182 N S G u4 (v2)) (br (decide ((u4.1 73) = 0)) (fb_M_primary_157 N S G u4 (v1)) (bnd (fm_M_rule N u4 7 v1) (fun u5 _ => fb_M_primary_157 N S G u5 (v1)))))) (fb_M_primary_182 N S G u (v2))
set_option maxRecDepth 100000 in
set_option maxHeartbeats 4000000 in
theorem wb_M_primary_128 {p : Program} {l : Launch} {e : Env} {R : Room} {s : State} {m : MethodId} {args : Array Value} {below : List Frame} {meth : Method} {c : Code} {D : va_G} {cl : List vw_C} {cB cI cJ cZ cS : ClassId} {A : Nat → Prop} {iM h0 : Nat} {ad : Nat → Nat} (C0 : MCx p s m args meth c b_M_primary 3 (some .int) D cl cB cI cJ cZ cS iM A) {d : Nat} (hR : R = rg_M_behind (d + 1)) (N : Nat) (S : SG_M_behind) (hSg : HS_M_behind l D cl cB cI cJ cZ cS iM h0 ad (rg_M_behind d) S) (G : (MS → Int32 → Int32 → Option (MS × Int32))) (hG : (∀ (u : MS) (v1 : Int32) (v2 : Int32) (x : MS × Int32), G u v1 v2 = some x → ∀ (H : Heap) (locs : List Loc), va_P D cl (wM cB cI cJ cZ cS iM h0 ad u) H → va_D A (wM cB cI cJ cZ cS iM h0 ad u) → va_S A s.heap H locs → ∀ (ls : Array Slot), lv_has ls 3 [(0, .ref h0), (1, .int v1), (2, .int v2)] → W p l e R s m args below meth c H locs 0 0 (MQ below (mQi D cl cB cI cJ cZ cS iM h0 ad A x) args s 0 0 A) (F0 m 128 ls []))) : ∀ (u : MS) (v1 : Int32) (v2 : Int32) (x : MS × Int32), fb_M_primary_128 N S G u v1 v2 = some x → ∀ (H : Heap) (locs : List Loc), va_P D cl (wM cB cI cJ cZ cS iM h0 ad u) H → va_D A (wM cB cI cJ cZ cS iM h0 ad u) → va_S A s.heap H locs → ∀ (ls : Array Slot), lv_has ls 3 [(0, .ref h0), (1, .int v1), (2, .int v2)] → W p l e R s m args below meth c H locs 0 0 (MQ below (mQi D cl cB cI cJ cZ cS iM h0 ad A x) args s 0 0 A) (F0 m 128 ls []) := by
  intro u v1 v2 x hf H locs hP hD hS ls hl
  obtain ⟨hx, hb, hr, hml, ht, hown, hM, hK, hA, hlocks⟩ := id C0
  unfold fb_M_primary_128 at hf
  refine lv_aload_n hx hb d_M_primary_128 rfl (lv_at hl 0 rfl) ?_
  refine ug_I hx hb ht hown hM hK hP 67 (by decide) lk_M_67 (by decide) d_M_primary_129 ?_
  refine lv_if_ne (tgt := 182) hx hb d_M_primary_132 (by decide) (fun hc => ?_) (fun hc => ?_)
  · rw [br_n _ hc] at hf
    exact wb_M_primary_182 C0 hR N S hSg G hG _ _ _ hf H locs hP hD hS ls (lv_sub hl [2] rfl)
  · rw [br_p _ hc] at hf
    refine lv_aload_n hx hb d_M_primary_135 rfl (lv_at hl 0 rfl) ?_
    refine lv_iconst (v := 0) hx hb d_M_primary_136 (by decide) ?_
    obtain ⟨u4, r4, hc4, hf⟩ := bnd_some hf
    refine mV_i (As := [.int 0]) (rest := []) C0 hP hD hS (c_M_isSign N hM hc4) k_M_isSign hl_M_isSign hi_M_isSign hs_M_isSign hini_M rfl rfl hd_M_isSign rfl (rm_M_primary_M_isSign hR) hl.1 (Nat.le_of_ble_eq_true rfl) d_M_primary_137 rfl ⟨Nat.zero_le _, Nat.zero_le _⟩ (fun H locs hP hD hS => ?_)
    refine lv_if_eq (tgt := 182) hx hb d_M_primary_140 (by decide) (fun hc => ?_) (fun hc => ?_)
    · rw [br_p _ hc] at hf
      exact wb_M_primary_182 C0 hR N S hSg G hG _ _ _ hf H locs hP hD hS ls (lv_sub hl [2] rfl)
    · rw [br_n _ hc] at hf
      refine lv_aload_n hx hb d_M_primary_143 rfl (lv_at hl 0 rfl) ?_
      refine ug_I hx hb ht hown hM hK hP 73 (by decide) lk_M_73 (by decide) d_M_primary_144 ?_
      refine lv_if_eq (tgt := 157) hx hb d_M_primary_147 (by decide) (fun hc => ?_) (fun hc => ?_)
      · rw [br_p _ hc] at hf
        exact wb_M_primary_157 C0 hR N S hSg G hG _ _ _ hf H locs hP hD hS ls (lv_sub hl [0, 1] rfl)
      · rw [br_n _ hc] at hf
        refine lv_aload_n hx hb d_M_primary_150 rfl (lv_at hl 0 rfl) ?_
        refine lv_bipush (v := 7) hx hb d_M_primary_151 (by decide) ?_
        refine lv_iload_n hx hb d_M_primary_153 rfl (lv_at hl 1 rfl) ?_
        obtain ⟨u5, r5, hc5, hf⟩ := bnd_some hf
        refine mV_v (As := [.int 7, .int v1]) (rest := []) C0 hP hD hS (c_M_rule N hM hc5) k_M_rule hl_M_rule hi_M_rule hs_M_rule hini_M rfl rfl hd_M_rule rfl (rm_M_primary_M_rule hR) hl.1 (Nat.le_of_ble_eq_true rfl) d_M_primary_154 rfl ⟨Nat.zero_le _, Nat.zero_le _⟩ (fun H locs hP hD hS => ?_)
        exact wb_M_primary_157 C0 hR N S hSg G hG _ _ _ hf H locs hP hD hS ls (lv_sub hl [0, 1] rfl)
def fb_M_primary_122 (N : Nat) (S : SG_M_behind) (G : (MS → Int32 → Int32 → Option (MS × Int32))) (u : MS) (v1 : Int32) : Option (MS × Int32) := bnd (S.2.2.2.2.2.2.2.2.1 u v1) (fun u6 r6 => G u6 (v1) (r6))
set_option maxRecDepth 100000 in
set_option maxHeartbeats 4000000 in
theorem wb_M_primary_122 {p : Program} {l : Launch} {e : Env} {R : Room} {s : State} {m : MethodId} {args : Array Value} {below : List Frame} {meth : Method} {c : Code} {D : va_G} {cl : List vw_C} {cB cI cJ cZ cS : ClassId} {A : Nat → Prop} {iM h0 : Nat} {ad : Nat → Nat} (C0 : MCx p s m args meth c b_M_primary 3 (some .int) D cl cB cI cJ cZ cS iM A) {d : Nat} (hR : R = rg_M_behind (d + 1)) (N : Nat) (S : SG_M_behind) (hSg : HS_M_behind l D cl cB cI cJ cZ cS iM h0 ad (rg_M_behind d) S) (G : (MS → Int32 → Int32 → Option (MS × Int32))) (hG : (∀ (u : MS) (v1 : Int32) (v2 : Int32) (x : MS × Int32), G u v1 v2 = some x → ∀ (H : Heap) (locs : List Loc), va_P D cl (wM cB cI cJ cZ cS iM h0 ad u) H → va_D A (wM cB cI cJ cZ cS iM h0 ad u) → va_S A s.heap H locs → ∀ (ls : Array Slot), lv_has ls 3 [(0, .ref h0), (1, .int v1), (2, .int v2)] → W p l e R s m args below meth c H locs 0 0 (MQ below (mQi D cl cB cI cJ cZ cS iM h0 ad A x) args s 0 0 A) (F0 m 128 ls []))) : ∀ (u : MS) (v1 : Int32) (x : MS × Int32), fb_M_primary_122 N S G u v1 = some x → ∀ (H : Heap) (locs : List Loc), va_P D cl (wM cB cI cJ cZ cS iM h0 ad u) H → va_D A (wM cB cI cJ cZ cS iM h0 ad u) → va_S A s.heap H locs → ∀ (ls : Array Slot), lv_has ls 3 [(0, .ref h0), (1, .int v1)] → W p l e R s m args below meth c H locs 0 0 (MQ below (mQi D cl cB cI cJ cZ cS iM h0 ad A x) args s 0 0 A) (F0 m 122 ls []) := by
  intro u v1 x hf H locs hP hD hS ls hl
  obtain ⟨hx, hb, hr, hml, ht, hown, hM, hK, hA, hlocks⟩ := id C0
  unfold fb_M_primary_122 at hf
  refine lv_aload_n hx hb d_M_primary_122 rfl (lv_at hl 0 rfl) ?_
  refine lv_iload_n hx hb d_M_primary_123 rfl (lv_at hl 1 rfl) ?_
  obtain ⟨u6, r6, hc6, hf⟩ := bnd_some hf
  refine mV_i (As := [.int v1]) (rest := []) C0 hP hD hS (hSg.2.2.2.2.2.2.2.2.1 _ _ _ _ hc6) k_M_alone hl_M_alone hi_M_alone hs_M_alone hini_M rfl rfl hd_M_alone rfl (rm_M_primary_M_alone hR) hl.1 (Nat.le_of_ble_eq_true rfl) d_M_primary_124 rfl ⟨Nat.zero_le _, Nat.zero_le _⟩ (fun H locs hP hD hS => ?_)
  refine lv_istore_n (lv' := [(2, .int r6), (0, .ref h0), (1, .int v1)]) hx hb d_M_primary_127 rfl hl (by decide) rfl (fun ls hl => ?_)
  exact hG _ _ _ _ hf H locs hP hD hS ls (lv_sub hl [1, 2, 0] rfl)
def fb_M_primary_118 (N : Nat) (S : SG_M_behind) (G : (MS → Int32 → Int32 → Option (MS × Int32))) (u : MS) (v1 : Int32) (v2 : Int32) (t0 : Nat) (t1 : Int32) (t2 : Int32) : Option (MS × Int32) := ck (isK t0 4) (ck (inb t1 (ln t0)) (lt (upA u t0 (upd (u.2.2.1 t0) t1.toNatClampNeg t2)) (fun w7 => G w7 (v1) (v2))))
set_option maxRecDepth 100000 in
set_option maxHeartbeats 4000000 in
theorem wb_M_primary_118 {p : Program} {l : Launch} {e : Env} {R : Room} {s : State} {m : MethodId} {args : Array Value} {below : List Frame} {meth : Method} {c : Code} {D : va_G} {cl : List vw_C} {cB cI cJ cZ cS : ClassId} {A : Nat → Prop} {iM h0 : Nat} {ad : Nat → Nat} (C0 : MCx p s m args meth c b_M_primary 3 (some .int) D cl cB cI cJ cZ cS iM A) {d : Nat} (hR : R = rg_M_behind (d + 1)) (N : Nat) (S : SG_M_behind) (hSg : HS_M_behind l D cl cB cI cJ cZ cS iM h0 ad (rg_M_behind d) S) (G : (MS → Int32 → Int32 → Option (MS × Int32))) (hG : (∀ (u : MS) (v1 : Int32) (v2 : Int32) (x : MS × Int32), G u v1 v2 = some x → ∀ (H : Heap) (locs : List Loc), va_P D cl (wM cB cI cJ cZ cS iM h0 ad u) H → va_D A (wM cB cI cJ cZ cS iM h0 ad u) → va_S A s.heap H locs → ∀ (ls : Array Slot), lv_has ls 3 [(0, .ref h0), (1, .int v1), (2, .int v2)] → W p l e R s m args below meth c H locs 0 0 (MQ below (mQi D cl cB cI cJ cZ cS iM h0 ad A x) args s 0 0 A) (F0 m 128 ls []))) : ∀ (u : MS) (v1 : Int32) (v2 : Int32) (t0 : Nat) (t1 : Int32) (t2 : Int32) (x : MS × Int32), fb_M_primary_118 N S G u v1 v2 t0 t1 t2 = some x → ∀ (H : Heap) (locs : List Loc), va_P D cl (wM cB cI cJ cZ cS iM h0 ad u) H → va_D A (wM cB cI cJ cZ cS iM h0 ad u) → va_S A s.heap H locs → ∀ (ls : Array Slot), lv_has ls 3 [(0, .ref h0), (1, .int v1), (2, .int v2)] → W p l e R s m args below meth c H locs 0 0 (MQ below (mQi D cl cB cI cJ cZ cS iM h0 ad A x) args s 0 0 A) (F0 m 118 ls [.int t2, .int t1, .ref (ad t0)]) := by
  intro u v1 v2 t0 t1 t2 x hf H locs hP hD hS ls hl
  obtain ⟨hx, hb, hr, hml, ht, hown, hM, hK, hA, hlocks⟩ := id C0
  unfold fb_M_primary_118 at hf
  obtain ⟨hk9, hf⟩ := ck_some hf
  obtain ⟨hi9, hf⟩ := ck_some hf
  refine us_I hx hb hK hP hD hS (isK_1 hk9) (isK_2 hk9) hi9 d_M_primary_118 (fun H locs hP hD hS => ?_)
  obtain ⟨w7, e7, hf⟩ := lt_some hf
  rw [← e7] at hP hD
  refine lv_goto (tgt := 128) hx hb d_M_primary_119 (by decide) ?_
  exact hG _ _ _ _ hf H locs hP hD hS ls (lv_sub hl [0, 1, 2] rfl)
def fb_M_primary_0 (N : Nat) (S : SG_M_behind) (G : (MS → Int32 → Int32 → Option (MS × Int32))) (u : MS) : Option (MS × Int32) := br (decide ((u.1 67) = 0)) (ck (inb (u.1 69) (ln 6)) (br (decide ((u.2.2.1 6 (u.1 69).toNatClampNeg) = 1)) (ck (inb ((u.1 69) + 1) (ln 6)) (br (decide ((u.2.2.1 6 ((u.1 69) + 1).toNatClampNeg) = 6)) (ck (inb ((u.1 69) + 1) (ln 7)) (br (decide ((u.2.2.1 7 ((u.1 69) + 1).toNatClampNeg) = 0)) (lt (upI u 69 ((u.1 69) + 1)) (fun w8 => bnd (S.2.2.2.2.2.2.2.2.2.1 w8) (fun u9 _ => bnd (fm_M_node N u9 12 (u.1 69)) (fun u10 r10 => ck (inb (u.1 69) (ln 7)) (ck (inb r10 (ln 25)) (lt (upA u10 25 (upd (u10.2.2.1 25) r10.toNatClampNeg (u10.2.2.1 7 (u.1 69).toNatClampNeg))) (fun w11 => ck (inb r10 (ln 26)) (lt (upA w11 26 (upd (w11.2.2.1 26) r10.toNatClampNeg (w11.1 84))) (fun w12 => br (decide ((w12.1 73) = 0)) (fb_M_primary_118 N S G w12 ((u.1 69)) (r10) (27) (r10) (0)) (fb_M_primary_118 N S G w12 ((u.1 69)) (r10) (27) (r10) (1))))))))))) (fb_M_primary_122 N S G u ((u.1 69))))) (fb_M_primary_122 N S G u ((u.1 69))))) (fb_M_primary_122 N S G u ((u.1 69))))) (some (u, (-1)))
set_option maxRecDepth 100000 in
set_option maxHeartbeats 4000000 in
theorem wb_M_primary_0 {p : Program} {l : Launch} {e : Env} {R : Room} {s : State} {m : MethodId} {args : Array Value} {below : List Frame} {meth : Method} {c : Code} {D : va_G} {cl : List vw_C} {cB cI cJ cZ cS : ClassId} {A : Nat → Prop} {iM h0 : Nat} {ad : Nat → Nat} (C0 : MCx p s m args meth c b_M_primary 3 (some .int) D cl cB cI cJ cZ cS iM A) {d : Nat} (hR : R = rg_M_behind (d + 1)) (N : Nat) (S : SG_M_behind) (hSg : HS_M_behind l D cl cB cI cJ cZ cS iM h0 ad (rg_M_behind d) S) (G : (MS → Int32 → Int32 → Option (MS × Int32))) (hG : (∀ (u : MS) (v1 : Int32) (v2 : Int32) (x : MS × Int32), G u v1 v2 = some x → ∀ (H : Heap) (locs : List Loc), va_P D cl (wM cB cI cJ cZ cS iM h0 ad u) H → va_D A (wM cB cI cJ cZ cS iM h0 ad u) → va_S A s.heap H locs → ∀ (ls : Array Slot), lv_has ls 3 [(0, .ref h0), (1, .int v1), (2, .int v2)] → W p l e R s m args below meth c H locs 0 0 (MQ below (mQi D cl cB cI cJ cZ cS iM h0 ad A x) args s 0 0 A) (F0 m 128 ls []))) : ∀ (u : MS) (x : MS × Int32), fb_M_primary_0 N S G u = some x → ∀ (H : Heap) (locs : List Loc), va_P D cl (wM cB cI cJ cZ cS iM h0 ad u) H → va_D A (wM cB cI cJ cZ cS iM h0 ad u) → va_S A s.heap H locs → ∀ (ls : Array Slot), lv_has ls 3 [(0, .ref h0)] → W p l e R s m args below meth c H locs 0 0 (MQ below (mQi D cl cB cI cJ cZ cS iM h0 ad A x) args s 0 0 A) (F0 m 0 ls []) := by
  intro u x hf H locs hP hD hS ls hl
  obtain ⟨hx, hb, hr, hml, ht, hown, hM, hK, hA, hlocks⟩ := id C0
  unfold fb_M_primary_0 at hf
  refine lv_aload_n hx hb d_M_primary_0 rfl (lv_at hl 0 rfl) ?_
  refine ug_I hx hb ht hown hM hK hP 67 (by decide) lk_M_67 (by decide) d_M_primary_1 ?_
  refine lv_if_eq (tgt := 9) hx hb d_M_primary_4 (by decide) (fun hc => ?_) (fun hc => ?_)
  · rw [br_p _ hc] at hf
    refine lv_aload_n hx hb d_M_primary_9 rfl (lv_at hl 0 rfl) ?_
    refine ug_I hx hb ht hown hM hK hP 69 (by decide) lk_M_69 (by decide) d_M_primary_10 ?_
    refine lv_istore_n (lv' := [(1, .int (u.1 69)), (0, .ref h0)]) hx hb d_M_primary_13 rfl hl (by decide) rfl (fun ls hl => ?_)
    refine lv_aload_n hx hb d_M_primary_14 rfl (lv_at hl 1 rfl) ?_
    refine ug_R hx hb ht hown hM hK hP 6 (by decide) lk_M_6 (by decide) d_M_primary_15 ?_
    refine lv_aload_n hx hb d_M_primary_18 rfl (lv_at hl 1 rfl) ?_
    refine ug_I hx hb ht hown hM hK hP 69 (by decide) lk_M_69 (by decide) d_M_primary_19 ?_
    obtain ⟨hi9, hf⟩ := ck_some hf
    refine ul_B hx hb hK hP (by decide) (by decide) hi9 d_M_primary_22 ?_
    refine lv_iconst (v := 1) hx hb d_M_primary_23 (by decide) ?_
    refine lv_icmp_ne (tgt := 122) hx hb d_M_primary_24 (by decide) (fun hc => ?_) (fun hc => ?_)
    · rw [br_n _ hc] at hf
      exact wb_M_primary_122 C0 hR N S hSg G hG _ _ _ hf H locs hP hD hS ls (lv_sub hl [1, 0] rfl)
    · rw [br_p _ hc] at hf
      refine lv_aload_n hx hb d_M_primary_27 rfl (lv_at hl 1 rfl) ?_
      refine ug_R hx hb ht hown hM hK hP 6 (by decide) lk_M_6 (by decide) d_M_primary_28 ?_
      refine lv_aload_n hx hb d_M_primary_31 rfl (lv_at hl 1 rfl) ?_
      refine ug_I hx hb ht hown hM hK hP 69 (by decide) lk_M_69 (by decide) d_M_primary_32 ?_
      refine lv_iconst (v := 1) hx hb d_M_primary_35 (by decide) ?_
      refine lv_iadd hx hb d_M_primary_36 ?_
      obtain ⟨hi9, hf⟩ := ck_some hf
      refine ul_B hx hb hK hP (by decide) (by decide) hi9 d_M_primary_37 ?_
      refine lv_bipush (v := 6) hx hb d_M_primary_38 (by decide) ?_
      refine lv_icmp_ne (tgt := 122) hx hb d_M_primary_40 (by decide) (fun hc => ?_) (fun hc => ?_)
      · rw [br_n _ hc] at hf
        exact wb_M_primary_122 C0 hR N S hSg G hG _ _ _ hf H locs hP hD hS ls (lv_sub hl [1, 0] rfl)
      · rw [br_p _ hc] at hf
        refine lv_aload_n hx hb d_M_primary_43 rfl (lv_at hl 1 rfl) ?_
        refine ug_R hx hb ht hown hM hK hP 7 (by decide) lk_M_7 (by decide) d_M_primary_44 ?_
        refine lv_aload_n hx hb d_M_primary_47 rfl (lv_at hl 1 rfl) ?_
        refine ug_I hx hb ht hown hM hK hP 69 (by decide) lk_M_69 (by decide) d_M_primary_48 ?_
        refine lv_iconst (v := 1) hx hb d_M_primary_51 (by decide) ?_
        refine lv_iadd hx hb d_M_primary_52 ?_
        obtain ⟨hi9, hf⟩ := ck_some hf
        refine ul_I hx hb hK hP (by decide) (by decide) hi9 d_M_primary_53 ?_
        refine lv_if_ne (tgt := 122) hx hb d_M_primary_54 (by decide) (fun hc => ?_) (fun hc => ?_)
        · rw [br_n _ hc] at hf
          exact wb_M_primary_122 C0 hR N S hSg G hG _ _ _ hf H locs hP hD hS ls (lv_sub hl [1, 0] rfl)
        · rw [br_p _ hc] at hf
          refine lv_aload_n hx hb d_M_primary_57 rfl (lv_at hl 1 rfl) ?_
          refine lv_dup hx hb d_M_primary_58 rfl ?_
          refine ug_I hx hb ht hown hM hK hP 69 (by decide) lk_M_69 (by decide) d_M_primary_59 ?_
          refine lv_iconst (v := 1) hx hb d_M_primary_62 (by decide) ?_
          refine lv_iadd hx hb d_M_primary_63 ?_
          refine up_I hx hb ht hown hM hK hP hD hS 69 (by decide) lk_M_69 (by decide) rfl rfl rfl d_M_primary_64 (fun H locs hP hD hS => ?_)
          obtain ⟨w8, e8, hf⟩ := lt_some hf
          rw [← e8] at hP hD
          refine lv_aload_n hx hb d_M_primary_67 rfl (lv_at hl 1 rfl) ?_
          obtain ⟨u9, r9, hc9, hf⟩ := bnd_some hf
          refine mV_v (As := []) (rest := []) C0 hP hD hS (hSg.2.2.2.2.2.2.2.2.2.1 _ _ _ hc9) k_M_arguments hl_M_arguments hi_M_arguments hs_M_arguments hini_M rfl rfl hd_M_arguments rfl (rm_M_primary_M_arguments hR) hl.1 (Nat.le_of_ble_eq_true rfl) d_M_primary_68 rfl ⟨Nat.zero_le _, Nat.zero_le _⟩ (fun H locs hP hD hS => ?_)
          refine lv_aload_n hx hb d_M_primary_71 rfl (lv_at hl 1 rfl) ?_
          refine lv_bipush (v := 12) hx hb d_M_primary_72 (by decide) ?_
          refine lv_iload_n hx hb d_M_primary_74 rfl (lv_at hl 0 rfl) ?_
          obtain ⟨u10, r10, hc10, hf⟩ := bnd_some hf
          refine mV_i (As := [.int 12, .int (u.1 69)]) (rest := []) C0 hP hD hS (c_M_node N hM hc10) k_M_node hl_M_node hi_M_node hs_M_node hini_M rfl rfl hd_M_node rfl (rm_M_primary_M_node hR) hl.1 (Nat.le_of_ble_eq_true rfl) d_M_primary_75 rfl ⟨Nat.zero_le _, Nat.zero_le _⟩ (fun H locs hP hD hS => ?_)
          refine lv_istore_n (lv' := [(2, .int r10), (1, .int (u.1 69)), (0, .ref h0)]) hx hb d_M_primary_78 rfl hl (by decide) rfl (fun ls hl => ?_)
          refine lv_aload_n hx hb d_M_primary_79 rfl (lv_at hl 2 rfl) ?_
          refine ug_R hx hb ht hown hM hK hP 25 (by decide) lk_M_25 (by decide) d_M_primary_80 ?_
          refine lv_iload_n hx hb d_M_primary_83 rfl (lv_at hl 0 rfl) ?_
          refine lv_aload_n hx hb d_M_primary_84 rfl (lv_at hl 2 rfl) ?_
          refine ug_R hx hb ht hown hM hK hP 7 (by decide) lk_M_7 (by decide) d_M_primary_85 ?_
          refine lv_iload_n hx hb d_M_primary_88 rfl (lv_at hl 1 rfl) ?_
          obtain ⟨hi9, hf⟩ := ck_some hf
          refine ul_I hx hb hK hP (by decide) (by decide) hi9 d_M_primary_89 ?_
          obtain ⟨hi9, hf⟩ := ck_some hf
          refine us_I hx hb hK hP hD hS (by decide) (by decide) hi9 d_M_primary_90 (fun H locs hP hD hS => ?_)
          obtain ⟨w11, e11, hf⟩ := lt_some hf
          rw [← e11] at hP hD
          refine lv_aload_n hx hb d_M_primary_91 rfl (lv_at hl 2 rfl) ?_
          refine ug_R hx hb ht hown hM hK hP 26 (by decide) lk_M_26 (by decide) d_M_primary_92 ?_
          refine lv_iload_n hx hb d_M_primary_95 rfl (lv_at hl 0 rfl) ?_
          refine lv_aload_n hx hb d_M_primary_96 rfl (lv_at hl 2 rfl) ?_
          refine ug_I hx hb ht hown hM hK hP 84 (by decide) lk_M_84 (by decide) d_M_primary_97 ?_
          obtain ⟨hi9, hf⟩ := ck_some hf
          refine us_I hx hb hK hP hD hS (by decide) (by decide) hi9 d_M_primary_100 (fun H locs hP hD hS => ?_)
          obtain ⟨w12, e12, hf⟩ := lt_some hf
          rw [← e12] at hP hD
          refine lv_aload_n hx hb d_M_primary_101 rfl (lv_at hl 2 rfl) ?_
          refine ug_R hx hb ht hown hM hK hP 27 (by decide) lk_M_27 (by decide) d_M_primary_102 ?_
          refine lv_iload_n hx hb d_M_primary_105 rfl (lv_at hl 0 rfl) ?_
          refine lv_aload_n hx hb d_M_primary_106 rfl (lv_at hl 2 rfl) ?_
          refine ug_I hx hb ht hown hM hK hP 73 (by decide) lk_M_73 (by decide) d_M_primary_107 ?_
          refine lv_if_eq (tgt := 117) hx hb d_M_primary_110 (by decide) (fun hc => ?_) (fun hc => ?_)
          · rw [br_p _ hc] at hf
            refine lv_iconst (v := 0) hx hb d_M_primary_117 (by decide) ?_
            exact wb_M_primary_118 C0 hR N S hSg G hG _ _ _ _ _ _ _ hf H locs hP hD hS ls (lv_sub hl [2, 1, 0] rfl)
          · rw [br_n _ hc] at hf
            refine lv_iconst (v := 1) hx hb d_M_primary_113 (by decide) ?_
            refine lv_goto (tgt := 118) hx hb d_M_primary_114 (by decide) ?_
            exact wb_M_primary_118 C0 hR N S hSg G hG _ _ _ _ _ _ _ hf H locs hP hD hS ls (lv_sub hl [2, 1, 0] rfl)
  · rw [br_n _ hc] at hf
    refine lv_iconst (v := (-1)) hx hb d_M_primary_7 (by decide) ?_
    exact mr_i C0 hP hD hS hf d_M_primary_8
def gg_M_primary (N : Nat) (S : SG_M_behind) : Nat → ((MS → Int32 → Int32 → Option (MS × Int32)))
  | 0 => fun _ _ _ => none
  | n + 1 => fb_M_primary_128 N S (gg_M_primary N S n)
theorem wg_M_primary {p : Program} {l : Launch} {e : Env} {R : Room} {s : State} {m : MethodId} {args : Array Value} {below : List Frame} {meth : Method} {c : Code} {D : va_G} {cl : List vw_C} {cB cI cJ cZ cS : ClassId} {A : Nat → Prop} {iM h0 : Nat} {ad : Nat → Nat} (C0 : MCx p s m args meth c b_M_primary 3 (some .int) D cl cB cI cJ cZ cS iM A) {d : Nat} (hR : R = rg_M_behind (d + 1)) (N : Nat) (S : SG_M_behind) (hSg : HS_M_behind l D cl cB cI cJ cZ cS iM h0 ad (rg_M_behind d) S) : ∀ n : Nat, (∀ (u : MS) (v1 : Int32) (v2 : Int32) (x : MS × Int32), gg_M_primary N S n u v1 v2 = some x → ∀ (H : Heap) (locs : List Loc), va_P D cl (wM cB cI cJ cZ cS iM h0 ad u) H → va_D A (wM cB cI cJ cZ cS iM h0 ad u) → va_S A s.heap H locs → ∀ (ls : Array Slot), lv_has ls 3 [(0, .ref h0), (1, .int v1), (2, .int v2)] → W p l e R s m args below meth c H locs 0 0 (MQ below (mQi D cl cB cI cJ cZ cS iM h0 ad A x) args s 0 0 A) (F0 m 128 ls []))
  | 0 => (fun u v1 v2 x hf => by cases hf)
  | n + 1 => wb_M_primary_128 C0 hR N S hSg (gg_M_primary N S n) (wg_M_primary C0 hR N S hSg n)
def fm_M_primary (N : Nat) (S : SG_M_behind) (u : MS) : Option (MS × Int32) := fb_M_primary_0 N S (gg_M_primary N S N) u
set_option maxRecDepth 100000 in
set_option maxHeartbeats 4000000 in
theorem cs_M_primary (N : Nat) {d : Nat} {l : Launch} {D : va_G} {cl : List vw_C} {cB cI cJ cZ cS : ClassId} {iM h0 : Nat} {ad : Nat → Nat} {u : MS} {sz : Nat} {x : MS × Int32} (hM : cl[iM]? = some (R_M, F_M, 171)) (S : SG_M_behind) (hSg : HS_M_behind l D cl cB cI cJ cZ cS iM h0 ad (rg_M_behind d) S) (hf : fm_M_primary N S u = some x) : Met l y_M_primary (wd_ws y_M_primary b_M_primary 3 (some .int)) (rg_M_behind (d + 1)) (mPc D cl cB cI cJ cZ cS iM h0 ad u sz [.ref h0]) (mQi D cl cB cI cJ cZ cS iM h0 ad (mA cB cI cJ cZ cS iM h0 ad u sz) x) 0 0 (mA cB cI cJ cZ cS iM h0 ad u sz) :=
  mMet (by decide) rfl hM (Nat.le_of_ble_eq_true rfl) (fun p e s m below meth c ls hsz C0 hP hD hS hl => by
    have hR : (rg_M_behind (d + 1)) = (rg_M_behind (d + 1)) := rfl
    exact wb_M_primary_0 C0 hR N S hSg (gg_M_primary N S N) (wg_M_primary C0 hR N S hSg N) u x hf s.heap [] hP hD hS ls (lv_sub hl [0] rfl))
theorem rm_M_worked_M_isSign {R : Room} {d : Nat} (hR : R = rg_M_behind (d + 1)) : (rm_M_isSign).frames + 1 ≤ R.frames ∧ 8 + (2 + 11) + (rm_M_isSign).locals ≤ R.locals := by
  subst hR
  have h1 : (rm_M_isSign).frames = 0 := rfl
  have h2 : (rm_M_isSign).locals = 0 := rfl
  show (rm_M_isSign).frames + 1 ≤ 94 + (d + 1) ∧ 8 + (2 + 11) + (rm_M_isSign).locals ≤ 2494 + 29 * (d + 1)
  omega
theorem rm_M_worked_M_isWord {R : Room} {d : Nat} (hR : R = rg_M_behind (d + 1)) : (rm_M_isWord).frames + 1 ≤ R.frames ∧ 8 + (2 + 11) + (rm_M_isWord).locals ≤ R.locals := by
  subst hR
  have h1 : (rm_M_isWord).frames = 0 := rfl
  have h2 : (rm_M_isWord).locals = 0 := rfl
  show (rm_M_isWord).frames + 1 ≤ 94 + (d + 1) ∧ 8 + (2 + 11) + (rm_M_isWord).locals ≤ 2494 + 29 * (d + 1)
  omega
theorem rm_M_worked_M_beginsUnit {R : Room} {d : Nat} (hR : R = rg_M_behind (d + 1)) : (rm_M_beginsUnit).frames + 1 ≤ R.frames ∧ 8 + (1 + 11) + (rm_M_beginsUnit).locals ≤ R.locals := by
  subst hR
  have h1 : (rm_M_beginsUnit).frames = 1 := rfl
  have h2 : (rm_M_beginsUnit).locals = 21 := rfl
  show (rm_M_beginsUnit).frames + 1 ≤ 94 + (d + 1) ∧ 8 + (1 + 11) + (rm_M_beginsUnit).locals ≤ 2494 + 29 * (d + 1)
  omega
theorem rm_M_worked_M_wrong {R : Room} {d : Nat} (hR : R = rg_M_behind (d + 1)) : (rm_M_wrong).frames + 1 ≤ R.frames ∧ 8 + (2 + 11) + (rm_M_wrong).locals ≤ R.locals := by
  subst hR
  have h1 : (rm_M_wrong).frames = 0 := rfl
  have h2 : (rm_M_wrong).locals = 0 := rfl
  show (rm_M_wrong).frames + 1 ≤ 94 + (d + 1) ∧ 8 + (2 + 11) + (rm_M_wrong).locals ≤ 2494 + 29 * (d + 1)
  omega
theorem rm_M_worked_M_opens {R : Room} {d : Nat} (hR : R = rg_M_behind (d + 1)) : (rm_M_opens).frames + 1 ≤ R.frames ∧ 8 + (1 + 11) + (rm_M_opens).locals ≤ R.locals := by
  subst hR
  have h1 : (rm_M_opens).frames = 1 := rfl
  have h2 : (rm_M_opens).locals = 21 := rfl
  show (rm_M_opens).frames + 1 ≤ 94 + (d + 1) ∧ 8 + (1 + 11) + (rm_M_opens).locals ≤ 2494 + 29 * (d + 1)
  omega
theorem rm_M_worked_M_level {R : Room} {d : Nat} (hR : R = rg_M_behind (d + 1)) : (rm_M_level).frames + 1 ≤ R.frames ∧ 8 + (2 + 11) + (rm_M_level).locals ≤ R.locals := by
  subst hR
  have h1 : (rm_M_level).frames = 1 := rfl
  have h2 : (rm_M_level).locals = 21 := rfl
  show (rm_M_level).frames + 1 ≤ 94 + (d + 1) ∧ 8 + (2 + 11) + (rm_M_level).locals ≤ 2494 + 29 * (d + 1)
  omega
theorem rm_M_worked_M_reduce {R : Room} {d : Nat} (hR : R = rg_M_behind (d + 1)) : (rm_M_reduce).frames + 1 ≤ R.frames ∧ 8 + (8 + 11) + (rm_M_reduce).locals ≤ R.locals := by
  subst hR
  have h1 : (rm_M_reduce).frames = 2 := rfl
  have h2 : (rm_M_reduce).locals = 44 := rfl
  show (rm_M_reduce).frames + 1 ≤ 94 + (d + 1) ∧ 8 + (8 + 11) + (rm_M_reduce).locals ≤ 2494 + 29 * (d + 1)
  omega
theorem rm_M_worked_M_node {R : Room} {d : Nat} (hR : R = rg_M_behind (d + 1)) : (rm_M_node).frames + 1 ≤ R.frames ∧ 8 + (3 + 11) + (rm_M_node).locals ≤ R.locals := by
  subst hR
  have h1 : (rm_M_node).frames = 0 := rfl
  have h2 : (rm_M_node).locals = 0 := rfl
  show (rm_M_node).frames + 1 ≤ 94 + (d + 1) ∧ 8 + (3 + 11) + (rm_M_node).locals ≤ 2494 + 29 * (d + 1)
  omega
theorem rm_M_worked_M_rule {R : Room} {d : Nat} (hR : R = rg_M_behind (d + 1)) : (rm_M_rule).frames + 1 ≤ R.frames ∧ 8 + (3 + 11) + (rm_M_rule).locals ≤ R.locals := by
  subst hR
  have h1 : (rm_M_rule).frames = 0 := rfl
  have h2 : (rm_M_rule).locals = 0 := rfl
  show (rm_M_rule).frames + 1 ≤ 94 + (d + 1) ∧ 8 + (3 + 11) + (rm_M_rule).locals ≤ 2494 + 29 * (d + 1)
  omega
theorem rm_M_worked_M_primary {R : Room} {d : Nat} (hR : R = rg_M_behind (d + 1)) : (rg_M_behind d).frames + 1 ≤ R.frames ∧ 8 + (3 + 11) + (rg_M_behind d).locals ≤ R.locals := by
  subst hR
  show 94 + d + 1 ≤ 94 + (d + 1) ∧ 8 + (3 + 11) + (2494 + 29 * d) ≤ 2494 + 29 * (d + 1)
  omega
def fb_M_worked_334 (N : Nat) (S : SG_M_behind) (G : (MS → Int32 → Int32 → Int32 → Option (MS × Int32)) × (MS → Int32 → Option (MS × Int32))) (u : MS) (v1 : Int32) (v2 : Int32) : Option (MS × Int32) := br (decide ((u.1 67) = 0)) (bnd (fm_M_reduce N u v1 0 v2) (fun u1 r1 => some (u1, r1))) (some (u, (-1)))
set_option maxRecDepth 100000 in
set_option maxHeartbeats 4000000 in
theorem wb_M_worked_334 {p : Program} {l : Launch} {e : Env} {R : Room} {s : State} {m : MethodId} {args : Array Value} {below : List Frame} {meth : Method} {c : Code} {D : va_G} {cl : List vw_C} {cB cI cJ cZ cS : ClassId} {A : Nat → Prop} {iM h0 : Nat} {ad : Nat → Nat} (C0 : MCx p s m args meth c b_M_worked 5 (some .int) D cl cB cI cJ cZ cS iM A) {d : Nat} (hR : R = rg_M_behind (d + 1)) (N : Nat) (S : SG_M_behind) (hSg : HS_M_behind l D cl cB cI cJ cZ cS iM h0 ad (rg_M_behind d) S) (G : (MS → Int32 → Int32 → Int32 → Option (MS × Int32)) × (MS → Int32 → Option (MS × Int32))) (hG : (∀ (u : MS) (v1 : Int32) (v2 : Int32) (v3 : Int32) (x : MS × Int32), G.1 u v1 v2 v3 = some x → ∀ (H : Heap) (locs : List Loc), va_P D cl (wM cB cI cJ cZ cS iM h0 ad u) H → va_D A (wM cB cI cJ cZ cS iM h0 ad u) → va_S A s.heap H locs → ∀ (ls : Array Slot), lv_has ls 5 [(0, .ref h0), (1, .int v1), (2, .int v2), (3, .int v3)] → W p l e R s m args below meth c H locs 0 0 (MQ below (mQi D cl cB cI cJ cZ cS iM h0 ad A x) args s 0 0 A) (F0 m 9 ls [])) ∧ (∀ (u : MS) (v1 : Int32) (x : MS × Int32), G.2 u v1 = some x → ∀ (H : Heap) (locs : List Loc), va_P D cl (wM cB cI cJ cZ cS iM h0 ad u) H → va_D A (wM cB cI cJ cZ cS iM h0 ad u) → va_S A s.heap H locs → ∀ (ls : Array Slot), lv_has ls 5 [(0, .ref h0), (1, .int v1)] → W p l e R s m args below meth c H locs 0 0 (MQ below (mQi D cl cB cI cJ cZ cS iM h0 ad A x) args s 0 0 A) (F0 m 20 ls []))) : ∀ (u : MS) (v1 : Int32) (v2 : Int32) (x : MS × Int32), fb_M_worked_334 N S G u v1 v2 = some x → ∀ (H : Heap) (locs : List Loc), va_P D cl (wM cB cI cJ cZ cS iM h0 ad u) H → va_D A (wM cB cI cJ cZ cS iM h0 ad u) → va_S A s.heap H locs → ∀ (ls : Array Slot), lv_has ls 5 [(0, .ref h0), (1, .int v1), (2, .int v2)] → W p l e R s m args below meth c H locs 0 0 (MQ below (mQi D cl cB cI cJ cZ cS iM h0 ad A x) args s 0 0 A) (F0 m 334 ls []) := by
  intro u v1 v2 x hf H locs hP hD hS ls hl
  obtain ⟨hx, hb, hr, hml, ht, hown, hM, hK, hA, hlocks⟩ := id C0
  unfold fb_M_worked_334 at hf
  refine lv_aload_n hx hb d_M_worked_334 rfl (lv_at hl 0 rfl) ?_
  refine ug_I hx hb ht hown hM hK hP 67 (by decide) lk_M_67 (by decide) d_M_worked_335 ?_
  refine lv_if_eq (tgt := 343) hx hb d_M_worked_338 (by decide) (fun hc => ?_) (fun hc => ?_)
  · rw [br_p _ hc] at hf
    refine lv_aload_n hx hb d_M_worked_343 rfl (lv_at hl 0 rfl) ?_
    refine lv_iload_n hx hb d_M_worked_344 rfl (lv_at hl 1 rfl) ?_
    refine lv_iconst (v := 0) hx hb d_M_worked_345 (by decide) ?_
    refine lv_iload_n hx hb d_M_worked_346 rfl (lv_at hl 2 rfl) ?_
    obtain ⟨u1, r1, hc1, hf⟩ := bnd_some hf
    refine mV_i (As := [.int v1, .int 0, .int v2]) (rest := []) C0 hP hD hS (c_M_reduce N hM hc1) k_M_reduce hl_M_reduce hi_M_reduce hs_M_reduce hini_M rfl rfl hd_M_reduce rfl (rm_M_worked_M_reduce hR) hl.1 (Nat.le_of_ble_eq_true rfl) d_M_worked_347 rfl ⟨Nat.zero_le _, Nat.zero_le _⟩ (fun H locs hP hD hS => ?_)
    exact mr_i C0 hP hD hS hf d_M_worked_350
  · rw [br_n _ hc] at hf
    refine lv_iconst (v := (-1)) hx hb d_M_worked_341 (by decide) ?_
    exact mr_i C0 hP hD hS hf d_M_worked_342
def fb_M_worked_331 (N : Nat) (S : SG_M_behind) (G : (MS → Int32 → Int32 → Int32 → Option (MS × Int32)) × (MS → Int32 → Option (MS × Int32))) (u : MS) (v1 : Int32) (v2 : Int32) (v3 : Int32) : Option (MS × Int32) := G.1 u (v1) (v2) (v3)
set_option maxRecDepth 100000 in
set_option maxHeartbeats 4000000 in
theorem wb_M_worked_331 {p : Program} {l : Launch} {e : Env} {R : Room} {s : State} {m : MethodId} {args : Array Value} {below : List Frame} {meth : Method} {c : Code} {D : va_G} {cl : List vw_C} {cB cI cJ cZ cS : ClassId} {A : Nat → Prop} {iM h0 : Nat} {ad : Nat → Nat} (C0 : MCx p s m args meth c b_M_worked 5 (some .int) D cl cB cI cJ cZ cS iM A) {d : Nat} (hR : R = rg_M_behind (d + 1)) (N : Nat) (S : SG_M_behind) (hSg : HS_M_behind l D cl cB cI cJ cZ cS iM h0 ad (rg_M_behind d) S) (G : (MS → Int32 → Int32 → Int32 → Option (MS × Int32)) × (MS → Int32 → Option (MS × Int32))) (hG : (∀ (u : MS) (v1 : Int32) (v2 : Int32) (v3 : Int32) (x : MS × Int32), G.1 u v1 v2 v3 = some x → ∀ (H : Heap) (locs : List Loc), va_P D cl (wM cB cI cJ cZ cS iM h0 ad u) H → va_D A (wM cB cI cJ cZ cS iM h0 ad u) → va_S A s.heap H locs → ∀ (ls : Array Slot), lv_has ls 5 [(0, .ref h0), (1, .int v1), (2, .int v2), (3, .int v3)] → W p l e R s m args below meth c H locs 0 0 (MQ below (mQi D cl cB cI cJ cZ cS iM h0 ad A x) args s 0 0 A) (F0 m 9 ls [])) ∧ (∀ (u : MS) (v1 : Int32) (x : MS × Int32), G.2 u v1 = some x → ∀ (H : Heap) (locs : List Loc), va_P D cl (wM cB cI cJ cZ cS iM h0 ad u) H → va_D A (wM cB cI cJ cZ cS iM h0 ad u) → va_S A s.heap H locs → ∀ (ls : Array Slot), lv_has ls 5 [(0, .ref h0), (1, .int v1)] → W p l e R s m args below meth c H locs 0 0 (MQ below (mQi D cl cB cI cJ cZ cS iM h0 ad A x) args s 0 0 A) (F0 m 20 ls []))) : ∀ (u : MS) (v1 : Int32) (v2 : Int32) (v3 : Int32) (x : MS × Int32), fb_M_worked_331 N S G u v1 v2 v3 = some x → ∀ (H : Heap) (locs : List Loc), va_P D cl (wM cB cI cJ cZ cS iM h0 ad u) H → va_D A (wM cB cI cJ cZ cS iM h0 ad u) → va_S A s.heap H locs → ∀ (ls : Array Slot), lv_has ls 5 [(0, .ref h0), (1, .int v1), (2, .int v2), (3, .int v3)] → W p l e R s m args below meth c H locs 0 0 (MQ below (mQi D cl cB cI cJ cZ cS iM h0 ad A x) args s 0 0 A) (F0 m 331 ls []) := by
  intro u v1 v2 v3 x hf H locs hP hD hS ls hl
  obtain ⟨hx, hb, hr, hml, ht, hown, hM, hK, hA, hlocks⟩ := id C0
  unfold fb_M_worked_331 at hf
  refine lv_goto (tgt := 9) hx hb d_M_worked_331 (by decide) ?_
  exact hG.1 _ _ _ _ _ hf H locs hP hD hS ls (lv_sub hl [0, 1, 2, 3] rfl)
def fb_M_worked_292 (N : Nat) (S : SG_M_behind) (G : (MS → Int32 → Int32 → Int32 → Option (MS × Int32)) × (MS → Int32 → Option (MS × Int32))) (u : MS) (v1 : Int32) (v2 : Int32) (v3 : Int32) : Option (MS × Int32) := lt (upI u 83 ((u.1 83) + 1)) (fun w2 => lt (upI w2 69 ((w2.1 69) + 1)) (fun w3 => br (decide ((w3.1 67) = 0)) (bnd (fm_M_beginsUnit N w3) (fun u4 r4 => br (decide (r4 = 0)) (bnd (fm_M_wrong N u4 2) (fun u5 _ => fb_M_worked_331 N S G u5 (v1) (v2) (v3))) (fb_M_worked_331 N S G u4 (v1) (v2) (v3)))) (fb_M_worked_331 N S G w3 (v1) (v2) (v3))))
set_option maxRecDepth 100000 in
set_option maxHeartbeats 4000000 in
theorem wb_M_worked_292 {p : Program} {l : Launch} {e : Env} {R : Room} {s : State} {m : MethodId} {args : Array Value} {below : List Frame} {meth : Method} {c : Code} {D : va_G} {cl : List vw_C} {cB cI cJ cZ cS : ClassId} {A : Nat → Prop} {iM h0 : Nat} {ad : Nat → Nat} (C0 : MCx p s m args meth c b_M_worked 5 (some .int) D cl cB cI cJ cZ cS iM A) {d : Nat} (hR : R = rg_M_behind (d + 1)) (N : Nat) (S : SG_M_behind) (hSg : HS_M_behind l D cl cB cI cJ cZ cS iM h0 ad (rg_M_behind d) S) (G : (MS → Int32 → Int32 → Int32 → Option (MS × Int32)) × (MS → Int32 → Option (MS × Int32))) (hG : (∀ (u : MS) (v1 : Int32) (v2 : Int32) (v3 : Int32) (x : MS × Int32), G.1 u v1 v2 v3 = some x → ∀ (H : Heap) (locs : List Loc), va_P D cl (wM cB cI cJ cZ cS iM h0 ad u) H → va_D A (wM cB cI cJ cZ cS iM h0 ad u) → va_S A s.heap H locs → ∀ (ls : Array Slot), lv_has ls 5 [(0, .ref h0), (1, .int v1), (2, .int v2), (3, .int v3)] → W p l e R s m args below meth c H locs 0 0 (MQ below (mQi D cl cB cI cJ cZ cS iM h0 ad A x) args s 0 0 A) (F0 m 9 ls [])) ∧ (∀ (u : MS) (v1 : Int32) (x : MS × Int32), G.2 u v1 = some x → ∀ (H : Heap) (locs : List Loc), va_P D cl (wM cB cI cJ cZ cS iM h0 ad u) H → va_D A (wM cB cI cJ cZ cS iM h0 ad u) → va_S A s.heap H locs → ∀ (ls : Array Slot), lv_has ls 5 [(0, .ref h0), (1, .int v1)] → W p l e R s m args below meth c H locs 0 0 (MQ below (mQi D cl cB cI cJ cZ cS iM h0 ad A x) args s 0 0 A) (F0 m 20 ls []))) : ∀ (u : MS) (v1 : Int32) (v2 : Int32) (v3 : Int32) (x : MS × Int32), fb_M_worked_292 N S G u v1 v2 v3 = some x → ∀ (H : Heap) (locs : List Loc), va_P D cl (wM cB cI cJ cZ cS iM h0 ad u) H → va_D A (wM cB cI cJ cZ cS iM h0 ad u) → va_S A s.heap H locs → ∀ (ls : Array Slot), lv_has ls 5 [(0, .ref h0), (1, .int v1), (2, .int v2), (3, .int v3)] → W p l e R s m args below meth c H locs 0 0 (MQ below (mQi D cl cB cI cJ cZ cS iM h0 ad A x) args s 0 0 A) (F0 m 292 ls []) := by
  intro u v1 v2 v3 x hf H locs hP hD hS ls hl
  obtain ⟨hx, hb, hr, hml, ht, hown, hM, hK, hA, hlocks⟩ := id C0
  unfold fb_M_worked_292 at hf
  refine lv_aload_n hx hb d_M_worked_292 rfl (lv_at hl 0 rfl) ?_
  refine lv_dup hx hb d_M_worked_293 rfl ?_
  refine ug_I hx hb ht hown hM hK hP 83 (by decide) lk_M_83 (by decide) d_M_worked_294 ?_
  refine lv_iconst (v := 1) hx hb d_M_worked_297 (by decide) ?_
  refine lv_iadd hx hb d_M_worked_298 ?_
  refine up_I hx hb ht hown hM hK hP hD hS 83 (by decide) lk_M_83 (by decide) rfl rfl rfl d_M_worked_299 (fun H locs hP hD hS => ?_)
  obtain ⟨w2, e2, hf⟩ := lt_some hf
  rw [← e2] at hP hD
  refine lv_aload_n hx hb d_M_worked_302 rfl (lv_at hl 0 rfl) ?_
  refine lv_dup hx hb d_M_worked_303 rfl ?_
  refine ug_I hx hb ht hown hM hK hP 69 (by decide) lk_M_69 (by decide) d_M_worked_304 ?_
  refine lv_iconst (v := 1) hx hb d_M_worked_307 (by decide) ?_
  refine lv_iadd hx hb d_M_worked_308 ?_
  refine up_I hx hb ht hown hM hK hP hD hS 69 (by decide) lk_M_69 (by decide) rfl rfl rfl d_M_worked_309 (fun H locs hP hD hS => ?_)
  obtain ⟨w3, e3, hf⟩ := lt_some hf
  rw [← e3] at hP hD
  refine lv_aload_n hx hb d_M_worked_312 rfl (lv_at hl 0 rfl) ?_
  refine ug_I hx hb ht hown hM hK hP 67 (by decide) lk_M_67 (by decide) d_M_worked_313 ?_
  refine lv_if_ne (tgt := 331) hx hb d_M_worked_316 (by decide) (fun hc => ?_) (fun hc => ?_)
  · rw [br_n _ hc] at hf
    exact wb_M_worked_331 C0 hR N S hSg G hG _ _ _ _ _ hf H locs hP hD hS ls (lv_sub hl [0, 1, 2, 3] rfl)
  · rw [br_p _ hc] at hf
    refine lv_aload_n hx hb d_M_worked_319 rfl (lv_at hl 0 rfl) ?_
    obtain ⟨u4, r4, hc4, hf⟩ := bnd_some hf
    refine mV_i (As := []) (rest := []) C0 hP hD hS (c_M_beginsUnit N hM hc4) k_M_beginsUnit hl_M_beginsUnit hi_M_beginsUnit hs_M_beginsUnit hini_M rfl rfl hd_M_beginsUnit rfl (rm_M_worked_M_beginsUnit hR) hl.1 (Nat.le_of_ble_eq_true rfl) d_M_worked_320 rfl ⟨Nat.zero_le _, Nat.zero_le _⟩ (fun H locs hP hD hS => ?_)
    refine lv_if_ne (tgt := 331) hx hb d_M_worked_323 (by decide) (fun hc => ?_) (fun hc => ?_)
    · rw [br_n _ hc] at hf
      exact wb_M_worked_331 C0 hR N S hSg G hG _ _ _ _ _ hf H locs hP hD hS ls (lv_sub hl [0, 1, 2, 3] rfl)
    · rw [br_p _ hc] at hf
      refine lv_aload_n hx hb d_M_worked_326 rfl (lv_at hl 0 rfl) ?_
      refine lv_iconst (v := 2) hx hb d_M_worked_327 (by decide) ?_
      obtain ⟨u5, r5, hc5, hf⟩ := bnd_some hf
      refine mV_v (As := [.int 2]) (rest := []) C0 hP hD hS (c_M_wrong N hM hc5) k_M_wrong hl_M_wrong hi_M_wrong hs_M_wrong hini_M rfl rfl hd_M_wrong rfl (rm_M_worked_M_wrong hR) hl.1 (Nat.le_of_ble_eq_true rfl) d_M_worked_328 rfl ⟨Nat.zero_le _, Nat.zero_le _⟩ (fun H locs hP hD hS => ?_)
      exact wb_M_worked_331 C0 hR N S hSg G hG _ _ _ _ _ hf H locs hP hD hS ls (lv_sub hl [0, 1, 2, 3] rfl)
def fb_M_worked_269 (N : Nat) (S : SG_M_behind) (G : (MS → Int32 → Int32 → Int32 → Option (MS × Int32)) × (MS → Int32 → Option (MS × Int32))) (u : MS) (v1 : Int32) (v2 : Int32) (v3 : Int32) (v4 : Int32) : Option (MS × Int32) := br (decide ((u.1 73) = 0)) (fb_M_worked_292 N S G u (v1) (v2) (v3)) (br (decide (v4 = 4)) (bnd (fm_M_rule N u 7 (u.1 69)) (fun u6 _ => fb_M_worked_292 N S G u6 (v1) (v2) (v3))) (fb_M_worked_292 N S G u (v1) (v2) (v3)))
set_option maxRecDepth 100000 in
set_option maxHeartbeats 4000000 in
theorem wb_M_worked_269 {p : Program} {l : Launch} {e : Env} {R : Room} {s : State} {m : MethodId} {args : Array Value} {below : List Frame} {meth : Method} {c : Code} {D : va_G} {cl : List vw_C} {cB cI cJ cZ cS : ClassId} {A : Nat → Prop} {iM h0 : Nat} {ad : Nat → Nat} (C0 : MCx p s m args meth c b_M_worked 5 (some .int) D cl cB cI cJ cZ cS iM A) {d : Nat} (hR : R = rg_M_behind (d + 1)) (N : Nat) (S : SG_M_behind) (hSg : HS_M_behind l D cl cB cI cJ cZ cS iM h0 ad (rg_M_behind d) S) (G : (MS → Int32 → Int32 → Int32 → Option (MS × Int32)) × (MS → Int32 → Option (MS × Int32))) (hG : (∀ (u : MS) (v1 : Int32) (v2 : Int32) (v3 : Int32) (x : MS × Int32), G.1 u v1 v2 v3 = some x → ∀ (H : Heap) (locs : List Loc), va_P D cl (wM cB cI cJ cZ cS iM h0 ad u) H → va_D A (wM cB cI cJ cZ cS iM h0 ad u) → va_S A s.heap H locs → ∀ (ls : Array Slot), lv_has ls 5 [(0, .ref h0), (1, .int v1), (2, .int v2), (3, .int v3)] → W p l e R s m args below meth c H locs 0 0 (MQ below (mQi D cl cB cI cJ cZ cS iM h0 ad A x) args s 0 0 A) (F0 m 9 ls [])) ∧ (∀ (u : MS) (v1 : Int32) (x : MS × Int32), G.2 u v1 = some x → ∀ (H : Heap) (locs : List Loc), va_P D cl (wM cB cI cJ cZ cS iM h0 ad u) H → va_D A (wM cB cI cJ cZ cS iM h0 ad u) → va_S A s.heap H locs → ∀ (ls : Array Slot), lv_has ls 5 [(0, .ref h0), (1, .int v1)] → W p l e R s m args below meth c H locs 0 0 (MQ below (mQi D cl cB cI cJ cZ cS iM h0 ad A x) args s 0 0 A) (F0 m 20 ls []))) : ∀ (u : MS) (v1 : Int32) (v2 : Int32) (v3 : Int32) (v4 : Int32) (x : MS × Int32), fb_M_worked_269 N S G u v1 v2 v3 v4 = some x → ∀ (H : Heap) (locs : List Loc), va_P D cl (wM cB cI cJ cZ cS iM h0 ad u) H → va_D A (wM cB cI cJ cZ cS iM h0 ad u) → va_S A s.heap H locs → ∀ (ls : Array Slot), lv_has ls 5 [(0, .ref h0), (1, .int v1), (2, .int v2), (3, .int v3), (4, .int v4)] → W p l e R s m args below meth c H locs 0 0 (MQ below (mQi D cl cB cI cJ cZ cS iM h0 ad A x) args s 0 0 A) (F0 m 269 ls []) := by
  intro u v1 v2 v3 v4 x hf H locs hP hD hS ls hl
  obtain ⟨hx, hb, hr, hml, ht, hown, hM, hK, hA, hlocks⟩ := id C0
  unfold fb_M_worked_269 at hf
  refine lv_aload_n hx hb d_M_worked_269 rfl (lv_at hl 0 rfl) ?_
  refine ug_I hx hb ht hown hM hK hP 73 (by decide) lk_M_73 (by decide) d_M_worked_270 ?_
  refine lv_if_eq (tgt := 292) hx hb d_M_worked_273 (by decide) (fun hc => ?_) (fun hc => ?_)
  · rw [br_p _ hc] at hf
    exact wb_M_worked_292 C0 hR N S hSg G hG _ _ _ _ _ hf H locs hP hD hS ls (lv_sub hl [0, 1, 2, 3] rfl)
  · rw [br_n _ hc] at hf
    refine lv_iload hx hb d_M_worked_276 (lv_at hl 4 rfl) ?_
    refine lv_iconst (v := 4) hx hb d_M_worked_278 (by decide) ?_
    refine lv_icmp_ne (tgt := 292) hx hb d_M_worked_279 (by decide) (fun hc => ?_) (fun hc => ?_)
    · rw [br_n _ hc] at hf
      exact wb_M_worked_292 C0 hR N S hSg G hG _ _ _ _ _ hf H locs hP hD hS ls (lv_sub hl [0, 1, 2, 3] rfl)
    · rw [br_p _ hc] at hf
      refine lv_aload_n hx hb d_M_worked_282 rfl (lv_at hl 0 rfl) ?_
      refine lv_bipush (v := 7) hx hb d_M_worked_283 (by decide) ?_
      refine lv_aload_n hx hb d_M_worked_285 rfl (lv_at hl 0 rfl) ?_
      refine ug_I hx hb ht hown hM hK hP 69 (by decide) lk_M_69 (by decide) d_M_worked_286 ?_
      obtain ⟨u6, r6, hc6, hf⟩ := bnd_some hf
      refine mV_v (As := [.int 7, .int (u.1 69)]) (rest := []) C0 hP hD hS (c_M_rule N hM hc6) k_M_rule hl_M_rule hi_M_rule hs_M_rule hini_M rfl rfl hd_M_rule rfl (rm_M_worked_M_rule hR) hl.1 (Nat.le_of_ble_eq_true rfl) d_M_worked_289 rfl ⟨Nat.zero_le _, Nat.zero_le _⟩ (fun H locs hP hD hS => ?_)
      exact wb_M_worked_292 C0 hR N S hSg G hG _ _ _ _ _ hf H locs hP hD hS ls (lv_sub hl [0, 1, 2, 3] rfl)
def fb_M_worked_243 (N : Nat) (S : SG_M_behind) (G : (MS → Int32 → Int32 → Int32 → Option (MS × Int32)) × (MS → Int32 → Option (MS × Int32))) (u : MS) (v1 : Int32) (v2 : Int32) (v3 : Int32) (v4 : Int32) (t0 : Nat) (t1 : Int32) (t3 : Int32) : Option (MS × Int32) := bnd (fm_M_node N u t3 (u.1 69)) (fun u7 r7 => ck (isK t0 4) (ck (inb t1 (ln t0)) (lt (upA u7 t0 (upd (u7.2.2.1 t0) t1.toNatClampNeg r7)) (fun w8 => ck (inb (w8.1 65) (ln 60)) (ck (inb (w8.1 83) (ln 82)) (lt (upA w8 82 (upd (w8.2.2.1 82) (w8.1 83).toNatClampNeg (w8.2.2.1 60 (w8.1 65).toNatClampNeg))) (fun w9 => fb_M_worked_269 N S G w9 (v1) (v2) (v3) (v4))))))))
set_option maxRecDepth 100000 in
set_option maxHeartbeats 4000000 in
theorem wb_M_worked_243 {p : Program} {l : Launch} {e : Env} {R : Room} {s : State} {m : MethodId} {args : Array Value} {below : List Frame} {meth : Method} {c : Code} {D : va_G} {cl : List vw_C} {cB cI cJ cZ cS : ClassId} {A : Nat → Prop} {iM h0 : Nat} {ad : Nat → Nat} (C0 : MCx p s m args meth c b_M_worked 5 (some .int) D cl cB cI cJ cZ cS iM A) {d : Nat} (hR : R = rg_M_behind (d + 1)) (N : Nat) (S : SG_M_behind) (hSg : HS_M_behind l D cl cB cI cJ cZ cS iM h0 ad (rg_M_behind d) S) (G : (MS → Int32 → Int32 → Int32 → Option (MS × Int32)) × (MS → Int32 → Option (MS × Int32))) (hG : (∀ (u : MS) (v1 : Int32) (v2 : Int32) (v3 : Int32) (x : MS × Int32), G.1 u v1 v2 v3 = some x → ∀ (H : Heap) (locs : List Loc), va_P D cl (wM cB cI cJ cZ cS iM h0 ad u) H → va_D A (wM cB cI cJ cZ cS iM h0 ad u) → va_S A s.heap H locs → ∀ (ls : Array Slot), lv_has ls 5 [(0, .ref h0), (1, .int v1), (2, .int v2), (3, .int v3)] → W p l e R s m args below meth c H locs 0 0 (MQ below (mQi D cl cB cI cJ cZ cS iM h0 ad A x) args s 0 0 A) (F0 m 9 ls [])) ∧ (∀ (u : MS) (v1 : Int32) (x : MS × Int32), G.2 u v1 = some x → ∀ (H : Heap) (locs : List Loc), va_P D cl (wM cB cI cJ cZ cS iM h0 ad u) H → va_D A (wM cB cI cJ cZ cS iM h0 ad u) → va_S A s.heap H locs → ∀ (ls : Array Slot), lv_has ls 5 [(0, .ref h0), (1, .int v1)] → W p l e R s m args below meth c H locs 0 0 (MQ below (mQi D cl cB cI cJ cZ cS iM h0 ad A x) args s 0 0 A) (F0 m 20 ls []))) : ∀ (u : MS) (v1 : Int32) (v2 : Int32) (v3 : Int32) (v4 : Int32) (t0 : Nat) (t1 : Int32) (t3 : Int32) (x : MS × Int32), fb_M_worked_243 N S G u v1 v2 v3 v4 t0 t1 t3 = some x → ∀ (H : Heap) (locs : List Loc), va_P D cl (wM cB cI cJ cZ cS iM h0 ad u) H → va_D A (wM cB cI cJ cZ cS iM h0 ad u) → va_S A s.heap H locs → ∀ (ls : Array Slot), lv_has ls 5 [(0, .ref h0), (1, .int v1), (2, .int v2), (3, .int v3), (4, .int v4)] → W p l e R s m args below meth c H locs 0 0 (MQ below (mQi D cl cB cI cJ cZ cS iM h0 ad A x) args s 0 0 A) (F0 m 243 ls [.int t3, .ref h0, .int t1, .ref (ad t0)]) := by
  intro u v1 v2 v3 v4 t0 t1 t3 x hf H locs hP hD hS ls hl
  obtain ⟨hx, hb, hr, hml, ht, hown, hM, hK, hA, hlocks⟩ := id C0
  unfold fb_M_worked_243 at hf
  refine lv_aload_n hx hb d_M_worked_243 rfl (lv_at hl 0 rfl) ?_
  refine ug_I hx hb ht hown hM hK hP 69 (by decide) lk_M_69 (by decide) d_M_worked_244 ?_
  obtain ⟨u7, r7, hc7, hf⟩ := bnd_some hf
  refine mV_i (As := [.int t3, .int (u.1 69)]) (rest := [.int t1, .ref (ad t0)]) C0 hP hD hS (c_M_node N hM hc7) k_M_node hl_M_node hi_M_node hs_M_node hini_M rfl rfl hd_M_node rfl (rm_M_worked_M_node hR) hl.1 (Nat.le_of_ble_eq_true rfl) d_M_worked_247 rfl ⟨Nat.zero_le _, Nat.zero_le _⟩ (fun H locs hP hD hS => ?_)
  obtain ⟨hk9, hf⟩ := ck_some hf
  obtain ⟨hi9, hf⟩ := ck_some hf
  refine us_I hx hb hK hP hD hS (isK_1 hk9) (isK_2 hk9) hi9 d_M_worked_250 (fun H locs hP hD hS => ?_)
  obtain ⟨w8, e8, hf⟩ := lt_some hf
  rw [← e8] at hP hD
  refine lv_aload_n hx hb d_M_worked_251 rfl (lv_at hl 0 rfl) ?_
  refine ug_R hx hb ht hown hM hK hP 82 (by decide) lk_M_82 (by decide) d_M_worked_252 ?_
  refine lv_aload_n hx hb d_M_worked_255 rfl (lv_at hl 0 rfl) ?_
  refine ug_I hx hb ht hown hM hK hP 83 (by decide) lk_M_83 (by decide) d_M_worked_256 ?_
  refine lv_aload_n hx hb d_M_worked_259 rfl (lv_at hl 0 rfl) ?_
  refine ug_R hx hb ht hown hM hK hP 60 (by decide) lk_M_60 (by decide) d_M_worked_260 ?_
  refine lv_aload_n hx hb d_M_worked_263 rfl (lv_at hl 0 rfl) ?_
  refine ug_I hx hb ht hown hM hK hP 65 (by decide) lk_M_65 (by decide) d_M_worked_264 ?_
  obtain ⟨hi9, hf⟩ := ck_some hf
  refine ul_I hx hb hK hP (by decide) (by decide) hi9 d_M_worked_267 ?_
  obtain ⟨hi9, hf⟩ := ck_some hf
  refine us_I hx hb hK hP hD hS (by decide) (by decide) hi9 d_M_worked_268 (fun H locs hP hD hS => ?_)
  obtain ⟨w9, e9, hf⟩ := lt_some hf
  rw [← e9] at hP hD
  exact wb_M_worked_269 C0 hR N S hSg G hG _ _ _ _ _ _ hf H locs hP hD hS ls (lv_sub hl [0, 1, 2, 3, 4] rfl)
def fb_M_worked_189 (N : Nat) (S : SG_M_behind) (G : (MS → Int32 → Int32 → Int32 → Option (MS × Int32)) × (MS → Int32 → Option (MS × Int32))) (u : MS) (v1 : Int32) (v2 : Int32) (v3 : Int32) (v4 : Int32) : Option (MS × Int32) := ck (inb (u.1 83) (ln 79)) (lt (upA u 79 (upd (u.2.2.1 79) (u.1 83).toNatClampNeg (vp_nar .byte (v4.toInt8.toInt32)))) (fun w10 => ck (inb (w10.1 83) (ln 80)) (lt (upA w10 80 (upd (w10.2.2.1 80) (w10.1 83).toNatClampNeg (vp_nar .short ((w10.1 69).toInt16.toInt32)))) (fun w11 => br (decide (3 ≤ v4)) (fb_M_worked_269 N S G w11 (v1) (v2) (v3) (v4)) (br (decide (v4 = 1)) (fb_M_worked_243 N S G w11 (v1) (v2) (v3) (v4) (81) ((w11.1 83)) (10)) (fb_M_worked_243 N S G w11 (v1) (v2) (v3) (v4) (81) ((w11.1 83)) (9)))))))
set_option maxRecDepth 100000 in
set_option maxHeartbeats 4000000 in
theorem wb_M_worked_189 {p : Program} {l : Launch} {e : Env} {R : Room} {s : State} {m : MethodId} {args : Array Value} {below : List Frame} {meth : Method} {c : Code} {D : va_G} {cl : List vw_C} {cB cI cJ cZ cS : ClassId} {A : Nat → Prop} {iM h0 : Nat} {ad : Nat → Nat} (C0 : MCx p s m args meth c b_M_worked 5 (some .int) D cl cB cI cJ cZ cS iM A) {d : Nat} (hR : R = rg_M_behind (d + 1)) (N : Nat) (S : SG_M_behind) (hSg : HS_M_behind l D cl cB cI cJ cZ cS iM h0 ad (rg_M_behind d) S) (G : (MS → Int32 → Int32 → Int32 → Option (MS × Int32)) × (MS → Int32 → Option (MS × Int32))) (hG : (∀ (u : MS) (v1 : Int32) (v2 : Int32) (v3 : Int32) (x : MS × Int32), G.1 u v1 v2 v3 = some x → ∀ (H : Heap) (locs : List Loc), va_P D cl (wM cB cI cJ cZ cS iM h0 ad u) H → va_D A (wM cB cI cJ cZ cS iM h0 ad u) → va_S A s.heap H locs → ∀ (ls : Array Slot), lv_has ls 5 [(0, .ref h0), (1, .int v1), (2, .int v2), (3, .int v3)] → W p l e R s m args below meth c H locs 0 0 (MQ below (mQi D cl cB cI cJ cZ cS iM h0 ad A x) args s 0 0 A) (F0 m 9 ls [])) ∧ (∀ (u : MS) (v1 : Int32) (x : MS × Int32), G.2 u v1 = some x → ∀ (H : Heap) (locs : List Loc), va_P D cl (wM cB cI cJ cZ cS iM h0 ad u) H → va_D A (wM cB cI cJ cZ cS iM h0 ad u) → va_S A s.heap H locs → ∀ (ls : Array Slot), lv_has ls 5 [(0, .ref h0), (1, .int v1)] → W p l e R s m args below meth c H locs 0 0 (MQ below (mQi D cl cB cI cJ cZ cS iM h0 ad A x) args s 0 0 A) (F0 m 20 ls []))) : ∀ (u : MS) (v1 : Int32) (v2 : Int32) (v3 : Int32) (v4 : Int32) (x : MS × Int32), fb_M_worked_189 N S G u v1 v2 v3 v4 = some x → ∀ (H : Heap) (locs : List Loc), va_P D cl (wM cB cI cJ cZ cS iM h0 ad u) H → va_D A (wM cB cI cJ cZ cS iM h0 ad u) → va_S A s.heap H locs → ∀ (ls : Array Slot), lv_has ls 5 [(0, .ref h0), (1, .int v1), (2, .int v2), (3, .int v3), (4, .int v4)] → W p l e R s m args below meth c H locs 0 0 (MQ below (mQi D cl cB cI cJ cZ cS iM h0 ad A x) args s 0 0 A) (F0 m 189 ls []) := by
  intro u v1 v2 v3 v4 x hf H locs hP hD hS ls hl
  obtain ⟨hx, hb, hr, hml, ht, hown, hM, hK, hA, hlocks⟩ := id C0
  unfold fb_M_worked_189 at hf
  refine lv_aload_n hx hb d_M_worked_189 rfl (lv_at hl 0 rfl) ?_
  refine ug_R hx hb ht hown hM hK hP 79 (by decide) lk_M_79 (by decide) d_M_worked_190 ?_
  refine lv_aload_n hx hb d_M_worked_193 rfl (lv_at hl 0 rfl) ?_
  refine ug_I hx hb ht hown hM hK hP 83 (by decide) lk_M_83 (by decide) d_M_worked_194 ?_
  refine lv_iload hx hb d_M_worked_197 (lv_at hl 4 rfl) ?_
  refine lv_i2b hx hb d_M_worked_199 rfl ?_
  obtain ⟨hi9, hf⟩ := ck_some hf
  refine us_B hx hb hK hP hD hS (by decide) (by decide) hi9 d_M_worked_200 (fun H locs hP hD hS => ?_)
  obtain ⟨w10, e10, hf⟩ := lt_some hf
  rw [← e10] at hP hD
  refine lv_aload_n hx hb d_M_worked_201 rfl (lv_at hl 0 rfl) ?_
  refine ug_R hx hb ht hown hM hK hP 80 (by decide) lk_M_80 (by decide) d_M_worked_202 ?_
  refine lv_aload_n hx hb d_M_worked_205 rfl (lv_at hl 0 rfl) ?_
  refine ug_I hx hb ht hown hM hK hP 83 (by decide) lk_M_83 (by decide) d_M_worked_206 ?_
  refine lv_aload_n hx hb d_M_worked_209 rfl (lv_at hl 0 rfl) ?_
  refine ug_I hx hb ht hown hM hK hP 69 (by decide) lk_M_69 (by decide) d_M_worked_210 ?_
  refine lv_i2s hx hb d_M_worked_213 rfl ?_
  obtain ⟨hi9, hf⟩ := ck_some hf
  refine us_S hx hb hK hP hD hS (by decide) (by decide) hi9 d_M_worked_214 (fun H locs hP hD hS => ?_)
  obtain ⟨w11, e11, hf⟩ := lt_some hf
  rw [← e11] at hP hD
  refine lv_iload hx hb d_M_worked_215 (lv_at hl 4 rfl) ?_
  refine lv_iconst (v := 3) hx hb d_M_worked_217 (by decide) ?_
  refine lv_icmp_ge (tgt := 269) hx hb d_M_worked_218 (by decide) (fun hc => ?_) (fun hc => ?_)
  · rw [br_p _ hc] at hf
    exact wb_M_worked_269 C0 hR N S hSg G hG _ _ _ _ _ _ hf H locs hP hD hS ls (lv_sub hl [0, 1, 2, 3, 4] rfl)
  · rw [br_n _ hc] at hf
    refine lv_aload_n hx hb d_M_worked_221 rfl (lv_at hl 0 rfl) ?_
    refine ug_R hx hb ht hown hM hK hP 81 (by decide) lk_M_81 (by decide) d_M_worked_222 ?_
    refine lv_aload_n hx hb d_M_worked_225 rfl (lv_at hl 0 rfl) ?_
    refine ug_I hx hb ht hown hM hK hP 83 (by decide) lk_M_83 (by decide) d_M_worked_226 ?_
    refine lv_aload_n hx hb d_M_worked_229 rfl (lv_at hl 0 rfl) ?_
    refine lv_iload hx hb d_M_worked_230 (lv_at hl 4 rfl) ?_
    refine lv_iconst (v := 1) hx hb d_M_worked_232 (by decide) ?_
    refine lv_icmp_ne (tgt := 241) hx hb d_M_worked_233 (by decide) (fun hc => ?_) (fun hc => ?_)
    · rw [br_n _ hc] at hf
      refine lv_bipush (v := 9) hx hb d_M_worked_241 (by decide) ?_
      exact wb_M_worked_243 C0 hR N S hSg G hG _ _ _ _ _ _ _ _ _ hf H locs hP hD hS ls (lv_sub hl [0, 1, 2, 3, 4] rfl)
    · rw [br_p _ hc] at hf
      refine lv_bipush (v := 10) hx hb d_M_worked_236 (by decide) ?_
      refine lv_goto (tgt := 243) hx hb d_M_worked_238 (by decide) ?_
      exact wb_M_worked_243 C0 hR N S hSg G hG _ _ _ _ _ _ _ _ _ hf H locs hP hD hS ls (lv_sub hl [0, 1, 2, 3, 4] rfl)
def fb_M_worked_141 (N : Nat) (S : SG_M_behind) (G : (MS → Int32 → Int32 → Int32 → Option (MS × Int32)) × (MS → Int32 → Option (MS × Int32))) (u : MS) (v1 : Int32) (v2 : Int32) (v4 : Int32) (t0 : Int32) : Option (MS × Int32) := br (decide (t0 = 0)) (fb_M_worked_331 N S G u (v1) (v2) (t0)) (bnd (fm_M_reduce N u v1 v4 v2) (fun u12 r12 => br (decide (v4 = 3)) (br (decide ((u12.1 83) ≤ v1)) (fb_M_worked_189 N S G u12 (v1) (r12) (t0) (v4)) (ck (inb ((u12.1 83) - 1) (ln 79)) (br (decide ((u12.2.2.1 79 ((u12.1 83) - 1).toNatClampNeg) = 3)) (bnd (fm_M_wrong N u12 2) (fun u13 _ => fb_M_worked_189 N S G u13 (v1) (r12) (t0) (v4))) (fb_M_worked_189 N S G u12 (v1) (r12) (t0) (v4))))) (fb_M_worked_189 N S G u12 (v1) (r12) (t0) (v4))))
set_option maxRecDepth 100000 in
set_option maxHeartbeats 4000000 in
theorem wb_M_worked_141 {p : Program} {l : Launch} {e : Env} {R : Room} {s : State} {m : MethodId} {args : Array Value} {below : List Frame} {meth : Method} {c : Code} {D : va_G} {cl : List vw_C} {cB cI cJ cZ cS : ClassId} {A : Nat → Prop} {iM h0 : Nat} {ad : Nat → Nat} (C0 : MCx p s m args meth c b_M_worked 5 (some .int) D cl cB cI cJ cZ cS iM A) {d : Nat} (hR : R = rg_M_behind (d + 1)) (N : Nat) (S : SG_M_behind) (hSg : HS_M_behind l D cl cB cI cJ cZ cS iM h0 ad (rg_M_behind d) S) (G : (MS → Int32 → Int32 → Int32 → Option (MS × Int32)) × (MS → Int32 → Option (MS × Int32))) (hG : (∀ (u : MS) (v1 : Int32) (v2 : Int32) (v3 : Int32) (x : MS × Int32), G.1 u v1 v2 v3 = some x → ∀ (H : Heap) (locs : List Loc), va_P D cl (wM cB cI cJ cZ cS iM h0 ad u) H → va_D A (wM cB cI cJ cZ cS iM h0 ad u) → va_S A s.heap H locs → ∀ (ls : Array Slot), lv_has ls 5 [(0, .ref h0), (1, .int v1), (2, .int v2), (3, .int v3)] → W p l e R s m args below meth c H locs 0 0 (MQ below (mQi D cl cB cI cJ cZ cS iM h0 ad A x) args s 0 0 A) (F0 m 9 ls [])) ∧ (∀ (u : MS) (v1 : Int32) (x : MS × Int32), G.2 u v1 = some x → ∀ (H : Heap) (locs : List Loc), va_P D cl (wM cB cI cJ cZ cS iM h0 ad u) H → va_D A (wM cB cI cJ cZ cS iM h0 ad u) → va_S A s.heap H locs → ∀ (ls : Array Slot), lv_has ls 5 [(0, .ref h0), (1, .int v1)] → W p l e R s m args below meth c H locs 0 0 (MQ below (mQi D cl cB cI cJ cZ cS iM h0 ad A x) args s 0 0 A) (F0 m 20 ls []))) : ∀ (u : MS) (v1 : Int32) (v2 : Int32) (v4 : Int32) (t0 : Int32) (x : MS × Int32), fb_M_worked_141 N S G u v1 v2 v4 t0 = some x → ∀ (H : Heap) (locs : List Loc), va_P D cl (wM cB cI cJ cZ cS iM h0 ad u) H → va_D A (wM cB cI cJ cZ cS iM h0 ad u) → va_S A s.heap H locs → ∀ (ls : Array Slot), lv_has ls 5 [(0, .ref h0), (1, .int v1), (2, .int v2), (4, .int v4)] → W p l e R s m args below meth c H locs 0 0 (MQ below (mQi D cl cB cI cJ cZ cS iM h0 ad A x) args s 0 0 A) (F0 m 141 ls [.int t0]) := by
  intro u v1 v2 v4 t0 x hf H locs hP hD hS ls hl
  obtain ⟨hx, hb, hr, hml, ht, hown, hM, hK, hA, hlocks⟩ := id C0
  unfold fb_M_worked_141 at hf
  refine lv_istore_n (lv' := [(3, .int t0), (0, .ref h0), (1, .int v1), (2, .int v2), (4, .int v4)]) hx hb d_M_worked_141 rfl hl (by decide) rfl (fun ls hl => ?_)
  refine lv_iload_n hx hb d_M_worked_142 rfl (lv_at hl 0 rfl) ?_
  refine lv_if_eq (tgt := 331) hx hb d_M_worked_143 (by decide) (fun hc => ?_) (fun hc => ?_)
  · rw [br_p _ hc] at hf
    exact wb_M_worked_331 C0 hR N S hSg G hG _ _ _ _ _ hf H locs hP hD hS ls (lv_sub hl [1, 2, 3, 0] rfl)
  · rw [br_n _ hc] at hf
    refine lv_aload_n hx hb d_M_worked_146 rfl (lv_at hl 1 rfl) ?_
    refine lv_iload_n hx hb d_M_worked_147 rfl (lv_at hl 2 rfl) ?_
    refine lv_iload hx hb d_M_worked_148 (lv_at hl 4 rfl) ?_
    refine lv_iload_n hx hb d_M_worked_150 rfl (lv_at hl 3 rfl) ?_
    obtain ⟨u12, r12, hc12, hf⟩ := bnd_some hf
    refine mV_i (As := [.int v1, .int v4, .int v2]) (rest := []) C0 hP hD hS (c_M_reduce N hM hc12) k_M_reduce hl_M_reduce hi_M_reduce hs_M_reduce hini_M rfl rfl hd_M_reduce rfl (rm_M_worked_M_reduce hR) hl.1 (Nat.le_of_ble_eq_true rfl) d_M_worked_151 rfl ⟨Nat.zero_le _, Nat.zero_le _⟩ (fun H locs hP hD hS => ?_)
    refine lv_istore_n (lv' := [(2, .int r12), (3, .int t0), (0, .ref h0), (1, .int v1), (4, .int v4)]) hx hb d_M_worked_154 rfl hl (by decide) rfl (fun ls hl => ?_)
    refine lv_iload hx hb d_M_worked_155 (lv_at hl 4 rfl) ?_
    refine lv_iconst (v := 3) hx hb d_M_worked_157 (by decide) ?_
    refine lv_icmp_ne (tgt := 189) hx hb d_M_worked_158 (by decide) (fun hc => ?_) (fun hc => ?_)
    · rw [br_n _ hc] at hf
      exact wb_M_worked_189 C0 hR N S hSg G hG _ _ _ _ _ _ hf H locs hP hD hS ls (lv_sub hl [2, 3, 0, 1, 4] rfl)
    · rw [br_p _ hc] at hf
      refine lv_aload_n hx hb d_M_worked_161 rfl (lv_at hl 2 rfl) ?_
      refine ug_I hx hb ht hown hM hK hP 83 (by decide) lk_M_83 (by decide) d_M_worked_162 ?_
      refine lv_iload_n hx hb d_M_worked_165 rfl (lv_at hl 3 rfl) ?_
      refine lv_icmp_le (tgt := 189) hx hb d_M_worked_166 (by decide) (fun hc => ?_) (fun hc => ?_)
      · rw [br_p _ hc] at hf
        exact wb_M_worked_189 C0 hR N S hSg G hG _ _ _ _ _ _ hf H locs hP hD hS ls (lv_sub hl [2, 3, 0, 1, 4] rfl)
      · rw [br_n _ hc] at hf
        refine lv_aload_n hx hb d_M_worked_169 rfl (lv_at hl 2 rfl) ?_
        refine ug_R hx hb ht hown hM hK hP 79 (by decide) lk_M_79 (by decide) d_M_worked_170 ?_
        refine lv_aload_n hx hb d_M_worked_173 rfl (lv_at hl 2 rfl) ?_
        refine ug_I hx hb ht hown hM hK hP 83 (by decide) lk_M_83 (by decide) d_M_worked_174 ?_
        refine lv_iconst (v := 1) hx hb d_M_worked_177 (by decide) ?_
        refine lv_isub hx hb d_M_worked_178 ?_
        obtain ⟨hi9, hf⟩ := ck_some hf
        refine ul_B hx hb hK hP (by decide) (by decide) hi9 d_M_worked_179 ?_
        refine lv_iconst (v := 3) hx hb d_M_worked_180 (by decide) ?_
        refine lv_icmp_ne (tgt := 189) hx hb d_M_worked_181 (by decide) (fun hc => ?_) (fun hc => ?_)
        · rw [br_n _ hc] at hf
          exact wb_M_worked_189 C0 hR N S hSg G hG _ _ _ _ _ _ hf H locs hP hD hS ls (lv_sub hl [2, 3, 0, 1, 4] rfl)
        · rw [br_p _ hc] at hf
          refine lv_aload_n hx hb d_M_worked_184 rfl (lv_at hl 2 rfl) ?_
          refine lv_iconst (v := 2) hx hb d_M_worked_185 (by decide) ?_
          obtain ⟨u13, r13, hc13, hf⟩ := bnd_some hf
          refine mV_v (As := [.int 2]) (rest := []) C0 hP hD hS (c_M_wrong N hM hc13) k_M_wrong hl_M_wrong hi_M_wrong hs_M_wrong hini_M rfl rfl hd_M_wrong rfl (rm_M_worked_M_wrong hR) hl.1 (Nat.le_of_ble_eq_true rfl) d_M_worked_186 rfl ⟨Nat.zero_le _, Nat.zero_le _⟩ (fun H locs hP hD hS => ?_)
          exact wb_M_worked_189 C0 hR N S hSg G hG _ _ _ _ _ _ hf H locs hP hD hS ls (lv_sub hl [2, 3, 0, 1, 4] rfl)
def fb_M_worked_129 (N : Nat) (S : SG_M_behind) (G : (MS → Int32 → Int32 → Int32 → Option (MS × Int32)) × (MS → Int32 → Option (MS × Int32))) (u : MS) (v1 : Int32) (v2 : Int32) (t0 : Int32) : Option (MS × Int32) := br (decide (t0 ≤ 0)) (fb_M_worked_141 N S G u (v1) (v2) (t0) (0)) (fb_M_worked_141 N S G u (v1) (v2) (t0) (1))
set_option maxRecDepth 100000 in
set_option maxHeartbeats 4000000 in
theorem wb_M_worked_129 {p : Program} {l : Launch} {e : Env} {R : Room} {s : State} {m : MethodId} {args : Array Value} {below : List Frame} {meth : Method} {c : Code} {D : va_G} {cl : List vw_C} {cB cI cJ cZ cS : ClassId} {A : Nat → Prop} {iM h0 : Nat} {ad : Nat → Nat} (C0 : MCx p s m args meth c b_M_worked 5 (some .int) D cl cB cI cJ cZ cS iM A) {d : Nat} (hR : R = rg_M_behind (d + 1)) (N : Nat) (S : SG_M_behind) (hSg : HS_M_behind l D cl cB cI cJ cZ cS iM h0 ad (rg_M_behind d) S) (G : (MS → Int32 → Int32 → Int32 → Option (MS × Int32)) × (MS → Int32 → Option (MS × Int32))) (hG : (∀ (u : MS) (v1 : Int32) (v2 : Int32) (v3 : Int32) (x : MS × Int32), G.1 u v1 v2 v3 = some x → ∀ (H : Heap) (locs : List Loc), va_P D cl (wM cB cI cJ cZ cS iM h0 ad u) H → va_D A (wM cB cI cJ cZ cS iM h0 ad u) → va_S A s.heap H locs → ∀ (ls : Array Slot), lv_has ls 5 [(0, .ref h0), (1, .int v1), (2, .int v2), (3, .int v3)] → W p l e R s m args below meth c H locs 0 0 (MQ below (mQi D cl cB cI cJ cZ cS iM h0 ad A x) args s 0 0 A) (F0 m 9 ls [])) ∧ (∀ (u : MS) (v1 : Int32) (x : MS × Int32), G.2 u v1 = some x → ∀ (H : Heap) (locs : List Loc), va_P D cl (wM cB cI cJ cZ cS iM h0 ad u) H → va_D A (wM cB cI cJ cZ cS iM h0 ad u) → va_S A s.heap H locs → ∀ (ls : Array Slot), lv_has ls 5 [(0, .ref h0), (1, .int v1)] → W p l e R s m args below meth c H locs 0 0 (MQ below (mQi D cl cB cI cJ cZ cS iM h0 ad A x) args s 0 0 A) (F0 m 20 ls []))) : ∀ (u : MS) (v1 : Int32) (v2 : Int32) (t0 : Int32) (x : MS × Int32), fb_M_worked_129 N S G u v1 v2 t0 = some x → ∀ (H : Heap) (locs : List Loc), va_P D cl (wM cB cI cJ cZ cS iM h0 ad u) H → va_D A (wM cB cI cJ cZ cS iM h0 ad u) → va_S A s.heap H locs → ∀ (ls : Array Slot), lv_has ls 5 [(0, .ref h0), (1, .int v1), (2, .int v2)] → W p l e R s m args below meth c H locs 0 0 (MQ below (mQi D cl cB cI cJ cZ cS iM h0 ad A x) args s 0 0 A) (F0 m 129 ls [.int t0]) := by
  intro u v1 v2 t0 x hf H locs hP hD hS ls hl
  obtain ⟨hx, hb, hr, hml, ht, hown, hM, hK, hA, hlocks⟩ := id C0
  unfold fb_M_worked_129 at hf
  refine lv_istore (lv' := [(4, .int t0), (0, .ref h0), (1, .int v1), (2, .int v2)]) hx hb d_M_worked_129 hl (by decide) rfl (fun ls hl => ?_)
  refine lv_iload hx hb d_M_worked_131 (lv_at hl 0 rfl) ?_
  refine lv_if_le (tgt := 140) hx hb d_M_worked_133 (by decide) (fun hc => ?_) (fun hc => ?_)
  · rw [br_p _ hc] at hf
    refine lv_iconst (v := 0) hx hb d_M_worked_140 (by decide) ?_
    exact wb_M_worked_141 C0 hR N S hSg G hG _ _ _ _ _ _ hf H locs hP hD hS ls (lv_sub hl [1, 2, 3, 0] rfl)
  · rw [br_n _ hc] at hf
    refine lv_iconst (v := 1) hx hb d_M_worked_136 (by decide) ?_
    refine lv_goto (tgt := 141) hx hb d_M_worked_137 (by decide) ?_
    exact wb_M_worked_141 C0 hR N S hSg G hG _ _ _ _ _ _ hf H locs hP hD hS ls (lv_sub hl [1, 2, 3, 0] rfl)
def fb_M_worked_109 (N : Nat) (S : SG_M_behind) (G : (MS → Int32 → Int32 → Int32 → Option (MS × Int32)) × (MS → Int32 → Option (MS × Int32))) (u : MS) (v1 : Int32) : Option (MS × Int32) := bnd (S.2.2.2.2.2.2.2.2.2.2.1 u) (fun u14 r14 => br (decide ((u14.1 67) = 0)) (bnd (fm_M_level N u14) (fun u15 r15 => fb_M_worked_129 N S G u15 (v1) (r14) (r15))) (fb_M_worked_129 N S G u14 (v1) (r14) (0)))
set_option maxRecDepth 100000 in
set_option maxHeartbeats 4000000 in
theorem wb_M_worked_109 {p : Program} {l : Launch} {e : Env} {R : Room} {s : State} {m : MethodId} {args : Array Value} {below : List Frame} {meth : Method} {c : Code} {D : va_G} {cl : List vw_C} {cB cI cJ cZ cS : ClassId} {A : Nat → Prop} {iM h0 : Nat} {ad : Nat → Nat} (C0 : MCx p s m args meth c b_M_worked 5 (some .int) D cl cB cI cJ cZ cS iM A) {d : Nat} (hR : R = rg_M_behind (d + 1)) (N : Nat) (S : SG_M_behind) (hSg : HS_M_behind l D cl cB cI cJ cZ cS iM h0 ad (rg_M_behind d) S) (G : (MS → Int32 → Int32 → Int32 → Option (MS × Int32)) × (MS → Int32 → Option (MS × Int32))) (hG : (∀ (u : MS) (v1 : Int32) (v2 : Int32) (v3 : Int32) (x : MS × Int32), G.1 u v1 v2 v3 = some x → ∀ (H : Heap) (locs : List Loc), va_P D cl (wM cB cI cJ cZ cS iM h0 ad u) H → va_D A (wM cB cI cJ cZ cS iM h0 ad u) → va_S A s.heap H locs → ∀ (ls : Array Slot), lv_has ls 5 [(0, .ref h0), (1, .int v1), (2, .int v2), (3, .int v3)] → W p l e R s m args below meth c H locs 0 0 (MQ below (mQi D cl cB cI cJ cZ cS iM h0 ad A x) args s 0 0 A) (F0 m 9 ls [])) ∧ (∀ (u : MS) (v1 : Int32) (x : MS × Int32), G.2 u v1 = some x → ∀ (H : Heap) (locs : List Loc), va_P D cl (wM cB cI cJ cZ cS iM h0 ad u) H → va_D A (wM cB cI cJ cZ cS iM h0 ad u) → va_S A s.heap H locs → ∀ (ls : Array Slot), lv_has ls 5 [(0, .ref h0), (1, .int v1)] → W p l e R s m args below meth c H locs 0 0 (MQ below (mQi D cl cB cI cJ cZ cS iM h0 ad A x) args s 0 0 A) (F0 m 20 ls []))) : ∀ (u : MS) (v1 : Int32) (x : MS × Int32), fb_M_worked_109 N S G u v1 = some x → ∀ (H : Heap) (locs : List Loc), va_P D cl (wM cB cI cJ cZ cS iM h0 ad u) H → va_D A (wM cB cI cJ cZ cS iM h0 ad u) → va_S A s.heap H locs → ∀ (ls : Array Slot), lv_has ls 5 [(0, .ref h0), (1, .int v1)] → W p l e R s m args below meth c H locs 0 0 (MQ below (mQi D cl cB cI cJ cZ cS iM h0 ad A x) args s 0 0 A) (F0 m 109 ls []) := by
  intro u v1 x hf H locs hP hD hS ls hl
  obtain ⟨hx, hb, hr, hml, ht, hown, hM, hK, hA, hlocks⟩ := id C0
  unfold fb_M_worked_109 at hf
  refine lv_aload_n hx hb d_M_worked_109 rfl (lv_at hl 0 rfl) ?_
  obtain ⟨u14, r14, hc14, hf⟩ := bnd_some hf
  refine mV_i (As := []) (rest := []) C0 hP hD hS (hSg.2.2.2.2.2.2.2.2.2.2.1 _ _ _ hc14) k_M_primary hl_M_primary hi_M_primary hs_M_primary hini_M rfl rfl hd_M_primary rfl (rm_M_worked_M_primary hR) hl.1 (Nat.le_of_ble_eq_true rfl) d_M_worked_110 rfl ⟨Nat.zero_le _, Nat.zero_le _⟩ (fun H locs hP hD hS => ?_)
  refine lv_istore_n (lv' := [(2, .int r14), (0, .ref h0), (1, .int v1)]) hx hb d_M_worked_113 rfl hl (by decide) rfl (fun ls hl => ?_)
  refine lv_aload_n hx hb d_M_worked_114 rfl (lv_at hl 1 rfl) ?_
  refine ug_I hx hb ht hown hM hK hP 67 (by decide) lk_M_67 (by decide) d_M_worked_115 ?_
  refine lv_if_ne (tgt := 128) hx hb d_M_worked_118 (by decide) (fun hc => ?_) (fun hc => ?_)
  · rw [br_n _ hc] at hf
    refine lv_iconst (v := 0) hx hb d_M_worked_128 (by decide) ?_
    exact wb_M_worked_129 C0 hR N S hSg G hG _ _ _ _ _ hf H locs hP hD hS ls (lv_sub hl [1, 2, 0] rfl)
  · rw [br_p _ hc] at hf
    refine lv_aload_n hx hb d_M_worked_121 rfl (lv_at hl 1 rfl) ?_
    obtain ⟨u15, r15, hc15, hf⟩ := bnd_some hf
    refine mV_i (As := []) (rest := []) C0 hP hD hS (c_M_level N hM hc15) k_M_level hl_M_level hi_M_level hs_M_level hini_M rfl rfl hd_M_level rfl (rm_M_worked_M_level hR) hl.1 (Nat.le_of_ble_eq_true rfl) d_M_worked_122 rfl ⟨Nat.zero_le _, Nat.zero_le _⟩ (fun H locs hP hD hS => ?_)
    refine lv_goto (tgt := 129) hx hb d_M_worked_125 (by decide) ?_
    exact wb_M_worked_129 C0 hR N S hSg G hG _ _ _ _ _ hf H locs hP hD hS ls (lv_sub hl [1, 2, 0] rfl)
def fb_M_worked_102 (N : Nat) (S : SG_M_behind) (G : (MS → Int32 → Int32 → Int32 → Option (MS × Int32)) × (MS → Int32 → Option (MS × Int32))) (u : MS) (v1 : Int32) : Option (MS × Int32) := bnd (fm_M_opens N u) (fun u16 _ => G.2 u16 (v1))
set_option maxRecDepth 100000 in
set_option maxHeartbeats 4000000 in
theorem wb_M_worked_102 {p : Program} {l : Launch} {e : Env} {R : Room} {s : State} {m : MethodId} {args : Array Value} {below : List Frame} {meth : Method} {c : Code} {D : va_G} {cl : List vw_C} {cB cI cJ cZ cS : ClassId} {A : Nat → Prop} {iM h0 : Nat} {ad : Nat → Nat} (C0 : MCx p s m args meth c b_M_worked 5 (some .int) D cl cB cI cJ cZ cS iM A) {d : Nat} (hR : R = rg_M_behind (d + 1)) (N : Nat) (S : SG_M_behind) (hSg : HS_M_behind l D cl cB cI cJ cZ cS iM h0 ad (rg_M_behind d) S) (G : (MS → Int32 → Int32 → Int32 → Option (MS × Int32)) × (MS → Int32 → Option (MS × Int32))) (hG : (∀ (u : MS) (v1 : Int32) (v2 : Int32) (v3 : Int32) (x : MS × Int32), G.1 u v1 v2 v3 = some x → ∀ (H : Heap) (locs : List Loc), va_P D cl (wM cB cI cJ cZ cS iM h0 ad u) H → va_D A (wM cB cI cJ cZ cS iM h0 ad u) → va_S A s.heap H locs → ∀ (ls : Array Slot), lv_has ls 5 [(0, .ref h0), (1, .int v1), (2, .int v2), (3, .int v3)] → W p l e R s m args below meth c H locs 0 0 (MQ below (mQi D cl cB cI cJ cZ cS iM h0 ad A x) args s 0 0 A) (F0 m 9 ls [])) ∧ (∀ (u : MS) (v1 : Int32) (x : MS × Int32), G.2 u v1 = some x → ∀ (H : Heap) (locs : List Loc), va_P D cl (wM cB cI cJ cZ cS iM h0 ad u) H → va_D A (wM cB cI cJ cZ cS iM h0 ad u) → va_S A s.heap H locs → ∀ (ls : Array Slot), lv_has ls 5 [(0, .ref h0), (1, .int v1)] → W p l e R s m args below meth c H locs 0 0 (MQ below (mQi D cl cB cI cJ cZ cS iM h0 ad A x) args s 0 0 A) (F0 m 20 ls []))) : ∀ (u : MS) (v1 : Int32) (x : MS × Int32), fb_M_worked_102 N S G u v1 = some x → ∀ (H : Heap) (locs : List Loc), va_P D cl (wM cB cI cJ cZ cS iM h0 ad u) H → va_D A (wM cB cI cJ cZ cS iM h0 ad u) → va_S A s.heap H locs → ∀ (ls : Array Slot), lv_has ls 5 [(0, .ref h0), (1, .int v1)] → W p l e R s m args below meth c H locs 0 0 (MQ below (mQi D cl cB cI cJ cZ cS iM h0 ad A x) args s 0 0 A) (F0 m 102 ls []) := by
  intro u v1 x hf H locs hP hD hS ls hl
  obtain ⟨hx, hb, hr, hml, ht, hown, hM, hK, hA, hlocks⟩ := id C0
  unfold fb_M_worked_102 at hf
  refine lv_aload_n hx hb d_M_worked_102 rfl (lv_at hl 0 rfl) ?_
  obtain ⟨u16, r16, hc16, hf⟩ := bnd_some hf
  refine mV_v (As := []) (rest := []) C0 hP hD hS (c_M_opens N hM hc16) k_M_opens hl_M_opens hi_M_opens hs_M_opens hini_M rfl rfl hd_M_opens rfl (rm_M_worked_M_opens hR) hl.1 (Nat.le_of_ble_eq_true rfl) d_M_worked_103 rfl ⟨Nat.zero_le _, Nat.zero_le _⟩ (fun H locs hP hD hS => ?_)
  refine lv_goto (tgt := 20) hx hb d_M_worked_106 (by decide) ?_
  exact hG.2 _ _ _ hf H locs hP hD hS ls (lv_sub hl [0, 1] rfl)
def fb_M_worked_45 (N : Nat) (S : SG_M_behind) (G : (MS → Int32 → Int32 → Int32 → Option (MS × Int32)) × (MS → Int32 → Option (MS × Int32))) (u : MS) (v1 : Int32) : Option (MS × Int32) := ck (inb (u.1 83) (ln 79)) (lt (upA u 79 (upd (u.2.2.1 79) (u.1 83).toNatClampNeg (vp_nar .byte 7))) (fun w17 => ck (inb (w17.1 83) (ln 80)) (lt (upA w17 80 (upd (w17.2.2.1 80) (w17.1 83).toNatClampNeg (vp_nar .short ((w17.1 69).toInt16.toInt32)))) (fun w18 => lt (upI w18 83 ((w18.1 83) + 1)) (fun w19 => lt (upI w19 69 ((w19.1 69) + 1)) (fun w20 => bnd (fm_M_beginsUnit N w20) (fun u21 r21 => br (decide (r21 = 0)) (bnd (fm_M_wrong N u21 2) (fun u22 _ => fb_M_worked_102 N S G u22 (v1))) (fb_M_worked_102 N S G u21 (v1)))))))))
set_option maxRecDepth 100000 in
set_option maxHeartbeats 4000000 in
theorem wb_M_worked_45 {p : Program} {l : Launch} {e : Env} {R : Room} {s : State} {m : MethodId} {args : Array Value} {below : List Frame} {meth : Method} {c : Code} {D : va_G} {cl : List vw_C} {cB cI cJ cZ cS : ClassId} {A : Nat → Prop} {iM h0 : Nat} {ad : Nat → Nat} (C0 : MCx p s m args meth c b_M_worked 5 (some .int) D cl cB cI cJ cZ cS iM A) {d : Nat} (hR : R = rg_M_behind (d + 1)) (N : Nat) (S : SG_M_behind) (hSg : HS_M_behind l D cl cB cI cJ cZ cS iM h0 ad (rg_M_behind d) S) (G : (MS → Int32 → Int32 → Int32 → Option (MS × Int32)) × (MS → Int32 → Option (MS × Int32))) (hG : (∀ (u : MS) (v1 : Int32) (v2 : Int32) (v3 : Int32) (x : MS × Int32), G.1 u v1 v2 v3 = some x → ∀ (H : Heap) (locs : List Loc), va_P D cl (wM cB cI cJ cZ cS iM h0 ad u) H → va_D A (wM cB cI cJ cZ cS iM h0 ad u) → va_S A s.heap H locs → ∀ (ls : Array Slot), lv_has ls 5 [(0, .ref h0), (1, .int v1), (2, .int v2), (3, .int v3)] → W p l e R s m args below meth c H locs 0 0 (MQ below (mQi D cl cB cI cJ cZ cS iM h0 ad A x) args s 0 0 A) (F0 m 9 ls [])) ∧ (∀ (u : MS) (v1 : Int32) (x : MS × Int32), G.2 u v1 = some x → ∀ (H : Heap) (locs : List Loc), va_P D cl (wM cB cI cJ cZ cS iM h0 ad u) H → va_D A (wM cB cI cJ cZ cS iM h0 ad u) → va_S A s.heap H locs → ∀ (ls : Array Slot), lv_has ls 5 [(0, .ref h0), (1, .int v1)] → W p l e R s m args below meth c H locs 0 0 (MQ below (mQi D cl cB cI cJ cZ cS iM h0 ad A x) args s 0 0 A) (F0 m 20 ls []))) : ∀ (u : MS) (v1 : Int32) (x : MS × Int32), fb_M_worked_45 N S G u v1 = some x → ∀ (H : Heap) (locs : List Loc), va_P D cl (wM cB cI cJ cZ cS iM h0 ad u) H → va_D A (wM cB cI cJ cZ cS iM h0 ad u) → va_S A s.heap H locs → ∀ (ls : Array Slot), lv_has ls 5 [(0, .ref h0), (1, .int v1)] → W p l e R s m args below meth c H locs 0 0 (MQ below (mQi D cl cB cI cJ cZ cS iM h0 ad A x) args s 0 0 A) (F0 m 45 ls []) := by
  intro u v1 x hf H locs hP hD hS ls hl
  obtain ⟨hx, hb, hr, hml, ht, hown, hM, hK, hA, hlocks⟩ := id C0
  unfold fb_M_worked_45 at hf
  refine lv_aload_n hx hb d_M_worked_45 rfl (lv_at hl 0 rfl) ?_
  refine ug_R hx hb ht hown hM hK hP 79 (by decide) lk_M_79 (by decide) d_M_worked_46 ?_
  refine lv_aload_n hx hb d_M_worked_49 rfl (lv_at hl 0 rfl) ?_
  refine ug_I hx hb ht hown hM hK hP 83 (by decide) lk_M_83 (by decide) d_M_worked_50 ?_
  refine lv_bipush (v := 7) hx hb d_M_worked_53 (by decide) ?_
  obtain ⟨hi9, hf⟩ := ck_some hf
  refine us_B hx hb hK hP hD hS (by decide) (by decide) hi9 d_M_worked_55 (fun H locs hP hD hS => ?_)
  obtain ⟨w17, e17, hf⟩ := lt_some hf
  rw [← e17] at hP hD
  refine lv_aload_n hx hb d_M_worked_56 rfl (lv_at hl 0 rfl) ?_
  refine ug_R hx hb ht hown hM hK hP 80 (by decide) lk_M_80 (by decide) d_M_worked_57 ?_
  refine lv_aload_n hx hb d_M_worked_60 rfl (lv_at hl 0 rfl) ?_
  refine ug_I hx hb ht hown hM hK hP 83 (by decide) lk_M_83 (by decide) d_M_worked_61 ?_
  refine lv_aload_n hx hb d_M_worked_64 rfl (lv_at hl 0 rfl) ?_
  refine ug_I hx hb ht hown hM hK hP 69 (by decide) lk_M_69 (by decide) d_M_worked_65 ?_
  refine lv_i2s hx hb d_M_worked_68 rfl ?_
  obtain ⟨hi9, hf⟩ := ck_some hf
  refine us_S hx hb hK hP hD hS (by decide) (by decide) hi9 d_M_worked_69 (fun H locs hP hD hS => ?_)
  obtain ⟨w18, e18, hf⟩ := lt_some hf
  rw [← e18] at hP hD
  refine lv_aload_n hx hb d_M_worked_70 rfl (lv_at hl 0 rfl) ?_
  refine lv_dup hx hb d_M_worked_71 rfl ?_
  refine ug_I hx hb ht hown hM hK hP 83 (by decide) lk_M_83 (by decide) d_M_worked_72 ?_
  refine lv_iconst (v := 1) hx hb d_M_worked_75 (by decide) ?_
  refine lv_iadd hx hb d_M_worked_76 ?_
  refine up_I hx hb ht hown hM hK hP hD hS 83 (by decide) lk_M_83 (by decide) rfl rfl rfl d_M_worked_77 (fun H locs hP hD hS => ?_)
  obtain ⟨w19, e19, hf⟩ := lt_some hf
  rw [← e19] at hP hD
  refine lv_aload_n hx hb d_M_worked_80 rfl (lv_at hl 0 rfl) ?_
  refine lv_dup hx hb d_M_worked_81 rfl ?_
  refine ug_I hx hb ht hown hM hK hP 69 (by decide) lk_M_69 (by decide) d_M_worked_82 ?_
  refine lv_iconst (v := 1) hx hb d_M_worked_85 (by decide) ?_
  refine lv_iadd hx hb d_M_worked_86 ?_
  refine up_I hx hb ht hown hM hK hP hD hS 69 (by decide) lk_M_69 (by decide) rfl rfl rfl d_M_worked_87 (fun H locs hP hD hS => ?_)
  obtain ⟨w20, e20, hf⟩ := lt_some hf
  rw [← e20] at hP hD
  refine lv_aload_n hx hb d_M_worked_90 rfl (lv_at hl 0 rfl) ?_
  obtain ⟨u21, r21, hc21, hf⟩ := bnd_some hf
  refine mV_i (As := []) (rest := []) C0 hP hD hS (c_M_beginsUnit N hM hc21) k_M_beginsUnit hl_M_beginsUnit hi_M_beginsUnit hs_M_beginsUnit hini_M rfl rfl hd_M_beginsUnit rfl (rm_M_worked_M_beginsUnit hR) hl.1 (Nat.le_of_ble_eq_true rfl) d_M_worked_91 rfl ⟨Nat.zero_le _, Nat.zero_le _⟩ (fun H locs hP hD hS => ?_)
  refine lv_if_ne (tgt := 102) hx hb d_M_worked_94 (by decide) (fun hc => ?_) (fun hc => ?_)
  · rw [br_n _ hc] at hf
    exact wb_M_worked_102 C0 hR N S hSg G hG _ _ _ hf H locs hP hD hS ls (lv_sub hl [0, 1] rfl)
  · rw [br_p _ hc] at hf
    refine lv_aload_n hx hb d_M_worked_97 rfl (lv_at hl 0 rfl) ?_
    refine lv_iconst (v := 2) hx hb d_M_worked_98 (by decide) ?_
    obtain ⟨u22, r22, hc22, hf⟩ := bnd_some hf
    refine mV_v (As := [.int 2]) (rest := []) C0 hP hD hS (c_M_wrong N hM hc22) k_M_wrong hl_M_wrong hi_M_wrong hs_M_wrong hini_M rfl rfl hd_M_wrong rfl (rm_M_worked_M_wrong hR) hl.1 (Nat.le_of_ble_eq_true rfl) d_M_worked_99 rfl ⟨Nat.zero_le _, Nat.zero_le _⟩ (fun H locs hP hD hS => ?_)
    exact wb_M_worked_102 C0 hR N S hSg G hG _ _ _ hf H locs hP hD hS ls (lv_sub hl [0, 1] rfl)
def fb_M_worked_20 (N : Nat) (S : SG_M_behind) (G : (MS → Int32 → Int32 → Int32 → Option (MS × Int32)) × (MS → Int32 → Option (MS × Int32))) (u : MS) (v1 : Int32) : Option (MS × Int32) := br (decide ((u.1 67) = 0)) (bnd (fm_M_isSign N u 19) (fun u23 r23 => br (decide (r23 = 0)) (bnd (fm_M_isWord N u23 9) (fun u24 r24 => br (decide (r24 = 0)) (fb_M_worked_109 N S G u24 (v1)) (fb_M_worked_45 N S G u24 (v1)))) (fb_M_worked_45 N S G u23 (v1)))) (fb_M_worked_109 N S G u (v1))
set_option maxRecDepth 100000 in
set_option maxHeartbeats 4000000 in
theorem wb_M_worked_20 {p : Program} {l : Launch} {e : Env} {R : Room} {s : State} {m : MethodId} {args : Array Value} {below : List Frame} {meth : Method} {c : Code} {D : va_G} {cl : List vw_C} {cB cI cJ cZ cS : ClassId} {A : Nat → Prop} {iM h0 : Nat} {ad : Nat → Nat} (C0 : MCx p s m args meth c b_M_worked 5 (some .int) D cl cB cI cJ cZ cS iM A) {d : Nat} (hR : R = rg_M_behind (d + 1)) (N : Nat) (S : SG_M_behind) (hSg : HS_M_behind l D cl cB cI cJ cZ cS iM h0 ad (rg_M_behind d) S) (G : (MS → Int32 → Int32 → Int32 → Option (MS × Int32)) × (MS → Int32 → Option (MS × Int32))) (hG : (∀ (u : MS) (v1 : Int32) (v2 : Int32) (v3 : Int32) (x : MS × Int32), G.1 u v1 v2 v3 = some x → ∀ (H : Heap) (locs : List Loc), va_P D cl (wM cB cI cJ cZ cS iM h0 ad u) H → va_D A (wM cB cI cJ cZ cS iM h0 ad u) → va_S A s.heap H locs → ∀ (ls : Array Slot), lv_has ls 5 [(0, .ref h0), (1, .int v1), (2, .int v2), (3, .int v3)] → W p l e R s m args below meth c H locs 0 0 (MQ below (mQi D cl cB cI cJ cZ cS iM h0 ad A x) args s 0 0 A) (F0 m 9 ls [])) ∧ (∀ (u : MS) (v1 : Int32) (x : MS × Int32), G.2 u v1 = some x → ∀ (H : Heap) (locs : List Loc), va_P D cl (wM cB cI cJ cZ cS iM h0 ad u) H → va_D A (wM cB cI cJ cZ cS iM h0 ad u) → va_S A s.heap H locs → ∀ (ls : Array Slot), lv_has ls 5 [(0, .ref h0), (1, .int v1)] → W p l e R s m args below meth c H locs 0 0 (MQ below (mQi D cl cB cI cJ cZ cS iM h0 ad A x) args s 0 0 A) (F0 m 20 ls []))) : ∀ (u : MS) (v1 : Int32) (x : MS × Int32), fb_M_worked_20 N S G u v1 = some x → ∀ (H : Heap) (locs : List Loc), va_P D cl (wM cB cI cJ cZ cS iM h0 ad u) H → va_D A (wM cB cI cJ cZ cS iM h0 ad u) → va_S A s.heap H locs → ∀ (ls : Array Slot), lv_has ls 5 [(0, .ref h0), (1, .int v1)] → W p l e R s m args below meth c H locs 0 0 (MQ below (mQi D cl cB cI cJ cZ cS iM h0 ad A x) args s 0 0 A) (F0 m 20 ls []) := by
  intro u v1 x hf H locs hP hD hS ls hl
  obtain ⟨hx, hb, hr, hml, ht, hown, hM, hK, hA, hlocks⟩ := id C0
  unfold fb_M_worked_20 at hf
  refine lv_aload_n hx hb d_M_worked_20 rfl (lv_at hl 0 rfl) ?_
  refine ug_I hx hb ht hown hM hK hP 67 (by decide) lk_M_67 (by decide) d_M_worked_21 ?_
  refine lv_if_ne (tgt := 109) hx hb d_M_worked_24 (by decide) (fun hc => ?_) (fun hc => ?_)
  · rw [br_n _ hc] at hf
    exact wb_M_worked_109 C0 hR N S hSg G hG _ _ _ hf H locs hP hD hS ls (lv_sub hl [0, 1] rfl)
  · rw [br_p _ hc] at hf
    refine lv_aload_n hx hb d_M_worked_27 rfl (lv_at hl 0 rfl) ?_
    refine lv_bipush (v := 19) hx hb d_M_worked_28 (by decide) ?_
    obtain ⟨u23, r23, hc23, hf⟩ := bnd_some hf
    refine mV_i (As := [.int 19]) (rest := []) C0 hP hD hS (c_M_isSign N hM hc23) k_M_isSign hl_M_isSign hi_M_isSign hs_M_isSign hini_M rfl rfl hd_M_isSign rfl (rm_M_worked_M_isSign hR) hl.1 (Nat.le_of_ble_eq_true rfl) d_M_worked_30 rfl ⟨Nat.zero_le _, Nat.zero_le _⟩ (fun H locs hP hD hS => ?_)
    refine lv_if_ne (tgt := 45) hx hb d_M_worked_33 (by decide) (fun hc => ?_) (fun hc => ?_)
    · rw [br_n _ hc] at hf
      exact wb_M_worked_45 C0 hR N S hSg G hG _ _ _ hf H locs hP hD hS ls (lv_sub hl [0, 1] rfl)
    · rw [br_p _ hc] at hf
      refine lv_aload_n hx hb d_M_worked_36 rfl (lv_at hl 0 rfl) ?_
      refine lv_bipush (v := 9) hx hb d_M_worked_37 (by decide) ?_
      obtain ⟨u24, r24, hc24, hf⟩ := bnd_some hf
      refine mV_i (As := [.int 9]) (rest := []) C0 hP hD hS (c_M_isWord N hM hc24) k_M_isWord hl_M_isWord hi_M_isWord hs_M_isWord hini_M rfl rfl hd_M_isWord rfl (rm_M_worked_M_isWord hR) hl.1 (Nat.le_of_ble_eq_true rfl) d_M_worked_39 rfl ⟨Nat.zero_le _, Nat.zero_le _⟩ (fun H locs hP hD hS => ?_)
      refine lv_if_eq (tgt := 109) hx hb d_M_worked_42 (by decide) (fun hc => ?_) (fun hc => ?_)
      · rw [br_p _ hc] at hf
        exact wb_M_worked_109 C0 hR N S hSg G hG _ _ _ hf H locs hP hD hS ls (lv_sub hl [0, 1] rfl)
      · rw [br_n _ hc] at hf
        exact wb_M_worked_45 C0 hR N S hSg G hG _ _ _ hf H locs hP hD hS ls (lv_sub hl [0, 1] rfl)
def fb_M_worked_9 (N : Nat) (S : SG_M_behind) (G : (MS → Int32 → Int32 → Int32 → Option (MS × Int32)) × (MS → Int32 → Option (MS × Int32))) (u : MS) (v1 : Int32) (v2 : Int32) (v3 : Int32) : Option (MS × Int32) := br (decide (v3 = 0)) (fb_M_worked_334 N S G u (v1) (v2)) (br (decide ((u.1 67) = 0)) (G.2 u (v1)) (fb_M_worked_334 N S G u (v1) (v2)))
set_option maxRecDepth 100000 in
set_option maxHeartbeats 4000000 in
theorem wb_M_worked_9 {p : Program} {l : Launch} {e : Env} {R : Room} {s : State} {m : MethodId} {args : Array Value} {below : List Frame} {meth : Method} {c : Code} {D : va_G} {cl : List vw_C} {cB cI cJ cZ cS : ClassId} {A : Nat → Prop} {iM h0 : Nat} {ad : Nat → Nat} (C0 : MCx p s m args meth c b_M_worked 5 (some .int) D cl cB cI cJ cZ cS iM A) {d : Nat} (hR : R = rg_M_behind (d + 1)) (N : Nat) (S : SG_M_behind) (hSg : HS_M_behind l D cl cB cI cJ cZ cS iM h0 ad (rg_M_behind d) S) (G : (MS → Int32 → Int32 → Int32 → Option (MS × Int32)) × (MS → Int32 → Option (MS × Int32))) (hG : (∀ (u : MS) (v1 : Int32) (v2 : Int32) (v3 : Int32) (x : MS × Int32), G.1 u v1 v2 v3 = some x → ∀ (H : Heap) (locs : List Loc), va_P D cl (wM cB cI cJ cZ cS iM h0 ad u) H → va_D A (wM cB cI cJ cZ cS iM h0 ad u) → va_S A s.heap H locs → ∀ (ls : Array Slot), lv_has ls 5 [(0, .ref h0), (1, .int v1), (2, .int v2), (3, .int v3)] → W p l e R s m args below meth c H locs 0 0 (MQ below (mQi D cl cB cI cJ cZ cS iM h0 ad A x) args s 0 0 A) (F0 m 9 ls [])) ∧ (∀ (u : MS) (v1 : Int32) (x : MS × Int32), G.2 u v1 = some x → ∀ (H : Heap) (locs : List Loc), va_P D cl (wM cB cI cJ cZ cS iM h0 ad u) H → va_D A (wM cB cI cJ cZ cS iM h0 ad u) → va_S A s.heap H locs → ∀ (ls : Array Slot), lv_has ls 5 [(0, .ref h0), (1, .int v1)] → W p l e R s m args below meth c H locs 0 0 (MQ below (mQi D cl cB cI cJ cZ cS iM h0 ad A x) args s 0 0 A) (F0 m 20 ls []))) : ∀ (u : MS) (v1 : Int32) (v2 : Int32) (v3 : Int32) (x : MS × Int32), fb_M_worked_9 N S G u v1 v2 v3 = some x → ∀ (H : Heap) (locs : List Loc), va_P D cl (wM cB cI cJ cZ cS iM h0 ad u) H → va_D A (wM cB cI cJ cZ cS iM h0 ad u) → va_S A s.heap H locs → ∀ (ls : Array Slot), lv_has ls 5 [(0, .ref h0), (1, .int v1), (2, .int v2), (3, .int v3)] → W p l e R s m args below meth c H locs 0 0 (MQ below (mQi D cl cB cI cJ cZ cS iM h0 ad A x) args s 0 0 A) (F0 m 9 ls []) := by
  intro u v1 v2 v3 x hf H locs hP hD hS ls hl
  obtain ⟨hx, hb, hr, hml, ht, hown, hM, hK, hA, hlocks⟩ := id C0
  unfold fb_M_worked_9 at hf
  refine lv_iload_n hx hb d_M_worked_9 rfl (lv_at hl 3 rfl) ?_
  refine lv_if_eq (tgt := 334) hx hb d_M_worked_10 (by decide) (fun hc => ?_) (fun hc => ?_)
  · rw [br_p _ hc] at hf
    exact wb_M_worked_334 C0 hR N S hSg G hG _ _ _ _ hf H locs hP hD hS ls (lv_sub hl [0, 1, 2] rfl)
  · rw [br_n _ hc] at hf
    refine lv_aload_n hx hb d_M_worked_13 rfl (lv_at hl 0 rfl) ?_
    refine ug_I hx hb ht hown hM hK hP 67 (by decide) lk_M_67 (by decide) d_M_worked_14 ?_
    refine lv_if_ne (tgt := 334) hx hb d_M_worked_17 (by decide) (fun hc => ?_) (fun hc => ?_)
    · rw [br_n _ hc] at hf
      exact wb_M_worked_334 C0 hR N S hSg G hG _ _ _ _ hf H locs hP hD hS ls (lv_sub hl [0, 1, 2] rfl)
    · rw [br_p _ hc] at hf
      exact hG.2 _ _ _ hf H locs hP hD hS ls (lv_sub hl [0, 1] rfl)
def fb_M_worked_0 (N : Nat) (S : SG_M_behind) (G : (MS → Int32 → Int32 → Int32 → Option (MS × Int32)) × (MS → Int32 → Option (MS × Int32))) (u : MS) : Option (MS × Int32) := G.1 u ((u.1 83)) ((-1)) (1)
set_option maxRecDepth 100000 in
set_option maxHeartbeats 4000000 in
theorem wb_M_worked_0 {p : Program} {l : Launch} {e : Env} {R : Room} {s : State} {m : MethodId} {args : Array Value} {below : List Frame} {meth : Method} {c : Code} {D : va_G} {cl : List vw_C} {cB cI cJ cZ cS : ClassId} {A : Nat → Prop} {iM h0 : Nat} {ad : Nat → Nat} (C0 : MCx p s m args meth c b_M_worked 5 (some .int) D cl cB cI cJ cZ cS iM A) {d : Nat} (hR : R = rg_M_behind (d + 1)) (N : Nat) (S : SG_M_behind) (hSg : HS_M_behind l D cl cB cI cJ cZ cS iM h0 ad (rg_M_behind d) S) (G : (MS → Int32 → Int32 → Int32 → Option (MS × Int32)) × (MS → Int32 → Option (MS × Int32))) (hG : (∀ (u : MS) (v1 : Int32) (v2 : Int32) (v3 : Int32) (x : MS × Int32), G.1 u v1 v2 v3 = some x → ∀ (H : Heap) (locs : List Loc), va_P D cl (wM cB cI cJ cZ cS iM h0 ad u) H → va_D A (wM cB cI cJ cZ cS iM h0 ad u) → va_S A s.heap H locs → ∀ (ls : Array Slot), lv_has ls 5 [(0, .ref h0), (1, .int v1), (2, .int v2), (3, .int v3)] → W p l e R s m args below meth c H locs 0 0 (MQ below (mQi D cl cB cI cJ cZ cS iM h0 ad A x) args s 0 0 A) (F0 m 9 ls [])) ∧ (∀ (u : MS) (v1 : Int32) (x : MS × Int32), G.2 u v1 = some x → ∀ (H : Heap) (locs : List Loc), va_P D cl (wM cB cI cJ cZ cS iM h0 ad u) H → va_D A (wM cB cI cJ cZ cS iM h0 ad u) → va_S A s.heap H locs → ∀ (ls : Array Slot), lv_has ls 5 [(0, .ref h0), (1, .int v1)] → W p l e R s m args below meth c H locs 0 0 (MQ below (mQi D cl cB cI cJ cZ cS iM h0 ad A x) args s 0 0 A) (F0 m 20 ls []))) : ∀ (u : MS) (x : MS × Int32), fb_M_worked_0 N S G u = some x → ∀ (H : Heap) (locs : List Loc), va_P D cl (wM cB cI cJ cZ cS iM h0 ad u) H → va_D A (wM cB cI cJ cZ cS iM h0 ad u) → va_S A s.heap H locs → ∀ (ls : Array Slot), lv_has ls 5 [(0, .ref h0)] → W p l e R s m args below meth c H locs 0 0 (MQ below (mQi D cl cB cI cJ cZ cS iM h0 ad A x) args s 0 0 A) (F0 m 0 ls []) := by
  intro u x hf H locs hP hD hS ls hl
  obtain ⟨hx, hb, hr, hml, ht, hown, hM, hK, hA, hlocks⟩ := id C0
  unfold fb_M_worked_0 at hf
  refine lv_aload_n hx hb d_M_worked_0 rfl (lv_at hl 0 rfl) ?_
  refine ug_I hx hb ht hown hM hK hP 83 (by decide) lk_M_83 (by decide) d_M_worked_1 ?_
  refine lv_istore_n (lv' := [(1, .int (u.1 83)), (0, .ref h0)]) hx hb d_M_worked_4 rfl hl (by decide) rfl (fun ls hl => ?_)
  refine lv_iconst (v := (-1)) hx hb d_M_worked_5 (by decide) ?_
  refine lv_istore_n (lv' := [(2, .int (-1)), (1, .int (u.1 83)), (0, .ref h0)]) hx hb d_M_worked_6 rfl hl (by decide) rfl (fun ls hl => ?_)
  refine lv_iconst (v := 1) hx hb d_M_worked_7 (by decide) ?_
  refine lv_istore_n (lv' := [(3, .int 1), (2, .int (-1)), (1, .int (u.1 83)), (0, .ref h0)]) hx hb d_M_worked_8 rfl hl (by decide) rfl (fun ls hl => ?_)
  exact hG.1 _ _ _ _ _ hf H locs hP hD hS ls (lv_sub hl [3, 2, 1, 0] rfl)
def gg_M_worked (N : Nat) (S : SG_M_behind) : Nat → ((MS → Int32 → Int32 → Int32 → Option (MS × Int32)) × (MS → Int32 → Option (MS × Int32)))
  | 0 => (fun _ _ _ _ => none, fun _ _ => none)
  | n + 1 => (fb_M_worked_9 N S (gg_M_worked N S n), fb_M_worked_20 N S (gg_M_worked N S n))
theorem wg_M_worked {p : Program} {l : Launch} {e : Env} {R : Room} {s : State} {m : MethodId} {args : Array Value} {below : List Frame} {meth : Method} {c : Code} {D : va_G} {cl : List vw_C} {cB cI cJ cZ cS : ClassId} {A : Nat → Prop} {iM h0 : Nat} {ad : Nat → Nat} (C0 : MCx p s m args meth c b_M_worked 5 (some .int) D cl cB cI cJ cZ cS iM A) {d : Nat} (hR : R = rg_M_behind (d + 1)) (N : Nat) (S : SG_M_behind) (hSg : HS_M_behind l D cl cB cI cJ cZ cS iM h0 ad (rg_M_behind d) S) : ∀ n : Nat, (∀ (u : MS) (v1 : Int32) (v2 : Int32) (v3 : Int32) (x : MS × Int32), (gg_M_worked N S n).1 u v1 v2 v3 = some x → ∀ (H : Heap) (locs : List Loc), va_P D cl (wM cB cI cJ cZ cS iM h0 ad u) H → va_D A (wM cB cI cJ cZ cS iM h0 ad u) → va_S A s.heap H locs → ∀ (ls : Array Slot), lv_has ls 5 [(0, .ref h0), (1, .int v1), (2, .int v2), (3, .int v3)] → W p l e R s m args below meth c H locs 0 0 (MQ below (mQi D cl cB cI cJ cZ cS iM h0 ad A x) args s 0 0 A) (F0 m 9 ls [])) ∧ (∀ (u : MS) (v1 : Int32) (x : MS × Int32), (gg_M_worked N S n).2 u v1 = some x → ∀ (H : Heap) (locs : List Loc), va_P D cl (wM cB cI cJ cZ cS iM h0 ad u) H → va_D A (wM cB cI cJ cZ cS iM h0 ad u) → va_S A s.heap H locs → ∀ (ls : Array Slot), lv_has ls 5 [(0, .ref h0), (1, .int v1)] → W p l e R s m args below meth c H locs 0 0 (MQ below (mQi D cl cB cI cJ cZ cS iM h0 ad A x) args s 0 0 A) (F0 m 20 ls []))
  | 0 => ⟨(fun u v1 v2 v3 x hf => by cases hf), (fun u v1 x hf => by cases hf)⟩
  | n + 1 => ⟨wb_M_worked_9 C0 hR N S hSg (gg_M_worked N S n) (wg_M_worked C0 hR N S hSg n), wb_M_worked_20 C0 hR N S hSg (gg_M_worked N S n) (wg_M_worked C0 hR N S hSg n)⟩
def fm_M_worked (N : Nat) (S : SG_M_behind) (u : MS) : Option (MS × Int32) := fb_M_worked_0 N S (gg_M_worked N S N) u
set_option maxRecDepth 100000 in
set_option maxHeartbeats 4000000 in
theorem cs_M_worked (N : Nat) {d : Nat} {l : Launch} {D : va_G} {cl : List vw_C} {cB cI cJ cZ cS : ClassId} {iM h0 : Nat} {ad : Nat → Nat} {u : MS} {sz : Nat} {x : MS × Int32} (hM : cl[iM]? = some (R_M, F_M, 171)) (S : SG_M_behind) (hSg : HS_M_behind l D cl cB cI cJ cZ cS iM h0 ad (rg_M_behind d) S) (hf : fm_M_worked N S u = some x) : Met l y_M_worked (wd_ws y_M_worked b_M_worked 5 (some .int)) (rg_M_behind (d + 1)) (mPc D cl cB cI cJ cZ cS iM h0 ad u sz [.ref h0]) (mQi D cl cB cI cJ cZ cS iM h0 ad (mA cB cI cJ cZ cS iM h0 ad u sz) x) 0 0 (mA cB cI cJ cZ cS iM h0 ad u sz) :=
  mMet (by decide) rfl hM (Nat.le_of_ble_eq_true rfl) (fun p e s m below meth c ls hsz C0 hP hD hS hl => by
    have hR : (rg_M_behind (d + 1)) = (rg_M_behind (d + 1)) := rfl
    exact wb_M_worked_0 C0 hR N S hSg (gg_M_worked N S N) (wg_M_worked C0 hR N S hSg N) u x hf s.heap [] hP hD hS ls (lv_sub hl [0] rfl))
theorem rm_M_simple_M_save {R : Room} {d : Nat} (hR : R = rg_M_behind (d + 1)) : (rm_M_save).frames + 1 ≤ R.frames ∧ 8 + (2 + 11) + (rm_M_save).locals ≤ R.locals := by
  subst hR
  have h1 : (rm_M_save).frames = 0 := rfl
  have h2 : (rm_M_save).locals = 0 := rfl
  show (rm_M_save).frames + 1 ≤ 94 + (d + 1) ∧ 8 + (2 + 11) + (rm_M_save).locals ≤ 2494 + 29 * (d + 1)
  omega
theorem rm_M_simple_M_isSign {R : Room} {d : Nat} (hR : R = rg_M_behind (d + 1)) : (rm_M_isSign).frames + 1 ≤ R.frames ∧ 8 + (2 + 11) + (rm_M_isSign).locals ≤ R.locals := by
  subst hR
  have h1 : (rm_M_isSign).frames = 0 := rfl
  have h2 : (rm_M_isSign).locals = 0 := rfl
  show (rm_M_isSign).frames + 1 ≤ 94 + (d + 1) ∧ 8 + (2 + 11) + (rm_M_isSign).locals ≤ 2494 + 29 * (d + 1)
  omega
theorem rm_M_simple_M_rule {R : Room} {d : Nat} (hR : R = rg_M_behind (d + 1)) : (rm_M_rule).frames + 1 ≤ R.frames ∧ 8 + (3 + 11) + (rm_M_rule).locals ≤ R.locals := by
  subst hR
  have h1 : (rm_M_rule).frames = 0 := rfl
  have h2 : (rm_M_rule).locals = 0 := rfl
  show (rm_M_rule).frames + 1 ≤ 94 + (d + 1) ∧ 8 + (3 + 11) + (rm_M_rule).locals ≤ 2494 + 29 * (d + 1)
  omega
theorem rm_M_simple_M_node {R : Room} {d : Nat} (hR : R = rg_M_behind (d + 1)) : (rm_M_node).frames + 1 ≤ R.frames ∧ 8 + (3 + 11) + (rm_M_node).locals ≤ R.locals := by
  subst hR
  have h1 : (rm_M_node).frames = 0 := rfl
  have h2 : (rm_M_node).locals = 0 := rfl
  show (rm_M_node).frames + 1 ≤ 94 + (d + 1) ∧ 8 + (3 + 11) + (rm_M_node).locals ≤ 2494 + 29 * (d + 1)
  omega
theorem rm_M_simple_M_forgetSaved {R : Room} {d : Nat} (hR : R = rg_M_behind (d + 1)) : (rm_M_forgetSaved).frames + 1 ≤ R.frames ∧ 8 + (1 + 11) + (rm_M_forgetSaved).locals ≤ R.locals := by
  subst hR
  have h1 : (rm_M_forgetSaved).frames = 0 := rfl
  have h2 : (rm_M_forgetSaved).locals = 0 := rfl
  show (rm_M_forgetSaved).frames + 1 ≤ 94 + (d + 1) ∧ 8 + (1 + 11) + (rm_M_forgetSaved).locals ≤ 2494 + 29 * (d + 1)
  omega
theorem rm_M_simple_M_worked {R : Room} {d : Nat} (hR : R = rg_M_behind (d + 1)) : (rg_M_behind d).frames + 1 ≤ R.frames ∧ 8 + (5 + 11) + (rg_M_behind d).locals ≤ R.locals := by
  subst hR
  show 94 + d + 1 ≤ 94 + (d + 1) ∧ 8 + (5 + 11) + (2494 + 29 * d) ≤ 2494 + 29 * (d + 1)
  omega
theorem rm_M_simple_M_matched {R : Room} {d : Nat} (hR : R = rg_M_behind (d + 1)) : (rg_M_behind d).frames + 1 ≤ R.frames ∧ 8 + (7 + 11) + (rg_M_behind d).locals ≤ R.locals := by
  subst hR
  show 94 + d + 1 ≤ 94 + (d + 1) ∧ 8 + (7 + 11) + (2494 + 29 * d) ≤ 2494 + 29 * (d + 1)
  omega
theorem rm_M_simple_M_behind {R : Room} {d : Nat} (hR : R = rg_M_behind (d + 1)) : (rg_M_behind d).frames + 1 ≤ R.frames ∧ 8 + (2 + 11) + (rg_M_behind d).locals ≤ R.locals := by
  subst hR
  show 94 + d + 1 ≤ 94 + (d + 1) ∧ 8 + (2 + 11) + (2494 + 29 * d) ≤ 2494 + 29 * (d + 1)
  omega
def fb_M_simple_97 (N : Nat) (S : SG_M_behind) (G : Unit) (u : MS) (v2 : Int32) : Option (MS × Int32) := bnd (fm_M_forgetSaved N u) (fun u1 _ => some (u1, v2))
set_option maxRecDepth 100000 in
set_option maxHeartbeats 4000000 in
theorem wb_M_simple_97 {p : Program} {l : Launch} {e : Env} {R : Room} {s : State} {m : MethodId} {args : Array Value} {below : List Frame} {meth : Method} {c : Code} {D : va_G} {cl : List vw_C} {cB cI cJ cZ cS : ClassId} {A : Nat → Prop} {iM h0 : Nat} {ad : Nat → Nat} (C0 : MCx p s m args meth c b_M_simple 4 (some .int) D cl cB cI cJ cZ cS iM A) {d : Nat} (hR : R = rg_M_behind (d + 1)) (N : Nat) (S : SG_M_behind) (hSg : HS_M_behind l D cl cB cI cJ cZ cS iM h0 ad (rg_M_behind d) S) (G : Unit) (hG : True) : ∀ (u : MS) (v2 : Int32) (x : MS × Int32), fb_M_simple_97 N S G u v2 = some x → ∀ (H : Heap) (locs : List Loc), va_P D cl (wM cB cI cJ cZ cS iM h0 ad u) H → va_D A (wM cB cI cJ cZ cS iM h0 ad u) → va_S A s.heap H locs → ∀ (ls : Array Slot), lv_has ls 4 [(0, .ref h0), (2, .int v2)] → W p l e R s m args below meth c H locs 0 0 (MQ below (mQi D cl cB cI cJ cZ cS iM h0 ad A x) args s 0 0 A) (F0 m 97 ls []) := by
  intro u v2 x hf H locs hP hD hS ls hl
  obtain ⟨hx, hb, hr, hml, ht, hown, hM, hK, hA, hlocks⟩ := id C0
  unfold fb_M_simple_97 at hf
  refine lv_aload_n hx hb d_M_simple_97 rfl (lv_at hl 0 rfl) ?_
  obtain ⟨u1, r1, hc1, hf⟩ := bnd_some hf
  refine mV_v (As := []) (rest := []) C0 hP hD hS (c_M_forgetSaved N hM hc1) k_M_forgetSaved hl_M_forgetSaved hi_M_forgetSaved hs_M_forgetSaved hini_M rfl rfl hd_M_forgetSaved rfl (rm_M_simple_M_forgetSaved hR) hl.1 (Nat.le_of_ble_eq_true rfl) d_M_simple_98 rfl ⟨Nat.zero_le _, Nat.zero_le _⟩ (fun H locs hP hD hS => ?_)
  refine lv_iload_n hx hb d_M_simple_101 rfl (lv_at hl 1 rfl) ?_
  exact mr_i C0 hP hD hS hf d_M_simple_102
def fb_M_simple_74 (N : Nat) (S : SG_M_behind) (G : Unit) (u : MS) (v3 : Int32) : Option (MS × Int32) := lt (upI u 69 ((u.1 69) + 1)) (fun w2 => bnd (S.1 w2) (fun u3 r3 => bnd (fm_M_node N u3 11 v3) (fun u4 r4 => fb_M_simple_97 N S G u4 (r4))))
set_option maxRecDepth 100000 in
set_option maxHeartbeats 4000000 in
theorem wb_M_simple_74 {p : Program} {l : Launch} {e : Env} {R : Room} {s : State} {m : MethodId} {args : Array Value} {below : List Frame} {meth : Method} {c : Code} {D : va_G} {cl : List vw_C} {cB cI cJ cZ cS : ClassId} {A : Nat → Prop} {iM h0 : Nat} {ad : Nat → Nat} (C0 : MCx p s m args meth c b_M_simple 4 (some .int) D cl cB cI cJ cZ cS iM A) {d : Nat} (hR : R = rg_M_behind (d + 1)) (N : Nat) (S : SG_M_behind) (hSg : HS_M_behind l D cl cB cI cJ cZ cS iM h0 ad (rg_M_behind d) S) (G : Unit) (hG : True) : ∀ (u : MS) (v3 : Int32) (x : MS × Int32), fb_M_simple_74 N S G u v3 = some x → ∀ (H : Heap) (locs : List Loc), va_P D cl (wM cB cI cJ cZ cS iM h0 ad u) H → va_D A (wM cB cI cJ cZ cS iM h0 ad u) → va_S A s.heap H locs → ∀ (ls : Array Slot), lv_has ls 4 [(0, .ref h0), (3, .int v3)] → W p l e R s m args below meth c H locs 0 0 (MQ below (mQi D cl cB cI cJ cZ cS iM h0 ad A x) args s 0 0 A) (F0 m 74 ls []) := by
  intro u v3 x hf H locs hP hD hS ls hl
  obtain ⟨hx, hb, hr, hml, ht, hown, hM, hK, hA, hlocks⟩ := id C0
  unfold fb_M_simple_74 at hf
  refine lv_aload_n hx hb d_M_simple_74 rfl (lv_at hl 0 rfl) ?_
  refine lv_dup hx hb d_M_simple_75 rfl ?_
  refine ug_I hx hb ht hown hM hK hP 69 (by decide) lk_M_69 (by decide) d_M_simple_76 ?_
  refine lv_iconst (v := 1) hx hb d_M_simple_79 (by decide) ?_
  refine lv_iadd hx hb d_M_simple_80 ?_
  refine up_I hx hb ht hown hM hK hP hD hS 69 (by decide) lk_M_69 (by decide) rfl rfl rfl d_M_simple_81 (fun H locs hP hD hS => ?_)
  obtain ⟨w2, e2, hf⟩ := lt_some hf
  rw [← e2] at hP hD
  refine lv_aload_n hx hb d_M_simple_84 rfl (lv_at hl 0 rfl) ?_
  obtain ⟨u3, r3, hc3, hf⟩ := bnd_some hf
  refine mV_i (As := []) (rest := []) C0 hP hD hS (hSg.1 _ _ _ hc3) k_M_behind hl_M_behind hi_M_behind hs_M_behind hini_M rfl rfl hd_M_behind rfl (rm_M_simple_M_behind hR) hl.1 (Nat.le_of_ble_eq_true rfl) d_M_simple_85 rfl ⟨Nat.zero_le _, Nat.zero_le _⟩ (fun H locs hP hD hS => ?_)
  refine lv_istore_n (lv' := [(2, .int r3), (0, .ref h0), (3, .int v3)]) hx hb d_M_simple_88 rfl hl (by decide) rfl (fun ls hl => ?_)
  refine lv_aload_n hx hb d_M_simple_89 rfl (lv_at hl 1 rfl) ?_
  refine lv_bipush (v := 11) hx hb d_M_simple_90 (by decide) ?_
  refine lv_iload_n hx hb d_M_simple_92 rfl (lv_at hl 2 rfl) ?_
  obtain ⟨u4, r4, hc4, hf⟩ := bnd_some hf
  refine mV_i (As := [.int 11, .int v3]) (rest := []) C0 hP hD hS (c_M_node N hM hc4) k_M_node hl_M_node hi_M_node hs_M_node hini_M rfl rfl hd_M_node rfl (rm_M_simple_M_node hR) hl.1 (Nat.le_of_ble_eq_true rfl) d_M_simple_93 rfl ⟨Nat.zero_le _, Nat.zero_le _⟩ (fun H locs hP hD hS => ?_)
  refine lv_istore_n (lv' := [(2, .int r4), (0, .ref h0), (3, .int v3)]) hx hb d_M_simple_96 rfl hl (by decide) rfl (fun ls hl => ?_)
  exact wb_M_simple_97 C0 hR N S hSg G hG _ _ _ hf H locs hP hD hS ls (lv_sub hl [1, 0] rfl)
def fb_M_simple_39 (N : Nat) (S : SG_M_behind) (G : Unit) (u : MS) (v2 : Int32) : Option (MS × Int32) := br (decide ((u.1 67) = 0)) (bnd (fm_M_isSign N u 21) (fun u5 r5 => br (decide (r5 = 0)) (fb_M_simple_97 N S G u5 (v2)) (br (decide ((u5.1 73) = 0)) (fb_M_simple_74 N S G u5 ((u5.1 69))) (bnd (fm_M_rule N u5 7 (u5.1 69)) (fun u6 _ => fb_M_simple_74 N S G u6 ((u5.1 69))))))) (fb_M_simple_97 N S G u (v2))
set_option maxRecDepth 100000 in
set_option maxHeartbeats 4000000 in
theorem wb_M_simple_39 {p : Program} {l : Launch} {e : Env} {R : Room} {s : State} {m : MethodId} {args : Array Value} {below : List Frame} {meth : Method} {c : Code} {D : va_G} {cl : List vw_C} {cB cI cJ cZ cS : ClassId} {A : Nat → Prop} {iM h0 : Nat} {ad : Nat → Nat} (C0 : MCx p s m args meth c b_M_simple 4 (some .int) D cl cB cI cJ cZ cS iM A) {d : Nat} (hR : R = rg_M_behind (d + 1)) (N : Nat) (S : SG_M_behind) (hSg : HS_M_behind l D cl cB cI cJ cZ cS iM h0 ad (rg_M_behind d) S) (G : Unit) (hG : True) : ∀ (u : MS) (v2 : Int32) (x : MS × Int32), fb_M_simple_39 N S G u v2 = some x → ∀ (H : Heap) (locs : List Loc), va_P D cl (wM cB cI cJ cZ cS iM h0 ad u) H → va_D A (wM cB cI cJ cZ cS iM h0 ad u) → va_S A s.heap H locs → ∀ (ls : Array Slot), lv_has ls 4 [(0, .ref h0), (2, .int v2)] → W p l e R s m args below meth c H locs 0 0 (MQ below (mQi D cl cB cI cJ cZ cS iM h0 ad A x) args s 0 0 A) (F0 m 39 ls []) := by
  intro u v2 x hf H locs hP hD hS ls hl
  obtain ⟨hx, hb, hr, hml, ht, hown, hM, hK, hA, hlocks⟩ := id C0
  unfold fb_M_simple_39 at hf
  refine lv_aload_n hx hb d_M_simple_39 rfl (lv_at hl 0 rfl) ?_
  refine ug_I hx hb ht hown hM hK hP 67 (by decide) lk_M_67 (by decide) d_M_simple_40 ?_
  refine lv_if_ne (tgt := 97) hx hb d_M_simple_43 (by decide) (fun hc => ?_) (fun hc => ?_)
  · rw [br_n _ hc] at hf
    exact wb_M_simple_97 C0 hR N S hSg G hG _ _ _ hf H locs hP hD hS ls (lv_sub hl [0, 1] rfl)
  · rw [br_p _ hc] at hf
    refine lv_aload_n hx hb d_M_simple_46 rfl (lv_at hl 0 rfl) ?_
    refine lv_bipush (v := 21) hx hb d_M_simple_47 (by decide) ?_
    obtain ⟨u5, r5, hc5, hf⟩ := bnd_some hf
    refine mV_i (As := [.int 21]) (rest := []) C0 hP hD hS (c_M_isSign N hM hc5) k_M_isSign hl_M_isSign hi_M_isSign hs_M_isSign hini_M rfl rfl hd_M_isSign rfl (rm_M_simple_M_isSign hR) hl.1 (Nat.le_of_ble_eq_true rfl) d_M_simple_49 rfl ⟨Nat.zero_le _, Nat.zero_le _⟩ (fun H locs hP hD hS => ?_)
    refine lv_if_eq (tgt := 97) hx hb d_M_simple_52 (by decide) (fun hc => ?_) (fun hc => ?_)
    · rw [br_p _ hc] at hf
      exact wb_M_simple_97 C0 hR N S hSg G hG _ _ _ hf H locs hP hD hS ls (lv_sub hl [0, 1] rfl)
    · rw [br_n _ hc] at hf
      refine lv_aload_n hx hb d_M_simple_55 rfl (lv_at hl 0 rfl) ?_
      refine ug_I hx hb ht hown hM hK hP 69 (by decide) lk_M_69 (by decide) d_M_simple_56 ?_
      refine lv_istore_n (lv' := [(3, .int (u5.1 69)), (0, .ref h0), (2, .int v2)]) hx hb d_M_simple_59 rfl hl (by decide) rfl (fun ls hl => ?_)
      refine lv_aload_n hx hb d_M_simple_60 rfl (lv_at hl 1 rfl) ?_
      refine ug_I hx hb ht hown hM hK hP 73 (by decide) lk_M_73 (by decide) d_M_simple_61 ?_
      refine lv_if_eq (tgt := 74) hx hb d_M_simple_64 (by decide) (fun hc => ?_) (fun hc => ?_)
      · rw [br_p _ hc] at hf
        exact wb_M_simple_74 C0 hR N S hSg G hG _ _ _ hf H locs hP hD hS ls (lv_sub hl [1, 0] rfl)
      · rw [br_n _ hc] at hf
        refine lv_aload_n hx hb d_M_simple_67 rfl (lv_at hl 1 rfl) ?_
        refine lv_bipush (v := 7) hx hb d_M_simple_68 (by decide) ?_
        refine lv_iload_n hx hb d_M_simple_70 rfl (lv_at hl 0 rfl) ?_
        obtain ⟨u6, r6, hc6, hf⟩ := bnd_some hf
        refine mV_v (As := [.int 7, .int (u5.1 69)]) (rest := []) C0 hP hD hS (c_M_rule N hM hc6) k_M_rule hl_M_rule hi_M_rule hs_M_rule hini_M rfl rfl hd_M_rule rfl (rm_M_simple_M_rule hR) hl.1 (Nat.le_of_ble_eq_true rfl) d_M_simple_71 rfl ⟨Nat.zero_le _, Nat.zero_le _⟩ (fun H locs hP hD hS => ?_)
        exact wb_M_simple_74 C0 hR N S hSg G hG _ _ _ hf H locs hP hD hS ls (lv_sub hl [1, 0] rfl)
def fb_M_simple_0 (N : Nat) (S : SG_M_behind) (G : Unit) (u : MS) : Option (MS × Int32) := bnd (fm_M_save N u) (fun u7 _ => bnd (S.2.2.2.2.2.2.2.2.2.2.2.1 u7) (fun u8 r8 => br (decide ((u8.1 67) = 0)) (bnd (fm_M_isSign N u8 11) (fun u9 r9 => br (decide (r9 = 0)) (fb_M_simple_39 N S G u9 (r8)) (bnd (S.2.1 u9 (u.1 69)) (fun u10 r10 => fb_M_simple_97 N S G u10 (r10))))) (fb_M_simple_39 N S G u8 (r8))))
set_option maxRecDepth 100000 in
set_option maxHeartbeats 4000000 in
theorem wb_M_simple_0 {p : Program} {l : Launch} {e : Env} {R : Room} {s : State} {m : MethodId} {args : Array Value} {below : List Frame} {meth : Method} {c : Code} {D : va_G} {cl : List vw_C} {cB cI cJ cZ cS : ClassId} {A : Nat → Prop} {iM h0 : Nat} {ad : Nat → Nat} (C0 : MCx p s m args meth c b_M_simple 4 (some .int) D cl cB cI cJ cZ cS iM A) {d : Nat} (hR : R = rg_M_behind (d + 1)) (N : Nat) (S : SG_M_behind) (hSg : HS_M_behind l D cl cB cI cJ cZ cS iM h0 ad (rg_M_behind d) S) (G : Unit) (hG : True) : ∀ (u : MS) (x : MS × Int32), fb_M_simple_0 N S G u = some x → ∀ (H : Heap) (locs : List Loc), va_P D cl (wM cB cI cJ cZ cS iM h0 ad u) H → va_D A (wM cB cI cJ cZ cS iM h0 ad u) → va_S A s.heap H locs → ∀ (ls : Array Slot), lv_has ls 4 [(0, .ref h0)] → W p l e R s m args below meth c H locs 0 0 (MQ below (mQi D cl cB cI cJ cZ cS iM h0 ad A x) args s 0 0 A) (F0 m 0 ls []) := by
  intro u x hf H locs hP hD hS ls hl
  obtain ⟨hx, hb, hr, hml, ht, hown, hM, hK, hA, hlocks⟩ := id C0
  unfold fb_M_simple_0 at hf
  refine lv_aload_n hx hb d_M_simple_0 rfl (lv_at hl 0 rfl) ?_
  refine ug_I hx hb ht hown hM hK hP 69 (by decide) lk_M_69 (by decide) d_M_simple_1 ?_
  refine lv_istore_n (lv' := [(1, .int (u.1 69)), (0, .ref h0)]) hx hb d_M_simple_4 rfl hl (by decide) rfl (fun ls hl => ?_)
  refine lv_aload_n hx hb d_M_simple_5 rfl (lv_at hl 1 rfl) ?_
  obtain ⟨u7, r7, hc7, hf⟩ := bnd_some hf
  refine mV_v (As := []) (rest := []) C0 hP hD hS (c_M_save N hM hc7) k_M_save hl_M_save hi_M_save hs_M_save hini_M rfl rfl hd_M_save rfl (rm_M_simple_M_save hR) hl.1 (Nat.le_of_ble_eq_true rfl) d_M_simple_6 rfl ⟨Nat.zero_le _, Nat.zero_le _⟩ (fun H locs hP hD hS => ?_)
  refine lv_aload_n hx hb d_M_simple_9 rfl (lv_at hl 1 rfl) ?_
  obtain ⟨u8, r8, hc8, hf⟩ := bnd_some hf
  refine mV_i (As := []) (rest := []) C0 hP hD hS (hSg.2.2.2.2.2.2.2.2.2.2.2.1 _ _ _ hc8) k_M_worked hl_M_worked hi_M_worked hs_M_worked hini_M rfl rfl hd_M_worked rfl (rm_M_simple_M_worked hR) hl.1 (Nat.le_of_ble_eq_true rfl) d_M_simple_10 rfl ⟨Nat.zero_le _, Nat.zero_le _⟩ (fun H locs hP hD hS => ?_)
  refine lv_istore_n (lv' := [(2, .int r8), (1, .int (u.1 69)), (0, .ref h0)]) hx hb d_M_simple_13 rfl hl (by decide) rfl (fun ls hl => ?_)
  refine lv_aload_n hx hb d_M_simple_14 rfl (lv_at hl 2 rfl) ?_
  refine ug_I hx hb ht hown hM hK hP 67 (by decide) lk_M_67 (by decide) d_M_simple_15 ?_
  refine lv_if_ne (tgt := 39) hx hb d_M_simple_18 (by decide) (fun hc => ?_) (fun hc => ?_)
  · rw [br_n _ hc] at hf
    exact wb_M_simple_39 C0 hR N S hSg G hG _ _ _ hf H locs hP hD hS ls (lv_sub hl [2, 0] rfl)
  · rw [br_p _ hc] at hf
    refine lv_aload_n hx hb d_M_simple_21 rfl (lv_at hl 2 rfl) ?_
    refine lv_bipush (v := 11) hx hb d_M_simple_22 (by decide) ?_
    obtain ⟨u9, r9, hc9, hf⟩ := bnd_some hf
    refine mV_i (As := [.int 11]) (rest := []) C0 hP hD hS (c_M_isSign N hM hc9) k_M_isSign hl_M_isSign hi_M_isSign hs_M_isSign hini_M rfl rfl hd_M_isSign rfl (rm_M_simple_M_isSign hR) hl.1 (Nat.le_of_ble_eq_true rfl) d_M_simple_24 rfl ⟨Nat.zero_le _, Nat.zero_le _⟩ (fun H locs hP hD hS => ?_)
    refine lv_if_eq (tgt := 39) hx hb d_M_simple_27 (by decide) (fun hc => ?_) (fun hc => ?_)
    · rw [br_p _ hc] at hf
      exact wb_M_simple_39 C0 hR N S hSg G hG _ _ _ hf H locs hP hD hS ls (lv_sub hl [2, 0] rfl)
    · rw [br_n _ hc] at hf
      refine lv_aload_n hx hb d_M_simple_30 rfl (lv_at hl 2 rfl) ?_
      refine lv_iload_n hx hb d_M_simple_31 rfl (lv_at hl 1 rfl) ?_
      obtain ⟨u10, r10, hc10, hf⟩ := bnd_some hf
      refine mV_i (As := [.int (u.1 69)]) (rest := []) C0 hP hD hS (hSg.2.1 _ _ _ _ hc10) k_M_matched hl_M_matched hi_M_matched hs_M_matched hini_M rfl rfl hd_M_matched rfl (rm_M_simple_M_matched hR) hl.1 (Nat.le_of_ble_eq_true rfl) d_M_simple_32 rfl ⟨Nat.zero_le _, Nat.zero_le _⟩ (fun H locs hP hD hS => ?_)
      refine lv_istore_n (lv' := [(2, .int r10), (1, .int (u.1 69)), (0, .ref h0)]) hx hb d_M_simple_35 rfl hl (by decide) rfl (fun ls hl => ?_)
      refine lv_goto (tgt := 97) hx hb d_M_simple_36 (by decide) ?_
      exact wb_M_simple_97 C0 hR N S hSg G hG _ _ _ hf H locs hP hD hS ls (lv_sub hl [2, 0] rfl)
def fm_M_simple (N : Nat) (S : SG_M_behind) (u : MS) : Option (MS × Int32) := fb_M_simple_0 N S () u
set_option maxRecDepth 100000 in
set_option maxHeartbeats 4000000 in
theorem cs_M_simple (N : Nat) {d : Nat} {l : Launch} {D : va_G} {cl : List vw_C} {cB cI cJ cZ cS : ClassId} {iM h0 : Nat} {ad : Nat → Nat} {u : MS} {sz : Nat} {x : MS × Int32} (hM : cl[iM]? = some (R_M, F_M, 171)) (S : SG_M_behind) (hSg : HS_M_behind l D cl cB cI cJ cZ cS iM h0 ad (rg_M_behind d) S) (hf : fm_M_simple N S u = some x) : Met l y_M_simple (wd_ws y_M_simple b_M_simple 4 (some .int)) (rg_M_behind (d + 1)) (mPc D cl cB cI cJ cZ cS iM h0 ad u sz [.ref h0]) (mQi D cl cB cI cJ cZ cS iM h0 ad (mA cB cI cJ cZ cS iM h0 ad u sz) x) 0 0 (mA cB cI cJ cZ cS iM h0 ad u sz) :=
  mMet (by decide) rfl hM (Nat.le_of_ble_eq_true rfl) (fun p e s m below meth c ls hsz C0 hP hD hS hl => by
    have hR : (rg_M_behind (d + 1)) = (rg_M_behind (d + 1)) := rfl
    exact wb_M_simple_0 C0 hR N S hSg () trivial u x hf s.heap [] hP hD hS ls (lv_sub hl [0] rfl))
theorem rm_M_expression_M_beginsUnit {R : Room} {d : Nat} (hR : R = rg_M_behind (d + 1)) : (rm_M_beginsUnit).frames + 1 ≤ R.frames ∧ 8 + (1 + 11) + (rm_M_beginsUnit).locals ≤ R.locals := by
  subst hR
  have h1 : (rm_M_beginsUnit).frames = 1 := rfl
  have h2 : (rm_M_beginsUnit).locals = 21 := rfl
  show (rm_M_beginsUnit).frames + 1 ≤ 94 + (d + 1) ∧ 8 + (1 + 11) + (rm_M_beginsUnit).locals ≤ 2494 + 29 * (d + 1)
  omega
theorem rm_M_expression_M_isWord {R : Room} {d : Nat} (hR : R = rg_M_behind (d + 1)) : (rm_M_isWord).frames + 1 ≤ R.frames ∧ 8 + (2 + 11) + (rm_M_isWord).locals ≤ R.locals := by
  subst hR
  have h1 : (rm_M_isWord).frames = 0 := rfl
  have h2 : (rm_M_isWord).locals = 0 := rfl
  show (rm_M_isWord).frames + 1 ≤ 94 + (d + 1) ∧ 8 + (2 + 11) + (rm_M_isWord).locals ≤ 2494 + 29 * (d + 1)
  omega
theorem rm_M_expression_M_wrong {R : Room} {d : Nat} (hR : R = rg_M_behind (d + 1)) : (rm_M_wrong).frames + 1 ≤ R.frames ∧ 8 + (2 + 11) + (rm_M_wrong).locals ≤ R.locals := by
  subst hR
  have h1 : (rm_M_wrong).frames = 0 := rfl
  have h2 : (rm_M_wrong).locals = 0 := rfl
  show (rm_M_wrong).frames + 1 ≤ 94 + (d + 1) ∧ 8 + (2 + 11) + (rm_M_wrong).locals ≤ 2494 + 29 * (d + 1)
  omega
theorem rm_M_expression_M_opens {R : Room} {d : Nat} (hR : R = rg_M_behind (d + 1)) : (rm_M_opens).frames + 1 ≤ R.frames ∧ 8 + (1 + 11) + (rm_M_opens).locals ≤ R.locals := by
  subst hR
  have h1 : (rm_M_opens).frames = 1 := rfl
  have h2 : (rm_M_opens).locals = 21 := rfl
  show (rm_M_opens).frames + 1 ≤ 94 + (d + 1) ∧ 8 + (1 + 11) + (rm_M_opens).locals ≤ 2494 + 29 * (d + 1)
  omega
theorem rm_M_expression_M_rule {R : Room} {d : Nat} (hR : R = rg_M_behind (d + 1)) : (rm_M_rule).frames + 1 ≤ R.frames ∧ 8 + (3 + 11) + (rm_M_rule).locals ≤ R.locals := by
  subst hR
  have h1 : (rm_M_rule).frames = 0 := rfl
  have h2 : (rm_M_rule).locals = 0 := rfl
  show (rm_M_rule).frames + 1 ≤ 94 + (d + 1) ∧ 8 + (3 + 11) + (rm_M_rule).locals ≤ 2494 + 29 * (d + 1)
  omega
theorem rm_M_expression_M_node {R : Room} {d : Nat} (hR : R = rg_M_behind (d + 1)) : (rm_M_node).frames + 1 ≤ R.frames ∧ 8 + (3 + 11) + (rm_M_node).locals ≤ R.locals := by
  subst hR
  have h1 : (rm_M_node).frames = 0 := rfl
  have h2 : (rm_M_node).locals = 0 := rfl
  show (rm_M_node).frames + 1 ≤ 94 + (d + 1) ∧ 8 + (3 + 11) + (rm_M_node).locals ≤ 2494 + 29 * (d + 1)
  omega
theorem rm_M_expression_M_unbind {R : Room} {d : Nat} (hR : R = rg_M_behind (d + 1)) : (rm_M_unbind).frames + 1 ≤ R.frames ∧ 8 + (3 + 11) + (rm_M_unbind).locals ≤ R.locals := by
  subst hR
  have h1 : (rm_M_unbind).frames = 1 := rfl
  have h2 : (rm_M_unbind).locals = 22 := rfl
  show (rm_M_unbind).frames + 1 ≤ 94 + (d + 1) ∧ 8 + (3 + 11) + (rm_M_unbind).locals ≤ 2494 + 29 * (d + 1)
  omega
theorem rm_M_expression_M_expression {R : Room} {d : Nat} (hR : R = rg_M_behind (d + 1)) : (rg_M_behind d).frames + 1 ≤ R.frames ∧ 8 + (4 + 11) + (rg_M_behind d).locals ≤ R.locals := by
  subst hR
  show 94 + d + 1 ≤ 94 + (d + 1) ∧ 8 + (4 + 11) + (2494 + 29 * d) ≤ 2494 + 29 * (d + 1)
  omega
theorem rm_M_expression_M_simple {R : Room} {d : Nat} (hR : R = rg_M_behind (d + 1)) : (rg_M_behind d).frames + 1 ≤ R.frames ∧ 8 + (4 + 11) + (rg_M_behind d).locals ≤ R.locals := by
  subst hR
  show 94 + d + 1 ≤ 94 + (d + 1) ∧ 8 + (4 + 11) + (2494 + 29 * d) ≤ 2494 + 29 * (d + 1)
  omega
def fb_M_expression_137 (N : Nat) (S : SG_M_behind) (G : Unit) (u : MS) (v1 : Int32) : Option (MS × Int32) := lt (upI u 70 ((u.1 70) - 1)) (fun w1 => some (w1, v1))
set_option maxRecDepth 100000 in
set_option maxHeartbeats 4000000 in
theorem wb_M_expression_137 {p : Program} {l : Launch} {e : Env} {R : Room} {s : State} {m : MethodId} {args : Array Value} {below : List Frame} {meth : Method} {c : Code} {D : va_G} {cl : List vw_C} {cB cI cJ cZ cS : ClassId} {A : Nat → Prop} {iM h0 : Nat} {ad : Nat → Nat} (C0 : MCx p s m args meth c b_M_expression 4 (some .int) D cl cB cI cJ cZ cS iM A) {d : Nat} (hR : R = rg_M_behind (d + 1)) (N : Nat) (S : SG_M_behind) (hSg : HS_M_behind l D cl cB cI cJ cZ cS iM h0 ad (rg_M_behind d) S) (G : Unit) (hG : True) : ∀ (u : MS) (v1 : Int32) (x : MS × Int32), fb_M_expression_137 N S G u v1 = some x → ∀ (H : Heap) (locs : List Loc), va_P D cl (wM cB cI cJ cZ cS iM h0 ad u) H → va_D A (wM cB cI cJ cZ cS iM h0 ad u) → va_S A s.heap H locs → ∀ (ls : Array Slot), lv_has ls 4 [(0, .ref h0), (1, .int v1)] → W p l e R s m args below meth c H locs 0 0 (MQ below (mQi D cl cB cI cJ cZ cS iM h0 ad A x) args s 0 0 A) (F0 m 137 ls []) := by
  intro u v1 x hf H locs hP hD hS ls hl
  obtain ⟨hx, hb, hr, hml, ht, hown, hM, hK, hA, hlocks⟩ := id C0
  unfold fb_M_expression_137 at hf
  refine lv_aload_n hx hb d_M_expression_137 rfl (lv_at hl 0 rfl) ?_
  refine lv_dup hx hb d_M_expression_138 rfl ?_
  refine ug_I hx hb ht hown hM hK hP 70 (by decide) lk_M_70 (by decide) d_M_expression_139 ?_
  refine lv_iconst (v := 1) hx hb d_M_expression_142 (by decide) ?_
  refine lv_isub hx hb d_M_expression_143 ?_
  refine up_I hx hb ht hown hM hK hP hD hS 70 (by decide) lk_M_70 (by decide) rfl rfl rfl d_M_expression_144 (fun H locs hP hD hS => ?_)
  obtain ⟨w1, e1, hf⟩ := lt_some hf
  rw [← e1] at hP hD
  refine lv_iload_n hx hb d_M_expression_147 rfl (lv_at hl 1 rfl) ?_
  exact mr_i C0 hP hD hS hf d_M_expression_148
def fb_M_expression_60 (N : Nat) (S : SG_M_behind) (G : Unit) (u : MS) : Option (MS × Int32) := bnd (fm_M_node N u 19 (u.1 69)) (fun u2 r2 => lt (upI u2 69 ((u2.1 69) + 1)) (fun w3 => ck (inb (w3.1 65) (ln 60)) (lt (w3.2.2.1 60 (w3.1 65).toNatClampNeg) (fun y4 => ck (inb r2 (ln 26)) (lt (upA w3 26 (upd (w3.2.2.1 26) r2.toNatClampNeg y4)) (fun w5 => bnd (S.2.2.2.2.2.2.2.2.2.2.2.2.2.1 w5) (fun u6 r6 => bnd (fm_M_unbind N u6 y4) (fun u7 _ => bnd (fm_M_node N u7 20 (u7.1 69)) (fun u8 r8 => ck (inb r2 (ln 25)) (lt (upA u8 25 (upd (u8.2.2.1 25) r2.toNatClampNeg (u8.1 32))) (fun w9 => fb_M_expression_137 N S G w9 (r8))))))))))))
set_option maxRecDepth 100000 in
set_option maxHeartbeats 4000000 in
theorem wb_M_expression_60 {p : Program} {l : Launch} {e : Env} {R : Room} {s : State} {m : MethodId} {args : Array Value} {below : List Frame} {meth : Method} {c : Code} {D : va_G} {cl : List vw_C} {cB cI cJ cZ cS : ClassId} {A : Nat → Prop} {iM h0 : Nat} {ad : Nat → Nat} (C0 : MCx p s m args meth c b_M_expression 4 (some .int) D cl cB cI cJ cZ cS iM A) {d : Nat} (hR : R = rg_M_behind (d + 1)) (N : Nat) (S : SG_M_behind) (hSg : HS_M_behind l D cl cB cI cJ cZ cS iM h0 ad (rg_M_behind d) S) (G : Unit) (hG : True) : ∀ (u : MS) (x : MS × Int32), fb_M_expression_60 N S G u = some x → ∀ (H : Heap) (locs : List Loc), va_P D cl (wM cB cI cJ cZ cS iM h0 ad u) H → va_D A (wM cB cI cJ cZ cS iM h0 ad u) → va_S A s.heap H locs → ∀ (ls : Array Slot), lv_has ls 4 [(0, .ref h0)] → W p l e R s m args below meth c H locs 0 0 (MQ below (mQi D cl cB cI cJ cZ cS iM h0 ad A x) args s 0 0 A) (F0 m 60 ls []) := by
  intro u x hf H locs hP hD hS ls hl
  obtain ⟨hx, hb, hr, hml, ht, hown, hM, hK, hA, hlocks⟩ := id C0
  unfold fb_M_expression_60 at hf
  refine lv_aload_n hx hb d_M_expression_60 rfl (lv_at hl 0 rfl) ?_
  refine lv_bipush (v := 19) hx hb d_M_expression_61 (by decide) ?_
  refine lv_aload_n hx hb d_M_expression_63 rfl (lv_at hl 0 rfl) ?_
  refine ug_I hx hb ht hown hM hK hP 69 (by decide) lk_M_69 (by decide) d_M_expression_64 ?_
  obtain ⟨u2, r2, hc2, hf⟩ := bnd_some hf
  refine mV_i (As := [.int 19, .int (u.1 69)]) (rest := []) C0 hP hD hS (c_M_node N hM hc2) k_M_node hl_M_node hi_M_node hs_M_node hini_M rfl rfl hd_M_node rfl (rm_M_expression_M_node hR) hl.1 (Nat.le_of_ble_eq_true rfl) d_M_expression_67 rfl ⟨Nat.zero_le _, Nat.zero_le _⟩ (fun H locs hP hD hS => ?_)
  refine lv_istore_n (lv' := [(2, .int r2), (0, .ref h0)]) hx hb d_M_expression_70 rfl hl (by decide) rfl (fun ls hl => ?_)
  refine lv_aload_n hx hb d_M_expression_71 rfl (lv_at hl 1 rfl) ?_
  refine lv_dup hx hb d_M_expression_72 rfl ?_
  refine ug_I hx hb ht hown hM hK hP 69 (by decide) lk_M_69 (by decide) d_M_expression_73 ?_
  refine lv_iconst (v := 1) hx hb d_M_expression_76 (by decide) ?_
  refine lv_iadd hx hb d_M_expression_77 ?_
  refine up_I hx hb ht hown hM hK hP hD hS 69 (by decide) lk_M_69 (by decide) rfl rfl rfl d_M_expression_78 (fun H locs hP hD hS => ?_)
  obtain ⟨w3, e3, hf⟩ := lt_some hf
  rw [← e3] at hP hD
  refine lv_aload_n hx hb d_M_expression_81 rfl (lv_at hl 1 rfl) ?_
  refine ug_R hx hb ht hown hM hK hP 60 (by decide) lk_M_60 (by decide) d_M_expression_82 ?_
  refine lv_aload_n hx hb d_M_expression_85 rfl (lv_at hl 1 rfl) ?_
  refine ug_I hx hb ht hown hM hK hP 65 (by decide) lk_M_65 (by decide) d_M_expression_86 ?_
  obtain ⟨hi9, hf⟩ := ck_some hf
  refine ul_I hx hb hK hP (by decide) (by decide) hi9 d_M_expression_89 ?_
  obtain ⟨y4, e4, hf⟩ := lt_some hf
  rw [← e4]
  refine lv_istore_n (lv' := [(3, .int y4), (2, .int r2), (0, .ref h0)]) hx hb d_M_expression_90 rfl hl (by decide) rfl (fun ls hl => ?_)
  refine lv_aload_n hx hb d_M_expression_91 rfl (lv_at hl 2 rfl) ?_
  refine ug_R hx hb ht hown hM hK hP 26 (by decide) lk_M_26 (by decide) d_M_expression_92 ?_
  refine lv_iload_n hx hb d_M_expression_95 rfl (lv_at hl 1 rfl) ?_
  refine lv_iload_n hx hb d_M_expression_96 rfl (lv_at hl 0 rfl) ?_
  obtain ⟨hi9, hf⟩ := ck_some hf
  refine us_I hx hb hK hP hD hS (by decide) (by decide) hi9 d_M_expression_97 (fun H locs hP hD hS => ?_)
  obtain ⟨w5, e5, hf⟩ := lt_some hf
  rw [← e5] at hP hD
  refine lv_aload_n hx hb d_M_expression_98 rfl (lv_at hl 2 rfl) ?_
  obtain ⟨u6, r6, hc6, hf⟩ := bnd_some hf
  refine mV_i (As := []) (rest := []) C0 hP hD hS (hSg.2.2.2.2.2.2.2.2.2.2.2.2.2.1 _ _ _ hc6) k_M_expression hl_M_expression hi_M_expression hs_M_expression hini_M rfl rfl hd_M_expression rfl (rm_M_expression_M_expression hR) hl.1 (Nat.le_of_ble_eq_true rfl) d_M_expression_99 rfl ⟨Nat.zero_le _, Nat.zero_le _⟩ (fun H locs hP hD hS => ?_)
  refine lv_istore_n (lv' := [(1, .int r6), (3, .int y4), (2, .int r2), (0, .ref h0)]) hx hb d_M_expression_102 rfl hl (by decide) rfl (fun ls hl => ?_)
  refine lv_aload_n hx hb d_M_expression_103 rfl (lv_at hl 3 rfl) ?_
  refine lv_iload_n hx hb d_M_expression_104 rfl (lv_at hl 1 rfl) ?_
  obtain ⟨u7, r7, hc7, hf⟩ := bnd_some hf
  refine mV_v (As := [.int y4]) (rest := []) C0 hP hD hS (c_M_unbind N hM hc7) k_M_unbind hl_M_unbind hi_M_unbind hs_M_unbind hini_M rfl rfl hd_M_unbind rfl (rm_M_expression_M_unbind hR) hl.1 (Nat.le_of_ble_eq_true rfl) d_M_expression_105 rfl ⟨Nat.zero_le _, Nat.zero_le _⟩ (fun H locs hP hD hS => ?_)
  refine lv_aload_n hx hb d_M_expression_108 rfl (lv_at hl 3 rfl) ?_
  refine lv_bipush (v := 20) hx hb d_M_expression_109 (by decide) ?_
  refine lv_aload_n hx hb d_M_expression_111 rfl (lv_at hl 3 rfl) ?_
  refine ug_I hx hb ht hown hM hK hP 69 (by decide) lk_M_69 (by decide) d_M_expression_112 ?_
  obtain ⟨u8, r8, hc8, hf⟩ := bnd_some hf
  refine mV_i (As := [.int 20, .int (u7.1 69)]) (rest := []) C0 hP hD hS (c_M_node N hM hc8) k_M_node hl_M_node hi_M_node hs_M_node hini_M rfl rfl hd_M_node rfl (rm_M_expression_M_node hR) hl.1 (Nat.le_of_ble_eq_true rfl) d_M_expression_115 rfl ⟨Nat.zero_le _, Nat.zero_le _⟩ (fun H locs hP hD hS => ?_)
  refine lv_istore_n (lv' := [(1, .int r8), (3, .int y4), (2, .int r2), (0, .ref h0)]) hx hb d_M_expression_118 rfl hl (by decide) rfl (fun ls hl => ?_)
  refine lv_aload_n hx hb d_M_expression_119 rfl (lv_at hl 3 rfl) ?_
  refine ug_R hx hb ht hown hM hK hP 25 (by decide) lk_M_25 (by decide) d_M_expression_120 ?_
  refine lv_iload_n hx hb d_M_expression_123 rfl (lv_at hl 2 rfl) ?_
  refine lv_aload_n hx hb d_M_expression_124 rfl (lv_at hl 3 rfl) ?_
  refine ug_I hx hb ht hown hM hK hP 32 (by decide) lk_M_32 (by decide) d_M_expression_125 ?_
  obtain ⟨hi9, hf⟩ := ck_some hf
  refine us_I hx hb hK hP hD hS (by decide) (by decide) hi9 d_M_expression_128 (fun H locs hP hD hS => ?_)
  obtain ⟨w9, e9, hf⟩ := lt_some hf
  rw [← e9] at hP hD
  refine lv_goto (tgt := 137) hx hb d_M_expression_129 (by decide) ?_
  exact wb_M_expression_137 C0 hR N S hSg G hG _ _ _ hf H locs hP hD hS ls (lv_sub hl [3, 0] rfl)
def fb_M_expression_31 (N : Nat) (S : SG_M_behind) (G : Unit) (u : MS) : Option (MS × Int32) := bnd (fm_M_opens N u) (fun u10 _ => bnd (fm_M_isWord N u10 4) (fun u11 r11 => br (decide (r11 = 0)) (bnd (S.2.2.2.2.2.2.2.2.2.2.2.2.1 u11) (fun u12 r12 => fb_M_expression_137 N S G u12 (r12))) (br (decide ((u11.1 73) = 0)) (fb_M_expression_60 N S G u11) (bnd (fm_M_rule N u11 7 (u11.1 69)) (fun u13 _ => fb_M_expression_60 N S G u13)))))
set_option maxRecDepth 100000 in
set_option maxHeartbeats 4000000 in
theorem wb_M_expression_31 {p : Program} {l : Launch} {e : Env} {R : Room} {s : State} {m : MethodId} {args : Array Value} {below : List Frame} {meth : Method} {c : Code} {D : va_G} {cl : List vw_C} {cB cI cJ cZ cS : ClassId} {A : Nat → Prop} {iM h0 : Nat} {ad : Nat → Nat} (C0 : MCx p s m args meth c b_M_expression 4 (some .int) D cl cB cI cJ cZ cS iM A) {d : Nat} (hR : R = rg_M_behind (d + 1)) (N : Nat) (S : SG_M_behind) (hSg : HS_M_behind l D cl cB cI cJ cZ cS iM h0 ad (rg_M_behind d) S) (G : Unit) (hG : True) : ∀ (u : MS) (x : MS × Int32), fb_M_expression_31 N S G u = some x → ∀ (H : Heap) (locs : List Loc), va_P D cl (wM cB cI cJ cZ cS iM h0 ad u) H → va_D A (wM cB cI cJ cZ cS iM h0 ad u) → va_S A s.heap H locs → ∀ (ls : Array Slot), lv_has ls 4 [(0, .ref h0)] → W p l e R s m args below meth c H locs 0 0 (MQ below (mQi D cl cB cI cJ cZ cS iM h0 ad A x) args s 0 0 A) (F0 m 31 ls []) := by
  intro u x hf H locs hP hD hS ls hl
  obtain ⟨hx, hb, hr, hml, ht, hown, hM, hK, hA, hlocks⟩ := id C0
  unfold fb_M_expression_31 at hf
  refine lv_aload_n hx hb d_M_expression_31 rfl (lv_at hl 0 rfl) ?_
  obtain ⟨u10, r10, hc10, hf⟩ := bnd_some hf
  refine mV_v (As := []) (rest := []) C0 hP hD hS (c_M_opens N hM hc10) k_M_opens hl_M_opens hi_M_opens hs_M_opens hini_M rfl rfl hd_M_opens rfl (rm_M_expression_M_opens hR) hl.1 (Nat.le_of_ble_eq_true rfl) d_M_expression_32 rfl ⟨Nat.zero_le _, Nat.zero_le _⟩ (fun H locs hP hD hS => ?_)
  refine lv_aload_n hx hb d_M_expression_35 rfl (lv_at hl 0 rfl) ?_
  refine lv_iconst (v := 4) hx hb d_M_expression_36 (by decide) ?_
  obtain ⟨u11, r11, hc11, hf⟩ := bnd_some hf
  refine mV_i (As := [.int 4]) (rest := []) C0 hP hD hS (c_M_isWord N hM hc11) k_M_isWord hl_M_isWord hi_M_isWord hs_M_isWord hini_M rfl rfl hd_M_isWord rfl (rm_M_expression_M_isWord hR) hl.1 (Nat.le_of_ble_eq_true rfl) d_M_expression_37 rfl ⟨Nat.zero_le _, Nat.zero_le _⟩ (fun H locs hP hD hS => ?_)
  refine lv_if_eq (tgt := 132) hx hb d_M_expression_40 (by decide) (fun hc => ?_) (fun hc => ?_)
  · rw [br_p _ hc] at hf
    refine lv_aload_n hx hb d_M_expression_132 rfl (lv_at hl 0 rfl) ?_
    obtain ⟨u12, r12, hc12, hf⟩ := bnd_some hf
    refine mV_i (As := []) (rest := []) C0 hP hD hS (hSg.2.2.2.2.2.2.2.2.2.2.2.2.1 _ _ _ hc12) k_M_simple hl_M_simple hi_M_simple hs_M_simple hini_M rfl rfl hd_M_simple rfl (rm_M_expression_M_simple hR) hl.1 (Nat.le_of_ble_eq_true rfl) d_M_expression_133 rfl ⟨Nat.zero_le _, Nat.zero_le _⟩ (fun H locs hP hD hS => ?_)
    refine lv_istore_n (lv' := [(1, .int r12), (0, .ref h0)]) hx hb d_M_expression_136 rfl hl (by decide) rfl (fun ls hl => ?_)
    exact wb_M_expression_137 C0 hR N S hSg G hG _ _ _ hf H locs hP hD hS ls (lv_sub hl [1, 0] rfl)
  · rw [br_n _ hc] at hf
    refine lv_aload_n hx hb d_M_expression_43 rfl (lv_at hl 0 rfl) ?_
    refine ug_I hx hb ht hown hM hK hP 73 (by decide) lk_M_73 (by decide) d_M_expression_44 ?_
    refine lv_if_eq (tgt := 60) hx hb d_M_expression_47 (by decide) (fun hc => ?_) (fun hc => ?_)
    · rw [br_p _ hc] at hf
      exact wb_M_expression_60 C0 hR N S hSg G hG _ _ hf H locs hP hD hS ls (lv_sub hl [0] rfl)
    · rw [br_n _ hc] at hf
      refine lv_aload_n hx hb d_M_expression_50 rfl (lv_at hl 0 rfl) ?_
      refine lv_bipush (v := 7) hx hb d_M_expression_51 (by decide) ?_
      refine lv_aload_n hx hb d_M_expression_53 rfl (lv_at hl 0 rfl) ?_
      refine ug_I hx hb ht hown hM hK hP 69 (by decide) lk_M_69 (by decide) d_M_expression_54 ?_
      obtain ⟨u13, r13, hc13, hf⟩ := bnd_some hf
      refine mV_v (As := [.int 7, .int (u11.1 69)]) (rest := []) C0 hP hD hS (c_M_rule N hM hc13) k_M_rule hl_M_rule hi_M_rule hs_M_rule hini_M rfl rfl hd_M_rule rfl (rm_M_expression_M_rule hR) hl.1 (Nat.le_of_ble_eq_true rfl) d_M_expression_57 rfl ⟨Nat.zero_le _, Nat.zero_le _⟩ (fun H locs hP hD hS => ?_)
      exact wb_M_expression_60 C0 hR N S hSg G hG _ _ hf H locs hP hD hS ls (lv_sub hl [0] rfl)
def fb_M_expression_0 (N : Nat) (S : SG_M_behind) (G : Unit) (u : MS) : Option (MS × Int32) := br (decide ((u.1 67) = 0)) (bnd (fm_M_beginsUnit N u) (fun u14 r14 => br (decide (r14 = 0)) (bnd (fm_M_isWord N u14 4) (fun u15 r15 => br (decide (r15 = 0)) (bnd (fm_M_wrong N u15 2) (fun u16 _ => some (u16, (-1)))) (fb_M_expression_31 N S G u15))) (fb_M_expression_31 N S G u14))) (some (u, (-1)))
set_option maxRecDepth 100000 in
set_option maxHeartbeats 4000000 in
theorem wb_M_expression_0 {p : Program} {l : Launch} {e : Env} {R : Room} {s : State} {m : MethodId} {args : Array Value} {below : List Frame} {meth : Method} {c : Code} {D : va_G} {cl : List vw_C} {cB cI cJ cZ cS : ClassId} {A : Nat → Prop} {iM h0 : Nat} {ad : Nat → Nat} (C0 : MCx p s m args meth c b_M_expression 4 (some .int) D cl cB cI cJ cZ cS iM A) {d : Nat} (hR : R = rg_M_behind (d + 1)) (N : Nat) (S : SG_M_behind) (hSg : HS_M_behind l D cl cB cI cJ cZ cS iM h0 ad (rg_M_behind d) S) (G : Unit) (hG : True) : ∀ (u : MS) (x : MS × Int32), fb_M_expression_0 N S G u = some x → ∀ (H : Heap) (locs : List Loc), va_P D cl (wM cB cI cJ cZ cS iM h0 ad u) H → va_D A (wM cB cI cJ cZ cS iM h0 ad u) → va_S A s.heap H locs → ∀ (ls : Array Slot), lv_has ls 4 [(0, .ref h0)] → W p l e R s m args below meth c H locs 0 0 (MQ below (mQi D cl cB cI cJ cZ cS iM h0 ad A x) args s 0 0 A) (F0 m 0 ls []) := by
  intro u x hf H locs hP hD hS ls hl
  obtain ⟨hx, hb, hr, hml, ht, hown, hM, hK, hA, hlocks⟩ := id C0
  unfold fb_M_expression_0 at hf
  refine lv_aload_n hx hb d_M_expression_0 rfl (lv_at hl 0 rfl) ?_
  refine ug_I hx hb ht hown hM hK hP 67 (by decide) lk_M_67 (by decide) d_M_expression_1 ?_
  refine lv_if_eq (tgt := 9) hx hb d_M_expression_4 (by decide) (fun hc => ?_) (fun hc => ?_)
  · rw [br_p _ hc] at hf
    refine lv_aload_n hx hb d_M_expression_9 rfl (lv_at hl 0 rfl) ?_
    obtain ⟨u14, r14, hc14, hf⟩ := bnd_some hf
    refine mV_i (As := []) (rest := []) C0 hP hD hS (c_M_beginsUnit N hM hc14) k_M_beginsUnit hl_M_beginsUnit hi_M_beginsUnit hs_M_beginsUnit hini_M rfl rfl hd_M_beginsUnit rfl (rm_M_expression_M_beginsUnit hR) hl.1 (Nat.le_of_ble_eq_true rfl) d_M_expression_10 rfl ⟨Nat.zero_le _, Nat.zero_le _⟩ (fun H locs hP hD hS => ?_)
    refine lv_if_ne (tgt := 31) hx hb d_M_expression_13 (by decide) (fun hc => ?_) (fun hc => ?_)
    · rw [br_n _ hc] at hf
      exact wb_M_expression_31 C0 hR N S hSg G hG _ _ hf H locs hP hD hS ls (lv_sub hl [0] rfl)
    · rw [br_p _ hc] at hf
      refine lv_aload_n hx hb d_M_expression_16 rfl (lv_at hl 0 rfl) ?_
      refine lv_iconst (v := 4) hx hb d_M_expression_17 (by decide) ?_
      obtain ⟨u15, r15, hc15, hf⟩ := bnd_some hf
      refine mV_i (As := [.int 4]) (rest := []) C0 hP hD hS (c_M_isWord N hM hc15) k_M_isWord hl_M_isWord hi_M_isWord hs_M_isWord hini_M rfl rfl hd_M_isWord rfl (rm_M_expression_M_isWord hR) hl.1 (Nat.le_of_ble_eq_true rfl) d_M_expression_18 rfl ⟨Nat.zero_le _, Nat.zero_le _⟩ (fun H locs hP hD hS => ?_)
      refine lv_if_ne (tgt := 31) hx hb d_M_expression_21 (by decide) (fun hc => ?_) (fun hc => ?_)
      · rw [br_n _ hc] at hf
        exact wb_M_expression_31 C0 hR N S hSg G hG _ _ hf H locs hP hD hS ls (lv_sub hl [0] rfl)
      · rw [br_p _ hc] at hf
        refine lv_aload_n hx hb d_M_expression_24 rfl (lv_at hl 0 rfl) ?_
        refine lv_iconst (v := 2) hx hb d_M_expression_25 (by decide) ?_
        obtain ⟨u16, r16, hc16, hf⟩ := bnd_some hf
        refine mV_v (As := [.int 2]) (rest := []) C0 hP hD hS (c_M_wrong N hM hc16) k_M_wrong hl_M_wrong hi_M_wrong hs_M_wrong hini_M rfl rfl hd_M_wrong rfl (rm_M_expression_M_wrong hR) hl.1 (Nat.le_of_ble_eq_true rfl) d_M_expression_26 rfl ⟨Nat.zero_le _, Nat.zero_le _⟩ (fun H locs hP hD hS => ?_)
        refine lv_iconst (v := (-1)) hx hb d_M_expression_29 (by decide) ?_
        exact mr_i C0 hP hD hS hf d_M_expression_30
  · rw [br_n _ hc] at hf
    refine lv_iconst (v := (-1)) hx hb d_M_expression_7 (by decide) ?_
    exact mr_i C0 hP hD hS hf d_M_expression_8
def fm_M_expression (N : Nat) (S : SG_M_behind) (u : MS) : Option (MS × Int32) := fb_M_expression_0 N S () u
set_option maxRecDepth 100000 in
set_option maxHeartbeats 4000000 in
theorem cs_M_expression (N : Nat) {d : Nat} {l : Launch} {D : va_G} {cl : List vw_C} {cB cI cJ cZ cS : ClassId} {iM h0 : Nat} {ad : Nat → Nat} {u : MS} {sz : Nat} {x : MS × Int32} (hM : cl[iM]? = some (R_M, F_M, 171)) (S : SG_M_behind) (hSg : HS_M_behind l D cl cB cI cJ cZ cS iM h0 ad (rg_M_behind d) S) (hf : fm_M_expression N S u = some x) : Met l y_M_expression (wd_ws y_M_expression b_M_expression 4 (some .int)) (rg_M_behind (d + 1)) (mPc D cl cB cI cJ cZ cS iM h0 ad u sz [.ref h0]) (mQi D cl cB cI cJ cZ cS iM h0 ad (mA cB cI cJ cZ cS iM h0 ad u sz) x) 0 0 (mA cB cI cJ cZ cS iM h0 ad u sz) :=
  mMet (by decide) rfl hM (Nat.le_of_ble_eq_true rfl) (fun p e s m below meth c ls hsz C0 hP hD hS hl => by
    have hR : (rg_M_behind (d + 1)) = (rg_M_behind (d + 1)) := rfl
    exact wb_M_expression_0 C0 hR N S hSg () trivial u x hf s.heap [] hP hD hS ls (lv_sub hl [0] rfl))
theorem rm_M_guardCode_M_node {R : Room} {d : Nat} (hR : R = rg_M_behind (d + 1)) : (rm_M_node).frames + 1 ≤ R.frames ∧ 8 + (3 + 11) + (rm_M_node).locals ≤ R.locals := by
  subst hR
  have h1 : (rm_M_node).frames = 0 := rfl
  have h2 : (rm_M_node).locals = 0 := rfl
  show (rm_M_node).frames + 1 ≤ 94 + (d + 1) ∧ 8 + (3 + 11) + (rm_M_node).locals ≤ 2494 + 29 * (d + 1)
  omega
theorem rm_M_guardCode_M_takeSign {R : Room} {d : Nat} (hR : R = rg_M_behind (d + 1)) : (rm_M_takeSign).frames + 1 ≤ R.frames ∧ 8 + (2 + 11) + (rm_M_takeSign).locals ≤ R.locals := by
  subst hR
  have h1 : (rm_M_takeSign).frames = 1 := rfl
  have h2 : (rm_M_takeSign).locals = 21 := rfl
  show (rm_M_takeSign).frames + 1 ≤ 94 + (d + 1) ∧ 8 + (2 + 11) + (rm_M_takeSign).locals ≤ 2494 + 29 * (d + 1)
  omega
theorem rm_M_guardCode_M_expression {R : Room} {d : Nat} (hR : R = rg_M_behind (d + 1)) : (rg_M_behind d).frames + 1 ≤ R.frames ∧ 8 + (4 + 11) + (rg_M_behind d).locals ≤ R.locals := by
  subst hR
  show 94 + d + 1 ≤ 94 + (d + 1) ∧ 8 + (4 + 11) + (2494 + 29 * d) ≤ 2494 + 29 * (d + 1)
  omega
def fb_M_guardCode_39 (N : Nat) (S : SG_M_behind) (G : (MS → Int32 → Int32 → Int32 → Int32 → Option (MS × Int32))) (u : MS) (v1 : Int32) (v2 : Int32) (v3 : Int32) (v4 : Int32) : Option (MS × Int32) := br (decide (v4 = 0)) (bnd (fm_M_node N u 23 (u.1 69)) (fun u1 r1 => ck (isb v2) (lt (upI u1 73 v2) (fun w2 => ck (inb (w2.1 65) (ln 60)) (lt (upA w2 60 (upd (w2.2.2.1 60) (w2.1 65).toNatClampNeg v3)) (fun w3 => some (w3, v1))))))) (bnd (S.2.2.2.2.2.2.2.2.2.2.2.2.2.1 u) (fun u4 r4 => bnd (fm_M_node N u4 22 (u4.1 69)) (fun u5 r5 => bnd (fm_M_takeSign N u5 6) (fun u6 r6 => G u6 (v1) (v2) (v3) (r6)))))
set_option maxRecDepth 100000 in
set_option maxHeartbeats 4000000 in
theorem wb_M_guardCode_39 {p : Program} {l : Launch} {e : Env} {R : Room} {s : State} {m : MethodId} {args : Array Value} {below : List Frame} {meth : Method} {c : Code} {D : va_G} {cl : List vw_C} {cB cI cJ cZ cS : ClassId} {A : Nat → Prop} {iM h0 : Nat} {ad : Nat → Nat} (C0 : MCx p s m args meth c b_M_guardCode 7 (some .int) D cl cB cI cJ cZ cS iM A) {d : Nat} (hR : R = rg_M_behind (d + 1)) (N : Nat) (S : SG_M_behind) (hSg : HS_M_behind l D cl cB cI cJ cZ cS iM h0 ad (rg_M_behind d) S) (G : (MS → Int32 → Int32 → Int32 → Int32 → Option (MS × Int32))) (hG : (∀ (u : MS) (v1 : Int32) (v2 : Int32) (v3 : Int32) (v4 : Int32) (x : MS × Int32), G u v1 v2 v3 v4 = some x → ∀ (H : Heap) (locs : List Loc), va_P D cl (wM cB cI cJ cZ cS iM h0 ad u) H → va_D A (wM cB cI cJ cZ cS iM h0 ad u) → va_S A s.heap H locs → ∀ (ls : Array Slot), lv_has ls 7 [(0, .ref h0), (1, .int v1), (2, .int v2), (3, .int v3), (4, .int v4)] → W p l e R s m args below meth c H locs 0 0 (MQ below (mQi D cl cB cI cJ cZ cS iM h0 ad A x) args s 0 0 A) (F0 m 39 ls []))) : ∀ (u : MS) (v1 : Int32) (v2 : Int32) (v3 : Int32) (v4 : Int32) (x : MS × Int32), fb_M_guardCode_39 N S G u v1 v2 v3 v4 = some x → ∀ (H : Heap) (locs : List Loc), va_P D cl (wM cB cI cJ cZ cS iM h0 ad u) H → va_D A (wM cB cI cJ cZ cS iM h0 ad u) → va_S A s.heap H locs → ∀ (ls : Array Slot), lv_has ls 7 [(0, .ref h0), (1, .int v1), (2, .int v2), (3, .int v3), (4, .int v4)] → W p l e R s m args below meth c H locs 0 0 (MQ below (mQi D cl cB cI cJ cZ cS iM h0 ad A x) args s 0 0 A) (F0 m 39 ls []) := by
  intro u v1 v2 v3 v4 x hf H locs hP hD hS ls hl
  obtain ⟨hx, hb, hr, hml, ht, hown, hM, hK, hA, hlocks⟩ := id C0
  unfold fb_M_guardCode_39 at hf
  refine lv_iload hx hb d_M_guardCode_39 (lv_at hl 4 rfl) ?_
  refine lv_if_eq (tgt := 73) hx hb d_M_guardCode_41 (by decide) (fun hc => ?_) (fun hc => ?_)
  · rw [br_p _ hc] at hf
    refine lv_aload_n hx hb d_M_guardCode_73 rfl (lv_at hl 0 rfl) ?_
    refine lv_bipush (v := 23) hx hb d_M_guardCode_74 (by decide) ?_
    refine lv_aload_n hx hb d_M_guardCode_76 rfl (lv_at hl 0 rfl) ?_
    refine ug_I hx hb ht hown hM hK hP 69 (by decide) lk_M_69 (by decide) d_M_guardCode_77 ?_
    obtain ⟨u1, r1, hc1, hf⟩ := bnd_some hf
    refine mV_i (As := [.int 23, .int (u.1 69)]) (rest := []) C0 hP hD hS (c_M_node N hM hc1) k_M_node hl_M_node hi_M_node hs_M_node hini_M rfl rfl hd_M_node rfl (rm_M_guardCode_M_node hR) hl.1 (Nat.le_of_ble_eq_true rfl) d_M_guardCode_80 rfl ⟨Nat.zero_le _, Nat.zero_le _⟩ (fun H locs hP hD hS => ?_)
    refine lv_istore (lv' := [(5, .int r1), (0, .ref h0), (1, .int v1), (2, .int v2), (3, .int v3), (4, .int v4)]) hx hb d_M_guardCode_83 hl (by decide) rfl (fun ls hl => ?_)
    refine lv_aload_n hx hb d_M_guardCode_85 rfl (lv_at hl 1 rfl) ?_
    refine lv_iload_n hx hb d_M_guardCode_86 rfl (lv_at hl 3 rfl) ?_
    obtain ⟨hz, hf⟩ := ck_some hf
    refine up_I hx hb ht hown hM hK hP hD hS 73 (by decide) lk_M_73 (by decide) rfl (isb_n hz) (isb_f hz) d_M_guardCode_87 (fun H locs hP hD hS => ?_)
    obtain ⟨w2, e2, hf⟩ := lt_some hf
    rw [← e2] at hP hD
    refine lv_aload_n hx hb d_M_guardCode_90 rfl (lv_at hl 1 rfl) ?_
    refine ug_R hx hb ht hown hM hK hP 60 (by decide) lk_M_60 (by decide) d_M_guardCode_91 ?_
    refine lv_aload_n hx hb d_M_guardCode_94 rfl (lv_at hl 1 rfl) ?_
    refine ug_I hx hb ht hown hM hK hP 65 (by decide) lk_M_65 (by decide) d_M_guardCode_95 ?_
    refine lv_iload_n hx hb d_M_guardCode_98 rfl (lv_at hl 4 rfl) ?_
    obtain ⟨hi9, hf⟩ := ck_some hf
    refine us_I hx hb hK hP hD hS (by decide) (by decide) hi9 d_M_guardCode_99 (fun H locs hP hD hS => ?_)
    obtain ⟨w3, e3, hf⟩ := lt_some hf
    rw [← e3] at hP hD
    refine lv_iload_n hx hb d_M_guardCode_100 rfl (lv_at hl 2 rfl) ?_
    exact mr_i C0 hP hD hS hf d_M_guardCode_101
  · rw [br_n _ hc] at hf
    refine lv_aload_n hx hb d_M_guardCode_44 rfl (lv_at hl 0 rfl) ?_
    obtain ⟨u4, r4, hc4, hf⟩ := bnd_some hf
    refine mV_i (As := []) (rest := []) C0 hP hD hS (hSg.2.2.2.2.2.2.2.2.2.2.2.2.2.1 _ _ _ hc4) k_M_expression hl_M_expression hi_M_expression hs_M_expression hini_M rfl rfl hd_M_expression rfl (rm_M_guardCode_M_expression hR) hl.1 (Nat.le_of_ble_eq_true rfl) d_M_guardCode_45 rfl ⟨Nat.zero_le _, Nat.zero_le _⟩ (fun H locs hP hD hS => ?_)
    refine lv_istore (lv' := [(5, .int r4), (0, .ref h0), (1, .int v1), (2, .int v2), (3, .int v3), (4, .int v4)]) hx hb d_M_guardCode_48 hl (by decide) rfl (fun ls hl => ?_)
    refine lv_aload_n hx hb d_M_guardCode_50 rfl (lv_at hl 1 rfl) ?_
    refine lv_bipush (v := 22) hx hb d_M_guardCode_51 (by decide) ?_
    refine lv_aload_n hx hb d_M_guardCode_53 rfl (lv_at hl 1 rfl) ?_
    refine ug_I hx hb ht hown hM hK hP 69 (by decide) lk_M_69 (by decide) d_M_guardCode_54 ?_
    obtain ⟨u5, r5, hc5, hf⟩ := bnd_some hf
    refine mV_i (As := [.int 22, .int (u4.1 69)]) (rest := []) C0 hP hD hS (c_M_node N hM hc5) k_M_node hl_M_node hi_M_node hs_M_node hini_M rfl rfl hd_M_node rfl (rm_M_guardCode_M_node hR) hl.1 (Nat.le_of_ble_eq_true rfl) d_M_guardCode_57 rfl ⟨Nat.zero_le _, Nat.zero_le _⟩ (fun H locs hP hD hS => ?_)
    refine lv_istore (lv' := [(6, .int r5), (5, .int r4), (0, .ref h0), (1, .int v1), (2, .int v2), (3, .int v3), (4, .int v4)]) hx hb d_M_guardCode_60 hl (by decide) rfl (fun ls hl => ?_)
    refine lv_aload_n hx hb d_M_guardCode_62 rfl (lv_at hl 2 rfl) ?_
    refine lv_bipush (v := 6) hx hb d_M_guardCode_63 (by decide) ?_
    obtain ⟨u6, r6, hc6, hf⟩ := bnd_some hf
    refine mV_i (As := [.int 6]) (rest := []) C0 hP hD hS (c_M_takeSign N hM hc6) k_M_takeSign hl_M_takeSign hi_M_takeSign hs_M_takeSign hini_M rfl rfl hd_M_takeSign rfl (rm_M_guardCode_M_takeSign hR) hl.1 (Nat.le_of_ble_eq_true rfl) d_M_guardCode_65 rfl ⟨Nat.zero_le _, Nat.zero_le _⟩ (fun H locs hP hD hS => ?_)
    refine lv_istore (lv' := [(4, .int r6), (6, .int r5), (5, .int r4), (0, .ref h0), (1, .int v1), (2, .int v2), (3, .int v3)]) hx hb d_M_guardCode_68 hl (by decide) rfl (fun ls hl => ?_)
    refine lv_goto (tgt := 39) hx hb d_M_guardCode_70 (by decide) ?_
    exact hG _ _ _ _ _ _ hf H locs hP hD hS ls (lv_sub hl [3, 4, 5, 6, 0] rfl)
def fb_M_guardCode_37 (N : Nat) (S : SG_M_behind) (G : (MS → Int32 → Int32 → Int32 → Int32 → Option (MS × Int32))) (u : MS) (v1 : Int32) (v2 : Int32) (v3 : Int32) (t0 : Int32) : Option (MS × Int32) := G u (v1) (v2) (v3) (t0)
set_option maxRecDepth 100000 in
set_option maxHeartbeats 4000000 in
theorem wb_M_guardCode_37 {p : Program} {l : Launch} {e : Env} {R : Room} {s : State} {m : MethodId} {args : Array Value} {below : List Frame} {meth : Method} {c : Code} {D : va_G} {cl : List vw_C} {cB cI cJ cZ cS : ClassId} {A : Nat → Prop} {iM h0 : Nat} {ad : Nat → Nat} (C0 : MCx p s m args meth c b_M_guardCode 7 (some .int) D cl cB cI cJ cZ cS iM A) {d : Nat} (hR : R = rg_M_behind (d + 1)) (N : Nat) (S : SG_M_behind) (hSg : HS_M_behind l D cl cB cI cJ cZ cS iM h0 ad (rg_M_behind d) S) (G : (MS → Int32 → Int32 → Int32 → Int32 → Option (MS × Int32))) (hG : (∀ (u : MS) (v1 : Int32) (v2 : Int32) (v3 : Int32) (v4 : Int32) (x : MS × Int32), G u v1 v2 v3 v4 = some x → ∀ (H : Heap) (locs : List Loc), va_P D cl (wM cB cI cJ cZ cS iM h0 ad u) H → va_D A (wM cB cI cJ cZ cS iM h0 ad u) → va_S A s.heap H locs → ∀ (ls : Array Slot), lv_has ls 7 [(0, .ref h0), (1, .int v1), (2, .int v2), (3, .int v3), (4, .int v4)] → W p l e R s m args below meth c H locs 0 0 (MQ below (mQi D cl cB cI cJ cZ cS iM h0 ad A x) args s 0 0 A) (F0 m 39 ls []))) : ∀ (u : MS) (v1 : Int32) (v2 : Int32) (v3 : Int32) (t0 : Int32) (x : MS × Int32), fb_M_guardCode_37 N S G u v1 v2 v3 t0 = some x → ∀ (H : Heap) (locs : List Loc), va_P D cl (wM cB cI cJ cZ cS iM h0 ad u) H → va_D A (wM cB cI cJ cZ cS iM h0 ad u) → va_S A s.heap H locs → ∀ (ls : Array Slot), lv_has ls 7 [(0, .ref h0), (1, .int v1), (2, .int v2), (3, .int v3)] → W p l e R s m args below meth c H locs 0 0 (MQ below (mQi D cl cB cI cJ cZ cS iM h0 ad A x) args s 0 0 A) (F0 m 37 ls [.int t0]) := by
  intro u v1 v2 v3 t0 x hf H locs hP hD hS ls hl
  obtain ⟨hx, hb, hr, hml, ht, hown, hM, hK, hA, hlocks⟩ := id C0
  unfold fb_M_guardCode_37 at hf
  refine lv_istore (lv' := [(4, .int t0), (0, .ref h0), (1, .int v1), (2, .int v2), (3, .int v3)]) hx hb d_M_guardCode_37 hl (by decide) rfl (fun ls hl => ?_)
  exact hG _ _ _ _ _ _ hf H locs hP hD hS ls (lv_sub hl [1, 2, 3, 4, 0] rfl)
def fb_M_guardCode_0 (N : Nat) (S : SG_M_behind) (G : (MS → Int32 → Int32 → Int32 → Int32 → Option (MS × Int32))) (u : MS) : Option (MS × Int32) := ck (inb (u.1 65) (ln 60)) (lt (u.2.2.1 60 (u.1 65).toNatClampNeg) (fun y7 => lt (upI u 73 1) (fun w8 => br (decide ((w8.1 67) = 0)) (fb_M_guardCode_37 N S G w8 ((u.1 32)) ((u.1 73)) (y7) (1)) (fb_M_guardCode_37 N S G w8 ((u.1 32)) ((u.1 73)) (y7) (0)))))
set_option maxRecDepth 100000 in
set_option maxHeartbeats 4000000 in
theorem wb_M_guardCode_0 {p : Program} {l : Launch} {e : Env} {R : Room} {s : State} {m : MethodId} {args : Array Value} {below : List Frame} {meth : Method} {c : Code} {D : va_G} {cl : List vw_C} {cB cI cJ cZ cS : ClassId} {A : Nat → Prop} {iM h0 : Nat} {ad : Nat → Nat} (C0 : MCx p s m args meth c b_M_guardCode 7 (some .int) D cl cB cI cJ cZ cS iM A) {d : Nat} (hR : R = rg_M_behind (d + 1)) (N : Nat) (S : SG_M_behind) (hSg : HS_M_behind l D cl cB cI cJ cZ cS iM h0 ad (rg_M_behind d) S) (G : (MS → Int32 → Int32 → Int32 → Int32 → Option (MS × Int32))) (hG : (∀ (u : MS) (v1 : Int32) (v2 : Int32) (v3 : Int32) (v4 : Int32) (x : MS × Int32), G u v1 v2 v3 v4 = some x → ∀ (H : Heap) (locs : List Loc), va_P D cl (wM cB cI cJ cZ cS iM h0 ad u) H → va_D A (wM cB cI cJ cZ cS iM h0 ad u) → va_S A s.heap H locs → ∀ (ls : Array Slot), lv_has ls 7 [(0, .ref h0), (1, .int v1), (2, .int v2), (3, .int v3), (4, .int v4)] → W p l e R s m args below meth c H locs 0 0 (MQ below (mQi D cl cB cI cJ cZ cS iM h0 ad A x) args s 0 0 A) (F0 m 39 ls []))) : ∀ (u : MS) (x : MS × Int32), fb_M_guardCode_0 N S G u = some x → ∀ (H : Heap) (locs : List Loc), va_P D cl (wM cB cI cJ cZ cS iM h0 ad u) H → va_D A (wM cB cI cJ cZ cS iM h0 ad u) → va_S A s.heap H locs → ∀ (ls : Array Slot), lv_has ls 7 [(0, .ref h0)] → W p l e R s m args below meth c H locs 0 0 (MQ below (mQi D cl cB cI cJ cZ cS iM h0 ad A x) args s 0 0 A) (F0 m 0 ls []) := by
  intro u x hf H locs hP hD hS ls hl
  obtain ⟨hx, hb, hr, hml, ht, hown, hM, hK, hA, hlocks⟩ := id C0
  unfold fb_M_guardCode_0 at hf
  refine lv_aload_n hx hb d_M_guardCode_0 rfl (lv_at hl 0 rfl) ?_
  refine ug_I hx hb ht hown hM hK hP 32 (by decide) lk_M_32 (by decide) d_M_guardCode_1 ?_
  refine lv_istore_n (lv' := [(1, .int (u.1 32)), (0, .ref h0)]) hx hb d_M_guardCode_4 rfl hl (by decide) rfl (fun ls hl => ?_)
  refine lv_aload_n hx hb d_M_guardCode_5 rfl (lv_at hl 1 rfl) ?_
  refine ug_I hx hb ht hown hM hK hP 73 (by decide) lk_M_73 (by decide) d_M_guardCode_6 ?_
  refine lv_istore_n (lv' := [(2, .int (u.1 73)), (1, .int (u.1 32)), (0, .ref h0)]) hx hb d_M_guardCode_9 rfl hl (by decide) rfl (fun ls hl => ?_)
  refine lv_aload_n hx hb d_M_guardCode_10 rfl (lv_at hl 2 rfl) ?_
  refine ug_R hx hb ht hown hM hK hP 60 (by decide) lk_M_60 (by decide) d_M_guardCode_11 ?_
  refine lv_aload_n hx hb d_M_guardCode_14 rfl (lv_at hl 2 rfl) ?_
  refine ug_I hx hb ht hown hM hK hP 65 (by decide) lk_M_65 (by decide) d_M_guardCode_15 ?_
  obtain ⟨hi9, hf⟩ := ck_some hf
  refine ul_I hx hb hK hP (by decide) (by decide) hi9 d_M_guardCode_18 ?_
  obtain ⟨y7, e7, hf⟩ := lt_some hf
  rw [← e7]
  refine lv_istore_n (lv' := [(3, .int y7), (2, .int (u.1 73)), (1, .int (u.1 32)), (0, .ref h0)]) hx hb d_M_guardCode_19 rfl hl (by decide) rfl (fun ls hl => ?_)
  refine lv_aload_n hx hb d_M_guardCode_20 rfl (lv_at hl 3 rfl) ?_
  refine lv_iconst (v := 1) hx hb d_M_guardCode_21 (by decide) ?_
  refine up_I hx hb ht hown hM hK hP hD hS 73 (by decide) lk_M_73 (by decide) rfl rfl rfl d_M_guardCode_22 (fun H locs hP hD hS => ?_)
  obtain ⟨w8, e8, hf⟩ := lt_some hf
  rw [← e8] at hP hD
  refine lv_aload_n hx hb d_M_guardCode_25 rfl (lv_at hl 3 rfl) ?_
  refine ug_I hx hb ht hown hM hK hP 67 (by decide) lk_M_67 (by decide) d_M_guardCode_26 ?_
  refine lv_if_ne (tgt := 36) hx hb d_M_guardCode_29 (by decide) (fun hc => ?_) (fun hc => ?_)
  · rw [br_n _ hc] at hf
    refine lv_iconst (v := 0) hx hb d_M_guardCode_36 (by decide) ?_
    exact wb_M_guardCode_37 C0 hR N S hSg G hG _ _ _ _ _ _ hf H locs hP hD hS ls (lv_sub hl [3, 2, 1, 0] rfl)
  · rw [br_p _ hc] at hf
    refine lv_iconst (v := 1) hx hb d_M_guardCode_32 (by decide) ?_
    refine lv_goto (tgt := 37) hx hb d_M_guardCode_33 (by decide) ?_
    exact wb_M_guardCode_37 C0 hR N S hSg G hG _ _ _ _ _ _ hf H locs hP hD hS ls (lv_sub hl [3, 2, 1, 0] rfl)
def gg_M_guardCode (N : Nat) (S : SG_M_behind) : Nat → ((MS → Int32 → Int32 → Int32 → Int32 → Option (MS × Int32)))
  | 0 => fun _ _ _ _ _ => none
  | n + 1 => fb_M_guardCode_39 N S (gg_M_guardCode N S n)
theorem wg_M_guardCode {p : Program} {l : Launch} {e : Env} {R : Room} {s : State} {m : MethodId} {args : Array Value} {below : List Frame} {meth : Method} {c : Code} {D : va_G} {cl : List vw_C} {cB cI cJ cZ cS : ClassId} {A : Nat → Prop} {iM h0 : Nat} {ad : Nat → Nat} (C0 : MCx p s m args meth c b_M_guardCode 7 (some .int) D cl cB cI cJ cZ cS iM A) {d : Nat} (hR : R = rg_M_behind (d + 1)) (N : Nat) (S : SG_M_behind) (hSg : HS_M_behind l D cl cB cI cJ cZ cS iM h0 ad (rg_M_behind d) S) : ∀ n : Nat, (∀ (u : MS) (v1 : Int32) (v2 : Int32) (v3 : Int32) (v4 : Int32) (x : MS × Int32), gg_M_guardCode N S n u v1 v2 v3 v4 = some x → ∀ (H : Heap) (locs : List Loc), va_P D cl (wM cB cI cJ cZ cS iM h0 ad u) H → va_D A (wM cB cI cJ cZ cS iM h0 ad u) → va_S A s.heap H locs → ∀ (ls : Array Slot), lv_has ls 7 [(0, .ref h0), (1, .int v1), (2, .int v2), (3, .int v3), (4, .int v4)] → W p l e R s m args below meth c H locs 0 0 (MQ below (mQi D cl cB cI cJ cZ cS iM h0 ad A x) args s 0 0 A) (F0 m 39 ls []))
  | 0 => (fun u v1 v2 v3 v4 x hf => by cases hf)
  | n + 1 => wb_M_guardCode_39 C0 hR N S hSg (gg_M_guardCode N S n) (wg_M_guardCode C0 hR N S hSg n)
def fm_M_guardCode (N : Nat) (S : SG_M_behind) (u : MS) : Option (MS × Int32) := fb_M_guardCode_0 N S (gg_M_guardCode N S N) u
set_option maxRecDepth 100000 in
set_option maxHeartbeats 4000000 in
theorem cs_M_guardCode (N : Nat) {d : Nat} {l : Launch} {D : va_G} {cl : List vw_C} {cB cI cJ cZ cS : ClassId} {iM h0 : Nat} {ad : Nat → Nat} {u : MS} {sz : Nat} {x : MS × Int32} (hM : cl[iM]? = some (R_M, F_M, 171)) (S : SG_M_behind) (hSg : HS_M_behind l D cl cB cI cJ cZ cS iM h0 ad (rg_M_behind d) S) (hf : fm_M_guardCode N S u = some x) : Met l y_M_guardCode (wd_ws y_M_guardCode b_M_guardCode 7 (some .int)) (rg_M_behind (d + 1)) (mPc D cl cB cI cJ cZ cS iM h0 ad u sz [.ref h0]) (mQi D cl cB cI cJ cZ cS iM h0 ad (mA cB cI cJ cZ cS iM h0 ad u sz) x) 0 0 (mA cB cI cJ cZ cS iM h0 ad u sz) :=
  mMet (by decide) rfl hM (Nat.le_of_ble_eq_true rfl) (fun p e s m below meth c ls hsz C0 hP hD hS hl => by
    have hR : (rg_M_behind (d + 1)) = (rg_M_behind (d + 1)) := rfl
    exact wb_M_guardCode_0 C0 hR N S hSg (gg_M_guardCode N S N) (wg_M_guardCode C0 hR N S hSg N) u x hf s.heap [] hP hD hS ls (lv_sub hl [0] rfl))
theorem rm_M_guard_M_takeWord {R : Room} {d : Nat} (hR : R = rg_M_behind (d + 1)) : (rm_M_takeWord).frames + 1 ≤ R.frames ∧ 8 + (2 + 11) + (rm_M_takeWord).locals ≤ R.locals := by
  subst hR
  have h1 : (rm_M_takeWord).frames = 1 := rfl
  have h2 : (rm_M_takeWord).locals = 21 := rfl
  show (rm_M_takeWord).frames + 1 ≤ 94 + (d + 1) ∧ 8 + (2 + 11) + (rm_M_takeWord).locals ≤ 2494 + 29 * (d + 1)
  omega
theorem rm_M_guard_M_guardCode {R : Room} {d : Nat} (hR : R = rg_M_behind (d + 1)) : (rg_M_behind d).frames + 1 ≤ R.frames ∧ 8 + (7 + 11) + (rg_M_behind d).locals ≤ R.locals := by
  subst hR
  show 94 + d + 1 ≤ 94 + (d + 1) ∧ 8 + (7 + 11) + (2494 + 29 * d) ≤ 2494 + 29 * (d + 1)
  omega
def fb_M_guard_0 (N : Nat) (S : SG_M_behind) (G : Unit) (u : MS) : Option (MS × Int32) := bnd (fm_M_takeWord N u 14) (fun u1 r1 => br (decide (r1 = 0)) (some (u1, (-1))) (bnd (S.2.2.2.2.2.2.2.2.2.2.2.2.2.2.1 u1) (fun u2 r2 => some (u2, r2))))
set_option maxRecDepth 100000 in
set_option maxHeartbeats 4000000 in
theorem wb_M_guard_0 {p : Program} {l : Launch} {e : Env} {R : Room} {s : State} {m : MethodId} {args : Array Value} {below : List Frame} {meth : Method} {c : Code} {D : va_G} {cl : List vw_C} {cB cI cJ cZ cS : ClassId} {A : Nat → Prop} {iM h0 : Nat} {ad : Nat → Nat} (C0 : MCx p s m args meth c b_M_guard 1 (some .int) D cl cB cI cJ cZ cS iM A) {d : Nat} (hR : R = rg_M_behind (d + 1)) (N : Nat) (S : SG_M_behind) (hSg : HS_M_behind l D cl cB cI cJ cZ cS iM h0 ad (rg_M_behind d) S) (G : Unit) (hG : True) : ∀ (u : MS) (x : MS × Int32), fb_M_guard_0 N S G u = some x → ∀ (H : Heap) (locs : List Loc), va_P D cl (wM cB cI cJ cZ cS iM h0 ad u) H → va_D A (wM cB cI cJ cZ cS iM h0 ad u) → va_S A s.heap H locs → ∀ (ls : Array Slot), lv_has ls 1 [(0, .ref h0)] → W p l e R s m args below meth c H locs 0 0 (MQ below (mQi D cl cB cI cJ cZ cS iM h0 ad A x) args s 0 0 A) (F0 m 0 ls []) := by
  intro u x hf H locs hP hD hS ls hl
  obtain ⟨hx, hb, hr, hml, ht, hown, hM, hK, hA, hlocks⟩ := id C0
  unfold fb_M_guard_0 at hf
  refine lv_aload_n hx hb d_M_guard_0 rfl (lv_at hl 0 rfl) ?_
  refine lv_bipush (v := 14) hx hb d_M_guard_1 (by decide) ?_
  obtain ⟨u1, r1, hc1, hf⟩ := bnd_some hf
  refine mV_i (As := [.int 14]) (rest := []) C0 hP hD hS (c_M_takeWord N hM hc1) k_M_takeWord hl_M_takeWord hi_M_takeWord hs_M_takeWord hini_M rfl rfl hd_M_takeWord rfl (rm_M_guard_M_takeWord hR) hl.1 (Nat.le_of_ble_eq_true rfl) d_M_guard_3 rfl ⟨Nat.zero_le _, Nat.zero_le _⟩ (fun H locs hP hD hS => ?_)
  refine lv_if_ne (tgt := 11) hx hb d_M_guard_6 (by decide) (fun hc => ?_) (fun hc => ?_)
  · rw [br_n _ hc] at hf
    refine lv_aload_n hx hb d_M_guard_11 rfl (lv_at hl 0 rfl) ?_
    obtain ⟨u2, r2, hc2, hf⟩ := bnd_some hf
    refine mV_i (As := []) (rest := []) C0 hP hD hS (hSg.2.2.2.2.2.2.2.2.2.2.2.2.2.2.1 _ _ _ hc2) k_M_guardCode hl_M_guardCode hi_M_guardCode hs_M_guardCode hini_M rfl rfl hd_M_guardCode rfl (rm_M_guard_M_guardCode hR) hl.1 (Nat.le_of_ble_eq_true rfl) d_M_guard_12 rfl ⟨Nat.zero_le _, Nat.zero_le _⟩ (fun H locs hP hD hS => ?_)
    exact mr_i C0 hP hD hS hf d_M_guard_15
  · rw [br_p _ hc] at hf
    refine lv_iconst (v := (-1)) hx hb d_M_guard_9 (by decide) ?_
    exact mr_i C0 hP hD hS hf d_M_guard_10
def fm_M_guard (N : Nat) (S : SG_M_behind) (u : MS) : Option (MS × Int32) := fb_M_guard_0 N S () u
set_option maxRecDepth 100000 in
set_option maxHeartbeats 4000000 in
theorem cs_M_guard (N : Nat) {d : Nat} {l : Launch} {D : va_G} {cl : List vw_C} {cB cI cJ cZ cS : ClassId} {iM h0 : Nat} {ad : Nat → Nat} {u : MS} {sz : Nat} {x : MS × Int32} (hM : cl[iM]? = some (R_M, F_M, 171)) (S : SG_M_behind) (hSg : HS_M_behind l D cl cB cI cJ cZ cS iM h0 ad (rg_M_behind d) S) (hf : fm_M_guard N S u = some x) : Met l y_M_guard (wd_ws y_M_guard b_M_guard 1 (some .int)) (rg_M_behind (d + 1)) (mPc D cl cB cI cJ cZ cS iM h0 ad u sz [.ref h0]) (mQi D cl cB cI cJ cZ cS iM h0 ad (mA cB cI cJ cZ cS iM h0 ad u sz) x) 0 0 (mA cB cI cJ cZ cS iM h0 ad u sz) :=
  mMet (by decide) rfl hM (Nat.le_of_ble_eq_true rfl) (fun p e s m below meth c ls hsz C0 hP hD hS hl => by
    have hR : (rg_M_behind (d + 1)) = (rg_M_behind (d + 1)) := rfl
    exact wb_M_guard_0 C0 hR N S hSg () trivial u x hf s.heap [] hP hD hS ls (lv_sub hl [0] rfl))
theorem rm_M_clause_M_needSign {R : Room} {d : Nat} (hR : R = rg_M_behind (d + 1)) : (rm_M_needSign).frames + 1 ≤ R.frames ∧ 8 + (2 + 11) + (rm_M_needSign).locals ≤ R.locals := by
  subst hR
  have h1 : (rm_M_needSign).frames = 2 := rfl
  have h2 : (rm_M_needSign).locals = 42 := rfl
  show (rm_M_needSign).frames + 1 ≤ 94 + (d + 1) ∧ 8 + (2 + 11) + (rm_M_needSign).locals ≤ 2494 + 29 * (d + 1)
  omega
theorem rm_M_clause_M_isSign {R : Room} {d : Nat} (hR : R = rg_M_behind (d + 1)) : (rm_M_isSign).frames + 1 ≤ R.frames ∧ 8 + (2 + 11) + (rm_M_isSign).locals ≤ R.locals := by
  subst hR
  have h1 : (rm_M_isSign).frames = 0 := rfl
  have h2 : (rm_M_isSign).locals = 0 := rfl
  show (rm_M_isSign).frames + 1 ≤ 94 + (d + 1) ∧ 8 + (2 + 11) + (rm_M_isSign).locals ≤ 2494 + 29 * (d + 1)
  omega
theorem rm_M_clause_M_wrong {R : Room} {d : Nat} (hR : R = rg_M_behind (d + 1)) : (rm_M_wrong).frames + 1 ≤ R.frames ∧ 8 + (2 + 11) + (rm_M_wrong).locals ≤ R.locals := by
  subst hR
  have h1 : (rm_M_wrong).frames = 0 := rfl
  have h2 : (rm_M_wrong).locals = 0 := rfl
  show (rm_M_wrong).frames + 1 ≤ 94 + (d + 1) ∧ 8 + (2 + 11) + (rm_M_wrong).locals ≤ 2494 + 29 * (d + 1)
  omega
theorem rm_M_clause_M_patternAt {R : Room} {d : Nat} (hR : R = rg_M_behind (d + 1)) : (rm_M_patternAt).frames + 1 ≤ R.frames ∧ 8 + (5 + 11) + (rm_M_patternAt).locals ≤ R.locals := by
  subst hR
  have h1 : (rm_M_patternAt).frames = 93 := rfl
  have h2 : (rm_M_patternAt).locals = 2470 := rfl
  show (rm_M_patternAt).frames + 1 ≤ 94 + (d + 1) ∧ 8 + (5 + 11) + (rm_M_patternAt).locals ≤ 2494 + 29 * (d + 1)
  omega
theorem rm_M_clause_M_takeSign {R : Room} {d : Nat} (hR : R = rg_M_behind (d + 1)) : (rm_M_takeSign).frames + 1 ≤ R.frames ∧ 8 + (2 + 11) + (rm_M_takeSign).locals ≤ R.locals := by
  subst hR
  have h1 : (rm_M_takeSign).frames = 1 := rfl
  have h2 : (rm_M_takeSign).locals = 21 := rfl
  show (rm_M_takeSign).frames + 1 ≤ 94 + (d + 1) ∧ 8 + (2 + 11) + (rm_M_takeSign).locals ≤ 2494 + 29 * (d + 1)
  omega
theorem rm_M_clause_M_node {R : Room} {d : Nat} (hR : R = rg_M_behind (d + 1)) : (rm_M_node).frames + 1 ≤ R.frames ∧ 8 + (3 + 11) + (rm_M_node).locals ≤ R.locals := by
  subst hR
  have h1 : (rm_M_node).frames = 0 := rfl
  have h2 : (rm_M_node).locals = 0 := rfl
  show (rm_M_node).frames + 1 ≤ 94 + (d + 1) ∧ 8 + (3 + 11) + (rm_M_node).locals ≤ 2494 + 29 * (d + 1)
  omega
theorem rm_M_clause_M_last {R : Room} {d : Nat} (hR : R = rg_M_behind (d + 1)) : (rm_M_last).frames + 1 ≤ R.frames ∧ 8 + (3 + 11) + (rm_M_last).locals ≤ R.locals := by
  subst hR
  have h1 : (rm_M_last).frames = 60 := rfl
  have h2 : (rm_M_last).locals = 1320 := rfl
  show (rm_M_last).frames + 1 ≤ 94 + (d + 1) ∧ 8 + (3 + 11) + (rm_M_last).locals ≤ 2494 + 29 * (d + 1)
  omega
theorem rm_M_clause_M_guard {R : Room} {d : Nat} (hR : R = rg_M_behind (d + 1)) : (rg_M_behind d).frames + 1 ≤ R.frames ∧ 8 + (1 + 11) + (rg_M_behind d).locals ≤ R.locals := by
  subst hR
  show 94 + d + 1 ≤ 94 + (d + 1) ∧ 8 + (1 + 11) + (2494 + 29 * d) ≤ 2494 + 29 * (d + 1)
  omega
theorem rm_M_clause_M_body {R : Room} {d : Nat} (hR : R = rg_M_behind (d + 1)) : (rg_M_behind d).frames + 1 ≤ R.frames ∧ 8 + (3 + 11) + (rg_M_behind d).locals ≤ R.locals := by
  subst hR
  show 94 + d + 1 ≤ 94 + (d + 1) ∧ 8 + (3 + 11) + (2494 + 29 * d) ≤ 2494 + 29 * (d + 1)
  omega
def fb_M_clause_183 (N : Nat) (S : SG_M_behind) (G : (MS → Int32 → Int32 → Int32 → Option (MS × Int32))) (u : MS) (v2 : Int32) : Option (MS × Int32) := bnd (fm_M_needSign N u 1) (fun u1 _ => bnd (S.2.2.2.2.2.2.2.2.2.2.2.2.2.2.2.1 u1) (fun u2 r2 => ck (inb v2 (ln 42)) (lt (upA u2 42 (upd (u2.2.2.1 42) v2.toNatClampNeg r2)) (fun w3 => bnd (fm_M_needSign N w3 10) (fun u4 _ => ck (inb v2 (ln 43)) (lt (upA u4 43 (upd (u4.2.2.1 43) v2.toNatClampNeg (u4.1 32))) (fun w5 => bnd (S.2.2.2.2.1 w5) (fun u6 r6 => bnd (fm_M_node N u6 29 (u6.1 69)) (fun u7 r7 => bnd (fr_M_last N u7 r6) (fun u8 _ => some (u8, v2)))))))))))
set_option maxRecDepth 100000 in
set_option maxHeartbeats 4000000 in
theorem wb_M_clause_183 {p : Program} {l : Launch} {e : Env} {R : Room} {s : State} {m : MethodId} {args : Array Value} {below : List Frame} {meth : Method} {c : Code} {D : va_G} {cl : List vw_C} {cB cI cJ cZ cS : ClassId} {A : Nat → Prop} {iM h0 : Nat} {ad : Nat → Nat} (C0 : MCx p s m args meth c b_M_clause 6 (some .int) D cl cB cI cJ cZ cS iM A) {d : Nat} (hR : R = rg_M_behind (d + 1)) (N : Nat) (S : SG_M_behind) (hSg : HS_M_behind l D cl cB cI cJ cZ cS iM h0 ad (rg_M_behind d) S) (G : (MS → Int32 → Int32 → Int32 → Option (MS × Int32))) (hG : (∀ (u : MS) (v2 : Int32) (v3 : Int32) (v4 : Int32) (x : MS × Int32), G u v2 v3 v4 = some x → ∀ (H : Heap) (locs : List Loc), va_P D cl (wM cB cI cJ cZ cS iM h0 ad u) H → va_D A (wM cB cI cJ cZ cS iM h0 ad u) → va_S A s.heap H locs → ∀ (ls : Array Slot), lv_has ls 6 [(0, .ref h0), (2, .int v2), (3, .int v3), (4, .int v4)] → W p l e R s m args below meth c H locs 0 0 (MQ below (mQi D cl cB cI cJ cZ cS iM h0 ad A x) args s 0 0 A) (F0 m 75 ls []))) : ∀ (u : MS) (v2 : Int32) (x : MS × Int32), fb_M_clause_183 N S G u v2 = some x → ∀ (H : Heap) (locs : List Loc), va_P D cl (wM cB cI cJ cZ cS iM h0 ad u) H → va_D A (wM cB cI cJ cZ cS iM h0 ad u) → va_S A s.heap H locs → ∀ (ls : Array Slot), lv_has ls 6 [(0, .ref h0), (2, .int v2)] → W p l e R s m args below meth c H locs 0 0 (MQ below (mQi D cl cB cI cJ cZ cS iM h0 ad A x) args s 0 0 A) (F0 m 183 ls []) := by
  intro u v2 x hf H locs hP hD hS ls hl
  obtain ⟨hx, hb, hr, hml, ht, hown, hM, hK, hA, hlocks⟩ := id C0
  unfold fb_M_clause_183 at hf
  refine lv_aload_n hx hb d_M_clause_183 rfl (lv_at hl 0 rfl) ?_
  refine lv_iconst (v := 1) hx hb d_M_clause_184 (by decide) ?_
  obtain ⟨u1, r1, hc1, hf⟩ := bnd_some hf
  refine mV_v (As := [.int 1]) (rest := []) C0 hP hD hS (c_M_needSign N hM hc1) k_M_needSign hl_M_needSign hi_M_needSign hs_M_needSign hini_M rfl rfl hd_M_needSign rfl (rm_M_clause_M_needSign hR) hl.1 (Nat.le_of_ble_eq_true rfl) d_M_clause_185 rfl ⟨Nat.zero_le _, Nat.zero_le _⟩ (fun H locs hP hD hS => ?_)
  refine lv_aload_n hx hb d_M_clause_188 rfl (lv_at hl 0 rfl) ?_
  refine ug_R hx hb ht hown hM hK hP 42 (by decide) lk_M_42 (by decide) d_M_clause_189 ?_
  refine lv_iload_n hx hb d_M_clause_192 rfl (lv_at hl 1 rfl) ?_
  refine lv_aload_n hx hb d_M_clause_193 rfl (lv_at hl 0 rfl) ?_
  obtain ⟨u2, r2, hc2, hf⟩ := bnd_some hf
  refine mV_i (As := []) (rest := [.int v2, .ref (ad 42)]) C0 hP hD hS (hSg.2.2.2.2.2.2.2.2.2.2.2.2.2.2.2.1 _ _ _ hc2) k_M_guard hl_M_guard hi_M_guard hs_M_guard hini_M rfl rfl hd_M_guard rfl (rm_M_clause_M_guard hR) hl.1 (Nat.le_of_ble_eq_true rfl) d_M_clause_194 rfl ⟨Nat.zero_le _, Nat.zero_le _⟩ (fun H locs hP hD hS => ?_)
  obtain ⟨hi9, hf⟩ := ck_some hf
  refine us_I hx hb hK hP hD hS (by decide) (by decide) hi9 d_M_clause_197 (fun H locs hP hD hS => ?_)
  obtain ⟨w3, e3, hf⟩ := lt_some hf
  rw [← e3] at hP hD
  refine lv_aload_n hx hb d_M_clause_198 rfl (lv_at hl 0 rfl) ?_
  refine lv_bipush (v := 10) hx hb d_M_clause_199 (by decide) ?_
  obtain ⟨u4, r4, hc4, hf⟩ := bnd_some hf
  refine mV_v (As := [.int 10]) (rest := []) C0 hP hD hS (c_M_needSign N hM hc4) k_M_needSign hl_M_needSign hi_M_needSign hs_M_needSign hini_M rfl rfl hd_M_needSign rfl (rm_M_clause_M_needSign hR) hl.1 (Nat.le_of_ble_eq_true rfl) d_M_clause_201 rfl ⟨Nat.zero_le _, Nat.zero_le _⟩ (fun H locs hP hD hS => ?_)
  refine lv_aload_n hx hb d_M_clause_204 rfl (lv_at hl 0 rfl) ?_
  refine ug_R hx hb ht hown hM hK hP 43 (by decide) lk_M_43 (by decide) d_M_clause_205 ?_
  refine lv_iload_n hx hb d_M_clause_208 rfl (lv_at hl 1 rfl) ?_
  refine lv_aload_n hx hb d_M_clause_209 rfl (lv_at hl 0 rfl) ?_
  refine ug_I hx hb ht hown hM hK hP 32 (by decide) lk_M_32 (by decide) d_M_clause_210 ?_
  obtain ⟨hi9, hf⟩ := ck_some hf
  refine us_I hx hb hK hP hD hS (by decide) (by decide) hi9 d_M_clause_213 (fun H locs hP hD hS => ?_)
  obtain ⟨w5, e5, hf⟩ := lt_some hf
  rw [← e5] at hP hD
  refine lv_aload_n hx hb d_M_clause_214 rfl (lv_at hl 0 rfl) ?_
  obtain ⟨u6, r6, hc6, hf⟩ := bnd_some hf
  refine mV_i (As := []) (rest := []) C0 hP hD hS (hSg.2.2.2.2.1 _ _ _ hc6) k_M_body hl_M_body hi_M_body hs_M_body hini_M rfl rfl hd_M_body rfl (rm_M_clause_M_body hR) hl.1 (Nat.le_of_ble_eq_true rfl) d_M_clause_215 rfl ⟨Nat.zero_le _, Nat.zero_le _⟩ (fun H locs hP hD hS => ?_)
  refine lv_istore (lv' := [(4, .int r6), (0, .ref h0), (2, .int v2)]) hx hb d_M_clause_218 hl (by decide) rfl (fun ls hl => ?_)
  refine lv_aload_n hx hb d_M_clause_220 rfl (lv_at hl 1 rfl) ?_
  refine lv_bipush (v := 29) hx hb d_M_clause_221 (by decide) ?_
  refine lv_aload_n hx hb d_M_clause_223 rfl (lv_at hl 1 rfl) ?_
  refine ug_I hx hb ht hown hM hK hP 69 (by decide) lk_M_69 (by decide) d_M_clause_224 ?_
  obtain ⟨u7, r7, hc7, hf⟩ := bnd_some hf
  refine mV_i (As := [.int 29, .int (u6.1 69)]) (rest := []) C0 hP hD hS (c_M_node N hM hc7) k_M_node hl_M_node hi_M_node hs_M_node hini_M rfl rfl hd_M_node rfl (rm_M_clause_M_node hR) hl.1 (Nat.le_of_ble_eq_true rfl) d_M_clause_227 rfl ⟨Nat.zero_le _, Nat.zero_le _⟩ (fun H locs hP hD hS => ?_)
  refine lv_istore (lv' := [(5, .int r7), (4, .int r6), (0, .ref h0), (2, .int v2)]) hx hb d_M_clause_230 hl (by decide) rfl (fun ls hl => ?_)
  refine lv_aload_n hx hb d_M_clause_232 rfl (lv_at hl 2 rfl) ?_
  refine lv_iload hx hb d_M_clause_233 (lv_at hl 1 rfl) ?_
  obtain ⟨u8, r8, hc8, hf⟩ := bnd_some hf
  refine mV_v (As := [.int r6]) (rest := []) C0 hP hD hS (c_M_last N hM hc8) k_M_last hl_M_last hi_M_last hs_M_last hini_M rfl rfl hd_M_last rfl (rm_M_clause_M_last hR) hl.1 (Nat.le_of_ble_eq_true rfl) d_M_clause_235 rfl ⟨Nat.zero_le _, Nat.zero_le _⟩ (fun H locs hP hD hS => ?_)
  refine lv_iload_n hx hb d_M_clause_238 rfl (lv_at hl 3 rfl) ?_
  exact mr_i C0 hP hD hS hf d_M_clause_239
def fb_M_clause_172 (N : Nat) (S : SG_M_behind) (G : (MS → Int32 → Int32 → Int32 → Option (MS × Int32))) (u : MS) (v2 : Int32) (v3 : Int32) : Option (MS × Int32) := bnd (fm_M_takeSign N u 6) (fun u9 r9 => G u9 (v2) (v3) (r9))
set_option maxRecDepth 100000 in
set_option maxHeartbeats 4000000 in
theorem wb_M_clause_172 {p : Program} {l : Launch} {e : Env} {R : Room} {s : State} {m : MethodId} {args : Array Value} {below : List Frame} {meth : Method} {c : Code} {D : va_G} {cl : List vw_C} {cB cI cJ cZ cS : ClassId} {A : Nat → Prop} {iM h0 : Nat} {ad : Nat → Nat} (C0 : MCx p s m args meth c b_M_clause 6 (some .int) D cl cB cI cJ cZ cS iM A) {d : Nat} (hR : R = rg_M_behind (d + 1)) (N : Nat) (S : SG_M_behind) (hSg : HS_M_behind l D cl cB cI cJ cZ cS iM h0 ad (rg_M_behind d) S) (G : (MS → Int32 → Int32 → Int32 → Option (MS × Int32))) (hG : (∀ (u : MS) (v2 : Int32) (v3 : Int32) (v4 : Int32) (x : MS × Int32), G u v2 v3 v4 = some x → ∀ (H : Heap) (locs : List Loc), va_P D cl (wM cB cI cJ cZ cS iM h0 ad u) H → va_D A (wM cB cI cJ cZ cS iM h0 ad u) → va_S A s.heap H locs → ∀ (ls : Array Slot), lv_has ls 6 [(0, .ref h0), (2, .int v2), (3, .int v3), (4, .int v4)] → W p l e R s m args below meth c H locs 0 0 (MQ below (mQi D cl cB cI cJ cZ cS iM h0 ad A x) args s 0 0 A) (F0 m 75 ls []))) : ∀ (u : MS) (v2 : Int32) (v3 : Int32) (x : MS × Int32), fb_M_clause_172 N S G u v2 v3 = some x → ∀ (H : Heap) (locs : List Loc), va_P D cl (wM cB cI cJ cZ cS iM h0 ad u) H → va_D A (wM cB cI cJ cZ cS iM h0 ad u) → va_S A s.heap H locs → ∀ (ls : Array Slot), lv_has ls 6 [(0, .ref h0), (2, .int v2), (3, .int v3)] → W p l e R s m args below meth c H locs 0 0 (MQ below (mQi D cl cB cI cJ cZ cS iM h0 ad A x) args s 0 0 A) (F0 m 172 ls []) := by
  intro u v2 v3 x hf H locs hP hD hS ls hl
  obtain ⟨hx, hb, hr, hml, ht, hown, hM, hK, hA, hlocks⟩ := id C0
  unfold fb_M_clause_172 at hf
  refine lv_aload_n hx hb d_M_clause_172 rfl (lv_at hl 0 rfl) ?_
  refine lv_bipush (v := 6) hx hb d_M_clause_173 (by decide) ?_
  obtain ⟨u9, r9, hc9, hf⟩ := bnd_some hf
  refine mV_i (As := [.int 6]) (rest := []) C0 hP hD hS (c_M_takeSign N hM hc9) k_M_takeSign hl_M_takeSign hi_M_takeSign hs_M_takeSign hini_M rfl rfl hd_M_takeSign rfl (rm_M_clause_M_takeSign hR) hl.1 (Nat.le_of_ble_eq_true rfl) d_M_clause_175 rfl ⟨Nat.zero_le _, Nat.zero_le _⟩ (fun H locs hP hD hS => ?_)
  refine lv_istore (lv' := [(4, .int r9), (0, .ref h0), (2, .int v2), (3, .int v3)]) hx hb d_M_clause_178 hl (by decide) rfl (fun ls hl => ?_)
  refine lv_goto (tgt := 75) hx hb d_M_clause_180 (by decide) ?_
  exact hG _ _ _ _ _ hf H locs hP hD hS ls (lv_sub hl [1, 2, 3, 0] rfl)
def fb_M_clause_134 (N : Nat) (S : SG_M_behind) (G : (MS → Int32 → Int32 → Int32 → Option (MS × Int32))) (u : MS) (v2 : Int32) (v5 : Int32) : Option (MS × Int32) := ck (inb v2 (ln 41)) (ck (inb v2 (ln 41)) (lt (upA u 41 (upd (u.2.2.1 41) v2.toNatClampNeg ((u.2.2.1 41 v2.toNatClampNeg) + 1))) (fun w10 => ck (inb v2 (ln 41)) (br (decide ((w10.2.2.1 41 v2.toNatClampNeg) = 6)) (bnd (fm_M_isSign N w10 6) (fun u11 r11 => br (decide (r11 = 0)) (fb_M_clause_172 N S G u11 (v2) (v5)) (bnd (fm_M_wrong N u11 2) (fun u12 _ => fb_M_clause_172 N S G u12 (v2) (v5))))) (fb_M_clause_172 N S G w10 (v2) (v5))))))
set_option maxRecDepth 100000 in
set_option maxHeartbeats 4000000 in
theorem wb_M_clause_134 {p : Program} {l : Launch} {e : Env} {R : Room} {s : State} {m : MethodId} {args : Array Value} {below : List Frame} {meth : Method} {c : Code} {D : va_G} {cl : List vw_C} {cB cI cJ cZ cS : ClassId} {A : Nat → Prop} {iM h0 : Nat} {ad : Nat → Nat} (C0 : MCx p s m args meth c b_M_clause 6 (some .int) D cl cB cI cJ cZ cS iM A) {d : Nat} (hR : R = rg_M_behind (d + 1)) (N : Nat) (S : SG_M_behind) (hSg : HS_M_behind l D cl cB cI cJ cZ cS iM h0 ad (rg_M_behind d) S) (G : (MS → Int32 → Int32 → Int32 → Option (MS × Int32))) (hG : (∀ (u : MS) (v2 : Int32) (v3 : Int32) (v4 : Int32) (x : MS × Int32), G u v2 v3 v4 = some x → ∀ (H : Heap) (locs : List Loc), va_P D cl (wM cB cI cJ cZ cS iM h0 ad u) H → va_D A (wM cB cI cJ cZ cS iM h0 ad u) → va_S A s.heap H locs → ∀ (ls : Array Slot), lv_has ls 6 [(0, .ref h0), (2, .int v2), (3, .int v3), (4, .int v4)] → W p l e R s m args below meth c H locs 0 0 (MQ below (mQi D cl cB cI cJ cZ cS iM h0 ad A x) args s 0 0 A) (F0 m 75 ls []))) : ∀ (u : MS) (v2 : Int32) (v5 : Int32) (x : MS × Int32), fb_M_clause_134 N S G u v2 v5 = some x → ∀ (H : Heap) (locs : List Loc), va_P D cl (wM cB cI cJ cZ cS iM h0 ad u) H → va_D A (wM cB cI cJ cZ cS iM h0 ad u) → va_S A s.heap H locs → ∀ (ls : Array Slot), lv_has ls 6 [(0, .ref h0), (2, .int v2), (5, .int v5)] → W p l e R s m args below meth c H locs 0 0 (MQ below (mQi D cl cB cI cJ cZ cS iM h0 ad A x) args s 0 0 A) (F0 m 134 ls []) := by
  intro u v2 v5 x hf H locs hP hD hS ls hl
  obtain ⟨hx, hb, hr, hml, ht, hown, hM, hK, hA, hlocks⟩ := id C0
  unfold fb_M_clause_134 at hf
  refine lv_iload hx hb d_M_clause_134 (lv_at hl 2 rfl) ?_
  refine lv_istore_n (lv' := [(3, .int v5), (0, .ref h0), (2, .int v2), (5, .int v5)]) hx hb d_M_clause_136 rfl hl (by decide) rfl (fun ls hl => ?_)
  refine lv_aload_n hx hb d_M_clause_137 rfl (lv_at hl 1 rfl) ?_
  refine ug_R hx hb ht hown hM hK hP 41 (by decide) lk_M_41 (by decide) d_M_clause_138 ?_
  refine lv_iload_n hx hb d_M_clause_141 rfl (lv_at hl 2 rfl) ?_
  refine lv_dup2_11 hx hb d_M_clause_142 rfl rfl ?_
  obtain ⟨hi9, hf⟩ := ck_some hf
  refine ul_I hx hb hK hP (by decide) (by decide) hi9 d_M_clause_143 ?_
  refine lv_iconst (v := 1) hx hb d_M_clause_144 (by decide) ?_
  refine lv_iadd hx hb d_M_clause_145 ?_
  obtain ⟨hi9, hf⟩ := ck_some hf
  refine us_I hx hb hK hP hD hS (by decide) (by decide) hi9 d_M_clause_146 (fun H locs hP hD hS => ?_)
  obtain ⟨w10, e10, hf⟩ := lt_some hf
  rw [← e10] at hP hD
  refine lv_aload_n hx hb d_M_clause_147 rfl (lv_at hl 1 rfl) ?_
  refine ug_R hx hb ht hown hM hK hP 41 (by decide) lk_M_41 (by decide) d_M_clause_148 ?_
  refine lv_iload_n hx hb d_M_clause_151 rfl (lv_at hl 2 rfl) ?_
  obtain ⟨hi9, hf⟩ := ck_some hf
  refine ul_I hx hb hK hP (by decide) (by decide) hi9 d_M_clause_152 ?_
  refine lv_bipush (v := 6) hx hb d_M_clause_153 (by decide) ?_
  refine lv_icmp_ne (tgt := 172) hx hb d_M_clause_155 (by decide) (fun hc => ?_) (fun hc => ?_)
  · rw [br_n _ hc] at hf
    exact wb_M_clause_172 C0 hR N S hSg G hG _ _ _ _ hf H locs hP hD hS ls (lv_sub hl [1, 2, 0] rfl)
  · rw [br_p _ hc] at hf
    refine lv_aload_n hx hb d_M_clause_158 rfl (lv_at hl 1 rfl) ?_
    refine lv_bipush (v := 6) hx hb d_M_clause_159 (by decide) ?_
    obtain ⟨u11, r11, hc11, hf⟩ := bnd_some hf
    refine mV_i (As := [.int 6]) (rest := []) C0 hP hD hS (c_M_isSign N hM hc11) k_M_isSign hl_M_isSign hi_M_isSign hs_M_isSign hini_M rfl rfl hd_M_isSign rfl (rm_M_clause_M_isSign hR) hl.1 (Nat.le_of_ble_eq_true rfl) d_M_clause_161 rfl ⟨Nat.zero_le _, Nat.zero_le _⟩ (fun H locs hP hD hS => ?_)
    refine lv_if_eq (tgt := 172) hx hb d_M_clause_164 (by decide) (fun hc => ?_) (fun hc => ?_)
    · rw [br_p _ hc] at hf
      exact wb_M_clause_172 C0 hR N S hSg G hG _ _ _ _ hf H locs hP hD hS ls (lv_sub hl [1, 2, 0] rfl)
    · rw [br_n _ hc] at hf
      refine lv_aload_n hx hb d_M_clause_167 rfl (lv_at hl 1 rfl) ?_
      refine lv_iconst (v := 2) hx hb d_M_clause_168 (by decide) ?_
      obtain ⟨u12, r12, hc12, hf⟩ := bnd_some hf
      refine mV_v (As := [.int 2]) (rest := []) C0 hP hD hS (c_M_wrong N hM hc12) k_M_wrong hl_M_wrong hi_M_wrong hs_M_wrong hini_M rfl rfl hd_M_wrong rfl (rm_M_clause_M_wrong hR) hl.1 (Nat.le_of_ble_eq_true rfl) d_M_clause_169 rfl ⟨Nat.zero_le _, Nat.zero_le _⟩ (fun H locs hP hD hS => ?_)
      exact wb_M_clause_172 C0 hR N S hSg G hG _ _ _ _ hf H locs hP hD hS ls (lv_sub hl [1, 2, 0] rfl)
def fb_M_clause_103 (N : Nat) (S : SG_M_behind) (G : (MS → Int32 → Int32 → Int32 → Option (MS × Int32))) (u : MS) (v2 : Int32) (v3 : Int32) : Option (MS × Int32) := bnd (fr_M_patternAt N u 1) (fun u13 r13 => br (decide (v3 = (-1))) (ck (inb v2 (ln 40)) (lt (upA u13 40 (upd (u13.2.2.1 40) v2.toNatClampNeg r13)) (fun w15 => fb_M_clause_134 N S G w15 (v2) (r13)))) (ck (inb v3 (ln 37)) (lt (upA u13 37 (upd (u13.2.2.1 37) v3.toNatClampNeg r13)) (fun w14 => fb_M_clause_134 N S G w14 (v2) (r13)))))
set_option maxRecDepth 100000 in
set_option maxHeartbeats 4000000 in
theorem wb_M_clause_103 {p : Program} {l : Launch} {e : Env} {R : Room} {s : State} {m : MethodId} {args : Array Value} {below : List Frame} {meth : Method} {c : Code} {D : va_G} {cl : List vw_C} {cB cI cJ cZ cS : ClassId} {A : Nat → Prop} {iM h0 : Nat} {ad : Nat → Nat} (C0 : MCx p s m args meth c b_M_clause 6 (some .int) D cl cB cI cJ cZ cS iM A) {d : Nat} (hR : R = rg_M_behind (d + 1)) (N : Nat) (S : SG_M_behind) (hSg : HS_M_behind l D cl cB cI cJ cZ cS iM h0 ad (rg_M_behind d) S) (G : (MS → Int32 → Int32 → Int32 → Option (MS × Int32))) (hG : (∀ (u : MS) (v2 : Int32) (v3 : Int32) (v4 : Int32) (x : MS × Int32), G u v2 v3 v4 = some x → ∀ (H : Heap) (locs : List Loc), va_P D cl (wM cB cI cJ cZ cS iM h0 ad u) H → va_D A (wM cB cI cJ cZ cS iM h0 ad u) → va_S A s.heap H locs → ∀ (ls : Array Slot), lv_has ls 6 [(0, .ref h0), (2, .int v2), (3, .int v3), (4, .int v4)] → W p l e R s m args below meth c H locs 0 0 (MQ below (mQi D cl cB cI cJ cZ cS iM h0 ad A x) args s 0 0 A) (F0 m 75 ls []))) : ∀ (u : MS) (v2 : Int32) (v3 : Int32) (x : MS × Int32), fb_M_clause_103 N S G u v2 v3 = some x → ∀ (H : Heap) (locs : List Loc), va_P D cl (wM cB cI cJ cZ cS iM h0 ad u) H → va_D A (wM cB cI cJ cZ cS iM h0 ad u) → va_S A s.heap H locs → ∀ (ls : Array Slot), lv_has ls 6 [(0, .ref h0), (2, .int v2), (3, .int v3)] → W p l e R s m args below meth c H locs 0 0 (MQ below (mQi D cl cB cI cJ cZ cS iM h0 ad A x) args s 0 0 A) (F0 m 103 ls []) := by
  intro u v2 v3 x hf H locs hP hD hS ls hl
  obtain ⟨hx, hb, hr, hml, ht, hown, hM, hK, hA, hlocks⟩ := id C0
  unfold fb_M_clause_103 at hf
  refine lv_aload_n hx hb d_M_clause_103 rfl (lv_at hl 0 rfl) ?_
  refine lv_iconst (v := 1) hx hb d_M_clause_104 (by decide) ?_
  obtain ⟨u13, r13, hc13, hf⟩ := bnd_some hf
  refine mV_i (As := [.int 1]) (rest := []) C0 hP hD hS (c_M_patternAt N hM hc13) k_M_patternAt hl_M_patternAt hi_M_patternAt hs_M_patternAt hini_M rfl rfl hd_M_patternAt rfl (rm_M_clause_M_patternAt hR) hl.1 (Nat.le_of_ble_eq_true rfl) d_M_clause_105 rfl ⟨Nat.zero_le _, Nat.zero_le _⟩ (fun H locs hP hD hS => ?_)
  refine lv_istore (lv' := [(5, .int r13), (0, .ref h0), (2, .int v2), (3, .int v3)]) hx hb d_M_clause_108 hl (by decide) rfl (fun ls hl => ?_)
  refine lv_iload_n hx hb d_M_clause_110 rfl (lv_at hl 3 rfl) ?_
  refine lv_iconst (v := (-1)) hx hb d_M_clause_111 (by decide) ?_
  refine lv_icmp_ne (tgt := 126) hx hb d_M_clause_112 (by decide) (fun hc => ?_) (fun hc => ?_)
  · rw [br_n _ hc] at hf
    refine lv_aload_n hx hb d_M_clause_126 rfl (lv_at hl 1 rfl) ?_
    refine ug_R hx hb ht hown hM hK hP 37 (by decide) lk_M_37 (by decide) d_M_clause_127 ?_
    refine lv_iload_n hx hb d_M_clause_130 rfl (lv_at hl 3 rfl) ?_
    refine lv_iload hx hb d_M_clause_131 (lv_at hl 0 rfl) ?_
    obtain ⟨hi9, hf⟩ := ck_some hf
    refine us_I hx hb hK hP hD hS (by decide) (by decide) hi9 d_M_clause_133 (fun H locs hP hD hS => ?_)
    obtain ⟨w14, e14, hf⟩ := lt_some hf
    rw [← e14] at hP hD
    exact wb_M_clause_134 C0 hR N S hSg G hG _ _ _ _ hf H locs hP hD hS ls (lv_sub hl [1, 2, 0] rfl)
  · rw [br_p _ hc] at hf
    refine lv_aload_n hx hb d_M_clause_115 rfl (lv_at hl 1 rfl) ?_
    refine ug_R hx hb ht hown hM hK hP 40 (by decide) lk_M_40 (by decide) d_M_clause_116 ?_
    refine lv_iload_n hx hb d_M_clause_119 rfl (lv_at hl 2 rfl) ?_
    refine lv_iload hx hb d_M_clause_120 (lv_at hl 0 rfl) ?_
    obtain ⟨hi9, hf⟩ := ck_some hf
    refine us_I hx hb hK hP hD hS (by decide) (by decide) hi9 d_M_clause_122 (fun H locs hP hD hS => ?_)
    obtain ⟨w15, e15, hf⟩ := lt_some hf
    rw [← e15] at hP hD
    refine lv_goto (tgt := 134) hx hb d_M_clause_123 (by decide) ?_
    exact wb_M_clause_134 C0 hR N S hSg G hG _ _ _ _ hf H locs hP hD hS ls (lv_sub hl [1, 2, 0] rfl)
def fb_M_clause_75 (N : Nat) (S : SG_M_behind) (G : (MS → Int32 → Int32 → Int32 → Option (MS × Int32))) (u : MS) (v2 : Int32) (v3 : Int32) (v4 : Int32) : Option (MS × Int32) := br (decide (v4 = 0)) (fb_M_clause_183 N S G u (v2)) (br (decide ((u.1 67) = 0)) (ck (inb v2 (ln 41)) (br (decide ((u.2.2.1 41 v2.toNatClampNeg) = 6)) (bnd (fm_M_wrong N u 2) (fun u16 _ => fb_M_clause_103 N S G u16 (v2) (v3))) (fb_M_clause_103 N S G u (v2) (v3)))) (fb_M_clause_183 N S G u (v2)))
set_option maxRecDepth 100000 in
set_option maxHeartbeats 4000000 in
theorem wb_M_clause_75 {p : Program} {l : Launch} {e : Env} {R : Room} {s : State} {m : MethodId} {args : Array Value} {below : List Frame} {meth : Method} {c : Code} {D : va_G} {cl : List vw_C} {cB cI cJ cZ cS : ClassId} {A : Nat → Prop} {iM h0 : Nat} {ad : Nat → Nat} (C0 : MCx p s m args meth c b_M_clause 6 (some .int) D cl cB cI cJ cZ cS iM A) {d : Nat} (hR : R = rg_M_behind (d + 1)) (N : Nat) (S : SG_M_behind) (hSg : HS_M_behind l D cl cB cI cJ cZ cS iM h0 ad (rg_M_behind d) S) (G : (MS → Int32 → Int32 → Int32 → Option (MS × Int32))) (hG : (∀ (u : MS) (v2 : Int32) (v3 : Int32) (v4 : Int32) (x : MS × Int32), G u v2 v3 v4 = some x → ∀ (H : Heap) (locs : List Loc), va_P D cl (wM cB cI cJ cZ cS iM h0 ad u) H → va_D A (wM cB cI cJ cZ cS iM h0 ad u) → va_S A s.heap H locs → ∀ (ls : Array Slot), lv_has ls 6 [(0, .ref h0), (2, .int v2), (3, .int v3), (4, .int v4)] → W p l e R s m args below meth c H locs 0 0 (MQ below (mQi D cl cB cI cJ cZ cS iM h0 ad A x) args s 0 0 A) (F0 m 75 ls []))) : ∀ (u : MS) (v2 : Int32) (v3 : Int32) (v4 : Int32) (x : MS × Int32), fb_M_clause_75 N S G u v2 v3 v4 = some x → ∀ (H : Heap) (locs : List Loc), va_P D cl (wM cB cI cJ cZ cS iM h0 ad u) H → va_D A (wM cB cI cJ cZ cS iM h0 ad u) → va_S A s.heap H locs → ∀ (ls : Array Slot), lv_has ls 6 [(0, .ref h0), (2, .int v2), (3, .int v3), (4, .int v4)] → W p l e R s m args below meth c H locs 0 0 (MQ below (mQi D cl cB cI cJ cZ cS iM h0 ad A x) args s 0 0 A) (F0 m 75 ls []) := by
  intro u v2 v3 v4 x hf H locs hP hD hS ls hl
  obtain ⟨hx, hb, hr, hml, ht, hown, hM, hK, hA, hlocks⟩ := id C0
  unfold fb_M_clause_75 at hf
  refine lv_iload hx hb d_M_clause_75 (lv_at hl 3 rfl) ?_
  refine lv_if_eq (tgt := 183) hx hb d_M_clause_77 (by decide) (fun hc => ?_) (fun hc => ?_)
  · rw [br_p _ hc] at hf
    exact wb_M_clause_183 C0 hR N S hSg G hG _ _ _ hf H locs hP hD hS ls (lv_sub hl [0, 1] rfl)
  · rw [br_n _ hc] at hf
    refine lv_aload_n hx hb d_M_clause_80 rfl (lv_at hl 0 rfl) ?_
    refine ug_I hx hb ht hown hM hK hP 67 (by decide) lk_M_67 (by decide) d_M_clause_81 ?_
    refine lv_if_ne (tgt := 183) hx hb d_M_clause_84 (by decide) (fun hc => ?_) (fun hc => ?_)
    · rw [br_n _ hc] at hf
      exact wb_M_clause_183 C0 hR N S hSg G hG _ _ _ hf H locs hP hD hS ls (lv_sub hl [0, 1] rfl)
    · rw [br_p _ hc] at hf
      refine lv_aload_n hx hb d_M_clause_87 rfl (lv_at hl 0 rfl) ?_
      refine ug_R hx hb ht hown hM hK hP 41 (by decide) lk_M_41 (by decide) d_M_clause_88 ?_
      refine lv_iload_n hx hb d_M_clause_91 rfl (lv_at hl 1 rfl) ?_
      obtain ⟨hi9, hf⟩ := ck_some hf
      refine ul_I hx hb hK hP (by decide) (by decide) hi9 d_M_clause_92 ?_
      refine lv_bipush (v := 6) hx hb d_M_clause_93 (by decide) ?_
      refine lv_icmp_ne (tgt := 103) hx hb d_M_clause_95 (by decide) (fun hc => ?_) (fun hc => ?_)
      · rw [br_n _ hc] at hf
        exact wb_M_clause_103 C0 hR N S hSg G hG _ _ _ _ hf H locs hP hD hS ls (lv_sub hl [0, 1, 2] rfl)
      · rw [br_p _ hc] at hf
        refine lv_aload_n hx hb d_M_clause_98 rfl (lv_at hl 0 rfl) ?_
        refine lv_iconst (v := 2) hx hb d_M_clause_99 (by decide) ?_
        obtain ⟨u16, r16, hc16, hf⟩ := bnd_some hf
        refine mV_v (As := [.int 2]) (rest := []) C0 hP hD hS (c_M_wrong N hM hc16) k_M_wrong hl_M_wrong hi_M_wrong hs_M_wrong hini_M rfl rfl hd_M_wrong rfl (rm_M_clause_M_wrong hR) hl.1 (Nat.le_of_ble_eq_true rfl) d_M_clause_100 rfl ⟨Nat.zero_le _, Nat.zero_le _⟩ (fun H locs hP hD hS => ?_)
        exact wb_M_clause_103 C0 hR N S hSg G hG _ _ _ _ hf H locs hP hD hS ls (lv_sub hl [0, 1, 2] rfl)
