def fb_M_nameRun_227 (N : Nat) (G : Unit) (u : MS) (t0 : Nat) (t1 : Int32) (t2 : Int32) : Option (MS × Unit) := ck (isK t0 4) (ck (inb t1 (ln t0)) (lt (upA u t0 (upd (u.2.2.1 t0) t1.toNatClampNeg t2)) (fun w1 => bnd (fm_M_truth N w1 1) (fun u2 r2 => bnd (fm_M_put N u2 r2) (fun u3 _ => fb_M_nameRun_236 N G u3)))))
set_option maxRecDepth 100000 in
set_option maxHeartbeats 4000000 in
theorem wb_M_nameRun_227 {p : Program} {l : Launch} {e : Env} {R : Room} {s : State} {m : MethodId} {args : Array Value} {below : List Frame} {meth : Method} {c : Code} {D : va_G} {cl : List vw_C} {cB cI cJ cZ cS : ClassId} {A : Nat → Prop} {iM h0 : Nat} {ad : Nat → Nat} (C0 : MCx p s m args meth c b_M_nameRun 8 none D cl cB cI cJ cZ cS iM A) (hR : R = rm_M_nameRun) (N : Nat) (G : Unit) (hG : True) : ∀ (u : MS) (t0 : Nat) (t1 : Int32) (t2 : Int32) (x : MS × Unit), fb_M_nameRun_227 N G u t0 t1 t2 = some x → ∀ (H : Heap) (locs : List Loc), va_P D cl (wM cB cI cJ cZ cS iM h0 ad u) H → va_D A (wM cB cI cJ cZ cS iM h0 ad u) → va_S A s.heap H locs → ∀ (ls : Array Slot), lv_has ls 8 [(0, .ref h0)] → W p l e R s m args below meth c H locs 0 0 (MQ below (mQv D cl cB cI cJ cZ cS iM h0 ad A x) args s 0 0 A) (F0 m 227 ls [.int t2, .int t1, .ref (ad t0)]) := by
  intro u t0 t1 t2 x hf H locs hP hD hS ls hl
  obtain ⟨hx, hb, hr, hml, ht, hown, hM, hK, hA, hlocks⟩ := id C0
  unfold fb_M_nameRun_227 at hf
  obtain ⟨hk9, hf⟩ := ck_some hf
  obtain ⟨hi9, hf⟩ := ck_some hf
  refine us_I hx hb hK hP hD hS (isK_1 hk9) (isK_2 hk9) hi9 d_M_nameRun_227 (fun H locs hP hD hS => ?_)
  obtain ⟨w1, e1, hf⟩ := lt_some hf
  rw [← e1] at hP hD
  refine lv_aload_n hx hb d_M_nameRun_228 rfl (lv_at hl 0 rfl) ?_
  refine lv_iconst (v := 1) hx hb d_M_nameRun_229 (by decide) ?_
  obtain ⟨u2, r2, hc2, hf⟩ := bnd_some hf
  refine mS_l (As := [.int 1]) (rest := [.ref h0]) C0 hP hD hS (c_M_truth N hM hc2) k_M_truth hl_M_truth ht_M_truth hini_M rfl rfl hd_M_truth rfl (rm_M_nameRun_M_truth hR) hl.1 (Nat.le_of_ble_eq_true rfl) d_M_nameRun_230 rfl ⟨Nat.zero_le _, Nat.zero_le _⟩ (fun H locs hP hD hS => ?_)
  obtain ⟨u3, r3, hc3, hf⟩ := bnd_some hf
  refine mV_v (As := [.long r2]) (rest := []) C0 hP hD hS (c_M_put N hM hc3) k_M_put hl_M_put hi_M_put hs_M_put hini_M rfl rfl hd_M_put rfl (rm_M_nameRun_M_put hR) hl.1 (Nat.le_of_ble_eq_true rfl) d_M_nameRun_233 rfl ⟨Nat.zero_le _, Nat.zero_le _⟩ (fun H locs hP hD hS => ?_)
  exact wb_M_nameRun_236 C0 hR N G hG _ _ hf H locs hP hD hS ls (lv_sub hl [] rfl)
def fb_M_nameRun_212 (N : Nat) (G : Unit) (u : MS) (v1 : Int32) (v4 : Int64) (t0 : Nat) (t1 : Int32) : Option (MS × Unit) := br (decide (v1 = 13)) (bnd (fm_M_valueOf N u v4) (fun u4 r4 => fb_M_nameRun_227 N G u4 (t0) (t1) (r4))) (fb_M_nameRun_227 N G u (t0) (t1) ((-1)))
set_option maxRecDepth 100000 in
set_option maxHeartbeats 4000000 in
theorem wb_M_nameRun_212 {p : Program} {l : Launch} {e : Env} {R : Room} {s : State} {m : MethodId} {args : Array Value} {below : List Frame} {meth : Method} {c : Code} {D : va_G} {cl : List vw_C} {cB cI cJ cZ cS : ClassId} {A : Nat → Prop} {iM h0 : Nat} {ad : Nat → Nat} (C0 : MCx p s m args meth c b_M_nameRun 8 none D cl cB cI cJ cZ cS iM A) (hR : R = rm_M_nameRun) (N : Nat) (G : Unit) (hG : True) : ∀ (u : MS) (v1 : Int32) (v4 : Int64) (t0 : Nat) (t1 : Int32) (x : MS × Unit), fb_M_nameRun_212 N G u v1 v4 t0 t1 = some x → ∀ (H : Heap) (locs : List Loc), va_P D cl (wM cB cI cJ cZ cS iM h0 ad u) H → va_D A (wM cB cI cJ cZ cS iM h0 ad u) → va_S A s.heap H locs → ∀ (ls : Array Slot), lv_has ls 8 [(0, .ref h0), (1, .int v1), (4, .long v4)] → W p l e R s m args below meth c H locs 0 0 (MQ below (mQv D cl cB cI cJ cZ cS iM h0 ad A x) args s 0 0 A) (F0 m 212 ls [.int t1, .ref (ad t0)]) := by
  intro u v1 v4 t0 t1 x hf H locs hP hD hS ls hl
  obtain ⟨hx, hb, hr, hml, ht, hown, hM, hK, hA, hlocks⟩ := id C0
  unfold fb_M_nameRun_212 at hf
  refine lv_iload_n hx hb d_M_nameRun_212 rfl (lv_at hl 1 rfl) ?_
  refine lv_bipush (v := 13) hx hb d_M_nameRun_213 (by decide) ?_
  refine lv_icmp_ne (tgt := 226) hx hb d_M_nameRun_215 (by decide) (fun hc => ?_) (fun hc => ?_)
  · rw [br_n _ hc] at hf
    refine lv_iconst (v := (-1)) hx hb d_M_nameRun_226 (by decide) ?_
    exact wb_M_nameRun_227 C0 hR N G hG _ _ _ _ _ hf H locs hP hD hS ls (lv_sub hl [0] rfl)
  · rw [br_p _ hc] at hf
    refine lv_lload hx hb d_M_nameRun_218 (lv_at hl 2 rfl) ?_
    obtain ⟨u4, r4, hc4, hf⟩ := bnd_some hf
    refine mS_i (As := [.long v4]) (rest := [.int t1, .ref (ad t0)]) C0 hP hD hS (c_M_valueOf N hM hc4) k_M_valueOf hl_M_valueOf ht_M_valueOf hini_M rfl rfl hd_M_valueOf rfl (rm_M_nameRun_M_valueOf hR) hl.1 (Nat.le_of_ble_eq_true rfl) d_M_nameRun_220 rfl ⟨Nat.zero_le _, Nat.zero_le _⟩ (fun H locs hP hD hS => ?_)
    refine lv_goto (tgt := 227) hx hb d_M_nameRun_223 (by decide) ?_
    exact wb_M_nameRun_227 C0 hR N G hG _ _ _ _ _ hf H locs hP hD hS ls (lv_sub hl [0] rfl)
def fb_M_nameRun_187 (N : Nat) (G : Unit) (u : MS) (t1 : Int64) : Option (MS × Unit) := bnd (fm_M_put N u t1) (fun u5 _ => fb_M_nameRun_236 N G u5)
set_option maxRecDepth 100000 in
set_option maxHeartbeats 4000000 in
theorem wb_M_nameRun_187 {p : Program} {l : Launch} {e : Env} {R : Room} {s : State} {m : MethodId} {args : Array Value} {below : List Frame} {meth : Method} {c : Code} {D : va_G} {cl : List vw_C} {cB cI cJ cZ cS : ClassId} {A : Nat → Prop} {iM h0 : Nat} {ad : Nat → Nat} (C0 : MCx p s m args meth c b_M_nameRun 8 none D cl cB cI cJ cZ cS iM A) (hR : R = rm_M_nameRun) (N : Nat) (G : Unit) (hG : True) : ∀ (u : MS) (t1 : Int64) (x : MS × Unit), fb_M_nameRun_187 N G u t1 = some x → ∀ (H : Heap) (locs : List Loc), va_P D cl (wM cB cI cJ cZ cS iM h0 ad u) H → va_D A (wM cB cI cJ cZ cS iM h0 ad u) → va_S A s.heap H locs → ∀ (ls : Array Slot), lv_has ls 8 [] → W p l e R s m args below meth c H locs 0 0 (MQ below (mQv D cl cB cI cJ cZ cS iM h0 ad A x) args s 0 0 A) (F0 m 187 ls [.long t1, .ref h0]) := by
  intro u t1 x hf H locs hP hD hS ls hl
  obtain ⟨hx, hb, hr, hml, ht, hown, hM, hK, hA, hlocks⟩ := id C0
  unfold fb_M_nameRun_187 at hf
  obtain ⟨u5, r5, hc5, hf⟩ := bnd_some hf
  refine mV_v (As := [.long t1]) (rest := []) C0 hP hD hS (c_M_put N hM hc5) k_M_put hl_M_put hi_M_put hs_M_put hini_M rfl rfl hd_M_put rfl (rm_M_nameRun_M_put hR) hl.1 (Nat.le_of_ble_eq_true rfl) d_M_nameRun_187 rfl ⟨Nat.zero_le _, Nat.zero_le _⟩ (fun H locs hP hD hS => ?_)
  refine lv_goto (tgt := 236) hx hb d_M_nameRun_190 (by decide) ?_
  exact wb_M_nameRun_236 C0 hR N G hG _ _ hf H locs hP hD hS ls (lv_sub hl [] rfl)
def fb_M_nameRun_146 (N : Nat) (G : Unit) (u : MS) (v1 : Int32) (v2 : Int64) (v4 : Int64) (v6 : Int32) (v7 : Int32) : Option (MS × Unit) := br (decide (v7 = 0)) (bnd (fr_M_error N u 11) (fun u9 _ => fb_M_nameRun_236 N G u9)) (br (decide (v1 = 15)) (br (decide (v6 = (-1))) (bnd (fm_M_term N u 1 3) (fun u8 r8 => fb_M_nameRun_187 N G u8 (r8))) (bnd (fm_M_term N u 4 v6) (fun u7 r7 => fb_M_nameRun_187 N G u7 (r7)))) (br (decide (v1 = 13)) (bnd (fm_M_valueOf N u v2) (fun u6 r6 => fb_M_nameRun_212 N G u6 (v1) (v4) (113) (r6))) (fb_M_nameRun_212 N G u (v1) (v4) (113) (v6))))
set_option maxRecDepth 100000 in
set_option maxHeartbeats 4000000 in
theorem wb_M_nameRun_146 {p : Program} {l : Launch} {e : Env} {R : Room} {s : State} {m : MethodId} {args : Array Value} {below : List Frame} {meth : Method} {c : Code} {D : va_G} {cl : List vw_C} {cB cI cJ cZ cS : ClassId} {A : Nat → Prop} {iM h0 : Nat} {ad : Nat → Nat} (C0 : MCx p s m args meth c b_M_nameRun 8 none D cl cB cI cJ cZ cS iM A) (hR : R = rm_M_nameRun) (N : Nat) (G : Unit) (hG : True) : ∀ (u : MS) (v1 : Int32) (v2 : Int64) (v4 : Int64) (v6 : Int32) (v7 : Int32) (x : MS × Unit), fb_M_nameRun_146 N G u v1 v2 v4 v6 v7 = some x → ∀ (H : Heap) (locs : List Loc), va_P D cl (wM cB cI cJ cZ cS iM h0 ad u) H → va_D A (wM cB cI cJ cZ cS iM h0 ad u) → va_S A s.heap H locs → ∀ (ls : Array Slot), lv_has ls 8 [(0, .ref h0), (1, .int v1), (2, .long v2), (4, .long v4), (6, .int v6), (7, .int v7)] → W p l e R s m args below meth c H locs 0 0 (MQ below (mQv D cl cB cI cJ cZ cS iM h0 ad A x) args s 0 0 A) (F0 m 146 ls []) := by
  intro u v1 v2 v4 v6 v7 x hf H locs hP hD hS ls hl
  obtain ⟨hx, hb, hr, hml, ht, hown, hM, hK, hA, hlocks⟩ := id C0
  unfold fb_M_nameRun_146 at hf
  refine lv_iload hx hb d_M_nameRun_146 (lv_at hl 5 rfl) ?_
  refine lv_if_ne (tgt := 160) hx hb d_M_nameRun_148 (by decide) (fun hc => ?_) (fun hc => ?_)
  · rw [br_n _ hc] at hf
    refine lv_iload_n hx hb d_M_nameRun_160 rfl (lv_at hl 1 rfl) ?_
    refine lv_bipush (v := 15) hx hb d_M_nameRun_161 (by decide) ?_
    refine lv_icmp_ne (tgt := 193) hx hb d_M_nameRun_163 (by decide) (fun hc => ?_) (fun hc => ?_)
    · rw [br_n _ hc] at hf
      refine lv_aload_n hx hb d_M_nameRun_193 rfl (lv_at hl 0 rfl) ?_
      refine ug_R hx hb ht hown hM hK hP 113 (by decide) lk_M_113 (by decide) d_M_nameRun_194 ?_
      refine lv_iload_n hx hb d_M_nameRun_197 rfl (lv_at hl 1 rfl) ?_
      refine lv_bipush (v := 13) hx hb d_M_nameRun_198 (by decide) ?_
      refine lv_icmp_ne (tgt := 210) hx hb d_M_nameRun_200 (by decide) (fun hc => ?_) (fun hc => ?_)
      · rw [br_n _ hc] at hf
        refine lv_iload hx hb d_M_nameRun_210 (lv_at hl 4 rfl) ?_
        exact wb_M_nameRun_212 C0 hR N G hG _ _ _ _ _ _ hf H locs hP hD hS ls (lv_sub hl [0, 1, 3] rfl)
      · rw [br_p _ hc] at hf
        refine lv_lload_n hx hb d_M_nameRun_203 rfl (lv_at hl 2 rfl) ?_
        obtain ⟨u6, r6, hc6, hf⟩ := bnd_some hf
        refine mS_i (As := [.long v2]) (rest := [.ref (ad 113)]) C0 hP hD hS (c_M_valueOf N hM hc6) k_M_valueOf hl_M_valueOf ht_M_valueOf hini_M rfl rfl hd_M_valueOf rfl (rm_M_nameRun_M_valueOf hR) hl.1 (Nat.le_of_ble_eq_true rfl) d_M_nameRun_204 rfl ⟨Nat.zero_le _, Nat.zero_le _⟩ (fun H locs hP hD hS => ?_)
        refine lv_goto (tgt := 212) hx hb d_M_nameRun_207 (by decide) ?_
        exact wb_M_nameRun_212 C0 hR N G hG _ _ _ _ _ _ hf H locs hP hD hS ls (lv_sub hl [0, 1, 3] rfl)
    · rw [br_p _ hc] at hf
      refine lv_aload_n hx hb d_M_nameRun_166 rfl (lv_at hl 0 rfl) ?_
      refine lv_iload hx hb d_M_nameRun_167 (lv_at hl 4 rfl) ?_
      refine lv_iconst (v := (-1)) hx hb d_M_nameRun_169 (by decide) ?_
      refine lv_icmp_ne (tgt := 181) hx hb d_M_nameRun_170 (by decide) (fun hc => ?_) (fun hc => ?_)
      · rw [br_n _ hc] at hf
        refine lv_iconst (v := 4) hx hb d_M_nameRun_181 (by decide) ?_
        refine lv_iload hx hb d_M_nameRun_182 (lv_at hl 4 rfl) ?_
        obtain ⟨u7, r7, hc7, hf⟩ := bnd_some hf
        refine mS_l (As := [.int 4, .int v6]) (rest := [.ref h0]) C0 hP hD hS (c_M_term N hM hc7) k_M_term hl_M_term ht_M_term hini_M rfl rfl hd_M_term rfl (rm_M_nameRun_M_term hR) hl.1 (Nat.le_of_ble_eq_true rfl) d_M_nameRun_184 rfl ⟨Nat.zero_le _, Nat.zero_le _⟩ (fun H locs hP hD hS => ?_)
        exact wb_M_nameRun_187 C0 hR N G hG _ _ _ hf H locs hP hD hS ls (lv_sub hl [] rfl)
      · rw [br_p _ hc] at hf
        refine lv_iconst (v := 1) hx hb d_M_nameRun_173 (by decide) ?_
        refine lv_iconst (v := 3) hx hb d_M_nameRun_174 (by decide) ?_
        obtain ⟨u8, r8, hc8, hf⟩ := bnd_some hf
        refine mS_l (As := [.int 1, .int 3]) (rest := [.ref h0]) C0 hP hD hS (c_M_term N hM hc8) k_M_term hl_M_term ht_M_term hini_M rfl rfl hd_M_term rfl (rm_M_nameRun_M_term hR) hl.1 (Nat.le_of_ble_eq_true rfl) d_M_nameRun_175 rfl ⟨Nat.zero_le _, Nat.zero_le _⟩ (fun H locs hP hD hS => ?_)
        refine lv_goto (tgt := 187) hx hb d_M_nameRun_178 (by decide) ?_
        exact wb_M_nameRun_187 C0 hR N G hG _ _ _ hf H locs hP hD hS ls (lv_sub hl [] rfl)
  · rw [br_p _ hc] at hf
    refine lv_aload_n hx hb d_M_nameRun_151 rfl (lv_at hl 0 rfl) ?_
    refine lv_bipush (v := 11) hx hb d_M_nameRun_152 (by decide) ?_
    obtain ⟨u9, r9, hc9, hf⟩ := bnd_some hf
    refine mV_v (As := [.int 11]) (rest := []) C0 hP hD hS (c_M_error N hM hc9) k_M_error hl_M_error hi_M_error hs_M_error hini_M rfl rfl hd_M_error rfl (rm_M_nameRun_M_error hR) hl.1 (Nat.le_of_ble_eq_true rfl) d_M_nameRun_154 rfl ⟨Nat.zero_le _, Nat.zero_le _⟩ (fun H locs hP hD hS => ?_)
    refine lv_goto (tgt := 236) hx hb d_M_nameRun_157 (by decide) ?_
    exact wb_M_nameRun_236 C0 hR N G hG _ _ hf H locs hP hD hS ls (lv_sub hl [] rfl)
def fb_M_nameRun_144 (N : Nat) (G : Unit) (u : MS) (v1 : Int32) (v2 : Int64) (v4 : Int64) (v6 : Int32) (t0 : Int32) : Option (MS × Unit) := fb_M_nameRun_146 N G u (v1) (v2) (v4) (v6) (t0)
set_option maxRecDepth 100000 in
set_option maxHeartbeats 4000000 in
theorem wb_M_nameRun_144 {p : Program} {l : Launch} {e : Env} {R : Room} {s : State} {m : MethodId} {args : Array Value} {below : List Frame} {meth : Method} {c : Code} {D : va_G} {cl : List vw_C} {cB cI cJ cZ cS : ClassId} {A : Nat → Prop} {iM h0 : Nat} {ad : Nat → Nat} (C0 : MCx p s m args meth c b_M_nameRun 8 none D cl cB cI cJ cZ cS iM A) (hR : R = rm_M_nameRun) (N : Nat) (G : Unit) (hG : True) : ∀ (u : MS) (v1 : Int32) (v2 : Int64) (v4 : Int64) (v6 : Int32) (t0 : Int32) (x : MS × Unit), fb_M_nameRun_144 N G u v1 v2 v4 v6 t0 = some x → ∀ (H : Heap) (locs : List Loc), va_P D cl (wM cB cI cJ cZ cS iM h0 ad u) H → va_D A (wM cB cI cJ cZ cS iM h0 ad u) → va_S A s.heap H locs → ∀ (ls : Array Slot), lv_has ls 8 [(0, .ref h0), (1, .int v1), (2, .long v2), (4, .long v4), (6, .int v6)] → W p l e R s m args below meth c H locs 0 0 (MQ below (mQv D cl cB cI cJ cZ cS iM h0 ad A x) args s 0 0 A) (F0 m 144 ls [.int t0]) := by
  intro u v1 v2 v4 v6 t0 x hf H locs hP hD hS ls hl
  obtain ⟨hx, hb, hr, hml, ht, hown, hM, hK, hA, hlocks⟩ := id C0
  unfold fb_M_nameRun_144 at hf
  refine lv_istore (lv' := [(7, .int t0), (0, .ref h0), (1, .int v1), (2, .long v2), (4, .long v4), (6, .int v6)]) hx hb d_M_nameRun_144 hl (by decide) rfl (fun ls hl => ?_)
  exact wb_M_nameRun_146 C0 hR N G hG _ _ _ _ _ _ _ hf H locs hP hD hS ls (lv_sub hl [1, 2, 3, 4, 5, 0] rfl)
def fb_M_nameRun_143 (N : Nat) (G : Unit) (u : MS) (v1 : Int32) (v2 : Int64) (v4 : Int64) (v6 : Int32) : Option (MS × Unit) := fb_M_nameRun_144 N G u (v1) (v2) (v4) (v6) (0)
set_option maxRecDepth 100000 in
set_option maxHeartbeats 4000000 in
theorem wb_M_nameRun_143 {p : Program} {l : Launch} {e : Env} {R : Room} {s : State} {m : MethodId} {args : Array Value} {below : List Frame} {meth : Method} {c : Code} {D : va_G} {cl : List vw_C} {cB cI cJ cZ cS : ClassId} {A : Nat → Prop} {iM h0 : Nat} {ad : Nat → Nat} (C0 : MCx p s m args meth c b_M_nameRun 8 none D cl cB cI cJ cZ cS iM A) (hR : R = rm_M_nameRun) (N : Nat) (G : Unit) (hG : True) : ∀ (u : MS) (v1 : Int32) (v2 : Int64) (v4 : Int64) (v6 : Int32) (x : MS × Unit), fb_M_nameRun_143 N G u v1 v2 v4 v6 = some x → ∀ (H : Heap) (locs : List Loc), va_P D cl (wM cB cI cJ cZ cS iM h0 ad u) H → va_D A (wM cB cI cJ cZ cS iM h0 ad u) → va_S A s.heap H locs → ∀ (ls : Array Slot), lv_has ls 8 [(0, .ref h0), (1, .int v1), (2, .long v2), (4, .long v4), (6, .int v6)] → W p l e R s m args below meth c H locs 0 0 (MQ below (mQv D cl cB cI cJ cZ cS iM h0 ad A x) args s 0 0 A) (F0 m 143 ls []) := by
  intro u v1 v2 v4 v6 x hf H locs hP hD hS ls hl
  obtain ⟨hx, hb, hr, hml, ht, hown, hM, hK, hA, hlocks⟩ := id C0
  unfold fb_M_nameRun_143 at hf
  refine lv_iconst (v := 0) hx hb d_M_nameRun_143 (by decide) ?_
  exact wb_M_nameRun_144 C0 hR N G hG _ _ _ _ _ _ _ hf H locs hP hD hS ls (lv_sub hl [0, 1, 2, 3, 4] rfl)
def fb_M_nameRun_117 (N : Nat) (G : Unit) (u : MS) (v1 : Int32) (v2 : Int64) (v4 : Int64) (v6 : Int32) (t0 : Int32) : Option (MS × Unit) := fb_M_nameRun_146 N G u (v1) (v2) (v4) (v6) (t0)
set_option maxRecDepth 100000 in
set_option maxHeartbeats 4000000 in
theorem wb_M_nameRun_117 {p : Program} {l : Launch} {e : Env} {R : Room} {s : State} {m : MethodId} {args : Array Value} {below : List Frame} {meth : Method} {c : Code} {D : va_G} {cl : List vw_C} {cB cI cJ cZ cS : ClassId} {A : Nat → Prop} {iM h0 : Nat} {ad : Nat → Nat} (C0 : MCx p s m args meth c b_M_nameRun 8 none D cl cB cI cJ cZ cS iM A) (hR : R = rm_M_nameRun) (N : Nat) (G : Unit) (hG : True) : ∀ (u : MS) (v1 : Int32) (v2 : Int64) (v4 : Int64) (v6 : Int32) (t0 : Int32) (x : MS × Unit), fb_M_nameRun_117 N G u v1 v2 v4 v6 t0 = some x → ∀ (H : Heap) (locs : List Loc), va_P D cl (wM cB cI cJ cZ cS iM h0 ad u) H → va_D A (wM cB cI cJ cZ cS iM h0 ad u) → va_S A s.heap H locs → ∀ (ls : Array Slot), lv_has ls 8 [(0, .ref h0), (1, .int v1), (2, .long v2), (4, .long v4), (6, .int v6)] → W p l e R s m args below meth c H locs 0 0 (MQ below (mQv D cl cB cI cJ cZ cS iM h0 ad A x) args s 0 0 A) (F0 m 117 ls [.int t0]) := by
  intro u v1 v2 v4 v6 t0 x hf H locs hP hD hS ls hl
  obtain ⟨hx, hb, hr, hml, ht, hown, hM, hK, hA, hlocks⟩ := id C0
  unfold fb_M_nameRun_117 at hf
  refine lv_istore (lv' := [(7, .int t0), (0, .ref h0), (1, .int v1), (2, .long v2), (4, .long v4), (6, .int v6)]) hx hb d_M_nameRun_117 hl (by decide) rfl (fun ls hl => ?_)
  refine lv_goto (tgt := 146) hx hb d_M_nameRun_119 (by decide) ?_
  exact wb_M_nameRun_146 C0 hR N G hG _ _ _ _ _ _ _ hf H locs hP hD hS ls (lv_sub hl [1, 2, 3, 4, 5, 0] rfl)
def fb_M_nameRun_116 (N : Nat) (G : Unit) (u : MS) (v1 : Int32) (v2 : Int64) (v4 : Int64) (v6 : Int32) : Option (MS × Unit) := fb_M_nameRun_117 N G u (v1) (v2) (v4) (v6) (0)
set_option maxRecDepth 100000 in
set_option maxHeartbeats 4000000 in
theorem wb_M_nameRun_116 {p : Program} {l : Launch} {e : Env} {R : Room} {s : State} {m : MethodId} {args : Array Value} {below : List Frame} {meth : Method} {c : Code} {D : va_G} {cl : List vw_C} {cB cI cJ cZ cS : ClassId} {A : Nat → Prop} {iM h0 : Nat} {ad : Nat → Nat} (C0 : MCx p s m args meth c b_M_nameRun 8 none D cl cB cI cJ cZ cS iM A) (hR : R = rm_M_nameRun) (N : Nat) (G : Unit) (hG : True) : ∀ (u : MS) (v1 : Int32) (v2 : Int64) (v4 : Int64) (v6 : Int32) (x : MS × Unit), fb_M_nameRun_116 N G u v1 v2 v4 v6 = some x → ∀ (H : Heap) (locs : List Loc), va_P D cl (wM cB cI cJ cZ cS iM h0 ad u) H → va_D A (wM cB cI cJ cZ cS iM h0 ad u) → va_S A s.heap H locs → ∀ (ls : Array Slot), lv_has ls 8 [(0, .ref h0), (1, .int v1), (2, .long v2), (4, .long v4), (6, .int v6)] → W p l e R s m args below meth c H locs 0 0 (MQ below (mQv D cl cB cI cJ cZ cS iM h0 ad A x) args s 0 0 A) (F0 m 116 ls []) := by
  intro u v1 v2 v4 v6 x hf H locs hP hD hS ls hl
  obtain ⟨hx, hb, hr, hml, ht, hown, hM, hK, hA, hlocks⟩ := id C0
  unfold fb_M_nameRun_116 at hf
  refine lv_iconst (v := 0) hx hb d_M_nameRun_116 (by decide) ?_
  exact wb_M_nameRun_117 C0 hR N G hG _ _ _ _ _ _ _ hf H locs hP hD hS ls (lv_sub hl [0, 1, 2, 3, 4] rfl)
def fb_M_nameRun_59 (N : Nat) (G : Unit) (u : MS) (v1 : Int32) (v2 : Int64) (v4 : Int64) (v6 : Int32) (t0 : Int32) : Option (MS × Unit) := br (decide (v1 = 13)) (br (decide (t0 = 0)) (fb_M_nameRun_116 N G u (v1) (v2) (v4) (v6)) (br (decide (v6 = (-1))) (bnd (fm_M_sortOf N u v2) (fun u10 r10 => br (decide (r10 = 4)) (bnd (fm_M_valueOf N u10 v2) (fun u11 r11 => ck (inb r11 (ln 109)) (br (decide ((u11.2.2.1 109 r11.toNatClampNeg) = 3)) (fb_M_nameRun_116 N G u11 (v1) (v2) (v4) (v6)) (bnd (fm_M_valueOf N u11 v2) (fun u12 r12 => ck (inb r12 (ln 113)) (br (decide ((u12.2.2.1 113 r12.toNatClampNeg) = (-1))) (fb_M_nameRun_117 N G u12 (v1) (v2) (v4) (v6) (1)) (fb_M_nameRun_116 N G u12 (v1) (v2) (v4) (v6)))))))) (fb_M_nameRun_116 N G u10 (v1) (v2) (v4) (v6)))) (fb_M_nameRun_116 N G u (v1) (v2) (v4) (v6)))) (br (decide (v1 = 14)) (br (decide (t0 = 0)) (fb_M_nameRun_143 N G u (v1) (v2) (v4) (v6)) (br (decide (v6 = (-1))) (fb_M_nameRun_143 N G u (v1) (v2) (v4) (v6)) (fb_M_nameRun_144 N G u (v1) (v2) (v4) (v6) (1)))) (fb_M_nameRun_146 N G u (v1) (v2) (v4) (v6) (t0)))
set_option maxRecDepth 100000 in
set_option maxHeartbeats 4000000 in
theorem wb_M_nameRun_59 {p : Program} {l : Launch} {e : Env} {R : Room} {s : State} {m : MethodId} {args : Array Value} {below : List Frame} {meth : Method} {c : Code} {D : va_G} {cl : List vw_C} {cB cI cJ cZ cS : ClassId} {A : Nat → Prop} {iM h0 : Nat} {ad : Nat → Nat} (C0 : MCx p s m args meth c b_M_nameRun 8 none D cl cB cI cJ cZ cS iM A) (hR : R = rm_M_nameRun) (N : Nat) (G : Unit) (hG : True) : ∀ (u : MS) (v1 : Int32) (v2 : Int64) (v4 : Int64) (v6 : Int32) (t0 : Int32) (x : MS × Unit), fb_M_nameRun_59 N G u v1 v2 v4 v6 t0 = some x → ∀ (H : Heap) (locs : List Loc), va_P D cl (wM cB cI cJ cZ cS iM h0 ad u) H → va_D A (wM cB cI cJ cZ cS iM h0 ad u) → va_S A s.heap H locs → ∀ (ls : Array Slot), lv_has ls 8 [(0, .ref h0), (1, .int v1), (2, .long v2), (4, .long v4), (6, .int v6)] → W p l e R s m args below meth c H locs 0 0 (MQ below (mQv D cl cB cI cJ cZ cS iM h0 ad A x) args s 0 0 A) (F0 m 59 ls [.int t0]) := by
  intro u v1 v2 v4 v6 t0 x hf H locs hP hD hS ls hl
  obtain ⟨hx, hb, hr, hml, ht, hown, hM, hK, hA, hlocks⟩ := id C0
  unfold fb_M_nameRun_59 at hf
  refine lv_istore (lv' := [(7, .int t0), (0, .ref h0), (1, .int v1), (2, .long v2), (4, .long v4), (6, .int v6)]) hx hb d_M_nameRun_59 hl (by decide) rfl (fun ls hl => ?_)
  refine lv_iload_n hx hb d_M_nameRun_61 rfl (lv_at hl 2 rfl) ?_
  refine lv_bipush (v := 13) hx hb d_M_nameRun_62 (by decide) ?_
  refine lv_icmp_ne (tgt := 122) hx hb d_M_nameRun_64 (by decide) (fun hc => ?_) (fun hc => ?_)
  · rw [br_n _ hc] at hf
    refine lv_iload_n hx hb d_M_nameRun_122 rfl (lv_at hl 2 rfl) ?_
    refine lv_bipush (v := 14) hx hb d_M_nameRun_123 (by decide) ?_
    refine lv_icmp_ne (tgt := 146) hx hb d_M_nameRun_125 (by decide) (fun hc => ?_) (fun hc => ?_)
    · rw [br_n _ hc] at hf
      exact wb_M_nameRun_146 C0 hR N G hG _ _ _ _ _ _ _ hf H locs hP hD hS ls (lv_sub hl [1, 2, 3, 4, 5, 0] rfl)
    · rw [br_p _ hc] at hf
      refine lv_iload hx hb d_M_nameRun_128 (lv_at hl 0 rfl) ?_
      refine lv_if_eq (tgt := 143) hx hb d_M_nameRun_130 (by decide) (fun hc => ?_) (fun hc => ?_)
      · rw [br_p _ hc] at hf
        exact wb_M_nameRun_143 C0 hR N G hG _ _ _ _ _ _ hf H locs hP hD hS ls (lv_sub hl [1, 2, 3, 4, 5] rfl)
      · rw [br_n _ hc] at hf
        refine lv_iload hx hb d_M_nameRun_133 (lv_at hl 5 rfl) ?_
        refine lv_iconst (v := (-1)) hx hb d_M_nameRun_135 (by decide) ?_
        refine lv_icmp_eq (tgt := 143) hx hb d_M_nameRun_136 (by decide) (fun hc => ?_) (fun hc => ?_)
        · rw [br_p _ hc] at hf
          exact wb_M_nameRun_143 C0 hR N G hG _ _ _ _ _ _ hf H locs hP hD hS ls (lv_sub hl [1, 2, 3, 4, 5] rfl)
        · rw [br_n _ hc] at hf
          refine lv_iconst (v := 1) hx hb d_M_nameRun_139 (by decide) ?_
          refine lv_goto (tgt := 144) hx hb d_M_nameRun_140 (by decide) ?_
          exact wb_M_nameRun_144 C0 hR N G hG _ _ _ _ _ _ _ hf H locs hP hD hS ls (lv_sub hl [1, 2, 3, 4, 5] rfl)
  · rw [br_p _ hc] at hf
    refine lv_iload hx hb d_M_nameRun_67 (lv_at hl 0 rfl) ?_
    refine lv_if_eq (tgt := 116) hx hb d_M_nameRun_69 (by decide) (fun hc => ?_) (fun hc => ?_)
    · rw [br_p _ hc] at hf
      exact wb_M_nameRun_116 C0 hR N G hG _ _ _ _ _ _ hf H locs hP hD hS ls (lv_sub hl [1, 2, 3, 4, 5] rfl)
    · rw [br_n _ hc] at hf
      refine lv_iload hx hb d_M_nameRun_72 (lv_at hl 5 rfl) ?_
      refine lv_iconst (v := (-1)) hx hb d_M_nameRun_74 (by decide) ?_
      refine lv_icmp_ne (tgt := 116) hx hb d_M_nameRun_75 (by decide) (fun hc => ?_) (fun hc => ?_)
      · rw [br_n _ hc] at hf
        exact wb_M_nameRun_116 C0 hR N G hG _ _ _ _ _ _ hf H locs hP hD hS ls (lv_sub hl [1, 2, 3, 4, 5] rfl)
      · rw [br_p _ hc] at hf
        refine lv_lload_n hx hb d_M_nameRun_78 rfl (lv_at hl 3 rfl) ?_
        obtain ⟨u10, r10, hc10, hf⟩ := bnd_some hf
        refine mS_i (As := [.long v2]) (rest := []) C0 hP hD hS (c_M_sortOf N hM hc10) k_M_sortOf hl_M_sortOf ht_M_sortOf hini_M rfl rfl hd_M_sortOf rfl (rm_M_nameRun_M_sortOf hR) hl.1 (Nat.le_of_ble_eq_true rfl) d_M_nameRun_79 rfl ⟨Nat.zero_le _, Nat.zero_le _⟩ (fun H locs hP hD hS => ?_)
        refine lv_iconst (v := 4) hx hb d_M_nameRun_82 (by decide) ?_
        refine lv_icmp_ne (tgt := 116) hx hb d_M_nameRun_83 (by decide) (fun hc => ?_) (fun hc => ?_)
        · rw [br_n _ hc] at hf
          exact wb_M_nameRun_116 C0 hR N G hG _ _ _ _ _ _ hf H locs hP hD hS ls (lv_sub hl [1, 2, 3, 4, 5] rfl)
        · rw [br_p _ hc] at hf
          refine lv_aload_n hx hb d_M_nameRun_86 rfl (lv_at hl 1 rfl) ?_
          refine ug_R hx hb ht hown hM hK hP 109 (by decide) lk_M_109 (by decide) d_M_nameRun_87 ?_
          refine lv_lload_n hx hb d_M_nameRun_90 rfl (lv_at hl 3 rfl) ?_
          obtain ⟨u11, r11, hc11, hf⟩ := bnd_some hf
          refine mS_i (As := [.long v2]) (rest := [.ref (ad 109)]) C0 hP hD hS (c_M_valueOf N hM hc11) k_M_valueOf hl_M_valueOf ht_M_valueOf hini_M rfl rfl hd_M_valueOf rfl (rm_M_nameRun_M_valueOf hR) hl.1 (Nat.le_of_ble_eq_true rfl) d_M_nameRun_91 rfl ⟨Nat.zero_le _, Nat.zero_le _⟩ (fun H locs hP hD hS => ?_)
          obtain ⟨hi9, hf⟩ := ck_some hf
          refine ul_I hx hb hK hP (by decide) (by decide) hi9 d_M_nameRun_94 ?_
          refine lv_iconst (v := 3) hx hb d_M_nameRun_95 (by decide) ?_
          refine lv_icmp_eq (tgt := 116) hx hb d_M_nameRun_96 (by decide) (fun hc => ?_) (fun hc => ?_)
          · rw [br_p _ hc] at hf
            exact wb_M_nameRun_116 C0 hR N G hG _ _ _ _ _ _ hf H locs hP hD hS ls (lv_sub hl [1, 2, 3, 4, 5] rfl)
          · rw [br_n _ hc] at hf
            refine lv_aload_n hx hb d_M_nameRun_99 rfl (lv_at hl 1 rfl) ?_
            refine ug_R hx hb ht hown hM hK hP 113 (by decide) lk_M_113 (by decide) d_M_nameRun_100 ?_
            refine lv_lload_n hx hb d_M_nameRun_103 rfl (lv_at hl 3 rfl) ?_
            obtain ⟨u12, r12, hc12, hf⟩ := bnd_some hf
            refine mS_i (As := [.long v2]) (rest := [.ref (ad 113)]) C0 hP hD hS (c_M_valueOf N hM hc12) k_M_valueOf hl_M_valueOf ht_M_valueOf hini_M rfl rfl hd_M_valueOf rfl (rm_M_nameRun_M_valueOf hR) hl.1 (Nat.le_of_ble_eq_true rfl) d_M_nameRun_104 rfl ⟨Nat.zero_le _, Nat.zero_le _⟩ (fun H locs hP hD hS => ?_)
            obtain ⟨hi9, hf⟩ := ck_some hf
            refine ul_I hx hb hK hP (by decide) (by decide) hi9 d_M_nameRun_107 ?_
            refine lv_iconst (v := (-1)) hx hb d_M_nameRun_108 (by decide) ?_
            refine lv_icmp_ne (tgt := 116) hx hb d_M_nameRun_109 (by decide) (fun hc => ?_) (fun hc => ?_)
            · rw [br_n _ hc] at hf
              exact wb_M_nameRun_116 C0 hR N G hG _ _ _ _ _ _ hf H locs hP hD hS ls (lv_sub hl [1, 2, 3, 4, 5] rfl)
            · rw [br_p _ hc] at hf
              refine lv_iconst (v := 1) hx hb d_M_nameRun_112 (by decide) ?_
              refine lv_goto (tgt := 117) hx hb d_M_nameRun_113 (by decide) ?_
              exact wb_M_nameRun_117 C0 hR N G hG _ _ _ _ _ _ _ hf H locs hP hD hS ls (lv_sub hl [1, 2, 3, 4, 5] rfl)
def fb_M_nameRun_43 (N : Nat) (G : Unit) (u : MS) (v1 : Int32) (v2 : Int64) (v4 : Int64) (t0 : Int32) : Option (MS × Unit) := bnd (fm_M_sortOf N u v4) (fun u13 r13 => br (decide (r13 = 1)) (fb_M_nameRun_59 N G u13 (v1) (v2) (v4) (t0) (1)) (fb_M_nameRun_59 N G u13 (v1) (v2) (v4) (t0) (0)))
set_option maxRecDepth 100000 in
set_option maxHeartbeats 4000000 in
theorem wb_M_nameRun_43 {p : Program} {l : Launch} {e : Env} {R : Room} {s : State} {m : MethodId} {args : Array Value} {below : List Frame} {meth : Method} {c : Code} {D : va_G} {cl : List vw_C} {cB cI cJ cZ cS : ClassId} {A : Nat → Prop} {iM h0 : Nat} {ad : Nat → Nat} (C0 : MCx p s m args meth c b_M_nameRun 8 none D cl cB cI cJ cZ cS iM A) (hR : R = rm_M_nameRun) (N : Nat) (G : Unit) (hG : True) : ∀ (u : MS) (v1 : Int32) (v2 : Int64) (v4 : Int64) (t0 : Int32) (x : MS × Unit), fb_M_nameRun_43 N G u v1 v2 v4 t0 = some x → ∀ (H : Heap) (locs : List Loc), va_P D cl (wM cB cI cJ cZ cS iM h0 ad u) H → va_D A (wM cB cI cJ cZ cS iM h0 ad u) → va_S A s.heap H locs → ∀ (ls : Array Slot), lv_has ls 8 [(0, .ref h0), (1, .int v1), (2, .long v2), (4, .long v4)] → W p l e R s m args below meth c H locs 0 0 (MQ below (mQv D cl cB cI cJ cZ cS iM h0 ad A x) args s 0 0 A) (F0 m 43 ls [.int t0]) := by
  intro u v1 v2 v4 t0 x hf H locs hP hD hS ls hl
  obtain ⟨hx, hb, hr, hml, ht, hown, hM, hK, hA, hlocks⟩ := id C0
  unfold fb_M_nameRun_43 at hf
  refine lv_istore (lv' := [(6, .int t0), (0, .ref h0), (1, .int v1), (2, .long v2), (4, .long v4)]) hx hb d_M_nameRun_43 hl (by decide) rfl (fun ls hl => ?_)
  refine lv_lload hx hb d_M_nameRun_45 (lv_at hl 4 rfl) ?_
  obtain ⟨u13, r13, hc13, hf⟩ := bnd_some hf
  refine mS_i (As := [.long v4]) (rest := []) C0 hP hD hS (c_M_sortOf N hM hc13) k_M_sortOf hl_M_sortOf ht_M_sortOf hini_M rfl rfl hd_M_sortOf rfl (rm_M_nameRun_M_sortOf hR) hl.1 (Nat.le_of_ble_eq_true rfl) d_M_nameRun_47 rfl ⟨Nat.zero_le _, Nat.zero_le _⟩ (fun H locs hP hD hS => ?_)
  refine lv_iconst (v := 1) hx hb d_M_nameRun_50 (by decide) ?_
  refine lv_icmp_ne (tgt := 58) hx hb d_M_nameRun_51 (by decide) (fun hc => ?_) (fun hc => ?_)
  · rw [br_n _ hc] at hf
    refine lv_iconst (v := 0) hx hb d_M_nameRun_58 (by decide) ?_
    exact wb_M_nameRun_59 C0 hR N G hG _ _ _ _ _ _ _ hf H locs hP hD hS ls (lv_sub hl [1, 2, 3, 4, 0] rfl)
  · rw [br_p _ hc] at hf
    refine lv_iconst (v := 1) hx hb d_M_nameRun_54 (by decide) ?_
    refine lv_goto (tgt := 59) hx hb d_M_nameRun_55 (by decide) ?_
    exact wb_M_nameRun_59 C0 hR N G hG _ _ _ _ _ _ _ hf H locs hP hD hS ls (lv_sub hl [1, 2, 3, 4, 0] rfl)
def fb_M_nameRun_14 (N : Nat) (G : Unit) (u : MS) (v1 : Int32) (t0 : Int64) : Option (MS × Unit) := bnd (fm_M_take N u) (fun u14 r14 => bnd (fm_M_sortOf N u14 r14) (fun u15 r15 => br (decide (r15 = 1)) (bnd (fm_M_valueOf N u15 r14) (fun u16 r16 => bnd (fm_M_namedBy N u16 r16) (fun u17 r17 => fb_M_nameRun_43 N G u17 (v1) (t0) (r14) (r17)))) (fb_M_nameRun_43 N G u15 (v1) (t0) (r14) ((-1)))))
set_option maxRecDepth 100000 in
set_option maxHeartbeats 4000000 in
theorem wb_M_nameRun_14 {p : Program} {l : Launch} {e : Env} {R : Room} {s : State} {m : MethodId} {args : Array Value} {below : List Frame} {meth : Method} {c : Code} {D : va_G} {cl : List vw_C} {cB cI cJ cZ cS : ClassId} {A : Nat → Prop} {iM h0 : Nat} {ad : Nat → Nat} (C0 : MCx p s m args meth c b_M_nameRun 8 none D cl cB cI cJ cZ cS iM A) (hR : R = rm_M_nameRun) (N : Nat) (G : Unit) (hG : True) : ∀ (u : MS) (v1 : Int32) (t0 : Int64) (x : MS × Unit), fb_M_nameRun_14 N G u v1 t0 = some x → ∀ (H : Heap) (locs : List Loc), va_P D cl (wM cB cI cJ cZ cS iM h0 ad u) H → va_D A (wM cB cI cJ cZ cS iM h0 ad u) → va_S A s.heap H locs → ∀ (ls : Array Slot), lv_has ls 8 [(0, .ref h0), (1, .int v1)] → W p l e R s m args below meth c H locs 0 0 (MQ below (mQv D cl cB cI cJ cZ cS iM h0 ad A x) args s 0 0 A) (F0 m 14 ls [.long t0]) := by
  intro u v1 t0 x hf H locs hP hD hS ls hl
  obtain ⟨hx, hb, hr, hml, ht, hown, hM, hK, hA, hlocks⟩ := id C0
  unfold fb_M_nameRun_14 at hf
  refine lv_lstore_n (lv' := [(2, .long t0), (0, .ref h0), (1, .int v1)]) hx hb d_M_nameRun_14 rfl hl (by decide) rfl (fun ls hl => ?_)
  refine lv_aload_n hx hb d_M_nameRun_15 rfl (lv_at hl 1 rfl) ?_
  obtain ⟨u14, r14, hc14, hf⟩ := bnd_some hf
  refine mV_l (As := []) (rest := []) C0 hP hD hS (c_M_take N hM hc14) k_M_take hl_M_take hi_M_take hs_M_take hini_M rfl rfl hd_M_take rfl (rm_M_nameRun_M_take hR) hl.1 (Nat.le_of_ble_eq_true rfl) d_M_nameRun_16 rfl ⟨Nat.zero_le _, Nat.zero_le _⟩ (fun H locs hP hD hS => ?_)
  refine lv_lstore (lv' := [(4, .long r14), (2, .long t0), (0, .ref h0), (1, .int v1)]) hx hb d_M_nameRun_19 hl (by decide) rfl (fun ls hl => ?_)
  refine lv_lload hx hb d_M_nameRun_21 (lv_at hl 0 rfl) ?_
  obtain ⟨u15, r15, hc15, hf⟩ := bnd_some hf
  refine mS_i (As := [.long r14]) (rest := []) C0 hP hD hS (c_M_sortOf N hM hc15) k_M_sortOf hl_M_sortOf ht_M_sortOf hini_M rfl rfl hd_M_sortOf rfl (rm_M_nameRun_M_sortOf hR) hl.1 (Nat.le_of_ble_eq_true rfl) d_M_nameRun_23 rfl ⟨Nat.zero_le _, Nat.zero_le _⟩ (fun H locs hP hD hS => ?_)
  refine lv_iconst (v := 1) hx hb d_M_nameRun_26 (by decide) ?_
  refine lv_icmp_ne (tgt := 42) hx hb d_M_nameRun_27 (by decide) (fun hc => ?_) (fun hc => ?_)
  · rw [br_n _ hc] at hf
    refine lv_iconst (v := (-1)) hx hb d_M_nameRun_42 (by decide) ?_
    exact wb_M_nameRun_43 C0 hR N G hG _ _ _ _ _ _ hf H locs hP hD hS ls (lv_sub hl [2, 3, 1, 0] rfl)
  · rw [br_p _ hc] at hf
    refine lv_aload_n hx hb d_M_nameRun_30 rfl (lv_at hl 2 rfl) ?_
    refine lv_lload hx hb d_M_nameRun_31 (lv_at hl 0 rfl) ?_
    obtain ⟨u16, r16, hc16, hf⟩ := bnd_some hf
    refine mS_i (As := [.long r14]) (rest := [.ref h0]) C0 hP hD hS (c_M_valueOf N hM hc16) k_M_valueOf hl_M_valueOf ht_M_valueOf hini_M rfl rfl hd_M_valueOf rfl (rm_M_nameRun_M_valueOf hR) hl.1 (Nat.le_of_ble_eq_true rfl) d_M_nameRun_33 rfl ⟨Nat.zero_le _, Nat.zero_le _⟩ (fun H locs hP hD hS => ?_)
    obtain ⟨u17, r17, hc17, hf⟩ := bnd_some hf
    refine mV_i (As := [.int r16]) (rest := []) C0 hP hD hS (c_M_namedBy N hM hc17) k_M_namedBy hl_M_namedBy hi_M_namedBy hs_M_namedBy hini_M rfl rfl hd_M_namedBy rfl (rm_M_nameRun_M_namedBy hR) hl.1 (Nat.le_of_ble_eq_true rfl) d_M_nameRun_36 rfl ⟨Nat.zero_le _, Nat.zero_le _⟩ (fun H locs hP hD hS => ?_)
    refine lv_goto (tgt := 43) hx hb d_M_nameRun_39 (by decide) ?_
    exact wb_M_nameRun_43 C0 hR N G hG _ _ _ _ _ _ hf H locs hP hD hS ls (lv_sub hl [2, 3, 1, 0] rfl)
def fb_M_nameRun_0 (N : Nat) (G : Unit) (u : MS) (v1 : Int32) : Option (MS × Unit) := br (decide (v1 = 13)) (bnd (fm_M_take N u) (fun u18 r18 => fb_M_nameRun_14 N G u18 (v1) (r18))) (fb_M_nameRun_14 N G u (v1) (0))
set_option maxRecDepth 100000 in
set_option maxHeartbeats 4000000 in
theorem wb_M_nameRun_0 {p : Program} {l : Launch} {e : Env} {R : Room} {s : State} {m : MethodId} {args : Array Value} {below : List Frame} {meth : Method} {c : Code} {D : va_G} {cl : List vw_C} {cB cI cJ cZ cS : ClassId} {A : Nat → Prop} {iM h0 : Nat} {ad : Nat → Nat} (C0 : MCx p s m args meth c b_M_nameRun 8 none D cl cB cI cJ cZ cS iM A) (hR : R = rm_M_nameRun) (N : Nat) (G : Unit) (hG : True) : ∀ (u : MS) (v1 : Int32) (x : MS × Unit), fb_M_nameRun_0 N G u v1 = some x → ∀ (H : Heap) (locs : List Loc), va_P D cl (wM cB cI cJ cZ cS iM h0 ad u) H → va_D A (wM cB cI cJ cZ cS iM h0 ad u) → va_S A s.heap H locs → ∀ (ls : Array Slot), lv_has ls 8 [(0, .ref h0), (1, .int v1)] → W p l e R s m args below meth c H locs 0 0 (MQ below (mQv D cl cB cI cJ cZ cS iM h0 ad A x) args s 0 0 A) (F0 m 0 ls []) := by
  intro u v1 x hf H locs hP hD hS ls hl
  obtain ⟨hx, hb, hr, hml, ht, hown, hM, hK, hA, hlocks⟩ := id C0
  unfold fb_M_nameRun_0 at hf
  refine lv_iload_n hx hb d_M_nameRun_0 rfl (lv_at hl 1 rfl) ?_
  refine lv_bipush (v := 13) hx hb d_M_nameRun_1 (by decide) ?_
  refine lv_icmp_ne (tgt := 13) hx hb d_M_nameRun_3 (by decide) (fun hc => ?_) (fun hc => ?_)
  · rw [br_n _ hc] at hf
    refine lv_lconst (v := 0) hx hb d_M_nameRun_13 (by decide) ?_
    exact wb_M_nameRun_14 C0 hR N G hG _ _ _ _ hf H locs hP hD hS ls (lv_sub hl [0, 1] rfl)
  · rw [br_p _ hc] at hf
    refine lv_aload_n hx hb d_M_nameRun_6 rfl (lv_at hl 0 rfl) ?_
    obtain ⟨u18, r18, hc18, hf⟩ := bnd_some hf
    refine mV_l (As := []) (rest := []) C0 hP hD hS (c_M_take N hM hc18) k_M_take hl_M_take hi_M_take hs_M_take hini_M rfl rfl hd_M_take rfl (rm_M_nameRun_M_take hR) hl.1 (Nat.le_of_ble_eq_true rfl) d_M_nameRun_7 rfl ⟨Nat.zero_le _, Nat.zero_le _⟩ (fun H locs hP hD hS => ?_)
    refine lv_goto (tgt := 14) hx hb d_M_nameRun_10 (by decide) ?_
    exact wb_M_nameRun_14 C0 hR N G hG _ _ _ _ hf H locs hP hD hS ls (lv_sub hl [0, 1] rfl)
def fm_M_nameRun (N : Nat) (u : MS) (v1 : Int32) : Option (MS × Unit) := fb_M_nameRun_0 N () u v1
set_option maxRecDepth 100000 in
set_option maxHeartbeats 4000000 in
theorem c_M_nameRun (N : Nat) {l : Launch} {D : va_G} {cl : List vw_C} {cB cI cJ cZ cS : ClassId} {iM h0 : Nat} {ad : Nat → Nat} {u : MS} {sz : Nat} {v1 : Int32} {x : MS × Unit} (hM : cl[iM]? = some (R_M, F_M, 171)) (hf : fm_M_nameRun N u v1 = some x) : Met l y_M_nameRun (wd_ws y_M_nameRun b_M_nameRun 8 none) rm_M_nameRun (mPc D cl cB cI cJ cZ cS iM h0 ad u sz [.ref h0, .int v1]) (mQv D cl cB cI cJ cZ cS iM h0 ad (mA cB cI cJ cZ cS iM h0 ad u sz) x) 0 0 (mA cB cI cJ cZ cS iM h0 ad u sz) :=
  mMet (by decide) rfl hM (Nat.le_of_ble_eq_true rfl) (fun p e s m below meth c ls hsz C0 hP hD hS hl => by
    have hR : rm_M_nameRun = rm_M_nameRun := rfl
    exact wb_M_nameRun_0 C0 hR N () trivial u _ x hf s.heap [] hP hD hS ls (lv_sub hl [0, 1] rfl))
abbrev b_M_unwatchRun : ByteArray := prog_14_method_158_code
def y_M_unwatchRun : MethodName := ⟨R_M, "unwatchRun", "()V"⟩
def w_M_unwatchRun : List Cond := wd_ws y_M_unwatchRun b_M_unwatchRun 4 none
set_option maxRecDepth 100000 in
theorem k_M_unwatchRun : Cond.code y_M_unwatchRun b_M_unwatchRun 4 none ∈ wd_tbl := wd_of 3149 rfl rfl
theorem d_M_unwatchRun_0 : decode b_M_unwatchRun 0 = .ok (.aload_n 0, 1) := by decide +kernel
theorem d_M_unwatchRun_1 : decode b_M_unwatchRun 1 = .ok (.invokevirtual 930, 3) := by decide +kernel
theorem d_M_unwatchRun_4 : decode b_M_unwatchRun 4 = .ok (.lstore_n 1, 1) := by decide +kernel
theorem d_M_unwatchRun_5 : decode b_M_unwatchRun 5 = .ok (.lload_n 1, 1) := by decide +kernel
theorem d_M_unwatchRun_6 : decode b_M_unwatchRun 6 = .ok (.invokestatic 676, 3) := by decide +kernel
theorem d_M_unwatchRun_9 : decode b_M_unwatchRun 9 = .ok (.iconst 2, 1) := by decide +kernel
theorem d_M_unwatchRun_10 : decode b_M_unwatchRun 10 = .ok (.if_icmp .eq 10, 3) := by decide +kernel
theorem d_M_unwatchRun_13 : decode b_M_unwatchRun 13 = .ok (.aload_n 0, 1) := by decide +kernel
theorem d_M_unwatchRun_14 : decode b_M_unwatchRun 14 = .ok (.bipush 11, 2) := by decide +kernel
theorem d_M_unwatchRun_16 : decode b_M_unwatchRun 16 = .ok (.invokevirtual 861, 3) := by decide +kernel
theorem d_M_unwatchRun_19 : decode b_M_unwatchRun 19 = .ok (.return_, 1) := by decide +kernel
theorem d_M_unwatchRun_20 : decode b_M_unwatchRun 20 = .ok (.iconst 0, 1) := by decide +kernel
theorem d_M_unwatchRun_21 : decode b_M_unwatchRun 21 = .ok (.istore_n 3, 1) := by decide +kernel
theorem d_M_unwatchRun_22 : decode b_M_unwatchRun 22 = .ok (.iload_n 3, 1) := by decide +kernel
theorem d_M_unwatchRun_23 : decode b_M_unwatchRun 23 = .ok (.aload_n 0, 1) := by decide +kernel
theorem d_M_unwatchRun_24 : decode b_M_unwatchRun 24 = .ok (.getfield 757, 3) := by decide +kernel
theorem d_M_unwatchRun_27 : decode b_M_unwatchRun 27 = .ok (.if_icmp .ge 43, 3) := by decide +kernel
theorem d_M_unwatchRun_30 : decode b_M_unwatchRun 30 = .ok (.aload_n 0, 1) := by decide +kernel
theorem d_M_unwatchRun_31 : decode b_M_unwatchRun 31 = .ok (.getfield 282, 3) := by decide +kernel
theorem d_M_unwatchRun_34 : decode b_M_unwatchRun 34 = .ok (.iload_n 3, 1) := by decide +kernel
theorem d_M_unwatchRun_35 : decode b_M_unwatchRun 35 = .ok (.iaload, 1) := by decide +kernel
theorem d_M_unwatchRun_36 : decode b_M_unwatchRun 36 = .ok (.lload_n 1, 1) := by decide +kernel
theorem d_M_unwatchRun_37 : decode b_M_unwatchRun 37 = .ok (.invokestatic 680, 3) := by decide +kernel
theorem d_M_unwatchRun_40 : decode b_M_unwatchRun 40 = .ok (.if_icmp .ne 24, 3) := by decide +kernel
theorem d_M_unwatchRun_43 : decode b_M_unwatchRun 43 = .ok (.aload_n 0, 1) := by decide +kernel
theorem d_M_unwatchRun_44 : decode b_M_unwatchRun 44 = .ok (.getfield 285, 3) := by decide +kernel
theorem d_M_unwatchRun_47 : decode b_M_unwatchRun 47 = .ok (.iload_n 3, 1) := by decide +kernel
theorem d_M_unwatchRun_48 : decode b_M_unwatchRun 48 = .ok (.iaload, 1) := by decide +kernel
theorem d_M_unwatchRun_49 : decode b_M_unwatchRun 49 = .ok (.aload_n 0, 1) := by decide +kernel
theorem d_M_unwatchRun_50 : decode b_M_unwatchRun 50 = .ok (.getfield 669, 3) := by decide +kernel
theorem d_M_unwatchRun_53 : decode b_M_unwatchRun 53 = .ok (.if_icmp .ne 11, 3) := by decide +kernel
theorem d_M_unwatchRun_56 : decode b_M_unwatchRun 56 = .ok (.aload_n 0, 1) := by decide +kernel
theorem d_M_unwatchRun_57 : decode b_M_unwatchRun 57 = .ok (.iload_n 3, 1) := by decide +kernel
theorem d_M_unwatchRun_58 : decode b_M_unwatchRun 58 = .ok (.invokevirtual 760, 3) := by decide +kernel
theorem d_M_unwatchRun_61 : decode b_M_unwatchRun 61 = .ok (.goto (-39), 3) := by decide +kernel
theorem d_M_unwatchRun_64 : decode b_M_unwatchRun 64 = .ok (.iinc 3 1, 3) := by decide +kernel
theorem d_M_unwatchRun_67 : decode b_M_unwatchRun 67 = .ok (.goto (-45), 3) := by decide +kernel
theorem d_M_unwatchRun_70 : decode b_M_unwatchRun 70 = .ok (.aload_n 0, 1) := by decide +kernel
theorem d_M_unwatchRun_71 : decode b_M_unwatchRun 71 = .ok (.iconst 1, 1) := by decide +kernel
theorem d_M_unwatchRun_72 : decode b_M_unwatchRun 72 = .ok (.invokestatic 940, 3) := by decide +kernel
theorem d_M_unwatchRun_75 : decode b_M_unwatchRun 75 = .ok (.invokevirtual 801, 3) := by decide +kernel
theorem d_M_unwatchRun_78 : decode b_M_unwatchRun 78 = .ok (.return_, 1) := by decide +kernel
set_option maxRecDepth 100000 in
theorem hl_M_unwatchRun : Cond.methodLink R_M 1019 y_M_unwatchRun ∈ wd_tbl := wd_of 3146 (by decide +kernel) rfl
set_option maxRecDepth 100000 in
theorem hi_M_unwatchRun : Cond.instanceMethod y_M_unwatchRun ∈ wd_tbl := wd_of 3148 (by decide +kernel) rfl
set_option maxRecDepth 100000 in
theorem hs_M_unwatchRun : Cond.selects R_M y_M_unwatchRun y_M_unwatchRun ∈ wd_tbl := wd_of 241 (by decide +kernel) rfl
theorem hd_M_unwatchRun : y_M_unwatchRun.cls = R_M ∧ y_M_unwatchRun.cls ≠ "java/lang/invoke/MethodHandle" ∧ y_M_unwatchRun.cls ≠ "java/lang/invoke/VarHandle" ∧ (parseMethodDescriptor y_M_unwatchRun.desc).map (fun d => d.parameters.length) = some 0 := by decide +kernel
def rm_M_unwatchRun : Room := { frames := 27, cells := 0, slots := 0, locals := 704 }
theorem rm_M_unwatchRun_M_take {R : Room} (hR : R = rm_M_unwatchRun) : (rm_M_take).frames + 1 ≤ R.frames ∧ 8 + (1 + 11) + (rm_M_take).locals ≤ R.locals := by subst hR; decide
theorem rm_M_unwatchRun_M_sortOf {R : Room} (hR : R = rm_M_unwatchRun) : (rm_M_sortOf).frames + 1 ≤ R.frames ∧ 8 + (2 + 11) + (rm_M_sortOf).locals ≤ R.locals := by subst hR; decide
theorem rm_M_unwatchRun_M_error {R : Room} (hR : R = rm_M_unwatchRun) : (rm_M_error).frames + 1 ≤ R.frames ∧ 8 + (2 + 11) + (rm_M_error).locals ≤ R.locals := by subst hR; decide
theorem rm_M_unwatchRun_M_valueOf {R : Room} (hR : R = rm_M_unwatchRun) : (rm_M_valueOf).frames + 1 ≤ R.frames ∧ 8 + (2 + 11) + (rm_M_valueOf).locals ≤ R.locals := by subst hR; decide
theorem rm_M_unwatchRun_M_removeWatch {R : Room} (hR : R = rm_M_unwatchRun) : (rm_M_removeWatch).frames + 1 ≤ R.frames ∧ 8 + (3 + 11) + (rm_M_removeWatch).locals ≤ R.locals := by subst hR; decide
theorem rm_M_unwatchRun_M_truth {R : Room} (hR : R = rm_M_unwatchRun) : (rm_M_truth).frames + 1 ≤ R.frames ∧ 8 + (1 + 11) + (rm_M_truth).locals ≤ R.locals := by subst hR; decide
theorem rm_M_unwatchRun_M_put {R : Room} (hR : R = rm_M_unwatchRun) : (rm_M_put).frames + 1 ≤ R.frames ∧ 8 + (3 + 11) + (rm_M_put).locals ≤ R.locals := by subst hR; decide
def fb_M_unwatchRun_64 (N : Nat) (G : (MS → Int64 → Int32 → Option (MS × Unit))) (u : MS) (v1 : Int64) (v3 : Int32) : Option (MS × Unit) := G u (v1) ((v3 + 1))
set_option maxRecDepth 100000 in
set_option maxHeartbeats 4000000 in
theorem wb_M_unwatchRun_64 {p : Program} {l : Launch} {e : Env} {R : Room} {s : State} {m : MethodId} {args : Array Value} {below : List Frame} {meth : Method} {c : Code} {D : va_G} {cl : List vw_C} {cB cI cJ cZ cS : ClassId} {A : Nat → Prop} {iM h0 : Nat} {ad : Nat → Nat} (C0 : MCx p s m args meth c b_M_unwatchRun 4 none D cl cB cI cJ cZ cS iM A) (hR : R = rm_M_unwatchRun) (N : Nat) (G : (MS → Int64 → Int32 → Option (MS × Unit))) (hG : (∀ (u : MS) (v1 : Int64) (v3 : Int32) (x : MS × Unit), G u v1 v3 = some x → ∀ (H : Heap) (locs : List Loc), va_P D cl (wM cB cI cJ cZ cS iM h0 ad u) H → va_D A (wM cB cI cJ cZ cS iM h0 ad u) → va_S A s.heap H locs → ∀ (ls : Array Slot), lv_has ls 4 [(0, .ref h0), (1, .long v1), (3, .int v3)] → W p l e R s m args below meth c H locs 0 0 (MQ below (mQv D cl cB cI cJ cZ cS iM h0 ad A x) args s 0 0 A) (F0 m 22 ls []))) : ∀ (u : MS) (v1 : Int64) (v3 : Int32) (x : MS × Unit), fb_M_unwatchRun_64 N G u v1 v3 = some x → ∀ (H : Heap) (locs : List Loc), va_P D cl (wM cB cI cJ cZ cS iM h0 ad u) H → va_D A (wM cB cI cJ cZ cS iM h0 ad u) → va_S A s.heap H locs → ∀ (ls : Array Slot), lv_has ls 4 [(0, .ref h0), (1, .long v1), (3, .int v3)] → W p l e R s m args below meth c H locs 0 0 (MQ below (mQv D cl cB cI cJ cZ cS iM h0 ad A x) args s 0 0 A) (F0 m 64 ls []) := by
  intro u v1 v3 x hf H locs hP hD hS ls hl
  obtain ⟨hx, hb, hr, hml, ht, hown, hM, hK, hA, hlocks⟩ := id C0
  unfold fb_M_unwatchRun_64 at hf
  refine lv_iinc (v := (v3 + 1)) (lv' := [(3, .int (v3 + 1)), (0, .ref h0), (1, .long v1)]) hx hb d_M_unwatchRun_64 hl (k := 2) rfl rfl (by decide) rfl (fun ls hl => ?_)
  refine lv_goto (tgt := 22) hx hb d_M_unwatchRun_67 (by decide) ?_
  exact hG _ _ _ _ hf H locs hP hD hS ls (lv_sub hl [1, 2, 0] rfl)
def fb_M_unwatchRun_22 (N : Nat) (G : (MS → Int64 → Int32 → Option (MS × Unit))) (u : MS) (v1 : Int64) (v3 : Int32) : Option (MS × Unit) := br (decide ((u.1 125) ≤ v3)) (bnd (fm_M_truth N u 1) (fun u1 r1 => bnd (fm_M_put N u1 r1) (fun u2 _ => some (u2, ())))) (ck (inb v3 (ln 122)) (bnd (fm_M_valueOf N u v1) (fun u3 r3 => br (decide ((u.2.2.1 122 v3.toNatClampNeg) = r3)) (ck (inb v3 (ln 123)) (br (decide ((u3.2.2.1 123 v3.toNatClampNeg) = (u3.1 133))) (bnd (fm_M_removeWatch N u3 v3) (fun u4 _ => G u4 (v1) (v3))) (fb_M_unwatchRun_64 N G u3 (v1) (v3)))) (fb_M_unwatchRun_64 N G u3 (v1) (v3)))))
set_option maxRecDepth 100000 in
set_option maxHeartbeats 4000000 in
theorem wb_M_unwatchRun_22 {p : Program} {l : Launch} {e : Env} {R : Room} {s : State} {m : MethodId} {args : Array Value} {below : List Frame} {meth : Method} {c : Code} {D : va_G} {cl : List vw_C} {cB cI cJ cZ cS : ClassId} {A : Nat → Prop} {iM h0 : Nat} {ad : Nat → Nat} (C0 : MCx p s m args meth c b_M_unwatchRun 4 none D cl cB cI cJ cZ cS iM A) (hR : R = rm_M_unwatchRun) (N : Nat) (G : (MS → Int64 → Int32 → Option (MS × Unit))) (hG : (∀ (u : MS) (v1 : Int64) (v3 : Int32) (x : MS × Unit), G u v1 v3 = some x → ∀ (H : Heap) (locs : List Loc), va_P D cl (wM cB cI cJ cZ cS iM h0 ad u) H → va_D A (wM cB cI cJ cZ cS iM h0 ad u) → va_S A s.heap H locs → ∀ (ls : Array Slot), lv_has ls 4 [(0, .ref h0), (1, .long v1), (3, .int v3)] → W p l e R s m args below meth c H locs 0 0 (MQ below (mQv D cl cB cI cJ cZ cS iM h0 ad A x) args s 0 0 A) (F0 m 22 ls []))) : ∀ (u : MS) (v1 : Int64) (v3 : Int32) (x : MS × Unit), fb_M_unwatchRun_22 N G u v1 v3 = some x → ∀ (H : Heap) (locs : List Loc), va_P D cl (wM cB cI cJ cZ cS iM h0 ad u) H → va_D A (wM cB cI cJ cZ cS iM h0 ad u) → va_S A s.heap H locs → ∀ (ls : Array Slot), lv_has ls 4 [(0, .ref h0), (1, .long v1), (3, .int v3)] → W p l e R s m args below meth c H locs 0 0 (MQ below (mQv D cl cB cI cJ cZ cS iM h0 ad A x) args s 0 0 A) (F0 m 22 ls []) := by
  intro u v1 v3 x hf H locs hP hD hS ls hl
  obtain ⟨hx, hb, hr, hml, ht, hown, hM, hK, hA, hlocks⟩ := id C0
  unfold fb_M_unwatchRun_22 at hf
  refine lv_iload_n hx hb d_M_unwatchRun_22 rfl (lv_at hl 2 rfl) ?_
  refine lv_aload_n hx hb d_M_unwatchRun_23 rfl (lv_at hl 0 rfl) ?_
  refine ug_I hx hb ht hown hM hK hP 125 (by decide) lk_M_125 (by decide) d_M_unwatchRun_24 ?_
  refine lv_icmp_ge (tgt := 70) hx hb d_M_unwatchRun_27 (by decide) (fun hc => ?_) (fun hc => ?_)
  · rw [br_p _ hc] at hf
    refine lv_aload_n hx hb d_M_unwatchRun_70 rfl (lv_at hl 0 rfl) ?_
    refine lv_iconst (v := 1) hx hb d_M_unwatchRun_71 (by decide) ?_
    obtain ⟨u1, r1, hc1, hf⟩ := bnd_some hf
    refine mS_l (As := [.int 1]) (rest := [.ref h0]) C0 hP hD hS (c_M_truth N hM hc1) k_M_truth hl_M_truth ht_M_truth hini_M rfl rfl hd_M_truth rfl (rm_M_unwatchRun_M_truth hR) hl.1 (Nat.le_of_ble_eq_true rfl) d_M_unwatchRun_72 rfl ⟨Nat.zero_le _, Nat.zero_le _⟩ (fun H locs hP hD hS => ?_)
    obtain ⟨u2, r2, hc2, hf⟩ := bnd_some hf
    refine mV_v (As := [.long r1]) (rest := []) C0 hP hD hS (c_M_put N hM hc2) k_M_put hl_M_put hi_M_put hs_M_put hini_M rfl rfl hd_M_put rfl (rm_M_unwatchRun_M_put hR) hl.1 (Nat.le_of_ble_eq_true rfl) d_M_unwatchRun_75 rfl ⟨Nat.zero_le _, Nat.zero_le _⟩ (fun H locs hP hD hS => ?_)
    exact mr_v C0 hP hD hS hf d_M_unwatchRun_78
  · rw [br_n _ hc] at hf
    refine lv_aload_n hx hb d_M_unwatchRun_30 rfl (lv_at hl 0 rfl) ?_
    refine ug_R hx hb ht hown hM hK hP 122 (by decide) lk_M_122 (by decide) d_M_unwatchRun_31 ?_
    refine lv_iload_n hx hb d_M_unwatchRun_34 rfl (lv_at hl 2 rfl) ?_
    obtain ⟨hi9, hf⟩ := ck_some hf
    refine ul_I hx hb hK hP (by decide) (by decide) hi9 d_M_unwatchRun_35 ?_
    refine lv_lload_n hx hb d_M_unwatchRun_36 rfl (lv_at hl 1 rfl) ?_
    obtain ⟨u3, r3, hc3, hf⟩ := bnd_some hf
    refine mS_i (As := [.long v1]) (rest := [.int (u.2.2.1 122 v3.toNatClampNeg)]) C0 hP hD hS (c_M_valueOf N hM hc3) k_M_valueOf hl_M_valueOf ht_M_valueOf hini_M rfl rfl hd_M_valueOf rfl (rm_M_unwatchRun_M_valueOf hR) hl.1 (Nat.le_of_ble_eq_true rfl) d_M_unwatchRun_37 rfl ⟨Nat.zero_le _, Nat.zero_le _⟩ (fun H locs hP hD hS => ?_)
    refine lv_icmp_ne (tgt := 64) hx hb d_M_unwatchRun_40 (by decide) (fun hc => ?_) (fun hc => ?_)
    · rw [br_n _ hc] at hf
      exact wb_M_unwatchRun_64 C0 hR N G hG _ _ _ _ hf H locs hP hD hS ls (lv_sub hl [0, 1, 2] rfl)
    · rw [br_p _ hc] at hf
      refine lv_aload_n hx hb d_M_unwatchRun_43 rfl (lv_at hl 0 rfl) ?_
      refine ug_R hx hb ht hown hM hK hP 123 (by decide) lk_M_123 (by decide) d_M_unwatchRun_44 ?_
      refine lv_iload_n hx hb d_M_unwatchRun_47 rfl (lv_at hl 2 rfl) ?_
      obtain ⟨hi9, hf⟩ := ck_some hf
      refine ul_I hx hb hK hP (by decide) (by decide) hi9 d_M_unwatchRun_48 ?_
      refine lv_aload_n hx hb d_M_unwatchRun_49 rfl (lv_at hl 0 rfl) ?_
      refine ug_I hx hb ht hown hM hK hP 133 (by decide) lk_M_133 (by decide) d_M_unwatchRun_50 ?_
      refine lv_icmp_ne (tgt := 64) hx hb d_M_unwatchRun_53 (by decide) (fun hc => ?_) (fun hc => ?_)
      · rw [br_n _ hc] at hf
        exact wb_M_unwatchRun_64 C0 hR N G hG _ _ _ _ hf H locs hP hD hS ls (lv_sub hl [0, 1, 2] rfl)
      · rw [br_p _ hc] at hf
        refine lv_aload_n hx hb d_M_unwatchRun_56 rfl (lv_at hl 0 rfl) ?_
        refine lv_iload_n hx hb d_M_unwatchRun_57 rfl (lv_at hl 2 rfl) ?_
        obtain ⟨u4, r4, hc4, hf⟩ := bnd_some hf
        refine mV_v (As := [.int v3]) (rest := []) C0 hP hD hS (c_M_removeWatch N hM hc4) k_M_removeWatch hl_M_removeWatch hi_M_removeWatch hs_M_removeWatch hini_M rfl rfl hd_M_removeWatch rfl (rm_M_unwatchRun_M_removeWatch hR) hl.1 (Nat.le_of_ble_eq_true rfl) d_M_unwatchRun_58 rfl ⟨Nat.zero_le _, Nat.zero_le _⟩ (fun H locs hP hD hS => ?_)
        refine lv_goto (tgt := 22) hx hb d_M_unwatchRun_61 (by decide) ?_
        exact hG _ _ _ _ hf H locs hP hD hS ls (lv_sub hl [0, 1, 2] rfl)
def fb_M_unwatchRun_0 (N : Nat) (G : (MS → Int64 → Int32 → Option (MS × Unit))) (u : MS) : Option (MS × Unit) := bnd (fm_M_take N u) (fun u5 r5 => bnd (fm_M_sortOf N u5 r5) (fun u6 r6 => br (decide (r6 = 2)) (G u6 (r5) (0)) (bnd (fr_M_error N u6 11) (fun u7 _ => some (u7, ())))))
set_option maxRecDepth 100000 in
set_option maxHeartbeats 4000000 in
theorem wb_M_unwatchRun_0 {p : Program} {l : Launch} {e : Env} {R : Room} {s : State} {m : MethodId} {args : Array Value} {below : List Frame} {meth : Method} {c : Code} {D : va_G} {cl : List vw_C} {cB cI cJ cZ cS : ClassId} {A : Nat → Prop} {iM h0 : Nat} {ad : Nat → Nat} (C0 : MCx p s m args meth c b_M_unwatchRun 4 none D cl cB cI cJ cZ cS iM A) (hR : R = rm_M_unwatchRun) (N : Nat) (G : (MS → Int64 → Int32 → Option (MS × Unit))) (hG : (∀ (u : MS) (v1 : Int64) (v3 : Int32) (x : MS × Unit), G u v1 v3 = some x → ∀ (H : Heap) (locs : List Loc), va_P D cl (wM cB cI cJ cZ cS iM h0 ad u) H → va_D A (wM cB cI cJ cZ cS iM h0 ad u) → va_S A s.heap H locs → ∀ (ls : Array Slot), lv_has ls 4 [(0, .ref h0), (1, .long v1), (3, .int v3)] → W p l e R s m args below meth c H locs 0 0 (MQ below (mQv D cl cB cI cJ cZ cS iM h0 ad A x) args s 0 0 A) (F0 m 22 ls []))) : ∀ (u : MS) (x : MS × Unit), fb_M_unwatchRun_0 N G u = some x → ∀ (H : Heap) (locs : List Loc), va_P D cl (wM cB cI cJ cZ cS iM h0 ad u) H → va_D A (wM cB cI cJ cZ cS iM h0 ad u) → va_S A s.heap H locs → ∀ (ls : Array Slot), lv_has ls 4 [(0, .ref h0)] → W p l e R s m args below meth c H locs 0 0 (MQ below (mQv D cl cB cI cJ cZ cS iM h0 ad A x) args s 0 0 A) (F0 m 0 ls []) := by
  intro u x hf H locs hP hD hS ls hl
  obtain ⟨hx, hb, hr, hml, ht, hown, hM, hK, hA, hlocks⟩ := id C0
  unfold fb_M_unwatchRun_0 at hf
  refine lv_aload_n hx hb d_M_unwatchRun_0 rfl (lv_at hl 0 rfl) ?_
  obtain ⟨u5, r5, hc5, hf⟩ := bnd_some hf
  refine mV_l (As := []) (rest := []) C0 hP hD hS (c_M_take N hM hc5) k_M_take hl_M_take hi_M_take hs_M_take hini_M rfl rfl hd_M_take rfl (rm_M_unwatchRun_M_take hR) hl.1 (Nat.le_of_ble_eq_true rfl) d_M_unwatchRun_1 rfl ⟨Nat.zero_le _, Nat.zero_le _⟩ (fun H locs hP hD hS => ?_)
  refine lv_lstore_n (lv' := [(1, .long r5), (0, .ref h0)]) hx hb d_M_unwatchRun_4 rfl hl (by decide) rfl (fun ls hl => ?_)
  refine lv_lload_n hx hb d_M_unwatchRun_5 rfl (lv_at hl 0 rfl) ?_
  obtain ⟨u6, r6, hc6, hf⟩ := bnd_some hf
  refine mS_i (As := [.long r5]) (rest := []) C0 hP hD hS (c_M_sortOf N hM hc6) k_M_sortOf hl_M_sortOf ht_M_sortOf hini_M rfl rfl hd_M_sortOf rfl (rm_M_unwatchRun_M_sortOf hR) hl.1 (Nat.le_of_ble_eq_true rfl) d_M_unwatchRun_6 rfl ⟨Nat.zero_le _, Nat.zero_le _⟩ (fun H locs hP hD hS => ?_)
  refine lv_iconst (v := 2) hx hb d_M_unwatchRun_9 (by decide) ?_
  refine lv_icmp_eq (tgt := 20) hx hb d_M_unwatchRun_10 (by decide) (fun hc => ?_) (fun hc => ?_)
  · rw [br_p _ hc] at hf
    refine lv_iconst (v := 0) hx hb d_M_unwatchRun_20 (by decide) ?_
    refine lv_istore_n (lv' := [(3, .int 0), (1, .long r5), (0, .ref h0)]) hx hb d_M_unwatchRun_21 rfl hl (by decide) rfl (fun ls hl => ?_)
    exact hG _ _ _ _ hf H locs hP hD hS ls (lv_sub hl [2, 1, 0] rfl)
  · rw [br_n _ hc] at hf
    refine lv_aload_n hx hb d_M_unwatchRun_13 rfl (lv_at hl 1 rfl) ?_
    refine lv_bipush (v := 11) hx hb d_M_unwatchRun_14 (by decide) ?_
    obtain ⟨u7, r7, hc7, hf⟩ := bnd_some hf
    refine mV_v (As := [.int 11]) (rest := []) C0 hP hD hS (c_M_error N hM hc7) k_M_error hl_M_error hi_M_error hs_M_error hini_M rfl rfl hd_M_error rfl (rm_M_unwatchRun_M_error hR) hl.1 (Nat.le_of_ble_eq_true rfl) d_M_unwatchRun_16 rfl ⟨Nat.zero_le _, Nat.zero_le _⟩ (fun H locs hP hD hS => ?_)
    exact mr_v C0 hP hD hS hf d_M_unwatchRun_19
def gg_M_unwatchRun (N : Nat) : Nat → ((MS → Int64 → Int32 → Option (MS × Unit)))
  | 0 => fun _ _ _ => none
  | n + 1 => fb_M_unwatchRun_22 N (gg_M_unwatchRun N n)
theorem wg_M_unwatchRun {p : Program} {l : Launch} {e : Env} {R : Room} {s : State} {m : MethodId} {args : Array Value} {below : List Frame} {meth : Method} {c : Code} {D : va_G} {cl : List vw_C} {cB cI cJ cZ cS : ClassId} {A : Nat → Prop} {iM h0 : Nat} {ad : Nat → Nat} (C0 : MCx p s m args meth c b_M_unwatchRun 4 none D cl cB cI cJ cZ cS iM A) (hR : R = rm_M_unwatchRun) (N : Nat) : ∀ n : Nat, (∀ (u : MS) (v1 : Int64) (v3 : Int32) (x : MS × Unit), gg_M_unwatchRun N n u v1 v3 = some x → ∀ (H : Heap) (locs : List Loc), va_P D cl (wM cB cI cJ cZ cS iM h0 ad u) H → va_D A (wM cB cI cJ cZ cS iM h0 ad u) → va_S A s.heap H locs → ∀ (ls : Array Slot), lv_has ls 4 [(0, .ref h0), (1, .long v1), (3, .int v3)] → W p l e R s m args below meth c H locs 0 0 (MQ below (mQv D cl cB cI cJ cZ cS iM h0 ad A x) args s 0 0 A) (F0 m 22 ls []))
  | 0 => (fun u v1 v3 x hf => by cases hf)
  | n + 1 => wb_M_unwatchRun_22 C0 hR N (gg_M_unwatchRun N n) (wg_M_unwatchRun C0 hR N n)
def fm_M_unwatchRun (N : Nat) (u : MS) : Option (MS × Unit) := fb_M_unwatchRun_0 N (gg_M_unwatchRun N N) u
set_option maxRecDepth 100000 in
set_option maxHeartbeats 4000000 in
theorem c_M_unwatchRun (N : Nat) {l : Launch} {D : va_G} {cl : List vw_C} {cB cI cJ cZ cS : ClassId} {iM h0 : Nat} {ad : Nat → Nat} {u : MS} {sz : Nat} {x : MS × Unit} (hM : cl[iM]? = some (R_M, F_M, 171)) (hf : fm_M_unwatchRun N u = some x) : Met l y_M_unwatchRun (wd_ws y_M_unwatchRun b_M_unwatchRun 4 none) rm_M_unwatchRun (mPc D cl cB cI cJ cZ cS iM h0 ad u sz [.ref h0]) (mQv D cl cB cI cJ cZ cS iM h0 ad (mA cB cI cJ cZ cS iM h0 ad u sz) x) 0 0 (mA cB cI cJ cZ cS iM h0 ad u sz) :=
  mMet (by decide) rfl hM (Nat.le_of_ble_eq_true rfl) (fun p e s m below meth c ls hsz C0 hP hD hS hl => by
    have hR : rm_M_unwatchRun = rm_M_unwatchRun := rfl
    exact wb_M_unwatchRun_0 C0 hR N (gg_M_unwatchRun N N) (wg_M_unwatchRun C0 hR N N) u x hf s.heap [] hP hD hS ls (lv_sub hl [0] rfl))
abbrev b_M_exitRun : ByteArray := prog_14_method_157_code
def y_M_exitRun : MethodName := ⟨R_M, "exitRun", "(IJ)V"⟩
def w_M_exitRun : List Cond := wd_ws y_M_exitRun b_M_exitRun 4 none
set_option maxRecDepth 100000 in
theorem k_M_exitRun : Cond.code y_M_exitRun b_M_exitRun 4 none ∈ wd_tbl := wd_of 3161 rfl rfl
theorem d_M_exitRun_0 : decode b_M_exitRun 0 = .ok (.aload_n 0, 1) := by decide +kernel
theorem d_M_exitRun_1 : decode b_M_exitRun 1 = .ok (.getfield 255, 3) := by decide +kernel
theorem d_M_exitRun_4 : decode b_M_exitRun 4 = .ok (.iload_n 1, 1) := by decide +kernel
theorem d_M_exitRun_5 : decode b_M_exitRun 5 = .ok (.iaload, 1) := by decide +kernel
theorem d_M_exitRun_6 : decode b_M_exitRun 6 = .ok (.iconst 3, 1) := by decide +kernel
theorem d_M_exitRun_7 : decode b_M_exitRun 7 = .ok (.if_icmp .ne 4, 3) := by decide +kernel
theorem d_M_exitRun_10 : decode b_M_exitRun 10 = .ok (.return_, 1) := by decide +kernel
theorem d_M_exitRun_11 : decode b_M_exitRun 11 = .ok (.lload_n 2, 1) := by decide +kernel
theorem d_M_exitRun_12 : decode b_M_exitRun 12 = .ok (.iconst 1, 1) := by decide +kernel
theorem d_M_exitRun_13 : decode b_M_exitRun 13 = .ok (.iconst 5, 1) := by decide +kernel
theorem d_M_exitRun_14 : decode b_M_exitRun 14 = .ok (.invokestatic 315, 3) := by decide +kernel
theorem d_M_exitRun_17 : decode b_M_exitRun 17 = .ok (.lcmp, 1) := by decide +kernel
theorem d_M_exitRun_18 : decode b_M_exitRun 18 = .ok (.ifCond .ne 19, 3) := by decide +kernel
theorem d_M_exitRun_21 : decode b_M_exitRun 21 = .ok (.aload_n 0, 1) := by decide +kernel
theorem d_M_exitRun_22 : decode b_M_exitRun 22 = .ok (.iload_n 1, 1) := by decide +kernel
theorem d_M_exitRun_23 : decode b_M_exitRun 23 = .ok (.iconst 0, 1) := by decide +kernel
theorem d_M_exitRun_24 : decode b_M_exitRun 24 = .ok (.iload_n 1, 1) := by decide +kernel
theorem d_M_exitRun_25 : decode b_M_exitRun 25 = .ok (.iconst 1, 1) := by decide +kernel
theorem d_M_exitRun_26 : decode b_M_exitRun 26 = .ok (.bipush 6, 2) := by decide +kernel
theorem d_M_exitRun_28 : decode b_M_exitRun 28 = .ok (.invokestatic 315, 3) := by decide +kernel
theorem d_M_exitRun_31 : decode b_M_exitRun 31 = .ok (.invokevirtual 767, 3) := by decide +kernel
theorem d_M_exitRun_34 : decode b_M_exitRun 34 = .ok (.goto 77, 3) := by decide +kernel
theorem d_M_exitRun_37 : decode b_M_exitRun 37 = .ok (.aload_n 0, 1) := by decide +kernel
theorem d_M_exitRun_38 : decode b_M_exitRun 38 = .ok (.getfield 264, 3) := by decide +kernel
theorem d_M_exitRun_41 : decode b_M_exitRun 41 = .ok (.iload_n 1, 1) := by decide +kernel
theorem d_M_exitRun_42 : decode b_M_exitRun 42 = .ok (.baload, 1) := by decide +kernel
theorem d_M_exitRun_43 : decode b_M_exitRun 43 = .ok (.ifCond .eq 23, 3) := by decide +kernel
theorem d_M_exitRun_46 : decode b_M_exitRun 46 = .ok (.aload_n 0, 1) := by decide +kernel
theorem d_M_exitRun_47 : decode b_M_exitRun 47 = .ok (.iload_n 1, 1) := by decide +kernel
theorem d_M_exitRun_48 : decode b_M_exitRun 48 = .ok (.iconst 0, 1) := by decide +kernel
theorem d_M_exitRun_49 : decode b_M_exitRun 49 = .ok (.iconst 0, 1) := by decide +kernel
theorem d_M_exitRun_50 : decode b_M_exitRun 50 = .ok (.aload_n 0, 1) := by decide +kernel
theorem d_M_exitRun_51 : decode b_M_exitRun 51 = .ok (.getfield 669, 3) := by decide +kernel
theorem d_M_exitRun_54 : decode b_M_exitRun 54 = .ok (.iconst 0, 1) := by decide +kernel
theorem d_M_exitRun_55 : decode b_M_exitRun 55 = .ok (.aload_n 0, 1) := by decide +kernel
theorem d_M_exitRun_56 : decode b_M_exitRun 56 = .ok (.getfield 669, 3) := by decide +kernel
theorem d_M_exitRun_59 : decode b_M_exitRun 59 = .ok (.lload_n 2, 1) := by decide +kernel
theorem d_M_exitRun_60 : decode b_M_exitRun 60 = .ok (.invokevirtual 763, 3) := by decide +kernel
theorem d_M_exitRun_63 : decode b_M_exitRun 63 = .ok (.goto 48, 3) := by decide +kernel
theorem d_M_exitRun_66 : decode b_M_exitRun 66 = .ok (.iload_n 1, 1) := by decide +kernel
theorem d_M_exitRun_67 : decode b_M_exitRun 67 = .ok (.aload_n 0, 1) := by decide +kernel
theorem d_M_exitRun_68 : decode b_M_exitRun 68 = .ok (.getfield 669, 3) := by decide +kernel
theorem d_M_exitRun_71 : decode b_M_exitRun 71 = .ok (.if_icmp .eq 13, 3) := by decide +kernel
theorem d_M_exitRun_74 : decode b_M_exitRun 74 = .ok (.lload_n 2, 1) := by decide +kernel
theorem d_M_exitRun_75 : decode b_M_exitRun 75 = .ok (.iconst 1, 1) := by decide +kernel
theorem d_M_exitRun_76 : decode b_M_exitRun 76 = .ok (.iconst 4, 1) := by decide +kernel
theorem d_M_exitRun_77 : decode b_M_exitRun 77 = .ok (.invokestatic 315, 3) := by decide +kernel
theorem d_M_exitRun_80 : decode b_M_exitRun 80 = .ok (.lcmp, 1) := by decide +kernel
theorem d_M_exitRun_81 : decode b_M_exitRun 81 = .ok (.ifCond .eq 30, 3) := by decide +kernel
theorem d_M_exitRun_84 : decode b_M_exitRun 84 = .ok (.aload_n 0, 1) := by decide +kernel
theorem d_M_exitRun_85 : decode b_M_exitRun 85 = .ok (.getfield 192, 3) := by decide +kernel
theorem d_M_exitRun_88 : decode b_M_exitRun 88 = .ok (.bipush 24, 2) := by decide +kernel
theorem d_M_exitRun_90 : decode b_M_exitRun 90 = .ok (.iconst 0, 1) := by decide +kernel
theorem d_M_exitRun_91 : decode b_M_exitRun 91 = .ok (.iastore, 1) := by decide +kernel
theorem d_M_exitRun_92 : decode b_M_exitRun 92 = .ok (.aload_n 0, 1) := by decide +kernel
theorem d_M_exitRun_93 : decode b_M_exitRun 93 = .ok (.iload_n 1, 1) := by decide +kernel
theorem d_M_exitRun_94 : decode b_M_exitRun 94 = .ok (.iconst 0, 1) := by decide +kernel
theorem d_M_exitRun_95 : decode b_M_exitRun 95 = .ok (.bipush 24, 2) := by decide +kernel
theorem d_M_exitRun_97 : decode b_M_exitRun 97 = .ok (.aload_n 0, 1) := by decide +kernel
theorem d_M_exitRun_98 : decode b_M_exitRun 98 = .ok (.aload_n 0, 1) := by decide +kernel
theorem d_M_exitRun_99 : decode b_M_exitRun 99 = .ok (.getfield 669, 3) := by decide +kernel
theorem d_M_exitRun_102 : decode b_M_exitRun 102 = .ok (.lload_n 2, 1) := by decide +kernel
theorem d_M_exitRun_103 : decode b_M_exitRun 103 = .ok (.bipush 24, 2) := by decide +kernel
theorem d_M_exitRun_105 : decode b_M_exitRun 105 = .ok (.invokevirtual 785, 3) := by decide +kernel
theorem d_M_exitRun_108 : decode b_M_exitRun 108 = .ok (.invokevirtual 767, 3) := by decide +kernel
theorem d_M_exitRun_111 : decode b_M_exitRun 111 = .ok (.return_, 1) := by decide +kernel
set_option maxRecDepth 100000 in
theorem hl_M_exitRun : Cond.methodLink R_M 1022 y_M_exitRun ∈ wd_tbl := wd_of 3158 (by decide +kernel) rfl
set_option maxRecDepth 100000 in
theorem hi_M_exitRun : Cond.instanceMethod y_M_exitRun ∈ wd_tbl := wd_of 3160 (by decide +kernel) rfl
set_option maxRecDepth 100000 in
theorem hs_M_exitRun : Cond.selects R_M y_M_exitRun y_M_exitRun ∈ wd_tbl := wd_of 244 (by decide +kernel) rfl
theorem hd_M_exitRun : y_M_exitRun.cls = R_M ∧ y_M_exitRun.cls ≠ "java/lang/invoke/MethodHandle" ∧ y_M_exitRun.cls ≠ "java/lang/invoke/VarHandle" ∧ (parseMethodDescriptor y_M_exitRun.desc).map (fun d => d.parameters.length) = some 2 := by decide +kernel
def rm_M_exitRun : Room := { frames := 6, cells := 0, slots := 0, locals := 160 }
theorem rm_M_exitRun_M_term {R : Room} (hR : R = rm_M_exitRun) : (rm_M_term).frames + 1 ≤ R.frames ∧ 8 + (2 + 11) + (rm_M_term).locals ≤ R.locals := by subst hR; decide
theorem rm_M_exitRun_M_willEnd {R : Room} (hR : R = rm_M_exitRun) : (rm_M_willEnd).frames + 1 ≤ R.frames ∧ 8 + (6 + 11) + (rm_M_willEnd).locals ≤ R.locals := by subst hR; decide
theorem rm_M_exitRun_M_message {R : Room} (hR : R = rm_M_exitRun) : (rm_M_message).frames + 1 ≤ R.frames ∧ 8 + (18 + 11) + (rm_M_message).locals ≤ R.locals := by subst hR; decide
theorem rm_M_exitRun_M_copy {R : Room} (hR : R = rm_M_exitRun) : (rm_M_copy).frames + 1 ≤ R.frames ∧ 8 + (16 + 11) + (rm_M_copy).locals ≤ R.locals := by subst hR; decide
def fb_M_exitRun_111 (N : Nat) (G : Unit) (u : MS) : Option (MS × Unit) := some (u, ())
set_option maxRecDepth 100000 in
set_option maxHeartbeats 4000000 in
theorem wb_M_exitRun_111 {p : Program} {l : Launch} {e : Env} {R : Room} {s : State} {m : MethodId} {args : Array Value} {below : List Frame} {meth : Method} {c : Code} {D : va_G} {cl : List vw_C} {cB cI cJ cZ cS : ClassId} {A : Nat → Prop} {iM h0 : Nat} {ad : Nat → Nat} (C0 : MCx p s m args meth c b_M_exitRun 4 none D cl cB cI cJ cZ cS iM A) (hR : R = rm_M_exitRun) (N : Nat) (G : Unit) (hG : True) : ∀ (u : MS) (x : MS × Unit), fb_M_exitRun_111 N G u = some x → ∀ (H : Heap) (locs : List Loc), va_P D cl (wM cB cI cJ cZ cS iM h0 ad u) H → va_D A (wM cB cI cJ cZ cS iM h0 ad u) → va_S A s.heap H locs → ∀ (ls : Array Slot), lv_has ls 4 [] → W p l e R s m args below meth c H locs 0 0 (MQ below (mQv D cl cB cI cJ cZ cS iM h0 ad A x) args s 0 0 A) (F0 m 111 ls []) := by
  intro u x hf H locs hP hD hS ls hl
  obtain ⟨hx, hb, hr, hml, ht, hown, hM, hK, hA, hlocks⟩ := id C0
  unfold fb_M_exitRun_111 at hf
  exact mr_v C0 hP hD hS hf d_M_exitRun_111
def fb_M_exitRun_84 (N : Nat) (G : Unit) (u : MS) (v1 : Int32) (v2 : Int64) : Option (MS × Unit) := ck (inb (24 : Int32) (ln 89)) (lt (upA u 89 (upd (u.2.2.1 89) (24 : Int32).toNatClampNeg 0)) (fun w1 => bnd (fm_M_copy N w1 (w1.1 133) v2 24) (fun u2 r2 => bnd (fm_M_willEnd N u2 v1 0 24 r2) (fun u3 _ => fb_M_exitRun_111 N G u3))))
set_option maxRecDepth 100000 in
set_option maxHeartbeats 4000000 in
theorem wb_M_exitRun_84 {p : Program} {l : Launch} {e : Env} {R : Room} {s : State} {m : MethodId} {args : Array Value} {below : List Frame} {meth : Method} {c : Code} {D : va_G} {cl : List vw_C} {cB cI cJ cZ cS : ClassId} {A : Nat → Prop} {iM h0 : Nat} {ad : Nat → Nat} (C0 : MCx p s m args meth c b_M_exitRun 4 none D cl cB cI cJ cZ cS iM A) (hR : R = rm_M_exitRun) (N : Nat) (G : Unit) (hG : True) : ∀ (u : MS) (v1 : Int32) (v2 : Int64) (x : MS × Unit), fb_M_exitRun_84 N G u v1 v2 = some x → ∀ (H : Heap) (locs : List Loc), va_P D cl (wM cB cI cJ cZ cS iM h0 ad u) H → va_D A (wM cB cI cJ cZ cS iM h0 ad u) → va_S A s.heap H locs → ∀ (ls : Array Slot), lv_has ls 4 [(0, .ref h0), (1, .int v1), (2, .long v2)] → W p l e R s m args below meth c H locs 0 0 (MQ below (mQv D cl cB cI cJ cZ cS iM h0 ad A x) args s 0 0 A) (F0 m 84 ls []) := by
  intro u v1 v2 x hf H locs hP hD hS ls hl
  obtain ⟨hx, hb, hr, hml, ht, hown, hM, hK, hA, hlocks⟩ := id C0
  unfold fb_M_exitRun_84 at hf
  refine lv_aload_n hx hb d_M_exitRun_84 rfl (lv_at hl 0 rfl) ?_
  refine ug_R hx hb ht hown hM hK hP 89 (by decide) lk_M_89 (by decide) d_M_exitRun_85 ?_
  refine lv_bipush (v := 24) hx hb d_M_exitRun_88 (by decide) ?_
  refine lv_iconst (v := 0) hx hb d_M_exitRun_90 (by decide) ?_
  obtain ⟨hi9, hf⟩ := ck_some hf
  refine us_I hx hb hK hP hD hS (by decide) (by decide) hi9 d_M_exitRun_91 (fun H locs hP hD hS => ?_)
  obtain ⟨w1, e1, hf⟩ := lt_some hf
  rw [← e1] at hP hD
  refine lv_aload_n hx hb d_M_exitRun_92 rfl (lv_at hl 0 rfl) ?_
  refine lv_iload_n hx hb d_M_exitRun_93 rfl (lv_at hl 1 rfl) ?_
  refine lv_iconst (v := 0) hx hb d_M_exitRun_94 (by decide) ?_
  refine lv_bipush (v := 24) hx hb d_M_exitRun_95 (by decide) ?_
  refine lv_aload_n hx hb d_M_exitRun_97 rfl (lv_at hl 0 rfl) ?_
  refine lv_aload_n hx hb d_M_exitRun_98 rfl (lv_at hl 0 rfl) ?_
  refine ug_I hx hb ht hown hM hK hP 133 (by decide) lk_M_133 (by decide) d_M_exitRun_99 ?_
  refine lv_lload_n hx hb d_M_exitRun_102 rfl (lv_at hl 2 rfl) ?_
  refine lv_bipush (v := 24) hx hb d_M_exitRun_103 (by decide) ?_
  obtain ⟨u2, r2, hc2, hf⟩ := bnd_some hf
  refine mV_l (As := [.int (w1.1 133), .long v2, .int 24]) (rest := [.int 24, .int 0, .int v1, .ref h0]) C0 hP hD hS (c_M_copy N hM hc2) k_M_copy hl_M_copy hi_M_copy hs_M_copy hini_M rfl rfl hd_M_copy rfl (rm_M_exitRun_M_copy hR) hl.1 (Nat.le_of_ble_eq_true rfl) d_M_exitRun_105 rfl ⟨Nat.zero_le _, Nat.zero_le _⟩ (fun H locs hP hD hS => ?_)
  obtain ⟨u3, r3, hc3, hf⟩ := bnd_some hf
  refine mV_v (As := [.int v1, .int 0, .int 24, .long r2]) (rest := []) C0 hP hD hS (c_M_willEnd N hM hc3) k_M_willEnd hl_M_willEnd hi_M_willEnd hs_M_willEnd hini_M rfl rfl hd_M_willEnd rfl (rm_M_exitRun_M_willEnd hR) hl.1 (Nat.le_of_ble_eq_true rfl) d_M_exitRun_108 rfl ⟨Nat.zero_le _, Nat.zero_le _⟩ (fun H locs hP hD hS => ?_)
  exact wb_M_exitRun_111 C0 hR N G hG _ _ hf H locs hP hD hS ls (lv_sub hl [] rfl)
def fb_M_exitRun_0 (N : Nat) (G : Unit) (u : MS) (v1 : Int32) (v2 : Int64) : Option (MS × Unit) := ck (inb v1 (ln 109)) (br (decide ((u.2.2.1 109 v1.toNatClampNeg) = 3)) (some (u, ())) (bnd (fm_M_term N u 1 5) (fun u4 r4 => br (decide ((lg_cmp v2 r4) = 0)) (bnd (fm_M_term N u4 1 6) (fun u7 r7 => bnd (fm_M_willEnd N u7 v1 0 v1 r7) (fun u8 _ => fb_M_exitRun_111 N G u8))) (ck (inb v1 (ln 112)) (br (decide ((u4.2.2.1 112 v1.toNatClampNeg) = 0)) (br (decide (v1 = (u4.1 133))) (fb_M_exitRun_84 N G u4 (v1) (v2)) (bnd (fm_M_term N u4 1 4) (fun u5 r5 => br (decide ((lg_cmp v2 r5) = 0)) (fb_M_exitRun_111 N G u5) (fb_M_exitRun_84 N G u5 (v1) (v2))))) (bnd (fm_M_message N u4 v1 0 0 (u4.1 133) 0 (u4.1 133) v2) (fun u6 _ => fb_M_exitRun_111 N G u6)))))))
set_option maxRecDepth 100000 in
set_option maxHeartbeats 4000000 in
theorem wb_M_exitRun_0 {p : Program} {l : Launch} {e : Env} {R : Room} {s : State} {m : MethodId} {args : Array Value} {below : List Frame} {meth : Method} {c : Code} {D : va_G} {cl : List vw_C} {cB cI cJ cZ cS : ClassId} {A : Nat → Prop} {iM h0 : Nat} {ad : Nat → Nat} (C0 : MCx p s m args meth c b_M_exitRun 4 none D cl cB cI cJ cZ cS iM A) (hR : R = rm_M_exitRun) (N : Nat) (G : Unit) (hG : True) : ∀ (u : MS) (v1 : Int32) (v2 : Int64) (x : MS × Unit), fb_M_exitRun_0 N G u v1 v2 = some x → ∀ (H : Heap) (locs : List Loc), va_P D cl (wM cB cI cJ cZ cS iM h0 ad u) H → va_D A (wM cB cI cJ cZ cS iM h0 ad u) → va_S A s.heap H locs → ∀ (ls : Array Slot), lv_has ls 4 [(0, .ref h0), (1, .int v1), (2, .long v2)] → W p l e R s m args below meth c H locs 0 0 (MQ below (mQv D cl cB cI cJ cZ cS iM h0 ad A x) args s 0 0 A) (F0 m 0 ls []) := by
  intro u v1 v2 x hf H locs hP hD hS ls hl
  obtain ⟨hx, hb, hr, hml, ht, hown, hM, hK, hA, hlocks⟩ := id C0
  unfold fb_M_exitRun_0 at hf
  refine lv_aload_n hx hb d_M_exitRun_0 rfl (lv_at hl 0 rfl) ?_
  refine ug_R hx hb ht hown hM hK hP 109 (by decide) lk_M_109 (by decide) d_M_exitRun_1 ?_
  refine lv_iload_n hx hb d_M_exitRun_4 rfl (lv_at hl 1 rfl) ?_
  obtain ⟨hi9, hf⟩ := ck_some hf
  refine ul_I hx hb hK hP (by decide) (by decide) hi9 d_M_exitRun_5 ?_
  refine lv_iconst (v := 3) hx hb d_M_exitRun_6 (by decide) ?_
  refine lv_icmp_ne (tgt := 11) hx hb d_M_exitRun_7 (by decide) (fun hc => ?_) (fun hc => ?_)
  · rw [br_n _ hc] at hf
    refine lv_lload_n hx hb d_M_exitRun_11 rfl (lv_at hl 2 rfl) ?_
    refine lv_iconst (v := 1) hx hb d_M_exitRun_12 (by decide) ?_
    refine lv_iconst (v := 5) hx hb d_M_exitRun_13 (by decide) ?_
    obtain ⟨u4, r4, hc4, hf⟩ := bnd_some hf
    refine mS_l (As := [.int 1, .int 5]) (rest := [.long v2]) C0 hP hD hS (c_M_term N hM hc4) k_M_term hl_M_term ht_M_term hini_M rfl rfl hd_M_term rfl (rm_M_exitRun_M_term hR) hl.1 (Nat.le_of_ble_eq_true rfl) d_M_exitRun_14 rfl ⟨Nat.zero_le _, Nat.zero_le _⟩ (fun H locs hP hD hS => ?_)
    refine W.lcmp hx hb d_M_exitRun_17 ?_
    refine lv_if_ne (tgt := 37) hx hb d_M_exitRun_18 (by decide) (fun hc => ?_) (fun hc => ?_)
    · rw [br_n _ hc] at hf
      refine lv_aload_n hx hb d_M_exitRun_37 rfl (lv_at hl 0 rfl) ?_
      refine ug_R hx hb ht hown hM hK hP 112 (by decide) lk_M_112 (by decide) d_M_exitRun_38 ?_
      refine lv_iload_n hx hb d_M_exitRun_41 rfl (lv_at hl 1 rfl) ?_
      obtain ⟨hi9, hf⟩ := ck_some hf
      refine ul_Z hx hb hK hP (by decide) (by decide) hi9 d_M_exitRun_42 ?_
      refine lv_if_eq (tgt := 66) hx hb d_M_exitRun_43 (by decide) (fun hc => ?_) (fun hc => ?_)
      · rw [br_p _ hc] at hf
        refine lv_iload_n hx hb d_M_exitRun_66 rfl (lv_at hl 1 rfl) ?_
        refine lv_aload_n hx hb d_M_exitRun_67 rfl (lv_at hl 0 rfl) ?_
        refine ug_I hx hb ht hown hM hK hP 133 (by decide) lk_M_133 (by decide) d_M_exitRun_68 ?_
        refine lv_icmp_eq (tgt := 84) hx hb d_M_exitRun_71 (by decide) (fun hc => ?_) (fun hc => ?_)
        · rw [br_p _ hc] at hf
          exact wb_M_exitRun_84 C0 hR N G hG _ _ _ _ hf H locs hP hD hS ls (lv_sub hl [0, 1, 2] rfl)
        · rw [br_n _ hc] at hf
          refine lv_lload_n hx hb d_M_exitRun_74 rfl (lv_at hl 2 rfl) ?_
          refine lv_iconst (v := 1) hx hb d_M_exitRun_75 (by decide) ?_
          refine lv_iconst (v := 4) hx hb d_M_exitRun_76 (by decide) ?_
          obtain ⟨u5, r5, hc5, hf⟩ := bnd_some hf
          refine mS_l (As := [.int 1, .int 4]) (rest := [.long v2]) C0 hP hD hS (c_M_term N hM hc5) k_M_term hl_M_term ht_M_term hini_M rfl rfl hd_M_term rfl (rm_M_exitRun_M_term hR) hl.1 (Nat.le_of_ble_eq_true rfl) d_M_exitRun_77 rfl ⟨Nat.zero_le _, Nat.zero_le _⟩ (fun H locs hP hD hS => ?_)
          refine W.lcmp hx hb d_M_exitRun_80 ?_
          refine lv_if_eq (tgt := 111) hx hb d_M_exitRun_81 (by decide) (fun hc => ?_) (fun hc => ?_)
          · rw [br_p _ hc] at hf
            exact wb_M_exitRun_111 C0 hR N G hG _ _ hf H locs hP hD hS ls (lv_sub hl [] rfl)
          · rw [br_n _ hc] at hf
            exact wb_M_exitRun_84 C0 hR N G hG _ _ _ _ hf H locs hP hD hS ls (lv_sub hl [0, 1, 2] rfl)
      · rw [br_n _ hc] at hf
        refine lv_aload_n hx hb d_M_exitRun_46 rfl (lv_at hl 0 rfl) ?_
        refine lv_iload_n hx hb d_M_exitRun_47 rfl (lv_at hl 1 rfl) ?_
        refine lv_iconst (v := 0) hx hb d_M_exitRun_48 (by decide) ?_
        refine lv_iconst (v := 0) hx hb d_M_exitRun_49 (by decide) ?_
        refine lv_aload_n hx hb d_M_exitRun_50 rfl (lv_at hl 0 rfl) ?_
        refine ug_I hx hb ht hown hM hK hP 133 (by decide) lk_M_133 (by decide) d_M_exitRun_51 ?_
        refine lv_iconst (v := 0) hx hb d_M_exitRun_54 (by decide) ?_
        refine lv_aload_n hx hb d_M_exitRun_55 rfl (lv_at hl 0 rfl) ?_
        refine ug_I hx hb ht hown hM hK hP 133 (by decide) lk_M_133 (by decide) d_M_exitRun_56 ?_
        refine lv_lload_n hx hb d_M_exitRun_59 rfl (lv_at hl 2 rfl) ?_
        obtain ⟨u6, r6, hc6, hf⟩ := bnd_some hf
        refine mV_v (As := [.int v1, .int 0, .int 0, .int (u4.1 133), .int 0, .int (u4.1 133), .long v2]) (rest := []) C0 hP hD hS (c_M_message N hM hc6) k_M_message hl_M_message hi_M_message hs_M_message hini_M rfl rfl hd_M_message rfl (rm_M_exitRun_M_message hR) hl.1 (Nat.le_of_ble_eq_true rfl) d_M_exitRun_60 rfl ⟨Nat.zero_le _, Nat.zero_le _⟩ (fun H locs hP hD hS => ?_)
        refine lv_goto (tgt := 111) hx hb d_M_exitRun_63 (by decide) ?_
        exact wb_M_exitRun_111 C0 hR N G hG _ _ hf H locs hP hD hS ls (lv_sub hl [] rfl)
    · rw [br_p _ hc] at hf
      refine lv_aload_n hx hb d_M_exitRun_21 rfl (lv_at hl 0 rfl) ?_
      refine lv_iload_n hx hb d_M_exitRun_22 rfl (lv_at hl 1 rfl) ?_
      refine lv_iconst (v := 0) hx hb d_M_exitRun_23 (by decide) ?_
      refine lv_iload_n hx hb d_M_exitRun_24 rfl (lv_at hl 1 rfl) ?_
      refine lv_iconst (v := 1) hx hb d_M_exitRun_25 (by decide) ?_
      refine lv_bipush (v := 6) hx hb d_M_exitRun_26 (by decide) ?_
      obtain ⟨u7, r7, hc7, hf⟩ := bnd_some hf
      refine mS_l (As := [.int 1, .int 6]) (rest := [.int v1, .int 0, .int v1, .ref h0]) C0 hP hD hS (c_M_term N hM hc7) k_M_term hl_M_term ht_M_term hini_M rfl rfl hd_M_term rfl (rm_M_exitRun_M_term hR) hl.1 (Nat.le_of_ble_eq_true rfl) d_M_exitRun_28 rfl ⟨Nat.zero_le _, Nat.zero_le _⟩ (fun H locs hP hD hS => ?_)
      obtain ⟨u8, r8, hc8, hf⟩ := bnd_some hf
      refine mV_v (As := [.int v1, .int 0, .int v1, .long r7]) (rest := []) C0 hP hD hS (c_M_willEnd N hM hc8) k_M_willEnd hl_M_willEnd hi_M_willEnd hs_M_willEnd hini_M rfl rfl hd_M_willEnd rfl (rm_M_exitRun_M_willEnd hR) hl.1 (Nat.le_of_ble_eq_true rfl) d_M_exitRun_31 rfl ⟨Nat.zero_le _, Nat.zero_le _⟩ (fun H locs hP hD hS => ?_)
      refine lv_goto (tgt := 111) hx hb d_M_exitRun_34 (by decide) ?_
      exact wb_M_exitRun_111 C0 hR N G hG _ _ hf H locs hP hD hS ls (lv_sub hl [] rfl)
  · rw [br_p _ hc] at hf
    exact mr_v C0 hP hD hS hf d_M_exitRun_10
def fm_M_exitRun (N : Nat) (u : MS) (v1 : Int32) (v2 : Int64) : Option (MS × Unit) := fb_M_exitRun_0 N () u v1 v2
set_option maxRecDepth 100000 in
set_option maxHeartbeats 4000000 in
theorem c_M_exitRun (N : Nat) {l : Launch} {D : va_G} {cl : List vw_C} {cB cI cJ cZ cS : ClassId} {iM h0 : Nat} {ad : Nat → Nat} {u : MS} {sz : Nat} {v1 : Int32} {v2 : Int64} {x : MS × Unit} (hM : cl[iM]? = some (R_M, F_M, 171)) (hf : fm_M_exitRun N u v1 v2 = some x) : Met l y_M_exitRun (wd_ws y_M_exitRun b_M_exitRun 4 none) rm_M_exitRun (mPc D cl cB cI cJ cZ cS iM h0 ad u sz [.ref h0, .int v1, .long v2]) (mQv D cl cB cI cJ cZ cS iM h0 ad (mA cB cI cJ cZ cS iM h0 ad u sz) x) 0 0 (mA cB cI cJ cZ cS iM h0 ad u sz) :=
  mMet (by decide) rfl hM (Nat.le_of_ble_eq_true rfl) (fun p e s m below meth c ls hsz C0 hP hD hS hl => by
    have hR : rm_M_exitRun = rm_M_exitRun := rfl
    exact wb_M_exitRun_0 C0 hR N () trivial u _ _ x hf s.heap [] hP hD hS ls (lv_sub hl [0, 1, 2] rfl))
abbrev b_M_isLinked : ByteArray := prog_14_method_156_code
def y_M_isLinked : MethodName := ⟨R_M, "isLinked", "(I)Z"⟩
def w_M_isLinked : List Cond := wd_ws y_M_isLinked b_M_isLinked 3 (some .boolean)
set_option maxRecDepth 100000 in
theorem k_M_isLinked : Cond.code y_M_isLinked b_M_isLinked 3 (some .boolean) ∈ wd_tbl := wd_of 3173 rfl rfl
theorem d_M_isLinked_0 : decode b_M_isLinked 0 = .ok (.iconst 0, 1) := by decide +kernel
theorem d_M_isLinked_1 : decode b_M_isLinked 1 = .ok (.istore_n 2, 1) := by decide +kernel
theorem d_M_isLinked_2 : decode b_M_isLinked 2 = .ok (.iload_n 2, 1) := by decide +kernel
theorem d_M_isLinked_3 : decode b_M_isLinked 3 = .ok (.aload_n 0, 1) := by decide +kernel
theorem d_M_isLinked_4 : decode b_M_isLinked 4 = .ok (.getfield 279, 3) := by decide +kernel
theorem d_M_isLinked_7 : decode b_M_isLinked 7 = .ok (.aload_n 0, 1) := by decide +kernel
theorem d_M_isLinked_8 : decode b_M_isLinked 8 = .ok (.getfield 669, 3) := by decide +kernel
theorem d_M_isLinked_11 : decode b_M_isLinked 11 = .ok (.iaload, 1) := by decide +kernel
theorem d_M_isLinked_12 : decode b_M_isLinked 12 = .ok (.if_icmp .ge 29, 3) := by decide +kernel
theorem d_M_isLinked_15 : decode b_M_isLinked 15 = .ok (.aload_n 0, 1) := by decide +kernel
theorem d_M_isLinked_16 : decode b_M_isLinked 16 = .ok (.getfield 276, 3) := by decide +kernel
theorem d_M_isLinked_19 : decode b_M_isLinked 19 = .ok (.bipush 24, 2) := by decide +kernel
theorem d_M_isLinked_21 : decode b_M_isLinked 21 = .ok (.aload_n 0, 1) := by decide +kernel
theorem d_M_isLinked_22 : decode b_M_isLinked 22 = .ok (.getfield 669, 3) := by decide +kernel
theorem d_M_isLinked_25 : decode b_M_isLinked 25 = .ok (.imul, 1) := by decide +kernel
theorem d_M_isLinked_26 : decode b_M_isLinked 26 = .ok (.iload_n 2, 1) := by decide +kernel
theorem d_M_isLinked_27 : decode b_M_isLinked 27 = .ok (.iadd, 1) := by decide +kernel
theorem d_M_isLinked_28 : decode b_M_isLinked 28 = .ok (.iaload, 1) := by decide +kernel
theorem d_M_isLinked_29 : decode b_M_isLinked 29 = .ok (.iload_n 1, 1) := by decide +kernel
theorem d_M_isLinked_30 : decode b_M_isLinked 30 = .ok (.if_icmp .ne 5, 3) := by decide +kernel
theorem d_M_isLinked_33 : decode b_M_isLinked 33 = .ok (.iconst 1, 1) := by decide +kernel
theorem d_M_isLinked_34 : decode b_M_isLinked 34 = .ok (.ireturn, 1) := by decide +kernel
theorem d_M_isLinked_35 : decode b_M_isLinked 35 = .ok (.iinc 2 1, 3) := by decide +kernel
theorem d_M_isLinked_38 : decode b_M_isLinked 38 = .ok (.goto (-36), 3) := by decide +kernel
theorem d_M_isLinked_41 : decode b_M_isLinked 41 = .ok (.iconst 0, 1) := by decide +kernel
theorem d_M_isLinked_42 : decode b_M_isLinked 42 = .ok (.ireturn, 1) := by decide +kernel
set_option maxRecDepth 100000 in
theorem hl_M_isLinked : Cond.methodLink R_M 1025 y_M_isLinked ∈ wd_tbl := wd_of 3170 (by decide +kernel) rfl
set_option maxRecDepth 100000 in
theorem hi_M_isLinked : Cond.instanceMethod y_M_isLinked ∈ wd_tbl := wd_of 3172 (by decide +kernel) rfl
set_option maxRecDepth 100000 in
theorem hs_M_isLinked : Cond.selects R_M y_M_isLinked y_M_isLinked ∈ wd_tbl := wd_of 247 (by decide +kernel) rfl
theorem hd_M_isLinked : y_M_isLinked.cls = R_M ∧ y_M_isLinked.cls ≠ "java/lang/invoke/MethodHandle" ∧ y_M_isLinked.cls ≠ "java/lang/invoke/VarHandle" ∧ (parseMethodDescriptor y_M_isLinked.desc).map (fun d => d.parameters.length) = some 1 := by decide +kernel
def rm_M_isLinked : Room := { frames := 0, cells := 0, slots := 0, locals := 0 }
def fb_M_isLinked_2 (N : Nat) (G : (MS → Int32 → Int32 → Option (MS × Int32))) (u : MS) (v1 : Int32) (v2 : Int32) : Option (MS × Int32) := ck (inb (u.1 133) (ln 117)) (br (decide ((u.2.2.1 117 (u.1 133).toNatClampNeg) ≤ v2)) (ck (isb 0) (some (u, 0))) (ck (inb ((24 * (u.1 133)) + v2) (ln 116)) (br (decide ((u.2.2.1 116 ((24 * (u.1 133)) + v2).toNatClampNeg) = v1)) (ck (isb 1) (some (u, 1))) (G u (v1) ((v2 + 1))))))
set_option maxRecDepth 100000 in
set_option maxHeartbeats 4000000 in
theorem wb_M_isLinked_2 {p : Program} {l : Launch} {e : Env} {R : Room} {s : State} {m : MethodId} {args : Array Value} {below : List Frame} {meth : Method} {c : Code} {D : va_G} {cl : List vw_C} {cB cI cJ cZ cS : ClassId} {A : Nat → Prop} {iM h0 : Nat} {ad : Nat → Nat} (C0 : MCx p s m args meth c b_M_isLinked 3 (some .boolean) D cl cB cI cJ cZ cS iM A) (hR : R = rm_M_isLinked) (N : Nat) (G : (MS → Int32 → Int32 → Option (MS × Int32))) (hG : (∀ (u : MS) (v1 : Int32) (v2 : Int32) (x : MS × Int32), G u v1 v2 = some x → ∀ (H : Heap) (locs : List Loc), va_P D cl (wM cB cI cJ cZ cS iM h0 ad u) H → va_D A (wM cB cI cJ cZ cS iM h0 ad u) → va_S A s.heap H locs → ∀ (ls : Array Slot), lv_has ls 3 [(0, .ref h0), (1, .int v1), (2, .int v2)] → W p l e R s m args below meth c H locs 0 0 (MQ below (mQi D cl cB cI cJ cZ cS iM h0 ad A x) args s 0 0 A) (F0 m 2 ls []))) : ∀ (u : MS) (v1 : Int32) (v2 : Int32) (x : MS × Int32), fb_M_isLinked_2 N G u v1 v2 = some x → ∀ (H : Heap) (locs : List Loc), va_P D cl (wM cB cI cJ cZ cS iM h0 ad u) H → va_D A (wM cB cI cJ cZ cS iM h0 ad u) → va_S A s.heap H locs → ∀ (ls : Array Slot), lv_has ls 3 [(0, .ref h0), (1, .int v1), (2, .int v2)] → W p l e R s m args below meth c H locs 0 0 (MQ below (mQi D cl cB cI cJ cZ cS iM h0 ad A x) args s 0 0 A) (F0 m 2 ls []) := by
  intro u v1 v2 x hf H locs hP hD hS ls hl
  obtain ⟨hx, hb, hr, hml, ht, hown, hM, hK, hA, hlocks⟩ := id C0
  unfold fb_M_isLinked_2 at hf
  refine lv_iload_n hx hb d_M_isLinked_2 rfl (lv_at hl 2 rfl) ?_
  refine lv_aload_n hx hb d_M_isLinked_3 rfl (lv_at hl 0 rfl) ?_
  refine ug_R hx hb ht hown hM hK hP 117 (by decide) lk_M_117 (by decide) d_M_isLinked_4 ?_
  refine lv_aload_n hx hb d_M_isLinked_7 rfl (lv_at hl 0 rfl) ?_
  refine ug_I hx hb ht hown hM hK hP 133 (by decide) lk_M_133 (by decide) d_M_isLinked_8 ?_
  obtain ⟨hi9, hf⟩ := ck_some hf
  refine ul_I hx hb hK hP (by decide) (by decide) hi9 d_M_isLinked_11 ?_
  refine lv_icmp_ge (tgt := 41) hx hb d_M_isLinked_12 (by decide) (fun hc => ?_) (fun hc => ?_)
  · rw [br_p _ hc] at hf
    refine lv_iconst (v := 0) hx hb d_M_isLinked_41 (by decide) ?_
    obtain ⟨hz, hf⟩ := ck_some hf
    exact mr_z C0 hP hD hS hz hf d_M_isLinked_42
  · rw [br_n _ hc] at hf
    refine lv_aload_n hx hb d_M_isLinked_15 rfl (lv_at hl 0 rfl) ?_
    refine ug_R hx hb ht hown hM hK hP 116 (by decide) lk_M_116 (by decide) d_M_isLinked_16 ?_
    refine lv_bipush (v := 24) hx hb d_M_isLinked_19 (by decide) ?_
    refine lv_aload_n hx hb d_M_isLinked_21 rfl (lv_at hl 0 rfl) ?_
    refine ug_I hx hb ht hown hM hK hP 133 (by decide) lk_M_133 (by decide) d_M_isLinked_22 ?_
    refine lv_imul hx hb d_M_isLinked_25 ?_
    refine lv_iload_n hx hb d_M_isLinked_26 rfl (lv_at hl 2 rfl) ?_
    refine lv_iadd hx hb d_M_isLinked_27 ?_
    obtain ⟨hi9, hf⟩ := ck_some hf
    refine ul_I hx hb hK hP (by decide) (by decide) hi9 d_M_isLinked_28 ?_
    refine lv_iload_n hx hb d_M_isLinked_29 rfl (lv_at hl 1 rfl) ?_
    refine lv_icmp_ne (tgt := 35) hx hb d_M_isLinked_30 (by decide) (fun hc => ?_) (fun hc => ?_)
    · rw [br_n _ hc] at hf
      refine lv_iinc (v := (v2 + 1)) (lv' := [(2, .int (v2 + 1)), (0, .ref h0), (1, .int v1)]) hx hb d_M_isLinked_35 hl (k := 2) rfl rfl (by decide) rfl (fun ls hl => ?_)
      refine lv_goto (tgt := 2) hx hb d_M_isLinked_38 (by decide) ?_
      exact hG _ _ _ _ hf H locs hP hD hS ls (lv_sub hl [1, 2, 0] rfl)
    · rw [br_p _ hc] at hf
      refine lv_iconst (v := 1) hx hb d_M_isLinked_33 (by decide) ?_
      obtain ⟨hz, hf⟩ := ck_some hf
      exact mr_z C0 hP hD hS hz hf d_M_isLinked_34
def fb_M_isLinked_0 (N : Nat) (G : (MS → Int32 → Int32 → Option (MS × Int32))) (u : MS) (v1 : Int32) : Option (MS × Int32) := G u (v1) (0)
set_option maxRecDepth 100000 in
set_option maxHeartbeats 4000000 in
theorem wb_M_isLinked_0 {p : Program} {l : Launch} {e : Env} {R : Room} {s : State} {m : MethodId} {args : Array Value} {below : List Frame} {meth : Method} {c : Code} {D : va_G} {cl : List vw_C} {cB cI cJ cZ cS : ClassId} {A : Nat → Prop} {iM h0 : Nat} {ad : Nat → Nat} (C0 : MCx p s m args meth c b_M_isLinked 3 (some .boolean) D cl cB cI cJ cZ cS iM A) (hR : R = rm_M_isLinked) (N : Nat) (G : (MS → Int32 → Int32 → Option (MS × Int32))) (hG : (∀ (u : MS) (v1 : Int32) (v2 : Int32) (x : MS × Int32), G u v1 v2 = some x → ∀ (H : Heap) (locs : List Loc), va_P D cl (wM cB cI cJ cZ cS iM h0 ad u) H → va_D A (wM cB cI cJ cZ cS iM h0 ad u) → va_S A s.heap H locs → ∀ (ls : Array Slot), lv_has ls 3 [(0, .ref h0), (1, .int v1), (2, .int v2)] → W p l e R s m args below meth c H locs 0 0 (MQ below (mQi D cl cB cI cJ cZ cS iM h0 ad A x) args s 0 0 A) (F0 m 2 ls []))) : ∀ (u : MS) (v1 : Int32) (x : MS × Int32), fb_M_isLinked_0 N G u v1 = some x → ∀ (H : Heap) (locs : List Loc), va_P D cl (wM cB cI cJ cZ cS iM h0 ad u) H → va_D A (wM cB cI cJ cZ cS iM h0 ad u) → va_S A s.heap H locs → ∀ (ls : Array Slot), lv_has ls 3 [(0, .ref h0), (1, .int v1)] → W p l e R s m args below meth c H locs 0 0 (MQ below (mQi D cl cB cI cJ cZ cS iM h0 ad A x) args s 0 0 A) (F0 m 0 ls []) := by
  intro u v1 x hf H locs hP hD hS ls hl
  obtain ⟨hx, hb, hr, hml, ht, hown, hM, hK, hA, hlocks⟩ := id C0
  unfold fb_M_isLinked_0 at hf
  refine lv_iconst (v := 0) hx hb d_M_isLinked_0 (by decide) ?_
  refine lv_istore_n (lv' := [(2, .int 0), (0, .ref h0), (1, .int v1)]) hx hb d_M_isLinked_1 rfl hl (by decide) rfl (fun ls hl => ?_)
  exact hG _ _ _ _ hf H locs hP hD hS ls (lv_sub hl [1, 2, 0] rfl)
def gg_M_isLinked (N : Nat) : Nat → ((MS → Int32 → Int32 → Option (MS × Int32)))
  | 0 => fun _ _ _ => none
  | n + 1 => fb_M_isLinked_2 N (gg_M_isLinked N n)
theorem wg_M_isLinked {p : Program} {l : Launch} {e : Env} {R : Room} {s : State} {m : MethodId} {args : Array Value} {below : List Frame} {meth : Method} {c : Code} {D : va_G} {cl : List vw_C} {cB cI cJ cZ cS : ClassId} {A : Nat → Prop} {iM h0 : Nat} {ad : Nat → Nat} (C0 : MCx p s m args meth c b_M_isLinked 3 (some .boolean) D cl cB cI cJ cZ cS iM A) (hR : R = rm_M_isLinked) (N : Nat) : ∀ n : Nat, (∀ (u : MS) (v1 : Int32) (v2 : Int32) (x : MS × Int32), gg_M_isLinked N n u v1 v2 = some x → ∀ (H : Heap) (locs : List Loc), va_P D cl (wM cB cI cJ cZ cS iM h0 ad u) H → va_D A (wM cB cI cJ cZ cS iM h0 ad u) → va_S A s.heap H locs → ∀ (ls : Array Slot), lv_has ls 3 [(0, .ref h0), (1, .int v1), (2, .int v2)] → W p l e R s m args below meth c H locs 0 0 (MQ below (mQi D cl cB cI cJ cZ cS iM h0 ad A x) args s 0 0 A) (F0 m 2 ls []))
  | 0 => (fun u v1 v2 x hf => by cases hf)
  | n + 1 => wb_M_isLinked_2 C0 hR N (gg_M_isLinked N n) (wg_M_isLinked C0 hR N n)
def fm_M_isLinked (N : Nat) (u : MS) (v1 : Int32) : Option (MS × Int32) := fb_M_isLinked_0 N (gg_M_isLinked N N) u v1
set_option maxRecDepth 100000 in
set_option maxHeartbeats 4000000 in
theorem c_M_isLinked (N : Nat) {l : Launch} {D : va_G} {cl : List vw_C} {cB cI cJ cZ cS : ClassId} {iM h0 : Nat} {ad : Nat → Nat} {u : MS} {sz : Nat} {v1 : Int32} {x : MS × Int32} (hM : cl[iM]? = some (R_M, F_M, 171)) (hf : fm_M_isLinked N u v1 = some x) : Met l y_M_isLinked (wd_ws y_M_isLinked b_M_isLinked 3 (some .boolean)) rm_M_isLinked (mPc D cl cB cI cJ cZ cS iM h0 ad u sz [.ref h0, .int v1]) (mQi D cl cB cI cJ cZ cS iM h0 ad (mA cB cI cJ cZ cS iM h0 ad u sz) x) 0 0 (mA cB cI cJ cZ cS iM h0 ad u sz) :=
  mMet (by decide) rfl hM (Nat.le_of_ble_eq_true rfl) (fun p e s m below meth c ls hsz C0 hP hD hS hl => by
    have hR : rm_M_isLinked = rm_M_isLinked := rfl
    exact wb_M_isLinked_0 C0 hR N (gg_M_isLinked N N) (wg_M_isLinked C0 hR N N) u _ x hf s.heap [] hP hD hS ls (lv_sub hl [0, 1] rfl))
abbrev b_M_processRun : ByteArray := prog_14_method_155_code
def y_M_processRun : MethodName := ⟨R_M, "processRun", "(I)V"⟩
def w_M_processRun : List Cond := wd_ws y_M_processRun b_M_processRun 9 none
set_option maxRecDepth 100000 in
theorem k_M_processRun : Cond.code y_M_processRun b_M_processRun 9 none ∈ wd_tbl := wd_of 3145 rfl rfl
theorem d_M_processRun_0 : decode b_M_processRun 0 = .ok (.iload_n 1, 1) := by decide +kernel
theorem d_M_processRun_1 : decode b_M_processRun 1 = .ok (.iconst 5, 1) := by decide +kernel
theorem d_M_processRun_2 : decode b_M_processRun 2 = .ok (.if_icmp .ne 8, 3) := by decide +kernel
theorem d_M_processRun_5 : decode b_M_processRun 5 = .ok (.aload_n 0, 1) := by decide +kernel
theorem d_M_processRun_6 : decode b_M_processRun 6 = .ok (.invokevirtual 1019, 3) := by decide +kernel
theorem d_M_processRun_9 : decode b_M_processRun 9 = .ok (.return_, 1) := by decide +kernel
theorem d_M_processRun_10 : decode b_M_processRun 10 = .ok (.iload_n 1, 1) := by decide +kernel
theorem d_M_processRun_11 : decode b_M_processRun 11 = .ok (.bipush 8, 2) := by decide +kernel
theorem d_M_processRun_13 : decode b_M_processRun 13 = .ok (.if_icmp .ne 11, 3) := by decide +kernel
theorem d_M_processRun_16 : decode b_M_processRun 16 = .ok (.aload_n 0, 1) := by decide +kernel
theorem d_M_processRun_17 : decode b_M_processRun 17 = .ok (.iconst 0, 1) := by decide +kernel
theorem d_M_processRun_18 : decode b_M_processRun 18 = .ok (.invokevirtual 848, 3) := by decide +kernel
theorem d_M_processRun_21 : decode b_M_processRun 21 = .ok (.goto 4, 3) := by decide +kernel
theorem d_M_processRun_24 : decode b_M_processRun 24 = .ok (.lconst 0, 1) := by decide +kernel
theorem d_M_processRun_25 : decode b_M_processRun 25 = .ok (.lstore_n 2, 1) := by decide +kernel
theorem d_M_processRun_26 : decode b_M_processRun 26 = .ok (.iload_n 1, 1) := by decide +kernel
theorem d_M_processRun_27 : decode b_M_processRun 27 = .ok (.bipush 8, 2) := by decide +kernel
theorem d_M_processRun_29 : decode b_M_processRun 29 = .ok (.if_icmp .ne 11, 3) := by decide +kernel
theorem d_M_processRun_32 : decode b_M_processRun 32 = .ok (.aload_n 0, 1) := by decide +kernel
theorem d_M_processRun_33 : decode b_M_processRun 33 = .ok (.iconst 1, 1) := by decide +kernel
theorem d_M_processRun_34 : decode b_M_processRun 34 = .ok (.invokevirtual 848, 3) := by decide +kernel
theorem d_M_processRun_37 : decode b_M_processRun 37 = .ok (.goto 8, 3) := by decide +kernel
theorem d_M_processRun_40 : decode b_M_processRun 40 = .ok (.aload_n 0, 1) := by decide +kernel
theorem d_M_processRun_41 : decode b_M_processRun 41 = .ok (.iconst 0, 1) := by decide +kernel
theorem d_M_processRun_42 : decode b_M_processRun 42 = .ok (.invokevirtual 848, 3) := by decide +kernel
theorem d_M_processRun_45 : decode b_M_processRun 45 = .ok (.lstore 4, 2) := by decide +kernel
theorem d_M_processRun_47 : decode b_M_processRun 47 = .ok (.lload 4, 2) := by decide +kernel
theorem d_M_processRun_49 : decode b_M_processRun 49 = .ok (.invokestatic 676, 3) := by decide +kernel
theorem d_M_processRun_52 : decode b_M_processRun 52 = .ok (.iconst 4, 1) := by decide +kernel
theorem d_M_processRun_53 : decode b_M_processRun 53 = .ok (.if_icmp .ne 7, 3) := by decide +kernel
theorem d_M_processRun_56 : decode b_M_processRun 56 = .ok (.iconst 1, 1) := by decide +kernel
theorem d_M_processRun_57 : decode b_M_processRun 57 = .ok (.goto 4, 3) := by decide +kernel
theorem d_M_processRun_60 : decode b_M_processRun 60 = .ok (.iconst 0, 1) := by decide +kernel
theorem d_M_processRun_61 : decode b_M_processRun 61 = .ok (.istore 6, 2) := by decide +kernel
theorem d_M_processRun_63 : decode b_M_processRun 63 = .ok (.iload 6, 2) := by decide +kernel
theorem d_M_processRun_65 : decode b_M_processRun 65 = .ok (.ifCond .eq 43, 3) := by decide +kernel
theorem d_M_processRun_68 : decode b_M_processRun 68 = .ok (.iload_n 1, 1) := by decide +kernel
theorem d_M_processRun_69 : decode b_M_processRun 69 = .ok (.iconst 4, 1) := by decide +kernel
theorem d_M_processRun_70 : decode b_M_processRun 70 = .ok (.if_icmp .ne 13, 3) := by decide +kernel
theorem d_M_processRun_73 : decode b_M_processRun 73 = .ok (.aload_n 0, 1) := by decide +kernel
theorem d_M_processRun_74 : decode b_M_processRun 74 = .ok (.getfield 757, 3) := by decide +kernel
theorem d_M_processRun_77 : decode b_M_processRun 77 = .ok (.sipush 200, 3) := by decide +kernel
theorem d_M_processRun_80 : decode b_M_processRun 80 = .ok (.if_icmp .eq 28, 3) := by decide +kernel
theorem d_M_processRun_83 : decode b_M_processRun 83 = .ok (.iload_n 1, 1) := by decide +kernel
theorem d_M_processRun_84 : decode b_M_processRun 84 = .ok (.bipush 8, 2) := by decide +kernel
theorem d_M_processRun_86 : decode b_M_processRun 86 = .ok (.if_icmp .ne 18, 3) := by decide +kernel
theorem d_M_processRun_89 : decode b_M_processRun 89 = .ok (.aload_n 0, 1) := by decide +kernel
theorem d_M_processRun_90 : decode b_M_processRun 90 = .ok (.aload_n 0, 1) := by decide +kernel
theorem d_M_processRun_91 : decode b_M_processRun 91 = .ok (.getfield 669, 3) := by decide +kernel
theorem d_M_processRun_94 : decode b_M_processRun 94 = .ok (.lload_n 2, 1) := by decide +kernel
theorem d_M_processRun_95 : decode b_M_processRun 95 = .ok (.invokevirtual 770, 3) := by decide +kernel
theorem d_M_processRun_98 : decode b_M_processRun 98 = .ok (.sipush 500, 3) := by decide +kernel
theorem d_M_processRun_101 : decode b_M_processRun 101 = .ok (.if_icmp .gt 7, 3) := by decide +kernel
theorem d_M_processRun_104 : decode b_M_processRun 104 = .ok (.iconst 1, 1) := by decide +kernel
theorem d_M_processRun_105 : decode b_M_processRun 105 = .ok (.goto 4, 3) := by decide +kernel
theorem d_M_processRun_108 : decode b_M_processRun 108 = .ok (.iconst 0, 1) := by decide +kernel
theorem d_M_processRun_109 : decode b_M_processRun 109 = .ok (.istore 6, 2) := by decide +kernel
theorem d_M_processRun_111 : decode b_M_processRun 111 = .ok (.iload 6, 2) := by decide +kernel
theorem d_M_processRun_113 : decode b_M_processRun 113 = .ok (.ifCond .ne 10, 3) := by decide +kernel
theorem d_M_processRun_116 : decode b_M_processRun 116 = .ok (.aload_n 0, 1) := by decide +kernel
theorem d_M_processRun_117 : decode b_M_processRun 117 = .ok (.bipush 11, 2) := by decide +kernel
theorem d_M_processRun_119 : decode b_M_processRun 119 = .ok (.invokevirtual 861, 3) := by decide +kernel
theorem d_M_processRun_122 : decode b_M_processRun 122 = .ok (.return_, 1) := by decide +kernel
theorem d_M_processRun_123 : decode b_M_processRun 123 = .ok (.lload 4, 2) := by decide +kernel
theorem d_M_processRun_125 : decode b_M_processRun 125 = .ok (.invokestatic 680, 3) := by decide +kernel
theorem d_M_processRun_128 : decode b_M_processRun 128 = .ok (.istore 7, 2) := by decide +kernel
theorem d_M_processRun_130 : decode b_M_processRun 130 = .ok (.aload_n 0, 1) := by decide +kernel
theorem d_M_processRun_131 : decode b_M_processRun 131 = .ok (.getfield 202, 3) := by decide +kernel
theorem d_M_processRun_134 : decode b_M_processRun 134 = .ok (.aload_n 0, 1) := by decide +kernel
theorem d_M_processRun_135 : decode b_M_processRun 135 = .ok (.getfield 669, 3) := by decide +kernel
theorem d_M_processRun_138 : decode b_M_processRun 138 = .ok (.dup2, 1) := by decide +kernel
theorem d_M_processRun_139 : decode b_M_processRun 139 = .ok (.iaload, 1) := by decide +kernel
theorem d_M_processRun_140 : decode b_M_processRun 140 = .ok (.iload_n 1, 1) := by decide +kernel
theorem d_M_processRun_141 : decode b_M_processRun 141 = .ok (.bipush 8, 2) := by decide +kernel
theorem d_M_processRun_143 : decode b_M_processRun 143 = .ok (.if_icmp .ne 7, 3) := by decide +kernel
theorem d_M_processRun_146 : decode b_M_processRun 146 = .ok (.iconst 2, 1) := by decide +kernel
theorem d_M_processRun_147 : decode b_M_processRun 147 = .ok (.goto 4, 3) := by decide +kernel
theorem d_M_processRun_150 : decode b_M_processRun 150 = .ok (.iconst 1, 1) := by decide +kernel
theorem d_M_processRun_151 : decode b_M_processRun 151 = .ok (.isub, 1) := by decide +kernel
theorem d_M_processRun_152 : decode b_M_processRun 152 = .ok (.iastore, 1) := by decide +kernel
theorem d_M_processRun_153 : decode b_M_processRun 153 = .ok (.iload_n 1, 1) := by decide +kernel
theorem d_M_processRun_154 : decode b_M_processRun 154 = .ok (.bipush 16, 2) := by decide +kernel
theorem d_M_processRun_156 : decode b_M_processRun 156 = .ok (.if_icmp .ne 29, 3) := by decide +kernel
theorem d_M_processRun_159 : decode b_M_processRun 159 = .ok (.aload_n 0, 1) := by decide +kernel
theorem d_M_processRun_160 : decode b_M_processRun 160 = .ok (.aload_n 0, 1) := by decide +kernel
theorem d_M_processRun_161 : decode b_M_processRun 161 = .ok (.getfield 255, 3) := by decide +kernel
theorem d_M_processRun_164 : decode b_M_processRun 164 = .ok (.iload 7, 2) := by decide +kernel
theorem d_M_processRun_166 : decode b_M_processRun 166 = .ok (.iaload, 1) := by decide +kernel
theorem d_M_processRun_167 : decode b_M_processRun 167 = .ok (.iconst 3, 1) := by decide +kernel
theorem d_M_processRun_168 : decode b_M_processRun 168 = .ok (.if_icmp .eq 7, 3) := by decide +kernel
theorem d_M_processRun_171 : decode b_M_processRun 171 = .ok (.iconst 1, 1) := by decide +kernel
theorem d_M_processRun_172 : decode b_M_processRun 172 = .ok (.goto 4, 3) := by decide +kernel
theorem d_M_processRun_175 : decode b_M_processRun 175 = .ok (.iconst 0, 1) := by decide +kernel
theorem d_M_processRun_176 : decode b_M_processRun 176 = .ok (.invokestatic 940, 3) := by decide +kernel
theorem d_M_processRun_179 : decode b_M_processRun 179 = .ok (.invokevirtual 801, 3) := by decide +kernel
theorem d_M_processRun_182 : decode b_M_processRun 182 = .ok (.goto 298, 3) := by decide +kernel
theorem d_M_processRun_185 : decode b_M_processRun 185 = .ok (.iload_n 1, 1) := by decide +kernel
theorem d_M_processRun_186 : decode b_M_processRun 186 = .ok (.iconst 4, 1) := by decide +kernel
theorem d_M_processRun_187 : decode b_M_processRun 187 = .ok (.if_icmp .ne 121, 3) := by decide +kernel
theorem d_M_processRun_190 : decode b_M_processRun 190 = .ok (.aload_n 0, 1) := by decide +kernel
theorem d_M_processRun_191 : decode b_M_processRun 191 = .ok (.getfield 1001, 3) := by decide +kernel
theorem d_M_processRun_194 : decode b_M_processRun 194 = .ok (.istore 8, 2) := by decide +kernel
theorem d_M_processRun_196 : decode b_M_processRun 196 = .ok (.aload_n 0, 1) := by decide +kernel
theorem d_M_processRun_197 : decode b_M_processRun 197 = .ok (.dup, 1) := by decide +kernel
theorem d_M_processRun_198 : decode b_M_processRun 198 = .ok (.getfield 1001, 3) := by decide +kernel
theorem d_M_processRun_201 : decode b_M_processRun 201 = .ok (.iconst 1, 1) := by decide +kernel
theorem d_M_processRun_202 : decode b_M_processRun 202 = .ok (.iadd, 1) := by decide +kernel
theorem d_M_processRun_203 : decode b_M_processRun 203 = .ok (.putfield 1001, 3) := by decide +kernel
theorem d_M_processRun_206 : decode b_M_processRun 206 = .ok (.aload_n 0, 1) := by decide +kernel
theorem d_M_processRun_207 : decode b_M_processRun 207 = .ok (.iconst 2, 1) := by decide +kernel
theorem d_M_processRun_208 : decode b_M_processRun 208 = .ok (.iload 8, 2) := by decide +kernel
theorem d_M_processRun_210 : decode b_M_processRun 210 = .ok (.invokestatic 315, 3) := by decide +kernel
theorem d_M_processRun_213 : decode b_M_processRun 213 = .ok (.invokevirtual 801, 3) := by decide +kernel
theorem d_M_processRun_216 : decode b_M_processRun 216 = .ok (.aload_n 0, 1) := by decide +kernel
theorem d_M_processRun_217 : decode b_M_processRun 217 = .ok (.getfield 255, 3) := by decide +kernel
theorem d_M_processRun_220 : decode b_M_processRun 220 = .ok (.iload 7, 2) := by decide +kernel
theorem d_M_processRun_222 : decode b_M_processRun 222 = .ok (.iaload, 1) := by decide +kernel
theorem d_M_processRun_223 : decode b_M_processRun 223 = .ok (.iconst 3, 1) := by decide +kernel
theorem d_M_processRun_224 : decode b_M_processRun 224 = .ok (.if_icmp .ne 27, 3) := by decide +kernel
theorem d_M_processRun_227 : decode b_M_processRun 227 = .ok (.aload_n 0, 1) := by decide +kernel
theorem d_M_processRun_228 : decode b_M_processRun 228 = .ok (.aload_n 0, 1) := by decide +kernel
theorem d_M_processRun_229 : decode b_M_processRun 229 = .ok (.getfield 669, 3) := by decide +kernel
theorem d_M_processRun_232 : decode b_M_processRun 232 = .ok (.iconst 1, 1) := by decide +kernel
theorem d_M_processRun_233 : decode b_M_processRun 233 = .ok (.iload 8, 2) := by decide +kernel
theorem d_M_processRun_235 : decode b_M_processRun 235 = .ok (.iload 7, 2) := by decide +kernel
theorem d_M_processRun_237 : decode b_M_processRun 237 = .ok (.iconst 0, 1) := by decide +kernel
theorem d_M_processRun_238 : decode b_M_processRun 238 = .ok (.iload 7, 2) := by decide +kernel
theorem d_M_processRun_240 : decode b_M_processRun 240 = .ok (.iconst 1, 1) := by decide +kernel
theorem d_M_processRun_241 : decode b_M_processRun 241 = .ok (.iconst 3, 1) := by decide +kernel
theorem d_M_processRun_242 : decode b_M_processRun 242 = .ok (.invokestatic 315, 3) := by decide +kernel
theorem d_M_processRun_245 : decode b_M_processRun 245 = .ok (.invokevirtual 763, 3) := by decide +kernel
theorem d_M_processRun_248 : decode b_M_processRun 248 = .ok (.goto 57, 3) := by decide +kernel
theorem d_M_processRun_251 : decode b_M_processRun 251 = .ok (.iload 7, 2) := by decide +kernel
theorem d_M_processRun_253 : decode b_M_processRun 253 = .ok (.aload_n 0, 1) := by decide +kernel
theorem d_M_processRun_254 : decode b_M_processRun 254 = .ok (.getfield 669, 3) := by decide +kernel
theorem d_M_processRun_257 : decode b_M_processRun 257 = .ok (.if_icmp .eq 48, 3) := by decide +kernel
theorem d_M_processRun_260 : decode b_M_processRun 260 = .ok (.aload_n 0, 1) := by decide +kernel
theorem d_M_processRun_261 : decode b_M_processRun 261 = .ok (.getfield 282, 3) := by decide +kernel
theorem d_M_processRun_264 : decode b_M_processRun 264 = .ok (.aload_n 0, 1) := by decide +kernel
theorem d_M_processRun_265 : decode b_M_processRun 265 = .ok (.getfield 757, 3) := by decide +kernel
theorem d_M_processRun_268 : decode b_M_processRun 268 = .ok (.iload 8, 2) := by decide +kernel
theorem d_M_processRun_270 : decode b_M_processRun 270 = .ok (.iastore, 1) := by decide +kernel
theorem d_M_processRun_271 : decode b_M_processRun 271 = .ok (.aload_n 0, 1) := by decide +kernel
theorem d_M_processRun_272 : decode b_M_processRun 272 = .ok (.getfield 285, 3) := by decide +kernel
theorem d_M_processRun_275 : decode b_M_processRun 275 = .ok (.aload_n 0, 1) := by decide +kernel
theorem d_M_processRun_276 : decode b_M_processRun 276 = .ok (.getfield 757, 3) := by decide +kernel
theorem d_M_processRun_279 : decode b_M_processRun 279 = .ok (.aload_n 0, 1) := by decide +kernel
theorem d_M_processRun_280 : decode b_M_processRun 280 = .ok (.getfield 669, 3) := by decide +kernel
theorem d_M_processRun_283 : decode b_M_processRun 283 = .ok (.iastore, 1) := by decide +kernel
theorem d_M_processRun_284 : decode b_M_processRun 284 = .ok (.aload_n 0, 1) := by decide +kernel
theorem d_M_processRun_285 : decode b_M_processRun 285 = .ok (.getfield 288, 3) := by decide +kernel
theorem d_M_processRun_288 : decode b_M_processRun 288 = .ok (.aload_n 0, 1) := by decide +kernel
theorem d_M_processRun_289 : decode b_M_processRun 289 = .ok (.getfield 757, 3) := by decide +kernel
theorem d_M_processRun_292 : decode b_M_processRun 292 = .ok (.iload 7, 2) := by decide +kernel
theorem d_M_processRun_294 : decode b_M_processRun 294 = .ok (.iastore, 1) := by decide +kernel
theorem d_M_processRun_295 : decode b_M_processRun 295 = .ok (.aload_n 0, 1) := by decide +kernel
theorem d_M_processRun_296 : decode b_M_processRun 296 = .ok (.dup, 1) := by decide +kernel
theorem d_M_processRun_297 : decode b_M_processRun 297 = .ok (.getfield 757, 3) := by decide +kernel
theorem d_M_processRun_300 : decode b_M_processRun 300 = .ok (.iconst 1, 1) := by decide +kernel
theorem d_M_processRun_301 : decode b_M_processRun 301 = .ok (.iadd, 1) := by decide +kernel
theorem d_M_processRun_302 : decode b_M_processRun 302 = .ok (.putfield 757, 3) := by decide +kernel
theorem d_M_processRun_305 : decode b_M_processRun 305 = .ok (.goto 175, 3) := by decide +kernel
theorem d_M_processRun_308 : decode b_M_processRun 308 = .ok (.aload_n 0, 1) := by decide +kernel
theorem d_M_processRun_309 : decode b_M_processRun 309 = .ok (.iconst 1, 1) := by decide +kernel
theorem d_M_processRun_310 : decode b_M_processRun 310 = .ok (.invokestatic 940, 3) := by decide +kernel
theorem d_M_processRun_313 : decode b_M_processRun 313 = .ok (.invokevirtual 801, 3) := by decide +kernel
theorem d_M_processRun_316 : decode b_M_processRun 316 = .ok (.iload_n 1, 1) := by decide +kernel
theorem d_M_processRun_317 : decode b_M_processRun 317 = .ok (.bipush 8, 2) := by decide +kernel
theorem d_M_processRun_319 : decode b_M_processRun 319 = .ok (.if_icmp .ne 13, 3) := by decide +kernel
theorem d_M_processRun_322 : decode b_M_processRun 322 = .ok (.aload_n 0, 1) := by decide +kernel
theorem d_M_processRun_323 : decode b_M_processRun 323 = .ok (.iload 7, 2) := by decide +kernel
theorem d_M_processRun_325 : decode b_M_processRun 325 = .ok (.lload_n 2, 1) := by decide +kernel
theorem d_M_processRun_326 : decode b_M_processRun 326 = .ok (.invokevirtual 1022, 3) := by decide +kernel
theorem d_M_processRun_329 : decode b_M_processRun 329 = .ok (.goto 151, 3) := by decide +kernel
theorem d_M_processRun_332 : decode b_M_processRun 332 = .ok (.iload_n 1, 1) := by decide +kernel
theorem d_M_processRun_333 : decode b_M_processRun 333 = .ok (.iconst 3, 1) := by decide +kernel
theorem d_M_processRun_334 : decode b_M_processRun 334 = .ok (.if_icmp .ne 26, 3) := by decide +kernel
theorem d_M_processRun_337 : decode b_M_processRun 337 = .ok (.aload_n 0, 1) := by decide +kernel
theorem d_M_processRun_338 : decode b_M_processRun 338 = .ok (.aload_n 0, 1) := by decide +kernel
theorem d_M_processRun_339 : decode b_M_processRun 339 = .ok (.getfield 669, 3) := by decide +kernel
theorem d_M_processRun_342 : decode b_M_processRun 342 = .ok (.iload 7, 2) := by decide +kernel
theorem d_M_processRun_344 : decode b_M_processRun 344 = .ok (.invokevirtual 750, 3) := by decide +kernel
theorem d_M_processRun_347 : decode b_M_processRun 347 = .ok (.aload_n 0, 1) := by decide +kernel
theorem d_M_processRun_348 : decode b_M_processRun 348 = .ok (.iload 7, 2) := by decide +kernel
theorem d_M_processRun_350 : decode b_M_processRun 350 = .ok (.aload_n 0, 1) := by decide +kernel
theorem d_M_processRun_351 : decode b_M_processRun 351 = .ok (.getfield 669, 3) := by decide +kernel
theorem d_M_processRun_354 : decode b_M_processRun 354 = .ok (.invokevirtual 750, 3) := by decide +kernel
theorem d_M_processRun_357 : decode b_M_processRun 357 = .ok (.goto 123, 3) := by decide +kernel
theorem d_M_processRun_360 : decode b_M_processRun 360 = .ok (.aload_n 0, 1) := by decide +kernel
theorem d_M_processRun_361 : decode b_M_processRun 361 = .ok (.getfield 255, 3) := by decide +kernel
theorem d_M_processRun_364 : decode b_M_processRun 364 = .ok (.iload 7, 2) := by decide +kernel
theorem d_M_processRun_366 : decode b_M_processRun 366 = .ok (.iaload, 1) := by decide +kernel
theorem d_M_processRun_367 : decode b_M_processRun 367 = .ok (.iconst 3, 1) := by decide +kernel
theorem d_M_processRun_368 : decode b_M_processRun 368 = .ok (.if_icmp .ne 24, 3) := by decide +kernel
theorem d_M_processRun_371 : decode b_M_processRun 371 = .ok (.aload_n 0, 1) := by decide +kernel
theorem d_M_processRun_372 : decode b_M_processRun 372 = .ok (.aload_n 0, 1) := by decide +kernel
theorem d_M_processRun_373 : decode b_M_processRun 373 = .ok (.getfield 669, 3) := by decide +kernel
theorem d_M_processRun_376 : decode b_M_processRun 376 = .ok (.iload 7, 2) := by decide +kernel
theorem d_M_processRun_378 : decode b_M_processRun 378 = .ok (.iconst 0, 1) := by decide +kernel
theorem d_M_processRun_379 : decode b_M_processRun 379 = .ok (.iload 7, 2) := by decide +kernel
theorem d_M_processRun_381 : decode b_M_processRun 381 = .ok (.iconst 1, 1) := by decide +kernel
theorem d_M_processRun_382 : decode b_M_processRun 382 = .ok (.iconst 3, 1) := by decide +kernel
theorem d_M_processRun_383 : decode b_M_processRun 383 = .ok (.invokestatic 315, 3) := by decide +kernel
theorem d_M_processRun_386 : decode b_M_processRun 386 = .ok (.invokevirtual 753, 3) := by decide +kernel
theorem d_M_processRun_389 : decode b_M_processRun 389 = .ok (.goto 91, 3) := by decide +kernel
theorem d_M_processRun_392 : decode b_M_processRun 392 = .ok (.iload 7, 2) := by decide +kernel
theorem d_M_processRun_394 : decode b_M_processRun 394 = .ok (.aload_n 0, 1) := by decide +kernel
theorem d_M_processRun_395 : decode b_M_processRun 395 = .ok (.getfield 669, 3) := by decide +kernel
theorem d_M_processRun_398 : decode b_M_processRun 398 = .ok (.if_icmp .eq 82, 3) := by decide +kernel
theorem d_M_processRun_401 : decode b_M_processRun 401 = .ok (.aload_n 0, 1) := by decide +kernel
theorem d_M_processRun_402 : decode b_M_processRun 402 = .ok (.iload 7, 2) := by decide +kernel
theorem d_M_processRun_404 : decode b_M_processRun 404 = .ok (.invokevirtual 1025, 3) := by decide +kernel
theorem d_M_processRun_407 : decode b_M_processRun 407 = .ok (.ifCond .ne 73, 3) := by decide +kernel
theorem d_M_processRun_410 : decode b_M_processRun 410 = .ok (.aload_n 0, 1) := by decide +kernel
theorem d_M_processRun_411 : decode b_M_processRun 411 = .ok (.getfield 276, 3) := by decide +kernel
theorem d_M_processRun_414 : decode b_M_processRun 414 = .ok (.bipush 24, 2) := by decide +kernel
theorem d_M_processRun_416 : decode b_M_processRun 416 = .ok (.aload_n 0, 1) := by decide +kernel
theorem d_M_processRun_417 : decode b_M_processRun 417 = .ok (.getfield 669, 3) := by decide +kernel
theorem d_M_processRun_420 : decode b_M_processRun 420 = .ok (.imul, 1) := by decide +kernel
theorem d_M_processRun_421 : decode b_M_processRun 421 = .ok (.aload_n 0, 1) := by decide +kernel
theorem d_M_processRun_422 : decode b_M_processRun 422 = .ok (.getfield 279, 3) := by decide +kernel
theorem d_M_processRun_425 : decode b_M_processRun 425 = .ok (.aload_n 0, 1) := by decide +kernel
theorem d_M_processRun_426 : decode b_M_processRun 426 = .ok (.getfield 669, 3) := by decide +kernel
theorem d_M_processRun_429 : decode b_M_processRun 429 = .ok (.iaload, 1) := by decide +kernel
theorem d_M_processRun_430 : decode b_M_processRun 430 = .ok (.iadd, 1) := by decide +kernel
theorem d_M_processRun_431 : decode b_M_processRun 431 = .ok (.iload 7, 2) := by decide +kernel
theorem d_M_processRun_433 : decode b_M_processRun 433 = .ok (.iastore, 1) := by decide +kernel
theorem d_M_processRun_434 : decode b_M_processRun 434 = .ok (.aload_n 0, 1) := by decide +kernel
theorem d_M_processRun_435 : decode b_M_processRun 435 = .ok (.getfield 279, 3) := by decide +kernel
theorem d_M_processRun_438 : decode b_M_processRun 438 = .ok (.aload_n 0, 1) := by decide +kernel
theorem d_M_processRun_439 : decode b_M_processRun 439 = .ok (.getfield 669, 3) := by decide +kernel
theorem d_M_processRun_442 : decode b_M_processRun 442 = .ok (.dup2, 1) := by decide +kernel
theorem d_M_processRun_443 : decode b_M_processRun 443 = .ok (.iaload, 1) := by decide +kernel
theorem d_M_processRun_444 : decode b_M_processRun 444 = .ok (.iconst 1, 1) := by decide +kernel
theorem d_M_processRun_445 : decode b_M_processRun 445 = .ok (.iadd, 1) := by decide +kernel
theorem d_M_processRun_446 : decode b_M_processRun 446 = .ok (.iastore, 1) := by decide +kernel
theorem d_M_processRun_447 : decode b_M_processRun 447 = .ok (.aload_n 0, 1) := by decide +kernel
theorem d_M_processRun_448 : decode b_M_processRun 448 = .ok (.getfield 276, 3) := by decide +kernel
theorem d_M_processRun_451 : decode b_M_processRun 451 = .ok (.bipush 24, 2) := by decide +kernel
theorem d_M_processRun_453 : decode b_M_processRun 453 = .ok (.iload 7, 2) := by decide +kernel
theorem d_M_processRun_455 : decode b_M_processRun 455 = .ok (.imul, 1) := by decide +kernel
theorem d_M_processRun_456 : decode b_M_processRun 456 = .ok (.aload_n 0, 1) := by decide +kernel
theorem d_M_processRun_457 : decode b_M_processRun 457 = .ok (.getfield 279, 3) := by decide +kernel
theorem d_M_processRun_460 : decode b_M_processRun 460 = .ok (.iload 7, 2) := by decide +kernel
theorem d_M_processRun_462 : decode b_M_processRun 462 = .ok (.iaload, 1) := by decide +kernel
theorem d_M_processRun_463 : decode b_M_processRun 463 = .ok (.iadd, 1) := by decide +kernel
theorem d_M_processRun_464 : decode b_M_processRun 464 = .ok (.aload_n 0, 1) := by decide +kernel
theorem d_M_processRun_465 : decode b_M_processRun 465 = .ok (.getfield 669, 3) := by decide +kernel
theorem d_M_processRun_468 : decode b_M_processRun 468 = .ok (.iastore, 1) := by decide +kernel
theorem d_M_processRun_469 : decode b_M_processRun 469 = .ok (.aload_n 0, 1) := by decide +kernel
theorem d_M_processRun_470 : decode b_M_processRun 470 = .ok (.getfield 279, 3) := by decide +kernel
theorem d_M_processRun_473 : decode b_M_processRun 473 = .ok (.iload 7, 2) := by decide +kernel
theorem d_M_processRun_475 : decode b_M_processRun 475 = .ok (.dup2, 1) := by decide +kernel
theorem d_M_processRun_476 : decode b_M_processRun 476 = .ok (.iaload, 1) := by decide +kernel
theorem d_M_processRun_477 : decode b_M_processRun 477 = .ok (.iconst 1, 1) := by decide +kernel
theorem d_M_processRun_478 : decode b_M_processRun 478 = .ok (.iadd, 1) := by decide +kernel
theorem d_M_processRun_479 : decode b_M_processRun 479 = .ok (.iastore, 1) := by decide +kernel
theorem d_M_processRun_480 : decode b_M_processRun 480 = .ok (.return_, 1) := by decide +kernel
set_option maxRecDepth 100000 in
theorem hl_M_processRun : Cond.methodLink R_M 1007 y_M_processRun ∈ wd_tbl := wd_of 3142 (by decide +kernel) rfl
set_option maxRecDepth 100000 in
theorem hi_M_processRun : Cond.instanceMethod y_M_processRun ∈ wd_tbl := wd_of 3144 (by decide +kernel) rfl
set_option maxRecDepth 100000 in
theorem hs_M_processRun : Cond.selects R_M y_M_processRun y_M_processRun ∈ wd_tbl := wd_of 240 (by decide +kernel) rfl
theorem hd_M_processRun : y_M_processRun.cls = R_M ∧ y_M_processRun.cls ≠ "java/lang/invoke/MethodHandle" ∧ y_M_processRun.cls ≠ "java/lang/invoke/VarHandle" ∧ (parseMethodDescriptor y_M_processRun.desc).map (fun d => d.parameters.length) = some 1 := by decide +kernel
def rm_M_processRun : Room := { frames := 28, cells := 0, slots := 0, locals := 727 }
theorem rm_M_processRun_M_unwatchRun {R : Room} (hR : R = rm_M_processRun) : (rm_M_unwatchRun).frames + 1 ≤ R.frames ∧ 8 + (4 + 11) + (rm_M_unwatchRun).locals ≤ R.locals := by subst hR; decide
theorem rm_M_processRun_M_top {R : Room} (hR : R = rm_M_processRun) : (rm_M_top).frames + 1 ≤ R.frames ∧ 8 + (2 + 11) + (rm_M_top).locals ≤ R.locals := by subst hR; decide
theorem rm_M_processRun_M_sortOf {R : Room} (hR : R = rm_M_processRun) : (rm_M_sortOf).frames + 1 ≤ R.frames ∧ 8 + (2 + 11) + (rm_M_sortOf).locals ≤ R.locals := by subst hR; decide
theorem rm_M_processRun_M_copySize {R : Room} (hR : R = rm_M_processRun) : (rm_M_copySize).frames + 1 ≤ R.frames ∧ 8 + (10 + 11) + (rm_M_copySize).locals ≤ R.locals := by subst hR; decide
theorem rm_M_processRun_M_error {R : Room} (hR : R = rm_M_processRun) : (rm_M_error).frames + 1 ≤ R.frames ∧ 8 + (2 + 11) + (rm_M_error).locals ≤ R.locals := by subst hR; decide
theorem rm_M_processRun_M_valueOf {R : Room} (hR : R = rm_M_processRun) : (rm_M_valueOf).frames + 1 ≤ R.frames ∧ 8 + (2 + 11) + (rm_M_valueOf).locals ≤ R.locals := by subst hR; decide
theorem rm_M_processRun_M_truth {R : Room} (hR : R = rm_M_processRun) : (rm_M_truth).frames + 1 ≤ R.frames ∧ 8 + (1 + 11) + (rm_M_truth).locals ≤ R.locals := by subst hR; decide
theorem rm_M_processRun_M_put {R : Room} (hR : R = rm_M_processRun) : (rm_M_put).frames + 1 ≤ R.frames ∧ 8 + (3 + 11) + (rm_M_put).locals ≤ R.locals := by subst hR; decide
theorem rm_M_processRun_M_term {R : Room} (hR : R = rm_M_processRun) : (rm_M_term).frames + 1 ≤ R.frames ∧ 8 + (2 + 11) + (rm_M_term).locals ≤ R.locals := by subst hR; decide
theorem rm_M_processRun_M_message {R : Room} (hR : R = rm_M_processRun) : (rm_M_message).frames + 1 ≤ R.frames ∧ 8 + (18 + 11) + (rm_M_message).locals ≤ R.locals := by subst hR; decide
theorem rm_M_processRun_M_exitRun {R : Room} (hR : R = rm_M_processRun) : (rm_M_exitRun).frames + 1 ≤ R.frames ∧ 8 + (4 + 11) + (rm_M_exitRun).locals ≤ R.locals := by subst hR; decide
theorem rm_M_processRun_M_removeLink {R : Room} (hR : R = rm_M_processRun) : (rm_M_removeLink).frames + 1 ≤ R.frames ∧ 8 + (5 + 11) + (rm_M_removeLink).locals ≤ R.locals := by subst hR; decide
theorem rm_M_processRun_M_signal {R : Room} (hR : R = rm_M_processRun) : (rm_M_signal).frames + 1 ≤ R.frames ∧ 8 + (7 + 11) + (rm_M_signal).locals ≤ R.locals := by subst hR; decide
theorem rm_M_processRun_M_isLinked {R : Room} (hR : R = rm_M_processRun) : (rm_M_isLinked).frames + 1 ≤ R.frames ∧ 8 + (3 + 11) + (rm_M_isLinked).locals ≤ R.locals := by subst hR; decide
def fb_M_processRun_480 (N : Nat) (G : Unit) (u : MS) : Option (MS × Unit) := some (u, ())
set_option maxRecDepth 100000 in
set_option maxHeartbeats 4000000 in
theorem wb_M_processRun_480 {p : Program} {l : Launch} {e : Env} {R : Room} {s : State} {m : MethodId} {args : Array Value} {below : List Frame} {meth : Method} {c : Code} {D : va_G} {cl : List vw_C} {cB cI cJ cZ cS : ClassId} {A : Nat → Prop} {iM h0 : Nat} {ad : Nat → Nat} (C0 : MCx p s m args meth c b_M_processRun 9 none D cl cB cI cJ cZ cS iM A) (hR : R = rm_M_processRun) (N : Nat) (G : Unit) (hG : True) : ∀ (u : MS) (x : MS × Unit), fb_M_processRun_480 N G u = some x → ∀ (H : Heap) (locs : List Loc), va_P D cl (wM cB cI cJ cZ cS iM h0 ad u) H → va_D A (wM cB cI cJ cZ cS iM h0 ad u) → va_S A s.heap H locs → ∀ (ls : Array Slot), lv_has ls 9 [] → W p l e R s m args below meth c H locs 0 0 (MQ below (mQv D cl cB cI cJ cZ cS iM h0 ad A x) args s 0 0 A) (F0 m 480 ls []) := by
  intro u x hf H locs hP hD hS ls hl
  obtain ⟨hx, hb, hr, hml, ht, hown, hM, hK, hA, hlocks⟩ := id C0
  unfold fb_M_processRun_480 at hf
  exact mr_v C0 hP hD hS hf d_M_processRun_480
def fb_M_processRun_305 (N : Nat) (G : Unit) (u : MS) : Option (MS × Unit) := fb_M_processRun_480 N G u
set_option maxRecDepth 100000 in
set_option maxHeartbeats 4000000 in
theorem wb_M_processRun_305 {p : Program} {l : Launch} {e : Env} {R : Room} {s : State} {m : MethodId} {args : Array Value} {below : List Frame} {meth : Method} {c : Code} {D : va_G} {cl : List vw_C} {cB cI cJ cZ cS : ClassId} {A : Nat → Prop} {iM h0 : Nat} {ad : Nat → Nat} (C0 : MCx p s m args meth c b_M_processRun 9 none D cl cB cI cJ cZ cS iM A) (hR : R = rm_M_processRun) (N : Nat) (G : Unit) (hG : True) : ∀ (u : MS) (x : MS × Unit), fb_M_processRun_305 N G u = some x → ∀ (H : Heap) (locs : List Loc), va_P D cl (wM cB cI cJ cZ cS iM h0 ad u) H → va_D A (wM cB cI cJ cZ cS iM h0 ad u) → va_S A s.heap H locs → ∀ (ls : Array Slot), lv_has ls 9 [] → W p l e R s m args below meth c H locs 0 0 (MQ below (mQv D cl cB cI cJ cZ cS iM h0 ad A x) args s 0 0 A) (F0 m 305 ls []) := by
  intro u x hf H locs hP hD hS ls hl
  obtain ⟨hx, hb, hr, hml, ht, hown, hM, hK, hA, hlocks⟩ := id C0
  unfold fb_M_processRun_305 at hf
  refine lv_goto (tgt := 480) hx hb d_M_processRun_305 (by decide) ?_
  exact wb_M_processRun_480 C0 hR N G hG _ _ hf H locs hP hD hS ls (lv_sub hl [] rfl)
def fb_M_processRun_176 (N : Nat) (G : Unit) (u : MS) (t1 : Int32) : Option (MS × Unit) := bnd (fm_M_truth N u t1) (fun u1 r1 => bnd (fm_M_put N u1 r1) (fun u2 _ => fb_M_processRun_480 N G u2))
set_option maxRecDepth 100000 in
set_option maxHeartbeats 4000000 in
theorem wb_M_processRun_176 {p : Program} {l : Launch} {e : Env} {R : Room} {s : State} {m : MethodId} {args : Array Value} {below : List Frame} {meth : Method} {c : Code} {D : va_G} {cl : List vw_C} {cB cI cJ cZ cS : ClassId} {A : Nat → Prop} {iM h0 : Nat} {ad : Nat → Nat} (C0 : MCx p s m args meth c b_M_processRun 9 none D cl cB cI cJ cZ cS iM A) (hR : R = rm_M_processRun) (N : Nat) (G : Unit) (hG : True) : ∀ (u : MS) (t1 : Int32) (x : MS × Unit), fb_M_processRun_176 N G u t1 = some x → ∀ (H : Heap) (locs : List Loc), va_P D cl (wM cB cI cJ cZ cS iM h0 ad u) H → va_D A (wM cB cI cJ cZ cS iM h0 ad u) → va_S A s.heap H locs → ∀ (ls : Array Slot), lv_has ls 9 [] → W p l e R s m args below meth c H locs 0 0 (MQ below (mQv D cl cB cI cJ cZ cS iM h0 ad A x) args s 0 0 A) (F0 m 176 ls [.int t1, .ref h0]) := by
  intro u t1 x hf H locs hP hD hS ls hl
  obtain ⟨hx, hb, hr, hml, ht, hown, hM, hK, hA, hlocks⟩ := id C0
  unfold fb_M_processRun_176 at hf
  obtain ⟨u1, r1, hc1, hf⟩ := bnd_some hf
  refine mS_l (As := [.int t1]) (rest := [.ref h0]) C0 hP hD hS (c_M_truth N hM hc1) k_M_truth hl_M_truth ht_M_truth hini_M rfl rfl hd_M_truth rfl (rm_M_processRun_M_truth hR) hl.1 (Nat.le_of_ble_eq_true rfl) d_M_processRun_176 rfl ⟨Nat.zero_le _, Nat.zero_le _⟩ (fun H locs hP hD hS => ?_)
  obtain ⟨u2, r2, hc2, hf⟩ := bnd_some hf
  refine mV_v (As := [.long r1]) (rest := []) C0 hP hD hS (c_M_put N hM hc2) k_M_put hl_M_put hi_M_put hs_M_put hini_M rfl rfl hd_M_put rfl (rm_M_processRun_M_put hR) hl.1 (Nat.le_of_ble_eq_true rfl) d_M_processRun_179 rfl ⟨Nat.zero_le _, Nat.zero_le _⟩ (fun H locs hP hD hS => ?_)
  refine lv_goto (tgt := 480) hx hb d_M_processRun_182 (by decide) ?_
  exact wb_M_processRun_480 C0 hR N G hG _ _ hf H locs hP hD hS ls (lv_sub hl [] rfl)
def fb_M_processRun_151 (N : Nat) (G : Unit) (u : MS) (v1 : Int32) (v2 : Int64) (v7 : Int32) (t0 : Nat) (t1 : Int32) (t2 : Int32) (t3 : Int32) : Option (MS × Unit) := ck (isK t0 4) (ck (inb t1 (ln t0)) (lt (upA u t0 (upd (u.2.2.1 t0) t1.toNatClampNeg (t2 - t3))) (fun w3 => br (decide (v1 = 16)) (ck (inb v7 (ln 109)) (br (decide ((w3.2.2.1 109 v7.toNatClampNeg) = 3)) (fb_M_processRun_176 N G w3 (0)) (fb_M_processRun_176 N G w3 (1)))) (br (decide (v1 = 4)) (lt (upI w3 121 ((w3.1 121) + 1)) (fun w16 => bnd (fm_M_term N w16 2 (w3.1 121)) (fun u17 r17 => bnd (fm_M_put N u17 r17) (fun u18 _ => ck (inb v7 (ln 109)) (br (decide ((u18.2.2.1 109 v7.toNatClampNeg) = 3)) (bnd (fm_M_term N u18 1 3) (fun u23 r23 => bnd (fm_M_message N u23 (u18.1 133) 1 (w3.1 121) v7 0 v7 r23) (fun u24 _ => fb_M_processRun_305 N G u24))) (br (decide (v7 = (u18.1 133))) (fb_M_processRun_305 N G u18) (ck (inb (u18.1 125) (ln 122)) (lt (upA u18 122 (upd (u18.2.2.1 122) (u18.1 125).toNatClampNeg (w3.1 121))) (fun w19 => ck (inb (w19.1 125) (ln 123)) (lt (upA w19 123 (upd (w19.2.2.1 123) (w19.1 125).toNatClampNeg (w19.1 133))) (fun w20 => ck (inb (w20.1 125) (ln 124)) (lt (upA w20 124 (upd (w20.2.2.1 124) (w20.1 125).toNatClampNeg v7)) (fun w21 => lt (upI w21 125 ((w21.1 125) + 1)) (fun w22 => fb_M_processRun_305 N G w22)))))))))))))) (bnd (fm_M_truth N w3 1) (fun u4 r4 => bnd (fm_M_put N u4 r4) (fun u5 _ => br (decide (v1 = 8)) (bnd (fm_M_exitRun N u5 v7 v2) (fun u15 _ => fb_M_processRun_480 N G u15)) (br (decide (v1 = 3)) (bnd (fm_M_removeLink N u5 (u5.1 133) v7) (fun u13 _ => bnd (fm_M_removeLink N u13 v7 (u13.1 133)) (fun u14 _ => fb_M_processRun_480 N G u14))) (ck (inb v7 (ln 109)) (br (decide ((u5.2.2.1 109 v7.toNatClampNeg) = 3)) (bnd (fm_M_term N u5 1 3) (fun u11 r11 => bnd (fm_M_signal N u11 (u5.1 133) v7 0 v7 r11) (fun u12 _ => fb_M_processRun_480 N G u12))) (br (decide (v7 = (u5.1 133))) (fb_M_processRun_480 N G u5) (bnd (fm_M_isLinked N u5 v7) (fun u6 r6 => br (decide (r6 = 0)) (ck (inb (u6.1 133) (ln 117)) (ck (inb ((24 * (u6.1 133)) + (u6.2.2.1 117 (u6.1 133).toNatClampNeg)) (ln 116)) (lt (upA u6 116 (upd (u6.2.2.1 116) ((24 * (u6.1 133)) + (u6.2.2.1 117 (u6.1 133).toNatClampNeg)).toNatClampNeg v7)) (fun w7 => ck (inb (w7.1 133) (ln 117)) (ck (inb (w7.1 133) (ln 117)) (lt (upA w7 117 (upd (w7.2.2.1 117) (w7.1 133).toNatClampNeg ((w7.2.2.1 117 (w7.1 133).toNatClampNeg) + 1))) (fun w8 => ck (inb v7 (ln 117)) (ck (inb ((24 * v7) + (w8.2.2.1 117 v7.toNatClampNeg)) (ln 116)) (lt (upA w8 116 (upd (w8.2.2.1 116) ((24 * v7) + (w8.2.2.1 117 v7.toNatClampNeg)).toNatClampNeg (w8.1 133))) (fun w9 => ck (inb v7 (ln 117)) (ck (inb v7 (ln 117)) (lt (upA w9 117 (upd (w9.2.2.1 117) v7.toNatClampNeg ((w9.2.2.1 117 v7.toNatClampNeg) + 1))) (fun w10 => fb_M_processRun_480 N G w10))))))))))))) (fb_M_processRun_480 N G u6))))))))))))))
set_option maxRecDepth 100000 in
set_option maxHeartbeats 4000000 in
theorem wb_M_processRun_151 {p : Program} {l : Launch} {e : Env} {R : Room} {s : State} {m : MethodId} {args : Array Value} {below : List Frame} {meth : Method} {c : Code} {D : va_G} {cl : List vw_C} {cB cI cJ cZ cS : ClassId} {A : Nat → Prop} {iM h0 : Nat} {ad : Nat → Nat} (C0 : MCx p s m args meth c b_M_processRun 9 none D cl cB cI cJ cZ cS iM A) (hR : R = rm_M_processRun) (N : Nat) (G : Unit) (hG : True) : ∀ (u : MS) (v1 : Int32) (v2 : Int64) (v7 : Int32) (t0 : Nat) (t1 : Int32) (t2 : Int32) (t3 : Int32) (x : MS × Unit), fb_M_processRun_151 N G u v1 v2 v7 t0 t1 t2 t3 = some x → ∀ (H : Heap) (locs : List Loc), va_P D cl (wM cB cI cJ cZ cS iM h0 ad u) H → va_D A (wM cB cI cJ cZ cS iM h0 ad u) → va_S A s.heap H locs → ∀ (ls : Array Slot), lv_has ls 9 [(0, .ref h0), (1, .int v1), (2, .long v2), (7, .int v7)] → W p l e R s m args below meth c H locs 0 0 (MQ below (mQv D cl cB cI cJ cZ cS iM h0 ad A x) args s 0 0 A) (F0 m 151 ls [.int t3, .int t2, .int t1, .ref (ad t0)]) := by
  intro u v1 v2 v7 t0 t1 t2 t3 x hf H locs hP hD hS ls hl
  obtain ⟨hx, hb, hr, hml, ht, hown, hM, hK, hA, hlocks⟩ := id C0
  unfold fb_M_processRun_151 at hf
  refine lv_isub hx hb d_M_processRun_151 ?_
  obtain ⟨hk9, hf⟩ := ck_some hf
  obtain ⟨hi9, hf⟩ := ck_some hf
  refine us_I hx hb hK hP hD hS (isK_1 hk9) (isK_2 hk9) hi9 d_M_processRun_152 (fun H locs hP hD hS => ?_)
  obtain ⟨w3, e3, hf⟩ := lt_some hf
  rw [← e3] at hP hD
  refine lv_iload_n hx hb d_M_processRun_153 rfl (lv_at hl 1 rfl) ?_
  refine lv_bipush (v := 16) hx hb d_M_processRun_154 (by decide) ?_
  refine lv_icmp_ne (tgt := 185) hx hb d_M_processRun_156 (by decide) (fun hc => ?_) (fun hc => ?_)
  · rw [br_n _ hc] at hf
    refine lv_iload_n hx hb d_M_processRun_185 rfl (lv_at hl 1 rfl) ?_
    refine lv_iconst (v := 4) hx hb d_M_processRun_186 (by decide) ?_
    refine lv_icmp_ne (tgt := 308) hx hb d_M_processRun_187 (by decide) (fun hc => ?_) (fun hc => ?_)
    · rw [br_n _ hc] at hf
      refine lv_aload_n hx hb d_M_processRun_308 rfl (lv_at hl 0 rfl) ?_
      refine lv_iconst (v := 1) hx hb d_M_processRun_309 (by decide) ?_
      obtain ⟨u4, r4, hc4, hf⟩ := bnd_some hf
      refine mS_l (As := [.int 1]) (rest := [.ref h0]) C0 hP hD hS (c_M_truth N hM hc4) k_M_truth hl_M_truth ht_M_truth hini_M rfl rfl hd_M_truth rfl (rm_M_processRun_M_truth hR) hl.1 (Nat.le_of_ble_eq_true rfl) d_M_processRun_310 rfl ⟨Nat.zero_le _, Nat.zero_le _⟩ (fun H locs hP hD hS => ?_)
      obtain ⟨u5, r5, hc5, hf⟩ := bnd_some hf
      refine mV_v (As := [.long r4]) (rest := []) C0 hP hD hS (c_M_put N hM hc5) k_M_put hl_M_put hi_M_put hs_M_put hini_M rfl rfl hd_M_put rfl (rm_M_processRun_M_put hR) hl.1 (Nat.le_of_ble_eq_true rfl) d_M_processRun_313 rfl ⟨Nat.zero_le _, Nat.zero_le _⟩ (fun H locs hP hD hS => ?_)
      refine lv_iload_n hx hb d_M_processRun_316 rfl (lv_at hl 1 rfl) ?_
      refine lv_bipush (v := 8) hx hb d_M_processRun_317 (by decide) ?_
      refine lv_icmp_ne (tgt := 332) hx hb d_M_processRun_319 (by decide) (fun hc => ?_) (fun hc => ?_)
      · rw [br_n _ hc] at hf
        refine lv_iload_n hx hb d_M_processRun_332 rfl (lv_at hl 1 rfl) ?_
        refine lv_iconst (v := 3) hx hb d_M_processRun_333 (by decide) ?_
        refine lv_icmp_ne (tgt := 360) hx hb d_M_processRun_334 (by decide) (fun hc => ?_) (fun hc => ?_)
        · rw [br_n _ hc] at hf
          refine lv_aload_n hx hb d_M_processRun_360 rfl (lv_at hl 0 rfl) ?_
          refine ug_R hx hb ht hown hM hK hP 109 (by decide) lk_M_109 (by decide) d_M_processRun_361 ?_
          refine lv_iload hx hb d_M_processRun_364 (lv_at hl 3 rfl) ?_
          obtain ⟨hi9, hf⟩ := ck_some hf
          refine ul_I hx hb hK hP (by decide) (by decide) hi9 d_M_processRun_366 ?_
          refine lv_iconst (v := 3) hx hb d_M_processRun_367 (by decide) ?_
          refine lv_icmp_ne (tgt := 392) hx hb d_M_processRun_368 (by decide) (fun hc => ?_) (fun hc => ?_)
          · rw [br_n _ hc] at hf
            refine lv_iload hx hb d_M_processRun_392 (lv_at hl 3 rfl) ?_
            refine lv_aload_n hx hb d_M_processRun_394 rfl (lv_at hl 0 rfl) ?_
            refine ug_I hx hb ht hown hM hK hP 133 (by decide) lk_M_133 (by decide) d_M_processRun_395 ?_
            refine lv_icmp_eq (tgt := 480) hx hb d_M_processRun_398 (by decide) (fun hc => ?_) (fun hc => ?_)
            · rw [br_p _ hc] at hf
              exact wb_M_processRun_480 C0 hR N G hG _ _ hf H locs hP hD hS ls (lv_sub hl [] rfl)
            · rw [br_n _ hc] at hf
              refine lv_aload_n hx hb d_M_processRun_401 rfl (lv_at hl 0 rfl) ?_
              refine lv_iload hx hb d_M_processRun_402 (lv_at hl 3 rfl) ?_
              obtain ⟨u6, r6, hc6, hf⟩ := bnd_some hf
              refine mV_i (As := [.int v7]) (rest := []) C0 hP hD hS (c_M_isLinked N hM hc6) k_M_isLinked hl_M_isLinked hi_M_isLinked hs_M_isLinked hini_M rfl rfl hd_M_isLinked rfl (rm_M_processRun_M_isLinked hR) hl.1 (Nat.le_of_ble_eq_true rfl) d_M_processRun_404 rfl ⟨Nat.zero_le _, Nat.zero_le _⟩ (fun H locs hP hD hS => ?_)
              refine lv_if_ne (tgt := 480) hx hb d_M_processRun_407 (by decide) (fun hc => ?_) (fun hc => ?_)
              · rw [br_n _ hc] at hf
                exact wb_M_processRun_480 C0 hR N G hG _ _ hf H locs hP hD hS ls (lv_sub hl [] rfl)
              · rw [br_p _ hc] at hf
                refine lv_aload_n hx hb d_M_processRun_410 rfl (lv_at hl 0 rfl) ?_
                refine ug_R hx hb ht hown hM hK hP 116 (by decide) lk_M_116 (by decide) d_M_processRun_411 ?_
                refine lv_bipush (v := 24) hx hb d_M_processRun_414 (by decide) ?_
                refine lv_aload_n hx hb d_M_processRun_416 rfl (lv_at hl 0 rfl) ?_
                refine ug_I hx hb ht hown hM hK hP 133 (by decide) lk_M_133 (by decide) d_M_processRun_417 ?_
                refine lv_imul hx hb d_M_processRun_420 ?_
                refine lv_aload_n hx hb d_M_processRun_421 rfl (lv_at hl 0 rfl) ?_
                refine ug_R hx hb ht hown hM hK hP 117 (by decide) lk_M_117 (by decide) d_M_processRun_422 ?_
                refine lv_aload_n hx hb d_M_processRun_425 rfl (lv_at hl 0 rfl) ?_
                refine ug_I hx hb ht hown hM hK hP 133 (by decide) lk_M_133 (by decide) d_M_processRun_426 ?_
                obtain ⟨hi9, hf⟩ := ck_some hf
                refine ul_I hx hb hK hP (by decide) (by decide) hi9 d_M_processRun_429 ?_
                refine lv_iadd hx hb d_M_processRun_430 ?_
                refine lv_iload hx hb d_M_processRun_431 (lv_at hl 3 rfl) ?_
                obtain ⟨hi9, hf⟩ := ck_some hf
                refine us_I hx hb hK hP hD hS (by decide) (by decide) hi9 d_M_processRun_433 (fun H locs hP hD hS => ?_)
                obtain ⟨w7, e7, hf⟩ := lt_some hf
                rw [← e7] at hP hD
                refine lv_aload_n hx hb d_M_processRun_434 rfl (lv_at hl 0 rfl) ?_
                refine ug_R hx hb ht hown hM hK hP 117 (by decide) lk_M_117 (by decide) d_M_processRun_435 ?_
                refine lv_aload_n hx hb d_M_processRun_438 rfl (lv_at hl 0 rfl) ?_
                refine ug_I hx hb ht hown hM hK hP 133 (by decide) lk_M_133 (by decide) d_M_processRun_439 ?_
                refine lv_dup2_11 hx hb d_M_processRun_442 rfl rfl ?_
                obtain ⟨hi9, hf⟩ := ck_some hf
                refine ul_I hx hb hK hP (by decide) (by decide) hi9 d_M_processRun_443 ?_
                refine lv_iconst (v := 1) hx hb d_M_processRun_444 (by decide) ?_
                refine lv_iadd hx hb d_M_processRun_445 ?_
                obtain ⟨hi9, hf⟩ := ck_some hf
                refine us_I hx hb hK hP hD hS (by decide) (by decide) hi9 d_M_processRun_446 (fun H locs hP hD hS => ?_)
                obtain ⟨w8, e8, hf⟩ := lt_some hf
                rw [← e8] at hP hD
                refine lv_aload_n hx hb d_M_processRun_447 rfl (lv_at hl 0 rfl) ?_
                refine ug_R hx hb ht hown hM hK hP 116 (by decide) lk_M_116 (by decide) d_M_processRun_448 ?_
                refine lv_bipush (v := 24) hx hb d_M_processRun_451 (by decide) ?_
                refine lv_iload hx hb d_M_processRun_453 (lv_at hl 3 rfl) ?_
                refine lv_imul hx hb d_M_processRun_455 ?_
                refine lv_aload_n hx hb d_M_processRun_456 rfl (lv_at hl 0 rfl) ?_
                refine ug_R hx hb ht hown hM hK hP 117 (by decide) lk_M_117 (by decide) d_M_processRun_457 ?_
                refine lv_iload hx hb d_M_processRun_460 (lv_at hl 3 rfl) ?_
                obtain ⟨hi9, hf⟩ := ck_some hf
                refine ul_I hx hb hK hP (by decide) (by decide) hi9 d_M_processRun_462 ?_
                refine lv_iadd hx hb d_M_processRun_463 ?_
                refine lv_aload_n hx hb d_M_processRun_464 rfl (lv_at hl 0 rfl) ?_
                refine ug_I hx hb ht hown hM hK hP 133 (by decide) lk_M_133 (by decide) d_M_processRun_465 ?_
                obtain ⟨hi9, hf⟩ := ck_some hf
                refine us_I hx hb hK hP hD hS (by decide) (by decide) hi9 d_M_processRun_468 (fun H locs hP hD hS => ?_)
                obtain ⟨w9, e9, hf⟩ := lt_some hf
                rw [← e9] at hP hD
                refine lv_aload_n hx hb d_M_processRun_469 rfl (lv_at hl 0 rfl) ?_
                refine ug_R hx hb ht hown hM hK hP 117 (by decide) lk_M_117 (by decide) d_M_processRun_470 ?_
                refine lv_iload hx hb d_M_processRun_473 (lv_at hl 3 rfl) ?_
                refine lv_dup2_11 hx hb d_M_processRun_475 rfl rfl ?_
                obtain ⟨hi9, hf⟩ := ck_some hf
                refine ul_I hx hb hK hP (by decide) (by decide) hi9 d_M_processRun_476 ?_
                refine lv_iconst (v := 1) hx hb d_M_processRun_477 (by decide) ?_
                refine lv_iadd hx hb d_M_processRun_478 ?_
                obtain ⟨hi9, hf⟩ := ck_some hf
                refine us_I hx hb hK hP hD hS (by decide) (by decide) hi9 d_M_processRun_479 (fun H locs hP hD hS => ?_)
                obtain ⟨w10, e10, hf⟩ := lt_some hf
                rw [← e10] at hP hD
                exact wb_M_processRun_480 C0 hR N G hG _ _ hf H locs hP hD hS ls (lv_sub hl [] rfl)
          · rw [br_p _ hc] at hf
            refine lv_aload_n hx hb d_M_processRun_371 rfl (lv_at hl 0 rfl) ?_
            refine lv_aload_n hx hb d_M_processRun_372 rfl (lv_at hl 0 rfl) ?_
            refine ug_I hx hb ht hown hM hK hP 133 (by decide) lk_M_133 (by decide) d_M_processRun_373 ?_
            refine lv_iload hx hb d_M_processRun_376 (lv_at hl 3 rfl) ?_
            refine lv_iconst (v := 0) hx hb d_M_processRun_378 (by decide) ?_
            refine lv_iload hx hb d_M_processRun_379 (lv_at hl 3 rfl) ?_
            refine lv_iconst (v := 1) hx hb d_M_processRun_381 (by decide) ?_
            refine lv_iconst (v := 3) hx hb d_M_processRun_382 (by decide) ?_
            obtain ⟨u11, r11, hc11, hf⟩ := bnd_some hf
            refine mS_l (As := [.int 1, .int 3]) (rest := [.int v7, .int 0, .int v7, .int (u5.1 133), .ref h0]) C0 hP hD hS (c_M_term N hM hc11) k_M_term hl_M_term ht_M_term hini_M rfl rfl hd_M_term rfl (rm_M_processRun_M_term hR) hl.1 (Nat.le_of_ble_eq_true rfl) d_M_processRun_383 rfl ⟨Nat.zero_le _, Nat.zero_le _⟩ (fun H locs hP hD hS => ?_)
            obtain ⟨u12, r12, hc12, hf⟩ := bnd_some hf
            refine mV_v (As := [.int (u5.1 133), .int v7, .int 0, .int v7, .long r11]) (rest := []) C0 hP hD hS (c_M_signal N hM hc12) k_M_signal hl_M_signal hi_M_signal hs_M_signal hini_M rfl rfl hd_M_signal rfl (rm_M_processRun_M_signal hR) hl.1 (Nat.le_of_ble_eq_true rfl) d_M_processRun_386 rfl ⟨Nat.zero_le _, Nat.zero_le _⟩ (fun H locs hP hD hS => ?_)
            refine lv_goto (tgt := 480) hx hb d_M_processRun_389 (by decide) ?_
            exact wb_M_processRun_480 C0 hR N G hG _ _ hf H locs hP hD hS ls (lv_sub hl [] rfl)
        · rw [br_p _ hc] at hf
          refine lv_aload_n hx hb d_M_processRun_337 rfl (lv_at hl 0 rfl) ?_
          refine lv_aload_n hx hb d_M_processRun_338 rfl (lv_at hl 0 rfl) ?_
          refine ug_I hx hb ht hown hM hK hP 133 (by decide) lk_M_133 (by decide) d_M_processRun_339 ?_
          refine lv_iload hx hb d_M_processRun_342 (lv_at hl 3 rfl) ?_
          obtain ⟨u13, r13, hc13, hf⟩ := bnd_some hf
          refine mV_v (As := [.int (u5.1 133), .int v7]) (rest := []) C0 hP hD hS (c_M_removeLink N hM hc13) k_M_removeLink hl_M_removeLink hi_M_removeLink hs_M_removeLink hini_M rfl rfl hd_M_removeLink rfl (rm_M_processRun_M_removeLink hR) hl.1 (Nat.le_of_ble_eq_true rfl) d_M_processRun_344 rfl ⟨Nat.zero_le _, Nat.zero_le _⟩ (fun H locs hP hD hS => ?_)
          refine lv_aload_n hx hb d_M_processRun_347 rfl (lv_at hl 0 rfl) ?_
          refine lv_iload hx hb d_M_processRun_348 (lv_at hl 3 rfl) ?_
          refine lv_aload_n hx hb d_M_processRun_350 rfl (lv_at hl 0 rfl) ?_
          refine ug_I hx hb ht hown hM hK hP 133 (by decide) lk_M_133 (by decide) d_M_processRun_351 ?_
          obtain ⟨u14, r14, hc14, hf⟩ := bnd_some hf
          refine mV_v (As := [.int v7, .int (u13.1 133)]) (rest := []) C0 hP hD hS (c_M_removeLink N hM hc14) k_M_removeLink hl_M_removeLink hi_M_removeLink hs_M_removeLink hini_M rfl rfl hd_M_removeLink rfl (rm_M_processRun_M_removeLink hR) hl.1 (Nat.le_of_ble_eq_true rfl) d_M_processRun_354 rfl ⟨Nat.zero_le _, Nat.zero_le _⟩ (fun H locs hP hD hS => ?_)
          refine lv_goto (tgt := 480) hx hb d_M_processRun_357 (by decide) ?_
          exact wb_M_processRun_480 C0 hR N G hG _ _ hf H locs hP hD hS ls (lv_sub hl [] rfl)
      · rw [br_p _ hc] at hf
        refine lv_aload_n hx hb d_M_processRun_322 rfl (lv_at hl 0 rfl) ?_
        refine lv_iload hx hb d_M_processRun_323 (lv_at hl 3 rfl) ?_
        refine lv_lload_n hx hb d_M_processRun_325 rfl (lv_at hl 2 rfl) ?_
        obtain ⟨u15, r15, hc15, hf⟩ := bnd_some hf
        refine mV_v (As := [.int v7, .long v2]) (rest := []) C0 hP hD hS (c_M_exitRun N hM hc15) k_M_exitRun hl_M_exitRun hi_M_exitRun hs_M_exitRun hini_M rfl rfl hd_M_exitRun rfl (rm_M_processRun_M_exitRun hR) hl.1 (Nat.le_of_ble_eq_true rfl) d_M_processRun_326 rfl ⟨Nat.zero_le _, Nat.zero_le _⟩ (fun H locs hP hD hS => ?_)
        refine lv_goto (tgt := 480) hx hb d_M_processRun_329 (by decide) ?_
        exact wb_M_processRun_480 C0 hR N G hG _ _ hf H locs hP hD hS ls (lv_sub hl [] rfl)
    · rw [br_p _ hc] at hf
      refine lv_aload_n hx hb d_M_processRun_190 rfl (lv_at hl 0 rfl) ?_
      refine ug_I hx hb ht hown hM hK hP 121 (by decide) lk_M_121 (by decide) d_M_processRun_191 ?_
      refine lv_istore (lv' := [(8, .int (w3.1 121)), (0, .ref h0), (1, .int v1), (2, .long v2), (7, .int v7)]) hx hb d_M_processRun_194 hl (by decide) rfl (fun ls hl => ?_)
      refine lv_aload_n hx hb d_M_processRun_196 rfl (lv_at hl 1 rfl) ?_
      refine lv_dup hx hb d_M_processRun_197 rfl ?_
      refine ug_I hx hb ht hown hM hK hP 121 (by decide) lk_M_121 (by decide) d_M_processRun_198 ?_
      refine lv_iconst (v := 1) hx hb d_M_processRun_201 (by decide) ?_
      refine lv_iadd hx hb d_M_processRun_202 ?_
      refine up_I hx hb ht hown hM hK hP hD hS 121 (by decide) lk_M_121 (by decide) rfl rfl rfl d_M_processRun_203 (fun H locs hP hD hS => ?_)
      obtain ⟨w16, e16, hf⟩ := lt_some hf
      rw [← e16] at hP hD
      refine lv_aload_n hx hb d_M_processRun_206 rfl (lv_at hl 1 rfl) ?_
      refine lv_iconst (v := 2) hx hb d_M_processRun_207 (by decide) ?_
      refine lv_iload hx hb d_M_processRun_208 (lv_at hl 0 rfl) ?_
      obtain ⟨u17, r17, hc17, hf⟩ := bnd_some hf
      refine mS_l (As := [.int 2, .int (w3.1 121)]) (rest := [.ref h0]) C0 hP hD hS (c_M_term N hM hc17) k_M_term hl_M_term ht_M_term hini_M rfl rfl hd_M_term rfl (rm_M_processRun_M_term hR) hl.1 (Nat.le_of_ble_eq_true rfl) d_M_processRun_210 rfl ⟨Nat.zero_le _, Nat.zero_le _⟩ (fun H locs hP hD hS => ?_)
      obtain ⟨u18, r18, hc18, hf⟩ := bnd_some hf
      refine mV_v (As := [.long r17]) (rest := []) C0 hP hD hS (c_M_put N hM hc18) k_M_put hl_M_put hi_M_put hs_M_put hini_M rfl rfl hd_M_put rfl (rm_M_processRun_M_put hR) hl.1 (Nat.le_of_ble_eq_true rfl) d_M_processRun_213 rfl ⟨Nat.zero_le _, Nat.zero_le _⟩ (fun H locs hP hD hS => ?_)
      refine lv_aload_n hx hb d_M_processRun_216 rfl (lv_at hl 1 rfl) ?_
      refine ug_R hx hb ht hown hM hK hP 109 (by decide) lk_M_109 (by decide) d_M_processRun_217 ?_
      refine lv_iload hx hb d_M_processRun_220 (lv_at hl 4 rfl) ?_
      obtain ⟨hi9, hf⟩ := ck_some hf
      refine ul_I hx hb hK hP (by decide) (by decide) hi9 d_M_processRun_222 ?_
      refine lv_iconst (v := 3) hx hb d_M_processRun_223 (by decide) ?_
      refine lv_icmp_ne (tgt := 251) hx hb d_M_processRun_224 (by decide) (fun hc => ?_) (fun hc => ?_)
      · rw [br_n _ hc] at hf
        refine lv_iload hx hb d_M_processRun_251 (lv_at hl 4 rfl) ?_
        refine lv_aload_n hx hb d_M_processRun_253 rfl (lv_at hl 1 rfl) ?_
        refine ug_I hx hb ht hown hM hK hP 133 (by decide) lk_M_133 (by decide) d_M_processRun_254 ?_
        refine lv_icmp_eq (tgt := 305) hx hb d_M_processRun_257 (by decide) (fun hc => ?_) (fun hc => ?_)
        · rw [br_p _ hc] at hf
          exact wb_M_processRun_305 C0 hR N G hG _ _ hf H locs hP hD hS ls (lv_sub hl [] rfl)
        · rw [br_n _ hc] at hf
          refine lv_aload_n hx hb d_M_processRun_260 rfl (lv_at hl 1 rfl) ?_
          refine ug_R hx hb ht hown hM hK hP 122 (by decide) lk_M_122 (by decide) d_M_processRun_261 ?_
          refine lv_aload_n hx hb d_M_processRun_264 rfl (lv_at hl 1 rfl) ?_
          refine ug_I hx hb ht hown hM hK hP 125 (by decide) lk_M_125 (by decide) d_M_processRun_265 ?_
          refine lv_iload hx hb d_M_processRun_268 (lv_at hl 0 rfl) ?_
          obtain ⟨hi9, hf⟩ := ck_some hf
          refine us_I hx hb hK hP hD hS (by decide) (by decide) hi9 d_M_processRun_270 (fun H locs hP hD hS => ?_)
          obtain ⟨w19, e19, hf⟩ := lt_some hf
          rw [← e19] at hP hD
          refine lv_aload_n hx hb d_M_processRun_271 rfl (lv_at hl 1 rfl) ?_
          refine ug_R hx hb ht hown hM hK hP 123 (by decide) lk_M_123 (by decide) d_M_processRun_272 ?_
          refine lv_aload_n hx hb d_M_processRun_275 rfl (lv_at hl 1 rfl) ?_
          refine ug_I hx hb ht hown hM hK hP 125 (by decide) lk_M_125 (by decide) d_M_processRun_276 ?_
          refine lv_aload_n hx hb d_M_processRun_279 rfl (lv_at hl 1 rfl) ?_
          refine ug_I hx hb ht hown hM hK hP 133 (by decide) lk_M_133 (by decide) d_M_processRun_280 ?_
          obtain ⟨hi9, hf⟩ := ck_some hf
          refine us_I hx hb hK hP hD hS (by decide) (by decide) hi9 d_M_processRun_283 (fun H locs hP hD hS => ?_)
          obtain ⟨w20, e20, hf⟩ := lt_some hf
          rw [← e20] at hP hD
          refine lv_aload_n hx hb d_M_processRun_284 rfl (lv_at hl 1 rfl) ?_
          refine ug_R hx hb ht hown hM hK hP 124 (by decide) lk_M_124 (by decide) d_M_processRun_285 ?_
          refine lv_aload_n hx hb d_M_processRun_288 rfl (lv_at hl 1 rfl) ?_
          refine ug_I hx hb ht hown hM hK hP 125 (by decide) lk_M_125 (by decide) d_M_processRun_289 ?_
          refine lv_iload hx hb d_M_processRun_292 (lv_at hl 4 rfl) ?_
          obtain ⟨hi9, hf⟩ := ck_some hf
          refine us_I hx hb hK hP hD hS (by decide) (by decide) hi9 d_M_processRun_294 (fun H locs hP hD hS => ?_)
          obtain ⟨w21, e21, hf⟩ := lt_some hf
          rw [← e21] at hP hD
          refine lv_aload_n hx hb d_M_processRun_295 rfl (lv_at hl 1 rfl) ?_
          refine lv_dup hx hb d_M_processRun_296 rfl ?_
          refine ug_I hx hb ht hown hM hK hP 125 (by decide) lk_M_125 (by decide) d_M_processRun_297 ?_
          refine lv_iconst (v := 1) hx hb d_M_processRun_300 (by decide) ?_
          refine lv_iadd hx hb d_M_processRun_301 ?_
          refine up_I hx hb ht hown hM hK hP hD hS 125 (by decide) lk_M_125 (by decide) rfl rfl rfl d_M_processRun_302 (fun H locs hP hD hS => ?_)
          obtain ⟨w22, e22, hf⟩ := lt_some hf
          rw [← e22] at hP hD
          exact wb_M_processRun_305 C0 hR N G hG _ _ hf H locs hP hD hS ls (lv_sub hl [] rfl)
      · rw [br_p _ hc] at hf
        refine lv_aload_n hx hb d_M_processRun_227 rfl (lv_at hl 1 rfl) ?_
        refine lv_aload_n hx hb d_M_processRun_228 rfl (lv_at hl 1 rfl) ?_
        refine ug_I hx hb ht hown hM hK hP 133 (by decide) lk_M_133 (by decide) d_M_processRun_229 ?_
        refine lv_iconst (v := 1) hx hb d_M_processRun_232 (by decide) ?_
        refine lv_iload hx hb d_M_processRun_233 (lv_at hl 0 rfl) ?_
        refine lv_iload hx hb d_M_processRun_235 (lv_at hl 4 rfl) ?_
        refine lv_iconst (v := 0) hx hb d_M_processRun_237 (by decide) ?_
        refine lv_iload hx hb d_M_processRun_238 (lv_at hl 4 rfl) ?_
        refine lv_iconst (v := 1) hx hb d_M_processRun_240 (by decide) ?_
        refine lv_iconst (v := 3) hx hb d_M_processRun_241 (by decide) ?_
        obtain ⟨u23, r23, hc23, hf⟩ := bnd_some hf
        refine mS_l (As := [.int 1, .int 3]) (rest := [.int v7, .int 0, .int v7, .int (w3.1 121), .int 1, .int (u18.1 133), .ref h0]) C0 hP hD hS (c_M_term N hM hc23) k_M_term hl_M_term ht_M_term hini_M rfl rfl hd_M_term rfl (rm_M_processRun_M_term hR) hl.1 (Nat.le_of_ble_eq_true rfl) d_M_processRun_242 rfl ⟨Nat.zero_le _, Nat.zero_le _⟩ (fun H locs hP hD hS => ?_)
        obtain ⟨u24, r24, hc24, hf⟩ := bnd_some hf
        refine mV_v (As := [.int (u18.1 133), .int 1, .int (w3.1 121), .int v7, .int 0, .int v7, .long r23]) (rest := []) C0 hP hD hS (c_M_message N hM hc24) k_M_message hl_M_message hi_M_message hs_M_message hini_M rfl rfl hd_M_message rfl (rm_M_processRun_M_message hR) hl.1 (Nat.le_of_ble_eq_true rfl) d_M_processRun_245 rfl ⟨Nat.zero_le _, Nat.zero_le _⟩ (fun H locs hP hD hS => ?_)
        refine lv_goto (tgt := 305) hx hb d_M_processRun_248 (by decide) ?_
        exact wb_M_processRun_305 C0 hR N G hG _ _ hf H locs hP hD hS ls (lv_sub hl [] rfl)
  · rw [br_p _ hc] at hf
    refine lv_aload_n hx hb d_M_processRun_159 rfl (lv_at hl 0 rfl) ?_
    refine lv_aload_n hx hb d_M_processRun_160 rfl (lv_at hl 0 rfl) ?_
    refine ug_R hx hb ht hown hM hK hP 109 (by decide) lk_M_109 (by decide) d_M_processRun_161 ?_
    refine lv_iload hx hb d_M_processRun_164 (lv_at hl 3 rfl) ?_
    obtain ⟨hi9, hf⟩ := ck_some hf
    refine ul_I hx hb hK hP (by decide) (by decide) hi9 d_M_processRun_166 ?_
    refine lv_iconst (v := 3) hx hb d_M_processRun_167 (by decide) ?_
    refine lv_icmp_eq (tgt := 175) hx hb d_M_processRun_168 (by decide) (fun hc => ?_) (fun hc => ?_)
    · rw [br_p _ hc] at hf
      refine lv_iconst (v := 0) hx hb d_M_processRun_175 (by decide) ?_
      exact wb_M_processRun_176 C0 hR N G hG _ _ _ hf H locs hP hD hS ls (lv_sub hl [] rfl)
    · rw [br_n _ hc] at hf
      refine lv_iconst (v := 1) hx hb d_M_processRun_171 (by decide) ?_
      refine lv_goto (tgt := 176) hx hb d_M_processRun_172 (by decide) ?_
      exact wb_M_processRun_176 C0 hR N G hG _ _ _ hf H locs hP hD hS ls (lv_sub hl [] rfl)
def fb_M_processRun_109 (N : Nat) (G : Unit) (u : MS) (v1 : Int32) (v2 : Int64) (v4 : Int64) (t0 : Int32) : Option (MS × Unit) := br (decide (t0 = 0)) (bnd (fr_M_error N u 11) (fun u26 _ => some (u26, ()))) (bnd (fm_M_valueOf N u v4) (fun u25 r25 => ck (inb (u25.1 133) (ln 92)) (br (decide (v1 = 8)) (fb_M_processRun_151 N G u25 (v1) (v2) (r25) (92) ((u25.1 133)) ((u25.2.2.1 92 (u25.1 133).toNatClampNeg)) (2)) (fb_M_processRun_151 N G u25 (v1) (v2) (r25) (92) ((u25.1 133)) ((u25.2.2.1 92 (u25.1 133).toNatClampNeg)) (1)))))
set_option maxRecDepth 100000 in
set_option maxHeartbeats 4000000 in
theorem wb_M_processRun_109 {p : Program} {l : Launch} {e : Env} {R : Room} {s : State} {m : MethodId} {args : Array Value} {below : List Frame} {meth : Method} {c : Code} {D : va_G} {cl : List vw_C} {cB cI cJ cZ cS : ClassId} {A : Nat → Prop} {iM h0 : Nat} {ad : Nat → Nat} (C0 : MCx p s m args meth c b_M_processRun 9 none D cl cB cI cJ cZ cS iM A) (hR : R = rm_M_processRun) (N : Nat) (G : Unit) (hG : True) : ∀ (u : MS) (v1 : Int32) (v2 : Int64) (v4 : Int64) (t0 : Int32) (x : MS × Unit), fb_M_processRun_109 N G u v1 v2 v4 t0 = some x → ∀ (H : Heap) (locs : List Loc), va_P D cl (wM cB cI cJ cZ cS iM h0 ad u) H → va_D A (wM cB cI cJ cZ cS iM h0 ad u) → va_S A s.heap H locs → ∀ (ls : Array Slot), lv_has ls 9 [(0, .ref h0), (1, .int v1), (2, .long v2), (4, .long v4)] → W p l e R s m args below meth c H locs 0 0 (MQ below (mQv D cl cB cI cJ cZ cS iM h0 ad A x) args s 0 0 A) (F0 m 109 ls [.int t0]) := by
  intro u v1 v2 v4 t0 x hf H locs hP hD hS ls hl
  obtain ⟨hx, hb, hr, hml, ht, hown, hM, hK, hA, hlocks⟩ := id C0
  unfold fb_M_processRun_109 at hf
  refine lv_istore (lv' := [(6, .int t0), (0, .ref h0), (1, .int v1), (2, .long v2), (4, .long v4)]) hx hb d_M_processRun_109 hl (by decide) rfl (fun ls hl => ?_)
  refine lv_iload hx hb d_M_processRun_111 (lv_at hl 0 rfl) ?_
  refine lv_if_ne (tgt := 123) hx hb d_M_processRun_113 (by decide) (fun hc => ?_) (fun hc => ?_)
  · rw [br_n _ hc] at hf
    refine lv_lload hx hb d_M_processRun_123 (lv_at hl 4 rfl) ?_
    obtain ⟨u25, r25, hc25, hf⟩ := bnd_some hf
    refine mS_i (As := [.long v4]) (rest := []) C0 hP hD hS (c_M_valueOf N hM hc25) k_M_valueOf hl_M_valueOf ht_M_valueOf hini_M rfl rfl hd_M_valueOf rfl (rm_M_processRun_M_valueOf hR) hl.1 (Nat.le_of_ble_eq_true rfl) d_M_processRun_125 rfl ⟨Nat.zero_le _, Nat.zero_le _⟩ (fun H locs hP hD hS => ?_)
    refine lv_istore (lv' := [(7, .int r25), (6, .int t0), (0, .ref h0), (1, .int v1), (2, .long v2), (4, .long v4)]) hx hb d_M_processRun_128 hl (by decide) rfl (fun ls hl => ?_)
    refine lv_aload_n hx hb d_M_processRun_130 rfl (lv_at hl 2 rfl) ?_
    refine ug_R hx hb ht hown hM hK hP 92 (by decide) lk_M_92 (by decide) d_M_processRun_131 ?_
    refine lv_aload_n hx hb d_M_processRun_134 rfl (lv_at hl 2 rfl) ?_
    refine ug_I hx hb ht hown hM hK hP 133 (by decide) lk_M_133 (by decide) d_M_processRun_135 ?_
    refine lv_dup2_11 hx hb d_M_processRun_138 rfl rfl ?_
    obtain ⟨hi9, hf⟩ := ck_some hf
    refine ul_I hx hb hK hP (by decide) (by decide) hi9 d_M_processRun_139 ?_
    refine lv_iload_n hx hb d_M_processRun_140 rfl (lv_at hl 3 rfl) ?_
    refine lv_bipush (v := 8) hx hb d_M_processRun_141 (by decide) ?_
    refine lv_icmp_ne (tgt := 150) hx hb d_M_processRun_143 (by decide) (fun hc => ?_) (fun hc => ?_)
    · rw [br_n _ hc] at hf
      refine lv_iconst (v := 1) hx hb d_M_processRun_150 (by decide) ?_
      exact wb_M_processRun_151 C0 hR N G hG _ _ _ _ _ _ _ _ _ hf H locs hP hD hS ls (lv_sub hl [2, 3, 4, 0] rfl)
    · rw [br_p _ hc] at hf
      refine lv_iconst (v := 2) hx hb d_M_processRun_146 (by decide) ?_
      refine lv_goto (tgt := 151) hx hb d_M_processRun_147 (by decide) ?_
      exact wb_M_processRun_151 C0 hR N G hG _ _ _ _ _ _ _ _ _ hf H locs hP hD hS ls (lv_sub hl [2, 3, 4, 0] rfl)
  · rw [br_p _ hc] at hf
    refine lv_aload_n hx hb d_M_processRun_116 rfl (lv_at hl 1 rfl) ?_
    refine lv_bipush (v := 11) hx hb d_M_processRun_117 (by decide) ?_
    obtain ⟨u26, r26, hc26, hf⟩ := bnd_some hf
    refine mV_v (As := [.int 11]) (rest := []) C0 hP hD hS (c_M_error N hM hc26) k_M_error hl_M_error hi_M_error hs_M_error hini_M rfl rfl hd_M_error rfl (rm_M_processRun_M_error hR) hl.1 (Nat.le_of_ble_eq_true rfl) d_M_processRun_119 rfl ⟨Nat.zero_le _, Nat.zero_le _⟩ (fun H locs hP hD hS => ?_)
    exact mr_v C0 hP hD hS hf d_M_processRun_122
def fb_M_processRun_108 (N : Nat) (G : Unit) (u : MS) (v1 : Int32) (v2 : Int64) (v4 : Int64) : Option (MS × Unit) := fb_M_processRun_109 N G u (v1) (v2) (v4) (0)
set_option maxRecDepth 100000 in
set_option maxHeartbeats 4000000 in
theorem wb_M_processRun_108 {p : Program} {l : Launch} {e : Env} {R : Room} {s : State} {m : MethodId} {args : Array Value} {below : List Frame} {meth : Method} {c : Code} {D : va_G} {cl : List vw_C} {cB cI cJ cZ cS : ClassId} {A : Nat → Prop} {iM h0 : Nat} {ad : Nat → Nat} (C0 : MCx p s m args meth c b_M_processRun 9 none D cl cB cI cJ cZ cS iM A) (hR : R = rm_M_processRun) (N : Nat) (G : Unit) (hG : True) : ∀ (u : MS) (v1 : Int32) (v2 : Int64) (v4 : Int64) (x : MS × Unit), fb_M_processRun_108 N G u v1 v2 v4 = some x → ∀ (H : Heap) (locs : List Loc), va_P D cl (wM cB cI cJ cZ cS iM h0 ad u) H → va_D A (wM cB cI cJ cZ cS iM h0 ad u) → va_S A s.heap H locs → ∀ (ls : Array Slot), lv_has ls 9 [(0, .ref h0), (1, .int v1), (2, .long v2), (4, .long v4)] → W p l e R s m args below meth c H locs 0 0 (MQ below (mQv D cl cB cI cJ cZ cS iM h0 ad A x) args s 0 0 A) (F0 m 108 ls []) := by
  intro u v1 v2 v4 x hf H locs hP hD hS ls hl
  obtain ⟨hx, hb, hr, hml, ht, hown, hM, hK, hA, hlocks⟩ := id C0
  unfold fb_M_processRun_108 at hf
  refine lv_iconst (v := 0) hx hb d_M_processRun_108 (by decide) ?_
  exact wb_M_processRun_109 C0 hR N G hG _ _ _ _ _ _ hf H locs hP hD hS ls (lv_sub hl [0, 1, 2, 3] rfl)
def fb_M_processRun_104 (N : Nat) (G : Unit) (u : MS) (v1 : Int32) (v2 : Int64) (v4 : Int64) : Option (MS × Unit) := fb_M_processRun_109 N G u (v1) (v2) (v4) (1)
set_option maxRecDepth 100000 in
set_option maxHeartbeats 4000000 in
theorem wb_M_processRun_104 {p : Program} {l : Launch} {e : Env} {R : Room} {s : State} {m : MethodId} {args : Array Value} {below : List Frame} {meth : Method} {c : Code} {D : va_G} {cl : List vw_C} {cB cI cJ cZ cS : ClassId} {A : Nat → Prop} {iM h0 : Nat} {ad : Nat → Nat} (C0 : MCx p s m args meth c b_M_processRun 9 none D cl cB cI cJ cZ cS iM A) (hR : R = rm_M_processRun) (N : Nat) (G : Unit) (hG : True) : ∀ (u : MS) (v1 : Int32) (v2 : Int64) (v4 : Int64) (x : MS × Unit), fb_M_processRun_104 N G u v1 v2 v4 = some x → ∀ (H : Heap) (locs : List Loc), va_P D cl (wM cB cI cJ cZ cS iM h0 ad u) H → va_D A (wM cB cI cJ cZ cS iM h0 ad u) → va_S A s.heap H locs → ∀ (ls : Array Slot), lv_has ls 9 [(0, .ref h0), (1, .int v1), (2, .long v2), (4, .long v4)] → W p l e R s m args below meth c H locs 0 0 (MQ below (mQv D cl cB cI cJ cZ cS iM h0 ad A x) args s 0 0 A) (F0 m 104 ls []) := by
  intro u v1 v2 v4 x hf H locs hP hD hS ls hl
  obtain ⟨hx, hb, hr, hml, ht, hown, hM, hK, hA, hlocks⟩ := id C0
  unfold fb_M_processRun_104 at hf
  refine lv_iconst (v := 1) hx hb d_M_processRun_104 (by decide) ?_
  refine lv_goto (tgt := 109) hx hb d_M_processRun_105 (by decide) ?_
  exact wb_M_processRun_109 C0 hR N G hG _ _ _ _ _ _ hf H locs hP hD hS ls (lv_sub hl [0, 1, 2, 3] rfl)
def fb_M_processRun_83 (N : Nat) (G : Unit) (u : MS) (v1 : Int32) (v2 : Int64) (v4 : Int64) : Option (MS × Unit) := br (decide (v1 = 8)) (bnd (fm_M_copySize N u (u.1 133) v2) (fun u27 r27 => br (decide (500 < r27)) (fb_M_processRun_108 N G u27 (v1) (v2) (v4)) (fb_M_processRun_104 N G u27 (v1) (v2) (v4)))) (fb_M_processRun_104 N G u (v1) (v2) (v4))
set_option maxRecDepth 100000 in
set_option maxHeartbeats 4000000 in
theorem wb_M_processRun_83 {p : Program} {l : Launch} {e : Env} {R : Room} {s : State} {m : MethodId} {args : Array Value} {below : List Frame} {meth : Method} {c : Code} {D : va_G} {cl : List vw_C} {cB cI cJ cZ cS : ClassId} {A : Nat → Prop} {iM h0 : Nat} {ad : Nat → Nat} (C0 : MCx p s m args meth c b_M_processRun 9 none D cl cB cI cJ cZ cS iM A) (hR : R = rm_M_processRun) (N : Nat) (G : Unit) (hG : True) : ∀ (u : MS) (v1 : Int32) (v2 : Int64) (v4 : Int64) (x : MS × Unit), fb_M_processRun_83 N G u v1 v2 v4 = some x → ∀ (H : Heap) (locs : List Loc), va_P D cl (wM cB cI cJ cZ cS iM h0 ad u) H → va_D A (wM cB cI cJ cZ cS iM h0 ad u) → va_S A s.heap H locs → ∀ (ls : Array Slot), lv_has ls 9 [(0, .ref h0), (1, .int v1), (2, .long v2), (4, .long v4)] → W p l e R s m args below meth c H locs 0 0 (MQ below (mQv D cl cB cI cJ cZ cS iM h0 ad A x) args s 0 0 A) (F0 m 83 ls []) := by
  intro u v1 v2 v4 x hf H locs hP hD hS ls hl
  obtain ⟨hx, hb, hr, hml, ht, hown, hM, hK, hA, hlocks⟩ := id C0
  unfold fb_M_processRun_83 at hf
  refine lv_iload_n hx hb d_M_processRun_83 rfl (lv_at hl 1 rfl) ?_
  refine lv_bipush (v := 8) hx hb d_M_processRun_84 (by decide) ?_
  refine lv_icmp_ne (tgt := 104) hx hb d_M_processRun_86 (by decide) (fun hc => ?_) (fun hc => ?_)
  · rw [br_n _ hc] at hf
    exact wb_M_processRun_104 C0 hR N G hG _ _ _ _ _ hf H locs hP hD hS ls (lv_sub hl [0, 1, 2, 3] rfl)
  · rw [br_p _ hc] at hf
    refine lv_aload_n hx hb d_M_processRun_89 rfl (lv_at hl 0 rfl) ?_
    refine lv_aload_n hx hb d_M_processRun_90 rfl (lv_at hl 0 rfl) ?_
    refine ug_I hx hb ht hown hM hK hP 133 (by decide) lk_M_133 (by decide) d_M_processRun_91 ?_
    refine lv_lload_n hx hb d_M_processRun_94 rfl (lv_at hl 2 rfl) ?_
    obtain ⟨u27, r27, hc27, hf⟩ := bnd_some hf
    refine mV_i (As := [.int (u.1 133), .long v2]) (rest := []) C0 hP hD hS (c_M_copySize N hM hc27) k_M_copySize hl_M_copySize hi_M_copySize hs_M_copySize hini_M rfl rfl hd_M_copySize rfl (rm_M_processRun_M_copySize hR) hl.1 (Nat.le_of_ble_eq_true rfl) d_M_processRun_95 rfl ⟨Nat.zero_le _, Nat.zero_le _⟩ (fun H locs hP hD hS => ?_)
    refine lv_sipush (v := 500) hx hb d_M_processRun_98 (by decide) ?_
    refine lv_icmp_gt (tgt := 108) hx hb d_M_processRun_101 (by decide) (fun hc => ?_) (fun hc => ?_)
    · rw [br_p _ hc] at hf
      exact wb_M_processRun_108 C0 hR N G hG _ _ _ _ _ hf H locs hP hD hS ls (lv_sub hl [0, 1, 2, 3] rfl)
    · rw [br_n _ hc] at hf
      exact wb_M_processRun_104 C0 hR N G hG _ _ _ _ _ hf H locs hP hD hS ls (lv_sub hl [0, 1, 2, 3] rfl)
def fb_M_processRun_61 (N : Nat) (G : Unit) (u : MS) (v1 : Int32) (v2 : Int64) (v4 : Int64) (t0 : Int32) : Option (MS × Unit) := br (decide (t0 = 0)) (fb_M_processRun_108 N G u (v1) (v2) (v4)) (br (decide (v1 = 4)) (br (decide ((u.1 125) = 200)) (fb_M_processRun_108 N G u (v1) (v2) (v4)) (fb_M_processRun_83 N G u (v1) (v2) (v4))) (fb_M_processRun_83 N G u (v1) (v2) (v4)))
set_option maxRecDepth 100000 in
set_option maxHeartbeats 4000000 in
theorem wb_M_processRun_61 {p : Program} {l : Launch} {e : Env} {R : Room} {s : State} {m : MethodId} {args : Array Value} {below : List Frame} {meth : Method} {c : Code} {D : va_G} {cl : List vw_C} {cB cI cJ cZ cS : ClassId} {A : Nat → Prop} {iM h0 : Nat} {ad : Nat → Nat} (C0 : MCx p s m args meth c b_M_processRun 9 none D cl cB cI cJ cZ cS iM A) (hR : R = rm_M_processRun) (N : Nat) (G : Unit) (hG : True) : ∀ (u : MS) (v1 : Int32) (v2 : Int64) (v4 : Int64) (t0 : Int32) (x : MS × Unit), fb_M_processRun_61 N G u v1 v2 v4 t0 = some x → ∀ (H : Heap) (locs : List Loc), va_P D cl (wM cB cI cJ cZ cS iM h0 ad u) H → va_D A (wM cB cI cJ cZ cS iM h0 ad u) → va_S A s.heap H locs → ∀ (ls : Array Slot), lv_has ls 9 [(0, .ref h0), (1, .int v1), (2, .long v2), (4, .long v4)] → W p l e R s m args below meth c H locs 0 0 (MQ below (mQv D cl cB cI cJ cZ cS iM h0 ad A x) args s 0 0 A) (F0 m 61 ls [.int t0]) := by
  intro u v1 v2 v4 t0 x hf H locs hP hD hS ls hl
  obtain ⟨hx, hb, hr, hml, ht, hown, hM, hK, hA, hlocks⟩ := id C0
  unfold fb_M_processRun_61 at hf
  refine lv_istore (lv' := [(6, .int t0), (0, .ref h0), (1, .int v1), (2, .long v2), (4, .long v4)]) hx hb d_M_processRun_61 hl (by decide) rfl (fun ls hl => ?_)
  refine lv_iload hx hb d_M_processRun_63 (lv_at hl 0 rfl) ?_
  refine lv_if_eq (tgt := 108) hx hb d_M_processRun_65 (by decide) (fun hc => ?_) (fun hc => ?_)
  · rw [br_p _ hc] at hf
    exact wb_M_processRun_108 C0 hR N G hG _ _ _ _ _ hf H locs hP hD hS ls (lv_sub hl [1, 2, 3, 4] rfl)
  · rw [br_n _ hc] at hf
    refine lv_iload_n hx hb d_M_processRun_68 rfl (lv_at hl 2 rfl) ?_
    refine lv_iconst (v := 4) hx hb d_M_processRun_69 (by decide) ?_
    refine lv_icmp_ne (tgt := 83) hx hb d_M_processRun_70 (by decide) (fun hc => ?_) (fun hc => ?_)
    · rw [br_n _ hc] at hf
      exact wb_M_processRun_83 C0 hR N G hG _ _ _ _ _ hf H locs hP hD hS ls (lv_sub hl [1, 2, 3, 4] rfl)
    · rw [br_p _ hc] at hf
      refine lv_aload_n hx hb d_M_processRun_73 rfl (lv_at hl 1 rfl) ?_
      refine ug_I hx hb ht hown hM hK hP 125 (by decide) lk_M_125 (by decide) d_M_processRun_74 ?_
      refine lv_sipush (v := 200) hx hb d_M_processRun_77 (by decide) ?_
      refine lv_icmp_eq (tgt := 108) hx hb d_M_processRun_80 (by decide) (fun hc => ?_) (fun hc => ?_)
      · rw [br_p _ hc] at hf
        exact wb_M_processRun_108 C0 hR N G hG _ _ _ _ _ hf H locs hP hD hS ls (lv_sub hl [1, 2, 3, 4] rfl)
      · rw [br_n _ hc] at hf
        exact wb_M_processRun_83 C0 hR N G hG _ _ _ _ _ hf H locs hP hD hS ls (lv_sub hl [1, 2, 3, 4] rfl)
def fb_M_processRun_45 (N : Nat) (G : Unit) (u : MS) (v1 : Int32) (v2 : Int64) (t0 : Int64) : Option (MS × Unit) := bnd (fm_M_sortOf N u t0) (fun u28 r28 => br (decide (r28 = 4)) (fb_M_processRun_61 N G u28 (v1) (v2) (t0) (1)) (fb_M_processRun_61 N G u28 (v1) (v2) (t0) (0)))
set_option maxRecDepth 100000 in
set_option maxHeartbeats 4000000 in
theorem wb_M_processRun_45 {p : Program} {l : Launch} {e : Env} {R : Room} {s : State} {m : MethodId} {args : Array Value} {below : List Frame} {meth : Method} {c : Code} {D : va_G} {cl : List vw_C} {cB cI cJ cZ cS : ClassId} {A : Nat → Prop} {iM h0 : Nat} {ad : Nat → Nat} (C0 : MCx p s m args meth c b_M_processRun 9 none D cl cB cI cJ cZ cS iM A) (hR : R = rm_M_processRun) (N : Nat) (G : Unit) (hG : True) : ∀ (u : MS) (v1 : Int32) (v2 : Int64) (t0 : Int64) (x : MS × Unit), fb_M_processRun_45 N G u v1 v2 t0 = some x → ∀ (H : Heap) (locs : List Loc), va_P D cl (wM cB cI cJ cZ cS iM h0 ad u) H → va_D A (wM cB cI cJ cZ cS iM h0 ad u) → va_S A s.heap H locs → ∀ (ls : Array Slot), lv_has ls 9 [(0, .ref h0), (1, .int v1), (2, .long v2)] → W p l e R s m args below meth c H locs 0 0 (MQ below (mQv D cl cB cI cJ cZ cS iM h0 ad A x) args s 0 0 A) (F0 m 45 ls [.long t0]) := by
  intro u v1 v2 t0 x hf H locs hP hD hS ls hl
  obtain ⟨hx, hb, hr, hml, ht, hown, hM, hK, hA, hlocks⟩ := id C0
  unfold fb_M_processRun_45 at hf
  refine lv_lstore (lv' := [(4, .long t0), (0, .ref h0), (1, .int v1), (2, .long v2)]) hx hb d_M_processRun_45 hl (by decide) rfl (fun ls hl => ?_)
  refine lv_lload hx hb d_M_processRun_47 (lv_at hl 0 rfl) ?_
  obtain ⟨u28, r28, hc28, hf⟩ := bnd_some hf
  refine mS_i (As := [.long t0]) (rest := []) C0 hP hD hS (c_M_sortOf N hM hc28) k_M_sortOf hl_M_sortOf ht_M_sortOf hini_M rfl rfl hd_M_sortOf rfl (rm_M_processRun_M_sortOf hR) hl.1 (Nat.le_of_ble_eq_true rfl) d_M_processRun_49 rfl ⟨Nat.zero_le _, Nat.zero_le _⟩ (fun H locs hP hD hS => ?_)
  refine lv_iconst (v := 4) hx hb d_M_processRun_52 (by decide) ?_
  refine lv_icmp_ne (tgt := 60) hx hb d_M_processRun_53 (by decide) (fun hc => ?_) (fun hc => ?_)
  · rw [br_n _ hc] at hf
    refine lv_iconst (v := 0) hx hb d_M_processRun_60 (by decide) ?_
    exact wb_M_processRun_61 C0 hR N G hG _ _ _ _ _ _ hf H locs hP hD hS ls (lv_sub hl [1, 2, 3, 0] rfl)
  · rw [br_p _ hc] at hf
    refine lv_iconst (v := 1) hx hb d_M_processRun_56 (by decide) ?_
    refine lv_goto (tgt := 61) hx hb d_M_processRun_57 (by decide) ?_
    exact wb_M_processRun_61 C0 hR N G hG _ _ _ _ _ _ hf H locs hP hD hS ls (lv_sub hl [1, 2, 3, 0] rfl)
def fb_M_processRun_25 (N : Nat) (G : Unit) (u : MS) (v1 : Int32) (t0 : Int64) : Option (MS × Unit) := br (decide (v1 = 8)) (bnd (fm_M_top N u 1) (fun u30 r30 => fb_M_processRun_45 N G u30 (v1) (t0) (r30))) (bnd (fm_M_top N u 0) (fun u29 r29 => fb_M_processRun_45 N G u29 (v1) (t0) (r29)))
set_option maxRecDepth 100000 in
set_option maxHeartbeats 4000000 in
theorem wb_M_processRun_25 {p : Program} {l : Launch} {e : Env} {R : Room} {s : State} {m : MethodId} {args : Array Value} {below : List Frame} {meth : Method} {c : Code} {D : va_G} {cl : List vw_C} {cB cI cJ cZ cS : ClassId} {A : Nat → Prop} {iM h0 : Nat} {ad : Nat → Nat} (C0 : MCx p s m args meth c b_M_processRun 9 none D cl cB cI cJ cZ cS iM A) (hR : R = rm_M_processRun) (N : Nat) (G : Unit) (hG : True) : ∀ (u : MS) (v1 : Int32) (t0 : Int64) (x : MS × Unit), fb_M_processRun_25 N G u v1 t0 = some x → ∀ (H : Heap) (locs : List Loc), va_P D cl (wM cB cI cJ cZ cS iM h0 ad u) H → va_D A (wM cB cI cJ cZ cS iM h0 ad u) → va_S A s.heap H locs → ∀ (ls : Array Slot), lv_has ls 9 [(0, .ref h0), (1, .int v1)] → W p l e R s m args below meth c H locs 0 0 (MQ below (mQv D cl cB cI cJ cZ cS iM h0 ad A x) args s 0 0 A) (F0 m 25 ls [.long t0]) := by
  intro u v1 t0 x hf H locs hP hD hS ls hl
  obtain ⟨hx, hb, hr, hml, ht, hown, hM, hK, hA, hlocks⟩ := id C0
  unfold fb_M_processRun_25 at hf
  refine lv_lstore_n (lv' := [(2, .long t0), (0, .ref h0), (1, .int v1)]) hx hb d_M_processRun_25 rfl hl (by decide) rfl (fun ls hl => ?_)
  refine lv_iload_n hx hb d_M_processRun_26 rfl (lv_at hl 2 rfl) ?_
  refine lv_bipush (v := 8) hx hb d_M_processRun_27 (by decide) ?_
  refine lv_icmp_ne (tgt := 40) hx hb d_M_processRun_29 (by decide) (fun hc => ?_) (fun hc => ?_)
  · rw [br_n _ hc] at hf
    refine lv_aload_n hx hb d_M_processRun_40 rfl (lv_at hl 1 rfl) ?_
    refine lv_iconst (v := 0) hx hb d_M_processRun_41 (by decide) ?_
    obtain ⟨u29, r29, hc29, hf⟩ := bnd_some hf
    refine mV_l (As := [.int 0]) (rest := []) C0 hP hD hS (c_M_top N hM hc29) k_M_top hl_M_top hi_M_top hs_M_top hini_M rfl rfl hd_M_top rfl (rm_M_processRun_M_top hR) hl.1 (Nat.le_of_ble_eq_true rfl) d_M_processRun_42 rfl ⟨Nat.zero_le _, Nat.zero_le _⟩ (fun H locs hP hD hS => ?_)
    exact wb_M_processRun_45 C0 hR N G hG _ _ _ _ _ hf H locs hP hD hS ls (lv_sub hl [1, 2, 0] rfl)
  · rw [br_p _ hc] at hf
    refine lv_aload_n hx hb d_M_processRun_32 rfl (lv_at hl 1 rfl) ?_
    refine lv_iconst (v := 1) hx hb d_M_processRun_33 (by decide) ?_
    obtain ⟨u30, r30, hc30, hf⟩ := bnd_some hf
    refine mV_l (As := [.int 1]) (rest := []) C0 hP hD hS (c_M_top N hM hc30) k_M_top hl_M_top hi_M_top hs_M_top hini_M rfl rfl hd_M_top rfl (rm_M_processRun_M_top hR) hl.1 (Nat.le_of_ble_eq_true rfl) d_M_processRun_34 rfl ⟨Nat.zero_le _, Nat.zero_le _⟩ (fun H locs hP hD hS => ?_)
    refine lv_goto (tgt := 45) hx hb d_M_processRun_37 (by decide) ?_
    exact wb_M_processRun_45 C0 hR N G hG _ _ _ _ _ hf H locs hP hD hS ls (lv_sub hl [1, 2, 0] rfl)
def fb_M_processRun_0 (N : Nat) (G : Unit) (u : MS) (v1 : Int32) : Option (MS × Unit) := br (decide (v1 = 5)) (bnd (fm_M_unwatchRun N u) (fun u32 _ => some (u32, ()))) (br (decide (v1 = 8)) (bnd (fm_M_top N u 0) (fun u31 r31 => fb_M_processRun_25 N G u31 (v1) (r31))) (fb_M_processRun_25 N G u (v1) (0)))
set_option maxRecDepth 100000 in
set_option maxHeartbeats 4000000 in
theorem wb_M_processRun_0 {p : Program} {l : Launch} {e : Env} {R : Room} {s : State} {m : MethodId} {args : Array Value} {below : List Frame} {meth : Method} {c : Code} {D : va_G} {cl : List vw_C} {cB cI cJ cZ cS : ClassId} {A : Nat → Prop} {iM h0 : Nat} {ad : Nat → Nat} (C0 : MCx p s m args meth c b_M_processRun 9 none D cl cB cI cJ cZ cS iM A) (hR : R = rm_M_processRun) (N : Nat) (G : Unit) (hG : True) : ∀ (u : MS) (v1 : Int32) (x : MS × Unit), fb_M_processRun_0 N G u v1 = some x → ∀ (H : Heap) (locs : List Loc), va_P D cl (wM cB cI cJ cZ cS iM h0 ad u) H → va_D A (wM cB cI cJ cZ cS iM h0 ad u) → va_S A s.heap H locs → ∀ (ls : Array Slot), lv_has ls 9 [(0, .ref h0), (1, .int v1)] → W p l e R s m args below meth c H locs 0 0 (MQ below (mQv D cl cB cI cJ cZ cS iM h0 ad A x) args s 0 0 A) (F0 m 0 ls []) := by
  intro u v1 x hf H locs hP hD hS ls hl
  obtain ⟨hx, hb, hr, hml, ht, hown, hM, hK, hA, hlocks⟩ := id C0
  unfold fb_M_processRun_0 at hf
  refine lv_iload_n hx hb d_M_processRun_0 rfl (lv_at hl 1 rfl) ?_
  refine lv_iconst (v := 5) hx hb d_M_processRun_1 (by decide) ?_
  refine lv_icmp_ne (tgt := 10) hx hb d_M_processRun_2 (by decide) (fun hc => ?_) (fun hc => ?_)
  · rw [br_n _ hc] at hf
    refine lv_iload_n hx hb d_M_processRun_10 rfl (lv_at hl 1 rfl) ?_
    refine lv_bipush (v := 8) hx hb d_M_processRun_11 (by decide) ?_
    refine lv_icmp_ne (tgt := 24) hx hb d_M_processRun_13 (by decide) (fun hc => ?_) (fun hc => ?_)
    · rw [br_n _ hc] at hf
      refine lv_lconst (v := 0) hx hb d_M_processRun_24 (by decide) ?_
      exact wb_M_processRun_25 C0 hR N G hG _ _ _ _ hf H locs hP hD hS ls (lv_sub hl [0, 1] rfl)
    · rw [br_p _ hc] at hf
      refine lv_aload_n hx hb d_M_processRun_16 rfl (lv_at hl 0 rfl) ?_
      refine lv_iconst (v := 0) hx hb d_M_processRun_17 (by decide) ?_
      obtain ⟨u31, r31, hc31, hf⟩ := bnd_some hf
      refine mV_l (As := [.int 0]) (rest := []) C0 hP hD hS (c_M_top N hM hc31) k_M_top hl_M_top hi_M_top hs_M_top hini_M rfl rfl hd_M_top rfl (rm_M_processRun_M_top hR) hl.1 (Nat.le_of_ble_eq_true rfl) d_M_processRun_18 rfl ⟨Nat.zero_le _, Nat.zero_le _⟩ (fun H locs hP hD hS => ?_)
      refine lv_goto (tgt := 25) hx hb d_M_processRun_21 (by decide) ?_
      exact wb_M_processRun_25 C0 hR N G hG _ _ _ _ hf H locs hP hD hS ls (lv_sub hl [0, 1] rfl)
  · rw [br_p _ hc] at hf
    refine lv_aload_n hx hb d_M_processRun_5 rfl (lv_at hl 0 rfl) ?_
    obtain ⟨u32, r32, hc32, hf⟩ := bnd_some hf
    refine mV_v (As := []) (rest := []) C0 hP hD hS (c_M_unwatchRun N hM hc32) k_M_unwatchRun hl_M_unwatchRun hi_M_unwatchRun hs_M_unwatchRun hini_M rfl rfl hd_M_unwatchRun rfl (rm_M_processRun_M_unwatchRun hR) hl.1 (Nat.le_of_ble_eq_true rfl) d_M_processRun_6 rfl ⟨Nat.zero_le _, Nat.zero_le _⟩ (fun H locs hP hD hS => ?_)
    exact mr_v C0 hP hD hS hf d_M_processRun_9
def fm_M_processRun (N : Nat) (u : MS) (v1 : Int32) : Option (MS × Unit) := fb_M_processRun_0 N () u v1
set_option maxRecDepth 100000 in
set_option maxHeartbeats 4000000 in
theorem c_M_processRun (N : Nat) {l : Launch} {D : va_G} {cl : List vw_C} {cB cI cJ cZ cS : ClassId} {iM h0 : Nat} {ad : Nat → Nat} {u : MS} {sz : Nat} {v1 : Int32} {x : MS × Unit} (hM : cl[iM]? = some (R_M, F_M, 171)) (hf : fm_M_processRun N u v1 = some x) : Met l y_M_processRun (wd_ws y_M_processRun b_M_processRun 9 none) rm_M_processRun (mPc D cl cB cI cJ cZ cS iM h0 ad u sz [.ref h0, .int v1]) (mQv D cl cB cI cJ cZ cS iM h0 ad (mA cB cI cJ cZ cS iM h0 ad u sz) x) 0 0 (mA cB cI cJ cZ cS iM h0 ad u sz) :=
  mMet (by decide) rfl hM (Nat.le_of_ble_eq_true rfl) (fun p e s m below meth c ls hsz C0 hP hD hS hl => by
    have hR : rm_M_processRun = rm_M_processRun := rfl
    exact wb_M_processRun_0 C0 hR N () trivial u _ x hf s.heap [] hP hD hS ls (lv_sub hl [0, 1] rfl))
abbrev b_M_predefinedRun : ByteArray := prog_14_method_150_code
def y_M_predefinedRun : MethodName := ⟨R_M, "predefinedRun", "(I)V"⟩
def w_M_predefinedRun : List Cond := wd_ws y_M_predefinedRun b_M_predefinedRun 4 none
set_option maxRecDepth 100000 in
theorem k_M_predefinedRun : Cond.code y_M_predefinedRun b_M_predefinedRun 4 none ∈ wd_tbl := wd_of 3074 rfl rfl
theorem d_M_predefinedRun_0 : decode b_M_predefinedRun 0 = .ok (.iload_n 1, 1) := by decide +kernel
theorem d_M_predefinedRun_1 : decode b_M_predefinedRun 1 = .ok (.bipush 18, 2) := by decide +kernel
theorem d_M_predefinedRun_3 : decode b_M_predefinedRun 3 = .ok (.if_icmp .lt 9, 3) := by decide +kernel
theorem d_M_predefinedRun_6 : decode b_M_predefinedRun 6 = .ok (.aload_n 0, 1) := by decide +kernel
theorem d_M_predefinedRun_7 : decode b_M_predefinedRun 7 = .ok (.iload_n 1, 1) := by decide +kernel
theorem d_M_predefinedRun_8 : decode b_M_predefinedRun 8 = .ok (.invokevirtual 992, 3) := by decide +kernel
theorem d_M_predefinedRun_11 : decode b_M_predefinedRun 11 = .ok (.return_, 1) := by decide +kernel
theorem d_M_predefinedRun_12 : decode b_M_predefinedRun 12 = .ok (.iload_n 1, 1) := by decide +kernel
theorem d_M_predefinedRun_13 : decode b_M_predefinedRun 13 = .ok (.tableswitch 274 0 17 #[87, 102, 274, 274, 274, 274, 188, 109, 274, 109, 109, 143, 163, 251, 251, 251, 274, 259], 87) := by decide +kernel
theorem d_M_predefinedRun_100 : decode b_M_predefinedRun 100 = .ok (.aload_n 0, 1) := by decide +kernel
theorem d_M_predefinedRun_101 : decode b_M_predefinedRun 101 = .ok (.iconst 4, 1) := by decide +kernel
theorem d_M_predefinedRun_102 : decode b_M_predefinedRun 102 = .ok (.aload_n 0, 1) := by decide +kernel
theorem d_M_predefinedRun_103 : decode b_M_predefinedRun 103 = .ok (.getfield 669, 3) := by decide +kernel
theorem d_M_predefinedRun_106 : decode b_M_predefinedRun 106 = .ok (.invokestatic 315, 3) := by decide +kernel
theorem d_M_predefinedRun_109 : decode b_M_predefinedRun 109 = .ok (.invokevirtual 801, 3) := by decide +kernel
theorem d_M_predefinedRun_112 : decode b_M_predefinedRun 112 = .ok (.goto 180, 3) := by decide +kernel
theorem d_M_predefinedRun_115 : decode b_M_predefinedRun 115 = .ok (.aload_n 0, 1) := by decide +kernel
theorem d_M_predefinedRun_116 : decode b_M_predefinedRun 116 = .ok (.invokevirtual 995, 3) := by decide +kernel
theorem d_M_predefinedRun_119 : decode b_M_predefinedRun 119 = .ok (.goto 173, 3) := by decide +kernel
theorem d_M_predefinedRun_122 : decode b_M_predefinedRun 122 = .ok (.aload_n 0, 1) := by decide +kernel
theorem d_M_predefinedRun_123 : decode b_M_predefinedRun 123 = .ok (.invokevirtual 930, 3) := by decide +kernel
theorem d_M_predefinedRun_126 : decode b_M_predefinedRun 126 = .ok (.lstore_n 2, 1) := by decide +kernel
theorem d_M_predefinedRun_127 : decode b_M_predefinedRun 127 = .ok (.aload_n 0, 1) := by decide +kernel
theorem d_M_predefinedRun_128 : decode b_M_predefinedRun 128 = .ok (.iload_n 1, 1) := by decide +kernel
theorem d_M_predefinedRun_129 : decode b_M_predefinedRun 129 = .ok (.bipush 7, 2) := by decide +kernel
theorem d_M_predefinedRun_131 : decode b_M_predefinedRun 131 = .ok (.if_icmp .ne 7, 3) := by decide +kernel
theorem d_M_predefinedRun_134 : decode b_M_predefinedRun 134 = .ok (.iconst 1, 1) := by decide +kernel
theorem d_M_predefinedRun_135 : decode b_M_predefinedRun 135 = .ok (.goto 14, 3) := by decide +kernel
theorem d_M_predefinedRun_138 : decode b_M_predefinedRun 138 = .ok (.iload_n 1, 1) := by decide +kernel
theorem d_M_predefinedRun_139 : decode b_M_predefinedRun 139 = .ok (.bipush 9, 2) := by decide +kernel
theorem d_M_predefinedRun_141 : decode b_M_predefinedRun 141 = .ok (.if_icmp .ne 7, 3) := by decide +kernel
theorem d_M_predefinedRun_144 : decode b_M_predefinedRun 144 = .ok (.iconst 2, 1) := by decide +kernel
theorem d_M_predefinedRun_145 : decode b_M_predefinedRun 145 = .ok (.goto 4, 3) := by decide +kernel
theorem d_M_predefinedRun_148 : decode b_M_predefinedRun 148 = .ok (.iconst 0, 1) := by decide +kernel
theorem d_M_predefinedRun_149 : decode b_M_predefinedRun 149 = .ok (.lload_n 2, 1) := by decide +kernel
theorem d_M_predefinedRun_150 : decode b_M_predefinedRun 150 = .ok (.invokevirtual 814, 3) := by decide +kernel
theorem d_M_predefinedRun_153 : decode b_M_predefinedRun 153 = .ok (.goto 139, 3) := by decide +kernel
theorem d_M_predefinedRun_156 : decode b_M_predefinedRun 156 = .ok (.aload_n 0, 1) := by decide +kernel
theorem d_M_predefinedRun_157 : decode b_M_predefinedRun 157 = .ok (.aload_n 0, 1) := by decide +kernel
theorem d_M_predefinedRun_158 : decode b_M_predefinedRun 158 = .ok (.invokevirtual 930, 3) := by decide +kernel
theorem d_M_predefinedRun_161 : decode b_M_predefinedRun 161 = .ok (.invokevirtual 998, 3) := by decide +kernel
theorem d_M_predefinedRun_164 : decode b_M_predefinedRun 164 = .ok (.aload_n 0, 1) := by decide +kernel
theorem d_M_predefinedRun_165 : decode b_M_predefinedRun 165 = .ok (.iconst 1, 1) := by decide +kernel
theorem d_M_predefinedRun_166 : decode b_M_predefinedRun 166 = .ok (.iconst 2, 1) := by decide +kernel
theorem d_M_predefinedRun_167 : decode b_M_predefinedRun 167 = .ok (.invokestatic 315, 3) := by decide +kernel
theorem d_M_predefinedRun_170 : decode b_M_predefinedRun 170 = .ok (.invokevirtual 801, 3) := by decide +kernel
theorem d_M_predefinedRun_173 : decode b_M_predefinedRun 173 = .ok (.goto 119, 3) := by decide +kernel
theorem d_M_predefinedRun_176 : decode b_M_predefinedRun 176 = .ok (.aload_n 0, 1) := by decide +kernel
theorem d_M_predefinedRun_177 : decode b_M_predefinedRun 177 = .ok (.iconst 2, 1) := by decide +kernel
theorem d_M_predefinedRun_178 : decode b_M_predefinedRun 178 = .ok (.aload_n 0, 1) := by decide +kernel
theorem d_M_predefinedRun_179 : decode b_M_predefinedRun 179 = .ok (.getfield 1001, 3) := by decide +kernel
theorem d_M_predefinedRun_182 : decode b_M_predefinedRun 182 = .ok (.invokestatic 315, 3) := by decide +kernel
theorem d_M_predefinedRun_185 : decode b_M_predefinedRun 185 = .ok (.invokevirtual 801, 3) := by decide +kernel
theorem d_M_predefinedRun_188 : decode b_M_predefinedRun 188 = .ok (.aload_n 0, 1) := by decide +kernel
theorem d_M_predefinedRun_189 : decode b_M_predefinedRun 189 = .ok (.dup, 1) := by decide +kernel
theorem d_M_predefinedRun_190 : decode b_M_predefinedRun 190 = .ok (.getfield 1001, 3) := by decide +kernel
theorem d_M_predefinedRun_193 : decode b_M_predefinedRun 193 = .ok (.iconst 1, 1) := by decide +kernel
theorem d_M_predefinedRun_194 : decode b_M_predefinedRun 194 = .ok (.iadd, 1) := by decide +kernel
theorem d_M_predefinedRun_195 : decode b_M_predefinedRun 195 = .ok (.putfield 1001, 3) := by decide +kernel
theorem d_M_predefinedRun_198 : decode b_M_predefinedRun 198 = .ok (.goto 94, 3) := by decide +kernel
theorem d_M_predefinedRun_201 : decode b_M_predefinedRun 201 = .ok (.aload_n 0, 1) := by decide +kernel
theorem d_M_predefinedRun_202 : decode b_M_predefinedRun 202 = .ok (.invokevirtual 930, 3) := by decide +kernel
theorem d_M_predefinedRun_205 : decode b_M_predefinedRun 205 = .ok (.lstore_n 2, 1) := by decide +kernel
theorem d_M_predefinedRun_206 : decode b_M_predefinedRun 206 = .ok (.lload_n 2, 1) := by decide +kernel
theorem d_M_predefinedRun_207 : decode b_M_predefinedRun 207 = .ok (.invokestatic 947, 3) := by decide +kernel
theorem d_M_predefinedRun_210 : decode b_M_predefinedRun 210 = .ok (.ifCond .eq 45, 3) := by decide +kernel
theorem d_M_predefinedRun_213 : decode b_M_predefinedRun 213 = .ok (.aload_n 0, 1) := by decide +kernel
theorem d_M_predefinedRun_214 : decode b_M_predefinedRun 214 = .ok (.aload_n 0, 1) := by decide +kernel
theorem d_M_predefinedRun_215 : decode b_M_predefinedRun 215 = .ok (.getfield 264, 3) := by decide +kernel
theorem d_M_predefinedRun_218 : decode b_M_predefinedRun 218 = .ok (.aload_n 0, 1) := by decide +kernel
theorem d_M_predefinedRun_219 : decode b_M_predefinedRun 219 = .ok (.getfield 669, 3) := by decide +kernel
theorem d_M_predefinedRun_222 : decode b_M_predefinedRun 222 = .ok (.baload, 1) := by decide +kernel
theorem d_M_predefinedRun_223 : decode b_M_predefinedRun 223 = .ok (.invokestatic 940, 3) := by decide +kernel
theorem d_M_predefinedRun_226 : decode b_M_predefinedRun 226 = .ok (.invokevirtual 801, 3) := by decide +kernel
theorem d_M_predefinedRun_229 : decode b_M_predefinedRun 229 = .ok (.aload_n 0, 1) := by decide +kernel
theorem d_M_predefinedRun_230 : decode b_M_predefinedRun 230 = .ok (.getfield 264, 3) := by decide +kernel
theorem d_M_predefinedRun_233 : decode b_M_predefinedRun 233 = .ok (.aload_n 0, 1) := by decide +kernel
theorem d_M_predefinedRun_234 : decode b_M_predefinedRun 234 = .ok (.getfield 669, 3) := by decide +kernel
theorem d_M_predefinedRun_237 : decode b_M_predefinedRun 237 = .ok (.lload_n 2, 1) := by decide +kernel
theorem d_M_predefinedRun_238 : decode b_M_predefinedRun 238 = .ok (.iconst 1, 1) := by decide +kernel
theorem d_M_predefinedRun_239 : decode b_M_predefinedRun 239 = .ok (.invokestatic 940, 3) := by decide +kernel
theorem d_M_predefinedRun_242 : decode b_M_predefinedRun 242 = .ok (.lcmp, 1) := by decide +kernel
theorem d_M_predefinedRun_243 : decode b_M_predefinedRun 243 = .ok (.ifCond .ne 7, 3) := by decide +kernel
theorem d_M_predefinedRun_246 : decode b_M_predefinedRun 246 = .ok (.iconst 1, 1) := by decide +kernel
theorem d_M_predefinedRun_247 : decode b_M_predefinedRun 247 = .ok (.goto 4, 3) := by decide +kernel
theorem d_M_predefinedRun_250 : decode b_M_predefinedRun 250 = .ok (.iconst 0, 1) := by decide +kernel
theorem d_M_predefinedRun_251 : decode b_M_predefinedRun 251 = .ok (.bastore, 1) := by decide +kernel
theorem d_M_predefinedRun_252 : decode b_M_predefinedRun 252 = .ok (.goto 40, 3) := by decide +kernel
theorem d_M_predefinedRun_255 : decode b_M_predefinedRun 255 = .ok (.aload_n 0, 1) := by decide +kernel
theorem d_M_predefinedRun_256 : decode b_M_predefinedRun 256 = .ok (.bipush 11, 2) := by decide +kernel
theorem d_M_predefinedRun_258 : decode b_M_predefinedRun 258 = .ok (.invokevirtual 861, 3) := by decide +kernel
theorem d_M_predefinedRun_261 : decode b_M_predefinedRun 261 = .ok (.goto 31, 3) := by decide +kernel
theorem d_M_predefinedRun_264 : decode b_M_predefinedRun 264 = .ok (.aload_n 0, 1) := by decide +kernel
theorem d_M_predefinedRun_265 : decode b_M_predefinedRun 265 = .ok (.iload_n 1, 1) := by decide +kernel
theorem d_M_predefinedRun_266 : decode b_M_predefinedRun 266 = .ok (.invokevirtual 1004, 3) := by decide +kernel
theorem d_M_predefinedRun_269 : decode b_M_predefinedRun 269 = .ok (.goto 23, 3) := by decide +kernel
theorem d_M_predefinedRun_272 : decode b_M_predefinedRun 272 = .ok (.aload_n 0, 1) := by decide +kernel
theorem d_M_predefinedRun_273 : decode b_M_predefinedRun 273 = .ok (.iconst 0, 1) := by decide +kernel
theorem d_M_predefinedRun_274 : decode b_M_predefinedRun 274 = .ok (.aload_n 0, 1) := by decide +kernel
theorem d_M_predefinedRun_275 : decode b_M_predefinedRun 275 = .ok (.getfield 904, 3) := by decide +kernel
theorem d_M_predefinedRun_278 : decode b_M_predefinedRun 278 = .ok (.invokestatic 315, 3) := by decide +kernel
theorem d_M_predefinedRun_281 : decode b_M_predefinedRun 281 = .ok (.invokevirtual 801, 3) := by decide +kernel
theorem d_M_predefinedRun_284 : decode b_M_predefinedRun 284 = .ok (.goto 8, 3) := by decide +kernel
theorem d_M_predefinedRun_287 : decode b_M_predefinedRun 287 = .ok (.aload_n 0, 1) := by decide +kernel
theorem d_M_predefinedRun_288 : decode b_M_predefinedRun 288 = .ok (.iload_n 1, 1) := by decide +kernel
theorem d_M_predefinedRun_289 : decode b_M_predefinedRun 289 = .ok (.invokevirtual 1007, 3) := by decide +kernel
theorem d_M_predefinedRun_292 : decode b_M_predefinedRun 292 = .ok (.return_, 1) := by decide +kernel
set_option maxRecDepth 100000 in
theorem hl_M_predefinedRun : Cond.methodLink R_M 956 y_M_predefinedRun ∈ wd_tbl := wd_of 3071 (by decide +kernel) rfl
set_option maxRecDepth 100000 in
theorem hi_M_predefinedRun : Cond.instanceMethod y_M_predefinedRun ∈ wd_tbl := wd_of 3073 (by decide +kernel) rfl
set_option maxRecDepth 100000 in
theorem hs_M_predefinedRun : Cond.selects R_M y_M_predefinedRun y_M_predefinedRun ∈ wd_tbl := wd_of 224 (by decide +kernel) rfl
theorem hd_M_predefinedRun : y_M_predefinedRun.cls = R_M ∧ y_M_predefinedRun.cls ≠ "java/lang/invoke/MethodHandle" ∧ y_M_predefinedRun.cls ≠ "java/lang/invoke/VarHandle" ∧ (parseMethodDescriptor y_M_predefinedRun.desc).map (fun d => d.parameters.length) = some 1 := by decide +kernel
def rm_M_predefinedRun : Room := { frames := 29, cells := 0, slots := 0, locals := 755 }
theorem rm_M_predefinedRun_M_testRun {R : Room} (hR : R = rm_M_predefinedRun) : (rm_M_testRun).frames + 1 ≤ R.frames ∧ 8 + (8 + 11) + (rm_M_testRun).locals ≤ R.locals := by subst hR; decide
theorem rm_M_predefinedRun_M_term {R : Room} (hR : R = rm_M_predefinedRun) : (rm_M_term).frames + 1 ≤ R.frames ∧ 8 + (2 + 11) + (rm_M_term).locals ≤ R.locals := by subst hR; decide
theorem rm_M_predefinedRun_M_put {R : Room} (hR : R = rm_M_predefinedRun) : (rm_M_put).frames + 1 ≤ R.frames ∧ 8 + (3 + 11) + (rm_M_put).locals ≤ R.locals := by subst hR; decide
theorem rm_M_predefinedRun_M_spawnRun {R : Room} (hR : R = rm_M_predefinedRun) : (rm_M_spawnRun).frames + 1 ≤ R.frames ∧ 8 + (13 + 11) + (rm_M_spawnRun).locals ≤ R.locals := by subst hR; decide
theorem rm_M_predefinedRun_M_take {R : Room} (hR : R = rm_M_predefinedRun) : (rm_M_take).frames + 1 ≤ R.frames ∧ 8 + (1 + 11) + (rm_M_take).locals ≤ R.locals := by subst hR; decide
theorem rm_M_predefinedRun_M_goesUp {R : Room} (hR : R = rm_M_predefinedRun) : (rm_M_goesUp).frames + 1 ≤ R.frames ∧ 8 + (7 + 11) + (rm_M_goesUp).locals ≤ R.locals := by subst hR; decide
theorem rm_M_predefinedRun_M_printRun {R : Room} (hR : R = rm_M_predefinedRun) : (rm_M_printRun).frames + 1 ≤ R.frames ∧ 8 + (4 + 11) + (rm_M_printRun).locals ≤ R.locals := by subst hR; decide
theorem rm_M_predefinedRun_M_isTruth {R : Room} (hR : R = rm_M_predefinedRun) : (rm_M_isTruth).frames + 1 ≤ R.frames ∧ 8 + (2 + 11) + (rm_M_isTruth).locals ≤ R.locals := by subst hR; decide
theorem rm_M_predefinedRun_M_truth {R : Room} (hR : R = rm_M_predefinedRun) : (rm_M_truth).frames + 1 ≤ R.frames ∧ 8 + (1 + 11) + (rm_M_truth).locals ≤ R.locals := by subst hR; decide
theorem rm_M_predefinedRun_M_error {R : Room} (hR : R = rm_M_predefinedRun) : (rm_M_error).frames + 1 ≤ R.frames ∧ 8 + (2 + 11) + (rm_M_error).locals ≤ R.locals := by subst hR; decide
theorem rm_M_predefinedRun_M_nameRun {R : Room} (hR : R = rm_M_predefinedRun) : (rm_M_nameRun).frames + 1 ≤ R.frames ∧ 8 + (8 + 11) + (rm_M_nameRun).locals ≤ R.locals := by subst hR; decide
theorem rm_M_predefinedRun_M_processRun {R : Room} (hR : R = rm_M_predefinedRun) : (rm_M_processRun).frames + 1 ≤ R.frames ∧ 8 + (9 + 11) + (rm_M_processRun).locals ≤ R.locals := by subst hR; decide
def fb_M_predefinedRun_292 (N : Nat) (G : Unit) (u : MS) : Option (MS × Unit) := some (u, ())
set_option maxRecDepth 100000 in
set_option maxHeartbeats 4000000 in
theorem wb_M_predefinedRun_292 {p : Program} {l : Launch} {e : Env} {R : Room} {s : State} {m : MethodId} {args : Array Value} {below : List Frame} {meth : Method} {c : Code} {D : va_G} {cl : List vw_C} {cB cI cJ cZ cS : ClassId} {A : Nat → Prop} {iM h0 : Nat} {ad : Nat → Nat} (C0 : MCx p s m args meth c b_M_predefinedRun 4 none D cl cB cI cJ cZ cS iM A) (hR : R = rm_M_predefinedRun) (N : Nat) (G : Unit) (hG : True) : ∀ (u : MS) (x : MS × Unit), fb_M_predefinedRun_292 N G u = some x → ∀ (H : Heap) (locs : List Loc), va_P D cl (wM cB cI cJ cZ cS iM h0 ad u) H → va_D A (wM cB cI cJ cZ cS iM h0 ad u) → va_S A s.heap H locs → ∀ (ls : Array Slot), lv_has ls 4 [] → W p l e R s m args below meth c H locs 0 0 (MQ below (mQv D cl cB cI cJ cZ cS iM h0 ad A x) args s 0 0 A) (F0 m 292 ls []) := by
  intro u x hf H locs hP hD hS ls hl
  obtain ⟨hx, hb, hr, hml, ht, hown, hM, hK, hA, hlocks⟩ := id C0
  unfold fb_M_predefinedRun_292 at hf
  exact mr_v C0 hP hD hS hf d_M_predefinedRun_292
def fb_M_predefinedRun_251 (N : Nat) (G : Unit) (u : MS) (t0 : Nat) (t1 : Int32) (t2 : Int32) : Option (MS × Unit) := ck (isK t0 6) (ck (inb t1 (ln t0)) (lt (upA u t0 (upd (u.2.2.1 t0) t1.toNatClampNeg (vp_nar .boolean t2))) (fun w1 => fb_M_predefinedRun_292 N G w1)))
set_option maxRecDepth 100000 in
set_option maxHeartbeats 4000000 in
theorem wb_M_predefinedRun_251 {p : Program} {l : Launch} {e : Env} {R : Room} {s : State} {m : MethodId} {args : Array Value} {below : List Frame} {meth : Method} {c : Code} {D : va_G} {cl : List vw_C} {cB cI cJ cZ cS : ClassId} {A : Nat → Prop} {iM h0 : Nat} {ad : Nat → Nat} (C0 : MCx p s m args meth c b_M_predefinedRun 4 none D cl cB cI cJ cZ cS iM A) (hR : R = rm_M_predefinedRun) (N : Nat) (G : Unit) (hG : True) : ∀ (u : MS) (t0 : Nat) (t1 : Int32) (t2 : Int32) (x : MS × Unit), fb_M_predefinedRun_251 N G u t0 t1 t2 = some x → ∀ (H : Heap) (locs : List Loc), va_P D cl (wM cB cI cJ cZ cS iM h0 ad u) H → va_D A (wM cB cI cJ cZ cS iM h0 ad u) → va_S A s.heap H locs → ∀ (ls : Array Slot), lv_has ls 4 [] → W p l e R s m args below meth c H locs 0 0 (MQ below (mQv D cl cB cI cJ cZ cS iM h0 ad A x) args s 0 0 A) (F0 m 251 ls [.int t2, .int t1, .ref (ad t0)]) := by
  intro u t0 t1 t2 x hf H locs hP hD hS ls hl
  obtain ⟨hx, hb, hr, hml, ht, hown, hM, hK, hA, hlocks⟩ := id C0
  unfold fb_M_predefinedRun_251 at hf
  obtain ⟨hk9, hf⟩ := ck_some hf
  obtain ⟨hi9, hf⟩ := ck_some hf
  refine us_Z hx hb hK hP hD hS (isK_1 hk9) (isK_2 hk9) hi9 d_M_predefinedRun_251 (fun H locs hP hD hS => ?_)
  obtain ⟨w1, e1, hf⟩ := lt_some hf
  rw [← e1] at hP hD
  refine lv_goto (tgt := 292) hx hb d_M_predefinedRun_252 (by decide) ?_
  exact wb_M_predefinedRun_292 C0 hR N G hG _ _ hf H locs hP hD hS ls (lv_sub hl [] rfl)
def fb_M_predefinedRun_149 (N : Nat) (G : Unit) (u : MS) (v2 : Int64) (t1 : Int32) : Option (MS × Unit) := bnd (fr_M_goesUp N u t1 v2) (fun u2 _ => fb_M_predefinedRun_292 N G u2)
set_option maxRecDepth 100000 in
set_option maxHeartbeats 4000000 in
theorem wb_M_predefinedRun_149 {p : Program} {l : Launch} {e : Env} {R : Room} {s : State} {m : MethodId} {args : Array Value} {below : List Frame} {meth : Method} {c : Code} {D : va_G} {cl : List vw_C} {cB cI cJ cZ cS : ClassId} {A : Nat → Prop} {iM h0 : Nat} {ad : Nat → Nat} (C0 : MCx p s m args meth c b_M_predefinedRun 4 none D cl cB cI cJ cZ cS iM A) (hR : R = rm_M_predefinedRun) (N : Nat) (G : Unit) (hG : True) : ∀ (u : MS) (v2 : Int64) (t1 : Int32) (x : MS × Unit), fb_M_predefinedRun_149 N G u v2 t1 = some x → ∀ (H : Heap) (locs : List Loc), va_P D cl (wM cB cI cJ cZ cS iM h0 ad u) H → va_D A (wM cB cI cJ cZ cS iM h0 ad u) → va_S A s.heap H locs → ∀ (ls : Array Slot), lv_has ls 4 [(2, .long v2)] → W p l e R s m args below meth c H locs 0 0 (MQ below (mQv D cl cB cI cJ cZ cS iM h0 ad A x) args s 0 0 A) (F0 m 149 ls [.int t1, .ref h0]) := by
  intro u v2 t1 x hf H locs hP hD hS ls hl
  obtain ⟨hx, hb, hr, hml, ht, hown, hM, hK, hA, hlocks⟩ := id C0
  unfold fb_M_predefinedRun_149 at hf
  refine lv_lload_n hx hb d_M_predefinedRun_149 rfl (lv_at hl 0 rfl) ?_
  obtain ⟨u2, r2, hc2, hf⟩ := bnd_some hf
  refine mV_v (As := [.int t1, .long v2]) (rest := []) C0 hP hD hS (c_M_goesUp N hM hc2) k_M_goesUp hl_M_goesUp hi_M_goesUp hs_M_goesUp hini_M rfl rfl hd_M_goesUp rfl (rm_M_predefinedRun_M_goesUp hR) hl.1 (Nat.le_of_ble_eq_true rfl) d_M_predefinedRun_150 rfl ⟨Nat.zero_le _, Nat.zero_le _⟩ (fun H locs hP hD hS => ?_)
  refine lv_goto (tgt := 292) hx hb d_M_predefinedRun_153 (by decide) ?_
  exact wb_M_predefinedRun_292 C0 hR N G hG _ _ hf H locs hP hD hS ls (lv_sub hl [] rfl)
def fb_M_predefinedRun_0 (N : Nat) (G : Unit) (u : MS) (v1 : Int32) : Option (MS × Unit) := br (decide (v1 < 18)) (br (decide (v1 = 0)) (bnd (fm_M_term N u 4 (u.1 133)) (fun u3 r3 => bnd (fm_M_put N u3 r3) (fun u4 _ => fb_M_predefinedRun_292 N G u4))) (br (decide (v1 = 1)) (bnd (fm_M_spawnRun N u) (fun u5 _ => fb_M_predefinedRun_292 N G u5)) (br (decide (v1 = 2)) (bnd (fm_M_processRun N u v1) (fun u6 _ => fb_M_predefinedRun_292 N G u6)) (br (decide (v1 = 3)) (bnd (fm_M_processRun N u v1) (fun u7 _ => fb_M_predefinedRun_292 N G u7)) (br (decide (v1 = 4)) (bnd (fm_M_processRun N u v1) (fun u8 _ => fb_M_predefinedRun_292 N G u8)) (br (decide (v1 = 5)) (bnd (fm_M_processRun N u v1) (fun u9 _ => fb_M_predefinedRun_292 N G u9)) (br (decide (v1 = 6)) (bnd (fm_M_take N u) (fun u10 r10 => bnd (fm_M_isTruth N u10 r10) (fun u11 r11 => br (decide (r11 = 0)) (bnd (fr_M_error N u11 11) (fun u12 _ => fb_M_predefinedRun_292 N G u12)) (ck (inb (u11.1 133) (ln 112)) (bnd (fm_M_truth N u11 (u11.2.2.1 112 (u11.1 133).toNatClampNeg)) (fun u13 r13 => bnd (fm_M_put N u13 r13) (fun u14 _ => bnd (fm_M_truth N u14 1) (fun u15 r15 => br (decide ((lg_cmp r10 r15) = 0)) (fb_M_predefinedRun_251 N G u15 (112) ((u14.1 133)) (1)) (fb_M_predefinedRun_251 N G u15 (112) ((u14.1 133)) (0)))))))))) (br (decide (v1 = 7)) (bnd (fm_M_take N u) (fun u16 r16 => br (decide (v1 = 7)) (fb_M_predefinedRun_149 N G u16 (r16) (1)) (br (decide (v1 = 9)) (fb_M_predefinedRun_149 N G u16 (r16) (2)) (fb_M_predefinedRun_149 N G u16 (r16) (0))))) (br (decide (v1 = 8)) (bnd (fm_M_processRun N u v1) (fun u17 _ => fb_M_predefinedRun_292 N G u17)) (br (decide (v1 = 9)) (bnd (fm_M_take N u) (fun u18 r18 => br (decide (v1 = 7)) (fb_M_predefinedRun_149 N G u18 (r18) (1)) (br (decide (v1 = 9)) (fb_M_predefinedRun_149 N G u18 (r18) (2)) (fb_M_predefinedRun_149 N G u18 (r18) (0))))) (br (decide (v1 = 10)) (bnd (fm_M_take N u) (fun u19 r19 => br (decide (v1 = 7)) (fb_M_predefinedRun_149 N G u19 (r19) (1)) (br (decide (v1 = 9)) (fb_M_predefinedRun_149 N G u19 (r19) (2)) (fb_M_predefinedRun_149 N G u19 (r19) (0))))) (br (decide (v1 = 11)) (bnd (fm_M_take N u) (fun u20 r20 => bnd (fm_M_printRun N u20 r20) (fun u21 _ => bnd (fm_M_term N u21 1 2) (fun u22 r22 => bnd (fm_M_put N u22 r22) (fun u23 _ => fb_M_predefinedRun_292 N G u23))))) (br (decide (v1 = 12)) (bnd (fm_M_term N u 2 (u.1 121)) (fun u24 r24 => bnd (fm_M_put N u24 r24) (fun u25 _ => lt (upI u25 121 ((u25.1 121) + 1)) (fun w26 => fb_M_predefinedRun_292 N G w26)))) (br (decide (v1 = 13)) (bnd (fm_M_nameRun N u v1) (fun u27 _ => fb_M_predefinedRun_292 N G u27)) (br (decide (v1 = 14)) (bnd (fm_M_nameRun N u v1) (fun u28 _ => fb_M_predefinedRun_292 N G u28)) (br (decide (v1 = 15)) (bnd (fm_M_nameRun N u v1) (fun u29 _ => fb_M_predefinedRun_292 N G u29)) (br (decide (v1 = 16)) (bnd (fm_M_processRun N u v1) (fun u30 _ => fb_M_predefinedRun_292 N G u30)) (br (decide (v1 = 17)) (bnd (fm_M_term N u 0 (u.1 120)) (fun u31 r31 => bnd (fm_M_put N u31 r31) (fun u32 _ => fb_M_predefinedRun_292 N G u32))) (bnd (fm_M_processRun N u v1) (fun u33 _ => fb_M_predefinedRun_292 N G u33)))))))))))))))))))) (bnd (fm_M_testRun N u v1) (fun u34 _ => some (u34, ())))
set_option maxRecDepth 100000 in
set_option maxHeartbeats 4000000 in
theorem wb_M_predefinedRun_0 {p : Program} {l : Launch} {e : Env} {R : Room} {s : State} {m : MethodId} {args : Array Value} {below : List Frame} {meth : Method} {c : Code} {D : va_G} {cl : List vw_C} {cB cI cJ cZ cS : ClassId} {A : Nat → Prop} {iM h0 : Nat} {ad : Nat → Nat} (C0 : MCx p s m args meth c b_M_predefinedRun 4 none D cl cB cI cJ cZ cS iM A) (hR : R = rm_M_predefinedRun) (N : Nat) (G : Unit) (hG : True) : ∀ (u : MS) (v1 : Int32) (x : MS × Unit), fb_M_predefinedRun_0 N G u v1 = some x → ∀ (H : Heap) (locs : List Loc), va_P D cl (wM cB cI cJ cZ cS iM h0 ad u) H → va_D A (wM cB cI cJ cZ cS iM h0 ad u) → va_S A s.heap H locs → ∀ (ls : Array Slot), lv_has ls 4 [(0, .ref h0), (1, .int v1)] → W p l e R s m args below meth c H locs 0 0 (MQ below (mQv D cl cB cI cJ cZ cS iM h0 ad A x) args s 0 0 A) (F0 m 0 ls []) := by
  intro u v1 x hf H locs hP hD hS ls hl
  obtain ⟨hx, hb, hr, hml, ht, hown, hM, hK, hA, hlocks⟩ := id C0
  unfold fb_M_predefinedRun_0 at hf
  refine lv_iload_n hx hb d_M_predefinedRun_0 rfl (lv_at hl 1 rfl) ?_
  refine lv_bipush (v := 18) hx hb d_M_predefinedRun_1 (by decide) ?_
  refine lv_icmp_lt (tgt := 12) hx hb d_M_predefinedRun_3 (by decide) (fun hc => ?_) (fun hc => ?_)
  · rw [br_p _ hc] at hf
    refine lv_iload_n hx hb d_M_predefinedRun_12 rfl (lv_at hl 1 rfl) ?_
    by_cases hc0 : v1 = 0
    · rw [br_p _ hc0] at hf
      refine lv_tableIn (tgt := 100) hx hb d_M_predefinedRun_13 (by rw [hc0]; decide) (by rw [hc0]; decide) (by rw [hc0]; rfl) (by decide) ?_
      refine lv_aload_n hx hb d_M_predefinedRun_100 rfl (lv_at hl 0 rfl) ?_
      refine lv_iconst (v := 4) hx hb d_M_predefinedRun_101 (by decide) ?_
      refine lv_aload_n hx hb d_M_predefinedRun_102 rfl (lv_at hl 0 rfl) ?_
      refine ug_I hx hb ht hown hM hK hP 133 (by decide) lk_M_133 (by decide) d_M_predefinedRun_103 ?_
      obtain ⟨u3, r3, hc3, hf⟩ := bnd_some hf
      refine mS_l (As := [.int 4, .int (u.1 133)]) (rest := [.ref h0]) C0 hP hD hS (c_M_term N hM hc3) k_M_term hl_M_term ht_M_term hini_M rfl rfl hd_M_term rfl (rm_M_predefinedRun_M_term hR) hl.1 (Nat.le_of_ble_eq_true rfl) d_M_predefinedRun_106 rfl ⟨Nat.zero_le _, Nat.zero_le _⟩ (fun H locs hP hD hS => ?_)
      obtain ⟨u4, r4, hc4, hf⟩ := bnd_some hf
      refine mV_v (As := [.long r3]) (rest := []) C0 hP hD hS (c_M_put N hM hc4) k_M_put hl_M_put hi_M_put hs_M_put hini_M rfl rfl hd_M_put rfl (rm_M_predefinedRun_M_put hR) hl.1 (Nat.le_of_ble_eq_true rfl) d_M_predefinedRun_109 rfl ⟨Nat.zero_le _, Nat.zero_le _⟩ (fun H locs hP hD hS => ?_)
      refine lv_goto (tgt := 292) hx hb d_M_predefinedRun_112 (by decide) ?_
      exact wb_M_predefinedRun_292 C0 hR N G hG _ _ hf H locs hP hD hS ls (lv_sub hl [] rfl)
    · rw [br_n _ hc0] at hf
      by_cases hc1 : v1 = 1
      · rw [br_p _ hc1] at hf
        refine lv_tableIn (tgt := 115) hx hb d_M_predefinedRun_13 (by rw [hc1]; decide) (by rw [hc1]; decide) (by rw [hc1]; rfl) (by decide) ?_
        refine lv_aload_n hx hb d_M_predefinedRun_115 rfl (lv_at hl 0 rfl) ?_
        obtain ⟨u5, r5, hc5, hf⟩ := bnd_some hf
        refine mV_v (As := []) (rest := []) C0 hP hD hS (c_M_spawnRun N hM hc5) k_M_spawnRun hl_M_spawnRun hi_M_spawnRun hs_M_spawnRun hini_M rfl rfl hd_M_spawnRun rfl (rm_M_predefinedRun_M_spawnRun hR) hl.1 (Nat.le_of_ble_eq_true rfl) d_M_predefinedRun_116 rfl ⟨Nat.zero_le _, Nat.zero_le _⟩ (fun H locs hP hD hS => ?_)
        refine lv_goto (tgt := 292) hx hb d_M_predefinedRun_119 (by decide) ?_
        exact wb_M_predefinedRun_292 C0 hR N G hG _ _ hf H locs hP hD hS ls (lv_sub hl [] rfl)
      · rw [br_n _ hc1] at hf
        by_cases hc2 : v1 = 2
        · rw [br_p _ hc2] at hf
          refine lv_tableIn (tgt := 287) hx hb d_M_predefinedRun_13 (by rw [hc2]; decide) (by rw [hc2]; decide) (by rw [hc2]; rfl) (by decide) ?_
          refine lv_aload_n hx hb d_M_predefinedRun_287 rfl (lv_at hl 0 rfl) ?_
          refine lv_iload_n hx hb d_M_predefinedRun_288 rfl (lv_at hl 1 rfl) ?_
          obtain ⟨u6, r6, hc6, hf⟩ := bnd_some hf
          refine mV_v (As := [.int v1]) (rest := []) C0 hP hD hS (c_M_processRun N hM hc6) k_M_processRun hl_M_processRun hi_M_processRun hs_M_processRun hini_M rfl rfl hd_M_processRun rfl (rm_M_predefinedRun_M_processRun hR) hl.1 (Nat.le_of_ble_eq_true rfl) d_M_predefinedRun_289 rfl ⟨Nat.zero_le _, Nat.zero_le _⟩ (fun H locs hP hD hS => ?_)
          exact wb_M_predefinedRun_292 C0 hR N G hG _ _ hf H locs hP hD hS ls (lv_sub hl [] rfl)
        · rw [br_n _ hc2] at hf
          by_cases hc3 : v1 = 3
          · rw [br_p _ hc3] at hf
            refine lv_tableIn (tgt := 287) hx hb d_M_predefinedRun_13 (by rw [hc3]; decide) (by rw [hc3]; decide) (by rw [hc3]; rfl) (by decide) ?_
            refine lv_aload_n hx hb d_M_predefinedRun_287 rfl (lv_at hl 0 rfl) ?_
            refine lv_iload_n hx hb d_M_predefinedRun_288 rfl (lv_at hl 1 rfl) ?_
            obtain ⟨u7, r7, hc7, hf⟩ := bnd_some hf
            refine mV_v (As := [.int v1]) (rest := []) C0 hP hD hS (c_M_processRun N hM hc7) k_M_processRun hl_M_processRun hi_M_processRun hs_M_processRun hini_M rfl rfl hd_M_processRun rfl (rm_M_predefinedRun_M_processRun hR) hl.1 (Nat.le_of_ble_eq_true rfl) d_M_predefinedRun_289 rfl ⟨Nat.zero_le _, Nat.zero_le _⟩ (fun H locs hP hD hS => ?_)
            exact wb_M_predefinedRun_292 C0 hR N G hG _ _ hf H locs hP hD hS ls (lv_sub hl [] rfl)
          · rw [br_n _ hc3] at hf
            by_cases hc4 : v1 = 4
            · rw [br_p _ hc4] at hf
              refine lv_tableIn (tgt := 287) hx hb d_M_predefinedRun_13 (by rw [hc4]; decide) (by rw [hc4]; decide) (by rw [hc4]; rfl) (by decide) ?_
              refine lv_aload_n hx hb d_M_predefinedRun_287 rfl (lv_at hl 0 rfl) ?_
              refine lv_iload_n hx hb d_M_predefinedRun_288 rfl (lv_at hl 1 rfl) ?_
              obtain ⟨u8, r8, hc8, hf⟩ := bnd_some hf
              refine mV_v (As := [.int v1]) (rest := []) C0 hP hD hS (c_M_processRun N hM hc8) k_M_processRun hl_M_processRun hi_M_processRun hs_M_processRun hini_M rfl rfl hd_M_processRun rfl (rm_M_predefinedRun_M_processRun hR) hl.1 (Nat.le_of_ble_eq_true rfl) d_M_predefinedRun_289 rfl ⟨Nat.zero_le _, Nat.zero_le _⟩ (fun H locs hP hD hS => ?_)
              exact wb_M_predefinedRun_292 C0 hR N G hG _ _ hf H locs hP hD hS ls (lv_sub hl [] rfl)
            · rw [br_n _ hc4] at hf
              by_cases hc5 : v1 = 5
              · rw [br_p _ hc5] at hf
                refine lv_tableIn (tgt := 287) hx hb d_M_predefinedRun_13 (by rw [hc5]; decide) (by rw [hc5]; decide) (by rw [hc5]; rfl) (by decide) ?_
                refine lv_aload_n hx hb d_M_predefinedRun_287 rfl (lv_at hl 0 rfl) ?_
                refine lv_iload_n hx hb d_M_predefinedRun_288 rfl (lv_at hl 1 rfl) ?_
                obtain ⟨u9, r9, hc9, hf⟩ := bnd_some hf
                refine mV_v (As := [.int v1]) (rest := []) C0 hP hD hS (c_M_processRun N hM hc9) k_M_processRun hl_M_processRun hi_M_processRun hs_M_processRun hini_M rfl rfl hd_M_processRun rfl (rm_M_predefinedRun_M_processRun hR) hl.1 (Nat.le_of_ble_eq_true rfl) d_M_predefinedRun_289 rfl ⟨Nat.zero_le _, Nat.zero_le _⟩ (fun H locs hP hD hS => ?_)
                exact wb_M_predefinedRun_292 C0 hR N G hG _ _ hf H locs hP hD hS ls (lv_sub hl [] rfl)
              · rw [br_n _ hc5] at hf
                by_cases hc6 : v1 = 6
                · rw [br_p _ hc6] at hf
                  refine lv_tableIn (tgt := 201) hx hb d_M_predefinedRun_13 (by rw [hc6]; decide) (by rw [hc6]; decide) (by rw [hc6]; rfl) (by decide) ?_
                  refine lv_aload_n hx hb d_M_predefinedRun_201 rfl (lv_at hl 0 rfl) ?_
                  obtain ⟨u10, r10, hc10, hf⟩ := bnd_some hf
                  refine mV_l (As := []) (rest := []) C0 hP hD hS (c_M_take N hM hc10) k_M_take hl_M_take hi_M_take hs_M_take hini_M rfl rfl hd_M_take rfl (rm_M_predefinedRun_M_take hR) hl.1 (Nat.le_of_ble_eq_true rfl) d_M_predefinedRun_202 rfl ⟨Nat.zero_le _, Nat.zero_le _⟩ (fun H locs hP hD hS => ?_)
                  refine lv_lstore_n (lv' := [(2, .long r10), (0, .ref h0), (1, .int v1)]) hx hb d_M_predefinedRun_205 rfl hl (by decide) rfl (fun ls hl => ?_)
                  refine lv_lload_n hx hb d_M_predefinedRun_206 rfl (lv_at hl 0 rfl) ?_
                  obtain ⟨u11, r11, hc11, hf⟩ := bnd_some hf
                  refine mS_i (As := [.long r10]) (rest := []) C0 hP hD hS (c_M_isTruth N hM hc11) k_M_isTruth hl_M_isTruth ht_M_isTruth hini_M rfl rfl hd_M_isTruth rfl (rm_M_predefinedRun_M_isTruth hR) hl.1 (Nat.le_of_ble_eq_true rfl) d_M_predefinedRun_207 rfl ⟨Nat.zero_le _, Nat.zero_le _⟩ (fun H locs hP hD hS => ?_)
                  refine lv_if_eq (tgt := 255) hx hb d_M_predefinedRun_210 (by decide) (fun hc => ?_) (fun hc => ?_)
                  · rw [br_p _ hc] at hf
                    refine lv_aload_n hx hb d_M_predefinedRun_255 rfl (lv_at hl 1 rfl) ?_
                    refine lv_bipush (v := 11) hx hb d_M_predefinedRun_256 (by decide) ?_
                    obtain ⟨u12, r12, hc12, hf⟩ := bnd_some hf
                    refine mV_v (As := [.int 11]) (rest := []) C0 hP hD hS (c_M_error N hM hc12) k_M_error hl_M_error hi_M_error hs_M_error hini_M rfl rfl hd_M_error rfl (rm_M_predefinedRun_M_error hR) hl.1 (Nat.le_of_ble_eq_true rfl) d_M_predefinedRun_258 rfl ⟨Nat.zero_le _, Nat.zero_le _⟩ (fun H locs hP hD hS => ?_)
                    refine lv_goto (tgt := 292) hx hb d_M_predefinedRun_261 (by decide) ?_
                    exact wb_M_predefinedRun_292 C0 hR N G hG _ _ hf H locs hP hD hS ls (lv_sub hl [] rfl)
                  · rw [br_n _ hc] at hf
                    refine lv_aload_n hx hb d_M_predefinedRun_213 rfl (lv_at hl 1 rfl) ?_
                    refine lv_aload_n hx hb d_M_predefinedRun_214 rfl (lv_at hl 1 rfl) ?_
                    refine ug_R hx hb ht hown hM hK hP 112 (by decide) lk_M_112 (by decide) d_M_predefinedRun_215 ?_
                    refine lv_aload_n hx hb d_M_predefinedRun_218 rfl (lv_at hl 1 rfl) ?_
                    refine ug_I hx hb ht hown hM hK hP 133 (by decide) lk_M_133 (by decide) d_M_predefinedRun_219 ?_
                    obtain ⟨hi9, hf⟩ := ck_some hf
                    refine ul_Z hx hb hK hP (by decide) (by decide) hi9 d_M_predefinedRun_222 ?_
                    obtain ⟨u13, r13, hc13, hf⟩ := bnd_some hf
                    refine mS_l (As := [.int (u11.2.2.1 112 (u11.1 133).toNatClampNeg)]) (rest := [.ref h0]) C0 hP hD hS (c_M_truth N hM hc13) k_M_truth hl_M_truth ht_M_truth hini_M rfl rfl hd_M_truth rfl (rm_M_predefinedRun_M_truth hR) hl.1 (Nat.le_of_ble_eq_true rfl) d_M_predefinedRun_223 rfl ⟨Nat.zero_le _, Nat.zero_le _⟩ (fun H locs hP hD hS => ?_)
                    obtain ⟨u14, r14, hc14, hf⟩ := bnd_some hf
                    refine mV_v (As := [.long r13]) (rest := []) C0 hP hD hS (c_M_put N hM hc14) k_M_put hl_M_put hi_M_put hs_M_put hini_M rfl rfl hd_M_put rfl (rm_M_predefinedRun_M_put hR) hl.1 (Nat.le_of_ble_eq_true rfl) d_M_predefinedRun_226 rfl ⟨Nat.zero_le _, Nat.zero_le _⟩ (fun H locs hP hD hS => ?_)
                    refine lv_aload_n hx hb d_M_predefinedRun_229 rfl (lv_at hl 1 rfl) ?_
                    refine ug_R hx hb ht hown hM hK hP 112 (by decide) lk_M_112 (by decide) d_M_predefinedRun_230 ?_
                    refine lv_aload_n hx hb d_M_predefinedRun_233 rfl (lv_at hl 1 rfl) ?_
                    refine ug_I hx hb ht hown hM hK hP 133 (by decide) lk_M_133 (by decide) d_M_predefinedRun_234 ?_
                    refine lv_lload_n hx hb d_M_predefinedRun_237 rfl (lv_at hl 0 rfl) ?_
                    refine lv_iconst (v := 1) hx hb d_M_predefinedRun_238 (by decide) ?_
                    obtain ⟨u15, r15, hc15, hf⟩ := bnd_some hf
                    refine mS_l (As := [.int 1]) (rest := [.long r10, .int (u14.1 133), .ref (ad 112)]) C0 hP hD hS (c_M_truth N hM hc15) k_M_truth hl_M_truth ht_M_truth hini_M rfl rfl hd_M_truth rfl (rm_M_predefinedRun_M_truth hR) hl.1 (Nat.le_of_ble_eq_true rfl) d_M_predefinedRun_239 rfl ⟨Nat.zero_le _, Nat.zero_le _⟩ (fun H locs hP hD hS => ?_)
                    refine W.lcmp hx hb d_M_predefinedRun_242 ?_
                    refine lv_if_ne (tgt := 250) hx hb d_M_predefinedRun_243 (by decide) (fun hc => ?_) (fun hc => ?_)
                    · rw [br_n _ hc] at hf
                      refine lv_iconst (v := 0) hx hb d_M_predefinedRun_250 (by decide) ?_
                      exact wb_M_predefinedRun_251 C0 hR N G hG _ _ _ _ _ hf H locs hP hD hS ls (lv_sub hl [] rfl)
                    · rw [br_p _ hc] at hf
                      refine lv_iconst (v := 1) hx hb d_M_predefinedRun_246 (by decide) ?_
                      refine lv_goto (tgt := 251) hx hb d_M_predefinedRun_247 (by decide) ?_
                      exact wb_M_predefinedRun_251 C0 hR N G hG _ _ _ _ _ hf H locs hP hD hS ls (lv_sub hl [] rfl)
                · rw [br_n _ hc6] at hf
                  by_cases hc7 : v1 = 7
                  · rw [br_p _ hc7] at hf
                    refine lv_tableIn (tgt := 122) hx hb d_M_predefinedRun_13 (by rw [hc7]; decide) (by rw [hc7]; decide) (by rw [hc7]; rfl) (by decide) ?_
                    refine lv_aload_n hx hb d_M_predefinedRun_122 rfl (lv_at hl 0 rfl) ?_
                    obtain ⟨u16, r16, hc16, hf⟩ := bnd_some hf
                    refine mV_l (As := []) (rest := []) C0 hP hD hS (c_M_take N hM hc16) k_M_take hl_M_take hi_M_take hs_M_take hini_M rfl rfl hd_M_take rfl (rm_M_predefinedRun_M_take hR) hl.1 (Nat.le_of_ble_eq_true rfl) d_M_predefinedRun_123 rfl ⟨Nat.zero_le _, Nat.zero_le _⟩ (fun H locs hP hD hS => ?_)
                    refine lv_lstore_n (lv' := [(2, .long r16), (0, .ref h0), (1, .int v1)]) hx hb d_M_predefinedRun_126 rfl hl (by decide) rfl (fun ls hl => ?_)
                    refine lv_aload_n hx hb d_M_predefinedRun_127 rfl (lv_at hl 1 rfl) ?_
                    refine lv_iload_n hx hb d_M_predefinedRun_128 rfl (lv_at hl 2 rfl) ?_
                    refine lv_bipush (v := 7) hx hb d_M_predefinedRun_129 (by decide) ?_
                    refine lv_icmp_ne (tgt := 138) hx hb d_M_predefinedRun_131 (by decide) (fun hc => ?_) (fun hc => ?_)
                    · rw [br_n _ hc] at hf
                      refine lv_iload_n hx hb d_M_predefinedRun_138 rfl (lv_at hl 2 rfl) ?_
                      refine lv_bipush (v := 9) hx hb d_M_predefinedRun_139 (by decide) ?_
                      refine lv_icmp_ne (tgt := 148) hx hb d_M_predefinedRun_141 (by decide) (fun hc => ?_) (fun hc => ?_)
                      · rw [br_n _ hc] at hf
                        refine lv_iconst (v := 0) hx hb d_M_predefinedRun_148 (by decide) ?_
                        exact wb_M_predefinedRun_149 C0 hR N G hG _ _ _ _ hf H locs hP hD hS ls (lv_sub hl [0] rfl)
                      · rw [br_p _ hc] at hf
                        refine lv_iconst (v := 2) hx hb d_M_predefinedRun_144 (by decide) ?_
                        refine lv_goto (tgt := 149) hx hb d_M_predefinedRun_145 (by decide) ?_
                        exact wb_M_predefinedRun_149 C0 hR N G hG _ _ _ _ hf H locs hP hD hS ls (lv_sub hl [0] rfl)
                    · rw [br_p _ hc] at hf
                      refine lv_iconst (v := 1) hx hb d_M_predefinedRun_134 (by decide) ?_
                      refine lv_goto (tgt := 149) hx hb d_M_predefinedRun_135 (by decide) ?_
                      exact wb_M_predefinedRun_149 C0 hR N G hG _ _ _ _ hf H locs hP hD hS ls (lv_sub hl [0] rfl)
                  · rw [br_n _ hc7] at hf
                    by_cases hc8 : v1 = 8
                    · rw [br_p _ hc8] at hf
                      refine lv_tableIn (tgt := 287) hx hb d_M_predefinedRun_13 (by rw [hc8]; decide) (by rw [hc8]; decide) (by rw [hc8]; rfl) (by decide) ?_
                      refine lv_aload_n hx hb d_M_predefinedRun_287 rfl (lv_at hl 0 rfl) ?_
                      refine lv_iload_n hx hb d_M_predefinedRun_288 rfl (lv_at hl 1 rfl) ?_
                      obtain ⟨u17, r17, hc17, hf⟩ := bnd_some hf
                      refine mV_v (As := [.int v1]) (rest := []) C0 hP hD hS (c_M_processRun N hM hc17) k_M_processRun hl_M_processRun hi_M_processRun hs_M_processRun hini_M rfl rfl hd_M_processRun rfl (rm_M_predefinedRun_M_processRun hR) hl.1 (Nat.le_of_ble_eq_true rfl) d_M_predefinedRun_289 rfl ⟨Nat.zero_le _, Nat.zero_le _⟩ (fun H locs hP hD hS => ?_)
                      exact wb_M_predefinedRun_292 C0 hR N G hG _ _ hf H locs hP hD hS ls (lv_sub hl [] rfl)
                    · rw [br_n _ hc8] at hf
                      by_cases hc9 : v1 = 9
                      · rw [br_p _ hc9] at hf
                        refine lv_tableIn (tgt := 122) hx hb d_M_predefinedRun_13 (by rw [hc9]; decide) (by rw [hc9]; decide) (by rw [hc9]; rfl) (by decide) ?_
                        refine lv_aload_n hx hb d_M_predefinedRun_122 rfl (lv_at hl 0 rfl) ?_
                        obtain ⟨u18, r18, hc18, hf⟩ := bnd_some hf
                        refine mV_l (As := []) (rest := []) C0 hP hD hS (c_M_take N hM hc18) k_M_take hl_M_take hi_M_take hs_M_take hini_M rfl rfl hd_M_take rfl (rm_M_predefinedRun_M_take hR) hl.1 (Nat.le_of_ble_eq_true rfl) d_M_predefinedRun_123 rfl ⟨Nat.zero_le _, Nat.zero_le _⟩ (fun H locs hP hD hS => ?_)
                        refine lv_lstore_n (lv' := [(2, .long r18), (0, .ref h0), (1, .int v1)]) hx hb d_M_predefinedRun_126 rfl hl (by decide) rfl (fun ls hl => ?_)
                        refine lv_aload_n hx hb d_M_predefinedRun_127 rfl (lv_at hl 1 rfl) ?_
                        refine lv_iload_n hx hb d_M_predefinedRun_128 rfl (lv_at hl 2 rfl) ?_
                        refine lv_bipush (v := 7) hx hb d_M_predefinedRun_129 (by decide) ?_
                        refine lv_icmp_ne (tgt := 138) hx hb d_M_predefinedRun_131 (by decide) (fun hc => ?_) (fun hc => ?_)
                        · rw [br_n _ hc] at hf
                          refine lv_iload_n hx hb d_M_predefinedRun_138 rfl (lv_at hl 2 rfl) ?_
                          refine lv_bipush (v := 9) hx hb d_M_predefinedRun_139 (by decide) ?_
                          refine lv_icmp_ne (tgt := 148) hx hb d_M_predefinedRun_141 (by decide) (fun hc => ?_) (fun hc => ?_)
                          · rw [br_n _ hc] at hf
                            refine lv_iconst (v := 0) hx hb d_M_predefinedRun_148 (by decide) ?_
                            exact wb_M_predefinedRun_149 C0 hR N G hG _ _ _ _ hf H locs hP hD hS ls (lv_sub hl [0] rfl)
                          · rw [br_p _ hc] at hf
                            refine lv_iconst (v := 2) hx hb d_M_predefinedRun_144 (by decide) ?_
                            refine lv_goto (tgt := 149) hx hb d_M_predefinedRun_145 (by decide) ?_
                            exact wb_M_predefinedRun_149 C0 hR N G hG _ _ _ _ hf H locs hP hD hS ls (lv_sub hl [0] rfl)
                        · rw [br_p _ hc] at hf
                          refine lv_iconst (v := 1) hx hb d_M_predefinedRun_134 (by decide) ?_
                          refine lv_goto (tgt := 149) hx hb d_M_predefinedRun_135 (by decide) ?_
                          exact wb_M_predefinedRun_149 C0 hR N G hG _ _ _ _ hf H locs hP hD hS ls (lv_sub hl [0] rfl)
                      · rw [br_n _ hc9] at hf
                        by_cases hc10 : v1 = 10
                        · rw [br_p _ hc10] at hf
                          refine lv_tableIn (tgt := 122) hx hb d_M_predefinedRun_13 (by rw [hc10]; decide) (by rw [hc10]; decide) (by rw [hc10]; rfl) (by decide) ?_
                          refine lv_aload_n hx hb d_M_predefinedRun_122 rfl (lv_at hl 0 rfl) ?_
                          obtain ⟨u19, r19, hc19, hf⟩ := bnd_some hf
                          refine mV_l (As := []) (rest := []) C0 hP hD hS (c_M_take N hM hc19) k_M_take hl_M_take hi_M_take hs_M_take hini_M rfl rfl hd_M_take rfl (rm_M_predefinedRun_M_take hR) hl.1 (Nat.le_of_ble_eq_true rfl) d_M_predefinedRun_123 rfl ⟨Nat.zero_le _, Nat.zero_le _⟩ (fun H locs hP hD hS => ?_)
                          refine lv_lstore_n (lv' := [(2, .long r19), (0, .ref h0), (1, .int v1)]) hx hb d_M_predefinedRun_126 rfl hl (by decide) rfl (fun ls hl => ?_)
                          refine lv_aload_n hx hb d_M_predefinedRun_127 rfl (lv_at hl 1 rfl) ?_
                          refine lv_iload_n hx hb d_M_predefinedRun_128 rfl (lv_at hl 2 rfl) ?_
                          refine lv_bipush (v := 7) hx hb d_M_predefinedRun_129 (by decide) ?_
                          refine lv_icmp_ne (tgt := 138) hx hb d_M_predefinedRun_131 (by decide) (fun hc => ?_) (fun hc => ?_)
                          · rw [br_n _ hc] at hf
                            refine lv_iload_n hx hb d_M_predefinedRun_138 rfl (lv_at hl 2 rfl) ?_
                            refine lv_bipush (v := 9) hx hb d_M_predefinedRun_139 (by decide) ?_
                            refine lv_icmp_ne (tgt := 148) hx hb d_M_predefinedRun_141 (by decide) (fun hc => ?_) (fun hc => ?_)
                            · rw [br_n _ hc] at hf
                              refine lv_iconst (v := 0) hx hb d_M_predefinedRun_148 (by decide) ?_
                              exact wb_M_predefinedRun_149 C0 hR N G hG _ _ _ _ hf H locs hP hD hS ls (lv_sub hl [0] rfl)
                            · rw [br_p _ hc] at hf
                              refine lv_iconst (v := 2) hx hb d_M_predefinedRun_144 (by decide) ?_
                              refine lv_goto (tgt := 149) hx hb d_M_predefinedRun_145 (by decide) ?_
                              exact wb_M_predefinedRun_149 C0 hR N G hG _ _ _ _ hf H locs hP hD hS ls (lv_sub hl [0] rfl)
                          · rw [br_p _ hc] at hf
                            refine lv_iconst (v := 1) hx hb d_M_predefinedRun_134 (by decide) ?_
                            refine lv_goto (tgt := 149) hx hb d_M_predefinedRun_135 (by decide) ?_
                            exact wb_M_predefinedRun_149 C0 hR N G hG _ _ _ _ hf H locs hP hD hS ls (lv_sub hl [0] rfl)
                        · rw [br_n _ hc10] at hf
                          by_cases hc11 : v1 = 11
                          · rw [br_p _ hc11] at hf
                            refine lv_tableIn (tgt := 156) hx hb d_M_predefinedRun_13 (by rw [hc11]; decide) (by rw [hc11]; decide) (by rw [hc11]; rfl) (by decide) ?_
                            refine lv_aload_n hx hb d_M_predefinedRun_156 rfl (lv_at hl 0 rfl) ?_
                            refine lv_aload_n hx hb d_M_predefinedRun_157 rfl (lv_at hl 0 rfl) ?_
                            obtain ⟨u20, r20, hc20, hf⟩ := bnd_some hf
                            refine mV_l (As := []) (rest := [.ref h0]) C0 hP hD hS (c_M_take N hM hc20) k_M_take hl_M_take hi_M_take hs_M_take hini_M rfl rfl hd_M_take rfl (rm_M_predefinedRun_M_take hR) hl.1 (Nat.le_of_ble_eq_true rfl) d_M_predefinedRun_158 rfl ⟨Nat.zero_le _, Nat.zero_le _⟩ (fun H locs hP hD hS => ?_)
                            obtain ⟨u21, r21, hc21, hf⟩ := bnd_some hf
                            refine mV_v (As := [.long r20]) (rest := []) C0 hP hD hS (c_M_printRun N hM hc21) k_M_printRun hl_M_printRun hi_M_printRun hs_M_printRun hini_M rfl rfl hd_M_printRun rfl (rm_M_predefinedRun_M_printRun hR) hl.1 (Nat.le_of_ble_eq_true rfl) d_M_predefinedRun_161 rfl ⟨Nat.zero_le _, Nat.zero_le _⟩ (fun H locs hP hD hS => ?_)
                            refine lv_aload_n hx hb d_M_predefinedRun_164 rfl (lv_at hl 0 rfl) ?_
                            refine lv_iconst (v := 1) hx hb d_M_predefinedRun_165 (by decide) ?_
                            refine lv_iconst (v := 2) hx hb d_M_predefinedRun_166 (by decide) ?_
                            obtain ⟨u22, r22, hc22, hf⟩ := bnd_some hf
                            refine mS_l (As := [.int 1, .int 2]) (rest := [.ref h0]) C0 hP hD hS (c_M_term N hM hc22) k_M_term hl_M_term ht_M_term hini_M rfl rfl hd_M_term rfl (rm_M_predefinedRun_M_term hR) hl.1 (Nat.le_of_ble_eq_true rfl) d_M_predefinedRun_167 rfl ⟨Nat.zero_le _, Nat.zero_le _⟩ (fun H locs hP hD hS => ?_)
                            obtain ⟨u23, r23, hc23, hf⟩ := bnd_some hf
                            refine mV_v (As := [.long r22]) (rest := []) C0 hP hD hS (c_M_put N hM hc23) k_M_put hl_M_put hi_M_put hs_M_put hini_M rfl rfl hd_M_put rfl (rm_M_predefinedRun_M_put hR) hl.1 (Nat.le_of_ble_eq_true rfl) d_M_predefinedRun_170 rfl ⟨Nat.zero_le _, Nat.zero_le _⟩ (fun H locs hP hD hS => ?_)
                            refine lv_goto (tgt := 292) hx hb d_M_predefinedRun_173 (by decide) ?_
                            exact wb_M_predefinedRun_292 C0 hR N G hG _ _ hf H locs hP hD hS ls (lv_sub hl [] rfl)
                          · rw [br_n _ hc11] at hf
                            by_cases hc12 : v1 = 12
                            · rw [br_p _ hc12] at hf
                              refine lv_tableIn (tgt := 176) hx hb d_M_predefinedRun_13 (by rw [hc12]; decide) (by rw [hc12]; decide) (by rw [hc12]; rfl) (by decide) ?_
                              refine lv_aload_n hx hb d_M_predefinedRun_176 rfl (lv_at hl 0 rfl) ?_
                              refine lv_iconst (v := 2) hx hb d_M_predefinedRun_177 (by decide) ?_
                              refine lv_aload_n hx hb d_M_predefinedRun_178 rfl (lv_at hl 0 rfl) ?_
                              refine ug_I hx hb ht hown hM hK hP 121 (by decide) lk_M_121 (by decide) d_M_predefinedRun_179 ?_
                              obtain ⟨u24, r24, hc24, hf⟩ := bnd_some hf
                              refine mS_l (As := [.int 2, .int (u.1 121)]) (rest := [.ref h0]) C0 hP hD hS (c_M_term N hM hc24) k_M_term hl_M_term ht_M_term hini_M rfl rfl hd_M_term rfl (rm_M_predefinedRun_M_term hR) hl.1 (Nat.le_of_ble_eq_true rfl) d_M_predefinedRun_182 rfl ⟨Nat.zero_le _, Nat.zero_le _⟩ (fun H locs hP hD hS => ?_)
                              obtain ⟨u25, r25, hc25, hf⟩ := bnd_some hf
                              refine mV_v (As := [.long r24]) (rest := []) C0 hP hD hS (c_M_put N hM hc25) k_M_put hl_M_put hi_M_put hs_M_put hini_M rfl rfl hd_M_put rfl (rm_M_predefinedRun_M_put hR) hl.1 (Nat.le_of_ble_eq_true rfl) d_M_predefinedRun_185 rfl ⟨Nat.zero_le _, Nat.zero_le _⟩ (fun H locs hP hD hS => ?_)
                              refine lv_aload_n hx hb d_M_predefinedRun_188 rfl (lv_at hl 0 rfl) ?_
                              refine lv_dup hx hb d_M_predefinedRun_189 rfl ?_
                              refine ug_I hx hb ht hown hM hK hP 121 (by decide) lk_M_121 (by decide) d_M_predefinedRun_190 ?_
                              refine lv_iconst (v := 1) hx hb d_M_predefinedRun_193 (by decide) ?_
                              refine lv_iadd hx hb d_M_predefinedRun_194 ?_
                              refine up_I hx hb ht hown hM hK hP hD hS 121 (by decide) lk_M_121 (by decide) rfl rfl rfl d_M_predefinedRun_195 (fun H locs hP hD hS => ?_)
                              obtain ⟨w26, e26, hf⟩ := lt_some hf
                              rw [← e26] at hP hD
                              refine lv_goto (tgt := 292) hx hb d_M_predefinedRun_198 (by decide) ?_
                              exact wb_M_predefinedRun_292 C0 hR N G hG _ _ hf H locs hP hD hS ls (lv_sub hl [] rfl)
                            · rw [br_n _ hc12] at hf
                              by_cases hc13 : v1 = 13
                              · rw [br_p _ hc13] at hf
                                refine lv_tableIn (tgt := 264) hx hb d_M_predefinedRun_13 (by rw [hc13]; decide) (by rw [hc13]; decide) (by rw [hc13]; rfl) (by decide) ?_
                                refine lv_aload_n hx hb d_M_predefinedRun_264 rfl (lv_at hl 0 rfl) ?_
                                refine lv_iload_n hx hb d_M_predefinedRun_265 rfl (lv_at hl 1 rfl) ?_
                                obtain ⟨u27, r27, hc27, hf⟩ := bnd_some hf
                                refine mV_v (As := [.int v1]) (rest := []) C0 hP hD hS (c_M_nameRun N hM hc27) k_M_nameRun hl_M_nameRun hi_M_nameRun hs_M_nameRun hini_M rfl rfl hd_M_nameRun rfl (rm_M_predefinedRun_M_nameRun hR) hl.1 (Nat.le_of_ble_eq_true rfl) d_M_predefinedRun_266 rfl ⟨Nat.zero_le _, Nat.zero_le _⟩ (fun H locs hP hD hS => ?_)
                                refine lv_goto (tgt := 292) hx hb d_M_predefinedRun_269 (by decide) ?_
                                exact wb_M_predefinedRun_292 C0 hR N G hG _ _ hf H locs hP hD hS ls (lv_sub hl [] rfl)
                              · rw [br_n _ hc13] at hf
                                by_cases hc14 : v1 = 14
                                · rw [br_p _ hc14] at hf
                                  refine lv_tableIn (tgt := 264) hx hb d_M_predefinedRun_13 (by rw [hc14]; decide) (by rw [hc14]; decide) (by rw [hc14]; rfl) (by decide) ?_
                                  refine lv_aload_n hx hb d_M_predefinedRun_264 rfl (lv_at hl 0 rfl) ?_
                                  refine lv_iload_n hx hb d_M_predefinedRun_265 rfl (lv_at hl 1 rfl) ?_
                                  obtain ⟨u28, r28, hc28, hf⟩ := bnd_some hf
                                  refine mV_v (As := [.int v1]) (rest := []) C0 hP hD hS (c_M_nameRun N hM hc28) k_M_nameRun hl_M_nameRun hi_M_nameRun hs_M_nameRun hini_M rfl rfl hd_M_nameRun rfl (rm_M_predefinedRun_M_nameRun hR) hl.1 (Nat.le_of_ble_eq_true rfl) d_M_predefinedRun_266 rfl ⟨Nat.zero_le _, Nat.zero_le _⟩ (fun H locs hP hD hS => ?_)
                                  refine lv_goto (tgt := 292) hx hb d_M_predefinedRun_269 (by decide) ?_
                                  exact wb_M_predefinedRun_292 C0 hR N G hG _ _ hf H locs hP hD hS ls (lv_sub hl [] rfl)
                                · rw [br_n _ hc14] at hf
                                  by_cases hc15 : v1 = 15
                                  · rw [br_p _ hc15] at hf
                                    refine lv_tableIn (tgt := 264) hx hb d_M_predefinedRun_13 (by rw [hc15]; decide) (by rw [hc15]; decide) (by rw [hc15]; rfl) (by decide) ?_
                                    refine lv_aload_n hx hb d_M_predefinedRun_264 rfl (lv_at hl 0 rfl) ?_
                                    refine lv_iload_n hx hb d_M_predefinedRun_265 rfl (lv_at hl 1 rfl) ?_
                                    obtain ⟨u29, r29, hc29, hf⟩ := bnd_some hf
                                    refine mV_v (As := [.int v1]) (rest := []) C0 hP hD hS (c_M_nameRun N hM hc29) k_M_nameRun hl_M_nameRun hi_M_nameRun hs_M_nameRun hini_M rfl rfl hd_M_nameRun rfl (rm_M_predefinedRun_M_nameRun hR) hl.1 (Nat.le_of_ble_eq_true rfl) d_M_predefinedRun_266 rfl ⟨Nat.zero_le _, Nat.zero_le _⟩ (fun H locs hP hD hS => ?_)
                                    refine lv_goto (tgt := 292) hx hb d_M_predefinedRun_269 (by decide) ?_
                                    exact wb_M_predefinedRun_292 C0 hR N G hG _ _ hf H locs hP hD hS ls (lv_sub hl [] rfl)
                                  · rw [br_n _ hc15] at hf
                                    by_cases hc16 : v1 = 16
                                    · rw [br_p _ hc16] at hf
                                      refine lv_tableIn (tgt := 287) hx hb d_M_predefinedRun_13 (by rw [hc16]; decide) (by rw [hc16]; decide) (by rw [hc16]; rfl) (by decide) ?_
                                      refine lv_aload_n hx hb d_M_predefinedRun_287 rfl (lv_at hl 0 rfl) ?_
                                      refine lv_iload_n hx hb d_M_predefinedRun_288 rfl (lv_at hl 1 rfl) ?_
                                      obtain ⟨u30, r30, hc30, hf⟩ := bnd_some hf
                                      refine mV_v (As := [.int v1]) (rest := []) C0 hP hD hS (c_M_processRun N hM hc30) k_M_processRun hl_M_processRun hi_M_processRun hs_M_processRun hini_M rfl rfl hd_M_processRun rfl (rm_M_predefinedRun_M_processRun hR) hl.1 (Nat.le_of_ble_eq_true rfl) d_M_predefinedRun_289 rfl ⟨Nat.zero_le _, Nat.zero_le _⟩ (fun H locs hP hD hS => ?_)
                                      exact wb_M_predefinedRun_292 C0 hR N G hG _ _ hf H locs hP hD hS ls (lv_sub hl [] rfl)
                                    · rw [br_n _ hc16] at hf
                                      by_cases hc17 : v1 = 17
                                      · rw [br_p _ hc17] at hf
                                        refine lv_tableIn (tgt := 272) hx hb d_M_predefinedRun_13 (by rw [hc17]; decide) (by rw [hc17]; decide) (by rw [hc17]; rfl) (by decide) ?_
                                        refine lv_aload_n hx hb d_M_predefinedRun_272 rfl (lv_at hl 0 rfl) ?_
                                        refine lv_iconst (v := 0) hx hb d_M_predefinedRun_273 (by decide) ?_
                                        refine lv_aload_n hx hb d_M_predefinedRun_274 rfl (lv_at hl 0 rfl) ?_
                                        refine ug_I hx hb ht hown hM hK hP 120 (by decide) lk_M_120 (by decide) d_M_predefinedRun_275 ?_
                                        obtain ⟨u31, r31, hc31, hf⟩ := bnd_some hf
                                        refine mS_l (As := [.int 0, .int (u.1 120)]) (rest := [.ref h0]) C0 hP hD hS (c_M_term N hM hc31) k_M_term hl_M_term ht_M_term hini_M rfl rfl hd_M_term rfl (rm_M_predefinedRun_M_term hR) hl.1 (Nat.le_of_ble_eq_true rfl) d_M_predefinedRun_278 rfl ⟨Nat.zero_le _, Nat.zero_le _⟩ (fun H locs hP hD hS => ?_)
                                        obtain ⟨u32, r32, hc32, hf⟩ := bnd_some hf
                                        refine mV_v (As := [.long r31]) (rest := []) C0 hP hD hS (c_M_put N hM hc32) k_M_put hl_M_put hi_M_put hs_M_put hini_M rfl rfl hd_M_put rfl (rm_M_predefinedRun_M_put hR) hl.1 (Nat.le_of_ble_eq_true rfl) d_M_predefinedRun_281 rfl ⟨Nat.zero_le _, Nat.zero_le _⟩ (fun H locs hP hD hS => ?_)
                                        refine lv_goto (tgt := 292) hx hb d_M_predefinedRun_284 (by decide) ?_
                                        exact wb_M_predefinedRun_292 C0 hR N G hG _ _ hf H locs hP hD hS ls (lv_sub hl [] rfl)
                                      · rw [br_n _ hc17] at hf
                                        refine lv_tableOut (tgt := 287) hx hb d_M_predefinedRun_13 (by have z0 := tiN hc0; have z1 := tiN hc1; have z2 := tiN hc2; have z3 := tiN hc3; have z4 := tiN hc4; have z5 := tiN hc5; have z6 := tiN hc6; have z7 := tiN hc7; have z8 := tiN hc8; have z9 := tiN hc9; have z10 := tiN hc10; have z11 := tiN hc11; have z12 := tiN hc12; have z13 := tiN hc13; have z14 := tiN hc14; have z15 := tiN hc15; have z16 := tiN hc16; have z17 := tiN hc17; rw [show (0 : Int32).toInt = 0 from by decide] at z0; rw [show (1 : Int32).toInt = 1 from by decide] at z1; rw [show (2 : Int32).toInt = 2 from by decide] at z2; rw [show (3 : Int32).toInt = 3 from by decide] at z3; rw [show (4 : Int32).toInt = 4 from by decide] at z4; rw [show (5 : Int32).toInt = 5 from by decide] at z5; rw [show (6 : Int32).toInt = 6 from by decide] at z6; rw [show (7 : Int32).toInt = 7 from by decide] at z7; rw [show (8 : Int32).toInt = 8 from by decide] at z8; rw [show (9 : Int32).toInt = 9 from by decide] at z9; rw [show (10 : Int32).toInt = 10 from by decide] at z10; rw [show (11 : Int32).toInt = 11 from by decide] at z11; rw [show (12 : Int32).toInt = 12 from by decide] at z12; rw [show (13 : Int32).toInt = 13 from by decide] at z13; rw [show (14 : Int32).toInt = 14 from by decide] at z14; rw [show (15 : Int32).toInt = 15 from by decide] at z15; rw [show (16 : Int32).toInt = 16 from by decide] at z16; rw [show (17 : Int32).toInt = 17 from by decide] at z17; omega) (by decide) ?_
                                        refine lv_aload_n hx hb d_M_predefinedRun_287 rfl (lv_at hl 0 rfl) ?_
                                        refine lv_iload_n hx hb d_M_predefinedRun_288 rfl (lv_at hl 1 rfl) ?_
                                        obtain ⟨u33, r33, hc33, hf⟩ := bnd_some hf
                                        refine mV_v (As := [.int v1]) (rest := []) C0 hP hD hS (c_M_processRun N hM hc33) k_M_processRun hl_M_processRun hi_M_processRun hs_M_processRun hini_M rfl rfl hd_M_processRun rfl (rm_M_predefinedRun_M_processRun hR) hl.1 (Nat.le_of_ble_eq_true rfl) d_M_predefinedRun_289 rfl ⟨Nat.zero_le _, Nat.zero_le _⟩ (fun H locs hP hD hS => ?_)
                                        exact wb_M_predefinedRun_292 C0 hR N G hG _ _ hf H locs hP hD hS ls (lv_sub hl [] rfl)
  · rw [br_n _ hc] at hf
    refine lv_aload_n hx hb d_M_predefinedRun_6 rfl (lv_at hl 0 rfl) ?_
    refine lv_iload_n hx hb d_M_predefinedRun_7 rfl (lv_at hl 1 rfl) ?_
    obtain ⟨u34, r34, hc34, hf⟩ := bnd_some hf
    refine mV_v (As := [.int v1]) (rest := []) C0 hP hD hS (c_M_testRun N hM hc34) k_M_testRun hl_M_testRun hi_M_testRun hs_M_testRun hini_M rfl rfl hd_M_testRun rfl (rm_M_predefinedRun_M_testRun hR) hl.1 (Nat.le_of_ble_eq_true rfl) d_M_predefinedRun_8 rfl ⟨Nat.zero_le _, Nat.zero_le _⟩ (fun H locs hP hD hS => ?_)
    exact mr_v C0 hP hD hS hf d_M_predefinedRun_11
def fm_M_predefinedRun (N : Nat) (u : MS) (v1 : Int32) : Option (MS × Unit) := fb_M_predefinedRun_0 N () u v1
set_option maxRecDepth 100000 in
set_option maxHeartbeats 4000000 in
theorem c_M_predefinedRun (N : Nat) {l : Launch} {D : va_G} {cl : List vw_C} {cB cI cJ cZ cS : ClassId} {iM h0 : Nat} {ad : Nat → Nat} {u : MS} {sz : Nat} {v1 : Int32} {x : MS × Unit} (hM : cl[iM]? = some (R_M, F_M, 171)) (hf : fm_M_predefinedRun N u v1 = some x) : Met l y_M_predefinedRun (wd_ws y_M_predefinedRun b_M_predefinedRun 4 none) rm_M_predefinedRun (mPc D cl cB cI cJ cZ cS iM h0 ad u sz [.ref h0, .int v1]) (mQv D cl cB cI cJ cZ cS iM h0 ad (mA cB cI cJ cZ cS iM h0 ad u sz) x) 0 0 (mA cB cI cJ cZ cS iM h0 ad u sz) :=
  mMet (by decide) rfl hM (Nat.le_of_ble_eq_true rfl) (fun p e s m below meth c ls hsz C0 hP hD hS hl => by
    have hR : rm_M_predefinedRun = rm_M_predefinedRun := rfl
    exact wb_M_predefinedRun_0 C0 hR N () trivial u _ x hf s.heap [] hP hD hS ls (lv_sub hl [0, 1] rfl))
