def fb_M_behind_0 (N : Nat) (S : SG_M_behind) (G : Unit) (u : MS) : Option (MS × Int32) := br (decide ((u.1 67) = 0)) (bnd (fm_M_beginsUnit N u) (fun u1 r1 => br (decide (r1 = 0)) (bnd (fm_M_wrong N u1 2) (fun u5 _ => some (u5, (-1)))) (bnd (fm_M_opens N u1) (fun u2 _ => bnd (S.2.2.2.2.2.2.2.2.2.2.2.2.1 u2) (fun u3 r3 => lt (upI u3 70 ((u3.1 70) - 1)) (fun w4 => some (w4, r3))))))) (some (u, (-1)))
set_option maxRecDepth 100000 in
set_option maxHeartbeats 4000000 in
theorem wb_M_behind_0 {p : Program} {l : Launch} {e : Env} {R : Room} {s : State} {m : MethodId} {args : Array Value} {below : List Frame} {meth : Method} {c : Code} {D : va_G} {cl : List vw_C} {cB cI cJ cZ cS : ClassId} {A : Nat → Prop} {iM h0 : Nat} {ad : Nat → Nat} (C0 : MCx p s m args meth c b_M_behind 2 (some .int) D cl cB cI cJ cZ cS iM A) {d : Nat} (hR : R = rg_M_behind (d + 1)) (N : Nat) (S : SG_M_behind) (hSg : HS_M_behind l D cl cB cI cJ cZ cS iM h0 ad (rg_M_behind d) S) (G : Unit) (hG : True) : ∀ (u : MS) (x : MS × Int32), fb_M_behind_0 N S G u = some x → ∀ (H : Heap) (locs : List Loc), va_P D cl (wM cB cI cJ cZ cS iM h0 ad u) H → va_D A (wM cB cI cJ cZ cS iM h0 ad u) → va_S A s.heap H locs → ∀ (ls : Array Slot), lv_has ls 2 [(0, .ref h0)] → W p l e R s m args below meth c H locs 0 0 (MQ below (mQi D cl cB cI cJ cZ cS iM h0 ad A x) args s 0 0 A) (F0 m 0 ls []) := by
  intro u x hf H locs hP hD hS ls hl
  obtain ⟨hx, hb, hr, hml, ht, hown, hM, hK, hA, hlocks⟩ := id C0
  unfold fb_M_behind_0 at hf
  refine lv_aload_n hx hb d_M_behind_0 rfl (lv_at hl 0 rfl) ?_
  refine ug_I hx hb ht hown hM hK hP 67 (by decide) lk_M_67 (by decide) d_M_behind_1 ?_
  refine lv_if_eq (tgt := 9) hx hb d_M_behind_4 (by decide) (fun hc => ?_) (fun hc => ?_)
  · rw [br_p _ hc] at hf
    refine lv_aload_n hx hb d_M_behind_9 rfl (lv_at hl 0 rfl) ?_
    obtain ⟨u1, r1, hc1, hf⟩ := bnd_some hf
    refine mV_i (As := []) (rest := []) C0 hP hD hS (c_M_beginsUnit N hM hc1) k_M_beginsUnit hl_M_beginsUnit hi_M_beginsUnit hs_M_beginsUnit hini_M rfl rfl hd_M_beginsUnit rfl (rm_M_behind_M_beginsUnit hR) hl.1 (Nat.le_of_ble_eq_true rfl) d_M_behind_10 rfl ⟨Nat.zero_le _, Nat.zero_le _⟩ (fun H locs hP hD hS => ?_)
    refine lv_if_ne (tgt := 23) hx hb d_M_behind_13 (by decide) (fun hc => ?_) (fun hc => ?_)
    · rw [br_n _ hc] at hf
      refine lv_aload_n hx hb d_M_behind_23 rfl (lv_at hl 0 rfl) ?_
      obtain ⟨u2, r2, hc2, hf⟩ := bnd_some hf
      refine mV_v (As := []) (rest := []) C0 hP hD hS (c_M_opens N hM hc2) k_M_opens hl_M_opens hi_M_opens hs_M_opens hini_M rfl rfl hd_M_opens rfl (rm_M_behind_M_opens hR) hl.1 (Nat.le_of_ble_eq_true rfl) d_M_behind_24 rfl ⟨Nat.zero_le _, Nat.zero_le _⟩ (fun H locs hP hD hS => ?_)
      refine lv_aload_n hx hb d_M_behind_27 rfl (lv_at hl 0 rfl) ?_
      obtain ⟨u3, r3, hc3, hf⟩ := bnd_some hf
      refine mV_i (As := []) (rest := []) C0 hP hD hS (hSg.2.2.2.2.2.2.2.2.2.2.2.2.1 _ _ _ hc3) k_M_simple hl_M_simple hi_M_simple hs_M_simple hini_M rfl rfl hd_M_simple rfl (rm_M_behind_M_simple hR) hl.1 (Nat.le_of_ble_eq_true rfl) d_M_behind_28 rfl ⟨Nat.zero_le _, Nat.zero_le _⟩ (fun H locs hP hD hS => ?_)
      refine lv_istore_n (lv' := [(1, .int r3), (0, .ref h0)]) hx hb d_M_behind_31 rfl hl (by decide) rfl (fun ls hl => ?_)
      refine lv_aload_n hx hb d_M_behind_32 rfl (lv_at hl 1 rfl) ?_
      refine lv_dup hx hb d_M_behind_33 rfl ?_
      refine ug_I hx hb ht hown hM hK hP 70 (by decide) lk_M_70 (by decide) d_M_behind_34 ?_
      refine lv_iconst (v := 1) hx hb d_M_behind_37 (by decide) ?_
      refine lv_isub hx hb d_M_behind_38 ?_
      refine up_I hx hb ht hown hM hK hP hD hS 70 (by decide) lk_M_70 (by decide) rfl rfl rfl d_M_behind_39 (fun H locs hP hD hS => ?_)
      obtain ⟨w4, e4, hf⟩ := lt_some hf
      rw [← e4] at hP hD
      refine lv_iload_n hx hb d_M_behind_42 rfl (lv_at hl 0 rfl) ?_
      exact mr_i C0 hP hD hS hf d_M_behind_43
    · rw [br_p _ hc] at hf
      refine lv_aload_n hx hb d_M_behind_16 rfl (lv_at hl 0 rfl) ?_
      refine lv_iconst (v := 2) hx hb d_M_behind_17 (by decide) ?_
      obtain ⟨u5, r5, hc5, hf⟩ := bnd_some hf
      refine mV_v (As := [.int 2]) (rest := []) C0 hP hD hS (c_M_wrong N hM hc5) k_M_wrong hl_M_wrong hi_M_wrong hs_M_wrong hini_M rfl rfl hd_M_wrong rfl (rm_M_behind_M_wrong hR) hl.1 (Nat.le_of_ble_eq_true rfl) d_M_behind_18 rfl ⟨Nat.zero_le _, Nat.zero_le _⟩ (fun H locs hP hD hS => ?_)
      refine lv_iconst (v := (-1)) hx hb d_M_behind_21 (by decide) ?_
      exact mr_i C0 hP hD hS hf d_M_behind_22
  · rw [br_n _ hc] at hf
    refine lv_iconst (v := (-1)) hx hb d_M_behind_7 (by decide) ?_
    exact mr_i C0 hP hD hS hf d_M_behind_8
def fm_M_behind (N : Nat) (S : SG_M_behind) (u : MS) : Option (MS × Int32) := fb_M_behind_0 N S () u
set_option maxRecDepth 100000 in
set_option maxHeartbeats 4000000 in
theorem cs_M_behind (N : Nat) {d : Nat} {l : Launch} {D : va_G} {cl : List vw_C} {cB cI cJ cZ cS : ClassId} {iM h0 : Nat} {ad : Nat → Nat} {u : MS} {sz : Nat} {x : MS × Int32} (hM : cl[iM]? = some (R_M, F_M, 171)) (S : SG_M_behind) (hSg : HS_M_behind l D cl cB cI cJ cZ cS iM h0 ad (rg_M_behind d) S) (hf : fm_M_behind N S u = some x) : Met l y_M_behind (wd_ws y_M_behind b_M_behind 2 (some .int)) (rg_M_behind (d + 1)) (mPc D cl cB cI cJ cZ cS iM h0 ad u sz [.ref h0]) (mQi D cl cB cI cJ cZ cS iM h0 ad (mA cB cI cJ cZ cS iM h0 ad u sz) x) 0 0 (mA cB cI cJ cZ cS iM h0 ad u sz) :=
  mMet (by decide) rfl hM (Nat.le_of_ble_eq_true rfl) (fun p e s m below meth c ls hsz C0 hP hD hS hl => by
    have hR : (rg_M_behind (d + 1)) = (rg_M_behind (d + 1)) := rfl
    exact wb_M_behind_0 C0 hR N S hSg () trivial u x hf s.heap [] hP hD hS ls (lv_sub hl [0] rfl))
theorem rm_M_matched_M_takeBack {R : Room} {d : Nat} (hR : R = rg_M_behind (d + 1)) : (rm_M_takeBack).frames + 1 ≤ R.frames ∧ 8 + (3 + 11) + (rm_M_takeBack).locals ≤ R.locals := by
  subst hR
  have h1 : (rm_M_takeBack).frames = 0 := rfl
  have h2 : (rm_M_takeBack).locals = 0 := rfl
  show (rm_M_takeBack).frames + 1 ≤ 94 + (d + 1) ∧ 8 + (3 + 11) + (rm_M_takeBack).locals ≤ 2494 + 29 * (d + 1)
  omega
theorem rm_M_matched_M_patternAt {R : Room} {d : Nat} (hR : R = rg_M_behind (d + 1)) : (rm_M_patternAt).frames + 1 ≤ R.frames ∧ 8 + (5 + 11) + (rm_M_patternAt).locals ≤ R.locals := by
  subst hR
  have h1 : (rm_M_patternAt).frames = 93 := rfl
  have h2 : (rm_M_patternAt).locals = 2470 := rfl
  show (rm_M_patternAt).frames + 1 ≤ 94 + (d + 1) ∧ 8 + (5 + 11) + (rm_M_patternAt).locals ≤ 2494 + 29 * (d + 1)
  omega
theorem rm_M_matched_M_wrong {R : Room} {d : Nat} (hR : R = rg_M_behind (d + 1)) : (rm_M_wrong).frames + 1 ≤ R.frames ∧ 8 + (2 + 11) + (rm_M_wrong).locals ≤ R.locals := by
  subst hR
  have h1 : (rm_M_wrong).frames = 0 := rfl
  have h2 : (rm_M_wrong).locals = 0 := rfl
  show (rm_M_wrong).frames + 1 ≤ 94 + (d + 1) ∧ 8 + (2 + 11) + (rm_M_wrong).locals ≤ 2494 + 29 * (d + 1)
  omega
theorem rm_M_matched_M_rule {R : Room} {d : Nat} (hR : R = rg_M_behind (d + 1)) : (rm_M_rule).frames + 1 ≤ R.frames ∧ 8 + (3 + 11) + (rm_M_rule).locals ≤ R.locals := by
  subst hR
  have h1 : (rm_M_rule).frames = 0 := rfl
  have h2 : (rm_M_rule).locals = 0 := rfl
  show (rm_M_rule).frames + 1 ≤ 94 + (d + 1) ∧ 8 + (3 + 11) + (rm_M_rule).locals ≤ 2494 + 29 * (d + 1)
  omega
theorem rm_M_matched_M_node {R : Room} {d : Nat} (hR : R = rg_M_behind (d + 1)) : (rm_M_node).frames + 1 ≤ R.frames ∧ 8 + (3 + 11) + (rm_M_node).locals ≤ R.locals := by
  subst hR
  have h1 : (rm_M_node).frames = 0 := rfl
  have h2 : (rm_M_node).locals = 0 := rfl
  show (rm_M_node).frames + 1 ≤ 94 + (d + 1) ∧ 8 + (3 + 11) + (rm_M_node).locals ≤ 2494 + 29 * (d + 1)
  omega
theorem rm_M_matched_M_behind {R : Room} {d : Nat} (hR : R = rg_M_behind (d + 1)) : (rg_M_behind d).frames + 1 ≤ R.frames ∧ 8 + (2 + 11) + (rg_M_behind d).locals ≤ R.locals := by
  subst hR
  show 94 + d + 1 ≤ 94 + (d + 1) ∧ 8 + (2 + 11) + (2494 + 29 * d) ≤ 2494 + 29 * (d + 1)
  omega
def fb_M_matched_154 (N : Nat) (S : SG_M_behind) (G : (MS → Int32 → Int32 → Int32 → Option (MS × Int32)) × (MS → Int32 → Int32 → Int32 → Option (MS × Int32))) (u : MS) (v1 : Int32) (v2 : Int32) : Option (MS × Int32) := lt (upI u 69 (v2 + 1)) (fun w1 => bnd (S.1 w1) (fun u2 r2 => br (decide ((u2.1 67) = 0)) (lt (upI u2 69 v1) (fun w3 => lt (upI w3 70 ((w3.1 70) - 1)) (fun w4 => bnd (fr_M_patternAt N w4 0) (fun u5 r5 => lt (upI u5 70 ((u5.1 70) + 1)) (fun w6 => lt (upI w6 69 (u2.1 69)) (fun w7 => bnd (fm_M_node N w7 16 v2) (fun u8 r8 => ck (inb r8 (ln 25)) (lt (upA u8 25 (upd (u8.2.2.1 25) r8.toNatClampNeg r5)) (fun w9 => some (w9, r8)))))))))) (some (u2, (-1)))))
set_option maxRecDepth 100000 in
set_option maxHeartbeats 4000000 in
theorem wb_M_matched_154 {p : Program} {l : Launch} {e : Env} {R : Room} {s : State} {m : MethodId} {args : Array Value} {below : List Frame} {meth : Method} {c : Code} {D : va_G} {cl : List vw_C} {cB cI cJ cZ cS : ClassId} {A : Nat → Prop} {iM h0 : Nat} {ad : Nat → Nat} (C0 : MCx p s m args meth c b_M_matched 7 (some .int) D cl cB cI cJ cZ cS iM A) {d : Nat} (hR : R = rg_M_behind (d + 1)) (N : Nat) (S : SG_M_behind) (hSg : HS_M_behind l D cl cB cI cJ cZ cS iM h0 ad (rg_M_behind d) S) (G : (MS → Int32 → Int32 → Int32 → Option (MS × Int32)) × (MS → Int32 → Int32 → Int32 → Option (MS × Int32))) (hG : (∀ (u : MS) (v1 : Int32) (v2 : Int32) (v4 : Int32) (x : MS × Int32), G.1 u v1 v2 v4 = some x → ∀ (H : Heap) (locs : List Loc), va_P D cl (wM cB cI cJ cZ cS iM h0 ad u) H → va_D A (wM cB cI cJ cZ cS iM h0 ad u) → va_S A s.heap H locs → ∀ (ls : Array Slot), lv_has ls 7 [(0, .ref h0), (1, .int v1), (2, .int v2), (4, .int v4)] → W p l e R s m args below meth c H locs 0 0 (MQ below (mQi D cl cB cI cJ cZ cS iM h0 ad A x) args s 0 0 A) (F0 m 75 ls [])) ∧ (∀ (u : MS) (v1 : Int32) (v2 : Int32) (v4 : Int32) (x : MS × Int32), G.2 u v1 v2 v4 = some x → ∀ (H : Heap) (locs : List Loc), va_P D cl (wM cB cI cJ cZ cS iM h0 ad u) H → va_D A (wM cB cI cJ cZ cS iM h0 ad u) → va_S A s.heap H locs → ∀ (ls : Array Slot), lv_has ls 7 [(0, .ref h0), (1, .int v1), (2, .int v2), (4, .int v4)] → W p l e R s m args below meth c H locs 0 0 (MQ below (mQi D cl cB cI cJ cZ cS iM h0 ad A x) args s 0 0 A) (F0 m 111 ls []))) : ∀ (u : MS) (v1 : Int32) (v2 : Int32) (x : MS × Int32), fb_M_matched_154 N S G u v1 v2 = some x → ∀ (H : Heap) (locs : List Loc), va_P D cl (wM cB cI cJ cZ cS iM h0 ad u) H → va_D A (wM cB cI cJ cZ cS iM h0 ad u) → va_S A s.heap H locs → ∀ (ls : Array Slot), lv_has ls 7 [(0, .ref h0), (1, .int v1), (2, .int v2)] → W p l e R s m args below meth c H locs 0 0 (MQ below (mQi D cl cB cI cJ cZ cS iM h0 ad A x) args s 0 0 A) (F0 m 154 ls []) := by
  intro u v1 v2 x hf H locs hP hD hS ls hl
  obtain ⟨hx, hb, hr, hml, ht, hown, hM, hK, hA, hlocks⟩ := id C0
  unfold fb_M_matched_154 at hf
  refine lv_aload_n hx hb d_M_matched_154 rfl (lv_at hl 0 rfl) ?_
  refine lv_iload_n hx hb d_M_matched_155 rfl (lv_at hl 2 rfl) ?_
  refine lv_iconst (v := 1) hx hb d_M_matched_156 (by decide) ?_
  refine lv_iadd hx hb d_M_matched_157 ?_
  refine up_I hx hb ht hown hM hK hP hD hS 69 (by decide) lk_M_69 (by decide) rfl rfl rfl d_M_matched_158 (fun H locs hP hD hS => ?_)
  obtain ⟨w1, e1, hf⟩ := lt_some hf
  rw [← e1] at hP hD
  refine lv_aload_n hx hb d_M_matched_161 rfl (lv_at hl 0 rfl) ?_
  obtain ⟨u2, r2, hc2, hf⟩ := bnd_some hf
  refine mV_i (As := []) (rest := []) C0 hP hD hS (hSg.1 _ _ _ hc2) k_M_behind hl_M_behind hi_M_behind hs_M_behind hini_M rfl rfl hd_M_behind rfl (rm_M_matched_M_behind hR) hl.1 (Nat.le_of_ble_eq_true rfl) d_M_matched_162 rfl ⟨Nat.zero_le _, Nat.zero_le _⟩ (fun H locs hP hD hS => ?_)
  refine lv_istore (lv' := [(4, .int r2), (0, .ref h0), (1, .int v1), (2, .int v2)]) hx hb d_M_matched_165 hl (by decide) rfl (fun ls hl => ?_)
  refine lv_aload_n hx hb d_M_matched_167 rfl (lv_at hl 1 rfl) ?_
  refine ug_I hx hb ht hown hM hK hP 67 (by decide) lk_M_67 (by decide) d_M_matched_168 ?_
  refine lv_if_eq (tgt := 176) hx hb d_M_matched_171 (by decide) (fun hc => ?_) (fun hc => ?_)
  · rw [br_p _ hc] at hf
    refine lv_aload_n hx hb d_M_matched_176 rfl (lv_at hl 1 rfl) ?_
    refine ug_I hx hb ht hown hM hK hP 69 (by decide) lk_M_69 (by decide) d_M_matched_177 ?_
    refine lv_istore (lv' := [(5, .int (u2.1 69)), (4, .int r2), (0, .ref h0), (1, .int v1), (2, .int v2)]) hx hb d_M_matched_180 hl (by decide) rfl (fun ls hl => ?_)
    refine lv_aload_n hx hb d_M_matched_182 rfl (lv_at hl 2 rfl) ?_
    refine lv_iload_n hx hb d_M_matched_183 rfl (lv_at hl 3 rfl) ?_
    refine up_I hx hb ht hown hM hK hP hD hS 69 (by decide) lk_M_69 (by decide) rfl rfl rfl d_M_matched_184 (fun H locs hP hD hS => ?_)
    obtain ⟨w3, e3, hf⟩ := lt_some hf
    rw [← e3] at hP hD
    refine lv_aload_n hx hb d_M_matched_187 rfl (lv_at hl 2 rfl) ?_
    refine lv_dup hx hb d_M_matched_188 rfl ?_
    refine ug_I hx hb ht hown hM hK hP 70 (by decide) lk_M_70 (by decide) d_M_matched_189 ?_
    refine lv_iconst (v := 1) hx hb d_M_matched_192 (by decide) ?_
    refine lv_isub hx hb d_M_matched_193 ?_
    refine up_I hx hb ht hown hM hK hP hD hS 70 (by decide) lk_M_70 (by decide) rfl rfl rfl d_M_matched_194 (fun H locs hP hD hS => ?_)
    obtain ⟨w4, e4, hf⟩ := lt_some hf
    rw [← e4] at hP hD
    refine lv_aload_n hx hb d_M_matched_197 rfl (lv_at hl 2 rfl) ?_
    refine lv_iconst (v := 0) hx hb d_M_matched_198 (by decide) ?_
    obtain ⟨u5, r5, hc5, hf⟩ := bnd_some hf
    refine mV_i (As := [.int 0]) (rest := []) C0 hP hD hS (c_M_patternAt N hM hc5) k_M_patternAt hl_M_patternAt hi_M_patternAt hs_M_patternAt hini_M rfl rfl hd_M_patternAt rfl (rm_M_matched_M_patternAt hR) hl.1 (Nat.le_of_ble_eq_true rfl) d_M_matched_199 rfl ⟨Nat.zero_le _, Nat.zero_le _⟩ (fun H locs hP hD hS => ?_)
    refine lv_istore_n (lv' := [(3, .int r5), (5, .int (u2.1 69)), (4, .int r2), (0, .ref h0), (1, .int v1), (2, .int v2)]) hx hb d_M_matched_202 rfl hl (by decide) rfl (fun ls hl => ?_)
    refine lv_aload_n hx hb d_M_matched_203 rfl (lv_at hl 3 rfl) ?_
    refine lv_dup hx hb d_M_matched_204 rfl ?_
    refine ug_I hx hb ht hown hM hK hP 70 (by decide) lk_M_70 (by decide) d_M_matched_205 ?_
    refine lv_iconst (v := 1) hx hb d_M_matched_208 (by decide) ?_
    refine lv_iadd hx hb d_M_matched_209 ?_
    refine up_I hx hb ht hown hM hK hP hD hS 70 (by decide) lk_M_70 (by decide) rfl rfl rfl d_M_matched_210 (fun H locs hP hD hS => ?_)
    obtain ⟨w6, e6, hf⟩ := lt_some hf
    rw [← e6] at hP hD
    refine lv_aload_n hx hb d_M_matched_213 rfl (lv_at hl 3 rfl) ?_
    refine lv_iload hx hb d_M_matched_214 (lv_at hl 1 rfl) ?_
    refine up_I hx hb ht hown hM hK hP hD hS 69 (by decide) lk_M_69 (by decide) rfl rfl rfl d_M_matched_216 (fun H locs hP hD hS => ?_)
    obtain ⟨w7, e7, hf⟩ := lt_some hf
    rw [← e7] at hP hD
    refine lv_aload_n hx hb d_M_matched_219 rfl (lv_at hl 3 rfl) ?_
    refine lv_bipush (v := 16) hx hb d_M_matched_220 (by decide) ?_
    refine lv_iload_n hx hb d_M_matched_222 rfl (lv_at hl 5 rfl) ?_
    obtain ⟨u8, r8, hc8, hf⟩ := bnd_some hf
    refine mV_i (As := [.int 16, .int v2]) (rest := []) C0 hP hD hS (c_M_node N hM hc8) k_M_node hl_M_node hi_M_node hs_M_node hini_M rfl rfl hd_M_node rfl (rm_M_matched_M_node hR) hl.1 (Nat.le_of_ble_eq_true rfl) d_M_matched_223 rfl ⟨Nat.zero_le _, Nat.zero_le _⟩ (fun H locs hP hD hS => ?_)
    refine lv_istore (lv' := [(6, .int r8), (3, .int r5), (5, .int (u2.1 69)), (4, .int r2), (0, .ref h0), (1, .int v1), (2, .int v2)]) hx hb d_M_matched_226 hl (by decide) rfl (fun ls hl => ?_)
    refine lv_aload_n hx hb d_M_matched_228 rfl (lv_at hl 4 rfl) ?_
    refine ug_R hx hb ht hown hM hK hP 25 (by decide) lk_M_25 (by decide) d_M_matched_229 ?_
    refine lv_iload hx hb d_M_matched_232 (lv_at hl 0 rfl) ?_
    refine lv_iload_n hx hb d_M_matched_234 rfl (lv_at hl 1 rfl) ?_
    obtain ⟨hi9, hf⟩ := ck_some hf
    refine us_I hx hb hK hP hD hS (by decide) (by decide) hi9 d_M_matched_235 (fun H locs hP hD hS => ?_)
    obtain ⟨w9, e9, hf⟩ := lt_some hf
    rw [← e9] at hP hD
    refine lv_iload hx hb d_M_matched_236 (lv_at hl 0 rfl) ?_
    exact mr_i C0 hP hD hS hf d_M_matched_238
  · rw [br_n _ hc] at hf
    refine lv_iconst (v := (-1)) hx hb d_M_matched_174 (by decide) ?_
    exact mr_i C0 hP hD hS hf d_M_matched_175
def fb_M_matched_111 (N : Nat) (S : SG_M_behind) (G : (MS → Int32 → Int32 → Int32 → Option (MS × Int32)) × (MS → Int32 → Int32 → Int32 → Option (MS × Int32))) (u : MS) (v1 : Int32) (v2 : Int32) (v4 : Int32) : Option (MS × Int32) := br (decide ((u.1 65) < v4)) (br (decide ((u.1 73) = 0)) (fb_M_matched_154 N S G u (v1) (v2)) (bnd (fm_M_rule N u 7 v2) (fun u10 _ => fb_M_matched_154 N S G u10 (v1) (v2)))) (ck (inb v4 (ln 78)) (ck (inb v4 (ln 63)) (lt (upA u 63 (upd (u.2.2.1 63) v4.toNatClampNeg (u.2.2.1 78 v4.toNatClampNeg))) (fun w11 => G.2 w11 (v1) (v2) ((v4 + 1))))))
set_option maxRecDepth 100000 in
set_option maxHeartbeats 4000000 in
theorem wb_M_matched_111 {p : Program} {l : Launch} {e : Env} {R : Room} {s : State} {m : MethodId} {args : Array Value} {below : List Frame} {meth : Method} {c : Code} {D : va_G} {cl : List vw_C} {cB cI cJ cZ cS : ClassId} {A : Nat → Prop} {iM h0 : Nat} {ad : Nat → Nat} (C0 : MCx p s m args meth c b_M_matched 7 (some .int) D cl cB cI cJ cZ cS iM A) {d : Nat} (hR : R = rg_M_behind (d + 1)) (N : Nat) (S : SG_M_behind) (hSg : HS_M_behind l D cl cB cI cJ cZ cS iM h0 ad (rg_M_behind d) S) (G : (MS → Int32 → Int32 → Int32 → Option (MS × Int32)) × (MS → Int32 → Int32 → Int32 → Option (MS × Int32))) (hG : (∀ (u : MS) (v1 : Int32) (v2 : Int32) (v4 : Int32) (x : MS × Int32), G.1 u v1 v2 v4 = some x → ∀ (H : Heap) (locs : List Loc), va_P D cl (wM cB cI cJ cZ cS iM h0 ad u) H → va_D A (wM cB cI cJ cZ cS iM h0 ad u) → va_S A s.heap H locs → ∀ (ls : Array Slot), lv_has ls 7 [(0, .ref h0), (1, .int v1), (2, .int v2), (4, .int v4)] → W p l e R s m args below meth c H locs 0 0 (MQ below (mQi D cl cB cI cJ cZ cS iM h0 ad A x) args s 0 0 A) (F0 m 75 ls [])) ∧ (∀ (u : MS) (v1 : Int32) (v2 : Int32) (v4 : Int32) (x : MS × Int32), G.2 u v1 v2 v4 = some x → ∀ (H : Heap) (locs : List Loc), va_P D cl (wM cB cI cJ cZ cS iM h0 ad u) H → va_D A (wM cB cI cJ cZ cS iM h0 ad u) → va_S A s.heap H locs → ∀ (ls : Array Slot), lv_has ls 7 [(0, .ref h0), (1, .int v1), (2, .int v2), (4, .int v4)] → W p l e R s m args below meth c H locs 0 0 (MQ below (mQi D cl cB cI cJ cZ cS iM h0 ad A x) args s 0 0 A) (F0 m 111 ls []))) : ∀ (u : MS) (v1 : Int32) (v2 : Int32) (v4 : Int32) (x : MS × Int32), fb_M_matched_111 N S G u v1 v2 v4 = some x → ∀ (H : Heap) (locs : List Loc), va_P D cl (wM cB cI cJ cZ cS iM h0 ad u) H → va_D A (wM cB cI cJ cZ cS iM h0 ad u) → va_S A s.heap H locs → ∀ (ls : Array Slot), lv_has ls 7 [(0, .ref h0), (1, .int v1), (2, .int v2), (4, .int v4)] → W p l e R s m args below meth c H locs 0 0 (MQ below (mQi D cl cB cI cJ cZ cS iM h0 ad A x) args s 0 0 A) (F0 m 111 ls []) := by
  intro u v1 v2 v4 x hf H locs hP hD hS ls hl
  obtain ⟨hx, hb, hr, hml, ht, hown, hM, hK, hA, hlocks⟩ := id C0
  unfold fb_M_matched_111 at hf
  refine lv_iload hx hb d_M_matched_111 (lv_at hl 3 rfl) ?_
  refine lv_aload_n hx hb d_M_matched_113 rfl (lv_at hl 0 rfl) ?_
  refine ug_I hx hb ht hown hM hK hP 65 (by decide) lk_M_65 (by decide) d_M_matched_114 ?_
  refine lv_icmp_gt (tgt := 140) hx hb d_M_matched_117 (by decide) (fun hc => ?_) (fun hc => ?_)
  · rw [br_p _ hc] at hf
    refine lv_aload_n hx hb d_M_matched_140 rfl (lv_at hl 0 rfl) ?_
    refine ug_I hx hb ht hown hM hK hP 73 (by decide) lk_M_73 (by decide) d_M_matched_141 ?_
    refine lv_if_eq (tgt := 154) hx hb d_M_matched_144 (by decide) (fun hc => ?_) (fun hc => ?_)
    · rw [br_p _ hc] at hf
      exact wb_M_matched_154 C0 hR N S hSg G hG _ _ _ _ hf H locs hP hD hS ls (lv_sub hl [0, 1, 2] rfl)
    · rw [br_n _ hc] at hf
      refine lv_aload_n hx hb d_M_matched_147 rfl (lv_at hl 0 rfl) ?_
      refine lv_bipush (v := 7) hx hb d_M_matched_148 (by decide) ?_
      refine lv_iload_n hx hb d_M_matched_150 rfl (lv_at hl 2 rfl) ?_
      obtain ⟨u10, r10, hc10, hf⟩ := bnd_some hf
      refine mV_v (As := [.int 7, .int v2]) (rest := []) C0 hP hD hS (c_M_rule N hM hc10) k_M_rule hl_M_rule hi_M_rule hs_M_rule hini_M rfl rfl hd_M_rule rfl (rm_M_matched_M_rule hR) hl.1 (Nat.le_of_ble_eq_true rfl) d_M_matched_151 rfl ⟨Nat.zero_le _, Nat.zero_le _⟩ (fun H locs hP hD hS => ?_)
      exact wb_M_matched_154 C0 hR N S hSg G hG _ _ _ _ hf H locs hP hD hS ls (lv_sub hl [0, 1, 2] rfl)
  · rw [br_n _ hc] at hf
    refine lv_aload_n hx hb d_M_matched_120 rfl (lv_at hl 0 rfl) ?_
    refine ug_R hx hb ht hown hM hK hP 63 (by decide) lk_M_63 (by decide) d_M_matched_121 ?_
    refine lv_iload hx hb d_M_matched_124 (lv_at hl 3 rfl) ?_
    refine lv_aload_n hx hb d_M_matched_126 rfl (lv_at hl 0 rfl) ?_
    refine ug_R hx hb ht hown hM hK hP 78 (by decide) lk_M_78 (by decide) d_M_matched_127 ?_
    refine lv_iload hx hb d_M_matched_130 (lv_at hl 3 rfl) ?_
    obtain ⟨hi9, hf⟩ := ck_some hf
    refine ul_I hx hb hK hP (by decide) (by decide) hi9 d_M_matched_132 ?_
    obtain ⟨hi9, hf⟩ := ck_some hf
    refine us_I hx hb hK hP hD hS (by decide) (by decide) hi9 d_M_matched_133 (fun H locs hP hD hS => ?_)
    obtain ⟨w11, e11, hf⟩ := lt_some hf
    rw [← e11] at hP hD
    refine lv_iinc (v := (v4 + 1)) (lv' := [(4, .int (v4 + 1)), (0, .ref h0), (1, .int v1), (2, .int v2)]) hx hb d_M_matched_134 hl (k := 3) rfl rfl (by decide) rfl (fun ls hl => ?_)
    refine lv_goto (tgt := 111) hx hb d_M_matched_137 (by decide) ?_
    exact hG.2 _ _ _ _ _ hf H locs hP hD hS ls (lv_sub hl [1, 2, 3, 0] rfl)
def fb_M_matched_75 (N : Nat) (S : SG_M_behind) (G : (MS → Int32 → Int32 → Int32 → Option (MS × Int32)) × (MS → Int32 → Int32 → Int32 → Option (MS × Int32))) (u : MS) (v1 : Int32) (v2 : Int32) (v4 : Int32) : Option (MS × Int32) := br (decide ((u.1 65) < v4)) (bnd (fm_M_takeBack N u) (fun u12 _ => G.2 u12 (v1) (v2) (0))) (ck (inb v4 (ln 63)) (ck (inb v4 (ln 78)) (lt (upA u 78 (upd (u.2.2.1 78) v4.toNatClampNeg (u.2.2.1 63 v4.toNatClampNeg))) (fun w13 => G.1 w13 (v1) (v2) ((v4 + 1))))))
set_option maxRecDepth 100000 in
set_option maxHeartbeats 4000000 in
theorem wb_M_matched_75 {p : Program} {l : Launch} {e : Env} {R : Room} {s : State} {m : MethodId} {args : Array Value} {below : List Frame} {meth : Method} {c : Code} {D : va_G} {cl : List vw_C} {cB cI cJ cZ cS : ClassId} {A : Nat → Prop} {iM h0 : Nat} {ad : Nat → Nat} (C0 : MCx p s m args meth c b_M_matched 7 (some .int) D cl cB cI cJ cZ cS iM A) {d : Nat} (hR : R = rg_M_behind (d + 1)) (N : Nat) (S : SG_M_behind) (hSg : HS_M_behind l D cl cB cI cJ cZ cS iM h0 ad (rg_M_behind d) S) (G : (MS → Int32 → Int32 → Int32 → Option (MS × Int32)) × (MS → Int32 → Int32 → Int32 → Option (MS × Int32))) (hG : (∀ (u : MS) (v1 : Int32) (v2 : Int32) (v4 : Int32) (x : MS × Int32), G.1 u v1 v2 v4 = some x → ∀ (H : Heap) (locs : List Loc), va_P D cl (wM cB cI cJ cZ cS iM h0 ad u) H → va_D A (wM cB cI cJ cZ cS iM h0 ad u) → va_S A s.heap H locs → ∀ (ls : Array Slot), lv_has ls 7 [(0, .ref h0), (1, .int v1), (2, .int v2), (4, .int v4)] → W p l e R s m args below meth c H locs 0 0 (MQ below (mQi D cl cB cI cJ cZ cS iM h0 ad A x) args s 0 0 A) (F0 m 75 ls [])) ∧ (∀ (u : MS) (v1 : Int32) (v2 : Int32) (v4 : Int32) (x : MS × Int32), G.2 u v1 v2 v4 = some x → ∀ (H : Heap) (locs : List Loc), va_P D cl (wM cB cI cJ cZ cS iM h0 ad u) H → va_D A (wM cB cI cJ cZ cS iM h0 ad u) → va_S A s.heap H locs → ∀ (ls : Array Slot), lv_has ls 7 [(0, .ref h0), (1, .int v1), (2, .int v2), (4, .int v4)] → W p l e R s m args below meth c H locs 0 0 (MQ below (mQi D cl cB cI cJ cZ cS iM h0 ad A x) args s 0 0 A) (F0 m 111 ls []))) : ∀ (u : MS) (v1 : Int32) (v2 : Int32) (v4 : Int32) (x : MS × Int32), fb_M_matched_75 N S G u v1 v2 v4 = some x → ∀ (H : Heap) (locs : List Loc), va_P D cl (wM cB cI cJ cZ cS iM h0 ad u) H → va_D A (wM cB cI cJ cZ cS iM h0 ad u) → va_S A s.heap H locs → ∀ (ls : Array Slot), lv_has ls 7 [(0, .ref h0), (1, .int v1), (2, .int v2), (4, .int v4)] → W p l e R s m args below meth c H locs 0 0 (MQ below (mQi D cl cB cI cJ cZ cS iM h0 ad A x) args s 0 0 A) (F0 m 75 ls []) := by
  intro u v1 v2 v4 x hf H locs hP hD hS ls hl
  obtain ⟨hx, hb, hr, hml, ht, hown, hM, hK, hA, hlocks⟩ := id C0
  unfold fb_M_matched_75 at hf
  refine lv_iload hx hb d_M_matched_75 (lv_at hl 3 rfl) ?_
  refine lv_aload_n hx hb d_M_matched_77 rfl (lv_at hl 0 rfl) ?_
  refine ug_I hx hb ht hown hM hK hP 65 (by decide) lk_M_65 (by decide) d_M_matched_78 ?_
  refine lv_icmp_gt (tgt := 104) hx hb d_M_matched_81 (by decide) (fun hc => ?_) (fun hc => ?_)
  · rw [br_p _ hc] at hf
    refine lv_aload_n hx hb d_M_matched_104 rfl (lv_at hl 0 rfl) ?_
    obtain ⟨u12, r12, hc12, hf⟩ := bnd_some hf
    refine mV_v (As := []) (rest := []) C0 hP hD hS (c_M_takeBack N hM hc12) k_M_takeBack hl_M_takeBack hi_M_takeBack hs_M_takeBack hini_M rfl rfl hd_M_takeBack rfl (rm_M_matched_M_takeBack hR) hl.1 (Nat.le_of_ble_eq_true rfl) d_M_matched_105 rfl ⟨Nat.zero_le _, Nat.zero_le _⟩ (fun H locs hP hD hS => ?_)
    refine lv_iconst (v := 0) hx hb d_M_matched_108 (by decide) ?_
    refine lv_istore (lv' := [(4, .int 0), (0, .ref h0), (1, .int v1), (2, .int v2)]) hx hb d_M_matched_109 hl (by decide) rfl (fun ls hl => ?_)
    exact hG.2 _ _ _ _ _ hf H locs hP hD hS ls (lv_sub hl [1, 2, 3, 0] rfl)
  · rw [br_n _ hc] at hf
    refine lv_aload_n hx hb d_M_matched_84 rfl (lv_at hl 0 rfl) ?_
    refine ug_R hx hb ht hown hM hK hP 78 (by decide) lk_M_78 (by decide) d_M_matched_85 ?_
    refine lv_iload hx hb d_M_matched_88 (lv_at hl 3 rfl) ?_
    refine lv_aload_n hx hb d_M_matched_90 rfl (lv_at hl 0 rfl) ?_
    refine ug_R hx hb ht hown hM hK hP 63 (by decide) lk_M_63 (by decide) d_M_matched_91 ?_
    refine lv_iload hx hb d_M_matched_94 (lv_at hl 3 rfl) ?_
    obtain ⟨hi9, hf⟩ := ck_some hf
    refine ul_I hx hb hK hP (by decide) (by decide) hi9 d_M_matched_96 ?_
    obtain ⟨hi9, hf⟩ := ck_some hf
    refine us_I hx hb hK hP hD hS (by decide) (by decide) hi9 d_M_matched_97 (fun H locs hP hD hS => ?_)
    obtain ⟨w13, e13, hf⟩ := lt_some hf
    rw [← e13] at hP hD
    refine lv_iinc (v := (v4 + 1)) (lv' := [(4, .int (v4 + 1)), (0, .ref h0), (1, .int v1), (2, .int v2)]) hx hb d_M_matched_98 hl (k := 3) rfl rfl (by decide) rfl (fun ls hl => ?_)
    refine lv_goto (tgt := 75) hx hb d_M_matched_101 (by decide) ?_
    exact hG.1 _ _ _ _ _ hf H locs hP hD hS ls (lv_sub hl [1, 2, 3, 0] rfl)
def fb_M_matched_55 (N : Nat) (S : SG_M_behind) (G : (MS → Int32 → Int32 → Int32 → Option (MS × Int32)) × (MS → Int32 → Int32 → Int32 → Option (MS × Int32))) (u : MS) (v2 : Int32) : Option (MS × Int32) := lt (upI u 67 0) (fun w14 => lt (upI w14 69 v2) (fun w15 => bnd (fm_M_wrong N w15 2) (fun u16 _ => some (u16, (-1)))))
set_option maxRecDepth 100000 in
set_option maxHeartbeats 4000000 in
theorem wb_M_matched_55 {p : Program} {l : Launch} {e : Env} {R : Room} {s : State} {m : MethodId} {args : Array Value} {below : List Frame} {meth : Method} {c : Code} {D : va_G} {cl : List vw_C} {cB cI cJ cZ cS : ClassId} {A : Nat → Prop} {iM h0 : Nat} {ad : Nat → Nat} (C0 : MCx p s m args meth c b_M_matched 7 (some .int) D cl cB cI cJ cZ cS iM A) {d : Nat} (hR : R = rg_M_behind (d + 1)) (N : Nat) (S : SG_M_behind) (hSg : HS_M_behind l D cl cB cI cJ cZ cS iM h0 ad (rg_M_behind d) S) (G : (MS → Int32 → Int32 → Int32 → Option (MS × Int32)) × (MS → Int32 → Int32 → Int32 → Option (MS × Int32))) (hG : (∀ (u : MS) (v1 : Int32) (v2 : Int32) (v4 : Int32) (x : MS × Int32), G.1 u v1 v2 v4 = some x → ∀ (H : Heap) (locs : List Loc), va_P D cl (wM cB cI cJ cZ cS iM h0 ad u) H → va_D A (wM cB cI cJ cZ cS iM h0 ad u) → va_S A s.heap H locs → ∀ (ls : Array Slot), lv_has ls 7 [(0, .ref h0), (1, .int v1), (2, .int v2), (4, .int v4)] → W p l e R s m args below meth c H locs 0 0 (MQ below (mQi D cl cB cI cJ cZ cS iM h0 ad A x) args s 0 0 A) (F0 m 75 ls [])) ∧ (∀ (u : MS) (v1 : Int32) (v2 : Int32) (v4 : Int32) (x : MS × Int32), G.2 u v1 v2 v4 = some x → ∀ (H : Heap) (locs : List Loc), va_P D cl (wM cB cI cJ cZ cS iM h0 ad u) H → va_D A (wM cB cI cJ cZ cS iM h0 ad u) → va_S A s.heap H locs → ∀ (ls : Array Slot), lv_has ls 7 [(0, .ref h0), (1, .int v1), (2, .int v2), (4, .int v4)] → W p l e R s m args below meth c H locs 0 0 (MQ below (mQi D cl cB cI cJ cZ cS iM h0 ad A x) args s 0 0 A) (F0 m 111 ls []))) : ∀ (u : MS) (v2 : Int32) (x : MS × Int32), fb_M_matched_55 N S G u v2 = some x → ∀ (H : Heap) (locs : List Loc), va_P D cl (wM cB cI cJ cZ cS iM h0 ad u) H → va_D A (wM cB cI cJ cZ cS iM h0 ad u) → va_S A s.heap H locs → ∀ (ls : Array Slot), lv_has ls 7 [(0, .ref h0), (2, .int v2)] → W p l e R s m args below meth c H locs 0 0 (MQ below (mQi D cl cB cI cJ cZ cS iM h0 ad A x) args s 0 0 A) (F0 m 55 ls []) := by
  intro u v2 x hf H locs hP hD hS ls hl
  obtain ⟨hx, hb, hr, hml, ht, hown, hM, hK, hA, hlocks⟩ := id C0
  unfold fb_M_matched_55 at hf
  refine lv_aload_n hx hb d_M_matched_55 rfl (lv_at hl 0 rfl) ?_
  refine lv_iconst (v := 0) hx hb d_M_matched_56 (by decide) ?_
  refine up_I hx hb ht hown hM hK hP hD hS 67 (by decide) lk_M_67 (by decide) rfl rfl rfl d_M_matched_57 (fun H locs hP hD hS => ?_)
  obtain ⟨w14, e14, hf⟩ := lt_some hf
  rw [← e14] at hP hD
  refine lv_aload_n hx hb d_M_matched_60 rfl (lv_at hl 0 rfl) ?_
  refine lv_iload_n hx hb d_M_matched_61 rfl (lv_at hl 1 rfl) ?_
  refine up_I hx hb ht hown hM hK hP hD hS 69 (by decide) lk_M_69 (by decide) rfl rfl rfl d_M_matched_62 (fun H locs hP hD hS => ?_)
  obtain ⟨w15, e15, hf⟩ := lt_some hf
  rw [← e15] at hP hD
  refine lv_aload_n hx hb d_M_matched_65 rfl (lv_at hl 0 rfl) ?_
  refine lv_iconst (v := 2) hx hb d_M_matched_66 (by decide) ?_
  obtain ⟨u16, r16, hc16, hf⟩ := bnd_some hf
  refine mV_v (As := [.int 2]) (rest := []) C0 hP hD hS (c_M_wrong N hM hc16) k_M_wrong hl_M_wrong hi_M_wrong hs_M_wrong hini_M rfl rfl hd_M_wrong rfl (rm_M_matched_M_wrong hR) hl.1 (Nat.le_of_ble_eq_true rfl) d_M_matched_67 rfl ⟨Nat.zero_le _, Nat.zero_le _⟩ (fun H locs hP hD hS => ?_)
  refine lv_iconst (v := (-1)) hx hb d_M_matched_70 (by decide) ?_
  exact mr_i C0 hP hD hS hf d_M_matched_71
def fb_M_matched_0 (N : Nat) (S : SG_M_behind) (G : (MS → Int32 → Int32 → Int32 → Option (MS × Int32)) × (MS → Int32 → Int32 → Int32 → Option (MS × Int32))) (u : MS) (v1 : Int32) : Option (MS × Int32) := bnd (fm_M_takeBack N u) (fun u17 _ => lt (upI u17 69 v1) (fun w18 => lt (upI w18 70 ((w18.1 70) - 1)) (fun w19 => bnd (fr_M_patternAt N w19 0) (fun u20 r20 => lt (upI u20 70 ((u20.1 70) + 1)) (fun w21 => br (decide ((w21.1 67) = 0)) (br (decide ((w21.1 69) = (u.1 69))) (G.1 w21 (v1) ((u.1 69)) (0)) (fb_M_matched_55 N S G w21 ((u.1 69)))) (fb_M_matched_55 N S G w21 ((u.1 69))))))))
set_option maxRecDepth 100000 in
set_option maxHeartbeats 4000000 in
theorem wb_M_matched_0 {p : Program} {l : Launch} {e : Env} {R : Room} {s : State} {m : MethodId} {args : Array Value} {below : List Frame} {meth : Method} {c : Code} {D : va_G} {cl : List vw_C} {cB cI cJ cZ cS : ClassId} {A : Nat → Prop} {iM h0 : Nat} {ad : Nat → Nat} (C0 : MCx p s m args meth c b_M_matched 7 (some .int) D cl cB cI cJ cZ cS iM A) {d : Nat} (hR : R = rg_M_behind (d + 1)) (N : Nat) (S : SG_M_behind) (hSg : HS_M_behind l D cl cB cI cJ cZ cS iM h0 ad (rg_M_behind d) S) (G : (MS → Int32 → Int32 → Int32 → Option (MS × Int32)) × (MS → Int32 → Int32 → Int32 → Option (MS × Int32))) (hG : (∀ (u : MS) (v1 : Int32) (v2 : Int32) (v4 : Int32) (x : MS × Int32), G.1 u v1 v2 v4 = some x → ∀ (H : Heap) (locs : List Loc), va_P D cl (wM cB cI cJ cZ cS iM h0 ad u) H → va_D A (wM cB cI cJ cZ cS iM h0 ad u) → va_S A s.heap H locs → ∀ (ls : Array Slot), lv_has ls 7 [(0, .ref h0), (1, .int v1), (2, .int v2), (4, .int v4)] → W p l e R s m args below meth c H locs 0 0 (MQ below (mQi D cl cB cI cJ cZ cS iM h0 ad A x) args s 0 0 A) (F0 m 75 ls [])) ∧ (∀ (u : MS) (v1 : Int32) (v2 : Int32) (v4 : Int32) (x : MS × Int32), G.2 u v1 v2 v4 = some x → ∀ (H : Heap) (locs : List Loc), va_P D cl (wM cB cI cJ cZ cS iM h0 ad u) H → va_D A (wM cB cI cJ cZ cS iM h0 ad u) → va_S A s.heap H locs → ∀ (ls : Array Slot), lv_has ls 7 [(0, .ref h0), (1, .int v1), (2, .int v2), (4, .int v4)] → W p l e R s m args below meth c H locs 0 0 (MQ below (mQi D cl cB cI cJ cZ cS iM h0 ad A x) args s 0 0 A) (F0 m 111 ls []))) : ∀ (u : MS) (v1 : Int32) (x : MS × Int32), fb_M_matched_0 N S G u v1 = some x → ∀ (H : Heap) (locs : List Loc), va_P D cl (wM cB cI cJ cZ cS iM h0 ad u) H → va_D A (wM cB cI cJ cZ cS iM h0 ad u) → va_S A s.heap H locs → ∀ (ls : Array Slot), lv_has ls 7 [(0, .ref h0), (1, .int v1)] → W p l e R s m args below meth c H locs 0 0 (MQ below (mQi D cl cB cI cJ cZ cS iM h0 ad A x) args s 0 0 A) (F0 m 0 ls []) := by
  intro u v1 x hf H locs hP hD hS ls hl
  obtain ⟨hx, hb, hr, hml, ht, hown, hM, hK, hA, hlocks⟩ := id C0
  unfold fb_M_matched_0 at hf
  refine lv_aload_n hx hb d_M_matched_0 rfl (lv_at hl 0 rfl) ?_
  refine ug_I hx hb ht hown hM hK hP 69 (by decide) lk_M_69 (by decide) d_M_matched_1 ?_
  refine lv_istore_n (lv' := [(2, .int (u.1 69)), (0, .ref h0), (1, .int v1)]) hx hb d_M_matched_4 rfl hl (by decide) rfl (fun ls hl => ?_)
  refine lv_aload_n hx hb d_M_matched_5 rfl (lv_at hl 1 rfl) ?_
  obtain ⟨u17, r17, hc17, hf⟩ := bnd_some hf
  refine mV_v (As := []) (rest := []) C0 hP hD hS (c_M_takeBack N hM hc17) k_M_takeBack hl_M_takeBack hi_M_takeBack hs_M_takeBack hini_M rfl rfl hd_M_takeBack rfl (rm_M_matched_M_takeBack hR) hl.1 (Nat.le_of_ble_eq_true rfl) d_M_matched_6 rfl ⟨Nat.zero_le _, Nat.zero_le _⟩ (fun H locs hP hD hS => ?_)
  refine lv_aload_n hx hb d_M_matched_9 rfl (lv_at hl 1 rfl) ?_
  refine lv_iload_n hx hb d_M_matched_10 rfl (lv_at hl 2 rfl) ?_
  refine up_I hx hb ht hown hM hK hP hD hS 69 (by decide) lk_M_69 (by decide) rfl rfl rfl d_M_matched_11 (fun H locs hP hD hS => ?_)
  obtain ⟨w18, e18, hf⟩ := lt_some hf
  rw [← e18] at hP hD
  refine lv_aload_n hx hb d_M_matched_14 rfl (lv_at hl 1 rfl) ?_
  refine lv_dup hx hb d_M_matched_15 rfl ?_
  refine ug_I hx hb ht hown hM hK hP 70 (by decide) lk_M_70 (by decide) d_M_matched_16 ?_
  refine lv_iconst (v := 1) hx hb d_M_matched_19 (by decide) ?_
  refine lv_isub hx hb d_M_matched_20 ?_
  refine up_I hx hb ht hown hM hK hP hD hS 70 (by decide) lk_M_70 (by decide) rfl rfl rfl d_M_matched_21 (fun H locs hP hD hS => ?_)
  obtain ⟨w19, e19, hf⟩ := lt_some hf
  rw [← e19] at hP hD
  refine lv_aload_n hx hb d_M_matched_24 rfl (lv_at hl 1 rfl) ?_
  refine lv_iconst (v := 0) hx hb d_M_matched_25 (by decide) ?_
  obtain ⟨u20, r20, hc20, hf⟩ := bnd_some hf
  refine mV_i (As := [.int 0]) (rest := []) C0 hP hD hS (c_M_patternAt N hM hc20) k_M_patternAt hl_M_patternAt hi_M_patternAt hs_M_patternAt hini_M rfl rfl hd_M_patternAt rfl (rm_M_matched_M_patternAt hR) hl.1 (Nat.le_of_ble_eq_true rfl) d_M_matched_26 rfl ⟨Nat.zero_le _, Nat.zero_le _⟩ (fun H locs hP hD hS => ?_)
  refine lv_istore_n (lv' := [(3, .int r20), (2, .int (u.1 69)), (0, .ref h0), (1, .int v1)]) hx hb d_M_matched_29 rfl hl (by decide) rfl (fun ls hl => ?_)
  refine lv_aload_n hx hb d_M_matched_30 rfl (lv_at hl 2 rfl) ?_
  refine lv_dup hx hb d_M_matched_31 rfl ?_
  refine ug_I hx hb ht hown hM hK hP 70 (by decide) lk_M_70 (by decide) d_M_matched_32 ?_
  refine lv_iconst (v := 1) hx hb d_M_matched_35 (by decide) ?_
  refine lv_iadd hx hb d_M_matched_36 ?_
  refine up_I hx hb ht hown hM hK hP hD hS 70 (by decide) lk_M_70 (by decide) rfl rfl rfl d_M_matched_37 (fun H locs hP hD hS => ?_)
  obtain ⟨w21, e21, hf⟩ := lt_some hf
  rw [← e21] at hP hD
  refine lv_aload_n hx hb d_M_matched_40 rfl (lv_at hl 2 rfl) ?_
  refine ug_I hx hb ht hown hM hK hP 67 (by decide) lk_M_67 (by decide) d_M_matched_41 ?_
  refine lv_if_ne (tgt := 55) hx hb d_M_matched_44 (by decide) (fun hc => ?_) (fun hc => ?_)
  · rw [br_n _ hc] at hf
    exact wb_M_matched_55 C0 hR N S hSg G hG _ _ _ hf H locs hP hD hS ls (lv_sub hl [2, 1] rfl)
  · rw [br_p _ hc] at hf
    refine lv_aload_n hx hb d_M_matched_47 rfl (lv_at hl 2 rfl) ?_
    refine ug_I hx hb ht hown hM hK hP 69 (by decide) lk_M_69 (by decide) d_M_matched_48 ?_
    refine lv_iload_n hx hb d_M_matched_51 rfl (lv_at hl 1 rfl) ?_
    refine lv_icmp_eq (tgt := 72) hx hb d_M_matched_52 (by decide) (fun hc => ?_) (fun hc => ?_)
    · rw [br_p _ hc] at hf
      refine lv_iconst (v := 0) hx hb d_M_matched_72 (by decide) ?_
      refine lv_istore (lv' := [(4, .int 0), (3, .int r20), (2, .int (u.1 69)), (0, .ref h0), (1, .int v1)]) hx hb d_M_matched_73 hl (by decide) rfl (fun ls hl => ?_)
      exact hG.1 _ _ _ _ _ hf H locs hP hD hS ls (lv_sub hl [3, 4, 2, 0] rfl)
    · rw [br_n _ hc] at hf
      exact wb_M_matched_55 C0 hR N S hSg G hG _ _ _ hf H locs hP hD hS ls (lv_sub hl [2, 1] rfl)
def gg_M_matched (N : Nat) (S : SG_M_behind) : Nat → ((MS → Int32 → Int32 → Int32 → Option (MS × Int32)) × (MS → Int32 → Int32 → Int32 → Option (MS × Int32)))
  | 0 => (fun _ _ _ _ => none, fun _ _ _ _ => none)
  | n + 1 => (fb_M_matched_75 N S (gg_M_matched N S n), fb_M_matched_111 N S (gg_M_matched N S n))
theorem wg_M_matched {p : Program} {l : Launch} {e : Env} {R : Room} {s : State} {m : MethodId} {args : Array Value} {below : List Frame} {meth : Method} {c : Code} {D : va_G} {cl : List vw_C} {cB cI cJ cZ cS : ClassId} {A : Nat → Prop} {iM h0 : Nat} {ad : Nat → Nat} (C0 : MCx p s m args meth c b_M_matched 7 (some .int) D cl cB cI cJ cZ cS iM A) {d : Nat} (hR : R = rg_M_behind (d + 1)) (N : Nat) (S : SG_M_behind) (hSg : HS_M_behind l D cl cB cI cJ cZ cS iM h0 ad (rg_M_behind d) S) : ∀ n : Nat, (∀ (u : MS) (v1 : Int32) (v2 : Int32) (v4 : Int32) (x : MS × Int32), (gg_M_matched N S n).1 u v1 v2 v4 = some x → ∀ (H : Heap) (locs : List Loc), va_P D cl (wM cB cI cJ cZ cS iM h0 ad u) H → va_D A (wM cB cI cJ cZ cS iM h0 ad u) → va_S A s.heap H locs → ∀ (ls : Array Slot), lv_has ls 7 [(0, .ref h0), (1, .int v1), (2, .int v2), (4, .int v4)] → W p l e R s m args below meth c H locs 0 0 (MQ below (mQi D cl cB cI cJ cZ cS iM h0 ad A x) args s 0 0 A) (F0 m 75 ls [])) ∧ (∀ (u : MS) (v1 : Int32) (v2 : Int32) (v4 : Int32) (x : MS × Int32), (gg_M_matched N S n).2 u v1 v2 v4 = some x → ∀ (H : Heap) (locs : List Loc), va_P D cl (wM cB cI cJ cZ cS iM h0 ad u) H → va_D A (wM cB cI cJ cZ cS iM h0 ad u) → va_S A s.heap H locs → ∀ (ls : Array Slot), lv_has ls 7 [(0, .ref h0), (1, .int v1), (2, .int v2), (4, .int v4)] → W p l e R s m args below meth c H locs 0 0 (MQ below (mQi D cl cB cI cJ cZ cS iM h0 ad A x) args s 0 0 A) (F0 m 111 ls []))
  | 0 => ⟨(fun u v1 v2 v4 x hf => by cases hf), (fun u v1 v2 v4 x hf => by cases hf)⟩
  | n + 1 => ⟨wb_M_matched_75 C0 hR N S hSg (gg_M_matched N S n) (wg_M_matched C0 hR N S hSg n), wb_M_matched_111 C0 hR N S hSg (gg_M_matched N S n) (wg_M_matched C0 hR N S hSg n)⟩
def fm_M_matched (N : Nat) (S : SG_M_behind) (u : MS) (v1 : Int32) : Option (MS × Int32) := fb_M_matched_0 N S (gg_M_matched N S N) u v1
set_option maxRecDepth 100000 in
set_option maxHeartbeats 4000000 in
theorem cs_M_matched (N : Nat) {d : Nat} {l : Launch} {D : va_G} {cl : List vw_C} {cB cI cJ cZ cS : ClassId} {iM h0 : Nat} {ad : Nat → Nat} {u : MS} {sz : Nat} {v1 : Int32} {x : MS × Int32} (hM : cl[iM]? = some (R_M, F_M, 171)) (S : SG_M_behind) (hSg : HS_M_behind l D cl cB cI cJ cZ cS iM h0 ad (rg_M_behind d) S) (hf : fm_M_matched N S u v1 = some x) : Met l y_M_matched (wd_ws y_M_matched b_M_matched 7 (some .int)) (rg_M_behind (d + 1)) (mPc D cl cB cI cJ cZ cS iM h0 ad u sz [.ref h0, .int v1]) (mQi D cl cB cI cJ cZ cS iM h0 ad (mA cB cI cJ cZ cS iM h0 ad u sz) x) 0 0 (mA cB cI cJ cZ cS iM h0 ad u sz) :=
  mMet (by decide) rfl hM (Nat.le_of_ble_eq_true rfl) (fun p e s m below meth c ls hsz C0 hP hD hS hl => by
    have hR : (rg_M_behind (d + 1)) = (rg_M_behind (d + 1)) := rfl
    exact wb_M_matched_0 C0 hR N S hSg (gg_M_matched N S N) (wg_M_matched C0 hR N S hSg N) u _ x hf s.heap [] hP hD hS ls (lv_sub hl [0, 1] rfl))
theorem rm_M_parts0_M_patternAt {R : Room} {d : Nat} (hR : R = rg_M_behind (d + 1)) : (rm_M_patternAt).frames + 1 ≤ R.frames ∧ 8 + (5 + 11) + (rm_M_patternAt).locals ≤ R.locals := by
  subst hR
  have h1 : (rm_M_patternAt).frames = 93 := rfl
  have h2 : (rm_M_patternAt).locals = 2470 := rfl
  show (rm_M_patternAt).frames + 1 ≤ 94 + (d + 1) ∧ 8 + (5 + 11) + (rm_M_patternAt).locals ≤ 2494 + 29 * (d + 1)
  omega
theorem rm_M_parts0_M_needSign {R : Room} {d : Nat} (hR : R = rg_M_behind (d + 1)) : (rm_M_needSign).frames + 1 ≤ R.frames ∧ 8 + (2 + 11) + (rm_M_needSign).locals ≤ R.locals := by
  subst hR
  have h1 : (rm_M_needSign).frames = 2 := rfl
  have h2 : (rm_M_needSign).locals = 42 := rfl
  show (rm_M_needSign).frames + 1 ≤ 94 + (d + 1) ∧ 8 + (2 + 11) + (rm_M_needSign).locals ≤ 2494 + 29 * (d + 1)
  omega
theorem rm_M_parts0_M_addRoot {R : Room} {d : Nat} (hR : R = rg_M_behind (d + 1)) : (rm_M_addRoot).frames + 1 ≤ R.frames ∧ 8 + (3 + 11) + (rm_M_addRoot).locals ≤ R.locals := by
  subst hR
  have h1 : (rm_M_addRoot).frames = 0 := rfl
  have h2 : (rm_M_addRoot).locals = 0 := rfl
  show (rm_M_addRoot).frames + 1 ≤ 94 + (d + 1) ∧ 8 + (3 + 11) + (rm_M_addRoot).locals ≤ 2494 + 29 * (d + 1)
  omega
theorem rm_M_parts0_M_unbind {R : Room} {d : Nat} (hR : R = rg_M_behind (d + 1)) : (rm_M_unbind).frames + 1 ≤ R.frames ∧ 8 + (3 + 11) + (rm_M_unbind).locals ≤ R.locals := by
  subst hR
  have h1 : (rm_M_unbind).frames = 1 := rfl
  have h2 : (rm_M_unbind).locals = 22 := rfl
  show (rm_M_unbind).frames + 1 ≤ 94 + (d + 1) ∧ 8 + (3 + 11) + (rm_M_unbind).locals ≤ 2494 + 29 * (d + 1)
  omega
theorem rm_M_parts0_M_node {R : Room} {d : Nat} (hR : R = rg_M_behind (d + 1)) : (rm_M_node).frames + 1 ≤ R.frames ∧ 8 + (3 + 11) + (rm_M_node).locals ≤ R.locals := by
  subst hR
  have h1 : (rm_M_node).frames = 0 := rfl
  have h2 : (rm_M_node).locals = 0 := rfl
  show (rm_M_node).frames + 1 ≤ 94 + (d + 1) ∧ 8 + (3 + 11) + (rm_M_node).locals ≤ 2494 + 29 * (d + 1)
  omega
theorem rm_M_parts0_M_takeSign {R : Room} {d : Nat} (hR : R = rg_M_behind (d + 1)) : (rm_M_takeSign).frames + 1 ≤ R.frames ∧ 8 + (2 + 11) + (rm_M_takeSign).locals ≤ R.locals := by
  subst hR
  have h1 : (rm_M_takeSign).frames = 1 := rfl
  have h2 : (rm_M_takeSign).locals = 21 := rfl
  show (rm_M_takeSign).frames + 1 ≤ 94 + (d + 1) ∧ 8 + (2 + 11) + (rm_M_takeSign).locals ≤ 2494 + 29 * (d + 1)
  omega
theorem rm_M_parts0_M_guardCode {R : Room} {d : Nat} (hR : R = rg_M_behind (d + 1)) : (rg_M_behind d).frames + 1 ≤ R.frames ∧ 8 + (7 + 11) + (rg_M_behind d).locals ≤ R.locals := by
  subst hR
  show 94 + d + 1 ≤ 94 + (d + 1) ∧ 8 + (7 + 11) + (2494 + 29 * d) ≤ 2494 + 29 * (d + 1)
  omega
theorem rm_M_parts0_M_guard {R : Room} {d : Nat} (hR : R = rg_M_behind (d + 1)) : (rg_M_behind d).frames + 1 ≤ R.frames ∧ 8 + (1 + 11) + (rg_M_behind d).locals ≤ R.locals := by
  subst hR
  show 94 + d + 1 ≤ 94 + (d + 1) ∧ 8 + (1 + 11) + (2494 + 29 * d) ≤ 2494 + 29 * (d + 1)
  omega
theorem rm_M_parts0_M_body {R : Room} {d : Nat} (hR : R = rg_M_behind (d + 1)) : (rg_M_behind d).frames + 1 ≤ R.frames ∧ 8 + (3 + 11) + (rg_M_behind d).locals ≤ R.locals := by
  subst hR
  show 94 + d + 1 ≤ 94 + (d + 1) ∧ 8 + (3 + 11) + (2494 + 29 * d) ≤ 2494 + 29 * (d + 1)
  omega
def fb_M_parts0_214 (N : Nat) (S : SG_M_behind) (G : (MS → Int32 → Int32 → Int32 → Int32 → Int32 → Option (MS × Int32))) (u : MS) (v1 : Int32) (v2 : Int32) (v3 : Int32) (v6 : Int32) : Option (MS × Int32) := bnd (fm_M_takeSign N u 7) (fun u1 r1 => G u1 (v1) (v2) (v3) (v6) (r1))
set_option maxRecDepth 100000 in
set_option maxHeartbeats 4000000 in
theorem wb_M_parts0_214 {p : Program} {l : Launch} {e : Env} {R : Room} {s : State} {m : MethodId} {args : Array Value} {below : List Frame} {meth : Method} {c : Code} {D : va_G} {cl : List vw_C} {cB cI cJ cZ cS : ClassId} {A : Nat → Prop} {iM h0 : Nat} {ad : Nat → Nat} (C0 : MCx p s m args meth c b_M_parts0 10 (some .int) D cl cB cI cJ cZ cS iM A) {d : Nat} (hR : R = rg_M_behind (d + 1)) (N : Nat) (S : SG_M_behind) (hSg : HS_M_behind l D cl cB cI cJ cZ cS iM h0 ad (rg_M_behind d) S) (G : (MS → Int32 → Int32 → Int32 → Int32 → Int32 → Option (MS × Int32))) (hG : (∀ (u : MS) (v1 : Int32) (v2 : Int32) (v3 : Int32) (v4 : Int32) (v5 : Int32) (x : MS × Int32), G u v1 v2 v3 v4 v5 = some x → ∀ (H : Heap) (locs : List Loc), va_P D cl (wM cB cI cJ cZ cS iM h0 ad u) H → va_D A (wM cB cI cJ cZ cS iM h0 ad u) → va_S A s.heap H locs → ∀ (ls : Array Slot), lv_has ls 10 [(0, .ref h0), (1, .int v1), (2, .int v2), (3, .int v3), (4, .int v4), (5, .int v5)] → W p l e R s m args below meth c H locs 0 0 (MQ below (mQi D cl cB cI cJ cZ cS iM h0 ad A x) args s 0 0 A) (F0 m 19 ls []))) : ∀ (u : MS) (v1 : Int32) (v2 : Int32) (v3 : Int32) (v6 : Int32) (x : MS × Int32), fb_M_parts0_214 N S G u v1 v2 v3 v6 = some x → ∀ (H : Heap) (locs : List Loc), va_P D cl (wM cB cI cJ cZ cS iM h0 ad u) H → va_D A (wM cB cI cJ cZ cS iM h0 ad u) → va_S A s.heap H locs → ∀ (ls : Array Slot), lv_has ls 10 [(0, .ref h0), (1, .int v1), (2, .int v2), (3, .int v3), (6, .int v6)] → W p l e R s m args below meth c H locs 0 0 (MQ below (mQi D cl cB cI cJ cZ cS iM h0 ad A x) args s 0 0 A) (F0 m 214 ls []) := by
  intro u v1 v2 v3 v6 x hf H locs hP hD hS ls hl
  obtain ⟨hx, hb, hr, hml, ht, hown, hM, hK, hA, hlocks⟩ := id C0
  unfold fb_M_parts0_214 at hf
  refine lv_iload hx hb d_M_parts0_214 (lv_at hl 4 rfl) ?_
  refine lv_istore (lv' := [(4, .int v6), (0, .ref h0), (1, .int v1), (2, .int v2), (3, .int v3), (6, .int v6)]) hx hb d_M_parts0_216 hl (by decide) rfl (fun ls hl => ?_)
  refine lv_aload_n hx hb d_M_parts0_218 rfl (lv_at hl 1 rfl) ?_
  refine lv_bipush (v := 7) hx hb d_M_parts0_219 (by decide) ?_
  obtain ⟨u1, r1, hc1, hf⟩ := bnd_some hf
  refine mV_i (As := [.int 7]) (rest := []) C0 hP hD hS (c_M_takeSign N hM hc1) k_M_takeSign hl_M_takeSign hi_M_takeSign hs_M_takeSign hini_M rfl rfl hd_M_takeSign rfl (rm_M_parts0_M_takeSign hR) hl.1 (Nat.le_of_ble_eq_true rfl) d_M_parts0_221 rfl ⟨Nat.zero_le _, Nat.zero_le _⟩ (fun H locs hP hD hS => ?_)
  refine lv_istore (lv' := [(5, .int r1), (4, .int v6), (0, .ref h0), (1, .int v1), (2, .int v2), (3, .int v3), (6, .int v6)]) hx hb d_M_parts0_224 hl (by decide) rfl (fun ls hl => ?_)
  refine lv_goto (tgt := 19) hx hb d_M_parts0_226 (by decide) ?_
  exact hG _ _ _ _ _ _ _ hf H locs hP hD hS ls (lv_sub hl [2, 3, 4, 5, 1, 0] rfl)
def fb_M_parts0_127 (N : Nat) (S : SG_M_behind) (G : (MS → Int32 → Int32 → Int32 → Int32 → Int32 → Option (MS × Int32))) (u : MS) (v1 : Int32) (v2 : Int32) (v3 : Int32) (v4 : Int32) (v6 : Int32) (v7 : Int32) (t0 : Nat) (t1 : Int32) (t2 : Int32) : Option (MS × Int32) := ck (isK t0 4) (ck (inb t1 (ln t0)) (lt (upA u t0 (upd (u.2.2.1 t0) t1.toNatClampNeg t2)) (fun w2 => bnd (fm_M_needSign N w2 10) (fun u3 _ => ck (inb v6 (ln 43)) (lt (upA u3 43 (upd (u3.2.2.1 43) v6.toNatClampNeg (u3.1 32))) (fun w4 => bnd (S.2.2.2.2.1 w4) (fun u5 r5 => bnd (fm_M_addRoot N u5 v2 r5) (fun u6 _ => bnd (fm_M_unbind N u6 v7) (fun u7 _ => bnd (fm_M_node N u7 26 (u7.1 69)) (fun u8 r8 => ck (inb r8 (ln 25)) (lt (upA u8 25 (upd (u8.2.2.1 25) r8.toNatClampNeg (-2))) (fun w9 => ck (inb r8 (ln 26)) (lt (upA w9 26 (upd (w9.2.2.1 26) r8.toNatClampNeg v2)) (fun w10 => br (decide (v4 = (-1))) (fb_M_parts0_214 N S G w10 (v1) (v2) (v6) (v6)) (ck (inb v4 (ln 45)) (lt (upA w10 45 (upd (w10.2.2.1 45) v4.toNatClampNeg v6)) (fun w11 => fb_M_parts0_214 N S G w11 (v1) (v2) (v3) (v6))))))))))))))))))
set_option maxRecDepth 100000 in
set_option maxHeartbeats 4000000 in
theorem wb_M_parts0_127 {p : Program} {l : Launch} {e : Env} {R : Room} {s : State} {m : MethodId} {args : Array Value} {below : List Frame} {meth : Method} {c : Code} {D : va_G} {cl : List vw_C} {cB cI cJ cZ cS : ClassId} {A : Nat → Prop} {iM h0 : Nat} {ad : Nat → Nat} (C0 : MCx p s m args meth c b_M_parts0 10 (some .int) D cl cB cI cJ cZ cS iM A) {d : Nat} (hR : R = rg_M_behind (d + 1)) (N : Nat) (S : SG_M_behind) (hSg : HS_M_behind l D cl cB cI cJ cZ cS iM h0 ad (rg_M_behind d) S) (G : (MS → Int32 → Int32 → Int32 → Int32 → Int32 → Option (MS × Int32))) (hG : (∀ (u : MS) (v1 : Int32) (v2 : Int32) (v3 : Int32) (v4 : Int32) (v5 : Int32) (x : MS × Int32), G u v1 v2 v3 v4 v5 = some x → ∀ (H : Heap) (locs : List Loc), va_P D cl (wM cB cI cJ cZ cS iM h0 ad u) H → va_D A (wM cB cI cJ cZ cS iM h0 ad u) → va_S A s.heap H locs → ∀ (ls : Array Slot), lv_has ls 10 [(0, .ref h0), (1, .int v1), (2, .int v2), (3, .int v3), (4, .int v4), (5, .int v5)] → W p l e R s m args below meth c H locs 0 0 (MQ below (mQi D cl cB cI cJ cZ cS iM h0 ad A x) args s 0 0 A) (F0 m 19 ls []))) : ∀ (u : MS) (v1 : Int32) (v2 : Int32) (v3 : Int32) (v4 : Int32) (v6 : Int32) (v7 : Int32) (t0 : Nat) (t1 : Int32) (t2 : Int32) (x : MS × Int32), fb_M_parts0_127 N S G u v1 v2 v3 v4 v6 v7 t0 t1 t2 = some x → ∀ (H : Heap) (locs : List Loc), va_P D cl (wM cB cI cJ cZ cS iM h0 ad u) H → va_D A (wM cB cI cJ cZ cS iM h0 ad u) → va_S A s.heap H locs → ∀ (ls : Array Slot), lv_has ls 10 [(0, .ref h0), (1, .int v1), (2, .int v2), (3, .int v3), (4, .int v4), (6, .int v6), (7, .int v7)] → W p l e R s m args below meth c H locs 0 0 (MQ below (mQi D cl cB cI cJ cZ cS iM h0 ad A x) args s 0 0 A) (F0 m 127 ls [.int t2, .int t1, .ref (ad t0)]) := by
  intro u v1 v2 v3 v4 v6 v7 t0 t1 t2 x hf H locs hP hD hS ls hl
  obtain ⟨hx, hb, hr, hml, ht, hown, hM, hK, hA, hlocks⟩ := id C0
  unfold fb_M_parts0_127 at hf
  obtain ⟨hk9, hf⟩ := ck_some hf
  obtain ⟨hi9, hf⟩ := ck_some hf
  refine us_I hx hb hK hP hD hS (isK_1 hk9) (isK_2 hk9) hi9 d_M_parts0_127 (fun H locs hP hD hS => ?_)
  obtain ⟨w2, e2, hf⟩ := lt_some hf
  rw [← e2] at hP hD
  refine lv_aload_n hx hb d_M_parts0_128 rfl (lv_at hl 0 rfl) ?_
  refine lv_bipush (v := 10) hx hb d_M_parts0_129 (by decide) ?_
  obtain ⟨u3, r3, hc3, hf⟩ := bnd_some hf
  refine mV_v (As := [.int 10]) (rest := []) C0 hP hD hS (c_M_needSign N hM hc3) k_M_needSign hl_M_needSign hi_M_needSign hs_M_needSign hini_M rfl rfl hd_M_needSign rfl (rm_M_parts0_M_needSign hR) hl.1 (Nat.le_of_ble_eq_true rfl) d_M_parts0_131 rfl ⟨Nat.zero_le _, Nat.zero_le _⟩ (fun H locs hP hD hS => ?_)
  refine lv_aload_n hx hb d_M_parts0_134 rfl (lv_at hl 0 rfl) ?_
  refine ug_R hx hb ht hown hM hK hP 43 (by decide) lk_M_43 (by decide) d_M_parts0_135 ?_
  refine lv_iload hx hb d_M_parts0_138 (lv_at hl 5 rfl) ?_
  refine lv_aload_n hx hb d_M_parts0_140 rfl (lv_at hl 0 rfl) ?_
  refine ug_I hx hb ht hown hM hK hP 32 (by decide) lk_M_32 (by decide) d_M_parts0_141 ?_
  obtain ⟨hi9, hf⟩ := ck_some hf
  refine us_I hx hb hK hP hD hS (by decide) (by decide) hi9 d_M_parts0_144 (fun H locs hP hD hS => ?_)
  obtain ⟨w4, e4, hf⟩ := lt_some hf
  rw [← e4] at hP hD
  refine lv_aload_n hx hb d_M_parts0_145 rfl (lv_at hl 0 rfl) ?_
  obtain ⟨u5, r5, hc5, hf⟩ := bnd_some hf
  refine mV_i (As := []) (rest := []) C0 hP hD hS (hSg.2.2.2.2.1 _ _ _ hc5) k_M_body hl_M_body hi_M_body hs_M_body hini_M rfl rfl hd_M_body rfl (rm_M_parts0_M_body hR) hl.1 (Nat.le_of_ble_eq_true rfl) d_M_parts0_146 rfl ⟨Nat.zero_le _, Nat.zero_le _⟩ (fun H locs hP hD hS => ?_)
  refine lv_istore (lv' := [(8, .int r5), (0, .ref h0), (1, .int v1), (2, .int v2), (3, .int v3), (4, .int v4), (6, .int v6), (7, .int v7)]) hx hb d_M_parts0_149 hl (by decide) rfl (fun ls hl => ?_)
  refine lv_aload_n hx hb d_M_parts0_151 rfl (lv_at hl 1 rfl) ?_
  refine lv_iload_n hx hb d_M_parts0_152 rfl (lv_at hl 3 rfl) ?_
  refine lv_iload hx hb d_M_parts0_153 (lv_at hl 0 rfl) ?_
  obtain ⟨u6, r6, hc6, hf⟩ := bnd_some hf
  refine mV_v (As := [.int v2, .int r5]) (rest := []) C0 hP hD hS (c_M_addRoot N hM hc6) k_M_addRoot hl_M_addRoot hi_M_addRoot hs_M_addRoot hini_M rfl rfl hd_M_addRoot rfl (rm_M_parts0_M_addRoot hR) hl.1 (Nat.le_of_ble_eq_true rfl) d_M_parts0_155 rfl ⟨Nat.zero_le _, Nat.zero_le _⟩ (fun H locs hP hD hS => ?_)
  refine lv_aload_n hx hb d_M_parts0_158 rfl (lv_at hl 1 rfl) ?_
  refine lv_iload hx hb d_M_parts0_159 (lv_at hl 7 rfl) ?_
  obtain ⟨u7, r7, hc7, hf⟩ := bnd_some hf
  refine mV_v (As := [.int v7]) (rest := []) C0 hP hD hS (c_M_unbind N hM hc7) k_M_unbind hl_M_unbind hi_M_unbind hs_M_unbind hini_M rfl rfl hd_M_unbind rfl (rm_M_parts0_M_unbind hR) hl.1 (Nat.le_of_ble_eq_true rfl) d_M_parts0_161 rfl ⟨Nat.zero_le _, Nat.zero_le _⟩ (fun H locs hP hD hS => ?_)
  refine lv_aload_n hx hb d_M_parts0_164 rfl (lv_at hl 1 rfl) ?_
  refine lv_bipush (v := 26) hx hb d_M_parts0_165 (by decide) ?_
  refine lv_aload_n hx hb d_M_parts0_167 rfl (lv_at hl 1 rfl) ?_
  refine ug_I hx hb ht hown hM hK hP 69 (by decide) lk_M_69 (by decide) d_M_parts0_168 ?_
  obtain ⟨u8, r8, hc8, hf⟩ := bnd_some hf
  refine mV_i (As := [.int 26, .int (u7.1 69)]) (rest := []) C0 hP hD hS (c_M_node N hM hc8) k_M_node hl_M_node hi_M_node hs_M_node hini_M rfl rfl hd_M_node rfl (rm_M_parts0_M_node hR) hl.1 (Nat.le_of_ble_eq_true rfl) d_M_parts0_171 rfl ⟨Nat.zero_le _, Nat.zero_le _⟩ (fun H locs hP hD hS => ?_)
  refine lv_istore (lv' := [(9, .int r8), (8, .int r5), (0, .ref h0), (1, .int v1), (2, .int v2), (3, .int v3), (4, .int v4), (6, .int v6), (7, .int v7)]) hx hb d_M_parts0_174 hl (by decide) rfl (fun ls hl => ?_)
  refine lv_aload_n hx hb d_M_parts0_176 rfl (lv_at hl 2 rfl) ?_
  refine ug_R hx hb ht hown hM hK hP 25 (by decide) lk_M_25 (by decide) d_M_parts0_177 ?_
  refine lv_iload hx hb d_M_parts0_180 (lv_at hl 0 rfl) ?_
  refine lv_bipush (v := (-2)) hx hb d_M_parts0_182 (by decide) ?_
  obtain ⟨hi9, hf⟩ := ck_some hf
  refine us_I hx hb hK hP hD hS (by decide) (by decide) hi9 d_M_parts0_184 (fun H locs hP hD hS => ?_)
  obtain ⟨w9, e9, hf⟩ := lt_some hf
  rw [← e9] at hP hD
  refine lv_aload_n hx hb d_M_parts0_185 rfl (lv_at hl 2 rfl) ?_
  refine ug_R hx hb ht hown hM hK hP 26 (by decide) lk_M_26 (by decide) d_M_parts0_186 ?_
  refine lv_iload hx hb d_M_parts0_189 (lv_at hl 0 rfl) ?_
  refine lv_iload_n hx hb d_M_parts0_191 rfl (lv_at hl 4 rfl) ?_
  obtain ⟨hi9, hf⟩ := ck_some hf
  refine us_I hx hb hK hP hD hS (by decide) (by decide) hi9 d_M_parts0_192 (fun H locs hP hD hS => ?_)
  obtain ⟨w10, e10, hf⟩ := lt_some hf
  rw [← e10] at hP hD
  refine lv_iload hx hb d_M_parts0_193 (lv_at hl 6 rfl) ?_
  refine lv_iconst (v := (-1)) hx hb d_M_parts0_195 (by decide) ?_
  refine lv_icmp_ne (tgt := 205) hx hb d_M_parts0_196 (by decide) (fun hc => ?_) (fun hc => ?_)
  · rw [br_n _ hc] at hf
    refine lv_aload_n hx hb d_M_parts0_205 rfl (lv_at hl 2 rfl) ?_
    refine ug_R hx hb ht hown hM hK hP 45 (by decide) lk_M_45 (by decide) d_M_parts0_206 ?_
    refine lv_iload hx hb d_M_parts0_209 (lv_at hl 6 rfl) ?_
    refine lv_iload hx hb d_M_parts0_211 (lv_at hl 7 rfl) ?_
    obtain ⟨hi9, hf⟩ := ck_some hf
    refine us_I hx hb hK hP hD hS (by decide) (by decide) hi9 d_M_parts0_213 (fun H locs hP hD hS => ?_)
    obtain ⟨w11, e11, hf⟩ := lt_some hf
    rw [← e11] at hP hD
    exact wb_M_parts0_214 C0 hR N S hSg G hG _ _ _ _ _ _ hf H locs hP hD hS ls (lv_sub hl [2, 3, 4, 5, 7] rfl)
  · rw [br_p _ hc] at hf
    refine lv_iload hx hb d_M_parts0_199 (lv_at hl 7 rfl) ?_
    refine lv_istore_n (lv' := [(3, .int v6), (9, .int r8), (8, .int r5), (0, .ref h0), (1, .int v1), (2, .int v2), (4, .int v4), (6, .int v6), (7, .int v7)]) hx hb d_M_parts0_201 rfl hl (by decide) rfl (fun ls hl => ?_)
    refine lv_goto (tgt := 214) hx hb d_M_parts0_202 (by decide) ?_
    exact wb_M_parts0_214 C0 hR N S hSg G hG _ _ _ _ _ _ hf H locs hP hD hS ls (lv_sub hl [3, 4, 5, 0, 7] rfl)
def fb_M_parts0_105 (N : Nat) (S : SG_M_behind) (G : (MS → Int32 → Int32 → Int32 → Int32 → Int32 → Option (MS × Int32))) (u : MS) (v1 : Int32) (v2 : Int32) (v3 : Int32) (v4 : Int32) (v6 : Int32) (v7 : Int32) (t0 : Nat) (t1 : Int32) (t2 : Int32) : Option (MS × Int32) := ck (isK t0 4) (ck (inb t1 (ln t0)) (lt (upA u t0 (upd (u.2.2.1 t0) t1.toNatClampNeg t2)) (fun w12 => br (decide (v1 = 0)) (bnd (S.2.2.2.2.2.2.2.2.2.2.2.2.2.2.2.1 w12) (fun u13 r13 => fb_M_parts0_127 N S G u13 (v1) (v2) (v3) (v4) (v6) (v7) (42) (v6) (r13))) (bnd (S.2.2.2.2.2.2.2.2.2.2.2.2.2.2.1 w12) (fun u14 r14 => fb_M_parts0_127 N S G u14 (v1) (v2) (v3) (v4) (v6) (v7) (42) (v6) (r14))))))
set_option maxRecDepth 100000 in
set_option maxHeartbeats 4000000 in
theorem wb_M_parts0_105 {p : Program} {l : Launch} {e : Env} {R : Room} {s : State} {m : MethodId} {args : Array Value} {below : List Frame} {meth : Method} {c : Code} {D : va_G} {cl : List vw_C} {cB cI cJ cZ cS : ClassId} {A : Nat → Prop} {iM h0 : Nat} {ad : Nat → Nat} (C0 : MCx p s m args meth c b_M_parts0 10 (some .int) D cl cB cI cJ cZ cS iM A) {d : Nat} (hR : R = rg_M_behind (d + 1)) (N : Nat) (S : SG_M_behind) (hSg : HS_M_behind l D cl cB cI cJ cZ cS iM h0 ad (rg_M_behind d) S) (G : (MS → Int32 → Int32 → Int32 → Int32 → Int32 → Option (MS × Int32))) (hG : (∀ (u : MS) (v1 : Int32) (v2 : Int32) (v3 : Int32) (v4 : Int32) (v5 : Int32) (x : MS × Int32), G u v1 v2 v3 v4 v5 = some x → ∀ (H : Heap) (locs : List Loc), va_P D cl (wM cB cI cJ cZ cS iM h0 ad u) H → va_D A (wM cB cI cJ cZ cS iM h0 ad u) → va_S A s.heap H locs → ∀ (ls : Array Slot), lv_has ls 10 [(0, .ref h0), (1, .int v1), (2, .int v2), (3, .int v3), (4, .int v4), (5, .int v5)] → W p l e R s m args below meth c H locs 0 0 (MQ below (mQi D cl cB cI cJ cZ cS iM h0 ad A x) args s 0 0 A) (F0 m 19 ls []))) : ∀ (u : MS) (v1 : Int32) (v2 : Int32) (v3 : Int32) (v4 : Int32) (v6 : Int32) (v7 : Int32) (t0 : Nat) (t1 : Int32) (t2 : Int32) (x : MS × Int32), fb_M_parts0_105 N S G u v1 v2 v3 v4 v6 v7 t0 t1 t2 = some x → ∀ (H : Heap) (locs : List Loc), va_P D cl (wM cB cI cJ cZ cS iM h0 ad u) H → va_D A (wM cB cI cJ cZ cS iM h0 ad u) → va_S A s.heap H locs → ∀ (ls : Array Slot), lv_has ls 10 [(0, .ref h0), (1, .int v1), (2, .int v2), (3, .int v3), (4, .int v4), (6, .int v6), (7, .int v7)] → W p l e R s m args below meth c H locs 0 0 (MQ below (mQi D cl cB cI cJ cZ cS iM h0 ad A x) args s 0 0 A) (F0 m 105 ls [.int t2, .int t1, .ref (ad t0)]) := by
  intro u v1 v2 v3 v4 v6 v7 t0 t1 t2 x hf H locs hP hD hS ls hl
  obtain ⟨hx, hb, hr, hml, ht, hown, hM, hK, hA, hlocks⟩ := id C0
  unfold fb_M_parts0_105 at hf
  obtain ⟨hk9, hf⟩ := ck_some hf
  obtain ⟨hi9, hf⟩ := ck_some hf
  refine us_I hx hb hK hP hD hS (isK_1 hk9) (isK_2 hk9) hi9 d_M_parts0_105 (fun H locs hP hD hS => ?_)
  obtain ⟨w12, e12, hf⟩ := lt_some hf
  rw [← e12] at hP hD
  refine lv_aload_n hx hb d_M_parts0_106 rfl (lv_at hl 0 rfl) ?_
  refine ug_R hx hb ht hown hM hK hP 42 (by decide) lk_M_42 (by decide) d_M_parts0_107 ?_
  refine lv_iload hx hb d_M_parts0_110 (lv_at hl 5 rfl) ?_
  refine lv_iload_n hx hb d_M_parts0_112 rfl (lv_at hl 1 rfl) ?_
  refine lv_if_eq (tgt := 123) hx hb d_M_parts0_113 (by decide) (fun hc => ?_) (fun hc => ?_)
  · rw [br_p _ hc] at hf
    refine lv_aload_n hx hb d_M_parts0_123 rfl (lv_at hl 0 rfl) ?_
    obtain ⟨u13, r13, hc13, hf⟩ := bnd_some hf
    refine mV_i (As := []) (rest := [.int v6, .ref (ad 42)]) C0 hP hD hS (hSg.2.2.2.2.2.2.2.2.2.2.2.2.2.2.2.1 _ _ _ hc13) k_M_guard hl_M_guard hi_M_guard hs_M_guard hini_M rfl rfl hd_M_guard rfl (rm_M_parts0_M_guard hR) hl.1 (Nat.le_of_ble_eq_true rfl) d_M_parts0_124 rfl ⟨Nat.zero_le _, Nat.zero_le _⟩ (fun H locs hP hD hS => ?_)
    exact wb_M_parts0_127 C0 hR N S hSg G hG _ _ _ _ _ _ _ _ _ _ _ hf H locs hP hD hS ls (lv_sub hl [0, 1, 2, 3, 4, 5, 6] rfl)
  · rw [br_n _ hc] at hf
    refine lv_aload_n hx hb d_M_parts0_116 rfl (lv_at hl 0 rfl) ?_
    obtain ⟨u14, r14, hc14, hf⟩ := bnd_some hf
    refine mV_i (As := []) (rest := [.int v6, .ref (ad 42)]) C0 hP hD hS (hSg.2.2.2.2.2.2.2.2.2.2.2.2.2.2.1 _ _ _ hc14) k_M_guardCode hl_M_guardCode hi_M_guardCode hs_M_guardCode hini_M rfl rfl hd_M_guardCode rfl (rm_M_parts0_M_guardCode hR) hl.1 (Nat.le_of_ble_eq_true rfl) d_M_parts0_117 rfl ⟨Nat.zero_le _, Nat.zero_le _⟩ (fun H locs hP hD hS => ?_)
    refine lv_goto (tgt := 127) hx hb d_M_parts0_120 (by decide) ?_
    exact wb_M_parts0_127 C0 hR N S hSg G hG _ _ _ _ _ _ _ _ _ _ _ hf H locs hP hD hS ls (lv_sub hl [0, 1, 2, 3, 4, 5, 6] rfl)
def fb_M_parts0_74 (N : Nat) (S : SG_M_behind) (G : (MS → Int32 → Int32 → Int32 → Int32 → Int32 → Option (MS × Int32))) (u : MS) (v1 : Int32) (v2 : Int32) (v3 : Int32) (v4 : Int32) (v6 : Int32) (t0 : Nat) (t1 : Int32) (t2 : Int32) : Option (MS × Int32) := ck (isK t0 4) (ck (inb t1 (ln t0)) (lt (upA u t0 (upd (u.2.2.1 t0) t1.toNatClampNeg t2)) (fun w15 => ck (inb (w15.1 65) (ln 60)) (lt (w15.2.2.1 60 (w15.1 65).toNatClampNeg) (fun y16 => br (decide (v1 = 0)) (bnd (fr_M_patternAt N w15 0) (fun u17 r17 => fb_M_parts0_105 N S G u17 (v1) (v2) (v3) (v4) (v6) (y16) (40) (v6) (r17))) (fb_M_parts0_105 N S G w15 (v1) (v2) (v3) (v4) (v6) (y16) (40) (v6) ((-1))))))))
set_option maxRecDepth 100000 in
set_option maxHeartbeats 4000000 in
theorem wb_M_parts0_74 {p : Program} {l : Launch} {e : Env} {R : Room} {s : State} {m : MethodId} {args : Array Value} {below : List Frame} {meth : Method} {c : Code} {D : va_G} {cl : List vw_C} {cB cI cJ cZ cS : ClassId} {A : Nat → Prop} {iM h0 : Nat} {ad : Nat → Nat} (C0 : MCx p s m args meth c b_M_parts0 10 (some .int) D cl cB cI cJ cZ cS iM A) {d : Nat} (hR : R = rg_M_behind (d + 1)) (N : Nat) (S : SG_M_behind) (hSg : HS_M_behind l D cl cB cI cJ cZ cS iM h0 ad (rg_M_behind d) S) (G : (MS → Int32 → Int32 → Int32 → Int32 → Int32 → Option (MS × Int32))) (hG : (∀ (u : MS) (v1 : Int32) (v2 : Int32) (v3 : Int32) (v4 : Int32) (v5 : Int32) (x : MS × Int32), G u v1 v2 v3 v4 v5 = some x → ∀ (H : Heap) (locs : List Loc), va_P D cl (wM cB cI cJ cZ cS iM h0 ad u) H → va_D A (wM cB cI cJ cZ cS iM h0 ad u) → va_S A s.heap H locs → ∀ (ls : Array Slot), lv_has ls 10 [(0, .ref h0), (1, .int v1), (2, .int v2), (3, .int v3), (4, .int v4), (5, .int v5)] → W p l e R s m args below meth c H locs 0 0 (MQ below (mQi D cl cB cI cJ cZ cS iM h0 ad A x) args s 0 0 A) (F0 m 19 ls []))) : ∀ (u : MS) (v1 : Int32) (v2 : Int32) (v3 : Int32) (v4 : Int32) (v6 : Int32) (t0 : Nat) (t1 : Int32) (t2 : Int32) (x : MS × Int32), fb_M_parts0_74 N S G u v1 v2 v3 v4 v6 t0 t1 t2 = some x → ∀ (H : Heap) (locs : List Loc), va_P D cl (wM cB cI cJ cZ cS iM h0 ad u) H → va_D A (wM cB cI cJ cZ cS iM h0 ad u) → va_S A s.heap H locs → ∀ (ls : Array Slot), lv_has ls 10 [(0, .ref h0), (1, .int v1), (2, .int v2), (3, .int v3), (4, .int v4), (6, .int v6)] → W p l e R s m args below meth c H locs 0 0 (MQ below (mQi D cl cB cI cJ cZ cS iM h0 ad A x) args s 0 0 A) (F0 m 74 ls [.int t2, .int t1, .ref (ad t0)]) := by
  intro u v1 v2 v3 v4 v6 t0 t1 t2 x hf H locs hP hD hS ls hl
  obtain ⟨hx, hb, hr, hml, ht, hown, hM, hK, hA, hlocks⟩ := id C0
  unfold fb_M_parts0_74 at hf
  obtain ⟨hk9, hf⟩ := ck_some hf
  obtain ⟨hi9, hf⟩ := ck_some hf
  refine us_I hx hb hK hP hD hS (isK_1 hk9) (isK_2 hk9) hi9 d_M_parts0_74 (fun H locs hP hD hS => ?_)
  obtain ⟨w15, e15, hf⟩ := lt_some hf
  rw [← e15] at hP hD
  refine lv_aload_n hx hb d_M_parts0_75 rfl (lv_at hl 0 rfl) ?_
  refine ug_R hx hb ht hown hM hK hP 60 (by decide) lk_M_60 (by decide) d_M_parts0_76 ?_
  refine lv_aload_n hx hb d_M_parts0_79 rfl (lv_at hl 0 rfl) ?_
  refine ug_I hx hb ht hown hM hK hP 65 (by decide) lk_M_65 (by decide) d_M_parts0_80 ?_
  obtain ⟨hi9, hf⟩ := ck_some hf
  refine ul_I hx hb hK hP (by decide) (by decide) hi9 d_M_parts0_83 ?_
  obtain ⟨y16, e16, hf⟩ := lt_some hf
  rw [← e16]
  refine lv_istore (lv' := [(7, .int y16), (0, .ref h0), (1, .int v1), (2, .int v2), (3, .int v3), (4, .int v4), (6, .int v6)]) hx hb d_M_parts0_84 hl (by decide) rfl (fun ls hl => ?_)
  refine lv_aload_n hx hb d_M_parts0_86 rfl (lv_at hl 1 rfl) ?_
  refine ug_R hx hb ht hown hM hK hP 40 (by decide) lk_M_40 (by decide) d_M_parts0_87 ?_
  refine lv_iload hx hb d_M_parts0_90 (lv_at hl 6 rfl) ?_
  refine lv_iload_n hx hb d_M_parts0_92 rfl (lv_at hl 2 rfl) ?_
  refine lv_if_eq (tgt := 100) hx hb d_M_parts0_93 (by decide) (fun hc => ?_) (fun hc => ?_)
  · rw [br_p _ hc] at hf
    refine lv_aload_n hx hb d_M_parts0_100 rfl (lv_at hl 1 rfl) ?_
    refine lv_iconst (v := 0) hx hb d_M_parts0_101 (by decide) ?_
    obtain ⟨u17, r17, hc17, hf⟩ := bnd_some hf
    refine mV_i (As := [.int 0]) (rest := [.int v6, .ref (ad 40)]) C0 hP hD hS (c_M_patternAt N hM hc17) k_M_patternAt hl_M_patternAt hi_M_patternAt hs_M_patternAt hini_M rfl rfl hd_M_patternAt rfl (rm_M_parts0_M_patternAt hR) hl.1 (Nat.le_of_ble_eq_true rfl) d_M_parts0_102 rfl ⟨Nat.zero_le _, Nat.zero_le _⟩ (fun H locs hP hD hS => ?_)
    exact wb_M_parts0_105 C0 hR N S hSg G hG _ _ _ _ _ _ _ _ _ _ _ hf H locs hP hD hS ls (lv_sub hl [1, 2, 3, 4, 5, 6, 0] rfl)
  · rw [br_n _ hc] at hf
    refine lv_iconst (v := (-1)) hx hb d_M_parts0_96 (by decide) ?_
    refine lv_goto (tgt := 105) hx hb d_M_parts0_97 (by decide) ?_
    exact wb_M_parts0_105 C0 hR N S hSg G hG _ _ _ _ _ _ _ _ _ _ _ hf H locs hP hD hS ls (lv_sub hl [1, 2, 3, 4, 5, 6, 0] rfl)
def fb_M_parts0_19 (N : Nat) (S : SG_M_behind) (G : (MS → Int32 → Int32 → Int32 → Int32 → Int32 → Option (MS × Int32))) (u : MS) (v1 : Int32) (v2 : Int32) (v3 : Int32) (v4 : Int32) (v5 : Int32) : Option (MS × Int32) := br (decide (v5 = 0)) (some (u, v3)) (lt (upI u 46 ((u.1 46) + 1)) (fun w18 => ck (inb (u.1 46) (ln 44)) (lt (upA w18 44 (upd (w18.2.2.1 44) (u.1 46).toNatClampNeg (w18.1 69))) (fun w19 => ck (inb (u.1 46) (ln 45)) (lt (upA w19 45 (upd (w19.2.2.1 45) (u.1 46).toNatClampNeg (-1))) (fun w20 => br (decide (v1 = 0)) (fb_M_parts0_74 N S G w20 (v1) (v2) (v3) (v4) ((u.1 46)) (41) ((u.1 46)) (1)) (fb_M_parts0_74 N S G w20 (v1) (v2) (v3) (v4) ((u.1 46)) (41) ((u.1 46)) (0))))))))
set_option maxRecDepth 100000 in
set_option maxHeartbeats 4000000 in
theorem wb_M_parts0_19 {p : Program} {l : Launch} {e : Env} {R : Room} {s : State} {m : MethodId} {args : Array Value} {below : List Frame} {meth : Method} {c : Code} {D : va_G} {cl : List vw_C} {cB cI cJ cZ cS : ClassId} {A : Nat → Prop} {iM h0 : Nat} {ad : Nat → Nat} (C0 : MCx p s m args meth c b_M_parts0 10 (some .int) D cl cB cI cJ cZ cS iM A) {d : Nat} (hR : R = rg_M_behind (d + 1)) (N : Nat) (S : SG_M_behind) (hSg : HS_M_behind l D cl cB cI cJ cZ cS iM h0 ad (rg_M_behind d) S) (G : (MS → Int32 → Int32 → Int32 → Int32 → Int32 → Option (MS × Int32))) (hG : (∀ (u : MS) (v1 : Int32) (v2 : Int32) (v3 : Int32) (v4 : Int32) (v5 : Int32) (x : MS × Int32), G u v1 v2 v3 v4 v5 = some x → ∀ (H : Heap) (locs : List Loc), va_P D cl (wM cB cI cJ cZ cS iM h0 ad u) H → va_D A (wM cB cI cJ cZ cS iM h0 ad u) → va_S A s.heap H locs → ∀ (ls : Array Slot), lv_has ls 10 [(0, .ref h0), (1, .int v1), (2, .int v2), (3, .int v3), (4, .int v4), (5, .int v5)] → W p l e R s m args below meth c H locs 0 0 (MQ below (mQi D cl cB cI cJ cZ cS iM h0 ad A x) args s 0 0 A) (F0 m 19 ls []))) : ∀ (u : MS) (v1 : Int32) (v2 : Int32) (v3 : Int32) (v4 : Int32) (v5 : Int32) (x : MS × Int32), fb_M_parts0_19 N S G u v1 v2 v3 v4 v5 = some x → ∀ (H : Heap) (locs : List Loc), va_P D cl (wM cB cI cJ cZ cS iM h0 ad u) H → va_D A (wM cB cI cJ cZ cS iM h0 ad u) → va_S A s.heap H locs → ∀ (ls : Array Slot), lv_has ls 10 [(0, .ref h0), (1, .int v1), (2, .int v2), (3, .int v3), (4, .int v4), (5, .int v5)] → W p l e R s m args below meth c H locs 0 0 (MQ below (mQi D cl cB cI cJ cZ cS iM h0 ad A x) args s 0 0 A) (F0 m 19 ls []) := by
  intro u v1 v2 v3 v4 v5 x hf H locs hP hD hS ls hl
  obtain ⟨hx, hb, hr, hml, ht, hown, hM, hK, hA, hlocks⟩ := id C0
  unfold fb_M_parts0_19 at hf
  refine lv_iload hx hb d_M_parts0_19 (lv_at hl 5 rfl) ?_
  refine lv_if_eq (tgt := 229) hx hb d_M_parts0_21 (by decide) (fun hc => ?_) (fun hc => ?_)
  · rw [br_p _ hc] at hf
    refine lv_iload_n hx hb d_M_parts0_229 rfl (lv_at hl 3 rfl) ?_
    exact mr_i C0 hP hD hS hf d_M_parts0_230
  · rw [br_n _ hc] at hf
    refine lv_aload_n hx hb d_M_parts0_24 rfl (lv_at hl 0 rfl) ?_
    refine ug_I hx hb ht hown hM hK hP 46 (by decide) lk_M_46 (by decide) d_M_parts0_25 ?_
    refine lv_istore (lv' := [(6, .int (u.1 46)), (0, .ref h0), (1, .int v1), (2, .int v2), (3, .int v3), (4, .int v4), (5, .int v5)]) hx hb d_M_parts0_28 hl (by decide) rfl (fun ls hl => ?_)
    refine lv_aload_n hx hb d_M_parts0_30 rfl (lv_at hl 1 rfl) ?_
    refine lv_dup hx hb d_M_parts0_31 rfl ?_
    refine ug_I hx hb ht hown hM hK hP 46 (by decide) lk_M_46 (by decide) d_M_parts0_32 ?_
    refine lv_iconst (v := 1) hx hb d_M_parts0_35 (by decide) ?_
    refine lv_iadd hx hb d_M_parts0_36 ?_
    refine up_I hx hb ht hown hM hK hP hD hS 46 (by decide) lk_M_46 (by decide) rfl rfl rfl d_M_parts0_37 (fun H locs hP hD hS => ?_)
    obtain ⟨w18, e18, hf⟩ := lt_some hf
    rw [← e18] at hP hD
    refine lv_aload_n hx hb d_M_parts0_40 rfl (lv_at hl 1 rfl) ?_
    refine ug_R hx hb ht hown hM hK hP 44 (by decide) lk_M_44 (by decide) d_M_parts0_41 ?_
    refine lv_iload hx hb d_M_parts0_44 (lv_at hl 0 rfl) ?_
    refine lv_aload_n hx hb d_M_parts0_46 rfl (lv_at hl 1 rfl) ?_
    refine ug_I hx hb ht hown hM hK hP 69 (by decide) lk_M_69 (by decide) d_M_parts0_47 ?_
    obtain ⟨hi9, hf⟩ := ck_some hf
    refine us_I hx hb hK hP hD hS (by decide) (by decide) hi9 d_M_parts0_50 (fun H locs hP hD hS => ?_)
    obtain ⟨w19, e19, hf⟩ := lt_some hf
    rw [← e19] at hP hD
    refine lv_aload_n hx hb d_M_parts0_51 rfl (lv_at hl 1 rfl) ?_
    refine ug_R hx hb ht hown hM hK hP 45 (by decide) lk_M_45 (by decide) d_M_parts0_52 ?_
    refine lv_iload hx hb d_M_parts0_55 (lv_at hl 0 rfl) ?_
    refine lv_iconst (v := (-1)) hx hb d_M_parts0_57 (by decide) ?_
    obtain ⟨hi9, hf⟩ := ck_some hf
    refine us_I hx hb hK hP hD hS (by decide) (by decide) hi9 d_M_parts0_58 (fun H locs hP hD hS => ?_)
    obtain ⟨w20, e20, hf⟩ := lt_some hf
    rw [← e20] at hP hD
    refine lv_aload_n hx hb d_M_parts0_59 rfl (lv_at hl 1 rfl) ?_
    refine ug_R hx hb ht hown hM hK hP 41 (by decide) lk_M_41 (by decide) d_M_parts0_60 ?_
    refine lv_iload hx hb d_M_parts0_63 (lv_at hl 0 rfl) ?_
    refine lv_iload_n hx hb d_M_parts0_65 rfl (lv_at hl 2 rfl) ?_
    refine lv_if_eq (tgt := 73) hx hb d_M_parts0_66 (by decide) (fun hc => ?_) (fun hc => ?_)
    · rw [br_p _ hc] at hf
      refine lv_iconst (v := 1) hx hb d_M_parts0_73 (by decide) ?_
      exact wb_M_parts0_74 C0 hR N S hSg G hG _ _ _ _ _ _ _ _ _ _ hf H locs hP hD hS ls (lv_sub hl [1, 2, 3, 4, 5, 0] rfl)
    · rw [br_n _ hc] at hf
      refine lv_iconst (v := 0) hx hb d_M_parts0_69 (by decide) ?_
      refine lv_goto (tgt := 74) hx hb d_M_parts0_70 (by decide) ?_
      exact wb_M_parts0_74 C0 hR N S hSg G hG _ _ _ _ _ _ _ _ _ _ hf H locs hP hD hS ls (lv_sub hl [1, 2, 3, 4, 5, 0] rfl)
def fb_M_parts0_17 (N : Nat) (S : SG_M_behind) (G : (MS → Int32 → Int32 → Int32 → Int32 → Int32 → Option (MS × Int32))) (u : MS) (v1 : Int32) (v2 : Int32) (v3 : Int32) (v4 : Int32) (t0 : Int32) : Option (MS × Int32) := G u (v1) (v2) (v3) (v4) (t0)
set_option maxRecDepth 100000 in
set_option maxHeartbeats 4000000 in
theorem wb_M_parts0_17 {p : Program} {l : Launch} {e : Env} {R : Room} {s : State} {m : MethodId} {args : Array Value} {below : List Frame} {meth : Method} {c : Code} {D : va_G} {cl : List vw_C} {cB cI cJ cZ cS : ClassId} {A : Nat → Prop} {iM h0 : Nat} {ad : Nat → Nat} (C0 : MCx p s m args meth c b_M_parts0 10 (some .int) D cl cB cI cJ cZ cS iM A) {d : Nat} (hR : R = rg_M_behind (d + 1)) (N : Nat) (S : SG_M_behind) (hSg : HS_M_behind l D cl cB cI cJ cZ cS iM h0 ad (rg_M_behind d) S) (G : (MS → Int32 → Int32 → Int32 → Int32 → Int32 → Option (MS × Int32))) (hG : (∀ (u : MS) (v1 : Int32) (v2 : Int32) (v3 : Int32) (v4 : Int32) (v5 : Int32) (x : MS × Int32), G u v1 v2 v3 v4 v5 = some x → ∀ (H : Heap) (locs : List Loc), va_P D cl (wM cB cI cJ cZ cS iM h0 ad u) H → va_D A (wM cB cI cJ cZ cS iM h0 ad u) → va_S A s.heap H locs → ∀ (ls : Array Slot), lv_has ls 10 [(0, .ref h0), (1, .int v1), (2, .int v2), (3, .int v3), (4, .int v4), (5, .int v5)] → W p l e R s m args below meth c H locs 0 0 (MQ below (mQi D cl cB cI cJ cZ cS iM h0 ad A x) args s 0 0 A) (F0 m 19 ls []))) : ∀ (u : MS) (v1 : Int32) (v2 : Int32) (v3 : Int32) (v4 : Int32) (t0 : Int32) (x : MS × Int32), fb_M_parts0_17 N S G u v1 v2 v3 v4 t0 = some x → ∀ (H : Heap) (locs : List Loc), va_P D cl (wM cB cI cJ cZ cS iM h0 ad u) H → va_D A (wM cB cI cJ cZ cS iM h0 ad u) → va_S A s.heap H locs → ∀ (ls : Array Slot), lv_has ls 10 [(0, .ref h0), (1, .int v1), (2, .int v2), (3, .int v3), (4, .int v4)] → W p l e R s m args below meth c H locs 0 0 (MQ below (mQi D cl cB cI cJ cZ cS iM h0 ad A x) args s 0 0 A) (F0 m 17 ls [.int t0]) := by
  intro u v1 v2 v3 v4 t0 x hf H locs hP hD hS ls hl
  obtain ⟨hx, hb, hr, hml, ht, hown, hM, hK, hA, hlocks⟩ := id C0
  unfold fb_M_parts0_17 at hf
  refine lv_istore (lv' := [(5, .int t0), (0, .ref h0), (1, .int v1), (2, .int v2), (3, .int v3), (4, .int v4)]) hx hb d_M_parts0_17 hl (by decide) rfl (fun ls hl => ?_)
  exact hG _ _ _ _ _ _ _ hf H locs hP hD hS ls (lv_sub hl [1, 2, 3, 4, 5, 0] rfl)
def fb_M_parts0_0 (N : Nat) (S : SG_M_behind) (G : (MS → Int32 → Int32 → Int32 → Int32 → Int32 → Option (MS × Int32))) (u : MS) (v1 : Int32) (v2 : Int32) : Option (MS × Int32) := br (decide ((u.1 67) = 0)) (fb_M_parts0_17 N S G u (v1) (v2) ((-1)) ((-1)) (1)) (fb_M_parts0_17 N S G u (v1) (v2) ((-1)) ((-1)) (0))
set_option maxRecDepth 100000 in
set_option maxHeartbeats 4000000 in
theorem wb_M_parts0_0 {p : Program} {l : Launch} {e : Env} {R : Room} {s : State} {m : MethodId} {args : Array Value} {below : List Frame} {meth : Method} {c : Code} {D : va_G} {cl : List vw_C} {cB cI cJ cZ cS : ClassId} {A : Nat → Prop} {iM h0 : Nat} {ad : Nat → Nat} (C0 : MCx p s m args meth c b_M_parts0 10 (some .int) D cl cB cI cJ cZ cS iM A) {d : Nat} (hR : R = rg_M_behind (d + 1)) (N : Nat) (S : SG_M_behind) (hSg : HS_M_behind l D cl cB cI cJ cZ cS iM h0 ad (rg_M_behind d) S) (G : (MS → Int32 → Int32 → Int32 → Int32 → Int32 → Option (MS × Int32))) (hG : (∀ (u : MS) (v1 : Int32) (v2 : Int32) (v3 : Int32) (v4 : Int32) (v5 : Int32) (x : MS × Int32), G u v1 v2 v3 v4 v5 = some x → ∀ (H : Heap) (locs : List Loc), va_P D cl (wM cB cI cJ cZ cS iM h0 ad u) H → va_D A (wM cB cI cJ cZ cS iM h0 ad u) → va_S A s.heap H locs → ∀ (ls : Array Slot), lv_has ls 10 [(0, .ref h0), (1, .int v1), (2, .int v2), (3, .int v3), (4, .int v4), (5, .int v5)] → W p l e R s m args below meth c H locs 0 0 (MQ below (mQi D cl cB cI cJ cZ cS iM h0 ad A x) args s 0 0 A) (F0 m 19 ls []))) : ∀ (u : MS) (v1 : Int32) (v2 : Int32) (x : MS × Int32), fb_M_parts0_0 N S G u v1 v2 = some x → ∀ (H : Heap) (locs : List Loc), va_P D cl (wM cB cI cJ cZ cS iM h0 ad u) H → va_D A (wM cB cI cJ cZ cS iM h0 ad u) → va_S A s.heap H locs → ∀ (ls : Array Slot), lv_has ls 10 [(0, .ref h0), (1, .int v1), (2, .int v2)] → W p l e R s m args below meth c H locs 0 0 (MQ below (mQi D cl cB cI cJ cZ cS iM h0 ad A x) args s 0 0 A) (F0 m 0 ls []) := by
  intro u v1 v2 x hf H locs hP hD hS ls hl
  obtain ⟨hx, hb, hr, hml, ht, hown, hM, hK, hA, hlocks⟩ := id C0
  unfold fb_M_parts0_0 at hf
  refine lv_iconst (v := (-1)) hx hb d_M_parts0_0 (by decide) ?_
  refine lv_istore_n (lv' := [(3, .int (-1)), (0, .ref h0), (1, .int v1), (2, .int v2)]) hx hb d_M_parts0_1 rfl hl (by decide) rfl (fun ls hl => ?_)
  refine lv_iconst (v := (-1)) hx hb d_M_parts0_2 (by decide) ?_
  refine lv_istore (lv' := [(4, .int (-1)), (3, .int (-1)), (0, .ref h0), (1, .int v1), (2, .int v2)]) hx hb d_M_parts0_3 hl (by decide) rfl (fun ls hl => ?_)
  refine lv_aload_n hx hb d_M_parts0_5 rfl (lv_at hl 2 rfl) ?_
  refine ug_I hx hb ht hown hM hK hP 67 (by decide) lk_M_67 (by decide) d_M_parts0_6 ?_
  refine lv_if_ne (tgt := 16) hx hb d_M_parts0_9 (by decide) (fun hc => ?_) (fun hc => ?_)
  · rw [br_n _ hc] at hf
    refine lv_iconst (v := 0) hx hb d_M_parts0_16 (by decide) ?_
    exact wb_M_parts0_17 C0 hR N S hSg G hG _ _ _ _ _ _ _ hf H locs hP hD hS ls (lv_sub hl [2, 3, 4, 1, 0] rfl)
  · rw [br_p _ hc] at hf
    refine lv_iconst (v := 1) hx hb d_M_parts0_12 (by decide) ?_
    refine lv_goto (tgt := 17) hx hb d_M_parts0_13 (by decide) ?_
    exact wb_M_parts0_17 C0 hR N S hSg G hG _ _ _ _ _ _ _ hf H locs hP hD hS ls (lv_sub hl [2, 3, 4, 1, 0] rfl)
def gg_M_parts0 (N : Nat) (S : SG_M_behind) : Nat → ((MS → Int32 → Int32 → Int32 → Int32 → Int32 → Option (MS × Int32)))
  | 0 => fun _ _ _ _ _ _ => none
  | n + 1 => fb_M_parts0_19 N S (gg_M_parts0 N S n)
theorem wg_M_parts0 {p : Program} {l : Launch} {e : Env} {R : Room} {s : State} {m : MethodId} {args : Array Value} {below : List Frame} {meth : Method} {c : Code} {D : va_G} {cl : List vw_C} {cB cI cJ cZ cS : ClassId} {A : Nat → Prop} {iM h0 : Nat} {ad : Nat → Nat} (C0 : MCx p s m args meth c b_M_parts0 10 (some .int) D cl cB cI cJ cZ cS iM A) {d : Nat} (hR : R = rg_M_behind (d + 1)) (N : Nat) (S : SG_M_behind) (hSg : HS_M_behind l D cl cB cI cJ cZ cS iM h0 ad (rg_M_behind d) S) : ∀ n : Nat, (∀ (u : MS) (v1 : Int32) (v2 : Int32) (v3 : Int32) (v4 : Int32) (v5 : Int32) (x : MS × Int32), gg_M_parts0 N S n u v1 v2 v3 v4 v5 = some x → ∀ (H : Heap) (locs : List Loc), va_P D cl (wM cB cI cJ cZ cS iM h0 ad u) H → va_D A (wM cB cI cJ cZ cS iM h0 ad u) → va_S A s.heap H locs → ∀ (ls : Array Slot), lv_has ls 10 [(0, .ref h0), (1, .int v1), (2, .int v2), (3, .int v3), (4, .int v4), (5, .int v5)] → W p l e R s m args below meth c H locs 0 0 (MQ below (mQi D cl cB cI cJ cZ cS iM h0 ad A x) args s 0 0 A) (F0 m 19 ls []))
  | 0 => (fun u v1 v2 v3 v4 v5 x hf => by cases hf)
  | n + 1 => wb_M_parts0_19 C0 hR N S hSg (gg_M_parts0 N S n) (wg_M_parts0 C0 hR N S hSg n)
def fm_M_parts0 (N : Nat) (S : SG_M_behind) (u : MS) (v1 : Int32) (v2 : Int32) : Option (MS × Int32) := fb_M_parts0_0 N S (gg_M_parts0 N S N) u v1 v2
set_option maxRecDepth 100000 in
set_option maxHeartbeats 4000000 in
theorem cs_M_parts0 (N : Nat) {d : Nat} {l : Launch} {D : va_G} {cl : List vw_C} {cB cI cJ cZ cS : ClassId} {iM h0 : Nat} {ad : Nat → Nat} {u : MS} {sz : Nat} {v1 : Int32} {v2 : Int32} {x : MS × Int32} (hM : cl[iM]? = some (R_M, F_M, 171)) (S : SG_M_behind) (hSg : HS_M_behind l D cl cB cI cJ cZ cS iM h0 ad (rg_M_behind d) S) (hf : fm_M_parts0 N S u v1 v2 = some x) : Met l y_M_parts0 (wd_ws y_M_parts0 b_M_parts0 10 (some .int)) (rg_M_behind (d + 1)) (mPc D cl cB cI cJ cZ cS iM h0 ad u sz [.ref h0, .int v1, .int v2]) (mQi D cl cB cI cJ cZ cS iM h0 ad (mA cB cI cJ cZ cS iM h0 ad u sz) x) 0 0 (mA cB cI cJ cZ cS iM h0 ad u sz) :=
  mMet (by decide) rfl hM (Nat.le_of_ble_eq_true rfl) (fun p e s m below meth c ls hsz C0 hP hD hS hl => by
    have hR : (rg_M_behind (d + 1)) = (rg_M_behind (d + 1)) := rfl
    exact wb_M_parts0_0 C0 hR N S hSg (gg_M_parts0 N S N) (wg_M_parts0 C0 hR N S hSg N) u _ _ x hf s.heap [] hP hD hS ls (lv_sub hl [0, 1, 2] rfl))
theorem rm_M_receive_M_node {R : Room} {d : Nat} (hR : R = rg_M_behind (d + 1)) : (rm_M_node).frames + 1 ≤ R.frames ∧ 8 + (3 + 11) + (rm_M_node).locals ≤ R.locals := by
  subst hR
  have h1 : (rm_M_node).frames = 0 := rfl
  have h2 : (rm_M_node).locals = 0 := rfl
  show (rm_M_node).frames + 1 ≤ 94 + (d + 1) ∧ 8 + (3 + 11) + (rm_M_node).locals ≤ 2494 + 29 * (d + 1)
  omega
theorem rm_M_receive_M_isWord {R : Room} {d : Nat} (hR : R = rg_M_behind (d + 1)) : (rm_M_isWord).frames + 1 ≤ R.frames ∧ 8 + (2 + 11) + (rm_M_isWord).locals ≤ R.locals := by
  subst hR
  have h1 : (rm_M_isWord).frames = 0 := rfl
  have h2 : (rm_M_isWord).locals = 0 := rfl
  show (rm_M_isWord).frames + 1 ≤ 94 + (d + 1) ∧ 8 + (2 + 11) + (rm_M_isWord).locals ≤ 2494 + 29 * (d + 1)
  omega
theorem rm_M_receive_M_wrong {R : Room} {d : Nat} (hR : R = rg_M_behind (d + 1)) : (rm_M_wrong).frames + 1 ≤ R.frames ∧ 8 + (2 + 11) + (rm_M_wrong).locals ≤ R.locals := by
  subst hR
  have h1 : (rm_M_wrong).frames = 0 := rfl
  have h2 : (rm_M_wrong).locals = 0 := rfl
  show (rm_M_wrong).frames + 1 ≤ 94 + (d + 1) ∧ 8 + (2 + 11) + (rm_M_wrong).locals ≤ 2494 + 29 * (d + 1)
  omega
theorem rm_M_receive_M_takeWord {R : Room} {d : Nat} (hR : R = rg_M_behind (d + 1)) : (rm_M_takeWord).frames + 1 ≤ R.frames ∧ 8 + (2 + 11) + (rm_M_takeWord).locals ≤ R.locals := by
  subst hR
  have h1 : (rm_M_takeWord).frames = 1 := rfl
  have h2 : (rm_M_takeWord).locals = 21 := rfl
  show (rm_M_takeWord).frames + 1 ≤ 94 + (d + 1) ∧ 8 + (2 + 11) + (rm_M_takeWord).locals ≤ 2494 + 29 * (d + 1)
  omega
theorem rm_M_receive_M_needSign {R : Room} {d : Nat} (hR : R = rg_M_behind (d + 1)) : (rm_M_needSign).frames + 1 ≤ R.frames ∧ 8 + (2 + 11) + (rm_M_needSign).locals ≤ R.locals := by
  subst hR
  have h1 : (rm_M_needSign).frames = 2 := rfl
  have h2 : (rm_M_needSign).locals = 42 := rfl
  show (rm_M_needSign).frames + 1 ≤ 94 + (d + 1) ∧ 8 + (2 + 11) + (rm_M_needSign).locals ≤ 2494 + 29 * (d + 1)
  omega
theorem rm_M_receive_M_addRoot {R : Room} {d : Nat} (hR : R = rg_M_behind (d + 1)) : (rm_M_addRoot).frames + 1 ≤ R.frames ∧ 8 + (3 + 11) + (rm_M_addRoot).locals ≤ R.locals := by
  subst hR
  have h1 : (rm_M_addRoot).frames = 0 := rfl
  have h2 : (rm_M_addRoot).locals = 0 := rfl
  show (rm_M_addRoot).frames + 1 ≤ 94 + (d + 1) ∧ 8 + (3 + 11) + (rm_M_addRoot).locals ≤ 2494 + 29 * (d + 1)
  omega
theorem rm_M_receive_M_unbind {R : Room} {d : Nat} (hR : R = rg_M_behind (d + 1)) : (rm_M_unbind).frames + 1 ≤ R.frames ∧ 8 + (3 + 11) + (rm_M_unbind).locals ≤ R.locals := by
  subst hR
  have h1 : (rm_M_unbind).frames = 1 := rfl
  have h2 : (rm_M_unbind).locals = 22 := rfl
  show (rm_M_unbind).frames + 1 ≤ 94 + (d + 1) ∧ 8 + (3 + 11) + (rm_M_unbind).locals ≤ 2494 + 29 * (d + 1)
  omega
theorem rm_M_receive_M_needWord {R : Room} {d : Nat} (hR : R = rg_M_behind (d + 1)) : (rm_M_needWord).frames + 1 ≤ R.frames ∧ 8 + (2 + 11) + (rm_M_needWord).locals ≤ R.locals := by
  subst hR
  have h1 : (rm_M_needWord).frames = 2 := rfl
  have h2 : (rm_M_needWord).locals = 42 := rfl
  show (rm_M_needWord).frames + 1 ≤ 94 + (d + 1) ∧ 8 + (2 + 11) + (rm_M_needWord).locals ≤ 2494 + 29 * (d + 1)
  omega
theorem rm_M_receive_M_parts0 {R : Room} {d : Nat} (hR : R = rg_M_behind (d + 1)) : (rg_M_behind d).frames + 1 ≤ R.frames ∧ 8 + (10 + 11) + (rg_M_behind d).locals ≤ R.locals := by
  subst hR
  show 94 + d + 1 ≤ 94 + (d + 1) ∧ 8 + (10 + 11) + (2494 + 29 * d) ≤ 2494 + 29 * (d + 1)
  omega
theorem rm_M_receive_M_expression {R : Room} {d : Nat} (hR : R = rg_M_behind (d + 1)) : (rg_M_behind d).frames + 1 ≤ R.frames ∧ 8 + (4 + 11) + (rg_M_behind d).locals ≤ R.locals := by
  subst hR
  show 94 + d + 1 ≤ 94 + (d + 1) ∧ 8 + (4 + 11) + (2494 + 29 * d) ≤ 2494 + 29 * (d + 1)
  omega
theorem rm_M_receive_M_body {R : Room} {d : Nat} (hR : R = rg_M_behind (d + 1)) : (rg_M_behind d).frames + 1 ≤ R.frames ∧ 8 + (3 + 11) + (rg_M_behind d).locals ≤ R.locals := by
  subst hR
  show 94 + d + 1 ≤ 94 + (d + 1) ∧ 8 + (3 + 11) + (2494 + 29 * d) ≤ 2494 + 29 * (d + 1)
  omega
def fb_M_receive_237 (N : Nat) (S : SG_M_behind) (G : Unit) (u : MS) (v4 : Int32) : Option (MS × Int32) := ck (inb v4 (ln 26)) (lt (upA u 26 (upd (u.2.2.1 26) v4.toNatClampNeg (u.1 32))) (fun w1 => bnd (fm_M_node N w1 30 (w1.1 69)) (fun u2 r2 => ck (inb v4 (ln 28)) (ck (inb r2 (ln 28)) (lt (upA u2 28 (upd (u2.2.2.1 28) r2.toNatClampNeg (u2.2.2.1 28 v4.toNatClampNeg))) (fun w3 => some (w3, r2)))))))
set_option maxRecDepth 100000 in
set_option maxHeartbeats 4000000 in
theorem wb_M_receive_237 {p : Program} {l : Launch} {e : Env} {R : Room} {s : State} {m : MethodId} {args : Array Value} {below : List Frame} {meth : Method} {c : Code} {D : va_G} {cl : List vw_C} {cB cI cJ cZ cS : ClassId} {A : Nat → Prop} {iM h0 : Nat} {ad : Nat → Nat} (C0 : MCx p s m args meth c b_M_receive 9 (some .int) D cl cB cI cJ cZ cS iM A) {d : Nat} (hR : R = rg_M_behind (d + 1)) (N : Nat) (S : SG_M_behind) (hSg : HS_M_behind l D cl cB cI cJ cZ cS iM h0 ad (rg_M_behind d) S) (G : Unit) (hG : True) : ∀ (u : MS) (v4 : Int32) (x : MS × Int32), fb_M_receive_237 N S G u v4 = some x → ∀ (H : Heap) (locs : List Loc), va_P D cl (wM cB cI cJ cZ cS iM h0 ad u) H → va_D A (wM cB cI cJ cZ cS iM h0 ad u) → va_S A s.heap H locs → ∀ (ls : Array Slot), lv_has ls 9 [(0, .ref h0), (4, .int v4)] → W p l e R s m args below meth c H locs 0 0 (MQ below (mQi D cl cB cI cJ cZ cS iM h0 ad A x) args s 0 0 A) (F0 m 237 ls []) := by
  intro u v4 x hf H locs hP hD hS ls hl
  obtain ⟨hx, hb, hr, hml, ht, hown, hM, hK, hA, hlocks⟩ := id C0
  unfold fb_M_receive_237 at hf
  refine lv_aload_n hx hb d_M_receive_237 rfl (lv_at hl 0 rfl) ?_
  refine ug_R hx hb ht hown hM hK hP 26 (by decide) lk_M_26 (by decide) d_M_receive_238 ?_
  refine lv_iload hx hb d_M_receive_241 (lv_at hl 1 rfl) ?_
  refine lv_aload_n hx hb d_M_receive_243 rfl (lv_at hl 0 rfl) ?_
  refine ug_I hx hb ht hown hM hK hP 32 (by decide) lk_M_32 (by decide) d_M_receive_244 ?_
  obtain ⟨hi9, hf⟩ := ck_some hf
  refine us_I hx hb hK hP hD hS (by decide) (by decide) hi9 d_M_receive_247 (fun H locs hP hD hS => ?_)
  obtain ⟨w1, e1, hf⟩ := lt_some hf
  rw [← e1] at hP hD
  refine lv_aload_n hx hb d_M_receive_248 rfl (lv_at hl 0 rfl) ?_
  refine lv_bipush (v := 30) hx hb d_M_receive_249 (by decide) ?_
  refine lv_aload_n hx hb d_M_receive_251 rfl (lv_at hl 0 rfl) ?_
  refine ug_I hx hb ht hown hM hK hP 69 (by decide) lk_M_69 (by decide) d_M_receive_252 ?_
  obtain ⟨u2, r2, hc2, hf⟩ := bnd_some hf
  refine mV_i (As := [.int 30, .int (w1.1 69)]) (rest := []) C0 hP hD hS (c_M_node N hM hc2) k_M_node hl_M_node hi_M_node hs_M_node hini_M rfl rfl hd_M_node rfl (rm_M_receive_M_node hR) hl.1 (Nat.le_of_ble_eq_true rfl) d_M_receive_255 rfl ⟨Nat.zero_le _, Nat.zero_le _⟩ (fun H locs hP hD hS => ?_)
  refine lv_istore (lv' := [(5, .int r2), (0, .ref h0), (4, .int v4)]) hx hb d_M_receive_258 hl (by decide) rfl (fun ls hl => ?_)
  refine lv_aload_n hx hb d_M_receive_260 rfl (lv_at hl 1 rfl) ?_
  refine ug_R hx hb ht hown hM hK hP 28 (by decide) lk_M_28 (by decide) d_M_receive_261 ?_
  refine lv_iload hx hb d_M_receive_264 (lv_at hl 0 rfl) ?_
  refine lv_aload_n hx hb d_M_receive_266 rfl (lv_at hl 1 rfl) ?_
  refine ug_R hx hb ht hown hM hK hP 28 (by decide) lk_M_28 (by decide) d_M_receive_267 ?_
  refine lv_iload hx hb d_M_receive_270 (lv_at hl 2 rfl) ?_
  obtain ⟨hi9, hf⟩ := ck_some hf
  refine ul_I hx hb hK hP (by decide) (by decide) hi9 d_M_receive_272 ?_
  obtain ⟨hi9, hf⟩ := ck_some hf
  refine us_I hx hb hK hP hD hS (by decide) (by decide) hi9 d_M_receive_273 (fun H locs hP hD hS => ?_)
  obtain ⟨w3, e3, hf⟩ := lt_some hf
  rw [← e3] at hP hD
  refine lv_iload hx hb d_M_receive_274 (lv_at hl 0 rfl) ?_
  exact mr_i C0 hP hD hS hf d_M_receive_276
def fb_M_receive_98 (N : Nat) (S : SG_M_behind) (G : Unit) (u : MS) (v2 : Int32) (v3 : Int32) (v4 : Int32) : Option (MS × Int32) := bnd (fm_M_takeWord N u 0) (fun u4 r4 => br (decide (r4 = 0)) (bnd (fm_M_needWord N u4 6) (fun u5 _ => ck (inb v3 (ln 25)) (lt (upA u5 25 (upd (u5.2.2.1 25) v3.toNatClampNeg v4)) (fun w6 => fb_M_receive_237 N S G w6 (v4))))) (ck (inb v3 (ln 25)) (lt (upA u4 25 (upd (u4.2.2.1 25) v3.toNatClampNeg (u4.1 32))) (fun w7 => bnd (S.2.2.2.2.2.2.2.2.2.2.2.2.2.1 w7) (fun u8 r8 => bnd (fm_M_node N u8 28 (u8.1 69)) (fun u9 r9 => ck (inb r9 (ln 25)) (lt (upA u9 25 (upd (u9.2.2.1 25) r9.toNatClampNeg v4)) (fun w10 => ck (inb r9 (ln 27)) (lt (upA w10 27 (upd (w10.2.2.1 27) r9.toNatClampNeg v2)) (fun w11 => ck (inb (w11.1 65) (ln 60)) (lt (upA w11 60 (upd (w11.2.2.1 60) (w11.1 65).toNatClampNeg v2)) (fun w12 => ck (inb v4 (ln 31)) (lt (upA w12 31 (upd (w12.2.2.1 31) v4.toNatClampNeg r9)) (fun w13 => bnd (fm_M_needSign N w13 10) (fun u14 _ => ck (inb r9 (ln 26)) (lt (upA u14 26 (upd (u14.2.2.1 26) r9.toNatClampNeg (u14.1 32))) (fun w15 => ck (inb r9 (ln 28)) (lt (upA w15 28 (upd (w15.2.2.1 28) r9.toNatClampNeg (-1))) (fun w16 => bnd (S.2.2.2.2.1 w16) (fun u17 r17 => bnd (fm_M_addRoot N u17 v4 r17) (fun u18 _ => bnd (fm_M_unbind N u18 v2) (fun u19 _ => bnd (fm_M_needWord N u19 6) (fun u20 _ => fb_M_receive_237 N S G u20 (v4))))))))))))))))))))))))
set_option maxRecDepth 100000 in
set_option maxHeartbeats 4000000 in
theorem wb_M_receive_98 {p : Program} {l : Launch} {e : Env} {R : Room} {s : State} {m : MethodId} {args : Array Value} {below : List Frame} {meth : Method} {c : Code} {D : va_G} {cl : List vw_C} {cB cI cJ cZ cS : ClassId} {A : Nat → Prop} {iM h0 : Nat} {ad : Nat → Nat} (C0 : MCx p s m args meth c b_M_receive 9 (some .int) D cl cB cI cJ cZ cS iM A) {d : Nat} (hR : R = rg_M_behind (d + 1)) (N : Nat) (S : SG_M_behind) (hSg : HS_M_behind l D cl cB cI cJ cZ cS iM h0 ad (rg_M_behind d) S) (G : Unit) (hG : True) : ∀ (u : MS) (v2 : Int32) (v3 : Int32) (v4 : Int32) (x : MS × Int32), fb_M_receive_98 N S G u v2 v3 v4 = some x → ∀ (H : Heap) (locs : List Loc), va_P D cl (wM cB cI cJ cZ cS iM h0 ad u) H → va_D A (wM cB cI cJ cZ cS iM h0 ad u) → va_S A s.heap H locs → ∀ (ls : Array Slot), lv_has ls 9 [(0, .ref h0), (2, .int v2), (3, .int v3), (4, .int v4)] → W p l e R s m args below meth c H locs 0 0 (MQ below (mQi D cl cB cI cJ cZ cS iM h0 ad A x) args s 0 0 A) (F0 m 98 ls []) := by
  intro u v2 v3 v4 x hf H locs hP hD hS ls hl
  obtain ⟨hx, hb, hr, hml, ht, hown, hM, hK, hA, hlocks⟩ := id C0
  unfold fb_M_receive_98 at hf
  refine lv_aload_n hx hb d_M_receive_98 rfl (lv_at hl 0 rfl) ?_
  refine lv_iconst (v := 0) hx hb d_M_receive_99 (by decide) ?_
  obtain ⟨u4, r4, hc4, hf⟩ := bnd_some hf
  refine mV_i (As := [.int 0]) (rest := []) C0 hP hD hS (c_M_takeWord N hM hc4) k_M_takeWord hl_M_takeWord hi_M_takeWord hs_M_takeWord hini_M rfl rfl hd_M_takeWord rfl (rm_M_receive_M_takeWord hR) hl.1 (Nat.le_of_ble_eq_true rfl) d_M_receive_100 rfl ⟨Nat.zero_le _, Nat.zero_le _⟩ (fun H locs hP hD hS => ?_)
  refine lv_if_eq (tgt := 223) hx hb d_M_receive_103 (by decide) (fun hc => ?_) (fun hc => ?_)
  · rw [br_p _ hc] at hf
    refine lv_aload_n hx hb d_M_receive_223 rfl (lv_at hl 0 rfl) ?_
    refine lv_bipush (v := 6) hx hb d_M_receive_224 (by decide) ?_
    obtain ⟨u5, r5, hc5, hf⟩ := bnd_some hf
    refine mV_v (As := [.int 6]) (rest := []) C0 hP hD hS (c_M_needWord N hM hc5) k_M_needWord hl_M_needWord hi_M_needWord hs_M_needWord hini_M rfl rfl hd_M_needWord rfl (rm_M_receive_M_needWord hR) hl.1 (Nat.le_of_ble_eq_true rfl) d_M_receive_226 rfl ⟨Nat.zero_le _, Nat.zero_le _⟩ (fun H locs hP hD hS => ?_)
    refine lv_aload_n hx hb d_M_receive_229 rfl (lv_at hl 0 rfl) ?_
    refine ug_R hx hb ht hown hM hK hP 25 (by decide) lk_M_25 (by decide) d_M_receive_230 ?_
    refine lv_iload_n hx hb d_M_receive_233 rfl (lv_at hl 2 rfl) ?_
    refine lv_iload hx hb d_M_receive_234 (lv_at hl 3 rfl) ?_
    obtain ⟨hi9, hf⟩ := ck_some hf
    refine us_I hx hb hK hP hD hS (by decide) (by decide) hi9 d_M_receive_236 (fun H locs hP hD hS => ?_)
    obtain ⟨w6, e6, hf⟩ := lt_some hf
    rw [← e6] at hP hD
    exact wb_M_receive_237 C0 hR N S hSg G hG _ _ _ hf H locs hP hD hS ls (lv_sub hl [0, 3] rfl)
  · rw [br_n _ hc] at hf
    refine lv_aload_n hx hb d_M_receive_106 rfl (lv_at hl 0 rfl) ?_
    refine ug_R hx hb ht hown hM hK hP 25 (by decide) lk_M_25 (by decide) d_M_receive_107 ?_
    refine lv_iload_n hx hb d_M_receive_110 rfl (lv_at hl 2 rfl) ?_
    refine lv_aload_n hx hb d_M_receive_111 rfl (lv_at hl 0 rfl) ?_
    refine ug_I hx hb ht hown hM hK hP 32 (by decide) lk_M_32 (by decide) d_M_receive_112 ?_
    obtain ⟨hi9, hf⟩ := ck_some hf
    refine us_I hx hb hK hP hD hS (by decide) (by decide) hi9 d_M_receive_115 (fun H locs hP hD hS => ?_)
    obtain ⟨w7, e7, hf⟩ := lt_some hf
    rw [← e7] at hP hD
    refine lv_aload_n hx hb d_M_receive_116 rfl (lv_at hl 0 rfl) ?_
    obtain ⟨u8, r8, hc8, hf⟩ := bnd_some hf
    refine mV_i (As := []) (rest := []) C0 hP hD hS (hSg.2.2.2.2.2.2.2.2.2.2.2.2.2.1 _ _ _ hc8) k_M_expression hl_M_expression hi_M_expression hs_M_expression hini_M rfl rfl hd_M_expression rfl (rm_M_receive_M_expression hR) hl.1 (Nat.le_of_ble_eq_true rfl) d_M_receive_117 rfl ⟨Nat.zero_le _, Nat.zero_le _⟩ (fun H locs hP hD hS => ?_)
    refine lv_istore (lv' := [(6, .int r8), (0, .ref h0), (2, .int v2), (3, .int v3), (4, .int v4)]) hx hb d_M_receive_120 hl (by decide) rfl (fun ls hl => ?_)
    refine lv_aload_n hx hb d_M_receive_122 rfl (lv_at hl 1 rfl) ?_
    refine lv_bipush (v := 28) hx hb d_M_receive_123 (by decide) ?_
    refine lv_aload_n hx hb d_M_receive_125 rfl (lv_at hl 1 rfl) ?_
    refine ug_I hx hb ht hown hM hK hP 69 (by decide) lk_M_69 (by decide) d_M_receive_126 ?_
    obtain ⟨u9, r9, hc9, hf⟩ := bnd_some hf
    refine mV_i (As := [.int 28, .int (u8.1 69)]) (rest := []) C0 hP hD hS (c_M_node N hM hc9) k_M_node hl_M_node hi_M_node hs_M_node hini_M rfl rfl hd_M_node rfl (rm_M_receive_M_node hR) hl.1 (Nat.le_of_ble_eq_true rfl) d_M_receive_129 rfl ⟨Nat.zero_le _, Nat.zero_le _⟩ (fun H locs hP hD hS => ?_)
    refine lv_istore (lv' := [(7, .int r9), (6, .int r8), (0, .ref h0), (2, .int v2), (3, .int v3), (4, .int v4)]) hx hb d_M_receive_132 hl (by decide) rfl (fun ls hl => ?_)
    refine lv_aload_n hx hb d_M_receive_134 rfl (lv_at hl 2 rfl) ?_
    refine ug_R hx hb ht hown hM hK hP 25 (by decide) lk_M_25 (by decide) d_M_receive_135 ?_
    refine lv_iload hx hb d_M_receive_138 (lv_at hl 0 rfl) ?_
    refine lv_iload hx hb d_M_receive_140 (lv_at hl 5 rfl) ?_
    obtain ⟨hi9, hf⟩ := ck_some hf
    refine us_I hx hb hK hP hD hS (by decide) (by decide) hi9 d_M_receive_142 (fun H locs hP hD hS => ?_)
    obtain ⟨w10, e10, hf⟩ := lt_some hf
    rw [← e10] at hP hD
    refine lv_aload_n hx hb d_M_receive_143 rfl (lv_at hl 2 rfl) ?_
    refine ug_R hx hb ht hown hM hK hP 27 (by decide) lk_M_27 (by decide) d_M_receive_144 ?_
    refine lv_iload hx hb d_M_receive_147 (lv_at hl 0 rfl) ?_
    refine lv_iload_n hx hb d_M_receive_149 rfl (lv_at hl 3 rfl) ?_
    obtain ⟨hi9, hf⟩ := ck_some hf
    refine us_I hx hb hK hP hD hS (by decide) (by decide) hi9 d_M_receive_150 (fun H locs hP hD hS => ?_)
    obtain ⟨w11, e11, hf⟩ := lt_some hf
    rw [← e11] at hP hD
    refine lv_aload_n hx hb d_M_receive_151 rfl (lv_at hl 2 rfl) ?_
    refine ug_R hx hb ht hown hM hK hP 60 (by decide) lk_M_60 (by decide) d_M_receive_152 ?_
    refine lv_aload_n hx hb d_M_receive_155 rfl (lv_at hl 2 rfl) ?_
    refine ug_I hx hb ht hown hM hK hP 65 (by decide) lk_M_65 (by decide) d_M_receive_156 ?_
    refine lv_iload_n hx hb d_M_receive_159 rfl (lv_at hl 3 rfl) ?_
    obtain ⟨hi9, hf⟩ := ck_some hf
    refine us_I hx hb hK hP hD hS (by decide) (by decide) hi9 d_M_receive_160 (fun H locs hP hD hS => ?_)
    obtain ⟨w12, e12, hf⟩ := lt_some hf
    rw [← e12] at hP hD
    refine lv_aload_n hx hb d_M_receive_161 rfl (lv_at hl 2 rfl) ?_
    refine ug_R hx hb ht hown hM hK hP 31 (by decide) lk_M_31 (by decide) d_M_receive_162 ?_
    refine lv_iload hx hb d_M_receive_165 (lv_at hl 5 rfl) ?_
    refine lv_iload hx hb d_M_receive_167 (lv_at hl 0 rfl) ?_
    obtain ⟨hi9, hf⟩ := ck_some hf
    refine us_I hx hb hK hP hD hS (by decide) (by decide) hi9 d_M_receive_169 (fun H locs hP hD hS => ?_)
    obtain ⟨w13, e13, hf⟩ := lt_some hf
    rw [← e13] at hP hD
    refine lv_aload_n hx hb d_M_receive_170 rfl (lv_at hl 2 rfl) ?_
    refine lv_bipush (v := 10) hx hb d_M_receive_171 (by decide) ?_
    obtain ⟨u14, r14, hc14, hf⟩ := bnd_some hf
    refine mV_v (As := [.int 10]) (rest := []) C0 hP hD hS (c_M_needSign N hM hc14) k_M_needSign hl_M_needSign hi_M_needSign hs_M_needSign hini_M rfl rfl hd_M_needSign rfl (rm_M_receive_M_needSign hR) hl.1 (Nat.le_of_ble_eq_true rfl) d_M_receive_173 rfl ⟨Nat.zero_le _, Nat.zero_le _⟩ (fun H locs hP hD hS => ?_)
    refine lv_aload_n hx hb d_M_receive_176 rfl (lv_at hl 2 rfl) ?_
    refine ug_R hx hb ht hown hM hK hP 26 (by decide) lk_M_26 (by decide) d_M_receive_177 ?_
    refine lv_iload hx hb d_M_receive_180 (lv_at hl 0 rfl) ?_
    refine lv_aload_n hx hb d_M_receive_182 rfl (lv_at hl 2 rfl) ?_
    refine ug_I hx hb ht hown hM hK hP 32 (by decide) lk_M_32 (by decide) d_M_receive_183 ?_
    obtain ⟨hi9, hf⟩ := ck_some hf
    refine us_I hx hb hK hP hD hS (by decide) (by decide) hi9 d_M_receive_186 (fun H locs hP hD hS => ?_)
    obtain ⟨w15, e15, hf⟩ := lt_some hf
    rw [← e15] at hP hD
    refine lv_aload_n hx hb d_M_receive_187 rfl (lv_at hl 2 rfl) ?_
    refine ug_R hx hb ht hown hM hK hP 28 (by decide) lk_M_28 (by decide) d_M_receive_188 ?_
    refine lv_iload hx hb d_M_receive_191 (lv_at hl 0 rfl) ?_
    refine lv_iconst (v := (-1)) hx hb d_M_receive_193 (by decide) ?_
    obtain ⟨hi9, hf⟩ := ck_some hf
    refine us_I hx hb hK hP hD hS (by decide) (by decide) hi9 d_M_receive_194 (fun H locs hP hD hS => ?_)
    obtain ⟨w16, e16, hf⟩ := lt_some hf
    rw [← e16] at hP hD
    refine lv_aload_n hx hb d_M_receive_195 rfl (lv_at hl 2 rfl) ?_
    obtain ⟨u17, r17, hc17, hf⟩ := bnd_some hf
    refine mV_i (As := []) (rest := []) C0 hP hD hS (hSg.2.2.2.2.1 _ _ _ hc17) k_M_body hl_M_body hi_M_body hs_M_body hini_M rfl rfl hd_M_body rfl (rm_M_receive_M_body hR) hl.1 (Nat.le_of_ble_eq_true rfl) d_M_receive_196 rfl ⟨Nat.zero_le _, Nat.zero_le _⟩ (fun H locs hP hD hS => ?_)
    refine lv_istore (lv' := [(8, .int r17), (7, .int r9), (6, .int r8), (0, .ref h0), (2, .int v2), (3, .int v3), (4, .int v4)]) hx hb d_M_receive_199 hl (by decide) rfl (fun ls hl => ?_)
    refine lv_aload_n hx hb d_M_receive_201 rfl (lv_at hl 3 rfl) ?_
    refine lv_iload hx hb d_M_receive_202 (lv_at hl 6 rfl) ?_
    refine lv_iload hx hb d_M_receive_204 (lv_at hl 0 rfl) ?_
    obtain ⟨u18, r18, hc18, hf⟩ := bnd_some hf
    refine mV_v (As := [.int v4, .int r17]) (rest := []) C0 hP hD hS (c_M_addRoot N hM hc18) k_M_addRoot hl_M_addRoot hi_M_addRoot hs_M_addRoot hini_M rfl rfl hd_M_addRoot rfl (rm_M_receive_M_addRoot hR) hl.1 (Nat.le_of_ble_eq_true rfl) d_M_receive_206 rfl ⟨Nat.zero_le _, Nat.zero_le _⟩ (fun H locs hP hD hS => ?_)
    refine lv_aload_n hx hb d_M_receive_209 rfl (lv_at hl 3 rfl) ?_
    refine lv_iload_n hx hb d_M_receive_210 rfl (lv_at hl 4 rfl) ?_
    obtain ⟨u19, r19, hc19, hf⟩ := bnd_some hf
    refine mV_v (As := [.int v2]) (rest := []) C0 hP hD hS (c_M_unbind N hM hc19) k_M_unbind hl_M_unbind hi_M_unbind hs_M_unbind hini_M rfl rfl hd_M_unbind rfl (rm_M_receive_M_unbind hR) hl.1 (Nat.le_of_ble_eq_true rfl) d_M_receive_211 rfl ⟨Nat.zero_le _, Nat.zero_le _⟩ (fun H locs hP hD hS => ?_)
    refine lv_aload_n hx hb d_M_receive_214 rfl (lv_at hl 3 rfl) ?_
    refine lv_bipush (v := 6) hx hb d_M_receive_215 (by decide) ?_
    obtain ⟨u20, r20, hc20, hf⟩ := bnd_some hf
    refine mV_v (As := [.int 6]) (rest := []) C0 hP hD hS (c_M_needWord N hM hc20) k_M_needWord hl_M_needWord hi_M_needWord hs_M_needWord hini_M rfl rfl hd_M_needWord rfl (rm_M_receive_M_needWord hR) hl.1 (Nat.le_of_ble_eq_true rfl) d_M_receive_217 rfl ⟨Nat.zero_le _, Nat.zero_le _⟩ (fun H locs hP hD hS => ?_)
    refine lv_goto (tgt := 237) hx hb d_M_receive_220 (by decide) ?_
    exact wb_M_receive_237 C0 hR N S hSg G hG _ _ _ hf H locs hP hD hS ls (lv_sub hl [3, 6] rfl)
def fb_M_receive_67 (N : Nat) (S : SG_M_behind) (G : Unit) (u : MS) (v2 : Int32) (v3 : Int32) (v4 : Int32) : Option (MS × Int32) := br (decide ((u.1 67) = 0)) (ck (inb v4 (ln 25)) (br (decide ((u.2.2.1 25 v4.toNatClampNeg) = (-1))) (bnd (fm_M_isWord N u 0) (fun u21 r21 => br (decide (r21 = 0)) (bnd (fm_M_wrong N u21 2) (fun u22 _ => fb_M_receive_98 N S G u22 (v2) (v3) (v4))) (fb_M_receive_98 N S G u21 (v2) (v3) (v4)))) (fb_M_receive_98 N S G u (v2) (v3) (v4)))) (fb_M_receive_98 N S G u (v2) (v3) (v4))
set_option maxRecDepth 100000 in
set_option maxHeartbeats 4000000 in
theorem wb_M_receive_67 {p : Program} {l : Launch} {e : Env} {R : Room} {s : State} {m : MethodId} {args : Array Value} {below : List Frame} {meth : Method} {c : Code} {D : va_G} {cl : List vw_C} {cB cI cJ cZ cS : ClassId} {A : Nat → Prop} {iM h0 : Nat} {ad : Nat → Nat} (C0 : MCx p s m args meth c b_M_receive 9 (some .int) D cl cB cI cJ cZ cS iM A) {d : Nat} (hR : R = rg_M_behind (d + 1)) (N : Nat) (S : SG_M_behind) (hSg : HS_M_behind l D cl cB cI cJ cZ cS iM h0 ad (rg_M_behind d) S) (G : Unit) (hG : True) : ∀ (u : MS) (v2 : Int32) (v3 : Int32) (v4 : Int32) (x : MS × Int32), fb_M_receive_67 N S G u v2 v3 v4 = some x → ∀ (H : Heap) (locs : List Loc), va_P D cl (wM cB cI cJ cZ cS iM h0 ad u) H → va_D A (wM cB cI cJ cZ cS iM h0 ad u) → va_S A s.heap H locs → ∀ (ls : Array Slot), lv_has ls 9 [(0, .ref h0), (2, .int v2), (3, .int v3), (4, .int v4)] → W p l e R s m args below meth c H locs 0 0 (MQ below (mQi D cl cB cI cJ cZ cS iM h0 ad A x) args s 0 0 A) (F0 m 67 ls []) := by
  intro u v2 v3 v4 x hf H locs hP hD hS ls hl
  obtain ⟨hx, hb, hr, hml, ht, hown, hM, hK, hA, hlocks⟩ := id C0
  unfold fb_M_receive_67 at hf
  refine lv_aload_n hx hb d_M_receive_67 rfl (lv_at hl 0 rfl) ?_
  refine ug_I hx hb ht hown hM hK hP 67 (by decide) lk_M_67 (by decide) d_M_receive_68 ?_
  refine lv_if_ne (tgt := 98) hx hb d_M_receive_71 (by decide) (fun hc => ?_) (fun hc => ?_)
  · rw [br_n _ hc] at hf
    exact wb_M_receive_98 C0 hR N S hSg G hG _ _ _ _ _ hf H locs hP hD hS ls (lv_sub hl [0, 1, 2, 3] rfl)
  · rw [br_p _ hc] at hf
    refine lv_aload_n hx hb d_M_receive_74 rfl (lv_at hl 0 rfl) ?_
    refine ug_R hx hb ht hown hM hK hP 25 (by decide) lk_M_25 (by decide) d_M_receive_75 ?_
    refine lv_iload hx hb d_M_receive_78 (lv_at hl 3 rfl) ?_
    obtain ⟨hi9, hf⟩ := ck_some hf
    refine ul_I hx hb hK hP (by decide) (by decide) hi9 d_M_receive_80 ?_
    refine lv_iconst (v := (-1)) hx hb d_M_receive_81 (by decide) ?_
    refine lv_icmp_ne (tgt := 98) hx hb d_M_receive_82 (by decide) (fun hc => ?_) (fun hc => ?_)
    · rw [br_n _ hc] at hf
      exact wb_M_receive_98 C0 hR N S hSg G hG _ _ _ _ _ hf H locs hP hD hS ls (lv_sub hl [0, 1, 2, 3] rfl)
    · rw [br_p _ hc] at hf
      refine lv_aload_n hx hb d_M_receive_85 rfl (lv_at hl 0 rfl) ?_
      refine lv_iconst (v := 0) hx hb d_M_receive_86 (by decide) ?_
      obtain ⟨u21, r21, hc21, hf⟩ := bnd_some hf
      refine mV_i (As := [.int 0]) (rest := []) C0 hP hD hS (c_M_isWord N hM hc21) k_M_isWord hl_M_isWord hi_M_isWord hs_M_isWord hini_M rfl rfl hd_M_isWord rfl (rm_M_receive_M_isWord hR) hl.1 (Nat.le_of_ble_eq_true rfl) d_M_receive_87 rfl ⟨Nat.zero_le _, Nat.zero_le _⟩ (fun H locs hP hD hS => ?_)
      refine lv_if_ne (tgt := 98) hx hb d_M_receive_90 (by decide) (fun hc => ?_) (fun hc => ?_)
      · rw [br_n _ hc] at hf
        exact wb_M_receive_98 C0 hR N S hSg G hG _ _ _ _ _ hf H locs hP hD hS ls (lv_sub hl [0, 1, 2, 3] rfl)
      · rw [br_p _ hc] at hf
        refine lv_aload_n hx hb d_M_receive_93 rfl (lv_at hl 0 rfl) ?_
        refine lv_iconst (v := 2) hx hb d_M_receive_94 (by decide) ?_
        obtain ⟨u22, r22, hc22, hf⟩ := bnd_some hf
        refine mV_v (As := [.int 2]) (rest := []) C0 hP hD hS (c_M_wrong N hM hc22) k_M_wrong hl_M_wrong hi_M_wrong hs_M_wrong hini_M rfl rfl hd_M_wrong rfl (rm_M_receive_M_wrong hR) hl.1 (Nat.le_of_ble_eq_true rfl) d_M_receive_95 rfl ⟨Nat.zero_le _, Nat.zero_le _⟩ (fun H locs hP hD hS => ?_)
        exact wb_M_receive_98 C0 hR N S hSg G hG _ _ _ _ _ hf H locs hP hD hS ls (lv_sub hl [0, 1, 2, 3] rfl)
def fb_M_receive_0 (N : Nat) (S : SG_M_behind) (G : Unit) (u : MS) (v1 : Int32) (v2 : Int32) : Option (MS × Int32) := bnd (fm_M_node N u 26 v1) (fun u23 r23 => bnd (fm_M_node N u23 27 v1) (fun u24 r24 => ck (inb r24 (ln 27)) (lt (upA u24 27 (upd (u24.2.2.1 27) r24.toNatClampNeg v2)) (fun w25 => ck (inb r24 (ln 31)) (lt (upA w25 31 (upd (w25.2.2.1 31) r24.toNatClampNeg (-1))) (fun w26 => bnd (fm_M_isWord N w26 0) (fun u27 r27 => br (decide (r27 = 0)) (bnd (fm_M_isWord N u27 6) (fun u28 r28 => br (decide (r28 = 0)) (bnd (S.2.2.1 u28 0 r24) (fun u29 r29 => ck (inb r24 (ln 25)) (lt (upA u29 25 (upd (u29.2.2.1 25) r24.toNatClampNeg r29)) (fun w30 => fb_M_receive_67 N S G w30 (v2) (r23) (r24))))) (fb_M_receive_67 N S G u28 (v2) (r23) (r24)))) (fb_M_receive_67 N S G u27 (v2) (r23) (r24)))))))))
set_option maxRecDepth 100000 in
set_option maxHeartbeats 4000000 in
theorem wb_M_receive_0 {p : Program} {l : Launch} {e : Env} {R : Room} {s : State} {m : MethodId} {args : Array Value} {below : List Frame} {meth : Method} {c : Code} {D : va_G} {cl : List vw_C} {cB cI cJ cZ cS : ClassId} {A : Nat → Prop} {iM h0 : Nat} {ad : Nat → Nat} (C0 : MCx p s m args meth c b_M_receive 9 (some .int) D cl cB cI cJ cZ cS iM A) {d : Nat} (hR : R = rg_M_behind (d + 1)) (N : Nat) (S : SG_M_behind) (hSg : HS_M_behind l D cl cB cI cJ cZ cS iM h0 ad (rg_M_behind d) S) (G : Unit) (hG : True) : ∀ (u : MS) (v1 : Int32) (v2 : Int32) (x : MS × Int32), fb_M_receive_0 N S G u v1 v2 = some x → ∀ (H : Heap) (locs : List Loc), va_P D cl (wM cB cI cJ cZ cS iM h0 ad u) H → va_D A (wM cB cI cJ cZ cS iM h0 ad u) → va_S A s.heap H locs → ∀ (ls : Array Slot), lv_has ls 9 [(0, .ref h0), (1, .int v1), (2, .int v2)] → W p l e R s m args below meth c H locs 0 0 (MQ below (mQi D cl cB cI cJ cZ cS iM h0 ad A x) args s 0 0 A) (F0 m 0 ls []) := by
  intro u v1 v2 x hf H locs hP hD hS ls hl
  obtain ⟨hx, hb, hr, hml, ht, hown, hM, hK, hA, hlocks⟩ := id C0
  unfold fb_M_receive_0 at hf
  refine lv_aload_n hx hb d_M_receive_0 rfl (lv_at hl 0 rfl) ?_
  refine lv_bipush (v := 26) hx hb d_M_receive_1 (by decide) ?_
  refine lv_iload_n hx hb d_M_receive_3 rfl (lv_at hl 1 rfl) ?_
  obtain ⟨u23, r23, hc23, hf⟩ := bnd_some hf
  refine mV_i (As := [.int 26, .int v1]) (rest := []) C0 hP hD hS (c_M_node N hM hc23) k_M_node hl_M_node hi_M_node hs_M_node hini_M rfl rfl hd_M_node rfl (rm_M_receive_M_node hR) hl.1 (Nat.le_of_ble_eq_true rfl) d_M_receive_4 rfl ⟨Nat.zero_le _, Nat.zero_le _⟩ (fun H locs hP hD hS => ?_)
  refine lv_istore_n (lv' := [(3, .int r23), (0, .ref h0), (1, .int v1), (2, .int v2)]) hx hb d_M_receive_7 rfl hl (by decide) rfl (fun ls hl => ?_)
  refine lv_aload_n hx hb d_M_receive_8 rfl (lv_at hl 1 rfl) ?_
  refine lv_bipush (v := 27) hx hb d_M_receive_9 (by decide) ?_
  refine lv_iload_n hx hb d_M_receive_11 rfl (lv_at hl 2 rfl) ?_
  obtain ⟨u24, r24, hc24, hf⟩ := bnd_some hf
  refine mV_i (As := [.int 27, .int v1]) (rest := []) C0 hP hD hS (c_M_node N hM hc24) k_M_node hl_M_node hi_M_node hs_M_node hini_M rfl rfl hd_M_node rfl (rm_M_receive_M_node hR) hl.1 (Nat.le_of_ble_eq_true rfl) d_M_receive_12 rfl ⟨Nat.zero_le _, Nat.zero_le _⟩ (fun H locs hP hD hS => ?_)
  refine lv_istore (lv' := [(4, .int r24), (3, .int r23), (0, .ref h0), (1, .int v1), (2, .int v2)]) hx hb d_M_receive_15 hl (by decide) rfl (fun ls hl => ?_)
  refine lv_aload_n hx hb d_M_receive_17 rfl (lv_at hl 2 rfl) ?_
  refine ug_R hx hb ht hown hM hK hP 27 (by decide) lk_M_27 (by decide) d_M_receive_18 ?_
  refine lv_iload hx hb d_M_receive_21 (lv_at hl 0 rfl) ?_
  refine lv_iload_n hx hb d_M_receive_23 rfl (lv_at hl 4 rfl) ?_
  obtain ⟨hi9, hf⟩ := ck_some hf
  refine us_I hx hb hK hP hD hS (by decide) (by decide) hi9 d_M_receive_24 (fun H locs hP hD hS => ?_)
  obtain ⟨w25, e25, hf⟩ := lt_some hf
  rw [← e25] at hP hD
  refine lv_aload_n hx hb d_M_receive_25 rfl (lv_at hl 2 rfl) ?_
  refine ug_R hx hb ht hown hM hK hP 31 (by decide) lk_M_31 (by decide) d_M_receive_26 ?_
  refine lv_iload hx hb d_M_receive_29 (lv_at hl 0 rfl) ?_
  refine lv_iconst (v := (-1)) hx hb d_M_receive_31 (by decide) ?_
  obtain ⟨hi9, hf⟩ := ck_some hf
  refine us_I hx hb hK hP hD hS (by decide) (by decide) hi9 d_M_receive_32 (fun H locs hP hD hS => ?_)
  obtain ⟨w26, e26, hf⟩ := lt_some hf
  rw [← e26] at hP hD
  refine lv_iconst (v := (-1)) hx hb d_M_receive_33 (by decide) ?_
  refine lv_istore (lv' := [(5, .int (-1)), (4, .int r24), (3, .int r23), (0, .ref h0), (1, .int v1), (2, .int v2)]) hx hb d_M_receive_34 hl (by decide) rfl (fun ls hl => ?_)
  refine lv_aload_n hx hb d_M_receive_36 rfl (lv_at hl 3 rfl) ?_
  refine lv_iconst (v := 0) hx hb d_M_receive_37 (by decide) ?_
  obtain ⟨u27, r27, hc27, hf⟩ := bnd_some hf
  refine mV_i (As := [.int 0]) (rest := []) C0 hP hD hS (c_M_isWord N hM hc27) k_M_isWord hl_M_isWord hi_M_isWord hs_M_isWord hini_M rfl rfl hd_M_isWord rfl (rm_M_receive_M_isWord hR) hl.1 (Nat.le_of_ble_eq_true rfl) d_M_receive_38 rfl ⟨Nat.zero_le _, Nat.zero_le _⟩ (fun H locs hP hD hS => ?_)
  refine lv_if_ne (tgt := 67) hx hb d_M_receive_41 (by decide) (fun hc => ?_) (fun hc => ?_)
  · rw [br_n _ hc] at hf
    exact wb_M_receive_67 C0 hR N S hSg G hG _ _ _ _ _ hf H locs hP hD hS ls (lv_sub hl [3, 5, 2, 1] rfl)
  · rw [br_p _ hc] at hf
    refine lv_aload_n hx hb d_M_receive_44 rfl (lv_at hl 3 rfl) ?_
    refine lv_bipush (v := 6) hx hb d_M_receive_45 (by decide) ?_
    obtain ⟨u28, r28, hc28, hf⟩ := bnd_some hf
    refine mV_i (As := [.int 6]) (rest := []) C0 hP hD hS (c_M_isWord N hM hc28) k_M_isWord hl_M_isWord hi_M_isWord hs_M_isWord hini_M rfl rfl hd_M_isWord rfl (rm_M_receive_M_isWord hR) hl.1 (Nat.le_of_ble_eq_true rfl) d_M_receive_47 rfl ⟨Nat.zero_le _, Nat.zero_le _⟩ (fun H locs hP hD hS => ?_)
    refine lv_if_ne (tgt := 67) hx hb d_M_receive_50 (by decide) (fun hc => ?_) (fun hc => ?_)
    · rw [br_n _ hc] at hf
      exact wb_M_receive_67 C0 hR N S hSg G hG _ _ _ _ _ hf H locs hP hD hS ls (lv_sub hl [3, 5, 2, 1] rfl)
    · rw [br_p _ hc] at hf
      refine lv_aload_n hx hb d_M_receive_53 rfl (lv_at hl 3 rfl) ?_
      refine ug_R hx hb ht hown hM hK hP 25 (by decide) lk_M_25 (by decide) d_M_receive_54 ?_
      refine lv_iload hx hb d_M_receive_57 (lv_at hl 1 rfl) ?_
      refine lv_aload_n hx hb d_M_receive_59 rfl (lv_at hl 3 rfl) ?_
      refine lv_iconst (v := 0) hx hb d_M_receive_60 (by decide) ?_
      refine lv_iload hx hb d_M_receive_61 (lv_at hl 1 rfl) ?_
      obtain ⟨u29, r29, hc29, hf⟩ := bnd_some hf
      refine mV_i (As := [.int 0, .int r24]) (rest := [.int r24, .ref (ad 25)]) C0 hP hD hS (hSg.2.2.1 _ _ _ _ _ hc29) k_M_parts0 hl_M_parts0 hi_M_parts0 hs_M_parts0 hini_M rfl rfl hd_M_parts0 rfl (rm_M_receive_M_parts0 hR) hl.1 (Nat.le_of_ble_eq_true rfl) d_M_receive_63 rfl ⟨Nat.zero_le _, Nat.zero_le _⟩ (fun H locs hP hD hS => ?_)
      obtain ⟨hi9, hf⟩ := ck_some hf
      refine us_I hx hb hK hP hD hS (by decide) (by decide) hi9 d_M_receive_66 (fun H locs hP hD hS => ?_)
      obtain ⟨w30, e30, hf⟩ := lt_some hf
      rw [← e30] at hP hD
      exact wb_M_receive_67 C0 hR N S hSg G hG _ _ _ _ _ hf H locs hP hD hS ls (lv_sub hl [3, 5, 2, 1] rfl)
def fm_M_receive (N : Nat) (S : SG_M_behind) (u : MS) (v1 : Int32) (v2 : Int32) : Option (MS × Int32) := fb_M_receive_0 N S () u v1 v2
set_option maxRecDepth 100000 in
set_option maxHeartbeats 4000000 in
theorem cs_M_receive (N : Nat) {d : Nat} {l : Launch} {D : va_G} {cl : List vw_C} {cB cI cJ cZ cS : ClassId} {iM h0 : Nat} {ad : Nat → Nat} {u : MS} {sz : Nat} {v1 : Int32} {v2 : Int32} {x : MS × Int32} (hM : cl[iM]? = some (R_M, F_M, 171)) (S : SG_M_behind) (hSg : HS_M_behind l D cl cB cI cJ cZ cS iM h0 ad (rg_M_behind d) S) (hf : fm_M_receive N S u v1 v2 = some x) : Met l y_M_receive (wd_ws y_M_receive b_M_receive 9 (some .int)) (rg_M_behind (d + 1)) (mPc D cl cB cI cJ cZ cS iM h0 ad u sz [.ref h0, .int v1, .int v2]) (mQi D cl cB cI cJ cZ cS iM h0 ad (mA cB cI cJ cZ cS iM h0 ad u sz) x) 0 0 (mA cB cI cJ cZ cS iM h0 ad u sz) :=
  mMet (by decide) rfl hM (Nat.le_of_ble_eq_true rfl) (fun p e s m below meth c ls hsz C0 hP hD hS hl => by
    have hR : (rg_M_behind (d + 1)) = (rg_M_behind (d + 1)) := rfl
    exact wb_M_receive_0 C0 hR N S hSg () trivial u _ _ x hf s.heap [] hP hD hS ls (lv_sub hl [0, 1, 2] rfl))
theorem rm_M_body_M_beginsUnit {R : Room} {d : Nat} (hR : R = rg_M_behind (d + 1)) : (rm_M_beginsUnit).frames + 1 ≤ R.frames ∧ 8 + (1 + 11) + (rm_M_beginsUnit).locals ≤ R.locals := by
  subst hR
  have h1 : (rm_M_beginsUnit).frames = 1 := rfl
  have h2 : (rm_M_beginsUnit).locals = 21 := rfl
  show (rm_M_beginsUnit).frames + 1 ≤ 94 + (d + 1) ∧ 8 + (1 + 11) + (rm_M_beginsUnit).locals ≤ 2494 + 29 * (d + 1)
  omega
theorem rm_M_body_M_isWord {R : Room} {d : Nat} (hR : R = rg_M_behind (d + 1)) : (rm_M_isWord).frames + 1 ≤ R.frames ∧ 8 + (2 + 11) + (rm_M_isWord).locals ≤ R.locals := by
  subst hR
  have h1 : (rm_M_isWord).frames = 0 := rfl
  have h2 : (rm_M_isWord).locals = 0 := rfl
  show (rm_M_isWord).frames + 1 ≤ 94 + (d + 1) ∧ 8 + (2 + 11) + (rm_M_isWord).locals ≤ 2494 + 29 * (d + 1)
  omega
theorem rm_M_body_M_wrong {R : Room} {d : Nat} (hR : R = rg_M_behind (d + 1)) : (rm_M_wrong).frames + 1 ≤ R.frames ∧ 8 + (2 + 11) + (rm_M_wrong).locals ≤ R.locals := by
  subst hR
  have h1 : (rm_M_wrong).frames = 0 := rfl
  have h2 : (rm_M_wrong).locals = 0 := rfl
  show (rm_M_wrong).frames + 1 ≤ 94 + (d + 1) ∧ 8 + (2 + 11) + (rm_M_wrong).locals ≤ 2494 + 29 * (d + 1)
  omega
theorem rm_M_body_M_opens {R : Room} {d : Nat} (hR : R = rg_M_behind (d + 1)) : (rm_M_opens).frames + 1 ≤ R.frames ∧ 8 + (1 + 11) + (rm_M_opens).locals ≤ R.locals := by
  subst hR
  have h1 : (rm_M_opens).frames = 1 := rfl
  have h2 : (rm_M_opens).locals = 21 := rfl
  show (rm_M_opens).frames + 1 ≤ 94 + (d + 1) ∧ 8 + (1 + 11) + (rm_M_opens).locals ≤ 2494 + 29 * (d + 1)
  omega
theorem rm_M_body_M_takeSign {R : Room} {d : Nat} (hR : R = rg_M_behind (d + 1)) : (rm_M_takeSign).frames + 1 ≤ R.frames ∧ 8 + (2 + 11) + (rm_M_takeSign).locals ≤ R.locals := by
  subst hR
  have h1 : (rm_M_takeSign).frames = 1 := rfl
  have h2 : (rm_M_takeSign).locals = 21 := rfl
  show (rm_M_takeSign).frames + 1 ≤ 94 + (d + 1) ∧ 8 + (2 + 11) + (rm_M_takeSign).locals ≤ 2494 + 29 * (d + 1)
  omega
theorem rm_M_body_M_node {R : Room} {d : Nat} (hR : R = rg_M_behind (d + 1)) : (rm_M_node).frames + 1 ≤ R.frames ∧ 8 + (3 + 11) + (rm_M_node).locals ≤ R.locals := by
  subst hR
  have h1 : (rm_M_node).frames = 0 := rfl
  have h2 : (rm_M_node).locals = 0 := rfl
  show (rm_M_node).frames + 1 ≤ 94 + (d + 1) ∧ 8 + (3 + 11) + (rm_M_node).locals ≤ 2494 + 29 * (d + 1)
  omega
theorem rm_M_body_M_expression {R : Room} {d : Nat} (hR : R = rg_M_behind (d + 1)) : (rg_M_behind d).frames + 1 ≤ R.frames ∧ 8 + (4 + 11) + (rg_M_behind d).locals ≤ R.locals := by
  subst hR
  show 94 + d + 1 ≤ 94 + (d + 1) ∧ 8 + (4 + 11) + (2494 + 29 * d) ≤ 2494 + 29 * (d + 1)
  omega
def fb_M_body_40 (N : Nat) (S : SG_M_behind) (G : (MS → Int32 → Option (MS × Int32))) (u : MS) (v1 : Int32) : Option (MS × Int32) := bnd (fm_M_takeSign N u 6) (fun u1 r1 => br (decide (r1 = 0)) (lt (upI u1 70 ((u1.1 70) - 1)) (fun w2 => some (w2, v1))) (bnd (fm_M_node N u1 17 (u1.1 69)) (fun u3 r3 => bnd (S.2.2.2.2.2.2.2.2.2.2.2.2.2.1 u3) (fun u4 r4 => G u4 (r4)))))
set_option maxRecDepth 100000 in
set_option maxHeartbeats 4000000 in
theorem wb_M_body_40 {p : Program} {l : Launch} {e : Env} {R : Room} {s : State} {m : MethodId} {args : Array Value} {below : List Frame} {meth : Method} {c : Code} {D : va_G} {cl : List vw_C} {cB cI cJ cZ cS : ClassId} {A : Nat → Prop} {iM h0 : Nat} {ad : Nat → Nat} (C0 : MCx p s m args meth c b_M_body 3 (some .int) D cl cB cI cJ cZ cS iM A) {d : Nat} (hR : R = rg_M_behind (d + 1)) (N : Nat) (S : SG_M_behind) (hSg : HS_M_behind l D cl cB cI cJ cZ cS iM h0 ad (rg_M_behind d) S) (G : (MS → Int32 → Option (MS × Int32))) (hG : (∀ (u : MS) (v1 : Int32) (x : MS × Int32), G u v1 = some x → ∀ (H : Heap) (locs : List Loc), va_P D cl (wM cB cI cJ cZ cS iM h0 ad u) H → va_D A (wM cB cI cJ cZ cS iM h0 ad u) → va_S A s.heap H locs → ∀ (ls : Array Slot), lv_has ls 3 [(0, .ref h0), (1, .int v1)] → W p l e R s m args below meth c H locs 0 0 (MQ below (mQi D cl cB cI cJ cZ cS iM h0 ad A x) args s 0 0 A) (F0 m 40 ls []))) : ∀ (u : MS) (v1 : Int32) (x : MS × Int32), fb_M_body_40 N S G u v1 = some x → ∀ (H : Heap) (locs : List Loc), va_P D cl (wM cB cI cJ cZ cS iM h0 ad u) H → va_D A (wM cB cI cJ cZ cS iM h0 ad u) → va_S A s.heap H locs → ∀ (ls : Array Slot), lv_has ls 3 [(0, .ref h0), (1, .int v1)] → W p l e R s m args below meth c H locs 0 0 (MQ below (mQi D cl cB cI cJ cZ cS iM h0 ad A x) args s 0 0 A) (F0 m 40 ls []) := by
  intro u v1 x hf H locs hP hD hS ls hl
  obtain ⟨hx, hb, hr, hml, ht, hown, hM, hK, hA, hlocks⟩ := id C0
  unfold fb_M_body_40 at hf
  refine lv_aload_n hx hb d_M_body_40 rfl (lv_at hl 0 rfl) ?_
  refine lv_bipush (v := 6) hx hb d_M_body_41 (by decide) ?_
  obtain ⟨u1, r1, hc1, hf⟩ := bnd_some hf
  refine mV_i (As := [.int 6]) (rest := []) C0 hP hD hS (c_M_takeSign N hM hc1) k_M_takeSign hl_M_takeSign hi_M_takeSign hs_M_takeSign hini_M rfl rfl hd_M_takeSign rfl (rm_M_body_M_takeSign hR) hl.1 (Nat.le_of_ble_eq_true rfl) d_M_body_43 rfl ⟨Nat.zero_le _, Nat.zero_le _⟩ (fun H locs hP hD hS => ?_)
  refine lv_if_eq (tgt := 68) hx hb d_M_body_46 (by decide) (fun hc => ?_) (fun hc => ?_)
  · rw [br_p _ hc] at hf
    refine lv_aload_n hx hb d_M_body_68 rfl (lv_at hl 0 rfl) ?_
    refine lv_dup hx hb d_M_body_69 rfl ?_
    refine ug_I hx hb ht hown hM hK hP 70 (by decide) lk_M_70 (by decide) d_M_body_70 ?_
    refine lv_iconst (v := 1) hx hb d_M_body_73 (by decide) ?_
    refine lv_isub hx hb d_M_body_74 ?_
    refine up_I hx hb ht hown hM hK hP hD hS 70 (by decide) lk_M_70 (by decide) rfl rfl rfl d_M_body_75 (fun H locs hP hD hS => ?_)
    obtain ⟨w2, e2, hf⟩ := lt_some hf
    rw [← e2] at hP hD
    refine lv_iload_n hx hb d_M_body_78 rfl (lv_at hl 1 rfl) ?_
    exact mr_i C0 hP hD hS hf d_M_body_79
  · rw [br_n _ hc] at hf
    refine lv_aload_n hx hb d_M_body_49 rfl (lv_at hl 0 rfl) ?_
    refine lv_bipush (v := 17) hx hb d_M_body_50 (by decide) ?_
    refine lv_aload_n hx hb d_M_body_52 rfl (lv_at hl 0 rfl) ?_
    refine ug_I hx hb ht hown hM hK hP 69 (by decide) lk_M_69 (by decide) d_M_body_53 ?_
    obtain ⟨u3, r3, hc3, hf⟩ := bnd_some hf
    refine mV_i (As := [.int 17, .int (u1.1 69)]) (rest := []) C0 hP hD hS (c_M_node N hM hc3) k_M_node hl_M_node hi_M_node hs_M_node hini_M rfl rfl hd_M_node rfl (rm_M_body_M_node hR) hl.1 (Nat.le_of_ble_eq_true rfl) d_M_body_56 rfl ⟨Nat.zero_le _, Nat.zero_le _⟩ (fun H locs hP hD hS => ?_)
    refine lv_istore_n (lv' := [(2, .int r3), (0, .ref h0), (1, .int v1)]) hx hb d_M_body_59 rfl hl (by decide) rfl (fun ls hl => ?_)
    refine lv_aload_n hx hb d_M_body_60 rfl (lv_at hl 1 rfl) ?_
    obtain ⟨u4, r4, hc4, hf⟩ := bnd_some hf
    refine mV_i (As := []) (rest := []) C0 hP hD hS (hSg.2.2.2.2.2.2.2.2.2.2.2.2.2.1 _ _ _ hc4) k_M_expression hl_M_expression hi_M_expression hs_M_expression hini_M rfl rfl hd_M_expression rfl (rm_M_body_M_expression hR) hl.1 (Nat.le_of_ble_eq_true rfl) d_M_body_61 rfl ⟨Nat.zero_le _, Nat.zero_le _⟩ (fun H locs hP hD hS => ?_)
    refine lv_istore_n (lv' := [(1, .int r4), (2, .int r3), (0, .ref h0)]) hx hb d_M_body_64 rfl hl (by decide) rfl (fun ls hl => ?_)
    refine lv_goto (tgt := 40) hx hb d_M_body_65 (by decide) ?_
    exact hG _ _ _ hf H locs hP hD hS ls (lv_sub hl [2, 0] rfl)
def fb_M_body_31 (N : Nat) (S : SG_M_behind) (G : (MS → Int32 → Option (MS × Int32))) (u : MS) : Option (MS × Int32) := bnd (fm_M_opens N u) (fun u5 _ => bnd (S.2.2.2.2.2.2.2.2.2.2.2.2.2.1 u5) (fun u6 r6 => G u6 (r6)))
set_option maxRecDepth 100000 in
set_option maxHeartbeats 4000000 in
theorem wb_M_body_31 {p : Program} {l : Launch} {e : Env} {R : Room} {s : State} {m : MethodId} {args : Array Value} {below : List Frame} {meth : Method} {c : Code} {D : va_G} {cl : List vw_C} {cB cI cJ cZ cS : ClassId} {A : Nat → Prop} {iM h0 : Nat} {ad : Nat → Nat} (C0 : MCx p s m args meth c b_M_body 3 (some .int) D cl cB cI cJ cZ cS iM A) {d : Nat} (hR : R = rg_M_behind (d + 1)) (N : Nat) (S : SG_M_behind) (hSg : HS_M_behind l D cl cB cI cJ cZ cS iM h0 ad (rg_M_behind d) S) (G : (MS → Int32 → Option (MS × Int32))) (hG : (∀ (u : MS) (v1 : Int32) (x : MS × Int32), G u v1 = some x → ∀ (H : Heap) (locs : List Loc), va_P D cl (wM cB cI cJ cZ cS iM h0 ad u) H → va_D A (wM cB cI cJ cZ cS iM h0 ad u) → va_S A s.heap H locs → ∀ (ls : Array Slot), lv_has ls 3 [(0, .ref h0), (1, .int v1)] → W p l e R s m args below meth c H locs 0 0 (MQ below (mQi D cl cB cI cJ cZ cS iM h0 ad A x) args s 0 0 A) (F0 m 40 ls []))) : ∀ (u : MS) (x : MS × Int32), fb_M_body_31 N S G u = some x → ∀ (H : Heap) (locs : List Loc), va_P D cl (wM cB cI cJ cZ cS iM h0 ad u) H → va_D A (wM cB cI cJ cZ cS iM h0 ad u) → va_S A s.heap H locs → ∀ (ls : Array Slot), lv_has ls 3 [(0, .ref h0)] → W p l e R s m args below meth c H locs 0 0 (MQ below (mQi D cl cB cI cJ cZ cS iM h0 ad A x) args s 0 0 A) (F0 m 31 ls []) := by
  intro u x hf H locs hP hD hS ls hl
  obtain ⟨hx, hb, hr, hml, ht, hown, hM, hK, hA, hlocks⟩ := id C0
  unfold fb_M_body_31 at hf
  refine lv_aload_n hx hb d_M_body_31 rfl (lv_at hl 0 rfl) ?_
  obtain ⟨u5, r5, hc5, hf⟩ := bnd_some hf
  refine mV_v (As := []) (rest := []) C0 hP hD hS (c_M_opens N hM hc5) k_M_opens hl_M_opens hi_M_opens hs_M_opens hini_M rfl rfl hd_M_opens rfl (rm_M_body_M_opens hR) hl.1 (Nat.le_of_ble_eq_true rfl) d_M_body_32 rfl ⟨Nat.zero_le _, Nat.zero_le _⟩ (fun H locs hP hD hS => ?_)
  refine lv_aload_n hx hb d_M_body_35 rfl (lv_at hl 0 rfl) ?_
  obtain ⟨u6, r6, hc6, hf⟩ := bnd_some hf
  refine mV_i (As := []) (rest := []) C0 hP hD hS (hSg.2.2.2.2.2.2.2.2.2.2.2.2.2.1 _ _ _ hc6) k_M_expression hl_M_expression hi_M_expression hs_M_expression hini_M rfl rfl hd_M_expression rfl (rm_M_body_M_expression hR) hl.1 (Nat.le_of_ble_eq_true rfl) d_M_body_36 rfl ⟨Nat.zero_le _, Nat.zero_le _⟩ (fun H locs hP hD hS => ?_)
  refine lv_istore_n (lv' := [(1, .int r6), (0, .ref h0)]) hx hb d_M_body_39 rfl hl (by decide) rfl (fun ls hl => ?_)
  exact hG _ _ _ hf H locs hP hD hS ls (lv_sub hl [1, 0] rfl)
def fb_M_body_0 (N : Nat) (S : SG_M_behind) (G : (MS → Int32 → Option (MS × Int32))) (u : MS) : Option (MS × Int32) := br (decide ((u.1 67) = 0)) (bnd (fm_M_beginsUnit N u) (fun u7 r7 => br (decide (r7 = 0)) (bnd (fm_M_isWord N u7 4) (fun u8 r8 => br (decide (r8 = 0)) (bnd (fm_M_wrong N u8 2) (fun u9 _ => some (u9, (-1)))) (fb_M_body_31 N S G u8))) (fb_M_body_31 N S G u7))) (some (u, (-1)))
set_option maxRecDepth 100000 in
set_option maxHeartbeats 4000000 in
theorem wb_M_body_0 {p : Program} {l : Launch} {e : Env} {R : Room} {s : State} {m : MethodId} {args : Array Value} {below : List Frame} {meth : Method} {c : Code} {D : va_G} {cl : List vw_C} {cB cI cJ cZ cS : ClassId} {A : Nat → Prop} {iM h0 : Nat} {ad : Nat → Nat} (C0 : MCx p s m args meth c b_M_body 3 (some .int) D cl cB cI cJ cZ cS iM A) {d : Nat} (hR : R = rg_M_behind (d + 1)) (N : Nat) (S : SG_M_behind) (hSg : HS_M_behind l D cl cB cI cJ cZ cS iM h0 ad (rg_M_behind d) S) (G : (MS → Int32 → Option (MS × Int32))) (hG : (∀ (u : MS) (v1 : Int32) (x : MS × Int32), G u v1 = some x → ∀ (H : Heap) (locs : List Loc), va_P D cl (wM cB cI cJ cZ cS iM h0 ad u) H → va_D A (wM cB cI cJ cZ cS iM h0 ad u) → va_S A s.heap H locs → ∀ (ls : Array Slot), lv_has ls 3 [(0, .ref h0), (1, .int v1)] → W p l e R s m args below meth c H locs 0 0 (MQ below (mQi D cl cB cI cJ cZ cS iM h0 ad A x) args s 0 0 A) (F0 m 40 ls []))) : ∀ (u : MS) (x : MS × Int32), fb_M_body_0 N S G u = some x → ∀ (H : Heap) (locs : List Loc), va_P D cl (wM cB cI cJ cZ cS iM h0 ad u) H → va_D A (wM cB cI cJ cZ cS iM h0 ad u) → va_S A s.heap H locs → ∀ (ls : Array Slot), lv_has ls 3 [(0, .ref h0)] → W p l e R s m args below meth c H locs 0 0 (MQ below (mQi D cl cB cI cJ cZ cS iM h0 ad A x) args s 0 0 A) (F0 m 0 ls []) := by
  intro u x hf H locs hP hD hS ls hl
  obtain ⟨hx, hb, hr, hml, ht, hown, hM, hK, hA, hlocks⟩ := id C0
  unfold fb_M_body_0 at hf
  refine lv_aload_n hx hb d_M_body_0 rfl (lv_at hl 0 rfl) ?_
  refine ug_I hx hb ht hown hM hK hP 67 (by decide) lk_M_67 (by decide) d_M_body_1 ?_
  refine lv_if_eq (tgt := 9) hx hb d_M_body_4 (by decide) (fun hc => ?_) (fun hc => ?_)
  · rw [br_p _ hc] at hf
    refine lv_aload_n hx hb d_M_body_9 rfl (lv_at hl 0 rfl) ?_
    obtain ⟨u7, r7, hc7, hf⟩ := bnd_some hf
    refine mV_i (As := []) (rest := []) C0 hP hD hS (c_M_beginsUnit N hM hc7) k_M_beginsUnit hl_M_beginsUnit hi_M_beginsUnit hs_M_beginsUnit hini_M rfl rfl hd_M_beginsUnit rfl (rm_M_body_M_beginsUnit hR) hl.1 (Nat.le_of_ble_eq_true rfl) d_M_body_10 rfl ⟨Nat.zero_le _, Nat.zero_le _⟩ (fun H locs hP hD hS => ?_)
    refine lv_if_ne (tgt := 31) hx hb d_M_body_13 (by decide) (fun hc => ?_) (fun hc => ?_)
    · rw [br_n _ hc] at hf
      exact wb_M_body_31 C0 hR N S hSg G hG _ _ hf H locs hP hD hS ls (lv_sub hl [0] rfl)
    · rw [br_p _ hc] at hf
      refine lv_aload_n hx hb d_M_body_16 rfl (lv_at hl 0 rfl) ?_
      refine lv_iconst (v := 4) hx hb d_M_body_17 (by decide) ?_
      obtain ⟨u8, r8, hc8, hf⟩ := bnd_some hf
      refine mV_i (As := [.int 4]) (rest := []) C0 hP hD hS (c_M_isWord N hM hc8) k_M_isWord hl_M_isWord hi_M_isWord hs_M_isWord hini_M rfl rfl hd_M_isWord rfl (rm_M_body_M_isWord hR) hl.1 (Nat.le_of_ble_eq_true rfl) d_M_body_18 rfl ⟨Nat.zero_le _, Nat.zero_le _⟩ (fun H locs hP hD hS => ?_)
      refine lv_if_ne (tgt := 31) hx hb d_M_body_21 (by decide) (fun hc => ?_) (fun hc => ?_)
      · rw [br_n _ hc] at hf
        exact wb_M_body_31 C0 hR N S hSg G hG _ _ hf H locs hP hD hS ls (lv_sub hl [0] rfl)
      · rw [br_p _ hc] at hf
        refine lv_aload_n hx hb d_M_body_24 rfl (lv_at hl 0 rfl) ?_
        refine lv_iconst (v := 2) hx hb d_M_body_25 (by decide) ?_
        obtain ⟨u9, r9, hc9, hf⟩ := bnd_some hf
        refine mV_v (As := [.int 2]) (rest := []) C0 hP hD hS (c_M_wrong N hM hc9) k_M_wrong hl_M_wrong hi_M_wrong hs_M_wrong hini_M rfl rfl hd_M_wrong rfl (rm_M_body_M_wrong hR) hl.1 (Nat.le_of_ble_eq_true rfl) d_M_body_26 rfl ⟨Nat.zero_le _, Nat.zero_le _⟩ (fun H locs hP hD hS => ?_)
        refine lv_iconst (v := (-1)) hx hb d_M_body_29 (by decide) ?_
        exact mr_i C0 hP hD hS hf d_M_body_30
  · rw [br_n _ hc] at hf
    refine lv_iconst (v := (-1)) hx hb d_M_body_7 (by decide) ?_
    exact mr_i C0 hP hD hS hf d_M_body_8
def gg_M_body (N : Nat) (S : SG_M_behind) : Nat → ((MS → Int32 → Option (MS × Int32)))
  | 0 => fun _ _ => none
  | n + 1 => fb_M_body_40 N S (gg_M_body N S n)
theorem wg_M_body {p : Program} {l : Launch} {e : Env} {R : Room} {s : State} {m : MethodId} {args : Array Value} {below : List Frame} {meth : Method} {c : Code} {D : va_G} {cl : List vw_C} {cB cI cJ cZ cS : ClassId} {A : Nat → Prop} {iM h0 : Nat} {ad : Nat → Nat} (C0 : MCx p s m args meth c b_M_body 3 (some .int) D cl cB cI cJ cZ cS iM A) {d : Nat} (hR : R = rg_M_behind (d + 1)) (N : Nat) (S : SG_M_behind) (hSg : HS_M_behind l D cl cB cI cJ cZ cS iM h0 ad (rg_M_behind d) S) : ∀ n : Nat, (∀ (u : MS) (v1 : Int32) (x : MS × Int32), gg_M_body N S n u v1 = some x → ∀ (H : Heap) (locs : List Loc), va_P D cl (wM cB cI cJ cZ cS iM h0 ad u) H → va_D A (wM cB cI cJ cZ cS iM h0 ad u) → va_S A s.heap H locs → ∀ (ls : Array Slot), lv_has ls 3 [(0, .ref h0), (1, .int v1)] → W p l e R s m args below meth c H locs 0 0 (MQ below (mQi D cl cB cI cJ cZ cS iM h0 ad A x) args s 0 0 A) (F0 m 40 ls []))
  | 0 => (fun u v1 x hf => by cases hf)
  | n + 1 => wb_M_body_40 C0 hR N S hSg (gg_M_body N S n) (wg_M_body C0 hR N S hSg n)
def fm_M_body (N : Nat) (S : SG_M_behind) (u : MS) : Option (MS × Int32) := fb_M_body_0 N S (gg_M_body N S N) u
set_option maxRecDepth 100000 in
set_option maxHeartbeats 4000000 in
theorem cs_M_body (N : Nat) {d : Nat} {l : Launch} {D : va_G} {cl : List vw_C} {cB cI cJ cZ cS : ClassId} {iM h0 : Nat} {ad : Nat → Nat} {u : MS} {sz : Nat} {x : MS × Int32} (hM : cl[iM]? = some (R_M, F_M, 171)) (S : SG_M_behind) (hSg : HS_M_behind l D cl cB cI cJ cZ cS iM h0 ad (rg_M_behind d) S) (hf : fm_M_body N S u = some x) : Met l y_M_body (wd_ws y_M_body b_M_body 3 (some .int)) (rg_M_behind (d + 1)) (mPc D cl cB cI cJ cZ cS iM h0 ad u sz [.ref h0]) (mQi D cl cB cI cJ cZ cS iM h0 ad (mA cB cI cJ cZ cS iM h0 ad u sz) x) 0 0 (mA cB cI cJ cZ cS iM h0 ad u sz) :=
  mMet (by decide) rfl hM (Nat.le_of_ble_eq_true rfl) (fun p e s m below meth c ls hsz C0 hP hD hS hl => by
    have hR : (rg_M_behind (d + 1)) = (rg_M_behind (d + 1)) := rfl
    exact wb_M_body_0 C0 hR N S hSg (gg_M_body N S N) (wg_M_body C0 hR N S hSg N) u x hf s.heap [] hP hD hS ls (lv_sub hl [0] rfl))
theorem rm_M_block_M_wrong {R : Room} {d : Nat} (hR : R = rg_M_behind (d + 1)) : (rm_M_wrong).frames + 1 ≤ R.frames ∧ 8 + (2 + 11) + (rm_M_wrong).locals ≤ R.locals := by
  subst hR
  have h1 : (rm_M_wrong).frames = 0 := rfl
  have h2 : (rm_M_wrong).locals = 0 := rfl
  show (rm_M_wrong).frames + 1 ≤ 94 + (d + 1) ∧ 8 + (2 + 11) + (rm_M_wrong).locals ≤ 2494 + 29 * (d + 1)
  omega
theorem rm_M_block_M_needWord {R : Room} {d : Nat} (hR : R = rg_M_behind (d + 1)) : (rm_M_needWord).frames + 1 ≤ R.frames ∧ 8 + (2 + 11) + (rm_M_needWord).locals ≤ R.locals := by
  subst hR
  have h1 : (rm_M_needWord).frames = 2 := rfl
  have h2 : (rm_M_needWord).locals = 42 := rfl
  show (rm_M_needWord).frames + 1 ≤ 94 + (d + 1) ∧ 8 + (2 + 11) + (rm_M_needWord).locals ≤ 2494 + 29 * (d + 1)
  omega
theorem rm_M_block_M_unbind {R : Room} {d : Nat} (hR : R = rg_M_behind (d + 1)) : (rm_M_unbind).frames + 1 ≤ R.frames ∧ 8 + (3 + 11) + (rm_M_unbind).locals ≤ R.locals := by
  subst hR
  have h1 : (rm_M_unbind).frames = 1 := rfl
  have h2 : (rm_M_unbind).locals = 22 := rfl
  show (rm_M_unbind).frames + 1 ≤ 94 + (d + 1) ∧ 8 + (3 + 11) + (rm_M_unbind).locals ≤ 2494 + 29 * (d + 1)
  omega
theorem rm_M_block_M_node {R : Room} {d : Nat} (hR : R = rg_M_behind (d + 1)) : (rm_M_node).frames + 1 ≤ R.frames ∧ 8 + (3 + 11) + (rm_M_node).locals ≤ R.locals := by
  subst hR
  have h1 : (rm_M_node).frames = 0 := rfl
  have h2 : (rm_M_node).locals = 0 := rfl
  show (rm_M_node).frames + 1 ≤ 94 + (d + 1) ∧ 8 + (3 + 11) + (rm_M_node).locals ≤ 2494 + 29 * (d + 1)
  omega
theorem rm_M_block_M_addRoot {R : Room} {d : Nat} (hR : R = rg_M_behind (d + 1)) : (rm_M_addRoot).frames + 1 ≤ R.frames ∧ 8 + (3 + 11) + (rm_M_addRoot).locals ≤ R.locals := by
  subst hR
  have h1 : (rm_M_addRoot).frames = 0 := rfl
  have h2 : (rm_M_addRoot).locals = 0 := rfl
  show (rm_M_addRoot).frames + 1 ≤ 94 + (d + 1) ∧ 8 + (3 + 11) + (rm_M_addRoot).locals ≤ 2494 + 29 * (d + 1)
  omega
theorem rm_M_block_M_body {R : Room} {d : Nat} (hR : R = rg_M_behind (d + 1)) : (rg_M_behind d).frames + 1 ≤ R.frames ∧ 8 + (3 + 11) + (rg_M_behind d).locals ≤ R.locals := by
  subst hR
  show 94 + d + 1 ≤ 94 + (d + 1) ∧ 8 + (3 + 11) + (2494 + 29 * d) ≤ 2494 + 29 * (d + 1)
  omega
theorem rm_M_block_M_expression {R : Room} {d : Nat} (hR : R = rg_M_behind (d + 1)) : (rg_M_behind d).frames + 1 ≤ R.frames ∧ 8 + (4 + 11) + (rg_M_behind d).locals ≤ R.locals := by
  subst hR
  show 94 + d + 1 ≤ 94 + (d + 1) ∧ 8 + (4 + 11) + (2494 + 29 * d) ≤ 2494 + 29 * (d + 1)
  omega
theorem rm_M_block_M_receive {R : Room} {d : Nat} (hR : R = rg_M_behind (d + 1)) : (rg_M_behind d).frames + 1 ≤ R.frames ∧ 8 + (9 + 11) + (rg_M_behind d).locals ≤ R.locals := by
  subst hR
  show 94 + d + 1 ≤ 94 + (d + 1) ∧ 8 + (9 + 11) + (2494 + 29 * d) ≤ 2494 + 29 * (d + 1)
  omega
theorem rm_M_block_M_parts0 {R : Room} {d : Nat} (hR : R = rg_M_behind (d + 1)) : (rg_M_behind d).frames + 1 ≤ R.frames ∧ 8 + (10 + 11) + (rg_M_behind d).locals ≤ R.locals := by
  subst hR
  show 94 + d + 1 ≤ 94 + (d + 1) ∧ 8 + (10 + 11) + (2494 + 29 * d) ≤ 2494 + 29 * (d + 1)
  omega
def fb_M_block_186 (N : Nat) (S : SG_M_behind) (G : Unit) (u : MS) (v5 : Int32) (t1 : Int32) : Option (MS × Int32) := bnd (S.2.2.1 u t1 v5) (fun u1 r1 => bnd (fm_M_needWord N u1 6) (fun u2 _ => ck (inb v5 (ln 25)) (lt (upA u2 25 (upd (u2.2.2.1 25) v5.toNatClampNeg r1)) (fun w3 => ck (inb v5 (ln 26)) (lt (upA w3 26 (upd (w3.2.2.1 26) v5.toNatClampNeg (w3.1 32))) (fun w4 => bnd (fm_M_node N w4 30 (w4.1 69)) (fun u5 r5 => ck (inb v5 (ln 28)) (ck (inb r5 (ln 28)) (lt (upA u5 28 (upd (u5.2.2.1 28) r5.toNatClampNeg (u5.2.2.1 28 v5.toNatClampNeg))) (fun w6 => some (w6, r5)))))))))))
set_option maxRecDepth 100000 in
set_option maxHeartbeats 4000000 in
theorem wb_M_block_186 {p : Program} {l : Launch} {e : Env} {R : Room} {s : State} {m : MethodId} {args : Array Value} {below : List Frame} {meth : Method} {c : Code} {D : va_G} {cl : List vw_C} {cB cI cJ cZ cS : ClassId} {A : Nat → Prop} {iM h0 : Nat} {ad : Nat → Nat} (C0 : MCx p s m args meth c b_M_block 8 (some .int) D cl cB cI cJ cZ cS iM A) {d : Nat} (hR : R = rg_M_behind (d + 1)) (N : Nat) (S : SG_M_behind) (hSg : HS_M_behind l D cl cB cI cJ cZ cS iM h0 ad (rg_M_behind d) S) (G : Unit) (hG : True) : ∀ (u : MS) (v5 : Int32) (t1 : Int32) (x : MS × Int32), fb_M_block_186 N S G u v5 t1 = some x → ∀ (H : Heap) (locs : List Loc), va_P D cl (wM cB cI cJ cZ cS iM h0 ad u) H → va_D A (wM cB cI cJ cZ cS iM h0 ad u) → va_S A s.heap H locs → ∀ (ls : Array Slot), lv_has ls 8 [(0, .ref h0), (5, .int v5)] → W p l e R s m args below meth c H locs 0 0 (MQ below (mQi D cl cB cI cJ cZ cS iM h0 ad A x) args s 0 0 A) (F0 m 186 ls [.int t1, .ref h0]) := by
  intro u v5 t1 x hf H locs hP hD hS ls hl
  obtain ⟨hx, hb, hr, hml, ht, hown, hM, hK, hA, hlocks⟩ := id C0
  unfold fb_M_block_186 at hf
  refine lv_iload hx hb d_M_block_186 (lv_at hl 1 rfl) ?_
  obtain ⟨u1, r1, hc1, hf⟩ := bnd_some hf
  refine mV_i (As := [.int t1, .int v5]) (rest := []) C0 hP hD hS (hSg.2.2.1 _ _ _ _ _ hc1) k_M_parts0 hl_M_parts0 hi_M_parts0 hs_M_parts0 hini_M rfl rfl hd_M_parts0 rfl (rm_M_block_M_parts0 hR) hl.1 (Nat.le_of_ble_eq_true rfl) d_M_block_188 rfl ⟨Nat.zero_le _, Nat.zero_le _⟩ (fun H locs hP hD hS => ?_)
  refine lv_istore (lv' := [(6, .int r1), (0, .ref h0), (5, .int v5)]) hx hb d_M_block_191 hl (by decide) rfl (fun ls hl => ?_)
  refine lv_aload_n hx hb d_M_block_193 rfl (lv_at hl 1 rfl) ?_
  refine lv_bipush (v := 6) hx hb d_M_block_194 (by decide) ?_
  obtain ⟨u2, r2, hc2, hf⟩ := bnd_some hf
  refine mV_v (As := [.int 6]) (rest := []) C0 hP hD hS (c_M_needWord N hM hc2) k_M_needWord hl_M_needWord hi_M_needWord hs_M_needWord hini_M rfl rfl hd_M_needWord rfl (rm_M_block_M_needWord hR) hl.1 (Nat.le_of_ble_eq_true rfl) d_M_block_196 rfl ⟨Nat.zero_le _, Nat.zero_le _⟩ (fun H locs hP hD hS => ?_)
  refine lv_aload_n hx hb d_M_block_199 rfl (lv_at hl 1 rfl) ?_
  refine ug_R hx hb ht hown hM hK hP 25 (by decide) lk_M_25 (by decide) d_M_block_200 ?_
  refine lv_iload hx hb d_M_block_203 (lv_at hl 2 rfl) ?_
  refine lv_iload hx hb d_M_block_205 (lv_at hl 0 rfl) ?_
  obtain ⟨hi9, hf⟩ := ck_some hf
  refine us_I hx hb hK hP hD hS (by decide) (by decide) hi9 d_M_block_207 (fun H locs hP hD hS => ?_)
  obtain ⟨w3, e3, hf⟩ := lt_some hf
  rw [← e3] at hP hD
  refine lv_aload_n hx hb d_M_block_208 rfl (lv_at hl 1 rfl) ?_
  refine ug_R hx hb ht hown hM hK hP 26 (by decide) lk_M_26 (by decide) d_M_block_209 ?_
  refine lv_iload hx hb d_M_block_212 (lv_at hl 2 rfl) ?_
  refine lv_aload_n hx hb d_M_block_214 rfl (lv_at hl 1 rfl) ?_
  refine ug_I hx hb ht hown hM hK hP 32 (by decide) lk_M_32 (by decide) d_M_block_215 ?_
  obtain ⟨hi9, hf⟩ := ck_some hf
  refine us_I hx hb hK hP hD hS (by decide) (by decide) hi9 d_M_block_218 (fun H locs hP hD hS => ?_)
  obtain ⟨w4, e4, hf⟩ := lt_some hf
  rw [← e4] at hP hD
  refine lv_aload_n hx hb d_M_block_219 rfl (lv_at hl 1 rfl) ?_
  refine lv_bipush (v := 30) hx hb d_M_block_220 (by decide) ?_
  refine lv_aload_n hx hb d_M_block_222 rfl (lv_at hl 1 rfl) ?_
  refine ug_I hx hb ht hown hM hK hP 69 (by decide) lk_M_69 (by decide) d_M_block_223 ?_
  obtain ⟨u5, r5, hc5, hf⟩ := bnd_some hf
  refine mV_i (As := [.int 30, .int (w4.1 69)]) (rest := []) C0 hP hD hS (c_M_node N hM hc5) k_M_node hl_M_node hi_M_node hs_M_node hini_M rfl rfl hd_M_node rfl (rm_M_block_M_node hR) hl.1 (Nat.le_of_ble_eq_true rfl) d_M_block_226 rfl ⟨Nat.zero_le _, Nat.zero_le _⟩ (fun H locs hP hD hS => ?_)
  refine lv_istore (lv' := [(7, .int r5), (6, .int r1), (0, .ref h0), (5, .int v5)]) hx hb d_M_block_229 hl (by decide) rfl (fun ls hl => ?_)
  refine lv_aload_n hx hb d_M_block_231 rfl (lv_at hl 2 rfl) ?_
  refine ug_R hx hb ht hown hM hK hP 28 (by decide) lk_M_28 (by decide) d_M_block_232 ?_
  refine lv_iload hx hb d_M_block_235 (lv_at hl 0 rfl) ?_
  refine lv_aload_n hx hb d_M_block_237 rfl (lv_at hl 2 rfl) ?_
  refine ug_R hx hb ht hown hM hK hP 28 (by decide) lk_M_28 (by decide) d_M_block_238 ?_
  refine lv_iload hx hb d_M_block_241 (lv_at hl 3 rfl) ?_
  obtain ⟨hi9, hf⟩ := ck_some hf
  refine ul_I hx hb hK hP (by decide) (by decide) hi9 d_M_block_243 ?_
  obtain ⟨hi9, hf⟩ := ck_some hf
  refine us_I hx hb hK hP hD hS (by decide) (by decide) hi9 d_M_block_244 (fun H locs hP hD hS => ?_)
  obtain ⟨w6, e6, hf⟩ := lt_some hf
  rw [← e6] at hP hD
  refine lv_iload hx hb d_M_block_245 (lv_at hl 0 rfl) ?_
  exact mr_i C0 hP hD hS hf d_M_block_247
def fb_M_block_160 (N : Nat) (S : SG_M_behind) (G : Unit) (u : MS) (v1 : Int32) (v2 : Int32) (v3 : Int32) (t1 : Int32) : Option (MS × Int32) := bnd (fm_M_node N u t1 v1) (fun u7 r7 => ck (inb r7 (ln 27)) (lt (upA u7 27 (upd (u7.2.2.1 27) r7.toNatClampNeg v2)) (fun w8 => br (decide (v3 = 8)) (fb_M_block_186 N S G w8 (r7) (1)) (fb_M_block_186 N S G w8 (r7) (0)))))
set_option maxRecDepth 100000 in
set_option maxHeartbeats 4000000 in
theorem wb_M_block_160 {p : Program} {l : Launch} {e : Env} {R : Room} {s : State} {m : MethodId} {args : Array Value} {below : List Frame} {meth : Method} {c : Code} {D : va_G} {cl : List vw_C} {cB cI cJ cZ cS : ClassId} {A : Nat → Prop} {iM h0 : Nat} {ad : Nat → Nat} (C0 : MCx p s m args meth c b_M_block 8 (some .int) D cl cB cI cJ cZ cS iM A) {d : Nat} (hR : R = rg_M_behind (d + 1)) (N : Nat) (S : SG_M_behind) (hSg : HS_M_behind l D cl cB cI cJ cZ cS iM h0 ad (rg_M_behind d) S) (G : Unit) (hG : True) : ∀ (u : MS) (v1 : Int32) (v2 : Int32) (v3 : Int32) (t1 : Int32) (x : MS × Int32), fb_M_block_160 N S G u v1 v2 v3 t1 = some x → ∀ (H : Heap) (locs : List Loc), va_P D cl (wM cB cI cJ cZ cS iM h0 ad u) H → va_D A (wM cB cI cJ cZ cS iM h0 ad u) → va_S A s.heap H locs → ∀ (ls : Array Slot), lv_has ls 8 [(0, .ref h0), (1, .int v1), (2, .int v2), (3, .int v3)] → W p l e R s m args below meth c H locs 0 0 (MQ below (mQi D cl cB cI cJ cZ cS iM h0 ad A x) args s 0 0 A) (F0 m 160 ls [.int t1, .ref h0]) := by
  intro u v1 v2 v3 t1 x hf H locs hP hD hS ls hl
  obtain ⟨hx, hb, hr, hml, ht, hown, hM, hK, hA, hlocks⟩ := id C0
  unfold fb_M_block_160 at hf
  refine lv_iload_n hx hb d_M_block_160 rfl (lv_at hl 1 rfl) ?_
  obtain ⟨u7, r7, hc7, hf⟩ := bnd_some hf
  refine mV_i (As := [.int t1, .int v1]) (rest := []) C0 hP hD hS (c_M_node N hM hc7) k_M_node hl_M_node hi_M_node hs_M_node hini_M rfl rfl hd_M_node rfl (rm_M_block_M_node hR) hl.1 (Nat.le_of_ble_eq_true rfl) d_M_block_161 rfl ⟨Nat.zero_le _, Nat.zero_le _⟩ (fun H locs hP hD hS => ?_)
  refine lv_istore (lv' := [(5, .int r7), (0, .ref h0), (1, .int v1), (2, .int v2), (3, .int v3)]) hx hb d_M_block_164 hl (by decide) rfl (fun ls hl => ?_)
  refine lv_aload_n hx hb d_M_block_166 rfl (lv_at hl 1 rfl) ?_
  refine ug_R hx hb ht hown hM hK hP 27 (by decide) lk_M_27 (by decide) d_M_block_167 ?_
  refine lv_iload hx hb d_M_block_170 (lv_at hl 0 rfl) ?_
  refine lv_iload_n hx hb d_M_block_172 rfl (lv_at hl 3 rfl) ?_
  obtain ⟨hi9, hf⟩ := ck_some hf
  refine us_I hx hb hK hP hD hS (by decide) (by decide) hi9 d_M_block_173 (fun H locs hP hD hS => ?_)
  obtain ⟨w8, e8, hf⟩ := lt_some hf
  rw [← e8] at hP hD
  refine lv_aload_n hx hb d_M_block_174 rfl (lv_at hl 1 rfl) ?_
  refine lv_iload_n hx hb d_M_block_175 rfl (lv_at hl 4 rfl) ?_
  refine lv_bipush (v := 8) hx hb d_M_block_176 (by decide) ?_
  refine lv_icmp_ne (tgt := 185) hx hb d_M_block_178 (by decide) (fun hc => ?_) (fun hc => ?_)
  · rw [br_n _ hc] at hf
    refine lv_iconst (v := 0) hx hb d_M_block_185 (by decide) ?_
    exact wb_M_block_186 C0 hR N S hSg G hG _ _ _ _ hf H locs hP hD hS ls (lv_sub hl [1, 0] rfl)
  · rw [br_p _ hc] at hf
    refine lv_iconst (v := 1) hx hb d_M_block_181 (by decide) ?_
    refine lv_goto (tgt := 186) hx hb d_M_block_182 (by decide) ?_
    exact wb_M_block_186 C0 hR N S hSg G hG _ _ _ _ hf H locs hP hD hS ls (lv_sub hl [1, 0] rfl)
def fb_M_block_131 (N : Nat) (S : SG_M_behind) (G : Unit) (u : MS) (v1 : Int32) (v2 : Int32) (v3 : Int32) : Option (MS × Int32) := br (decide (v3 = 12)) (bnd (S.2.2.2.1 u v1 v2) (fun u9 r9 => some (u9, r9))) (br (decide (v3 = 3)) (fb_M_block_160 N S G u (v1) (v2) (v3) (21)) (fb_M_block_160 N S G u (v1) (v2) (v3) (31)))
set_option maxRecDepth 100000 in
set_option maxHeartbeats 4000000 in
theorem wb_M_block_131 {p : Program} {l : Launch} {e : Env} {R : Room} {s : State} {m : MethodId} {args : Array Value} {below : List Frame} {meth : Method} {c : Code} {D : va_G} {cl : List vw_C} {cB cI cJ cZ cS : ClassId} {A : Nat → Prop} {iM h0 : Nat} {ad : Nat → Nat} (C0 : MCx p s m args meth c b_M_block 8 (some .int) D cl cB cI cJ cZ cS iM A) {d : Nat} (hR : R = rg_M_behind (d + 1)) (N : Nat) (S : SG_M_behind) (hSg : HS_M_behind l D cl cB cI cJ cZ cS iM h0 ad (rg_M_behind d) S) (G : Unit) (hG : True) : ∀ (u : MS) (v1 : Int32) (v2 : Int32) (v3 : Int32) (x : MS × Int32), fb_M_block_131 N S G u v1 v2 v3 = some x → ∀ (H : Heap) (locs : List Loc), va_P D cl (wM cB cI cJ cZ cS iM h0 ad u) H → va_D A (wM cB cI cJ cZ cS iM h0 ad u) → va_S A s.heap H locs → ∀ (ls : Array Slot), lv_has ls 8 [(0, .ref h0), (1, .int v1), (2, .int v2), (3, .int v3)] → W p l e R s m args below meth c H locs 0 0 (MQ below (mQi D cl cB cI cJ cZ cS iM h0 ad A x) args s 0 0 A) (F0 m 131 ls []) := by
  intro u v1 v2 v3 x hf H locs hP hD hS ls hl
  obtain ⟨hx, hb, hr, hml, ht, hown, hM, hK, hA, hlocks⟩ := id C0
  unfold fb_M_block_131 at hf
  refine lv_iconst (v := (-1)) hx hb d_M_block_131 (by decide) ?_
  refine lv_istore (lv' := [(4, .int (-1)), (0, .ref h0), (1, .int v1), (2, .int v2), (3, .int v3)]) hx hb d_M_block_132 hl (by decide) rfl (fun ls hl => ?_)
  refine lv_iload_n hx hb d_M_block_134 rfl (lv_at hl 4 rfl) ?_
  refine lv_bipush (v := 12) hx hb d_M_block_135 (by decide) ?_
  refine lv_icmp_ne (tgt := 147) hx hb d_M_block_137 (by decide) (fun hc => ?_) (fun hc => ?_)
  · rw [br_n _ hc] at hf
    refine lv_aload_n hx hb d_M_block_147 rfl (lv_at hl 1 rfl) ?_
    refine lv_iload_n hx hb d_M_block_148 rfl (lv_at hl 4 rfl) ?_
    refine lv_iconst (v := 3) hx hb d_M_block_149 (by decide) ?_
    refine lv_icmp_ne (tgt := 158) hx hb d_M_block_150 (by decide) (fun hc => ?_) (fun hc => ?_)
    · rw [br_n _ hc] at hf
      refine lv_bipush (v := 31) hx hb d_M_block_158 (by decide) ?_
      exact wb_M_block_160 C0 hR N S hSg G hG _ _ _ _ _ _ hf H locs hP hD hS ls (lv_sub hl [1, 2, 3, 4] rfl)
    · rw [br_p _ hc] at hf
      refine lv_bipush (v := 21) hx hb d_M_block_153 (by decide) ?_
      refine lv_goto (tgt := 160) hx hb d_M_block_155 (by decide) ?_
      exact wb_M_block_160 C0 hR N S hSg G hG _ _ _ _ _ _ hf H locs hP hD hS ls (lv_sub hl [1, 2, 3, 4] rfl)
  · rw [br_p _ hc] at hf
    refine lv_aload_n hx hb d_M_block_140 rfl (lv_at hl 1 rfl) ?_
    refine lv_iload_n hx hb d_M_block_141 rfl (lv_at hl 2 rfl) ?_
    refine lv_iload_n hx hb d_M_block_142 rfl (lv_at hl 3 rfl) ?_
    obtain ⟨u9, r9, hc9, hf⟩ := bnd_some hf
    refine mV_i (As := [.int v1, .int v2]) (rest := []) C0 hP hD hS (hSg.2.2.2.1 _ _ _ _ _ hc9) k_M_receive hl_M_receive hi_M_receive hs_M_receive hini_M rfl rfl hd_M_receive rfl (rm_M_block_M_receive hR) hl.1 (Nat.le_of_ble_eq_true rfl) d_M_block_143 rfl ⟨Nat.zero_le _, Nat.zero_le _⟩ (fun H locs hP hD hS => ?_)
    exact mr_i C0 hP hD hS hf d_M_block_146
def fb_M_block_49 (N : Nat) (S : SG_M_behind) (G : Unit) (u : MS) (v1 : Int32) (v2 : Int32) (v3 : Int32) : Option (MS × Int32) := lt (upI u 69 ((u.1 69) + 1)) (fun w10 => br (decide (v3 = 2)) (bnd (S.2.2.2.2.1 w10) (fun u14 r14 => bnd (fm_M_needWord N u14 6) (fun u15 _ => bnd (fm_M_unbind N u15 v2) (fun u16 _ => bnd (fm_M_node N u16 30 (u16.1 69)) (fun u17 r17 => bnd (fm_M_addRoot N u17 r17 r14) (fun u18 _ => some (u18, r17))))))) (br (decide (v3 = 3)) (bnd (S.2.2.2.2.2.2.2.2.2.2.2.2.2.1 w10) (fun u11 r11 => bnd (fm_M_needWord N u11 10) (fun u12 _ => ck (inb (u12.1 65) (ln 60)) (lt (u12.2.2.1 60 (u12.1 65).toNatClampNeg) (fun y13 => fb_M_block_131 N S G u12 (v1) (y13) (v3)))))) (fb_M_block_131 N S G w10 (v1) (v2) (v3))))
set_option maxRecDepth 100000 in
set_option maxHeartbeats 4000000 in
theorem wb_M_block_49 {p : Program} {l : Launch} {e : Env} {R : Room} {s : State} {m : MethodId} {args : Array Value} {below : List Frame} {meth : Method} {c : Code} {D : va_G} {cl : List vw_C} {cB cI cJ cZ cS : ClassId} {A : Nat → Prop} {iM h0 : Nat} {ad : Nat → Nat} (C0 : MCx p s m args meth c b_M_block 8 (some .int) D cl cB cI cJ cZ cS iM A) {d : Nat} (hR : R = rg_M_behind (d + 1)) (N : Nat) (S : SG_M_behind) (hSg : HS_M_behind l D cl cB cI cJ cZ cS iM h0 ad (rg_M_behind d) S) (G : Unit) (hG : True) : ∀ (u : MS) (v1 : Int32) (v2 : Int32) (v3 : Int32) (x : MS × Int32), fb_M_block_49 N S G u v1 v2 v3 = some x → ∀ (H : Heap) (locs : List Loc), va_P D cl (wM cB cI cJ cZ cS iM h0 ad u) H → va_D A (wM cB cI cJ cZ cS iM h0 ad u) → va_S A s.heap H locs → ∀ (ls : Array Slot), lv_has ls 8 [(0, .ref h0), (1, .int v1), (2, .int v2), (3, .int v3)] → W p l e R s m args below meth c H locs 0 0 (MQ below (mQi D cl cB cI cJ cZ cS iM h0 ad A x) args s 0 0 A) (F0 m 49 ls []) := by
  intro u v1 v2 v3 x hf H locs hP hD hS ls hl
  obtain ⟨hx, hb, hr, hml, ht, hown, hM, hK, hA, hlocks⟩ := id C0
  unfold fb_M_block_49 at hf
  refine lv_aload_n hx hb d_M_block_49 rfl (lv_at hl 0 rfl) ?_
  refine lv_dup hx hb d_M_block_50 rfl ?_
  refine ug_I hx hb ht hown hM hK hP 69 (by decide) lk_M_69 (by decide) d_M_block_51 ?_
  refine lv_iconst (v := 1) hx hb d_M_block_54 (by decide) ?_
  refine lv_iadd hx hb d_M_block_55 ?_
  refine up_I hx hb ht hown hM hK hP hD hS 69 (by decide) lk_M_69 (by decide) rfl rfl rfl d_M_block_56 (fun H locs hP hD hS => ?_)
  obtain ⟨w10, e10, hf⟩ := lt_some hf
  rw [← e10] at hP hD
  refine lv_iload_n hx hb d_M_block_59 rfl (lv_at hl 3 rfl) ?_
  refine lv_iconst (v := 2) hx hb d_M_block_60 (by decide) ?_
  refine lv_icmp_ne (tgt := 104) hx hb d_M_block_61 (by decide) (fun hc => ?_) (fun hc => ?_)
  · rw [br_n _ hc] at hf
    refine lv_iload_n hx hb d_M_block_104 rfl (lv_at hl 3 rfl) ?_
    refine lv_iconst (v := 3) hx hb d_M_block_105 (by decide) ?_
    refine lv_icmp_ne (tgt := 131) hx hb d_M_block_106 (by decide) (fun hc => ?_) (fun hc => ?_)
    · rw [br_n _ hc] at hf
      exact wb_M_block_131 C0 hR N S hSg G hG _ _ _ _ _ hf H locs hP hD hS ls (lv_sub hl [0, 1, 2, 3] rfl)
    · rw [br_p _ hc] at hf
      refine lv_aload_n hx hb d_M_block_109 rfl (lv_at hl 0 rfl) ?_
      obtain ⟨u11, r11, hc11, hf⟩ := bnd_some hf
      refine mV_i (As := []) (rest := []) C0 hP hD hS (hSg.2.2.2.2.2.2.2.2.2.2.2.2.2.1 _ _ _ hc11) k_M_expression hl_M_expression hi_M_expression hs_M_expression hini_M rfl rfl hd_M_expression rfl (rm_M_block_M_expression hR) hl.1 (Nat.le_of_ble_eq_true rfl) d_M_block_110 rfl ⟨Nat.zero_le _, Nat.zero_le _⟩ (fun H locs hP hD hS => ?_)
      refine lv_istore (lv' := [(4, .int r11), (0, .ref h0), (1, .int v1), (2, .int v2), (3, .int v3)]) hx hb d_M_block_113 hl (by decide) rfl (fun ls hl => ?_)
      refine lv_aload_n hx hb d_M_block_115 rfl (lv_at hl 1 rfl) ?_
      refine lv_bipush (v := 10) hx hb d_M_block_116 (by decide) ?_
      obtain ⟨u12, r12, hc12, hf⟩ := bnd_some hf
      refine mV_v (As := [.int 10]) (rest := []) C0 hP hD hS (c_M_needWord N hM hc12) k_M_needWord hl_M_needWord hi_M_needWord hs_M_needWord hini_M rfl rfl hd_M_needWord rfl (rm_M_block_M_needWord hR) hl.1 (Nat.le_of_ble_eq_true rfl) d_M_block_118 rfl ⟨Nat.zero_le _, Nat.zero_le _⟩ (fun H locs hP hD hS => ?_)
      refine lv_aload_n hx hb d_M_block_121 rfl (lv_at hl 1 rfl) ?_
      refine ug_R hx hb ht hown hM hK hP 60 (by decide) lk_M_60 (by decide) d_M_block_122 ?_
      refine lv_aload_n hx hb d_M_block_125 rfl (lv_at hl 1 rfl) ?_
      refine ug_I hx hb ht hown hM hK hP 65 (by decide) lk_M_65 (by decide) d_M_block_126 ?_
      obtain ⟨hi9, hf⟩ := ck_some hf
      refine ul_I hx hb hK hP (by decide) (by decide) hi9 d_M_block_129 ?_
      obtain ⟨y13, e13, hf⟩ := lt_some hf
      rw [← e13]
      refine lv_istore_n (lv' := [(2, .int y13), (4, .int r11), (0, .ref h0), (1, .int v1), (3, .int v3)]) hx hb d_M_block_130 rfl hl (by decide) rfl (fun ls hl => ?_)
      exact wb_M_block_131 C0 hR N S hSg G hG _ _ _ _ _ hf H locs hP hD hS ls (lv_sub hl [2, 3, 0, 4] rfl)
  · rw [br_p _ hc] at hf
    refine lv_aload_n hx hb d_M_block_64 rfl (lv_at hl 0 rfl) ?_
    obtain ⟨u14, r14, hc14, hf⟩ := bnd_some hf
    refine mV_i (As := []) (rest := []) C0 hP hD hS (hSg.2.2.2.2.1 _ _ _ hc14) k_M_body hl_M_body hi_M_body hs_M_body hini_M rfl rfl hd_M_body rfl (rm_M_block_M_body hR) hl.1 (Nat.le_of_ble_eq_true rfl) d_M_block_65 rfl ⟨Nat.zero_le _, Nat.zero_le _⟩ (fun H locs hP hD hS => ?_)
    refine lv_istore (lv' := [(4, .int r14), (0, .ref h0), (1, .int v1), (2, .int v2), (3, .int v3)]) hx hb d_M_block_68 hl (by decide) rfl (fun ls hl => ?_)
    refine lv_aload_n hx hb d_M_block_70 rfl (lv_at hl 1 rfl) ?_
    refine lv_bipush (v := 6) hx hb d_M_block_71 (by decide) ?_
    obtain ⟨u15, r15, hc15, hf⟩ := bnd_some hf
    refine mV_v (As := [.int 6]) (rest := []) C0 hP hD hS (c_M_needWord N hM hc15) k_M_needWord hl_M_needWord hi_M_needWord hs_M_needWord hini_M rfl rfl hd_M_needWord rfl (rm_M_block_M_needWord hR) hl.1 (Nat.le_of_ble_eq_true rfl) d_M_block_73 rfl ⟨Nat.zero_le _, Nat.zero_le _⟩ (fun H locs hP hD hS => ?_)
    refine lv_aload_n hx hb d_M_block_76 rfl (lv_at hl 1 rfl) ?_
    refine lv_iload_n hx hb d_M_block_77 rfl (lv_at hl 3 rfl) ?_
    obtain ⟨u16, r16, hc16, hf⟩ := bnd_some hf
    refine mV_v (As := [.int v2]) (rest := []) C0 hP hD hS (c_M_unbind N hM hc16) k_M_unbind hl_M_unbind hi_M_unbind hs_M_unbind hini_M rfl rfl hd_M_unbind rfl (rm_M_block_M_unbind hR) hl.1 (Nat.le_of_ble_eq_true rfl) d_M_block_78 rfl ⟨Nat.zero_le _, Nat.zero_le _⟩ (fun H locs hP hD hS => ?_)
    refine lv_aload_n hx hb d_M_block_81 rfl (lv_at hl 1 rfl) ?_
    refine lv_bipush (v := 30) hx hb d_M_block_82 (by decide) ?_
    refine lv_aload_n hx hb d_M_block_84 rfl (lv_at hl 1 rfl) ?_
    refine ug_I hx hb ht hown hM hK hP 69 (by decide) lk_M_69 (by decide) d_M_block_85 ?_
    obtain ⟨u17, r17, hc17, hf⟩ := bnd_some hf
    refine mV_i (As := [.int 30, .int (u16.1 69)]) (rest := []) C0 hP hD hS (c_M_node N hM hc17) k_M_node hl_M_node hi_M_node hs_M_node hini_M rfl rfl hd_M_node rfl (rm_M_block_M_node hR) hl.1 (Nat.le_of_ble_eq_true rfl) d_M_block_88 rfl ⟨Nat.zero_le _, Nat.zero_le _⟩ (fun H locs hP hD hS => ?_)
    refine lv_istore (lv' := [(5, .int r17), (4, .int r14), (0, .ref h0), (1, .int v1), (2, .int v2), (3, .int v3)]) hx hb d_M_block_91 hl (by decide) rfl (fun ls hl => ?_)
    refine lv_aload_n hx hb d_M_block_93 rfl (lv_at hl 2 rfl) ?_
    refine lv_iload hx hb d_M_block_94 (lv_at hl 0 rfl) ?_
    refine lv_iload hx hb d_M_block_96 (lv_at hl 1 rfl) ?_
    obtain ⟨u18, r18, hc18, hf⟩ := bnd_some hf
    refine mV_v (As := [.int r17, .int r14]) (rest := []) C0 hP hD hS (c_M_addRoot N hM hc18) k_M_addRoot hl_M_addRoot hi_M_addRoot hs_M_addRoot hini_M rfl rfl hd_M_addRoot rfl (rm_M_block_M_addRoot hR) hl.1 (Nat.le_of_ble_eq_true rfl) d_M_block_98 rfl ⟨Nat.zero_le _, Nat.zero_le _⟩ (fun H locs hP hD hS => ?_)
    refine lv_iload hx hb d_M_block_101 (lv_at hl 0 rfl) ?_
    exact mr_i C0 hP hD hS hf d_M_block_103
def fb_M_block_0 (N : Nat) (S : SG_M_behind) (G : Unit) (u : MS) (v1 : Int32) : Option (MS × Int32) := ck (inb (u.1 65) (ln 60)) (lt (u.2.2.1 60 (u.1 65).toNatClampNeg) (fun y19 => ck (inb (u.1 69) (ln 7)) (lt (u.2.2.1 7 (u.1 69).toNatClampNeg) (fun y20 => br (decide (y20 = 2)) (fb_M_block_49 N S G u (v1) (y19) (y20)) (br (decide (y20 = 3)) (fb_M_block_49 N S G u (v1) (y19) (y20)) (br (decide (y20 = 8)) (fb_M_block_49 N S G u (v1) (y19) (y20)) (br (decide (y20 = 12)) (fb_M_block_49 N S G u (v1) (y19) (y20)) (bnd (fm_M_wrong N u 2) (fun u21 _ => some (u21, (-1)))))))))))
set_option maxRecDepth 100000 in
set_option maxHeartbeats 4000000 in
theorem wb_M_block_0 {p : Program} {l : Launch} {e : Env} {R : Room} {s : State} {m : MethodId} {args : Array Value} {below : List Frame} {meth : Method} {c : Code} {D : va_G} {cl : List vw_C} {cB cI cJ cZ cS : ClassId} {A : Nat → Prop} {iM h0 : Nat} {ad : Nat → Nat} (C0 : MCx p s m args meth c b_M_block 8 (some .int) D cl cB cI cJ cZ cS iM A) {d : Nat} (hR : R = rg_M_behind (d + 1)) (N : Nat) (S : SG_M_behind) (hSg : HS_M_behind l D cl cB cI cJ cZ cS iM h0 ad (rg_M_behind d) S) (G : Unit) (hG : True) : ∀ (u : MS) (v1 : Int32) (x : MS × Int32), fb_M_block_0 N S G u v1 = some x → ∀ (H : Heap) (locs : List Loc), va_P D cl (wM cB cI cJ cZ cS iM h0 ad u) H → va_D A (wM cB cI cJ cZ cS iM h0 ad u) → va_S A s.heap H locs → ∀ (ls : Array Slot), lv_has ls 8 [(0, .ref h0), (1, .int v1)] → W p l e R s m args below meth c H locs 0 0 (MQ below (mQi D cl cB cI cJ cZ cS iM h0 ad A x) args s 0 0 A) (F0 m 0 ls []) := by
  intro u v1 x hf H locs hP hD hS ls hl
  obtain ⟨hx, hb, hr, hml, ht, hown, hM, hK, hA, hlocks⟩ := id C0
  unfold fb_M_block_0 at hf
  refine lv_aload_n hx hb d_M_block_0 rfl (lv_at hl 0 rfl) ?_
  refine ug_R hx hb ht hown hM hK hP 60 (by decide) lk_M_60 (by decide) d_M_block_1 ?_
  refine lv_aload_n hx hb d_M_block_4 rfl (lv_at hl 0 rfl) ?_
  refine ug_I hx hb ht hown hM hK hP 65 (by decide) lk_M_65 (by decide) d_M_block_5 ?_
  obtain ⟨hi9, hf⟩ := ck_some hf
  refine ul_I hx hb hK hP (by decide) (by decide) hi9 d_M_block_8 ?_
  obtain ⟨y19, e19, hf⟩ := lt_some hf
  rw [← e19]
  refine lv_istore_n (lv' := [(2, .int y19), (0, .ref h0), (1, .int v1)]) hx hb d_M_block_9 rfl hl (by decide) rfl (fun ls hl => ?_)
  refine lv_aload_n hx hb d_M_block_10 rfl (lv_at hl 1 rfl) ?_
  refine ug_R hx hb ht hown hM hK hP 7 (by decide) lk_M_7 (by decide) d_M_block_11 ?_
  refine lv_aload_n hx hb d_M_block_14 rfl (lv_at hl 1 rfl) ?_
  refine ug_I hx hb ht hown hM hK hP 69 (by decide) lk_M_69 (by decide) d_M_block_15 ?_
  obtain ⟨hi9, hf⟩ := ck_some hf
  refine ul_I hx hb hK hP (by decide) (by decide) hi9 d_M_block_18 ?_
  obtain ⟨y20, e20, hf⟩ := lt_some hf
  rw [← e20]
  refine lv_istore_n (lv' := [(3, .int y20), (2, .int y19), (0, .ref h0), (1, .int v1)]) hx hb d_M_block_19 rfl hl (by decide) rfl (fun ls hl => ?_)
  refine lv_iload_n hx hb d_M_block_20 rfl (lv_at hl 0 rfl) ?_
  refine lv_iconst (v := 2) hx hb d_M_block_21 (by decide) ?_
  refine lv_icmp_eq (tgt := 49) hx hb d_M_block_22 (by decide) (fun hc => ?_) (fun hc => ?_)
  · rw [br_p _ hc] at hf
    exact wb_M_block_49 C0 hR N S hSg G hG _ _ _ _ _ hf H locs hP hD hS ls (lv_sub hl [2, 3, 1, 0] rfl)
  · rw [br_n _ hc] at hf
    refine lv_iload_n hx hb d_M_block_25 rfl (lv_at hl 0 rfl) ?_
    refine lv_iconst (v := 3) hx hb d_M_block_26 (by decide) ?_
    refine lv_icmp_eq (tgt := 49) hx hb d_M_block_27 (by decide) (fun hc => ?_) (fun hc => ?_)
    · rw [br_p _ hc] at hf
      exact wb_M_block_49 C0 hR N S hSg G hG _ _ _ _ _ hf H locs hP hD hS ls (lv_sub hl [2, 3, 1, 0] rfl)
    · rw [br_n _ hc] at hf
      refine lv_iload_n hx hb d_M_block_30 rfl (lv_at hl 0 rfl) ?_
      refine lv_bipush (v := 8) hx hb d_M_block_31 (by decide) ?_
      refine lv_icmp_eq (tgt := 49) hx hb d_M_block_33 (by decide) (fun hc => ?_) (fun hc => ?_)
      · rw [br_p _ hc] at hf
        exact wb_M_block_49 C0 hR N S hSg G hG _ _ _ _ _ hf H locs hP hD hS ls (lv_sub hl [2, 3, 1, 0] rfl)
      · rw [br_n _ hc] at hf
        refine lv_iload_n hx hb d_M_block_36 rfl (lv_at hl 0 rfl) ?_
        refine lv_bipush (v := 12) hx hb d_M_block_37 (by decide) ?_
        refine lv_icmp_eq (tgt := 49) hx hb d_M_block_39 (by decide) (fun hc => ?_) (fun hc => ?_)
        · rw [br_p _ hc] at hf
          exact wb_M_block_49 C0 hR N S hSg G hG _ _ _ _ _ hf H locs hP hD hS ls (lv_sub hl [2, 3, 1, 0] rfl)
        · rw [br_n _ hc] at hf
          refine lv_aload_n hx hb d_M_block_42 rfl (lv_at hl 2 rfl) ?_
          refine lv_iconst (v := 2) hx hb d_M_block_43 (by decide) ?_
          obtain ⟨u21, r21, hc21, hf⟩ := bnd_some hf
          refine mV_v (As := [.int 2]) (rest := []) C0 hP hD hS (c_M_wrong N hM hc21) k_M_wrong hl_M_wrong hi_M_wrong hs_M_wrong hini_M rfl rfl hd_M_wrong rfl (rm_M_block_M_wrong hR) hl.1 (Nat.le_of_ble_eq_true rfl) d_M_block_44 rfl ⟨Nat.zero_le _, Nat.zero_le _⟩ (fun H locs hP hD hS => ?_)
          refine lv_iconst (v := (-1)) hx hb d_M_block_47 (by decide) ?_
          exact mr_i C0 hP hD hS hf d_M_block_48
def fm_M_block (N : Nat) (S : SG_M_behind) (u : MS) (v1 : Int32) : Option (MS × Int32) := fb_M_block_0 N S () u v1
set_option maxRecDepth 100000 in
set_option maxHeartbeats 4000000 in
theorem cs_M_block (N : Nat) {d : Nat} {l : Launch} {D : va_G} {cl : List vw_C} {cB cI cJ cZ cS : ClassId} {iM h0 : Nat} {ad : Nat → Nat} {u : MS} {sz : Nat} {v1 : Int32} {x : MS × Int32} (hM : cl[iM]? = some (R_M, F_M, 171)) (S : SG_M_behind) (hSg : HS_M_behind l D cl cB cI cJ cZ cS iM h0 ad (rg_M_behind d) S) (hf : fm_M_block N S u v1 = some x) : Met l y_M_block (wd_ws y_M_block b_M_block 8 (some .int)) (rg_M_behind (d + 1)) (mPc D cl cB cI cJ cZ cS iM h0 ad u sz [.ref h0, .int v1]) (mQi D cl cB cI cJ cZ cS iM h0 ad (mA cB cI cJ cZ cS iM h0 ad u sz) x) 0 0 (mA cB cI cJ cZ cS iM h0 ad u sz) :=
  mMet (by decide) rfl hM (Nat.le_of_ble_eq_true rfl) (fun p e s m below meth c ls hsz C0 hP hD hS hl => by
    have hR : (rg_M_behind (d + 1)) = (rg_M_behind (d + 1)) := rfl
    exact wb_M_block_0 C0 hR N S hSg () trivial u _ x hf s.heap [] hP hD hS ls (lv_sub hl [0, 1] rfl))
theorem rm_M_fun_M_needSign {R : Room} {d : Nat} (hR : R = rg_M_behind (d + 1)) : (rm_M_needSign).frames + 1 ≤ R.frames ∧ 8 + (2 + 11) + (rm_M_needSign).locals ≤ R.locals := by
  subst hR
  have h1 : (rm_M_needSign).frames = 2 := rfl
  have h2 : (rm_M_needSign).locals = 42 := rfl
  show (rm_M_needSign).frames + 1 ≤ 94 + (d + 1) ∧ 8 + (2 + 11) + (rm_M_needSign).locals ≤ 2494 + 29 * (d + 1)
  omega
theorem rm_M_fun_M_wrong {R : Room} {d : Nat} (hR : R = rg_M_behind (d + 1)) : (rm_M_wrong).frames + 1 ≤ R.frames ∧ 8 + (2 + 11) + (rm_M_wrong).locals ≤ R.locals := by
  subst hR
  have h1 : (rm_M_wrong).frames = 0 := rfl
  have h2 : (rm_M_wrong).locals = 0 := rfl
  show (rm_M_wrong).frames + 1 ≤ 94 + (d + 1) ∧ 8 + (2 + 11) + (rm_M_wrong).locals ≤ 2494 + 29 * (d + 1)
  omega
theorem rm_M_fun_M_node {R : Room} {d : Nat} (hR : R = rg_M_behind (d + 1)) : (rm_M_node).frames + 1 ≤ R.frames ∧ 8 + (3 + 11) + (rm_M_node).locals ≤ R.locals := by
  subst hR
  have h1 : (rm_M_node).frames = 0 := rfl
  have h2 : (rm_M_node).locals = 0 := rfl
  show (rm_M_node).frames + 1 ≤ 94 + (d + 1) ∧ 8 + (3 + 11) + (rm_M_node).locals ≤ 2494 + 29 * (d + 1)
  omega
theorem rm_M_fun_M_needWord {R : Room} {d : Nat} (hR : R = rg_M_behind (d + 1)) : (rm_M_needWord).frames + 1 ≤ R.frames ∧ 8 + (2 + 11) + (rm_M_needWord).locals ≤ R.locals := by
  subst hR
  have h1 : (rm_M_needWord).frames = 2 := rfl
  have h2 : (rm_M_needWord).locals = 42 := rfl
  show (rm_M_needWord).frames + 1 ≤ 94 + (d + 1) ∧ 8 + (2 + 11) + (rm_M_needWord).locals ≤ 2494 + 29 * (d + 1)
  omega
theorem rm_M_fun_M_clause {R : Room} {d : Nat} (hR : R = rg_M_behind (d + 1)) : (rg_M_behind d).frames + 1 ≤ R.frames ∧ 8 + (6 + 11) + (rg_M_behind d).locals ≤ R.locals := by
  subst hR
  show 94 + d + 1 ≤ 94 + (d + 1) ∧ 8 + (6 + 11) + (2494 + 29 * d) ≤ 2494 + 29 * (d + 1)
  omega
def fb_M_fun_257 (N : Nat) (S : SG_M_behind) (G : (MS → Int32 → Int32 → Int32 → Int32 → Option (MS × Int32))) (u : MS) (v1 : Int32) (v2 : Int32) (v3 : Int32) (v5 : Int32) : Option (MS × Int32) := ck (inb (u.1 65) (ln 63)) (br (decide ((u.2.2.1 63 (u.1 65).toNatClampNeg) ≤ v5)) (lt (upI u 65 ((u.1 65) - 1)) (fun w1 => ck (inb v3 (ln 25)) (lt (upA w1 25 (upd (w1.2.2.1 25) v3.toNatClampNeg (w1.1 32))) (fun w2 => bnd (fm_M_node N w2 14 v1) (fun u3 r3 => ck (inb r3 (ln 25)) (lt (upA u3 25 (upd (u3.2.2.1 25) r3.toNatClampNeg v2)) (fun w4 => some (w4, r3)))))))) (ck (inb ((1400 * (u.1 65)) + v5) (ln 62)) (ck (inb (u.1 58) (ln 57)) (lt (upA u 57 (upd (u.2.2.1 57) (u.1 58).toNatClampNeg (u.2.2.1 62 ((1400 * (u.1 65)) + v5).toNatClampNeg))) (fun w5 => lt (upI w5 58 ((w5.1 58) + 1)) (fun w6 => G w6 (v1) (v2) (v3) ((v5 + 1))))))))
set_option maxRecDepth 100000 in
set_option maxHeartbeats 4000000 in
theorem wb_M_fun_257 {p : Program} {l : Launch} {e : Env} {R : Room} {s : State} {m : MethodId} {args : Array Value} {below : List Frame} {meth : Method} {c : Code} {D : va_G} {cl : List vw_C} {cB cI cJ cZ cS : ClassId} {A : Nat → Prop} {iM h0 : Nat} {ad : Nat → Nat} (C0 : MCx p s m args meth c b_M_fun 6 (some .int) D cl cB cI cJ cZ cS iM A) {d : Nat} (hR : R = rg_M_behind (d + 1)) (N : Nat) (S : SG_M_behind) (hSg : HS_M_behind l D cl cB cI cJ cZ cS iM h0 ad (rg_M_behind d) S) (G : (MS → Int32 → Int32 → Int32 → Int32 → Option (MS × Int32))) (hG : (∀ (u : MS) (v1 : Int32) (v2 : Int32) (v3 : Int32) (v5 : Int32) (x : MS × Int32), G u v1 v2 v3 v5 = some x → ∀ (H : Heap) (locs : List Loc), va_P D cl (wM cB cI cJ cZ cS iM h0 ad u) H → va_D A (wM cB cI cJ cZ cS iM h0 ad u) → va_S A s.heap H locs → ∀ (ls : Array Slot), lv_has ls 6 [(0, .ref h0), (1, .int v1), (2, .int v2), (3, .int v3), (5, .int v5)] → W p l e R s m args below meth c H locs 0 0 (MQ below (mQi D cl cB cI cJ cZ cS iM h0 ad A x) args s 0 0 A) (F0 m 257 ls []))) : ∀ (u : MS) (v1 : Int32) (v2 : Int32) (v3 : Int32) (v5 : Int32) (x : MS × Int32), fb_M_fun_257 N S G u v1 v2 v3 v5 = some x → ∀ (H : Heap) (locs : List Loc), va_P D cl (wM cB cI cJ cZ cS iM h0 ad u) H → va_D A (wM cB cI cJ cZ cS iM h0 ad u) → va_S A s.heap H locs → ∀ (ls : Array Slot), lv_has ls 6 [(0, .ref h0), (1, .int v1), (2, .int v2), (3, .int v3), (5, .int v5)] → W p l e R s m args below meth c H locs 0 0 (MQ below (mQi D cl cB cI cJ cZ cS iM h0 ad A x) args s 0 0 A) (F0 m 257 ls []) := by
  intro u v1 v2 v3 v5 x hf H locs hP hD hS ls hl
  obtain ⟨hx, hb, hr, hml, ht, hown, hM, hK, hA, hlocks⟩ := id C0
  unfold fb_M_fun_257 at hf
  refine lv_iload hx hb d_M_fun_257 (lv_at hl 4 rfl) ?_
  refine lv_aload_n hx hb d_M_fun_259 rfl (lv_at hl 0 rfl) ?_
  refine ug_R hx hb ht hown hM hK hP 63 (by decide) lk_M_63 (by decide) d_M_fun_260 ?_
  refine lv_aload_n hx hb d_M_fun_263 rfl (lv_at hl 0 rfl) ?_
  refine ug_I hx hb ht hown hM hK hP 65 (by decide) lk_M_65 (by decide) d_M_fun_264 ?_
  obtain ⟨hi9, hf⟩ := ck_some hf
  refine ul_I hx hb hK hP (by decide) (by decide) hi9 d_M_fun_267 ?_
  refine lv_icmp_ge (tgt := 312) hx hb d_M_fun_268 (by decide) (fun hc => ?_) (fun hc => ?_)
  · rw [br_p _ hc] at hf
    refine lv_aload_n hx hb d_M_fun_312 rfl (lv_at hl 0 rfl) ?_
    refine lv_dup hx hb d_M_fun_313 rfl ?_
    refine ug_I hx hb ht hown hM hK hP 65 (by decide) lk_M_65 (by decide) d_M_fun_314 ?_
    refine lv_iconst (v := 1) hx hb d_M_fun_317 (by decide) ?_
    refine lv_isub hx hb d_M_fun_318 ?_
    refine up_I hx hb ht hown hM hK hP hD hS 65 (by decide) lk_M_65 (by decide) rfl rfl rfl d_M_fun_319 (fun H locs hP hD hS => ?_)
    obtain ⟨w1, e1, hf⟩ := lt_some hf
    rw [← e1] at hP hD
    refine lv_aload_n hx hb d_M_fun_322 rfl (lv_at hl 0 rfl) ?_
    refine ug_R hx hb ht hown hM hK hP 25 (by decide) lk_M_25 (by decide) d_M_fun_323 ?_
    refine lv_iload_n hx hb d_M_fun_326 rfl (lv_at hl 3 rfl) ?_
    refine lv_aload_n hx hb d_M_fun_327 rfl (lv_at hl 0 rfl) ?_
    refine ug_I hx hb ht hown hM hK hP 32 (by decide) lk_M_32 (by decide) d_M_fun_328 ?_
    obtain ⟨hi9, hf⟩ := ck_some hf
    refine us_I hx hb hK hP hD hS (by decide) (by decide) hi9 d_M_fun_331 (fun H locs hP hD hS => ?_)
    obtain ⟨w2, e2, hf⟩ := lt_some hf
    rw [← e2] at hP hD
    refine lv_aload_n hx hb d_M_fun_332 rfl (lv_at hl 0 rfl) ?_
    refine lv_bipush (v := 14) hx hb d_M_fun_333 (by decide) ?_
    refine lv_iload_n hx hb d_M_fun_335 rfl (lv_at hl 1 rfl) ?_
    obtain ⟨u3, r3, hc3, hf⟩ := bnd_some hf
    refine mV_i (As := [.int 14, .int v1]) (rest := []) C0 hP hD hS (c_M_node N hM hc3) k_M_node hl_M_node hi_M_node hs_M_node hini_M rfl rfl hd_M_node rfl (rm_M_fun_M_node hR) hl.1 (Nat.le_of_ble_eq_true rfl) d_M_fun_336 rfl ⟨Nat.zero_le _, Nat.zero_le _⟩ (fun H locs hP hD hS => ?_)
    refine lv_istore (lv' := [(5, .int r3), (0, .ref h0), (1, .int v1), (2, .int v2), (3, .int v3)]) hx hb d_M_fun_339 hl (by decide) rfl (fun ls hl => ?_)
    refine lv_aload_n hx hb d_M_fun_341 rfl (lv_at hl 1 rfl) ?_
    refine ug_R hx hb ht hown hM hK hP 25 (by decide) lk_M_25 (by decide) d_M_fun_342 ?_
    refine lv_iload hx hb d_M_fun_345 (lv_at hl 0 rfl) ?_
    refine lv_iload_n hx hb d_M_fun_347 rfl (lv_at hl 3 rfl) ?_
    obtain ⟨hi9, hf⟩ := ck_some hf
    refine us_I hx hb hK hP hD hS (by decide) (by decide) hi9 d_M_fun_348 (fun H locs hP hD hS => ?_)
    obtain ⟨w4, e4, hf⟩ := lt_some hf
    rw [← e4] at hP hD
    refine lv_iload hx hb d_M_fun_349 (lv_at hl 0 rfl) ?_
    exact mr_i C0 hP hD hS hf d_M_fun_351
  · rw [br_n _ hc] at hf
    refine lv_aload_n hx hb d_M_fun_271 rfl (lv_at hl 0 rfl) ?_
    refine ug_R hx hb ht hown hM hK hP 57 (by decide) lk_M_57 (by decide) d_M_fun_272 ?_
    refine lv_aload_n hx hb d_M_fun_275 rfl (lv_at hl 0 rfl) ?_
    refine ug_I hx hb ht hown hM hK hP 58 (by decide) lk_M_58 (by decide) d_M_fun_276 ?_
    refine lv_aload_n hx hb d_M_fun_279 rfl (lv_at hl 0 rfl) ?_
    refine ug_R hx hb ht hown hM hK hP 62 (by decide) lk_M_62 (by decide) d_M_fun_280 ?_
    refine lv_sipush (v := 1400) hx hb d_M_fun_283 (by decide) ?_
    refine lv_aload_n hx hb d_M_fun_286 rfl (lv_at hl 0 rfl) ?_
    refine ug_I hx hb ht hown hM hK hP 65 (by decide) lk_M_65 (by decide) d_M_fun_287 ?_
    refine lv_imul hx hb d_M_fun_290 ?_
    refine lv_iload hx hb d_M_fun_291 (lv_at hl 4 rfl) ?_
    refine lv_iadd hx hb d_M_fun_293 ?_
    obtain ⟨hi9, hf⟩ := ck_some hf
    refine ul_I hx hb hK hP (by decide) (by decide) hi9 d_M_fun_294 ?_
    obtain ⟨hi9, hf⟩ := ck_some hf
    refine us_I hx hb hK hP hD hS (by decide) (by decide) hi9 d_M_fun_295 (fun H locs hP hD hS => ?_)
    obtain ⟨w5, e5, hf⟩ := lt_some hf
    rw [← e5] at hP hD
    refine lv_aload_n hx hb d_M_fun_296 rfl (lv_at hl 0 rfl) ?_
    refine lv_dup hx hb d_M_fun_297 rfl ?_
    refine ug_I hx hb ht hown hM hK hP 58 (by decide) lk_M_58 (by decide) d_M_fun_298 ?_
    refine lv_iconst (v := 1) hx hb d_M_fun_301 (by decide) ?_
    refine lv_iadd hx hb d_M_fun_302 ?_
    refine up_I hx hb ht hown hM hK hP hD hS 58 (by decide) lk_M_58 (by decide) rfl rfl rfl d_M_fun_303 (fun H locs hP hD hS => ?_)
    obtain ⟨w6, e6, hf⟩ := lt_some hf
    rw [← e6] at hP hD
    refine lv_iinc (v := (v5 + 1)) (lv' := [(5, .int (v5 + 1)), (0, .ref h0), (1, .int v1), (2, .int v2), (3, .int v3)]) hx hb d_M_fun_306 hl (k := 4) rfl rfl (by decide) rfl (fun ls hl => ?_)
    refine lv_goto (tgt := 257) hx hb d_M_fun_309 (by decide) ?_
    exact hG _ _ _ _ _ _ hf H locs hP hD hS ls (lv_sub hl [1, 2, 3, 4, 0] rfl)
def fb_M_fun_221 (N : Nat) (S : SG_M_behind) (G : (MS → Int32 → Int32 → Int32 → Int32 → Option (MS × Int32))) (u : MS) (v1 : Int32) (v2 : Int32) (v3 : Int32) (v4 : Int32) : Option (MS × Int32) := ck (inb v2 (ln 53)) (lt (upA u 53 (upd (u.2.2.1 53) v2.toNatClampNeg v4)) (fun w7 => ck (inb (w7.1 65) (ln 63)) (ck (inb v2 (ln 54)) (lt (upA w7 54 (upd (w7.2.2.1 54) v2.toNatClampNeg (w7.2.2.1 63 (w7.1 65).toNatClampNeg))) (fun w8 => ck (inb v2 (ln 55)) (lt (upA w8 55 (upd (w8.2.2.1 55) v2.toNatClampNeg (w8.1 58))) (fun w9 => G w9 (v1) (v2) (v3) (0))))))))
set_option maxRecDepth 100000 in
set_option maxHeartbeats 4000000 in
theorem wb_M_fun_221 {p : Program} {l : Launch} {e : Env} {R : Room} {s : State} {m : MethodId} {args : Array Value} {below : List Frame} {meth : Method} {c : Code} {D : va_G} {cl : List vw_C} {cB cI cJ cZ cS : ClassId} {A : Nat → Prop} {iM h0 : Nat} {ad : Nat → Nat} (C0 : MCx p s m args meth c b_M_fun 6 (some .int) D cl cB cI cJ cZ cS iM A) {d : Nat} (hR : R = rg_M_behind (d + 1)) (N : Nat) (S : SG_M_behind) (hSg : HS_M_behind l D cl cB cI cJ cZ cS iM h0 ad (rg_M_behind d) S) (G : (MS → Int32 → Int32 → Int32 → Int32 → Option (MS × Int32))) (hG : (∀ (u : MS) (v1 : Int32) (v2 : Int32) (v3 : Int32) (v5 : Int32) (x : MS × Int32), G u v1 v2 v3 v5 = some x → ∀ (H : Heap) (locs : List Loc), va_P D cl (wM cB cI cJ cZ cS iM h0 ad u) H → va_D A (wM cB cI cJ cZ cS iM h0 ad u) → va_S A s.heap H locs → ∀ (ls : Array Slot), lv_has ls 6 [(0, .ref h0), (1, .int v1), (2, .int v2), (3, .int v3), (5, .int v5)] → W p l e R s m args below meth c H locs 0 0 (MQ below (mQi D cl cB cI cJ cZ cS iM h0 ad A x) args s 0 0 A) (F0 m 257 ls []))) : ∀ (u : MS) (v1 : Int32) (v2 : Int32) (v3 : Int32) (v4 : Int32) (x : MS × Int32), fb_M_fun_221 N S G u v1 v2 v3 v4 = some x → ∀ (H : Heap) (locs : List Loc), va_P D cl (wM cB cI cJ cZ cS iM h0 ad u) H → va_D A (wM cB cI cJ cZ cS iM h0 ad u) → va_S A s.heap H locs → ∀ (ls : Array Slot), lv_has ls 6 [(0, .ref h0), (1, .int v1), (2, .int v2), (3, .int v3), (4, .int v4)] → W p l e R s m args below meth c H locs 0 0 (MQ below (mQi D cl cB cI cJ cZ cS iM h0 ad A x) args s 0 0 A) (F0 m 221 ls []) := by
  intro u v1 v2 v3 v4 x hf H locs hP hD hS ls hl
  obtain ⟨hx, hb, hr, hml, ht, hown, hM, hK, hA, hlocks⟩ := id C0
  unfold fb_M_fun_221 at hf
  refine lv_aload_n hx hb d_M_fun_221 rfl (lv_at hl 0 rfl) ?_
  refine ug_R hx hb ht hown hM hK hP 53 (by decide) lk_M_53 (by decide) d_M_fun_222 ?_
  refine lv_iload_n hx hb d_M_fun_225 rfl (lv_at hl 2 rfl) ?_
  refine lv_iload hx hb d_M_fun_226 (lv_at hl 4 rfl) ?_
  obtain ⟨hi9, hf⟩ := ck_some hf
  refine us_I hx hb hK hP hD hS (by decide) (by decide) hi9 d_M_fun_228 (fun H locs hP hD hS => ?_)
  obtain ⟨w7, e7, hf⟩ := lt_some hf
  rw [← e7] at hP hD
  refine lv_aload_n hx hb d_M_fun_229 rfl (lv_at hl 0 rfl) ?_
  refine ug_R hx hb ht hown hM hK hP 54 (by decide) lk_M_54 (by decide) d_M_fun_230 ?_
  refine lv_iload_n hx hb d_M_fun_233 rfl (lv_at hl 2 rfl) ?_
  refine lv_aload_n hx hb d_M_fun_234 rfl (lv_at hl 0 rfl) ?_
  refine ug_R hx hb ht hown hM hK hP 63 (by decide) lk_M_63 (by decide) d_M_fun_235 ?_
  refine lv_aload_n hx hb d_M_fun_238 rfl (lv_at hl 0 rfl) ?_
  refine ug_I hx hb ht hown hM hK hP 65 (by decide) lk_M_65 (by decide) d_M_fun_239 ?_
  obtain ⟨hi9, hf⟩ := ck_some hf
  refine ul_I hx hb hK hP (by decide) (by decide) hi9 d_M_fun_242 ?_
  obtain ⟨hi9, hf⟩ := ck_some hf
  refine us_I hx hb hK hP hD hS (by decide) (by decide) hi9 d_M_fun_243 (fun H locs hP hD hS => ?_)
  obtain ⟨w8, e8, hf⟩ := lt_some hf
  rw [← e8] at hP hD
  refine lv_aload_n hx hb d_M_fun_244 rfl (lv_at hl 0 rfl) ?_
  refine ug_R hx hb ht hown hM hK hP 55 (by decide) lk_M_55 (by decide) d_M_fun_245 ?_
  refine lv_iload_n hx hb d_M_fun_248 rfl (lv_at hl 2 rfl) ?_
  refine lv_aload_n hx hb d_M_fun_249 rfl (lv_at hl 0 rfl) ?_
  refine ug_I hx hb ht hown hM hK hP 58 (by decide) lk_M_58 (by decide) d_M_fun_250 ?_
  obtain ⟨hi9, hf⟩ := ck_some hf
  refine us_I hx hb hK hP hD hS (by decide) (by decide) hi9 d_M_fun_253 (fun H locs hP hD hS => ?_)
  obtain ⟨w9, e9, hf⟩ := lt_some hf
  rw [← e9] at hP hD
  refine lv_iconst (v := 0) hx hb d_M_fun_254 (by decide) ?_
  refine lv_istore (lv' := [(5, .int 0), (0, .ref h0), (1, .int v1), (2, .int v2), (3, .int v3), (4, .int v4)]) hx hb d_M_fun_255 hl (by decide) rfl (fun ls hl => ?_)
  exact hG _ _ _ _ _ _ hf H locs hP hD hS ls (lv_sub hl [1, 2, 3, 4, 0] rfl)
def fb_M_fun_69 (N : Nat) (S : SG_M_behind) (G : (MS → Int32 → Int32 → Int32 → Int32 → Option (MS × Int32))) (u : MS) (v2 : Int32) : Option (MS × Int32) := bnd (fm_M_node N u 15 v2) (fun u10 r10 => ck (inb v2 (ln 7)) (ck (inb r10 (ln 25)) (lt (upA u10 25 (upd (u10.2.2.1 25) r10.toNatClampNeg (u10.2.2.1 7 v2.toNatClampNeg))) (fun w11 => ck (inb (w11.1 69) (ln 7)) (ck (inb r10 (ln 26)) (lt (upA w11 26 (upd (w11.2.2.1 26) r10.toNatClampNeg (w11.2.2.1 7 (w11.1 69).toNatClampNeg))) (fun w12 => lt (upI w12 69 ((w12.1 69) + 1)) (fun w13 => some (w13, r10)))))))))
set_option maxRecDepth 100000 in
set_option maxHeartbeats 4000000 in
theorem wb_M_fun_69 {p : Program} {l : Launch} {e : Env} {R : Room} {s : State} {m : MethodId} {args : Array Value} {below : List Frame} {meth : Method} {c : Code} {D : va_G} {cl : List vw_C} {cB cI cJ cZ cS : ClassId} {A : Nat → Prop} {iM h0 : Nat} {ad : Nat → Nat} (C0 : MCx p s m args meth c b_M_fun 6 (some .int) D cl cB cI cJ cZ cS iM A) {d : Nat} (hR : R = rg_M_behind (d + 1)) (N : Nat) (S : SG_M_behind) (hSg : HS_M_behind l D cl cB cI cJ cZ cS iM h0 ad (rg_M_behind d) S) (G : (MS → Int32 → Int32 → Int32 → Int32 → Option (MS × Int32))) (hG : (∀ (u : MS) (v1 : Int32) (v2 : Int32) (v3 : Int32) (v5 : Int32) (x : MS × Int32), G u v1 v2 v3 v5 = some x → ∀ (H : Heap) (locs : List Loc), va_P D cl (wM cB cI cJ cZ cS iM h0 ad u) H → va_D A (wM cB cI cJ cZ cS iM h0 ad u) → va_S A s.heap H locs → ∀ (ls : Array Slot), lv_has ls 6 [(0, .ref h0), (1, .int v1), (2, .int v2), (3, .int v3), (5, .int v5)] → W p l e R s m args below meth c H locs 0 0 (MQ below (mQi D cl cB cI cJ cZ cS iM h0 ad A x) args s 0 0 A) (F0 m 257 ls []))) : ∀ (u : MS) (v2 : Int32) (x : MS × Int32), fb_M_fun_69 N S G u v2 = some x → ∀ (H : Heap) (locs : List Loc), va_P D cl (wM cB cI cJ cZ cS iM h0 ad u) H → va_D A (wM cB cI cJ cZ cS iM h0 ad u) → va_S A s.heap H locs → ∀ (ls : Array Slot), lv_has ls 6 [(0, .ref h0), (2, .int v2)] → W p l e R s m args below meth c H locs 0 0 (MQ below (mQi D cl cB cI cJ cZ cS iM h0 ad A x) args s 0 0 A) (F0 m 69 ls []) := by
  intro u v2 x hf H locs hP hD hS ls hl
  obtain ⟨hx, hb, hr, hml, ht, hown, hM, hK, hA, hlocks⟩ := id C0
  unfold fb_M_fun_69 at hf
  refine lv_aload_n hx hb d_M_fun_69 rfl (lv_at hl 0 rfl) ?_
  refine lv_bipush (v := 15) hx hb d_M_fun_70 (by decide) ?_
  refine lv_iload_n hx hb d_M_fun_72 rfl (lv_at hl 1 rfl) ?_
  obtain ⟨u10, r10, hc10, hf⟩ := bnd_some hf
  refine mV_i (As := [.int 15, .int v2]) (rest := []) C0 hP hD hS (c_M_node N hM hc10) k_M_node hl_M_node hi_M_node hs_M_node hini_M rfl rfl hd_M_node rfl (rm_M_fun_M_node hR) hl.1 (Nat.le_of_ble_eq_true rfl) d_M_fun_73 rfl ⟨Nat.zero_le _, Nat.zero_le _⟩ (fun H locs hP hD hS => ?_)
  refine lv_istore_n (lv' := [(3, .int r10), (0, .ref h0), (2, .int v2)]) hx hb d_M_fun_76 rfl hl (by decide) rfl (fun ls hl => ?_)
  refine lv_aload_n hx hb d_M_fun_77 rfl (lv_at hl 1 rfl) ?_
  refine ug_R hx hb ht hown hM hK hP 25 (by decide) lk_M_25 (by decide) d_M_fun_78 ?_
  refine lv_iload_n hx hb d_M_fun_81 rfl (lv_at hl 0 rfl) ?_
  refine lv_aload_n hx hb d_M_fun_82 rfl (lv_at hl 1 rfl) ?_
  refine ug_R hx hb ht hown hM hK hP 7 (by decide) lk_M_7 (by decide) d_M_fun_83 ?_
  refine lv_iload_n hx hb d_M_fun_86 rfl (lv_at hl 2 rfl) ?_
  obtain ⟨hi9, hf⟩ := ck_some hf
  refine ul_I hx hb hK hP (by decide) (by decide) hi9 d_M_fun_87 ?_
  obtain ⟨hi9, hf⟩ := ck_some hf
  refine us_I hx hb hK hP hD hS (by decide) (by decide) hi9 d_M_fun_88 (fun H locs hP hD hS => ?_)
  obtain ⟨w11, e11, hf⟩ := lt_some hf
  rw [← e11] at hP hD
  refine lv_aload_n hx hb d_M_fun_89 rfl (lv_at hl 1 rfl) ?_
  refine ug_R hx hb ht hown hM hK hP 26 (by decide) lk_M_26 (by decide) d_M_fun_90 ?_
  refine lv_iload_n hx hb d_M_fun_93 rfl (lv_at hl 0 rfl) ?_
  refine lv_aload_n hx hb d_M_fun_94 rfl (lv_at hl 1 rfl) ?_
  refine ug_R hx hb ht hown hM hK hP 7 (by decide) lk_M_7 (by decide) d_M_fun_95 ?_
  refine lv_aload_n hx hb d_M_fun_98 rfl (lv_at hl 1 rfl) ?_
  refine ug_I hx hb ht hown hM hK hP 69 (by decide) lk_M_69 (by decide) d_M_fun_99 ?_
  obtain ⟨hi9, hf⟩ := ck_some hf
  refine ul_I hx hb hK hP (by decide) (by decide) hi9 d_M_fun_102 ?_
  obtain ⟨hi9, hf⟩ := ck_some hf
  refine us_I hx hb hK hP hD hS (by decide) (by decide) hi9 d_M_fun_103 (fun H locs hP hD hS => ?_)
  obtain ⟨w12, e12, hf⟩ := lt_some hf
  rw [← e12] at hP hD
  refine lv_aload_n hx hb d_M_fun_104 rfl (lv_at hl 1 rfl) ?_
  refine lv_dup hx hb d_M_fun_105 rfl ?_
  refine ug_I hx hb ht hown hM hK hP 69 (by decide) lk_M_69 (by decide) d_M_fun_106 ?_
  refine lv_iconst (v := 1) hx hb d_M_fun_109 (by decide) ?_
  refine lv_iadd hx hb d_M_fun_110 ?_
  refine up_I hx hb ht hown hM hK hP hD hS 69 (by decide) lk_M_69 (by decide) rfl rfl rfl d_M_fun_111 (fun H locs hP hD hS => ?_)
  obtain ⟨w13, e13, hf⟩ := lt_some hf
  rw [← e13] at hP hD
  refine lv_iload_n hx hb d_M_fun_114 rfl (lv_at hl 0 rfl) ?_
  exact mr_i C0 hP hD hS hf d_M_fun_115
def fb_M_fun_0 (N : Nat) (S : SG_M_behind) (G : (MS → Int32 → Int32 → Int32 → Int32 → Option (MS × Int32))) (u : MS) (v1 : Int32) : Option (MS × Int32) := lt (upI u 69 ((u.1 69) + 1)) (fun w14 => ck (inb (w14.1 69) (ln 6)) (br (decide ((w14.2.2.1 6 (w14.1 69).toNatClampNeg) = 1)) (lt (upI w14 69 ((w14.1 69) + 1)) (fun w24 => bnd (fm_M_needSign N w24 24) (fun u25 _ => br (decide ((u25.1 67) = 0)) (ck (inb (u25.1 69) (ln 6)) (br (decide ((u25.2.2.1 6 (u25.1 69).toNatClampNeg) = 4)) (fb_M_fun_69 N S G u25 ((w14.1 69))) (bnd (fm_M_wrong N u25 2) (fun u26 _ => fb_M_fun_69 N S G u26 ((w14.1 69)))))) (fb_M_fun_69 N S G u25 ((w14.1 69)))))) (lt (upI w14 56 ((w14.1 56) + 1)) (fun w15 => bnd (fm_M_node N w15 26 v1) (fun u16 r16 => lt (upI u16 65 ((u16.1 65) + 1)) (fun w17 => ck (inb (w17.1 65) (ln 60)) (lt (upA w17 60 (upd (w17.2.2.1 60) (w17.1 65).toNatClampNeg 0)) (fun w18 => ck (inb (w18.1 65) (ln 63)) (lt (upA w18 63 (upd (w18.2.2.1 63) (w18.1 65).toNatClampNeg 0)) (fun w19 => ck (inb (w19.1 65) (ln 64)) (lt (upA w19 64 (upd (w19.2.2.1 64) (w19.1 65).toNatClampNeg 0)) (fun w20 => bnd (S.2.2.2.2.2.2.2.2.2.2.2.2.2.2.2.2 w20 v1) (fun u21 r21 => bnd (fm_M_needWord N u21 6) (fun u22 _ => ck (inb (u22.1 65) (ln 64)) (ck (inb (u22.1 65) (ln 63)) (br (decide (((u22.2.2.1 64 (u22.1 65).toNatClampNeg) + (u22.2.2.1 63 (u22.1 65).toNatClampNeg)) ≤ 40)) (fb_M_fun_221 N S G u22 (v1) ((w14.1 56)) (r16) (r21)) (lt (upI u22 66 1) (fun w23 => fb_M_fun_221 N S G w23 (v1) ((w14.1 56)) (r16) (r21)))))))))))))))))))
set_option maxRecDepth 100000 in
set_option maxHeartbeats 4000000 in
theorem wb_M_fun_0 {p : Program} {l : Launch} {e : Env} {R : Room} {s : State} {m : MethodId} {args : Array Value} {below : List Frame} {meth : Method} {c : Code} {D : va_G} {cl : List vw_C} {cB cI cJ cZ cS : ClassId} {A : Nat → Prop} {iM h0 : Nat} {ad : Nat → Nat} (C0 : MCx p s m args meth c b_M_fun 6 (some .int) D cl cB cI cJ cZ cS iM A) {d : Nat} (hR : R = rg_M_behind (d + 1)) (N : Nat) (S : SG_M_behind) (hSg : HS_M_behind l D cl cB cI cJ cZ cS iM h0 ad (rg_M_behind d) S) (G : (MS → Int32 → Int32 → Int32 → Int32 → Option (MS × Int32))) (hG : (∀ (u : MS) (v1 : Int32) (v2 : Int32) (v3 : Int32) (v5 : Int32) (x : MS × Int32), G u v1 v2 v3 v5 = some x → ∀ (H : Heap) (locs : List Loc), va_P D cl (wM cB cI cJ cZ cS iM h0 ad u) H → va_D A (wM cB cI cJ cZ cS iM h0 ad u) → va_S A s.heap H locs → ∀ (ls : Array Slot), lv_has ls 6 [(0, .ref h0), (1, .int v1), (2, .int v2), (3, .int v3), (5, .int v5)] → W p l e R s m args below meth c H locs 0 0 (MQ below (mQi D cl cB cI cJ cZ cS iM h0 ad A x) args s 0 0 A) (F0 m 257 ls []))) : ∀ (u : MS) (v1 : Int32) (x : MS × Int32), fb_M_fun_0 N S G u v1 = some x → ∀ (H : Heap) (locs : List Loc), va_P D cl (wM cB cI cJ cZ cS iM h0 ad u) H → va_D A (wM cB cI cJ cZ cS iM h0 ad u) → va_S A s.heap H locs → ∀ (ls : Array Slot), lv_has ls 6 [(0, .ref h0), (1, .int v1)] → W p l e R s m args below meth c H locs 0 0 (MQ below (mQi D cl cB cI cJ cZ cS iM h0 ad A x) args s 0 0 A) (F0 m 0 ls []) := by
  intro u v1 x hf H locs hP hD hS ls hl
  obtain ⟨hx, hb, hr, hml, ht, hown, hM, hK, hA, hlocks⟩ := id C0
  unfold fb_M_fun_0 at hf
  refine lv_aload_n hx hb d_M_fun_0 rfl (lv_at hl 0 rfl) ?_
  refine lv_dup hx hb d_M_fun_1 rfl ?_
  refine ug_I hx hb ht hown hM hK hP 69 (by decide) lk_M_69 (by decide) d_M_fun_2 ?_
  refine lv_iconst (v := 1) hx hb d_M_fun_5 (by decide) ?_
  refine lv_iadd hx hb d_M_fun_6 ?_
  refine up_I hx hb ht hown hM hK hP hD hS 69 (by decide) lk_M_69 (by decide) rfl rfl rfl d_M_fun_7 (fun H locs hP hD hS => ?_)
  obtain ⟨w14, e14, hf⟩ := lt_some hf
  rw [← e14] at hP hD
  refine lv_aload_n hx hb d_M_fun_10 rfl (lv_at hl 0 rfl) ?_
  refine ug_R hx hb ht hown hM hK hP 6 (by decide) lk_M_6 (by decide) d_M_fun_11 ?_
  refine lv_aload_n hx hb d_M_fun_14 rfl (lv_at hl 0 rfl) ?_
  refine ug_I hx hb ht hown hM hK hP 69 (by decide) lk_M_69 (by decide) d_M_fun_15 ?_
  obtain ⟨hi9, hf⟩ := ck_some hf
  refine ul_B hx hb hK hP (by decide) (by decide) hi9 d_M_fun_18 ?_
  refine lv_iconst (v := 1) hx hb d_M_fun_19 (by decide) ?_
  refine lv_icmp_ne (tgt := 116) hx hb d_M_fun_20 (by decide) (fun hc => ?_) (fun hc => ?_)
  · rw [br_n _ hc] at hf
    refine lv_aload_n hx hb d_M_fun_116 rfl (lv_at hl 0 rfl) ?_
    refine ug_I hx hb ht hown hM hK hP 56 (by decide) lk_M_56 (by decide) d_M_fun_117 ?_
    refine lv_istore_n (lv' := [(2, .int (w14.1 56)), (0, .ref h0), (1, .int v1)]) hx hb d_M_fun_120 rfl hl (by decide) rfl (fun ls hl => ?_)
    refine lv_aload_n hx hb d_M_fun_121 rfl (lv_at hl 1 rfl) ?_
    refine lv_dup hx hb d_M_fun_122 rfl ?_
    refine ug_I hx hb ht hown hM hK hP 56 (by decide) lk_M_56 (by decide) d_M_fun_123 ?_
    refine lv_iconst (v := 1) hx hb d_M_fun_126 (by decide) ?_
    refine lv_iadd hx hb d_M_fun_127 ?_
    refine up_I hx hb ht hown hM hK hP hD hS 56 (by decide) lk_M_56 (by decide) rfl rfl rfl d_M_fun_128 (fun H locs hP hD hS => ?_)
    obtain ⟨w15, e15, hf⟩ := lt_some hf
    rw [← e15] at hP hD
    refine lv_aload_n hx hb d_M_fun_131 rfl (lv_at hl 1 rfl) ?_
    refine lv_bipush (v := 26) hx hb d_M_fun_132 (by decide) ?_
    refine lv_iload_n hx hb d_M_fun_134 rfl (lv_at hl 2 rfl) ?_
    obtain ⟨u16, r16, hc16, hf⟩ := bnd_some hf
    refine mV_i (As := [.int 26, .int v1]) (rest := []) C0 hP hD hS (c_M_node N hM hc16) k_M_node hl_M_node hi_M_node hs_M_node hini_M rfl rfl hd_M_node rfl (rm_M_fun_M_node hR) hl.1 (Nat.le_of_ble_eq_true rfl) d_M_fun_135 rfl ⟨Nat.zero_le _, Nat.zero_le _⟩ (fun H locs hP hD hS => ?_)
    refine lv_istore_n (lv' := [(3, .int r16), (2, .int (w14.1 56)), (0, .ref h0), (1, .int v1)]) hx hb d_M_fun_138 rfl hl (by decide) rfl (fun ls hl => ?_)
    refine lv_aload_n hx hb d_M_fun_139 rfl (lv_at hl 2 rfl) ?_
    refine lv_dup hx hb d_M_fun_140 rfl ?_
    refine ug_I hx hb ht hown hM hK hP 65 (by decide) lk_M_65 (by decide) d_M_fun_141 ?_
    refine lv_iconst (v := 1) hx hb d_M_fun_144 (by decide) ?_
    refine lv_iadd hx hb d_M_fun_145 ?_
    refine up_I hx hb ht hown hM hK hP hD hS 65 (by decide) lk_M_65 (by decide) rfl rfl rfl d_M_fun_146 (fun H locs hP hD hS => ?_)
    obtain ⟨w17, e17, hf⟩ := lt_some hf
    rw [← e17] at hP hD
    refine lv_aload_n hx hb d_M_fun_149 rfl (lv_at hl 2 rfl) ?_
    refine ug_R hx hb ht hown hM hK hP 60 (by decide) lk_M_60 (by decide) d_M_fun_150 ?_
    refine lv_aload_n hx hb d_M_fun_153 rfl (lv_at hl 2 rfl) ?_
    refine ug_I hx hb ht hown hM hK hP 65 (by decide) lk_M_65 (by decide) d_M_fun_154 ?_
    refine lv_iconst (v := 0) hx hb d_M_fun_157 (by decide) ?_
    obtain ⟨hi9, hf⟩ := ck_some hf
    refine us_I hx hb hK hP hD hS (by decide) (by decide) hi9 d_M_fun_158 (fun H locs hP hD hS => ?_)
    obtain ⟨w18, e18, hf⟩ := lt_some hf
    rw [← e18] at hP hD
    refine lv_aload_n hx hb d_M_fun_159 rfl (lv_at hl 2 rfl) ?_
    refine ug_R hx hb ht hown hM hK hP 63 (by decide) lk_M_63 (by decide) d_M_fun_160 ?_
    refine lv_aload_n hx hb d_M_fun_163 rfl (lv_at hl 2 rfl) ?_
    refine ug_I hx hb ht hown hM hK hP 65 (by decide) lk_M_65 (by decide) d_M_fun_164 ?_
    refine lv_iconst (v := 0) hx hb d_M_fun_167 (by decide) ?_
    obtain ⟨hi9, hf⟩ := ck_some hf
    refine us_I hx hb hK hP hD hS (by decide) (by decide) hi9 d_M_fun_168 (fun H locs hP hD hS => ?_)
    obtain ⟨w19, e19, hf⟩ := lt_some hf
    rw [← e19] at hP hD
    refine lv_aload_n hx hb d_M_fun_169 rfl (lv_at hl 2 rfl) ?_
    refine ug_R hx hb ht hown hM hK hP 64 (by decide) lk_M_64 (by decide) d_M_fun_170 ?_
    refine lv_aload_n hx hb d_M_fun_173 rfl (lv_at hl 2 rfl) ?_
    refine ug_I hx hb ht hown hM hK hP 65 (by decide) lk_M_65 (by decide) d_M_fun_174 ?_
    refine lv_iconst (v := 0) hx hb d_M_fun_177 (by decide) ?_
    obtain ⟨hi9, hf⟩ := ck_some hf
    refine us_I hx hb hK hP hD hS (by decide) (by decide) hi9 d_M_fun_178 (fun H locs hP hD hS => ?_)
    obtain ⟨w20, e20, hf⟩ := lt_some hf
    rw [← e20] at hP hD
    refine lv_aload_n hx hb d_M_fun_179 rfl (lv_at hl 2 rfl) ?_
    refine lv_iload_n hx hb d_M_fun_180 rfl (lv_at hl 3 rfl) ?_
    obtain ⟨u21, r21, hc21, hf⟩ := bnd_some hf
    refine mV_i (As := [.int v1]) (rest := []) C0 hP hD hS (hSg.2.2.2.2.2.2.2.2.2.2.2.2.2.2.2.2 _ _ _ _ hc21) k_M_clause hl_M_clause hi_M_clause hs_M_clause hini_M rfl rfl hd_M_clause rfl (rm_M_fun_M_clause hR) hl.1 (Nat.le_of_ble_eq_true rfl) d_M_fun_181 rfl ⟨Nat.zero_le _, Nat.zero_le _⟩ (fun H locs hP hD hS => ?_)
    refine lv_istore (lv' := [(4, .int r21), (3, .int r16), (2, .int (w14.1 56)), (0, .ref h0), (1, .int v1)]) hx hb d_M_fun_184 hl (by decide) rfl (fun ls hl => ?_)
    refine lv_aload_n hx hb d_M_fun_186 rfl (lv_at hl 3 rfl) ?_
    refine lv_bipush (v := 6) hx hb d_M_fun_187 (by decide) ?_
    obtain ⟨u22, r22, hc22, hf⟩ := bnd_some hf
    refine mV_v (As := [.int 6]) (rest := []) C0 hP hD hS (c_M_needWord N hM hc22) k_M_needWord hl_M_needWord hi_M_needWord hs_M_needWord hini_M rfl rfl hd_M_needWord rfl (rm_M_fun_M_needWord hR) hl.1 (Nat.le_of_ble_eq_true rfl) d_M_fun_189 rfl ⟨Nat.zero_le _, Nat.zero_le _⟩ (fun H locs hP hD hS => ?_)
    refine lv_aload_n hx hb d_M_fun_192 rfl (lv_at hl 3 rfl) ?_
    refine ug_R hx hb ht hown hM hK hP 64 (by decide) lk_M_64 (by decide) d_M_fun_193 ?_
    refine lv_aload_n hx hb d_M_fun_196 rfl (lv_at hl 3 rfl) ?_
    refine ug_I hx hb ht hown hM hK hP 65 (by decide) lk_M_65 (by decide) d_M_fun_197 ?_
    obtain ⟨hi9, hf⟩ := ck_some hf
    refine ul_I hx hb hK hP (by decide) (by decide) hi9 d_M_fun_200 ?_
    refine lv_aload_n hx hb d_M_fun_201 rfl (lv_at hl 3 rfl) ?_
    refine ug_R hx hb ht hown hM hK hP 63 (by decide) lk_M_63 (by decide) d_M_fun_202 ?_
    refine lv_aload_n hx hb d_M_fun_205 rfl (lv_at hl 3 rfl) ?_
    refine ug_I hx hb ht hown hM hK hP 65 (by decide) lk_M_65 (by decide) d_M_fun_206 ?_
    obtain ⟨hi9, hf⟩ := ck_some hf
    refine ul_I hx hb hK hP (by decide) (by decide) hi9 d_M_fun_209 ?_
    refine lv_iadd hx hb d_M_fun_210 ?_
    refine lv_bipush (v := 40) hx hb d_M_fun_211 (by decide) ?_
    refine lv_icmp_le (tgt := 221) hx hb d_M_fun_213 (by decide) (fun hc => ?_) (fun hc => ?_)
    · rw [br_p _ hc] at hf
      exact wb_M_fun_221 C0 hR N S hSg G hG _ _ _ _ _ _ hf H locs hP hD hS ls (lv_sub hl [3, 4, 2, 1, 0] rfl)
    · rw [br_n _ hc] at hf
      refine lv_aload_n hx hb d_M_fun_216 rfl (lv_at hl 3 rfl) ?_
      refine lv_iconst (v := 1) hx hb d_M_fun_217 (by decide) ?_
      refine up_I hx hb ht hown hM hK hP hD hS 66 (by decide) lk_M_66 (by decide) rfl rfl rfl d_M_fun_218 (fun H locs hP hD hS => ?_)
      obtain ⟨w23, e23, hf⟩ := lt_some hf
      rw [← e23] at hP hD
      exact wb_M_fun_221 C0 hR N S hSg G hG _ _ _ _ _ _ hf H locs hP hD hS ls (lv_sub hl [3, 4, 2, 1, 0] rfl)
  · rw [br_p _ hc] at hf
    refine lv_aload_n hx hb d_M_fun_23 rfl (lv_at hl 0 rfl) ?_
    refine ug_I hx hb ht hown hM hK hP 69 (by decide) lk_M_69 (by decide) d_M_fun_24 ?_
    refine lv_istore_n (lv' := [(2, .int (w14.1 69)), (0, .ref h0), (1, .int v1)]) hx hb d_M_fun_27 rfl hl (by decide) rfl (fun ls hl => ?_)
    refine lv_aload_n hx hb d_M_fun_28 rfl (lv_at hl 1 rfl) ?_
    refine lv_dup hx hb d_M_fun_29 rfl ?_
    refine ug_I hx hb ht hown hM hK hP 69 (by decide) lk_M_69 (by decide) d_M_fun_30 ?_
    refine lv_iconst (v := 1) hx hb d_M_fun_33 (by decide) ?_
    refine lv_iadd hx hb d_M_fun_34 ?_
    refine up_I hx hb ht hown hM hK hP hD hS 69 (by decide) lk_M_69 (by decide) rfl rfl rfl d_M_fun_35 (fun H locs hP hD hS => ?_)
    obtain ⟨w24, e24, hf⟩ := lt_some hf
    rw [← e24] at hP hD
    refine lv_aload_n hx hb d_M_fun_38 rfl (lv_at hl 1 rfl) ?_
    refine lv_bipush (v := 24) hx hb d_M_fun_39 (by decide) ?_
    obtain ⟨u25, r25, hc25, hf⟩ := bnd_some hf
    refine mV_v (As := [.int 24]) (rest := []) C0 hP hD hS (c_M_needSign N hM hc25) k_M_needSign hl_M_needSign hi_M_needSign hs_M_needSign hini_M rfl rfl hd_M_needSign rfl (rm_M_fun_M_needSign hR) hl.1 (Nat.le_of_ble_eq_true rfl) d_M_fun_41 rfl ⟨Nat.zero_le _, Nat.zero_le _⟩ (fun H locs hP hD hS => ?_)
    refine lv_aload_n hx hb d_M_fun_44 rfl (lv_at hl 1 rfl) ?_
    refine ug_I hx hb ht hown hM hK hP 67 (by decide) lk_M_67 (by decide) d_M_fun_45 ?_
    refine lv_if_ne (tgt := 69) hx hb d_M_fun_48 (by decide) (fun hc => ?_) (fun hc => ?_)
    · rw [br_n _ hc] at hf
      exact wb_M_fun_69 C0 hR N S hSg G hG _ _ _ hf H locs hP hD hS ls (lv_sub hl [1, 0] rfl)
    · rw [br_p _ hc] at hf
      refine lv_aload_n hx hb d_M_fun_51 rfl (lv_at hl 1 rfl) ?_
      refine ug_R hx hb ht hown hM hK hP 6 (by decide) lk_M_6 (by decide) d_M_fun_52 ?_
      refine lv_aload_n hx hb d_M_fun_55 rfl (lv_at hl 1 rfl) ?_
      refine ug_I hx hb ht hown hM hK hP 69 (by decide) lk_M_69 (by decide) d_M_fun_56 ?_
      obtain ⟨hi9, hf⟩ := ck_some hf
      refine ul_B hx hb hK hP (by decide) (by decide) hi9 d_M_fun_59 ?_
      refine lv_iconst (v := 4) hx hb d_M_fun_60 (by decide) ?_
      refine lv_icmp_eq (tgt := 69) hx hb d_M_fun_61 (by decide) (fun hc => ?_) (fun hc => ?_)
      · rw [br_p _ hc] at hf
        exact wb_M_fun_69 C0 hR N S hSg G hG _ _ _ hf H locs hP hD hS ls (lv_sub hl [1, 0] rfl)
      · rw [br_n _ hc] at hf
        refine lv_aload_n hx hb d_M_fun_64 rfl (lv_at hl 1 rfl) ?_
        refine lv_iconst (v := 2) hx hb d_M_fun_65 (by decide) ?_
        obtain ⟨u26, r26, hc26, hf⟩ := bnd_some hf
        refine mV_v (As := [.int 2]) (rest := []) C0 hP hD hS (c_M_wrong N hM hc26) k_M_wrong hl_M_wrong hi_M_wrong hs_M_wrong hini_M rfl rfl hd_M_wrong rfl (rm_M_fun_M_wrong hR) hl.1 (Nat.le_of_ble_eq_true rfl) d_M_fun_66 rfl ⟨Nat.zero_le _, Nat.zero_le _⟩ (fun H locs hP hD hS => ?_)
        exact wb_M_fun_69 C0 hR N S hSg G hG _ _ _ hf H locs hP hD hS ls (lv_sub hl [1, 0] rfl)
def gg_M_fun (N : Nat) (S : SG_M_behind) : Nat → ((MS → Int32 → Int32 → Int32 → Int32 → Option (MS × Int32)))
  | 0 => fun _ _ _ _ _ => none
  | n + 1 => fb_M_fun_257 N S (gg_M_fun N S n)
theorem wg_M_fun {p : Program} {l : Launch} {e : Env} {R : Room} {s : State} {m : MethodId} {args : Array Value} {below : List Frame} {meth : Method} {c : Code} {D : va_G} {cl : List vw_C} {cB cI cJ cZ cS : ClassId} {A : Nat → Prop} {iM h0 : Nat} {ad : Nat → Nat} (C0 : MCx p s m args meth c b_M_fun 6 (some .int) D cl cB cI cJ cZ cS iM A) {d : Nat} (hR : R = rg_M_behind (d + 1)) (N : Nat) (S : SG_M_behind) (hSg : HS_M_behind l D cl cB cI cJ cZ cS iM h0 ad (rg_M_behind d) S) : ∀ n : Nat, (∀ (u : MS) (v1 : Int32) (v2 : Int32) (v3 : Int32) (v5 : Int32) (x : MS × Int32), gg_M_fun N S n u v1 v2 v3 v5 = some x → ∀ (H : Heap) (locs : List Loc), va_P D cl (wM cB cI cJ cZ cS iM h0 ad u) H → va_D A (wM cB cI cJ cZ cS iM h0 ad u) → va_S A s.heap H locs → ∀ (ls : Array Slot), lv_has ls 6 [(0, .ref h0), (1, .int v1), (2, .int v2), (3, .int v3), (5, .int v5)] → W p l e R s m args below meth c H locs 0 0 (MQ below (mQi D cl cB cI cJ cZ cS iM h0 ad A x) args s 0 0 A) (F0 m 257 ls []))
  | 0 => (fun u v1 v2 v3 v5 x hf => by cases hf)
  | n + 1 => wb_M_fun_257 C0 hR N S hSg (gg_M_fun N S n) (wg_M_fun C0 hR N S hSg n)
def fm_M_fun (N : Nat) (S : SG_M_behind) (u : MS) (v1 : Int32) : Option (MS × Int32) := fb_M_fun_0 N S (gg_M_fun N S N) u v1
set_option maxRecDepth 100000 in
set_option maxHeartbeats 4000000 in
theorem cs_M_fun (N : Nat) {d : Nat} {l : Launch} {D : va_G} {cl : List vw_C} {cB cI cJ cZ cS : ClassId} {iM h0 : Nat} {ad : Nat → Nat} {u : MS} {sz : Nat} {v1 : Int32} {x : MS × Int32} (hM : cl[iM]? = some (R_M, F_M, 171)) (S : SG_M_behind) (hSg : HS_M_behind l D cl cB cI cJ cZ cS iM h0 ad (rg_M_behind d) S) (hf : fm_M_fun N S u v1 = some x) : Met l y_M_fun (wd_ws y_M_fun b_M_fun 6 (some .int)) (rg_M_behind (d + 1)) (mPc D cl cB cI cJ cZ cS iM h0 ad u sz [.ref h0, .int v1]) (mQi D cl cB cI cJ cZ cS iM h0 ad (mA cB cI cJ cZ cS iM h0 ad u sz) x) 0 0 (mA cB cI cJ cZ cS iM h0 ad u sz) :=
  mMet (by decide) rfl hM (Nat.le_of_ble_eq_true rfl) (fun p e s m below meth c ls hsz C0 hP hD hS hl => by
    have hR : (rg_M_behind (d + 1)) = (rg_M_behind (d + 1)) := rfl
    exact wb_M_fun_0 C0 hR N S hSg (gg_M_fun N S N) (wg_M_fun C0 hR N S hSg N) u _ x hf s.heap [] hP hD hS ls (lv_sub hl [0, 1] rfl))
theorem rm_M_row_M_isSign {R : Room} {d : Nat} (hR : R = rg_M_behind (d + 1)) : (rm_M_isSign).frames + 1 ≤ R.frames ∧ 8 + (2 + 11) + (rm_M_isSign).locals ≤ R.locals := by
  subst hR
  have h1 : (rm_M_isSign).frames = 0 := rfl
  have h2 : (rm_M_isSign).locals = 0 := rfl
  show (rm_M_isSign).frames + 1 ≤ 94 + (d + 1) ∧ 8 + (2 + 11) + (rm_M_isSign).locals ≤ 2494 + 29 * (d + 1)
  omega
theorem rm_M_row_M_wrong {R : Room} {d : Nat} (hR : R = rg_M_behind (d + 1)) : (rm_M_wrong).frames + 1 ≤ R.frames ∧ 8 + (2 + 11) + (rm_M_wrong).locals ≤ R.locals := by
  subst hR
  have h1 : (rm_M_wrong).frames = 0 := rfl
  have h2 : (rm_M_wrong).locals = 0 := rfl
  show (rm_M_wrong).frames + 1 ≤ 94 + (d + 1) ∧ 8 + (2 + 11) + (rm_M_wrong).locals ≤ 2494 + 29 * (d + 1)
  omega
theorem rm_M_row_M_takeSign {R : Room} {d : Nat} (hR : R = rg_M_behind (d + 1)) : (rm_M_takeSign).frames + 1 ≤ R.frames ∧ 8 + (2 + 11) + (rm_M_takeSign).locals ≤ R.locals := by
  subst hR
  have h1 : (rm_M_takeSign).frames = 1 := rfl
  have h2 : (rm_M_takeSign).locals = 21 := rfl
  show (rm_M_takeSign).frames + 1 ≤ 94 + (d + 1) ∧ 8 + (2 + 11) + (rm_M_takeSign).locals ≤ 2494 + 29 * (d + 1)
  omega
theorem rm_M_row_M_needSign {R : Room} {d : Nat} (hR : R = rg_M_behind (d + 1)) : (rm_M_needSign).frames + 1 ≤ R.frames ∧ 8 + (2 + 11) + (rm_M_needSign).locals ≤ R.locals := by
  subst hR
  have h1 : (rm_M_needSign).frames = 2 := rfl
  have h2 : (rm_M_needSign).locals = 42 := rfl
  show (rm_M_needSign).frames + 1 ≤ 94 + (d + 1) ∧ 8 + (2 + 11) + (rm_M_needSign).locals ≤ 2494 + 29 * (d + 1)
  omega
theorem rm_M_row_M_node {R : Room} {d : Nat} (hR : R = rg_M_behind (d + 1)) : (rm_M_node).frames + 1 ≤ R.frames ∧ 8 + (3 + 11) + (rm_M_node).locals ≤ R.locals := by
  subst hR
  have h1 : (rm_M_node).frames = 0 := rfl
  have h2 : (rm_M_node).locals = 0 := rfl
  show (rm_M_node).frames + 1 ≤ 94 + (d + 1) ∧ 8 + (3 + 11) + (rm_M_node).locals ≤ 2494 + 29 * (d + 1)
  omega
theorem rm_M_row_M_expression {R : Room} {d : Nat} (hR : R = rg_M_behind (d + 1)) : (rg_M_behind d).frames + 1 ≤ R.frames ∧ 8 + (4 + 11) + (rg_M_behind d).locals ≤ R.locals := by
  subst hR
  show 94 + d + 1 ≤ 94 + (d + 1) ∧ 8 + (4 + 11) + (2494 + 29 * d) ≤ 2494 + 29 * (d + 1)
  omega
def fb_M_row_140 (N : Nat) (S : SG_M_behind) (G : (MS → Int32 → Int32 → Int32 → Int32 → Int32 → Int32 → Option (MS × Int32))) (u : MS) (v1 : Int32) (v4 : Int32) (v5 : Int32) (t1 : Int32) : Option (MS × Int32) := bnd (fm_M_node N u t1 v1) (fun u1 r1 => ck (inb r1 (ln 25)) (lt (upA u1 25 (upd (u1.2.2.1 25) r1.toNatClampNeg v4)) (fun w2 => ck (inb r1 (ln 26)) (lt (upA w2 26 (upd (w2.2.2.1 26) r1.toNatClampNeg v5)) (fun w3 => some (w3, r1))))))
set_option maxRecDepth 100000 in
set_option maxHeartbeats 4000000 in
theorem wb_M_row_140 {p : Program} {l : Launch} {e : Env} {R : Room} {s : State} {m : MethodId} {args : Array Value} {below : List Frame} {meth : Method} {c : Code} {D : va_G} {cl : List vw_C} {cB cI cJ cZ cS : ClassId} {A : Nat → Prop} {iM h0 : Nat} {ad : Nat → Nat} (C0 : MCx p s m args meth c b_M_row 8 (some .int) D cl cB cI cJ cZ cS iM A) {d : Nat} (hR : R = rg_M_behind (d + 1)) (N : Nat) (S : SG_M_behind) (hSg : HS_M_behind l D cl cB cI cJ cZ cS iM h0 ad (rg_M_behind d) S) (G : (MS → Int32 → Int32 → Int32 → Int32 → Int32 → Int32 → Option (MS × Int32))) (hG : (∀ (u : MS) (v1 : Int32) (v2 : Int32) (v3 : Int32) (v4 : Int32) (v5 : Int32) (v6 : Int32) (x : MS × Int32), G u v1 v2 v3 v4 v5 v6 = some x → ∀ (H : Heap) (locs : List Loc), va_P D cl (wM cB cI cJ cZ cS iM h0 ad u) H → va_D A (wM cB cI cJ cZ cS iM h0 ad u) → va_S A s.heap H locs → ∀ (ls : Array Slot), lv_has ls 8 [(0, .ref h0), (1, .int v1), (2, .int v2), (3, .int v3), (4, .int v4), (5, .int v5), (6, .int v6)] → W p l e R s m args below meth c H locs 0 0 (MQ below (mQi D cl cB cI cJ cZ cS iM h0 ad A x) args s 0 0 A) (F0 m 50 ls []))) : ∀ (u : MS) (v1 : Int32) (v4 : Int32) (v5 : Int32) (t1 : Int32) (x : MS × Int32), fb_M_row_140 N S G u v1 v4 v5 t1 = some x → ∀ (H : Heap) (locs : List Loc), va_P D cl (wM cB cI cJ cZ cS iM h0 ad u) H → va_D A (wM cB cI cJ cZ cS iM h0 ad u) → va_S A s.heap H locs → ∀ (ls : Array Slot), lv_has ls 8 [(0, .ref h0), (1, .int v1), (4, .int v4), (5, .int v5)] → W p l e R s m args below meth c H locs 0 0 (MQ below (mQi D cl cB cI cJ cZ cS iM h0 ad A x) args s 0 0 A) (F0 m 140 ls [.int t1, .ref h0]) := by
  intro u v1 v4 v5 t1 x hf H locs hP hD hS ls hl
  obtain ⟨hx, hb, hr, hml, ht, hown, hM, hK, hA, hlocks⟩ := id C0
  unfold fb_M_row_140 at hf
  refine lv_iload_n hx hb d_M_row_140 rfl (lv_at hl 1 rfl) ?_
  obtain ⟨u1, r1, hc1, hf⟩ := bnd_some hf
  refine mV_i (As := [.int t1, .int v1]) (rest := []) C0 hP hD hS (c_M_node N hM hc1) k_M_node hl_M_node hi_M_node hs_M_node hini_M rfl rfl hd_M_node rfl (rm_M_row_M_node hR) hl.1 (Nat.le_of_ble_eq_true rfl) d_M_row_141 rfl ⟨Nat.zero_le _, Nat.zero_le _⟩ (fun H locs hP hD hS => ?_)
  refine lv_istore (lv' := [(6, .int r1), (0, .ref h0), (1, .int v1), (4, .int v4), (5, .int v5)]) hx hb d_M_row_144 hl (by decide) rfl (fun ls hl => ?_)
  refine lv_aload_n hx hb d_M_row_146 rfl (lv_at hl 1 rfl) ?_
  refine ug_R hx hb ht hown hM hK hP 25 (by decide) lk_M_25 (by decide) d_M_row_147 ?_
  refine lv_iload hx hb d_M_row_150 (lv_at hl 0 rfl) ?_
  refine lv_iload hx hb d_M_row_152 (lv_at hl 3 rfl) ?_
  obtain ⟨hi9, hf⟩ := ck_some hf
  refine us_I hx hb hK hP hD hS (by decide) (by decide) hi9 d_M_row_154 (fun H locs hP hD hS => ?_)
  obtain ⟨w2, e2, hf⟩ := lt_some hf
  rw [← e2] at hP hD
  refine lv_aload_n hx hb d_M_row_155 rfl (lv_at hl 1 rfl) ?_
  refine ug_R hx hb ht hown hM hK hP 26 (by decide) lk_M_26 (by decide) d_M_row_156 ?_
  refine lv_iload hx hb d_M_row_159 (lv_at hl 0 rfl) ?_
  refine lv_iload hx hb d_M_row_161 (lv_at hl 4 rfl) ?_
  obtain ⟨hi9, hf⟩ := ck_some hf
  refine us_I hx hb hK hP hD hS (by decide) (by decide) hi9 d_M_row_163 (fun H locs hP hD hS => ?_)
  obtain ⟨w3, e3, hf⟩ := lt_some hf
  rw [← e3] at hP hD
  refine lv_iload hx hb d_M_row_164 (lv_at hl 0 rfl) ?_
  exact mr_i C0 hP hD hS hf d_M_row_166
def fb_M_row_125 (N : Nat) (S : SG_M_behind) (G : (MS → Int32 → Int32 → Int32 → Int32 → Int32 → Int32 → Option (MS × Int32))) (u : MS) (v1 : Int32) (v2 : Int32) (v3 : Int32) (v4 : Int32) (v5 : Int32) : Option (MS × Int32) := bnd (fm_M_needSign N u v3) (fun u4 _ => br (decide (v2 = 0)) (fb_M_row_140 N S G u4 (v1) (v4) (v5) (5)) (fb_M_row_140 N S G u4 (v1) (v4) (v5) (4)))
set_option maxRecDepth 100000 in
set_option maxHeartbeats 4000000 in
theorem wb_M_row_125 {p : Program} {l : Launch} {e : Env} {R : Room} {s : State} {m : MethodId} {args : Array Value} {below : List Frame} {meth : Method} {c : Code} {D : va_G} {cl : List vw_C} {cB cI cJ cZ cS : ClassId} {A : Nat → Prop} {iM h0 : Nat} {ad : Nat → Nat} (C0 : MCx p s m args meth c b_M_row 8 (some .int) D cl cB cI cJ cZ cS iM A) {d : Nat} (hR : R = rg_M_behind (d + 1)) (N : Nat) (S : SG_M_behind) (hSg : HS_M_behind l D cl cB cI cJ cZ cS iM h0 ad (rg_M_behind d) S) (G : (MS → Int32 → Int32 → Int32 → Int32 → Int32 → Int32 → Option (MS × Int32))) (hG : (∀ (u : MS) (v1 : Int32) (v2 : Int32) (v3 : Int32) (v4 : Int32) (v5 : Int32) (v6 : Int32) (x : MS × Int32), G u v1 v2 v3 v4 v5 v6 = some x → ∀ (H : Heap) (locs : List Loc), va_P D cl (wM cB cI cJ cZ cS iM h0 ad u) H → va_D A (wM cB cI cJ cZ cS iM h0 ad u) → va_S A s.heap H locs → ∀ (ls : Array Slot), lv_has ls 8 [(0, .ref h0), (1, .int v1), (2, .int v2), (3, .int v3), (4, .int v4), (5, .int v5), (6, .int v6)] → W p l e R s m args below meth c H locs 0 0 (MQ below (mQi D cl cB cI cJ cZ cS iM h0 ad A x) args s 0 0 A) (F0 m 50 ls []))) : ∀ (u : MS) (v1 : Int32) (v2 : Int32) (v3 : Int32) (v4 : Int32) (v5 : Int32) (x : MS × Int32), fb_M_row_125 N S G u v1 v2 v3 v4 v5 = some x → ∀ (H : Heap) (locs : List Loc), va_P D cl (wM cB cI cJ cZ cS iM h0 ad u) H → va_D A (wM cB cI cJ cZ cS iM h0 ad u) → va_S A s.heap H locs → ∀ (ls : Array Slot), lv_has ls 8 [(0, .ref h0), (1, .int v1), (2, .int v2), (3, .int v3), (4, .int v4), (5, .int v5)] → W p l e R s m args below meth c H locs 0 0 (MQ below (mQi D cl cB cI cJ cZ cS iM h0 ad A x) args s 0 0 A) (F0 m 125 ls []) := by
  intro u v1 v2 v3 v4 v5 x hf H locs hP hD hS ls hl
  obtain ⟨hx, hb, hr, hml, ht, hown, hM, hK, hA, hlocks⟩ := id C0
  unfold fb_M_row_125 at hf
  refine lv_aload_n hx hb d_M_row_125 rfl (lv_at hl 0 rfl) ?_
  refine lv_iload_n hx hb d_M_row_126 rfl (lv_at hl 3 rfl) ?_
  obtain ⟨u4, r4, hc4, hf⟩ := bnd_some hf
  refine mV_v (As := [.int v3]) (rest := []) C0 hP hD hS (c_M_needSign N hM hc4) k_M_needSign hl_M_needSign hi_M_needSign hs_M_needSign hini_M rfl rfl hd_M_needSign rfl (rm_M_row_M_needSign hR) hl.1 (Nat.le_of_ble_eq_true rfl) d_M_row_127 rfl ⟨Nat.zero_le _, Nat.zero_le _⟩ (fun H locs hP hD hS => ?_)
  refine lv_aload_n hx hb d_M_row_130 rfl (lv_at hl 0 rfl) ?_
  refine lv_iload_n hx hb d_M_row_131 rfl (lv_at hl 2 rfl) ?_
  refine lv_if_eq (tgt := 139) hx hb d_M_row_132 (by decide) (fun hc => ?_) (fun hc => ?_)
  · rw [br_p _ hc] at hf
    refine lv_iconst (v := 5) hx hb d_M_row_139 (by decide) ?_
    exact wb_M_row_140 C0 hR N S hSg G hG _ _ _ _ _ _ hf H locs hP hD hS ls (lv_sub hl [0, 1, 4, 5] rfl)
  · rw [br_n _ hc] at hf
    refine lv_iconst (v := 4) hx hb d_M_row_135 (by decide) ?_
    refine lv_goto (tgt := 140) hx hb d_M_row_136 (by decide) ?_
    exact wb_M_row_140 C0 hR N S hSg G hG _ _ _ _ _ _ hf H locs hP hD hS ls (lv_sub hl [0, 1, 4, 5] rfl)
def fb_M_row_103 (N : Nat) (S : SG_M_behind) (G : (MS → Int32 → Int32 → Int32 → Int32 → Int32 → Int32 → Option (MS × Int32))) (u : MS) (v1 : Int32) (v2 : Int32) (v3 : Int32) (v4 : Int32) (v5 : Int32) : Option (MS × Int32) := br (decide (v2 = 0)) (bnd (fm_M_takeSign N u 9) (fun u5 r5 => br (decide (r5 = 0)) (fb_M_row_125 N S G u5 (v1) (v2) (v3) (v4) (v5)) (bnd (S.2.2.2.2.2.2.2.2.2.2.2.2.2.1 u5) (fun u6 r6 => fb_M_row_125 N S G u6 (v1) (v2) (v3) (v4) (1))))) (fb_M_row_125 N S G u (v1) (v2) (v3) (v4) (v5))
set_option maxRecDepth 100000 in
set_option maxHeartbeats 4000000 in
theorem wb_M_row_103 {p : Program} {l : Launch} {e : Env} {R : Room} {s : State} {m : MethodId} {args : Array Value} {below : List Frame} {meth : Method} {c : Code} {D : va_G} {cl : List vw_C} {cB cI cJ cZ cS : ClassId} {A : Nat → Prop} {iM h0 : Nat} {ad : Nat → Nat} (C0 : MCx p s m args meth c b_M_row 8 (some .int) D cl cB cI cJ cZ cS iM A) {d : Nat} (hR : R = rg_M_behind (d + 1)) (N : Nat) (S : SG_M_behind) (hSg : HS_M_behind l D cl cB cI cJ cZ cS iM h0 ad (rg_M_behind d) S) (G : (MS → Int32 → Int32 → Int32 → Int32 → Int32 → Int32 → Option (MS × Int32))) (hG : (∀ (u : MS) (v1 : Int32) (v2 : Int32) (v3 : Int32) (v4 : Int32) (v5 : Int32) (v6 : Int32) (x : MS × Int32), G u v1 v2 v3 v4 v5 v6 = some x → ∀ (H : Heap) (locs : List Loc), va_P D cl (wM cB cI cJ cZ cS iM h0 ad u) H → va_D A (wM cB cI cJ cZ cS iM h0 ad u) → va_S A s.heap H locs → ∀ (ls : Array Slot), lv_has ls 8 [(0, .ref h0), (1, .int v1), (2, .int v2), (3, .int v3), (4, .int v4), (5, .int v5), (6, .int v6)] → W p l e R s m args below meth c H locs 0 0 (MQ below (mQi D cl cB cI cJ cZ cS iM h0 ad A x) args s 0 0 A) (F0 m 50 ls []))) : ∀ (u : MS) (v1 : Int32) (v2 : Int32) (v3 : Int32) (v4 : Int32) (v5 : Int32) (x : MS × Int32), fb_M_row_103 N S G u v1 v2 v3 v4 v5 = some x → ∀ (H : Heap) (locs : List Loc), va_P D cl (wM cB cI cJ cZ cS iM h0 ad u) H → va_D A (wM cB cI cJ cZ cS iM h0 ad u) → va_S A s.heap H locs → ∀ (ls : Array Slot), lv_has ls 8 [(0, .ref h0), (1, .int v1), (2, .int v2), (3, .int v3), (4, .int v4), (5, .int v5)] → W p l e R s m args below meth c H locs 0 0 (MQ below (mQi D cl cB cI cJ cZ cS iM h0 ad A x) args s 0 0 A) (F0 m 103 ls []) := by
  intro u v1 v2 v3 v4 v5 x hf H locs hP hD hS ls hl
  obtain ⟨hx, hb, hr, hml, ht, hown, hM, hK, hA, hlocks⟩ := id C0
  unfold fb_M_row_103 at hf
  refine lv_iload_n hx hb d_M_row_103 rfl (lv_at hl 2 rfl) ?_
  refine lv_if_ne (tgt := 125) hx hb d_M_row_104 (by decide) (fun hc => ?_) (fun hc => ?_)
  · rw [br_n _ hc] at hf
    exact wb_M_row_125 C0 hR N S hSg G hG _ _ _ _ _ _ _ hf H locs hP hD hS ls (lv_sub hl [0, 1, 2, 3, 4, 5] rfl)
  · rw [br_p _ hc] at hf
    refine lv_aload_n hx hb d_M_row_107 rfl (lv_at hl 0 rfl) ?_
    refine lv_bipush (v := 9) hx hb d_M_row_108 (by decide) ?_
    obtain ⟨u5, r5, hc5, hf⟩ := bnd_some hf
    refine mV_i (As := [.int 9]) (rest := []) C0 hP hD hS (c_M_takeSign N hM hc5) k_M_takeSign hl_M_takeSign hi_M_takeSign hs_M_takeSign hini_M rfl rfl hd_M_takeSign rfl (rm_M_row_M_takeSign hR) hl.1 (Nat.le_of_ble_eq_true rfl) d_M_row_110 rfl ⟨Nat.zero_le _, Nat.zero_le _⟩ (fun H locs hP hD hS => ?_)
    refine lv_if_eq (tgt := 125) hx hb d_M_row_113 (by decide) (fun hc => ?_) (fun hc => ?_)
    · rw [br_p _ hc] at hf
      exact wb_M_row_125 C0 hR N S hSg G hG _ _ _ _ _ _ _ hf H locs hP hD hS ls (lv_sub hl [0, 1, 2, 3, 4, 5] rfl)
    · rw [br_n _ hc] at hf
      refine lv_aload_n hx hb d_M_row_116 rfl (lv_at hl 0 rfl) ?_
      obtain ⟨u6, r6, hc6, hf⟩ := bnd_some hf
      refine mV_i (As := []) (rest := []) C0 hP hD hS (hSg.2.2.2.2.2.2.2.2.2.2.2.2.2.1 _ _ _ hc6) k_M_expression hl_M_expression hi_M_expression hs_M_expression hini_M rfl rfl hd_M_expression rfl (rm_M_row_M_expression hR) hl.1 (Nat.le_of_ble_eq_true rfl) d_M_row_117 rfl ⟨Nat.zero_le _, Nat.zero_le _⟩ (fun H locs hP hD hS => ?_)
      refine lv_istore (lv' := [(7, .int r6), (0, .ref h0), (1, .int v1), (2, .int v2), (3, .int v3), (4, .int v4), (5, .int v5)]) hx hb d_M_row_120 hl (by decide) rfl (fun ls hl => ?_)
      refine lv_iconst (v := 1) hx hb d_M_row_122 (by decide) ?_
      refine lv_istore (lv' := [(5, .int 1), (7, .int r6), (0, .ref h0), (1, .int v1), (2, .int v2), (3, .int v3), (4, .int v4)]) hx hb d_M_row_123 hl (by decide) rfl (fun ls hl => ?_)
      exact wb_M_row_125 C0 hR N S hSg G hG _ _ _ _ _ _ _ hf H locs hP hD hS ls (lv_sub hl [2, 3, 4, 5, 6, 0] rfl)
def fb_M_row_92 (N : Nat) (S : SG_M_behind) (G : (MS → Int32 → Int32 → Int32 → Int32 → Int32 → Int32 → Option (MS × Int32))) (u : MS) (v1 : Int32) (v2 : Int32) (v3 : Int32) (v4 : Int32) (v5 : Int32) : Option (MS × Int32) := bnd (fm_M_takeSign N u 6) (fun u7 r7 => G u7 (v1) (v2) (v3) (v4) (v5) (r7))
set_option maxRecDepth 100000 in
set_option maxHeartbeats 4000000 in
theorem wb_M_row_92 {p : Program} {l : Launch} {e : Env} {R : Room} {s : State} {m : MethodId} {args : Array Value} {below : List Frame} {meth : Method} {c : Code} {D : va_G} {cl : List vw_C} {cB cI cJ cZ cS : ClassId} {A : Nat → Prop} {iM h0 : Nat} {ad : Nat → Nat} (C0 : MCx p s m args meth c b_M_row 8 (some .int) D cl cB cI cJ cZ cS iM A) {d : Nat} (hR : R = rg_M_behind (d + 1)) (N : Nat) (S : SG_M_behind) (hSg : HS_M_behind l D cl cB cI cJ cZ cS iM h0 ad (rg_M_behind d) S) (G : (MS → Int32 → Int32 → Int32 → Int32 → Int32 → Int32 → Option (MS × Int32))) (hG : (∀ (u : MS) (v1 : Int32) (v2 : Int32) (v3 : Int32) (v4 : Int32) (v5 : Int32) (v6 : Int32) (x : MS × Int32), G u v1 v2 v3 v4 v5 v6 = some x → ∀ (H : Heap) (locs : List Loc), va_P D cl (wM cB cI cJ cZ cS iM h0 ad u) H → va_D A (wM cB cI cJ cZ cS iM h0 ad u) → va_S A s.heap H locs → ∀ (ls : Array Slot), lv_has ls 8 [(0, .ref h0), (1, .int v1), (2, .int v2), (3, .int v3), (4, .int v4), (5, .int v5), (6, .int v6)] → W p l e R s m args below meth c H locs 0 0 (MQ below (mQi D cl cB cI cJ cZ cS iM h0 ad A x) args s 0 0 A) (F0 m 50 ls []))) : ∀ (u : MS) (v1 : Int32) (v2 : Int32) (v3 : Int32) (v4 : Int32) (v5 : Int32) (x : MS × Int32), fb_M_row_92 N S G u v1 v2 v3 v4 v5 = some x → ∀ (H : Heap) (locs : List Loc), va_P D cl (wM cB cI cJ cZ cS iM h0 ad u) H → va_D A (wM cB cI cJ cZ cS iM h0 ad u) → va_S A s.heap H locs → ∀ (ls : Array Slot), lv_has ls 8 [(0, .ref h0), (1, .int v1), (2, .int v2), (3, .int v3), (4, .int v4), (5, .int v5)] → W p l e R s m args below meth c H locs 0 0 (MQ below (mQi D cl cB cI cJ cZ cS iM h0 ad A x) args s 0 0 A) (F0 m 92 ls []) := by
  intro u v1 v2 v3 v4 v5 x hf H locs hP hD hS ls hl
  obtain ⟨hx, hb, hr, hml, ht, hown, hM, hK, hA, hlocks⟩ := id C0
  unfold fb_M_row_92 at hf
  refine lv_aload_n hx hb d_M_row_92 rfl (lv_at hl 0 rfl) ?_
  refine lv_bipush (v := 6) hx hb d_M_row_93 (by decide) ?_
  obtain ⟨u7, r7, hc7, hf⟩ := bnd_some hf
  refine mV_i (As := [.int 6]) (rest := []) C0 hP hD hS (c_M_takeSign N hM hc7) k_M_takeSign hl_M_takeSign hi_M_takeSign hs_M_takeSign hini_M rfl rfl hd_M_takeSign rfl (rm_M_row_M_takeSign hR) hl.1 (Nat.le_of_ble_eq_true rfl) d_M_row_95 rfl ⟨Nat.zero_le _, Nat.zero_le _⟩ (fun H locs hP hD hS => ?_)
  refine lv_istore (lv' := [(6, .int r7), (0, .ref h0), (1, .int v1), (2, .int v2), (3, .int v3), (4, .int v4), (5, .int v5)]) hx hb d_M_row_98 hl (by decide) rfl (fun ls hl => ?_)
  refine lv_goto (tgt := 50) hx hb d_M_row_100 (by decide) ?_
  exact hG _ _ _ _ _ _ _ _ hf H locs hP hD hS ls (lv_sub hl [1, 2, 3, 4, 5, 6, 0] rfl)
def fb_M_row_50 (N : Nat) (S : SG_M_behind) (G : (MS → Int32 → Int32 → Int32 → Int32 → Int32 → Int32 → Option (MS × Int32))) (u : MS) (v1 : Int32) (v2 : Int32) (v3 : Int32) (v4 : Int32) (v5 : Int32) (v6 : Int32) : Option (MS × Int32) := br (decide (v6 = 0)) (fb_M_row_103 N S G u (v1) (v2) (v3) (v4) (v5)) (br (decide ((u.1 67) = 0)) (bnd (S.2.2.2.2.2.2.2.2.2.2.2.2.2.1 u) (fun u8 r8 => br (decide ((v4 + 1) = 8)) (bnd (fm_M_isSign N u8 6) (fun u9 r9 => br (decide (r9 = 0)) (fb_M_row_92 N S G u9 (v1) (v2) (v3) ((v4 + 1)) (v5)) (bnd (fm_M_wrong N u9 2) (fun u10 _ => fb_M_row_92 N S G u10 (v1) (v2) (v3) ((v4 + 1)) (v5))))) (fb_M_row_92 N S G u8 (v1) (v2) (v3) ((v4 + 1)) (v5)))) (fb_M_row_103 N S G u (v1) (v2) (v3) (v4) (v5)))
set_option maxRecDepth 100000 in
set_option maxHeartbeats 4000000 in
theorem wb_M_row_50 {p : Program} {l : Launch} {e : Env} {R : Room} {s : State} {m : MethodId} {args : Array Value} {below : List Frame} {meth : Method} {c : Code} {D : va_G} {cl : List vw_C} {cB cI cJ cZ cS : ClassId} {A : Nat → Prop} {iM h0 : Nat} {ad : Nat → Nat} (C0 : MCx p s m args meth c b_M_row 8 (some .int) D cl cB cI cJ cZ cS iM A) {d : Nat} (hR : R = rg_M_behind (d + 1)) (N : Nat) (S : SG_M_behind) (hSg : HS_M_behind l D cl cB cI cJ cZ cS iM h0 ad (rg_M_behind d) S) (G : (MS → Int32 → Int32 → Int32 → Int32 → Int32 → Int32 → Option (MS × Int32))) (hG : (∀ (u : MS) (v1 : Int32) (v2 : Int32) (v3 : Int32) (v4 : Int32) (v5 : Int32) (v6 : Int32) (x : MS × Int32), G u v1 v2 v3 v4 v5 v6 = some x → ∀ (H : Heap) (locs : List Loc), va_P D cl (wM cB cI cJ cZ cS iM h0 ad u) H → va_D A (wM cB cI cJ cZ cS iM h0 ad u) → va_S A s.heap H locs → ∀ (ls : Array Slot), lv_has ls 8 [(0, .ref h0), (1, .int v1), (2, .int v2), (3, .int v3), (4, .int v4), (5, .int v5), (6, .int v6)] → W p l e R s m args below meth c H locs 0 0 (MQ below (mQi D cl cB cI cJ cZ cS iM h0 ad A x) args s 0 0 A) (F0 m 50 ls []))) : ∀ (u : MS) (v1 : Int32) (v2 : Int32) (v3 : Int32) (v4 : Int32) (v5 : Int32) (v6 : Int32) (x : MS × Int32), fb_M_row_50 N S G u v1 v2 v3 v4 v5 v6 = some x → ∀ (H : Heap) (locs : List Loc), va_P D cl (wM cB cI cJ cZ cS iM h0 ad u) H → va_D A (wM cB cI cJ cZ cS iM h0 ad u) → va_S A s.heap H locs → ∀ (ls : Array Slot), lv_has ls 8 [(0, .ref h0), (1, .int v1), (2, .int v2), (3, .int v3), (4, .int v4), (5, .int v5), (6, .int v6)] → W p l e R s m args below meth c H locs 0 0 (MQ below (mQi D cl cB cI cJ cZ cS iM h0 ad A x) args s 0 0 A) (F0 m 50 ls []) := by
  intro u v1 v2 v3 v4 v5 v6 x hf H locs hP hD hS ls hl
  obtain ⟨hx, hb, hr, hml, ht, hown, hM, hK, hA, hlocks⟩ := id C0
  unfold fb_M_row_50 at hf
  refine lv_iload hx hb d_M_row_50 (lv_at hl 6 rfl) ?_
  refine lv_if_eq (tgt := 103) hx hb d_M_row_52 (by decide) (fun hc => ?_) (fun hc => ?_)
  · rw [br_p _ hc] at hf
    exact wb_M_row_103 C0 hR N S hSg G hG _ _ _ _ _ _ _ hf H locs hP hD hS ls (lv_sub hl [0, 1, 2, 3, 4, 5] rfl)
  · rw [br_n _ hc] at hf
    refine lv_aload_n hx hb d_M_row_55 rfl (lv_at hl 0 rfl) ?_
    refine ug_I hx hb ht hown hM hK hP 67 (by decide) lk_M_67 (by decide) d_M_row_56 ?_
    refine lv_if_ne (tgt := 103) hx hb d_M_row_59 (by decide) (fun hc => ?_) (fun hc => ?_)
    · rw [br_n _ hc] at hf
      exact wb_M_row_103 C0 hR N S hSg G hG _ _ _ _ _ _ _ hf H locs hP hD hS ls (lv_sub hl [0, 1, 2, 3, 4, 5] rfl)
    · rw [br_p _ hc] at hf
      refine lv_aload_n hx hb d_M_row_62 rfl (lv_at hl 0 rfl) ?_
      obtain ⟨u8, r8, hc8, hf⟩ := bnd_some hf
      refine mV_i (As := []) (rest := []) C0 hP hD hS (hSg.2.2.2.2.2.2.2.2.2.2.2.2.2.1 _ _ _ hc8) k_M_expression hl_M_expression hi_M_expression hs_M_expression hini_M rfl rfl hd_M_expression rfl (rm_M_row_M_expression hR) hl.1 (Nat.le_of_ble_eq_true rfl) d_M_row_63 rfl ⟨Nat.zero_le _, Nat.zero_le _⟩ (fun H locs hP hD hS => ?_)
      refine lv_istore (lv' := [(7, .int r8), (0, .ref h0), (1, .int v1), (2, .int v2), (3, .int v3), (4, .int v4), (5, .int v5), (6, .int v6)]) hx hb d_M_row_66 hl (by decide) rfl (fun ls hl => ?_)
      refine lv_iinc (v := (v4 + 1)) (lv' := [(4, .int (v4 + 1)), (7, .int r8), (0, .ref h0), (1, .int v1), (2, .int v2), (3, .int v3), (5, .int v5), (6, .int v6)]) hx hb d_M_row_68 hl (k := 5) rfl rfl (by decide) rfl (fun ls hl => ?_)
      refine lv_iload hx hb d_M_row_71 (lv_at hl 0 rfl) ?_
      refine lv_bipush (v := 8) hx hb d_M_row_73 (by decide) ?_
      refine lv_icmp_ne (tgt := 92) hx hb d_M_row_75 (by decide) (fun hc => ?_) (fun hc => ?_)
      · rw [br_n _ hc] at hf
        exact wb_M_row_92 C0 hR N S hSg G hG _ _ _ _ _ _ _ hf H locs hP hD hS ls (lv_sub hl [2, 3, 4, 5, 0, 6] rfl)
      · rw [br_p _ hc] at hf
        refine lv_aload_n hx hb d_M_row_78 rfl (lv_at hl 2 rfl) ?_
        refine lv_bipush (v := 6) hx hb d_M_row_79 (by decide) ?_
        obtain ⟨u9, r9, hc9, hf⟩ := bnd_some hf
        refine mV_i (As := [.int 6]) (rest := []) C0 hP hD hS (c_M_isSign N hM hc9) k_M_isSign hl_M_isSign hi_M_isSign hs_M_isSign hini_M rfl rfl hd_M_isSign rfl (rm_M_row_M_isSign hR) hl.1 (Nat.le_of_ble_eq_true rfl) d_M_row_81 rfl ⟨Nat.zero_le _, Nat.zero_le _⟩ (fun H locs hP hD hS => ?_)
        refine lv_if_eq (tgt := 92) hx hb d_M_row_84 (by decide) (fun hc => ?_) (fun hc => ?_)
        · rw [br_p _ hc] at hf
          exact wb_M_row_92 C0 hR N S hSg G hG _ _ _ _ _ _ _ hf H locs hP hD hS ls (lv_sub hl [2, 3, 4, 5, 0, 6] rfl)
        · rw [br_n _ hc] at hf
          refine lv_aload_n hx hb d_M_row_87 rfl (lv_at hl 2 rfl) ?_
          refine lv_iconst (v := 2) hx hb d_M_row_88 (by decide) ?_
          obtain ⟨u10, r10, hc10, hf⟩ := bnd_some hf
          refine mV_v (As := [.int 2]) (rest := []) C0 hP hD hS (c_M_wrong N hM hc10) k_M_wrong hl_M_wrong hi_M_wrong hs_M_wrong hini_M rfl rfl hd_M_wrong rfl (rm_M_row_M_wrong hR) hl.1 (Nat.le_of_ble_eq_true rfl) d_M_row_89 rfl ⟨Nat.zero_le _, Nat.zero_le _⟩ (fun H locs hP hD hS => ?_)
          exact wb_M_row_92 C0 hR N S hSg G hG _ _ _ _ _ _ _ hf H locs hP hD hS ls (lv_sub hl [2, 3, 4, 5, 0, 6] rfl)
def fb_M_row_15 (N : Nat) (S : SG_M_behind) (G : (MS → Int32 → Int32 → Int32 → Int32 → Int32 → Int32 → Option (MS × Int32))) (u : MS) (v1 : Int32) (v2 : Int32) (t0 : Int32) : Option (MS × Int32) := lt (upI u 69 ((u.1 69) + 1)) (fun w11 => br (decide ((w11.1 67) = 0)) (bnd (fm_M_isSign N w11 t0) (fun u12 r12 => br (decide (r12 = 0)) (G u12 (v1) (v2) (t0) (0) (0) (1)) (fb_M_row_125 N S G u12 (v1) (v2) (t0) (0) (0)))) (fb_M_row_125 N S G w11 (v1) (v2) (t0) (0) (0)))
set_option maxRecDepth 100000 in
set_option maxHeartbeats 4000000 in
theorem wb_M_row_15 {p : Program} {l : Launch} {e : Env} {R : Room} {s : State} {m : MethodId} {args : Array Value} {below : List Frame} {meth : Method} {c : Code} {D : va_G} {cl : List vw_C} {cB cI cJ cZ cS : ClassId} {A : Nat → Prop} {iM h0 : Nat} {ad : Nat → Nat} (C0 : MCx p s m args meth c b_M_row 8 (some .int) D cl cB cI cJ cZ cS iM A) {d : Nat} (hR : R = rg_M_behind (d + 1)) (N : Nat) (S : SG_M_behind) (hSg : HS_M_behind l D cl cB cI cJ cZ cS iM h0 ad (rg_M_behind d) S) (G : (MS → Int32 → Int32 → Int32 → Int32 → Int32 → Int32 → Option (MS × Int32))) (hG : (∀ (u : MS) (v1 : Int32) (v2 : Int32) (v3 : Int32) (v4 : Int32) (v5 : Int32) (v6 : Int32) (x : MS × Int32), G u v1 v2 v3 v4 v5 v6 = some x → ∀ (H : Heap) (locs : List Loc), va_P D cl (wM cB cI cJ cZ cS iM h0 ad u) H → va_D A (wM cB cI cJ cZ cS iM h0 ad u) → va_S A s.heap H locs → ∀ (ls : Array Slot), lv_has ls 8 [(0, .ref h0), (1, .int v1), (2, .int v2), (3, .int v3), (4, .int v4), (5, .int v5), (6, .int v6)] → W p l e R s m args below meth c H locs 0 0 (MQ below (mQi D cl cB cI cJ cZ cS iM h0 ad A x) args s 0 0 A) (F0 m 50 ls []))) : ∀ (u : MS) (v1 : Int32) (v2 : Int32) (t0 : Int32) (x : MS × Int32), fb_M_row_15 N S G u v1 v2 t0 = some x → ∀ (H : Heap) (locs : List Loc), va_P D cl (wM cB cI cJ cZ cS iM h0 ad u) H → va_D A (wM cB cI cJ cZ cS iM h0 ad u) → va_S A s.heap H locs → ∀ (ls : Array Slot), lv_has ls 8 [(0, .ref h0), (1, .int v1), (2, .int v2)] → W p l e R s m args below meth c H locs 0 0 (MQ below (mQi D cl cB cI cJ cZ cS iM h0 ad A x) args s 0 0 A) (F0 m 15 ls [.int t0]) := by
  intro u v1 v2 t0 x hf H locs hP hD hS ls hl
  obtain ⟨hx, hb, hr, hml, ht, hown, hM, hK, hA, hlocks⟩ := id C0
  unfold fb_M_row_15 at hf
  refine lv_istore_n (lv' := [(3, .int t0), (0, .ref h0), (1, .int v1), (2, .int v2)]) hx hb d_M_row_15 rfl hl (by decide) rfl (fun ls hl => ?_)
  refine lv_aload_n hx hb d_M_row_16 rfl (lv_at hl 1 rfl) ?_
  refine lv_dup hx hb d_M_row_17 rfl ?_
  refine ug_I hx hb ht hown hM hK hP 69 (by decide) lk_M_69 (by decide) d_M_row_18 ?_
  refine lv_iconst (v := 1) hx hb d_M_row_21 (by decide) ?_
  refine lv_iadd hx hb d_M_row_22 ?_
  refine up_I hx hb ht hown hM hK hP hD hS 69 (by decide) lk_M_69 (by decide) rfl rfl rfl d_M_row_23 (fun H locs hP hD hS => ?_)
  obtain ⟨w11, e11, hf⟩ := lt_some hf
  rw [← e11] at hP hD
  refine lv_iconst (v := 0) hx hb d_M_row_26 (by decide) ?_
  refine lv_istore (lv' := [(4, .int 0), (3, .int t0), (0, .ref h0), (1, .int v1), (2, .int v2)]) hx hb d_M_row_27 hl (by decide) rfl (fun ls hl => ?_)
  refine lv_iconst (v := 0) hx hb d_M_row_29 (by decide) ?_
  refine lv_istore (lv' := [(5, .int 0), (4, .int 0), (3, .int t0), (0, .ref h0), (1, .int v1), (2, .int v2)]) hx hb d_M_row_30 hl (by decide) rfl (fun ls hl => ?_)
  refine lv_aload_n hx hb d_M_row_32 rfl (lv_at hl 3 rfl) ?_
  refine ug_I hx hb ht hown hM hK hP 67 (by decide) lk_M_67 (by decide) d_M_row_33 ?_
  refine lv_if_ne (tgt := 125) hx hb d_M_row_36 (by decide) (fun hc => ?_) (fun hc => ?_)
  · rw [br_n _ hc] at hf
    exact wb_M_row_125 C0 hR N S hSg G hG _ _ _ _ _ _ _ hf H locs hP hD hS ls (lv_sub hl [3, 4, 5, 2, 1, 0] rfl)
  · rw [br_p _ hc] at hf
    refine lv_aload_n hx hb d_M_row_39 rfl (lv_at hl 3 rfl) ?_
    refine lv_iload_n hx hb d_M_row_40 rfl (lv_at hl 2 rfl) ?_
    obtain ⟨u12, r12, hc12, hf⟩ := bnd_some hf
    refine mV_i (As := [.int t0]) (rest := []) C0 hP hD hS (c_M_isSign N hM hc12) k_M_isSign hl_M_isSign hi_M_isSign hs_M_isSign hini_M rfl rfl hd_M_isSign rfl (rm_M_row_M_isSign hR) hl.1 (Nat.le_of_ble_eq_true rfl) d_M_row_41 rfl ⟨Nat.zero_le _, Nat.zero_le _⟩ (fun H locs hP hD hS => ?_)
    refine lv_if_ne (tgt := 125) hx hb d_M_row_44 (by decide) (fun hc => ?_) (fun hc => ?_)
    · rw [br_n _ hc] at hf
      exact wb_M_row_125 C0 hR N S hSg G hG _ _ _ _ _ _ _ hf H locs hP hD hS ls (lv_sub hl [3, 4, 5, 2, 1, 0] rfl)
    · rw [br_p _ hc] at hf
      refine lv_iconst (v := 1) hx hb d_M_row_47 (by decide) ?_
      refine lv_istore (lv' := [(6, .int 1), (5, .int 0), (4, .int 0), (3, .int t0), (0, .ref h0), (1, .int v1), (2, .int v2)]) hx hb d_M_row_48 hl (by decide) rfl (fun ls hl => ?_)
      exact hG _ _ _ _ _ _ _ _ hf H locs hP hD hS ls (lv_sub hl [4, 5, 6, 3, 2, 1, 0] rfl)
def fb_M_row_0 (N : Nat) (S : SG_M_behind) (G : (MS → Int32 → Int32 → Int32 → Int32 → Int32 → Int32 → Option (MS × Int32))) (u : MS) (v1 : Int32) : Option (MS × Int32) := bnd (fm_M_isSign N u 2) (fun u13 r13 => br (decide (r13 = 0)) (fb_M_row_15 N S G u13 (v1) (r13) (5)) (fb_M_row_15 N S G u13 (v1) (r13) (3)))
set_option maxRecDepth 100000 in
set_option maxHeartbeats 4000000 in
theorem wb_M_row_0 {p : Program} {l : Launch} {e : Env} {R : Room} {s : State} {m : MethodId} {args : Array Value} {below : List Frame} {meth : Method} {c : Code} {D : va_G} {cl : List vw_C} {cB cI cJ cZ cS : ClassId} {A : Nat → Prop} {iM h0 : Nat} {ad : Nat → Nat} (C0 : MCx p s m args meth c b_M_row 8 (some .int) D cl cB cI cJ cZ cS iM A) {d : Nat} (hR : R = rg_M_behind (d + 1)) (N : Nat) (S : SG_M_behind) (hSg : HS_M_behind l D cl cB cI cJ cZ cS iM h0 ad (rg_M_behind d) S) (G : (MS → Int32 → Int32 → Int32 → Int32 → Int32 → Int32 → Option (MS × Int32))) (hG : (∀ (u : MS) (v1 : Int32) (v2 : Int32) (v3 : Int32) (v4 : Int32) (v5 : Int32) (v6 : Int32) (x : MS × Int32), G u v1 v2 v3 v4 v5 v6 = some x → ∀ (H : Heap) (locs : List Loc), va_P D cl (wM cB cI cJ cZ cS iM h0 ad u) H → va_D A (wM cB cI cJ cZ cS iM h0 ad u) → va_S A s.heap H locs → ∀ (ls : Array Slot), lv_has ls 8 [(0, .ref h0), (1, .int v1), (2, .int v2), (3, .int v3), (4, .int v4), (5, .int v5), (6, .int v6)] → W p l e R s m args below meth c H locs 0 0 (MQ below (mQi D cl cB cI cJ cZ cS iM h0 ad A x) args s 0 0 A) (F0 m 50 ls []))) : ∀ (u : MS) (v1 : Int32) (x : MS × Int32), fb_M_row_0 N S G u v1 = some x → ∀ (H : Heap) (locs : List Loc), va_P D cl (wM cB cI cJ cZ cS iM h0 ad u) H → va_D A (wM cB cI cJ cZ cS iM h0 ad u) → va_S A s.heap H locs → ∀ (ls : Array Slot), lv_has ls 8 [(0, .ref h0), (1, .int v1)] → W p l e R s m args below meth c H locs 0 0 (MQ below (mQi D cl cB cI cJ cZ cS iM h0 ad A x) args s 0 0 A) (F0 m 0 ls []) := by
  intro u v1 x hf H locs hP hD hS ls hl
  obtain ⟨hx, hb, hr, hml, ht, hown, hM, hK, hA, hlocks⟩ := id C0
  unfold fb_M_row_0 at hf
  refine lv_aload_n hx hb d_M_row_0 rfl (lv_at hl 0 rfl) ?_
  refine lv_iconst (v := 2) hx hb d_M_row_1 (by decide) ?_
  obtain ⟨u13, r13, hc13, hf⟩ := bnd_some hf
  refine mV_i (As := [.int 2]) (rest := []) C0 hP hD hS (c_M_isSign N hM hc13) k_M_isSign hl_M_isSign hi_M_isSign hs_M_isSign hini_M rfl rfl hd_M_isSign rfl (rm_M_row_M_isSign hR) hl.1 (Nat.le_of_ble_eq_true rfl) d_M_row_2 rfl ⟨Nat.zero_le _, Nat.zero_le _⟩ (fun H locs hP hD hS => ?_)
  refine lv_istore_n (lv' := [(2, .int r13), (0, .ref h0), (1, .int v1)]) hx hb d_M_row_5 rfl hl (by decide) rfl (fun ls hl => ?_)
  refine lv_iload_n hx hb d_M_row_6 rfl (lv_at hl 0 rfl) ?_
  refine lv_if_eq (tgt := 14) hx hb d_M_row_7 (by decide) (fun hc => ?_) (fun hc => ?_)
  · rw [br_p _ hc] at hf
    refine lv_iconst (v := 5) hx hb d_M_row_14 (by decide) ?_
    exact wb_M_row_15 C0 hR N S hSg G hG _ _ _ _ _ hf H locs hP hD hS ls (lv_sub hl [1, 2, 0] rfl)
  · rw [br_n _ hc] at hf
    refine lv_iconst (v := 3) hx hb d_M_row_10 (by decide) ?_
    refine lv_goto (tgt := 15) hx hb d_M_row_11 (by decide) ?_
    exact wb_M_row_15 C0 hR N S hSg G hG _ _ _ _ _ hf H locs hP hD hS ls (lv_sub hl [1, 2, 0] rfl)
def gg_M_row (N : Nat) (S : SG_M_behind) : Nat → ((MS → Int32 → Int32 → Int32 → Int32 → Int32 → Int32 → Option (MS × Int32)))
  | 0 => fun _ _ _ _ _ _ _ => none
  | n + 1 => fb_M_row_50 N S (gg_M_row N S n)
theorem wg_M_row {p : Program} {l : Launch} {e : Env} {R : Room} {s : State} {m : MethodId} {args : Array Value} {below : List Frame} {meth : Method} {c : Code} {D : va_G} {cl : List vw_C} {cB cI cJ cZ cS : ClassId} {A : Nat → Prop} {iM h0 : Nat} {ad : Nat → Nat} (C0 : MCx p s m args meth c b_M_row 8 (some .int) D cl cB cI cJ cZ cS iM A) {d : Nat} (hR : R = rg_M_behind (d + 1)) (N : Nat) (S : SG_M_behind) (hSg : HS_M_behind l D cl cB cI cJ cZ cS iM h0 ad (rg_M_behind d) S) : ∀ n : Nat, (∀ (u : MS) (v1 : Int32) (v2 : Int32) (v3 : Int32) (v4 : Int32) (v5 : Int32) (v6 : Int32) (x : MS × Int32), gg_M_row N S n u v1 v2 v3 v4 v5 v6 = some x → ∀ (H : Heap) (locs : List Loc), va_P D cl (wM cB cI cJ cZ cS iM h0 ad u) H → va_D A (wM cB cI cJ cZ cS iM h0 ad u) → va_S A s.heap H locs → ∀ (ls : Array Slot), lv_has ls 8 [(0, .ref h0), (1, .int v1), (2, .int v2), (3, .int v3), (4, .int v4), (5, .int v5), (6, .int v6)] → W p l e R s m args below meth c H locs 0 0 (MQ below (mQi D cl cB cI cJ cZ cS iM h0 ad A x) args s 0 0 A) (F0 m 50 ls []))
  | 0 => (fun u v1 v2 v3 v4 v5 v6 x hf => by cases hf)
  | n + 1 => wb_M_row_50 C0 hR N S hSg (gg_M_row N S n) (wg_M_row C0 hR N S hSg n)
def fm_M_row (N : Nat) (S : SG_M_behind) (u : MS) (v1 : Int32) : Option (MS × Int32) := fb_M_row_0 N S (gg_M_row N S N) u v1
set_option maxRecDepth 100000 in
set_option maxHeartbeats 4000000 in
theorem cs_M_row (N : Nat) {d : Nat} {l : Launch} {D : va_G} {cl : List vw_C} {cB cI cJ cZ cS : ClassId} {iM h0 : Nat} {ad : Nat → Nat} {u : MS} {sz : Nat} {v1 : Int32} {x : MS × Int32} (hM : cl[iM]? = some (R_M, F_M, 171)) (S : SG_M_behind) (hSg : HS_M_behind l D cl cB cI cJ cZ cS iM h0 ad (rg_M_behind d) S) (hf : fm_M_row N S u v1 = some x) : Met l y_M_row (wd_ws y_M_row b_M_row 8 (some .int)) (rg_M_behind (d + 1)) (mPc D cl cB cI cJ cZ cS iM h0 ad u sz [.ref h0, .int v1]) (mQi D cl cB cI cJ cZ cS iM h0 ad (mA cB cI cJ cZ cS iM h0 ad u sz) x) 0 0 (mA cB cI cJ cZ cS iM h0 ad u sz) :=
  mMet (by decide) rfl hM (Nat.le_of_ble_eq_true rfl) (fun p e s m below meth c ls hsz C0 hP hD hS hl => by
    have hR : (rg_M_behind (d + 1)) = (rg_M_behind (d + 1)) := rfl
    exact wb_M_row_0 C0 hR N S hSg (gg_M_row N S N) (wg_M_row C0 hR N S hSg N) u _ x hf s.heap [] hP hD hS ls (lv_sub hl [0, 1] rfl))
theorem rm_M_alone_M_node {R : Room} {d : Nat} (hR : R = rg_M_behind (d + 1)) : (rm_M_node).frames + 1 ≤ R.frames ∧ 8 + (3 + 11) + (rm_M_node).locals ≤ R.locals := by
  subst hR
  have h1 : (rm_M_node).frames = 0 := rfl
  have h2 : (rm_M_node).locals = 0 := rfl
  show (rm_M_node).frames + 1 ≤ 94 + (d + 1) ∧ 8 + (3 + 11) + (rm_M_node).locals ≤ 2494 + 29 * (d + 1)
  omega
theorem rm_M_alone_M_rule {R : Room} {d : Nat} (hR : R = rg_M_behind (d + 1)) : (rm_M_rule).frames + 1 ≤ R.frames ∧ 8 + (3 + 11) + (rm_M_rule).locals ≤ R.locals := by
  subst hR
  have h1 : (rm_M_rule).frames = 0 := rfl
  have h2 : (rm_M_rule).locals = 0 := rfl
  show (rm_M_rule).frames + 1 ≤ 94 + (d + 1) ∧ 8 + (3 + 11) + (rm_M_rule).locals ≤ 2494 + 29 * (d + 1)
  omega
theorem rm_M_alone_M_isUnderscore {R : Room} {d : Nat} (hR : R = rg_M_behind (d + 1)) : (rm_M_isUnderscore).frames + 1 ≤ R.frames ∧ 8 + (3 + 11) + (rm_M_isUnderscore).locals ≤ R.locals := by
  subst hR
  have h1 : (rm_M_isUnderscore).frames = 0 := rfl
  have h2 : (rm_M_isUnderscore).locals = 0 := rfl
  show (rm_M_isUnderscore).frames + 1 ≤ 94 + (d + 1) ∧ 8 + (3 + 11) + (rm_M_isUnderscore).locals ≤ 2494 + 29 * (d + 1)
  omega
theorem rm_M_alone_M_found {R : Room} {d : Nat} (hR : R = rg_M_behind (d + 1)) : (rm_M_found).frames + 1 ≤ R.frames ∧ 8 + (5 + 11) + (rm_M_found).locals ≤ R.locals := by
  subst hR
  have h1 : (rm_M_found).frames = 31 := rfl
  have h2 : (rm_M_found).locals = 743 := rfl
  show (rm_M_found).frames + 1 ≤ 94 + (d + 1) ∧ 8 + (5 + 11) + (rm_M_found).locals ≤ 2494 + 29 * (d + 1)
  omega
theorem rm_M_alone_M_takeSign {R : Room} {d : Nat} (hR : R = rg_M_behind (d + 1)) : (rm_M_takeSign).frames + 1 ≤ R.frames ∧ 8 + (2 + 11) + (rm_M_takeSign).locals ≤ R.locals := by
  subst hR
  have h1 : (rm_M_takeSign).frames = 1 := rfl
  have h2 : (rm_M_takeSign).locals = 21 := rfl
  show (rm_M_takeSign).frames + 1 ≤ 94 + (d + 1) ∧ 8 + (2 + 11) + (rm_M_takeSign).locals ≤ 2494 + 29 * (d + 1)
  omega
theorem rm_M_alone_M_needSign {R : Room} {d : Nat} (hR : R = rg_M_behind (d + 1)) : (rm_M_needSign).frames + 1 ≤ R.frames ∧ 8 + (2 + 11) + (rm_M_needSign).locals ≤ R.locals := by
  subst hR
  have h1 : (rm_M_needSign).frames = 2 := rfl
  have h2 : (rm_M_needSign).locals = 42 := rfl
  show (rm_M_needSign).frames + 1 ≤ 94 + (d + 1) ∧ 8 + (2 + 11) + (rm_M_needSign).locals ≤ 2494 + 29 * (d + 1)
  omega
theorem rm_M_alone_M_isSign {R : Room} {d : Nat} (hR : R = rg_M_behind (d + 1)) : (rm_M_isSign).frames + 1 ≤ R.frames ∧ 8 + (2 + 11) + (rm_M_isSign).locals ≤ R.locals := by
  subst hR
  have h1 : (rm_M_isSign).frames = 0 := rfl
  have h2 : (rm_M_isSign).locals = 0 := rfl
  show (rm_M_isSign).frames + 1 ≤ 94 + (d + 1) ∧ 8 + (2 + 11) + (rm_M_isSign).locals ≤ 2494 + 29 * (d + 1)
  omega
theorem rm_M_alone_M_isWord {R : Room} {d : Nat} (hR : R = rg_M_behind (d + 1)) : (rm_M_isWord).frames + 1 ≤ R.frames ∧ 8 + (2 + 11) + (rm_M_isWord).locals ≤ R.locals := by
  subst hR
  have h1 : (rm_M_isWord).frames = 0 := rfl
  have h2 : (rm_M_isWord).locals = 0 := rfl
  show (rm_M_isWord).frames + 1 ≤ 94 + (d + 1) ∧ 8 + (2 + 11) + (rm_M_isWord).locals ≤ 2494 + 29 * (d + 1)
  omega
theorem rm_M_alone_M_wrong {R : Room} {d : Nat} (hR : R = rg_M_behind (d + 1)) : (rm_M_wrong).frames + 1 ≤ R.frames ∧ 8 + (2 + 11) + (rm_M_wrong).locals ≤ R.locals := by
  subst hR
  have h1 : (rm_M_wrong).frames = 0 := rfl
  have h2 : (rm_M_wrong).locals = 0 := rfl
  show (rm_M_wrong).frames + 1 ≤ 94 + (d + 1) ∧ 8 + (2 + 11) + (rm_M_wrong).locals ≤ 2494 + 29 * (d + 1)
  omega
theorem rm_M_alone_M_expression {R : Room} {d : Nat} (hR : R = rg_M_behind (d + 1)) : (rg_M_behind d).frames + 1 ≤ R.frames ∧ 8 + (4 + 11) + (rg_M_behind d).locals ≤ R.locals := by
  subst hR
  show 94 + d + 1 ≤ 94 + (d + 1) ∧ 8 + (4 + 11) + (2494 + 29 * d) ≤ 2494 + 29 * (d + 1)
  omega
theorem rm_M_alone_M_row {R : Room} {d : Nat} (hR : R = rg_M_behind (d + 1)) : (rg_M_behind d).frames + 1 ≤ R.frames ∧ 8 + (8 + 11) + (rg_M_behind d).locals ≤ R.locals := by
  subst hR
  show 94 + d + 1 ≤ 94 + (d + 1) ∧ 8 + (8 + 11) + (2494 + 29 * d) ≤ 2494 + 29 * (d + 1)
  omega
theorem rm_M_alone_M_fun {R : Room} {d : Nat} (hR : R = rg_M_behind (d + 1)) : (rg_M_behind d).frames + 1 ≤ R.frames ∧ 8 + (6 + 11) + (rg_M_behind d).locals ≤ R.locals := by
  subst hR
  show 94 + d + 1 ≤ 94 + (d + 1) ∧ 8 + (6 + 11) + (2494 + 29 * d) ≤ 2494 + 29 * (d + 1)
  omega
theorem rm_M_alone_M_block {R : Room} {d : Nat} (hR : R = rg_M_behind (d + 1)) : (rg_M_behind d).frames + 1 ≤ R.frames ∧ 8 + (8 + 11) + (rg_M_behind d).locals ≤ R.locals := by
  subst hR
  show 94 + d + 1 ≤ 94 + (d + 1) ∧ 8 + (8 + 11) + (2494 + 29 * d) ≤ 2494 + 29 * (d + 1)
  omega
