def fb_M_listRun_94 (N : Nat) (G : (MS → Int32 → Int32 → Int32 → Int32 → Option (MS × Unit)) × (MS → Int32 → Int64 → Int32 → Option (MS × Unit))) (u : MS) (v1 : Int32) (v4 : Int64) (v6 : Int32) : Option (MS × Unit) := br (decide (v1 ≤ v6)) (bnd (fm_M_put N u v4) (fun u1 _ => some (u1, ()))) (bnd (fm_M_take N u) (fun u2 r2 => bnd (fm_M_pair N u2 r2 v4) (fun u3 r3 => bnd (fm_M_term N u3 7 r3) (fun u4 r4 => G.2 u4 (v1) (r4) ((v6 + 1))))))
set_option maxRecDepth 100000 in
set_option maxHeartbeats 4000000 in
theorem wb_M_listRun_94 {p : Program} {l : Launch} {e : Env} {R : Room} {s : State} {m : MethodId} {args : Array Value} {below : List Frame} {meth : Method} {c : Code} {D : va_G} {cl : List vw_C} {cB cI cJ cZ cS : ClassId} {A : Nat → Prop} {iM h0 : Nat} {ad : Nat → Nat} (C0 : MCx p s m args meth c b_M_listRun 9 none D cl cB cI cJ cZ cS iM A) (hR : R = rm_M_listRun) (N : Nat) (G : (MS → Int32 → Int32 → Int32 → Int32 → Option (MS × Unit)) × (MS → Int32 → Int64 → Int32 → Option (MS × Unit))) (hG : (∀ (u : MS) (v1 : Int32) (v2 : Int32) (v3 : Int32) (v4 : Int32) (x : MS × Unit), G.1 u v1 v2 v3 v4 = some x → ∀ (H : Heap) (locs : List Loc), va_P D cl (wM cB cI cJ cZ cS iM h0 ad u) H → va_D A (wM cB cI cJ cZ cS iM h0 ad u) → va_S A s.heap H locs → ∀ (ls : Array Slot), lv_has ls 9 [(0, .ref h0), (1, .int v1), (2, .int v2), (3, .int v3), (4, .int v4)] → W p l e R s m args below meth c H locs 0 0 (MQ below (mQv D cl cB cI cJ cZ cS iM h0 ad A x) args s 0 0 A) (F0 m 7 ls [])) ∧ (∀ (u : MS) (v1 : Int32) (v4 : Int64) (v6 : Int32) (x : MS × Unit), G.2 u v1 v4 v6 = some x → ∀ (H : Heap) (locs : List Loc), va_P D cl (wM cB cI cJ cZ cS iM h0 ad u) H → va_D A (wM cB cI cJ cZ cS iM h0 ad u) → va_S A s.heap H locs → ∀ (ls : Array Slot), lv_has ls 9 [(0, .ref h0), (1, .int v1), (4, .long v4), (6, .int v6)] → W p l e R s m args below meth c H locs 0 0 (MQ below (mQv D cl cB cI cJ cZ cS iM h0 ad A x) args s 0 0 A) (F0 m 94 ls []))) : ∀ (u : MS) (v1 : Int32) (v4 : Int64) (v6 : Int32) (x : MS × Unit), fb_M_listRun_94 N G u v1 v4 v6 = some x → ∀ (H : Heap) (locs : List Loc), va_P D cl (wM cB cI cJ cZ cS iM h0 ad u) H → va_D A (wM cB cI cJ cZ cS iM h0 ad u) → va_S A s.heap H locs → ∀ (ls : Array Slot), lv_has ls 9 [(0, .ref h0), (1, .int v1), (4, .long v4), (6, .int v6)] → W p l e R s m args below meth c H locs 0 0 (MQ below (mQv D cl cB cI cJ cZ cS iM h0 ad A x) args s 0 0 A) (F0 m 94 ls []) := by
  intro u v1 v4 v6 x hf H locs hP hD hS ls hl
  obtain ⟨hx, hb, hr, hml, ht, hown, hM, hK, hA, hlocks⟩ := id C0
  unfold fb_M_listRun_94 at hf
  refine lv_iload hx hb d_M_listRun_94 (lv_at hl 3 rfl) ?_
  refine lv_iload_n hx hb d_M_listRun_96 rfl (lv_at hl 1 rfl) ?_
  refine lv_icmp_ge (tgt := 127) hx hb d_M_listRun_97 (by decide) (fun hc => ?_) (fun hc => ?_)
  · rw [br_p _ hc] at hf
    refine lv_aload_n hx hb d_M_listRun_127 rfl (lv_at hl 0 rfl) ?_
    refine lv_lload hx hb d_M_listRun_128 (lv_at hl 2 rfl) ?_
    obtain ⟨u1, r1, hc1, hf⟩ := bnd_some hf
    refine mV_v (As := [.long v4]) (rest := []) C0 hP hD hS (c_M_put N hM hc1) k_M_put hl_M_put hi_M_put hs_M_put hini_M rfl rfl hd_M_put rfl (rm_M_listRun_M_put hR) hl.1 (Nat.le_of_ble_eq_true rfl) d_M_listRun_130 rfl ⟨Nat.zero_le _, Nat.zero_le _⟩ (fun H locs hP hD hS => ?_)
    exact mr_v C0 hP hD hS hf d_M_listRun_133
  · rw [br_n _ hc] at hf
    refine lv_aload_n hx hb d_M_listRun_100 rfl (lv_at hl 0 rfl) ?_
    obtain ⟨u2, r2, hc2, hf⟩ := bnd_some hf
    refine mV_l (As := []) (rest := []) C0 hP hD hS (c_M_take N hM hc2) k_M_take hl_M_take hi_M_take hs_M_take hini_M rfl rfl hd_M_take rfl (rm_M_listRun_M_take hR) hl.1 (Nat.le_of_ble_eq_true rfl) d_M_listRun_101 rfl ⟨Nat.zero_le _, Nat.zero_le _⟩ (fun H locs hP hD hS => ?_)
    refine lv_lstore (lv' := [(7, .long r2), (0, .ref h0), (1, .int v1), (4, .long v4), (6, .int v6)]) hx hb d_M_listRun_104 hl (by decide) rfl (fun ls hl => ?_)
    refine lv_bipush (v := 7) hx hb d_M_listRun_106 (by decide) ?_
    refine lv_aload_n hx hb d_M_listRun_108 rfl (lv_at hl 1 rfl) ?_
    refine lv_lload hx hb d_M_listRun_109 (lv_at hl 0 rfl) ?_
    refine lv_lload hx hb d_M_listRun_111 (lv_at hl 3 rfl) ?_
    obtain ⟨u3, r3, hc3, hf⟩ := bnd_some hf
    refine mV_i (As := [.long r2, .long v4]) (rest := [.int 7]) C0 hP hD hS (c_M_pair N hM hc3) k_M_pair hl_M_pair hi_M_pair hs_M_pair hini_M rfl rfl hd_M_pair rfl (rm_M_listRun_M_pair hR) hl.1 (Nat.le_of_ble_eq_true rfl) d_M_listRun_113 rfl ⟨Nat.zero_le _, Nat.zero_le _⟩ (fun H locs hP hD hS => ?_)
    obtain ⟨u4, r4, hc4, hf⟩ := bnd_some hf
    refine mS_l (As := [.int 7, .int r3]) (rest := []) C0 hP hD hS (c_M_term N hM hc4) k_M_term hl_M_term ht_M_term hini_M rfl rfl hd_M_term rfl (rm_M_listRun_M_term hR) hl.1 (Nat.le_of_ble_eq_true rfl) d_M_listRun_116 rfl ⟨Nat.zero_le _, Nat.zero_le _⟩ (fun H locs hP hD hS => ?_)
    refine lv_lstore (lv' := [(4, .long r4), (7, .long r2), (0, .ref h0), (1, .int v1), (6, .int v6)]) hx hb d_M_listRun_119 hl (by decide) rfl (fun ls hl => ?_)
    refine lv_iinc (v := (v6 + 1)) (lv' := [(6, .int (v6 + 1)), (4, .long r4), (7, .long r2), (0, .ref h0), (1, .int v1)]) hx hb d_M_listRun_121 hl (k := 4) rfl rfl (by decide) rfl (fun ls hl => ?_)
    refine lv_goto (tgt := 94) hx hb d_M_listRun_124 (by decide) ?_
    exact hG.2 _ _ _ _ _ hf H locs hP hD hS ls (lv_sub hl [3, 4, 1, 0] rfl)
def fb_M_listRun_89 (N : Nat) (G : (MS → Int32 → Int32 → Int32 → Int32 → Option (MS × Unit)) × (MS → Int32 → Int64 → Int32 → Option (MS × Unit))) (u : MS) (v1 : Int32) (t0 : Int64) : Option (MS × Unit) := G.2 u (v1) (t0) (0)
set_option maxRecDepth 100000 in
set_option maxHeartbeats 4000000 in
theorem wb_M_listRun_89 {p : Program} {l : Launch} {e : Env} {R : Room} {s : State} {m : MethodId} {args : Array Value} {below : List Frame} {meth : Method} {c : Code} {D : va_G} {cl : List vw_C} {cB cI cJ cZ cS : ClassId} {A : Nat → Prop} {iM h0 : Nat} {ad : Nat → Nat} (C0 : MCx p s m args meth c b_M_listRun 9 none D cl cB cI cJ cZ cS iM A) (hR : R = rm_M_listRun) (N : Nat) (G : (MS → Int32 → Int32 → Int32 → Int32 → Option (MS × Unit)) × (MS → Int32 → Int64 → Int32 → Option (MS × Unit))) (hG : (∀ (u : MS) (v1 : Int32) (v2 : Int32) (v3 : Int32) (v4 : Int32) (x : MS × Unit), G.1 u v1 v2 v3 v4 = some x → ∀ (H : Heap) (locs : List Loc), va_P D cl (wM cB cI cJ cZ cS iM h0 ad u) H → va_D A (wM cB cI cJ cZ cS iM h0 ad u) → va_S A s.heap H locs → ∀ (ls : Array Slot), lv_has ls 9 [(0, .ref h0), (1, .int v1), (2, .int v2), (3, .int v3), (4, .int v4)] → W p l e R s m args below meth c H locs 0 0 (MQ below (mQv D cl cB cI cJ cZ cS iM h0 ad A x) args s 0 0 A) (F0 m 7 ls [])) ∧ (∀ (u : MS) (v1 : Int32) (v4 : Int64) (v6 : Int32) (x : MS × Unit), G.2 u v1 v4 v6 = some x → ∀ (H : Heap) (locs : List Loc), va_P D cl (wM cB cI cJ cZ cS iM h0 ad u) H → va_D A (wM cB cI cJ cZ cS iM h0 ad u) → va_S A s.heap H locs → ∀ (ls : Array Slot), lv_has ls 9 [(0, .ref h0), (1, .int v1), (4, .long v4), (6, .int v6)] → W p l e R s m args below meth c H locs 0 0 (MQ below (mQv D cl cB cI cJ cZ cS iM h0 ad A x) args s 0 0 A) (F0 m 94 ls []))) : ∀ (u : MS) (v1 : Int32) (t0 : Int64) (x : MS × Unit), fb_M_listRun_89 N G u v1 t0 = some x → ∀ (H : Heap) (locs : List Loc), va_P D cl (wM cB cI cJ cZ cS iM h0 ad u) H → va_D A (wM cB cI cJ cZ cS iM h0 ad u) → va_S A s.heap H locs → ∀ (ls : Array Slot), lv_has ls 9 [(0, .ref h0), (1, .int v1)] → W p l e R s m args below meth c H locs 0 0 (MQ below (mQv D cl cB cI cJ cZ cS iM h0 ad A x) args s 0 0 A) (F0 m 89 ls [.long t0]) := by
  intro u v1 t0 x hf H locs hP hD hS ls hl
  obtain ⟨hx, hb, hr, hml, ht, hown, hM, hK, hA, hlocks⟩ := id C0
  unfold fb_M_listRun_89 at hf
  refine lv_lstore (lv' := [(4, .long t0), (0, .ref h0), (1, .int v1)]) hx hb d_M_listRun_89 hl (by decide) rfl (fun ls hl => ?_)
  refine lv_iconst (v := 0) hx hb d_M_listRun_91 (by decide) ?_
  refine lv_istore (lv' := [(6, .int 0), (4, .long t0), (0, .ref h0), (1, .int v1)]) hx hb d_M_listRun_92 hl (by decide) rfl (fun ls hl => ?_)
  exact hG.2 _ _ _ _ _ hf H locs hP hD hS ls (lv_sub hl [2, 3, 1, 0] rfl)
def fb_M_listRun_7 (N : Nat) (G : (MS → Int32 → Int32 → Int32 → Int32 → Option (MS × Unit)) × (MS → Int32 → Int64 → Int32 → Option (MS × Unit))) (u : MS) (v1 : Int32) (v2 : Int32) (v3 : Int32) (v4 : Int32) : Option (MS × Unit) := br (decide ((v1 + v2) ≤ v4)) (br (decide (v3 ≤ 500)) (bnd (fm_M_wants N u (u.1 133) (2 * v1)) (fun u5 r5 => br (decide (r5 = 0)) (bnd (fm_M_noRoom N u5) (fun u8 _ => some (u8, ()))) (br (decide (v2 = 1)) (bnd (fm_M_take N u5) (fun u7 r7 => fb_M_listRun_89 N G u7 (v1) (r7))) (bnd (fm_M_term N u5 6 0) (fun u6 r6 => fb_M_listRun_89 N G u6 (v1) (r6)))))) (bnd (fr_M_error N u 11) (fun u9 _ => some (u9, ())))) (bnd (fm_M_top N u v4) (fun u10 r10 => bnd (fm_M_copySize N u10 (u.1 133) r10) (fun u11 r11 => G.1 u11 (v1) (v2) ((v3 + r11)) ((v4 + 1)))))
set_option maxRecDepth 100000 in
set_option maxHeartbeats 4000000 in
theorem wb_M_listRun_7 {p : Program} {l : Launch} {e : Env} {R : Room} {s : State} {m : MethodId} {args : Array Value} {below : List Frame} {meth : Method} {c : Code} {D : va_G} {cl : List vw_C} {cB cI cJ cZ cS : ClassId} {A : Nat → Prop} {iM h0 : Nat} {ad : Nat → Nat} (C0 : MCx p s m args meth c b_M_listRun 9 none D cl cB cI cJ cZ cS iM A) (hR : R = rm_M_listRun) (N : Nat) (G : (MS → Int32 → Int32 → Int32 → Int32 → Option (MS × Unit)) × (MS → Int32 → Int64 → Int32 → Option (MS × Unit))) (hG : (∀ (u : MS) (v1 : Int32) (v2 : Int32) (v3 : Int32) (v4 : Int32) (x : MS × Unit), G.1 u v1 v2 v3 v4 = some x → ∀ (H : Heap) (locs : List Loc), va_P D cl (wM cB cI cJ cZ cS iM h0 ad u) H → va_D A (wM cB cI cJ cZ cS iM h0 ad u) → va_S A s.heap H locs → ∀ (ls : Array Slot), lv_has ls 9 [(0, .ref h0), (1, .int v1), (2, .int v2), (3, .int v3), (4, .int v4)] → W p l e R s m args below meth c H locs 0 0 (MQ below (mQv D cl cB cI cJ cZ cS iM h0 ad A x) args s 0 0 A) (F0 m 7 ls [])) ∧ (∀ (u : MS) (v1 : Int32) (v4 : Int64) (v6 : Int32) (x : MS × Unit), G.2 u v1 v4 v6 = some x → ∀ (H : Heap) (locs : List Loc), va_P D cl (wM cB cI cJ cZ cS iM h0 ad u) H → va_D A (wM cB cI cJ cZ cS iM h0 ad u) → va_S A s.heap H locs → ∀ (ls : Array Slot), lv_has ls 9 [(0, .ref h0), (1, .int v1), (4, .long v4), (6, .int v6)] → W p l e R s m args below meth c H locs 0 0 (MQ below (mQv D cl cB cI cJ cZ cS iM h0 ad A x) args s 0 0 A) (F0 m 94 ls []))) : ∀ (u : MS) (v1 : Int32) (v2 : Int32) (v3 : Int32) (v4 : Int32) (x : MS × Unit), fb_M_listRun_7 N G u v1 v2 v3 v4 = some x → ∀ (H : Heap) (locs : List Loc), va_P D cl (wM cB cI cJ cZ cS iM h0 ad u) H → va_D A (wM cB cI cJ cZ cS iM h0 ad u) → va_S A s.heap H locs → ∀ (ls : Array Slot), lv_has ls 9 [(0, .ref h0), (1, .int v1), (2, .int v2), (3, .int v3), (4, .int v4)] → W p l e R s m args below meth c H locs 0 0 (MQ below (mQv D cl cB cI cJ cZ cS iM h0 ad A x) args s 0 0 A) (F0 m 7 ls []) := by
  intro u v1 v2 v3 v4 x hf H locs hP hD hS ls hl
  obtain ⟨hx, hb, hr, hml, ht, hown, hM, hK, hA, hlocks⟩ := id C0
  unfold fb_M_listRun_7 at hf
  refine lv_iload hx hb d_M_listRun_7 (lv_at hl 4 rfl) ?_
  refine lv_iload_n hx hb d_M_listRun_9 rfl (lv_at hl 1 rfl) ?_
  refine lv_iload_n hx hb d_M_listRun_10 rfl (lv_at hl 2 rfl) ?_
  refine lv_iadd hx hb d_M_listRun_11 ?_
  refine lv_icmp_ge (tgt := 38) hx hb d_M_listRun_12 (by decide) (fun hc => ?_) (fun hc => ?_)
  · rw [br_p _ hc] at hf
    refine lv_iload_n hx hb d_M_listRun_38 rfl (lv_at hl 3 rfl) ?_
    refine lv_sipush (v := 500) hx hb d_M_listRun_39 (by decide) ?_
    refine lv_icmp_le (tgt := 52) hx hb d_M_listRun_42 (by decide) (fun hc => ?_) (fun hc => ?_)
    · rw [br_p _ hc] at hf
      refine lv_aload_n hx hb d_M_listRun_52 rfl (lv_at hl 0 rfl) ?_
      refine lv_aload_n hx hb d_M_listRun_53 rfl (lv_at hl 0 rfl) ?_
      refine ug_I hx hb ht hown hM hK hP 133 (by decide) lk_M_133 (by decide) d_M_listRun_54 ?_
      refine lv_iconst (v := 2) hx hb d_M_listRun_57 (by decide) ?_
      refine lv_iload_n hx hb d_M_listRun_58 rfl (lv_at hl 1 rfl) ?_
      refine lv_imul hx hb d_M_listRun_59 ?_
      obtain ⟨u5, r5, hc5, hf⟩ := bnd_some hf
      refine mV_i (As := [.int (u.1 133), .int (2 * v1)]) (rest := []) C0 hP hD hS (c_M_wants N hM hc5) k_M_wants hl_M_wants hi_M_wants hs_M_wants hini_M rfl rfl hd_M_wants rfl (rm_M_listRun_M_wants hR) hl.1 (Nat.le_of_ble_eq_true rfl) d_M_listRun_60 rfl ⟨Nat.zero_le _, Nat.zero_le _⟩ (fun H locs hP hD hS => ?_)
      refine lv_if_ne (tgt := 71) hx hb d_M_listRun_63 (by decide) (fun hc => ?_) (fun hc => ?_)
      · rw [br_n _ hc] at hf
        refine lv_iload_n hx hb d_M_listRun_71 rfl (lv_at hl 2 rfl) ?_
        refine lv_iconst (v := 1) hx hb d_M_listRun_72 (by decide) ?_
        refine lv_icmp_ne (tgt := 83) hx hb d_M_listRun_73 (by decide) (fun hc => ?_) (fun hc => ?_)
        · rw [br_n _ hc] at hf
          refine lv_bipush (v := 6) hx hb d_M_listRun_83 (by decide) ?_
          refine lv_iconst (v := 0) hx hb d_M_listRun_85 (by decide) ?_
          obtain ⟨u6, r6, hc6, hf⟩ := bnd_some hf
          refine mS_l (As := [.int 6, .int 0]) (rest := []) C0 hP hD hS (c_M_term N hM hc6) k_M_term hl_M_term ht_M_term hini_M rfl rfl hd_M_term rfl (rm_M_listRun_M_term hR) hl.1 (Nat.le_of_ble_eq_true rfl) d_M_listRun_86 rfl ⟨Nat.zero_le _, Nat.zero_le _⟩ (fun H locs hP hD hS => ?_)
          exact wb_M_listRun_89 C0 hR N G hG _ _ _ _ hf H locs hP hD hS ls (lv_sub hl [0, 1] rfl)
        · rw [br_p _ hc] at hf
          refine lv_aload_n hx hb d_M_listRun_76 rfl (lv_at hl 0 rfl) ?_
          obtain ⟨u7, r7, hc7, hf⟩ := bnd_some hf
          refine mV_l (As := []) (rest := []) C0 hP hD hS (c_M_take N hM hc7) k_M_take hl_M_take hi_M_take hs_M_take hini_M rfl rfl hd_M_take rfl (rm_M_listRun_M_take hR) hl.1 (Nat.le_of_ble_eq_true rfl) d_M_listRun_77 rfl ⟨Nat.zero_le _, Nat.zero_le _⟩ (fun H locs hP hD hS => ?_)
          refine lv_goto (tgt := 89) hx hb d_M_listRun_80 (by decide) ?_
          exact wb_M_listRun_89 C0 hR N G hG _ _ _ _ hf H locs hP hD hS ls (lv_sub hl [0, 1] rfl)
      · rw [br_p _ hc] at hf
        refine lv_aload_n hx hb d_M_listRun_66 rfl (lv_at hl 0 rfl) ?_
        obtain ⟨u8, r8, hc8, hf⟩ := bnd_some hf
        refine mV_v (As := []) (rest := []) C0 hP hD hS (c_M_noRoom N hM hc8) k_M_noRoom hl_M_noRoom hi_M_noRoom hs_M_noRoom hini_M rfl rfl hd_M_noRoom rfl (rm_M_listRun_M_noRoom hR) hl.1 (Nat.le_of_ble_eq_true rfl) d_M_listRun_67 rfl ⟨Nat.zero_le _, Nat.zero_le _⟩ (fun H locs hP hD hS => ?_)
        exact mr_v C0 hP hD hS hf d_M_listRun_70
    · rw [br_n _ hc] at hf
      refine lv_aload_n hx hb d_M_listRun_45 rfl (lv_at hl 0 rfl) ?_
      refine lv_bipush (v := 11) hx hb d_M_listRun_46 (by decide) ?_
      obtain ⟨u9, r9, hc9, hf⟩ := bnd_some hf
      refine mV_v (As := [.int 11]) (rest := []) C0 hP hD hS (c_M_error N hM hc9) k_M_error hl_M_error hi_M_error hs_M_error hini_M rfl rfl hd_M_error rfl (rm_M_listRun_M_error hR) hl.1 (Nat.le_of_ble_eq_true rfl) d_M_listRun_48 rfl ⟨Nat.zero_le _, Nat.zero_le _⟩ (fun H locs hP hD hS => ?_)
      exact mr_v C0 hP hD hS hf d_M_listRun_51
  · rw [br_n _ hc] at hf
    refine lv_iload_n hx hb d_M_listRun_15 rfl (lv_at hl 3 rfl) ?_
    refine lv_aload_n hx hb d_M_listRun_16 rfl (lv_at hl 0 rfl) ?_
    refine lv_aload_n hx hb d_M_listRun_17 rfl (lv_at hl 0 rfl) ?_
    refine ug_I hx hb ht hown hM hK hP 133 (by decide) lk_M_133 (by decide) d_M_listRun_18 ?_
    refine lv_aload_n hx hb d_M_listRun_21 rfl (lv_at hl 0 rfl) ?_
    refine lv_iload hx hb d_M_listRun_22 (lv_at hl 4 rfl) ?_
    obtain ⟨u10, r10, hc10, hf⟩ := bnd_some hf
    refine mV_l (As := [.int v4]) (rest := [.int (u.1 133), .ref h0, .int v3]) C0 hP hD hS (c_M_top N hM hc10) k_M_top hl_M_top hi_M_top hs_M_top hini_M rfl rfl hd_M_top rfl (rm_M_listRun_M_top hR) hl.1 (Nat.le_of_ble_eq_true rfl) d_M_listRun_24 rfl ⟨Nat.zero_le _, Nat.zero_le _⟩ (fun H locs hP hD hS => ?_)
    obtain ⟨u11, r11, hc11, hf⟩ := bnd_some hf
    refine mV_i (As := [.int (u.1 133), .long r10]) (rest := [.int v3]) C0 hP hD hS (c_M_copySize N hM hc11) k_M_copySize hl_M_copySize hi_M_copySize hs_M_copySize hini_M rfl rfl hd_M_copySize rfl (rm_M_listRun_M_copySize hR) hl.1 (Nat.le_of_ble_eq_true rfl) d_M_listRun_27 rfl ⟨Nat.zero_le _, Nat.zero_le _⟩ (fun H locs hP hD hS => ?_)
    refine lv_iadd hx hb d_M_listRun_30 ?_
    refine lv_istore_n (lv' := [(3, .int (v3 + r11)), (0, .ref h0), (1, .int v1), (2, .int v2), (4, .int v4)]) hx hb d_M_listRun_31 rfl hl (by decide) rfl (fun ls hl => ?_)
    refine lv_iinc (v := (v4 + 1)) (lv' := [(4, .int (v4 + 1)), (3, .int (v3 + r11)), (0, .ref h0), (1, .int v1), (2, .int v2)]) hx hb d_M_listRun_32 hl (k := 4) rfl rfl (by decide) rfl (fun ls hl => ?_)
    refine lv_goto (tgt := 7) hx hb d_M_listRun_35 (by decide) ?_
    exact hG.1 _ _ _ _ _ _ hf H locs hP hD hS ls (lv_sub hl [2, 3, 4, 1, 0] rfl)
def fb_M_listRun_0 (N : Nat) (G : (MS → Int32 → Int32 → Int32 → Int32 → Option (MS × Unit)) × (MS → Int32 → Int64 → Int32 → Option (MS × Unit))) (u : MS) (v1 : Int32) (v2 : Int32) : Option (MS × Unit) := G.1 u (v1) (v2) ((2 * v1)) (0)
set_option maxRecDepth 100000 in
set_option maxHeartbeats 4000000 in
theorem wb_M_listRun_0 {p : Program} {l : Launch} {e : Env} {R : Room} {s : State} {m : MethodId} {args : Array Value} {below : List Frame} {meth : Method} {c : Code} {D : va_G} {cl : List vw_C} {cB cI cJ cZ cS : ClassId} {A : Nat → Prop} {iM h0 : Nat} {ad : Nat → Nat} (C0 : MCx p s m args meth c b_M_listRun 9 none D cl cB cI cJ cZ cS iM A) (hR : R = rm_M_listRun) (N : Nat) (G : (MS → Int32 → Int32 → Int32 → Int32 → Option (MS × Unit)) × (MS → Int32 → Int64 → Int32 → Option (MS × Unit))) (hG : (∀ (u : MS) (v1 : Int32) (v2 : Int32) (v3 : Int32) (v4 : Int32) (x : MS × Unit), G.1 u v1 v2 v3 v4 = some x → ∀ (H : Heap) (locs : List Loc), va_P D cl (wM cB cI cJ cZ cS iM h0 ad u) H → va_D A (wM cB cI cJ cZ cS iM h0 ad u) → va_S A s.heap H locs → ∀ (ls : Array Slot), lv_has ls 9 [(0, .ref h0), (1, .int v1), (2, .int v2), (3, .int v3), (4, .int v4)] → W p l e R s m args below meth c H locs 0 0 (MQ below (mQv D cl cB cI cJ cZ cS iM h0 ad A x) args s 0 0 A) (F0 m 7 ls [])) ∧ (∀ (u : MS) (v1 : Int32) (v4 : Int64) (v6 : Int32) (x : MS × Unit), G.2 u v1 v4 v6 = some x → ∀ (H : Heap) (locs : List Loc), va_P D cl (wM cB cI cJ cZ cS iM h0 ad u) H → va_D A (wM cB cI cJ cZ cS iM h0 ad u) → va_S A s.heap H locs → ∀ (ls : Array Slot), lv_has ls 9 [(0, .ref h0), (1, .int v1), (4, .long v4), (6, .int v6)] → W p l e R s m args below meth c H locs 0 0 (MQ below (mQv D cl cB cI cJ cZ cS iM h0 ad A x) args s 0 0 A) (F0 m 94 ls []))) : ∀ (u : MS) (v1 : Int32) (v2 : Int32) (x : MS × Unit), fb_M_listRun_0 N G u v1 v2 = some x → ∀ (H : Heap) (locs : List Loc), va_P D cl (wM cB cI cJ cZ cS iM h0 ad u) H → va_D A (wM cB cI cJ cZ cS iM h0 ad u) → va_S A s.heap H locs → ∀ (ls : Array Slot), lv_has ls 9 [(0, .ref h0), (1, .int v1), (2, .int v2)] → W p l e R s m args below meth c H locs 0 0 (MQ below (mQv D cl cB cI cJ cZ cS iM h0 ad A x) args s 0 0 A) (F0 m 0 ls []) := by
  intro u v1 v2 x hf H locs hP hD hS ls hl
  obtain ⟨hx, hb, hr, hml, ht, hown, hM, hK, hA, hlocks⟩ := id C0
  unfold fb_M_listRun_0 at hf
  refine lv_iconst (v := 2) hx hb d_M_listRun_0 (by decide) ?_
  refine lv_iload_n hx hb d_M_listRun_1 rfl (lv_at hl 1 rfl) ?_
  refine lv_imul hx hb d_M_listRun_2 ?_
  refine lv_istore_n (lv' := [(3, .int (2 * v1)), (0, .ref h0), (1, .int v1), (2, .int v2)]) hx hb d_M_listRun_3 rfl hl (by decide) rfl (fun ls hl => ?_)
  refine lv_iconst (v := 0) hx hb d_M_listRun_4 (by decide) ?_
  refine lv_istore (lv' := [(4, .int 0), (3, .int (2 * v1)), (0, .ref h0), (1, .int v1), (2, .int v2)]) hx hb d_M_listRun_5 hl (by decide) rfl (fun ls hl => ?_)
  exact hG.1 _ _ _ _ _ _ hf H locs hP hD hS ls (lv_sub hl [2, 3, 4, 1, 0] rfl)
def gg_M_listRun (N : Nat) : Nat → ((MS → Int32 → Int32 → Int32 → Int32 → Option (MS × Unit)) × (MS → Int32 → Int64 → Int32 → Option (MS × Unit)))
  | 0 => (fun _ _ _ _ _ => none, fun _ _ _ _ => none)
  | n + 1 => (fb_M_listRun_7 N (gg_M_listRun N n), fb_M_listRun_94 N (gg_M_listRun N n))
theorem wg_M_listRun {p : Program} {l : Launch} {e : Env} {R : Room} {s : State} {m : MethodId} {args : Array Value} {below : List Frame} {meth : Method} {c : Code} {D : va_G} {cl : List vw_C} {cB cI cJ cZ cS : ClassId} {A : Nat → Prop} {iM h0 : Nat} {ad : Nat → Nat} (C0 : MCx p s m args meth c b_M_listRun 9 none D cl cB cI cJ cZ cS iM A) (hR : R = rm_M_listRun) (N : Nat) : ∀ n : Nat, (∀ (u : MS) (v1 : Int32) (v2 : Int32) (v3 : Int32) (v4 : Int32) (x : MS × Unit), (gg_M_listRun N n).1 u v1 v2 v3 v4 = some x → ∀ (H : Heap) (locs : List Loc), va_P D cl (wM cB cI cJ cZ cS iM h0 ad u) H → va_D A (wM cB cI cJ cZ cS iM h0 ad u) → va_S A s.heap H locs → ∀ (ls : Array Slot), lv_has ls 9 [(0, .ref h0), (1, .int v1), (2, .int v2), (3, .int v3), (4, .int v4)] → W p l e R s m args below meth c H locs 0 0 (MQ below (mQv D cl cB cI cJ cZ cS iM h0 ad A x) args s 0 0 A) (F0 m 7 ls [])) ∧ (∀ (u : MS) (v1 : Int32) (v4 : Int64) (v6 : Int32) (x : MS × Unit), (gg_M_listRun N n).2 u v1 v4 v6 = some x → ∀ (H : Heap) (locs : List Loc), va_P D cl (wM cB cI cJ cZ cS iM h0 ad u) H → va_D A (wM cB cI cJ cZ cS iM h0 ad u) → va_S A s.heap H locs → ∀ (ls : Array Slot), lv_has ls 9 [(0, .ref h0), (1, .int v1), (4, .long v4), (6, .int v6)] → W p l e R s m args below meth c H locs 0 0 (MQ below (mQv D cl cB cI cJ cZ cS iM h0 ad A x) args s 0 0 A) (F0 m 94 ls []))
  | 0 => ⟨(fun u v1 v2 v3 v4 x hf => by cases hf), (fun u v1 v4 v6 x hf => by cases hf)⟩
  | n + 1 => ⟨wb_M_listRun_7 C0 hR N (gg_M_listRun N n) (wg_M_listRun C0 hR N n), wb_M_listRun_94 C0 hR N (gg_M_listRun N n) (wg_M_listRun C0 hR N n)⟩
def fm_M_listRun (N : Nat) (u : MS) (v1 : Int32) (v2 : Int32) : Option (MS × Unit) := fb_M_listRun_0 N (gg_M_listRun N N) u v1 v2
set_option maxRecDepth 100000 in
set_option maxHeartbeats 4000000 in
theorem c_M_listRun (N : Nat) {l : Launch} {D : va_G} {cl : List vw_C} {cB cI cJ cZ cS : ClassId} {iM h0 : Nat} {ad : Nat → Nat} {u : MS} {sz : Nat} {v1 : Int32} {v2 : Int32} {x : MS × Unit} (hM : cl[iM]? = some (R_M, F_M, 171)) (hf : fm_M_listRun N u v1 v2 = some x) : Met l y_M_listRun (wd_ws y_M_listRun b_M_listRun 9 none) rm_M_listRun (mPc D cl cB cI cJ cZ cS iM h0 ad u sz [.ref h0, .int v1, .int v2]) (mQv D cl cB cI cJ cZ cS iM h0 ad (mA cB cI cJ cZ cS iM h0 ad u sz) x) 0 0 (mA cB cI cJ cZ cS iM h0 ad u sz) :=
  mMet (by decide) rfl hM (Nat.le_of_ble_eq_true rfl) (fun p e s m below meth c ls hsz C0 hP hD hS hl => by
    have hR : rm_M_listRun = rm_M_listRun := rfl
    exact wb_M_listRun_0 C0 hR N (gg_M_listRun N N) (wg_M_listRun C0 hR N N) u _ _ x hf s.heap [] hP hD hS ls (lv_sub hl [0, 1, 2] rfl))
abbrev b_M_anew : ByteArray := prog_14_method_145_code
def y_M_anew : MethodName := ⟨R_M, "anew", "(II)V"⟩
def w_M_anew : List Cond := wd_ws y_M_anew b_M_anew 8 none
set_option maxRecDepth 100000 in
theorem k_M_anew : Cond.code y_M_anew b_M_anew 8 none ∈ wd_tbl := wd_of 3209 rfl rfl
theorem d_M_anew_0 : decode b_M_anew 0 = .ok (.aload_n 0, 1) := by decide +kernel
theorem d_M_anew_1 : decode b_M_anew 1 = .ok (.aload_n 0, 1) := by decide +kernel
theorem d_M_anew_2 : decode b_M_anew 2 = .ok (.getfield 669, 3) := by decide +kernel
theorem d_M_anew_5 : decode b_M_anew 5 = .ok (.iload_n 2, 1) := by decide +kernel
theorem d_M_anew_6 : decode b_M_anew 6 = .ok (.invokevirtual 776, 3) := by decide +kernel
theorem d_M_anew_9 : decode b_M_anew 9 = .ok (.ifCond .ne 8, 3) := by decide +kernel
theorem d_M_anew_12 : decode b_M_anew 12 = .ok (.aload_n 0, 1) := by decide +kernel
theorem d_M_anew_13 : decode b_M_anew 13 = .ok (.invokevirtual 805, 3) := by decide +kernel
theorem d_M_anew_16 : decode b_M_anew 16 = .ok (.return_, 1) := by decide +kernel
theorem d_M_anew_17 : decode b_M_anew 17 = .ok (.aload_n 0, 1) := by decide +kernel
theorem d_M_anew_18 : decode b_M_anew 18 = .ok (.iconst 1, 1) := by decide +kernel
theorem d_M_anew_19 : decode b_M_anew 19 = .ok (.invokevirtual 848, 3) := by decide +kernel
theorem d_M_anew_22 : decode b_M_anew 22 = .ok (.lstore_n 3, 1) := by decide +kernel
theorem d_M_anew_23 : decode b_M_anew 23 = .ok (.iconst 0, 1) := by decide +kernel
theorem d_M_anew_24 : decode b_M_anew 24 = .ok (.istore 5, 2) := by decide +kernel
theorem d_M_anew_26 : decode b_M_anew 26 = .ok (.iload 5, 2) := by decide +kernel
theorem d_M_anew_28 : decode b_M_anew 28 = .ok (.iload_n 1, 1) := by decide +kernel
theorem d_M_anew_29 : decode b_M_anew 29 = .ok (.if_icmp .ge 43, 3) := by decide +kernel
theorem d_M_anew_32 : decode b_M_anew 32 = .ok (.aload_n 0, 1) := by decide +kernel
theorem d_M_anew_33 : decode b_M_anew 33 = .ok (.getfield 360, 3) := by decide +kernel
theorem d_M_anew_36 : decode b_M_anew 36 = .ok (.iload 5, 2) := by decide +kernel
theorem d_M_anew_38 : decode b_M_anew 38 = .ok (.aload_n 0, 1) := by decide +kernel
theorem d_M_anew_39 : decode b_M_anew 39 = .ok (.aload_n 0, 1) := by decide +kernel
theorem d_M_anew_40 : decode b_M_anew 40 = .ok (.getfield 669, 3) := by decide +kernel
theorem d_M_anew_43 : decode b_M_anew 43 = .ok (.lload_n 3, 1) := by decide +kernel
theorem d_M_anew_44 : decode b_M_anew 44 = .ok (.invokestatic 680, 3) := by decide +kernel
theorem d_M_anew_47 : decode b_M_anew 47 = .ok (.invokevirtual 683, 3) := by decide +kernel
theorem d_M_anew_50 : decode b_M_anew 50 = .ok (.lastore, 1) := by decide +kernel
theorem d_M_anew_51 : decode b_M_anew 51 = .ok (.aload_n 0, 1) := by decide +kernel
theorem d_M_anew_52 : decode b_M_anew 52 = .ok (.aload_n 0, 1) := by decide +kernel
theorem d_M_anew_53 : decode b_M_anew 53 = .ok (.getfield 669, 3) := by decide +kernel
theorem d_M_anew_56 : decode b_M_anew 56 = .ok (.lload_n 3, 1) := by decide +kernel
theorem d_M_anew_57 : decode b_M_anew 57 = .ok (.invokestatic 680, 3) := by decide +kernel
theorem d_M_anew_60 : decode b_M_anew 60 = .ok (.iconst 1, 1) := by decide +kernel
theorem d_M_anew_61 : decode b_M_anew 61 = .ok (.iadd, 1) := by decide +kernel
theorem d_M_anew_62 : decode b_M_anew 62 = .ok (.invokevirtual 683, 3) := by decide +kernel
theorem d_M_anew_65 : decode b_M_anew 65 = .ok (.lstore_n 3, 1) := by decide +kernel
theorem d_M_anew_66 : decode b_M_anew 66 = .ok (.iinc 5 1, 3) := by decide +kernel
theorem d_M_anew_69 : decode b_M_anew 69 = .ok (.goto (-43), 3) := by decide +kernel
theorem d_M_anew_72 : decode b_M_anew 72 = .ok (.aload_n 0, 1) := by decide +kernel
theorem d_M_anew_73 : decode b_M_anew 73 = .ok (.getfield 977, 3) := by decide +kernel
theorem d_M_anew_76 : decode b_M_anew 76 = .ok (.ifCond .eq 7, 3) := by decide +kernel
theorem d_M_anew_79 : decode b_M_anew 79 = .ok (.lload_n 3, 1) := by decide +kernel
theorem d_M_anew_80 : decode b_M_anew 80 = .ok (.goto 8, 3) := by decide +kernel
theorem d_M_anew_83 : decode b_M_anew 83 = .ok (.aload_n 0, 1) := by decide +kernel
theorem d_M_anew_84 : decode b_M_anew 84 = .ok (.iconst 0, 1) := by decide +kernel
theorem d_M_anew_85 : decode b_M_anew 85 = .ok (.invokevirtual 848, 3) := by decide +kernel
theorem d_M_anew_88 : decode b_M_anew 88 = .ok (.lstore 5, 2) := by decide +kernel
theorem d_M_anew_90 : decode b_M_anew 90 = .ok (.iload_n 1, 1) := by decide +kernel
theorem d_M_anew_91 : decode b_M_anew 91 = .ok (.iconst 1, 1) := by decide +kernel
theorem d_M_anew_92 : decode b_M_anew 92 = .ok (.isub, 1) := by decide +kernel
theorem d_M_anew_93 : decode b_M_anew 93 = .ok (.istore 7, 2) := by decide +kernel
theorem d_M_anew_95 : decode b_M_anew 95 = .ok (.iload 7, 2) := by decide +kernel
theorem d_M_anew_97 : decode b_M_anew 97 = .ok (.ifCond .lt 39, 3) := by decide +kernel
theorem d_M_anew_100 : decode b_M_anew 100 = .ok (.aload_n 0, 1) := by decide +kernel
theorem d_M_anew_101 : decode b_M_anew 101 = .ok (.getfield 363, 3) := by decide +kernel
theorem d_M_anew_104 : decode b_M_anew 104 = .ok (.iload 7, 2) := by decide +kernel
theorem d_M_anew_106 : decode b_M_anew 106 = .ok (.baload, 1) := by decide +kernel
theorem d_M_anew_107 : decode b_M_anew 107 = .ok (.ifCond .ne 23, 3) := by decide +kernel
theorem d_M_anew_110 : decode b_M_anew 110 = .ok (.bipush 7, 2) := by decide +kernel
theorem d_M_anew_112 : decode b_M_anew 112 = .ok (.aload_n 0, 1) := by decide +kernel
theorem d_M_anew_113 : decode b_M_anew 113 = .ok (.aload_n 0, 1) := by decide +kernel
theorem d_M_anew_114 : decode b_M_anew 114 = .ok (.getfield 360, 3) := by decide +kernel
theorem d_M_anew_117 : decode b_M_anew 117 = .ok (.iload 7, 2) := by decide +kernel
theorem d_M_anew_119 : decode b_M_anew 119 = .ok (.laload, 1) := by decide +kernel
theorem d_M_anew_120 : decode b_M_anew 120 = .ok (.lload 5, 2) := by decide +kernel
theorem d_M_anew_122 : decode b_M_anew 122 = .ok (.invokevirtual 968, 3) := by decide +kernel
theorem d_M_anew_125 : decode b_M_anew 125 = .ok (.invokestatic 315, 3) := by decide +kernel
theorem d_M_anew_128 : decode b_M_anew 128 = .ok (.lstore 5, 2) := by decide +kernel
theorem d_M_anew_130 : decode b_M_anew 130 = .ok (.iinc 7 (-1), 3) := by decide +kernel
theorem d_M_anew_133 : decode b_M_anew 133 = .ok (.goto (-38), 3) := by decide +kernel
theorem d_M_anew_136 : decode b_M_anew 136 = .ok (.aload_n 0, 1) := by decide +kernel
theorem d_M_anew_137 : decode b_M_anew 137 = .ok (.getfield 202, 3) := by decide +kernel
theorem d_M_anew_140 : decode b_M_anew 140 = .ok (.aload_n 0, 1) := by decide +kernel
theorem d_M_anew_141 : decode b_M_anew 141 = .ok (.getfield 669, 3) := by decide +kernel
theorem d_M_anew_144 : decode b_M_anew 144 = .ok (.dup2, 1) := by decide +kernel
theorem d_M_anew_145 : decode b_M_anew 145 = .ok (.iaload, 1) := by decide +kernel
theorem d_M_anew_146 : decode b_M_anew 146 = .ok (.iconst 2, 1) := by decide +kernel
theorem d_M_anew_147 : decode b_M_anew 147 = .ok (.isub, 1) := by decide +kernel
theorem d_M_anew_148 : decode b_M_anew 148 = .ok (.iastore, 1) := by decide +kernel
theorem d_M_anew_149 : decode b_M_anew 149 = .ok (.aload_n 0, 1) := by decide +kernel
theorem d_M_anew_150 : decode b_M_anew 150 = .ok (.lload 5, 2) := by decide +kernel
theorem d_M_anew_152 : decode b_M_anew 152 = .ok (.invokevirtual 801, 3) := by decide +kernel
theorem d_M_anew_155 : decode b_M_anew 155 = .ok (.return_, 1) := by decide +kernel
set_option maxRecDepth 100000 in
theorem hl_M_anew : Cond.methodLink R_M 983 y_M_anew ∈ wd_tbl := wd_of 3206 (by decide +kernel) rfl
set_option maxRecDepth 100000 in
theorem hi_M_anew : Cond.instanceMethod y_M_anew ∈ wd_tbl := wd_of 3208 (by decide +kernel) rfl
set_option maxRecDepth 100000 in
theorem hs_M_anew : Cond.selects R_M y_M_anew y_M_anew ∈ wd_tbl := wd_of 256 (by decide +kernel) rfl
theorem hd_M_anew : y_M_anew.cls = R_M ∧ y_M_anew.cls ≠ "java/lang/invoke/MethodHandle" ∧ y_M_anew.cls ≠ "java/lang/invoke/VarHandle" ∧ (parseMethodDescriptor y_M_anew.desc).map (fun d => d.parameters.length) = some 2 := by decide +kernel
def rm_M_anew : Room := { frames := 5, cells := 0, slots := 0, locals := 123 }
theorem rm_M_anew_M_wants {R : Room} (hR : R = rm_M_anew) : (rm_M_wants).frames + 1 ≤ R.frames ∧ 8 + (3 + 11) + (rm_M_wants).locals ≤ R.locals := by subst hR; decide
theorem rm_M_anew_M_noRoom {R : Room} (hR : R = rm_M_anew) : (rm_M_noRoom).frames + 1 ≤ R.frames ∧ 8 + (1 + 11) + (rm_M_noRoom).locals ≤ R.locals := by subst hR; decide
theorem rm_M_anew_M_top {R : Room} (hR : R = rm_M_anew) : (rm_M_top).frames + 1 ≤ R.frames ∧ 8 + (2 + 11) + (rm_M_top).locals ≤ R.locals := by subst hR; decide
theorem rm_M_anew_M_valueOf {R : Room} (hR : R = rm_M_anew) : (rm_M_valueOf).frames + 1 ≤ R.frames ∧ 8 + (2 + 11) + (rm_M_valueOf).locals ≤ R.locals := by subst hR; decide
theorem rm_M_anew_M_cell {R : Room} (hR : R = rm_M_anew) : (rm_M_cell).frames + 1 ≤ R.frames ∧ 8 + (3 + 11) + (rm_M_cell).locals ≤ R.locals := by subst hR; decide
theorem rm_M_anew_M_pair {R : Room} (hR : R = rm_M_anew) : (rm_M_pair).frames + 1 ≤ R.frames ∧ 8 + (6 + 11) + (rm_M_pair).locals ≤ R.locals := by subst hR; decide
theorem rm_M_anew_M_term {R : Room} (hR : R = rm_M_anew) : (rm_M_term).frames + 1 ≤ R.frames ∧ 8 + (2 + 11) + (rm_M_term).locals ≤ R.locals := by subst hR; decide
theorem rm_M_anew_M_put {R : Room} (hR : R = rm_M_anew) : (rm_M_put).frames + 1 ≤ R.frames ∧ 8 + (3 + 11) + (rm_M_put).locals ≤ R.locals := by subst hR; decide
def fb_M_anew_130 (N : Nat) (G : (MS → Int32 → Int64 → Int32 → Option (MS × Unit)) × (MS → Int64 → Int32 → Option (MS × Unit))) (u : MS) (v5 : Int64) (v7 : Int32) : Option (MS × Unit) := G.2 u (v5) ((v7 + (-1)))
set_option maxRecDepth 100000 in
set_option maxHeartbeats 4000000 in
theorem wb_M_anew_130 {p : Program} {l : Launch} {e : Env} {R : Room} {s : State} {m : MethodId} {args : Array Value} {below : List Frame} {meth : Method} {c : Code} {D : va_G} {cl : List vw_C} {cB cI cJ cZ cS : ClassId} {A : Nat → Prop} {iM h0 : Nat} {ad : Nat → Nat} (C0 : MCx p s m args meth c b_M_anew 8 none D cl cB cI cJ cZ cS iM A) (hR : R = rm_M_anew) (N : Nat) (G : (MS → Int32 → Int64 → Int32 → Option (MS × Unit)) × (MS → Int64 → Int32 → Option (MS × Unit))) (hG : (∀ (u : MS) (v1 : Int32) (v3 : Int64) (v5 : Int32) (x : MS × Unit), G.1 u v1 v3 v5 = some x → ∀ (H : Heap) (locs : List Loc), va_P D cl (wM cB cI cJ cZ cS iM h0 ad u) H → va_D A (wM cB cI cJ cZ cS iM h0 ad u) → va_S A s.heap H locs → ∀ (ls : Array Slot), lv_has ls 8 [(0, .ref h0), (1, .int v1), (3, .long v3), (5, .int v5)] → W p l e R s m args below meth c H locs 0 0 (MQ below (mQv D cl cB cI cJ cZ cS iM h0 ad A x) args s 0 0 A) (F0 m 26 ls [])) ∧ (∀ (u : MS) (v5 : Int64) (v7 : Int32) (x : MS × Unit), G.2 u v5 v7 = some x → ∀ (H : Heap) (locs : List Loc), va_P D cl (wM cB cI cJ cZ cS iM h0 ad u) H → va_D A (wM cB cI cJ cZ cS iM h0 ad u) → va_S A s.heap H locs → ∀ (ls : Array Slot), lv_has ls 8 [(0, .ref h0), (5, .long v5), (7, .int v7)] → W p l e R s m args below meth c H locs 0 0 (MQ below (mQv D cl cB cI cJ cZ cS iM h0 ad A x) args s 0 0 A) (F0 m 95 ls []))) : ∀ (u : MS) (v5 : Int64) (v7 : Int32) (x : MS × Unit), fb_M_anew_130 N G u v5 v7 = some x → ∀ (H : Heap) (locs : List Loc), va_P D cl (wM cB cI cJ cZ cS iM h0 ad u) H → va_D A (wM cB cI cJ cZ cS iM h0 ad u) → va_S A s.heap H locs → ∀ (ls : Array Slot), lv_has ls 8 [(0, .ref h0), (5, .long v5), (7, .int v7)] → W p l e R s m args below meth c H locs 0 0 (MQ below (mQv D cl cB cI cJ cZ cS iM h0 ad A x) args s 0 0 A) (F0 m 130 ls []) := by
  intro u v5 v7 x hf H locs hP hD hS ls hl
  obtain ⟨hx, hb, hr, hml, ht, hown, hM, hK, hA, hlocks⟩ := id C0
  unfold fb_M_anew_130 at hf
  refine lv_iinc (v := (v7 + (-1))) (lv' := [(7, .int (v7 + (-1))), (0, .ref h0), (5, .long v5)]) hx hb d_M_anew_130 hl (k := 2) rfl rfl (by decide) rfl (fun ls hl => ?_)
  refine lv_goto (tgt := 95) hx hb d_M_anew_133 (by decide) ?_
  exact hG.2 _ _ _ _ hf H locs hP hD hS ls (lv_sub hl [1, 2, 0] rfl)
def fb_M_anew_95 (N : Nat) (G : (MS → Int32 → Int64 → Int32 → Option (MS × Unit)) × (MS → Int64 → Int32 → Option (MS × Unit))) (u : MS) (v5 : Int64) (v7 : Int32) : Option (MS × Unit) := br (decide (v7 < 0)) (ck (inb (u.1 133) (ln 92)) (ck (inb (u.1 133) (ln 92)) (lt (upA u 92 (upd (u.2.2.1 92) (u.1 133).toNatClampNeg ((u.2.2.1 92 (u.1 133).toNatClampNeg) - 2))) (fun w1 => bnd (fm_M_put N w1 v5) (fun u2 _ => some (u2, ())))))) (ck (inb v7 (ln 168)) (br (decide ((u.2.2.1 168 v7.toNatClampNeg) = 0)) (ck (inb v7 (ln 167)) (bnd (fm_M_pair N u (u.2.2.2 167 v7.toNatClampNeg) v5) (fun u3 r3 => bnd (fm_M_term N u3 7 r3) (fun u4 r4 => fb_M_anew_130 N G u4 (r4) (v7))))) (fb_M_anew_130 N G u (v5) (v7))))
set_option maxRecDepth 100000 in
set_option maxHeartbeats 4000000 in
theorem wb_M_anew_95 {p : Program} {l : Launch} {e : Env} {R : Room} {s : State} {m : MethodId} {args : Array Value} {below : List Frame} {meth : Method} {c : Code} {D : va_G} {cl : List vw_C} {cB cI cJ cZ cS : ClassId} {A : Nat → Prop} {iM h0 : Nat} {ad : Nat → Nat} (C0 : MCx p s m args meth c b_M_anew 8 none D cl cB cI cJ cZ cS iM A) (hR : R = rm_M_anew) (N : Nat) (G : (MS → Int32 → Int64 → Int32 → Option (MS × Unit)) × (MS → Int64 → Int32 → Option (MS × Unit))) (hG : (∀ (u : MS) (v1 : Int32) (v3 : Int64) (v5 : Int32) (x : MS × Unit), G.1 u v1 v3 v5 = some x → ∀ (H : Heap) (locs : List Loc), va_P D cl (wM cB cI cJ cZ cS iM h0 ad u) H → va_D A (wM cB cI cJ cZ cS iM h0 ad u) → va_S A s.heap H locs → ∀ (ls : Array Slot), lv_has ls 8 [(0, .ref h0), (1, .int v1), (3, .long v3), (5, .int v5)] → W p l e R s m args below meth c H locs 0 0 (MQ below (mQv D cl cB cI cJ cZ cS iM h0 ad A x) args s 0 0 A) (F0 m 26 ls [])) ∧ (∀ (u : MS) (v5 : Int64) (v7 : Int32) (x : MS × Unit), G.2 u v5 v7 = some x → ∀ (H : Heap) (locs : List Loc), va_P D cl (wM cB cI cJ cZ cS iM h0 ad u) H → va_D A (wM cB cI cJ cZ cS iM h0 ad u) → va_S A s.heap H locs → ∀ (ls : Array Slot), lv_has ls 8 [(0, .ref h0), (5, .long v5), (7, .int v7)] → W p l e R s m args below meth c H locs 0 0 (MQ below (mQv D cl cB cI cJ cZ cS iM h0 ad A x) args s 0 0 A) (F0 m 95 ls []))) : ∀ (u : MS) (v5 : Int64) (v7 : Int32) (x : MS × Unit), fb_M_anew_95 N G u v5 v7 = some x → ∀ (H : Heap) (locs : List Loc), va_P D cl (wM cB cI cJ cZ cS iM h0 ad u) H → va_D A (wM cB cI cJ cZ cS iM h0 ad u) → va_S A s.heap H locs → ∀ (ls : Array Slot), lv_has ls 8 [(0, .ref h0), (5, .long v5), (7, .int v7)] → W p l e R s m args below meth c H locs 0 0 (MQ below (mQv D cl cB cI cJ cZ cS iM h0 ad A x) args s 0 0 A) (F0 m 95 ls []) := by
  intro u v5 v7 x hf H locs hP hD hS ls hl
  obtain ⟨hx, hb, hr, hml, ht, hown, hM, hK, hA, hlocks⟩ := id C0
  unfold fb_M_anew_95 at hf
  refine lv_iload hx hb d_M_anew_95 (lv_at hl 2 rfl) ?_
  refine lv_if_lt (tgt := 136) hx hb d_M_anew_97 (by decide) (fun hc => ?_) (fun hc => ?_)
  · rw [br_p _ hc] at hf
    refine lv_aload_n hx hb d_M_anew_136 rfl (lv_at hl 0 rfl) ?_
    refine ug_R hx hb ht hown hM hK hP 92 (by decide) lk_M_92 (by decide) d_M_anew_137 ?_
    refine lv_aload_n hx hb d_M_anew_140 rfl (lv_at hl 0 rfl) ?_
    refine ug_I hx hb ht hown hM hK hP 133 (by decide) lk_M_133 (by decide) d_M_anew_141 ?_
    refine lv_dup2_11 hx hb d_M_anew_144 rfl rfl ?_
    obtain ⟨hi9, hf⟩ := ck_some hf
    refine ul_I hx hb hK hP (by decide) (by decide) hi9 d_M_anew_145 ?_
    refine lv_iconst (v := 2) hx hb d_M_anew_146 (by decide) ?_
    refine lv_isub hx hb d_M_anew_147 ?_
    obtain ⟨hi9, hf⟩ := ck_some hf
    refine us_I hx hb hK hP hD hS (by decide) (by decide) hi9 d_M_anew_148 (fun H locs hP hD hS => ?_)
    obtain ⟨w1, e1, hf⟩ := lt_some hf
    rw [← e1] at hP hD
    refine lv_aload_n hx hb d_M_anew_149 rfl (lv_at hl 0 rfl) ?_
    refine lv_lload hx hb d_M_anew_150 (lv_at hl 1 rfl) ?_
    obtain ⟨u2, r2, hc2, hf⟩ := bnd_some hf
    refine mV_v (As := [.long v5]) (rest := []) C0 hP hD hS (c_M_put N hM hc2) k_M_put hl_M_put hi_M_put hs_M_put hini_M rfl rfl hd_M_put rfl (rm_M_anew_M_put hR) hl.1 (Nat.le_of_ble_eq_true rfl) d_M_anew_152 rfl ⟨Nat.zero_le _, Nat.zero_le _⟩ (fun H locs hP hD hS => ?_)
    exact mr_v C0 hP hD hS hf d_M_anew_155
  · rw [br_n _ hc] at hf
    refine lv_aload_n hx hb d_M_anew_100 rfl (lv_at hl 0 rfl) ?_
    refine ug_R hx hb ht hown hM hK hP 168 (by decide) lk_M_168 (by decide) d_M_anew_101 ?_
    refine lv_iload hx hb d_M_anew_104 (lv_at hl 2 rfl) ?_
    obtain ⟨hi9, hf⟩ := ck_some hf
    refine ul_Z hx hb hK hP (by decide) (by decide) hi9 d_M_anew_106 ?_
    refine lv_if_ne (tgt := 130) hx hb d_M_anew_107 (by decide) (fun hc => ?_) (fun hc => ?_)
    · rw [br_n _ hc] at hf
      exact wb_M_anew_130 C0 hR N G hG _ _ _ _ hf H locs hP hD hS ls (lv_sub hl [0, 1, 2] rfl)
    · rw [br_p _ hc] at hf
      refine lv_bipush (v := 7) hx hb d_M_anew_110 (by decide) ?_
      refine lv_aload_n hx hb d_M_anew_112 rfl (lv_at hl 0 rfl) ?_
      refine lv_aload_n hx hb d_M_anew_113 rfl (lv_at hl 0 rfl) ?_
      refine ug_R hx hb ht hown hM hK hP 167 (by decide) lk_M_167 (by decide) d_M_anew_114 ?_
      refine lv_iload hx hb d_M_anew_117 (lv_at hl 2 rfl) ?_
      obtain ⟨hi9, hf⟩ := ck_some hf
      refine ul_J hx hb hK hP (by decide) (by decide) hi9 d_M_anew_119 ?_
      refine lv_lload hx hb d_M_anew_120 (lv_at hl 1 rfl) ?_
      obtain ⟨u3, r3, hc3, hf⟩ := bnd_some hf
      refine mV_i (As := [.long (u.2.2.2 167 v7.toNatClampNeg), .long v5]) (rest := [.int 7]) C0 hP hD hS (c_M_pair N hM hc3) k_M_pair hl_M_pair hi_M_pair hs_M_pair hini_M rfl rfl hd_M_pair rfl (rm_M_anew_M_pair hR) hl.1 (Nat.le_of_ble_eq_true rfl) d_M_anew_122 rfl ⟨Nat.zero_le _, Nat.zero_le _⟩ (fun H locs hP hD hS => ?_)
      obtain ⟨u4, r4, hc4, hf⟩ := bnd_some hf
      refine mS_l (As := [.int 7, .int r3]) (rest := []) C0 hP hD hS (c_M_term N hM hc4) k_M_term hl_M_term ht_M_term hini_M rfl rfl hd_M_term rfl (rm_M_anew_M_term hR) hl.1 (Nat.le_of_ble_eq_true rfl) d_M_anew_125 rfl ⟨Nat.zero_le _, Nat.zero_le _⟩ (fun H locs hP hD hS => ?_)
      refine lv_lstore (lv' := [(5, .long r4), (0, .ref h0), (7, .int v7)]) hx hb d_M_anew_128 hl (by decide) rfl (fun ls hl => ?_)
      exact wb_M_anew_130 C0 hR N G hG _ _ _ _ hf H locs hP hD hS ls (lv_sub hl [1, 0, 2] rfl)
def fb_M_anew_88 (N : Nat) (G : (MS → Int32 → Int64 → Int32 → Option (MS × Unit)) × (MS → Int64 → Int32 → Option (MS × Unit))) (u : MS) (v1 : Int32) (t0 : Int64) : Option (MS × Unit) := G.2 u (t0) ((v1 - 1))
set_option maxRecDepth 100000 in
set_option maxHeartbeats 4000000 in
theorem wb_M_anew_88 {p : Program} {l : Launch} {e : Env} {R : Room} {s : State} {m : MethodId} {args : Array Value} {below : List Frame} {meth : Method} {c : Code} {D : va_G} {cl : List vw_C} {cB cI cJ cZ cS : ClassId} {A : Nat → Prop} {iM h0 : Nat} {ad : Nat → Nat} (C0 : MCx p s m args meth c b_M_anew 8 none D cl cB cI cJ cZ cS iM A) (hR : R = rm_M_anew) (N : Nat) (G : (MS → Int32 → Int64 → Int32 → Option (MS × Unit)) × (MS → Int64 → Int32 → Option (MS × Unit))) (hG : (∀ (u : MS) (v1 : Int32) (v3 : Int64) (v5 : Int32) (x : MS × Unit), G.1 u v1 v3 v5 = some x → ∀ (H : Heap) (locs : List Loc), va_P D cl (wM cB cI cJ cZ cS iM h0 ad u) H → va_D A (wM cB cI cJ cZ cS iM h0 ad u) → va_S A s.heap H locs → ∀ (ls : Array Slot), lv_has ls 8 [(0, .ref h0), (1, .int v1), (3, .long v3), (5, .int v5)] → W p l e R s m args below meth c H locs 0 0 (MQ below (mQv D cl cB cI cJ cZ cS iM h0 ad A x) args s 0 0 A) (F0 m 26 ls [])) ∧ (∀ (u : MS) (v5 : Int64) (v7 : Int32) (x : MS × Unit), G.2 u v5 v7 = some x → ∀ (H : Heap) (locs : List Loc), va_P D cl (wM cB cI cJ cZ cS iM h0 ad u) H → va_D A (wM cB cI cJ cZ cS iM h0 ad u) → va_S A s.heap H locs → ∀ (ls : Array Slot), lv_has ls 8 [(0, .ref h0), (5, .long v5), (7, .int v7)] → W p l e R s m args below meth c H locs 0 0 (MQ below (mQv D cl cB cI cJ cZ cS iM h0 ad A x) args s 0 0 A) (F0 m 95 ls []))) : ∀ (u : MS) (v1 : Int32) (t0 : Int64) (x : MS × Unit), fb_M_anew_88 N G u v1 t0 = some x → ∀ (H : Heap) (locs : List Loc), va_P D cl (wM cB cI cJ cZ cS iM h0 ad u) H → va_D A (wM cB cI cJ cZ cS iM h0 ad u) → va_S A s.heap H locs → ∀ (ls : Array Slot), lv_has ls 8 [(0, .ref h0), (1, .int v1)] → W p l e R s m args below meth c H locs 0 0 (MQ below (mQv D cl cB cI cJ cZ cS iM h0 ad A x) args s 0 0 A) (F0 m 88 ls [.long t0]) := by
  intro u v1 t0 x hf H locs hP hD hS ls hl
  obtain ⟨hx, hb, hr, hml, ht, hown, hM, hK, hA, hlocks⟩ := id C0
  unfold fb_M_anew_88 at hf
  refine lv_lstore (lv' := [(5, .long t0), (0, .ref h0), (1, .int v1)]) hx hb d_M_anew_88 hl (by decide) rfl (fun ls hl => ?_)
  refine lv_iload_n hx hb d_M_anew_90 rfl (lv_at hl 2 rfl) ?_
  refine lv_iconst (v := 1) hx hb d_M_anew_91 (by decide) ?_
  refine lv_isub hx hb d_M_anew_92 ?_
  refine lv_istore (lv' := [(7, .int (v1 - 1)), (5, .long t0), (0, .ref h0), (1, .int v1)]) hx hb d_M_anew_93 hl (by decide) rfl (fun ls hl => ?_)
  exact hG.2 _ _ _ _ hf H locs hP hD hS ls (lv_sub hl [2, 1, 0] rfl)
def fb_M_anew_26 (N : Nat) (G : (MS → Int32 → Int64 → Int32 → Option (MS × Unit)) × (MS → Int64 → Int32 → Option (MS × Unit))) (u : MS) (v1 : Int32) (v3 : Int64) (v5 : Int32) : Option (MS × Unit) := br (decide (v1 ≤ v5)) (br (decide ((u.1 169) = 0)) (bnd (fm_M_top N u 0) (fun u5 r5 => fb_M_anew_88 N G u5 (v1) (r5))) (fb_M_anew_88 N G u (v1) (v3))) (bnd (fm_M_valueOf N u v3) (fun u6 r6 => bnd (fm_M_cell N u6 (u.1 133) r6) (fun u7 r7 => ck (inb v5 (ln 167)) (lt (upJ u7 167 (vp_updL (u7.2.2.2 167) v5.toNatClampNeg r7)) (fun w8 => bnd (fm_M_valueOf N w8 v3) (fun u9 r9 => bnd (fm_M_cell N u9 (w8.1 133) (r9 + 1)) (fun u10 r10 => G.1 u10 (v1) (r10) ((v5 + 1)))))))))
set_option maxRecDepth 100000 in
set_option maxHeartbeats 4000000 in
theorem wb_M_anew_26 {p : Program} {l : Launch} {e : Env} {R : Room} {s : State} {m : MethodId} {args : Array Value} {below : List Frame} {meth : Method} {c : Code} {D : va_G} {cl : List vw_C} {cB cI cJ cZ cS : ClassId} {A : Nat → Prop} {iM h0 : Nat} {ad : Nat → Nat} (C0 : MCx p s m args meth c b_M_anew 8 none D cl cB cI cJ cZ cS iM A) (hR : R = rm_M_anew) (N : Nat) (G : (MS → Int32 → Int64 → Int32 → Option (MS × Unit)) × (MS → Int64 → Int32 → Option (MS × Unit))) (hG : (∀ (u : MS) (v1 : Int32) (v3 : Int64) (v5 : Int32) (x : MS × Unit), G.1 u v1 v3 v5 = some x → ∀ (H : Heap) (locs : List Loc), va_P D cl (wM cB cI cJ cZ cS iM h0 ad u) H → va_D A (wM cB cI cJ cZ cS iM h0 ad u) → va_S A s.heap H locs → ∀ (ls : Array Slot), lv_has ls 8 [(0, .ref h0), (1, .int v1), (3, .long v3), (5, .int v5)] → W p l e R s m args below meth c H locs 0 0 (MQ below (mQv D cl cB cI cJ cZ cS iM h0 ad A x) args s 0 0 A) (F0 m 26 ls [])) ∧ (∀ (u : MS) (v5 : Int64) (v7 : Int32) (x : MS × Unit), G.2 u v5 v7 = some x → ∀ (H : Heap) (locs : List Loc), va_P D cl (wM cB cI cJ cZ cS iM h0 ad u) H → va_D A (wM cB cI cJ cZ cS iM h0 ad u) → va_S A s.heap H locs → ∀ (ls : Array Slot), lv_has ls 8 [(0, .ref h0), (5, .long v5), (7, .int v7)] → W p l e R s m args below meth c H locs 0 0 (MQ below (mQv D cl cB cI cJ cZ cS iM h0 ad A x) args s 0 0 A) (F0 m 95 ls []))) : ∀ (u : MS) (v1 : Int32) (v3 : Int64) (v5 : Int32) (x : MS × Unit), fb_M_anew_26 N G u v1 v3 v5 = some x → ∀ (H : Heap) (locs : List Loc), va_P D cl (wM cB cI cJ cZ cS iM h0 ad u) H → va_D A (wM cB cI cJ cZ cS iM h0 ad u) → va_S A s.heap H locs → ∀ (ls : Array Slot), lv_has ls 8 [(0, .ref h0), (1, .int v1), (3, .long v3), (5, .int v5)] → W p l e R s m args below meth c H locs 0 0 (MQ below (mQv D cl cB cI cJ cZ cS iM h0 ad A x) args s 0 0 A) (F0 m 26 ls []) := by
  intro u v1 v3 v5 x hf H locs hP hD hS ls hl
  obtain ⟨hx, hb, hr, hml, ht, hown, hM, hK, hA, hlocks⟩ := id C0
  unfold fb_M_anew_26 at hf
  refine lv_iload hx hb d_M_anew_26 (lv_at hl 3 rfl) ?_
  refine lv_iload_n hx hb d_M_anew_28 rfl (lv_at hl 1 rfl) ?_
  refine lv_icmp_ge (tgt := 72) hx hb d_M_anew_29 (by decide) (fun hc => ?_) (fun hc => ?_)
  · rw [br_p _ hc] at hf
    refine lv_aload_n hx hb d_M_anew_72 rfl (lv_at hl 0 rfl) ?_
    refine ug_I hx hb ht hown hM hK hP 169 (by decide) lk_M_169 (by decide) d_M_anew_73 ?_
    refine lv_if_eq (tgt := 83) hx hb d_M_anew_76 (by decide) (fun hc => ?_) (fun hc => ?_)
    · rw [br_p _ hc] at hf
      refine lv_aload_n hx hb d_M_anew_83 rfl (lv_at hl 0 rfl) ?_
      refine lv_iconst (v := 0) hx hb d_M_anew_84 (by decide) ?_
      obtain ⟨u5, r5, hc5, hf⟩ := bnd_some hf
      refine mV_l (As := [.int 0]) (rest := []) C0 hP hD hS (c_M_top N hM hc5) k_M_top hl_M_top hi_M_top hs_M_top hini_M rfl rfl hd_M_top rfl (rm_M_anew_M_top hR) hl.1 (Nat.le_of_ble_eq_true rfl) d_M_anew_85 rfl ⟨Nat.zero_le _, Nat.zero_le _⟩ (fun H locs hP hD hS => ?_)
      exact wb_M_anew_88 C0 hR N G hG _ _ _ _ hf H locs hP hD hS ls (lv_sub hl [0, 1] rfl)
    · rw [br_n _ hc] at hf
      refine lv_lload_n hx hb d_M_anew_79 rfl (lv_at hl 2 rfl) ?_
      refine lv_goto (tgt := 88) hx hb d_M_anew_80 (by decide) ?_
      exact wb_M_anew_88 C0 hR N G hG _ _ _ _ hf H locs hP hD hS ls (lv_sub hl [0, 1] rfl)
  · rw [br_n _ hc] at hf
    refine lv_aload_n hx hb d_M_anew_32 rfl (lv_at hl 0 rfl) ?_
    refine ug_R hx hb ht hown hM hK hP 167 (by decide) lk_M_167 (by decide) d_M_anew_33 ?_
    refine lv_iload hx hb d_M_anew_36 (lv_at hl 3 rfl) ?_
    refine lv_aload_n hx hb d_M_anew_38 rfl (lv_at hl 0 rfl) ?_
    refine lv_aload_n hx hb d_M_anew_39 rfl (lv_at hl 0 rfl) ?_
    refine ug_I hx hb ht hown hM hK hP 133 (by decide) lk_M_133 (by decide) d_M_anew_40 ?_
    refine lv_lload_n hx hb d_M_anew_43 rfl (lv_at hl 2 rfl) ?_
    obtain ⟨u6, r6, hc6, hf⟩ := bnd_some hf
    refine mS_i (As := [.long v3]) (rest := [.int (u.1 133), .ref h0, .int v5, .ref (ad 167)]) C0 hP hD hS (c_M_valueOf N hM hc6) k_M_valueOf hl_M_valueOf ht_M_valueOf hini_M rfl rfl hd_M_valueOf rfl (rm_M_anew_M_valueOf hR) hl.1 (Nat.le_of_ble_eq_true rfl) d_M_anew_44 rfl ⟨Nat.zero_le _, Nat.zero_le _⟩ (fun H locs hP hD hS => ?_)
    obtain ⟨u7, r7, hc7, hf⟩ := bnd_some hf
    refine mV_l (As := [.int (u.1 133), .int r6]) (rest := [.int v5, .ref (ad 167)]) C0 hP hD hS (c_M_cell N hM hc7) k_M_cell hl_M_cell hi_M_cell hs_M_cell hini_M rfl rfl hd_M_cell rfl (rm_M_anew_M_cell hR) hl.1 (Nat.le_of_ble_eq_true rfl) d_M_anew_47 rfl ⟨Nat.zero_le _, Nat.zero_le _⟩ (fun H locs hP hD hS => ?_)
    obtain ⟨hi9, hf⟩ := ck_some hf
    refine us_J hx hb hK hP hD hS (by decide) (by decide) hi9 d_M_anew_50 (fun H locs hP hD hS => ?_)
    obtain ⟨w8, e8, hf⟩ := lt_some hf
    rw [← e8] at hP hD
    refine lv_aload_n hx hb d_M_anew_51 rfl (lv_at hl 0 rfl) ?_
    refine lv_aload_n hx hb d_M_anew_52 rfl (lv_at hl 0 rfl) ?_
    refine ug_I hx hb ht hown hM hK hP 133 (by decide) lk_M_133 (by decide) d_M_anew_53 ?_
    refine lv_lload_n hx hb d_M_anew_56 rfl (lv_at hl 2 rfl) ?_
    obtain ⟨u9, r9, hc9, hf⟩ := bnd_some hf
    refine mS_i (As := [.long v3]) (rest := [.int (w8.1 133), .ref h0]) C0 hP hD hS (c_M_valueOf N hM hc9) k_M_valueOf hl_M_valueOf ht_M_valueOf hini_M rfl rfl hd_M_valueOf rfl (rm_M_anew_M_valueOf hR) hl.1 (Nat.le_of_ble_eq_true rfl) d_M_anew_57 rfl ⟨Nat.zero_le _, Nat.zero_le _⟩ (fun H locs hP hD hS => ?_)
    refine lv_iconst (v := 1) hx hb d_M_anew_60 (by decide) ?_
    refine lv_iadd hx hb d_M_anew_61 ?_
    obtain ⟨u10, r10, hc10, hf⟩ := bnd_some hf
    refine mV_l (As := [.int (w8.1 133), .int (r9 + 1)]) (rest := []) C0 hP hD hS (c_M_cell N hM hc10) k_M_cell hl_M_cell hi_M_cell hs_M_cell hini_M rfl rfl hd_M_cell rfl (rm_M_anew_M_cell hR) hl.1 (Nat.le_of_ble_eq_true rfl) d_M_anew_62 rfl ⟨Nat.zero_le _, Nat.zero_le _⟩ (fun H locs hP hD hS => ?_)
    refine lv_lstore_n (lv' := [(3, .long r10), (0, .ref h0), (1, .int v1), (5, .int v5)]) hx hb d_M_anew_65 rfl hl (by decide) rfl (fun ls hl => ?_)
    refine lv_iinc (v := (v5 + 1)) (lv' := [(5, .int (v5 + 1)), (3, .long r10), (0, .ref h0), (1, .int v1)]) hx hb d_M_anew_66 hl (k := 3) rfl rfl (by decide) rfl (fun ls hl => ?_)
    refine lv_goto (tgt := 26) hx hb d_M_anew_69 (by decide) ?_
    exact hG.1 _ _ _ _ _ hf H locs hP hD hS ls (lv_sub hl [2, 3, 1, 0] rfl)
def fb_M_anew_0 (N : Nat) (G : (MS → Int32 → Int64 → Int32 → Option (MS × Unit)) × (MS → Int64 → Int32 → Option (MS × Unit))) (u : MS) (v1 : Int32) (v2 : Int32) : Option (MS × Unit) := bnd (fm_M_wants N u (u.1 133) v2) (fun u11 r11 => br (decide (r11 = 0)) (bnd (fm_M_noRoom N u11) (fun u13 _ => some (u13, ()))) (bnd (fm_M_top N u11 1) (fun u12 r12 => G.1 u12 (v1) (r12) (0))))
set_option maxRecDepth 100000 in
set_option maxHeartbeats 4000000 in
theorem wb_M_anew_0 {p : Program} {l : Launch} {e : Env} {R : Room} {s : State} {m : MethodId} {args : Array Value} {below : List Frame} {meth : Method} {c : Code} {D : va_G} {cl : List vw_C} {cB cI cJ cZ cS : ClassId} {A : Nat → Prop} {iM h0 : Nat} {ad : Nat → Nat} (C0 : MCx p s m args meth c b_M_anew 8 none D cl cB cI cJ cZ cS iM A) (hR : R = rm_M_anew) (N : Nat) (G : (MS → Int32 → Int64 → Int32 → Option (MS × Unit)) × (MS → Int64 → Int32 → Option (MS × Unit))) (hG : (∀ (u : MS) (v1 : Int32) (v3 : Int64) (v5 : Int32) (x : MS × Unit), G.1 u v1 v3 v5 = some x → ∀ (H : Heap) (locs : List Loc), va_P D cl (wM cB cI cJ cZ cS iM h0 ad u) H → va_D A (wM cB cI cJ cZ cS iM h0 ad u) → va_S A s.heap H locs → ∀ (ls : Array Slot), lv_has ls 8 [(0, .ref h0), (1, .int v1), (3, .long v3), (5, .int v5)] → W p l e R s m args below meth c H locs 0 0 (MQ below (mQv D cl cB cI cJ cZ cS iM h0 ad A x) args s 0 0 A) (F0 m 26 ls [])) ∧ (∀ (u : MS) (v5 : Int64) (v7 : Int32) (x : MS × Unit), G.2 u v5 v7 = some x → ∀ (H : Heap) (locs : List Loc), va_P D cl (wM cB cI cJ cZ cS iM h0 ad u) H → va_D A (wM cB cI cJ cZ cS iM h0 ad u) → va_S A s.heap H locs → ∀ (ls : Array Slot), lv_has ls 8 [(0, .ref h0), (5, .long v5), (7, .int v7)] → W p l e R s m args below meth c H locs 0 0 (MQ below (mQv D cl cB cI cJ cZ cS iM h0 ad A x) args s 0 0 A) (F0 m 95 ls []))) : ∀ (u : MS) (v1 : Int32) (v2 : Int32) (x : MS × Unit), fb_M_anew_0 N G u v1 v2 = some x → ∀ (H : Heap) (locs : List Loc), va_P D cl (wM cB cI cJ cZ cS iM h0 ad u) H → va_D A (wM cB cI cJ cZ cS iM h0 ad u) → va_S A s.heap H locs → ∀ (ls : Array Slot), lv_has ls 8 [(0, .ref h0), (1, .int v1), (2, .int v2)] → W p l e R s m args below meth c H locs 0 0 (MQ below (mQv D cl cB cI cJ cZ cS iM h0 ad A x) args s 0 0 A) (F0 m 0 ls []) := by
  intro u v1 v2 x hf H locs hP hD hS ls hl
  obtain ⟨hx, hb, hr, hml, ht, hown, hM, hK, hA, hlocks⟩ := id C0
  unfold fb_M_anew_0 at hf
  refine lv_aload_n hx hb d_M_anew_0 rfl (lv_at hl 0 rfl) ?_
  refine lv_aload_n hx hb d_M_anew_1 rfl (lv_at hl 0 rfl) ?_
  refine ug_I hx hb ht hown hM hK hP 133 (by decide) lk_M_133 (by decide) d_M_anew_2 ?_
  refine lv_iload_n hx hb d_M_anew_5 rfl (lv_at hl 2 rfl) ?_
  obtain ⟨u11, r11, hc11, hf⟩ := bnd_some hf
  refine mV_i (As := [.int (u.1 133), .int v2]) (rest := []) C0 hP hD hS (c_M_wants N hM hc11) k_M_wants hl_M_wants hi_M_wants hs_M_wants hini_M rfl rfl hd_M_wants rfl (rm_M_anew_M_wants hR) hl.1 (Nat.le_of_ble_eq_true rfl) d_M_anew_6 rfl ⟨Nat.zero_le _, Nat.zero_le _⟩ (fun H locs hP hD hS => ?_)
  refine lv_if_ne (tgt := 17) hx hb d_M_anew_9 (by decide) (fun hc => ?_) (fun hc => ?_)
  · rw [br_n _ hc] at hf
    refine lv_aload_n hx hb d_M_anew_17 rfl (lv_at hl 0 rfl) ?_
    refine lv_iconst (v := 1) hx hb d_M_anew_18 (by decide) ?_
    obtain ⟨u12, r12, hc12, hf⟩ := bnd_some hf
    refine mV_l (As := [.int 1]) (rest := []) C0 hP hD hS (c_M_top N hM hc12) k_M_top hl_M_top hi_M_top hs_M_top hini_M rfl rfl hd_M_top rfl (rm_M_anew_M_top hR) hl.1 (Nat.le_of_ble_eq_true rfl) d_M_anew_19 rfl ⟨Nat.zero_le _, Nat.zero_le _⟩ (fun H locs hP hD hS => ?_)
    refine lv_lstore_n (lv' := [(3, .long r12), (0, .ref h0), (1, .int v1), (2, .int v2)]) hx hb d_M_anew_22 rfl hl (by decide) rfl (fun ls hl => ?_)
    refine lv_iconst (v := 0) hx hb d_M_anew_23 (by decide) ?_
    refine lv_istore (lv' := [(5, .int 0), (3, .long r12), (0, .ref h0), (1, .int v1), (2, .int v2)]) hx hb d_M_anew_24 hl (by decide) rfl (fun ls hl => ?_)
    exact hG.1 _ _ _ _ _ hf H locs hP hD hS ls (lv_sub hl [2, 3, 1, 0] rfl)
  · rw [br_p _ hc] at hf
    refine lv_aload_n hx hb d_M_anew_12 rfl (lv_at hl 0 rfl) ?_
    obtain ⟨u13, r13, hc13, hf⟩ := bnd_some hf
    refine mV_v (As := []) (rest := []) C0 hP hD hS (c_M_noRoom N hM hc13) k_M_noRoom hl_M_noRoom hi_M_noRoom hs_M_noRoom hini_M rfl rfl hd_M_noRoom rfl (rm_M_anew_M_noRoom hR) hl.1 (Nat.le_of_ble_eq_true rfl) d_M_anew_13 rfl ⟨Nat.zero_le _, Nat.zero_le _⟩ (fun H locs hP hD hS => ?_)
    exact mr_v C0 hP hD hS hf d_M_anew_16
def gg_M_anew (N : Nat) : Nat → ((MS → Int32 → Int64 → Int32 → Option (MS × Unit)) × (MS → Int64 → Int32 → Option (MS × Unit)))
  | 0 => (fun _ _ _ _ => none, fun _ _ _ => none)
  | n + 1 => (fb_M_anew_26 N (gg_M_anew N n), fb_M_anew_95 N (gg_M_anew N n))
theorem wg_M_anew {p : Program} {l : Launch} {e : Env} {R : Room} {s : State} {m : MethodId} {args : Array Value} {below : List Frame} {meth : Method} {c : Code} {D : va_G} {cl : List vw_C} {cB cI cJ cZ cS : ClassId} {A : Nat → Prop} {iM h0 : Nat} {ad : Nat → Nat} (C0 : MCx p s m args meth c b_M_anew 8 none D cl cB cI cJ cZ cS iM A) (hR : R = rm_M_anew) (N : Nat) : ∀ n : Nat, (∀ (u : MS) (v1 : Int32) (v3 : Int64) (v5 : Int32) (x : MS × Unit), (gg_M_anew N n).1 u v1 v3 v5 = some x → ∀ (H : Heap) (locs : List Loc), va_P D cl (wM cB cI cJ cZ cS iM h0 ad u) H → va_D A (wM cB cI cJ cZ cS iM h0 ad u) → va_S A s.heap H locs → ∀ (ls : Array Slot), lv_has ls 8 [(0, .ref h0), (1, .int v1), (3, .long v3), (5, .int v5)] → W p l e R s m args below meth c H locs 0 0 (MQ below (mQv D cl cB cI cJ cZ cS iM h0 ad A x) args s 0 0 A) (F0 m 26 ls [])) ∧ (∀ (u : MS) (v5 : Int64) (v7 : Int32) (x : MS × Unit), (gg_M_anew N n).2 u v5 v7 = some x → ∀ (H : Heap) (locs : List Loc), va_P D cl (wM cB cI cJ cZ cS iM h0 ad u) H → va_D A (wM cB cI cJ cZ cS iM h0 ad u) → va_S A s.heap H locs → ∀ (ls : Array Slot), lv_has ls 8 [(0, .ref h0), (5, .long v5), (7, .int v7)] → W p l e R s m args below meth c H locs 0 0 (MQ below (mQv D cl cB cI cJ cZ cS iM h0 ad A x) args s 0 0 A) (F0 m 95 ls []))
  | 0 => ⟨(fun u v1 v3 v5 x hf => by cases hf), (fun u v5 v7 x hf => by cases hf)⟩
  | n + 1 => ⟨wb_M_anew_26 C0 hR N (gg_M_anew N n) (wg_M_anew C0 hR N n), wb_M_anew_95 C0 hR N (gg_M_anew N n) (wg_M_anew C0 hR N n)⟩
def fm_M_anew (N : Nat) (u : MS) (v1 : Int32) (v2 : Int32) : Option (MS × Unit) := fb_M_anew_0 N (gg_M_anew N N) u v1 v2
set_option maxRecDepth 100000 in
set_option maxHeartbeats 4000000 in
theorem c_M_anew (N : Nat) {l : Launch} {D : va_G} {cl : List vw_C} {cB cI cJ cZ cS : ClassId} {iM h0 : Nat} {ad : Nat → Nat} {u : MS} {sz : Nat} {v1 : Int32} {v2 : Int32} {x : MS × Unit} (hM : cl[iM]? = some (R_M, F_M, 171)) (hf : fm_M_anew N u v1 v2 = some x) : Met l y_M_anew (wd_ws y_M_anew b_M_anew 8 none) rm_M_anew (mPc D cl cB cI cJ cZ cS iM h0 ad u sz [.ref h0, .int v1, .int v2]) (mQv D cl cB cI cJ cZ cS iM h0 ad (mA cB cI cJ cZ cS iM h0 ad u sz) x) 0 0 (mA cB cI cJ cZ cS iM h0 ad u sz) :=
  mMet (by decide) rfl hM (Nat.le_of_ble_eq_true rfl) (fun p e s m below meth c ls hsz C0 hP hD hS hl => by
    have hR : rm_M_anew = rm_M_anew := rfl
    exact wb_M_anew_0 C0 hR N (gg_M_anew N N) (wg_M_anew C0 hR N N) u _ _ x hf s.heap [] hP hD hS ls (lv_sub hl [0, 1, 2] rfl))
abbrev b_M_joined : ByteArray := prog_14_method_146_code
def y_M_joined : MethodName := ⟨R_M, "joined", "()V"⟩
def w_M_joined : List Cond := wd_ws y_M_joined b_M_joined 3 none
set_option maxRecDepth 100000 in
theorem k_M_joined : Cond.code y_M_joined b_M_joined 3 none ∈ wd_tbl := wd_of 3205 rfl rfl
theorem d_M_joined_0 : decode b_M_joined 0 = .ok (.aload_n 0, 1) := by decide +kernel
theorem d_M_joined_1 : decode b_M_joined 1 = .ok (.aload_n 0, 1) := by decide +kernel
theorem d_M_joined_2 : decode b_M_joined 2 = .ok (.iconst 1, 1) := by decide +kernel
theorem d_M_joined_3 : decode b_M_joined 3 = .ok (.invokevirtual 848, 3) := by decide +kernel
theorem d_M_joined_6 : decode b_M_joined 6 = .ok (.invokevirtual 980, 3) := by decide +kernel
theorem d_M_joined_9 : decode b_M_joined 9 = .ok (.istore_n 1, 1) := by decide +kernel
theorem d_M_joined_10 : decode b_M_joined 10 = .ok (.iload_n 1, 1) := by decide +kernel
theorem d_M_joined_11 : decode b_M_joined 11 = .ok (.iconst (-1), 1) := by decide +kernel
theorem d_M_joined_12 : decode b_M_joined 12 = .ok (.if_icmp .eq 40, 3) := by decide +kernel
theorem d_M_joined_15 : decode b_M_joined 15 = .ok (.iload_n 1, 1) := by decide +kernel
theorem d_M_joined_16 : decode b_M_joined 16 = .ok (.ifCond .le 43, 3) := by decide +kernel
theorem d_M_joined_19 : decode b_M_joined 19 = .ok (.aload_n 0, 1) := by decide +kernel
theorem d_M_joined_20 : decode b_M_joined 20 = .ok (.aload_n 0, 1) := by decide +kernel
theorem d_M_joined_21 : decode b_M_joined 21 = .ok (.getfield 669, 3) := by decide +kernel
theorem d_M_joined_24 : decode b_M_joined 24 = .ok (.aload_n 0, 1) := by decide +kernel
theorem d_M_joined_25 : decode b_M_joined 25 = .ok (.iconst 1, 1) := by decide +kernel
theorem d_M_joined_26 : decode b_M_joined 26 = .ok (.invokevirtual 848, 3) := by decide +kernel
theorem d_M_joined_29 : decode b_M_joined 29 = .ok (.invokevirtual 770, 3) := by decide +kernel
theorem d_M_joined_32 : decode b_M_joined 32 = .ok (.aload_n 0, 1) := by decide +kernel
theorem d_M_joined_33 : decode b_M_joined 33 = .ok (.aload_n 0, 1) := by decide +kernel
theorem d_M_joined_34 : decode b_M_joined 34 = .ok (.getfield 669, 3) := by decide +kernel
theorem d_M_joined_37 : decode b_M_joined 37 = .ok (.aload_n 0, 1) := by decide +kernel
theorem d_M_joined_38 : decode b_M_joined 38 = .ok (.iconst 0, 1) := by decide +kernel
theorem d_M_joined_39 : decode b_M_joined 39 = .ok (.invokevirtual 848, 3) := by decide +kernel
theorem d_M_joined_42 : decode b_M_joined 42 = .ok (.invokevirtual 770, 3) := by decide +kernel
theorem d_M_joined_45 : decode b_M_joined 45 = .ok (.iadd, 1) := by decide +kernel
theorem d_M_joined_46 : decode b_M_joined 46 = .ok (.sipush 500, 3) := by decide +kernel
theorem d_M_joined_49 : decode b_M_joined 49 = .ok (.if_icmp .le 10, 3) := by decide +kernel
theorem d_M_joined_52 : decode b_M_joined 52 = .ok (.aload_n 0, 1) := by decide +kernel
theorem d_M_joined_53 : decode b_M_joined 53 = .ok (.bipush 11, 2) := by decide +kernel
theorem d_M_joined_55 : decode b_M_joined 55 = .ok (.invokevirtual 861, 3) := by decide +kernel
theorem d_M_joined_58 : decode b_M_joined 58 = .ok (.return_, 1) := by decide +kernel
theorem d_M_joined_59 : decode b_M_joined 59 = .ok (.iconst 0, 1) := by decide +kernel
theorem d_M_joined_60 : decode b_M_joined 60 = .ok (.istore_n 2, 1) := by decide +kernel
theorem d_M_joined_61 : decode b_M_joined 61 = .ok (.iload_n 2, 1) := by decide +kernel
theorem d_M_joined_62 : decode b_M_joined 62 = .ok (.iload_n 1, 1) := by decide +kernel
theorem d_M_joined_63 : decode b_M_joined 63 = .ok (.if_icmp .ge 16, 3) := by decide +kernel
theorem d_M_joined_66 : decode b_M_joined 66 = .ok (.aload_n 0, 1) := by decide +kernel
theorem d_M_joined_67 : decode b_M_joined 67 = .ok (.getfield 363, 3) := by decide +kernel
theorem d_M_joined_70 : decode b_M_joined 70 = .ok (.iload_n 2, 1) := by decide +kernel
theorem d_M_joined_71 : decode b_M_joined 71 = .ok (.iconst 0, 1) := by decide +kernel
theorem d_M_joined_72 : decode b_M_joined 72 = .ok (.bastore, 1) := by decide +kernel
theorem d_M_joined_73 : decode b_M_joined 73 = .ok (.iinc 2 1, 3) := by decide +kernel
theorem d_M_joined_76 : decode b_M_joined 76 = .ok (.goto (-15), 3) := by decide +kernel
theorem d_M_joined_79 : decode b_M_joined 79 = .ok (.aload_n 0, 1) := by decide +kernel
theorem d_M_joined_80 : decode b_M_joined 80 = .ok (.iconst 0, 1) := by decide +kernel
theorem d_M_joined_81 : decode b_M_joined 81 = .ok (.putfield 977, 3) := by decide +kernel
theorem d_M_joined_84 : decode b_M_joined 84 = .ok (.aload_n 0, 1) := by decide +kernel
theorem d_M_joined_85 : decode b_M_joined 85 = .ok (.iload_n 1, 1) := by decide +kernel
theorem d_M_joined_86 : decode b_M_joined 86 = .ok (.iconst 2, 1) := by decide +kernel
theorem d_M_joined_87 : decode b_M_joined 87 = .ok (.iload_n 1, 1) := by decide +kernel
theorem d_M_joined_88 : decode b_M_joined 88 = .ok (.imul, 1) := by decide +kernel
theorem d_M_joined_89 : decode b_M_joined 89 = .ok (.invokevirtual 983, 3) := by decide +kernel
theorem d_M_joined_92 : decode b_M_joined 92 = .ok (.return_, 1) := by decide +kernel
set_option maxRecDepth 100000 in
theorem hl_M_joined : Cond.methodLink R_M 971 y_M_joined ∈ wd_tbl := wd_of 3202 (by decide +kernel) rfl
set_option maxRecDepth 100000 in
theorem hi_M_joined : Cond.instanceMethod y_M_joined ∈ wd_tbl := wd_of 3204 (by decide +kernel) rfl
set_option maxRecDepth 100000 in
theorem hs_M_joined : Cond.selects R_M y_M_joined y_M_joined ∈ wd_tbl := wd_of 255 (by decide +kernel) rfl
theorem hd_M_joined : y_M_joined.cls = R_M ∧ y_M_joined.cls ≠ "java/lang/invoke/MethodHandle" ∧ y_M_joined.cls ≠ "java/lang/invoke/VarHandle" ∧ (parseMethodDescriptor y_M_joined.desc).map (fun d => d.parameters.length) = some 0 := by decide +kernel
def rm_M_joined : Room := { frames := 27, cells := 0, slots := 0, locals := 704 }
theorem rm_M_joined_M_top {R : Room} (hR : R = rm_M_joined) : (rm_M_top).frames + 1 ≤ R.frames ∧ 8 + (2 + 11) + (rm_M_top).locals ≤ R.locals := by subst hR; decide
theorem rm_M_joined_M_lengthOf {R : Room} (hR : R = rm_M_joined) : (rm_M_lengthOf).frames + 1 ≤ R.frames ∧ 8 + (6 + 11) + (rm_M_lengthOf).locals ≤ R.locals := by subst hR; decide
theorem rm_M_joined_M_copySize {R : Room} (hR : R = rm_M_joined) : (rm_M_copySize).frames + 1 ≤ R.frames ∧ 8 + (10 + 11) + (rm_M_copySize).locals ≤ R.locals := by subst hR; decide
theorem rm_M_joined_M_error {R : Room} (hR : R = rm_M_joined) : (rm_M_error).frames + 1 ≤ R.frames ∧ 8 + (2 + 11) + (rm_M_error).locals ≤ R.locals := by subst hR; decide
theorem rm_M_joined_M_anew {R : Room} (hR : R = rm_M_joined) : (rm_M_anew).frames + 1 ≤ R.frames ∧ 8 + (8 + 11) + (rm_M_anew).locals ≤ R.locals := by subst hR; decide
def fb_M_joined_61 (N : Nat) (G : (MS → Int32 → Int32 → Option (MS × Unit))) (u : MS) (v1 : Int32) (v2 : Int32) : Option (MS × Unit) := br (decide (v1 ≤ v2)) (lt (upI u 169 0) (fun w1 => bnd (fm_M_anew N w1 v1 (2 * v1)) (fun u2 _ => some (u2, ())))) (ck (inb v2 (ln 168)) (lt (upA u 168 (upd (u.2.2.1 168) v2.toNatClampNeg (vp_nar .boolean 0))) (fun w3 => G w3 (v1) ((v2 + 1)))))
set_option maxRecDepth 100000 in
set_option maxHeartbeats 4000000 in
theorem wb_M_joined_61 {p : Program} {l : Launch} {e : Env} {R : Room} {s : State} {m : MethodId} {args : Array Value} {below : List Frame} {meth : Method} {c : Code} {D : va_G} {cl : List vw_C} {cB cI cJ cZ cS : ClassId} {A : Nat → Prop} {iM h0 : Nat} {ad : Nat → Nat} (C0 : MCx p s m args meth c b_M_joined 3 none D cl cB cI cJ cZ cS iM A) (hR : R = rm_M_joined) (N : Nat) (G : (MS → Int32 → Int32 → Option (MS × Unit))) (hG : (∀ (u : MS) (v1 : Int32) (v2 : Int32) (x : MS × Unit), G u v1 v2 = some x → ∀ (H : Heap) (locs : List Loc), va_P D cl (wM cB cI cJ cZ cS iM h0 ad u) H → va_D A (wM cB cI cJ cZ cS iM h0 ad u) → va_S A s.heap H locs → ∀ (ls : Array Slot), lv_has ls 3 [(0, .ref h0), (1, .int v1), (2, .int v2)] → W p l e R s m args below meth c H locs 0 0 (MQ below (mQv D cl cB cI cJ cZ cS iM h0 ad A x) args s 0 0 A) (F0 m 61 ls []))) : ∀ (u : MS) (v1 : Int32) (v2 : Int32) (x : MS × Unit), fb_M_joined_61 N G u v1 v2 = some x → ∀ (H : Heap) (locs : List Loc), va_P D cl (wM cB cI cJ cZ cS iM h0 ad u) H → va_D A (wM cB cI cJ cZ cS iM h0 ad u) → va_S A s.heap H locs → ∀ (ls : Array Slot), lv_has ls 3 [(0, .ref h0), (1, .int v1), (2, .int v2)] → W p l e R s m args below meth c H locs 0 0 (MQ below (mQv D cl cB cI cJ cZ cS iM h0 ad A x) args s 0 0 A) (F0 m 61 ls []) := by
  intro u v1 v2 x hf H locs hP hD hS ls hl
  obtain ⟨hx, hb, hr, hml, ht, hown, hM, hK, hA, hlocks⟩ := id C0
  unfold fb_M_joined_61 at hf
  refine lv_iload_n hx hb d_M_joined_61 rfl (lv_at hl 2 rfl) ?_
  refine lv_iload_n hx hb d_M_joined_62 rfl (lv_at hl 1 rfl) ?_
  refine lv_icmp_ge (tgt := 79) hx hb d_M_joined_63 (by decide) (fun hc => ?_) (fun hc => ?_)
  · rw [br_p _ hc] at hf
    refine lv_aload_n hx hb d_M_joined_79 rfl (lv_at hl 0 rfl) ?_
    refine lv_iconst (v := 0) hx hb d_M_joined_80 (by decide) ?_
    refine up_I hx hb ht hown hM hK hP hD hS 169 (by decide) lk_M_169 (by decide) rfl rfl rfl d_M_joined_81 (fun H locs hP hD hS => ?_)
    obtain ⟨w1, e1, hf⟩ := lt_some hf
    rw [← e1] at hP hD
    refine lv_aload_n hx hb d_M_joined_84 rfl (lv_at hl 0 rfl) ?_
    refine lv_iload_n hx hb d_M_joined_85 rfl (lv_at hl 1 rfl) ?_
    refine lv_iconst (v := 2) hx hb d_M_joined_86 (by decide) ?_
    refine lv_iload_n hx hb d_M_joined_87 rfl (lv_at hl 1 rfl) ?_
    refine lv_imul hx hb d_M_joined_88 ?_
    obtain ⟨u2, r2, hc2, hf⟩ := bnd_some hf
    refine mV_v (As := [.int v1, .int (2 * v1)]) (rest := []) C0 hP hD hS (c_M_anew N hM hc2) k_M_anew hl_M_anew hi_M_anew hs_M_anew hini_M rfl rfl hd_M_anew rfl (rm_M_joined_M_anew hR) hl.1 (Nat.le_of_ble_eq_true rfl) d_M_joined_89 rfl ⟨Nat.zero_le _, Nat.zero_le _⟩ (fun H locs hP hD hS => ?_)
    exact mr_v C0 hP hD hS hf d_M_joined_92
  · rw [br_n _ hc] at hf
    refine lv_aload_n hx hb d_M_joined_66 rfl (lv_at hl 0 rfl) ?_
    refine ug_R hx hb ht hown hM hK hP 168 (by decide) lk_M_168 (by decide) d_M_joined_67 ?_
    refine lv_iload_n hx hb d_M_joined_70 rfl (lv_at hl 2 rfl) ?_
    refine lv_iconst (v := 0) hx hb d_M_joined_71 (by decide) ?_
    obtain ⟨hi9, hf⟩ := ck_some hf
    refine us_Z hx hb hK hP hD hS (by decide) (by decide) hi9 d_M_joined_72 (fun H locs hP hD hS => ?_)
    obtain ⟨w3, e3, hf⟩ := lt_some hf
    rw [← e3] at hP hD
    refine lv_iinc (v := (v2 + 1)) (lv' := [(2, .int (v2 + 1)), (0, .ref h0), (1, .int v1)]) hx hb d_M_joined_73 hl (k := 2) rfl rfl (by decide) rfl (fun ls hl => ?_)
    refine lv_goto (tgt := 61) hx hb d_M_joined_76 (by decide) ?_
    exact hG _ _ _ _ hf H locs hP hD hS ls (lv_sub hl [1, 2, 0] rfl)
def fb_M_joined_59 (N : Nat) (G : (MS → Int32 → Int32 → Option (MS × Unit))) (u : MS) (v1 : Int32) : Option (MS × Unit) := G u (v1) (0)
set_option maxRecDepth 100000 in
set_option maxHeartbeats 4000000 in
theorem wb_M_joined_59 {p : Program} {l : Launch} {e : Env} {R : Room} {s : State} {m : MethodId} {args : Array Value} {below : List Frame} {meth : Method} {c : Code} {D : va_G} {cl : List vw_C} {cB cI cJ cZ cS : ClassId} {A : Nat → Prop} {iM h0 : Nat} {ad : Nat → Nat} (C0 : MCx p s m args meth c b_M_joined 3 none D cl cB cI cJ cZ cS iM A) (hR : R = rm_M_joined) (N : Nat) (G : (MS → Int32 → Int32 → Option (MS × Unit))) (hG : (∀ (u : MS) (v1 : Int32) (v2 : Int32) (x : MS × Unit), G u v1 v2 = some x → ∀ (H : Heap) (locs : List Loc), va_P D cl (wM cB cI cJ cZ cS iM h0 ad u) H → va_D A (wM cB cI cJ cZ cS iM h0 ad u) → va_S A s.heap H locs → ∀ (ls : Array Slot), lv_has ls 3 [(0, .ref h0), (1, .int v1), (2, .int v2)] → W p l e R s m args below meth c H locs 0 0 (MQ below (mQv D cl cB cI cJ cZ cS iM h0 ad A x) args s 0 0 A) (F0 m 61 ls []))) : ∀ (u : MS) (v1 : Int32) (x : MS × Unit), fb_M_joined_59 N G u v1 = some x → ∀ (H : Heap) (locs : List Loc), va_P D cl (wM cB cI cJ cZ cS iM h0 ad u) H → va_D A (wM cB cI cJ cZ cS iM h0 ad u) → va_S A s.heap H locs → ∀ (ls : Array Slot), lv_has ls 3 [(0, .ref h0), (1, .int v1)] → W p l e R s m args below meth c H locs 0 0 (MQ below (mQv D cl cB cI cJ cZ cS iM h0 ad A x) args s 0 0 A) (F0 m 59 ls []) := by
  intro u v1 x hf H locs hP hD hS ls hl
  obtain ⟨hx, hb, hr, hml, ht, hown, hM, hK, hA, hlocks⟩ := id C0
  unfold fb_M_joined_59 at hf
  refine lv_iconst (v := 0) hx hb d_M_joined_59 (by decide) ?_
  refine lv_istore_n (lv' := [(2, .int 0), (0, .ref h0), (1, .int v1)]) hx hb d_M_joined_60 rfl hl (by decide) rfl (fun ls hl => ?_)
  exact hG _ _ _ _ hf H locs hP hD hS ls (lv_sub hl [1, 2, 0] rfl)
def fb_M_joined_52 (N : Nat) (G : (MS → Int32 → Int32 → Option (MS × Unit))) (u : MS) : Option (MS × Unit) := bnd (fr_M_error N u 11) (fun u4 _ => some (u4, ()))
set_option maxRecDepth 100000 in
set_option maxHeartbeats 4000000 in
theorem wb_M_joined_52 {p : Program} {l : Launch} {e : Env} {R : Room} {s : State} {m : MethodId} {args : Array Value} {below : List Frame} {meth : Method} {c : Code} {D : va_G} {cl : List vw_C} {cB cI cJ cZ cS : ClassId} {A : Nat → Prop} {iM h0 : Nat} {ad : Nat → Nat} (C0 : MCx p s m args meth c b_M_joined 3 none D cl cB cI cJ cZ cS iM A) (hR : R = rm_M_joined) (N : Nat) (G : (MS → Int32 → Int32 → Option (MS × Unit))) (hG : (∀ (u : MS) (v1 : Int32) (v2 : Int32) (x : MS × Unit), G u v1 v2 = some x → ∀ (H : Heap) (locs : List Loc), va_P D cl (wM cB cI cJ cZ cS iM h0 ad u) H → va_D A (wM cB cI cJ cZ cS iM h0 ad u) → va_S A s.heap H locs → ∀ (ls : Array Slot), lv_has ls 3 [(0, .ref h0), (1, .int v1), (2, .int v2)] → W p l e R s m args below meth c H locs 0 0 (MQ below (mQv D cl cB cI cJ cZ cS iM h0 ad A x) args s 0 0 A) (F0 m 61 ls []))) : ∀ (u : MS) (x : MS × Unit), fb_M_joined_52 N G u = some x → ∀ (H : Heap) (locs : List Loc), va_P D cl (wM cB cI cJ cZ cS iM h0 ad u) H → va_D A (wM cB cI cJ cZ cS iM h0 ad u) → va_S A s.heap H locs → ∀ (ls : Array Slot), lv_has ls 3 [(0, .ref h0)] → W p l e R s m args below meth c H locs 0 0 (MQ below (mQv D cl cB cI cJ cZ cS iM h0 ad A x) args s 0 0 A) (F0 m 52 ls []) := by
  intro u x hf H locs hP hD hS ls hl
  obtain ⟨hx, hb, hr, hml, ht, hown, hM, hK, hA, hlocks⟩ := id C0
  unfold fb_M_joined_52 at hf
  refine lv_aload_n hx hb d_M_joined_52 rfl (lv_at hl 0 rfl) ?_
  refine lv_bipush (v := 11) hx hb d_M_joined_53 (by decide) ?_
  obtain ⟨u4, r4, hc4, hf⟩ := bnd_some hf
  refine mV_v (As := [.int 11]) (rest := []) C0 hP hD hS (c_M_error N hM hc4) k_M_error hl_M_error hi_M_error hs_M_error hini_M rfl rfl hd_M_error rfl (rm_M_joined_M_error hR) hl.1 (Nat.le_of_ble_eq_true rfl) d_M_joined_55 rfl ⟨Nat.zero_le _, Nat.zero_le _⟩ (fun H locs hP hD hS => ?_)
  exact mr_v C0 hP hD hS hf d_M_joined_58
def fb_M_joined_0 (N : Nat) (G : (MS → Int32 → Int32 → Option (MS × Unit))) (u : MS) : Option (MS × Unit) := bnd (fm_M_top N u 1) (fun u5 r5 => bnd (fm_M_lengthOf N u5 r5) (fun u6 r6 => br (decide (r6 = (-1))) (fb_M_joined_52 N G u6) (br (decide (r6 ≤ 0)) (fb_M_joined_59 N G u6 (r6)) (bnd (fm_M_top N u6 1) (fun u7 r7 => bnd (fm_M_copySize N u7 (u6.1 133) r7) (fun u8 r8 => bnd (fm_M_top N u8 0) (fun u9 r9 => bnd (fm_M_copySize N u9 (u8.1 133) r9) (fun u10 r10 => br (decide ((r8 + r10) ≤ 500)) (fb_M_joined_59 N G u10 (r6)) (fb_M_joined_52 N G u10)))))))))
set_option maxRecDepth 100000 in
set_option maxHeartbeats 4000000 in
theorem wb_M_joined_0 {p : Program} {l : Launch} {e : Env} {R : Room} {s : State} {m : MethodId} {args : Array Value} {below : List Frame} {meth : Method} {c : Code} {D : va_G} {cl : List vw_C} {cB cI cJ cZ cS : ClassId} {A : Nat → Prop} {iM h0 : Nat} {ad : Nat → Nat} (C0 : MCx p s m args meth c b_M_joined 3 none D cl cB cI cJ cZ cS iM A) (hR : R = rm_M_joined) (N : Nat) (G : (MS → Int32 → Int32 → Option (MS × Unit))) (hG : (∀ (u : MS) (v1 : Int32) (v2 : Int32) (x : MS × Unit), G u v1 v2 = some x → ∀ (H : Heap) (locs : List Loc), va_P D cl (wM cB cI cJ cZ cS iM h0 ad u) H → va_D A (wM cB cI cJ cZ cS iM h0 ad u) → va_S A s.heap H locs → ∀ (ls : Array Slot), lv_has ls 3 [(0, .ref h0), (1, .int v1), (2, .int v2)] → W p l e R s m args below meth c H locs 0 0 (MQ below (mQv D cl cB cI cJ cZ cS iM h0 ad A x) args s 0 0 A) (F0 m 61 ls []))) : ∀ (u : MS) (x : MS × Unit), fb_M_joined_0 N G u = some x → ∀ (H : Heap) (locs : List Loc), va_P D cl (wM cB cI cJ cZ cS iM h0 ad u) H → va_D A (wM cB cI cJ cZ cS iM h0 ad u) → va_S A s.heap H locs → ∀ (ls : Array Slot), lv_has ls 3 [(0, .ref h0)] → W p l e R s m args below meth c H locs 0 0 (MQ below (mQv D cl cB cI cJ cZ cS iM h0 ad A x) args s 0 0 A) (F0 m 0 ls []) := by
  intro u x hf H locs hP hD hS ls hl
  obtain ⟨hx, hb, hr, hml, ht, hown, hM, hK, hA, hlocks⟩ := id C0
  unfold fb_M_joined_0 at hf
  refine lv_aload_n hx hb d_M_joined_0 rfl (lv_at hl 0 rfl) ?_
  refine lv_aload_n hx hb d_M_joined_1 rfl (lv_at hl 0 rfl) ?_
  refine lv_iconst (v := 1) hx hb d_M_joined_2 (by decide) ?_
  obtain ⟨u5, r5, hc5, hf⟩ := bnd_some hf
  refine mV_l (As := [.int 1]) (rest := [.ref h0]) C0 hP hD hS (c_M_top N hM hc5) k_M_top hl_M_top hi_M_top hs_M_top hini_M rfl rfl hd_M_top rfl (rm_M_joined_M_top hR) hl.1 (Nat.le_of_ble_eq_true rfl) d_M_joined_3 rfl ⟨Nat.zero_le _, Nat.zero_le _⟩ (fun H locs hP hD hS => ?_)
  obtain ⟨u6, r6, hc6, hf⟩ := bnd_some hf
  refine mV_i (As := [.long r5]) (rest := []) C0 hP hD hS (c_M_lengthOf N hM hc6) k_M_lengthOf hl_M_lengthOf hi_M_lengthOf hs_M_lengthOf hini_M rfl rfl hd_M_lengthOf rfl (rm_M_joined_M_lengthOf hR) hl.1 (Nat.le_of_ble_eq_true rfl) d_M_joined_6 rfl ⟨Nat.zero_le _, Nat.zero_le _⟩ (fun H locs hP hD hS => ?_)
  refine lv_istore_n (lv' := [(1, .int r6), (0, .ref h0)]) hx hb d_M_joined_9 rfl hl (by decide) rfl (fun ls hl => ?_)
  refine lv_iload_n hx hb d_M_joined_10 rfl (lv_at hl 0 rfl) ?_
  refine lv_iconst (v := (-1)) hx hb d_M_joined_11 (by decide) ?_
  refine lv_icmp_eq (tgt := 52) hx hb d_M_joined_12 (by decide) (fun hc => ?_) (fun hc => ?_)
  · rw [br_p _ hc] at hf
    exact wb_M_joined_52 C0 hR N G hG _ _ hf H locs hP hD hS ls (lv_sub hl [1] rfl)
  · rw [br_n _ hc] at hf
    refine lv_iload_n hx hb d_M_joined_15 rfl (lv_at hl 0 rfl) ?_
    refine lv_if_le (tgt := 59) hx hb d_M_joined_16 (by decide) (fun hc => ?_) (fun hc => ?_)
    · rw [br_p _ hc] at hf
      exact wb_M_joined_59 C0 hR N G hG _ _ _ hf H locs hP hD hS ls (lv_sub hl [1, 0] rfl)
    · rw [br_n _ hc] at hf
      refine lv_aload_n hx hb d_M_joined_19 rfl (lv_at hl 1 rfl) ?_
      refine lv_aload_n hx hb d_M_joined_20 rfl (lv_at hl 1 rfl) ?_
      refine ug_I hx hb ht hown hM hK hP 133 (by decide) lk_M_133 (by decide) d_M_joined_21 ?_
      refine lv_aload_n hx hb d_M_joined_24 rfl (lv_at hl 1 rfl) ?_
      refine lv_iconst (v := 1) hx hb d_M_joined_25 (by decide) ?_
      obtain ⟨u7, r7, hc7, hf⟩ := bnd_some hf
      refine mV_l (As := [.int 1]) (rest := [.int (u6.1 133), .ref h0]) C0 hP hD hS (c_M_top N hM hc7) k_M_top hl_M_top hi_M_top hs_M_top hini_M rfl rfl hd_M_top rfl (rm_M_joined_M_top hR) hl.1 (Nat.le_of_ble_eq_true rfl) d_M_joined_26 rfl ⟨Nat.zero_le _, Nat.zero_le _⟩ (fun H locs hP hD hS => ?_)
      obtain ⟨u8, r8, hc8, hf⟩ := bnd_some hf
      refine mV_i (As := [.int (u6.1 133), .long r7]) (rest := []) C0 hP hD hS (c_M_copySize N hM hc8) k_M_copySize hl_M_copySize hi_M_copySize hs_M_copySize hini_M rfl rfl hd_M_copySize rfl (rm_M_joined_M_copySize hR) hl.1 (Nat.le_of_ble_eq_true rfl) d_M_joined_29 rfl ⟨Nat.zero_le _, Nat.zero_le _⟩ (fun H locs hP hD hS => ?_)
      refine lv_aload_n hx hb d_M_joined_32 rfl (lv_at hl 1 rfl) ?_
      refine lv_aload_n hx hb d_M_joined_33 rfl (lv_at hl 1 rfl) ?_
      refine ug_I hx hb ht hown hM hK hP 133 (by decide) lk_M_133 (by decide) d_M_joined_34 ?_
      refine lv_aload_n hx hb d_M_joined_37 rfl (lv_at hl 1 rfl) ?_
      refine lv_iconst (v := 0) hx hb d_M_joined_38 (by decide) ?_
      obtain ⟨u9, r9, hc9, hf⟩ := bnd_some hf
      refine mV_l (As := [.int 0]) (rest := [.int (u8.1 133), .ref h0, .int r8]) C0 hP hD hS (c_M_top N hM hc9) k_M_top hl_M_top hi_M_top hs_M_top hini_M rfl rfl hd_M_top rfl (rm_M_joined_M_top hR) hl.1 (Nat.le_of_ble_eq_true rfl) d_M_joined_39 rfl ⟨Nat.zero_le _, Nat.zero_le _⟩ (fun H locs hP hD hS => ?_)
      obtain ⟨u10, r10, hc10, hf⟩ := bnd_some hf
      refine mV_i (As := [.int (u8.1 133), .long r9]) (rest := [.int r8]) C0 hP hD hS (c_M_copySize N hM hc10) k_M_copySize hl_M_copySize hi_M_copySize hs_M_copySize hini_M rfl rfl hd_M_copySize rfl (rm_M_joined_M_copySize hR) hl.1 (Nat.le_of_ble_eq_true rfl) d_M_joined_42 rfl ⟨Nat.zero_le _, Nat.zero_le _⟩ (fun H locs hP hD hS => ?_)
      refine lv_iadd hx hb d_M_joined_45 ?_
      refine lv_sipush (v := 500) hx hb d_M_joined_46 (by decide) ?_
      refine lv_icmp_le (tgt := 59) hx hb d_M_joined_49 (by decide) (fun hc => ?_) (fun hc => ?_)
      · rw [br_p _ hc] at hf
        exact wb_M_joined_59 C0 hR N G hG _ _ _ hf H locs hP hD hS ls (lv_sub hl [1, 0] rfl)
      · rw [br_n _ hc] at hf
        exact wb_M_joined_52 C0 hR N G hG _ _ hf H locs hP hD hS ls (lv_sub hl [1] rfl)
def gg_M_joined (N : Nat) : Nat → ((MS → Int32 → Int32 → Option (MS × Unit)))
  | 0 => fun _ _ _ => none
  | n + 1 => fb_M_joined_61 N (gg_M_joined N n)
theorem wg_M_joined {p : Program} {l : Launch} {e : Env} {R : Room} {s : State} {m : MethodId} {args : Array Value} {below : List Frame} {meth : Method} {c : Code} {D : va_G} {cl : List vw_C} {cB cI cJ cZ cS : ClassId} {A : Nat → Prop} {iM h0 : Nat} {ad : Nat → Nat} (C0 : MCx p s m args meth c b_M_joined 3 none D cl cB cI cJ cZ cS iM A) (hR : R = rm_M_joined) (N : Nat) : ∀ n : Nat, (∀ (u : MS) (v1 : Int32) (v2 : Int32) (x : MS × Unit), gg_M_joined N n u v1 v2 = some x → ∀ (H : Heap) (locs : List Loc), va_P D cl (wM cB cI cJ cZ cS iM h0 ad u) H → va_D A (wM cB cI cJ cZ cS iM h0 ad u) → va_S A s.heap H locs → ∀ (ls : Array Slot), lv_has ls 3 [(0, .ref h0), (1, .int v1), (2, .int v2)] → W p l e R s m args below meth c H locs 0 0 (MQ below (mQv D cl cB cI cJ cZ cS iM h0 ad A x) args s 0 0 A) (F0 m 61 ls []))
  | 0 => (fun u v1 v2 x hf => by cases hf)
  | n + 1 => wb_M_joined_61 C0 hR N (gg_M_joined N n) (wg_M_joined C0 hR N n)
def fm_M_joined (N : Nat) (u : MS) : Option (MS × Unit) := fb_M_joined_0 N (gg_M_joined N N) u
set_option maxRecDepth 100000 in
set_option maxHeartbeats 4000000 in
theorem c_M_joined (N : Nat) {l : Launch} {D : va_G} {cl : List vw_C} {cB cI cJ cZ cS : ClassId} {iM h0 : Nat} {ad : Nat → Nat} {u : MS} {sz : Nat} {x : MS × Unit} (hM : cl[iM]? = some (R_M, F_M, 171)) (hf : fm_M_joined N u = some x) : Met l y_M_joined (wd_ws y_M_joined b_M_joined 3 none) rm_M_joined (mPc D cl cB cI cJ cZ cS iM h0 ad u sz [.ref h0]) (mQv D cl cB cI cJ cZ cS iM h0 ad (mA cB cI cJ cZ cS iM h0 ad u sz) x) 0 0 (mA cB cI cJ cZ cS iM h0 ad u sz) :=
  mMet (by decide) rfl hM (Nat.le_of_ble_eq_true rfl) (fun p e s m below meth c ls hsz C0 hP hD hS hl => by
    have hR : rm_M_joined = rm_M_joined := rfl
    exact wb_M_joined_0 C0 hR N (gg_M_joined N N) (wg_M_joined C0 hR N N) u x hf s.heap [] hP hD hS ls (lv_sub hl [0] rfl))
abbrev b_M_lessened : ByteArray := prog_14_method_147_code
def y_M_lessened : MethodName := ⟨R_M, "lessened", "()V"⟩
def w_M_lessened : List Cond := wd_ws y_M_lessened b_M_lessened 14 none
set_option maxRecDepth 100000 in
theorem k_M_lessened : Cond.code y_M_lessened b_M_lessened 14 none ∈ wd_tbl := wd_of 3213 rfl rfl
theorem d_M_lessened_0 : decode b_M_lessened 0 = .ok (.aload_n 0, 1) := by decide +kernel
theorem d_M_lessened_1 : decode b_M_lessened 1 = .ok (.aload_n 0, 1) := by decide +kernel
theorem d_M_lessened_2 : decode b_M_lessened 2 = .ok (.iconst 1, 1) := by decide +kernel
theorem d_M_lessened_3 : decode b_M_lessened 3 = .ok (.invokevirtual 848, 3) := by decide +kernel
theorem d_M_lessened_6 : decode b_M_lessened 6 = .ok (.invokevirtual 980, 3) := by decide +kernel
theorem d_M_lessened_9 : decode b_M_lessened 9 = .ok (.istore_n 1, 1) := by decide +kernel
theorem d_M_lessened_10 : decode b_M_lessened 10 = .ok (.aload_n 0, 1) := by decide +kernel
theorem d_M_lessened_11 : decode b_M_lessened 11 = .ok (.aload_n 0, 1) := by decide +kernel
theorem d_M_lessened_12 : decode b_M_lessened 12 = .ok (.iconst 0, 1) := by decide +kernel
theorem d_M_lessened_13 : decode b_M_lessened 13 = .ok (.invokevirtual 848, 3) := by decide +kernel
theorem d_M_lessened_16 : decode b_M_lessened 16 = .ok (.invokevirtual 980, 3) := by decide +kernel
theorem d_M_lessened_19 : decode b_M_lessened 19 = .ok (.istore_n 2, 1) := by decide +kernel
theorem d_M_lessened_20 : decode b_M_lessened 20 = .ok (.iload_n 1, 1) := by decide +kernel
theorem d_M_lessened_21 : decode b_M_lessened 21 = .ok (.iconst (-1), 1) := by decide +kernel
theorem d_M_lessened_22 : decode b_M_lessened 22 = .ok (.if_icmp .eq 8, 3) := by decide +kernel
theorem d_M_lessened_25 : decode b_M_lessened 25 = .ok (.iload_n 2, 1) := by decide +kernel
theorem d_M_lessened_26 : decode b_M_lessened 26 = .ok (.iconst (-1), 1) := by decide +kernel
theorem d_M_lessened_27 : decode b_M_lessened 27 = .ok (.if_icmp .ne 10, 3) := by decide +kernel
theorem d_M_lessened_30 : decode b_M_lessened 30 = .ok (.aload_n 0, 1) := by decide +kernel
theorem d_M_lessened_31 : decode b_M_lessened 31 = .ok (.bipush 11, 2) := by decide +kernel
theorem d_M_lessened_33 : decode b_M_lessened 33 = .ok (.invokevirtual 861, 3) := by decide +kernel
theorem d_M_lessened_36 : decode b_M_lessened 36 = .ok (.return_, 1) := by decide +kernel
theorem d_M_lessened_37 : decode b_M_lessened 37 = .ok (.iconst 0, 1) := by decide +kernel
theorem d_M_lessened_38 : decode b_M_lessened 38 = .ok (.istore_n 3, 1) := by decide +kernel
theorem d_M_lessened_39 : decode b_M_lessened 39 = .ok (.iload_n 3, 1) := by decide +kernel
theorem d_M_lessened_40 : decode b_M_lessened 40 = .ok (.iload_n 1, 1) := by decide +kernel
theorem d_M_lessened_41 : decode b_M_lessened 41 = .ok (.if_icmp .ge 16, 3) := by decide +kernel
theorem d_M_lessened_44 : decode b_M_lessened 44 = .ok (.aload_n 0, 1) := by decide +kernel
theorem d_M_lessened_45 : decode b_M_lessened 45 = .ok (.getfield 363, 3) := by decide +kernel
theorem d_M_lessened_48 : decode b_M_lessened 48 = .ok (.iload_n 3, 1) := by decide +kernel
theorem d_M_lessened_49 : decode b_M_lessened 49 = .ok (.iconst 0, 1) := by decide +kernel
theorem d_M_lessened_50 : decode b_M_lessened 50 = .ok (.bastore, 1) := by decide +kernel
theorem d_M_lessened_51 : decode b_M_lessened 51 = .ok (.iinc 3 1, 3) := by decide +kernel
theorem d_M_lessened_54 : decode b_M_lessened 54 = .ok (.goto (-15), 3) := by decide +kernel
theorem d_M_lessened_57 : decode b_M_lessened 57 = .ok (.iconst (-1), 1) := by decide +kernel
theorem d_M_lessened_58 : decode b_M_lessened 58 = .ok (.istore_n 3, 1) := by decide +kernel
theorem d_M_lessened_59 : decode b_M_lessened 59 = .ok (.iconst 0, 1) := by decide +kernel
theorem d_M_lessened_60 : decode b_M_lessened 60 = .ok (.istore 4, 2) := by decide +kernel
theorem d_M_lessened_62 : decode b_M_lessened 62 = .ok (.aload_n 0, 1) := by decide +kernel
theorem d_M_lessened_63 : decode b_M_lessened 63 = .ok (.iconst 0, 1) := by decide +kernel
theorem d_M_lessened_64 : decode b_M_lessened 64 = .ok (.invokevirtual 848, 3) := by decide +kernel
theorem d_M_lessened_67 : decode b_M_lessened 67 = .ok (.lstore 5, 2) := by decide +kernel
theorem d_M_lessened_69 : decode b_M_lessened 69 = .ok (.iconst 0, 1) := by decide +kernel
theorem d_M_lessened_70 : decode b_M_lessened 70 = .ok (.istore 7, 2) := by decide +kernel
theorem d_M_lessened_72 : decode b_M_lessened 72 = .ok (.iload 7, 2) := by decide +kernel
theorem d_M_lessened_74 : decode b_M_lessened 74 = .ok (.iload_n 2, 1) := by decide +kernel
theorem d_M_lessened_75 : decode b_M_lessened 75 = .ok (.if_icmp .ge 144, 3) := by decide +kernel
theorem d_M_lessened_78 : decode b_M_lessened 78 = .ok (.aload_n 0, 1) := by decide +kernel
theorem d_M_lessened_79 : decode b_M_lessened 79 = .ok (.aload_n 0, 1) := by decide +kernel
theorem d_M_lessened_80 : decode b_M_lessened 80 = .ok (.getfield 669, 3) := by decide +kernel
theorem d_M_lessened_83 : decode b_M_lessened 83 = .ok (.lload 5, 2) := by decide +kernel
theorem d_M_lessened_85 : decode b_M_lessened 85 = .ok (.invokestatic 680, 3) := by decide +kernel
theorem d_M_lessened_88 : decode b_M_lessened 88 = .ok (.invokevirtual 683, 3) := by decide +kernel
theorem d_M_lessened_91 : decode b_M_lessened 91 = .ok (.lstore 8, 2) := by decide +kernel
theorem d_M_lessened_93 : decode b_M_lessened 93 = .ok (.aload_n 0, 1) := by decide +kernel
theorem d_M_lessened_94 : decode b_M_lessened 94 = .ok (.aload_n 0, 1) := by decide +kernel
theorem d_M_lessened_95 : decode b_M_lessened 95 = .ok (.getfield 669, 3) := by decide +kernel
theorem d_M_lessened_98 : decode b_M_lessened 98 = .ok (.lload 5, 2) := by decide +kernel
theorem d_M_lessened_100 : decode b_M_lessened 100 = .ok (.invokestatic 680, 3) := by decide +kernel
theorem d_M_lessened_103 : decode b_M_lessened 103 = .ok (.iconst 1, 1) := by decide +kernel
theorem d_M_lessened_104 : decode b_M_lessened 104 = .ok (.iadd, 1) := by decide +kernel
theorem d_M_lessened_105 : decode b_M_lessened 105 = .ok (.invokevirtual 683, 3) := by decide +kernel
theorem d_M_lessened_108 : decode b_M_lessened 108 = .ok (.lstore 5, 2) := by decide +kernel
theorem d_M_lessened_110 : decode b_M_lessened 110 = .ok (.aload_n 0, 1) := by decide +kernel
theorem d_M_lessened_111 : decode b_M_lessened 111 = .ok (.iconst 1, 1) := by decide +kernel
theorem d_M_lessened_112 : decode b_M_lessened 112 = .ok (.invokevirtual 848, 3) := by decide +kernel
theorem d_M_lessened_115 : decode b_M_lessened 115 = .ok (.lstore 10, 2) := by decide +kernel
theorem d_M_lessened_117 : decode b_M_lessened 117 = .ok (.iconst 0, 1) := by decide +kernel
theorem d_M_lessened_118 : decode b_M_lessened 118 = .ok (.istore 12, 2) := by decide +kernel
theorem d_M_lessened_120 : decode b_M_lessened 120 = .ok (.iconst 1, 1) := by decide +kernel
theorem d_M_lessened_121 : decode b_M_lessened 121 = .ok (.istore 13, 2) := by decide +kernel
theorem d_M_lessened_123 : decode b_M_lessened 123 = .ok (.iload 12, 2) := by decide +kernel
theorem d_M_lessened_125 : decode b_M_lessened 125 = .ok (.iload_n 1, 1) := by decide +kernel
theorem d_M_lessened_126 : decode b_M_lessened 126 = .ok (.if_icmp .ge 87, 3) := by decide +kernel
theorem d_M_lessened_129 : decode b_M_lessened 129 = .ok (.iload 13, 2) := by decide +kernel
theorem d_M_lessened_131 : decode b_M_lessened 131 = .ok (.ifCond .eq 82, 3) := by decide +kernel
theorem d_M_lessened_134 : decode b_M_lessened 134 = .ok (.aload_n 0, 1) := by decide +kernel
theorem d_M_lessened_135 : decode b_M_lessened 135 = .ok (.getfield 363, 3) := by decide +kernel
theorem d_M_lessened_138 : decode b_M_lessened 138 = .ok (.iload 12, 2) := by decide +kernel
theorem d_M_lessened_140 : decode b_M_lessened 140 = .ok (.baload, 1) := by decide +kernel
theorem d_M_lessened_141 : decode b_M_lessened 141 = .ok (.ifCond .ne 49, 3) := by decide +kernel
theorem d_M_lessened_144 : decode b_M_lessened 144 = .ok (.aload_n 0, 1) := by decide +kernel
theorem d_M_lessened_145 : decode b_M_lessened 145 = .ok (.aload_n 0, 1) := by decide +kernel
theorem d_M_lessened_146 : decode b_M_lessened 146 = .ok (.aload_n 0, 1) := by decide +kernel
theorem d_M_lessened_147 : decode b_M_lessened 147 = .ok (.getfield 669, 3) := by decide +kernel
theorem d_M_lessened_150 : decode b_M_lessened 150 = .ok (.lload 10, 2) := by decide +kernel
theorem d_M_lessened_152 : decode b_M_lessened 152 = .ok (.invokestatic 680, 3) := by decide +kernel
theorem d_M_lessened_155 : decode b_M_lessened 155 = .ok (.invokevirtual 683, 3) := by decide +kernel
theorem d_M_lessened_158 : decode b_M_lessened 158 = .ok (.lload 8, 2) := by decide +kernel
theorem d_M_lessened_160 : decode b_M_lessened 160 = .ok (.invokevirtual 867, 3) := by decide +kernel
theorem d_M_lessened_163 : decode b_M_lessened 163 = .ok (.ifCond .ne 27, 3) := by decide +kernel
theorem d_M_lessened_166 : decode b_M_lessened 166 = .ok (.aload_n 0, 1) := by decide +kernel
theorem d_M_lessened_167 : decode b_M_lessened 167 = .ok (.getfield 363, 3) := by decide +kernel
theorem d_M_lessened_170 : decode b_M_lessened 170 = .ok (.iload 12, 2) := by decide +kernel
theorem d_M_lessened_172 : decode b_M_lessened 172 = .ok (.iconst 1, 1) := by decide +kernel
theorem d_M_lessened_173 : decode b_M_lessened 173 = .ok (.bastore, 1) := by decide +kernel
theorem d_M_lessened_174 : decode b_M_lessened 174 = .ok (.iload 12, 2) := by decide +kernel
theorem d_M_lessened_176 : decode b_M_lessened 176 = .ok (.iload_n 3, 1) := by decide +kernel
theorem d_M_lessened_177 : decode b_M_lessened 177 = .ok (.if_icmp .le 8, 3) := by decide +kernel
theorem d_M_lessened_180 : decode b_M_lessened 180 = .ok (.iload 12, 2) := by decide +kernel
theorem d_M_lessened_182 : decode b_M_lessened 182 = .ok (.goto 4, 3) := by decide +kernel
theorem d_M_lessened_185 : decode b_M_lessened 185 = .ok (.iload_n 3, 1) := by decide +kernel
theorem d_M_lessened_186 : decode b_M_lessened 186 = .ok (.istore_n 3, 1) := by decide +kernel
theorem d_M_lessened_187 : decode b_M_lessened 187 = .ok (.iconst 0, 1) := by decide +kernel
theorem d_M_lessened_188 : decode b_M_lessened 188 = .ok (.istore 13, 2) := by decide +kernel
theorem d_M_lessened_190 : decode b_M_lessened 190 = .ok (.aload_n 0, 1) := by decide +kernel
theorem d_M_lessened_191 : decode b_M_lessened 191 = .ok (.aload_n 0, 1) := by decide +kernel
theorem d_M_lessened_192 : decode b_M_lessened 192 = .ok (.getfield 669, 3) := by decide +kernel
theorem d_M_lessened_195 : decode b_M_lessened 195 = .ok (.lload 10, 2) := by decide +kernel
theorem d_M_lessened_197 : decode b_M_lessened 197 = .ok (.invokestatic 680, 3) := by decide +kernel
theorem d_M_lessened_200 : decode b_M_lessened 200 = .ok (.iconst 1, 1) := by decide +kernel
theorem d_M_lessened_201 : decode b_M_lessened 201 = .ok (.iadd, 1) := by decide +kernel
theorem d_M_lessened_202 : decode b_M_lessened 202 = .ok (.invokevirtual 683, 3) := by decide +kernel
theorem d_M_lessened_205 : decode b_M_lessened 205 = .ok (.lstore 10, 2) := by decide +kernel
theorem d_M_lessened_207 : decode b_M_lessened 207 = .ok (.iinc 12 1, 3) := by decide +kernel
theorem d_M_lessened_210 : decode b_M_lessened 210 = .ok (.goto (-87), 3) := by decide +kernel
theorem d_M_lessened_213 : decode b_M_lessened 213 = .ok (.iinc 7 1, 3) := by decide +kernel
theorem d_M_lessened_216 : decode b_M_lessened 216 = .ok (.goto (-144), 3) := by decide +kernel
theorem d_M_lessened_219 : decode b_M_lessened 219 = .ok (.iconst 0, 1) := by decide +kernel
theorem d_M_lessened_220 : decode b_M_lessened 220 = .ok (.istore 7, 2) := by decide +kernel
theorem d_M_lessened_222 : decode b_M_lessened 222 = .ok (.iload 7, 2) := by decide +kernel
theorem d_M_lessened_224 : decode b_M_lessened 224 = .ok (.iload_n 3, 1) := by decide +kernel
theorem d_M_lessened_225 : decode b_M_lessened 225 = .ok (.if_icmp .gt 30, 3) := by decide +kernel
theorem d_M_lessened_228 : decode b_M_lessened 228 = .ok (.aload_n 0, 1) := by decide +kernel
theorem d_M_lessened_229 : decode b_M_lessened 229 = .ok (.getfield 363, 3) := by decide +kernel
theorem d_M_lessened_232 : decode b_M_lessened 232 = .ok (.iload 7, 2) := by decide +kernel
theorem d_M_lessened_234 : decode b_M_lessened 234 = .ok (.baload, 1) := by decide +kernel
theorem d_M_lessened_235 : decode b_M_lessened 235 = .ok (.ifCond .eq 8, 3) := by decide +kernel
theorem d_M_lessened_238 : decode b_M_lessened 238 = .ok (.iload 4, 2) := by decide +kernel
theorem d_M_lessened_240 : decode b_M_lessened 240 = .ok (.goto 7, 3) := by decide +kernel
theorem d_M_lessened_243 : decode b_M_lessened 243 = .ok (.iload 4, 2) := by decide +kernel
theorem d_M_lessened_245 : decode b_M_lessened 245 = .ok (.iconst 1, 1) := by decide +kernel
theorem d_M_lessened_246 : decode b_M_lessened 246 = .ok (.iadd, 1) := by decide +kernel
theorem d_M_lessened_247 : decode b_M_lessened 247 = .ok (.istore 4, 2) := by decide +kernel
theorem d_M_lessened_249 : decode b_M_lessened 249 = .ok (.iinc 7 1, 3) := by decide +kernel
theorem d_M_lessened_252 : decode b_M_lessened 252 = .ok (.goto (-30), 3) := by decide +kernel
theorem d_M_lessened_255 : decode b_M_lessened 255 = .ok (.aload_n 0, 1) := by decide +kernel
theorem d_M_lessened_256 : decode b_M_lessened 256 = .ok (.iconst 1, 1) := by decide +kernel
theorem d_M_lessened_257 : decode b_M_lessened 257 = .ok (.putfield 977, 3) := by decide +kernel
theorem d_M_lessened_260 : decode b_M_lessened 260 = .ok (.aload_n 0, 1) := by decide +kernel
theorem d_M_lessened_261 : decode b_M_lessened 261 = .ok (.iload_n 3, 1) := by decide +kernel
theorem d_M_lessened_262 : decode b_M_lessened 262 = .ok (.iconst 1, 1) := by decide +kernel
theorem d_M_lessened_263 : decode b_M_lessened 263 = .ok (.iadd, 1) := by decide +kernel
theorem d_M_lessened_264 : decode b_M_lessened 264 = .ok (.iconst 2, 1) := by decide +kernel
theorem d_M_lessened_265 : decode b_M_lessened 265 = .ok (.iload 4, 2) := by decide +kernel
theorem d_M_lessened_267 : decode b_M_lessened 267 = .ok (.imul, 1) := by decide +kernel
theorem d_M_lessened_268 : decode b_M_lessened 268 = .ok (.invokevirtual 983, 3) := by decide +kernel
theorem d_M_lessened_271 : decode b_M_lessened 271 = .ok (.return_, 1) := by decide +kernel
set_option maxRecDepth 100000 in
theorem hl_M_lessened : Cond.methodLink R_M 974 y_M_lessened ∈ wd_tbl := wd_of 3210 (by decide +kernel) rfl
set_option maxRecDepth 100000 in
theorem hi_M_lessened : Cond.instanceMethod y_M_lessened ∈ wd_tbl := wd_of 3212 (by decide +kernel) rfl
set_option maxRecDepth 100000 in
theorem hs_M_lessened : Cond.selects R_M y_M_lessened y_M_lessened ∈ wd_tbl := wd_of 257 (by decide +kernel) rfl
theorem hd_M_lessened : y_M_lessened.cls = R_M ∧ y_M_lessened.cls ≠ "java/lang/invoke/MethodHandle" ∧ y_M_lessened.cls ≠ "java/lang/invoke/VarHandle" ∧ (parseMethodDescriptor y_M_lessened.desc).map (fun d => d.parameters.length) = some 0 := by decide +kernel
def rm_M_lessened : Room := { frames := 27, cells := 0, slots := 0, locals := 704 }
theorem rm_M_lessened_M_top {R : Room} (hR : R = rm_M_lessened) : (rm_M_top).frames + 1 ≤ R.frames ∧ 8 + (2 + 11) + (rm_M_top).locals ≤ R.locals := by subst hR; decide
theorem rm_M_lessened_M_lengthOf {R : Room} (hR : R = rm_M_lessened) : (rm_M_lengthOf).frames + 1 ≤ R.frames ∧ 8 + (6 + 11) + (rm_M_lengthOf).locals ≤ R.locals := by subst hR; decide
theorem rm_M_lessened_M_error {R : Room} (hR : R = rm_M_lessened) : (rm_M_error).frames + 1 ≤ R.frames ∧ 8 + (2 + 11) + (rm_M_error).locals ≤ R.locals := by subst hR; decide
theorem rm_M_lessened_M_valueOf {R : Room} (hR : R = rm_M_lessened) : (rm_M_valueOf).frames + 1 ≤ R.frames ∧ 8 + (2 + 11) + (rm_M_valueOf).locals ≤ R.locals := by subst hR; decide
theorem rm_M_lessened_M_cell {R : Room} (hR : R = rm_M_lessened) : (rm_M_cell).frames + 1 ≤ R.frames ∧ 8 + (3 + 11) + (rm_M_cell).locals ≤ R.locals := by subst hR; decide
theorem rm_M_lessened_M_order {R : Room} (hR : R = rm_M_lessened) : (rm_M_order).frames + 1 ≤ R.frames ∧ 8 + (13 + 11) + (rm_M_order).locals ≤ R.locals := by subst hR; decide
theorem rm_M_lessened_M_anew {R : Room} (hR : R = rm_M_lessened) : (rm_M_anew).frames + 1 ≤ R.frames ∧ 8 + (8 + 11) + (rm_M_anew).locals ≤ R.locals := by subst hR; decide
def fb_M_lessened_247 (N : Nat) (G : (MS → Int32 → Int32 → Int32 → Option (MS × Unit)) × (MS → Int32 → Int32 → Int32 → Int32 → Int64 → Int32 → Option (MS × Unit)) × (MS → Int32 → Int32 → Int32 → Int32 → Int64 → Int32 → Int64 → Int64 → Int32 → Int32 → Option (MS × Unit)) × (MS → Int32 → Int32 → Int32 → Option (MS × Unit))) (u : MS) (v3 : Int32) (v7 : Int32) (t0 : Int32) : Option (MS × Unit) := G.2.2.2 u (v3) (t0) ((v7 + 1))
set_option maxRecDepth 100000 in
set_option maxHeartbeats 4000000 in
theorem wb_M_lessened_247 {p : Program} {l : Launch} {e : Env} {R : Room} {s : State} {m : MethodId} {args : Array Value} {below : List Frame} {meth : Method} {c : Code} {D : va_G} {cl : List vw_C} {cB cI cJ cZ cS : ClassId} {A : Nat → Prop} {iM h0 : Nat} {ad : Nat → Nat} (C0 : MCx p s m args meth c b_M_lessened 14 none D cl cB cI cJ cZ cS iM A) (hR : R = rm_M_lessened) (N : Nat) (G : (MS → Int32 → Int32 → Int32 → Option (MS × Unit)) × (MS → Int32 → Int32 → Int32 → Int32 → Int64 → Int32 → Option (MS × Unit)) × (MS → Int32 → Int32 → Int32 → Int32 → Int64 → Int32 → Int64 → Int64 → Int32 → Int32 → Option (MS × Unit)) × (MS → Int32 → Int32 → Int32 → Option (MS × Unit))) (hG : (∀ (u : MS) (v1 : Int32) (v2 : Int32) (v3 : Int32) (x : MS × Unit), G.1 u v1 v2 v3 = some x → ∀ (H : Heap) (locs : List Loc), va_P D cl (wM cB cI cJ cZ cS iM h0 ad u) H → va_D A (wM cB cI cJ cZ cS iM h0 ad u) → va_S A s.heap H locs → ∀ (ls : Array Slot), lv_has ls 14 [(0, .ref h0), (1, .int v1), (2, .int v2), (3, .int v3)] → W p l e R s m args below meth c H locs 0 0 (MQ below (mQv D cl cB cI cJ cZ cS iM h0 ad A x) args s 0 0 A) (F0 m 39 ls [])) ∧ (∀ (u : MS) (v1 : Int32) (v2 : Int32) (v3 : Int32) (v4 : Int32) (v5 : Int64) (v7 : Int32) (x : MS × Unit), G.2.1 u v1 v2 v3 v4 v5 v7 = some x → ∀ (H : Heap) (locs : List Loc), va_P D cl (wM cB cI cJ cZ cS iM h0 ad u) H → va_D A (wM cB cI cJ cZ cS iM h0 ad u) → va_S A s.heap H locs → ∀ (ls : Array Slot), lv_has ls 14 [(0, .ref h0), (1, .int v1), (2, .int v2), (3, .int v3), (4, .int v4), (5, .long v5), (7, .int v7)] → W p l e R s m args below meth c H locs 0 0 (MQ below (mQv D cl cB cI cJ cZ cS iM h0 ad A x) args s 0 0 A) (F0 m 72 ls [])) ∧ (∀ (u : MS) (v1 : Int32) (v2 : Int32) (v3 : Int32) (v4 : Int32) (v5 : Int64) (v7 : Int32) (v8 : Int64) (v10 : Int64) (v12 : Int32) (v13 : Int32) (x : MS × Unit), G.2.2.1 u v1 v2 v3 v4 v5 v7 v8 v10 v12 v13 = some x → ∀ (H : Heap) (locs : List Loc), va_P D cl (wM cB cI cJ cZ cS iM h0 ad u) H → va_D A (wM cB cI cJ cZ cS iM h0 ad u) → va_S A s.heap H locs → ∀ (ls : Array Slot), lv_has ls 14 [(0, .ref h0), (1, .int v1), (2, .int v2), (3, .int v3), (4, .int v4), (5, .long v5), (7, .int v7), (8, .long v8), (10, .long v10), (12, .int v12), (13, .int v13)] → W p l e R s m args below meth c H locs 0 0 (MQ below (mQv D cl cB cI cJ cZ cS iM h0 ad A x) args s 0 0 A) (F0 m 123 ls [])) ∧ (∀ (u : MS) (v3 : Int32) (v4 : Int32) (v7 : Int32) (x : MS × Unit), G.2.2.2 u v3 v4 v7 = some x → ∀ (H : Heap) (locs : List Loc), va_P D cl (wM cB cI cJ cZ cS iM h0 ad u) H → va_D A (wM cB cI cJ cZ cS iM h0 ad u) → va_S A s.heap H locs → ∀ (ls : Array Slot), lv_has ls 14 [(0, .ref h0), (3, .int v3), (4, .int v4), (7, .int v7)] → W p l e R s m args below meth c H locs 0 0 (MQ below (mQv D cl cB cI cJ cZ cS iM h0 ad A x) args s 0 0 A) (F0 m 222 ls []))) : ∀ (u : MS) (v3 : Int32) (v7 : Int32) (t0 : Int32) (x : MS × Unit), fb_M_lessened_247 N G u v3 v7 t0 = some x → ∀ (H : Heap) (locs : List Loc), va_P D cl (wM cB cI cJ cZ cS iM h0 ad u) H → va_D A (wM cB cI cJ cZ cS iM h0 ad u) → va_S A s.heap H locs → ∀ (ls : Array Slot), lv_has ls 14 [(0, .ref h0), (3, .int v3), (7, .int v7)] → W p l e R s m args below meth c H locs 0 0 (MQ below (mQv D cl cB cI cJ cZ cS iM h0 ad A x) args s 0 0 A) (F0 m 247 ls [.int t0]) := by
  intro u v3 v7 t0 x hf H locs hP hD hS ls hl
  obtain ⟨hx, hb, hr, hml, ht, hown, hM, hK, hA, hlocks⟩ := id C0
  unfold fb_M_lessened_247 at hf
  refine lv_istore (lv' := [(4, .int t0), (0, .ref h0), (3, .int v3), (7, .int v7)]) hx hb d_M_lessened_247 hl (by decide) rfl (fun ls hl => ?_)
  refine lv_iinc (v := (v7 + 1)) (lv' := [(7, .int (v7 + 1)), (4, .int t0), (0, .ref h0), (3, .int v3)]) hx hb d_M_lessened_249 hl (k := 3) rfl rfl (by decide) rfl (fun ls hl => ?_)
  refine lv_goto (tgt := 222) hx hb d_M_lessened_252 (by decide) ?_
  exact hG.2.2.2 _ _ _ _ _ hf H locs hP hD hS ls (lv_sub hl [2, 3, 1, 0] rfl)
def fb_M_lessened_222 (N : Nat) (G : (MS → Int32 → Int32 → Int32 → Option (MS × Unit)) × (MS → Int32 → Int32 → Int32 → Int32 → Int64 → Int32 → Option (MS × Unit)) × (MS → Int32 → Int32 → Int32 → Int32 → Int64 → Int32 → Int64 → Int64 → Int32 → Int32 → Option (MS × Unit)) × (MS → Int32 → Int32 → Int32 → Option (MS × Unit))) (u : MS) (v3 : Int32) (v4 : Int32) (v7 : Int32) : Option (MS × Unit) := br (decide (v3 < v7)) (lt (upI u 169 1) (fun w1 => bnd (fm_M_anew N w1 (v3 + 1) (2 * v4)) (fun u2 _ => some (u2, ())))) (ck (inb v7 (ln 168)) (br (decide ((u.2.2.1 168 v7.toNatClampNeg) = 0)) (fb_M_lessened_247 N G u (v3) (v7) ((v4 + 1))) (fb_M_lessened_247 N G u (v3) (v7) (v4))))
set_option maxRecDepth 100000 in
set_option maxHeartbeats 4000000 in
theorem wb_M_lessened_222 {p : Program} {l : Launch} {e : Env} {R : Room} {s : State} {m : MethodId} {args : Array Value} {below : List Frame} {meth : Method} {c : Code} {D : va_G} {cl : List vw_C} {cB cI cJ cZ cS : ClassId} {A : Nat → Prop} {iM h0 : Nat} {ad : Nat → Nat} (C0 : MCx p s m args meth c b_M_lessened 14 none D cl cB cI cJ cZ cS iM A) (hR : R = rm_M_lessened) (N : Nat) (G : (MS → Int32 → Int32 → Int32 → Option (MS × Unit)) × (MS → Int32 → Int32 → Int32 → Int32 → Int64 → Int32 → Option (MS × Unit)) × (MS → Int32 → Int32 → Int32 → Int32 → Int64 → Int32 → Int64 → Int64 → Int32 → Int32 → Option (MS × Unit)) × (MS → Int32 → Int32 → Int32 → Option (MS × Unit))) (hG : (∀ (u : MS) (v1 : Int32) (v2 : Int32) (v3 : Int32) (x : MS × Unit), G.1 u v1 v2 v3 = some x → ∀ (H : Heap) (locs : List Loc), va_P D cl (wM cB cI cJ cZ cS iM h0 ad u) H → va_D A (wM cB cI cJ cZ cS iM h0 ad u) → va_S A s.heap H locs → ∀ (ls : Array Slot), lv_has ls 14 [(0, .ref h0), (1, .int v1), (2, .int v2), (3, .int v3)] → W p l e R s m args below meth c H locs 0 0 (MQ below (mQv D cl cB cI cJ cZ cS iM h0 ad A x) args s 0 0 A) (F0 m 39 ls [])) ∧ (∀ (u : MS) (v1 : Int32) (v2 : Int32) (v3 : Int32) (v4 : Int32) (v5 : Int64) (v7 : Int32) (x : MS × Unit), G.2.1 u v1 v2 v3 v4 v5 v7 = some x → ∀ (H : Heap) (locs : List Loc), va_P D cl (wM cB cI cJ cZ cS iM h0 ad u) H → va_D A (wM cB cI cJ cZ cS iM h0 ad u) → va_S A s.heap H locs → ∀ (ls : Array Slot), lv_has ls 14 [(0, .ref h0), (1, .int v1), (2, .int v2), (3, .int v3), (4, .int v4), (5, .long v5), (7, .int v7)] → W p l e R s m args below meth c H locs 0 0 (MQ below (mQv D cl cB cI cJ cZ cS iM h0 ad A x) args s 0 0 A) (F0 m 72 ls [])) ∧ (∀ (u : MS) (v1 : Int32) (v2 : Int32) (v3 : Int32) (v4 : Int32) (v5 : Int64) (v7 : Int32) (v8 : Int64) (v10 : Int64) (v12 : Int32) (v13 : Int32) (x : MS × Unit), G.2.2.1 u v1 v2 v3 v4 v5 v7 v8 v10 v12 v13 = some x → ∀ (H : Heap) (locs : List Loc), va_P D cl (wM cB cI cJ cZ cS iM h0 ad u) H → va_D A (wM cB cI cJ cZ cS iM h0 ad u) → va_S A s.heap H locs → ∀ (ls : Array Slot), lv_has ls 14 [(0, .ref h0), (1, .int v1), (2, .int v2), (3, .int v3), (4, .int v4), (5, .long v5), (7, .int v7), (8, .long v8), (10, .long v10), (12, .int v12), (13, .int v13)] → W p l e R s m args below meth c H locs 0 0 (MQ below (mQv D cl cB cI cJ cZ cS iM h0 ad A x) args s 0 0 A) (F0 m 123 ls [])) ∧ (∀ (u : MS) (v3 : Int32) (v4 : Int32) (v7 : Int32) (x : MS × Unit), G.2.2.2 u v3 v4 v7 = some x → ∀ (H : Heap) (locs : List Loc), va_P D cl (wM cB cI cJ cZ cS iM h0 ad u) H → va_D A (wM cB cI cJ cZ cS iM h0 ad u) → va_S A s.heap H locs → ∀ (ls : Array Slot), lv_has ls 14 [(0, .ref h0), (3, .int v3), (4, .int v4), (7, .int v7)] → W p l e R s m args below meth c H locs 0 0 (MQ below (mQv D cl cB cI cJ cZ cS iM h0 ad A x) args s 0 0 A) (F0 m 222 ls []))) : ∀ (u : MS) (v3 : Int32) (v4 : Int32) (v7 : Int32) (x : MS × Unit), fb_M_lessened_222 N G u v3 v4 v7 = some x → ∀ (H : Heap) (locs : List Loc), va_P D cl (wM cB cI cJ cZ cS iM h0 ad u) H → va_D A (wM cB cI cJ cZ cS iM h0 ad u) → va_S A s.heap H locs → ∀ (ls : Array Slot), lv_has ls 14 [(0, .ref h0), (3, .int v3), (4, .int v4), (7, .int v7)] → W p l e R s m args below meth c H locs 0 0 (MQ below (mQv D cl cB cI cJ cZ cS iM h0 ad A x) args s 0 0 A) (F0 m 222 ls []) := by
  intro u v3 v4 v7 x hf H locs hP hD hS ls hl
  obtain ⟨hx, hb, hr, hml, ht, hown, hM, hK, hA, hlocks⟩ := id C0
  unfold fb_M_lessened_222 at hf
  refine lv_iload hx hb d_M_lessened_222 (lv_at hl 3 rfl) ?_
  refine lv_iload_n hx hb d_M_lessened_224 rfl (lv_at hl 1 rfl) ?_
  refine lv_icmp_gt (tgt := 255) hx hb d_M_lessened_225 (by decide) (fun hc => ?_) (fun hc => ?_)
  · rw [br_p _ hc] at hf
    refine lv_aload_n hx hb d_M_lessened_255 rfl (lv_at hl 0 rfl) ?_
    refine lv_iconst (v := 1) hx hb d_M_lessened_256 (by decide) ?_
    refine up_I hx hb ht hown hM hK hP hD hS 169 (by decide) lk_M_169 (by decide) rfl rfl rfl d_M_lessened_257 (fun H locs hP hD hS => ?_)
    obtain ⟨w1, e1, hf⟩ := lt_some hf
    rw [← e1] at hP hD
    refine lv_aload_n hx hb d_M_lessened_260 rfl (lv_at hl 0 rfl) ?_
    refine lv_iload_n hx hb d_M_lessened_261 rfl (lv_at hl 1 rfl) ?_
    refine lv_iconst (v := 1) hx hb d_M_lessened_262 (by decide) ?_
    refine lv_iadd hx hb d_M_lessened_263 ?_
    refine lv_iconst (v := 2) hx hb d_M_lessened_264 (by decide) ?_
    refine lv_iload hx hb d_M_lessened_265 (lv_at hl 2 rfl) ?_
    refine lv_imul hx hb d_M_lessened_267 ?_
    obtain ⟨u2, r2, hc2, hf⟩ := bnd_some hf
    refine mV_v (As := [.int (v3 + 1), .int (2 * v4)]) (rest := []) C0 hP hD hS (c_M_anew N hM hc2) k_M_anew hl_M_anew hi_M_anew hs_M_anew hini_M rfl rfl hd_M_anew rfl (rm_M_lessened_M_anew hR) hl.1 (Nat.le_of_ble_eq_true rfl) d_M_lessened_268 rfl ⟨Nat.zero_le _, Nat.zero_le _⟩ (fun H locs hP hD hS => ?_)
    exact mr_v C0 hP hD hS hf d_M_lessened_271
  · rw [br_n _ hc] at hf
    refine lv_aload_n hx hb d_M_lessened_228 rfl (lv_at hl 0 rfl) ?_
    refine ug_R hx hb ht hown hM hK hP 168 (by decide) lk_M_168 (by decide) d_M_lessened_229 ?_
    refine lv_iload hx hb d_M_lessened_232 (lv_at hl 3 rfl) ?_
    obtain ⟨hi9, hf⟩ := ck_some hf
    refine ul_Z hx hb hK hP (by decide) (by decide) hi9 d_M_lessened_234 ?_
    refine lv_if_eq (tgt := 243) hx hb d_M_lessened_235 (by decide) (fun hc => ?_) (fun hc => ?_)
    · rw [br_p _ hc] at hf
      refine lv_iload hx hb d_M_lessened_243 (lv_at hl 2 rfl) ?_
      refine lv_iconst (v := 1) hx hb d_M_lessened_245 (by decide) ?_
      refine lv_iadd hx hb d_M_lessened_246 ?_
      exact wb_M_lessened_247 C0 hR N G hG _ _ _ _ _ hf H locs hP hD hS ls (lv_sub hl [0, 1, 3] rfl)
    · rw [br_n _ hc] at hf
      refine lv_iload hx hb d_M_lessened_238 (lv_at hl 2 rfl) ?_
      refine lv_goto (tgt := 247) hx hb d_M_lessened_240 (by decide) ?_
      exact wb_M_lessened_247 C0 hR N G hG _ _ _ _ _ hf H locs hP hD hS ls (lv_sub hl [0, 1, 3] rfl)
def fb_M_lessened_213 (N : Nat) (G : (MS → Int32 → Int32 → Int32 → Option (MS × Unit)) × (MS → Int32 → Int32 → Int32 → Int32 → Int64 → Int32 → Option (MS × Unit)) × (MS → Int32 → Int32 → Int32 → Int32 → Int64 → Int32 → Int64 → Int64 → Int32 → Int32 → Option (MS × Unit)) × (MS → Int32 → Int32 → Int32 → Option (MS × Unit))) (u : MS) (v1 : Int32) (v2 : Int32) (v3 : Int32) (v4 : Int32) (v5 : Int64) (v7 : Int32) : Option (MS × Unit) := G.2.1 u (v1) (v2) (v3) (v4) (v5) ((v7 + 1))
set_option maxRecDepth 100000 in
set_option maxHeartbeats 4000000 in
theorem wb_M_lessened_213 {p : Program} {l : Launch} {e : Env} {R : Room} {s : State} {m : MethodId} {args : Array Value} {below : List Frame} {meth : Method} {c : Code} {D : va_G} {cl : List vw_C} {cB cI cJ cZ cS : ClassId} {A : Nat → Prop} {iM h0 : Nat} {ad : Nat → Nat} (C0 : MCx p s m args meth c b_M_lessened 14 none D cl cB cI cJ cZ cS iM A) (hR : R = rm_M_lessened) (N : Nat) (G : (MS → Int32 → Int32 → Int32 → Option (MS × Unit)) × (MS → Int32 → Int32 → Int32 → Int32 → Int64 → Int32 → Option (MS × Unit)) × (MS → Int32 → Int32 → Int32 → Int32 → Int64 → Int32 → Int64 → Int64 → Int32 → Int32 → Option (MS × Unit)) × (MS → Int32 → Int32 → Int32 → Option (MS × Unit))) (hG : (∀ (u : MS) (v1 : Int32) (v2 : Int32) (v3 : Int32) (x : MS × Unit), G.1 u v1 v2 v3 = some x → ∀ (H : Heap) (locs : List Loc), va_P D cl (wM cB cI cJ cZ cS iM h0 ad u) H → va_D A (wM cB cI cJ cZ cS iM h0 ad u) → va_S A s.heap H locs → ∀ (ls : Array Slot), lv_has ls 14 [(0, .ref h0), (1, .int v1), (2, .int v2), (3, .int v3)] → W p l e R s m args below meth c H locs 0 0 (MQ below (mQv D cl cB cI cJ cZ cS iM h0 ad A x) args s 0 0 A) (F0 m 39 ls [])) ∧ (∀ (u : MS) (v1 : Int32) (v2 : Int32) (v3 : Int32) (v4 : Int32) (v5 : Int64) (v7 : Int32) (x : MS × Unit), G.2.1 u v1 v2 v3 v4 v5 v7 = some x → ∀ (H : Heap) (locs : List Loc), va_P D cl (wM cB cI cJ cZ cS iM h0 ad u) H → va_D A (wM cB cI cJ cZ cS iM h0 ad u) → va_S A s.heap H locs → ∀ (ls : Array Slot), lv_has ls 14 [(0, .ref h0), (1, .int v1), (2, .int v2), (3, .int v3), (4, .int v4), (5, .long v5), (7, .int v7)] → W p l e R s m args below meth c H locs 0 0 (MQ below (mQv D cl cB cI cJ cZ cS iM h0 ad A x) args s 0 0 A) (F0 m 72 ls [])) ∧ (∀ (u : MS) (v1 : Int32) (v2 : Int32) (v3 : Int32) (v4 : Int32) (v5 : Int64) (v7 : Int32) (v8 : Int64) (v10 : Int64) (v12 : Int32) (v13 : Int32) (x : MS × Unit), G.2.2.1 u v1 v2 v3 v4 v5 v7 v8 v10 v12 v13 = some x → ∀ (H : Heap) (locs : List Loc), va_P D cl (wM cB cI cJ cZ cS iM h0 ad u) H → va_D A (wM cB cI cJ cZ cS iM h0 ad u) → va_S A s.heap H locs → ∀ (ls : Array Slot), lv_has ls 14 [(0, .ref h0), (1, .int v1), (2, .int v2), (3, .int v3), (4, .int v4), (5, .long v5), (7, .int v7), (8, .long v8), (10, .long v10), (12, .int v12), (13, .int v13)] → W p l e R s m args below meth c H locs 0 0 (MQ below (mQv D cl cB cI cJ cZ cS iM h0 ad A x) args s 0 0 A) (F0 m 123 ls [])) ∧ (∀ (u : MS) (v3 : Int32) (v4 : Int32) (v7 : Int32) (x : MS × Unit), G.2.2.2 u v3 v4 v7 = some x → ∀ (H : Heap) (locs : List Loc), va_P D cl (wM cB cI cJ cZ cS iM h0 ad u) H → va_D A (wM cB cI cJ cZ cS iM h0 ad u) → va_S A s.heap H locs → ∀ (ls : Array Slot), lv_has ls 14 [(0, .ref h0), (3, .int v3), (4, .int v4), (7, .int v7)] → W p l e R s m args below meth c H locs 0 0 (MQ below (mQv D cl cB cI cJ cZ cS iM h0 ad A x) args s 0 0 A) (F0 m 222 ls []))) : ∀ (u : MS) (v1 : Int32) (v2 : Int32) (v3 : Int32) (v4 : Int32) (v5 : Int64) (v7 : Int32) (x : MS × Unit), fb_M_lessened_213 N G u v1 v2 v3 v4 v5 v7 = some x → ∀ (H : Heap) (locs : List Loc), va_P D cl (wM cB cI cJ cZ cS iM h0 ad u) H → va_D A (wM cB cI cJ cZ cS iM h0 ad u) → va_S A s.heap H locs → ∀ (ls : Array Slot), lv_has ls 14 [(0, .ref h0), (1, .int v1), (2, .int v2), (3, .int v3), (4, .int v4), (5, .long v5), (7, .int v7)] → W p l e R s m args below meth c H locs 0 0 (MQ below (mQv D cl cB cI cJ cZ cS iM h0 ad A x) args s 0 0 A) (F0 m 213 ls []) := by
  intro u v1 v2 v3 v4 v5 v7 x hf H locs hP hD hS ls hl
  obtain ⟨hx, hb, hr, hml, ht, hown, hM, hK, hA, hlocks⟩ := id C0
  unfold fb_M_lessened_213 at hf
  refine lv_iinc (v := (v7 + 1)) (lv' := [(7, .int (v7 + 1)), (0, .ref h0), (1, .int v1), (2, .int v2), (3, .int v3), (4, .int v4), (5, .long v5)]) hx hb d_M_lessened_213 hl (k := 6) rfl rfl (by decide) rfl (fun ls hl => ?_)
  refine lv_goto (tgt := 72) hx hb d_M_lessened_216 (by decide) ?_
  exact hG.2.1 _ _ _ _ _ _ _ _ hf H locs hP hD hS ls (lv_sub hl [1, 2, 3, 4, 5, 6, 0] rfl)
def fb_M_lessened_190 (N : Nat) (G : (MS → Int32 → Int32 → Int32 → Option (MS × Unit)) × (MS → Int32 → Int32 → Int32 → Int32 → Int64 → Int32 → Option (MS × Unit)) × (MS → Int32 → Int32 → Int32 → Int32 → Int64 → Int32 → Int64 → Int64 → Int32 → Int32 → Option (MS × Unit)) × (MS → Int32 → Int32 → Int32 → Option (MS × Unit))) (u : MS) (v1 : Int32) (v2 : Int32) (v3 : Int32) (v4 : Int32) (v5 : Int64) (v7 : Int32) (v8 : Int64) (v10 : Int64) (v12 : Int32) (v13 : Int32) : Option (MS × Unit) := bnd (fm_M_valueOf N u v10) (fun u3 r3 => bnd (fm_M_cell N u3 (u.1 133) (r3 + 1)) (fun u4 r4 => G.2.2.1 u4 (v1) (v2) (v3) (v4) (v5) (v7) (v8) (r4) ((v12 + 1)) (v13)))
set_option maxRecDepth 100000 in
set_option maxHeartbeats 4000000 in
theorem wb_M_lessened_190 {p : Program} {l : Launch} {e : Env} {R : Room} {s : State} {m : MethodId} {args : Array Value} {below : List Frame} {meth : Method} {c : Code} {D : va_G} {cl : List vw_C} {cB cI cJ cZ cS : ClassId} {A : Nat → Prop} {iM h0 : Nat} {ad : Nat → Nat} (C0 : MCx p s m args meth c b_M_lessened 14 none D cl cB cI cJ cZ cS iM A) (hR : R = rm_M_lessened) (N : Nat) (G : (MS → Int32 → Int32 → Int32 → Option (MS × Unit)) × (MS → Int32 → Int32 → Int32 → Int32 → Int64 → Int32 → Option (MS × Unit)) × (MS → Int32 → Int32 → Int32 → Int32 → Int64 → Int32 → Int64 → Int64 → Int32 → Int32 → Option (MS × Unit)) × (MS → Int32 → Int32 → Int32 → Option (MS × Unit))) (hG : (∀ (u : MS) (v1 : Int32) (v2 : Int32) (v3 : Int32) (x : MS × Unit), G.1 u v1 v2 v3 = some x → ∀ (H : Heap) (locs : List Loc), va_P D cl (wM cB cI cJ cZ cS iM h0 ad u) H → va_D A (wM cB cI cJ cZ cS iM h0 ad u) → va_S A s.heap H locs → ∀ (ls : Array Slot), lv_has ls 14 [(0, .ref h0), (1, .int v1), (2, .int v2), (3, .int v3)] → W p l e R s m args below meth c H locs 0 0 (MQ below (mQv D cl cB cI cJ cZ cS iM h0 ad A x) args s 0 0 A) (F0 m 39 ls [])) ∧ (∀ (u : MS) (v1 : Int32) (v2 : Int32) (v3 : Int32) (v4 : Int32) (v5 : Int64) (v7 : Int32) (x : MS × Unit), G.2.1 u v1 v2 v3 v4 v5 v7 = some x → ∀ (H : Heap) (locs : List Loc), va_P D cl (wM cB cI cJ cZ cS iM h0 ad u) H → va_D A (wM cB cI cJ cZ cS iM h0 ad u) → va_S A s.heap H locs → ∀ (ls : Array Slot), lv_has ls 14 [(0, .ref h0), (1, .int v1), (2, .int v2), (3, .int v3), (4, .int v4), (5, .long v5), (7, .int v7)] → W p l e R s m args below meth c H locs 0 0 (MQ below (mQv D cl cB cI cJ cZ cS iM h0 ad A x) args s 0 0 A) (F0 m 72 ls [])) ∧ (∀ (u : MS) (v1 : Int32) (v2 : Int32) (v3 : Int32) (v4 : Int32) (v5 : Int64) (v7 : Int32) (v8 : Int64) (v10 : Int64) (v12 : Int32) (v13 : Int32) (x : MS × Unit), G.2.2.1 u v1 v2 v3 v4 v5 v7 v8 v10 v12 v13 = some x → ∀ (H : Heap) (locs : List Loc), va_P D cl (wM cB cI cJ cZ cS iM h0 ad u) H → va_D A (wM cB cI cJ cZ cS iM h0 ad u) → va_S A s.heap H locs → ∀ (ls : Array Slot), lv_has ls 14 [(0, .ref h0), (1, .int v1), (2, .int v2), (3, .int v3), (4, .int v4), (5, .long v5), (7, .int v7), (8, .long v8), (10, .long v10), (12, .int v12), (13, .int v13)] → W p l e R s m args below meth c H locs 0 0 (MQ below (mQv D cl cB cI cJ cZ cS iM h0 ad A x) args s 0 0 A) (F0 m 123 ls [])) ∧ (∀ (u : MS) (v3 : Int32) (v4 : Int32) (v7 : Int32) (x : MS × Unit), G.2.2.2 u v3 v4 v7 = some x → ∀ (H : Heap) (locs : List Loc), va_P D cl (wM cB cI cJ cZ cS iM h0 ad u) H → va_D A (wM cB cI cJ cZ cS iM h0 ad u) → va_S A s.heap H locs → ∀ (ls : Array Slot), lv_has ls 14 [(0, .ref h0), (3, .int v3), (4, .int v4), (7, .int v7)] → W p l e R s m args below meth c H locs 0 0 (MQ below (mQv D cl cB cI cJ cZ cS iM h0 ad A x) args s 0 0 A) (F0 m 222 ls []))) : ∀ (u : MS) (v1 : Int32) (v2 : Int32) (v3 : Int32) (v4 : Int32) (v5 : Int64) (v7 : Int32) (v8 : Int64) (v10 : Int64) (v12 : Int32) (v13 : Int32) (x : MS × Unit), fb_M_lessened_190 N G u v1 v2 v3 v4 v5 v7 v8 v10 v12 v13 = some x → ∀ (H : Heap) (locs : List Loc), va_P D cl (wM cB cI cJ cZ cS iM h0 ad u) H → va_D A (wM cB cI cJ cZ cS iM h0 ad u) → va_S A s.heap H locs → ∀ (ls : Array Slot), lv_has ls 14 [(0, .ref h0), (1, .int v1), (2, .int v2), (3, .int v3), (4, .int v4), (5, .long v5), (7, .int v7), (8, .long v8), (10, .long v10), (12, .int v12), (13, .int v13)] → W p l e R s m args below meth c H locs 0 0 (MQ below (mQv D cl cB cI cJ cZ cS iM h0 ad A x) args s 0 0 A) (F0 m 190 ls []) := by
  intro u v1 v2 v3 v4 v5 v7 v8 v10 v12 v13 x hf H locs hP hD hS ls hl
  obtain ⟨hx, hb, hr, hml, ht, hown, hM, hK, hA, hlocks⟩ := id C0
  unfold fb_M_lessened_190 at hf
  refine lv_aload_n hx hb d_M_lessened_190 rfl (lv_at hl 0 rfl) ?_
  refine lv_aload_n hx hb d_M_lessened_191 rfl (lv_at hl 0 rfl) ?_
  refine ug_I hx hb ht hown hM hK hP 133 (by decide) lk_M_133 (by decide) d_M_lessened_192 ?_
  refine lv_lload hx hb d_M_lessened_195 (lv_at hl 8 rfl) ?_
  obtain ⟨u3, r3, hc3, hf⟩ := bnd_some hf
  refine mS_i (As := [.long v10]) (rest := [.int (u.1 133), .ref h0]) C0 hP hD hS (c_M_valueOf N hM hc3) k_M_valueOf hl_M_valueOf ht_M_valueOf hini_M rfl rfl hd_M_valueOf rfl (rm_M_lessened_M_valueOf hR) hl.1 (Nat.le_of_ble_eq_true rfl) d_M_lessened_197 rfl ⟨Nat.zero_le _, Nat.zero_le _⟩ (fun H locs hP hD hS => ?_)
  refine lv_iconst (v := 1) hx hb d_M_lessened_200 (by decide) ?_
  refine lv_iadd hx hb d_M_lessened_201 ?_
  obtain ⟨u4, r4, hc4, hf⟩ := bnd_some hf
  refine mV_l (As := [.int (u.1 133), .int (r3 + 1)]) (rest := []) C0 hP hD hS (c_M_cell N hM hc4) k_M_cell hl_M_cell hi_M_cell hs_M_cell hini_M rfl rfl hd_M_cell rfl (rm_M_lessened_M_cell hR) hl.1 (Nat.le_of_ble_eq_true rfl) d_M_lessened_202 rfl ⟨Nat.zero_le _, Nat.zero_le _⟩ (fun H locs hP hD hS => ?_)
  refine lv_lstore (lv' := [(10, .long r4), (0, .ref h0), (1, .int v1), (2, .int v2), (3, .int v3), (4, .int v4), (5, .long v5), (7, .int v7), (8, .long v8), (12, .int v12), (13, .int v13)]) hx hb d_M_lessened_205 hl (by decide) rfl (fun ls hl => ?_)
  refine lv_iinc (v := (v12 + 1)) (lv' := [(12, .int (v12 + 1)), (10, .long r4), (0, .ref h0), (1, .int v1), (2, .int v2), (3, .int v3), (4, .int v4), (5, .long v5), (7, .int v7), (8, .long v8), (13, .int v13)]) hx hb d_M_lessened_207 hl (k := 9) rfl rfl (by decide) rfl (fun ls hl => ?_)
  refine lv_goto (tgt := 123) hx hb d_M_lessened_210 (by decide) ?_
  exact hG.2.2.1 _ _ _ _ _ _ _ _ _ _ _ _ hf H locs hP hD hS ls (lv_sub hl [2, 3, 4, 5, 6, 7, 8, 9, 1, 0, 10] rfl)
def fb_M_lessened_186 (N : Nat) (G : (MS → Int32 → Int32 → Int32 → Option (MS × Unit)) × (MS → Int32 → Int32 → Int32 → Int32 → Int64 → Int32 → Option (MS × Unit)) × (MS → Int32 → Int32 → Int32 → Int32 → Int64 → Int32 → Int64 → Int64 → Int32 → Int32 → Option (MS × Unit)) × (MS → Int32 → Int32 → Int32 → Option (MS × Unit))) (u : MS) (v1 : Int32) (v2 : Int32) (v4 : Int32) (v5 : Int64) (v7 : Int32) (v8 : Int64) (v10 : Int64) (v12 : Int32) (t0 : Int32) : Option (MS × Unit) := fb_M_lessened_190 N G u (v1) (v2) (t0) (v4) (v5) (v7) (v8) (v10) (v12) (0)
set_option maxRecDepth 100000 in
set_option maxHeartbeats 4000000 in
theorem wb_M_lessened_186 {p : Program} {l : Launch} {e : Env} {R : Room} {s : State} {m : MethodId} {args : Array Value} {below : List Frame} {meth : Method} {c : Code} {D : va_G} {cl : List vw_C} {cB cI cJ cZ cS : ClassId} {A : Nat → Prop} {iM h0 : Nat} {ad : Nat → Nat} (C0 : MCx p s m args meth c b_M_lessened 14 none D cl cB cI cJ cZ cS iM A) (hR : R = rm_M_lessened) (N : Nat) (G : (MS → Int32 → Int32 → Int32 → Option (MS × Unit)) × (MS → Int32 → Int32 → Int32 → Int32 → Int64 → Int32 → Option (MS × Unit)) × (MS → Int32 → Int32 → Int32 → Int32 → Int64 → Int32 → Int64 → Int64 → Int32 → Int32 → Option (MS × Unit)) × (MS → Int32 → Int32 → Int32 → Option (MS × Unit))) (hG : (∀ (u : MS) (v1 : Int32) (v2 : Int32) (v3 : Int32) (x : MS × Unit), G.1 u v1 v2 v3 = some x → ∀ (H : Heap) (locs : List Loc), va_P D cl (wM cB cI cJ cZ cS iM h0 ad u) H → va_D A (wM cB cI cJ cZ cS iM h0 ad u) → va_S A s.heap H locs → ∀ (ls : Array Slot), lv_has ls 14 [(0, .ref h0), (1, .int v1), (2, .int v2), (3, .int v3)] → W p l e R s m args below meth c H locs 0 0 (MQ below (mQv D cl cB cI cJ cZ cS iM h0 ad A x) args s 0 0 A) (F0 m 39 ls [])) ∧ (∀ (u : MS) (v1 : Int32) (v2 : Int32) (v3 : Int32) (v4 : Int32) (v5 : Int64) (v7 : Int32) (x : MS × Unit), G.2.1 u v1 v2 v3 v4 v5 v7 = some x → ∀ (H : Heap) (locs : List Loc), va_P D cl (wM cB cI cJ cZ cS iM h0 ad u) H → va_D A (wM cB cI cJ cZ cS iM h0 ad u) → va_S A s.heap H locs → ∀ (ls : Array Slot), lv_has ls 14 [(0, .ref h0), (1, .int v1), (2, .int v2), (3, .int v3), (4, .int v4), (5, .long v5), (7, .int v7)] → W p l e R s m args below meth c H locs 0 0 (MQ below (mQv D cl cB cI cJ cZ cS iM h0 ad A x) args s 0 0 A) (F0 m 72 ls [])) ∧ (∀ (u : MS) (v1 : Int32) (v2 : Int32) (v3 : Int32) (v4 : Int32) (v5 : Int64) (v7 : Int32) (v8 : Int64) (v10 : Int64) (v12 : Int32) (v13 : Int32) (x : MS × Unit), G.2.2.1 u v1 v2 v3 v4 v5 v7 v8 v10 v12 v13 = some x → ∀ (H : Heap) (locs : List Loc), va_P D cl (wM cB cI cJ cZ cS iM h0 ad u) H → va_D A (wM cB cI cJ cZ cS iM h0 ad u) → va_S A s.heap H locs → ∀ (ls : Array Slot), lv_has ls 14 [(0, .ref h0), (1, .int v1), (2, .int v2), (3, .int v3), (4, .int v4), (5, .long v5), (7, .int v7), (8, .long v8), (10, .long v10), (12, .int v12), (13, .int v13)] → W p l e R s m args below meth c H locs 0 0 (MQ below (mQv D cl cB cI cJ cZ cS iM h0 ad A x) args s 0 0 A) (F0 m 123 ls [])) ∧ (∀ (u : MS) (v3 : Int32) (v4 : Int32) (v7 : Int32) (x : MS × Unit), G.2.2.2 u v3 v4 v7 = some x → ∀ (H : Heap) (locs : List Loc), va_P D cl (wM cB cI cJ cZ cS iM h0 ad u) H → va_D A (wM cB cI cJ cZ cS iM h0 ad u) → va_S A s.heap H locs → ∀ (ls : Array Slot), lv_has ls 14 [(0, .ref h0), (3, .int v3), (4, .int v4), (7, .int v7)] → W p l e R s m args below meth c H locs 0 0 (MQ below (mQv D cl cB cI cJ cZ cS iM h0 ad A x) args s 0 0 A) (F0 m 222 ls []))) : ∀ (u : MS) (v1 : Int32) (v2 : Int32) (v4 : Int32) (v5 : Int64) (v7 : Int32) (v8 : Int64) (v10 : Int64) (v12 : Int32) (t0 : Int32) (x : MS × Unit), fb_M_lessened_186 N G u v1 v2 v4 v5 v7 v8 v10 v12 t0 = some x → ∀ (H : Heap) (locs : List Loc), va_P D cl (wM cB cI cJ cZ cS iM h0 ad u) H → va_D A (wM cB cI cJ cZ cS iM h0 ad u) → va_S A s.heap H locs → ∀ (ls : Array Slot), lv_has ls 14 [(0, .ref h0), (1, .int v1), (2, .int v2), (4, .int v4), (5, .long v5), (7, .int v7), (8, .long v8), (10, .long v10), (12, .int v12)] → W p l e R s m args below meth c H locs 0 0 (MQ below (mQv D cl cB cI cJ cZ cS iM h0 ad A x) args s 0 0 A) (F0 m 186 ls [.int t0]) := by
  intro u v1 v2 v4 v5 v7 v8 v10 v12 t0 x hf H locs hP hD hS ls hl
  obtain ⟨hx, hb, hr, hml, ht, hown, hM, hK, hA, hlocks⟩ := id C0
  unfold fb_M_lessened_186 at hf
  refine lv_istore_n (lv' := [(3, .int t0), (0, .ref h0), (1, .int v1), (2, .int v2), (4, .int v4), (5, .long v5), (7, .int v7), (8, .long v8), (10, .long v10), (12, .int v12)]) hx hb d_M_lessened_186 rfl hl (by decide) rfl (fun ls hl => ?_)
  refine lv_iconst (v := 0) hx hb d_M_lessened_187 (by decide) ?_
  refine lv_istore (lv' := [(13, .int 0), (3, .int t0), (0, .ref h0), (1, .int v1), (2, .int v2), (4, .int v4), (5, .long v5), (7, .int v7), (8, .long v8), (10, .long v10), (12, .int v12)]) hx hb d_M_lessened_188 hl (by decide) rfl (fun ls hl => ?_)
  exact wb_M_lessened_190 C0 hR N G hG _ _ _ _ _ _ _ _ _ _ _ _ hf H locs hP hD hS ls (lv_sub hl [2, 3, 4, 1, 5, 6, 7, 8, 9, 10, 0] rfl)
def fb_M_lessened_123 (N : Nat) (G : (MS → Int32 → Int32 → Int32 → Option (MS × Unit)) × (MS → Int32 → Int32 → Int32 → Int32 → Int64 → Int32 → Option (MS × Unit)) × (MS → Int32 → Int32 → Int32 → Int32 → Int64 → Int32 → Int64 → Int64 → Int32 → Int32 → Option (MS × Unit)) × (MS → Int32 → Int32 → Int32 → Option (MS × Unit))) (u : MS) (v1 : Int32) (v2 : Int32) (v3 : Int32) (v4 : Int32) (v5 : Int64) (v7 : Int32) (v8 : Int64) (v10 : Int64) (v12 : Int32) (v13 : Int32) : Option (MS × Unit) := br (decide (v1 ≤ v12)) (fb_M_lessened_213 N G u (v1) (v2) (v3) (v4) (v5) (v7)) (br (decide (v13 = 0)) (fb_M_lessened_213 N G u (v1) (v2) (v3) (v4) (v5) (v7)) (ck (inb v12 (ln 168)) (br (decide ((u.2.2.1 168 v12.toNatClampNeg) = 0)) (bnd (fm_M_valueOf N u v10) (fun u5 r5 => bnd (fm_M_cell N u5 (u.1 133) r5) (fun u6 r6 => bnd (fm_M_order N u6 r6 v8) (fun u7 r7 => br (decide (r7 = 0)) (ck (inb v12 (ln 168)) (lt (upA u7 168 (upd (u7.2.2.1 168) v12.toNatClampNeg (vp_nar .boolean 1))) (fun w8 => br (decide (v12 ≤ v3)) (fb_M_lessened_186 N G w8 (v1) (v2) (v4) (v5) (v7) (v8) (v10) (v12) (v3)) (fb_M_lessened_186 N G w8 (v1) (v2) (v4) (v5) (v7) (v8) (v10) (v12) (v12))))) (fb_M_lessened_190 N G u7 (v1) (v2) (v3) (v4) (v5) (v7) (v8) (v10) (v12) (v13)))))) (fb_M_lessened_190 N G u (v1) (v2) (v3) (v4) (v5) (v7) (v8) (v10) (v12) (v13)))))
set_option maxRecDepth 100000 in
set_option maxHeartbeats 4000000 in
theorem wb_M_lessened_123 {p : Program} {l : Launch} {e : Env} {R : Room} {s : State} {m : MethodId} {args : Array Value} {below : List Frame} {meth : Method} {c : Code} {D : va_G} {cl : List vw_C} {cB cI cJ cZ cS : ClassId} {A : Nat → Prop} {iM h0 : Nat} {ad : Nat → Nat} (C0 : MCx p s m args meth c b_M_lessened 14 none D cl cB cI cJ cZ cS iM A) (hR : R = rm_M_lessened) (N : Nat) (G : (MS → Int32 → Int32 → Int32 → Option (MS × Unit)) × (MS → Int32 → Int32 → Int32 → Int32 → Int64 → Int32 → Option (MS × Unit)) × (MS → Int32 → Int32 → Int32 → Int32 → Int64 → Int32 → Int64 → Int64 → Int32 → Int32 → Option (MS × Unit)) × (MS → Int32 → Int32 → Int32 → Option (MS × Unit))) (hG : (∀ (u : MS) (v1 : Int32) (v2 : Int32) (v3 : Int32) (x : MS × Unit), G.1 u v1 v2 v3 = some x → ∀ (H : Heap) (locs : List Loc), va_P D cl (wM cB cI cJ cZ cS iM h0 ad u) H → va_D A (wM cB cI cJ cZ cS iM h0 ad u) → va_S A s.heap H locs → ∀ (ls : Array Slot), lv_has ls 14 [(0, .ref h0), (1, .int v1), (2, .int v2), (3, .int v3)] → W p l e R s m args below meth c H locs 0 0 (MQ below (mQv D cl cB cI cJ cZ cS iM h0 ad A x) args s 0 0 A) (F0 m 39 ls [])) ∧ (∀ (u : MS) (v1 : Int32) (v2 : Int32) (v3 : Int32) (v4 : Int32) (v5 : Int64) (v7 : Int32) (x : MS × Unit), G.2.1 u v1 v2 v3 v4 v5 v7 = some x → ∀ (H : Heap) (locs : List Loc), va_P D cl (wM cB cI cJ cZ cS iM h0 ad u) H → va_D A (wM cB cI cJ cZ cS iM h0 ad u) → va_S A s.heap H locs → ∀ (ls : Array Slot), lv_has ls 14 [(0, .ref h0), (1, .int v1), (2, .int v2), (3, .int v3), (4, .int v4), (5, .long v5), (7, .int v7)] → W p l e R s m args below meth c H locs 0 0 (MQ below (mQv D cl cB cI cJ cZ cS iM h0 ad A x) args s 0 0 A) (F0 m 72 ls [])) ∧ (∀ (u : MS) (v1 : Int32) (v2 : Int32) (v3 : Int32) (v4 : Int32) (v5 : Int64) (v7 : Int32) (v8 : Int64) (v10 : Int64) (v12 : Int32) (v13 : Int32) (x : MS × Unit), G.2.2.1 u v1 v2 v3 v4 v5 v7 v8 v10 v12 v13 = some x → ∀ (H : Heap) (locs : List Loc), va_P D cl (wM cB cI cJ cZ cS iM h0 ad u) H → va_D A (wM cB cI cJ cZ cS iM h0 ad u) → va_S A s.heap H locs → ∀ (ls : Array Slot), lv_has ls 14 [(0, .ref h0), (1, .int v1), (2, .int v2), (3, .int v3), (4, .int v4), (5, .long v5), (7, .int v7), (8, .long v8), (10, .long v10), (12, .int v12), (13, .int v13)] → W p l e R s m args below meth c H locs 0 0 (MQ below (mQv D cl cB cI cJ cZ cS iM h0 ad A x) args s 0 0 A) (F0 m 123 ls [])) ∧ (∀ (u : MS) (v3 : Int32) (v4 : Int32) (v7 : Int32) (x : MS × Unit), G.2.2.2 u v3 v4 v7 = some x → ∀ (H : Heap) (locs : List Loc), va_P D cl (wM cB cI cJ cZ cS iM h0 ad u) H → va_D A (wM cB cI cJ cZ cS iM h0 ad u) → va_S A s.heap H locs → ∀ (ls : Array Slot), lv_has ls 14 [(0, .ref h0), (3, .int v3), (4, .int v4), (7, .int v7)] → W p l e R s m args below meth c H locs 0 0 (MQ below (mQv D cl cB cI cJ cZ cS iM h0 ad A x) args s 0 0 A) (F0 m 222 ls []))) : ∀ (u : MS) (v1 : Int32) (v2 : Int32) (v3 : Int32) (v4 : Int32) (v5 : Int64) (v7 : Int32) (v8 : Int64) (v10 : Int64) (v12 : Int32) (v13 : Int32) (x : MS × Unit), fb_M_lessened_123 N G u v1 v2 v3 v4 v5 v7 v8 v10 v12 v13 = some x → ∀ (H : Heap) (locs : List Loc), va_P D cl (wM cB cI cJ cZ cS iM h0 ad u) H → va_D A (wM cB cI cJ cZ cS iM h0 ad u) → va_S A s.heap H locs → ∀ (ls : Array Slot), lv_has ls 14 [(0, .ref h0), (1, .int v1), (2, .int v2), (3, .int v3), (4, .int v4), (5, .long v5), (7, .int v7), (8, .long v8), (10, .long v10), (12, .int v12), (13, .int v13)] → W p l e R s m args below meth c H locs 0 0 (MQ below (mQv D cl cB cI cJ cZ cS iM h0 ad A x) args s 0 0 A) (F0 m 123 ls []) := by
  intro u v1 v2 v3 v4 v5 v7 v8 v10 v12 v13 x hf H locs hP hD hS ls hl
  obtain ⟨hx, hb, hr, hml, ht, hown, hM, hK, hA, hlocks⟩ := id C0
  unfold fb_M_lessened_123 at hf
  refine lv_iload hx hb d_M_lessened_123 (lv_at hl 9 rfl) ?_
  refine lv_iload_n hx hb d_M_lessened_125 rfl (lv_at hl 1 rfl) ?_
  refine lv_icmp_ge (tgt := 213) hx hb d_M_lessened_126 (by decide) (fun hc => ?_) (fun hc => ?_)
  · rw [br_p _ hc] at hf
    exact wb_M_lessened_213 C0 hR N G hG _ _ _ _ _ _ _ _ hf H locs hP hD hS ls (lv_sub hl [0, 1, 2, 3, 4, 5, 6] rfl)
  · rw [br_n _ hc] at hf
    refine lv_iload hx hb d_M_lessened_129 (lv_at hl 10 rfl) ?_
    refine lv_if_eq (tgt := 213) hx hb d_M_lessened_131 (by decide) (fun hc => ?_) (fun hc => ?_)
    · rw [br_p _ hc] at hf
      exact wb_M_lessened_213 C0 hR N G hG _ _ _ _ _ _ _ _ hf H locs hP hD hS ls (lv_sub hl [0, 1, 2, 3, 4, 5, 6] rfl)
    · rw [br_n _ hc] at hf
      refine lv_aload_n hx hb d_M_lessened_134 rfl (lv_at hl 0 rfl) ?_
      refine ug_R hx hb ht hown hM hK hP 168 (by decide) lk_M_168 (by decide) d_M_lessened_135 ?_
      refine lv_iload hx hb d_M_lessened_138 (lv_at hl 9 rfl) ?_
      obtain ⟨hi9, hf⟩ := ck_some hf
      refine ul_Z hx hb hK hP (by decide) (by decide) hi9 d_M_lessened_140 ?_
      refine lv_if_ne (tgt := 190) hx hb d_M_lessened_141 (by decide) (fun hc => ?_) (fun hc => ?_)
      · rw [br_n _ hc] at hf
        exact wb_M_lessened_190 C0 hR N G hG _ _ _ _ _ _ _ _ _ _ _ _ hf H locs hP hD hS ls (lv_sub hl [0, 1, 2, 3, 4, 5, 6, 7, 8, 9, 10] rfl)
      · rw [br_p _ hc] at hf
        refine lv_aload_n hx hb d_M_lessened_144 rfl (lv_at hl 0 rfl) ?_
        refine lv_aload_n hx hb d_M_lessened_145 rfl (lv_at hl 0 rfl) ?_
        refine lv_aload_n hx hb d_M_lessened_146 rfl (lv_at hl 0 rfl) ?_
        refine ug_I hx hb ht hown hM hK hP 133 (by decide) lk_M_133 (by decide) d_M_lessened_147 ?_
        refine lv_lload hx hb d_M_lessened_150 (lv_at hl 8 rfl) ?_
        obtain ⟨u5, r5, hc5, hf⟩ := bnd_some hf
        refine mS_i (As := [.long v10]) (rest := [.int (u.1 133), .ref h0, .ref h0]) C0 hP hD hS (c_M_valueOf N hM hc5) k_M_valueOf hl_M_valueOf ht_M_valueOf hini_M rfl rfl hd_M_valueOf rfl (rm_M_lessened_M_valueOf hR) hl.1 (Nat.le_of_ble_eq_true rfl) d_M_lessened_152 rfl ⟨Nat.zero_le _, Nat.zero_le _⟩ (fun H locs hP hD hS => ?_)
        obtain ⟨u6, r6, hc6, hf⟩ := bnd_some hf
        refine mV_l (As := [.int (u.1 133), .int r5]) (rest := [.ref h0]) C0 hP hD hS (c_M_cell N hM hc6) k_M_cell hl_M_cell hi_M_cell hs_M_cell hini_M rfl rfl hd_M_cell rfl (rm_M_lessened_M_cell hR) hl.1 (Nat.le_of_ble_eq_true rfl) d_M_lessened_155 rfl ⟨Nat.zero_le _, Nat.zero_le _⟩ (fun H locs hP hD hS => ?_)
        refine lv_lload hx hb d_M_lessened_158 (lv_at hl 7 rfl) ?_
        obtain ⟨u7, r7, hc7, hf⟩ := bnd_some hf
        refine mV_i (As := [.long r6, .long v8]) (rest := []) C0 hP hD hS (c_M_order N hM hc7) k_M_order hl_M_order hi_M_order hs_M_order hini_M rfl rfl hd_M_order rfl (rm_M_lessened_M_order hR) hl.1 (Nat.le_of_ble_eq_true rfl) d_M_lessened_160 rfl ⟨Nat.zero_le _, Nat.zero_le _⟩ (fun H locs hP hD hS => ?_)
        refine lv_if_ne (tgt := 190) hx hb d_M_lessened_163 (by decide) (fun hc => ?_) (fun hc => ?_)
        · rw [br_n _ hc] at hf
          exact wb_M_lessened_190 C0 hR N G hG _ _ _ _ _ _ _ _ _ _ _ _ hf H locs hP hD hS ls (lv_sub hl [0, 1, 2, 3, 4, 5, 6, 7, 8, 9, 10] rfl)
        · rw [br_p _ hc] at hf
          refine lv_aload_n hx hb d_M_lessened_166 rfl (lv_at hl 0 rfl) ?_
          refine ug_R hx hb ht hown hM hK hP 168 (by decide) lk_M_168 (by decide) d_M_lessened_167 ?_
          refine lv_iload hx hb d_M_lessened_170 (lv_at hl 9 rfl) ?_
          refine lv_iconst (v := 1) hx hb d_M_lessened_172 (by decide) ?_
          obtain ⟨hi9, hf⟩ := ck_some hf
          refine us_Z hx hb hK hP hD hS (by decide) (by decide) hi9 d_M_lessened_173 (fun H locs hP hD hS => ?_)
          obtain ⟨w8, e8, hf⟩ := lt_some hf
          rw [← e8] at hP hD
          refine lv_iload hx hb d_M_lessened_174 (lv_at hl 9 rfl) ?_
          refine lv_iload_n hx hb d_M_lessened_176 rfl (lv_at hl 3 rfl) ?_
          refine lv_icmp_le (tgt := 185) hx hb d_M_lessened_177 (by decide) (fun hc => ?_) (fun hc => ?_)
          · rw [br_p _ hc] at hf
            refine lv_iload_n hx hb d_M_lessened_185 rfl (lv_at hl 3 rfl) ?_
            exact wb_M_lessened_186 C0 hR N G hG _ _ _ _ _ _ _ _ _ _ _ hf H locs hP hD hS ls (lv_sub hl [0, 1, 2, 4, 5, 6, 7, 8, 9] rfl)
          · rw [br_n _ hc] at hf
            refine lv_iload hx hb d_M_lessened_180 (lv_at hl 9 rfl) ?_
            refine lv_goto (tgt := 186) hx hb d_M_lessened_182 (by decide) ?_
            exact wb_M_lessened_186 C0 hR N G hG _ _ _ _ _ _ _ _ _ _ _ hf H locs hP hD hS ls (lv_sub hl [0, 1, 2, 4, 5, 6, 7, 8, 9] rfl)
def fb_M_lessened_72 (N : Nat) (G : (MS → Int32 → Int32 → Int32 → Option (MS × Unit)) × (MS → Int32 → Int32 → Int32 → Int32 → Int64 → Int32 → Option (MS × Unit)) × (MS → Int32 → Int32 → Int32 → Int32 → Int64 → Int32 → Int64 → Int64 → Int32 → Int32 → Option (MS × Unit)) × (MS → Int32 → Int32 → Int32 → Option (MS × Unit))) (u : MS) (v1 : Int32) (v2 : Int32) (v3 : Int32) (v4 : Int32) (v5 : Int64) (v7 : Int32) : Option (MS × Unit) := br (decide (v2 ≤ v7)) (G.2.2.2 u (v3) (v4) (0)) (bnd (fm_M_valueOf N u v5) (fun u9 r9 => bnd (fm_M_cell N u9 (u.1 133) r9) (fun u10 r10 => bnd (fm_M_valueOf N u10 v5) (fun u11 r11 => bnd (fm_M_cell N u11 (u10.1 133) (r11 + 1)) (fun u12 r12 => bnd (fm_M_top N u12 1) (fun u13 r13 => G.2.2.1 u13 (v1) (v2) (v3) (v4) (r12) (v7) (r10) (r13) (0) (1)))))))
set_option maxRecDepth 100000 in
set_option maxHeartbeats 4000000 in
theorem wb_M_lessened_72 {p : Program} {l : Launch} {e : Env} {R : Room} {s : State} {m : MethodId} {args : Array Value} {below : List Frame} {meth : Method} {c : Code} {D : va_G} {cl : List vw_C} {cB cI cJ cZ cS : ClassId} {A : Nat → Prop} {iM h0 : Nat} {ad : Nat → Nat} (C0 : MCx p s m args meth c b_M_lessened 14 none D cl cB cI cJ cZ cS iM A) (hR : R = rm_M_lessened) (N : Nat) (G : (MS → Int32 → Int32 → Int32 → Option (MS × Unit)) × (MS → Int32 → Int32 → Int32 → Int32 → Int64 → Int32 → Option (MS × Unit)) × (MS → Int32 → Int32 → Int32 → Int32 → Int64 → Int32 → Int64 → Int64 → Int32 → Int32 → Option (MS × Unit)) × (MS → Int32 → Int32 → Int32 → Option (MS × Unit))) (hG : (∀ (u : MS) (v1 : Int32) (v2 : Int32) (v3 : Int32) (x : MS × Unit), G.1 u v1 v2 v3 = some x → ∀ (H : Heap) (locs : List Loc), va_P D cl (wM cB cI cJ cZ cS iM h0 ad u) H → va_D A (wM cB cI cJ cZ cS iM h0 ad u) → va_S A s.heap H locs → ∀ (ls : Array Slot), lv_has ls 14 [(0, .ref h0), (1, .int v1), (2, .int v2), (3, .int v3)] → W p l e R s m args below meth c H locs 0 0 (MQ below (mQv D cl cB cI cJ cZ cS iM h0 ad A x) args s 0 0 A) (F0 m 39 ls [])) ∧ (∀ (u : MS) (v1 : Int32) (v2 : Int32) (v3 : Int32) (v4 : Int32) (v5 : Int64) (v7 : Int32) (x : MS × Unit), G.2.1 u v1 v2 v3 v4 v5 v7 = some x → ∀ (H : Heap) (locs : List Loc), va_P D cl (wM cB cI cJ cZ cS iM h0 ad u) H → va_D A (wM cB cI cJ cZ cS iM h0 ad u) → va_S A s.heap H locs → ∀ (ls : Array Slot), lv_has ls 14 [(0, .ref h0), (1, .int v1), (2, .int v2), (3, .int v3), (4, .int v4), (5, .long v5), (7, .int v7)] → W p l e R s m args below meth c H locs 0 0 (MQ below (mQv D cl cB cI cJ cZ cS iM h0 ad A x) args s 0 0 A) (F0 m 72 ls [])) ∧ (∀ (u : MS) (v1 : Int32) (v2 : Int32) (v3 : Int32) (v4 : Int32) (v5 : Int64) (v7 : Int32) (v8 : Int64) (v10 : Int64) (v12 : Int32) (v13 : Int32) (x : MS × Unit), G.2.2.1 u v1 v2 v3 v4 v5 v7 v8 v10 v12 v13 = some x → ∀ (H : Heap) (locs : List Loc), va_P D cl (wM cB cI cJ cZ cS iM h0 ad u) H → va_D A (wM cB cI cJ cZ cS iM h0 ad u) → va_S A s.heap H locs → ∀ (ls : Array Slot), lv_has ls 14 [(0, .ref h0), (1, .int v1), (2, .int v2), (3, .int v3), (4, .int v4), (5, .long v5), (7, .int v7), (8, .long v8), (10, .long v10), (12, .int v12), (13, .int v13)] → W p l e R s m args below meth c H locs 0 0 (MQ below (mQv D cl cB cI cJ cZ cS iM h0 ad A x) args s 0 0 A) (F0 m 123 ls [])) ∧ (∀ (u : MS) (v3 : Int32) (v4 : Int32) (v7 : Int32) (x : MS × Unit), G.2.2.2 u v3 v4 v7 = some x → ∀ (H : Heap) (locs : List Loc), va_P D cl (wM cB cI cJ cZ cS iM h0 ad u) H → va_D A (wM cB cI cJ cZ cS iM h0 ad u) → va_S A s.heap H locs → ∀ (ls : Array Slot), lv_has ls 14 [(0, .ref h0), (3, .int v3), (4, .int v4), (7, .int v7)] → W p l e R s m args below meth c H locs 0 0 (MQ below (mQv D cl cB cI cJ cZ cS iM h0 ad A x) args s 0 0 A) (F0 m 222 ls []))) : ∀ (u : MS) (v1 : Int32) (v2 : Int32) (v3 : Int32) (v4 : Int32) (v5 : Int64) (v7 : Int32) (x : MS × Unit), fb_M_lessened_72 N G u v1 v2 v3 v4 v5 v7 = some x → ∀ (H : Heap) (locs : List Loc), va_P D cl (wM cB cI cJ cZ cS iM h0 ad u) H → va_D A (wM cB cI cJ cZ cS iM h0 ad u) → va_S A s.heap H locs → ∀ (ls : Array Slot), lv_has ls 14 [(0, .ref h0), (1, .int v1), (2, .int v2), (3, .int v3), (4, .int v4), (5, .long v5), (7, .int v7)] → W p l e R s m args below meth c H locs 0 0 (MQ below (mQv D cl cB cI cJ cZ cS iM h0 ad A x) args s 0 0 A) (F0 m 72 ls []) := by
  intro u v1 v2 v3 v4 v5 v7 x hf H locs hP hD hS ls hl
  obtain ⟨hx, hb, hr, hml, ht, hown, hM, hK, hA, hlocks⟩ := id C0
  unfold fb_M_lessened_72 at hf
  refine lv_iload hx hb d_M_lessened_72 (lv_at hl 6 rfl) ?_
  refine lv_iload_n hx hb d_M_lessened_74 rfl (lv_at hl 2 rfl) ?_
  refine lv_icmp_ge (tgt := 219) hx hb d_M_lessened_75 (by decide) (fun hc => ?_) (fun hc => ?_)
  · rw [br_p _ hc] at hf
    refine lv_iconst (v := 0) hx hb d_M_lessened_219 (by decide) ?_
    refine lv_istore (lv' := [(7, .int 0), (0, .ref h0), (1, .int v1), (2, .int v2), (3, .int v3), (4, .int v4), (5, .long v5)]) hx hb d_M_lessened_220 hl (by decide) rfl (fun ls hl => ?_)
    exact hG.2.2.2 _ _ _ _ _ hf H locs hP hD hS ls (lv_sub hl [1, 4, 5, 0] rfl)
  · rw [br_n _ hc] at hf
    refine lv_aload_n hx hb d_M_lessened_78 rfl (lv_at hl 0 rfl) ?_
    refine lv_aload_n hx hb d_M_lessened_79 rfl (lv_at hl 0 rfl) ?_
    refine ug_I hx hb ht hown hM hK hP 133 (by decide) lk_M_133 (by decide) d_M_lessened_80 ?_
    refine lv_lload hx hb d_M_lessened_83 (lv_at hl 5 rfl) ?_
    obtain ⟨u9, r9, hc9, hf⟩ := bnd_some hf
    refine mS_i (As := [.long v5]) (rest := [.int (u.1 133), .ref h0]) C0 hP hD hS (c_M_valueOf N hM hc9) k_M_valueOf hl_M_valueOf ht_M_valueOf hini_M rfl rfl hd_M_valueOf rfl (rm_M_lessened_M_valueOf hR) hl.1 (Nat.le_of_ble_eq_true rfl) d_M_lessened_85 rfl ⟨Nat.zero_le _, Nat.zero_le _⟩ (fun H locs hP hD hS => ?_)
    obtain ⟨u10, r10, hc10, hf⟩ := bnd_some hf
    refine mV_l (As := [.int (u.1 133), .int r9]) (rest := []) C0 hP hD hS (c_M_cell N hM hc10) k_M_cell hl_M_cell hi_M_cell hs_M_cell hini_M rfl rfl hd_M_cell rfl (rm_M_lessened_M_cell hR) hl.1 (Nat.le_of_ble_eq_true rfl) d_M_lessened_88 rfl ⟨Nat.zero_le _, Nat.zero_le _⟩ (fun H locs hP hD hS => ?_)
    refine lv_lstore (lv' := [(8, .long r10), (0, .ref h0), (1, .int v1), (2, .int v2), (3, .int v3), (4, .int v4), (5, .long v5), (7, .int v7)]) hx hb d_M_lessened_91 hl (by decide) rfl (fun ls hl => ?_)
    refine lv_aload_n hx hb d_M_lessened_93 rfl (lv_at hl 1 rfl) ?_
    refine lv_aload_n hx hb d_M_lessened_94 rfl (lv_at hl 1 rfl) ?_
    refine ug_I hx hb ht hown hM hK hP 133 (by decide) lk_M_133 (by decide) d_M_lessened_95 ?_
    refine lv_lload hx hb d_M_lessened_98 (lv_at hl 6 rfl) ?_
    obtain ⟨u11, r11, hc11, hf⟩ := bnd_some hf
    refine mS_i (As := [.long v5]) (rest := [.int (u10.1 133), .ref h0]) C0 hP hD hS (c_M_valueOf N hM hc11) k_M_valueOf hl_M_valueOf ht_M_valueOf hini_M rfl rfl hd_M_valueOf rfl (rm_M_lessened_M_valueOf hR) hl.1 (Nat.le_of_ble_eq_true rfl) d_M_lessened_100 rfl ⟨Nat.zero_le _, Nat.zero_le _⟩ (fun H locs hP hD hS => ?_)
    refine lv_iconst (v := 1) hx hb d_M_lessened_103 (by decide) ?_
    refine lv_iadd hx hb d_M_lessened_104 ?_
    obtain ⟨u12, r12, hc12, hf⟩ := bnd_some hf
    refine mV_l (As := [.int (u10.1 133), .int (r11 + 1)]) (rest := []) C0 hP hD hS (c_M_cell N hM hc12) k_M_cell hl_M_cell hi_M_cell hs_M_cell hini_M rfl rfl hd_M_cell rfl (rm_M_lessened_M_cell hR) hl.1 (Nat.le_of_ble_eq_true rfl) d_M_lessened_105 rfl ⟨Nat.zero_le _, Nat.zero_le _⟩ (fun H locs hP hD hS => ?_)
    refine lv_lstore (lv' := [(5, .long r12), (8, .long r10), (0, .ref h0), (1, .int v1), (2, .int v2), (3, .int v3), (4, .int v4), (7, .int v7)]) hx hb d_M_lessened_108 hl (by decide) rfl (fun ls hl => ?_)
    refine lv_aload_n hx hb d_M_lessened_110 rfl (lv_at hl 2 rfl) ?_
    refine lv_iconst (v := 1) hx hb d_M_lessened_111 (by decide) ?_
    obtain ⟨u13, r13, hc13, hf⟩ := bnd_some hf
    refine mV_l (As := [.int 1]) (rest := []) C0 hP hD hS (c_M_top N hM hc13) k_M_top hl_M_top hi_M_top hs_M_top hini_M rfl rfl hd_M_top rfl (rm_M_lessened_M_top hR) hl.1 (Nat.le_of_ble_eq_true rfl) d_M_lessened_112 rfl ⟨Nat.zero_le _, Nat.zero_le _⟩ (fun H locs hP hD hS => ?_)
    refine lv_lstore (lv' := [(10, .long r13), (5, .long r12), (8, .long r10), (0, .ref h0), (1, .int v1), (2, .int v2), (3, .int v3), (4, .int v4), (7, .int v7)]) hx hb d_M_lessened_115 hl (by decide) rfl (fun ls hl => ?_)
    refine lv_iconst (v := 0) hx hb d_M_lessened_117 (by decide) ?_
    refine lv_istore (lv' := [(12, .int 0), (10, .long r13), (5, .long r12), (8, .long r10), (0, .ref h0), (1, .int v1), (2, .int v2), (3, .int v3), (4, .int v4), (7, .int v7)]) hx hb d_M_lessened_118 hl (by decide) rfl (fun ls hl => ?_)
    refine lv_iconst (v := 1) hx hb d_M_lessened_120 (by decide) ?_
    refine lv_istore (lv' := [(13, .int 1), (12, .int 0), (10, .long r13), (5, .long r12), (8, .long r10), (0, .ref h0), (1, .int v1), (2, .int v2), (3, .int v3), (4, .int v4), (7, .int v7)]) hx hb d_M_lessened_121 hl (by decide) rfl (fun ls hl => ?_)
    exact hG.2.2.1 _ _ _ _ _ _ _ _ _ _ _ _ hf H locs hP hD hS ls (lv_sub hl [5, 6, 7, 8, 9, 3, 10, 4, 2, 1, 0] rfl)
def fb_M_lessened_39 (N : Nat) (G : (MS → Int32 → Int32 → Int32 → Option (MS × Unit)) × (MS → Int32 → Int32 → Int32 → Int32 → Int64 → Int32 → Option (MS × Unit)) × (MS → Int32 → Int32 → Int32 → Int32 → Int64 → Int32 → Int64 → Int64 → Int32 → Int32 → Option (MS × Unit)) × (MS → Int32 → Int32 → Int32 → Option (MS × Unit))) (u : MS) (v1 : Int32) (v2 : Int32) (v3 : Int32) : Option (MS × Unit) := br (decide (v1 ≤ v3)) (bnd (fm_M_top N u 0) (fun u14 r14 => G.2.1 u14 (v1) (v2) ((-1)) (0) (r14) (0))) (ck (inb v3 (ln 168)) (lt (upA u 168 (upd (u.2.2.1 168) v3.toNatClampNeg (vp_nar .boolean 0))) (fun w15 => G.1 w15 (v1) (v2) ((v3 + 1)))))
set_option maxRecDepth 100000 in
set_option maxHeartbeats 4000000 in
theorem wb_M_lessened_39 {p : Program} {l : Launch} {e : Env} {R : Room} {s : State} {m : MethodId} {args : Array Value} {below : List Frame} {meth : Method} {c : Code} {D : va_G} {cl : List vw_C} {cB cI cJ cZ cS : ClassId} {A : Nat → Prop} {iM h0 : Nat} {ad : Nat → Nat} (C0 : MCx p s m args meth c b_M_lessened 14 none D cl cB cI cJ cZ cS iM A) (hR : R = rm_M_lessened) (N : Nat) (G : (MS → Int32 → Int32 → Int32 → Option (MS × Unit)) × (MS → Int32 → Int32 → Int32 → Int32 → Int64 → Int32 → Option (MS × Unit)) × (MS → Int32 → Int32 → Int32 → Int32 → Int64 → Int32 → Int64 → Int64 → Int32 → Int32 → Option (MS × Unit)) × (MS → Int32 → Int32 → Int32 → Option (MS × Unit))) (hG : (∀ (u : MS) (v1 : Int32) (v2 : Int32) (v3 : Int32) (x : MS × Unit), G.1 u v1 v2 v3 = some x → ∀ (H : Heap) (locs : List Loc), va_P D cl (wM cB cI cJ cZ cS iM h0 ad u) H → va_D A (wM cB cI cJ cZ cS iM h0 ad u) → va_S A s.heap H locs → ∀ (ls : Array Slot), lv_has ls 14 [(0, .ref h0), (1, .int v1), (2, .int v2), (3, .int v3)] → W p l e R s m args below meth c H locs 0 0 (MQ below (mQv D cl cB cI cJ cZ cS iM h0 ad A x) args s 0 0 A) (F0 m 39 ls [])) ∧ (∀ (u : MS) (v1 : Int32) (v2 : Int32) (v3 : Int32) (v4 : Int32) (v5 : Int64) (v7 : Int32) (x : MS × Unit), G.2.1 u v1 v2 v3 v4 v5 v7 = some x → ∀ (H : Heap) (locs : List Loc), va_P D cl (wM cB cI cJ cZ cS iM h0 ad u) H → va_D A (wM cB cI cJ cZ cS iM h0 ad u) → va_S A s.heap H locs → ∀ (ls : Array Slot), lv_has ls 14 [(0, .ref h0), (1, .int v1), (2, .int v2), (3, .int v3), (4, .int v4), (5, .long v5), (7, .int v7)] → W p l e R s m args below meth c H locs 0 0 (MQ below (mQv D cl cB cI cJ cZ cS iM h0 ad A x) args s 0 0 A) (F0 m 72 ls [])) ∧ (∀ (u : MS) (v1 : Int32) (v2 : Int32) (v3 : Int32) (v4 : Int32) (v5 : Int64) (v7 : Int32) (v8 : Int64) (v10 : Int64) (v12 : Int32) (v13 : Int32) (x : MS × Unit), G.2.2.1 u v1 v2 v3 v4 v5 v7 v8 v10 v12 v13 = some x → ∀ (H : Heap) (locs : List Loc), va_P D cl (wM cB cI cJ cZ cS iM h0 ad u) H → va_D A (wM cB cI cJ cZ cS iM h0 ad u) → va_S A s.heap H locs → ∀ (ls : Array Slot), lv_has ls 14 [(0, .ref h0), (1, .int v1), (2, .int v2), (3, .int v3), (4, .int v4), (5, .long v5), (7, .int v7), (8, .long v8), (10, .long v10), (12, .int v12), (13, .int v13)] → W p l e R s m args below meth c H locs 0 0 (MQ below (mQv D cl cB cI cJ cZ cS iM h0 ad A x) args s 0 0 A) (F0 m 123 ls [])) ∧ (∀ (u : MS) (v3 : Int32) (v4 : Int32) (v7 : Int32) (x : MS × Unit), G.2.2.2 u v3 v4 v7 = some x → ∀ (H : Heap) (locs : List Loc), va_P D cl (wM cB cI cJ cZ cS iM h0 ad u) H → va_D A (wM cB cI cJ cZ cS iM h0 ad u) → va_S A s.heap H locs → ∀ (ls : Array Slot), lv_has ls 14 [(0, .ref h0), (3, .int v3), (4, .int v4), (7, .int v7)] → W p l e R s m args below meth c H locs 0 0 (MQ below (mQv D cl cB cI cJ cZ cS iM h0 ad A x) args s 0 0 A) (F0 m 222 ls []))) : ∀ (u : MS) (v1 : Int32) (v2 : Int32) (v3 : Int32) (x : MS × Unit), fb_M_lessened_39 N G u v1 v2 v3 = some x → ∀ (H : Heap) (locs : List Loc), va_P D cl (wM cB cI cJ cZ cS iM h0 ad u) H → va_D A (wM cB cI cJ cZ cS iM h0 ad u) → va_S A s.heap H locs → ∀ (ls : Array Slot), lv_has ls 14 [(0, .ref h0), (1, .int v1), (2, .int v2), (3, .int v3)] → W p l e R s m args below meth c H locs 0 0 (MQ below (mQv D cl cB cI cJ cZ cS iM h0 ad A x) args s 0 0 A) (F0 m 39 ls []) := by
  intro u v1 v2 v3 x hf H locs hP hD hS ls hl
  obtain ⟨hx, hb, hr, hml, ht, hown, hM, hK, hA, hlocks⟩ := id C0
  unfold fb_M_lessened_39 at hf
  refine lv_iload_n hx hb d_M_lessened_39 rfl (lv_at hl 3 rfl) ?_
  refine lv_iload_n hx hb d_M_lessened_40 rfl (lv_at hl 1 rfl) ?_
  refine lv_icmp_ge (tgt := 57) hx hb d_M_lessened_41 (by decide) (fun hc => ?_) (fun hc => ?_)
  · rw [br_p _ hc] at hf
    refine lv_iconst (v := (-1)) hx hb d_M_lessened_57 (by decide) ?_
    refine lv_istore_n (lv' := [(3, .int (-1)), (0, .ref h0), (1, .int v1), (2, .int v2)]) hx hb d_M_lessened_58 rfl hl (by decide) rfl (fun ls hl => ?_)
    refine lv_iconst (v := 0) hx hb d_M_lessened_59 (by decide) ?_
    refine lv_istore (lv' := [(4, .int 0), (3, .int (-1)), (0, .ref h0), (1, .int v1), (2, .int v2)]) hx hb d_M_lessened_60 hl (by decide) rfl (fun ls hl => ?_)
    refine lv_aload_n hx hb d_M_lessened_62 rfl (lv_at hl 2 rfl) ?_
    refine lv_iconst (v := 0) hx hb d_M_lessened_63 (by decide) ?_
    obtain ⟨u14, r14, hc14, hf⟩ := bnd_some hf
    refine mV_l (As := [.int 0]) (rest := []) C0 hP hD hS (c_M_top N hM hc14) k_M_top hl_M_top hi_M_top hs_M_top hini_M rfl rfl hd_M_top rfl (rm_M_lessened_M_top hR) hl.1 (Nat.le_of_ble_eq_true rfl) d_M_lessened_64 rfl ⟨Nat.zero_le _, Nat.zero_le _⟩ (fun H locs hP hD hS => ?_)
    refine lv_lstore (lv' := [(5, .long r14), (4, .int 0), (3, .int (-1)), (0, .ref h0), (1, .int v1), (2, .int v2)]) hx hb d_M_lessened_67 hl (by decide) rfl (fun ls hl => ?_)
    refine lv_iconst (v := 0) hx hb d_M_lessened_69 (by decide) ?_
    refine lv_istore (lv' := [(7, .int 0), (5, .long r14), (4, .int 0), (3, .int (-1)), (0, .ref h0), (1, .int v1), (2, .int v2)]) hx hb d_M_lessened_70 hl (by decide) rfl (fun ls hl => ?_)
    exact hG.2.1 _ _ _ _ _ _ _ _ hf H locs hP hD hS ls (lv_sub hl [4, 5, 6, 3, 2, 1, 0] rfl)
  · rw [br_n _ hc] at hf
    refine lv_aload_n hx hb d_M_lessened_44 rfl (lv_at hl 0 rfl) ?_
    refine ug_R hx hb ht hown hM hK hP 168 (by decide) lk_M_168 (by decide) d_M_lessened_45 ?_
    refine lv_iload_n hx hb d_M_lessened_48 rfl (lv_at hl 3 rfl) ?_
    refine lv_iconst (v := 0) hx hb d_M_lessened_49 (by decide) ?_
    obtain ⟨hi9, hf⟩ := ck_some hf
    refine us_Z hx hb hK hP hD hS (by decide) (by decide) hi9 d_M_lessened_50 (fun H locs hP hD hS => ?_)
    obtain ⟨w15, e15, hf⟩ := lt_some hf
    rw [← e15] at hP hD
    refine lv_iinc (v := (v3 + 1)) (lv' := [(3, .int (v3 + 1)), (0, .ref h0), (1, .int v1), (2, .int v2)]) hx hb d_M_lessened_51 hl (k := 3) rfl rfl (by decide) rfl (fun ls hl => ?_)
    refine lv_goto (tgt := 39) hx hb d_M_lessened_54 (by decide) ?_
    exact hG.1 _ _ _ _ _ hf H locs hP hD hS ls (lv_sub hl [1, 2, 3, 0] rfl)
def fb_M_lessened_30 (N : Nat) (G : (MS → Int32 → Int32 → Int32 → Option (MS × Unit)) × (MS → Int32 → Int32 → Int32 → Int32 → Int64 → Int32 → Option (MS × Unit)) × (MS → Int32 → Int32 → Int32 → Int32 → Int64 → Int32 → Int64 → Int64 → Int32 → Int32 → Option (MS × Unit)) × (MS → Int32 → Int32 → Int32 → Option (MS × Unit))) (u : MS) : Option (MS × Unit) := bnd (fr_M_error N u 11) (fun u16 _ => some (u16, ()))
set_option maxRecDepth 100000 in
set_option maxHeartbeats 4000000 in
theorem wb_M_lessened_30 {p : Program} {l : Launch} {e : Env} {R : Room} {s : State} {m : MethodId} {args : Array Value} {below : List Frame} {meth : Method} {c : Code} {D : va_G} {cl : List vw_C} {cB cI cJ cZ cS : ClassId} {A : Nat → Prop} {iM h0 : Nat} {ad : Nat → Nat} (C0 : MCx p s m args meth c b_M_lessened 14 none D cl cB cI cJ cZ cS iM A) (hR : R = rm_M_lessened) (N : Nat) (G : (MS → Int32 → Int32 → Int32 → Option (MS × Unit)) × (MS → Int32 → Int32 → Int32 → Int32 → Int64 → Int32 → Option (MS × Unit)) × (MS → Int32 → Int32 → Int32 → Int32 → Int64 → Int32 → Int64 → Int64 → Int32 → Int32 → Option (MS × Unit)) × (MS → Int32 → Int32 → Int32 → Option (MS × Unit))) (hG : (∀ (u : MS) (v1 : Int32) (v2 : Int32) (v3 : Int32) (x : MS × Unit), G.1 u v1 v2 v3 = some x → ∀ (H : Heap) (locs : List Loc), va_P D cl (wM cB cI cJ cZ cS iM h0 ad u) H → va_D A (wM cB cI cJ cZ cS iM h0 ad u) → va_S A s.heap H locs → ∀ (ls : Array Slot), lv_has ls 14 [(0, .ref h0), (1, .int v1), (2, .int v2), (3, .int v3)] → W p l e R s m args below meth c H locs 0 0 (MQ below (mQv D cl cB cI cJ cZ cS iM h0 ad A x) args s 0 0 A) (F0 m 39 ls [])) ∧ (∀ (u : MS) (v1 : Int32) (v2 : Int32) (v3 : Int32) (v4 : Int32) (v5 : Int64) (v7 : Int32) (x : MS × Unit), G.2.1 u v1 v2 v3 v4 v5 v7 = some x → ∀ (H : Heap) (locs : List Loc), va_P D cl (wM cB cI cJ cZ cS iM h0 ad u) H → va_D A (wM cB cI cJ cZ cS iM h0 ad u) → va_S A s.heap H locs → ∀ (ls : Array Slot), lv_has ls 14 [(0, .ref h0), (1, .int v1), (2, .int v2), (3, .int v3), (4, .int v4), (5, .long v5), (7, .int v7)] → W p l e R s m args below meth c H locs 0 0 (MQ below (mQv D cl cB cI cJ cZ cS iM h0 ad A x) args s 0 0 A) (F0 m 72 ls [])) ∧ (∀ (u : MS) (v1 : Int32) (v2 : Int32) (v3 : Int32) (v4 : Int32) (v5 : Int64) (v7 : Int32) (v8 : Int64) (v10 : Int64) (v12 : Int32) (v13 : Int32) (x : MS × Unit), G.2.2.1 u v1 v2 v3 v4 v5 v7 v8 v10 v12 v13 = some x → ∀ (H : Heap) (locs : List Loc), va_P D cl (wM cB cI cJ cZ cS iM h0 ad u) H → va_D A (wM cB cI cJ cZ cS iM h0 ad u) → va_S A s.heap H locs → ∀ (ls : Array Slot), lv_has ls 14 [(0, .ref h0), (1, .int v1), (2, .int v2), (3, .int v3), (4, .int v4), (5, .long v5), (7, .int v7), (8, .long v8), (10, .long v10), (12, .int v12), (13, .int v13)] → W p l e R s m args below meth c H locs 0 0 (MQ below (mQv D cl cB cI cJ cZ cS iM h0 ad A x) args s 0 0 A) (F0 m 123 ls [])) ∧ (∀ (u : MS) (v3 : Int32) (v4 : Int32) (v7 : Int32) (x : MS × Unit), G.2.2.2 u v3 v4 v7 = some x → ∀ (H : Heap) (locs : List Loc), va_P D cl (wM cB cI cJ cZ cS iM h0 ad u) H → va_D A (wM cB cI cJ cZ cS iM h0 ad u) → va_S A s.heap H locs → ∀ (ls : Array Slot), lv_has ls 14 [(0, .ref h0), (3, .int v3), (4, .int v4), (7, .int v7)] → W p l e R s m args below meth c H locs 0 0 (MQ below (mQv D cl cB cI cJ cZ cS iM h0 ad A x) args s 0 0 A) (F0 m 222 ls []))) : ∀ (u : MS) (x : MS × Unit), fb_M_lessened_30 N G u = some x → ∀ (H : Heap) (locs : List Loc), va_P D cl (wM cB cI cJ cZ cS iM h0 ad u) H → va_D A (wM cB cI cJ cZ cS iM h0 ad u) → va_S A s.heap H locs → ∀ (ls : Array Slot), lv_has ls 14 [(0, .ref h0)] → W p l e R s m args below meth c H locs 0 0 (MQ below (mQv D cl cB cI cJ cZ cS iM h0 ad A x) args s 0 0 A) (F0 m 30 ls []) := by
  intro u x hf H locs hP hD hS ls hl
  obtain ⟨hx, hb, hr, hml, ht, hown, hM, hK, hA, hlocks⟩ := id C0
  unfold fb_M_lessened_30 at hf
  refine lv_aload_n hx hb d_M_lessened_30 rfl (lv_at hl 0 rfl) ?_
  refine lv_bipush (v := 11) hx hb d_M_lessened_31 (by decide) ?_
  obtain ⟨u16, r16, hc16, hf⟩ := bnd_some hf
  refine mV_v (As := [.int 11]) (rest := []) C0 hP hD hS (c_M_error N hM hc16) k_M_error hl_M_error hi_M_error hs_M_error hini_M rfl rfl hd_M_error rfl (rm_M_lessened_M_error hR) hl.1 (Nat.le_of_ble_eq_true rfl) d_M_lessened_33 rfl ⟨Nat.zero_le _, Nat.zero_le _⟩ (fun H locs hP hD hS => ?_)
  exact mr_v C0 hP hD hS hf d_M_lessened_36
def fb_M_lessened_0 (N : Nat) (G : (MS → Int32 → Int32 → Int32 → Option (MS × Unit)) × (MS → Int32 → Int32 → Int32 → Int32 → Int64 → Int32 → Option (MS × Unit)) × (MS → Int32 → Int32 → Int32 → Int32 → Int64 → Int32 → Int64 → Int64 → Int32 → Int32 → Option (MS × Unit)) × (MS → Int32 → Int32 → Int32 → Option (MS × Unit))) (u : MS) : Option (MS × Unit) := bnd (fm_M_top N u 1) (fun u17 r17 => bnd (fm_M_lengthOf N u17 r17) (fun u18 r18 => bnd (fm_M_top N u18 0) (fun u19 r19 => bnd (fm_M_lengthOf N u19 r19) (fun u20 r20 => br (decide (r18 = (-1))) (fb_M_lessened_30 N G u20) (br (decide (r20 = (-1))) (fb_M_lessened_30 N G u20) (G.1 u20 (r18) (r20) (0)))))))
set_option maxRecDepth 100000 in
set_option maxHeartbeats 4000000 in
theorem wb_M_lessened_0 {p : Program} {l : Launch} {e : Env} {R : Room} {s : State} {m : MethodId} {args : Array Value} {below : List Frame} {meth : Method} {c : Code} {D : va_G} {cl : List vw_C} {cB cI cJ cZ cS : ClassId} {A : Nat → Prop} {iM h0 : Nat} {ad : Nat → Nat} (C0 : MCx p s m args meth c b_M_lessened 14 none D cl cB cI cJ cZ cS iM A) (hR : R = rm_M_lessened) (N : Nat) (G : (MS → Int32 → Int32 → Int32 → Option (MS × Unit)) × (MS → Int32 → Int32 → Int32 → Int32 → Int64 → Int32 → Option (MS × Unit)) × (MS → Int32 → Int32 → Int32 → Int32 → Int64 → Int32 → Int64 → Int64 → Int32 → Int32 → Option (MS × Unit)) × (MS → Int32 → Int32 → Int32 → Option (MS × Unit))) (hG : (∀ (u : MS) (v1 : Int32) (v2 : Int32) (v3 : Int32) (x : MS × Unit), G.1 u v1 v2 v3 = some x → ∀ (H : Heap) (locs : List Loc), va_P D cl (wM cB cI cJ cZ cS iM h0 ad u) H → va_D A (wM cB cI cJ cZ cS iM h0 ad u) → va_S A s.heap H locs → ∀ (ls : Array Slot), lv_has ls 14 [(0, .ref h0), (1, .int v1), (2, .int v2), (3, .int v3)] → W p l e R s m args below meth c H locs 0 0 (MQ below (mQv D cl cB cI cJ cZ cS iM h0 ad A x) args s 0 0 A) (F0 m 39 ls [])) ∧ (∀ (u : MS) (v1 : Int32) (v2 : Int32) (v3 : Int32) (v4 : Int32) (v5 : Int64) (v7 : Int32) (x : MS × Unit), G.2.1 u v1 v2 v3 v4 v5 v7 = some x → ∀ (H : Heap) (locs : List Loc), va_P D cl (wM cB cI cJ cZ cS iM h0 ad u) H → va_D A (wM cB cI cJ cZ cS iM h0 ad u) → va_S A s.heap H locs → ∀ (ls : Array Slot), lv_has ls 14 [(0, .ref h0), (1, .int v1), (2, .int v2), (3, .int v3), (4, .int v4), (5, .long v5), (7, .int v7)] → W p l e R s m args below meth c H locs 0 0 (MQ below (mQv D cl cB cI cJ cZ cS iM h0 ad A x) args s 0 0 A) (F0 m 72 ls [])) ∧ (∀ (u : MS) (v1 : Int32) (v2 : Int32) (v3 : Int32) (v4 : Int32) (v5 : Int64) (v7 : Int32) (v8 : Int64) (v10 : Int64) (v12 : Int32) (v13 : Int32) (x : MS × Unit), G.2.2.1 u v1 v2 v3 v4 v5 v7 v8 v10 v12 v13 = some x → ∀ (H : Heap) (locs : List Loc), va_P D cl (wM cB cI cJ cZ cS iM h0 ad u) H → va_D A (wM cB cI cJ cZ cS iM h0 ad u) → va_S A s.heap H locs → ∀ (ls : Array Slot), lv_has ls 14 [(0, .ref h0), (1, .int v1), (2, .int v2), (3, .int v3), (4, .int v4), (5, .long v5), (7, .int v7), (8, .long v8), (10, .long v10), (12, .int v12), (13, .int v13)] → W p l e R s m args below meth c H locs 0 0 (MQ below (mQv D cl cB cI cJ cZ cS iM h0 ad A x) args s 0 0 A) (F0 m 123 ls [])) ∧ (∀ (u : MS) (v3 : Int32) (v4 : Int32) (v7 : Int32) (x : MS × Unit), G.2.2.2 u v3 v4 v7 = some x → ∀ (H : Heap) (locs : List Loc), va_P D cl (wM cB cI cJ cZ cS iM h0 ad u) H → va_D A (wM cB cI cJ cZ cS iM h0 ad u) → va_S A s.heap H locs → ∀ (ls : Array Slot), lv_has ls 14 [(0, .ref h0), (3, .int v3), (4, .int v4), (7, .int v7)] → W p l e R s m args below meth c H locs 0 0 (MQ below (mQv D cl cB cI cJ cZ cS iM h0 ad A x) args s 0 0 A) (F0 m 222 ls []))) : ∀ (u : MS) (x : MS × Unit), fb_M_lessened_0 N G u = some x → ∀ (H : Heap) (locs : List Loc), va_P D cl (wM cB cI cJ cZ cS iM h0 ad u) H → va_D A (wM cB cI cJ cZ cS iM h0 ad u) → va_S A s.heap H locs → ∀ (ls : Array Slot), lv_has ls 14 [(0, .ref h0)] → W p l e R s m args below meth c H locs 0 0 (MQ below (mQv D cl cB cI cJ cZ cS iM h0 ad A x) args s 0 0 A) (F0 m 0 ls []) := by
  intro u x hf H locs hP hD hS ls hl
  obtain ⟨hx, hb, hr, hml, ht, hown, hM, hK, hA, hlocks⟩ := id C0
  unfold fb_M_lessened_0 at hf
  refine lv_aload_n hx hb d_M_lessened_0 rfl (lv_at hl 0 rfl) ?_
  refine lv_aload_n hx hb d_M_lessened_1 rfl (lv_at hl 0 rfl) ?_
  refine lv_iconst (v := 1) hx hb d_M_lessened_2 (by decide) ?_
  obtain ⟨u17, r17, hc17, hf⟩ := bnd_some hf
  refine mV_l (As := [.int 1]) (rest := [.ref h0]) C0 hP hD hS (c_M_top N hM hc17) k_M_top hl_M_top hi_M_top hs_M_top hini_M rfl rfl hd_M_top rfl (rm_M_lessened_M_top hR) hl.1 (Nat.le_of_ble_eq_true rfl) d_M_lessened_3 rfl ⟨Nat.zero_le _, Nat.zero_le _⟩ (fun H locs hP hD hS => ?_)
  obtain ⟨u18, r18, hc18, hf⟩ := bnd_some hf
  refine mV_i (As := [.long r17]) (rest := []) C0 hP hD hS (c_M_lengthOf N hM hc18) k_M_lengthOf hl_M_lengthOf hi_M_lengthOf hs_M_lengthOf hini_M rfl rfl hd_M_lengthOf rfl (rm_M_lessened_M_lengthOf hR) hl.1 (Nat.le_of_ble_eq_true rfl) d_M_lessened_6 rfl ⟨Nat.zero_le _, Nat.zero_le _⟩ (fun H locs hP hD hS => ?_)
  refine lv_istore_n (lv' := [(1, .int r18), (0, .ref h0)]) hx hb d_M_lessened_9 rfl hl (by decide) rfl (fun ls hl => ?_)
  refine lv_aload_n hx hb d_M_lessened_10 rfl (lv_at hl 1 rfl) ?_
  refine lv_aload_n hx hb d_M_lessened_11 rfl (lv_at hl 1 rfl) ?_
  refine lv_iconst (v := 0) hx hb d_M_lessened_12 (by decide) ?_
  obtain ⟨u19, r19, hc19, hf⟩ := bnd_some hf
  refine mV_l (As := [.int 0]) (rest := [.ref h0]) C0 hP hD hS (c_M_top N hM hc19) k_M_top hl_M_top hi_M_top hs_M_top hini_M rfl rfl hd_M_top rfl (rm_M_lessened_M_top hR) hl.1 (Nat.le_of_ble_eq_true rfl) d_M_lessened_13 rfl ⟨Nat.zero_le _, Nat.zero_le _⟩ (fun H locs hP hD hS => ?_)
  obtain ⟨u20, r20, hc20, hf⟩ := bnd_some hf
  refine mV_i (As := [.long r19]) (rest := []) C0 hP hD hS (c_M_lengthOf N hM hc20) k_M_lengthOf hl_M_lengthOf hi_M_lengthOf hs_M_lengthOf hini_M rfl rfl hd_M_lengthOf rfl (rm_M_lessened_M_lengthOf hR) hl.1 (Nat.le_of_ble_eq_true rfl) d_M_lessened_16 rfl ⟨Nat.zero_le _, Nat.zero_le _⟩ (fun H locs hP hD hS => ?_)
  refine lv_istore_n (lv' := [(2, .int r20), (1, .int r18), (0, .ref h0)]) hx hb d_M_lessened_19 rfl hl (by decide) rfl (fun ls hl => ?_)
  refine lv_iload_n hx hb d_M_lessened_20 rfl (lv_at hl 1 rfl) ?_
  refine lv_iconst (v := (-1)) hx hb d_M_lessened_21 (by decide) ?_
  refine lv_icmp_eq (tgt := 30) hx hb d_M_lessened_22 (by decide) (fun hc => ?_) (fun hc => ?_)
  · rw [br_p _ hc] at hf
    exact wb_M_lessened_30 C0 hR N G hG _ _ hf H locs hP hD hS ls (lv_sub hl [2] rfl)
  · rw [br_n _ hc] at hf
    refine lv_iload_n hx hb d_M_lessened_25 rfl (lv_at hl 0 rfl) ?_
    refine lv_iconst (v := (-1)) hx hb d_M_lessened_26 (by decide) ?_
    refine lv_icmp_ne (tgt := 37) hx hb d_M_lessened_27 (by decide) (fun hc => ?_) (fun hc => ?_)
    · rw [br_n _ hc] at hf
      refine lv_iconst (v := 0) hx hb d_M_lessened_37 (by decide) ?_
      refine lv_istore_n (lv' := [(3, .int 0), (2, .int r20), (1, .int r18), (0, .ref h0)]) hx hb d_M_lessened_38 rfl hl (by decide) rfl (fun ls hl => ?_)
      exact hG.1 _ _ _ _ _ hf H locs hP hD hS ls (lv_sub hl [3, 2, 1, 0] rfl)
    · rw [br_p _ hc] at hf
      exact wb_M_lessened_30 C0 hR N G hG _ _ hf H locs hP hD hS ls (lv_sub hl [2] rfl)
def gg_M_lessened (N : Nat) : Nat → ((MS → Int32 → Int32 → Int32 → Option (MS × Unit)) × (MS → Int32 → Int32 → Int32 → Int32 → Int64 → Int32 → Option (MS × Unit)) × (MS → Int32 → Int32 → Int32 → Int32 → Int64 → Int32 → Int64 → Int64 → Int32 → Int32 → Option (MS × Unit)) × (MS → Int32 → Int32 → Int32 → Option (MS × Unit)))
  | 0 => (fun _ _ _ _ => none, fun _ _ _ _ _ _ _ => none, fun _ _ _ _ _ _ _ _ _ _ _ => none, fun _ _ _ _ => none)
  | n + 1 => (fb_M_lessened_39 N (gg_M_lessened N n), fb_M_lessened_72 N (gg_M_lessened N n), fb_M_lessened_123 N (gg_M_lessened N n), fb_M_lessened_222 N (gg_M_lessened N n))
theorem wg_M_lessened {p : Program} {l : Launch} {e : Env} {R : Room} {s : State} {m : MethodId} {args : Array Value} {below : List Frame} {meth : Method} {c : Code} {D : va_G} {cl : List vw_C} {cB cI cJ cZ cS : ClassId} {A : Nat → Prop} {iM h0 : Nat} {ad : Nat → Nat} (C0 : MCx p s m args meth c b_M_lessened 14 none D cl cB cI cJ cZ cS iM A) (hR : R = rm_M_lessened) (N : Nat) : ∀ n : Nat, (∀ (u : MS) (v1 : Int32) (v2 : Int32) (v3 : Int32) (x : MS × Unit), (gg_M_lessened N n).1 u v1 v2 v3 = some x → ∀ (H : Heap) (locs : List Loc), va_P D cl (wM cB cI cJ cZ cS iM h0 ad u) H → va_D A (wM cB cI cJ cZ cS iM h0 ad u) → va_S A s.heap H locs → ∀ (ls : Array Slot), lv_has ls 14 [(0, .ref h0), (1, .int v1), (2, .int v2), (3, .int v3)] → W p l e R s m args below meth c H locs 0 0 (MQ below (mQv D cl cB cI cJ cZ cS iM h0 ad A x) args s 0 0 A) (F0 m 39 ls [])) ∧ (∀ (u : MS) (v1 : Int32) (v2 : Int32) (v3 : Int32) (v4 : Int32) (v5 : Int64) (v7 : Int32) (x : MS × Unit), (gg_M_lessened N n).2.1 u v1 v2 v3 v4 v5 v7 = some x → ∀ (H : Heap) (locs : List Loc), va_P D cl (wM cB cI cJ cZ cS iM h0 ad u) H → va_D A (wM cB cI cJ cZ cS iM h0 ad u) → va_S A s.heap H locs → ∀ (ls : Array Slot), lv_has ls 14 [(0, .ref h0), (1, .int v1), (2, .int v2), (3, .int v3), (4, .int v4), (5, .long v5), (7, .int v7)] → W p l e R s m args below meth c H locs 0 0 (MQ below (mQv D cl cB cI cJ cZ cS iM h0 ad A x) args s 0 0 A) (F0 m 72 ls [])) ∧ (∀ (u : MS) (v1 : Int32) (v2 : Int32) (v3 : Int32) (v4 : Int32) (v5 : Int64) (v7 : Int32) (v8 : Int64) (v10 : Int64) (v12 : Int32) (v13 : Int32) (x : MS × Unit), (gg_M_lessened N n).2.2.1 u v1 v2 v3 v4 v5 v7 v8 v10 v12 v13 = some x → ∀ (H : Heap) (locs : List Loc), va_P D cl (wM cB cI cJ cZ cS iM h0 ad u) H → va_D A (wM cB cI cJ cZ cS iM h0 ad u) → va_S A s.heap H locs → ∀ (ls : Array Slot), lv_has ls 14 [(0, .ref h0), (1, .int v1), (2, .int v2), (3, .int v3), (4, .int v4), (5, .long v5), (7, .int v7), (8, .long v8), (10, .long v10), (12, .int v12), (13, .int v13)] → W p l e R s m args below meth c H locs 0 0 (MQ below (mQv D cl cB cI cJ cZ cS iM h0 ad A x) args s 0 0 A) (F0 m 123 ls [])) ∧ (∀ (u : MS) (v3 : Int32) (v4 : Int32) (v7 : Int32) (x : MS × Unit), (gg_M_lessened N n).2.2.2 u v3 v4 v7 = some x → ∀ (H : Heap) (locs : List Loc), va_P D cl (wM cB cI cJ cZ cS iM h0 ad u) H → va_D A (wM cB cI cJ cZ cS iM h0 ad u) → va_S A s.heap H locs → ∀ (ls : Array Slot), lv_has ls 14 [(0, .ref h0), (3, .int v3), (4, .int v4), (7, .int v7)] → W p l e R s m args below meth c H locs 0 0 (MQ below (mQv D cl cB cI cJ cZ cS iM h0 ad A x) args s 0 0 A) (F0 m 222 ls []))
  | 0 => ⟨(fun u v1 v2 v3 x hf => by cases hf), (fun u v1 v2 v3 v4 v5 v7 x hf => by cases hf), (fun u v1 v2 v3 v4 v5 v7 v8 v10 v12 v13 x hf => by cases hf), (fun u v3 v4 v7 x hf => by cases hf)⟩
  | n + 1 => ⟨wb_M_lessened_39 C0 hR N (gg_M_lessened N n) (wg_M_lessened C0 hR N n), wb_M_lessened_72 C0 hR N (gg_M_lessened N n) (wg_M_lessened C0 hR N n), wb_M_lessened_123 C0 hR N (gg_M_lessened N n) (wg_M_lessened C0 hR N n), wb_M_lessened_222 C0 hR N (gg_M_lessened N n) (wg_M_lessened C0 hR N n)⟩
def fm_M_lessened (N : Nat) (u : MS) : Option (MS × Unit) := fb_M_lessened_0 N (gg_M_lessened N N) u
set_option maxRecDepth 100000 in
set_option maxHeartbeats 4000000 in
theorem c_M_lessened (N : Nat) {l : Launch} {D : va_G} {cl : List vw_C} {cB cI cJ cZ cS : ClassId} {iM h0 : Nat} {ad : Nat → Nat} {u : MS} {sz : Nat} {x : MS × Unit} (hM : cl[iM]? = some (R_M, F_M, 171)) (hf : fm_M_lessened N u = some x) : Met l y_M_lessened (wd_ws y_M_lessened b_M_lessened 14 none) rm_M_lessened (mPc D cl cB cI cJ cZ cS iM h0 ad u sz [.ref h0]) (mQv D cl cB cI cJ cZ cS iM h0 ad (mA cB cI cJ cZ cS iM h0 ad u sz) x) 0 0 (mA cB cI cJ cZ cS iM h0 ad u sz) :=
  mMet (by decide) rfl hM (Nat.le_of_ble_eq_true rfl) (fun p e s m below meth c ls hsz C0 hP hD hS hl => by
    have hR : rm_M_lessened = rm_M_lessened := rfl
    exact wb_M_lessened_0 C0 hR N (gg_M_lessened N N) (wg_M_lessened C0 hR N N) u x hf s.heap [] hP hD hS ls (lv_sub hl [0] rfl))
abbrev b_M_twoRun : ByteArray := prog_14_method_143_code
def y_M_twoRun : MethodName := ⟨R_M, "twoRun", "(I)V"⟩
def w_M_twoRun : List Cond := wd_ws y_M_twoRun b_M_twoRun 12 none
set_option maxRecDepth 100000 in
theorem k_M_twoRun : Cond.code y_M_twoRun b_M_twoRun 12 none ∈ wd_tbl := wd_of 3201 rfl rfl
theorem d_M_twoRun_0 : decode b_M_twoRun 0 = .ok (.iload_n 1, 1) := by decide +kernel
theorem d_M_twoRun_1 : decode b_M_twoRun 1 = .ok (.bipush 12, 2) := by decide +kernel
theorem d_M_twoRun_3 : decode b_M_twoRun 3 = .ok (.if_icmp .lt 144, 3) := by decide +kernel
theorem d_M_twoRun_6 : decode b_M_twoRun 6 = .ok (.iload_n 1, 1) := by decide +kernel
theorem d_M_twoRun_7 : decode b_M_twoRun 7 = .ok (.bipush 17, 2) := by decide +kernel
theorem d_M_twoRun_9 : decode b_M_twoRun 9 = .ok (.if_icmp .gt 138, 3) := by decide +kernel
theorem d_M_twoRun_12 : decode b_M_twoRun 12 = .ok (.aload_n 0, 1) := by decide +kernel
theorem d_M_twoRun_13 : decode b_M_twoRun 13 = .ok (.invokevirtual 930, 3) := by decide +kernel
theorem d_M_twoRun_16 : decode b_M_twoRun 16 = .ok (.lstore_n 2, 1) := by decide +kernel
theorem d_M_twoRun_17 : decode b_M_twoRun 17 = .ok (.aload_n 0, 1) := by decide +kernel
theorem d_M_twoRun_18 : decode b_M_twoRun 18 = .ok (.invokevirtual 930, 3) := by decide +kernel
theorem d_M_twoRun_21 : decode b_M_twoRun 21 = .ok (.lstore 4, 2) := by decide +kernel
theorem d_M_twoRun_23 : decode b_M_twoRun 23 = .ok (.aload_n 0, 1) := by decide +kernel
theorem d_M_twoRun_24 : decode b_M_twoRun 24 = .ok (.lload 4, 2) := by decide +kernel
theorem d_M_twoRun_26 : decode b_M_twoRun 26 = .ok (.lload_n 2, 1) := by decide +kernel
theorem d_M_twoRun_27 : decode b_M_twoRun 27 = .ok (.invokevirtual 867, 3) := by decide +kernel
theorem d_M_twoRun_30 : decode b_M_twoRun 30 = .ok (.istore 6, 2) := by decide +kernel
theorem d_M_twoRun_32 : decode b_M_twoRun 32 = .ok (.aload_n 0, 1) := by decide +kernel
theorem d_M_twoRun_33 : decode b_M_twoRun 33 = .ok (.iload_n 1, 1) := by decide +kernel
theorem d_M_twoRun_34 : decode b_M_twoRun 34 = .ok (.bipush 12, 2) := by decide +kernel
theorem d_M_twoRun_36 : decode b_M_twoRun 36 = .ok (.if_icmp .ne 16, 3) := by decide +kernel
theorem d_M_twoRun_39 : decode b_M_twoRun 39 = .ok (.iload 6, 2) := by decide +kernel
theorem d_M_twoRun_41 : decode b_M_twoRun 41 = .ok (.ifCond .ne 7, 3) := by decide +kernel
theorem d_M_twoRun_44 : decode b_M_twoRun 44 = .ok (.iconst 1, 1) := by decide +kernel
theorem d_M_twoRun_45 : decode b_M_twoRun 45 = .ok (.goto 93, 3) := by decide +kernel
theorem d_M_twoRun_48 : decode b_M_twoRun 48 = .ok (.iconst 0, 1) := by decide +kernel
theorem d_M_twoRun_49 : decode b_M_twoRun 49 = .ok (.goto 89, 3) := by decide +kernel
theorem d_M_twoRun_52 : decode b_M_twoRun 52 = .ok (.iload_n 1, 1) := by decide +kernel
theorem d_M_twoRun_53 : decode b_M_twoRun 53 = .ok (.bipush 13, 2) := by decide +kernel
theorem d_M_twoRun_55 : decode b_M_twoRun 55 = .ok (.if_icmp .ne 16, 3) := by decide +kernel
theorem d_M_twoRun_58 : decode b_M_twoRun 58 = .ok (.iload 6, 2) := by decide +kernel
theorem d_M_twoRun_60 : decode b_M_twoRun 60 = .ok (.ifCond .eq 7, 3) := by decide +kernel
theorem d_M_twoRun_63 : decode b_M_twoRun 63 = .ok (.iconst 1, 1) := by decide +kernel
theorem d_M_twoRun_64 : decode b_M_twoRun 64 = .ok (.goto 74, 3) := by decide +kernel
theorem d_M_twoRun_67 : decode b_M_twoRun 67 = .ok (.iconst 0, 1) := by decide +kernel
theorem d_M_twoRun_68 : decode b_M_twoRun 68 = .ok (.goto 70, 3) := by decide +kernel
theorem d_M_twoRun_71 : decode b_M_twoRun 71 = .ok (.iload_n 1, 1) := by decide +kernel
theorem d_M_twoRun_72 : decode b_M_twoRun 72 = .ok (.bipush 14, 2) := by decide +kernel
theorem d_M_twoRun_74 : decode b_M_twoRun 74 = .ok (.if_icmp .ne 16, 3) := by decide +kernel
theorem d_M_twoRun_77 : decode b_M_twoRun 77 = .ok (.iload 6, 2) := by decide +kernel
theorem d_M_twoRun_79 : decode b_M_twoRun 79 = .ok (.ifCond .ge 7, 3) := by decide +kernel
theorem d_M_twoRun_82 : decode b_M_twoRun 82 = .ok (.iconst 1, 1) := by decide +kernel
theorem d_M_twoRun_83 : decode b_M_twoRun 83 = .ok (.goto 55, 3) := by decide +kernel
theorem d_M_twoRun_86 : decode b_M_twoRun 86 = .ok (.iconst 0, 1) := by decide +kernel
theorem d_M_twoRun_87 : decode b_M_twoRun 87 = .ok (.goto 51, 3) := by decide +kernel
theorem d_M_twoRun_90 : decode b_M_twoRun 90 = .ok (.iload_n 1, 1) := by decide +kernel
theorem d_M_twoRun_91 : decode b_M_twoRun 91 = .ok (.bipush 15, 2) := by decide +kernel
theorem d_M_twoRun_93 : decode b_M_twoRun 93 = .ok (.if_icmp .ne 16, 3) := by decide +kernel
theorem d_M_twoRun_96 : decode b_M_twoRun 96 = .ok (.iload 6, 2) := by decide +kernel
theorem d_M_twoRun_98 : decode b_M_twoRun 98 = .ok (.ifCond .gt 7, 3) := by decide +kernel
theorem d_M_twoRun_101 : decode b_M_twoRun 101 = .ok (.iconst 1, 1) := by decide +kernel
theorem d_M_twoRun_102 : decode b_M_twoRun 102 = .ok (.goto 36, 3) := by decide +kernel
theorem d_M_twoRun_105 : decode b_M_twoRun 105 = .ok (.iconst 0, 1) := by decide +kernel
theorem d_M_twoRun_106 : decode b_M_twoRun 106 = .ok (.goto 32, 3) := by decide +kernel
theorem d_M_twoRun_109 : decode b_M_twoRun 109 = .ok (.iload_n 1, 1) := by decide +kernel
theorem d_M_twoRun_110 : decode b_M_twoRun 110 = .ok (.bipush 16, 2) := by decide +kernel
theorem d_M_twoRun_112 : decode b_M_twoRun 112 = .ok (.if_icmp .ne 16, 3) := by decide +kernel
theorem d_M_twoRun_115 : decode b_M_twoRun 115 = .ok (.iload 6, 2) := by decide +kernel
theorem d_M_twoRun_117 : decode b_M_twoRun 117 = .ok (.ifCond .le 7, 3) := by decide +kernel
theorem d_M_twoRun_120 : decode b_M_twoRun 120 = .ok (.iconst 1, 1) := by decide +kernel
theorem d_M_twoRun_121 : decode b_M_twoRun 121 = .ok (.goto 17, 3) := by decide +kernel
theorem d_M_twoRun_124 : decode b_M_twoRun 124 = .ok (.iconst 0, 1) := by decide +kernel
theorem d_M_twoRun_125 : decode b_M_twoRun 125 = .ok (.goto 13, 3) := by decide +kernel
theorem d_M_twoRun_128 : decode b_M_twoRun 128 = .ok (.iload 6, 2) := by decide +kernel
theorem d_M_twoRun_130 : decode b_M_twoRun 130 = .ok (.ifCond .lt 7, 3) := by decide +kernel
theorem d_M_twoRun_133 : decode b_M_twoRun 133 = .ok (.iconst 1, 1) := by decide +kernel
theorem d_M_twoRun_134 : decode b_M_twoRun 134 = .ok (.goto 4, 3) := by decide +kernel
theorem d_M_twoRun_137 : decode b_M_twoRun 137 = .ok (.iconst 0, 1) := by decide +kernel
theorem d_M_twoRun_138 : decode b_M_twoRun 138 = .ok (.invokestatic 940, 3) := by decide +kernel
theorem d_M_twoRun_141 : decode b_M_twoRun 141 = .ok (.invokevirtual 801, 3) := by decide +kernel
theorem d_M_twoRun_144 : decode b_M_twoRun 144 = .ok (.goto 183, 3) := by decide +kernel
theorem d_M_twoRun_147 : decode b_M_twoRun 147 = .ok (.iload_n 1, 1) := by decide +kernel
theorem d_M_twoRun_148 : decode b_M_twoRun 148 = .ok (.bipush 22, 2) := by decide +kernel
theorem d_M_twoRun_150 : decode b_M_twoRun 150 = .ok (.if_icmp .ne 10, 3) := by decide +kernel
theorem d_M_twoRun_153 : decode b_M_twoRun 153 = .ok (.aload_n 0, 1) := by decide +kernel
theorem d_M_twoRun_154 : decode b_M_twoRun 154 = .ok (.invokevirtual 971, 3) := by decide +kernel
theorem d_M_twoRun_157 : decode b_M_twoRun 157 = .ok (.goto 170, 3) := by decide +kernel
theorem d_M_twoRun_160 : decode b_M_twoRun 160 = .ok (.iload_n 1, 1) := by decide +kernel
theorem d_M_twoRun_161 : decode b_M_twoRun 161 = .ok (.bipush 23, 2) := by decide +kernel
theorem d_M_twoRun_163 : decode b_M_twoRun 163 = .ok (.if_icmp .ne 10, 3) := by decide +kernel
theorem d_M_twoRun_166 : decode b_M_twoRun 166 = .ok (.aload_n 0, 1) := by decide +kernel
theorem d_M_twoRun_167 : decode b_M_twoRun 167 = .ok (.invokevirtual 974, 3) := by decide +kernel
theorem d_M_twoRun_170 : decode b_M_twoRun 170 = .ok (.goto 157, 3) := by decide +kernel
theorem d_M_twoRun_173 : decode b_M_twoRun 173 = .ok (.aload_n 0, 1) := by decide +kernel
theorem d_M_twoRun_174 : decode b_M_twoRun 174 = .ok (.invokevirtual 930, 3) := by decide +kernel
theorem d_M_twoRun_177 : decode b_M_twoRun 177 = .ok (.lstore_n 2, 1) := by decide +kernel
theorem d_M_twoRun_178 : decode b_M_twoRun 178 = .ok (.aload_n 0, 1) := by decide +kernel
theorem d_M_twoRun_179 : decode b_M_twoRun 179 = .ok (.invokevirtual 930, 3) := by decide +kernel
theorem d_M_twoRun_182 : decode b_M_twoRun 182 = .ok (.lstore 4, 2) := by decide +kernel
theorem d_M_twoRun_184 : decode b_M_twoRun 184 = .ok (.lload 4, 2) := by decide +kernel
theorem d_M_twoRun_186 : decode b_M_twoRun 186 = .ok (.invokestatic 676, 3) := by decide +kernel
theorem d_M_twoRun_189 : decode b_M_twoRun 189 = .ok (.ifCond .ne 23, 3) := by decide +kernel
theorem d_M_twoRun_192 : decode b_M_twoRun 192 = .ok (.lload_n 2, 1) := by decide +kernel
theorem d_M_twoRun_193 : decode b_M_twoRun 193 = .ok (.invokestatic 676, 3) := by decide +kernel
theorem d_M_twoRun_196 : decode b_M_twoRun 196 = .ok (.ifCond .ne 16, 3) := by decide +kernel
theorem d_M_twoRun_199 : decode b_M_twoRun 199 = .ok (.iload_n 1, 1) := by decide +kernel
theorem d_M_twoRun_200 : decode b_M_twoRun 200 = .ok (.bipush 100, 2) := by decide +kernel
theorem d_M_twoRun_202 : decode b_M_twoRun 202 = .ok (.if_icmp .lt 17, 3) := by decide +kernel
theorem d_M_twoRun_205 : decode b_M_twoRun 205 = .ok (.lload_n 2, 1) := by decide +kernel
theorem d_M_twoRun_206 : decode b_M_twoRun 206 = .ok (.invokestatic 680, 3) := by decide +kernel
theorem d_M_twoRun_209 : decode b_M_twoRun 209 = .ok (.ifCond .ne 10, 3) := by decide +kernel
theorem d_M_twoRun_212 : decode b_M_twoRun 212 = .ok (.aload_n 0, 1) := by decide +kernel
theorem d_M_twoRun_213 : decode b_M_twoRun 213 = .ok (.bipush 12, 2) := by decide +kernel
theorem d_M_twoRun_215 : decode b_M_twoRun 215 = .ok (.invokevirtual 861, 3) := by decide +kernel
theorem d_M_twoRun_218 : decode b_M_twoRun 218 = .ok (.return_, 1) := by decide +kernel
theorem d_M_twoRun_219 : decode b_M_twoRun 219 = .ok (.lload 4, 2) := by decide +kernel
theorem d_M_twoRun_221 : decode b_M_twoRun 221 = .ok (.invokestatic 680, 3) := by decide +kernel
theorem d_M_twoRun_224 : decode b_M_twoRun 224 = .ok (.i2l, 1) := by decide +kernel
theorem d_M_twoRun_225 : decode b_M_twoRun 225 = .ok (.lstore 6, 2) := by decide +kernel
theorem d_M_twoRun_227 : decode b_M_twoRun 227 = .ok (.lload_n 2, 1) := by decide +kernel
theorem d_M_twoRun_228 : decode b_M_twoRun 228 = .ok (.invokestatic 680, 3) := by decide +kernel
theorem d_M_twoRun_231 : decode b_M_twoRun 231 = .ok (.i2l, 1) := by decide +kernel
theorem d_M_twoRun_232 : decode b_M_twoRun 232 = .ok (.lstore 8, 2) := by decide +kernel
theorem d_M_twoRun_234 : decode b_M_twoRun 234 = .ok (.iload_n 1, 1) := by decide +kernel
theorem d_M_twoRun_235 : decode b_M_twoRun 235 = .ok (.bipush 18, 2) := by decide +kernel
theorem d_M_twoRun_237 : decode b_M_twoRun 237 = .ok (.if_icmp .ne 11, 3) := by decide +kernel
theorem d_M_twoRun_240 : decode b_M_twoRun 240 = .ok (.lload 6, 2) := by decide +kernel
theorem d_M_twoRun_242 : decode b_M_twoRun 242 = .ok (.lload 8, 2) := by decide +kernel
theorem d_M_twoRun_244 : decode b_M_twoRun 244 = .ok (.ladd, 1) := by decide +kernel
theorem d_M_twoRun_245 : decode b_M_twoRun 245 = .ok (.goto 50, 3) := by decide +kernel
theorem d_M_twoRun_248 : decode b_M_twoRun 248 = .ok (.iload_n 1, 1) := by decide +kernel
theorem d_M_twoRun_249 : decode b_M_twoRun 249 = .ok (.bipush 19, 2) := by decide +kernel
theorem d_M_twoRun_251 : decode b_M_twoRun 251 = .ok (.if_icmp .ne 11, 3) := by decide +kernel
theorem d_M_twoRun_254 : decode b_M_twoRun 254 = .ok (.lload 6, 2) := by decide +kernel
theorem d_M_twoRun_256 : decode b_M_twoRun 256 = .ok (.lload 8, 2) := by decide +kernel
theorem d_M_twoRun_258 : decode b_M_twoRun 258 = .ok (.lsub, 1) := by decide +kernel
theorem d_M_twoRun_259 : decode b_M_twoRun 259 = .ok (.goto 36, 3) := by decide +kernel
theorem d_M_twoRun_262 : decode b_M_twoRun 262 = .ok (.iload_n 1, 1) := by decide +kernel
theorem d_M_twoRun_263 : decode b_M_twoRun 263 = .ok (.bipush 20, 2) := by decide +kernel
theorem d_M_twoRun_265 : decode b_M_twoRun 265 = .ok (.if_icmp .ne 11, 3) := by decide +kernel
theorem d_M_twoRun_268 : decode b_M_twoRun 268 = .ok (.lload 6, 2) := by decide +kernel
theorem d_M_twoRun_270 : decode b_M_twoRun 270 = .ok (.lload 8, 2) := by decide +kernel
theorem d_M_twoRun_272 : decode b_M_twoRun 272 = .ok (.lmul, 1) := by decide +kernel
theorem d_M_twoRun_273 : decode b_M_twoRun 273 = .ok (.goto 22, 3) := by decide +kernel
theorem d_M_twoRun_276 : decode b_M_twoRun 276 = .ok (.iload_n 1, 1) := by decide +kernel
theorem d_M_twoRun_277 : decode b_M_twoRun 277 = .ok (.bipush 105, 2) := by decide +kernel
theorem d_M_twoRun_279 : decode b_M_twoRun 279 = .ok (.if_icmp .ne 11, 3) := by decide +kernel
theorem d_M_twoRun_282 : decode b_M_twoRun 282 = .ok (.lload 6, 2) := by decide +kernel
theorem d_M_twoRun_284 : decode b_M_twoRun 284 = .ok (.lload 8, 2) := by decide +kernel
theorem d_M_twoRun_286 : decode b_M_twoRun 286 = .ok (.ldiv, 1) := by decide +kernel
theorem d_M_twoRun_287 : decode b_M_twoRun 287 = .ok (.goto 8, 3) := by decide +kernel
theorem d_M_twoRun_290 : decode b_M_twoRun 290 = .ok (.lload 6, 2) := by decide +kernel
theorem d_M_twoRun_292 : decode b_M_twoRun 292 = .ok (.lload 8, 2) := by decide +kernel
theorem d_M_twoRun_294 : decode b_M_twoRun 294 = .ok (.lrem, 1) := by decide +kernel
theorem d_M_twoRun_295 : decode b_M_twoRun 295 = .ok (.lstore 10, 2) := by decide +kernel
theorem d_M_twoRun_297 : decode b_M_twoRun 297 = .ok (.lload 10, 2) := by decide +kernel
theorem d_M_twoRun_299 : decode b_M_twoRun 299 = .ok (.lload 10, 2) := by decide +kernel
theorem d_M_twoRun_301 : decode b_M_twoRun 301 = .ok (.l2i, 1) := by decide +kernel
theorem d_M_twoRun_302 : decode b_M_twoRun 302 = .ok (.i2l, 1) := by decide +kernel
theorem d_M_twoRun_303 : decode b_M_twoRun 303 = .ok (.lcmp, 1) := by decide +kernel
theorem d_M_twoRun_304 : decode b_M_twoRun 304 = .ok (.ifCond .eq 12, 3) := by decide +kernel
theorem d_M_twoRun_307 : decode b_M_twoRun 307 = .ok (.aload_n 0, 1) := by decide +kernel
theorem d_M_twoRun_308 : decode b_M_twoRun 308 = .ok (.bipush 12, 2) := by decide +kernel
theorem d_M_twoRun_310 : decode b_M_twoRun 310 = .ok (.invokevirtual 861, 3) := by decide +kernel
theorem d_M_twoRun_313 : decode b_M_twoRun 313 = .ok (.goto 14, 3) := by decide +kernel
theorem d_M_twoRun_316 : decode b_M_twoRun 316 = .ok (.aload_n 0, 1) := by decide +kernel
theorem d_M_twoRun_317 : decode b_M_twoRun 317 = .ok (.iconst 0, 1) := by decide +kernel
theorem d_M_twoRun_318 : decode b_M_twoRun 318 = .ok (.lload 10, 2) := by decide +kernel
theorem d_M_twoRun_320 : decode b_M_twoRun 320 = .ok (.l2i, 1) := by decide +kernel
theorem d_M_twoRun_321 : decode b_M_twoRun 321 = .ok (.invokestatic 315, 3) := by decide +kernel
theorem d_M_twoRun_324 : decode b_M_twoRun 324 = .ok (.invokevirtual 801, 3) := by decide +kernel
theorem d_M_twoRun_327 : decode b_M_twoRun 327 = .ok (.return_, 1) := by decide +kernel
set_option maxRecDepth 100000 in
theorem hl_M_twoRun : Cond.methodLink R_M 927 y_M_twoRun ∈ wd_tbl := wd_of 3198 (by decide +kernel) rfl
set_option maxRecDepth 100000 in
theorem hi_M_twoRun : Cond.instanceMethod y_M_twoRun ∈ wd_tbl := wd_of 3200 (by decide +kernel) rfl
set_option maxRecDepth 100000 in
theorem hs_M_twoRun : Cond.selects R_M y_M_twoRun y_M_twoRun ∈ wd_tbl := wd_of 254 (by decide +kernel) rfl
theorem hd_M_twoRun : y_M_twoRun.cls = R_M ∧ y_M_twoRun.cls ≠ "java/lang/invoke/MethodHandle" ∧ y_M_twoRun.cls ≠ "java/lang/invoke/VarHandle" ∧ (parseMethodDescriptor y_M_twoRun.desc).map (fun d => d.parameters.length) = some 1 := by decide +kernel
def rm_M_twoRun : Room := { frames := 28, cells := 0, slots := 0, locals := 737 }
theorem rm_M_twoRun_M_take {R : Room} (hR : R = rm_M_twoRun) : (rm_M_take).frames + 1 ≤ R.frames ∧ 8 + (1 + 11) + (rm_M_take).locals ≤ R.locals := by subst hR; decide
theorem rm_M_twoRun_M_order {R : Room} (hR : R = rm_M_twoRun) : (rm_M_order).frames + 1 ≤ R.frames ∧ 8 + (13 + 11) + (rm_M_order).locals ≤ R.locals := by subst hR; decide
theorem rm_M_twoRun_M_truth {R : Room} (hR : R = rm_M_twoRun) : (rm_M_truth).frames + 1 ≤ R.frames ∧ 8 + (1 + 11) + (rm_M_truth).locals ≤ R.locals := by subst hR; decide
theorem rm_M_twoRun_M_put {R : Room} (hR : R = rm_M_twoRun) : (rm_M_put).frames + 1 ≤ R.frames ∧ 8 + (3 + 11) + (rm_M_put).locals ≤ R.locals := by subst hR; decide
theorem rm_M_twoRun_M_joined {R : Room} (hR : R = rm_M_twoRun) : (rm_M_joined).frames + 1 ≤ R.frames ∧ 8 + (3 + 11) + (rm_M_joined).locals ≤ R.locals := by subst hR; decide
theorem rm_M_twoRun_M_lessened {R : Room} (hR : R = rm_M_twoRun) : (rm_M_lessened).frames + 1 ≤ R.frames ∧ 8 + (14 + 11) + (rm_M_lessened).locals ≤ R.locals := by subst hR; decide
theorem rm_M_twoRun_M_sortOf {R : Room} (hR : R = rm_M_twoRun) : (rm_M_sortOf).frames + 1 ≤ R.frames ∧ 8 + (2 + 11) + (rm_M_sortOf).locals ≤ R.locals := by subst hR; decide
theorem rm_M_twoRun_M_valueOf {R : Room} (hR : R = rm_M_twoRun) : (rm_M_valueOf).frames + 1 ≤ R.frames ∧ 8 + (2 + 11) + (rm_M_valueOf).locals ≤ R.locals := by subst hR; decide
theorem rm_M_twoRun_M_error {R : Room} (hR : R = rm_M_twoRun) : (rm_M_error).frames + 1 ≤ R.frames ∧ 8 + (2 + 11) + (rm_M_error).locals ≤ R.locals := by subst hR; decide
theorem rm_M_twoRun_M_term {R : Room} (hR : R = rm_M_twoRun) : (rm_M_term).frames + 1 ≤ R.frames ∧ 8 + (2 + 11) + (rm_M_term).locals ≤ R.locals := by subst hR; decide
def fb_M_twoRun_327 (N : Nat) (G : Unit) (u : MS) : Option (MS × Unit) := some (u, ())
set_option maxRecDepth 100000 in
set_option maxHeartbeats 4000000 in
theorem wb_M_twoRun_327 {p : Program} {l : Launch} {e : Env} {R : Room} {s : State} {m : MethodId} {args : Array Value} {below : List Frame} {meth : Method} {c : Code} {D : va_G} {cl : List vw_C} {cB cI cJ cZ cS : ClassId} {A : Nat → Prop} {iM h0 : Nat} {ad : Nat → Nat} (C0 : MCx p s m args meth c b_M_twoRun 12 none D cl cB cI cJ cZ cS iM A) (hR : R = rm_M_twoRun) (N : Nat) (G : Unit) (hG : True) : ∀ (u : MS) (x : MS × Unit), fb_M_twoRun_327 N G u = some x → ∀ (H : Heap) (locs : List Loc), va_P D cl (wM cB cI cJ cZ cS iM h0 ad u) H → va_D A (wM cB cI cJ cZ cS iM h0 ad u) → va_S A s.heap H locs → ∀ (ls : Array Slot), lv_has ls 12 [] → W p l e R s m args below meth c H locs 0 0 (MQ below (mQv D cl cB cI cJ cZ cS iM h0 ad A x) args s 0 0 A) (F0 m 327 ls []) := by
  intro u x hf H locs hP hD hS ls hl
  obtain ⟨hx, hb, hr, hml, ht, hown, hM, hK, hA, hlocks⟩ := id C0
  unfold fb_M_twoRun_327 at hf
  exact mr_v C0 hP hD hS hf d_M_twoRun_327
def fb_M_twoRun_295 (N : Nat) (G : Unit) (u : MS) (t0 : Int64) : Option (MS × Unit) := br (decide ((lg_cmp t0 ((t0.toInt32).toInt64)) = 0)) (bnd (fm_M_term N u 0 (t0.toInt32)) (fun u1 r1 => bnd (fm_M_put N u1 r1) (fun u2 _ => fb_M_twoRun_327 N G u2))) (bnd (fr_M_error N u 12) (fun u3 _ => fb_M_twoRun_327 N G u3))
set_option maxRecDepth 100000 in
set_option maxHeartbeats 4000000 in
theorem wb_M_twoRun_295 {p : Program} {l : Launch} {e : Env} {R : Room} {s : State} {m : MethodId} {args : Array Value} {below : List Frame} {meth : Method} {c : Code} {D : va_G} {cl : List vw_C} {cB cI cJ cZ cS : ClassId} {A : Nat → Prop} {iM h0 : Nat} {ad : Nat → Nat} (C0 : MCx p s m args meth c b_M_twoRun 12 none D cl cB cI cJ cZ cS iM A) (hR : R = rm_M_twoRun) (N : Nat) (G : Unit) (hG : True) : ∀ (u : MS) (t0 : Int64) (x : MS × Unit), fb_M_twoRun_295 N G u t0 = some x → ∀ (H : Heap) (locs : List Loc), va_P D cl (wM cB cI cJ cZ cS iM h0 ad u) H → va_D A (wM cB cI cJ cZ cS iM h0 ad u) → va_S A s.heap H locs → ∀ (ls : Array Slot), lv_has ls 12 [(0, .ref h0)] → W p l e R s m args below meth c H locs 0 0 (MQ below (mQv D cl cB cI cJ cZ cS iM h0 ad A x) args s 0 0 A) (F0 m 295 ls [.long t0]) := by
  intro u t0 x hf H locs hP hD hS ls hl
  obtain ⟨hx, hb, hr, hml, ht, hown, hM, hK, hA, hlocks⟩ := id C0
  unfold fb_M_twoRun_295 at hf
  refine lv_lstore (lv' := [(10, .long t0), (0, .ref h0)]) hx hb d_M_twoRun_295 hl (by decide) rfl (fun ls hl => ?_)
  refine lv_lload hx hb d_M_twoRun_297 (lv_at hl 0 rfl) ?_
  refine lv_lload hx hb d_M_twoRun_299 (lv_at hl 0 rfl) ?_
  refine lv_l2i hx hb d_M_twoRun_301 rfl ?_
  refine lv_i2l hx hb d_M_twoRun_302 rfl ?_
  refine W.lcmp hx hb d_M_twoRun_303 ?_
  refine lv_if_eq (tgt := 316) hx hb d_M_twoRun_304 (by decide) (fun hc => ?_) (fun hc => ?_)
  · rw [br_p _ hc] at hf
    refine lv_aload_n hx hb d_M_twoRun_316 rfl (lv_at hl 1 rfl) ?_
    refine lv_iconst (v := 0) hx hb d_M_twoRun_317 (by decide) ?_
    refine lv_lload hx hb d_M_twoRun_318 (lv_at hl 0 rfl) ?_
    refine lv_l2i hx hb d_M_twoRun_320 rfl ?_
    obtain ⟨u1, r1, hc1, hf⟩ := bnd_some hf
    refine mS_l (As := [.int 0, .int t0.toInt32]) (rest := [.ref h0]) C0 hP hD hS (c_M_term N hM hc1) k_M_term hl_M_term ht_M_term hini_M rfl rfl hd_M_term rfl (rm_M_twoRun_M_term hR) hl.1 (Nat.le_of_ble_eq_true rfl) d_M_twoRun_321 rfl ⟨Nat.zero_le _, Nat.zero_le _⟩ (fun H locs hP hD hS => ?_)
    obtain ⟨u2, r2, hc2, hf⟩ := bnd_some hf
    refine mV_v (As := [.long r1]) (rest := []) C0 hP hD hS (c_M_put N hM hc2) k_M_put hl_M_put hi_M_put hs_M_put hini_M rfl rfl hd_M_put rfl (rm_M_twoRun_M_put hR) hl.1 (Nat.le_of_ble_eq_true rfl) d_M_twoRun_324 rfl ⟨Nat.zero_le _, Nat.zero_le _⟩ (fun H locs hP hD hS => ?_)
    exact wb_M_twoRun_327 C0 hR N G hG _ _ hf H locs hP hD hS ls (lv_sub hl [] rfl)
  · rw [br_n _ hc] at hf
    refine lv_aload_n hx hb d_M_twoRun_307 rfl (lv_at hl 1 rfl) ?_
    refine lv_bipush (v := 12) hx hb d_M_twoRun_308 (by decide) ?_
    obtain ⟨u3, r3, hc3, hf⟩ := bnd_some hf
    refine mV_v (As := [.int 12]) (rest := []) C0 hP hD hS (c_M_error N hM hc3) k_M_error hl_M_error hi_M_error hs_M_error hini_M rfl rfl hd_M_error rfl (rm_M_twoRun_M_error hR) hl.1 (Nat.le_of_ble_eq_true rfl) d_M_twoRun_310 rfl ⟨Nat.zero_le _, Nat.zero_le _⟩ (fun H locs hP hD hS => ?_)
    refine lv_goto (tgt := 327) hx hb d_M_twoRun_313 (by decide) ?_
    exact wb_M_twoRun_327 C0 hR N G hG _ _ hf H locs hP hD hS ls (lv_sub hl [] rfl)
def fb_M_twoRun_219 (N : Nat) (G : Unit) (u : MS) (v1 : Int32) (v2 : Int64) (v4 : Int64) : Option (MS × Unit) := bnd (fm_M_valueOf N u v4) (fun u4 r4 => bnd (fm_M_valueOf N u4 v2) (fun u5 r5 => br (decide (v1 = 18)) (fb_M_twoRun_295 N G u5 ((r4.toInt64 + r5.toInt64))) (br (decide (v1 = 19)) (fb_M_twoRun_295 N G u5 ((r4.toInt64 - r5.toInt64))) (br (decide (v1 = 20)) (fb_M_twoRun_295 N G u5 ((r4.toInt64 * r5.toInt64))) (br (decide (v1 = 105)) (ck (decide (¬ (r5.toInt64) = 0)) (fb_M_twoRun_295 N G u5 ((r4.toInt64 / r5.toInt64)))) (ck (decide (¬ (r5.toInt64) = 0)) (fb_M_twoRun_295 N G u5 ((r4.toInt64 - r4.toInt64 / r5.toInt64 * r5.toInt64)))))))))
set_option maxRecDepth 100000 in
set_option maxHeartbeats 4000000 in
theorem wb_M_twoRun_219 {p : Program} {l : Launch} {e : Env} {R : Room} {s : State} {m : MethodId} {args : Array Value} {below : List Frame} {meth : Method} {c : Code} {D : va_G} {cl : List vw_C} {cB cI cJ cZ cS : ClassId} {A : Nat → Prop} {iM h0 : Nat} {ad : Nat → Nat} (C0 : MCx p s m args meth c b_M_twoRun 12 none D cl cB cI cJ cZ cS iM A) (hR : R = rm_M_twoRun) (N : Nat) (G : Unit) (hG : True) : ∀ (u : MS) (v1 : Int32) (v2 : Int64) (v4 : Int64) (x : MS × Unit), fb_M_twoRun_219 N G u v1 v2 v4 = some x → ∀ (H : Heap) (locs : List Loc), va_P D cl (wM cB cI cJ cZ cS iM h0 ad u) H → va_D A (wM cB cI cJ cZ cS iM h0 ad u) → va_S A s.heap H locs → ∀ (ls : Array Slot), lv_has ls 12 [(0, .ref h0), (1, .int v1), (2, .long v2), (4, .long v4)] → W p l e R s m args below meth c H locs 0 0 (MQ below (mQv D cl cB cI cJ cZ cS iM h0 ad A x) args s 0 0 A) (F0 m 219 ls []) := by
  intro u v1 v2 v4 x hf H locs hP hD hS ls hl
  obtain ⟨hx, hb, hr, hml, ht, hown, hM, hK, hA, hlocks⟩ := id C0
  unfold fb_M_twoRun_219 at hf
  refine lv_lload hx hb d_M_twoRun_219 (lv_at hl 3 rfl) ?_
  obtain ⟨u4, r4, hc4, hf⟩ := bnd_some hf
  refine mS_i (As := [.long v4]) (rest := []) C0 hP hD hS (c_M_valueOf N hM hc4) k_M_valueOf hl_M_valueOf ht_M_valueOf hini_M rfl rfl hd_M_valueOf rfl (rm_M_twoRun_M_valueOf hR) hl.1 (Nat.le_of_ble_eq_true rfl) d_M_twoRun_221 rfl ⟨Nat.zero_le _, Nat.zero_le _⟩ (fun H locs hP hD hS => ?_)
  refine lv_i2l hx hb d_M_twoRun_224 rfl ?_
  refine lv_lstore (lv' := [(6, .long r4.toInt64), (0, .ref h0), (1, .int v1), (2, .long v2), (4, .long v4)]) hx hb d_M_twoRun_225 hl (by decide) rfl (fun ls hl => ?_)
  refine lv_lload_n hx hb d_M_twoRun_227 rfl (lv_at hl 3 rfl) ?_
  obtain ⟨u5, r5, hc5, hf⟩ := bnd_some hf
  refine mS_i (As := [.long v2]) (rest := []) C0 hP hD hS (c_M_valueOf N hM hc5) k_M_valueOf hl_M_valueOf ht_M_valueOf hini_M rfl rfl hd_M_valueOf rfl (rm_M_twoRun_M_valueOf hR) hl.1 (Nat.le_of_ble_eq_true rfl) d_M_twoRun_228 rfl ⟨Nat.zero_le _, Nat.zero_le _⟩ (fun H locs hP hD hS => ?_)
  refine lv_i2l hx hb d_M_twoRun_231 rfl ?_
  refine lv_lstore (lv' := [(8, .long r5.toInt64), (6, .long r4.toInt64), (0, .ref h0), (1, .int v1), (2, .long v2), (4, .long v4)]) hx hb d_M_twoRun_232 hl (by decide) rfl (fun ls hl => ?_)
  refine lv_iload_n hx hb d_M_twoRun_234 rfl (lv_at hl 3 rfl) ?_
  refine lv_bipush (v := 18) hx hb d_M_twoRun_235 (by decide) ?_
  refine lv_icmp_ne (tgt := 248) hx hb d_M_twoRun_237 (by decide) (fun hc => ?_) (fun hc => ?_)
  · rw [br_n _ hc] at hf
    refine lv_iload_n hx hb d_M_twoRun_248 rfl (lv_at hl 3 rfl) ?_
    refine lv_bipush (v := 19) hx hb d_M_twoRun_249 (by decide) ?_
    refine lv_icmp_ne (tgt := 262) hx hb d_M_twoRun_251 (by decide) (fun hc => ?_) (fun hc => ?_)
    · rw [br_n _ hc] at hf
      refine lv_iload_n hx hb d_M_twoRun_262 rfl (lv_at hl 3 rfl) ?_
      refine lv_bipush (v := 20) hx hb d_M_twoRun_263 (by decide) ?_
      refine lv_icmp_ne (tgt := 276) hx hb d_M_twoRun_265 (by decide) (fun hc => ?_) (fun hc => ?_)
      · rw [br_n _ hc] at hf
        refine lv_iload_n hx hb d_M_twoRun_276 rfl (lv_at hl 3 rfl) ?_
        refine lv_bipush (v := 105) hx hb d_M_twoRun_277 (by decide) ?_
        refine lv_icmp_ne (tgt := 290) hx hb d_M_twoRun_279 (by decide) (fun hc => ?_) (fun hc => ?_)
        · rw [br_n _ hc] at hf
          refine lv_lload hx hb d_M_twoRun_290 (lv_at hl 1 rfl) ?_
          refine lv_lload hx hb d_M_twoRun_292 (lv_at hl 0 rfl) ?_
          obtain ⟨hn9, hf⟩ := ck_some hf
          refine lv_lrem hx hb d_M_twoRun_294 (of_decide_eq_true hn9) ?_
          exact wb_M_twoRun_295 C0 hR N G hG _ _ _ hf H locs hP hD hS ls (lv_sub hl [2] rfl)
        · rw [br_p _ hc] at hf
          refine lv_lload hx hb d_M_twoRun_282 (lv_at hl 1 rfl) ?_
          refine lv_lload hx hb d_M_twoRun_284 (lv_at hl 0 rfl) ?_
          obtain ⟨hn9, hf⟩ := ck_some hf
          refine lv_ldiv hx hb d_M_twoRun_286 (of_decide_eq_true hn9) ?_
          refine lv_goto (tgt := 295) hx hb d_M_twoRun_287 (by decide) ?_
          exact wb_M_twoRun_295 C0 hR N G hG _ _ _ hf H locs hP hD hS ls (lv_sub hl [2] rfl)
      · rw [br_p _ hc] at hf
        refine lv_lload hx hb d_M_twoRun_268 (lv_at hl 1 rfl) ?_
        refine lv_lload hx hb d_M_twoRun_270 (lv_at hl 0 rfl) ?_
        refine lv_lmul hx hb d_M_twoRun_272 ?_
        refine lv_goto (tgt := 295) hx hb d_M_twoRun_273 (by decide) ?_
        exact wb_M_twoRun_295 C0 hR N G hG _ _ _ hf H locs hP hD hS ls (lv_sub hl [2] rfl)
    · rw [br_p _ hc] at hf
      refine lv_lload hx hb d_M_twoRun_254 (lv_at hl 1 rfl) ?_
      refine lv_lload hx hb d_M_twoRun_256 (lv_at hl 0 rfl) ?_
      refine lv_lsub hx hb d_M_twoRun_258 ?_
      refine lv_goto (tgt := 295) hx hb d_M_twoRun_259 (by decide) ?_
      exact wb_M_twoRun_295 C0 hR N G hG _ _ _ hf H locs hP hD hS ls (lv_sub hl [2] rfl)
  · rw [br_p _ hc] at hf
    refine lv_lload hx hb d_M_twoRun_240 (lv_at hl 1 rfl) ?_
    refine lv_lload hx hb d_M_twoRun_242 (lv_at hl 0 rfl) ?_
    refine lv_ladd hx hb d_M_twoRun_244 ?_
    refine lv_goto (tgt := 295) hx hb d_M_twoRun_245 (by decide) ?_
    exact wb_M_twoRun_295 C0 hR N G hG _ _ _ hf H locs hP hD hS ls (lv_sub hl [2] rfl)
def fb_M_twoRun_212 (N : Nat) (G : Unit) (u : MS) : Option (MS × Unit) := bnd (fr_M_error N u 12) (fun u6 _ => some (u6, ()))
set_option maxRecDepth 100000 in
set_option maxHeartbeats 4000000 in
theorem wb_M_twoRun_212 {p : Program} {l : Launch} {e : Env} {R : Room} {s : State} {m : MethodId} {args : Array Value} {below : List Frame} {meth : Method} {c : Code} {D : va_G} {cl : List vw_C} {cB cI cJ cZ cS : ClassId} {A : Nat → Prop} {iM h0 : Nat} {ad : Nat → Nat} (C0 : MCx p s m args meth c b_M_twoRun 12 none D cl cB cI cJ cZ cS iM A) (hR : R = rm_M_twoRun) (N : Nat) (G : Unit) (hG : True) : ∀ (u : MS) (x : MS × Unit), fb_M_twoRun_212 N G u = some x → ∀ (H : Heap) (locs : List Loc), va_P D cl (wM cB cI cJ cZ cS iM h0 ad u) H → va_D A (wM cB cI cJ cZ cS iM h0 ad u) → va_S A s.heap H locs → ∀ (ls : Array Slot), lv_has ls 12 [(0, .ref h0)] → W p l e R s m args below meth c H locs 0 0 (MQ below (mQv D cl cB cI cJ cZ cS iM h0 ad A x) args s 0 0 A) (F0 m 212 ls []) := by
  intro u x hf H locs hP hD hS ls hl
  obtain ⟨hx, hb, hr, hml, ht, hown, hM, hK, hA, hlocks⟩ := id C0
  unfold fb_M_twoRun_212 at hf
  refine lv_aload_n hx hb d_M_twoRun_212 rfl (lv_at hl 0 rfl) ?_
  refine lv_bipush (v := 12) hx hb d_M_twoRun_213 (by decide) ?_
  obtain ⟨u6, r6, hc6, hf⟩ := bnd_some hf
  refine mV_v (As := [.int 12]) (rest := []) C0 hP hD hS (c_M_error N hM hc6) k_M_error hl_M_error hi_M_error hs_M_error hini_M rfl rfl hd_M_error rfl (rm_M_twoRun_M_error hR) hl.1 (Nat.le_of_ble_eq_true rfl) d_M_twoRun_215 rfl ⟨Nat.zero_le _, Nat.zero_le _⟩ (fun H locs hP hD hS => ?_)
  exact mr_v C0 hP hD hS hf d_M_twoRun_218
def fb_M_twoRun_147 (N : Nat) (G : Unit) (u : MS) (v1 : Int32) : Option (MS × Unit) := br (decide (v1 = 22)) (bnd (fm_M_joined N u) (fun u13 _ => fb_M_twoRun_327 N G u13)) (br (decide (v1 = 23)) (bnd (fm_M_lessened N u) (fun u12 _ => fb_M_twoRun_327 N G u12)) (bnd (fm_M_take N u) (fun u7 r7 => bnd (fm_M_take N u7) (fun u8 r8 => bnd (fm_M_sortOf N u8 r8) (fun u9 r9 => br (decide (r9 = 0)) (bnd (fm_M_sortOf N u9 r7) (fun u10 r10 => br (decide (r10 = 0)) (br (decide (v1 < 100)) (fb_M_twoRun_219 N G u10 (v1) (r7) (r8)) (bnd (fm_M_valueOf N u10 r7) (fun u11 r11 => br (decide (r11 = 0)) (fb_M_twoRun_212 N G u11) (fb_M_twoRun_219 N G u11 (v1) (r7) (r8))))) (fb_M_twoRun_212 N G u10))) (fb_M_twoRun_212 N G u9))))))
set_option maxRecDepth 100000 in
set_option maxHeartbeats 4000000 in
theorem wb_M_twoRun_147 {p : Program} {l : Launch} {e : Env} {R : Room} {s : State} {m : MethodId} {args : Array Value} {below : List Frame} {meth : Method} {c : Code} {D : va_G} {cl : List vw_C} {cB cI cJ cZ cS : ClassId} {A : Nat → Prop} {iM h0 : Nat} {ad : Nat → Nat} (C0 : MCx p s m args meth c b_M_twoRun 12 none D cl cB cI cJ cZ cS iM A) (hR : R = rm_M_twoRun) (N : Nat) (G : Unit) (hG : True) : ∀ (u : MS) (v1 : Int32) (x : MS × Unit), fb_M_twoRun_147 N G u v1 = some x → ∀ (H : Heap) (locs : List Loc), va_P D cl (wM cB cI cJ cZ cS iM h0 ad u) H → va_D A (wM cB cI cJ cZ cS iM h0 ad u) → va_S A s.heap H locs → ∀ (ls : Array Slot), lv_has ls 12 [(0, .ref h0), (1, .int v1)] → W p l e R s m args below meth c H locs 0 0 (MQ below (mQv D cl cB cI cJ cZ cS iM h0 ad A x) args s 0 0 A) (F0 m 147 ls []) := by
  intro u v1 x hf H locs hP hD hS ls hl
  obtain ⟨hx, hb, hr, hml, ht, hown, hM, hK, hA, hlocks⟩ := id C0
  unfold fb_M_twoRun_147 at hf
  refine lv_iload_n hx hb d_M_twoRun_147 rfl (lv_at hl 1 rfl) ?_
  refine lv_bipush (v := 22) hx hb d_M_twoRun_148 (by decide) ?_
  refine lv_icmp_ne (tgt := 160) hx hb d_M_twoRun_150 (by decide) (fun hc => ?_) (fun hc => ?_)
  · rw [br_n _ hc] at hf
    refine lv_iload_n hx hb d_M_twoRun_160 rfl (lv_at hl 1 rfl) ?_
    refine lv_bipush (v := 23) hx hb d_M_twoRun_161 (by decide) ?_
    refine lv_icmp_ne (tgt := 173) hx hb d_M_twoRun_163 (by decide) (fun hc => ?_) (fun hc => ?_)
    · rw [br_n _ hc] at hf
      refine lv_aload_n hx hb d_M_twoRun_173 rfl (lv_at hl 0 rfl) ?_
      obtain ⟨u7, r7, hc7, hf⟩ := bnd_some hf
      refine mV_l (As := []) (rest := []) C0 hP hD hS (c_M_take N hM hc7) k_M_take hl_M_take hi_M_take hs_M_take hini_M rfl rfl hd_M_take rfl (rm_M_twoRun_M_take hR) hl.1 (Nat.le_of_ble_eq_true rfl) d_M_twoRun_174 rfl ⟨Nat.zero_le _, Nat.zero_le _⟩ (fun H locs hP hD hS => ?_)
      refine lv_lstore_n (lv' := [(2, .long r7), (0, .ref h0), (1, .int v1)]) hx hb d_M_twoRun_177 rfl hl (by decide) rfl (fun ls hl => ?_)
      refine lv_aload_n hx hb d_M_twoRun_178 rfl (lv_at hl 1 rfl) ?_
      obtain ⟨u8, r8, hc8, hf⟩ := bnd_some hf
      refine mV_l (As := []) (rest := []) C0 hP hD hS (c_M_take N hM hc8) k_M_take hl_M_take hi_M_take hs_M_take hini_M rfl rfl hd_M_take rfl (rm_M_twoRun_M_take hR) hl.1 (Nat.le_of_ble_eq_true rfl) d_M_twoRun_179 rfl ⟨Nat.zero_le _, Nat.zero_le _⟩ (fun H locs hP hD hS => ?_)
      refine lv_lstore (lv' := [(4, .long r8), (2, .long r7), (0, .ref h0), (1, .int v1)]) hx hb d_M_twoRun_182 hl (by decide) rfl (fun ls hl => ?_)
      refine lv_lload hx hb d_M_twoRun_184 (lv_at hl 0 rfl) ?_
      obtain ⟨u9, r9, hc9, hf⟩ := bnd_some hf
      refine mS_i (As := [.long r8]) (rest := []) C0 hP hD hS (c_M_sortOf N hM hc9) k_M_sortOf hl_M_sortOf ht_M_sortOf hini_M rfl rfl hd_M_sortOf rfl (rm_M_twoRun_M_sortOf hR) hl.1 (Nat.le_of_ble_eq_true rfl) d_M_twoRun_186 rfl ⟨Nat.zero_le _, Nat.zero_le _⟩ (fun H locs hP hD hS => ?_)
      refine lv_if_ne (tgt := 212) hx hb d_M_twoRun_189 (by decide) (fun hc => ?_) (fun hc => ?_)
      · rw [br_n _ hc] at hf
        exact wb_M_twoRun_212 C0 hR N G hG _ _ hf H locs hP hD hS ls (lv_sub hl [2] rfl)
      · rw [br_p _ hc] at hf
        refine lv_lload_n hx hb d_M_twoRun_192 rfl (lv_at hl 1 rfl) ?_
        obtain ⟨u10, r10, hc10, hf⟩ := bnd_some hf
        refine mS_i (As := [.long r7]) (rest := []) C0 hP hD hS (c_M_sortOf N hM hc10) k_M_sortOf hl_M_sortOf ht_M_sortOf hini_M rfl rfl hd_M_sortOf rfl (rm_M_twoRun_M_sortOf hR) hl.1 (Nat.le_of_ble_eq_true rfl) d_M_twoRun_193 rfl ⟨Nat.zero_le _, Nat.zero_le _⟩ (fun H locs hP hD hS => ?_)
        refine lv_if_ne (tgt := 212) hx hb d_M_twoRun_196 (by decide) (fun hc => ?_) (fun hc => ?_)
        · rw [br_n _ hc] at hf
          exact wb_M_twoRun_212 C0 hR N G hG _ _ hf H locs hP hD hS ls (lv_sub hl [2] rfl)
        · rw [br_p _ hc] at hf
          refine lv_iload_n hx hb d_M_twoRun_199 rfl (lv_at hl 3 rfl) ?_
          refine lv_bipush (v := 100) hx hb d_M_twoRun_200 (by decide) ?_
          refine lv_icmp_lt (tgt := 219) hx hb d_M_twoRun_202 (by decide) (fun hc => ?_) (fun hc => ?_)
          · rw [br_p _ hc] at hf
            exact wb_M_twoRun_219 C0 hR N G hG _ _ _ _ _ hf H locs hP hD hS ls (lv_sub hl [2, 3, 1, 0] rfl)
          · rw [br_n _ hc] at hf
            refine lv_lload_n hx hb d_M_twoRun_205 rfl (lv_at hl 1 rfl) ?_
            obtain ⟨u11, r11, hc11, hf⟩ := bnd_some hf
            refine mS_i (As := [.long r7]) (rest := []) C0 hP hD hS (c_M_valueOf N hM hc11) k_M_valueOf hl_M_valueOf ht_M_valueOf hini_M rfl rfl hd_M_valueOf rfl (rm_M_twoRun_M_valueOf hR) hl.1 (Nat.le_of_ble_eq_true rfl) d_M_twoRun_206 rfl ⟨Nat.zero_le _, Nat.zero_le _⟩ (fun H locs hP hD hS => ?_)
            refine lv_if_ne (tgt := 219) hx hb d_M_twoRun_209 (by decide) (fun hc => ?_) (fun hc => ?_)
            · rw [br_n _ hc] at hf
              exact wb_M_twoRun_219 C0 hR N G hG _ _ _ _ _ hf H locs hP hD hS ls (lv_sub hl [2, 3, 1, 0] rfl)
            · rw [br_p _ hc] at hf
              exact wb_M_twoRun_212 C0 hR N G hG _ _ hf H locs hP hD hS ls (lv_sub hl [2] rfl)
    · rw [br_p _ hc] at hf
      refine lv_aload_n hx hb d_M_twoRun_166 rfl (lv_at hl 0 rfl) ?_
      obtain ⟨u12, r12, hc12, hf⟩ := bnd_some hf
      refine mV_v (As := []) (rest := []) C0 hP hD hS (c_M_lessened N hM hc12) k_M_lessened hl_M_lessened hi_M_lessened hs_M_lessened hini_M rfl rfl hd_M_lessened rfl (rm_M_twoRun_M_lessened hR) hl.1 (Nat.le_of_ble_eq_true rfl) d_M_twoRun_167 rfl ⟨Nat.zero_le _, Nat.zero_le _⟩ (fun H locs hP hD hS => ?_)
      refine lv_goto (tgt := 327) hx hb d_M_twoRun_170 (by decide) ?_
      exact wb_M_twoRun_327 C0 hR N G hG _ _ hf H locs hP hD hS ls (lv_sub hl [] rfl)
  · rw [br_p _ hc] at hf
    refine lv_aload_n hx hb d_M_twoRun_153 rfl (lv_at hl 0 rfl) ?_
    obtain ⟨u13, r13, hc13, hf⟩ := bnd_some hf
    refine mV_v (As := []) (rest := []) C0 hP hD hS (c_M_joined N hM hc13) k_M_joined hl_M_joined hi_M_joined hs_M_joined hini_M rfl rfl hd_M_joined rfl (rm_M_twoRun_M_joined hR) hl.1 (Nat.le_of_ble_eq_true rfl) d_M_twoRun_154 rfl ⟨Nat.zero_le _, Nat.zero_le _⟩ (fun H locs hP hD hS => ?_)
    refine lv_goto (tgt := 327) hx hb d_M_twoRun_157 (by decide) ?_
    exact wb_M_twoRun_327 C0 hR N G hG _ _ hf H locs hP hD hS ls (lv_sub hl [] rfl)
def fb_M_twoRun_138 (N : Nat) (G : Unit) (u : MS) (t1 : Int32) : Option (MS × Unit) := bnd (fm_M_truth N u t1) (fun u14 r14 => bnd (fm_M_put N u14 r14) (fun u15 _ => fb_M_twoRun_327 N G u15))
set_option maxRecDepth 100000 in
set_option maxHeartbeats 4000000 in
theorem wb_M_twoRun_138 {p : Program} {l : Launch} {e : Env} {R : Room} {s : State} {m : MethodId} {args : Array Value} {below : List Frame} {meth : Method} {c : Code} {D : va_G} {cl : List vw_C} {cB cI cJ cZ cS : ClassId} {A : Nat → Prop} {iM h0 : Nat} {ad : Nat → Nat} (C0 : MCx p s m args meth c b_M_twoRun 12 none D cl cB cI cJ cZ cS iM A) (hR : R = rm_M_twoRun) (N : Nat) (G : Unit) (hG : True) : ∀ (u : MS) (t1 : Int32) (x : MS × Unit), fb_M_twoRun_138 N G u t1 = some x → ∀ (H : Heap) (locs : List Loc), va_P D cl (wM cB cI cJ cZ cS iM h0 ad u) H → va_D A (wM cB cI cJ cZ cS iM h0 ad u) → va_S A s.heap H locs → ∀ (ls : Array Slot), lv_has ls 12 [] → W p l e R s m args below meth c H locs 0 0 (MQ below (mQv D cl cB cI cJ cZ cS iM h0 ad A x) args s 0 0 A) (F0 m 138 ls [.int t1, .ref h0]) := by
  intro u t1 x hf H locs hP hD hS ls hl
  obtain ⟨hx, hb, hr, hml, ht, hown, hM, hK, hA, hlocks⟩ := id C0
  unfold fb_M_twoRun_138 at hf
  obtain ⟨u14, r14, hc14, hf⟩ := bnd_some hf
  refine mS_l (As := [.int t1]) (rest := [.ref h0]) C0 hP hD hS (c_M_truth N hM hc14) k_M_truth hl_M_truth ht_M_truth hini_M rfl rfl hd_M_truth rfl (rm_M_twoRun_M_truth hR) hl.1 (Nat.le_of_ble_eq_true rfl) d_M_twoRun_138 rfl ⟨Nat.zero_le _, Nat.zero_le _⟩ (fun H locs hP hD hS => ?_)
  obtain ⟨u15, r15, hc15, hf⟩ := bnd_some hf
  refine mV_v (As := [.long r14]) (rest := []) C0 hP hD hS (c_M_put N hM hc15) k_M_put hl_M_put hi_M_put hs_M_put hini_M rfl rfl hd_M_put rfl (rm_M_twoRun_M_put hR) hl.1 (Nat.le_of_ble_eq_true rfl) d_M_twoRun_141 rfl ⟨Nat.zero_le _, Nat.zero_le _⟩ (fun H locs hP hD hS => ?_)
  refine lv_goto (tgt := 327) hx hb d_M_twoRun_144 (by decide) ?_
  exact wb_M_twoRun_327 C0 hR N G hG _ _ hf H locs hP hD hS ls (lv_sub hl [] rfl)
def fb_M_twoRun_0 (N : Nat) (G : Unit) (u : MS) (v1 : Int32) : Option (MS × Unit) := br (decide (v1 < 12)) (fb_M_twoRun_147 N G u (v1)) (br (decide (17 < v1)) (fb_M_twoRun_147 N G u (v1)) (bnd (fm_M_take N u) (fun u16 r16 => bnd (fm_M_take N u16) (fun u17 r17 => bnd (fm_M_order N u17 r17 r16) (fun u18 r18 => br (decide (v1 = 12)) (br (decide (r18 = 0)) (fb_M_twoRun_138 N G u18 (1)) (fb_M_twoRun_138 N G u18 (0))) (br (decide (v1 = 13)) (br (decide (r18 = 0)) (fb_M_twoRun_138 N G u18 (0)) (fb_M_twoRun_138 N G u18 (1))) (br (decide (v1 = 14)) (br (decide (0 ≤ r18)) (fb_M_twoRun_138 N G u18 (0)) (fb_M_twoRun_138 N G u18 (1))) (br (decide (v1 = 15)) (br (decide (0 < r18)) (fb_M_twoRun_138 N G u18 (0)) (fb_M_twoRun_138 N G u18 (1))) (br (decide (v1 = 16)) (br (decide (r18 ≤ 0)) (fb_M_twoRun_138 N G u18 (0)) (fb_M_twoRun_138 N G u18 (1))) (br (decide (r18 < 0)) (fb_M_twoRun_138 N G u18 (0)) (fb_M_twoRun_138 N G u18 (1))))))))))))
set_option maxRecDepth 100000 in
set_option maxHeartbeats 4000000 in
theorem wb_M_twoRun_0 {p : Program} {l : Launch} {e : Env} {R : Room} {s : State} {m : MethodId} {args : Array Value} {below : List Frame} {meth : Method} {c : Code} {D : va_G} {cl : List vw_C} {cB cI cJ cZ cS : ClassId} {A : Nat → Prop} {iM h0 : Nat} {ad : Nat → Nat} (C0 : MCx p s m args meth c b_M_twoRun 12 none D cl cB cI cJ cZ cS iM A) (hR : R = rm_M_twoRun) (N : Nat) (G : Unit) (hG : True) : ∀ (u : MS) (v1 : Int32) (x : MS × Unit), fb_M_twoRun_0 N G u v1 = some x → ∀ (H : Heap) (locs : List Loc), va_P D cl (wM cB cI cJ cZ cS iM h0 ad u) H → va_D A (wM cB cI cJ cZ cS iM h0 ad u) → va_S A s.heap H locs → ∀ (ls : Array Slot), lv_has ls 12 [(0, .ref h0), (1, .int v1)] → W p l e R s m args below meth c H locs 0 0 (MQ below (mQv D cl cB cI cJ cZ cS iM h0 ad A x) args s 0 0 A) (F0 m 0 ls []) := by
  intro u v1 x hf H locs hP hD hS ls hl
  obtain ⟨hx, hb, hr, hml, ht, hown, hM, hK, hA, hlocks⟩ := id C0
  unfold fb_M_twoRun_0 at hf
  refine lv_iload_n hx hb d_M_twoRun_0 rfl (lv_at hl 1 rfl) ?_
  refine lv_bipush (v := 12) hx hb d_M_twoRun_1 (by decide) ?_
  refine lv_icmp_lt (tgt := 147) hx hb d_M_twoRun_3 (by decide) (fun hc => ?_) (fun hc => ?_)
  · rw [br_p _ hc] at hf
    exact wb_M_twoRun_147 C0 hR N G hG _ _ _ hf H locs hP hD hS ls (lv_sub hl [0, 1] rfl)
  · rw [br_n _ hc] at hf
    refine lv_iload_n hx hb d_M_twoRun_6 rfl (lv_at hl 1 rfl) ?_
    refine lv_bipush (v := 17) hx hb d_M_twoRun_7 (by decide) ?_
    refine lv_icmp_gt (tgt := 147) hx hb d_M_twoRun_9 (by decide) (fun hc => ?_) (fun hc => ?_)
    · rw [br_p _ hc] at hf
      exact wb_M_twoRun_147 C0 hR N G hG _ _ _ hf H locs hP hD hS ls (lv_sub hl [0, 1] rfl)
    · rw [br_n _ hc] at hf
      refine lv_aload_n hx hb d_M_twoRun_12 rfl (lv_at hl 0 rfl) ?_
      obtain ⟨u16, r16, hc16, hf⟩ := bnd_some hf
      refine mV_l (As := []) (rest := []) C0 hP hD hS (c_M_take N hM hc16) k_M_take hl_M_take hi_M_take hs_M_take hini_M rfl rfl hd_M_take rfl (rm_M_twoRun_M_take hR) hl.1 (Nat.le_of_ble_eq_true rfl) d_M_twoRun_13 rfl ⟨Nat.zero_le _, Nat.zero_le _⟩ (fun H locs hP hD hS => ?_)
      refine lv_lstore_n (lv' := [(2, .long r16), (0, .ref h0), (1, .int v1)]) hx hb d_M_twoRun_16 rfl hl (by decide) rfl (fun ls hl => ?_)
      refine lv_aload_n hx hb d_M_twoRun_17 rfl (lv_at hl 1 rfl) ?_
      obtain ⟨u17, r17, hc17, hf⟩ := bnd_some hf
      refine mV_l (As := []) (rest := []) C0 hP hD hS (c_M_take N hM hc17) k_M_take hl_M_take hi_M_take hs_M_take hini_M rfl rfl hd_M_take rfl (rm_M_twoRun_M_take hR) hl.1 (Nat.le_of_ble_eq_true rfl) d_M_twoRun_18 rfl ⟨Nat.zero_le _, Nat.zero_le _⟩ (fun H locs hP hD hS => ?_)
      refine lv_lstore (lv' := [(4, .long r17), (2, .long r16), (0, .ref h0), (1, .int v1)]) hx hb d_M_twoRun_21 hl (by decide) rfl (fun ls hl => ?_)
      refine lv_aload_n hx hb d_M_twoRun_23 rfl (lv_at hl 2 rfl) ?_
      refine lv_lload hx hb d_M_twoRun_24 (lv_at hl 0 rfl) ?_
      refine lv_lload_n hx hb d_M_twoRun_26 rfl (lv_at hl 1 rfl) ?_
      obtain ⟨u18, r18, hc18, hf⟩ := bnd_some hf
      refine mV_i (As := [.long r17, .long r16]) (rest := []) C0 hP hD hS (c_M_order N hM hc18) k_M_order hl_M_order hi_M_order hs_M_order hini_M rfl rfl hd_M_order rfl (rm_M_twoRun_M_order hR) hl.1 (Nat.le_of_ble_eq_true rfl) d_M_twoRun_27 rfl ⟨Nat.zero_le _, Nat.zero_le _⟩ (fun H locs hP hD hS => ?_)
      refine lv_istore (lv' := [(6, .int r18), (4, .long r17), (2, .long r16), (0, .ref h0), (1, .int v1)]) hx hb d_M_twoRun_30 hl (by decide) rfl (fun ls hl => ?_)
      refine lv_aload_n hx hb d_M_twoRun_32 rfl (lv_at hl 3 rfl) ?_
      refine lv_iload_n hx hb d_M_twoRun_33 rfl (lv_at hl 4 rfl) ?_
      refine lv_bipush (v := 12) hx hb d_M_twoRun_34 (by decide) ?_
      refine lv_icmp_ne (tgt := 52) hx hb d_M_twoRun_36 (by decide) (fun hc => ?_) (fun hc => ?_)
      · rw [br_n _ hc] at hf
        refine lv_iload_n hx hb d_M_twoRun_52 rfl (lv_at hl 4 rfl) ?_
        refine lv_bipush (v := 13) hx hb d_M_twoRun_53 (by decide) ?_
        refine lv_icmp_ne (tgt := 71) hx hb d_M_twoRun_55 (by decide) (fun hc => ?_) (fun hc => ?_)
        · rw [br_n _ hc] at hf
          refine lv_iload_n hx hb d_M_twoRun_71 rfl (lv_at hl 4 rfl) ?_
          refine lv_bipush (v := 14) hx hb d_M_twoRun_72 (by decide) ?_
          refine lv_icmp_ne (tgt := 90) hx hb d_M_twoRun_74 (by decide) (fun hc => ?_) (fun hc => ?_)
          · rw [br_n _ hc] at hf
            refine lv_iload_n hx hb d_M_twoRun_90 rfl (lv_at hl 4 rfl) ?_
            refine lv_bipush (v := 15) hx hb d_M_twoRun_91 (by decide) ?_
            refine lv_icmp_ne (tgt := 109) hx hb d_M_twoRun_93 (by decide) (fun hc => ?_) (fun hc => ?_)
            · rw [br_n _ hc] at hf
              refine lv_iload_n hx hb d_M_twoRun_109 rfl (lv_at hl 4 rfl) ?_
              refine lv_bipush (v := 16) hx hb d_M_twoRun_110 (by decide) ?_
              refine lv_icmp_ne (tgt := 128) hx hb d_M_twoRun_112 (by decide) (fun hc => ?_) (fun hc => ?_)
              · rw [br_n _ hc] at hf
                refine lv_iload hx hb d_M_twoRun_128 (lv_at hl 0 rfl) ?_
                refine lv_if_lt (tgt := 137) hx hb d_M_twoRun_130 (by decide) (fun hc => ?_) (fun hc => ?_)
                · rw [br_p _ hc] at hf
                  refine lv_iconst (v := 0) hx hb d_M_twoRun_137 (by decide) ?_
                  exact wb_M_twoRun_138 C0 hR N G hG _ _ _ hf H locs hP hD hS ls (lv_sub hl [] rfl)
                · rw [br_n _ hc] at hf
                  refine lv_iconst (v := 1) hx hb d_M_twoRun_133 (by decide) ?_
                  refine lv_goto (tgt := 138) hx hb d_M_twoRun_134 (by decide) ?_
                  exact wb_M_twoRun_138 C0 hR N G hG _ _ _ hf H locs hP hD hS ls (lv_sub hl [] rfl)
              · rw [br_p _ hc] at hf
                refine lv_iload hx hb d_M_twoRun_115 (lv_at hl 0 rfl) ?_
                refine lv_if_le (tgt := 124) hx hb d_M_twoRun_117 (by decide) (fun hc => ?_) (fun hc => ?_)
                · rw [br_p _ hc] at hf
                  refine lv_iconst (v := 0) hx hb d_M_twoRun_124 (by decide) ?_
                  refine lv_goto (tgt := 138) hx hb d_M_twoRun_125 (by decide) ?_
                  exact wb_M_twoRun_138 C0 hR N G hG _ _ _ hf H locs hP hD hS ls (lv_sub hl [] rfl)
                · rw [br_n _ hc] at hf
                  refine lv_iconst (v := 1) hx hb d_M_twoRun_120 (by decide) ?_
                  refine lv_goto (tgt := 138) hx hb d_M_twoRun_121 (by decide) ?_
                  exact wb_M_twoRun_138 C0 hR N G hG _ _ _ hf H locs hP hD hS ls (lv_sub hl [] rfl)
            · rw [br_p _ hc] at hf
              refine lv_iload hx hb d_M_twoRun_96 (lv_at hl 0 rfl) ?_
              refine lv_if_gt (tgt := 105) hx hb d_M_twoRun_98 (by decide) (fun hc => ?_) (fun hc => ?_)
              · rw [br_p _ hc] at hf
                refine lv_iconst (v := 0) hx hb d_M_twoRun_105 (by decide) ?_
                refine lv_goto (tgt := 138) hx hb d_M_twoRun_106 (by decide) ?_
                exact wb_M_twoRun_138 C0 hR N G hG _ _ _ hf H locs hP hD hS ls (lv_sub hl [] rfl)
              · rw [br_n _ hc] at hf
                refine lv_iconst (v := 1) hx hb d_M_twoRun_101 (by decide) ?_
                refine lv_goto (tgt := 138) hx hb d_M_twoRun_102 (by decide) ?_
                exact wb_M_twoRun_138 C0 hR N G hG _ _ _ hf H locs hP hD hS ls (lv_sub hl [] rfl)
          · rw [br_p _ hc] at hf
            refine lv_iload hx hb d_M_twoRun_77 (lv_at hl 0 rfl) ?_
            refine lv_if_ge (tgt := 86) hx hb d_M_twoRun_79 (by decide) (fun hc => ?_) (fun hc => ?_)
            · rw [br_p _ hc] at hf
              refine lv_iconst (v := 0) hx hb d_M_twoRun_86 (by decide) ?_
              refine lv_goto (tgt := 138) hx hb d_M_twoRun_87 (by decide) ?_
              exact wb_M_twoRun_138 C0 hR N G hG _ _ _ hf H locs hP hD hS ls (lv_sub hl [] rfl)
            · rw [br_n _ hc] at hf
              refine lv_iconst (v := 1) hx hb d_M_twoRun_82 (by decide) ?_
              refine lv_goto (tgt := 138) hx hb d_M_twoRun_83 (by decide) ?_
              exact wb_M_twoRun_138 C0 hR N G hG _ _ _ hf H locs hP hD hS ls (lv_sub hl [] rfl)
        · rw [br_p _ hc] at hf
          refine lv_iload hx hb d_M_twoRun_58 (lv_at hl 0 rfl) ?_
          refine lv_if_eq (tgt := 67) hx hb d_M_twoRun_60 (by decide) (fun hc => ?_) (fun hc => ?_)
          · rw [br_p _ hc] at hf
            refine lv_iconst (v := 0) hx hb d_M_twoRun_67 (by decide) ?_
            refine lv_goto (tgt := 138) hx hb d_M_twoRun_68 (by decide) ?_
            exact wb_M_twoRun_138 C0 hR N G hG _ _ _ hf H locs hP hD hS ls (lv_sub hl [] rfl)
          · rw [br_n _ hc] at hf
            refine lv_iconst (v := 1) hx hb d_M_twoRun_63 (by decide) ?_
            refine lv_goto (tgt := 138) hx hb d_M_twoRun_64 (by decide) ?_
            exact wb_M_twoRun_138 C0 hR N G hG _ _ _ hf H locs hP hD hS ls (lv_sub hl [] rfl)
      · rw [br_p _ hc] at hf
        refine lv_iload hx hb d_M_twoRun_39 (lv_at hl 0 rfl) ?_
        refine lv_if_ne (tgt := 48) hx hb d_M_twoRun_41 (by decide) (fun hc => ?_) (fun hc => ?_)
        · rw [br_n _ hc] at hf
          refine lv_iconst (v := 0) hx hb d_M_twoRun_48 (by decide) ?_
          refine lv_goto (tgt := 138) hx hb d_M_twoRun_49 (by decide) ?_
          exact wb_M_twoRun_138 C0 hR N G hG _ _ _ hf H locs hP hD hS ls (lv_sub hl [] rfl)
        · rw [br_p _ hc] at hf
          refine lv_iconst (v := 1) hx hb d_M_twoRun_44 (by decide) ?_
          refine lv_goto (tgt := 138) hx hb d_M_twoRun_45 (by decide) ?_
          exact wb_M_twoRun_138 C0 hR N G hG _ _ _ hf H locs hP hD hS ls (lv_sub hl [] rfl)
def fm_M_twoRun (N : Nat) (u : MS) (v1 : Int32) : Option (MS × Unit) := fb_M_twoRun_0 N () u v1
set_option maxRecDepth 100000 in
set_option maxHeartbeats 4000000 in
theorem c_M_twoRun (N : Nat) {l : Launch} {D : va_G} {cl : List vw_C} {cB cI cJ cZ cS : ClassId} {iM h0 : Nat} {ad : Nat → Nat} {u : MS} {sz : Nat} {v1 : Int32} {x : MS × Unit} (hM : cl[iM]? = some (R_M, F_M, 171)) (hf : fm_M_twoRun N u v1 = some x) : Met l y_M_twoRun (wd_ws y_M_twoRun b_M_twoRun 12 none) rm_M_twoRun (mPc D cl cB cI cJ cZ cS iM h0 ad u sz [.ref h0, .int v1]) (mQv D cl cB cI cJ cZ cS iM h0 ad (mA cB cI cJ cZ cS iM h0 ad u sz) x) 0 0 (mA cB cI cJ cZ cS iM h0 ad u sz) :=
  mMet (by decide) rfl hM (Nat.le_of_ble_eq_true rfl) (fun p e s m below meth c ls hsz C0 hP hD hS hl => by
    have hR : rm_M_twoRun = rm_M_twoRun := rfl
    exact wb_M_twoRun_0 C0 hR N () trivial u _ x hf s.heap [] hP hD hS ls (lv_sub hl [0, 1] rfl))
abbrev b_M_funRun : ByteArray := prog_14_method_138_code
def y_M_funRun : MethodName := ⟨R_M, "funRun", "(II)V"⟩
def w_M_funRun : List Cond := wd_ws y_M_funRun b_M_funRun 8 none
set_option maxRecDepth 100000 in
theorem k_M_funRun : Cond.code y_M_funRun b_M_funRun 8 none ∈ wd_tbl := wd_of 3221 rfl rfl
theorem d_M_funRun_0 : decode b_M_funRun 0 = .ok (.aload_n 0, 1) := by decide +kernel
theorem d_M_funRun_1 : decode b_M_funRun 1 = .ok (.getfield 63, 3) := by decide +kernel
theorem d_M_funRun_4 : decode b_M_funRun 4 = .ok (.iload_n 1, 1) := by decide +kernel
theorem d_M_funRun_5 : decode b_M_funRun 5 = .ok (.iaload, 1) := by decide +kernel
theorem d_M_funRun_6 : decode b_M_funRun 6 = .ok (.istore_n 3, 1) := by decide +kernel
theorem d_M_funRun_7 : decode b_M_funRun 7 = .ok (.iload_n 2, 1) := by decide +kernel
theorem d_M_funRun_8 : decode b_M_funRun 8 = .ok (.bipush 15, 2) := by decide +kernel
theorem d_M_funRun_10 : decode b_M_funRun 10 = .ok (.if_icmp .ne 7, 3) := by decide +kernel
theorem d_M_funRun_13 : decode b_M_funRun 13 = .ok (.iconst 0, 1) := by decide +kernel
theorem d_M_funRun_14 : decode b_M_funRun 14 = .ok (.goto 9, 3) := by decide +kernel
theorem d_M_funRun_17 : decode b_M_funRun 17 = .ok (.aload_n 0, 1) := by decide +kernel
theorem d_M_funRun_18 : decode b_M_funRun 18 = .ok (.getfield 140, 3) := by decide +kernel
theorem d_M_funRun_21 : decode b_M_funRun 21 = .ok (.iload_n 3, 1) := by decide +kernel
theorem d_M_funRun_22 : decode b_M_funRun 22 = .ok (.iaload, 1) := by decide +kernel
theorem d_M_funRun_23 : decode b_M_funRun 23 = .ok (.istore 4, 2) := by decide +kernel
theorem d_M_funRun_25 : decode b_M_funRun 25 = .ok (.iconst 2, 1) := by decide +kernel
theorem d_M_funRun_26 : decode b_M_funRun 26 = .ok (.iload 4, 2) := by decide +kernel
theorem d_M_funRun_28 : decode b_M_funRun 28 = .ok (.iadd, 1) := by decide +kernel
theorem d_M_funRun_29 : decode b_M_funRun 29 = .ok (.istore 5, 2) := by decide +kernel
theorem d_M_funRun_31 : decode b_M_funRun 31 = .ok (.iconst 0, 1) := by decide +kernel
theorem d_M_funRun_32 : decode b_M_funRun 32 = .ok (.istore 6, 2) := by decide +kernel
theorem d_M_funRun_34 : decode b_M_funRun 34 = .ok (.iload 6, 2) := by decide +kernel
theorem d_M_funRun_36 : decode b_M_funRun 36 = .ok (.iload 4, 2) := by decide +kernel
theorem d_M_funRun_38 : decode b_M_funRun 38 = .ok (.if_icmp .ge 40, 3) := by decide +kernel
theorem d_M_funRun_41 : decode b_M_funRun 41 = .ok (.iload 5, 2) := by decide +kernel
theorem d_M_funRun_43 : decode b_M_funRun 43 = .ok (.aload_n 0, 1) := by decide +kernel
theorem d_M_funRun_44 : decode b_M_funRun 44 = .ok (.aload_n 0, 1) := by decide +kernel
theorem d_M_funRun_45 : decode b_M_funRun 45 = .ok (.getfield 669, 3) := by decide +kernel
theorem d_M_funRun_48 : decode b_M_funRun 48 = .ok (.aload_n 0, 1) := by decide +kernel
theorem d_M_funRun_49 : decode b_M_funRun 49 = .ok (.aload_n 0, 1) := by decide +kernel
theorem d_M_funRun_50 : decode b_M_funRun 50 = .ok (.getfield 146, 3) := by decide +kernel
theorem d_M_funRun_53 : decode b_M_funRun 53 = .ok (.aload_n 0, 1) := by decide +kernel
theorem d_M_funRun_54 : decode b_M_funRun 54 = .ok (.getfield 143, 3) := by decide +kernel
theorem d_M_funRun_57 : decode b_M_funRun 57 = .ok (.iload_n 3, 1) := by decide +kernel
theorem d_M_funRun_58 : decode b_M_funRun 58 = .ok (.iaload, 1) := by decide +kernel
theorem d_M_funRun_59 : decode b_M_funRun 59 = .ok (.iload 6, 2) := by decide +kernel
theorem d_M_funRun_61 : decode b_M_funRun 61 = .ok (.iadd, 1) := by decide +kernel
theorem d_M_funRun_62 : decode b_M_funRun 62 = .ok (.iaload, 1) := by decide +kernel
theorem d_M_funRun_63 : decode b_M_funRun 63 = .ok (.invokevirtual 864, 3) := by decide +kernel
theorem d_M_funRun_66 : decode b_M_funRun 66 = .ok (.invokevirtual 770, 3) := by decide +kernel
theorem d_M_funRun_69 : decode b_M_funRun 69 = .ok (.iadd, 1) := by decide +kernel
theorem d_M_funRun_70 : decode b_M_funRun 70 = .ok (.istore 5, 2) := by decide +kernel
theorem d_M_funRun_72 : decode b_M_funRun 72 = .ok (.iinc 6 1, 3) := by decide +kernel
theorem d_M_funRun_75 : decode b_M_funRun 75 = .ok (.goto (-41), 3) := by decide +kernel
theorem d_M_funRun_78 : decode b_M_funRun 78 = .ok (.iload 5, 2) := by decide +kernel
theorem d_M_funRun_80 : decode b_M_funRun 80 = .ok (.sipush 500, 3) := by decide +kernel
theorem d_M_funRun_83 : decode b_M_funRun 83 = .ok (.if_icmp .le 10, 3) := by decide +kernel
theorem d_M_funRun_86 : decode b_M_funRun 86 = .ok (.aload_n 0, 1) := by decide +kernel
theorem d_M_funRun_87 : decode b_M_funRun 87 = .ok (.bipush 11, 2) := by decide +kernel
theorem d_M_funRun_89 : decode b_M_funRun 89 = .ok (.invokevirtual 861, 3) := by decide +kernel
theorem d_M_funRun_92 : decode b_M_funRun 92 = .ok (.return_, 1) := by decide +kernel
theorem d_M_funRun_93 : decode b_M_funRun 93 = .ok (.aload_n 0, 1) := by decide +kernel
theorem d_M_funRun_94 : decode b_M_funRun 94 = .ok (.aload_n 0, 1) := by decide +kernel
theorem d_M_funRun_95 : decode b_M_funRun 95 = .ok (.getfield 669, 3) := by decide +kernel
theorem d_M_funRun_98 : decode b_M_funRun 98 = .ok (.iconst 2, 1) := by decide +kernel
theorem d_M_funRun_99 : decode b_M_funRun 99 = .ok (.iload 4, 2) := by decide +kernel
theorem d_M_funRun_101 : decode b_M_funRun 101 = .ok (.iadd, 1) := by decide +kernel
theorem d_M_funRun_102 : decode b_M_funRun 102 = .ok (.invokevirtual 776, 3) := by decide +kernel
theorem d_M_funRun_105 : decode b_M_funRun 105 = .ok (.ifCond .ne 8, 3) := by decide +kernel
theorem d_M_funRun_108 : decode b_M_funRun 108 = .ok (.aload_n 0, 1) := by decide +kernel
theorem d_M_funRun_109 : decode b_M_funRun 109 = .ok (.invokevirtual 805, 3) := by decide +kernel
theorem d_M_funRun_112 : decode b_M_funRun 112 = .ok (.return_, 1) := by decide +kernel
theorem d_M_funRun_113 : decode b_M_funRun 113 = .ok (.aload_n 0, 1) := by decide +kernel
theorem d_M_funRun_114 : decode b_M_funRun 114 = .ok (.getfield 192, 3) := by decide +kernel
theorem d_M_funRun_117 : decode b_M_funRun 117 = .ok (.aload_n 0, 1) := by decide +kernel
theorem d_M_funRun_118 : decode b_M_funRun 118 = .ok (.getfield 669, 3) := by decide +kernel
theorem d_M_funRun_121 : decode b_M_funRun 121 = .ok (.iaload, 1) := by decide +kernel
theorem d_M_funRun_122 : decode b_M_funRun 122 = .ok (.istore 6, 2) := by decide +kernel
theorem d_M_funRun_124 : decode b_M_funRun 124 = .ok (.aload_n 0, 1) := by decide +kernel
theorem d_M_funRun_125 : decode b_M_funRun 125 = .ok (.getfield 192, 3) := by decide +kernel
theorem d_M_funRun_128 : decode b_M_funRun 128 = .ok (.aload_n 0, 1) := by decide +kernel
theorem d_M_funRun_129 : decode b_M_funRun 129 = .ok (.getfield 669, 3) := by decide +kernel
theorem d_M_funRun_132 : decode b_M_funRun 132 = .ok (.dup2, 1) := by decide +kernel
theorem d_M_funRun_133 : decode b_M_funRun 133 = .ok (.iaload, 1) := by decide +kernel
theorem d_M_funRun_134 : decode b_M_funRun 134 = .ok (.iconst 2, 1) := by decide +kernel
theorem d_M_funRun_135 : decode b_M_funRun 135 = .ok (.iload 4, 2) := by decide +kernel
theorem d_M_funRun_137 : decode b_M_funRun 137 = .ok (.iadd, 1) := by decide +kernel
theorem d_M_funRun_138 : decode b_M_funRun 138 = .ok (.iadd, 1) := by decide +kernel
theorem d_M_funRun_139 : decode b_M_funRun 139 = .ok (.iastore, 1) := by decide +kernel
theorem d_M_funRun_140 : decode b_M_funRun 140 = .ok (.aload_n 0, 1) := by decide +kernel
theorem d_M_funRun_141 : decode b_M_funRun 141 = .ok (.getfield 189, 3) := by decide +kernel
theorem d_M_funRun_144 : decode b_M_funRun 144 = .ok (.aload_n 0, 1) := by decide +kernel
theorem d_M_funRun_145 : decode b_M_funRun 145 = .ok (.getfield 669, 3) := by decide +kernel
theorem d_M_funRun_148 : decode b_M_funRun 148 = .ok (.sipush 500, 3) := by decide +kernel
theorem d_M_funRun_151 : decode b_M_funRun 151 = .ok (.imul, 1) := by decide +kernel
theorem d_M_funRun_152 : decode b_M_funRun 152 = .ok (.iload 6, 2) := by decide +kernel
theorem d_M_funRun_154 : decode b_M_funRun 154 = .ok (.iadd, 1) := by decide +kernel
theorem d_M_funRun_155 : decode b_M_funRun 155 = .ok (.iload_n 2, 1) := by decide +kernel
theorem d_M_funRun_156 : decode b_M_funRun 156 = .ok (.bipush 15, 2) := by decide +kernel
theorem d_M_funRun_158 : decode b_M_funRun 158 = .ok (.if_icmp .ne 17, 3) := by decide +kernel
theorem d_M_funRun_161 : decode b_M_funRun 161 = .ok (.ldc2_w 913, 3) := by decide +kernel
theorem d_M_funRun_164 : decode b_M_funRun 164 = .ok (.aload_n 0, 1) := by decide +kernel
theorem d_M_funRun_165 : decode b_M_funRun 165 = .ok (.getfield 69, 3) := by decide +kernel
theorem d_M_funRun_168 : decode b_M_funRun 168 = .ok (.iload_n 1, 1) := by decide +kernel
theorem d_M_funRun_169 : decode b_M_funRun 169 = .ok (.iaload, 1) := by decide +kernel
theorem d_M_funRun_170 : decode b_M_funRun 170 = .ok (.i2l, 1) := by decide +kernel
theorem d_M_funRun_171 : decode b_M_funRun 171 = .ok (.lsub, 1) := by decide +kernel
theorem d_M_funRun_172 : decode b_M_funRun 172 = .ok (.goto 5, 3) := by decide +kernel
theorem d_M_funRun_175 : decode b_M_funRun 175 = .ok (.iload_n 3, 1) := by decide +kernel
theorem d_M_funRun_176 : decode b_M_funRun 176 = .ok (.i2l, 1) := by decide +kernel
theorem d_M_funRun_177 : decode b_M_funRun 177 = .ok (.lastore, 1) := by decide +kernel
theorem d_M_funRun_178 : decode b_M_funRun 178 = .ok (.aload_n 0, 1) := by decide +kernel
theorem d_M_funRun_179 : decode b_M_funRun 179 = .ok (.getfield 189, 3) := by decide +kernel
theorem d_M_funRun_182 : decode b_M_funRun 182 = .ok (.aload_n 0, 1) := by decide +kernel
theorem d_M_funRun_183 : decode b_M_funRun 183 = .ok (.getfield 669, 3) := by decide +kernel
theorem d_M_funRun_186 : decode b_M_funRun 186 = .ok (.sipush 500, 3) := by decide +kernel
theorem d_M_funRun_189 : decode b_M_funRun 189 = .ok (.imul, 1) := by decide +kernel
theorem d_M_funRun_190 : decode b_M_funRun 190 = .ok (.iload 6, 2) := by decide +kernel
theorem d_M_funRun_192 : decode b_M_funRun 192 = .ok (.iadd, 1) := by decide +kernel
theorem d_M_funRun_193 : decode b_M_funRun 193 = .ok (.iconst 1, 1) := by decide +kernel
theorem d_M_funRun_194 : decode b_M_funRun 194 = .ok (.iadd, 1) := by decide +kernel
theorem d_M_funRun_195 : decode b_M_funRun 195 = .ok (.iload 4, 2) := by decide +kernel
theorem d_M_funRun_197 : decode b_M_funRun 197 = .ok (.i2l, 1) := by decide +kernel
theorem d_M_funRun_198 : decode b_M_funRun 198 = .ok (.lastore, 1) := by decide +kernel
theorem d_M_funRun_199 : decode b_M_funRun 199 = .ok (.iconst 0, 1) := by decide +kernel
theorem d_M_funRun_200 : decode b_M_funRun 200 = .ok (.istore 7, 2) := by decide +kernel
theorem d_M_funRun_202 : decode b_M_funRun 202 = .ok (.iload 7, 2) := by decide +kernel
theorem d_M_funRun_204 : decode b_M_funRun 204 = .ok (.iload 4, 2) := by decide +kernel
theorem d_M_funRun_206 : decode b_M_funRun 206 = .ok (.if_icmp .ge 48, 3) := by decide +kernel
theorem d_M_funRun_209 : decode b_M_funRun 209 = .ok (.aload_n 0, 1) := by decide +kernel
theorem d_M_funRun_210 : decode b_M_funRun 210 = .ok (.getfield 189, 3) := by decide +kernel
theorem d_M_funRun_213 : decode b_M_funRun 213 = .ok (.aload_n 0, 1) := by decide +kernel
theorem d_M_funRun_214 : decode b_M_funRun 214 = .ok (.getfield 669, 3) := by decide +kernel
theorem d_M_funRun_217 : decode b_M_funRun 217 = .ok (.sipush 500, 3) := by decide +kernel
theorem d_M_funRun_220 : decode b_M_funRun 220 = .ok (.imul, 1) := by decide +kernel
theorem d_M_funRun_221 : decode b_M_funRun 221 = .ok (.iload 6, 2) := by decide +kernel
theorem d_M_funRun_223 : decode b_M_funRun 223 = .ok (.iadd, 1) := by decide +kernel
theorem d_M_funRun_224 : decode b_M_funRun 224 = .ok (.iconst 2, 1) := by decide +kernel
theorem d_M_funRun_225 : decode b_M_funRun 225 = .ok (.iadd, 1) := by decide +kernel
theorem d_M_funRun_226 : decode b_M_funRun 226 = .ok (.iload 7, 2) := by decide +kernel
theorem d_M_funRun_228 : decode b_M_funRun 228 = .ok (.iadd, 1) := by decide +kernel
theorem d_M_funRun_229 : decode b_M_funRun 229 = .ok (.aload_n 0, 1) := by decide +kernel
theorem d_M_funRun_230 : decode b_M_funRun 230 = .ok (.aload_n 0, 1) := by decide +kernel
theorem d_M_funRun_231 : decode b_M_funRun 231 = .ok (.getfield 146, 3) := by decide +kernel
theorem d_M_funRun_234 : decode b_M_funRun 234 = .ok (.aload_n 0, 1) := by decide +kernel
theorem d_M_funRun_235 : decode b_M_funRun 235 = .ok (.getfield 143, 3) := by decide +kernel
theorem d_M_funRun_238 : decode b_M_funRun 238 = .ok (.iload_n 3, 1) := by decide +kernel
theorem d_M_funRun_239 : decode b_M_funRun 239 = .ok (.iaload, 1) := by decide +kernel
theorem d_M_funRun_240 : decode b_M_funRun 240 = .ok (.iload 7, 2) := by decide +kernel
theorem d_M_funRun_242 : decode b_M_funRun 242 = .ok (.iadd, 1) := by decide +kernel
theorem d_M_funRun_243 : decode b_M_funRun 243 = .ok (.iaload, 1) := by decide +kernel
theorem d_M_funRun_244 : decode b_M_funRun 244 = .ok (.invokevirtual 864, 3) := by decide +kernel
theorem d_M_funRun_247 : decode b_M_funRun 247 = .ok (.lastore, 1) := by decide +kernel
theorem d_M_funRun_248 : decode b_M_funRun 248 = .ok (.iinc 7 1, 3) := by decide +kernel
theorem d_M_funRun_251 : decode b_M_funRun 251 = .ok (.goto (-49), 3) := by decide +kernel
theorem d_M_funRun_254 : decode b_M_funRun 254 = .ok (.aload_n 0, 1) := by decide +kernel
theorem d_M_funRun_255 : decode b_M_funRun 255 = .ok (.iconst 3, 1) := by decide +kernel
theorem d_M_funRun_256 : decode b_M_funRun 256 = .ok (.iload 6, 2) := by decide +kernel
theorem d_M_funRun_258 : decode b_M_funRun 258 = .ok (.invokestatic 315, 3) := by decide +kernel
theorem d_M_funRun_261 : decode b_M_funRun 261 = .ok (.invokevirtual 801, 3) := by decide +kernel
theorem d_M_funRun_264 : decode b_M_funRun 264 = .ok (.return_, 1) := by decide +kernel
set_option maxRecDepth 100000 in
theorem hl_M_funRun : Cond.methodLink R_M 937 y_M_funRun ∈ wd_tbl := wd_of 3218 (by decide +kernel) rfl
set_option maxRecDepth 100000 in
theorem hi_M_funRun : Cond.instanceMethod y_M_funRun ∈ wd_tbl := wd_of 3220 (by decide +kernel) rfl
set_option maxRecDepth 100000 in
theorem hs_M_funRun : Cond.selects R_M y_M_funRun y_M_funRun ∈ wd_tbl := wd_of 259 (by decide +kernel) rfl
theorem hd_M_funRun : y_M_funRun.cls = R_M ∧ y_M_funRun.cls ≠ "java/lang/invoke/MethodHandle" ∧ y_M_funRun.cls ≠ "java/lang/invoke/VarHandle" ∧ (parseMethodDescriptor y_M_funRun.desc).map (fun d => d.parameters.length) = some 2 := by decide +kernel
def rm_M_funRun : Room := { frames := 27, cells := 0, slots := 0, locals := 704 }
theorem rm_M_funRun_M_nameAt {R : Room} (hR : R = rm_M_funRun) : (rm_M_nameAt).frames + 1 ≤ R.frames ∧ 8 + (3 + 11) + (rm_M_nameAt).locals ≤ R.locals := by subst hR; decide
theorem rm_M_funRun_M_copySize {R : Room} (hR : R = rm_M_funRun) : (rm_M_copySize).frames + 1 ≤ R.frames ∧ 8 + (10 + 11) + (rm_M_copySize).locals ≤ R.locals := by subst hR; decide
theorem rm_M_funRun_M_error {R : Room} (hR : R = rm_M_funRun) : (rm_M_error).frames + 1 ≤ R.frames ∧ 8 + (2 + 11) + (rm_M_error).locals ≤ R.locals := by subst hR; decide
theorem rm_M_funRun_M_wants {R : Room} (hR : R = rm_M_funRun) : (rm_M_wants).frames + 1 ≤ R.frames ∧ 8 + (3 + 11) + (rm_M_wants).locals ≤ R.locals := by subst hR; decide
theorem rm_M_funRun_M_noRoom {R : Room} (hR : R = rm_M_funRun) : (rm_M_noRoom).frames + 1 ≤ R.frames ∧ 8 + (1 + 11) + (rm_M_noRoom).locals ≤ R.locals := by subst hR; decide
theorem rm_M_funRun_M_term {R : Room} (hR : R = rm_M_funRun) : (rm_M_term).frames + 1 ≤ R.frames ∧ 8 + (2 + 11) + (rm_M_term).locals ≤ R.locals := by subst hR; decide
theorem rm_M_funRun_M_put {R : Room} (hR : R = rm_M_funRun) : (rm_M_put).frames + 1 ≤ R.frames ∧ 8 + (3 + 11) + (rm_M_put).locals ≤ R.locals := by subst hR; decide
def fb_M_funRun_202 (N : Nat) (G : (MS → Int32 → Int32 → Int32 → Int32 → Int32 → Int32 → Option (MS × Unit)) × (MS → Int32 → Int32 → Int32 → Int32 → Option (MS × Unit))) (u : MS) (v3 : Int32) (v4 : Int32) (v6 : Int32) (v7 : Int32) : Option (MS × Unit) := br (decide (v4 ≤ v7)) (bnd (fm_M_term N u 3 v6) (fun u1 r1 => bnd (fm_M_put N u1 r1) (fun u2 _ => some (u2, ())))) (ck (inb v3 (ln 55)) (ck (inb ((u.2.2.1 55 v3.toNatClampNeg) + v7) (ln 57)) (bnd (fm_M_nameAt N u (u.2.2.1 57 ((u.2.2.1 55 v3.toNatClampNeg) + v7).toNatClampNeg)) (fun u3 r3 => ck (inb (((((u.1 133) * 500) + v6) + 2) + v7) (ln 88)) (lt (upJ u3 88 (vp_updL (u3.2.2.2 88) (((((u.1 133) * 500) + v6) + 2) + v7).toNatClampNeg r3)) (fun w4 => G.2 w4 (v3) (v4) (v6) ((v7 + 1))))))))
set_option maxRecDepth 100000 in
set_option maxHeartbeats 4000000 in
theorem wb_M_funRun_202 {p : Program} {l : Launch} {e : Env} {R : Room} {s : State} {m : MethodId} {args : Array Value} {below : List Frame} {meth : Method} {c : Code} {D : va_G} {cl : List vw_C} {cB cI cJ cZ cS : ClassId} {A : Nat → Prop} {iM h0 : Nat} {ad : Nat → Nat} (C0 : MCx p s m args meth c b_M_funRun 8 none D cl cB cI cJ cZ cS iM A) (hR : R = rm_M_funRun) (N : Nat) (G : (MS → Int32 → Int32 → Int32 → Int32 → Int32 → Int32 → Option (MS × Unit)) × (MS → Int32 → Int32 → Int32 → Int32 → Option (MS × Unit))) (hG : (∀ (u : MS) (v1 : Int32) (v2 : Int32) (v3 : Int32) (v4 : Int32) (v5 : Int32) (v6 : Int32) (x : MS × Unit), G.1 u v1 v2 v3 v4 v5 v6 = some x → ∀ (H : Heap) (locs : List Loc), va_P D cl (wM cB cI cJ cZ cS iM h0 ad u) H → va_D A (wM cB cI cJ cZ cS iM h0 ad u) → va_S A s.heap H locs → ∀ (ls : Array Slot), lv_has ls 8 [(0, .ref h0), (1, .int v1), (2, .int v2), (3, .int v3), (4, .int v4), (5, .int v5), (6, .int v6)] → W p l e R s m args below meth c H locs 0 0 (MQ below (mQv D cl cB cI cJ cZ cS iM h0 ad A x) args s 0 0 A) (F0 m 34 ls [])) ∧ (∀ (u : MS) (v3 : Int32) (v4 : Int32) (v6 : Int32) (v7 : Int32) (x : MS × Unit), G.2 u v3 v4 v6 v7 = some x → ∀ (H : Heap) (locs : List Loc), va_P D cl (wM cB cI cJ cZ cS iM h0 ad u) H → va_D A (wM cB cI cJ cZ cS iM h0 ad u) → va_S A s.heap H locs → ∀ (ls : Array Slot), lv_has ls 8 [(0, .ref h0), (3, .int v3), (4, .int v4), (6, .int v6), (7, .int v7)] → W p l e R s m args below meth c H locs 0 0 (MQ below (mQv D cl cB cI cJ cZ cS iM h0 ad A x) args s 0 0 A) (F0 m 202 ls []))) : ∀ (u : MS) (v3 : Int32) (v4 : Int32) (v6 : Int32) (v7 : Int32) (x : MS × Unit), fb_M_funRun_202 N G u v3 v4 v6 v7 = some x → ∀ (H : Heap) (locs : List Loc), va_P D cl (wM cB cI cJ cZ cS iM h0 ad u) H → va_D A (wM cB cI cJ cZ cS iM h0 ad u) → va_S A s.heap H locs → ∀ (ls : Array Slot), lv_has ls 8 [(0, .ref h0), (3, .int v3), (4, .int v4), (6, .int v6), (7, .int v7)] → W p l e R s m args below meth c H locs 0 0 (MQ below (mQv D cl cB cI cJ cZ cS iM h0 ad A x) args s 0 0 A) (F0 m 202 ls []) := by
  intro u v3 v4 v6 v7 x hf H locs hP hD hS ls hl
  obtain ⟨hx, hb, hr, hml, ht, hown, hM, hK, hA, hlocks⟩ := id C0
  unfold fb_M_funRun_202 at hf
  refine lv_iload hx hb d_M_funRun_202 (lv_at hl 4 rfl) ?_
  refine lv_iload hx hb d_M_funRun_204 (lv_at hl 2 rfl) ?_
  refine lv_icmp_ge (tgt := 254) hx hb d_M_funRun_206 (by decide) (fun hc => ?_) (fun hc => ?_)
  · rw [br_p _ hc] at hf
    refine lv_aload_n hx hb d_M_funRun_254 rfl (lv_at hl 0 rfl) ?_
    refine lv_iconst (v := 3) hx hb d_M_funRun_255 (by decide) ?_
    refine lv_iload hx hb d_M_funRun_256 (lv_at hl 3 rfl) ?_
    obtain ⟨u1, r1, hc1, hf⟩ := bnd_some hf
    refine mS_l (As := [.int 3, .int v6]) (rest := [.ref h0]) C0 hP hD hS (c_M_term N hM hc1) k_M_term hl_M_term ht_M_term hini_M rfl rfl hd_M_term rfl (rm_M_funRun_M_term hR) hl.1 (Nat.le_of_ble_eq_true rfl) d_M_funRun_258 rfl ⟨Nat.zero_le _, Nat.zero_le _⟩ (fun H locs hP hD hS => ?_)
    obtain ⟨u2, r2, hc2, hf⟩ := bnd_some hf
    refine mV_v (As := [.long r1]) (rest := []) C0 hP hD hS (c_M_put N hM hc2) k_M_put hl_M_put hi_M_put hs_M_put hini_M rfl rfl hd_M_put rfl (rm_M_funRun_M_put hR) hl.1 (Nat.le_of_ble_eq_true rfl) d_M_funRun_261 rfl ⟨Nat.zero_le _, Nat.zero_le _⟩ (fun H locs hP hD hS => ?_)
    exact mr_v C0 hP hD hS hf d_M_funRun_264
  · rw [br_n _ hc] at hf
    refine lv_aload_n hx hb d_M_funRun_209 rfl (lv_at hl 0 rfl) ?_
    refine ug_R hx hb ht hown hM hK hP 88 (by decide) lk_M_88 (by decide) d_M_funRun_210 ?_
    refine lv_aload_n hx hb d_M_funRun_213 rfl (lv_at hl 0 rfl) ?_
    refine ug_I hx hb ht hown hM hK hP 133 (by decide) lk_M_133 (by decide) d_M_funRun_214 ?_
    refine lv_sipush (v := 500) hx hb d_M_funRun_217 (by decide) ?_
    refine lv_imul hx hb d_M_funRun_220 ?_
    refine lv_iload hx hb d_M_funRun_221 (lv_at hl 3 rfl) ?_
    refine lv_iadd hx hb d_M_funRun_223 ?_
    refine lv_iconst (v := 2) hx hb d_M_funRun_224 (by decide) ?_
    refine lv_iadd hx hb d_M_funRun_225 ?_
    refine lv_iload hx hb d_M_funRun_226 (lv_at hl 4 rfl) ?_
    refine lv_iadd hx hb d_M_funRun_228 ?_
    refine lv_aload_n hx hb d_M_funRun_229 rfl (lv_at hl 0 rfl) ?_
    refine lv_aload_n hx hb d_M_funRun_230 rfl (lv_at hl 0 rfl) ?_
    refine ug_R hx hb ht hown hM hK hP 57 (by decide) lk_M_57 (by decide) d_M_funRun_231 ?_
    refine lv_aload_n hx hb d_M_funRun_234 rfl (lv_at hl 0 rfl) ?_
    refine ug_R hx hb ht hown hM hK hP 55 (by decide) lk_M_55 (by decide) d_M_funRun_235 ?_
    refine lv_iload_n hx hb d_M_funRun_238 rfl (lv_at hl 1 rfl) ?_
    obtain ⟨hi9, hf⟩ := ck_some hf
    refine ul_I hx hb hK hP (by decide) (by decide) hi9 d_M_funRun_239 ?_
    refine lv_iload hx hb d_M_funRun_240 (lv_at hl 4 rfl) ?_
    refine lv_iadd hx hb d_M_funRun_242 ?_
    obtain ⟨hi9, hf⟩ := ck_some hf
    refine ul_I hx hb hK hP (by decide) (by decide) hi9 d_M_funRun_243 ?_
    obtain ⟨u3, r3, hc3, hf⟩ := bnd_some hf
    refine mV_l (As := [.int (u.2.2.1 57 ((u.2.2.1 55 v3.toNatClampNeg) + v7).toNatClampNeg)]) (rest := [.int (((((u.1 133) * 500) + v6) + 2) + v7), .ref (ad 88)]) C0 hP hD hS (c_M_nameAt N hM hc3) k_M_nameAt hl_M_nameAt hi_M_nameAt hs_M_nameAt hini_M rfl rfl hd_M_nameAt rfl (rm_M_funRun_M_nameAt hR) hl.1 (Nat.le_of_ble_eq_true rfl) d_M_funRun_244 rfl ⟨Nat.zero_le _, Nat.zero_le _⟩ (fun H locs hP hD hS => ?_)
    obtain ⟨hi9, hf⟩ := ck_some hf
    refine us_J hx hb hK hP hD hS (by decide) (by decide) hi9 d_M_funRun_247 (fun H locs hP hD hS => ?_)
    obtain ⟨w4, e4, hf⟩ := lt_some hf
    rw [← e4] at hP hD
    refine lv_iinc (v := (v7 + 1)) (lv' := [(7, .int (v7 + 1)), (0, .ref h0), (3, .int v3), (4, .int v4), (6, .int v6)]) hx hb d_M_funRun_248 hl (k := 4) rfl rfl (by decide) rfl (fun ls hl => ?_)
    refine lv_goto (tgt := 202) hx hb d_M_funRun_251 (by decide) ?_
    exact hG.2 _ _ _ _ _ _ hf H locs hP hD hS ls (lv_sub hl [1, 2, 3, 4, 0] rfl)
def fb_M_funRun_177 (N : Nat) (G : (MS → Int32 → Int32 → Int32 → Int32 → Int32 → Int32 → Option (MS × Unit)) × (MS → Int32 → Int32 → Int32 → Int32 → Option (MS × Unit))) (u : MS) (v3 : Int32) (v4 : Int32) (v6 : Int32) (t0 : Nat) (t1 : Int32) (t2 : Int64) : Option (MS × Unit) := ck (isK t0 5) (ck (inb t1 (ln t0)) (lt (upJ u t0 (vp_updL (u.2.2.2 t0) t1.toNatClampNeg t2)) (fun w5 => ck (inb ((((w5.1 133) * 500) + v6) + 1) (ln 88)) (lt (upJ w5 88 (vp_updL (w5.2.2.2 88) ((((w5.1 133) * 500) + v6) + 1).toNatClampNeg (v4.toInt64))) (fun w6 => G.2 w6 (v3) (v4) (v6) (0))))))
set_option maxRecDepth 100000 in
set_option maxHeartbeats 4000000 in
theorem wb_M_funRun_177 {p : Program} {l : Launch} {e : Env} {R : Room} {s : State} {m : MethodId} {args : Array Value} {below : List Frame} {meth : Method} {c : Code} {D : va_G} {cl : List vw_C} {cB cI cJ cZ cS : ClassId} {A : Nat → Prop} {iM h0 : Nat} {ad : Nat → Nat} (C0 : MCx p s m args meth c b_M_funRun 8 none D cl cB cI cJ cZ cS iM A) (hR : R = rm_M_funRun) (N : Nat) (G : (MS → Int32 → Int32 → Int32 → Int32 → Int32 → Int32 → Option (MS × Unit)) × (MS → Int32 → Int32 → Int32 → Int32 → Option (MS × Unit))) (hG : (∀ (u : MS) (v1 : Int32) (v2 : Int32) (v3 : Int32) (v4 : Int32) (v5 : Int32) (v6 : Int32) (x : MS × Unit), G.1 u v1 v2 v3 v4 v5 v6 = some x → ∀ (H : Heap) (locs : List Loc), va_P D cl (wM cB cI cJ cZ cS iM h0 ad u) H → va_D A (wM cB cI cJ cZ cS iM h0 ad u) → va_S A s.heap H locs → ∀ (ls : Array Slot), lv_has ls 8 [(0, .ref h0), (1, .int v1), (2, .int v2), (3, .int v3), (4, .int v4), (5, .int v5), (6, .int v6)] → W p l e R s m args below meth c H locs 0 0 (MQ below (mQv D cl cB cI cJ cZ cS iM h0 ad A x) args s 0 0 A) (F0 m 34 ls [])) ∧ (∀ (u : MS) (v3 : Int32) (v4 : Int32) (v6 : Int32) (v7 : Int32) (x : MS × Unit), G.2 u v3 v4 v6 v7 = some x → ∀ (H : Heap) (locs : List Loc), va_P D cl (wM cB cI cJ cZ cS iM h0 ad u) H → va_D A (wM cB cI cJ cZ cS iM h0 ad u) → va_S A s.heap H locs → ∀ (ls : Array Slot), lv_has ls 8 [(0, .ref h0), (3, .int v3), (4, .int v4), (6, .int v6), (7, .int v7)] → W p l e R s m args below meth c H locs 0 0 (MQ below (mQv D cl cB cI cJ cZ cS iM h0 ad A x) args s 0 0 A) (F0 m 202 ls []))) : ∀ (u : MS) (v3 : Int32) (v4 : Int32) (v6 : Int32) (t0 : Nat) (t1 : Int32) (t2 : Int64) (x : MS × Unit), fb_M_funRun_177 N G u v3 v4 v6 t0 t1 t2 = some x → ∀ (H : Heap) (locs : List Loc), va_P D cl (wM cB cI cJ cZ cS iM h0 ad u) H → va_D A (wM cB cI cJ cZ cS iM h0 ad u) → va_S A s.heap H locs → ∀ (ls : Array Slot), lv_has ls 8 [(0, .ref h0), (3, .int v3), (4, .int v4), (6, .int v6)] → W p l e R s m args below meth c H locs 0 0 (MQ below (mQv D cl cB cI cJ cZ cS iM h0 ad A x) args s 0 0 A) (F0 m 177 ls [.long t2, .int t1, .ref (ad t0)]) := by
  intro u v3 v4 v6 t0 t1 t2 x hf H locs hP hD hS ls hl
  obtain ⟨hx, hb, hr, hml, ht, hown, hM, hK, hA, hlocks⟩ := id C0
  unfold fb_M_funRun_177 at hf
  obtain ⟨hk9, hf⟩ := ck_some hf
  obtain ⟨hi9, hf⟩ := ck_some hf
  refine us_J hx hb hK hP hD hS (isK_1 hk9) (isK_2 hk9) hi9 d_M_funRun_177 (fun H locs hP hD hS => ?_)
  obtain ⟨w5, e5, hf⟩ := lt_some hf
  rw [← e5] at hP hD
  refine lv_aload_n hx hb d_M_funRun_178 rfl (lv_at hl 0 rfl) ?_
  refine ug_R hx hb ht hown hM hK hP 88 (by decide) lk_M_88 (by decide) d_M_funRun_179 ?_
  refine lv_aload_n hx hb d_M_funRun_182 rfl (lv_at hl 0 rfl) ?_
  refine ug_I hx hb ht hown hM hK hP 133 (by decide) lk_M_133 (by decide) d_M_funRun_183 ?_
  refine lv_sipush (v := 500) hx hb d_M_funRun_186 (by decide) ?_
  refine lv_imul hx hb d_M_funRun_189 ?_
  refine lv_iload hx hb d_M_funRun_190 (lv_at hl 3 rfl) ?_
  refine lv_iadd hx hb d_M_funRun_192 ?_
  refine lv_iconst (v := 1) hx hb d_M_funRun_193 (by decide) ?_
  refine lv_iadd hx hb d_M_funRun_194 ?_
  refine lv_iload hx hb d_M_funRun_195 (lv_at hl 2 rfl) ?_
  refine lv_i2l hx hb d_M_funRun_197 rfl ?_
  obtain ⟨hi9, hf⟩ := ck_some hf
  refine us_J hx hb hK hP hD hS (by decide) (by decide) hi9 d_M_funRun_198 (fun H locs hP hD hS => ?_)
  obtain ⟨w6, e6, hf⟩ := lt_some hf
  rw [← e6] at hP hD
  refine lv_iconst (v := 0) hx hb d_M_funRun_199 (by decide) ?_
  refine lv_istore (lv' := [(7, .int 0), (0, .ref h0), (3, .int v3), (4, .int v4), (6, .int v6)]) hx hb d_M_funRun_200 hl (by decide) rfl (fun ls hl => ?_)
  exact hG.2 _ _ _ _ _ _ hf H locs hP hD hS ls (lv_sub hl [1, 2, 3, 4, 0] rfl)
def fb_M_funRun_34 (N : Nat) (G : (MS → Int32 → Int32 → Int32 → Int32 → Int32 → Int32 → Option (MS × Unit)) × (MS → Int32 → Int32 → Int32 → Int32 → Option (MS × Unit))) (u : MS) (v1 : Int32) (v2 : Int32) (v3 : Int32) (v4 : Int32) (v5 : Int32) (v6 : Int32) : Option (MS × Unit) := br (decide (v4 ≤ v6)) (br (decide (v5 ≤ 500)) (bnd (fm_M_wants N u (u.1 133) (2 + v4)) (fun u7 r7 => br (decide (r7 = 0)) (bnd (fm_M_noRoom N u7) (fun u10 _ => some (u10, ()))) (ck (inb (u7.1 133) (ln 89)) (lt (u7.2.2.1 89 (u7.1 133).toNatClampNeg) (fun y8 => ck (inb (u7.1 133) (ln 89)) (ck (inb (u7.1 133) (ln 89)) (lt (upA u7 89 (upd (u7.2.2.1 89) (u7.1 133).toNatClampNeg ((u7.2.2.1 89 (u7.1 133).toNatClampNeg) + (2 + v4)))) (fun w9 => br (decide (v2 = 15)) (ck (inb v1 (ln 27)) (fb_M_funRun_177 N G w9 (v3) (v4) (y8) (88) ((((w9.1 133) * 500) + y8)) (((-1) - (w9.2.2.1 27 v1.toNatClampNeg).toInt64)))) (fb_M_funRun_177 N G w9 (v3) (v4) (y8) (88) ((((w9.1 133) * 500) + y8)) (v3.toInt64)))))))))) (bnd (fr_M_error N u 11) (fun u11 _ => some (u11, ())))) (ck (inb v3 (ln 55)) (ck (inb ((u.2.2.1 55 v3.toNatClampNeg) + v6) (ln 57)) (bnd (fm_M_nameAt N u (u.2.2.1 57 ((u.2.2.1 55 v3.toNatClampNeg) + v6).toNatClampNeg)) (fun u12 r12 => bnd (fm_M_copySize N u12 (u.1 133) r12) (fun u13 r13 => G.1 u13 (v1) (v2) (v3) (v4) ((v5 + r13)) ((v6 + 1)))))))
set_option maxRecDepth 100000 in
set_option maxHeartbeats 4000000 in
theorem wb_M_funRun_34 {p : Program} {l : Launch} {e : Env} {R : Room} {s : State} {m : MethodId} {args : Array Value} {below : List Frame} {meth : Method} {c : Code} {D : va_G} {cl : List vw_C} {cB cI cJ cZ cS : ClassId} {A : Nat → Prop} {iM h0 : Nat} {ad : Nat → Nat} (C0 : MCx p s m args meth c b_M_funRun 8 none D cl cB cI cJ cZ cS iM A) (hR : R = rm_M_funRun) (N : Nat) (G : (MS → Int32 → Int32 → Int32 → Int32 → Int32 → Int32 → Option (MS × Unit)) × (MS → Int32 → Int32 → Int32 → Int32 → Option (MS × Unit))) (hG : (∀ (u : MS) (v1 : Int32) (v2 : Int32) (v3 : Int32) (v4 : Int32) (v5 : Int32) (v6 : Int32) (x : MS × Unit), G.1 u v1 v2 v3 v4 v5 v6 = some x → ∀ (H : Heap) (locs : List Loc), va_P D cl (wM cB cI cJ cZ cS iM h0 ad u) H → va_D A (wM cB cI cJ cZ cS iM h0 ad u) → va_S A s.heap H locs → ∀ (ls : Array Slot), lv_has ls 8 [(0, .ref h0), (1, .int v1), (2, .int v2), (3, .int v3), (4, .int v4), (5, .int v5), (6, .int v6)] → W p l e R s m args below meth c H locs 0 0 (MQ below (mQv D cl cB cI cJ cZ cS iM h0 ad A x) args s 0 0 A) (F0 m 34 ls [])) ∧ (∀ (u : MS) (v3 : Int32) (v4 : Int32) (v6 : Int32) (v7 : Int32) (x : MS × Unit), G.2 u v3 v4 v6 v7 = some x → ∀ (H : Heap) (locs : List Loc), va_P D cl (wM cB cI cJ cZ cS iM h0 ad u) H → va_D A (wM cB cI cJ cZ cS iM h0 ad u) → va_S A s.heap H locs → ∀ (ls : Array Slot), lv_has ls 8 [(0, .ref h0), (3, .int v3), (4, .int v4), (6, .int v6), (7, .int v7)] → W p l e R s m args below meth c H locs 0 0 (MQ below (mQv D cl cB cI cJ cZ cS iM h0 ad A x) args s 0 0 A) (F0 m 202 ls []))) : ∀ (u : MS) (v1 : Int32) (v2 : Int32) (v3 : Int32) (v4 : Int32) (v5 : Int32) (v6 : Int32) (x : MS × Unit), fb_M_funRun_34 N G u v1 v2 v3 v4 v5 v6 = some x → ∀ (H : Heap) (locs : List Loc), va_P D cl (wM cB cI cJ cZ cS iM h0 ad u) H → va_D A (wM cB cI cJ cZ cS iM h0 ad u) → va_S A s.heap H locs → ∀ (ls : Array Slot), lv_has ls 8 [(0, .ref h0), (1, .int v1), (2, .int v2), (3, .int v3), (4, .int v4), (5, .int v5), (6, .int v6)] → W p l e R s m args below meth c H locs 0 0 (MQ below (mQv D cl cB cI cJ cZ cS iM h0 ad A x) args s 0 0 A) (F0 m 34 ls []) := by
  intro u v1 v2 v3 v4 v5 v6 x hf H locs hP hD hS ls hl
  obtain ⟨hx, hb, hr, hml, ht, hown, hM, hK, hA, hlocks⟩ := id C0
  unfold fb_M_funRun_34 at hf
  refine lv_iload hx hb d_M_funRun_34 (lv_at hl 6 rfl) ?_
  refine lv_iload hx hb d_M_funRun_36 (lv_at hl 4 rfl) ?_
  refine lv_icmp_ge (tgt := 78) hx hb d_M_funRun_38 (by decide) (fun hc => ?_) (fun hc => ?_)
  · rw [br_p _ hc] at hf
    refine lv_iload hx hb d_M_funRun_78 (lv_at hl 5 rfl) ?_
    refine lv_sipush (v := 500) hx hb d_M_funRun_80 (by decide) ?_
    refine lv_icmp_le (tgt := 93) hx hb d_M_funRun_83 (by decide) (fun hc => ?_) (fun hc => ?_)
    · rw [br_p _ hc] at hf
      refine lv_aload_n hx hb d_M_funRun_93 rfl (lv_at hl 0 rfl) ?_
      refine lv_aload_n hx hb d_M_funRun_94 rfl (lv_at hl 0 rfl) ?_
      refine ug_I hx hb ht hown hM hK hP 133 (by decide) lk_M_133 (by decide) d_M_funRun_95 ?_
      refine lv_iconst (v := 2) hx hb d_M_funRun_98 (by decide) ?_
      refine lv_iload hx hb d_M_funRun_99 (lv_at hl 4 rfl) ?_
      refine lv_iadd hx hb d_M_funRun_101 ?_
      obtain ⟨u7, r7, hc7, hf⟩ := bnd_some hf
      refine mV_i (As := [.int (u.1 133), .int (2 + v4)]) (rest := []) C0 hP hD hS (c_M_wants N hM hc7) k_M_wants hl_M_wants hi_M_wants hs_M_wants hini_M rfl rfl hd_M_wants rfl (rm_M_funRun_M_wants hR) hl.1 (Nat.le_of_ble_eq_true rfl) d_M_funRun_102 rfl ⟨Nat.zero_le _, Nat.zero_le _⟩ (fun H locs hP hD hS => ?_)
      refine lv_if_ne (tgt := 113) hx hb d_M_funRun_105 (by decide) (fun hc => ?_) (fun hc => ?_)
      · rw [br_n _ hc] at hf
        refine lv_aload_n hx hb d_M_funRun_113 rfl (lv_at hl 0 rfl) ?_
        refine ug_R hx hb ht hown hM hK hP 89 (by decide) lk_M_89 (by decide) d_M_funRun_114 ?_
        refine lv_aload_n hx hb d_M_funRun_117 rfl (lv_at hl 0 rfl) ?_
        refine ug_I hx hb ht hown hM hK hP 133 (by decide) lk_M_133 (by decide) d_M_funRun_118 ?_
        obtain ⟨hi9, hf⟩ := ck_some hf
        refine ul_I hx hb hK hP (by decide) (by decide) hi9 d_M_funRun_121 ?_
        obtain ⟨y8, e8, hf⟩ := lt_some hf
        rw [← e8]
        refine lv_istore (lv' := [(6, .int y8), (0, .ref h0), (1, .int v1), (2, .int v2), (3, .int v3), (4, .int v4), (5, .int v5)]) hx hb d_M_funRun_122 hl (by decide) rfl (fun ls hl => ?_)
        refine lv_aload_n hx hb d_M_funRun_124 rfl (lv_at hl 1 rfl) ?_
        refine ug_R hx hb ht hown hM hK hP 89 (by decide) lk_M_89 (by decide) d_M_funRun_125 ?_
        refine lv_aload_n hx hb d_M_funRun_128 rfl (lv_at hl 1 rfl) ?_
        refine ug_I hx hb ht hown hM hK hP 133 (by decide) lk_M_133 (by decide) d_M_funRun_129 ?_
        refine lv_dup2_11 hx hb d_M_funRun_132 rfl rfl ?_
        obtain ⟨hi9, hf⟩ := ck_some hf
        refine ul_I hx hb hK hP (by decide) (by decide) hi9 d_M_funRun_133 ?_
        refine lv_iconst (v := 2) hx hb d_M_funRun_134 (by decide) ?_
        refine lv_iload hx hb d_M_funRun_135 (lv_at hl 5 rfl) ?_
        refine lv_iadd hx hb d_M_funRun_137 ?_
        refine lv_iadd hx hb d_M_funRun_138 ?_
        obtain ⟨hi9, hf⟩ := ck_some hf
        refine us_I hx hb hK hP hD hS (by decide) (by decide) hi9 d_M_funRun_139 (fun H locs hP hD hS => ?_)
        obtain ⟨w9, e9, hf⟩ := lt_some hf
        rw [← e9] at hP hD
        refine lv_aload_n hx hb d_M_funRun_140 rfl (lv_at hl 1 rfl) ?_
        refine ug_R hx hb ht hown hM hK hP 88 (by decide) lk_M_88 (by decide) d_M_funRun_141 ?_
        refine lv_aload_n hx hb d_M_funRun_144 rfl (lv_at hl 1 rfl) ?_
        refine ug_I hx hb ht hown hM hK hP 133 (by decide) lk_M_133 (by decide) d_M_funRun_145 ?_
        refine lv_sipush (v := 500) hx hb d_M_funRun_148 (by decide) ?_
        refine lv_imul hx hb d_M_funRun_151 ?_
        refine lv_iload hx hb d_M_funRun_152 (lv_at hl 0 rfl) ?_
        refine lv_iadd hx hb d_M_funRun_154 ?_
        refine lv_iload_n hx hb d_M_funRun_155 rfl (lv_at hl 3 rfl) ?_
        refine lv_bipush (v := 15) hx hb d_M_funRun_156 (by decide) ?_
        refine lv_icmp_ne (tgt := 175) hx hb d_M_funRun_158 (by decide) (fun hc => ?_) (fun hc => ?_)
        · rw [br_n _ hc] at hf
          refine lv_iload_n hx hb d_M_funRun_175 rfl (lv_at hl 4 rfl) ?_
          refine lv_i2l hx hb d_M_funRun_176 rfl ?_
          exact wb_M_funRun_177 C0 hR N G hG _ _ _ _ _ _ _ _ hf H locs hP hD hS ls (lv_sub hl [1, 4, 5, 0] rfl)
        · rw [br_p _ hc] at hf
          refine lv_ldc2 (v := (-1)) hx hb hown (ht _ (wd_of 3094 (by decide +kernel) rfl)) d_M_funRun_161 ?_
          refine lv_aload_n hx hb d_M_funRun_164 rfl (lv_at hl 1 rfl) ?_
          refine ug_R hx hb ht hown hM hK hP 27 (by decide) lk_M_27 (by decide) d_M_funRun_165 ?_
          refine lv_iload_n hx hb d_M_funRun_168 rfl (lv_at hl 2 rfl) ?_
          obtain ⟨hi9, hf⟩ := ck_some hf
          refine ul_I hx hb hK hP (by decide) (by decide) hi9 d_M_funRun_169 ?_
          refine lv_i2l hx hb d_M_funRun_170 rfl ?_
          refine lv_lsub hx hb d_M_funRun_171 ?_
          refine lv_goto (tgt := 177) hx hb d_M_funRun_172 (by decide) ?_
          exact wb_M_funRun_177 C0 hR N G hG _ _ _ _ _ _ _ _ hf H locs hP hD hS ls (lv_sub hl [1, 4, 5, 0] rfl)
      · rw [br_p _ hc] at hf
        refine lv_aload_n hx hb d_M_funRun_108 rfl (lv_at hl 0 rfl) ?_
        obtain ⟨u10, r10, hc10, hf⟩ := bnd_some hf
        refine mV_v (As := []) (rest := []) C0 hP hD hS (c_M_noRoom N hM hc10) k_M_noRoom hl_M_noRoom hi_M_noRoom hs_M_noRoom hini_M rfl rfl hd_M_noRoom rfl (rm_M_funRun_M_noRoom hR) hl.1 (Nat.le_of_ble_eq_true rfl) d_M_funRun_109 rfl ⟨Nat.zero_le _, Nat.zero_le _⟩ (fun H locs hP hD hS => ?_)
        exact mr_v C0 hP hD hS hf d_M_funRun_112
    · rw [br_n _ hc] at hf
      refine lv_aload_n hx hb d_M_funRun_86 rfl (lv_at hl 0 rfl) ?_
      refine lv_bipush (v := 11) hx hb d_M_funRun_87 (by decide) ?_
      obtain ⟨u11, r11, hc11, hf⟩ := bnd_some hf
      refine mV_v (As := [.int 11]) (rest := []) C0 hP hD hS (c_M_error N hM hc11) k_M_error hl_M_error hi_M_error hs_M_error hini_M rfl rfl hd_M_error rfl (rm_M_funRun_M_error hR) hl.1 (Nat.le_of_ble_eq_true rfl) d_M_funRun_89 rfl ⟨Nat.zero_le _, Nat.zero_le _⟩ (fun H locs hP hD hS => ?_)
      exact mr_v C0 hP hD hS hf d_M_funRun_92
  · rw [br_n _ hc] at hf
    refine lv_iload hx hb d_M_funRun_41 (lv_at hl 5 rfl) ?_
    refine lv_aload_n hx hb d_M_funRun_43 rfl (lv_at hl 0 rfl) ?_
    refine lv_aload_n hx hb d_M_funRun_44 rfl (lv_at hl 0 rfl) ?_
    refine ug_I hx hb ht hown hM hK hP 133 (by decide) lk_M_133 (by decide) d_M_funRun_45 ?_
    refine lv_aload_n hx hb d_M_funRun_48 rfl (lv_at hl 0 rfl) ?_
    refine lv_aload_n hx hb d_M_funRun_49 rfl (lv_at hl 0 rfl) ?_
    refine ug_R hx hb ht hown hM hK hP 57 (by decide) lk_M_57 (by decide) d_M_funRun_50 ?_
    refine lv_aload_n hx hb d_M_funRun_53 rfl (lv_at hl 0 rfl) ?_
    refine ug_R hx hb ht hown hM hK hP 55 (by decide) lk_M_55 (by decide) d_M_funRun_54 ?_
    refine lv_iload_n hx hb d_M_funRun_57 rfl (lv_at hl 3 rfl) ?_
    obtain ⟨hi9, hf⟩ := ck_some hf
    refine ul_I hx hb hK hP (by decide) (by decide) hi9 d_M_funRun_58 ?_
    refine lv_iload hx hb d_M_funRun_59 (lv_at hl 6 rfl) ?_
    refine lv_iadd hx hb d_M_funRun_61 ?_
    obtain ⟨hi9, hf⟩ := ck_some hf
    refine ul_I hx hb hK hP (by decide) (by decide) hi9 d_M_funRun_62 ?_
    obtain ⟨u12, r12, hc12, hf⟩ := bnd_some hf
    refine mV_l (As := [.int (u.2.2.1 57 ((u.2.2.1 55 v3.toNatClampNeg) + v6).toNatClampNeg)]) (rest := [.int (u.1 133), .ref h0, .int v5]) C0 hP hD hS (c_M_nameAt N hM hc12) k_M_nameAt hl_M_nameAt hi_M_nameAt hs_M_nameAt hini_M rfl rfl hd_M_nameAt rfl (rm_M_funRun_M_nameAt hR) hl.1 (Nat.le_of_ble_eq_true rfl) d_M_funRun_63 rfl ⟨Nat.zero_le _, Nat.zero_le _⟩ (fun H locs hP hD hS => ?_)
    obtain ⟨u13, r13, hc13, hf⟩ := bnd_some hf
    refine mV_i (As := [.int (u.1 133), .long r12]) (rest := [.int v5]) C0 hP hD hS (c_M_copySize N hM hc13) k_M_copySize hl_M_copySize hi_M_copySize hs_M_copySize hini_M rfl rfl hd_M_copySize rfl (rm_M_funRun_M_copySize hR) hl.1 (Nat.le_of_ble_eq_true rfl) d_M_funRun_66 rfl ⟨Nat.zero_le _, Nat.zero_le _⟩ (fun H locs hP hD hS => ?_)
    refine lv_iadd hx hb d_M_funRun_69 ?_
    refine lv_istore (lv' := [(5, .int (v5 + r13)), (0, .ref h0), (1, .int v1), (2, .int v2), (3, .int v3), (4, .int v4), (6, .int v6)]) hx hb d_M_funRun_70 hl (by decide) rfl (fun ls hl => ?_)
    refine lv_iinc (v := (v6 + 1)) (lv' := [(6, .int (v6 + 1)), (5, .int (v5 + r13)), (0, .ref h0), (1, .int v1), (2, .int v2), (3, .int v3), (4, .int v4)]) hx hb d_M_funRun_72 hl (k := 6) rfl rfl (by decide) rfl (fun ls hl => ?_)
    refine lv_goto (tgt := 34) hx hb d_M_funRun_75 (by decide) ?_
    exact hG.1 _ _ _ _ _ _ _ _ hf H locs hP hD hS ls (lv_sub hl [2, 3, 4, 5, 6, 1, 0] rfl)
def fb_M_funRun_23 (N : Nat) (G : (MS → Int32 → Int32 → Int32 → Int32 → Int32 → Int32 → Option (MS × Unit)) × (MS → Int32 → Int32 → Int32 → Int32 → Option (MS × Unit))) (u : MS) (v1 : Int32) (v2 : Int32) (v3 : Int32) (t0 : Int32) : Option (MS × Unit) := G.1 u (v1) (v2) (v3) (t0) ((2 + t0)) (0)
set_option maxRecDepth 100000 in
set_option maxHeartbeats 4000000 in
theorem wb_M_funRun_23 {p : Program} {l : Launch} {e : Env} {R : Room} {s : State} {m : MethodId} {args : Array Value} {below : List Frame} {meth : Method} {c : Code} {D : va_G} {cl : List vw_C} {cB cI cJ cZ cS : ClassId} {A : Nat → Prop} {iM h0 : Nat} {ad : Nat → Nat} (C0 : MCx p s m args meth c b_M_funRun 8 none D cl cB cI cJ cZ cS iM A) (hR : R = rm_M_funRun) (N : Nat) (G : (MS → Int32 → Int32 → Int32 → Int32 → Int32 → Int32 → Option (MS × Unit)) × (MS → Int32 → Int32 → Int32 → Int32 → Option (MS × Unit))) (hG : (∀ (u : MS) (v1 : Int32) (v2 : Int32) (v3 : Int32) (v4 : Int32) (v5 : Int32) (v6 : Int32) (x : MS × Unit), G.1 u v1 v2 v3 v4 v5 v6 = some x → ∀ (H : Heap) (locs : List Loc), va_P D cl (wM cB cI cJ cZ cS iM h0 ad u) H → va_D A (wM cB cI cJ cZ cS iM h0 ad u) → va_S A s.heap H locs → ∀ (ls : Array Slot), lv_has ls 8 [(0, .ref h0), (1, .int v1), (2, .int v2), (3, .int v3), (4, .int v4), (5, .int v5), (6, .int v6)] → W p l e R s m args below meth c H locs 0 0 (MQ below (mQv D cl cB cI cJ cZ cS iM h0 ad A x) args s 0 0 A) (F0 m 34 ls [])) ∧ (∀ (u : MS) (v3 : Int32) (v4 : Int32) (v6 : Int32) (v7 : Int32) (x : MS × Unit), G.2 u v3 v4 v6 v7 = some x → ∀ (H : Heap) (locs : List Loc), va_P D cl (wM cB cI cJ cZ cS iM h0 ad u) H → va_D A (wM cB cI cJ cZ cS iM h0 ad u) → va_S A s.heap H locs → ∀ (ls : Array Slot), lv_has ls 8 [(0, .ref h0), (3, .int v3), (4, .int v4), (6, .int v6), (7, .int v7)] → W p l e R s m args below meth c H locs 0 0 (MQ below (mQv D cl cB cI cJ cZ cS iM h0 ad A x) args s 0 0 A) (F0 m 202 ls []))) : ∀ (u : MS) (v1 : Int32) (v2 : Int32) (v3 : Int32) (t0 : Int32) (x : MS × Unit), fb_M_funRun_23 N G u v1 v2 v3 t0 = some x → ∀ (H : Heap) (locs : List Loc), va_P D cl (wM cB cI cJ cZ cS iM h0 ad u) H → va_D A (wM cB cI cJ cZ cS iM h0 ad u) → va_S A s.heap H locs → ∀ (ls : Array Slot), lv_has ls 8 [(0, .ref h0), (1, .int v1), (2, .int v2), (3, .int v3)] → W p l e R s m args below meth c H locs 0 0 (MQ below (mQv D cl cB cI cJ cZ cS iM h0 ad A x) args s 0 0 A) (F0 m 23 ls [.int t0]) := by
  intro u v1 v2 v3 t0 x hf H locs hP hD hS ls hl
  obtain ⟨hx, hb, hr, hml, ht, hown, hM, hK, hA, hlocks⟩ := id C0
  unfold fb_M_funRun_23 at hf
  refine lv_istore (lv' := [(4, .int t0), (0, .ref h0), (1, .int v1), (2, .int v2), (3, .int v3)]) hx hb d_M_funRun_23 hl (by decide) rfl (fun ls hl => ?_)
  refine lv_iconst (v := 2) hx hb d_M_funRun_25 (by decide) ?_
  refine lv_iload hx hb d_M_funRun_26 (lv_at hl 0 rfl) ?_
  refine lv_iadd hx hb d_M_funRun_28 ?_
  refine lv_istore (lv' := [(5, .int (2 + t0)), (4, .int t0), (0, .ref h0), (1, .int v1), (2, .int v2), (3, .int v3)]) hx hb d_M_funRun_29 hl (by decide) rfl (fun ls hl => ?_)
  refine lv_iconst (v := 0) hx hb d_M_funRun_31 (by decide) ?_
  refine lv_istore (lv' := [(6, .int 0), (5, .int (2 + t0)), (4, .int t0), (0, .ref h0), (1, .int v1), (2, .int v2), (3, .int v3)]) hx hb d_M_funRun_32 hl (by decide) rfl (fun ls hl => ?_)
  exact hG.1 _ _ _ _ _ _ _ _ hf H locs hP hD hS ls (lv_sub hl [3, 4, 5, 6, 2, 1, 0] rfl)
def fb_M_funRun_0 (N : Nat) (G : (MS → Int32 → Int32 → Int32 → Int32 → Int32 → Int32 → Option (MS × Unit)) × (MS → Int32 → Int32 → Int32 → Int32 → Option (MS × Unit))) (u : MS) (v1 : Int32) (v2 : Int32) : Option (MS × Unit) := ck (inb v1 (ln 25)) (br (decide (v2 = 15)) (fb_M_funRun_23 N G u (v1) (v2) ((u.2.2.1 25 v1.toNatClampNeg)) (0)) (ck (inb (u.2.2.1 25 v1.toNatClampNeg) (ln 54)) (fb_M_funRun_23 N G u (v1) (v2) ((u.2.2.1 25 v1.toNatClampNeg)) ((u.2.2.1 54 (u.2.2.1 25 v1.toNatClampNeg).toNatClampNeg)))))
set_option maxRecDepth 100000 in
set_option maxHeartbeats 4000000 in
theorem wb_M_funRun_0 {p : Program} {l : Launch} {e : Env} {R : Room} {s : State} {m : MethodId} {args : Array Value} {below : List Frame} {meth : Method} {c : Code} {D : va_G} {cl : List vw_C} {cB cI cJ cZ cS : ClassId} {A : Nat → Prop} {iM h0 : Nat} {ad : Nat → Nat} (C0 : MCx p s m args meth c b_M_funRun 8 none D cl cB cI cJ cZ cS iM A) (hR : R = rm_M_funRun) (N : Nat) (G : (MS → Int32 → Int32 → Int32 → Int32 → Int32 → Int32 → Option (MS × Unit)) × (MS → Int32 → Int32 → Int32 → Int32 → Option (MS × Unit))) (hG : (∀ (u : MS) (v1 : Int32) (v2 : Int32) (v3 : Int32) (v4 : Int32) (v5 : Int32) (v6 : Int32) (x : MS × Unit), G.1 u v1 v2 v3 v4 v5 v6 = some x → ∀ (H : Heap) (locs : List Loc), va_P D cl (wM cB cI cJ cZ cS iM h0 ad u) H → va_D A (wM cB cI cJ cZ cS iM h0 ad u) → va_S A s.heap H locs → ∀ (ls : Array Slot), lv_has ls 8 [(0, .ref h0), (1, .int v1), (2, .int v2), (3, .int v3), (4, .int v4), (5, .int v5), (6, .int v6)] → W p l e R s m args below meth c H locs 0 0 (MQ below (mQv D cl cB cI cJ cZ cS iM h0 ad A x) args s 0 0 A) (F0 m 34 ls [])) ∧ (∀ (u : MS) (v3 : Int32) (v4 : Int32) (v6 : Int32) (v7 : Int32) (x : MS × Unit), G.2 u v3 v4 v6 v7 = some x → ∀ (H : Heap) (locs : List Loc), va_P D cl (wM cB cI cJ cZ cS iM h0 ad u) H → va_D A (wM cB cI cJ cZ cS iM h0 ad u) → va_S A s.heap H locs → ∀ (ls : Array Slot), lv_has ls 8 [(0, .ref h0), (3, .int v3), (4, .int v4), (6, .int v6), (7, .int v7)] → W p l e R s m args below meth c H locs 0 0 (MQ below (mQv D cl cB cI cJ cZ cS iM h0 ad A x) args s 0 0 A) (F0 m 202 ls []))) : ∀ (u : MS) (v1 : Int32) (v2 : Int32) (x : MS × Unit), fb_M_funRun_0 N G u v1 v2 = some x → ∀ (H : Heap) (locs : List Loc), va_P D cl (wM cB cI cJ cZ cS iM h0 ad u) H → va_D A (wM cB cI cJ cZ cS iM h0 ad u) → va_S A s.heap H locs → ∀ (ls : Array Slot), lv_has ls 8 [(0, .ref h0), (1, .int v1), (2, .int v2)] → W p l e R s m args below meth c H locs 0 0 (MQ below (mQv D cl cB cI cJ cZ cS iM h0 ad A x) args s 0 0 A) (F0 m 0 ls []) := by
  intro u v1 v2 x hf H locs hP hD hS ls hl
  obtain ⟨hx, hb, hr, hml, ht, hown, hM, hK, hA, hlocks⟩ := id C0
  unfold fb_M_funRun_0 at hf
  refine lv_aload_n hx hb d_M_funRun_0 rfl (lv_at hl 0 rfl) ?_
  refine ug_R hx hb ht hown hM hK hP 25 (by decide) lk_M_25 (by decide) d_M_funRun_1 ?_
  refine lv_iload_n hx hb d_M_funRun_4 rfl (lv_at hl 1 rfl) ?_
  obtain ⟨hi9, hf⟩ := ck_some hf
  refine ul_I hx hb hK hP (by decide) (by decide) hi9 d_M_funRun_5 ?_
  refine lv_istore_n (lv' := [(3, .int (u.2.2.1 25 v1.toNatClampNeg)), (0, .ref h0), (1, .int v1), (2, .int v2)]) hx hb d_M_funRun_6 rfl hl (by decide) rfl (fun ls hl => ?_)
  refine lv_iload_n hx hb d_M_funRun_7 rfl (lv_at hl 3 rfl) ?_
  refine lv_bipush (v := 15) hx hb d_M_funRun_8 (by decide) ?_
  refine lv_icmp_ne (tgt := 17) hx hb d_M_funRun_10 (by decide) (fun hc => ?_) (fun hc => ?_)
  · rw [br_n _ hc] at hf
    refine lv_aload_n hx hb d_M_funRun_17 rfl (lv_at hl 1 rfl) ?_
    refine ug_R hx hb ht hown hM hK hP 54 (by decide) lk_M_54 (by decide) d_M_funRun_18 ?_
    refine lv_iload_n hx hb d_M_funRun_21 rfl (lv_at hl 0 rfl) ?_
    obtain ⟨hi9, hf⟩ := ck_some hf
    refine ul_I hx hb hK hP (by decide) (by decide) hi9 d_M_funRun_22 ?_
    exact wb_M_funRun_23 C0 hR N G hG _ _ _ _ _ _ hf H locs hP hD hS ls (lv_sub hl [1, 2, 3, 0] rfl)
  · rw [br_p _ hc] at hf
    refine lv_iconst (v := 0) hx hb d_M_funRun_13 (by decide) ?_
    refine lv_goto (tgt := 23) hx hb d_M_funRun_14 (by decide) ?_
    exact wb_M_funRun_23 C0 hR N G hG _ _ _ _ _ _ hf H locs hP hD hS ls (lv_sub hl [1, 2, 3, 0] rfl)
def gg_M_funRun (N : Nat) : Nat → ((MS → Int32 → Int32 → Int32 → Int32 → Int32 → Int32 → Option (MS × Unit)) × (MS → Int32 → Int32 → Int32 → Int32 → Option (MS × Unit)))
  | 0 => (fun _ _ _ _ _ _ _ => none, fun _ _ _ _ _ => none)
  | n + 1 => (fb_M_funRun_34 N (gg_M_funRun N n), fb_M_funRun_202 N (gg_M_funRun N n))
theorem wg_M_funRun {p : Program} {l : Launch} {e : Env} {R : Room} {s : State} {m : MethodId} {args : Array Value} {below : List Frame} {meth : Method} {c : Code} {D : va_G} {cl : List vw_C} {cB cI cJ cZ cS : ClassId} {A : Nat → Prop} {iM h0 : Nat} {ad : Nat → Nat} (C0 : MCx p s m args meth c b_M_funRun 8 none D cl cB cI cJ cZ cS iM A) (hR : R = rm_M_funRun) (N : Nat) : ∀ n : Nat, (∀ (u : MS) (v1 : Int32) (v2 : Int32) (v3 : Int32) (v4 : Int32) (v5 : Int32) (v6 : Int32) (x : MS × Unit), (gg_M_funRun N n).1 u v1 v2 v3 v4 v5 v6 = some x → ∀ (H : Heap) (locs : List Loc), va_P D cl (wM cB cI cJ cZ cS iM h0 ad u) H → va_D A (wM cB cI cJ cZ cS iM h0 ad u) → va_S A s.heap H locs → ∀ (ls : Array Slot), lv_has ls 8 [(0, .ref h0), (1, .int v1), (2, .int v2), (3, .int v3), (4, .int v4), (5, .int v5), (6, .int v6)] → W p l e R s m args below meth c H locs 0 0 (MQ below (mQv D cl cB cI cJ cZ cS iM h0 ad A x) args s 0 0 A) (F0 m 34 ls [])) ∧ (∀ (u : MS) (v3 : Int32) (v4 : Int32) (v6 : Int32) (v7 : Int32) (x : MS × Unit), (gg_M_funRun N n).2 u v3 v4 v6 v7 = some x → ∀ (H : Heap) (locs : List Loc), va_P D cl (wM cB cI cJ cZ cS iM h0 ad u) H → va_D A (wM cB cI cJ cZ cS iM h0 ad u) → va_S A s.heap H locs → ∀ (ls : Array Slot), lv_has ls 8 [(0, .ref h0), (3, .int v3), (4, .int v4), (6, .int v6), (7, .int v7)] → W p l e R s m args below meth c H locs 0 0 (MQ below (mQv D cl cB cI cJ cZ cS iM h0 ad A x) args s 0 0 A) (F0 m 202 ls []))
  | 0 => ⟨(fun u v1 v2 v3 v4 v5 v6 x hf => by cases hf), (fun u v3 v4 v6 v7 x hf => by cases hf)⟩
  | n + 1 => ⟨wb_M_funRun_34 C0 hR N (gg_M_funRun N n) (wg_M_funRun C0 hR N n), wb_M_funRun_202 C0 hR N (gg_M_funRun N n) (wg_M_funRun C0 hR N n)⟩
def fm_M_funRun (N : Nat) (u : MS) (v1 : Int32) (v2 : Int32) : Option (MS × Unit) := fb_M_funRun_0 N (gg_M_funRun N N) u v1 v2
set_option maxRecDepth 100000 in
set_option maxHeartbeats 4000000 in
theorem c_M_funRun (N : Nat) {l : Launch} {D : va_G} {cl : List vw_C} {cB cI cJ cZ cS : ClassId} {iM h0 : Nat} {ad : Nat → Nat} {u : MS} {sz : Nat} {v1 : Int32} {v2 : Int32} {x : MS × Unit} (hM : cl[iM]? = some (R_M, F_M, 171)) (hf : fm_M_funRun N u v1 v2 = some x) : Met l y_M_funRun (wd_ws y_M_funRun b_M_funRun 8 none) rm_M_funRun (mPc D cl cB cI cJ cZ cS iM h0 ad u sz [.ref h0, .int v1, .int v2]) (mQv D cl cB cI cJ cZ cS iM h0 ad (mA cB cI cJ cZ cS iM h0 ad u sz) x) 0 0 (mA cB cI cJ cZ cS iM h0 ad u sz) :=
  mMet (by decide) rfl hM (Nat.le_of_ble_eq_true rfl) (fun p e s m below meth c ls hsz C0 hP hD hS hl => by
    have hR : rm_M_funRun = rm_M_funRun := rfl
    exact wb_M_funRun_0 C0 hR N (gg_M_funRun N N) (wg_M_funRun C0 hR N N) u _ _ x hf s.heap [] hP hD hS ls (lv_sub hl [0, 1, 2] rfl))
abbrev b_M_sendRun : ByteArray := prog_14_method_148_code
def y_M_sendRun : MethodName := ⟨R_M, "sendRun", "()V"⟩
def w_M_sendRun : List Cond := wd_ws y_M_sendRun b_M_sendRun 8 none
set_option maxRecDepth 100000 in
theorem k_M_sendRun : Cond.code y_M_sendRun b_M_sendRun 8 none ∈ wd_tbl := wd_of 3229 rfl rfl
theorem d_M_sendRun_0 : decode b_M_sendRun 0 = .ok (.aload_n 0, 1) := by decide +kernel
theorem d_M_sendRun_1 : decode b_M_sendRun 1 = .ok (.iconst 1, 1) := by decide +kernel
theorem d_M_sendRun_2 : decode b_M_sendRun 2 = .ok (.invokevirtual 848, 3) := by decide +kernel
theorem d_M_sendRun_5 : decode b_M_sendRun 5 = .ok (.lstore_n 1, 1) := by decide +kernel
theorem d_M_sendRun_6 : decode b_M_sendRun 6 = .ok (.iconst (-1), 1) := by decide +kernel
theorem d_M_sendRun_7 : decode b_M_sendRun 7 = .ok (.istore_n 3, 1) := by decide +kernel
theorem d_M_sendRun_8 : decode b_M_sendRun 8 = .ok (.lload_n 1, 1) := by decide +kernel
theorem d_M_sendRun_9 : decode b_M_sendRun 9 = .ok (.invokestatic 676, 3) := by decide +kernel
theorem d_M_sendRun_12 : decode b_M_sendRun 12 = .ok (.iconst 4, 1) := by decide +kernel
theorem d_M_sendRun_13 : decode b_M_sendRun 13 = .ok (.if_icmp .ne 11, 3) := by decide +kernel
theorem d_M_sendRun_16 : decode b_M_sendRun 16 = .ok (.lload_n 1, 1) := by decide +kernel
theorem d_M_sendRun_17 : decode b_M_sendRun 17 = .ok (.invokestatic 680, 3) := by decide +kernel
theorem d_M_sendRun_20 : decode b_M_sendRun 20 = .ok (.istore_n 3, 1) := by decide +kernel
theorem d_M_sendRun_21 : decode b_M_sendRun 21 = .ok (.goto 20, 3) := by decide +kernel
theorem d_M_sendRun_24 : decode b_M_sendRun 24 = .ok (.lload_n 1, 1) := by decide +kernel
theorem d_M_sendRun_25 : decode b_M_sendRun 25 = .ok (.invokestatic 676, 3) := by decide +kernel
theorem d_M_sendRun_28 : decode b_M_sendRun 28 = .ok (.iconst 1, 1) := by decide +kernel
theorem d_M_sendRun_29 : decode b_M_sendRun 29 = .ok (.if_icmp .ne 12, 3) := by decide +kernel
theorem d_M_sendRun_32 : decode b_M_sendRun 32 = .ok (.aload_n 0, 1) := by decide +kernel
theorem d_M_sendRun_33 : decode b_M_sendRun 33 = .ok (.lload_n 1, 1) := by decide +kernel
theorem d_M_sendRun_34 : decode b_M_sendRun 34 = .ok (.invokestatic 680, 3) := by decide +kernel
theorem d_M_sendRun_37 : decode b_M_sendRun 37 = .ok (.invokevirtual 986, 3) := by decide +kernel
theorem d_M_sendRun_40 : decode b_M_sendRun 40 = .ok (.istore_n 3, 1) := by decide +kernel
theorem d_M_sendRun_41 : decode b_M_sendRun 41 = .ok (.iload_n 3, 1) := by decide +kernel
theorem d_M_sendRun_42 : decode b_M_sendRun 42 = .ok (.iconst (-1), 1) := by decide +kernel
theorem d_M_sendRun_43 : decode b_M_sendRun 43 = .ok (.if_icmp .ne 10, 3) := by decide +kernel
theorem d_M_sendRun_46 : decode b_M_sendRun 46 = .ok (.aload_n 0, 1) := by decide +kernel
theorem d_M_sendRun_47 : decode b_M_sendRun 47 = .ok (.bipush 11, 2) := by decide +kernel
theorem d_M_sendRun_49 : decode b_M_sendRun 49 = .ok (.invokevirtual 861, 3) := by decide +kernel
theorem d_M_sendRun_52 : decode b_M_sendRun 52 = .ok (.return_, 1) := by decide +kernel
theorem d_M_sendRun_53 : decode b_M_sendRun 53 = .ok (.aload_n 0, 1) := by decide +kernel
theorem d_M_sendRun_54 : decode b_M_sendRun 54 = .ok (.iload_n 3, 1) := by decide +kernel
theorem d_M_sendRun_55 : decode b_M_sendRun 55 = .ok (.iconst 2, 1) := by decide +kernel
theorem d_M_sendRun_56 : decode b_M_sendRun 56 = .ok (.iconst 0, 1) := by decide +kernel
theorem d_M_sendRun_57 : decode b_M_sendRun 57 = .ok (.iconst 0, 1) := by decide +kernel
theorem d_M_sendRun_58 : decode b_M_sendRun 58 = .ok (.iconst 0, 1) := by decide +kernel
theorem d_M_sendRun_59 : decode b_M_sendRun 59 = .ok (.aload_n 0, 1) := by decide +kernel
theorem d_M_sendRun_60 : decode b_M_sendRun 60 = .ok (.getfield 669, 3) := by decide +kernel
theorem d_M_sendRun_63 : decode b_M_sendRun 63 = .ok (.aload_n 0, 1) := by decide +kernel
theorem d_M_sendRun_64 : decode b_M_sendRun 64 = .ok (.iconst 0, 1) := by decide +kernel
theorem d_M_sendRun_65 : decode b_M_sendRun 65 = .ok (.invokevirtual 848, 3) := by decide +kernel
theorem d_M_sendRun_68 : decode b_M_sendRun 68 = .ok (.invokevirtual 763, 3) := by decide +kernel
theorem d_M_sendRun_71 : decode b_M_sendRun 71 = .ok (.aload_n 0, 1) := by decide +kernel
theorem d_M_sendRun_72 : decode b_M_sendRun 72 = .ok (.invokevirtual 930, 3) := by decide +kernel
theorem d_M_sendRun_75 : decode b_M_sendRun 75 = .ok (.lstore 4, 2) := by decide +kernel
theorem d_M_sendRun_77 : decode b_M_sendRun 77 = .ok (.aload_n 0, 1) := by decide +kernel
theorem d_M_sendRun_78 : decode b_M_sendRun 78 = .ok (.invokevirtual 930, 3) := by decide +kernel
theorem d_M_sendRun_81 : decode b_M_sendRun 81 = .ok (.lstore 6, 2) := by decide +kernel
theorem d_M_sendRun_83 : decode b_M_sendRun 83 = .ok (.aload_n 0, 1) := by decide +kernel
theorem d_M_sendRun_84 : decode b_M_sendRun 84 = .ok (.lload 4, 2) := by decide +kernel
theorem d_M_sendRun_86 : decode b_M_sendRun 86 = .ok (.invokevirtual 801, 3) := by decide +kernel
theorem d_M_sendRun_89 : decode b_M_sendRun 89 = .ok (.return_, 1) := by decide +kernel
set_option maxRecDepth 100000 in
theorem hl_M_sendRun : Cond.methodLink R_M 950 y_M_sendRun ∈ wd_tbl := wd_of 3226 (by decide +kernel) rfl
set_option maxRecDepth 100000 in
theorem hi_M_sendRun : Cond.instanceMethod y_M_sendRun ∈ wd_tbl := wd_of 3228 (by decide +kernel) rfl
set_option maxRecDepth 100000 in
theorem hs_M_sendRun : Cond.selects R_M y_M_sendRun y_M_sendRun ∈ wd_tbl := wd_of 261 (by decide +kernel) rfl
theorem hd_M_sendRun : y_M_sendRun.cls = R_M ∧ y_M_sendRun.cls ≠ "java/lang/invoke/MethodHandle" ∧ y_M_sendRun.cls ≠ "java/lang/invoke/VarHandle" ∧ (parseMethodDescriptor y_M_sendRun.desc).map (fun d => d.parameters.length) = some 0 := by decide +kernel
def rm_M_sendRun : Room := { frames := 27, cells := 0, slots := 0, locals := 704 }
theorem rm_M_sendRun_M_top {R : Room} (hR : R = rm_M_sendRun) : (rm_M_top).frames + 1 ≤ R.frames ∧ 8 + (2 + 11) + (rm_M_top).locals ≤ R.locals := by subst hR; decide
theorem rm_M_sendRun_M_sortOf {R : Room} (hR : R = rm_M_sendRun) : (rm_M_sortOf).frames + 1 ≤ R.frames ∧ 8 + (2 + 11) + (rm_M_sortOf).locals ≤ R.locals := by subst hR; decide
theorem rm_M_sendRun_M_valueOf {R : Room} (hR : R = rm_M_sendRun) : (rm_M_valueOf).frames + 1 ≤ R.frames ∧ 8 + (2 + 11) + (rm_M_valueOf).locals ≤ R.locals := by subst hR; decide
theorem rm_M_sendRun_M_namedBy {R : Room} (hR : R = rm_M_sendRun) : (rm_M_namedBy).frames + 1 ≤ R.frames ∧ 8 + (3 + 11) + (rm_M_namedBy).locals ≤ R.locals := by subst hR; decide
theorem rm_M_sendRun_M_error {R : Room} (hR : R = rm_M_sendRun) : (rm_M_error).frames + 1 ≤ R.frames ∧ 8 + (2 + 11) + (rm_M_error).locals ≤ R.locals := by subst hR; decide
theorem rm_M_sendRun_M_message {R : Room} (hR : R = rm_M_sendRun) : (rm_M_message).frames + 1 ≤ R.frames ∧ 8 + (18 + 11) + (rm_M_message).locals ≤ R.locals := by subst hR; decide
theorem rm_M_sendRun_M_take {R : Room} (hR : R = rm_M_sendRun) : (rm_M_take).frames + 1 ≤ R.frames ∧ 8 + (1 + 11) + (rm_M_take).locals ≤ R.locals := by subst hR; decide
theorem rm_M_sendRun_M_put {R : Room} (hR : R = rm_M_sendRun) : (rm_M_put).frames + 1 ≤ R.frames ∧ 8 + (3 + 11) + (rm_M_put).locals ≤ R.locals := by subst hR; decide
