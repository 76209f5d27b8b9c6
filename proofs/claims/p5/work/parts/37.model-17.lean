def fb_M_sendRun_41 (N : Nat) (G : Unit) (u : MS) (v3 : Int32) : Option (MS × Unit) := br (decide (v3 = (-1))) (bnd (fr_M_error N u 11) (fun u6 _ => some (u6, ()))) (bnd (fm_M_top N u 0) (fun u1 r1 => bnd (fm_M_message N u1 v3 2 0 0 0 (u.1 133) r1) (fun u2 _ => bnd (fm_M_take N u2) (fun u3 r3 => bnd (fm_M_take N u3) (fun u4 r4 => bnd (fm_M_put N u4 r3) (fun u5 _ => some (u5, ())))))))
set_option maxRecDepth 100000 in
set_option maxHeartbeats 4000000 in
theorem wb_M_sendRun_41 {p : Program} {l : Launch} {e : Env} {R : Room} {s : State} {m : MethodId} {args : Array Value} {below : List Frame} {meth : Method} {c : Code} {D : va_G} {cl : List vw_C} {cB cI cJ cZ cS : ClassId} {A : Nat → Prop} {iM h0 : Nat} {ad : Nat → Nat} (C0 : MCx p s m args meth c b_M_sendRun 8 none D cl cB cI cJ cZ cS iM A) (hR : R = rm_M_sendRun) (N : Nat) (G : Unit) (hG : True) : ∀ (u : MS) (v3 : Int32) (x : MS × Unit), fb_M_sendRun_41 N G u v3 = some x → ∀ (H : Heap) (locs : List Loc), va_P D cl (wM cB cI cJ cZ cS iM h0 ad u) H → va_D A (wM cB cI cJ cZ cS iM h0 ad u) → va_S A s.heap H locs → ∀ (ls : Array Slot), lv_has ls 8 [(0, .ref h0), (3, .int v3)] → W p l e R s m args below meth c H locs 0 0 (MQ below (mQv D cl cB cI cJ cZ cS iM h0 ad A x) args s 0 0 A) (F0 m 41 ls []) := by
  intro u v3 x hf H locs hP hD hS ls hl
  obtain ⟨hx, hb, hr, hml, ht, hown, hM, hK, hA, hlocks⟩ := id C0
  unfold fb_M_sendRun_41 at hf
  refine lv_iload_n hx hb d_M_sendRun_41 rfl (lv_at hl 1 rfl) ?_
  refine lv_iconst (v := (-1)) hx hb d_M_sendRun_42 (by decide) ?_
  refine lv_icmp_ne (tgt := 53) hx hb d_M_sendRun_43 (by decide) (fun hc => ?_) (fun hc => ?_)
  · rw [br_n _ hc] at hf
    refine lv_aload_n hx hb d_M_sendRun_53 rfl (lv_at hl 0 rfl) ?_
    refine lv_iload_n hx hb d_M_sendRun_54 rfl (lv_at hl 1 rfl) ?_
    refine lv_iconst (v := 2) hx hb d_M_sendRun_55 (by decide) ?_
    refine lv_iconst (v := 0) hx hb d_M_sendRun_56 (by decide) ?_
    refine lv_iconst (v := 0) hx hb d_M_sendRun_57 (by decide) ?_
    refine lv_iconst (v := 0) hx hb d_M_sendRun_58 (by decide) ?_
    refine lv_aload_n hx hb d_M_sendRun_59 rfl (lv_at hl 0 rfl) ?_
    refine ug_I hx hb ht hown hM hK hP 133 (by decide) lk_M_133 (by decide) d_M_sendRun_60 ?_
    refine lv_aload_n hx hb d_M_sendRun_63 rfl (lv_at hl 0 rfl) ?_
    refine lv_iconst (v := 0) hx hb d_M_sendRun_64 (by decide) ?_
    obtain ⟨u1, r1, hc1, hf⟩ := bnd_some hf
    refine mV_l (As := [.int 0]) (rest := [.int (u.1 133), .int 0, .int 0, .int 0, .int 2, .int v3, .ref h0]) C0 hP hD hS (c_M_top N hM hc1) k_M_top hl_M_top hi_M_top hs_M_top hini_M rfl rfl hd_M_top rfl (rm_M_sendRun_M_top hR) hl.1 (Nat.le_of_ble_eq_true rfl) d_M_sendRun_65 rfl ⟨Nat.zero_le _, Nat.zero_le _⟩ (fun H locs hP hD hS => ?_)
    obtain ⟨u2, r2, hc2, hf⟩ := bnd_some hf
    refine mV_v (As := [.int v3, .int 2, .int 0, .int 0, .int 0, .int (u.1 133), .long r1]) (rest := []) C0 hP hD hS (c_M_message N hM hc2) k_M_message hl_M_message hi_M_message hs_M_message hini_M rfl rfl hd_M_message rfl (rm_M_sendRun_M_message hR) hl.1 (Nat.le_of_ble_eq_true rfl) d_M_sendRun_68 rfl ⟨Nat.zero_le _, Nat.zero_le _⟩ (fun H locs hP hD hS => ?_)
    refine lv_aload_n hx hb d_M_sendRun_71 rfl (lv_at hl 0 rfl) ?_
    obtain ⟨u3, r3, hc3, hf⟩ := bnd_some hf
    refine mV_l (As := []) (rest := []) C0 hP hD hS (c_M_take N hM hc3) k_M_take hl_M_take hi_M_take hs_M_take hini_M rfl rfl hd_M_take rfl (rm_M_sendRun_M_take hR) hl.1 (Nat.le_of_ble_eq_true rfl) d_M_sendRun_72 rfl ⟨Nat.zero_le _, Nat.zero_le _⟩ (fun H locs hP hD hS => ?_)
    refine lv_lstore (lv' := [(4, .long r3), (0, .ref h0), (3, .int v3)]) hx hb d_M_sendRun_75 hl (by decide) rfl (fun ls hl => ?_)
    refine lv_aload_n hx hb d_M_sendRun_77 rfl (lv_at hl 1 rfl) ?_
    obtain ⟨u4, r4, hc4, hf⟩ := bnd_some hf
    refine mV_l (As := []) (rest := []) C0 hP hD hS (c_M_take N hM hc4) k_M_take hl_M_take hi_M_take hs_M_take hini_M rfl rfl hd_M_take rfl (rm_M_sendRun_M_take hR) hl.1 (Nat.le_of_ble_eq_true rfl) d_M_sendRun_78 rfl ⟨Nat.zero_le _, Nat.zero_le _⟩ (fun H locs hP hD hS => ?_)
    refine lv_lstore (lv' := [(6, .long r4), (4, .long r3), (0, .ref h0), (3, .int v3)]) hx hb d_M_sendRun_81 hl (by decide) rfl (fun ls hl => ?_)
    refine lv_aload_n hx hb d_M_sendRun_83 rfl (lv_at hl 2 rfl) ?_
    refine lv_lload hx hb d_M_sendRun_84 (lv_at hl 1 rfl) ?_
    obtain ⟨u5, r5, hc5, hf⟩ := bnd_some hf
    refine mV_v (As := [.long r3]) (rest := []) C0 hP hD hS (c_M_put N hM hc5) k_M_put hl_M_put hi_M_put hs_M_put hini_M rfl rfl hd_M_put rfl (rm_M_sendRun_M_put hR) hl.1 (Nat.le_of_ble_eq_true rfl) d_M_sendRun_86 rfl ⟨Nat.zero_le _, Nat.zero_le _⟩ (fun H locs hP hD hS => ?_)
    exact mr_v C0 hP hD hS hf d_M_sendRun_89
  · rw [br_p _ hc] at hf
    refine lv_aload_n hx hb d_M_sendRun_46 rfl (lv_at hl 0 rfl) ?_
    refine lv_bipush (v := 11) hx hb d_M_sendRun_47 (by decide) ?_
    obtain ⟨u6, r6, hc6, hf⟩ := bnd_some hf
    refine mV_v (As := [.int 11]) (rest := []) C0 hP hD hS (c_M_error N hM hc6) k_M_error hl_M_error hi_M_error hs_M_error hini_M rfl rfl hd_M_error rfl (rm_M_sendRun_M_error hR) hl.1 (Nat.le_of_ble_eq_true rfl) d_M_sendRun_49 rfl ⟨Nat.zero_le _, Nat.zero_le _⟩ (fun H locs hP hD hS => ?_)
    exact mr_v C0 hP hD hS hf d_M_sendRun_52
def fb_M_sendRun_0 (N : Nat) (G : Unit) (u : MS) : Option (MS × Unit) := bnd (fm_M_top N u 1) (fun u7 r7 => bnd (fm_M_sortOf N u7 r7) (fun u8 r8 => br (decide (r8 = 4)) (bnd (fm_M_valueOf N u8 r7) (fun u12 r12 => fb_M_sendRun_41 N G u12 (r12))) (bnd (fm_M_sortOf N u8 r7) (fun u9 r9 => br (decide (r9 = 1)) (bnd (fm_M_valueOf N u9 r7) (fun u10 r10 => bnd (fm_M_namedBy N u10 r10) (fun u11 r11 => fb_M_sendRun_41 N G u11 (r11)))) (fb_M_sendRun_41 N G u9 ((-1)))))))
set_option maxRecDepth 100000 in
set_option maxHeartbeats 4000000 in
theorem wb_M_sendRun_0 {p : Program} {l : Launch} {e : Env} {R : Room} {s : State} {m : MethodId} {args : Array Value} {below : List Frame} {meth : Method} {c : Code} {D : va_G} {cl : List vw_C} {cB cI cJ cZ cS : ClassId} {A : Nat → Prop} {iM h0 : Nat} {ad : Nat → Nat} (C0 : MCx p s m args meth c b_M_sendRun 8 none D cl cB cI cJ cZ cS iM A) (hR : R = rm_M_sendRun) (N : Nat) (G : Unit) (hG : True) : ∀ (u : MS) (x : MS × Unit), fb_M_sendRun_0 N G u = some x → ∀ (H : Heap) (locs : List Loc), va_P D cl (wM cB cI cJ cZ cS iM h0 ad u) H → va_D A (wM cB cI cJ cZ cS iM h0 ad u) → va_S A s.heap H locs → ∀ (ls : Array Slot), lv_has ls 8 [(0, .ref h0)] → W p l e R s m args below meth c H locs 0 0 (MQ below (mQv D cl cB cI cJ cZ cS iM h0 ad A x) args s 0 0 A) (F0 m 0 ls []) := by
  intro u x hf H locs hP hD hS ls hl
  obtain ⟨hx, hb, hr, hml, ht, hown, hM, hK, hA, hlocks⟩ := id C0
  unfold fb_M_sendRun_0 at hf
  refine lv_aload_n hx hb d_M_sendRun_0 rfl (lv_at hl 0 rfl) ?_
  refine lv_iconst (v := 1) hx hb d_M_sendRun_1 (by decide) ?_
  obtain ⟨u7, r7, hc7, hf⟩ := bnd_some hf
  refine mV_l (As := [.int 1]) (rest := []) C0 hP hD hS (c_M_top N hM hc7) k_M_top hl_M_top hi_M_top hs_M_top hini_M rfl rfl hd_M_top rfl (rm_M_sendRun_M_top hR) hl.1 (Nat.le_of_ble_eq_true rfl) d_M_sendRun_2 rfl ⟨Nat.zero_le _, Nat.zero_le _⟩ (fun H locs hP hD hS => ?_)
  refine lv_lstore_n (lv' := [(1, .long r7), (0, .ref h0)]) hx hb d_M_sendRun_5 rfl hl (by decide) rfl (fun ls hl => ?_)
  refine lv_iconst (v := (-1)) hx hb d_M_sendRun_6 (by decide) ?_
  refine lv_istore_n (lv' := [(3, .int (-1)), (1, .long r7), (0, .ref h0)]) hx hb d_M_sendRun_7 rfl hl (by decide) rfl (fun ls hl => ?_)
  refine lv_lload_n hx hb d_M_sendRun_8 rfl (lv_at hl 1 rfl) ?_
  obtain ⟨u8, r8, hc8, hf⟩ := bnd_some hf
  refine mS_i (As := [.long r7]) (rest := []) C0 hP hD hS (c_M_sortOf N hM hc8) k_M_sortOf hl_M_sortOf ht_M_sortOf hini_M rfl rfl hd_M_sortOf rfl (rm_M_sendRun_M_sortOf hR) hl.1 (Nat.le_of_ble_eq_true rfl) d_M_sendRun_9 rfl ⟨Nat.zero_le _, Nat.zero_le _⟩ (fun H locs hP hD hS => ?_)
  refine lv_iconst (v := 4) hx hb d_M_sendRun_12 (by decide) ?_
  refine lv_icmp_ne (tgt := 24) hx hb d_M_sendRun_13 (by decide) (fun hc => ?_) (fun hc => ?_)
  · rw [br_n _ hc] at hf
    refine lv_lload_n hx hb d_M_sendRun_24 rfl (lv_at hl 1 rfl) ?_
    obtain ⟨u9, r9, hc9, hf⟩ := bnd_some hf
    refine mS_i (As := [.long r7]) (rest := []) C0 hP hD hS (c_M_sortOf N hM hc9) k_M_sortOf hl_M_sortOf ht_M_sortOf hini_M rfl rfl hd_M_sortOf rfl (rm_M_sendRun_M_sortOf hR) hl.1 (Nat.le_of_ble_eq_true rfl) d_M_sendRun_25 rfl ⟨Nat.zero_le _, Nat.zero_le _⟩ (fun H locs hP hD hS => ?_)
    refine lv_iconst (v := 1) hx hb d_M_sendRun_28 (by decide) ?_
    refine lv_icmp_ne (tgt := 41) hx hb d_M_sendRun_29 (by decide) (fun hc => ?_) (fun hc => ?_)
    · rw [br_n _ hc] at hf
      exact wb_M_sendRun_41 C0 hR N G hG _ _ _ hf H locs hP hD hS ls (lv_sub hl [2, 0] rfl)
    · rw [br_p _ hc] at hf
      refine lv_aload_n hx hb d_M_sendRun_32 rfl (lv_at hl 2 rfl) ?_
      refine lv_lload_n hx hb d_M_sendRun_33 rfl (lv_at hl 1 rfl) ?_
      obtain ⟨u10, r10, hc10, hf⟩ := bnd_some hf
      refine mS_i (As := [.long r7]) (rest := [.ref h0]) C0 hP hD hS (c_M_valueOf N hM hc10) k_M_valueOf hl_M_valueOf ht_M_valueOf hini_M rfl rfl hd_M_valueOf rfl (rm_M_sendRun_M_valueOf hR) hl.1 (Nat.le_of_ble_eq_true rfl) d_M_sendRun_34 rfl ⟨Nat.zero_le _, Nat.zero_le _⟩ (fun H locs hP hD hS => ?_)
      obtain ⟨u11, r11, hc11, hf⟩ := bnd_some hf
      refine mV_i (As := [.int r10]) (rest := []) C0 hP hD hS (c_M_namedBy N hM hc11) k_M_namedBy hl_M_namedBy hi_M_namedBy hs_M_namedBy hini_M rfl rfl hd_M_namedBy rfl (rm_M_sendRun_M_namedBy hR) hl.1 (Nat.le_of_ble_eq_true rfl) d_M_sendRun_37 rfl ⟨Nat.zero_le _, Nat.zero_le _⟩ (fun H locs hP hD hS => ?_)
      refine lv_istore_n (lv' := [(3, .int r11), (1, .long r7), (0, .ref h0)]) hx hb d_M_sendRun_40 rfl hl (by decide) rfl (fun ls hl => ?_)
      exact wb_M_sendRun_41 C0 hR N G hG _ _ _ hf H locs hP hD hS ls (lv_sub hl [2, 0] rfl)
  · rw [br_p _ hc] at hf
    refine lv_lload_n hx hb d_M_sendRun_16 rfl (lv_at hl 1 rfl) ?_
    obtain ⟨u12, r12, hc12, hf⟩ := bnd_some hf
    refine mS_i (As := [.long r7]) (rest := []) C0 hP hD hS (c_M_valueOf N hM hc12) k_M_valueOf hl_M_valueOf ht_M_valueOf hini_M rfl rfl hd_M_valueOf rfl (rm_M_sendRun_M_valueOf hR) hl.1 (Nat.le_of_ble_eq_true rfl) d_M_sendRun_17 rfl ⟨Nat.zero_le _, Nat.zero_le _⟩ (fun H locs hP hD hS => ?_)
    refine lv_istore_n (lv' := [(3, .int r12), (1, .long r7), (0, .ref h0)]) hx hb d_M_sendRun_20 rfl hl (by decide) rfl (fun ls hl => ?_)
    refine lv_goto (tgt := 41) hx hb d_M_sendRun_21 (by decide) ?_
    exact wb_M_sendRun_41 C0 hR N G hG _ _ _ hf H locs hP hD hS ls (lv_sub hl [2, 0] rfl)
def fm_M_sendRun (N : Nat) (u : MS) : Option (MS × Unit) := fb_M_sendRun_0 N () u
set_option maxRecDepth 100000 in
set_option maxHeartbeats 4000000 in
theorem c_M_sendRun (N : Nat) {l : Launch} {D : va_G} {cl : List vw_C} {cB cI cJ cZ cS : ClassId} {iM h0 : Nat} {ad : Nat → Nat} {u : MS} {sz : Nat} {x : MS × Unit} (hM : cl[iM]? = some (R_M, F_M, 171)) (hf : fm_M_sendRun N u = some x) : Met l y_M_sendRun (wd_ws y_M_sendRun b_M_sendRun 8 none) rm_M_sendRun (mPc D cl cB cI cJ cZ cS iM h0 ad u sz [.ref h0]) (mQv D cl cB cI cJ cZ cS iM h0 ad (mA cB cI cJ cZ cS iM h0 ad u sz) x) 0 0 (mA cB cI cJ cZ cS iM h0 ad u sz) :=
  mMet (by decide) rfl hM (Nat.le_of_ble_eq_true rfl) (fun p e s m below meth c ls hsz C0 hP hD hS hl => by
    have hR : rm_M_sendRun = rm_M_sendRun := rfl
    exact wb_M_sendRun_0 C0 hR N () trivial u x hf s.heap [] hP hD hS ls (lv_sub hl [0] rfl))
abbrev b_M_afterRun : ByteArray := prog_14_method_134_code
def y_M_afterRun : MethodName := ⟨R_M, "afterRun", "(I)V"⟩
def w_M_afterRun : List Cond := wd_ws y_M_afterRun b_M_afterRun 5 none
set_option maxRecDepth 100000 in
theorem k_M_afterRun : Cond.code y_M_afterRun b_M_afterRun 5 none ∈ wd_tbl := wd_of 3233 rfl rfl
theorem d_M_afterRun_0 : decode b_M_afterRun 0 = .ok (.aload_n 0, 1) := by decide +kernel
theorem d_M_afterRun_1 : decode b_M_afterRun 1 = .ok (.invokevirtual 930, 3) := by decide +kernel
theorem d_M_afterRun_4 : decode b_M_afterRun 4 = .ok (.lstore_n 2, 1) := by decide +kernel
theorem d_M_afterRun_5 : decode b_M_afterRun 5 = .ok (.lload_n 2, 1) := by decide +kernel
theorem d_M_afterRun_6 : decode b_M_afterRun 6 = .ok (.invokestatic 676, 3) := by decide +kernel
theorem d_M_afterRun_9 : decode b_M_afterRun 9 = .ok (.ifCond .ne 14, 3) := by decide +kernel
theorem d_M_afterRun_12 : decode b_M_afterRun 12 = .ok (.lload_n 2, 1) := by decide +kernel
theorem d_M_afterRun_13 : decode b_M_afterRun 13 = .ok (.invokestatic 680, 3) := by decide +kernel
theorem d_M_afterRun_16 : decode b_M_afterRun 16 = .ok (.ifCond .lt 7, 3) := by decide +kernel
theorem d_M_afterRun_19 : decode b_M_afterRun 19 = .ok (.iconst 1, 1) := by decide +kernel
theorem d_M_afterRun_20 : decode b_M_afterRun 20 = .ok (.goto 4, 3) := by decide +kernel
theorem d_M_afterRun_23 : decode b_M_afterRun 23 = .ok (.iconst 0, 1) := by decide +kernel
theorem d_M_afterRun_24 : decode b_M_afterRun 24 = .ok (.istore 4, 2) := by decide +kernel
theorem d_M_afterRun_26 : decode b_M_afterRun 26 = .ok (.iload 4, 2) := by decide +kernel
theorem d_M_afterRun_28 : decode b_M_afterRun 28 = .ok (.ifCond .ne 21, 3) := by decide +kernel
theorem d_M_afterRun_31 : decode b_M_afterRun 31 = .ok (.lload_n 2, 1) := by decide +kernel
theorem d_M_afterRun_32 : decode b_M_afterRun 32 = .ok (.iconst 1, 1) := by decide +kernel
theorem d_M_afterRun_33 : decode b_M_afterRun 33 = .ok (.bipush 10, 2) := by decide +kernel
theorem d_M_afterRun_35 : decode b_M_afterRun 35 = .ok (.invokestatic 315, 3) := by decide +kernel
theorem d_M_afterRun_38 : decode b_M_afterRun 38 = .ok (.lcmp, 1) := by decide +kernel
theorem d_M_afterRun_39 : decode b_M_afterRun 39 = .ok (.ifCond .eq 10, 3) := by decide +kernel
theorem d_M_afterRun_42 : decode b_M_afterRun 42 = .ok (.aload_n 0, 1) := by decide +kernel
theorem d_M_afterRun_43 : decode b_M_afterRun 43 = .ok (.bipush 11, 2) := by decide +kernel
theorem d_M_afterRun_45 : decode b_M_afterRun 45 = .ok (.invokevirtual 861, 3) := by decide +kernel
theorem d_M_afterRun_48 : decode b_M_afterRun 48 = .ok (.return_, 1) := by decide +kernel
theorem d_M_afterRun_49 : decode b_M_afterRun 49 = .ok (.aload_n 0, 1) := by decide +kernel
theorem d_M_afterRun_50 : decode b_M_afterRun 50 = .ok (.aload_n 0, 1) := by decide +kernel
theorem d_M_afterRun_51 : decode b_M_afterRun 51 = .ok (.getfield 69, 3) := by decide +kernel
theorem d_M_afterRun_54 : decode b_M_afterRun 54 = .ok (.iload_n 1, 1) := by decide +kernel
theorem d_M_afterRun_55 : decode b_M_afterRun 55 = .ok (.iaload, 1) := by decide +kernel
theorem d_M_afterRun_56 : decode b_M_afterRun 56 = .ok (.invokevirtual 934, 3) := by decide +kernel
theorem d_M_afterRun_59 : decode b_M_afterRun 59 = .ok (.aload_n 0, 1) := by decide +kernel
theorem d_M_afterRun_60 : decode b_M_afterRun 60 = .ok (.getfield 261, 3) := by decide +kernel
theorem d_M_afterRun_63 : decode b_M_afterRun 63 = .ok (.aload_n 0, 1) := by decide +kernel
theorem d_M_afterRun_64 : decode b_M_afterRun 64 = .ok (.getfield 669, 3) := by decide +kernel
theorem d_M_afterRun_67 : decode b_M_afterRun 67 = .ok (.iload 4, 2) := by decide +kernel
theorem d_M_afterRun_69 : decode b_M_afterRun 69 = .ok (.ifCond .eq 17, 3) := by decide +kernel
theorem d_M_afterRun_72 : decode b_M_afterRun 72 = .ok (.aload_n 0, 1) := by decide +kernel
theorem d_M_afterRun_73 : decode b_M_afterRun 73 = .ok (.getfield 904, 3) := by decide +kernel
theorem d_M_afterRun_76 : decode b_M_afterRun 76 = .ok (.i2l, 1) := by decide +kernel
theorem d_M_afterRun_77 : decode b_M_afterRun 77 = .ok (.lload_n 2, 1) := by decide +kernel
theorem d_M_afterRun_78 : decode b_M_afterRun 78 = .ok (.invokestatic 680, 3) := by decide +kernel
theorem d_M_afterRun_81 : decode b_M_afterRun 81 = .ok (.i2l, 1) := by decide +kernel
theorem d_M_afterRun_82 : decode b_M_afterRun 82 = .ok (.ladd, 1) := by decide +kernel
theorem d_M_afterRun_83 : decode b_M_afterRun 83 = .ok (.goto 6, 3) := by decide +kernel
theorem d_M_afterRun_86 : decode b_M_afterRun 86 = .ok (.ldc2_w 913, 3) := by decide +kernel
theorem d_M_afterRun_89 : decode b_M_afterRun 89 = .ok (.lastore, 1) := by decide +kernel
theorem d_M_afterRun_90 : decode b_M_afterRun 90 = .ok (.aload_n 0, 1) := by decide +kernel
theorem d_M_afterRun_91 : decode b_M_afterRun 91 = .ok (.aload_n 0, 1) := by decide +kernel
theorem d_M_afterRun_92 : decode b_M_afterRun 92 = .ok (.getfield 63, 3) := by decide +kernel
theorem d_M_afterRun_95 : decode b_M_afterRun 95 = .ok (.iload_n 1, 1) := by decide +kernel
theorem d_M_afterRun_96 : decode b_M_afterRun 96 = .ok (.iaload, 1) := by decide +kernel
theorem d_M_afterRun_97 : decode b_M_afterRun 97 = .ok (.invokevirtual 811, 3) := by decide +kernel
theorem d_M_afterRun_100 : decode b_M_afterRun 100 = .ok (.return_, 1) := by decide +kernel
set_option maxRecDepth 100000 in
theorem hl_M_afterRun : Cond.methodLink R_M 953 y_M_afterRun ∈ wd_tbl := wd_of 3230 (by decide +kernel) rfl
set_option maxRecDepth 100000 in
theorem hi_M_afterRun : Cond.instanceMethod y_M_afterRun ∈ wd_tbl := wd_of 3232 (by decide +kernel) rfl
set_option maxRecDepth 100000 in
theorem hs_M_afterRun : Cond.selects R_M y_M_afterRun y_M_afterRun ∈ wd_tbl := wd_of 262 (by decide +kernel) rfl
theorem hd_M_afterRun : y_M_afterRun.cls = R_M ∧ y_M_afterRun.cls ≠ "java/lang/invoke/MethodHandle" ∧ y_M_afterRun.cls ≠ "java/lang/invoke/VarHandle" ∧ (parseMethodDescriptor y_M_afterRun.desc).map (fun d => d.parameters.length) = some 1 := by decide +kernel
def rm_M_afterRun : Room := { frames := 27, cells := 0, slots := 0, locals := 704 }
theorem rm_M_afterRun_M_take {R : Room} (hR : R = rm_M_afterRun) : (rm_M_take).frames + 1 ≤ R.frames ∧ 8 + (1 + 11) + (rm_M_take).locals ≤ R.locals := by subst hR; decide
theorem rm_M_afterRun_M_sortOf {R : Room} (hR : R = rm_M_afterRun) : (rm_M_sortOf).frames + 1 ≤ R.frames ∧ 8 + (2 + 11) + (rm_M_sortOf).locals ≤ R.locals := by subst hR; decide
theorem rm_M_afterRun_M_valueOf {R : Room} (hR : R = rm_M_afterRun) : (rm_M_valueOf).frames + 1 ≤ R.frames ∧ 8 + (2 + 11) + (rm_M_valueOf).locals ≤ R.locals := by subst hR; decide
theorem rm_M_afterRun_M_term {R : Room} (hR : R = rm_M_afterRun) : (rm_M_term).frames + 1 ≤ R.frames ∧ 8 + (2 + 11) + (rm_M_term).locals ≤ R.locals := by subst hR; decide
theorem rm_M_afterRun_M_error {R : Room} (hR : R = rm_M_afterRun) : (rm_M_error).frames + 1 ≤ R.frames ∧ 8 + (2 + 11) + (rm_M_error).locals ≤ R.locals := by subst hR; decide
theorem rm_M_afterRun_M_namesTo {R : Room} (hR : R = rm_M_afterRun) : (rm_M_namesTo).frames + 1 ≤ R.frames ∧ 8 + (3 + 11) + (rm_M_namesTo).locals ≤ R.locals := by subst hR; decide
theorem rm_M_afterRun_M_goTo {R : Room} (hR : R = rm_M_afterRun) : (rm_M_goTo).frames + 1 ≤ R.frames ∧ 8 + (2 + 11) + (rm_M_goTo).locals ≤ R.locals := by subst hR; decide
def fb_M_afterRun_89 (N : Nat) (G : Unit) (u : MS) (v1 : Int32) (t0 : Nat) (t1 : Int32) (t2 : Int64) : Option (MS × Unit) := ck (isK t0 5) (ck (inb t1 (ln t0)) (lt (upJ u t0 (vp_updL (u.2.2.2 t0) t1.toNatClampNeg t2)) (fun w1 => ck (inb v1 (ln 25)) (bnd (fm_M_goTo N w1 (w1.2.2.1 25 v1.toNatClampNeg)) (fun u2 _ => some (u2, ()))))))
set_option maxRecDepth 100000 in
set_option maxHeartbeats 4000000 in
theorem wb_M_afterRun_89 {p : Program} {l : Launch} {e : Env} {R : Room} {s : State} {m : MethodId} {args : Array Value} {below : List Frame} {meth : Method} {c : Code} {D : va_G} {cl : List vw_C} {cB cI cJ cZ cS : ClassId} {A : Nat → Prop} {iM h0 : Nat} {ad : Nat → Nat} (C0 : MCx p s m args meth c b_M_afterRun 5 none D cl cB cI cJ cZ cS iM A) (hR : R = rm_M_afterRun) (N : Nat) (G : Unit) (hG : True) : ∀ (u : MS) (v1 : Int32) (t0 : Nat) (t1 : Int32) (t2 : Int64) (x : MS × Unit), fb_M_afterRun_89 N G u v1 t0 t1 t2 = some x → ∀ (H : Heap) (locs : List Loc), va_P D cl (wM cB cI cJ cZ cS iM h0 ad u) H → va_D A (wM cB cI cJ cZ cS iM h0 ad u) → va_S A s.heap H locs → ∀ (ls : Array Slot), lv_has ls 5 [(0, .ref h0), (1, .int v1)] → W p l e R s m args below meth c H locs 0 0 (MQ below (mQv D cl cB cI cJ cZ cS iM h0 ad A x) args s 0 0 A) (F0 m 89 ls [.long t2, .int t1, .ref (ad t0)]) := by
  intro u v1 t0 t1 t2 x hf H locs hP hD hS ls hl
  obtain ⟨hx, hb, hr, hml, ht, hown, hM, hK, hA, hlocks⟩ := id C0
  unfold fb_M_afterRun_89 at hf
  obtain ⟨hk9, hf⟩ := ck_some hf
  obtain ⟨hi9, hf⟩ := ck_some hf
  refine us_J hx hb hK hP hD hS (isK_1 hk9) (isK_2 hk9) hi9 d_M_afterRun_89 (fun H locs hP hD hS => ?_)
  obtain ⟨w1, e1, hf⟩ := lt_some hf
  rw [← e1] at hP hD
  refine lv_aload_n hx hb d_M_afterRun_90 rfl (lv_at hl 0 rfl) ?_
  refine lv_aload_n hx hb d_M_afterRun_91 rfl (lv_at hl 0 rfl) ?_
  refine ug_R hx hb ht hown hM hK hP 25 (by decide) lk_M_25 (by decide) d_M_afterRun_92 ?_
  refine lv_iload_n hx hb d_M_afterRun_95 rfl (lv_at hl 1 rfl) ?_
  obtain ⟨hi9, hf⟩ := ck_some hf
  refine ul_I hx hb hK hP (by decide) (by decide) hi9 d_M_afterRun_96 ?_
  obtain ⟨u2, r2, hc2, hf⟩ := bnd_some hf
  refine mV_v (As := [.int (w1.2.2.1 25 v1.toNatClampNeg)]) (rest := []) C0 hP hD hS (c_M_goTo N hM hc2) k_M_goTo hl_M_goTo hi_M_goTo hs_M_goTo hini_M rfl rfl hd_M_goTo rfl (rm_M_afterRun_M_goTo hR) hl.1 (Nat.le_of_ble_eq_true rfl) d_M_afterRun_97 rfl ⟨Nat.zero_le _, Nat.zero_le _⟩ (fun H locs hP hD hS => ?_)
  exact mr_v C0 hP hD hS hf d_M_afterRun_100
def fb_M_afterRun_49 (N : Nat) (G : Unit) (u : MS) (v1 : Int32) (v2 : Int64) (v4 : Int32) : Option (MS × Unit) := ck (inb v1 (ln 27)) (bnd (fm_M_namesTo N u (u.2.2.1 27 v1.toNatClampNeg)) (fun u3 _ => br (decide (v4 = 0)) (fb_M_afterRun_89 N G u3 (v1) (111) ((u3.1 133)) ((-1))) (bnd (fm_M_valueOf N u3 v2) (fun u4 r4 => fb_M_afterRun_89 N G u4 (v1) (111) ((u3.1 133)) (((u3.1 120).toInt64 + r4.toInt64))))))
set_option maxRecDepth 100000 in
set_option maxHeartbeats 4000000 in
theorem wb_M_afterRun_49 {p : Program} {l : Launch} {e : Env} {R : Room} {s : State} {m : MethodId} {args : Array Value} {below : List Frame} {meth : Method} {c : Code} {D : va_G} {cl : List vw_C} {cB cI cJ cZ cS : ClassId} {A : Nat → Prop} {iM h0 : Nat} {ad : Nat → Nat} (C0 : MCx p s m args meth c b_M_afterRun 5 none D cl cB cI cJ cZ cS iM A) (hR : R = rm_M_afterRun) (N : Nat) (G : Unit) (hG : True) : ∀ (u : MS) (v1 : Int32) (v2 : Int64) (v4 : Int32) (x : MS × Unit), fb_M_afterRun_49 N G u v1 v2 v4 = some x → ∀ (H : Heap) (locs : List Loc), va_P D cl (wM cB cI cJ cZ cS iM h0 ad u) H → va_D A (wM cB cI cJ cZ cS iM h0 ad u) → va_S A s.heap H locs → ∀ (ls : Array Slot), lv_has ls 5 [(0, .ref h0), (1, .int v1), (2, .long v2), (4, .int v4)] → W p l e R s m args below meth c H locs 0 0 (MQ below (mQv D cl cB cI cJ cZ cS iM h0 ad A x) args s 0 0 A) (F0 m 49 ls []) := by
  intro u v1 v2 v4 x hf H locs hP hD hS ls hl
  obtain ⟨hx, hb, hr, hml, ht, hown, hM, hK, hA, hlocks⟩ := id C0
  unfold fb_M_afterRun_49 at hf
  refine lv_aload_n hx hb d_M_afterRun_49 rfl (lv_at hl 0 rfl) ?_
  refine lv_aload_n hx hb d_M_afterRun_50 rfl (lv_at hl 0 rfl) ?_
  refine ug_R hx hb ht hown hM hK hP 27 (by decide) lk_M_27 (by decide) d_M_afterRun_51 ?_
  refine lv_iload_n hx hb d_M_afterRun_54 rfl (lv_at hl 1 rfl) ?_
  obtain ⟨hi9, hf⟩ := ck_some hf
  refine ul_I hx hb hK hP (by decide) (by decide) hi9 d_M_afterRun_55 ?_
  obtain ⟨u3, r3, hc3, hf⟩ := bnd_some hf
  refine mV_v (As := [.int (u.2.2.1 27 v1.toNatClampNeg)]) (rest := []) C0 hP hD hS (c_M_namesTo N hM hc3) k_M_namesTo hl_M_namesTo hi_M_namesTo hs_M_namesTo hini_M rfl rfl hd_M_namesTo rfl (rm_M_afterRun_M_namesTo hR) hl.1 (Nat.le_of_ble_eq_true rfl) d_M_afterRun_56 rfl ⟨Nat.zero_le _, Nat.zero_le _⟩ (fun H locs hP hD hS => ?_)
  refine lv_aload_n hx hb d_M_afterRun_59 rfl (lv_at hl 0 rfl) ?_
  refine ug_R hx hb ht hown hM hK hP 111 (by decide) lk_M_111 (by decide) d_M_afterRun_60 ?_
  refine lv_aload_n hx hb d_M_afterRun_63 rfl (lv_at hl 0 rfl) ?_
  refine ug_I hx hb ht hown hM hK hP 133 (by decide) lk_M_133 (by decide) d_M_afterRun_64 ?_
  refine lv_iload hx hb d_M_afterRun_67 (lv_at hl 3 rfl) ?_
  refine lv_if_eq (tgt := 86) hx hb d_M_afterRun_69 (by decide) (fun hc => ?_) (fun hc => ?_)
  · rw [br_p _ hc] at hf
    refine lv_ldc2 (v := (-1)) hx hb hown (ht _ (wd_of 3094 (by decide +kernel) rfl)) d_M_afterRun_86 ?_
    exact wb_M_afterRun_89 C0 hR N G hG _ _ _ _ _ _ hf H locs hP hD hS ls (lv_sub hl [0, 1] rfl)
  · rw [br_n _ hc] at hf
    refine lv_aload_n hx hb d_M_afterRun_72 rfl (lv_at hl 0 rfl) ?_
    refine ug_I hx hb ht hown hM hK hP 120 (by decide) lk_M_120 (by decide) d_M_afterRun_73 ?_
    refine lv_i2l hx hb d_M_afterRun_76 rfl ?_
    refine lv_lload_n hx hb d_M_afterRun_77 rfl (lv_at hl 2 rfl) ?_
    obtain ⟨u4, r4, hc4, hf⟩ := bnd_some hf
    refine mS_i (As := [.long v2]) (rest := [.long (u3.1 120).toInt64, .int (u3.1 133), .ref (ad 111)]) C0 hP hD hS (c_M_valueOf N hM hc4) k_M_valueOf hl_M_valueOf ht_M_valueOf hini_M rfl rfl hd_M_valueOf rfl (rm_M_afterRun_M_valueOf hR) hl.1 (Nat.le_of_ble_eq_true rfl) d_M_afterRun_78 rfl ⟨Nat.zero_le _, Nat.zero_le _⟩ (fun H locs hP hD hS => ?_)
    refine lv_i2l hx hb d_M_afterRun_81 rfl ?_
    refine lv_ladd hx hb d_M_afterRun_82 ?_
    refine lv_goto (tgt := 89) hx hb d_M_afterRun_83 (by decide) ?_
    exact wb_M_afterRun_89 C0 hR N G hG _ _ _ _ _ _ hf H locs hP hD hS ls (lv_sub hl [0, 1] rfl)
def fb_M_afterRun_24 (N : Nat) (G : Unit) (u : MS) (v1 : Int32) (v2 : Int64) (t0 : Int32) : Option (MS × Unit) := br (decide (t0 = 0)) (bnd (fm_M_term N u 1 10) (fun u5 r5 => br (decide ((lg_cmp v2 r5) = 0)) (fb_M_afterRun_49 N G u5 (v1) (v2) (t0)) (bnd (fr_M_error N u5 11) (fun u6 _ => some (u6, ()))))) (fb_M_afterRun_49 N G u (v1) (v2) (t0))
set_option maxRecDepth 100000 in
set_option maxHeartbeats 4000000 in
theorem wb_M_afterRun_24 {p : Program} {l : Launch} {e : Env} {R : Room} {s : State} {m : MethodId} {args : Array Value} {below : List Frame} {meth : Method} {c : Code} {D : va_G} {cl : List vw_C} {cB cI cJ cZ cS : ClassId} {A : Nat → Prop} {iM h0 : Nat} {ad : Nat → Nat} (C0 : MCx p s m args meth c b_M_afterRun 5 none D cl cB cI cJ cZ cS iM A) (hR : R = rm_M_afterRun) (N : Nat) (G : Unit) (hG : True) : ∀ (u : MS) (v1 : Int32) (v2 : Int64) (t0 : Int32) (x : MS × Unit), fb_M_afterRun_24 N G u v1 v2 t0 = some x → ∀ (H : Heap) (locs : List Loc), va_P D cl (wM cB cI cJ cZ cS iM h0 ad u) H → va_D A (wM cB cI cJ cZ cS iM h0 ad u) → va_S A s.heap H locs → ∀ (ls : Array Slot), lv_has ls 5 [(0, .ref h0), (1, .int v1), (2, .long v2)] → W p l e R s m args below meth c H locs 0 0 (MQ below (mQv D cl cB cI cJ cZ cS iM h0 ad A x) args s 0 0 A) (F0 m 24 ls [.int t0]) := by
  intro u v1 v2 t0 x hf H locs hP hD hS ls hl
  obtain ⟨hx, hb, hr, hml, ht, hown, hM, hK, hA, hlocks⟩ := id C0
  unfold fb_M_afterRun_24 at hf
  refine lv_istore (lv' := [(4, .int t0), (0, .ref h0), (1, .int v1), (2, .long v2)]) hx hb d_M_afterRun_24 hl (by decide) rfl (fun ls hl => ?_)
  refine lv_iload hx hb d_M_afterRun_26 (lv_at hl 0 rfl) ?_
  refine lv_if_ne (tgt := 49) hx hb d_M_afterRun_28 (by decide) (fun hc => ?_) (fun hc => ?_)
  · rw [br_n _ hc] at hf
    exact wb_M_afterRun_49 C0 hR N G hG _ _ _ _ _ hf H locs hP hD hS ls (lv_sub hl [1, 2, 3, 0] rfl)
  · rw [br_p _ hc] at hf
    refine lv_lload_n hx hb d_M_afterRun_31 rfl (lv_at hl 3 rfl) ?_
    refine lv_iconst (v := 1) hx hb d_M_afterRun_32 (by decide) ?_
    refine lv_bipush (v := 10) hx hb d_M_afterRun_33 (by decide) ?_
    obtain ⟨u5, r5, hc5, hf⟩ := bnd_some hf
    refine mS_l (As := [.int 1, .int 10]) (rest := [.long v2]) C0 hP hD hS (c_M_term N hM hc5) k_M_term hl_M_term ht_M_term hini_M rfl rfl hd_M_term rfl (rm_M_afterRun_M_term hR) hl.1 (Nat.le_of_ble_eq_true rfl) d_M_afterRun_35 rfl ⟨Nat.zero_le _, Nat.zero_le _⟩ (fun H locs hP hD hS => ?_)
    refine W.lcmp hx hb d_M_afterRun_38 ?_
    refine lv_if_eq (tgt := 49) hx hb d_M_afterRun_39 (by decide) (fun hc => ?_) (fun hc => ?_)
    · rw [br_p _ hc] at hf
      exact wb_M_afterRun_49 C0 hR N G hG _ _ _ _ _ hf H locs hP hD hS ls (lv_sub hl [1, 2, 3, 0] rfl)
    · rw [br_n _ hc] at hf
      refine lv_aload_n hx hb d_M_afterRun_42 rfl (lv_at hl 1 rfl) ?_
      refine lv_bipush (v := 11) hx hb d_M_afterRun_43 (by decide) ?_
      obtain ⟨u6, r6, hc6, hf⟩ := bnd_some hf
      refine mV_v (As := [.int 11]) (rest := []) C0 hP hD hS (c_M_error N hM hc6) k_M_error hl_M_error hi_M_error hs_M_error hini_M rfl rfl hd_M_error rfl (rm_M_afterRun_M_error hR) hl.1 (Nat.le_of_ble_eq_true rfl) d_M_afterRun_45 rfl ⟨Nat.zero_le _, Nat.zero_le _⟩ (fun H locs hP hD hS => ?_)
      exact mr_v C0 hP hD hS hf d_M_afterRun_48
def fb_M_afterRun_23 (N : Nat) (G : Unit) (u : MS) (v1 : Int32) (v2 : Int64) : Option (MS × Unit) := fb_M_afterRun_24 N G u (v1) (v2) (0)
set_option maxRecDepth 100000 in
set_option maxHeartbeats 4000000 in
theorem wb_M_afterRun_23 {p : Program} {l : Launch} {e : Env} {R : Room} {s : State} {m : MethodId} {args : Array Value} {below : List Frame} {meth : Method} {c : Code} {D : va_G} {cl : List vw_C} {cB cI cJ cZ cS : ClassId} {A : Nat → Prop} {iM h0 : Nat} {ad : Nat → Nat} (C0 : MCx p s m args meth c b_M_afterRun 5 none D cl cB cI cJ cZ cS iM A) (hR : R = rm_M_afterRun) (N : Nat) (G : Unit) (hG : True) : ∀ (u : MS) (v1 : Int32) (v2 : Int64) (x : MS × Unit), fb_M_afterRun_23 N G u v1 v2 = some x → ∀ (H : Heap) (locs : List Loc), va_P D cl (wM cB cI cJ cZ cS iM h0 ad u) H → va_D A (wM cB cI cJ cZ cS iM h0 ad u) → va_S A s.heap H locs → ∀ (ls : Array Slot), lv_has ls 5 [(0, .ref h0), (1, .int v1), (2, .long v2)] → W p l e R s m args below meth c H locs 0 0 (MQ below (mQv D cl cB cI cJ cZ cS iM h0 ad A x) args s 0 0 A) (F0 m 23 ls []) := by
  intro u v1 v2 x hf H locs hP hD hS ls hl
  obtain ⟨hx, hb, hr, hml, ht, hown, hM, hK, hA, hlocks⟩ := id C0
  unfold fb_M_afterRun_23 at hf
  refine lv_iconst (v := 0) hx hb d_M_afterRun_23 (by decide) ?_
  exact wb_M_afterRun_24 C0 hR N G hG _ _ _ _ _ hf H locs hP hD hS ls (lv_sub hl [0, 1, 2] rfl)
def fb_M_afterRun_0 (N : Nat) (G : Unit) (u : MS) (v1 : Int32) : Option (MS × Unit) := bnd (fm_M_take N u) (fun u7 r7 => bnd (fm_M_sortOf N u7 r7) (fun u8 r8 => br (decide (r8 = 0)) (bnd (fm_M_valueOf N u8 r7) (fun u9 r9 => br (decide (r9 < 0)) (fb_M_afterRun_23 N G u9 (v1) (r7)) (fb_M_afterRun_24 N G u9 (v1) (r7) (1)))) (fb_M_afterRun_23 N G u8 (v1) (r7))))
set_option maxRecDepth 100000 in
set_option maxHeartbeats 4000000 in
theorem wb_M_afterRun_0 {p : Program} {l : Launch} {e : Env} {R : Room} {s : State} {m : MethodId} {args : Array Value} {below : List Frame} {meth : Method} {c : Code} {D : va_G} {cl : List vw_C} {cB cI cJ cZ cS : ClassId} {A : Nat → Prop} {iM h0 : Nat} {ad : Nat → Nat} (C0 : MCx p s m args meth c b_M_afterRun 5 none D cl cB cI cJ cZ cS iM A) (hR : R = rm_M_afterRun) (N : Nat) (G : Unit) (hG : True) : ∀ (u : MS) (v1 : Int32) (x : MS × Unit), fb_M_afterRun_0 N G u v1 = some x → ∀ (H : Heap) (locs : List Loc), va_P D cl (wM cB cI cJ cZ cS iM h0 ad u) H → va_D A (wM cB cI cJ cZ cS iM h0 ad u) → va_S A s.heap H locs → ∀ (ls : Array Slot), lv_has ls 5 [(0, .ref h0), (1, .int v1)] → W p l e R s m args below meth c H locs 0 0 (MQ below (mQv D cl cB cI cJ cZ cS iM h0 ad A x) args s 0 0 A) (F0 m 0 ls []) := by
  intro u v1 x hf H locs hP hD hS ls hl
  obtain ⟨hx, hb, hr, hml, ht, hown, hM, hK, hA, hlocks⟩ := id C0
  unfold fb_M_afterRun_0 at hf
  refine lv_aload_n hx hb d_M_afterRun_0 rfl (lv_at hl 0 rfl) ?_
  obtain ⟨u7, r7, hc7, hf⟩ := bnd_some hf
  refine mV_l (As := []) (rest := []) C0 hP hD hS (c_M_take N hM hc7) k_M_take hl_M_take hi_M_take hs_M_take hini_M rfl rfl hd_M_take rfl (rm_M_afterRun_M_take hR) hl.1 (Nat.le_of_ble_eq_true rfl) d_M_afterRun_1 rfl ⟨Nat.zero_le _, Nat.zero_le _⟩ (fun H locs hP hD hS => ?_)
  refine lv_lstore_n (lv' := [(2, .long r7), (0, .ref h0), (1, .int v1)]) hx hb d_M_afterRun_4 rfl hl (by decide) rfl (fun ls hl => ?_)
  refine lv_lload_n hx hb d_M_afterRun_5 rfl (lv_at hl 0 rfl) ?_
  obtain ⟨u8, r8, hc8, hf⟩ := bnd_some hf
  refine mS_i (As := [.long r7]) (rest := []) C0 hP hD hS (c_M_sortOf N hM hc8) k_M_sortOf hl_M_sortOf ht_M_sortOf hini_M rfl rfl hd_M_sortOf rfl (rm_M_afterRun_M_sortOf hR) hl.1 (Nat.le_of_ble_eq_true rfl) d_M_afterRun_6 rfl ⟨Nat.zero_le _, Nat.zero_le _⟩ (fun H locs hP hD hS => ?_)
  refine lv_if_ne (tgt := 23) hx hb d_M_afterRun_9 (by decide) (fun hc => ?_) (fun hc => ?_)
  · rw [br_n _ hc] at hf
    exact wb_M_afterRun_23 C0 hR N G hG _ _ _ _ hf H locs hP hD hS ls (lv_sub hl [1, 2, 0] rfl)
  · rw [br_p _ hc] at hf
    refine lv_lload_n hx hb d_M_afterRun_12 rfl (lv_at hl 0 rfl) ?_
    obtain ⟨u9, r9, hc9, hf⟩ := bnd_some hf
    refine mS_i (As := [.long r7]) (rest := []) C0 hP hD hS (c_M_valueOf N hM hc9) k_M_valueOf hl_M_valueOf ht_M_valueOf hini_M rfl rfl hd_M_valueOf rfl (rm_M_afterRun_M_valueOf hR) hl.1 (Nat.le_of_ble_eq_true rfl) d_M_afterRun_13 rfl ⟨Nat.zero_le _, Nat.zero_le _⟩ (fun H locs hP hD hS => ?_)
    refine lv_if_lt (tgt := 23) hx hb d_M_afterRun_16 (by decide) (fun hc => ?_) (fun hc => ?_)
    · rw [br_p _ hc] at hf
      exact wb_M_afterRun_23 C0 hR N G hG _ _ _ _ hf H locs hP hD hS ls (lv_sub hl [1, 2, 0] rfl)
    · rw [br_n _ hc] at hf
      refine lv_iconst (v := 1) hx hb d_M_afterRun_19 (by decide) ?_
      refine lv_goto (tgt := 24) hx hb d_M_afterRun_20 (by decide) ?_
      exact wb_M_afterRun_24 C0 hR N G hG _ _ _ _ _ hf H locs hP hD hS ls (lv_sub hl [1, 2, 0] rfl)
def fm_M_afterRun (N : Nat) (u : MS) (v1 : Int32) : Option (MS × Unit) := fb_M_afterRun_0 N () u v1
set_option maxRecDepth 100000 in
set_option maxHeartbeats 4000000 in
theorem c_M_afterRun (N : Nat) {l : Launch} {D : va_G} {cl : List vw_C} {cB cI cJ cZ cS : ClassId} {iM h0 : Nat} {ad : Nat → Nat} {u : MS} {sz : Nat} {v1 : Int32} {x : MS × Unit} (hM : cl[iM]? = some (R_M, F_M, 171)) (hf : fm_M_afterRun N u v1 = some x) : Met l y_M_afterRun (wd_ws y_M_afterRun b_M_afterRun 5 none) rm_M_afterRun (mPc D cl cB cI cJ cZ cS iM h0 ad u sz [.ref h0, .int v1]) (mQv D cl cB cI cJ cZ cS iM h0 ad (mA cB cI cJ cZ cS iM h0 ad u sz) x) 0 0 (mA cB cI cJ cZ cS iM h0 ad u sz) :=
  mMet (by decide) rfl hM (Nat.le_of_ble_eq_true rfl) (fun p e s m below meth c ls hsz C0 hP hD hS hl => by
    have hR : rm_M_afterRun = rm_M_afterRun := rfl
    exact wb_M_afterRun_0 C0 hR N () trivial u _ x hf s.heap [] hP hD hS ls (lv_sub hl [0, 1] rfl))
abbrev b_M_otherRun : ByteArray := prog_14_method_133_code
def y_M_otherRun : MethodName := ⟨R_M, "otherRun", "(II)V"⟩
def w_M_otherRun : List Cond := wd_ws y_M_otherRun b_M_otherRun 5 none
set_option maxRecDepth 100000 in
theorem k_M_otherRun : Cond.code y_M_otherRun b_M_otherRun 5 none ∈ wd_tbl := wd_of 3225 rfl rfl
theorem d_M_otherRun_0 : decode b_M_otherRun 0 = .ok (.iload_n 2, 1) := by decide +kernel
theorem d_M_otherRun_1 : decode b_M_otherRun 1 = .ok (.bipush 9, 2) := by decide +kernel
theorem d_M_otherRun_3 : decode b_M_otherRun 3 = .ok (.if_icmp .eq 9, 3) := by decide +kernel
theorem d_M_otherRun_6 : decode b_M_otherRun 6 = .ok (.iload_n 2, 1) := by decide +kernel
theorem d_M_otherRun_7 : decode b_M_otherRun 7 = .ok (.bipush 10, 2) := by decide +kernel
theorem d_M_otherRun_9 : decode b_M_otherRun 9 = .ok (.if_icmp .ne 65, 3) := by decide +kernel
theorem d_M_otherRun_12 : decode b_M_otherRun 12 = .ok (.aload_n 0, 1) := by decide +kernel
theorem d_M_otherRun_13 : decode b_M_otherRun 13 = .ok (.iconst 0, 1) := by decide +kernel
theorem d_M_otherRun_14 : decode b_M_otherRun 14 = .ok (.invokevirtual 848, 3) := by decide +kernel
theorem d_M_otherRun_17 : decode b_M_otherRun 17 = .ok (.lstore_n 3, 1) := by decide +kernel
theorem d_M_otherRun_18 : decode b_M_otherRun 18 = .ok (.lload_n 3, 1) := by decide +kernel
theorem d_M_otherRun_19 : decode b_M_otherRun 19 = .ok (.invokestatic 947, 3) := by decide +kernel
theorem d_M_otherRun_22 : decode b_M_otherRun 22 = .ok (.ifCond .ne 12, 3) := by decide +kernel
theorem d_M_otherRun_25 : decode b_M_otherRun 25 = .ok (.aload_n 0, 1) := by decide +kernel
theorem d_M_otherRun_26 : decode b_M_otherRun 26 = .ok (.bipush 11, 2) := by decide +kernel
theorem d_M_otherRun_28 : decode b_M_otherRun 28 = .ok (.invokevirtual 861, 3) := by decide +kernel
theorem d_M_otherRun_31 : decode b_M_otherRun 31 = .ok (.goto 40, 3) := by decide +kernel
theorem d_M_otherRun_34 : decode b_M_otherRun 34 = .ok (.lload_n 3, 1) := by decide +kernel
theorem d_M_otherRun_35 : decode b_M_otherRun 35 = .ok (.iload_n 2, 1) := by decide +kernel
theorem d_M_otherRun_36 : decode b_M_otherRun 36 = .ok (.bipush 10, 2) := by decide +kernel
theorem d_M_otherRun_38 : decode b_M_otherRun 38 = .ok (.if_icmp .ne 7, 3) := by decide +kernel
theorem d_M_otherRun_41 : decode b_M_otherRun 41 = .ok (.iconst 1, 1) := by decide +kernel
theorem d_M_otherRun_42 : decode b_M_otherRun 42 = .ok (.goto 4, 3) := by decide +kernel
theorem d_M_otherRun_45 : decode b_M_otherRun 45 = .ok (.iconst 0, 1) := by decide +kernel
theorem d_M_otherRun_46 : decode b_M_otherRun 46 = .ok (.invokestatic 940, 3) := by decide +kernel
theorem d_M_otherRun_49 : decode b_M_otherRun 49 = .ok (.lcmp, 1) := by decide +kernel
theorem d_M_otherRun_50 : decode b_M_otherRun 50 = .ok (.ifCond .ne 16, 3) := by decide +kernel
theorem d_M_otherRun_53 : decode b_M_otherRun 53 = .ok (.aload_n 0, 1) := by decide +kernel
theorem d_M_otherRun_54 : decode b_M_otherRun 54 = .ok (.aload_n 0, 1) := by decide +kernel
theorem d_M_otherRun_55 : decode b_M_otherRun 55 = .ok (.getfield 63, 3) := by decide +kernel
theorem d_M_otherRun_58 : decode b_M_otherRun 58 = .ok (.iload_n 1, 1) := by decide +kernel
theorem d_M_otherRun_59 : decode b_M_otherRun 59 = .ok (.iaload, 1) := by decide +kernel
theorem d_M_otherRun_60 : decode b_M_otherRun 60 = .ok (.invokevirtual 811, 3) := by decide +kernel
theorem d_M_otherRun_63 : decode b_M_otherRun 63 = .ok (.goto 8, 3) := by decide +kernel
theorem d_M_otherRun_66 : decode b_M_otherRun 66 = .ok (.aload_n 0, 1) := by decide +kernel
theorem d_M_otherRun_67 : decode b_M_otherRun 67 = .ok (.invokevirtual 930, 3) := by decide +kernel
theorem d_M_otherRun_70 : decode b_M_otherRun 70 = .ok (.lstore_n 3, 1) := by decide +kernel
theorem d_M_otherRun_71 : decode b_M_otherRun 71 = .ok (.goto 257, 3) := by decide +kernel
theorem d_M_otherRun_74 : decode b_M_otherRun 74 = .ok (.iload_n 2, 1) := by decide +kernel
theorem d_M_otherRun_75 : decode b_M_otherRun 75 = .ok (.bipush 7, 2) := by decide +kernel
theorem d_M_otherRun_77 : decode b_M_otherRun 77 = .ok (.if_icmp .ne 48, 3) := by decide +kernel
theorem d_M_otherRun_80 : decode b_M_otherRun 80 = .ok (.aload_n 0, 1) := by decide +kernel
theorem d_M_otherRun_81 : decode b_M_otherRun 81 = .ok (.invokevirtual 930, 3) := by decide +kernel
theorem d_M_otherRun_84 : decode b_M_otherRun 84 = .ok (.lstore_n 3, 1) := by decide +kernel
theorem d_M_otherRun_85 : decode b_M_otherRun 85 = .ok (.lload_n 3, 1) := by decide +kernel
theorem d_M_otherRun_86 : decode b_M_otherRun 86 = .ok (.invokestatic 947, 3) := by decide +kernel
theorem d_M_otherRun_89 : decode b_M_otherRun 89 = .ok (.ifCond .eq 27, 3) := by decide +kernel
theorem d_M_otherRun_92 : decode b_M_otherRun 92 = .ok (.aload_n 0, 1) := by decide +kernel
theorem d_M_otherRun_93 : decode b_M_otherRun 93 = .ok (.lload_n 3, 1) := by decide +kernel
theorem d_M_otherRun_94 : decode b_M_otherRun 94 = .ok (.iconst 0, 1) := by decide +kernel
theorem d_M_otherRun_95 : decode b_M_otherRun 95 = .ok (.invokestatic 940, 3) := by decide +kernel
theorem d_M_otherRun_98 : decode b_M_otherRun 98 = .ok (.lcmp, 1) := by decide +kernel
theorem d_M_otherRun_99 : decode b_M_otherRun 99 = .ok (.ifCond .ne 7, 3) := by decide +kernel
theorem d_M_otherRun_102 : decode b_M_otherRun 102 = .ok (.iconst 1, 1) := by decide +kernel
theorem d_M_otherRun_103 : decode b_M_otherRun 103 = .ok (.goto 4, 3) := by decide +kernel
theorem d_M_otherRun_106 : decode b_M_otherRun 106 = .ok (.iconst 0, 1) := by decide +kernel
theorem d_M_otherRun_107 : decode b_M_otherRun 107 = .ok (.invokestatic 940, 3) := by decide +kernel
theorem d_M_otherRun_110 : decode b_M_otherRun 110 = .ok (.invokevirtual 801, 3) := by decide +kernel
theorem d_M_otherRun_113 : decode b_M_otherRun 113 = .ok (.goto 9, 3) := by decide +kernel
theorem d_M_otherRun_116 : decode b_M_otherRun 116 = .ok (.aload_n 0, 1) := by decide +kernel
theorem d_M_otherRun_117 : decode b_M_otherRun 117 = .ok (.bipush 11, 2) := by decide +kernel
theorem d_M_otherRun_119 : decode b_M_otherRun 119 = .ok (.invokevirtual 861, 3) := by decide +kernel
theorem d_M_otherRun_122 : decode b_M_otherRun 122 = .ok (.goto 206, 3) := by decide +kernel
theorem d_M_otherRun_125 : decode b_M_otherRun 125 = .ok (.iload_n 2, 1) := by decide +kernel
theorem d_M_otherRun_126 : decode b_M_otherRun 126 = .ok (.bipush 8, 2) := by decide +kernel
theorem d_M_otherRun_128 : decode b_M_otherRun 128 = .ok (.if_icmp .ne 59, 3) := by decide +kernel
theorem d_M_otherRun_131 : decode b_M_otherRun 131 = .ok (.aload_n 0, 1) := by decide +kernel
theorem d_M_otherRun_132 : decode b_M_otherRun 132 = .ok (.invokevirtual 930, 3) := by decide +kernel
theorem d_M_otherRun_135 : decode b_M_otherRun 135 = .ok (.lstore_n 3, 1) := by decide +kernel
theorem d_M_otherRun_136 : decode b_M_otherRun 136 = .ok (.lload_n 3, 1) := by decide +kernel
theorem d_M_otherRun_137 : decode b_M_otherRun 137 = .ok (.invokestatic 676, 3) := by decide +kernel
theorem d_M_otherRun_140 : decode b_M_otherRun 140 = .ok (.ifCond .ne 22, 3) := by decide +kernel
theorem d_M_otherRun_143 : decode b_M_otherRun 143 = .ok (.lload_n 3, 1) := by decide +kernel
theorem d_M_otherRun_144 : decode b_M_otherRun 144 = .ok (.invokestatic 680, 3) := by decide +kernel
theorem d_M_otherRun_147 : decode b_M_otherRun 147 = .ok (.lload_n 3, 1) := by decide +kernel
theorem d_M_otherRun_148 : decode b_M_otherRun 148 = .ok (.invokestatic 680, 3) := by decide +kernel
theorem d_M_otherRun_151 : decode b_M_otherRun 151 = .ok (.ineg, 1) := by decide +kernel
theorem d_M_otherRun_152 : decode b_M_otherRun 152 = .ok (.if_icmp .ne 19, 3) := by decide +kernel
theorem d_M_otherRun_155 : decode b_M_otherRun 155 = .ok (.lload_n 3, 1) := by decide +kernel
theorem d_M_otherRun_156 : decode b_M_otherRun 156 = .ok (.invokestatic 680, 3) := by decide +kernel
theorem d_M_otherRun_159 : decode b_M_otherRun 159 = .ok (.ifCond .eq 12, 3) := by decide +kernel
theorem d_M_otherRun_162 : decode b_M_otherRun 162 = .ok (.aload_n 0, 1) := by decide +kernel
theorem d_M_otherRun_163 : decode b_M_otherRun 163 = .ok (.bipush 12, 2) := by decide +kernel
theorem d_M_otherRun_165 : decode b_M_otherRun 165 = .ok (.invokevirtual 861, 3) := by decide +kernel
theorem d_M_otherRun_168 : decode b_M_otherRun 168 = .ok (.goto 16, 3) := by decide +kernel
theorem d_M_otherRun_171 : decode b_M_otherRun 171 = .ok (.aload_n 0, 1) := by decide +kernel
theorem d_M_otherRun_172 : decode b_M_otherRun 172 = .ok (.iconst 0, 1) := by decide +kernel
theorem d_M_otherRun_173 : decode b_M_otherRun 173 = .ok (.lload_n 3, 1) := by decide +kernel
theorem d_M_otherRun_174 : decode b_M_otherRun 174 = .ok (.invokestatic 680, 3) := by decide +kernel
theorem d_M_otherRun_177 : decode b_M_otherRun 177 = .ok (.ineg, 1) := by decide +kernel
theorem d_M_otherRun_178 : decode b_M_otherRun 178 = .ok (.invokestatic 315, 3) := by decide +kernel
theorem d_M_otherRun_181 : decode b_M_otherRun 181 = .ok (.invokevirtual 801, 3) := by decide +kernel
theorem d_M_otherRun_184 : decode b_M_otherRun 184 = .ok (.goto 144, 3) := by decide +kernel
theorem d_M_otherRun_187 : decode b_M_otherRun 187 = .ok (.iload_n 2, 1) := by decide +kernel
theorem d_M_otherRun_188 : decode b_M_otherRun 188 = .ok (.bipush 11, 2) := by decide +kernel
theorem d_M_otherRun_190 : decode b_M_otherRun 190 = .ok (.if_icmp .ne 10, 3) := by decide +kernel
theorem d_M_otherRun_193 : decode b_M_otherRun 193 = .ok (.aload_n 0, 1) := by decide +kernel
theorem d_M_otherRun_194 : decode b_M_otherRun 194 = .ok (.invokevirtual 950, 3) := by decide +kernel
theorem d_M_otherRun_197 : decode b_M_otherRun 197 = .ok (.goto 131, 3) := by decide +kernel
theorem d_M_otherRun_200 : decode b_M_otherRun 200 = .ok (.iload_n 2, 1) := by decide +kernel
theorem d_M_otherRun_201 : decode b_M_otherRun 201 = .ok (.bipush 19, 2) := by decide +kernel
theorem d_M_otherRun_203 : decode b_M_otherRun 203 = .ok (.if_icmp .ne 92, 3) := by decide +kernel
theorem d_M_otherRun_206 : decode b_M_otherRun 206 = .ok (.aload_n 0, 1) := by decide +kernel
theorem d_M_otherRun_207 : decode b_M_otherRun 207 = .ok (.getfield 669, 3) := by decide +kernel
theorem d_M_otherRun_210 : decode b_M_otherRun 210 = .ok (.sipush 1600, 3) := by decide +kernel
theorem d_M_otherRun_213 : decode b_M_otherRun 213 = .ok (.imul, 1) := by decide +kernel
theorem d_M_otherRun_214 : decode b_M_otherRun 214 = .ok (.aload_n 0, 1) := by decide +kernel
theorem d_M_otherRun_215 : decode b_M_otherRun 215 = .ok (.getfield 246, 3) := by decide +kernel
theorem d_M_otherRun_218 : decode b_M_otherRun 218 = .ok (.aload_n 0, 1) := by decide +kernel
theorem d_M_otherRun_219 : decode b_M_otherRun 219 = .ok (.getfield 669, 3) := by decide +kernel
theorem d_M_otherRun_222 : decode b_M_otherRun 222 = .ok (.iaload, 1) := by decide +kernel
theorem d_M_otherRun_223 : decode b_M_otherRun 223 = .ok (.iadd, 1) := by decide +kernel
theorem d_M_otherRun_224 : decode b_M_otherRun 224 = .ok (.istore_n 3, 1) := by decide +kernel
theorem d_M_otherRun_225 : decode b_M_otherRun 225 = .ok (.aload_n 0, 1) := by decide +kernel
theorem d_M_otherRun_226 : decode b_M_otherRun 226 = .ok (.getfield 234, 3) := by decide +kernel
theorem d_M_otherRun_229 : decode b_M_otherRun 229 = .ok (.iload_n 3, 1) := by decide +kernel
theorem d_M_otherRun_230 : decode b_M_otherRun 230 = .ok (.aload_n 0, 1) := by decide +kernel
theorem d_M_otherRun_231 : decode b_M_otherRun 231 = .ok (.getfield 212, 3) := by decide +kernel
theorem d_M_otherRun_234 : decode b_M_otherRun 234 = .ok (.aload_n 0, 1) := by decide +kernel
theorem d_M_otherRun_235 : decode b_M_otherRun 235 = .ok (.getfield 669, 3) := by decide +kernel
theorem d_M_otherRun_238 : decode b_M_otherRun 238 = .ok (.iaload, 1) := by decide +kernel
theorem d_M_otherRun_239 : decode b_M_otherRun 239 = .ok (.iconst 1, 1) := by decide +kernel
theorem d_M_otherRun_240 : decode b_M_otherRun 240 = .ok (.isub, 1) := by decide +kernel
theorem d_M_otherRun_241 : decode b_M_otherRun 241 = .ok (.iastore, 1) := by decide +kernel
theorem d_M_otherRun_242 : decode b_M_otherRun 242 = .ok (.aload_n 0, 1) := by decide +kernel
theorem d_M_otherRun_243 : decode b_M_otherRun 243 = .ok (.getfield 237, 3) := by decide +kernel
theorem d_M_otherRun_246 : decode b_M_otherRun 246 = .ok (.iload_n 3, 1) := by decide +kernel
theorem d_M_otherRun_247 : decode b_M_otherRun 247 = .ok (.iload_n 1, 1) := by decide +kernel
theorem d_M_otherRun_248 : decode b_M_otherRun 248 = .ok (.iastore, 1) := by decide +kernel
theorem d_M_otherRun_249 : decode b_M_otherRun 249 = .ok (.aload_n 0, 1) := by decide +kernel
theorem d_M_otherRun_250 : decode b_M_otherRun 250 = .ok (.getfield 240, 3) := by decide +kernel
theorem d_M_otherRun_253 : decode b_M_otherRun 253 = .ok (.iload_n 3, 1) := by decide +kernel
theorem d_M_otherRun_254 : decode b_M_otherRun 254 = .ok (.aload_n 0, 1) := by decide +kernel
theorem d_M_otherRun_255 : decode b_M_otherRun 255 = .ok (.getfield 202, 3) := by decide +kernel
theorem d_M_otherRun_258 : decode b_M_otherRun 258 = .ok (.aload_n 0, 1) := by decide +kernel
theorem d_M_otherRun_259 : decode b_M_otherRun 259 = .ok (.getfield 669, 3) := by decide +kernel
theorem d_M_otherRun_262 : decode b_M_otherRun 262 = .ok (.iaload, 1) := by decide +kernel
theorem d_M_otherRun_263 : decode b_M_otherRun 263 = .ok (.iastore, 1) := by decide +kernel
theorem d_M_otherRun_264 : decode b_M_otherRun 264 = .ok (.aload_n 0, 1) := by decide +kernel
theorem d_M_otherRun_265 : decode b_M_otherRun 265 = .ok (.getfield 243, 3) := by decide +kernel
theorem d_M_otherRun_268 : decode b_M_otherRun 268 = .ok (.iload_n 3, 1) := by decide +kernel
theorem d_M_otherRun_269 : decode b_M_otherRun 269 = .ok (.aload_n 0, 1) := by decide +kernel
theorem d_M_otherRun_270 : decode b_M_otherRun 270 = .ok (.getfield 209, 3) := by decide +kernel
theorem d_M_otherRun_273 : decode b_M_otherRun 273 = .ok (.aload_n 0, 1) := by decide +kernel
theorem d_M_otherRun_274 : decode b_M_otherRun 274 = .ok (.getfield 669, 3) := by decide +kernel
theorem d_M_otherRun_277 : decode b_M_otherRun 277 = .ok (.iaload, 1) := by decide +kernel
theorem d_M_otherRun_278 : decode b_M_otherRun 278 = .ok (.iastore, 1) := by decide +kernel
theorem d_M_otherRun_279 : decode b_M_otherRun 279 = .ok (.aload_n 0, 1) := by decide +kernel
theorem d_M_otherRun_280 : decode b_M_otherRun 280 = .ok (.getfield 246, 3) := by decide +kernel
theorem d_M_otherRun_283 : decode b_M_otherRun 283 = .ok (.aload_n 0, 1) := by decide +kernel
theorem d_M_otherRun_284 : decode b_M_otherRun 284 = .ok (.getfield 669, 3) := by decide +kernel
theorem d_M_otherRun_287 : decode b_M_otherRun 287 = .ok (.dup2, 1) := by decide +kernel
theorem d_M_otherRun_288 : decode b_M_otherRun 288 = .ok (.iaload, 1) := by decide +kernel
theorem d_M_otherRun_289 : decode b_M_otherRun 289 = .ok (.iconst 1, 1) := by decide +kernel
theorem d_M_otherRun_290 : decode b_M_otherRun 290 = .ok (.iadd, 1) := by decide +kernel
theorem d_M_otherRun_291 : decode b_M_otherRun 291 = .ok (.iastore, 1) := by decide +kernel
theorem d_M_otherRun_292 : decode b_M_otherRun 292 = .ok (.goto 36, 3) := by decide +kernel
theorem d_M_otherRun_295 : decode b_M_otherRun 295 = .ok (.iload_n 2, 1) := by decide +kernel
theorem d_M_otherRun_296 : decode b_M_otherRun 296 = .ok (.bipush 20, 2) := by decide +kernel
theorem d_M_otherRun_298 : decode b_M_otherRun 298 = .ok (.if_icmp .ne 19, 3) := by decide +kernel
theorem d_M_otherRun_301 : decode b_M_otherRun 301 = .ok (.aload_n 0, 1) := by decide +kernel
theorem d_M_otherRun_302 : decode b_M_otherRun 302 = .ok (.getfield 246, 3) := by decide +kernel
theorem d_M_otherRun_305 : decode b_M_otherRun 305 = .ok (.aload_n 0, 1) := by decide +kernel
theorem d_M_otherRun_306 : decode b_M_otherRun 306 = .ok (.getfield 669, 3) := by decide +kernel
theorem d_M_otherRun_309 : decode b_M_otherRun 309 = .ok (.dup2, 1) := by decide +kernel
theorem d_M_otherRun_310 : decode b_M_otherRun 310 = .ok (.iaload, 1) := by decide +kernel
theorem d_M_otherRun_311 : decode b_M_otherRun 311 = .ok (.iconst 1, 1) := by decide +kernel
theorem d_M_otherRun_312 : decode b_M_otherRun 312 = .ok (.isub, 1) := by decide +kernel
theorem d_M_otherRun_313 : decode b_M_otherRun 313 = .ok (.iastore, 1) := by decide +kernel
theorem d_M_otherRun_314 : decode b_M_otherRun 314 = .ok (.goto 14, 3) := by decide +kernel
theorem d_M_otherRun_317 : decode b_M_otherRun 317 = .ok (.iload_n 2, 1) := by decide +kernel
theorem d_M_otherRun_318 : decode b_M_otherRun 318 = .ok (.bipush 28, 2) := by decide +kernel
theorem d_M_otherRun_320 : decode b_M_otherRun 320 = .ok (.if_icmp .ne 8, 3) := by decide +kernel
theorem d_M_otherRun_323 : decode b_M_otherRun 323 = .ok (.aload_n 0, 1) := by decide +kernel
theorem d_M_otherRun_324 : decode b_M_otherRun 324 = .ok (.iload_n 1, 1) := by decide +kernel
theorem d_M_otherRun_325 : decode b_M_otherRun 325 = .ok (.invokevirtual 953, 3) := by decide +kernel
theorem d_M_otherRun_328 : decode b_M_otherRun 328 = .ok (.return_, 1) := by decide +kernel
set_option maxRecDepth 100000 in
theorem hl_M_otherRun : Cond.methodLink R_M 944 y_M_otherRun ∈ wd_tbl := wd_of 3222 (by decide +kernel) rfl
set_option maxRecDepth 100000 in
theorem hi_M_otherRun : Cond.instanceMethod y_M_otherRun ∈ wd_tbl := wd_of 3224 (by decide +kernel) rfl
set_option maxRecDepth 100000 in
theorem hs_M_otherRun : Cond.selects R_M y_M_otherRun y_M_otherRun ∈ wd_tbl := wd_of 260 (by decide +kernel) rfl
theorem hd_M_otherRun : y_M_otherRun.cls = R_M ∧ y_M_otherRun.cls ≠ "java/lang/invoke/MethodHandle" ∧ y_M_otherRun.cls ≠ "java/lang/invoke/VarHandle" ∧ (parseMethodDescriptor y_M_otherRun.desc).map (fun d => d.parameters.length) = some 2 := by decide +kernel
def rm_M_otherRun : Room := { frames := 28, cells := 0, slots := 0, locals := 731 }
theorem rm_M_otherRun_M_top {R : Room} (hR : R = rm_M_otherRun) : (rm_M_top).frames + 1 ≤ R.frames ∧ 8 + (2 + 11) + (rm_M_top).locals ≤ R.locals := by subst hR; decide
theorem rm_M_otherRun_M_isTruth {R : Room} (hR : R = rm_M_otherRun) : (rm_M_isTruth).frames + 1 ≤ R.frames ∧ 8 + (2 + 11) + (rm_M_isTruth).locals ≤ R.locals := by subst hR; decide
theorem rm_M_otherRun_M_error {R : Room} (hR : R = rm_M_otherRun) : (rm_M_error).frames + 1 ≤ R.frames ∧ 8 + (2 + 11) + (rm_M_error).locals ≤ R.locals := by subst hR; decide
theorem rm_M_otherRun_M_truth {R : Room} (hR : R = rm_M_otherRun) : (rm_M_truth).frames + 1 ≤ R.frames ∧ 8 + (1 + 11) + (rm_M_truth).locals ≤ R.locals := by subst hR; decide
theorem rm_M_otherRun_M_goTo {R : Room} (hR : R = rm_M_otherRun) : (rm_M_goTo).frames + 1 ≤ R.frames ∧ 8 + (2 + 11) + (rm_M_goTo).locals ≤ R.locals := by subst hR; decide
theorem rm_M_otherRun_M_take {R : Room} (hR : R = rm_M_otherRun) : (rm_M_take).frames + 1 ≤ R.frames ∧ 8 + (1 + 11) + (rm_M_take).locals ≤ R.locals := by subst hR; decide
theorem rm_M_otherRun_M_put {R : Room} (hR : R = rm_M_otherRun) : (rm_M_put).frames + 1 ≤ R.frames ∧ 8 + (3 + 11) + (rm_M_put).locals ≤ R.locals := by subst hR; decide
theorem rm_M_otherRun_M_sortOf {R : Room} (hR : R = rm_M_otherRun) : (rm_M_sortOf).frames + 1 ≤ R.frames ∧ 8 + (2 + 11) + (rm_M_sortOf).locals ≤ R.locals := by subst hR; decide
theorem rm_M_otherRun_M_valueOf {R : Room} (hR : R = rm_M_otherRun) : (rm_M_valueOf).frames + 1 ≤ R.frames ∧ 8 + (2 + 11) + (rm_M_valueOf).locals ≤ R.locals := by subst hR; decide
theorem rm_M_otherRun_M_term {R : Room} (hR : R = rm_M_otherRun) : (rm_M_term).frames + 1 ≤ R.frames ∧ 8 + (2 + 11) + (rm_M_term).locals ≤ R.locals := by subst hR; decide
theorem rm_M_otherRun_M_sendRun {R : Room} (hR : R = rm_M_otherRun) : (rm_M_sendRun).frames + 1 ≤ R.frames ∧ 8 + (8 + 11) + (rm_M_sendRun).locals ≤ R.locals := by subst hR; decide
theorem rm_M_otherRun_M_afterRun {R : Room} (hR : R = rm_M_otherRun) : (rm_M_afterRun).frames + 1 ≤ R.frames ∧ 8 + (5 + 11) + (rm_M_afterRun).locals ≤ R.locals := by subst hR; decide
def fb_M_otherRun_328 (N : Nat) (G : Unit) (u : MS) : Option (MS × Unit) := some (u, ())
set_option maxRecDepth 100000 in
set_option maxHeartbeats 4000000 in
theorem wb_M_otherRun_328 {p : Program} {l : Launch} {e : Env} {R : Room} {s : State} {m : MethodId} {args : Array Value} {below : List Frame} {meth : Method} {c : Code} {D : va_G} {cl : List vw_C} {cB cI cJ cZ cS : ClassId} {A : Nat → Prop} {iM h0 : Nat} {ad : Nat → Nat} (C0 : MCx p s m args meth c b_M_otherRun 5 none D cl cB cI cJ cZ cS iM A) (hR : R = rm_M_otherRun) (N : Nat) (G : Unit) (hG : True) : ∀ (u : MS) (x : MS × Unit), fb_M_otherRun_328 N G u = some x → ∀ (H : Heap) (locs : List Loc), va_P D cl (wM cB cI cJ cZ cS iM h0 ad u) H → va_D A (wM cB cI cJ cZ cS iM h0 ad u) → va_S A s.heap H locs → ∀ (ls : Array Slot), lv_has ls 5 [] → W p l e R s m args below meth c H locs 0 0 (MQ below (mQv D cl cB cI cJ cZ cS iM h0 ad A x) args s 0 0 A) (F0 m 328 ls []) := by
  intro u x hf H locs hP hD hS ls hl
  obtain ⟨hx, hb, hr, hml, ht, hown, hM, hK, hA, hlocks⟩ := id C0
  unfold fb_M_otherRun_328 at hf
  exact mr_v C0 hP hD hS hf d_M_otherRun_328
def fb_M_otherRun_184 (N : Nat) (G : Unit) (u : MS) : Option (MS × Unit) := fb_M_otherRun_328 N G u
set_option maxRecDepth 100000 in
set_option maxHeartbeats 4000000 in
theorem wb_M_otherRun_184 {p : Program} {l : Launch} {e : Env} {R : Room} {s : State} {m : MethodId} {args : Array Value} {below : List Frame} {meth : Method} {c : Code} {D : va_G} {cl : List vw_C} {cB cI cJ cZ cS : ClassId} {A : Nat → Prop} {iM h0 : Nat} {ad : Nat → Nat} (C0 : MCx p s m args meth c b_M_otherRun 5 none D cl cB cI cJ cZ cS iM A) (hR : R = rm_M_otherRun) (N : Nat) (G : Unit) (hG : True) : ∀ (u : MS) (x : MS × Unit), fb_M_otherRun_184 N G u = some x → ∀ (H : Heap) (locs : List Loc), va_P D cl (wM cB cI cJ cZ cS iM h0 ad u) H → va_D A (wM cB cI cJ cZ cS iM h0 ad u) → va_S A s.heap H locs → ∀ (ls : Array Slot), lv_has ls 5 [] → W p l e R s m args below meth c H locs 0 0 (MQ below (mQv D cl cB cI cJ cZ cS iM h0 ad A x) args s 0 0 A) (F0 m 184 ls []) := by
  intro u x hf H locs hP hD hS ls hl
  obtain ⟨hx, hb, hr, hml, ht, hown, hM, hK, hA, hlocks⟩ := id C0
  unfold fb_M_otherRun_184 at hf
  refine lv_goto (tgt := 328) hx hb d_M_otherRun_184 (by decide) ?_
  exact wb_M_otherRun_328 C0 hR N G hG _ _ hf H locs hP hD hS ls (lv_sub hl [] rfl)
def fb_M_otherRun_171 (N : Nat) (G : Unit) (u : MS) (v3 : Int64) : Option (MS × Unit) := bnd (fm_M_valueOf N u v3) (fun u1 r1 => bnd (fm_M_term N u1 0 (-r1)) (fun u2 r2 => bnd (fm_M_put N u2 r2) (fun u3 _ => fb_M_otherRun_184 N G u3)))
set_option maxRecDepth 100000 in
set_option maxHeartbeats 4000000 in
theorem wb_M_otherRun_171 {p : Program} {l : Launch} {e : Env} {R : Room} {s : State} {m : MethodId} {args : Array Value} {below : List Frame} {meth : Method} {c : Code} {D : va_G} {cl : List vw_C} {cB cI cJ cZ cS : ClassId} {A : Nat → Prop} {iM h0 : Nat} {ad : Nat → Nat} (C0 : MCx p s m args meth c b_M_otherRun 5 none D cl cB cI cJ cZ cS iM A) (hR : R = rm_M_otherRun) (N : Nat) (G : Unit) (hG : True) : ∀ (u : MS) (v3 : Int64) (x : MS × Unit), fb_M_otherRun_171 N G u v3 = some x → ∀ (H : Heap) (locs : List Loc), va_P D cl (wM cB cI cJ cZ cS iM h0 ad u) H → va_D A (wM cB cI cJ cZ cS iM h0 ad u) → va_S A s.heap H locs → ∀ (ls : Array Slot), lv_has ls 5 [(0, .ref h0), (3, .long v3)] → W p l e R s m args below meth c H locs 0 0 (MQ below (mQv D cl cB cI cJ cZ cS iM h0 ad A x) args s 0 0 A) (F0 m 171 ls []) := by
  intro u v3 x hf H locs hP hD hS ls hl
  obtain ⟨hx, hb, hr, hml, ht, hown, hM, hK, hA, hlocks⟩ := id C0
  unfold fb_M_otherRun_171 at hf
  refine lv_aload_n hx hb d_M_otherRun_171 rfl (lv_at hl 0 rfl) ?_
  refine lv_iconst (v := 0) hx hb d_M_otherRun_172 (by decide) ?_
  refine lv_lload_n hx hb d_M_otherRun_173 rfl (lv_at hl 1 rfl) ?_
  obtain ⟨u1, r1, hc1, hf⟩ := bnd_some hf
  refine mS_i (As := [.long v3]) (rest := [.int 0, .ref h0]) C0 hP hD hS (c_M_valueOf N hM hc1) k_M_valueOf hl_M_valueOf ht_M_valueOf hini_M rfl rfl hd_M_valueOf rfl (rm_M_otherRun_M_valueOf hR) hl.1 (Nat.le_of_ble_eq_true rfl) d_M_otherRun_174 rfl ⟨Nat.zero_le _, Nat.zero_le _⟩ (fun H locs hP hD hS => ?_)
  refine lv_ineg hx hb d_M_otherRun_177 ?_
  obtain ⟨u2, r2, hc2, hf⟩ := bnd_some hf
  refine mS_l (As := [.int 0, .int (-r1)]) (rest := [.ref h0]) C0 hP hD hS (c_M_term N hM hc2) k_M_term hl_M_term ht_M_term hini_M rfl rfl hd_M_term rfl (rm_M_otherRun_M_term hR) hl.1 (Nat.le_of_ble_eq_true rfl) d_M_otherRun_178 rfl ⟨Nat.zero_le _, Nat.zero_le _⟩ (fun H locs hP hD hS => ?_)
  obtain ⟨u3, r3, hc3, hf⟩ := bnd_some hf
  refine mV_v (As := [.long r2]) (rest := []) C0 hP hD hS (c_M_put N hM hc3) k_M_put hl_M_put hi_M_put hs_M_put hini_M rfl rfl hd_M_put rfl (rm_M_otherRun_M_put hR) hl.1 (Nat.le_of_ble_eq_true rfl) d_M_otherRun_181 rfl ⟨Nat.zero_le _, Nat.zero_le _⟩ (fun H locs hP hD hS => ?_)
  exact wb_M_otherRun_184 C0 hR N G hG _ _ hf H locs hP hD hS ls (lv_sub hl [] rfl)
def fb_M_otherRun_162 (N : Nat) (G : Unit) (u : MS) : Option (MS × Unit) := bnd (fr_M_error N u 12) (fun u4 _ => fb_M_otherRun_184 N G u4)
set_option maxRecDepth 100000 in
set_option maxHeartbeats 4000000 in
theorem wb_M_otherRun_162 {p : Program} {l : Launch} {e : Env} {R : Room} {s : State} {m : MethodId} {args : Array Value} {below : List Frame} {meth : Method} {c : Code} {D : va_G} {cl : List vw_C} {cB cI cJ cZ cS : ClassId} {A : Nat → Prop} {iM h0 : Nat} {ad : Nat → Nat} (C0 : MCx p s m args meth c b_M_otherRun 5 none D cl cB cI cJ cZ cS iM A) (hR : R = rm_M_otherRun) (N : Nat) (G : Unit) (hG : True) : ∀ (u : MS) (x : MS × Unit), fb_M_otherRun_162 N G u = some x → ∀ (H : Heap) (locs : List Loc), va_P D cl (wM cB cI cJ cZ cS iM h0 ad u) H → va_D A (wM cB cI cJ cZ cS iM h0 ad u) → va_S A s.heap H locs → ∀ (ls : Array Slot), lv_has ls 5 [(0, .ref h0)] → W p l e R s m args below meth c H locs 0 0 (MQ below (mQv D cl cB cI cJ cZ cS iM h0 ad A x) args s 0 0 A) (F0 m 162 ls []) := by
  intro u x hf H locs hP hD hS ls hl
  obtain ⟨hx, hb, hr, hml, ht, hown, hM, hK, hA, hlocks⟩ := id C0
  unfold fb_M_otherRun_162 at hf
  refine lv_aload_n hx hb d_M_otherRun_162 rfl (lv_at hl 0 rfl) ?_
  refine lv_bipush (v := 12) hx hb d_M_otherRun_163 (by decide) ?_
  obtain ⟨u4, r4, hc4, hf⟩ := bnd_some hf
  refine mV_v (As := [.int 12]) (rest := []) C0 hP hD hS (c_M_error N hM hc4) k_M_error hl_M_error hi_M_error hs_M_error hini_M rfl rfl hd_M_error rfl (rm_M_otherRun_M_error hR) hl.1 (Nat.le_of_ble_eq_true rfl) d_M_otherRun_165 rfl ⟨Nat.zero_le _, Nat.zero_le _⟩ (fun H locs hP hD hS => ?_)
  refine lv_goto (tgt := 184) hx hb d_M_otherRun_168 (by decide) ?_
  exact wb_M_otherRun_184 C0 hR N G hG _ _ hf H locs hP hD hS ls (lv_sub hl [] rfl)
def fb_M_otherRun_122 (N : Nat) (G : Unit) (u : MS) : Option (MS × Unit) := fb_M_otherRun_328 N G u
set_option maxRecDepth 100000 in
set_option maxHeartbeats 4000000 in
theorem wb_M_otherRun_122 {p : Program} {l : Launch} {e : Env} {R : Room} {s : State} {m : MethodId} {args : Array Value} {below : List Frame} {meth : Method} {c : Code} {D : va_G} {cl : List vw_C} {cB cI cJ cZ cS : ClassId} {A : Nat → Prop} {iM h0 : Nat} {ad : Nat → Nat} (C0 : MCx p s m args meth c b_M_otherRun 5 none D cl cB cI cJ cZ cS iM A) (hR : R = rm_M_otherRun) (N : Nat) (G : Unit) (hG : True) : ∀ (u : MS) (x : MS × Unit), fb_M_otherRun_122 N G u = some x → ∀ (H : Heap) (locs : List Loc), va_P D cl (wM cB cI cJ cZ cS iM h0 ad u) H → va_D A (wM cB cI cJ cZ cS iM h0 ad u) → va_S A s.heap H locs → ∀ (ls : Array Slot), lv_has ls 5 [] → W p l e R s m args below meth c H locs 0 0 (MQ below (mQv D cl cB cI cJ cZ cS iM h0 ad A x) args s 0 0 A) (F0 m 122 ls []) := by
  intro u x hf H locs hP hD hS ls hl
  obtain ⟨hx, hb, hr, hml, ht, hown, hM, hK, hA, hlocks⟩ := id C0
  unfold fb_M_otherRun_122 at hf
  refine lv_goto (tgt := 328) hx hb d_M_otherRun_122 (by decide) ?_
  exact wb_M_otherRun_328 C0 hR N G hG _ _ hf H locs hP hD hS ls (lv_sub hl [] rfl)
def fb_M_otherRun_107 (N : Nat) (G : Unit) (u : MS) (t1 : Int32) : Option (MS × Unit) := bnd (fm_M_truth N u t1) (fun u5 r5 => bnd (fm_M_put N u5 r5) (fun u6 _ => fb_M_otherRun_122 N G u6))
set_option maxRecDepth 100000 in
set_option maxHeartbeats 4000000 in
theorem wb_M_otherRun_107 {p : Program} {l : Launch} {e : Env} {R : Room} {s : State} {m : MethodId} {args : Array Value} {below : List Frame} {meth : Method} {c : Code} {D : va_G} {cl : List vw_C} {cB cI cJ cZ cS : ClassId} {A : Nat → Prop} {iM h0 : Nat} {ad : Nat → Nat} (C0 : MCx p s m args meth c b_M_otherRun 5 none D cl cB cI cJ cZ cS iM A) (hR : R = rm_M_otherRun) (N : Nat) (G : Unit) (hG : True) : ∀ (u : MS) (t1 : Int32) (x : MS × Unit), fb_M_otherRun_107 N G u t1 = some x → ∀ (H : Heap) (locs : List Loc), va_P D cl (wM cB cI cJ cZ cS iM h0 ad u) H → va_D A (wM cB cI cJ cZ cS iM h0 ad u) → va_S A s.heap H locs → ∀ (ls : Array Slot), lv_has ls 5 [] → W p l e R s m args below meth c H locs 0 0 (MQ below (mQv D cl cB cI cJ cZ cS iM h0 ad A x) args s 0 0 A) (F0 m 107 ls [.int t1, .ref h0]) := by
  intro u t1 x hf H locs hP hD hS ls hl
  obtain ⟨hx, hb, hr, hml, ht, hown, hM, hK, hA, hlocks⟩ := id C0
  unfold fb_M_otherRun_107 at hf
  obtain ⟨u5, r5, hc5, hf⟩ := bnd_some hf
  refine mS_l (As := [.int t1]) (rest := [.ref h0]) C0 hP hD hS (c_M_truth N hM hc5) k_M_truth hl_M_truth ht_M_truth hini_M rfl rfl hd_M_truth rfl (rm_M_otherRun_M_truth hR) hl.1 (Nat.le_of_ble_eq_true rfl) d_M_otherRun_107 rfl ⟨Nat.zero_le _, Nat.zero_le _⟩ (fun H locs hP hD hS => ?_)
  obtain ⟨u6, r6, hc6, hf⟩ := bnd_some hf
  refine mV_v (As := [.long r5]) (rest := []) C0 hP hD hS (c_M_put N hM hc6) k_M_put hl_M_put hi_M_put hs_M_put hini_M rfl rfl hd_M_put rfl (rm_M_otherRun_M_put hR) hl.1 (Nat.le_of_ble_eq_true rfl) d_M_otherRun_110 rfl ⟨Nat.zero_le _, Nat.zero_le _⟩ (fun H locs hP hD hS => ?_)
  refine lv_goto (tgt := 122) hx hb d_M_otherRun_113 (by decide) ?_
  exact wb_M_otherRun_122 C0 hR N G hG _ _ hf H locs hP hD hS ls (lv_sub hl [] rfl)
def fb_M_otherRun_71 (N : Nat) (G : Unit) (u : MS) : Option (MS × Unit) := fb_M_otherRun_328 N G u
set_option maxRecDepth 100000 in
set_option maxHeartbeats 4000000 in
theorem wb_M_otherRun_71 {p : Program} {l : Launch} {e : Env} {R : Room} {s : State} {m : MethodId} {args : Array Value} {below : List Frame} {meth : Method} {c : Code} {D : va_G} {cl : List vw_C} {cB cI cJ cZ cS : ClassId} {A : Nat → Prop} {iM h0 : Nat} {ad : Nat → Nat} (C0 : MCx p s m args meth c b_M_otherRun 5 none D cl cB cI cJ cZ cS iM A) (hR : R = rm_M_otherRun) (N : Nat) (G : Unit) (hG : True) : ∀ (u : MS) (x : MS × Unit), fb_M_otherRun_71 N G u = some x → ∀ (H : Heap) (locs : List Loc), va_P D cl (wM cB cI cJ cZ cS iM h0 ad u) H → va_D A (wM cB cI cJ cZ cS iM h0 ad u) → va_S A s.heap H locs → ∀ (ls : Array Slot), lv_has ls 5 [] → W p l e R s m args below meth c H locs 0 0 (MQ below (mQv D cl cB cI cJ cZ cS iM h0 ad A x) args s 0 0 A) (F0 m 71 ls []) := by
  intro u x hf H locs hP hD hS ls hl
  obtain ⟨hx, hb, hr, hml, ht, hown, hM, hK, hA, hlocks⟩ := id C0
  unfold fb_M_otherRun_71 at hf
  refine lv_goto (tgt := 328) hx hb d_M_otherRun_71 (by decide) ?_
  exact wb_M_otherRun_328 C0 hR N G hG _ _ hf H locs hP hD hS ls (lv_sub hl [] rfl)
def fb_M_otherRun_46 (N : Nat) (G : Unit) (u : MS) (v1 : Int32) (t0 : Int64) (t1 : Int32) : Option (MS × Unit) := bnd (fm_M_truth N u t1) (fun u7 r7 => br (decide ((lg_cmp t0 r7) = 0)) (ck (inb v1 (ln 25)) (bnd (fm_M_goTo N u7 (u7.2.2.1 25 v1.toNatClampNeg)) (fun u9 _ => fb_M_otherRun_71 N G u9))) (bnd (fm_M_take N u7) (fun u8 r8 => fb_M_otherRun_71 N G u8)))
set_option maxRecDepth 100000 in
set_option maxHeartbeats 4000000 in
theorem wb_M_otherRun_46 {p : Program} {l : Launch} {e : Env} {R : Room} {s : State} {m : MethodId} {args : Array Value} {below : List Frame} {meth : Method} {c : Code} {D : va_G} {cl : List vw_C} {cB cI cJ cZ cS : ClassId} {A : Nat → Prop} {iM h0 : Nat} {ad : Nat → Nat} (C0 : MCx p s m args meth c b_M_otherRun 5 none D cl cB cI cJ cZ cS iM A) (hR : R = rm_M_otherRun) (N : Nat) (G : Unit) (hG : True) : ∀ (u : MS) (v1 : Int32) (t0 : Int64) (t1 : Int32) (x : MS × Unit), fb_M_otherRun_46 N G u v1 t0 t1 = some x → ∀ (H : Heap) (locs : List Loc), va_P D cl (wM cB cI cJ cZ cS iM h0 ad u) H → va_D A (wM cB cI cJ cZ cS iM h0 ad u) → va_S A s.heap H locs → ∀ (ls : Array Slot), lv_has ls 5 [(0, .ref h0), (1, .int v1)] → W p l e R s m args below meth c H locs 0 0 (MQ below (mQv D cl cB cI cJ cZ cS iM h0 ad A x) args s 0 0 A) (F0 m 46 ls [.int t1, .long t0]) := by
  intro u v1 t0 t1 x hf H locs hP hD hS ls hl
  obtain ⟨hx, hb, hr, hml, ht, hown, hM, hK, hA, hlocks⟩ := id C0
  unfold fb_M_otherRun_46 at hf
  obtain ⟨u7, r7, hc7, hf⟩ := bnd_some hf
  refine mS_l (As := [.int t1]) (rest := [.long t0]) C0 hP hD hS (c_M_truth N hM hc7) k_M_truth hl_M_truth ht_M_truth hini_M rfl rfl hd_M_truth rfl (rm_M_otherRun_M_truth hR) hl.1 (Nat.le_of_ble_eq_true rfl) d_M_otherRun_46 rfl ⟨Nat.zero_le _, Nat.zero_le _⟩ (fun H locs hP hD hS => ?_)
  refine W.lcmp hx hb d_M_otherRun_49 ?_
  refine lv_if_ne (tgt := 66) hx hb d_M_otherRun_50 (by decide) (fun hc => ?_) (fun hc => ?_)
  · rw [br_n _ hc] at hf
    refine lv_aload_n hx hb d_M_otherRun_66 rfl (lv_at hl 0 rfl) ?_
    obtain ⟨u8, r8, hc8, hf⟩ := bnd_some hf
    refine mV_l (As := []) (rest := []) C0 hP hD hS (c_M_take N hM hc8) k_M_take hl_M_take hi_M_take hs_M_take hini_M rfl rfl hd_M_take rfl (rm_M_otherRun_M_take hR) hl.1 (Nat.le_of_ble_eq_true rfl) d_M_otherRun_67 rfl ⟨Nat.zero_le _, Nat.zero_le _⟩ (fun H locs hP hD hS => ?_)
    refine lv_lstore_n (lv' := [(3, .long r8), (0, .ref h0), (1, .int v1)]) hx hb d_M_otherRun_70 rfl hl (by decide) rfl (fun ls hl => ?_)
    exact wb_M_otherRun_71 C0 hR N G hG _ _ hf H locs hP hD hS ls (lv_sub hl [] rfl)
  · rw [br_p _ hc] at hf
    refine lv_aload_n hx hb d_M_otherRun_53 rfl (lv_at hl 0 rfl) ?_
    refine lv_aload_n hx hb d_M_otherRun_54 rfl (lv_at hl 0 rfl) ?_
    refine ug_R hx hb ht hown hM hK hP 25 (by decide) lk_M_25 (by decide) d_M_otherRun_55 ?_
    refine lv_iload_n hx hb d_M_otherRun_58 rfl (lv_at hl 1 rfl) ?_
    obtain ⟨hi9, hf⟩ := ck_some hf
    refine ul_I hx hb hK hP (by decide) (by decide) hi9 d_M_otherRun_59 ?_
    obtain ⟨u9, r9, hc9, hf⟩ := bnd_some hf
    refine mV_v (As := [.int (u7.2.2.1 25 v1.toNatClampNeg)]) (rest := []) C0 hP hD hS (c_M_goTo N hM hc9) k_M_goTo hl_M_goTo hi_M_goTo hs_M_goTo hini_M rfl rfl hd_M_goTo rfl (rm_M_otherRun_M_goTo hR) hl.1 (Nat.le_of_ble_eq_true rfl) d_M_otherRun_60 rfl ⟨Nat.zero_le _, Nat.zero_le _⟩ (fun H locs hP hD hS => ?_)
    refine lv_goto (tgt := 71) hx hb d_M_otherRun_63 (by decide) ?_
    exact wb_M_otherRun_71 C0 hR N G hG _ _ hf H locs hP hD hS ls (lv_sub hl [] rfl)
def fb_M_otherRun_12 (N : Nat) (G : Unit) (u : MS) (v1 : Int32) (v2 : Int32) : Option (MS × Unit) := bnd (fm_M_top N u 0) (fun u10 r10 => bnd (fm_M_isTruth N u10 r10) (fun u11 r11 => br (decide (r11 = 0)) (bnd (fr_M_error N u11 11) (fun u12 _ => fb_M_otherRun_71 N G u12)) (br (decide (v2 = 10)) (fb_M_otherRun_46 N G u11 (v1) (r10) (1)) (fb_M_otherRun_46 N G u11 (v1) (r10) (0)))))
set_option maxRecDepth 100000 in
set_option maxHeartbeats 4000000 in
theorem wb_M_otherRun_12 {p : Program} {l : Launch} {e : Env} {R : Room} {s : State} {m : MethodId} {args : Array Value} {below : List Frame} {meth : Method} {c : Code} {D : va_G} {cl : List vw_C} {cB cI cJ cZ cS : ClassId} {A : Nat → Prop} {iM h0 : Nat} {ad : Nat → Nat} (C0 : MCx p s m args meth c b_M_otherRun 5 none D cl cB cI cJ cZ cS iM A) (hR : R = rm_M_otherRun) (N : Nat) (G : Unit) (hG : True) : ∀ (u : MS) (v1 : Int32) (v2 : Int32) (x : MS × Unit), fb_M_otherRun_12 N G u v1 v2 = some x → ∀ (H : Heap) (locs : List Loc), va_P D cl (wM cB cI cJ cZ cS iM h0 ad u) H → va_D A (wM cB cI cJ cZ cS iM h0 ad u) → va_S A s.heap H locs → ∀ (ls : Array Slot), lv_has ls 5 [(0, .ref h0), (1, .int v1), (2, .int v2)] → W p l e R s m args below meth c H locs 0 0 (MQ below (mQv D cl cB cI cJ cZ cS iM h0 ad A x) args s 0 0 A) (F0 m 12 ls []) := by
  intro u v1 v2 x hf H locs hP hD hS ls hl
  obtain ⟨hx, hb, hr, hml, ht, hown, hM, hK, hA, hlocks⟩ := id C0
  unfold fb_M_otherRun_12 at hf
  refine lv_aload_n hx hb d_M_otherRun_12 rfl (lv_at hl 0 rfl) ?_
  refine lv_iconst (v := 0) hx hb d_M_otherRun_13 (by decide) ?_
  obtain ⟨u10, r10, hc10, hf⟩ := bnd_some hf
  refine mV_l (As := [.int 0]) (rest := []) C0 hP hD hS (c_M_top N hM hc10) k_M_top hl_M_top hi_M_top hs_M_top hini_M rfl rfl hd_M_top rfl (rm_M_otherRun_M_top hR) hl.1 (Nat.le_of_ble_eq_true rfl) d_M_otherRun_14 rfl ⟨Nat.zero_le _, Nat.zero_le _⟩ (fun H locs hP hD hS => ?_)
  refine lv_lstore_n (lv' := [(3, .long r10), (0, .ref h0), (1, .int v1), (2, .int v2)]) hx hb d_M_otherRun_17 rfl hl (by decide) rfl (fun ls hl => ?_)
  refine lv_lload_n hx hb d_M_otherRun_18 rfl (lv_at hl 0 rfl) ?_
  obtain ⟨u11, r11, hc11, hf⟩ := bnd_some hf
  refine mS_i (As := [.long r10]) (rest := []) C0 hP hD hS (c_M_isTruth N hM hc11) k_M_isTruth hl_M_isTruth ht_M_isTruth hini_M rfl rfl hd_M_isTruth rfl (rm_M_otherRun_M_isTruth hR) hl.1 (Nat.le_of_ble_eq_true rfl) d_M_otherRun_19 rfl ⟨Nat.zero_le _, Nat.zero_le _⟩ (fun H locs hP hD hS => ?_)
  refine lv_if_ne (tgt := 34) hx hb d_M_otherRun_22 (by decide) (fun hc => ?_) (fun hc => ?_)
  · rw [br_n _ hc] at hf
    refine lv_lload_n hx hb d_M_otherRun_34 rfl (lv_at hl 0 rfl) ?_
    refine lv_iload_n hx hb d_M_otherRun_35 rfl (lv_at hl 3 rfl) ?_
    refine lv_bipush (v := 10) hx hb d_M_otherRun_36 (by decide) ?_
    refine lv_icmp_ne (tgt := 45) hx hb d_M_otherRun_38 (by decide) (fun hc => ?_) (fun hc => ?_)
    · rw [br_n _ hc] at hf
      refine lv_iconst (v := 0) hx hb d_M_otherRun_45 (by decide) ?_
      exact wb_M_otherRun_46 C0 hR N G hG _ _ _ _ _ hf H locs hP hD hS ls (lv_sub hl [1, 2] rfl)
    · rw [br_p _ hc] at hf
      refine lv_iconst (v := 1) hx hb d_M_otherRun_41 (by decide) ?_
      refine lv_goto (tgt := 46) hx hb d_M_otherRun_42 (by decide) ?_
      exact wb_M_otherRun_46 C0 hR N G hG _ _ _ _ _ hf H locs hP hD hS ls (lv_sub hl [1, 2] rfl)
  · rw [br_p _ hc] at hf
    refine lv_aload_n hx hb d_M_otherRun_25 rfl (lv_at hl 1 rfl) ?_
    refine lv_bipush (v := 11) hx hb d_M_otherRun_26 (by decide) ?_
    obtain ⟨u12, r12, hc12, hf⟩ := bnd_some hf
    refine mV_v (As := [.int 11]) (rest := []) C0 hP hD hS (c_M_error N hM hc12) k_M_error hl_M_error hi_M_error hs_M_error hini_M rfl rfl hd_M_error rfl (rm_M_otherRun_M_error hR) hl.1 (Nat.le_of_ble_eq_true rfl) d_M_otherRun_28 rfl ⟨Nat.zero_le _, Nat.zero_le _⟩ (fun H locs hP hD hS => ?_)
    refine lv_goto (tgt := 71) hx hb d_M_otherRun_31 (by decide) ?_
    exact wb_M_otherRun_71 C0 hR N G hG _ _ hf H locs hP hD hS ls (lv_sub hl [] rfl)
def fb_M_otherRun_0 (N : Nat) (G : Unit) (u : MS) (v1 : Int32) (v2 : Int32) : Option (MS × Unit) := br (decide (v2 = 9)) (fb_M_otherRun_12 N G u (v1) (v2)) (br (decide (v2 = 10)) (fb_M_otherRun_12 N G u (v1) (v2)) (br (decide (v2 = 7)) (bnd (fm_M_take N u) (fun u27 r27 => bnd (fm_M_isTruth N u27 r27) (fun u28 r28 => br (decide (r28 = 0)) (bnd (fr_M_error N u28 11) (fun u29 _ => fb_M_otherRun_122 N G u29)) (bnd (fm_M_truth N u28 0) (fun u30 r30 => br (decide ((lg_cmp r27 r30) = 0)) (fb_M_otherRun_107 N G u30 (1)) (fb_M_otherRun_107 N G u30 (0))))))) (br (decide (v2 = 8)) (bnd (fm_M_take N u) (fun u22 r22 => bnd (fm_M_sortOf N u22 r22) (fun u23 r23 => br (decide (r23 = 0)) (bnd (fm_M_valueOf N u23 r22) (fun u24 r24 => bnd (fm_M_valueOf N u24 r22) (fun u25 r25 => br (decide (r24 = (-r25))) (bnd (fm_M_valueOf N u25 r22) (fun u26 r26 => br (decide (r26 = 0)) (fb_M_otherRun_171 N G u26 (r22)) (fb_M_otherRun_162 N G u26))) (fb_M_otherRun_171 N G u25 (r22))))) (fb_M_otherRun_162 N G u23)))) (br (decide (v2 = 11)) (bnd (fm_M_sendRun N u) (fun u21 _ => fb_M_otherRun_328 N G u21)) (br (decide (v2 = 19)) (ck (inb (u.1 133) (ln 106)) (lt (((u.1 133) * 1600) + (u.2.2.1 106 (u.1 133).toNatClampNeg)) (fun y15 => ck (inb (u.1 133) (ln 95)) (ck (inb y15 (ln 102)) (lt (upA u 102 (upd (u.2.2.1 102) y15.toNatClampNeg ((u.2.2.1 95 (u.1 133).toNatClampNeg) - 1))) (fun w16 => ck (inb y15 (ln 103)) (lt (upA w16 103 (upd (w16.2.2.1 103) y15.toNatClampNeg v1)) (fun w17 => ck (inb (w17.1 133) (ln 92)) (ck (inb y15 (ln 104)) (lt (upA w17 104 (upd (w17.2.2.1 104) y15.toNatClampNeg (w17.2.2.1 92 (w17.1 133).toNatClampNeg))) (fun w18 => ck (inb (w18.1 133) (ln 94)) (ck (inb y15 (ln 105)) (lt (upA w18 105 (upd (w18.2.2.1 105) y15.toNatClampNeg (w18.2.2.1 94 (w18.1 133).toNatClampNeg))) (fun w19 => ck (inb (w19.1 133) (ln 106)) (ck (inb (w19.1 133) (ln 106)) (lt (upA w19 106 (upd (w19.2.2.1 106) (w19.1 133).toNatClampNeg ((w19.2.2.1 106 (w19.1 133).toNatClampNeg) + 1))) (fun w20 => fb_M_otherRun_328 N G w20))))))))))))))))) (br (decide (v2 = 20)) (ck (inb (u.1 133) (ln 106)) (ck (inb (u.1 133) (ln 106)) (lt (upA u 106 (upd (u.2.2.1 106) (u.1 133).toNatClampNeg ((u.2.2.1 106 (u.1 133).toNatClampNeg) - 1))) (fun w14 => fb_M_otherRun_328 N G w14)))) (br (decide (v2 = 28)) (bnd (fm_M_afterRun N u v1) (fun u13 _ => fb_M_otherRun_328 N G u13)) (fb_M_otherRun_328 N G u))))))))
set_option maxRecDepth 100000 in
set_option maxHeartbeats 4000000 in
theorem wb_M_otherRun_0 {p : Program} {l : Launch} {e : Env} {R : Room} {s : State} {m : MethodId} {args : Array Value} {below : List Frame} {meth : Method} {c : Code} {D : va_G} {cl : List vw_C} {cB cI cJ cZ cS : ClassId} {A : Nat → Prop} {iM h0 : Nat} {ad : Nat → Nat} (C0 : MCx p s m args meth c b_M_otherRun 5 none D cl cB cI cJ cZ cS iM A) (hR : R = rm_M_otherRun) (N : Nat) (G : Unit) (hG : True) : ∀ (u : MS) (v1 : Int32) (v2 : Int32) (x : MS × Unit), fb_M_otherRun_0 N G u v1 v2 = some x → ∀ (H : Heap) (locs : List Loc), va_P D cl (wM cB cI cJ cZ cS iM h0 ad u) H → va_D A (wM cB cI cJ cZ cS iM h0 ad u) → va_S A s.heap H locs → ∀ (ls : Array Slot), lv_has ls 5 [(0, .ref h0), (1, .int v1), (2, .int v2)] → W p l e R s m args below meth c H locs 0 0 (MQ below (mQv D cl cB cI cJ cZ cS iM h0 ad A x) args s 0 0 A) (F0 m 0 ls []) := by
  intro u v1 v2 x hf H locs hP hD hS ls hl
  obtain ⟨hx, hb, hr, hml, ht, hown, hM, hK, hA, hlocks⟩ := id C0
  unfold fb_M_otherRun_0 at hf
  refine lv_iload_n hx hb d_M_otherRun_0 rfl (lv_at hl 2 rfl) ?_
  refine lv_bipush (v := 9) hx hb d_M_otherRun_1 (by decide) ?_
  refine lv_icmp_eq (tgt := 12) hx hb d_M_otherRun_3 (by decide) (fun hc => ?_) (fun hc => ?_)
  · rw [br_p _ hc] at hf
    exact wb_M_otherRun_12 C0 hR N G hG _ _ _ _ hf H locs hP hD hS ls (lv_sub hl [0, 1, 2] rfl)
  · rw [br_n _ hc] at hf
    refine lv_iload_n hx hb d_M_otherRun_6 rfl (lv_at hl 2 rfl) ?_
    refine lv_bipush (v := 10) hx hb d_M_otherRun_7 (by decide) ?_
    refine lv_icmp_ne (tgt := 74) hx hb d_M_otherRun_9 (by decide) (fun hc => ?_) (fun hc => ?_)
    · rw [br_n _ hc] at hf
      refine lv_iload_n hx hb d_M_otherRun_74 rfl (lv_at hl 2 rfl) ?_
      refine lv_bipush (v := 7) hx hb d_M_otherRun_75 (by decide) ?_
      refine lv_icmp_ne (tgt := 125) hx hb d_M_otherRun_77 (by decide) (fun hc => ?_) (fun hc => ?_)
      · rw [br_n _ hc] at hf
        refine lv_iload_n hx hb d_M_otherRun_125 rfl (lv_at hl 2 rfl) ?_
        refine lv_bipush (v := 8) hx hb d_M_otherRun_126 (by decide) ?_
        refine lv_icmp_ne (tgt := 187) hx hb d_M_otherRun_128 (by decide) (fun hc => ?_) (fun hc => ?_)
        · rw [br_n _ hc] at hf
          refine lv_iload_n hx hb d_M_otherRun_187 rfl (lv_at hl 2 rfl) ?_
          refine lv_bipush (v := 11) hx hb d_M_otherRun_188 (by decide) ?_
          refine lv_icmp_ne (tgt := 200) hx hb d_M_otherRun_190 (by decide) (fun hc => ?_) (fun hc => ?_)
          · rw [br_n _ hc] at hf
            refine lv_iload_n hx hb d_M_otherRun_200 rfl (lv_at hl 2 rfl) ?_
            refine lv_bipush (v := 19) hx hb d_M_otherRun_201 (by decide) ?_
            refine lv_icmp_ne (tgt := 295) hx hb d_M_otherRun_203 (by decide) (fun hc => ?_) (fun hc => ?_)
            · rw [br_n _ hc] at hf
              refine lv_iload_n hx hb d_M_otherRun_295 rfl (lv_at hl 2 rfl) ?_
              refine lv_bipush (v := 20) hx hb d_M_otherRun_296 (by decide) ?_
              refine lv_icmp_ne (tgt := 317) hx hb d_M_otherRun_298 (by decide) (fun hc => ?_) (fun hc => ?_)
              · rw [br_n _ hc] at hf
                refine lv_iload_n hx hb d_M_otherRun_317 rfl (lv_at hl 2 rfl) ?_
                refine lv_bipush (v := 28) hx hb d_M_otherRun_318 (by decide) ?_
                refine lv_icmp_ne (tgt := 328) hx hb d_M_otherRun_320 (by decide) (fun hc => ?_) (fun hc => ?_)
                · rw [br_n _ hc] at hf
                  exact wb_M_otherRun_328 C0 hR N G hG _ _ hf H locs hP hD hS ls (lv_sub hl [] rfl)
                · rw [br_p _ hc] at hf
                  refine lv_aload_n hx hb d_M_otherRun_323 rfl (lv_at hl 0 rfl) ?_
                  refine lv_iload_n hx hb d_M_otherRun_324 rfl (lv_at hl 1 rfl) ?_
                  obtain ⟨u13, r13, hc13, hf⟩ := bnd_some hf
                  refine mV_v (As := [.int v1]) (rest := []) C0 hP hD hS (c_M_afterRun N hM hc13) k_M_afterRun hl_M_afterRun hi_M_afterRun hs_M_afterRun hini_M rfl rfl hd_M_afterRun rfl (rm_M_otherRun_M_afterRun hR) hl.1 (Nat.le_of_ble_eq_true rfl) d_M_otherRun_325 rfl ⟨Nat.zero_le _, Nat.zero_le _⟩ (fun H locs hP hD hS => ?_)
                  exact wb_M_otherRun_328 C0 hR N G hG _ _ hf H locs hP hD hS ls (lv_sub hl [] rfl)
              · rw [br_p _ hc] at hf
                refine lv_aload_n hx hb d_M_otherRun_301 rfl (lv_at hl 0 rfl) ?_
                refine ug_R hx hb ht hown hM hK hP 106 (by decide) lk_M_106 (by decide) d_M_otherRun_302 ?_
                refine lv_aload_n hx hb d_M_otherRun_305 rfl (lv_at hl 0 rfl) ?_
                refine ug_I hx hb ht hown hM hK hP 133 (by decide) lk_M_133 (by decide) d_M_otherRun_306 ?_
                refine lv_dup2_11 hx hb d_M_otherRun_309 rfl rfl ?_
                obtain ⟨hi9, hf⟩ := ck_some hf
                refine ul_I hx hb hK hP (by decide) (by decide) hi9 d_M_otherRun_310 ?_
                refine lv_iconst (v := 1) hx hb d_M_otherRun_311 (by decide) ?_
                refine lv_isub hx hb d_M_otherRun_312 ?_
                obtain ⟨hi9, hf⟩ := ck_some hf
                refine us_I hx hb hK hP hD hS (by decide) (by decide) hi9 d_M_otherRun_313 (fun H locs hP hD hS => ?_)
                obtain ⟨w14, e14, hf⟩ := lt_some hf
                rw [← e14] at hP hD
                refine lv_goto (tgt := 328) hx hb d_M_otherRun_314 (by decide) ?_
                exact wb_M_otherRun_328 C0 hR N G hG _ _ hf H locs hP hD hS ls (lv_sub hl [] rfl)
            · rw [br_p _ hc] at hf
              refine lv_aload_n hx hb d_M_otherRun_206 rfl (lv_at hl 0 rfl) ?_
              refine ug_I hx hb ht hown hM hK hP 133 (by decide) lk_M_133 (by decide) d_M_otherRun_207 ?_
              refine lv_sipush (v := 1600) hx hb d_M_otherRun_210 (by decide) ?_
              refine lv_imul hx hb d_M_otherRun_213 ?_
              refine lv_aload_n hx hb d_M_otherRun_214 rfl (lv_at hl 0 rfl) ?_
              refine ug_R hx hb ht hown hM hK hP 106 (by decide) lk_M_106 (by decide) d_M_otherRun_215 ?_
              refine lv_aload_n hx hb d_M_otherRun_218 rfl (lv_at hl 0 rfl) ?_
              refine ug_I hx hb ht hown hM hK hP 133 (by decide) lk_M_133 (by decide) d_M_otherRun_219 ?_
              obtain ⟨hi9, hf⟩ := ck_some hf
              refine ul_I hx hb hK hP (by decide) (by decide) hi9 d_M_otherRun_222 ?_
              refine lv_iadd hx hb d_M_otherRun_223 ?_
              obtain ⟨y15, e15, hf⟩ := lt_some hf
              rw [← e15]
              refine lv_istore_n (lv' := [(3, .int y15), (0, .ref h0), (1, .int v1), (2, .int v2)]) hx hb d_M_otherRun_224 rfl hl (by decide) rfl (fun ls hl => ?_)
              refine lv_aload_n hx hb d_M_otherRun_225 rfl (lv_at hl 1 rfl) ?_
              refine ug_R hx hb ht hown hM hK hP 102 (by decide) lk_M_102 (by decide) d_M_otherRun_226 ?_
              refine lv_iload_n hx hb d_M_otherRun_229 rfl (lv_at hl 0 rfl) ?_
              refine lv_aload_n hx hb d_M_otherRun_230 rfl (lv_at hl 1 rfl) ?_
              refine ug_R hx hb ht hown hM hK hP 95 (by decide) lk_M_95 (by decide) d_M_otherRun_231 ?_
              refine lv_aload_n hx hb d_M_otherRun_234 rfl (lv_at hl 1 rfl) ?_
              refine ug_I hx hb ht hown hM hK hP 133 (by decide) lk_M_133 (by decide) d_M_otherRun_235 ?_
              obtain ⟨hi9, hf⟩ := ck_some hf
              refine ul_I hx hb hK hP (by decide) (by decide) hi9 d_M_otherRun_238 ?_
              refine lv_iconst (v := 1) hx hb d_M_otherRun_239 (by decide) ?_
              refine lv_isub hx hb d_M_otherRun_240 ?_
              obtain ⟨hi9, hf⟩ := ck_some hf
              refine us_I hx hb hK hP hD hS (by decide) (by decide) hi9 d_M_otherRun_241 (fun H locs hP hD hS => ?_)
              obtain ⟨w16, e16, hf⟩ := lt_some hf
              rw [← e16] at hP hD
              refine lv_aload_n hx hb d_M_otherRun_242 rfl (lv_at hl 1 rfl) ?_
              refine ug_R hx hb ht hown hM hK hP 103 (by decide) lk_M_103 (by decide) d_M_otherRun_243 ?_
              refine lv_iload_n hx hb d_M_otherRun_246 rfl (lv_at hl 0 rfl) ?_
              refine lv_iload_n hx hb d_M_otherRun_247 rfl (lv_at hl 2 rfl) ?_
              obtain ⟨hi9, hf⟩ := ck_some hf
              refine us_I hx hb hK hP hD hS (by decide) (by decide) hi9 d_M_otherRun_248 (fun H locs hP hD hS => ?_)
              obtain ⟨w17, e17, hf⟩ := lt_some hf
              rw [← e17] at hP hD
              refine lv_aload_n hx hb d_M_otherRun_249 rfl (lv_at hl 1 rfl) ?_
              refine ug_R hx hb ht hown hM hK hP 104 (by decide) lk_M_104 (by decide) d_M_otherRun_250 ?_
              refine lv_iload_n hx hb d_M_otherRun_253 rfl (lv_at hl 0 rfl) ?_
              refine lv_aload_n hx hb d_M_otherRun_254 rfl (lv_at hl 1 rfl) ?_
              refine ug_R hx hb ht hown hM hK hP 92 (by decide) lk_M_92 (by decide) d_M_otherRun_255 ?_
              refine lv_aload_n hx hb d_M_otherRun_258 rfl (lv_at hl 1 rfl) ?_
              refine ug_I hx hb ht hown hM hK hP 133 (by decide) lk_M_133 (by decide) d_M_otherRun_259 ?_
              obtain ⟨hi9, hf⟩ := ck_some hf
              refine ul_I hx hb hK hP (by decide) (by decide) hi9 d_M_otherRun_262 ?_
              obtain ⟨hi9, hf⟩ := ck_some hf
              refine us_I hx hb hK hP hD hS (by decide) (by decide) hi9 d_M_otherRun_263 (fun H locs hP hD hS => ?_)
              obtain ⟨w18, e18, hf⟩ := lt_some hf
              rw [← e18] at hP hD
              refine lv_aload_n hx hb d_M_otherRun_264 rfl (lv_at hl 1 rfl) ?_
              refine ug_R hx hb ht hown hM hK hP 105 (by decide) lk_M_105 (by decide) d_M_otherRun_265 ?_
              refine lv_iload_n hx hb d_M_otherRun_268 rfl (lv_at hl 0 rfl) ?_
              refine lv_aload_n hx hb d_M_otherRun_269 rfl (lv_at hl 1 rfl) ?_
              refine ug_R hx hb ht hown hM hK hP 94 (by decide) lk_M_94 (by decide) d_M_otherRun_270 ?_
              refine lv_aload_n hx hb d_M_otherRun_273 rfl (lv_at hl 1 rfl) ?_
              refine ug_I hx hb ht hown hM hK hP 133 (by decide) lk_M_133 (by decide) d_M_otherRun_274 ?_
              obtain ⟨hi9, hf⟩ := ck_some hf
              refine ul_I hx hb hK hP (by decide) (by decide) hi9 d_M_otherRun_277 ?_
              obtain ⟨hi9, hf⟩ := ck_some hf
              refine us_I hx hb hK hP hD hS (by decide) (by decide) hi9 d_M_otherRun_278 (fun H locs hP hD hS => ?_)
              obtain ⟨w19, e19, hf⟩ := lt_some hf
              rw [← e19] at hP hD
              refine lv_aload_n hx hb d_M_otherRun_279 rfl (lv_at hl 1 rfl) ?_
              refine ug_R hx hb ht hown hM hK hP 106 (by decide) lk_M_106 (by decide) d_M_otherRun_280 ?_
              refine lv_aload_n hx hb d_M_otherRun_283 rfl (lv_at hl 1 rfl) ?_
              refine ug_I hx hb ht hown hM hK hP 133 (by decide) lk_M_133 (by decide) d_M_otherRun_284 ?_
              refine lv_dup2_11 hx hb d_M_otherRun_287 rfl rfl ?_
              obtain ⟨hi9, hf⟩ := ck_some hf
              refine ul_I hx hb hK hP (by decide) (by decide) hi9 d_M_otherRun_288 ?_
              refine lv_iconst (v := 1) hx hb d_M_otherRun_289 (by decide) ?_
              refine lv_iadd hx hb d_M_otherRun_290 ?_
              obtain ⟨hi9, hf⟩ := ck_some hf
              refine us_I hx hb hK hP hD hS (by decide) (by decide) hi9 d_M_otherRun_291 (fun H locs hP hD hS => ?_)
              obtain ⟨w20, e20, hf⟩ := lt_some hf
              rw [← e20] at hP hD
              refine lv_goto (tgt := 328) hx hb d_M_otherRun_292 (by decide) ?_
              exact wb_M_otherRun_328 C0 hR N G hG _ _ hf H locs hP hD hS ls (lv_sub hl [] rfl)
          · rw [br_p _ hc] at hf
            refine lv_aload_n hx hb d_M_otherRun_193 rfl (lv_at hl 0 rfl) ?_
            obtain ⟨u21, r21, hc21, hf⟩ := bnd_some hf
            refine mV_v (As := []) (rest := []) C0 hP hD hS (c_M_sendRun N hM hc21) k_M_sendRun hl_M_sendRun hi_M_sendRun hs_M_sendRun hini_M rfl rfl hd_M_sendRun rfl (rm_M_otherRun_M_sendRun hR) hl.1 (Nat.le_of_ble_eq_true rfl) d_M_otherRun_194 rfl ⟨Nat.zero_le _, Nat.zero_le _⟩ (fun H locs hP hD hS => ?_)
            refine lv_goto (tgt := 328) hx hb d_M_otherRun_197 (by decide) ?_
            exact wb_M_otherRun_328 C0 hR N G hG _ _ hf H locs hP hD hS ls (lv_sub hl [] rfl)
        · rw [br_p _ hc] at hf
          refine lv_aload_n hx hb d_M_otherRun_131 rfl (lv_at hl 0 rfl) ?_
          obtain ⟨u22, r22, hc22, hf⟩ := bnd_some hf
          refine mV_l (As := []) (rest := []) C0 hP hD hS (c_M_take N hM hc22) k_M_take hl_M_take hi_M_take hs_M_take hini_M rfl rfl hd_M_take rfl (rm_M_otherRun_M_take hR) hl.1 (Nat.le_of_ble_eq_true rfl) d_M_otherRun_132 rfl ⟨Nat.zero_le _, Nat.zero_le _⟩ (fun H locs hP hD hS => ?_)
          refine lv_lstore_n (lv' := [(3, .long r22), (0, .ref h0), (1, .int v1), (2, .int v2)]) hx hb d_M_otherRun_135 rfl hl (by decide) rfl (fun ls hl => ?_)
          refine lv_lload_n hx hb d_M_otherRun_136 rfl (lv_at hl 0 rfl) ?_
          obtain ⟨u23, r23, hc23, hf⟩ := bnd_some hf
          refine mS_i (As := [.long r22]) (rest := []) C0 hP hD hS (c_M_sortOf N hM hc23) k_M_sortOf hl_M_sortOf ht_M_sortOf hini_M rfl rfl hd_M_sortOf rfl (rm_M_otherRun_M_sortOf hR) hl.1 (Nat.le_of_ble_eq_true rfl) d_M_otherRun_137 rfl ⟨Nat.zero_le _, Nat.zero_le _⟩ (fun H locs hP hD hS => ?_)
          refine lv_if_ne (tgt := 162) hx hb d_M_otherRun_140 (by decide) (fun hc => ?_) (fun hc => ?_)
          · rw [br_n _ hc] at hf
            exact wb_M_otherRun_162 C0 hR N G hG _ _ hf H locs hP hD hS ls (lv_sub hl [1] rfl)
          · rw [br_p _ hc] at hf
            refine lv_lload_n hx hb d_M_otherRun_143 rfl (lv_at hl 0 rfl) ?_
            obtain ⟨u24, r24, hc24, hf⟩ := bnd_some hf
            refine mS_i (As := [.long r22]) (rest := []) C0 hP hD hS (c_M_valueOf N hM hc24) k_M_valueOf hl_M_valueOf ht_M_valueOf hini_M rfl rfl hd_M_valueOf rfl (rm_M_otherRun_M_valueOf hR) hl.1 (Nat.le_of_ble_eq_true rfl) d_M_otherRun_144 rfl ⟨Nat.zero_le _, Nat.zero_le _⟩ (fun H locs hP hD hS => ?_)
            refine lv_lload_n hx hb d_M_otherRun_147 rfl (lv_at hl 0 rfl) ?_
            obtain ⟨u25, r25, hc25, hf⟩ := bnd_some hf
            refine mS_i (As := [.long r22]) (rest := [.int r24]) C0 hP hD hS (c_M_valueOf N hM hc25) k_M_valueOf hl_M_valueOf ht_M_valueOf hini_M rfl rfl hd_M_valueOf rfl (rm_M_otherRun_M_valueOf hR) hl.1 (Nat.le_of_ble_eq_true rfl) d_M_otherRun_148 rfl ⟨Nat.zero_le _, Nat.zero_le _⟩ (fun H locs hP hD hS => ?_)
            refine lv_ineg hx hb d_M_otherRun_151 ?_
            refine lv_icmp_ne (tgt := 171) hx hb d_M_otherRun_152 (by decide) (fun hc => ?_) (fun hc => ?_)
            · rw [br_n _ hc] at hf
              exact wb_M_otherRun_171 C0 hR N G hG _ _ _ hf H locs hP hD hS ls (lv_sub hl [1, 0] rfl)
            · rw [br_p _ hc] at hf
              refine lv_lload_n hx hb d_M_otherRun_155 rfl (lv_at hl 0 rfl) ?_
              obtain ⟨u26, r26, hc26, hf⟩ := bnd_some hf
              refine mS_i (As := [.long r22]) (rest := []) C0 hP hD hS (c_M_valueOf N hM hc26) k_M_valueOf hl_M_valueOf ht_M_valueOf hini_M rfl rfl hd_M_valueOf rfl (rm_M_otherRun_M_valueOf hR) hl.1 (Nat.le_of_ble_eq_true rfl) d_M_otherRun_156 rfl ⟨Nat.zero_le _, Nat.zero_le _⟩ (fun H locs hP hD hS => ?_)
              refine lv_if_eq (tgt := 171) hx hb d_M_otherRun_159 (by decide) (fun hc => ?_) (fun hc => ?_)
              · rw [br_p _ hc] at hf
                exact wb_M_otherRun_171 C0 hR N G hG _ _ _ hf H locs hP hD hS ls (lv_sub hl [1, 0] rfl)
              · rw [br_n _ hc] at hf
                exact wb_M_otherRun_162 C0 hR N G hG _ _ hf H locs hP hD hS ls (lv_sub hl [1] rfl)
      · rw [br_p _ hc] at hf
        refine lv_aload_n hx hb d_M_otherRun_80 rfl (lv_at hl 0 rfl) ?_
        obtain ⟨u27, r27, hc27, hf⟩ := bnd_some hf
        refine mV_l (As := []) (rest := []) C0 hP hD hS (c_M_take N hM hc27) k_M_take hl_M_take hi_M_take hs_M_take hini_M rfl rfl hd_M_take rfl (rm_M_otherRun_M_take hR) hl.1 (Nat.le_of_ble_eq_true rfl) d_M_otherRun_81 rfl ⟨Nat.zero_le _, Nat.zero_le _⟩ (fun H locs hP hD hS => ?_)
        refine lv_lstore_n (lv' := [(3, .long r27), (0, .ref h0), (1, .int v1), (2, .int v2)]) hx hb d_M_otherRun_84 rfl hl (by decide) rfl (fun ls hl => ?_)
        refine lv_lload_n hx hb d_M_otherRun_85 rfl (lv_at hl 0 rfl) ?_
        obtain ⟨u28, r28, hc28, hf⟩ := bnd_some hf
        refine mS_i (As := [.long r27]) (rest := []) C0 hP hD hS (c_M_isTruth N hM hc28) k_M_isTruth hl_M_isTruth ht_M_isTruth hini_M rfl rfl hd_M_isTruth rfl (rm_M_otherRun_M_isTruth hR) hl.1 (Nat.le_of_ble_eq_true rfl) d_M_otherRun_86 rfl ⟨Nat.zero_le _, Nat.zero_le _⟩ (fun H locs hP hD hS => ?_)
        refine lv_if_eq (tgt := 116) hx hb d_M_otherRun_89 (by decide) (fun hc => ?_) (fun hc => ?_)
        · rw [br_p _ hc] at hf
          refine lv_aload_n hx hb d_M_otherRun_116 rfl (lv_at hl 1 rfl) ?_
          refine lv_bipush (v := 11) hx hb d_M_otherRun_117 (by decide) ?_
          obtain ⟨u29, r29, hc29, hf⟩ := bnd_some hf
          refine mV_v (As := [.int 11]) (rest := []) C0 hP hD hS (c_M_error N hM hc29) k_M_error hl_M_error hi_M_error hs_M_error hini_M rfl rfl hd_M_error rfl (rm_M_otherRun_M_error hR) hl.1 (Nat.le_of_ble_eq_true rfl) d_M_otherRun_119 rfl ⟨Nat.zero_le _, Nat.zero_le _⟩ (fun H locs hP hD hS => ?_)
          exact wb_M_otherRun_122 C0 hR N G hG _ _ hf H locs hP hD hS ls (lv_sub hl [] rfl)
        · rw [br_n _ hc] at hf
          refine lv_aload_n hx hb d_M_otherRun_92 rfl (lv_at hl 1 rfl) ?_
          refine lv_lload_n hx hb d_M_otherRun_93 rfl (lv_at hl 0 rfl) ?_
          refine lv_iconst (v := 0) hx hb d_M_otherRun_94 (by decide) ?_
          obtain ⟨u30, r30, hc30, hf⟩ := bnd_some hf
          refine mS_l (As := [.int 0]) (rest := [.long r27, .ref h0]) C0 hP hD hS (c_M_truth N hM hc30) k_M_truth hl_M_truth ht_M_truth hini_M rfl rfl hd_M_truth rfl (rm_M_otherRun_M_truth hR) hl.1 (Nat.le_of_ble_eq_true rfl) d_M_otherRun_95 rfl ⟨Nat.zero_le _, Nat.zero_le _⟩ (fun H locs hP hD hS => ?_)
          refine W.lcmp hx hb d_M_otherRun_98 ?_
          refine lv_if_ne (tgt := 106) hx hb d_M_otherRun_99 (by decide) (fun hc => ?_) (fun hc => ?_)
          · rw [br_n _ hc] at hf
            refine lv_iconst (v := 0) hx hb d_M_otherRun_106 (by decide) ?_
            exact wb_M_otherRun_107 C0 hR N G hG _ _ _ hf H locs hP hD hS ls (lv_sub hl [] rfl)
          · rw [br_p _ hc] at hf
            refine lv_iconst (v := 1) hx hb d_M_otherRun_102 (by decide) ?_
            refine lv_goto (tgt := 107) hx hb d_M_otherRun_103 (by decide) ?_
            exact wb_M_otherRun_107 C0 hR N G hG _ _ _ hf H locs hP hD hS ls (lv_sub hl [] rfl)
    · rw [br_p _ hc] at hf
      exact wb_M_otherRun_12 C0 hR N G hG _ _ _ _ hf H locs hP hD hS ls (lv_sub hl [0, 1, 2] rfl)
def fm_M_otherRun (N : Nat) (u : MS) (v1 : Int32) (v2 : Int32) : Option (MS × Unit) := fb_M_otherRun_0 N () u v1 v2
set_option maxRecDepth 100000 in
set_option maxHeartbeats 4000000 in
theorem c_M_otherRun (N : Nat) {l : Launch} {D : va_G} {cl : List vw_C} {cB cI cJ cZ cS : ClassId} {iM h0 : Nat} {ad : Nat → Nat} {u : MS} {sz : Nat} {v1 : Int32} {v2 : Int32} {x : MS × Unit} (hM : cl[iM]? = some (R_M, F_M, 171)) (hf : fm_M_otherRun N u v1 v2 = some x) : Met l y_M_otherRun (wd_ws y_M_otherRun b_M_otherRun 5 none) rm_M_otherRun (mPc D cl cB cI cJ cZ cS iM h0 ad u sz [.ref h0, .int v1, .int v2]) (mQv D cl cB cI cJ cZ cS iM h0 ad (mA cB cI cJ cZ cS iM h0 ad u sz) x) 0 0 (mA cB cI cJ cZ cS iM h0 ad u sz) :=
  mMet (by decide) rfl hM (Nat.le_of_ble_eq_true rfl) (fun p e s m below meth c ls hsz C0 hP hD hS hl => by
    have hR : rm_M_otherRun = rm_M_otherRun := rfl
    exact wb_M_otherRun_0 C0 hR N () trivial u _ _ x hf s.heap [] hP hD hS ls (lv_sub hl [0, 1, 2] rfl))
abbrev b_M_one : ByteArray := prog_14_method_131_code
def y_M_one : MethodName := ⟨R_M, "one", "(II)V"⟩
def w_M_one : List Cond := wd_ws y_M_one b_M_one 5 none
set_option maxRecDepth 100000 in
theorem k_M_one : Cond.code y_M_one b_M_one 5 none ∈ wd_tbl := wd_of 3066 rfl rfl
theorem d_M_one_0 : decode b_M_one 0 = .ok (.iload_n 2, 1) := by decide +kernel
theorem d_M_one_1 : decode b_M_one 1 = .ok (.bipush 12, 2) := by decide +kernel
theorem d_M_one_3 : decode b_M_one 3 = .ok (.if_icmp .eq 9, 3) := by decide +kernel
theorem d_M_one_6 : decode b_M_one 6 = .ok (.iload_n 2, 1) := by decide +kernel
theorem d_M_one_7 : decode b_M_one 7 = .ok (.bipush 13, 2) := by decide +kernel
theorem d_M_one_9 : decode b_M_one 9 = .ok (.if_icmp .ne 10, 3) := by decide +kernel
theorem d_M_one_12 : decode b_M_one 12 = .ok (.aload_n 0, 1) := by decide +kernel
theorem d_M_one_13 : decode b_M_one 13 = .ok (.iload_n 1, 1) := by decide +kernel
theorem d_M_one_14 : decode b_M_one 14 = .ok (.iload_n 2, 1) := by decide +kernel
theorem d_M_one_15 : decode b_M_one 15 = .ok (.invokevirtual 910, 3) := by decide +kernel
theorem d_M_one_18 : decode b_M_one 18 = .ok (.return_, 1) := by decide +kernel
theorem d_M_one_19 : decode b_M_one 19 = .ok (.iload_n 2, 1) := by decide +kernel
theorem d_M_one_20 : decode b_M_one 20 = .ok (.bipush 27, 2) := by decide +kernel
theorem d_M_one_22 : decode b_M_one 22 = .ok (.if_icmp .ne 41, 3) := by decide +kernel
theorem d_M_one_25 : decode b_M_one 25 = .ok (.aload_n 0, 1) := by decide +kernel
theorem d_M_one_26 : decode b_M_one 26 = .ok (.getfield 258, 3) := by decide +kernel
theorem d_M_one_29 : decode b_M_one 29 = .ok (.aload_n 0, 1) := by decide +kernel
theorem d_M_one_30 : decode b_M_one 30 = .ok (.getfield 669, 3) := by decide +kernel
theorem d_M_one_33 : decode b_M_one 33 = .ok (.iconst 0, 1) := by decide +kernel
theorem d_M_one_34 : decode b_M_one 34 = .ok (.iastore, 1) := by decide +kernel
theorem d_M_one_35 : decode b_M_one 35 = .ok (.aload_n 0, 1) := by decide +kernel
theorem d_M_one_36 : decode b_M_one 36 = .ok (.getfield 82, 3) := by decide +kernel
theorem d_M_one_39 : decode b_M_one 39 = .ok (.iload_n 1, 1) := by decide +kernel
theorem d_M_one_40 : decode b_M_one 40 = .ok (.iaload, 1) := by decide +kernel
theorem d_M_one_41 : decode b_M_one 41 = .ok (.iconst (-1), 1) := by decide +kernel
theorem d_M_one_42 : decode b_M_one 42 = .ok (.if_icmp .ne 15, 3) := by decide +kernel
theorem d_M_one_45 : decode b_M_one 45 = .ok (.aload_n 0, 1) := by decide +kernel
theorem d_M_one_46 : decode b_M_one 46 = .ok (.getfield 261, 3) := by decide +kernel
theorem d_M_one_49 : decode b_M_one 49 = .ok (.aload_n 0, 1) := by decide +kernel
theorem d_M_one_50 : decode b_M_one 50 = .ok (.getfield 669, 3) := by decide +kernel
theorem d_M_one_53 : decode b_M_one 53 = .ok (.ldc2_w 913, 3) := by decide +kernel
theorem d_M_one_56 : decode b_M_one 56 = .ok (.lastore, 1) := by decide +kernel
theorem d_M_one_57 : decode b_M_one 57 = .ok (.aload_n 0, 1) := by decide +kernel
theorem d_M_one_58 : decode b_M_one 58 = .ok (.iload_n 1, 1) := by decide +kernel
theorem d_M_one_59 : decode b_M_one 59 = .ok (.invokevirtual 895, 3) := by decide +kernel
theorem d_M_one_62 : decode b_M_one 62 = .ok (.return_, 1) := by decide +kernel
theorem d_M_one_63 : decode b_M_one 63 = .ok (.iload_n 2, 1) := by decide +kernel
theorem d_M_one_64 : decode b_M_one 64 = .ok (.bipush 21, 2) := by decide +kernel
theorem d_M_one_66 : decode b_M_one 66 = .ok (.if_icmp .eq 9, 3) := by decide +kernel
theorem d_M_one_69 : decode b_M_one 69 = .ok (.iload_n 2, 1) := by decide +kernel
theorem d_M_one_70 : decode b_M_one 70 = .ok (.bipush 31, 2) := by decide +kernel
theorem d_M_one_72 : decode b_M_one 72 = .ok (.if_icmp .ne 50, 3) := by decide +kernel
theorem d_M_one_75 : decode b_M_one 75 = .ok (.aload_n 0, 1) := by decide +kernel
theorem d_M_one_76 : decode b_M_one 76 = .ok (.invokevirtual 673, 3) := by decide +kernel
theorem d_M_one_79 : decode b_M_one 79 = .ok (.istore_n 3, 1) := by decide +kernel
theorem d_M_one_80 : decode b_M_one 80 = .ok (.aload_n 0, 1) := by decide +kernel
theorem d_M_one_81 : decode b_M_one 81 = .ok (.iload_n 2, 1) := by decide +kernel
theorem d_M_one_82 : decode b_M_one 82 = .ok (.bipush 21, 2) := by decide +kernel
theorem d_M_one_84 : decode b_M_one 84 = .ok (.if_icmp .ne 7, 3) := by decide +kernel
theorem d_M_one_87 : decode b_M_one 87 = .ok (.iconst 1, 1) := by decide +kernel
theorem d_M_one_88 : decode b_M_one 88 = .ok (.goto 4, 3) := by decide +kernel
theorem d_M_one_91 : decode b_M_one 91 = .ok (.iconst 2, 1) := by decide +kernel
theorem d_M_one_92 : decode b_M_one 92 = .ok (.aload_n 0, 1) := by decide +kernel
theorem d_M_one_93 : decode b_M_one 93 = .ok (.getfield 63, 3) := by decide +kernel
theorem d_M_one_96 : decode b_M_one 96 = .ok (.iload_n 1, 1) := by decide +kernel
theorem d_M_one_97 : decode b_M_one 97 = .ok (.iaload, 1) := by decide +kernel
theorem d_M_one_98 : decode b_M_one 98 = .ok (.aload_n 0, 1) := by decide +kernel
theorem d_M_one_99 : decode b_M_one 99 = .ok (.getfield 224, 3) := by decide +kernel
theorem d_M_one_102 : decode b_M_one 102 = .ok (.iload_n 3, 1) := by decide +kernel
theorem d_M_one_103 : decode b_M_one 103 = .ok (.iaload, 1) := by decide +kernel
theorem d_M_one_104 : decode b_M_one 104 = .ok (.aload_n 0, 1) := by decide +kernel
theorem d_M_one_105 : decode b_M_one 105 = .ok (.getfield 230, 3) := by decide +kernel
theorem d_M_one_108 : decode b_M_one 108 = .ok (.iload_n 3, 1) := by decide +kernel
theorem d_M_one_109 : decode b_M_one 109 = .ok (.iaload, 1) := by decide +kernel
theorem d_M_one_110 : decode b_M_one 110 = .ok (.iadd, 1) := by decide +kernel
theorem d_M_one_111 : decode b_M_one 111 = .ok (.aload_n 0, 1) := by decide +kernel
theorem d_M_one_112 : decode b_M_one 112 = .ok (.getfield 69, 3) := by decide +kernel
theorem d_M_one_115 : decode b_M_one 115 = .ok (.iload_n 1, 1) := by decide +kernel
theorem d_M_one_116 : decode b_M_one 116 = .ok (.iaload, 1) := by decide +kernel
theorem d_M_one_117 : decode b_M_one 117 = .ok (.iadd, 1) := by decide +kernel
theorem d_M_one_118 : decode b_M_one 118 = .ok (.invokevirtual 876, 3) := by decide +kernel
theorem d_M_one_121 : decode b_M_one 121 = .ok (.return_, 1) := by decide +kernel
theorem d_M_one_122 : decode b_M_one 122 = .ok (.iload_n 2, 1) := by decide +kernel
theorem d_M_one_123 : decode b_M_one 123 = .ok (.bipush 29, 2) := by decide +kernel
theorem d_M_one_125 : decode b_M_one 125 = .ok (.if_icmp .ne 8, 3) := by decide +kernel
theorem d_M_one_128 : decode b_M_one 128 = .ok (.aload_n 0, 1) := by decide +kernel
theorem d_M_one_129 : decode b_M_one 129 = .ok (.invokevirtual 915, 3) := by decide +kernel
theorem d_M_one_132 : decode b_M_one 132 = .ok (.return_, 1) := by decide +kernel
theorem d_M_one_133 : decode b_M_one 133 = .ok (.aload_n 0, 1) := by decide +kernel
theorem d_M_one_134 : decode b_M_one 134 = .ok (.iload_n 1, 1) := by decide +kernel
theorem d_M_one_135 : decode b_M_one 135 = .ok (.iconst 1, 1) := by decide +kernel
theorem d_M_one_136 : decode b_M_one 136 = .ok (.iadd, 1) := by decide +kernel
theorem d_M_one_137 : decode b_M_one 137 = .ok (.invokevirtual 811, 3) := by decide +kernel
theorem d_M_one_140 : decode b_M_one 140 = .ok (.iload_n 2, 1) := by decide +kernel
theorem d_M_one_141 : decode b_M_one 141 = .ok (.iconst 1, 1) := by decide +kernel
theorem d_M_one_142 : decode b_M_one 142 = .ok (.if_icmp .ne 25, 3) := by decide +kernel
theorem d_M_one_145 : decode b_M_one 145 = .ok (.aload_n 0, 1) := by decide +kernel
theorem d_M_one_146 : decode b_M_one 146 = .ok (.aload_n 0, 1) := by decide +kernel
theorem d_M_one_147 : decode b_M_one 147 = .ok (.getfield 63, 3) := by decide +kernel
theorem d_M_one_150 : decode b_M_one 150 = .ok (.iload_n 1, 1) := by decide +kernel
theorem d_M_one_151 : decode b_M_one 151 = .ok (.iaload, 1) := by decide +kernel
theorem d_M_one_152 : decode b_M_one 152 = .ok (.aload_n 0, 1) := by decide +kernel
theorem d_M_one_153 : decode b_M_one 153 = .ok (.getfield 66, 3) := by decide +kernel
theorem d_M_one_156 : decode b_M_one 156 = .ok (.iload_n 1, 1) := by decide +kernel
theorem d_M_one_157 : decode b_M_one 157 = .ok (.iaload, 1) := by decide +kernel
theorem d_M_one_158 : decode b_M_one 158 = .ok (.invokestatic 315, 3) := by decide +kernel
theorem d_M_one_161 : decode b_M_one 161 = .ok (.invokevirtual 801, 3) := by decide +kernel
theorem d_M_one_164 : decode b_M_one 164 = .ok (.goto 304, 3) := by decide +kernel
theorem d_M_one_167 : decode b_M_one 167 = .ok (.iload_n 2, 1) := by decide +kernel
theorem d_M_one_168 : decode b_M_one 168 = .ok (.iconst 3, 1) := by decide +kernel
theorem d_M_one_169 : decode b_M_one 169 = .ok (.if_icmp .ne 20, 3) := by decide +kernel
theorem d_M_one_172 : decode b_M_one 172 = .ok (.aload_n 0, 1) := by decide +kernel
theorem d_M_one_173 : decode b_M_one 173 = .ok (.aload_n 0, 1) := by decide +kernel
theorem d_M_one_174 : decode b_M_one 174 = .ok (.aload_n 0, 1) := by decide +kernel
theorem d_M_one_175 : decode b_M_one 175 = .ok (.getfield 63, 3) := by decide +kernel
theorem d_M_one_178 : decode b_M_one 178 = .ok (.iload_n 1, 1) := by decide +kernel
theorem d_M_one_179 : decode b_M_one 179 = .ok (.iaload, 1) := by decide +kernel
theorem d_M_one_180 : decode b_M_one 180 = .ok (.invokevirtual 864, 3) := by decide +kernel
theorem d_M_one_183 : decode b_M_one 183 = .ok (.invokevirtual 801, 3) := by decide +kernel
theorem d_M_one_186 : decode b_M_one 186 = .ok (.goto 282, 3) := by decide +kernel
theorem d_M_one_189 : decode b_M_one 189 = .ok (.iload_n 2, 1) := by decide +kernel
theorem d_M_one_190 : decode b_M_one 190 = .ok (.iconst 2, 1) := by decide +kernel
theorem d_M_one_191 : decode b_M_one 191 = .ok (.if_icmp .ne 16, 3) := by decide +kernel
theorem d_M_one_194 : decode b_M_one 194 = .ok (.aload_n 0, 1) := by decide +kernel
theorem d_M_one_195 : decode b_M_one 195 = .ok (.aload_n 0, 1) := by decide +kernel
theorem d_M_one_196 : decode b_M_one 196 = .ok (.getfield 63, 3) := by decide +kernel
theorem d_M_one_199 : decode b_M_one 199 = .ok (.iload_n 1, 1) := by decide +kernel
theorem d_M_one_200 : decode b_M_one 200 = .ok (.iaload, 1) := by decide +kernel
theorem d_M_one_201 : decode b_M_one 201 = .ok (.invokevirtual 918, 3) := by decide +kernel
theorem d_M_one_204 : decode b_M_one 204 = .ok (.goto 264, 3) := by decide +kernel
theorem d_M_one_207 : decode b_M_one 207 = .ok (.iload_n 2, 1) := by decide +kernel
theorem d_M_one_208 : decode b_M_one 208 = .ok (.iconst 4, 1) := by decide +kernel
theorem d_M_one_209 : decode b_M_one 209 = .ok (.if_icmp .ne 16, 3) := by decide +kernel
theorem d_M_one_212 : decode b_M_one 212 = .ok (.aload_n 0, 1) := by decide +kernel
theorem d_M_one_213 : decode b_M_one 213 = .ok (.aload_n 0, 1) := by decide +kernel
theorem d_M_one_214 : decode b_M_one 214 = .ok (.getfield 63, 3) := by decide +kernel
theorem d_M_one_217 : decode b_M_one 217 = .ok (.iload_n 1, 1) := by decide +kernel
theorem d_M_one_218 : decode b_M_one 218 = .ok (.iaload, 1) := by decide +kernel
theorem d_M_one_219 : decode b_M_one 219 = .ok (.invokevirtual 921, 3) := by decide +kernel
theorem d_M_one_222 : decode b_M_one 222 = .ok (.goto 246, 3) := by decide +kernel
theorem d_M_one_225 : decode b_M_one 225 = .ok (.iload_n 2, 1) := by decide +kernel
theorem d_M_one_226 : decode b_M_one 226 = .ok (.iconst 5, 1) := by decide +kernel
theorem d_M_one_227 : decode b_M_one 227 = .ok (.if_icmp .ne 22, 3) := by decide +kernel
theorem d_M_one_230 : decode b_M_one 230 = .ok (.aload_n 0, 1) := by decide +kernel
theorem d_M_one_231 : decode b_M_one 231 = .ok (.aload_n 0, 1) := by decide +kernel
theorem d_M_one_232 : decode b_M_one 232 = .ok (.getfield 63, 3) := by decide +kernel
theorem d_M_one_235 : decode b_M_one 235 = .ok (.iload_n 1, 1) := by decide +kernel
theorem d_M_one_236 : decode b_M_one 236 = .ok (.iaload, 1) := by decide +kernel
theorem d_M_one_237 : decode b_M_one 237 = .ok (.aload_n 0, 1) := by decide +kernel
theorem d_M_one_238 : decode b_M_one 238 = .ok (.getfield 66, 3) := by decide +kernel
theorem d_M_one_241 : decode b_M_one 241 = .ok (.iload_n 1, 1) := by decide +kernel
theorem d_M_one_242 : decode b_M_one 242 = .ok (.iaload, 1) := by decide +kernel
theorem d_M_one_243 : decode b_M_one 243 = .ok (.invokevirtual 924, 3) := by decide +kernel
theorem d_M_one_246 : decode b_M_one 246 = .ok (.goto 222, 3) := by decide +kernel
theorem d_M_one_249 : decode b_M_one 249 = .ok (.iload_n 2, 1) := by decide +kernel
theorem d_M_one_250 : decode b_M_one 250 = .ok (.bipush 6, 2) := by decide +kernel
theorem d_M_one_252 : decode b_M_one 252 = .ok (.if_icmp .ne 16, 3) := by decide +kernel
theorem d_M_one_255 : decode b_M_one 255 = .ok (.aload_n 0, 1) := by decide +kernel
theorem d_M_one_256 : decode b_M_one 256 = .ok (.aload_n 0, 1) := by decide +kernel
theorem d_M_one_257 : decode b_M_one 257 = .ok (.getfield 63, 3) := by decide +kernel
theorem d_M_one_260 : decode b_M_one 260 = .ok (.iload_n 1, 1) := by decide +kernel
theorem d_M_one_261 : decode b_M_one 261 = .ok (.iaload, 1) := by decide +kernel
theorem d_M_one_262 : decode b_M_one 262 = .ok (.invokevirtual 927, 3) := by decide +kernel
theorem d_M_one_265 : decode b_M_one 265 = .ok (.goto 203, 3) := by decide +kernel
theorem d_M_one_268 : decode b_M_one 268 = .ok (.iload_n 2, 1) := by decide +kernel
theorem d_M_one_269 : decode b_M_one 269 = .ok (.bipush 17, 2) := by decide +kernel
theorem d_M_one_271 : decode b_M_one 271 = .ok (.if_icmp .ne 11, 3) := by decide +kernel
theorem d_M_one_274 : decode b_M_one 274 = .ok (.aload_n 0, 1) := by decide +kernel
theorem d_M_one_275 : decode b_M_one 275 = .ok (.invokevirtual 930, 3) := by decide +kernel
theorem d_M_one_278 : decode b_M_one 278 = .ok (.lstore_n 3, 1) := by decide +kernel
theorem d_M_one_279 : decode b_M_one 279 = .ok (.goto 189, 3) := by decide +kernel
theorem d_M_one_282 : decode b_M_one 282 = .ok (.iload_n 2, 1) := by decide +kernel
theorem d_M_one_283 : decode b_M_one 283 = .ok (.bipush 18, 2) := by decide +kernel
theorem d_M_one_285 : decode b_M_one 285 = .ok (.if_icmp .ne 16, 3) := by decide +kernel
theorem d_M_one_288 : decode b_M_one 288 = .ok (.aload_n 0, 1) := by decide +kernel
theorem d_M_one_289 : decode b_M_one 289 = .ok (.aload_n 0, 1) := by decide +kernel
theorem d_M_one_290 : decode b_M_one 290 = .ok (.getfield 63, 3) := by decide +kernel
theorem d_M_one_293 : decode b_M_one 293 = .ok (.iload_n 1, 1) := by decide +kernel
theorem d_M_one_294 : decode b_M_one 294 = .ok (.iaload, 1) := by decide +kernel
theorem d_M_one_295 : decode b_M_one 295 = .ok (.invokevirtual 934, 3) := by decide +kernel
theorem d_M_one_298 : decode b_M_one 298 = .ok (.goto 170, 3) := by decide +kernel
theorem d_M_one_301 : decode b_M_one 301 = .ok (.iload_n 2, 1) := by decide +kernel
theorem d_M_one_302 : decode b_M_one 302 = .ok (.bipush 26, 2) := by decide +kernel
theorem d_M_one_304 : decode b_M_one 304 = .ok (.if_icmp .ne 41, 3) := by decide +kernel
theorem d_M_one_307 : decode b_M_one 307 = .ok (.aload_n 0, 1) := by decide +kernel
theorem d_M_one_308 : decode b_M_one 308 = .ok (.aload_n 0, 1) := by decide +kernel
theorem d_M_one_309 : decode b_M_one 309 = .ok (.getfield 63, 3) := by decide +kernel
theorem d_M_one_312 : decode b_M_one 312 = .ok (.iload_n 1, 1) := by decide +kernel
theorem d_M_one_313 : decode b_M_one 313 = .ok (.iaload, 1) := by decide +kernel
theorem d_M_one_314 : decode b_M_one 314 = .ok (.bipush (-2), 2) := by decide +kernel
theorem d_M_one_316 : decode b_M_one 316 = .ok (.if_icmp .ne 17, 3) := by decide +kernel
theorem d_M_one_319 : decode b_M_one 319 = .ok (.aload_n 0, 1) := by decide +kernel
theorem d_M_one_320 : decode b_M_one 320 = .ok (.getfield 66, 3) := by decide +kernel
theorem d_M_one_323 : decode b_M_one 323 = .ok (.aload_n 0, 1) := by decide +kernel
theorem d_M_one_324 : decode b_M_one 324 = .ok (.getfield 66, 3) := by decide +kernel
theorem d_M_one_327 : decode b_M_one 327 = .ok (.iload_n 1, 1) := by decide +kernel
theorem d_M_one_328 : decode b_M_one 328 = .ok (.iaload, 1) := by decide +kernel
theorem d_M_one_329 : decode b_M_one 329 = .ok (.iaload, 1) := by decide +kernel
theorem d_M_one_330 : decode b_M_one 330 = .ok (.goto 9, 3) := by decide +kernel
theorem d_M_one_333 : decode b_M_one 333 = .ok (.aload_n 0, 1) := by decide +kernel
theorem d_M_one_334 : decode b_M_one 334 = .ok (.getfield 63, 3) := by decide +kernel
theorem d_M_one_337 : decode b_M_one 337 = .ok (.iload_n 1, 1) := by decide +kernel
theorem d_M_one_338 : decode b_M_one 338 = .ok (.iaload, 1) := by decide +kernel
theorem d_M_one_339 : decode b_M_one 339 = .ok (.invokevirtual 811, 3) := by decide +kernel
theorem d_M_one_342 : decode b_M_one 342 = .ok (.goto 126, 3) := by decide +kernel
theorem d_M_one_345 : decode b_M_one 345 = .ok (.iload_n 2, 1) := by decide +kernel
theorem d_M_one_346 : decode b_M_one 346 = .ok (.bipush 16, 2) := by decide +kernel
theorem d_M_one_348 : decode b_M_one 348 = .ok (.if_icmp .ne 55, 3) := by decide +kernel
theorem d_M_one_351 : decode b_M_one 351 = .ok (.aload_n 0, 1) := by decide +kernel
theorem d_M_one_352 : decode b_M_one 352 = .ok (.getfield 209, 3) := by decide +kernel
theorem d_M_one_355 : decode b_M_one 355 = .ok (.aload_n 0, 1) := by decide +kernel
theorem d_M_one_356 : decode b_M_one 356 = .ok (.getfield 669, 3) := by decide +kernel
theorem d_M_one_359 : decode b_M_one 359 = .ok (.iaload, 1) := by decide +kernel
theorem d_M_one_360 : decode b_M_one 360 = .ok (.istore_n 3, 1) := by decide +kernel
theorem d_M_one_361 : decode b_M_one 361 = .ok (.aload_n 0, 1) := by decide +kernel
theorem d_M_one_362 : decode b_M_one 362 = .ok (.aload_n 0, 1) := by decide +kernel
theorem d_M_one_363 : decode b_M_one 363 = .ok (.getfield 63, 3) := by decide +kernel
theorem d_M_one_366 : decode b_M_one 366 = .ok (.iload_n 1, 1) := by decide +kernel
theorem d_M_one_367 : decode b_M_one 367 = .ok (.iaload, 1) := by decide +kernel
theorem d_M_one_368 : decode b_M_one 368 = .ok (.aload_n 0, 1) := by decide +kernel
theorem d_M_one_369 : decode b_M_one 369 = .ok (.iconst 0, 1) := by decide +kernel
theorem d_M_one_370 : decode b_M_one 370 = .ok (.invokevirtual 848, 3) := by decide +kernel
theorem d_M_one_373 : decode b_M_one 373 = .ok (.invokevirtual 844, 3) := by decide +kernel
theorem d_M_one_376 : decode b_M_one 376 = .ok (.ifCond .ne 24, 3) := by decide +kernel
theorem d_M_one_379 : decode b_M_one 379 = .ok (.aload_n 0, 1) := by decide +kernel
theorem d_M_one_380 : decode b_M_one 380 = .ok (.getfield 209, 3) := by decide +kernel
theorem d_M_one_383 : decode b_M_one 383 = .ok (.aload_n 0, 1) := by decide +kernel
theorem d_M_one_384 : decode b_M_one 384 = .ok (.getfield 669, 3) := by decide +kernel
theorem d_M_one_387 : decode b_M_one 387 = .ok (.iload_n 3, 1) := by decide +kernel
theorem d_M_one_388 : decode b_M_one 388 = .ok (.iastore, 1) := by decide +kernel
theorem d_M_one_389 : decode b_M_one 389 = .ok (.aload_n 0, 1) := by decide +kernel
theorem d_M_one_390 : decode b_M_one 390 = .ok (.bipush 13, 2) := by decide +kernel
theorem d_M_one_392 : decode b_M_one 392 = .ok (.aload_n 0, 1) := by decide +kernel
theorem d_M_one_393 : decode b_M_one 393 = .ok (.iconst 0, 1) := by decide +kernel
theorem d_M_one_394 : decode b_M_one 394 = .ok (.invokevirtual 848, 3) := by decide +kernel
theorem d_M_one_397 : decode b_M_one 397 = .ok (.invokevirtual 858, 3) := by decide +kernel
theorem d_M_one_400 : decode b_M_one 400 = .ok (.goto 68, 3) := by decide +kernel
theorem d_M_one_403 : decode b_M_one 403 = .ok (.iload_n 2, 1) := by decide +kernel
theorem d_M_one_404 : decode b_M_one 404 = .ok (.bipush 14, 2) := by decide +kernel
theorem d_M_one_406 : decode b_M_one 406 = .ok (.if_icmp .eq 9, 3) := by decide +kernel
theorem d_M_one_409 : decode b_M_one 409 = .ok (.iload_n 2, 1) := by decide +kernel
theorem d_M_one_410 : decode b_M_one 410 = .ok (.bipush 15, 2) := by decide +kernel
theorem d_M_one_412 : decode b_M_one 412 = .ok (.if_icmp .ne 12, 3) := by decide +kernel
theorem d_M_one_415 : decode b_M_one 415 = .ok (.aload_n 0, 1) := by decide +kernel
theorem d_M_one_416 : decode b_M_one 416 = .ok (.iload_n 1, 1) := by decide +kernel
theorem d_M_one_417 : decode b_M_one 417 = .ok (.iload_n 2, 1) := by decide +kernel
theorem d_M_one_418 : decode b_M_one 418 = .ok (.invokevirtual 937, 3) := by decide +kernel
theorem d_M_one_421 : decode b_M_one 421 = .ok (.goto 47, 3) := by decide +kernel
theorem d_M_one_424 : decode b_M_one 424 = .ok (.iload_n 2, 1) := by decide +kernel
theorem d_M_one_425 : decode b_M_one 425 = .ok (.bipush 22, 2) := by decide +kernel
theorem d_M_one_427 : decode b_M_one 427 = .ok (.if_icmp .ne 22, 3) := by decide +kernel
theorem d_M_one_430 : decode b_M_one 430 = .ok (.aload_n 0, 1) := by decide +kernel
theorem d_M_one_431 : decode b_M_one 431 = .ok (.invokevirtual 930, 3) := by decide +kernel
theorem d_M_one_434 : decode b_M_one 434 = .ok (.iconst 1, 1) := by decide +kernel
theorem d_M_one_435 : decode b_M_one 435 = .ok (.invokestatic 940, 3) := by decide +kernel
theorem d_M_one_438 : decode b_M_one 438 = .ok (.lcmp, 1) := by decide +kernel
theorem d_M_one_439 : decode b_M_one 439 = .ok (.ifCond .eq 29, 3) := by decide +kernel
theorem d_M_one_442 : decode b_M_one 442 = .ok (.aload_n 0, 1) := by decide +kernel
theorem d_M_one_443 : decode b_M_one 443 = .ok (.invokevirtual 798, 3) := by decide +kernel
theorem d_M_one_446 : decode b_M_one 446 = .ok (.goto 22, 3) := by decide +kernel
theorem d_M_one_449 : decode b_M_one 449 = .ok (.iload_n 2, 1) := by decide +kernel
theorem d_M_one_450 : decode b_M_one 450 = .ok (.bipush 23, 2) := by decide +kernel
theorem d_M_one_452 : decode b_M_one 452 = .ok (.if_icmp .ne 10, 3) := by decide +kernel
theorem d_M_one_455 : decode b_M_one 455 = .ok (.aload_n 0, 1) := by decide +kernel
theorem d_M_one_456 : decode b_M_one 456 = .ok (.invokevirtual 835, 3) := by decide +kernel
theorem d_M_one_459 : decode b_M_one 459 = .ok (.goto 9, 3) := by decide +kernel
theorem d_M_one_462 : decode b_M_one 462 = .ok (.aload_n 0, 1) := by decide +kernel
theorem d_M_one_463 : decode b_M_one 463 = .ok (.iload_n 1, 1) := by decide +kernel
theorem d_M_one_464 : decode b_M_one 464 = .ok (.iload_n 2, 1) := by decide +kernel
theorem d_M_one_465 : decode b_M_one 465 = .ok (.invokevirtual 944, 3) := by decide +kernel
theorem d_M_one_468 : decode b_M_one 468 = .ok (.return_, 1) := by decide +kernel
set_option maxRecDepth 100000 in
theorem hl_M_one : Cond.methodLink R_M 898 y_M_one ∈ wd_tbl := wd_of 3063 (by decide +kernel) rfl
set_option maxRecDepth 100000 in
theorem hi_M_one : Cond.instanceMethod y_M_one ∈ wd_tbl := wd_of 3065 (by decide +kernel) rfl
set_option maxRecDepth 100000 in
theorem hs_M_one : Cond.selects R_M y_M_one y_M_one ∈ wd_tbl := wd_of 222 (by decide +kernel) rfl
theorem hd_M_one : y_M_one.cls = R_M ∧ y_M_one.cls ≠ "java/lang/invoke/MethodHandle" ∧ y_M_one.cls ≠ "java/lang/invoke/VarHandle" ∧ (parseMethodDescriptor y_M_one.desc).map (fun d => d.parameters.length) = some 2 := by decide +kernel
def rm_M_one : Room := { frames := 31, cells := 0, slots := 0, locals := 808 }
theorem rm_M_one_M_callRun {R : Room} (hR : R = rm_M_one) : (rm_M_callRun).frames + 1 ≤ R.frames ∧ 8 + (11 + 11) + (rm_M_callRun).locals ≤ R.locals := by subst hR; decide
theorem rm_M_one_M_goOnWith {R : Room} (hR : R = rm_M_one) : (rm_M_goOnWith).frames + 1 ≤ R.frames ∧ 8 + (3 + 11) + (rm_M_goOnWith).locals ≤ R.locals := by subst hR; decide
theorem rm_M_one_M_frame0 {R : Room} (hR : R = rm_M_one) : (rm_M_frame0).frames + 1 ≤ R.frames ∧ 8 + (1 + 11) + (rm_M_frame0).locals ≤ R.locals := by subst hR; decide
theorem rm_M_one_M_tryFrom {R : Room} (hR : R = rm_M_one) : (rm_M_tryFrom).frames + 1 ≤ R.frames ∧ 8 + (4 + 11) + (rm_M_tryFrom).locals ≤ R.locals := by subst hR; decide
theorem rm_M_one_M_returns {R : Room} (hR : R = rm_M_one) : (rm_M_returns).frames + 1 ≤ R.frames ∧ 8 + (4 + 11) + (rm_M_returns).locals ≤ R.locals := by subst hR; decide
theorem rm_M_one_M_goTo {R : Room} (hR : R = rm_M_one) : (rm_M_goTo).frames + 1 ≤ R.frames ∧ 8 + (2 + 11) + (rm_M_goTo).locals ≤ R.locals := by subst hR; decide
theorem rm_M_one_M_term {R : Room} (hR : R = rm_M_one) : (rm_M_term).frames + 1 ≤ R.frames ∧ 8 + (2 + 11) + (rm_M_term).locals ≤ R.locals := by subst hR; decide
theorem rm_M_one_M_put {R : Room} (hR : R = rm_M_one) : (rm_M_put).frames + 1 ≤ R.frames ∧ 8 + (3 + 11) + (rm_M_put).locals ≤ R.locals := by subst hR; decide
theorem rm_M_one_M_nameAt {R : Room} (hR : R = rm_M_one) : (rm_M_nameAt).frames + 1 ≤ R.frames ∧ 8 + (3 + 11) + (rm_M_nameAt).locals ≤ R.locals := by subst hR; decide
theorem rm_M_one_M_stringRun {R : Room} (hR : R = rm_M_one) : (rm_M_stringRun).frames + 1 ≤ R.frames ∧ 8 + (6 + 11) + (rm_M_stringRun).locals ≤ R.locals := by subst hR; decide
theorem rm_M_one_M_tupleRun {R : Room} (hR : R = rm_M_one) : (rm_M_tupleRun).frames + 1 ≤ R.frames ∧ 8 + (5 + 11) + (rm_M_tupleRun).locals ≤ R.locals := by subst hR; decide
theorem rm_M_one_M_listRun {R : Room} (hR : R = rm_M_one) : (rm_M_listRun).frames + 1 ≤ R.frames ∧ 8 + (9 + 11) + (rm_M_listRun).locals ≤ R.locals := by subst hR; decide
theorem rm_M_one_M_twoRun {R : Room} (hR : R = rm_M_one) : (rm_M_twoRun).frames + 1 ≤ R.frames ∧ 8 + (12 + 11) + (rm_M_twoRun).locals ≤ R.locals := by subst hR; decide
theorem rm_M_one_M_take {R : Room} (hR : R = rm_M_one) : (rm_M_take).frames + 1 ≤ R.frames ∧ 8 + (1 + 11) + (rm_M_take).locals ≤ R.locals := by subst hR; decide
theorem rm_M_one_M_namesTo {R : Room} (hR : R = rm_M_one) : (rm_M_namesTo).frames + 1 ≤ R.frames ∧ 8 + (3 + 11) + (rm_M_namesTo).locals ≤ R.locals := by subst hR; decide
theorem rm_M_one_M_top {R : Room} (hR : R = rm_M_one) : (rm_M_top).frames + 1 ≤ R.frames ∧ 8 + (2 + 11) + (rm_M_top).locals ≤ R.locals := by subst hR; decide
theorem rm_M_one_M_fits {R : Room} (hR : R = rm_M_one) : (rm_M_fits).frames + 1 ≤ R.frames ∧ 8 + (9 + 11) + (rm_M_fits).locals ≤ R.locals := by subst hR; decide
theorem rm_M_one_M_errorOf {R : Room} (hR : R = rm_M_one) : (rm_M_errorOf).frames + 1 ≤ R.frames ∧ 8 + (7 + 11) + (rm_M_errorOf).locals ≤ R.locals := by subst hR; decide
theorem rm_M_one_M_funRun {R : Room} (hR : R = rm_M_one) : (rm_M_funRun).frames + 1 ≤ R.frames ∧ 8 + (8 + 11) + (rm_M_funRun).locals ≤ R.locals := by subst hR; decide
theorem rm_M_one_M_truth {R : Room} (hR : R = rm_M_one) : (rm_M_truth).frames + 1 ≤ R.frames ∧ 8 + (1 + 11) + (rm_M_truth).locals ≤ R.locals := by subst hR; decide
theorem rm_M_one_M_guardFails {R : Room} (hR : R = rm_M_one) : (rm_M_guardFails).frames + 1 ≤ R.frames ∧ 8 + (1 + 11) + (rm_M_guardFails).locals ≤ R.locals := by subst hR; decide
theorem rm_M_one_M_chosen {R : Room} (hR : R = rm_M_one) : (rm_M_chosen).frames + 1 ≤ R.frames ∧ 8 + (2 + 11) + (rm_M_chosen).locals ≤ R.locals := by subst hR; decide
theorem rm_M_one_M_otherRun {R : Room} (hR : R = rm_M_one) : (rm_M_otherRun).frames + 1 ≤ R.frames ∧ 8 + (5 + 11) + (rm_M_otherRun).locals ≤ R.locals := by subst hR; decide
def fb_M_one_468 (N : Nat) (G : Unit) (u : MS) : Option (MS × Unit) := some (u, ())
set_option maxRecDepth 100000 in
set_option maxHeartbeats 4000000 in
theorem wb_M_one_468 {p : Program} {l : Launch} {e : Env} {R : Room} {s : State} {m : MethodId} {args : Array Value} {below : List Frame} {meth : Method} {c : Code} {D : va_G} {cl : List vw_C} {cB cI cJ cZ cS : ClassId} {A : Nat → Prop} {iM h0 : Nat} {ad : Nat → Nat} (C0 : MCx p s m args meth c b_M_one 5 none D cl cB cI cJ cZ cS iM A) (hR : R = rm_M_one) (N : Nat) (G : Unit) (hG : True) : ∀ (u : MS) (x : MS × Unit), fb_M_one_468 N G u = some x → ∀ (H : Heap) (locs : List Loc), va_P D cl (wM cB cI cJ cZ cS iM h0 ad u) H → va_D A (wM cB cI cJ cZ cS iM h0 ad u) → va_S A s.heap H locs → ∀ (ls : Array Slot), lv_has ls 5 [] → W p l e R s m args below meth c H locs 0 0 (MQ below (mQv D cl cB cI cJ cZ cS iM h0 ad A x) args s 0 0 A) (F0 m 468 ls []) := by
  intro u x hf H locs hP hD hS ls hl
  obtain ⟨hx, hb, hr, hml, ht, hown, hM, hK, hA, hlocks⟩ := id C0
  unfold fb_M_one_468 at hf
  exact mr_v C0 hP hD hS hf d_M_one_468
def fb_M_one_415 (N : Nat) (G : Unit) (u : MS) (v1 : Int32) (v2 : Int32) : Option (MS × Unit) := bnd (fm_M_funRun N u v1 v2) (fun u1 _ => fb_M_one_468 N G u1)
set_option maxRecDepth 100000 in
set_option maxHeartbeats 4000000 in
theorem wb_M_one_415 {p : Program} {l : Launch} {e : Env} {R : Room} {s : State} {m : MethodId} {args : Array Value} {below : List Frame} {meth : Method} {c : Code} {D : va_G} {cl : List vw_C} {cB cI cJ cZ cS : ClassId} {A : Nat → Prop} {iM h0 : Nat} {ad : Nat → Nat} (C0 : MCx p s m args meth c b_M_one 5 none D cl cB cI cJ cZ cS iM A) (hR : R = rm_M_one) (N : Nat) (G : Unit) (hG : True) : ∀ (u : MS) (v1 : Int32) (v2 : Int32) (x : MS × Unit), fb_M_one_415 N G u v1 v2 = some x → ∀ (H : Heap) (locs : List Loc), va_P D cl (wM cB cI cJ cZ cS iM h0 ad u) H → va_D A (wM cB cI cJ cZ cS iM h0 ad u) → va_S A s.heap H locs → ∀ (ls : Array Slot), lv_has ls 5 [(0, .ref h0), (1, .int v1), (2, .int v2)] → W p l e R s m args below meth c H locs 0 0 (MQ below (mQv D cl cB cI cJ cZ cS iM h0 ad A x) args s 0 0 A) (F0 m 415 ls []) := by
  intro u v1 v2 x hf H locs hP hD hS ls hl
  obtain ⟨hx, hb, hr, hml, ht, hown, hM, hK, hA, hlocks⟩ := id C0
  unfold fb_M_one_415 at hf
  refine lv_aload_n hx hb d_M_one_415 rfl (lv_at hl 0 rfl) ?_
  refine lv_iload_n hx hb d_M_one_416 rfl (lv_at hl 1 rfl) ?_
  refine lv_iload_n hx hb d_M_one_417 rfl (lv_at hl 2 rfl) ?_
  obtain ⟨u1, r1, hc1, hf⟩ := bnd_some hf
  refine mV_v (As := [.int v1, .int v2]) (rest := []) C0 hP hD hS (c_M_funRun N hM hc1) k_M_funRun hl_M_funRun hi_M_funRun hs_M_funRun hini_M rfl rfl hd_M_funRun rfl (rm_M_one_M_funRun hR) hl.1 (Nat.le_of_ble_eq_true rfl) d_M_one_418 rfl ⟨Nat.zero_le _, Nat.zero_le _⟩ (fun H locs hP hD hS => ?_)
  refine lv_goto (tgt := 468) hx hb d_M_one_421 (by decide) ?_
  exact wb_M_one_468 C0 hR N G hG _ _ hf H locs hP hD hS ls (lv_sub hl [] rfl)
def fb_M_one_400 (N : Nat) (G : Unit) (u : MS) : Option (MS × Unit) := fb_M_one_468 N G u
set_option maxRecDepth 100000 in
set_option maxHeartbeats 4000000 in
theorem wb_M_one_400 {p : Program} {l : Launch} {e : Env} {R : Room} {s : State} {m : MethodId} {args : Array Value} {below : List Frame} {meth : Method} {c : Code} {D : va_G} {cl : List vw_C} {cB cI cJ cZ cS : ClassId} {A : Nat → Prop} {iM h0 : Nat} {ad : Nat → Nat} (C0 : MCx p s m args meth c b_M_one 5 none D cl cB cI cJ cZ cS iM A) (hR : R = rm_M_one) (N : Nat) (G : Unit) (hG : True) : ∀ (u : MS) (x : MS × Unit), fb_M_one_400 N G u = some x → ∀ (H : Heap) (locs : List Loc), va_P D cl (wM cB cI cJ cZ cS iM h0 ad u) H → va_D A (wM cB cI cJ cZ cS iM h0 ad u) → va_S A s.heap H locs → ∀ (ls : Array Slot), lv_has ls 5 [] → W p l e R s m args below meth c H locs 0 0 (MQ below (mQv D cl cB cI cJ cZ cS iM h0 ad A x) args s 0 0 A) (F0 m 400 ls []) := by
  intro u x hf H locs hP hD hS ls hl
  obtain ⟨hx, hb, hr, hml, ht, hown, hM, hK, hA, hlocks⟩ := id C0
  unfold fb_M_one_400 at hf
  refine lv_goto (tgt := 468) hx hb d_M_one_400 (by decide) ?_
  exact wb_M_one_468 C0 hR N G hG _ _ hf H locs hP hD hS ls (lv_sub hl [] rfl)
def fb_M_one_339 (N : Nat) (G : Unit) (u : MS) (t1 : Int32) : Option (MS × Unit) := bnd (fm_M_goTo N u t1) (fun u2 _ => fb_M_one_468 N G u2)
set_option maxRecDepth 100000 in
set_option maxHeartbeats 4000000 in
theorem wb_M_one_339 {p : Program} {l : Launch} {e : Env} {R : Room} {s : State} {m : MethodId} {args : Array Value} {below : List Frame} {meth : Method} {c : Code} {D : va_G} {cl : List vw_C} {cB cI cJ cZ cS : ClassId} {A : Nat → Prop} {iM h0 : Nat} {ad : Nat → Nat} (C0 : MCx p s m args meth c b_M_one 5 none D cl cB cI cJ cZ cS iM A) (hR : R = rm_M_one) (N : Nat) (G : Unit) (hG : True) : ∀ (u : MS) (t1 : Int32) (x : MS × Unit), fb_M_one_339 N G u t1 = some x → ∀ (H : Heap) (locs : List Loc), va_P D cl (wM cB cI cJ cZ cS iM h0 ad u) H → va_D A (wM cB cI cJ cZ cS iM h0 ad u) → va_S A s.heap H locs → ∀ (ls : Array Slot), lv_has ls 5 [] → W p l e R s m args below meth c H locs 0 0 (MQ below (mQv D cl cB cI cJ cZ cS iM h0 ad A x) args s 0 0 A) (F0 m 339 ls [.int t1, .ref h0]) := by
  intro u t1 x hf H locs hP hD hS ls hl
  obtain ⟨hx, hb, hr, hml, ht, hown, hM, hK, hA, hlocks⟩ := id C0
  unfold fb_M_one_339 at hf
  obtain ⟨u2, r2, hc2, hf⟩ := bnd_some hf
  refine mV_v (As := [.int t1]) (rest := []) C0 hP hD hS (c_M_goTo N hM hc2) k_M_goTo hl_M_goTo hi_M_goTo hs_M_goTo hini_M rfl rfl hd_M_goTo rfl (rm_M_one_M_goTo hR) hl.1 (Nat.le_of_ble_eq_true rfl) d_M_one_339 rfl ⟨Nat.zero_le _, Nat.zero_le _⟩ (fun H locs hP hD hS => ?_)
  refine lv_goto (tgt := 468) hx hb d_M_one_342 (by decide) ?_
  exact wb_M_one_468 C0 hR N G hG _ _ hf H locs hP hD hS ls (lv_sub hl [] rfl)
def fb_M_one_92 (N : Nat) (G : Unit) (u : MS) (v1 : Int32) (v3 : Int32) (t1 : Int32) : Option (MS × Unit) := ck (inb v1 (ln 25)) (ck (inb v3 (ln 99)) (ck (inb v3 (ln 101)) (ck (inb v1 (ln 27)) (bnd (fm_M_tryFrom N u t1 (u.2.2.1 25 v1.toNatClampNeg) (((u.2.2.1 99 v3.toNatClampNeg) + (u.2.2.1 101 v3.toNatClampNeg)) + (u.2.2.1 27 v1.toNatClampNeg))) (fun u3 _ => some (u3, ()))))))
set_option maxRecDepth 100000 in
set_option maxHeartbeats 4000000 in
theorem wb_M_one_92 {p : Program} {l : Launch} {e : Env} {R : Room} {s : State} {m : MethodId} {args : Array Value} {below : List Frame} {meth : Method} {c : Code} {D : va_G} {cl : List vw_C} {cB cI cJ cZ cS : ClassId} {A : Nat → Prop} {iM h0 : Nat} {ad : Nat → Nat} (C0 : MCx p s m args meth c b_M_one 5 none D cl cB cI cJ cZ cS iM A) (hR : R = rm_M_one) (N : Nat) (G : Unit) (hG : True) : ∀ (u : MS) (v1 : Int32) (v3 : Int32) (t1 : Int32) (x : MS × Unit), fb_M_one_92 N G u v1 v3 t1 = some x → ∀ (H : Heap) (locs : List Loc), va_P D cl (wM cB cI cJ cZ cS iM h0 ad u) H → va_D A (wM cB cI cJ cZ cS iM h0 ad u) → va_S A s.heap H locs → ∀ (ls : Array Slot), lv_has ls 5 [(0, .ref h0), (1, .int v1), (3, .int v3)] → W p l e R s m args below meth c H locs 0 0 (MQ below (mQv D cl cB cI cJ cZ cS iM h0 ad A x) args s 0 0 A) (F0 m 92 ls [.int t1, .ref h0]) := by
  intro u v1 v3 t1 x hf H locs hP hD hS ls hl
  obtain ⟨hx, hb, hr, hml, ht, hown, hM, hK, hA, hlocks⟩ := id C0
  unfold fb_M_one_92 at hf
  refine lv_aload_n hx hb d_M_one_92 rfl (lv_at hl 0 rfl) ?_
  refine ug_R hx hb ht hown hM hK hP 25 (by decide) lk_M_25 (by decide) d_M_one_93 ?_
  refine lv_iload_n hx hb d_M_one_96 rfl (lv_at hl 1 rfl) ?_
  obtain ⟨hi9, hf⟩ := ck_some hf
  refine ul_I hx hb hK hP (by decide) (by decide) hi9 d_M_one_97 ?_
  refine lv_aload_n hx hb d_M_one_98 rfl (lv_at hl 0 rfl) ?_
  refine ug_R hx hb ht hown hM hK hP 99 (by decide) lk_M_99 (by decide) d_M_one_99 ?_
  refine lv_iload_n hx hb d_M_one_102 rfl (lv_at hl 2 rfl) ?_
  obtain ⟨hi9, hf⟩ := ck_some hf
  refine ul_I hx hb hK hP (by decide) (by decide) hi9 d_M_one_103 ?_
  refine lv_aload_n hx hb d_M_one_104 rfl (lv_at hl 0 rfl) ?_
  refine ug_R hx hb ht hown hM hK hP 101 (by decide) lk_M_101 (by decide) d_M_one_105 ?_
  refine lv_iload_n hx hb d_M_one_108 rfl (lv_at hl 2 rfl) ?_
  obtain ⟨hi9, hf⟩ := ck_some hf
  refine ul_I hx hb hK hP (by decide) (by decide) hi9 d_M_one_109 ?_
  refine lv_iadd hx hb d_M_one_110 ?_
  refine lv_aload_n hx hb d_M_one_111 rfl (lv_at hl 0 rfl) ?_
  refine ug_R hx hb ht hown hM hK hP 27 (by decide) lk_M_27 (by decide) d_M_one_112 ?_
  refine lv_iload_n hx hb d_M_one_115 rfl (lv_at hl 1 rfl) ?_
  obtain ⟨hi9, hf⟩ := ck_some hf
  refine ul_I hx hb hK hP (by decide) (by decide) hi9 d_M_one_116 ?_
  refine lv_iadd hx hb d_M_one_117 ?_
  obtain ⟨u3, r3, hc3, hf⟩ := bnd_some hf
  refine mV_v (As := [.int t1, .int (u.2.2.1 25 v1.toNatClampNeg), .int (((u.2.2.1 99 v3.toNatClampNeg) + (u.2.2.1 101 v3.toNatClampNeg)) + (u.2.2.1 27 v1.toNatClampNeg))]) (rest := []) C0 hP hD hS (c_M_tryFrom N hM hc3) k_M_tryFrom hl_M_tryFrom hi_M_tryFrom hs_M_tryFrom hini_M rfl rfl hd_M_tryFrom rfl (rm_M_one_M_tryFrom hR) hl.1 (Nat.le_of_ble_eq_true rfl) d_M_one_118 rfl ⟨Nat.zero_le _, Nat.zero_le _⟩ (fun H locs hP hD hS => ?_)
  exact mr_v C0 hP hD hS hf d_M_one_121
def fb_M_one_75 (N : Nat) (G : Unit) (u : MS) (v1 : Int32) (v2 : Int32) : Option (MS × Unit) := bnd (fm_M_frame0 N u) (fun u4 r4 => br (decide (v2 = 21)) (fb_M_one_92 N G u4 (v1) (r4) (1)) (fb_M_one_92 N G u4 (v1) (r4) (2)))
set_option maxRecDepth 100000 in
set_option maxHeartbeats 4000000 in
theorem wb_M_one_75 {p : Program} {l : Launch} {e : Env} {R : Room} {s : State} {m : MethodId} {args : Array Value} {below : List Frame} {meth : Method} {c : Code} {D : va_G} {cl : List vw_C} {cB cI cJ cZ cS : ClassId} {A : Nat → Prop} {iM h0 : Nat} {ad : Nat → Nat} (C0 : MCx p s m args meth c b_M_one 5 none D cl cB cI cJ cZ cS iM A) (hR : R = rm_M_one) (N : Nat) (G : Unit) (hG : True) : ∀ (u : MS) (v1 : Int32) (v2 : Int32) (x : MS × Unit), fb_M_one_75 N G u v1 v2 = some x → ∀ (H : Heap) (locs : List Loc), va_P D cl (wM cB cI cJ cZ cS iM h0 ad u) H → va_D A (wM cB cI cJ cZ cS iM h0 ad u) → va_S A s.heap H locs → ∀ (ls : Array Slot), lv_has ls 5 [(0, .ref h0), (1, .int v1), (2, .int v2)] → W p l e R s m args below meth c H locs 0 0 (MQ below (mQv D cl cB cI cJ cZ cS iM h0 ad A x) args s 0 0 A) (F0 m 75 ls []) := by
  intro u v1 v2 x hf H locs hP hD hS ls hl
  obtain ⟨hx, hb, hr, hml, ht, hown, hM, hK, hA, hlocks⟩ := id C0
  unfold fb_M_one_75 at hf
  refine lv_aload_n hx hb d_M_one_75 rfl (lv_at hl 0 rfl) ?_
  obtain ⟨u4, r4, hc4, hf⟩ := bnd_some hf
  refine mV_i (As := []) (rest := []) C0 hP hD hS (c_M_frame0 N hM hc4) k_M_frame0 hl_M_frame0 hi_M_frame0 hs_M_frame0 hini_M rfl rfl hd_M_frame0 rfl (rm_M_one_M_frame0 hR) hl.1 (Nat.le_of_ble_eq_true rfl) d_M_one_76 rfl ⟨Nat.zero_le _, Nat.zero_le _⟩ (fun H locs hP hD hS => ?_)
  refine lv_istore_n (lv' := [(3, .int r4), (0, .ref h0), (1, .int v1), (2, .int v2)]) hx hb d_M_one_79 rfl hl (by decide) rfl (fun ls hl => ?_)
  refine lv_aload_n hx hb d_M_one_80 rfl (lv_at hl 1 rfl) ?_
  refine lv_iload_n hx hb d_M_one_81 rfl (lv_at hl 3 rfl) ?_
  refine lv_bipush (v := 21) hx hb d_M_one_82 (by decide) ?_
  refine lv_icmp_ne (tgt := 91) hx hb d_M_one_84 (by decide) (fun hc => ?_) (fun hc => ?_)
  · rw [br_n _ hc] at hf
    refine lv_iconst (v := 2) hx hb d_M_one_91 (by decide) ?_
    exact wb_M_one_92 C0 hR N G hG _ _ _ _ _ hf H locs hP hD hS ls (lv_sub hl [1, 2, 0] rfl)
  · rw [br_p _ hc] at hf
    refine lv_iconst (v := 1) hx hb d_M_one_87 (by decide) ?_
    refine lv_goto (tgt := 92) hx hb d_M_one_88 (by decide) ?_
    exact wb_M_one_92 C0 hR N G hG _ _ _ _ _ hf H locs hP hD hS ls (lv_sub hl [1, 2, 0] rfl)
def fb_M_one_57 (N : Nat) (G : Unit) (u : MS) (v1 : Int32) : Option (MS × Unit) := bnd (fm_M_goOnWith N u v1) (fun u5 _ => some (u5, ()))
set_option maxRecDepth 100000 in
set_option maxHeartbeats 4000000 in
theorem wb_M_one_57 {p : Program} {l : Launch} {e : Env} {R : Room} {s : State} {m : MethodId} {args : Array Value} {below : List Frame} {meth : Method} {c : Code} {D : va_G} {cl : List vw_C} {cB cI cJ cZ cS : ClassId} {A : Nat → Prop} {iM h0 : Nat} {ad : Nat → Nat} (C0 : MCx p s m args meth c b_M_one 5 none D cl cB cI cJ cZ cS iM A) (hR : R = rm_M_one) (N : Nat) (G : Unit) (hG : True) : ∀ (u : MS) (v1 : Int32) (x : MS × Unit), fb_M_one_57 N G u v1 = some x → ∀ (H : Heap) (locs : List Loc), va_P D cl (wM cB cI cJ cZ cS iM h0 ad u) H → va_D A (wM cB cI cJ cZ cS iM h0 ad u) → va_S A s.heap H locs → ∀ (ls : Array Slot), lv_has ls 5 [(0, .ref h0), (1, .int v1)] → W p l e R s m args below meth c H locs 0 0 (MQ below (mQv D cl cB cI cJ cZ cS iM h0 ad A x) args s 0 0 A) (F0 m 57 ls []) := by
  intro u v1 x hf H locs hP hD hS ls hl
  obtain ⟨hx, hb, hr, hml, ht, hown, hM, hK, hA, hlocks⟩ := id C0
  unfold fb_M_one_57 at hf
  refine lv_aload_n hx hb d_M_one_57 rfl (lv_at hl 0 rfl) ?_
  refine lv_iload_n hx hb d_M_one_58 rfl (lv_at hl 1 rfl) ?_
  obtain ⟨u5, r5, hc5, hf⟩ := bnd_some hf
  refine mV_v (As := [.int v1]) (rest := []) C0 hP hD hS (c_M_goOnWith N hM hc5) k_M_goOnWith hl_M_goOnWith hi_M_goOnWith hs_M_goOnWith hini_M rfl rfl hd_M_goOnWith rfl (rm_M_one_M_goOnWith hR) hl.1 (Nat.le_of_ble_eq_true rfl) d_M_one_59 rfl ⟨Nat.zero_le _, Nat.zero_le _⟩ (fun H locs hP hD hS => ?_)
  exact mr_v C0 hP hD hS hf d_M_one_62
def fb_M_one_12 (N : Nat) (G : Unit) (u : MS) (v1 : Int32) (v2 : Int32) : Option (MS × Unit) := bnd (fm_M_callRun N u v1 v2) (fun u6 _ => some (u6, ()))
set_option maxRecDepth 100000 in
set_option maxHeartbeats 4000000 in
theorem wb_M_one_12 {p : Program} {l : Launch} {e : Env} {R : Room} {s : State} {m : MethodId} {args : Array Value} {below : List Frame} {meth : Method} {c : Code} {D : va_G} {cl : List vw_C} {cB cI cJ cZ cS : ClassId} {A : Nat → Prop} {iM h0 : Nat} {ad : Nat → Nat} (C0 : MCx p s m args meth c b_M_one 5 none D cl cB cI cJ cZ cS iM A) (hR : R = rm_M_one) (N : Nat) (G : Unit) (hG : True) : ∀ (u : MS) (v1 : Int32) (v2 : Int32) (x : MS × Unit), fb_M_one_12 N G u v1 v2 = some x → ∀ (H : Heap) (locs : List Loc), va_P D cl (wM cB cI cJ cZ cS iM h0 ad u) H → va_D A (wM cB cI cJ cZ cS iM h0 ad u) → va_S A s.heap H locs → ∀ (ls : Array Slot), lv_has ls 5 [(0, .ref h0), (1, .int v1), (2, .int v2)] → W p l e R s m args below meth c H locs 0 0 (MQ below (mQv D cl cB cI cJ cZ cS iM h0 ad A x) args s 0 0 A) (F0 m 12 ls []) := by
  intro u v1 v2 x hf H locs hP hD hS ls hl
  obtain ⟨hx, hb, hr, hml, ht, hown, hM, hK, hA, hlocks⟩ := id C0
  unfold fb_M_one_12 at hf
  refine lv_aload_n hx hb d_M_one_12 rfl (lv_at hl 0 rfl) ?_
  refine lv_iload_n hx hb d_M_one_13 rfl (lv_at hl 1 rfl) ?_
  refine lv_iload_n hx hb d_M_one_14 rfl (lv_at hl 2 rfl) ?_
  obtain ⟨u6, r6, hc6, hf⟩ := bnd_some hf
  refine mV_v (As := [.int v1, .int v2]) (rest := []) C0 hP hD hS (c_M_callRun N hM hc6) k_M_callRun hl_M_callRun hi_M_callRun hs_M_callRun hini_M rfl rfl hd_M_callRun rfl (rm_M_one_M_callRun hR) hl.1 (Nat.le_of_ble_eq_true rfl) d_M_one_15 rfl ⟨Nat.zero_le _, Nat.zero_le _⟩ (fun H locs hP hD hS => ?_)
  exact mr_v C0 hP hD hS hf d_M_one_18
def fb_M_one_0 (N : Nat) (G : Unit) (u : MS) (v1 : Int32) (v2 : Int32) : Option (MS × Unit) := br (decide (v2 = 12)) (fb_M_one_12 N G u (v1) (v2)) (br (decide (v2 = 13)) (fb_M_one_12 N G u (v1) (v2)) (br (decide (v2 = 27)) (ck (inb (u.1 133) (ln 110)) (lt (upA u 110 (upd (u.2.2.1 110) (u.1 133).toNatClampNeg 0)) (fun w30 => ck (inb v1 (ln 31)) (br (decide ((w30.2.2.1 31 v1.toNatClampNeg) = (-1))) (ck (inb (w30.1 133) (ln 111)) (lt (upJ w30 111 (vp_updL (w30.2.2.2 111) (w30.1 133).toNatClampNeg (-1))) (fun w31 => fb_M_one_57 N G w31 (v1)))) (fb_M_one_57 N G w30 (v1)))))) (br (decide (v2 = 21)) (fb_M_one_75 N G u (v1) (v2)) (br (decide (v2 = 31)) (fb_M_one_75 N G u (v1) (v2)) (br (decide (v2 = 29)) (bnd (fm_M_returns N u) (fun u29 _ => some (u29, ()))) (bnd (fm_M_goTo N u (v1 + 1)) (fun u7 _ => br (decide (v2 = 1)) (ck (inb v1 (ln 25)) (ck (inb v1 (ln 26)) (bnd (fm_M_term N u7 (u7.2.2.1 25 v1.toNatClampNeg) (u7.2.2.1 26 v1.toNatClampNeg)) (fun u27 r27 => bnd (fm_M_put N u27 r27) (fun u28 _ => fb_M_one_468 N G u28))))) (br (decide (v2 = 3)) (ck (inb v1 (ln 25)) (bnd (fm_M_nameAt N u7 (u7.2.2.1 25 v1.toNatClampNeg)) (fun u25 r25 => bnd (fm_M_put N u25 r25) (fun u26 _ => fb_M_one_468 N G u26)))) (br (decide (v2 = 2)) (ck (inb v1 (ln 25)) (bnd (fm_M_stringRun N u7 (u7.2.2.1 25 v1.toNatClampNeg)) (fun u24 _ => fb_M_one_468 N G u24))) (br (decide (v2 = 4)) (ck (inb v1 (ln 25)) (bnd (fm_M_tupleRun N u7 (u7.2.2.1 25 v1.toNatClampNeg)) (fun u23 _ => fb_M_one_468 N G u23))) (br (decide (v2 = 5)) (ck (inb v1 (ln 25)) (ck (inb v1 (ln 26)) (bnd (fm_M_listRun N u7 (u7.2.2.1 25 v1.toNatClampNeg) (u7.2.2.1 26 v1.toNatClampNeg)) (fun u22 _ => fb_M_one_468 N G u22)))) (br (decide (v2 = 6)) (ck (inb v1 (ln 25)) (bnd (fm_M_twoRun N u7 (u7.2.2.1 25 v1.toNatClampNeg)) (fun u21 _ => fb_M_one_468 N G u21))) (br (decide (v2 = 17)) (bnd (fm_M_take N u7) (fun u20 r20 => fb_M_one_468 N G u20)) (br (decide (v2 = 18)) (ck (inb v1 (ln 25)) (bnd (fm_M_namesTo N u7 (u7.2.2.1 25 v1.toNatClampNeg)) (fun u19 _ => fb_M_one_468 N G u19))) (br (decide (v2 = 26)) (ck (inb v1 (ln 25)) (br (decide ((u7.2.2.1 25 v1.toNatClampNeg) = (-2))) (ck (inb v1 (ln 26)) (ck (inb (u7.2.2.1 26 v1.toNatClampNeg) (ln 26)) (fb_M_one_339 N G u7 ((u7.2.2.1 26 (u7.2.2.1 26 v1.toNatClampNeg).toNatClampNeg))))) (ck (inb v1 (ln 25)) (fb_M_one_339 N G u7 ((u7.2.2.1 25 v1.toNatClampNeg)))))) (br (decide (v2 = 16)) (ck (inb (u7.1 133) (ln 94)) (lt (u7.2.2.1 94 (u7.1 133).toNatClampNeg) (fun y13 => ck (inb v1 (ln 25)) (bnd (fm_M_top N u7 0) (fun u14 r14 => bnd (fm_M_fits N u14 (u7.2.2.1 25 v1.toNatClampNeg) r14) (fun u15 r15 => br (decide (r15 = 0)) (ck (inb (u15.1 133) (ln 94)) (lt (upA u15 94 (upd (u15.2.2.1 94) (u15.1 133).toNatClampNeg y13)) (fun w16 => bnd (fm_M_top N w16 0) (fun u17 r17 => bnd (fr_M_errorOf N u17 13 r17) (fun u18 _ => fb_M_one_400 N G u18))))) (fb_M_one_400 N G u15))))))) (br (decide (v2 = 14)) (fb_M_one_415 N G u7 (v1) (v2)) (br (decide (v2 = 15)) (fb_M_one_415 N G u7 (v1) (v2)) (br (decide (v2 = 22)) (bnd (fm_M_take N u7) (fun u10 r10 => bnd (fm_M_truth N u10 1) (fun u11 r11 => br (decide ((lg_cmp r10 r11) = 0)) (fb_M_one_468 N G u11) (bnd (fr_M_guardFails N u11) (fun u12 _ => fb_M_one_468 N G u12))))) (br (decide (v2 = 23)) (bnd (fm_M_chosen N u7) (fun u9 _ => fb_M_one_468 N G u9)) (bnd (fm_M_otherRun N u7 v1 v2) (fun u8 _ => fb_M_one_468 N G u8))))))))))))))))))))))
set_option maxRecDepth 100000 in
set_option maxHeartbeats 4000000 in
theorem wb_M_one_0 {p : Program} {l : Launch} {e : Env} {R : Room} {s : State} {m : MethodId} {args : Array Value} {below : List Frame} {meth : Method} {c : Code} {D : va_G} {cl : List vw_C} {cB cI cJ cZ cS : ClassId} {A : Nat → Prop} {iM h0 : Nat} {ad : Nat → Nat} (C0 : MCx p s m args meth c b_M_one 5 none D cl cB cI cJ cZ cS iM A) (hR : R = rm_M_one) (N : Nat) (G : Unit) (hG : True) : ∀ (u : MS) (v1 : Int32) (v2 : Int32) (x : MS × Unit), fb_M_one_0 N G u v1 v2 = some x → ∀ (H : Heap) (locs : List Loc), va_P D cl (wM cB cI cJ cZ cS iM h0 ad u) H → va_D A (wM cB cI cJ cZ cS iM h0 ad u) → va_S A s.heap H locs → ∀ (ls : Array Slot), lv_has ls 5 [(0, .ref h0), (1, .int v1), (2, .int v2)] → W p l e R s m args below meth c H locs 0 0 (MQ below (mQv D cl cB cI cJ cZ cS iM h0 ad A x) args s 0 0 A) (F0 m 0 ls []) := by
  intro u v1 v2 x hf H locs hP hD hS ls hl
  obtain ⟨hx, hb, hr, hml, ht, hown, hM, hK, hA, hlocks⟩ := id C0
  unfold fb_M_one_0 at hf
  refine lv_iload_n hx hb d_M_one_0 rfl (lv_at hl 2 rfl) ?_
  refine lv_bipush (v := 12) hx hb d_M_one_1 (by decide) ?_
  refine lv_icmp_eq (tgt := 12) hx hb d_M_one_3 (by decide) (fun hc => ?_) (fun hc => ?_)
  · rw [br_p _ hc] at hf
    exact wb_M_one_12 C0 hR N G hG _ _ _ _ hf H locs hP hD hS ls (lv_sub hl [0, 1, 2] rfl)
  · rw [br_n _ hc] at hf
    refine lv_iload_n hx hb d_M_one_6 rfl (lv_at hl 2 rfl) ?_
    refine lv_bipush (v := 13) hx hb d_M_one_7 (by decide) ?_
    refine lv_icmp_ne (tgt := 19) hx hb d_M_one_9 (by decide) (fun hc => ?_) (fun hc => ?_)
    · rw [br_n _ hc] at hf
      refine lv_iload_n hx hb d_M_one_19 rfl (lv_at hl 2 rfl) ?_
      refine lv_bipush (v := 27) hx hb d_M_one_20 (by decide) ?_
      refine lv_icmp_ne (tgt := 63) hx hb d_M_one_22 (by decide) (fun hc => ?_) (fun hc => ?_)
      · rw [br_n _ hc] at hf
        refine lv_iload_n hx hb d_M_one_63 rfl (lv_at hl 2 rfl) ?_
        refine lv_bipush (v := 21) hx hb d_M_one_64 (by decide) ?_
        refine lv_icmp_eq (tgt := 75) hx hb d_M_one_66 (by decide) (fun hc => ?_) (fun hc => ?_)
        · rw [br_p _ hc] at hf
          exact wb_M_one_75 C0 hR N G hG _ _ _ _ hf H locs hP hD hS ls (lv_sub hl [0, 1, 2] rfl)
        · rw [br_n _ hc] at hf
          refine lv_iload_n hx hb d_M_one_69 rfl (lv_at hl 2 rfl) ?_
          refine lv_bipush (v := 31) hx hb d_M_one_70 (by decide) ?_
          refine lv_icmp_ne (tgt := 122) hx hb d_M_one_72 (by decide) (fun hc => ?_) (fun hc => ?_)
          · rw [br_n _ hc] at hf
            refine lv_iload_n hx hb d_M_one_122 rfl (lv_at hl 2 rfl) ?_
            refine lv_bipush (v := 29) hx hb d_M_one_123 (by decide) ?_
            refine lv_icmp_ne (tgt := 133) hx hb d_M_one_125 (by decide) (fun hc => ?_) (fun hc => ?_)
            · rw [br_n _ hc] at hf
              refine lv_aload_n hx hb d_M_one_133 rfl (lv_at hl 0 rfl) ?_
              refine lv_iload_n hx hb d_M_one_134 rfl (lv_at hl 1 rfl) ?_
              refine lv_iconst (v := 1) hx hb d_M_one_135 (by decide) ?_
              refine lv_iadd hx hb d_M_one_136 ?_
              obtain ⟨u7, r7, hc7, hf⟩ := bnd_some hf
              refine mV_v (As := [.int (v1 + 1)]) (rest := []) C0 hP hD hS (c_M_goTo N hM hc7) k_M_goTo hl_M_goTo hi_M_goTo hs_M_goTo hini_M rfl rfl hd_M_goTo rfl (rm_M_one_M_goTo hR) hl.1 (Nat.le_of_ble_eq_true rfl) d_M_one_137 rfl ⟨Nat.zero_le _, Nat.zero_le _⟩ (fun H locs hP hD hS => ?_)
              refine lv_iload_n hx hb d_M_one_140 rfl (lv_at hl 2 rfl) ?_
              refine lv_iconst (v := 1) hx hb d_M_one_141 (by decide) ?_
              refine lv_icmp_ne (tgt := 167) hx hb d_M_one_142 (by decide) (fun hc => ?_) (fun hc => ?_)
              · rw [br_n _ hc] at hf
                refine lv_iload_n hx hb d_M_one_167 rfl (lv_at hl 2 rfl) ?_
                refine lv_iconst (v := 3) hx hb d_M_one_168 (by decide) ?_
                refine lv_icmp_ne (tgt := 189) hx hb d_M_one_169 (by decide) (fun hc => ?_) (fun hc => ?_)
                · rw [br_n _ hc] at hf
                  refine lv_iload_n hx hb d_M_one_189 rfl (lv_at hl 2 rfl) ?_
                  refine lv_iconst (v := 2) hx hb d_M_one_190 (by decide) ?_
                  refine lv_icmp_ne (tgt := 207) hx hb d_M_one_191 (by decide) (fun hc => ?_) (fun hc => ?_)
                  · rw [br_n _ hc] at hf
                    refine lv_iload_n hx hb d_M_one_207 rfl (lv_at hl 2 rfl) ?_
                    refine lv_iconst (v := 4) hx hb d_M_one_208 (by decide) ?_
                    refine lv_icmp_ne (tgt := 225) hx hb d_M_one_209 (by decide) (fun hc => ?_) (fun hc => ?_)
                    · rw [br_n _ hc] at hf
                      refine lv_iload_n hx hb d_M_one_225 rfl (lv_at hl 2 rfl) ?_
                      refine lv_iconst (v := 5) hx hb d_M_one_226 (by decide) ?_
                      refine lv_icmp_ne (tgt := 249) hx hb d_M_one_227 (by decide) (fun hc => ?_) (fun hc => ?_)
                      · rw [br_n _ hc] at hf
                        refine lv_iload_n hx hb d_M_one_249 rfl (lv_at hl 2 rfl) ?_
                        refine lv_bipush (v := 6) hx hb d_M_one_250 (by decide) ?_
                        refine lv_icmp_ne (tgt := 268) hx hb d_M_one_252 (by decide) (fun hc => ?_) (fun hc => ?_)
                        · rw [br_n _ hc] at hf
                          refine lv_iload_n hx hb d_M_one_268 rfl (lv_at hl 2 rfl) ?_
                          refine lv_bipush (v := 17) hx hb d_M_one_269 (by decide) ?_
                          refine lv_icmp_ne (tgt := 282) hx hb d_M_one_271 (by decide) (fun hc => ?_) (fun hc => ?_)
                          · rw [br_n _ hc] at hf
                            refine lv_iload_n hx hb d_M_one_282 rfl (lv_at hl 2 rfl) ?_
                            refine lv_bipush (v := 18) hx hb d_M_one_283 (by decide) ?_
                            refine lv_icmp_ne (tgt := 301) hx hb d_M_one_285 (by decide) (fun hc => ?_) (fun hc => ?_)
                            · rw [br_n _ hc] at hf
                              refine lv_iload_n hx hb d_M_one_301 rfl (lv_at hl 2 rfl) ?_
                              refine lv_bipush (v := 26) hx hb d_M_one_302 (by decide) ?_
                              refine lv_icmp_ne (tgt := 345) hx hb d_M_one_304 (by decide) (fun hc => ?_) (fun hc => ?_)
                              · rw [br_n _ hc] at hf
                                refine lv_iload_n hx hb d_M_one_345 rfl (lv_at hl 2 rfl) ?_
                                refine lv_bipush (v := 16) hx hb d_M_one_346 (by decide) ?_
                                refine lv_icmp_ne (tgt := 403) hx hb d_M_one_348 (by decide) (fun hc => ?_) (fun hc => ?_)
                                · rw [br_n _ hc] at hf
                                  refine lv_iload_n hx hb d_M_one_403 rfl (lv_at hl 2 rfl) ?_
                                  refine lv_bipush (v := 14) hx hb d_M_one_404 (by decide) ?_
                                  refine lv_icmp_eq (tgt := 415) hx hb d_M_one_406 (by decide) (fun hc => ?_) (fun hc => ?_)
                                  · rw [br_p _ hc] at hf
                                    exact wb_M_one_415 C0 hR N G hG _ _ _ _ hf H locs hP hD hS ls (lv_sub hl [0, 1, 2] rfl)
                                  · rw [br_n _ hc] at hf
                                    refine lv_iload_n hx hb d_M_one_409 rfl (lv_at hl 2 rfl) ?_
                                    refine lv_bipush (v := 15) hx hb d_M_one_410 (by decide) ?_
                                    refine lv_icmp_ne (tgt := 424) hx hb d_M_one_412 (by decide) (fun hc => ?_) (fun hc => ?_)
                                    · rw [br_n _ hc] at hf
                                      refine lv_iload_n hx hb d_M_one_424 rfl (lv_at hl 2 rfl) ?_
                                      refine lv_bipush (v := 22) hx hb d_M_one_425 (by decide) ?_
                                      refine lv_icmp_ne (tgt := 449) hx hb d_M_one_427 (by decide) (fun hc => ?_) (fun hc => ?_)
                                      · rw [br_n _ hc] at hf
                                        refine lv_iload_n hx hb d_M_one_449 rfl (lv_at hl 2 rfl) ?_
                                        refine lv_bipush (v := 23) hx hb d_M_one_450 (by decide) ?_
                                        refine lv_icmp_ne (tgt := 462) hx hb d_M_one_452 (by decide) (fun hc => ?_) (fun hc => ?_)
                                        · rw [br_n _ hc] at hf
                                          refine lv_aload_n hx hb d_M_one_462 rfl (lv_at hl 0 rfl) ?_
                                          refine lv_iload_n hx hb d_M_one_463 rfl (lv_at hl 1 rfl) ?_
                                          refine lv_iload_n hx hb d_M_one_464 rfl (lv_at hl 2 rfl) ?_
                                          obtain ⟨u8, r8, hc8, hf⟩ := bnd_some hf
                                          refine mV_v (As := [.int v1, .int v2]) (rest := []) C0 hP hD hS (c_M_otherRun N hM hc8) k_M_otherRun hl_M_otherRun hi_M_otherRun hs_M_otherRun hini_M rfl rfl hd_M_otherRun rfl (rm_M_one_M_otherRun hR) hl.1 (Nat.le_of_ble_eq_true rfl) d_M_one_465 rfl ⟨Nat.zero_le _, Nat.zero_le _⟩ (fun H locs hP hD hS => ?_)
                                          exact wb_M_one_468 C0 hR N G hG _ _ hf H locs hP hD hS ls (lv_sub hl [] rfl)
                                        · rw [br_p _ hc] at hf
                                          refine lv_aload_n hx hb d_M_one_455 rfl (lv_at hl 0 rfl) ?_
                                          obtain ⟨u9, r9, hc9, hf⟩ := bnd_some hf
                                          refine mV_v (As := []) (rest := []) C0 hP hD hS (c_M_chosen N hM hc9) k_M_chosen hl_M_chosen hi_M_chosen hs_M_chosen hini_M rfl rfl hd_M_chosen rfl (rm_M_one_M_chosen hR) hl.1 (Nat.le_of_ble_eq_true rfl) d_M_one_456 rfl ⟨Nat.zero_le _, Nat.zero_le _⟩ (fun H locs hP hD hS => ?_)
                                          refine lv_goto (tgt := 468) hx hb d_M_one_459 (by decide) ?_
                                          exact wb_M_one_468 C0 hR N G hG _ _ hf H locs hP hD hS ls (lv_sub hl [] rfl)
                                      · rw [br_p _ hc] at hf
                                        refine lv_aload_n hx hb d_M_one_430 rfl (lv_at hl 0 rfl) ?_
                                        obtain ⟨u10, r10, hc10, hf⟩ := bnd_some hf
                                        refine mV_l (As := []) (rest := []) C0 hP hD hS (c_M_take N hM hc10) k_M_take hl_M_take hi_M_take hs_M_take hini_M rfl rfl hd_M_take rfl (rm_M_one_M_take hR) hl.1 (Nat.le_of_ble_eq_true rfl) d_M_one_431 rfl ⟨Nat.zero_le _, Nat.zero_le _⟩ (fun H locs hP hD hS => ?_)
                                        refine lv_iconst (v := 1) hx hb d_M_one_434 (by decide) ?_
                                        obtain ⟨u11, r11, hc11, hf⟩ := bnd_some hf
                                        refine mS_l (As := [.int 1]) (rest := [.long r10]) C0 hP hD hS (c_M_truth N hM hc11) k_M_truth hl_M_truth ht_M_truth hini_M rfl rfl hd_M_truth rfl (rm_M_one_M_truth hR) hl.1 (Nat.le_of_ble_eq_true rfl) d_M_one_435 rfl ⟨Nat.zero_le _, Nat.zero_le _⟩ (fun H locs hP hD hS => ?_)
                                        refine W.lcmp hx hb d_M_one_438 ?_
                                        refine lv_if_eq (tgt := 468) hx hb d_M_one_439 (by decide) (fun hc => ?_) (fun hc => ?_)
                                        · rw [br_p _ hc] at hf
                                          exact wb_M_one_468 C0 hR N G hG _ _ hf H locs hP hD hS ls (lv_sub hl [] rfl)
                                        · rw [br_n _ hc] at hf
                                          refine lv_aload_n hx hb d_M_one_442 rfl (lv_at hl 0 rfl) ?_
                                          obtain ⟨u12, r12, hc12, hf⟩ := bnd_some hf
                                          refine mV_v (As := []) (rest := []) C0 hP hD hS (c_M_guardFails N hM hc12) k_M_guardFails hl_M_guardFails hi_M_guardFails hs_M_guardFails hini_M rfl rfl hd_M_guardFails rfl (rm_M_one_M_guardFails hR) hl.1 (Nat.le_of_ble_eq_true rfl) d_M_one_443 rfl ⟨Nat.zero_le _, Nat.zero_le _⟩ (fun H locs hP hD hS => ?_)
                                          refine lv_goto (tgt := 468) hx hb d_M_one_446 (by decide) ?_
                                          exact wb_M_one_468 C0 hR N G hG _ _ hf H locs hP hD hS ls (lv_sub hl [] rfl)
                                    · rw [br_p _ hc] at hf
                                      exact wb_M_one_415 C0 hR N G hG _ _ _ _ hf H locs hP hD hS ls (lv_sub hl [0, 1, 2] rfl)
                                · rw [br_p _ hc] at hf
                                  refine lv_aload_n hx hb d_M_one_351 rfl (lv_at hl 0 rfl) ?_
                                  refine ug_R hx hb ht hown hM hK hP 94 (by decide) lk_M_94 (by decide) d_M_one_352 ?_
                                  refine lv_aload_n hx hb d_M_one_355 rfl (lv_at hl 0 rfl) ?_
                                  refine ug_I hx hb ht hown hM hK hP 133 (by decide) lk_M_133 (by decide) d_M_one_356 ?_
                                  obtain ⟨hi9, hf⟩ := ck_some hf
                                  refine ul_I hx hb hK hP (by decide) (by decide) hi9 d_M_one_359 ?_
                                  obtain ⟨y13, e13, hf⟩ := lt_some hf
                                  rw [← e13]
                                  refine lv_istore_n (lv' := [(3, .int y13), (0, .ref h0), (1, .int v1), (2, .int v2)]) hx hb d_M_one_360 rfl hl (by decide) rfl (fun ls hl => ?_)
                                  refine lv_aload_n hx hb d_M_one_361 rfl (lv_at hl 1 rfl) ?_
                                  refine lv_aload_n hx hb d_M_one_362 rfl (lv_at hl 1 rfl) ?_
                                  refine ug_R hx hb ht hown hM hK hP 25 (by decide) lk_M_25 (by decide) d_M_one_363 ?_
                                  refine lv_iload_n hx hb d_M_one_366 rfl (lv_at hl 2 rfl) ?_
                                  obtain ⟨hi9, hf⟩ := ck_some hf
                                  refine ul_I hx hb hK hP (by decide) (by decide) hi9 d_M_one_367 ?_
                                  refine lv_aload_n hx hb d_M_one_368 rfl (lv_at hl 1 rfl) ?_
                                  refine lv_iconst (v := 0) hx hb d_M_one_369 (by decide) ?_
                                  obtain ⟨u14, r14, hc14, hf⟩ := bnd_some hf
                                  refine mV_l (As := [.int 0]) (rest := [.int (u7.2.2.1 25 v1.toNatClampNeg), .ref h0]) C0 hP hD hS (c_M_top N hM hc14) k_M_top hl_M_top hi_M_top hs_M_top hini_M rfl rfl hd_M_top rfl (rm_M_one_M_top hR) hl.1 (Nat.le_of_ble_eq_true rfl) d_M_one_370 rfl ⟨Nat.zero_le _, Nat.zero_le _⟩ (fun H locs hP hD hS => ?_)
                                  obtain ⟨u15, r15, hc15, hf⟩ := bnd_some hf
                                  refine mV_i (As := [.int (u7.2.2.1 25 v1.toNatClampNeg), .long r14]) (rest := []) C0 hP hD hS (c_M_fits N hM hc15) k_M_fits hl_M_fits hi_M_fits hs_M_fits hini_M rfl rfl hd_M_fits rfl (rm_M_one_M_fits hR) hl.1 (Nat.le_of_ble_eq_true rfl) d_M_one_373 rfl ⟨Nat.zero_le _, Nat.zero_le _⟩ (fun H locs hP hD hS => ?_)
                                  refine lv_if_ne (tgt := 400) hx hb d_M_one_376 (by decide) (fun hc => ?_) (fun hc => ?_)
                                  · rw [br_n _ hc] at hf
                                    exact wb_M_one_400 C0 hR N G hG _ _ hf H locs hP hD hS ls (lv_sub hl [] rfl)
                                  · rw [br_p _ hc] at hf
                                    refine lv_aload_n hx hb d_M_one_379 rfl (lv_at hl 1 rfl) ?_
                                    refine ug_R hx hb ht hown hM hK hP 94 (by decide) lk_M_94 (by decide) d_M_one_380 ?_
                                    refine lv_aload_n hx hb d_M_one_383 rfl (lv_at hl 1 rfl) ?_
                                    refine ug_I hx hb ht hown hM hK hP 133 (by decide) lk_M_133 (by decide) d_M_one_384 ?_
                                    refine lv_iload_n hx hb d_M_one_387 rfl (lv_at hl 0 rfl) ?_
                                    obtain ⟨hi9, hf⟩ := ck_some hf
                                    refine us_I hx hb hK hP hD hS (by decide) (by decide) hi9 d_M_one_388 (fun H locs hP hD hS => ?_)
                                    obtain ⟨w16, e16, hf⟩ := lt_some hf
                                    rw [← e16] at hP hD
                                    refine lv_aload_n hx hb d_M_one_389 rfl (lv_at hl 1 rfl) ?_
                                    refine lv_bipush (v := 13) hx hb d_M_one_390 (by decide) ?_
                                    refine lv_aload_n hx hb d_M_one_392 rfl (lv_at hl 1 rfl) ?_
                                    refine lv_iconst (v := 0) hx hb d_M_one_393 (by decide) ?_
                                    obtain ⟨u17, r17, hc17, hf⟩ := bnd_some hf
                                    refine mV_l (As := [.int 0]) (rest := [.int 13, .ref h0]) C0 hP hD hS (c_M_top N hM hc17) k_M_top hl_M_top hi_M_top hs_M_top hini_M rfl rfl hd_M_top rfl (rm_M_one_M_top hR) hl.1 (Nat.le_of_ble_eq_true rfl) d_M_one_394 rfl ⟨Nat.zero_le _, Nat.zero_le _⟩ (fun H locs hP hD hS => ?_)
                                    obtain ⟨u18, r18, hc18, hf⟩ := bnd_some hf
                                    refine mV_v (As := [.int 13, .long r17]) (rest := []) C0 hP hD hS (c_M_errorOf N hM hc18) k_M_errorOf hl_M_errorOf hi_M_errorOf hs_M_errorOf hini_M rfl rfl hd_M_errorOf rfl (rm_M_one_M_errorOf hR) hl.1 (Nat.le_of_ble_eq_true rfl) d_M_one_397 rfl ⟨Nat.zero_le _, Nat.zero_le _⟩ (fun H locs hP hD hS => ?_)
                                    exact wb_M_one_400 C0 hR N G hG _ _ hf H locs hP hD hS ls (lv_sub hl [] rfl)
                              · rw [br_p _ hc] at hf
                                refine lv_aload_n hx hb d_M_one_307 rfl (lv_at hl 0 rfl) ?_
                                refine lv_aload_n hx hb d_M_one_308 rfl (lv_at hl 0 rfl) ?_
                                refine ug_R hx hb ht hown hM hK hP 25 (by decide) lk_M_25 (by decide) d_M_one_309 ?_
                                refine lv_iload_n hx hb d_M_one_312 rfl (lv_at hl 1 rfl) ?_
                                obtain ⟨hi9, hf⟩ := ck_some hf
                                refine ul_I hx hb hK hP (by decide) (by decide) hi9 d_M_one_313 ?_
                                refine lv_bipush (v := (-2)) hx hb d_M_one_314 (by decide) ?_
                                refine lv_icmp_ne (tgt := 333) hx hb d_M_one_316 (by decide) (fun hc => ?_) (fun hc => ?_)
                                · rw [br_n _ hc] at hf
                                  refine lv_aload_n hx hb d_M_one_333 rfl (lv_at hl 0 rfl) ?_
                                  refine ug_R hx hb ht hown hM hK hP 25 (by decide) lk_M_25 (by decide) d_M_one_334 ?_
                                  refine lv_iload_n hx hb d_M_one_337 rfl (lv_at hl 1 rfl) ?_
                                  obtain ⟨hi9, hf⟩ := ck_some hf
                                  refine ul_I hx hb hK hP (by decide) (by decide) hi9 d_M_one_338 ?_
                                  exact wb_M_one_339 C0 hR N G hG _ _ _ hf H locs hP hD hS ls (lv_sub hl [] rfl)
                                · rw [br_p _ hc] at hf
                                  refine lv_aload_n hx hb d_M_one_319 rfl (lv_at hl 0 rfl) ?_
                                  refine ug_R hx hb ht hown hM hK hP 26 (by decide) lk_M_26 (by decide) d_M_one_320 ?_
                                  refine lv_aload_n hx hb d_M_one_323 rfl (lv_at hl 0 rfl) ?_
                                  refine ug_R hx hb ht hown hM hK hP 26 (by decide) lk_M_26 (by decide) d_M_one_324 ?_
                                  refine lv_iload_n hx hb d_M_one_327 rfl (lv_at hl 1 rfl) ?_
                                  obtain ⟨hi9, hf⟩ := ck_some hf
                                  refine ul_I hx hb hK hP (by decide) (by decide) hi9 d_M_one_328 ?_
                                  obtain ⟨hi9, hf⟩ := ck_some hf
                                  refine ul_I hx hb hK hP (by decide) (by decide) hi9 d_M_one_329 ?_
                                  refine lv_goto (tgt := 339) hx hb d_M_one_330 (by decide) ?_
                                  exact wb_M_one_339 C0 hR N G hG _ _ _ hf H locs hP hD hS ls (lv_sub hl [] rfl)
                            · rw [br_p _ hc] at hf
                              refine lv_aload_n hx hb d_M_one_288 rfl (lv_at hl 0 rfl) ?_
                              refine lv_aload_n hx hb d_M_one_289 rfl (lv_at hl 0 rfl) ?_
                              refine ug_R hx hb ht hown hM hK hP 25 (by decide) lk_M_25 (by decide) d_M_one_290 ?_
                              refine lv_iload_n hx hb d_M_one_293 rfl (lv_at hl 1 rfl) ?_
                              obtain ⟨hi9, hf⟩ := ck_some hf
                              refine ul_I hx hb hK hP (by decide) (by decide) hi9 d_M_one_294 ?_
                              obtain ⟨u19, r19, hc19, hf⟩ := bnd_some hf
                              refine mV_v (As := [.int (u7.2.2.1 25 v1.toNatClampNeg)]) (rest := []) C0 hP hD hS (c_M_namesTo N hM hc19) k_M_namesTo hl_M_namesTo hi_M_namesTo hs_M_namesTo hini_M rfl rfl hd_M_namesTo rfl (rm_M_one_M_namesTo hR) hl.1 (Nat.le_of_ble_eq_true rfl) d_M_one_295 rfl ⟨Nat.zero_le _, Nat.zero_le _⟩ (fun H locs hP hD hS => ?_)
                              refine lv_goto (tgt := 468) hx hb d_M_one_298 (by decide) ?_
                              exact wb_M_one_468 C0 hR N G hG _ _ hf H locs hP hD hS ls (lv_sub hl [] rfl)
                          · rw [br_p _ hc] at hf
                            refine lv_aload_n hx hb d_M_one_274 rfl (lv_at hl 0 rfl) ?_
                            obtain ⟨u20, r20, hc20, hf⟩ := bnd_some hf
                            refine mV_l (As := []) (rest := []) C0 hP hD hS (c_M_take N hM hc20) k_M_take hl_M_take hi_M_take hs_M_take hini_M rfl rfl hd_M_take rfl (rm_M_one_M_take hR) hl.1 (Nat.le_of_ble_eq_true rfl) d_M_one_275 rfl ⟨Nat.zero_le _, Nat.zero_le _⟩ (fun H locs hP hD hS => ?_)
                            refine lv_lstore_n (lv' := [(3, .long r20), (0, .ref h0), (1, .int v1), (2, .int v2)]) hx hb d_M_one_278 rfl hl (by decide) rfl (fun ls hl => ?_)
                            refine lv_goto (tgt := 468) hx hb d_M_one_279 (by decide) ?_
                            exact wb_M_one_468 C0 hR N G hG _ _ hf H locs hP hD hS ls (lv_sub hl [] rfl)
                        · rw [br_p _ hc] at hf
                          refine lv_aload_n hx hb d_M_one_255 rfl (lv_at hl 0 rfl) ?_
                          refine lv_aload_n hx hb d_M_one_256 rfl (lv_at hl 0 rfl) ?_
                          refine ug_R hx hb ht hown hM hK hP 25 (by decide) lk_M_25 (by decide) d_M_one_257 ?_
                          refine lv_iload_n hx hb d_M_one_260 rfl (lv_at hl 1 rfl) ?_
                          obtain ⟨hi9, hf⟩ := ck_some hf
                          refine ul_I hx hb hK hP (by decide) (by decide) hi9 d_M_one_261 ?_
                          obtain ⟨u21, r21, hc21, hf⟩ := bnd_some hf
                          refine mV_v (As := [.int (u7.2.2.1 25 v1.toNatClampNeg)]) (rest := []) C0 hP hD hS (c_M_twoRun N hM hc21) k_M_twoRun hl_M_twoRun hi_M_twoRun hs_M_twoRun hini_M rfl rfl hd_M_twoRun rfl (rm_M_one_M_twoRun hR) hl.1 (Nat.le_of_ble_eq_true rfl) d_M_one_262 rfl ⟨Nat.zero_le _, Nat.zero_le _⟩ (fun H locs hP hD hS => ?_)
                          refine lv_goto (tgt := 468) hx hb d_M_one_265 (by decide) ?_
                          exact wb_M_one_468 C0 hR N G hG _ _ hf H locs hP hD hS ls (lv_sub hl [] rfl)
                      · rw [br_p _ hc] at hf
                        refine lv_aload_n hx hb d_M_one_230 rfl (lv_at hl 0 rfl) ?_
                        refine lv_aload_n hx hb d_M_one_231 rfl (lv_at hl 0 rfl) ?_
                        refine ug_R hx hb ht hown hM hK hP 25 (by decide) lk_M_25 (by decide) d_M_one_232 ?_
                        refine lv_iload_n hx hb d_M_one_235 rfl (lv_at hl 1 rfl) ?_
                        obtain ⟨hi9, hf⟩ := ck_some hf
                        refine ul_I hx hb hK hP (by decide) (by decide) hi9 d_M_one_236 ?_
                        refine lv_aload_n hx hb d_M_one_237 rfl (lv_at hl 0 rfl) ?_
                        refine ug_R hx hb ht hown hM hK hP 26 (by decide) lk_M_26 (by decide) d_M_one_238 ?_
                        refine lv_iload_n hx hb d_M_one_241 rfl (lv_at hl 1 rfl) ?_
                        obtain ⟨hi9, hf⟩ := ck_some hf
                        refine ul_I hx hb hK hP (by decide) (by decide) hi9 d_M_one_242 ?_
                        obtain ⟨u22, r22, hc22, hf⟩ := bnd_some hf
                        refine mV_v (As := [.int (u7.2.2.1 25 v1.toNatClampNeg), .int (u7.2.2.1 26 v1.toNatClampNeg)]) (rest := []) C0 hP hD hS (c_M_listRun N hM hc22) k_M_listRun hl_M_listRun hi_M_listRun hs_M_listRun hini_M rfl rfl hd_M_listRun rfl (rm_M_one_M_listRun hR) hl.1 (Nat.le_of_ble_eq_true rfl) d_M_one_243 rfl ⟨Nat.zero_le _, Nat.zero_le _⟩ (fun H locs hP hD hS => ?_)
                        refine lv_goto (tgt := 468) hx hb d_M_one_246 (by decide) ?_
                        exact wb_M_one_468 C0 hR N G hG _ _ hf H locs hP hD hS ls (lv_sub hl [] rfl)
                    · rw [br_p _ hc] at hf
                      refine lv_aload_n hx hb d_M_one_212 rfl (lv_at hl 0 rfl) ?_
                      refine lv_aload_n hx hb d_M_one_213 rfl (lv_at hl 0 rfl) ?_
                      refine ug_R hx hb ht hown hM hK hP 25 (by decide) lk_M_25 (by decide) d_M_one_214 ?_
                      refine lv_iload_n hx hb d_M_one_217 rfl (lv_at hl 1 rfl) ?_
                      obtain ⟨hi9, hf⟩ := ck_some hf
                      refine ul_I hx hb hK hP (by decide) (by decide) hi9 d_M_one_218 ?_
                      obtain ⟨u23, r23, hc23, hf⟩ := bnd_some hf
                      refine mV_v (As := [.int (u7.2.2.1 25 v1.toNatClampNeg)]) (rest := []) C0 hP hD hS (c_M_tupleRun N hM hc23) k_M_tupleRun hl_M_tupleRun hi_M_tupleRun hs_M_tupleRun hini_M rfl rfl hd_M_tupleRun rfl (rm_M_one_M_tupleRun hR) hl.1 (Nat.le_of_ble_eq_true rfl) d_M_one_219 rfl ⟨Nat.zero_le _, Nat.zero_le _⟩ (fun H locs hP hD hS => ?_)
                      refine lv_goto (tgt := 468) hx hb d_M_one_222 (by decide) ?_
                      exact wb_M_one_468 C0 hR N G hG _ _ hf H locs hP hD hS ls (lv_sub hl [] rfl)
                  · rw [br_p _ hc] at hf
                    refine lv_aload_n hx hb d_M_one_194 rfl (lv_at hl 0 rfl) ?_
                    refine lv_aload_n hx hb d_M_one_195 rfl (lv_at hl 0 rfl) ?_
                    refine ug_R hx hb ht hown hM hK hP 25 (by decide) lk_M_25 (by decide) d_M_one_196 ?_
                    refine lv_iload_n hx hb d_M_one_199 rfl (lv_at hl 1 rfl) ?_
                    obtain ⟨hi9, hf⟩ := ck_some hf
                    refine ul_I hx hb hK hP (by decide) (by decide) hi9 d_M_one_200 ?_
                    obtain ⟨u24, r24, hc24, hf⟩ := bnd_some hf
                    refine mV_v (As := [.int (u7.2.2.1 25 v1.toNatClampNeg)]) (rest := []) C0 hP hD hS (c_M_stringRun N hM hc24) k_M_stringRun hl_M_stringRun hi_M_stringRun hs_M_stringRun hini_M rfl rfl hd_M_stringRun rfl (rm_M_one_M_stringRun hR) hl.1 (Nat.le_of_ble_eq_true rfl) d_M_one_201 rfl ⟨Nat.zero_le _, Nat.zero_le _⟩ (fun H locs hP hD hS => ?_)
                    refine lv_goto (tgt := 468) hx hb d_M_one_204 (by decide) ?_
                    exact wb_M_one_468 C0 hR N G hG _ _ hf H locs hP hD hS ls (lv_sub hl [] rfl)
                · rw [br_p _ hc] at hf
                  refine lv_aload_n hx hb d_M_one_172 rfl (lv_at hl 0 rfl) ?_
                  refine lv_aload_n hx hb d_M_one_173 rfl (lv_at hl 0 rfl) ?_
                  refine lv_aload_n hx hb d_M_one_174 rfl (lv_at hl 0 rfl) ?_
                  refine ug_R hx hb ht hown hM hK hP 25 (by decide) lk_M_25 (by decide) d_M_one_175 ?_
                  refine lv_iload_n hx hb d_M_one_178 rfl (lv_at hl 1 rfl) ?_
                  obtain ⟨hi9, hf⟩ := ck_some hf
                  refine ul_I hx hb hK hP (by decide) (by decide) hi9 d_M_one_179 ?_
                  obtain ⟨u25, r25, hc25, hf⟩ := bnd_some hf
                  refine mV_l (As := [.int (u7.2.2.1 25 v1.toNatClampNeg)]) (rest := [.ref h0]) C0 hP hD hS (c_M_nameAt N hM hc25) k_M_nameAt hl_M_nameAt hi_M_nameAt hs_M_nameAt hini_M rfl rfl hd_M_nameAt rfl (rm_M_one_M_nameAt hR) hl.1 (Nat.le_of_ble_eq_true rfl) d_M_one_180 rfl ⟨Nat.zero_le _, Nat.zero_le _⟩ (fun H locs hP hD hS => ?_)
                  obtain ⟨u26, r26, hc26, hf⟩ := bnd_some hf
                  refine mV_v (As := [.long r25]) (rest := []) C0 hP hD hS (c_M_put N hM hc26) k_M_put hl_M_put hi_M_put hs_M_put hini_M rfl rfl hd_M_put rfl (rm_M_one_M_put hR) hl.1 (Nat.le_of_ble_eq_true rfl) d_M_one_183 rfl ⟨Nat.zero_le _, Nat.zero_le _⟩ (fun H locs hP hD hS => ?_)
                  refine lv_goto (tgt := 468) hx hb d_M_one_186 (by decide) ?_
                  exact wb_M_one_468 C0 hR N G hG _ _ hf H locs hP hD hS ls (lv_sub hl [] rfl)
              · rw [br_p _ hc] at hf
                refine lv_aload_n hx hb d_M_one_145 rfl (lv_at hl 0 rfl) ?_
                refine lv_aload_n hx hb d_M_one_146 rfl (lv_at hl 0 rfl) ?_
                refine ug_R hx hb ht hown hM hK hP 25 (by decide) lk_M_25 (by decide) d_M_one_147 ?_
                refine lv_iload_n hx hb d_M_one_150 rfl (lv_at hl 1 rfl) ?_
                obtain ⟨hi9, hf⟩ := ck_some hf
                refine ul_I hx hb hK hP (by decide) (by decide) hi9 d_M_one_151 ?_
                refine lv_aload_n hx hb d_M_one_152 rfl (lv_at hl 0 rfl) ?_
                refine ug_R hx hb ht hown hM hK hP 26 (by decide) lk_M_26 (by decide) d_M_one_153 ?_
                refine lv_iload_n hx hb d_M_one_156 rfl (lv_at hl 1 rfl) ?_
                obtain ⟨hi9, hf⟩ := ck_some hf
                refine ul_I hx hb hK hP (by decide) (by decide) hi9 d_M_one_157 ?_
                obtain ⟨u27, r27, hc27, hf⟩ := bnd_some hf
                refine mS_l (As := [.int (u7.2.2.1 25 v1.toNatClampNeg), .int (u7.2.2.1 26 v1.toNatClampNeg)]) (rest := [.ref h0]) C0 hP hD hS (c_M_term N hM hc27) k_M_term hl_M_term ht_M_term hini_M rfl rfl hd_M_term rfl (rm_M_one_M_term hR) hl.1 (Nat.le_of_ble_eq_true rfl) d_M_one_158 rfl ⟨Nat.zero_le _, Nat.zero_le _⟩ (fun H locs hP hD hS => ?_)
                obtain ⟨u28, r28, hc28, hf⟩ := bnd_some hf
                refine mV_v (As := [.long r27]) (rest := []) C0 hP hD hS (c_M_put N hM hc28) k_M_put hl_M_put hi_M_put hs_M_put hini_M rfl rfl hd_M_put rfl (rm_M_one_M_put hR) hl.1 (Nat.le_of_ble_eq_true rfl) d_M_one_161 rfl ⟨Nat.zero_le _, Nat.zero_le _⟩ (fun H locs hP hD hS => ?_)
                refine lv_goto (tgt := 468) hx hb d_M_one_164 (by decide) ?_
                exact wb_M_one_468 C0 hR N G hG _ _ hf H locs hP hD hS ls (lv_sub hl [] rfl)
            · rw [br_p _ hc] at hf
              refine lv_aload_n hx hb d_M_one_128 rfl (lv_at hl 0 rfl) ?_
              obtain ⟨u29, r29, hc29, hf⟩ := bnd_some hf
              refine mV_v (As := []) (rest := []) C0 hP hD hS (c_M_returns N hM hc29) k_M_returns hl_M_returns hi_M_returns hs_M_returns hini_M rfl rfl hd_M_returns rfl (rm_M_one_M_returns hR) hl.1 (Nat.le_of_ble_eq_true rfl) d_M_one_129 rfl ⟨Nat.zero_le _, Nat.zero_le _⟩ (fun H locs hP hD hS => ?_)
              exact mr_v C0 hP hD hS hf d_M_one_132
          · rw [br_p _ hc] at hf
            exact wb_M_one_75 C0 hR N G hG _ _ _ _ hf H locs hP hD hS ls (lv_sub hl [0, 1, 2] rfl)
      · rw [br_p _ hc] at hf
        refine lv_aload_n hx hb d_M_one_25 rfl (lv_at hl 0 rfl) ?_
        refine ug_R hx hb ht hown hM hK hP 110 (by decide) lk_M_110 (by decide) d_M_one_26 ?_
        refine lv_aload_n hx hb d_M_one_29 rfl (lv_at hl 0 rfl) ?_
        refine ug_I hx hb ht hown hM hK hP 133 (by decide) lk_M_133 (by decide) d_M_one_30 ?_
        refine lv_iconst (v := 0) hx hb d_M_one_33 (by decide) ?_
        obtain ⟨hi9, hf⟩ := ck_some hf
        refine us_I hx hb hK hP hD hS (by decide) (by decide) hi9 d_M_one_34 (fun H locs hP hD hS => ?_)
        obtain ⟨w30, e30, hf⟩ := lt_some hf
        rw [← e30] at hP hD
        refine lv_aload_n hx hb d_M_one_35 rfl (lv_at hl 0 rfl) ?_
        refine ug_R hx hb ht hown hM hK hP 31 (by decide) lk_M_31 (by decide) d_M_one_36 ?_
        refine lv_iload_n hx hb d_M_one_39 rfl (lv_at hl 1 rfl) ?_
        obtain ⟨hi9, hf⟩ := ck_some hf
        refine ul_I hx hb hK hP (by decide) (by decide) hi9 d_M_one_40 ?_
        refine lv_iconst (v := (-1)) hx hb d_M_one_41 (by decide) ?_
        refine lv_icmp_ne (tgt := 57) hx hb d_M_one_42 (by decide) (fun hc => ?_) (fun hc => ?_)
        · rw [br_n _ hc] at hf
          exact wb_M_one_57 C0 hR N G hG _ _ _ hf H locs hP hD hS ls (lv_sub hl [0, 1] rfl)
        · rw [br_p _ hc] at hf
          refine lv_aload_n hx hb d_M_one_45 rfl (lv_at hl 0 rfl) ?_
          refine ug_R hx hb ht hown hM hK hP 111 (by decide) lk_M_111 (by decide) d_M_one_46 ?_
          refine lv_aload_n hx hb d_M_one_49 rfl (lv_at hl 0 rfl) ?_
          refine ug_I hx hb ht hown hM hK hP 133 (by decide) lk_M_133 (by decide) d_M_one_50 ?_
          refine lv_ldc2 (v := (-1)) hx hb hown (ht _ (wd_of 3094 (by decide +kernel) rfl)) d_M_one_53 ?_
          obtain ⟨hi9, hf⟩ := ck_some hf
          refine us_J hx hb hK hP hD hS (by decide) (by decide) hi9 d_M_one_56 (fun H locs hP hD hS => ?_)
          obtain ⟨w31, e31, hf⟩ := lt_some hf
          rw [← e31] at hP hD
          exact wb_M_one_57 C0 hR N G hG _ _ _ hf H locs hP hD hS ls (lv_sub hl [0, 1] rfl)
    · rw [br_p _ hc] at hf
      exact wb_M_one_12 C0 hR N G hG _ _ _ _ hf H locs hP hD hS ls (lv_sub hl [0, 1, 2] rfl)
def fm_M_one (N : Nat) (u : MS) (v1 : Int32) (v2 : Int32) : Option (MS × Unit) := fb_M_one_0 N () u v1 v2
set_option maxRecDepth 100000 in
set_option maxHeartbeats 4000000 in
theorem c_M_one (N : Nat) {l : Launch} {D : va_G} {cl : List vw_C} {cB cI cJ cZ cS : ClassId} {iM h0 : Nat} {ad : Nat → Nat} {u : MS} {sz : Nat} {v1 : Int32} {v2 : Int32} {x : MS × Unit} (hM : cl[iM]? = some (R_M, F_M, 171)) (hf : fm_M_one N u v1 v2 = some x) : Met l y_M_one (wd_ws y_M_one b_M_one 5 none) rm_M_one (mPc D cl cB cI cJ cZ cS iM h0 ad u sz [.ref h0, .int v1, .int v2]) (mQv D cl cB cI cJ cZ cS iM h0 ad (mA cB cI cJ cZ cS iM h0 ad u sz) x) 0 0 (mA cB cI cJ cZ cS iM h0 ad u sz) :=
  mMet (by decide) rfl hM (Nat.le_of_ble_eq_true rfl) (fun p e s m below meth c ls hsz C0 hP hD hS hl => by
    have hR : rm_M_one = rm_M_one := rfl
    exact wb_M_one_0 C0 hR N () trivial u _ _ x hf s.heap [] hP hD hS ls (lv_sub hl [0, 1, 2] rfl))
abbrev b_M_go : ByteArray := prog_14_method_127_code
def y_M_go : MethodName := ⟨R_M, "go", "(II)I"⟩
def w_M_go : List Cond := wd_ws y_M_go b_M_go 4 (some .int)
set_option maxRecDepth 100000 in
theorem k_M_go : Cond.code y_M_go b_M_go 4 (some .int) ∈ wd_tbl := wd_of 2899 rfl rfl
theorem d_M_go_0 : decode b_M_go 0 = .ok (.aload_n 0, 1) := by decide +kernel
theorem d_M_go_1 : decode b_M_go 1 = .ok (.iload_n 2, 1) := by decide +kernel
theorem d_M_go_2 : decode b_M_go 2 = .ok (.ifCond .lt 10, 3) := by decide +kernel
theorem d_M_go_5 : decode b_M_go 5 = .ok (.iload_n 2, 1) := by decide +kernel
theorem d_M_go_6 : decode b_M_go 6 = .ok (.sipush 500, 3) := by decide +kernel
theorem d_M_go_9 : decode b_M_go 9 = .ok (.if_icmp .le 7, 3) := by decide +kernel
theorem d_M_go_12 : decode b_M_go 12 = .ok (.iconst 1, 1) := by decide +kernel
theorem d_M_go_13 : decode b_M_go 13 = .ok (.goto 48, 3) := by decide +kernel
theorem d_M_go_16 : decode b_M_go 16 = .ok (.aload_n 0, 1) := by decide +kernel
theorem d_M_go_17 : decode b_M_go 17 = .ok (.iload_n 1, 1) := by decide +kernel
theorem d_M_go_18 : decode b_M_go 18 = .ok (.invokevirtual 880, 3) := by decide +kernel
theorem d_M_go_21 : decode b_M_go 21 = .ok (.ifCond .ne 7, 3) := by decide +kernel
theorem d_M_go_24 : decode b_M_go 24 = .ok (.iconst 2, 1) := by decide +kernel
theorem d_M_go_25 : decode b_M_go 25 = .ok (.goto 36, 3) := by decide +kernel
theorem d_M_go_28 : decode b_M_go 28 = .ok (.aload_n 0, 1) := by decide +kernel
theorem d_M_go_29 : decode b_M_go 29 = .ok (.getfield 255, 3) := by decide +kernel
theorem d_M_go_32 : decode b_M_go 32 = .ok (.iload_n 1, 1) := by decide +kernel
theorem d_M_go_33 : decode b_M_go 33 = .ok (.iaload, 1) := by decide +kernel
theorem d_M_go_34 : decode b_M_go 34 = .ok (.iconst 3, 1) := by decide +kernel
theorem d_M_go_35 : decode b_M_go 35 = .ok (.if_icmp .eq 21, 3) := by decide +kernel
theorem d_M_go_38 : decode b_M_go 38 = .ok (.aload_n 0, 1) := by decide +kernel
theorem d_M_go_39 : decode b_M_go 39 = .ok (.getfield 255, 3) := by decide +kernel
theorem d_M_go_42 : decode b_M_go 42 = .ok (.iload_n 1, 1) := by decide +kernel
theorem d_M_go_43 : decode b_M_go 43 = .ok (.iaload, 1) := by decide +kernel
theorem d_M_go_44 : decode b_M_go 44 = .ok (.iconst 1, 1) := by decide +kernel
theorem d_M_go_45 : decode b_M_go 45 = .ok (.if_icmp .ne 15, 3) := by decide +kernel
theorem d_M_go_48 : decode b_M_go 48 = .ok (.aload_n 0, 1) := by decide +kernel
theorem d_M_go_49 : decode b_M_go 49 = .ok (.iload_n 1, 1) := by decide +kernel
theorem d_M_go_50 : decode b_M_go 50 = .ok (.invokevirtual 883, 3) := by decide +kernel
theorem d_M_go_53 : decode b_M_go 53 = .ok (.ifCond .ne 7, 3) := by decide +kernel
theorem d_M_go_56 : decode b_M_go 56 = .ok (.iconst 3, 1) := by decide +kernel
theorem d_M_go_57 : decode b_M_go 57 = .ok (.goto 4, 3) := by decide +kernel
theorem d_M_go_60 : decode b_M_go 60 = .ok (.iconst 0, 1) := by decide +kernel
theorem d_M_go_61 : decode b_M_go 61 = .ok (.putfield 369, 3) := by decide +kernel
theorem d_M_go_64 : decode b_M_go 64 = .ok (.aload_n 0, 1) := by decide +kernel
theorem d_M_go_65 : decode b_M_go 65 = .ok (.getfield 369, 3) := by decide +kernel
theorem d_M_go_68 : decode b_M_go 68 = .ok (.ifCond .eq 5, 3) := by decide +kernel
theorem d_M_go_71 : decode b_M_go 71 = .ok (.iconst 0, 1) := by decide +kernel
theorem d_M_go_72 : decode b_M_go 72 = .ok (.ireturn, 1) := by decide +kernel
theorem d_M_go_73 : decode b_M_go 73 = .ok (.aload_n 0, 1) := by decide +kernel
theorem d_M_go_74 : decode b_M_go 74 = .ok (.iload_n 1, 1) := by decide +kernel
theorem d_M_go_75 : decode b_M_go 75 = .ok (.putfield 669, 3) := by decide +kernel
theorem d_M_go_78 : decode b_M_go 78 = .ok (.aload_n 0, 1) := by decide +kernel
theorem d_M_go_79 : decode b_M_go 79 = .ok (.iload_n 2, 1) := by decide +kernel
theorem d_M_go_80 : decode b_M_go 80 = .ok (.putfield 886, 3) := by decide +kernel
theorem d_M_go_83 : decode b_M_go 83 = .ok (.aload_n 0, 1) := by decide +kernel
theorem d_M_go_84 : decode b_M_go 84 = .ok (.iconst 0, 1) := by decide +kernel
theorem d_M_go_85 : decode b_M_go 85 = .ok (.putfield 889, 3) := by decide +kernel
theorem d_M_go_88 : decode b_M_go 88 = .ok (.aload_n 0, 1) := by decide +kernel
theorem d_M_go_89 : decode b_M_go 89 = .ok (.iconst 0, 1) := by decide +kernel
theorem d_M_go_90 : decode b_M_go 90 = .ok (.putfield 789, 3) := by decide +kernel
theorem d_M_go_93 : decode b_M_go 93 = .ok (.aload_n 0, 1) := by decide +kernel
theorem d_M_go_94 : decode b_M_go 94 = .ok (.iconst 0, 1) := by decide +kernel
theorem d_M_go_95 : decode b_M_go 95 = .ok (.putfield 795, 3) := by decide +kernel
theorem d_M_go_98 : decode b_M_go 98 = .ok (.aload_n 0, 1) := by decide +kernel
theorem d_M_go_99 : decode b_M_go 99 = .ok (.getfield 273, 3) := by decide +kernel
theorem d_M_go_102 : decode b_M_go 102 = .ok (.iload_n 1, 1) := by decide +kernel
theorem d_M_go_103 : decode b_M_go 103 = .ok (.iconst 0, 1) := by decide +kernel
theorem d_M_go_104 : decode b_M_go 104 = .ok (.iastore, 1) := by decide +kernel
theorem d_M_go_105 : decode b_M_go 105 = .ok (.aload_n 0, 1) := by decide +kernel
theorem d_M_go_106 : decode b_M_go 106 = .ok (.getfield 255, 3) := by decide +kernel
theorem d_M_go_109 : decode b_M_go 109 = .ok (.iload_n 1, 1) := by decide +kernel
theorem d_M_go_110 : decode b_M_go 110 = .ok (.iaload, 1) := by decide +kernel
theorem d_M_go_111 : decode b_M_go 111 = .ok (.iconst 5, 1) := by decide +kernel
theorem d_M_go_112 : decode b_M_go 112 = .ok (.if_icmp .ne 57, 3) := by decide +kernel
theorem d_M_go_115 : decode b_M_go 115 = .ok (.aload_n 0, 1) := by decide +kernel
theorem d_M_go_116 : decode b_M_go 116 = .ok (.getfield 255, 3) := by decide +kernel
theorem d_M_go_119 : decode b_M_go 119 = .ok (.iload_n 1, 1) := by decide +kernel
theorem d_M_go_120 : decode b_M_go 120 = .ok (.iconst 0, 1) := by decide +kernel
theorem d_M_go_121 : decode b_M_go 121 = .ok (.iastore, 1) := by decide +kernel
theorem d_M_go_122 : decode b_M_go 122 = .ok (.aload_n 0, 1) := by decide +kernel
theorem d_M_go_123 : decode b_M_go 123 = .ok (.invokevirtual 673, 3) := by decide +kernel
theorem d_M_go_126 : decode b_M_go 126 = .ok (.istore_n 3, 1) := by decide +kernel
theorem d_M_go_127 : decode b_M_go 127 = .ok (.aload_n 0, 1) := by decide +kernel
theorem d_M_go_128 : decode b_M_go 128 = .ok (.aload_n 0, 1) := by decide +kernel
theorem d_M_go_129 : decode b_M_go 129 = .ok (.getfield 215, 3) := by decide +kernel
theorem d_M_go_132 : decode b_M_go 132 = .ok (.iload_n 3, 1) := by decide +kernel
theorem d_M_go_133 : decode b_M_go 133 = .ok (.iaload, 1) := by decide +kernel
theorem d_M_go_134 : decode b_M_go 134 = .ok (.iconst (-1), 1) := by decide +kernel
theorem d_M_go_135 : decode b_M_go 135 = .ok (.if_icmp .eq 17, 3) := by decide +kernel
theorem d_M_go_138 : decode b_M_go 138 = .ok (.aload_n 0, 1) := by decide +kernel
theorem d_M_go_139 : decode b_M_go 139 = .ok (.getfield 131, 3) := by decide +kernel
theorem d_M_go_142 : decode b_M_go 142 = .ok (.aload_n 0, 1) := by decide +kernel
theorem d_M_go_143 : decode b_M_go 143 = .ok (.getfield 215, 3) := by decide +kernel
theorem d_M_go_146 : decode b_M_go 146 = .ok (.iload_n 3, 1) := by decide +kernel
theorem d_M_go_147 : decode b_M_go 147 = .ok (.iaload, 1) := by decide +kernel
theorem d_M_go_148 : decode b_M_go 148 = .ok (.iaload, 1) := by decide +kernel
theorem d_M_go_149 : decode b_M_go 149 = .ok (.goto 14, 3) := by decide +kernel
theorem d_M_go_152 : decode b_M_go 152 = .ok (.aload_n 0, 1) := by decide +kernel
theorem d_M_go_153 : decode b_M_go 153 = .ok (.getfield 137, 3) := by decide +kernel
theorem d_M_go_156 : decode b_M_go 156 = .ok (.aload_n 0, 1) := by decide +kernel
theorem d_M_go_157 : decode b_M_go 157 = .ok (.getfield 366, 3) := by decide +kernel
theorem d_M_go_160 : decode b_M_go 160 = .ok (.iload_n 1, 1) := by decide +kernel
theorem d_M_go_161 : decode b_M_go 161 = .ok (.iaload, 1) := by decide +kernel
theorem d_M_go_162 : decode b_M_go 162 = .ok (.iaload, 1) := by decide +kernel
theorem d_M_go_163 : decode b_M_go 163 = .ok (.invokevirtual 892, 3) := by decide +kernel
theorem d_M_go_166 : decode b_M_go 166 = .ok (.goto 33, 3) := by decide +kernel
theorem d_M_go_169 : decode b_M_go 169 = .ok (.aload_n 0, 1) := by decide +kernel
theorem d_M_go_170 : decode b_M_go 170 = .ok (.getfield 255, 3) := by decide +kernel
theorem d_M_go_173 : decode b_M_go 173 = .ok (.iload_n 1, 1) := by decide +kernel
theorem d_M_go_174 : decode b_M_go 174 = .ok (.iaload, 1) := by decide +kernel
theorem d_M_go_175 : decode b_M_go 175 = .ok (.iconst 1, 1) := by decide +kernel
theorem d_M_go_176 : decode b_M_go 176 = .ok (.if_icmp .ne 23, 3) := by decide +kernel
theorem d_M_go_179 : decode b_M_go 179 = .ok (.aload_n 0, 1) := by decide +kernel
theorem d_M_go_180 : decode b_M_go 180 = .ok (.getfield 255, 3) := by decide +kernel
theorem d_M_go_183 : decode b_M_go 183 = .ok (.iload_n 1, 1) := by decide +kernel
theorem d_M_go_184 : decode b_M_go 184 = .ok (.iconst 0, 1) := by decide +kernel
theorem d_M_go_185 : decode b_M_go 185 = .ok (.iastore, 1) := by decide +kernel
theorem d_M_go_186 : decode b_M_go 186 = .ok (.aload_n 0, 1) := by decide +kernel
theorem d_M_go_187 : decode b_M_go 187 = .ok (.aload_n 0, 1) := by decide +kernel
theorem d_M_go_188 : decode b_M_go 188 = .ok (.getfield 221, 3) := by decide +kernel
theorem d_M_go_191 : decode b_M_go 191 = .ok (.aload_n 0, 1) := by decide +kernel
theorem d_M_go_192 : decode b_M_go 192 = .ok (.invokevirtual 673, 3) := by decide +kernel
theorem d_M_go_195 : decode b_M_go 195 = .ok (.iaload, 1) := by decide +kernel
theorem d_M_go_196 : decode b_M_go 196 = .ok (.invokevirtual 895, 3) := by decide +kernel
theorem d_M_go_199 : decode b_M_go 199 = .ok (.aload_n 0, 1) := by decide +kernel
theorem d_M_go_200 : decode b_M_go 200 = .ok (.getfield 789, 3) := by decide +kernel
theorem d_M_go_203 : decode b_M_go 203 = .ok (.ifCond .ne 40, 3) := by decide +kernel
theorem d_M_go_206 : decode b_M_go 206 = .ok (.aload_n 0, 1) := by decide +kernel
theorem d_M_go_207 : decode b_M_go 207 = .ok (.getfield 255, 3) := by decide +kernel
theorem d_M_go_210 : decode b_M_go 210 = .ok (.iload_n 1, 1) := by decide +kernel
theorem d_M_go_211 : decode b_M_go 211 = .ok (.iaload, 1) := by decide +kernel
theorem d_M_go_212 : decode b_M_go 212 = .ok (.ifCond .ne 31, 3) := by decide +kernel
theorem d_M_go_215 : decode b_M_go 215 = .ok (.aload_n 0, 1) := by decide +kernel
theorem d_M_go_216 : decode b_M_go 216 = .ok (.getfield 221, 3) := by decide +kernel
theorem d_M_go_219 : decode b_M_go 219 = .ok (.aload_n 0, 1) := by decide +kernel
theorem d_M_go_220 : decode b_M_go 220 = .ok (.invokevirtual 673, 3) := by decide +kernel
theorem d_M_go_223 : decode b_M_go 223 = .ok (.iaload, 1) := by decide +kernel
theorem d_M_go_224 : decode b_M_go 224 = .ok (.istore_n 3, 1) := by decide +kernel
theorem d_M_go_225 : decode b_M_go 225 = .ok (.aload_n 0, 1) := by decide +kernel
theorem d_M_go_226 : decode b_M_go 226 = .ok (.iload_n 3, 1) := by decide +kernel
theorem d_M_go_227 : decode b_M_go 227 = .ok (.aload_n 0, 1) := by decide +kernel
theorem d_M_go_228 : decode b_M_go 228 = .ok (.getfield 56, 3) := by decide +kernel
theorem d_M_go_231 : decode b_M_go 231 = .ok (.iload_n 3, 1) := by decide +kernel
theorem d_M_go_232 : decode b_M_go 232 = .ok (.baload, 1) := by decide +kernel
theorem d_M_go_233 : decode b_M_go 233 = .ok (.invokevirtual 898, 3) := by decide +kernel
theorem d_M_go_236 : decode b_M_go 236 = .ok (.aload_n 0, 1) := by decide +kernel
theorem d_M_go_237 : decode b_M_go 237 = .ok (.invokevirtual 901, 3) := by decide +kernel
theorem d_M_go_240 : decode b_M_go 240 = .ok (.goto (-41), 3) := by decide +kernel
theorem d_M_go_243 : decode b_M_go 243 = .ok (.aload_n 0, 1) := by decide +kernel
theorem d_M_go_244 : decode b_M_go 244 = .ok (.invokevirtual 901, 3) := by decide +kernel
theorem d_M_go_247 : decode b_M_go 247 = .ok (.aload_n 0, 1) := by decide +kernel
theorem d_M_go_248 : decode b_M_go 248 = .ok (.getfield 889, 3) := by decide +kernel
theorem d_M_go_251 : decode b_M_go 251 = .ok (.ireturn, 1) := by decide +kernel
def rm_M_go : Room := { frames := 32, cells := 0, slots := 0, locals := 832 }
theorem rm_M_go_M_isProcess {R : Room} (hR : R = rm_M_go) : (rm_M_isProcess).frames + 1 ≤ R.frames ∧ 8 + (2 + 11) + (rm_M_isProcess).locals ≤ R.locals := by subst hR; decide
theorem rm_M_go_M_mayGo {R : Room} (hR : R = rm_M_go) : (rm_M_mayGo).frames + 1 ≤ R.frames ∧ 8 + (2 + 11) + (rm_M_mayGo).locals ≤ R.locals := by subst hR; decide
theorem rm_M_go_M_frame0 {R : Room} (hR : R = rm_M_go) : (rm_M_frame0).frames + 1 ≤ R.frames ∧ 8 + (1 + 11) + (rm_M_frame0).locals ≤ R.locals := by subst hR; decide
theorem rm_M_go_M_clausesOf {R : Room} (hR : R = rm_M_go) : (rm_M_clausesOf).frames + 1 ≤ R.frames ∧ 8 + (3 + 11) + (rm_M_clausesOf).locals ≤ R.locals := by subst hR; decide
theorem rm_M_go_M_goOnWith {R : Room} (hR : R = rm_M_go) : (rm_M_goOnWith).frames + 1 ≤ R.frames ∧ 8 + (3 + 11) + (rm_M_goOnWith).locals ≤ R.locals := by subst hR; decide
theorem rm_M_go_M_one {R : Room} (hR : R = rm_M_go) : (rm_M_one).frames + 1 ≤ R.frames ∧ 8 + (5 + 11) + (rm_M_one).locals ≤ R.locals := by subst hR; decide
theorem rm_M_go_M_allEnds {R : Room} (hR : R = rm_M_go) : (rm_M_allEnds).frames + 1 ≤ R.frames ∧ 8 + (2 + 11) + (rm_M_allEnds).locals ≤ R.locals := by subst hR; decide
def fb_M_go_243 (N : Nat) (G : (MS → Int32 → Option (MS × Int32))) (u : MS) : Option (MS × Int32) := bnd (fm_M_allEnds N u) (fun u1 _ => some (u1, (u1.1 165)))
set_option maxRecDepth 100000 in
set_option maxHeartbeats 4000000 in
theorem wb_M_go_243 {p : Program} {l : Launch} {e : Env} {R : Room} {s : State} {m : MethodId} {args : Array Value} {below : List Frame} {meth : Method} {c : Code} {D : va_G} {cl : List vw_C} {cB cI cJ cZ cS : ClassId} {A : Nat → Prop} {iM h0 : Nat} {ad : Nat → Nat} (C0 : MCx p s m args meth c b_M_go 4 (some .int) D cl cB cI cJ cZ cS iM A) (hR : R = rm_M_go) (N : Nat) (G : (MS → Int32 → Option (MS × Int32))) (hG : (∀ (u : MS) (v1 : Int32) (x : MS × Int32), G u v1 = some x → ∀ (H : Heap) (locs : List Loc), va_P D cl (wM cB cI cJ cZ cS iM h0 ad u) H → va_D A (wM cB cI cJ cZ cS iM h0 ad u) → va_S A s.heap H locs → ∀ (ls : Array Slot), lv_has ls 4 [(0, .ref h0), (1, .int v1)] → W p l e R s m args below meth c H locs 0 0 (MQ below (mQi D cl cB cI cJ cZ cS iM h0 ad A x) args s 0 0 A) (F0 m 199 ls []))) : ∀ (u : MS) (x : MS × Int32), fb_M_go_243 N G u = some x → ∀ (H : Heap) (locs : List Loc), va_P D cl (wM cB cI cJ cZ cS iM h0 ad u) H → va_D A (wM cB cI cJ cZ cS iM h0 ad u) → va_S A s.heap H locs → ∀ (ls : Array Slot), lv_has ls 4 [(0, .ref h0)] → W p l e R s m args below meth c H locs 0 0 (MQ below (mQi D cl cB cI cJ cZ cS iM h0 ad A x) args s 0 0 A) (F0 m 243 ls []) := by
  intro u x hf H locs hP hD hS ls hl
  obtain ⟨hx, hb, hr, hml, ht, hown, hM, hK, hA, hlocks⟩ := id C0
  unfold fb_M_go_243 at hf
  refine lv_aload_n hx hb d_M_go_243 rfl (lv_at hl 0 rfl) ?_
  obtain ⟨u1, r1, hc1, hf⟩ := bnd_some hf
  refine mV_v (As := []) (rest := []) C0 hP hD hS (c_M_allEnds N hM hc1) k_M_allEnds hl_M_allEnds hi_M_allEnds hs_M_allEnds hini_M rfl rfl hd_M_allEnds rfl (rm_M_go_M_allEnds hR) hl.1 (Nat.le_of_ble_eq_true rfl) d_M_go_244 rfl ⟨Nat.zero_le _, Nat.zero_le _⟩ (fun H locs hP hD hS => ?_)
  refine lv_aload_n hx hb d_M_go_247 rfl (lv_at hl 0 rfl) ?_
  refine ug_I hx hb ht hown hM hK hP 165 (by decide) lk_M_165 (by decide) d_M_go_248 ?_
  exact mr_i C0 hP hD hS hf d_M_go_251
def fb_M_go_199 (N : Nat) (G : (MS → Int32 → Option (MS × Int32))) (u : MS) (v1 : Int32) : Option (MS × Int32) := br (decide ((u.1 151) = 0)) (ck (inb v1 (ln 109)) (br (decide ((u.2.2.1 109 v1.toNatClampNeg) = 0)) (bnd (fm_M_frame0 N u) (fun u2 r2 => ck (inb r2 (ln 98)) (ck (inb (u2.2.2.1 98 r2.toNatClampNeg) (ln 23)) (bnd (fm_M_one N u2 (u2.2.2.1 98 r2.toNatClampNeg) (u2.2.2.1 23 (u2.2.2.1 98 r2.toNatClampNeg).toNatClampNeg)) (fun u3 _ => bnd (fm_M_allEnds N u3) (fun u4 _ => G u4 (v1))))))) (fb_M_go_243 N G u))) (fb_M_go_243 N G u)
set_option maxRecDepth 100000 in
set_option maxHeartbeats 4000000 in
theorem wb_M_go_199 {p : Program} {l : Launch} {e : Env} {R : Room} {s : State} {m : MethodId} {args : Array Value} {below : List Frame} {meth : Method} {c : Code} {D : va_G} {cl : List vw_C} {cB cI cJ cZ cS : ClassId} {A : Nat → Prop} {iM h0 : Nat} {ad : Nat → Nat} (C0 : MCx p s m args meth c b_M_go 4 (some .int) D cl cB cI cJ cZ cS iM A) (hR : R = rm_M_go) (N : Nat) (G : (MS → Int32 → Option (MS × Int32))) (hG : (∀ (u : MS) (v1 : Int32) (x : MS × Int32), G u v1 = some x → ∀ (H : Heap) (locs : List Loc), va_P D cl (wM cB cI cJ cZ cS iM h0 ad u) H → va_D A (wM cB cI cJ cZ cS iM h0 ad u) → va_S A s.heap H locs → ∀ (ls : Array Slot), lv_has ls 4 [(0, .ref h0), (1, .int v1)] → W p l e R s m args below meth c H locs 0 0 (MQ below (mQi D cl cB cI cJ cZ cS iM h0 ad A x) args s 0 0 A) (F0 m 199 ls []))) : ∀ (u : MS) (v1 : Int32) (x : MS × Int32), fb_M_go_199 N G u v1 = some x → ∀ (H : Heap) (locs : List Loc), va_P D cl (wM cB cI cJ cZ cS iM h0 ad u) H → va_D A (wM cB cI cJ cZ cS iM h0 ad u) → va_S A s.heap H locs → ∀ (ls : Array Slot), lv_has ls 4 [(0, .ref h0), (1, .int v1)] → W p l e R s m args below meth c H locs 0 0 (MQ below (mQi D cl cB cI cJ cZ cS iM h0 ad A x) args s 0 0 A) (F0 m 199 ls []) := by
  intro u v1 x hf H locs hP hD hS ls hl
  obtain ⟨hx, hb, hr, hml, ht, hown, hM, hK, hA, hlocks⟩ := id C0
  unfold fb_M_go_199 at hf
  refine lv_aload_n hx hb d_M_go_199 rfl (lv_at hl 0 rfl) ?_
  refine ug_I hx hb ht hown hM hK hP 151 (by decide) lk_M_151 (by decide) d_M_go_200 ?_
  refine lv_if_ne (tgt := 243) hx hb d_M_go_203 (by decide) (fun hc => ?_) (fun hc => ?_)
  · rw [br_n _ hc] at hf
    exact wb_M_go_243 C0 hR N G hG _ _ hf H locs hP hD hS ls (lv_sub hl [0] rfl)
  · rw [br_p _ hc] at hf
    refine lv_aload_n hx hb d_M_go_206 rfl (lv_at hl 0 rfl) ?_
    refine ug_R hx hb ht hown hM hK hP 109 (by decide) lk_M_109 (by decide) d_M_go_207 ?_
    refine lv_iload_n hx hb d_M_go_210 rfl (lv_at hl 1 rfl) ?_
    obtain ⟨hi9, hf⟩ := ck_some hf
    refine ul_I hx hb hK hP (by decide) (by decide) hi9 d_M_go_211 ?_
    refine lv_if_ne (tgt := 243) hx hb d_M_go_212 (by decide) (fun hc => ?_) (fun hc => ?_)
    · rw [br_n _ hc] at hf
      exact wb_M_go_243 C0 hR N G hG _ _ hf H locs hP hD hS ls (lv_sub hl [0] rfl)
    · rw [br_p _ hc] at hf
      refine lv_aload_n hx hb d_M_go_215 rfl (lv_at hl 0 rfl) ?_
      refine ug_R hx hb ht hown hM hK hP 98 (by decide) lk_M_98 (by decide) d_M_go_216 ?_
      refine lv_aload_n hx hb d_M_go_219 rfl (lv_at hl 0 rfl) ?_
      obtain ⟨u2, r2, hc2, hf⟩ := bnd_some hf
      refine mV_i (As := []) (rest := [.ref (ad 98)]) C0 hP hD hS (c_M_frame0 N hM hc2) k_M_frame0 hl_M_frame0 hi_M_frame0 hs_M_frame0 hini_M rfl rfl hd_M_frame0 rfl (rm_M_go_M_frame0 hR) hl.1 (Nat.le_of_ble_eq_true rfl) d_M_go_220 rfl ⟨Nat.zero_le _, Nat.zero_le _⟩ (fun H locs hP hD hS => ?_)
      obtain ⟨hi9, hf⟩ := ck_some hf
      refine ul_I hx hb hK hP (by decide) (by decide) hi9 d_M_go_223 ?_
      refine lv_istore_n (lv' := [(3, .int (u2.2.2.1 98 r2.toNatClampNeg)), (0, .ref h0), (1, .int v1)]) hx hb d_M_go_224 rfl hl (by decide) rfl (fun ls hl => ?_)
      refine lv_aload_n hx hb d_M_go_225 rfl (lv_at hl 1 rfl) ?_
      refine lv_iload_n hx hb d_M_go_226 rfl (lv_at hl 0 rfl) ?_
      refine lv_aload_n hx hb d_M_go_227 rfl (lv_at hl 1 rfl) ?_
      refine ug_R hx hb ht hown hM hK hP 23 (by decide) lk_M_23 (by decide) d_M_go_228 ?_
      refine lv_iload_n hx hb d_M_go_231 rfl (lv_at hl 0 rfl) ?_
      obtain ⟨hi9, hf⟩ := ck_some hf
      refine ul_B hx hb hK hP (by decide) (by decide) hi9 d_M_go_232 ?_
      obtain ⟨u3, r3, hc3, hf⟩ := bnd_some hf
      refine mV_v (As := [.int (u2.2.2.1 98 r2.toNatClampNeg), .int (u2.2.2.1 23 (u2.2.2.1 98 r2.toNatClampNeg).toNatClampNeg)]) (rest := []) C0 hP hD hS (c_M_one N hM hc3) k_M_one hl_M_one hi_M_one hs_M_one hini_M rfl rfl hd_M_one rfl (rm_M_go_M_one hR) hl.1 (Nat.le_of_ble_eq_true rfl) d_M_go_233 rfl ⟨Nat.zero_le _, Nat.zero_le _⟩ (fun H locs hP hD hS => ?_)
      refine lv_aload_n hx hb d_M_go_236 rfl (lv_at hl 1 rfl) ?_
      obtain ⟨u4, r4, hc4, hf⟩ := bnd_some hf
      refine mV_v (As := []) (rest := []) C0 hP hD hS (c_M_allEnds N hM hc4) k_M_allEnds hl_M_allEnds hi_M_allEnds hs_M_allEnds hini_M rfl rfl hd_M_allEnds rfl (rm_M_go_M_allEnds hR) hl.1 (Nat.le_of_ble_eq_true rfl) d_M_go_237 rfl ⟨Nat.zero_le _, Nat.zero_le _⟩ (fun H locs hP hD hS => ?_)
      refine lv_goto (tgt := 199) hx hb d_M_go_240 (by decide) ?_
      exact hG _ _ _ hf H locs hP hD hS ls (lv_sub hl [1, 2] rfl)
def fb_M_go_163 (N : Nat) (G : (MS → Int32 → Option (MS × Int32))) (u : MS) (v1 : Int32) (t1 : Int32) : Option (MS × Int32) := bnd (fm_M_clausesOf N u t1) (fun u5 _ => G u5 (v1))
set_option maxRecDepth 100000 in
set_option maxHeartbeats 4000000 in
theorem wb_M_go_163 {p : Program} {l : Launch} {e : Env} {R : Room} {s : State} {m : MethodId} {args : Array Value} {below : List Frame} {meth : Method} {c : Code} {D : va_G} {cl : List vw_C} {cB cI cJ cZ cS : ClassId} {A : Nat → Prop} {iM h0 : Nat} {ad : Nat → Nat} (C0 : MCx p s m args meth c b_M_go 4 (some .int) D cl cB cI cJ cZ cS iM A) (hR : R = rm_M_go) (N : Nat) (G : (MS → Int32 → Option (MS × Int32))) (hG : (∀ (u : MS) (v1 : Int32) (x : MS × Int32), G u v1 = some x → ∀ (H : Heap) (locs : List Loc), va_P D cl (wM cB cI cJ cZ cS iM h0 ad u) H → va_D A (wM cB cI cJ cZ cS iM h0 ad u) → va_S A s.heap H locs → ∀ (ls : Array Slot), lv_has ls 4 [(0, .ref h0), (1, .int v1)] → W p l e R s m args below meth c H locs 0 0 (MQ below (mQi D cl cB cI cJ cZ cS iM h0 ad A x) args s 0 0 A) (F0 m 199 ls []))) : ∀ (u : MS) (v1 : Int32) (t1 : Int32) (x : MS × Int32), fb_M_go_163 N G u v1 t1 = some x → ∀ (H : Heap) (locs : List Loc), va_P D cl (wM cB cI cJ cZ cS iM h0 ad u) H → va_D A (wM cB cI cJ cZ cS iM h0 ad u) → va_S A s.heap H locs → ∀ (ls : Array Slot), lv_has ls 4 [(0, .ref h0), (1, .int v1)] → W p l e R s m args below meth c H locs 0 0 (MQ below (mQi D cl cB cI cJ cZ cS iM h0 ad A x) args s 0 0 A) (F0 m 163 ls [.int t1, .ref h0]) := by
  intro u v1 t1 x hf H locs hP hD hS ls hl
  obtain ⟨hx, hb, hr, hml, ht, hown, hM, hK, hA, hlocks⟩ := id C0
  unfold fb_M_go_163 at hf
  obtain ⟨u5, r5, hc5, hf⟩ := bnd_some hf
  refine mV_v (As := [.int t1]) (rest := []) C0 hP hD hS (c_M_clausesOf N hM hc5) k_M_clausesOf hl_M_clausesOf hi_M_clausesOf hs_M_clausesOf hini_M rfl rfl hd_M_clausesOf rfl (rm_M_go_M_clausesOf hR) hl.1 (Nat.le_of_ble_eq_true rfl) d_M_go_163 rfl ⟨Nat.zero_le _, Nat.zero_le _⟩ (fun H locs hP hD hS => ?_)
  refine lv_goto (tgt := 199) hx hb d_M_go_166 (by decide) ?_
  exact hG _ _ _ hf H locs hP hD hS ls (lv_sub hl [0, 1] rfl)
def fb_M_go_61 (N : Nat) (G : (MS → Int32 → Option (MS × Int32))) (u : MS) (v1 : Int32) (v2 : Int32) (t1 : Int32) : Option (MS × Int32) := lt (upI u 3 t1) (fun w6 => br (decide ((w6.1 3) = 0)) (lt (upI w6 133 v1) (fun w7 => lt (upI w7 164 v2) (fun w8 => lt (upI w8 165 0) (fun w9 => lt (upI w9 151 0) (fun w10 => lt (upI w10 152 0) (fun w11 => ck (inb v1 (ln 115)) (lt (upA w11 115 (upd (w11.2.2.1 115) v1.toNatClampNeg 0)) (fun w12 => ck (inb v1 (ln 109)) (br (decide ((w12.2.2.1 109 v1.toNatClampNeg) = 5)) (ck (inb v1 (ln 109)) (lt (upA w12 109 (upd (w12.2.2.1 109) v1.toNatClampNeg 0)) (fun w16 => bnd (fm_M_frame0 N w16) (fun u17 r17 => ck (inb r17 (ln 96)) (br (decide ((u17.2.2.1 96 r17.toNatClampNeg) = (-1))) (ck (inb v1 (ln 170)) (ck (inb (u17.2.2.1 170 v1.toNatClampNeg) (ln 53)) (fb_M_go_163 N G u17 (v1) ((u17.2.2.1 53 (u17.2.2.1 170 v1.toNatClampNeg).toNatClampNeg))))) (ck (inb r17 (ln 96)) (ck (inb (u17.2.2.1 96 r17.toNatClampNeg) (ln 50)) (fb_M_go_163 N G u17 (v1) ((u17.2.2.1 50 (u17.2.2.1 96 r17.toNatClampNeg).toNatClampNeg)))))))))) (ck (inb v1 (ln 109)) (br (decide ((w12.2.2.1 109 v1.toNatClampNeg) = 1)) (ck (inb v1 (ln 109)) (lt (upA w12 109 (upd (w12.2.2.1 109) v1.toNatClampNeg 0)) (fun w13 => bnd (fm_M_frame0 N w13) (fun u14 r14 => ck (inb r14 (ln 98)) (bnd (fm_M_goOnWith N u14 (u14.2.2.1 98 r14.toNatClampNeg)) (fun u15 _ => G u15 (v1))))))) (G w12 (v1))))))))))))) (some (w6, 0)))
set_option maxRecDepth 100000 in
set_option maxHeartbeats 4000000 in
theorem wb_M_go_61 {p : Program} {l : Launch} {e : Env} {R : Room} {s : State} {m : MethodId} {args : Array Value} {below : List Frame} {meth : Method} {c : Code} {D : va_G} {cl : List vw_C} {cB cI cJ cZ cS : ClassId} {A : Nat → Prop} {iM h0 : Nat} {ad : Nat → Nat} (C0 : MCx p s m args meth c b_M_go 4 (some .int) D cl cB cI cJ cZ cS iM A) (hR : R = rm_M_go) (N : Nat) (G : (MS → Int32 → Option (MS × Int32))) (hG : (∀ (u : MS) (v1 : Int32) (x : MS × Int32), G u v1 = some x → ∀ (H : Heap) (locs : List Loc), va_P D cl (wM cB cI cJ cZ cS iM h0 ad u) H → va_D A (wM cB cI cJ cZ cS iM h0 ad u) → va_S A s.heap H locs → ∀ (ls : Array Slot), lv_has ls 4 [(0, .ref h0), (1, .int v1)] → W p l e R s m args below meth c H locs 0 0 (MQ below (mQi D cl cB cI cJ cZ cS iM h0 ad A x) args s 0 0 A) (F0 m 199 ls []))) : ∀ (u : MS) (v1 : Int32) (v2 : Int32) (t1 : Int32) (x : MS × Int32), fb_M_go_61 N G u v1 v2 t1 = some x → ∀ (H : Heap) (locs : List Loc), va_P D cl (wM cB cI cJ cZ cS iM h0 ad u) H → va_D A (wM cB cI cJ cZ cS iM h0 ad u) → va_S A s.heap H locs → ∀ (ls : Array Slot), lv_has ls 4 [(0, .ref h0), (1, .int v1), (2, .int v2)] → W p l e R s m args below meth c H locs 0 0 (MQ below (mQi D cl cB cI cJ cZ cS iM h0 ad A x) args s 0 0 A) (F0 m 61 ls [.int t1, .ref h0]) := by
  intro u v1 v2 t1 x hf H locs hP hD hS ls hl
  obtain ⟨hx, hb, hr, hml, ht, hown, hM, hK, hA, hlocks⟩ := id C0
  unfold fb_M_go_61 at hf
  refine up_I hx hb ht hown hM hK hP hD hS 3 (by decide) lk_M_3 (by decide) rfl rfl rfl d_M_go_61 (fun H locs hP hD hS => ?_)
  obtain ⟨w6, e6, hf⟩ := lt_some hf
  rw [← e6] at hP hD
  refine lv_aload_n hx hb d_M_go_64 rfl (lv_at hl 0 rfl) ?_
  refine ug_I hx hb ht hown hM hK hP 3 (by decide) lk_M_3 (by decide) d_M_go_65 ?_
  refine lv_if_eq (tgt := 73) hx hb d_M_go_68 (by decide) (fun hc => ?_) (fun hc => ?_)
  · rw [br_p _ hc] at hf
    refine lv_aload_n hx hb d_M_go_73 rfl (lv_at hl 0 rfl) ?_
    refine lv_iload_n hx hb d_M_go_74 rfl (lv_at hl 1 rfl) ?_
    refine up_I hx hb ht hown hM hK hP hD hS 133 (by decide) lk_M_133 (by decide) rfl rfl rfl d_M_go_75 (fun H locs hP hD hS => ?_)
    obtain ⟨w7, e7, hf⟩ := lt_some hf
    rw [← e7] at hP hD
    refine lv_aload_n hx hb d_M_go_78 rfl (lv_at hl 0 rfl) ?_
    refine lv_iload_n hx hb d_M_go_79 rfl (lv_at hl 2 rfl) ?_
    refine up_I hx hb ht hown hM hK hP hD hS 164 (by decide) lk_M_164 (by decide) rfl rfl rfl d_M_go_80 (fun H locs hP hD hS => ?_)
    obtain ⟨w8, e8, hf⟩ := lt_some hf
    rw [← e8] at hP hD
    refine lv_aload_n hx hb d_M_go_83 rfl (lv_at hl 0 rfl) ?_
    refine lv_iconst (v := 0) hx hb d_M_go_84 (by decide) ?_
    refine up_I hx hb ht hown hM hK hP hD hS 165 (by decide) lk_M_165 (by decide) rfl rfl rfl d_M_go_85 (fun H locs hP hD hS => ?_)
    obtain ⟨w9, e9, hf⟩ := lt_some hf
    rw [← e9] at hP hD
    refine lv_aload_n hx hb d_M_go_88 rfl (lv_at hl 0 rfl) ?_
    refine lv_iconst (v := 0) hx hb d_M_go_89 (by decide) ?_
    refine up_I hx hb ht hown hM hK hP hD hS 151 (by decide) lk_M_151 (by decide) rfl rfl rfl d_M_go_90 (fun H locs hP hD hS => ?_)
    obtain ⟨w10, e10, hf⟩ := lt_some hf
    rw [← e10] at hP hD
    refine lv_aload_n hx hb d_M_go_93 rfl (lv_at hl 0 rfl) ?_
    refine lv_iconst (v := 0) hx hb d_M_go_94 (by decide) ?_
    refine up_I hx hb ht hown hM hK hP hD hS 152 (by decide) lk_M_152 (by decide) rfl rfl rfl d_M_go_95 (fun H locs hP hD hS => ?_)
    obtain ⟨w11, e11, hf⟩ := lt_some hf
    rw [← e11] at hP hD
    refine lv_aload_n hx hb d_M_go_98 rfl (lv_at hl 0 rfl) ?_
    refine ug_R hx hb ht hown hM hK hP 115 (by decide) lk_M_115 (by decide) d_M_go_99 ?_
    refine lv_iload_n hx hb d_M_go_102 rfl (lv_at hl 1 rfl) ?_
    refine lv_iconst (v := 0) hx hb d_M_go_103 (by decide) ?_
    obtain ⟨hi9, hf⟩ := ck_some hf
    refine us_I hx hb hK hP hD hS (by decide) (by decide) hi9 d_M_go_104 (fun H locs hP hD hS => ?_)
    obtain ⟨w12, e12, hf⟩ := lt_some hf
    rw [← e12] at hP hD
    refine lv_aload_n hx hb d_M_go_105 rfl (lv_at hl 0 rfl) ?_
    refine ug_R hx hb ht hown hM hK hP 109 (by decide) lk_M_109 (by decide) d_M_go_106 ?_
    refine lv_iload_n hx hb d_M_go_109 rfl (lv_at hl 1 rfl) ?_
    obtain ⟨hi9, hf⟩ := ck_some hf
    refine ul_I hx hb hK hP (by decide) (by decide) hi9 d_M_go_110 ?_
    refine lv_iconst (v := 5) hx hb d_M_go_111 (by decide) ?_
    refine lv_icmp_ne (tgt := 169) hx hb d_M_go_112 (by decide) (fun hc => ?_) (fun hc => ?_)
    · rw [br_n _ hc] at hf
      refine lv_aload_n hx hb d_M_go_169 rfl (lv_at hl 0 rfl) ?_
      refine ug_R hx hb ht hown hM hK hP 109 (by decide) lk_M_109 (by decide) d_M_go_170 ?_
      refine lv_iload_n hx hb d_M_go_173 rfl (lv_at hl 1 rfl) ?_
      obtain ⟨hi9, hf⟩ := ck_some hf
      refine ul_I hx hb hK hP (by decide) (by decide) hi9 d_M_go_174 ?_
      refine lv_iconst (v := 1) hx hb d_M_go_175 (by decide) ?_
      refine lv_icmp_ne (tgt := 199) hx hb d_M_go_176 (by decide) (fun hc => ?_) (fun hc => ?_)
      · rw [br_n _ hc] at hf
        exact hG _ _ _ hf H locs hP hD hS ls (lv_sub hl [0, 1] rfl)
      · rw [br_p _ hc] at hf
        refine lv_aload_n hx hb d_M_go_179 rfl (lv_at hl 0 rfl) ?_
        refine ug_R hx hb ht hown hM hK hP 109 (by decide) lk_M_109 (by decide) d_M_go_180 ?_
        refine lv_iload_n hx hb d_M_go_183 rfl (lv_at hl 1 rfl) ?_
        refine lv_iconst (v := 0) hx hb d_M_go_184 (by decide) ?_
        obtain ⟨hi9, hf⟩ := ck_some hf
        refine us_I hx hb hK hP hD hS (by decide) (by decide) hi9 d_M_go_185 (fun H locs hP hD hS => ?_)
        obtain ⟨w13, e13, hf⟩ := lt_some hf
        rw [← e13] at hP hD
        refine lv_aload_n hx hb d_M_go_186 rfl (lv_at hl 0 rfl) ?_
        refine lv_aload_n hx hb d_M_go_187 rfl (lv_at hl 0 rfl) ?_
        refine ug_R hx hb ht hown hM hK hP 98 (by decide) lk_M_98 (by decide) d_M_go_188 ?_
        refine lv_aload_n hx hb d_M_go_191 rfl (lv_at hl 0 rfl) ?_
        obtain ⟨u14, r14, hc14, hf⟩ := bnd_some hf
        refine mV_i (As := []) (rest := [.ref (ad 98), .ref h0]) C0 hP hD hS (c_M_frame0 N hM hc14) k_M_frame0 hl_M_frame0 hi_M_frame0 hs_M_frame0 hini_M rfl rfl hd_M_frame0 rfl (rm_M_go_M_frame0 hR) hl.1 (Nat.le_of_ble_eq_true rfl) d_M_go_192 rfl ⟨Nat.zero_le _, Nat.zero_le _⟩ (fun H locs hP hD hS => ?_)
        obtain ⟨hi9, hf⟩ := ck_some hf
        refine ul_I hx hb hK hP (by decide) (by decide) hi9 d_M_go_195 ?_
        obtain ⟨u15, r15, hc15, hf⟩ := bnd_some hf
        refine mV_v (As := [.int (u14.2.2.1 98 r14.toNatClampNeg)]) (rest := []) C0 hP hD hS (c_M_goOnWith N hM hc15) k_M_goOnWith hl_M_goOnWith hi_M_goOnWith hs_M_goOnWith hini_M rfl rfl hd_M_goOnWith rfl (rm_M_go_M_goOnWith hR) hl.1 (Nat.le_of_ble_eq_true rfl) d_M_go_196 rfl ⟨Nat.zero_le _, Nat.zero_le _⟩ (fun H locs hP hD hS => ?_)
        exact hG _ _ _ hf H locs hP hD hS ls (lv_sub hl [0, 1] rfl)
    · rw [br_p _ hc] at hf
      refine lv_aload_n hx hb d_M_go_115 rfl (lv_at hl 0 rfl) ?_
      refine ug_R hx hb ht hown hM hK hP 109 (by decide) lk_M_109 (by decide) d_M_go_116 ?_
      refine lv_iload_n hx hb d_M_go_119 rfl (lv_at hl 1 rfl) ?_
      refine lv_iconst (v := 0) hx hb d_M_go_120 (by decide) ?_
      obtain ⟨hi9, hf⟩ := ck_some hf
      refine us_I hx hb hK hP hD hS (by decide) (by decide) hi9 d_M_go_121 (fun H locs hP hD hS => ?_)
      obtain ⟨w16, e16, hf⟩ := lt_some hf
      rw [← e16] at hP hD
      refine lv_aload_n hx hb d_M_go_122 rfl (lv_at hl 0 rfl) ?_
      obtain ⟨u17, r17, hc17, hf⟩ := bnd_some hf
      refine mV_i (As := []) (rest := []) C0 hP hD hS (c_M_frame0 N hM hc17) k_M_frame0 hl_M_frame0 hi_M_frame0 hs_M_frame0 hini_M rfl rfl hd_M_frame0 rfl (rm_M_go_M_frame0 hR) hl.1 (Nat.le_of_ble_eq_true rfl) d_M_go_123 rfl ⟨Nat.zero_le _, Nat.zero_le _⟩ (fun H locs hP hD hS => ?_)
      refine lv_istore_n (lv' := [(3, .int r17), (0, .ref h0), (1, .int v1), (2, .int v2)]) hx hb d_M_go_126 rfl hl (by decide) rfl (fun ls hl => ?_)
      refine lv_aload_n hx hb d_M_go_127 rfl (lv_at hl 1 rfl) ?_
      refine lv_aload_n hx hb d_M_go_128 rfl (lv_at hl 1 rfl) ?_
      refine ug_R hx hb ht hown hM hK hP 96 (by decide) lk_M_96 (by decide) d_M_go_129 ?_
      refine lv_iload_n hx hb d_M_go_132 rfl (lv_at hl 0 rfl) ?_
      obtain ⟨hi9, hf⟩ := ck_some hf
      refine ul_I hx hb hK hP (by decide) (by decide) hi9 d_M_go_133 ?_
      refine lv_iconst (v := (-1)) hx hb d_M_go_134 (by decide) ?_
      refine lv_icmp_eq (tgt := 152) hx hb d_M_go_135 (by decide) (fun hc => ?_) (fun hc => ?_)
      · rw [br_p _ hc] at hf
        refine lv_aload_n hx hb d_M_go_152 rfl (lv_at hl 1 rfl) ?_
        refine ug_R hx hb ht hown hM hK hP 53 (by decide) lk_M_53 (by decide) d_M_go_153 ?_
        refine lv_aload_n hx hb d_M_go_156 rfl (lv_at hl 1 rfl) ?_
        refine ug_R hx hb ht hown hM hK hP 170 (by decide) lk_M_170 (by decide) d_M_go_157 ?_
        refine lv_iload_n hx hb d_M_go_160 rfl (lv_at hl 2 rfl) ?_
        obtain ⟨hi9, hf⟩ := ck_some hf
        refine ul_I hx hb hK hP (by decide) (by decide) hi9 d_M_go_161 ?_
        obtain ⟨hi9, hf⟩ := ck_some hf
        refine ul_I hx hb hK hP (by decide) (by decide) hi9 d_M_go_162 ?_
        exact wb_M_go_163 C0 hR N G hG _ _ _ _ hf H locs hP hD hS ls (lv_sub hl [1, 2] rfl)
      · rw [br_n _ hc] at hf
        refine lv_aload_n hx hb d_M_go_138 rfl (lv_at hl 1 rfl) ?_
        refine ug_R hx hb ht hown hM hK hP 50 (by decide) lk_M_50 (by decide) d_M_go_139 ?_
        refine lv_aload_n hx hb d_M_go_142 rfl (lv_at hl 1 rfl) ?_
        refine ug_R hx hb ht hown hM hK hP 96 (by decide) lk_M_96 (by decide) d_M_go_143 ?_
        refine lv_iload_n hx hb d_M_go_146 rfl (lv_at hl 0 rfl) ?_
        obtain ⟨hi9, hf⟩ := ck_some hf
        refine ul_I hx hb hK hP (by decide) (by decide) hi9 d_M_go_147 ?_
        obtain ⟨hi9, hf⟩ := ck_some hf
        refine ul_I hx hb hK hP (by decide) (by decide) hi9 d_M_go_148 ?_
        refine lv_goto (tgt := 163) hx hb d_M_go_149 (by decide) ?_
        exact wb_M_go_163 C0 hR N G hG _ _ _ _ hf H locs hP hD hS ls (lv_sub hl [1, 2] rfl)
  · rw [br_n _ hc] at hf
    refine lv_iconst (v := 0) hx hb d_M_go_71 (by decide) ?_
    exact mr_i C0 hP hD hS hf d_M_go_72
def fb_M_go_60 (N : Nat) (G : (MS → Int32 → Option (MS × Int32))) (u : MS) (v1 : Int32) (v2 : Int32) : Option (MS × Int32) := fb_M_go_61 N G u (v1) (v2) (0)
set_option maxRecDepth 100000 in
set_option maxHeartbeats 4000000 in
theorem wb_M_go_60 {p : Program} {l : Launch} {e : Env} {R : Room} {s : State} {m : MethodId} {args : Array Value} {below : List Frame} {meth : Method} {c : Code} {D : va_G} {cl : List vw_C} {cB cI cJ cZ cS : ClassId} {A : Nat → Prop} {iM h0 : Nat} {ad : Nat → Nat} (C0 : MCx p s m args meth c b_M_go 4 (some .int) D cl cB cI cJ cZ cS iM A) (hR : R = rm_M_go) (N : Nat) (G : (MS → Int32 → Option (MS × Int32))) (hG : (∀ (u : MS) (v1 : Int32) (x : MS × Int32), G u v1 = some x → ∀ (H : Heap) (locs : List Loc), va_P D cl (wM cB cI cJ cZ cS iM h0 ad u) H → va_D A (wM cB cI cJ cZ cS iM h0 ad u) → va_S A s.heap H locs → ∀ (ls : Array Slot), lv_has ls 4 [(0, .ref h0), (1, .int v1)] → W p l e R s m args below meth c H locs 0 0 (MQ below (mQi D cl cB cI cJ cZ cS iM h0 ad A x) args s 0 0 A) (F0 m 199 ls []))) : ∀ (u : MS) (v1 : Int32) (v2 : Int32) (x : MS × Int32), fb_M_go_60 N G u v1 v2 = some x → ∀ (H : Heap) (locs : List Loc), va_P D cl (wM cB cI cJ cZ cS iM h0 ad u) H → va_D A (wM cB cI cJ cZ cS iM h0 ad u) → va_S A s.heap H locs → ∀ (ls : Array Slot), lv_has ls 4 [(0, .ref h0), (1, .int v1), (2, .int v2)] → W p l e R s m args below meth c H locs 0 0 (MQ below (mQi D cl cB cI cJ cZ cS iM h0 ad A x) args s 0 0 A) (F0 m 60 ls [.ref h0]) := by
  intro u v1 v2 x hf H locs hP hD hS ls hl
  obtain ⟨hx, hb, hr, hml, ht, hown, hM, hK, hA, hlocks⟩ := id C0
  unfold fb_M_go_60 at hf
  refine lv_iconst (v := 0) hx hb d_M_go_60 (by decide) ?_
  exact wb_M_go_61 C0 hR N G hG _ _ _ _ _ hf H locs hP hD hS ls (lv_sub hl [0, 1, 2] rfl)
def fb_M_go_56 (N : Nat) (G : (MS → Int32 → Option (MS × Int32))) (u : MS) (v1 : Int32) (v2 : Int32) : Option (MS × Int32) := fb_M_go_61 N G u (v1) (v2) (3)
set_option maxRecDepth 100000 in
set_option maxHeartbeats 4000000 in
theorem wb_M_go_56 {p : Program} {l : Launch} {e : Env} {R : Room} {s : State} {m : MethodId} {args : Array Value} {below : List Frame} {meth : Method} {c : Code} {D : va_G} {cl : List vw_C} {cB cI cJ cZ cS : ClassId} {A : Nat → Prop} {iM h0 : Nat} {ad : Nat → Nat} (C0 : MCx p s m args meth c b_M_go 4 (some .int) D cl cB cI cJ cZ cS iM A) (hR : R = rm_M_go) (N : Nat) (G : (MS → Int32 → Option (MS × Int32))) (hG : (∀ (u : MS) (v1 : Int32) (x : MS × Int32), G u v1 = some x → ∀ (H : Heap) (locs : List Loc), va_P D cl (wM cB cI cJ cZ cS iM h0 ad u) H → va_D A (wM cB cI cJ cZ cS iM h0 ad u) → va_S A s.heap H locs → ∀ (ls : Array Slot), lv_has ls 4 [(0, .ref h0), (1, .int v1)] → W p l e R s m args below meth c H locs 0 0 (MQ below (mQi D cl cB cI cJ cZ cS iM h0 ad A x) args s 0 0 A) (F0 m 199 ls []))) : ∀ (u : MS) (v1 : Int32) (v2 : Int32) (x : MS × Int32), fb_M_go_56 N G u v1 v2 = some x → ∀ (H : Heap) (locs : List Loc), va_P D cl (wM cB cI cJ cZ cS iM h0 ad u) H → va_D A (wM cB cI cJ cZ cS iM h0 ad u) → va_S A s.heap H locs → ∀ (ls : Array Slot), lv_has ls 4 [(0, .ref h0), (1, .int v1), (2, .int v2)] → W p l e R s m args below meth c H locs 0 0 (MQ below (mQi D cl cB cI cJ cZ cS iM h0 ad A x) args s 0 0 A) (F0 m 56 ls [.ref h0]) := by
  intro u v1 v2 x hf H locs hP hD hS ls hl
  obtain ⟨hx, hb, hr, hml, ht, hown, hM, hK, hA, hlocks⟩ := id C0
  unfold fb_M_go_56 at hf
  refine lv_iconst (v := 3) hx hb d_M_go_56 (by decide) ?_
  refine lv_goto (tgt := 61) hx hb d_M_go_57 (by decide) ?_
  exact wb_M_go_61 C0 hR N G hG _ _ _ _ _ hf H locs hP hD hS ls (lv_sub hl [0, 1, 2] rfl)
def fb_M_go_12 (N : Nat) (G : (MS → Int32 → Option (MS × Int32))) (u : MS) (v1 : Int32) (v2 : Int32) : Option (MS × Int32) := fb_M_go_61 N G u (v1) (v2) (1)
set_option maxRecDepth 100000 in
set_option maxHeartbeats 4000000 in
theorem wb_M_go_12 {p : Program} {l : Launch} {e : Env} {R : Room} {s : State} {m : MethodId} {args : Array Value} {below : List Frame} {meth : Method} {c : Code} {D : va_G} {cl : List vw_C} {cB cI cJ cZ cS : ClassId} {A : Nat → Prop} {iM h0 : Nat} {ad : Nat → Nat} (C0 : MCx p s m args meth c b_M_go 4 (some .int) D cl cB cI cJ cZ cS iM A) (hR : R = rm_M_go) (N : Nat) (G : (MS → Int32 → Option (MS × Int32))) (hG : (∀ (u : MS) (v1 : Int32) (x : MS × Int32), G u v1 = some x → ∀ (H : Heap) (locs : List Loc), va_P D cl (wM cB cI cJ cZ cS iM h0 ad u) H → va_D A (wM cB cI cJ cZ cS iM h0 ad u) → va_S A s.heap H locs → ∀ (ls : Array Slot), lv_has ls 4 [(0, .ref h0), (1, .int v1)] → W p l e R s m args below meth c H locs 0 0 (MQ below (mQi D cl cB cI cJ cZ cS iM h0 ad A x) args s 0 0 A) (F0 m 199 ls []))) : ∀ (u : MS) (v1 : Int32) (v2 : Int32) (x : MS × Int32), fb_M_go_12 N G u v1 v2 = some x → ∀ (H : Heap) (locs : List Loc), va_P D cl (wM cB cI cJ cZ cS iM h0 ad u) H → va_D A (wM cB cI cJ cZ cS iM h0 ad u) → va_S A s.heap H locs → ∀ (ls : Array Slot), lv_has ls 4 [(0, .ref h0), (1, .int v1), (2, .int v2)] → W p l e R s m args below meth c H locs 0 0 (MQ below (mQi D cl cB cI cJ cZ cS iM h0 ad A x) args s 0 0 A) (F0 m 12 ls [.ref h0]) := by
  intro u v1 v2 x hf H locs hP hD hS ls hl
  obtain ⟨hx, hb, hr, hml, ht, hown, hM, hK, hA, hlocks⟩ := id C0
  unfold fb_M_go_12 at hf
  refine lv_iconst (v := 1) hx hb d_M_go_12 (by decide) ?_
  refine lv_goto (tgt := 61) hx hb d_M_go_13 (by decide) ?_
  exact wb_M_go_61 C0 hR N G hG _ _ _ _ _ hf H locs hP hD hS ls (lv_sub hl [0, 1, 2] rfl)
