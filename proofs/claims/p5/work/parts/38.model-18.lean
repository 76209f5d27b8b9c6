def fb_M_go_0 (N : Nat) (G : (MS → Int32 → Option (MS × Int32))) (u : MS) (v1 : Int32) (v2 : Int32) : Option (MS × Int32) := br (decide (v2 < 0)) (fb_M_go_12 N G u (v1) (v2)) (br (decide (v2 ≤ 500)) (bnd (fm_M_isProcess N u v1) (fun u18 r18 => br (decide (r18 = 0)) (fb_M_go_61 N G u18 (v1) (v2) (2)) (ck (inb v1 (ln 109)) (br (decide ((u18.2.2.1 109 v1.toNatClampNeg) = 3)) (fb_M_go_56 N G u18 (v1) (v2)) (ck (inb v1 (ln 109)) (br (decide ((u18.2.2.1 109 v1.toNatClampNeg) = 1)) (bnd (fm_M_mayGo N u18 v1) (fun u19 r19 => br (decide (r19 = 0)) (fb_M_go_56 N G u19 (v1) (v2)) (fb_M_go_60 N G u19 (v1) (v2)))) (fb_M_go_60 N G u18 (v1) (v2)))))))) (fb_M_go_12 N G u (v1) (v2)))
set_option maxRecDepth 100000 in
set_option maxHeartbeats 4000000 in
theorem wb_M_go_0 {p : Program} {l : Launch} {e : Env} {R : Room} {s : State} {m : MethodId} {args : Array Value} {below : List Frame} {meth : Method} {c : Code} {D : va_G} {cl : List vw_C} {cB cI cJ cZ cS : ClassId} {A : Nat → Prop} {iM h0 : Nat} {ad : Nat → Nat} (C0 : MCx p s m args meth c b_M_go 4 (some .int) D cl cB cI cJ cZ cS iM A) (hR : R = rm_M_go) (N : Nat) (G : (MS → Int32 → Option (MS × Int32))) (hG : (∀ (u : MS) (v1 : Int32) (x : MS × Int32), G u v1 = some x → ∀ (H : Heap) (locs : List Loc), va_P D cl (wM cB cI cJ cZ cS iM h0 ad u) H → va_D A (wM cB cI cJ cZ cS iM h0 ad u) → va_S A s.heap H locs → ∀ (ls : Array Slot), lv_has ls 4 [(0, .ref h0), (1, .int v1)] → W p l e R s m args below meth c H locs 0 0 (MQ below (mQi D cl cB cI cJ cZ cS iM h0 ad A x) args s 0 0 A) (F0 m 199 ls []))) : ∀ (u : MS) (v1 : Int32) (v2 : Int32) (x : MS × Int32), fb_M_go_0 N G u v1 v2 = some x → ∀ (H : Heap) (locs : List Loc), va_P D cl (wM cB cI cJ cZ cS iM h0 ad u) H → va_D A (wM cB cI cJ cZ cS iM h0 ad u) → va_S A s.heap H locs → ∀ (ls : Array Slot), lv_has ls 4 [(0, .ref h0), (1, .int v1), (2, .int v2)] → W p l e R s m args below meth c H locs 0 0 (MQ below (mQi D cl cB cI cJ cZ cS iM h0 ad A x) args s 0 0 A) (F0 m 0 ls []) := by
  intro u v1 v2 x hf H locs hP hD hS ls hl
  obtain ⟨hx, hb, hr, hml, ht, hown, hM, hK, hA, hlocks⟩ := id C0
  unfold fb_M_go_0 at hf
  refine lv_aload_n hx hb d_M_go_0 rfl (lv_at hl 0 rfl) ?_
  refine lv_iload_n hx hb d_M_go_1 rfl (lv_at hl 2 rfl) ?_
  refine lv_if_lt (tgt := 12) hx hb d_M_go_2 (by decide) (fun hc => ?_) (fun hc => ?_)
  · rw [br_p _ hc] at hf
    exact wb_M_go_12 C0 hR N G hG _ _ _ _ hf H locs hP hD hS ls (lv_sub hl [0, 1, 2] rfl)
  · rw [br_n _ hc] at hf
    refine lv_iload_n hx hb d_M_go_5 rfl (lv_at hl 2 rfl) ?_
    refine lv_sipush (v := 500) hx hb d_M_go_6 (by decide) ?_
    refine lv_icmp_le (tgt := 16) hx hb d_M_go_9 (by decide) (fun hc => ?_) (fun hc => ?_)
    · rw [br_p _ hc] at hf
      refine lv_aload_n hx hb d_M_go_16 rfl (lv_at hl 0 rfl) ?_
      refine lv_iload_n hx hb d_M_go_17 rfl (lv_at hl 1 rfl) ?_
      obtain ⟨u18, r18, hc18, hf⟩ := bnd_some hf
      refine mV_i (As := [.int v1]) (rest := [.ref h0]) C0 hP hD hS (c_M_isProcess N hM hc18) k_M_isProcess hl_M_isProcess hi_M_isProcess hs_M_isProcess hini_M rfl rfl hd_M_isProcess rfl (rm_M_go_M_isProcess hR) hl.1 (Nat.le_of_ble_eq_true rfl) d_M_go_18 rfl ⟨Nat.zero_le _, Nat.zero_le _⟩ (fun H locs hP hD hS => ?_)
      refine lv_if_ne (tgt := 28) hx hb d_M_go_21 (by decide) (fun hc => ?_) (fun hc => ?_)
      · rw [br_n _ hc] at hf
        refine lv_aload_n hx hb d_M_go_28 rfl (lv_at hl 0 rfl) ?_
        refine ug_R hx hb ht hown hM hK hP 109 (by decide) lk_M_109 (by decide) d_M_go_29 ?_
        refine lv_iload_n hx hb d_M_go_32 rfl (lv_at hl 1 rfl) ?_
        obtain ⟨hi9, hf⟩ := ck_some hf
        refine ul_I hx hb hK hP (by decide) (by decide) hi9 d_M_go_33 ?_
        refine lv_iconst (v := 3) hx hb d_M_go_34 (by decide) ?_
        refine lv_icmp_eq (tgt := 56) hx hb d_M_go_35 (by decide) (fun hc => ?_) (fun hc => ?_)
        · rw [br_p _ hc] at hf
          exact wb_M_go_56 C0 hR N G hG _ _ _ _ hf H locs hP hD hS ls (lv_sub hl [0, 1, 2] rfl)
        · rw [br_n _ hc] at hf
          refine lv_aload_n hx hb d_M_go_38 rfl (lv_at hl 0 rfl) ?_
          refine ug_R hx hb ht hown hM hK hP 109 (by decide) lk_M_109 (by decide) d_M_go_39 ?_
          refine lv_iload_n hx hb d_M_go_42 rfl (lv_at hl 1 rfl) ?_
          obtain ⟨hi9, hf⟩ := ck_some hf
          refine ul_I hx hb hK hP (by decide) (by decide) hi9 d_M_go_43 ?_
          refine lv_iconst (v := 1) hx hb d_M_go_44 (by decide) ?_
          refine lv_icmp_ne (tgt := 60) hx hb d_M_go_45 (by decide) (fun hc => ?_) (fun hc => ?_)
          · rw [br_n _ hc] at hf
            exact wb_M_go_60 C0 hR N G hG _ _ _ _ hf H locs hP hD hS ls (lv_sub hl [0, 1, 2] rfl)
          · rw [br_p _ hc] at hf
            refine lv_aload_n hx hb d_M_go_48 rfl (lv_at hl 0 rfl) ?_
            refine lv_iload_n hx hb d_M_go_49 rfl (lv_at hl 1 rfl) ?_
            obtain ⟨u19, r19, hc19, hf⟩ := bnd_some hf
            refine mV_i (As := [.int v1]) (rest := [.ref h0]) C0 hP hD hS (c_M_mayGo N hM hc19) k_M_mayGo hl_M_mayGo hi_M_mayGo hs_M_mayGo hini_M rfl rfl hd_M_mayGo rfl (rm_M_go_M_mayGo hR) hl.1 (Nat.le_of_ble_eq_true rfl) d_M_go_50 rfl ⟨Nat.zero_le _, Nat.zero_le _⟩ (fun H locs hP hD hS => ?_)
            refine lv_if_ne (tgt := 60) hx hb d_M_go_53 (by decide) (fun hc => ?_) (fun hc => ?_)
            · rw [br_n _ hc] at hf
              exact wb_M_go_60 C0 hR N G hG _ _ _ _ hf H locs hP hD hS ls (lv_sub hl [0, 1, 2] rfl)
            · rw [br_p _ hc] at hf
              exact wb_M_go_56 C0 hR N G hG _ _ _ _ hf H locs hP hD hS ls (lv_sub hl [0, 1, 2] rfl)
      · rw [br_p _ hc] at hf
        refine lv_iconst (v := 2) hx hb d_M_go_24 (by decide) ?_
        refine lv_goto (tgt := 61) hx hb d_M_go_25 (by decide) ?_
        exact wb_M_go_61 C0 hR N G hG _ _ _ _ _ hf H locs hP hD hS ls (lv_sub hl [0, 1, 2] rfl)
    · rw [br_n _ hc] at hf
      exact wb_M_go_12 C0 hR N G hG _ _ _ _ hf H locs hP hD hS ls (lv_sub hl [0, 1, 2] rfl)
def gg_M_go (N : Nat) : Nat → ((MS → Int32 → Option (MS × Int32)))
  | 0 => fun _ _ => none
  | n + 1 => fb_M_go_199 N (gg_M_go N n)
theorem wg_M_go {p : Program} {l : Launch} {e : Env} {R : Room} {s : State} {m : MethodId} {args : Array Value} {below : List Frame} {meth : Method} {c : Code} {D : va_G} {cl : List vw_C} {cB cI cJ cZ cS : ClassId} {A : Nat → Prop} {iM h0 : Nat} {ad : Nat → Nat} (C0 : MCx p s m args meth c b_M_go 4 (some .int) D cl cB cI cJ cZ cS iM A) (hR : R = rm_M_go) (N : Nat) : ∀ n : Nat, (∀ (u : MS) (v1 : Int32) (x : MS × Int32), gg_M_go N n u v1 = some x → ∀ (H : Heap) (locs : List Loc), va_P D cl (wM cB cI cJ cZ cS iM h0 ad u) H → va_D A (wM cB cI cJ cZ cS iM h0 ad u) → va_S A s.heap H locs → ∀ (ls : Array Slot), lv_has ls 4 [(0, .ref h0), (1, .int v1)] → W p l e R s m args below meth c H locs 0 0 (MQ below (mQi D cl cB cI cJ cZ cS iM h0 ad A x) args s 0 0 A) (F0 m 199 ls []))
  | 0 => (fun u v1 x hf => by cases hf)
  | n + 1 => wb_M_go_199 C0 hR N (gg_M_go N n) (wg_M_go C0 hR N n)
def fm_M_go (N : Nat) (u : MS) (v1 : Int32) (v2 : Int32) : Option (MS × Int32) := fb_M_go_0 N (gg_M_go N N) u v1 v2
set_option maxRecDepth 100000 in
set_option maxHeartbeats 4000000 in
theorem c_M_go (N : Nat) {l : Launch} {D : va_G} {cl : List vw_C} {cB cI cJ cZ cS : ClassId} {iM h0 : Nat} {ad : Nat → Nat} {u : MS} {sz : Nat} {v1 : Int32} {v2 : Int32} {x : MS × Int32} (hM : cl[iM]? = some (R_M, F_M, 171)) (hf : fm_M_go N u v1 v2 = some x) : Met l y_M_go (wd_ws y_M_go b_M_go 4 (some .int)) rm_M_go (mPc D cl cB cI cJ cZ cS iM h0 ad u sz [.ref h0, .int v1, .int v2]) (mQi D cl cB cI cJ cZ cS iM h0 ad (mA cB cI cJ cZ cS iM h0 ad u sz) x) 0 0 (mA cB cI cJ cZ cS iM h0 ad u sz) :=
  mMet (by decide) rfl hM (Nat.le_of_ble_eq_true rfl) (fun p e s m below meth c ls hsz C0 hP hD hS hl => by
    have hR : rm_M_go = rm_M_go := rfl
    exact wb_M_go_0 C0 hR N (gg_M_go N N) (wg_M_go C0 hR N N) u _ _ x hf s.heap [] hP hD hS ls (lv_sub hl [0, 1, 2] rfl))
abbrev b_M_begin : ByteArray := prog_14_method_160_code
def y_M_begin : MethodName := ⟨R_M, "begin", "(I)V"⟩
def w_M_begin : List Cond := wd_ws y_M_begin b_M_begin 3 none
set_option maxRecDepth 100000 in
theorem k_M_begin : Cond.code y_M_begin b_M_begin 3 none ∈ wd_tbl := wd_of 3245 rfl rfl
theorem d_M_begin_0 : decode b_M_begin 0 = .ok (.aload_n 0, 1) := by decide +kernel
theorem d_M_begin_1 : decode b_M_begin 1 = .ok (.aload_n 0, 1) := by decide +kernel
theorem d_M_begin_2 : decode b_M_begin 2 = .ok (.getfield 654, 3) := by decide +kernel
theorem d_M_begin_5 : decode b_M_begin 5 = .ok (.ifCond .ne 7, 3) := by decide +kernel
theorem d_M_begin_8 : decode b_M_begin 8 = .ok (.iconst 1, 1) := by decide +kernel
theorem d_M_begin_9 : decode b_M_begin 9 = .ok (.goto 33, 3) := by decide +kernel
theorem d_M_begin_12 : decode b_M_begin 12 = .ok (.iload_n 1, 1) := by decide +kernel
theorem d_M_begin_13 : decode b_M_begin 13 = .ok (.ifCond .lt 11, 3) := by decide +kernel
theorem d_M_begin_16 : decode b_M_begin 16 = .ok (.iload_n 1, 1) := by decide +kernel
theorem d_M_begin_17 : decode b_M_begin 17 = .ok (.aload_n 0, 1) := by decide +kernel
theorem d_M_begin_18 : decode b_M_begin 18 = .ok (.getfield 508, 3) := by decide +kernel
theorem d_M_begin_21 : decode b_M_begin 21 = .ok (.if_icmp .lt 7, 3) := by decide +kernel
theorem d_M_begin_24 : decode b_M_begin 24 = .ok (.iconst 2, 1) := by decide +kernel
theorem d_M_begin_25 : decode b_M_begin 25 = .ok (.goto 17, 3) := by decide +kernel
theorem d_M_begin_28 : decode b_M_begin 28 = .ok (.aload_n 0, 1) := by decide +kernel
theorem d_M_begin_29 : decode b_M_begin 29 = .ok (.getfield 125, 3) := by decide +kernel
theorem d_M_begin_32 : decode b_M_begin 32 = .ok (.iload_n 1, 1) := by decide +kernel
theorem d_M_begin_33 : decode b_M_begin 33 = .ok (.iaload, 1) := by decide +kernel
theorem d_M_begin_34 : decode b_M_begin 34 = .ok (.ifCond .le 7, 3) := by decide +kernel
theorem d_M_begin_37 : decode b_M_begin 37 = .ok (.iconst 3, 1) := by decide +kernel
theorem d_M_begin_38 : decode b_M_begin 38 = .ok (.goto 4, 3) := by decide +kernel
theorem d_M_begin_41 : decode b_M_begin 41 = .ok (.iconst 0, 1) := by decide +kernel
theorem d_M_begin_42 : decode b_M_begin 42 = .ok (.putfield 369, 3) := by decide +kernel
theorem d_M_begin_45 : decode b_M_begin 45 = .ok (.aload_n 0, 1) := by decide +kernel
theorem d_M_begin_46 : decode b_M_begin 46 = .ok (.getfield 369, 3) := by decide +kernel
theorem d_M_begin_49 : decode b_M_begin 49 = .ok (.ifCond .eq 4, 3) := by decide +kernel
theorem d_M_begin_52 : decode b_M_begin 52 = .ok (.return_, 1) := by decide +kernel
theorem d_M_begin_53 : decode b_M_begin 53 = .ok (.aload_n 0, 1) := by decide +kernel
theorem d_M_begin_54 : decode b_M_begin 54 = .ok (.iconst 1, 1) := by decide +kernel
theorem d_M_begin_55 : decode b_M_begin 55 = .ok (.putfield 657, 3) := by decide +kernel
theorem d_M_begin_58 : decode b_M_begin 58 = .ok (.aload_n 0, 1) := by decide +kernel
theorem d_M_begin_59 : decode b_M_begin 59 = .ok (.iconst 0, 1) := by decide +kernel
theorem d_M_begin_60 : decode b_M_begin 60 = .ok (.putfield 989, 3) := by decide +kernel
theorem d_M_begin_63 : decode b_M_begin 63 = .ok (.aload_n 0, 1) := by decide +kernel
theorem d_M_begin_64 : decode b_M_begin 64 = .ok (.iconst 0, 1) := by decide +kernel
theorem d_M_begin_65 : decode b_M_begin 65 = .ok (.putfield 962, 3) := by decide +kernel
theorem d_M_begin_68 : decode b_M_begin 68 = .ok (.aload_n 0, 1) := by decide +kernel
theorem d_M_begin_69 : decode b_M_begin 69 = .ok (.iconst 0, 1) := by decide +kernel
theorem d_M_begin_70 : decode b_M_begin 70 = .ok (.putfield 904, 3) := by decide +kernel
theorem d_M_begin_73 : decode b_M_begin 73 = .ok (.aload_n 0, 1) := by decide +kernel
theorem d_M_begin_74 : decode b_M_begin 74 = .ok (.iconst 0, 1) := by decide +kernel
theorem d_M_begin_75 : decode b_M_begin 75 = .ok (.putfield 1001, 3) := by decide +kernel
theorem d_M_begin_78 : decode b_M_begin 78 = .ok (.aload_n 0, 1) := by decide +kernel
theorem d_M_begin_79 : decode b_M_begin 79 = .ok (.iconst 0, 1) := by decide +kernel
theorem d_M_begin_80 : decode b_M_begin 80 = .ok (.putfield 757, 3) := by decide +kernel
theorem d_M_begin_83 : decode b_M_begin 83 = .ok (.aload_n 0, 1) := by decide +kernel
theorem d_M_begin_84 : decode b_M_begin 84 = .ok (.iconst 0, 1) := by decide +kernel
theorem d_M_begin_85 : decode b_M_begin 85 = .ok (.putfield 1010, 3) := by decide +kernel
theorem d_M_begin_88 : decode b_M_begin 88 = .ok (.aload_n 0, 1) := by decide +kernel
theorem d_M_begin_89 : decode b_M_begin 89 = .ok (.iconst 0, 1) := by decide +kernel
theorem d_M_begin_90 : decode b_M_begin 90 = .ok (.putfield 743, 3) := by decide +kernel
theorem d_M_begin_93 : decode b_M_begin 93 = .ok (.aload_n 0, 1) := by decide +kernel
theorem d_M_begin_94 : decode b_M_begin 94 = .ok (.iconst 0, 1) := by decide +kernel
theorem d_M_begin_95 : decode b_M_begin 95 = .ok (.putfield 740, 3) := by decide +kernel
theorem d_M_begin_98 : decode b_M_begin 98 = .ok (.aload_n 0, 1) := by decide +kernel
theorem d_M_begin_99 : decode b_M_begin 99 = .ok (.invokevirtual 1016, 3) := by decide +kernel
theorem d_M_begin_102 : decode b_M_begin 102 = .ok (.istore_n 2, 1) := by decide +kernel
theorem d_M_begin_103 : decode b_M_begin 103 = .ok (.aload_n 0, 1) := by decide +kernel
theorem d_M_begin_104 : decode b_M_begin 104 = .ok (.getfield 215, 3) := by decide +kernel
theorem d_M_begin_107 : decode b_M_begin 107 = .ok (.iconst 0, 1) := by decide +kernel
theorem d_M_begin_108 : decode b_M_begin 108 = .ok (.iload_n 1, 1) := by decide +kernel
theorem d_M_begin_109 : decode b_M_begin 109 = .ok (.iastore, 1) := by decide +kernel
theorem d_M_begin_110 : decode b_M_begin 110 = .ok (.aload_n 0, 1) := by decide +kernel
theorem d_M_begin_111 : decode b_M_begin 111 = .ok (.getfield 366, 3) := by decide +kernel
theorem d_M_begin_114 : decode b_M_begin 114 = .ok (.iconst 0, 1) := by decide +kernel
theorem d_M_begin_115 : decode b_M_begin 115 = .ok (.iconst (-1), 1) := by decide +kernel
theorem d_M_begin_116 : decode b_M_begin 116 = .ok (.iastore, 1) := by decide +kernel
theorem d_M_begin_117 : decode b_M_begin 117 = .ok (.return_, 1) := by decide +kernel
def rm_M_begin : Room := { frames := 1, cells := 0, slots := 0, locals := 22 }
theorem rm_M_begin_M_newProcess {R : Room} (hR : R = rm_M_begin) : (rm_M_newProcess).frames + 1 ≤ R.frames ∧ 8 + (3 + 11) + (rm_M_newProcess).locals ≤ R.locals := by subst hR; decide
def fb_M_begin_42 (N : Nat) (G : Unit) (u : MS) (v1 : Int32) (t1 : Int32) : Option (MS × Unit) := lt (upI u 3 t1) (fun w1 => br (decide ((w1.1 3) = 0)) (lt (upI w1 87 1) (fun w2 => lt (upI w2 118 0) (fun w3 => lt (upI w3 119 0) (fun w4 => lt (upI w4 120 0) (fun w5 => lt (upI w5 121 0) (fun w6 => lt (upI w6 125 0) (fun w7 => lt (upI w7 128 0) (fun w8 => lt (upI w8 149 0) (fun w9 => lt (upI w9 150 0) (fun w10 => bnd (fm_M_newProcess N w10) (fun u11 r11 => ck (inb (0 : Int32) (ln 96)) (lt (upA u11 96 (upd (u11.2.2.1 96) (0 : Int32).toNatClampNeg v1)) (fun w12 => ck (inb (0 : Int32) (ln 170)) (lt (upA w12 170 (upd (w12.2.2.1 170) (0 : Int32).toNatClampNeg (-1))) (fun w13 => some (w13, ())))))))))))))))) (some (w1, ())))
set_option maxRecDepth 100000 in
set_option maxHeartbeats 4000000 in
theorem wb_M_begin_42 {p : Program} {l : Launch} {e : Env} {R : Room} {s : State} {m : MethodId} {args : Array Value} {below : List Frame} {meth : Method} {c : Code} {D : va_G} {cl : List vw_C} {cB cI cJ cZ cS : ClassId} {A : Nat → Prop} {iM h0 : Nat} {ad : Nat → Nat} (C0 : MCx p s m args meth c b_M_begin 3 none D cl cB cI cJ cZ cS iM A) (hR : R = rm_M_begin) (N : Nat) (G : Unit) (hG : True) : ∀ (u : MS) (v1 : Int32) (t1 : Int32) (x : MS × Unit), fb_M_begin_42 N G u v1 t1 = some x → ∀ (H : Heap) (locs : List Loc), va_P D cl (wM cB cI cJ cZ cS iM h0 ad u) H → va_D A (wM cB cI cJ cZ cS iM h0 ad u) → va_S A s.heap H locs → ∀ (ls : Array Slot), lv_has ls 3 [(0, .ref h0), (1, .int v1)] → W p l e R s m args below meth c H locs 0 0 (MQ below (mQv D cl cB cI cJ cZ cS iM h0 ad A x) args s 0 0 A) (F0 m 42 ls [.int t1, .ref h0]) := by
  intro u v1 t1 x hf H locs hP hD hS ls hl
  obtain ⟨hx, hb, hr, hml, ht, hown, hM, hK, hA, hlocks⟩ := id C0
  unfold fb_M_begin_42 at hf
  refine up_I hx hb ht hown hM hK hP hD hS 3 (by decide) lk_M_3 (by decide) rfl rfl rfl d_M_begin_42 (fun H locs hP hD hS => ?_)
  obtain ⟨w1, e1, hf⟩ := lt_some hf
  rw [← e1] at hP hD
  refine lv_aload_n hx hb d_M_begin_45 rfl (lv_at hl 0 rfl) ?_
  refine ug_I hx hb ht hown hM hK hP 3 (by decide) lk_M_3 (by decide) d_M_begin_46 ?_
  refine lv_if_eq (tgt := 53) hx hb d_M_begin_49 (by decide) (fun hc => ?_) (fun hc => ?_)
  · rw [br_p _ hc] at hf
    refine lv_aload_n hx hb d_M_begin_53 rfl (lv_at hl 0 rfl) ?_
    refine lv_iconst (v := 1) hx hb d_M_begin_54 (by decide) ?_
    refine up_I hx hb ht hown hM hK hP hD hS 87 (by decide) lk_M_87 (by decide) rfl rfl rfl d_M_begin_55 (fun H locs hP hD hS => ?_)
    obtain ⟨w2, e2, hf⟩ := lt_some hf
    rw [← e2] at hP hD
    refine lv_aload_n hx hb d_M_begin_58 rfl (lv_at hl 0 rfl) ?_
    refine lv_iconst (v := 0) hx hb d_M_begin_59 (by decide) ?_
    refine up_I hx hb ht hown hM hK hP hD hS 118 (by decide) lk_M_118 (by decide) rfl rfl rfl d_M_begin_60 (fun H locs hP hD hS => ?_)
    obtain ⟨w3, e3, hf⟩ := lt_some hf
    rw [← e3] at hP hD
    refine lv_aload_n hx hb d_M_begin_63 rfl (lv_at hl 0 rfl) ?_
    refine lv_iconst (v := 0) hx hb d_M_begin_64 (by decide) ?_
    refine up_I hx hb ht hown hM hK hP hD hS 119 (by decide) lk_M_119 (by decide) rfl rfl rfl d_M_begin_65 (fun H locs hP hD hS => ?_)
    obtain ⟨w4, e4, hf⟩ := lt_some hf
    rw [← e4] at hP hD
    refine lv_aload_n hx hb d_M_begin_68 rfl (lv_at hl 0 rfl) ?_
    refine lv_iconst (v := 0) hx hb d_M_begin_69 (by decide) ?_
    refine up_I hx hb ht hown hM hK hP hD hS 120 (by decide) lk_M_120 (by decide) rfl rfl rfl d_M_begin_70 (fun H locs hP hD hS => ?_)
    obtain ⟨w5, e5, hf⟩ := lt_some hf
    rw [← e5] at hP hD
    refine lv_aload_n hx hb d_M_begin_73 rfl (lv_at hl 0 rfl) ?_
    refine lv_iconst (v := 0) hx hb d_M_begin_74 (by decide) ?_
    refine up_I hx hb ht hown hM hK hP hD hS 121 (by decide) lk_M_121 (by decide) rfl rfl rfl d_M_begin_75 (fun H locs hP hD hS => ?_)
    obtain ⟨w6, e6, hf⟩ := lt_some hf
    rw [← e6] at hP hD
    refine lv_aload_n hx hb d_M_begin_78 rfl (lv_at hl 0 rfl) ?_
    refine lv_iconst (v := 0) hx hb d_M_begin_79 (by decide) ?_
    refine up_I hx hb ht hown hM hK hP hD hS 125 (by decide) lk_M_125 (by decide) rfl rfl rfl d_M_begin_80 (fun H locs hP hD hS => ?_)
    obtain ⟨w7, e7, hf⟩ := lt_some hf
    rw [← e7] at hP hD
    refine lv_aload_n hx hb d_M_begin_83 rfl (lv_at hl 0 rfl) ?_
    refine lv_iconst (v := 0) hx hb d_M_begin_84 (by decide) ?_
    refine up_I hx hb ht hown hM hK hP hD hS 128 (by decide) lk_M_128 (by decide) rfl rfl rfl d_M_begin_85 (fun H locs hP hD hS => ?_)
    obtain ⟨w8, e8, hf⟩ := lt_some hf
    rw [← e8] at hP hD
    refine lv_aload_n hx hb d_M_begin_88 rfl (lv_at hl 0 rfl) ?_
    refine lv_iconst (v := 0) hx hb d_M_begin_89 (by decide) ?_
    refine up_I hx hb ht hown hM hK hP hD hS 149 (by decide) lk_M_149 (by decide) rfl rfl rfl d_M_begin_90 (fun H locs hP hD hS => ?_)
    obtain ⟨w9, e9, hf⟩ := lt_some hf
    rw [← e9] at hP hD
    refine lv_aload_n hx hb d_M_begin_93 rfl (lv_at hl 0 rfl) ?_
    refine lv_iconst (v := 0) hx hb d_M_begin_94 (by decide) ?_
    refine up_I hx hb ht hown hM hK hP hD hS 150 (by decide) lk_M_150 (by decide) rfl rfl rfl d_M_begin_95 (fun H locs hP hD hS => ?_)
    obtain ⟨w10, e10, hf⟩ := lt_some hf
    rw [← e10] at hP hD
    refine lv_aload_n hx hb d_M_begin_98 rfl (lv_at hl 0 rfl) ?_
    obtain ⟨u11, r11, hc11, hf⟩ := bnd_some hf
    refine mV_i (As := []) (rest := []) C0 hP hD hS (c_M_newProcess N hM hc11) k_M_newProcess hl_M_newProcess hi_M_newProcess hs_M_newProcess hini_M rfl rfl hd_M_newProcess rfl (rm_M_begin_M_newProcess hR) hl.1 (Nat.le_of_ble_eq_true rfl) d_M_begin_99 rfl ⟨Nat.zero_le _, Nat.zero_le _⟩ (fun H locs hP hD hS => ?_)
    refine lv_istore_n (lv' := [(2, .int r11), (0, .ref h0), (1, .int v1)]) hx hb d_M_begin_102 rfl hl (by decide) rfl (fun ls hl => ?_)
    refine lv_aload_n hx hb d_M_begin_103 rfl (lv_at hl 1 rfl) ?_
    refine ug_R hx hb ht hown hM hK hP 96 (by decide) lk_M_96 (by decide) d_M_begin_104 ?_
    refine lv_iconst (v := 0) hx hb d_M_begin_107 (by decide) ?_
    refine lv_iload_n hx hb d_M_begin_108 rfl (lv_at hl 2 rfl) ?_
    obtain ⟨hi9, hf⟩ := ck_some hf
    refine us_I hx hb hK hP hD hS (by decide) (by decide) hi9 d_M_begin_109 (fun H locs hP hD hS => ?_)
    obtain ⟨w12, e12, hf⟩ := lt_some hf
    rw [← e12] at hP hD
    refine lv_aload_n hx hb d_M_begin_110 rfl (lv_at hl 1 rfl) ?_
    refine ug_R hx hb ht hown hM hK hP 170 (by decide) lk_M_170 (by decide) d_M_begin_111 ?_
    refine lv_iconst (v := 0) hx hb d_M_begin_114 (by decide) ?_
    refine lv_iconst (v := (-1)) hx hb d_M_begin_115 (by decide) ?_
    obtain ⟨hi9, hf⟩ := ck_some hf
    refine us_I hx hb hK hP hD hS (by decide) (by decide) hi9 d_M_begin_116 (fun H locs hP hD hS => ?_)
    obtain ⟨w13, e13, hf⟩ := lt_some hf
    rw [← e13] at hP hD
    exact mr_v C0 hP hD hS hf d_M_begin_117
  · rw [br_n _ hc] at hf
    exact mr_v C0 hP hD hS hf d_M_begin_52
def fb_M_begin_24 (N : Nat) (G : Unit) (u : MS) (v1 : Int32) : Option (MS × Unit) := fb_M_begin_42 N G u (v1) (2)
set_option maxRecDepth 100000 in
set_option maxHeartbeats 4000000 in
theorem wb_M_begin_24 {p : Program} {l : Launch} {e : Env} {R : Room} {s : State} {m : MethodId} {args : Array Value} {below : List Frame} {meth : Method} {c : Code} {D : va_G} {cl : List vw_C} {cB cI cJ cZ cS : ClassId} {A : Nat → Prop} {iM h0 : Nat} {ad : Nat → Nat} (C0 : MCx p s m args meth c b_M_begin 3 none D cl cB cI cJ cZ cS iM A) (hR : R = rm_M_begin) (N : Nat) (G : Unit) (hG : True) : ∀ (u : MS) (v1 : Int32) (x : MS × Unit), fb_M_begin_24 N G u v1 = some x → ∀ (H : Heap) (locs : List Loc), va_P D cl (wM cB cI cJ cZ cS iM h0 ad u) H → va_D A (wM cB cI cJ cZ cS iM h0 ad u) → va_S A s.heap H locs → ∀ (ls : Array Slot), lv_has ls 3 [(0, .ref h0), (1, .int v1)] → W p l e R s m args below meth c H locs 0 0 (MQ below (mQv D cl cB cI cJ cZ cS iM h0 ad A x) args s 0 0 A) (F0 m 24 ls [.ref h0]) := by
  intro u v1 x hf H locs hP hD hS ls hl
  obtain ⟨hx, hb, hr, hml, ht, hown, hM, hK, hA, hlocks⟩ := id C0
  unfold fb_M_begin_24 at hf
  refine lv_iconst (v := 2) hx hb d_M_begin_24 (by decide) ?_
  refine lv_goto (tgt := 42) hx hb d_M_begin_25 (by decide) ?_
  exact wb_M_begin_42 C0 hR N G hG _ _ _ _ hf H locs hP hD hS ls (lv_sub hl [0, 1] rfl)
def fb_M_begin_0 (N : Nat) (G : Unit) (u : MS) (v1 : Int32) : Option (MS × Unit) := br (decide ((u.1 86) = 0)) (fb_M_begin_42 N G u (v1) (1)) (br (decide (v1 < 0)) (fb_M_begin_24 N G u (v1)) (br (decide (v1 < (u.1 52))) (ck (inb v1 (ln 48)) (br (decide ((u.2.2.1 48 v1.toNatClampNeg) ≤ 0)) (fb_M_begin_42 N G u (v1) (0)) (fb_M_begin_42 N G u (v1) (3)))) (fb_M_begin_24 N G u (v1))))
set_option maxRecDepth 100000 in
set_option maxHeartbeats 4000000 in
theorem wb_M_begin_0 {p : Program} {l : Launch} {e : Env} {R : Room} {s : State} {m : MethodId} {args : Array Value} {below : List Frame} {meth : Method} {c : Code} {D : va_G} {cl : List vw_C} {cB cI cJ cZ cS : ClassId} {A : Nat → Prop} {iM h0 : Nat} {ad : Nat → Nat} (C0 : MCx p s m args meth c b_M_begin 3 none D cl cB cI cJ cZ cS iM A) (hR : R = rm_M_begin) (N : Nat) (G : Unit) (hG : True) : ∀ (u : MS) (v1 : Int32) (x : MS × Unit), fb_M_begin_0 N G u v1 = some x → ∀ (H : Heap) (locs : List Loc), va_P D cl (wM cB cI cJ cZ cS iM h0 ad u) H → va_D A (wM cB cI cJ cZ cS iM h0 ad u) → va_S A s.heap H locs → ∀ (ls : Array Slot), lv_has ls 3 [(0, .ref h0), (1, .int v1)] → W p l e R s m args below meth c H locs 0 0 (MQ below (mQv D cl cB cI cJ cZ cS iM h0 ad A x) args s 0 0 A) (F0 m 0 ls []) := by
  intro u v1 x hf H locs hP hD hS ls hl
  obtain ⟨hx, hb, hr, hml, ht, hown, hM, hK, hA, hlocks⟩ := id C0
  unfold fb_M_begin_0 at hf
  refine lv_aload_n hx hb d_M_begin_0 rfl (lv_at hl 0 rfl) ?_
  refine lv_aload_n hx hb d_M_begin_1 rfl (lv_at hl 0 rfl) ?_
  refine ug_I hx hb ht hown hM hK hP 86 (by decide) lk_M_86 (by decide) d_M_begin_2 ?_
  refine lv_if_ne (tgt := 12) hx hb d_M_begin_5 (by decide) (fun hc => ?_) (fun hc => ?_)
  · rw [br_n _ hc] at hf
    refine lv_iload_n hx hb d_M_begin_12 rfl (lv_at hl 1 rfl) ?_
    refine lv_if_lt (tgt := 24) hx hb d_M_begin_13 (by decide) (fun hc => ?_) (fun hc => ?_)
    · rw [br_p _ hc] at hf
      exact wb_M_begin_24 C0 hR N G hG _ _ _ hf H locs hP hD hS ls (lv_sub hl [0, 1] rfl)
    · rw [br_n _ hc] at hf
      refine lv_iload_n hx hb d_M_begin_16 rfl (lv_at hl 1 rfl) ?_
      refine lv_aload_n hx hb d_M_begin_17 rfl (lv_at hl 0 rfl) ?_
      refine ug_I hx hb ht hown hM hK hP 52 (by decide) lk_M_52 (by decide) d_M_begin_18 ?_
      refine lv_icmp_lt (tgt := 28) hx hb d_M_begin_21 (by decide) (fun hc => ?_) (fun hc => ?_)
      · rw [br_p _ hc] at hf
        refine lv_aload_n hx hb d_M_begin_28 rfl (lv_at hl 0 rfl) ?_
        refine ug_R hx hb ht hown hM hK hP 48 (by decide) lk_M_48 (by decide) d_M_begin_29 ?_
        refine lv_iload_n hx hb d_M_begin_32 rfl (lv_at hl 1 rfl) ?_
        obtain ⟨hi9, hf⟩ := ck_some hf
        refine ul_I hx hb hK hP (by decide) (by decide) hi9 d_M_begin_33 ?_
        refine lv_if_le (tgt := 41) hx hb d_M_begin_34 (by decide) (fun hc => ?_) (fun hc => ?_)
        · rw [br_p _ hc] at hf
          refine lv_iconst (v := 0) hx hb d_M_begin_41 (by decide) ?_
          exact wb_M_begin_42 C0 hR N G hG _ _ _ _ hf H locs hP hD hS ls (lv_sub hl [0, 1] rfl)
        · rw [br_n _ hc] at hf
          refine lv_iconst (v := 3) hx hb d_M_begin_37 (by decide) ?_
          refine lv_goto (tgt := 42) hx hb d_M_begin_38 (by decide) ?_
          exact wb_M_begin_42 C0 hR N G hG _ _ _ _ hf H locs hP hD hS ls (lv_sub hl [0, 1] rfl)
      · rw [br_n _ hc] at hf
        exact wb_M_begin_24 C0 hR N G hG _ _ _ hf H locs hP hD hS ls (lv_sub hl [0, 1] rfl)
  · rw [br_p _ hc] at hf
    refine lv_iconst (v := 1) hx hb d_M_begin_8 (by decide) ?_
    refine lv_goto (tgt := 42) hx hb d_M_begin_9 (by decide) ?_
    exact wb_M_begin_42 C0 hR N G hG _ _ _ _ hf H locs hP hD hS ls (lv_sub hl [0, 1] rfl)
def fm_M_begin (N : Nat) (u : MS) (v1 : Int32) : Option (MS × Unit) := fb_M_begin_0 N () u v1
set_option maxRecDepth 100000 in
set_option maxHeartbeats 4000000 in
theorem c_M_begin (N : Nat) {l : Launch} {D : va_G} {cl : List vw_C} {cB cI cJ cZ cS : ClassId} {iM h0 : Nat} {ad : Nat → Nat} {u : MS} {sz : Nat} {v1 : Int32} {x : MS × Unit} (hM : cl[iM]? = some (R_M, F_M, 171)) (hf : fm_M_begin N u v1 = some x) : Met l y_M_begin (wd_ws y_M_begin b_M_begin 3 none) rm_M_begin (mPc D cl cB cI cJ cZ cS iM h0 ad u sz [.ref h0, .int v1]) (mQv D cl cB cI cJ cZ cS iM h0 ad (mA cB cI cJ cZ cS iM h0 ad u sz) x) 0 0 (mA cB cI cJ cZ cS iM h0 ad u sz) :=
  mMet (by decide) rfl hM (Nat.le_of_ble_eq_true rfl) (fun p e s m below meth c ls hsz C0 hP hD hS hl => by
    have hR : rm_M_begin = rm_M_begin := rfl
    exact wb_M_begin_0 C0 hR N () trivial u _ x hf s.heap [] hP hD hS ls (lv_sub hl [0, 1] rfl))
abbrev b_M_clock : ByteArray := prog_14_method_162_code
def y_M_clock : MethodName := ⟨R_M, "clock", "(I)I"⟩
def w_M_clock : List Cond := wd_ws y_M_clock b_M_clock 2 (some .int)
set_option maxRecDepth 100000 in
theorem k_M_clock : Cond.code y_M_clock b_M_clock 2 (some .int) ∈ wd_tbl := wd_of 3249 rfl rfl
theorem d_M_clock_0 : decode b_M_clock 0 = .ok (.aload_n 0, 1) := by decide +kernel
theorem d_M_clock_1 : decode b_M_clock 1 = .ok (.iload_n 1, 1) := by decide +kernel
theorem d_M_clock_2 : decode b_M_clock 2 = .ok (.ifCond .lt 32, 3) := by decide +kernel
theorem d_M_clock_5 : decode b_M_clock 5 = .ok (.iload_n 1, 1) := by decide +kernel
theorem d_M_clock_6 : decode b_M_clock 6 = .ok (.ldc_w 1028, 3) := by decide +kernel
theorem d_M_clock_9 : decode b_M_clock 9 = .ok (.if_icmp .gt 25, 3) := by decide +kernel
theorem d_M_clock_12 : decode b_M_clock 12 = .ok (.aload_n 0, 1) := by decide +kernel
theorem d_M_clock_13 : decode b_M_clock 13 = .ok (.getfield 657, 3) := by decide +kernel
theorem d_M_clock_16 : decode b_M_clock 16 = .ok (.ifCond .eq 22, 3) := by decide +kernel
theorem d_M_clock_19 : decode b_M_clock 19 = .ok (.aload_n 0, 1) := by decide +kernel
theorem d_M_clock_20 : decode b_M_clock 20 = .ok (.getfield 904, 3) := by decide +kernel
theorem d_M_clock_23 : decode b_M_clock 23 = .ok (.i2l, 1) := by decide +kernel
theorem d_M_clock_24 : decode b_M_clock 24 = .ok (.iload_n 1, 1) := by decide +kernel
theorem d_M_clock_25 : decode b_M_clock 25 = .ok (.i2l, 1) := by decide +kernel
theorem d_M_clock_26 : decode b_M_clock 26 = .ok (.ladd, 1) := by decide +kernel
theorem d_M_clock_27 : decode b_M_clock 27 = .ok (.ldc2_w 1029, 3) := by decide +kernel
theorem d_M_clock_30 : decode b_M_clock 30 = .ok (.lcmp, 1) := by decide +kernel
theorem d_M_clock_31 : decode b_M_clock 31 = .ok (.ifCond .le 7, 3) := by decide +kernel
theorem d_M_clock_34 : decode b_M_clock 34 = .ok (.iconst 1, 1) := by decide +kernel
theorem d_M_clock_35 : decode b_M_clock 35 = .ok (.goto 15, 3) := by decide +kernel
theorem d_M_clock_38 : decode b_M_clock 38 = .ok (.aload_n 0, 1) := by decide +kernel
theorem d_M_clock_39 : decode b_M_clock 39 = .ok (.getfield 657, 3) := by decide +kernel
theorem d_M_clock_42 : decode b_M_clock 42 = .ok (.ifCond .ne 7, 3) := by decide +kernel
theorem d_M_clock_45 : decode b_M_clock 45 = .ok (.iconst 2, 1) := by decide +kernel
theorem d_M_clock_46 : decode b_M_clock 46 = .ok (.goto 4, 3) := by decide +kernel
theorem d_M_clock_49 : decode b_M_clock 49 = .ok (.iconst 0, 1) := by decide +kernel
theorem d_M_clock_50 : decode b_M_clock 50 = .ok (.putfield 369, 3) := by decide +kernel
theorem d_M_clock_53 : decode b_M_clock 53 = .ok (.aload_n 0, 1) := by decide +kernel
theorem d_M_clock_54 : decode b_M_clock 54 = .ok (.getfield 369, 3) := by decide +kernel
theorem d_M_clock_57 : decode b_M_clock 57 = .ok (.ifCond .eq 5, 3) := by decide +kernel
theorem d_M_clock_60 : decode b_M_clock 60 = .ok (.iconst 0, 1) := by decide +kernel
theorem d_M_clock_61 : decode b_M_clock 61 = .ok (.ireturn, 1) := by decide +kernel
theorem d_M_clock_62 : decode b_M_clock 62 = .ok (.aload_n 0, 1) := by decide +kernel
theorem d_M_clock_63 : decode b_M_clock 63 = .ok (.dup, 1) := by decide +kernel
theorem d_M_clock_64 : decode b_M_clock 64 = .ok (.getfield 904, 3) := by decide +kernel
theorem d_M_clock_67 : decode b_M_clock 67 = .ok (.iload_n 1, 1) := by decide +kernel
theorem d_M_clock_68 : decode b_M_clock 68 = .ok (.iadd, 1) := by decide +kernel
theorem d_M_clock_69 : decode b_M_clock 69 = .ok (.putfield 904, 3) := by decide +kernel
theorem d_M_clock_72 : decode b_M_clock 72 = .ok (.aload_n 0, 1) := by decide +kernel
theorem d_M_clock_73 : decode b_M_clock 73 = .ok (.getfield 904, 3) := by decide +kernel
theorem d_M_clock_76 : decode b_M_clock 76 = .ok (.ireturn, 1) := by decide +kernel
def rm_M_clock : Room := { frames := 0, cells := 0, slots := 0, locals := 0 }
def fb_M_clock_50 (N : Nat) (G : Unit) (u : MS) (v1 : Int32) (t1 : Int32) : Option (MS × Int32) := lt (upI u 3 t1) (fun w1 => br (decide ((w1.1 3) = 0)) (lt (upI w1 120 ((w1.1 120) + v1)) (fun w2 => some (w2, (w2.1 120)))) (some (w1, 0)))
set_option maxRecDepth 100000 in
set_option maxHeartbeats 4000000 in
theorem wb_M_clock_50 {p : Program} {l : Launch} {e : Env} {R : Room} {s : State} {m : MethodId} {args : Array Value} {below : List Frame} {meth : Method} {c : Code} {D : va_G} {cl : List vw_C} {cB cI cJ cZ cS : ClassId} {A : Nat → Prop} {iM h0 : Nat} {ad : Nat → Nat} (C0 : MCx p s m args meth c b_M_clock 2 (some .int) D cl cB cI cJ cZ cS iM A) (hR : R = rm_M_clock) (N : Nat) (G : Unit) (hG : True) : ∀ (u : MS) (v1 : Int32) (t1 : Int32) (x : MS × Int32), fb_M_clock_50 N G u v1 t1 = some x → ∀ (H : Heap) (locs : List Loc), va_P D cl (wM cB cI cJ cZ cS iM h0 ad u) H → va_D A (wM cB cI cJ cZ cS iM h0 ad u) → va_S A s.heap H locs → ∀ (ls : Array Slot), lv_has ls 2 [(0, .ref h0), (1, .int v1)] → W p l e R s m args below meth c H locs 0 0 (MQ below (mQi D cl cB cI cJ cZ cS iM h0 ad A x) args s 0 0 A) (F0 m 50 ls [.int t1, .ref h0]) := by
  intro u v1 t1 x hf H locs hP hD hS ls hl
  obtain ⟨hx, hb, hr, hml, ht, hown, hM, hK, hA, hlocks⟩ := id C0
  unfold fb_M_clock_50 at hf
  refine up_I hx hb ht hown hM hK hP hD hS 3 (by decide) lk_M_3 (by decide) rfl rfl rfl d_M_clock_50 (fun H locs hP hD hS => ?_)
  obtain ⟨w1, e1, hf⟩ := lt_some hf
  rw [← e1] at hP hD
  refine lv_aload_n hx hb d_M_clock_53 rfl (lv_at hl 0 rfl) ?_
  refine ug_I hx hb ht hown hM hK hP 3 (by decide) lk_M_3 (by decide) d_M_clock_54 ?_
  refine lv_if_eq (tgt := 62) hx hb d_M_clock_57 (by decide) (fun hc => ?_) (fun hc => ?_)
  · rw [br_p _ hc] at hf
    refine lv_aload_n hx hb d_M_clock_62 rfl (lv_at hl 0 rfl) ?_
    refine lv_dup hx hb d_M_clock_63 rfl ?_
    refine ug_I hx hb ht hown hM hK hP 120 (by decide) lk_M_120 (by decide) d_M_clock_64 ?_
    refine lv_iload_n hx hb d_M_clock_67 rfl (lv_at hl 1 rfl) ?_
    refine lv_iadd hx hb d_M_clock_68 ?_
    refine up_I hx hb ht hown hM hK hP hD hS 120 (by decide) lk_M_120 (by decide) rfl rfl rfl d_M_clock_69 (fun H locs hP hD hS => ?_)
    obtain ⟨w2, e2, hf⟩ := lt_some hf
    rw [← e2] at hP hD
    refine lv_aload_n hx hb d_M_clock_72 rfl (lv_at hl 0 rfl) ?_
    refine ug_I hx hb ht hown hM hK hP 120 (by decide) lk_M_120 (by decide) d_M_clock_73 ?_
    exact mr_i C0 hP hD hS hf d_M_clock_76
  · rw [br_n _ hc] at hf
    refine lv_iconst (v := 0) hx hb d_M_clock_60 (by decide) ?_
    exact mr_i C0 hP hD hS hf d_M_clock_61
def fb_M_clock_38 (N : Nat) (G : Unit) (u : MS) (v1 : Int32) : Option (MS × Int32) := br (decide ((u.1 87) = 0)) (fb_M_clock_50 N G u (v1) (2)) (fb_M_clock_50 N G u (v1) (0))
set_option maxRecDepth 100000 in
set_option maxHeartbeats 4000000 in
theorem wb_M_clock_38 {p : Program} {l : Launch} {e : Env} {R : Room} {s : State} {m : MethodId} {args : Array Value} {below : List Frame} {meth : Method} {c : Code} {D : va_G} {cl : List vw_C} {cB cI cJ cZ cS : ClassId} {A : Nat → Prop} {iM h0 : Nat} {ad : Nat → Nat} (C0 : MCx p s m args meth c b_M_clock 2 (some .int) D cl cB cI cJ cZ cS iM A) (hR : R = rm_M_clock) (N : Nat) (G : Unit) (hG : True) : ∀ (u : MS) (v1 : Int32) (x : MS × Int32), fb_M_clock_38 N G u v1 = some x → ∀ (H : Heap) (locs : List Loc), va_P D cl (wM cB cI cJ cZ cS iM h0 ad u) H → va_D A (wM cB cI cJ cZ cS iM h0 ad u) → va_S A s.heap H locs → ∀ (ls : Array Slot), lv_has ls 2 [(0, .ref h0), (1, .int v1)] → W p l e R s m args below meth c H locs 0 0 (MQ below (mQi D cl cB cI cJ cZ cS iM h0 ad A x) args s 0 0 A) (F0 m 38 ls [.ref h0]) := by
  intro u v1 x hf H locs hP hD hS ls hl
  obtain ⟨hx, hb, hr, hml, ht, hown, hM, hK, hA, hlocks⟩ := id C0
  unfold fb_M_clock_38 at hf
  refine lv_aload_n hx hb d_M_clock_38 rfl (lv_at hl 0 rfl) ?_
  refine ug_I hx hb ht hown hM hK hP 87 (by decide) lk_M_87 (by decide) d_M_clock_39 ?_
  refine lv_if_ne (tgt := 49) hx hb d_M_clock_42 (by decide) (fun hc => ?_) (fun hc => ?_)
  · rw [br_n _ hc] at hf
    refine lv_iconst (v := 0) hx hb d_M_clock_49 (by decide) ?_
    exact wb_M_clock_50 C0 hR N G hG _ _ _ _ hf H locs hP hD hS ls (lv_sub hl [0, 1] rfl)
  · rw [br_p _ hc] at hf
    refine lv_iconst (v := 2) hx hb d_M_clock_45 (by decide) ?_
    refine lv_goto (tgt := 50) hx hb d_M_clock_46 (by decide) ?_
    exact wb_M_clock_50 C0 hR N G hG _ _ _ _ hf H locs hP hD hS ls (lv_sub hl [0, 1] rfl)
def fb_M_clock_34 (N : Nat) (G : Unit) (u : MS) (v1 : Int32) : Option (MS × Int32) := fb_M_clock_50 N G u (v1) (1)
set_option maxRecDepth 100000 in
set_option maxHeartbeats 4000000 in
theorem wb_M_clock_34 {p : Program} {l : Launch} {e : Env} {R : Room} {s : State} {m : MethodId} {args : Array Value} {below : List Frame} {meth : Method} {c : Code} {D : va_G} {cl : List vw_C} {cB cI cJ cZ cS : ClassId} {A : Nat → Prop} {iM h0 : Nat} {ad : Nat → Nat} (C0 : MCx p s m args meth c b_M_clock 2 (some .int) D cl cB cI cJ cZ cS iM A) (hR : R = rm_M_clock) (N : Nat) (G : Unit) (hG : True) : ∀ (u : MS) (v1 : Int32) (x : MS × Int32), fb_M_clock_34 N G u v1 = some x → ∀ (H : Heap) (locs : List Loc), va_P D cl (wM cB cI cJ cZ cS iM h0 ad u) H → va_D A (wM cB cI cJ cZ cS iM h0 ad u) → va_S A s.heap H locs → ∀ (ls : Array Slot), lv_has ls 2 [(0, .ref h0), (1, .int v1)] → W p l e R s m args below meth c H locs 0 0 (MQ below (mQi D cl cB cI cJ cZ cS iM h0 ad A x) args s 0 0 A) (F0 m 34 ls [.ref h0]) := by
  intro u v1 x hf H locs hP hD hS ls hl
  obtain ⟨hx, hb, hr, hml, ht, hown, hM, hK, hA, hlocks⟩ := id C0
  unfold fb_M_clock_34 at hf
  refine lv_iconst (v := 1) hx hb d_M_clock_34 (by decide) ?_
  refine lv_goto (tgt := 50) hx hb d_M_clock_35 (by decide) ?_
  exact wb_M_clock_50 C0 hR N G hG _ _ _ _ hf H locs hP hD hS ls (lv_sub hl [0, 1] rfl)
def fb_M_clock_0 (N : Nat) (G : Unit) (u : MS) (v1 : Int32) : Option (MS × Int32) := br (decide (v1 < 0)) (fb_M_clock_34 N G u (v1)) (br (decide (1000000000 < v1)) (fb_M_clock_34 N G u (v1)) (br (decide ((u.1 87) = 0)) (fb_M_clock_38 N G u (v1)) (br (decide ((lg_cmp ((u.1 120).toInt64 + v1.toInt64) 1000000000) ≤ 0)) (fb_M_clock_38 N G u (v1)) (fb_M_clock_34 N G u (v1)))))
set_option maxRecDepth 100000 in
set_option maxHeartbeats 4000000 in
theorem wb_M_clock_0 {p : Program} {l : Launch} {e : Env} {R : Room} {s : State} {m : MethodId} {args : Array Value} {below : List Frame} {meth : Method} {c : Code} {D : va_G} {cl : List vw_C} {cB cI cJ cZ cS : ClassId} {A : Nat → Prop} {iM h0 : Nat} {ad : Nat → Nat} (C0 : MCx p s m args meth c b_M_clock 2 (some .int) D cl cB cI cJ cZ cS iM A) (hR : R = rm_M_clock) (N : Nat) (G : Unit) (hG : True) : ∀ (u : MS) (v1 : Int32) (x : MS × Int32), fb_M_clock_0 N G u v1 = some x → ∀ (H : Heap) (locs : List Loc), va_P D cl (wM cB cI cJ cZ cS iM h0 ad u) H → va_D A (wM cB cI cJ cZ cS iM h0 ad u) → va_S A s.heap H locs → ∀ (ls : Array Slot), lv_has ls 2 [(0, .ref h0), (1, .int v1)] → W p l e R s m args below meth c H locs 0 0 (MQ below (mQi D cl cB cI cJ cZ cS iM h0 ad A x) args s 0 0 A) (F0 m 0 ls []) := by
  intro u v1 x hf H locs hP hD hS ls hl
  obtain ⟨hx, hb, hr, hml, ht, hown, hM, hK, hA, hlocks⟩ := id C0
  unfold fb_M_clock_0 at hf
  refine lv_aload_n hx hb d_M_clock_0 rfl (lv_at hl 0 rfl) ?_
  refine lv_iload_n hx hb d_M_clock_1 rfl (lv_at hl 1 rfl) ?_
  refine lv_if_lt (tgt := 34) hx hb d_M_clock_2 (by decide) (fun hc => ?_) (fun hc => ?_)
  · rw [br_p _ hc] at hf
    exact wb_M_clock_34 C0 hR N G hG _ _ _ hf H locs hP hD hS ls (lv_sub hl [0, 1] rfl)
  · rw [br_n _ hc] at hf
    refine lv_iload_n hx hb d_M_clock_5 rfl (lv_at hl 1 rfl) ?_
    refine lv_ldcw (v := 1000000000) hx hb hown (ht _ (wd_of 3250 (by decide +kernel) rfl)) d_M_clock_6 ?_
    refine lv_icmp_gt (tgt := 34) hx hb d_M_clock_9 (by decide) (fun hc => ?_) (fun hc => ?_)
    · rw [br_p _ hc] at hf
      exact wb_M_clock_34 C0 hR N G hG _ _ _ hf H locs hP hD hS ls (lv_sub hl [0, 1] rfl)
    · rw [br_n _ hc] at hf
      refine lv_aload_n hx hb d_M_clock_12 rfl (lv_at hl 0 rfl) ?_
      refine ug_I hx hb ht hown hM hK hP 87 (by decide) lk_M_87 (by decide) d_M_clock_13 ?_
      refine lv_if_eq (tgt := 38) hx hb d_M_clock_16 (by decide) (fun hc => ?_) (fun hc => ?_)
      · rw [br_p _ hc] at hf
        exact wb_M_clock_38 C0 hR N G hG _ _ _ hf H locs hP hD hS ls (lv_sub hl [0, 1] rfl)
      · rw [br_n _ hc] at hf
        refine lv_aload_n hx hb d_M_clock_19 rfl (lv_at hl 0 rfl) ?_
        refine ug_I hx hb ht hown hM hK hP 120 (by decide) lk_M_120 (by decide) d_M_clock_20 ?_
        refine lv_i2l hx hb d_M_clock_23 rfl ?_
        refine lv_iload_n hx hb d_M_clock_24 rfl (lv_at hl 1 rfl) ?_
        refine lv_i2l hx hb d_M_clock_25 rfl ?_
        refine lv_ladd hx hb d_M_clock_26 ?_
        refine lv_ldc2 (v := 1000000000) hx hb hown (ht _ (wd_of 3251 (by decide +kernel) rfl)) d_M_clock_27 ?_
        refine W.lcmp hx hb d_M_clock_30 ?_
        refine lv_if_le (tgt := 38) hx hb d_M_clock_31 (by decide) (fun hc => ?_) (fun hc => ?_)
        · rw [br_p _ hc] at hf
          exact wb_M_clock_38 C0 hR N G hG _ _ _ hf H locs hP hD hS ls (lv_sub hl [0, 1] rfl)
        · rw [br_n _ hc] at hf
          exact wb_M_clock_34 C0 hR N G hG _ _ _ hf H locs hP hD hS ls (lv_sub hl [0, 1] rfl)
def fm_M_clock (N : Nat) (u : MS) (v1 : Int32) : Option (MS × Int32) := fb_M_clock_0 N () u v1
set_option maxRecDepth 100000 in
set_option maxHeartbeats 4000000 in
theorem c_M_clock (N : Nat) {l : Launch} {D : va_G} {cl : List vw_C} {cB cI cJ cZ cS : ClassId} {iM h0 : Nat} {ad : Nat → Nat} {u : MS} {sz : Nat} {v1 : Int32} {x : MS × Int32} (hM : cl[iM]? = some (R_M, F_M, 171)) (hf : fm_M_clock N u v1 = some x) : Met l y_M_clock (wd_ws y_M_clock b_M_clock 2 (some .int)) rm_M_clock (mPc D cl cB cI cJ cZ cS iM h0 ad u sz [.ref h0, .int v1]) (mQi D cl cB cI cJ cZ cS iM h0 ad (mA cB cI cJ cZ cS iM h0 ad u sz) x) 0 0 (mA cB cI cJ cZ cS iM h0 ad u sz) :=
  mMet (by decide) rfl hM (Nat.le_of_ble_eq_true rfl) (fun p e s m below meth c ls hsz C0 hP hD hS hl => by
    have hR : rm_M_clock = rm_M_clock := rfl
    exact wb_M_clock_0 C0 hR N () trivial u _ x hf s.heap [] hP hD hS ls (lv_sub hl [0, 1] rfl))
abbrev b_M_send : ByteArray := prog_14_method_163_code
def y_M_send : MethodName := ⟨R_M, "send", "(III)V"⟩
def w_M_send : List Cond := wd_ws y_M_send b_M_send 5 none
set_option maxRecDepth 100000 in
theorem k_M_send : Cond.code y_M_send b_M_send 5 none ∈ wd_tbl := wd_of 3255 rfl rfl
theorem d_M_send_0 : decode b_M_send 0 = .ok (.aload_n 0, 1) := by decide +kernel
theorem d_M_send_1 : decode b_M_send 1 = .ok (.aload_n 0, 1) := by decide +kernel
theorem d_M_send_2 : decode b_M_send 2 = .ok (.iload_n 1, 1) := by decide +kernel
theorem d_M_send_3 : decode b_M_send 3 = .ok (.invokevirtual 880, 3) := by decide +kernel
theorem d_M_send_6 : decode b_M_send 6 = .ok (.ifCond .eq 20, 3) := by decide +kernel
theorem d_M_send_9 : decode b_M_send 9 = .ok (.iload_n 2, 1) := by decide +kernel
theorem d_M_send_10 : decode b_M_send 10 = .ok (.iconst 1, 1) := by decide +kernel
theorem d_M_send_11 : decode b_M_send 11 = .ok (.if_icmp .ne 19, 3) := by decide +kernel
theorem d_M_send_14 : decode b_M_send 14 = .ok (.iload_n 3, 1) := by decide +kernel
theorem d_M_send_15 : decode b_M_send 15 = .ok (.ifCond .lt 11, 3) := by decide +kernel
theorem d_M_send_18 : decode b_M_send 18 = .ok (.iload_n 3, 1) := by decide +kernel
theorem d_M_send_19 : decode b_M_send 19 = .ok (.aload_n 0, 1) := by decide +kernel
theorem d_M_send_20 : decode b_M_send 20 = .ok (.getfield 385, 3) := by decide +kernel
theorem d_M_send_23 : decode b_M_send 23 = .ok (.if_icmp .lt 7, 3) := by decide +kernel
theorem d_M_send_26 : decode b_M_send 26 = .ok (.iconst 1, 1) := by decide +kernel
theorem d_M_send_27 : decode b_M_send 27 = .ok (.goto 17, 3) := by decide +kernel
theorem d_M_send_30 : decode b_M_send 30 = .ok (.iload_n 2, 1) := by decide +kernel
theorem d_M_send_31 : decode b_M_send 31 = .ok (.ifCond .lt 8, 3) := by decide +kernel
theorem d_M_send_34 : decode b_M_send 34 = .ok (.iload_n 2, 1) := by decide +kernel
theorem d_M_send_35 : decode b_M_send 35 = .ok (.iconst 2, 1) := by decide +kernel
theorem d_M_send_36 : decode b_M_send 36 = .ok (.if_icmp .le 7, 3) := by decide +kernel
theorem d_M_send_39 : decode b_M_send 39 = .ok (.iconst 2, 1) := by decide +kernel
theorem d_M_send_40 : decode b_M_send 40 = .ok (.goto 4, 3) := by decide +kernel
theorem d_M_send_43 : decode b_M_send 43 = .ok (.iconst 0, 1) := by decide +kernel
theorem d_M_send_44 : decode b_M_send 44 = .ok (.putfield 369, 3) := by decide +kernel
theorem d_M_send_47 : decode b_M_send 47 = .ok (.aload_n 0, 1) := by decide +kernel
theorem d_M_send_48 : decode b_M_send 48 = .ok (.getfield 369, 3) := by decide +kernel
theorem d_M_send_51 : decode b_M_send 51 = .ok (.ifCond .eq 4, 3) := by decide +kernel
theorem d_M_send_54 : decode b_M_send 54 = .ok (.return_, 1) := by decide +kernel
theorem d_M_send_55 : decode b_M_send 55 = .ok (.iload_n 2, 1) := by decide +kernel
theorem d_M_send_56 : decode b_M_send 56 = .ok (.iconst 2, 1) := by decide +kernel
theorem d_M_send_57 : decode b_M_send 57 = .ok (.if_icmp .ge 29, 3) := by decide +kernel
theorem d_M_send_60 : decode b_M_send 60 = .ok (.aload_n 0, 1) := by decide +kernel
theorem d_M_send_61 : decode b_M_send 61 = .ok (.iload_n 1, 1) := by decide +kernel
theorem d_M_send_62 : decode b_M_send 62 = .ok (.iconst 2, 1) := by decide +kernel
theorem d_M_send_63 : decode b_M_send 63 = .ok (.iconst 0, 1) := by decide +kernel
theorem d_M_send_64 : decode b_M_send 64 = .ok (.iconst 0, 1) := by decide +kernel
theorem d_M_send_65 : decode b_M_send 65 = .ok (.iconst 0, 1) := by decide +kernel
theorem d_M_send_66 : decode b_M_send 66 = .ok (.iload_n 1, 1) := by decide +kernel
theorem d_M_send_67 : decode b_M_send 67 = .ok (.iload_n 2, 1) := by decide +kernel
theorem d_M_send_68 : decode b_M_send 68 = .ok (.ifCond .ne 7, 3) := by decide +kernel
theorem d_M_send_71 : decode b_M_send 71 = .ok (.iconst 0, 1) := by decide +kernel
theorem d_M_send_72 : decode b_M_send 72 = .ok (.goto 4, 3) := by decide +kernel
theorem d_M_send_75 : decode b_M_send 75 = .ok (.iconst 1, 1) := by decide +kernel
theorem d_M_send_76 : decode b_M_send 76 = .ok (.iload_n 3, 1) := by decide +kernel
theorem d_M_send_77 : decode b_M_send 77 = .ok (.invokestatic 315, 3) := by decide +kernel
theorem d_M_send_80 : decode b_M_send 80 = .ok (.invokevirtual 763, 3) := by decide +kernel
theorem d_M_send_83 : decode b_M_send 83 = .ok (.goto 155, 3) := by decide +kernel
theorem d_M_send_86 : decode b_M_send 86 = .ok (.aload_n 0, 1) := by decide +kernel
theorem d_M_send_87 : decode b_M_send 87 = .ok (.getfield 255, 3) := by decide +kernel
theorem d_M_send_90 : decode b_M_send 90 = .ok (.iload_n 1, 1) := by decide +kernel
theorem d_M_send_91 : decode b_M_send 91 = .ok (.iaload, 1) := by decide +kernel
theorem d_M_send_92 : decode b_M_send 92 = .ok (.iconst 3, 1) := by decide +kernel
theorem d_M_send_93 : decode b_M_send 93 = .ok (.if_icmp .eq 145, 3) := by decide +kernel
theorem d_M_send_96 : decode b_M_send 96 = .ok (.aload_n 0, 1) := by decide +kernel
theorem d_M_send_97 : decode b_M_send 97 = .ok (.getfield 252, 3) := by decide +kernel
theorem d_M_send_100 : decode b_M_send 100 = .ok (.iload_n 1, 1) := by decide +kernel
theorem d_M_send_101 : decode b_M_send 101 = .ok (.iaload, 1) := by decide +kernel
theorem d_M_send_102 : decode b_M_send 102 = .ok (.bipush 30, 2) := by decide +kernel
theorem d_M_send_104 : decode b_M_send 104 = .ok (.if_icmp .ge 134, 3) := by decide +kernel
theorem d_M_send_107 : decode b_M_send 107 = .ok (.aload_n 0, 1) := by decide +kernel
theorem d_M_send_108 : decode b_M_send 108 = .ok (.iload_n 1, 1) := by decide +kernel
theorem d_M_send_109 : decode b_M_send 109 = .ok (.iconst 3, 1) := by decide +kernel
theorem d_M_send_110 : decode b_M_send 110 = .ok (.invokevirtual 776, 3) := by decide +kernel
theorem d_M_send_113 : decode b_M_send 113 = .ok (.ifCond .eq 112, 3) := by decide +kernel
theorem d_M_send_116 : decode b_M_send 116 = .ok (.aload_n 0, 1) := by decide +kernel
theorem d_M_send_117 : decode b_M_send 117 = .ok (.getfield 192, 3) := by decide +kernel
theorem d_M_send_120 : decode b_M_send 120 = .ok (.iload_n 1, 1) := by decide +kernel
theorem d_M_send_121 : decode b_M_send 121 = .ok (.iaload, 1) := by decide +kernel
theorem d_M_send_122 : decode b_M_send 122 = .ok (.istore 4, 2) := by decide +kernel
theorem d_M_send_124 : decode b_M_send 124 = .ok (.aload_n 0, 1) := by decide +kernel
theorem d_M_send_125 : decode b_M_send 125 = .ok (.getfield 192, 3) := by decide +kernel
theorem d_M_send_128 : decode b_M_send 128 = .ok (.iload_n 1, 1) := by decide +kernel
theorem d_M_send_129 : decode b_M_send 129 = .ok (.dup2, 1) := by decide +kernel
theorem d_M_send_130 : decode b_M_send 130 = .ok (.iaload, 1) := by decide +kernel
theorem d_M_send_131 : decode b_M_send 131 = .ok (.iconst 3, 1) := by decide +kernel
theorem d_M_send_132 : decode b_M_send 132 = .ok (.iadd, 1) := by decide +kernel
theorem d_M_send_133 : decode b_M_send 133 = .ok (.iastore, 1) := by decide +kernel
theorem d_M_send_134 : decode b_M_send 134 = .ok (.aload_n 0, 1) := by decide +kernel
theorem d_M_send_135 : decode b_M_send 135 = .ok (.getfield 189, 3) := by decide +kernel
theorem d_M_send_138 : decode b_M_send 138 = .ok (.iload_n 1, 1) := by decide +kernel
theorem d_M_send_139 : decode b_M_send 139 = .ok (.sipush 500, 3) := by decide +kernel
theorem d_M_send_142 : decode b_M_send 142 = .ok (.imul, 1) := by decide +kernel
theorem d_M_send_143 : decode b_M_send 143 = .ok (.iload 4, 2) := by decide +kernel
theorem d_M_send_145 : decode b_M_send 145 = .ok (.iadd, 1) := by decide +kernel
theorem d_M_send_146 : decode b_M_send 146 = .ok (.ldc2_w 783, 3) := by decide +kernel
theorem d_M_send_149 : decode b_M_send 149 = .ok (.lastore, 1) := by decide +kernel
theorem d_M_send_150 : decode b_M_send 150 = .ok (.aload_n 0, 1) := by decide +kernel
theorem d_M_send_151 : decode b_M_send 151 = .ok (.getfield 189, 3) := by decide +kernel
theorem d_M_send_154 : decode b_M_send 154 = .ok (.iload_n 1, 1) := by decide +kernel
theorem d_M_send_155 : decode b_M_send 155 = .ok (.sipush 500, 3) := by decide +kernel
theorem d_M_send_158 : decode b_M_send 158 = .ok (.imul, 1) := by decide +kernel
theorem d_M_send_159 : decode b_M_send 159 = .ok (.iload 4, 2) := by decide +kernel
theorem d_M_send_161 : decode b_M_send 161 = .ok (.iadd, 1) := by decide +kernel
theorem d_M_send_162 : decode b_M_send 162 = .ok (.iconst 1, 1) := by decide +kernel
theorem d_M_send_163 : decode b_M_send 163 = .ok (.iadd, 1) := by decide +kernel
theorem d_M_send_164 : decode b_M_send 164 = .ok (.iconst 0, 1) := by decide +kernel
theorem d_M_send_165 : decode b_M_send 165 = .ok (.iload_n 3, 1) := by decide +kernel
theorem d_M_send_166 : decode b_M_send 166 = .ok (.invokestatic 315, 3) := by decide +kernel
theorem d_M_send_169 : decode b_M_send 169 = .ok (.lastore, 1) := by decide +kernel
theorem d_M_send_170 : decode b_M_send 170 = .ok (.aload_n 0, 1) := by decide +kernel
theorem d_M_send_171 : decode b_M_send 171 = .ok (.getfield 189, 3) := by decide +kernel
theorem d_M_send_174 : decode b_M_send 174 = .ok (.iload_n 1, 1) := by decide +kernel
theorem d_M_send_175 : decode b_M_send 175 = .ok (.sipush 500, 3) := by decide +kernel
theorem d_M_send_178 : decode b_M_send 178 = .ok (.imul, 1) := by decide +kernel
theorem d_M_send_179 : decode b_M_send 179 = .ok (.iload 4, 2) := by decide +kernel
theorem d_M_send_181 : decode b_M_send 181 = .ok (.iadd, 1) := by decide +kernel
theorem d_M_send_182 : decode b_M_send 182 = .ok (.iconst 2, 1) := by decide +kernel
theorem d_M_send_183 : decode b_M_send 183 = .ok (.iadd, 1) := by decide +kernel
theorem d_M_send_184 : decode b_M_send 184 = .ok (.iconst 4, 1) := by decide +kernel
theorem d_M_send_185 : decode b_M_send 185 = .ok (.iload_n 1, 1) := by decide +kernel
theorem d_M_send_186 : decode b_M_send 186 = .ok (.invokestatic 315, 3) := by decide +kernel
theorem d_M_send_189 : decode b_M_send 189 = .ok (.lastore, 1) := by decide +kernel
theorem d_M_send_190 : decode b_M_send 190 = .ok (.aload_n 0, 1) := by decide +kernel
theorem d_M_send_191 : decode b_M_send 191 = .ok (.getfield 249, 3) := by decide +kernel
theorem d_M_send_194 : decode b_M_send 194 = .ok (.iload_n 1, 1) := by decide +kernel
theorem d_M_send_195 : decode b_M_send 195 = .ok (.bipush 30, 2) := by decide +kernel
theorem d_M_send_197 : decode b_M_send 197 = .ok (.imul, 1) := by decide +kernel
theorem d_M_send_198 : decode b_M_send 198 = .ok (.aload_n 0, 1) := by decide +kernel
theorem d_M_send_199 : decode b_M_send 199 = .ok (.getfield 252, 3) := by decide +kernel
theorem d_M_send_202 : decode b_M_send 202 = .ok (.iload_n 1, 1) := by decide +kernel
theorem d_M_send_203 : decode b_M_send 203 = .ok (.iaload, 1) := by decide +kernel
theorem d_M_send_204 : decode b_M_send 204 = .ok (.iadd, 1) := by decide +kernel
theorem d_M_send_205 : decode b_M_send 205 = .ok (.iconst 5, 1) := by decide +kernel
theorem d_M_send_206 : decode b_M_send 206 = .ok (.iload 4, 2) := by decide +kernel
theorem d_M_send_208 : decode b_M_send 208 = .ok (.invokestatic 315, 3) := by decide +kernel
theorem d_M_send_211 : decode b_M_send 211 = .ok (.lastore, 1) := by decide +kernel
theorem d_M_send_212 : decode b_M_send 212 = .ok (.aload_n 0, 1) := by decide +kernel
theorem d_M_send_213 : decode b_M_send 213 = .ok (.getfield 252, 3) := by decide +kernel
theorem d_M_send_216 : decode b_M_send 216 = .ok (.iload_n 1, 1) := by decide +kernel
theorem d_M_send_217 : decode b_M_send 217 = .ok (.dup2, 1) := by decide +kernel
theorem d_M_send_218 : decode b_M_send 218 = .ok (.iaload, 1) := by decide +kernel
theorem d_M_send_219 : decode b_M_send 219 = .ok (.iconst 1, 1) := by decide +kernel
theorem d_M_send_220 : decode b_M_send 220 = .ok (.iadd, 1) := by decide +kernel
theorem d_M_send_221 : decode b_M_send 221 = .ok (.iastore, 1) := by decide +kernel
theorem d_M_send_222 : decode b_M_send 222 = .ok (.goto 16, 3) := by decide +kernel
theorem d_M_send_225 : decode b_M_send 225 = .ok (.aload_n 0, 1) := by decide +kernel
theorem d_M_send_226 : decode b_M_send 226 = .ok (.iload_n 1, 1) := by decide +kernel
theorem d_M_send_227 : decode b_M_send 227 = .ok (.iconst 0, 1) := by decide +kernel
theorem d_M_send_228 : decode b_M_send 228 = .ok (.iload_n 1, 1) := by decide +kernel
theorem d_M_send_229 : decode b_M_send 229 = .ok (.iconst 1, 1) := by decide +kernel
theorem d_M_send_230 : decode b_M_send 230 = .ok (.bipush 20, 2) := by decide +kernel
theorem d_M_send_232 : decode b_M_send 232 = .ok (.invokestatic 315, 3) := by decide +kernel
theorem d_M_send_235 : decode b_M_send 235 = .ok (.invokevirtual 767, 3) := by decide +kernel
theorem d_M_send_238 : decode b_M_send 238 = .ok (.aload_n 0, 1) := by decide +kernel
theorem d_M_send_239 : decode b_M_send 239 = .ok (.invokevirtual 901, 3) := by decide +kernel
theorem d_M_send_242 : decode b_M_send 242 = .ok (.return_, 1) := by decide +kernel
def rm_M_send : Room := { frames := 9, cells := 0, slots := 0, locals := 235 }
theorem rm_M_send_M_isProcess {R : Room} (hR : R = rm_M_send) : (rm_M_isProcess).frames + 1 ≤ R.frames ∧ 8 + (2 + 11) + (rm_M_isProcess).locals ≤ R.locals := by subst hR; decide
theorem rm_M_send_M_term {R : Room} (hR : R = rm_M_send) : (rm_M_term).frames + 1 ≤ R.frames ∧ 8 + (2 + 11) + (rm_M_term).locals ≤ R.locals := by subst hR; decide
theorem rm_M_send_M_message {R : Room} (hR : R = rm_M_send) : (rm_M_message).frames + 1 ≤ R.frames ∧ 8 + (18 + 11) + (rm_M_message).locals ≤ R.locals := by subst hR; decide
theorem rm_M_send_M_wants {R : Room} (hR : R = rm_M_send) : (rm_M_wants).frames + 1 ≤ R.frames ∧ 8 + (3 + 11) + (rm_M_wants).locals ≤ R.locals := by subst hR; decide
theorem rm_M_send_M_willEnd {R : Room} (hR : R = rm_M_send) : (rm_M_willEnd).frames + 1 ≤ R.frames ∧ 8 + (6 + 11) + (rm_M_willEnd).locals ≤ R.locals := by subst hR; decide
theorem rm_M_send_M_allEnds {R : Room} (hR : R = rm_M_send) : (rm_M_allEnds).frames + 1 ≤ R.frames ∧ 8 + (2 + 11) + (rm_M_allEnds).locals ≤ R.locals := by subst hR; decide
def fb_M_send_238 (N : Nat) (G : Unit) (u : MS) : Option (MS × Unit) := bnd (fm_M_allEnds N u) (fun u1 _ => some (u1, ()))
set_option maxRecDepth 100000 in
set_option maxHeartbeats 4000000 in
theorem wb_M_send_238 {p : Program} {l : Launch} {e : Env} {R : Room} {s : State} {m : MethodId} {args : Array Value} {below : List Frame} {meth : Method} {c : Code} {D : va_G} {cl : List vw_C} {cB cI cJ cZ cS : ClassId} {A : Nat → Prop} {iM h0 : Nat} {ad : Nat → Nat} (C0 : MCx p s m args meth c b_M_send 5 none D cl cB cI cJ cZ cS iM A) (hR : R = rm_M_send) (N : Nat) (G : Unit) (hG : True) : ∀ (u : MS) (x : MS × Unit), fb_M_send_238 N G u = some x → ∀ (H : Heap) (locs : List Loc), va_P D cl (wM cB cI cJ cZ cS iM h0 ad u) H → va_D A (wM cB cI cJ cZ cS iM h0 ad u) → va_S A s.heap H locs → ∀ (ls : Array Slot), lv_has ls 5 [(0, .ref h0)] → W p l e R s m args below meth c H locs 0 0 (MQ below (mQv D cl cB cI cJ cZ cS iM h0 ad A x) args s 0 0 A) (F0 m 238 ls []) := by
  intro u x hf H locs hP hD hS ls hl
  obtain ⟨hx, hb, hr, hml, ht, hown, hM, hK, hA, hlocks⟩ := id C0
  unfold fb_M_send_238 at hf
  refine lv_aload_n hx hb d_M_send_238 rfl (lv_at hl 0 rfl) ?_
  obtain ⟨u1, r1, hc1, hf⟩ := bnd_some hf
  refine mV_v (As := []) (rest := []) C0 hP hD hS (c_M_allEnds N hM hc1) k_M_allEnds hl_M_allEnds hi_M_allEnds hs_M_allEnds hini_M rfl rfl hd_M_allEnds rfl (rm_M_send_M_allEnds hR) hl.1 (Nat.le_of_ble_eq_true rfl) d_M_send_239 rfl ⟨Nat.zero_le _, Nat.zero_le _⟩ (fun H locs hP hD hS => ?_)
  exact mr_v C0 hP hD hS hf d_M_send_242
def fb_M_send_76 (N : Nat) (G : Unit) (u : MS) (v3 : Int32) (t1 : Int32) (t2 : Int32) (t3 : Int32) (t4 : Int32) (t5 : Int32) (t6 : Int32) (t7 : Int32) : Option (MS × Unit) := bnd (fm_M_term N u t7 v3) (fun u2 r2 => bnd (fm_M_message N u2 t1 t2 t3 t4 t5 t6 r2) (fun u3 _ => fb_M_send_238 N G u3))
set_option maxRecDepth 100000 in
set_option maxHeartbeats 4000000 in
theorem wb_M_send_76 {p : Program} {l : Launch} {e : Env} {R : Room} {s : State} {m : MethodId} {args : Array Value} {below : List Frame} {meth : Method} {c : Code} {D : va_G} {cl : List vw_C} {cB cI cJ cZ cS : ClassId} {A : Nat → Prop} {iM h0 : Nat} {ad : Nat → Nat} (C0 : MCx p s m args meth c b_M_send 5 none D cl cB cI cJ cZ cS iM A) (hR : R = rm_M_send) (N : Nat) (G : Unit) (hG : True) : ∀ (u : MS) (v3 : Int32) (t1 : Int32) (t2 : Int32) (t3 : Int32) (t4 : Int32) (t5 : Int32) (t6 : Int32) (t7 : Int32) (x : MS × Unit), fb_M_send_76 N G u v3 t1 t2 t3 t4 t5 t6 t7 = some x → ∀ (H : Heap) (locs : List Loc), va_P D cl (wM cB cI cJ cZ cS iM h0 ad u) H → va_D A (wM cB cI cJ cZ cS iM h0 ad u) → va_S A s.heap H locs → ∀ (ls : Array Slot), lv_has ls 5 [(0, .ref h0), (3, .int v3)] → W p l e R s m args below meth c H locs 0 0 (MQ below (mQv D cl cB cI cJ cZ cS iM h0 ad A x) args s 0 0 A) (F0 m 76 ls [.int t7, .int t6, .int t5, .int t4, .int t3, .int t2, .int t1, .ref h0]) := by
  intro u v3 t1 t2 t3 t4 t5 t6 t7 x hf H locs hP hD hS ls hl
  obtain ⟨hx, hb, hr, hml, ht, hown, hM, hK, hA, hlocks⟩ := id C0
  unfold fb_M_send_76 at hf
  refine lv_iload_n hx hb d_M_send_76 rfl (lv_at hl 1 rfl) ?_
  obtain ⟨u2, r2, hc2, hf⟩ := bnd_some hf
  refine mS_l (As := [.int t7, .int v3]) (rest := [.int t6, .int t5, .int t4, .int t3, .int t2, .int t1, .ref h0]) C0 hP hD hS (c_M_term N hM hc2) k_M_term hl_M_term ht_M_term hini_M rfl rfl hd_M_term rfl (rm_M_send_M_term hR) hl.1 (Nat.le_of_ble_eq_true rfl) d_M_send_77 rfl ⟨Nat.zero_le _, Nat.zero_le _⟩ (fun H locs hP hD hS => ?_)
  obtain ⟨u3, r3, hc3, hf⟩ := bnd_some hf
  refine mV_v (As := [.int t1, .int t2, .int t3, .int t4, .int t5, .int t6, .long r2]) (rest := []) C0 hP hD hS (c_M_message N hM hc3) k_M_message hl_M_message hi_M_message hs_M_message hini_M rfl rfl hd_M_message rfl (rm_M_send_M_message hR) hl.1 (Nat.le_of_ble_eq_true rfl) d_M_send_80 rfl ⟨Nat.zero_le _, Nat.zero_le _⟩ (fun H locs hP hD hS => ?_)
  refine lv_goto (tgt := 238) hx hb d_M_send_83 (by decide) ?_
  exact wb_M_send_238 C0 hR N G hG _ _ hf H locs hP hD hS ls (lv_sub hl [0] rfl)
def fb_M_send_44 (N : Nat) (G : Unit) (u : MS) (v1 : Int32) (v2 : Int32) (v3 : Int32) (t1 : Int32) : Option (MS × Unit) := lt (upI u 3 t1) (fun w4 => br (decide ((w4.1 3) = 0)) (br (decide (2 ≤ v2)) (ck (inb v1 (ln 109)) (br (decide ((w4.2.2.1 109 v1.toNatClampNeg) = 3)) (fb_M_send_238 N G w4) (ck (inb v1 (ln 108)) (br (decide (30 ≤ (w4.2.2.1 108 v1.toNatClampNeg))) (fb_M_send_238 N G w4) (bnd (fm_M_wants N w4 v1 3) (fun u5 r5 => br (decide (r5 = 0)) (bnd (fm_M_term N u5 1 20) (fun u6 r6 => bnd (fm_M_willEnd N u6 v1 0 v1 r6) (fun u7 _ => fb_M_send_238 N G u7))) (ck (inb v1 (ln 89)) (ck (inb v1 (ln 89)) (ck (inb v1 (ln 89)) (lt (upA u5 89 (upd (u5.2.2.1 89) v1.toNatClampNeg ((u5.2.2.1 89 v1.toNatClampNeg) + 3))) (fun w8 => ck (inb ((v1 * 500) + (u5.2.2.1 89 v1.toNatClampNeg)) (ln 88)) (lt (upJ w8 88 (vp_updL (w8.2.2.2 88) ((v1 * 500) + (u5.2.2.1 89 v1.toNatClampNeg)).toNatClampNeg 2)) (fun w9 => bnd (fm_M_term N w9 0 v3) (fun u10 r10 => ck (inb (((v1 * 500) + (u5.2.2.1 89 v1.toNatClampNeg)) + 1) (ln 88)) (lt (upJ u10 88 (vp_updL (u10.2.2.2 88) (((v1 * 500) + (u5.2.2.1 89 v1.toNatClampNeg)) + 1).toNatClampNeg r10)) (fun w11 => bnd (fm_M_term N w11 4 v1) (fun u12 r12 => ck (inb (((v1 * 500) + (u5.2.2.1 89 v1.toNatClampNeg)) + 2) (ln 88)) (lt (upJ u12 88 (vp_updL (u12.2.2.2 88) (((v1 * 500) + (u5.2.2.1 89 v1.toNatClampNeg)) + 2).toNatClampNeg r12)) (fun w13 => ck (inb v1 (ln 108)) (bnd (fm_M_term N w13 5 (u5.2.2.1 89 v1.toNatClampNeg)) (fun u14 r14 => ck (inb ((v1 * 30) + (w13.2.2.1 108 v1.toNatClampNeg)) (ln 107)) (lt (upJ u14 107 (vp_updL (u14.2.2.2 107) ((v1 * 30) + (w13.2.2.1 108 v1.toNatClampNeg)).toNatClampNeg r14)) (fun w15 => ck (inb v1 (ln 108)) (ck (inb v1 (ln 108)) (lt (upA w15 108 (upd (w15.2.2.1 108) v1.toNatClampNeg ((w15.2.2.1 108 v1.toNatClampNeg) + 1))) (fun w16 => fb_M_send_238 N G w16)))))))))))))))))))))))))) (br (decide (v2 = 0)) (fb_M_send_76 N G w4 (v3) (v1) (2) (0) (0) (0) (v1) (0)) (fb_M_send_76 N G w4 (v3) (v1) (2) (0) (0) (0) (v1) (1)))) (some (w4, ())))
set_option maxRecDepth 100000 in
set_option maxHeartbeats 4000000 in
theorem wb_M_send_44 {p : Program} {l : Launch} {e : Env} {R : Room} {s : State} {m : MethodId} {args : Array Value} {below : List Frame} {meth : Method} {c : Code} {D : va_G} {cl : List vw_C} {cB cI cJ cZ cS : ClassId} {A : Nat → Prop} {iM h0 : Nat} {ad : Nat → Nat} (C0 : MCx p s m args meth c b_M_send 5 none D cl cB cI cJ cZ cS iM A) (hR : R = rm_M_send) (N : Nat) (G : Unit) (hG : True) : ∀ (u : MS) (v1 : Int32) (v2 : Int32) (v3 : Int32) (t1 : Int32) (x : MS × Unit), fb_M_send_44 N G u v1 v2 v3 t1 = some x → ∀ (H : Heap) (locs : List Loc), va_P D cl (wM cB cI cJ cZ cS iM h0 ad u) H → va_D A (wM cB cI cJ cZ cS iM h0 ad u) → va_S A s.heap H locs → ∀ (ls : Array Slot), lv_has ls 5 [(0, .ref h0), (1, .int v1), (2, .int v2), (3, .int v3)] → W p l e R s m args below meth c H locs 0 0 (MQ below (mQv D cl cB cI cJ cZ cS iM h0 ad A x) args s 0 0 A) (F0 m 44 ls [.int t1, .ref h0]) := by
  intro u v1 v2 v3 t1 x hf H locs hP hD hS ls hl
  obtain ⟨hx, hb, hr, hml, ht, hown, hM, hK, hA, hlocks⟩ := id C0
  unfold fb_M_send_44 at hf
  refine up_I hx hb ht hown hM hK hP hD hS 3 (by decide) lk_M_3 (by decide) rfl rfl rfl d_M_send_44 (fun H locs hP hD hS => ?_)
  obtain ⟨w4, e4, hf⟩ := lt_some hf
  rw [← e4] at hP hD
  refine lv_aload_n hx hb d_M_send_47 rfl (lv_at hl 0 rfl) ?_
  refine ug_I hx hb ht hown hM hK hP 3 (by decide) lk_M_3 (by decide) d_M_send_48 ?_
  refine lv_if_eq (tgt := 55) hx hb d_M_send_51 (by decide) (fun hc => ?_) (fun hc => ?_)
  · rw [br_p _ hc] at hf
    refine lv_iload_n hx hb d_M_send_55 rfl (lv_at hl 2 rfl) ?_
    refine lv_iconst (v := 2) hx hb d_M_send_56 (by decide) ?_
    refine lv_icmp_ge (tgt := 86) hx hb d_M_send_57 (by decide) (fun hc => ?_) (fun hc => ?_)
    · rw [br_p _ hc] at hf
      refine lv_aload_n hx hb d_M_send_86 rfl (lv_at hl 0 rfl) ?_
      refine ug_R hx hb ht hown hM hK hP 109 (by decide) lk_M_109 (by decide) d_M_send_87 ?_
      refine lv_iload_n hx hb d_M_send_90 rfl (lv_at hl 1 rfl) ?_
      obtain ⟨hi9, hf⟩ := ck_some hf
      refine ul_I hx hb hK hP (by decide) (by decide) hi9 d_M_send_91 ?_
      refine lv_iconst (v := 3) hx hb d_M_send_92 (by decide) ?_
      refine lv_icmp_eq (tgt := 238) hx hb d_M_send_93 (by decide) (fun hc => ?_) (fun hc => ?_)
      · rw [br_p _ hc] at hf
        exact wb_M_send_238 C0 hR N G hG _ _ hf H locs hP hD hS ls (lv_sub hl [0] rfl)
      · rw [br_n _ hc] at hf
        refine lv_aload_n hx hb d_M_send_96 rfl (lv_at hl 0 rfl) ?_
        refine ug_R hx hb ht hown hM hK hP 108 (by decide) lk_M_108 (by decide) d_M_send_97 ?_
        refine lv_iload_n hx hb d_M_send_100 rfl (lv_at hl 1 rfl) ?_
        obtain ⟨hi9, hf⟩ := ck_some hf
        refine ul_I hx hb hK hP (by decide) (by decide) hi9 d_M_send_101 ?_
        refine lv_bipush (v := 30) hx hb d_M_send_102 (by decide) ?_
        refine lv_icmp_ge (tgt := 238) hx hb d_M_send_104 (by decide) (fun hc => ?_) (fun hc => ?_)
        · rw [br_p _ hc] at hf
          exact wb_M_send_238 C0 hR N G hG _ _ hf H locs hP hD hS ls (lv_sub hl [0] rfl)
        · rw [br_n _ hc] at hf
          refine lv_aload_n hx hb d_M_send_107 rfl (lv_at hl 0 rfl) ?_
          refine lv_iload_n hx hb d_M_send_108 rfl (lv_at hl 1 rfl) ?_
          refine lv_iconst (v := 3) hx hb d_M_send_109 (by decide) ?_
          obtain ⟨u5, r5, hc5, hf⟩ := bnd_some hf
          refine mV_i (As := [.int v1, .int 3]) (rest := []) C0 hP hD hS (c_M_wants N hM hc5) k_M_wants hl_M_wants hi_M_wants hs_M_wants hini_M rfl rfl hd_M_wants rfl (rm_M_send_M_wants hR) hl.1 (Nat.le_of_ble_eq_true rfl) d_M_send_110 rfl ⟨Nat.zero_le _, Nat.zero_le _⟩ (fun H locs hP hD hS => ?_)
          refine lv_if_eq (tgt := 225) hx hb d_M_send_113 (by decide) (fun hc => ?_) (fun hc => ?_)
          · rw [br_p _ hc] at hf
            refine lv_aload_n hx hb d_M_send_225 rfl (lv_at hl 0 rfl) ?_
            refine lv_iload_n hx hb d_M_send_226 rfl (lv_at hl 1 rfl) ?_
            refine lv_iconst (v := 0) hx hb d_M_send_227 (by decide) ?_
            refine lv_iload_n hx hb d_M_send_228 rfl (lv_at hl 1 rfl) ?_
            refine lv_iconst (v := 1) hx hb d_M_send_229 (by decide) ?_
            refine lv_bipush (v := 20) hx hb d_M_send_230 (by decide) ?_
            obtain ⟨u6, r6, hc6, hf⟩ := bnd_some hf
            refine mS_l (As := [.int 1, .int 20]) (rest := [.int v1, .int 0, .int v1, .ref h0]) C0 hP hD hS (c_M_term N hM hc6) k_M_term hl_M_term ht_M_term hini_M rfl rfl hd_M_term rfl (rm_M_send_M_term hR) hl.1 (Nat.le_of_ble_eq_true rfl) d_M_send_232 rfl ⟨Nat.zero_le _, Nat.zero_le _⟩ (fun H locs hP hD hS => ?_)
            obtain ⟨u7, r7, hc7, hf⟩ := bnd_some hf
            refine mV_v (As := [.int v1, .int 0, .int v1, .long r6]) (rest := []) C0 hP hD hS (c_M_willEnd N hM hc7) k_M_willEnd hl_M_willEnd hi_M_willEnd hs_M_willEnd hini_M rfl rfl hd_M_willEnd rfl (rm_M_send_M_willEnd hR) hl.1 (Nat.le_of_ble_eq_true rfl) d_M_send_235 rfl ⟨Nat.zero_le _, Nat.zero_le _⟩ (fun H locs hP hD hS => ?_)
            exact wb_M_send_238 C0 hR N G hG _ _ hf H locs hP hD hS ls (lv_sub hl [0] rfl)
          · rw [br_n _ hc] at hf
            refine lv_aload_n hx hb d_M_send_116 rfl (lv_at hl 0 rfl) ?_
            refine ug_R hx hb ht hown hM hK hP 89 (by decide) lk_M_89 (by decide) d_M_send_117 ?_
            refine lv_iload_n hx hb d_M_send_120 rfl (lv_at hl 1 rfl) ?_
            obtain ⟨hi9, hf⟩ := ck_some hf
            refine ul_I hx hb hK hP (by decide) (by decide) hi9 d_M_send_121 ?_
            refine lv_istore (lv' := [(4, .int (u5.2.2.1 89 v1.toNatClampNeg)), (0, .ref h0), (1, .int v1), (2, .int v2), (3, .int v3)]) hx hb d_M_send_122 hl (by decide) rfl (fun ls hl => ?_)
            refine lv_aload_n hx hb d_M_send_124 rfl (lv_at hl 1 rfl) ?_
            refine ug_R hx hb ht hown hM hK hP 89 (by decide) lk_M_89 (by decide) d_M_send_125 ?_
            refine lv_iload_n hx hb d_M_send_128 rfl (lv_at hl 2 rfl) ?_
            refine lv_dup2_11 hx hb d_M_send_129 rfl rfl ?_
            obtain ⟨hi9, hf⟩ := ck_some hf
            refine ul_I hx hb hK hP (by decide) (by decide) hi9 d_M_send_130 ?_
            refine lv_iconst (v := 3) hx hb d_M_send_131 (by decide) ?_
            refine lv_iadd hx hb d_M_send_132 ?_
            obtain ⟨hi9, hf⟩ := ck_some hf
            refine us_I hx hb hK hP hD hS (by decide) (by decide) hi9 d_M_send_133 (fun H locs hP hD hS => ?_)
            obtain ⟨w8, e8, hf⟩ := lt_some hf
            rw [← e8] at hP hD
            refine lv_aload_n hx hb d_M_send_134 rfl (lv_at hl 1 rfl) ?_
            refine ug_R hx hb ht hown hM hK hP 88 (by decide) lk_M_88 (by decide) d_M_send_135 ?_
            refine lv_iload_n hx hb d_M_send_138 rfl (lv_at hl 2 rfl) ?_
            refine lv_sipush (v := 500) hx hb d_M_send_139 (by decide) ?_
            refine lv_imul hx hb d_M_send_142 ?_
            refine lv_iload hx hb d_M_send_143 (lv_at hl 0 rfl) ?_
            refine lv_iadd hx hb d_M_send_145 ?_
            refine lv_ldc2 (v := 2) hx hb hown (ht _ (wd_of 2994 (by decide +kernel) rfl)) d_M_send_146 ?_
            obtain ⟨hi9, hf⟩ := ck_some hf
            refine us_J hx hb hK hP hD hS (by decide) (by decide) hi9 d_M_send_149 (fun H locs hP hD hS => ?_)
            obtain ⟨w9, e9, hf⟩ := lt_some hf
            rw [← e9] at hP hD
            refine lv_aload_n hx hb d_M_send_150 rfl (lv_at hl 1 rfl) ?_
            refine ug_R hx hb ht hown hM hK hP 88 (by decide) lk_M_88 (by decide) d_M_send_151 ?_
            refine lv_iload_n hx hb d_M_send_154 rfl (lv_at hl 2 rfl) ?_
            refine lv_sipush (v := 500) hx hb d_M_send_155 (by decide) ?_
            refine lv_imul hx hb d_M_send_158 ?_
            refine lv_iload hx hb d_M_send_159 (lv_at hl 0 rfl) ?_
            refine lv_iadd hx hb d_M_send_161 ?_
            refine lv_iconst (v := 1) hx hb d_M_send_162 (by decide) ?_
            refine lv_iadd hx hb d_M_send_163 ?_
            refine lv_iconst (v := 0) hx hb d_M_send_164 (by decide) ?_
            refine lv_iload_n hx hb d_M_send_165 rfl (lv_at hl 4 rfl) ?_
            obtain ⟨u10, r10, hc10, hf⟩ := bnd_some hf
            refine mS_l (As := [.int 0, .int v3]) (rest := [.int (((v1 * 500) + (u5.2.2.1 89 v1.toNatClampNeg)) + 1), .ref (ad 88)]) C0 hP hD hS (c_M_term N hM hc10) k_M_term hl_M_term ht_M_term hini_M rfl rfl hd_M_term rfl (rm_M_send_M_term hR) hl.1 (Nat.le_of_ble_eq_true rfl) d_M_send_166 rfl ⟨Nat.zero_le _, Nat.zero_le _⟩ (fun H locs hP hD hS => ?_)
            obtain ⟨hi9, hf⟩ := ck_some hf
            refine us_J hx hb hK hP hD hS (by decide) (by decide) hi9 d_M_send_169 (fun H locs hP hD hS => ?_)
            obtain ⟨w11, e11, hf⟩ := lt_some hf
            rw [← e11] at hP hD
            refine lv_aload_n hx hb d_M_send_170 rfl (lv_at hl 1 rfl) ?_
            refine ug_R hx hb ht hown hM hK hP 88 (by decide) lk_M_88 (by decide) d_M_send_171 ?_
            refine lv_iload_n hx hb d_M_send_174 rfl (lv_at hl 2 rfl) ?_
            refine lv_sipush (v := 500) hx hb d_M_send_175 (by decide) ?_
            refine lv_imul hx hb d_M_send_178 ?_
            refine lv_iload hx hb d_M_send_179 (lv_at hl 0 rfl) ?_
            refine lv_iadd hx hb d_M_send_181 ?_
            refine lv_iconst (v := 2) hx hb d_M_send_182 (by decide) ?_
            refine lv_iadd hx hb d_M_send_183 ?_
            refine lv_iconst (v := 4) hx hb d_M_send_184 (by decide) ?_
            refine lv_iload_n hx hb d_M_send_185 rfl (lv_at hl 2 rfl) ?_
            obtain ⟨u12, r12, hc12, hf⟩ := bnd_some hf
            refine mS_l (As := [.int 4, .int v1]) (rest := [.int (((v1 * 500) + (u5.2.2.1 89 v1.toNatClampNeg)) + 2), .ref (ad 88)]) C0 hP hD hS (c_M_term N hM hc12) k_M_term hl_M_term ht_M_term hini_M rfl rfl hd_M_term rfl (rm_M_send_M_term hR) hl.1 (Nat.le_of_ble_eq_true rfl) d_M_send_186 rfl ⟨Nat.zero_le _, Nat.zero_le _⟩ (fun H locs hP hD hS => ?_)
            obtain ⟨hi9, hf⟩ := ck_some hf
            refine us_J hx hb hK hP hD hS (by decide) (by decide) hi9 d_M_send_189 (fun H locs hP hD hS => ?_)
            obtain ⟨w13, e13, hf⟩ := lt_some hf
            rw [← e13] at hP hD
            refine lv_aload_n hx hb d_M_send_190 rfl (lv_at hl 1 rfl) ?_
            refine ug_R hx hb ht hown hM hK hP 107 (by decide) lk_M_107 (by decide) d_M_send_191 ?_
            refine lv_iload_n hx hb d_M_send_194 rfl (lv_at hl 2 rfl) ?_
            refine lv_bipush (v := 30) hx hb d_M_send_195 (by decide) ?_
            refine lv_imul hx hb d_M_send_197 ?_
            refine lv_aload_n hx hb d_M_send_198 rfl (lv_at hl 1 rfl) ?_
            refine ug_R hx hb ht hown hM hK hP 108 (by decide) lk_M_108 (by decide) d_M_send_199 ?_
            refine lv_iload_n hx hb d_M_send_202 rfl (lv_at hl 2 rfl) ?_
            obtain ⟨hi9, hf⟩ := ck_some hf
            refine ul_I hx hb hK hP (by decide) (by decide) hi9 d_M_send_203 ?_
            refine lv_iadd hx hb d_M_send_204 ?_
            refine lv_iconst (v := 5) hx hb d_M_send_205 (by decide) ?_
            refine lv_iload hx hb d_M_send_206 (lv_at hl 0 rfl) ?_
            obtain ⟨u14, r14, hc14, hf⟩ := bnd_some hf
            refine mS_l (As := [.int 5, .int (u5.2.2.1 89 v1.toNatClampNeg)]) (rest := [.int ((v1 * 30) + (w13.2.2.1 108 v1.toNatClampNeg)), .ref (ad 107)]) C0 hP hD hS (c_M_term N hM hc14) k_M_term hl_M_term ht_M_term hini_M rfl rfl hd_M_term rfl (rm_M_send_M_term hR) hl.1 (Nat.le_of_ble_eq_true rfl) d_M_send_208 rfl ⟨Nat.zero_le _, Nat.zero_le _⟩ (fun H locs hP hD hS => ?_)
            obtain ⟨hi9, hf⟩ := ck_some hf
            refine us_J hx hb hK hP hD hS (by decide) (by decide) hi9 d_M_send_211 (fun H locs hP hD hS => ?_)
            obtain ⟨w15, e15, hf⟩ := lt_some hf
            rw [← e15] at hP hD
            refine lv_aload_n hx hb d_M_send_212 rfl (lv_at hl 1 rfl) ?_
            refine ug_R hx hb ht hown hM hK hP 108 (by decide) lk_M_108 (by decide) d_M_send_213 ?_
            refine lv_iload_n hx hb d_M_send_216 rfl (lv_at hl 2 rfl) ?_
            refine lv_dup2_11 hx hb d_M_send_217 rfl rfl ?_
            obtain ⟨hi9, hf⟩ := ck_some hf
            refine ul_I hx hb hK hP (by decide) (by decide) hi9 d_M_send_218 ?_
            refine lv_iconst (v := 1) hx hb d_M_send_219 (by decide) ?_
            refine lv_iadd hx hb d_M_send_220 ?_
            obtain ⟨hi9, hf⟩ := ck_some hf
            refine us_I hx hb hK hP hD hS (by decide) (by decide) hi9 d_M_send_221 (fun H locs hP hD hS => ?_)
            obtain ⟨w16, e16, hf⟩ := lt_some hf
            rw [← e16] at hP hD
            refine lv_goto (tgt := 238) hx hb d_M_send_222 (by decide) ?_
            exact wb_M_send_238 C0 hR N G hG _ _ hf H locs hP hD hS ls (lv_sub hl [1] rfl)
    · rw [br_n _ hc] at hf
      refine lv_aload_n hx hb d_M_send_60 rfl (lv_at hl 0 rfl) ?_
      refine lv_iload_n hx hb d_M_send_61 rfl (lv_at hl 1 rfl) ?_
      refine lv_iconst (v := 2) hx hb d_M_send_62 (by decide) ?_
      refine lv_iconst (v := 0) hx hb d_M_send_63 (by decide) ?_
      refine lv_iconst (v := 0) hx hb d_M_send_64 (by decide) ?_
      refine lv_iconst (v := 0) hx hb d_M_send_65 (by decide) ?_
      refine lv_iload_n hx hb d_M_send_66 rfl (lv_at hl 1 rfl) ?_
      refine lv_iload_n hx hb d_M_send_67 rfl (lv_at hl 2 rfl) ?_
      refine lv_if_ne (tgt := 75) hx hb d_M_send_68 (by decide) (fun hc => ?_) (fun hc => ?_)
      · rw [br_n _ hc] at hf
        refine lv_iconst (v := 1) hx hb d_M_send_75 (by decide) ?_
        exact wb_M_send_76 C0 hR N G hG _ _ _ _ _ _ _ _ _ _ hf H locs hP hD hS ls (lv_sub hl [0, 3] rfl)
      · rw [br_p _ hc] at hf
        refine lv_iconst (v := 0) hx hb d_M_send_71 (by decide) ?_
        refine lv_goto (tgt := 76) hx hb d_M_send_72 (by decide) ?_
        exact wb_M_send_76 C0 hR N G hG _ _ _ _ _ _ _ _ _ _ hf H locs hP hD hS ls (lv_sub hl [0, 3] rfl)
  · rw [br_n _ hc] at hf
    exact mr_v C0 hP hD hS hf d_M_send_54
def fb_M_send_39 (N : Nat) (G : Unit) (u : MS) (v1 : Int32) (v2 : Int32) (v3 : Int32) : Option (MS × Unit) := fb_M_send_44 N G u (v1) (v2) (v3) (2)
set_option maxRecDepth 100000 in
set_option maxHeartbeats 4000000 in
theorem wb_M_send_39 {p : Program} {l : Launch} {e : Env} {R : Room} {s : State} {m : MethodId} {args : Array Value} {below : List Frame} {meth : Method} {c : Code} {D : va_G} {cl : List vw_C} {cB cI cJ cZ cS : ClassId} {A : Nat → Prop} {iM h0 : Nat} {ad : Nat → Nat} (C0 : MCx p s m args meth c b_M_send 5 none D cl cB cI cJ cZ cS iM A) (hR : R = rm_M_send) (N : Nat) (G : Unit) (hG : True) : ∀ (u : MS) (v1 : Int32) (v2 : Int32) (v3 : Int32) (x : MS × Unit), fb_M_send_39 N G u v1 v2 v3 = some x → ∀ (H : Heap) (locs : List Loc), va_P D cl (wM cB cI cJ cZ cS iM h0 ad u) H → va_D A (wM cB cI cJ cZ cS iM h0 ad u) → va_S A s.heap H locs → ∀ (ls : Array Slot), lv_has ls 5 [(0, .ref h0), (1, .int v1), (2, .int v2), (3, .int v3)] → W p l e R s m args below meth c H locs 0 0 (MQ below (mQv D cl cB cI cJ cZ cS iM h0 ad A x) args s 0 0 A) (F0 m 39 ls [.ref h0]) := by
  intro u v1 v2 v3 x hf H locs hP hD hS ls hl
  obtain ⟨hx, hb, hr, hml, ht, hown, hM, hK, hA, hlocks⟩ := id C0
  unfold fb_M_send_39 at hf
  refine lv_iconst (v := 2) hx hb d_M_send_39 (by decide) ?_
  refine lv_goto (tgt := 44) hx hb d_M_send_40 (by decide) ?_
  exact wb_M_send_44 C0 hR N G hG _ _ _ _ _ _ hf H locs hP hD hS ls (lv_sub hl [0, 1, 2, 3] rfl)
def fb_M_send_30 (N : Nat) (G : Unit) (u : MS) (v1 : Int32) (v2 : Int32) (v3 : Int32) : Option (MS × Unit) := br (decide (v2 < 0)) (fb_M_send_39 N G u (v1) (v2) (v3)) (br (decide (v2 ≤ 2)) (fb_M_send_44 N G u (v1) (v2) (v3) (0)) (fb_M_send_39 N G u (v1) (v2) (v3)))
set_option maxRecDepth 100000 in
set_option maxHeartbeats 4000000 in
theorem wb_M_send_30 {p : Program} {l : Launch} {e : Env} {R : Room} {s : State} {m : MethodId} {args : Array Value} {below : List Frame} {meth : Method} {c : Code} {D : va_G} {cl : List vw_C} {cB cI cJ cZ cS : ClassId} {A : Nat → Prop} {iM h0 : Nat} {ad : Nat → Nat} (C0 : MCx p s m args meth c b_M_send 5 none D cl cB cI cJ cZ cS iM A) (hR : R = rm_M_send) (N : Nat) (G : Unit) (hG : True) : ∀ (u : MS) (v1 : Int32) (v2 : Int32) (v3 : Int32) (x : MS × Unit), fb_M_send_30 N G u v1 v2 v3 = some x → ∀ (H : Heap) (locs : List Loc), va_P D cl (wM cB cI cJ cZ cS iM h0 ad u) H → va_D A (wM cB cI cJ cZ cS iM h0 ad u) → va_S A s.heap H locs → ∀ (ls : Array Slot), lv_has ls 5 [(0, .ref h0), (1, .int v1), (2, .int v2), (3, .int v3)] → W p l e R s m args below meth c H locs 0 0 (MQ below (mQv D cl cB cI cJ cZ cS iM h0 ad A x) args s 0 0 A) (F0 m 30 ls [.ref h0]) := by
  intro u v1 v2 v3 x hf H locs hP hD hS ls hl
  obtain ⟨hx, hb, hr, hml, ht, hown, hM, hK, hA, hlocks⟩ := id C0
  unfold fb_M_send_30 at hf
  refine lv_iload_n hx hb d_M_send_30 rfl (lv_at hl 2 rfl) ?_
  refine lv_if_lt (tgt := 39) hx hb d_M_send_31 (by decide) (fun hc => ?_) (fun hc => ?_)
  · rw [br_p _ hc] at hf
    exact wb_M_send_39 C0 hR N G hG _ _ _ _ _ hf H locs hP hD hS ls (lv_sub hl [0, 1, 2, 3] rfl)
  · rw [br_n _ hc] at hf
    refine lv_iload_n hx hb d_M_send_34 rfl (lv_at hl 2 rfl) ?_
    refine lv_iconst (v := 2) hx hb d_M_send_35 (by decide) ?_
    refine lv_icmp_le (tgt := 43) hx hb d_M_send_36 (by decide) (fun hc => ?_) (fun hc => ?_)
    · rw [br_p _ hc] at hf
      refine lv_iconst (v := 0) hx hb d_M_send_43 (by decide) ?_
      exact wb_M_send_44 C0 hR N G hG _ _ _ _ _ _ hf H locs hP hD hS ls (lv_sub hl [0, 1, 2, 3] rfl)
    · rw [br_n _ hc] at hf
      exact wb_M_send_39 C0 hR N G hG _ _ _ _ _ hf H locs hP hD hS ls (lv_sub hl [0, 1, 2, 3] rfl)
def fb_M_send_26 (N : Nat) (G : Unit) (u : MS) (v1 : Int32) (v2 : Int32) (v3 : Int32) : Option (MS × Unit) := fb_M_send_44 N G u (v1) (v2) (v3) (1)
set_option maxRecDepth 100000 in
set_option maxHeartbeats 4000000 in
theorem wb_M_send_26 {p : Program} {l : Launch} {e : Env} {R : Room} {s : State} {m : MethodId} {args : Array Value} {below : List Frame} {meth : Method} {c : Code} {D : va_G} {cl : List vw_C} {cB cI cJ cZ cS : ClassId} {A : Nat → Prop} {iM h0 : Nat} {ad : Nat → Nat} (C0 : MCx p s m args meth c b_M_send 5 none D cl cB cI cJ cZ cS iM A) (hR : R = rm_M_send) (N : Nat) (G : Unit) (hG : True) : ∀ (u : MS) (v1 : Int32) (v2 : Int32) (v3 : Int32) (x : MS × Unit), fb_M_send_26 N G u v1 v2 v3 = some x → ∀ (H : Heap) (locs : List Loc), va_P D cl (wM cB cI cJ cZ cS iM h0 ad u) H → va_D A (wM cB cI cJ cZ cS iM h0 ad u) → va_S A s.heap H locs → ∀ (ls : Array Slot), lv_has ls 5 [(0, .ref h0), (1, .int v1), (2, .int v2), (3, .int v3)] → W p l e R s m args below meth c H locs 0 0 (MQ below (mQv D cl cB cI cJ cZ cS iM h0 ad A x) args s 0 0 A) (F0 m 26 ls [.ref h0]) := by
  intro u v1 v2 v3 x hf H locs hP hD hS ls hl
  obtain ⟨hx, hb, hr, hml, ht, hown, hM, hK, hA, hlocks⟩ := id C0
  unfold fb_M_send_26 at hf
  refine lv_iconst (v := 1) hx hb d_M_send_26 (by decide) ?_
  refine lv_goto (tgt := 44) hx hb d_M_send_27 (by decide) ?_
  exact wb_M_send_44 C0 hR N G hG _ _ _ _ _ _ hf H locs hP hD hS ls (lv_sub hl [0, 1, 2, 3] rfl)
def fb_M_send_0 (N : Nat) (G : Unit) (u : MS) (v1 : Int32) (v2 : Int32) (v3 : Int32) : Option (MS × Unit) := bnd (fm_M_isProcess N u v1) (fun u17 r17 => br (decide (r17 = 0)) (fb_M_send_26 N G u17 (v1) (v2) (v3)) (br (decide (v2 = 1)) (br (decide (v3 < 0)) (fb_M_send_26 N G u17 (v1) (v2) (v3)) (br (decide (v3 < (u17.1 14))) (fb_M_send_30 N G u17 (v1) (v2) (v3)) (fb_M_send_26 N G u17 (v1) (v2) (v3)))) (fb_M_send_30 N G u17 (v1) (v2) (v3))))
set_option maxRecDepth 100000 in
set_option maxHeartbeats 4000000 in
theorem wb_M_send_0 {p : Program} {l : Launch} {e : Env} {R : Room} {s : State} {m : MethodId} {args : Array Value} {below : List Frame} {meth : Method} {c : Code} {D : va_G} {cl : List vw_C} {cB cI cJ cZ cS : ClassId} {A : Nat → Prop} {iM h0 : Nat} {ad : Nat → Nat} (C0 : MCx p s m args meth c b_M_send 5 none D cl cB cI cJ cZ cS iM A) (hR : R = rm_M_send) (N : Nat) (G : Unit) (hG : True) : ∀ (u : MS) (v1 : Int32) (v2 : Int32) (v3 : Int32) (x : MS × Unit), fb_M_send_0 N G u v1 v2 v3 = some x → ∀ (H : Heap) (locs : List Loc), va_P D cl (wM cB cI cJ cZ cS iM h0 ad u) H → va_D A (wM cB cI cJ cZ cS iM h0 ad u) → va_S A s.heap H locs → ∀ (ls : Array Slot), lv_has ls 5 [(0, .ref h0), (1, .int v1), (2, .int v2), (3, .int v3)] → W p l e R s m args below meth c H locs 0 0 (MQ below (mQv D cl cB cI cJ cZ cS iM h0 ad A x) args s 0 0 A) (F0 m 0 ls []) := by
  intro u v1 v2 v3 x hf H locs hP hD hS ls hl
  obtain ⟨hx, hb, hr, hml, ht, hown, hM, hK, hA, hlocks⟩ := id C0
  unfold fb_M_send_0 at hf
  refine lv_aload_n hx hb d_M_send_0 rfl (lv_at hl 0 rfl) ?_
  refine lv_aload_n hx hb d_M_send_1 rfl (lv_at hl 0 rfl) ?_
  refine lv_iload_n hx hb d_M_send_2 rfl (lv_at hl 1 rfl) ?_
  obtain ⟨u17, r17, hc17, hf⟩ := bnd_some hf
  refine mV_i (As := [.int v1]) (rest := [.ref h0]) C0 hP hD hS (c_M_isProcess N hM hc17) k_M_isProcess hl_M_isProcess hi_M_isProcess hs_M_isProcess hini_M rfl rfl hd_M_isProcess rfl (rm_M_send_M_isProcess hR) hl.1 (Nat.le_of_ble_eq_true rfl) d_M_send_3 rfl ⟨Nat.zero_le _, Nat.zero_le _⟩ (fun H locs hP hD hS => ?_)
  refine lv_if_eq (tgt := 26) hx hb d_M_send_6 (by decide) (fun hc => ?_) (fun hc => ?_)
  · rw [br_p _ hc] at hf
    exact wb_M_send_26 C0 hR N G hG _ _ _ _ _ hf H locs hP hD hS ls (lv_sub hl [0, 1, 2, 3] rfl)
  · rw [br_n _ hc] at hf
    refine lv_iload_n hx hb d_M_send_9 rfl (lv_at hl 2 rfl) ?_
    refine lv_iconst (v := 1) hx hb d_M_send_10 (by decide) ?_
    refine lv_icmp_ne (tgt := 30) hx hb d_M_send_11 (by decide) (fun hc => ?_) (fun hc => ?_)
    · rw [br_n _ hc] at hf
      exact wb_M_send_30 C0 hR N G hG _ _ _ _ _ hf H locs hP hD hS ls (lv_sub hl [0, 1, 2, 3] rfl)
    · rw [br_p _ hc] at hf
      refine lv_iload_n hx hb d_M_send_14 rfl (lv_at hl 3 rfl) ?_
      refine lv_if_lt (tgt := 26) hx hb d_M_send_15 (by decide) (fun hc => ?_) (fun hc => ?_)
      · rw [br_p _ hc] at hf
        exact wb_M_send_26 C0 hR N G hG _ _ _ _ _ hf H locs hP hD hS ls (lv_sub hl [0, 1, 2, 3] rfl)
      · rw [br_n _ hc] at hf
        refine lv_iload_n hx hb d_M_send_18 rfl (lv_at hl 3 rfl) ?_
        refine lv_aload_n hx hb d_M_send_19 rfl (lv_at hl 0 rfl) ?_
        refine ug_I hx hb ht hown hM hK hP 14 (by decide) lk_M_14 (by decide) d_M_send_20 ?_
        refine lv_icmp_lt (tgt := 30) hx hb d_M_send_23 (by decide) (fun hc => ?_) (fun hc => ?_)
        · rw [br_p _ hc] at hf
          exact wb_M_send_30 C0 hR N G hG _ _ _ _ _ hf H locs hP hD hS ls (lv_sub hl [0, 1, 2, 3] rfl)
        · rw [br_n _ hc] at hf
          exact wb_M_send_26 C0 hR N G hG _ _ _ _ _ hf H locs hP hD hS ls (lv_sub hl [0, 1, 2, 3] rfl)
def fm_M_send (N : Nat) (u : MS) (v1 : Int32) (v2 : Int32) (v3 : Int32) : Option (MS × Unit) := fb_M_send_0 N () u v1 v2 v3
set_option maxRecDepth 100000 in
set_option maxHeartbeats 4000000 in
theorem c_M_send (N : Nat) {l : Launch} {D : va_G} {cl : List vw_C} {cB cI cJ cZ cS : ClassId} {iM h0 : Nat} {ad : Nat → Nat} {u : MS} {sz : Nat} {v1 : Int32} {v2 : Int32} {v3 : Int32} {x : MS × Unit} (hM : cl[iM]? = some (R_M, F_M, 171)) (hf : fm_M_send N u v1 v2 v3 = some x) : Met l y_M_send (wd_ws y_M_send b_M_send 5 none) rm_M_send (mPc D cl cB cI cJ cZ cS iM h0 ad u sz [.ref h0, .int v1, .int v2, .int v3]) (mQv D cl cB cI cJ cZ cS iM h0 ad (mA cB cI cJ cZ cS iM h0 ad u sz) x) 0 0 (mA cB cI cJ cZ cS iM h0 ad u sz) :=
  mMet (by decide) rfl hM (Nat.le_of_ble_eq_true rfl) (fun p e s m below meth c ls hsz C0 hP hD hS hl => by
    have hR : rm_M_send = rm_M_send := rfl
    exact wb_M_send_0 C0 hR N () trivial u _ _ _ x hf s.heap [] hP hD hS ls (lv_sub hl [0, 1, 2, 3] rfl))
abbrev b_M_count : ByteArray := prog_14_method_164_code
def y_M_count : MethodName := ⟨R_M, "count", "(I)I"⟩
def w_M_count : List Cond := wd_ws y_M_count b_M_count 2 (some .int)
set_option maxRecDepth 100000 in
theorem k_M_count : Cond.code y_M_count b_M_count 2 (some .int) ∈ wd_tbl := wd_of 3259 rfl rfl
theorem d_M_count_0 : decode b_M_count 0 = .ok (.aload_n 0, 1) := by decide +kernel
theorem d_M_count_1 : decode b_M_count 1 = .ok (.iconst 0, 1) := by decide +kernel
theorem d_M_count_2 : decode b_M_count 2 = .ok (.putfield 369, 3) := by decide +kernel
theorem d_M_count_5 : decode b_M_count 5 = .ok (.iload_n 1, 1) := by decide +kernel
theorem d_M_count_6 : decode b_M_count 6 = .ok (.tableswitch 183 0 8 #[50, 66, 82, 98, 103, 119, 135, 151, 167], 50) := by decide +kernel
theorem d_M_count_56 : decode b_M_count 56 = .ok (.aload_n 0, 1) := by decide +kernel
theorem d_M_count_57 : decode b_M_count 57 = .ok (.getfield 654, 3) := by decide +kernel
theorem d_M_count_60 : decode b_M_count 60 = .ok (.ifCond .eq 10, 3) := by decide +kernel
theorem d_M_count_63 : decode b_M_count 63 = .ok (.aload_n 0, 1) := by decide +kernel
theorem d_M_count_64 : decode b_M_count 64 = .ok (.getfield 402, 3) := by decide +kernel
theorem d_M_count_67 : decode b_M_count 67 = .ok (.goto 4, 3) := by decide +kernel
theorem d_M_count_70 : decode b_M_count 70 = .ok (.iconst 0, 1) := by decide +kernel
theorem d_M_count_71 : decode b_M_count 71 = .ok (.ireturn, 1) := by decide +kernel
theorem d_M_count_72 : decode b_M_count 72 = .ok (.aload_n 0, 1) := by decide +kernel
theorem d_M_count_73 : decode b_M_count 73 = .ok (.getfield 654, 3) := by decide +kernel
theorem d_M_count_76 : decode b_M_count 76 = .ok (.ifCond .eq 10, 3) := by decide +kernel
theorem d_M_count_79 : decode b_M_count 79 = .ok (.aload_n 0, 1) := by decide +kernel
theorem d_M_count_80 : decode b_M_count 80 = .ok (.getfield 508, 3) := by decide +kernel
theorem d_M_count_83 : decode b_M_count 83 = .ok (.goto 4, 3) := by decide +kernel
theorem d_M_count_86 : decode b_M_count 86 = .ok (.iconst 0, 1) := by decide +kernel
theorem d_M_count_87 : decode b_M_count 87 = .ok (.ireturn, 1) := by decide +kernel
theorem d_M_count_88 : decode b_M_count 88 = .ok (.aload_n 0, 1) := by decide +kernel
theorem d_M_count_89 : decode b_M_count 89 = .ok (.getfield 654, 3) := by decide +kernel
theorem d_M_count_92 : decode b_M_count 92 = .ok (.ifCond .eq 10, 3) := by decide +kernel
theorem d_M_count_95 : decode b_M_count 95 = .ok (.aload_n 0, 1) := by decide +kernel
theorem d_M_count_96 : decode b_M_count 96 = .ok (.getfield 385, 3) := by decide +kernel
theorem d_M_count_99 : decode b_M_count 99 = .ok (.goto 4, 3) := by decide +kernel
theorem d_M_count_102 : decode b_M_count 102 = .ok (.iconst 0, 1) := by decide +kernel
theorem d_M_count_103 : decode b_M_count 103 = .ok (.ireturn, 1) := by decide +kernel
theorem d_M_count_104 : decode b_M_count 104 = .ok (.aload_n 0, 1) := by decide +kernel
theorem d_M_count_105 : decode b_M_count 105 = .ok (.getfield 372, 3) := by decide +kernel
theorem d_M_count_108 : decode b_M_count 108 = .ok (.ireturn, 1) := by decide +kernel
theorem d_M_count_109 : decode b_M_count 109 = .ok (.aload_n 0, 1) := by decide +kernel
theorem d_M_count_110 : decode b_M_count 110 = .ok (.getfield 657, 3) := by decide +kernel
theorem d_M_count_113 : decode b_M_count 113 = .ok (.ifCond .eq 10, 3) := by decide +kernel
theorem d_M_count_116 : decode b_M_count 116 = .ok (.aload_n 0, 1) := by decide +kernel
theorem d_M_count_117 : decode b_M_count 117 = .ok (.getfield 989, 3) := by decide +kernel
theorem d_M_count_120 : decode b_M_count 120 = .ok (.goto 4, 3) := by decide +kernel
theorem d_M_count_123 : decode b_M_count 123 = .ok (.iconst 0, 1) := by decide +kernel
theorem d_M_count_124 : decode b_M_count 124 = .ok (.ireturn, 1) := by decide +kernel
theorem d_M_count_125 : decode b_M_count 125 = .ok (.aload_n 0, 1) := by decide +kernel
theorem d_M_count_126 : decode b_M_count 126 = .ok (.getfield 657, 3) := by decide +kernel
theorem d_M_count_129 : decode b_M_count 129 = .ok (.ifCond .eq 10, 3) := by decide +kernel
theorem d_M_count_132 : decode b_M_count 132 = .ok (.aload_n 0, 1) := by decide +kernel
theorem d_M_count_133 : decode b_M_count 133 = .ok (.getfield 1010, 3) := by decide +kernel
theorem d_M_count_136 : decode b_M_count 136 = .ok (.goto 4, 3) := by decide +kernel
theorem d_M_count_139 : decode b_M_count 139 = .ok (.iconst 0, 1) := by decide +kernel
theorem d_M_count_140 : decode b_M_count 140 = .ok (.ireturn, 1) := by decide +kernel
theorem d_M_count_141 : decode b_M_count 141 = .ok (.aload_n 0, 1) := by decide +kernel
theorem d_M_count_142 : decode b_M_count 142 = .ok (.getfield 657, 3) := by decide +kernel
theorem d_M_count_145 : decode b_M_count 145 = .ok (.ifCond .eq 10, 3) := by decide +kernel
theorem d_M_count_148 : decode b_M_count 148 = .ok (.aload_n 0, 1) := by decide +kernel
theorem d_M_count_149 : decode b_M_count 149 = .ok (.getfield 962, 3) := by decide +kernel
theorem d_M_count_152 : decode b_M_count 152 = .ok (.goto 4, 3) := by decide +kernel
theorem d_M_count_155 : decode b_M_count 155 = .ok (.iconst 0, 1) := by decide +kernel
theorem d_M_count_156 : decode b_M_count 156 = .ok (.ireturn, 1) := by decide +kernel
theorem d_M_count_157 : decode b_M_count 157 = .ok (.aload_n 0, 1) := by decide +kernel
theorem d_M_count_158 : decode b_M_count 158 = .ok (.getfield 657, 3) := by decide +kernel
theorem d_M_count_161 : decode b_M_count 161 = .ok (.ifCond .eq 10, 3) := by decide +kernel
theorem d_M_count_164 : decode b_M_count 164 = .ok (.aload_n 0, 1) := by decide +kernel
theorem d_M_count_165 : decode b_M_count 165 = .ok (.getfield 904, 3) := by decide +kernel
theorem d_M_count_168 : decode b_M_count 168 = .ok (.goto 4, 3) := by decide +kernel
theorem d_M_count_171 : decode b_M_count 171 = .ok (.iconst 0, 1) := by decide +kernel
theorem d_M_count_172 : decode b_M_count 172 = .ok (.ireturn, 1) := by decide +kernel
theorem d_M_count_173 : decode b_M_count 173 = .ok (.aload_n 0, 1) := by decide +kernel
theorem d_M_count_174 : decode b_M_count 174 = .ok (.getfield 657, 3) := by decide +kernel
theorem d_M_count_177 : decode b_M_count 177 = .ok (.ifCond .eq 10, 3) := by decide +kernel
theorem d_M_count_180 : decode b_M_count 180 = .ok (.aload_n 0, 1) := by decide +kernel
theorem d_M_count_181 : decode b_M_count 181 = .ok (.getfield 1001, 3) := by decide +kernel
theorem d_M_count_184 : decode b_M_count 184 = .ok (.goto 4, 3) := by decide +kernel
theorem d_M_count_187 : decode b_M_count 187 = .ok (.iconst 0, 1) := by decide +kernel
theorem d_M_count_188 : decode b_M_count 188 = .ok (.ireturn, 1) := by decide +kernel
theorem d_M_count_189 : decode b_M_count 189 = .ok (.iconst (-1), 1) := by decide +kernel
theorem d_M_count_190 : decode b_M_count 190 = .ok (.ireturn, 1) := by decide +kernel
def rm_M_count : Room := { frames := 0, cells := 0, slots := 0, locals := 0 }
def fb_M_count_188 (N : Nat) (G : Unit) (u : MS) (t0 : Int32) : Option (MS × Int32) := some (u, t0)
set_option maxRecDepth 100000 in
set_option maxHeartbeats 4000000 in
theorem wb_M_count_188 {p : Program} {l : Launch} {e : Env} {R : Room} {s : State} {m : MethodId} {args : Array Value} {below : List Frame} {meth : Method} {c : Code} {D : va_G} {cl : List vw_C} {cB cI cJ cZ cS : ClassId} {A : Nat → Prop} {iM h0 : Nat} {ad : Nat → Nat} (C0 : MCx p s m args meth c b_M_count 2 (some .int) D cl cB cI cJ cZ cS iM A) (hR : R = rm_M_count) (N : Nat) (G : Unit) (hG : True) : ∀ (u : MS) (t0 : Int32) (x : MS × Int32), fb_M_count_188 N G u t0 = some x → ∀ (H : Heap) (locs : List Loc), va_P D cl (wM cB cI cJ cZ cS iM h0 ad u) H → va_D A (wM cB cI cJ cZ cS iM h0 ad u) → va_S A s.heap H locs → ∀ (ls : Array Slot), lv_has ls 2 [] → W p l e R s m args below meth c H locs 0 0 (MQ below (mQi D cl cB cI cJ cZ cS iM h0 ad A x) args s 0 0 A) (F0 m 188 ls [.int t0]) := by
  intro u t0 x hf H locs hP hD hS ls hl
  obtain ⟨hx, hb, hr, hml, ht, hown, hM, hK, hA, hlocks⟩ := id C0
  unfold fb_M_count_188 at hf
  exact mr_i C0 hP hD hS hf d_M_count_188
def fb_M_count_172 (N : Nat) (G : Unit) (u : MS) (t0 : Int32) : Option (MS × Int32) := some (u, t0)
set_option maxRecDepth 100000 in
set_option maxHeartbeats 4000000 in
theorem wb_M_count_172 {p : Program} {l : Launch} {e : Env} {R : Room} {s : State} {m : MethodId} {args : Array Value} {below : List Frame} {meth : Method} {c : Code} {D : va_G} {cl : List vw_C} {cB cI cJ cZ cS : ClassId} {A : Nat → Prop} {iM h0 : Nat} {ad : Nat → Nat} (C0 : MCx p s m args meth c b_M_count 2 (some .int) D cl cB cI cJ cZ cS iM A) (hR : R = rm_M_count) (N : Nat) (G : Unit) (hG : True) : ∀ (u : MS) (t0 : Int32) (x : MS × Int32), fb_M_count_172 N G u t0 = some x → ∀ (H : Heap) (locs : List Loc), va_P D cl (wM cB cI cJ cZ cS iM h0 ad u) H → va_D A (wM cB cI cJ cZ cS iM h0 ad u) → va_S A s.heap H locs → ∀ (ls : Array Slot), lv_has ls 2 [] → W p l e R s m args below meth c H locs 0 0 (MQ below (mQi D cl cB cI cJ cZ cS iM h0 ad A x) args s 0 0 A) (F0 m 172 ls [.int t0]) := by
  intro u t0 x hf H locs hP hD hS ls hl
  obtain ⟨hx, hb, hr, hml, ht, hown, hM, hK, hA, hlocks⟩ := id C0
  unfold fb_M_count_172 at hf
  exact mr_i C0 hP hD hS hf d_M_count_172
def fb_M_count_156 (N : Nat) (G : Unit) (u : MS) (t0 : Int32) : Option (MS × Int32) := some (u, t0)
set_option maxRecDepth 100000 in
set_option maxHeartbeats 4000000 in
theorem wb_M_count_156 {p : Program} {l : Launch} {e : Env} {R : Room} {s : State} {m : MethodId} {args : Array Value} {below : List Frame} {meth : Method} {c : Code} {D : va_G} {cl : List vw_C} {cB cI cJ cZ cS : ClassId} {A : Nat → Prop} {iM h0 : Nat} {ad : Nat → Nat} (C0 : MCx p s m args meth c b_M_count 2 (some .int) D cl cB cI cJ cZ cS iM A) (hR : R = rm_M_count) (N : Nat) (G : Unit) (hG : True) : ∀ (u : MS) (t0 : Int32) (x : MS × Int32), fb_M_count_156 N G u t0 = some x → ∀ (H : Heap) (locs : List Loc), va_P D cl (wM cB cI cJ cZ cS iM h0 ad u) H → va_D A (wM cB cI cJ cZ cS iM h0 ad u) → va_S A s.heap H locs → ∀ (ls : Array Slot), lv_has ls 2 [] → W p l e R s m args below meth c H locs 0 0 (MQ below (mQi D cl cB cI cJ cZ cS iM h0 ad A x) args s 0 0 A) (F0 m 156 ls [.int t0]) := by
  intro u t0 x hf H locs hP hD hS ls hl
  obtain ⟨hx, hb, hr, hml, ht, hown, hM, hK, hA, hlocks⟩ := id C0
  unfold fb_M_count_156 at hf
  exact mr_i C0 hP hD hS hf d_M_count_156
def fb_M_count_140 (N : Nat) (G : Unit) (u : MS) (t0 : Int32) : Option (MS × Int32) := some (u, t0)
set_option maxRecDepth 100000 in
set_option maxHeartbeats 4000000 in
theorem wb_M_count_140 {p : Program} {l : Launch} {e : Env} {R : Room} {s : State} {m : MethodId} {args : Array Value} {below : List Frame} {meth : Method} {c : Code} {D : va_G} {cl : List vw_C} {cB cI cJ cZ cS : ClassId} {A : Nat → Prop} {iM h0 : Nat} {ad : Nat → Nat} (C0 : MCx p s m args meth c b_M_count 2 (some .int) D cl cB cI cJ cZ cS iM A) (hR : R = rm_M_count) (N : Nat) (G : Unit) (hG : True) : ∀ (u : MS) (t0 : Int32) (x : MS × Int32), fb_M_count_140 N G u t0 = some x → ∀ (H : Heap) (locs : List Loc), va_P D cl (wM cB cI cJ cZ cS iM h0 ad u) H → va_D A (wM cB cI cJ cZ cS iM h0 ad u) → va_S A s.heap H locs → ∀ (ls : Array Slot), lv_has ls 2 [] → W p l e R s m args below meth c H locs 0 0 (MQ below (mQi D cl cB cI cJ cZ cS iM h0 ad A x) args s 0 0 A) (F0 m 140 ls [.int t0]) := by
  intro u t0 x hf H locs hP hD hS ls hl
  obtain ⟨hx, hb, hr, hml, ht, hown, hM, hK, hA, hlocks⟩ := id C0
  unfold fb_M_count_140 at hf
  exact mr_i C0 hP hD hS hf d_M_count_140
def fb_M_count_124 (N : Nat) (G : Unit) (u : MS) (t0 : Int32) : Option (MS × Int32) := some (u, t0)
set_option maxRecDepth 100000 in
set_option maxHeartbeats 4000000 in
theorem wb_M_count_124 {p : Program} {l : Launch} {e : Env} {R : Room} {s : State} {m : MethodId} {args : Array Value} {below : List Frame} {meth : Method} {c : Code} {D : va_G} {cl : List vw_C} {cB cI cJ cZ cS : ClassId} {A : Nat → Prop} {iM h0 : Nat} {ad : Nat → Nat} (C0 : MCx p s m args meth c b_M_count 2 (some .int) D cl cB cI cJ cZ cS iM A) (hR : R = rm_M_count) (N : Nat) (G : Unit) (hG : True) : ∀ (u : MS) (t0 : Int32) (x : MS × Int32), fb_M_count_124 N G u t0 = some x → ∀ (H : Heap) (locs : List Loc), va_P D cl (wM cB cI cJ cZ cS iM h0 ad u) H → va_D A (wM cB cI cJ cZ cS iM h0 ad u) → va_S A s.heap H locs → ∀ (ls : Array Slot), lv_has ls 2 [] → W p l e R s m args below meth c H locs 0 0 (MQ below (mQi D cl cB cI cJ cZ cS iM h0 ad A x) args s 0 0 A) (F0 m 124 ls [.int t0]) := by
  intro u t0 x hf H locs hP hD hS ls hl
  obtain ⟨hx, hb, hr, hml, ht, hown, hM, hK, hA, hlocks⟩ := id C0
  unfold fb_M_count_124 at hf
  exact mr_i C0 hP hD hS hf d_M_count_124
def fb_M_count_103 (N : Nat) (G : Unit) (u : MS) (t0 : Int32) : Option (MS × Int32) := some (u, t0)
set_option maxRecDepth 100000 in
set_option maxHeartbeats 4000000 in
theorem wb_M_count_103 {p : Program} {l : Launch} {e : Env} {R : Room} {s : State} {m : MethodId} {args : Array Value} {below : List Frame} {meth : Method} {c : Code} {D : va_G} {cl : List vw_C} {cB cI cJ cZ cS : ClassId} {A : Nat → Prop} {iM h0 : Nat} {ad : Nat → Nat} (C0 : MCx p s m args meth c b_M_count 2 (some .int) D cl cB cI cJ cZ cS iM A) (hR : R = rm_M_count) (N : Nat) (G : Unit) (hG : True) : ∀ (u : MS) (t0 : Int32) (x : MS × Int32), fb_M_count_103 N G u t0 = some x → ∀ (H : Heap) (locs : List Loc), va_P D cl (wM cB cI cJ cZ cS iM h0 ad u) H → va_D A (wM cB cI cJ cZ cS iM h0 ad u) → va_S A s.heap H locs → ∀ (ls : Array Slot), lv_has ls 2 [] → W p l e R s m args below meth c H locs 0 0 (MQ below (mQi D cl cB cI cJ cZ cS iM h0 ad A x) args s 0 0 A) (F0 m 103 ls [.int t0]) := by
  intro u t0 x hf H locs hP hD hS ls hl
  obtain ⟨hx, hb, hr, hml, ht, hown, hM, hK, hA, hlocks⟩ := id C0
  unfold fb_M_count_103 at hf
  exact mr_i C0 hP hD hS hf d_M_count_103
def fb_M_count_87 (N : Nat) (G : Unit) (u : MS) (t0 : Int32) : Option (MS × Int32) := some (u, t0)
set_option maxRecDepth 100000 in
set_option maxHeartbeats 4000000 in
theorem wb_M_count_87 {p : Program} {l : Launch} {e : Env} {R : Room} {s : State} {m : MethodId} {args : Array Value} {below : List Frame} {meth : Method} {c : Code} {D : va_G} {cl : List vw_C} {cB cI cJ cZ cS : ClassId} {A : Nat → Prop} {iM h0 : Nat} {ad : Nat → Nat} (C0 : MCx p s m args meth c b_M_count 2 (some .int) D cl cB cI cJ cZ cS iM A) (hR : R = rm_M_count) (N : Nat) (G : Unit) (hG : True) : ∀ (u : MS) (t0 : Int32) (x : MS × Int32), fb_M_count_87 N G u t0 = some x → ∀ (H : Heap) (locs : List Loc), va_P D cl (wM cB cI cJ cZ cS iM h0 ad u) H → va_D A (wM cB cI cJ cZ cS iM h0 ad u) → va_S A s.heap H locs → ∀ (ls : Array Slot), lv_has ls 2 [] → W p l e R s m args below meth c H locs 0 0 (MQ below (mQi D cl cB cI cJ cZ cS iM h0 ad A x) args s 0 0 A) (F0 m 87 ls [.int t0]) := by
  intro u t0 x hf H locs hP hD hS ls hl
  obtain ⟨hx, hb, hr, hml, ht, hown, hM, hK, hA, hlocks⟩ := id C0
  unfold fb_M_count_87 at hf
  exact mr_i C0 hP hD hS hf d_M_count_87
def fb_M_count_71 (N : Nat) (G : Unit) (u : MS) (t0 : Int32) : Option (MS × Int32) := some (u, t0)
set_option maxRecDepth 100000 in
set_option maxHeartbeats 4000000 in
theorem wb_M_count_71 {p : Program} {l : Launch} {e : Env} {R : Room} {s : State} {m : MethodId} {args : Array Value} {below : List Frame} {meth : Method} {c : Code} {D : va_G} {cl : List vw_C} {cB cI cJ cZ cS : ClassId} {A : Nat → Prop} {iM h0 : Nat} {ad : Nat → Nat} (C0 : MCx p s m args meth c b_M_count 2 (some .int) D cl cB cI cJ cZ cS iM A) (hR : R = rm_M_count) (N : Nat) (G : Unit) (hG : True) : ∀ (u : MS) (t0 : Int32) (x : MS × Int32), fb_M_count_71 N G u t0 = some x → ∀ (H : Heap) (locs : List Loc), va_P D cl (wM cB cI cJ cZ cS iM h0 ad u) H → va_D A (wM cB cI cJ cZ cS iM h0 ad u) → va_S A s.heap H locs → ∀ (ls : Array Slot), lv_has ls 2 [] → W p l e R s m args below meth c H locs 0 0 (MQ below (mQi D cl cB cI cJ cZ cS iM h0 ad A x) args s 0 0 A) (F0 m 71 ls [.int t0]) := by
  intro u t0 x hf H locs hP hD hS ls hl
  obtain ⟨hx, hb, hr, hml, ht, hown, hM, hK, hA, hlocks⟩ := id C0
  unfold fb_M_count_71 at hf
  exact mr_i C0 hP hD hS hf d_M_count_71
def fb_M_count_0 (N : Nat) (G : Unit) (u : MS) (v1 : Int32) : Option (MS × Int32) := lt (upI u 3 0) (fun w1 => br (decide (v1 = 0)) (br (decide ((w1.1 86) = 0)) (fb_M_count_71 N G w1 (0)) (fb_M_count_71 N G w1 ((w1.1 9)))) (br (decide (v1 = 1)) (br (decide ((w1.1 86) = 0)) (fb_M_count_87 N G w1 (0)) (fb_M_count_87 N G w1 ((w1.1 52)))) (br (decide (v1 = 2)) (br (decide ((w1.1 86) = 0)) (fb_M_count_103 N G w1 (0)) (fb_M_count_103 N G w1 ((w1.1 14)))) (br (decide (v1 = 3)) (some (w1, (w1.1 5))) (br (decide (v1 = 4)) (br (decide ((w1.1 87) = 0)) (fb_M_count_124 N G w1 (0)) (fb_M_count_124 N G w1 ((w1.1 118)))) (br (decide (v1 = 5)) (br (decide ((w1.1 87) = 0)) (fb_M_count_140 N G w1 (0)) (fb_M_count_140 N G w1 ((w1.1 128)))) (br (decide (v1 = 6)) (br (decide ((w1.1 87) = 0)) (fb_M_count_156 N G w1 (0)) (fb_M_count_156 N G w1 ((w1.1 119)))) (br (decide (v1 = 7)) (br (decide ((w1.1 87) = 0)) (fb_M_count_172 N G w1 (0)) (fb_M_count_172 N G w1 ((w1.1 120)))) (br (decide (v1 = 8)) (br (decide ((w1.1 87) = 0)) (fb_M_count_188 N G w1 (0)) (fb_M_count_188 N G w1 ((w1.1 121)))) (some (w1, (-1))))))))))))
set_option maxRecDepth 100000 in
set_option maxHeartbeats 4000000 in
theorem wb_M_count_0 {p : Program} {l : Launch} {e : Env} {R : Room} {s : State} {m : MethodId} {args : Array Value} {below : List Frame} {meth : Method} {c : Code} {D : va_G} {cl : List vw_C} {cB cI cJ cZ cS : ClassId} {A : Nat → Prop} {iM h0 : Nat} {ad : Nat → Nat} (C0 : MCx p s m args meth c b_M_count 2 (some .int) D cl cB cI cJ cZ cS iM A) (hR : R = rm_M_count) (N : Nat) (G : Unit) (hG : True) : ∀ (u : MS) (v1 : Int32) (x : MS × Int32), fb_M_count_0 N G u v1 = some x → ∀ (H : Heap) (locs : List Loc), va_P D cl (wM cB cI cJ cZ cS iM h0 ad u) H → va_D A (wM cB cI cJ cZ cS iM h0 ad u) → va_S A s.heap H locs → ∀ (ls : Array Slot), lv_has ls 2 [(0, .ref h0), (1, .int v1)] → W p l e R s m args below meth c H locs 0 0 (MQ below (mQi D cl cB cI cJ cZ cS iM h0 ad A x) args s 0 0 A) (F0 m 0 ls []) := by
  intro u v1 x hf H locs hP hD hS ls hl
  obtain ⟨hx, hb, hr, hml, ht, hown, hM, hK, hA, hlocks⟩ := id C0
  unfold fb_M_count_0 at hf
  refine lv_aload_n hx hb d_M_count_0 rfl (lv_at hl 0 rfl) ?_
  refine lv_iconst (v := 0) hx hb d_M_count_1 (by decide) ?_
  refine up_I hx hb ht hown hM hK hP hD hS 3 (by decide) lk_M_3 (by decide) rfl rfl rfl d_M_count_2 (fun H locs hP hD hS => ?_)
  obtain ⟨w1, e1, hf⟩ := lt_some hf
  rw [← e1] at hP hD
  refine lv_iload_n hx hb d_M_count_5 rfl (lv_at hl 1 rfl) ?_
  by_cases hc0 : v1 = 0
  · rw [br_p _ hc0] at hf
    refine lv_tableIn (tgt := 56) hx hb d_M_count_6 (by rw [hc0]; decide) (by rw [hc0]; decide) (by rw [hc0]; rfl) (by decide) ?_
    refine lv_aload_n hx hb d_M_count_56 rfl (lv_at hl 0 rfl) ?_
    refine ug_I hx hb ht hown hM hK hP 86 (by decide) lk_M_86 (by decide) d_M_count_57 ?_
    refine lv_if_eq (tgt := 70) hx hb d_M_count_60 (by decide) (fun hc => ?_) (fun hc => ?_)
    · rw [br_p _ hc] at hf
      refine lv_iconst (v := 0) hx hb d_M_count_70 (by decide) ?_
      exact wb_M_count_71 C0 hR N G hG _ _ _ hf H locs hP hD hS ls (lv_sub hl [] rfl)
    · rw [br_n _ hc] at hf
      refine lv_aload_n hx hb d_M_count_63 rfl (lv_at hl 0 rfl) ?_
      refine ug_I hx hb ht hown hM hK hP 9 (by decide) lk_M_9 (by decide) d_M_count_64 ?_
      refine lv_goto (tgt := 71) hx hb d_M_count_67 (by decide) ?_
      exact wb_M_count_71 C0 hR N G hG _ _ _ hf H locs hP hD hS ls (lv_sub hl [] rfl)
  · rw [br_n _ hc0] at hf
    by_cases hc1 : v1 = 1
    · rw [br_p _ hc1] at hf
      refine lv_tableIn (tgt := 72) hx hb d_M_count_6 (by rw [hc1]; decide) (by rw [hc1]; decide) (by rw [hc1]; rfl) (by decide) ?_
      refine lv_aload_n hx hb d_M_count_72 rfl (lv_at hl 0 rfl) ?_
      refine ug_I hx hb ht hown hM hK hP 86 (by decide) lk_M_86 (by decide) d_M_count_73 ?_
      refine lv_if_eq (tgt := 86) hx hb d_M_count_76 (by decide) (fun hc => ?_) (fun hc => ?_)
      · rw [br_p _ hc] at hf
        refine lv_iconst (v := 0) hx hb d_M_count_86 (by decide) ?_
        exact wb_M_count_87 C0 hR N G hG _ _ _ hf H locs hP hD hS ls (lv_sub hl [] rfl)
      · rw [br_n _ hc] at hf
        refine lv_aload_n hx hb d_M_count_79 rfl (lv_at hl 0 rfl) ?_
        refine ug_I hx hb ht hown hM hK hP 52 (by decide) lk_M_52 (by decide) d_M_count_80 ?_
        refine lv_goto (tgt := 87) hx hb d_M_count_83 (by decide) ?_
        exact wb_M_count_87 C0 hR N G hG _ _ _ hf H locs hP hD hS ls (lv_sub hl [] rfl)
    · rw [br_n _ hc1] at hf
      by_cases hc2 : v1 = 2
      · rw [br_p _ hc2] at hf
        refine lv_tableIn (tgt := 88) hx hb d_M_count_6 (by rw [hc2]; decide) (by rw [hc2]; decide) (by rw [hc2]; rfl) (by decide) ?_
        refine lv_aload_n hx hb d_M_count_88 rfl (lv_at hl 0 rfl) ?_
        refine ug_I hx hb ht hown hM hK hP 86 (by decide) lk_M_86 (by decide) d_M_count_89 ?_
        refine lv_if_eq (tgt := 102) hx hb d_M_count_92 (by decide) (fun hc => ?_) (fun hc => ?_)
        · rw [br_p _ hc] at hf
          refine lv_iconst (v := 0) hx hb d_M_count_102 (by decide) ?_
          exact wb_M_count_103 C0 hR N G hG _ _ _ hf H locs hP hD hS ls (lv_sub hl [] rfl)
        · rw [br_n _ hc] at hf
          refine lv_aload_n hx hb d_M_count_95 rfl (lv_at hl 0 rfl) ?_
          refine ug_I hx hb ht hown hM hK hP 14 (by decide) lk_M_14 (by decide) d_M_count_96 ?_
          refine lv_goto (tgt := 103) hx hb d_M_count_99 (by decide) ?_
          exact wb_M_count_103 C0 hR N G hG _ _ _ hf H locs hP hD hS ls (lv_sub hl [] rfl)
      · rw [br_n _ hc2] at hf
        by_cases hc3 : v1 = 3
        · rw [br_p _ hc3] at hf
          refine lv_tableIn (tgt := 104) hx hb d_M_count_6 (by rw [hc3]; decide) (by rw [hc3]; decide) (by rw [hc3]; rfl) (by decide) ?_
          refine lv_aload_n hx hb d_M_count_104 rfl (lv_at hl 0 rfl) ?_
          refine ug_I hx hb ht hown hM hK hP 5 (by decide) lk_M_5 (by decide) d_M_count_105 ?_
          exact mr_i C0 hP hD hS hf d_M_count_108
        · rw [br_n _ hc3] at hf
          by_cases hc4 : v1 = 4
          · rw [br_p _ hc4] at hf
            refine lv_tableIn (tgt := 109) hx hb d_M_count_6 (by rw [hc4]; decide) (by rw [hc4]; decide) (by rw [hc4]; rfl) (by decide) ?_
            refine lv_aload_n hx hb d_M_count_109 rfl (lv_at hl 0 rfl) ?_
            refine ug_I hx hb ht hown hM hK hP 87 (by decide) lk_M_87 (by decide) d_M_count_110 ?_
            refine lv_if_eq (tgt := 123) hx hb d_M_count_113 (by decide) (fun hc => ?_) (fun hc => ?_)
            · rw [br_p _ hc] at hf
              refine lv_iconst (v := 0) hx hb d_M_count_123 (by decide) ?_
              exact wb_M_count_124 C0 hR N G hG _ _ _ hf H locs hP hD hS ls (lv_sub hl [] rfl)
            · rw [br_n _ hc] at hf
              refine lv_aload_n hx hb d_M_count_116 rfl (lv_at hl 0 rfl) ?_
              refine ug_I hx hb ht hown hM hK hP 118 (by decide) lk_M_118 (by decide) d_M_count_117 ?_
              refine lv_goto (tgt := 124) hx hb d_M_count_120 (by decide) ?_
              exact wb_M_count_124 C0 hR N G hG _ _ _ hf H locs hP hD hS ls (lv_sub hl [] rfl)
          · rw [br_n _ hc4] at hf
            by_cases hc5 : v1 = 5
            · rw [br_p _ hc5] at hf
              refine lv_tableIn (tgt := 125) hx hb d_M_count_6 (by rw [hc5]; decide) (by rw [hc5]; decide) (by rw [hc5]; rfl) (by decide) ?_
              refine lv_aload_n hx hb d_M_count_125 rfl (lv_at hl 0 rfl) ?_
              refine ug_I hx hb ht hown hM hK hP 87 (by decide) lk_M_87 (by decide) d_M_count_126 ?_
              refine lv_if_eq (tgt := 139) hx hb d_M_count_129 (by decide) (fun hc => ?_) (fun hc => ?_)
              · rw [br_p _ hc] at hf
                refine lv_iconst (v := 0) hx hb d_M_count_139 (by decide) ?_
                exact wb_M_count_140 C0 hR N G hG _ _ _ hf H locs hP hD hS ls (lv_sub hl [] rfl)
              · rw [br_n _ hc] at hf
                refine lv_aload_n hx hb d_M_count_132 rfl (lv_at hl 0 rfl) ?_
                refine ug_I hx hb ht hown hM hK hP 128 (by decide) lk_M_128 (by decide) d_M_count_133 ?_
                refine lv_goto (tgt := 140) hx hb d_M_count_136 (by decide) ?_
                exact wb_M_count_140 C0 hR N G hG _ _ _ hf H locs hP hD hS ls (lv_sub hl [] rfl)
            · rw [br_n _ hc5] at hf
              by_cases hc6 : v1 = 6
              · rw [br_p _ hc6] at hf
                refine lv_tableIn (tgt := 141) hx hb d_M_count_6 (by rw [hc6]; decide) (by rw [hc6]; decide) (by rw [hc6]; rfl) (by decide) ?_
                refine lv_aload_n hx hb d_M_count_141 rfl (lv_at hl 0 rfl) ?_
                refine ug_I hx hb ht hown hM hK hP 87 (by decide) lk_M_87 (by decide) d_M_count_142 ?_
                refine lv_if_eq (tgt := 155) hx hb d_M_count_145 (by decide) (fun hc => ?_) (fun hc => ?_)
                · rw [br_p _ hc] at hf
                  refine lv_iconst (v := 0) hx hb d_M_count_155 (by decide) ?_
                  exact wb_M_count_156 C0 hR N G hG _ _ _ hf H locs hP hD hS ls (lv_sub hl [] rfl)
                · rw [br_n _ hc] at hf
                  refine lv_aload_n hx hb d_M_count_148 rfl (lv_at hl 0 rfl) ?_
                  refine ug_I hx hb ht hown hM hK hP 119 (by decide) lk_M_119 (by decide) d_M_count_149 ?_
                  refine lv_goto (tgt := 156) hx hb d_M_count_152 (by decide) ?_
                  exact wb_M_count_156 C0 hR N G hG _ _ _ hf H locs hP hD hS ls (lv_sub hl [] rfl)
              · rw [br_n _ hc6] at hf
                by_cases hc7 : v1 = 7
                · rw [br_p _ hc7] at hf
                  refine lv_tableIn (tgt := 157) hx hb d_M_count_6 (by rw [hc7]; decide) (by rw [hc7]; decide) (by rw [hc7]; rfl) (by decide) ?_
                  refine lv_aload_n hx hb d_M_count_157 rfl (lv_at hl 0 rfl) ?_
                  refine ug_I hx hb ht hown hM hK hP 87 (by decide) lk_M_87 (by decide) d_M_count_158 ?_
                  refine lv_if_eq (tgt := 171) hx hb d_M_count_161 (by decide) (fun hc => ?_) (fun hc => ?_)
                  · rw [br_p _ hc] at hf
                    refine lv_iconst (v := 0) hx hb d_M_count_171 (by decide) ?_
                    exact wb_M_count_172 C0 hR N G hG _ _ _ hf H locs hP hD hS ls (lv_sub hl [] rfl)
                  · rw [br_n _ hc] at hf
                    refine lv_aload_n hx hb d_M_count_164 rfl (lv_at hl 0 rfl) ?_
                    refine ug_I hx hb ht hown hM hK hP 120 (by decide) lk_M_120 (by decide) d_M_count_165 ?_
                    refine lv_goto (tgt := 172) hx hb d_M_count_168 (by decide) ?_
                    exact wb_M_count_172 C0 hR N G hG _ _ _ hf H locs hP hD hS ls (lv_sub hl [] rfl)
                · rw [br_n _ hc7] at hf
                  by_cases hc8 : v1 = 8
                  · rw [br_p _ hc8] at hf
                    refine lv_tableIn (tgt := 173) hx hb d_M_count_6 (by rw [hc8]; decide) (by rw [hc8]; decide) (by rw [hc8]; rfl) (by decide) ?_
                    refine lv_aload_n hx hb d_M_count_173 rfl (lv_at hl 0 rfl) ?_
                    refine ug_I hx hb ht hown hM hK hP 87 (by decide) lk_M_87 (by decide) d_M_count_174 ?_
                    refine lv_if_eq (tgt := 187) hx hb d_M_count_177 (by decide) (fun hc => ?_) (fun hc => ?_)
                    · rw [br_p _ hc] at hf
                      refine lv_iconst (v := 0) hx hb d_M_count_187 (by decide) ?_
                      exact wb_M_count_188 C0 hR N G hG _ _ _ hf H locs hP hD hS ls (lv_sub hl [] rfl)
                    · rw [br_n _ hc] at hf
                      refine lv_aload_n hx hb d_M_count_180 rfl (lv_at hl 0 rfl) ?_
                      refine ug_I hx hb ht hown hM hK hP 121 (by decide) lk_M_121 (by decide) d_M_count_181 ?_
                      refine lv_goto (tgt := 188) hx hb d_M_count_184 (by decide) ?_
                      exact wb_M_count_188 C0 hR N G hG _ _ _ hf H locs hP hD hS ls (lv_sub hl [] rfl)
                  · rw [br_n _ hc8] at hf
                    refine lv_tableOut (tgt := 189) hx hb d_M_count_6 (by have z0 := tiN hc0; have z1 := tiN hc1; have z2 := tiN hc2; have z3 := tiN hc3; have z4 := tiN hc4; have z5 := tiN hc5; have z6 := tiN hc6; have z7 := tiN hc7; have z8 := tiN hc8; rw [show (0 : Int32).toInt = 0 from by decide] at z0; rw [show (1 : Int32).toInt = 1 from by decide] at z1; rw [show (2 : Int32).toInt = 2 from by decide] at z2; rw [show (3 : Int32).toInt = 3 from by decide] at z3; rw [show (4 : Int32).toInt = 4 from by decide] at z4; rw [show (5 : Int32).toInt = 5 from by decide] at z5; rw [show (6 : Int32).toInt = 6 from by decide] at z6; rw [show (7 : Int32).toInt = 7 from by decide] at z7; rw [show (8 : Int32).toInt = 8 from by decide] at z8; omega) (by decide) ?_
                    refine lv_iconst (v := (-1)) hx hb d_M_count_189 (by decide) ?_
                    exact mr_i C0 hP hD hS hf d_M_count_190
def fm_M_count (N : Nat) (u : MS) (v1 : Int32) : Option (MS × Int32) := fb_M_count_0 N () u v1
set_option maxRecDepth 100000 in
set_option maxHeartbeats 4000000 in
theorem c_M_count (N : Nat) {l : Launch} {D : va_G} {cl : List vw_C} {cB cI cJ cZ cS : ClassId} {iM h0 : Nat} {ad : Nat → Nat} {u : MS} {sz : Nat} {v1 : Int32} {x : MS × Int32} (hM : cl[iM]? = some (R_M, F_M, 171)) (hf : fm_M_count N u v1 = some x) : Met l y_M_count (wd_ws y_M_count b_M_count 2 (some .int)) rm_M_count (mPc D cl cB cI cJ cZ cS iM h0 ad u sz [.ref h0, .int v1]) (mQi D cl cB cI cJ cZ cS iM h0 ad (mA cB cI cJ cZ cS iM h0 ad u sz) x) 0 0 (mA cB cI cJ cZ cS iM h0 ad u sz) :=
  mMet (by decide) rfl hM (Nat.le_of_ble_eq_true rfl) (fun p e s m below meth c ls hsz C0 hP hD hS hl => by
    have hR : rm_M_count = rm_M_count := rfl
    exact wb_M_count_0 C0 hR N () trivial u _ x hf s.heap [] hP hD hS ls (lv_sub hl [0, 1] rfl))
abbrev b_M_process : ByteArray := prog_14_method_165_code
def y_M_process : MethodName := ⟨R_M, "process", "(II)I"⟩
def w_M_process : List Cond := wd_ws y_M_process b_M_process 7 (some .int)
set_option maxRecDepth 100000 in
theorem k_M_process : Cond.code y_M_process b_M_process 7 (some .int) ∈ wd_tbl := wd_of 3263 rfl rfl
theorem d_M_process_0 : decode b_M_process 0 = .ok (.aload_n 0, 1) := by decide +kernel
theorem d_M_process_1 : decode b_M_process 1 = .ok (.iconst 0, 1) := by decide +kernel
theorem d_M_process_2 : decode b_M_process 2 = .ok (.putfield 369, 3) := by decide +kernel
theorem d_M_process_5 : decode b_M_process 5 = .ok (.aload_n 0, 1) := by decide +kernel
theorem d_M_process_6 : decode b_M_process 6 = .ok (.iload_n 1, 1) := by decide +kernel
theorem d_M_process_7 : decode b_M_process 7 = .ok (.invokevirtual 880, 3) := by decide +kernel
theorem d_M_process_10 : decode b_M_process 10 = .ok (.ifCond .eq 13, 3) := by decide +kernel
theorem d_M_process_13 : decode b_M_process 13 = .ok (.iload_n 2, 1) := by decide +kernel
theorem d_M_process_14 : decode b_M_process 14 = .ok (.ifCond .lt 9, 3) := by decide +kernel
theorem d_M_process_17 : decode b_M_process 17 = .ok (.iload_n 2, 1) := by decide +kernel
theorem d_M_process_18 : decode b_M_process 18 = .ok (.bipush 11, 2) := by decide +kernel
theorem d_M_process_20 : decode b_M_process 20 = .ok (.if_icmp .le 5, 3) := by decide +kernel
theorem d_M_process_23 : decode b_M_process 23 = .ok (.iconst (-1), 1) := by decide +kernel
theorem d_M_process_24 : decode b_M_process 24 = .ok (.ireturn, 1) := by decide +kernel
theorem d_M_process_25 : decode b_M_process 25 = .ok (.aload_n 0, 1) := by decide +kernel
theorem d_M_process_26 : decode b_M_process 26 = .ok (.getfield 255, 3) := by decide +kernel
theorem d_M_process_29 : decode b_M_process 29 = .ok (.iload_n 1, 1) := by decide +kernel
theorem d_M_process_30 : decode b_M_process 30 = .ok (.iaload, 1) := by decide +kernel
theorem d_M_process_31 : decode b_M_process 31 = .ok (.iconst 3, 1) := by decide +kernel
theorem d_M_process_32 : decode b_M_process 32 = .ok (.if_icmp .ne 7, 3) := by decide +kernel
theorem d_M_process_35 : decode b_M_process 35 = .ok (.iconst 1, 1) := by decide +kernel
theorem d_M_process_36 : decode b_M_process 36 = .ok (.goto 4, 3) := by decide +kernel
theorem d_M_process_39 : decode b_M_process 39 = .ok (.iconst 0, 1) := by decide +kernel
theorem d_M_process_40 : decode b_M_process 40 = .ok (.istore_n 3, 1) := by decide +kernel
theorem d_M_process_41 : decode b_M_process 41 = .ok (.aload_n 0, 1) := by decide +kernel
theorem d_M_process_42 : decode b_M_process 42 = .ok (.getfield 255, 3) := by decide +kernel
theorem d_M_process_45 : decode b_M_process 45 = .ok (.iload_n 1, 1) := by decide +kernel
theorem d_M_process_46 : decode b_M_process 46 = .ok (.iaload, 1) := by decide +kernel
theorem d_M_process_47 : decode b_M_process 47 = .ok (.iconst 1, 1) := by decide +kernel
theorem d_M_process_48 : decode b_M_process 48 = .ok (.if_icmp .ne 7, 3) := by decide +kernel
theorem d_M_process_51 : decode b_M_process 51 = .ok (.iconst 1, 1) := by decide +kernel
theorem d_M_process_52 : decode b_M_process 52 = .ok (.goto 4, 3) := by decide +kernel
theorem d_M_process_55 : decode b_M_process 55 = .ok (.iconst 0, 1) := by decide +kernel
theorem d_M_process_56 : decode b_M_process 56 = .ok (.istore 4, 2) := by decide +kernel
theorem d_M_process_58 : decode b_M_process 58 = .ok (.iload_n 2, 1) := by decide +kernel
theorem d_M_process_59 : decode b_M_process 59 = .ok (.ifCond .ne 34, 3) := by decide +kernel
theorem d_M_process_62 : decode b_M_process 62 = .ok (.iload_n 3, 1) := by decide +kernel
theorem d_M_process_63 : decode b_M_process 63 = .ok (.ifCond .eq 7, 3) := by decide +kernel
theorem d_M_process_66 : decode b_M_process 66 = .ok (.iconst 3, 1) := by decide +kernel
theorem d_M_process_67 : decode b_M_process 67 = .ok (.goto 25, 3) := by decide +kernel
theorem d_M_process_70 : decode b_M_process 70 = .ok (.iload 4, 2) := by decide +kernel
theorem d_M_process_72 : decode b_M_process 72 = .ok (.ifCond .ne 7, 3) := by decide +kernel
theorem d_M_process_75 : decode b_M_process 75 = .ok (.iconst 0, 1) := by decide +kernel
theorem d_M_process_76 : decode b_M_process 76 = .ok (.goto 16, 3) := by decide +kernel
theorem d_M_process_79 : decode b_M_process 79 = .ok (.aload_n 0, 1) := by decide +kernel
theorem d_M_process_80 : decode b_M_process 80 = .ok (.iload_n 1, 1) := by decide +kernel
theorem d_M_process_81 : decode b_M_process 81 = .ok (.invokevirtual 883, 3) := by decide +kernel
theorem d_M_process_84 : decode b_M_process 84 = .ok (.ifCond .eq 7, 3) := by decide +kernel
theorem d_M_process_87 : decode b_M_process 87 = .ok (.iconst 2, 1) := by decide +kernel
theorem d_M_process_88 : decode b_M_process 88 = .ok (.goto 4, 3) := by decide +kernel
theorem d_M_process_91 : decode b_M_process 91 = .ok (.iconst 1, 1) := by decide +kernel
theorem d_M_process_92 : decode b_M_process 92 = .ok (.ireturn, 1) := by decide +kernel
theorem d_M_process_93 : decode b_M_process 93 = .ok (.iload_n 2, 1) := by decide +kernel
theorem d_M_process_94 : decode b_M_process 94 = .ok (.iconst 3, 1) := by decide +kernel
theorem d_M_process_95 : decode b_M_process 95 = .ok (.if_icmp .ne 10, 3) := by decide +kernel
theorem d_M_process_98 : decode b_M_process 98 = .ok (.aload_n 0, 1) := by decide +kernel
theorem d_M_process_99 : decode b_M_process 99 = .ok (.getfield 195, 3) := by decide +kernel
theorem d_M_process_102 : decode b_M_process 102 = .ok (.iload_n 1, 1) := by decide +kernel
theorem d_M_process_103 : decode b_M_process 103 = .ok (.iaload, 1) := by decide +kernel
theorem d_M_process_104 : decode b_M_process 104 = .ok (.ireturn, 1) := by decide +kernel
theorem d_M_process_105 : decode b_M_process 105 = .ok (.iload_n 2, 1) := by decide +kernel
theorem d_M_process_106 : decode b_M_process 106 = .ok (.bipush 9, 2) := by decide +kernel
theorem d_M_process_108 : decode b_M_process 108 = .ok (.if_icmp .ne 10, 3) := by decide +kernel
theorem d_M_process_111 : decode b_M_process 111 = .ok (.aload_n 0, 1) := by decide +kernel
theorem d_M_process_112 : decode b_M_process 112 = .ok (.getfield 270, 3) := by decide +kernel
theorem d_M_process_115 : decode b_M_process 115 = .ok (.iload_n 1, 1) := by decide +kernel
theorem d_M_process_116 : decode b_M_process 116 = .ok (.iaload, 1) := by decide +kernel
theorem d_M_process_117 : decode b_M_process 117 = .ok (.ireturn, 1) := by decide +kernel
theorem d_M_process_118 : decode b_M_process 118 = .ok (.iload_n 3, 1) := by decide +kernel
theorem d_M_process_119 : decode b_M_process 119 = .ok (.ifCond .eq 21, 3) := by decide +kernel
theorem d_M_process_122 : decode b_M_process 122 = .ok (.iload_n 2, 1) := by decide +kernel
theorem d_M_process_123 : decode b_M_process 123 = .ok (.bipush 8, 2) := by decide +kernel
theorem d_M_process_125 : decode b_M_process 125 = .ok (.if_icmp .eq 9, 3) := by decide +kernel
theorem d_M_process_128 : decode b_M_process 128 = .ok (.iload_n 2, 1) := by decide +kernel
theorem d_M_process_129 : decode b_M_process 129 = .ok (.bipush 10, 2) := by decide +kernel
theorem d_M_process_131 : decode b_M_process 131 = .ok (.if_icmp .ne 7, 3) := by decide +kernel
theorem d_M_process_134 : decode b_M_process 134 = .ok (.iconst (-1), 1) := by decide +kernel
theorem d_M_process_135 : decode b_M_process 135 = .ok (.goto 4, 3) := by decide +kernel
theorem d_M_process_138 : decode b_M_process 138 = .ok (.iconst 0, 1) := by decide +kernel
theorem d_M_process_139 : decode b_M_process 139 = .ok (.ireturn, 1) := by decide +kernel
theorem d_M_process_140 : decode b_M_process 140 = .ok (.iconst 0, 1) := by decide +kernel
theorem d_M_process_141 : decode b_M_process 141 = .ok (.istore 5, 2) := by decide +kernel
theorem d_M_process_143 : decode b_M_process 143 = .ok (.iconst 0, 1) := by decide +kernel
theorem d_M_process_144 : decode b_M_process 144 = .ok (.istore 6, 2) := by decide +kernel
theorem d_M_process_146 : decode b_M_process 146 = .ok (.iload 6, 2) := by decide +kernel
theorem d_M_process_148 : decode b_M_process 148 = .ok (.aload_n 0, 1) := by decide +kernel
theorem d_M_process_149 : decode b_M_process 149 = .ok (.getfield 757, 3) := by decide +kernel
theorem d_M_process_152 : decode b_M_process 152 = .ok (.if_icmp .ge 31, 3) := by decide +kernel
theorem d_M_process_155 : decode b_M_process 155 = .ok (.aload_n 0, 1) := by decide +kernel
theorem d_M_process_156 : decode b_M_process 156 = .ok (.getfield 285, 3) := by decide +kernel
theorem d_M_process_159 : decode b_M_process 159 = .ok (.iload 6, 2) := by decide +kernel
theorem d_M_process_161 : decode b_M_process 161 = .ok (.iaload, 1) := by decide +kernel
theorem d_M_process_162 : decode b_M_process 162 = .ok (.iload_n 1, 1) := by decide +kernel
theorem d_M_process_163 : decode b_M_process 163 = .ok (.if_icmp .ne 10, 3) := by decide +kernel
theorem d_M_process_166 : decode b_M_process 166 = .ok (.iload 5, 2) := by decide +kernel
theorem d_M_process_168 : decode b_M_process 168 = .ok (.iconst 1, 1) := by decide +kernel
theorem d_M_process_169 : decode b_M_process 169 = .ok (.iadd, 1) := by decide +kernel
theorem d_M_process_170 : decode b_M_process 170 = .ok (.goto 5, 3) := by decide +kernel
theorem d_M_process_173 : decode b_M_process 173 = .ok (.iload 5, 2) := by decide +kernel
theorem d_M_process_175 : decode b_M_process 175 = .ok (.istore 5, 2) := by decide +kernel
theorem d_M_process_177 : decode b_M_process 177 = .ok (.iinc 6 1, 3) := by decide +kernel
theorem d_M_process_180 : decode b_M_process 180 = .ok (.goto (-34), 3) := by decide +kernel
theorem d_M_process_183 : decode b_M_process 183 = .ok (.iload_n 2, 1) := by decide +kernel
theorem d_M_process_184 : decode b_M_process 184 = .ok (.tableswitch 156 1 10 #[56, 63, 156, 70, 77, 84, 87, 102, 156, 109], 56) := by decide +kernel
theorem d_M_process_240 : decode b_M_process 240 = .ok (.aload_n 0, 1) := by decide +kernel
theorem d_M_process_241 : decode b_M_process 241 = .ok (.getfield 212, 3) := by decide +kernel
theorem d_M_process_244 : decode b_M_process 244 = .ok (.iload_n 1, 1) := by decide +kernel
theorem d_M_process_245 : decode b_M_process 245 = .ok (.iaload, 1) := by decide +kernel
theorem d_M_process_246 : decode b_M_process 246 = .ok (.ireturn, 1) := by decide +kernel
theorem d_M_process_247 : decode b_M_process 247 = .ok (.aload_n 0, 1) := by decide +kernel
theorem d_M_process_248 : decode b_M_process 248 = .ok (.getfield 192, 3) := by decide +kernel
theorem d_M_process_251 : decode b_M_process 251 = .ok (.iload_n 1, 1) := by decide +kernel
theorem d_M_process_252 : decode b_M_process 252 = .ok (.iaload, 1) := by decide +kernel
theorem d_M_process_253 : decode b_M_process 253 = .ok (.ireturn, 1) := by decide +kernel
theorem d_M_process_254 : decode b_M_process 254 = .ok (.aload_n 0, 1) := by decide +kernel
theorem d_M_process_255 : decode b_M_process 255 = .ok (.getfield 252, 3) := by decide +kernel
theorem d_M_process_258 : decode b_M_process 258 = .ok (.iload_n 1, 1) := by decide +kernel
theorem d_M_process_259 : decode b_M_process 259 = .ok (.iaload, 1) := by decide +kernel
theorem d_M_process_260 : decode b_M_process 260 = .ok (.ireturn, 1) := by decide +kernel
theorem d_M_process_261 : decode b_M_process 261 = .ok (.aload_n 0, 1) := by decide +kernel
theorem d_M_process_262 : decode b_M_process 262 = .ok (.getfield 279, 3) := by decide +kernel
theorem d_M_process_265 : decode b_M_process 265 = .ok (.iload_n 1, 1) := by decide +kernel
theorem d_M_process_266 : decode b_M_process 266 = .ok (.iaload, 1) := by decide +kernel
theorem d_M_process_267 : decode b_M_process 267 = .ok (.ireturn, 1) := by decide +kernel
theorem d_M_process_268 : decode b_M_process 268 = .ok (.iload 5, 2) := by decide +kernel
theorem d_M_process_270 : decode b_M_process 270 = .ok (.ireturn, 1) := by decide +kernel
theorem d_M_process_271 : decode b_M_process 271 = .ok (.aload_n 0, 1) := by decide +kernel
theorem d_M_process_272 : decode b_M_process 272 = .ok (.getfield 264, 3) := by decide +kernel
theorem d_M_process_275 : decode b_M_process 275 = .ok (.iload_n 1, 1) := by decide +kernel
theorem d_M_process_276 : decode b_M_process 276 = .ok (.baload, 1) := by decide +kernel
theorem d_M_process_277 : decode b_M_process 277 = .ok (.ifCond .eq 7, 3) := by decide +kernel
theorem d_M_process_280 : decode b_M_process 280 = .ok (.iconst 1, 1) := by decide +kernel
theorem d_M_process_281 : decode b_M_process 281 = .ok (.goto 4, 3) := by decide +kernel
theorem d_M_process_284 : decode b_M_process 284 = .ok (.iconst 0, 1) := by decide +kernel
theorem d_M_process_285 : decode b_M_process 285 = .ok (.ireturn, 1) := by decide +kernel
theorem d_M_process_286 : decode b_M_process 286 = .ok (.aload_n 0, 1) := by decide +kernel
theorem d_M_process_287 : decode b_M_process 287 = .ok (.getfield 267, 3) := by decide +kernel
theorem d_M_process_290 : decode b_M_process 290 = .ok (.iload_n 1, 1) := by decide +kernel
theorem d_M_process_291 : decode b_M_process 291 = .ok (.iaload, 1) := by decide +kernel
theorem d_M_process_292 : decode b_M_process 292 = .ok (.ireturn, 1) := by decide +kernel
theorem d_M_process_293 : decode b_M_process 293 = .ok (.iload 4, 2) := by decide +kernel
theorem d_M_process_295 : decode b_M_process 295 = .ok (.ifCond .eq 14, 3) := by decide +kernel
theorem d_M_process_298 : decode b_M_process 298 = .ok (.aload_n 0, 1) := by decide +kernel
theorem d_M_process_299 : decode b_M_process 299 = .ok (.getfield 261, 3) := by decide +kernel
theorem d_M_process_302 : decode b_M_process 302 = .ok (.iload_n 1, 1) := by decide +kernel
theorem d_M_process_303 : decode b_M_process 303 = .ok (.laload, 1) := by decide +kernel
theorem d_M_process_304 : decode b_M_process 304 = .ok (.lconst 0, 1) := by decide +kernel
theorem d_M_process_305 : decode b_M_process 305 = .ok (.lcmp, 1) := by decide +kernel
theorem d_M_process_306 : decode b_M_process 306 = .ok (.ifCond .ge 7, 3) := by decide +kernel
theorem d_M_process_309 : decode b_M_process 309 = .ok (.iconst (-1), 1) := by decide +kernel
theorem d_M_process_310 : decode b_M_process 310 = .ok (.goto 29, 3) := by decide +kernel
theorem d_M_process_313 : decode b_M_process 313 = .ok (.aload_n 0, 1) := by decide +kernel
theorem d_M_process_314 : decode b_M_process 314 = .ok (.getfield 261, 3) := by decide +kernel
theorem d_M_process_317 : decode b_M_process 317 = .ok (.iload_n 1, 1) := by decide +kernel
theorem d_M_process_318 : decode b_M_process 318 = .ok (.laload, 1) := by decide +kernel
theorem d_M_process_319 : decode b_M_process 319 = .ok (.ldc2_w 442, 3) := by decide +kernel
theorem d_M_process_322 : decode b_M_process 322 = .ok (.lcmp, 1) := by decide +kernel
theorem d_M_process_323 : decode b_M_process 323 = .ok (.ifCond .le 9, 3) := by decide +kernel
theorem d_M_process_326 : decode b_M_process 326 = .ok (.ldc_w 1031, 3) := by decide +kernel
theorem d_M_process_329 : decode b_M_process 329 = .ok (.goto 10, 3) := by decide +kernel
theorem d_M_process_332 : decode b_M_process 332 = .ok (.aload_n 0, 1) := by decide +kernel
theorem d_M_process_333 : decode b_M_process 333 = .ok (.getfield 261, 3) := by decide +kernel
theorem d_M_process_336 : decode b_M_process 336 = .ok (.iload_n 1, 1) := by decide +kernel
theorem d_M_process_337 : decode b_M_process 337 = .ok (.laload, 1) := by decide +kernel
theorem d_M_process_338 : decode b_M_process 338 = .ok (.l2i, 1) := by decide +kernel
theorem d_M_process_339 : decode b_M_process 339 = .ok (.ireturn, 1) := by decide +kernel
theorem d_M_process_340 : decode b_M_process 340 = .ok (.iload 4, 2) := by decide +kernel
theorem d_M_process_342 : decode b_M_process 342 = .ok (.ifCond .eq 7, 3) := by decide +kernel
theorem d_M_process_345 : decode b_M_process 345 = .ok (.iconst 0, 1) := by decide +kernel
theorem d_M_process_346 : decode b_M_process 346 = .ok (.goto 9, 3) := by decide +kernel
theorem d_M_process_349 : decode b_M_process 349 = .ok (.aload_n 0, 1) := by decide +kernel
theorem d_M_process_350 : decode b_M_process 350 = .ok (.getfield 273, 3) := by decide +kernel
theorem d_M_process_353 : decode b_M_process 353 = .ok (.iload_n 1, 1) := by decide +kernel
theorem d_M_process_354 : decode b_M_process 354 = .ok (.iaload, 1) := by decide +kernel
theorem d_M_process_355 : decode b_M_process 355 = .ok (.ireturn, 1) := by decide +kernel
def rm_M_process : Room := { frames := 1, cells := 0, slots := 0, locals := 21 }
theorem rm_M_process_M_isProcess {R : Room} (hR : R = rm_M_process) : (rm_M_isProcess).frames + 1 ≤ R.frames ∧ 8 + (2 + 11) + (rm_M_isProcess).locals ≤ R.locals := by subst hR; decide
theorem rm_M_process_M_mayGo {R : Room} (hR : R = rm_M_process) : (rm_M_mayGo).frames + 1 ≤ R.frames ∧ 8 + (2 + 11) + (rm_M_mayGo).locals ≤ R.locals := by subst hR; decide
def fb_M_process_355 (N : Nat) (G : (MS → Int32 → Int32 → Int32 → Int32 → Int32 → Option (MS × Int32))) (u : MS) (t0 : Int32) : Option (MS × Int32) := some (u, t0)
set_option maxRecDepth 100000 in
set_option maxHeartbeats 4000000 in
theorem wb_M_process_355 {p : Program} {l : Launch} {e : Env} {R : Room} {s : State} {m : MethodId} {args : Array Value} {below : List Frame} {meth : Method} {c : Code} {D : va_G} {cl : List vw_C} {cB cI cJ cZ cS : ClassId} {A : Nat → Prop} {iM h0 : Nat} {ad : Nat → Nat} (C0 : MCx p s m args meth c b_M_process 7 (some .int) D cl cB cI cJ cZ cS iM A) (hR : R = rm_M_process) (N : Nat) (G : (MS → Int32 → Int32 → Int32 → Int32 → Int32 → Option (MS × Int32))) (hG : (∀ (u : MS) (v1 : Int32) (v2 : Int32) (v4 : Int32) (v5 : Int32) (v6 : Int32) (x : MS × Int32), G u v1 v2 v4 v5 v6 = some x → ∀ (H : Heap) (locs : List Loc), va_P D cl (wM cB cI cJ cZ cS iM h0 ad u) H → va_D A (wM cB cI cJ cZ cS iM h0 ad u) → va_S A s.heap H locs → ∀ (ls : Array Slot), lv_has ls 7 [(0, .ref h0), (1, .int v1), (2, .int v2), (4, .int v4), (5, .int v5), (6, .int v6)] → W p l e R s m args below meth c H locs 0 0 (MQ below (mQi D cl cB cI cJ cZ cS iM h0 ad A x) args s 0 0 A) (F0 m 146 ls []))) : ∀ (u : MS) (t0 : Int32) (x : MS × Int32), fb_M_process_355 N G u t0 = some x → ∀ (H : Heap) (locs : List Loc), va_P D cl (wM cB cI cJ cZ cS iM h0 ad u) H → va_D A (wM cB cI cJ cZ cS iM h0 ad u) → va_S A s.heap H locs → ∀ (ls : Array Slot), lv_has ls 7 [] → W p l e R s m args below meth c H locs 0 0 (MQ below (mQi D cl cB cI cJ cZ cS iM h0 ad A x) args s 0 0 A) (F0 m 355 ls [.int t0]) := by
  intro u t0 x hf H locs hP hD hS ls hl
  obtain ⟨hx, hb, hr, hml, ht, hown, hM, hK, hA, hlocks⟩ := id C0
  unfold fb_M_process_355 at hf
  exact mr_i C0 hP hD hS hf d_M_process_355
def fb_M_process_339 (N : Nat) (G : (MS → Int32 → Int32 → Int32 → Int32 → Int32 → Option (MS × Int32))) (u : MS) (t0 : Int32) : Option (MS × Int32) := some (u, t0)
set_option maxRecDepth 100000 in
set_option maxHeartbeats 4000000 in
theorem wb_M_process_339 {p : Program} {l : Launch} {e : Env} {R : Room} {s : State} {m : MethodId} {args : Array Value} {below : List Frame} {meth : Method} {c : Code} {D : va_G} {cl : List vw_C} {cB cI cJ cZ cS : ClassId} {A : Nat → Prop} {iM h0 : Nat} {ad : Nat → Nat} (C0 : MCx p s m args meth c b_M_process 7 (some .int) D cl cB cI cJ cZ cS iM A) (hR : R = rm_M_process) (N : Nat) (G : (MS → Int32 → Int32 → Int32 → Int32 → Int32 → Option (MS × Int32))) (hG : (∀ (u : MS) (v1 : Int32) (v2 : Int32) (v4 : Int32) (v5 : Int32) (v6 : Int32) (x : MS × Int32), G u v1 v2 v4 v5 v6 = some x → ∀ (H : Heap) (locs : List Loc), va_P D cl (wM cB cI cJ cZ cS iM h0 ad u) H → va_D A (wM cB cI cJ cZ cS iM h0 ad u) → va_S A s.heap H locs → ∀ (ls : Array Slot), lv_has ls 7 [(0, .ref h0), (1, .int v1), (2, .int v2), (4, .int v4), (5, .int v5), (6, .int v6)] → W p l e R s m args below meth c H locs 0 0 (MQ below (mQi D cl cB cI cJ cZ cS iM h0 ad A x) args s 0 0 A) (F0 m 146 ls []))) : ∀ (u : MS) (t0 : Int32) (x : MS × Int32), fb_M_process_339 N G u t0 = some x → ∀ (H : Heap) (locs : List Loc), va_P D cl (wM cB cI cJ cZ cS iM h0 ad u) H → va_D A (wM cB cI cJ cZ cS iM h0 ad u) → va_S A s.heap H locs → ∀ (ls : Array Slot), lv_has ls 7 [] → W p l e R s m args below meth c H locs 0 0 (MQ below (mQi D cl cB cI cJ cZ cS iM h0 ad A x) args s 0 0 A) (F0 m 339 ls [.int t0]) := by
  intro u t0 x hf H locs hP hD hS ls hl
  obtain ⟨hx, hb, hr, hml, ht, hown, hM, hK, hA, hlocks⟩ := id C0
  unfold fb_M_process_339 at hf
  exact mr_i C0 hP hD hS hf d_M_process_339
def fb_M_process_309 (N : Nat) (G : (MS → Int32 → Int32 → Int32 → Int32 → Int32 → Option (MS × Int32))) (u : MS) : Option (MS × Int32) := fb_M_process_339 N G u ((-1))
set_option maxRecDepth 100000 in
set_option maxHeartbeats 4000000 in
theorem wb_M_process_309 {p : Program} {l : Launch} {e : Env} {R : Room} {s : State} {m : MethodId} {args : Array Value} {below : List Frame} {meth : Method} {c : Code} {D : va_G} {cl : List vw_C} {cB cI cJ cZ cS : ClassId} {A : Nat → Prop} {iM h0 : Nat} {ad : Nat → Nat} (C0 : MCx p s m args meth c b_M_process 7 (some .int) D cl cB cI cJ cZ cS iM A) (hR : R = rm_M_process) (N : Nat) (G : (MS → Int32 → Int32 → Int32 → Int32 → Int32 → Option (MS × Int32))) (hG : (∀ (u : MS) (v1 : Int32) (v2 : Int32) (v4 : Int32) (v5 : Int32) (v6 : Int32) (x : MS × Int32), G u v1 v2 v4 v5 v6 = some x → ∀ (H : Heap) (locs : List Loc), va_P D cl (wM cB cI cJ cZ cS iM h0 ad u) H → va_D A (wM cB cI cJ cZ cS iM h0 ad u) → va_S A s.heap H locs → ∀ (ls : Array Slot), lv_has ls 7 [(0, .ref h0), (1, .int v1), (2, .int v2), (4, .int v4), (5, .int v5), (6, .int v6)] → W p l e R s m args below meth c H locs 0 0 (MQ below (mQi D cl cB cI cJ cZ cS iM h0 ad A x) args s 0 0 A) (F0 m 146 ls []))) : ∀ (u : MS) (x : MS × Int32), fb_M_process_309 N G u = some x → ∀ (H : Heap) (locs : List Loc), va_P D cl (wM cB cI cJ cZ cS iM h0 ad u) H → va_D A (wM cB cI cJ cZ cS iM h0 ad u) → va_S A s.heap H locs → ∀ (ls : Array Slot), lv_has ls 7 [] → W p l e R s m args below meth c H locs 0 0 (MQ below (mQi D cl cB cI cJ cZ cS iM h0 ad A x) args s 0 0 A) (F0 m 309 ls []) := by
  intro u x hf H locs hP hD hS ls hl
  obtain ⟨hx, hb, hr, hml, ht, hown, hM, hK, hA, hlocks⟩ := id C0
  unfold fb_M_process_309 at hf
  refine lv_iconst (v := (-1)) hx hb d_M_process_309 (by decide) ?_
  refine lv_goto (tgt := 339) hx hb d_M_process_310 (by decide) ?_
  exact wb_M_process_339 C0 hR N G hG _ _ _ hf H locs hP hD hS ls (lv_sub hl [] rfl)
def fb_M_process_285 (N : Nat) (G : (MS → Int32 → Int32 → Int32 → Int32 → Int32 → Option (MS × Int32))) (u : MS) (t0 : Int32) : Option (MS × Int32) := some (u, t0)
set_option maxRecDepth 100000 in
set_option maxHeartbeats 4000000 in
theorem wb_M_process_285 {p : Program} {l : Launch} {e : Env} {R : Room} {s : State} {m : MethodId} {args : Array Value} {below : List Frame} {meth : Method} {c : Code} {D : va_G} {cl : List vw_C} {cB cI cJ cZ cS : ClassId} {A : Nat → Prop} {iM h0 : Nat} {ad : Nat → Nat} (C0 : MCx p s m args meth c b_M_process 7 (some .int) D cl cB cI cJ cZ cS iM A) (hR : R = rm_M_process) (N : Nat) (G : (MS → Int32 → Int32 → Int32 → Int32 → Int32 → Option (MS × Int32))) (hG : (∀ (u : MS) (v1 : Int32) (v2 : Int32) (v4 : Int32) (v5 : Int32) (v6 : Int32) (x : MS × Int32), G u v1 v2 v4 v5 v6 = some x → ∀ (H : Heap) (locs : List Loc), va_P D cl (wM cB cI cJ cZ cS iM h0 ad u) H → va_D A (wM cB cI cJ cZ cS iM h0 ad u) → va_S A s.heap H locs → ∀ (ls : Array Slot), lv_has ls 7 [(0, .ref h0), (1, .int v1), (2, .int v2), (4, .int v4), (5, .int v5), (6, .int v6)] → W p l e R s m args below meth c H locs 0 0 (MQ below (mQi D cl cB cI cJ cZ cS iM h0 ad A x) args s 0 0 A) (F0 m 146 ls []))) : ∀ (u : MS) (t0 : Int32) (x : MS × Int32), fb_M_process_285 N G u t0 = some x → ∀ (H : Heap) (locs : List Loc), va_P D cl (wM cB cI cJ cZ cS iM h0 ad u) H → va_D A (wM cB cI cJ cZ cS iM h0 ad u) → va_S A s.heap H locs → ∀ (ls : Array Slot), lv_has ls 7 [] → W p l e R s m args below meth c H locs 0 0 (MQ below (mQi D cl cB cI cJ cZ cS iM h0 ad A x) args s 0 0 A) (F0 m 285 ls [.int t0]) := by
  intro u t0 x hf H locs hP hD hS ls hl
  obtain ⟨hx, hb, hr, hml, ht, hown, hM, hK, hA, hlocks⟩ := id C0
  unfold fb_M_process_285 at hf
  exact mr_i C0 hP hD hS hf d_M_process_285
def fb_M_process_175 (N : Nat) (G : (MS → Int32 → Int32 → Int32 → Int32 → Int32 → Option (MS × Int32))) (u : MS) (v1 : Int32) (v2 : Int32) (v4 : Int32) (v6 : Int32) (t0 : Int32) : Option (MS × Int32) := G u (v1) (v2) (v4) (t0) ((v6 + 1))
set_option maxRecDepth 100000 in
set_option maxHeartbeats 4000000 in
theorem wb_M_process_175 {p : Program} {l : Launch} {e : Env} {R : Room} {s : State} {m : MethodId} {args : Array Value} {below : List Frame} {meth : Method} {c : Code} {D : va_G} {cl : List vw_C} {cB cI cJ cZ cS : ClassId} {A : Nat → Prop} {iM h0 : Nat} {ad : Nat → Nat} (C0 : MCx p s m args meth c b_M_process 7 (some .int) D cl cB cI cJ cZ cS iM A) (hR : R = rm_M_process) (N : Nat) (G : (MS → Int32 → Int32 → Int32 → Int32 → Int32 → Option (MS × Int32))) (hG : (∀ (u : MS) (v1 : Int32) (v2 : Int32) (v4 : Int32) (v5 : Int32) (v6 : Int32) (x : MS × Int32), G u v1 v2 v4 v5 v6 = some x → ∀ (H : Heap) (locs : List Loc), va_P D cl (wM cB cI cJ cZ cS iM h0 ad u) H → va_D A (wM cB cI cJ cZ cS iM h0 ad u) → va_S A s.heap H locs → ∀ (ls : Array Slot), lv_has ls 7 [(0, .ref h0), (1, .int v1), (2, .int v2), (4, .int v4), (5, .int v5), (6, .int v6)] → W p l e R s m args below meth c H locs 0 0 (MQ below (mQi D cl cB cI cJ cZ cS iM h0 ad A x) args s 0 0 A) (F0 m 146 ls []))) : ∀ (u : MS) (v1 : Int32) (v2 : Int32) (v4 : Int32) (v6 : Int32) (t0 : Int32) (x : MS × Int32), fb_M_process_175 N G u v1 v2 v4 v6 t0 = some x → ∀ (H : Heap) (locs : List Loc), va_P D cl (wM cB cI cJ cZ cS iM h0 ad u) H → va_D A (wM cB cI cJ cZ cS iM h0 ad u) → va_S A s.heap H locs → ∀ (ls : Array Slot), lv_has ls 7 [(0, .ref h0), (1, .int v1), (2, .int v2), (4, .int v4), (6, .int v6)] → W p l e R s m args below meth c H locs 0 0 (MQ below (mQi D cl cB cI cJ cZ cS iM h0 ad A x) args s 0 0 A) (F0 m 175 ls [.int t0]) := by
  intro u v1 v2 v4 v6 t0 x hf H locs hP hD hS ls hl
  obtain ⟨hx, hb, hr, hml, ht, hown, hM, hK, hA, hlocks⟩ := id C0
  unfold fb_M_process_175 at hf
  refine lv_istore (lv' := [(5, .int t0), (0, .ref h0), (1, .int v1), (2, .int v2), (4, .int v4), (6, .int v6)]) hx hb d_M_process_175 hl (by decide) rfl (fun ls hl => ?_)
  refine lv_iinc (v := (v6 + 1)) (lv' := [(6, .int (v6 + 1)), (5, .int t0), (0, .ref h0), (1, .int v1), (2, .int v2), (4, .int v4)]) hx hb d_M_process_177 hl (k := 5) rfl rfl (by decide) rfl (fun ls hl => ?_)
  refine lv_goto (tgt := 146) hx hb d_M_process_180 (by decide) ?_
  exact hG _ _ _ _ _ _ _ hf H locs hP hD hS ls (lv_sub hl [2, 3, 4, 5, 1, 0] rfl)
def fb_M_process_146 (N : Nat) (G : (MS → Int32 → Int32 → Int32 → Int32 → Int32 → Option (MS × Int32))) (u : MS) (v1 : Int32) (v2 : Int32) (v4 : Int32) (v5 : Int32) (v6 : Int32) : Option (MS × Int32) := br (decide ((u.1 125) ≤ v6)) (br (decide (v2 = 1)) (ck (inb v1 (ln 95)) (some (u, (u.2.2.1 95 v1.toNatClampNeg)))) (br (decide (v2 = 2)) (ck (inb v1 (ln 89)) (some (u, (u.2.2.1 89 v1.toNatClampNeg)))) (br (decide (v2 = 3)) (br (decide (v4 = 0)) (ck (inb v1 (ln 115)) (fb_M_process_355 N G u ((u.2.2.1 115 v1.toNatClampNeg)))) (fb_M_process_355 N G u (0))) (br (decide (v2 = 4)) (ck (inb v1 (ln 108)) (some (u, (u.2.2.1 108 v1.toNatClampNeg)))) (br (decide (v2 = 5)) (ck (inb v1 (ln 117)) (some (u, (u.2.2.1 117 v1.toNatClampNeg)))) (br (decide (v2 = 6)) (some (u, v5)) (br (decide (v2 = 7)) (ck (inb v1 (ln 112)) (br (decide ((u.2.2.1 112 v1.toNatClampNeg) = 0)) (fb_M_process_285 N G u (0)) (fb_M_process_285 N G u (1)))) (br (decide (v2 = 8)) (ck (inb v1 (ln 113)) (some (u, (u.2.2.1 113 v1.toNatClampNeg)))) (br (decide (v2 = 9)) (br (decide (v4 = 0)) (ck (inb v1 (ln 115)) (fb_M_process_355 N G u ((u.2.2.1 115 v1.toNatClampNeg)))) (fb_M_process_355 N G u (0))) (br (decide (v2 = 10)) (br (decide (v4 = 0)) (fb_M_process_309 N G u) (ck (inb v1 (ln 111)) (br (decide (0 ≤ (lg_cmp (u.2.2.2 111 v1.toNatClampNeg) 0))) (ck (inb v1 (ln 111)) (br (decide ((lg_cmp (u.2.2.2 111 v1.toNatClampNeg) 2147483647) ≤ 0)) (ck (inb v1 (ln 111)) (fb_M_process_339 N G u ((u.2.2.2 111 v1.toNatClampNeg).toInt32))) (fb_M_process_339 N G u (2147483647)))) (fb_M_process_309 N G u)))) (br (decide (v4 = 0)) (ck (inb v1 (ln 115)) (fb_M_process_355 N G u ((u.2.2.1 115 v1.toNatClampNeg)))) (fb_M_process_355 N G u (0))))))))))))) (ck (inb v6 (ln 123)) (br (decide ((u.2.2.1 123 v6.toNatClampNeg) = v1)) (fb_M_process_175 N G u (v1) (v2) (v4) (v6) ((v5 + 1))) (fb_M_process_175 N G u (v1) (v2) (v4) (v6) (v5))))
set_option maxRecDepth 100000 in
set_option maxHeartbeats 4000000 in
theorem wb_M_process_146 {p : Program} {l : Launch} {e : Env} {R : Room} {s : State} {m : MethodId} {args : Array Value} {below : List Frame} {meth : Method} {c : Code} {D : va_G} {cl : List vw_C} {cB cI cJ cZ cS : ClassId} {A : Nat → Prop} {iM h0 : Nat} {ad : Nat → Nat} (C0 : MCx p s m args meth c b_M_process 7 (some .int) D cl cB cI cJ cZ cS iM A) (hR : R = rm_M_process) (N : Nat) (G : (MS → Int32 → Int32 → Int32 → Int32 → Int32 → Option (MS × Int32))) (hG : (∀ (u : MS) (v1 : Int32) (v2 : Int32) (v4 : Int32) (v5 : Int32) (v6 : Int32) (x : MS × Int32), G u v1 v2 v4 v5 v6 = some x → ∀ (H : Heap) (locs : List Loc), va_P D cl (wM cB cI cJ cZ cS iM h0 ad u) H → va_D A (wM cB cI cJ cZ cS iM h0 ad u) → va_S A s.heap H locs → ∀ (ls : Array Slot), lv_has ls 7 [(0, .ref h0), (1, .int v1), (2, .int v2), (4, .int v4), (5, .int v5), (6, .int v6)] → W p l e R s m args below meth c H locs 0 0 (MQ below (mQi D cl cB cI cJ cZ cS iM h0 ad A x) args s 0 0 A) (F0 m 146 ls []))) : ∀ (u : MS) (v1 : Int32) (v2 : Int32) (v4 : Int32) (v5 : Int32) (v6 : Int32) (x : MS × Int32), fb_M_process_146 N G u v1 v2 v4 v5 v6 = some x → ∀ (H : Heap) (locs : List Loc), va_P D cl (wM cB cI cJ cZ cS iM h0 ad u) H → va_D A (wM cB cI cJ cZ cS iM h0 ad u) → va_S A s.heap H locs → ∀ (ls : Array Slot), lv_has ls 7 [(0, .ref h0), (1, .int v1), (2, .int v2), (4, .int v4), (5, .int v5), (6, .int v6)] → W p l e R s m args below meth c H locs 0 0 (MQ below (mQi D cl cB cI cJ cZ cS iM h0 ad A x) args s 0 0 A) (F0 m 146 ls []) := by
  intro u v1 v2 v4 v5 v6 x hf H locs hP hD hS ls hl
  obtain ⟨hx, hb, hr, hml, ht, hown, hM, hK, hA, hlocks⟩ := id C0
  unfold fb_M_process_146 at hf
  refine lv_iload hx hb d_M_process_146 (lv_at hl 5 rfl) ?_
  refine lv_aload_n hx hb d_M_process_148 rfl (lv_at hl 0 rfl) ?_
  refine ug_I hx hb ht hown hM hK hP 125 (by decide) lk_M_125 (by decide) d_M_process_149 ?_
  refine lv_icmp_ge (tgt := 183) hx hb d_M_process_152 (by decide) (fun hc => ?_) (fun hc => ?_)
  · rw [br_p _ hc] at hf
    refine lv_iload_n hx hb d_M_process_183 rfl (lv_at hl 2 rfl) ?_
    by_cases hc1 : v2 = 1
    · rw [br_p _ hc1] at hf
      refine lv_tableIn (tgt := 240) hx hb d_M_process_184 (by rw [hc1]; decide) (by rw [hc1]; decide) (by rw [hc1]; rfl) (by decide) ?_
      refine lv_aload_n hx hb d_M_process_240 rfl (lv_at hl 0 rfl) ?_
      refine ug_R hx hb ht hown hM hK hP 95 (by decide) lk_M_95 (by decide) d_M_process_241 ?_
      refine lv_iload_n hx hb d_M_process_244 rfl (lv_at hl 1 rfl) ?_
      obtain ⟨hi9, hf⟩ := ck_some hf
      refine ul_I hx hb hK hP (by decide) (by decide) hi9 d_M_process_245 ?_
      exact mr_i C0 hP hD hS hf d_M_process_246
    · rw [br_n _ hc1] at hf
      by_cases hc2 : v2 = 2
      · rw [br_p _ hc2] at hf
        refine lv_tableIn (tgt := 247) hx hb d_M_process_184 (by rw [hc2]; decide) (by rw [hc2]; decide) (by rw [hc2]; rfl) (by decide) ?_
        refine lv_aload_n hx hb d_M_process_247 rfl (lv_at hl 0 rfl) ?_
        refine ug_R hx hb ht hown hM hK hP 89 (by decide) lk_M_89 (by decide) d_M_process_248 ?_
        refine lv_iload_n hx hb d_M_process_251 rfl (lv_at hl 1 rfl) ?_
        obtain ⟨hi9, hf⟩ := ck_some hf
        refine ul_I hx hb hK hP (by decide) (by decide) hi9 d_M_process_252 ?_
        exact mr_i C0 hP hD hS hf d_M_process_253
      · rw [br_n _ hc2] at hf
        by_cases hc3 : v2 = 3
        · rw [br_p _ hc3] at hf
          refine lv_tableIn (tgt := 340) hx hb d_M_process_184 (by rw [hc3]; decide) (by rw [hc3]; decide) (by rw [hc3]; rfl) (by decide) ?_
          refine lv_iload hx hb d_M_process_340 (lv_at hl 3 rfl) ?_
          refine lv_if_eq (tgt := 349) hx hb d_M_process_342 (by decide) (fun hc => ?_) (fun hc => ?_)
          · rw [br_p _ hc] at hf
            refine lv_aload_n hx hb d_M_process_349 rfl (lv_at hl 0 rfl) ?_
            refine ug_R hx hb ht hown hM hK hP 115 (by decide) lk_M_115 (by decide) d_M_process_350 ?_
            refine lv_iload_n hx hb d_M_process_353 rfl (lv_at hl 1 rfl) ?_
            obtain ⟨hi9, hf⟩ := ck_some hf
            refine ul_I hx hb hK hP (by decide) (by decide) hi9 d_M_process_354 ?_
            exact wb_M_process_355 C0 hR N G hG _ _ _ hf H locs hP hD hS ls (lv_sub hl [] rfl)
          · rw [br_n _ hc] at hf
            refine lv_iconst (v := 0) hx hb d_M_process_345 (by decide) ?_
            refine lv_goto (tgt := 355) hx hb d_M_process_346 (by decide) ?_
            exact wb_M_process_355 C0 hR N G hG _ _ _ hf H locs hP hD hS ls (lv_sub hl [] rfl)
        · rw [br_n _ hc3] at hf
          by_cases hc4 : v2 = 4
          · rw [br_p _ hc4] at hf
            refine lv_tableIn (tgt := 254) hx hb d_M_process_184 (by rw [hc4]; decide) (by rw [hc4]; decide) (by rw [hc4]; rfl) (by decide) ?_
            refine lv_aload_n hx hb d_M_process_254 rfl (lv_at hl 0 rfl) ?_
            refine ug_R hx hb ht hown hM hK hP 108 (by decide) lk_M_108 (by decide) d_M_process_255 ?_
            refine lv_iload_n hx hb d_M_process_258 rfl (lv_at hl 1 rfl) ?_
            obtain ⟨hi9, hf⟩ := ck_some hf
            refine ul_I hx hb hK hP (by decide) (by decide) hi9 d_M_process_259 ?_
            exact mr_i C0 hP hD hS hf d_M_process_260
          · rw [br_n _ hc4] at hf
            by_cases hc5 : v2 = 5
            · rw [br_p _ hc5] at hf
              refine lv_tableIn (tgt := 261) hx hb d_M_process_184 (by rw [hc5]; decide) (by rw [hc5]; decide) (by rw [hc5]; rfl) (by decide) ?_
              refine lv_aload_n hx hb d_M_process_261 rfl (lv_at hl 0 rfl) ?_
              refine ug_R hx hb ht hown hM hK hP 117 (by decide) lk_M_117 (by decide) d_M_process_262 ?_
              refine lv_iload_n hx hb d_M_process_265 rfl (lv_at hl 1 rfl) ?_
              obtain ⟨hi9, hf⟩ := ck_some hf
              refine ul_I hx hb hK hP (by decide) (by decide) hi9 d_M_process_266 ?_
              exact mr_i C0 hP hD hS hf d_M_process_267
            · rw [br_n _ hc5] at hf
              by_cases hc6 : v2 = 6
              · rw [br_p _ hc6] at hf
                refine lv_tableIn (tgt := 268) hx hb d_M_process_184 (by rw [hc6]; decide) (by rw [hc6]; decide) (by rw [hc6]; rfl) (by decide) ?_
                refine lv_iload hx hb d_M_process_268 (lv_at hl 4 rfl) ?_
                exact mr_i C0 hP hD hS hf d_M_process_270
              · rw [br_n _ hc6] at hf
                by_cases hc7 : v2 = 7
                · rw [br_p _ hc7] at hf
                  refine lv_tableIn (tgt := 271) hx hb d_M_process_184 (by rw [hc7]; decide) (by rw [hc7]; decide) (by rw [hc7]; rfl) (by decide) ?_
                  refine lv_aload_n hx hb d_M_process_271 rfl (lv_at hl 0 rfl) ?_
                  refine ug_R hx hb ht hown hM hK hP 112 (by decide) lk_M_112 (by decide) d_M_process_272 ?_
                  refine lv_iload_n hx hb d_M_process_275 rfl (lv_at hl 1 rfl) ?_
                  obtain ⟨hi9, hf⟩ := ck_some hf
                  refine ul_Z hx hb hK hP (by decide) (by decide) hi9 d_M_process_276 ?_
                  refine lv_if_eq (tgt := 284) hx hb d_M_process_277 (by decide) (fun hc => ?_) (fun hc => ?_)
                  · rw [br_p _ hc] at hf
                    refine lv_iconst (v := 0) hx hb d_M_process_284 (by decide) ?_
                    exact wb_M_process_285 C0 hR N G hG _ _ _ hf H locs hP hD hS ls (lv_sub hl [] rfl)
                  · rw [br_n _ hc] at hf
                    refine lv_iconst (v := 1) hx hb d_M_process_280 (by decide) ?_
                    refine lv_goto (tgt := 285) hx hb d_M_process_281 (by decide) ?_
                    exact wb_M_process_285 C0 hR N G hG _ _ _ hf H locs hP hD hS ls (lv_sub hl [] rfl)
                · rw [br_n _ hc7] at hf
                  by_cases hc8 : v2 = 8
                  · rw [br_p _ hc8] at hf
                    refine lv_tableIn (tgt := 286) hx hb d_M_process_184 (by rw [hc8]; decide) (by rw [hc8]; decide) (by rw [hc8]; rfl) (by decide) ?_
                    refine lv_aload_n hx hb d_M_process_286 rfl (lv_at hl 0 rfl) ?_
                    refine ug_R hx hb ht hown hM hK hP 113 (by decide) lk_M_113 (by decide) d_M_process_287 ?_
                    refine lv_iload_n hx hb d_M_process_290 rfl (lv_at hl 1 rfl) ?_
                    obtain ⟨hi9, hf⟩ := ck_some hf
                    refine ul_I hx hb hK hP (by decide) (by decide) hi9 d_M_process_291 ?_
                    exact mr_i C0 hP hD hS hf d_M_process_292
                  · rw [br_n _ hc8] at hf
                    by_cases hc9 : v2 = 9
                    · rw [br_p _ hc9] at hf
                      refine lv_tableIn (tgt := 340) hx hb d_M_process_184 (by rw [hc9]; decide) (by rw [hc9]; decide) (by rw [hc9]; rfl) (by decide) ?_
                      refine lv_iload hx hb d_M_process_340 (lv_at hl 3 rfl) ?_
                      refine lv_if_eq (tgt := 349) hx hb d_M_process_342 (by decide) (fun hc => ?_) (fun hc => ?_)
                      · rw [br_p _ hc] at hf
                        refine lv_aload_n hx hb d_M_process_349 rfl (lv_at hl 0 rfl) ?_
                        refine ug_R hx hb ht hown hM hK hP 115 (by decide) lk_M_115 (by decide) d_M_process_350 ?_
                        refine lv_iload_n hx hb d_M_process_353 rfl (lv_at hl 1 rfl) ?_
                        obtain ⟨hi9, hf⟩ := ck_some hf
                        refine ul_I hx hb hK hP (by decide) (by decide) hi9 d_M_process_354 ?_
                        exact wb_M_process_355 C0 hR N G hG _ _ _ hf H locs hP hD hS ls (lv_sub hl [] rfl)
                      · rw [br_n _ hc] at hf
                        refine lv_iconst (v := 0) hx hb d_M_process_345 (by decide) ?_
                        refine lv_goto (tgt := 355) hx hb d_M_process_346 (by decide) ?_
                        exact wb_M_process_355 C0 hR N G hG _ _ _ hf H locs hP hD hS ls (lv_sub hl [] rfl)
                    · rw [br_n _ hc9] at hf
                      by_cases hc10 : v2 = 10
                      · rw [br_p _ hc10] at hf
                        refine lv_tableIn (tgt := 293) hx hb d_M_process_184 (by rw [hc10]; decide) (by rw [hc10]; decide) (by rw [hc10]; rfl) (by decide) ?_
                        refine lv_iload hx hb d_M_process_293 (lv_at hl 3 rfl) ?_
                        refine lv_if_eq (tgt := 309) hx hb d_M_process_295 (by decide) (fun hc => ?_) (fun hc => ?_)
                        · rw [br_p _ hc] at hf
                          exact wb_M_process_309 C0 hR N G hG _ _ hf H locs hP hD hS ls (lv_sub hl [] rfl)
                        · rw [br_n _ hc] at hf
                          refine lv_aload_n hx hb d_M_process_298 rfl (lv_at hl 0 rfl) ?_
                          refine ug_R hx hb ht hown hM hK hP 111 (by decide) lk_M_111 (by decide) d_M_process_299 ?_
                          refine lv_iload_n hx hb d_M_process_302 rfl (lv_at hl 1 rfl) ?_
                          obtain ⟨hi9, hf⟩ := ck_some hf
                          refine ul_J hx hb hK hP (by decide) (by decide) hi9 d_M_process_303 ?_
                          refine lv_lconst (v := 0) hx hb d_M_process_304 (by decide) ?_
                          refine W.lcmp hx hb d_M_process_305 ?_
                          refine lv_if_ge (tgt := 313) hx hb d_M_process_306 (by decide) (fun hc => ?_) (fun hc => ?_)
                          · rw [br_p _ hc] at hf
                            refine lv_aload_n hx hb d_M_process_313 rfl (lv_at hl 0 rfl) ?_
                            refine ug_R hx hb ht hown hM hK hP 111 (by decide) lk_M_111 (by decide) d_M_process_314 ?_
                            refine lv_iload_n hx hb d_M_process_317 rfl (lv_at hl 1 rfl) ?_
                            obtain ⟨hi9, hf⟩ := ck_some hf
                            refine ul_J hx hb hK hP (by decide) (by decide) hi9 d_M_process_318 ?_
                            refine lv_ldc2 (v := 2147483647) hx hb hown (ht _ (wd_of 2681 (by decide +kernel) rfl)) d_M_process_319 ?_
                            refine W.lcmp hx hb d_M_process_322 ?_
                            refine lv_if_le (tgt := 332) hx hb d_M_process_323 (by decide) (fun hc => ?_) (fun hc => ?_)
                            · rw [br_p _ hc] at hf
                              refine lv_aload_n hx hb d_M_process_332 rfl (lv_at hl 0 rfl) ?_
                              refine ug_R hx hb ht hown hM hK hP 111 (by decide) lk_M_111 (by decide) d_M_process_333 ?_
                              refine lv_iload_n hx hb d_M_process_336 rfl (lv_at hl 1 rfl) ?_
                              obtain ⟨hi9, hf⟩ := ck_some hf
                              refine ul_J hx hb hK hP (by decide) (by decide) hi9 d_M_process_337 ?_
                              refine lv_l2i hx hb d_M_process_338 rfl ?_
                              exact wb_M_process_339 C0 hR N G hG _ _ _ hf H locs hP hD hS ls (lv_sub hl [] rfl)
                            · rw [br_n _ hc] at hf
                              refine lv_ldcw (v := 2147483647) hx hb hown (ht _ (wd_of 3264 (by decide +kernel) rfl)) d_M_process_326 ?_
                              refine lv_goto (tgt := 339) hx hb d_M_process_329 (by decide) ?_
                              exact wb_M_process_339 C0 hR N G hG _ _ _ hf H locs hP hD hS ls (lv_sub hl [] rfl)
                          · rw [br_n _ hc] at hf
                            exact wb_M_process_309 C0 hR N G hG _ _ hf H locs hP hD hS ls (lv_sub hl [] rfl)
                      · rw [br_n _ hc10] at hf
                        refine lv_tableOut (tgt := 340) hx hb d_M_process_184 (by have z0 := tiN hc1; have z1 := tiN hc2; have z2 := tiN hc3; have z3 := tiN hc4; have z4 := tiN hc5; have z5 := tiN hc6; have z6 := tiN hc7; have z7 := tiN hc8; have z8 := tiN hc9; have z9 := tiN hc10; rw [show (1 : Int32).toInt = 1 from by decide] at z0; rw [show (2 : Int32).toInt = 2 from by decide] at z1; rw [show (3 : Int32).toInt = 3 from by decide] at z2; rw [show (4 : Int32).toInt = 4 from by decide] at z3; rw [show (5 : Int32).toInt = 5 from by decide] at z4; rw [show (6 : Int32).toInt = 6 from by decide] at z5; rw [show (7 : Int32).toInt = 7 from by decide] at z6; rw [show (8 : Int32).toInt = 8 from by decide] at z7; rw [show (9 : Int32).toInt = 9 from by decide] at z8; rw [show (10 : Int32).toInt = 10 from by decide] at z9; omega) (by decide) ?_
                        refine lv_iload hx hb d_M_process_340 (lv_at hl 3 rfl) ?_
                        refine lv_if_eq (tgt := 349) hx hb d_M_process_342 (by decide) (fun hc => ?_) (fun hc => ?_)
                        · rw [br_p _ hc] at hf
                          refine lv_aload_n hx hb d_M_process_349 rfl (lv_at hl 0 rfl) ?_
                          refine ug_R hx hb ht hown hM hK hP 115 (by decide) lk_M_115 (by decide) d_M_process_350 ?_
                          refine lv_iload_n hx hb d_M_process_353 rfl (lv_at hl 1 rfl) ?_
                          obtain ⟨hi9, hf⟩ := ck_some hf
                          refine ul_I hx hb hK hP (by decide) (by decide) hi9 d_M_process_354 ?_
                          exact wb_M_process_355 C0 hR N G hG _ _ _ hf H locs hP hD hS ls (lv_sub hl [] rfl)
                        · rw [br_n _ hc] at hf
                          refine lv_iconst (v := 0) hx hb d_M_process_345 (by decide) ?_
                          refine lv_goto (tgt := 355) hx hb d_M_process_346 (by decide) ?_
                          exact wb_M_process_355 C0 hR N G hG _ _ _ hf H locs hP hD hS ls (lv_sub hl [] rfl)
  · rw [br_n _ hc] at hf
    refine lv_aload_n hx hb d_M_process_155 rfl (lv_at hl 0 rfl) ?_
    refine ug_R hx hb ht hown hM hK hP 123 (by decide) lk_M_123 (by decide) d_M_process_156 ?_
    refine lv_iload hx hb d_M_process_159 (lv_at hl 5 rfl) ?_
    obtain ⟨hi9, hf⟩ := ck_some hf
    refine ul_I hx hb hK hP (by decide) (by decide) hi9 d_M_process_161 ?_
    refine lv_iload_n hx hb d_M_process_162 rfl (lv_at hl 1 rfl) ?_
    refine lv_icmp_ne (tgt := 173) hx hb d_M_process_163 (by decide) (fun hc => ?_) (fun hc => ?_)
    · rw [br_n _ hc] at hf
      refine lv_iload hx hb d_M_process_173 (lv_at hl 4 rfl) ?_
      exact wb_M_process_175 C0 hR N G hG _ _ _ _ _ _ _ hf H locs hP hD hS ls (lv_sub hl [0, 1, 2, 3, 5] rfl)
    · rw [br_p _ hc] at hf
      refine lv_iload hx hb d_M_process_166 (lv_at hl 4 rfl) ?_
      refine lv_iconst (v := 1) hx hb d_M_process_168 (by decide) ?_
      refine lv_iadd hx hb d_M_process_169 ?_
      refine lv_goto (tgt := 175) hx hb d_M_process_170 (by decide) ?_
      exact wb_M_process_175 C0 hR N G hG _ _ _ _ _ _ _ hf H locs hP hD hS ls (lv_sub hl [0, 1, 2, 3, 5] rfl)
def fb_M_process_139 (N : Nat) (G : (MS → Int32 → Int32 → Int32 → Int32 → Int32 → Option (MS × Int32))) (u : MS) (t0 : Int32) : Option (MS × Int32) := some (u, t0)
set_option maxRecDepth 100000 in
set_option maxHeartbeats 4000000 in
theorem wb_M_process_139 {p : Program} {l : Launch} {e : Env} {R : Room} {s : State} {m : MethodId} {args : Array Value} {below : List Frame} {meth : Method} {c : Code} {D : va_G} {cl : List vw_C} {cB cI cJ cZ cS : ClassId} {A : Nat → Prop} {iM h0 : Nat} {ad : Nat → Nat} (C0 : MCx p s m args meth c b_M_process 7 (some .int) D cl cB cI cJ cZ cS iM A) (hR : R = rm_M_process) (N : Nat) (G : (MS → Int32 → Int32 → Int32 → Int32 → Int32 → Option (MS × Int32))) (hG : (∀ (u : MS) (v1 : Int32) (v2 : Int32) (v4 : Int32) (v5 : Int32) (v6 : Int32) (x : MS × Int32), G u v1 v2 v4 v5 v6 = some x → ∀ (H : Heap) (locs : List Loc), va_P D cl (wM cB cI cJ cZ cS iM h0 ad u) H → va_D A (wM cB cI cJ cZ cS iM h0 ad u) → va_S A s.heap H locs → ∀ (ls : Array Slot), lv_has ls 7 [(0, .ref h0), (1, .int v1), (2, .int v2), (4, .int v4), (5, .int v5), (6, .int v6)] → W p l e R s m args below meth c H locs 0 0 (MQ below (mQi D cl cB cI cJ cZ cS iM h0 ad A x) args s 0 0 A) (F0 m 146 ls []))) : ∀ (u : MS) (t0 : Int32) (x : MS × Int32), fb_M_process_139 N G u t0 = some x → ∀ (H : Heap) (locs : List Loc), va_P D cl (wM cB cI cJ cZ cS iM h0 ad u) H → va_D A (wM cB cI cJ cZ cS iM h0 ad u) → va_S A s.heap H locs → ∀ (ls : Array Slot), lv_has ls 7 [] → W p l e R s m args below meth c H locs 0 0 (MQ below (mQi D cl cB cI cJ cZ cS iM h0 ad A x) args s 0 0 A) (F0 m 139 ls [.int t0]) := by
  intro u t0 x hf H locs hP hD hS ls hl
  obtain ⟨hx, hb, hr, hml, ht, hown, hM, hK, hA, hlocks⟩ := id C0
  unfold fb_M_process_139 at hf
  exact mr_i C0 hP hD hS hf d_M_process_139
def fb_M_process_134 (N : Nat) (G : (MS → Int32 → Int32 → Int32 → Int32 → Int32 → Option (MS × Int32))) (u : MS) : Option (MS × Int32) := fb_M_process_139 N G u ((-1))
set_option maxRecDepth 100000 in
set_option maxHeartbeats 4000000 in
theorem wb_M_process_134 {p : Program} {l : Launch} {e : Env} {R : Room} {s : State} {m : MethodId} {args : Array Value} {below : List Frame} {meth : Method} {c : Code} {D : va_G} {cl : List vw_C} {cB cI cJ cZ cS : ClassId} {A : Nat → Prop} {iM h0 : Nat} {ad : Nat → Nat} (C0 : MCx p s m args meth c b_M_process 7 (some .int) D cl cB cI cJ cZ cS iM A) (hR : R = rm_M_process) (N : Nat) (G : (MS → Int32 → Int32 → Int32 → Int32 → Int32 → Option (MS × Int32))) (hG : (∀ (u : MS) (v1 : Int32) (v2 : Int32) (v4 : Int32) (v5 : Int32) (v6 : Int32) (x : MS × Int32), G u v1 v2 v4 v5 v6 = some x → ∀ (H : Heap) (locs : List Loc), va_P D cl (wM cB cI cJ cZ cS iM h0 ad u) H → va_D A (wM cB cI cJ cZ cS iM h0 ad u) → va_S A s.heap H locs → ∀ (ls : Array Slot), lv_has ls 7 [(0, .ref h0), (1, .int v1), (2, .int v2), (4, .int v4), (5, .int v5), (6, .int v6)] → W p l e R s m args below meth c H locs 0 0 (MQ below (mQi D cl cB cI cJ cZ cS iM h0 ad A x) args s 0 0 A) (F0 m 146 ls []))) : ∀ (u : MS) (x : MS × Int32), fb_M_process_134 N G u = some x → ∀ (H : Heap) (locs : List Loc), va_P D cl (wM cB cI cJ cZ cS iM h0 ad u) H → va_D A (wM cB cI cJ cZ cS iM h0 ad u) → va_S A s.heap H locs → ∀ (ls : Array Slot), lv_has ls 7 [] → W p l e R s m args below meth c H locs 0 0 (MQ below (mQi D cl cB cI cJ cZ cS iM h0 ad A x) args s 0 0 A) (F0 m 134 ls []) := by
  intro u x hf H locs hP hD hS ls hl
  obtain ⟨hx, hb, hr, hml, ht, hown, hM, hK, hA, hlocks⟩ := id C0
  unfold fb_M_process_134 at hf
  refine lv_iconst (v := (-1)) hx hb d_M_process_134 (by decide) ?_
  refine lv_goto (tgt := 139) hx hb d_M_process_135 (by decide) ?_
  exact wb_M_process_139 C0 hR N G hG _ _ _ hf H locs hP hD hS ls (lv_sub hl [] rfl)
def fb_M_process_92 (N : Nat) (G : (MS → Int32 → Int32 → Int32 → Int32 → Int32 → Option (MS × Int32))) (u : MS) (t0 : Int32) : Option (MS × Int32) := some (u, t0)
set_option maxRecDepth 100000 in
set_option maxHeartbeats 4000000 in
theorem wb_M_process_92 {p : Program} {l : Launch} {e : Env} {R : Room} {s : State} {m : MethodId} {args : Array Value} {below : List Frame} {meth : Method} {c : Code} {D : va_G} {cl : List vw_C} {cB cI cJ cZ cS : ClassId} {A : Nat → Prop} {iM h0 : Nat} {ad : Nat → Nat} (C0 : MCx p s m args meth c b_M_process 7 (some .int) D cl cB cI cJ cZ cS iM A) (hR : R = rm_M_process) (N : Nat) (G : (MS → Int32 → Int32 → Int32 → Int32 → Int32 → Option (MS × Int32))) (hG : (∀ (u : MS) (v1 : Int32) (v2 : Int32) (v4 : Int32) (v5 : Int32) (v6 : Int32) (x : MS × Int32), G u v1 v2 v4 v5 v6 = some x → ∀ (H : Heap) (locs : List Loc), va_P D cl (wM cB cI cJ cZ cS iM h0 ad u) H → va_D A (wM cB cI cJ cZ cS iM h0 ad u) → va_S A s.heap H locs → ∀ (ls : Array Slot), lv_has ls 7 [(0, .ref h0), (1, .int v1), (2, .int v2), (4, .int v4), (5, .int v5), (6, .int v6)] → W p l e R s m args below meth c H locs 0 0 (MQ below (mQi D cl cB cI cJ cZ cS iM h0 ad A x) args s 0 0 A) (F0 m 146 ls []))) : ∀ (u : MS) (t0 : Int32) (x : MS × Int32), fb_M_process_92 N G u t0 = some x → ∀ (H : Heap) (locs : List Loc), va_P D cl (wM cB cI cJ cZ cS iM h0 ad u) H → va_D A (wM cB cI cJ cZ cS iM h0 ad u) → va_S A s.heap H locs → ∀ (ls : Array Slot), lv_has ls 7 [] → W p l e R s m args below meth c H locs 0 0 (MQ below (mQi D cl cB cI cJ cZ cS iM h0 ad A x) args s 0 0 A) (F0 m 92 ls [.int t0]) := by
  intro u t0 x hf H locs hP hD hS ls hl
  obtain ⟨hx, hb, hr, hml, ht, hown, hM, hK, hA, hlocks⟩ := id C0
  unfold fb_M_process_92 at hf
  exact mr_i C0 hP hD hS hf d_M_process_92
def fb_M_process_56 (N : Nat) (G : (MS → Int32 → Int32 → Int32 → Int32 → Int32 → Option (MS × Int32))) (u : MS) (v1 : Int32) (v2 : Int32) (v3 : Int32) (t0 : Int32) : Option (MS × Int32) := br (decide (v2 = 0)) (br (decide (v3 = 0)) (br (decide (t0 = 0)) (fb_M_process_92 N G u (0)) (bnd (fm_M_mayGo N u v1) (fun u1 r1 => br (decide (r1 = 0)) (fb_M_process_92 N G u1 (1)) (fb_M_process_92 N G u1 (2))))) (fb_M_process_92 N G u (3))) (br (decide (v2 = 3)) (ck (inb v1 (ln 90)) (some (u, (u.2.2.1 90 v1.toNatClampNeg)))) (br (decide (v2 = 9)) (ck (inb v1 (ln 114)) (some (u, (u.2.2.1 114 v1.toNatClampNeg)))) (br (decide (v3 = 0)) (G u (v1) (v2) (t0) (0) (0)) (br (decide (v2 = 8)) (fb_M_process_134 N G u) (br (decide (v2 = 10)) (fb_M_process_134 N G u) (fb_M_process_139 N G u (0)))))))
set_option maxRecDepth 100000 in
set_option maxHeartbeats 4000000 in
theorem wb_M_process_56 {p : Program} {l : Launch} {e : Env} {R : Room} {s : State} {m : MethodId} {args : Array Value} {below : List Frame} {meth : Method} {c : Code} {D : va_G} {cl : List vw_C} {cB cI cJ cZ cS : ClassId} {A : Nat → Prop} {iM h0 : Nat} {ad : Nat → Nat} (C0 : MCx p s m args meth c b_M_process 7 (some .int) D cl cB cI cJ cZ cS iM A) (hR : R = rm_M_process) (N : Nat) (G : (MS → Int32 → Int32 → Int32 → Int32 → Int32 → Option (MS × Int32))) (hG : (∀ (u : MS) (v1 : Int32) (v2 : Int32) (v4 : Int32) (v5 : Int32) (v6 : Int32) (x : MS × Int32), G u v1 v2 v4 v5 v6 = some x → ∀ (H : Heap) (locs : List Loc), va_P D cl (wM cB cI cJ cZ cS iM h0 ad u) H → va_D A (wM cB cI cJ cZ cS iM h0 ad u) → va_S A s.heap H locs → ∀ (ls : Array Slot), lv_has ls 7 [(0, .ref h0), (1, .int v1), (2, .int v2), (4, .int v4), (5, .int v5), (6, .int v6)] → W p l e R s m args below meth c H locs 0 0 (MQ below (mQi D cl cB cI cJ cZ cS iM h0 ad A x) args s 0 0 A) (F0 m 146 ls []))) : ∀ (u : MS) (v1 : Int32) (v2 : Int32) (v3 : Int32) (t0 : Int32) (x : MS × Int32), fb_M_process_56 N G u v1 v2 v3 t0 = some x → ∀ (H : Heap) (locs : List Loc), va_P D cl (wM cB cI cJ cZ cS iM h0 ad u) H → va_D A (wM cB cI cJ cZ cS iM h0 ad u) → va_S A s.heap H locs → ∀ (ls : Array Slot), lv_has ls 7 [(0, .ref h0), (1, .int v1), (2, .int v2), (3, .int v3)] → W p l e R s m args below meth c H locs 0 0 (MQ below (mQi D cl cB cI cJ cZ cS iM h0 ad A x) args s 0 0 A) (F0 m 56 ls [.int t0]) := by
  intro u v1 v2 v3 t0 x hf H locs hP hD hS ls hl
  obtain ⟨hx, hb, hr, hml, ht, hown, hM, hK, hA, hlocks⟩ := id C0
  unfold fb_M_process_56 at hf
  refine lv_istore (lv' := [(4, .int t0), (0, .ref h0), (1, .int v1), (2, .int v2), (3, .int v3)]) hx hb d_M_process_56 hl (by decide) rfl (fun ls hl => ?_)
  refine lv_iload_n hx hb d_M_process_58 rfl (lv_at hl 3 rfl) ?_
  refine lv_if_ne (tgt := 93) hx hb d_M_process_59 (by decide) (fun hc => ?_) (fun hc => ?_)
  · rw [br_n _ hc] at hf
    refine lv_iload_n hx hb d_M_process_93 rfl (lv_at hl 3 rfl) ?_
    refine lv_iconst (v := 3) hx hb d_M_process_94 (by decide) ?_
    refine lv_icmp_ne (tgt := 105) hx hb d_M_process_95 (by decide) (fun hc => ?_) (fun hc => ?_)
    · rw [br_n _ hc] at hf
      refine lv_iload_n hx hb d_M_process_105 rfl (lv_at hl 3 rfl) ?_
      refine lv_bipush (v := 9) hx hb d_M_process_106 (by decide) ?_
      refine lv_icmp_ne (tgt := 118) hx hb d_M_process_108 (by decide) (fun hc => ?_) (fun hc => ?_)
      · rw [br_n _ hc] at hf
        refine lv_iload_n hx hb d_M_process_118 rfl (lv_at hl 4 rfl) ?_
        refine lv_if_eq (tgt := 140) hx hb d_M_process_119 (by decide) (fun hc => ?_) (fun hc => ?_)
        · rw [br_p _ hc] at hf
          refine lv_iconst (v := 0) hx hb d_M_process_140 (by decide) ?_
          refine lv_istore (lv' := [(5, .int 0), (4, .int t0), (0, .ref h0), (1, .int v1), (2, .int v2), (3, .int v3)]) hx hb d_M_process_141 hl (by decide) rfl (fun ls hl => ?_)
          refine lv_iconst (v := 0) hx hb d_M_process_143 (by decide) ?_
          refine lv_istore (lv' := [(6, .int 0), (5, .int 0), (4, .int t0), (0, .ref h0), (1, .int v1), (2, .int v2), (3, .int v3)]) hx hb d_M_process_144 hl (by decide) rfl (fun ls hl => ?_)
          exact hG _ _ _ _ _ _ _ hf H locs hP hD hS ls (lv_sub hl [3, 4, 5, 2, 1, 0] rfl)
        · rw [br_n _ hc] at hf
          refine lv_iload_n hx hb d_M_process_122 rfl (lv_at hl 3 rfl) ?_
          refine lv_bipush (v := 8) hx hb d_M_process_123 (by decide) ?_
          refine lv_icmp_eq (tgt := 134) hx hb d_M_process_125 (by decide) (fun hc => ?_) (fun hc => ?_)
          · rw [br_p _ hc] at hf
            exact wb_M_process_134 C0 hR N G hG _ _ hf H locs hP hD hS ls (lv_sub hl [] rfl)
          · rw [br_n _ hc] at hf
            refine lv_iload_n hx hb d_M_process_128 rfl (lv_at hl 3 rfl) ?_
            refine lv_bipush (v := 10) hx hb d_M_process_129 (by decide) ?_
            refine lv_icmp_ne (tgt := 138) hx hb d_M_process_131 (by decide) (fun hc => ?_) (fun hc => ?_)
            · rw [br_n _ hc] at hf
              refine lv_iconst (v := 0) hx hb d_M_process_138 (by decide) ?_
              exact wb_M_process_139 C0 hR N G hG _ _ _ hf H locs hP hD hS ls (lv_sub hl [] rfl)
            · rw [br_p _ hc] at hf
              exact wb_M_process_134 C0 hR N G hG _ _ hf H locs hP hD hS ls (lv_sub hl [] rfl)
      · rw [br_p _ hc] at hf
        refine lv_aload_n hx hb d_M_process_111 rfl (lv_at hl 1 rfl) ?_
        refine ug_R hx hb ht hown hM hK hP 114 (by decide) lk_M_114 (by decide) d_M_process_112 ?_
        refine lv_iload_n hx hb d_M_process_115 rfl (lv_at hl 2 rfl) ?_
        obtain ⟨hi9, hf⟩ := ck_some hf
        refine ul_I hx hb hK hP (by decide) (by decide) hi9 d_M_process_116 ?_
        exact mr_i C0 hP hD hS hf d_M_process_117
    · rw [br_p _ hc] at hf
      refine lv_aload_n hx hb d_M_process_98 rfl (lv_at hl 1 rfl) ?_
      refine ug_R hx hb ht hown hM hK hP 90 (by decide) lk_M_90 (by decide) d_M_process_99 ?_
      refine lv_iload_n hx hb d_M_process_102 rfl (lv_at hl 2 rfl) ?_
      obtain ⟨hi9, hf⟩ := ck_some hf
      refine ul_I hx hb hK hP (by decide) (by decide) hi9 d_M_process_103 ?_
      exact mr_i C0 hP hD hS hf d_M_process_104
  · rw [br_p _ hc] at hf
    refine lv_iload_n hx hb d_M_process_62 rfl (lv_at hl 4 rfl) ?_
    refine lv_if_eq (tgt := 70) hx hb d_M_process_63 (by decide) (fun hc => ?_) (fun hc => ?_)
    · rw [br_p _ hc] at hf
      refine lv_iload hx hb d_M_process_70 (lv_at hl 0 rfl) ?_
      refine lv_if_ne (tgt := 79) hx hb d_M_process_72 (by decide) (fun hc => ?_) (fun hc => ?_)
      · rw [br_n _ hc] at hf
        refine lv_aload_n hx hb d_M_process_79 rfl (lv_at hl 1 rfl) ?_
        refine lv_iload_n hx hb d_M_process_80 rfl (lv_at hl 2 rfl) ?_
        obtain ⟨u1, r1, hc1, hf⟩ := bnd_some hf
        refine mV_i (As := [.int v1]) (rest := []) C0 hP hD hS (c_M_mayGo N hM hc1) k_M_mayGo hl_M_mayGo hi_M_mayGo hs_M_mayGo hini_M rfl rfl hd_M_mayGo rfl (rm_M_process_M_mayGo hR) hl.1 (Nat.le_of_ble_eq_true rfl) d_M_process_81 rfl ⟨Nat.zero_le _, Nat.zero_le _⟩ (fun H locs hP hD hS => ?_)
        refine lv_if_eq (tgt := 91) hx hb d_M_process_84 (by decide) (fun hc => ?_) (fun hc => ?_)
        · rw [br_p _ hc] at hf
          refine lv_iconst (v := 1) hx hb d_M_process_91 (by decide) ?_
          exact wb_M_process_92 C0 hR N G hG _ _ _ hf H locs hP hD hS ls (lv_sub hl [] rfl)
        · rw [br_n _ hc] at hf
          refine lv_iconst (v := 2) hx hb d_M_process_87 (by decide) ?_
          refine lv_goto (tgt := 92) hx hb d_M_process_88 (by decide) ?_
          exact wb_M_process_92 C0 hR N G hG _ _ _ hf H locs hP hD hS ls (lv_sub hl [] rfl)
      · rw [br_p _ hc] at hf
        refine lv_iconst (v := 0) hx hb d_M_process_75 (by decide) ?_
        refine lv_goto (tgt := 92) hx hb d_M_process_76 (by decide) ?_
        exact wb_M_process_92 C0 hR N G hG _ _ _ hf H locs hP hD hS ls (lv_sub hl [] rfl)
    · rw [br_n _ hc] at hf
      refine lv_iconst (v := 3) hx hb d_M_process_66 (by decide) ?_
      refine lv_goto (tgt := 92) hx hb d_M_process_67 (by decide) ?_
      exact wb_M_process_92 C0 hR N G hG _ _ _ hf H locs hP hD hS ls (lv_sub hl [] rfl)
def fb_M_process_40 (N : Nat) (G : (MS → Int32 → Int32 → Int32 → Int32 → Int32 → Option (MS × Int32))) (u : MS) (v1 : Int32) (v2 : Int32) (t0 : Int32) : Option (MS × Int32) := ck (inb v1 (ln 109)) (br (decide ((u.2.2.1 109 v1.toNatClampNeg) = 1)) (fb_M_process_56 N G u (v1) (v2) (t0) (1)) (fb_M_process_56 N G u (v1) (v2) (t0) (0)))
set_option maxRecDepth 100000 in
set_option maxHeartbeats 4000000 in
theorem wb_M_process_40 {p : Program} {l : Launch} {e : Env} {R : Room} {s : State} {m : MethodId} {args : Array Value} {below : List Frame} {meth : Method} {c : Code} {D : va_G} {cl : List vw_C} {cB cI cJ cZ cS : ClassId} {A : Nat → Prop} {iM h0 : Nat} {ad : Nat → Nat} (C0 : MCx p s m args meth c b_M_process 7 (some .int) D cl cB cI cJ cZ cS iM A) (hR : R = rm_M_process) (N : Nat) (G : (MS → Int32 → Int32 → Int32 → Int32 → Int32 → Option (MS × Int32))) (hG : (∀ (u : MS) (v1 : Int32) (v2 : Int32) (v4 : Int32) (v5 : Int32) (v6 : Int32) (x : MS × Int32), G u v1 v2 v4 v5 v6 = some x → ∀ (H : Heap) (locs : List Loc), va_P D cl (wM cB cI cJ cZ cS iM h0 ad u) H → va_D A (wM cB cI cJ cZ cS iM h0 ad u) → va_S A s.heap H locs → ∀ (ls : Array Slot), lv_has ls 7 [(0, .ref h0), (1, .int v1), (2, .int v2), (4, .int v4), (5, .int v5), (6, .int v6)] → W p l e R s m args below meth c H locs 0 0 (MQ below (mQi D cl cB cI cJ cZ cS iM h0 ad A x) args s 0 0 A) (F0 m 146 ls []))) : ∀ (u : MS) (v1 : Int32) (v2 : Int32) (t0 : Int32) (x : MS × Int32), fb_M_process_40 N G u v1 v2 t0 = some x → ∀ (H : Heap) (locs : List Loc), va_P D cl (wM cB cI cJ cZ cS iM h0 ad u) H → va_D A (wM cB cI cJ cZ cS iM h0 ad u) → va_S A s.heap H locs → ∀ (ls : Array Slot), lv_has ls 7 [(0, .ref h0), (1, .int v1), (2, .int v2)] → W p l e R s m args below meth c H locs 0 0 (MQ below (mQi D cl cB cI cJ cZ cS iM h0 ad A x) args s 0 0 A) (F0 m 40 ls [.int t0]) := by
  intro u v1 v2 t0 x hf H locs hP hD hS ls hl
  obtain ⟨hx, hb, hr, hml, ht, hown, hM, hK, hA, hlocks⟩ := id C0
  unfold fb_M_process_40 at hf
  refine lv_istore_n (lv' := [(3, .int t0), (0, .ref h0), (1, .int v1), (2, .int v2)]) hx hb d_M_process_40 rfl hl (by decide) rfl (fun ls hl => ?_)
  refine lv_aload_n hx hb d_M_process_41 rfl (lv_at hl 1 rfl) ?_
  refine ug_R hx hb ht hown hM hK hP 109 (by decide) lk_M_109 (by decide) d_M_process_42 ?_
  refine lv_iload_n hx hb d_M_process_45 rfl (lv_at hl 2 rfl) ?_
  obtain ⟨hi9, hf⟩ := ck_some hf
  refine ul_I hx hb hK hP (by decide) (by decide) hi9 d_M_process_46 ?_
  refine lv_iconst (v := 1) hx hb d_M_process_47 (by decide) ?_
  refine lv_icmp_ne (tgt := 55) hx hb d_M_process_48 (by decide) (fun hc => ?_) (fun hc => ?_)
  · rw [br_n _ hc] at hf
    refine lv_iconst (v := 0) hx hb d_M_process_55 (by decide) ?_
    exact wb_M_process_56 C0 hR N G hG _ _ _ _ _ _ hf H locs hP hD hS ls (lv_sub hl [1, 2, 3, 0] rfl)
  · rw [br_p _ hc] at hf
    refine lv_iconst (v := 1) hx hb d_M_process_51 (by decide) ?_
    refine lv_goto (tgt := 56) hx hb d_M_process_52 (by decide) ?_
    exact wb_M_process_56 C0 hR N G hG _ _ _ _ _ _ hf H locs hP hD hS ls (lv_sub hl [1, 2, 3, 0] rfl)
def fb_M_process_23 (N : Nat) (G : (MS → Int32 → Int32 → Int32 → Int32 → Int32 → Option (MS × Int32))) (u : MS) : Option (MS × Int32) := some (u, (-1))
set_option maxRecDepth 100000 in
set_option maxHeartbeats 4000000 in
theorem wb_M_process_23 {p : Program} {l : Launch} {e : Env} {R : Room} {s : State} {m : MethodId} {args : Array Value} {below : List Frame} {meth : Method} {c : Code} {D : va_G} {cl : List vw_C} {cB cI cJ cZ cS : ClassId} {A : Nat → Prop} {iM h0 : Nat} {ad : Nat → Nat} (C0 : MCx p s m args meth c b_M_process 7 (some .int) D cl cB cI cJ cZ cS iM A) (hR : R = rm_M_process) (N : Nat) (G : (MS → Int32 → Int32 → Int32 → Int32 → Int32 → Option (MS × Int32))) (hG : (∀ (u : MS) (v1 : Int32) (v2 : Int32) (v4 : Int32) (v5 : Int32) (v6 : Int32) (x : MS × Int32), G u v1 v2 v4 v5 v6 = some x → ∀ (H : Heap) (locs : List Loc), va_P D cl (wM cB cI cJ cZ cS iM h0 ad u) H → va_D A (wM cB cI cJ cZ cS iM h0 ad u) → va_S A s.heap H locs → ∀ (ls : Array Slot), lv_has ls 7 [(0, .ref h0), (1, .int v1), (2, .int v2), (4, .int v4), (5, .int v5), (6, .int v6)] → W p l e R s m args below meth c H locs 0 0 (MQ below (mQi D cl cB cI cJ cZ cS iM h0 ad A x) args s 0 0 A) (F0 m 146 ls []))) : ∀ (u : MS) (x : MS × Int32), fb_M_process_23 N G u = some x → ∀ (H : Heap) (locs : List Loc), va_P D cl (wM cB cI cJ cZ cS iM h0 ad u) H → va_D A (wM cB cI cJ cZ cS iM h0 ad u) → va_S A s.heap H locs → ∀ (ls : Array Slot), lv_has ls 7 [] → W p l e R s m args below meth c H locs 0 0 (MQ below (mQi D cl cB cI cJ cZ cS iM h0 ad A x) args s 0 0 A) (F0 m 23 ls []) := by
  intro u x hf H locs hP hD hS ls hl
  obtain ⟨hx, hb, hr, hml, ht, hown, hM, hK, hA, hlocks⟩ := id C0
  unfold fb_M_process_23 at hf
  refine lv_iconst (v := (-1)) hx hb d_M_process_23 (by decide) ?_
  exact mr_i C0 hP hD hS hf d_M_process_24
def fb_M_process_0 (N : Nat) (G : (MS → Int32 → Int32 → Int32 → Int32 → Int32 → Option (MS × Int32))) (u : MS) (v1 : Int32) (v2 : Int32) : Option (MS × Int32) := lt (upI u 3 0) (fun w2 => bnd (fm_M_isProcess N w2 v1) (fun u3 r3 => br (decide (r3 = 0)) (fb_M_process_23 N G u3) (br (decide (v2 < 0)) (fb_M_process_23 N G u3) (br (decide (v2 ≤ 11)) (ck (inb v1 (ln 109)) (br (decide ((u3.2.2.1 109 v1.toNatClampNeg) = 3)) (fb_M_process_40 N G u3 (v1) (v2) (1)) (fb_M_process_40 N G u3 (v1) (v2) (0)))) (fb_M_process_23 N G u3)))))
set_option maxRecDepth 100000 in
set_option maxHeartbeats 4000000 in
theorem wb_M_process_0 {p : Program} {l : Launch} {e : Env} {R : Room} {s : State} {m : MethodId} {args : Array Value} {below : List Frame} {meth : Method} {c : Code} {D : va_G} {cl : List vw_C} {cB cI cJ cZ cS : ClassId} {A : Nat → Prop} {iM h0 : Nat} {ad : Nat → Nat} (C0 : MCx p s m args meth c b_M_process 7 (some .int) D cl cB cI cJ cZ cS iM A) (hR : R = rm_M_process) (N : Nat) (G : (MS → Int32 → Int32 → Int32 → Int32 → Int32 → Option (MS × Int32))) (hG : (∀ (u : MS) (v1 : Int32) (v2 : Int32) (v4 : Int32) (v5 : Int32) (v6 : Int32) (x : MS × Int32), G u v1 v2 v4 v5 v6 = some x → ∀ (H : Heap) (locs : List Loc), va_P D cl (wM cB cI cJ cZ cS iM h0 ad u) H → va_D A (wM cB cI cJ cZ cS iM h0 ad u) → va_S A s.heap H locs → ∀ (ls : Array Slot), lv_has ls 7 [(0, .ref h0), (1, .int v1), (2, .int v2), (4, .int v4), (5, .int v5), (6, .int v6)] → W p l e R s m args below meth c H locs 0 0 (MQ below (mQi D cl cB cI cJ cZ cS iM h0 ad A x) args s 0 0 A) (F0 m 146 ls []))) : ∀ (u : MS) (v1 : Int32) (v2 : Int32) (x : MS × Int32), fb_M_process_0 N G u v1 v2 = some x → ∀ (H : Heap) (locs : List Loc), va_P D cl (wM cB cI cJ cZ cS iM h0 ad u) H → va_D A (wM cB cI cJ cZ cS iM h0 ad u) → va_S A s.heap H locs → ∀ (ls : Array Slot), lv_has ls 7 [(0, .ref h0), (1, .int v1), (2, .int v2)] → W p l e R s m args below meth c H locs 0 0 (MQ below (mQi D cl cB cI cJ cZ cS iM h0 ad A x) args s 0 0 A) (F0 m 0 ls []) := by
  intro u v1 v2 x hf H locs hP hD hS ls hl
  obtain ⟨hx, hb, hr, hml, ht, hown, hM, hK, hA, hlocks⟩ := id C0
  unfold fb_M_process_0 at hf
  refine lv_aload_n hx hb d_M_process_0 rfl (lv_at hl 0 rfl) ?_
  refine lv_iconst (v := 0) hx hb d_M_process_1 (by decide) ?_
  refine up_I hx hb ht hown hM hK hP hD hS 3 (by decide) lk_M_3 (by decide) rfl rfl rfl d_M_process_2 (fun H locs hP hD hS => ?_)
  obtain ⟨w2, e2, hf⟩ := lt_some hf
  rw [← e2] at hP hD
  refine lv_aload_n hx hb d_M_process_5 rfl (lv_at hl 0 rfl) ?_
  refine lv_iload_n hx hb d_M_process_6 rfl (lv_at hl 1 rfl) ?_
  obtain ⟨u3, r3, hc3, hf⟩ := bnd_some hf
  refine mV_i (As := [.int v1]) (rest := []) C0 hP hD hS (c_M_isProcess N hM hc3) k_M_isProcess hl_M_isProcess hi_M_isProcess hs_M_isProcess hini_M rfl rfl hd_M_isProcess rfl (rm_M_process_M_isProcess hR) hl.1 (Nat.le_of_ble_eq_true rfl) d_M_process_7 rfl ⟨Nat.zero_le _, Nat.zero_le _⟩ (fun H locs hP hD hS => ?_)
  refine lv_if_eq (tgt := 23) hx hb d_M_process_10 (by decide) (fun hc => ?_) (fun hc => ?_)
  · rw [br_p _ hc] at hf
    exact wb_M_process_23 C0 hR N G hG _ _ hf H locs hP hD hS ls (lv_sub hl [] rfl)
  · rw [br_n _ hc] at hf
    refine lv_iload_n hx hb d_M_process_13 rfl (lv_at hl 2 rfl) ?_
    refine lv_if_lt (tgt := 23) hx hb d_M_process_14 (by decide) (fun hc => ?_) (fun hc => ?_)
    · rw [br_p _ hc] at hf
      exact wb_M_process_23 C0 hR N G hG _ _ hf H locs hP hD hS ls (lv_sub hl [] rfl)
    · rw [br_n _ hc] at hf
      refine lv_iload_n hx hb d_M_process_17 rfl (lv_at hl 2 rfl) ?_
      refine lv_bipush (v := 11) hx hb d_M_process_18 (by decide) ?_
      refine lv_icmp_le (tgt := 25) hx hb d_M_process_20 (by decide) (fun hc => ?_) (fun hc => ?_)
      · rw [br_p _ hc] at hf
        refine lv_aload_n hx hb d_M_process_25 rfl (lv_at hl 0 rfl) ?_
        refine ug_R hx hb ht hown hM hK hP 109 (by decide) lk_M_109 (by decide) d_M_process_26 ?_
        refine lv_iload_n hx hb d_M_process_29 rfl (lv_at hl 1 rfl) ?_
        obtain ⟨hi9, hf⟩ := ck_some hf
        refine ul_I hx hb hK hP (by decide) (by decide) hi9 d_M_process_30 ?_
        refine lv_iconst (v := 3) hx hb d_M_process_31 (by decide) ?_
        refine lv_icmp_ne (tgt := 39) hx hb d_M_process_32 (by decide) (fun hc => ?_) (fun hc => ?_)
        · rw [br_n _ hc] at hf
          refine lv_iconst (v := 0) hx hb d_M_process_39 (by decide) ?_
          exact wb_M_process_40 C0 hR N G hG _ _ _ _ _ hf H locs hP hD hS ls (lv_sub hl [0, 1, 2] rfl)
        · rw [br_p _ hc] at hf
          refine lv_iconst (v := 1) hx hb d_M_process_35 (by decide) ?_
          refine lv_goto (tgt := 40) hx hb d_M_process_36 (by decide) ?_
          exact wb_M_process_40 C0 hR N G hG _ _ _ _ _ hf H locs hP hD hS ls (lv_sub hl [0, 1, 2] rfl)
      · rw [br_n _ hc] at hf
        exact wb_M_process_23 C0 hR N G hG _ _ hf H locs hP hD hS ls (lv_sub hl [] rfl)
def gg_M_process (N : Nat) : Nat → ((MS → Int32 → Int32 → Int32 → Int32 → Int32 → Option (MS × Int32)))
  | 0 => fun _ _ _ _ _ _ => none
  | n + 1 => fb_M_process_146 N (gg_M_process N n)
theorem wg_M_process {p : Program} {l : Launch} {e : Env} {R : Room} {s : State} {m : MethodId} {args : Array Value} {below : List Frame} {meth : Method} {c : Code} {D : va_G} {cl : List vw_C} {cB cI cJ cZ cS : ClassId} {A : Nat → Prop} {iM h0 : Nat} {ad : Nat → Nat} (C0 : MCx p s m args meth c b_M_process 7 (some .int) D cl cB cI cJ cZ cS iM A) (hR : R = rm_M_process) (N : Nat) : ∀ n : Nat, (∀ (u : MS) (v1 : Int32) (v2 : Int32) (v4 : Int32) (v5 : Int32) (v6 : Int32) (x : MS × Int32), gg_M_process N n u v1 v2 v4 v5 v6 = some x → ∀ (H : Heap) (locs : List Loc), va_P D cl (wM cB cI cJ cZ cS iM h0 ad u) H → va_D A (wM cB cI cJ cZ cS iM h0 ad u) → va_S A s.heap H locs → ∀ (ls : Array Slot), lv_has ls 7 [(0, .ref h0), (1, .int v1), (2, .int v2), (4, .int v4), (5, .int v5), (6, .int v6)] → W p l e R s m args below meth c H locs 0 0 (MQ below (mQi D cl cB cI cJ cZ cS iM h0 ad A x) args s 0 0 A) (F0 m 146 ls []))
  | 0 => (fun u v1 v2 v4 v5 v6 x hf => by cases hf)
  | n + 1 => wb_M_process_146 C0 hR N (gg_M_process N n) (wg_M_process C0 hR N n)
def fm_M_process (N : Nat) (u : MS) (v1 : Int32) (v2 : Int32) : Option (MS × Int32) := fb_M_process_0 N (gg_M_process N N) u v1 v2
set_option maxRecDepth 100000 in
set_option maxHeartbeats 4000000 in
theorem c_M_process (N : Nat) {l : Launch} {D : va_G} {cl : List vw_C} {cB cI cJ cZ cS : ClassId} {iM h0 : Nat} {ad : Nat → Nat} {u : MS} {sz : Nat} {v1 : Int32} {v2 : Int32} {x : MS × Int32} (hM : cl[iM]? = some (R_M, F_M, 171)) (hf : fm_M_process N u v1 v2 = some x) : Met l y_M_process (wd_ws y_M_process b_M_process 7 (some .int)) rm_M_process (mPc D cl cB cI cJ cZ cS iM h0 ad u sz [.ref h0, .int v1, .int v2]) (mQi D cl cB cI cJ cZ cS iM h0 ad (mA cB cI cJ cZ cS iM h0 ad u sz) x) 0 0 (mA cB cI cJ cZ cS iM h0 ad u sz) :=
  mMet (by decide) rfl hM (Nat.le_of_ble_eq_true rfl) (fun p e s m below meth c ls hsz C0 hP hD hS hl => by
    have hR : rm_M_process = rm_M_process := rfl
    exact wb_M_process_0 C0 hR N (gg_M_process N N) (wg_M_process C0 hR N N) u _ _ x hf s.heap [] hP hD hS ls (lv_sub hl [0, 1, 2] rfl))
abbrev b_M_frame1 : ByteArray := prog_14_method_166_code
def y_M_frame1 : MethodName := ⟨R_M, "frame", "(III)I"⟩
def w_M_frame1 : List Cond := wd_ws y_M_frame1 b_M_frame1 8 (some .int)
set_option maxRecDepth 100000 in
theorem k_M_frame1 : Cond.code y_M_frame1 b_M_frame1 8 (some .int) ∈ wd_tbl := wd_of 3268 rfl rfl
theorem d_M_frame1_0 : decode b_M_frame1 0 = .ok (.aload_n 0, 1) := by decide +kernel
theorem d_M_frame1_1 : decode b_M_frame1 1 = .ok (.iconst 0, 1) := by decide +kernel
theorem d_M_frame1_2 : decode b_M_frame1 2 = .ok (.putfield 369, 3) := by decide +kernel
theorem d_M_frame1_5 : decode b_M_frame1 5 = .ok (.aload_n 0, 1) := by decide +kernel
theorem d_M_frame1_6 : decode b_M_frame1 6 = .ok (.iload_n 1, 1) := by decide +kernel
theorem d_M_frame1_7 : decode b_M_frame1 7 = .ok (.invokevirtual 880, 3) := by decide +kernel
theorem d_M_frame1_10 : decode b_M_frame1 10 = .ok (.ifCond .eq 36, 3) := by decide +kernel
theorem d_M_frame1_13 : decode b_M_frame1 13 = .ok (.aload_n 0, 1) := by decide +kernel
theorem d_M_frame1_14 : decode b_M_frame1 14 = .ok (.getfield 255, 3) := by decide +kernel
theorem d_M_frame1_17 : decode b_M_frame1 17 = .ok (.iload_n 1, 1) := by decide +kernel
theorem d_M_frame1_18 : decode b_M_frame1 18 = .ok (.iaload, 1) := by decide +kernel
theorem d_M_frame1_19 : decode b_M_frame1 19 = .ok (.iconst 3, 1) := by decide +kernel
theorem d_M_frame1_20 : decode b_M_frame1 20 = .ok (.if_icmp .eq 26, 3) := by decide +kernel
theorem d_M_frame1_23 : decode b_M_frame1 23 = .ok (.iload_n 2, 1) := by decide +kernel
theorem d_M_frame1_24 : decode b_M_frame1 24 = .ok (.ifCond .lt 22, 3) := by decide +kernel
theorem d_M_frame1_27 : decode b_M_frame1 27 = .ok (.iload_n 2, 1) := by decide +kernel
theorem d_M_frame1_28 : decode b_M_frame1 28 = .ok (.aload_n 0, 1) := by decide +kernel
theorem d_M_frame1_29 : decode b_M_frame1 29 = .ok (.getfield 212, 3) := by decide +kernel
theorem d_M_frame1_32 : decode b_M_frame1 32 = .ok (.iload_n 1, 1) := by decide +kernel
theorem d_M_frame1_33 : decode b_M_frame1 33 = .ok (.iaload, 1) := by decide +kernel
theorem d_M_frame1_34 : decode b_M_frame1 34 = .ok (.if_icmp .ge 12, 3) := by decide +kernel
theorem d_M_frame1_37 : decode b_M_frame1 37 = .ok (.iload_n 3, 1) := by decide +kernel
theorem d_M_frame1_38 : decode b_M_frame1 38 = .ok (.ifCond .lt 8, 3) := by decide +kernel
theorem d_M_frame1_41 : decode b_M_frame1 41 = .ok (.iload_n 3, 1) := by decide +kernel
theorem d_M_frame1_42 : decode b_M_frame1 42 = .ok (.iconst 3, 1) := by decide +kernel
theorem d_M_frame1_43 : decode b_M_frame1 43 = .ok (.if_icmp .le 5, 3) := by decide +kernel
theorem d_M_frame1_46 : decode b_M_frame1 46 = .ok (.iconst (-1), 1) := by decide +kernel
theorem d_M_frame1_47 : decode b_M_frame1 47 = .ok (.ireturn, 1) := by decide +kernel
theorem d_M_frame1_48 : decode b_M_frame1 48 = .ok (.aload_n 0, 1) := by decide +kernel
theorem d_M_frame1_49 : decode b_M_frame1 49 = .ok (.getfield 212, 3) := by decide +kernel
theorem d_M_frame1_52 : decode b_M_frame1 52 = .ok (.iload_n 1, 1) := by decide +kernel
theorem d_M_frame1_53 : decode b_M_frame1 53 = .ok (.iaload, 1) := by decide +kernel
theorem d_M_frame1_54 : decode b_M_frame1 54 = .ok (.iconst 1, 1) := by decide +kernel
theorem d_M_frame1_55 : decode b_M_frame1 55 = .ok (.isub, 1) := by decide +kernel
theorem d_M_frame1_56 : decode b_M_frame1 56 = .ok (.iload_n 2, 1) := by decide +kernel
theorem d_M_frame1_57 : decode b_M_frame1 57 = .ok (.isub, 1) := by decide +kernel
theorem d_M_frame1_58 : decode b_M_frame1 58 = .ok (.istore 4, 2) := by decide +kernel
theorem d_M_frame1_60 : decode b_M_frame1 60 = .ok (.iload_n 1, 1) := by decide +kernel
theorem d_M_frame1_61 : decode b_M_frame1 61 = .ok (.bipush 60, 2) := by decide +kernel
theorem d_M_frame1_63 : decode b_M_frame1 63 = .ok (.imul, 1) := by decide +kernel
theorem d_M_frame1_64 : decode b_M_frame1 64 = .ok (.iload 4, 2) := by decide +kernel
theorem d_M_frame1_66 : decode b_M_frame1 66 = .ok (.iadd, 1) := by decide +kernel
theorem d_M_frame1_67 : decode b_M_frame1 67 = .ok (.istore 5, 2) := by decide +kernel
theorem d_M_frame1_69 : decode b_M_frame1 69 = .ok (.iload_n 3, 1) := by decide +kernel
theorem d_M_frame1_70 : decode b_M_frame1 70 = .ok (.ifCond .ne 11, 3) := by decide +kernel
theorem d_M_frame1_73 : decode b_M_frame1 73 = .ok (.aload_n 0, 1) := by decide +kernel
theorem d_M_frame1_74 : decode b_M_frame1 74 = .ok (.getfield 215, 3) := by decide +kernel
theorem d_M_frame1_77 : decode b_M_frame1 77 = .ok (.iload 5, 2) := by decide +kernel
theorem d_M_frame1_79 : decode b_M_frame1 79 = .ok (.iaload, 1) := by decide +kernel
theorem d_M_frame1_80 : decode b_M_frame1 80 = .ok (.ireturn, 1) := by decide +kernel
theorem d_M_frame1_81 : decode b_M_frame1 81 = .ok (.iload_n 3, 1) := by decide +kernel
theorem d_M_frame1_82 : decode b_M_frame1 82 = .ok (.iconst 1, 1) := by decide +kernel
theorem d_M_frame1_83 : decode b_M_frame1 83 = .ok (.if_icmp .ne 36, 3) := by decide +kernel
theorem d_M_frame1_86 : decode b_M_frame1 86 = .ok (.aload_n 0, 1) := by decide +kernel
theorem d_M_frame1_87 : decode b_M_frame1 87 = .ok (.getfield 218, 3) := by decide +kernel
theorem d_M_frame1_90 : decode b_M_frame1 90 = .ok (.iload 5, 2) := by decide +kernel
theorem d_M_frame1_92 : decode b_M_frame1 92 = .ok (.iaload, 1) := by decide +kernel
theorem d_M_frame1_93 : decode b_M_frame1 93 = .ok (.iconst (-1), 1) := by decide +kernel
theorem d_M_frame1_94 : decode b_M_frame1 94 = .ok (.if_icmp .ne 7, 3) := by decide +kernel
theorem d_M_frame1_97 : decode b_M_frame1 97 = .ok (.iconst 0, 1) := by decide +kernel
theorem d_M_frame1_98 : decode b_M_frame1 98 = .ok (.goto 20, 3) := by decide +kernel
theorem d_M_frame1_101 : decode b_M_frame1 101 = .ok (.aload_n 0, 1) := by decide +kernel
theorem d_M_frame1_102 : decode b_M_frame1 102 = .ok (.getfield 29, 3) := by decide +kernel
theorem d_M_frame1_105 : decode b_M_frame1 105 = .ok (.aload_n 0, 1) := by decide +kernel
theorem d_M_frame1_106 : decode b_M_frame1 106 = .ok (.getfield 116, 3) := by decide +kernel
theorem d_M_frame1_109 : decode b_M_frame1 109 = .ok (.aload_n 0, 1) := by decide +kernel
theorem d_M_frame1_110 : decode b_M_frame1 110 = .ok (.getfield 218, 3) := by decide +kernel
theorem d_M_frame1_113 : decode b_M_frame1 113 = .ok (.iload 5, 2) := by decide +kernel
theorem d_M_frame1_115 : decode b_M_frame1 115 = .ok (.iaload, 1) := by decide +kernel
theorem d_M_frame1_116 : decode b_M_frame1 116 = .ok (.iaload, 1) := by decide +kernel
theorem d_M_frame1_117 : decode b_M_frame1 117 = .ok (.iaload, 1) := by decide +kernel
theorem d_M_frame1_118 : decode b_M_frame1 118 = .ok (.ireturn, 1) := by decide +kernel
theorem d_M_frame1_119 : decode b_M_frame1 119 = .ok (.iload_n 2, 1) := by decide +kernel
theorem d_M_frame1_120 : decode b_M_frame1 120 = .ok (.ifCond .ne 12, 3) := by decide +kernel
theorem d_M_frame1_123 : decode b_M_frame1 123 = .ok (.aload_n 0, 1) := by decide +kernel
theorem d_M_frame1_124 : decode b_M_frame1 124 = .ok (.getfield 209, 3) := by decide +kernel
theorem d_M_frame1_127 : decode b_M_frame1 127 = .ok (.iload_n 1, 1) := by decide +kernel
theorem d_M_frame1_128 : decode b_M_frame1 128 = .ok (.iaload, 1) := by decide +kernel
theorem d_M_frame1_129 : decode b_M_frame1 129 = .ok (.goto 12, 3) := by decide +kernel
theorem d_M_frame1_132 : decode b_M_frame1 132 = .ok (.aload_n 0, 1) := by decide +kernel
theorem d_M_frame1_133 : decode b_M_frame1 133 = .ok (.getfield 224, 3) := by decide +kernel
theorem d_M_frame1_136 : decode b_M_frame1 136 = .ok (.iload 5, 2) := by decide +kernel
theorem d_M_frame1_138 : decode b_M_frame1 138 = .ok (.iconst 1, 1) := by decide +kernel
theorem d_M_frame1_139 : decode b_M_frame1 139 = .ok (.iadd, 1) := by decide +kernel
theorem d_M_frame1_140 : decode b_M_frame1 140 = .ok (.iaload, 1) := by decide +kernel
theorem d_M_frame1_141 : decode b_M_frame1 141 = .ok (.istore 6, 2) := by decide +kernel
theorem d_M_frame1_143 : decode b_M_frame1 143 = .ok (.iload_n 2, 1) := by decide +kernel
theorem d_M_frame1_144 : decode b_M_frame1 144 = .ok (.ifCond .ne 12, 3) := by decide +kernel
theorem d_M_frame1_147 : decode b_M_frame1 147 = .ok (.aload_n 0, 1) := by decide +kernel
theorem d_M_frame1_148 : decode b_M_frame1 148 = .ok (.getfield 202, 3) := by decide +kernel
theorem d_M_frame1_151 : decode b_M_frame1 151 = .ok (.iload_n 1, 1) := by decide +kernel
theorem d_M_frame1_152 : decode b_M_frame1 152 = .ok (.iaload, 1) := by decide +kernel
theorem d_M_frame1_153 : decode b_M_frame1 153 = .ok (.goto 12, 3) := by decide +kernel
theorem d_M_frame1_156 : decode b_M_frame1 156 = .ok (.aload_n 0, 1) := by decide +kernel
theorem d_M_frame1_157 : decode b_M_frame1 157 = .ok (.getfield 227, 3) := by decide +kernel
theorem d_M_frame1_160 : decode b_M_frame1 160 = .ok (.iload 5, 2) := by decide +kernel
theorem d_M_frame1_162 : decode b_M_frame1 162 = .ok (.iconst 1, 1) := by decide +kernel
theorem d_M_frame1_163 : decode b_M_frame1 163 = .ok (.iadd, 1) := by decide +kernel
theorem d_M_frame1_164 : decode b_M_frame1 164 = .ok (.iaload, 1) := by decide +kernel
theorem d_M_frame1_165 : decode b_M_frame1 165 = .ok (.istore 7, 2) := by decide +kernel
theorem d_M_frame1_167 : decode b_M_frame1 167 = .ok (.iload_n 3, 1) := by decide +kernel
theorem d_M_frame1_168 : decode b_M_frame1 168 = .ok (.iconst 2, 1) := by decide +kernel
theorem d_M_frame1_169 : decode b_M_frame1 169 = .ok (.if_icmp .ne 16, 3) := by decide +kernel
theorem d_M_frame1_172 : decode b_M_frame1 172 = .ok (.iload 6, 2) := by decide +kernel
theorem d_M_frame1_174 : decode b_M_frame1 174 = .ok (.aload_n 0, 1) := by decide +kernel
theorem d_M_frame1_175 : decode b_M_frame1 175 = .ok (.getfield 224, 3) := by decide +kernel
theorem d_M_frame1_178 : decode b_M_frame1 178 = .ok (.iload 5, 2) := by decide +kernel
theorem d_M_frame1_180 : decode b_M_frame1 180 = .ok (.iaload, 1) := by decide +kernel
theorem d_M_frame1_181 : decode b_M_frame1 181 = .ok (.isub, 1) := by decide +kernel
theorem d_M_frame1_182 : decode b_M_frame1 182 = .ok (.goto 13, 3) := by decide +kernel
theorem d_M_frame1_185 : decode b_M_frame1 185 = .ok (.iload 7, 2) := by decide +kernel
theorem d_M_frame1_187 : decode b_M_frame1 187 = .ok (.aload_n 0, 1) := by decide +kernel
theorem d_M_frame1_188 : decode b_M_frame1 188 = .ok (.getfield 227, 3) := by decide +kernel
theorem d_M_frame1_191 : decode b_M_frame1 191 = .ok (.iload 5, 2) := by decide +kernel
theorem d_M_frame1_193 : decode b_M_frame1 193 = .ok (.iaload, 1) := by decide +kernel
theorem d_M_frame1_194 : decode b_M_frame1 194 = .ok (.isub, 1) := by decide +kernel
theorem d_M_frame1_195 : decode b_M_frame1 195 = .ok (.ireturn, 1) := by decide +kernel
def rm_M_frame1 : Room := { frames := 1, cells := 0, slots := 0, locals := 21 }
theorem rm_M_frame1_M_isProcess {R : Room} (hR : R = rm_M_frame1) : (rm_M_isProcess).frames + 1 ≤ R.frames ∧ 8 + (2 + 11) + (rm_M_isProcess).locals ≤ R.locals := by subst hR; decide
def fb_M_frame1_195 (N : Nat) (G : Unit) (u : MS) (t0 : Int32) : Option (MS × Int32) := some (u, t0)
set_option maxRecDepth 100000 in
set_option maxHeartbeats 4000000 in
theorem wb_M_frame1_195 {p : Program} {l : Launch} {e : Env} {R : Room} {s : State} {m : MethodId} {args : Array Value} {below : List Frame} {meth : Method} {c : Code} {D : va_G} {cl : List vw_C} {cB cI cJ cZ cS : ClassId} {A : Nat → Prop} {iM h0 : Nat} {ad : Nat → Nat} (C0 : MCx p s m args meth c b_M_frame1 8 (some .int) D cl cB cI cJ cZ cS iM A) (hR : R = rm_M_frame1) (N : Nat) (G : Unit) (hG : True) : ∀ (u : MS) (t0 : Int32) (x : MS × Int32), fb_M_frame1_195 N G u t0 = some x → ∀ (H : Heap) (locs : List Loc), va_P D cl (wM cB cI cJ cZ cS iM h0 ad u) H → va_D A (wM cB cI cJ cZ cS iM h0 ad u) → va_S A s.heap H locs → ∀ (ls : Array Slot), lv_has ls 8 [] → W p l e R s m args below meth c H locs 0 0 (MQ below (mQi D cl cB cI cJ cZ cS iM h0 ad A x) args s 0 0 A) (F0 m 195 ls [.int t0]) := by
  intro u t0 x hf H locs hP hD hS ls hl
  obtain ⟨hx, hb, hr, hml, ht, hown, hM, hK, hA, hlocks⟩ := id C0
  unfold fb_M_frame1_195 at hf
  exact mr_i C0 hP hD hS hf d_M_frame1_195
def fb_M_frame1_165 (N : Nat) (G : Unit) (u : MS) (v3 : Int32) (v5 : Int32) (v6 : Int32) (t0 : Int32) : Option (MS × Int32) := br (decide (v3 = 2)) (ck (inb v5 (ln 99)) (fb_M_frame1_195 N G u ((v6 - (u.2.2.1 99 v5.toNatClampNeg))))) (ck (inb v5 (ln 100)) (fb_M_frame1_195 N G u ((t0 - (u.2.2.1 100 v5.toNatClampNeg)))))
set_option maxRecDepth 100000 in
set_option maxHeartbeats 4000000 in
theorem wb_M_frame1_165 {p : Program} {l : Launch} {e : Env} {R : Room} {s : State} {m : MethodId} {args : Array Value} {below : List Frame} {meth : Method} {c : Code} {D : va_G} {cl : List vw_C} {cB cI cJ cZ cS : ClassId} {A : Nat → Prop} {iM h0 : Nat} {ad : Nat → Nat} (C0 : MCx p s m args meth c b_M_frame1 8 (some .int) D cl cB cI cJ cZ cS iM A) (hR : R = rm_M_frame1) (N : Nat) (G : Unit) (hG : True) : ∀ (u : MS) (v3 : Int32) (v5 : Int32) (v6 : Int32) (t0 : Int32) (x : MS × Int32), fb_M_frame1_165 N G u v3 v5 v6 t0 = some x → ∀ (H : Heap) (locs : List Loc), va_P D cl (wM cB cI cJ cZ cS iM h0 ad u) H → va_D A (wM cB cI cJ cZ cS iM h0 ad u) → va_S A s.heap H locs → ∀ (ls : Array Slot), lv_has ls 8 [(0, .ref h0), (3, .int v3), (5, .int v5), (6, .int v6)] → W p l e R s m args below meth c H locs 0 0 (MQ below (mQi D cl cB cI cJ cZ cS iM h0 ad A x) args s 0 0 A) (F0 m 165 ls [.int t0]) := by
  intro u v3 v5 v6 t0 x hf H locs hP hD hS ls hl
  obtain ⟨hx, hb, hr, hml, ht, hown, hM, hK, hA, hlocks⟩ := id C0
  unfold fb_M_frame1_165 at hf
  refine lv_istore (lv' := [(7, .int t0), (0, .ref h0), (3, .int v3), (5, .int v5), (6, .int v6)]) hx hb d_M_frame1_165 hl (by decide) rfl (fun ls hl => ?_)
  refine lv_iload_n hx hb d_M_frame1_167 rfl (lv_at hl 2 rfl) ?_
  refine lv_iconst (v := 2) hx hb d_M_frame1_168 (by decide) ?_
  refine lv_icmp_ne (tgt := 185) hx hb d_M_frame1_169 (by decide) (fun hc => ?_) (fun hc => ?_)
  · rw [br_n _ hc] at hf
    refine lv_iload hx hb d_M_frame1_185 (lv_at hl 0 rfl) ?_
    refine lv_aload_n hx hb d_M_frame1_187 rfl (lv_at hl 1 rfl) ?_
    refine ug_R hx hb ht hown hM hK hP 100 (by decide) lk_M_100 (by decide) d_M_frame1_188 ?_
    refine lv_iload hx hb d_M_frame1_191 (lv_at hl 3 rfl) ?_
    obtain ⟨hi9, hf⟩ := ck_some hf
    refine ul_I hx hb hK hP (by decide) (by decide) hi9 d_M_frame1_193 ?_
    refine lv_isub hx hb d_M_frame1_194 ?_
    exact wb_M_frame1_195 C0 hR N G hG _ _ _ hf H locs hP hD hS ls (lv_sub hl [] rfl)
  · rw [br_p _ hc] at hf
    refine lv_iload hx hb d_M_frame1_172 (lv_at hl 4 rfl) ?_
    refine lv_aload_n hx hb d_M_frame1_174 rfl (lv_at hl 1 rfl) ?_
    refine ug_R hx hb ht hown hM hK hP 99 (by decide) lk_M_99 (by decide) d_M_frame1_175 ?_
    refine lv_iload hx hb d_M_frame1_178 (lv_at hl 3 rfl) ?_
    obtain ⟨hi9, hf⟩ := ck_some hf
    refine ul_I hx hb hK hP (by decide) (by decide) hi9 d_M_frame1_180 ?_
    refine lv_isub hx hb d_M_frame1_181 ?_
    refine lv_goto (tgt := 195) hx hb d_M_frame1_182 (by decide) ?_
    exact wb_M_frame1_195 C0 hR N G hG _ _ _ hf H locs hP hD hS ls (lv_sub hl [] rfl)
def fb_M_frame1_141 (N : Nat) (G : Unit) (u : MS) (v1 : Int32) (v2 : Int32) (v3 : Int32) (v5 : Int32) (t0 : Int32) : Option (MS × Int32) := br (decide (v2 = 0)) (ck (inb v1 (ln 92)) (fb_M_frame1_165 N G u (v3) (v5) (t0) ((u.2.2.1 92 v1.toNatClampNeg)))) (ck (inb (v5 + 1) (ln 100)) (fb_M_frame1_165 N G u (v3) (v5) (t0) ((u.2.2.1 100 (v5 + 1).toNatClampNeg))))
set_option maxRecDepth 100000 in
set_option maxHeartbeats 4000000 in
theorem wb_M_frame1_141 {p : Program} {l : Launch} {e : Env} {R : Room} {s : State} {m : MethodId} {args : Array Value} {below : List Frame} {meth : Method} {c : Code} {D : va_G} {cl : List vw_C} {cB cI cJ cZ cS : ClassId} {A : Nat → Prop} {iM h0 : Nat} {ad : Nat → Nat} (C0 : MCx p s m args meth c b_M_frame1 8 (some .int) D cl cB cI cJ cZ cS iM A) (hR : R = rm_M_frame1) (N : Nat) (G : Unit) (hG : True) : ∀ (u : MS) (v1 : Int32) (v2 : Int32) (v3 : Int32) (v5 : Int32) (t0 : Int32) (x : MS × Int32), fb_M_frame1_141 N G u v1 v2 v3 v5 t0 = some x → ∀ (H : Heap) (locs : List Loc), va_P D cl (wM cB cI cJ cZ cS iM h0 ad u) H → va_D A (wM cB cI cJ cZ cS iM h0 ad u) → va_S A s.heap H locs → ∀ (ls : Array Slot), lv_has ls 8 [(0, .ref h0), (1, .int v1), (2, .int v2), (3, .int v3), (5, .int v5)] → W p l e R s m args below meth c H locs 0 0 (MQ below (mQi D cl cB cI cJ cZ cS iM h0 ad A x) args s 0 0 A) (F0 m 141 ls [.int t0]) := by
  intro u v1 v2 v3 v5 t0 x hf H locs hP hD hS ls hl
  obtain ⟨hx, hb, hr, hml, ht, hown, hM, hK, hA, hlocks⟩ := id C0
  unfold fb_M_frame1_141 at hf
  refine lv_istore (lv' := [(6, .int t0), (0, .ref h0), (1, .int v1), (2, .int v2), (3, .int v3), (5, .int v5)]) hx hb d_M_frame1_141 hl (by decide) rfl (fun ls hl => ?_)
  refine lv_iload_n hx hb d_M_frame1_143 rfl (lv_at hl 3 rfl) ?_
  refine lv_if_ne (tgt := 156) hx hb d_M_frame1_144 (by decide) (fun hc => ?_) (fun hc => ?_)
  · rw [br_n _ hc] at hf
    refine lv_aload_n hx hb d_M_frame1_156 rfl (lv_at hl 1 rfl) ?_
    refine ug_R hx hb ht hown hM hK hP 100 (by decide) lk_M_100 (by decide) d_M_frame1_157 ?_
    refine lv_iload hx hb d_M_frame1_160 (lv_at hl 5 rfl) ?_
    refine lv_iconst (v := 1) hx hb d_M_frame1_162 (by decide) ?_
    refine lv_iadd hx hb d_M_frame1_163 ?_
    obtain ⟨hi9, hf⟩ := ck_some hf
    refine ul_I hx hb hK hP (by decide) (by decide) hi9 d_M_frame1_164 ?_
    exact wb_M_frame1_165 C0 hR N G hG _ _ _ _ _ _ hf H locs hP hD hS ls (lv_sub hl [1, 4, 5, 0] rfl)
  · rw [br_p _ hc] at hf
    refine lv_aload_n hx hb d_M_frame1_147 rfl (lv_at hl 1 rfl) ?_
    refine ug_R hx hb ht hown hM hK hP 92 (by decide) lk_M_92 (by decide) d_M_frame1_148 ?_
    refine lv_iload_n hx hb d_M_frame1_151 rfl (lv_at hl 2 rfl) ?_
    obtain ⟨hi9, hf⟩ := ck_some hf
    refine ul_I hx hb hK hP (by decide) (by decide) hi9 d_M_frame1_152 ?_
    refine lv_goto (tgt := 165) hx hb d_M_frame1_153 (by decide) ?_
    exact wb_M_frame1_165 C0 hR N G hG _ _ _ _ _ _ hf H locs hP hD hS ls (lv_sub hl [1, 4, 5, 0] rfl)
def fb_M_frame1_118 (N : Nat) (G : Unit) (u : MS) (t0 : Int32) : Option (MS × Int32) := some (u, t0)
set_option maxRecDepth 100000 in
set_option maxHeartbeats 4000000 in
theorem wb_M_frame1_118 {p : Program} {l : Launch} {e : Env} {R : Room} {s : State} {m : MethodId} {args : Array Value} {below : List Frame} {meth : Method} {c : Code} {D : va_G} {cl : List vw_C} {cB cI cJ cZ cS : ClassId} {A : Nat → Prop} {iM h0 : Nat} {ad : Nat → Nat} (C0 : MCx p s m args meth c b_M_frame1 8 (some .int) D cl cB cI cJ cZ cS iM A) (hR : R = rm_M_frame1) (N : Nat) (G : Unit) (hG : True) : ∀ (u : MS) (t0 : Int32) (x : MS × Int32), fb_M_frame1_118 N G u t0 = some x → ∀ (H : Heap) (locs : List Loc), va_P D cl (wM cB cI cJ cZ cS iM h0 ad u) H → va_D A (wM cB cI cJ cZ cS iM h0 ad u) → va_S A s.heap H locs → ∀ (ls : Array Slot), lv_has ls 8 [] → W p l e R s m args below meth c H locs 0 0 (MQ below (mQi D cl cB cI cJ cZ cS iM h0 ad A x) args s 0 0 A) (F0 m 118 ls [.int t0]) := by
  intro u t0 x hf H locs hP hD hS ls hl
  obtain ⟨hx, hb, hr, hml, ht, hown, hM, hK, hA, hlocks⟩ := id C0
  unfold fb_M_frame1_118 at hf
  exact mr_i C0 hP hD hS hf d_M_frame1_118
def fb_M_frame1_46 (N : Nat) (G : Unit) (u : MS) : Option (MS × Int32) := some (u, (-1))
set_option maxRecDepth 100000 in
set_option maxHeartbeats 4000000 in
theorem wb_M_frame1_46 {p : Program} {l : Launch} {e : Env} {R : Room} {s : State} {m : MethodId} {args : Array Value} {below : List Frame} {meth : Method} {c : Code} {D : va_G} {cl : List vw_C} {cB cI cJ cZ cS : ClassId} {A : Nat → Prop} {iM h0 : Nat} {ad : Nat → Nat} (C0 : MCx p s m args meth c b_M_frame1 8 (some .int) D cl cB cI cJ cZ cS iM A) (hR : R = rm_M_frame1) (N : Nat) (G : Unit) (hG : True) : ∀ (u : MS) (x : MS × Int32), fb_M_frame1_46 N G u = some x → ∀ (H : Heap) (locs : List Loc), va_P D cl (wM cB cI cJ cZ cS iM h0 ad u) H → va_D A (wM cB cI cJ cZ cS iM h0 ad u) → va_S A s.heap H locs → ∀ (ls : Array Slot), lv_has ls 8 [] → W p l e R s m args below meth c H locs 0 0 (MQ below (mQi D cl cB cI cJ cZ cS iM h0 ad A x) args s 0 0 A) (F0 m 46 ls []) := by
  intro u x hf H locs hP hD hS ls hl
  obtain ⟨hx, hb, hr, hml, ht, hown, hM, hK, hA, hlocks⟩ := id C0
  unfold fb_M_frame1_46 at hf
  refine lv_iconst (v := (-1)) hx hb d_M_frame1_46 (by decide) ?_
  exact mr_i C0 hP hD hS hf d_M_frame1_47
def fb_M_frame1_0 (N : Nat) (G : Unit) (u : MS) (v1 : Int32) (v2 : Int32) (v3 : Int32) : Option (MS × Int32) := lt (upI u 3 0) (fun w1 => bnd (fm_M_isProcess N w1 v1) (fun u2 r2 => br (decide (r2 = 0)) (fb_M_frame1_46 N G u2) (ck (inb v1 (ln 109)) (br (decide ((u2.2.2.1 109 v1.toNatClampNeg) = 3)) (fb_M_frame1_46 N G u2) (br (decide (v2 < 0)) (fb_M_frame1_46 N G u2) (ck (inb v1 (ln 95)) (br (decide ((u2.2.2.1 95 v1.toNatClampNeg) ≤ v2)) (fb_M_frame1_46 N G u2) (br (decide (v3 < 0)) (fb_M_frame1_46 N G u2) (br (decide (v3 ≤ 3)) (ck (inb v1 (ln 95)) (lt (((u2.2.2.1 95 v1.toNatClampNeg) - 1) - v2) (fun y3 => br (decide (v3 = 0)) (ck (inb ((v1 * 60) + y3) (ln 96)) (some (u2, (u2.2.2.1 96 ((v1 * 60) + y3).toNatClampNeg)))) (br (decide (v3 = 1)) (ck (inb ((v1 * 60) + y3) (ln 97)) (br (decide ((u2.2.2.1 97 ((v1 * 60) + y3).toNatClampNeg) = (-1))) (fb_M_frame1_118 N G u2 (0)) (ck (inb ((v1 * 60) + y3) (ln 97)) (ck (inb (u2.2.2.1 97 ((v1 * 60) + y3).toNatClampNeg) (ln 44)) (ck (inb (u2.2.2.1 44 (u2.2.2.1 97 ((v1 * 60) + y3).toNatClampNeg).toNatClampNeg) (ln 8)) (fb_M_frame1_118 N G u2 ((u2.2.2.1 8 (u2.2.2.1 44 (u2.2.2.1 97 ((v1 * 60) + y3).toNatClampNeg).toNatClampNeg).toNatClampNeg)))))))) (br (decide (v2 = 0)) (ck (inb v1 (ln 94)) (fb_M_frame1_141 N G u2 (v1) (v2) (v3) (((v1 * 60) + y3)) ((u2.2.2.1 94 v1.toNatClampNeg)))) (ck (inb (((v1 * 60) + y3) + 1) (ln 99)) (fb_M_frame1_141 N G u2 (v1) (v2) (v3) (((v1 * 60) + y3)) ((u2.2.2.1 99 (((v1 * 60) + y3) + 1).toNatClampNeg))))))))) (fb_M_frame1_46 N G u2))))))))))
set_option maxRecDepth 100000 in
set_option maxHeartbeats 4000000 in
theorem wb_M_frame1_0 {p : Program} {l : Launch} {e : Env} {R : Room} {s : State} {m : MethodId} {args : Array Value} {below : List Frame} {meth : Method} {c : Code} {D : va_G} {cl : List vw_C} {cB cI cJ cZ cS : ClassId} {A : Nat → Prop} {iM h0 : Nat} {ad : Nat → Nat} (C0 : MCx p s m args meth c b_M_frame1 8 (some .int) D cl cB cI cJ cZ cS iM A) (hR : R = rm_M_frame1) (N : Nat) (G : Unit) (hG : True) : ∀ (u : MS) (v1 : Int32) (v2 : Int32) (v3 : Int32) (x : MS × Int32), fb_M_frame1_0 N G u v1 v2 v3 = some x → ∀ (H : Heap) (locs : List Loc), va_P D cl (wM cB cI cJ cZ cS iM h0 ad u) H → va_D A (wM cB cI cJ cZ cS iM h0 ad u) → va_S A s.heap H locs → ∀ (ls : Array Slot), lv_has ls 8 [(0, .ref h0), (1, .int v1), (2, .int v2), (3, .int v3)] → W p l e R s m args below meth c H locs 0 0 (MQ below (mQi D cl cB cI cJ cZ cS iM h0 ad A x) args s 0 0 A) (F0 m 0 ls []) := by
  intro u v1 v2 v3 x hf H locs hP hD hS ls hl
  obtain ⟨hx, hb, hr, hml, ht, hown, hM, hK, hA, hlocks⟩ := id C0
  unfold fb_M_frame1_0 at hf
  refine lv_aload_n hx hb d_M_frame1_0 rfl (lv_at hl 0 rfl) ?_
  refine lv_iconst (v := 0) hx hb d_M_frame1_1 (by decide) ?_
  refine up_I hx hb ht hown hM hK hP hD hS 3 (by decide) lk_M_3 (by decide) rfl rfl rfl d_M_frame1_2 (fun H locs hP hD hS => ?_)
  obtain ⟨w1, e1, hf⟩ := lt_some hf
  rw [← e1] at hP hD
  refine lv_aload_n hx hb d_M_frame1_5 rfl (lv_at hl 0 rfl) ?_
  refine lv_iload_n hx hb d_M_frame1_6 rfl (lv_at hl 1 rfl) ?_
  obtain ⟨u2, r2, hc2, hf⟩ := bnd_some hf
  refine mV_i (As := [.int v1]) (rest := []) C0 hP hD hS (c_M_isProcess N hM hc2) k_M_isProcess hl_M_isProcess hi_M_isProcess hs_M_isProcess hini_M rfl rfl hd_M_isProcess rfl (rm_M_frame1_M_isProcess hR) hl.1 (Nat.le_of_ble_eq_true rfl) d_M_frame1_7 rfl ⟨Nat.zero_le _, Nat.zero_le _⟩ (fun H locs hP hD hS => ?_)
  refine lv_if_eq (tgt := 46) hx hb d_M_frame1_10 (by decide) (fun hc => ?_) (fun hc => ?_)
  · rw [br_p _ hc] at hf
    exact wb_M_frame1_46 C0 hR N G hG _ _ hf H locs hP hD hS ls (lv_sub hl [] rfl)
  · rw [br_n _ hc] at hf
    refine lv_aload_n hx hb d_M_frame1_13 rfl (lv_at hl 0 rfl) ?_
    refine ug_R hx hb ht hown hM hK hP 109 (by decide) lk_M_109 (by decide) d_M_frame1_14 ?_
    refine lv_iload_n hx hb d_M_frame1_17 rfl (lv_at hl 1 rfl) ?_
    obtain ⟨hi9, hf⟩ := ck_some hf
    refine ul_I hx hb hK hP (by decide) (by decide) hi9 d_M_frame1_18 ?_
    refine lv_iconst (v := 3) hx hb d_M_frame1_19 (by decide) ?_
    refine lv_icmp_eq (tgt := 46) hx hb d_M_frame1_20 (by decide) (fun hc => ?_) (fun hc => ?_)
    · rw [br_p _ hc] at hf
      exact wb_M_frame1_46 C0 hR N G hG _ _ hf H locs hP hD hS ls (lv_sub hl [] rfl)
    · rw [br_n _ hc] at hf
      refine lv_iload_n hx hb d_M_frame1_23 rfl (lv_at hl 2 rfl) ?_
      refine lv_if_lt (tgt := 46) hx hb d_M_frame1_24 (by decide) (fun hc => ?_) (fun hc => ?_)
      · rw [br_p _ hc] at hf
        exact wb_M_frame1_46 C0 hR N G hG _ _ hf H locs hP hD hS ls (lv_sub hl [] rfl)
      · rw [br_n _ hc] at hf
        refine lv_iload_n hx hb d_M_frame1_27 rfl (lv_at hl 2 rfl) ?_
        refine lv_aload_n hx hb d_M_frame1_28 rfl (lv_at hl 0 rfl) ?_
        refine ug_R hx hb ht hown hM hK hP 95 (by decide) lk_M_95 (by decide) d_M_frame1_29 ?_
        refine lv_iload_n hx hb d_M_frame1_32 rfl (lv_at hl 1 rfl) ?_
        obtain ⟨hi9, hf⟩ := ck_some hf
        refine ul_I hx hb hK hP (by decide) (by decide) hi9 d_M_frame1_33 ?_
        refine lv_icmp_ge (tgt := 46) hx hb d_M_frame1_34 (by decide) (fun hc => ?_) (fun hc => ?_)
        · rw [br_p _ hc] at hf
          exact wb_M_frame1_46 C0 hR N G hG _ _ hf H locs hP hD hS ls (lv_sub hl [] rfl)
        · rw [br_n _ hc] at hf
          refine lv_iload_n hx hb d_M_frame1_37 rfl (lv_at hl 3 rfl) ?_
          refine lv_if_lt (tgt := 46) hx hb d_M_frame1_38 (by decide) (fun hc => ?_) (fun hc => ?_)
          · rw [br_p _ hc] at hf
            exact wb_M_frame1_46 C0 hR N G hG _ _ hf H locs hP hD hS ls (lv_sub hl [] rfl)
          · rw [br_n _ hc] at hf
            refine lv_iload_n hx hb d_M_frame1_41 rfl (lv_at hl 3 rfl) ?_
            refine lv_iconst (v := 3) hx hb d_M_frame1_42 (by decide) ?_
            refine lv_icmp_le (tgt := 48) hx hb d_M_frame1_43 (by decide) (fun hc => ?_) (fun hc => ?_)
            · rw [br_p _ hc] at hf
              refine lv_aload_n hx hb d_M_frame1_48 rfl (lv_at hl 0 rfl) ?_
              refine ug_R hx hb ht hown hM hK hP 95 (by decide) lk_M_95 (by decide) d_M_frame1_49 ?_
              refine lv_iload_n hx hb d_M_frame1_52 rfl (lv_at hl 1 rfl) ?_
              obtain ⟨hi9, hf⟩ := ck_some hf
              refine ul_I hx hb hK hP (by decide) (by decide) hi9 d_M_frame1_53 ?_
              refine lv_iconst (v := 1) hx hb d_M_frame1_54 (by decide) ?_
              refine lv_isub hx hb d_M_frame1_55 ?_
              refine lv_iload_n hx hb d_M_frame1_56 rfl (lv_at hl 2 rfl) ?_
              refine lv_isub hx hb d_M_frame1_57 ?_
              obtain ⟨y3, e3, hf⟩ := lt_some hf
              rw [← e3]
              refine lv_istore (lv' := [(4, .int y3), (0, .ref h0), (1, .int v1), (2, .int v2), (3, .int v3)]) hx hb d_M_frame1_58 hl (by decide) rfl (fun ls hl => ?_)
              refine lv_iload_n hx hb d_M_frame1_60 rfl (lv_at hl 2 rfl) ?_
              refine lv_bipush (v := 60) hx hb d_M_frame1_61 (by decide) ?_
              refine lv_imul hx hb d_M_frame1_63 ?_
              refine lv_iload hx hb d_M_frame1_64 (lv_at hl 0 rfl) ?_
              refine lv_iadd hx hb d_M_frame1_66 ?_
              refine lv_istore (lv' := [(5, .int ((v1 * 60) + y3)), (4, .int y3), (0, .ref h0), (1, .int v1), (2, .int v2), (3, .int v3)]) hx hb d_M_frame1_67 hl (by decide) rfl (fun ls hl => ?_)
              refine lv_iload_n hx hb d_M_frame1_69 rfl (lv_at hl 5 rfl) ?_
              refine lv_if_ne (tgt := 81) hx hb d_M_frame1_70 (by decide) (fun hc => ?_) (fun hc => ?_)
              · rw [br_n _ hc] at hf
                refine lv_iload_n hx hb d_M_frame1_81 rfl (lv_at hl 5 rfl) ?_
                refine lv_iconst (v := 1) hx hb d_M_frame1_82 (by decide) ?_
                refine lv_icmp_ne (tgt := 119) hx hb d_M_frame1_83 (by decide) (fun hc => ?_) (fun hc => ?_)
                · rw [br_n _ hc] at hf
                  refine lv_iload_n hx hb d_M_frame1_119 rfl (lv_at hl 4 rfl) ?_
                  refine lv_if_ne (tgt := 132) hx hb d_M_frame1_120 (by decide) (fun hc => ?_) (fun hc => ?_)
                  · rw [br_n _ hc] at hf
                    refine lv_aload_n hx hb d_M_frame1_132 rfl (lv_at hl 2 rfl) ?_
                    refine ug_R hx hb ht hown hM hK hP 99 (by decide) lk_M_99 (by decide) d_M_frame1_133 ?_
                    refine lv_iload hx hb d_M_frame1_136 (lv_at hl 0 rfl) ?_
                    refine lv_iconst (v := 1) hx hb d_M_frame1_138 (by decide) ?_
                    refine lv_iadd hx hb d_M_frame1_139 ?_
                    obtain ⟨hi9, hf⟩ := ck_some hf
                    refine ul_I hx hb hK hP (by decide) (by decide) hi9 d_M_frame1_140 ?_
                    exact wb_M_frame1_141 C0 hR N G hG _ _ _ _ _ _ _ hf H locs hP hD hS ls (lv_sub hl [2, 3, 4, 5, 0] rfl)
                  · rw [br_p _ hc] at hf
                    refine lv_aload_n hx hb d_M_frame1_123 rfl (lv_at hl 2 rfl) ?_
                    refine ug_R hx hb ht hown hM hK hP 94 (by decide) lk_M_94 (by decide) d_M_frame1_124 ?_
                    refine lv_iload_n hx hb d_M_frame1_127 rfl (lv_at hl 3 rfl) ?_
                    obtain ⟨hi9, hf⟩ := ck_some hf
                    refine ul_I hx hb hK hP (by decide) (by decide) hi9 d_M_frame1_128 ?_
                    refine lv_goto (tgt := 141) hx hb d_M_frame1_129 (by decide) ?_
                    exact wb_M_frame1_141 C0 hR N G hG _ _ _ _ _ _ _ hf H locs hP hD hS ls (lv_sub hl [2, 3, 4, 5, 0] rfl)
                · rw [br_p _ hc] at hf
                  refine lv_aload_n hx hb d_M_frame1_86 rfl (lv_at hl 2 rfl) ?_
                  refine ug_R hx hb ht hown hM hK hP 97 (by decide) lk_M_97 (by decide) d_M_frame1_87 ?_
                  refine lv_iload hx hb d_M_frame1_90 (lv_at hl 0 rfl) ?_
                  obtain ⟨hi9, hf⟩ := ck_some hf
                  refine ul_I hx hb hK hP (by decide) (by decide) hi9 d_M_frame1_92 ?_
                  refine lv_iconst (v := (-1)) hx hb d_M_frame1_93 (by decide) ?_
                  refine lv_icmp_ne (tgt := 101) hx hb d_M_frame1_94 (by decide) (fun hc => ?_) (fun hc => ?_)
                  · rw [br_n _ hc] at hf
                    refine lv_aload_n hx hb d_M_frame1_101 rfl (lv_at hl 2 rfl) ?_
                    refine ug_R hx hb ht hown hM hK hP 8 (by decide) lk_M_8 (by decide) d_M_frame1_102 ?_
                    refine lv_aload_n hx hb d_M_frame1_105 rfl (lv_at hl 2 rfl) ?_
                    refine ug_R hx hb ht hown hM hK hP 44 (by decide) lk_M_44 (by decide) d_M_frame1_106 ?_
                    refine lv_aload_n hx hb d_M_frame1_109 rfl (lv_at hl 2 rfl) ?_
                    refine ug_R hx hb ht hown hM hK hP 97 (by decide) lk_M_97 (by decide) d_M_frame1_110 ?_
                    refine lv_iload hx hb d_M_frame1_113 (lv_at hl 0 rfl) ?_
                    obtain ⟨hi9, hf⟩ := ck_some hf
                    refine ul_I hx hb hK hP (by decide) (by decide) hi9 d_M_frame1_115 ?_
                    obtain ⟨hi9, hf⟩ := ck_some hf
                    refine ul_I hx hb hK hP (by decide) (by decide) hi9 d_M_frame1_116 ?_
                    obtain ⟨hi9, hf⟩ := ck_some hf
                    refine ul_I hx hb hK hP (by decide) (by decide) hi9 d_M_frame1_117 ?_
                    exact wb_M_frame1_118 C0 hR N G hG _ _ _ hf H locs hP hD hS ls (lv_sub hl [] rfl)
                  · rw [br_p _ hc] at hf
                    refine lv_iconst (v := 0) hx hb d_M_frame1_97 (by decide) ?_
                    refine lv_goto (tgt := 118) hx hb d_M_frame1_98 (by decide) ?_
                    exact wb_M_frame1_118 C0 hR N G hG _ _ _ hf H locs hP hD hS ls (lv_sub hl [] rfl)
              · rw [br_p _ hc] at hf
                refine lv_aload_n hx hb d_M_frame1_73 rfl (lv_at hl 2 rfl) ?_
                refine ug_R hx hb ht hown hM hK hP 96 (by decide) lk_M_96 (by decide) d_M_frame1_74 ?_
                refine lv_iload hx hb d_M_frame1_77 (lv_at hl 0 rfl) ?_
                obtain ⟨hi9, hf⟩ := ck_some hf
                refine ul_I hx hb hK hP (by decide) (by decide) hi9 d_M_frame1_79 ?_
                exact mr_i C0 hP hD hS hf d_M_frame1_80
            · rw [br_n _ hc] at hf
              exact wb_M_frame1_46 C0 hR N G hG _ _ hf H locs hP hD hS ls (lv_sub hl [] rfl)
def fm_M_frame1 (N : Nat) (u : MS) (v1 : Int32) (v2 : Int32) (v3 : Int32) : Option (MS × Int32) := fb_M_frame1_0 N () u v1 v2 v3
set_option maxRecDepth 100000 in
set_option maxHeartbeats 4000000 in
theorem c_M_frame1 (N : Nat) {l : Launch} {D : va_G} {cl : List vw_C} {cB cI cJ cZ cS : ClassId} {iM h0 : Nat} {ad : Nat → Nat} {u : MS} {sz : Nat} {v1 : Int32} {v2 : Int32} {v3 : Int32} {x : MS × Int32} (hM : cl[iM]? = some (R_M, F_M, 171)) (hf : fm_M_frame1 N u v1 v2 v3 = some x) : Met l y_M_frame1 (wd_ws y_M_frame1 b_M_frame1 8 (some .int)) rm_M_frame1 (mPc D cl cB cI cJ cZ cS iM h0 ad u sz [.ref h0, .int v1, .int v2, .int v3]) (mQi D cl cB cI cJ cZ cS iM h0 ad (mA cB cI cJ cZ cS iM h0 ad u sz) x) 0 0 (mA cB cI cJ cZ cS iM h0 ad u sz) :=
  mMet (by decide) rfl hM (Nat.le_of_ble_eq_true rfl) (fun p e s m below meth c ls hsz C0 hP hD hS hl => by
    have hR : rm_M_frame1 = rm_M_frame1 := rfl
    exact wb_M_frame1_0 C0 hR N () trivial u _ _ _ x hf s.heap [] hP hD hS ls (lv_sub hl [0, 1, 2, 3] rfl))
