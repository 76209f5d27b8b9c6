abbrev b_M_link : ByteArray := prog_14_method_167_code
def y_M_link : MethodName := ⟨R_M, "link", "(II)I"⟩
def w_M_link : List Cond := wd_ws y_M_link b_M_link 3 (some .int)
set_option maxRecDepth 100000 in
theorem k_M_link : Cond.code y_M_link b_M_link 3 (some .int) ∈ wd_tbl := wd_of 3272 rfl rfl
theorem d_M_link_0 : decode b_M_link 0 = .ok (.aload_n 0, 1) := by decide +kernel
theorem d_M_link_1 : decode b_M_link 1 = .ok (.iconst 0, 1) := by decide +kernel
theorem d_M_link_2 : decode b_M_link 2 = .ok (.putfield 369, 3) := by decide +kernel
theorem d_M_link_5 : decode b_M_link 5 = .ok (.aload_n 0, 1) := by decide +kernel
theorem d_M_link_6 : decode b_M_link 6 = .ok (.iload_n 1, 1) := by decide +kernel
theorem d_M_link_7 : decode b_M_link 7 = .ok (.invokevirtual 880, 3) := by decide +kernel
theorem d_M_link_10 : decode b_M_link 10 = .ok (.ifCond .eq 17, 3) := by decide +kernel
theorem d_M_link_13 : decode b_M_link 13 = .ok (.iload_n 2, 1) := by decide +kernel
theorem d_M_link_14 : decode b_M_link 14 = .ok (.ifCond .lt 13, 3) := by decide +kernel
theorem d_M_link_17 : decode b_M_link 17 = .ok (.iload_n 2, 1) := by decide +kernel
theorem d_M_link_18 : decode b_M_link 18 = .ok (.aload_n 0, 1) := by decide +kernel
theorem d_M_link_19 : decode b_M_link 19 = .ok (.getfield 279, 3) := by decide +kernel
theorem d_M_link_22 : decode b_M_link 22 = .ok (.iload_n 1, 1) := by decide +kernel
theorem d_M_link_23 : decode b_M_link 23 = .ok (.iaload, 1) := by decide +kernel
theorem d_M_link_24 : decode b_M_link 24 = .ok (.if_icmp .lt 7, 3) := by decide +kernel
theorem d_M_link_27 : decode b_M_link 27 = .ok (.iconst (-1), 1) := by decide +kernel
theorem d_M_link_28 : decode b_M_link 28 = .ok (.goto 14, 3) := by decide +kernel
theorem d_M_link_31 : decode b_M_link 31 = .ok (.aload_n 0, 1) := by decide +kernel
theorem d_M_link_32 : decode b_M_link 32 = .ok (.getfield 276, 3) := by decide +kernel
theorem d_M_link_35 : decode b_M_link 35 = .ok (.bipush 24, 2) := by decide +kernel
theorem d_M_link_37 : decode b_M_link 37 = .ok (.iload_n 1, 1) := by decide +kernel
theorem d_M_link_38 : decode b_M_link 38 = .ok (.imul, 1) := by decide +kernel
theorem d_M_link_39 : decode b_M_link 39 = .ok (.iload_n 2, 1) := by decide +kernel
theorem d_M_link_40 : decode b_M_link 40 = .ok (.iadd, 1) := by decide +kernel
theorem d_M_link_41 : decode b_M_link 41 = .ok (.iaload, 1) := by decide +kernel
theorem d_M_link_42 : decode b_M_link 42 = .ok (.ireturn, 1) := by decide +kernel
def rm_M_link : Room := { frames := 1, cells := 0, slots := 0, locals := 21 }
theorem rm_M_link_M_isProcess {R : Room} (hR : R = rm_M_link) : (rm_M_isProcess).frames + 1 ≤ R.frames ∧ 8 + (2 + 11) + (rm_M_isProcess).locals ≤ R.locals := by subst hR; decide
def fb_M_link_42 (N : Nat) (G : Unit) (u : MS) (t0 : Int32) : Option (MS × Int32) := some (u, t0)
set_option maxRecDepth 100000 in
set_option maxHeartbeats 4000000 in
theorem wb_M_link_42 {p : Program} {l : Launch} {e : Env} {R : Room} {s : State} {m : MethodId} {args : Array Value} {below : List Frame} {meth : Method} {c : Code} {D : va_G} {cl : List vw_C} {cB cI cJ cZ cS : ClassId} {A : Nat → Prop} {iM h0 : Nat} {ad : Nat → Nat} (C0 : MCx p s m args meth c b_M_link 3 (some .int) D cl cB cI cJ cZ cS iM A) (hR : R = rm_M_link) (N : Nat) (G : Unit) (hG : True) : ∀ (u : MS) (t0 : Int32) (x : MS × Int32), fb_M_link_42 N G u t0 = some x → ∀ (H : Heap) (locs : List Loc), va_P D cl (wM cB cI cJ cZ cS iM h0 ad u) H → va_D A (wM cB cI cJ cZ cS iM h0 ad u) → va_S A s.heap H locs → ∀ (ls : Array Slot), lv_has ls 3 [] → W p l e R s m args below meth c H locs 0 0 (MQ below (mQi D cl cB cI cJ cZ cS iM h0 ad A x) args s 0 0 A) (F0 m 42 ls [.int t0]) := by
  intro u t0 x hf H locs hP hD hS ls hl
  obtain ⟨hx, hb, hr, hml, ht, hown, hM, hK, hA, hlocks⟩ := id C0
  unfold fb_M_link_42 at hf
  exact mr_i C0 hP hD hS hf d_M_link_42
def fb_M_link_27 (N : Nat) (G : Unit) (u : MS) : Option (MS × Int32) := fb_M_link_42 N G u ((-1))
set_option maxRecDepth 100000 in
set_option maxHeartbeats 4000000 in
theorem wb_M_link_27 {p : Program} {l : Launch} {e : Env} {R : Room} {s : State} {m : MethodId} {args : Array Value} {below : List Frame} {meth : Method} {c : Code} {D : va_G} {cl : List vw_C} {cB cI cJ cZ cS : ClassId} {A : Nat → Prop} {iM h0 : Nat} {ad : Nat → Nat} (C0 : MCx p s m args meth c b_M_link 3 (some .int) D cl cB cI cJ cZ cS iM A) (hR : R = rm_M_link) (N : Nat) (G : Unit) (hG : True) : ∀ (u : MS) (x : MS × Int32), fb_M_link_27 N G u = some x → ∀ (H : Heap) (locs : List Loc), va_P D cl (wM cB cI cJ cZ cS iM h0 ad u) H → va_D A (wM cB cI cJ cZ cS iM h0 ad u) → va_S A s.heap H locs → ∀ (ls : Array Slot), lv_has ls 3 [] → W p l e R s m args below meth c H locs 0 0 (MQ below (mQi D cl cB cI cJ cZ cS iM h0 ad A x) args s 0 0 A) (F0 m 27 ls []) := by
  intro u x hf H locs hP hD hS ls hl
  obtain ⟨hx, hb, hr, hml, ht, hown, hM, hK, hA, hlocks⟩ := id C0
  unfold fb_M_link_27 at hf
  refine lv_iconst (v := (-1)) hx hb d_M_link_27 (by decide) ?_
  refine lv_goto (tgt := 42) hx hb d_M_link_28 (by decide) ?_
  exact wb_M_link_42 C0 hR N G hG _ _ _ hf H locs hP hD hS ls (lv_sub hl [] rfl)
def fb_M_link_0 (N : Nat) (G : Unit) (u : MS) (v1 : Int32) (v2 : Int32) : Option (MS × Int32) := lt (upI u 3 0) (fun w1 => bnd (fm_M_isProcess N w1 v1) (fun u2 r2 => br (decide (r2 = 0)) (fb_M_link_27 N G u2) (br (decide (v2 < 0)) (fb_M_link_27 N G u2) (ck (inb v1 (ln 117)) (br (decide (v2 < (u2.2.2.1 117 v1.toNatClampNeg))) (ck (inb ((24 * v1) + v2) (ln 116)) (fb_M_link_42 N G u2 ((u2.2.2.1 116 ((24 * v1) + v2).toNatClampNeg)))) (fb_M_link_27 N G u2))))))
set_option maxRecDepth 100000 in
set_option maxHeartbeats 4000000 in
theorem wb_M_link_0 {p : Program} {l : Launch} {e : Env} {R : Room} {s : State} {m : MethodId} {args : Array Value} {below : List Frame} {meth : Method} {c : Code} {D : va_G} {cl : List vw_C} {cB cI cJ cZ cS : ClassId} {A : Nat → Prop} {iM h0 : Nat} {ad : Nat → Nat} (C0 : MCx p s m args meth c b_M_link 3 (some .int) D cl cB cI cJ cZ cS iM A) (hR : R = rm_M_link) (N : Nat) (G : Unit) (hG : True) : ∀ (u : MS) (v1 : Int32) (v2 : Int32) (x : MS × Int32), fb_M_link_0 N G u v1 v2 = some x → ∀ (H : Heap) (locs : List Loc), va_P D cl (wM cB cI cJ cZ cS iM h0 ad u) H → va_D A (wM cB cI cJ cZ cS iM h0 ad u) → va_S A s.heap H locs → ∀ (ls : Array Slot), lv_has ls 3 [(0, .ref h0), (1, .int v1), (2, .int v2)] → W p l e R s m args below meth c H locs 0 0 (MQ below (mQi D cl cB cI cJ cZ cS iM h0 ad A x) args s 0 0 A) (F0 m 0 ls []) := by
  intro u v1 v2 x hf H locs hP hD hS ls hl
  obtain ⟨hx, hb, hr, hml, ht, hown, hM, hK, hA, hlocks⟩ := id C0
  unfold fb_M_link_0 at hf
  refine lv_aload_n hx hb d_M_link_0 rfl (lv_at hl 0 rfl) ?_
  refine lv_iconst (v := 0) hx hb d_M_link_1 (by decide) ?_
  refine up_I hx hb ht hown hM hK hP hD hS 3 (by decide) lk_M_3 (by decide) rfl rfl rfl d_M_link_2 (fun H locs hP hD hS => ?_)
  obtain ⟨w1, e1, hf⟩ := lt_some hf
  rw [← e1] at hP hD
  refine lv_aload_n hx hb d_M_link_5 rfl (lv_at hl 0 rfl) ?_
  refine lv_iload_n hx hb d_M_link_6 rfl (lv_at hl 1 rfl) ?_
  obtain ⟨u2, r2, hc2, hf⟩ := bnd_some hf
  refine mV_i (As := [.int v1]) (rest := []) C0 hP hD hS (c_M_isProcess N hM hc2) k_M_isProcess hl_M_isProcess hi_M_isProcess hs_M_isProcess hini_M rfl rfl hd_M_isProcess rfl (rm_M_link_M_isProcess hR) hl.1 (Nat.le_of_ble_eq_true rfl) d_M_link_7 rfl ⟨Nat.zero_le _, Nat.zero_le _⟩ (fun H locs hP hD hS => ?_)
  refine lv_if_eq (tgt := 27) hx hb d_M_link_10 (by decide) (fun hc => ?_) (fun hc => ?_)
  · rw [br_p _ hc] at hf
    exact wb_M_link_27 C0 hR N G hG _ _ hf H locs hP hD hS ls (lv_sub hl [] rfl)
  · rw [br_n _ hc] at hf
    refine lv_iload_n hx hb d_M_link_13 rfl (lv_at hl 2 rfl) ?_
    refine lv_if_lt (tgt := 27) hx hb d_M_link_14 (by decide) (fun hc => ?_) (fun hc => ?_)
    · rw [br_p _ hc] at hf
      exact wb_M_link_27 C0 hR N G hG _ _ hf H locs hP hD hS ls (lv_sub hl [] rfl)
    · rw [br_n _ hc] at hf
      refine lv_iload_n hx hb d_M_link_17 rfl (lv_at hl 2 rfl) ?_
      refine lv_aload_n hx hb d_M_link_18 rfl (lv_at hl 0 rfl) ?_
      refine ug_R hx hb ht hown hM hK hP 117 (by decide) lk_M_117 (by decide) d_M_link_19 ?_
      refine lv_iload_n hx hb d_M_link_22 rfl (lv_at hl 1 rfl) ?_
      obtain ⟨hi9, hf⟩ := ck_some hf
      refine ul_I hx hb hK hP (by decide) (by decide) hi9 d_M_link_23 ?_
      refine lv_icmp_lt (tgt := 31) hx hb d_M_link_24 (by decide) (fun hc => ?_) (fun hc => ?_)
      · rw [br_p _ hc] at hf
        refine lv_aload_n hx hb d_M_link_31 rfl (lv_at hl 0 rfl) ?_
        refine ug_R hx hb ht hown hM hK hP 116 (by decide) lk_M_116 (by decide) d_M_link_32 ?_
        refine lv_bipush (v := 24) hx hb d_M_link_35 (by decide) ?_
        refine lv_iload_n hx hb d_M_link_37 rfl (lv_at hl 1 rfl) ?_
        refine lv_imul hx hb d_M_link_38 ?_
        refine lv_iload_n hx hb d_M_link_39 rfl (lv_at hl 2 rfl) ?_
        refine lv_iadd hx hb d_M_link_40 ?_
        obtain ⟨hi9, hf⟩ := ck_some hf
        refine ul_I hx hb hK hP (by decide) (by decide) hi9 d_M_link_41 ?_
        exact wb_M_link_42 C0 hR N G hG _ _ _ hf H locs hP hD hS ls (lv_sub hl [] rfl)
      · rw [br_n _ hc] at hf
        exact wb_M_link_27 C0 hR N G hG _ _ hf H locs hP hD hS ls (lv_sub hl [] rfl)
def fm_M_link (N : Nat) (u : MS) (v1 : Int32) (v2 : Int32) : Option (MS × Int32) := fb_M_link_0 N () u v1 v2
set_option maxRecDepth 100000 in
set_option maxHeartbeats 4000000 in
theorem c_M_link (N : Nat) {l : Launch} {D : va_G} {cl : List vw_C} {cB cI cJ cZ cS : ClassId} {iM h0 : Nat} {ad : Nat → Nat} {u : MS} {sz : Nat} {v1 : Int32} {v2 : Int32} {x : MS × Int32} (hM : cl[iM]? = some (R_M, F_M, 171)) (hf : fm_M_link N u v1 v2 = some x) : Met l y_M_link (wd_ws y_M_link b_M_link 3 (some .int)) rm_M_link (mPc D cl cB cI cJ cZ cS iM h0 ad u sz [.ref h0, .int v1, .int v2]) (mQi D cl cB cI cJ cZ cS iM h0 ad (mA cB cI cJ cZ cS iM h0 ad u sz) x) 0 0 (mA cB cI cJ cZ cS iM h0 ad u sz) :=
  mMet (by decide) rfl hM (Nat.le_of_ble_eq_true rfl) (fun p e s m below meth c ls hsz C0 hP hD hS hl => by
    have hR : rm_M_link = rm_M_link := rfl
    exact wb_M_link_0 C0 hR N () trivial u _ _ x hf s.heap [] hP hD hS ls (lv_sub hl [0, 1, 2] rfl))
abbrev b_M_show : ByteArray := prog_14_method_168_code
def y_M_show : MethodName := ⟨R_M, "show", "(III)I"⟩
def w_M_show : List Cond := wd_ws y_M_show b_M_show 7 (some .int)
set_option maxRecDepth 100000 in
theorem k_M_show : Cond.code y_M_show b_M_show 7 (some .int) ∈ wd_tbl := wd_of 3276 rfl rfl
theorem d_M_show_0 : decode b_M_show 0 = .ok (.aload_n 0, 1) := by decide +kernel
theorem d_M_show_1 : decode b_M_show 1 = .ok (.iconst 0, 1) := by decide +kernel
theorem d_M_show_2 : decode b_M_show 2 = .ok (.putfield 369, 3) := by decide +kernel
theorem d_M_show_5 : decode b_M_show 5 = .ok (.aload_n 0, 1) := by decide +kernel
theorem d_M_show_6 : decode b_M_show 6 = .ok (.iload_n 1, 1) := by decide +kernel
theorem d_M_show_7 : decode b_M_show 7 = .ok (.invokevirtual 880, 3) := by decide +kernel
theorem d_M_show_10 : decode b_M_show 10 = .ok (.ifCond .eq 7, 3) := by decide +kernel
theorem d_M_show_13 : decode b_M_show 13 = .ok (.iload_n 3, 1) := by decide +kernel
theorem d_M_show_14 : decode b_M_show 14 = .ok (.ifCond .ge 5, 3) := by decide +kernel
theorem d_M_show_17 : decode b_M_show 17 = .ok (.iconst (-1), 1) := by decide +kernel
theorem d_M_show_18 : decode b_M_show 18 = .ok (.ireturn, 1) := by decide +kernel
theorem d_M_show_19 : decode b_M_show 19 = .ok (.iload_n 2, 1) := by decide +kernel
theorem d_M_show_20 : decode b_M_show 20 = .ok (.iconst 3, 1) := by decide +kernel
theorem d_M_show_21 : decode b_M_show 21 = .ok (.if_icmp .ne 73, 3) := by decide +kernel
theorem d_M_show_24 : decode b_M_show 24 = .ok (.aload_n 0, 1) := by decide +kernel
theorem d_M_show_25 : decode b_M_show 25 = .ok (.getfield 255, 3) := by decide +kernel
theorem d_M_show_28 : decode b_M_show 28 = .ok (.iload_n 1, 1) := by decide +kernel
theorem d_M_show_29 : decode b_M_show 29 = .ok (.iaload, 1) := by decide +kernel
theorem d_M_show_30 : decode b_M_show 30 = .ok (.iconst 3, 1) := by decide +kernel
theorem d_M_show_31 : decode b_M_show 31 = .ok (.if_icmp .ne 7, 3) := by decide +kernel
theorem d_M_show_34 : decode b_M_show 34 = .ok (.iload_n 3, 1) := by decide +kernel
theorem d_M_show_35 : decode b_M_show 35 = .ok (.ifCond .le 5, 3) := by decide +kernel
theorem d_M_show_38 : decode b_M_show 38 = .ok (.iconst (-1), 1) := by decide +kernel
theorem d_M_show_39 : decode b_M_show 39 = .ok (.ireturn, 1) := by decide +kernel
theorem d_M_show_40 : decode b_M_show 40 = .ok (.iconst 0, 1) := by decide +kernel
theorem d_M_show_41 : decode b_M_show 41 = .ok (.istore 4, 2) := by decide +kernel
theorem d_M_show_43 : decode b_M_show 43 = .ok (.iload 4, 2) := by decide +kernel
theorem d_M_show_45 : decode b_M_show 45 = .ok (.aload_n 0, 1) := by decide +kernel
theorem d_M_show_46 : decode b_M_show 46 = .ok (.getfield 303, 3) := by decide +kernel
theorem d_M_show_49 : decode b_M_show 49 = .ok (.iload_n 1, 1) := by decide +kernel
theorem d_M_show_50 : decode b_M_show 50 = .ok (.iaload, 1) := by decide +kernel
theorem d_M_show_51 : decode b_M_show 51 = .ok (.if_icmp .ge 28, 3) := by decide +kernel
theorem d_M_show_54 : decode b_M_show 54 = .ok (.aload_n 0, 1) := by decide +kernel
theorem d_M_show_55 : decode b_M_show 55 = .ok (.getfield 297, 3) := by decide +kernel
theorem d_M_show_58 : decode b_M_show 58 = .ok (.iload 4, 2) := by decide +kernel
theorem d_M_show_60 : decode b_M_show 60 = .ok (.aload_n 0, 1) := by decide +kernel
theorem d_M_show_61 : decode b_M_show 61 = .ok (.getfield 300, 3) := by decide +kernel
theorem d_M_show_64 : decode b_M_show 64 = .ok (.bipush 100, 2) := by decide +kernel
theorem d_M_show_66 : decode b_M_show 66 = .ok (.iload_n 1, 1) := by decide +kernel
theorem d_M_show_67 : decode b_M_show 67 = .ok (.imul, 1) := by decide +kernel
theorem d_M_show_68 : decode b_M_show 68 = .ok (.iload 4, 2) := by decide +kernel
theorem d_M_show_70 : decode b_M_show 70 = .ok (.iadd, 1) := by decide +kernel
theorem d_M_show_71 : decode b_M_show 71 = .ok (.baload, 1) := by decide +kernel
theorem d_M_show_72 : decode b_M_show 72 = .ok (.bastore, 1) := by decide +kernel
theorem d_M_show_73 : decode b_M_show 73 = .ok (.iinc 4 1, 3) := by decide +kernel
theorem d_M_show_76 : decode b_M_show 76 = .ok (.goto (-33), 3) := by decide +kernel
theorem d_M_show_79 : decode b_M_show 79 = .ok (.aload_n 0, 1) := by decide +kernel
theorem d_M_show_80 : decode b_M_show 80 = .ok (.aload_n 0, 1) := by decide +kernel
theorem d_M_show_81 : decode b_M_show 81 = .ok (.getfield 303, 3) := by decide +kernel
theorem d_M_show_84 : decode b_M_show 84 = .ok (.iload_n 1, 1) := by decide +kernel
theorem d_M_show_85 : decode b_M_show 85 = .ok (.iaload, 1) := by decide +kernel
theorem d_M_show_86 : decode b_M_show 86 = .ok (.putfield 1032, 3) := by decide +kernel
theorem d_M_show_89 : decode b_M_show 89 = .ok (.aload_n 0, 1) := by decide +kernel
theorem d_M_show_90 : decode b_M_show 90 = .ok (.getfield 1032, 3) := by decide +kernel
theorem d_M_show_93 : decode b_M_show 93 = .ok (.ireturn, 1) := by decide +kernel
theorem d_M_show_94 : decode b_M_show 94 = .ok (.aload_n 0, 1) := by decide +kernel
theorem d_M_show_95 : decode b_M_show 95 = .ok (.getfield 255, 3) := by decide +kernel
theorem d_M_show_98 : decode b_M_show 98 = .ok (.iload_n 1, 1) := by decide +kernel
theorem d_M_show_99 : decode b_M_show 99 = .ok (.iaload, 1) := by decide +kernel
theorem d_M_show_100 : decode b_M_show 100 = .ok (.iconst 3, 1) := by decide +kernel
theorem d_M_show_101 : decode b_M_show 101 = .ok (.if_icmp .eq 12, 3) := by decide +kernel
theorem d_M_show_104 : decode b_M_show 104 = .ok (.iload_n 2, 1) := by decide +kernel
theorem d_M_show_105 : decode b_M_show 105 = .ok (.ifCond .lt 8, 3) := by decide +kernel
theorem d_M_show_108 : decode b_M_show 108 = .ok (.iload_n 2, 1) := by decide +kernel
theorem d_M_show_109 : decode b_M_show 109 = .ok (.iconst 3, 1) := by decide +kernel
theorem d_M_show_110 : decode b_M_show 110 = .ok (.if_icmp .le 5, 3) := by decide +kernel
theorem d_M_show_113 : decode b_M_show 113 = .ok (.iconst (-1), 1) := by decide +kernel
theorem d_M_show_114 : decode b_M_show 114 = .ok (.ireturn, 1) := by decide +kernel
theorem d_M_show_115 : decode b_M_show 115 = .ok (.iload_n 1, 1) := by decide +kernel
theorem d_M_show_116 : decode b_M_show 116 = .ok (.bipush 60, 2) := by decide +kernel
theorem d_M_show_118 : decode b_M_show 118 = .ok (.imul, 1) := by decide +kernel
theorem d_M_show_119 : decode b_M_show 119 = .ok (.aload_n 0, 1) := by decide +kernel
theorem d_M_show_120 : decode b_M_show 120 = .ok (.getfield 212, 3) := by decide +kernel
theorem d_M_show_123 : decode b_M_show 123 = .ok (.iload_n 1, 1) := by decide +kernel
theorem d_M_show_124 : decode b_M_show 124 = .ok (.iaload, 1) := by decide +kernel
theorem d_M_show_125 : decode b_M_show 125 = .ok (.iadd, 1) := by decide +kernel
theorem d_M_show_126 : decode b_M_show 126 = .ok (.iconst 1, 1) := by decide +kernel
theorem d_M_show_127 : decode b_M_show 127 = .ok (.isub, 1) := by decide +kernel
theorem d_M_show_128 : decode b_M_show 128 = .ok (.istore 4, 2) := by decide +kernel
theorem d_M_show_130 : decode b_M_show 130 = .ok (.iload_n 2, 1) := by decide +kernel
theorem d_M_show_131 : decode b_M_show 131 = .ok (.ifCond .ne 12, 3) := by decide +kernel
theorem d_M_show_134 : decode b_M_show 134 = .ok (.aload_n 0, 1) := by decide +kernel
theorem d_M_show_135 : decode b_M_show 135 = .ok (.getfield 252, 3) := by decide +kernel
theorem d_M_show_138 : decode b_M_show 138 = .ok (.iload_n 1, 1) := by decide +kernel
theorem d_M_show_139 : decode b_M_show 139 = .ok (.iaload, 1) := by decide +kernel
theorem d_M_show_140 : decode b_M_show 140 = .ok (.goto 39, 3) := by decide +kernel
theorem d_M_show_143 : decode b_M_show 143 = .ok (.iload_n 2, 1) := by decide +kernel
theorem d_M_show_144 : decode b_M_show 144 = .ok (.iconst 1, 1) := by decide +kernel
theorem d_M_show_145 : decode b_M_show 145 = .ok (.if_icmp .ne 20, 3) := by decide +kernel
theorem d_M_show_148 : decode b_M_show 148 = .ok (.aload_n 0, 1) := by decide +kernel
theorem d_M_show_149 : decode b_M_show 149 = .ok (.getfield 209, 3) := by decide +kernel
theorem d_M_show_152 : decode b_M_show 152 = .ok (.iload_n 1, 1) := by decide +kernel
theorem d_M_show_153 : decode b_M_show 153 = .ok (.iaload, 1) := by decide +kernel
theorem d_M_show_154 : decode b_M_show 154 = .ok (.aload_n 0, 1) := by decide +kernel
theorem d_M_show_155 : decode b_M_show 155 = .ok (.getfield 224, 3) := by decide +kernel
theorem d_M_show_158 : decode b_M_show 158 = .ok (.iload 4, 2) := by decide +kernel
theorem d_M_show_160 : decode b_M_show 160 = .ok (.iaload, 1) := by decide +kernel
theorem d_M_show_161 : decode b_M_show 161 = .ok (.isub, 1) := by decide +kernel
theorem d_M_show_162 : decode b_M_show 162 = .ok (.goto 17, 3) := by decide +kernel
theorem d_M_show_165 : decode b_M_show 165 = .ok (.aload_n 0, 1) := by decide +kernel
theorem d_M_show_166 : decode b_M_show 166 = .ok (.getfield 202, 3) := by decide +kernel
theorem d_M_show_169 : decode b_M_show 169 = .ok (.iload_n 1, 1) := by decide +kernel
theorem d_M_show_170 : decode b_M_show 170 = .ok (.iaload, 1) := by decide +kernel
theorem d_M_show_171 : decode b_M_show 171 = .ok (.aload_n 0, 1) := by decide +kernel
theorem d_M_show_172 : decode b_M_show 172 = .ok (.getfield 227, 3) := by decide +kernel
theorem d_M_show_175 : decode b_M_show 175 = .ok (.iload 4, 2) := by decide +kernel
theorem d_M_show_177 : decode b_M_show 177 = .ok (.iaload, 1) := by decide +kernel
theorem d_M_show_178 : decode b_M_show 178 = .ok (.isub, 1) := by decide +kernel
theorem d_M_show_179 : decode b_M_show 179 = .ok (.istore 5, 2) := by decide +kernel
theorem d_M_show_181 : decode b_M_show 181 = .ok (.iload_n 3, 1) := by decide +kernel
theorem d_M_show_182 : decode b_M_show 182 = .ok (.iload 5, 2) := by decide +kernel
theorem d_M_show_184 : decode b_M_show 184 = .ok (.if_icmp .lt 5, 3) := by decide +kernel
theorem d_M_show_187 : decode b_M_show 187 = .ok (.iconst (-1), 1) := by decide +kernel
theorem d_M_show_188 : decode b_M_show 188 = .ok (.ireturn, 1) := by decide +kernel
theorem d_M_show_189 : decode b_M_show 189 = .ok (.aload_n 0, 1) := by decide +kernel
theorem d_M_show_190 : decode b_M_show 190 = .ok (.iload_n 1, 1) := by decide +kernel
theorem d_M_show_191 : decode b_M_show 191 = .ok (.iload_n 2, 1) := by decide +kernel
theorem d_M_show_192 : decode b_M_show 192 = .ok (.ifCond .ne 17, 3) := by decide +kernel
theorem d_M_show_195 : decode b_M_show 195 = .ok (.aload_n 0, 1) := by decide +kernel
theorem d_M_show_196 : decode b_M_show 196 = .ok (.getfield 249, 3) := by decide +kernel
theorem d_M_show_199 : decode b_M_show 199 = .ok (.iload_n 1, 1) := by decide +kernel
theorem d_M_show_200 : decode b_M_show 200 = .ok (.bipush 30, 2) := by decide +kernel
theorem d_M_show_202 : decode b_M_show 202 = .ok (.imul, 1) := by decide +kernel
theorem d_M_show_203 : decode b_M_show 203 = .ok (.iload_n 3, 1) := by decide +kernel
theorem d_M_show_204 : decode b_M_show 204 = .ok (.iadd, 1) := by decide +kernel
theorem d_M_show_205 : decode b_M_show 205 = .ok (.laload, 1) := by decide +kernel
theorem d_M_show_206 : decode b_M_show 206 = .ok (.goto 51, 3) := by decide +kernel
theorem d_M_show_209 : decode b_M_show 209 = .ok (.iload_n 2, 1) := by decide +kernel
theorem d_M_show_210 : decode b_M_show 210 = .ok (.iconst 1, 1) := by decide +kernel
theorem d_M_show_211 : decode b_M_show 211 = .ok (.if_icmp .ne 26, 3) := by decide +kernel
theorem d_M_show_214 : decode b_M_show 214 = .ok (.aload_n 0, 1) := by decide +kernel
theorem d_M_show_215 : decode b_M_show 215 = .ok (.getfield 206, 3) := by decide +kernel
theorem d_M_show_218 : decode b_M_show 218 = .ok (.iload_n 1, 1) := by decide +kernel
theorem d_M_show_219 : decode b_M_show 219 = .ok (.sipush 2500, 3) := by decide +kernel
theorem d_M_show_222 : decode b_M_show 222 = .ok (.imul, 1) := by decide +kernel
theorem d_M_show_223 : decode b_M_show 223 = .ok (.aload_n 0, 1) := by decide +kernel
theorem d_M_show_224 : decode b_M_show 224 = .ok (.getfield 224, 3) := by decide +kernel
theorem d_M_show_227 : decode b_M_show 227 = .ok (.iload 4, 2) := by decide +kernel
theorem d_M_show_229 : decode b_M_show 229 = .ok (.iaload, 1) := by decide +kernel
theorem d_M_show_230 : decode b_M_show 230 = .ok (.iadd, 1) := by decide +kernel
theorem d_M_show_231 : decode b_M_show 231 = .ok (.iload_n 3, 1) := by decide +kernel
theorem d_M_show_232 : decode b_M_show 232 = .ok (.iadd, 1) := by decide +kernel
theorem d_M_show_233 : decode b_M_show 233 = .ok (.laload, 1) := by decide +kernel
theorem d_M_show_234 : decode b_M_show 234 = .ok (.goto 23, 3) := by decide +kernel
theorem d_M_show_237 : decode b_M_show 237 = .ok (.aload_n 0, 1) := by decide +kernel
theorem d_M_show_238 : decode b_M_show 238 = .ok (.getfield 199, 3) := by decide +kernel
theorem d_M_show_241 : decode b_M_show 241 = .ok (.iload_n 1, 1) := by decide +kernel
theorem d_M_show_242 : decode b_M_show 242 = .ok (.ldc_w 672, 3) := by decide +kernel
theorem d_M_show_245 : decode b_M_show 245 = .ok (.imul, 1) := by decide +kernel
theorem d_M_show_246 : decode b_M_show 246 = .ok (.aload_n 0, 1) := by decide +kernel
theorem d_M_show_247 : decode b_M_show 247 = .ok (.getfield 227, 3) := by decide +kernel
theorem d_M_show_250 : decode b_M_show 250 = .ok (.iload 4, 2) := by decide +kernel
theorem d_M_show_252 : decode b_M_show 252 = .ok (.iaload, 1) := by decide +kernel
theorem d_M_show_253 : decode b_M_show 253 = .ok (.iadd, 1) := by decide +kernel
theorem d_M_show_254 : decode b_M_show 254 = .ok (.iload_n 3, 1) := by decide +kernel
theorem d_M_show_255 : decode b_M_show 255 = .ok (.iadd, 1) := by decide +kernel
theorem d_M_show_256 : decode b_M_show 256 = .ok (.laload, 1) := by decide +kernel
theorem d_M_show_257 : decode b_M_show 257 = .ok (.invokevirtual 1013, 3) := by decide +kernel
theorem d_M_show_260 : decode b_M_show 260 = .ok (.iconst 0, 1) := by decide +kernel
theorem d_M_show_261 : decode b_M_show 261 = .ok (.istore 6, 2) := by decide +kernel
theorem d_M_show_263 : decode b_M_show 263 = .ok (.iload 6, 2) := by decide +kernel
theorem d_M_show_265 : decode b_M_show 265 = .ok (.aload_n 0, 1) := by decide +kernel
theorem d_M_show_266 : decode b_M_show 266 = .ok (.getfield 724, 3) := by decide +kernel
theorem d_M_show_269 : decode b_M_show 269 = .ok (.if_icmp .ge 23, 3) := by decide +kernel
theorem d_M_show_272 : decode b_M_show 272 = .ok (.aload_n 0, 1) := by decide +kernel
theorem d_M_show_273 : decode b_M_show 273 = .ok (.getfield 297, 3) := by decide +kernel
theorem d_M_show_276 : decode b_M_show 276 = .ok (.iload 6, 2) := by decide +kernel
theorem d_M_show_278 : decode b_M_show 278 = .ok (.aload_n 0, 1) := by decide +kernel
theorem d_M_show_279 : decode b_M_show 279 = .ok (.getfield 333, 3) := by decide +kernel
theorem d_M_show_282 : decode b_M_show 282 = .ok (.iload 6, 2) := by decide +kernel
theorem d_M_show_284 : decode b_M_show 284 = .ok (.baload, 1) := by decide +kernel
theorem d_M_show_285 : decode b_M_show 285 = .ok (.bastore, 1) := by decide +kernel
theorem d_M_show_286 : decode b_M_show 286 = .ok (.iinc 6 1, 3) := by decide +kernel
theorem d_M_show_289 : decode b_M_show 289 = .ok (.goto (-26), 3) := by decide +kernel
theorem d_M_show_292 : decode b_M_show 292 = .ok (.aload_n 0, 1) := by decide +kernel
theorem d_M_show_293 : decode b_M_show 293 = .ok (.aload_n 0, 1) := by decide +kernel
theorem d_M_show_294 : decode b_M_show 294 = .ok (.getfield 724, 3) := by decide +kernel
theorem d_M_show_297 : decode b_M_show 297 = .ok (.putfield 1032, 3) := by decide +kernel
theorem d_M_show_300 : decode b_M_show 300 = .ok (.aload_n 0, 1) := by decide +kernel
theorem d_M_show_301 : decode b_M_show 301 = .ok (.getfield 1032, 3) := by decide +kernel
theorem d_M_show_304 : decode b_M_show 304 = .ok (.ireturn, 1) := by decide +kernel
def rm_M_show : Room := { frames := 4, cells := 0, slots := 0, locals := 100 }
theorem rm_M_show_M_isProcess {R : Room} (hR : R = rm_M_show) : (rm_M_isProcess).frames + 1 ≤ R.frames ∧ 8 + (2 + 11) + (rm_M_isProcess).locals ≤ R.locals := by subst hR; decide
theorem rm_M_show_M_write {R : Room} (hR : R = rm_M_show) : (rm_M_write).frames + 1 ≤ R.frames ∧ 8 + (4 + 11) + (rm_M_write).locals ≤ R.locals := by subst hR; decide
def fb_M_show_263 (N : Nat) (G : (MS → Int32 → Int32 → Option (MS × Int32)) × (MS → Int32 → Option (MS × Int32))) (u : MS) (v6 : Int32) : Option (MS × Int32) := br (decide ((u.1 144) ≤ v6)) (lt (upI u 130 (u.1 144)) (fun w1 => some (w1, (w1.1 130)))) (ck (inb v6 (ln 143)) (ck (inb v6 (ln 129)) (lt (upA u 129 (upd (u.2.2.1 129) v6.toNatClampNeg (vp_nar .byte (u.2.2.1 143 v6.toNatClampNeg)))) (fun w2 => G.2 w2 ((v6 + 1))))))
set_option maxRecDepth 100000 in
set_option maxHeartbeats 4000000 in
theorem wb_M_show_263 {p : Program} {l : Launch} {e : Env} {R : Room} {s : State} {m : MethodId} {args : Array Value} {below : List Frame} {meth : Method} {c : Code} {D : va_G} {cl : List vw_C} {cB cI cJ cZ cS : ClassId} {A : Nat → Prop} {iM h0 : Nat} {ad : Nat → Nat} (C0 : MCx p s m args meth c b_M_show 7 (some .int) D cl cB cI cJ cZ cS iM A) (hR : R = rm_M_show) (N : Nat) (G : (MS → Int32 → Int32 → Option (MS × Int32)) × (MS → Int32 → Option (MS × Int32))) (hG : (∀ (u : MS) (v1 : Int32) (v4 : Int32) (x : MS × Int32), G.1 u v1 v4 = some x → ∀ (H : Heap) (locs : List Loc), va_P D cl (wM cB cI cJ cZ cS iM h0 ad u) H → va_D A (wM cB cI cJ cZ cS iM h0 ad u) → va_S A s.heap H locs → ∀ (ls : Array Slot), lv_has ls 7 [(0, .ref h0), (1, .int v1), (4, .int v4)] → W p l e R s m args below meth c H locs 0 0 (MQ below (mQi D cl cB cI cJ cZ cS iM h0 ad A x) args s 0 0 A) (F0 m 43 ls [])) ∧ (∀ (u : MS) (v6 : Int32) (x : MS × Int32), G.2 u v6 = some x → ∀ (H : Heap) (locs : List Loc), va_P D cl (wM cB cI cJ cZ cS iM h0 ad u) H → va_D A (wM cB cI cJ cZ cS iM h0 ad u) → va_S A s.heap H locs → ∀ (ls : Array Slot), lv_has ls 7 [(0, .ref h0), (6, .int v6)] → W p l e R s m args below meth c H locs 0 0 (MQ below (mQi D cl cB cI cJ cZ cS iM h0 ad A x) args s 0 0 A) (F0 m 263 ls []))) : ∀ (u : MS) (v6 : Int32) (x : MS × Int32), fb_M_show_263 N G u v6 = some x → ∀ (H : Heap) (locs : List Loc), va_P D cl (wM cB cI cJ cZ cS iM h0 ad u) H → va_D A (wM cB cI cJ cZ cS iM h0 ad u) → va_S A s.heap H locs → ∀ (ls : Array Slot), lv_has ls 7 [(0, .ref h0), (6, .int v6)] → W p l e R s m args below meth c H locs 0 0 (MQ below (mQi D cl cB cI cJ cZ cS iM h0 ad A x) args s 0 0 A) (F0 m 263 ls []) := by
  intro u v6 x hf H locs hP hD hS ls hl
  obtain ⟨hx, hb, hr, hml, ht, hown, hM, hK, hA, hlocks⟩ := id C0
  unfold fb_M_show_263 at hf
  refine lv_iload hx hb d_M_show_263 (lv_at hl 1 rfl) ?_
  refine lv_aload_n hx hb d_M_show_265 rfl (lv_at hl 0 rfl) ?_
  refine ug_I hx hb ht hown hM hK hP 144 (by decide) lk_M_144 (by decide) d_M_show_266 ?_
  refine lv_icmp_ge (tgt := 292) hx hb d_M_show_269 (by decide) (fun hc => ?_) (fun hc => ?_)
  · rw [br_p _ hc] at hf
    refine lv_aload_n hx hb d_M_show_292 rfl (lv_at hl 0 rfl) ?_
    refine lv_aload_n hx hb d_M_show_293 rfl (lv_at hl 0 rfl) ?_
    refine ug_I hx hb ht hown hM hK hP 144 (by decide) lk_M_144 (by decide) d_M_show_294 ?_
    refine up_I hx hb ht hown hM hK hP hD hS 130 (by decide) lk_M_130 (by decide) rfl rfl rfl d_M_show_297 (fun H locs hP hD hS => ?_)
    obtain ⟨w1, e1, hf⟩ := lt_some hf
    rw [← e1] at hP hD
    refine lv_aload_n hx hb d_M_show_300 rfl (lv_at hl 0 rfl) ?_
    refine ug_I hx hb ht hown hM hK hP 130 (by decide) lk_M_130 (by decide) d_M_show_301 ?_
    exact mr_i C0 hP hD hS hf d_M_show_304
  · rw [br_n _ hc] at hf
    refine lv_aload_n hx hb d_M_show_272 rfl (lv_at hl 0 rfl) ?_
    refine ug_R hx hb ht hown hM hK hP 129 (by decide) lk_M_129 (by decide) d_M_show_273 ?_
    refine lv_iload hx hb d_M_show_276 (lv_at hl 1 rfl) ?_
    refine lv_aload_n hx hb d_M_show_278 rfl (lv_at hl 0 rfl) ?_
    refine ug_R hx hb ht hown hM hK hP 143 (by decide) lk_M_143 (by decide) d_M_show_279 ?_
    refine lv_iload hx hb d_M_show_282 (lv_at hl 1 rfl) ?_
    obtain ⟨hi9, hf⟩ := ck_some hf
    refine ul_B hx hb hK hP (by decide) (by decide) hi9 d_M_show_284 ?_
    obtain ⟨hi9, hf⟩ := ck_some hf
    refine us_B hx hb hK hP hD hS (by decide) (by decide) hi9 d_M_show_285 (fun H locs hP hD hS => ?_)
    obtain ⟨w2, e2, hf⟩ := lt_some hf
    rw [← e2] at hP hD
    refine lv_iinc (v := (v6 + 1)) (lv' := [(6, .int (v6 + 1)), (0, .ref h0)]) hx hb d_M_show_286 hl (k := 1) rfl rfl (by decide) rfl (fun ls hl => ?_)
    refine lv_goto (tgt := 263) hx hb d_M_show_289 (by decide) ?_
    exact hG.2 _ _ _ hf H locs hP hD hS ls (lv_sub hl [1, 0] rfl)
def fb_M_show_257 (N : Nat) (G : (MS → Int32 → Int32 → Option (MS × Int32)) × (MS → Int32 → Option (MS × Int32))) (u : MS) (t1 : Int32) (t2 : Int64) : Option (MS × Int32) := bnd (fm_M_write N u t1 t2) (fun u3 _ => G.2 u3 (0))
set_option maxRecDepth 100000 in
set_option maxHeartbeats 4000000 in
theorem wb_M_show_257 {p : Program} {l : Launch} {e : Env} {R : Room} {s : State} {m : MethodId} {args : Array Value} {below : List Frame} {meth : Method} {c : Code} {D : va_G} {cl : List vw_C} {cB cI cJ cZ cS : ClassId} {A : Nat → Prop} {iM h0 : Nat} {ad : Nat → Nat} (C0 : MCx p s m args meth c b_M_show 7 (some .int) D cl cB cI cJ cZ cS iM A) (hR : R = rm_M_show) (N : Nat) (G : (MS → Int32 → Int32 → Option (MS × Int32)) × (MS → Int32 → Option (MS × Int32))) (hG : (∀ (u : MS) (v1 : Int32) (v4 : Int32) (x : MS × Int32), G.1 u v1 v4 = some x → ∀ (H : Heap) (locs : List Loc), va_P D cl (wM cB cI cJ cZ cS iM h0 ad u) H → va_D A (wM cB cI cJ cZ cS iM h0 ad u) → va_S A s.heap H locs → ∀ (ls : Array Slot), lv_has ls 7 [(0, .ref h0), (1, .int v1), (4, .int v4)] → W p l e R s m args below meth c H locs 0 0 (MQ below (mQi D cl cB cI cJ cZ cS iM h0 ad A x) args s 0 0 A) (F0 m 43 ls [])) ∧ (∀ (u : MS) (v6 : Int32) (x : MS × Int32), G.2 u v6 = some x → ∀ (H : Heap) (locs : List Loc), va_P D cl (wM cB cI cJ cZ cS iM h0 ad u) H → va_D A (wM cB cI cJ cZ cS iM h0 ad u) → va_S A s.heap H locs → ∀ (ls : Array Slot), lv_has ls 7 [(0, .ref h0), (6, .int v6)] → W p l e R s m args below meth c H locs 0 0 (MQ below (mQi D cl cB cI cJ cZ cS iM h0 ad A x) args s 0 0 A) (F0 m 263 ls []))) : ∀ (u : MS) (t1 : Int32) (t2 : Int64) (x : MS × Int32), fb_M_show_257 N G u t1 t2 = some x → ∀ (H : Heap) (locs : List Loc), va_P D cl (wM cB cI cJ cZ cS iM h0 ad u) H → va_D A (wM cB cI cJ cZ cS iM h0 ad u) → va_S A s.heap H locs → ∀ (ls : Array Slot), lv_has ls 7 [(0, .ref h0)] → W p l e R s m args below meth c H locs 0 0 (MQ below (mQi D cl cB cI cJ cZ cS iM h0 ad A x) args s 0 0 A) (F0 m 257 ls [.long t2, .int t1, .ref h0]) := by
  intro u t1 t2 x hf H locs hP hD hS ls hl
  obtain ⟨hx, hb, hr, hml, ht, hown, hM, hK, hA, hlocks⟩ := id C0
  unfold fb_M_show_257 at hf
  obtain ⟨u3, r3, hc3, hf⟩ := bnd_some hf
  refine mV_v (As := [.int t1, .long t2]) (rest := []) C0 hP hD hS (c_M_write N hM hc3) k_M_write hl_M_write hi_M_write hs_M_write hini_M rfl rfl hd_M_write rfl (rm_M_show_M_write hR) hl.1 (Nat.le_of_ble_eq_true rfl) d_M_show_257 rfl ⟨Nat.zero_le _, Nat.zero_le _⟩ (fun H locs hP hD hS => ?_)
  refine lv_iconst (v := 0) hx hb d_M_show_260 (by decide) ?_
  refine lv_istore (lv' := [(6, .int 0), (0, .ref h0)]) hx hb d_M_show_261 hl (by decide) rfl (fun ls hl => ?_)
  exact hG.2 _ _ _ hf H locs hP hD hS ls (lv_sub hl [1, 0] rfl)
def fb_M_show_179 (N : Nat) (G : (MS → Int32 → Int32 → Option (MS × Int32)) × (MS → Int32 → Option (MS × Int32))) (u : MS) (v1 : Int32) (v2 : Int32) (v3 : Int32) (v4 : Int32) (t0 : Int32) : Option (MS × Int32) := br (decide (v3 < t0)) (br (decide (v2 = 0)) (ck (inb ((v1 * 30) + v3) (ln 107)) (fb_M_show_257 N G u (v1) ((u.2.2.2 107 ((v1 * 30) + v3).toNatClampNeg)))) (br (decide (v2 = 1)) (ck (inb v4 (ln 99)) (ck (inb (((v1 * 2500) + (u.2.2.1 99 v4.toNatClampNeg)) + v3) (ln 93)) (fb_M_show_257 N G u (v1) ((u.2.2.2 93 (((v1 * 2500) + (u.2.2.1 99 v4.toNatClampNeg)) + v3).toNatClampNeg))))) (ck (inb v4 (ln 100)) (ck (inb (((v1 * 46000) + (u.2.2.1 100 v4.toNatClampNeg)) + v3) (ln 91)) (fb_M_show_257 N G u (v1) ((u.2.2.2 91 (((v1 * 46000) + (u.2.2.1 100 v4.toNatClampNeg)) + v3).toNatClampNeg))))))) (some (u, (-1)))
set_option maxRecDepth 100000 in
set_option maxHeartbeats 4000000 in
theorem wb_M_show_179 {p : Program} {l : Launch} {e : Env} {R : Room} {s : State} {m : MethodId} {args : Array Value} {below : List Frame} {meth : Method} {c : Code} {D : va_G} {cl : List vw_C} {cB cI cJ cZ cS : ClassId} {A : Nat → Prop} {iM h0 : Nat} {ad : Nat → Nat} (C0 : MCx p s m args meth c b_M_show 7 (some .int) D cl cB cI cJ cZ cS iM A) (hR : R = rm_M_show) (N : Nat) (G : (MS → Int32 → Int32 → Option (MS × Int32)) × (MS → Int32 → Option (MS × Int32))) (hG : (∀ (u : MS) (v1 : Int32) (v4 : Int32) (x : MS × Int32), G.1 u v1 v4 = some x → ∀ (H : Heap) (locs : List Loc), va_P D cl (wM cB cI cJ cZ cS iM h0 ad u) H → va_D A (wM cB cI cJ cZ cS iM h0 ad u) → va_S A s.heap H locs → ∀ (ls : Array Slot), lv_has ls 7 [(0, .ref h0), (1, .int v1), (4, .int v4)] → W p l e R s m args below meth c H locs 0 0 (MQ below (mQi D cl cB cI cJ cZ cS iM h0 ad A x) args s 0 0 A) (F0 m 43 ls [])) ∧ (∀ (u : MS) (v6 : Int32) (x : MS × Int32), G.2 u v6 = some x → ∀ (H : Heap) (locs : List Loc), va_P D cl (wM cB cI cJ cZ cS iM h0 ad u) H → va_D A (wM cB cI cJ cZ cS iM h0 ad u) → va_S A s.heap H locs → ∀ (ls : Array Slot), lv_has ls 7 [(0, .ref h0), (6, .int v6)] → W p l e R s m args below meth c H locs 0 0 (MQ below (mQi D cl cB cI cJ cZ cS iM h0 ad A x) args s 0 0 A) (F0 m 263 ls []))) : ∀ (u : MS) (v1 : Int32) (v2 : Int32) (v3 : Int32) (v4 : Int32) (t0 : Int32) (x : MS × Int32), fb_M_show_179 N G u v1 v2 v3 v4 t0 = some x → ∀ (H : Heap) (locs : List Loc), va_P D cl (wM cB cI cJ cZ cS iM h0 ad u) H → va_D A (wM cB cI cJ cZ cS iM h0 ad u) → va_S A s.heap H locs → ∀ (ls : Array Slot), lv_has ls 7 [(0, .ref h0), (1, .int v1), (2, .int v2), (3, .int v3), (4, .int v4)] → W p l e R s m args below meth c H locs 0 0 (MQ below (mQi D cl cB cI cJ cZ cS iM h0 ad A x) args s 0 0 A) (F0 m 179 ls [.int t0]) := by
  intro u v1 v2 v3 v4 t0 x hf H locs hP hD hS ls hl
  obtain ⟨hx, hb, hr, hml, ht, hown, hM, hK, hA, hlocks⟩ := id C0
  unfold fb_M_show_179 at hf
  refine lv_istore (lv' := [(5, .int t0), (0, .ref h0), (1, .int v1), (2, .int v2), (3, .int v3), (4, .int v4)]) hx hb d_M_show_179 hl (by decide) rfl (fun ls hl => ?_)
  refine lv_iload_n hx hb d_M_show_181 rfl (lv_at hl 4 rfl) ?_
  refine lv_iload hx hb d_M_show_182 (lv_at hl 0 rfl) ?_
  refine lv_icmp_lt (tgt := 189) hx hb d_M_show_184 (by decide) (fun hc => ?_) (fun hc => ?_)
  · rw [br_p _ hc] at hf
    refine lv_aload_n hx hb d_M_show_189 rfl (lv_at hl 1 rfl) ?_
    refine lv_iload_n hx hb d_M_show_190 rfl (lv_at hl 2 rfl) ?_
    refine lv_iload_n hx hb d_M_show_191 rfl (lv_at hl 3 rfl) ?_
    refine lv_if_ne (tgt := 209) hx hb d_M_show_192 (by decide) (fun hc => ?_) (fun hc => ?_)
    · rw [br_n _ hc] at hf
      refine lv_iload_n hx hb d_M_show_209 rfl (lv_at hl 3 rfl) ?_
      refine lv_iconst (v := 1) hx hb d_M_show_210 (by decide) ?_
      refine lv_icmp_ne (tgt := 237) hx hb d_M_show_211 (by decide) (fun hc => ?_) (fun hc => ?_)
      · rw [br_n _ hc] at hf
        refine lv_aload_n hx hb d_M_show_237 rfl (lv_at hl 1 rfl) ?_
        refine ug_R hx hb ht hown hM hK hP 91 (by decide) lk_M_91 (by decide) d_M_show_238 ?_
        refine lv_iload_n hx hb d_M_show_241 rfl (lv_at hl 2 rfl) ?_
        refine lv_ldcw (v := 46000) hx hb hown (ht _ (wd_of 2940 (by decide +kernel) rfl)) d_M_show_242 ?_
        refine lv_imul hx hb d_M_show_245 ?_
        refine lv_aload_n hx hb d_M_show_246 rfl (lv_at hl 1 rfl) ?_
        refine ug_R hx hb ht hown hM hK hP 100 (by decide) lk_M_100 (by decide) d_M_show_247 ?_
        refine lv_iload hx hb d_M_show_250 (lv_at hl 5 rfl) ?_
        obtain ⟨hi9, hf⟩ := ck_some hf
        refine ul_I hx hb hK hP (by decide) (by decide) hi9 d_M_show_252 ?_
        refine lv_iadd hx hb d_M_show_253 ?_
        refine lv_iload_n hx hb d_M_show_254 rfl (lv_at hl 4 rfl) ?_
        refine lv_iadd hx hb d_M_show_255 ?_
        obtain ⟨hi9, hf⟩ := ck_some hf
        refine ul_J hx hb hK hP (by decide) (by decide) hi9 d_M_show_256 ?_
        exact wb_M_show_257 C0 hR N G hG _ _ _ _ hf H locs hP hD hS ls (lv_sub hl [1] rfl)
      · rw [br_p _ hc] at hf
        refine lv_aload_n hx hb d_M_show_214 rfl (lv_at hl 1 rfl) ?_
        refine ug_R hx hb ht hown hM hK hP 93 (by decide) lk_M_93 (by decide) d_M_show_215 ?_
        refine lv_iload_n hx hb d_M_show_218 rfl (lv_at hl 2 rfl) ?_
        refine lv_sipush (v := 2500) hx hb d_M_show_219 (by decide) ?_
        refine lv_imul hx hb d_M_show_222 ?_
        refine lv_aload_n hx hb d_M_show_223 rfl (lv_at hl 1 rfl) ?_
        refine ug_R hx hb ht hown hM hK hP 99 (by decide) lk_M_99 (by decide) d_M_show_224 ?_
        refine lv_iload hx hb d_M_show_227 (lv_at hl 5 rfl) ?_
        obtain ⟨hi9, hf⟩ := ck_some hf
        refine ul_I hx hb hK hP (by decide) (by decide) hi9 d_M_show_229 ?_
        refine lv_iadd hx hb d_M_show_230 ?_
        refine lv_iload_n hx hb d_M_show_231 rfl (lv_at hl 4 rfl) ?_
        refine lv_iadd hx hb d_M_show_232 ?_
        obtain ⟨hi9, hf⟩ := ck_some hf
        refine ul_J hx hb hK hP (by decide) (by decide) hi9 d_M_show_233 ?_
        refine lv_goto (tgt := 257) hx hb d_M_show_234 (by decide) ?_
        exact wb_M_show_257 C0 hR N G hG _ _ _ _ hf H locs hP hD hS ls (lv_sub hl [1] rfl)
    · rw [br_p _ hc] at hf
      refine lv_aload_n hx hb d_M_show_195 rfl (lv_at hl 1 rfl) ?_
      refine ug_R hx hb ht hown hM hK hP 107 (by decide) lk_M_107 (by decide) d_M_show_196 ?_
      refine lv_iload_n hx hb d_M_show_199 rfl (lv_at hl 2 rfl) ?_
      refine lv_bipush (v := 30) hx hb d_M_show_200 (by decide) ?_
      refine lv_imul hx hb d_M_show_202 ?_
      refine lv_iload_n hx hb d_M_show_203 rfl (lv_at hl 4 rfl) ?_
      refine lv_iadd hx hb d_M_show_204 ?_
      obtain ⟨hi9, hf⟩ := ck_some hf
      refine ul_J hx hb hK hP (by decide) (by decide) hi9 d_M_show_205 ?_
      refine lv_goto (tgt := 257) hx hb d_M_show_206 (by decide) ?_
      exact wb_M_show_257 C0 hR N G hG _ _ _ _ hf H locs hP hD hS ls (lv_sub hl [1] rfl)
  · rw [br_n _ hc] at hf
    refine lv_iconst (v := (-1)) hx hb d_M_show_187 (by decide) ?_
    exact mr_i C0 hP hD hS hf d_M_show_188
def fb_M_show_113 (N : Nat) (G : (MS → Int32 → Int32 → Option (MS × Int32)) × (MS → Int32 → Option (MS × Int32))) (u : MS) : Option (MS × Int32) := some (u, (-1))
set_option maxRecDepth 100000 in
set_option maxHeartbeats 4000000 in
theorem wb_M_show_113 {p : Program} {l : Launch} {e : Env} {R : Room} {s : State} {m : MethodId} {args : Array Value} {below : List Frame} {meth : Method} {c : Code} {D : va_G} {cl : List vw_C} {cB cI cJ cZ cS : ClassId} {A : Nat → Prop} {iM h0 : Nat} {ad : Nat → Nat} (C0 : MCx p s m args meth c b_M_show 7 (some .int) D cl cB cI cJ cZ cS iM A) (hR : R = rm_M_show) (N : Nat) (G : (MS → Int32 → Int32 → Option (MS × Int32)) × (MS → Int32 → Option (MS × Int32))) (hG : (∀ (u : MS) (v1 : Int32) (v4 : Int32) (x : MS × Int32), G.1 u v1 v4 = some x → ∀ (H : Heap) (locs : List Loc), va_P D cl (wM cB cI cJ cZ cS iM h0 ad u) H → va_D A (wM cB cI cJ cZ cS iM h0 ad u) → va_S A s.heap H locs → ∀ (ls : Array Slot), lv_has ls 7 [(0, .ref h0), (1, .int v1), (4, .int v4)] → W p l e R s m args below meth c H locs 0 0 (MQ below (mQi D cl cB cI cJ cZ cS iM h0 ad A x) args s 0 0 A) (F0 m 43 ls [])) ∧ (∀ (u : MS) (v6 : Int32) (x : MS × Int32), G.2 u v6 = some x → ∀ (H : Heap) (locs : List Loc), va_P D cl (wM cB cI cJ cZ cS iM h0 ad u) H → va_D A (wM cB cI cJ cZ cS iM h0 ad u) → va_S A s.heap H locs → ∀ (ls : Array Slot), lv_has ls 7 [(0, .ref h0), (6, .int v6)] → W p l e R s m args below meth c H locs 0 0 (MQ below (mQi D cl cB cI cJ cZ cS iM h0 ad A x) args s 0 0 A) (F0 m 263 ls []))) : ∀ (u : MS) (x : MS × Int32), fb_M_show_113 N G u = some x → ∀ (H : Heap) (locs : List Loc), va_P D cl (wM cB cI cJ cZ cS iM h0 ad u) H → va_D A (wM cB cI cJ cZ cS iM h0 ad u) → va_S A s.heap H locs → ∀ (ls : Array Slot), lv_has ls 7 [] → W p l e R s m args below meth c H locs 0 0 (MQ below (mQi D cl cB cI cJ cZ cS iM h0 ad A x) args s 0 0 A) (F0 m 113 ls []) := by
  intro u x hf H locs hP hD hS ls hl
  obtain ⟨hx, hb, hr, hml, ht, hown, hM, hK, hA, hlocks⟩ := id C0
  unfold fb_M_show_113 at hf
  refine lv_iconst (v := (-1)) hx hb d_M_show_113 (by decide) ?_
  exact mr_i C0 hP hD hS hf d_M_show_114
def fb_M_show_43 (N : Nat) (G : (MS → Int32 → Int32 → Option (MS × Int32)) × (MS → Int32 → Option (MS × Int32))) (u : MS) (v1 : Int32) (v4 : Int32) : Option (MS × Int32) := ck (inb v1 (ln 132)) (br (decide ((u.2.2.1 132 v1.toNatClampNeg) ≤ v4)) (ck (inb v1 (ln 132)) (lt (upI u 130 (u.2.2.1 132 v1.toNatClampNeg)) (fun w4 => some (w4, (w4.1 130))))) (ck (inb ((100 * v1) + v4) (ln 131)) (ck (inb v4 (ln 129)) (lt (upA u 129 (upd (u.2.2.1 129) v4.toNatClampNeg (vp_nar .byte (u.2.2.1 131 ((100 * v1) + v4).toNatClampNeg)))) (fun w5 => G.1 w5 (v1) ((v4 + 1)))))))
set_option maxRecDepth 100000 in
set_option maxHeartbeats 4000000 in
theorem wb_M_show_43 {p : Program} {l : Launch} {e : Env} {R : Room} {s : State} {m : MethodId} {args : Array Value} {below : List Frame} {meth : Method} {c : Code} {D : va_G} {cl : List vw_C} {cB cI cJ cZ cS : ClassId} {A : Nat → Prop} {iM h0 : Nat} {ad : Nat → Nat} (C0 : MCx p s m args meth c b_M_show 7 (some .int) D cl cB cI cJ cZ cS iM A) (hR : R = rm_M_show) (N : Nat) (G : (MS → Int32 → Int32 → Option (MS × Int32)) × (MS → Int32 → Option (MS × Int32))) (hG : (∀ (u : MS) (v1 : Int32) (v4 : Int32) (x : MS × Int32), G.1 u v1 v4 = some x → ∀ (H : Heap) (locs : List Loc), va_P D cl (wM cB cI cJ cZ cS iM h0 ad u) H → va_D A (wM cB cI cJ cZ cS iM h0 ad u) → va_S A s.heap H locs → ∀ (ls : Array Slot), lv_has ls 7 [(0, .ref h0), (1, .int v1), (4, .int v4)] → W p l e R s m args below meth c H locs 0 0 (MQ below (mQi D cl cB cI cJ cZ cS iM h0 ad A x) args s 0 0 A) (F0 m 43 ls [])) ∧ (∀ (u : MS) (v6 : Int32) (x : MS × Int32), G.2 u v6 = some x → ∀ (H : Heap) (locs : List Loc), va_P D cl (wM cB cI cJ cZ cS iM h0 ad u) H → va_D A (wM cB cI cJ cZ cS iM h0 ad u) → va_S A s.heap H locs → ∀ (ls : Array Slot), lv_has ls 7 [(0, .ref h0), (6, .int v6)] → W p l e R s m args below meth c H locs 0 0 (MQ below (mQi D cl cB cI cJ cZ cS iM h0 ad A x) args s 0 0 A) (F0 m 263 ls []))) : ∀ (u : MS) (v1 : Int32) (v4 : Int32) (x : MS × Int32), fb_M_show_43 N G u v1 v4 = some x → ∀ (H : Heap) (locs : List Loc), va_P D cl (wM cB cI cJ cZ cS iM h0 ad u) H → va_D A (wM cB cI cJ cZ cS iM h0 ad u) → va_S A s.heap H locs → ∀ (ls : Array Slot), lv_has ls 7 [(0, .ref h0), (1, .int v1), (4, .int v4)] → W p l e R s m args below meth c H locs 0 0 (MQ below (mQi D cl cB cI cJ cZ cS iM h0 ad A x) args s 0 0 A) (F0 m 43 ls []) := by
  intro u v1 v4 x hf H locs hP hD hS ls hl
  obtain ⟨hx, hb, hr, hml, ht, hown, hM, hK, hA, hlocks⟩ := id C0
  unfold fb_M_show_43 at hf
  refine lv_iload hx hb d_M_show_43 (lv_at hl 2 rfl) ?_
  refine lv_aload_n hx hb d_M_show_45 rfl (lv_at hl 0 rfl) ?_
  refine ug_R hx hb ht hown hM hK hP 132 (by decide) lk_M_132 (by decide) d_M_show_46 ?_
  refine lv_iload_n hx hb d_M_show_49 rfl (lv_at hl 1 rfl) ?_
  obtain ⟨hi9, hf⟩ := ck_some hf
  refine ul_I hx hb hK hP (by decide) (by decide) hi9 d_M_show_50 ?_
  refine lv_icmp_ge (tgt := 79) hx hb d_M_show_51 (by decide) (fun hc => ?_) (fun hc => ?_)
  · rw [br_p _ hc] at hf
    refine lv_aload_n hx hb d_M_show_79 rfl (lv_at hl 0 rfl) ?_
    refine lv_aload_n hx hb d_M_show_80 rfl (lv_at hl 0 rfl) ?_
    refine ug_R hx hb ht hown hM hK hP 132 (by decide) lk_M_132 (by decide) d_M_show_81 ?_
    refine lv_iload_n hx hb d_M_show_84 rfl (lv_at hl 1 rfl) ?_
    obtain ⟨hi9, hf⟩ := ck_some hf
    refine ul_I hx hb hK hP (by decide) (by decide) hi9 d_M_show_85 ?_
    refine up_I hx hb ht hown hM hK hP hD hS 130 (by decide) lk_M_130 (by decide) rfl rfl rfl d_M_show_86 (fun H locs hP hD hS => ?_)
    obtain ⟨w4, e4, hf⟩ := lt_some hf
    rw [← e4] at hP hD
    refine lv_aload_n hx hb d_M_show_89 rfl (lv_at hl 0 rfl) ?_
    refine ug_I hx hb ht hown hM hK hP 130 (by decide) lk_M_130 (by decide) d_M_show_90 ?_
    exact mr_i C0 hP hD hS hf d_M_show_93
  · rw [br_n _ hc] at hf
    refine lv_aload_n hx hb d_M_show_54 rfl (lv_at hl 0 rfl) ?_
    refine ug_R hx hb ht hown hM hK hP 129 (by decide) lk_M_129 (by decide) d_M_show_55 ?_
    refine lv_iload hx hb d_M_show_58 (lv_at hl 2 rfl) ?_
    refine lv_aload_n hx hb d_M_show_60 rfl (lv_at hl 0 rfl) ?_
    refine ug_R hx hb ht hown hM hK hP 131 (by decide) lk_M_131 (by decide) d_M_show_61 ?_
    refine lv_bipush (v := 100) hx hb d_M_show_64 (by decide) ?_
    refine lv_iload_n hx hb d_M_show_66 rfl (lv_at hl 1 rfl) ?_
    refine lv_imul hx hb d_M_show_67 ?_
    refine lv_iload hx hb d_M_show_68 (lv_at hl 2 rfl) ?_
    refine lv_iadd hx hb d_M_show_70 ?_
    obtain ⟨hi9, hf⟩ := ck_some hf
    refine ul_B hx hb hK hP (by decide) (by decide) hi9 d_M_show_71 ?_
    obtain ⟨hi9, hf⟩ := ck_some hf
    refine us_B hx hb hK hP hD hS (by decide) (by decide) hi9 d_M_show_72 (fun H locs hP hD hS => ?_)
    obtain ⟨w5, e5, hf⟩ := lt_some hf
    rw [← e5] at hP hD
    refine lv_iinc (v := (v4 + 1)) (lv' := [(4, .int (v4 + 1)), (0, .ref h0), (1, .int v1)]) hx hb d_M_show_73 hl (k := 2) rfl rfl (by decide) rfl (fun ls hl => ?_)
    refine lv_goto (tgt := 43) hx hb d_M_show_76 (by decide) ?_
    exact hG.1 _ _ _ _ hf H locs hP hD hS ls (lv_sub hl [1, 2, 0] rfl)
def fb_M_show_38 (N : Nat) (G : (MS → Int32 → Int32 → Option (MS × Int32)) × (MS → Int32 → Option (MS × Int32))) (u : MS) : Option (MS × Int32) := some (u, (-1))
set_option maxRecDepth 100000 in
set_option maxHeartbeats 4000000 in
theorem wb_M_show_38 {p : Program} {l : Launch} {e : Env} {R : Room} {s : State} {m : MethodId} {args : Array Value} {below : List Frame} {meth : Method} {c : Code} {D : va_G} {cl : List vw_C} {cB cI cJ cZ cS : ClassId} {A : Nat → Prop} {iM h0 : Nat} {ad : Nat → Nat} (C0 : MCx p s m args meth c b_M_show 7 (some .int) D cl cB cI cJ cZ cS iM A) (hR : R = rm_M_show) (N : Nat) (G : (MS → Int32 → Int32 → Option (MS × Int32)) × (MS → Int32 → Option (MS × Int32))) (hG : (∀ (u : MS) (v1 : Int32) (v4 : Int32) (x : MS × Int32), G.1 u v1 v4 = some x → ∀ (H : Heap) (locs : List Loc), va_P D cl (wM cB cI cJ cZ cS iM h0 ad u) H → va_D A (wM cB cI cJ cZ cS iM h0 ad u) → va_S A s.heap H locs → ∀ (ls : Array Slot), lv_has ls 7 [(0, .ref h0), (1, .int v1), (4, .int v4)] → W p l e R s m args below meth c H locs 0 0 (MQ below (mQi D cl cB cI cJ cZ cS iM h0 ad A x) args s 0 0 A) (F0 m 43 ls [])) ∧ (∀ (u : MS) (v6 : Int32) (x : MS × Int32), G.2 u v6 = some x → ∀ (H : Heap) (locs : List Loc), va_P D cl (wM cB cI cJ cZ cS iM h0 ad u) H → va_D A (wM cB cI cJ cZ cS iM h0 ad u) → va_S A s.heap H locs → ∀ (ls : Array Slot), lv_has ls 7 [(0, .ref h0), (6, .int v6)] → W p l e R s m args below meth c H locs 0 0 (MQ below (mQi D cl cB cI cJ cZ cS iM h0 ad A x) args s 0 0 A) (F0 m 263 ls []))) : ∀ (u : MS) (x : MS × Int32), fb_M_show_38 N G u = some x → ∀ (H : Heap) (locs : List Loc), va_P D cl (wM cB cI cJ cZ cS iM h0 ad u) H → va_D A (wM cB cI cJ cZ cS iM h0 ad u) → va_S A s.heap H locs → ∀ (ls : Array Slot), lv_has ls 7 [] → W p l e R s m args below meth c H locs 0 0 (MQ below (mQi D cl cB cI cJ cZ cS iM h0 ad A x) args s 0 0 A) (F0 m 38 ls []) := by
  intro u x hf H locs hP hD hS ls hl
  obtain ⟨hx, hb, hr, hml, ht, hown, hM, hK, hA, hlocks⟩ := id C0
  unfold fb_M_show_38 at hf
  refine lv_iconst (v := (-1)) hx hb d_M_show_38 (by decide) ?_
  exact mr_i C0 hP hD hS hf d_M_show_39
def fb_M_show_17 (N : Nat) (G : (MS → Int32 → Int32 → Option (MS × Int32)) × (MS → Int32 → Option (MS × Int32))) (u : MS) : Option (MS × Int32) := some (u, (-1))
set_option maxRecDepth 100000 in
set_option maxHeartbeats 4000000 in
theorem wb_M_show_17 {p : Program} {l : Launch} {e : Env} {R : Room} {s : State} {m : MethodId} {args : Array Value} {below : List Frame} {meth : Method} {c : Code} {D : va_G} {cl : List vw_C} {cB cI cJ cZ cS : ClassId} {A : Nat → Prop} {iM h0 : Nat} {ad : Nat → Nat} (C0 : MCx p s m args meth c b_M_show 7 (some .int) D cl cB cI cJ cZ cS iM A) (hR : R = rm_M_show) (N : Nat) (G : (MS → Int32 → Int32 → Option (MS × Int32)) × (MS → Int32 → Option (MS × Int32))) (hG : (∀ (u : MS) (v1 : Int32) (v4 : Int32) (x : MS × Int32), G.1 u v1 v4 = some x → ∀ (H : Heap) (locs : List Loc), va_P D cl (wM cB cI cJ cZ cS iM h0 ad u) H → va_D A (wM cB cI cJ cZ cS iM h0 ad u) → va_S A s.heap H locs → ∀ (ls : Array Slot), lv_has ls 7 [(0, .ref h0), (1, .int v1), (4, .int v4)] → W p l e R s m args below meth c H locs 0 0 (MQ below (mQi D cl cB cI cJ cZ cS iM h0 ad A x) args s 0 0 A) (F0 m 43 ls [])) ∧ (∀ (u : MS) (v6 : Int32) (x : MS × Int32), G.2 u v6 = some x → ∀ (H : Heap) (locs : List Loc), va_P D cl (wM cB cI cJ cZ cS iM h0 ad u) H → va_D A (wM cB cI cJ cZ cS iM h0 ad u) → va_S A s.heap H locs → ∀ (ls : Array Slot), lv_has ls 7 [(0, .ref h0), (6, .int v6)] → W p l e R s m args below meth c H locs 0 0 (MQ below (mQi D cl cB cI cJ cZ cS iM h0 ad A x) args s 0 0 A) (F0 m 263 ls []))) : ∀ (u : MS) (x : MS × Int32), fb_M_show_17 N G u = some x → ∀ (H : Heap) (locs : List Loc), va_P D cl (wM cB cI cJ cZ cS iM h0 ad u) H → va_D A (wM cB cI cJ cZ cS iM h0 ad u) → va_S A s.heap H locs → ∀ (ls : Array Slot), lv_has ls 7 [] → W p l e R s m args below meth c H locs 0 0 (MQ below (mQi D cl cB cI cJ cZ cS iM h0 ad A x) args s 0 0 A) (F0 m 17 ls []) := by
  intro u x hf H locs hP hD hS ls hl
  obtain ⟨hx, hb, hr, hml, ht, hown, hM, hK, hA, hlocks⟩ := id C0
  unfold fb_M_show_17 at hf
  refine lv_iconst (v := (-1)) hx hb d_M_show_17 (by decide) ?_
  exact mr_i C0 hP hD hS hf d_M_show_18
def fb_M_show_0 (N : Nat) (G : (MS → Int32 → Int32 → Option (MS × Int32)) × (MS → Int32 → Option (MS × Int32))) (u : MS) (v1 : Int32) (v2 : Int32) (v3 : Int32) : Option (MS × Int32) := lt (upI u 3 0) (fun w6 => bnd (fm_M_isProcess N w6 v1) (fun u7 r7 => br (decide (r7 = 0)) (fb_M_show_17 N G u7) (br (decide (0 ≤ v3)) (br (decide (v2 = 3)) (ck (inb v1 (ln 109)) (br (decide ((u7.2.2.1 109 v1.toNatClampNeg) = 3)) (br (decide (v3 ≤ 0)) (G.1 u7 (v1) (0)) (fb_M_show_38 N G u7)) (fb_M_show_38 N G u7))) (ck (inb v1 (ln 109)) (br (decide ((u7.2.2.1 109 v1.toNatClampNeg) = 3)) (fb_M_show_113 N G u7) (br (decide (v2 < 0)) (fb_M_show_113 N G u7) (br (decide (v2 ≤ 3)) (ck (inb v1 (ln 95)) (lt (((v1 * 60) + (u7.2.2.1 95 v1.toNatClampNeg)) - 1) (fun y8 => br (decide (v2 = 0)) (ck (inb v1 (ln 108)) (fb_M_show_179 N G u7 (v1) (v2) (v3) (y8) ((u7.2.2.1 108 v1.toNatClampNeg)))) (br (decide (v2 = 1)) (ck (inb v1 (ln 94)) (ck (inb y8 (ln 99)) (fb_M_show_179 N G u7 (v1) (v2) (v3) (y8) (((u7.2.2.1 94 v1.toNatClampNeg) - (u7.2.2.1 99 y8.toNatClampNeg)))))) (ck (inb v1 (ln 92)) (ck (inb y8 (ln 100)) (fb_M_show_179 N G u7 (v1) (v2) (v3) (y8) (((u7.2.2.1 92 v1.toNatClampNeg) - (u7.2.2.1 100 y8.toNatClampNeg)))))))))) (fb_M_show_113 N G u7)))))) (fb_M_show_17 N G u7))))
set_option maxRecDepth 100000 in
set_option maxHeartbeats 4000000 in
theorem wb_M_show_0 {p : Program} {l : Launch} {e : Env} {R : Room} {s : State} {m : MethodId} {args : Array Value} {below : List Frame} {meth : Method} {c : Code} {D : va_G} {cl : List vw_C} {cB cI cJ cZ cS : ClassId} {A : Nat → Prop} {iM h0 : Nat} {ad : Nat → Nat} (C0 : MCx p s m args meth c b_M_show 7 (some .int) D cl cB cI cJ cZ cS iM A) (hR : R = rm_M_show) (N : Nat) (G : (MS → Int32 → Int32 → Option (MS × Int32)) × (MS → Int32 → Option (MS × Int32))) (hG : (∀ (u : MS) (v1 : Int32) (v4 : Int32) (x : MS × Int32), G.1 u v1 v4 = some x → ∀ (H : Heap) (locs : List Loc), va_P D cl (wM cB cI cJ cZ cS iM h0 ad u) H → va_D A (wM cB cI cJ cZ cS iM h0 ad u) → va_S A s.heap H locs → ∀ (ls : Array Slot), lv_has ls 7 [(0, .ref h0), (1, .int v1), (4, .int v4)] → W p l e R s m args below meth c H locs 0 0 (MQ below (mQi D cl cB cI cJ cZ cS iM h0 ad A x) args s 0 0 A) (F0 m 43 ls [])) ∧ (∀ (u : MS) (v6 : Int32) (x : MS × Int32), G.2 u v6 = some x → ∀ (H : Heap) (locs : List Loc), va_P D cl (wM cB cI cJ cZ cS iM h0 ad u) H → va_D A (wM cB cI cJ cZ cS iM h0 ad u) → va_S A s.heap H locs → ∀ (ls : Array Slot), lv_has ls 7 [(0, .ref h0), (6, .int v6)] → W p l e R s m args below meth c H locs 0 0 (MQ below (mQi D cl cB cI cJ cZ cS iM h0 ad A x) args s 0 0 A) (F0 m 263 ls []))) : ∀ (u : MS) (v1 : Int32) (v2 : Int32) (v3 : Int32) (x : MS × Int32), fb_M_show_0 N G u v1 v2 v3 = some x → ∀ (H : Heap) (locs : List Loc), va_P D cl (wM cB cI cJ cZ cS iM h0 ad u) H → va_D A (wM cB cI cJ cZ cS iM h0 ad u) → va_S A s.heap H locs → ∀ (ls : Array Slot), lv_has ls 7 [(0, .ref h0), (1, .int v1), (2, .int v2), (3, .int v3)] → W p l e R s m args below meth c H locs 0 0 (MQ below (mQi D cl cB cI cJ cZ cS iM h0 ad A x) args s 0 0 A) (F0 m 0 ls []) := by
  intro u v1 v2 v3 x hf H locs hP hD hS ls hl
  obtain ⟨hx, hb, hr, hml, ht, hown, hM, hK, hA, hlocks⟩ := id C0
  unfold fb_M_show_0 at hf
  refine lv_aload_n hx hb d_M_show_0 rfl (lv_at hl 0 rfl) ?_
  refine lv_iconst (v := 0) hx hb d_M_show_1 (by decide) ?_
  refine up_I hx hb ht hown hM hK hP hD hS 3 (by decide) lk_M_3 (by decide) rfl rfl rfl d_M_show_2 (fun H locs hP hD hS => ?_)
  obtain ⟨w6, e6, hf⟩ := lt_some hf
  rw [← e6] at hP hD
  refine lv_aload_n hx hb d_M_show_5 rfl (lv_at hl 0 rfl) ?_
  refine lv_iload_n hx hb d_M_show_6 rfl (lv_at hl 1 rfl) ?_
  obtain ⟨u7, r7, hc7, hf⟩ := bnd_some hf
  refine mV_i (As := [.int v1]) (rest := []) C0 hP hD hS (c_M_isProcess N hM hc7) k_M_isProcess hl_M_isProcess hi_M_isProcess hs_M_isProcess hini_M rfl rfl hd_M_isProcess rfl (rm_M_show_M_isProcess hR) hl.1 (Nat.le_of_ble_eq_true rfl) d_M_show_7 rfl ⟨Nat.zero_le _, Nat.zero_le _⟩ (fun H locs hP hD hS => ?_)
  refine lv_if_eq (tgt := 17) hx hb d_M_show_10 (by decide) (fun hc => ?_) (fun hc => ?_)
  · rw [br_p _ hc] at hf
    exact wb_M_show_17 C0 hR N G hG _ _ hf H locs hP hD hS ls (lv_sub hl [] rfl)
  · rw [br_n _ hc] at hf
    refine lv_iload_n hx hb d_M_show_13 rfl (lv_at hl 3 rfl) ?_
    refine lv_if_ge (tgt := 19) hx hb d_M_show_14 (by decide) (fun hc => ?_) (fun hc => ?_)
    · rw [br_p _ hc] at hf
      refine lv_iload_n hx hb d_M_show_19 rfl (lv_at hl 2 rfl) ?_
      refine lv_iconst (v := 3) hx hb d_M_show_20 (by decide) ?_
      refine lv_icmp_ne (tgt := 94) hx hb d_M_show_21 (by decide) (fun hc => ?_) (fun hc => ?_)
      · rw [br_n _ hc] at hf
        refine lv_aload_n hx hb d_M_show_94 rfl (lv_at hl 0 rfl) ?_
        refine ug_R hx hb ht hown hM hK hP 109 (by decide) lk_M_109 (by decide) d_M_show_95 ?_
        refine lv_iload_n hx hb d_M_show_98 rfl (lv_at hl 1 rfl) ?_
        obtain ⟨hi9, hf⟩ := ck_some hf
        refine ul_I hx hb hK hP (by decide) (by decide) hi9 d_M_show_99 ?_
        refine lv_iconst (v := 3) hx hb d_M_show_100 (by decide) ?_
        refine lv_icmp_eq (tgt := 113) hx hb d_M_show_101 (by decide) (fun hc => ?_) (fun hc => ?_)
        · rw [br_p _ hc] at hf
          exact wb_M_show_113 C0 hR N G hG _ _ hf H locs hP hD hS ls (lv_sub hl [] rfl)
        · rw [br_n _ hc] at hf
          refine lv_iload_n hx hb d_M_show_104 rfl (lv_at hl 2 rfl) ?_
          refine lv_if_lt (tgt := 113) hx hb d_M_show_105 (by decide) (fun hc => ?_) (fun hc => ?_)
          · rw [br_p _ hc] at hf
            exact wb_M_show_113 C0 hR N G hG _ _ hf H locs hP hD hS ls (lv_sub hl [] rfl)
          · rw [br_n _ hc] at hf
            refine lv_iload_n hx hb d_M_show_108 rfl (lv_at hl 2 rfl) ?_
            refine lv_iconst (v := 3) hx hb d_M_show_109 (by decide) ?_
            refine lv_icmp_le (tgt := 115) hx hb d_M_show_110 (by decide) (fun hc => ?_) (fun hc => ?_)
            · rw [br_p _ hc] at hf
              refine lv_iload_n hx hb d_M_show_115 rfl (lv_at hl 1 rfl) ?_
              refine lv_bipush (v := 60) hx hb d_M_show_116 (by decide) ?_
              refine lv_imul hx hb d_M_show_118 ?_
              refine lv_aload_n hx hb d_M_show_119 rfl (lv_at hl 0 rfl) ?_
              refine ug_R hx hb ht hown hM hK hP 95 (by decide) lk_M_95 (by decide) d_M_show_120 ?_
              refine lv_iload_n hx hb d_M_show_123 rfl (lv_at hl 1 rfl) ?_
              obtain ⟨hi9, hf⟩ := ck_some hf
              refine ul_I hx hb hK hP (by decide) (by decide) hi9 d_M_show_124 ?_
              refine lv_iadd hx hb d_M_show_125 ?_
              refine lv_iconst (v := 1) hx hb d_M_show_126 (by decide) ?_
              refine lv_isub hx hb d_M_show_127 ?_
              obtain ⟨y8, e8, hf⟩ := lt_some hf
              rw [← e8]
              refine lv_istore (lv' := [(4, .int y8), (0, .ref h0), (1, .int v1), (2, .int v2), (3, .int v3)]) hx hb d_M_show_128 hl (by decide) rfl (fun ls hl => ?_)
              refine lv_iload_n hx hb d_M_show_130 rfl (lv_at hl 3 rfl) ?_
              refine lv_if_ne (tgt := 143) hx hb d_M_show_131 (by decide) (fun hc => ?_) (fun hc => ?_)
              · rw [br_n _ hc] at hf
                refine lv_iload_n hx hb d_M_show_143 rfl (lv_at hl 3 rfl) ?_
                refine lv_iconst (v := 1) hx hb d_M_show_144 (by decide) ?_
                refine lv_icmp_ne (tgt := 165) hx hb d_M_show_145 (by decide) (fun hc => ?_) (fun hc => ?_)
                · rw [br_n _ hc] at hf
                  refine lv_aload_n hx hb d_M_show_165 rfl (lv_at hl 1 rfl) ?_
                  refine ug_R hx hb ht hown hM hK hP 92 (by decide) lk_M_92 (by decide) d_M_show_166 ?_
                  refine lv_iload_n hx hb d_M_show_169 rfl (lv_at hl 2 rfl) ?_
                  obtain ⟨hi9, hf⟩ := ck_some hf
                  refine ul_I hx hb hK hP (by decide) (by decide) hi9 d_M_show_170 ?_
                  refine lv_aload_n hx hb d_M_show_171 rfl (lv_at hl 1 rfl) ?_
                  refine ug_R hx hb ht hown hM hK hP 100 (by decide) lk_M_100 (by decide) d_M_show_172 ?_
                  refine lv_iload hx hb d_M_show_175 (lv_at hl 0 rfl) ?_
                  obtain ⟨hi9, hf⟩ := ck_some hf
                  refine ul_I hx hb hK hP (by decide) (by decide) hi9 d_M_show_177 ?_
                  refine lv_isub hx hb d_M_show_178 ?_
                  exact wb_M_show_179 C0 hR N G hG _ _ _ _ _ _ _ hf H locs hP hD hS ls (lv_sub hl [1, 2, 3, 4, 0] rfl)
                · rw [br_p _ hc] at hf
                  refine lv_aload_n hx hb d_M_show_148 rfl (lv_at hl 1 rfl) ?_
                  refine ug_R hx hb ht hown hM hK hP 94 (by decide) lk_M_94 (by decide) d_M_show_149 ?_
                  refine lv_iload_n hx hb d_M_show_152 rfl (lv_at hl 2 rfl) ?_
                  obtain ⟨hi9, hf⟩ := ck_some hf
                  refine ul_I hx hb hK hP (by decide) (by decide) hi9 d_M_show_153 ?_
                  refine lv_aload_n hx hb d_M_show_154 rfl (lv_at hl 1 rfl) ?_
                  refine ug_R hx hb ht hown hM hK hP 99 (by decide) lk_M_99 (by decide) d_M_show_155 ?_
                  refine lv_iload hx hb d_M_show_158 (lv_at hl 0 rfl) ?_
                  obtain ⟨hi9, hf⟩ := ck_some hf
                  refine ul_I hx hb hK hP (by decide) (by decide) hi9 d_M_show_160 ?_
                  refine lv_isub hx hb d_M_show_161 ?_
                  refine lv_goto (tgt := 179) hx hb d_M_show_162 (by decide) ?_
                  exact wb_M_show_179 C0 hR N G hG _ _ _ _ _ _ _ hf H locs hP hD hS ls (lv_sub hl [1, 2, 3, 4, 0] rfl)
              · rw [br_p _ hc] at hf
                refine lv_aload_n hx hb d_M_show_134 rfl (lv_at hl 1 rfl) ?_
                refine ug_R hx hb ht hown hM hK hP 108 (by decide) lk_M_108 (by decide) d_M_show_135 ?_
                refine lv_iload_n hx hb d_M_show_138 rfl (lv_at hl 2 rfl) ?_
                obtain ⟨hi9, hf⟩ := ck_some hf
                refine ul_I hx hb hK hP (by decide) (by decide) hi9 d_M_show_139 ?_
                refine lv_goto (tgt := 179) hx hb d_M_show_140 (by decide) ?_
                exact wb_M_show_179 C0 hR N G hG _ _ _ _ _ _ _ hf H locs hP hD hS ls (lv_sub hl [1, 2, 3, 4, 0] rfl)
            · rw [br_n _ hc] at hf
              exact wb_M_show_113 C0 hR N G hG _ _ hf H locs hP hD hS ls (lv_sub hl [] rfl)
      · rw [br_p _ hc] at hf
        refine lv_aload_n hx hb d_M_show_24 rfl (lv_at hl 0 rfl) ?_
        refine ug_R hx hb ht hown hM hK hP 109 (by decide) lk_M_109 (by decide) d_M_show_25 ?_
        refine lv_iload_n hx hb d_M_show_28 rfl (lv_at hl 1 rfl) ?_
        obtain ⟨hi9, hf⟩ := ck_some hf
        refine ul_I hx hb hK hP (by decide) (by decide) hi9 d_M_show_29 ?_
        refine lv_iconst (v := 3) hx hb d_M_show_30 (by decide) ?_
        refine lv_icmp_ne (tgt := 38) hx hb d_M_show_31 (by decide) (fun hc => ?_) (fun hc => ?_)
        · rw [br_n _ hc] at hf
          exact wb_M_show_38 C0 hR N G hG _ _ hf H locs hP hD hS ls (lv_sub hl [] rfl)
        · rw [br_p _ hc] at hf
          refine lv_iload_n hx hb d_M_show_34 rfl (lv_at hl 3 rfl) ?_
          refine lv_if_le (tgt := 40) hx hb d_M_show_35 (by decide) (fun hc => ?_) (fun hc => ?_)
          · rw [br_p _ hc] at hf
            refine lv_iconst (v := 0) hx hb d_M_show_40 (by decide) ?_
            refine lv_istore (lv' := [(4, .int 0), (0, .ref h0), (1, .int v1), (2, .int v2), (3, .int v3)]) hx hb d_M_show_41 hl (by decide) rfl (fun ls hl => ?_)
            exact hG.1 _ _ _ _ hf H locs hP hD hS ls (lv_sub hl [1, 2, 0] rfl)
          · rw [br_n _ hc] at hf
            exact wb_M_show_38 C0 hR N G hG _ _ hf H locs hP hD hS ls (lv_sub hl [] rfl)
    · rw [br_n _ hc] at hf
      exact wb_M_show_17 C0 hR N G hG _ _ hf H locs hP hD hS ls (lv_sub hl [] rfl)
def gg_M_show (N : Nat) : Nat → ((MS → Int32 → Int32 → Option (MS × Int32)) × (MS → Int32 → Option (MS × Int32)))
  | 0 => (fun _ _ _ => none, fun _ _ => none)
  | n + 1 => (fb_M_show_43 N (gg_M_show N n), fb_M_show_263 N (gg_M_show N n))
theorem wg_M_show {p : Program} {l : Launch} {e : Env} {R : Room} {s : State} {m : MethodId} {args : Array Value} {below : List Frame} {meth : Method} {c : Code} {D : va_G} {cl : List vw_C} {cB cI cJ cZ cS : ClassId} {A : Nat → Prop} {iM h0 : Nat} {ad : Nat → Nat} (C0 : MCx p s m args meth c b_M_show 7 (some .int) D cl cB cI cJ cZ cS iM A) (hR : R = rm_M_show) (N : Nat) : ∀ n : Nat, (∀ (u : MS) (v1 : Int32) (v4 : Int32) (x : MS × Int32), (gg_M_show N n).1 u v1 v4 = some x → ∀ (H : Heap) (locs : List Loc), va_P D cl (wM cB cI cJ cZ cS iM h0 ad u) H → va_D A (wM cB cI cJ cZ cS iM h0 ad u) → va_S A s.heap H locs → ∀ (ls : Array Slot), lv_has ls 7 [(0, .ref h0), (1, .int v1), (4, .int v4)] → W p l e R s m args below meth c H locs 0 0 (MQ below (mQi D cl cB cI cJ cZ cS iM h0 ad A x) args s 0 0 A) (F0 m 43 ls [])) ∧ (∀ (u : MS) (v6 : Int32) (x : MS × Int32), (gg_M_show N n).2 u v6 = some x → ∀ (H : Heap) (locs : List Loc), va_P D cl (wM cB cI cJ cZ cS iM h0 ad u) H → va_D A (wM cB cI cJ cZ cS iM h0 ad u) → va_S A s.heap H locs → ∀ (ls : Array Slot), lv_has ls 7 [(0, .ref h0), (6, .int v6)] → W p l e R s m args below meth c H locs 0 0 (MQ below (mQi D cl cB cI cJ cZ cS iM h0 ad A x) args s 0 0 A) (F0 m 263 ls []))
  | 0 => ⟨(fun u v1 v4 x hf => by cases hf), (fun u v6 x hf => by cases hf)⟩
  | n + 1 => ⟨wb_M_show_43 C0 hR N (gg_M_show N n) (wg_M_show C0 hR N n), wb_M_show_263 C0 hR N (gg_M_show N n) (wg_M_show C0 hR N n)⟩
def fm_M_show (N : Nat) (u : MS) (v1 : Int32) (v2 : Int32) (v3 : Int32) : Option (MS × Int32) := fb_M_show_0 N (gg_M_show N N) u v1 v2 v3
set_option maxRecDepth 100000 in
set_option maxHeartbeats 4000000 in
theorem c_M_show (N : Nat) {l : Launch} {D : va_G} {cl : List vw_C} {cB cI cJ cZ cS : ClassId} {iM h0 : Nat} {ad : Nat → Nat} {u : MS} {sz : Nat} {v1 : Int32} {v2 : Int32} {v3 : Int32} {x : MS × Int32} (hM : cl[iM]? = some (R_M, F_M, 171)) (hf : fm_M_show N u v1 v2 v3 = some x) : Met l y_M_show (wd_ws y_M_show b_M_show 7 (some .int)) rm_M_show (mPc D cl cB cI cJ cZ cS iM h0 ad u sz [.ref h0, .int v1, .int v2, .int v3]) (mQi D cl cB cI cJ cZ cS iM h0 ad (mA cB cI cJ cZ cS iM h0 ad u sz) x) 0 0 (mA cB cI cJ cZ cS iM h0 ad u sz) :=
  mMet (by decide) rfl hM (Nat.le_of_ble_eq_true rfl) (fun p e s m below meth c ls hsz C0 hP hD hS hl => by
    have hR : rm_M_show = rm_M_show := rfl
    exact wb_M_show_0 C0 hR N (gg_M_show N N) (wg_M_show C0 hR N N) u _ _ _ x hf s.heap [] hP hD hS ls (lv_sub hl [0, 1, 2, 3] rfl))
abbrev b_M_shown : ByteArray := prog_14_method_169_code
def y_M_shown : MethodName := ⟨R_M, "shown", "(I)I"⟩
def w_M_shown : List Cond := wd_ws y_M_shown b_M_shown 2 (some .int)
set_option maxRecDepth 100000 in
theorem k_M_shown : Cond.code y_M_shown b_M_shown 2 (some .int) ∈ wd_tbl := wd_of 3280 rfl rfl
theorem d_M_shown_0 : decode b_M_shown 0 = .ok (.aload_n 0, 1) := by decide +kernel
theorem d_M_shown_1 : decode b_M_shown 1 = .ok (.iconst 0, 1) := by decide +kernel
theorem d_M_shown_2 : decode b_M_shown 2 = .ok (.putfield 369, 3) := by decide +kernel
theorem d_M_shown_5 : decode b_M_shown 5 = .ok (.iload_n 1, 1) := by decide +kernel
theorem d_M_shown_6 : decode b_M_shown 6 = .ok (.ifCond .lt 11, 3) := by decide +kernel
theorem d_M_shown_9 : decode b_M_shown 9 = .ok (.iload_n 1, 1) := by decide +kernel
theorem d_M_shown_10 : decode b_M_shown 10 = .ok (.aload_n 0, 1) := by decide +kernel
theorem d_M_shown_11 : decode b_M_shown 11 = .ok (.getfield 1032, 3) := by decide +kernel
theorem d_M_shown_14 : decode b_M_shown 14 = .ok (.if_icmp .lt 7, 3) := by decide +kernel
theorem d_M_shown_17 : decode b_M_shown 17 = .ok (.iconst (-1), 1) := by decide +kernel
theorem d_M_shown_18 : decode b_M_shown 18 = .ok (.goto 9, 3) := by decide +kernel
theorem d_M_shown_21 : decode b_M_shown 21 = .ok (.aload_n 0, 1) := by decide +kernel
theorem d_M_shown_22 : decode b_M_shown 22 = .ok (.getfield 297, 3) := by decide +kernel
theorem d_M_shown_25 : decode b_M_shown 25 = .ok (.iload_n 1, 1) := by decide +kernel
theorem d_M_shown_26 : decode b_M_shown 26 = .ok (.baload, 1) := by decide +kernel
theorem d_M_shown_27 : decode b_M_shown 27 = .ok (.ireturn, 1) := by decide +kernel
def rm_M_shown : Room := { frames := 0, cells := 0, slots := 0, locals := 0 }
def fb_M_shown_27 (N : Nat) (G : Unit) (u : MS) (t0 : Int32) : Option (MS × Int32) := some (u, t0)
set_option maxRecDepth 100000 in
set_option maxHeartbeats 4000000 in
theorem wb_M_shown_27 {p : Program} {l : Launch} {e : Env} {R : Room} {s : State} {m : MethodId} {args : Array Value} {below : List Frame} {meth : Method} {c : Code} {D : va_G} {cl : List vw_C} {cB cI cJ cZ cS : ClassId} {A : Nat → Prop} {iM h0 : Nat} {ad : Nat → Nat} (C0 : MCx p s m args meth c b_M_shown 2 (some .int) D cl cB cI cJ cZ cS iM A) (hR : R = rm_M_shown) (N : Nat) (G : Unit) (hG : True) : ∀ (u : MS) (t0 : Int32) (x : MS × Int32), fb_M_shown_27 N G u t0 = some x → ∀ (H : Heap) (locs : List Loc), va_P D cl (wM cB cI cJ cZ cS iM h0 ad u) H → va_D A (wM cB cI cJ cZ cS iM h0 ad u) → va_S A s.heap H locs → ∀ (ls : Array Slot), lv_has ls 2 [] → W p l e R s m args below meth c H locs 0 0 (MQ below (mQi D cl cB cI cJ cZ cS iM h0 ad A x) args s 0 0 A) (F0 m 27 ls [.int t0]) := by
  intro u t0 x hf H locs hP hD hS ls hl
  obtain ⟨hx, hb, hr, hml, ht, hown, hM, hK, hA, hlocks⟩ := id C0
  unfold fb_M_shown_27 at hf
  exact mr_i C0 hP hD hS hf d_M_shown_27
def fb_M_shown_17 (N : Nat) (G : Unit) (u : MS) : Option (MS × Int32) := fb_M_shown_27 N G u ((-1))
set_option maxRecDepth 100000 in
set_option maxHeartbeats 4000000 in
theorem wb_M_shown_17 {p : Program} {l : Launch} {e : Env} {R : Room} {s : State} {m : MethodId} {args : Array Value} {below : List Frame} {meth : Method} {c : Code} {D : va_G} {cl : List vw_C} {cB cI cJ cZ cS : ClassId} {A : Nat → Prop} {iM h0 : Nat} {ad : Nat → Nat} (C0 : MCx p s m args meth c b_M_shown 2 (some .int) D cl cB cI cJ cZ cS iM A) (hR : R = rm_M_shown) (N : Nat) (G : Unit) (hG : True) : ∀ (u : MS) (x : MS × Int32), fb_M_shown_17 N G u = some x → ∀ (H : Heap) (locs : List Loc), va_P D cl (wM cB cI cJ cZ cS iM h0 ad u) H → va_D A (wM cB cI cJ cZ cS iM h0 ad u) → va_S A s.heap H locs → ∀ (ls : Array Slot), lv_has ls 2 [] → W p l e R s m args below meth c H locs 0 0 (MQ below (mQi D cl cB cI cJ cZ cS iM h0 ad A x) args s 0 0 A) (F0 m 17 ls []) := by
  intro u x hf H locs hP hD hS ls hl
  obtain ⟨hx, hb, hr, hml, ht, hown, hM, hK, hA, hlocks⟩ := id C0
  unfold fb_M_shown_17 at hf
  refine lv_iconst (v := (-1)) hx hb d_M_shown_17 (by decide) ?_
  refine lv_goto (tgt := 27) hx hb d_M_shown_18 (by decide) ?_
  exact wb_M_shown_27 C0 hR N G hG _ _ _ hf H locs hP hD hS ls (lv_sub hl [] rfl)
def fb_M_shown_0 (N : Nat) (G : Unit) (u : MS) (v1 : Int32) : Option (MS × Int32) := lt (upI u 3 0) (fun w1 => br (decide (v1 < 0)) (fb_M_shown_17 N G w1) (br (decide (v1 < (w1.1 130))) (ck (inb v1 (ln 129)) (fb_M_shown_27 N G w1 ((w1.2.2.1 129 v1.toNatClampNeg)))) (fb_M_shown_17 N G w1)))
set_option maxRecDepth 100000 in
set_option maxHeartbeats 4000000 in
theorem wb_M_shown_0 {p : Program} {l : Launch} {e : Env} {R : Room} {s : State} {m : MethodId} {args : Array Value} {below : List Frame} {meth : Method} {c : Code} {D : va_G} {cl : List vw_C} {cB cI cJ cZ cS : ClassId} {A : Nat → Prop} {iM h0 : Nat} {ad : Nat → Nat} (C0 : MCx p s m args meth c b_M_shown 2 (some .int) D cl cB cI cJ cZ cS iM A) (hR : R = rm_M_shown) (N : Nat) (G : Unit) (hG : True) : ∀ (u : MS) (v1 : Int32) (x : MS × Int32), fb_M_shown_0 N G u v1 = some x → ∀ (H : Heap) (locs : List Loc), va_P D cl (wM cB cI cJ cZ cS iM h0 ad u) H → va_D A (wM cB cI cJ cZ cS iM h0 ad u) → va_S A s.heap H locs → ∀ (ls : Array Slot), lv_has ls 2 [(0, .ref h0), (1, .int v1)] → W p l e R s m args below meth c H locs 0 0 (MQ below (mQi D cl cB cI cJ cZ cS iM h0 ad A x) args s 0 0 A) (F0 m 0 ls []) := by
  intro u v1 x hf H locs hP hD hS ls hl
  obtain ⟨hx, hb, hr, hml, ht, hown, hM, hK, hA, hlocks⟩ := id C0
  unfold fb_M_shown_0 at hf
  refine lv_aload_n hx hb d_M_shown_0 rfl (lv_at hl 0 rfl) ?_
  refine lv_iconst (v := 0) hx hb d_M_shown_1 (by decide) ?_
  refine up_I hx hb ht hown hM hK hP hD hS 3 (by decide) lk_M_3 (by decide) rfl rfl rfl d_M_shown_2 (fun H locs hP hD hS => ?_)
  obtain ⟨w1, e1, hf⟩ := lt_some hf
  rw [← e1] at hP hD
  refine lv_iload_n hx hb d_M_shown_5 rfl (lv_at hl 1 rfl) ?_
  refine lv_if_lt (tgt := 17) hx hb d_M_shown_6 (by decide) (fun hc => ?_) (fun hc => ?_)
  · rw [br_p _ hc] at hf
    exact wb_M_shown_17 C0 hR N G hG _ _ hf H locs hP hD hS ls (lv_sub hl [] rfl)
  · rw [br_n _ hc] at hf
    refine lv_iload_n hx hb d_M_shown_9 rfl (lv_at hl 1 rfl) ?_
    refine lv_aload_n hx hb d_M_shown_10 rfl (lv_at hl 0 rfl) ?_
    refine ug_I hx hb ht hown hM hK hP 130 (by decide) lk_M_130 (by decide) d_M_shown_11 ?_
    refine lv_icmp_lt (tgt := 21) hx hb d_M_shown_14 (by decide) (fun hc => ?_) (fun hc => ?_)
    · rw [br_p _ hc] at hf
      refine lv_aload_n hx hb d_M_shown_21 rfl (lv_at hl 0 rfl) ?_
      refine ug_R hx hb ht hown hM hK hP 129 (by decide) lk_M_129 (by decide) d_M_shown_22 ?_
      refine lv_iload_n hx hb d_M_shown_25 rfl (lv_at hl 1 rfl) ?_
      obtain ⟨hi9, hf⟩ := ck_some hf
      refine ul_B hx hb hK hP (by decide) (by decide) hi9 d_M_shown_26 ?_
      exact wb_M_shown_27 C0 hR N G hG _ _ _ hf H locs hP hD hS ls (lv_sub hl [] rfl)
    · rw [br_n _ hc] at hf
      exact wb_M_shown_17 C0 hR N G hG _ _ hf H locs hP hD hS ls (lv_sub hl [] rfl)
def fm_M_shown (N : Nat) (u : MS) (v1 : Int32) : Option (MS × Int32) := fb_M_shown_0 N () u v1
set_option maxRecDepth 100000 in
set_option maxHeartbeats 4000000 in
theorem c_M_shown (N : Nat) {l : Launch} {D : va_G} {cl : List vw_C} {cB cI cJ cZ cS : ClassId} {iM h0 : Nat} {ad : Nat → Nat} {u : MS} {sz : Nat} {v1 : Int32} {x : MS × Int32} (hM : cl[iM]? = some (R_M, F_M, 171)) (hf : fm_M_shown N u v1 = some x) : Met l y_M_shown (wd_ws y_M_shown b_M_shown 2 (some .int)) rm_M_shown (mPc D cl cB cI cJ cZ cS iM h0 ad u sz [.ref h0, .int v1]) (mQi D cl cB cI cJ cZ cS iM h0 ad (mA cB cI cJ cZ cS iM h0 ad u sz) x) 0 0 (mA cB cI cJ cZ cS iM h0 ad u sz) :=
  mMet (by decide) rfl hM (Nat.le_of_ble_eq_true rfl) (fun p e s m below meth c ls hsz C0 hP hD hS hl => by
    have hR : rm_M_shown = rm_M_shown := rfl
    exact wb_M_shown_0 C0 hR N () trivial u _ x hf s.heap [] hP hD hS ls (lv_sub hl [0, 1] rfl))
abbrev b_M_printed : ByteArray := prog_14_method_170_code
def y_M_printed : MethodName := ⟨R_M, "printed", "(II)I"⟩
def w_M_printed : List Cond := wd_ws y_M_printed b_M_printed 3 (some .int)
set_option maxRecDepth 100000 in
theorem k_M_printed : Cond.code y_M_printed b_M_printed 3 (some .int) ∈ wd_tbl := wd_of 3284 rfl rfl
theorem d_M_printed_0 : decode b_M_printed 0 = .ok (.aload_n 0, 1) := by decide +kernel
theorem d_M_printed_1 : decode b_M_printed 1 = .ok (.iconst 0, 1) := by decide +kernel
theorem d_M_printed_2 : decode b_M_printed 2 = .ok (.putfield 369, 3) := by decide +kernel
theorem d_M_printed_5 : decode b_M_printed 5 = .ok (.aload_n 0, 1) := by decide +kernel
theorem d_M_printed_6 : decode b_M_printed 6 = .ok (.getfield 657, 3) := by decide +kernel
theorem d_M_printed_9 : decode b_M_printed 9 = .ok (.ifCond .eq 29, 3) := by decide +kernel
theorem d_M_printed_12 : decode b_M_printed 12 = .ok (.iload_n 1, 1) := by decide +kernel
theorem d_M_printed_13 : decode b_M_printed 13 = .ok (.ifCond .lt 25, 3) := by decide +kernel
theorem d_M_printed_16 : decode b_M_printed 16 = .ok (.iload_n 1, 1) := by decide +kernel
theorem d_M_printed_17 : decode b_M_printed 17 = .ok (.aload_n 0, 1) := by decide +kernel
theorem d_M_printed_18 : decode b_M_printed 18 = .ok (.getfield 1010, 3) := by decide +kernel
theorem d_M_printed_21 : decode b_M_printed 21 = .ok (.if_icmp .ge 17, 3) := by decide +kernel
theorem d_M_printed_24 : decode b_M_printed 24 = .ok (.iload_n 2, 1) := by decide +kernel
theorem d_M_printed_25 : decode b_M_printed 25 = .ok (.ifCond .lt 13, 3) := by decide +kernel
theorem d_M_printed_28 : decode b_M_printed 28 = .ok (.iload_n 2, 1) := by decide +kernel
theorem d_M_printed_29 : decode b_M_printed 29 = .ok (.aload_n 0, 1) := by decide +kernel
theorem d_M_printed_30 : decode b_M_printed 30 = .ok (.getfield 294, 3) := by decide +kernel
theorem d_M_printed_33 : decode b_M_printed 33 = .ok (.iload_n 1, 1) := by decide +kernel
theorem d_M_printed_34 : decode b_M_printed 34 = .ok (.iaload, 1) := by decide +kernel
theorem d_M_printed_35 : decode b_M_printed 35 = .ok (.if_icmp .lt 7, 3) := by decide +kernel
theorem d_M_printed_38 : decode b_M_printed 38 = .ok (.iconst (-1), 1) := by decide +kernel
theorem d_M_printed_39 : decode b_M_printed 39 = .ok (.goto 14, 3) := by decide +kernel
theorem d_M_printed_42 : decode b_M_printed 42 = .ok (.aload_n 0, 1) := by decide +kernel
theorem d_M_printed_43 : decode b_M_printed 43 = .ok (.getfield 291, 3) := by decide +kernel
theorem d_M_printed_46 : decode b_M_printed 46 = .ok (.bipush 100, 2) := by decide +kernel
theorem d_M_printed_48 : decode b_M_printed 48 = .ok (.iload_n 1, 1) := by decide +kernel
theorem d_M_printed_49 : decode b_M_printed 49 = .ok (.imul, 1) := by decide +kernel
theorem d_M_printed_50 : decode b_M_printed 50 = .ok (.iload_n 2, 1) := by decide +kernel
theorem d_M_printed_51 : decode b_M_printed 51 = .ok (.iadd, 1) := by decide +kernel
theorem d_M_printed_52 : decode b_M_printed 52 = .ok (.baload, 1) := by decide +kernel
theorem d_M_printed_53 : decode b_M_printed 53 = .ok (.ireturn, 1) := by decide +kernel
def rm_M_printed : Room := { frames := 0, cells := 0, slots := 0, locals := 0 }
def fb_M_printed_53 (N : Nat) (G : Unit) (u : MS) (t0 : Int32) : Option (MS × Int32) := some (u, t0)
set_option maxRecDepth 100000 in
set_option maxHeartbeats 4000000 in
theorem wb_M_printed_53 {p : Program} {l : Launch} {e : Env} {R : Room} {s : State} {m : MethodId} {args : Array Value} {below : List Frame} {meth : Method} {c : Code} {D : va_G} {cl : List vw_C} {cB cI cJ cZ cS : ClassId} {A : Nat → Prop} {iM h0 : Nat} {ad : Nat → Nat} (C0 : MCx p s m args meth c b_M_printed 3 (some .int) D cl cB cI cJ cZ cS iM A) (hR : R = rm_M_printed) (N : Nat) (G : Unit) (hG : True) : ∀ (u : MS) (t0 : Int32) (x : MS × Int32), fb_M_printed_53 N G u t0 = some x → ∀ (H : Heap) (locs : List Loc), va_P D cl (wM cB cI cJ cZ cS iM h0 ad u) H → va_D A (wM cB cI cJ cZ cS iM h0 ad u) → va_S A s.heap H locs → ∀ (ls : Array Slot), lv_has ls 3 [] → W p l e R s m args below meth c H locs 0 0 (MQ below (mQi D cl cB cI cJ cZ cS iM h0 ad A x) args s 0 0 A) (F0 m 53 ls [.int t0]) := by
  intro u t0 x hf H locs hP hD hS ls hl
  obtain ⟨hx, hb, hr, hml, ht, hown, hM, hK, hA, hlocks⟩ := id C0
  unfold fb_M_printed_53 at hf
  exact mr_i C0 hP hD hS hf d_M_printed_53
def fb_M_printed_38 (N : Nat) (G : Unit) (u : MS) : Option (MS × Int32) := fb_M_printed_53 N G u ((-1))
set_option maxRecDepth 100000 in
set_option maxHeartbeats 4000000 in
theorem wb_M_printed_38 {p : Program} {l : Launch} {e : Env} {R : Room} {s : State} {m : MethodId} {args : Array Value} {below : List Frame} {meth : Method} {c : Code} {D : va_G} {cl : List vw_C} {cB cI cJ cZ cS : ClassId} {A : Nat → Prop} {iM h0 : Nat} {ad : Nat → Nat} (C0 : MCx p s m args meth c b_M_printed 3 (some .int) D cl cB cI cJ cZ cS iM A) (hR : R = rm_M_printed) (N : Nat) (G : Unit) (hG : True) : ∀ (u : MS) (x : MS × Int32), fb_M_printed_38 N G u = some x → ∀ (H : Heap) (locs : List Loc), va_P D cl (wM cB cI cJ cZ cS iM h0 ad u) H → va_D A (wM cB cI cJ cZ cS iM h0 ad u) → va_S A s.heap H locs → ∀ (ls : Array Slot), lv_has ls 3 [] → W p l e R s m args below meth c H locs 0 0 (MQ below (mQi D cl cB cI cJ cZ cS iM h0 ad A x) args s 0 0 A) (F0 m 38 ls []) := by
  intro u x hf H locs hP hD hS ls hl
  obtain ⟨hx, hb, hr, hml, ht, hown, hM, hK, hA, hlocks⟩ := id C0
  unfold fb_M_printed_38 at hf
  refine lv_iconst (v := (-1)) hx hb d_M_printed_38 (by decide) ?_
  refine lv_goto (tgt := 53) hx hb d_M_printed_39 (by decide) ?_
  exact wb_M_printed_53 C0 hR N G hG _ _ _ hf H locs hP hD hS ls (lv_sub hl [] rfl)
def fb_M_printed_0 (N : Nat) (G : Unit) (u : MS) (v1 : Int32) (v2 : Int32) : Option (MS × Int32) := lt (upI u 3 0) (fun w1 => br (decide ((w1.1 87) = 0)) (fb_M_printed_38 N G w1) (br (decide (v1 < 0)) (fb_M_printed_38 N G w1) (br (decide ((w1.1 128) ≤ v1)) (fb_M_printed_38 N G w1) (br (decide (v2 < 0)) (fb_M_printed_38 N G w1) (ck (inb v1 (ln 127)) (br (decide (v2 < (w1.2.2.1 127 v1.toNatClampNeg))) (ck (inb ((100 * v1) + v2) (ln 126)) (fb_M_printed_53 N G w1 ((w1.2.2.1 126 ((100 * v1) + v2).toNatClampNeg)))) (fb_M_printed_38 N G w1)))))))
set_option maxRecDepth 100000 in
set_option maxHeartbeats 4000000 in
theorem wb_M_printed_0 {p : Program} {l : Launch} {e : Env} {R : Room} {s : State} {m : MethodId} {args : Array Value} {below : List Frame} {meth : Method} {c : Code} {D : va_G} {cl : List vw_C} {cB cI cJ cZ cS : ClassId} {A : Nat → Prop} {iM h0 : Nat} {ad : Nat → Nat} (C0 : MCx p s m args meth c b_M_printed 3 (some .int) D cl cB cI cJ cZ cS iM A) (hR : R = rm_M_printed) (N : Nat) (G : Unit) (hG : True) : ∀ (u : MS) (v1 : Int32) (v2 : Int32) (x : MS × Int32), fb_M_printed_0 N G u v1 v2 = some x → ∀ (H : Heap) (locs : List Loc), va_P D cl (wM cB cI cJ cZ cS iM h0 ad u) H → va_D A (wM cB cI cJ cZ cS iM h0 ad u) → va_S A s.heap H locs → ∀ (ls : Array Slot), lv_has ls 3 [(0, .ref h0), (1, .int v1), (2, .int v2)] → W p l e R s m args below meth c H locs 0 0 (MQ below (mQi D cl cB cI cJ cZ cS iM h0 ad A x) args s 0 0 A) (F0 m 0 ls []) := by
  intro u v1 v2 x hf H locs hP hD hS ls hl
  obtain ⟨hx, hb, hr, hml, ht, hown, hM, hK, hA, hlocks⟩ := id C0
  unfold fb_M_printed_0 at hf
  refine lv_aload_n hx hb d_M_printed_0 rfl (lv_at hl 0 rfl) ?_
  refine lv_iconst (v := 0) hx hb d_M_printed_1 (by decide) ?_
  refine up_I hx hb ht hown hM hK hP hD hS 3 (by decide) lk_M_3 (by decide) rfl rfl rfl d_M_printed_2 (fun H locs hP hD hS => ?_)
  obtain ⟨w1, e1, hf⟩ := lt_some hf
  rw [← e1] at hP hD
  refine lv_aload_n hx hb d_M_printed_5 rfl (lv_at hl 0 rfl) ?_
  refine ug_I hx hb ht hown hM hK hP 87 (by decide) lk_M_87 (by decide) d_M_printed_6 ?_
  refine lv_if_eq (tgt := 38) hx hb d_M_printed_9 (by decide) (fun hc => ?_) (fun hc => ?_)
  · rw [br_p _ hc] at hf
    exact wb_M_printed_38 C0 hR N G hG _ _ hf H locs hP hD hS ls (lv_sub hl [] rfl)
  · rw [br_n _ hc] at hf
    refine lv_iload_n hx hb d_M_printed_12 rfl (lv_at hl 1 rfl) ?_
    refine lv_if_lt (tgt := 38) hx hb d_M_printed_13 (by decide) (fun hc => ?_) (fun hc => ?_)
    · rw [br_p _ hc] at hf
      exact wb_M_printed_38 C0 hR N G hG _ _ hf H locs hP hD hS ls (lv_sub hl [] rfl)
    · rw [br_n _ hc] at hf
      refine lv_iload_n hx hb d_M_printed_16 rfl (lv_at hl 1 rfl) ?_
      refine lv_aload_n hx hb d_M_printed_17 rfl (lv_at hl 0 rfl) ?_
      refine ug_I hx hb ht hown hM hK hP 128 (by decide) lk_M_128 (by decide) d_M_printed_18 ?_
      refine lv_icmp_ge (tgt := 38) hx hb d_M_printed_21 (by decide) (fun hc => ?_) (fun hc => ?_)
      · rw [br_p _ hc] at hf
        exact wb_M_printed_38 C0 hR N G hG _ _ hf H locs hP hD hS ls (lv_sub hl [] rfl)
      · rw [br_n _ hc] at hf
        refine lv_iload_n hx hb d_M_printed_24 rfl (lv_at hl 2 rfl) ?_
        refine lv_if_lt (tgt := 38) hx hb d_M_printed_25 (by decide) (fun hc => ?_) (fun hc => ?_)
        · rw [br_p _ hc] at hf
          exact wb_M_printed_38 C0 hR N G hG _ _ hf H locs hP hD hS ls (lv_sub hl [] rfl)
        · rw [br_n _ hc] at hf
          refine lv_iload_n hx hb d_M_printed_28 rfl (lv_at hl 2 rfl) ?_
          refine lv_aload_n hx hb d_M_printed_29 rfl (lv_at hl 0 rfl) ?_
          refine ug_R hx hb ht hown hM hK hP 127 (by decide) lk_M_127 (by decide) d_M_printed_30 ?_
          refine lv_iload_n hx hb d_M_printed_33 rfl (lv_at hl 1 rfl) ?_
          obtain ⟨hi9, hf⟩ := ck_some hf
          refine ul_I hx hb hK hP (by decide) (by decide) hi9 d_M_printed_34 ?_
          refine lv_icmp_lt (tgt := 42) hx hb d_M_printed_35 (by decide) (fun hc => ?_) (fun hc => ?_)
          · rw [br_p _ hc] at hf
            refine lv_aload_n hx hb d_M_printed_42 rfl (lv_at hl 0 rfl) ?_
            refine ug_R hx hb ht hown hM hK hP 126 (by decide) lk_M_126 (by decide) d_M_printed_43 ?_
            refine lv_bipush (v := 100) hx hb d_M_printed_46 (by decide) ?_
            refine lv_iload_n hx hb d_M_printed_48 rfl (lv_at hl 1 rfl) ?_
            refine lv_imul hx hb d_M_printed_49 ?_
            refine lv_iload_n hx hb d_M_printed_50 rfl (lv_at hl 2 rfl) ?_
            refine lv_iadd hx hb d_M_printed_51 ?_
            obtain ⟨hi9, hf⟩ := ck_some hf
            refine ul_B hx hb hK hP (by decide) (by decide) hi9 d_M_printed_52 ?_
            exact wb_M_printed_53 C0 hR N G hG _ _ _ hf H locs hP hD hS ls (lv_sub hl [] rfl)
          · rw [br_n _ hc] at hf
            exact wb_M_printed_38 C0 hR N G hG _ _ hf H locs hP hD hS ls (lv_sub hl [] rfl)
def fm_M_printed (N : Nat) (u : MS) (v1 : Int32) (v2 : Int32) : Option (MS × Int32) := fb_M_printed_0 N () u v1 v2
set_option maxRecDepth 100000 in
set_option maxHeartbeats 4000000 in
theorem c_M_printed (N : Nat) {l : Launch} {D : va_G} {cl : List vw_C} {cB cI cJ cZ cS : ClassId} {iM h0 : Nat} {ad : Nat → Nat} {u : MS} {sz : Nat} {v1 : Int32} {v2 : Int32} {x : MS × Int32} (hM : cl[iM]? = some (R_M, F_M, 171)) (hf : fm_M_printed N u v1 v2 = some x) : Met l y_M_printed (wd_ws y_M_printed b_M_printed 3 (some .int)) rm_M_printed (mPc D cl cB cI cJ cZ cS iM h0 ad u sz [.ref h0, .int v1, .int v2]) (mQi D cl cB cI cJ cZ cS iM h0 ad (mA cB cI cJ cZ cS iM h0 ad u sz) x) 0 0 (mA cB cI cJ cZ cS iM h0 ad u sz) :=
  mMet (by decide) rfl hM (Nat.le_of_ble_eq_true rfl) (fun p e s m below meth c ls hsz C0 hP hD hS hl => by
    have hR : rm_M_printed = rm_M_printed := rfl
    exact wb_M_printed_0 C0 hR N () trivial u _ _ x hf s.heap [] hP hD hS ls (lv_sub hl [0, 1, 2] rfl))
