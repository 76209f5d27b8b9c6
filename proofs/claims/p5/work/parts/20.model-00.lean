theorem tiN {x k : Int32} (h : ¬ x = k) : x.toInt ≠ k.toInt := fun z => h (Int32.toInt_inj.mp z)
set_option maxRecDepth 100000 in
theorem hini_M : Cond.initialized R_M ∈ wd_tbl := wd_of 280 (by decide +kernel) rfl
def fb_M_thrown_0 (N : Nat) (G : Unit) (u : MS) : Option (MS × Int32) := some (u, (u.1 3))
def fm_M_thrown (N : Nat) (u : MS) : Option (MS × Int32) := fb_M_thrown_0 N () u
abbrev b_M_feed : ByteArray := prog_14_method_3_code
def y_M_feed : MethodName := ⟨R_M, "feed", "(IIIII)I"⟩
def w_M_feed : List Cond := wd_ws y_M_feed b_M_feed 8 (some .int)
set_option maxRecDepth 100000 in
theorem k_M_feed : Cond.code y_M_feed b_M_feed 8 (some .int) ∈ wd_tbl := wd_of 2625 rfl rfl
theorem d_M_feed_0 : decode b_M_feed 0 = .ok (.aload_n 0, 1) := by decide +kernel
theorem d_M_feed_1 : decode b_M_feed 1 = .ok (.iconst 0, 1) := by decide +kernel
theorem d_M_feed_2 : decode b_M_feed 2 = .ok (.putfield 369, 3) := by decide +kernel
theorem d_M_feed_5 : decode b_M_feed 5 = .ok (.aload_n 0, 1) := by decide +kernel
theorem d_M_feed_6 : decode b_M_feed 6 = .ok (.getfield 372, 3) := by decide +kernel
theorem d_M_feed_9 : decode b_M_feed 9 = .ok (.bipush 20, 2) := by decide +kernel
theorem d_M_feed_11 : decode b_M_feed 11 = .ok (.iadd, 1) := by decide +kernel
theorem d_M_feed_12 : decode b_M_feed 12 = .ok (.sipush 4000, 3) := by decide +kernel
theorem d_M_feed_15 : decode b_M_feed 15 = .ok (.if_icmp .le 5, 3) := by decide +kernel
theorem d_M_feed_18 : decode b_M_feed 18 = .ok (.iconst (-1), 1) := by decide +kernel
theorem d_M_feed_19 : decode b_M_feed 19 = .ok (.ireturn, 1) := by decide +kernel
theorem d_M_feed_20 : decode b_M_feed 20 = .ok (.iconst 0, 1) := by decide +kernel
theorem d_M_feed_21 : decode b_M_feed 21 = .ok (.istore 6, 2) := by decide +kernel
theorem d_M_feed_23 : decode b_M_feed 23 = .ok (.iload 6, 2) := by decide +kernel
theorem d_M_feed_25 : decode b_M_feed 25 = .ok (.bipush 20, 2) := by decide +kernel
theorem d_M_feed_27 : decode b_M_feed 27 = .ok (.if_icmp .ge 90, 3) := by decide +kernel
theorem d_M_feed_30 : decode b_M_feed 30 = .ok (.iload 6, 2) := by decide +kernel
theorem d_M_feed_32 : decode b_M_feed 32 = .ok (.iconst 4, 1) := by decide +kernel
theorem d_M_feed_33 : decode b_M_feed 33 = .ok (.if_icmp .ge 7, 3) := by decide +kernel
theorem d_M_feed_36 : decode b_M_feed 36 = .ok (.iload_n 1, 1) := by decide +kernel
theorem d_M_feed_37 : decode b_M_feed 37 = .ok (.goto 39, 3) := by decide +kernel
theorem d_M_feed_40 : decode b_M_feed 40 = .ok (.iload 6, 2) := by decide +kernel
theorem d_M_feed_42 : decode b_M_feed 42 = .ok (.bipush 8, 2) := by decide +kernel
theorem d_M_feed_44 : decode b_M_feed 44 = .ok (.if_icmp .ge 7, 3) := by decide +kernel
theorem d_M_feed_47 : decode b_M_feed 47 = .ok (.iload_n 2, 1) := by decide +kernel
theorem d_M_feed_48 : decode b_M_feed 48 = .ok (.goto 28, 3) := by decide +kernel
theorem d_M_feed_51 : decode b_M_feed 51 = .ok (.iload 6, 2) := by decide +kernel
theorem d_M_feed_53 : decode b_M_feed 53 = .ok (.bipush 12, 2) := by decide +kernel
theorem d_M_feed_55 : decode b_M_feed 55 = .ok (.if_icmp .ge 7, 3) := by decide +kernel
theorem d_M_feed_58 : decode b_M_feed 58 = .ok (.iload_n 3, 1) := by decide +kernel
theorem d_M_feed_59 : decode b_M_feed 59 = .ok (.goto 17, 3) := by decide +kernel
theorem d_M_feed_62 : decode b_M_feed 62 = .ok (.iload 6, 2) := by decide +kernel
theorem d_M_feed_64 : decode b_M_feed 64 = .ok (.bipush 16, 2) := by decide +kernel
theorem d_M_feed_66 : decode b_M_feed 66 = .ok (.if_icmp .ge 8, 3) := by decide +kernel
theorem d_M_feed_69 : decode b_M_feed 69 = .ok (.iload 4, 2) := by decide +kernel
theorem d_M_feed_71 : decode b_M_feed 71 = .ok (.goto 5, 3) := by decide +kernel
theorem d_M_feed_74 : decode b_M_feed 74 = .ok (.iload 5, 2) := by decide +kernel
theorem d_M_feed_76 : decode b_M_feed 76 = .ok (.istore 7, 2) := by decide +kernel
theorem d_M_feed_78 : decode b_M_feed 78 = .ok (.aload_n 0, 1) := by decide +kernel
theorem d_M_feed_79 : decode b_M_feed 79 = .ok (.getfield 19, 3) := by decide +kernel
theorem d_M_feed_82 : decode b_M_feed 82 = .ok (.aload_n 0, 1) := by decide +kernel
theorem d_M_feed_83 : decode b_M_feed 83 = .ok (.getfield 372, 3) := by decide +kernel
theorem d_M_feed_86 : decode b_M_feed 86 = .ok (.iload 7, 2) := by decide +kernel
theorem d_M_feed_88 : decode b_M_feed 88 = .ok (.bipush 24, 2) := by decide +kernel
theorem d_M_feed_90 : decode b_M_feed 90 = .ok (.bipush 8, 2) := by decide +kernel
theorem d_M_feed_92 : decode b_M_feed 92 = .ok (.iload 6, 2) := by decide +kernel
theorem d_M_feed_94 : decode b_M_feed 94 = .ok (.iconst 4, 1) := by decide +kernel
theorem d_M_feed_95 : decode b_M_feed 95 = .ok (.irem, 1) := by decide +kernel
theorem d_M_feed_96 : decode b_M_feed 96 = .ok (.imul, 1) := by decide +kernel
theorem d_M_feed_97 : decode b_M_feed 97 = .ok (.isub, 1) := by decide +kernel
theorem d_M_feed_98 : decode b_M_feed 98 = .ok (.iushr, 1) := by decide +kernel
theorem d_M_feed_99 : decode b_M_feed 99 = .ok (.i2b, 1) := by decide +kernel
theorem d_M_feed_100 : decode b_M_feed 100 = .ok (.bastore, 1) := by decide +kernel
theorem d_M_feed_101 : decode b_M_feed 101 = .ok (.aload_n 0, 1) := by decide +kernel
theorem d_M_feed_102 : decode b_M_feed 102 = .ok (.dup, 1) := by decide +kernel
theorem d_M_feed_103 : decode b_M_feed 103 = .ok (.getfield 372, 3) := by decide +kernel
theorem d_M_feed_106 : decode b_M_feed 106 = .ok (.iconst 1, 1) := by decide +kernel
theorem d_M_feed_107 : decode b_M_feed 107 = .ok (.iadd, 1) := by decide +kernel
theorem d_M_feed_108 : decode b_M_feed 108 = .ok (.putfield 372, 3) := by decide +kernel
theorem d_M_feed_111 : decode b_M_feed 111 = .ok (.iinc 6 1, 3) := by decide +kernel
theorem d_M_feed_114 : decode b_M_feed 114 = .ok (.goto (-91), 3) := by decide +kernel
theorem d_M_feed_117 : decode b_M_feed 117 = .ok (.aload_n 0, 1) := by decide +kernel
theorem d_M_feed_118 : decode b_M_feed 118 = .ok (.getfield 372, 3) := by decide +kernel
theorem d_M_feed_121 : decode b_M_feed 121 = .ok (.ireturn, 1) := by decide +kernel
def rm_M_feed : Room := { frames := 0, cells := 0, slots := 0, locals := 0 }
def fb_M_feed_76 (N : Nat) (G : (MS → Int32 → Int32 → Int32 → Int32 → Int32 → Int32 → Option (MS × Int32))) (u : MS) (v1 : Int32) (v2 : Int32) (v3 : Int32) (v4 : Int32) (v5 : Int32) (v6 : Int32) (t0 : Int32) : Option (MS × Int32) := ck (inb (u.1 5) (ln 4)) (lt (upA u 4 (upd (u.2.2.1 4) (u.1 5).toNatClampNeg (vp_nar .byte (((t0.toUInt32 >>> ((24 - (8 * (v6 - v6 / 4 * 4))).toUInt32 &&& Int32.toUInt32 31)).toInt32).toInt8.toInt32)))) (fun w1 => lt (upI w1 5 ((w1.1 5) + 1)) (fun w2 => G w2 (v1) (v2) (v3) (v4) (v5) ((v6 + 1)))))
set_option maxRecDepth 100000 in
set_option maxHeartbeats 4000000 in
theorem wb_M_feed_76 {p : Program} {l : Launch} {e : Env} {R : Room} {s : State} {m : MethodId} {args : Array Value} {below : List Frame} {meth : Method} {c : Code} {D : va_G} {cl : List vw_C} {cB cI cJ cZ cS : ClassId} {A : Nat → Prop} {iM h0 : Nat} {ad : Nat → Nat} (C0 : MCx p s m args meth c b_M_feed 8 (some .int) D cl cB cI cJ cZ cS iM A) (hR : R = rm_M_feed) (N : Nat) (G : (MS → Int32 → Int32 → Int32 → Int32 → Int32 → Int32 → Option (MS × Int32))) (hG : (∀ (u : MS) (v1 : Int32) (v2 : Int32) (v3 : Int32) (v4 : Int32) (v5 : Int32) (v6 : Int32) (x : MS × Int32), G u v1 v2 v3 v4 v5 v6 = some x → ∀ (H : Heap) (locs : List Loc), va_P D cl (wM cB cI cJ cZ cS iM h0 ad u) H → va_D A (wM cB cI cJ cZ cS iM h0 ad u) → va_S A s.heap H locs → ∀ (ls : Array Slot), lv_has ls 8 [(0, .ref h0), (1, .int v1), (2, .int v2), (3, .int v3), (4, .int v4), (5, .int v5), (6, .int v6)] → W p l e R s m args below meth c H locs 0 0 (MQ below (mQi D cl cB cI cJ cZ cS iM h0 ad A x) args s 0 0 A) (F0 m 23 ls []))) : ∀ (u : MS) (v1 : Int32) (v2 : Int32) (v3 : Int32) (v4 : Int32) (v5 : Int32) (v6 : Int32) (t0 : Int32) (x : MS × Int32), fb_M_feed_76 N G u v1 v2 v3 v4 v5 v6 t0 = some x → ∀ (H : Heap) (locs : List Loc), va_P D cl (wM cB cI cJ cZ cS iM h0 ad u) H → va_D A (wM cB cI cJ cZ cS iM h0 ad u) → va_S A s.heap H locs → ∀ (ls : Array Slot), lv_has ls 8 [(0, .ref h0), (1, .int v1), (2, .int v2), (3, .int v3), (4, .int v4), (5, .int v5), (6, .int v6)] → W p l e R s m args below meth c H locs 0 0 (MQ below (mQi D cl cB cI cJ cZ cS iM h0 ad A x) args s 0 0 A) (F0 m 76 ls [.int t0]) := by
  intro u v1 v2 v3 v4 v5 v6 t0 x hf H locs hP hD hS ls hl
  obtain ⟨hx, hb, hr, hml, ht, hown, hM, hK, hA, hlocks⟩ := id C0
  unfold fb_M_feed_76 at hf
  refine lv_istore (lv' := [(7, .int t0), (0, .ref h0), (1, .int v1), (2, .int v2), (3, .int v3), (4, .int v4), (5, .int v5), (6, .int v6)]) hx hb d_M_feed_76 hl (by decide) rfl (fun ls hl => ?_)
  refine lv_aload_n hx hb d_M_feed_78 rfl (lv_at hl 1 rfl) ?_
  refine ug_R hx hb ht hown hM hK hP 4 (by decide) lk_M_4 (by decide) d_M_feed_79 ?_
  refine lv_aload_n hx hb d_M_feed_82 rfl (lv_at hl 1 rfl) ?_
  refine ug_I hx hb ht hown hM hK hP 5 (by decide) lk_M_5 (by decide) d_M_feed_83 ?_
  refine lv_iload hx hb d_M_feed_86 (lv_at hl 0 rfl) ?_
  refine lv_bipush (v := 24) hx hb d_M_feed_88 (by decide) ?_
  refine lv_bipush (v := 8) hx hb d_M_feed_90 (by decide) ?_
  refine lv_iload hx hb d_M_feed_92 (lv_at hl 7 rfl) ?_
  refine lv_iconst (v := 4) hx hb d_M_feed_94 (by decide) ?_
  refine lv_irem hx hb d_M_feed_95 (by decide) ?_
  refine lv_imul hx hb d_M_feed_96 ?_
  refine lv_isub hx hb d_M_feed_97 ?_
  refine lv_iushr hx hb d_M_feed_98 rfl ?_
  refine lv_i2b hx hb d_M_feed_99 rfl ?_
  obtain ⟨hi9, hf⟩ := ck_some hf
  refine us_B hx hb hK hP hD hS (by decide) (by decide) hi9 d_M_feed_100 (fun H locs hP hD hS => ?_)
  obtain ⟨w1, e1, hf⟩ := lt_some hf
  rw [← e1] at hP hD
  refine lv_aload_n hx hb d_M_feed_101 rfl (lv_at hl 1 rfl) ?_
  refine lv_dup hx hb d_M_feed_102 rfl ?_
  refine ug_I hx hb ht hown hM hK hP 5 (by decide) lk_M_5 (by decide) d_M_feed_103 ?_
  refine lv_iconst (v := 1) hx hb d_M_feed_106 (by decide) ?_
  refine lv_iadd hx hb d_M_feed_107 ?_
  refine up_I hx hb ht hown hM hK hP hD hS 5 (by decide) lk_M_5 (by decide) rfl rfl rfl d_M_feed_108 (fun H locs hP hD hS => ?_)
  obtain ⟨w2, e2, hf⟩ := lt_some hf
  rw [← e2] at hP hD
  refine lv_iinc (v := (v6 + 1)) (lv' := [(6, .int (v6 + 1)), (7, .int t0), (0, .ref h0), (1, .int v1), (2, .int v2), (3, .int v3), (4, .int v4), (5, .int v5)]) hx hb d_M_feed_111 hl (k := 7) rfl rfl (by decide) rfl (fun ls hl => ?_)
  refine lv_goto (tgt := 23) hx hb d_M_feed_114 (by decide) ?_
  exact hG _ _ _ _ _ _ _ _ hf H locs hP hD hS ls (lv_sub hl [2, 3, 4, 5, 6, 7, 0] rfl)
def fb_M_feed_23 (N : Nat) (G : (MS → Int32 → Int32 → Int32 → Int32 → Int32 → Int32 → Option (MS × Int32))) (u : MS) (v1 : Int32) (v2 : Int32) (v3 : Int32) (v4 : Int32) (v5 : Int32) (v6 : Int32) : Option (MS × Int32) := br (decide (20 ≤ v6)) (some (u, (u.1 5))) (br (decide (4 ≤ v6)) (br (decide (8 ≤ v6)) (br (decide (12 ≤ v6)) (br (decide (16 ≤ v6)) (fb_M_feed_76 N G u (v1) (v2) (v3) (v4) (v5) (v6) (v5)) (fb_M_feed_76 N G u (v1) (v2) (v3) (v4) (v5) (v6) (v4))) (fb_M_feed_76 N G u (v1) (v2) (v3) (v4) (v5) (v6) (v3))) (fb_M_feed_76 N G u (v1) (v2) (v3) (v4) (v5) (v6) (v2))) (fb_M_feed_76 N G u (v1) (v2) (v3) (v4) (v5) (v6) (v1)))
set_option maxRecDepth 100000 in
set_option maxHeartbeats 4000000 in
theorem wb_M_feed_23 {p : Program} {l : Launch} {e : Env} {R : Room} {s : State} {m : MethodId} {args : Array Value} {below : List Frame} {meth : Method} {c : Code} {D : va_G} {cl : List vw_C} {cB cI cJ cZ cS : ClassId} {A : Nat → Prop} {iM h0 : Nat} {ad : Nat → Nat} (C0 : MCx p s m args meth c b_M_feed 8 (some .int) D cl cB cI cJ cZ cS iM A) (hR : R = rm_M_feed) (N : Nat) (G : (MS → Int32 → Int32 → Int32 → Int32 → Int32 → Int32 → Option (MS × Int32))) (hG : (∀ (u : MS) (v1 : Int32) (v2 : Int32) (v3 : Int32) (v4 : Int32) (v5 : Int32) (v6 : Int32) (x : MS × Int32), G u v1 v2 v3 v4 v5 v6 = some x → ∀ (H : Heap) (locs : List Loc), va_P D cl (wM cB cI cJ cZ cS iM h0 ad u) H → va_D A (wM cB cI cJ cZ cS iM h0 ad u) → va_S A s.heap H locs → ∀ (ls : Array Slot), lv_has ls 8 [(0, .ref h0), (1, .int v1), (2, .int v2), (3, .int v3), (4, .int v4), (5, .int v5), (6, .int v6)] → W p l e R s m args below meth c H locs 0 0 (MQ below (mQi D cl cB cI cJ cZ cS iM h0 ad A x) args s 0 0 A) (F0 m 23 ls []))) : ∀ (u : MS) (v1 : Int32) (v2 : Int32) (v3 : Int32) (v4 : Int32) (v5 : Int32) (v6 : Int32) (x : MS × Int32), fb_M_feed_23 N G u v1 v2 v3 v4 v5 v6 = some x → ∀ (H : Heap) (locs : List Loc), va_P D cl (wM cB cI cJ cZ cS iM h0 ad u) H → va_D A (wM cB cI cJ cZ cS iM h0 ad u) → va_S A s.heap H locs → ∀ (ls : Array Slot), lv_has ls 8 [(0, .ref h0), (1, .int v1), (2, .int v2), (3, .int v3), (4, .int v4), (5, .int v5), (6, .int v6)] → W p l e R s m args below meth c H locs 0 0 (MQ below (mQi D cl cB cI cJ cZ cS iM h0 ad A x) args s 0 0 A) (F0 m 23 ls []) := by
  intro u v1 v2 v3 v4 v5 v6 x hf H locs hP hD hS ls hl
  obtain ⟨hx, hb, hr, hml, ht, hown, hM, hK, hA, hlocks⟩ := id C0
  unfold fb_M_feed_23 at hf
  refine lv_iload hx hb d_M_feed_23 (lv_at hl 6 rfl) ?_
  refine lv_bipush (v := 20) hx hb d_M_feed_25 (by decide) ?_
  refine lv_icmp_ge (tgt := 117) hx hb d_M_feed_27 (by decide) (fun hc => ?_) (fun hc => ?_)
  · rw [br_p _ hc] at hf
    refine lv_aload_n hx hb d_M_feed_117 rfl (lv_at hl 0 rfl) ?_
    refine ug_I hx hb ht hown hM hK hP 5 (by decide) lk_M_5 (by decide) d_M_feed_118 ?_
    exact mr_i C0 hP hD hS hf d_M_feed_121
  · rw [br_n _ hc] at hf
    refine lv_iload hx hb d_M_feed_30 (lv_at hl 6 rfl) ?_
    refine lv_iconst (v := 4) hx hb d_M_feed_32 (by decide) ?_
    refine lv_icmp_ge (tgt := 40) hx hb d_M_feed_33 (by decide) (fun hc => ?_) (fun hc => ?_)
    · rw [br_p _ hc] at hf
      refine lv_iload hx hb d_M_feed_40 (lv_at hl 6 rfl) ?_
      refine lv_bipush (v := 8) hx hb d_M_feed_42 (by decide) ?_
      refine lv_icmp_ge (tgt := 51) hx hb d_M_feed_44 (by decide) (fun hc => ?_) (fun hc => ?_)
      · rw [br_p _ hc] at hf
        refine lv_iload hx hb d_M_feed_51 (lv_at hl 6 rfl) ?_
        refine lv_bipush (v := 12) hx hb d_M_feed_53 (by decide) ?_
        refine lv_icmp_ge (tgt := 62) hx hb d_M_feed_55 (by decide) (fun hc => ?_) (fun hc => ?_)
        · rw [br_p _ hc] at hf
          refine lv_iload hx hb d_M_feed_62 (lv_at hl 6 rfl) ?_
          refine lv_bipush (v := 16) hx hb d_M_feed_64 (by decide) ?_
          refine lv_icmp_ge (tgt := 74) hx hb d_M_feed_66 (by decide) (fun hc => ?_) (fun hc => ?_)
          · rw [br_p _ hc] at hf
            refine lv_iload hx hb d_M_feed_74 (lv_at hl 5 rfl) ?_
            exact wb_M_feed_76 C0 hR N G hG _ _ _ _ _ _ _ _ _ hf H locs hP hD hS ls (lv_sub hl [0, 1, 2, 3, 4, 5, 6] rfl)
          · rw [br_n _ hc] at hf
            refine lv_iload hx hb d_M_feed_69 (lv_at hl 4 rfl) ?_
            refine lv_goto (tgt := 76) hx hb d_M_feed_71 (by decide) ?_
            exact wb_M_feed_76 C0 hR N G hG _ _ _ _ _ _ _ _ _ hf H locs hP hD hS ls (lv_sub hl [0, 1, 2, 3, 4, 5, 6] rfl)
        · rw [br_n _ hc] at hf
          refine lv_iload_n hx hb d_M_feed_58 rfl (lv_at hl 3 rfl) ?_
          refine lv_goto (tgt := 76) hx hb d_M_feed_59 (by decide) ?_
          exact wb_M_feed_76 C0 hR N G hG _ _ _ _ _ _ _ _ _ hf H locs hP hD hS ls (lv_sub hl [0, 1, 2, 3, 4, 5, 6] rfl)
      · rw [br_n _ hc] at hf
        refine lv_iload_n hx hb d_M_feed_47 rfl (lv_at hl 2 rfl) ?_
        refine lv_goto (tgt := 76) hx hb d_M_feed_48 (by decide) ?_
        exact wb_M_feed_76 C0 hR N G hG _ _ _ _ _ _ _ _ _ hf H locs hP hD hS ls (lv_sub hl [0, 1, 2, 3, 4, 5, 6] rfl)
    · rw [br_n _ hc] at hf
      refine lv_iload_n hx hb d_M_feed_36 rfl (lv_at hl 1 rfl) ?_
      refine lv_goto (tgt := 76) hx hb d_M_feed_37 (by decide) ?_
      exact wb_M_feed_76 C0 hR N G hG _ _ _ _ _ _ _ _ _ hf H locs hP hD hS ls (lv_sub hl [0, 1, 2, 3, 4, 5, 6] rfl)
def fb_M_feed_0 (N : Nat) (G : (MS → Int32 → Int32 → Int32 → Int32 → Int32 → Int32 → Option (MS × Int32))) (u : MS) (v1 : Int32) (v2 : Int32) (v3 : Int32) (v4 : Int32) (v5 : Int32) : Option (MS × Int32) := lt (upI u 3 0) (fun w3 => br (decide (((w3.1 5) + 20) ≤ 4000)) (G w3 (v1) (v2) (v3) (v4) (v5) (0)) (some (w3, (-1))))
set_option maxRecDepth 100000 in
set_option maxHeartbeats 4000000 in
theorem wb_M_feed_0 {p : Program} {l : Launch} {e : Env} {R : Room} {s : State} {m : MethodId} {args : Array Value} {below : List Frame} {meth : Method} {c : Code} {D : va_G} {cl : List vw_C} {cB cI cJ cZ cS : ClassId} {A : Nat → Prop} {iM h0 : Nat} {ad : Nat → Nat} (C0 : MCx p s m args meth c b_M_feed 8 (some .int) D cl cB cI cJ cZ cS iM A) (hR : R = rm_M_feed) (N : Nat) (G : (MS → Int32 → Int32 → Int32 → Int32 → Int32 → Int32 → Option (MS × Int32))) (hG : (∀ (u : MS) (v1 : Int32) (v2 : Int32) (v3 : Int32) (v4 : Int32) (v5 : Int32) (v6 : Int32) (x : MS × Int32), G u v1 v2 v3 v4 v5 v6 = some x → ∀ (H : Heap) (locs : List Loc), va_P D cl (wM cB cI cJ cZ cS iM h0 ad u) H → va_D A (wM cB cI cJ cZ cS iM h0 ad u) → va_S A s.heap H locs → ∀ (ls : Array Slot), lv_has ls 8 [(0, .ref h0), (1, .int v1), (2, .int v2), (3, .int v3), (4, .int v4), (5, .int v5), (6, .int v6)] → W p l e R s m args below meth c H locs 0 0 (MQ below (mQi D cl cB cI cJ cZ cS iM h0 ad A x) args s 0 0 A) (F0 m 23 ls []))) : ∀ (u : MS) (v1 : Int32) (v2 : Int32) (v3 : Int32) (v4 : Int32) (v5 : Int32) (x : MS × Int32), fb_M_feed_0 N G u v1 v2 v3 v4 v5 = some x → ∀ (H : Heap) (locs : List Loc), va_P D cl (wM cB cI cJ cZ cS iM h0 ad u) H → va_D A (wM cB cI cJ cZ cS iM h0 ad u) → va_S A s.heap H locs → ∀ (ls : Array Slot), lv_has ls 8 [(0, .ref h0), (1, .int v1), (2, .int v2), (3, .int v3), (4, .int v4), (5, .int v5)] → W p l e R s m args below meth c H locs 0 0 (MQ below (mQi D cl cB cI cJ cZ cS iM h0 ad A x) args s 0 0 A) (F0 m 0 ls []) := by
  intro u v1 v2 v3 v4 v5 x hf H locs hP hD hS ls hl
  obtain ⟨hx, hb, hr, hml, ht, hown, hM, hK, hA, hlocks⟩ := id C0
  unfold fb_M_feed_0 at hf
  refine lv_aload_n hx hb d_M_feed_0 rfl (lv_at hl 0 rfl) ?_
  refine lv_iconst (v := 0) hx hb d_M_feed_1 (by decide) ?_
  refine up_I hx hb ht hown hM hK hP hD hS 3 (by decide) lk_M_3 (by decide) rfl rfl rfl d_M_feed_2 (fun H locs hP hD hS => ?_)
  obtain ⟨w3, e3, hf⟩ := lt_some hf
  rw [← e3] at hP hD
  refine lv_aload_n hx hb d_M_feed_5 rfl (lv_at hl 0 rfl) ?_
  refine ug_I hx hb ht hown hM hK hP 5 (by decide) lk_M_5 (by decide) d_M_feed_6 ?_
  refine lv_bipush (v := 20) hx hb d_M_feed_9 (by decide) ?_
  refine lv_iadd hx hb d_M_feed_11 ?_
  refine lv_sipush (v := 4000) hx hb d_M_feed_12 (by decide) ?_
  refine lv_icmp_le (tgt := 20) hx hb d_M_feed_15 (by decide) (fun hc => ?_) (fun hc => ?_)
  · rw [br_p _ hc] at hf
    refine lv_iconst (v := 0) hx hb d_M_feed_20 (by decide) ?_
    refine lv_istore (lv' := [(6, .int 0), (0, .ref h0), (1, .int v1), (2, .int v2), (3, .int v3), (4, .int v4), (5, .int v5)]) hx hb d_M_feed_21 hl (by decide) rfl (fun ls hl => ?_)
    exact hG _ _ _ _ _ _ _ _ hf H locs hP hD hS ls (lv_sub hl [1, 2, 3, 4, 5, 6, 0] rfl)
  · rw [br_n _ hc] at hf
    refine lv_iconst (v := (-1)) hx hb d_M_feed_18 (by decide) ?_
    exact mr_i C0 hP hD hS hf d_M_feed_19
def gg_M_feed (N : Nat) : Nat → ((MS → Int32 → Int32 → Int32 → Int32 → Int32 → Int32 → Option (MS × Int32)))
  | 0 => fun _ _ _ _ _ _ _ => none
  | n + 1 => fb_M_feed_23 N (gg_M_feed N n)
theorem wg_M_feed {p : Program} {l : Launch} {e : Env} {R : Room} {s : State} {m : MethodId} {args : Array Value} {below : List Frame} {meth : Method} {c : Code} {D : va_G} {cl : List vw_C} {cB cI cJ cZ cS : ClassId} {A : Nat → Prop} {iM h0 : Nat} {ad : Nat → Nat} (C0 : MCx p s m args meth c b_M_feed 8 (some .int) D cl cB cI cJ cZ cS iM A) (hR : R = rm_M_feed) (N : Nat) : ∀ n : Nat, (∀ (u : MS) (v1 : Int32) (v2 : Int32) (v3 : Int32) (v4 : Int32) (v5 : Int32) (v6 : Int32) (x : MS × Int32), gg_M_feed N n u v1 v2 v3 v4 v5 v6 = some x → ∀ (H : Heap) (locs : List Loc), va_P D cl (wM cB cI cJ cZ cS iM h0 ad u) H → va_D A (wM cB cI cJ cZ cS iM h0 ad u) → va_S A s.heap H locs → ∀ (ls : Array Slot), lv_has ls 8 [(0, .ref h0), (1, .int v1), (2, .int v2), (3, .int v3), (4, .int v4), (5, .int v5), (6, .int v6)] → W p l e R s m args below meth c H locs 0 0 (MQ below (mQi D cl cB cI cJ cZ cS iM h0 ad A x) args s 0 0 A) (F0 m 23 ls []))
  | 0 => (fun u v1 v2 v3 v4 v5 v6 x hf => by cases hf)
  | n + 1 => wb_M_feed_23 C0 hR N (gg_M_feed N n) (wg_M_feed C0 hR N n)
def fm_M_feed (N : Nat) (u : MS) (v1 : Int32) (v2 : Int32) (v3 : Int32) (v4 : Int32) (v5 : Int32) : Option (MS × Int32) := fb_M_feed_0 N (gg_M_feed N N) u v1 v2 v3 v4 v5
set_option maxRecDepth 100000 in
set_option maxHeartbeats 4000000 in
theorem c_M_feed (N : Nat) {l : Launch} {D : va_G} {cl : List vw_C} {cB cI cJ cZ cS : ClassId} {iM h0 : Nat} {ad : Nat → Nat} {u : MS} {sz : Nat} {v1 : Int32} {v2 : Int32} {v3 : Int32} {v4 : Int32} {v5 : Int32} {x : MS × Int32} (hM : cl[iM]? = some (R_M, F_M, 171)) (hf : fm_M_feed N u v1 v2 v3 v4 v5 = some x) : Met l y_M_feed (wd_ws y_M_feed b_M_feed 8 (some .int)) rm_M_feed (mPc D cl cB cI cJ cZ cS iM h0 ad u sz [.ref h0, .int v1, .int v2, .int v3, .int v4, .int v5]) (mQi D cl cB cI cJ cZ cS iM h0 ad (mA cB cI cJ cZ cS iM h0 ad u sz) x) 0 0 (mA cB cI cJ cZ cS iM h0 ad u sz) :=
  mMet (by decide) rfl hM (Nat.le_of_ble_eq_true rfl) (fun p e s m below meth c ls hsz C0 hP hD hS hl => by
    have hR : rm_M_feed = rm_M_feed := rfl
    exact wb_M_feed_0 C0 hR N (gg_M_feed N N) (wg_M_feed C0 hR N N) u _ _ _ _ _ x hf s.heap [] hP hD hS ls (lv_sub hl [0, 1, 2, 3, 4, 5] rfl))
abbrev b_M_back : ByteArray := prog_14_method_4_code
def y_M_back : MethodName := ⟨R_M, "back", "(I)I"⟩
def w_M_back : List Cond := wd_ws y_M_back b_M_back 2 (some .int)
set_option maxRecDepth 100000 in
theorem k_M_back : Cond.code y_M_back b_M_back 2 (some .int) ∈ wd_tbl := wd_of 2629 rfl rfl
theorem d_M_back_0 : decode b_M_back 0 = .ok (.aload_n 0, 1) := by decide +kernel
theorem d_M_back_1 : decode b_M_back 1 = .ok (.iconst 0, 1) := by decide +kernel
theorem d_M_back_2 : decode b_M_back 2 = .ok (.putfield 369, 3) := by decide +kernel
theorem d_M_back_5 : decode b_M_back 5 = .ok (.iload_n 1, 1) := by decide +kernel
theorem d_M_back_6 : decode b_M_back 6 = .ok (.ifCond .lt 11, 3) := by decide +kernel
theorem d_M_back_9 : decode b_M_back 9 = .ok (.iload_n 1, 1) := by decide +kernel
theorem d_M_back_10 : decode b_M_back 10 = .ok (.aload_n 0, 1) := by decide +kernel
theorem d_M_back_11 : decode b_M_back 11 = .ok (.getfield 372, 3) := by decide +kernel
theorem d_M_back_14 : decode b_M_back 14 = .ok (.if_icmp .le 5, 3) := by decide +kernel
theorem d_M_back_17 : decode b_M_back 17 = .ok (.iconst (-1), 1) := by decide +kernel
theorem d_M_back_18 : decode b_M_back 18 = .ok (.ireturn, 1) := by decide +kernel
theorem d_M_back_19 : decode b_M_back 19 = .ok (.aload_n 0, 1) := by decide +kernel
theorem d_M_back_20 : decode b_M_back 20 = .ok (.dup, 1) := by decide +kernel
theorem d_M_back_21 : decode b_M_back 21 = .ok (.getfield 372, 3) := by decide +kernel
theorem d_M_back_24 : decode b_M_back 24 = .ok (.iload_n 1, 1) := by decide +kernel
theorem d_M_back_25 : decode b_M_back 25 = .ok (.isub, 1) := by decide +kernel
theorem d_M_back_26 : decode b_M_back 26 = .ok (.putfield 372, 3) := by decide +kernel
theorem d_M_back_29 : decode b_M_back 29 = .ok (.aload_n 0, 1) := by decide +kernel
theorem d_M_back_30 : decode b_M_back 30 = .ok (.getfield 372, 3) := by decide +kernel
theorem d_M_back_33 : decode b_M_back 33 = .ok (.ireturn, 1) := by decide +kernel
def rm_M_back : Room := { frames := 0, cells := 0, slots := 0, locals := 0 }
def fb_M_back_17 (N : Nat) (G : Unit) (u : MS) : Option (MS × Int32) := some (u, (-1))
set_option maxRecDepth 100000 in
set_option maxHeartbeats 4000000 in
theorem wb_M_back_17 {p : Program} {l : Launch} {e : Env} {R : Room} {s : State} {m : MethodId} {args : Array Value} {below : List Frame} {meth : Method} {c : Code} {D : va_G} {cl : List vw_C} {cB cI cJ cZ cS : ClassId} {A : Nat → Prop} {iM h0 : Nat} {ad : Nat → Nat} (C0 : MCx p s m args meth c b_M_back 2 (some .int) D cl cB cI cJ cZ cS iM A) (hR : R = rm_M_back) (N : Nat) (G : Unit) (hG : True) : ∀ (u : MS) (x : MS × Int32), fb_M_back_17 N G u = some x → ∀ (H : Heap) (locs : List Loc), va_P D cl (wM cB cI cJ cZ cS iM h0 ad u) H → va_D A (wM cB cI cJ cZ cS iM h0 ad u) → va_S A s.heap H locs → ∀ (ls : Array Slot), lv_has ls 2 [] → W p l e R s m args below meth c H locs 0 0 (MQ below (mQi D cl cB cI cJ cZ cS iM h0 ad A x) args s 0 0 A) (F0 m 17 ls []) := by
  intro u x hf H locs hP hD hS ls hl
  obtain ⟨hx, hb, hr, hml, ht, hown, hM, hK, hA, hlocks⟩ := id C0
  unfold fb_M_back_17 at hf
  refine lv_iconst (v := (-1)) hx hb d_M_back_17 (by decide) ?_
  exact mr_i C0 hP hD hS hf d_M_back_18
def fb_M_back_0 (N : Nat) (G : Unit) (u : MS) (v1 : Int32) : Option (MS × Int32) := lt (upI u 3 0) (fun w1 => br (decide (v1 < 0)) (fb_M_back_17 N G w1) (br (decide (v1 ≤ (w1.1 5))) (lt (upI w1 5 ((w1.1 5) - v1)) (fun w2 => some (w2, (w2.1 5)))) (fb_M_back_17 N G w1)))
set_option maxRecDepth 100000 in
set_option maxHeartbeats 4000000 in
theorem wb_M_back_0 {p : Program} {l : Launch} {e : Env} {R : Room} {s : State} {m : MethodId} {args : Array Value} {below : List Frame} {meth : Method} {c : Code} {D : va_G} {cl : List vw_C} {cB cI cJ cZ cS : ClassId} {A : Nat → Prop} {iM h0 : Nat} {ad : Nat → Nat} (C0 : MCx p s m args meth c b_M_back 2 (some .int) D cl cB cI cJ cZ cS iM A) (hR : R = rm_M_back) (N : Nat) (G : Unit) (hG : True) : ∀ (u : MS) (v1 : Int32) (x : MS × Int32), fb_M_back_0 N G u v1 = some x → ∀ (H : Heap) (locs : List Loc), va_P D cl (wM cB cI cJ cZ cS iM h0 ad u) H → va_D A (wM cB cI cJ cZ cS iM h0 ad u) → va_S A s.heap H locs → ∀ (ls : Array Slot), lv_has ls 2 [(0, .ref h0), (1, .int v1)] → W p l e R s m args below meth c H locs 0 0 (MQ below (mQi D cl cB cI cJ cZ cS iM h0 ad A x) args s 0 0 A) (F0 m 0 ls []) := by
  intro u v1 x hf H locs hP hD hS ls hl
  obtain ⟨hx, hb, hr, hml, ht, hown, hM, hK, hA, hlocks⟩ := id C0
  unfold fb_M_back_0 at hf
  refine lv_aload_n hx hb d_M_back_0 rfl (lv_at hl 0 rfl) ?_
  refine lv_iconst (v := 0) hx hb d_M_back_1 (by decide) ?_
  refine up_I hx hb ht hown hM hK hP hD hS 3 (by decide) lk_M_3 (by decide) rfl rfl rfl d_M_back_2 (fun H locs hP hD hS => ?_)
  obtain ⟨w1, e1, hf⟩ := lt_some hf
  rw [← e1] at hP hD
  refine lv_iload_n hx hb d_M_back_5 rfl (lv_at hl 1 rfl) ?_
  refine lv_if_lt (tgt := 17) hx hb d_M_back_6 (by decide) (fun hc => ?_) (fun hc => ?_)
  · rw [br_p _ hc] at hf
    exact wb_M_back_17 C0 hR N G hG _ _ hf H locs hP hD hS ls (lv_sub hl [] rfl)
  · rw [br_n _ hc] at hf
    refine lv_iload_n hx hb d_M_back_9 rfl (lv_at hl 1 rfl) ?_
    refine lv_aload_n hx hb d_M_back_10 rfl (lv_at hl 0 rfl) ?_
    refine ug_I hx hb ht hown hM hK hP 5 (by decide) lk_M_5 (by decide) d_M_back_11 ?_
    refine lv_icmp_le (tgt := 19) hx hb d_M_back_14 (by decide) (fun hc => ?_) (fun hc => ?_)
    · rw [br_p _ hc] at hf
      refine lv_aload_n hx hb d_M_back_19 rfl (lv_at hl 0 rfl) ?_
      refine lv_dup hx hb d_M_back_20 rfl ?_
      refine ug_I hx hb ht hown hM hK hP 5 (by decide) lk_M_5 (by decide) d_M_back_21 ?_
      refine lv_iload_n hx hb d_M_back_24 rfl (lv_at hl 1 rfl) ?_
      refine lv_isub hx hb d_M_back_25 ?_
      refine up_I hx hb ht hown hM hK hP hD hS 5 (by decide) lk_M_5 (by decide) rfl rfl rfl d_M_back_26 (fun H locs hP hD hS => ?_)
      obtain ⟨w2, e2, hf⟩ := lt_some hf
      rw [← e2] at hP hD
      refine lv_aload_n hx hb d_M_back_29 rfl (lv_at hl 0 rfl) ?_
      refine ug_I hx hb ht hown hM hK hP 5 (by decide) lk_M_5 (by decide) d_M_back_30 ?_
      exact mr_i C0 hP hD hS hf d_M_back_33
    · rw [br_n _ hc] at hf
      exact wb_M_back_17 C0 hR N G hG _ _ hf H locs hP hD hS ls (lv_sub hl [] rfl)
def fm_M_back (N : Nat) (u : MS) (v1 : Int32) : Option (MS × Int32) := fb_M_back_0 N () u v1
set_option maxRecDepth 100000 in
set_option maxHeartbeats 4000000 in
theorem c_M_back (N : Nat) {l : Launch} {D : va_G} {cl : List vw_C} {cB cI cJ cZ cS : ClassId} {iM h0 : Nat} {ad : Nat → Nat} {u : MS} {sz : Nat} {v1 : Int32} {x : MS × Int32} (hM : cl[iM]? = some (R_M, F_M, 171)) (hf : fm_M_back N u v1 = some x) : Met l y_M_back (wd_ws y_M_back b_M_back 2 (some .int)) rm_M_back (mPc D cl cB cI cJ cZ cS iM h0 ad u sz [.ref h0, .int v1]) (mQi D cl cB cI cJ cZ cS iM h0 ad (mA cB cI cJ cZ cS iM h0 ad u sz) x) 0 0 (mA cB cI cJ cZ cS iM h0 ad u sz) :=
  mMet (by decide) rfl hM (Nat.le_of_ble_eq_true rfl) (fun p e s m below meth c ls hsz C0 hP hD hS hl => by
    have hR : rm_M_back = rm_M_back := rfl
    exact wb_M_back_0 C0 hR N () trivial u _ x hf s.heap [] hP hD hS ls (lv_sub hl [0, 1] rfl))
abbrev b_M_isSmall : ByteArray := prog_14_method_5_code
def y_M_isSmall : MethodName := ⟨R_M, "isSmall", "(I)Z"⟩
def w_M_isSmall : List Cond := wd_ws y_M_isSmall b_M_isSmall 1 (some .boolean)
set_option maxRecDepth 100000 in
theorem k_M_isSmall : Cond.code y_M_isSmall b_M_isSmall 1 (some .boolean) ∈ wd_tbl := wd_of 2655 rfl rfl
theorem d_M_isSmall_0 : decode b_M_isSmall 0 = .ok (.iload_n 0, 1) := by decide +kernel
theorem d_M_isSmall_1 : decode b_M_isSmall 1 = .ok (.bipush 97, 2) := by decide +kernel
theorem d_M_isSmall_3 : decode b_M_isSmall 3 = .ok (.if_icmp .lt 13, 3) := by decide +kernel
theorem d_M_isSmall_6 : decode b_M_isSmall 6 = .ok (.iload_n 0, 1) := by decide +kernel
theorem d_M_isSmall_7 : decode b_M_isSmall 7 = .ok (.bipush 122, 2) := by decide +kernel
theorem d_M_isSmall_9 : decode b_M_isSmall 9 = .ok (.if_icmp .gt 7, 3) := by decide +kernel
theorem d_M_isSmall_12 : decode b_M_isSmall 12 = .ok (.iconst 1, 1) := by decide +kernel
theorem d_M_isSmall_13 : decode b_M_isSmall 13 = .ok (.goto 4, 3) := by decide +kernel
theorem d_M_isSmall_16 : decode b_M_isSmall 16 = .ok (.iconst 0, 1) := by decide +kernel
theorem d_M_isSmall_17 : decode b_M_isSmall 17 = .ok (.ireturn, 1) := by decide +kernel
set_option maxRecDepth 100000 in
theorem hl_M_isSmall : Cond.methodLink R_M 375 y_M_isSmall ∈ wd_tbl := wd_of 2653 (by decide +kernel) rfl
set_option maxRecDepth 100000 in
theorem ht_M_isSmall : Cond.static y_M_isSmall ∈ wd_tbl := wd_of 2654 (by decide +kernel) rfl
theorem hd_M_isSmall : y_M_isSmall.cls = R_M ∧ y_M_isSmall.cls ≠ "java/lang/invoke/MethodHandle" ∧ y_M_isSmall.cls ≠ "java/lang/invoke/VarHandle" ∧ (parseMethodDescriptor y_M_isSmall.desc).map (fun d => d.parameters.length) = some 1 := by decide +kernel
def rm_M_isSmall : Room := { frames := 0, cells := 0, slots := 0, locals := 0 }
def fb_M_isSmall_17 (N : Nat) (G : Unit) (u : MS) (t0 : Int32) : Option (MS × Int32) := ck (isb t0) (some (u, t0))
set_option maxRecDepth 100000 in
set_option maxHeartbeats 4000000 in
theorem wb_M_isSmall_17 {p : Program} {l : Launch} {e : Env} {R : Room} {s : State} {m : MethodId} {args : Array Value} {below : List Frame} {meth : Method} {c : Code} {D : va_G} {cl : List vw_C} {cB cI cJ cZ cS : ClassId} {A : Nat → Prop} {iM h0 : Nat} {ad : Nat → Nat} (C0 : MCx p s m args meth c b_M_isSmall 1 (some .boolean) D cl cB cI cJ cZ cS iM A) (hR : R = rm_M_isSmall) (N : Nat) (G : Unit) (hG : True) : ∀ (u : MS) (t0 : Int32) (x : MS × Int32), fb_M_isSmall_17 N G u t0 = some x → ∀ (H : Heap) (locs : List Loc), va_P D cl (wM cB cI cJ cZ cS iM h0 ad u) H → va_D A (wM cB cI cJ cZ cS iM h0 ad u) → va_S A s.heap H locs → ∀ (ls : Array Slot), lv_has ls 1 [] → W p l e R s m args below meth c H locs 0 0 (MQ below (mQi D cl cB cI cJ cZ cS iM h0 ad A x) args s 0 0 A) (F0 m 17 ls [.int t0]) := by
  intro u t0 x hf H locs hP hD hS ls hl
  obtain ⟨hx, hb, hr, hml, ht, hown, hM, hK, hA, hlocks⟩ := id C0
  unfold fb_M_isSmall_17 at hf
  obtain ⟨hz, hf⟩ := ck_some hf
  exact mr_z C0 hP hD hS hz hf d_M_isSmall_17
def fb_M_isSmall_16 (N : Nat) (G : Unit) (u : MS) : Option (MS × Int32) := fb_M_isSmall_17 N G u (0)
set_option maxRecDepth 100000 in
set_option maxHeartbeats 4000000 in
theorem wb_M_isSmall_16 {p : Program} {l : Launch} {e : Env} {R : Room} {s : State} {m : MethodId} {args : Array Value} {below : List Frame} {meth : Method} {c : Code} {D : va_G} {cl : List vw_C} {cB cI cJ cZ cS : ClassId} {A : Nat → Prop} {iM h0 : Nat} {ad : Nat → Nat} (C0 : MCx p s m args meth c b_M_isSmall 1 (some .boolean) D cl cB cI cJ cZ cS iM A) (hR : R = rm_M_isSmall) (N : Nat) (G : Unit) (hG : True) : ∀ (u : MS) (x : MS × Int32), fb_M_isSmall_16 N G u = some x → ∀ (H : Heap) (locs : List Loc), va_P D cl (wM cB cI cJ cZ cS iM h0 ad u) H → va_D A (wM cB cI cJ cZ cS iM h0 ad u) → va_S A s.heap H locs → ∀ (ls : Array Slot), lv_has ls 1 [] → W p l e R s m args below meth c H locs 0 0 (MQ below (mQi D cl cB cI cJ cZ cS iM h0 ad A x) args s 0 0 A) (F0 m 16 ls []) := by
  intro u x hf H locs hP hD hS ls hl
  obtain ⟨hx, hb, hr, hml, ht, hown, hM, hK, hA, hlocks⟩ := id C0
  unfold fb_M_isSmall_16 at hf
  refine lv_iconst (v := 0) hx hb d_M_isSmall_16 (by decide) ?_
  exact wb_M_isSmall_17 C0 hR N G hG _ _ _ hf H locs hP hD hS ls (lv_sub hl [] rfl)
def fb_M_isSmall_0 (N : Nat) (G : Unit) (u : MS) (v0 : Int32) : Option (MS × Int32) := br (decide (v0 < 97)) (fb_M_isSmall_16 N G u) (br (decide (122 < v0)) (fb_M_isSmall_16 N G u) (fb_M_isSmall_17 N G u (1)))
set_option maxRecDepth 100000 in
set_option maxHeartbeats 4000000 in
theorem wb_M_isSmall_0 {p : Program} {l : Launch} {e : Env} {R : Room} {s : State} {m : MethodId} {args : Array Value} {below : List Frame} {meth : Method} {c : Code} {D : va_G} {cl : List vw_C} {cB cI cJ cZ cS : ClassId} {A : Nat → Prop} {iM h0 : Nat} {ad : Nat → Nat} (C0 : MCx p s m args meth c b_M_isSmall 1 (some .boolean) D cl cB cI cJ cZ cS iM A) (hR : R = rm_M_isSmall) (N : Nat) (G : Unit) (hG : True) : ∀ (u : MS) (v0 : Int32) (x : MS × Int32), fb_M_isSmall_0 N G u v0 = some x → ∀ (H : Heap) (locs : List Loc), va_P D cl (wM cB cI cJ cZ cS iM h0 ad u) H → va_D A (wM cB cI cJ cZ cS iM h0 ad u) → va_S A s.heap H locs → ∀ (ls : Array Slot), lv_has ls 1 [(0, .int v0)] → W p l e R s m args below meth c H locs 0 0 (MQ below (mQi D cl cB cI cJ cZ cS iM h0 ad A x) args s 0 0 A) (F0 m 0 ls []) := by
  intro u v0 x hf H locs hP hD hS ls hl
  obtain ⟨hx, hb, hr, hml, ht, hown, hM, hK, hA, hlocks⟩ := id C0
  unfold fb_M_isSmall_0 at hf
  refine lv_iload_n hx hb d_M_isSmall_0 rfl (lv_at hl 0 rfl) ?_
  refine lv_bipush (v := 97) hx hb d_M_isSmall_1 (by decide) ?_
  refine lv_icmp_lt (tgt := 16) hx hb d_M_isSmall_3 (by decide) (fun hc => ?_) (fun hc => ?_)
  · rw [br_p _ hc] at hf
    exact wb_M_isSmall_16 C0 hR N G hG _ _ hf H locs hP hD hS ls (lv_sub hl [] rfl)
  · rw [br_n _ hc] at hf
    refine lv_iload_n hx hb d_M_isSmall_6 rfl (lv_at hl 0 rfl) ?_
    refine lv_bipush (v := 122) hx hb d_M_isSmall_7 (by decide) ?_
    refine lv_icmp_gt (tgt := 16) hx hb d_M_isSmall_9 (by decide) (fun hc => ?_) (fun hc => ?_)
    · rw [br_p _ hc] at hf
      exact wb_M_isSmall_16 C0 hR N G hG _ _ hf H locs hP hD hS ls (lv_sub hl [] rfl)
    · rw [br_n _ hc] at hf
      refine lv_iconst (v := 1) hx hb d_M_isSmall_12 (by decide) ?_
      refine lv_goto (tgt := 17) hx hb d_M_isSmall_13 (by decide) ?_
      exact wb_M_isSmall_17 C0 hR N G hG _ _ _ hf H locs hP hD hS ls (lv_sub hl [] rfl)
def fm_M_isSmall (N : Nat) (u : MS) (v0 : Int32) : Option (MS × Int32) := fb_M_isSmall_0 N () u v0
set_option maxRecDepth 100000 in
set_option maxHeartbeats 4000000 in
theorem c_M_isSmall (N : Nat) {l : Launch} {D : va_G} {cl : List vw_C} {cB cI cJ cZ cS : ClassId} {iM h0 : Nat} {ad : Nat → Nat} {u : MS} {sz : Nat} {v0 : Int32} {x : MS × Int32} (hM : cl[iM]? = some (R_M, F_M, 171)) (hf : fm_M_isSmall N u v0 = some x) : Met l y_M_isSmall (wd_ws y_M_isSmall b_M_isSmall 1 (some .boolean)) rm_M_isSmall (mPc D cl cB cI cJ cZ cS iM h0 ad u sz [.int v0]) (mQi D cl cB cI cJ cZ cS iM h0 ad (mA cB cI cJ cZ cS iM h0 ad u sz) x) 0 0 (mA cB cI cJ cZ cS iM h0 ad u sz) :=
  mMet (by decide) rfl hM (Nat.le_of_ble_eq_true rfl) (fun p e s m below meth c ls hsz C0 hP hD hS hl => by
    have hR : rm_M_isSmall = rm_M_isSmall := rfl
    exact wb_M_isSmall_0 C0 hR N () trivial u _ x hf s.heap [] hP hD hS ls (lv_sub hl [0] rfl))
abbrev b_M_isGreat : ByteArray := prog_14_method_6_code
def y_M_isGreat : MethodName := ⟨R_M, "isGreat", "(I)Z"⟩
def w_M_isGreat : List Cond := wd_ws y_M_isGreat b_M_isGreat 1 (some .boolean)
set_option maxRecDepth 100000 in
theorem k_M_isGreat : Cond.code y_M_isGreat b_M_isGreat 1 (some .boolean) ∈ wd_tbl := wd_of 2658 rfl rfl
theorem d_M_isGreat_0 : decode b_M_isGreat 0 = .ok (.iload_n 0, 1) := by decide +kernel
theorem d_M_isGreat_1 : decode b_M_isGreat 1 = .ok (.bipush 65, 2) := by decide +kernel
theorem d_M_isGreat_3 : decode b_M_isGreat 3 = .ok (.if_icmp .lt 9, 3) := by decide +kernel
theorem d_M_isGreat_6 : decode b_M_isGreat 6 = .ok (.iload_n 0, 1) := by decide +kernel
theorem d_M_isGreat_7 : decode b_M_isGreat 7 = .ok (.bipush 90, 2) := by decide +kernel
theorem d_M_isGreat_9 : decode b_M_isGreat 9 = .ok (.if_icmp .le 9, 3) := by decide +kernel
theorem d_M_isGreat_12 : decode b_M_isGreat 12 = .ok (.iload_n 0, 1) := by decide +kernel
theorem d_M_isGreat_13 : decode b_M_isGreat 13 = .ok (.bipush 95, 2) := by decide +kernel
theorem d_M_isGreat_15 : decode b_M_isGreat 15 = .ok (.if_icmp .ne 7, 3) := by decide +kernel
theorem d_M_isGreat_18 : decode b_M_isGreat 18 = .ok (.iconst 1, 1) := by decide +kernel
theorem d_M_isGreat_19 : decode b_M_isGreat 19 = .ok (.goto 4, 3) := by decide +kernel
theorem d_M_isGreat_22 : decode b_M_isGreat 22 = .ok (.iconst 0, 1) := by decide +kernel
theorem d_M_isGreat_23 : decode b_M_isGreat 23 = .ok (.ireturn, 1) := by decide +kernel
set_option maxRecDepth 100000 in
theorem hl_M_isGreat : Cond.methodLink R_M 379 y_M_isGreat ∈ wd_tbl := wd_of 2656 (by decide +kernel) rfl
set_option maxRecDepth 100000 in
theorem ht_M_isGreat : Cond.static y_M_isGreat ∈ wd_tbl := wd_of 2657 (by decide +kernel) rfl
theorem hd_M_isGreat : y_M_isGreat.cls = R_M ∧ y_M_isGreat.cls ≠ "java/lang/invoke/MethodHandle" ∧ y_M_isGreat.cls ≠ "java/lang/invoke/VarHandle" ∧ (parseMethodDescriptor y_M_isGreat.desc).map (fun d => d.parameters.length) = some 1 := by decide +kernel
def rm_M_isGreat : Room := { frames := 0, cells := 0, slots := 0, locals := 0 }
def fb_M_isGreat_23 (N : Nat) (G : Unit) (u : MS) (t0 : Int32) : Option (MS × Int32) := ck (isb t0) (some (u, t0))
set_option maxRecDepth 100000 in
set_option maxHeartbeats 4000000 in
theorem wb_M_isGreat_23 {p : Program} {l : Launch} {e : Env} {R : Room} {s : State} {m : MethodId} {args : Array Value} {below : List Frame} {meth : Method} {c : Code} {D : va_G} {cl : List vw_C} {cB cI cJ cZ cS : ClassId} {A : Nat → Prop} {iM h0 : Nat} {ad : Nat → Nat} (C0 : MCx p s m args meth c b_M_isGreat 1 (some .boolean) D cl cB cI cJ cZ cS iM A) (hR : R = rm_M_isGreat) (N : Nat) (G : Unit) (hG : True) : ∀ (u : MS) (t0 : Int32) (x : MS × Int32), fb_M_isGreat_23 N G u t0 = some x → ∀ (H : Heap) (locs : List Loc), va_P D cl (wM cB cI cJ cZ cS iM h0 ad u) H → va_D A (wM cB cI cJ cZ cS iM h0 ad u) → va_S A s.heap H locs → ∀ (ls : Array Slot), lv_has ls 1 [] → W p l e R s m args below meth c H locs 0 0 (MQ below (mQi D cl cB cI cJ cZ cS iM h0 ad A x) args s 0 0 A) (F0 m 23 ls [.int t0]) := by
  intro u t0 x hf H locs hP hD hS ls hl
  obtain ⟨hx, hb, hr, hml, ht, hown, hM, hK, hA, hlocks⟩ := id C0
  unfold fb_M_isGreat_23 at hf
  obtain ⟨hz, hf⟩ := ck_some hf
  exact mr_z C0 hP hD hS hz hf d_M_isGreat_23
def fb_M_isGreat_18 (N : Nat) (G : Unit) (u : MS) : Option (MS × Int32) := fb_M_isGreat_23 N G u (1)
set_option maxRecDepth 100000 in
set_option maxHeartbeats 4000000 in
theorem wb_M_isGreat_18 {p : Program} {l : Launch} {e : Env} {R : Room} {s : State} {m : MethodId} {args : Array Value} {below : List Frame} {meth : Method} {c : Code} {D : va_G} {cl : List vw_C} {cB cI cJ cZ cS : ClassId} {A : Nat → Prop} {iM h0 : Nat} {ad : Nat → Nat} (C0 : MCx p s m args meth c b_M_isGreat 1 (some .boolean) D cl cB cI cJ cZ cS iM A) (hR : R = rm_M_isGreat) (N : Nat) (G : Unit) (hG : True) : ∀ (u : MS) (x : MS × Int32), fb_M_isGreat_18 N G u = some x → ∀ (H : Heap) (locs : List Loc), va_P D cl (wM cB cI cJ cZ cS iM h0 ad u) H → va_D A (wM cB cI cJ cZ cS iM h0 ad u) → va_S A s.heap H locs → ∀ (ls : Array Slot), lv_has ls 1 [] → W p l e R s m args below meth c H locs 0 0 (MQ below (mQi D cl cB cI cJ cZ cS iM h0 ad A x) args s 0 0 A) (F0 m 18 ls []) := by
  intro u x hf H locs hP hD hS ls hl
  obtain ⟨hx, hb, hr, hml, ht, hown, hM, hK, hA, hlocks⟩ := id C0
  unfold fb_M_isGreat_18 at hf
  refine lv_iconst (v := 1) hx hb d_M_isGreat_18 (by decide) ?_
  refine lv_goto (tgt := 23) hx hb d_M_isGreat_19 (by decide) ?_
  exact wb_M_isGreat_23 C0 hR N G hG _ _ _ hf H locs hP hD hS ls (lv_sub hl [] rfl)
def fb_M_isGreat_12 (N : Nat) (G : Unit) (u : MS) (v0 : Int32) : Option (MS × Int32) := br (decide (v0 = 95)) (fb_M_isGreat_18 N G u) (fb_M_isGreat_23 N G u (0))
set_option maxRecDepth 100000 in
set_option maxHeartbeats 4000000 in
theorem wb_M_isGreat_12 {p : Program} {l : Launch} {e : Env} {R : Room} {s : State} {m : MethodId} {args : Array Value} {below : List Frame} {meth : Method} {c : Code} {D : va_G} {cl : List vw_C} {cB cI cJ cZ cS : ClassId} {A : Nat → Prop} {iM h0 : Nat} {ad : Nat → Nat} (C0 : MCx p s m args meth c b_M_isGreat 1 (some .boolean) D cl cB cI cJ cZ cS iM A) (hR : R = rm_M_isGreat) (N : Nat) (G : Unit) (hG : True) : ∀ (u : MS) (v0 : Int32) (x : MS × Int32), fb_M_isGreat_12 N G u v0 = some x → ∀ (H : Heap) (locs : List Loc), va_P D cl (wM cB cI cJ cZ cS iM h0 ad u) H → va_D A (wM cB cI cJ cZ cS iM h0 ad u) → va_S A s.heap H locs → ∀ (ls : Array Slot), lv_has ls 1 [(0, .int v0)] → W p l e R s m args below meth c H locs 0 0 (MQ below (mQi D cl cB cI cJ cZ cS iM h0 ad A x) args s 0 0 A) (F0 m 12 ls []) := by
  intro u v0 x hf H locs hP hD hS ls hl
  obtain ⟨hx, hb, hr, hml, ht, hown, hM, hK, hA, hlocks⟩ := id C0
  unfold fb_M_isGreat_12 at hf
  refine lv_iload_n hx hb d_M_isGreat_12 rfl (lv_at hl 0 rfl) ?_
  refine lv_bipush (v := 95) hx hb d_M_isGreat_13 (by decide) ?_
  refine lv_icmp_ne (tgt := 22) hx hb d_M_isGreat_15 (by decide) (fun hc => ?_) (fun hc => ?_)
  · rw [br_n _ hc] at hf
    refine lv_iconst (v := 0) hx hb d_M_isGreat_22 (by decide) ?_
    exact wb_M_isGreat_23 C0 hR N G hG _ _ _ hf H locs hP hD hS ls (lv_sub hl [] rfl)
  · rw [br_p _ hc] at hf
    exact wb_M_isGreat_18 C0 hR N G hG _ _ hf H locs hP hD hS ls (lv_sub hl [] rfl)
def fb_M_isGreat_0 (N : Nat) (G : Unit) (u : MS) (v0 : Int32) : Option (MS × Int32) := br (decide (v0 < 65)) (fb_M_isGreat_12 N G u (v0)) (br (decide (v0 ≤ 90)) (fb_M_isGreat_18 N G u) (fb_M_isGreat_12 N G u (v0)))
set_option maxRecDepth 100000 in
set_option maxHeartbeats 4000000 in
theorem wb_M_isGreat_0 {p : Program} {l : Launch} {e : Env} {R : Room} {s : State} {m : MethodId} {args : Array Value} {below : List Frame} {meth : Method} {c : Code} {D : va_G} {cl : List vw_C} {cB cI cJ cZ cS : ClassId} {A : Nat → Prop} {iM h0 : Nat} {ad : Nat → Nat} (C0 : MCx p s m args meth c b_M_isGreat 1 (some .boolean) D cl cB cI cJ cZ cS iM A) (hR : R = rm_M_isGreat) (N : Nat) (G : Unit) (hG : True) : ∀ (u : MS) (v0 : Int32) (x : MS × Int32), fb_M_isGreat_0 N G u v0 = some x → ∀ (H : Heap) (locs : List Loc), va_P D cl (wM cB cI cJ cZ cS iM h0 ad u) H → va_D A (wM cB cI cJ cZ cS iM h0 ad u) → va_S A s.heap H locs → ∀ (ls : Array Slot), lv_has ls 1 [(0, .int v0)] → W p l e R s m args below meth c H locs 0 0 (MQ below (mQi D cl cB cI cJ cZ cS iM h0 ad A x) args s 0 0 A) (F0 m 0 ls []) := by
  intro u v0 x hf H locs hP hD hS ls hl
  obtain ⟨hx, hb, hr, hml, ht, hown, hM, hK, hA, hlocks⟩ := id C0
  unfold fb_M_isGreat_0 at hf
  refine lv_iload_n hx hb d_M_isGreat_0 rfl (lv_at hl 0 rfl) ?_
  refine lv_bipush (v := 65) hx hb d_M_isGreat_1 (by decide) ?_
  refine lv_icmp_lt (tgt := 12) hx hb d_M_isGreat_3 (by decide) (fun hc => ?_) (fun hc => ?_)
  · rw [br_p _ hc] at hf
    exact wb_M_isGreat_12 C0 hR N G hG _ _ _ hf H locs hP hD hS ls (lv_sub hl [0] rfl)
  · rw [br_n _ hc] at hf
    refine lv_iload_n hx hb d_M_isGreat_6 rfl (lv_at hl 0 rfl) ?_
    refine lv_bipush (v := 90) hx hb d_M_isGreat_7 (by decide) ?_
    refine lv_icmp_le (tgt := 18) hx hb d_M_isGreat_9 (by decide) (fun hc => ?_) (fun hc => ?_)
    · rw [br_p _ hc] at hf
      exact wb_M_isGreat_18 C0 hR N G hG _ _ hf H locs hP hD hS ls (lv_sub hl [] rfl)
    · rw [br_n _ hc] at hf
      exact wb_M_isGreat_12 C0 hR N G hG _ _ _ hf H locs hP hD hS ls (lv_sub hl [0] rfl)
def fm_M_isGreat (N : Nat) (u : MS) (v0 : Int32) : Option (MS × Int32) := fb_M_isGreat_0 N () u v0
set_option maxRecDepth 100000 in
set_option maxHeartbeats 4000000 in
theorem c_M_isGreat (N : Nat) {l : Launch} {D : va_G} {cl : List vw_C} {cB cI cJ cZ cS : ClassId} {iM h0 : Nat} {ad : Nat → Nat} {u : MS} {sz : Nat} {v0 : Int32} {x : MS × Int32} (hM : cl[iM]? = some (R_M, F_M, 171)) (hf : fm_M_isGreat N u v0 = some x) : Met l y_M_isGreat (wd_ws y_M_isGreat b_M_isGreat 1 (some .boolean)) rm_M_isGreat (mPc D cl cB cI cJ cZ cS iM h0 ad u sz [.int v0]) (mQi D cl cB cI cJ cZ cS iM h0 ad (mA cB cI cJ cZ cS iM h0 ad u sz) x) 0 0 (mA cB cI cJ cZ cS iM h0 ad u sz) :=
  mMet (by decide) rfl hM (Nat.le_of_ble_eq_true rfl) (fun p e s m below meth c ls hsz C0 hP hD hS hl => by
    have hR : rm_M_isGreat = rm_M_isGreat := rfl
    exact wb_M_isGreat_0 C0 hR N () trivial u _ x hf s.heap [] hP hD hS ls (lv_sub hl [0] rfl))
abbrev b_M_isDigit : ByteArray := prog_14_method_7_code
def y_M_isDigit : MethodName := ⟨R_M, "isDigit", "(I)Z"⟩
def w_M_isDigit : List Cond := wd_ws y_M_isDigit b_M_isDigit 1 (some .boolean)
set_option maxRecDepth 100000 in
theorem k_M_isDigit : Cond.code y_M_isDigit b_M_isDigit 1 (some .boolean) ∈ wd_tbl := wd_of 2668 rfl rfl
theorem d_M_isDigit_0 : decode b_M_isDigit 0 = .ok (.iload_n 0, 1) := by decide +kernel
theorem d_M_isDigit_1 : decode b_M_isDigit 1 = .ok (.bipush 48, 2) := by decide +kernel
theorem d_M_isDigit_3 : decode b_M_isDigit 3 = .ok (.if_icmp .lt 13, 3) := by decide +kernel
theorem d_M_isDigit_6 : decode b_M_isDigit 6 = .ok (.iload_n 0, 1) := by decide +kernel
theorem d_M_isDigit_7 : decode b_M_isDigit 7 = .ok (.bipush 57, 2) := by decide +kernel
theorem d_M_isDigit_9 : decode b_M_isDigit 9 = .ok (.if_icmp .gt 7, 3) := by decide +kernel
theorem d_M_isDigit_12 : decode b_M_isDigit 12 = .ok (.iconst 1, 1) := by decide +kernel
theorem d_M_isDigit_13 : decode b_M_isDigit 13 = .ok (.goto 4, 3) := by decide +kernel
theorem d_M_isDigit_16 : decode b_M_isDigit 16 = .ok (.iconst 0, 1) := by decide +kernel
theorem d_M_isDigit_17 : decode b_M_isDigit 17 = .ok (.ireturn, 1) := by decide +kernel
set_option maxRecDepth 100000 in
theorem hl_M_isDigit : Cond.methodLink R_M 382 y_M_isDigit ∈ wd_tbl := wd_of 2666 (by decide +kernel) rfl
set_option maxRecDepth 100000 in
theorem ht_M_isDigit : Cond.static y_M_isDigit ∈ wd_tbl := wd_of 2667 (by decide +kernel) rfl
theorem hd_M_isDigit : y_M_isDigit.cls = R_M ∧ y_M_isDigit.cls ≠ "java/lang/invoke/MethodHandle" ∧ y_M_isDigit.cls ≠ "java/lang/invoke/VarHandle" ∧ (parseMethodDescriptor y_M_isDigit.desc).map (fun d => d.parameters.length) = some 1 := by decide +kernel
def rm_M_isDigit : Room := { frames := 0, cells := 0, slots := 0, locals := 0 }
def fb_M_isDigit_17 (N : Nat) (G : Unit) (u : MS) (t0 : Int32) : Option (MS × Int32) := ck (isb t0) (some (u, t0))
set_option maxRecDepth 100000 in
set_option maxHeartbeats 4000000 in
theorem wb_M_isDigit_17 {p : Program} {l : Launch} {e : Env} {R : Room} {s : State} {m : MethodId} {args : Array Value} {below : List Frame} {meth : Method} {c : Code} {D : va_G} {cl : List vw_C} {cB cI cJ cZ cS : ClassId} {A : Nat → Prop} {iM h0 : Nat} {ad : Nat → Nat} (C0 : MCx p s m args meth c b_M_isDigit 1 (some .boolean) D cl cB cI cJ cZ cS iM A) (hR : R = rm_M_isDigit) (N : Nat) (G : Unit) (hG : True) : ∀ (u : MS) (t0 : Int32) (x : MS × Int32), fb_M_isDigit_17 N G u t0 = some x → ∀ (H : Heap) (locs : List Loc), va_P D cl (wM cB cI cJ cZ cS iM h0 ad u) H → va_D A (wM cB cI cJ cZ cS iM h0 ad u) → va_S A s.heap H locs → ∀ (ls : Array Slot), lv_has ls 1 [] → W p l e R s m args below meth c H locs 0 0 (MQ below (mQi D cl cB cI cJ cZ cS iM h0 ad A x) args s 0 0 A) (F0 m 17 ls [.int t0]) := by
  intro u t0 x hf H locs hP hD hS ls hl
  obtain ⟨hx, hb, hr, hml, ht, hown, hM, hK, hA, hlocks⟩ := id C0
  unfold fb_M_isDigit_17 at hf
  obtain ⟨hz, hf⟩ := ck_some hf
  exact mr_z C0 hP hD hS hz hf d_M_isDigit_17
def fb_M_isDigit_16 (N : Nat) (G : Unit) (u : MS) : Option (MS × Int32) := fb_M_isDigit_17 N G u (0)
set_option maxRecDepth 100000 in
set_option maxHeartbeats 4000000 in
theorem wb_M_isDigit_16 {p : Program} {l : Launch} {e : Env} {R : Room} {s : State} {m : MethodId} {args : Array Value} {below : List Frame} {meth : Method} {c : Code} {D : va_G} {cl : List vw_C} {cB cI cJ cZ cS : ClassId} {A : Nat → Prop} {iM h0 : Nat} {ad : Nat → Nat} (C0 : MCx p s m args meth c b_M_isDigit 1 (some .boolean) D cl cB cI cJ cZ cS iM A) (hR : R = rm_M_isDigit) (N : Nat) (G : Unit) (hG : True) : ∀ (u : MS) (x : MS × Int32), fb_M_isDigit_16 N G u = some x → ∀ (H : Heap) (locs : List Loc), va_P D cl (wM cB cI cJ cZ cS iM h0 ad u) H → va_D A (wM cB cI cJ cZ cS iM h0 ad u) → va_S A s.heap H locs → ∀ (ls : Array Slot), lv_has ls 1 [] → W p l e R s m args below meth c H locs 0 0 (MQ below (mQi D cl cB cI cJ cZ cS iM h0 ad A x) args s 0 0 A) (F0 m 16 ls []) := by
  intro u x hf H locs hP hD hS ls hl
  obtain ⟨hx, hb, hr, hml, ht, hown, hM, hK, hA, hlocks⟩ := id C0
  unfold fb_M_isDigit_16 at hf
  refine lv_iconst (v := 0) hx hb d_M_isDigit_16 (by decide) ?_
  exact wb_M_isDigit_17 C0 hR N G hG _ _ _ hf H locs hP hD hS ls (lv_sub hl [] rfl)
def fb_M_isDigit_0 (N : Nat) (G : Unit) (u : MS) (v0 : Int32) : Option (MS × Int32) := br (decide (v0 < 48)) (fb_M_isDigit_16 N G u) (br (decide (57 < v0)) (fb_M_isDigit_16 N G u) (fb_M_isDigit_17 N G u (1)))
set_option maxRecDepth 100000 in
set_option maxHeartbeats 4000000 in
theorem wb_M_isDigit_0 {p : Program} {l : Launch} {e : Env} {R : Room} {s : State} {m : MethodId} {args : Array Value} {below : List Frame} {meth : Method} {c : Code} {D : va_G} {cl : List vw_C} {cB cI cJ cZ cS : ClassId} {A : Nat → Prop} {iM h0 : Nat} {ad : Nat → Nat} (C0 : MCx p s m args meth c b_M_isDigit 1 (some .boolean) D cl cB cI cJ cZ cS iM A) (hR : R = rm_M_isDigit) (N : Nat) (G : Unit) (hG : True) : ∀ (u : MS) (v0 : Int32) (x : MS × Int32), fb_M_isDigit_0 N G u v0 = some x → ∀ (H : Heap) (locs : List Loc), va_P D cl (wM cB cI cJ cZ cS iM h0 ad u) H → va_D A (wM cB cI cJ cZ cS iM h0 ad u) → va_S A s.heap H locs → ∀ (ls : Array Slot), lv_has ls 1 [(0, .int v0)] → W p l e R s m args below meth c H locs 0 0 (MQ below (mQi D cl cB cI cJ cZ cS iM h0 ad A x) args s 0 0 A) (F0 m 0 ls []) := by
  intro u v0 x hf H locs hP hD hS ls hl
  obtain ⟨hx, hb, hr, hml, ht, hown, hM, hK, hA, hlocks⟩ := id C0
  unfold fb_M_isDigit_0 at hf
  refine lv_iload_n hx hb d_M_isDigit_0 rfl (lv_at hl 0 rfl) ?_
  refine lv_bipush (v := 48) hx hb d_M_isDigit_1 (by decide) ?_
  refine lv_icmp_lt (tgt := 16) hx hb d_M_isDigit_3 (by decide) (fun hc => ?_) (fun hc => ?_)
  · rw [br_p _ hc] at hf
    exact wb_M_isDigit_16 C0 hR N G hG _ _ hf H locs hP hD hS ls (lv_sub hl [] rfl)
  · rw [br_n _ hc] at hf
    refine lv_iload_n hx hb d_M_isDigit_6 rfl (lv_at hl 0 rfl) ?_
    refine lv_bipush (v := 57) hx hb d_M_isDigit_7 (by decide) ?_
    refine lv_icmp_gt (tgt := 16) hx hb d_M_isDigit_9 (by decide) (fun hc => ?_) (fun hc => ?_)
    · rw [br_p _ hc] at hf
      exact wb_M_isDigit_16 C0 hR N G hG _ _ hf H locs hP hD hS ls (lv_sub hl [] rfl)
    · rw [br_n _ hc] at hf
      refine lv_iconst (v := 1) hx hb d_M_isDigit_12 (by decide) ?_
      refine lv_goto (tgt := 17) hx hb d_M_isDigit_13 (by decide) ?_
      exact wb_M_isDigit_17 C0 hR N G hG _ _ _ hf H locs hP hD hS ls (lv_sub hl [] rfl)
def fm_M_isDigit (N : Nat) (u : MS) (v0 : Int32) : Option (MS × Int32) := fb_M_isDigit_0 N () u v0
set_option maxRecDepth 100000 in
set_option maxHeartbeats 4000000 in
theorem c_M_isDigit (N : Nat) {l : Launch} {D : va_G} {cl : List vw_C} {cB cI cJ cZ cS : ClassId} {iM h0 : Nat} {ad : Nat → Nat} {u : MS} {sz : Nat} {v0 : Int32} {x : MS × Int32} (hM : cl[iM]? = some (R_M, F_M, 171)) (hf : fm_M_isDigit N u v0 = some x) : Met l y_M_isDigit (wd_ws y_M_isDigit b_M_isDigit 1 (some .boolean)) rm_M_isDigit (mPc D cl cB cI cJ cZ cS iM h0 ad u sz [.int v0]) (mQi D cl cB cI cJ cZ cS iM h0 ad (mA cB cI cJ cZ cS iM h0 ad u sz) x) 0 0 (mA cB cI cJ cZ cS iM h0 ad u sz) :=
  mMet (by decide) rfl hM (Nat.le_of_ble_eq_true rfl) (fun p e s m below meth c ls hsz C0 hP hD hS hl => by
    have hR : rm_M_isDigit = rm_M_isDigit := rfl
    exact wb_M_isDigit_0 C0 hR N () trivial u _ x hf s.heap [] hP hD hS ls (lv_sub hl [0] rfl))
abbrev b_M_isInner : ByteArray := prog_14_method_8_code
def y_M_isInner : MethodName := ⟨R_M, "isInner", "(I)Z"⟩
def w_M_isInner : List Cond := wd_ws y_M_isInner b_M_isInner 1 (some .boolean)
set_option maxRecDepth 100000 in
theorem k_M_isInner : Cond.code y_M_isInner b_M_isInner 1 (some .boolean) ∈ wd_tbl := wd_of 2665 rfl rfl
theorem d_M_isInner_0 : decode b_M_isInner 0 = .ok (.iload_n 0, 1) := by decide +kernel
theorem d_M_isInner_1 : decode b_M_isInner 1 = .ok (.invokestatic 375, 3) := by decide +kernel
theorem d_M_isInner_4 : decode b_M_isInner 4 = .ok (.ifCond .ne 17, 3) := by decide +kernel
theorem d_M_isInner_7 : decode b_M_isInner 7 = .ok (.iload_n 0, 1) := by decide +kernel
theorem d_M_isInner_8 : decode b_M_isInner 8 = .ok (.invokestatic 379, 3) := by decide +kernel
theorem d_M_isInner_11 : decode b_M_isInner 11 = .ok (.ifCond .ne 10, 3) := by decide +kernel
theorem d_M_isInner_14 : decode b_M_isInner 14 = .ok (.iload_n 0, 1) := by decide +kernel
theorem d_M_isInner_15 : decode b_M_isInner 15 = .ok (.invokestatic 382, 3) := by decide +kernel
theorem d_M_isInner_18 : decode b_M_isInner 18 = .ok (.ifCond .eq 7, 3) := by decide +kernel
theorem d_M_isInner_21 : decode b_M_isInner 21 = .ok (.iconst 1, 1) := by decide +kernel
theorem d_M_isInner_22 : decode b_M_isInner 22 = .ok (.goto 4, 3) := by decide +kernel
theorem d_M_isInner_25 : decode b_M_isInner 25 = .ok (.iconst 0, 1) := by decide +kernel
theorem d_M_isInner_26 : decode b_M_isInner 26 = .ok (.ireturn, 1) := by decide +kernel
set_option maxRecDepth 100000 in
theorem hl_M_isInner : Cond.methodLink R_M 435 y_M_isInner ∈ wd_tbl := wd_of 2663 (by decide +kernel) rfl
set_option maxRecDepth 100000 in
theorem ht_M_isInner : Cond.static y_M_isInner ∈ wd_tbl := wd_of 2664 (by decide +kernel) rfl
theorem hd_M_isInner : y_M_isInner.cls = R_M ∧ y_M_isInner.cls ≠ "java/lang/invoke/MethodHandle" ∧ y_M_isInner.cls ≠ "java/lang/invoke/VarHandle" ∧ (parseMethodDescriptor y_M_isInner.desc).map (fun d => d.parameters.length) = some 1 := by decide +kernel
def rm_M_isInner : Room := { frames := 1, cells := 0, slots := 0, locals := 20 }
theorem rm_M_isInner_M_isSmall {R : Room} (hR : R = rm_M_isInner) : (rm_M_isSmall).frames + 1 ≤ R.frames ∧ 8 + (1 + 11) + (rm_M_isSmall).locals ≤ R.locals := by subst hR; decide
theorem rm_M_isInner_M_isGreat {R : Room} (hR : R = rm_M_isInner) : (rm_M_isGreat).frames + 1 ≤ R.frames ∧ 8 + (1 + 11) + (rm_M_isGreat).locals ≤ R.locals := by subst hR; decide
theorem rm_M_isInner_M_isDigit {R : Room} (hR : R = rm_M_isInner) : (rm_M_isDigit).frames + 1 ≤ R.frames ∧ 8 + (1 + 11) + (rm_M_isDigit).locals ≤ R.locals := by subst hR; decide
def fb_M_isInner_26 (N : Nat) (G : Unit) (u : MS) (t0 : Int32) : Option (MS × Int32) := ck (isb t0) (some (u, t0))
set_option maxRecDepth 100000 in
set_option maxHeartbeats 4000000 in
theorem wb_M_isInner_26 {p : Program} {l : Launch} {e : Env} {R : Room} {s : State} {m : MethodId} {args : Array Value} {below : List Frame} {meth : Method} {c : Code} {D : va_G} {cl : List vw_C} {cB cI cJ cZ cS : ClassId} {A : Nat → Prop} {iM h0 : Nat} {ad : Nat → Nat} (C0 : MCx p s m args meth c b_M_isInner 1 (some .boolean) D cl cB cI cJ cZ cS iM A) (hR : R = rm_M_isInner) (N : Nat) (G : Unit) (hG : True) : ∀ (u : MS) (t0 : Int32) (x : MS × Int32), fb_M_isInner_26 N G u t0 = some x → ∀ (H : Heap) (locs : List Loc), va_P D cl (wM cB cI cJ cZ cS iM h0 ad u) H → va_D A (wM cB cI cJ cZ cS iM h0 ad u) → va_S A s.heap H locs → ∀ (ls : Array Slot), lv_has ls 1 [] → W p l e R s m args below meth c H locs 0 0 (MQ below (mQi D cl cB cI cJ cZ cS iM h0 ad A x) args s 0 0 A) (F0 m 26 ls [.int t0]) := by
  intro u t0 x hf H locs hP hD hS ls hl
  obtain ⟨hx, hb, hr, hml, ht, hown, hM, hK, hA, hlocks⟩ := id C0
  unfold fb_M_isInner_26 at hf
  obtain ⟨hz, hf⟩ := ck_some hf
  exact mr_z C0 hP hD hS hz hf d_M_isInner_26
def fb_M_isInner_21 (N : Nat) (G : Unit) (u : MS) : Option (MS × Int32) := fb_M_isInner_26 N G u (1)
set_option maxRecDepth 100000 in
set_option maxHeartbeats 4000000 in
theorem wb_M_isInner_21 {p : Program} {l : Launch} {e : Env} {R : Room} {s : State} {m : MethodId} {args : Array Value} {below : List Frame} {meth : Method} {c : Code} {D : va_G} {cl : List vw_C} {cB cI cJ cZ cS : ClassId} {A : Nat → Prop} {iM h0 : Nat} {ad : Nat → Nat} (C0 : MCx p s m args meth c b_M_isInner 1 (some .boolean) D cl cB cI cJ cZ cS iM A) (hR : R = rm_M_isInner) (N : Nat) (G : Unit) (hG : True) : ∀ (u : MS) (x : MS × Int32), fb_M_isInner_21 N G u = some x → ∀ (H : Heap) (locs : List Loc), va_P D cl (wM cB cI cJ cZ cS iM h0 ad u) H → va_D A (wM cB cI cJ cZ cS iM h0 ad u) → va_S A s.heap H locs → ∀ (ls : Array Slot), lv_has ls 1 [] → W p l e R s m args below meth c H locs 0 0 (MQ below (mQi D cl cB cI cJ cZ cS iM h0 ad A x) args s 0 0 A) (F0 m 21 ls []) := by
  intro u x hf H locs hP hD hS ls hl
  obtain ⟨hx, hb, hr, hml, ht, hown, hM, hK, hA, hlocks⟩ := id C0
  unfold fb_M_isInner_21 at hf
  refine lv_iconst (v := 1) hx hb d_M_isInner_21 (by decide) ?_
  refine lv_goto (tgt := 26) hx hb d_M_isInner_22 (by decide) ?_
  exact wb_M_isInner_26 C0 hR N G hG _ _ _ hf H locs hP hD hS ls (lv_sub hl [] rfl)
def fb_M_isInner_0 (N : Nat) (G : Unit) (u : MS) (v0 : Int32) : Option (MS × Int32) := bnd (fm_M_isSmall N u v0) (fun u1 r1 => br (decide (r1 = 0)) (bnd (fm_M_isGreat N u1 v0) (fun u2 r2 => br (decide (r2 = 0)) (bnd (fm_M_isDigit N u2 v0) (fun u3 r3 => br (decide (r3 = 0)) (fb_M_isInner_26 N G u3 (0)) (fb_M_isInner_21 N G u3))) (fb_M_isInner_21 N G u2))) (fb_M_isInner_21 N G u1))
set_option maxRecDepth 100000 in
set_option maxHeartbeats 4000000 in
theorem wb_M_isInner_0 {p : Program} {l : Launch} {e : Env} {R : Room} {s : State} {m : MethodId} {args : Array Value} {below : List Frame} {meth : Method} {c : Code} {D : va_G} {cl : List vw_C} {cB cI cJ cZ cS : ClassId} {A : Nat → Prop} {iM h0 : Nat} {ad : Nat → Nat} (C0 : MCx p s m args meth c b_M_isInner 1 (some .boolean) D cl cB cI cJ cZ cS iM A) (hR : R = rm_M_isInner) (N : Nat) (G : Unit) (hG : True) : ∀ (u : MS) (v0 : Int32) (x : MS × Int32), fb_M_isInner_0 N G u v0 = some x → ∀ (H : Heap) (locs : List Loc), va_P D cl (wM cB cI cJ cZ cS iM h0 ad u) H → va_D A (wM cB cI cJ cZ cS iM h0 ad u) → va_S A s.heap H locs → ∀ (ls : Array Slot), lv_has ls 1 [(0, .int v0)] → W p l e R s m args below meth c H locs 0 0 (MQ below (mQi D cl cB cI cJ cZ cS iM h0 ad A x) args s 0 0 A) (F0 m 0 ls []) := by
  intro u v0 x hf H locs hP hD hS ls hl
  obtain ⟨hx, hb, hr, hml, ht, hown, hM, hK, hA, hlocks⟩ := id C0
  unfold fb_M_isInner_0 at hf
  refine lv_iload_n hx hb d_M_isInner_0 rfl (lv_at hl 0 rfl) ?_
  obtain ⟨u1, r1, hc1, hf⟩ := bnd_some hf
  refine mS_i (As := [.int v0]) (rest := []) C0 hP hD hS (c_M_isSmall N hM hc1) k_M_isSmall hl_M_isSmall ht_M_isSmall hini_M rfl rfl hd_M_isSmall rfl (rm_M_isInner_M_isSmall hR) hl.1 (Nat.le_of_ble_eq_true rfl) d_M_isInner_1 rfl ⟨Nat.zero_le _, Nat.zero_le _⟩ (fun H locs hP hD hS => ?_)
  refine lv_if_ne (tgt := 21) hx hb d_M_isInner_4 (by decide) (fun hc => ?_) (fun hc => ?_)
  · rw [br_n _ hc] at hf
    exact wb_M_isInner_21 C0 hR N G hG _ _ hf H locs hP hD hS ls (lv_sub hl [] rfl)
  · rw [br_p _ hc] at hf
    refine lv_iload_n hx hb d_M_isInner_7 rfl (lv_at hl 0 rfl) ?_
    obtain ⟨u2, r2, hc2, hf⟩ := bnd_some hf
    refine mS_i (As := [.int v0]) (rest := []) C0 hP hD hS (c_M_isGreat N hM hc2) k_M_isGreat hl_M_isGreat ht_M_isGreat hini_M rfl rfl hd_M_isGreat rfl (rm_M_isInner_M_isGreat hR) hl.1 (Nat.le_of_ble_eq_true rfl) d_M_isInner_8 rfl ⟨Nat.zero_le _, Nat.zero_le _⟩ (fun H locs hP hD hS => ?_)
    refine lv_if_ne (tgt := 21) hx hb d_M_isInner_11 (by decide) (fun hc => ?_) (fun hc => ?_)
    · rw [br_n _ hc] at hf
      exact wb_M_isInner_21 C0 hR N G hG _ _ hf H locs hP hD hS ls (lv_sub hl [] rfl)
    · rw [br_p _ hc] at hf
      refine lv_iload_n hx hb d_M_isInner_14 rfl (lv_at hl 0 rfl) ?_
      obtain ⟨u3, r3, hc3, hf⟩ := bnd_some hf
      refine mS_i (As := [.int v0]) (rest := []) C0 hP hD hS (c_M_isDigit N hM hc3) k_M_isDigit hl_M_isDigit ht_M_isDigit hini_M rfl rfl hd_M_isDigit rfl (rm_M_isInner_M_isDigit hR) hl.1 (Nat.le_of_ble_eq_true rfl) d_M_isInner_15 rfl ⟨Nat.zero_le _, Nat.zero_le _⟩ (fun H locs hP hD hS => ?_)
      refine lv_if_eq (tgt := 25) hx hb d_M_isInner_18 (by decide) (fun hc => ?_) (fun hc => ?_)
      · rw [br_p _ hc] at hf
        refine lv_iconst (v := 0) hx hb d_M_isInner_25 (by decide) ?_
        exact wb_M_isInner_26 C0 hR N G hG _ _ _ hf H locs hP hD hS ls (lv_sub hl [] rfl)
      · rw [br_n _ hc] at hf
        exact wb_M_isInner_21 C0 hR N G hG _ _ hf H locs hP hD hS ls (lv_sub hl [] rfl)
def fm_M_isInner (N : Nat) (u : MS) (v0 : Int32) : Option (MS × Int32) := fb_M_isInner_0 N () u v0
set_option maxRecDepth 100000 in
set_option maxHeartbeats 4000000 in
theorem c_M_isInner (N : Nat) {l : Launch} {D : va_G} {cl : List vw_C} {cB cI cJ cZ cS : ClassId} {iM h0 : Nat} {ad : Nat → Nat} {u : MS} {sz : Nat} {v0 : Int32} {x : MS × Int32} (hM : cl[iM]? = some (R_M, F_M, 171)) (hf : fm_M_isInner N u v0 = some x) : Met l y_M_isInner (wd_ws y_M_isInner b_M_isInner 1 (some .boolean)) rm_M_isInner (mPc D cl cB cI cJ cZ cS iM h0 ad u sz [.int v0]) (mQi D cl cB cI cJ cZ cS iM h0 ad (mA cB cI cJ cZ cS iM h0 ad u sz) x) 0 0 (mA cB cI cJ cZ cS iM h0 ad u sz) :=
  mMet (by decide) rfl hM (Nat.le_of_ble_eq_true rfl) (fun p e s m below meth c ls hsz C0 hP hD hS hl => by
    have hR : rm_M_isInner = rm_M_isInner := rfl
    exact wb_M_isInner_0 C0 hR N () trivial u _ x hf s.heap [] hP hD hS ls (lv_sub hl [0] rfl))
abbrev b_M_byteAt : ByteArray := prog_14_method_9_code
def y_M_byteAt : MethodName := ⟨R_M, "byteAt", "(I)I"⟩
def w_M_byteAt : List Cond := wd_ws y_M_byteAt b_M_byteAt 2 (some .int)
set_option maxRecDepth 100000 in
theorem k_M_byteAt : Cond.code y_M_byteAt b_M_byteAt 2 (some .int) ∈ wd_tbl := wd_of 2652 rfl rfl
theorem d_M_byteAt_0 : decode b_M_byteAt 0 = .ok (.iload_n 1, 1) := by decide +kernel
theorem d_M_byteAt_1 : decode b_M_byteAt 1 = .ok (.aload_n 0, 1) := by decide +kernel
theorem d_M_byteAt_2 : decode b_M_byteAt 2 = .ok (.getfield 372, 3) := by decide +kernel
theorem d_M_byteAt_5 : decode b_M_byteAt 5 = .ok (.if_icmp .ge 16, 3) := by decide +kernel
theorem d_M_byteAt_8 : decode b_M_byteAt 8 = .ok (.aload_n 0, 1) := by decide +kernel
theorem d_M_byteAt_9 : decode b_M_byteAt 9 = .ok (.getfield 19, 3) := by decide +kernel
theorem d_M_byteAt_12 : decode b_M_byteAt 12 = .ok (.iload_n 1, 1) := by decide +kernel
theorem d_M_byteAt_13 : decode b_M_byteAt 13 = .ok (.baload, 1) := by decide +kernel
theorem d_M_byteAt_14 : decode b_M_byteAt 14 = .ok (.sipush 255, 3) := by decide +kernel
theorem d_M_byteAt_17 : decode b_M_byteAt 17 = .ok (.iand, 1) := by decide +kernel
theorem d_M_byteAt_18 : decode b_M_byteAt 18 = .ok (.goto 4, 3) := by decide +kernel
theorem d_M_byteAt_21 : decode b_M_byteAt 21 = .ok (.iconst (-1), 1) := by decide +kernel
theorem d_M_byteAt_22 : decode b_M_byteAt 22 = .ok (.ireturn, 1) := by decide +kernel
set_option maxRecDepth 100000 in
theorem hl_M_byteAt : Cond.methodLink R_M 414 y_M_byteAt ∈ wd_tbl := wd_of 2649 (by decide +kernel) rfl
set_option maxRecDepth 100000 in
theorem hi_M_byteAt : Cond.instanceMethod y_M_byteAt ∈ wd_tbl := wd_of 2651 (by decide +kernel) rfl
set_option maxRecDepth 100000 in
theorem hs_M_byteAt : Cond.selects R_M y_M_byteAt y_M_byteAt ∈ wd_tbl := wd_of 130 (by decide +kernel) rfl
theorem hd_M_byteAt : y_M_byteAt.cls = R_M ∧ y_M_byteAt.cls ≠ "java/lang/invoke/MethodHandle" ∧ y_M_byteAt.cls ≠ "java/lang/invoke/VarHandle" ∧ (parseMethodDescriptor y_M_byteAt.desc).map (fun d => d.parameters.length) = some 1 := by decide +kernel
def rm_M_byteAt : Room := { frames := 0, cells := 0, slots := 0, locals := 0 }
def fb_M_byteAt_22 (N : Nat) (G : Unit) (u : MS) (t0 : Int32) : Option (MS × Int32) := some (u, t0)
set_option maxRecDepth 100000 in
set_option maxHeartbeats 4000000 in
theorem wb_M_byteAt_22 {p : Program} {l : Launch} {e : Env} {R : Room} {s : State} {m : MethodId} {args : Array Value} {below : List Frame} {meth : Method} {c : Code} {D : va_G} {cl : List vw_C} {cB cI cJ cZ cS : ClassId} {A : Nat → Prop} {iM h0 : Nat} {ad : Nat → Nat} (C0 : MCx p s m args meth c b_M_byteAt 2 (some .int) D cl cB cI cJ cZ cS iM A) (hR : R = rm_M_byteAt) (N : Nat) (G : Unit) (hG : True) : ∀ (u : MS) (t0 : Int32) (x : MS × Int32), fb_M_byteAt_22 N G u t0 = some x → ∀ (H : Heap) (locs : List Loc), va_P D cl (wM cB cI cJ cZ cS iM h0 ad u) H → va_D A (wM cB cI cJ cZ cS iM h0 ad u) → va_S A s.heap H locs → ∀ (ls : Array Slot), lv_has ls 2 [] → W p l e R s m args below meth c H locs 0 0 (MQ below (mQi D cl cB cI cJ cZ cS iM h0 ad A x) args s 0 0 A) (F0 m 22 ls [.int t0]) := by
  intro u t0 x hf H locs hP hD hS ls hl
  obtain ⟨hx, hb, hr, hml, ht, hown, hM, hK, hA, hlocks⟩ := id C0
  unfold fb_M_byteAt_22 at hf
  exact mr_i C0 hP hD hS hf d_M_byteAt_22
def fb_M_byteAt_0 (N : Nat) (G : Unit) (u : MS) (v1 : Int32) : Option (MS × Int32) := br (decide ((u.1 5) ≤ v1)) (fb_M_byteAt_22 N G u ((-1))) (ck (inb v1 (ln 4)) (fb_M_byteAt_22 N G u (((u.2.2.1 4 v1.toNatClampNeg) &&& 255))))
set_option maxRecDepth 100000 in
set_option maxHeartbeats 4000000 in
theorem wb_M_byteAt_0 {p : Program} {l : Launch} {e : Env} {R : Room} {s : State} {m : MethodId} {args : Array Value} {below : List Frame} {meth : Method} {c : Code} {D : va_G} {cl : List vw_C} {cB cI cJ cZ cS : ClassId} {A : Nat → Prop} {iM h0 : Nat} {ad : Nat → Nat} (C0 : MCx p s m args meth c b_M_byteAt 2 (some .int) D cl cB cI cJ cZ cS iM A) (hR : R = rm_M_byteAt) (N : Nat) (G : Unit) (hG : True) : ∀ (u : MS) (v1 : Int32) (x : MS × Int32), fb_M_byteAt_0 N G u v1 = some x → ∀ (H : Heap) (locs : List Loc), va_P D cl (wM cB cI cJ cZ cS iM h0 ad u) H → va_D A (wM cB cI cJ cZ cS iM h0 ad u) → va_S A s.heap H locs → ∀ (ls : Array Slot), lv_has ls 2 [(0, .ref h0), (1, .int v1)] → W p l e R s m args below meth c H locs 0 0 (MQ below (mQi D cl cB cI cJ cZ cS iM h0 ad A x) args s 0 0 A) (F0 m 0 ls []) := by
  intro u v1 x hf H locs hP hD hS ls hl
  obtain ⟨hx, hb, hr, hml, ht, hown, hM, hK, hA, hlocks⟩ := id C0
  unfold fb_M_byteAt_0 at hf
  refine lv_iload_n hx hb d_M_byteAt_0 rfl (lv_at hl 1 rfl) ?_
  refine lv_aload_n hx hb d_M_byteAt_1 rfl (lv_at hl 0 rfl) ?_
  refine ug_I hx hb ht hown hM hK hP 5 (by decide) lk_M_5 (by decide) d_M_byteAt_2 ?_
  refine lv_icmp_ge (tgt := 21) hx hb d_M_byteAt_5 (by decide) (fun hc => ?_) (fun hc => ?_)
  · rw [br_p _ hc] at hf
    refine lv_iconst (v := (-1)) hx hb d_M_byteAt_21 (by decide) ?_
    exact wb_M_byteAt_22 C0 hR N G hG _ _ _ hf H locs hP hD hS ls (lv_sub hl [] rfl)
  · rw [br_n _ hc] at hf
    refine lv_aload_n hx hb d_M_byteAt_8 rfl (lv_at hl 0 rfl) ?_
    refine ug_R hx hb ht hown hM hK hP 4 (by decide) lk_M_4 (by decide) d_M_byteAt_9 ?_
    refine lv_iload_n hx hb d_M_byteAt_12 rfl (lv_at hl 1 rfl) ?_
    obtain ⟨hi9, hf⟩ := ck_some hf
    refine ul_B hx hb hK hP (by decide) (by decide) hi9 d_M_byteAt_13 ?_
    refine lv_sipush (v := 255) hx hb d_M_byteAt_14 (by decide) ?_
    refine lv_iand hx hb d_M_byteAt_17 ?_
    refine lv_goto (tgt := 22) hx hb d_M_byteAt_18 (by decide) ?_
    exact wb_M_byteAt_22 C0 hR N G hG _ _ _ hf H locs hP hD hS ls (lv_sub hl [] rfl)
def fm_M_byteAt (N : Nat) (u : MS) (v1 : Int32) : Option (MS × Int32) := fb_M_byteAt_0 N () u v1
set_option maxRecDepth 100000 in
set_option maxHeartbeats 4000000 in
theorem c_M_byteAt (N : Nat) {l : Launch} {D : va_G} {cl : List vw_C} {cB cI cJ cZ cS : ClassId} {iM h0 : Nat} {ad : Nat → Nat} {u : MS} {sz : Nat} {v1 : Int32} {x : MS × Int32} (hM : cl[iM]? = some (R_M, F_M, 171)) (hf : fm_M_byteAt N u v1 = some x) : Met l y_M_byteAt (wd_ws y_M_byteAt b_M_byteAt 2 (some .int)) rm_M_byteAt (mPc D cl cB cI cJ cZ cS iM h0 ad u sz [.ref h0, .int v1]) (mQi D cl cB cI cJ cZ cS iM h0 ad (mA cB cI cJ cZ cS iM h0 ad u sz) x) 0 0 (mA cB cI cJ cZ cS iM h0 ad u sz) :=
  mMet (by decide) rfl hM (Nat.le_of_ble_eq_true rfl) (fun p e s m below meth c ls hsz C0 hP hD hS hl => by
    have hR : rm_M_byteAt = rm_M_byteAt := rfl
    exact wb_M_byteAt_0 C0 hR N () trivial u _ x hf s.heap [] hP hD hS ls (lv_sub hl [0, 1] rfl))
abbrev b_M_textOf : ByteArray := prog_14_method_10_code
def y_M_textOf : MethodName := ⟨R_M, "textOf", "([B[II[BII)I"⟩
def w_M_textOf : List Cond := wd_ws y_M_textOf b_M_textOf 9 (some .int)
set_option maxRecDepth 100000 in
theorem k_M_textOf : Cond.code y_M_textOf b_M_textOf 9 (some .int) ∈ wd_tbl := wd_of 2648 rfl rfl
theorem d_M_textOf_0 : decode b_M_textOf 0 = .ok (.iconst 0, 1) := by decide +kernel
theorem d_M_textOf_1 : decode b_M_textOf 1 = .ok (.istore 6, 2) := by decide +kernel
theorem d_M_textOf_3 : decode b_M_textOf 3 = .ok (.iload 6, 2) := by decide +kernel
theorem d_M_textOf_5 : decode b_M_textOf 5 = .ok (.iload_n 2, 1) := by decide +kernel
theorem d_M_textOf_6 : decode b_M_textOf 6 = .ok (.if_icmp .ge 87, 3) := by decide +kernel
theorem d_M_textOf_9 : decode b_M_textOf 9 = .ok (.aload_n 1, 1) := by decide +kernel
theorem d_M_textOf_10 : decode b_M_textOf 10 = .ok (.iload 6, 2) := by decide +kernel
theorem d_M_textOf_12 : decode b_M_textOf 12 = .ok (.iconst 1, 1) := by decide +kernel
theorem d_M_textOf_13 : decode b_M_textOf 13 = .ok (.iadd, 1) := by decide +kernel
theorem d_M_textOf_14 : decode b_M_textOf 14 = .ok (.iaload, 1) := by decide +kernel
theorem d_M_textOf_15 : decode b_M_textOf 15 = .ok (.aload_n 1, 1) := by decide +kernel
theorem d_M_textOf_16 : decode b_M_textOf 16 = .ok (.iload 6, 2) := by decide +kernel
theorem d_M_textOf_18 : decode b_M_textOf 18 = .ok (.iaload, 1) := by decide +kernel
theorem d_M_textOf_19 : decode b_M_textOf 19 = .ok (.isub, 1) := by decide +kernel
theorem d_M_textOf_20 : decode b_M_textOf 20 = .ok (.iload 5, 2) := by decide +kernel
theorem d_M_textOf_22 : decode b_M_textOf 22 = .ok (.if_icmp .ne 7, 3) := by decide +kernel
theorem d_M_textOf_25 : decode b_M_textOf 25 = .ok (.iconst 1, 1) := by decide +kernel
theorem d_M_textOf_26 : decode b_M_textOf 26 = .ok (.goto 4, 3) := by decide +kernel
theorem d_M_textOf_29 : decode b_M_textOf 29 = .ok (.iconst 0, 1) := by decide +kernel
theorem d_M_textOf_30 : decode b_M_textOf 30 = .ok (.istore 7, 2) := by decide +kernel
theorem d_M_textOf_32 : decode b_M_textOf 32 = .ok (.iconst 0, 1) := by decide +kernel
theorem d_M_textOf_33 : decode b_M_textOf 33 = .ok (.istore 8, 2) := by decide +kernel
theorem d_M_textOf_35 : decode b_M_textOf 35 = .ok (.iload 8, 2) := by decide +kernel
theorem d_M_textOf_37 : decode b_M_textOf 37 = .ok (.iload 5, 2) := by decide +kernel
theorem d_M_textOf_39 : decode b_M_textOf 39 = .ok (.if_icmp .ge 40, 3) := by decide +kernel
theorem d_M_textOf_42 : decode b_M_textOf 42 = .ok (.iload 7, 2) := by decide +kernel
theorem d_M_textOf_44 : decode b_M_textOf 44 = .ok (.ifCond .eq 35, 3) := by decide +kernel
theorem d_M_textOf_47 : decode b_M_textOf 47 = .ok (.aload_n 0, 1) := by decide +kernel
theorem d_M_textOf_48 : decode b_M_textOf 48 = .ok (.aload_n 1, 1) := by decide +kernel
theorem d_M_textOf_49 : decode b_M_textOf 49 = .ok (.iload 6, 2) := by decide +kernel
theorem d_M_textOf_51 : decode b_M_textOf 51 = .ok (.iaload, 1) := by decide +kernel
theorem d_M_textOf_52 : decode b_M_textOf 52 = .ok (.iload 8, 2) := by decide +kernel
theorem d_M_textOf_54 : decode b_M_textOf 54 = .ok (.iadd, 1) := by decide +kernel
theorem d_M_textOf_55 : decode b_M_textOf 55 = .ok (.baload, 1) := by decide +kernel
theorem d_M_textOf_56 : decode b_M_textOf 56 = .ok (.aload_n 3, 1) := by decide +kernel
theorem d_M_textOf_57 : decode b_M_textOf 57 = .ok (.iload 4, 2) := by decide +kernel
theorem d_M_textOf_59 : decode b_M_textOf 59 = .ok (.iload 8, 2) := by decide +kernel
theorem d_M_textOf_61 : decode b_M_textOf 61 = .ok (.iadd, 1) := by decide +kernel
theorem d_M_textOf_62 : decode b_M_textOf 62 = .ok (.baload, 1) := by decide +kernel
theorem d_M_textOf_63 : decode b_M_textOf 63 = .ok (.if_icmp .ne 7, 3) := by decide +kernel
theorem d_M_textOf_66 : decode b_M_textOf 66 = .ok (.iconst 1, 1) := by decide +kernel
theorem d_M_textOf_67 : decode b_M_textOf 67 = .ok (.goto 4, 3) := by decide +kernel
theorem d_M_textOf_70 : decode b_M_textOf 70 = .ok (.iconst 0, 1) := by decide +kernel
theorem d_M_textOf_71 : decode b_M_textOf 71 = .ok (.istore 7, 2) := by decide +kernel
theorem d_M_textOf_73 : decode b_M_textOf 73 = .ok (.iinc 8 1, 3) := by decide +kernel
theorem d_M_textOf_76 : decode b_M_textOf 76 = .ok (.goto (-41), 3) := by decide +kernel
theorem d_M_textOf_79 : decode b_M_textOf 79 = .ok (.iload 7, 2) := by decide +kernel
theorem d_M_textOf_81 : decode b_M_textOf 81 = .ok (.ifCond .eq 6, 3) := by decide +kernel
theorem d_M_textOf_84 : decode b_M_textOf 84 = .ok (.iload 6, 2) := by decide +kernel
theorem d_M_textOf_86 : decode b_M_textOf 86 = .ok (.ireturn, 1) := by decide +kernel
theorem d_M_textOf_87 : decode b_M_textOf 87 = .ok (.iinc 6 1, 3) := by decide +kernel
theorem d_M_textOf_90 : decode b_M_textOf 90 = .ok (.goto (-87), 3) := by decide +kernel
theorem d_M_textOf_93 : decode b_M_textOf 93 = .ok (.iconst 0, 1) := by decide +kernel
theorem d_M_textOf_94 : decode b_M_textOf 94 = .ok (.istore 6, 2) := by decide +kernel
theorem d_M_textOf_96 : decode b_M_textOf 96 = .ok (.iload 6, 2) := by decide +kernel
theorem d_M_textOf_98 : decode b_M_textOf 98 = .ok (.iload 5, 2) := by decide +kernel
theorem d_M_textOf_100 : decode b_M_textOf 100 = .ok (.if_icmp .ge 24, 3) := by decide +kernel
theorem d_M_textOf_103 : decode b_M_textOf 103 = .ok (.aload_n 0, 1) := by decide +kernel
theorem d_M_textOf_104 : decode b_M_textOf 104 = .ok (.aload_n 1, 1) := by decide +kernel
theorem d_M_textOf_105 : decode b_M_textOf 105 = .ok (.iload_n 2, 1) := by decide +kernel
theorem d_M_textOf_106 : decode b_M_textOf 106 = .ok (.iaload, 1) := by decide +kernel
theorem d_M_textOf_107 : decode b_M_textOf 107 = .ok (.iload 6, 2) := by decide +kernel
theorem d_M_textOf_109 : decode b_M_textOf 109 = .ok (.iadd, 1) := by decide +kernel
theorem d_M_textOf_110 : decode b_M_textOf 110 = .ok (.aload_n 3, 1) := by decide +kernel
theorem d_M_textOf_111 : decode b_M_textOf 111 = .ok (.iload 4, 2) := by decide +kernel
theorem d_M_textOf_113 : decode b_M_textOf 113 = .ok (.iload 6, 2) := by decide +kernel
theorem d_M_textOf_115 : decode b_M_textOf 115 = .ok (.iadd, 1) := by decide +kernel
theorem d_M_textOf_116 : decode b_M_textOf 116 = .ok (.baload, 1) := by decide +kernel
theorem d_M_textOf_117 : decode b_M_textOf 117 = .ok (.bastore, 1) := by decide +kernel
theorem d_M_textOf_118 : decode b_M_textOf 118 = .ok (.iinc 6 1, 3) := by decide +kernel
theorem d_M_textOf_121 : decode b_M_textOf 121 = .ok (.goto (-25), 3) := by decide +kernel
theorem d_M_textOf_124 : decode b_M_textOf 124 = .ok (.aload_n 1, 1) := by decide +kernel
theorem d_M_textOf_125 : decode b_M_textOf 125 = .ok (.iload_n 2, 1) := by decide +kernel
theorem d_M_textOf_126 : decode b_M_textOf 126 = .ok (.iconst 1, 1) := by decide +kernel
theorem d_M_textOf_127 : decode b_M_textOf 127 = .ok (.iadd, 1) := by decide +kernel
theorem d_M_textOf_128 : decode b_M_textOf 128 = .ok (.aload_n 1, 1) := by decide +kernel
theorem d_M_textOf_129 : decode b_M_textOf 129 = .ok (.iload_n 2, 1) := by decide +kernel
theorem d_M_textOf_130 : decode b_M_textOf 130 = .ok (.iaload, 1) := by decide +kernel
theorem d_M_textOf_131 : decode b_M_textOf 131 = .ok (.iload 5, 2) := by decide +kernel
theorem d_M_textOf_133 : decode b_M_textOf 133 = .ok (.iadd, 1) := by decide +kernel
theorem d_M_textOf_134 : decode b_M_textOf 134 = .ok (.iastore, 1) := by decide +kernel
theorem d_M_textOf_135 : decode b_M_textOf 135 = .ok (.iload_n 2, 1) := by decide +kernel
theorem d_M_textOf_136 : decode b_M_textOf 136 = .ok (.ireturn, 1) := by decide +kernel
set_option maxRecDepth 100000 in
theorem hl_M_textOf : Cond.methodLink R_M 388 y_M_textOf ∈ wd_tbl := wd_of 2646 (by decide +kernel) rfl
set_option maxRecDepth 100000 in
theorem ht_M_textOf : Cond.static y_M_textOf ∈ wd_tbl := wd_of 2647 (by decide +kernel) rfl
theorem hd_M_textOf : y_M_textOf.cls = R_M ∧ y_M_textOf.cls ≠ "java/lang/invoke/MethodHandle" ∧ y_M_textOf.cls ≠ "java/lang/invoke/VarHandle" ∧ (parseMethodDescriptor y_M_textOf.desc).map (fun d => d.parameters.length) = some 6 := by decide +kernel
def rm_M_textOf : Room := { frames := 0, cells := 0, slots := 0, locals := 0 }
def fb_M_textOf_96 (N : Nat) (G : (MS → Nat → Nat → Int32 → Nat → Int32 → Int32 → Int32 → Option (MS × Int32)) × (MS → Nat → Nat → Int32 → Nat → Int32 → Int32 → Int32 → Int32 → Int32 → Option (MS × Int32)) × (MS → Nat → Nat → Int32 → Nat → Int32 → Int32 → Int32 → Option (MS × Int32))) (u : MS) (v0 : Nat) (v1 : Nat) (v2 : Int32) (v3 : Nat) (v4 : Int32) (v5 : Int32) (v6 : Int32) : Option (MS × Int32) := br (decide (v5 ≤ v6)) (ck (isK v1 4) (ck (inb v2 (ln v1)) (ck (isK v1 4) (ck (inb (v2 + 1) (ln v1)) (lt (upA u v1 (upd (u.2.2.1 v1) (v2 + 1).toNatClampNeg ((u.2.2.1 v1 v2.toNatClampNeg) + v5))) (fun w1 => some (w1, v2))))))) (ck (isK v1 4) (ck (inb v2 (ln v1)) (ck (isK v3 3) (ck (inb (v4 + v6) (ln v3)) (ck (isK v0 3) (ck (inb ((u.2.2.1 v1 v2.toNatClampNeg) + v6) (ln v0)) (lt (upA u v0 (upd (u.2.2.1 v0) ((u.2.2.1 v1 v2.toNatClampNeg) + v6).toNatClampNeg (vp_nar .byte (u.2.2.1 v3 (v4 + v6).toNatClampNeg)))) (fun w2 => G.2.2 w2 (v0) (v1) (v2) (v3) (v4) (v5) ((v6 + 1))))))))))
set_option maxRecDepth 100000 in
set_option maxHeartbeats 4000000 in
theorem wb_M_textOf_96 {p : Program} {l : Launch} {e : Env} {R : Room} {s : State} {m : MethodId} {args : Array Value} {below : List Frame} {meth : Method} {c : Code} {D : va_G} {cl : List vw_C} {cB cI cJ cZ cS : ClassId} {A : Nat → Prop} {iM h0 : Nat} {ad : Nat → Nat} (C0 : MCx p s m args meth c b_M_textOf 9 (some .int) D cl cB cI cJ cZ cS iM A) (hR : R = rm_M_textOf) (N : Nat) (G : (MS → Nat → Nat → Int32 → Nat → Int32 → Int32 → Int32 → Option (MS × Int32)) × (MS → Nat → Nat → Int32 → Nat → Int32 → Int32 → Int32 → Int32 → Int32 → Option (MS × Int32)) × (MS → Nat → Nat → Int32 → Nat → Int32 → Int32 → Int32 → Option (MS × Int32))) (hG : (∀ (u : MS) (v0 : Nat) (v1 : Nat) (v2 : Int32) (v3 : Nat) (v4 : Int32) (v5 : Int32) (v6 : Int32) (x : MS × Int32), G.1 u v0 v1 v2 v3 v4 v5 v6 = some x → ∀ (H : Heap) (locs : List Loc), va_P D cl (wM cB cI cJ cZ cS iM h0 ad u) H → va_D A (wM cB cI cJ cZ cS iM h0 ad u) → va_S A s.heap H locs → ∀ (ls : Array Slot), lv_has ls 9 [(0, .ref (ad v0)), (1, .ref (ad v1)), (2, .int v2), (3, .ref (ad v3)), (4, .int v4), (5, .int v5), (6, .int v6)] → W p l e R s m args below meth c H locs 0 0 (MQ below (mQi D cl cB cI cJ cZ cS iM h0 ad A x) args s 0 0 A) (F0 m 3 ls [])) ∧ (∀ (u : MS) (v0 : Nat) (v1 : Nat) (v2 : Int32) (v3 : Nat) (v4 : Int32) (v5 : Int32) (v6 : Int32) (v7 : Int32) (v8 : Int32) (x : MS × Int32), G.2.1 u v0 v1 v2 v3 v4 v5 v6 v7 v8 = some x → ∀ (H : Heap) (locs : List Loc), va_P D cl (wM cB cI cJ cZ cS iM h0 ad u) H → va_D A (wM cB cI cJ cZ cS iM h0 ad u) → va_S A s.heap H locs → ∀ (ls : Array Slot), lv_has ls 9 [(0, .ref (ad v0)), (1, .ref (ad v1)), (2, .int v2), (3, .ref (ad v3)), (4, .int v4), (5, .int v5), (6, .int v6), (7, .int v7), (8, .int v8)] → W p l e R s m args below meth c H locs 0 0 (MQ below (mQi D cl cB cI cJ cZ cS iM h0 ad A x) args s 0 0 A) (F0 m 35 ls [])) ∧ (∀ (u : MS) (v0 : Nat) (v1 : Nat) (v2 : Int32) (v3 : Nat) (v4 : Int32) (v5 : Int32) (v6 : Int32) (x : MS × Int32), G.2.2 u v0 v1 v2 v3 v4 v5 v6 = some x → ∀ (H : Heap) (locs : List Loc), va_P D cl (wM cB cI cJ cZ cS iM h0 ad u) H → va_D A (wM cB cI cJ cZ cS iM h0 ad u) → va_S A s.heap H locs → ∀ (ls : Array Slot), lv_has ls 9 [(0, .ref (ad v0)), (1, .ref (ad v1)), (2, .int v2), (3, .ref (ad v3)), (4, .int v4), (5, .int v5), (6, .int v6)] → W p l e R s m args below meth c H locs 0 0 (MQ below (mQi D cl cB cI cJ cZ cS iM h0 ad A x) args s 0 0 A) (F0 m 96 ls []))) : ∀ (u : MS) (v0 : Nat) (v1 : Nat) (v2 : Int32) (v3 : Nat) (v4 : Int32) (v5 : Int32) (v6 : Int32) (x : MS × Int32), fb_M_textOf_96 N G u v0 v1 v2 v3 v4 v5 v6 = some x → ∀ (H : Heap) (locs : List Loc), va_P D cl (wM cB cI cJ cZ cS iM h0 ad u) H → va_D A (wM cB cI cJ cZ cS iM h0 ad u) → va_S A s.heap H locs → ∀ (ls : Array Slot), lv_has ls 9 [(0, .ref (ad v0)), (1, .ref (ad v1)), (2, .int v2), (3, .ref (ad v3)), (4, .int v4), (5, .int v5), (6, .int v6)] → W p l e R s m args below meth c H locs 0 0 (MQ below (mQi D cl cB cI cJ cZ cS iM h0 ad A x) args s 0 0 A) (F0 m 96 ls []) := by
  intro u v0 v1 v2 v3 v4 v5 v6 x hf H locs hP hD hS ls hl
  obtain ⟨hx, hb, hr, hml, ht, hown, hM, hK, hA, hlocks⟩ := id C0
  unfold fb_M_textOf_96 at hf
  refine lv_iload hx hb d_M_textOf_96 (lv_at hl 6 rfl) ?_
  refine lv_iload hx hb d_M_textOf_98 (lv_at hl 5 rfl) ?_
  refine lv_icmp_ge (tgt := 124) hx hb d_M_textOf_100 (by decide) (fun hc => ?_) (fun hc => ?_)
  · rw [br_p _ hc] at hf
    refine lv_aload_n hx hb d_M_textOf_124 rfl (lv_at hl 1 rfl) ?_
    refine lv_iload_n hx hb d_M_textOf_125 rfl (lv_at hl 2 rfl) ?_
    refine lv_iconst (v := 1) hx hb d_M_textOf_126 (by decide) ?_
    refine lv_iadd hx hb d_M_textOf_127 ?_
    refine lv_aload_n hx hb d_M_textOf_128 rfl (lv_at hl 1 rfl) ?_
    refine lv_iload_n hx hb d_M_textOf_129 rfl (lv_at hl 2 rfl) ?_
    obtain ⟨hk9, hf⟩ := ck_some hf
    obtain ⟨hi9, hf⟩ := ck_some hf
    refine ul_I hx hb hK hP (isK_1 hk9) (isK_2 hk9) hi9 d_M_textOf_130 ?_
    refine lv_iload hx hb d_M_textOf_131 (lv_at hl 5 rfl) ?_
    refine lv_iadd hx hb d_M_textOf_133 ?_
    obtain ⟨hk9, hf⟩ := ck_some hf
    obtain ⟨hi9, hf⟩ := ck_some hf
    refine us_I hx hb hK hP hD hS (isK_1 hk9) (isK_2 hk9) hi9 d_M_textOf_134 (fun H locs hP hD hS => ?_)
    obtain ⟨w1, e1, hf⟩ := lt_some hf
    rw [← e1] at hP hD
    refine lv_iload_n hx hb d_M_textOf_135 rfl (lv_at hl 2 rfl) ?_
    exact mr_i C0 hP hD hS hf d_M_textOf_136
  · rw [br_n _ hc] at hf
    refine lv_aload_n hx hb d_M_textOf_103 rfl (lv_at hl 0 rfl) ?_
    refine lv_aload_n hx hb d_M_textOf_104 rfl (lv_at hl 1 rfl) ?_
    refine lv_iload_n hx hb d_M_textOf_105 rfl (lv_at hl 2 rfl) ?_
    obtain ⟨hk9, hf⟩ := ck_some hf
    obtain ⟨hi9, hf⟩ := ck_some hf
    refine ul_I hx hb hK hP (isK_1 hk9) (isK_2 hk9) hi9 d_M_textOf_106 ?_
    refine lv_iload hx hb d_M_textOf_107 (lv_at hl 6 rfl) ?_
    refine lv_iadd hx hb d_M_textOf_109 ?_
    refine lv_aload_n hx hb d_M_textOf_110 rfl (lv_at hl 3 rfl) ?_
    refine lv_iload hx hb d_M_textOf_111 (lv_at hl 4 rfl) ?_
    refine lv_iload hx hb d_M_textOf_113 (lv_at hl 6 rfl) ?_
    refine lv_iadd hx hb d_M_textOf_115 ?_
    obtain ⟨hk9, hf⟩ := ck_some hf
    obtain ⟨hi9, hf⟩ := ck_some hf
    refine ul_B hx hb hK hP (isK_1 hk9) (isK_2 hk9) hi9 d_M_textOf_116 ?_
    obtain ⟨hk9, hf⟩ := ck_some hf
    obtain ⟨hi9, hf⟩ := ck_some hf
    refine us_B hx hb hK hP hD hS (isK_1 hk9) (isK_2 hk9) hi9 d_M_textOf_117 (fun H locs hP hD hS => ?_)
    obtain ⟨w2, e2, hf⟩ := lt_some hf
    rw [← e2] at hP hD
    refine lv_iinc (v := (v6 + 1)) (lv' := [(6, .int (v6 + 1)), (0, .ref (ad v0)), (1, .ref (ad v1)), (2, .int v2), (3, .ref (ad v3)), (4, .int v4), (5, .int v5)]) hx hb d_M_textOf_118 hl (k := 6) rfl rfl (by decide) rfl (fun ls hl => ?_)
    refine lv_goto (tgt := 96) hx hb d_M_textOf_121 (by decide) ?_
    exact hG.2.2 _ _ _ _ _ _ _ _ _ hf H locs hP hD hS ls (lv_sub hl [1, 2, 3, 4, 5, 6, 0] rfl)
def fb_M_textOf_79 (N : Nat) (G : (MS → Nat → Nat → Int32 → Nat → Int32 → Int32 → Int32 → Option (MS × Int32)) × (MS → Nat → Nat → Int32 → Nat → Int32 → Int32 → Int32 → Int32 → Int32 → Option (MS × Int32)) × (MS → Nat → Nat → Int32 → Nat → Int32 → Int32 → Int32 → Option (MS × Int32))) (u : MS) (v0 : Nat) (v1 : Nat) (v2 : Int32) (v3 : Nat) (v4 : Int32) (v5 : Int32) (v6 : Int32) (v7 : Int32) : Option (MS × Int32) := br (decide (v7 = 0)) (G.1 u (v0) (v1) (v2) (v3) (v4) (v5) ((v6 + 1))) (some (u, v6))
set_option maxRecDepth 100000 in
set_option maxHeartbeats 4000000 in
theorem wb_M_textOf_79 {p : Program} {l : Launch} {e : Env} {R : Room} {s : State} {m : MethodId} {args : Array Value} {below : List Frame} {meth : Method} {c : Code} {D : va_G} {cl : List vw_C} {cB cI cJ cZ cS : ClassId} {A : Nat → Prop} {iM h0 : Nat} {ad : Nat → Nat} (C0 : MCx p s m args meth c b_M_textOf 9 (some .int) D cl cB cI cJ cZ cS iM A) (hR : R = rm_M_textOf) (N : Nat) (G : (MS → Nat → Nat → Int32 → Nat → Int32 → Int32 → Int32 → Option (MS × Int32)) × (MS → Nat → Nat → Int32 → Nat → Int32 → Int32 → Int32 → Int32 → Int32 → Option (MS × Int32)) × (MS → Nat → Nat → Int32 → Nat → Int32 → Int32 → Int32 → Option (MS × Int32))) (hG : (∀ (u : MS) (v0 : Nat) (v1 : Nat) (v2 : Int32) (v3 : Nat) (v4 : Int32) (v5 : Int32) (v6 : Int32) (x : MS × Int32), G.1 u v0 v1 v2 v3 v4 v5 v6 = some x → ∀ (H : Heap) (locs : List Loc), va_P D cl (wM cB cI cJ cZ cS iM h0 ad u) H → va_D A (wM cB cI cJ cZ cS iM h0 ad u) → va_S A s.heap H locs → ∀ (ls : Array Slot), lv_has ls 9 [(0, .ref (ad v0)), (1, .ref (ad v1)), (2, .int v2), (3, .ref (ad v3)), (4, .int v4), (5, .int v5), (6, .int v6)] → W p l e R s m args below meth c H locs 0 0 (MQ below (mQi D cl cB cI cJ cZ cS iM h0 ad A x) args s 0 0 A) (F0 m 3 ls [])) ∧ (∀ (u : MS) (v0 : Nat) (v1 : Nat) (v2 : Int32) (v3 : Nat) (v4 : Int32) (v5 : Int32) (v6 : Int32) (v7 : Int32) (v8 : Int32) (x : MS × Int32), G.2.1 u v0 v1 v2 v3 v4 v5 v6 v7 v8 = some x → ∀ (H : Heap) (locs : List Loc), va_P D cl (wM cB cI cJ cZ cS iM h0 ad u) H → va_D A (wM cB cI cJ cZ cS iM h0 ad u) → va_S A s.heap H locs → ∀ (ls : Array Slot), lv_has ls 9 [(0, .ref (ad v0)), (1, .ref (ad v1)), (2, .int v2), (3, .ref (ad v3)), (4, .int v4), (5, .int v5), (6, .int v6), (7, .int v7), (8, .int v8)] → W p l e R s m args below meth c H locs 0 0 (MQ below (mQi D cl cB cI cJ cZ cS iM h0 ad A x) args s 0 0 A) (F0 m 35 ls [])) ∧ (∀ (u : MS) (v0 : Nat) (v1 : Nat) (v2 : Int32) (v3 : Nat) (v4 : Int32) (v5 : Int32) (v6 : Int32) (x : MS × Int32), G.2.2 u v0 v1 v2 v3 v4 v5 v6 = some x → ∀ (H : Heap) (locs : List Loc), va_P D cl (wM cB cI cJ cZ cS iM h0 ad u) H → va_D A (wM cB cI cJ cZ cS iM h0 ad u) → va_S A s.heap H locs → ∀ (ls : Array Slot), lv_has ls 9 [(0, .ref (ad v0)), (1, .ref (ad v1)), (2, .int v2), (3, .ref (ad v3)), (4, .int v4), (5, .int v5), (6, .int v6)] → W p l e R s m args below meth c H locs 0 0 (MQ below (mQi D cl cB cI cJ cZ cS iM h0 ad A x) args s 0 0 A) (F0 m 96 ls []))) : ∀ (u : MS) (v0 : Nat) (v1 : Nat) (v2 : Int32) (v3 : Nat) (v4 : Int32) (v5 : Int32) (v6 : Int32) (v7 : Int32) (x : MS × Int32), fb_M_textOf_79 N G u v0 v1 v2 v3 v4 v5 v6 v7 = some x → ∀ (H : Heap) (locs : List Loc), va_P D cl (wM cB cI cJ cZ cS iM h0 ad u) H → va_D A (wM cB cI cJ cZ cS iM h0 ad u) → va_S A s.heap H locs → ∀ (ls : Array Slot), lv_has ls 9 [(0, .ref (ad v0)), (1, .ref (ad v1)), (2, .int v2), (3, .ref (ad v3)), (4, .int v4), (5, .int v5), (6, .int v6), (7, .int v7)] → W p l e R s m args below meth c H locs 0 0 (MQ below (mQi D cl cB cI cJ cZ cS iM h0 ad A x) args s 0 0 A) (F0 m 79 ls []) := by
  intro u v0 v1 v2 v3 v4 v5 v6 v7 x hf H locs hP hD hS ls hl
  obtain ⟨hx, hb, hr, hml, ht, hown, hM, hK, hA, hlocks⟩ := id C0
  unfold fb_M_textOf_79 at hf
  refine lv_iload hx hb d_M_textOf_79 (lv_at hl 7 rfl) ?_
  refine lv_if_eq (tgt := 87) hx hb d_M_textOf_81 (by decide) (fun hc => ?_) (fun hc => ?_)
  · rw [br_p _ hc] at hf
    refine lv_iinc (v := (v6 + 1)) (lv' := [(6, .int (v6 + 1)), (0, .ref (ad v0)), (1, .ref (ad v1)), (2, .int v2), (3, .ref (ad v3)), (4, .int v4), (5, .int v5), (7, .int v7)]) hx hb d_M_textOf_87 hl (k := 6) rfl rfl (by decide) rfl (fun ls hl => ?_)
    refine lv_goto (tgt := 3) hx hb d_M_textOf_90 (by decide) ?_
    exact hG.1 _ _ _ _ _ _ _ _ _ hf H locs hP hD hS ls (lv_sub hl [1, 2, 3, 4, 5, 6, 0] rfl)
  · rw [br_n _ hc] at hf
    refine lv_iload hx hb d_M_textOf_84 (lv_at hl 6 rfl) ?_
    exact mr_i C0 hP hD hS hf d_M_textOf_86
def fb_M_textOf_71 (N : Nat) (G : (MS → Nat → Nat → Int32 → Nat → Int32 → Int32 → Int32 → Option (MS × Int32)) × (MS → Nat → Nat → Int32 → Nat → Int32 → Int32 → Int32 → Int32 → Int32 → Option (MS × Int32)) × (MS → Nat → Nat → Int32 → Nat → Int32 → Int32 → Int32 → Option (MS × Int32))) (u : MS) (v0 : Nat) (v1 : Nat) (v2 : Int32) (v3 : Nat) (v4 : Int32) (v5 : Int32) (v6 : Int32) (v8 : Int32) (t0 : Int32) : Option (MS × Int32) := G.2.1 u (v0) (v1) (v2) (v3) (v4) (v5) (v6) (t0) ((v8 + 1))
set_option maxRecDepth 100000 in
set_option maxHeartbeats 4000000 in
theorem wb_M_textOf_71 {p : Program} {l : Launch} {e : Env} {R : Room} {s : State} {m : MethodId} {args : Array Value} {below : List Frame} {meth : Method} {c : Code} {D : va_G} {cl : List vw_C} {cB cI cJ cZ cS : ClassId} {A : Nat → Prop} {iM h0 : Nat} {ad : Nat → Nat} (C0 : MCx p s m args meth c b_M_textOf 9 (some .int) D cl cB cI cJ cZ cS iM A) (hR : R = rm_M_textOf) (N : Nat) (G : (MS → Nat → Nat → Int32 → Nat → Int32 → Int32 → Int32 → Option (MS × Int32)) × (MS → Nat → Nat → Int32 → Nat → Int32 → Int32 → Int32 → Int32 → Int32 → Option (MS × Int32)) × (MS → Nat → Nat → Int32 → Nat → Int32 → Int32 → Int32 → Option (MS × Int32))) (hG : (∀ (u : MS) (v0 : Nat) (v1 : Nat) (v2 : Int32) (v3 : Nat) (v4 : Int32) (v5 : Int32) (v6 : Int32) (x : MS × Int32), G.1 u v0 v1 v2 v3 v4 v5 v6 = some x → ∀ (H : Heap) (locs : List Loc), va_P D cl (wM cB cI cJ cZ cS iM h0 ad u) H → va_D A (wM cB cI cJ cZ cS iM h0 ad u) → va_S A s.heap H locs → ∀ (ls : Array Slot), lv_has ls 9 [(0, .ref (ad v0)), (1, .ref (ad v1)), (2, .int v2), (3, .ref (ad v3)), (4, .int v4), (5, .int v5), (6, .int v6)] → W p l e R s m args below meth c H locs 0 0 (MQ below (mQi D cl cB cI cJ cZ cS iM h0 ad A x) args s 0 0 A) (F0 m 3 ls [])) ∧ (∀ (u : MS) (v0 : Nat) (v1 : Nat) (v2 : Int32) (v3 : Nat) (v4 : Int32) (v5 : Int32) (v6 : Int32) (v7 : Int32) (v8 : Int32) (x : MS × Int32), G.2.1 u v0 v1 v2 v3 v4 v5 v6 v7 v8 = some x → ∀ (H : Heap) (locs : List Loc), va_P D cl (wM cB cI cJ cZ cS iM h0 ad u) H → va_D A (wM cB cI cJ cZ cS iM h0 ad u) → va_S A s.heap H locs → ∀ (ls : Array Slot), lv_has ls 9 [(0, .ref (ad v0)), (1, .ref (ad v1)), (2, .int v2), (3, .ref (ad v3)), (4, .int v4), (5, .int v5), (6, .int v6), (7, .int v7), (8, .int v8)] → W p l e R s m args below meth c H locs 0 0 (MQ below (mQi D cl cB cI cJ cZ cS iM h0 ad A x) args s 0 0 A) (F0 m 35 ls [])) ∧ (∀ (u : MS) (v0 : Nat) (v1 : Nat) (v2 : Int32) (v3 : Nat) (v4 : Int32) (v5 : Int32) (v6 : Int32) (x : MS × Int32), G.2.2 u v0 v1 v2 v3 v4 v5 v6 = some x → ∀ (H : Heap) (locs : List Loc), va_P D cl (wM cB cI cJ cZ cS iM h0 ad u) H → va_D A (wM cB cI cJ cZ cS iM h0 ad u) → va_S A s.heap H locs → ∀ (ls : Array Slot), lv_has ls 9 [(0, .ref (ad v0)), (1, .ref (ad v1)), (2, .int v2), (3, .ref (ad v3)), (4, .int v4), (5, .int v5), (6, .int v6)] → W p l e R s m args below meth c H locs 0 0 (MQ below (mQi D cl cB cI cJ cZ cS iM h0 ad A x) args s 0 0 A) (F0 m 96 ls []))) : ∀ (u : MS) (v0 : Nat) (v1 : Nat) (v2 : Int32) (v3 : Nat) (v4 : Int32) (v5 : Int32) (v6 : Int32) (v8 : Int32) (t0 : Int32) (x : MS × Int32), fb_M_textOf_71 N G u v0 v1 v2 v3 v4 v5 v6 v8 t0 = some x → ∀ (H : Heap) (locs : List Loc), va_P D cl (wM cB cI cJ cZ cS iM h0 ad u) H → va_D A (wM cB cI cJ cZ cS iM h0 ad u) → va_S A s.heap H locs → ∀ (ls : Array Slot), lv_has ls 9 [(0, .ref (ad v0)), (1, .ref (ad v1)), (2, .int v2), (3, .ref (ad v3)), (4, .int v4), (5, .int v5), (6, .int v6), (8, .int v8)] → W p l e R s m args below meth c H locs 0 0 (MQ below (mQi D cl cB cI cJ cZ cS iM h0 ad A x) args s 0 0 A) (F0 m 71 ls [.int t0]) := by
  intro u v0 v1 v2 v3 v4 v5 v6 v8 t0 x hf H locs hP hD hS ls hl
  obtain ⟨hx, hb, hr, hml, ht, hown, hM, hK, hA, hlocks⟩ := id C0
  unfold fb_M_textOf_71 at hf
  refine lv_istore (lv' := [(7, .int t0), (0, .ref (ad v0)), (1, .ref (ad v1)), (2, .int v2), (3, .ref (ad v3)), (4, .int v4), (5, .int v5), (6, .int v6), (8, .int v8)]) hx hb d_M_textOf_71 hl (by decide) rfl (fun ls hl => ?_)
  refine lv_iinc (v := (v8 + 1)) (lv' := [(8, .int (v8 + 1)), (7, .int t0), (0, .ref (ad v0)), (1, .ref (ad v1)), (2, .int v2), (3, .ref (ad v3)), (4, .int v4), (5, .int v5), (6, .int v6)]) hx hb d_M_textOf_73 hl (k := 8) rfl rfl (by decide) rfl (fun ls hl => ?_)
  refine lv_goto (tgt := 35) hx hb d_M_textOf_76 (by decide) ?_
  exact hG.2.1 _ _ _ _ _ _ _ _ _ _ _ hf H locs hP hD hS ls (lv_sub hl [2, 3, 4, 5, 6, 7, 8, 1, 0] rfl)
def fb_M_textOf_35 (N : Nat) (G : (MS → Nat → Nat → Int32 → Nat → Int32 → Int32 → Int32 → Option (MS × Int32)) × (MS → Nat → Nat → Int32 → Nat → Int32 → Int32 → Int32 → Int32 → Int32 → Option (MS × Int32)) × (MS → Nat → Nat → Int32 → Nat → Int32 → Int32 → Int32 → Option (MS × Int32))) (u : MS) (v0 : Nat) (v1 : Nat) (v2 : Int32) (v3 : Nat) (v4 : Int32) (v5 : Int32) (v6 : Int32) (v7 : Int32) (v8 : Int32) : Option (MS × Int32) := br (decide (v5 ≤ v8)) (fb_M_textOf_79 N G u (v0) (v1) (v2) (v3) (v4) (v5) (v6) (v7)) (br (decide (v7 = 0)) (fb_M_textOf_79 N G u (v0) (v1) (v2) (v3) (v4) (v5) (v6) (v7)) (ck (isK v1 4) (ck (inb v6 (ln v1)) (ck (isK v0 3) (ck (inb ((u.2.2.1 v1 v6.toNatClampNeg) + v8) (ln v0)) (ck (isK v3 3) (ck (inb (v4 + v8) (ln v3)) (br (decide ((u.2.2.1 v0 ((u.2.2.1 v1 v6.toNatClampNeg) + v8).toNatClampNeg) = (u.2.2.1 v3 (v4 + v8).toNatClampNeg))) (fb_M_textOf_71 N G u (v0) (v1) (v2) (v3) (v4) (v5) (v6) (v8) (1)) (fb_M_textOf_71 N G u (v0) (v1) (v2) (v3) (v4) (v5) (v6) (v8) (0))))))))))
set_option maxRecDepth 100000 in
set_option maxHeartbeats 4000000 in
theorem wb_M_textOf_35 {p : Program} {l : Launch} {e : Env} {R : Room} {s : State} {m : MethodId} {args : Array Value} {below : List Frame} {meth : Method} {c : Code} {D : va_G} {cl : List vw_C} {cB cI cJ cZ cS : ClassId} {A : Nat → Prop} {iM h0 : Nat} {ad : Nat → Nat} (C0 : MCx p s m args meth c b_M_textOf 9 (some .int) D cl cB cI cJ cZ cS iM A) (hR : R = rm_M_textOf) (N : Nat) (G : (MS → Nat → Nat → Int32 → Nat → Int32 → Int32 → Int32 → Option (MS × Int32)) × (MS → Nat → Nat → Int32 → Nat → Int32 → Int32 → Int32 → Int32 → Int32 → Option (MS × Int32)) × (MS → Nat → Nat → Int32 → Nat → Int32 → Int32 → Int32 → Option (MS × Int32))) (hG : (∀ (u : MS) (v0 : Nat) (v1 : Nat) (v2 : Int32) (v3 : Nat) (v4 : Int32) (v5 : Int32) (v6 : Int32) (x : MS × Int32), G.1 u v0 v1 v2 v3 v4 v5 v6 = some x → ∀ (H : Heap) (locs : List Loc), va_P D cl (wM cB cI cJ cZ cS iM h0 ad u) H → va_D A (wM cB cI cJ cZ cS iM h0 ad u) → va_S A s.heap H locs → ∀ (ls : Array Slot), lv_has ls 9 [(0, .ref (ad v0)), (1, .ref (ad v1)), (2, .int v2), (3, .ref (ad v3)), (4, .int v4), (5, .int v5), (6, .int v6)] → W p l e R s m args below meth c H locs 0 0 (MQ below (mQi D cl cB cI cJ cZ cS iM h0 ad A x) args s 0 0 A) (F0 m 3 ls [])) ∧ (∀ (u : MS) (v0 : Nat) (v1 : Nat) (v2 : Int32) (v3 : Nat) (v4 : Int32) (v5 : Int32) (v6 : Int32) (v7 : Int32) (v8 : Int32) (x : MS × Int32), G.2.1 u v0 v1 v2 v3 v4 v5 v6 v7 v8 = some x → ∀ (H : Heap) (locs : List Loc), va_P D cl (wM cB cI cJ cZ cS iM h0 ad u) H → va_D A (wM cB cI cJ cZ cS iM h0 ad u) → va_S A s.heap H locs → ∀ (ls : Array Slot), lv_has ls 9 [(0, .ref (ad v0)), (1, .ref (ad v1)), (2, .int v2), (3, .ref (ad v3)), (4, .int v4), (5, .int v5), (6, .int v6), (7, .int v7), (8, .int v8)] → W p l e R s m args below meth c H locs 0 0 (MQ below (mQi D cl cB cI cJ cZ cS iM h0 ad A x) args s 0 0 A) (F0 m 35 ls [])) ∧ (∀ (u : MS) (v0 : Nat) (v1 : Nat) (v2 : Int32) (v3 : Nat) (v4 : Int32) (v5 : Int32) (v6 : Int32) (x : MS × Int32), G.2.2 u v0 v1 v2 v3 v4 v5 v6 = some x → ∀ (H : Heap) (locs : List Loc), va_P D cl (wM cB cI cJ cZ cS iM h0 ad u) H → va_D A (wM cB cI cJ cZ cS iM h0 ad u) → va_S A s.heap H locs → ∀ (ls : Array Slot), lv_has ls 9 [(0, .ref (ad v0)), (1, .ref (ad v1)), (2, .int v2), (3, .ref (ad v3)), (4, .int v4), (5, .int v5), (6, .int v6)] → W p l e R s m args below meth c H locs 0 0 (MQ below (mQi D cl cB cI cJ cZ cS iM h0 ad A x) args s 0 0 A) (F0 m 96 ls []))) : ∀ (u : MS) (v0 : Nat) (v1 : Nat) (v2 : Int32) (v3 : Nat) (v4 : Int32) (v5 : Int32) (v6 : Int32) (v7 : Int32) (v8 : Int32) (x : MS × Int32), fb_M_textOf_35 N G u v0 v1 v2 v3 v4 v5 v6 v7 v8 = some x → ∀ (H : Heap) (locs : List Loc), va_P D cl (wM cB cI cJ cZ cS iM h0 ad u) H → va_D A (wM cB cI cJ cZ cS iM h0 ad u) → va_S A s.heap H locs → ∀ (ls : Array Slot), lv_has ls 9 [(0, .ref (ad v0)), (1, .ref (ad v1)), (2, .int v2), (3, .ref (ad v3)), (4, .int v4), (5, .int v5), (6, .int v6), (7, .int v7), (8, .int v8)] → W p l e R s m args below meth c H locs 0 0 (MQ below (mQi D cl cB cI cJ cZ cS iM h0 ad A x) args s 0 0 A) (F0 m 35 ls []) := by
  intro u v0 v1 v2 v3 v4 v5 v6 v7 v8 x hf H locs hP hD hS ls hl
  obtain ⟨hx, hb, hr, hml, ht, hown, hM, hK, hA, hlocks⟩ := id C0
  unfold fb_M_textOf_35 at hf
  refine lv_iload hx hb d_M_textOf_35 (lv_at hl 8 rfl) ?_
  refine lv_iload hx hb d_M_textOf_37 (lv_at hl 5 rfl) ?_
  refine lv_icmp_ge (tgt := 79) hx hb d_M_textOf_39 (by decide) (fun hc => ?_) (fun hc => ?_)
  · rw [br_p _ hc] at hf
    exact wb_M_textOf_79 C0 hR N G hG _ _ _ _ _ _ _ _ _ _ hf H locs hP hD hS ls (lv_sub hl [0, 1, 2, 3, 4, 5, 6, 7] rfl)
  · rw [br_n _ hc] at hf
    refine lv_iload hx hb d_M_textOf_42 (lv_at hl 7 rfl) ?_
    refine lv_if_eq (tgt := 79) hx hb d_M_textOf_44 (by decide) (fun hc => ?_) (fun hc => ?_)
    · rw [br_p _ hc] at hf
      exact wb_M_textOf_79 C0 hR N G hG _ _ _ _ _ _ _ _ _ _ hf H locs hP hD hS ls (lv_sub hl [0, 1, 2, 3, 4, 5, 6, 7] rfl)
    · rw [br_n _ hc] at hf
      refine lv_aload_n hx hb d_M_textOf_47 rfl (lv_at hl 0 rfl) ?_
      refine lv_aload_n hx hb d_M_textOf_48 rfl (lv_at hl 1 rfl) ?_
      refine lv_iload hx hb d_M_textOf_49 (lv_at hl 6 rfl) ?_
      obtain ⟨hk9, hf⟩ := ck_some hf
      obtain ⟨hi9, hf⟩ := ck_some hf
      refine ul_I hx hb hK hP (isK_1 hk9) (isK_2 hk9) hi9 d_M_textOf_51 ?_
      refine lv_iload hx hb d_M_textOf_52 (lv_at hl 8 rfl) ?_
      refine lv_iadd hx hb d_M_textOf_54 ?_
      obtain ⟨hk9, hf⟩ := ck_some hf
      obtain ⟨hi9, hf⟩ := ck_some hf
      refine ul_B hx hb hK hP (isK_1 hk9) (isK_2 hk9) hi9 d_M_textOf_55 ?_
      refine lv_aload_n hx hb d_M_textOf_56 rfl (lv_at hl 3 rfl) ?_
      refine lv_iload hx hb d_M_textOf_57 (lv_at hl 4 rfl) ?_
      refine lv_iload hx hb d_M_textOf_59 (lv_at hl 8 rfl) ?_
      refine lv_iadd hx hb d_M_textOf_61 ?_
      obtain ⟨hk9, hf⟩ := ck_some hf
      obtain ⟨hi9, hf⟩ := ck_some hf
      refine ul_B hx hb hK hP (isK_1 hk9) (isK_2 hk9) hi9 d_M_textOf_62 ?_
      refine lv_icmp_ne (tgt := 70) hx hb d_M_textOf_63 (by decide) (fun hc => ?_) (fun hc => ?_)
      · rw [br_n _ hc] at hf
        refine lv_iconst (v := 0) hx hb d_M_textOf_70 (by decide) ?_
        exact wb_M_textOf_71 C0 hR N G hG _ _ _ _ _ _ _ _ _ _ _ hf H locs hP hD hS ls (lv_sub hl [0, 1, 2, 3, 4, 5, 6, 8] rfl)
      · rw [br_p _ hc] at hf
        refine lv_iconst (v := 1) hx hb d_M_textOf_66 (by decide) ?_
        refine lv_goto (tgt := 71) hx hb d_M_textOf_67 (by decide) ?_
        exact wb_M_textOf_71 C0 hR N G hG _ _ _ _ _ _ _ _ _ _ _ hf H locs hP hD hS ls (lv_sub hl [0, 1, 2, 3, 4, 5, 6, 8] rfl)
def fb_M_textOf_30 (N : Nat) (G : (MS → Nat → Nat → Int32 → Nat → Int32 → Int32 → Int32 → Option (MS × Int32)) × (MS → Nat → Nat → Int32 → Nat → Int32 → Int32 → Int32 → Int32 → Int32 → Option (MS × Int32)) × (MS → Nat → Nat → Int32 → Nat → Int32 → Int32 → Int32 → Option (MS × Int32))) (u : MS) (v0 : Nat) (v1 : Nat) (v2 : Int32) (v3 : Nat) (v4 : Int32) (v5 : Int32) (v6 : Int32) (t0 : Int32) : Option (MS × Int32) := G.2.1 u (v0) (v1) (v2) (v3) (v4) (v5) (v6) (t0) (0)
set_option maxRecDepth 100000 in
set_option maxHeartbeats 4000000 in
theorem wb_M_textOf_30 {p : Program} {l : Launch} {e : Env} {R : Room} {s : State} {m : MethodId} {args : Array Value} {below : List Frame} {meth : Method} {c : Code} {D : va_G} {cl : List vw_C} {cB cI cJ cZ cS : ClassId} {A : Nat → Prop} {iM h0 : Nat} {ad : Nat → Nat} (C0 : MCx p s m args meth c b_M_textOf 9 (some .int) D cl cB cI cJ cZ cS iM A) (hR : R = rm_M_textOf) (N : Nat) (G : (MS → Nat → Nat → Int32 → Nat → Int32 → Int32 → Int32 → Option (MS × Int32)) × (MS → Nat → Nat → Int32 → Nat → Int32 → Int32 → Int32 → Int32 → Int32 → Option (MS × Int32)) × (MS → Nat → Nat → Int32 → Nat → Int32 → Int32 → Int32 → Option (MS × Int32))) (hG : (∀ (u : MS) (v0 : Nat) (v1 : Nat) (v2 : Int32) (v3 : Nat) (v4 : Int32) (v5 : Int32) (v6 : Int32) (x : MS × Int32), G.1 u v0 v1 v2 v3 v4 v5 v6 = some x → ∀ (H : Heap) (locs : List Loc), va_P D cl (wM cB cI cJ cZ cS iM h0 ad u) H → va_D A (wM cB cI cJ cZ cS iM h0 ad u) → va_S A s.heap H locs → ∀ (ls : Array Slot), lv_has ls 9 [(0, .ref (ad v0)), (1, .ref (ad v1)), (2, .int v2), (3, .ref (ad v3)), (4, .int v4), (5, .int v5), (6, .int v6)] → W p l e R s m args below meth c H locs 0 0 (MQ below (mQi D cl cB cI cJ cZ cS iM h0 ad A x) args s 0 0 A) (F0 m 3 ls [])) ∧ (∀ (u : MS) (v0 : Nat) (v1 : Nat) (v2 : Int32) (v3 : Nat) (v4 : Int32) (v5 : Int32) (v6 : Int32) (v7 : Int32) (v8 : Int32) (x : MS × Int32), G.2.1 u v0 v1 v2 v3 v4 v5 v6 v7 v8 = some x → ∀ (H : Heap) (locs : List Loc), va_P D cl (wM cB cI cJ cZ cS iM h0 ad u) H → va_D A (wM cB cI cJ cZ cS iM h0 ad u) → va_S A s.heap H locs → ∀ (ls : Array Slot), lv_has ls 9 [(0, .ref (ad v0)), (1, .ref (ad v1)), (2, .int v2), (3, .ref (ad v3)), (4, .int v4), (5, .int v5), (6, .int v6), (7, .int v7), (8, .int v8)] → W p l e R s m args below meth c H locs 0 0 (MQ below (mQi D cl cB cI cJ cZ cS iM h0 ad A x) args s 0 0 A) (F0 m 35 ls [])) ∧ (∀ (u : MS) (v0 : Nat) (v1 : Nat) (v2 : Int32) (v3 : Nat) (v4 : Int32) (v5 : Int32) (v6 : Int32) (x : MS × Int32), G.2.2 u v0 v1 v2 v3 v4 v5 v6 = some x → ∀ (H : Heap) (locs : List Loc), va_P D cl (wM cB cI cJ cZ cS iM h0 ad u) H → va_D A (wM cB cI cJ cZ cS iM h0 ad u) → va_S A s.heap H locs → ∀ (ls : Array Slot), lv_has ls 9 [(0, .ref (ad v0)), (1, .ref (ad v1)), (2, .int v2), (3, .ref (ad v3)), (4, .int v4), (5, .int v5), (6, .int v6)] → W p l e R s m args below meth c H locs 0 0 (MQ below (mQi D cl cB cI cJ cZ cS iM h0 ad A x) args s 0 0 A) (F0 m 96 ls []))) : ∀ (u : MS) (v0 : Nat) (v1 : Nat) (v2 : Int32) (v3 : Nat) (v4 : Int32) (v5 : Int32) (v6 : Int32) (t0 : Int32) (x : MS × Int32), fb_M_textOf_30 N G u v0 v1 v2 v3 v4 v5 v6 t0 = some x → ∀ (H : Heap) (locs : List Loc), va_P D cl (wM cB cI cJ cZ cS iM h0 ad u) H → va_D A (wM cB cI cJ cZ cS iM h0 ad u) → va_S A s.heap H locs → ∀ (ls : Array Slot), lv_has ls 9 [(0, .ref (ad v0)), (1, .ref (ad v1)), (2, .int v2), (3, .ref (ad v3)), (4, .int v4), (5, .int v5), (6, .int v6)] → W p l e R s m args below meth c H locs 0 0 (MQ below (mQi D cl cB cI cJ cZ cS iM h0 ad A x) args s 0 0 A) (F0 m 30 ls [.int t0]) := by
  intro u v0 v1 v2 v3 v4 v5 v6 t0 x hf H locs hP hD hS ls hl
  obtain ⟨hx, hb, hr, hml, ht, hown, hM, hK, hA, hlocks⟩ := id C0
  unfold fb_M_textOf_30 at hf
  refine lv_istore (lv' := [(7, .int t0), (0, .ref (ad v0)), (1, .ref (ad v1)), (2, .int v2), (3, .ref (ad v3)), (4, .int v4), (5, .int v5), (6, .int v6)]) hx hb d_M_textOf_30 hl (by decide) rfl (fun ls hl => ?_)
  refine lv_iconst (v := 0) hx hb d_M_textOf_32 (by decide) ?_
  refine lv_istore (lv' := [(8, .int 0), (7, .int t0), (0, .ref (ad v0)), (1, .ref (ad v1)), (2, .int v2), (3, .ref (ad v3)), (4, .int v4), (5, .int v5), (6, .int v6)]) hx hb d_M_textOf_33 hl (by decide) rfl (fun ls hl => ?_)
  exact hG.2.1 _ _ _ _ _ _ _ _ _ _ _ hf H locs hP hD hS ls (lv_sub hl [2, 3, 4, 5, 6, 7, 8, 1, 0] rfl)
def fb_M_textOf_3 (N : Nat) (G : (MS → Nat → Nat → Int32 → Nat → Int32 → Int32 → Int32 → Option (MS × Int32)) × (MS → Nat → Nat → Int32 → Nat → Int32 → Int32 → Int32 → Int32 → Int32 → Option (MS × Int32)) × (MS → Nat → Nat → Int32 → Nat → Int32 → Int32 → Int32 → Option (MS × Int32))) (u : MS) (v0 : Nat) (v1 : Nat) (v2 : Int32) (v3 : Nat) (v4 : Int32) (v5 : Int32) (v6 : Int32) : Option (MS × Int32) := br (decide (v2 ≤ v6)) (G.2.2 u (v0) (v1) (v2) (v3) (v4) (v5) (0)) (ck (isK v1 4) (ck (inb (v6 + 1) (ln v1)) (ck (isK v1 4) (ck (inb v6 (ln v1)) (br (decide (((u.2.2.1 v1 (v6 + 1).toNatClampNeg) - (u.2.2.1 v1 v6.toNatClampNeg)) = v5)) (fb_M_textOf_30 N G u (v0) (v1) (v2) (v3) (v4) (v5) (v6) (1)) (fb_M_textOf_30 N G u (v0) (v1) (v2) (v3) (v4) (v5) (v6) (0)))))))
set_option maxRecDepth 100000 in
set_option maxHeartbeats 4000000 in
theorem wb_M_textOf_3 {p : Program} {l : Launch} {e : Env} {R : Room} {s : State} {m : MethodId} {args : Array Value} {below : List Frame} {meth : Method} {c : Code} {D : va_G} {cl : List vw_C} {cB cI cJ cZ cS : ClassId} {A : Nat → Prop} {iM h0 : Nat} {ad : Nat → Nat} (C0 : MCx p s m args meth c b_M_textOf 9 (some .int) D cl cB cI cJ cZ cS iM A) (hR : R = rm_M_textOf) (N : Nat) (G : (MS → Nat → Nat → Int32 → Nat → Int32 → Int32 → Int32 → Option (MS × Int32)) × (MS → Nat → Nat → Int32 → Nat → Int32 → Int32 → Int32 → Int32 → Int32 → Option (MS × Int32)) × (MS → Nat → Nat → Int32 → Nat → Int32 → Int32 → Int32 → Option (MS × Int32))) (hG : (∀ (u : MS) (v0 : Nat) (v1 : Nat) (v2 : Int32) (v3 : Nat) (v4 : Int32) (v5 : Int32) (v6 : Int32) (x : MS × Int32), G.1 u v0 v1 v2 v3 v4 v5 v6 = some x → ∀ (H : Heap) (locs : List Loc), va_P D cl (wM cB cI cJ cZ cS iM h0 ad u) H → va_D A (wM cB cI cJ cZ cS iM h0 ad u) → va_S A s.heap H locs → ∀ (ls : Array Slot), lv_has ls 9 [(0, .ref (ad v0)), (1, .ref (ad v1)), (2, .int v2), (3, .ref (ad v3)), (4, .int v4), (5, .int v5), (6, .int v6)] → W p l e R s m args below meth c H locs 0 0 (MQ below (mQi D cl cB cI cJ cZ cS iM h0 ad A x) args s 0 0 A) (F0 m 3 ls [])) ∧ (∀ (u : MS) (v0 : Nat) (v1 : Nat) (v2 : Int32) (v3 : Nat) (v4 : Int32) (v5 : Int32) (v6 : Int32) (v7 : Int32) (v8 : Int32) (x : MS × Int32), G.2.1 u v0 v1 v2 v3 v4 v5 v6 v7 v8 = some x → ∀ (H : Heap) (locs : List Loc), va_P D cl (wM cB cI cJ cZ cS iM h0 ad u) H → va_D A (wM cB cI cJ cZ cS iM h0 ad u) → va_S A s.heap H locs → ∀ (ls : Array Slot), lv_has ls 9 [(0, .ref (ad v0)), (1, .ref (ad v1)), (2, .int v2), (3, .ref (ad v3)), (4, .int v4), (5, .int v5), (6, .int v6), (7, .int v7), (8, .int v8)] → W p l e R s m args below meth c H locs 0 0 (MQ below (mQi D cl cB cI cJ cZ cS iM h0 ad A x) args s 0 0 A) (F0 m 35 ls [])) ∧ (∀ (u : MS) (v0 : Nat) (v1 : Nat) (v2 : Int32) (v3 : Nat) (v4 : Int32) (v5 : Int32) (v6 : Int32) (x : MS × Int32), G.2.2 u v0 v1 v2 v3 v4 v5 v6 = some x → ∀ (H : Heap) (locs : List Loc), va_P D cl (wM cB cI cJ cZ cS iM h0 ad u) H → va_D A (wM cB cI cJ cZ cS iM h0 ad u) → va_S A s.heap H locs → ∀ (ls : Array Slot), lv_has ls 9 [(0, .ref (ad v0)), (1, .ref (ad v1)), (2, .int v2), (3, .ref (ad v3)), (4, .int v4), (5, .int v5), (6, .int v6)] → W p l e R s m args below meth c H locs 0 0 (MQ below (mQi D cl cB cI cJ cZ cS iM h0 ad A x) args s 0 0 A) (F0 m 96 ls []))) : ∀ (u : MS) (v0 : Nat) (v1 : Nat) (v2 : Int32) (v3 : Nat) (v4 : Int32) (v5 : Int32) (v6 : Int32) (x : MS × Int32), fb_M_textOf_3 N G u v0 v1 v2 v3 v4 v5 v6 = some x → ∀ (H : Heap) (locs : List Loc), va_P D cl (wM cB cI cJ cZ cS iM h0 ad u) H → va_D A (wM cB cI cJ cZ cS iM h0 ad u) → va_S A s.heap H locs → ∀ (ls : Array Slot), lv_has ls 9 [(0, .ref (ad v0)), (1, .ref (ad v1)), (2, .int v2), (3, .ref (ad v3)), (4, .int v4), (5, .int v5), (6, .int v6)] → W p l e R s m args below meth c H locs 0 0 (MQ below (mQi D cl cB cI cJ cZ cS iM h0 ad A x) args s 0 0 A) (F0 m 3 ls []) := by
  intro u v0 v1 v2 v3 v4 v5 v6 x hf H locs hP hD hS ls hl
  obtain ⟨hx, hb, hr, hml, ht, hown, hM, hK, hA, hlocks⟩ := id C0
  unfold fb_M_textOf_3 at hf
  refine lv_iload hx hb d_M_textOf_3 (lv_at hl 6 rfl) ?_
  refine lv_iload_n hx hb d_M_textOf_5 rfl (lv_at hl 2 rfl) ?_
  refine lv_icmp_ge (tgt := 93) hx hb d_M_textOf_6 (by decide) (fun hc => ?_) (fun hc => ?_)
  · rw [br_p _ hc] at hf
    refine lv_iconst (v := 0) hx hb d_M_textOf_93 (by decide) ?_
    refine lv_istore (lv' := [(6, .int 0), (0, .ref (ad v0)), (1, .ref (ad v1)), (2, .int v2), (3, .ref (ad v3)), (4, .int v4), (5, .int v5)]) hx hb d_M_textOf_94 hl (by decide) rfl (fun ls hl => ?_)
    exact hG.2.2 _ _ _ _ _ _ _ _ _ hf H locs hP hD hS ls (lv_sub hl [1, 2, 3, 4, 5, 6, 0] rfl)
  · rw [br_n _ hc] at hf
    refine lv_aload_n hx hb d_M_textOf_9 rfl (lv_at hl 1 rfl) ?_
    refine lv_iload hx hb d_M_textOf_10 (lv_at hl 6 rfl) ?_
    refine lv_iconst (v := 1) hx hb d_M_textOf_12 (by decide) ?_
    refine lv_iadd hx hb d_M_textOf_13 ?_
    obtain ⟨hk9, hf⟩ := ck_some hf
    obtain ⟨hi9, hf⟩ := ck_some hf
    refine ul_I hx hb hK hP (isK_1 hk9) (isK_2 hk9) hi9 d_M_textOf_14 ?_
    refine lv_aload_n hx hb d_M_textOf_15 rfl (lv_at hl 1 rfl) ?_
    refine lv_iload hx hb d_M_textOf_16 (lv_at hl 6 rfl) ?_
    obtain ⟨hk9, hf⟩ := ck_some hf
    obtain ⟨hi9, hf⟩ := ck_some hf
    refine ul_I hx hb hK hP (isK_1 hk9) (isK_2 hk9) hi9 d_M_textOf_18 ?_
    refine lv_isub hx hb d_M_textOf_19 ?_
    refine lv_iload hx hb d_M_textOf_20 (lv_at hl 5 rfl) ?_
    refine lv_icmp_ne (tgt := 29) hx hb d_M_textOf_22 (by decide) (fun hc => ?_) (fun hc => ?_)
    · rw [br_n _ hc] at hf
      refine lv_iconst (v := 0) hx hb d_M_textOf_29 (by decide) ?_
      exact wb_M_textOf_30 C0 hR N G hG _ _ _ _ _ _ _ _ _ _ hf H locs hP hD hS ls (lv_sub hl [0, 1, 2, 3, 4, 5, 6] rfl)
    · rw [br_p _ hc] at hf
      refine lv_iconst (v := 1) hx hb d_M_textOf_25 (by decide) ?_
      refine lv_goto (tgt := 30) hx hb d_M_textOf_26 (by decide) ?_
      exact wb_M_textOf_30 C0 hR N G hG _ _ _ _ _ _ _ _ _ _ hf H locs hP hD hS ls (lv_sub hl [0, 1, 2, 3, 4, 5, 6] rfl)
def fb_M_textOf_0 (N : Nat) (G : (MS → Nat → Nat → Int32 → Nat → Int32 → Int32 → Int32 → Option (MS × Int32)) × (MS → Nat → Nat → Int32 → Nat → Int32 → Int32 → Int32 → Int32 → Int32 → Option (MS × Int32)) × (MS → Nat → Nat → Int32 → Nat → Int32 → Int32 → Int32 → Option (MS × Int32))) (u : MS) (v0 : Nat) (v1 : Nat) (v2 : Int32) (v3 : Nat) (v4 : Int32) (v5 : Int32) : Option (MS × Int32) := G.1 u (v0) (v1) (v2) (v3) (v4) (v5) (0)
set_option maxRecDepth 100000 in
set_option maxHeartbeats 4000000 in
theorem wb_M_textOf_0 {p : Program} {l : Launch} {e : Env} {R : Room} {s : State} {m : MethodId} {args : Array Value} {below : List Frame} {meth : Method} {c : Code} {D : va_G} {cl : List vw_C} {cB cI cJ cZ cS : ClassId} {A : Nat → Prop} {iM h0 : Nat} {ad : Nat → Nat} (C0 : MCx p s m args meth c b_M_textOf 9 (some .int) D cl cB cI cJ cZ cS iM A) (hR : R = rm_M_textOf) (N : Nat) (G : (MS → Nat → Nat → Int32 → Nat → Int32 → Int32 → Int32 → Option (MS × Int32)) × (MS → Nat → Nat → Int32 → Nat → Int32 → Int32 → Int32 → Int32 → Int32 → Option (MS × Int32)) × (MS → Nat → Nat → Int32 → Nat → Int32 → Int32 → Int32 → Option (MS × Int32))) (hG : (∀ (u : MS) (v0 : Nat) (v1 : Nat) (v2 : Int32) (v3 : Nat) (v4 : Int32) (v5 : Int32) (v6 : Int32) (x : MS × Int32), G.1 u v0 v1 v2 v3 v4 v5 v6 = some x → ∀ (H : Heap) (locs : List Loc), va_P D cl (wM cB cI cJ cZ cS iM h0 ad u) H → va_D A (wM cB cI cJ cZ cS iM h0 ad u) → va_S A s.heap H locs → ∀ (ls : Array Slot), lv_has ls 9 [(0, .ref (ad v0)), (1, .ref (ad v1)), (2, .int v2), (3, .ref (ad v3)), (4, .int v4), (5, .int v5), (6, .int v6)] → W p l e R s m args below meth c H locs 0 0 (MQ below (mQi D cl cB cI cJ cZ cS iM h0 ad A x) args s 0 0 A) (F0 m 3 ls [])) ∧ (∀ (u : MS) (v0 : Nat) (v1 : Nat) (v2 : Int32) (v3 : Nat) (v4 : Int32) (v5 : Int32) (v6 : Int32) (v7 : Int32) (v8 : Int32) (x : MS × Int32), G.2.1 u v0 v1 v2 v3 v4 v5 v6 v7 v8 = some x → ∀ (H : Heap) (locs : List Loc), va_P D cl (wM cB cI cJ cZ cS iM h0 ad u) H → va_D A (wM cB cI cJ cZ cS iM h0 ad u) → va_S A s.heap H locs → ∀ (ls : Array Slot), lv_has ls 9 [(0, .ref (ad v0)), (1, .ref (ad v1)), (2, .int v2), (3, .ref (ad v3)), (4, .int v4), (5, .int v5), (6, .int v6), (7, .int v7), (8, .int v8)] → W p l e R s m args below meth c H locs 0 0 (MQ below (mQi D cl cB cI cJ cZ cS iM h0 ad A x) args s 0 0 A) (F0 m 35 ls [])) ∧ (∀ (u : MS) (v0 : Nat) (v1 : Nat) (v2 : Int32) (v3 : Nat) (v4 : Int32) (v5 : Int32) (v6 : Int32) (x : MS × Int32), G.2.2 u v0 v1 v2 v3 v4 v5 v6 = some x → ∀ (H : Heap) (locs : List Loc), va_P D cl (wM cB cI cJ cZ cS iM h0 ad u) H → va_D A (wM cB cI cJ cZ cS iM h0 ad u) → va_S A s.heap H locs → ∀ (ls : Array Slot), lv_has ls 9 [(0, .ref (ad v0)), (1, .ref (ad v1)), (2, .int v2), (3, .ref (ad v3)), (4, .int v4), (5, .int v5), (6, .int v6)] → W p l e R s m args below meth c H locs 0 0 (MQ below (mQi D cl cB cI cJ cZ cS iM h0 ad A x) args s 0 0 A) (F0 m 96 ls []))) : ∀ (u : MS) (v0 : Nat) (v1 : Nat) (v2 : Int32) (v3 : Nat) (v4 : Int32) (v5 : Int32) (x : MS × Int32), fb_M_textOf_0 N G u v0 v1 v2 v3 v4 v5 = some x → ∀ (H : Heap) (locs : List Loc), va_P D cl (wM cB cI cJ cZ cS iM h0 ad u) H → va_D A (wM cB cI cJ cZ cS iM h0 ad u) → va_S A s.heap H locs → ∀ (ls : Array Slot), lv_has ls 9 [(0, .ref (ad v0)), (1, .ref (ad v1)), (2, .int v2), (3, .ref (ad v3)), (4, .int v4), (5, .int v5)] → W p l e R s m args below meth c H locs 0 0 (MQ below (mQi D cl cB cI cJ cZ cS iM h0 ad A x) args s 0 0 A) (F0 m 0 ls []) := by
  intro u v0 v1 v2 v3 v4 v5 x hf H locs hP hD hS ls hl
  obtain ⟨hx, hb, hr, hml, ht, hown, hM, hK, hA, hlocks⟩ := id C0
  unfold fb_M_textOf_0 at hf
  refine lv_iconst (v := 0) hx hb d_M_textOf_0 (by decide) ?_
  refine lv_istore (lv' := [(6, .int 0), (0, .ref (ad v0)), (1, .ref (ad v1)), (2, .int v2), (3, .ref (ad v3)), (4, .int v4), (5, .int v5)]) hx hb d_M_textOf_1 hl (by decide) rfl (fun ls hl => ?_)
  exact hG.1 _ _ _ _ _ _ _ _ _ hf H locs hP hD hS ls (lv_sub hl [1, 2, 3, 4, 5, 6, 0] rfl)
def gg_M_textOf (N : Nat) : Nat → ((MS → Nat → Nat → Int32 → Nat → Int32 → Int32 → Int32 → Option (MS × Int32)) × (MS → Nat → Nat → Int32 → Nat → Int32 → Int32 → Int32 → Int32 → Int32 → Option (MS × Int32)) × (MS → Nat → Nat → Int32 → Nat → Int32 → Int32 → Int32 → Option (MS × Int32)))
  | 0 => (fun _ _ _ _ _ _ _ _ => none, fun _ _ _ _ _ _ _ _ _ _ => none, fun _ _ _ _ _ _ _ _ => none)
  | n + 1 => (fb_M_textOf_3 N (gg_M_textOf N n), fb_M_textOf_35 N (gg_M_textOf N n), fb_M_textOf_96 N (gg_M_textOf N n))
theorem wg_M_textOf {p : Program} {l : Launch} {e : Env} {R : Room} {s : State} {m : MethodId} {args : Array Value} {below : List Frame} {meth : Method} {c : Code} {D : va_G} {cl : List vw_C} {cB cI cJ cZ cS : ClassId} {A : Nat → Prop} {iM h0 : Nat} {ad : Nat → Nat} (C0 : MCx p s m args meth c b_M_textOf 9 (some .int) D cl cB cI cJ cZ cS iM A) (hR : R = rm_M_textOf) (N : Nat) : ∀ n : Nat, (∀ (u : MS) (v0 : Nat) (v1 : Nat) (v2 : Int32) (v3 : Nat) (v4 : Int32) (v5 : Int32) (v6 : Int32) (x : MS × Int32), (gg_M_textOf N n).1 u v0 v1 v2 v3 v4 v5 v6 = some x → ∀ (H : Heap) (locs : List Loc), va_P D cl (wM cB cI cJ cZ cS iM h0 ad u) H → va_D A (wM cB cI cJ cZ cS iM h0 ad u) → va_S A s.heap H locs → ∀ (ls : Array Slot), lv_has ls 9 [(0, .ref (ad v0)), (1, .ref (ad v1)), (2, .int v2), (3, .ref (ad v3)), (4, .int v4), (5, .int v5), (6, .int v6)] → W p l e R s m args below meth c H locs 0 0 (MQ below (mQi D cl cB cI cJ cZ cS iM h0 ad A x) args s 0 0 A) (F0 m 3 ls [])) ∧ (∀ (u : MS) (v0 : Nat) (v1 : Nat) (v2 : Int32) (v3 : Nat) (v4 : Int32) (v5 : Int32) (v6 : Int32) (v7 : Int32) (v8 : Int32) (x : MS × Int32), (gg_M_textOf N n).2.1 u v0 v1 v2 v3 v4 v5 v6 v7 v8 = some x → ∀ (H : Heap) (locs : List Loc), va_P D cl (wM cB cI cJ cZ cS iM h0 ad u) H → va_D A (wM cB cI cJ cZ cS iM h0 ad u) → va_S A s.heap H locs → ∀ (ls : Array Slot), lv_has ls 9 [(0, .ref (ad v0)), (1, .ref (ad v1)), (2, .int v2), (3, .ref (ad v3)), (4, .int v4), (5, .int v5), (6, .int v6), (7, .int v7), (8, .int v8)] → W p l e R s m args below meth c H locs 0 0 (MQ below (mQi D cl cB cI cJ cZ cS iM h0 ad A x) args s 0 0 A) (F0 m 35 ls [])) ∧ (∀ (u : MS) (v0 : Nat) (v1 : Nat) (v2 : Int32) (v3 : Nat) (v4 : Int32) (v5 : Int32) (v6 : Int32) (x : MS × Int32), (gg_M_textOf N n).2.2 u v0 v1 v2 v3 v4 v5 v6 = some x → ∀ (H : Heap) (locs : List Loc), va_P D cl (wM cB cI cJ cZ cS iM h0 ad u) H → va_D A (wM cB cI cJ cZ cS iM h0 ad u) → va_S A s.heap H locs → ∀ (ls : Array Slot), lv_has ls 9 [(0, .ref (ad v0)), (1, .ref (ad v1)), (2, .int v2), (3, .ref (ad v3)), (4, .int v4), (5, .int v5), (6, .int v6)] → W p l e R s m args below meth c H locs 0 0 (MQ below (mQi D cl cB cI cJ cZ cS iM h0 ad A x) args s 0 0 A) (F0 m 96 ls []))
  | 0 => ⟨(fun u v0 v1 v2 v3 v4 v5 v6 x hf => by cases hf), (fun u v0 v1 v2 v3 v4 v5 v6 v7 v8 x hf => by cases hf), (fun u v0 v1 v2 v3 v4 v5 v6 x hf => by cases hf)⟩
  | n + 1 => ⟨wb_M_textOf_3 C0 hR N (gg_M_textOf N n) (wg_M_textOf C0 hR N n), wb_M_textOf_35 C0 hR N (gg_M_textOf N n) (wg_M_textOf C0 hR N n), wb_M_textOf_96 C0 hR N (gg_M_textOf N n) (wg_M_textOf C0 hR N n)⟩
def fm_M_textOf (N : Nat) (u : MS) (v0 : Nat) (v1 : Nat) (v2 : Int32) (v3 : Nat) (v4 : Int32) (v5 : Int32) : Option (MS × Int32) := fb_M_textOf_0 N (gg_M_textOf N N) u v0 v1 v2 v3 v4 v5
set_option maxRecDepth 100000 in
set_option maxHeartbeats 4000000 in
theorem c_M_textOf (N : Nat) {l : Launch} {D : va_G} {cl : List vw_C} {cB cI cJ cZ cS : ClassId} {iM h0 : Nat} {ad : Nat → Nat} {u : MS} {sz : Nat} {v0 : Nat} {v1 : Nat} {v2 : Int32} {v3 : Nat} {v4 : Int32} {v5 : Int32} {x : MS × Int32} (hM : cl[iM]? = some (R_M, F_M, 171)) (hf : fm_M_textOf N u v0 v1 v2 v3 v4 v5 = some x) : Met l y_M_textOf (wd_ws y_M_textOf b_M_textOf 9 (some .int)) rm_M_textOf (mPc D cl cB cI cJ cZ cS iM h0 ad u sz [.ref (ad v0), .ref (ad v1), .int v2, .ref (ad v3), .int v4, .int v5]) (mQi D cl cB cI cJ cZ cS iM h0 ad (mA cB cI cJ cZ cS iM h0 ad u sz) x) 0 0 (mA cB cI cJ cZ cS iM h0 ad u sz) :=
  mMet (by decide) rfl hM (Nat.le_of_ble_eq_true rfl) (fun p e s m below meth c ls hsz C0 hP hD hS hl => by
    have hR : rm_M_textOf = rm_M_textOf := rfl
    exact wb_M_textOf_0 C0 hR N (gg_M_textOf N N) (wg_M_textOf C0 hR N N) u _ _ _ _ _ _ x hf s.heap [] hP hD hS ls (lv_sub hl [0, 1, 2, 3, 4, 5] rfl))
abbrev b_M_atom : ByteArray := prog_14_method_11_code
def y_M_atom : MethodName := ⟨R_M, "atom", "([BII)I"⟩
def w_M_atom : List Cond := wd_ws y_M_atom b_M_atom 5 (some .int)
set_option maxRecDepth 100000 in
theorem k_M_atom : Cond.code y_M_atom b_M_atom 5 (some .int) ∈ wd_tbl := wd_of 2645 rfl rfl
theorem d_M_atom_0 : decode b_M_atom 0 = .ok (.aload_n 0, 1) := by decide +kernel
theorem d_M_atom_1 : decode b_M_atom 1 = .ok (.getfield 32, 3) := by decide +kernel
theorem d_M_atom_4 : decode b_M_atom 4 = .ok (.aload_n 0, 1) := by decide +kernel
theorem d_M_atom_5 : decode b_M_atom 5 = .ok (.getfield 35, 3) := by decide +kernel
theorem d_M_atom_8 : decode b_M_atom 8 = .ok (.aload_n 0, 1) := by decide +kernel
theorem d_M_atom_9 : decode b_M_atom 9 = .ok (.getfield 385, 3) := by decide +kernel
theorem d_M_atom_12 : decode b_M_atom 12 = .ok (.aload_n 1, 1) := by decide +kernel
theorem d_M_atom_13 : decode b_M_atom 13 = .ok (.iload_n 2, 1) := by decide +kernel
theorem d_M_atom_14 : decode b_M_atom 14 = .ok (.iload_n 3, 1) := by decide +kernel
theorem d_M_atom_15 : decode b_M_atom 15 = .ok (.invokestatic 388, 3) := by decide +kernel
theorem d_M_atom_18 : decode b_M_atom 18 = .ok (.istore 4, 2) := by decide +kernel
theorem d_M_atom_20 : decode b_M_atom 20 = .ok (.aload_n 0, 1) := by decide +kernel
theorem d_M_atom_21 : decode b_M_atom 21 = .ok (.iload 4, 2) := by decide +kernel
theorem d_M_atom_23 : decode b_M_atom 23 = .ok (.aload_n 0, 1) := by decide +kernel
theorem d_M_atom_24 : decode b_M_atom 24 = .ok (.getfield 385, 3) := by decide +kernel
theorem d_M_atom_27 : decode b_M_atom 27 = .ok (.if_icmp .ne 12, 3) := by decide +kernel
theorem d_M_atom_30 : decode b_M_atom 30 = .ok (.aload_n 0, 1) := by decide +kernel
theorem d_M_atom_31 : decode b_M_atom 31 = .ok (.getfield 385, 3) := by decide +kernel
theorem d_M_atom_34 : decode b_M_atom 34 = .ok (.iconst 1, 1) := by decide +kernel
theorem d_M_atom_35 : decode b_M_atom 35 = .ok (.iadd, 1) := by decide +kernel
theorem d_M_atom_36 : decode b_M_atom 36 = .ok (.goto 7, 3) := by decide +kernel
theorem d_M_atom_39 : decode b_M_atom 39 = .ok (.aload_n 0, 1) := by decide +kernel
theorem d_M_atom_40 : decode b_M_atom 40 = .ok (.getfield 385, 3) := by decide +kernel
theorem d_M_atom_43 : decode b_M_atom 43 = .ok (.putfield 385, 3) := by decide +kernel
theorem d_M_atom_46 : decode b_M_atom 46 = .ok (.iload 4, 2) := by decide +kernel
theorem d_M_atom_48 : decode b_M_atom 48 = .ok (.ireturn, 1) := by decide +kernel
set_option maxRecDepth 100000 in
theorem hl_M_atom : Cond.methodLink R_M 398 y_M_atom ∈ wd_tbl := wd_of 2642 (by decide +kernel) rfl
set_option maxRecDepth 100000 in
theorem hi_M_atom : Cond.instanceMethod y_M_atom ∈ wd_tbl := wd_of 2644 (by decide +kernel) rfl
set_option maxRecDepth 100000 in
theorem hs_M_atom : Cond.selects R_M y_M_atom y_M_atom ∈ wd_tbl := wd_of 129 (by decide +kernel) rfl
theorem hd_M_atom : y_M_atom.cls = R_M ∧ y_M_atom.cls ≠ "java/lang/invoke/MethodHandle" ∧ y_M_atom.cls ≠ "java/lang/invoke/VarHandle" ∧ (parseMethodDescriptor y_M_atom.desc).map (fun d => d.parameters.length) = some 3 := by decide +kernel
def rm_M_atom : Room := { frames := 1, cells := 0, slots := 0, locals := 28 }
theorem rm_M_atom_M_textOf {R : Room} (hR : R = rm_M_atom) : (rm_M_textOf).frames + 1 ≤ R.frames ∧ 8 + (9 + 11) + (rm_M_textOf).locals ≤ R.locals := by subst hR; decide
def fb_M_atom_43 (N : Nat) (G : Unit) (u : MS) (v4 : Int32) (t1 : Int32) : Option (MS × Int32) := lt (upI u 14 t1) (fun w1 => some (w1, v4))
set_option maxRecDepth 100000 in
set_option maxHeartbeats 4000000 in
theorem wb_M_atom_43 {p : Program} {l : Launch} {e : Env} {R : Room} {s : State} {m : MethodId} {args : Array Value} {below : List Frame} {meth : Method} {c : Code} {D : va_G} {cl : List vw_C} {cB cI cJ cZ cS : ClassId} {A : Nat → Prop} {iM h0 : Nat} {ad : Nat → Nat} (C0 : MCx p s m args meth c b_M_atom 5 (some .int) D cl cB cI cJ cZ cS iM A) (hR : R = rm_M_atom) (N : Nat) (G : Unit) (hG : True) : ∀ (u : MS) (v4 : Int32) (t1 : Int32) (x : MS × Int32), fb_M_atom_43 N G u v4 t1 = some x → ∀ (H : Heap) (locs : List Loc), va_P D cl (wM cB cI cJ cZ cS iM h0 ad u) H → va_D A (wM cB cI cJ cZ cS iM h0 ad u) → va_S A s.heap H locs → ∀ (ls : Array Slot), lv_has ls 5 [(4, .int v4)] → W p l e R s m args below meth c H locs 0 0 (MQ below (mQi D cl cB cI cJ cZ cS iM h0 ad A x) args s 0 0 A) (F0 m 43 ls [.int t1, .ref h0]) := by
  intro u v4 t1 x hf H locs hP hD hS ls hl
  obtain ⟨hx, hb, hr, hml, ht, hown, hM, hK, hA, hlocks⟩ := id C0
  unfold fb_M_atom_43 at hf
  refine up_I hx hb ht hown hM hK hP hD hS 14 (by decide) lk_M_14 (by decide) rfl rfl rfl d_M_atom_43 (fun H locs hP hD hS => ?_)
  obtain ⟨w1, e1, hf⟩ := lt_some hf
  rw [← e1] at hP hD
  refine lv_iload hx hb d_M_atom_46 (lv_at hl 0 rfl) ?_
  exact mr_i C0 hP hD hS hf d_M_atom_48
def fb_M_atom_0 (N : Nat) (G : Unit) (u : MS) (v1 : Nat) (v2 : Int32) (v3 : Int32) : Option (MS × Int32) := bnd (fm_M_textOf N u 12 13 (u.1 14) v1 v2 v3) (fun u2 r2 => br (decide (r2 = (u2.1 14))) (fb_M_atom_43 N G u2 (r2) (((u2.1 14) + 1))) (fb_M_atom_43 N G u2 (r2) ((u2.1 14))))
set_option maxRecDepth 100000 in
set_option maxHeartbeats 4000000 in
theorem wb_M_atom_0 {p : Program} {l : Launch} {e : Env} {R : Room} {s : State} {m : MethodId} {args : Array Value} {below : List Frame} {meth : Method} {c : Code} {D : va_G} {cl : List vw_C} {cB cI cJ cZ cS : ClassId} {A : Nat → Prop} {iM h0 : Nat} {ad : Nat → Nat} (C0 : MCx p s m args meth c b_M_atom 5 (some .int) D cl cB cI cJ cZ cS iM A) (hR : R = rm_M_atom) (N : Nat) (G : Unit) (hG : True) : ∀ (u : MS) (v1 : Nat) (v2 : Int32) (v3 : Int32) (x : MS × Int32), fb_M_atom_0 N G u v1 v2 v3 = some x → ∀ (H : Heap) (locs : List Loc), va_P D cl (wM cB cI cJ cZ cS iM h0 ad u) H → va_D A (wM cB cI cJ cZ cS iM h0 ad u) → va_S A s.heap H locs → ∀ (ls : Array Slot), lv_has ls 5 [(0, .ref h0), (1, .ref (ad v1)), (2, .int v2), (3, .int v3)] → W p l e R s m args below meth c H locs 0 0 (MQ below (mQi D cl cB cI cJ cZ cS iM h0 ad A x) args s 0 0 A) (F0 m 0 ls []) := by
  intro u v1 v2 v3 x hf H locs hP hD hS ls hl
  obtain ⟨hx, hb, hr, hml, ht, hown, hM, hK, hA, hlocks⟩ := id C0
  unfold fb_M_atom_0 at hf
  refine lv_aload_n hx hb d_M_atom_0 rfl (lv_at hl 0 rfl) ?_
  refine ug_R hx hb ht hown hM hK hP 12 (by decide) lk_M_12 (by decide) d_M_atom_1 ?_
  refine lv_aload_n hx hb d_M_atom_4 rfl (lv_at hl 0 rfl) ?_
  refine ug_R hx hb ht hown hM hK hP 13 (by decide) lk_M_13 (by decide) d_M_atom_5 ?_
  refine lv_aload_n hx hb d_M_atom_8 rfl (lv_at hl 0 rfl) ?_
  refine ug_I hx hb ht hown hM hK hP 14 (by decide) lk_M_14 (by decide) d_M_atom_9 ?_
  refine lv_aload_n hx hb d_M_atom_12 rfl (lv_at hl 1 rfl) ?_
  refine lv_iload_n hx hb d_M_atom_13 rfl (lv_at hl 2 rfl) ?_
  refine lv_iload_n hx hb d_M_atom_14 rfl (lv_at hl 3 rfl) ?_
  obtain ⟨u2, r2, hc2, hf⟩ := bnd_some hf
  refine mS_i (As := [.ref (ad 12), .ref (ad 13), .int (u.1 14), .ref (ad v1), .int v2, .int v3]) (rest := []) C0 hP hD hS (c_M_textOf N hM hc2) k_M_textOf hl_M_textOf ht_M_textOf hini_M rfl rfl hd_M_textOf rfl (rm_M_atom_M_textOf hR) hl.1 (Nat.le_of_ble_eq_true rfl) d_M_atom_15 rfl ⟨Nat.zero_le _, Nat.zero_le _⟩ (fun H locs hP hD hS => ?_)
  refine lv_istore (lv' := [(4, .int r2), (0, .ref h0), (1, .ref (ad v1)), (2, .int v2), (3, .int v3)]) hx hb d_M_atom_18 hl (by decide) rfl (fun ls hl => ?_)
  refine lv_aload_n hx hb d_M_atom_20 rfl (lv_at hl 1 rfl) ?_
  refine lv_iload hx hb d_M_atom_21 (lv_at hl 0 rfl) ?_
  refine lv_aload_n hx hb d_M_atom_23 rfl (lv_at hl 1 rfl) ?_
  refine ug_I hx hb ht hown hM hK hP 14 (by decide) lk_M_14 (by decide) d_M_atom_24 ?_
  refine lv_icmp_ne (tgt := 39) hx hb d_M_atom_27 (by decide) (fun hc => ?_) (fun hc => ?_)
  · rw [br_n _ hc] at hf
    refine lv_aload_n hx hb d_M_atom_39 rfl (lv_at hl 1 rfl) ?_
    refine ug_I hx hb ht hown hM hK hP 14 (by decide) lk_M_14 (by decide) d_M_atom_40 ?_
    exact wb_M_atom_43 C0 hR N G hG _ _ _ _ hf H locs hP hD hS ls (lv_sub hl [0] rfl)
  · rw [br_p _ hc] at hf
    refine lv_aload_n hx hb d_M_atom_30 rfl (lv_at hl 1 rfl) ?_
    refine ug_I hx hb ht hown hM hK hP 14 (by decide) lk_M_14 (by decide) d_M_atom_31 ?_
    refine lv_iconst (v := 1) hx hb d_M_atom_34 (by decide) ?_
    refine lv_iadd hx hb d_M_atom_35 ?_
    refine lv_goto (tgt := 43) hx hb d_M_atom_36 (by decide) ?_
    exact wb_M_atom_43 C0 hR N G hG _ _ _ _ hf H locs hP hD hS ls (lv_sub hl [0] rfl)
def fm_M_atom (N : Nat) (u : MS) (v1 : Nat) (v2 : Int32) (v3 : Int32) : Option (MS × Int32) := fb_M_atom_0 N () u v1 v2 v3
set_option maxRecDepth 100000 in
set_option maxHeartbeats 4000000 in
theorem c_M_atom (N : Nat) {l : Launch} {D : va_G} {cl : List vw_C} {cB cI cJ cZ cS : ClassId} {iM h0 : Nat} {ad : Nat → Nat} {u : MS} {sz : Nat} {v1 : Nat} {v2 : Int32} {v3 : Int32} {x : MS × Int32} (hM : cl[iM]? = some (R_M, F_M, 171)) (hf : fm_M_atom N u v1 v2 v3 = some x) : Met l y_M_atom (wd_ws y_M_atom b_M_atom 5 (some .int)) rm_M_atom (mPc D cl cB cI cJ cZ cS iM h0 ad u sz [.ref h0, .ref (ad v1), .int v2, .int v3]) (mQi D cl cB cI cJ cZ cS iM h0 ad (mA cB cI cJ cZ cS iM h0 ad u sz) x) 0 0 (mA cB cI cJ cZ cS iM h0 ad u sz) :=
  mMet (by decide) rfl hM (Nat.le_of_ble_eq_true rfl) (fun p e s m below meth c ls hsz C0 hP hD hS hl => by
    have hR : rm_M_atom = rm_M_atom := rfl
    exact wb_M_atom_0 C0 hR N () trivial u _ _ _ x hf s.heap [] hP hD hS ls (lv_sub hl [0, 1, 2, 3] rfl))
abbrev b_M_allFirstAtoms : ByteArray := prog_14_method_12_code
def y_M_allFirstAtoms : MethodName := ⟨R_M, "allFirstAtoms", "()V"⟩
def w_M_allFirstAtoms : List Cond := wd_ws y_M_allFirstAtoms b_M_allFirstAtoms 3 none
set_option maxRecDepth 100000 in
theorem k_M_allFirstAtoms : Cond.code y_M_allFirstAtoms b_M_allFirstAtoms 3 none ∈ wd_tbl := wd_of 2641 rfl rfl
theorem d_M_allFirstAtoms_0 : decode b_M_allFirstAtoms 0 = .ok (.aload_n 0, 1) := by decide +kernel
theorem d_M_allFirstAtoms_1 : decode b_M_allFirstAtoms 1 = .ok (.iconst 0, 1) := by decide +kernel
theorem d_M_allFirstAtoms_2 : decode b_M_allFirstAtoms 2 = .ok (.putfield 385, 3) := by decide +kernel
theorem d_M_allFirstAtoms_5 : decode b_M_allFirstAtoms 5 = .ok (.aload_n 0, 1) := by decide +kernel
theorem d_M_allFirstAtoms_6 : decode b_M_allFirstAtoms 6 = .ok (.iconst 0, 1) := by decide +kernel
theorem d_M_allFirstAtoms_7 : decode b_M_allFirstAtoms 7 = .ok (.putfield 392, 3) := by decide +kernel
theorem d_M_allFirstAtoms_10 : decode b_M_allFirstAtoms 10 = .ok (.aload_n 0, 1) := by decide +kernel
theorem d_M_allFirstAtoms_11 : decode b_M_allFirstAtoms 11 = .ok (.iconst 0, 1) := by decide +kernel
theorem d_M_allFirstAtoms_12 : decode b_M_allFirstAtoms 12 = .ok (.putfield 395, 3) := by decide +kernel
theorem d_M_allFirstAtoms_15 : decode b_M_allFirstAtoms 15 = .ok (.iconst 0, 1) := by decide +kernel
theorem d_M_allFirstAtoms_16 : decode b_M_allFirstAtoms 16 = .ok (.istore_n 1, 1) := by decide +kernel
theorem d_M_allFirstAtoms_17 : decode b_M_allFirstAtoms 17 = .ok (.iload_n 1, 1) := by decide +kernel
theorem d_M_allFirstAtoms_18 : decode b_M_allFirstAtoms 18 = .ok (.aload_n 0, 1) := by decide +kernel
theorem d_M_allFirstAtoms_19 : decode b_M_allFirstAtoms 19 = .ok (.getfield 13, 3) := by decide +kernel
theorem d_M_allFirstAtoms_22 : decode b_M_allFirstAtoms 22 = .ok (.arraylength, 1) := by decide +kernel
theorem d_M_allFirstAtoms_23 : decode b_M_allFirstAtoms 23 = .ok (.if_icmp .ge 35, 3) := by decide +kernel
theorem d_M_allFirstAtoms_26 : decode b_M_allFirstAtoms 26 = .ok (.aload_n 0, 1) := by decide +kernel
theorem d_M_allFirstAtoms_27 : decode b_M_allFirstAtoms 27 = .ok (.aload_n 0, 1) := by decide +kernel
theorem d_M_allFirstAtoms_28 : decode b_M_allFirstAtoms 28 = .ok (.getfield 13, 3) := by decide +kernel
theorem d_M_allFirstAtoms_31 : decode b_M_allFirstAtoms 31 = .ok (.iload_n 1, 1) := by decide +kernel
theorem d_M_allFirstAtoms_32 : decode b_M_allFirstAtoms 32 = .ok (.iconst 1, 1) := by decide +kernel
theorem d_M_allFirstAtoms_33 : decode b_M_allFirstAtoms 33 = .ok (.iadd, 1) := by decide +kernel
theorem d_M_allFirstAtoms_34 : decode b_M_allFirstAtoms 34 = .ok (.aload_n 0, 1) := by decide +kernel
theorem d_M_allFirstAtoms_35 : decode b_M_allFirstAtoms 35 = .ok (.getfield 13, 3) := by decide +kernel
theorem d_M_allFirstAtoms_38 : decode b_M_allFirstAtoms 38 = .ok (.iload_n 1, 1) := by decide +kernel
theorem d_M_allFirstAtoms_39 : decode b_M_allFirstAtoms 39 = .ok (.baload, 1) := by decide +kernel
theorem d_M_allFirstAtoms_40 : decode b_M_allFirstAtoms 40 = .ok (.invokevirtual 398, 3) := by decide +kernel
theorem d_M_allFirstAtoms_43 : decode b_M_allFirstAtoms 43 = .ok (.istore_n 2, 1) := by decide +kernel
theorem d_M_allFirstAtoms_44 : decode b_M_allFirstAtoms 44 = .ok (.iload_n 1, 1) := by decide +kernel
theorem d_M_allFirstAtoms_45 : decode b_M_allFirstAtoms 45 = .ok (.aload_n 0, 1) := by decide +kernel
theorem d_M_allFirstAtoms_46 : decode b_M_allFirstAtoms 46 = .ok (.getfield 13, 3) := by decide +kernel
theorem d_M_allFirstAtoms_49 : decode b_M_allFirstAtoms 49 = .ok (.iload_n 1, 1) := by decide +kernel
theorem d_M_allFirstAtoms_50 : decode b_M_allFirstAtoms 50 = .ok (.baload, 1) := by decide +kernel
theorem d_M_allFirstAtoms_51 : decode b_M_allFirstAtoms 51 = .ok (.iconst 1, 1) := by decide +kernel
theorem d_M_allFirstAtoms_52 : decode b_M_allFirstAtoms 52 = .ok (.iadd, 1) := by decide +kernel
theorem d_M_allFirstAtoms_53 : decode b_M_allFirstAtoms 53 = .ok (.iadd, 1) := by decide +kernel
theorem d_M_allFirstAtoms_54 : decode b_M_allFirstAtoms 54 = .ok (.istore_n 1, 1) := by decide +kernel
theorem d_M_allFirstAtoms_55 : decode b_M_allFirstAtoms 55 = .ok (.goto (-38), 3) := by decide +kernel
theorem d_M_allFirstAtoms_58 : decode b_M_allFirstAtoms 58 = .ok (.return_, 1) := by decide +kernel
set_option maxRecDepth 100000 in
theorem hl_M_allFirstAtoms : Cond.methodLink R_M 411 y_M_allFirstAtoms ∈ wd_tbl := wd_of 2638 (by decide +kernel) rfl
set_option maxRecDepth 100000 in
theorem hi_M_allFirstAtoms : Cond.instanceMethod y_M_allFirstAtoms ∈ wd_tbl := wd_of 2640 (by decide +kernel) rfl
set_option maxRecDepth 100000 in
theorem hs_M_allFirstAtoms : Cond.selects R_M y_M_allFirstAtoms y_M_allFirstAtoms ∈ wd_tbl := wd_of 128 (by decide +kernel) rfl
theorem hd_M_allFirstAtoms : y_M_allFirstAtoms.cls = R_M ∧ y_M_allFirstAtoms.cls ≠ "java/lang/invoke/MethodHandle" ∧ y_M_allFirstAtoms.cls ≠ "java/lang/invoke/VarHandle" ∧ (parseMethodDescriptor y_M_allFirstAtoms.desc).map (fun d => d.parameters.length) = some 0 := by decide +kernel
def rm_M_allFirstAtoms : Room := { frames := 2, cells := 0, slots := 0, locals := 52 }
theorem rm_M_allFirstAtoms_M_atom {R : Room} (hR : R = rm_M_allFirstAtoms) : (rm_M_atom).frames + 1 ≤ R.frames ∧ 8 + (5 + 11) + (rm_M_atom).locals ≤ R.locals := by subst hR; decide
def fb_M_allFirstAtoms_17 (N : Nat) (G : (MS → Int32 → Option (MS × Unit))) (u : MS) (v1 : Int32) : Option (MS × Unit) := br (decide ((Int32.ofNat (ln 1)) ≤ v1)) (some (u, ())) (ck (inb v1 (ln 1)) (bnd (fm_M_atom N u 1 (v1 + 1) (u.2.2.1 1 v1.toNatClampNeg)) (fun u1 r1 => ck (inb v1 (ln 1)) (lt (v1 + ((u1.2.2.1 1 v1.toNatClampNeg) + 1)) (fun y2 => G u1 (y2))))))
set_option maxRecDepth 100000 in
set_option maxHeartbeats 4000000 in
theorem wb_M_allFirstAtoms_17 {p : Program} {l : Launch} {e : Env} {R : Room} {s : State} {m : MethodId} {args : Array Value} {below : List Frame} {meth : Method} {c : Code} {D : va_G} {cl : List vw_C} {cB cI cJ cZ cS : ClassId} {A : Nat → Prop} {iM h0 : Nat} {ad : Nat → Nat} (C0 : MCx p s m args meth c b_M_allFirstAtoms 3 none D cl cB cI cJ cZ cS iM A) (hR : R = rm_M_allFirstAtoms) (N : Nat) (G : (MS → Int32 → Option (MS × Unit))) (hG : (∀ (u : MS) (v1 : Int32) (x : MS × Unit), G u v1 = some x → ∀ (H : Heap) (locs : List Loc), va_P D cl (wM cB cI cJ cZ cS iM h0 ad u) H → va_D A (wM cB cI cJ cZ cS iM h0 ad u) → va_S A s.heap H locs → ∀ (ls : Array Slot), lv_has ls 3 [(0, .ref h0), (1, .int v1)] → W p l e R s m args below meth c H locs 0 0 (MQ below (mQv D cl cB cI cJ cZ cS iM h0 ad A x) args s 0 0 A) (F0 m 17 ls []))) : ∀ (u : MS) (v1 : Int32) (x : MS × Unit), fb_M_allFirstAtoms_17 N G u v1 = some x → ∀ (H : Heap) (locs : List Loc), va_P D cl (wM cB cI cJ cZ cS iM h0 ad u) H → va_D A (wM cB cI cJ cZ cS iM h0 ad u) → va_S A s.heap H locs → ∀ (ls : Array Slot), lv_has ls 3 [(0, .ref h0), (1, .int v1)] → W p l e R s m args below meth c H locs 0 0 (MQ below (mQv D cl cB cI cJ cZ cS iM h0 ad A x) args s 0 0 A) (F0 m 17 ls []) := by
  intro u v1 x hf H locs hP hD hS ls hl
  obtain ⟨hx, hb, hr, hml, ht, hown, hM, hK, hA, hlocks⟩ := id C0
  unfold fb_M_allFirstAtoms_17 at hf
  refine lv_iload_n hx hb d_M_allFirstAtoms_17 rfl (lv_at hl 1 rfl) ?_
  refine lv_aload_n hx hb d_M_allFirstAtoms_18 rfl (lv_at hl 0 rfl) ?_
  refine ug_R hx hb ht hown hM hK hP 1 (by decide) lk_M_1 (by decide) d_M_allFirstAtoms_19 ?_
  refine un_A hx hb hK hP (k := 1) (by decide) (by decide) d_M_allFirstAtoms_22 ?_
  refine lv_icmp_ge (tgt := 58) hx hb d_M_allFirstAtoms_23 (by decide) (fun hc => ?_) (fun hc => ?_)
  · rw [br_p _ hc] at hf
    exact mr_v C0 hP hD hS hf d_M_allFirstAtoms_58
  · rw [br_n _ hc] at hf
    refine lv_aload_n hx hb d_M_allFirstAtoms_26 rfl (lv_at hl 0 rfl) ?_
    refine lv_aload_n hx hb d_M_allFirstAtoms_27 rfl (lv_at hl 0 rfl) ?_
    refine ug_R hx hb ht hown hM hK hP 1 (by decide) lk_M_1 (by decide) d_M_allFirstAtoms_28 ?_
    refine lv_iload_n hx hb d_M_allFirstAtoms_31 rfl (lv_at hl 1 rfl) ?_
    refine lv_iconst (v := 1) hx hb d_M_allFirstAtoms_32 (by decide) ?_
    refine lv_iadd hx hb d_M_allFirstAtoms_33 ?_
    refine lv_aload_n hx hb d_M_allFirstAtoms_34 rfl (lv_at hl 0 rfl) ?_
    refine ug_R hx hb ht hown hM hK hP 1 (by decide) lk_M_1 (by decide) d_M_allFirstAtoms_35 ?_
    refine lv_iload_n hx hb d_M_allFirstAtoms_38 rfl (lv_at hl 1 rfl) ?_
    obtain ⟨hi9, hf⟩ := ck_some hf
    refine ul_B hx hb hK hP (by decide) (by decide) hi9 d_M_allFirstAtoms_39 ?_
    obtain ⟨u1, r1, hc1, hf⟩ := bnd_some hf
    refine mV_i (As := [.ref (ad 1), .int (v1 + 1), .int (u.2.2.1 1 v1.toNatClampNeg)]) (rest := []) C0 hP hD hS (c_M_atom N hM hc1) k_M_atom hl_M_atom hi_M_atom hs_M_atom hini_M rfl rfl hd_M_atom rfl (rm_M_allFirstAtoms_M_atom hR) hl.1 (Nat.le_of_ble_eq_true rfl) d_M_allFirstAtoms_40 rfl ⟨Nat.zero_le _, Nat.zero_le _⟩ (fun H locs hP hD hS => ?_)
    refine lv_istore_n (lv' := [(2, .int r1), (0, .ref h0), (1, .int v1)]) hx hb d_M_allFirstAtoms_43 rfl hl (by decide) rfl (fun ls hl => ?_)
    refine lv_iload_n hx hb d_M_allFirstAtoms_44 rfl (lv_at hl 2 rfl) ?_
    refine lv_aload_n hx hb d_M_allFirstAtoms_45 rfl (lv_at hl 1 rfl) ?_
    refine ug_R hx hb ht hown hM hK hP 1 (by decide) lk_M_1 (by decide) d_M_allFirstAtoms_46 ?_
    refine lv_iload_n hx hb d_M_allFirstAtoms_49 rfl (lv_at hl 2 rfl) ?_
    obtain ⟨hi9, hf⟩ := ck_some hf
    refine ul_B hx hb hK hP (by decide) (by decide) hi9 d_M_allFirstAtoms_50 ?_
    refine lv_iconst (v := 1) hx hb d_M_allFirstAtoms_51 (by decide) ?_
    refine lv_iadd hx hb d_M_allFirstAtoms_52 ?_
    refine lv_iadd hx hb d_M_allFirstAtoms_53 ?_
    obtain ⟨y2, e2, hf⟩ := lt_some hf
    rw [← e2]
    refine lv_istore_n (lv' := [(1, .int y2), (2, .int r1), (0, .ref h0)]) hx hb d_M_allFirstAtoms_54 rfl hl (by decide) rfl (fun ls hl => ?_)
    refine lv_goto (tgt := 17) hx hb d_M_allFirstAtoms_55 (by decide) ?_
    exact hG _ _ _ hf H locs hP hD hS ls (lv_sub hl [2, 0] rfl)
def fb_M_allFirstAtoms_0 (N : Nat) (G : (MS → Int32 → Option (MS × Unit))) (u : MS) : Option (MS × Unit) := lt (upI u 14 0) (fun w3 => lt (upI w3 17 0) (fun w4 => lt (upI w4 20 0) (fun w5 => G w5 (0))))
set_option maxRecDepth 100000 in
set_option maxHeartbeats 4000000 in
theorem wb_M_allFirstAtoms_0 {p : Program} {l : Launch} {e : Env} {R : Room} {s : State} {m : MethodId} {args : Array Value} {below : List Frame} {meth : Method} {c : Code} {D : va_G} {cl : List vw_C} {cB cI cJ cZ cS : ClassId} {A : Nat → Prop} {iM h0 : Nat} {ad : Nat → Nat} (C0 : MCx p s m args meth c b_M_allFirstAtoms 3 none D cl cB cI cJ cZ cS iM A) (hR : R = rm_M_allFirstAtoms) (N : Nat) (G : (MS → Int32 → Option (MS × Unit))) (hG : (∀ (u : MS) (v1 : Int32) (x : MS × Unit), G u v1 = some x → ∀ (H : Heap) (locs : List Loc), va_P D cl (wM cB cI cJ cZ cS iM h0 ad u) H → va_D A (wM cB cI cJ cZ cS iM h0 ad u) → va_S A s.heap H locs → ∀ (ls : Array Slot), lv_has ls 3 [(0, .ref h0), (1, .int v1)] → W p l e R s m args below meth c H locs 0 0 (MQ below (mQv D cl cB cI cJ cZ cS iM h0 ad A x) args s 0 0 A) (F0 m 17 ls []))) : ∀ (u : MS) (x : MS × Unit), fb_M_allFirstAtoms_0 N G u = some x → ∀ (H : Heap) (locs : List Loc), va_P D cl (wM cB cI cJ cZ cS iM h0 ad u) H → va_D A (wM cB cI cJ cZ cS iM h0 ad u) → va_S A s.heap H locs → ∀ (ls : Array Slot), lv_has ls 3 [(0, .ref h0)] → W p l e R s m args below meth c H locs 0 0 (MQ below (mQv D cl cB cI cJ cZ cS iM h0 ad A x) args s 0 0 A) (F0 m 0 ls []) := by
  intro u x hf H locs hP hD hS ls hl
  obtain ⟨hx, hb, hr, hml, ht, hown, hM, hK, hA, hlocks⟩ := id C0
  unfold fb_M_allFirstAtoms_0 at hf
  refine lv_aload_n hx hb d_M_allFirstAtoms_0 rfl (lv_at hl 0 rfl) ?_
  refine lv_iconst (v := 0) hx hb d_M_allFirstAtoms_1 (by decide) ?_
  refine up_I hx hb ht hown hM hK hP hD hS 14 (by decide) lk_M_14 (by decide) rfl rfl rfl d_M_allFirstAtoms_2 (fun H locs hP hD hS => ?_)
  obtain ⟨w3, e3, hf⟩ := lt_some hf
  rw [← e3] at hP hD
  refine lv_aload_n hx hb d_M_allFirstAtoms_5 rfl (lv_at hl 0 rfl) ?_
  refine lv_iconst (v := 0) hx hb d_M_allFirstAtoms_6 (by decide) ?_
  refine up_I hx hb ht hown hM hK hP hD hS 17 (by decide) lk_M_17 (by decide) rfl rfl rfl d_M_allFirstAtoms_7 (fun H locs hP hD hS => ?_)
  obtain ⟨w4, e4, hf⟩ := lt_some hf
  rw [← e4] at hP hD
  refine lv_aload_n hx hb d_M_allFirstAtoms_10 rfl (lv_at hl 0 rfl) ?_
  refine lv_iconst (v := 0) hx hb d_M_allFirstAtoms_11 (by decide) ?_
  refine up_I hx hb ht hown hM hK hP hD hS 20 (by decide) lk_M_20 (by decide) rfl rfl rfl d_M_allFirstAtoms_12 (fun H locs hP hD hS => ?_)
  obtain ⟨w5, e5, hf⟩ := lt_some hf
  rw [← e5] at hP hD
  refine lv_iconst (v := 0) hx hb d_M_allFirstAtoms_15 (by decide) ?_
  refine lv_istore_n (lv' := [(1, .int 0), (0, .ref h0)]) hx hb d_M_allFirstAtoms_16 rfl hl (by decide) rfl (fun ls hl => ?_)
  exact hG _ _ _ hf H locs hP hD hS ls (lv_sub hl [1, 0] rfl)
def gg_M_allFirstAtoms (N : Nat) : Nat → ((MS → Int32 → Option (MS × Unit)))
  | 0 => fun _ _ => none
  | n + 1 => fb_M_allFirstAtoms_17 N (gg_M_allFirstAtoms N n)
theorem wg_M_allFirstAtoms {p : Program} {l : Launch} {e : Env} {R : Room} {s : State} {m : MethodId} {args : Array Value} {below : List Frame} {meth : Method} {c : Code} {D : va_G} {cl : List vw_C} {cB cI cJ cZ cS : ClassId} {A : Nat → Prop} {iM h0 : Nat} {ad : Nat → Nat} (C0 : MCx p s m args meth c b_M_allFirstAtoms 3 none D cl cB cI cJ cZ cS iM A) (hR : R = rm_M_allFirstAtoms) (N : Nat) : ∀ n : Nat, (∀ (u : MS) (v1 : Int32) (x : MS × Unit), gg_M_allFirstAtoms N n u v1 = some x → ∀ (H : Heap) (locs : List Loc), va_P D cl (wM cB cI cJ cZ cS iM h0 ad u) H → va_D A (wM cB cI cJ cZ cS iM h0 ad u) → va_S A s.heap H locs → ∀ (ls : Array Slot), lv_has ls 3 [(0, .ref h0), (1, .int v1)] → W p l e R s m args below meth c H locs 0 0 (MQ below (mQv D cl cB cI cJ cZ cS iM h0 ad A x) args s 0 0 A) (F0 m 17 ls []))
  | 0 => (fun u v1 x hf => by cases hf)
  | n + 1 => wb_M_allFirstAtoms_17 C0 hR N (gg_M_allFirstAtoms N n) (wg_M_allFirstAtoms C0 hR N n)
def fm_M_allFirstAtoms (N : Nat) (u : MS) : Option (MS × Unit) := fb_M_allFirstAtoms_0 N (gg_M_allFirstAtoms N N) u
set_option maxRecDepth 100000 in
set_option maxHeartbeats 4000000 in
theorem c_M_allFirstAtoms (N : Nat) {l : Launch} {D : va_G} {cl : List vw_C} {cB cI cJ cZ cS : ClassId} {iM h0 : Nat} {ad : Nat → Nat} {u : MS} {sz : Nat} {x : MS × Unit} (hM : cl[iM]? = some (R_M, F_M, 171)) (hf : fm_M_allFirstAtoms N u = some x) : Met l y_M_allFirstAtoms (wd_ws y_M_allFirstAtoms b_M_allFirstAtoms 3 none) rm_M_allFirstAtoms (mPc D cl cB cI cJ cZ cS iM h0 ad u sz [.ref h0]) (mQv D cl cB cI cJ cZ cS iM h0 ad (mA cB cI cJ cZ cS iM h0 ad u sz) x) 0 0 (mA cB cI cJ cZ cS iM h0 ad u sz) :=
  mMet (by decide) rfl hM (Nat.le_of_ble_eq_true rfl) (fun p e s m below meth c ls hsz C0 hP hD hS hl => by
    have hR : rm_M_allFirstAtoms = rm_M_allFirstAtoms := rfl
    exact wb_M_allFirstAtoms_0 C0 hR N (gg_M_allFirstAtoms N N) (wg_M_allFirstAtoms C0 hR N N) u x hf s.heap [] hP hD hS ls (lv_sub hl [0] rfl))
abbrev b_M_wordAt : ByteArray := prog_14_method_13_code
def y_M_wordAt : MethodName := ⟨R_M, "wordAt", "(II)I"⟩
def w_M_wordAt : List Cond := wd_ws y_M_wordAt b_M_wordAt 7 (some .int)
set_option maxRecDepth 100000 in
theorem k_M_wordAt : Cond.code y_M_wordAt b_M_wordAt 7 (some .int) ∈ wd_tbl := wd_of 2672 rfl rfl
theorem d_M_wordAt_0 : decode b_M_wordAt 0 = .ok (.iconst 0, 1) := by decide +kernel
theorem d_M_wordAt_1 : decode b_M_wordAt 1 = .ok (.istore_n 3, 1) := by decide +kernel
theorem d_M_wordAt_2 : decode b_M_wordAt 2 = .ok (.iconst 0, 1) := by decide +kernel
theorem d_M_wordAt_3 : decode b_M_wordAt 3 = .ok (.istore 4, 2) := by decide +kernel
theorem d_M_wordAt_5 : decode b_M_wordAt 5 = .ok (.iload_n 3, 1) := by decide +kernel
theorem d_M_wordAt_6 : decode b_M_wordAt 6 = .ok (.aload_n 0, 1) := by decide +kernel
theorem d_M_wordAt_7 : decode b_M_wordAt 7 = .ok (.getfield 7, 3) := by decide +kernel
theorem d_M_wordAt_10 : decode b_M_wordAt 10 = .ok (.arraylength, 1) := by decide +kernel
theorem d_M_wordAt_11 : decode b_M_wordAt 11 = .ok (.if_icmp .ge 95, 3) := by decide +kernel
theorem d_M_wordAt_14 : decode b_M_wordAt 14 = .ok (.aload_n 0, 1) := by decide +kernel
theorem d_M_wordAt_15 : decode b_M_wordAt 15 = .ok (.getfield 7, 3) := by decide +kernel
theorem d_M_wordAt_18 : decode b_M_wordAt 18 = .ok (.iload_n 3, 1) := by decide +kernel
theorem d_M_wordAt_19 : decode b_M_wordAt 19 = .ok (.baload, 1) := by decide +kernel
theorem d_M_wordAt_20 : decode b_M_wordAt 20 = .ok (.iload_n 2, 1) := by decide +kernel
theorem d_M_wordAt_21 : decode b_M_wordAt 21 = .ok (.if_icmp .ne 7, 3) := by decide +kernel
theorem d_M_wordAt_24 : decode b_M_wordAt 24 = .ok (.iconst 1, 1) := by decide +kernel
theorem d_M_wordAt_25 : decode b_M_wordAt 25 = .ok (.goto 4, 3) := by decide +kernel
theorem d_M_wordAt_28 : decode b_M_wordAt 28 = .ok (.iconst 0, 1) := by decide +kernel
theorem d_M_wordAt_29 : decode b_M_wordAt 29 = .ok (.istore 5, 2) := by decide +kernel
theorem d_M_wordAt_31 : decode b_M_wordAt 31 = .ok (.iconst 0, 1) := by decide +kernel
theorem d_M_wordAt_32 : decode b_M_wordAt 32 = .ok (.istore 6, 2) := by decide +kernel
theorem d_M_wordAt_34 : decode b_M_wordAt 34 = .ok (.iload 6, 2) := by decide +kernel
theorem d_M_wordAt_36 : decode b_M_wordAt 36 = .ok (.iload_n 2, 1) := by decide +kernel
theorem d_M_wordAt_37 : decode b_M_wordAt 37 = .ok (.if_icmp .ge 44, 3) := by decide +kernel
theorem d_M_wordAt_40 : decode b_M_wordAt 40 = .ok (.iload 5, 2) := by decide +kernel
theorem d_M_wordAt_42 : decode b_M_wordAt 42 = .ok (.ifCond .eq 39, 3) := by decide +kernel
theorem d_M_wordAt_45 : decode b_M_wordAt 45 = .ok (.aload_n 0, 1) := by decide +kernel
theorem d_M_wordAt_46 : decode b_M_wordAt 46 = .ok (.getfield 7, 3) := by decide +kernel
theorem d_M_wordAt_49 : decode b_M_wordAt 49 = .ok (.iload_n 3, 1) := by decide +kernel
theorem d_M_wordAt_50 : decode b_M_wordAt 50 = .ok (.iconst 1, 1) := by decide +kernel
theorem d_M_wordAt_51 : decode b_M_wordAt 51 = .ok (.iadd, 1) := by decide +kernel
theorem d_M_wordAt_52 : decode b_M_wordAt 52 = .ok (.iload 6, 2) := by decide +kernel
theorem d_M_wordAt_54 : decode b_M_wordAt 54 = .ok (.iadd, 1) := by decide +kernel
theorem d_M_wordAt_55 : decode b_M_wordAt 55 = .ok (.baload, 1) := by decide +kernel
theorem d_M_wordAt_56 : decode b_M_wordAt 56 = .ok (.aload_n 0, 1) := by decide +kernel
theorem d_M_wordAt_57 : decode b_M_wordAt 57 = .ok (.getfield 19, 3) := by decide +kernel
theorem d_M_wordAt_60 : decode b_M_wordAt 60 = .ok (.iload_n 1, 1) := by decide +kernel
theorem d_M_wordAt_61 : decode b_M_wordAt 61 = .ok (.iload 6, 2) := by decide +kernel
theorem d_M_wordAt_63 : decode b_M_wordAt 63 = .ok (.iadd, 1) := by decide +kernel
theorem d_M_wordAt_64 : decode b_M_wordAt 64 = .ok (.baload, 1) := by decide +kernel
theorem d_M_wordAt_65 : decode b_M_wordAt 65 = .ok (.if_icmp .ne 7, 3) := by decide +kernel
theorem d_M_wordAt_68 : decode b_M_wordAt 68 = .ok (.iconst 1, 1) := by decide +kernel
theorem d_M_wordAt_69 : decode b_M_wordAt 69 = .ok (.goto 4, 3) := by decide +kernel
theorem d_M_wordAt_72 : decode b_M_wordAt 72 = .ok (.iconst 0, 1) := by decide +kernel
theorem d_M_wordAt_73 : decode b_M_wordAt 73 = .ok (.istore 5, 2) := by decide +kernel
theorem d_M_wordAt_75 : decode b_M_wordAt 75 = .ok (.iinc 6 1, 3) := by decide +kernel
theorem d_M_wordAt_78 : decode b_M_wordAt 78 = .ok (.goto (-44), 3) := by decide +kernel
theorem d_M_wordAt_81 : decode b_M_wordAt 81 = .ok (.iload 5, 2) := by decide +kernel
theorem d_M_wordAt_83 : decode b_M_wordAt 83 = .ok (.ifCond .eq 6, 3) := by decide +kernel
theorem d_M_wordAt_86 : decode b_M_wordAt 86 = .ok (.iload 4, 2) := by decide +kernel
theorem d_M_wordAt_88 : decode b_M_wordAt 88 = .ok (.ireturn, 1) := by decide +kernel
theorem d_M_wordAt_89 : decode b_M_wordAt 89 = .ok (.iload_n 3, 1) := by decide +kernel
theorem d_M_wordAt_90 : decode b_M_wordAt 90 = .ok (.aload_n 0, 1) := by decide +kernel
theorem d_M_wordAt_91 : decode b_M_wordAt 91 = .ok (.getfield 7, 3) := by decide +kernel
theorem d_M_wordAt_94 : decode b_M_wordAt 94 = .ok (.iload_n 3, 1) := by decide +kernel
theorem d_M_wordAt_95 : decode b_M_wordAt 95 = .ok (.baload, 1) := by decide +kernel
theorem d_M_wordAt_96 : decode b_M_wordAt 96 = .ok (.iconst 1, 1) := by decide +kernel
theorem d_M_wordAt_97 : decode b_M_wordAt 97 = .ok (.iadd, 1) := by decide +kernel
theorem d_M_wordAt_98 : decode b_M_wordAt 98 = .ok (.iadd, 1) := by decide +kernel
theorem d_M_wordAt_99 : decode b_M_wordAt 99 = .ok (.istore_n 3, 1) := by decide +kernel
theorem d_M_wordAt_100 : decode b_M_wordAt 100 = .ok (.iinc 4 1, 3) := by decide +kernel
theorem d_M_wordAt_103 : decode b_M_wordAt 103 = .ok (.goto (-98), 3) := by decide +kernel
theorem d_M_wordAt_106 : decode b_M_wordAt 106 = .ok (.iconst (-1), 1) := by decide +kernel
theorem d_M_wordAt_107 : decode b_M_wordAt 107 = .ok (.ireturn, 1) := by decide +kernel
set_option maxRecDepth 100000 in
theorem hl_M_wordAt : Cond.methodLink R_M 438 y_M_wordAt ∈ wd_tbl := wd_of 2669 (by decide +kernel) rfl
set_option maxRecDepth 100000 in
theorem hi_M_wordAt : Cond.instanceMethod y_M_wordAt ∈ wd_tbl := wd_of 2671 (by decide +kernel) rfl
set_option maxRecDepth 100000 in
theorem hs_M_wordAt : Cond.selects R_M y_M_wordAt y_M_wordAt ∈ wd_tbl := wd_of 132 (by decide +kernel) rfl
theorem hd_M_wordAt : y_M_wordAt.cls = R_M ∧ y_M_wordAt.cls ≠ "java/lang/invoke/MethodHandle" ∧ y_M_wordAt.cls ≠ "java/lang/invoke/VarHandle" ∧ (parseMethodDescriptor y_M_wordAt.desc).map (fun d => d.parameters.length) = some 2 := by decide +kernel
def rm_M_wordAt : Room := { frames := 0, cells := 0, slots := 0, locals := 0 }
def fb_M_wordAt_81 (N : Nat) (G : (MS → Int32 → Int32 → Int32 → Int32 → Option (MS × Int32)) × (MS → Int32 → Int32 → Int32 → Int32 → Int32 → Int32 → Option (MS × Int32))) (u : MS) (v1 : Int32) (v2 : Int32) (v3 : Int32) (v4 : Int32) (v5 : Int32) : Option (MS × Int32) := br (decide (v5 = 0)) (ck (inb v3 (ln 0)) (lt (v3 + ((u.2.2.1 0 v3.toNatClampNeg) + 1)) (fun y1 => G.1 u (v1) (v2) (y1) ((v4 + 1))))) (some (u, v4))
set_option maxRecDepth 100000 in
set_option maxHeartbeats 4000000 in
theorem wb_M_wordAt_81 {p : Program} {l : Launch} {e : Env} {R : Room} {s : State} {m : MethodId} {args : Array Value} {below : List Frame} {meth : Method} {c : Code} {D : va_G} {cl : List vw_C} {cB cI cJ cZ cS : ClassId} {A : Nat → Prop} {iM h0 : Nat} {ad : Nat → Nat} (C0 : MCx p s m args meth c b_M_wordAt 7 (some .int) D cl cB cI cJ cZ cS iM A) (hR : R = rm_M_wordAt) (N : Nat) (G : (MS → Int32 → Int32 → Int32 → Int32 → Option (MS × Int32)) × (MS → Int32 → Int32 → Int32 → Int32 → Int32 → Int32 → Option (MS × Int32))) (hG : (∀ (u : MS) (v1 : Int32) (v2 : Int32) (v3 : Int32) (v4 : Int32) (x : MS × Int32), G.1 u v1 v2 v3 v4 = some x → ∀ (H : Heap) (locs : List Loc), va_P D cl (wM cB cI cJ cZ cS iM h0 ad u) H → va_D A (wM cB cI cJ cZ cS iM h0 ad u) → va_S A s.heap H locs → ∀ (ls : Array Slot), lv_has ls 7 [(0, .ref h0), (1, .int v1), (2, .int v2), (3, .int v3), (4, .int v4)] → W p l e R s m args below meth c H locs 0 0 (MQ below (mQi D cl cB cI cJ cZ cS iM h0 ad A x) args s 0 0 A) (F0 m 5 ls [])) ∧ (∀ (u : MS) (v1 : Int32) (v2 : Int32) (v3 : Int32) (v4 : Int32) (v5 : Int32) (v6 : Int32) (x : MS × Int32), G.2 u v1 v2 v3 v4 v5 v6 = some x → ∀ (H : Heap) (locs : List Loc), va_P D cl (wM cB cI cJ cZ cS iM h0 ad u) H → va_D A (wM cB cI cJ cZ cS iM h0 ad u) → va_S A s.heap H locs → ∀ (ls : Array Slot), lv_has ls 7 [(0, .ref h0), (1, .int v1), (2, .int v2), (3, .int v3), (4, .int v4), (5, .int v5), (6, .int v6)] → W p l e R s m args below meth c H locs 0 0 (MQ below (mQi D cl cB cI cJ cZ cS iM h0 ad A x) args s 0 0 A) (F0 m 34 ls []))) : ∀ (u : MS) (v1 : Int32) (v2 : Int32) (v3 : Int32) (v4 : Int32) (v5 : Int32) (x : MS × Int32), fb_M_wordAt_81 N G u v1 v2 v3 v4 v5 = some x → ∀ (H : Heap) (locs : List Loc), va_P D cl (wM cB cI cJ cZ cS iM h0 ad u) H → va_D A (wM cB cI cJ cZ cS iM h0 ad u) → va_S A s.heap H locs → ∀ (ls : Array Slot), lv_has ls 7 [(0, .ref h0), (1, .int v1), (2, .int v2), (3, .int v3), (4, .int v4), (5, .int v5)] → W p l e R s m args below meth c H locs 0 0 (MQ below (mQi D cl cB cI cJ cZ cS iM h0 ad A x) args s 0 0 A) (F0 m 81 ls []) := by
  intro u v1 v2 v3 v4 v5 x hf H locs hP hD hS ls hl
  obtain ⟨hx, hb, hr, hml, ht, hown, hM, hK, hA, hlocks⟩ := id C0
  unfold fb_M_wordAt_81 at hf
  refine lv_iload hx hb d_M_wordAt_81 (lv_at hl 5 rfl) ?_
  refine lv_if_eq (tgt := 89) hx hb d_M_wordAt_83 (by decide) (fun hc => ?_) (fun hc => ?_)
  · rw [br_p _ hc] at hf
    refine lv_iload_n hx hb d_M_wordAt_89 rfl (lv_at hl 3 rfl) ?_
    refine lv_aload_n hx hb d_M_wordAt_90 rfl (lv_at hl 0 rfl) ?_
    refine ug_R hx hb ht hown hM hK hP 0 (by decide) lk_M_0 (by decide) d_M_wordAt_91 ?_
    refine lv_iload_n hx hb d_M_wordAt_94 rfl (lv_at hl 3 rfl) ?_
    obtain ⟨hi9, hf⟩ := ck_some hf
    refine ul_B hx hb hK hP (by decide) (by decide) hi9 d_M_wordAt_95 ?_
    refine lv_iconst (v := 1) hx hb d_M_wordAt_96 (by decide) ?_
    refine lv_iadd hx hb d_M_wordAt_97 ?_
    refine lv_iadd hx hb d_M_wordAt_98 ?_
    obtain ⟨y1, e1, hf⟩ := lt_some hf
    rw [← e1]
    refine lv_istore_n (lv' := [(3, .int y1), (0, .ref h0), (1, .int v1), (2, .int v2), (4, .int v4), (5, .int v5)]) hx hb d_M_wordAt_99 rfl hl (by decide) rfl (fun ls hl => ?_)
    refine lv_iinc (v := (v4 + 1)) (lv' := [(4, .int (v4 + 1)), (3, .int y1), (0, .ref h0), (1, .int v1), (2, .int v2), (5, .int v5)]) hx hb d_M_wordAt_100 hl (k := 4) rfl rfl (by decide) rfl (fun ls hl => ?_)
    refine lv_goto (tgt := 5) hx hb d_M_wordAt_103 (by decide) ?_
    exact hG.1 _ _ _ _ _ _ hf H locs hP hD hS ls (lv_sub hl [2, 3, 4, 1, 0] rfl)
  · rw [br_n _ hc] at hf
    refine lv_iload hx hb d_M_wordAt_86 (lv_at hl 4 rfl) ?_
    exact mr_i C0 hP hD hS hf d_M_wordAt_88
def fb_M_wordAt_73 (N : Nat) (G : (MS → Int32 → Int32 → Int32 → Int32 → Option (MS × Int32)) × (MS → Int32 → Int32 → Int32 → Int32 → Int32 → Int32 → Option (MS × Int32))) (u : MS) (v1 : Int32) (v2 : Int32) (v3 : Int32) (v4 : Int32) (v6 : Int32) (t0 : Int32) : Option (MS × Int32) := G.2 u (v1) (v2) (v3) (v4) (t0) ((v6 + 1))
set_option maxRecDepth 100000 in
set_option maxHeartbeats 4000000 in
theorem wb_M_wordAt_73 {p : Program} {l : Launch} {e : Env} {R : Room} {s : State} {m : MethodId} {args : Array Value} {below : List Frame} {meth : Method} {c : Code} {D : va_G} {cl : List vw_C} {cB cI cJ cZ cS : ClassId} {A : Nat → Prop} {iM h0 : Nat} {ad : Nat → Nat} (C0 : MCx p s m args meth c b_M_wordAt 7 (some .int) D cl cB cI cJ cZ cS iM A) (hR : R = rm_M_wordAt) (N : Nat) (G : (MS → Int32 → Int32 → Int32 → Int32 → Option (MS × Int32)) × (MS → Int32 → Int32 → Int32 → Int32 → Int32 → Int32 → Option (MS × Int32))) (hG : (∀ (u : MS) (v1 : Int32) (v2 : Int32) (v3 : Int32) (v4 : Int32) (x : MS × Int32), G.1 u v1 v2 v3 v4 = some x → ∀ (H : Heap) (locs : List Loc), va_P D cl (wM cB cI cJ cZ cS iM h0 ad u) H → va_D A (wM cB cI cJ cZ cS iM h0 ad u) → va_S A s.heap H locs → ∀ (ls : Array Slot), lv_has ls 7 [(0, .ref h0), (1, .int v1), (2, .int v2), (3, .int v3), (4, .int v4)] → W p l e R s m args below meth c H locs 0 0 (MQ below (mQi D cl cB cI cJ cZ cS iM h0 ad A x) args s 0 0 A) (F0 m 5 ls [])) ∧ (∀ (u : MS) (v1 : Int32) (v2 : Int32) (v3 : Int32) (v4 : Int32) (v5 : Int32) (v6 : Int32) (x : MS × Int32), G.2 u v1 v2 v3 v4 v5 v6 = some x → ∀ (H : Heap) (locs : List Loc), va_P D cl (wM cB cI cJ cZ cS iM h0 ad u) H → va_D A (wM cB cI cJ cZ cS iM h0 ad u) → va_S A s.heap H locs → ∀ (ls : Array Slot), lv_has ls 7 [(0, .ref h0), (1, .int v1), (2, .int v2), (3, .int v3), (4, .int v4), (5, .int v5), (6, .int v6)] → W p l e R s m args below meth c H locs 0 0 (MQ below (mQi D cl cB cI cJ cZ cS iM h0 ad A x) args s 0 0 A) (F0 m 34 ls []))) : ∀ (u : MS) (v1 : Int32) (v2 : Int32) (v3 : Int32) (v4 : Int32) (v6 : Int32) (t0 : Int32) (x : MS × Int32), fb_M_wordAt_73 N G u v1 v2 v3 v4 v6 t0 = some x → ∀ (H : Heap) (locs : List Loc), va_P D cl (wM cB cI cJ cZ cS iM h0 ad u) H → va_D A (wM cB cI cJ cZ cS iM h0 ad u) → va_S A s.heap H locs → ∀ (ls : Array Slot), lv_has ls 7 [(0, .ref h0), (1, .int v1), (2, .int v2), (3, .int v3), (4, .int v4), (6, .int v6)] → W p l e R s m args below meth c H locs 0 0 (MQ below (mQi D cl cB cI cJ cZ cS iM h0 ad A x) args s 0 0 A) (F0 m 73 ls [.int t0]) := by
  intro u v1 v2 v3 v4 v6 t0 x hf H locs hP hD hS ls hl
  obtain ⟨hx, hb, hr, hml, ht, hown, hM, hK, hA, hlocks⟩ := id C0
  unfold fb_M_wordAt_73 at hf
  refine lv_istore (lv' := [(5, .int t0), (0, .ref h0), (1, .int v1), (2, .int v2), (3, .int v3), (4, .int v4), (6, .int v6)]) hx hb d_M_wordAt_73 hl (by decide) rfl (fun ls hl => ?_)
  refine lv_iinc (v := (v6 + 1)) (lv' := [(6, .int (v6 + 1)), (5, .int t0), (0, .ref h0), (1, .int v1), (2, .int v2), (3, .int v3), (4, .int v4)]) hx hb d_M_wordAt_75 hl (k := 6) rfl rfl (by decide) rfl (fun ls hl => ?_)
  refine lv_goto (tgt := 34) hx hb d_M_wordAt_78 (by decide) ?_
  exact hG.2 _ _ _ _ _ _ _ _ hf H locs hP hD hS ls (lv_sub hl [2, 3, 4, 5, 6, 1, 0] rfl)
def fb_M_wordAt_34 (N : Nat) (G : (MS → Int32 → Int32 → Int32 → Int32 → Option (MS × Int32)) × (MS → Int32 → Int32 → Int32 → Int32 → Int32 → Int32 → Option (MS × Int32))) (u : MS) (v1 : Int32) (v2 : Int32) (v3 : Int32) (v4 : Int32) (v5 : Int32) (v6 : Int32) : Option (MS × Int32) := br (decide (v2 ≤ v6)) (fb_M_wordAt_81 N G u (v1) (v2) (v3) (v4) (v5)) (br (decide (v5 = 0)) (fb_M_wordAt_81 N G u (v1) (v2) (v3) (v4) (v5)) (ck (inb ((v3 + 1) + v6) (ln 0)) (ck (inb (v1 + v6) (ln 4)) (br (decide ((u.2.2.1 0 ((v3 + 1) + v6).toNatClampNeg) = (u.2.2.1 4 (v1 + v6).toNatClampNeg))) (fb_M_wordAt_73 N G u (v1) (v2) (v3) (v4) (v6) (1)) (fb_M_wordAt_73 N G u (v1) (v2) (v3) (v4) (v6) (0))))))
set_option maxRecDepth 100000 in
set_option maxHeartbeats 4000000 in
theorem wb_M_wordAt_34 {p : Program} {l : Launch} {e : Env} {R : Room} {s : State} {m : MethodId} {args : Array Value} {below : List Frame} {meth : Method} {c : Code} {D : va_G} {cl : List vw_C} {cB cI cJ cZ cS : ClassId} {A : Nat → Prop} {iM h0 : Nat} {ad : Nat → Nat} (C0 : MCx p s m args meth c b_M_wordAt 7 (some .int) D cl cB cI cJ cZ cS iM A) (hR : R = rm_M_wordAt) (N : Nat) (G : (MS → Int32 → Int32 → Int32 → Int32 → Option (MS × Int32)) × (MS → Int32 → Int32 → Int32 → Int32 → Int32 → Int32 → Option (MS × Int32))) (hG : (∀ (u : MS) (v1 : Int32) (v2 : Int32) (v3 : Int32) (v4 : Int32) (x : MS × Int32), G.1 u v1 v2 v3 v4 = some x → ∀ (H : Heap) (locs : List Loc), va_P D cl (wM cB cI cJ cZ cS iM h0 ad u) H → va_D A (wM cB cI cJ cZ cS iM h0 ad u) → va_S A s.heap H locs → ∀ (ls : Array Slot), lv_has ls 7 [(0, .ref h0), (1, .int v1), (2, .int v2), (3, .int v3), (4, .int v4)] → W p l e R s m args below meth c H locs 0 0 (MQ below (mQi D cl cB cI cJ cZ cS iM h0 ad A x) args s 0 0 A) (F0 m 5 ls [])) ∧ (∀ (u : MS) (v1 : Int32) (v2 : Int32) (v3 : Int32) (v4 : Int32) (v5 : Int32) (v6 : Int32) (x : MS × Int32), G.2 u v1 v2 v3 v4 v5 v6 = some x → ∀ (H : Heap) (locs : List Loc), va_P D cl (wM cB cI cJ cZ cS iM h0 ad u) H → va_D A (wM cB cI cJ cZ cS iM h0 ad u) → va_S A s.heap H locs → ∀ (ls : Array Slot), lv_has ls 7 [(0, .ref h0), (1, .int v1), (2, .int v2), (3, .int v3), (4, .int v4), (5, .int v5), (6, .int v6)] → W p l e R s m args below meth c H locs 0 0 (MQ below (mQi D cl cB cI cJ cZ cS iM h0 ad A x) args s 0 0 A) (F0 m 34 ls []))) : ∀ (u : MS) (v1 : Int32) (v2 : Int32) (v3 : Int32) (v4 : Int32) (v5 : Int32) (v6 : Int32) (x : MS × Int32), fb_M_wordAt_34 N G u v1 v2 v3 v4 v5 v6 = some x → ∀ (H : Heap) (locs : List Loc), va_P D cl (wM cB cI cJ cZ cS iM h0 ad u) H → va_D A (wM cB cI cJ cZ cS iM h0 ad u) → va_S A s.heap H locs → ∀ (ls : Array Slot), lv_has ls 7 [(0, .ref h0), (1, .int v1), (2, .int v2), (3, .int v3), (4, .int v4), (5, .int v5), (6, .int v6)] → W p l e R s m args below meth c H locs 0 0 (MQ below (mQi D cl cB cI cJ cZ cS iM h0 ad A x) args s 0 0 A) (F0 m 34 ls []) := by
  intro u v1 v2 v3 v4 v5 v6 x hf H locs hP hD hS ls hl
  obtain ⟨hx, hb, hr, hml, ht, hown, hM, hK, hA, hlocks⟩ := id C0
  unfold fb_M_wordAt_34 at hf
  refine lv_iload hx hb d_M_wordAt_34 (lv_at hl 6 rfl) ?_
  refine lv_iload_n hx hb d_M_wordAt_36 rfl (lv_at hl 2 rfl) ?_
  refine lv_icmp_ge (tgt := 81) hx hb d_M_wordAt_37 (by decide) (fun hc => ?_) (fun hc => ?_)
  · rw [br_p _ hc] at hf
    exact wb_M_wordAt_81 C0 hR N G hG _ _ _ _ _ _ _ hf H locs hP hD hS ls (lv_sub hl [0, 1, 2, 3, 4, 5] rfl)
  · rw [br_n _ hc] at hf
    refine lv_iload hx hb d_M_wordAt_40 (lv_at hl 5 rfl) ?_
    refine lv_if_eq (tgt := 81) hx hb d_M_wordAt_42 (by decide) (fun hc => ?_) (fun hc => ?_)
    · rw [br_p _ hc] at hf
      exact wb_M_wordAt_81 C0 hR N G hG _ _ _ _ _ _ _ hf H locs hP hD hS ls (lv_sub hl [0, 1, 2, 3, 4, 5] rfl)
    · rw [br_n _ hc] at hf
      refine lv_aload_n hx hb d_M_wordAt_45 rfl (lv_at hl 0 rfl) ?_
      refine ug_R hx hb ht hown hM hK hP 0 (by decide) lk_M_0 (by decide) d_M_wordAt_46 ?_
      refine lv_iload_n hx hb d_M_wordAt_49 rfl (lv_at hl 3 rfl) ?_
      refine lv_iconst (v := 1) hx hb d_M_wordAt_50 (by decide) ?_
      refine lv_iadd hx hb d_M_wordAt_51 ?_
      refine lv_iload hx hb d_M_wordAt_52 (lv_at hl 6 rfl) ?_
      refine lv_iadd hx hb d_M_wordAt_54 ?_
      obtain ⟨hi9, hf⟩ := ck_some hf
      refine ul_B hx hb hK hP (by decide) (by decide) hi9 d_M_wordAt_55 ?_
      refine lv_aload_n hx hb d_M_wordAt_56 rfl (lv_at hl 0 rfl) ?_
      refine ug_R hx hb ht hown hM hK hP 4 (by decide) lk_M_4 (by decide) d_M_wordAt_57 ?_
      refine lv_iload_n hx hb d_M_wordAt_60 rfl (lv_at hl 1 rfl) ?_
      refine lv_iload hx hb d_M_wordAt_61 (lv_at hl 6 rfl) ?_
      refine lv_iadd hx hb d_M_wordAt_63 ?_
      obtain ⟨hi9, hf⟩ := ck_some hf
      refine ul_B hx hb hK hP (by decide) (by decide) hi9 d_M_wordAt_64 ?_
      refine lv_icmp_ne (tgt := 72) hx hb d_M_wordAt_65 (by decide) (fun hc => ?_) (fun hc => ?_)
      · rw [br_n _ hc] at hf
        refine lv_iconst (v := 0) hx hb d_M_wordAt_72 (by decide) ?_
        exact wb_M_wordAt_73 C0 hR N G hG _ _ _ _ _ _ _ _ hf H locs hP hD hS ls (lv_sub hl [0, 1, 2, 3, 4, 6] rfl)
      · rw [br_p _ hc] at hf
        refine lv_iconst (v := 1) hx hb d_M_wordAt_68 (by decide) ?_
        refine lv_goto (tgt := 73) hx hb d_M_wordAt_69 (by decide) ?_
        exact wb_M_wordAt_73 C0 hR N G hG _ _ _ _ _ _ _ _ hf H locs hP hD hS ls (lv_sub hl [0, 1, 2, 3, 4, 6] rfl)
def fb_M_wordAt_29 (N : Nat) (G : (MS → Int32 → Int32 → Int32 → Int32 → Option (MS × Int32)) × (MS → Int32 → Int32 → Int32 → Int32 → Int32 → Int32 → Option (MS × Int32))) (u : MS) (v1 : Int32) (v2 : Int32) (v3 : Int32) (v4 : Int32) (t0 : Int32) : Option (MS × Int32) := G.2 u (v1) (v2) (v3) (v4) (t0) (0)
set_option maxRecDepth 100000 in
set_option maxHeartbeats 4000000 in
theorem wb_M_wordAt_29 {p : Program} {l : Launch} {e : Env} {R : Room} {s : State} {m : MethodId} {args : Array Value} {below : List Frame} {meth : Method} {c : Code} {D : va_G} {cl : List vw_C} {cB cI cJ cZ cS : ClassId} {A : Nat → Prop} {iM h0 : Nat} {ad : Nat → Nat} (C0 : MCx p s m args meth c b_M_wordAt 7 (some .int) D cl cB cI cJ cZ cS iM A) (hR : R = rm_M_wordAt) (N : Nat) (G : (MS → Int32 → Int32 → Int32 → Int32 → Option (MS × Int32)) × (MS → Int32 → Int32 → Int32 → Int32 → Int32 → Int32 → Option (MS × Int32))) (hG : (∀ (u : MS) (v1 : Int32) (v2 : Int32) (v3 : Int32) (v4 : Int32) (x : MS × Int32), G.1 u v1 v2 v3 v4 = some x → ∀ (H : Heap) (locs : List Loc), va_P D cl (wM cB cI cJ cZ cS iM h0 ad u) H → va_D A (wM cB cI cJ cZ cS iM h0 ad u) → va_S A s.heap H locs → ∀ (ls : Array Slot), lv_has ls 7 [(0, .ref h0), (1, .int v1), (2, .int v2), (3, .int v3), (4, .int v4)] → W p l e R s m args below meth c H locs 0 0 (MQ below (mQi D cl cB cI cJ cZ cS iM h0 ad A x) args s 0 0 A) (F0 m 5 ls [])) ∧ (∀ (u : MS) (v1 : Int32) (v2 : Int32) (v3 : Int32) (v4 : Int32) (v5 : Int32) (v6 : Int32) (x : MS × Int32), G.2 u v1 v2 v3 v4 v5 v6 = some x → ∀ (H : Heap) (locs : List Loc), va_P D cl (wM cB cI cJ cZ cS iM h0 ad u) H → va_D A (wM cB cI cJ cZ cS iM h0 ad u) → va_S A s.heap H locs → ∀ (ls : Array Slot), lv_has ls 7 [(0, .ref h0), (1, .int v1), (2, .int v2), (3, .int v3), (4, .int v4), (5, .int v5), (6, .int v6)] → W p l e R s m args below meth c H locs 0 0 (MQ below (mQi D cl cB cI cJ cZ cS iM h0 ad A x) args s 0 0 A) (F0 m 34 ls []))) : ∀ (u : MS) (v1 : Int32) (v2 : Int32) (v3 : Int32) (v4 : Int32) (t0 : Int32) (x : MS × Int32), fb_M_wordAt_29 N G u v1 v2 v3 v4 t0 = some x → ∀ (H : Heap) (locs : List Loc), va_P D cl (wM cB cI cJ cZ cS iM h0 ad u) H → va_D A (wM cB cI cJ cZ cS iM h0 ad u) → va_S A s.heap H locs → ∀ (ls : Array Slot), lv_has ls 7 [(0, .ref h0), (1, .int v1), (2, .int v2), (3, .int v3), (4, .int v4)] → W p l e R s m args below meth c H locs 0 0 (MQ below (mQi D cl cB cI cJ cZ cS iM h0 ad A x) args s 0 0 A) (F0 m 29 ls [.int t0]) := by
  intro u v1 v2 v3 v4 t0 x hf H locs hP hD hS ls hl
  obtain ⟨hx, hb, hr, hml, ht, hown, hM, hK, hA, hlocks⟩ := id C0
  unfold fb_M_wordAt_29 at hf
  refine lv_istore (lv' := [(5, .int t0), (0, .ref h0), (1, .int v1), (2, .int v2), (3, .int v3), (4, .int v4)]) hx hb d_M_wordAt_29 hl (by decide) rfl (fun ls hl => ?_)
  refine lv_iconst (v := 0) hx hb d_M_wordAt_31 (by decide) ?_
  refine lv_istore (lv' := [(6, .int 0), (5, .int t0), (0, .ref h0), (1, .int v1), (2, .int v2), (3, .int v3), (4, .int v4)]) hx hb d_M_wordAt_32 hl (by decide) rfl (fun ls hl => ?_)
  exact hG.2 _ _ _ _ _ _ _ _ hf H locs hP hD hS ls (lv_sub hl [2, 3, 4, 5, 6, 1, 0] rfl)
def fb_M_wordAt_5 (N : Nat) (G : (MS → Int32 → Int32 → Int32 → Int32 → Option (MS × Int32)) × (MS → Int32 → Int32 → Int32 → Int32 → Int32 → Int32 → Option (MS × Int32))) (u : MS) (v1 : Int32) (v2 : Int32) (v3 : Int32) (v4 : Int32) : Option (MS × Int32) := br (decide ((Int32.ofNat (ln 0)) ≤ v3)) (some (u, (-1))) (ck (inb v3 (ln 0)) (br (decide ((u.2.2.1 0 v3.toNatClampNeg) = v2)) (fb_M_wordAt_29 N G u (v1) (v2) (v3) (v4) (1)) (fb_M_wordAt_29 N G u (v1) (v2) (v3) (v4) (0))))
set_option maxRecDepth 100000 in
set_option maxHeartbeats 4000000 in
theorem wb_M_wordAt_5 {p : Program} {l : Launch} {e : Env} {R : Room} {s : State} {m : MethodId} {args : Array Value} {below : List Frame} {meth : Method} {c : Code} {D : va_G} {cl : List vw_C} {cB cI cJ cZ cS : ClassId} {A : Nat → Prop} {iM h0 : Nat} {ad : Nat → Nat} (C0 : MCx p s m args meth c b_M_wordAt 7 (some .int) D cl cB cI cJ cZ cS iM A) (hR : R = rm_M_wordAt) (N : Nat) (G : (MS → Int32 → Int32 → Int32 → Int32 → Option (MS × Int32)) × (MS → Int32 → Int32 → Int32 → Int32 → Int32 → Int32 → Option (MS × Int32))) (hG : (∀ (u : MS) (v1 : Int32) (v2 : Int32) (v3 : Int32) (v4 : Int32) (x : MS × Int32), G.1 u v1 v2 v3 v4 = some x → ∀ (H : Heap) (locs : List Loc), va_P D cl (wM cB cI cJ cZ cS iM h0 ad u) H → va_D A (wM cB cI cJ cZ cS iM h0 ad u) → va_S A s.heap H locs → ∀ (ls : Array Slot), lv_has ls 7 [(0, .ref h0), (1, .int v1), (2, .int v2), (3, .int v3), (4, .int v4)] → W p l e R s m args below meth c H locs 0 0 (MQ below (mQi D cl cB cI cJ cZ cS iM h0 ad A x) args s 0 0 A) (F0 m 5 ls [])) ∧ (∀ (u : MS) (v1 : Int32) (v2 : Int32) (v3 : Int32) (v4 : Int32) (v5 : Int32) (v6 : Int32) (x : MS × Int32), G.2 u v1 v2 v3 v4 v5 v6 = some x → ∀ (H : Heap) (locs : List Loc), va_P D cl (wM cB cI cJ cZ cS iM h0 ad u) H → va_D A (wM cB cI cJ cZ cS iM h0 ad u) → va_S A s.heap H locs → ∀ (ls : Array Slot), lv_has ls 7 [(0, .ref h0), (1, .int v1), (2, .int v2), (3, .int v3), (4, .int v4), (5, .int v5), (6, .int v6)] → W p l e R s m args below meth c H locs 0 0 (MQ below (mQi D cl cB cI cJ cZ cS iM h0 ad A x) args s 0 0 A) (F0 m 34 ls []))) : ∀ (u : MS) (v1 : Int32) (v2 : Int32) (v3 : Int32) (v4 : Int32) (x : MS × Int32), fb_M_wordAt_5 N G u v1 v2 v3 v4 = some x → ∀ (H : Heap) (locs : List Loc), va_P D cl (wM cB cI cJ cZ cS iM h0 ad u) H → va_D A (wM cB cI cJ cZ cS iM h0 ad u) → va_S A s.heap H locs → ∀ (ls : Array Slot), lv_has ls 7 [(0, .ref h0), (1, .int v1), (2, .int v2), (3, .int v3), (4, .int v4)] → W p l e R s m args below meth c H locs 0 0 (MQ below (mQi D cl cB cI cJ cZ cS iM h0 ad A x) args s 0 0 A) (F0 m 5 ls []) := by
  intro u v1 v2 v3 v4 x hf H locs hP hD hS ls hl
  obtain ⟨hx, hb, hr, hml, ht, hown, hM, hK, hA, hlocks⟩ := id C0
  unfold fb_M_wordAt_5 at hf
  refine lv_iload_n hx hb d_M_wordAt_5 rfl (lv_at hl 3 rfl) ?_
  refine lv_aload_n hx hb d_M_wordAt_6 rfl (lv_at hl 0 rfl) ?_
  refine ug_R hx hb ht hown hM hK hP 0 (by decide) lk_M_0 (by decide) d_M_wordAt_7 ?_
  refine un_A hx hb hK hP (k := 0) (by decide) (by decide) d_M_wordAt_10 ?_
  refine lv_icmp_ge (tgt := 106) hx hb d_M_wordAt_11 (by decide) (fun hc => ?_) (fun hc => ?_)
  · rw [br_p _ hc] at hf
    refine lv_iconst (v := (-1)) hx hb d_M_wordAt_106 (by decide) ?_
    exact mr_i C0 hP hD hS hf d_M_wordAt_107
  · rw [br_n _ hc] at hf
    refine lv_aload_n hx hb d_M_wordAt_14 rfl (lv_at hl 0 rfl) ?_
    refine ug_R hx hb ht hown hM hK hP 0 (by decide) lk_M_0 (by decide) d_M_wordAt_15 ?_
    refine lv_iload_n hx hb d_M_wordAt_18 rfl (lv_at hl 3 rfl) ?_
    obtain ⟨hi9, hf⟩ := ck_some hf
    refine ul_B hx hb hK hP (by decide) (by decide) hi9 d_M_wordAt_19 ?_
    refine lv_iload_n hx hb d_M_wordAt_20 rfl (lv_at hl 2 rfl) ?_
    refine lv_icmp_ne (tgt := 28) hx hb d_M_wordAt_21 (by decide) (fun hc => ?_) (fun hc => ?_)
    · rw [br_n _ hc] at hf
      refine lv_iconst (v := 0) hx hb d_M_wordAt_28 (by decide) ?_
      exact wb_M_wordAt_29 C0 hR N G hG _ _ _ _ _ _ _ hf H locs hP hD hS ls (lv_sub hl [0, 1, 2, 3, 4] rfl)
    · rw [br_p _ hc] at hf
      refine lv_iconst (v := 1) hx hb d_M_wordAt_24 (by decide) ?_
      refine lv_goto (tgt := 29) hx hb d_M_wordAt_25 (by decide) ?_
      exact wb_M_wordAt_29 C0 hR N G hG _ _ _ _ _ _ _ hf H locs hP hD hS ls (lv_sub hl [0, 1, 2, 3, 4] rfl)
def fb_M_wordAt_0 (N : Nat) (G : (MS → Int32 → Int32 → Int32 → Int32 → Option (MS × Int32)) × (MS → Int32 → Int32 → Int32 → Int32 → Int32 → Int32 → Option (MS × Int32))) (u : MS) (v1 : Int32) (v2 : Int32) : Option (MS × Int32) := G.1 u (v1) (v2) (0) (0)
set_option maxRecDepth 100000 in
set_option maxHeartbeats 4000000 in
theorem wb_M_wordAt_0 {p : Program} {l : Launch} {e : Env} {R : Room} {s : State} {m : MethodId} {args : Array Value} {below : List Frame} {meth : Method} {c : Code} {D : va_G} {cl : List vw_C} {cB cI cJ cZ cS : ClassId} {A : Nat → Prop} {iM h0 : Nat} {ad : Nat → Nat} (C0 : MCx p s m args meth c b_M_wordAt 7 (some .int) D cl cB cI cJ cZ cS iM A) (hR : R = rm_M_wordAt) (N : Nat) (G : (MS → Int32 → Int32 → Int32 → Int32 → Option (MS × Int32)) × (MS → Int32 → Int32 → Int32 → Int32 → Int32 → Int32 → Option (MS × Int32))) (hG : (∀ (u : MS) (v1 : Int32) (v2 : Int32) (v3 : Int32) (v4 : Int32) (x : MS × Int32), G.1 u v1 v2 v3 v4 = some x → ∀ (H : Heap) (locs : List Loc), va_P D cl (wM cB cI cJ cZ cS iM h0 ad u) H → va_D A (wM cB cI cJ cZ cS iM h0 ad u) → va_S A s.heap H locs → ∀ (ls : Array Slot), lv_has ls 7 [(0, .ref h0), (1, .int v1), (2, .int v2), (3, .int v3), (4, .int v4)] → W p l e R s m args below meth c H locs 0 0 (MQ below (mQi D cl cB cI cJ cZ cS iM h0 ad A x) args s 0 0 A) (F0 m 5 ls [])) ∧ (∀ (u : MS) (v1 : Int32) (v2 : Int32) (v3 : Int32) (v4 : Int32) (v5 : Int32) (v6 : Int32) (x : MS × Int32), G.2 u v1 v2 v3 v4 v5 v6 = some x → ∀ (H : Heap) (locs : List Loc), va_P D cl (wM cB cI cJ cZ cS iM h0 ad u) H → va_D A (wM cB cI cJ cZ cS iM h0 ad u) → va_S A s.heap H locs → ∀ (ls : Array Slot), lv_has ls 7 [(0, .ref h0), (1, .int v1), (2, .int v2), (3, .int v3), (4, .int v4), (5, .int v5), (6, .int v6)] → W p l e R s m args below meth c H locs 0 0 (MQ below (mQi D cl cB cI cJ cZ cS iM h0 ad A x) args s 0 0 A) (F0 m 34 ls []))) : ∀ (u : MS) (v1 : Int32) (v2 : Int32) (x : MS × Int32), fb_M_wordAt_0 N G u v1 v2 = some x → ∀ (H : Heap) (locs : List Loc), va_P D cl (wM cB cI cJ cZ cS iM h0 ad u) H → va_D A (wM cB cI cJ cZ cS iM h0 ad u) → va_S A s.heap H locs → ∀ (ls : Array Slot), lv_has ls 7 [(0, .ref h0), (1, .int v1), (2, .int v2)] → W p l e R s m args below meth c H locs 0 0 (MQ below (mQi D cl cB cI cJ cZ cS iM h0 ad A x) args s 0 0 A) (F0 m 0 ls []) := by
  intro u v1 v2 x hf H locs hP hD hS ls hl
  obtain ⟨hx, hb, hr, hml, ht, hown, hM, hK, hA, hlocks⟩ := id C0
  unfold fb_M_wordAt_0 at hf
  refine lv_iconst (v := 0) hx hb d_M_wordAt_0 (by decide) ?_
  refine lv_istore_n (lv' := [(3, .int 0), (0, .ref h0), (1, .int v1), (2, .int v2)]) hx hb d_M_wordAt_1 rfl hl (by decide) rfl (fun ls hl => ?_)
  refine lv_iconst (v := 0) hx hb d_M_wordAt_2 (by decide) ?_
  refine lv_istore (lv' := [(4, .int 0), (3, .int 0), (0, .ref h0), (1, .int v1), (2, .int v2)]) hx hb d_M_wordAt_3 hl (by decide) rfl (fun ls hl => ?_)
  exact hG.1 _ _ _ _ _ _ hf H locs hP hD hS ls (lv_sub hl [2, 3, 4, 1, 0] rfl)
def gg_M_wordAt (N : Nat) : Nat → ((MS → Int32 → Int32 → Int32 → Int32 → Option (MS × Int32)) × (MS → Int32 → Int32 → Int32 → Int32 → Int32 → Int32 → Option (MS × Int32)))
  | 0 => (fun _ _ _ _ _ => none, fun _ _ _ _ _ _ _ => none)
  | n + 1 => (fb_M_wordAt_5 N (gg_M_wordAt N n), fb_M_wordAt_34 N (gg_M_wordAt N n))
theorem wg_M_wordAt {p : Program} {l : Launch} {e : Env} {R : Room} {s : State} {m : MethodId} {args : Array Value} {below : List Frame} {meth : Method} {c : Code} {D : va_G} {cl : List vw_C} {cB cI cJ cZ cS : ClassId} {A : Nat → Prop} {iM h0 : Nat} {ad : Nat → Nat} (C0 : MCx p s m args meth c b_M_wordAt 7 (some .int) D cl cB cI cJ cZ cS iM A) (hR : R = rm_M_wordAt) (N : Nat) : ∀ n : Nat, (∀ (u : MS) (v1 : Int32) (v2 : Int32) (v3 : Int32) (v4 : Int32) (x : MS × Int32), (gg_M_wordAt N n).1 u v1 v2 v3 v4 = some x → ∀ (H : Heap) (locs : List Loc), va_P D cl (wM cB cI cJ cZ cS iM h0 ad u) H → va_D A (wM cB cI cJ cZ cS iM h0 ad u) → va_S A s.heap H locs → ∀ (ls : Array Slot), lv_has ls 7 [(0, .ref h0), (1, .int v1), (2, .int v2), (3, .int v3), (4, .int v4)] → W p l e R s m args below meth c H locs 0 0 (MQ below (mQi D cl cB cI cJ cZ cS iM h0 ad A x) args s 0 0 A) (F0 m 5 ls [])) ∧ (∀ (u : MS) (v1 : Int32) (v2 : Int32) (v3 : Int32) (v4 : Int32) (v5 : Int32) (v6 : Int32) (x : MS × Int32), (gg_M_wordAt N n).2 u v1 v2 v3 v4 v5 v6 = some x → ∀ (H : Heap) (locs : List Loc), va_P D cl (wM cB cI cJ cZ cS iM h0 ad u) H → va_D A (wM cB cI cJ cZ cS iM h0 ad u) → va_S A s.heap H locs → ∀ (ls : Array Slot), lv_has ls 7 [(0, .ref h0), (1, .int v1), (2, .int v2), (3, .int v3), (4, .int v4), (5, .int v5), (6, .int v6)] → W p l e R s m args below meth c H locs 0 0 (MQ below (mQi D cl cB cI cJ cZ cS iM h0 ad A x) args s 0 0 A) (F0 m 34 ls []))
  | 0 => ⟨(fun u v1 v2 v3 v4 x hf => by cases hf), (fun u v1 v2 v3 v4 v5 v6 x hf => by cases hf)⟩
  | n + 1 => ⟨wb_M_wordAt_5 C0 hR N (gg_M_wordAt N n) (wg_M_wordAt C0 hR N n), wb_M_wordAt_34 C0 hR N (gg_M_wordAt N n) (wg_M_wordAt C0 hR N n)⟩
def fm_M_wordAt (N : Nat) (u : MS) (v1 : Int32) (v2 : Int32) : Option (MS × Int32) := fb_M_wordAt_0 N (gg_M_wordAt N N) u v1 v2
set_option maxRecDepth 100000 in
set_option maxHeartbeats 4000000 in
theorem c_M_wordAt (N : Nat) {l : Launch} {D : va_G} {cl : List vw_C} {cB cI cJ cZ cS : ClassId} {iM h0 : Nat} {ad : Nat → Nat} {u : MS} {sz : Nat} {v1 : Int32} {v2 : Int32} {x : MS × Int32} (hM : cl[iM]? = some (R_M, F_M, 171)) (hf : fm_M_wordAt N u v1 v2 = some x) : Met l y_M_wordAt (wd_ws y_M_wordAt b_M_wordAt 7 (some .int)) rm_M_wordAt (mPc D cl cB cI cJ cZ cS iM h0 ad u sz [.ref h0, .int v1, .int v2]) (mQi D cl cB cI cJ cZ cS iM h0 ad (mA cB cI cJ cZ cS iM h0 ad u sz) x) 0 0 (mA cB cI cJ cZ cS iM h0 ad u sz) :=
  mMet (by decide) rfl hM (Nat.le_of_ble_eq_true rfl) (fun p e s m below meth c ls hsz C0 hP hD hS hl => by
    have hR : rm_M_wordAt = rm_M_wordAt := rfl
    exact wb_M_wordAt_0 C0 hR N (gg_M_wordAt N N) (wg_M_wordAt C0 hR N N) u _ _ x hf s.heap [] hP hD hS ls (lv_sub hl [0, 1, 2] rfl))
abbrev b_M_token : ByteArray := prog_14_method_14_code
def y_M_token : MethodName := ⟨R_M, "token", "(II)V"⟩
def w_M_token : List Cond := wd_ws y_M_token b_M_token 3 none
set_option maxRecDepth 100000 in
theorem k_M_token : Cond.code y_M_token b_M_token 3 none ∈ wd_tbl := wd_of 2676 rfl rfl
theorem d_M_token_0 : decode b_M_token 0 = .ok (.aload_n 0, 1) := by decide +kernel
theorem d_M_token_1 : decode b_M_token 1 = .ok (.getfield 22, 3) := by decide +kernel
theorem d_M_token_4 : decode b_M_token 4 = .ok (.aload_n 0, 1) := by decide +kernel
theorem d_M_token_5 : decode b_M_token 5 = .ok (.getfield 402, 3) := by decide +kernel
theorem d_M_token_8 : decode b_M_token 8 = .ok (.iload_n 1, 1) := by decide +kernel
theorem d_M_token_9 : decode b_M_token 9 = .ok (.i2b, 1) := by decide +kernel
theorem d_M_token_10 : decode b_M_token 10 = .ok (.bastore, 1) := by decide +kernel
theorem d_M_token_11 : decode b_M_token 11 = .ok (.aload_n 0, 1) := by decide +kernel
theorem d_M_token_12 : decode b_M_token 12 = .ok (.getfield 25, 3) := by decide +kernel
theorem d_M_token_15 : decode b_M_token 15 = .ok (.aload_n 0, 1) := by decide +kernel
theorem d_M_token_16 : decode b_M_token 16 = .ok (.getfield 402, 3) := by decide +kernel
theorem d_M_token_19 : decode b_M_token 19 = .ok (.iload_n 2, 1) := by decide +kernel
theorem d_M_token_20 : decode b_M_token 20 = .ok (.iastore, 1) := by decide +kernel
theorem d_M_token_21 : decode b_M_token 21 = .ok (.aload_n 0, 1) := by decide +kernel
theorem d_M_token_22 : decode b_M_token 22 = .ok (.getfield 29, 3) := by decide +kernel
theorem d_M_token_25 : decode b_M_token 25 = .ok (.aload_n 0, 1) := by decide +kernel
theorem d_M_token_26 : decode b_M_token 26 = .ok (.getfield 402, 3) := by decide +kernel
theorem d_M_token_29 : decode b_M_token 29 = .ok (.aload_n 0, 1) := by decide +kernel
theorem d_M_token_30 : decode b_M_token 30 = .ok (.getfield 405, 3) := by decide +kernel
theorem d_M_token_33 : decode b_M_token 33 = .ok (.iastore, 1) := by decide +kernel
theorem d_M_token_34 : decode b_M_token 34 = .ok (.aload_n 0, 1) := by decide +kernel
theorem d_M_token_35 : decode b_M_token 35 = .ok (.dup, 1) := by decide +kernel
theorem d_M_token_36 : decode b_M_token 36 = .ok (.getfield 402, 3) := by decide +kernel
theorem d_M_token_39 : decode b_M_token 39 = .ok (.iconst 1, 1) := by decide +kernel
theorem d_M_token_40 : decode b_M_token 40 = .ok (.iadd, 1) := by decide +kernel
theorem d_M_token_41 : decode b_M_token 41 = .ok (.putfield 402, 3) := by decide +kernel
theorem d_M_token_44 : decode b_M_token 44 = .ok (.return_, 1) := by decide +kernel
set_option maxRecDepth 100000 in
theorem hl_M_token : Cond.methodLink R_M 431 y_M_token ∈ wd_tbl := wd_of 2673 (by decide +kernel) rfl
set_option maxRecDepth 100000 in
theorem hi_M_token : Cond.instanceMethod y_M_token ∈ wd_tbl := wd_of 2675 (by decide +kernel) rfl
set_option maxRecDepth 100000 in
theorem hs_M_token : Cond.selects R_M y_M_token y_M_token ∈ wd_tbl := wd_of 133 (by decide +kernel) rfl
theorem hd_M_token : y_M_token.cls = R_M ∧ y_M_token.cls ≠ "java/lang/invoke/MethodHandle" ∧ y_M_token.cls ≠ "java/lang/invoke/VarHandle" ∧ (parseMethodDescriptor y_M_token.desc).map (fun d => d.parameters.length) = some 2 := by decide +kernel
def rm_M_token : Room := { frames := 0, cells := 0, slots := 0, locals := 0 }
def fb_M_token_0 (N : Nat) (G : Unit) (u : MS) (v1 : Int32) (v2 : Int32) : Option (MS × Unit) := ck (inb (u.1 9) (ln 6)) (lt (upA u 6 (upd (u.2.2.1 6) (u.1 9).toNatClampNeg (vp_nar .byte (v1.toInt8.toInt32)))) (fun w1 => ck (inb (w1.1 9) (ln 7)) (lt (upA w1 7 (upd (w1.2.2.1 7) (w1.1 9).toNatClampNeg v2)) (fun w2 => ck (inb (w2.1 9) (ln 8)) (lt (upA w2 8 (upd (w2.2.2.1 8) (w2.1 9).toNatClampNeg (w2.1 11))) (fun w3 => lt (upI w3 9 ((w3.1 9) + 1)) (fun w4 => some (w4, ()))))))))
set_option maxRecDepth 100000 in
set_option maxHeartbeats 4000000 in
theorem wb_M_token_0 {p : Program} {l : Launch} {e : Env} {R : Room} {s : State} {m : MethodId} {args : Array Value} {below : List Frame} {meth : Method} {c : Code} {D : va_G} {cl : List vw_C} {cB cI cJ cZ cS : ClassId} {A : Nat → Prop} {iM h0 : Nat} {ad : Nat → Nat} (C0 : MCx p s m args meth c b_M_token 3 none D cl cB cI cJ cZ cS iM A) (hR : R = rm_M_token) (N : Nat) (G : Unit) (hG : True) : ∀ (u : MS) (v1 : Int32) (v2 : Int32) (x : MS × Unit), fb_M_token_0 N G u v1 v2 = some x → ∀ (H : Heap) (locs : List Loc), va_P D cl (wM cB cI cJ cZ cS iM h0 ad u) H → va_D A (wM cB cI cJ cZ cS iM h0 ad u) → va_S A s.heap H locs → ∀ (ls : Array Slot), lv_has ls 3 [(0, .ref h0), (1, .int v1), (2, .int v2)] → W p l e R s m args below meth c H locs 0 0 (MQ below (mQv D cl cB cI cJ cZ cS iM h0 ad A x) args s 0 0 A) (F0 m 0 ls []) := by
  intro u v1 v2 x hf H locs hP hD hS ls hl
  obtain ⟨hx, hb, hr, hml, ht, hown, hM, hK, hA, hlocks⟩ := id C0
  unfold fb_M_token_0 at hf
  refine lv_aload_n hx hb d_M_token_0 rfl (lv_at hl 0 rfl) ?_
  refine ug_R hx hb ht hown hM hK hP 6 (by decide) lk_M_6 (by decide) d_M_token_1 ?_
  refine lv_aload_n hx hb d_M_token_4 rfl (lv_at hl 0 rfl) ?_
  refine ug_I hx hb ht hown hM hK hP 9 (by decide) lk_M_9 (by decide) d_M_token_5 ?_
  refine lv_iload_n hx hb d_M_token_8 rfl (lv_at hl 1 rfl) ?_
  refine lv_i2b hx hb d_M_token_9 rfl ?_
  obtain ⟨hi9, hf⟩ := ck_some hf
  refine us_B hx hb hK hP hD hS (by decide) (by decide) hi9 d_M_token_10 (fun H locs hP hD hS => ?_)
  obtain ⟨w1, e1, hf⟩ := lt_some hf
  rw [← e1] at hP hD
  refine lv_aload_n hx hb d_M_token_11 rfl (lv_at hl 0 rfl) ?_
  refine ug_R hx hb ht hown hM hK hP 7 (by decide) lk_M_7 (by decide) d_M_token_12 ?_
  refine lv_aload_n hx hb d_M_token_15 rfl (lv_at hl 0 rfl) ?_
  refine ug_I hx hb ht hown hM hK hP 9 (by decide) lk_M_9 (by decide) d_M_token_16 ?_
  refine lv_iload_n hx hb d_M_token_19 rfl (lv_at hl 2 rfl) ?_
  obtain ⟨hi9, hf⟩ := ck_some hf
  refine us_I hx hb hK hP hD hS (by decide) (by decide) hi9 d_M_token_20 (fun H locs hP hD hS => ?_)
  obtain ⟨w2, e2, hf⟩ := lt_some hf
  rw [← e2] at hP hD
  refine lv_aload_n hx hb d_M_token_21 rfl (lv_at hl 0 rfl) ?_
  refine ug_R hx hb ht hown hM hK hP 8 (by decide) lk_M_8 (by decide) d_M_token_22 ?_
  refine lv_aload_n hx hb d_M_token_25 rfl (lv_at hl 0 rfl) ?_
  refine ug_I hx hb ht hown hM hK hP 9 (by decide) lk_M_9 (by decide) d_M_token_26 ?_
  refine lv_aload_n hx hb d_M_token_29 rfl (lv_at hl 0 rfl) ?_
  refine ug_I hx hb ht hown hM hK hP 11 (by decide) lk_M_11 (by decide) d_M_token_30 ?_
  obtain ⟨hi9, hf⟩ := ck_some hf
  refine us_I hx hb hK hP hD hS (by decide) (by decide) hi9 d_M_token_33 (fun H locs hP hD hS => ?_)
  obtain ⟨w3, e3, hf⟩ := lt_some hf
  rw [← e3] at hP hD
  refine lv_aload_n hx hb d_M_token_34 rfl (lv_at hl 0 rfl) ?_
  refine lv_dup hx hb d_M_token_35 rfl ?_
  refine ug_I hx hb ht hown hM hK hP 9 (by decide) lk_M_9 (by decide) d_M_token_36 ?_
  refine lv_iconst (v := 1) hx hb d_M_token_39 (by decide) ?_
  refine lv_iadd hx hb d_M_token_40 ?_
  refine up_I hx hb ht hown hM hK hP hD hS 9 (by decide) lk_M_9 (by decide) rfl rfl rfl d_M_token_41 (fun H locs hP hD hS => ?_)
  obtain ⟨w4, e4, hf⟩ := lt_some hf
  rw [← e4] at hP hD
  exact mr_v C0 hP hD hS hf d_M_token_44
def fm_M_token (N : Nat) (u : MS) (v1 : Int32) (v2 : Int32) : Option (MS × Unit) := fb_M_token_0 N () u v1 v2
set_option maxRecDepth 100000 in
set_option maxHeartbeats 4000000 in
theorem c_M_token (N : Nat) {l : Launch} {D : va_G} {cl : List vw_C} {cB cI cJ cZ cS : ClassId} {iM h0 : Nat} {ad : Nat → Nat} {u : MS} {sz : Nat} {v1 : Int32} {v2 : Int32} {x : MS × Unit} (hM : cl[iM]? = some (R_M, F_M, 171)) (hf : fm_M_token N u v1 v2 = some x) : Met l y_M_token (wd_ws y_M_token b_M_token 3 none) rm_M_token (mPc D cl cB cI cJ cZ cS iM h0 ad u sz [.ref h0, .int v1, .int v2]) (mQv D cl cB cI cJ cZ cS iM h0 ad (mA cB cI cJ cZ cS iM h0 ad u sz) x) 0 0 (mA cB cI cJ cZ cS iM h0 ad u sz) :=
  mMet (by decide) rfl hM (Nat.le_of_ble_eq_true rfl) (fun p e s m below meth c ls hsz C0 hP hD hS hl => by
    have hR : rm_M_token = rm_M_token := rfl
    exact wb_M_token_0 C0 hR N () trivial u _ _ x hf s.heap [] hP hD hS ls (lv_sub hl [0, 1, 2] rfl))
abbrev b_M_wordToken : ByteArray := prog_14_method_16_code
def y_M_wordToken : MethodName := ⟨R_M, "wordToken", "(I)V"⟩
def w_M_wordToken : List Cond := wd_ws y_M_wordToken b_M_wordToken 5 none
set_option maxRecDepth 100000 in
theorem k_M_wordToken : Cond.code y_M_wordToken b_M_wordToken 5 none ∈ wd_tbl := wd_of 2662 rfl rfl
theorem d_M_wordToken_0 : decode b_M_wordToken 0 = .ok (.iconst 0, 1) := by decide +kernel
theorem d_M_wordToken_1 : decode b_M_wordToken 1 = .ok (.istore_n 2, 1) := by decide +kernel
theorem d_M_wordToken_2 : decode b_M_wordToken 2 = .ok (.aload_n 0, 1) := by decide +kernel
theorem d_M_wordToken_3 : decode b_M_wordToken 3 = .ok (.aload_n 0, 1) := by decide +kernel
theorem d_M_wordToken_4 : decode b_M_wordToken 4 = .ok (.getfield 408, 3) := by decide +kernel
theorem d_M_wordToken_7 : decode b_M_wordToken 7 = .ok (.iload_n 2, 1) := by decide +kernel
theorem d_M_wordToken_8 : decode b_M_wordToken 8 = .ok (.iadd, 1) := by decide +kernel
theorem d_M_wordToken_9 : decode b_M_wordToken 9 = .ok (.invokevirtual 414, 3) := by decide +kernel
theorem d_M_wordToken_12 : decode b_M_wordToken 12 = .ok (.invokestatic 435, 3) := by decide +kernel
theorem d_M_wordToken_15 : decode b_M_wordToken 15 = .ok (.ifCond .eq 9, 3) := by decide +kernel
theorem d_M_wordToken_18 : decode b_M_wordToken 18 = .ok (.iinc 2 1, 3) := by decide +kernel
theorem d_M_wordToken_21 : decode b_M_wordToken 21 = .ok (.goto (-19), 3) := by decide +kernel
theorem d_M_wordToken_24 : decode b_M_wordToken 24 = .ok (.aload_n 0, 1) := by decide +kernel
theorem d_M_wordToken_25 : decode b_M_wordToken 25 = .ok (.aload_n 0, 1) := by decide +kernel
theorem d_M_wordToken_26 : decode b_M_wordToken 26 = .ok (.getfield 408, 3) := by decide +kernel
theorem d_M_wordToken_29 : decode b_M_wordToken 29 = .ok (.iload_n 2, 1) := by decide +kernel
theorem d_M_wordToken_30 : decode b_M_wordToken 30 = .ok (.invokevirtual 438, 3) := by decide +kernel
theorem d_M_wordToken_33 : decode b_M_wordToken 33 = .ok (.istore_n 3, 1) := by decide +kernel
theorem d_M_wordToken_34 : decode b_M_wordToken 34 = .ok (.iload_n 3, 1) := by decide +kernel
theorem d_M_wordToken_35 : decode b_M_wordToken 35 = .ok (.iconst (-1), 1) := by decide +kernel
theorem d_M_wordToken_36 : decode b_M_wordToken 36 = .ok (.if_icmp .eq 12, 3) := by decide +kernel
theorem d_M_wordToken_39 : decode b_M_wordToken 39 = .ok (.aload_n 0, 1) := by decide +kernel
theorem d_M_wordToken_40 : decode b_M_wordToken 40 = .ok (.iconst 3, 1) := by decide +kernel
theorem d_M_wordToken_41 : decode b_M_wordToken 41 = .ok (.iload_n 3, 1) := by decide +kernel
theorem d_M_wordToken_42 : decode b_M_wordToken 42 = .ok (.invokevirtual 431, 3) := by decide +kernel
theorem d_M_wordToken_45 : decode b_M_wordToken 45 = .ok (.goto 106, 3) := by decide +kernel
theorem d_M_wordToken_48 : decode b_M_wordToken 48 = .ok (.iload_n 2, 1) := by decide +kernel
theorem d_M_wordToken_49 : decode b_M_wordToken 49 = .ok (.bipush 16, 2) := by decide +kernel
theorem d_M_wordToken_51 : decode b_M_wordToken 51 = .ok (.if_icmp .le 13, 3) := by decide +kernel
theorem d_M_wordToken_54 : decode b_M_wordToken 54 = .ok (.aload_n 0, 1) := by decide +kernel
theorem d_M_wordToken_55 : decode b_M_wordToken 55 = .ok (.bipush 7, 2) := by decide +kernel
theorem d_M_wordToken_57 : decode b_M_wordToken 57 = .ok (.iconst 0, 1) := by decide +kernel
theorem d_M_wordToken_58 : decode b_M_wordToken 58 = .ok (.invokevirtual 431, 3) := by decide +kernel
theorem d_M_wordToken_61 : decode b_M_wordToken 61 = .ok (.goto 90, 3) := by decide +kernel
theorem d_M_wordToken_64 : decode b_M_wordToken 64 = .ok (.iload_n 1, 1) := by decide +kernel
theorem d_M_wordToken_65 : decode b_M_wordToken 65 = .ok (.invokestatic 375, 3) := by decide +kernel
theorem d_M_wordToken_68 : decode b_M_wordToken 68 = .ok (.ifCond .eq 24, 3) := by decide +kernel
theorem d_M_wordToken_71 : decode b_M_wordToken 71 = .ok (.aload_n 0, 1) := by decide +kernel
theorem d_M_wordToken_72 : decode b_M_wordToken 72 = .ok (.iconst 1, 1) := by decide +kernel
theorem d_M_wordToken_73 : decode b_M_wordToken 73 = .ok (.aload_n 0, 1) := by decide +kernel
theorem d_M_wordToken_74 : decode b_M_wordToken 74 = .ok (.aload_n 0, 1) := by decide +kernel
theorem d_M_wordToken_75 : decode b_M_wordToken 75 = .ok (.getfield 19, 3) := by decide +kernel
theorem d_M_wordToken_78 : decode b_M_wordToken 78 = .ok (.aload_n 0, 1) := by decide +kernel
theorem d_M_wordToken_79 : decode b_M_wordToken 79 = .ok (.getfield 408, 3) := by decide +kernel
theorem d_M_wordToken_82 : decode b_M_wordToken 82 = .ok (.iload_n 2, 1) := by decide +kernel
theorem d_M_wordToken_83 : decode b_M_wordToken 83 = .ok (.invokevirtual 398, 3) := by decide +kernel
theorem d_M_wordToken_86 : decode b_M_wordToken 86 = .ok (.invokevirtual 431, 3) := by decide +kernel
theorem d_M_wordToken_89 : decode b_M_wordToken 89 = .ok (.goto 62, 3) := by decide +kernel
theorem d_M_wordToken_92 : decode b_M_wordToken 92 = .ok (.aload_n 0, 1) := by decide +kernel
theorem d_M_wordToken_93 : decode b_M_wordToken 93 = .ok (.getfield 38, 3) := by decide +kernel
theorem d_M_wordToken_96 : decode b_M_wordToken 96 = .ok (.aload_n 0, 1) := by decide +kernel
theorem d_M_wordToken_97 : decode b_M_wordToken 97 = .ok (.getfield 41, 3) := by decide +kernel
theorem d_M_wordToken_100 : decode b_M_wordToken 100 = .ok (.aload_n 0, 1) := by decide +kernel
theorem d_M_wordToken_101 : decode b_M_wordToken 101 = .ok (.getfield 392, 3) := by decide +kernel
theorem d_M_wordToken_104 : decode b_M_wordToken 104 = .ok (.aload_n 0, 1) := by decide +kernel
theorem d_M_wordToken_105 : decode b_M_wordToken 105 = .ok (.getfield 19, 3) := by decide +kernel
theorem d_M_wordToken_108 : decode b_M_wordToken 108 = .ok (.aload_n 0, 1) := by decide +kernel
theorem d_M_wordToken_109 : decode b_M_wordToken 109 = .ok (.getfield 408, 3) := by decide +kernel
theorem d_M_wordToken_112 : decode b_M_wordToken 112 = .ok (.iload_n 2, 1) := by decide +kernel
theorem d_M_wordToken_113 : decode b_M_wordToken 113 = .ok (.invokestatic 388, 3) := by decide +kernel
theorem d_M_wordToken_116 : decode b_M_wordToken 116 = .ok (.istore 4, 2) := by decide +kernel
theorem d_M_wordToken_118 : decode b_M_wordToken 118 = .ok (.aload_n 0, 1) := by decide +kernel
theorem d_M_wordToken_119 : decode b_M_wordToken 119 = .ok (.iload 4, 2) := by decide +kernel
theorem d_M_wordToken_121 : decode b_M_wordToken 121 = .ok (.aload_n 0, 1) := by decide +kernel
theorem d_M_wordToken_122 : decode b_M_wordToken 122 = .ok (.getfield 392, 3) := by decide +kernel
theorem d_M_wordToken_125 : decode b_M_wordToken 125 = .ok (.if_icmp .ne 12, 3) := by decide +kernel
theorem d_M_wordToken_128 : decode b_M_wordToken 128 = .ok (.aload_n 0, 1) := by decide +kernel
theorem d_M_wordToken_129 : decode b_M_wordToken 129 = .ok (.getfield 392, 3) := by decide +kernel
theorem d_M_wordToken_132 : decode b_M_wordToken 132 = .ok (.iconst 1, 1) := by decide +kernel
theorem d_M_wordToken_133 : decode b_M_wordToken 133 = .ok (.iadd, 1) := by decide +kernel
theorem d_M_wordToken_134 : decode b_M_wordToken 134 = .ok (.goto 7, 3) := by decide +kernel
theorem d_M_wordToken_137 : decode b_M_wordToken 137 = .ok (.aload_n 0, 1) := by decide +kernel
theorem d_M_wordToken_138 : decode b_M_wordToken 138 = .ok (.getfield 392, 3) := by decide +kernel
theorem d_M_wordToken_141 : decode b_M_wordToken 141 = .ok (.putfield 392, 3) := by decide +kernel
theorem d_M_wordToken_144 : decode b_M_wordToken 144 = .ok (.aload_n 0, 1) := by decide +kernel
theorem d_M_wordToken_145 : decode b_M_wordToken 145 = .ok (.iconst 2, 1) := by decide +kernel
theorem d_M_wordToken_146 : decode b_M_wordToken 146 = .ok (.iload 4, 2) := by decide +kernel
theorem d_M_wordToken_148 : decode b_M_wordToken 148 = .ok (.invokevirtual 431, 3) := by decide +kernel
theorem d_M_wordToken_151 : decode b_M_wordToken 151 = .ok (.aload_n 0, 1) := by decide +kernel
theorem d_M_wordToken_152 : decode b_M_wordToken 152 = .ok (.dup, 1) := by decide +kernel
theorem d_M_wordToken_153 : decode b_M_wordToken 153 = .ok (.getfield 408, 3) := by decide +kernel
theorem d_M_wordToken_156 : decode b_M_wordToken 156 = .ok (.iload_n 2, 1) := by decide +kernel
theorem d_M_wordToken_157 : decode b_M_wordToken 157 = .ok (.iadd, 1) := by decide +kernel
theorem d_M_wordToken_158 : decode b_M_wordToken 158 = .ok (.putfield 408, 3) := by decide +kernel
theorem d_M_wordToken_161 : decode b_M_wordToken 161 = .ok (.return_, 1) := by decide +kernel
set_option maxRecDepth 100000 in
theorem hl_M_wordToken : Cond.methodLink R_M 418 y_M_wordToken ∈ wd_tbl := wd_of 2659 (by decide +kernel) rfl
set_option maxRecDepth 100000 in
theorem hi_M_wordToken : Cond.instanceMethod y_M_wordToken ∈ wd_tbl := wd_of 2661 (by decide +kernel) rfl
set_option maxRecDepth 100000 in
theorem hs_M_wordToken : Cond.selects R_M y_M_wordToken y_M_wordToken ∈ wd_tbl := wd_of 131 (by decide +kernel) rfl
theorem hd_M_wordToken : y_M_wordToken.cls = R_M ∧ y_M_wordToken.cls ≠ "java/lang/invoke/MethodHandle" ∧ y_M_wordToken.cls ≠ "java/lang/invoke/VarHandle" ∧ (parseMethodDescriptor y_M_wordToken.desc).map (fun d => d.parameters.length) = some 1 := by decide +kernel
def rm_M_wordToken : Room := { frames := 2, cells := 0, slots := 0, locals := 52 }
theorem rm_M_wordToken_M_byteAt {R : Room} (hR : R = rm_M_wordToken) : (rm_M_byteAt).frames + 1 ≤ R.frames ∧ 8 + (2 + 11) + (rm_M_byteAt).locals ≤ R.locals := by subst hR; decide
theorem rm_M_wordToken_M_isInner {R : Room} (hR : R = rm_M_wordToken) : (rm_M_isInner).frames + 1 ≤ R.frames ∧ 8 + (1 + 11) + (rm_M_isInner).locals ≤ R.locals := by subst hR; decide
theorem rm_M_wordToken_M_wordAt {R : Room} (hR : R = rm_M_wordToken) : (rm_M_wordAt).frames + 1 ≤ R.frames ∧ 8 + (7 + 11) + (rm_M_wordAt).locals ≤ R.locals := by subst hR; decide
theorem rm_M_wordToken_M_token {R : Room} (hR : R = rm_M_wordToken) : (rm_M_token).frames + 1 ≤ R.frames ∧ 8 + (3 + 11) + (rm_M_token).locals ≤ R.locals := by subst hR; decide
theorem rm_M_wordToken_M_isSmall {R : Room} (hR : R = rm_M_wordToken) : (rm_M_isSmall).frames + 1 ≤ R.frames ∧ 8 + (1 + 11) + (rm_M_isSmall).locals ≤ R.locals := by subst hR; decide
theorem rm_M_wordToken_M_atom {R : Room} (hR : R = rm_M_wordToken) : (rm_M_atom).frames + 1 ≤ R.frames ∧ 8 + (5 + 11) + (rm_M_atom).locals ≤ R.locals := by subst hR; decide
theorem rm_M_wordToken_M_textOf {R : Room} (hR : R = rm_M_wordToken) : (rm_M_textOf).frames + 1 ≤ R.frames ∧ 8 + (9 + 11) + (rm_M_textOf).locals ≤ R.locals := by subst hR; decide
def fb_M_wordToken_151 (N : Nat) (G : (MS → Int32 → Int32 → Option (MS × Unit))) (u : MS) (v2 : Int32) : Option (MS × Unit) := lt (upI u 10 ((u.1 10) + v2)) (fun w1 => some (w1, ()))
set_option maxRecDepth 100000 in
set_option maxHeartbeats 4000000 in
theorem wb_M_wordToken_151 {p : Program} {l : Launch} {e : Env} {R : Room} {s : State} {m : MethodId} {args : Array Value} {below : List Frame} {meth : Method} {c : Code} {D : va_G} {cl : List vw_C} {cB cI cJ cZ cS : ClassId} {A : Nat → Prop} {iM h0 : Nat} {ad : Nat → Nat} (C0 : MCx p s m args meth c b_M_wordToken 5 none D cl cB cI cJ cZ cS iM A) (hR : R = rm_M_wordToken) (N : Nat) (G : (MS → Int32 → Int32 → Option (MS × Unit))) (hG : (∀ (u : MS) (v1 : Int32) (v2 : Int32) (x : MS × Unit), G u v1 v2 = some x → ∀ (H : Heap) (locs : List Loc), va_P D cl (wM cB cI cJ cZ cS iM h0 ad u) H → va_D A (wM cB cI cJ cZ cS iM h0 ad u) → va_S A s.heap H locs → ∀ (ls : Array Slot), lv_has ls 5 [(0, .ref h0), (1, .int v1), (2, .int v2)] → W p l e R s m args below meth c H locs 0 0 (MQ below (mQv D cl cB cI cJ cZ cS iM h0 ad A x) args s 0 0 A) (F0 m 2 ls []))) : ∀ (u : MS) (v2 : Int32) (x : MS × Unit), fb_M_wordToken_151 N G u v2 = some x → ∀ (H : Heap) (locs : List Loc), va_P D cl (wM cB cI cJ cZ cS iM h0 ad u) H → va_D A (wM cB cI cJ cZ cS iM h0 ad u) → va_S A s.heap H locs → ∀ (ls : Array Slot), lv_has ls 5 [(0, .ref h0), (2, .int v2)] → W p l e R s m args below meth c H locs 0 0 (MQ below (mQv D cl cB cI cJ cZ cS iM h0 ad A x) args s 0 0 A) (F0 m 151 ls []) := by
  intro u v2 x hf H locs hP hD hS ls hl
  obtain ⟨hx, hb, hr, hml, ht, hown, hM, hK, hA, hlocks⟩ := id C0
  unfold fb_M_wordToken_151 at hf
  refine lv_aload_n hx hb d_M_wordToken_151 rfl (lv_at hl 0 rfl) ?_
  refine lv_dup hx hb d_M_wordToken_152 rfl ?_
  refine ug_I hx hb ht hown hM hK hP 10 (by decide) lk_M_10 (by decide) d_M_wordToken_153 ?_
  refine lv_iload_n hx hb d_M_wordToken_156 rfl (lv_at hl 1 rfl) ?_
  refine lv_iadd hx hb d_M_wordToken_157 ?_
  refine up_I hx hb ht hown hM hK hP hD hS 10 (by decide) lk_M_10 (by decide) rfl rfl rfl d_M_wordToken_158 (fun H locs hP hD hS => ?_)
  obtain ⟨w1, e1, hf⟩ := lt_some hf
  rw [← e1] at hP hD
  exact mr_v C0 hP hD hS hf d_M_wordToken_161
def fb_M_wordToken_141 (N : Nat) (G : (MS → Int32 → Int32 → Option (MS × Unit))) (u : MS) (v2 : Int32) (v4 : Int32) (t1 : Int32) : Option (MS × Unit) := lt (upI u 17 t1) (fun w2 => bnd (fm_M_token N w2 2 v4) (fun u3 _ => fb_M_wordToken_151 N G u3 (v2)))
set_option maxRecDepth 100000 in
set_option maxHeartbeats 4000000 in
theorem wb_M_wordToken_141 {p : Program} {l : Launch} {e : Env} {R : Room} {s : State} {m : MethodId} {args : Array Value} {below : List Frame} {meth : Method} {c : Code} {D : va_G} {cl : List vw_C} {cB cI cJ cZ cS : ClassId} {A : Nat → Prop} {iM h0 : Nat} {ad : Nat → Nat} (C0 : MCx p s m args meth c b_M_wordToken 5 none D cl cB cI cJ cZ cS iM A) (hR : R = rm_M_wordToken) (N : Nat) (G : (MS → Int32 → Int32 → Option (MS × Unit))) (hG : (∀ (u : MS) (v1 : Int32) (v2 : Int32) (x : MS × Unit), G u v1 v2 = some x → ∀ (H : Heap) (locs : List Loc), va_P D cl (wM cB cI cJ cZ cS iM h0 ad u) H → va_D A (wM cB cI cJ cZ cS iM h0 ad u) → va_S A s.heap H locs → ∀ (ls : Array Slot), lv_has ls 5 [(0, .ref h0), (1, .int v1), (2, .int v2)] → W p l e R s m args below meth c H locs 0 0 (MQ below (mQv D cl cB cI cJ cZ cS iM h0 ad A x) args s 0 0 A) (F0 m 2 ls []))) : ∀ (u : MS) (v2 : Int32) (v4 : Int32) (t1 : Int32) (x : MS × Unit), fb_M_wordToken_141 N G u v2 v4 t1 = some x → ∀ (H : Heap) (locs : List Loc), va_P D cl (wM cB cI cJ cZ cS iM h0 ad u) H → va_D A (wM cB cI cJ cZ cS iM h0 ad u) → va_S A s.heap H locs → ∀ (ls : Array Slot), lv_has ls 5 [(0, .ref h0), (2, .int v2), (4, .int v4)] → W p l e R s m args below meth c H locs 0 0 (MQ below (mQv D cl cB cI cJ cZ cS iM h0 ad A x) args s 0 0 A) (F0 m 141 ls [.int t1, .ref h0]) := by
  intro u v2 v4 t1 x hf H locs hP hD hS ls hl
  obtain ⟨hx, hb, hr, hml, ht, hown, hM, hK, hA, hlocks⟩ := id C0
  unfold fb_M_wordToken_141 at hf
  refine up_I hx hb ht hown hM hK hP hD hS 17 (by decide) lk_M_17 (by decide) rfl rfl rfl d_M_wordToken_141 (fun H locs hP hD hS => ?_)
  obtain ⟨w2, e2, hf⟩ := lt_some hf
  rw [← e2] at hP hD
  refine lv_aload_n hx hb d_M_wordToken_144 rfl (lv_at hl 0 rfl) ?_
  refine lv_iconst (v := 2) hx hb d_M_wordToken_145 (by decide) ?_
  refine lv_iload hx hb d_M_wordToken_146 (lv_at hl 2 rfl) ?_
  obtain ⟨u3, r3, hc3, hf⟩ := bnd_some hf
  refine mV_v (As := [.int 2, .int v4]) (rest := []) C0 hP hD hS (c_M_token N hM hc3) k_M_token hl_M_token hi_M_token hs_M_token hini_M rfl rfl hd_M_token rfl (rm_M_wordToken_M_token hR) hl.1 (Nat.le_of_ble_eq_true rfl) d_M_wordToken_148 rfl ⟨Nat.zero_le _, Nat.zero_le _⟩ (fun H locs hP hD hS => ?_)
  exact wb_M_wordToken_151 C0 hR N G hG _ _ _ hf H locs hP hD hS ls (lv_sub hl [0, 1] rfl)
def fb_M_wordToken_2 (N : Nat) (G : (MS → Int32 → Int32 → Option (MS × Unit))) (u : MS) (v1 : Int32) (v2 : Int32) : Option (MS × Unit) := bnd (fm_M_byteAt N u ((u.1 10) + v2)) (fun u4 r4 => bnd (fm_M_isInner N u4 r4) (fun u5 r5 => br (decide (r5 = 0)) (bnd (fm_M_wordAt N u5 (u5.1 10) v2) (fun u6 r6 => br (decide (r6 = (-1))) (br (decide (v2 ≤ 16)) (bnd (fm_M_isSmall N u6 v1) (fun u7 r7 => br (decide (r7 = 0)) (bnd (fm_M_textOf N u7 15 16 (u7.1 17) 4 (u7.1 10) v2) (fun u8 r8 => br (decide (r8 = (u8.1 17))) (fb_M_wordToken_141 N G u8 (v2) (r8) (((u8.1 17) + 1))) (fb_M_wordToken_141 N G u8 (v2) (r8) ((u8.1 17))))) (bnd (fm_M_atom N u7 4 (u7.1 10) v2) (fun u9 r9 => bnd (fm_M_token N u9 1 r9) (fun u10 _ => fb_M_wordToken_151 N G u10 (v2)))))) (bnd (fm_M_token N u6 7 0) (fun u11 _ => fb_M_wordToken_151 N G u11 (v2)))) (bnd (fm_M_token N u6 3 r6) (fun u12 _ => fb_M_wordToken_151 N G u12 (v2))))) (G u5 (v1) ((v2 + 1)))))
set_option maxRecDepth 100000 in
set_option maxHeartbeats 4000000 in
theorem wb_M_wordToken_2 {p : Program} {l : Launch} {e : Env} {R : Room} {s : State} {m : MethodId} {args : Array Value} {below : List Frame} {meth : Method} {c : Code} {D : va_G} {cl : List vw_C} {cB cI cJ cZ cS : ClassId} {A : Nat → Prop} {iM h0 : Nat} {ad : Nat → Nat} (C0 : MCx p s m args meth c b_M_wordToken 5 none D cl cB cI cJ cZ cS iM A) (hR : R = rm_M_wordToken) (N : Nat) (G : (MS → Int32 → Int32 → Option (MS × Unit))) (hG : (∀ (u : MS) (v1 : Int32) (v2 : Int32) (x : MS × Unit), G u v1 v2 = some x → ∀ (H : Heap) (locs : List Loc), va_P D cl (wM cB cI cJ cZ cS iM h0 ad u) H → va_D A (wM cB cI cJ cZ cS iM h0 ad u) → va_S A s.heap H locs → ∀ (ls : Array Slot), lv_has ls 5 [(0, .ref h0), (1, .int v1), (2, .int v2)] → W p l e R s m args below meth c H locs 0 0 (MQ below (mQv D cl cB cI cJ cZ cS iM h0 ad A x) args s 0 0 A) (F0 m 2 ls []))) : ∀ (u : MS) (v1 : Int32) (v2 : Int32) (x : MS × Unit), fb_M_wordToken_2 N G u v1 v2 = some x → ∀ (H : Heap) (locs : List Loc), va_P D cl (wM cB cI cJ cZ cS iM h0 ad u) H → va_D A (wM cB cI cJ cZ cS iM h0 ad u) → va_S A s.heap H locs → ∀ (ls : Array Slot), lv_has ls 5 [(0, .ref h0), (1, .int v1), (2, .int v2)] → W p l e R s m args below meth c H locs 0 0 (MQ below (mQv D cl cB cI cJ cZ cS iM h0 ad A x) args s 0 0 A) (F0 m 2 ls []) := by
  intro u v1 v2 x hf H locs hP hD hS ls hl
  obtain ⟨hx, hb, hr, hml, ht, hown, hM, hK, hA, hlocks⟩ := id C0
  unfold fb_M_wordToken_2 at hf
  refine lv_aload_n hx hb d_M_wordToken_2 rfl (lv_at hl 0 rfl) ?_
  refine lv_aload_n hx hb d_M_wordToken_3 rfl (lv_at hl 0 rfl) ?_
  refine ug_I hx hb ht hown hM hK hP 10 (by decide) lk_M_10 (by decide) d_M_wordToken_4 ?_
  refine lv_iload_n hx hb d_M_wordToken_7 rfl (lv_at hl 2 rfl) ?_
  refine lv_iadd hx hb d_M_wordToken_8 ?_
  obtain ⟨u4, r4, hc4, hf⟩ := bnd_some hf
  refine mV_i (As := [.int ((u.1 10) + v2)]) (rest := []) C0 hP hD hS (c_M_byteAt N hM hc4) k_M_byteAt hl_M_byteAt hi_M_byteAt hs_M_byteAt hini_M rfl rfl hd_M_byteAt rfl (rm_M_wordToken_M_byteAt hR) hl.1 (Nat.le_of_ble_eq_true rfl) d_M_wordToken_9 rfl ⟨Nat.zero_le _, Nat.zero_le _⟩ (fun H locs hP hD hS => ?_)
  obtain ⟨u5, r5, hc5, hf⟩ := bnd_some hf
  refine mS_i (As := [.int r4]) (rest := []) C0 hP hD hS (c_M_isInner N hM hc5) k_M_isInner hl_M_isInner ht_M_isInner hini_M rfl rfl hd_M_isInner rfl (rm_M_wordToken_M_isInner hR) hl.1 (Nat.le_of_ble_eq_true rfl) d_M_wordToken_12 rfl ⟨Nat.zero_le _, Nat.zero_le _⟩ (fun H locs hP hD hS => ?_)
  refine lv_if_eq (tgt := 24) hx hb d_M_wordToken_15 (by decide) (fun hc => ?_) (fun hc => ?_)
  · rw [br_p _ hc] at hf
    refine lv_aload_n hx hb d_M_wordToken_24 rfl (lv_at hl 0 rfl) ?_
    refine lv_aload_n hx hb d_M_wordToken_25 rfl (lv_at hl 0 rfl) ?_
    refine ug_I hx hb ht hown hM hK hP 10 (by decide) lk_M_10 (by decide) d_M_wordToken_26 ?_
    refine lv_iload_n hx hb d_M_wordToken_29 rfl (lv_at hl 2 rfl) ?_
    obtain ⟨u6, r6, hc6, hf⟩ := bnd_some hf
    refine mV_i (As := [.int (u5.1 10), .int v2]) (rest := []) C0 hP hD hS (c_M_wordAt N hM hc6) k_M_wordAt hl_M_wordAt hi_M_wordAt hs_M_wordAt hini_M rfl rfl hd_M_wordAt rfl (rm_M_wordToken_M_wordAt hR) hl.1 (Nat.le_of_ble_eq_true rfl) d_M_wordToken_30 rfl ⟨Nat.zero_le _, Nat.zero_le _⟩ (fun H locs hP hD hS => ?_)
    refine lv_istore_n (lv' := [(3, .int r6), (0, .ref h0), (1, .int v1), (2, .int v2)]) hx hb d_M_wordToken_33 rfl hl (by decide) rfl (fun ls hl => ?_)
    refine lv_iload_n hx hb d_M_wordToken_34 rfl (lv_at hl 0 rfl) ?_
    refine lv_iconst (v := (-1)) hx hb d_M_wordToken_35 (by decide) ?_
    refine lv_icmp_eq (tgt := 48) hx hb d_M_wordToken_36 (by decide) (fun hc => ?_) (fun hc => ?_)
    · rw [br_p _ hc] at hf
      refine lv_iload_n hx hb d_M_wordToken_48 rfl (lv_at hl 3 rfl) ?_
      refine lv_bipush (v := 16) hx hb d_M_wordToken_49 (by decide) ?_
      refine lv_icmp_le (tgt := 64) hx hb d_M_wordToken_51 (by decide) (fun hc => ?_) (fun hc => ?_)
      · rw [br_p _ hc] at hf
        refine lv_iload_n hx hb d_M_wordToken_64 rfl (lv_at hl 2 rfl) ?_
        obtain ⟨u7, r7, hc7, hf⟩ := bnd_some hf
        refine mS_i (As := [.int v1]) (rest := []) C0 hP hD hS (c_M_isSmall N hM hc7) k_M_isSmall hl_M_isSmall ht_M_isSmall hini_M rfl rfl hd_M_isSmall rfl (rm_M_wordToken_M_isSmall hR) hl.1 (Nat.le_of_ble_eq_true rfl) d_M_wordToken_65 rfl ⟨Nat.zero_le _, Nat.zero_le _⟩ (fun H locs hP hD hS => ?_)
        refine lv_if_eq (tgt := 92) hx hb d_M_wordToken_68 (by decide) (fun hc => ?_) (fun hc => ?_)
        · rw [br_p _ hc] at hf
          refine lv_aload_n hx hb d_M_wordToken_92 rfl (lv_at hl 1 rfl) ?_
          refine ug_R hx hb ht hown hM hK hP 15 (by decide) lk_M_15 (by decide) d_M_wordToken_93 ?_
          refine lv_aload_n hx hb d_M_wordToken_96 rfl (lv_at hl 1 rfl) ?_
          refine ug_R hx hb ht hown hM hK hP 16 (by decide) lk_M_16 (by decide) d_M_wordToken_97 ?_
          refine lv_aload_n hx hb d_M_wordToken_100 rfl (lv_at hl 1 rfl) ?_
          refine ug_I hx hb ht hown hM hK hP 17 (by decide) lk_M_17 (by decide) d_M_wordToken_101 ?_
          refine lv_aload_n hx hb d_M_wordToken_104 rfl (lv_at hl 1 rfl) ?_
          refine ug_R hx hb ht hown hM hK hP 4 (by decide) lk_M_4 (by decide) d_M_wordToken_105 ?_
          refine lv_aload_n hx hb d_M_wordToken_108 rfl (lv_at hl 1 rfl) ?_
          refine ug_I hx hb ht hown hM hK hP 10 (by decide) lk_M_10 (by decide) d_M_wordToken_109 ?_
          refine lv_iload_n hx hb d_M_wordToken_112 rfl (lv_at hl 3 rfl) ?_
          obtain ⟨u8, r8, hc8, hf⟩ := bnd_some hf
          refine mS_i (As := [.ref (ad 15), .ref (ad 16), .int (u7.1 17), .ref (ad 4), .int (u7.1 10), .int v2]) (rest := []) C0 hP hD hS (c_M_textOf N hM hc8) k_M_textOf hl_M_textOf ht_M_textOf hini_M rfl rfl hd_M_textOf rfl (rm_M_wordToken_M_textOf hR) hl.1 (Nat.le_of_ble_eq_true rfl) d_M_wordToken_113 rfl ⟨Nat.zero_le _, Nat.zero_le _⟩ (fun H locs hP hD hS => ?_)
          refine lv_istore (lv' := [(4, .int r8), (3, .int r6), (0, .ref h0), (1, .int v1), (2, .int v2)]) hx hb d_M_wordToken_116 hl (by decide) rfl (fun ls hl => ?_)
          refine lv_aload_n hx hb d_M_wordToken_118 rfl (lv_at hl 2 rfl) ?_
          refine lv_iload hx hb d_M_wordToken_119 (lv_at hl 0 rfl) ?_
          refine lv_aload_n hx hb d_M_wordToken_121 rfl (lv_at hl 2 rfl) ?_
          refine ug_I hx hb ht hown hM hK hP 17 (by decide) lk_M_17 (by decide) d_M_wordToken_122 ?_
          refine lv_icmp_ne (tgt := 137) hx hb d_M_wordToken_125 (by decide) (fun hc => ?_) (fun hc => ?_)
          · rw [br_n _ hc] at hf
            refine lv_aload_n hx hb d_M_wordToken_137 rfl (lv_at hl 2 rfl) ?_
            refine ug_I hx hb ht hown hM hK hP 17 (by decide) lk_M_17 (by decide) d_M_wordToken_138 ?_
            exact wb_M_wordToken_141 C0 hR N G hG _ _ _ _ _ hf H locs hP hD hS ls (lv_sub hl [2, 4, 0] rfl)
          · rw [br_p _ hc] at hf
            refine lv_aload_n hx hb d_M_wordToken_128 rfl (lv_at hl 2 rfl) ?_
            refine ug_I hx hb ht hown hM hK hP 17 (by decide) lk_M_17 (by decide) d_M_wordToken_129 ?_
            refine lv_iconst (v := 1) hx hb d_M_wordToken_132 (by decide) ?_
            refine lv_iadd hx hb d_M_wordToken_133 ?_
            refine lv_goto (tgt := 141) hx hb d_M_wordToken_134 (by decide) ?_
            exact wb_M_wordToken_141 C0 hR N G hG _ _ _ _ _ hf H locs hP hD hS ls (lv_sub hl [2, 4, 0] rfl)
        · rw [br_n _ hc] at hf
          refine lv_aload_n hx hb d_M_wordToken_71 rfl (lv_at hl 1 rfl) ?_
          refine lv_iconst (v := 1) hx hb d_M_wordToken_72 (by decide) ?_
          refine lv_aload_n hx hb d_M_wordToken_73 rfl (lv_at hl 1 rfl) ?_
          refine lv_aload_n hx hb d_M_wordToken_74 rfl (lv_at hl 1 rfl) ?_
          refine ug_R hx hb ht hown hM hK hP 4 (by decide) lk_M_4 (by decide) d_M_wordToken_75 ?_
          refine lv_aload_n hx hb d_M_wordToken_78 rfl (lv_at hl 1 rfl) ?_
          refine ug_I hx hb ht hown hM hK hP 10 (by decide) lk_M_10 (by decide) d_M_wordToken_79 ?_
          refine lv_iload_n hx hb d_M_wordToken_82 rfl (lv_at hl 3 rfl) ?_
          obtain ⟨u9, r9, hc9, hf⟩ := bnd_some hf
          refine mV_i (As := [.ref (ad 4), .int (u7.1 10), .int v2]) (rest := [.int 1, .ref h0]) C0 hP hD hS (c_M_atom N hM hc9) k_M_atom hl_M_atom hi_M_atom hs_M_atom hini_M rfl rfl hd_M_atom rfl (rm_M_wordToken_M_atom hR) hl.1 (Nat.le_of_ble_eq_true rfl) d_M_wordToken_83 rfl ⟨Nat.zero_le _, Nat.zero_le _⟩ (fun H locs hP hD hS => ?_)
          obtain ⟨u10, r10, hc10, hf⟩ := bnd_some hf
          refine mV_v (As := [.int 1, .int r9]) (rest := []) C0 hP hD hS (c_M_token N hM hc10) k_M_token hl_M_token hi_M_token hs_M_token hini_M rfl rfl hd_M_token rfl (rm_M_wordToken_M_token hR) hl.1 (Nat.le_of_ble_eq_true rfl) d_M_wordToken_86 rfl ⟨Nat.zero_le _, Nat.zero_le _⟩ (fun H locs hP hD hS => ?_)
          refine lv_goto (tgt := 151) hx hb d_M_wordToken_89 (by decide) ?_
          exact wb_M_wordToken_151 C0 hR N G hG _ _ _ hf H locs hP hD hS ls (lv_sub hl [1, 3] rfl)
      · rw [br_n _ hc] at hf
        refine lv_aload_n hx hb d_M_wordToken_54 rfl (lv_at hl 1 rfl) ?_
        refine lv_bipush (v := 7) hx hb d_M_wordToken_55 (by decide) ?_
        refine lv_iconst (v := 0) hx hb d_M_wordToken_57 (by decide) ?_
        obtain ⟨u11, r11, hc11, hf⟩ := bnd_some hf
        refine mV_v (As := [.int 7, .int 0]) (rest := []) C0 hP hD hS (c_M_token N hM hc11) k_M_token hl_M_token hi_M_token hs_M_token hini_M rfl rfl hd_M_token rfl (rm_M_wordToken_M_token hR) hl.1 (Nat.le_of_ble_eq_true rfl) d_M_wordToken_58 rfl ⟨Nat.zero_le _, Nat.zero_le _⟩ (fun H locs hP hD hS => ?_)
        refine lv_goto (tgt := 151) hx hb d_M_wordToken_61 (by decide) ?_
        exact wb_M_wordToken_151 C0 hR N G hG _ _ _ hf H locs hP hD hS ls (lv_sub hl [1, 3] rfl)
    · rw [br_n _ hc] at hf
      refine lv_aload_n hx hb d_M_wordToken_39 rfl (lv_at hl 1 rfl) ?_
      refine lv_iconst (v := 3) hx hb d_M_wordToken_40 (by decide) ?_
      refine lv_iload_n hx hb d_M_wordToken_41 rfl (lv_at hl 0 rfl) ?_
      obtain ⟨u12, r12, hc12, hf⟩ := bnd_some hf
      refine mV_v (As := [.int 3, .int r6]) (rest := []) C0 hP hD hS (c_M_token N hM hc12) k_M_token hl_M_token hi_M_token hs_M_token hini_M rfl rfl hd_M_token rfl (rm_M_wordToken_M_token hR) hl.1 (Nat.le_of_ble_eq_true rfl) d_M_wordToken_42 rfl ⟨Nat.zero_le _, Nat.zero_le _⟩ (fun H locs hP hD hS => ?_)
      refine lv_goto (tgt := 151) hx hb d_M_wordToken_45 (by decide) ?_
      exact wb_M_wordToken_151 C0 hR N G hG _ _ _ hf H locs hP hD hS ls (lv_sub hl [1, 3] rfl)
  · rw [br_n _ hc] at hf
    refine lv_iinc (v := (v2 + 1)) (lv' := [(2, .int (v2 + 1)), (0, .ref h0), (1, .int v1)]) hx hb d_M_wordToken_18 hl (k := 2) rfl rfl (by decide) rfl (fun ls hl => ?_)
    refine lv_goto (tgt := 2) hx hb d_M_wordToken_21 (by decide) ?_
    exact hG _ _ _ _ hf H locs hP hD hS ls (lv_sub hl [1, 2, 0] rfl)
def fb_M_wordToken_0 (N : Nat) (G : (MS → Int32 → Int32 → Option (MS × Unit))) (u : MS) (v1 : Int32) : Option (MS × Unit) := G u (v1) (0)
set_option maxRecDepth 100000 in
set_option maxHeartbeats 4000000 in
theorem wb_M_wordToken_0 {p : Program} {l : Launch} {e : Env} {R : Room} {s : State} {m : MethodId} {args : Array Value} {below : List Frame} {meth : Method} {c : Code} {D : va_G} {cl : List vw_C} {cB cI cJ cZ cS : ClassId} {A : Nat → Prop} {iM h0 : Nat} {ad : Nat → Nat} (C0 : MCx p s m args meth c b_M_wordToken 5 none D cl cB cI cJ cZ cS iM A) (hR : R = rm_M_wordToken) (N : Nat) (G : (MS → Int32 → Int32 → Option (MS × Unit))) (hG : (∀ (u : MS) (v1 : Int32) (v2 : Int32) (x : MS × Unit), G u v1 v2 = some x → ∀ (H : Heap) (locs : List Loc), va_P D cl (wM cB cI cJ cZ cS iM h0 ad u) H → va_D A (wM cB cI cJ cZ cS iM h0 ad u) → va_S A s.heap H locs → ∀ (ls : Array Slot), lv_has ls 5 [(0, .ref h0), (1, .int v1), (2, .int v2)] → W p l e R s m args below meth c H locs 0 0 (MQ below (mQv D cl cB cI cJ cZ cS iM h0 ad A x) args s 0 0 A) (F0 m 2 ls []))) : ∀ (u : MS) (v1 : Int32) (x : MS × Unit), fb_M_wordToken_0 N G u v1 = some x → ∀ (H : Heap) (locs : List Loc), va_P D cl (wM cB cI cJ cZ cS iM h0 ad u) H → va_D A (wM cB cI cJ cZ cS iM h0 ad u) → va_S A s.heap H locs → ∀ (ls : Array Slot), lv_has ls 5 [(0, .ref h0), (1, .int v1)] → W p l e R s m args below meth c H locs 0 0 (MQ below (mQv D cl cB cI cJ cZ cS iM h0 ad A x) args s 0 0 A) (F0 m 0 ls []) := by
  intro u v1 x hf H locs hP hD hS ls hl
  obtain ⟨hx, hb, hr, hml, ht, hown, hM, hK, hA, hlocks⟩ := id C0
  unfold fb_M_wordToken_0 at hf
  refine lv_iconst (v := 0) hx hb d_M_wordToken_0 (by decide) ?_
  refine lv_istore_n (lv' := [(2, .int 0), (0, .ref h0), (1, .int v1)]) hx hb d_M_wordToken_1 rfl hl (by decide) rfl (fun ls hl => ?_)
  exact hG _ _ _ _ hf H locs hP hD hS ls (lv_sub hl [1, 2, 0] rfl)
def gg_M_wordToken (N : Nat) : Nat → ((MS → Int32 → Int32 → Option (MS × Unit)))
  | 0 => fun _ _ _ => none
  | n + 1 => fb_M_wordToken_2 N (gg_M_wordToken N n)
theorem wg_M_wordToken {p : Program} {l : Launch} {e : Env} {R : Room} {s : State} {m : MethodId} {args : Array Value} {below : List Frame} {meth : Method} {c : Code} {D : va_G} {cl : List vw_C} {cB cI cJ cZ cS : ClassId} {A : Nat → Prop} {iM h0 : Nat} {ad : Nat → Nat} (C0 : MCx p s m args meth c b_M_wordToken 5 none D cl cB cI cJ cZ cS iM A) (hR : R = rm_M_wordToken) (N : Nat) : ∀ n : Nat, (∀ (u : MS) (v1 : Int32) (v2 : Int32) (x : MS × Unit), gg_M_wordToken N n u v1 v2 = some x → ∀ (H : Heap) (locs : List Loc), va_P D cl (wM cB cI cJ cZ cS iM h0 ad u) H → va_D A (wM cB cI cJ cZ cS iM h0 ad u) → va_S A s.heap H locs → ∀ (ls : Array Slot), lv_has ls 5 [(0, .ref h0), (1, .int v1), (2, .int v2)] → W p l e R s m args below meth c H locs 0 0 (MQ below (mQv D cl cB cI cJ cZ cS iM h0 ad A x) args s 0 0 A) (F0 m 2 ls []))
  | 0 => (fun u v1 v2 x hf => by cases hf)
  | n + 1 => wb_M_wordToken_2 C0 hR N (gg_M_wordToken N n) (wg_M_wordToken C0 hR N n)
def fm_M_wordToken (N : Nat) (u : MS) (v1 : Int32) : Option (MS × Unit) := fb_M_wordToken_0 N (gg_M_wordToken N N) u v1
set_option maxRecDepth 100000 in
set_option maxHeartbeats 4000000 in
theorem c_M_wordToken (N : Nat) {l : Launch} {D : va_G} {cl : List vw_C} {cB cI cJ cZ cS : ClassId} {iM h0 : Nat} {ad : Nat → Nat} {u : MS} {sz : Nat} {v1 : Int32} {x : MS × Unit} (hM : cl[iM]? = some (R_M, F_M, 171)) (hf : fm_M_wordToken N u v1 = some x) : Met l y_M_wordToken (wd_ws y_M_wordToken b_M_wordToken 5 none) rm_M_wordToken (mPc D cl cB cI cJ cZ cS iM h0 ad u sz [.ref h0, .int v1]) (mQv D cl cB cI cJ cZ cS iM h0 ad (mA cB cI cJ cZ cS iM h0 ad u sz) x) 0 0 (mA cB cI cJ cZ cS iM h0 ad u sz) :=
  mMet (by decide) rfl hM (Nat.le_of_ble_eq_true rfl) (fun p e s m below meth c ls hsz C0 hP hD hS hl => by
    have hR : rm_M_wordToken = rm_M_wordToken := rfl
    exact wb_M_wordToken_0 C0 hR N (gg_M_wordToken N N) (wg_M_wordToken C0 hR N N) u _ x hf s.heap [] hP hD hS ls (lv_sub hl [0, 1] rfl))
abbrev b_M_numberToken : ByteArray := prog_14_method_17_code
def y_M_numberToken : MethodName := ⟨R_M, "numberToken", "()V"⟩
def w_M_numberToken : List Cond := wd_ws y_M_numberToken b_M_numberToken 3 none
set_option maxRecDepth 100000 in
theorem k_M_numberToken : Cond.code y_M_numberToken b_M_numberToken 3 none ∈ wd_tbl := wd_of 2680 rfl rfl
theorem d_M_numberToken_0 : decode b_M_numberToken 0 = .ok (.lconst 0, 1) := by decide +kernel
theorem d_M_numberToken_1 : decode b_M_numberToken 1 = .ok (.lstore_n 1, 1) := by decide +kernel
theorem d_M_numberToken_2 : decode b_M_numberToken 2 = .ok (.aload_n 0, 1) := by decide +kernel
theorem d_M_numberToken_3 : decode b_M_numberToken 3 = .ok (.aload_n 0, 1) := by decide +kernel
theorem d_M_numberToken_4 : decode b_M_numberToken 4 = .ok (.getfield 408, 3) := by decide +kernel
theorem d_M_numberToken_7 : decode b_M_numberToken 7 = .ok (.invokevirtual 414, 3) := by decide +kernel
theorem d_M_numberToken_10 : decode b_M_numberToken 10 = .ok (.invokestatic 382, 3) := by decide +kernel
theorem d_M_numberToken_13 : decode b_M_numberToken 13 = .ok (.ifCond .eq 48, 3) := by decide +kernel
theorem d_M_numberToken_16 : decode b_M_numberToken 16 = .ok (.lload_n 1, 1) := by decide +kernel
theorem d_M_numberToken_17 : decode b_M_numberToken 17 = .ok (.ldc2_w 442, 3) := by decide +kernel
theorem d_M_numberToken_20 : decode b_M_numberToken 20 = .ok (.lcmp, 1) := by decide +kernel
theorem d_M_numberToken_21 : decode b_M_numberToken 21 = .ok (.ifCond .le 7, 3) := by decide +kernel
theorem d_M_numberToken_24 : decode b_M_numberToken 24 = .ok (.lload_n 1, 1) := by decide +kernel
theorem d_M_numberToken_25 : decode b_M_numberToken 25 = .ok (.goto 22, 3) := by decide +kernel
theorem d_M_numberToken_28 : decode b_M_numberToken 28 = .ok (.ldc2_w 444, 3) := by decide +kernel
theorem d_M_numberToken_31 : decode b_M_numberToken 31 = .ok (.lload_n 1, 1) := by decide +kernel
theorem d_M_numberToken_32 : decode b_M_numberToken 32 = .ok (.lmul, 1) := by decide +kernel
theorem d_M_numberToken_33 : decode b_M_numberToken 33 = .ok (.aload_n 0, 1) := by decide +kernel
theorem d_M_numberToken_34 : decode b_M_numberToken 34 = .ok (.aload_n 0, 1) := by decide +kernel
theorem d_M_numberToken_35 : decode b_M_numberToken 35 = .ok (.getfield 408, 3) := by decide +kernel
theorem d_M_numberToken_38 : decode b_M_numberToken 38 = .ok (.invokevirtual 414, 3) := by decide +kernel
theorem d_M_numberToken_41 : decode b_M_numberToken 41 = .ok (.i2l, 1) := by decide +kernel
theorem d_M_numberToken_42 : decode b_M_numberToken 42 = .ok (.ladd, 1) := by decide +kernel
theorem d_M_numberToken_43 : decode b_M_numberToken 43 = .ok (.ldc2_w 446, 3) := by decide +kernel
theorem d_M_numberToken_46 : decode b_M_numberToken 46 = .ok (.lsub, 1) := by decide +kernel
theorem d_M_numberToken_47 : decode b_M_numberToken 47 = .ok (.lstore_n 1, 1) := by decide +kernel
theorem d_M_numberToken_48 : decode b_M_numberToken 48 = .ok (.aload_n 0, 1) := by decide +kernel
theorem d_M_numberToken_49 : decode b_M_numberToken 49 = .ok (.dup, 1) := by decide +kernel
theorem d_M_numberToken_50 : decode b_M_numberToken 50 = .ok (.getfield 408, 3) := by decide +kernel
theorem d_M_numberToken_53 : decode b_M_numberToken 53 = .ok (.iconst 1, 1) := by decide +kernel
theorem d_M_numberToken_54 : decode b_M_numberToken 54 = .ok (.iadd, 1) := by decide +kernel
theorem d_M_numberToken_55 : decode b_M_numberToken 55 = .ok (.putfield 408, 3) := by decide +kernel
theorem d_M_numberToken_58 : decode b_M_numberToken 58 = .ok (.goto (-56), 3) := by decide +kernel
theorem d_M_numberToken_61 : decode b_M_numberToken 61 = .ok (.aload_n 0, 1) := by decide +kernel
theorem d_M_numberToken_62 : decode b_M_numberToken 62 = .ok (.lload_n 1, 1) := by decide +kernel
theorem d_M_numberToken_63 : decode b_M_numberToken 63 = .ok (.ldc2_w 442, 3) := by decide +kernel
theorem d_M_numberToken_66 : decode b_M_numberToken 66 = .ok (.lcmp, 1) := by decide +kernel
theorem d_M_numberToken_67 : decode b_M_numberToken 67 = .ok (.ifCond .gt 17, 3) := by decide +kernel
theorem d_M_numberToken_70 : decode b_M_numberToken 70 = .ok (.aload_n 0, 1) := by decide +kernel
theorem d_M_numberToken_71 : decode b_M_numberToken 71 = .ok (.aload_n 0, 1) := by decide +kernel
theorem d_M_numberToken_72 : decode b_M_numberToken 72 = .ok (.getfield 408, 3) := by decide +kernel
theorem d_M_numberToken_75 : decode b_M_numberToken 75 = .ok (.invokevirtual 414, 3) := by decide +kernel
theorem d_M_numberToken_78 : decode b_M_numberToken 78 = .ok (.invokestatic 435, 3) := by decide +kernel
theorem d_M_numberToken_81 : decode b_M_numberToken 81 = .ok (.ifCond .eq 8, 3) := by decide +kernel
theorem d_M_numberToken_84 : decode b_M_numberToken 84 = .ok (.bipush 7, 2) := by decide +kernel
theorem d_M_numberToken_86 : decode b_M_numberToken 86 = .ok (.goto 4, 3) := by decide +kernel
theorem d_M_numberToken_89 : decode b_M_numberToken 89 = .ok (.iconst 4, 1) := by decide +kernel
theorem d_M_numberToken_90 : decode b_M_numberToken 90 = .ok (.lload_n 1, 1) := by decide +kernel
theorem d_M_numberToken_91 : decode b_M_numberToken 91 = .ok (.l2i, 1) := by decide +kernel
theorem d_M_numberToken_92 : decode b_M_numberToken 92 = .ok (.invokevirtual 431, 3) := by decide +kernel
theorem d_M_numberToken_95 : decode b_M_numberToken 95 = .ok (.return_, 1) := by decide +kernel
set_option maxRecDepth 100000 in
theorem hl_M_numberToken : Cond.methodLink R_M 422 y_M_numberToken ∈ wd_tbl := wd_of 2677 (by decide +kernel) rfl
set_option maxRecDepth 100000 in
theorem hi_M_numberToken : Cond.instanceMethod y_M_numberToken ∈ wd_tbl := wd_of 2679 (by decide +kernel) rfl
set_option maxRecDepth 100000 in
theorem hs_M_numberToken : Cond.selects R_M y_M_numberToken y_M_numberToken ∈ wd_tbl := wd_of 134 (by decide +kernel) rfl
theorem hd_M_numberToken : y_M_numberToken.cls = R_M ∧ y_M_numberToken.cls ≠ "java/lang/invoke/MethodHandle" ∧ y_M_numberToken.cls ≠ "java/lang/invoke/VarHandle" ∧ (parseMethodDescriptor y_M_numberToken.desc).map (fun d => d.parameters.length) = some 0 := by decide +kernel
def rm_M_numberToken : Room := { frames := 2, cells := 0, slots := 0, locals := 40 }
theorem rm_M_numberToken_M_byteAt {R : Room} (hR : R = rm_M_numberToken) : (rm_M_byteAt).frames + 1 ≤ R.frames ∧ 8 + (2 + 11) + (rm_M_byteAt).locals ≤ R.locals := by subst hR; decide
theorem rm_M_numberToken_M_isDigit {R : Room} (hR : R = rm_M_numberToken) : (rm_M_isDigit).frames + 1 ≤ R.frames ∧ 8 + (1 + 11) + (rm_M_isDigit).locals ≤ R.locals := by subst hR; decide
theorem rm_M_numberToken_M_isInner {R : Room} (hR : R = rm_M_numberToken) : (rm_M_isInner).frames + 1 ≤ R.frames ∧ 8 + (1 + 11) + (rm_M_isInner).locals ≤ R.locals := by subst hR; decide
theorem rm_M_numberToken_M_token {R : Room} (hR : R = rm_M_numberToken) : (rm_M_token).frames + 1 ≤ R.frames ∧ 8 + (3 + 11) + (rm_M_token).locals ≤ R.locals := by subst hR; decide
def fb_M_numberToken_90 (N : Nat) (G : (MS → Int64 → Option (MS × Unit))) (u : MS) (v1 : Int64) (t1 : Int32) : Option (MS × Unit) := bnd (fm_M_token N u t1 (v1.toInt32)) (fun u1 _ => some (u1, ()))
set_option maxRecDepth 100000 in
set_option maxHeartbeats 4000000 in
theorem wb_M_numberToken_90 {p : Program} {l : Launch} {e : Env} {R : Room} {s : State} {m : MethodId} {args : Array Value} {below : List Frame} {meth : Method} {c : Code} {D : va_G} {cl : List vw_C} {cB cI cJ cZ cS : ClassId} {A : Nat → Prop} {iM h0 : Nat} {ad : Nat → Nat} (C0 : MCx p s m args meth c b_M_numberToken 3 none D cl cB cI cJ cZ cS iM A) (hR : R = rm_M_numberToken) (N : Nat) (G : (MS → Int64 → Option (MS × Unit))) (hG : (∀ (u : MS) (v1 : Int64) (x : MS × Unit), G u v1 = some x → ∀ (H : Heap) (locs : List Loc), va_P D cl (wM cB cI cJ cZ cS iM h0 ad u) H → va_D A (wM cB cI cJ cZ cS iM h0 ad u) → va_S A s.heap H locs → ∀ (ls : Array Slot), lv_has ls 3 [(0, .ref h0), (1, .long v1)] → W p l e R s m args below meth c H locs 0 0 (MQ below (mQv D cl cB cI cJ cZ cS iM h0 ad A x) args s 0 0 A) (F0 m 2 ls []))) : ∀ (u : MS) (v1 : Int64) (t1 : Int32) (x : MS × Unit), fb_M_numberToken_90 N G u v1 t1 = some x → ∀ (H : Heap) (locs : List Loc), va_P D cl (wM cB cI cJ cZ cS iM h0 ad u) H → va_D A (wM cB cI cJ cZ cS iM h0 ad u) → va_S A s.heap H locs → ∀ (ls : Array Slot), lv_has ls 3 [(1, .long v1)] → W p l e R s m args below meth c H locs 0 0 (MQ below (mQv D cl cB cI cJ cZ cS iM h0 ad A x) args s 0 0 A) (F0 m 90 ls [.int t1, .ref h0]) := by
  intro u v1 t1 x hf H locs hP hD hS ls hl
  obtain ⟨hx, hb, hr, hml, ht, hown, hM, hK, hA, hlocks⟩ := id C0
  unfold fb_M_numberToken_90 at hf
  refine lv_lload_n hx hb d_M_numberToken_90 rfl (lv_at hl 0 rfl) ?_
  refine lv_l2i hx hb d_M_numberToken_91 rfl ?_
  obtain ⟨u1, r1, hc1, hf⟩ := bnd_some hf
  refine mV_v (As := [.int t1, .int v1.toInt32]) (rest := []) C0 hP hD hS (c_M_token N hM hc1) k_M_token hl_M_token hi_M_token hs_M_token hini_M rfl rfl hd_M_token rfl (rm_M_numberToken_M_token hR) hl.1 (Nat.le_of_ble_eq_true rfl) d_M_numberToken_92 rfl ⟨Nat.zero_le _, Nat.zero_le _⟩ (fun H locs hP hD hS => ?_)
  exact mr_v C0 hP hD hS hf d_M_numberToken_95
def fb_M_numberToken_84 (N : Nat) (G : (MS → Int64 → Option (MS × Unit))) (u : MS) (v1 : Int64) : Option (MS × Unit) := fb_M_numberToken_90 N G u (v1) (7)
set_option maxRecDepth 100000 in
set_option maxHeartbeats 4000000 in
theorem wb_M_numberToken_84 {p : Program} {l : Launch} {e : Env} {R : Room} {s : State} {m : MethodId} {args : Array Value} {below : List Frame} {meth : Method} {c : Code} {D : va_G} {cl : List vw_C} {cB cI cJ cZ cS : ClassId} {A : Nat → Prop} {iM h0 : Nat} {ad : Nat → Nat} (C0 : MCx p s m args meth c b_M_numberToken 3 none D cl cB cI cJ cZ cS iM A) (hR : R = rm_M_numberToken) (N : Nat) (G : (MS → Int64 → Option (MS × Unit))) (hG : (∀ (u : MS) (v1 : Int64) (x : MS × Unit), G u v1 = some x → ∀ (H : Heap) (locs : List Loc), va_P D cl (wM cB cI cJ cZ cS iM h0 ad u) H → va_D A (wM cB cI cJ cZ cS iM h0 ad u) → va_S A s.heap H locs → ∀ (ls : Array Slot), lv_has ls 3 [(0, .ref h0), (1, .long v1)] → W p l e R s m args below meth c H locs 0 0 (MQ below (mQv D cl cB cI cJ cZ cS iM h0 ad A x) args s 0 0 A) (F0 m 2 ls []))) : ∀ (u : MS) (v1 : Int64) (x : MS × Unit), fb_M_numberToken_84 N G u v1 = some x → ∀ (H : Heap) (locs : List Loc), va_P D cl (wM cB cI cJ cZ cS iM h0 ad u) H → va_D A (wM cB cI cJ cZ cS iM h0 ad u) → va_S A s.heap H locs → ∀ (ls : Array Slot), lv_has ls 3 [(1, .long v1)] → W p l e R s m args below meth c H locs 0 0 (MQ below (mQv D cl cB cI cJ cZ cS iM h0 ad A x) args s 0 0 A) (F0 m 84 ls [.ref h0]) := by
  intro u v1 x hf H locs hP hD hS ls hl
  obtain ⟨hx, hb, hr, hml, ht, hown, hM, hK, hA, hlocks⟩ := id C0
  unfold fb_M_numberToken_84 at hf
  refine lv_bipush (v := 7) hx hb d_M_numberToken_84 (by decide) ?_
  refine lv_goto (tgt := 90) hx hb d_M_numberToken_86 (by decide) ?_
  exact wb_M_numberToken_90 C0 hR N G hG _ _ _ _ hf H locs hP hD hS ls (lv_sub hl [0] rfl)
def fb_M_numberToken_47 (N : Nat) (G : (MS → Int64 → Option (MS × Unit))) (u : MS) (t0 : Int64) : Option (MS × Unit) := lt (upI u 10 ((u.1 10) + 1)) (fun w2 => G w2 (t0))
set_option maxRecDepth 100000 in
set_option maxHeartbeats 4000000 in
theorem wb_M_numberToken_47 {p : Program} {l : Launch} {e : Env} {R : Room} {s : State} {m : MethodId} {args : Array Value} {below : List Frame} {meth : Method} {c : Code} {D : va_G} {cl : List vw_C} {cB cI cJ cZ cS : ClassId} {A : Nat → Prop} {iM h0 : Nat} {ad : Nat → Nat} (C0 : MCx p s m args meth c b_M_numberToken 3 none D cl cB cI cJ cZ cS iM A) (hR : R = rm_M_numberToken) (N : Nat) (G : (MS → Int64 → Option (MS × Unit))) (hG : (∀ (u : MS) (v1 : Int64) (x : MS × Unit), G u v1 = some x → ∀ (H : Heap) (locs : List Loc), va_P D cl (wM cB cI cJ cZ cS iM h0 ad u) H → va_D A (wM cB cI cJ cZ cS iM h0 ad u) → va_S A s.heap H locs → ∀ (ls : Array Slot), lv_has ls 3 [(0, .ref h0), (1, .long v1)] → W p l e R s m args below meth c H locs 0 0 (MQ below (mQv D cl cB cI cJ cZ cS iM h0 ad A x) args s 0 0 A) (F0 m 2 ls []))) : ∀ (u : MS) (t0 : Int64) (x : MS × Unit), fb_M_numberToken_47 N G u t0 = some x → ∀ (H : Heap) (locs : List Loc), va_P D cl (wM cB cI cJ cZ cS iM h0 ad u) H → va_D A (wM cB cI cJ cZ cS iM h0 ad u) → va_S A s.heap H locs → ∀ (ls : Array Slot), lv_has ls 3 [(0, .ref h0)] → W p l e R s m args below meth c H locs 0 0 (MQ below (mQv D cl cB cI cJ cZ cS iM h0 ad A x) args s 0 0 A) (F0 m 47 ls [.long t0]) := by
  intro u t0 x hf H locs hP hD hS ls hl
  obtain ⟨hx, hb, hr, hml, ht, hown, hM, hK, hA, hlocks⟩ := id C0
  unfold fb_M_numberToken_47 at hf
  refine lv_lstore_n (lv' := [(1, .long t0), (0, .ref h0)]) hx hb d_M_numberToken_47 rfl hl (by decide) rfl (fun ls hl => ?_)
  refine lv_aload_n hx hb d_M_numberToken_48 rfl (lv_at hl 1 rfl) ?_
  refine lv_dup hx hb d_M_numberToken_49 rfl ?_
  refine ug_I hx hb ht hown hM hK hP 10 (by decide) lk_M_10 (by decide) d_M_numberToken_50 ?_
  refine lv_iconst (v := 1) hx hb d_M_numberToken_53 (by decide) ?_
  refine lv_iadd hx hb d_M_numberToken_54 ?_
  refine up_I hx hb ht hown hM hK hP hD hS 10 (by decide) lk_M_10 (by decide) rfl rfl rfl d_M_numberToken_55 (fun H locs hP hD hS => ?_)
  obtain ⟨w2, e2, hf⟩ := lt_some hf
  rw [← e2] at hP hD
  refine lv_goto (tgt := 2) hx hb d_M_numberToken_58 (by decide) ?_
  exact hG _ _ _ hf H locs hP hD hS ls (lv_sub hl [1, 0] rfl)
def fb_M_numberToken_2 (N : Nat) (G : (MS → Int64 → Option (MS × Unit))) (u : MS) (v1 : Int64) : Option (MS × Unit) := bnd (fm_M_byteAt N u (u.1 10)) (fun u3 r3 => bnd (fm_M_isDigit N u3 r3) (fun u4 r4 => br (decide (r4 = 0)) (br (decide (0 < (lg_cmp v1 2147483647))) (fb_M_numberToken_84 N G u4 (v1)) (bnd (fm_M_byteAt N u4 (u4.1 10)) (fun u5 r5 => bnd (fm_M_isInner N u5 r5) (fun u6 r6 => br (decide (r6 = 0)) (fb_M_numberToken_90 N G u6 (v1) (4)) (fb_M_numberToken_84 N G u6 (v1)))))) (br (decide ((lg_cmp v1 2147483647) ≤ 0)) (bnd (fm_M_byteAt N u4 (u4.1 10)) (fun u7 r7 => fb_M_numberToken_47 N G u7 ((((10 * v1) + r7.toInt64) - 48)))) (fb_M_numberToken_47 N G u4 (v1)))))
set_option maxRecDepth 100000 in
set_option maxHeartbeats 4000000 in
theorem wb_M_numberToken_2 {p : Program} {l : Launch} {e : Env} {R : Room} {s : State} {m : MethodId} {args : Array Value} {below : List Frame} {meth : Method} {c : Code} {D : va_G} {cl : List vw_C} {cB cI cJ cZ cS : ClassId} {A : Nat → Prop} {iM h0 : Nat} {ad : Nat → Nat} (C0 : MCx p s m args meth c b_M_numberToken 3 none D cl cB cI cJ cZ cS iM A) (hR : R = rm_M_numberToken) (N : Nat) (G : (MS → Int64 → Option (MS × Unit))) (hG : (∀ (u : MS) (v1 : Int64) (x : MS × Unit), G u v1 = some x → ∀ (H : Heap) (locs : List Loc), va_P D cl (wM cB cI cJ cZ cS iM h0 ad u) H → va_D A (wM cB cI cJ cZ cS iM h0 ad u) → va_S A s.heap H locs → ∀ (ls : Array Slot), lv_has ls 3 [(0, .ref h0), (1, .long v1)] → W p l e R s m args below meth c H locs 0 0 (MQ below (mQv D cl cB cI cJ cZ cS iM h0 ad A x) args s 0 0 A) (F0 m 2 ls []))) : ∀ (u : MS) (v1 : Int64) (x : MS × Unit), fb_M_numberToken_2 N G u v1 = some x → ∀ (H : Heap) (locs : List Loc), va_P D cl (wM cB cI cJ cZ cS iM h0 ad u) H → va_D A (wM cB cI cJ cZ cS iM h0 ad u) → va_S A s.heap H locs → ∀ (ls : Array Slot), lv_has ls 3 [(0, .ref h0), (1, .long v1)] → W p l e R s m args below meth c H locs 0 0 (MQ below (mQv D cl cB cI cJ cZ cS iM h0 ad A x) args s 0 0 A) (F0 m 2 ls []) := by
  intro u v1 x hf H locs hP hD hS ls hl
  obtain ⟨hx, hb, hr, hml, ht, hown, hM, hK, hA, hlocks⟩ := id C0
  unfold fb_M_numberToken_2 at hf
  refine lv_aload_n hx hb d_M_numberToken_2 rfl (lv_at hl 0 rfl) ?_
  refine lv_aload_n hx hb d_M_numberToken_3 rfl (lv_at hl 0 rfl) ?_
  refine ug_I hx hb ht hown hM hK hP 10 (by decide) lk_M_10 (by decide) d_M_numberToken_4 ?_
  obtain ⟨u3, r3, hc3, hf⟩ := bnd_some hf
  refine mV_i (As := [.int (u.1 10)]) (rest := []) C0 hP hD hS (c_M_byteAt N hM hc3) k_M_byteAt hl_M_byteAt hi_M_byteAt hs_M_byteAt hini_M rfl rfl hd_M_byteAt rfl (rm_M_numberToken_M_byteAt hR) hl.1 (Nat.le_of_ble_eq_true rfl) d_M_numberToken_7 rfl ⟨Nat.zero_le _, Nat.zero_le _⟩ (fun H locs hP hD hS => ?_)
  obtain ⟨u4, r4, hc4, hf⟩ := bnd_some hf
  refine mS_i (As := [.int r3]) (rest := []) C0 hP hD hS (c_M_isDigit N hM hc4) k_M_isDigit hl_M_isDigit ht_M_isDigit hini_M rfl rfl hd_M_isDigit rfl (rm_M_numberToken_M_isDigit hR) hl.1 (Nat.le_of_ble_eq_true rfl) d_M_numberToken_10 rfl ⟨Nat.zero_le _, Nat.zero_le _⟩ (fun H locs hP hD hS => ?_)
  refine lv_if_eq (tgt := 61) hx hb d_M_numberToken_13 (by decide) (fun hc => ?_) (fun hc => ?_)
  · rw [br_p _ hc] at hf
    refine lv_aload_n hx hb d_M_numberToken_61 rfl (lv_at hl 0 rfl) ?_
    refine lv_lload_n hx hb d_M_numberToken_62 rfl (lv_at hl 1 rfl) ?_
    refine lv_ldc2 (v := 2147483647) hx hb hown (ht _ (wd_of 2681 (by decide +kernel) rfl)) d_M_numberToken_63 ?_
    refine W.lcmp hx hb d_M_numberToken_66 ?_
    refine lv_if_gt (tgt := 84) hx hb d_M_numberToken_67 (by decide) (fun hc => ?_) (fun hc => ?_)
    · rw [br_p _ hc] at hf
      exact wb_M_numberToken_84 C0 hR N G hG _ _ _ hf H locs hP hD hS ls (lv_sub hl [1] rfl)
    · rw [br_n _ hc] at hf
      refine lv_aload_n hx hb d_M_numberToken_70 rfl (lv_at hl 0 rfl) ?_
      refine lv_aload_n hx hb d_M_numberToken_71 rfl (lv_at hl 0 rfl) ?_
      refine ug_I hx hb ht hown hM hK hP 10 (by decide) lk_M_10 (by decide) d_M_numberToken_72 ?_
      obtain ⟨u5, r5, hc5, hf⟩ := bnd_some hf
      refine mV_i (As := [.int (u4.1 10)]) (rest := [.ref h0]) C0 hP hD hS (c_M_byteAt N hM hc5) k_M_byteAt hl_M_byteAt hi_M_byteAt hs_M_byteAt hini_M rfl rfl hd_M_byteAt rfl (rm_M_numberToken_M_byteAt hR) hl.1 (Nat.le_of_ble_eq_true rfl) d_M_numberToken_75 rfl ⟨Nat.zero_le _, Nat.zero_le _⟩ (fun H locs hP hD hS => ?_)
      obtain ⟨u6, r6, hc6, hf⟩ := bnd_some hf
      refine mS_i (As := [.int r5]) (rest := [.ref h0]) C0 hP hD hS (c_M_isInner N hM hc6) k_M_isInner hl_M_isInner ht_M_isInner hini_M rfl rfl hd_M_isInner rfl (rm_M_numberToken_M_isInner hR) hl.1 (Nat.le_of_ble_eq_true rfl) d_M_numberToken_78 rfl ⟨Nat.zero_le _, Nat.zero_le _⟩ (fun H locs hP hD hS => ?_)
      refine lv_if_eq (tgt := 89) hx hb d_M_numberToken_81 (by decide) (fun hc => ?_) (fun hc => ?_)
      · rw [br_p _ hc] at hf
        refine lv_iconst (v := 4) hx hb d_M_numberToken_89 (by decide) ?_
        exact wb_M_numberToken_90 C0 hR N G hG _ _ _ _ hf H locs hP hD hS ls (lv_sub hl [1] rfl)
      · rw [br_n _ hc] at hf
        exact wb_M_numberToken_84 C0 hR N G hG _ _ _ hf H locs hP hD hS ls (lv_sub hl [1] rfl)
  · rw [br_n _ hc] at hf
    refine lv_lload_n hx hb d_M_numberToken_16 rfl (lv_at hl 1 rfl) ?_
    refine lv_ldc2 (v := 2147483647) hx hb hown (ht _ (wd_of 2681 (by decide +kernel) rfl)) d_M_numberToken_17 ?_
    refine W.lcmp hx hb d_M_numberToken_20 ?_
    refine lv_if_le (tgt := 28) hx hb d_M_numberToken_21 (by decide) (fun hc => ?_) (fun hc => ?_)
    · rw [br_p _ hc] at hf
      refine lv_ldc2 (v := 10) hx hb hown (ht _ (wd_of 2682 (by decide +kernel) rfl)) d_M_numberToken_28 ?_
      refine lv_lload_n hx hb d_M_numberToken_31 rfl (lv_at hl 1 rfl) ?_
      refine lv_lmul hx hb d_M_numberToken_32 ?_
      refine lv_aload_n hx hb d_M_numberToken_33 rfl (lv_at hl 0 rfl) ?_
      refine lv_aload_n hx hb d_M_numberToken_34 rfl (lv_at hl 0 rfl) ?_
      refine ug_I hx hb ht hown hM hK hP 10 (by decide) lk_M_10 (by decide) d_M_numberToken_35 ?_
      obtain ⟨u7, r7, hc7, hf⟩ := bnd_some hf
      refine mV_i (As := [.int (u4.1 10)]) (rest := [.long (10 * v1)]) C0 hP hD hS (c_M_byteAt N hM hc7) k_M_byteAt hl_M_byteAt hi_M_byteAt hs_M_byteAt hini_M rfl rfl hd_M_byteAt rfl (rm_M_numberToken_M_byteAt hR) hl.1 (Nat.le_of_ble_eq_true rfl) d_M_numberToken_38 rfl ⟨Nat.zero_le _, Nat.zero_le _⟩ (fun H locs hP hD hS => ?_)
      refine lv_i2l hx hb d_M_numberToken_41 rfl ?_
      refine lv_ladd hx hb d_M_numberToken_42 ?_
      refine lv_ldc2 (v := 48) hx hb hown (ht _ (wd_of 2683 (by decide +kernel) rfl)) d_M_numberToken_43 ?_
      refine lv_lsub hx hb d_M_numberToken_46 ?_
      exact wb_M_numberToken_47 C0 hR N G hG _ _ _ hf H locs hP hD hS ls (lv_sub hl [0] rfl)
    · rw [br_n _ hc] at hf
      refine lv_lload_n hx hb d_M_numberToken_24 rfl (lv_at hl 1 rfl) ?_
      refine lv_goto (tgt := 47) hx hb d_M_numberToken_25 (by decide) ?_
      exact wb_M_numberToken_47 C0 hR N G hG _ _ _ hf H locs hP hD hS ls (lv_sub hl [0] rfl)
def fb_M_numberToken_0 (N : Nat) (G : (MS → Int64 → Option (MS × Unit))) (u : MS) : Option (MS × Unit) := G u (0)
set_option maxRecDepth 100000 in
set_option maxHeartbeats 4000000 in
theorem wb_M_numberToken_0 {p : Program} {l : Launch} {e : Env} {R : Room} {s : State} {m : MethodId} {args : Array Value} {below : List Frame} {meth : Method} {c : Code} {D : va_G} {cl : List vw_C} {cB cI cJ cZ cS : ClassId} {A : Nat → Prop} {iM h0 : Nat} {ad : Nat → Nat} (C0 : MCx p s m args meth c b_M_numberToken 3 none D cl cB cI cJ cZ cS iM A) (hR : R = rm_M_numberToken) (N : Nat) (G : (MS → Int64 → Option (MS × Unit))) (hG : (∀ (u : MS) (v1 : Int64) (x : MS × Unit), G u v1 = some x → ∀ (H : Heap) (locs : List Loc), va_P D cl (wM cB cI cJ cZ cS iM h0 ad u) H → va_D A (wM cB cI cJ cZ cS iM h0 ad u) → va_S A s.heap H locs → ∀ (ls : Array Slot), lv_has ls 3 [(0, .ref h0), (1, .long v1)] → W p l e R s m args below meth c H locs 0 0 (MQ below (mQv D cl cB cI cJ cZ cS iM h0 ad A x) args s 0 0 A) (F0 m 2 ls []))) : ∀ (u : MS) (x : MS × Unit), fb_M_numberToken_0 N G u = some x → ∀ (H : Heap) (locs : List Loc), va_P D cl (wM cB cI cJ cZ cS iM h0 ad u) H → va_D A (wM cB cI cJ cZ cS iM h0 ad u) → va_S A s.heap H locs → ∀ (ls : Array Slot), lv_has ls 3 [(0, .ref h0)] → W p l e R s m args below meth c H locs 0 0 (MQ below (mQv D cl cB cI cJ cZ cS iM h0 ad A x) args s 0 0 A) (F0 m 0 ls []) := by
  intro u x hf H locs hP hD hS ls hl
  obtain ⟨hx, hb, hr, hml, ht, hown, hM, hK, hA, hlocks⟩ := id C0
  unfold fb_M_numberToken_0 at hf
  refine lv_lconst (v := 0) hx hb d_M_numberToken_0 (by decide) ?_
  refine lv_lstore_n (lv' := [(1, .long 0), (0, .ref h0)]) hx hb d_M_numberToken_1 rfl hl (by decide) rfl (fun ls hl => ?_)
  exact hG _ _ _ hf H locs hP hD hS ls (lv_sub hl [1, 0] rfl)
def gg_M_numberToken (N : Nat) : Nat → ((MS → Int64 → Option (MS × Unit)))
  | 0 => fun _ _ => none
  | n + 1 => fb_M_numberToken_2 N (gg_M_numberToken N n)
theorem wg_M_numberToken {p : Program} {l : Launch} {e : Env} {R : Room} {s : State} {m : MethodId} {args : Array Value} {below : List Frame} {meth : Method} {c : Code} {D : va_G} {cl : List vw_C} {cB cI cJ cZ cS : ClassId} {A : Nat → Prop} {iM h0 : Nat} {ad : Nat → Nat} (C0 : MCx p s m args meth c b_M_numberToken 3 none D cl cB cI cJ cZ cS iM A) (hR : R = rm_M_numberToken) (N : Nat) : ∀ n : Nat, (∀ (u : MS) (v1 : Int64) (x : MS × Unit), gg_M_numberToken N n u v1 = some x → ∀ (H : Heap) (locs : List Loc), va_P D cl (wM cB cI cJ cZ cS iM h0 ad u) H → va_D A (wM cB cI cJ cZ cS iM h0 ad u) → va_S A s.heap H locs → ∀ (ls : Array Slot), lv_has ls 3 [(0, .ref h0), (1, .long v1)] → W p l e R s m args below meth c H locs 0 0 (MQ below (mQv D cl cB cI cJ cZ cS iM h0 ad A x) args s 0 0 A) (F0 m 2 ls []))
  | 0 => (fun u v1 x hf => by cases hf)
  | n + 1 => wb_M_numberToken_2 C0 hR N (gg_M_numberToken N n) (wg_M_numberToken C0 hR N n)
def fm_M_numberToken (N : Nat) (u : MS) : Option (MS × Unit) := fb_M_numberToken_0 N (gg_M_numberToken N N) u
set_option maxRecDepth 100000 in
set_option maxHeartbeats 4000000 in
theorem c_M_numberToken (N : Nat) {l : Launch} {D : va_G} {cl : List vw_C} {cB cI cJ cZ cS : ClassId} {iM h0 : Nat} {ad : Nat → Nat} {u : MS} {sz : Nat} {x : MS × Unit} (hM : cl[iM]? = some (R_M, F_M, 171)) (hf : fm_M_numberToken N u = some x) : Met l y_M_numberToken (wd_ws y_M_numberToken b_M_numberToken 3 none) rm_M_numberToken (mPc D cl cB cI cJ cZ cS iM h0 ad u sz [.ref h0]) (mQv D cl cB cI cJ cZ cS iM h0 ad (mA cB cI cJ cZ cS iM h0 ad u sz) x) 0 0 (mA cB cI cJ cZ cS iM h0 ad u sz) :=
  mMet (by decide) rfl hM (Nat.le_of_ble_eq_true rfl) (fun p e s m below meth c ls hsz C0 hP hD hS hl => by
    have hR : rm_M_numberToken = rm_M_numberToken := rfl
    exact wb_M_numberToken_0 C0 hR N (gg_M_numberToken N N) (wg_M_numberToken C0 hR N N) u x hf s.heap [] hP hD hS ls (lv_sub hl [0] rfl))
abbrev b_M_stringToken : ByteArray := prog_14_method_18_code
def y_M_stringToken : MethodName := ⟨R_M, "stringToken", "()V"⟩
def w_M_stringToken : List Cond := wd_ws y_M_stringToken b_M_stringToken 4 none
set_option maxRecDepth 100000 in
theorem k_M_stringToken : Cond.code y_M_stringToken b_M_stringToken 4 none ∈ wd_tbl := wd_of 2687 rfl rfl
theorem d_M_stringToken_0 : decode b_M_stringToken 0 = .ok (.iconst 0, 1) := by decide +kernel
theorem d_M_stringToken_1 : decode b_M_stringToken 1 = .ok (.istore_n 1, 1) := by decide +kernel
theorem d_M_stringToken_2 : decode b_M_stringToken 2 = .ok (.aload_n 0, 1) := by decide +kernel
theorem d_M_stringToken_3 : decode b_M_stringToken 3 = .ok (.dup, 1) := by decide +kernel
theorem d_M_stringToken_4 : decode b_M_stringToken 4 = .ok (.getfield 408, 3) := by decide +kernel
theorem d_M_stringToken_7 : decode b_M_stringToken 7 = .ok (.iconst 1, 1) := by decide +kernel
theorem d_M_stringToken_8 : decode b_M_stringToken 8 = .ok (.iadd, 1) := by decide +kernel
theorem d_M_stringToken_9 : decode b_M_stringToken 9 = .ok (.putfield 408, 3) := by decide +kernel
theorem d_M_stringToken_12 : decode b_M_stringToken 12 = .ok (.iconst 1, 1) := by decide +kernel
theorem d_M_stringToken_13 : decode b_M_stringToken 13 = .ok (.istore_n 2, 1) := by decide +kernel
theorem d_M_stringToken_14 : decode b_M_stringToken 14 = .ok (.iload_n 2, 1) := by decide +kernel
theorem d_M_stringToken_15 : decode b_M_stringToken 15 = .ok (.ifCond .eq 87, 3) := by decide +kernel
theorem d_M_stringToken_18 : decode b_M_stringToken 18 = .ok (.aload_n 0, 1) := by decide +kernel
theorem d_M_stringToken_19 : decode b_M_stringToken 19 = .ok (.aload_n 0, 1) := by decide +kernel
theorem d_M_stringToken_20 : decode b_M_stringToken 20 = .ok (.getfield 408, 3) := by decide +kernel
theorem d_M_stringToken_23 : decode b_M_stringToken 23 = .ok (.invokevirtual 414, 3) := by decide +kernel
theorem d_M_stringToken_26 : decode b_M_stringToken 26 = .ok (.bipush 34, 2) := by decide +kernel
theorem d_M_stringToken_28 : decode b_M_stringToken 28 = .ok (.if_icmp .eq 74, 3) := by decide +kernel
theorem d_M_stringToken_31 : decode b_M_stringToken 31 = .ok (.aload_n 0, 1) := by decide +kernel
theorem d_M_stringToken_32 : decode b_M_stringToken 32 = .ok (.aload_n 0, 1) := by decide +kernel
theorem d_M_stringToken_33 : decode b_M_stringToken 33 = .ok (.getfield 408, 3) := by decide +kernel
theorem d_M_stringToken_36 : decode b_M_stringToken 36 = .ok (.invokevirtual 414, 3) := by decide +kernel
theorem d_M_stringToken_39 : decode b_M_stringToken 39 = .ok (.istore_n 3, 1) := by decide +kernel
theorem d_M_stringToken_40 : decode b_M_stringToken 40 = .ok (.iload_n 3, 1) := by decide +kernel
theorem d_M_stringToken_41 : decode b_M_stringToken 41 = .ok (.bipush 32, 2) := by decide +kernel
theorem d_M_stringToken_43 : decode b_M_stringToken 43 = .ok (.if_icmp .lt 19, 3) := by decide +kernel
theorem d_M_stringToken_46 : decode b_M_stringToken 46 = .ok (.iload_n 3, 1) := by decide +kernel
theorem d_M_stringToken_47 : decode b_M_stringToken 47 = .ok (.bipush 126, 2) := by decide +kernel
theorem d_M_stringToken_49 : decode b_M_stringToken 49 = .ok (.if_icmp .gt 13, 3) := by decide +kernel
theorem d_M_stringToken_52 : decode b_M_stringToken 52 = .ok (.iload_n 1, 1) := by decide +kernel
theorem d_M_stringToken_53 : decode b_M_stringToken 53 = .ok (.bipush 40, 2) := by decide +kernel
theorem d_M_stringToken_55 : decode b_M_stringToken 55 = .ok (.if_icmp .ge 7, 3) := by decide +kernel
theorem d_M_stringToken_58 : decode b_M_stringToken 58 = .ok (.iconst 1, 1) := by decide +kernel
theorem d_M_stringToken_59 : decode b_M_stringToken 59 = .ok (.goto 4, 3) := by decide +kernel
theorem d_M_stringToken_62 : decode b_M_stringToken 62 = .ok (.iconst 0, 1) := by decide +kernel
theorem d_M_stringToken_63 : decode b_M_stringToken 63 = .ok (.istore_n 2, 1) := by decide +kernel
theorem d_M_stringToken_64 : decode b_M_stringToken 64 = .ok (.iload_n 2, 1) := by decide +kernel
theorem d_M_stringToken_65 : decode b_M_stringToken 65 = .ok (.ifCond .eq 34, 3) := by decide +kernel
theorem d_M_stringToken_68 : decode b_M_stringToken 68 = .ok (.aload_n 0, 1) := by decide +kernel
theorem d_M_stringToken_69 : decode b_M_stringToken 69 = .ok (.getfield 44, 3) := by decide +kernel
theorem d_M_stringToken_72 : decode b_M_stringToken 72 = .ok (.aload_n 0, 1) := by decide +kernel
theorem d_M_stringToken_73 : decode b_M_stringToken 73 = .ok (.getfield 47, 3) := by decide +kernel
theorem d_M_stringToken_76 : decode b_M_stringToken 76 = .ok (.aload_n 0, 1) := by decide +kernel
theorem d_M_stringToken_77 : decode b_M_stringToken 77 = .ok (.getfield 395, 3) := by decide +kernel
theorem d_M_stringToken_80 : decode b_M_stringToken 80 = .ok (.iaload, 1) := by decide +kernel
theorem d_M_stringToken_81 : decode b_M_stringToken 81 = .ok (.iload_n 1, 1) := by decide +kernel
theorem d_M_stringToken_82 : decode b_M_stringToken 82 = .ok (.iadd, 1) := by decide +kernel
theorem d_M_stringToken_83 : decode b_M_stringToken 83 = .ok (.iload_n 3, 1) := by decide +kernel
theorem d_M_stringToken_84 : decode b_M_stringToken 84 = .ok (.i2b, 1) := by decide +kernel
theorem d_M_stringToken_85 : decode b_M_stringToken 85 = .ok (.bastore, 1) := by decide +kernel
theorem d_M_stringToken_86 : decode b_M_stringToken 86 = .ok (.iinc 1 1, 3) := by decide +kernel
theorem d_M_stringToken_89 : decode b_M_stringToken 89 = .ok (.aload_n 0, 1) := by decide +kernel
theorem d_M_stringToken_90 : decode b_M_stringToken 90 = .ok (.dup, 1) := by decide +kernel
theorem d_M_stringToken_91 : decode b_M_stringToken 91 = .ok (.getfield 408, 3) := by decide +kernel
theorem d_M_stringToken_94 : decode b_M_stringToken 94 = .ok (.iconst 1, 1) := by decide +kernel
theorem d_M_stringToken_95 : decode b_M_stringToken 95 = .ok (.iadd, 1) := by decide +kernel
theorem d_M_stringToken_96 : decode b_M_stringToken 96 = .ok (.putfield 408, 3) := by decide +kernel
theorem d_M_stringToken_99 : decode b_M_stringToken 99 = .ok (.goto (-85), 3) := by decide +kernel
theorem d_M_stringToken_102 : decode b_M_stringToken 102 = .ok (.aload_n 0, 1) := by decide +kernel
theorem d_M_stringToken_103 : decode b_M_stringToken 103 = .ok (.dup, 1) := by decide +kernel
theorem d_M_stringToken_104 : decode b_M_stringToken 104 = .ok (.getfield 408, 3) := by decide +kernel
theorem d_M_stringToken_107 : decode b_M_stringToken 107 = .ok (.iconst 1, 1) := by decide +kernel
theorem d_M_stringToken_108 : decode b_M_stringToken 108 = .ok (.iadd, 1) := by decide +kernel
theorem d_M_stringToken_109 : decode b_M_stringToken 109 = .ok (.putfield 408, 3) := by decide +kernel
theorem d_M_stringToken_112 : decode b_M_stringToken 112 = .ok (.aload_n 0, 1) := by decide +kernel
theorem d_M_stringToken_113 : decode b_M_stringToken 113 = .ok (.iload_n 2, 1) := by decide +kernel
theorem d_M_stringToken_114 : decode b_M_stringToken 114 = .ok (.ifCond .eq 7, 3) := by decide +kernel
theorem d_M_stringToken_117 : decode b_M_stringToken 117 = .ok (.iconst 5, 1) := by decide +kernel
theorem d_M_stringToken_118 : decode b_M_stringToken 118 = .ok (.goto 5, 3) := by decide +kernel
theorem d_M_stringToken_121 : decode b_M_stringToken 121 = .ok (.bipush 7, 2) := by decide +kernel
theorem d_M_stringToken_123 : decode b_M_stringToken 123 = .ok (.aload_n 0, 1) := by decide +kernel
theorem d_M_stringToken_124 : decode b_M_stringToken 124 = .ok (.getfield 395, 3) := by decide +kernel
theorem d_M_stringToken_127 : decode b_M_stringToken 127 = .ok (.invokevirtual 431, 3) := by decide +kernel
theorem d_M_stringToken_130 : decode b_M_stringToken 130 = .ok (.aload_n 0, 1) := by decide +kernel
theorem d_M_stringToken_131 : decode b_M_stringToken 131 = .ok (.getfield 47, 3) := by decide +kernel
theorem d_M_stringToken_134 : decode b_M_stringToken 134 = .ok (.aload_n 0, 1) := by decide +kernel
theorem d_M_stringToken_135 : decode b_M_stringToken 135 = .ok (.getfield 395, 3) := by decide +kernel
theorem d_M_stringToken_138 : decode b_M_stringToken 138 = .ok (.iconst 1, 1) := by decide +kernel
theorem d_M_stringToken_139 : decode b_M_stringToken 139 = .ok (.iadd, 1) := by decide +kernel
theorem d_M_stringToken_140 : decode b_M_stringToken 140 = .ok (.aload_n 0, 1) := by decide +kernel
theorem d_M_stringToken_141 : decode b_M_stringToken 141 = .ok (.getfield 47, 3) := by decide +kernel
theorem d_M_stringToken_144 : decode b_M_stringToken 144 = .ok (.aload_n 0, 1) := by decide +kernel
theorem d_M_stringToken_145 : decode b_M_stringToken 145 = .ok (.getfield 395, 3) := by decide +kernel
theorem d_M_stringToken_148 : decode b_M_stringToken 148 = .ok (.iaload, 1) := by decide +kernel
theorem d_M_stringToken_149 : decode b_M_stringToken 149 = .ok (.iload_n 1, 1) := by decide +kernel
theorem d_M_stringToken_150 : decode b_M_stringToken 150 = .ok (.iadd, 1) := by decide +kernel
theorem d_M_stringToken_151 : decode b_M_stringToken 151 = .ok (.iastore, 1) := by decide +kernel
theorem d_M_stringToken_152 : decode b_M_stringToken 152 = .ok (.aload_n 0, 1) := by decide +kernel
theorem d_M_stringToken_153 : decode b_M_stringToken 153 = .ok (.dup, 1) := by decide +kernel
theorem d_M_stringToken_154 : decode b_M_stringToken 154 = .ok (.getfield 395, 3) := by decide +kernel
theorem d_M_stringToken_157 : decode b_M_stringToken 157 = .ok (.iconst 1, 1) := by decide +kernel
theorem d_M_stringToken_158 : decode b_M_stringToken 158 = .ok (.iadd, 1) := by decide +kernel
theorem d_M_stringToken_159 : decode b_M_stringToken 159 = .ok (.putfield 395, 3) := by decide +kernel
theorem d_M_stringToken_162 : decode b_M_stringToken 162 = .ok (.return_, 1) := by decide +kernel
set_option maxRecDepth 100000 in
theorem hl_M_stringToken : Cond.methodLink R_M 425 y_M_stringToken ∈ wd_tbl := wd_of 2684 (by decide +kernel) rfl
set_option maxRecDepth 100000 in
theorem hi_M_stringToken : Cond.instanceMethod y_M_stringToken ∈ wd_tbl := wd_of 2686 (by decide +kernel) rfl
set_option maxRecDepth 100000 in
theorem hs_M_stringToken : Cond.selects R_M y_M_stringToken y_M_stringToken ∈ wd_tbl := wd_of 135 (by decide +kernel) rfl
theorem hd_M_stringToken : y_M_stringToken.cls = R_M ∧ y_M_stringToken.cls ≠ "java/lang/invoke/MethodHandle" ∧ y_M_stringToken.cls ≠ "java/lang/invoke/VarHandle" ∧ (parseMethodDescriptor y_M_stringToken.desc).map (fun d => d.parameters.length) = some 0 := by decide +kernel
def rm_M_stringToken : Room := { frames := 1, cells := 0, slots := 0, locals := 22 }
theorem rm_M_stringToken_M_byteAt {R : Room} (hR : R = rm_M_stringToken) : (rm_M_byteAt).frames + 1 ≤ R.frames ∧ 8 + (2 + 11) + (rm_M_byteAt).locals ≤ R.locals := by subst hR; decide
theorem rm_M_stringToken_M_token {R : Room} (hR : R = rm_M_stringToken) : (rm_M_token).frames + 1 ≤ R.frames ∧ 8 + (3 + 11) + (rm_M_token).locals ≤ R.locals := by subst hR; decide
