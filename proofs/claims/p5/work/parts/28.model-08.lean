def fb_M_function1_87 (N : Nat) (G : Unit) (u : MS) (t0 : Int32) : Option (MS × Int32) := some (u, t0)
set_option maxRecDepth 100000 in
set_option maxHeartbeats 4000000 in
theorem wb_M_function1_87 {p : Program} {l : Launch} {e : Env} {R : Room} {s : State} {m : MethodId} {args : Array Value} {below : List Frame} {meth : Method} {c : Code} {D : va_G} {cl : List vw_C} {cB cI cJ cZ cS : ClassId} {A : Nat → Prop} {iM h0 : Nat} {ad : Nat → Nat} (C0 : MCx p s m args meth c b_M_function1 3 (some .int) D cl cB cI cJ cZ cS iM A) (hR : R = rm_M_function1) (N : Nat) (G : Unit) (hG : True) : ∀ (u : MS) (t0 : Int32) (x : MS × Int32), fb_M_function1_87 N G u t0 = some x → ∀ (H : Heap) (locs : List Loc), va_P D cl (wM cB cI cJ cZ cS iM h0 ad u) H → va_D A (wM cB cI cJ cZ cS iM h0 ad u) → va_S A s.heap H locs → ∀ (ls : Array Slot), lv_has ls 3 [] → W p l e R s m args below meth c H locs 0 0 (MQ below (mQi D cl cB cI cJ cZ cS iM h0 ad A x) args s 0 0 A) (F0 m 87 ls [.int t0]) := by
  intro u t0 x hf H locs hP hD hS ls hl
  obtain ⟨hx, hb, hr, hml, ht, hown, hM, hK, hA, hlocks⟩ := id C0
  unfold fb_M_function1_87 at hf
  exact mr_i C0 hP hD hS hf d_M_function1_87
def fb_M_function1_33 (N : Nat) (G : Unit) (u : MS) : Option (MS × Int32) := some (u, (-1))
set_option maxRecDepth 100000 in
set_option maxHeartbeats 4000000 in
theorem wb_M_function1_33 {p : Program} {l : Launch} {e : Env} {R : Room} {s : State} {m : MethodId} {args : Array Value} {below : List Frame} {meth : Method} {c : Code} {D : va_G} {cl : List vw_C} {cB cI cJ cZ cS : ClassId} {A : Nat → Prop} {iM h0 : Nat} {ad : Nat → Nat} (C0 : MCx p s m args meth c b_M_function1 3 (some .int) D cl cB cI cJ cZ cS iM A) (hR : R = rm_M_function1) (N : Nat) (G : Unit) (hG : True) : ∀ (u : MS) (x : MS × Int32), fb_M_function1_33 N G u = some x → ∀ (H : Heap) (locs : List Loc), va_P D cl (wM cB cI cJ cZ cS iM h0 ad u) H → va_D A (wM cB cI cJ cZ cS iM h0 ad u) → va_S A s.heap H locs → ∀ (ls : Array Slot), lv_has ls 3 [] → W p l e R s m args below meth c H locs 0 0 (MQ below (mQi D cl cB cI cJ cZ cS iM h0 ad A x) args s 0 0 A) (F0 m 33 ls []) := by
  intro u x hf H locs hP hD hS ls hl
  obtain ⟨hx, hb, hr, hml, ht, hown, hM, hK, hA, hlocks⟩ := id C0
  unfold fb_M_function1_33 at hf
  refine lv_iconst (v := (-1)) hx hb d_M_function1_33 (by decide) ?_
  exact mr_i C0 hP hD hS hf d_M_function1_34
def fb_M_function1_0 (N : Nat) (G : Unit) (u : MS) (v1 : Int32) (v2 : Int32) : Option (MS × Int32) := lt (upI u 3 0) (fun w1 => br (decide ((w1.1 86) = 0)) (fb_M_function1_33 N G w1) (br (decide (v1 < 0)) (fb_M_function1_33 N G w1) (br (decide ((w1.1 52) ≤ v1)) (fb_M_function1_33 N G w1) (br (decide (v2 < 0)) (fb_M_function1_33 N G w1) (br (decide (v2 ≤ 3)) (br (decide (v2 = 0)) (ck (inb v1 (ln 47)) (fb_M_function1_87 N G w1 ((w1.2.2.1 47 v1.toNatClampNeg)))) (br (decide (v2 = 1)) (ck (inb v1 (ln 48)) (fb_M_function1_87 N G w1 ((w1.2.2.1 48 v1.toNatClampNeg)))) (br (decide (v2 = 2)) (ck (inb v1 (ln 51)) (fb_M_function1_87 N G w1 ((w1.2.2.1 51 v1.toNatClampNeg)))) (ck (inb v1 (ln 49)) (ck (inb (w1.2.2.1 49 v1.toNatClampNeg) (ln 8)) (fb_M_function1_87 N G w1 ((w1.2.2.1 8 (w1.2.2.1 49 v1.toNatClampNeg).toNatClampNeg)))))))) (fb_M_function1_33 N G w1))))))
set_option maxRecDepth 100000 in
set_option maxHeartbeats 4000000 in
theorem wb_M_function1_0 {p : Program} {l : Launch} {e : Env} {R : Room} {s : State} {m : MethodId} {args : Array Value} {below : List Frame} {meth : Method} {c : Code} {D : va_G} {cl : List vw_C} {cB cI cJ cZ cS : ClassId} {A : Nat → Prop} {iM h0 : Nat} {ad : Nat → Nat} (C0 : MCx p s m args meth c b_M_function1 3 (some .int) D cl cB cI cJ cZ cS iM A) (hR : R = rm_M_function1) (N : Nat) (G : Unit) (hG : True) : ∀ (u : MS) (v1 : Int32) (v2 : Int32) (x : MS × Int32), fb_M_function1_0 N G u v1 v2 = some x → ∀ (H : Heap) (locs : List Loc), va_P D cl (wM cB cI cJ cZ cS iM h0 ad u) H → va_D A (wM cB cI cJ cZ cS iM h0 ad u) → va_S A s.heap H locs → ∀ (ls : Array Slot), lv_has ls 3 [(0, .ref h0), (1, .int v1), (2, .int v2)] → W p l e R s m args below meth c H locs 0 0 (MQ below (mQi D cl cB cI cJ cZ cS iM h0 ad A x) args s 0 0 A) (F0 m 0 ls []) := by
  intro u v1 v2 x hf H locs hP hD hS ls hl
  obtain ⟨hx, hb, hr, hml, ht, hown, hM, hK, hA, hlocks⟩ := id C0
  unfold fb_M_function1_0 at hf
  refine lv_aload_n hx hb d_M_function1_0 rfl (lv_at hl 0 rfl) ?_
  refine lv_iconst (v := 0) hx hb d_M_function1_1 (by decide) ?_
  refine up_I hx hb ht hown hM hK hP hD hS 3 (by decide) lk_M_3 (by decide) rfl rfl rfl d_M_function1_2 (fun H locs hP hD hS => ?_)
  obtain ⟨w1, e1, hf⟩ := lt_some hf
  rw [← e1] at hP hD
  refine lv_aload_n hx hb d_M_function1_5 rfl (lv_at hl 0 rfl) ?_
  refine ug_I hx hb ht hown hM hK hP 86 (by decide) lk_M_86 (by decide) d_M_function1_6 ?_
  refine lv_if_eq (tgt := 33) hx hb d_M_function1_9 (by decide) (fun hc => ?_) (fun hc => ?_)
  · rw [br_p _ hc] at hf
    exact wb_M_function1_33 C0 hR N G hG _ _ hf H locs hP hD hS ls (lv_sub hl [] rfl)
  · rw [br_n _ hc] at hf
    refine lv_iload_n hx hb d_M_function1_12 rfl (lv_at hl 1 rfl) ?_
    refine lv_if_lt (tgt := 33) hx hb d_M_function1_13 (by decide) (fun hc => ?_) (fun hc => ?_)
    · rw [br_p _ hc] at hf
      exact wb_M_function1_33 C0 hR N G hG _ _ hf H locs hP hD hS ls (lv_sub hl [] rfl)
    · rw [br_n _ hc] at hf
      refine lv_iload_n hx hb d_M_function1_16 rfl (lv_at hl 1 rfl) ?_
      refine lv_aload_n hx hb d_M_function1_17 rfl (lv_at hl 0 rfl) ?_
      refine ug_I hx hb ht hown hM hK hP 52 (by decide) lk_M_52 (by decide) d_M_function1_18 ?_
      refine lv_icmp_ge (tgt := 33) hx hb d_M_function1_21 (by decide) (fun hc => ?_) (fun hc => ?_)
      · rw [br_p _ hc] at hf
        exact wb_M_function1_33 C0 hR N G hG _ _ hf H locs hP hD hS ls (lv_sub hl [] rfl)
      · rw [br_n _ hc] at hf
        refine lv_iload_n hx hb d_M_function1_24 rfl (lv_at hl 2 rfl) ?_
        refine lv_if_lt (tgt := 33) hx hb d_M_function1_25 (by decide) (fun hc => ?_) (fun hc => ?_)
        · rw [br_p _ hc] at hf
          exact wb_M_function1_33 C0 hR N G hG _ _ hf H locs hP hD hS ls (lv_sub hl [] rfl)
        · rw [br_n _ hc] at hf
          refine lv_iload_n hx hb d_M_function1_28 rfl (lv_at hl 2 rfl) ?_
          refine lv_iconst (v := 3) hx hb d_M_function1_29 (by decide) ?_
          refine lv_icmp_le (tgt := 35) hx hb d_M_function1_30 (by decide) (fun hc => ?_) (fun hc => ?_)
          · rw [br_p _ hc] at hf
            refine lv_iload_n hx hb d_M_function1_35 rfl (lv_at hl 2 rfl) ?_
            refine lv_if_ne (tgt := 48) hx hb d_M_function1_36 (by decide) (fun hc => ?_) (fun hc => ?_)
            · rw [br_n _ hc] at hf
              refine lv_iload_n hx hb d_M_function1_48 rfl (lv_at hl 2 rfl) ?_
              refine lv_iconst (v := 1) hx hb d_M_function1_49 (by decide) ?_
              refine lv_icmp_ne (tgt := 62) hx hb d_M_function1_50 (by decide) (fun hc => ?_) (fun hc => ?_)
              · rw [br_n _ hc] at hf
                refine lv_iload_n hx hb d_M_function1_62 rfl (lv_at hl 2 rfl) ?_
                refine lv_iconst (v := 2) hx hb d_M_function1_63 (by decide) ?_
                refine lv_icmp_ne (tgt := 76) hx hb d_M_function1_64 (by decide) (fun hc => ?_) (fun hc => ?_)
                · rw [br_n _ hc] at hf
                  refine lv_aload_n hx hb d_M_function1_76 rfl (lv_at hl 0 rfl) ?_
                  refine ug_R hx hb ht hown hM hK hP 8 (by decide) lk_M_8 (by decide) d_M_function1_77 ?_
                  refine lv_aload_n hx hb d_M_function1_80 rfl (lv_at hl 0 rfl) ?_
                  refine ug_R hx hb ht hown hM hK hP 49 (by decide) lk_M_49 (by decide) d_M_function1_81 ?_
                  refine lv_iload_n hx hb d_M_function1_84 rfl (lv_at hl 1 rfl) ?_
                  obtain ⟨hi9, hf⟩ := ck_some hf
                  refine ul_I hx hb hK hP (by decide) (by decide) hi9 d_M_function1_85 ?_
                  obtain ⟨hi9, hf⟩ := ck_some hf
                  refine ul_I hx hb hK hP (by decide) (by decide) hi9 d_M_function1_86 ?_
                  exact wb_M_function1_87 C0 hR N G hG _ _ _ hf H locs hP hD hS ls (lv_sub hl [] rfl)
                · rw [br_p _ hc] at hf
                  refine lv_aload_n hx hb d_M_function1_67 rfl (lv_at hl 0 rfl) ?_
                  refine ug_R hx hb ht hown hM hK hP 51 (by decide) lk_M_51 (by decide) d_M_function1_68 ?_
                  refine lv_iload_n hx hb d_M_function1_71 rfl (lv_at hl 1 rfl) ?_
                  obtain ⟨hi9, hf⟩ := ck_some hf
                  refine ul_I hx hb hK hP (by decide) (by decide) hi9 d_M_function1_72 ?_
                  refine lv_goto (tgt := 87) hx hb d_M_function1_73 (by decide) ?_
                  exact wb_M_function1_87 C0 hR N G hG _ _ _ hf H locs hP hD hS ls (lv_sub hl [] rfl)
              · rw [br_p _ hc] at hf
                refine lv_aload_n hx hb d_M_function1_53 rfl (lv_at hl 0 rfl) ?_
                refine ug_R hx hb ht hown hM hK hP 48 (by decide) lk_M_48 (by decide) d_M_function1_54 ?_
                refine lv_iload_n hx hb d_M_function1_57 rfl (lv_at hl 1 rfl) ?_
                obtain ⟨hi9, hf⟩ := ck_some hf
                refine ul_I hx hb hK hP (by decide) (by decide) hi9 d_M_function1_58 ?_
                refine lv_goto (tgt := 87) hx hb d_M_function1_59 (by decide) ?_
                exact wb_M_function1_87 C0 hR N G hG _ _ _ hf H locs hP hD hS ls (lv_sub hl [] rfl)
            · rw [br_p _ hc] at hf
              refine lv_aload_n hx hb d_M_function1_39 rfl (lv_at hl 0 rfl) ?_
              refine ug_R hx hb ht hown hM hK hP 47 (by decide) lk_M_47 (by decide) d_M_function1_40 ?_
              refine lv_iload_n hx hb d_M_function1_43 rfl (lv_at hl 1 rfl) ?_
              obtain ⟨hi9, hf⟩ := ck_some hf
              refine ul_I hx hb hK hP (by decide) (by decide) hi9 d_M_function1_44 ?_
              refine lv_goto (tgt := 87) hx hb d_M_function1_45 (by decide) ?_
              exact wb_M_function1_87 C0 hR N G hG _ _ _ hf H locs hP hD hS ls (lv_sub hl [] rfl)
          · rw [br_n _ hc] at hf
            exact wb_M_function1_33 C0 hR N G hG _ _ hf H locs hP hD hS ls (lv_sub hl [] rfl)
def fm_M_function1 (N : Nat) (u : MS) (v1 : Int32) (v2 : Int32) : Option (MS × Int32) := fb_M_function1_0 N () u v1 v2
set_option maxRecDepth 100000 in
set_option maxHeartbeats 4000000 in
theorem c_M_function1 (N : Nat) {l : Launch} {D : va_G} {cl : List vw_C} {cB cI cJ cZ cS : ClassId} {iM h0 : Nat} {ad : Nat → Nat} {u : MS} {sz : Nat} {v1 : Int32} {v2 : Int32} {x : MS × Int32} (hM : cl[iM]? = some (R_M, F_M, 171)) (hf : fm_M_function1 N u v1 v2 = some x) : Met l y_M_function1 (wd_ws y_M_function1 b_M_function1 3 (some .int)) rm_M_function1 (mPc D cl cB cI cJ cZ cS iM h0 ad u sz [.ref h0, .int v1, .int v2]) (mQi D cl cB cI cJ cZ cS iM h0 ad (mA cB cI cJ cZ cS iM h0 ad u sz) x) 0 0 (mA cB cI cJ cZ cS iM h0 ad u sz) :=
  mMet (by decide) rfl hM (Nat.le_of_ble_eq_true rfl) (fun p e s m below meth c ls hsz C0 hP hD hS hl => by
    have hR : rm_M_function1 = rm_M_function1 := rfl
    exact wb_M_function1_0 C0 hR N () trivial u _ _ x hf s.heap [] hP hD hS ls (lv_sub hl [0, 1, 2] rfl))
abbrev b_M_letter : ByteArray := prog_14_method_76_code
def y_M_letter : MethodName := ⟨R_M, "letter", "(II)I"⟩
def w_M_letter : List Cond := wd_ws y_M_letter b_M_letter 3 (some .int)
set_option maxRecDepth 100000 in
theorem k_M_letter : Cond.code y_M_letter b_M_letter 3 (some .int) ∈ wd_tbl := wd_of 2895 rfl rfl
theorem d_M_letter_0 : decode b_M_letter 0 = .ok (.aload_n 0, 1) := by decide +kernel
theorem d_M_letter_1 : decode b_M_letter 1 = .ok (.iconst 0, 1) := by decide +kernel
theorem d_M_letter_2 : decode b_M_letter 2 = .ok (.putfield 369, 3) := by decide +kernel
theorem d_M_letter_5 : decode b_M_letter 5 = .ok (.aload_n 0, 1) := by decide +kernel
theorem d_M_letter_6 : decode b_M_letter 6 = .ok (.getfield 654, 3) := by decide +kernel
theorem d_M_letter_9 : decode b_M_letter 9 = .ok (.ifCond .eq 38, 3) := by decide +kernel
theorem d_M_letter_12 : decode b_M_letter 12 = .ok (.iload_n 1, 1) := by decide +kernel
theorem d_M_letter_13 : decode b_M_letter 13 = .ok (.ifCond .lt 34, 3) := by decide +kernel
theorem d_M_letter_16 : decode b_M_letter 16 = .ok (.iload_n 1, 1) := by decide +kernel
theorem d_M_letter_17 : decode b_M_letter 17 = .ok (.aload_n 0, 1) := by decide +kernel
theorem d_M_letter_18 : decode b_M_letter 18 = .ok (.getfield 385, 3) := by decide +kernel
theorem d_M_letter_21 : decode b_M_letter 21 = .ok (.if_icmp .ge 26, 3) := by decide +kernel
theorem d_M_letter_24 : decode b_M_letter 24 = .ok (.iload_n 2, 1) := by decide +kernel
theorem d_M_letter_25 : decode b_M_letter 25 = .ok (.ifCond .lt 22, 3) := by decide +kernel
theorem d_M_letter_28 : decode b_M_letter 28 = .ok (.iload_n 2, 1) := by decide +kernel
theorem d_M_letter_29 : decode b_M_letter 29 = .ok (.aload_n 0, 1) := by decide +kernel
theorem d_M_letter_30 : decode b_M_letter 30 = .ok (.getfield 35, 3) := by decide +kernel
theorem d_M_letter_33 : decode b_M_letter 33 = .ok (.iload_n 1, 1) := by decide +kernel
theorem d_M_letter_34 : decode b_M_letter 34 = .ok (.iconst 1, 1) := by decide +kernel
theorem d_M_letter_35 : decode b_M_letter 35 = .ok (.iadd, 1) := by decide +kernel
theorem d_M_letter_36 : decode b_M_letter 36 = .ok (.iaload, 1) := by decide +kernel
theorem d_M_letter_37 : decode b_M_letter 37 = .ok (.aload_n 0, 1) := by decide +kernel
theorem d_M_letter_38 : decode b_M_letter 38 = .ok (.getfield 35, 3) := by decide +kernel
theorem d_M_letter_41 : decode b_M_letter 41 = .ok (.iload_n 1, 1) := by decide +kernel
theorem d_M_letter_42 : decode b_M_letter 42 = .ok (.iaload, 1) := by decide +kernel
theorem d_M_letter_43 : decode b_M_letter 43 = .ok (.isub, 1) := by decide +kernel
theorem d_M_letter_44 : decode b_M_letter 44 = .ok (.if_icmp .lt 5, 3) := by decide +kernel
theorem d_M_letter_47 : decode b_M_letter 47 = .ok (.iconst (-1), 1) := by decide +kernel
theorem d_M_letter_48 : decode b_M_letter 48 = .ok (.ireturn, 1) := by decide +kernel
theorem d_M_letter_49 : decode b_M_letter 49 = .ok (.aload_n 0, 1) := by decide +kernel
theorem d_M_letter_50 : decode b_M_letter 50 = .ok (.getfield 32, 3) := by decide +kernel
theorem d_M_letter_53 : decode b_M_letter 53 = .ok (.aload_n 0, 1) := by decide +kernel
theorem d_M_letter_54 : decode b_M_letter 54 = .ok (.getfield 35, 3) := by decide +kernel
theorem d_M_letter_57 : decode b_M_letter 57 = .ok (.iload_n 1, 1) := by decide +kernel
theorem d_M_letter_58 : decode b_M_letter 58 = .ok (.iaload, 1) := by decide +kernel
theorem d_M_letter_59 : decode b_M_letter 59 = .ok (.iload_n 2, 1) := by decide +kernel
theorem d_M_letter_60 : decode b_M_letter 60 = .ok (.iadd, 1) := by decide +kernel
theorem d_M_letter_61 : decode b_M_letter 61 = .ok (.baload, 1) := by decide +kernel
theorem d_M_letter_62 : decode b_M_letter 62 = .ok (.ireturn, 1) := by decide +kernel
def rm_M_letter : Room := { frames := 0, cells := 0, slots := 0, locals := 0 }
def fb_M_letter_47 (N : Nat) (G : Unit) (u : MS) : Option (MS × Int32) := some (u, (-1))
set_option maxRecDepth 100000 in
set_option maxHeartbeats 4000000 in
theorem wb_M_letter_47 {p : Program} {l : Launch} {e : Env} {R : Room} {s : State} {m : MethodId} {args : Array Value} {below : List Frame} {meth : Method} {c : Code} {D : va_G} {cl : List vw_C} {cB cI cJ cZ cS : ClassId} {A : Nat → Prop} {iM h0 : Nat} {ad : Nat → Nat} (C0 : MCx p s m args meth c b_M_letter 3 (some .int) D cl cB cI cJ cZ cS iM A) (hR : R = rm_M_letter) (N : Nat) (G : Unit) (hG : True) : ∀ (u : MS) (x : MS × Int32), fb_M_letter_47 N G u = some x → ∀ (H : Heap) (locs : List Loc), va_P D cl (wM cB cI cJ cZ cS iM h0 ad u) H → va_D A (wM cB cI cJ cZ cS iM h0 ad u) → va_S A s.heap H locs → ∀ (ls : Array Slot), lv_has ls 3 [] → W p l e R s m args below meth c H locs 0 0 (MQ below (mQi D cl cB cI cJ cZ cS iM h0 ad A x) args s 0 0 A) (F0 m 47 ls []) := by
  intro u x hf H locs hP hD hS ls hl
  obtain ⟨hx, hb, hr, hml, ht, hown, hM, hK, hA, hlocks⟩ := id C0
  unfold fb_M_letter_47 at hf
  refine lv_iconst (v := (-1)) hx hb d_M_letter_47 (by decide) ?_
  exact mr_i C0 hP hD hS hf d_M_letter_48
def fb_M_letter_0 (N : Nat) (G : Unit) (u : MS) (v1 : Int32) (v2 : Int32) : Option (MS × Int32) := lt (upI u 3 0) (fun w1 => br (decide ((w1.1 86) = 0)) (fb_M_letter_47 N G w1) (br (decide (v1 < 0)) (fb_M_letter_47 N G w1) (br (decide ((w1.1 14) ≤ v1)) (fb_M_letter_47 N G w1) (br (decide (v2 < 0)) (fb_M_letter_47 N G w1) (ck (inb (v1 + 1) (ln 13)) (ck (inb v1 (ln 13)) (br (decide (v2 < ((w1.2.2.1 13 (v1 + 1).toNatClampNeg) - (w1.2.2.1 13 v1.toNatClampNeg)))) (ck (inb v1 (ln 13)) (ck (inb ((w1.2.2.1 13 v1.toNatClampNeg) + v2) (ln 12)) (some (w1, (w1.2.2.1 12 ((w1.2.2.1 13 v1.toNatClampNeg) + v2).toNatClampNeg))))) (fb_M_letter_47 N G w1))))))))
set_option maxRecDepth 100000 in
set_option maxHeartbeats 4000000 in
theorem wb_M_letter_0 {p : Program} {l : Launch} {e : Env} {R : Room} {s : State} {m : MethodId} {args : Array Value} {below : List Frame} {meth : Method} {c : Code} {D : va_G} {cl : List vw_C} {cB cI cJ cZ cS : ClassId} {A : Nat → Prop} {iM h0 : Nat} {ad : Nat → Nat} (C0 : MCx p s m args meth c b_M_letter 3 (some .int) D cl cB cI cJ cZ cS iM A) (hR : R = rm_M_letter) (N : Nat) (G : Unit) (hG : True) : ∀ (u : MS) (v1 : Int32) (v2 : Int32) (x : MS × Int32), fb_M_letter_0 N G u v1 v2 = some x → ∀ (H : Heap) (locs : List Loc), va_P D cl (wM cB cI cJ cZ cS iM h0 ad u) H → va_D A (wM cB cI cJ cZ cS iM h0 ad u) → va_S A s.heap H locs → ∀ (ls : Array Slot), lv_has ls 3 [(0, .ref h0), (1, .int v1), (2, .int v2)] → W p l e R s m args below meth c H locs 0 0 (MQ below (mQi D cl cB cI cJ cZ cS iM h0 ad A x) args s 0 0 A) (F0 m 0 ls []) := by
  intro u v1 v2 x hf H locs hP hD hS ls hl
  obtain ⟨hx, hb, hr, hml, ht, hown, hM, hK, hA, hlocks⟩ := id C0
  unfold fb_M_letter_0 at hf
  refine lv_aload_n hx hb d_M_letter_0 rfl (lv_at hl 0 rfl) ?_
  refine lv_iconst (v := 0) hx hb d_M_letter_1 (by decide) ?_
  refine up_I hx hb ht hown hM hK hP hD hS 3 (by decide) lk_M_3 (by decide) rfl rfl rfl d_M_letter_2 (fun H locs hP hD hS => ?_)
  obtain ⟨w1, e1, hf⟩ := lt_some hf
  rw [← e1] at hP hD
  refine lv_aload_n hx hb d_M_letter_5 rfl (lv_at hl 0 rfl) ?_
  refine ug_I hx hb ht hown hM hK hP 86 (by decide) lk_M_86 (by decide) d_M_letter_6 ?_
  refine lv_if_eq (tgt := 47) hx hb d_M_letter_9 (by decide) (fun hc => ?_) (fun hc => ?_)
  · rw [br_p _ hc] at hf
    exact wb_M_letter_47 C0 hR N G hG _ _ hf H locs hP hD hS ls (lv_sub hl [] rfl)
  · rw [br_n _ hc] at hf
    refine lv_iload_n hx hb d_M_letter_12 rfl (lv_at hl 1 rfl) ?_
    refine lv_if_lt (tgt := 47) hx hb d_M_letter_13 (by decide) (fun hc => ?_) (fun hc => ?_)
    · rw [br_p _ hc] at hf
      exact wb_M_letter_47 C0 hR N G hG _ _ hf H locs hP hD hS ls (lv_sub hl [] rfl)
    · rw [br_n _ hc] at hf
      refine lv_iload_n hx hb d_M_letter_16 rfl (lv_at hl 1 rfl) ?_
      refine lv_aload_n hx hb d_M_letter_17 rfl (lv_at hl 0 rfl) ?_
      refine ug_I hx hb ht hown hM hK hP 14 (by decide) lk_M_14 (by decide) d_M_letter_18 ?_
      refine lv_icmp_ge (tgt := 47) hx hb d_M_letter_21 (by decide) (fun hc => ?_) (fun hc => ?_)
      · rw [br_p _ hc] at hf
        exact wb_M_letter_47 C0 hR N G hG _ _ hf H locs hP hD hS ls (lv_sub hl [] rfl)
      · rw [br_n _ hc] at hf
        refine lv_iload_n hx hb d_M_letter_24 rfl (lv_at hl 2 rfl) ?_
        refine lv_if_lt (tgt := 47) hx hb d_M_letter_25 (by decide) (fun hc => ?_) (fun hc => ?_)
        · rw [br_p _ hc] at hf
          exact wb_M_letter_47 C0 hR N G hG _ _ hf H locs hP hD hS ls (lv_sub hl [] rfl)
        · rw [br_n _ hc] at hf
          refine lv_iload_n hx hb d_M_letter_28 rfl (lv_at hl 2 rfl) ?_
          refine lv_aload_n hx hb d_M_letter_29 rfl (lv_at hl 0 rfl) ?_
          refine ug_R hx hb ht hown hM hK hP 13 (by decide) lk_M_13 (by decide) d_M_letter_30 ?_
          refine lv_iload_n hx hb d_M_letter_33 rfl (lv_at hl 1 rfl) ?_
          refine lv_iconst (v := 1) hx hb d_M_letter_34 (by decide) ?_
          refine lv_iadd hx hb d_M_letter_35 ?_
          obtain ⟨hi9, hf⟩ := ck_some hf
          refine ul_I hx hb hK hP (by decide) (by decide) hi9 d_M_letter_36 ?_
          refine lv_aload_n hx hb d_M_letter_37 rfl (lv_at hl 0 rfl) ?_
          refine ug_R hx hb ht hown hM hK hP 13 (by decide) lk_M_13 (by decide) d_M_letter_38 ?_
          refine lv_iload_n hx hb d_M_letter_41 rfl (lv_at hl 1 rfl) ?_
          obtain ⟨hi9, hf⟩ := ck_some hf
          refine ul_I hx hb hK hP (by decide) (by decide) hi9 d_M_letter_42 ?_
          refine lv_isub hx hb d_M_letter_43 ?_
          refine lv_icmp_lt (tgt := 49) hx hb d_M_letter_44 (by decide) (fun hc => ?_) (fun hc => ?_)
          · rw [br_p _ hc] at hf
            refine lv_aload_n hx hb d_M_letter_49 rfl (lv_at hl 0 rfl) ?_
            refine ug_R hx hb ht hown hM hK hP 12 (by decide) lk_M_12 (by decide) d_M_letter_50 ?_
            refine lv_aload_n hx hb d_M_letter_53 rfl (lv_at hl 0 rfl) ?_
            refine ug_R hx hb ht hown hM hK hP 13 (by decide) lk_M_13 (by decide) d_M_letter_54 ?_
            refine lv_iload_n hx hb d_M_letter_57 rfl (lv_at hl 1 rfl) ?_
            obtain ⟨hi9, hf⟩ := ck_some hf
            refine ul_I hx hb hK hP (by decide) (by decide) hi9 d_M_letter_58 ?_
            refine lv_iload_n hx hb d_M_letter_59 rfl (lv_at hl 2 rfl) ?_
            refine lv_iadd hx hb d_M_letter_60 ?_
            obtain ⟨hi9, hf⟩ := ck_some hf
            refine ul_B hx hb hK hP (by decide) (by decide) hi9 d_M_letter_61 ?_
            exact mr_i C0 hP hD hS hf d_M_letter_62
          · rw [br_n _ hc] at hf
            exact wb_M_letter_47 C0 hR N G hG _ _ hf H locs hP hD hS ls (lv_sub hl [] rfl)
def fm_M_letter (N : Nat) (u : MS) (v1 : Int32) (v2 : Int32) : Option (MS × Int32) := fb_M_letter_0 N () u v1 v2
set_option maxRecDepth 100000 in
set_option maxHeartbeats 4000000 in
theorem c_M_letter (N : Nat) {l : Launch} {D : va_G} {cl : List vw_C} {cB cI cJ cZ cS : ClassId} {iM h0 : Nat} {ad : Nat → Nat} {u : MS} {sz : Nat} {v1 : Int32} {v2 : Int32} {x : MS × Int32} (hM : cl[iM]? = some (R_M, F_M, 171)) (hf : fm_M_letter N u v1 v2 = some x) : Met l y_M_letter (wd_ws y_M_letter b_M_letter 3 (some .int)) rm_M_letter (mPc D cl cB cI cJ cZ cS iM h0 ad u sz [.ref h0, .int v1, .int v2]) (mQi D cl cB cI cJ cZ cS iM h0 ad (mA cB cI cJ cZ cS iM h0 ad u sz) x) 0 0 (mA cB cI cJ cZ cS iM h0 ad u sz) :=
  mMet (by decide) rfl hM (Nat.le_of_ble_eq_true rfl) (fun p e s m below meth c ls hsz C0 hP hD hS hl => by
    have hR : rm_M_letter = rm_M_letter := rfl
    exact wb_M_letter_0 C0 hR N () trivial u _ _ x hf s.heap [] hP hD hS ls (lv_sub hl [0, 1, 2] rfl))
abbrev b_M_put : ByteArray := prog_14_method_77_code
def y_M_put : MethodName := ⟨R_M, "put", "(J)V"⟩
def w_M_put : List Cond := wd_ws y_M_put b_M_put 3 none
set_option maxRecDepth 100000 in
theorem k_M_put : Cond.code y_M_put b_M_put 3 none ∈ wd_tbl := wd_of 3010 rfl rfl
theorem d_M_put_0 : decode b_M_put 0 = .ok (.aload_n 0, 1) := by decide +kernel
theorem d_M_put_1 : decode b_M_put 1 = .ok (.getfield 199, 3) := by decide +kernel
theorem d_M_put_4 : decode b_M_put 4 = .ok (.aload_n 0, 1) := by decide +kernel
theorem d_M_put_5 : decode b_M_put 5 = .ok (.getfield 669, 3) := by decide +kernel
theorem d_M_put_8 : decode b_M_put 8 = .ok (.ldc_w 672, 3) := by decide +kernel
theorem d_M_put_11 : decode b_M_put 11 = .ok (.imul, 1) := by decide +kernel
theorem d_M_put_12 : decode b_M_put 12 = .ok (.aload_n 0, 1) := by decide +kernel
theorem d_M_put_13 : decode b_M_put 13 = .ok (.getfield 202, 3) := by decide +kernel
theorem d_M_put_16 : decode b_M_put 16 = .ok (.aload_n 0, 1) := by decide +kernel
theorem d_M_put_17 : decode b_M_put 17 = .ok (.getfield 669, 3) := by decide +kernel
theorem d_M_put_20 : decode b_M_put 20 = .ok (.iaload, 1) := by decide +kernel
theorem d_M_put_21 : decode b_M_put 21 = .ok (.iadd, 1) := by decide +kernel
theorem d_M_put_22 : decode b_M_put 22 = .ok (.lload_n 1, 1) := by decide +kernel
theorem d_M_put_23 : decode b_M_put 23 = .ok (.lastore, 1) := by decide +kernel
theorem d_M_put_24 : decode b_M_put 24 = .ok (.aload_n 0, 1) := by decide +kernel
theorem d_M_put_25 : decode b_M_put 25 = .ok (.getfield 202, 3) := by decide +kernel
theorem d_M_put_28 : decode b_M_put 28 = .ok (.aload_n 0, 1) := by decide +kernel
theorem d_M_put_29 : decode b_M_put 29 = .ok (.getfield 669, 3) := by decide +kernel
theorem d_M_put_32 : decode b_M_put 32 = .ok (.dup2, 1) := by decide +kernel
theorem d_M_put_33 : decode b_M_put 33 = .ok (.iaload, 1) := by decide +kernel
theorem d_M_put_34 : decode b_M_put 34 = .ok (.iconst 1, 1) := by decide +kernel
theorem d_M_put_35 : decode b_M_put 35 = .ok (.iadd, 1) := by decide +kernel
theorem d_M_put_36 : decode b_M_put 36 = .ok (.iastore, 1) := by decide +kernel
theorem d_M_put_37 : decode b_M_put 37 = .ok (.return_, 1) := by decide +kernel
set_option maxRecDepth 100000 in
theorem hl_M_put : Cond.methodLink R_M 801 y_M_put ∈ wd_tbl := wd_of 3007 (by decide +kernel) rfl
set_option maxRecDepth 100000 in
theorem hi_M_put : Cond.instanceMethod y_M_put ∈ wd_tbl := wd_of 3009 (by decide +kernel) rfl
set_option maxRecDepth 100000 in
theorem hs_M_put : Cond.selects R_M y_M_put y_M_put ∈ wd_tbl := wd_of 209 (by decide +kernel) rfl
theorem hd_M_put : y_M_put.cls = R_M ∧ y_M_put.cls ≠ "java/lang/invoke/MethodHandle" ∧ y_M_put.cls ≠ "java/lang/invoke/VarHandle" ∧ (parseMethodDescriptor y_M_put.desc).map (fun d => d.parameters.length) = some 1 := by decide +kernel
def rm_M_put : Room := { frames := 0, cells := 0, slots := 0, locals := 0 }
def fb_M_put_0 (N : Nat) (G : Unit) (u : MS) (v1 : Int64) : Option (MS × Unit) := ck (inb (u.1 133) (ln 92)) (ck (inb (((u.1 133) * 46000) + (u.2.2.1 92 (u.1 133).toNatClampNeg)) (ln 91)) (lt (upJ u 91 (vp_updL (u.2.2.2 91) (((u.1 133) * 46000) + (u.2.2.1 92 (u.1 133).toNatClampNeg)).toNatClampNeg v1)) (fun w1 => ck (inb (w1.1 133) (ln 92)) (ck (inb (w1.1 133) (ln 92)) (lt (upA w1 92 (upd (w1.2.2.1 92) (w1.1 133).toNatClampNeg ((w1.2.2.1 92 (w1.1 133).toNatClampNeg) + 1))) (fun w2 => some (w2, ())))))))
set_option maxRecDepth 100000 in
set_option maxHeartbeats 4000000 in
theorem wb_M_put_0 {p : Program} {l : Launch} {e : Env} {R : Room} {s : State} {m : MethodId} {args : Array Value} {below : List Frame} {meth : Method} {c : Code} {D : va_G} {cl : List vw_C} {cB cI cJ cZ cS : ClassId} {A : Nat → Prop} {iM h0 : Nat} {ad : Nat → Nat} (C0 : MCx p s m args meth c b_M_put 3 none D cl cB cI cJ cZ cS iM A) (hR : R = rm_M_put) (N : Nat) (G : Unit) (hG : True) : ∀ (u : MS) (v1 : Int64) (x : MS × Unit), fb_M_put_0 N G u v1 = some x → ∀ (H : Heap) (locs : List Loc), va_P D cl (wM cB cI cJ cZ cS iM h0 ad u) H → va_D A (wM cB cI cJ cZ cS iM h0 ad u) → va_S A s.heap H locs → ∀ (ls : Array Slot), lv_has ls 3 [(0, .ref h0), (1, .long v1)] → W p l e R s m args below meth c H locs 0 0 (MQ below (mQv D cl cB cI cJ cZ cS iM h0 ad A x) args s 0 0 A) (F0 m 0 ls []) := by
  intro u v1 x hf H locs hP hD hS ls hl
  obtain ⟨hx, hb, hr, hml, ht, hown, hM, hK, hA, hlocks⟩ := id C0
  unfold fb_M_put_0 at hf
  refine lv_aload_n hx hb d_M_put_0 rfl (lv_at hl 0 rfl) ?_
  refine ug_R hx hb ht hown hM hK hP 91 (by decide) lk_M_91 (by decide) d_M_put_1 ?_
  refine lv_aload_n hx hb d_M_put_4 rfl (lv_at hl 0 rfl) ?_
  refine ug_I hx hb ht hown hM hK hP 133 (by decide) lk_M_133 (by decide) d_M_put_5 ?_
  refine lv_ldcw (v := 46000) hx hb hown (ht _ (wd_of 2940 (by decide +kernel) rfl)) d_M_put_8 ?_
  refine lv_imul hx hb d_M_put_11 ?_
  refine lv_aload_n hx hb d_M_put_12 rfl (lv_at hl 0 rfl) ?_
  refine ug_R hx hb ht hown hM hK hP 92 (by decide) lk_M_92 (by decide) d_M_put_13 ?_
  refine lv_aload_n hx hb d_M_put_16 rfl (lv_at hl 0 rfl) ?_
  refine ug_I hx hb ht hown hM hK hP 133 (by decide) lk_M_133 (by decide) d_M_put_17 ?_
  obtain ⟨hi9, hf⟩ := ck_some hf
  refine ul_I hx hb hK hP (by decide) (by decide) hi9 d_M_put_20 ?_
  refine lv_iadd hx hb d_M_put_21 ?_
  refine lv_lload_n hx hb d_M_put_22 rfl (lv_at hl 1 rfl) ?_
  obtain ⟨hi9, hf⟩ := ck_some hf
  refine us_J hx hb hK hP hD hS (by decide) (by decide) hi9 d_M_put_23 (fun H locs hP hD hS => ?_)
  obtain ⟨w1, e1, hf⟩ := lt_some hf
  rw [← e1] at hP hD
  refine lv_aload_n hx hb d_M_put_24 rfl (lv_at hl 0 rfl) ?_
  refine ug_R hx hb ht hown hM hK hP 92 (by decide) lk_M_92 (by decide) d_M_put_25 ?_
  refine lv_aload_n hx hb d_M_put_28 rfl (lv_at hl 0 rfl) ?_
  refine ug_I hx hb ht hown hM hK hP 133 (by decide) lk_M_133 (by decide) d_M_put_29 ?_
  refine lv_dup2_11 hx hb d_M_put_32 rfl rfl ?_
  obtain ⟨hi9, hf⟩ := ck_some hf
  refine ul_I hx hb hK hP (by decide) (by decide) hi9 d_M_put_33 ?_
  refine lv_iconst (v := 1) hx hb d_M_put_34 (by decide) ?_
  refine lv_iadd hx hb d_M_put_35 ?_
  obtain ⟨hi9, hf⟩ := ck_some hf
  refine us_I hx hb hK hP hD hS (by decide) (by decide) hi9 d_M_put_36 (fun H locs hP hD hS => ?_)
  obtain ⟨w2, e2, hf⟩ := lt_some hf
  rw [← e2] at hP hD
  exact mr_v C0 hP hD hS hf d_M_put_37
def fm_M_put (N : Nat) (u : MS) (v1 : Int64) : Option (MS × Unit) := fb_M_put_0 N () u v1
set_option maxRecDepth 100000 in
set_option maxHeartbeats 4000000 in
theorem c_M_put (N : Nat) {l : Launch} {D : va_G} {cl : List vw_C} {cB cI cJ cZ cS : ClassId} {iM h0 : Nat} {ad : Nat → Nat} {u : MS} {sz : Nat} {v1 : Int64} {x : MS × Unit} (hM : cl[iM]? = some (R_M, F_M, 171)) (hf : fm_M_put N u v1 = some x) : Met l y_M_put (wd_ws y_M_put b_M_put 3 none) rm_M_put (mPc D cl cB cI cJ cZ cS iM h0 ad u sz [.ref h0, .long v1]) (mQv D cl cB cI cJ cZ cS iM h0 ad (mA cB cI cJ cZ cS iM h0 ad u sz) x) 0 0 (mA cB cI cJ cZ cS iM h0 ad u sz) :=
  mMet (by decide) rfl hM (Nat.le_of_ble_eq_true rfl) (fun p e s m below meth c ls hsz C0 hP hD hS hl => by
    have hR : rm_M_put = rm_M_put := rfl
    exact wb_M_put_0 C0 hR N () trivial u _ x hf s.heap [] hP hD hS ls (lv_sub hl [0, 1] rfl))
abbrev b_M_take : ByteArray := prog_14_method_78_code
def y_M_take : MethodName := ⟨R_M, "take", "()J"⟩
def w_M_take : List Cond := wd_ws y_M_take b_M_take 1 (some .long)
set_option maxRecDepth 100000 in
theorem k_M_take : Cond.code y_M_take b_M_take 1 (some .long) ∈ wd_tbl := wd_of 3082 rfl rfl
theorem d_M_take_0 : decode b_M_take 0 = .ok (.aload_n 0, 1) := by decide +kernel
theorem d_M_take_1 : decode b_M_take 1 = .ok (.getfield 202, 3) := by decide +kernel
theorem d_M_take_4 : decode b_M_take 4 = .ok (.aload_n 0, 1) := by decide +kernel
theorem d_M_take_5 : decode b_M_take 5 = .ok (.getfield 669, 3) := by decide +kernel
theorem d_M_take_8 : decode b_M_take 8 = .ok (.dup2, 1) := by decide +kernel
theorem d_M_take_9 : decode b_M_take 9 = .ok (.iaload, 1) := by decide +kernel
theorem d_M_take_10 : decode b_M_take 10 = .ok (.iconst 1, 1) := by decide +kernel
theorem d_M_take_11 : decode b_M_take 11 = .ok (.isub, 1) := by decide +kernel
theorem d_M_take_12 : decode b_M_take 12 = .ok (.iastore, 1) := by decide +kernel
theorem d_M_take_13 : decode b_M_take 13 = .ok (.aload_n 0, 1) := by decide +kernel
theorem d_M_take_14 : decode b_M_take 14 = .ok (.getfield 199, 3) := by decide +kernel
theorem d_M_take_17 : decode b_M_take 17 = .ok (.aload_n 0, 1) := by decide +kernel
theorem d_M_take_18 : decode b_M_take 18 = .ok (.getfield 669, 3) := by decide +kernel
theorem d_M_take_21 : decode b_M_take 21 = .ok (.ldc_w 672, 3) := by decide +kernel
theorem d_M_take_24 : decode b_M_take 24 = .ok (.imul, 1) := by decide +kernel
theorem d_M_take_25 : decode b_M_take 25 = .ok (.aload_n 0, 1) := by decide +kernel
theorem d_M_take_26 : decode b_M_take 26 = .ok (.getfield 202, 3) := by decide +kernel
theorem d_M_take_29 : decode b_M_take 29 = .ok (.aload_n 0, 1) := by decide +kernel
theorem d_M_take_30 : decode b_M_take 30 = .ok (.getfield 669, 3) := by decide +kernel
theorem d_M_take_33 : decode b_M_take 33 = .ok (.iaload, 1) := by decide +kernel
theorem d_M_take_34 : decode b_M_take 34 = .ok (.iadd, 1) := by decide +kernel
theorem d_M_take_35 : decode b_M_take 35 = .ok (.laload, 1) := by decide +kernel
theorem d_M_take_36 : decode b_M_take 36 = .ok (.lreturn, 1) := by decide +kernel
set_option maxRecDepth 100000 in
theorem hl_M_take : Cond.methodLink R_M 930 y_M_take ∈ wd_tbl := wd_of 3079 (by decide +kernel) rfl
set_option maxRecDepth 100000 in
theorem hi_M_take : Cond.instanceMethod y_M_take ∈ wd_tbl := wd_of 3081 (by decide +kernel) rfl
set_option maxRecDepth 100000 in
theorem hs_M_take : Cond.selects R_M y_M_take y_M_take ∈ wd_tbl := wd_of 226 (by decide +kernel) rfl
theorem hd_M_take : y_M_take.cls = R_M ∧ y_M_take.cls ≠ "java/lang/invoke/MethodHandle" ∧ y_M_take.cls ≠ "java/lang/invoke/VarHandle" ∧ (parseMethodDescriptor y_M_take.desc).map (fun d => d.parameters.length) = some 0 := by decide +kernel
def rm_M_take : Room := { frames := 0, cells := 0, slots := 0, locals := 0 }
def fb_M_take_0 (N : Nat) (G : Unit) (u : MS) : Option (MS × Int64) := ck (inb (u.1 133) (ln 92)) (ck (inb (u.1 133) (ln 92)) (lt (upA u 92 (upd (u.2.2.1 92) (u.1 133).toNatClampNeg ((u.2.2.1 92 (u.1 133).toNatClampNeg) - 1))) (fun w1 => ck (inb (w1.1 133) (ln 92)) (ck (inb (((w1.1 133) * 46000) + (w1.2.2.1 92 (w1.1 133).toNatClampNeg)) (ln 91)) (some (w1, (w1.2.2.2 91 (((w1.1 133) * 46000) + (w1.2.2.1 92 (w1.1 133).toNatClampNeg)).toNatClampNeg)))))))
set_option maxRecDepth 100000 in
set_option maxHeartbeats 4000000 in
theorem wb_M_take_0 {p : Program} {l : Launch} {e : Env} {R : Room} {s : State} {m : MethodId} {args : Array Value} {below : List Frame} {meth : Method} {c : Code} {D : va_G} {cl : List vw_C} {cB cI cJ cZ cS : ClassId} {A : Nat → Prop} {iM h0 : Nat} {ad : Nat → Nat} (C0 : MCx p s m args meth c b_M_take 1 (some .long) D cl cB cI cJ cZ cS iM A) (hR : R = rm_M_take) (N : Nat) (G : Unit) (hG : True) : ∀ (u : MS) (x : MS × Int64), fb_M_take_0 N G u = some x → ∀ (H : Heap) (locs : List Loc), va_P D cl (wM cB cI cJ cZ cS iM h0 ad u) H → va_D A (wM cB cI cJ cZ cS iM h0 ad u) → va_S A s.heap H locs → ∀ (ls : Array Slot), lv_has ls 1 [(0, .ref h0)] → W p l e R s m args below meth c H locs 0 0 (MQ below (mQl D cl cB cI cJ cZ cS iM h0 ad A x) args s 0 0 A) (F0 m 0 ls []) := by
  intro u x hf H locs hP hD hS ls hl
  obtain ⟨hx, hb, hr, hml, ht, hown, hM, hK, hA, hlocks⟩ := id C0
  unfold fb_M_take_0 at hf
  refine lv_aload_n hx hb d_M_take_0 rfl (lv_at hl 0 rfl) ?_
  refine ug_R hx hb ht hown hM hK hP 92 (by decide) lk_M_92 (by decide) d_M_take_1 ?_
  refine lv_aload_n hx hb d_M_take_4 rfl (lv_at hl 0 rfl) ?_
  refine ug_I hx hb ht hown hM hK hP 133 (by decide) lk_M_133 (by decide) d_M_take_5 ?_
  refine lv_dup2_11 hx hb d_M_take_8 rfl rfl ?_
  obtain ⟨hi9, hf⟩ := ck_some hf
  refine ul_I hx hb hK hP (by decide) (by decide) hi9 d_M_take_9 ?_
  refine lv_iconst (v := 1) hx hb d_M_take_10 (by decide) ?_
  refine lv_isub hx hb d_M_take_11 ?_
  obtain ⟨hi9, hf⟩ := ck_some hf
  refine us_I hx hb hK hP hD hS (by decide) (by decide) hi9 d_M_take_12 (fun H locs hP hD hS => ?_)
  obtain ⟨w1, e1, hf⟩ := lt_some hf
  rw [← e1] at hP hD
  refine lv_aload_n hx hb d_M_take_13 rfl (lv_at hl 0 rfl) ?_
  refine ug_R hx hb ht hown hM hK hP 91 (by decide) lk_M_91 (by decide) d_M_take_14 ?_
  refine lv_aload_n hx hb d_M_take_17 rfl (lv_at hl 0 rfl) ?_
  refine ug_I hx hb ht hown hM hK hP 133 (by decide) lk_M_133 (by decide) d_M_take_18 ?_
  refine lv_ldcw (v := 46000) hx hb hown (ht _ (wd_of 2940 (by decide +kernel) rfl)) d_M_take_21 ?_
  refine lv_imul hx hb d_M_take_24 ?_
  refine lv_aload_n hx hb d_M_take_25 rfl (lv_at hl 0 rfl) ?_
  refine ug_R hx hb ht hown hM hK hP 92 (by decide) lk_M_92 (by decide) d_M_take_26 ?_
  refine lv_aload_n hx hb d_M_take_29 rfl (lv_at hl 0 rfl) ?_
  refine ug_I hx hb ht hown hM hK hP 133 (by decide) lk_M_133 (by decide) d_M_take_30 ?_
  obtain ⟨hi9, hf⟩ := ck_some hf
  refine ul_I hx hb hK hP (by decide) (by decide) hi9 d_M_take_33 ?_
  refine lv_iadd hx hb d_M_take_34 ?_
  obtain ⟨hi9, hf⟩ := ck_some hf
  refine ul_J hx hb hK hP (by decide) (by decide) hi9 d_M_take_35 ?_
  exact mr_l C0 hP hD hS hf d_M_take_36
def fm_M_take (N : Nat) (u : MS) : Option (MS × Int64) := fb_M_take_0 N () u
set_option maxRecDepth 100000 in
set_option maxHeartbeats 4000000 in
theorem c_M_take (N : Nat) {l : Launch} {D : va_G} {cl : List vw_C} {cB cI cJ cZ cS : ClassId} {iM h0 : Nat} {ad : Nat → Nat} {u : MS} {sz : Nat} {x : MS × Int64} (hM : cl[iM]? = some (R_M, F_M, 171)) (hf : fm_M_take N u = some x) : Met l y_M_take (wd_ws y_M_take b_M_take 1 (some .long)) rm_M_take (mPc D cl cB cI cJ cZ cS iM h0 ad u sz [.ref h0]) (mQl D cl cB cI cJ cZ cS iM h0 ad (mA cB cI cJ cZ cS iM h0 ad u sz) x) 0 0 (mA cB cI cJ cZ cS iM h0 ad u sz) :=
  mMet (by decide) rfl hM (Nat.le_of_ble_eq_true rfl) (fun p e s m below meth c ls hsz C0 hP hD hS hl => by
    have hR : rm_M_take = rm_M_take := rfl
    exact wb_M_take_0 C0 hR N () trivial u x hf s.heap [] hP hD hS ls (lv_sub hl [0] rfl))
abbrev b_M_top : ByteArray := prog_14_method_79_code
def y_M_top : MethodName := ⟨R_M, "top", "(I)J"⟩
def w_M_top : List Cond := wd_ws y_M_top b_M_top 2 (some .long)
set_option maxRecDepth 100000 in
theorem k_M_top : Cond.code y_M_top b_M_top 2 (some .long) ∈ wd_tbl := wd_of 2939 rfl rfl
theorem d_M_top_0 : decode b_M_top 0 = .ok (.aload_n 0, 1) := by decide +kernel
theorem d_M_top_1 : decode b_M_top 1 = .ok (.getfield 199, 3) := by decide +kernel
theorem d_M_top_4 : decode b_M_top 4 = .ok (.aload_n 0, 1) := by decide +kernel
theorem d_M_top_5 : decode b_M_top 5 = .ok (.getfield 669, 3) := by decide +kernel
theorem d_M_top_8 : decode b_M_top 8 = .ok (.ldc_w 672, 3) := by decide +kernel
theorem d_M_top_11 : decode b_M_top 11 = .ok (.imul, 1) := by decide +kernel
theorem d_M_top_12 : decode b_M_top 12 = .ok (.aload_n 0, 1) := by decide +kernel
theorem d_M_top_13 : decode b_M_top 13 = .ok (.getfield 202, 3) := by decide +kernel
theorem d_M_top_16 : decode b_M_top 16 = .ok (.aload_n 0, 1) := by decide +kernel
theorem d_M_top_17 : decode b_M_top 17 = .ok (.getfield 669, 3) := by decide +kernel
theorem d_M_top_20 : decode b_M_top 20 = .ok (.iaload, 1) := by decide +kernel
theorem d_M_top_21 : decode b_M_top 21 = .ok (.iadd, 1) := by decide +kernel
theorem d_M_top_22 : decode b_M_top 22 = .ok (.iconst 1, 1) := by decide +kernel
theorem d_M_top_23 : decode b_M_top 23 = .ok (.isub, 1) := by decide +kernel
theorem d_M_top_24 : decode b_M_top 24 = .ok (.iload_n 1, 1) := by decide +kernel
theorem d_M_top_25 : decode b_M_top 25 = .ok (.isub, 1) := by decide +kernel
theorem d_M_top_26 : decode b_M_top 26 = .ok (.laload, 1) := by decide +kernel
theorem d_M_top_27 : decode b_M_top 27 = .ok (.lreturn, 1) := by decide +kernel
set_option maxRecDepth 100000 in
theorem hl_M_top : Cond.methodLink R_M 848 y_M_top ∈ wd_tbl := wd_of 2936 (by decide +kernel) rfl
set_option maxRecDepth 100000 in
theorem hi_M_top : Cond.instanceMethod y_M_top ∈ wd_tbl := wd_of 2938 (by decide +kernel) rfl
set_option maxRecDepth 100000 in
theorem hs_M_top : Cond.selects R_M y_M_top y_M_top ∈ wd_tbl := wd_of 195 (by decide +kernel) rfl
theorem hd_M_top : y_M_top.cls = R_M ∧ y_M_top.cls ≠ "java/lang/invoke/MethodHandle" ∧ y_M_top.cls ≠ "java/lang/invoke/VarHandle" ∧ (parseMethodDescriptor y_M_top.desc).map (fun d => d.parameters.length) = some 1 := by decide +kernel
def rm_M_top : Room := { frames := 0, cells := 0, slots := 0, locals := 0 }
def fb_M_top_0 (N : Nat) (G : Unit) (u : MS) (v1 : Int32) : Option (MS × Int64) := ck (inb (u.1 133) (ln 92)) (ck (inb (((((u.1 133) * 46000) + (u.2.2.1 92 (u.1 133).toNatClampNeg)) - 1) - v1) (ln 91)) (some (u, (u.2.2.2 91 (((((u.1 133) * 46000) + (u.2.2.1 92 (u.1 133).toNatClampNeg)) - 1) - v1).toNatClampNeg))))
set_option maxRecDepth 100000 in
set_option maxHeartbeats 4000000 in
theorem wb_M_top_0 {p : Program} {l : Launch} {e : Env} {R : Room} {s : State} {m : MethodId} {args : Array Value} {below : List Frame} {meth : Method} {c : Code} {D : va_G} {cl : List vw_C} {cB cI cJ cZ cS : ClassId} {A : Nat → Prop} {iM h0 : Nat} {ad : Nat → Nat} (C0 : MCx p s m args meth c b_M_top 2 (some .long) D cl cB cI cJ cZ cS iM A) (hR : R = rm_M_top) (N : Nat) (G : Unit) (hG : True) : ∀ (u : MS) (v1 : Int32) (x : MS × Int64), fb_M_top_0 N G u v1 = some x → ∀ (H : Heap) (locs : List Loc), va_P D cl (wM cB cI cJ cZ cS iM h0 ad u) H → va_D A (wM cB cI cJ cZ cS iM h0 ad u) → va_S A s.heap H locs → ∀ (ls : Array Slot), lv_has ls 2 [(0, .ref h0), (1, .int v1)] → W p l e R s m args below meth c H locs 0 0 (MQ below (mQl D cl cB cI cJ cZ cS iM h0 ad A x) args s 0 0 A) (F0 m 0 ls []) := by
  intro u v1 x hf H locs hP hD hS ls hl
  obtain ⟨hx, hb, hr, hml, ht, hown, hM, hK, hA, hlocks⟩ := id C0
  unfold fb_M_top_0 at hf
  refine lv_aload_n hx hb d_M_top_0 rfl (lv_at hl 0 rfl) ?_
  refine ug_R hx hb ht hown hM hK hP 91 (by decide) lk_M_91 (by decide) d_M_top_1 ?_
  refine lv_aload_n hx hb d_M_top_4 rfl (lv_at hl 0 rfl) ?_
  refine ug_I hx hb ht hown hM hK hP 133 (by decide) lk_M_133 (by decide) d_M_top_5 ?_
  refine lv_ldcw (v := 46000) hx hb hown (ht _ (wd_of 2940 (by decide +kernel) rfl)) d_M_top_8 ?_
  refine lv_imul hx hb d_M_top_11 ?_
  refine lv_aload_n hx hb d_M_top_12 rfl (lv_at hl 0 rfl) ?_
  refine ug_R hx hb ht hown hM hK hP 92 (by decide) lk_M_92 (by decide) d_M_top_13 ?_
  refine lv_aload_n hx hb d_M_top_16 rfl (lv_at hl 0 rfl) ?_
  refine ug_I hx hb ht hown hM hK hP 133 (by decide) lk_M_133 (by decide) d_M_top_17 ?_
  obtain ⟨hi9, hf⟩ := ck_some hf
  refine ul_I hx hb hK hP (by decide) (by decide) hi9 d_M_top_20 ?_
  refine lv_iadd hx hb d_M_top_21 ?_
  refine lv_iconst (v := 1) hx hb d_M_top_22 (by decide) ?_
  refine lv_isub hx hb d_M_top_23 ?_
  refine lv_iload_n hx hb d_M_top_24 rfl (lv_at hl 1 rfl) ?_
  refine lv_isub hx hb d_M_top_25 ?_
  obtain ⟨hi9, hf⟩ := ck_some hf
  refine ul_J hx hb hK hP (by decide) (by decide) hi9 d_M_top_26 ?_
  exact mr_l C0 hP hD hS hf d_M_top_27
def fm_M_top (N : Nat) (u : MS) (v1 : Int32) : Option (MS × Int64) := fb_M_top_0 N () u v1
set_option maxRecDepth 100000 in
set_option maxHeartbeats 4000000 in
theorem c_M_top (N : Nat) {l : Launch} {D : va_G} {cl : List vw_C} {cB cI cJ cZ cS : ClassId} {iM h0 : Nat} {ad : Nat → Nat} {u : MS} {sz : Nat} {v1 : Int32} {x : MS × Int64} (hM : cl[iM]? = some (R_M, F_M, 171)) (hf : fm_M_top N u v1 = some x) : Met l y_M_top (wd_ws y_M_top b_M_top 2 (some .long)) rm_M_top (mPc D cl cB cI cJ cZ cS iM h0 ad u sz [.ref h0, .int v1]) (mQl D cl cB cI cJ cZ cS iM h0 ad (mA cB cI cJ cZ cS iM h0 ad u sz) x) 0 0 (mA cB cI cJ cZ cS iM h0 ad u sz) :=
  mMet (by decide) rfl hM (Nat.le_of_ble_eq_true rfl) (fun p e s m below meth c ls hsz C0 hP hD hS hl => by
    have hR : rm_M_top = rm_M_top := rfl
    exact wb_M_top_0 C0 hR N () trivial u _ x hf s.heap [] hP hD hS ls (lv_sub hl [0, 1] rfl))
abbrev b_M_frame0 : ByteArray := prog_14_method_80_code
def y_M_frame0 : MethodName := ⟨R_M, "frame", "()I"⟩
def w_M_frame0 : List Cond := wd_ws y_M_frame0 b_M_frame0 1 (some .int)
set_option maxRecDepth 100000 in
theorem k_M_frame0 : Cond.code y_M_frame0 b_M_frame0 1 (some .int) ∈ wd_tbl := wd_of 2911 rfl rfl
theorem d_M_frame0_0 : decode b_M_frame0 0 = .ok (.aload_n 0, 1) := by decide +kernel
theorem d_M_frame0_1 : decode b_M_frame0 1 = .ok (.getfield 669, 3) := by decide +kernel
theorem d_M_frame0_4 : decode b_M_frame0 4 = .ok (.bipush 60, 2) := by decide +kernel
theorem d_M_frame0_6 : decode b_M_frame0 6 = .ok (.imul, 1) := by decide +kernel
theorem d_M_frame0_7 : decode b_M_frame0 7 = .ok (.aload_n 0, 1) := by decide +kernel
theorem d_M_frame0_8 : decode b_M_frame0 8 = .ok (.getfield 212, 3) := by decide +kernel
theorem d_M_frame0_11 : decode b_M_frame0 11 = .ok (.aload_n 0, 1) := by decide +kernel
theorem d_M_frame0_12 : decode b_M_frame0 12 = .ok (.getfield 669, 3) := by decide +kernel
theorem d_M_frame0_15 : decode b_M_frame0 15 = .ok (.iaload, 1) := by decide +kernel
theorem d_M_frame0_16 : decode b_M_frame0 16 = .ok (.iadd, 1) := by decide +kernel
theorem d_M_frame0_17 : decode b_M_frame0 17 = .ok (.iconst 1, 1) := by decide +kernel
theorem d_M_frame0_18 : decode b_M_frame0 18 = .ok (.isub, 1) := by decide +kernel
theorem d_M_frame0_19 : decode b_M_frame0 19 = .ok (.ireturn, 1) := by decide +kernel
set_option maxRecDepth 100000 in
theorem hl_M_frame0 : Cond.methodLink R_M 673 y_M_frame0 ∈ wd_tbl := wd_of 2908 (by decide +kernel) rfl
set_option maxRecDepth 100000 in
theorem hi_M_frame0 : Cond.instanceMethod y_M_frame0 ∈ wd_tbl := wd_of 2910 (by decide +kernel) rfl
set_option maxRecDepth 100000 in
theorem hs_M_frame0 : Cond.selects R_M y_M_frame0 y_M_frame0 ∈ wd_tbl := wd_of 188 (by decide +kernel) rfl
theorem hd_M_frame0 : y_M_frame0.cls = R_M ∧ y_M_frame0.cls ≠ "java/lang/invoke/MethodHandle" ∧ y_M_frame0.cls ≠ "java/lang/invoke/VarHandle" ∧ (parseMethodDescriptor y_M_frame0.desc).map (fun d => d.parameters.length) = some 0 := by decide +kernel
def rm_M_frame0 : Room := { frames := 0, cells := 0, slots := 0, locals := 0 }
def fb_M_frame0_0 (N : Nat) (G : Unit) (u : MS) : Option (MS × Int32) := ck (inb (u.1 133) (ln 95)) (some (u, ((((u.1 133) * 60) + (u.2.2.1 95 (u.1 133).toNatClampNeg)) - 1)))
set_option maxRecDepth 100000 in
set_option maxHeartbeats 4000000 in
theorem wb_M_frame0_0 {p : Program} {l : Launch} {e : Env} {R : Room} {s : State} {m : MethodId} {args : Array Value} {below : List Frame} {meth : Method} {c : Code} {D : va_G} {cl : List vw_C} {cB cI cJ cZ cS : ClassId} {A : Nat → Prop} {iM h0 : Nat} {ad : Nat → Nat} (C0 : MCx p s m args meth c b_M_frame0 1 (some .int) D cl cB cI cJ cZ cS iM A) (hR : R = rm_M_frame0) (N : Nat) (G : Unit) (hG : True) : ∀ (u : MS) (x : MS × Int32), fb_M_frame0_0 N G u = some x → ∀ (H : Heap) (locs : List Loc), va_P D cl (wM cB cI cJ cZ cS iM h0 ad u) H → va_D A (wM cB cI cJ cZ cS iM h0 ad u) → va_S A s.heap H locs → ∀ (ls : Array Slot), lv_has ls 1 [(0, .ref h0)] → W p l e R s m args below meth c H locs 0 0 (MQ below (mQi D cl cB cI cJ cZ cS iM h0 ad A x) args s 0 0 A) (F0 m 0 ls []) := by
  intro u x hf H locs hP hD hS ls hl
  obtain ⟨hx, hb, hr, hml, ht, hown, hM, hK, hA, hlocks⟩ := id C0
  unfold fb_M_frame0_0 at hf
  refine lv_aload_n hx hb d_M_frame0_0 rfl (lv_at hl 0 rfl) ?_
  refine ug_I hx hb ht hown hM hK hP 133 (by decide) lk_M_133 (by decide) d_M_frame0_1 ?_
  refine lv_bipush (v := 60) hx hb d_M_frame0_4 (by decide) ?_
  refine lv_imul hx hb d_M_frame0_6 ?_
  refine lv_aload_n hx hb d_M_frame0_7 rfl (lv_at hl 0 rfl) ?_
  refine ug_R hx hb ht hown hM hK hP 95 (by decide) lk_M_95 (by decide) d_M_frame0_8 ?_
  refine lv_aload_n hx hb d_M_frame0_11 rfl (lv_at hl 0 rfl) ?_
  refine ug_I hx hb ht hown hM hK hP 133 (by decide) lk_M_133 (by decide) d_M_frame0_12 ?_
  obtain ⟨hi9, hf⟩ := ck_some hf
  refine ul_I hx hb hK hP (by decide) (by decide) hi9 d_M_frame0_15 ?_
  refine lv_iadd hx hb d_M_frame0_16 ?_
  refine lv_iconst (v := 1) hx hb d_M_frame0_17 (by decide) ?_
  refine lv_isub hx hb d_M_frame0_18 ?_
  exact mr_i C0 hP hD hS hf d_M_frame0_19
def fm_M_frame0 (N : Nat) (u : MS) : Option (MS × Int32) := fb_M_frame0_0 N () u
set_option maxRecDepth 100000 in
set_option maxHeartbeats 4000000 in
theorem c_M_frame0 (N : Nat) {l : Launch} {D : va_G} {cl : List vw_C} {cB cI cJ cZ cS : ClassId} {iM h0 : Nat} {ad : Nat → Nat} {u : MS} {sz : Nat} {x : MS × Int32} (hM : cl[iM]? = some (R_M, F_M, 171)) (hf : fm_M_frame0 N u = some x) : Met l y_M_frame0 (wd_ws y_M_frame0 b_M_frame0 1 (some .int)) rm_M_frame0 (mPc D cl cB cI cJ cZ cS iM h0 ad u sz [.ref h0]) (mQi D cl cB cI cJ cZ cS iM h0 ad (mA cB cI cJ cZ cS iM h0 ad u sz) x) 0 0 (mA cB cI cJ cZ cS iM h0 ad u sz) :=
  mMet (by decide) rfl hM (Nat.le_of_ble_eq_true rfl) (fun p e s m below meth c ls hsz C0 hP hD hS hl => by
    have hR : rm_M_frame0 = rm_M_frame0 := rfl
    exact wb_M_frame0_0 C0 hR N () trivial u x hf s.heap [] hP hD hS ls (lv_sub hl [0] rfl))
abbrev b_M_goTo : ByteArray := prog_14_method_81_code
def y_M_goTo : MethodName := ⟨R_M, "goTo", "(I)V"⟩
def w_M_goTo : List Cond := wd_ws y_M_goTo b_M_goTo 2 none
set_option maxRecDepth 100000 in
theorem k_M_goTo : Cond.code y_M_goTo b_M_goTo 2 none ∈ wd_tbl := wd_of 2935 rfl rfl
theorem d_M_goTo_0 : decode b_M_goTo 0 = .ok (.aload_n 0, 1) := by decide +kernel
theorem d_M_goTo_1 : decode b_M_goTo 1 = .ok (.getfield 221, 3) := by decide +kernel
theorem d_M_goTo_4 : decode b_M_goTo 4 = .ok (.aload_n 0, 1) := by decide +kernel
theorem d_M_goTo_5 : decode b_M_goTo 5 = .ok (.invokevirtual 673, 3) := by decide +kernel
theorem d_M_goTo_8 : decode b_M_goTo 8 = .ok (.iload_n 1, 1) := by decide +kernel
theorem d_M_goTo_9 : decode b_M_goTo 9 = .ok (.iastore, 1) := by decide +kernel
theorem d_M_goTo_10 : decode b_M_goTo 10 = .ok (.return_, 1) := by decide +kernel
set_option maxRecDepth 100000 in
theorem hl_M_goTo : Cond.methodLink R_M 811 y_M_goTo ∈ wd_tbl := wd_of 2932 (by decide +kernel) rfl
set_option maxRecDepth 100000 in
theorem hi_M_goTo : Cond.instanceMethod y_M_goTo ∈ wd_tbl := wd_of 2934 (by decide +kernel) rfl
set_option maxRecDepth 100000 in
theorem hs_M_goTo : Cond.selects R_M y_M_goTo y_M_goTo ∈ wd_tbl := wd_of 194 (by decide +kernel) rfl
theorem hd_M_goTo : y_M_goTo.cls = R_M ∧ y_M_goTo.cls ≠ "java/lang/invoke/MethodHandle" ∧ y_M_goTo.cls ≠ "java/lang/invoke/VarHandle" ∧ (parseMethodDescriptor y_M_goTo.desc).map (fun d => d.parameters.length) = some 1 := by decide +kernel
def rm_M_goTo : Room := { frames := 1, cells := 0, slots := 0, locals := 20 }
theorem rm_M_goTo_M_frame0 {R : Room} (hR : R = rm_M_goTo) : (rm_M_frame0).frames + 1 ≤ R.frames ∧ 8 + (1 + 11) + (rm_M_frame0).locals ≤ R.locals := by subst hR; decide
def fb_M_goTo_0 (N : Nat) (G : Unit) (u : MS) (v1 : Int32) : Option (MS × Unit) := bnd (fm_M_frame0 N u) (fun u1 r1 => ck (inb r1 (ln 98)) (lt (upA u1 98 (upd (u1.2.2.1 98) r1.toNatClampNeg v1)) (fun w2 => some (w2, ()))))
set_option maxRecDepth 100000 in
set_option maxHeartbeats 4000000 in
theorem wb_M_goTo_0 {p : Program} {l : Launch} {e : Env} {R : Room} {s : State} {m : MethodId} {args : Array Value} {below : List Frame} {meth : Method} {c : Code} {D : va_G} {cl : List vw_C} {cB cI cJ cZ cS : ClassId} {A : Nat → Prop} {iM h0 : Nat} {ad : Nat → Nat} (C0 : MCx p s m args meth c b_M_goTo 2 none D cl cB cI cJ cZ cS iM A) (hR : R = rm_M_goTo) (N : Nat) (G : Unit) (hG : True) : ∀ (u : MS) (v1 : Int32) (x : MS × Unit), fb_M_goTo_0 N G u v1 = some x → ∀ (H : Heap) (locs : List Loc), va_P D cl (wM cB cI cJ cZ cS iM h0 ad u) H → va_D A (wM cB cI cJ cZ cS iM h0 ad u) → va_S A s.heap H locs → ∀ (ls : Array Slot), lv_has ls 2 [(0, .ref h0), (1, .int v1)] → W p l e R s m args below meth c H locs 0 0 (MQ below (mQv D cl cB cI cJ cZ cS iM h0 ad A x) args s 0 0 A) (F0 m 0 ls []) := by
  intro u v1 x hf H locs hP hD hS ls hl
  obtain ⟨hx, hb, hr, hml, ht, hown, hM, hK, hA, hlocks⟩ := id C0
  unfold fb_M_goTo_0 at hf
  refine lv_aload_n hx hb d_M_goTo_0 rfl (lv_at hl 0 rfl) ?_
  refine ug_R hx hb ht hown hM hK hP 98 (by decide) lk_M_98 (by decide) d_M_goTo_1 ?_
  refine lv_aload_n hx hb d_M_goTo_4 rfl (lv_at hl 0 rfl) ?_
  obtain ⟨u1, r1, hc1, hf⟩ := bnd_some hf
  refine mV_i (As := []) (rest := [.ref (ad 98)]) C0 hP hD hS (c_M_frame0 N hM hc1) k_M_frame0 hl_M_frame0 hi_M_frame0 hs_M_frame0 hini_M rfl rfl hd_M_frame0 rfl (rm_M_goTo_M_frame0 hR) hl.1 (Nat.le_of_ble_eq_true rfl) d_M_goTo_5 rfl ⟨Nat.zero_le _, Nat.zero_le _⟩ (fun H locs hP hD hS => ?_)
  refine lv_iload_n hx hb d_M_goTo_8 rfl (lv_at hl 1 rfl) ?_
  obtain ⟨hi9, hf⟩ := ck_some hf
  refine us_I hx hb hK hP hD hS (by decide) (by decide) hi9 d_M_goTo_9 (fun H locs hP hD hS => ?_)
  obtain ⟨w2, e2, hf⟩ := lt_some hf
  rw [← e2] at hP hD
  exact mr_v C0 hP hD hS hf d_M_goTo_10
def fm_M_goTo (N : Nat) (u : MS) (v1 : Int32) : Option (MS × Unit) := fb_M_goTo_0 N () u v1
set_option maxRecDepth 100000 in
set_option maxHeartbeats 4000000 in
theorem c_M_goTo (N : Nat) {l : Launch} {D : va_G} {cl : List vw_C} {cB cI cJ cZ cS : ClassId} {iM h0 : Nat} {ad : Nat → Nat} {u : MS} {sz : Nat} {v1 : Int32} {x : MS × Unit} (hM : cl[iM]? = some (R_M, F_M, 171)) (hf : fm_M_goTo N u v1 = some x) : Met l y_M_goTo (wd_ws y_M_goTo b_M_goTo 2 none) rm_M_goTo (mPc D cl cB cI cJ cZ cS iM h0 ad u sz [.ref h0, .int v1]) (mQv D cl cB cI cJ cZ cS iM h0 ad (mA cB cI cJ cZ cS iM h0 ad u sz) x) 0 0 (mA cB cI cJ cZ cS iM h0 ad u sz) :=
  mMet (by decide) rfl hM (Nat.le_of_ble_eq_true rfl) (fun p e s m below meth c ls hsz C0 hP hD hS hl => by
    have hR : rm_M_goTo = rm_M_goTo := rfl
    exact wb_M_goTo_0 C0 hR N () trivial u _ x hf s.heap [] hP hD hS ls (lv_sub hl [0, 1] rfl))
abbrev b_M_inHeap : ByteArray := prog_14_method_82_code
def y_M_inHeap : MethodName := ⟨R_M, "inHeap", "(J)Z"⟩
def w_M_inHeap : List Cond := wd_ws y_M_inHeap b_M_inHeap 3 (some .boolean)
set_option maxRecDepth 100000 in
theorem k_M_inHeap : Cond.code y_M_inHeap b_M_inHeap 3 (some .boolean) ∈ wd_tbl := wd_of 2967 rfl rfl
theorem d_M_inHeap_0 : decode b_M_inHeap 0 = .ok (.lload_n 0, 1) := by decide +kernel
theorem d_M_inHeap_1 : decode b_M_inHeap 1 = .ok (.invokestatic 676, 3) := by decide +kernel
theorem d_M_inHeap_4 : decode b_M_inHeap 4 = .ok (.istore_n 2, 1) := by decide +kernel
theorem d_M_inHeap_5 : decode b_M_inHeap 5 = .ok (.iload_n 2, 1) := by decide +kernel
theorem d_M_inHeap_6 : decode b_M_inHeap 6 = .ok (.iconst 3, 1) := by decide +kernel
theorem d_M_inHeap_7 : decode b_M_inHeap 7 = .ok (.if_icmp .eq 14, 3) := by decide +kernel
theorem d_M_inHeap_10 : decode b_M_inHeap 10 = .ok (.iload_n 2, 1) := by decide +kernel
theorem d_M_inHeap_11 : decode b_M_inHeap 11 = .ok (.iconst 5, 1) := by decide +kernel
theorem d_M_inHeap_12 : decode b_M_inHeap 12 = .ok (.if_icmp .eq 9, 3) := by decide +kernel
theorem d_M_inHeap_15 : decode b_M_inHeap 15 = .ok (.iload_n 2, 1) := by decide +kernel
theorem d_M_inHeap_16 : decode b_M_inHeap 16 = .ok (.bipush 7, 2) := by decide +kernel
theorem d_M_inHeap_18 : decode b_M_inHeap 18 = .ok (.if_icmp .ne 7, 3) := by decide +kernel
theorem d_M_inHeap_21 : decode b_M_inHeap 21 = .ok (.iconst 1, 1) := by decide +kernel
theorem d_M_inHeap_22 : decode b_M_inHeap 22 = .ok (.goto 4, 3) := by decide +kernel
theorem d_M_inHeap_25 : decode b_M_inHeap 25 = .ok (.iconst 0, 1) := by decide +kernel
theorem d_M_inHeap_26 : decode b_M_inHeap 26 = .ok (.ireturn, 1) := by decide +kernel
set_option maxRecDepth 100000 in
theorem hl_M_inHeap : Cond.methodLink R_M 686 y_M_inHeap ∈ wd_tbl := wd_of 2965 (by decide +kernel) rfl
set_option maxRecDepth 100000 in
theorem ht_M_inHeap : Cond.static y_M_inHeap ∈ wd_tbl := wd_of 2966 (by decide +kernel) rfl
theorem hd_M_inHeap : y_M_inHeap.cls = R_M ∧ y_M_inHeap.cls ≠ "java/lang/invoke/MethodHandle" ∧ y_M_inHeap.cls ≠ "java/lang/invoke/VarHandle" ∧ (parseMethodDescriptor y_M_inHeap.desc).map (fun d => d.parameters.length) = some 1 := by decide +kernel
def rm_M_inHeap : Room := { frames := 1, cells := 0, slots := 0, locals := 21 }
theorem rm_M_inHeap_M_sortOf {R : Room} (hR : R = rm_M_inHeap) : (rm_M_sortOf).frames + 1 ≤ R.frames ∧ 8 + (2 + 11) + (rm_M_sortOf).locals ≤ R.locals := by subst hR; decide
def fb_M_inHeap_26 (N : Nat) (G : Unit) (u : MS) (t0 : Int32) : Option (MS × Int32) := ck (isb t0) (some (u, t0))
set_option maxRecDepth 100000 in
set_option maxHeartbeats 4000000 in
theorem wb_M_inHeap_26 {p : Program} {l : Launch} {e : Env} {R : Room} {s : State} {m : MethodId} {args : Array Value} {below : List Frame} {meth : Method} {c : Code} {D : va_G} {cl : List vw_C} {cB cI cJ cZ cS : ClassId} {A : Nat → Prop} {iM h0 : Nat} {ad : Nat → Nat} (C0 : MCx p s m args meth c b_M_inHeap 3 (some .boolean) D cl cB cI cJ cZ cS iM A) (hR : R = rm_M_inHeap) (N : Nat) (G : Unit) (hG : True) : ∀ (u : MS) (t0 : Int32) (x : MS × Int32), fb_M_inHeap_26 N G u t0 = some x → ∀ (H : Heap) (locs : List Loc), va_P D cl (wM cB cI cJ cZ cS iM h0 ad u) H → va_D A (wM cB cI cJ cZ cS iM h0 ad u) → va_S A s.heap H locs → ∀ (ls : Array Slot), lv_has ls 3 [] → W p l e R s m args below meth c H locs 0 0 (MQ below (mQi D cl cB cI cJ cZ cS iM h0 ad A x) args s 0 0 A) (F0 m 26 ls [.int t0]) := by
  intro u t0 x hf H locs hP hD hS ls hl
  obtain ⟨hx, hb, hr, hml, ht, hown, hM, hK, hA, hlocks⟩ := id C0
  unfold fb_M_inHeap_26 at hf
  obtain ⟨hz, hf⟩ := ck_some hf
  exact mr_z C0 hP hD hS hz hf d_M_inHeap_26
def fb_M_inHeap_21 (N : Nat) (G : Unit) (u : MS) : Option (MS × Int32) := fb_M_inHeap_26 N G u (1)
set_option maxRecDepth 100000 in
set_option maxHeartbeats 4000000 in
theorem wb_M_inHeap_21 {p : Program} {l : Launch} {e : Env} {R : Room} {s : State} {m : MethodId} {args : Array Value} {below : List Frame} {meth : Method} {c : Code} {D : va_G} {cl : List vw_C} {cB cI cJ cZ cS : ClassId} {A : Nat → Prop} {iM h0 : Nat} {ad : Nat → Nat} (C0 : MCx p s m args meth c b_M_inHeap 3 (some .boolean) D cl cB cI cJ cZ cS iM A) (hR : R = rm_M_inHeap) (N : Nat) (G : Unit) (hG : True) : ∀ (u : MS) (x : MS × Int32), fb_M_inHeap_21 N G u = some x → ∀ (H : Heap) (locs : List Loc), va_P D cl (wM cB cI cJ cZ cS iM h0 ad u) H → va_D A (wM cB cI cJ cZ cS iM h0 ad u) → va_S A s.heap H locs → ∀ (ls : Array Slot), lv_has ls 3 [] → W p l e R s m args below meth c H locs 0 0 (MQ below (mQi D cl cB cI cJ cZ cS iM h0 ad A x) args s 0 0 A) (F0 m 21 ls []) := by
  intro u x hf H locs hP hD hS ls hl
  obtain ⟨hx, hb, hr, hml, ht, hown, hM, hK, hA, hlocks⟩ := id C0
  unfold fb_M_inHeap_21 at hf
  refine lv_iconst (v := 1) hx hb d_M_inHeap_21 (by decide) ?_
  refine lv_goto (tgt := 26) hx hb d_M_inHeap_22 (by decide) ?_
  exact wb_M_inHeap_26 C0 hR N G hG _ _ _ hf H locs hP hD hS ls (lv_sub hl [] rfl)
def fb_M_inHeap_0 (N : Nat) (G : Unit) (u : MS) (v0 : Int64) : Option (MS × Int32) := bnd (fm_M_sortOf N u v0) (fun u1 r1 => br (decide (r1 = 3)) (fb_M_inHeap_21 N G u1) (br (decide (r1 = 5)) (fb_M_inHeap_21 N G u1) (br (decide (r1 = 7)) (fb_M_inHeap_21 N G u1) (fb_M_inHeap_26 N G u1 (0)))))
set_option maxRecDepth 100000 in
set_option maxHeartbeats 4000000 in
theorem wb_M_inHeap_0 {p : Program} {l : Launch} {e : Env} {R : Room} {s : State} {m : MethodId} {args : Array Value} {below : List Frame} {meth : Method} {c : Code} {D : va_G} {cl : List vw_C} {cB cI cJ cZ cS : ClassId} {A : Nat → Prop} {iM h0 : Nat} {ad : Nat → Nat} (C0 : MCx p s m args meth c b_M_inHeap 3 (some .boolean) D cl cB cI cJ cZ cS iM A) (hR : R = rm_M_inHeap) (N : Nat) (G : Unit) (hG : True) : ∀ (u : MS) (v0 : Int64) (x : MS × Int32), fb_M_inHeap_0 N G u v0 = some x → ∀ (H : Heap) (locs : List Loc), va_P D cl (wM cB cI cJ cZ cS iM h0 ad u) H → va_D A (wM cB cI cJ cZ cS iM h0 ad u) → va_S A s.heap H locs → ∀ (ls : Array Slot), lv_has ls 3 [(0, .long v0)] → W p l e R s m args below meth c H locs 0 0 (MQ below (mQi D cl cB cI cJ cZ cS iM h0 ad A x) args s 0 0 A) (F0 m 0 ls []) := by
  intro u v0 x hf H locs hP hD hS ls hl
  obtain ⟨hx, hb, hr, hml, ht, hown, hM, hK, hA, hlocks⟩ := id C0
  unfold fb_M_inHeap_0 at hf
  refine lv_lload_n hx hb d_M_inHeap_0 rfl (lv_at hl 0 rfl) ?_
  obtain ⟨u1, r1, hc1, hf⟩ := bnd_some hf
  refine mS_i (As := [.long v0]) (rest := []) C0 hP hD hS (c_M_sortOf N hM hc1) k_M_sortOf hl_M_sortOf ht_M_sortOf hini_M rfl rfl hd_M_sortOf rfl (rm_M_inHeap_M_sortOf hR) hl.1 (Nat.le_of_ble_eq_true rfl) d_M_inHeap_1 rfl ⟨Nat.zero_le _, Nat.zero_le _⟩ (fun H locs hP hD hS => ?_)
  refine lv_istore_n (lv' := [(2, .int r1), (0, .long v0)]) hx hb d_M_inHeap_4 rfl hl (by decide) rfl (fun ls hl => ?_)
  refine lv_iload_n hx hb d_M_inHeap_5 rfl (lv_at hl 0 rfl) ?_
  refine lv_iconst (v := 3) hx hb d_M_inHeap_6 (by decide) ?_
  refine lv_icmp_eq (tgt := 21) hx hb d_M_inHeap_7 (by decide) (fun hc => ?_) (fun hc => ?_)
  · rw [br_p _ hc] at hf
    exact wb_M_inHeap_21 C0 hR N G hG _ _ hf H locs hP hD hS ls (lv_sub hl [] rfl)
  · rw [br_n _ hc] at hf
    refine lv_iload_n hx hb d_M_inHeap_10 rfl (lv_at hl 0 rfl) ?_
    refine lv_iconst (v := 5) hx hb d_M_inHeap_11 (by decide) ?_
    refine lv_icmp_eq (tgt := 21) hx hb d_M_inHeap_12 (by decide) (fun hc => ?_) (fun hc => ?_)
    · rw [br_p _ hc] at hf
      exact wb_M_inHeap_21 C0 hR N G hG _ _ hf H locs hP hD hS ls (lv_sub hl [] rfl)
    · rw [br_n _ hc] at hf
      refine lv_iload_n hx hb d_M_inHeap_15 rfl (lv_at hl 0 rfl) ?_
      refine lv_bipush (v := 7) hx hb d_M_inHeap_16 (by decide) ?_
      refine lv_icmp_ne (tgt := 25) hx hb d_M_inHeap_18 (by decide) (fun hc => ?_) (fun hc => ?_)
      · rw [br_n _ hc] at hf
        refine lv_iconst (v := 0) hx hb d_M_inHeap_25 (by decide) ?_
        exact wb_M_inHeap_26 C0 hR N G hG _ _ _ hf H locs hP hD hS ls (lv_sub hl [] rfl)
      · rw [br_p _ hc] at hf
        exact wb_M_inHeap_21 C0 hR N G hG _ _ hf H locs hP hD hS ls (lv_sub hl [] rfl)
def fm_M_inHeap (N : Nat) (u : MS) (v0 : Int64) : Option (MS × Int32) := fb_M_inHeap_0 N () u v0
set_option maxRecDepth 100000 in
set_option maxHeartbeats 4000000 in
theorem c_M_inHeap (N : Nat) {l : Launch} {D : va_G} {cl : List vw_C} {cB cI cJ cZ cS : ClassId} {iM h0 : Nat} {ad : Nat → Nat} {u : MS} {sz : Nat} {v0 : Int64} {x : MS × Int32} (hM : cl[iM]? = some (R_M, F_M, 171)) (hf : fm_M_inHeap N u v0 = some x) : Met l y_M_inHeap (wd_ws y_M_inHeap b_M_inHeap 3 (some .boolean)) rm_M_inHeap (mPc D cl cB cI cJ cZ cS iM h0 ad u sz [.long v0]) (mQi D cl cB cI cJ cZ cS iM h0 ad (mA cB cI cJ cZ cS iM h0 ad u sz) x) 0 0 (mA cB cI cJ cZ cS iM h0 ad u sz) :=
  mMet (by decide) rfl hM (Nat.le_of_ble_eq_true rfl) (fun p e s m below meth c ls hsz C0 hP hD hS hl => by
    have hR : rm_M_inHeap = rm_M_inHeap := rfl
    exact wb_M_inHeap_0 C0 hR N () trivial u _ x hf s.heap [] hP hD hS ls (lv_sub hl [0] rfl))
abbrev b_M_cell : ByteArray := prog_14_method_83_code
def y_M_cell : MethodName := ⟨R_M, "cell", "(II)J"⟩
def w_M_cell : List Cond := wd_ws y_M_cell b_M_cell 3 (some .long)
set_option maxRecDepth 100000 in
theorem k_M_cell : Cond.code y_M_cell b_M_cell 3 (some .long) ∈ wd_tbl := wd_of 2981 rfl rfl
theorem d_M_cell_0 : decode b_M_cell 0 = .ok (.aload_n 0, 1) := by decide +kernel
theorem d_M_cell_1 : decode b_M_cell 1 = .ok (.getfield 189, 3) := by decide +kernel
theorem d_M_cell_4 : decode b_M_cell 4 = .ok (.iload_n 1, 1) := by decide +kernel
theorem d_M_cell_5 : decode b_M_cell 5 = .ok (.sipush 500, 3) := by decide +kernel
theorem d_M_cell_8 : decode b_M_cell 8 = .ok (.imul, 1) := by decide +kernel
theorem d_M_cell_9 : decode b_M_cell 9 = .ok (.iload_n 2, 1) := by decide +kernel
theorem d_M_cell_10 : decode b_M_cell 10 = .ok (.iadd, 1) := by decide +kernel
theorem d_M_cell_11 : decode b_M_cell 11 = .ok (.laload, 1) := by decide +kernel
theorem d_M_cell_12 : decode b_M_cell 12 = .ok (.lreturn, 1) := by decide +kernel
set_option maxRecDepth 100000 in
theorem hl_M_cell : Cond.methodLink R_M 683 y_M_cell ∈ wd_tbl := wd_of 2978 (by decide +kernel) rfl
set_option maxRecDepth 100000 in
theorem hi_M_cell : Cond.instanceMethod y_M_cell ∈ wd_tbl := wd_of 2980 (by decide +kernel) rfl
set_option maxRecDepth 100000 in
theorem hs_M_cell : Cond.selects R_M y_M_cell y_M_cell ∈ wd_tbl := wd_of 203 (by decide +kernel) rfl
theorem hd_M_cell : y_M_cell.cls = R_M ∧ y_M_cell.cls ≠ "java/lang/invoke/MethodHandle" ∧ y_M_cell.cls ≠ "java/lang/invoke/VarHandle" ∧ (parseMethodDescriptor y_M_cell.desc).map (fun d => d.parameters.length) = some 2 := by decide +kernel
def rm_M_cell : Room := { frames := 0, cells := 0, slots := 0, locals := 0 }
def fb_M_cell_0 (N : Nat) (G : Unit) (u : MS) (v1 : Int32) (v2 : Int32) : Option (MS × Int64) := ck (inb ((v1 * 500) + v2) (ln 88)) (some (u, (u.2.2.2 88 ((v1 * 500) + v2).toNatClampNeg)))
set_option maxRecDepth 100000 in
set_option maxHeartbeats 4000000 in
theorem wb_M_cell_0 {p : Program} {l : Launch} {e : Env} {R : Room} {s : State} {m : MethodId} {args : Array Value} {below : List Frame} {meth : Method} {c : Code} {D : va_G} {cl : List vw_C} {cB cI cJ cZ cS : ClassId} {A : Nat → Prop} {iM h0 : Nat} {ad : Nat → Nat} (C0 : MCx p s m args meth c b_M_cell 3 (some .long) D cl cB cI cJ cZ cS iM A) (hR : R = rm_M_cell) (N : Nat) (G : Unit) (hG : True) : ∀ (u : MS) (v1 : Int32) (v2 : Int32) (x : MS × Int64), fb_M_cell_0 N G u v1 v2 = some x → ∀ (H : Heap) (locs : List Loc), va_P D cl (wM cB cI cJ cZ cS iM h0 ad u) H → va_D A (wM cB cI cJ cZ cS iM h0 ad u) → va_S A s.heap H locs → ∀ (ls : Array Slot), lv_has ls 3 [(0, .ref h0), (1, .int v1), (2, .int v2)] → W p l e R s m args below meth c H locs 0 0 (MQ below (mQl D cl cB cI cJ cZ cS iM h0 ad A x) args s 0 0 A) (F0 m 0 ls []) := by
  intro u v1 v2 x hf H locs hP hD hS ls hl
  obtain ⟨hx, hb, hr, hml, ht, hown, hM, hK, hA, hlocks⟩ := id C0
  unfold fb_M_cell_0 at hf
  refine lv_aload_n hx hb d_M_cell_0 rfl (lv_at hl 0 rfl) ?_
  refine ug_R hx hb ht hown hM hK hP 88 (by decide) lk_M_88 (by decide) d_M_cell_1 ?_
  refine lv_iload_n hx hb d_M_cell_4 rfl (lv_at hl 1 rfl) ?_
  refine lv_sipush (v := 500) hx hb d_M_cell_5 (by decide) ?_
  refine lv_imul hx hb d_M_cell_8 ?_
  refine lv_iload_n hx hb d_M_cell_9 rfl (lv_at hl 2 rfl) ?_
  refine lv_iadd hx hb d_M_cell_10 ?_
  obtain ⟨hi9, hf⟩ := ck_some hf
  refine ul_J hx hb hK hP (by decide) (by decide) hi9 d_M_cell_11 ?_
  exact mr_l C0 hP hD hS hf d_M_cell_12
def fm_M_cell (N : Nat) (u : MS) (v1 : Int32) (v2 : Int32) : Option (MS × Int64) := fb_M_cell_0 N () u v1 v2
set_option maxRecDepth 100000 in
set_option maxHeartbeats 4000000 in
theorem c_M_cell (N : Nat) {l : Launch} {D : va_G} {cl : List vw_C} {cB cI cJ cZ cS : ClassId} {iM h0 : Nat} {ad : Nat → Nat} {u : MS} {sz : Nat} {v1 : Int32} {v2 : Int32} {x : MS × Int64} (hM : cl[iM]? = some (R_M, F_M, 171)) (hf : fm_M_cell N u v1 v2 = some x) : Met l y_M_cell (wd_ws y_M_cell b_M_cell 3 (some .long)) rm_M_cell (mPc D cl cB cI cJ cZ cS iM h0 ad u sz [.ref h0, .int v1, .int v2]) (mQl D cl cB cI cJ cZ cS iM h0 ad (mA cB cI cJ cZ cS iM h0 ad u sz) x) 0 0 (mA cB cI cJ cZ cS iM h0 ad u sz) :=
  mMet (by decide) rfl hM (Nat.le_of_ble_eq_true rfl) (fun p e s m below meth c ls hsz C0 hP hD hS hl => by
    have hR : rm_M_cell = rm_M_cell := rfl
    exact wb_M_cell_0 C0 hR N () trivial u _ _ x hf s.heap [] hP hD hS ls (lv_sub hl [0, 1, 2] rfl))
abbrev b_M_sizeOf : ByteArray := prog_14_method_84_code
def y_M_sizeOf : MethodName := ⟨R_M, "sizeOf", "(IJ)I"⟩
def w_M_sizeOf : List Cond := wd_ws y_M_sizeOf b_M_sizeOf 6 (some .int)
set_option maxRecDepth 100000 in
theorem k_M_sizeOf : Cond.code y_M_sizeOf b_M_sizeOf 6 (some .int) ∈ wd_tbl := wd_of 2977 rfl rfl
theorem d_M_sizeOf_0 : decode b_M_sizeOf 0 = .ok (.lload_n 2, 1) := by decide +kernel
theorem d_M_sizeOf_1 : decode b_M_sizeOf 1 = .ok (.invokestatic 676, 3) := by decide +kernel
theorem d_M_sizeOf_4 : decode b_M_sizeOf 4 = .ok (.istore 4, 2) := by decide +kernel
theorem d_M_sizeOf_6 : decode b_M_sizeOf 6 = .ok (.lload_n 2, 1) := by decide +kernel
theorem d_M_sizeOf_7 : decode b_M_sizeOf 7 = .ok (.invokestatic 680, 3) := by decide +kernel
theorem d_M_sizeOf_10 : decode b_M_sizeOf 10 = .ok (.istore 5, 2) := by decide +kernel
theorem d_M_sizeOf_12 : decode b_M_sizeOf 12 = .ok (.iload 4, 2) := by decide +kernel
theorem d_M_sizeOf_14 : decode b_M_sizeOf 14 = .ok (.bipush 7, 2) := by decide +kernel
theorem d_M_sizeOf_16 : decode b_M_sizeOf 16 = .ok (.if_icmp .ne 7, 3) := by decide +kernel
theorem d_M_sizeOf_19 : decode b_M_sizeOf 19 = .ok (.iconst 2, 1) := by decide +kernel
theorem d_M_sizeOf_20 : decode b_M_sizeOf 20 = .ok (.goto 44, 3) := by decide +kernel
theorem d_M_sizeOf_23 : decode b_M_sizeOf 23 = .ok (.iload 4, 2) := by decide +kernel
theorem d_M_sizeOf_25 : decode b_M_sizeOf 25 = .ok (.iconst 5, 1) := by decide +kernel
theorem d_M_sizeOf_26 : decode b_M_sizeOf 26 = .ok (.if_icmp .ne 16, 3) := by decide +kernel
theorem d_M_sizeOf_29 : decode b_M_sizeOf 29 = .ok (.iconst 1, 1) := by decide +kernel
theorem d_M_sizeOf_30 : decode b_M_sizeOf 30 = .ok (.aload_n 0, 1) := by decide +kernel
theorem d_M_sizeOf_31 : decode b_M_sizeOf 31 = .ok (.iload_n 1, 1) := by decide +kernel
theorem d_M_sizeOf_32 : decode b_M_sizeOf 32 = .ok (.iload 5, 2) := by decide +kernel
theorem d_M_sizeOf_34 : decode b_M_sizeOf 34 = .ok (.invokevirtual 683, 3) := by decide +kernel
theorem d_M_sizeOf_37 : decode b_M_sizeOf 37 = .ok (.l2i, 1) := by decide +kernel
theorem d_M_sizeOf_38 : decode b_M_sizeOf 38 = .ok (.iadd, 1) := by decide +kernel
theorem d_M_sizeOf_39 : decode b_M_sizeOf 39 = .ok (.goto 25, 3) := by decide +kernel
theorem d_M_sizeOf_42 : decode b_M_sizeOf 42 = .ok (.iload 4, 2) := by decide +kernel
theorem d_M_sizeOf_44 : decode b_M_sizeOf 44 = .ok (.iconst 3, 1) := by decide +kernel
theorem d_M_sizeOf_45 : decode b_M_sizeOf 45 = .ok (.if_icmp .ne 18, 3) := by decide +kernel
theorem d_M_sizeOf_48 : decode b_M_sizeOf 48 = .ok (.iconst 2, 1) := by decide +kernel
theorem d_M_sizeOf_49 : decode b_M_sizeOf 49 = .ok (.aload_n 0, 1) := by decide +kernel
theorem d_M_sizeOf_50 : decode b_M_sizeOf 50 = .ok (.iload_n 1, 1) := by decide +kernel
theorem d_M_sizeOf_51 : decode b_M_sizeOf 51 = .ok (.iload 5, 2) := by decide +kernel
theorem d_M_sizeOf_53 : decode b_M_sizeOf 53 = .ok (.iconst 1, 1) := by decide +kernel
theorem d_M_sizeOf_54 : decode b_M_sizeOf 54 = .ok (.iadd, 1) := by decide +kernel
theorem d_M_sizeOf_55 : decode b_M_sizeOf 55 = .ok (.invokevirtual 683, 3) := by decide +kernel
theorem d_M_sizeOf_58 : decode b_M_sizeOf 58 = .ok (.l2i, 1) := by decide +kernel
theorem d_M_sizeOf_59 : decode b_M_sizeOf 59 = .ok (.iadd, 1) := by decide +kernel
theorem d_M_sizeOf_60 : decode b_M_sizeOf 60 = .ok (.goto 4, 3) := by decide +kernel
theorem d_M_sizeOf_63 : decode b_M_sizeOf 63 = .ok (.iconst 0, 1) := by decide +kernel
theorem d_M_sizeOf_64 : decode b_M_sizeOf 64 = .ok (.ireturn, 1) := by decide +kernel
set_option maxRecDepth 100000 in
theorem hl_M_sizeOf : Cond.methodLink R_M 690 y_M_sizeOf ∈ wd_tbl := wd_of 2974 (by decide +kernel) rfl
set_option maxRecDepth 100000 in
theorem hi_M_sizeOf : Cond.instanceMethod y_M_sizeOf ∈ wd_tbl := wd_of 2976 (by decide +kernel) rfl
set_option maxRecDepth 100000 in
theorem hs_M_sizeOf : Cond.selects R_M y_M_sizeOf y_M_sizeOf ∈ wd_tbl := wd_of 202 (by decide +kernel) rfl
theorem hd_M_sizeOf : y_M_sizeOf.cls = R_M ∧ y_M_sizeOf.cls ≠ "java/lang/invoke/MethodHandle" ∧ y_M_sizeOf.cls ≠ "java/lang/invoke/VarHandle" ∧ (parseMethodDescriptor y_M_sizeOf.desc).map (fun d => d.parameters.length) = some 2 := by decide +kernel
def rm_M_sizeOf : Room := { frames := 1, cells := 0, slots := 0, locals := 22 }
theorem rm_M_sizeOf_M_sortOf {R : Room} (hR : R = rm_M_sizeOf) : (rm_M_sortOf).frames + 1 ≤ R.frames ∧ 8 + (2 + 11) + (rm_M_sortOf).locals ≤ R.locals := by subst hR; decide
theorem rm_M_sizeOf_M_valueOf {R : Room} (hR : R = rm_M_sizeOf) : (rm_M_valueOf).frames + 1 ≤ R.frames ∧ 8 + (2 + 11) + (rm_M_valueOf).locals ≤ R.locals := by subst hR; decide
theorem rm_M_sizeOf_M_cell {R : Room} (hR : R = rm_M_sizeOf) : (rm_M_cell).frames + 1 ≤ R.frames ∧ 8 + (3 + 11) + (rm_M_cell).locals ≤ R.locals := by subst hR; decide
def fb_M_sizeOf_64 (N : Nat) (G : Unit) (u : MS) (t0 : Int32) : Option (MS × Int32) := some (u, t0)
set_option maxRecDepth 100000 in
set_option maxHeartbeats 4000000 in
theorem wb_M_sizeOf_64 {p : Program} {l : Launch} {e : Env} {R : Room} {s : State} {m : MethodId} {args : Array Value} {below : List Frame} {meth : Method} {c : Code} {D : va_G} {cl : List vw_C} {cB cI cJ cZ cS : ClassId} {A : Nat → Prop} {iM h0 : Nat} {ad : Nat → Nat} (C0 : MCx p s m args meth c b_M_sizeOf 6 (some .int) D cl cB cI cJ cZ cS iM A) (hR : R = rm_M_sizeOf) (N : Nat) (G : Unit) (hG : True) : ∀ (u : MS) (t0 : Int32) (x : MS × Int32), fb_M_sizeOf_64 N G u t0 = some x → ∀ (H : Heap) (locs : List Loc), va_P D cl (wM cB cI cJ cZ cS iM h0 ad u) H → va_D A (wM cB cI cJ cZ cS iM h0 ad u) → va_S A s.heap H locs → ∀ (ls : Array Slot), lv_has ls 6 [] → W p l e R s m args below meth c H locs 0 0 (MQ below (mQi D cl cB cI cJ cZ cS iM h0 ad A x) args s 0 0 A) (F0 m 64 ls [.int t0]) := by
  intro u t0 x hf H locs hP hD hS ls hl
  obtain ⟨hx, hb, hr, hml, ht, hown, hM, hK, hA, hlocks⟩ := id C0
  unfold fb_M_sizeOf_64 at hf
  exact mr_i C0 hP hD hS hf d_M_sizeOf_64
def fb_M_sizeOf_0 (N : Nat) (G : Unit) (u : MS) (v1 : Int32) (v2 : Int64) : Option (MS × Int32) := bnd (fm_M_sortOf N u v2) (fun u1 r1 => bnd (fm_M_valueOf N u1 v2) (fun u2 r2 => br (decide (r1 = 7)) (fb_M_sizeOf_64 N G u2 (2)) (br (decide (r1 = 5)) (bnd (fm_M_cell N u2 v1 r2) (fun u4 r4 => fb_M_sizeOf_64 N G u4 ((1 + r4.toInt32)))) (br (decide (r1 = 3)) (bnd (fm_M_cell N u2 v1 (r2 + 1)) (fun u3 r3 => fb_M_sizeOf_64 N G u3 ((2 + r3.toInt32)))) (fb_M_sizeOf_64 N G u2 (0))))))
set_option maxRecDepth 100000 in
set_option maxHeartbeats 4000000 in
theorem wb_M_sizeOf_0 {p : Program} {l : Launch} {e : Env} {R : Room} {s : State} {m : MethodId} {args : Array Value} {below : List Frame} {meth : Method} {c : Code} {D : va_G} {cl : List vw_C} {cB cI cJ cZ cS : ClassId} {A : Nat → Prop} {iM h0 : Nat} {ad : Nat → Nat} (C0 : MCx p s m args meth c b_M_sizeOf 6 (some .int) D cl cB cI cJ cZ cS iM A) (hR : R = rm_M_sizeOf) (N : Nat) (G : Unit) (hG : True) : ∀ (u : MS) (v1 : Int32) (v2 : Int64) (x : MS × Int32), fb_M_sizeOf_0 N G u v1 v2 = some x → ∀ (H : Heap) (locs : List Loc), va_P D cl (wM cB cI cJ cZ cS iM h0 ad u) H → va_D A (wM cB cI cJ cZ cS iM h0 ad u) → va_S A s.heap H locs → ∀ (ls : Array Slot), lv_has ls 6 [(0, .ref h0), (1, .int v1), (2, .long v2)] → W p l e R s m args below meth c H locs 0 0 (MQ below (mQi D cl cB cI cJ cZ cS iM h0 ad A x) args s 0 0 A) (F0 m 0 ls []) := by
  intro u v1 v2 x hf H locs hP hD hS ls hl
  obtain ⟨hx, hb, hr, hml, ht, hown, hM, hK, hA, hlocks⟩ := id C0
  unfold fb_M_sizeOf_0 at hf
  refine lv_lload_n hx hb d_M_sizeOf_0 rfl (lv_at hl 2 rfl) ?_
  obtain ⟨u1, r1, hc1, hf⟩ := bnd_some hf
  refine mS_i (As := [.long v2]) (rest := []) C0 hP hD hS (c_M_sortOf N hM hc1) k_M_sortOf hl_M_sortOf ht_M_sortOf hini_M rfl rfl hd_M_sortOf rfl (rm_M_sizeOf_M_sortOf hR) hl.1 (Nat.le_of_ble_eq_true rfl) d_M_sizeOf_1 rfl ⟨Nat.zero_le _, Nat.zero_le _⟩ (fun H locs hP hD hS => ?_)
  refine lv_istore (lv' := [(4, .int r1), (0, .ref h0), (1, .int v1), (2, .long v2)]) hx hb d_M_sizeOf_4 hl (by decide) rfl (fun ls hl => ?_)
  refine lv_lload_n hx hb d_M_sizeOf_6 rfl (lv_at hl 3 rfl) ?_
  obtain ⟨u2, r2, hc2, hf⟩ := bnd_some hf
  refine mS_i (As := [.long v2]) (rest := []) C0 hP hD hS (c_M_valueOf N hM hc2) k_M_valueOf hl_M_valueOf ht_M_valueOf hini_M rfl rfl hd_M_valueOf rfl (rm_M_sizeOf_M_valueOf hR) hl.1 (Nat.le_of_ble_eq_true rfl) d_M_sizeOf_7 rfl ⟨Nat.zero_le _, Nat.zero_le _⟩ (fun H locs hP hD hS => ?_)
  refine lv_istore (lv' := [(5, .int r2), (4, .int r1), (0, .ref h0), (1, .int v1), (2, .long v2)]) hx hb d_M_sizeOf_10 hl (by decide) rfl (fun ls hl => ?_)
  refine lv_iload hx hb d_M_sizeOf_12 (lv_at hl 1 rfl) ?_
  refine lv_bipush (v := 7) hx hb d_M_sizeOf_14 (by decide) ?_
  refine lv_icmp_ne (tgt := 23) hx hb d_M_sizeOf_16 (by decide) (fun hc => ?_) (fun hc => ?_)
  · rw [br_n _ hc] at hf
    refine lv_iload hx hb d_M_sizeOf_23 (lv_at hl 1 rfl) ?_
    refine lv_iconst (v := 5) hx hb d_M_sizeOf_25 (by decide) ?_
    refine lv_icmp_ne (tgt := 42) hx hb d_M_sizeOf_26 (by decide) (fun hc => ?_) (fun hc => ?_)
    · rw [br_n _ hc] at hf
      refine lv_iload hx hb d_M_sizeOf_42 (lv_at hl 1 rfl) ?_
      refine lv_iconst (v := 3) hx hb d_M_sizeOf_44 (by decide) ?_
      refine lv_icmp_ne (tgt := 63) hx hb d_M_sizeOf_45 (by decide) (fun hc => ?_) (fun hc => ?_)
      · rw [br_n _ hc] at hf
        refine lv_iconst (v := 0) hx hb d_M_sizeOf_63 (by decide) ?_
        exact wb_M_sizeOf_64 C0 hR N G hG _ _ _ hf H locs hP hD hS ls (lv_sub hl [] rfl)
      · rw [br_p _ hc] at hf
        refine lv_iconst (v := 2) hx hb d_M_sizeOf_48 (by decide) ?_
        refine lv_aload_n hx hb d_M_sizeOf_49 rfl (lv_at hl 2 rfl) ?_
        refine lv_iload_n hx hb d_M_sizeOf_50 rfl (lv_at hl 3 rfl) ?_
        refine lv_iload hx hb d_M_sizeOf_51 (lv_at hl 0 rfl) ?_
        refine lv_iconst (v := 1) hx hb d_M_sizeOf_53 (by decide) ?_
        refine lv_iadd hx hb d_M_sizeOf_54 ?_
        obtain ⟨u3, r3, hc3, hf⟩ := bnd_some hf
        refine mV_l (As := [.int v1, .int (r2 + 1)]) (rest := [.int 2]) C0 hP hD hS (c_M_cell N hM hc3) k_M_cell hl_M_cell hi_M_cell hs_M_cell hini_M rfl rfl hd_M_cell rfl (rm_M_sizeOf_M_cell hR) hl.1 (Nat.le_of_ble_eq_true rfl) d_M_sizeOf_55 rfl ⟨Nat.zero_le _, Nat.zero_le _⟩ (fun H locs hP hD hS => ?_)
        refine lv_l2i hx hb d_M_sizeOf_58 rfl ?_
        refine lv_iadd hx hb d_M_sizeOf_59 ?_
        refine lv_goto (tgt := 64) hx hb d_M_sizeOf_60 (by decide) ?_
        exact wb_M_sizeOf_64 C0 hR N G hG _ _ _ hf H locs hP hD hS ls (lv_sub hl [] rfl)
    · rw [br_p _ hc] at hf
      refine lv_iconst (v := 1) hx hb d_M_sizeOf_29 (by decide) ?_
      refine lv_aload_n hx hb d_M_sizeOf_30 rfl (lv_at hl 2 rfl) ?_
      refine lv_iload_n hx hb d_M_sizeOf_31 rfl (lv_at hl 3 rfl) ?_
      refine lv_iload hx hb d_M_sizeOf_32 (lv_at hl 0 rfl) ?_
      obtain ⟨u4, r4, hc4, hf⟩ := bnd_some hf
      refine mV_l (As := [.int v1, .int r2]) (rest := [.int 1]) C0 hP hD hS (c_M_cell N hM hc4) k_M_cell hl_M_cell hi_M_cell hs_M_cell hini_M rfl rfl hd_M_cell rfl (rm_M_sizeOf_M_cell hR) hl.1 (Nat.le_of_ble_eq_true rfl) d_M_sizeOf_34 rfl ⟨Nat.zero_le _, Nat.zero_le _⟩ (fun H locs hP hD hS => ?_)
      refine lv_l2i hx hb d_M_sizeOf_37 rfl ?_
      refine lv_iadd hx hb d_M_sizeOf_38 ?_
      refine lv_goto (tgt := 64) hx hb d_M_sizeOf_39 (by decide) ?_
      exact wb_M_sizeOf_64 C0 hR N G hG _ _ _ hf H locs hP hD hS ls (lv_sub hl [] rfl)
  · rw [br_p _ hc] at hf
    refine lv_iconst (v := 2) hx hb d_M_sizeOf_19 (by decide) ?_
    refine lv_goto (tgt := 64) hx hb d_M_sizeOf_20 (by decide) ?_
    exact wb_M_sizeOf_64 C0 hR N G hG _ _ _ hf H locs hP hD hS ls (lv_sub hl [] rfl)
def fm_M_sizeOf (N : Nat) (u : MS) (v1 : Int32) (v2 : Int64) : Option (MS × Int32) := fb_M_sizeOf_0 N () u v1 v2
set_option maxRecDepth 100000 in
set_option maxHeartbeats 4000000 in
theorem c_M_sizeOf (N : Nat) {l : Launch} {D : va_G} {cl : List vw_C} {cB cI cJ cZ cS : ClassId} {iM h0 : Nat} {ad : Nat → Nat} {u : MS} {sz : Nat} {v1 : Int32} {v2 : Int64} {x : MS × Int32} (hM : cl[iM]? = some (R_M, F_M, 171)) (hf : fm_M_sizeOf N u v1 v2 = some x) : Met l y_M_sizeOf (wd_ws y_M_sizeOf b_M_sizeOf 6 (some .int)) rm_M_sizeOf (mPc D cl cB cI cJ cZ cS iM h0 ad u sz [.ref h0, .int v1, .long v2]) (mQi D cl cB cI cJ cZ cS iM h0 ad (mA cB cI cJ cZ cS iM h0 ad u sz) x) 0 0 (mA cB cI cJ cZ cS iM h0 ad u sz) :=
  mMet (by decide) rfl hM (Nat.le_of_ble_eq_true rfl) (fun p e s m below meth c ls hsz C0 hP hD hS hl => by
    have hR : rm_M_sizeOf = rm_M_sizeOf := rfl
    exact wb_M_sizeOf_0 C0 hR N () trivial u _ _ x hf s.heap [] hP hD hS ls (lv_sub hl [0, 1, 2] rfl))
abbrev b_M_partsFrom : ByteArray := prog_14_method_85_code
def y_M_partsFrom : MethodName := ⟨R_M, "partsFrom", "(J)I"⟩
def w_M_partsFrom : List Cond := wd_ws y_M_partsFrom b_M_partsFrom 3 (some .int)
set_option maxRecDepth 100000 in
theorem k_M_partsFrom : Cond.code y_M_partsFrom b_M_partsFrom 3 (some .int) ∈ wd_tbl := wd_of 2985 rfl rfl
theorem d_M_partsFrom_0 : decode b_M_partsFrom 0 = .ok (.lload_n 0, 1) := by decide +kernel
theorem d_M_partsFrom_1 : decode b_M_partsFrom 1 = .ok (.invokestatic 676, 3) := by decide +kernel
theorem d_M_partsFrom_4 : decode b_M_partsFrom 4 = .ok (.istore_n 2, 1) := by decide +kernel
theorem d_M_partsFrom_5 : decode b_M_partsFrom 5 = .ok (.iload_n 2, 1) := by decide +kernel
theorem d_M_partsFrom_6 : decode b_M_partsFrom 6 = .ok (.bipush 7, 2) := by decide +kernel
theorem d_M_partsFrom_8 : decode b_M_partsFrom 8 = .ok (.if_icmp .ne 7, 3) := by decide +kernel
theorem d_M_partsFrom_11 : decode b_M_partsFrom 11 = .ok (.iconst 0, 1) := by decide +kernel
theorem d_M_partsFrom_12 : decode b_M_partsFrom 12 = .ok (.goto 13, 3) := by decide +kernel
theorem d_M_partsFrom_15 : decode b_M_partsFrom 15 = .ok (.iload_n 2, 1) := by decide +kernel
theorem d_M_partsFrom_16 : decode b_M_partsFrom 16 = .ok (.iconst 5, 1) := by decide +kernel
theorem d_M_partsFrom_17 : decode b_M_partsFrom 17 = .ok (.if_icmp .ne 7, 3) := by decide +kernel
theorem d_M_partsFrom_20 : decode b_M_partsFrom 20 = .ok (.iconst 1, 1) := by decide +kernel
theorem d_M_partsFrom_21 : decode b_M_partsFrom 21 = .ok (.goto 4, 3) := by decide +kernel
theorem d_M_partsFrom_24 : decode b_M_partsFrom 24 = .ok (.iconst 2, 1) := by decide +kernel
theorem d_M_partsFrom_25 : decode b_M_partsFrom 25 = .ok (.ireturn, 1) := by decide +kernel
set_option maxRecDepth 100000 in
theorem hl_M_partsFrom : Cond.methodLink R_M 706 y_M_partsFrom ∈ wd_tbl := wd_of 2983 (by decide +kernel) rfl
set_option maxRecDepth 100000 in
theorem ht_M_partsFrom : Cond.static y_M_partsFrom ∈ wd_tbl := wd_of 2984 (by decide +kernel) rfl
theorem hd_M_partsFrom : y_M_partsFrom.cls = R_M ∧ y_M_partsFrom.cls ≠ "java/lang/invoke/MethodHandle" ∧ y_M_partsFrom.cls ≠ "java/lang/invoke/VarHandle" ∧ (parseMethodDescriptor y_M_partsFrom.desc).map (fun d => d.parameters.length) = some 1 := by decide +kernel
def rm_M_partsFrom : Room := { frames := 1, cells := 0, slots := 0, locals := 21 }
theorem rm_M_partsFrom_M_sortOf {R : Room} (hR : R = rm_M_partsFrom) : (rm_M_sortOf).frames + 1 ≤ R.frames ∧ 8 + (2 + 11) + (rm_M_sortOf).locals ≤ R.locals := by subst hR; decide
def fb_M_partsFrom_25 (N : Nat) (G : Unit) (u : MS) (t0 : Int32) : Option (MS × Int32) := some (u, t0)
set_option maxRecDepth 100000 in
set_option maxHeartbeats 4000000 in
theorem wb_M_partsFrom_25 {p : Program} {l : Launch} {e : Env} {R : Room} {s : State} {m : MethodId} {args : Array Value} {below : List Frame} {meth : Method} {c : Code} {D : va_G} {cl : List vw_C} {cB cI cJ cZ cS : ClassId} {A : Nat → Prop} {iM h0 : Nat} {ad : Nat → Nat} (C0 : MCx p s m args meth c b_M_partsFrom 3 (some .int) D cl cB cI cJ cZ cS iM A) (hR : R = rm_M_partsFrom) (N : Nat) (G : Unit) (hG : True) : ∀ (u : MS) (t0 : Int32) (x : MS × Int32), fb_M_partsFrom_25 N G u t0 = some x → ∀ (H : Heap) (locs : List Loc), va_P D cl (wM cB cI cJ cZ cS iM h0 ad u) H → va_D A (wM cB cI cJ cZ cS iM h0 ad u) → va_S A s.heap H locs → ∀ (ls : Array Slot), lv_has ls 3 [] → W p l e R s m args below meth c H locs 0 0 (MQ below (mQi D cl cB cI cJ cZ cS iM h0 ad A x) args s 0 0 A) (F0 m 25 ls [.int t0]) := by
  intro u t0 x hf H locs hP hD hS ls hl
  obtain ⟨hx, hb, hr, hml, ht, hown, hM, hK, hA, hlocks⟩ := id C0
  unfold fb_M_partsFrom_25 at hf
  exact mr_i C0 hP hD hS hf d_M_partsFrom_25
def fb_M_partsFrom_0 (N : Nat) (G : Unit) (u : MS) (v0 : Int64) : Option (MS × Int32) := bnd (fm_M_sortOf N u v0) (fun u1 r1 => br (decide (r1 = 7)) (fb_M_partsFrom_25 N G u1 (0)) (br (decide (r1 = 5)) (fb_M_partsFrom_25 N G u1 (1)) (fb_M_partsFrom_25 N G u1 (2))))
set_option maxRecDepth 100000 in
set_option maxHeartbeats 4000000 in
theorem wb_M_partsFrom_0 {p : Program} {l : Launch} {e : Env} {R : Room} {s : State} {m : MethodId} {args : Array Value} {below : List Frame} {meth : Method} {c : Code} {D : va_G} {cl : List vw_C} {cB cI cJ cZ cS : ClassId} {A : Nat → Prop} {iM h0 : Nat} {ad : Nat → Nat} (C0 : MCx p s m args meth c b_M_partsFrom 3 (some .int) D cl cB cI cJ cZ cS iM A) (hR : R = rm_M_partsFrom) (N : Nat) (G : Unit) (hG : True) : ∀ (u : MS) (v0 : Int64) (x : MS × Int32), fb_M_partsFrom_0 N G u v0 = some x → ∀ (H : Heap) (locs : List Loc), va_P D cl (wM cB cI cJ cZ cS iM h0 ad u) H → va_D A (wM cB cI cJ cZ cS iM h0 ad u) → va_S A s.heap H locs → ∀ (ls : Array Slot), lv_has ls 3 [(0, .long v0)] → W p l e R s m args below meth c H locs 0 0 (MQ below (mQi D cl cB cI cJ cZ cS iM h0 ad A x) args s 0 0 A) (F0 m 0 ls []) := by
  intro u v0 x hf H locs hP hD hS ls hl
  obtain ⟨hx, hb, hr, hml, ht, hown, hM, hK, hA, hlocks⟩ := id C0
  unfold fb_M_partsFrom_0 at hf
  refine lv_lload_n hx hb d_M_partsFrom_0 rfl (lv_at hl 0 rfl) ?_
  obtain ⟨u1, r1, hc1, hf⟩ := bnd_some hf
  refine mS_i (As := [.long v0]) (rest := []) C0 hP hD hS (c_M_sortOf N hM hc1) k_M_sortOf hl_M_sortOf ht_M_sortOf hini_M rfl rfl hd_M_sortOf rfl (rm_M_partsFrom_M_sortOf hR) hl.1 (Nat.le_of_ble_eq_true rfl) d_M_partsFrom_1 rfl ⟨Nat.zero_le _, Nat.zero_le _⟩ (fun H locs hP hD hS => ?_)
  refine lv_istore_n (lv' := [(2, .int r1), (0, .long v0)]) hx hb d_M_partsFrom_4 rfl hl (by decide) rfl (fun ls hl => ?_)
  refine lv_iload_n hx hb d_M_partsFrom_5 rfl (lv_at hl 0 rfl) ?_
  refine lv_bipush (v := 7) hx hb d_M_partsFrom_6 (by decide) ?_
  refine lv_icmp_ne (tgt := 15) hx hb d_M_partsFrom_8 (by decide) (fun hc => ?_) (fun hc => ?_)
  · rw [br_n _ hc] at hf
    refine lv_iload_n hx hb d_M_partsFrom_15 rfl (lv_at hl 0 rfl) ?_
    refine lv_iconst (v := 5) hx hb d_M_partsFrom_16 (by decide) ?_
    refine lv_icmp_ne (tgt := 24) hx hb d_M_partsFrom_17 (by decide) (fun hc => ?_) (fun hc => ?_)
    · rw [br_n _ hc] at hf
      refine lv_iconst (v := 2) hx hb d_M_partsFrom_24 (by decide) ?_
      exact wb_M_partsFrom_25 C0 hR N G hG _ _ _ hf H locs hP hD hS ls (lv_sub hl [] rfl)
    · rw [br_p _ hc] at hf
      refine lv_iconst (v := 1) hx hb d_M_partsFrom_20 (by decide) ?_
      refine lv_goto (tgt := 25) hx hb d_M_partsFrom_21 (by decide) ?_
      exact wb_M_partsFrom_25 C0 hR N G hG _ _ _ hf H locs hP hD hS ls (lv_sub hl [] rfl)
  · rw [br_p _ hc] at hf
    refine lv_iconst (v := 0) hx hb d_M_partsFrom_11 (by decide) ?_
    refine lv_goto (tgt := 25) hx hb d_M_partsFrom_12 (by decide) ?_
    exact wb_M_partsFrom_25 C0 hR N G hG _ _ _ hf H locs hP hD hS ls (lv_sub hl [] rfl)
def fm_M_partsFrom (N : Nat) (u : MS) (v0 : Int64) : Option (MS × Int32) := fb_M_partsFrom_0 N () u v0
set_option maxRecDepth 100000 in
set_option maxHeartbeats 4000000 in
theorem c_M_partsFrom (N : Nat) {l : Launch} {D : va_G} {cl : List vw_C} {cB cI cJ cZ cS : ClassId} {iM h0 : Nat} {ad : Nat → Nat} {u : MS} {sz : Nat} {v0 : Int64} {x : MS × Int32} (hM : cl[iM]? = some (R_M, F_M, 171)) (hf : fm_M_partsFrom N u v0 = some x) : Met l y_M_partsFrom (wd_ws y_M_partsFrom b_M_partsFrom 3 (some .int)) rm_M_partsFrom (mPc D cl cB cI cJ cZ cS iM h0 ad u sz [.long v0]) (mQi D cl cB cI cJ cZ cS iM h0 ad (mA cB cI cJ cZ cS iM h0 ad u sz) x) 0 0 (mA cB cI cJ cZ cS iM h0 ad u sz) :=
  mMet (by decide) rfl hM (Nat.le_of_ble_eq_true rfl) (fun p e s m below meth c ls hsz C0 hP hD hS hl => by
    have hR : rm_M_partsFrom = rm_M_partsFrom := rfl
    exact wb_M_partsFrom_0 C0 hR N () trivial u _ x hf s.heap [] hP hD hS ls (lv_sub hl [0] rfl))
abbrev b_M_carried : ByteArray := prog_14_method_86_code
def y_M_carried : MethodName := ⟨R_M, "carried", "(IJ)J"⟩
def w_M_carried : List Cond := wd_ws y_M_carried b_M_carried 7 (some .long)
set_option maxRecDepth 100000 in
theorem k_M_carried : Cond.code y_M_carried b_M_carried 7 (some .long) ∈ wd_tbl := wd_of 2964 rfl rfl
theorem d_M_carried_0 : decode b_M_carried 0 = .ok (.lload_n 2, 1) := by decide +kernel
theorem d_M_carried_1 : decode b_M_carried 1 = .ok (.invokestatic 686, 3) := by decide +kernel
theorem d_M_carried_4 : decode b_M_carried 4 = .ok (.ifCond .ne 5, 3) := by decide +kernel
theorem d_M_carried_7 : decode b_M_carried 7 = .ok (.lload_n 2, 1) := by decide +kernel
theorem d_M_carried_8 : decode b_M_carried 8 = .ok (.lreturn, 1) := by decide +kernel
theorem d_M_carried_9 : decode b_M_carried 9 = .ok (.lload_n 2, 1) := by decide +kernel
theorem d_M_carried_10 : decode b_M_carried 10 = .ok (.invokestatic 680, 3) := by decide +kernel
theorem d_M_carried_13 : decode b_M_carried 13 = .ok (.istore 4, 2) := by decide +kernel
theorem d_M_carried_15 : decode b_M_carried 15 = .ok (.aload_n 0, 1) := by decide +kernel
theorem d_M_carried_16 : decode b_M_carried 16 = .ok (.getfield 309, 3) := by decide +kernel
theorem d_M_carried_19 : decode b_M_carried 19 = .ok (.iload 4, 2) := by decide +kernel
theorem d_M_carried_21 : decode b_M_carried 21 = .ok (.iaload, 1) := by decide +kernel
theorem d_M_carried_22 : decode b_M_carried 22 = .ok (.iconst (-1), 1) := by decide +kernel
theorem d_M_carried_23 : decode b_M_carried 23 = .ok (.if_icmp .ne 101, 3) := by decide +kernel
theorem d_M_carried_26 : decode b_M_carried 26 = .ok (.aload_n 0, 1) := by decide +kernel
theorem d_M_carried_27 : decode b_M_carried 27 = .ok (.iload_n 1, 1) := by decide +kernel
theorem d_M_carried_28 : decode b_M_carried 28 = .ok (.lload_n 2, 1) := by decide +kernel
theorem d_M_carried_29 : decode b_M_carried 29 = .ok (.invokevirtual 690, 3) := by decide +kernel
theorem d_M_carried_32 : decode b_M_carried 32 = .ok (.istore 5, 2) := by decide +kernel
theorem d_M_carried_34 : decode b_M_carried 34 = .ok (.aload_n 0, 1) := by decide +kernel
theorem d_M_carried_35 : decode b_M_carried 35 = .ok (.getfield 309, 3) := by decide +kernel
theorem d_M_carried_38 : decode b_M_carried 38 = .ok (.iload 4, 2) := by decide +kernel
theorem d_M_carried_40 : decode b_M_carried 40 = .ok (.aload_n 0, 1) := by decide +kernel
theorem d_M_carried_41 : decode b_M_carried 41 = .ok (.getfield 694, 3) := by decide +kernel
theorem d_M_carried_44 : decode b_M_carried 44 = .ok (.iastore, 1) := by decide +kernel
theorem d_M_carried_45 : decode b_M_carried 45 = .ok (.iconst 0, 1) := by decide +kernel
theorem d_M_carried_46 : decode b_M_carried 46 = .ok (.istore 6, 2) := by decide +kernel
theorem d_M_carried_48 : decode b_M_carried 48 = .ok (.iload 6, 2) := by decide +kernel
theorem d_M_carried_50 : decode b_M_carried 50 = .ok (.iload 5, 2) := by decide +kernel
theorem d_M_carried_52 : decode b_M_carried 52 = .ok (.if_icmp .ge 31, 3) := by decide +kernel
theorem d_M_carried_55 : decode b_M_carried 55 = .ok (.aload_n 0, 1) := by decide +kernel
theorem d_M_carried_56 : decode b_M_carried 56 = .ok (.getfield 306, 3) := by decide +kernel
theorem d_M_carried_59 : decode b_M_carried 59 = .ok (.aload_n 0, 1) := by decide +kernel
theorem d_M_carried_60 : decode b_M_carried 60 = .ok (.getfield 694, 3) := by decide +kernel
theorem d_M_carried_63 : decode b_M_carried 63 = .ok (.iload 6, 2) := by decide +kernel
theorem d_M_carried_65 : decode b_M_carried 65 = .ok (.iadd, 1) := by decide +kernel
theorem d_M_carried_66 : decode b_M_carried 66 = .ok (.aload_n 0, 1) := by decide +kernel
theorem d_M_carried_67 : decode b_M_carried 67 = .ok (.iload_n 1, 1) := by decide +kernel
theorem d_M_carried_68 : decode b_M_carried 68 = .ok (.iload 4, 2) := by decide +kernel
theorem d_M_carried_70 : decode b_M_carried 70 = .ok (.iload 6, 2) := by decide +kernel
theorem d_M_carried_72 : decode b_M_carried 72 = .ok (.iadd, 1) := by decide +kernel
theorem d_M_carried_73 : decode b_M_carried 73 = .ok (.invokevirtual 683, 3) := by decide +kernel
theorem d_M_carried_76 : decode b_M_carried 76 = .ok (.lastore, 1) := by decide +kernel
theorem d_M_carried_77 : decode b_M_carried 77 = .ok (.iinc 6 1, 3) := by decide +kernel
theorem d_M_carried_80 : decode b_M_carried 80 = .ok (.goto (-32), 3) := by decide +kernel
theorem d_M_carried_83 : decode b_M_carried 83 = .ok (.aload_n 0, 1) := by decide +kernel
theorem d_M_carried_84 : decode b_M_carried 84 = .ok (.getfield 312, 3) := by decide +kernel
theorem d_M_carried_87 : decode b_M_carried 87 = .ok (.aload_n 0, 1) := by decide +kernel
theorem d_M_carried_88 : decode b_M_carried 88 = .ok (.getfield 697, 3) := by decide +kernel
theorem d_M_carried_91 : decode b_M_carried 91 = .ok (.lload_n 2, 1) := by decide +kernel
theorem d_M_carried_92 : decode b_M_carried 92 = .ok (.ldc2_w 700, 3) := by decide +kernel
theorem d_M_carried_95 : decode b_M_carried 95 = .ok (.land, 1) := by decide +kernel
theorem d_M_carried_96 : decode b_M_carried 96 = .ok (.aload_n 0, 1) := by decide +kernel
theorem d_M_carried_97 : decode b_M_carried 97 = .ok (.getfield 694, 3) := by decide +kernel
theorem d_M_carried_100 : decode b_M_carried 100 = .ok (.i2l, 1) := by decide +kernel
theorem d_M_carried_101 : decode b_M_carried 101 = .ok (.lor, 1) := by decide +kernel
theorem d_M_carried_102 : decode b_M_carried 102 = .ok (.lastore, 1) := by decide +kernel
theorem d_M_carried_103 : decode b_M_carried 103 = .ok (.aload_n 0, 1) := by decide +kernel
theorem d_M_carried_104 : decode b_M_carried 104 = .ok (.dup, 1) := by decide +kernel
theorem d_M_carried_105 : decode b_M_carried 105 = .ok (.getfield 697, 3) := by decide +kernel
theorem d_M_carried_108 : decode b_M_carried 108 = .ok (.iconst 1, 1) := by decide +kernel
theorem d_M_carried_109 : decode b_M_carried 109 = .ok (.iadd, 1) := by decide +kernel
theorem d_M_carried_110 : decode b_M_carried 110 = .ok (.putfield 697, 3) := by decide +kernel
theorem d_M_carried_113 : decode b_M_carried 113 = .ok (.aload_n 0, 1) := by decide +kernel
theorem d_M_carried_114 : decode b_M_carried 114 = .ok (.dup, 1) := by decide +kernel
theorem d_M_carried_115 : decode b_M_carried 115 = .ok (.getfield 694, 3) := by decide +kernel
theorem d_M_carried_118 : decode b_M_carried 118 = .ok (.iload 5, 2) := by decide +kernel
theorem d_M_carried_120 : decode b_M_carried 120 = .ok (.iadd, 1) := by decide +kernel
theorem d_M_carried_121 : decode b_M_carried 121 = .ok (.putfield 694, 3) := by decide +kernel
theorem d_M_carried_124 : decode b_M_carried 124 = .ok (.lload_n 2, 1) := by decide +kernel
theorem d_M_carried_125 : decode b_M_carried 125 = .ok (.ldc2_w 700, 3) := by decide +kernel
theorem d_M_carried_128 : decode b_M_carried 128 = .ok (.land, 1) := by decide +kernel
theorem d_M_carried_129 : decode b_M_carried 129 = .ok (.aload_n 0, 1) := by decide +kernel
theorem d_M_carried_130 : decode b_M_carried 130 = .ok (.getfield 309, 3) := by decide +kernel
theorem d_M_carried_133 : decode b_M_carried 133 = .ok (.iload 4, 2) := by decide +kernel
theorem d_M_carried_135 : decode b_M_carried 135 = .ok (.iaload, 1) := by decide +kernel
theorem d_M_carried_136 : decode b_M_carried 136 = .ok (.i2l, 1) := by decide +kernel
theorem d_M_carried_137 : decode b_M_carried 137 = .ok (.lor, 1) := by decide +kernel
theorem d_M_carried_138 : decode b_M_carried 138 = .ok (.lreturn, 1) := by decide +kernel
set_option maxRecDepth 100000 in
theorem hl_M_carried : Cond.methodLink R_M 702 y_M_carried ∈ wd_tbl := wd_of 2961 (by decide +kernel) rfl
set_option maxRecDepth 100000 in
theorem hi_M_carried : Cond.instanceMethod y_M_carried ∈ wd_tbl := wd_of 2963 (by decide +kernel) rfl
set_option maxRecDepth 100000 in
theorem hs_M_carried : Cond.selects R_M y_M_carried y_M_carried ∈ wd_tbl := wd_of 201 (by decide +kernel) rfl
theorem hd_M_carried : y_M_carried.cls = R_M ∧ y_M_carried.cls ≠ "java/lang/invoke/MethodHandle" ∧ y_M_carried.cls ≠ "java/lang/invoke/VarHandle" ∧ (parseMethodDescriptor y_M_carried.desc).map (fun d => d.parameters.length) = some 2 := by decide +kernel
def rm_M_carried : Room := { frames := 2, cells := 0, slots := 0, locals := 47 }
theorem rm_M_carried_M_inHeap {R : Room} (hR : R = rm_M_carried) : (rm_M_inHeap).frames + 1 ≤ R.frames ∧ 8 + (3 + 11) + (rm_M_inHeap).locals ≤ R.locals := by subst hR; decide
theorem rm_M_carried_M_valueOf {R : Room} (hR : R = rm_M_carried) : (rm_M_valueOf).frames + 1 ≤ R.frames ∧ 8 + (2 + 11) + (rm_M_valueOf).locals ≤ R.locals := by subst hR; decide
theorem rm_M_carried_M_sizeOf {R : Room} (hR : R = rm_M_carried) : (rm_M_sizeOf).frames + 1 ≤ R.frames ∧ 8 + (6 + 11) + (rm_M_sizeOf).locals ≤ R.locals := by subst hR; decide
theorem rm_M_carried_M_cell {R : Room} (hR : R = rm_M_carried) : (rm_M_cell).frames + 1 ≤ R.frames ∧ 8 + (3 + 11) + (rm_M_cell).locals ≤ R.locals := by subst hR; decide
def fb_M_carried_124 (N : Nat) (G : (MS → Int32 → Int64 → Int32 → Int32 → Int32 → Option (MS × Int64))) (u : MS) (v2 : Int64) (v4 : Int32) : Option (MS × Int64) := ck (inb v4 (ln 135)) (some (u, ((v2 &&& (-4294967296)) ||| (u.2.2.1 135 v4.toNatClampNeg).toInt64)))
set_option maxRecDepth 100000 in
set_option maxHeartbeats 4000000 in
theorem wb_M_carried_124 {p : Program} {l : Launch} {e : Env} {R : Room} {s : State} {m : MethodId} {args : Array Value} {below : List Frame} {meth : Method} {c : Code} {D : va_G} {cl : List vw_C} {cB cI cJ cZ cS : ClassId} {A : Nat → Prop} {iM h0 : Nat} {ad : Nat → Nat} (C0 : MCx p s m args meth c b_M_carried 7 (some .long) D cl cB cI cJ cZ cS iM A) (hR : R = rm_M_carried) (N : Nat) (G : (MS → Int32 → Int64 → Int32 → Int32 → Int32 → Option (MS × Int64))) (hG : (∀ (u : MS) (v1 : Int32) (v2 : Int64) (v4 : Int32) (v5 : Int32) (v6 : Int32) (x : MS × Int64), G u v1 v2 v4 v5 v6 = some x → ∀ (H : Heap) (locs : List Loc), va_P D cl (wM cB cI cJ cZ cS iM h0 ad u) H → va_D A (wM cB cI cJ cZ cS iM h0 ad u) → va_S A s.heap H locs → ∀ (ls : Array Slot), lv_has ls 7 [(0, .ref h0), (1, .int v1), (2, .long v2), (4, .int v4), (5, .int v5), (6, .int v6)] → W p l e R s m args below meth c H locs 0 0 (MQ below (mQl D cl cB cI cJ cZ cS iM h0 ad A x) args s 0 0 A) (F0 m 48 ls []))) : ∀ (u : MS) (v2 : Int64) (v4 : Int32) (x : MS × Int64), fb_M_carried_124 N G u v2 v4 = some x → ∀ (H : Heap) (locs : List Loc), va_P D cl (wM cB cI cJ cZ cS iM h0 ad u) H → va_D A (wM cB cI cJ cZ cS iM h0 ad u) → va_S A s.heap H locs → ∀ (ls : Array Slot), lv_has ls 7 [(0, .ref h0), (2, .long v2), (4, .int v4)] → W p l e R s m args below meth c H locs 0 0 (MQ below (mQl D cl cB cI cJ cZ cS iM h0 ad A x) args s 0 0 A) (F0 m 124 ls []) := by
  intro u v2 v4 x hf H locs hP hD hS ls hl
  obtain ⟨hx, hb, hr, hml, ht, hown, hM, hK, hA, hlocks⟩ := id C0
  unfold fb_M_carried_124 at hf
  refine lv_lload_n hx hb d_M_carried_124 rfl (lv_at hl 1 rfl) ?_
  refine lv_ldc2 (v := (-4294967296)) hx hb hown (ht _ (wd_of 2982 (by decide +kernel) rfl)) d_M_carried_125 ?_
  refine lv_land hx hb d_M_carried_128 ?_
  refine lv_aload_n hx hb d_M_carried_129 rfl (lv_at hl 0 rfl) ?_
  refine ug_R hx hb ht hown hM hK hP 135 (by decide) lk_M_135 (by decide) d_M_carried_130 ?_
  refine lv_iload hx hb d_M_carried_133 (lv_at hl 2 rfl) ?_
  obtain ⟨hi9, hf⟩ := ck_some hf
  refine ul_I hx hb hK hP (by decide) (by decide) hi9 d_M_carried_135 ?_
  refine lv_i2l hx hb d_M_carried_136 rfl ?_
  refine lv_lor hx hb d_M_carried_137 ?_
  exact mr_l C0 hP hD hS hf d_M_carried_138
def fb_M_carried_48 (N : Nat) (G : (MS → Int32 → Int64 → Int32 → Int32 → Int32 → Option (MS × Int64))) (u : MS) (v1 : Int32) (v2 : Int64) (v4 : Int32) (v5 : Int32) (v6 : Int32) : Option (MS × Int64) := br (decide (v5 ≤ v6)) (ck (inb (u.1 138) (ln 137)) (lt (upJ u 137 (vp_updL (u.2.2.2 137) (u.1 138).toNatClampNeg ((v2 &&& (-4294967296)) ||| (u.1 136).toInt64))) (fun w1 => lt (upI w1 138 ((w1.1 138) + 1)) (fun w2 => lt (upI w2 136 ((w2.1 136) + v5)) (fun w3 => fb_M_carried_124 N G w3 (v2) (v4)))))) (bnd (fm_M_cell N u v1 (v4 + v6)) (fun u4 r4 => ck (inb ((u.1 136) + v6) (ln 134)) (lt (upJ u4 134 (vp_updL (u4.2.2.2 134) ((u.1 136) + v6).toNatClampNeg r4)) (fun w5 => G w5 (v1) (v2) (v4) (v5) ((v6 + 1))))))
set_option maxRecDepth 100000 in
set_option maxHeartbeats 4000000 in
theorem wb_M_carried_48 {p : Program} {l : Launch} {e : Env} {R : Room} {s : State} {m : MethodId} {args : Array Value} {below : List Frame} {meth : Method} {c : Code} {D : va_G} {cl : List vw_C} {cB cI cJ cZ cS : ClassId} {A : Nat → Prop} {iM h0 : Nat} {ad : Nat → Nat} (C0 : MCx p s m args meth c b_M_carried 7 (some .long) D cl cB cI cJ cZ cS iM A) (hR : R = rm_M_carried) (N : Nat) (G : (MS → Int32 → Int64 → Int32 → Int32 → Int32 → Option (MS × Int64))) (hG : (∀ (u : MS) (v1 : Int32) (v2 : Int64) (v4 : Int32) (v5 : Int32) (v6 : Int32) (x : MS × Int64), G u v1 v2 v4 v5 v6 = some x → ∀ (H : Heap) (locs : List Loc), va_P D cl (wM cB cI cJ cZ cS iM h0 ad u) H → va_D A (wM cB cI cJ cZ cS iM h0 ad u) → va_S A s.heap H locs → ∀ (ls : Array Slot), lv_has ls 7 [(0, .ref h0), (1, .int v1), (2, .long v2), (4, .int v4), (5, .int v5), (6, .int v6)] → W p l e R s m args below meth c H locs 0 0 (MQ below (mQl D cl cB cI cJ cZ cS iM h0 ad A x) args s 0 0 A) (F0 m 48 ls []))) : ∀ (u : MS) (v1 : Int32) (v2 : Int64) (v4 : Int32) (v5 : Int32) (v6 : Int32) (x : MS × Int64), fb_M_carried_48 N G u v1 v2 v4 v5 v6 = some x → ∀ (H : Heap) (locs : List Loc), va_P D cl (wM cB cI cJ cZ cS iM h0 ad u) H → va_D A (wM cB cI cJ cZ cS iM h0 ad u) → va_S A s.heap H locs → ∀ (ls : Array Slot), lv_has ls 7 [(0, .ref h0), (1, .int v1), (2, .long v2), (4, .int v4), (5, .int v5), (6, .int v6)] → W p l e R s m args below meth c H locs 0 0 (MQ below (mQl D cl cB cI cJ cZ cS iM h0 ad A x) args s 0 0 A) (F0 m 48 ls []) := by
  intro u v1 v2 v4 v5 v6 x hf H locs hP hD hS ls hl
  obtain ⟨hx, hb, hr, hml, ht, hown, hM, hK, hA, hlocks⟩ := id C0
  unfold fb_M_carried_48 at hf
  refine lv_iload hx hb d_M_carried_48 (lv_at hl 5 rfl) ?_
  refine lv_iload hx hb d_M_carried_50 (lv_at hl 4 rfl) ?_
  refine lv_icmp_ge (tgt := 83) hx hb d_M_carried_52 (by decide) (fun hc => ?_) (fun hc => ?_)
  · rw [br_p _ hc] at hf
    refine lv_aload_n hx hb d_M_carried_83 rfl (lv_at hl 0 rfl) ?_
    refine ug_R hx hb ht hown hM hK hP 137 (by decide) lk_M_137 (by decide) d_M_carried_84 ?_
    refine lv_aload_n hx hb d_M_carried_87 rfl (lv_at hl 0 rfl) ?_
    refine ug_I hx hb ht hown hM hK hP 138 (by decide) lk_M_138 (by decide) d_M_carried_88 ?_
    refine lv_lload_n hx hb d_M_carried_91 rfl (lv_at hl 2 rfl) ?_
    refine lv_ldc2 (v := (-4294967296)) hx hb hown (ht _ (wd_of 2982 (by decide +kernel) rfl)) d_M_carried_92 ?_
    refine lv_land hx hb d_M_carried_95 ?_
    refine lv_aload_n hx hb d_M_carried_96 rfl (lv_at hl 0 rfl) ?_
    refine ug_I hx hb ht hown hM hK hP 136 (by decide) lk_M_136 (by decide) d_M_carried_97 ?_
    refine lv_i2l hx hb d_M_carried_100 rfl ?_
    refine lv_lor hx hb d_M_carried_101 ?_
    obtain ⟨hi9, hf⟩ := ck_some hf
    refine us_J hx hb hK hP hD hS (by decide) (by decide) hi9 d_M_carried_102 (fun H locs hP hD hS => ?_)
    obtain ⟨w1, e1, hf⟩ := lt_some hf
    rw [← e1] at hP hD
    refine lv_aload_n hx hb d_M_carried_103 rfl (lv_at hl 0 rfl) ?_
    refine lv_dup hx hb d_M_carried_104 rfl ?_
    refine ug_I hx hb ht hown hM hK hP 138 (by decide) lk_M_138 (by decide) d_M_carried_105 ?_
    refine lv_iconst (v := 1) hx hb d_M_carried_108 (by decide) ?_
    refine lv_iadd hx hb d_M_carried_109 ?_
    refine up_I hx hb ht hown hM hK hP hD hS 138 (by decide) lk_M_138 (by decide) rfl rfl rfl d_M_carried_110 (fun H locs hP hD hS => ?_)
    obtain ⟨w2, e2, hf⟩ := lt_some hf
    rw [← e2] at hP hD
    refine lv_aload_n hx hb d_M_carried_113 rfl (lv_at hl 0 rfl) ?_
    refine lv_dup hx hb d_M_carried_114 rfl ?_
    refine ug_I hx hb ht hown hM hK hP 136 (by decide) lk_M_136 (by decide) d_M_carried_115 ?_
    refine lv_iload hx hb d_M_carried_118 (lv_at hl 4 rfl) ?_
    refine lv_iadd hx hb d_M_carried_120 ?_
    refine up_I hx hb ht hown hM hK hP hD hS 136 (by decide) lk_M_136 (by decide) rfl rfl rfl d_M_carried_121 (fun H locs hP hD hS => ?_)
    obtain ⟨w3, e3, hf⟩ := lt_some hf
    rw [← e3] at hP hD
    exact wb_M_carried_124 C0 hR N G hG _ _ _ _ hf H locs hP hD hS ls (lv_sub hl [0, 2, 3] rfl)
  · rw [br_n _ hc] at hf
    refine lv_aload_n hx hb d_M_carried_55 rfl (lv_at hl 0 rfl) ?_
    refine ug_R hx hb ht hown hM hK hP 134 (by decide) lk_M_134 (by decide) d_M_carried_56 ?_
    refine lv_aload_n hx hb d_M_carried_59 rfl (lv_at hl 0 rfl) ?_
    refine ug_I hx hb ht hown hM hK hP 136 (by decide) lk_M_136 (by decide) d_M_carried_60 ?_
    refine lv_iload hx hb d_M_carried_63 (lv_at hl 5 rfl) ?_
    refine lv_iadd hx hb d_M_carried_65 ?_
    refine lv_aload_n hx hb d_M_carried_66 rfl (lv_at hl 0 rfl) ?_
    refine lv_iload_n hx hb d_M_carried_67 rfl (lv_at hl 1 rfl) ?_
    refine lv_iload hx hb d_M_carried_68 (lv_at hl 3 rfl) ?_
    refine lv_iload hx hb d_M_carried_70 (lv_at hl 5 rfl) ?_
    refine lv_iadd hx hb d_M_carried_72 ?_
    obtain ⟨u4, r4, hc4, hf⟩ := bnd_some hf
    refine mV_l (As := [.int v1, .int (v4 + v6)]) (rest := [.int ((u.1 136) + v6), .ref (ad 134)]) C0 hP hD hS (c_M_cell N hM hc4) k_M_cell hl_M_cell hi_M_cell hs_M_cell hini_M rfl rfl hd_M_cell rfl (rm_M_carried_M_cell hR) hl.1 (Nat.le_of_ble_eq_true rfl) d_M_carried_73 rfl ⟨Nat.zero_le _, Nat.zero_le _⟩ (fun H locs hP hD hS => ?_)
    obtain ⟨hi9, hf⟩ := ck_some hf
    refine us_J hx hb hK hP hD hS (by decide) (by decide) hi9 d_M_carried_76 (fun H locs hP hD hS => ?_)
    obtain ⟨w5, e5, hf⟩ := lt_some hf
    rw [← e5] at hP hD
    refine lv_iinc (v := (v6 + 1)) (lv' := [(6, .int (v6 + 1)), (0, .ref h0), (1, .int v1), (2, .long v2), (4, .int v4), (5, .int v5)]) hx hb d_M_carried_77 hl (k := 5) rfl rfl (by decide) rfl (fun ls hl => ?_)
    refine lv_goto (tgt := 48) hx hb d_M_carried_80 (by decide) ?_
    exact hG _ _ _ _ _ _ _ hf H locs hP hD hS ls (lv_sub hl [1, 2, 3, 4, 5, 0] rfl)
def fb_M_carried_0 (N : Nat) (G : (MS → Int32 → Int64 → Int32 → Int32 → Int32 → Option (MS × Int64))) (u : MS) (v1 : Int32) (v2 : Int64) : Option (MS × Int64) := bnd (fm_M_inHeap N u v2) (fun u6 r6 => br (decide (r6 = 0)) (some (u6, v2)) (bnd (fm_M_valueOf N u6 v2) (fun u7 r7 => ck (inb r7 (ln 135)) (br (decide ((u7.2.2.1 135 r7.toNatClampNeg) = (-1))) (bnd (fm_M_sizeOf N u7 v1 v2) (fun u8 r8 => ck (inb r7 (ln 135)) (lt (upA u8 135 (upd (u8.2.2.1 135) r7.toNatClampNeg (u8.1 136))) (fun w9 => G w9 (v1) (v2) (r7) (r8) (0))))) (fb_M_carried_124 N G u7 (v2) (r7))))))
set_option maxRecDepth 100000 in
set_option maxHeartbeats 4000000 in
theorem wb_M_carried_0 {p : Program} {l : Launch} {e : Env} {R : Room} {s : State} {m : MethodId} {args : Array Value} {below : List Frame} {meth : Method} {c : Code} {D : va_G} {cl : List vw_C} {cB cI cJ cZ cS : ClassId} {A : Nat → Prop} {iM h0 : Nat} {ad : Nat → Nat} (C0 : MCx p s m args meth c b_M_carried 7 (some .long) D cl cB cI cJ cZ cS iM A) (hR : R = rm_M_carried) (N : Nat) (G : (MS → Int32 → Int64 → Int32 → Int32 → Int32 → Option (MS × Int64))) (hG : (∀ (u : MS) (v1 : Int32) (v2 : Int64) (v4 : Int32) (v5 : Int32) (v6 : Int32) (x : MS × Int64), G u v1 v2 v4 v5 v6 = some x → ∀ (H : Heap) (locs : List Loc), va_P D cl (wM cB cI cJ cZ cS iM h0 ad u) H → va_D A (wM cB cI cJ cZ cS iM h0 ad u) → va_S A s.heap H locs → ∀ (ls : Array Slot), lv_has ls 7 [(0, .ref h0), (1, .int v1), (2, .long v2), (4, .int v4), (5, .int v5), (6, .int v6)] → W p l e R s m args below meth c H locs 0 0 (MQ below (mQl D cl cB cI cJ cZ cS iM h0 ad A x) args s 0 0 A) (F0 m 48 ls []))) : ∀ (u : MS) (v1 : Int32) (v2 : Int64) (x : MS × Int64), fb_M_carried_0 N G u v1 v2 = some x → ∀ (H : Heap) (locs : List Loc), va_P D cl (wM cB cI cJ cZ cS iM h0 ad u) H → va_D A (wM cB cI cJ cZ cS iM h0 ad u) → va_S A s.heap H locs → ∀ (ls : Array Slot), lv_has ls 7 [(0, .ref h0), (1, .int v1), (2, .long v2)] → W p l e R s m args below meth c H locs 0 0 (MQ below (mQl D cl cB cI cJ cZ cS iM h0 ad A x) args s 0 0 A) (F0 m 0 ls []) := by
  intro u v1 v2 x hf H locs hP hD hS ls hl
  obtain ⟨hx, hb, hr, hml, ht, hown, hM, hK, hA, hlocks⟩ := id C0
  unfold fb_M_carried_0 at hf
  refine lv_lload_n hx hb d_M_carried_0 rfl (lv_at hl 2 rfl) ?_
  obtain ⟨u6, r6, hc6, hf⟩ := bnd_some hf
  refine mS_i (As := [.long v2]) (rest := []) C0 hP hD hS (c_M_inHeap N hM hc6) k_M_inHeap hl_M_inHeap ht_M_inHeap hini_M rfl rfl hd_M_inHeap rfl (rm_M_carried_M_inHeap hR) hl.1 (Nat.le_of_ble_eq_true rfl) d_M_carried_1 rfl ⟨Nat.zero_le _, Nat.zero_le _⟩ (fun H locs hP hD hS => ?_)
  refine lv_if_ne (tgt := 9) hx hb d_M_carried_4 (by decide) (fun hc => ?_) (fun hc => ?_)
  · rw [br_n _ hc] at hf
    refine lv_lload_n hx hb d_M_carried_9 rfl (lv_at hl 2 rfl) ?_
    obtain ⟨u7, r7, hc7, hf⟩ := bnd_some hf
    refine mS_i (As := [.long v2]) (rest := []) C0 hP hD hS (c_M_valueOf N hM hc7) k_M_valueOf hl_M_valueOf ht_M_valueOf hini_M rfl rfl hd_M_valueOf rfl (rm_M_carried_M_valueOf hR) hl.1 (Nat.le_of_ble_eq_true rfl) d_M_carried_10 rfl ⟨Nat.zero_le _, Nat.zero_le _⟩ (fun H locs hP hD hS => ?_)
    refine lv_istore (lv' := [(4, .int r7), (0, .ref h0), (1, .int v1), (2, .long v2)]) hx hb d_M_carried_13 hl (by decide) rfl (fun ls hl => ?_)
    refine lv_aload_n hx hb d_M_carried_15 rfl (lv_at hl 1 rfl) ?_
    refine ug_R hx hb ht hown hM hK hP 135 (by decide) lk_M_135 (by decide) d_M_carried_16 ?_
    refine lv_iload hx hb d_M_carried_19 (lv_at hl 0 rfl) ?_
    obtain ⟨hi9, hf⟩ := ck_some hf
    refine ul_I hx hb hK hP (by decide) (by decide) hi9 d_M_carried_21 ?_
    refine lv_iconst (v := (-1)) hx hb d_M_carried_22 (by decide) ?_
    refine lv_icmp_ne (tgt := 124) hx hb d_M_carried_23 (by decide) (fun hc => ?_) (fun hc => ?_)
    · rw [br_n _ hc] at hf
      exact wb_M_carried_124 C0 hR N G hG _ _ _ _ hf H locs hP hD hS ls (lv_sub hl [1, 3, 0] rfl)
    · rw [br_p _ hc] at hf
      refine lv_aload_n hx hb d_M_carried_26 rfl (lv_at hl 1 rfl) ?_
      refine lv_iload_n hx hb d_M_carried_27 rfl (lv_at hl 2 rfl) ?_
      refine lv_lload_n hx hb d_M_carried_28 rfl (lv_at hl 3 rfl) ?_
      obtain ⟨u8, r8, hc8, hf⟩ := bnd_some hf
      refine mV_i (As := [.int v1, .long v2]) (rest := []) C0 hP hD hS (c_M_sizeOf N hM hc8) k_M_sizeOf hl_M_sizeOf hi_M_sizeOf hs_M_sizeOf hini_M rfl rfl hd_M_sizeOf rfl (rm_M_carried_M_sizeOf hR) hl.1 (Nat.le_of_ble_eq_true rfl) d_M_carried_29 rfl ⟨Nat.zero_le _, Nat.zero_le _⟩ (fun H locs hP hD hS => ?_)
      refine lv_istore (lv' := [(5, .int r8), (4, .int r7), (0, .ref h0), (1, .int v1), (2, .long v2)]) hx hb d_M_carried_32 hl (by decide) rfl (fun ls hl => ?_)
      refine lv_aload_n hx hb d_M_carried_34 rfl (lv_at hl 2 rfl) ?_
      refine ug_R hx hb ht hown hM hK hP 135 (by decide) lk_M_135 (by decide) d_M_carried_35 ?_
      refine lv_iload hx hb d_M_carried_38 (lv_at hl 1 rfl) ?_
      refine lv_aload_n hx hb d_M_carried_40 rfl (lv_at hl 2 rfl) ?_
      refine ug_I hx hb ht hown hM hK hP 136 (by decide) lk_M_136 (by decide) d_M_carried_41 ?_
      obtain ⟨hi9, hf⟩ := ck_some hf
      refine us_I hx hb hK hP hD hS (by decide) (by decide) hi9 d_M_carried_44 (fun H locs hP hD hS => ?_)
      obtain ⟨w9, e9, hf⟩ := lt_some hf
      rw [← e9] at hP hD
      refine lv_iconst (v := 0) hx hb d_M_carried_45 (by decide) ?_
      refine lv_istore (lv' := [(6, .int 0), (5, .int r8), (4, .int r7), (0, .ref h0), (1, .int v1), (2, .long v2)]) hx hb d_M_carried_46 hl (by decide) rfl (fun ls hl => ?_)
      exact hG _ _ _ _ _ _ _ hf H locs hP hD hS ls (lv_sub hl [3, 4, 5, 2, 1, 0] rfl)
  · rw [br_p _ hc] at hf
    refine lv_lload_n hx hb d_M_carried_7 rfl (lv_at hl 2 rfl) ?_
    exact mr_l C0 hP hD hS hf d_M_carried_8
def gg_M_carried (N : Nat) : Nat → ((MS → Int32 → Int64 → Int32 → Int32 → Int32 → Option (MS × Int64)))
  | 0 => fun _ _ _ _ _ _ => none
  | n + 1 => fb_M_carried_48 N (gg_M_carried N n)
theorem wg_M_carried {p : Program} {l : Launch} {e : Env} {R : Room} {s : State} {m : MethodId} {args : Array Value} {below : List Frame} {meth : Method} {c : Code} {D : va_G} {cl : List vw_C} {cB cI cJ cZ cS : ClassId} {A : Nat → Prop} {iM h0 : Nat} {ad : Nat → Nat} (C0 : MCx p s m args meth c b_M_carried 7 (some .long) D cl cB cI cJ cZ cS iM A) (hR : R = rm_M_carried) (N : Nat) : ∀ n : Nat, (∀ (u : MS) (v1 : Int32) (v2 : Int64) (v4 : Int32) (v5 : Int32) (v6 : Int32) (x : MS × Int64), gg_M_carried N n u v1 v2 v4 v5 v6 = some x → ∀ (H : Heap) (locs : List Loc), va_P D cl (wM cB cI cJ cZ cS iM h0 ad u) H → va_D A (wM cB cI cJ cZ cS iM h0 ad u) → va_S A s.heap H locs → ∀ (ls : Array Slot), lv_has ls 7 [(0, .ref h0), (1, .int v1), (2, .long v2), (4, .int v4), (5, .int v5), (6, .int v6)] → W p l e R s m args below meth c H locs 0 0 (MQ below (mQl D cl cB cI cJ cZ cS iM h0 ad A x) args s 0 0 A) (F0 m 48 ls []))
  | 0 => (fun u v1 v2 v4 v5 v6 x hf => by cases hf)
  | n + 1 => wb_M_carried_48 C0 hR N (gg_M_carried N n) (wg_M_carried C0 hR N n)
def fm_M_carried (N : Nat) (u : MS) (v1 : Int32) (v2 : Int64) : Option (MS × Int64) := fb_M_carried_0 N (gg_M_carried N N) u v1 v2
set_option maxRecDepth 100000 in
set_option maxHeartbeats 4000000 in
theorem c_M_carried (N : Nat) {l : Launch} {D : va_G} {cl : List vw_C} {cB cI cJ cZ cS : ClassId} {iM h0 : Nat} {ad : Nat → Nat} {u : MS} {sz : Nat} {v1 : Int32} {v2 : Int64} {x : MS × Int64} (hM : cl[iM]? = some (R_M, F_M, 171)) (hf : fm_M_carried N u v1 v2 = some x) : Met l y_M_carried (wd_ws y_M_carried b_M_carried 7 (some .long)) rm_M_carried (mPc D cl cB cI cJ cZ cS iM h0 ad u sz [.ref h0, .int v1, .long v2]) (mQl D cl cB cI cJ cZ cS iM h0 ad (mA cB cI cJ cZ cS iM h0 ad u sz) x) 0 0 (mA cB cI cJ cZ cS iM h0 ad u sz) :=
  mMet (by decide) rfl hM (Nat.le_of_ble_eq_true rfl) (fun p e s m below meth c ls hsz C0 hP hD hS hl => by
    have hR : rm_M_carried = rm_M_carried := rfl
    exact wb_M_carried_0 C0 hR N (gg_M_carried N N) (wg_M_carried C0 hR N N) u _ _ x hf s.heap [] hP hD hS ls (lv_sub hl [0, 1, 2] rfl))
abbrev b_M_clear : ByteArray := prog_14_method_87_code
def y_M_clear : MethodName := ⟨R_M, "clear", "(I)V"⟩
def w_M_clear : List Cond := wd_ws y_M_clear b_M_clear 9 none
set_option maxRecDepth 100000 in
theorem k_M_clear : Cond.code y_M_clear b_M_clear 9 none ∈ wd_tbl := wd_of 2960 rfl rfl
theorem d_M_clear_0 : decode b_M_clear 0 = .ok (.aload_n 0, 1) := by decide +kernel
theorem d_M_clear_1 : decode b_M_clear 1 = .ok (.getfield 195, 3) := by decide +kernel
theorem d_M_clear_4 : decode b_M_clear 4 = .ok (.iload_n 1, 1) := by decide +kernel
theorem d_M_clear_5 : decode b_M_clear 5 = .ok (.dup2, 1) := by decide +kernel
theorem d_M_clear_6 : decode b_M_clear 6 = .ok (.iaload, 1) := by decide +kernel
theorem d_M_clear_7 : decode b_M_clear 7 = .ok (.iconst 1, 1) := by decide +kernel
theorem d_M_clear_8 : decode b_M_clear 8 = .ok (.iadd, 1) := by decide +kernel
theorem d_M_clear_9 : decode b_M_clear 9 = .ok (.iastore, 1) := by decide +kernel
theorem d_M_clear_10 : decode b_M_clear 10 = .ok (.aload_n 0, 1) := by decide +kernel
theorem d_M_clear_11 : decode b_M_clear 11 = .ok (.iconst 0, 1) := by decide +kernel
theorem d_M_clear_12 : decode b_M_clear 12 = .ok (.putfield 694, 3) := by decide +kernel
theorem d_M_clear_15 : decode b_M_clear 15 = .ok (.aload_n 0, 1) := by decide +kernel
theorem d_M_clear_16 : decode b_M_clear 16 = .ok (.iconst 0, 1) := by decide +kernel
theorem d_M_clear_17 : decode b_M_clear 17 = .ok (.putfield 697, 3) := by decide +kernel
theorem d_M_clear_20 : decode b_M_clear 20 = .ok (.iconst 0, 1) := by decide +kernel
theorem d_M_clear_21 : decode b_M_clear 21 = .ok (.istore_n 2, 1) := by decide +kernel
theorem d_M_clear_22 : decode b_M_clear 22 = .ok (.iload_n 2, 1) := by decide +kernel
theorem d_M_clear_23 : decode b_M_clear 23 = .ok (.sipush 500, 3) := by decide +kernel
theorem d_M_clear_26 : decode b_M_clear 26 = .ok (.if_icmp .ge 16, 3) := by decide +kernel
theorem d_M_clear_29 : decode b_M_clear 29 = .ok (.aload_n 0, 1) := by decide +kernel
theorem d_M_clear_30 : decode b_M_clear 30 = .ok (.getfield 309, 3) := by decide +kernel
theorem d_M_clear_33 : decode b_M_clear 33 = .ok (.iload_n 2, 1) := by decide +kernel
theorem d_M_clear_34 : decode b_M_clear 34 = .ok (.iconst (-1), 1) := by decide +kernel
theorem d_M_clear_35 : decode b_M_clear 35 = .ok (.iastore, 1) := by decide +kernel
theorem d_M_clear_36 : decode b_M_clear 36 = .ok (.iinc 2 1, 3) := by decide +kernel
theorem d_M_clear_39 : decode b_M_clear 39 = .ok (.goto (-17), 3) := by decide +kernel
theorem d_M_clear_42 : decode b_M_clear 42 = .ok (.iconst 0, 1) := by decide +kernel
theorem d_M_clear_43 : decode b_M_clear 43 = .ok (.istore_n 2, 1) := by decide +kernel
theorem d_M_clear_44 : decode b_M_clear 44 = .ok (.iload_n 2, 1) := by decide +kernel
theorem d_M_clear_45 : decode b_M_clear 45 = .ok (.aload_n 0, 1) := by decide +kernel
theorem d_M_clear_46 : decode b_M_clear 46 = .ok (.getfield 202, 3) := by decide +kernel
theorem d_M_clear_49 : decode b_M_clear 49 = .ok (.iload_n 1, 1) := by decide +kernel
theorem d_M_clear_50 : decode b_M_clear 50 = .ok (.iaload, 1) := by decide +kernel
theorem d_M_clear_51 : decode b_M_clear 51 = .ok (.if_icmp .ge 38, 3) := by decide +kernel
theorem d_M_clear_54 : decode b_M_clear 54 = .ok (.aload_n 0, 1) := by decide +kernel
theorem d_M_clear_55 : decode b_M_clear 55 = .ok (.getfield 199, 3) := by decide +kernel
theorem d_M_clear_58 : decode b_M_clear 58 = .ok (.iload_n 1, 1) := by decide +kernel
theorem d_M_clear_59 : decode b_M_clear 59 = .ok (.ldc_w 672, 3) := by decide +kernel
theorem d_M_clear_62 : decode b_M_clear 62 = .ok (.imul, 1) := by decide +kernel
theorem d_M_clear_63 : decode b_M_clear 63 = .ok (.iload_n 2, 1) := by decide +kernel
theorem d_M_clear_64 : decode b_M_clear 64 = .ok (.iadd, 1) := by decide +kernel
theorem d_M_clear_65 : decode b_M_clear 65 = .ok (.aload_n 0, 1) := by decide +kernel
theorem d_M_clear_66 : decode b_M_clear 66 = .ok (.iload_n 1, 1) := by decide +kernel
theorem d_M_clear_67 : decode b_M_clear 67 = .ok (.aload_n 0, 1) := by decide +kernel
theorem d_M_clear_68 : decode b_M_clear 68 = .ok (.getfield 199, 3) := by decide +kernel
theorem d_M_clear_71 : decode b_M_clear 71 = .ok (.iload_n 1, 1) := by decide +kernel
theorem d_M_clear_72 : decode b_M_clear 72 = .ok (.ldc_w 672, 3) := by decide +kernel
theorem d_M_clear_75 : decode b_M_clear 75 = .ok (.imul, 1) := by decide +kernel
theorem d_M_clear_76 : decode b_M_clear 76 = .ok (.iload_n 2, 1) := by decide +kernel
theorem d_M_clear_77 : decode b_M_clear 77 = .ok (.iadd, 1) := by decide +kernel
theorem d_M_clear_78 : decode b_M_clear 78 = .ok (.laload, 1) := by decide +kernel
theorem d_M_clear_79 : decode b_M_clear 79 = .ok (.invokevirtual 702, 3) := by decide +kernel
theorem d_M_clear_82 : decode b_M_clear 82 = .ok (.lastore, 1) := by decide +kernel
theorem d_M_clear_83 : decode b_M_clear 83 = .ok (.iinc 2 1, 3) := by decide +kernel
theorem d_M_clear_86 : decode b_M_clear 86 = .ok (.goto (-42), 3) := by decide +kernel
theorem d_M_clear_89 : decode b_M_clear 89 = .ok (.iconst 0, 1) := by decide +kernel
theorem d_M_clear_90 : decode b_M_clear 90 = .ok (.istore_n 2, 1) := by decide +kernel
theorem d_M_clear_91 : decode b_M_clear 91 = .ok (.iload_n 2, 1) := by decide +kernel
theorem d_M_clear_92 : decode b_M_clear 92 = .ok (.aload_n 0, 1) := by decide +kernel
theorem d_M_clear_93 : decode b_M_clear 93 = .ok (.getfield 209, 3) := by decide +kernel
theorem d_M_clear_96 : decode b_M_clear 96 = .ok (.iload_n 1, 1) := by decide +kernel
theorem d_M_clear_97 : decode b_M_clear 97 = .ok (.iaload, 1) := by decide +kernel
theorem d_M_clear_98 : decode b_M_clear 98 = .ok (.if_icmp .ge 38, 3) := by decide +kernel
theorem d_M_clear_101 : decode b_M_clear 101 = .ok (.aload_n 0, 1) := by decide +kernel
theorem d_M_clear_102 : decode b_M_clear 102 = .ok (.getfield 206, 3) := by decide +kernel
theorem d_M_clear_105 : decode b_M_clear 105 = .ok (.iload_n 1, 1) := by decide +kernel
theorem d_M_clear_106 : decode b_M_clear 106 = .ok (.sipush 2500, 3) := by decide +kernel
theorem d_M_clear_109 : decode b_M_clear 109 = .ok (.imul, 1) := by decide +kernel
theorem d_M_clear_110 : decode b_M_clear 110 = .ok (.iload_n 2, 1) := by decide +kernel
theorem d_M_clear_111 : decode b_M_clear 111 = .ok (.iadd, 1) := by decide +kernel
theorem d_M_clear_112 : decode b_M_clear 112 = .ok (.aload_n 0, 1) := by decide +kernel
theorem d_M_clear_113 : decode b_M_clear 113 = .ok (.iload_n 1, 1) := by decide +kernel
theorem d_M_clear_114 : decode b_M_clear 114 = .ok (.aload_n 0, 1) := by decide +kernel
theorem d_M_clear_115 : decode b_M_clear 115 = .ok (.getfield 206, 3) := by decide +kernel
theorem d_M_clear_118 : decode b_M_clear 118 = .ok (.iload_n 1, 1) := by decide +kernel
theorem d_M_clear_119 : decode b_M_clear 119 = .ok (.sipush 2500, 3) := by decide +kernel
theorem d_M_clear_122 : decode b_M_clear 122 = .ok (.imul, 1) := by decide +kernel
theorem d_M_clear_123 : decode b_M_clear 123 = .ok (.iload_n 2, 1) := by decide +kernel
theorem d_M_clear_124 : decode b_M_clear 124 = .ok (.iadd, 1) := by decide +kernel
theorem d_M_clear_125 : decode b_M_clear 125 = .ok (.laload, 1) := by decide +kernel
theorem d_M_clear_126 : decode b_M_clear 126 = .ok (.invokevirtual 702, 3) := by decide +kernel
theorem d_M_clear_129 : decode b_M_clear 129 = .ok (.lastore, 1) := by decide +kernel
theorem d_M_clear_130 : decode b_M_clear 130 = .ok (.iinc 2 1, 3) := by decide +kernel
theorem d_M_clear_133 : decode b_M_clear 133 = .ok (.goto (-42), 3) := by decide +kernel
theorem d_M_clear_136 : decode b_M_clear 136 = .ok (.iconst 0, 1) := by decide +kernel
theorem d_M_clear_137 : decode b_M_clear 137 = .ok (.istore_n 2, 1) := by decide +kernel
theorem d_M_clear_138 : decode b_M_clear 138 = .ok (.iload_n 2, 1) := by decide +kernel
theorem d_M_clear_139 : decode b_M_clear 139 = .ok (.aload_n 0, 1) := by decide +kernel
theorem d_M_clear_140 : decode b_M_clear 140 = .ok (.getfield 252, 3) := by decide +kernel
theorem d_M_clear_143 : decode b_M_clear 143 = .ok (.iload_n 1, 1) := by decide +kernel
theorem d_M_clear_144 : decode b_M_clear 144 = .ok (.iaload, 1) := by decide +kernel
theorem d_M_clear_145 : decode b_M_clear 145 = .ok (.if_icmp .ge 36, 3) := by decide +kernel
theorem d_M_clear_148 : decode b_M_clear 148 = .ok (.aload_n 0, 1) := by decide +kernel
theorem d_M_clear_149 : decode b_M_clear 149 = .ok (.getfield 249, 3) := by decide +kernel
theorem d_M_clear_152 : decode b_M_clear 152 = .ok (.iload_n 1, 1) := by decide +kernel
theorem d_M_clear_153 : decode b_M_clear 153 = .ok (.bipush 30, 2) := by decide +kernel
theorem d_M_clear_155 : decode b_M_clear 155 = .ok (.imul, 1) := by decide +kernel
theorem d_M_clear_156 : decode b_M_clear 156 = .ok (.iload_n 2, 1) := by decide +kernel
theorem d_M_clear_157 : decode b_M_clear 157 = .ok (.iadd, 1) := by decide +kernel
theorem d_M_clear_158 : decode b_M_clear 158 = .ok (.aload_n 0, 1) := by decide +kernel
theorem d_M_clear_159 : decode b_M_clear 159 = .ok (.iload_n 1, 1) := by decide +kernel
theorem d_M_clear_160 : decode b_M_clear 160 = .ok (.aload_n 0, 1) := by decide +kernel
theorem d_M_clear_161 : decode b_M_clear 161 = .ok (.getfield 249, 3) := by decide +kernel
theorem d_M_clear_164 : decode b_M_clear 164 = .ok (.iload_n 1, 1) := by decide +kernel
theorem d_M_clear_165 : decode b_M_clear 165 = .ok (.bipush 30, 2) := by decide +kernel
theorem d_M_clear_167 : decode b_M_clear 167 = .ok (.imul, 1) := by decide +kernel
theorem d_M_clear_168 : decode b_M_clear 168 = .ok (.iload_n 2, 1) := by decide +kernel
theorem d_M_clear_169 : decode b_M_clear 169 = .ok (.iadd, 1) := by decide +kernel
theorem d_M_clear_170 : decode b_M_clear 170 = .ok (.laload, 1) := by decide +kernel
theorem d_M_clear_171 : decode b_M_clear 171 = .ok (.invokevirtual 702, 3) := by decide +kernel
theorem d_M_clear_174 : decode b_M_clear 174 = .ok (.lastore, 1) := by decide +kernel
theorem d_M_clear_175 : decode b_M_clear 175 = .ok (.iinc 2 1, 3) := by decide +kernel
theorem d_M_clear_178 : decode b_M_clear 178 = .ok (.goto (-40), 3) := by decide +kernel
theorem d_M_clear_181 : decode b_M_clear 181 = .ok (.aload_n 0, 1) := by decide +kernel
theorem d_M_clear_182 : decode b_M_clear 182 = .ok (.getfield 323, 3) := by decide +kernel
theorem d_M_clear_185 : decode b_M_clear 185 = .ok (.iload_n 1, 1) := by decide +kernel
theorem d_M_clear_186 : decode b_M_clear 186 = .ok (.if_icmp .ne 16, 3) := by decide +kernel
theorem d_M_clear_189 : decode b_M_clear 189 = .ok (.aload_n 0, 1) := by decide +kernel
theorem d_M_clear_190 : decode b_M_clear 190 = .ok (.aload_n 0, 1) := by decide +kernel
theorem d_M_clear_191 : decode b_M_clear 191 = .ok (.iload_n 1, 1) := by decide +kernel
theorem d_M_clear_192 : decode b_M_clear 192 = .ok (.aload_n 0, 1) := by decide +kernel
theorem d_M_clear_193 : decode b_M_clear 193 = .ok (.getfield 319, 3) := by decide +kernel
theorem d_M_clear_196 : decode b_M_clear 196 = .ok (.invokevirtual 702, 3) := by decide +kernel
theorem d_M_clear_199 : decode b_M_clear 199 = .ok (.putfield 319, 3) := by decide +kernel
theorem d_M_clear_202 : decode b_M_clear 202 = .ok (.iconst 0, 1) := by decide +kernel
theorem d_M_clear_203 : decode b_M_clear 203 = .ok (.istore_n 2, 1) := by decide +kernel
theorem d_M_clear_204 : decode b_M_clear 204 = .ok (.iload_n 2, 1) := by decide +kernel
theorem d_M_clear_205 : decode b_M_clear 205 = .ok (.aload_n 0, 1) := by decide +kernel
theorem d_M_clear_206 : decode b_M_clear 206 = .ok (.getfield 697, 3) := by decide +kernel
theorem d_M_clear_209 : decode b_M_clear 209 = .ok (.if_icmp .ge 116, 3) := by decide +kernel
theorem d_M_clear_212 : decode b_M_clear 212 = .ok (.aload_n 0, 1) := by decide +kernel
theorem d_M_clear_213 : decode b_M_clear 213 = .ok (.getfield 312, 3) := by decide +kernel
theorem d_M_clear_216 : decode b_M_clear 216 = .ok (.iload_n 2, 1) := by decide +kernel
theorem d_M_clear_217 : decode b_M_clear 217 = .ok (.laload, 1) := by decide +kernel
theorem d_M_clear_218 : decode b_M_clear 218 = .ok (.lstore_n 3, 1) := by decide +kernel
theorem d_M_clear_219 : decode b_M_clear 219 = .ok (.lload_n 3, 1) := by decide +kernel
theorem d_M_clear_220 : decode b_M_clear 220 = .ok (.invokestatic 680, 3) := by decide +kernel
theorem d_M_clear_223 : decode b_M_clear 223 = .ok (.istore 5, 2) := by decide +kernel
theorem d_M_clear_225 : decode b_M_clear 225 = .ok (.lload_n 3, 1) := by decide +kernel
theorem d_M_clear_226 : decode b_M_clear 226 = .ok (.invokestatic 676, 3) := by decide +kernel
theorem d_M_clear_229 : decode b_M_clear 229 = .ok (.istore 6, 2) := by decide +kernel
theorem d_M_clear_231 : decode b_M_clear 231 = .ok (.iload 6, 2) := by decide +kernel
theorem d_M_clear_233 : decode b_M_clear 233 = .ok (.bipush 7, 2) := by decide +kernel
theorem d_M_clear_235 : decode b_M_clear 235 = .ok (.if_icmp .ne 7, 3) := by decide +kernel
theorem d_M_clear_238 : decode b_M_clear 238 = .ok (.iconst 2, 1) := by decide +kernel
theorem d_M_clear_239 : decode b_M_clear 239 = .ok (.goto 34, 3) := by decide +kernel
theorem d_M_clear_242 : decode b_M_clear 242 = .ok (.iload 6, 2) := by decide +kernel
theorem d_M_clear_244 : decode b_M_clear 244 = .ok (.iconst 5, 1) := by decide +kernel
theorem d_M_clear_245 : decode b_M_clear 245 = .ok (.if_icmp .ne 16, 3) := by decide +kernel
theorem d_M_clear_248 : decode b_M_clear 248 = .ok (.iconst 1, 1) := by decide +kernel
theorem d_M_clear_249 : decode b_M_clear 249 = .ok (.aload_n 0, 1) := by decide +kernel
theorem d_M_clear_250 : decode b_M_clear 250 = .ok (.getfield 306, 3) := by decide +kernel
theorem d_M_clear_253 : decode b_M_clear 253 = .ok (.iload 5, 2) := by decide +kernel
theorem d_M_clear_255 : decode b_M_clear 255 = .ok (.laload, 1) := by decide +kernel
theorem d_M_clear_256 : decode b_M_clear 256 = .ok (.l2i, 1) := by decide +kernel
theorem d_M_clear_257 : decode b_M_clear 257 = .ok (.iadd, 1) := by decide +kernel
theorem d_M_clear_258 : decode b_M_clear 258 = .ok (.goto 15, 3) := by decide +kernel
theorem d_M_clear_261 : decode b_M_clear 261 = .ok (.iconst 2, 1) := by decide +kernel
theorem d_M_clear_262 : decode b_M_clear 262 = .ok (.aload_n 0, 1) := by decide +kernel
theorem d_M_clear_263 : decode b_M_clear 263 = .ok (.getfield 306, 3) := by decide +kernel
theorem d_M_clear_266 : decode b_M_clear 266 = .ok (.iload 5, 2) := by decide +kernel
theorem d_M_clear_268 : decode b_M_clear 268 = .ok (.iconst 1, 1) := by decide +kernel
theorem d_M_clear_269 : decode b_M_clear 269 = .ok (.iadd, 1) := by decide +kernel
theorem d_M_clear_270 : decode b_M_clear 270 = .ok (.laload, 1) := by decide +kernel
theorem d_M_clear_271 : decode b_M_clear 271 = .ok (.l2i, 1) := by decide +kernel
theorem d_M_clear_272 : decode b_M_clear 272 = .ok (.iadd, 1) := by decide +kernel
theorem d_M_clear_273 : decode b_M_clear 273 = .ok (.istore 7, 2) := by decide +kernel
theorem d_M_clear_275 : decode b_M_clear 275 = .ok (.lload_n 3, 1) := by decide +kernel
theorem d_M_clear_276 : decode b_M_clear 276 = .ok (.invokestatic 706, 3) := by decide +kernel
theorem d_M_clear_279 : decode b_M_clear 279 = .ok (.istore 8, 2) := by decide +kernel
theorem d_M_clear_281 : decode b_M_clear 281 = .ok (.iload 8, 2) := by decide +kernel
theorem d_M_clear_283 : decode b_M_clear 283 = .ok (.iload 7, 2) := by decide +kernel
theorem d_M_clear_285 : decode b_M_clear 285 = .ok (.if_icmp .ge 34, 3) := by decide +kernel
theorem d_M_clear_288 : decode b_M_clear 288 = .ok (.aload_n 0, 1) := by decide +kernel
theorem d_M_clear_289 : decode b_M_clear 289 = .ok (.getfield 306, 3) := by decide +kernel
theorem d_M_clear_292 : decode b_M_clear 292 = .ok (.iload 5, 2) := by decide +kernel
theorem d_M_clear_294 : decode b_M_clear 294 = .ok (.iload 8, 2) := by decide +kernel
theorem d_M_clear_296 : decode b_M_clear 296 = .ok (.iadd, 1) := by decide +kernel
theorem d_M_clear_297 : decode b_M_clear 297 = .ok (.aload_n 0, 1) := by decide +kernel
theorem d_M_clear_298 : decode b_M_clear 298 = .ok (.iload_n 1, 1) := by decide +kernel
theorem d_M_clear_299 : decode b_M_clear 299 = .ok (.aload_n 0, 1) := by decide +kernel
theorem d_M_clear_300 : decode b_M_clear 300 = .ok (.getfield 306, 3) := by decide +kernel
theorem d_M_clear_303 : decode b_M_clear 303 = .ok (.iload 5, 2) := by decide +kernel
theorem d_M_clear_305 : decode b_M_clear 305 = .ok (.iload 8, 2) := by decide +kernel
theorem d_M_clear_307 : decode b_M_clear 307 = .ok (.iadd, 1) := by decide +kernel
theorem d_M_clear_308 : decode b_M_clear 308 = .ok (.laload, 1) := by decide +kernel
theorem d_M_clear_309 : decode b_M_clear 309 = .ok (.invokevirtual 702, 3) := by decide +kernel
theorem d_M_clear_312 : decode b_M_clear 312 = .ok (.lastore, 1) := by decide +kernel
theorem d_M_clear_313 : decode b_M_clear 313 = .ok (.iinc 8 1, 3) := by decide +kernel
theorem d_M_clear_316 : decode b_M_clear 316 = .ok (.goto (-35), 3) := by decide +kernel
theorem d_M_clear_319 : decode b_M_clear 319 = .ok (.iinc 2 1, 3) := by decide +kernel
theorem d_M_clear_322 : decode b_M_clear 322 = .ok (.goto (-118), 3) := by decide +kernel
theorem d_M_clear_325 : decode b_M_clear 325 = .ok (.aload_n 0, 1) := by decide +kernel
theorem d_M_clear_326 : decode b_M_clear 326 = .ok (.getfield 192, 3) := by decide +kernel
theorem d_M_clear_329 : decode b_M_clear 329 = .ok (.iload_n 1, 1) := by decide +kernel
theorem d_M_clear_330 : decode b_M_clear 330 = .ok (.aload_n 0, 1) := by decide +kernel
theorem d_M_clear_331 : decode b_M_clear 331 = .ok (.getfield 694, 3) := by decide +kernel
theorem d_M_clear_334 : decode b_M_clear 334 = .ok (.iastore, 1) := by decide +kernel
theorem d_M_clear_335 : decode b_M_clear 335 = .ok (.iconst 0, 1) := by decide +kernel
theorem d_M_clear_336 : decode b_M_clear 336 = .ok (.istore_n 2, 1) := by decide +kernel
theorem d_M_clear_337 : decode b_M_clear 337 = .ok (.iload_n 2, 1) := by decide +kernel
theorem d_M_clear_338 : decode b_M_clear 338 = .ok (.aload_n 0, 1) := by decide +kernel
theorem d_M_clear_339 : decode b_M_clear 339 = .ok (.getfield 694, 3) := by decide +kernel
theorem d_M_clear_342 : decode b_M_clear 342 = .ok (.if_icmp .ge 27, 3) := by decide +kernel
theorem d_M_clear_345 : decode b_M_clear 345 = .ok (.aload_n 0, 1) := by decide +kernel
theorem d_M_clear_346 : decode b_M_clear 346 = .ok (.getfield 189, 3) := by decide +kernel
theorem d_M_clear_349 : decode b_M_clear 349 = .ok (.iload_n 1, 1) := by decide +kernel
theorem d_M_clear_350 : decode b_M_clear 350 = .ok (.sipush 500, 3) := by decide +kernel
theorem d_M_clear_353 : decode b_M_clear 353 = .ok (.imul, 1) := by decide +kernel
theorem d_M_clear_354 : decode b_M_clear 354 = .ok (.iload_n 2, 1) := by decide +kernel
theorem d_M_clear_355 : decode b_M_clear 355 = .ok (.iadd, 1) := by decide +kernel
theorem d_M_clear_356 : decode b_M_clear 356 = .ok (.aload_n 0, 1) := by decide +kernel
theorem d_M_clear_357 : decode b_M_clear 357 = .ok (.getfield 306, 3) := by decide +kernel
theorem d_M_clear_360 : decode b_M_clear 360 = .ok (.iload_n 2, 1) := by decide +kernel
theorem d_M_clear_361 : decode b_M_clear 361 = .ok (.laload, 1) := by decide +kernel
theorem d_M_clear_362 : decode b_M_clear 362 = .ok (.lastore, 1) := by decide +kernel
theorem d_M_clear_363 : decode b_M_clear 363 = .ok (.iinc 2 1, 3) := by decide +kernel
theorem d_M_clear_366 : decode b_M_clear 366 = .ok (.goto (-29), 3) := by decide +kernel
theorem d_M_clear_369 : decode b_M_clear 369 = .ok (.return_, 1) := by decide +kernel
set_option maxRecDepth 100000 in
theorem hl_M_clear : Cond.methodLink R_M 709 y_M_clear ∈ wd_tbl := wd_of 2957 (by decide +kernel) rfl
set_option maxRecDepth 100000 in
theorem hi_M_clear : Cond.instanceMethod y_M_clear ∈ wd_tbl := wd_of 2959 (by decide +kernel) rfl
set_option maxRecDepth 100000 in
theorem hs_M_clear : Cond.selects R_M y_M_clear y_M_clear ∈ wd_tbl := wd_of 200 (by decide +kernel) rfl
theorem hd_M_clear : y_M_clear.cls = R_M ∧ y_M_clear.cls ≠ "java/lang/invoke/MethodHandle" ∧ y_M_clear.cls ≠ "java/lang/invoke/VarHandle" ∧ (parseMethodDescriptor y_M_clear.desc).map (fun d => d.parameters.length) = some 1 := by decide +kernel
def rm_M_clear : Room := { frames := 3, cells := 0, slots := 0, locals := 73 }
theorem rm_M_clear_M_carried {R : Room} (hR : R = rm_M_clear) : (rm_M_carried).frames + 1 ≤ R.frames ∧ 8 + (7 + 11) + (rm_M_carried).locals ≤ R.locals := by subst hR; decide
theorem rm_M_clear_M_valueOf {R : Room} (hR : R = rm_M_clear) : (rm_M_valueOf).frames + 1 ≤ R.frames ∧ 8 + (2 + 11) + (rm_M_valueOf).locals ≤ R.locals := by subst hR; decide
theorem rm_M_clear_M_sortOf {R : Room} (hR : R = rm_M_clear) : (rm_M_sortOf).frames + 1 ≤ R.frames ∧ 8 + (2 + 11) + (rm_M_sortOf).locals ≤ R.locals := by subst hR; decide
theorem rm_M_clear_M_partsFrom {R : Room} (hR : R = rm_M_clear) : (rm_M_partsFrom).frames + 1 ≤ R.frames ∧ 8 + (3 + 11) + (rm_M_partsFrom).locals ≤ R.locals := by subst hR; decide
def fb_M_clear_337 (N : Nat) (G : (MS → Int32 → Int32 → Option (MS × Unit)) × (MS → Int32 → Int32 → Option (MS × Unit)) × (MS → Int32 → Int32 → Option (MS × Unit)) × (MS → Int32 → Int32 → Option (MS × Unit)) × (MS → Int32 → Int32 → Option (MS × Unit)) × (MS → Int32 → Int32 → Int32 → Int32 → Int32 → Option (MS × Unit)) × (MS → Int32 → Int32 → Option (MS × Unit))) (u : MS) (v1 : Int32) (v2 : Int32) : Option (MS × Unit) := br (decide ((u.1 136) ≤ v2)) (some (u, ())) (ck (inb v2 (ln 134)) (ck (inb ((v1 * 500) + v2) (ln 88)) (lt (upJ u 88 (vp_updL (u.2.2.2 88) ((v1 * 500) + v2).toNatClampNeg (u.2.2.2 134 v2.toNatClampNeg))) (fun w1 => G.2.2.2.2.2.2 w1 (v1) ((v2 + 1))))))
set_option maxRecDepth 100000 in
set_option maxHeartbeats 4000000 in
theorem wb_M_clear_337 {p : Program} {l : Launch} {e : Env} {R : Room} {s : State} {m : MethodId} {args : Array Value} {below : List Frame} {meth : Method} {c : Code} {D : va_G} {cl : List vw_C} {cB cI cJ cZ cS : ClassId} {A : Nat → Prop} {iM h0 : Nat} {ad : Nat → Nat} (C0 : MCx p s m args meth c b_M_clear 9 none D cl cB cI cJ cZ cS iM A) (hR : R = rm_M_clear) (N : Nat) (G : (MS → Int32 → Int32 → Option (MS × Unit)) × (MS → Int32 → Int32 → Option (MS × Unit)) × (MS → Int32 → Int32 → Option (MS × Unit)) × (MS → Int32 → Int32 → Option (MS × Unit)) × (MS → Int32 → Int32 → Option (MS × Unit)) × (MS → Int32 → Int32 → Int32 → Int32 → Int32 → Option (MS × Unit)) × (MS → Int32 → Int32 → Option (MS × Unit))) (hG : (∀ (u : MS) (v1 : Int32) (v2 : Int32) (x : MS × Unit), G.1 u v1 v2 = some x → ∀ (H : Heap) (locs : List Loc), va_P D cl (wM cB cI cJ cZ cS iM h0 ad u) H → va_D A (wM cB cI cJ cZ cS iM h0 ad u) → va_S A s.heap H locs → ∀ (ls : Array Slot), lv_has ls 9 [(0, .ref h0), (1, .int v1), (2, .int v2)] → W p l e R s m args below meth c H locs 0 0 (MQ below (mQv D cl cB cI cJ cZ cS iM h0 ad A x) args s 0 0 A) (F0 m 22 ls [])) ∧ (∀ (u : MS) (v1 : Int32) (v2 : Int32) (x : MS × Unit), G.2.1 u v1 v2 = some x → ∀ (H : Heap) (locs : List Loc), va_P D cl (wM cB cI cJ cZ cS iM h0 ad u) H → va_D A (wM cB cI cJ cZ cS iM h0 ad u) → va_S A s.heap H locs → ∀ (ls : Array Slot), lv_has ls 9 [(0, .ref h0), (1, .int v1), (2, .int v2)] → W p l e R s m args below meth c H locs 0 0 (MQ below (mQv D cl cB cI cJ cZ cS iM h0 ad A x) args s 0 0 A) (F0 m 44 ls [])) ∧ (∀ (u : MS) (v1 : Int32) (v2 : Int32) (x : MS × Unit), G.2.2.1 u v1 v2 = some x → ∀ (H : Heap) (locs : List Loc), va_P D cl (wM cB cI cJ cZ cS iM h0 ad u) H → va_D A (wM cB cI cJ cZ cS iM h0 ad u) → va_S A s.heap H locs → ∀ (ls : Array Slot), lv_has ls 9 [(0, .ref h0), (1, .int v1), (2, .int v2)] → W p l e R s m args below meth c H locs 0 0 (MQ below (mQv D cl cB cI cJ cZ cS iM h0 ad A x) args s 0 0 A) (F0 m 91 ls [])) ∧ (∀ (u : MS) (v1 : Int32) (v2 : Int32) (x : MS × Unit), G.2.2.2.1 u v1 v2 = some x → ∀ (H : Heap) (locs : List Loc), va_P D cl (wM cB cI cJ cZ cS iM h0 ad u) H → va_D A (wM cB cI cJ cZ cS iM h0 ad u) → va_S A s.heap H locs → ∀ (ls : Array Slot), lv_has ls 9 [(0, .ref h0), (1, .int v1), (2, .int v2)] → W p l e R s m args below meth c H locs 0 0 (MQ below (mQv D cl cB cI cJ cZ cS iM h0 ad A x) args s 0 0 A) (F0 m 138 ls [])) ∧ (∀ (u : MS) (v1 : Int32) (v2 : Int32) (x : MS × Unit), G.2.2.2.2.1 u v1 v2 = some x → ∀ (H : Heap) (locs : List Loc), va_P D cl (wM cB cI cJ cZ cS iM h0 ad u) H → va_D A (wM cB cI cJ cZ cS iM h0 ad u) → va_S A s.heap H locs → ∀ (ls : Array Slot), lv_has ls 9 [(0, .ref h0), (1, .int v1), (2, .int v2)] → W p l e R s m args below meth c H locs 0 0 (MQ below (mQv D cl cB cI cJ cZ cS iM h0 ad A x) args s 0 0 A) (F0 m 204 ls [])) ∧ (∀ (u : MS) (v1 : Int32) (v2 : Int32) (v5 : Int32) (v7 : Int32) (v8 : Int32) (x : MS × Unit), G.2.2.2.2.2.1 u v1 v2 v5 v7 v8 = some x → ∀ (H : Heap) (locs : List Loc), va_P D cl (wM cB cI cJ cZ cS iM h0 ad u) H → va_D A (wM cB cI cJ cZ cS iM h0 ad u) → va_S A s.heap H locs → ∀ (ls : Array Slot), lv_has ls 9 [(0, .ref h0), (1, .int v1), (2, .int v2), (5, .int v5), (7, .int v7), (8, .int v8)] → W p l e R s m args below meth c H locs 0 0 (MQ below (mQv D cl cB cI cJ cZ cS iM h0 ad A x) args s 0 0 A) (F0 m 281 ls [])) ∧ (∀ (u : MS) (v1 : Int32) (v2 : Int32) (x : MS × Unit), G.2.2.2.2.2.2 u v1 v2 = some x → ∀ (H : Heap) (locs : List Loc), va_P D cl (wM cB cI cJ cZ cS iM h0 ad u) H → va_D A (wM cB cI cJ cZ cS iM h0 ad u) → va_S A s.heap H locs → ∀ (ls : Array Slot), lv_has ls 9 [(0, .ref h0), (1, .int v1), (2, .int v2)] → W p l e R s m args below meth c H locs 0 0 (MQ below (mQv D cl cB cI cJ cZ cS iM h0 ad A x) args s 0 0 A) (F0 m 337 ls []))) : ∀ (u : MS) (v1 : Int32) (v2 : Int32) (x : MS × Unit), fb_M_clear_337 N G u v1 v2 = some x → ∀ (H : Heap) (locs : List Loc), va_P D cl (wM cB cI cJ cZ cS iM h0 ad u) H → va_D A (wM cB cI cJ cZ cS iM h0 ad u) → va_S A s.heap H locs → ∀ (ls : Array Slot), lv_has ls 9 [(0, .ref h0), (1, .int v1), (2, .int v2)] → W p l e R s m args below meth c H locs 0 0 (MQ below (mQv D cl cB cI cJ cZ cS iM h0 ad A x) args s 0 0 A) (F0 m 337 ls []) := by
  intro u v1 v2 x hf H locs hP hD hS ls hl
  obtain ⟨hx, hb, hr, hml, ht, hown, hM, hK, hA, hlocks⟩ := id C0
  unfold fb_M_clear_337 at hf
  refine lv_iload_n hx hb d_M_clear_337 rfl (lv_at hl 2 rfl) ?_
  refine lv_aload_n hx hb d_M_clear_338 rfl (lv_at hl 0 rfl) ?_
  refine ug_I hx hb ht hown hM hK hP 136 (by decide) lk_M_136 (by decide) d_M_clear_339 ?_
  refine lv_icmp_ge (tgt := 369) hx hb d_M_clear_342 (by decide) (fun hc => ?_) (fun hc => ?_)
  · rw [br_p _ hc] at hf
    exact mr_v C0 hP hD hS hf d_M_clear_369
  · rw [br_n _ hc] at hf
    refine lv_aload_n hx hb d_M_clear_345 rfl (lv_at hl 0 rfl) ?_
    refine ug_R hx hb ht hown hM hK hP 88 (by decide) lk_M_88 (by decide) d_M_clear_346 ?_
    refine lv_iload_n hx hb d_M_clear_349 rfl (lv_at hl 1 rfl) ?_
    refine lv_sipush (v := 500) hx hb d_M_clear_350 (by decide) ?_
    refine lv_imul hx hb d_M_clear_353 ?_
    refine lv_iload_n hx hb d_M_clear_354 rfl (lv_at hl 2 rfl) ?_
    refine lv_iadd hx hb d_M_clear_355 ?_
    refine lv_aload_n hx hb d_M_clear_356 rfl (lv_at hl 0 rfl) ?_
    refine ug_R hx hb ht hown hM hK hP 134 (by decide) lk_M_134 (by decide) d_M_clear_357 ?_
    refine lv_iload_n hx hb d_M_clear_360 rfl (lv_at hl 2 rfl) ?_
    obtain ⟨hi9, hf⟩ := ck_some hf
    refine ul_J hx hb hK hP (by decide) (by decide) hi9 d_M_clear_361 ?_
    obtain ⟨hi9, hf⟩ := ck_some hf
    refine us_J hx hb hK hP hD hS (by decide) (by decide) hi9 d_M_clear_362 (fun H locs hP hD hS => ?_)
    obtain ⟨w1, e1, hf⟩ := lt_some hf
    rw [← e1] at hP hD
    refine lv_iinc (v := (v2 + 1)) (lv' := [(2, .int (v2 + 1)), (0, .ref h0), (1, .int v1)]) hx hb d_M_clear_363 hl (k := 2) rfl rfl (by decide) rfl (fun ls hl => ?_)
    refine lv_goto (tgt := 337) hx hb d_M_clear_366 (by decide) ?_
    exact hG.2.2.2.2.2.2 _ _ _ _ hf H locs hP hD hS ls (lv_sub hl [1, 2, 0] rfl)
def fb_M_clear_281 (N : Nat) (G : (MS → Int32 → Int32 → Option (MS × Unit)) × (MS → Int32 → Int32 → Option (MS × Unit)) × (MS → Int32 → Int32 → Option (MS × Unit)) × (MS → Int32 → Int32 → Option (MS × Unit)) × (MS → Int32 → Int32 → Option (MS × Unit)) × (MS → Int32 → Int32 → Int32 → Int32 → Int32 → Option (MS × Unit)) × (MS → Int32 → Int32 → Option (MS × Unit))) (u : MS) (v1 : Int32) (v2 : Int32) (v5 : Int32) (v7 : Int32) (v8 : Int32) : Option (MS × Unit) := br (decide (v7 ≤ v8)) (G.2.2.2.2.1 u (v1) ((v2 + 1))) (ck (inb (v5 + v8) (ln 134)) (bnd (fm_M_carried N u v1 (u.2.2.2 134 (v5 + v8).toNatClampNeg)) (fun u2 r2 => ck (inb (v5 + v8) (ln 134)) (lt (upJ u2 134 (vp_updL (u2.2.2.2 134) (v5 + v8).toNatClampNeg r2)) (fun w3 => G.2.2.2.2.2.1 w3 (v1) (v2) (v5) (v7) ((v8 + 1)))))))
set_option maxRecDepth 100000 in
set_option maxHeartbeats 4000000 in
theorem wb_M_clear_281 {p : Program} {l : Launch} {e : Env} {R : Room} {s : State} {m : MethodId} {args : Array Value} {below : List Frame} {meth : Method} {c : Code} {D : va_G} {cl : List vw_C} {cB cI cJ cZ cS : ClassId} {A : Nat → Prop} {iM h0 : Nat} {ad : Nat → Nat} (C0 : MCx p s m args meth c b_M_clear 9 none D cl cB cI cJ cZ cS iM A) (hR : R = rm_M_clear) (N : Nat) (G : (MS → Int32 → Int32 → Option (MS × Unit)) × (MS → Int32 → Int32 → Option (MS × Unit)) × (MS → Int32 → Int32 → Option (MS × Unit)) × (MS → Int32 → Int32 → Option (MS × Unit)) × (MS → Int32 → Int32 → Option (MS × Unit)) × (MS → Int32 → Int32 → Int32 → Int32 → Int32 → Option (MS × Unit)) × (MS → Int32 → Int32 → Option (MS × Unit))) (hG : (∀ (u : MS) (v1 : Int32) (v2 : Int32) (x : MS × Unit), G.1 u v1 v2 = some x → ∀ (H : Heap) (locs : List Loc), va_P D cl (wM cB cI cJ cZ cS iM h0 ad u) H → va_D A (wM cB cI cJ cZ cS iM h0 ad u) → va_S A s.heap H locs → ∀ (ls : Array Slot), lv_has ls 9 [(0, .ref h0), (1, .int v1), (2, .int v2)] → W p l e R s m args below meth c H locs 0 0 (MQ below (mQv D cl cB cI cJ cZ cS iM h0 ad A x) args s 0 0 A) (F0 m 22 ls [])) ∧ (∀ (u : MS) (v1 : Int32) (v2 : Int32) (x : MS × Unit), G.2.1 u v1 v2 = some x → ∀ (H : Heap) (locs : List Loc), va_P D cl (wM cB cI cJ cZ cS iM h0 ad u) H → va_D A (wM cB cI cJ cZ cS iM h0 ad u) → va_S A s.heap H locs → ∀ (ls : Array Slot), lv_has ls 9 [(0, .ref h0), (1, .int v1), (2, .int v2)] → W p l e R s m args below meth c H locs 0 0 (MQ below (mQv D cl cB cI cJ cZ cS iM h0 ad A x) args s 0 0 A) (F0 m 44 ls [])) ∧ (∀ (u : MS) (v1 : Int32) (v2 : Int32) (x : MS × Unit), G.2.2.1 u v1 v2 = some x → ∀ (H : Heap) (locs : List Loc), va_P D cl (wM cB cI cJ cZ cS iM h0 ad u) H → va_D A (wM cB cI cJ cZ cS iM h0 ad u) → va_S A s.heap H locs → ∀ (ls : Array Slot), lv_has ls 9 [(0, .ref h0), (1, .int v1), (2, .int v2)] → W p l e R s m args below meth c H locs 0 0 (MQ below (mQv D cl cB cI cJ cZ cS iM h0 ad A x) args s 0 0 A) (F0 m 91 ls [])) ∧ (∀ (u : MS) (v1 : Int32) (v2 : Int32) (x : MS × Unit), G.2.2.2.1 u v1 v2 = some x → ∀ (H : Heap) (locs : List Loc), va_P D cl (wM cB cI cJ cZ cS iM h0 ad u) H → va_D A (wM cB cI cJ cZ cS iM h0 ad u) → va_S A s.heap H locs → ∀ (ls : Array Slot), lv_has ls 9 [(0, .ref h0), (1, .int v1), (2, .int v2)] → W p l e R s m args below meth c H locs 0 0 (MQ below (mQv D cl cB cI cJ cZ cS iM h0 ad A x) args s 0 0 A) (F0 m 138 ls [])) ∧ (∀ (u : MS) (v1 : Int32) (v2 : Int32) (x : MS × Unit), G.2.2.2.2.1 u v1 v2 = some x → ∀ (H : Heap) (locs : List Loc), va_P D cl (wM cB cI cJ cZ cS iM h0 ad u) H → va_D A (wM cB cI cJ cZ cS iM h0 ad u) → va_S A s.heap H locs → ∀ (ls : Array Slot), lv_has ls 9 [(0, .ref h0), (1, .int v1), (2, .int v2)] → W p l e R s m args below meth c H locs 0 0 (MQ below (mQv D cl cB cI cJ cZ cS iM h0 ad A x) args s 0 0 A) (F0 m 204 ls [])) ∧ (∀ (u : MS) (v1 : Int32) (v2 : Int32) (v5 : Int32) (v7 : Int32) (v8 : Int32) (x : MS × Unit), G.2.2.2.2.2.1 u v1 v2 v5 v7 v8 = some x → ∀ (H : Heap) (locs : List Loc), va_P D cl (wM cB cI cJ cZ cS iM h0 ad u) H → va_D A (wM cB cI cJ cZ cS iM h0 ad u) → va_S A s.heap H locs → ∀ (ls : Array Slot), lv_has ls 9 [(0, .ref h0), (1, .int v1), (2, .int v2), (5, .int v5), (7, .int v7), (8, .int v8)] → W p l e R s m args below meth c H locs 0 0 (MQ below (mQv D cl cB cI cJ cZ cS iM h0 ad A x) args s 0 0 A) (F0 m 281 ls [])) ∧ (∀ (u : MS) (v1 : Int32) (v2 : Int32) (x : MS × Unit), G.2.2.2.2.2.2 u v1 v2 = some x → ∀ (H : Heap) (locs : List Loc), va_P D cl (wM cB cI cJ cZ cS iM h0 ad u) H → va_D A (wM cB cI cJ cZ cS iM h0 ad u) → va_S A s.heap H locs → ∀ (ls : Array Slot), lv_has ls 9 [(0, .ref h0), (1, .int v1), (2, .int v2)] → W p l e R s m args below meth c H locs 0 0 (MQ below (mQv D cl cB cI cJ cZ cS iM h0 ad A x) args s 0 0 A) (F0 m 337 ls []))) : ∀ (u : MS) (v1 : Int32) (v2 : Int32) (v5 : Int32) (v7 : Int32) (v8 : Int32) (x : MS × Unit), fb_M_clear_281 N G u v1 v2 v5 v7 v8 = some x → ∀ (H : Heap) (locs : List Loc), va_P D cl (wM cB cI cJ cZ cS iM h0 ad u) H → va_D A (wM cB cI cJ cZ cS iM h0 ad u) → va_S A s.heap H locs → ∀ (ls : Array Slot), lv_has ls 9 [(0, .ref h0), (1, .int v1), (2, .int v2), (5, .int v5), (7, .int v7), (8, .int v8)] → W p l e R s m args below meth c H locs 0 0 (MQ below (mQv D cl cB cI cJ cZ cS iM h0 ad A x) args s 0 0 A) (F0 m 281 ls []) := by
  intro u v1 v2 v5 v7 v8 x hf H locs hP hD hS ls hl
  obtain ⟨hx, hb, hr, hml, ht, hown, hM, hK, hA, hlocks⟩ := id C0
  unfold fb_M_clear_281 at hf
  refine lv_iload hx hb d_M_clear_281 (lv_at hl 5 rfl) ?_
  refine lv_iload hx hb d_M_clear_283 (lv_at hl 4 rfl) ?_
  refine lv_icmp_ge (tgt := 319) hx hb d_M_clear_285 (by decide) (fun hc => ?_) (fun hc => ?_)
  · rw [br_p _ hc] at hf
    refine lv_iinc (v := (v2 + 1)) (lv' := [(2, .int (v2 + 1)), (0, .ref h0), (1, .int v1), (5, .int v5), (7, .int v7), (8, .int v8)]) hx hb d_M_clear_319 hl (k := 2) rfl rfl (by decide) rfl (fun ls hl => ?_)
    refine lv_goto (tgt := 204) hx hb d_M_clear_322 (by decide) ?_
    exact hG.2.2.2.2.1 _ _ _ _ hf H locs hP hD hS ls (lv_sub hl [1, 2, 0] rfl)
  · rw [br_n _ hc] at hf
    refine lv_aload_n hx hb d_M_clear_288 rfl (lv_at hl 0 rfl) ?_
    refine ug_R hx hb ht hown hM hK hP 134 (by decide) lk_M_134 (by decide) d_M_clear_289 ?_
    refine lv_iload hx hb d_M_clear_292 (lv_at hl 3 rfl) ?_
    refine lv_iload hx hb d_M_clear_294 (lv_at hl 5 rfl) ?_
    refine lv_iadd hx hb d_M_clear_296 ?_
    refine lv_aload_n hx hb d_M_clear_297 rfl (lv_at hl 0 rfl) ?_
    refine lv_iload_n hx hb d_M_clear_298 rfl (lv_at hl 1 rfl) ?_
    refine lv_aload_n hx hb d_M_clear_299 rfl (lv_at hl 0 rfl) ?_
    refine ug_R hx hb ht hown hM hK hP 134 (by decide) lk_M_134 (by decide) d_M_clear_300 ?_
    refine lv_iload hx hb d_M_clear_303 (lv_at hl 3 rfl) ?_
    refine lv_iload hx hb d_M_clear_305 (lv_at hl 5 rfl) ?_
    refine lv_iadd hx hb d_M_clear_307 ?_
    obtain ⟨hi9, hf⟩ := ck_some hf
    refine ul_J hx hb hK hP (by decide) (by decide) hi9 d_M_clear_308 ?_
    obtain ⟨u2, r2, hc2, hf⟩ := bnd_some hf
    refine mV_l (As := [.int v1, .long (u.2.2.2 134 (v5 + v8).toNatClampNeg)]) (rest := [.int (v5 + v8), .ref (ad 134)]) C0 hP hD hS (c_M_carried N hM hc2) k_M_carried hl_M_carried hi_M_carried hs_M_carried hini_M rfl rfl hd_M_carried rfl (rm_M_clear_M_carried hR) hl.1 (Nat.le_of_ble_eq_true rfl) d_M_clear_309 rfl ⟨Nat.zero_le _, Nat.zero_le _⟩ (fun H locs hP hD hS => ?_)
    obtain ⟨hi9, hf⟩ := ck_some hf
    refine us_J hx hb hK hP hD hS (by decide) (by decide) hi9 d_M_clear_312 (fun H locs hP hD hS => ?_)
    obtain ⟨w3, e3, hf⟩ := lt_some hf
    rw [← e3] at hP hD
    refine lv_iinc (v := (v8 + 1)) (lv' := [(8, .int (v8 + 1)), (0, .ref h0), (1, .int v1), (2, .int v2), (5, .int v5), (7, .int v7)]) hx hb d_M_clear_313 hl (k := 5) rfl rfl (by decide) rfl (fun ls hl => ?_)
    refine lv_goto (tgt := 281) hx hb d_M_clear_316 (by decide) ?_
    exact hG.2.2.2.2.2.1 _ _ _ _ _ _ _ hf H locs hP hD hS ls (lv_sub hl [1, 2, 3, 4, 5, 0] rfl)
def fb_M_clear_273 (N : Nat) (G : (MS → Int32 → Int32 → Option (MS × Unit)) × (MS → Int32 → Int32 → Option (MS × Unit)) × (MS → Int32 → Int32 → Option (MS × Unit)) × (MS → Int32 → Int32 → Option (MS × Unit)) × (MS → Int32 → Int32 → Option (MS × Unit)) × (MS → Int32 → Int32 → Int32 → Int32 → Int32 → Option (MS × Unit)) × (MS → Int32 → Int32 → Option (MS × Unit))) (u : MS) (v1 : Int32) (v2 : Int32) (v3 : Int64) (v5 : Int32) (t0 : Int32) : Option (MS × Unit) := bnd (fm_M_partsFrom N u v3) (fun u4 r4 => G.2.2.2.2.2.1 u4 (v1) (v2) (v5) (t0) (r4))
set_option maxRecDepth 100000 in
set_option maxHeartbeats 4000000 in
theorem wb_M_clear_273 {p : Program} {l : Launch} {e : Env} {R : Room} {s : State} {m : MethodId} {args : Array Value} {below : List Frame} {meth : Method} {c : Code} {D : va_G} {cl : List vw_C} {cB cI cJ cZ cS : ClassId} {A : Nat → Prop} {iM h0 : Nat} {ad : Nat → Nat} (C0 : MCx p s m args meth c b_M_clear 9 none D cl cB cI cJ cZ cS iM A) (hR : R = rm_M_clear) (N : Nat) (G : (MS → Int32 → Int32 → Option (MS × Unit)) × (MS → Int32 → Int32 → Option (MS × Unit)) × (MS → Int32 → Int32 → Option (MS × Unit)) × (MS → Int32 → Int32 → Option (MS × Unit)) × (MS → Int32 → Int32 → Option (MS × Unit)) × (MS → Int32 → Int32 → Int32 → Int32 → Int32 → Option (MS × Unit)) × (MS → Int32 → Int32 → Option (MS × Unit))) (hG : (∀ (u : MS) (v1 : Int32) (v2 : Int32) (x : MS × Unit), G.1 u v1 v2 = some x → ∀ (H : Heap) (locs : List Loc), va_P D cl (wM cB cI cJ cZ cS iM h0 ad u) H → va_D A (wM cB cI cJ cZ cS iM h0 ad u) → va_S A s.heap H locs → ∀ (ls : Array Slot), lv_has ls 9 [(0, .ref h0), (1, .int v1), (2, .int v2)] → W p l e R s m args below meth c H locs 0 0 (MQ below (mQv D cl cB cI cJ cZ cS iM h0 ad A x) args s 0 0 A) (F0 m 22 ls [])) ∧ (∀ (u : MS) (v1 : Int32) (v2 : Int32) (x : MS × Unit), G.2.1 u v1 v2 = some x → ∀ (H : Heap) (locs : List Loc), va_P D cl (wM cB cI cJ cZ cS iM h0 ad u) H → va_D A (wM cB cI cJ cZ cS iM h0 ad u) → va_S A s.heap H locs → ∀ (ls : Array Slot), lv_has ls 9 [(0, .ref h0), (1, .int v1), (2, .int v2)] → W p l e R s m args below meth c H locs 0 0 (MQ below (mQv D cl cB cI cJ cZ cS iM h0 ad A x) args s 0 0 A) (F0 m 44 ls [])) ∧ (∀ (u : MS) (v1 : Int32) (v2 : Int32) (x : MS × Unit), G.2.2.1 u v1 v2 = some x → ∀ (H : Heap) (locs : List Loc), va_P D cl (wM cB cI cJ cZ cS iM h0 ad u) H → va_D A (wM cB cI cJ cZ cS iM h0 ad u) → va_S A s.heap H locs → ∀ (ls : Array Slot), lv_has ls 9 [(0, .ref h0), (1, .int v1), (2, .int v2)] → W p l e R s m args below meth c H locs 0 0 (MQ below (mQv D cl cB cI cJ cZ cS iM h0 ad A x) args s 0 0 A) (F0 m 91 ls [])) ∧ (∀ (u : MS) (v1 : Int32) (v2 : Int32) (x : MS × Unit), G.2.2.2.1 u v1 v2 = some x → ∀ (H : Heap) (locs : List Loc), va_P D cl (wM cB cI cJ cZ cS iM h0 ad u) H → va_D A (wM cB cI cJ cZ cS iM h0 ad u) → va_S A s.heap H locs → ∀ (ls : Array Slot), lv_has ls 9 [(0, .ref h0), (1, .int v1), (2, .int v2)] → W p l e R s m args below meth c H locs 0 0 (MQ below (mQv D cl cB cI cJ cZ cS iM h0 ad A x) args s 0 0 A) (F0 m 138 ls [])) ∧ (∀ (u : MS) (v1 : Int32) (v2 : Int32) (x : MS × Unit), G.2.2.2.2.1 u v1 v2 = some x → ∀ (H : Heap) (locs : List Loc), va_P D cl (wM cB cI cJ cZ cS iM h0 ad u) H → va_D A (wM cB cI cJ cZ cS iM h0 ad u) → va_S A s.heap H locs → ∀ (ls : Array Slot), lv_has ls 9 [(0, .ref h0), (1, .int v1), (2, .int v2)] → W p l e R s m args below meth c H locs 0 0 (MQ below (mQv D cl cB cI cJ cZ cS iM h0 ad A x) args s 0 0 A) (F0 m 204 ls [])) ∧ (∀ (u : MS) (v1 : Int32) (v2 : Int32) (v5 : Int32) (v7 : Int32) (v8 : Int32) (x : MS × Unit), G.2.2.2.2.2.1 u v1 v2 v5 v7 v8 = some x → ∀ (H : Heap) (locs : List Loc), va_P D cl (wM cB cI cJ cZ cS iM h0 ad u) H → va_D A (wM cB cI cJ cZ cS iM h0 ad u) → va_S A s.heap H locs → ∀ (ls : Array Slot), lv_has ls 9 [(0, .ref h0), (1, .int v1), (2, .int v2), (5, .int v5), (7, .int v7), (8, .int v8)] → W p l e R s m args below meth c H locs 0 0 (MQ below (mQv D cl cB cI cJ cZ cS iM h0 ad A x) args s 0 0 A) (F0 m 281 ls [])) ∧ (∀ (u : MS) (v1 : Int32) (v2 : Int32) (x : MS × Unit), G.2.2.2.2.2.2 u v1 v2 = some x → ∀ (H : Heap) (locs : List Loc), va_P D cl (wM cB cI cJ cZ cS iM h0 ad u) H → va_D A (wM cB cI cJ cZ cS iM h0 ad u) → va_S A s.heap H locs → ∀ (ls : Array Slot), lv_has ls 9 [(0, .ref h0), (1, .int v1), (2, .int v2)] → W p l e R s m args below meth c H locs 0 0 (MQ below (mQv D cl cB cI cJ cZ cS iM h0 ad A x) args s 0 0 A) (F0 m 337 ls []))) : ∀ (u : MS) (v1 : Int32) (v2 : Int32) (v3 : Int64) (v5 : Int32) (t0 : Int32) (x : MS × Unit), fb_M_clear_273 N G u v1 v2 v3 v5 t0 = some x → ∀ (H : Heap) (locs : List Loc), va_P D cl (wM cB cI cJ cZ cS iM h0 ad u) H → va_D A (wM cB cI cJ cZ cS iM h0 ad u) → va_S A s.heap H locs → ∀ (ls : Array Slot), lv_has ls 9 [(0, .ref h0), (1, .int v1), (2, .int v2), (3, .long v3), (5, .int v5)] → W p l e R s m args below meth c H locs 0 0 (MQ below (mQv D cl cB cI cJ cZ cS iM h0 ad A x) args s 0 0 A) (F0 m 273 ls [.int t0]) := by
  intro u v1 v2 v3 v5 t0 x hf H locs hP hD hS ls hl
  obtain ⟨hx, hb, hr, hml, ht, hown, hM, hK, hA, hlocks⟩ := id C0
  unfold fb_M_clear_273 at hf
  refine lv_istore (lv' := [(7, .int t0), (0, .ref h0), (1, .int v1), (2, .int v2), (3, .long v3), (5, .int v5)]) hx hb d_M_clear_273 hl (by decide) rfl (fun ls hl => ?_)
  refine lv_lload_n hx hb d_M_clear_275 rfl (lv_at hl 4 rfl) ?_
  obtain ⟨u4, r4, hc4, hf⟩ := bnd_some hf
  refine mS_i (As := [.long v3]) (rest := []) C0 hP hD hS (c_M_partsFrom N hM hc4) k_M_partsFrom hl_M_partsFrom ht_M_partsFrom hini_M rfl rfl hd_M_partsFrom rfl (rm_M_clear_M_partsFrom hR) hl.1 (Nat.le_of_ble_eq_true rfl) d_M_clear_276 rfl ⟨Nat.zero_le _, Nat.zero_le _⟩ (fun H locs hP hD hS => ?_)
  refine lv_istore (lv' := [(8, .int r4), (7, .int t0), (0, .ref h0), (1, .int v1), (2, .int v2), (3, .long v3), (5, .int v5)]) hx hb d_M_clear_279 hl (by decide) rfl (fun ls hl => ?_)
  exact hG.2.2.2.2.2.1 _ _ _ _ _ _ _ hf H locs hP hD hS ls (lv_sub hl [2, 3, 4, 6, 1, 0] rfl)
def fb_M_clear_204 (N : Nat) (G : (MS → Int32 → Int32 → Option (MS × Unit)) × (MS → Int32 → Int32 → Option (MS × Unit)) × (MS → Int32 → Int32 → Option (MS × Unit)) × (MS → Int32 → Int32 → Option (MS × Unit)) × (MS → Int32 → Int32 → Option (MS × Unit)) × (MS → Int32 → Int32 → Int32 → Int32 → Int32 → Option (MS × Unit)) × (MS → Int32 → Int32 → Option (MS × Unit))) (u : MS) (v1 : Int32) (v2 : Int32) : Option (MS × Unit) := br (decide ((u.1 138) ≤ v2)) (ck (inb v1 (ln 89)) (lt (upA u 89 (upd (u.2.2.1 89) v1.toNatClampNeg (u.1 136))) (fun w5 => G.2.2.2.2.2.2 w5 (v1) (0)))) (ck (inb v2 (ln 137)) (bnd (fm_M_valueOf N u (u.2.2.2 137 v2.toNatClampNeg)) (fun u6 r6 => bnd (fm_M_sortOf N u6 (u.2.2.2 137 v2.toNatClampNeg)) (fun u7 r7 => br (decide (r7 = 7)) (fb_M_clear_273 N G u7 (v1) (v2) ((u.2.2.2 137 v2.toNatClampNeg)) (r6) (2)) (br (decide (r7 = 5)) (ck (inb r6 (ln 134)) (fb_M_clear_273 N G u7 (v1) (v2) ((u.2.2.2 137 v2.toNatClampNeg)) (r6) ((1 + (u7.2.2.2 134 r6.toNatClampNeg).toInt32)))) (ck (inb (r6 + 1) (ln 134)) (fb_M_clear_273 N G u7 (v1) (v2) ((u.2.2.2 137 v2.toNatClampNeg)) (r6) ((2 + (u7.2.2.2 134 (r6 + 1).toNatClampNeg).toInt32)))))))))
set_option maxRecDepth 100000 in
set_option maxHeartbeats 4000000 in
theorem wb_M_clear_204 {p : Program} {l : Launch} {e : Env} {R : Room} {s : State} {m : MethodId} {args : Array Value} {below : List Frame} {meth : Method} {c : Code} {D : va_G} {cl : List vw_C} {cB cI cJ cZ cS : ClassId} {A : Nat → Prop} {iM h0 : Nat} {ad : Nat → Nat} (C0 : MCx p s m args meth c b_M_clear 9 none D cl cB cI cJ cZ cS iM A) (hR : R = rm_M_clear) (N : Nat) (G : (MS → Int32 → Int32 → Option (MS × Unit)) × (MS → Int32 → Int32 → Option (MS × Unit)) × (MS → Int32 → Int32 → Option (MS × Unit)) × (MS → Int32 → Int32 → Option (MS × Unit)) × (MS → Int32 → Int32 → Option (MS × Unit)) × (MS → Int32 → Int32 → Int32 → Int32 → Int32 → Option (MS × Unit)) × (MS → Int32 → Int32 → Option (MS × Unit))) (hG : (∀ (u : MS) (v1 : Int32) (v2 : Int32) (x : MS × Unit), G.1 u v1 v2 = some x → ∀ (H : Heap) (locs : List Loc), va_P D cl (wM cB cI cJ cZ cS iM h0 ad u) H → va_D A (wM cB cI cJ cZ cS iM h0 ad u) → va_S A s.heap H locs → ∀ (ls : Array Slot), lv_has ls 9 [(0, .ref h0), (1, .int v1), (2, .int v2)] → W p l e R s m args below meth c H locs 0 0 (MQ below (mQv D cl cB cI cJ cZ cS iM h0 ad A x) args s 0 0 A) (F0 m 22 ls [])) ∧ (∀ (u : MS) (v1 : Int32) (v2 : Int32) (x : MS × Unit), G.2.1 u v1 v2 = some x → ∀ (H : Heap) (locs : List Loc), va_P D cl (wM cB cI cJ cZ cS iM h0 ad u) H → va_D A (wM cB cI cJ cZ cS iM h0 ad u) → va_S A s.heap H locs → ∀ (ls : Array Slot), lv_has ls 9 [(0, .ref h0), (1, .int v1), (2, .int v2)] → W p l e R s m args below meth c H locs 0 0 (MQ below (mQv D cl cB cI cJ cZ cS iM h0 ad A x) args s 0 0 A) (F0 m 44 ls [])) ∧ (∀ (u : MS) (v1 : Int32) (v2 : Int32) (x : MS × Unit), G.2.2.1 u v1 v2 = some x → ∀ (H : Heap) (locs : List Loc), va_P D cl (wM cB cI cJ cZ cS iM h0 ad u) H → va_D A (wM cB cI cJ cZ cS iM h0 ad u) → va_S A s.heap H locs → ∀ (ls : Array Slot), lv_has ls 9 [(0, .ref h0), (1, .int v1), (2, .int v2)] → W p l e R s m args below meth c H locs 0 0 (MQ below (mQv D cl cB cI cJ cZ cS iM h0 ad A x) args s 0 0 A) (F0 m 91 ls [])) ∧ (∀ (u : MS) (v1 : Int32) (v2 : Int32) (x : MS × Unit), G.2.2.2.1 u v1 v2 = some x → ∀ (H : Heap) (locs : List Loc), va_P D cl (wM cB cI cJ cZ cS iM h0 ad u) H → va_D A (wM cB cI cJ cZ cS iM h0 ad u) → va_S A s.heap H locs → ∀ (ls : Array Slot), lv_has ls 9 [(0, .ref h0), (1, .int v1), (2, .int v2)] → W p l e R s m args below meth c H locs 0 0 (MQ below (mQv D cl cB cI cJ cZ cS iM h0 ad A x) args s 0 0 A) (F0 m 138 ls [])) ∧ (∀ (u : MS) (v1 : Int32) (v2 : Int32) (x : MS × Unit), G.2.2.2.2.1 u v1 v2 = some x → ∀ (H : Heap) (locs : List Loc), va_P D cl (wM cB cI cJ cZ cS iM h0 ad u) H → va_D A (wM cB cI cJ cZ cS iM h0 ad u) → va_S A s.heap H locs → ∀ (ls : Array Slot), lv_has ls 9 [(0, .ref h0), (1, .int v1), (2, .int v2)] → W p l e R s m args below meth c H locs 0 0 (MQ below (mQv D cl cB cI cJ cZ cS iM h0 ad A x) args s 0 0 A) (F0 m 204 ls [])) ∧ (∀ (u : MS) (v1 : Int32) (v2 : Int32) (v5 : Int32) (v7 : Int32) (v8 : Int32) (x : MS × Unit), G.2.2.2.2.2.1 u v1 v2 v5 v7 v8 = some x → ∀ (H : Heap) (locs : List Loc), va_P D cl (wM cB cI cJ cZ cS iM h0 ad u) H → va_D A (wM cB cI cJ cZ cS iM h0 ad u) → va_S A s.heap H locs → ∀ (ls : Array Slot), lv_has ls 9 [(0, .ref h0), (1, .int v1), (2, .int v2), (5, .int v5), (7, .int v7), (8, .int v8)] → W p l e R s m args below meth c H locs 0 0 (MQ below (mQv D cl cB cI cJ cZ cS iM h0 ad A x) args s 0 0 A) (F0 m 281 ls [])) ∧ (∀ (u : MS) (v1 : Int32) (v2 : Int32) (x : MS × Unit), G.2.2.2.2.2.2 u v1 v2 = some x → ∀ (H : Heap) (locs : List Loc), va_P D cl (wM cB cI cJ cZ cS iM h0 ad u) H → va_D A (wM cB cI cJ cZ cS iM h0 ad u) → va_S A s.heap H locs → ∀ (ls : Array Slot), lv_has ls 9 [(0, .ref h0), (1, .int v1), (2, .int v2)] → W p l e R s m args below meth c H locs 0 0 (MQ below (mQv D cl cB cI cJ cZ cS iM h0 ad A x) args s 0 0 A) (F0 m 337 ls []))) : ∀ (u : MS) (v1 : Int32) (v2 : Int32) (x : MS × Unit), fb_M_clear_204 N G u v1 v2 = some x → ∀ (H : Heap) (locs : List Loc), va_P D cl (wM cB cI cJ cZ cS iM h0 ad u) H → va_D A (wM cB cI cJ cZ cS iM h0 ad u) → va_S A s.heap H locs → ∀ (ls : Array Slot), lv_has ls 9 [(0, .ref h0), (1, .int v1), (2, .int v2)] → W p l e R s m args below meth c H locs 0 0 (MQ below (mQv D cl cB cI cJ cZ cS iM h0 ad A x) args s 0 0 A) (F0 m 204 ls []) := by
  intro u v1 v2 x hf H locs hP hD hS ls hl
  obtain ⟨hx, hb, hr, hml, ht, hown, hM, hK, hA, hlocks⟩ := id C0
  unfold fb_M_clear_204 at hf
  refine lv_iload_n hx hb d_M_clear_204 rfl (lv_at hl 2 rfl) ?_
  refine lv_aload_n hx hb d_M_clear_205 rfl (lv_at hl 0 rfl) ?_
  refine ug_I hx hb ht hown hM hK hP 138 (by decide) lk_M_138 (by decide) d_M_clear_206 ?_
  refine lv_icmp_ge (tgt := 325) hx hb d_M_clear_209 (by decide) (fun hc => ?_) (fun hc => ?_)
  · rw [br_p _ hc] at hf
    refine lv_aload_n hx hb d_M_clear_325 rfl (lv_at hl 0 rfl) ?_
    refine ug_R hx hb ht hown hM hK hP 89 (by decide) lk_M_89 (by decide) d_M_clear_326 ?_
    refine lv_iload_n hx hb d_M_clear_329 rfl (lv_at hl 1 rfl) ?_
    refine lv_aload_n hx hb d_M_clear_330 rfl (lv_at hl 0 rfl) ?_
    refine ug_I hx hb ht hown hM hK hP 136 (by decide) lk_M_136 (by decide) d_M_clear_331 ?_
    obtain ⟨hi9, hf⟩ := ck_some hf
    refine us_I hx hb hK hP hD hS (by decide) (by decide) hi9 d_M_clear_334 (fun H locs hP hD hS => ?_)
    obtain ⟨w5, e5, hf⟩ := lt_some hf
    rw [← e5] at hP hD
    refine lv_iconst (v := 0) hx hb d_M_clear_335 (by decide) ?_
    refine lv_istore_n (lv' := [(2, .int 0), (0, .ref h0), (1, .int v1)]) hx hb d_M_clear_336 rfl hl (by decide) rfl (fun ls hl => ?_)
    exact hG.2.2.2.2.2.2 _ _ _ _ hf H locs hP hD hS ls (lv_sub hl [1, 2, 0] rfl)
  · rw [br_n _ hc] at hf
    refine lv_aload_n hx hb d_M_clear_212 rfl (lv_at hl 0 rfl) ?_
    refine ug_R hx hb ht hown hM hK hP 137 (by decide) lk_M_137 (by decide) d_M_clear_213 ?_
    refine lv_iload_n hx hb d_M_clear_216 rfl (lv_at hl 2 rfl) ?_
    obtain ⟨hi9, hf⟩ := ck_some hf
    refine ul_J hx hb hK hP (by decide) (by decide) hi9 d_M_clear_217 ?_
    refine lv_lstore_n (lv' := [(3, .long (u.2.2.2 137 v2.toNatClampNeg)), (0, .ref h0), (1, .int v1), (2, .int v2)]) hx hb d_M_clear_218 rfl hl (by decide) rfl (fun ls hl => ?_)
    refine lv_lload_n hx hb d_M_clear_219 rfl (lv_at hl 0 rfl) ?_
    obtain ⟨u6, r6, hc6, hf⟩ := bnd_some hf
    refine mS_i (As := [.long (u.2.2.2 137 v2.toNatClampNeg)]) (rest := []) C0 hP hD hS (c_M_valueOf N hM hc6) k_M_valueOf hl_M_valueOf ht_M_valueOf hini_M rfl rfl hd_M_valueOf rfl (rm_M_clear_M_valueOf hR) hl.1 (Nat.le_of_ble_eq_true rfl) d_M_clear_220 rfl ⟨Nat.zero_le _, Nat.zero_le _⟩ (fun H locs hP hD hS => ?_)
    refine lv_istore (lv' := [(5, .int r6), (3, .long (u.2.2.2 137 v2.toNatClampNeg)), (0, .ref h0), (1, .int v1), (2, .int v2)]) hx hb d_M_clear_223 hl (by decide) rfl (fun ls hl => ?_)
    refine lv_lload_n hx hb d_M_clear_225 rfl (lv_at hl 1 rfl) ?_
    obtain ⟨u7, r7, hc7, hf⟩ := bnd_some hf
    refine mS_i (As := [.long (u.2.2.2 137 v2.toNatClampNeg)]) (rest := []) C0 hP hD hS (c_M_sortOf N hM hc7) k_M_sortOf hl_M_sortOf ht_M_sortOf hini_M rfl rfl hd_M_sortOf rfl (rm_M_clear_M_sortOf hR) hl.1 (Nat.le_of_ble_eq_true rfl) d_M_clear_226 rfl ⟨Nat.zero_le _, Nat.zero_le _⟩ (fun H locs hP hD hS => ?_)
    refine lv_istore (lv' := [(6, .int r7), (5, .int r6), (3, .long (u.2.2.2 137 v2.toNatClampNeg)), (0, .ref h0), (1, .int v1), (2, .int v2)]) hx hb d_M_clear_229 hl (by decide) rfl (fun ls hl => ?_)
    refine lv_iload hx hb d_M_clear_231 (lv_at hl 0 rfl) ?_
    refine lv_bipush (v := 7) hx hb d_M_clear_233 (by decide) ?_
    refine lv_icmp_ne (tgt := 242) hx hb d_M_clear_235 (by decide) (fun hc => ?_) (fun hc => ?_)
    · rw [br_n _ hc] at hf
      refine lv_iload hx hb d_M_clear_242 (lv_at hl 0 rfl) ?_
      refine lv_iconst (v := 5) hx hb d_M_clear_244 (by decide) ?_
      refine lv_icmp_ne (tgt := 261) hx hb d_M_clear_245 (by decide) (fun hc => ?_) (fun hc => ?_)
      · rw [br_n _ hc] at hf
        refine lv_iconst (v := 2) hx hb d_M_clear_261 (by decide) ?_
        refine lv_aload_n hx hb d_M_clear_262 rfl (lv_at hl 3 rfl) ?_
        refine ug_R hx hb ht hown hM hK hP 134 (by decide) lk_M_134 (by decide) d_M_clear_263 ?_
        refine lv_iload hx hb d_M_clear_266 (lv_at hl 1 rfl) ?_
        refine lv_iconst (v := 1) hx hb d_M_clear_268 (by decide) ?_
        refine lv_iadd hx hb d_M_clear_269 ?_
        obtain ⟨hi9, hf⟩ := ck_some hf
        refine ul_J hx hb hK hP (by decide) (by decide) hi9 d_M_clear_270 ?_
        refine lv_l2i hx hb d_M_clear_271 rfl ?_
        refine lv_iadd hx hb d_M_clear_272 ?_
        exact wb_M_clear_273 C0 hR N G hG _ _ _ _ _ _ _ hf H locs hP hD hS ls (lv_sub hl [3, 4, 5, 2, 1] rfl)
      · rw [br_p _ hc] at hf
        refine lv_iconst (v := 1) hx hb d_M_clear_248 (by decide) ?_
        refine lv_aload_n hx hb d_M_clear_249 rfl (lv_at hl 3 rfl) ?_
        refine ug_R hx hb ht hown hM hK hP 134 (by decide) lk_M_134 (by decide) d_M_clear_250 ?_
        refine lv_iload hx hb d_M_clear_253 (lv_at hl 1 rfl) ?_
        obtain ⟨hi9, hf⟩ := ck_some hf
        refine ul_J hx hb hK hP (by decide) (by decide) hi9 d_M_clear_255 ?_
        refine lv_l2i hx hb d_M_clear_256 rfl ?_
        refine lv_iadd hx hb d_M_clear_257 ?_
        refine lv_goto (tgt := 273) hx hb d_M_clear_258 (by decide) ?_
        exact wb_M_clear_273 C0 hR N G hG _ _ _ _ _ _ _ hf H locs hP hD hS ls (lv_sub hl [3, 4, 5, 2, 1] rfl)
    · rw [br_p _ hc] at hf
      refine lv_iconst (v := 2) hx hb d_M_clear_238 (by decide) ?_
      refine lv_goto (tgt := 273) hx hb d_M_clear_239 (by decide) ?_
      exact wb_M_clear_273 C0 hR N G hG _ _ _ _ _ _ _ hf H locs hP hD hS ls (lv_sub hl [3, 4, 5, 2, 1] rfl)
def fb_M_clear_202 (N : Nat) (G : (MS → Int32 → Int32 → Option (MS × Unit)) × (MS → Int32 → Int32 → Option (MS × Unit)) × (MS → Int32 → Int32 → Option (MS × Unit)) × (MS → Int32 → Int32 → Option (MS × Unit)) × (MS → Int32 → Int32 → Option (MS × Unit)) × (MS → Int32 → Int32 → Int32 → Int32 → Int32 → Option (MS × Unit)) × (MS → Int32 → Int32 → Option (MS × Unit))) (u : MS) (v1 : Int32) : Option (MS × Unit) := G.2.2.2.2.1 u (v1) (0)
set_option maxRecDepth 100000 in
set_option maxHeartbeats 4000000 in
theorem wb_M_clear_202 {p : Program} {l : Launch} {e : Env} {R : Room} {s : State} {m : MethodId} {args : Array Value} {below : List Frame} {meth : Method} {c : Code} {D : va_G} {cl : List vw_C} {cB cI cJ cZ cS : ClassId} {A : Nat → Prop} {iM h0 : Nat} {ad : Nat → Nat} (C0 : MCx p s m args meth c b_M_clear 9 none D cl cB cI cJ cZ cS iM A) (hR : R = rm_M_clear) (N : Nat) (G : (MS → Int32 → Int32 → Option (MS × Unit)) × (MS → Int32 → Int32 → Option (MS × Unit)) × (MS → Int32 → Int32 → Option (MS × Unit)) × (MS → Int32 → Int32 → Option (MS × Unit)) × (MS → Int32 → Int32 → Option (MS × Unit)) × (MS → Int32 → Int32 → Int32 → Int32 → Int32 → Option (MS × Unit)) × (MS → Int32 → Int32 → Option (MS × Unit))) (hG : (∀ (u : MS) (v1 : Int32) (v2 : Int32) (x : MS × Unit), G.1 u v1 v2 = some x → ∀ (H : Heap) (locs : List Loc), va_P D cl (wM cB cI cJ cZ cS iM h0 ad u) H → va_D A (wM cB cI cJ cZ cS iM h0 ad u) → va_S A s.heap H locs → ∀ (ls : Array Slot), lv_has ls 9 [(0, .ref h0), (1, .int v1), (2, .int v2)] → W p l e R s m args below meth c H locs 0 0 (MQ below (mQv D cl cB cI cJ cZ cS iM h0 ad A x) args s 0 0 A) (F0 m 22 ls [])) ∧ (∀ (u : MS) (v1 : Int32) (v2 : Int32) (x : MS × Unit), G.2.1 u v1 v2 = some x → ∀ (H : Heap) (locs : List Loc), va_P D cl (wM cB cI cJ cZ cS iM h0 ad u) H → va_D A (wM cB cI cJ cZ cS iM h0 ad u) → va_S A s.heap H locs → ∀ (ls : Array Slot), lv_has ls 9 [(0, .ref h0), (1, .int v1), (2, .int v2)] → W p l e R s m args below meth c H locs 0 0 (MQ below (mQv D cl cB cI cJ cZ cS iM h0 ad A x) args s 0 0 A) (F0 m 44 ls [])) ∧ (∀ (u : MS) (v1 : Int32) (v2 : Int32) (x : MS × Unit), G.2.2.1 u v1 v2 = some x → ∀ (H : Heap) (locs : List Loc), va_P D cl (wM cB cI cJ cZ cS iM h0 ad u) H → va_D A (wM cB cI cJ cZ cS iM h0 ad u) → va_S A s.heap H locs → ∀ (ls : Array Slot), lv_has ls 9 [(0, .ref h0), (1, .int v1), (2, .int v2)] → W p l e R s m args below meth c H locs 0 0 (MQ below (mQv D cl cB cI cJ cZ cS iM h0 ad A x) args s 0 0 A) (F0 m 91 ls [])) ∧ (∀ (u : MS) (v1 : Int32) (v2 : Int32) (x : MS × Unit), G.2.2.2.1 u v1 v2 = some x → ∀ (H : Heap) (locs : List Loc), va_P D cl (wM cB cI cJ cZ cS iM h0 ad u) H → va_D A (wM cB cI cJ cZ cS iM h0 ad u) → va_S A s.heap H locs → ∀ (ls : Array Slot), lv_has ls 9 [(0, .ref h0), (1, .int v1), (2, .int v2)] → W p l e R s m args below meth c H locs 0 0 (MQ below (mQv D cl cB cI cJ cZ cS iM h0 ad A x) args s 0 0 A) (F0 m 138 ls [])) ∧ (∀ (u : MS) (v1 : Int32) (v2 : Int32) (x : MS × Unit), G.2.2.2.2.1 u v1 v2 = some x → ∀ (H : Heap) (locs : List Loc), va_P D cl (wM cB cI cJ cZ cS iM h0 ad u) H → va_D A (wM cB cI cJ cZ cS iM h0 ad u) → va_S A s.heap H locs → ∀ (ls : Array Slot), lv_has ls 9 [(0, .ref h0), (1, .int v1), (2, .int v2)] → W p l e R s m args below meth c H locs 0 0 (MQ below (mQv D cl cB cI cJ cZ cS iM h0 ad A x) args s 0 0 A) (F0 m 204 ls [])) ∧ (∀ (u : MS) (v1 : Int32) (v2 : Int32) (v5 : Int32) (v7 : Int32) (v8 : Int32) (x : MS × Unit), G.2.2.2.2.2.1 u v1 v2 v5 v7 v8 = some x → ∀ (H : Heap) (locs : List Loc), va_P D cl (wM cB cI cJ cZ cS iM h0 ad u) H → va_D A (wM cB cI cJ cZ cS iM h0 ad u) → va_S A s.heap H locs → ∀ (ls : Array Slot), lv_has ls 9 [(0, .ref h0), (1, .int v1), (2, .int v2), (5, .int v5), (7, .int v7), (8, .int v8)] → W p l e R s m args below meth c H locs 0 0 (MQ below (mQv D cl cB cI cJ cZ cS iM h0 ad A x) args s 0 0 A) (F0 m 281 ls [])) ∧ (∀ (u : MS) (v1 : Int32) (v2 : Int32) (x : MS × Unit), G.2.2.2.2.2.2 u v1 v2 = some x → ∀ (H : Heap) (locs : List Loc), va_P D cl (wM cB cI cJ cZ cS iM h0 ad u) H → va_D A (wM cB cI cJ cZ cS iM h0 ad u) → va_S A s.heap H locs → ∀ (ls : Array Slot), lv_has ls 9 [(0, .ref h0), (1, .int v1), (2, .int v2)] → W p l e R s m args below meth c H locs 0 0 (MQ below (mQv D cl cB cI cJ cZ cS iM h0 ad A x) args s 0 0 A) (F0 m 337 ls []))) : ∀ (u : MS) (v1 : Int32) (x : MS × Unit), fb_M_clear_202 N G u v1 = some x → ∀ (H : Heap) (locs : List Loc), va_P D cl (wM cB cI cJ cZ cS iM h0 ad u) H → va_D A (wM cB cI cJ cZ cS iM h0 ad u) → va_S A s.heap H locs → ∀ (ls : Array Slot), lv_has ls 9 [(0, .ref h0), (1, .int v1)] → W p l e R s m args below meth c H locs 0 0 (MQ below (mQv D cl cB cI cJ cZ cS iM h0 ad A x) args s 0 0 A) (F0 m 202 ls []) := by
  intro u v1 x hf H locs hP hD hS ls hl
  obtain ⟨hx, hb, hr, hml, ht, hown, hM, hK, hA, hlocks⟩ := id C0
  unfold fb_M_clear_202 at hf
  refine lv_iconst (v := 0) hx hb d_M_clear_202 (by decide) ?_
  refine lv_istore_n (lv' := [(2, .int 0), (0, .ref h0), (1, .int v1)]) hx hb d_M_clear_203 rfl hl (by decide) rfl (fun ls hl => ?_)
  exact hG.2.2.2.2.1 _ _ _ _ hf H locs hP hD hS ls (lv_sub hl [1, 2, 0] rfl)
def fb_M_clear_138 (N : Nat) (G : (MS → Int32 → Int32 → Option (MS × Unit)) × (MS → Int32 → Int32 → Option (MS × Unit)) × (MS → Int32 → Int32 → Option (MS × Unit)) × (MS → Int32 → Int32 → Option (MS × Unit)) × (MS → Int32 → Int32 → Option (MS × Unit)) × (MS → Int32 → Int32 → Int32 → Int32 → Int32 → Option (MS × Unit)) × (MS → Int32 → Int32 → Option (MS × Unit))) (u : MS) (v1 : Int32) (v2 : Int32) : Option (MS × Unit) := ck (inb v1 (ln 108)) (br (decide ((u.2.2.1 108 v1.toNatClampNeg) ≤ v2)) (br (decide ((u.1 140) = v1)) (bnd (fm_M_carried N u v1 (u.2.1 139)) (fun u8 r8 => lt (upL u8 139 r8) (fun w9 => fb_M_clear_202 N G w9 (v1)))) (fb_M_clear_202 N G u (v1))) (ck (inb ((v1 * 30) + v2) (ln 107)) (bnd (fm_M_carried N u v1 (u.2.2.2 107 ((v1 * 30) + v2).toNatClampNeg)) (fun u10 r10 => ck (inb ((v1 * 30) + v2) (ln 107)) (lt (upJ u10 107 (vp_updL (u10.2.2.2 107) ((v1 * 30) + v2).toNatClampNeg r10)) (fun w11 => G.2.2.2.1 w11 (v1) ((v2 + 1))))))))
set_option maxRecDepth 100000 in
set_option maxHeartbeats 4000000 in
theorem wb_M_clear_138 {p : Program} {l : Launch} {e : Env} {R : Room} {s : State} {m : MethodId} {args : Array Value} {below : List Frame} {meth : Method} {c : Code} {D : va_G} {cl : List vw_C} {cB cI cJ cZ cS : ClassId} {A : Nat → Prop} {iM h0 : Nat} {ad : Nat → Nat} (C0 : MCx p s m args meth c b_M_clear 9 none D cl cB cI cJ cZ cS iM A) (hR : R = rm_M_clear) (N : Nat) (G : (MS → Int32 → Int32 → Option (MS × Unit)) × (MS → Int32 → Int32 → Option (MS × Unit)) × (MS → Int32 → Int32 → Option (MS × Unit)) × (MS → Int32 → Int32 → Option (MS × Unit)) × (MS → Int32 → Int32 → Option (MS × Unit)) × (MS → Int32 → Int32 → Int32 → Int32 → Int32 → Option (MS × Unit)) × (MS → Int32 → Int32 → Option (MS × Unit))) (hG : (∀ (u : MS) (v1 : Int32) (v2 : Int32) (x : MS × Unit), G.1 u v1 v2 = some x → ∀ (H : Heap) (locs : List Loc), va_P D cl (wM cB cI cJ cZ cS iM h0 ad u) H → va_D A (wM cB cI cJ cZ cS iM h0 ad u) → va_S A s.heap H locs → ∀ (ls : Array Slot), lv_has ls 9 [(0, .ref h0), (1, .int v1), (2, .int v2)] → W p l e R s m args below meth c H locs 0 0 (MQ below (mQv D cl cB cI cJ cZ cS iM h0 ad A x) args s 0 0 A) (F0 m 22 ls [])) ∧ (∀ (u : MS) (v1 : Int32) (v2 : Int32) (x : MS × Unit), G.2.1 u v1 v2 = some x → ∀ (H : Heap) (locs : List Loc), va_P D cl (wM cB cI cJ cZ cS iM h0 ad u) H → va_D A (wM cB cI cJ cZ cS iM h0 ad u) → va_S A s.heap H locs → ∀ (ls : Array Slot), lv_has ls 9 [(0, .ref h0), (1, .int v1), (2, .int v2)] → W p l e R s m args below meth c H locs 0 0 (MQ below (mQv D cl cB cI cJ cZ cS iM h0 ad A x) args s 0 0 A) (F0 m 44 ls [])) ∧ (∀ (u : MS) (v1 : Int32) (v2 : Int32) (x : MS × Unit), G.2.2.1 u v1 v2 = some x → ∀ (H : Heap) (locs : List Loc), va_P D cl (wM cB cI cJ cZ cS iM h0 ad u) H → va_D A (wM cB cI cJ cZ cS iM h0 ad u) → va_S A s.heap H locs → ∀ (ls : Array Slot), lv_has ls 9 [(0, .ref h0), (1, .int v1), (2, .int v2)] → W p l e R s m args below meth c H locs 0 0 (MQ below (mQv D cl cB cI cJ cZ cS iM h0 ad A x) args s 0 0 A) (F0 m 91 ls [])) ∧ (∀ (u : MS) (v1 : Int32) (v2 : Int32) (x : MS × Unit), G.2.2.2.1 u v1 v2 = some x → ∀ (H : Heap) (locs : List Loc), va_P D cl (wM cB cI cJ cZ cS iM h0 ad u) H → va_D A (wM cB cI cJ cZ cS iM h0 ad u) → va_S A s.heap H locs → ∀ (ls : Array Slot), lv_has ls 9 [(0, .ref h0), (1, .int v1), (2, .int v2)] → W p l e R s m args below meth c H locs 0 0 (MQ below (mQv D cl cB cI cJ cZ cS iM h0 ad A x) args s 0 0 A) (F0 m 138 ls [])) ∧ (∀ (u : MS) (v1 : Int32) (v2 : Int32) (x : MS × Unit), G.2.2.2.2.1 u v1 v2 = some x → ∀ (H : Heap) (locs : List Loc), va_P D cl (wM cB cI cJ cZ cS iM h0 ad u) H → va_D A (wM cB cI cJ cZ cS iM h0 ad u) → va_S A s.heap H locs → ∀ (ls : Array Slot), lv_has ls 9 [(0, .ref h0), (1, .int v1), (2, .int v2)] → W p l e R s m args below meth c H locs 0 0 (MQ below (mQv D cl cB cI cJ cZ cS iM h0 ad A x) args s 0 0 A) (F0 m 204 ls [])) ∧ (∀ (u : MS) (v1 : Int32) (v2 : Int32) (v5 : Int32) (v7 : Int32) (v8 : Int32) (x : MS × Unit), G.2.2.2.2.2.1 u v1 v2 v5 v7 v8 = some x → ∀ (H : Heap) (locs : List Loc), va_P D cl (wM cB cI cJ cZ cS iM h0 ad u) H → va_D A (wM cB cI cJ cZ cS iM h0 ad u) → va_S A s.heap H locs → ∀ (ls : Array Slot), lv_has ls 9 [(0, .ref h0), (1, .int v1), (2, .int v2), (5, .int v5), (7, .int v7), (8, .int v8)] → W p l e R s m args below meth c H locs 0 0 (MQ below (mQv D cl cB cI cJ cZ cS iM h0 ad A x) args s 0 0 A) (F0 m 281 ls [])) ∧ (∀ (u : MS) (v1 : Int32) (v2 : Int32) (x : MS × Unit), G.2.2.2.2.2.2 u v1 v2 = some x → ∀ (H : Heap) (locs : List Loc), va_P D cl (wM cB cI cJ cZ cS iM h0 ad u) H → va_D A (wM cB cI cJ cZ cS iM h0 ad u) → va_S A s.heap H locs → ∀ (ls : Array Slot), lv_has ls 9 [(0, .ref h0), (1, .int v1), (2, .int v2)] → W p l e R s m args below meth c H locs 0 0 (MQ below (mQv D cl cB cI cJ cZ cS iM h0 ad A x) args s 0 0 A) (F0 m 337 ls []))) : ∀ (u : MS) (v1 : Int32) (v2 : Int32) (x : MS × Unit), fb_M_clear_138 N G u v1 v2 = some x → ∀ (H : Heap) (locs : List Loc), va_P D cl (wM cB cI cJ cZ cS iM h0 ad u) H → va_D A (wM cB cI cJ cZ cS iM h0 ad u) → va_S A s.heap H locs → ∀ (ls : Array Slot), lv_has ls 9 [(0, .ref h0), (1, .int v1), (2, .int v2)] → W p l e R s m args below meth c H locs 0 0 (MQ below (mQv D cl cB cI cJ cZ cS iM h0 ad A x) args s 0 0 A) (F0 m 138 ls []) := by
  intro u v1 v2 x hf H locs hP hD hS ls hl
  obtain ⟨hx, hb, hr, hml, ht, hown, hM, hK, hA, hlocks⟩ := id C0
  unfold fb_M_clear_138 at hf
  refine lv_iload_n hx hb d_M_clear_138 rfl (lv_at hl 2 rfl) ?_
  refine lv_aload_n hx hb d_M_clear_139 rfl (lv_at hl 0 rfl) ?_
  refine ug_R hx hb ht hown hM hK hP 108 (by decide) lk_M_108 (by decide) d_M_clear_140 ?_
  refine lv_iload_n hx hb d_M_clear_143 rfl (lv_at hl 1 rfl) ?_
  obtain ⟨hi9, hf⟩ := ck_some hf
  refine ul_I hx hb hK hP (by decide) (by decide) hi9 d_M_clear_144 ?_
  refine lv_icmp_ge (tgt := 181) hx hb d_M_clear_145 (by decide) (fun hc => ?_) (fun hc => ?_)
  · rw [br_p _ hc] at hf
    refine lv_aload_n hx hb d_M_clear_181 rfl (lv_at hl 0 rfl) ?_
    refine ug_I hx hb ht hown hM hK hP 140 (by decide) lk_M_140 (by decide) d_M_clear_182 ?_
    refine lv_iload_n hx hb d_M_clear_185 rfl (lv_at hl 1 rfl) ?_
    refine lv_icmp_ne (tgt := 202) hx hb d_M_clear_186 (by decide) (fun hc => ?_) (fun hc => ?_)
    · rw [br_n _ hc] at hf
      exact wb_M_clear_202 C0 hR N G hG _ _ _ hf H locs hP hD hS ls (lv_sub hl [0, 1] rfl)
    · rw [br_p _ hc] at hf
      refine lv_aload_n hx hb d_M_clear_189 rfl (lv_at hl 0 rfl) ?_
      refine lv_aload_n hx hb d_M_clear_190 rfl (lv_at hl 0 rfl) ?_
      refine lv_iload_n hx hb d_M_clear_191 rfl (lv_at hl 1 rfl) ?_
      refine lv_aload_n hx hb d_M_clear_192 rfl (lv_at hl 0 rfl) ?_
      refine ug_L hx hb ht hown hM hK hP 139 (by decide) lk_M_139 (by decide) d_M_clear_193 ?_
      obtain ⟨u8, r8, hc8, hf⟩ := bnd_some hf
      refine mV_l (As := [.int v1, .long (u.2.1 139)]) (rest := [.ref h0]) C0 hP hD hS (c_M_carried N hM hc8) k_M_carried hl_M_carried hi_M_carried hs_M_carried hini_M rfl rfl hd_M_carried rfl (rm_M_clear_M_carried hR) hl.1 (Nat.le_of_ble_eq_true rfl) d_M_clear_196 rfl ⟨Nat.zero_le _, Nat.zero_le _⟩ (fun H locs hP hD hS => ?_)
      refine up_L hx hb ht hown hM hK hP hD hS 139 (by decide) lk_M_139 (by decide) rfl rfl rfl d_M_clear_199 (fun H locs hP hD hS => ?_)
      obtain ⟨w9, e9, hf⟩ := lt_some hf
      rw [← e9] at hP hD
      exact wb_M_clear_202 C0 hR N G hG _ _ _ hf H locs hP hD hS ls (lv_sub hl [0, 1] rfl)
  · rw [br_n _ hc] at hf
    refine lv_aload_n hx hb d_M_clear_148 rfl (lv_at hl 0 rfl) ?_
    refine ug_R hx hb ht hown hM hK hP 107 (by decide) lk_M_107 (by decide) d_M_clear_149 ?_
    refine lv_iload_n hx hb d_M_clear_152 rfl (lv_at hl 1 rfl) ?_
    refine lv_bipush (v := 30) hx hb d_M_clear_153 (by decide) ?_
    refine lv_imul hx hb d_M_clear_155 ?_
    refine lv_iload_n hx hb d_M_clear_156 rfl (lv_at hl 2 rfl) ?_
    refine lv_iadd hx hb d_M_clear_157 ?_
    refine lv_aload_n hx hb d_M_clear_158 rfl (lv_at hl 0 rfl) ?_
    refine lv_iload_n hx hb d_M_clear_159 rfl (lv_at hl 1 rfl) ?_
    refine lv_aload_n hx hb d_M_clear_160 rfl (lv_at hl 0 rfl) ?_
    refine ug_R hx hb ht hown hM hK hP 107 (by decide) lk_M_107 (by decide) d_M_clear_161 ?_
    refine lv_iload_n hx hb d_M_clear_164 rfl (lv_at hl 1 rfl) ?_
    refine lv_bipush (v := 30) hx hb d_M_clear_165 (by decide) ?_
    refine lv_imul hx hb d_M_clear_167 ?_
    refine lv_iload_n hx hb d_M_clear_168 rfl (lv_at hl 2 rfl) ?_
    refine lv_iadd hx hb d_M_clear_169 ?_
    obtain ⟨hi9, hf⟩ := ck_some hf
    refine ul_J hx hb hK hP (by decide) (by decide) hi9 d_M_clear_170 ?_
    obtain ⟨u10, r10, hc10, hf⟩ := bnd_some hf
    refine mV_l (As := [.int v1, .long (u.2.2.2 107 ((v1 * 30) + v2).toNatClampNeg)]) (rest := [.int ((v1 * 30) + v2), .ref (ad 107)]) C0 hP hD hS (c_M_carried N hM hc10) k_M_carried hl_M_carried hi_M_carried hs_M_carried hini_M rfl rfl hd_M_carried rfl (rm_M_clear_M_carried hR) hl.1 (Nat.le_of_ble_eq_true rfl) d_M_clear_171 rfl ⟨Nat.zero_le _, Nat.zero_le _⟩ (fun H locs hP hD hS => ?_)
    obtain ⟨hi9, hf⟩ := ck_some hf
    refine us_J hx hb hK hP hD hS (by decide) (by decide) hi9 d_M_clear_174 (fun H locs hP hD hS => ?_)
    obtain ⟨w11, e11, hf⟩ := lt_some hf
    rw [← e11] at hP hD
    refine lv_iinc (v := (v2 + 1)) (lv' := [(2, .int (v2 + 1)), (0, .ref h0), (1, .int v1)]) hx hb d_M_clear_175 hl (k := 2) rfl rfl (by decide) rfl (fun ls hl => ?_)
    refine lv_goto (tgt := 138) hx hb d_M_clear_178 (by decide) ?_
    exact hG.2.2.2.1 _ _ _ _ hf H locs hP hD hS ls (lv_sub hl [1, 2, 0] rfl)
def fb_M_clear_91 (N : Nat) (G : (MS → Int32 → Int32 → Option (MS × Unit)) × (MS → Int32 → Int32 → Option (MS × Unit)) × (MS → Int32 → Int32 → Option (MS × Unit)) × (MS → Int32 → Int32 → Option (MS × Unit)) × (MS → Int32 → Int32 → Option (MS × Unit)) × (MS → Int32 → Int32 → Int32 → Int32 → Int32 → Option (MS × Unit)) × (MS → Int32 → Int32 → Option (MS × Unit))) (u : MS) (v1 : Int32) (v2 : Int32) : Option (MS × Unit) := ck (inb v1 (ln 94)) (br (decide ((u.2.2.1 94 v1.toNatClampNeg) ≤ v2)) (G.2.2.2.1 u (v1) (0)) (ck (inb ((v1 * 2500) + v2) (ln 93)) (bnd (fm_M_carried N u v1 (u.2.2.2 93 ((v1 * 2500) + v2).toNatClampNeg)) (fun u12 r12 => ck (inb ((v1 * 2500) + v2) (ln 93)) (lt (upJ u12 93 (vp_updL (u12.2.2.2 93) ((v1 * 2500) + v2).toNatClampNeg r12)) (fun w13 => G.2.2.1 w13 (v1) ((v2 + 1))))))))
set_option maxRecDepth 100000 in
set_option maxHeartbeats 4000000 in
theorem wb_M_clear_91 {p : Program} {l : Launch} {e : Env} {R : Room} {s : State} {m : MethodId} {args : Array Value} {below : List Frame} {meth : Method} {c : Code} {D : va_G} {cl : List vw_C} {cB cI cJ cZ cS : ClassId} {A : Nat → Prop} {iM h0 : Nat} {ad : Nat → Nat} (C0 : MCx p s m args meth c b_M_clear 9 none D cl cB cI cJ cZ cS iM A) (hR : R = rm_M_clear) (N : Nat) (G : (MS → Int32 → Int32 → Option (MS × Unit)) × (MS → Int32 → Int32 → Option (MS × Unit)) × (MS → Int32 → Int32 → Option (MS × Unit)) × (MS → Int32 → Int32 → Option (MS × Unit)) × (MS → Int32 → Int32 → Option (MS × Unit)) × (MS → Int32 → Int32 → Int32 → Int32 → Int32 → Option (MS × Unit)) × (MS → Int32 → Int32 → Option (MS × Unit))) (hG : (∀ (u : MS) (v1 : Int32) (v2 : Int32) (x : MS × Unit), G.1 u v1 v2 = some x → ∀ (H : Heap) (locs : List Loc), va_P D cl (wM cB cI cJ cZ cS iM h0 ad u) H → va_D A (wM cB cI cJ cZ cS iM h0 ad u) → va_S A s.heap H locs → ∀ (ls : Array Slot), lv_has ls 9 [(0, .ref h0), (1, .int v1), (2, .int v2)] → W p l e R s m args below meth c H locs 0 0 (MQ below (mQv D cl cB cI cJ cZ cS iM h0 ad A x) args s 0 0 A) (F0 m 22 ls [])) ∧ (∀ (u : MS) (v1 : Int32) (v2 : Int32) (x : MS × Unit), G.2.1 u v1 v2 = some x → ∀ (H : Heap) (locs : List Loc), va_P D cl (wM cB cI cJ cZ cS iM h0 ad u) H → va_D A (wM cB cI cJ cZ cS iM h0 ad u) → va_S A s.heap H locs → ∀ (ls : Array Slot), lv_has ls 9 [(0, .ref h0), (1, .int v1), (2, .int v2)] → W p l e R s m args below meth c H locs 0 0 (MQ below (mQv D cl cB cI cJ cZ cS iM h0 ad A x) args s 0 0 A) (F0 m 44 ls [])) ∧ (∀ (u : MS) (v1 : Int32) (v2 : Int32) (x : MS × Unit), G.2.2.1 u v1 v2 = some x → ∀ (H : Heap) (locs : List Loc), va_P D cl (wM cB cI cJ cZ cS iM h0 ad u) H → va_D A (wM cB cI cJ cZ cS iM h0 ad u) → va_S A s.heap H locs → ∀ (ls : Array Slot), lv_has ls 9 [(0, .ref h0), (1, .int v1), (2, .int v2)] → W p l e R s m args below meth c H locs 0 0 (MQ below (mQv D cl cB cI cJ cZ cS iM h0 ad A x) args s 0 0 A) (F0 m 91 ls [])) ∧ (∀ (u : MS) (v1 : Int32) (v2 : Int32) (x : MS × Unit), G.2.2.2.1 u v1 v2 = some x → ∀ (H : Heap) (locs : List Loc), va_P D cl (wM cB cI cJ cZ cS iM h0 ad u) H → va_D A (wM cB cI cJ cZ cS iM h0 ad u) → va_S A s.heap H locs → ∀ (ls : Array Slot), lv_has ls 9 [(0, .ref h0), (1, .int v1), (2, .int v2)] → W p l e R s m args below meth c H locs 0 0 (MQ below (mQv D cl cB cI cJ cZ cS iM h0 ad A x) args s 0 0 A) (F0 m 138 ls [])) ∧ (∀ (u : MS) (v1 : Int32) (v2 : Int32) (x : MS × Unit), G.2.2.2.2.1 u v1 v2 = some x → ∀ (H : Heap) (locs : List Loc), va_P D cl (wM cB cI cJ cZ cS iM h0 ad u) H → va_D A (wM cB cI cJ cZ cS iM h0 ad u) → va_S A s.heap H locs → ∀ (ls : Array Slot), lv_has ls 9 [(0, .ref h0), (1, .int v1), (2, .int v2)] → W p l e R s m args below meth c H locs 0 0 (MQ below (mQv D cl cB cI cJ cZ cS iM h0 ad A x) args s 0 0 A) (F0 m 204 ls [])) ∧ (∀ (u : MS) (v1 : Int32) (v2 : Int32) (v5 : Int32) (v7 : Int32) (v8 : Int32) (x : MS × Unit), G.2.2.2.2.2.1 u v1 v2 v5 v7 v8 = some x → ∀ (H : Heap) (locs : List Loc), va_P D cl (wM cB cI cJ cZ cS iM h0 ad u) H → va_D A (wM cB cI cJ cZ cS iM h0 ad u) → va_S A s.heap H locs → ∀ (ls : Array Slot), lv_has ls 9 [(0, .ref h0), (1, .int v1), (2, .int v2), (5, .int v5), (7, .int v7), (8, .int v8)] → W p l e R s m args below meth c H locs 0 0 (MQ below (mQv D cl cB cI cJ cZ cS iM h0 ad A x) args s 0 0 A) (F0 m 281 ls [])) ∧ (∀ (u : MS) (v1 : Int32) (v2 : Int32) (x : MS × Unit), G.2.2.2.2.2.2 u v1 v2 = some x → ∀ (H : Heap) (locs : List Loc), va_P D cl (wM cB cI cJ cZ cS iM h0 ad u) H → va_D A (wM cB cI cJ cZ cS iM h0 ad u) → va_S A s.heap H locs → ∀ (ls : Array Slot), lv_has ls 9 [(0, .ref h0), (1, .int v1), (2, .int v2)] → W p l e R s m args below meth c H locs 0 0 (MQ below (mQv D cl cB cI cJ cZ cS iM h0 ad A x) args s 0 0 A) (F0 m 337 ls []))) : ∀ (u : MS) (v1 : Int32) (v2 : Int32) (x : MS × Unit), fb_M_clear_91 N G u v1 v2 = some x → ∀ (H : Heap) (locs : List Loc), va_P D cl (wM cB cI cJ cZ cS iM h0 ad u) H → va_D A (wM cB cI cJ cZ cS iM h0 ad u) → va_S A s.heap H locs → ∀ (ls : Array Slot), lv_has ls 9 [(0, .ref h0), (1, .int v1), (2, .int v2)] → W p l e R s m args below meth c H locs 0 0 (MQ below (mQv D cl cB cI cJ cZ cS iM h0 ad A x) args s 0 0 A) (F0 m 91 ls []) := by
  intro u v1 v2 x hf H locs hP hD hS ls hl
  obtain ⟨hx, hb, hr, hml, ht, hown, hM, hK, hA, hlocks⟩ := id C0
  unfold fb_M_clear_91 at hf
  refine lv_iload_n hx hb d_M_clear_91 rfl (lv_at hl 2 rfl) ?_
  refine lv_aload_n hx hb d_M_clear_92 rfl (lv_at hl 0 rfl) ?_
  refine ug_R hx hb ht hown hM hK hP 94 (by decide) lk_M_94 (by decide) d_M_clear_93 ?_
  refine lv_iload_n hx hb d_M_clear_96 rfl (lv_at hl 1 rfl) ?_
  obtain ⟨hi9, hf⟩ := ck_some hf
  refine ul_I hx hb hK hP (by decide) (by decide) hi9 d_M_clear_97 ?_
  refine lv_icmp_ge (tgt := 136) hx hb d_M_clear_98 (by decide) (fun hc => ?_) (fun hc => ?_)
  · rw [br_p _ hc] at hf
    refine lv_iconst (v := 0) hx hb d_M_clear_136 (by decide) ?_
    refine lv_istore_n (lv' := [(2, .int 0), (0, .ref h0), (1, .int v1)]) hx hb d_M_clear_137 rfl hl (by decide) rfl (fun ls hl => ?_)
    exact hG.2.2.2.1 _ _ _ _ hf H locs hP hD hS ls (lv_sub hl [1, 2, 0] rfl)
  · rw [br_n _ hc] at hf
    refine lv_aload_n hx hb d_M_clear_101 rfl (lv_at hl 0 rfl) ?_
    refine ug_R hx hb ht hown hM hK hP 93 (by decide) lk_M_93 (by decide) d_M_clear_102 ?_
    refine lv_iload_n hx hb d_M_clear_105 rfl (lv_at hl 1 rfl) ?_
    refine lv_sipush (v := 2500) hx hb d_M_clear_106 (by decide) ?_
    refine lv_imul hx hb d_M_clear_109 ?_
    refine lv_iload_n hx hb d_M_clear_110 rfl (lv_at hl 2 rfl) ?_
    refine lv_iadd hx hb d_M_clear_111 ?_
    refine lv_aload_n hx hb d_M_clear_112 rfl (lv_at hl 0 rfl) ?_
    refine lv_iload_n hx hb d_M_clear_113 rfl (lv_at hl 1 rfl) ?_
    refine lv_aload_n hx hb d_M_clear_114 rfl (lv_at hl 0 rfl) ?_
    refine ug_R hx hb ht hown hM hK hP 93 (by decide) lk_M_93 (by decide) d_M_clear_115 ?_
    refine lv_iload_n hx hb d_M_clear_118 rfl (lv_at hl 1 rfl) ?_
    refine lv_sipush (v := 2500) hx hb d_M_clear_119 (by decide) ?_
    refine lv_imul hx hb d_M_clear_122 ?_
    refine lv_iload_n hx hb d_M_clear_123 rfl (lv_at hl 2 rfl) ?_
    refine lv_iadd hx hb d_M_clear_124 ?_
    obtain ⟨hi9, hf⟩ := ck_some hf
    refine ul_J hx hb hK hP (by decide) (by decide) hi9 d_M_clear_125 ?_
    obtain ⟨u12, r12, hc12, hf⟩ := bnd_some hf
    refine mV_l (As := [.int v1, .long (u.2.2.2 93 ((v1 * 2500) + v2).toNatClampNeg)]) (rest := [.int ((v1 * 2500) + v2), .ref (ad 93)]) C0 hP hD hS (c_M_carried N hM hc12) k_M_carried hl_M_carried hi_M_carried hs_M_carried hini_M rfl rfl hd_M_carried rfl (rm_M_clear_M_carried hR) hl.1 (Nat.le_of_ble_eq_true rfl) d_M_clear_126 rfl ⟨Nat.zero_le _, Nat.zero_le _⟩ (fun H locs hP hD hS => ?_)
    obtain ⟨hi9, hf⟩ := ck_some hf
    refine us_J hx hb hK hP hD hS (by decide) (by decide) hi9 d_M_clear_129 (fun H locs hP hD hS => ?_)
    obtain ⟨w13, e13, hf⟩ := lt_some hf
    rw [← e13] at hP hD
    refine lv_iinc (v := (v2 + 1)) (lv' := [(2, .int (v2 + 1)), (0, .ref h0), (1, .int v1)]) hx hb d_M_clear_130 hl (k := 2) rfl rfl (by decide) rfl (fun ls hl => ?_)
    refine lv_goto (tgt := 91) hx hb d_M_clear_133 (by decide) ?_
    exact hG.2.2.1 _ _ _ _ hf H locs hP hD hS ls (lv_sub hl [1, 2, 0] rfl)
def fb_M_clear_44 (N : Nat) (G : (MS → Int32 → Int32 → Option (MS × Unit)) × (MS → Int32 → Int32 → Option (MS × Unit)) × (MS → Int32 → Int32 → Option (MS × Unit)) × (MS → Int32 → Int32 → Option (MS × Unit)) × (MS → Int32 → Int32 → Option (MS × Unit)) × (MS → Int32 → Int32 → Int32 → Int32 → Int32 → Option (MS × Unit)) × (MS → Int32 → Int32 → Option (MS × Unit))) (u : MS) (v1 : Int32) (v2 : Int32) : Option (MS × Unit) := ck (inb v1 (ln 92)) (br (decide ((u.2.2.1 92 v1.toNatClampNeg) ≤ v2)) (G.2.2.1 u (v1) (0)) (ck (inb ((v1 * 46000) + v2) (ln 91)) (bnd (fm_M_carried N u v1 (u.2.2.2 91 ((v1 * 46000) + v2).toNatClampNeg)) (fun u14 r14 => ck (inb ((v1 * 46000) + v2) (ln 91)) (lt (upJ u14 91 (vp_updL (u14.2.2.2 91) ((v1 * 46000) + v2).toNatClampNeg r14)) (fun w15 => G.2.1 w15 (v1) ((v2 + 1))))))))
set_option maxRecDepth 100000 in
set_option maxHeartbeats 4000000 in
theorem wb_M_clear_44 {p : Program} {l : Launch} {e : Env} {R : Room} {s : State} {m : MethodId} {args : Array Value} {below : List Frame} {meth : Method} {c : Code} {D : va_G} {cl : List vw_C} {cB cI cJ cZ cS : ClassId} {A : Nat → Prop} {iM h0 : Nat} {ad : Nat → Nat} (C0 : MCx p s m args meth c b_M_clear 9 none D cl cB cI cJ cZ cS iM A) (hR : R = rm_M_clear) (N : Nat) (G : (MS → Int32 → Int32 → Option (MS × Unit)) × (MS → Int32 → Int32 → Option (MS × Unit)) × (MS → Int32 → Int32 → Option (MS × Unit)) × (MS → Int32 → Int32 → Option (MS × Unit)) × (MS → Int32 → Int32 → Option (MS × Unit)) × (MS → Int32 → Int32 → Int32 → Int32 → Int32 → Option (MS × Unit)) × (MS → Int32 → Int32 → Option (MS × Unit))) (hG : (∀ (u : MS) (v1 : Int32) (v2 : Int32) (x : MS × Unit), G.1 u v1 v2 = some x → ∀ (H : Heap) (locs : List Loc), va_P D cl (wM cB cI cJ cZ cS iM h0 ad u) H → va_D A (wM cB cI cJ cZ cS iM h0 ad u) → va_S A s.heap H locs → ∀ (ls : Array Slot), lv_has ls 9 [(0, .ref h0), (1, .int v1), (2, .int v2)] → W p l e R s m args below meth c H locs 0 0 (MQ below (mQv D cl cB cI cJ cZ cS iM h0 ad A x) args s 0 0 A) (F0 m 22 ls [])) ∧ (∀ (u : MS) (v1 : Int32) (v2 : Int32) (x : MS × Unit), G.2.1 u v1 v2 = some x → ∀ (H : Heap) (locs : List Loc), va_P D cl (wM cB cI cJ cZ cS iM h0 ad u) H → va_D A (wM cB cI cJ cZ cS iM h0 ad u) → va_S A s.heap H locs → ∀ (ls : Array Slot), lv_has ls 9 [(0, .ref h0), (1, .int v1), (2, .int v2)] → W p l e R s m args below meth c H locs 0 0 (MQ below (mQv D cl cB cI cJ cZ cS iM h0 ad A x) args s 0 0 A) (F0 m 44 ls [])) ∧ (∀ (u : MS) (v1 : Int32) (v2 : Int32) (x : MS × Unit), G.2.2.1 u v1 v2 = some x → ∀ (H : Heap) (locs : List Loc), va_P D cl (wM cB cI cJ cZ cS iM h0 ad u) H → va_D A (wM cB cI cJ cZ cS iM h0 ad u) → va_S A s.heap H locs → ∀ (ls : Array Slot), lv_has ls 9 [(0, .ref h0), (1, .int v1), (2, .int v2)] → W p l e R s m args below meth c H locs 0 0 (MQ below (mQv D cl cB cI cJ cZ cS iM h0 ad A x) args s 0 0 A) (F0 m 91 ls [])) ∧ (∀ (u : MS) (v1 : Int32) (v2 : Int32) (x : MS × Unit), G.2.2.2.1 u v1 v2 = some x → ∀ (H : Heap) (locs : List Loc), va_P D cl (wM cB cI cJ cZ cS iM h0 ad u) H → va_D A (wM cB cI cJ cZ cS iM h0 ad u) → va_S A s.heap H locs → ∀ (ls : Array Slot), lv_has ls 9 [(0, .ref h0), (1, .int v1), (2, .int v2)] → W p l e R s m args below meth c H locs 0 0 (MQ below (mQv D cl cB cI cJ cZ cS iM h0 ad A x) args s 0 0 A) (F0 m 138 ls [])) ∧ (∀ (u : MS) (v1 : Int32) (v2 : Int32) (x : MS × Unit), G.2.2.2.2.1 u v1 v2 = some x → ∀ (H : Heap) (locs : List Loc), va_P D cl (wM cB cI cJ cZ cS iM h0 ad u) H → va_D A (wM cB cI cJ cZ cS iM h0 ad u) → va_S A s.heap H locs → ∀ (ls : Array Slot), lv_has ls 9 [(0, .ref h0), (1, .int v1), (2, .int v2)] → W p l e R s m args below meth c H locs 0 0 (MQ below (mQv D cl cB cI cJ cZ cS iM h0 ad A x) args s 0 0 A) (F0 m 204 ls [])) ∧ (∀ (u : MS) (v1 : Int32) (v2 : Int32) (v5 : Int32) (v7 : Int32) (v8 : Int32) (x : MS × Unit), G.2.2.2.2.2.1 u v1 v2 v5 v7 v8 = some x → ∀ (H : Heap) (locs : List Loc), va_P D cl (wM cB cI cJ cZ cS iM h0 ad u) H → va_D A (wM cB cI cJ cZ cS iM h0 ad u) → va_S A s.heap H locs → ∀ (ls : Array Slot), lv_has ls 9 [(0, .ref h0), (1, .int v1), (2, .int v2), (5, .int v5), (7, .int v7), (8, .int v8)] → W p l e R s m args below meth c H locs 0 0 (MQ below (mQv D cl cB cI cJ cZ cS iM h0 ad A x) args s 0 0 A) (F0 m 281 ls [])) ∧ (∀ (u : MS) (v1 : Int32) (v2 : Int32) (x : MS × Unit), G.2.2.2.2.2.2 u v1 v2 = some x → ∀ (H : Heap) (locs : List Loc), va_P D cl (wM cB cI cJ cZ cS iM h0 ad u) H → va_D A (wM cB cI cJ cZ cS iM h0 ad u) → va_S A s.heap H locs → ∀ (ls : Array Slot), lv_has ls 9 [(0, .ref h0), (1, .int v1), (2, .int v2)] → W p l e R s m args below meth c H locs 0 0 (MQ below (mQv D cl cB cI cJ cZ cS iM h0 ad A x) args s 0 0 A) (F0 m 337 ls []))) : ∀ (u : MS) (v1 : Int32) (v2 : Int32) (x : MS × Unit), fb_M_clear_44 N G u v1 v2 = some x → ∀ (H : Heap) (locs : List Loc), va_P D cl (wM cB cI cJ cZ cS iM h0 ad u) H → va_D A (wM cB cI cJ cZ cS iM h0 ad u) → va_S A s.heap H locs → ∀ (ls : Array Slot), lv_has ls 9 [(0, .ref h0), (1, .int v1), (2, .int v2)] → W p l e R s m args below meth c H locs 0 0 (MQ below (mQv D cl cB cI cJ cZ cS iM h0 ad A x) args s 0 0 A) (F0 m 44 ls []) := by
  intro u v1 v2 x hf H locs hP hD hS ls hl
  obtain ⟨hx, hb, hr, hml, ht, hown, hM, hK, hA, hlocks⟩ := id C0
  unfold fb_M_clear_44 at hf
  refine lv_iload_n hx hb d_M_clear_44 rfl (lv_at hl 2 rfl) ?_
  refine lv_aload_n hx hb d_M_clear_45 rfl (lv_at hl 0 rfl) ?_
  refine ug_R hx hb ht hown hM hK hP 92 (by decide) lk_M_92 (by decide) d_M_clear_46 ?_
  refine lv_iload_n hx hb d_M_clear_49 rfl (lv_at hl 1 rfl) ?_
  obtain ⟨hi9, hf⟩ := ck_some hf
  refine ul_I hx hb hK hP (by decide) (by decide) hi9 d_M_clear_50 ?_
  refine lv_icmp_ge (tgt := 89) hx hb d_M_clear_51 (by decide) (fun hc => ?_) (fun hc => ?_)
  · rw [br_p _ hc] at hf
    refine lv_iconst (v := 0) hx hb d_M_clear_89 (by decide) ?_
    refine lv_istore_n (lv' := [(2, .int 0), (0, .ref h0), (1, .int v1)]) hx hb d_M_clear_90 rfl hl (by decide) rfl (fun ls hl => ?_)
    exact hG.2.2.1 _ _ _ _ hf H locs hP hD hS ls (lv_sub hl [1, 2, 0] rfl)
  · rw [br_n _ hc] at hf
    refine lv_aload_n hx hb d_M_clear_54 rfl (lv_at hl 0 rfl) ?_
    refine ug_R hx hb ht hown hM hK hP 91 (by decide) lk_M_91 (by decide) d_M_clear_55 ?_
    refine lv_iload_n hx hb d_M_clear_58 rfl (lv_at hl 1 rfl) ?_
    refine lv_ldcw (v := 46000) hx hb hown (ht _ (wd_of 2940 (by decide +kernel) rfl)) d_M_clear_59 ?_
    refine lv_imul hx hb d_M_clear_62 ?_
    refine lv_iload_n hx hb d_M_clear_63 rfl (lv_at hl 2 rfl) ?_
    refine lv_iadd hx hb d_M_clear_64 ?_
    refine lv_aload_n hx hb d_M_clear_65 rfl (lv_at hl 0 rfl) ?_
    refine lv_iload_n hx hb d_M_clear_66 rfl (lv_at hl 1 rfl) ?_
    refine lv_aload_n hx hb d_M_clear_67 rfl (lv_at hl 0 rfl) ?_
    refine ug_R hx hb ht hown hM hK hP 91 (by decide) lk_M_91 (by decide) d_M_clear_68 ?_
    refine lv_iload_n hx hb d_M_clear_71 rfl (lv_at hl 1 rfl) ?_
    refine lv_ldcw (v := 46000) hx hb hown (ht _ (wd_of 2940 (by decide +kernel) rfl)) d_M_clear_72 ?_
    refine lv_imul hx hb d_M_clear_75 ?_
    refine lv_iload_n hx hb d_M_clear_76 rfl (lv_at hl 2 rfl) ?_
    refine lv_iadd hx hb d_M_clear_77 ?_
    obtain ⟨hi9, hf⟩ := ck_some hf
    refine ul_J hx hb hK hP (by decide) (by decide) hi9 d_M_clear_78 ?_
    obtain ⟨u14, r14, hc14, hf⟩ := bnd_some hf
    refine mV_l (As := [.int v1, .long (u.2.2.2 91 ((v1 * 46000) + v2).toNatClampNeg)]) (rest := [.int ((v1 * 46000) + v2), .ref (ad 91)]) C0 hP hD hS (c_M_carried N hM hc14) k_M_carried hl_M_carried hi_M_carried hs_M_carried hini_M rfl rfl hd_M_carried rfl (rm_M_clear_M_carried hR) hl.1 (Nat.le_of_ble_eq_true rfl) d_M_clear_79 rfl ⟨Nat.zero_le _, Nat.zero_le _⟩ (fun H locs hP hD hS => ?_)
    obtain ⟨hi9, hf⟩ := ck_some hf
    refine us_J hx hb hK hP hD hS (by decide) (by decide) hi9 d_M_clear_82 (fun H locs hP hD hS => ?_)
    obtain ⟨w15, e15, hf⟩ := lt_some hf
    rw [← e15] at hP hD
    refine lv_iinc (v := (v2 + 1)) (lv' := [(2, .int (v2 + 1)), (0, .ref h0), (1, .int v1)]) hx hb d_M_clear_83 hl (k := 2) rfl rfl (by decide) rfl (fun ls hl => ?_)
    refine lv_goto (tgt := 44) hx hb d_M_clear_86 (by decide) ?_
    exact hG.2.1 _ _ _ _ hf H locs hP hD hS ls (lv_sub hl [1, 2, 0] rfl)
def fb_M_clear_22 (N : Nat) (G : (MS → Int32 → Int32 → Option (MS × Unit)) × (MS → Int32 → Int32 → Option (MS × Unit)) × (MS → Int32 → Int32 → Option (MS × Unit)) × (MS → Int32 → Int32 → Option (MS × Unit)) × (MS → Int32 → Int32 → Option (MS × Unit)) × (MS → Int32 → Int32 → Int32 → Int32 → Int32 → Option (MS × Unit)) × (MS → Int32 → Int32 → Option (MS × Unit))) (u : MS) (v1 : Int32) (v2 : Int32) : Option (MS × Unit) := br (decide (500 ≤ v2)) (G.2.1 u (v1) (0)) (ck (inb v2 (ln 135)) (lt (upA u 135 (upd (u.2.2.1 135) v2.toNatClampNeg (-1))) (fun w16 => G.1 w16 (v1) ((v2 + 1)))))
set_option maxRecDepth 100000 in
set_option maxHeartbeats 4000000 in
theorem wb_M_clear_22 {p : Program} {l : Launch} {e : Env} {R : Room} {s : State} {m : MethodId} {args : Array Value} {below : List Frame} {meth : Method} {c : Code} {D : va_G} {cl : List vw_C} {cB cI cJ cZ cS : ClassId} {A : Nat → Prop} {iM h0 : Nat} {ad : Nat → Nat} (C0 : MCx p s m args meth c b_M_clear 9 none D cl cB cI cJ cZ cS iM A) (hR : R = rm_M_clear) (N : Nat) (G : (MS → Int32 → Int32 → Option (MS × Unit)) × (MS → Int32 → Int32 → Option (MS × Unit)) × (MS → Int32 → Int32 → Option (MS × Unit)) × (MS → Int32 → Int32 → Option (MS × Unit)) × (MS → Int32 → Int32 → Option (MS × Unit)) × (MS → Int32 → Int32 → Int32 → Int32 → Int32 → Option (MS × Unit)) × (MS → Int32 → Int32 → Option (MS × Unit))) (hG : (∀ (u : MS) (v1 : Int32) (v2 : Int32) (x : MS × Unit), G.1 u v1 v2 = some x → ∀ (H : Heap) (locs : List Loc), va_P D cl (wM cB cI cJ cZ cS iM h0 ad u) H → va_D A (wM cB cI cJ cZ cS iM h0 ad u) → va_S A s.heap H locs → ∀ (ls : Array Slot), lv_has ls 9 [(0, .ref h0), (1, .int v1), (2, .int v2)] → W p l e R s m args below meth c H locs 0 0 (MQ below (mQv D cl cB cI cJ cZ cS iM h0 ad A x) args s 0 0 A) (F0 m 22 ls [])) ∧ (∀ (u : MS) (v1 : Int32) (v2 : Int32) (x : MS × Unit), G.2.1 u v1 v2 = some x → ∀ (H : Heap) (locs : List Loc), va_P D cl (wM cB cI cJ cZ cS iM h0 ad u) H → va_D A (wM cB cI cJ cZ cS iM h0 ad u) → va_S A s.heap H locs → ∀ (ls : Array Slot), lv_has ls 9 [(0, .ref h0), (1, .int v1), (2, .int v2)] → W p l e R s m args below meth c H locs 0 0 (MQ below (mQv D cl cB cI cJ cZ cS iM h0 ad A x) args s 0 0 A) (F0 m 44 ls [])) ∧ (∀ (u : MS) (v1 : Int32) (v2 : Int32) (x : MS × Unit), G.2.2.1 u v1 v2 = some x → ∀ (H : Heap) (locs : List Loc), va_P D cl (wM cB cI cJ cZ cS iM h0 ad u) H → va_D A (wM cB cI cJ cZ cS iM h0 ad u) → va_S A s.heap H locs → ∀ (ls : Array Slot), lv_has ls 9 [(0, .ref h0), (1, .int v1), (2, .int v2)] → W p l e R s m args below meth c H locs 0 0 (MQ below (mQv D cl cB cI cJ cZ cS iM h0 ad A x) args s 0 0 A) (F0 m 91 ls [])) ∧ (∀ (u : MS) (v1 : Int32) (v2 : Int32) (x : MS × Unit), G.2.2.2.1 u v1 v2 = some x → ∀ (H : Heap) (locs : List Loc), va_P D cl (wM cB cI cJ cZ cS iM h0 ad u) H → va_D A (wM cB cI cJ cZ cS iM h0 ad u) → va_S A s.heap H locs → ∀ (ls : Array Slot), lv_has ls 9 [(0, .ref h0), (1, .int v1), (2, .int v2)] → W p l e R s m args below meth c H locs 0 0 (MQ below (mQv D cl cB cI cJ cZ cS iM h0 ad A x) args s 0 0 A) (F0 m 138 ls [])) ∧ (∀ (u : MS) (v1 : Int32) (v2 : Int32) (x : MS × Unit), G.2.2.2.2.1 u v1 v2 = some x → ∀ (H : Heap) (locs : List Loc), va_P D cl (wM cB cI cJ cZ cS iM h0 ad u) H → va_D A (wM cB cI cJ cZ cS iM h0 ad u) → va_S A s.heap H locs → ∀ (ls : Array Slot), lv_has ls 9 [(0, .ref h0), (1, .int v1), (2, .int v2)] → W p l e R s m args below meth c H locs 0 0 (MQ below (mQv D cl cB cI cJ cZ cS iM h0 ad A x) args s 0 0 A) (F0 m 204 ls [])) ∧ (∀ (u : MS) (v1 : Int32) (v2 : Int32) (v5 : Int32) (v7 : Int32) (v8 : Int32) (x : MS × Unit), G.2.2.2.2.2.1 u v1 v2 v5 v7 v8 = some x → ∀ (H : Heap) (locs : List Loc), va_P D cl (wM cB cI cJ cZ cS iM h0 ad u) H → va_D A (wM cB cI cJ cZ cS iM h0 ad u) → va_S A s.heap H locs → ∀ (ls : Array Slot), lv_has ls 9 [(0, .ref h0), (1, .int v1), (2, .int v2), (5, .int v5), (7, .int v7), (8, .int v8)] → W p l e R s m args below meth c H locs 0 0 (MQ below (mQv D cl cB cI cJ cZ cS iM h0 ad A x) args s 0 0 A) (F0 m 281 ls [])) ∧ (∀ (u : MS) (v1 : Int32) (v2 : Int32) (x : MS × Unit), G.2.2.2.2.2.2 u v1 v2 = some x → ∀ (H : Heap) (locs : List Loc), va_P D cl (wM cB cI cJ cZ cS iM h0 ad u) H → va_D A (wM cB cI cJ cZ cS iM h0 ad u) → va_S A s.heap H locs → ∀ (ls : Array Slot), lv_has ls 9 [(0, .ref h0), (1, .int v1), (2, .int v2)] → W p l e R s m args below meth c H locs 0 0 (MQ below (mQv D cl cB cI cJ cZ cS iM h0 ad A x) args s 0 0 A) (F0 m 337 ls []))) : ∀ (u : MS) (v1 : Int32) (v2 : Int32) (x : MS × Unit), fb_M_clear_22 N G u v1 v2 = some x → ∀ (H : Heap) (locs : List Loc), va_P D cl (wM cB cI cJ cZ cS iM h0 ad u) H → va_D A (wM cB cI cJ cZ cS iM h0 ad u) → va_S A s.heap H locs → ∀ (ls : Array Slot), lv_has ls 9 [(0, .ref h0), (1, .int v1), (2, .int v2)] → W p l e R s m args below meth c H locs 0 0 (MQ below (mQv D cl cB cI cJ cZ cS iM h0 ad A x) args s 0 0 A) (F0 m 22 ls []) := by
  intro u v1 v2 x hf H locs hP hD hS ls hl
  obtain ⟨hx, hb, hr, hml, ht, hown, hM, hK, hA, hlocks⟩ := id C0
  unfold fb_M_clear_22 at hf
  refine lv_iload_n hx hb d_M_clear_22 rfl (lv_at hl 2 rfl) ?_
  refine lv_sipush (v := 500) hx hb d_M_clear_23 (by decide) ?_
  refine lv_icmp_ge (tgt := 42) hx hb d_M_clear_26 (by decide) (fun hc => ?_) (fun hc => ?_)
  · rw [br_p _ hc] at hf
    refine lv_iconst (v := 0) hx hb d_M_clear_42 (by decide) ?_
    refine lv_istore_n (lv' := [(2, .int 0), (0, .ref h0), (1, .int v1)]) hx hb d_M_clear_43 rfl hl (by decide) rfl (fun ls hl => ?_)
    exact hG.2.1 _ _ _ _ hf H locs hP hD hS ls (lv_sub hl [1, 2, 0] rfl)
  · rw [br_n _ hc] at hf
    refine lv_aload_n hx hb d_M_clear_29 rfl (lv_at hl 0 rfl) ?_
    refine ug_R hx hb ht hown hM hK hP 135 (by decide) lk_M_135 (by decide) d_M_clear_30 ?_
    refine lv_iload_n hx hb d_M_clear_33 rfl (lv_at hl 2 rfl) ?_
    refine lv_iconst (v := (-1)) hx hb d_M_clear_34 (by decide) ?_
    obtain ⟨hi9, hf⟩ := ck_some hf
    refine us_I hx hb hK hP hD hS (by decide) (by decide) hi9 d_M_clear_35 (fun H locs hP hD hS => ?_)
    obtain ⟨w16, e16, hf⟩ := lt_some hf
    rw [← e16] at hP hD
    refine lv_iinc (v := (v2 + 1)) (lv' := [(2, .int (v2 + 1)), (0, .ref h0), (1, .int v1)]) hx hb d_M_clear_36 hl (k := 2) rfl rfl (by decide) rfl (fun ls hl => ?_)
    refine lv_goto (tgt := 22) hx hb d_M_clear_39 (by decide) ?_
    exact hG.1 _ _ _ _ hf H locs hP hD hS ls (lv_sub hl [1, 2, 0] rfl)
def fb_M_clear_0 (N : Nat) (G : (MS → Int32 → Int32 → Option (MS × Unit)) × (MS → Int32 → Int32 → Option (MS × Unit)) × (MS → Int32 → Int32 → Option (MS × Unit)) × (MS → Int32 → Int32 → Option (MS × Unit)) × (MS → Int32 → Int32 → Option (MS × Unit)) × (MS → Int32 → Int32 → Int32 → Int32 → Int32 → Option (MS × Unit)) × (MS → Int32 → Int32 → Option (MS × Unit))) (u : MS) (v1 : Int32) : Option (MS × Unit) := ck (inb v1 (ln 90)) (ck (inb v1 (ln 90)) (lt (upA u 90 (upd (u.2.2.1 90) v1.toNatClampNeg ((u.2.2.1 90 v1.toNatClampNeg) + 1))) (fun w17 => lt (upI w17 136 0) (fun w18 => lt (upI w18 138 0) (fun w19 => G.1 w19 (v1) (0))))))
set_option maxRecDepth 100000 in
set_option maxHeartbeats 4000000 in
theorem wb_M_clear_0 {p : Program} {l : Launch} {e : Env} {R : Room} {s : State} {m : MethodId} {args : Array Value} {below : List Frame} {meth : Method} {c : Code} {D : va_G} {cl : List vw_C} {cB cI cJ cZ cS : ClassId} {A : Nat → Prop} {iM h0 : Nat} {ad : Nat → Nat} (C0 : MCx p s m args meth c b_M_clear 9 none D cl cB cI cJ cZ cS iM A) (hR : R = rm_M_clear) (N : Nat) (G : (MS → Int32 → Int32 → Option (MS × Unit)) × (MS → Int32 → Int32 → Option (MS × Unit)) × (MS → Int32 → Int32 → Option (MS × Unit)) × (MS → Int32 → Int32 → Option (MS × Unit)) × (MS → Int32 → Int32 → Option (MS × Unit)) × (MS → Int32 → Int32 → Int32 → Int32 → Int32 → Option (MS × Unit)) × (MS → Int32 → Int32 → Option (MS × Unit))) (hG : (∀ (u : MS) (v1 : Int32) (v2 : Int32) (x : MS × Unit), G.1 u v1 v2 = some x → ∀ (H : Heap) (locs : List Loc), va_P D cl (wM cB cI cJ cZ cS iM h0 ad u) H → va_D A (wM cB cI cJ cZ cS iM h0 ad u) → va_S A s.heap H locs → ∀ (ls : Array Slot), lv_has ls 9 [(0, .ref h0), (1, .int v1), (2, .int v2)] → W p l e R s m args below meth c H locs 0 0 (MQ below (mQv D cl cB cI cJ cZ cS iM h0 ad A x) args s 0 0 A) (F0 m 22 ls [])) ∧ (∀ (u : MS) (v1 : Int32) (v2 : Int32) (x : MS × Unit), G.2.1 u v1 v2 = some x → ∀ (H : Heap) (locs : List Loc), va_P D cl (wM cB cI cJ cZ cS iM h0 ad u) H → va_D A (wM cB cI cJ cZ cS iM h0 ad u) → va_S A s.heap H locs → ∀ (ls : Array Slot), lv_has ls 9 [(0, .ref h0), (1, .int v1), (2, .int v2)] → W p l e R s m args below meth c H locs 0 0 (MQ below (mQv D cl cB cI cJ cZ cS iM h0 ad A x) args s 0 0 A) (F0 m 44 ls [])) ∧ (∀ (u : MS) (v1 : Int32) (v2 : Int32) (x : MS × Unit), G.2.2.1 u v1 v2 = some x → ∀ (H : Heap) (locs : List Loc), va_P D cl (wM cB cI cJ cZ cS iM h0 ad u) H → va_D A (wM cB cI cJ cZ cS iM h0 ad u) → va_S A s.heap H locs → ∀ (ls : Array Slot), lv_has ls 9 [(0, .ref h0), (1, .int v1), (2, .int v2)] → W p l e R s m args below meth c H locs 0 0 (MQ below (mQv D cl cB cI cJ cZ cS iM h0 ad A x) args s 0 0 A) (F0 m 91 ls [])) ∧ (∀ (u : MS) (v1 : Int32) (v2 : Int32) (x : MS × Unit), G.2.2.2.1 u v1 v2 = some x → ∀ (H : Heap) (locs : List Loc), va_P D cl (wM cB cI cJ cZ cS iM h0 ad u) H → va_D A (wM cB cI cJ cZ cS iM h0 ad u) → va_S A s.heap H locs → ∀ (ls : Array Slot), lv_has ls 9 [(0, .ref h0), (1, .int v1), (2, .int v2)] → W p l e R s m args below meth c H locs 0 0 (MQ below (mQv D cl cB cI cJ cZ cS iM h0 ad A x) args s 0 0 A) (F0 m 138 ls [])) ∧ (∀ (u : MS) (v1 : Int32) (v2 : Int32) (x : MS × Unit), G.2.2.2.2.1 u v1 v2 = some x → ∀ (H : Heap) (locs : List Loc), va_P D cl (wM cB cI cJ cZ cS iM h0 ad u) H → va_D A (wM cB cI cJ cZ cS iM h0 ad u) → va_S A s.heap H locs → ∀ (ls : Array Slot), lv_has ls 9 [(0, .ref h0), (1, .int v1), (2, .int v2)] → W p l e R s m args below meth c H locs 0 0 (MQ below (mQv D cl cB cI cJ cZ cS iM h0 ad A x) args s 0 0 A) (F0 m 204 ls [])) ∧ (∀ (u : MS) (v1 : Int32) (v2 : Int32) (v5 : Int32) (v7 : Int32) (v8 : Int32) (x : MS × Unit), G.2.2.2.2.2.1 u v1 v2 v5 v7 v8 = some x → ∀ (H : Heap) (locs : List Loc), va_P D cl (wM cB cI cJ cZ cS iM h0 ad u) H → va_D A (wM cB cI cJ cZ cS iM h0 ad u) → va_S A s.heap H locs → ∀ (ls : Array Slot), lv_has ls 9 [(0, .ref h0), (1, .int v1), (2, .int v2), (5, .int v5), (7, .int v7), (8, .int v8)] → W p l e R s m args below meth c H locs 0 0 (MQ below (mQv D cl cB cI cJ cZ cS iM h0 ad A x) args s 0 0 A) (F0 m 281 ls [])) ∧ (∀ (u : MS) (v1 : Int32) (v2 : Int32) (x : MS × Unit), G.2.2.2.2.2.2 u v1 v2 = some x → ∀ (H : Heap) (locs : List Loc), va_P D cl (wM cB cI cJ cZ cS iM h0 ad u) H → va_D A (wM cB cI cJ cZ cS iM h0 ad u) → va_S A s.heap H locs → ∀ (ls : Array Slot), lv_has ls 9 [(0, .ref h0), (1, .int v1), (2, .int v2)] → W p l e R s m args below meth c H locs 0 0 (MQ below (mQv D cl cB cI cJ cZ cS iM h0 ad A x) args s 0 0 A) (F0 m 337 ls []))) : ∀ (u : MS) (v1 : Int32) (x : MS × Unit), fb_M_clear_0 N G u v1 = some x → ∀ (H : Heap) (locs : List Loc), va_P D cl (wM cB cI cJ cZ cS iM h0 ad u) H → va_D A (wM cB cI cJ cZ cS iM h0 ad u) → va_S A s.heap H locs → ∀ (ls : Array Slot), lv_has ls 9 [(0, .ref h0), (1, .int v1)] → W p l e R s m args below meth c H locs 0 0 (MQ below (mQv D cl cB cI cJ cZ cS iM h0 ad A x) args s 0 0 A) (F0 m 0 ls []) := by
  intro u v1 x hf H locs hP hD hS ls hl
  obtain ⟨hx, hb, hr, hml, ht, hown, hM, hK, hA, hlocks⟩ := id C0
  unfold fb_M_clear_0 at hf
  refine lv_aload_n hx hb d_M_clear_0 rfl (lv_at hl 0 rfl) ?_
  refine ug_R hx hb ht hown hM hK hP 90 (by decide) lk_M_90 (by decide) d_M_clear_1 ?_
  refine lv_iload_n hx hb d_M_clear_4 rfl (lv_at hl 1 rfl) ?_
  refine lv_dup2_11 hx hb d_M_clear_5 rfl rfl ?_
  obtain ⟨hi9, hf⟩ := ck_some hf
  refine ul_I hx hb hK hP (by decide) (by decide) hi9 d_M_clear_6 ?_
  refine lv_iconst (v := 1) hx hb d_M_clear_7 (by decide) ?_
  refine lv_iadd hx hb d_M_clear_8 ?_
  obtain ⟨hi9, hf⟩ := ck_some hf
  refine us_I hx hb hK hP hD hS (by decide) (by decide) hi9 d_M_clear_9 (fun H locs hP hD hS => ?_)
  obtain ⟨w17, e17, hf⟩ := lt_some hf
  rw [← e17] at hP hD
  refine lv_aload_n hx hb d_M_clear_10 rfl (lv_at hl 0 rfl) ?_
  refine lv_iconst (v := 0) hx hb d_M_clear_11 (by decide) ?_
  refine up_I hx hb ht hown hM hK hP hD hS 136 (by decide) lk_M_136 (by decide) rfl rfl rfl d_M_clear_12 (fun H locs hP hD hS => ?_)
  obtain ⟨w18, e18, hf⟩ := lt_some hf
  rw [← e18] at hP hD
  refine lv_aload_n hx hb d_M_clear_15 rfl (lv_at hl 0 rfl) ?_
  refine lv_iconst (v := 0) hx hb d_M_clear_16 (by decide) ?_
  refine up_I hx hb ht hown hM hK hP hD hS 138 (by decide) lk_M_138 (by decide) rfl rfl rfl d_M_clear_17 (fun H locs hP hD hS => ?_)
  obtain ⟨w19, e19, hf⟩ := lt_some hf
  rw [← e19] at hP hD
  refine lv_iconst (v := 0) hx hb d_M_clear_20 (by decide) ?_
  refine lv_istore_n (lv' := [(2, .int 0), (0, .ref h0), (1, .int v1)]) hx hb d_M_clear_21 rfl hl (by decide) rfl (fun ls hl => ?_)
  exact hG.1 _ _ _ _ hf H locs hP hD hS ls (lv_sub hl [1, 2, 0] rfl)
def gg_M_clear (N : Nat) : Nat → ((MS → Int32 → Int32 → Option (MS × Unit)) × (MS → Int32 → Int32 → Option (MS × Unit)) × (MS → Int32 → Int32 → Option (MS × Unit)) × (MS → Int32 → Int32 → Option (MS × Unit)) × (MS → Int32 → Int32 → Option (MS × Unit)) × (MS → Int32 → Int32 → Int32 → Int32 → Int32 → Option (MS × Unit)) × (MS → Int32 → Int32 → Option (MS × Unit)))
  | 0 => (fun _ _ _ => none, fun _ _ _ => none, fun _ _ _ => none, fun _ _ _ => none, fun _ _ _ => none, fun _ _ _ _ _ _ => none, fun _ _ _ => none)
  | n + 1 => (fb_M_clear_22 N (gg_M_clear N n), fb_M_clear_44 N (gg_M_clear N n), fb_M_clear_91 N (gg_M_clear N n), fb_M_clear_138 N (gg_M_clear N n), fb_M_clear_204 N (gg_M_clear N n), fb_M_clear_281 N (gg_M_clear N n), fb_M_clear_337 N (gg_M_clear N n))
theorem wg_M_clear {p : Program} {l : Launch} {e : Env} {R : Room} {s : State} {m : MethodId} {args : Array Value} {below : List Frame} {meth : Method} {c : Code} {D : va_G} {cl : List vw_C} {cB cI cJ cZ cS : ClassId} {A : Nat → Prop} {iM h0 : Nat} {ad : Nat → Nat} (C0 : MCx p s m args meth c b_M_clear 9 none D cl cB cI cJ cZ cS iM A) (hR : R = rm_M_clear) (N : Nat) : ∀ n : Nat, (∀ (u : MS) (v1 : Int32) (v2 : Int32) (x : MS × Unit), (gg_M_clear N n).1 u v1 v2 = some x → ∀ (H : Heap) (locs : List Loc), va_P D cl (wM cB cI cJ cZ cS iM h0 ad u) H → va_D A (wM cB cI cJ cZ cS iM h0 ad u) → va_S A s.heap H locs → ∀ (ls : Array Slot), lv_has ls 9 [(0, .ref h0), (1, .int v1), (2, .int v2)] → W p l e R s m args below meth c H locs 0 0 (MQ below (mQv D cl cB cI cJ cZ cS iM h0 ad A x) args s 0 0 A) (F0 m 22 ls [])) ∧ (∀ (u : MS) (v1 : Int32) (v2 : Int32) (x : MS × Unit), (gg_M_clear N n).2.1 u v1 v2 = some x → ∀ (H : Heap) (locs : List Loc), va_P D cl (wM cB cI cJ cZ cS iM h0 ad u) H → va_D A (wM cB cI cJ cZ cS iM h0 ad u) → va_S A s.heap H locs → ∀ (ls : Array Slot), lv_has ls 9 [(0, .ref h0), (1, .int v1), (2, .int v2)] → W p l e R s m args below meth c H locs 0 0 (MQ below (mQv D cl cB cI cJ cZ cS iM h0 ad A x) args s 0 0 A) (F0 m 44 ls [])) ∧ (∀ (u : MS) (v1 : Int32) (v2 : Int32) (x : MS × Unit), (gg_M_clear N n).2.2.1 u v1 v2 = some x → ∀ (H : Heap) (locs : List Loc), va_P D cl (wM cB cI cJ cZ cS iM h0 ad u) H → va_D A (wM cB cI cJ cZ cS iM h0 ad u) → va_S A s.heap H locs → ∀ (ls : Array Slot), lv_has ls 9 [(0, .ref h0), (1, .int v1), (2, .int v2)] → W p l e R s m args below meth c H locs 0 0 (MQ below (mQv D cl cB cI cJ cZ cS iM h0 ad A x) args s 0 0 A) (F0 m 91 ls [])) ∧ (∀ (u : MS) (v1 : Int32) (v2 : Int32) (x : MS × Unit), (gg_M_clear N n).2.2.2.1 u v1 v2 = some x → ∀ (H : Heap) (locs : List Loc), va_P D cl (wM cB cI cJ cZ cS iM h0 ad u) H → va_D A (wM cB cI cJ cZ cS iM h0 ad u) → va_S A s.heap H locs → ∀ (ls : Array Slot), lv_has ls 9 [(0, .ref h0), (1, .int v1), (2, .int v2)] → W p l e R s m args below meth c H locs 0 0 (MQ below (mQv D cl cB cI cJ cZ cS iM h0 ad A x) args s 0 0 A) (F0 m 138 ls [])) ∧ (∀ (u : MS) (v1 : Int32) (v2 : Int32) (x : MS × Unit), (gg_M_clear N n).2.2.2.2.1 u v1 v2 = some x → ∀ (H : Heap) (locs : List Loc), va_P D cl (wM cB cI cJ cZ cS iM h0 ad u) H → va_D A (wM cB cI cJ cZ cS iM h0 ad u) → va_S A s.heap H locs → ∀ (ls : Array Slot), lv_has ls 9 [(0, .ref h0), (1, .int v1), (2, .int v2)] → W p l e R s m args below meth c H locs 0 0 (MQ below (mQv D cl cB cI cJ cZ cS iM h0 ad A x) args s 0 0 A) (F0 m 204 ls [])) ∧ (∀ (u : MS) (v1 : Int32) (v2 : Int32) (v5 : Int32) (v7 : Int32) (v8 : Int32) (x : MS × Unit), (gg_M_clear N n).2.2.2.2.2.1 u v1 v2 v5 v7 v8 = some x → ∀ (H : Heap) (locs : List Loc), va_P D cl (wM cB cI cJ cZ cS iM h0 ad u) H → va_D A (wM cB cI cJ cZ cS iM h0 ad u) → va_S A s.heap H locs → ∀ (ls : Array Slot), lv_has ls 9 [(0, .ref h0), (1, .int v1), (2, .int v2), (5, .int v5), (7, .int v7), (8, .int v8)] → W p l e R s m args below meth c H locs 0 0 (MQ below (mQv D cl cB cI cJ cZ cS iM h0 ad A x) args s 0 0 A) (F0 m 281 ls [])) ∧ (∀ (u : MS) (v1 : Int32) (v2 : Int32) (x : MS × Unit), (gg_M_clear N n).2.2.2.2.2.2 u v1 v2 = some x → ∀ (H : Heap) (locs : List Loc), va_P D cl (wM cB cI cJ cZ cS iM h0 ad u) H → va_D A (wM cB cI cJ cZ cS iM h0 ad u) → va_S A s.heap H locs → ∀ (ls : Array Slot), lv_has ls 9 [(0, .ref h0), (1, .int v1), (2, .int v2)] → W p l e R s m args below meth c H locs 0 0 (MQ below (mQv D cl cB cI cJ cZ cS iM h0 ad A x) args s 0 0 A) (F0 m 337 ls []))
  | 0 => ⟨(fun u v1 v2 x hf => by cases hf), (fun u v1 v2 x hf => by cases hf), (fun u v1 v2 x hf => by cases hf), (fun u v1 v2 x hf => by cases hf), (fun u v1 v2 x hf => by cases hf), (fun u v1 v2 v5 v7 v8 x hf => by cases hf), (fun u v1 v2 x hf => by cases hf)⟩
  | n + 1 => ⟨wb_M_clear_22 C0 hR N (gg_M_clear N n) (wg_M_clear C0 hR N n), wb_M_clear_44 C0 hR N (gg_M_clear N n) (wg_M_clear C0 hR N n), wb_M_clear_91 C0 hR N (gg_M_clear N n) (wg_M_clear C0 hR N n), wb_M_clear_138 C0 hR N (gg_M_clear N n) (wg_M_clear C0 hR N n), wb_M_clear_204 C0 hR N (gg_M_clear N n) (wg_M_clear C0 hR N n), wb_M_clear_281 C0 hR N (gg_M_clear N n) (wg_M_clear C0 hR N n), wb_M_clear_337 C0 hR N (gg_M_clear N n) (wg_M_clear C0 hR N n)⟩
def fm_M_clear (N : Nat) (u : MS) (v1 : Int32) : Option (MS × Unit) := fb_M_clear_0 N (gg_M_clear N N) u v1
set_option maxRecDepth 100000 in
set_option maxHeartbeats 4000000 in
theorem c_M_clear (N : Nat) {l : Launch} {D : va_G} {cl : List vw_C} {cB cI cJ cZ cS : ClassId} {iM h0 : Nat} {ad : Nat → Nat} {u : MS} {sz : Nat} {v1 : Int32} {x : MS × Unit} (hM : cl[iM]? = some (R_M, F_M, 171)) (hf : fm_M_clear N u v1 = some x) : Met l y_M_clear (wd_ws y_M_clear b_M_clear 9 none) rm_M_clear (mPc D cl cB cI cJ cZ cS iM h0 ad u sz [.ref h0, .int v1]) (mQv D cl cB cI cJ cZ cS iM h0 ad (mA cB cI cJ cZ cS iM h0 ad u sz) x) 0 0 (mA cB cI cJ cZ cS iM h0 ad u sz) :=
  mMet (by decide) rfl hM (Nat.le_of_ble_eq_true rfl) (fun p e s m below meth c ls hsz C0 hP hD hS hl => by
    have hR : rm_M_clear = rm_M_clear := rfl
    exact wb_M_clear_0 C0 hR N (gg_M_clear N N) (wg_M_clear C0 hR N N) u _ x hf s.heap [] hP hD hS ls (lv_sub hl [0, 1] rfl))
abbrev b_M_hand : ByteArray := prog_14_method_88_code
def y_M_hand : MethodName := ⟨R_M, "hand", "(IJ)V"⟩
def w_M_hand : List Cond := wd_ws y_M_hand b_M_hand 4 none
set_option maxRecDepth 100000 in
theorem k_M_hand : Cond.code y_M_hand b_M_hand 4 none ∈ wd_tbl := wd_of 2952 rfl rfl
theorem d_M_hand_0 : decode b_M_hand 0 = .ok (.aload_n 0, 1) := by decide +kernel
theorem d_M_hand_1 : decode b_M_hand 1 = .ok (.iload_n 1, 1) := by decide +kernel
theorem d_M_hand_2 : decode b_M_hand 2 = .ok (.putfield 323, 3) := by decide +kernel
theorem d_M_hand_5 : decode b_M_hand 5 = .ok (.aload_n 0, 1) := by decide +kernel
theorem d_M_hand_6 : decode b_M_hand 6 = .ok (.lload_n 2, 1) := by decide +kernel
theorem d_M_hand_7 : decode b_M_hand 7 = .ok (.putfield 319, 3) := by decide +kernel
theorem d_M_hand_10 : decode b_M_hand 10 = .ok (.return_, 1) := by decide +kernel
set_option maxRecDepth 100000 in
theorem hl_M_hand : Cond.methodLink R_M 773 y_M_hand ∈ wd_tbl := wd_of 2949 (by decide +kernel) rfl
set_option maxRecDepth 100000 in
theorem hi_M_hand : Cond.instanceMethod y_M_hand ∈ wd_tbl := wd_of 2951 (by decide +kernel) rfl
set_option maxRecDepth 100000 in
theorem hs_M_hand : Cond.selects R_M y_M_hand y_M_hand ∈ wd_tbl := wd_of 198 (by decide +kernel) rfl
theorem hd_M_hand : y_M_hand.cls = R_M ∧ y_M_hand.cls ≠ "java/lang/invoke/MethodHandle" ∧ y_M_hand.cls ≠ "java/lang/invoke/VarHandle" ∧ (parseMethodDescriptor y_M_hand.desc).map (fun d => d.parameters.length) = some 2 := by decide +kernel
def rm_M_hand : Room := { frames := 0, cells := 0, slots := 0, locals := 0 }
def fb_M_hand_0 (N : Nat) (G : Unit) (u : MS) (v1 : Int32) (v2 : Int64) : Option (MS × Unit) := lt (upI u 140 v1) (fun w1 => lt (upL w1 139 v2) (fun w2 => some (w2, ())))
set_option maxRecDepth 100000 in
set_option maxHeartbeats 4000000 in
theorem wb_M_hand_0 {p : Program} {l : Launch} {e : Env} {R : Room} {s : State} {m : MethodId} {args : Array Value} {below : List Frame} {meth : Method} {c : Code} {D : va_G} {cl : List vw_C} {cB cI cJ cZ cS : ClassId} {A : Nat → Prop} {iM h0 : Nat} {ad : Nat → Nat} (C0 : MCx p s m args meth c b_M_hand 4 none D cl cB cI cJ cZ cS iM A) (hR : R = rm_M_hand) (N : Nat) (G : Unit) (hG : True) : ∀ (u : MS) (v1 : Int32) (v2 : Int64) (x : MS × Unit), fb_M_hand_0 N G u v1 v2 = some x → ∀ (H : Heap) (locs : List Loc), va_P D cl (wM cB cI cJ cZ cS iM h0 ad u) H → va_D A (wM cB cI cJ cZ cS iM h0 ad u) → va_S A s.heap H locs → ∀ (ls : Array Slot), lv_has ls 4 [(0, .ref h0), (1, .int v1), (2, .long v2)] → W p l e R s m args below meth c H locs 0 0 (MQ below (mQv D cl cB cI cJ cZ cS iM h0 ad A x) args s 0 0 A) (F0 m 0 ls []) := by
  intro u v1 v2 x hf H locs hP hD hS ls hl
  obtain ⟨hx, hb, hr, hml, ht, hown, hM, hK, hA, hlocks⟩ := id C0
  unfold fb_M_hand_0 at hf
  refine lv_aload_n hx hb d_M_hand_0 rfl (lv_at hl 0 rfl) ?_
  refine lv_iload_n hx hb d_M_hand_1 rfl (lv_at hl 1 rfl) ?_
  refine up_I hx hb ht hown hM hK hP hD hS 140 (by decide) lk_M_140 (by decide) rfl rfl rfl d_M_hand_2 (fun H locs hP hD hS => ?_)
  obtain ⟨w1, e1, hf⟩ := lt_some hf
  rw [← e1] at hP hD
  refine lv_aload_n hx hb d_M_hand_5 rfl (lv_at hl 0 rfl) ?_
  refine lv_lload_n hx hb d_M_hand_6 rfl (lv_at hl 2 rfl) ?_
  refine up_L hx hb ht hown hM hK hP hD hS 139 (by decide) lk_M_139 (by decide) rfl rfl rfl d_M_hand_7 (fun H locs hP hD hS => ?_)
  obtain ⟨w2, e2, hf⟩ := lt_some hf
  rw [← e2] at hP hD
  exact mr_v C0 hP hD hS hf d_M_hand_10
def fm_M_hand (N : Nat) (u : MS) (v1 : Int32) (v2 : Int64) : Option (MS × Unit) := fb_M_hand_0 N () u v1 v2
set_option maxRecDepth 100000 in
set_option maxHeartbeats 4000000 in
theorem c_M_hand (N : Nat) {l : Launch} {D : va_G} {cl : List vw_C} {cB cI cJ cZ cS : ClassId} {iM h0 : Nat} {ad : Nat → Nat} {u : MS} {sz : Nat} {v1 : Int32} {v2 : Int64} {x : MS × Unit} (hM : cl[iM]? = some (R_M, F_M, 171)) (hf : fm_M_hand N u v1 v2 = some x) : Met l y_M_hand (wd_ws y_M_hand b_M_hand 4 none) rm_M_hand (mPc D cl cB cI cJ cZ cS iM h0 ad u sz [.ref h0, .int v1, .long v2]) (mQv D cl cB cI cJ cZ cS iM h0 ad (mA cB cI cJ cZ cS iM h0 ad u sz) x) 0 0 (mA cB cI cJ cZ cS iM h0 ad u sz) :=
  mMet (by decide) rfl hM (Nat.le_of_ble_eq_true rfl) (fun p e s m below meth c ls hsz C0 hP hD hS hl => by
    have hR : rm_M_hand = rm_M_hand := rfl
    exact wb_M_hand_0 C0 hR N () trivial u _ _ x hf s.heap [] hP hD hS ls (lv_sub hl [0, 1, 2] rfl))
abbrev b_M_handNone : ByteArray := prog_14_method_89_code
def y_M_handNone : MethodName := ⟨R_M, "handNone", "()V"⟩
def w_M_handNone : List Cond := wd_ws y_M_handNone b_M_handNone 1 none
set_option maxRecDepth 100000 in
theorem k_M_handNone : Cond.code y_M_handNone b_M_handNone 1 none ∈ wd_tbl := wd_of 2989 rfl rfl
theorem d_M_handNone_0 : decode b_M_handNone 0 = .ok (.aload_n 0, 1) := by decide +kernel
theorem d_M_handNone_1 : decode b_M_handNone 1 = .ok (.iconst (-1), 1) := by decide +kernel
theorem d_M_handNone_2 : decode b_M_handNone 2 = .ok (.putfield 323, 3) := by decide +kernel
theorem d_M_handNone_5 : decode b_M_handNone 5 = .ok (.aload_n 0, 1) := by decide +kernel
theorem d_M_handNone_6 : decode b_M_handNone 6 = .ok (.bipush 6, 2) := by decide +kernel
theorem d_M_handNone_8 : decode b_M_handNone 8 = .ok (.iconst 0, 1) := by decide +kernel
theorem d_M_handNone_9 : decode b_M_handNone 9 = .ok (.invokestatic 315, 3) := by decide +kernel
theorem d_M_handNone_12 : decode b_M_handNone 12 = .ok (.putfield 319, 3) := by decide +kernel
theorem d_M_handNone_15 : decode b_M_handNone 15 = .ok (.return_, 1) := by decide +kernel
set_option maxRecDepth 100000 in
theorem hl_M_handNone : Cond.methodLink R_M 780 y_M_handNone ∈ wd_tbl := wd_of 2986 (by decide +kernel) rfl
set_option maxRecDepth 100000 in
theorem hi_M_handNone : Cond.instanceMethod y_M_handNone ∈ wd_tbl := wd_of 2988 (by decide +kernel) rfl
set_option maxRecDepth 100000 in
theorem hs_M_handNone : Cond.selects R_M y_M_handNone y_M_handNone ∈ wd_tbl := wd_of 204 (by decide +kernel) rfl
theorem hd_M_handNone : y_M_handNone.cls = R_M ∧ y_M_handNone.cls ≠ "java/lang/invoke/MethodHandle" ∧ y_M_handNone.cls ≠ "java/lang/invoke/VarHandle" ∧ (parseMethodDescriptor y_M_handNone.desc).map (fun d => d.parameters.length) = some 0 := by decide +kernel
def rm_M_handNone : Room := { frames := 1, cells := 0, slots := 0, locals := 21 }
theorem rm_M_handNone_M_term {R : Room} (hR : R = rm_M_handNone) : (rm_M_term).frames + 1 ≤ R.frames ∧ 8 + (2 + 11) + (rm_M_term).locals ≤ R.locals := by subst hR; decide
def fb_M_handNone_0 (N : Nat) (G : Unit) (u : MS) : Option (MS × Unit) := lt (upI u 140 (-1)) (fun w1 => bnd (fm_M_term N w1 6 0) (fun u2 r2 => lt (upL u2 139 r2) (fun w3 => some (w3, ()))))
set_option maxRecDepth 100000 in
set_option maxHeartbeats 4000000 in
theorem wb_M_handNone_0 {p : Program} {l : Launch} {e : Env} {R : Room} {s : State} {m : MethodId} {args : Array Value} {below : List Frame} {meth : Method} {c : Code} {D : va_G} {cl : List vw_C} {cB cI cJ cZ cS : ClassId} {A : Nat → Prop} {iM h0 : Nat} {ad : Nat → Nat} (C0 : MCx p s m args meth c b_M_handNone 1 none D cl cB cI cJ cZ cS iM A) (hR : R = rm_M_handNone) (N : Nat) (G : Unit) (hG : True) : ∀ (u : MS) (x : MS × Unit), fb_M_handNone_0 N G u = some x → ∀ (H : Heap) (locs : List Loc), va_P D cl (wM cB cI cJ cZ cS iM h0 ad u) H → va_D A (wM cB cI cJ cZ cS iM h0 ad u) → va_S A s.heap H locs → ∀ (ls : Array Slot), lv_has ls 1 [(0, .ref h0)] → W p l e R s m args below meth c H locs 0 0 (MQ below (mQv D cl cB cI cJ cZ cS iM h0 ad A x) args s 0 0 A) (F0 m 0 ls []) := by
  intro u x hf H locs hP hD hS ls hl
  obtain ⟨hx, hb, hr, hml, ht, hown, hM, hK, hA, hlocks⟩ := id C0
  unfold fb_M_handNone_0 at hf
  refine lv_aload_n hx hb d_M_handNone_0 rfl (lv_at hl 0 rfl) ?_
  refine lv_iconst (v := (-1)) hx hb d_M_handNone_1 (by decide) ?_
  refine up_I hx hb ht hown hM hK hP hD hS 140 (by decide) lk_M_140 (by decide) rfl rfl rfl d_M_handNone_2 (fun H locs hP hD hS => ?_)
  obtain ⟨w1, e1, hf⟩ := lt_some hf
  rw [← e1] at hP hD
  refine lv_aload_n hx hb d_M_handNone_5 rfl (lv_at hl 0 rfl) ?_
  refine lv_bipush (v := 6) hx hb d_M_handNone_6 (by decide) ?_
  refine lv_iconst (v := 0) hx hb d_M_handNone_8 (by decide) ?_
  obtain ⟨u2, r2, hc2, hf⟩ := bnd_some hf
  refine mS_l (As := [.int 6, .int 0]) (rest := [.ref h0]) C0 hP hD hS (c_M_term N hM hc2) k_M_term hl_M_term ht_M_term hini_M rfl rfl hd_M_term rfl (rm_M_handNone_M_term hR) hl.1 (Nat.le_of_ble_eq_true rfl) d_M_handNone_9 rfl ⟨Nat.zero_le _, Nat.zero_le _⟩ (fun H locs hP hD hS => ?_)
  refine up_L hx hb ht hown hM hK hP hD hS 139 (by decide) lk_M_139 (by decide) rfl rfl rfl d_M_handNone_12 (fun H locs hP hD hS => ?_)
  obtain ⟨w3, e3, hf⟩ := lt_some hf
  rw [← e3] at hP hD
  exact mr_v C0 hP hD hS hf d_M_handNone_15
def fm_M_handNone (N : Nat) (u : MS) : Option (MS × Unit) := fb_M_handNone_0 N () u
set_option maxRecDepth 100000 in
set_option maxHeartbeats 4000000 in
theorem c_M_handNone (N : Nat) {l : Launch} {D : va_G} {cl : List vw_C} {cB cI cJ cZ cS : ClassId} {iM h0 : Nat} {ad : Nat → Nat} {u : MS} {sz : Nat} {x : MS × Unit} (hM : cl[iM]? = some (R_M, F_M, 171)) (hf : fm_M_handNone N u = some x) : Met l y_M_handNone (wd_ws y_M_handNone b_M_handNone 1 none) rm_M_handNone (mPc D cl cB cI cJ cZ cS iM h0 ad u sz [.ref h0]) (mQv D cl cB cI cJ cZ cS iM h0 ad (mA cB cI cJ cZ cS iM h0 ad u sz) x) 0 0 (mA cB cI cJ cZ cS iM h0 ad u sz) :=
  mMet (by decide) rfl hM (Nat.le_of_ble_eq_true rfl) (fun p e s m below meth c ls hsz C0 hP hD hS hl => by
    have hR : rm_M_handNone = rm_M_handNone := rfl
    exact wb_M_handNone_0 C0 hR N () trivial u x hf s.heap [] hP hD hS ls (lv_sub hl [0] rfl))
abbrev b_M_wants : ByteArray := prog_14_method_90_code
def y_M_wants : MethodName := ⟨R_M, "wants", "(II)Z"⟩
def w_M_wants : List Cond := wd_ws y_M_wants b_M_wants 3 (some .boolean)
set_option maxRecDepth 100000 in
theorem k_M_wants : Cond.code y_M_wants b_M_wants 3 (some .boolean) ∈ wd_tbl := wd_of 2956 rfl rfl
theorem d_M_wants_0 : decode b_M_wants 0 = .ok (.aload_n 0, 1) := by decide +kernel
theorem d_M_wants_1 : decode b_M_wants 1 = .ok (.getfield 192, 3) := by decide +kernel
theorem d_M_wants_4 : decode b_M_wants 4 = .ok (.iload_n 1, 1) := by decide +kernel
theorem d_M_wants_5 : decode b_M_wants 5 = .ok (.iaload, 1) := by decide +kernel
theorem d_M_wants_6 : decode b_M_wants 6 = .ok (.iload_n 2, 1) := by decide +kernel
theorem d_M_wants_7 : decode b_M_wants 7 = .ok (.iadd, 1) := by decide +kernel
theorem d_M_wants_8 : decode b_M_wants 8 = .ok (.sipush 500, 3) := by decide +kernel
theorem d_M_wants_11 : decode b_M_wants 11 = .ok (.if_icmp .le 8, 3) := by decide +kernel
theorem d_M_wants_14 : decode b_M_wants 14 = .ok (.aload_n 0, 1) := by decide +kernel
theorem d_M_wants_15 : decode b_M_wants 15 = .ok (.iload_n 1, 1) := by decide +kernel
theorem d_M_wants_16 : decode b_M_wants 16 = .ok (.invokevirtual 709, 3) := by decide +kernel
theorem d_M_wants_19 : decode b_M_wants 19 = .ok (.aload_n 0, 1) := by decide +kernel
theorem d_M_wants_20 : decode b_M_wants 20 = .ok (.getfield 192, 3) := by decide +kernel
theorem d_M_wants_23 : decode b_M_wants 23 = .ok (.iload_n 1, 1) := by decide +kernel
theorem d_M_wants_24 : decode b_M_wants 24 = .ok (.iaload, 1) := by decide +kernel
theorem d_M_wants_25 : decode b_M_wants 25 = .ok (.iload_n 2, 1) := by decide +kernel
theorem d_M_wants_26 : decode b_M_wants 26 = .ok (.iadd, 1) := by decide +kernel
theorem d_M_wants_27 : decode b_M_wants 27 = .ok (.sipush 500, 3) := by decide +kernel
theorem d_M_wants_30 : decode b_M_wants 30 = .ok (.if_icmp .gt 7, 3) := by decide +kernel
theorem d_M_wants_33 : decode b_M_wants 33 = .ok (.iconst 1, 1) := by decide +kernel
theorem d_M_wants_34 : decode b_M_wants 34 = .ok (.goto 4, 3) := by decide +kernel
theorem d_M_wants_37 : decode b_M_wants 37 = .ok (.iconst 0, 1) := by decide +kernel
theorem d_M_wants_38 : decode b_M_wants 38 = .ok (.ireturn, 1) := by decide +kernel
set_option maxRecDepth 100000 in
theorem hl_M_wants : Cond.methodLink R_M 776 y_M_wants ∈ wd_tbl := wd_of 2953 (by decide +kernel) rfl
set_option maxRecDepth 100000 in
theorem hi_M_wants : Cond.instanceMethod y_M_wants ∈ wd_tbl := wd_of 2955 (by decide +kernel) rfl
set_option maxRecDepth 100000 in
theorem hs_M_wants : Cond.selects R_M y_M_wants y_M_wants ∈ wd_tbl := wd_of 199 (by decide +kernel) rfl
theorem hd_M_wants : y_M_wants.cls = R_M ∧ y_M_wants.cls ≠ "java/lang/invoke/MethodHandle" ∧ y_M_wants.cls ≠ "java/lang/invoke/VarHandle" ∧ (parseMethodDescriptor y_M_wants.desc).map (fun d => d.parameters.length) = some 2 := by decide +kernel
def rm_M_wants : Room := { frames := 4, cells := 0, slots := 0, locals := 101 }
theorem rm_M_wants_M_clear {R : Room} (hR : R = rm_M_wants) : (rm_M_clear).frames + 1 ≤ R.frames ∧ 8 + (9 + 11) + (rm_M_clear).locals ≤ R.locals := by subst hR; decide
def fb_M_wants_38 (N : Nat) (G : Unit) (u : MS) (t0 : Int32) : Option (MS × Int32) := ck (isb t0) (some (u, t0))
set_option maxRecDepth 100000 in
set_option maxHeartbeats 4000000 in
theorem wb_M_wants_38 {p : Program} {l : Launch} {e : Env} {R : Room} {s : State} {m : MethodId} {args : Array Value} {below : List Frame} {meth : Method} {c : Code} {D : va_G} {cl : List vw_C} {cB cI cJ cZ cS : ClassId} {A : Nat → Prop} {iM h0 : Nat} {ad : Nat → Nat} (C0 : MCx p s m args meth c b_M_wants 3 (some .boolean) D cl cB cI cJ cZ cS iM A) (hR : R = rm_M_wants) (N : Nat) (G : Unit) (hG : True) : ∀ (u : MS) (t0 : Int32) (x : MS × Int32), fb_M_wants_38 N G u t0 = some x → ∀ (H : Heap) (locs : List Loc), va_P D cl (wM cB cI cJ cZ cS iM h0 ad u) H → va_D A (wM cB cI cJ cZ cS iM h0 ad u) → va_S A s.heap H locs → ∀ (ls : Array Slot), lv_has ls 3 [] → W p l e R s m args below meth c H locs 0 0 (MQ below (mQi D cl cB cI cJ cZ cS iM h0 ad A x) args s 0 0 A) (F0 m 38 ls [.int t0]) := by
  intro u t0 x hf H locs hP hD hS ls hl
  obtain ⟨hx, hb, hr, hml, ht, hown, hM, hK, hA, hlocks⟩ := id C0
  unfold fb_M_wants_38 at hf
  obtain ⟨hz, hf⟩ := ck_some hf
  exact mr_z C0 hP hD hS hz hf d_M_wants_38
def fb_M_wants_19 (N : Nat) (G : Unit) (u : MS) (v1 : Int32) (v2 : Int32) : Option (MS × Int32) := ck (inb v1 (ln 89)) (br (decide (500 < ((u.2.2.1 89 v1.toNatClampNeg) + v2))) (fb_M_wants_38 N G u (0)) (fb_M_wants_38 N G u (1)))
set_option maxRecDepth 100000 in
set_option maxHeartbeats 4000000 in
theorem wb_M_wants_19 {p : Program} {l : Launch} {e : Env} {R : Room} {s : State} {m : MethodId} {args : Array Value} {below : List Frame} {meth : Method} {c : Code} {D : va_G} {cl : List vw_C} {cB cI cJ cZ cS : ClassId} {A : Nat → Prop} {iM h0 : Nat} {ad : Nat → Nat} (C0 : MCx p s m args meth c b_M_wants 3 (some .boolean) D cl cB cI cJ cZ cS iM A) (hR : R = rm_M_wants) (N : Nat) (G : Unit) (hG : True) : ∀ (u : MS) (v1 : Int32) (v2 : Int32) (x : MS × Int32), fb_M_wants_19 N G u v1 v2 = some x → ∀ (H : Heap) (locs : List Loc), va_P D cl (wM cB cI cJ cZ cS iM h0 ad u) H → va_D A (wM cB cI cJ cZ cS iM h0 ad u) → va_S A s.heap H locs → ∀ (ls : Array Slot), lv_has ls 3 [(0, .ref h0), (1, .int v1), (2, .int v2)] → W p l e R s m args below meth c H locs 0 0 (MQ below (mQi D cl cB cI cJ cZ cS iM h0 ad A x) args s 0 0 A) (F0 m 19 ls []) := by
  intro u v1 v2 x hf H locs hP hD hS ls hl
  obtain ⟨hx, hb, hr, hml, ht, hown, hM, hK, hA, hlocks⟩ := id C0
  unfold fb_M_wants_19 at hf
  refine lv_aload_n hx hb d_M_wants_19 rfl (lv_at hl 0 rfl) ?_
  refine ug_R hx hb ht hown hM hK hP 89 (by decide) lk_M_89 (by decide) d_M_wants_20 ?_
  refine lv_iload_n hx hb d_M_wants_23 rfl (lv_at hl 1 rfl) ?_
  obtain ⟨hi9, hf⟩ := ck_some hf
  refine ul_I hx hb hK hP (by decide) (by decide) hi9 d_M_wants_24 ?_
  refine lv_iload_n hx hb d_M_wants_25 rfl (lv_at hl 2 rfl) ?_
  refine lv_iadd hx hb d_M_wants_26 ?_
  refine lv_sipush (v := 500) hx hb d_M_wants_27 (by decide) ?_
  refine lv_icmp_gt (tgt := 37) hx hb d_M_wants_30 (by decide) (fun hc => ?_) (fun hc => ?_)
  · rw [br_p _ hc] at hf
    refine lv_iconst (v := 0) hx hb d_M_wants_37 (by decide) ?_
    exact wb_M_wants_38 C0 hR N G hG _ _ _ hf H locs hP hD hS ls (lv_sub hl [] rfl)
  · rw [br_n _ hc] at hf
    refine lv_iconst (v := 1) hx hb d_M_wants_33 (by decide) ?_
    refine lv_goto (tgt := 38) hx hb d_M_wants_34 (by decide) ?_
    exact wb_M_wants_38 C0 hR N G hG _ _ _ hf H locs hP hD hS ls (lv_sub hl [] rfl)
def fb_M_wants_0 (N : Nat) (G : Unit) (u : MS) (v1 : Int32) (v2 : Int32) : Option (MS × Int32) := ck (inb v1 (ln 89)) (br (decide (((u.2.2.1 89 v1.toNatClampNeg) + v2) ≤ 500)) (fb_M_wants_19 N G u (v1) (v2)) (bnd (fm_M_clear N u v1) (fun u1 _ => fb_M_wants_19 N G u1 (v1) (v2))))
set_option maxRecDepth 100000 in
set_option maxHeartbeats 4000000 in
theorem wb_M_wants_0 {p : Program} {l : Launch} {e : Env} {R : Room} {s : State} {m : MethodId} {args : Array Value} {below : List Frame} {meth : Method} {c : Code} {D : va_G} {cl : List vw_C} {cB cI cJ cZ cS : ClassId} {A : Nat → Prop} {iM h0 : Nat} {ad : Nat → Nat} (C0 : MCx p s m args meth c b_M_wants 3 (some .boolean) D cl cB cI cJ cZ cS iM A) (hR : R = rm_M_wants) (N : Nat) (G : Unit) (hG : True) : ∀ (u : MS) (v1 : Int32) (v2 : Int32) (x : MS × Int32), fb_M_wants_0 N G u v1 v2 = some x → ∀ (H : Heap) (locs : List Loc), va_P D cl (wM cB cI cJ cZ cS iM h0 ad u) H → va_D A (wM cB cI cJ cZ cS iM h0 ad u) → va_S A s.heap H locs → ∀ (ls : Array Slot), lv_has ls 3 [(0, .ref h0), (1, .int v1), (2, .int v2)] → W p l e R s m args below meth c H locs 0 0 (MQ below (mQi D cl cB cI cJ cZ cS iM h0 ad A x) args s 0 0 A) (F0 m 0 ls []) := by
  intro u v1 v2 x hf H locs hP hD hS ls hl
  obtain ⟨hx, hb, hr, hml, ht, hown, hM, hK, hA, hlocks⟩ := id C0
  unfold fb_M_wants_0 at hf
  refine lv_aload_n hx hb d_M_wants_0 rfl (lv_at hl 0 rfl) ?_
  refine ug_R hx hb ht hown hM hK hP 89 (by decide) lk_M_89 (by decide) d_M_wants_1 ?_
  refine lv_iload_n hx hb d_M_wants_4 rfl (lv_at hl 1 rfl) ?_
  obtain ⟨hi9, hf⟩ := ck_some hf
  refine ul_I hx hb hK hP (by decide) (by decide) hi9 d_M_wants_5 ?_
  refine lv_iload_n hx hb d_M_wants_6 rfl (lv_at hl 2 rfl) ?_
  refine lv_iadd hx hb d_M_wants_7 ?_
  refine lv_sipush (v := 500) hx hb d_M_wants_8 (by decide) ?_
  refine lv_icmp_le (tgt := 19) hx hb d_M_wants_11 (by decide) (fun hc => ?_) (fun hc => ?_)
  · rw [br_p _ hc] at hf
    exact wb_M_wants_19 C0 hR N G hG _ _ _ _ hf H locs hP hD hS ls (lv_sub hl [0, 1, 2] rfl)
  · rw [br_n _ hc] at hf
    refine lv_aload_n hx hb d_M_wants_14 rfl (lv_at hl 0 rfl) ?_
    refine lv_iload_n hx hb d_M_wants_15 rfl (lv_at hl 1 rfl) ?_
    obtain ⟨u1, r1, hc1, hf⟩ := bnd_some hf
    refine mV_v (As := [.int v1]) (rest := []) C0 hP hD hS (c_M_clear N hM hc1) k_M_clear hl_M_clear hi_M_clear hs_M_clear hini_M rfl rfl hd_M_clear rfl (rm_M_wants_M_clear hR) hl.1 (Nat.le_of_ble_eq_true rfl) d_M_wants_16 rfl ⟨Nat.zero_le _, Nat.zero_le _⟩ (fun H locs hP hD hS => ?_)
    exact wb_M_wants_19 C0 hR N G hG _ _ _ _ hf H locs hP hD hS ls (lv_sub hl [0, 1, 2] rfl)
def fm_M_wants (N : Nat) (u : MS) (v1 : Int32) (v2 : Int32) : Option (MS × Int32) := fb_M_wants_0 N () u v1 v2
set_option maxRecDepth 100000 in
set_option maxHeartbeats 4000000 in
theorem c_M_wants (N : Nat) {l : Launch} {D : va_G} {cl : List vw_C} {cB cI cJ cZ cS : ClassId} {iM h0 : Nat} {ad : Nat → Nat} {u : MS} {sz : Nat} {v1 : Int32} {v2 : Int32} {x : MS × Int32} (hM : cl[iM]? = some (R_M, F_M, 171)) (hf : fm_M_wants N u v1 v2 = some x) : Met l y_M_wants (wd_ws y_M_wants b_M_wants 3 (some .boolean)) rm_M_wants (mPc D cl cB cI cJ cZ cS iM h0 ad u sz [.ref h0, .int v1, .int v2]) (mQi D cl cB cI cJ cZ cS iM h0 ad (mA cB cI cJ cZ cS iM h0 ad u sz) x) 0 0 (mA cB cI cJ cZ cS iM h0 ad u sz) :=
  mMet (by decide) rfl hM (Nat.le_of_ble_eq_true rfl) (fun p e s m below meth c ls hsz C0 hP hD hS hl => by
    have hR : rm_M_wants = rm_M_wants := rfl
    exact wb_M_wants_0 C0 hR N () trivial u _ _ x hf s.heap [] hP hD hS ls (lv_sub hl [0, 1, 2] rfl))
abbrev b_M_copySize : ByteArray := prog_14_method_91_code
def y_M_copySize : MethodName := ⟨R_M, "copySize", "(IJ)I"⟩
def w_M_copySize : List Cond := wd_ws y_M_copySize b_M_copySize 10 (some .int)
set_option maxRecDepth 100000 in
theorem k_M_copySize : Cond.code y_M_copySize b_M_copySize 10 (some .int) ∈ wd_tbl := wd_of 3102 rfl rfl
theorem d_M_copySize_0 : decode b_M_copySize 0 = .ok (.iconst 0, 1) := by decide +kernel
theorem d_M_copySize_1 : decode b_M_copySize 1 = .ok (.istore 4, 2) := by decide +kernel
theorem d_M_copySize_3 : decode b_M_copySize 3 = .ok (.iconst 1, 1) := by decide +kernel
theorem d_M_copySize_4 : decode b_M_copySize 4 = .ok (.istore 5, 2) := by decide +kernel
theorem d_M_copySize_6 : decode b_M_copySize 6 = .ok (.aload_n 0, 1) := by decide +kernel
theorem d_M_copySize_7 : decode b_M_copySize 7 = .ok (.getfield 327, 3) := by decide +kernel
theorem d_M_copySize_10 : decode b_M_copySize 10 = .ok (.iconst 0, 1) := by decide +kernel
theorem d_M_copySize_11 : decode b_M_copySize 11 = .ok (.lload_n 2, 1) := by decide +kernel
theorem d_M_copySize_12 : decode b_M_copySize 12 = .ok (.lastore, 1) := by decide +kernel
theorem d_M_copySize_13 : decode b_M_copySize 13 = .ok (.iload 5, 2) := by decide +kernel
theorem d_M_copySize_15 : decode b_M_copySize 15 = .ok (.ifCond .le 101, 3) := by decide +kernel
theorem d_M_copySize_18 : decode b_M_copySize 18 = .ok (.iload 4, 2) := by decide +kernel
theorem d_M_copySize_20 : decode b_M_copySize 20 = .ok (.sipush 500, 3) := by decide +kernel
theorem d_M_copySize_23 : decode b_M_copySize 23 = .ok (.if_icmp .gt 93, 3) := by decide +kernel
theorem d_M_copySize_26 : decode b_M_copySize 26 = .ok (.iinc 5 (-1), 3) := by decide +kernel
theorem d_M_copySize_29 : decode b_M_copySize 29 = .ok (.aload_n 0, 1) := by decide +kernel
theorem d_M_copySize_30 : decode b_M_copySize 30 = .ok (.getfield 327, 3) := by decide +kernel
theorem d_M_copySize_33 : decode b_M_copySize 33 = .ok (.iload 5, 2) := by decide +kernel
theorem d_M_copySize_35 : decode b_M_copySize 35 = .ok (.laload, 1) := by decide +kernel
theorem d_M_copySize_36 : decode b_M_copySize 36 = .ok (.lstore 6, 2) := by decide +kernel
theorem d_M_copySize_38 : decode b_M_copySize 38 = .ok (.lload 6, 2) := by decide +kernel
theorem d_M_copySize_40 : decode b_M_copySize 40 = .ok (.invokestatic 686, 3) := by decide +kernel
theorem d_M_copySize_43 : decode b_M_copySize 43 = .ok (.ifCond .eq 70, 3) := by decide +kernel
theorem d_M_copySize_46 : decode b_M_copySize 46 = .ok (.aload_n 0, 1) := by decide +kernel
theorem d_M_copySize_47 : decode b_M_copySize 47 = .ok (.iload_n 1, 1) := by decide +kernel
theorem d_M_copySize_48 : decode b_M_copySize 48 = .ok (.lload 6, 2) := by decide +kernel
theorem d_M_copySize_50 : decode b_M_copySize 50 = .ok (.invokevirtual 690, 3) := by decide +kernel
theorem d_M_copySize_53 : decode b_M_copySize 53 = .ok (.istore 8, 2) := by decide +kernel
theorem d_M_copySize_55 : decode b_M_copySize 55 = .ok (.iload 4, 2) := by decide +kernel
theorem d_M_copySize_57 : decode b_M_copySize 57 = .ok (.iload 8, 2) := by decide +kernel
theorem d_M_copySize_59 : decode b_M_copySize 59 = .ok (.iadd, 1) := by decide +kernel
theorem d_M_copySize_60 : decode b_M_copySize 60 = .ok (.istore 4, 2) := by decide +kernel
theorem d_M_copySize_62 : decode b_M_copySize 62 = .ok (.lload 6, 2) := by decide +kernel
theorem d_M_copySize_64 : decode b_M_copySize 64 = .ok (.invokestatic 706, 3) := by decide +kernel
theorem d_M_copySize_67 : decode b_M_copySize 67 = .ok (.istore 9, 2) := by decide +kernel
theorem d_M_copySize_69 : decode b_M_copySize 69 = .ok (.iload 9, 2) := by decide +kernel
theorem d_M_copySize_71 : decode b_M_copySize 71 = .ok (.iload 8, 2) := by decide +kernel
theorem d_M_copySize_73 : decode b_M_copySize 73 = .ok (.if_icmp .ge 40, 3) := by decide +kernel
theorem d_M_copySize_76 : decode b_M_copySize 76 = .ok (.iload 4, 2) := by decide +kernel
theorem d_M_copySize_78 : decode b_M_copySize 78 = .ok (.sipush 500, 3) := by decide +kernel
theorem d_M_copySize_81 : decode b_M_copySize 81 = .ok (.if_icmp .gt 32, 3) := by decide +kernel
theorem d_M_copySize_84 : decode b_M_copySize 84 = .ok (.aload_n 0, 1) := by decide +kernel
theorem d_M_copySize_85 : decode b_M_copySize 85 = .ok (.getfield 327, 3) := by decide +kernel
theorem d_M_copySize_88 : decode b_M_copySize 88 = .ok (.iload 5, 2) := by decide +kernel
theorem d_M_copySize_90 : decode b_M_copySize 90 = .ok (.aload_n 0, 1) := by decide +kernel
theorem d_M_copySize_91 : decode b_M_copySize 91 = .ok (.iload_n 1, 1) := by decide +kernel
theorem d_M_copySize_92 : decode b_M_copySize 92 = .ok (.lload 6, 2) := by decide +kernel
theorem d_M_copySize_94 : decode b_M_copySize 94 = .ok (.invokestatic 680, 3) := by decide +kernel
theorem d_M_copySize_97 : decode b_M_copySize 97 = .ok (.iload 9, 2) := by decide +kernel
theorem d_M_copySize_99 : decode b_M_copySize 99 = .ok (.iadd, 1) := by decide +kernel
theorem d_M_copySize_100 : decode b_M_copySize 100 = .ok (.invokevirtual 683, 3) := by decide +kernel
theorem d_M_copySize_103 : decode b_M_copySize 103 = .ok (.lastore, 1) := by decide +kernel
theorem d_M_copySize_104 : decode b_M_copySize 104 = .ok (.iinc 5 1, 3) := by decide +kernel
theorem d_M_copySize_107 : decode b_M_copySize 107 = .ok (.iinc 9 1, 3) := by decide +kernel
theorem d_M_copySize_110 : decode b_M_copySize 110 = .ok (.goto (-41), 3) := by decide +kernel
theorem d_M_copySize_113 : decode b_M_copySize 113 = .ok (.goto (-100), 3) := by decide +kernel
theorem d_M_copySize_116 : decode b_M_copySize 116 = .ok (.iload 4, 2) := by decide +kernel
theorem d_M_copySize_118 : decode b_M_copySize 118 = .ok (.sipush 500, 3) := by decide +kernel
theorem d_M_copySize_121 : decode b_M_copySize 121 = .ok (.if_icmp .le 9, 3) := by decide +kernel
theorem d_M_copySize_124 : decode b_M_copySize 124 = .ok (.sipush 501, 3) := by decide +kernel
theorem d_M_copySize_127 : decode b_M_copySize 127 = .ok (.goto 5, 3) := by decide +kernel
theorem d_M_copySize_130 : decode b_M_copySize 130 = .ok (.iload 4, 2) := by decide +kernel
theorem d_M_copySize_132 : decode b_M_copySize 132 = .ok (.ireturn, 1) := by decide +kernel
set_option maxRecDepth 100000 in
theorem hl_M_copySize : Cond.methodLink R_M 770 y_M_copySize ∈ wd_tbl := wd_of 3099 (by decide +kernel) rfl
set_option maxRecDepth 100000 in
theorem hi_M_copySize : Cond.instanceMethod y_M_copySize ∈ wd_tbl := wd_of 3101 (by decide +kernel) rfl
set_option maxRecDepth 100000 in
theorem hs_M_copySize : Cond.selects R_M y_M_copySize y_M_copySize ∈ wd_tbl := wd_of 230 (by decide +kernel) rfl
theorem hd_M_copySize : y_M_copySize.cls = R_M ∧ y_M_copySize.cls ≠ "java/lang/invoke/MethodHandle" ∧ y_M_copySize.cls ≠ "java/lang/invoke/VarHandle" ∧ (parseMethodDescriptor y_M_copySize.desc).map (fun d => d.parameters.length) = some 2 := by decide +kernel
def rm_M_copySize : Room := { frames := 2, cells := 0, slots := 0, locals := 47 }
theorem rm_M_copySize_M_inHeap {R : Room} (hR : R = rm_M_copySize) : (rm_M_inHeap).frames + 1 ≤ R.frames ∧ 8 + (3 + 11) + (rm_M_inHeap).locals ≤ R.locals := by subst hR; decide
theorem rm_M_copySize_M_sizeOf {R : Room} (hR : R = rm_M_copySize) : (rm_M_sizeOf).frames + 1 ≤ R.frames ∧ 8 + (6 + 11) + (rm_M_sizeOf).locals ≤ R.locals := by subst hR; decide
theorem rm_M_copySize_M_partsFrom {R : Room} (hR : R = rm_M_copySize) : (rm_M_partsFrom).frames + 1 ≤ R.frames ∧ 8 + (3 + 11) + (rm_M_partsFrom).locals ≤ R.locals := by subst hR; decide
theorem rm_M_copySize_M_valueOf {R : Room} (hR : R = rm_M_copySize) : (rm_M_valueOf).frames + 1 ≤ R.frames ∧ 8 + (2 + 11) + (rm_M_valueOf).locals ≤ R.locals := by subst hR; decide
theorem rm_M_copySize_M_cell {R : Room} (hR : R = rm_M_copySize) : (rm_M_cell).frames + 1 ≤ R.frames ∧ 8 + (3 + 11) + (rm_M_cell).locals ≤ R.locals := by subst hR; decide
