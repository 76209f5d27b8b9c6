def fb_M_boundIn_0 (N : Nat) (G : (MS → Int32 → Int32 → Int32 → Option (MS × Int32))) (u : MS) (v1 : Int32) (v2 : Int32) : Option (MS × Int32) := G u (v1) (v2) (0)
set_option maxRecDepth 100000 in
set_option maxHeartbeats 4000000 in
theorem wb_M_boundIn_0 {p : Program} {l : Launch} {e : Env} {R : Room} {s : State} {m : MethodId} {args : Array Value} {below : List Frame} {meth : Method} {c : Code} {D : va_G} {cl : List vw_C} {cB cI cJ cZ cS : ClassId} {A : Nat → Prop} {iM h0 : Nat} {ad : Nat → Nat} (C0 : MCx p s m args meth c b_M_boundIn 4 (some .int) D cl cB cI cJ cZ cS iM A) (hR : R = rm_M_boundIn) (N : Nat) (G : (MS → Int32 → Int32 → Int32 → Option (MS × Int32))) (hG : (∀ (u : MS) (v1 : Int32) (v2 : Int32) (v3 : Int32) (x : MS × Int32), G u v1 v2 v3 = some x → ∀ (H : Heap) (locs : List Loc), va_P D cl (wM cB cI cJ cZ cS iM h0 ad u) H → va_D A (wM cB cI cJ cZ cS iM h0 ad u) → va_S A s.heap H locs → ∀ (ls : Array Slot), lv_has ls 4 [(0, .ref h0), (1, .int v1), (2, .int v2), (3, .int v3)] → W p l e R s m args below meth c H locs 0 0 (MQ below (mQi D cl cB cI cJ cZ cS iM h0 ad A x) args s 0 0 A) (F0 m 2 ls []))) : ∀ (u : MS) (v1 : Int32) (v2 : Int32) (x : MS × Int32), fb_M_boundIn_0 N G u v1 v2 = some x → ∀ (H : Heap) (locs : List Loc), va_P D cl (wM cB cI cJ cZ cS iM h0 ad u) H → va_D A (wM cB cI cJ cZ cS iM h0 ad u) → va_S A s.heap H locs → ∀ (ls : Array Slot), lv_has ls 4 [(0, .ref h0), (1, .int v1), (2, .int v2)] → W p l e R s m args below meth c H locs 0 0 (MQ below (mQi D cl cB cI cJ cZ cS iM h0 ad A x) args s 0 0 A) (F0 m 0 ls []) := by
  intro u v1 v2 x hf H locs hP hD hS ls hl
  obtain ⟨hx, hb, hr, hml, ht, hown, hM, hK, hA, hlocks⟩ := id C0
  unfold fb_M_boundIn_0 at hf
  refine lv_iconst (v := 0) hx hb d_M_boundIn_0 (by decide) ?_
  refine lv_istore_n (lv' := [(3, .int 0), (0, .ref h0), (1, .int v1), (2, .int v2)]) hx hb d_M_boundIn_1 rfl hl (by decide) rfl (fun ls hl => ?_)
  exact hG _ _ _ _ _ hf H locs hP hD hS ls (lv_sub hl [1, 2, 3, 0] rfl)
def gg_M_boundIn (N : Nat) : Nat → ((MS → Int32 → Int32 → Int32 → Option (MS × Int32)))
  | 0 => fun _ _ _ _ => none
  | n + 1 => fb_M_boundIn_2 N (gg_M_boundIn N n)
theorem wg_M_boundIn {p : Program} {l : Launch} {e : Env} {R : Room} {s : State} {m : MethodId} {args : Array Value} {below : List Frame} {meth : Method} {c : Code} {D : va_G} {cl : List vw_C} {cB cI cJ cZ cS : ClassId} {A : Nat → Prop} {iM h0 : Nat} {ad : Nat → Nat} (C0 : MCx p s m args meth c b_M_boundIn 4 (some .int) D cl cB cI cJ cZ cS iM A) (hR : R = rm_M_boundIn) (N : Nat) : ∀ n : Nat, (∀ (u : MS) (v1 : Int32) (v2 : Int32) (v3 : Int32) (x : MS × Int32), gg_M_boundIn N n u v1 v2 v3 = some x → ∀ (H : Heap) (locs : List Loc), va_P D cl (wM cB cI cJ cZ cS iM h0 ad u) H → va_D A (wM cB cI cJ cZ cS iM h0 ad u) → va_S A s.heap H locs → ∀ (ls : Array Slot), lv_has ls 4 [(0, .ref h0), (1, .int v1), (2, .int v2), (3, .int v3)] → W p l e R s m args below meth c H locs 0 0 (MQ below (mQi D cl cB cI cJ cZ cS iM h0 ad A x) args s 0 0 A) (F0 m 2 ls []))
  | 0 => (fun u v1 v2 v3 x hf => by cases hf)
  | n + 1 => wb_M_boundIn_2 C0 hR N (gg_M_boundIn N n) (wg_M_boundIn C0 hR N n)
def fm_M_boundIn (N : Nat) (u : MS) (v1 : Int32) (v2 : Int32) : Option (MS × Int32) := fb_M_boundIn_0 N (gg_M_boundIn N N) u v1 v2
set_option maxRecDepth 100000 in
set_option maxHeartbeats 4000000 in
theorem c_M_boundIn (N : Nat) {l : Launch} {D : va_G} {cl : List vw_C} {cB cI cJ cZ cS : ClassId} {iM h0 : Nat} {ad : Nat → Nat} {u : MS} {sz : Nat} {v1 : Int32} {v2 : Int32} {x : MS × Int32} (hM : cl[iM]? = some (R_M, F_M, 171)) (hf : fm_M_boundIn N u v1 v2 = some x) : Met l y_M_boundIn (wd_ws y_M_boundIn b_M_boundIn 4 (some .int)) rm_M_boundIn (mPc D cl cB cI cJ cZ cS iM h0 ad u sz [.ref h0, .int v1, .int v2]) (mQi D cl cB cI cJ cZ cS iM h0 ad (mA cB cI cJ cZ cS iM h0 ad u sz) x) 0 0 (mA cB cI cJ cZ cS iM h0 ad u sz) :=
  mMet (by decide) rfl hM (Nat.le_of_ble_eq_true rfl) (fun p e s m below meth c ls hsz C0 hP hD hS hl => by
    have hR : rm_M_boundIn = rm_M_boundIn := rfl
    exact wb_M_boundIn_0 C0 hR N (gg_M_boundIn N N) (wg_M_boundIn C0 hR N N) u _ _ x hf s.heap [] hP hD hS ls (lv_sub hl [0, 1, 2] rfl))
abbrev b_M_found : ByteArray := prog_14_method_32_code
def y_M_found : MethodName := ⟨R_M, "found", "(II)I"⟩
def w_M_found : List Cond := wd_ws y_M_found b_M_found 5 (some .int)
set_option maxRecDepth 100000 in
theorem k_M_found : Cond.code y_M_found b_M_found 5 (some .int) ∈ wd_tbl := wd_of 2747 rfl rfl
theorem d_M_found_0 : decode b_M_found 0 = .ok (.aload_n 0, 1) := by decide +kernel
theorem d_M_found_1 : decode b_M_found 1 = .ok (.iload_n 1, 1) := by decide +kernel
theorem d_M_found_2 : decode b_M_found 2 = .ok (.iload_n 2, 1) := by decide +kernel
theorem d_M_found_3 : decode b_M_found 3 = .ok (.invokevirtual 487, 3) := by decide +kernel
theorem d_M_found_6 : decode b_M_found 6 = .ok (.istore_n 3, 1) := by decide +kernel
theorem d_M_found_7 : decode b_M_found 7 = .ok (.iload_n 3, 1) := by decide +kernel
theorem d_M_found_8 : decode b_M_found 8 = .ok (.iconst (-1), 1) := by decide +kernel
theorem d_M_found_9 : decode b_M_found 9 = .ok (.if_icmp .eq 5, 3) := by decide +kernel
theorem d_M_found_12 : decode b_M_found 12 = .ok (.iload_n 3, 1) := by decide +kernel
theorem d_M_found_13 : decode b_M_found 13 = .ok (.ireturn, 1) := by decide +kernel
theorem d_M_found_14 : decode b_M_found 14 = .ok (.iconst 0, 1) := by decide +kernel
theorem d_M_found_15 : decode b_M_found 15 = .ok (.istore 4, 2) := by decide +kernel
theorem d_M_found_17 : decode b_M_found 17 = .ok (.iload 4, 2) := by decide +kernel
theorem d_M_found_19 : decode b_M_found 19 = .ok (.aload_n 0, 1) := by decide +kernel
theorem d_M_found_20 : decode b_M_found 20 = .ok (.getfield 162, 3) := by decide +kernel
theorem d_M_found_23 : decode b_M_found 23 = .ok (.iload_n 1, 1) := by decide +kernel
theorem d_M_found_24 : decode b_M_found 24 = .ok (.iaload, 1) := by decide +kernel
theorem d_M_found_25 : decode b_M_found 25 = .ok (.if_icmp .ge 32, 3) := by decide +kernel
theorem d_M_found_28 : decode b_M_found 28 = .ok (.aload_n 0, 1) := by decide +kernel
theorem d_M_found_29 : decode b_M_found 29 = .ok (.getfield 156, 3) := by decide +kernel
theorem d_M_found_32 : decode b_M_found 32 = .ok (.sipush 1400, 3) := by decide +kernel
theorem d_M_found_35 : decode b_M_found 35 = .ok (.iload_n 1, 1) := by decide +kernel
theorem d_M_found_36 : decode b_M_found 36 = .ok (.imul, 1) := by decide +kernel
theorem d_M_found_37 : decode b_M_found 37 = .ok (.iload 4, 2) := by decide +kernel
theorem d_M_found_39 : decode b_M_found 39 = .ok (.iadd, 1) := by decide +kernel
theorem d_M_found_40 : decode b_M_found 40 = .ok (.iaload, 1) := by decide +kernel
theorem d_M_found_41 : decode b_M_found 41 = .ok (.iload_n 2, 1) := by decide +kernel
theorem d_M_found_42 : decode b_M_found 42 = .ok (.if_icmp .ne 9, 3) := by decide +kernel
theorem d_M_found_45 : decode b_M_found 45 = .ok (.bipush (-2), 2) := by decide +kernel
theorem d_M_found_47 : decode b_M_found 47 = .ok (.iload 4, 2) := by decide +kernel
theorem d_M_found_49 : decode b_M_found 49 = .ok (.isub, 1) := by decide +kernel
theorem d_M_found_50 : decode b_M_found 50 = .ok (.ireturn, 1) := by decide +kernel
theorem d_M_found_51 : decode b_M_found 51 = .ok (.iinc 4 1, 3) := by decide +kernel
theorem d_M_found_54 : decode b_M_found 54 = .ok (.goto (-37), 3) := by decide +kernel
theorem d_M_found_57 : decode b_M_found 57 = .ok (.iload_n 1, 1) := by decide +kernel
theorem d_M_found_58 : decode b_M_found 58 = .ok (.ifCond .ne 5, 3) := by decide +kernel
theorem d_M_found_61 : decode b_M_found 61 = .ok (.iconst (-1), 1) := by decide +kernel
theorem d_M_found_62 : decode b_M_found 62 = .ok (.ireturn, 1) := by decide +kernel
theorem d_M_found_63 : decode b_M_found 63 = .ok (.aload_n 0, 1) := by decide +kernel
theorem d_M_found_64 : decode b_M_found 64 = .ok (.iload_n 1, 1) := by decide +kernel
theorem d_M_found_65 : decode b_M_found 65 = .ok (.iconst 1, 1) := by decide +kernel
theorem d_M_found_66 : decode b_M_found 66 = .ok (.isub, 1) := by decide +kernel
theorem d_M_found_67 : decode b_M_found 67 = .ok (.iload_n 2, 1) := by decide +kernel
theorem d_M_found_68 : decode b_M_found 68 = .ok (.invokevirtual 490, 3) := by decide +kernel
theorem d_M_found_71 : decode b_M_found 71 = .ok (.istore 4, 2) := by decide +kernel
theorem d_M_found_73 : decode b_M_found 73 = .ok (.iload 4, 2) := by decide +kernel
theorem d_M_found_75 : decode b_M_found 75 = .ok (.iconst (-1), 1) := by decide +kernel
theorem d_M_found_76 : decode b_M_found 76 = .ok (.if_icmp .ne 5, 3) := by decide +kernel
theorem d_M_found_79 : decode b_M_found 79 = .ok (.iconst (-1), 1) := by decide +kernel
theorem d_M_found_80 : decode b_M_found 80 = .ok (.ireturn, 1) := by decide +kernel
theorem d_M_found_81 : decode b_M_found 81 = .ok (.aload_n 0, 1) := by decide +kernel
theorem d_M_found_82 : decode b_M_found 82 = .ok (.getfield 162, 3) := by decide +kernel
theorem d_M_found_85 : decode b_M_found 85 = .ok (.iload_n 1, 1) := by decide +kernel
theorem d_M_found_86 : decode b_M_found 86 = .ok (.iaload, 1) := by decide +kernel
theorem d_M_found_87 : decode b_M_found 87 = .ok (.bipush 60, 2) := by decide +kernel
theorem d_M_found_89 : decode b_M_found 89 = .ok (.if_icmp .lt 6, 3) := by decide +kernel
theorem d_M_found_92 : decode b_M_found 92 = .ok (.bipush (-2), 2) := by decide +kernel
theorem d_M_found_94 : decode b_M_found 94 = .ok (.ireturn, 1) := by decide +kernel
theorem d_M_found_95 : decode b_M_found 95 = .ok (.aload_n 0, 1) := by decide +kernel
theorem d_M_found_96 : decode b_M_found 96 = .ok (.getfield 156, 3) := by decide +kernel
theorem d_M_found_99 : decode b_M_found 99 = .ok (.sipush 1400, 3) := by decide +kernel
theorem d_M_found_102 : decode b_M_found 102 = .ok (.iload_n 1, 1) := by decide +kernel
theorem d_M_found_103 : decode b_M_found 103 = .ok (.imul, 1) := by decide +kernel
theorem d_M_found_104 : decode b_M_found 104 = .ok (.aload_n 0, 1) := by decide +kernel
theorem d_M_found_105 : decode b_M_found 105 = .ok (.getfield 162, 3) := by decide +kernel
theorem d_M_found_108 : decode b_M_found 108 = .ok (.iload_n 1, 1) := by decide +kernel
theorem d_M_found_109 : decode b_M_found 109 = .ok (.iaload, 1) := by decide +kernel
theorem d_M_found_110 : decode b_M_found 110 = .ok (.iadd, 1) := by decide +kernel
theorem d_M_found_111 : decode b_M_found 111 = .ok (.iload_n 2, 1) := by decide +kernel
theorem d_M_found_112 : decode b_M_found 112 = .ok (.iastore, 1) := by decide +kernel
theorem d_M_found_113 : decode b_M_found 113 = .ok (.aload_n 0, 1) := by decide +kernel
theorem d_M_found_114 : decode b_M_found 114 = .ok (.getfield 159, 3) := by decide +kernel
theorem d_M_found_117 : decode b_M_found 117 = .ok (.sipush 1400, 3) := by decide +kernel
theorem d_M_found_120 : decode b_M_found 120 = .ok (.iload_n 1, 1) := by decide +kernel
theorem d_M_found_121 : decode b_M_found 121 = .ok (.imul, 1) := by decide +kernel
theorem d_M_found_122 : decode b_M_found 122 = .ok (.aload_n 0, 1) := by decide +kernel
theorem d_M_found_123 : decode b_M_found 123 = .ok (.getfield 162, 3) := by decide +kernel
theorem d_M_found_126 : decode b_M_found 126 = .ok (.iload_n 1, 1) := by decide +kernel
theorem d_M_found_127 : decode b_M_found 127 = .ok (.iaload, 1) := by decide +kernel
theorem d_M_found_128 : decode b_M_found 128 = .ok (.iadd, 1) := by decide +kernel
theorem d_M_found_129 : decode b_M_found 129 = .ok (.iload 4, 2) := by decide +kernel
theorem d_M_found_131 : decode b_M_found 131 = .ok (.iastore, 1) := by decide +kernel
theorem d_M_found_132 : decode b_M_found 132 = .ok (.aload_n 0, 1) := by decide +kernel
theorem d_M_found_133 : decode b_M_found 133 = .ok (.getfield 162, 3) := by decide +kernel
theorem d_M_found_136 : decode b_M_found 136 = .ok (.iload_n 1, 1) := by decide +kernel
theorem d_M_found_137 : decode b_M_found 137 = .ok (.dup2, 1) := by decide +kernel
theorem d_M_found_138 : decode b_M_found 138 = .ok (.iaload, 1) := by decide +kernel
theorem d_M_found_139 : decode b_M_found 139 = .ok (.iconst 1, 1) := by decide +kernel
theorem d_M_found_140 : decode b_M_found 140 = .ok (.iadd, 1) := by decide +kernel
theorem d_M_found_141 : decode b_M_found 141 = .ok (.iastore, 1) := by decide +kernel
theorem d_M_found_142 : decode b_M_found 142 = .ok (.iconst (-1), 1) := by decide +kernel
theorem d_M_found_143 : decode b_M_found 143 = .ok (.aload_n 0, 1) := by decide +kernel
theorem d_M_found_144 : decode b_M_found 144 = .ok (.getfield 162, 3) := by decide +kernel
theorem d_M_found_147 : decode b_M_found 147 = .ok (.iload_n 1, 1) := by decide +kernel
theorem d_M_found_148 : decode b_M_found 148 = .ok (.iaload, 1) := by decide +kernel
theorem d_M_found_149 : decode b_M_found 149 = .ok (.isub, 1) := by decide +kernel
theorem d_M_found_150 : decode b_M_found 150 = .ok (.ireturn, 1) := by decide +kernel
set_option maxRecDepth 100000 in
theorem hl_M_found : Cond.methodLink R_M 490 y_M_found ∈ wd_tbl := wd_of 2744 (by decide +kernel) rfl
set_option maxRecDepth 100000 in
theorem hi_M_found : Cond.instanceMethod y_M_found ∈ wd_tbl := wd_of 2746 (by decide +kernel) rfl
set_option maxRecDepth 100000 in
theorem hs_M_found : Cond.selects R_M y_M_found y_M_found ∈ wd_tbl := wd_of 150 (by decide +kernel) rfl
theorem hd_M_found : y_M_found.cls = R_M ∧ y_M_found.cls ≠ "java/lang/invoke/MethodHandle" ∧ y_M_found.cls ≠ "java/lang/invoke/VarHandle" ∧ (parseMethodDescriptor y_M_found.desc).map (fun d => d.parameters.length) = some 2 := by decide +kernel
def rg_M_found (d : Nat) : Room := { frames := 1 + d, cells := 0, slots := 0, locals := 23 + 24 * d }
abbrev SG_M_found : Type := (MS → Int32 → Int32 → Option (MS × Int32))
def HS_M_found (l : Launch) (D : va_G) (cl : List vw_C) (cB cI cJ cZ cS : ClassId) (iM h0 : Nat) (ad : Nat → Nat) (rm : Room) (S : SG_M_found) : Prop := (∀ (u : MS) (v1 : Int32) (v2 : Int32) (x : MS × Int32) (sz : Nat), S u v1 v2 = some x → Met l y_M_found (wd_ws y_M_found b_M_found 5 (some .int)) rm (mPc D cl cB cI cJ cZ cS iM h0 ad u sz [.ref h0, .int v1, .int v2]) (mQi D cl cB cI cJ cZ cS iM h0 ad (mA cB cI cJ cZ cS iM h0 ad u sz) x) 0 0 (mA cB cI cJ cZ cS iM h0 ad u sz))
theorem rm_M_found_M_boundIn {R : Room} {d : Nat} (hR : R = rg_M_found (d + 1)) : (rm_M_boundIn).frames + 1 ≤ R.frames ∧ 8 + (4 + 11) + (rm_M_boundIn).locals ≤ R.locals := by
  subst hR
  have h1 : (rm_M_boundIn).frames = 0 := rfl
  have h2 : (rm_M_boundIn).locals = 0 := rfl
  show (rm_M_boundIn).frames + 1 ≤ 1 + (d + 1) ∧ 8 + (4 + 11) + (rm_M_boundIn).locals ≤ 23 + 24 * (d + 1)
  omega
theorem rm_M_found_M_found {R : Room} {d : Nat} (hR : R = rg_M_found (d + 1)) : (rg_M_found d).frames + 1 ≤ R.frames ∧ 8 + (5 + 11) + (rg_M_found d).locals ≤ R.locals := by
  subst hR
  show 1 + d + 1 ≤ 1 + (d + 1) ∧ 8 + (5 + 11) + (23 + 24 * d) ≤ 23 + 24 * (d + 1)
  omega
def fb_M_found_17 (N : Nat) (S : SG_M_found) (G : (MS → Int32 → Int32 → Int32 → Option (MS × Int32))) (u : MS) (v1 : Int32) (v2 : Int32) (v4 : Int32) : Option (MS × Int32) := ck (inb v1 (ln 63)) (br (decide ((u.2.2.1 63 v1.toNatClampNeg) ≤ v4)) (br (decide (v1 = 0)) (some (u, (-1))) (bnd (S u (v1 - 1) v2) (fun u1 r1 => br (decide (r1 = (-1))) (some (u1, (-1))) (ck (inb v1 (ln 63)) (br (decide ((u1.2.2.1 63 v1.toNatClampNeg) < 60)) (ck (inb v1 (ln 63)) (ck (inb ((1400 * v1) + (u1.2.2.1 63 v1.toNatClampNeg)) (ln 61)) (lt (upA u1 61 (upd (u1.2.2.1 61) ((1400 * v1) + (u1.2.2.1 63 v1.toNatClampNeg)).toNatClampNeg v2)) (fun w2 => ck (inb v1 (ln 63)) (ck (inb ((1400 * v1) + (w2.2.2.1 63 v1.toNatClampNeg)) (ln 62)) (lt (upA w2 62 (upd (w2.2.2.1 62) ((1400 * v1) + (w2.2.2.1 63 v1.toNatClampNeg)).toNatClampNeg r1)) (fun w3 => ck (inb v1 (ln 63)) (ck (inb v1 (ln 63)) (lt (upA w3 63 (upd (w3.2.2.1 63) v1.toNatClampNeg ((w3.2.2.1 63 v1.toNatClampNeg) + 1))) (fun w4 => ck (inb v1 (ln 63)) (some (w4, ((-1) - (w4.2.2.1 63 v1.toNatClampNeg)))))))))))))) (some (u1, (-2)))))))) (ck (inb ((1400 * v1) + v4) (ln 61)) (br (decide ((u.2.2.1 61 ((1400 * v1) + v4).toNatClampNeg) = v2)) (some (u, ((-2) - v4))) (G u (v1) (v2) ((v4 + 1))))))
set_option maxRecDepth 100000 in
set_option maxHeartbeats 4000000 in
theorem wb_M_found_17 {p : Program} {l : Launch} {e : Env} {R : Room} {s : State} {m : MethodId} {args : Array Value} {below : List Frame} {meth : Method} {c : Code} {D : va_G} {cl : List vw_C} {cB cI cJ cZ cS : ClassId} {A : Nat → Prop} {iM h0 : Nat} {ad : Nat → Nat} (C0 : MCx p s m args meth c b_M_found 5 (some .int) D cl cB cI cJ cZ cS iM A) {d : Nat} (hR : R = rg_M_found (d + 1)) (N : Nat) (S : SG_M_found) (hSg : HS_M_found l D cl cB cI cJ cZ cS iM h0 ad (rg_M_found d) S) (G : (MS → Int32 → Int32 → Int32 → Option (MS × Int32))) (hG : (∀ (u : MS) (v1 : Int32) (v2 : Int32) (v4 : Int32) (x : MS × Int32), G u v1 v2 v4 = some x → ∀ (H : Heap) (locs : List Loc), va_P D cl (wM cB cI cJ cZ cS iM h0 ad u) H → va_D A (wM cB cI cJ cZ cS iM h0 ad u) → va_S A s.heap H locs → ∀ (ls : Array Slot), lv_has ls 5 [(0, .ref h0), (1, .int v1), (2, .int v2), (4, .int v4)] → W p l e R s m args below meth c H locs 0 0 (MQ below (mQi D cl cB cI cJ cZ cS iM h0 ad A x) args s 0 0 A) (F0 m 17 ls []))) : ∀ (u : MS) (v1 : Int32) (v2 : Int32) (v4 : Int32) (x : MS × Int32), fb_M_found_17 N S G u v1 v2 v4 = some x → ∀ (H : Heap) (locs : List Loc), va_P D cl (wM cB cI cJ cZ cS iM h0 ad u) H → va_D A (wM cB cI cJ cZ cS iM h0 ad u) → va_S A s.heap H locs → ∀ (ls : Array Slot), lv_has ls 5 [(0, .ref h0), (1, .int v1), (2, .int v2), (4, .int v4)] → W p l e R s m args below meth c H locs 0 0 (MQ below (mQi D cl cB cI cJ cZ cS iM h0 ad A x) args s 0 0 A) (F0 m 17 ls []) := by
  intro u v1 v2 v4 x hf H locs hP hD hS ls hl
  obtain ⟨hx, hb, hr, hml, ht, hown, hM, hK, hA, hlocks⟩ := id C0
  unfold fb_M_found_17 at hf
  refine lv_iload hx hb d_M_found_17 (lv_at hl 3 rfl) ?_
  refine lv_aload_n hx hb d_M_found_19 rfl (lv_at hl 0 rfl) ?_
  refine ug_R hx hb ht hown hM hK hP 63 (by decide) lk_M_63 (by decide) d_M_found_20 ?_
  refine lv_iload_n hx hb d_M_found_23 rfl (lv_at hl 1 rfl) ?_
  obtain ⟨hi9, hf⟩ := ck_some hf
  refine ul_I hx hb hK hP (by decide) (by decide) hi9 d_M_found_24 ?_
  refine lv_icmp_ge (tgt := 57) hx hb d_M_found_25 (by decide) (fun hc => ?_) (fun hc => ?_)
  · rw [br_p _ hc] at hf
    refine lv_iload_n hx hb d_M_found_57 rfl (lv_at hl 1 rfl) ?_
    refine lv_if_ne (tgt := 63) hx hb d_M_found_58 (by decide) (fun hc => ?_) (fun hc => ?_)
    · rw [br_n _ hc] at hf
      refine lv_aload_n hx hb d_M_found_63 rfl (lv_at hl 0 rfl) ?_
      refine lv_iload_n hx hb d_M_found_64 rfl (lv_at hl 1 rfl) ?_
      refine lv_iconst (v := 1) hx hb d_M_found_65 (by decide) ?_
      refine lv_isub hx hb d_M_found_66 ?_
      refine lv_iload_n hx hb d_M_found_67 rfl (lv_at hl 2 rfl) ?_
      obtain ⟨u1, r1, hc1, hf⟩ := bnd_some hf
      refine mV_i (As := [.int (v1 - 1), .int v2]) (rest := []) C0 hP hD hS (hSg _ _ _ _ _ hc1) k_M_found hl_M_found hi_M_found hs_M_found hini_M rfl rfl hd_M_found rfl (rm_M_found_M_found hR) hl.1 (Nat.le_of_ble_eq_true rfl) d_M_found_68 rfl ⟨Nat.zero_le _, Nat.zero_le _⟩ (fun H locs hP hD hS => ?_)
      refine lv_istore (lv' := [(4, .int r1), (0, .ref h0), (1, .int v1), (2, .int v2)]) hx hb d_M_found_71 hl (by decide) rfl (fun ls hl => ?_)
      refine lv_iload hx hb d_M_found_73 (lv_at hl 0 rfl) ?_
      refine lv_iconst (v := (-1)) hx hb d_M_found_75 (by decide) ?_
      refine lv_icmp_ne (tgt := 81) hx hb d_M_found_76 (by decide) (fun hc => ?_) (fun hc => ?_)
      · rw [br_n _ hc] at hf
        refine lv_aload_n hx hb d_M_found_81 rfl (lv_at hl 1 rfl) ?_
        refine ug_R hx hb ht hown hM hK hP 63 (by decide) lk_M_63 (by decide) d_M_found_82 ?_
        refine lv_iload_n hx hb d_M_found_85 rfl (lv_at hl 2 rfl) ?_
        obtain ⟨hi9, hf⟩ := ck_some hf
        refine ul_I hx hb hK hP (by decide) (by decide) hi9 d_M_found_86 ?_
        refine lv_bipush (v := 60) hx hb d_M_found_87 (by decide) ?_
        refine lv_icmp_lt (tgt := 95) hx hb d_M_found_89 (by decide) (fun hc => ?_) (fun hc => ?_)
        · rw [br_p _ hc] at hf
          refine lv_aload_n hx hb d_M_found_95 rfl (lv_at hl 1 rfl) ?_
          refine ug_R hx hb ht hown hM hK hP 61 (by decide) lk_M_61 (by decide) d_M_found_96 ?_
          refine lv_sipush (v := 1400) hx hb d_M_found_99 (by decide) ?_
          refine lv_iload_n hx hb d_M_found_102 rfl (lv_at hl 2 rfl) ?_
          refine lv_imul hx hb d_M_found_103 ?_
          refine lv_aload_n hx hb d_M_found_104 rfl (lv_at hl 1 rfl) ?_
          refine ug_R hx hb ht hown hM hK hP 63 (by decide) lk_M_63 (by decide) d_M_found_105 ?_
          refine lv_iload_n hx hb d_M_found_108 rfl (lv_at hl 2 rfl) ?_
          obtain ⟨hi9, hf⟩ := ck_some hf
          refine ul_I hx hb hK hP (by decide) (by decide) hi9 d_M_found_109 ?_
          refine lv_iadd hx hb d_M_found_110 ?_
          refine lv_iload_n hx hb d_M_found_111 rfl (lv_at hl 3 rfl) ?_
          obtain ⟨hi9, hf⟩ := ck_some hf
          refine us_I hx hb hK hP hD hS (by decide) (by decide) hi9 d_M_found_112 (fun H locs hP hD hS => ?_)
          obtain ⟨w2, e2, hf⟩ := lt_some hf
          rw [← e2] at hP hD
          refine lv_aload_n hx hb d_M_found_113 rfl (lv_at hl 1 rfl) ?_
          refine ug_R hx hb ht hown hM hK hP 62 (by decide) lk_M_62 (by decide) d_M_found_114 ?_
          refine lv_sipush (v := 1400) hx hb d_M_found_117 (by decide) ?_
          refine lv_iload_n hx hb d_M_found_120 rfl (lv_at hl 2 rfl) ?_
          refine lv_imul hx hb d_M_found_121 ?_
          refine lv_aload_n hx hb d_M_found_122 rfl (lv_at hl 1 rfl) ?_
          refine ug_R hx hb ht hown hM hK hP 63 (by decide) lk_M_63 (by decide) d_M_found_123 ?_
          refine lv_iload_n hx hb d_M_found_126 rfl (lv_at hl 2 rfl) ?_
          obtain ⟨hi9, hf⟩ := ck_some hf
          refine ul_I hx hb hK hP (by decide) (by decide) hi9 d_M_found_127 ?_
          refine lv_iadd hx hb d_M_found_128 ?_
          refine lv_iload hx hb d_M_found_129 (lv_at hl 0 rfl) ?_
          obtain ⟨hi9, hf⟩ := ck_some hf
          refine us_I hx hb hK hP hD hS (by decide) (by decide) hi9 d_M_found_131 (fun H locs hP hD hS => ?_)
          obtain ⟨w3, e3, hf⟩ := lt_some hf
          rw [← e3] at hP hD
          refine lv_aload_n hx hb d_M_found_132 rfl (lv_at hl 1 rfl) ?_
          refine ug_R hx hb ht hown hM hK hP 63 (by decide) lk_M_63 (by decide) d_M_found_133 ?_
          refine lv_iload_n hx hb d_M_found_136 rfl (lv_at hl 2 rfl) ?_
          refine lv_dup2_11 hx hb d_M_found_137 rfl rfl ?_
          obtain ⟨hi9, hf⟩ := ck_some hf
          refine ul_I hx hb hK hP (by decide) (by decide) hi9 d_M_found_138 ?_
          refine lv_iconst (v := 1) hx hb d_M_found_139 (by decide) ?_
          refine lv_iadd hx hb d_M_found_140 ?_
          obtain ⟨hi9, hf⟩ := ck_some hf
          refine us_I hx hb hK hP hD hS (by decide) (by decide) hi9 d_M_found_141 (fun H locs hP hD hS => ?_)
          obtain ⟨w4, e4, hf⟩ := lt_some hf
          rw [← e4] at hP hD
          refine lv_iconst (v := (-1)) hx hb d_M_found_142 (by decide) ?_
          refine lv_aload_n hx hb d_M_found_143 rfl (lv_at hl 1 rfl) ?_
          refine ug_R hx hb ht hown hM hK hP 63 (by decide) lk_M_63 (by decide) d_M_found_144 ?_
          refine lv_iload_n hx hb d_M_found_147 rfl (lv_at hl 2 rfl) ?_
          obtain ⟨hi9, hf⟩ := ck_some hf
          refine ul_I hx hb hK hP (by decide) (by decide) hi9 d_M_found_148 ?_
          refine lv_isub hx hb d_M_found_149 ?_
          exact mr_i C0 hP hD hS hf d_M_found_150
        · rw [br_n _ hc] at hf
          refine lv_bipush (v := (-2)) hx hb d_M_found_92 (by decide) ?_
          exact mr_i C0 hP hD hS hf d_M_found_94
      · rw [br_p _ hc] at hf
        refine lv_iconst (v := (-1)) hx hb d_M_found_79 (by decide) ?_
        exact mr_i C0 hP hD hS hf d_M_found_80
    · rw [br_p _ hc] at hf
      refine lv_iconst (v := (-1)) hx hb d_M_found_61 (by decide) ?_
      exact mr_i C0 hP hD hS hf d_M_found_62
  · rw [br_n _ hc] at hf
    refine lv_aload_n hx hb d_M_found_28 rfl (lv_at hl 0 rfl) ?_
    refine ug_R hx hb ht hown hM hK hP 61 (by decide) lk_M_61 (by decide) d_M_found_29 ?_
    refine lv_sipush (v := 1400) hx hb d_M_found_32 (by decide) ?_
    refine lv_iload_n hx hb d_M_found_35 rfl (lv_at hl 1 rfl) ?_
    refine lv_imul hx hb d_M_found_36 ?_
    refine lv_iload hx hb d_M_found_37 (lv_at hl 3 rfl) ?_
    refine lv_iadd hx hb d_M_found_39 ?_
    obtain ⟨hi9, hf⟩ := ck_some hf
    refine ul_I hx hb hK hP (by decide) (by decide) hi9 d_M_found_40 ?_
    refine lv_iload_n hx hb d_M_found_41 rfl (lv_at hl 2 rfl) ?_
    refine lv_icmp_ne (tgt := 51) hx hb d_M_found_42 (by decide) (fun hc => ?_) (fun hc => ?_)
    · rw [br_n _ hc] at hf
      refine lv_iinc (v := (v4 + 1)) (lv' := [(4, .int (v4 + 1)), (0, .ref h0), (1, .int v1), (2, .int v2)]) hx hb d_M_found_51 hl (k := 3) rfl rfl (by decide) rfl (fun ls hl => ?_)
      refine lv_goto (tgt := 17) hx hb d_M_found_54 (by decide) ?_
      exact hG _ _ _ _ _ hf H locs hP hD hS ls (lv_sub hl [1, 2, 3, 0] rfl)
    · rw [br_p _ hc] at hf
      refine lv_bipush (v := (-2)) hx hb d_M_found_45 (by decide) ?_
      refine lv_iload hx hb d_M_found_47 (lv_at hl 3 rfl) ?_
      refine lv_isub hx hb d_M_found_49 ?_
      exact mr_i C0 hP hD hS hf d_M_found_50
def fb_M_found_0 (N : Nat) (S : SG_M_found) (G : (MS → Int32 → Int32 → Int32 → Option (MS × Int32))) (u : MS) (v1 : Int32) (v2 : Int32) : Option (MS × Int32) := bnd (fm_M_boundIn N u v1 v2) (fun u5 r5 => br (decide (r5 = (-1))) (G u5 (v1) (v2) (0)) (some (u5, r5)))
set_option maxRecDepth 100000 in
set_option maxHeartbeats 4000000 in
theorem wb_M_found_0 {p : Program} {l : Launch} {e : Env} {R : Room} {s : State} {m : MethodId} {args : Array Value} {below : List Frame} {meth : Method} {c : Code} {D : va_G} {cl : List vw_C} {cB cI cJ cZ cS : ClassId} {A : Nat → Prop} {iM h0 : Nat} {ad : Nat → Nat} (C0 : MCx p s m args meth c b_M_found 5 (some .int) D cl cB cI cJ cZ cS iM A) {d : Nat} (hR : R = rg_M_found (d + 1)) (N : Nat) (S : SG_M_found) (hSg : HS_M_found l D cl cB cI cJ cZ cS iM h0 ad (rg_M_found d) S) (G : (MS → Int32 → Int32 → Int32 → Option (MS × Int32))) (hG : (∀ (u : MS) (v1 : Int32) (v2 : Int32) (v4 : Int32) (x : MS × Int32), G u v1 v2 v4 = some x → ∀ (H : Heap) (locs : List Loc), va_P D cl (wM cB cI cJ cZ cS iM h0 ad u) H → va_D A (wM cB cI cJ cZ cS iM h0 ad u) → va_S A s.heap H locs → ∀ (ls : Array Slot), lv_has ls 5 [(0, .ref h0), (1, .int v1), (2, .int v2), (4, .int v4)] → W p l e R s m args below meth c H locs 0 0 (MQ below (mQi D cl cB cI cJ cZ cS iM h0 ad A x) args s 0 0 A) (F0 m 17 ls []))) : ∀ (u : MS) (v1 : Int32) (v2 : Int32) (x : MS × Int32), fb_M_found_0 N S G u v1 v2 = some x → ∀ (H : Heap) (locs : List Loc), va_P D cl (wM cB cI cJ cZ cS iM h0 ad u) H → va_D A (wM cB cI cJ cZ cS iM h0 ad u) → va_S A s.heap H locs → ∀ (ls : Array Slot), lv_has ls 5 [(0, .ref h0), (1, .int v1), (2, .int v2)] → W p l e R s m args below meth c H locs 0 0 (MQ below (mQi D cl cB cI cJ cZ cS iM h0 ad A x) args s 0 0 A) (F0 m 0 ls []) := by
  intro u v1 v2 x hf H locs hP hD hS ls hl
  obtain ⟨hx, hb, hr, hml, ht, hown, hM, hK, hA, hlocks⟩ := id C0
  unfold fb_M_found_0 at hf
  refine lv_aload_n hx hb d_M_found_0 rfl (lv_at hl 0 rfl) ?_
  refine lv_iload_n hx hb d_M_found_1 rfl (lv_at hl 1 rfl) ?_
  refine lv_iload_n hx hb d_M_found_2 rfl (lv_at hl 2 rfl) ?_
  obtain ⟨u5, r5, hc5, hf⟩ := bnd_some hf
  refine mV_i (As := [.int v1, .int v2]) (rest := []) C0 hP hD hS (c_M_boundIn N hM hc5) k_M_boundIn hl_M_boundIn hi_M_boundIn hs_M_boundIn hini_M rfl rfl hd_M_boundIn rfl (rm_M_found_M_boundIn hR) hl.1 (Nat.le_of_ble_eq_true rfl) d_M_found_3 rfl ⟨Nat.zero_le _, Nat.zero_le _⟩ (fun H locs hP hD hS => ?_)
  refine lv_istore_n (lv' := [(3, .int r5), (0, .ref h0), (1, .int v1), (2, .int v2)]) hx hb d_M_found_6 rfl hl (by decide) rfl (fun ls hl => ?_)
  refine lv_iload_n hx hb d_M_found_7 rfl (lv_at hl 0 rfl) ?_
  refine lv_iconst (v := (-1)) hx hb d_M_found_8 (by decide) ?_
  refine lv_icmp_eq (tgt := 14) hx hb d_M_found_9 (by decide) (fun hc => ?_) (fun hc => ?_)
  · rw [br_p _ hc] at hf
    refine lv_iconst (v := 0) hx hb d_M_found_14 (by decide) ?_
    refine lv_istore (lv' := [(4, .int 0), (3, .int r5), (0, .ref h0), (1, .int v1), (2, .int v2)]) hx hb d_M_found_15 hl (by decide) rfl (fun ls hl => ?_)
    exact hG _ _ _ _ _ hf H locs hP hD hS ls (lv_sub hl [2, 3, 4, 0] rfl)
  · rw [br_n _ hc] at hf
    refine lv_iload_n hx hb d_M_found_12 rfl (lv_at hl 0 rfl) ?_
    exact mr_i C0 hP hD hS hf d_M_found_13
def gg_M_found (N : Nat) (S : SG_M_found) : Nat → ((MS → Int32 → Int32 → Int32 → Option (MS × Int32)))
  | 0 => fun _ _ _ _ => none
  | n + 1 => fb_M_found_17 N S (gg_M_found N S n)
theorem wg_M_found {p : Program} {l : Launch} {e : Env} {R : Room} {s : State} {m : MethodId} {args : Array Value} {below : List Frame} {meth : Method} {c : Code} {D : va_G} {cl : List vw_C} {cB cI cJ cZ cS : ClassId} {A : Nat → Prop} {iM h0 : Nat} {ad : Nat → Nat} (C0 : MCx p s m args meth c b_M_found 5 (some .int) D cl cB cI cJ cZ cS iM A) {d : Nat} (hR : R = rg_M_found (d + 1)) (N : Nat) (S : SG_M_found) (hSg : HS_M_found l D cl cB cI cJ cZ cS iM h0 ad (rg_M_found d) S) : ∀ n : Nat, (∀ (u : MS) (v1 : Int32) (v2 : Int32) (v4 : Int32) (x : MS × Int32), gg_M_found N S n u v1 v2 v4 = some x → ∀ (H : Heap) (locs : List Loc), va_P D cl (wM cB cI cJ cZ cS iM h0 ad u) H → va_D A (wM cB cI cJ cZ cS iM h0 ad u) → va_S A s.heap H locs → ∀ (ls : Array Slot), lv_has ls 5 [(0, .ref h0), (1, .int v1), (2, .int v2), (4, .int v4)] → W p l e R s m args below meth c H locs 0 0 (MQ below (mQi D cl cB cI cJ cZ cS iM h0 ad A x) args s 0 0 A) (F0 m 17 ls []))
  | 0 => (fun u v1 v2 v4 x hf => by cases hf)
  | n + 1 => wb_M_found_17 C0 hR N S hSg (gg_M_found N S n) (wg_M_found C0 hR N S hSg n)
def fm_M_found (N : Nat) (S : SG_M_found) (u : MS) (v1 : Int32) (v2 : Int32) : Option (MS × Int32) := fb_M_found_0 N S (gg_M_found N S N) u v1 v2
set_option maxRecDepth 100000 in
set_option maxHeartbeats 4000000 in
theorem cs_M_found (N : Nat) {d : Nat} {l : Launch} {D : va_G} {cl : List vw_C} {cB cI cJ cZ cS : ClassId} {iM h0 : Nat} {ad : Nat → Nat} {u : MS} {sz : Nat} {v1 : Int32} {v2 : Int32} {x : MS × Int32} (hM : cl[iM]? = some (R_M, F_M, 171)) (S : SG_M_found) (hSg : HS_M_found l D cl cB cI cJ cZ cS iM h0 ad (rg_M_found d) S) (hf : fm_M_found N S u v1 v2 = some x) : Met l y_M_found (wd_ws y_M_found b_M_found 5 (some .int)) (rg_M_found (d + 1)) (mPc D cl cB cI cJ cZ cS iM h0 ad u sz [.ref h0, .int v1, .int v2]) (mQi D cl cB cI cJ cZ cS iM h0 ad (mA cB cI cJ cZ cS iM h0 ad u sz) x) 0 0 (mA cB cI cJ cZ cS iM h0 ad u sz) :=
  mMet (by decide) rfl hM (Nat.le_of_ble_eq_true rfl) (fun p e s m below meth c ls hsz C0 hP hD hS hl => by
    have hR : (rg_M_found (d + 1)) = (rg_M_found (d + 1)) := rfl
    exact wb_M_found_0 C0 hR N S hSg (gg_M_found N S N) (wg_M_found C0 hR N S hSg N) u _ _ x hf s.heap [] hP hD hS ls (lv_sub hl [0, 1, 2] rfl))
def rc_M_found (N : Nat) : Nat → (SG_M_found)
  | 0 => fun _ _ _ => none
  | d + 1 => fm_M_found N (rc_M_found N d)
theorem cg_M_found (N : Nat) {l : Launch} {D : va_G} {cl : List vw_C} {cB cI cJ cZ cS : ClassId} {iM h0 : Nat} {ad : Nat → Nat} (hM : cl[iM]? = some (R_M, F_M, 171)) : ∀ d : Nat, HS_M_found l D cl cB cI cJ cZ cS iM h0 ad (rg_M_found d) (rc_M_found N d)
  | 0 => (fun u _ _ x sz hf => by cases hf)
  | d + 1 => (fun u _ _ x sz hf => cs_M_found N hM (rc_M_found N d) (cg_M_found N hM d) hf)
def fr_M_found (N : Nat) (u : MS) (v1 : Int32) (v2 : Int32) : Option (MS × Int32) := (rc_M_found N 30) u v1 v2
def rm_M_found : Room := rg_M_found 30
theorem c_M_found (N : Nat) {l : Launch} {D : va_G} {cl : List vw_C} {cB cI cJ cZ cS : ClassId} {iM h0 : Nat} {ad : Nat → Nat} {u : MS} {sz : Nat} {v1 : Int32} {v2 : Int32} {x : MS × Int32} (hM : cl[iM]? = some (R_M, F_M, 171)) (hf : fr_M_found N u v1 v2 = some x) : Met l y_M_found (wd_ws y_M_found b_M_found 5 (some .int)) rm_M_found (mPc D cl cB cI cJ cZ cS iM h0 ad u sz [.ref h0, .int v1, .int v2]) (mQi D cl cB cI cJ cZ cS iM h0 ad (mA cB cI cJ cZ cS iM h0 ad u sz) x) 0 0 (mA cB cI cJ cZ cS iM h0 ad u sz) := (cg_M_found N hM 30) _ _ _ _ _ hf
abbrev b_M_bind : ByteArray := prog_14_method_33_code
def y_M_bind : MethodName := ⟨R_M, "bind", "(I)I"⟩
def w_M_bind : List Cond := wd_ws y_M_bind b_M_bind 2 (some .int)
set_option maxRecDepth 100000 in
theorem k_M_bind : Cond.code y_M_bind b_M_bind 2 (some .int) ∈ wd_tbl := wd_of 2751 rfl rfl
theorem d_M_bind_0 : decode b_M_bind 0 = .ok (.aload_n 0, 1) := by decide +kernel
theorem d_M_bind_1 : decode b_M_bind 1 = .ok (.getfield 150, 3) := by decide +kernel
theorem d_M_bind_4 : decode b_M_bind 4 = .ok (.sipush 1400, 3) := by decide +kernel
theorem d_M_bind_7 : decode b_M_bind 7 = .ok (.aload_n 0, 1) := by decide +kernel
theorem d_M_bind_8 : decode b_M_bind 8 = .ok (.getfield 493, 3) := by decide +kernel
theorem d_M_bind_11 : decode b_M_bind 11 = .ok (.imul, 1) := by decide +kernel
theorem d_M_bind_12 : decode b_M_bind 12 = .ok (.aload_n 0, 1) := by decide +kernel
theorem d_M_bind_13 : decode b_M_bind 13 = .ok (.getfield 153, 3) := by decide +kernel
theorem d_M_bind_16 : decode b_M_bind 16 = .ok (.aload_n 0, 1) := by decide +kernel
theorem d_M_bind_17 : decode b_M_bind 17 = .ok (.getfield 493, 3) := by decide +kernel
theorem d_M_bind_20 : decode b_M_bind 20 = .ok (.iaload, 1) := by decide +kernel
theorem d_M_bind_21 : decode b_M_bind 21 = .ok (.iadd, 1) := by decide +kernel
theorem d_M_bind_22 : decode b_M_bind 22 = .ok (.iload_n 1, 1) := by decide +kernel
theorem d_M_bind_23 : decode b_M_bind 23 = .ok (.iastore, 1) := by decide +kernel
theorem d_M_bind_24 : decode b_M_bind 24 = .ok (.aload_n 0, 1) := by decide +kernel
theorem d_M_bind_25 : decode b_M_bind 25 = .ok (.getfield 153, 3) := by decide +kernel
theorem d_M_bind_28 : decode b_M_bind 28 = .ok (.aload_n 0, 1) := by decide +kernel
theorem d_M_bind_29 : decode b_M_bind 29 = .ok (.getfield 493, 3) := by decide +kernel
theorem d_M_bind_32 : decode b_M_bind 32 = .ok (.dup2, 1) := by decide +kernel
theorem d_M_bind_33 : decode b_M_bind 33 = .ok (.iaload, 1) := by decide +kernel
theorem d_M_bind_34 : decode b_M_bind 34 = .ok (.iconst 1, 1) := by decide +kernel
theorem d_M_bind_35 : decode b_M_bind 35 = .ok (.iadd, 1) := by decide +kernel
theorem d_M_bind_36 : decode b_M_bind 36 = .ok (.iastore, 1) := by decide +kernel
theorem d_M_bind_37 : decode b_M_bind 37 = .ok (.aload_n 0, 1) := by decide +kernel
theorem d_M_bind_38 : decode b_M_bind 38 = .ok (.getfield 165, 3) := by decide +kernel
theorem d_M_bind_41 : decode b_M_bind 41 = .ok (.aload_n 0, 1) := by decide +kernel
theorem d_M_bind_42 : decode b_M_bind 42 = .ok (.getfield 493, 3) := by decide +kernel
theorem d_M_bind_45 : decode b_M_bind 45 = .ok (.aload_n 0, 1) := by decide +kernel
theorem d_M_bind_46 : decode b_M_bind 46 = .ok (.getfield 153, 3) := by decide +kernel
theorem d_M_bind_49 : decode b_M_bind 49 = .ok (.aload_n 0, 1) := by decide +kernel
theorem d_M_bind_50 : decode b_M_bind 50 = .ok (.getfield 493, 3) := by decide +kernel
theorem d_M_bind_53 : decode b_M_bind 53 = .ok (.iaload, 1) := by decide +kernel
theorem d_M_bind_54 : decode b_M_bind 54 = .ok (.aload_n 0, 1) := by decide +kernel
theorem d_M_bind_55 : decode b_M_bind 55 = .ok (.getfield 165, 3) := by decide +kernel
theorem d_M_bind_58 : decode b_M_bind 58 = .ok (.aload_n 0, 1) := by decide +kernel
theorem d_M_bind_59 : decode b_M_bind 59 = .ok (.getfield 493, 3) := by decide +kernel
theorem d_M_bind_62 : decode b_M_bind 62 = .ok (.iaload, 1) := by decide +kernel
theorem d_M_bind_63 : decode b_M_bind 63 = .ok (.if_icmp .le 15, 3) := by decide +kernel
theorem d_M_bind_66 : decode b_M_bind 66 = .ok (.aload_n 0, 1) := by decide +kernel
theorem d_M_bind_67 : decode b_M_bind 67 = .ok (.getfield 153, 3) := by decide +kernel
theorem d_M_bind_70 : decode b_M_bind 70 = .ok (.aload_n 0, 1) := by decide +kernel
theorem d_M_bind_71 : decode b_M_bind 71 = .ok (.getfield 493, 3) := by decide +kernel
theorem d_M_bind_74 : decode b_M_bind 74 = .ok (.iaload, 1) := by decide +kernel
theorem d_M_bind_75 : decode b_M_bind 75 = .ok (.goto 12, 3) := by decide +kernel
theorem d_M_bind_78 : decode b_M_bind 78 = .ok (.aload_n 0, 1) := by decide +kernel
theorem d_M_bind_79 : decode b_M_bind 79 = .ok (.getfield 165, 3) := by decide +kernel
theorem d_M_bind_82 : decode b_M_bind 82 = .ok (.aload_n 0, 1) := by decide +kernel
theorem d_M_bind_83 : decode b_M_bind 83 = .ok (.getfield 493, 3) := by decide +kernel
theorem d_M_bind_86 : decode b_M_bind 86 = .ok (.iaload, 1) := by decide +kernel
theorem d_M_bind_87 : decode b_M_bind 87 = .ok (.iastore, 1) := by decide +kernel
theorem d_M_bind_88 : decode b_M_bind 88 = .ok (.aload_n 0, 1) := by decide +kernel
theorem d_M_bind_89 : decode b_M_bind 89 = .ok (.getfield 165, 3) := by decide +kernel
theorem d_M_bind_92 : decode b_M_bind 92 = .ok (.aload_n 0, 1) := by decide +kernel
theorem d_M_bind_93 : decode b_M_bind 93 = .ok (.getfield 493, 3) := by decide +kernel
theorem d_M_bind_96 : decode b_M_bind 96 = .ok (.iaload, 1) := by decide +kernel
theorem d_M_bind_97 : decode b_M_bind 97 = .ok (.bipush 40, 2) := by decide +kernel
theorem d_M_bind_99 : decode b_M_bind 99 = .ok (.if_icmp .le 8, 3) := by decide +kernel
theorem d_M_bind_102 : decode b_M_bind 102 = .ok (.aload_n 0, 1) := by decide +kernel
theorem d_M_bind_103 : decode b_M_bind 103 = .ok (.iconst 1, 1) := by decide +kernel
theorem d_M_bind_104 : decode b_M_bind 104 = .ok (.putfield 496, 3) := by decide +kernel
theorem d_M_bind_107 : decode b_M_bind 107 = .ok (.aload_n 0, 1) := by decide +kernel
theorem d_M_bind_108 : decode b_M_bind 108 = .ok (.getfield 153, 3) := by decide +kernel
theorem d_M_bind_111 : decode b_M_bind 111 = .ok (.aload_n 0, 1) := by decide +kernel
theorem d_M_bind_112 : decode b_M_bind 112 = .ok (.getfield 493, 3) := by decide +kernel
theorem d_M_bind_115 : decode b_M_bind 115 = .ok (.iaload, 1) := by decide +kernel
theorem d_M_bind_116 : decode b_M_bind 116 = .ok (.iconst 1, 1) := by decide +kernel
theorem d_M_bind_117 : decode b_M_bind 117 = .ok (.isub, 1) := by decide +kernel
theorem d_M_bind_118 : decode b_M_bind 118 = .ok (.ireturn, 1) := by decide +kernel
set_option maxRecDepth 100000 in
theorem hl_M_bind : Cond.methodLink R_M 577 y_M_bind ∈ wd_tbl := wd_of 2748 (by decide +kernel) rfl
set_option maxRecDepth 100000 in
theorem hi_M_bind : Cond.instanceMethod y_M_bind ∈ wd_tbl := wd_of 2750 (by decide +kernel) rfl
set_option maxRecDepth 100000 in
theorem hs_M_bind : Cond.selects R_M y_M_bind y_M_bind ∈ wd_tbl := wd_of 151 (by decide +kernel) rfl
theorem hd_M_bind : y_M_bind.cls = R_M ∧ y_M_bind.cls ≠ "java/lang/invoke/MethodHandle" ∧ y_M_bind.cls ≠ "java/lang/invoke/VarHandle" ∧ (parseMethodDescriptor y_M_bind.desc).map (fun d => d.parameters.length) = some 1 := by decide +kernel
def rm_M_bind : Room := { frames := 0, cells := 0, slots := 0, locals := 0 }
def fb_M_bind_107 (N : Nat) (G : Unit) (u : MS) : Option (MS × Int32) := ck (inb (u.1 65) (ln 60)) (some (u, ((u.2.2.1 60 (u.1 65).toNatClampNeg) - 1)))
set_option maxRecDepth 100000 in
set_option maxHeartbeats 4000000 in
theorem wb_M_bind_107 {p : Program} {l : Launch} {e : Env} {R : Room} {s : State} {m : MethodId} {args : Array Value} {below : List Frame} {meth : Method} {c : Code} {D : va_G} {cl : List vw_C} {cB cI cJ cZ cS : ClassId} {A : Nat → Prop} {iM h0 : Nat} {ad : Nat → Nat} (C0 : MCx p s m args meth c b_M_bind 2 (some .int) D cl cB cI cJ cZ cS iM A) (hR : R = rm_M_bind) (N : Nat) (G : Unit) (hG : True) : ∀ (u : MS) (x : MS × Int32), fb_M_bind_107 N G u = some x → ∀ (H : Heap) (locs : List Loc), va_P D cl (wM cB cI cJ cZ cS iM h0 ad u) H → va_D A (wM cB cI cJ cZ cS iM h0 ad u) → va_S A s.heap H locs → ∀ (ls : Array Slot), lv_has ls 2 [(0, .ref h0)] → W p l e R s m args below meth c H locs 0 0 (MQ below (mQi D cl cB cI cJ cZ cS iM h0 ad A x) args s 0 0 A) (F0 m 107 ls []) := by
  intro u x hf H locs hP hD hS ls hl
  obtain ⟨hx, hb, hr, hml, ht, hown, hM, hK, hA, hlocks⟩ := id C0
  unfold fb_M_bind_107 at hf
  refine lv_aload_n hx hb d_M_bind_107 rfl (lv_at hl 0 rfl) ?_
  refine ug_R hx hb ht hown hM hK hP 60 (by decide) lk_M_60 (by decide) d_M_bind_108 ?_
  refine lv_aload_n hx hb d_M_bind_111 rfl (lv_at hl 0 rfl) ?_
  refine ug_I hx hb ht hown hM hK hP 65 (by decide) lk_M_65 (by decide) d_M_bind_112 ?_
  obtain ⟨hi9, hf⟩ := ck_some hf
  refine ul_I hx hb hK hP (by decide) (by decide) hi9 d_M_bind_115 ?_
  refine lv_iconst (v := 1) hx hb d_M_bind_116 (by decide) ?_
  refine lv_isub hx hb d_M_bind_117 ?_
  exact mr_i C0 hP hD hS hf d_M_bind_118
def fb_M_bind_87 (N : Nat) (G : Unit) (u : MS) (t0 : Nat) (t1 : Int32) (t2 : Int32) : Option (MS × Int32) := ck (isK t0 4) (ck (inb t1 (ln t0)) (lt (upA u t0 (upd (u.2.2.1 t0) t1.toNatClampNeg t2)) (fun w1 => ck (inb (w1.1 65) (ln 64)) (br (decide ((w1.2.2.1 64 (w1.1 65).toNatClampNeg) ≤ 40)) (fb_M_bind_107 N G w1) (lt (upI w1 66 1) (fun w2 => fb_M_bind_107 N G w2))))))
set_option maxRecDepth 100000 in
set_option maxHeartbeats 4000000 in
theorem wb_M_bind_87 {p : Program} {l : Launch} {e : Env} {R : Room} {s : State} {m : MethodId} {args : Array Value} {below : List Frame} {meth : Method} {c : Code} {D : va_G} {cl : List vw_C} {cB cI cJ cZ cS : ClassId} {A : Nat → Prop} {iM h0 : Nat} {ad : Nat → Nat} (C0 : MCx p s m args meth c b_M_bind 2 (some .int) D cl cB cI cJ cZ cS iM A) (hR : R = rm_M_bind) (N : Nat) (G : Unit) (hG : True) : ∀ (u : MS) (t0 : Nat) (t1 : Int32) (t2 : Int32) (x : MS × Int32), fb_M_bind_87 N G u t0 t1 t2 = some x → ∀ (H : Heap) (locs : List Loc), va_P D cl (wM cB cI cJ cZ cS iM h0 ad u) H → va_D A (wM cB cI cJ cZ cS iM h0 ad u) → va_S A s.heap H locs → ∀ (ls : Array Slot), lv_has ls 2 [(0, .ref h0)] → W p l e R s m args below meth c H locs 0 0 (MQ below (mQi D cl cB cI cJ cZ cS iM h0 ad A x) args s 0 0 A) (F0 m 87 ls [.int t2, .int t1, .ref (ad t0)]) := by
  intro u t0 t1 t2 x hf H locs hP hD hS ls hl
  obtain ⟨hx, hb, hr, hml, ht, hown, hM, hK, hA, hlocks⟩ := id C0
  unfold fb_M_bind_87 at hf
  obtain ⟨hk9, hf⟩ := ck_some hf
  obtain ⟨hi9, hf⟩ := ck_some hf
  refine us_I hx hb hK hP hD hS (isK_1 hk9) (isK_2 hk9) hi9 d_M_bind_87 (fun H locs hP hD hS => ?_)
  obtain ⟨w1, e1, hf⟩ := lt_some hf
  rw [← e1] at hP hD
  refine lv_aload_n hx hb d_M_bind_88 rfl (lv_at hl 0 rfl) ?_
  refine ug_R hx hb ht hown hM hK hP 64 (by decide) lk_M_64 (by decide) d_M_bind_89 ?_
  refine lv_aload_n hx hb d_M_bind_92 rfl (lv_at hl 0 rfl) ?_
  refine ug_I hx hb ht hown hM hK hP 65 (by decide) lk_M_65 (by decide) d_M_bind_93 ?_
  obtain ⟨hi9, hf⟩ := ck_some hf
  refine ul_I hx hb hK hP (by decide) (by decide) hi9 d_M_bind_96 ?_
  refine lv_bipush (v := 40) hx hb d_M_bind_97 (by decide) ?_
  refine lv_icmp_le (tgt := 107) hx hb d_M_bind_99 (by decide) (fun hc => ?_) (fun hc => ?_)
  · rw [br_p _ hc] at hf
    exact wb_M_bind_107 C0 hR N G hG _ _ hf H locs hP hD hS ls (lv_sub hl [0] rfl)
  · rw [br_n _ hc] at hf
    refine lv_aload_n hx hb d_M_bind_102 rfl (lv_at hl 0 rfl) ?_
    refine lv_iconst (v := 1) hx hb d_M_bind_103 (by decide) ?_
    refine up_I hx hb ht hown hM hK hP hD hS 66 (by decide) lk_M_66 (by decide) rfl rfl rfl d_M_bind_104 (fun H locs hP hD hS => ?_)
    obtain ⟨w2, e2, hf⟩ := lt_some hf
    rw [← e2] at hP hD
    exact wb_M_bind_107 C0 hR N G hG _ _ hf H locs hP hD hS ls (lv_sub hl [0] rfl)
def fb_M_bind_0 (N : Nat) (G : Unit) (u : MS) (v1 : Int32) : Option (MS × Int32) := ck (inb (u.1 65) (ln 60)) (ck (inb ((1400 * (u.1 65)) + (u.2.2.1 60 (u.1 65).toNatClampNeg)) (ln 59)) (lt (upA u 59 (upd (u.2.2.1 59) ((1400 * (u.1 65)) + (u.2.2.1 60 (u.1 65).toNatClampNeg)).toNatClampNeg v1)) (fun w3 => ck (inb (w3.1 65) (ln 60)) (ck (inb (w3.1 65) (ln 60)) (lt (upA w3 60 (upd (w3.2.2.1 60) (w3.1 65).toNatClampNeg ((w3.2.2.1 60 (w3.1 65).toNatClampNeg) + 1))) (fun w4 => ck (inb (w4.1 65) (ln 60)) (ck (inb (w4.1 65) (ln 64)) (br (decide ((w4.2.2.1 60 (w4.1 65).toNatClampNeg) ≤ (w4.2.2.1 64 (w4.1 65).toNatClampNeg))) (ck (inb (w4.1 65) (ln 64)) (fb_M_bind_87 N G w4 (64) ((w4.1 65)) ((w4.2.2.1 64 (w4.1 65).toNatClampNeg)))) (ck (inb (w4.1 65) (ln 60)) (fb_M_bind_87 N G w4 (64) ((w4.1 65)) ((w4.2.2.1 60 (w4.1 65).toNatClampNeg))))))))))))
set_option maxRecDepth 100000 in
set_option maxHeartbeats 4000000 in
theorem wb_M_bind_0 {p : Program} {l : Launch} {e : Env} {R : Room} {s : State} {m : MethodId} {args : Array Value} {below : List Frame} {meth : Method} {c : Code} {D : va_G} {cl : List vw_C} {cB cI cJ cZ cS : ClassId} {A : Nat → Prop} {iM h0 : Nat} {ad : Nat → Nat} (C0 : MCx p s m args meth c b_M_bind 2 (some .int) D cl cB cI cJ cZ cS iM A) (hR : R = rm_M_bind) (N : Nat) (G : Unit) (hG : True) : ∀ (u : MS) (v1 : Int32) (x : MS × Int32), fb_M_bind_0 N G u v1 = some x → ∀ (H : Heap) (locs : List Loc), va_P D cl (wM cB cI cJ cZ cS iM h0 ad u) H → va_D A (wM cB cI cJ cZ cS iM h0 ad u) → va_S A s.heap H locs → ∀ (ls : Array Slot), lv_has ls 2 [(0, .ref h0), (1, .int v1)] → W p l e R s m args below meth c H locs 0 0 (MQ below (mQi D cl cB cI cJ cZ cS iM h0 ad A x) args s 0 0 A) (F0 m 0 ls []) := by
  intro u v1 x hf H locs hP hD hS ls hl
  obtain ⟨hx, hb, hr, hml, ht, hown, hM, hK, hA, hlocks⟩ := id C0
  unfold fb_M_bind_0 at hf
  refine lv_aload_n hx hb d_M_bind_0 rfl (lv_at hl 0 rfl) ?_
  refine ug_R hx hb ht hown hM hK hP 59 (by decide) lk_M_59 (by decide) d_M_bind_1 ?_
  refine lv_sipush (v := 1400) hx hb d_M_bind_4 (by decide) ?_
  refine lv_aload_n hx hb d_M_bind_7 rfl (lv_at hl 0 rfl) ?_
  refine ug_I hx hb ht hown hM hK hP 65 (by decide) lk_M_65 (by decide) d_M_bind_8 ?_
  refine lv_imul hx hb d_M_bind_11 ?_
  refine lv_aload_n hx hb d_M_bind_12 rfl (lv_at hl 0 rfl) ?_
  refine ug_R hx hb ht hown hM hK hP 60 (by decide) lk_M_60 (by decide) d_M_bind_13 ?_
  refine lv_aload_n hx hb d_M_bind_16 rfl (lv_at hl 0 rfl) ?_
  refine ug_I hx hb ht hown hM hK hP 65 (by decide) lk_M_65 (by decide) d_M_bind_17 ?_
  obtain ⟨hi9, hf⟩ := ck_some hf
  refine ul_I hx hb hK hP (by decide) (by decide) hi9 d_M_bind_20 ?_
  refine lv_iadd hx hb d_M_bind_21 ?_
  refine lv_iload_n hx hb d_M_bind_22 rfl (lv_at hl 1 rfl) ?_
  obtain ⟨hi9, hf⟩ := ck_some hf
  refine us_I hx hb hK hP hD hS (by decide) (by decide) hi9 d_M_bind_23 (fun H locs hP hD hS => ?_)
  obtain ⟨w3, e3, hf⟩ := lt_some hf
  rw [← e3] at hP hD
  refine lv_aload_n hx hb d_M_bind_24 rfl (lv_at hl 0 rfl) ?_
  refine ug_R hx hb ht hown hM hK hP 60 (by decide) lk_M_60 (by decide) d_M_bind_25 ?_
  refine lv_aload_n hx hb d_M_bind_28 rfl (lv_at hl 0 rfl) ?_
  refine ug_I hx hb ht hown hM hK hP 65 (by decide) lk_M_65 (by decide) d_M_bind_29 ?_
  refine lv_dup2_11 hx hb d_M_bind_32 rfl rfl ?_
  obtain ⟨hi9, hf⟩ := ck_some hf
  refine ul_I hx hb hK hP (by decide) (by decide) hi9 d_M_bind_33 ?_
  refine lv_iconst (v := 1) hx hb d_M_bind_34 (by decide) ?_
  refine lv_iadd hx hb d_M_bind_35 ?_
  obtain ⟨hi9, hf⟩ := ck_some hf
  refine us_I hx hb hK hP hD hS (by decide) (by decide) hi9 d_M_bind_36 (fun H locs hP hD hS => ?_)
  obtain ⟨w4, e4, hf⟩ := lt_some hf
  rw [← e4] at hP hD
  refine lv_aload_n hx hb d_M_bind_37 rfl (lv_at hl 0 rfl) ?_
  refine ug_R hx hb ht hown hM hK hP 64 (by decide) lk_M_64 (by decide) d_M_bind_38 ?_
  refine lv_aload_n hx hb d_M_bind_41 rfl (lv_at hl 0 rfl) ?_
  refine ug_I hx hb ht hown hM hK hP 65 (by decide) lk_M_65 (by decide) d_M_bind_42 ?_
  refine lv_aload_n hx hb d_M_bind_45 rfl (lv_at hl 0 rfl) ?_
  refine ug_R hx hb ht hown hM hK hP 60 (by decide) lk_M_60 (by decide) d_M_bind_46 ?_
  refine lv_aload_n hx hb d_M_bind_49 rfl (lv_at hl 0 rfl) ?_
  refine ug_I hx hb ht hown hM hK hP 65 (by decide) lk_M_65 (by decide) d_M_bind_50 ?_
  obtain ⟨hi9, hf⟩ := ck_some hf
  refine ul_I hx hb hK hP (by decide) (by decide) hi9 d_M_bind_53 ?_
  refine lv_aload_n hx hb d_M_bind_54 rfl (lv_at hl 0 rfl) ?_
  refine ug_R hx hb ht hown hM hK hP 64 (by decide) lk_M_64 (by decide) d_M_bind_55 ?_
  refine lv_aload_n hx hb d_M_bind_58 rfl (lv_at hl 0 rfl) ?_
  refine ug_I hx hb ht hown hM hK hP 65 (by decide) lk_M_65 (by decide) d_M_bind_59 ?_
  obtain ⟨hi9, hf⟩ := ck_some hf
  refine ul_I hx hb hK hP (by decide) (by decide) hi9 d_M_bind_62 ?_
  refine lv_icmp_le (tgt := 78) hx hb d_M_bind_63 (by decide) (fun hc => ?_) (fun hc => ?_)
  · rw [br_p _ hc] at hf
    refine lv_aload_n hx hb d_M_bind_78 rfl (lv_at hl 0 rfl) ?_
    refine ug_R hx hb ht hown hM hK hP 64 (by decide) lk_M_64 (by decide) d_M_bind_79 ?_
    refine lv_aload_n hx hb d_M_bind_82 rfl (lv_at hl 0 rfl) ?_
    refine ug_I hx hb ht hown hM hK hP 65 (by decide) lk_M_65 (by decide) d_M_bind_83 ?_
    obtain ⟨hi9, hf⟩ := ck_some hf
    refine ul_I hx hb hK hP (by decide) (by decide) hi9 d_M_bind_86 ?_
    exact wb_M_bind_87 C0 hR N G hG _ _ _ _ _ hf H locs hP hD hS ls (lv_sub hl [0] rfl)
  · rw [br_n _ hc] at hf
    refine lv_aload_n hx hb d_M_bind_66 rfl (lv_at hl 0 rfl) ?_
    refine ug_R hx hb ht hown hM hK hP 60 (by decide) lk_M_60 (by decide) d_M_bind_67 ?_
    refine lv_aload_n hx hb d_M_bind_70 rfl (lv_at hl 0 rfl) ?_
    refine ug_I hx hb ht hown hM hK hP 65 (by decide) lk_M_65 (by decide) d_M_bind_71 ?_
    obtain ⟨hi9, hf⟩ := ck_some hf
    refine ul_I hx hb hK hP (by decide) (by decide) hi9 d_M_bind_74 ?_
    refine lv_goto (tgt := 87) hx hb d_M_bind_75 (by decide) ?_
    exact wb_M_bind_87 C0 hR N G hG _ _ _ _ _ hf H locs hP hD hS ls (lv_sub hl [0] rfl)
def fm_M_bind (N : Nat) (u : MS) (v1 : Int32) : Option (MS × Int32) := fb_M_bind_0 N () u v1
set_option maxRecDepth 100000 in
set_option maxHeartbeats 4000000 in
theorem c_M_bind (N : Nat) {l : Launch} {D : va_G} {cl : List vw_C} {cB cI cJ cZ cS : ClassId} {iM h0 : Nat} {ad : Nat → Nat} {u : MS} {sz : Nat} {v1 : Int32} {x : MS × Int32} (hM : cl[iM]? = some (R_M, F_M, 171)) (hf : fm_M_bind N u v1 = some x) : Met l y_M_bind (wd_ws y_M_bind b_M_bind 2 (some .int)) rm_M_bind (mPc D cl cB cI cJ cZ cS iM h0 ad u sz [.ref h0, .int v1]) (mQi D cl cB cI cJ cZ cS iM h0 ad (mA cB cI cJ cZ cS iM h0 ad u sz) x) 0 0 (mA cB cI cJ cZ cS iM h0 ad u sz) :=
  mMet (by decide) rfl hM (Nat.le_of_ble_eq_true rfl) (fun p e s m below meth c ls hsz C0 hP hD hS hl => by
    have hR : rm_M_bind = rm_M_bind := rfl
    exact wb_M_bind_0 C0 hR N () trivial u _ x hf s.heap [] hP hD hS ls (lv_sub hl [0, 1] rfl))
abbrev b_M_isUnderscore : ByteArray := prog_14_method_34_code
def y_M_isUnderscore : MethodName := ⟨R_M, "isUnderscore", "(I)Z"⟩
def w_M_isUnderscore : List Cond := wd_ws y_M_isUnderscore b_M_isUnderscore 3 (some .boolean)
set_option maxRecDepth 100000 in
theorem k_M_isUnderscore : Cond.code y_M_isUnderscore b_M_isUnderscore 3 (some .boolean) ∈ wd_tbl := wd_of 2735 rfl rfl
theorem d_M_isUnderscore_0 : decode b_M_isUnderscore 0 = .ok (.aload_n 0, 1) := by decide +kernel
theorem d_M_isUnderscore_1 : decode b_M_isUnderscore 1 = .ok (.getfield 25, 3) := by decide +kernel
theorem d_M_isUnderscore_4 : decode b_M_isUnderscore 4 = .ok (.iload_n 1, 1) := by decide +kernel
theorem d_M_isUnderscore_5 : decode b_M_isUnderscore 5 = .ok (.iaload, 1) := by decide +kernel
theorem d_M_isUnderscore_6 : decode b_M_isUnderscore 6 = .ok (.istore_n 2, 1) := by decide +kernel
theorem d_M_isUnderscore_7 : decode b_M_isUnderscore 7 = .ok (.aload_n 0, 1) := by decide +kernel
theorem d_M_isUnderscore_8 : decode b_M_isUnderscore 8 = .ok (.getfield 41, 3) := by decide +kernel
theorem d_M_isUnderscore_11 : decode b_M_isUnderscore 11 = .ok (.iload_n 2, 1) := by decide +kernel
theorem d_M_isUnderscore_12 : decode b_M_isUnderscore 12 = .ok (.iconst 1, 1) := by decide +kernel
theorem d_M_isUnderscore_13 : decode b_M_isUnderscore 13 = .ok (.iadd, 1) := by decide +kernel
theorem d_M_isUnderscore_14 : decode b_M_isUnderscore 14 = .ok (.iaload, 1) := by decide +kernel
theorem d_M_isUnderscore_15 : decode b_M_isUnderscore 15 = .ok (.aload_n 0, 1) := by decide +kernel
theorem d_M_isUnderscore_16 : decode b_M_isUnderscore 16 = .ok (.getfield 41, 3) := by decide +kernel
theorem d_M_isUnderscore_19 : decode b_M_isUnderscore 19 = .ok (.iload_n 2, 1) := by decide +kernel
theorem d_M_isUnderscore_20 : decode b_M_isUnderscore 20 = .ok (.iaload, 1) := by decide +kernel
theorem d_M_isUnderscore_21 : decode b_M_isUnderscore 21 = .ok (.isub, 1) := by decide +kernel
theorem d_M_isUnderscore_22 : decode b_M_isUnderscore 22 = .ok (.iconst 1, 1) := by decide +kernel
theorem d_M_isUnderscore_23 : decode b_M_isUnderscore 23 = .ok (.if_icmp .ne 23, 3) := by decide +kernel
theorem d_M_isUnderscore_26 : decode b_M_isUnderscore 26 = .ok (.aload_n 0, 1) := by decide +kernel
theorem d_M_isUnderscore_27 : decode b_M_isUnderscore 27 = .ok (.getfield 38, 3) := by decide +kernel
theorem d_M_isUnderscore_30 : decode b_M_isUnderscore 30 = .ok (.aload_n 0, 1) := by decide +kernel
theorem d_M_isUnderscore_31 : decode b_M_isUnderscore 31 = .ok (.getfield 41, 3) := by decide +kernel
theorem d_M_isUnderscore_34 : decode b_M_isUnderscore 34 = .ok (.iload_n 2, 1) := by decide +kernel
theorem d_M_isUnderscore_35 : decode b_M_isUnderscore 35 = .ok (.iaload, 1) := by decide +kernel
theorem d_M_isUnderscore_36 : decode b_M_isUnderscore 36 = .ok (.baload, 1) := by decide +kernel
theorem d_M_isUnderscore_37 : decode b_M_isUnderscore 37 = .ok (.bipush 95, 2) := by decide +kernel
theorem d_M_isUnderscore_39 : decode b_M_isUnderscore 39 = .ok (.if_icmp .ne 7, 3) := by decide +kernel
theorem d_M_isUnderscore_42 : decode b_M_isUnderscore 42 = .ok (.iconst 1, 1) := by decide +kernel
theorem d_M_isUnderscore_43 : decode b_M_isUnderscore 43 = .ok (.goto 4, 3) := by decide +kernel
theorem d_M_isUnderscore_46 : decode b_M_isUnderscore 46 = .ok (.iconst 0, 1) := by decide +kernel
theorem d_M_isUnderscore_47 : decode b_M_isUnderscore 47 = .ok (.ireturn, 1) := by decide +kernel
set_option maxRecDepth 100000 in
theorem hl_M_isUnderscore : Cond.methodLink R_M 574 y_M_isUnderscore ∈ wd_tbl := wd_of 2732 (by decide +kernel) rfl
set_option maxRecDepth 100000 in
theorem hi_M_isUnderscore : Cond.instanceMethod y_M_isUnderscore ∈ wd_tbl := wd_of 2734 (by decide +kernel) rfl
set_option maxRecDepth 100000 in
theorem hs_M_isUnderscore : Cond.selects R_M y_M_isUnderscore y_M_isUnderscore ∈ wd_tbl := wd_of 147 (by decide +kernel) rfl
theorem hd_M_isUnderscore : y_M_isUnderscore.cls = R_M ∧ y_M_isUnderscore.cls ≠ "java/lang/invoke/MethodHandle" ∧ y_M_isUnderscore.cls ≠ "java/lang/invoke/VarHandle" ∧ (parseMethodDescriptor y_M_isUnderscore.desc).map (fun d => d.parameters.length) = some 1 := by decide +kernel
def rm_M_isUnderscore : Room := { frames := 0, cells := 0, slots := 0, locals := 0 }
def fb_M_isUnderscore_47 (N : Nat) (G : Unit) (u : MS) (t0 : Int32) : Option (MS × Int32) := ck (isb t0) (some (u, t0))
set_option maxRecDepth 100000 in
set_option maxHeartbeats 4000000 in
theorem wb_M_isUnderscore_47 {p : Program} {l : Launch} {e : Env} {R : Room} {s : State} {m : MethodId} {args : Array Value} {below : List Frame} {meth : Method} {c : Code} {D : va_G} {cl : List vw_C} {cB cI cJ cZ cS : ClassId} {A : Nat → Prop} {iM h0 : Nat} {ad : Nat → Nat} (C0 : MCx p s m args meth c b_M_isUnderscore 3 (some .boolean) D cl cB cI cJ cZ cS iM A) (hR : R = rm_M_isUnderscore) (N : Nat) (G : Unit) (hG : True) : ∀ (u : MS) (t0 : Int32) (x : MS × Int32), fb_M_isUnderscore_47 N G u t0 = some x → ∀ (H : Heap) (locs : List Loc), va_P D cl (wM cB cI cJ cZ cS iM h0 ad u) H → va_D A (wM cB cI cJ cZ cS iM h0 ad u) → va_S A s.heap H locs → ∀ (ls : Array Slot), lv_has ls 3 [] → W p l e R s m args below meth c H locs 0 0 (MQ below (mQi D cl cB cI cJ cZ cS iM h0 ad A x) args s 0 0 A) (F0 m 47 ls [.int t0]) := by
  intro u t0 x hf H locs hP hD hS ls hl
  obtain ⟨hx, hb, hr, hml, ht, hown, hM, hK, hA, hlocks⟩ := id C0
  unfold fb_M_isUnderscore_47 at hf
  obtain ⟨hz, hf⟩ := ck_some hf
  exact mr_z C0 hP hD hS hz hf d_M_isUnderscore_47
def fb_M_isUnderscore_46 (N : Nat) (G : Unit) (u : MS) : Option (MS × Int32) := fb_M_isUnderscore_47 N G u (0)
set_option maxRecDepth 100000 in
set_option maxHeartbeats 4000000 in
theorem wb_M_isUnderscore_46 {p : Program} {l : Launch} {e : Env} {R : Room} {s : State} {m : MethodId} {args : Array Value} {below : List Frame} {meth : Method} {c : Code} {D : va_G} {cl : List vw_C} {cB cI cJ cZ cS : ClassId} {A : Nat → Prop} {iM h0 : Nat} {ad : Nat → Nat} (C0 : MCx p s m args meth c b_M_isUnderscore 3 (some .boolean) D cl cB cI cJ cZ cS iM A) (hR : R = rm_M_isUnderscore) (N : Nat) (G : Unit) (hG : True) : ∀ (u : MS) (x : MS × Int32), fb_M_isUnderscore_46 N G u = some x → ∀ (H : Heap) (locs : List Loc), va_P D cl (wM cB cI cJ cZ cS iM h0 ad u) H → va_D A (wM cB cI cJ cZ cS iM h0 ad u) → va_S A s.heap H locs → ∀ (ls : Array Slot), lv_has ls 3 [] → W p l e R s m args below meth c H locs 0 0 (MQ below (mQi D cl cB cI cJ cZ cS iM h0 ad A x) args s 0 0 A) (F0 m 46 ls []) := by
  intro u x hf H locs hP hD hS ls hl
  obtain ⟨hx, hb, hr, hml, ht, hown, hM, hK, hA, hlocks⟩ := id C0
  unfold fb_M_isUnderscore_46 at hf
  refine lv_iconst (v := 0) hx hb d_M_isUnderscore_46 (by decide) ?_
  exact wb_M_isUnderscore_47 C0 hR N G hG _ _ _ hf H locs hP hD hS ls (lv_sub hl [] rfl)
def fb_M_isUnderscore_0 (N : Nat) (G : Unit) (u : MS) (v1 : Int32) : Option (MS × Int32) := ck (inb v1 (ln 7)) (ck (inb ((u.2.2.1 7 v1.toNatClampNeg) + 1) (ln 16)) (ck (inb (u.2.2.1 7 v1.toNatClampNeg) (ln 16)) (br (decide (((u.2.2.1 16 ((u.2.2.1 7 v1.toNatClampNeg) + 1).toNatClampNeg) - (u.2.2.1 16 (u.2.2.1 7 v1.toNatClampNeg).toNatClampNeg)) = 1)) (ck (inb (u.2.2.1 7 v1.toNatClampNeg) (ln 16)) (ck (inb (u.2.2.1 16 (u.2.2.1 7 v1.toNatClampNeg).toNatClampNeg) (ln 15)) (br (decide ((u.2.2.1 15 (u.2.2.1 16 (u.2.2.1 7 v1.toNatClampNeg).toNatClampNeg).toNatClampNeg) = 95)) (fb_M_isUnderscore_47 N G u (1)) (fb_M_isUnderscore_46 N G u)))) (fb_M_isUnderscore_46 N G u))))
set_option maxRecDepth 100000 in
set_option maxHeartbeats 4000000 in
theorem wb_M_isUnderscore_0 {p : Program} {l : Launch} {e : Env} {R : Room} {s : State} {m : MethodId} {args : Array Value} {below : List Frame} {meth : Method} {c : Code} {D : va_G} {cl : List vw_C} {cB cI cJ cZ cS : ClassId} {A : Nat → Prop} {iM h0 : Nat} {ad : Nat → Nat} (C0 : MCx p s m args meth c b_M_isUnderscore 3 (some .boolean) D cl cB cI cJ cZ cS iM A) (hR : R = rm_M_isUnderscore) (N : Nat) (G : Unit) (hG : True) : ∀ (u : MS) (v1 : Int32) (x : MS × Int32), fb_M_isUnderscore_0 N G u v1 = some x → ∀ (H : Heap) (locs : List Loc), va_P D cl (wM cB cI cJ cZ cS iM h0 ad u) H → va_D A (wM cB cI cJ cZ cS iM h0 ad u) → va_S A s.heap H locs → ∀ (ls : Array Slot), lv_has ls 3 [(0, .ref h0), (1, .int v1)] → W p l e R s m args below meth c H locs 0 0 (MQ below (mQi D cl cB cI cJ cZ cS iM h0 ad A x) args s 0 0 A) (F0 m 0 ls []) := by
  intro u v1 x hf H locs hP hD hS ls hl
  obtain ⟨hx, hb, hr, hml, ht, hown, hM, hK, hA, hlocks⟩ := id C0
  unfold fb_M_isUnderscore_0 at hf
  refine lv_aload_n hx hb d_M_isUnderscore_0 rfl (lv_at hl 0 rfl) ?_
  refine ug_R hx hb ht hown hM hK hP 7 (by decide) lk_M_7 (by decide) d_M_isUnderscore_1 ?_
  refine lv_iload_n hx hb d_M_isUnderscore_4 rfl (lv_at hl 1 rfl) ?_
  obtain ⟨hi9, hf⟩ := ck_some hf
  refine ul_I hx hb hK hP (by decide) (by decide) hi9 d_M_isUnderscore_5 ?_
  refine lv_istore_n (lv' := [(2, .int (u.2.2.1 7 v1.toNatClampNeg)), (0, .ref h0), (1, .int v1)]) hx hb d_M_isUnderscore_6 rfl hl (by decide) rfl (fun ls hl => ?_)
  refine lv_aload_n hx hb d_M_isUnderscore_7 rfl (lv_at hl 1 rfl) ?_
  refine ug_R hx hb ht hown hM hK hP 16 (by decide) lk_M_16 (by decide) d_M_isUnderscore_8 ?_
  refine lv_iload_n hx hb d_M_isUnderscore_11 rfl (lv_at hl 0 rfl) ?_
  refine lv_iconst (v := 1) hx hb d_M_isUnderscore_12 (by decide) ?_
  refine lv_iadd hx hb d_M_isUnderscore_13 ?_
  obtain ⟨hi9, hf⟩ := ck_some hf
  refine ul_I hx hb hK hP (by decide) (by decide) hi9 d_M_isUnderscore_14 ?_
  refine lv_aload_n hx hb d_M_isUnderscore_15 rfl (lv_at hl 1 rfl) ?_
  refine ug_R hx hb ht hown hM hK hP 16 (by decide) lk_M_16 (by decide) d_M_isUnderscore_16 ?_
  refine lv_iload_n hx hb d_M_isUnderscore_19 rfl (lv_at hl 0 rfl) ?_
  obtain ⟨hi9, hf⟩ := ck_some hf
  refine ul_I hx hb hK hP (by decide) (by decide) hi9 d_M_isUnderscore_20 ?_
  refine lv_isub hx hb d_M_isUnderscore_21 ?_
  refine lv_iconst (v := 1) hx hb d_M_isUnderscore_22 (by decide) ?_
  refine lv_icmp_ne (tgt := 46) hx hb d_M_isUnderscore_23 (by decide) (fun hc => ?_) (fun hc => ?_)
  · rw [br_n _ hc] at hf
    exact wb_M_isUnderscore_46 C0 hR N G hG _ _ hf H locs hP hD hS ls (lv_sub hl [] rfl)
  · rw [br_p _ hc] at hf
    refine lv_aload_n hx hb d_M_isUnderscore_26 rfl (lv_at hl 1 rfl) ?_
    refine ug_R hx hb ht hown hM hK hP 15 (by decide) lk_M_15 (by decide) d_M_isUnderscore_27 ?_
    refine lv_aload_n hx hb d_M_isUnderscore_30 rfl (lv_at hl 1 rfl) ?_
    refine ug_R hx hb ht hown hM hK hP 16 (by decide) lk_M_16 (by decide) d_M_isUnderscore_31 ?_
    refine lv_iload_n hx hb d_M_isUnderscore_34 rfl (lv_at hl 0 rfl) ?_
    obtain ⟨hi9, hf⟩ := ck_some hf
    refine ul_I hx hb hK hP (by decide) (by decide) hi9 d_M_isUnderscore_35 ?_
    obtain ⟨hi9, hf⟩ := ck_some hf
    refine ul_B hx hb hK hP (by decide) (by decide) hi9 d_M_isUnderscore_36 ?_
    refine lv_bipush (v := 95) hx hb d_M_isUnderscore_37 (by decide) ?_
    refine lv_icmp_ne (tgt := 46) hx hb d_M_isUnderscore_39 (by decide) (fun hc => ?_) (fun hc => ?_)
    · rw [br_n _ hc] at hf
      exact wb_M_isUnderscore_46 C0 hR N G hG _ _ hf H locs hP hD hS ls (lv_sub hl [] rfl)
    · rw [br_p _ hc] at hf
      refine lv_iconst (v := 1) hx hb d_M_isUnderscore_42 (by decide) ?_
      refine lv_goto (tgt := 47) hx hb d_M_isUnderscore_43 (by decide) ?_
      exact wb_M_isUnderscore_47 C0 hR N G hG _ _ _ hf H locs hP hD hS ls (lv_sub hl [] rfl)
def fm_M_isUnderscore (N : Nat) (u : MS) (v1 : Int32) : Option (MS × Int32) := fb_M_isUnderscore_0 N () u v1
set_option maxRecDepth 100000 in
set_option maxHeartbeats 4000000 in
theorem c_M_isUnderscore (N : Nat) {l : Launch} {D : va_G} {cl : List vw_C} {cB cI cJ cZ cS : ClassId} {iM h0 : Nat} {ad : Nat → Nat} {u : MS} {sz : Nat} {v1 : Int32} {x : MS × Int32} (hM : cl[iM]? = some (R_M, F_M, 171)) (hf : fm_M_isUnderscore N u v1 = some x) : Met l y_M_isUnderscore (wd_ws y_M_isUnderscore b_M_isUnderscore 3 (some .boolean)) rm_M_isUnderscore (mPc D cl cB cI cJ cZ cS iM h0 ad u sz [.ref h0, .int v1]) (mQi D cl cB cI cJ cZ cS iM h0 ad (mA cB cI cJ cZ cS iM h0 ad u sz) x) 0 0 (mA cB cI cJ cZ cS iM h0 ad u sz) :=
  mMet (by decide) rfl hM (Nat.le_of_ble_eq_true rfl) (fun p e s m below meth c ls hsz C0 hP hD hS hl => by
    have hR : rm_M_isUnderscore = rm_M_isUnderscore := rfl
    exact wb_M_isUnderscore_0 C0 hR N () trivial u _ x hf s.heap [] hP hD hS ls (lv_sub hl [0, 1] rfl))
abbrev b_M_unbind : ByteArray := prog_14_method_35_code
def y_M_unbind : MethodName := ⟨R_M, "unbind", "(I)V"⟩
def w_M_unbind : List Cond := wd_ws y_M_unbind b_M_unbind 3 none
set_option maxRecDepth 100000 in
theorem k_M_unbind : Cond.code y_M_unbind b_M_unbind 3 none ∈ wd_tbl := wd_of 2791 rfl rfl
theorem d_M_unbind_0 : decode b_M_unbind 0 = .ok (.aload_n 0, 1) := by decide +kernel
theorem d_M_unbind_1 : decode b_M_unbind 1 = .ok (.getfield 153, 3) := by decide +kernel
theorem d_M_unbind_4 : decode b_M_unbind 4 = .ok (.aload_n 0, 1) := by decide +kernel
theorem d_M_unbind_5 : decode b_M_unbind 5 = .ok (.getfield 493, 3) := by decide +kernel
theorem d_M_unbind_8 : decode b_M_unbind 8 = .ok (.iaload, 1) := by decide +kernel
theorem d_M_unbind_9 : decode b_M_unbind 9 = .ok (.iload_n 1, 1) := by decide +kernel
theorem d_M_unbind_10 : decode b_M_unbind 10 = .ok (.if_icmp .le 31, 3) := by decide +kernel
theorem d_M_unbind_13 : decode b_M_unbind 13 = .ok (.aload_n 0, 1) := by decide +kernel
theorem d_M_unbind_14 : decode b_M_unbind 14 = .ok (.bipush 18, 2) := by decide +kernel
theorem d_M_unbind_16 : decode b_M_unbind 16 = .ok (.aload_n 0, 1) := by decide +kernel
theorem d_M_unbind_17 : decode b_M_unbind 17 = .ok (.getfield 457, 3) := by decide +kernel
theorem d_M_unbind_20 : decode b_M_unbind 20 = .ok (.invokevirtual 500, 3) := by decide +kernel
theorem d_M_unbind_23 : decode b_M_unbind 23 = .ok (.istore_n 2, 1) := by decide +kernel
theorem d_M_unbind_24 : decode b_M_unbind 24 = .ok (.aload_n 0, 1) := by decide +kernel
theorem d_M_unbind_25 : decode b_M_unbind 25 = .ok (.getfield 63, 3) := by decide +kernel
theorem d_M_unbind_28 : decode b_M_unbind 28 = .ok (.iload_n 2, 1) := by decide +kernel
theorem d_M_unbind_29 : decode b_M_unbind 29 = .ok (.iload_n 1, 1) := by decide +kernel
theorem d_M_unbind_30 : decode b_M_unbind 30 = .ok (.iastore, 1) := by decide +kernel
theorem d_M_unbind_31 : decode b_M_unbind 31 = .ok (.aload_n 0, 1) := by decide +kernel
theorem d_M_unbind_32 : decode b_M_unbind 32 = .ok (.getfield 153, 3) := by decide +kernel
theorem d_M_unbind_35 : decode b_M_unbind 35 = .ok (.aload_n 0, 1) := by decide +kernel
theorem d_M_unbind_36 : decode b_M_unbind 36 = .ok (.getfield 493, 3) := by decide +kernel
theorem d_M_unbind_39 : decode b_M_unbind 39 = .ok (.iload_n 1, 1) := by decide +kernel
theorem d_M_unbind_40 : decode b_M_unbind 40 = .ok (.iastore, 1) := by decide +kernel
theorem d_M_unbind_41 : decode b_M_unbind 41 = .ok (.return_, 1) := by decide +kernel
set_option maxRecDepth 100000 in
theorem hl_M_unbind : Cond.methodLink R_M 580 y_M_unbind ∈ wd_tbl := wd_of 2788 (by decide +kernel) rfl
set_option maxRecDepth 100000 in
theorem hi_M_unbind : Cond.instanceMethod y_M_unbind ∈ wd_tbl := wd_of 2790 (by decide +kernel) rfl
set_option maxRecDepth 100000 in
theorem hs_M_unbind : Cond.selects R_M y_M_unbind y_M_unbind ∈ wd_tbl := wd_of 161 (by decide +kernel) rfl
theorem hd_M_unbind : y_M_unbind.cls = R_M ∧ y_M_unbind.cls ≠ "java/lang/invoke/MethodHandle" ∧ y_M_unbind.cls ≠ "java/lang/invoke/VarHandle" ∧ (parseMethodDescriptor y_M_unbind.desc).map (fun d => d.parameters.length) = some 1 := by decide +kernel
def rm_M_unbind : Room := { frames := 1, cells := 0, slots := 0, locals := 22 }
theorem rm_M_unbind_M_node {R : Room} (hR : R = rm_M_unbind) : (rm_M_node).frames + 1 ≤ R.frames ∧ 8 + (3 + 11) + (rm_M_node).locals ≤ R.locals := by subst hR; decide
def fb_M_unbind_41 (N : Nat) (G : Unit) (u : MS) : Option (MS × Unit) := some (u, ())
set_option maxRecDepth 100000 in
set_option maxHeartbeats 4000000 in
theorem wb_M_unbind_41 {p : Program} {l : Launch} {e : Env} {R : Room} {s : State} {m : MethodId} {args : Array Value} {below : List Frame} {meth : Method} {c : Code} {D : va_G} {cl : List vw_C} {cB cI cJ cZ cS : ClassId} {A : Nat → Prop} {iM h0 : Nat} {ad : Nat → Nat} (C0 : MCx p s m args meth c b_M_unbind 3 none D cl cB cI cJ cZ cS iM A) (hR : R = rm_M_unbind) (N : Nat) (G : Unit) (hG : True) : ∀ (u : MS) (x : MS × Unit), fb_M_unbind_41 N G u = some x → ∀ (H : Heap) (locs : List Loc), va_P D cl (wM cB cI cJ cZ cS iM h0 ad u) H → va_D A (wM cB cI cJ cZ cS iM h0 ad u) → va_S A s.heap H locs → ∀ (ls : Array Slot), lv_has ls 3 [] → W p l e R s m args below meth c H locs 0 0 (MQ below (mQv D cl cB cI cJ cZ cS iM h0 ad A x) args s 0 0 A) (F0 m 41 ls []) := by
  intro u x hf H locs hP hD hS ls hl
  obtain ⟨hx, hb, hr, hml, ht, hown, hM, hK, hA, hlocks⟩ := id C0
  unfold fb_M_unbind_41 at hf
  exact mr_v C0 hP hD hS hf d_M_unbind_41
def fb_M_unbind_0 (N : Nat) (G : Unit) (u : MS) (v1 : Int32) : Option (MS × Unit) := ck (inb (u.1 65) (ln 60)) (br (decide ((u.2.2.1 60 (u.1 65).toNatClampNeg) ≤ v1)) (fb_M_unbind_41 N G u) (bnd (fm_M_node N u 18 (u.1 69)) (fun u1 r1 => ck (inb r1 (ln 25)) (lt (upA u1 25 (upd (u1.2.2.1 25) r1.toNatClampNeg v1)) (fun w2 => ck (inb (w2.1 65) (ln 60)) (lt (upA w2 60 (upd (w2.2.2.1 60) (w2.1 65).toNatClampNeg v1)) (fun w3 => fb_M_unbind_41 N G w3)))))))
set_option maxRecDepth 100000 in
set_option maxHeartbeats 4000000 in
theorem wb_M_unbind_0 {p : Program} {l : Launch} {e : Env} {R : Room} {s : State} {m : MethodId} {args : Array Value} {below : List Frame} {meth : Method} {c : Code} {D : va_G} {cl : List vw_C} {cB cI cJ cZ cS : ClassId} {A : Nat → Prop} {iM h0 : Nat} {ad : Nat → Nat} (C0 : MCx p s m args meth c b_M_unbind 3 none D cl cB cI cJ cZ cS iM A) (hR : R = rm_M_unbind) (N : Nat) (G : Unit) (hG : True) : ∀ (u : MS) (v1 : Int32) (x : MS × Unit), fb_M_unbind_0 N G u v1 = some x → ∀ (H : Heap) (locs : List Loc), va_P D cl (wM cB cI cJ cZ cS iM h0 ad u) H → va_D A (wM cB cI cJ cZ cS iM h0 ad u) → va_S A s.heap H locs → ∀ (ls : Array Slot), lv_has ls 3 [(0, .ref h0), (1, .int v1)] → W p l e R s m args below meth c H locs 0 0 (MQ below (mQv D cl cB cI cJ cZ cS iM h0 ad A x) args s 0 0 A) (F0 m 0 ls []) := by
  intro u v1 x hf H locs hP hD hS ls hl
  obtain ⟨hx, hb, hr, hml, ht, hown, hM, hK, hA, hlocks⟩ := id C0
  unfold fb_M_unbind_0 at hf
  refine lv_aload_n hx hb d_M_unbind_0 rfl (lv_at hl 0 rfl) ?_
  refine ug_R hx hb ht hown hM hK hP 60 (by decide) lk_M_60 (by decide) d_M_unbind_1 ?_
  refine lv_aload_n hx hb d_M_unbind_4 rfl (lv_at hl 0 rfl) ?_
  refine ug_I hx hb ht hown hM hK hP 65 (by decide) lk_M_65 (by decide) d_M_unbind_5 ?_
  obtain ⟨hi9, hf⟩ := ck_some hf
  refine ul_I hx hb hK hP (by decide) (by decide) hi9 d_M_unbind_8 ?_
  refine lv_iload_n hx hb d_M_unbind_9 rfl (lv_at hl 1 rfl) ?_
  refine lv_icmp_le (tgt := 41) hx hb d_M_unbind_10 (by decide) (fun hc => ?_) (fun hc => ?_)
  · rw [br_p _ hc] at hf
    exact wb_M_unbind_41 C0 hR N G hG _ _ hf H locs hP hD hS ls (lv_sub hl [] rfl)
  · rw [br_n _ hc] at hf
    refine lv_aload_n hx hb d_M_unbind_13 rfl (lv_at hl 0 rfl) ?_
    refine lv_bipush (v := 18) hx hb d_M_unbind_14 (by decide) ?_
    refine lv_aload_n hx hb d_M_unbind_16 rfl (lv_at hl 0 rfl) ?_
    refine ug_I hx hb ht hown hM hK hP 69 (by decide) lk_M_69 (by decide) d_M_unbind_17 ?_
    obtain ⟨u1, r1, hc1, hf⟩ := bnd_some hf
    refine mV_i (As := [.int 18, .int (u.1 69)]) (rest := []) C0 hP hD hS (c_M_node N hM hc1) k_M_node hl_M_node hi_M_node hs_M_node hini_M rfl rfl hd_M_node rfl (rm_M_unbind_M_node hR) hl.1 (Nat.le_of_ble_eq_true rfl) d_M_unbind_20 rfl ⟨Nat.zero_le _, Nat.zero_le _⟩ (fun H locs hP hD hS => ?_)
    refine lv_istore_n (lv' := [(2, .int r1), (0, .ref h0), (1, .int v1)]) hx hb d_M_unbind_23 rfl hl (by decide) rfl (fun ls hl => ?_)
    refine lv_aload_n hx hb d_M_unbind_24 rfl (lv_at hl 1 rfl) ?_
    refine ug_R hx hb ht hown hM hK hP 25 (by decide) lk_M_25 (by decide) d_M_unbind_25 ?_
    refine lv_iload_n hx hb d_M_unbind_28 rfl (lv_at hl 0 rfl) ?_
    refine lv_iload_n hx hb d_M_unbind_29 rfl (lv_at hl 2 rfl) ?_
    obtain ⟨hi9, hf⟩ := ck_some hf
    refine us_I hx hb hK hP hD hS (by decide) (by decide) hi9 d_M_unbind_30 (fun H locs hP hD hS => ?_)
    obtain ⟨w2, e2, hf⟩ := lt_some hf
    rw [← e2] at hP hD
    refine lv_aload_n hx hb d_M_unbind_31 rfl (lv_at hl 1 rfl) ?_
    refine ug_R hx hb ht hown hM hK hP 60 (by decide) lk_M_60 (by decide) d_M_unbind_32 ?_
    refine lv_aload_n hx hb d_M_unbind_35 rfl (lv_at hl 1 rfl) ?_
    refine ug_I hx hb ht hown hM hK hP 65 (by decide) lk_M_65 (by decide) d_M_unbind_36 ?_
    refine lv_iload_n hx hb d_M_unbind_39 rfl (lv_at hl 2 rfl) ?_
    obtain ⟨hi9, hf⟩ := ck_some hf
    refine us_I hx hb hK hP hD hS (by decide) (by decide) hi9 d_M_unbind_40 (fun H locs hP hD hS => ?_)
    obtain ⟨w3, e3, hf⟩ := lt_some hf
    rw [← e3] at hP hD
    exact wb_M_unbind_41 C0 hR N G hG _ _ hf H locs hP hD hS ls (lv_sub hl [] rfl)
def fm_M_unbind (N : Nat) (u : MS) (v1 : Int32) : Option (MS × Unit) := fb_M_unbind_0 N () u v1
set_option maxRecDepth 100000 in
set_option maxHeartbeats 4000000 in
theorem c_M_unbind (N : Nat) {l : Launch} {D : va_G} {cl : List vw_C} {cB cI cJ cZ cS : ClassId} {iM h0 : Nat} {ad : Nat → Nat} {u : MS} {sz : Nat} {v1 : Int32} {x : MS × Unit} (hM : cl[iM]? = some (R_M, F_M, 171)) (hf : fm_M_unbind N u v1 = some x) : Met l y_M_unbind (wd_ws y_M_unbind b_M_unbind 3 none) rm_M_unbind (mPc D cl cB cI cJ cZ cS iM h0 ad u sz [.ref h0, .int v1]) (mQv D cl cB cI cJ cZ cS iM h0 ad (mA cB cI cJ cZ cS iM h0 ad u sz) x) 0 0 (mA cB cI cJ cZ cS iM h0 ad u sz) :=
  mMet (by decide) rfl hM (Nat.le_of_ble_eq_true rfl) (fun p e s m below meth c ls hsz C0 hP hD hS hl => by
    have hR : rm_M_unbind = rm_M_unbind := rfl
    exact wb_M_unbind_0 C0 hR N () trivial u _ x hf s.heap [] hP hD hS ls (lv_sub hl [0, 1] rfl))
abbrev b_M_term : ByteArray := prog_14_method_36_code
def y_M_term : MethodName := ⟨R_M, "term", "(II)J"⟩
def w_M_term : List Cond := wd_ws y_M_term b_M_term 2 (some .long)
set_option maxRecDepth 100000 in
theorem k_M_term : Cond.code y_M_term b_M_term 2 (some .long) ∈ wd_tbl := wd_of 2105 rfl rfl
theorem d_M_term_0 : decode b_M_term 0 = .ok (.iload_n 0, 1) := by decide +kernel
theorem d_M_term_1 : decode b_M_term 1 = .ok (.i2l, 1) := by decide +kernel
theorem d_M_term_2 : decode b_M_term 2 = .ok (.bipush 32, 2) := by decide +kernel
theorem d_M_term_4 : decode b_M_term 4 = .ok (.lshl, 1) := by decide +kernel
theorem d_M_term_5 : decode b_M_term 5 = .ok (.iload_n 1, 1) := by decide +kernel
theorem d_M_term_6 : decode b_M_term 6 = .ok (.i2l, 1) := by decide +kernel
theorem d_M_term_7 : decode b_M_term 7 = .ok (.ldc2_w 503, 3) := by decide +kernel
theorem d_M_term_10 : decode b_M_term 10 = .ok (.land, 1) := by decide +kernel
theorem d_M_term_11 : decode b_M_term 11 = .ok (.lor, 1) := by decide +kernel
theorem d_M_term_12 : decode b_M_term 12 = .ok (.lreturn, 1) := by decide +kernel
set_option maxRecDepth 100000 in
theorem hl_M_term : Cond.methodLink R_M 315 y_M_term ∈ wd_tbl := wd_of 2103 (by decide +kernel) rfl
set_option maxRecDepth 100000 in
theorem ht_M_term : Cond.static y_M_term ∈ wd_tbl := wd_of 2104 (by decide +kernel) rfl
theorem hd_M_term : y_M_term.cls = R_M ∧ y_M_term.cls ≠ "java/lang/invoke/MethodHandle" ∧ y_M_term.cls ≠ "java/lang/invoke/VarHandle" ∧ (parseMethodDescriptor y_M_term.desc).map (fun d => d.parameters.length) = some 2 := by decide +kernel
def rm_M_term : Room := { frames := 0, cells := 0, slots := 0, locals := 0 }
def fb_M_term_0 (N : Nat) (G : Unit) (u : MS) (v0 : Int32) (v1 : Int32) : Option (MS × Int64) := some (u, (((v0.toInt64) <<< ((32 : Int32).toInt64 &&& 63)) ||| (v1.toInt64 &&& 4294967295)))
set_option maxRecDepth 100000 in
set_option maxHeartbeats 4000000 in
theorem wb_M_term_0 {p : Program} {l : Launch} {e : Env} {R : Room} {s : State} {m : MethodId} {args : Array Value} {below : List Frame} {meth : Method} {c : Code} {D : va_G} {cl : List vw_C} {cB cI cJ cZ cS : ClassId} {A : Nat → Prop} {iM h0 : Nat} {ad : Nat → Nat} (C0 : MCx p s m args meth c b_M_term 2 (some .long) D cl cB cI cJ cZ cS iM A) (hR : R = rm_M_term) (N : Nat) (G : Unit) (hG : True) : ∀ (u : MS) (v0 : Int32) (v1 : Int32) (x : MS × Int64), fb_M_term_0 N G u v0 v1 = some x → ∀ (H : Heap) (locs : List Loc), va_P D cl (wM cB cI cJ cZ cS iM h0 ad u) H → va_D A (wM cB cI cJ cZ cS iM h0 ad u) → va_S A s.heap H locs → ∀ (ls : Array Slot), lv_has ls 2 [(0, .int v0), (1, .int v1)] → W p l e R s m args below meth c H locs 0 0 (MQ below (mQl D cl cB cI cJ cZ cS iM h0 ad A x) args s 0 0 A) (F0 m 0 ls []) := by
  intro u v0 v1 x hf H locs hP hD hS ls hl
  obtain ⟨hx, hb, hr, hml, ht, hown, hM, hK, hA, hlocks⟩ := id C0
  unfold fb_M_term_0 at hf
  refine lv_iload_n hx hb d_M_term_0 rfl (lv_at hl 0 rfl) ?_
  refine lv_i2l hx hb d_M_term_1 rfl ?_
  refine lv_bipush (v := 32) hx hb d_M_term_2 (by decide) ?_
  refine lv_lshl hx hb d_M_term_4 rfl ?_
  refine lv_iload_n hx hb d_M_term_5 rfl (lv_at hl 1 rfl) ?_
  refine lv_i2l hx hb d_M_term_6 rfl ?_
  refine lv_ldc2 (v := 4294967295) hx hb hown (ht _ (wd_of 2106 (by decide +kernel) rfl)) d_M_term_7 ?_
  refine lv_land hx hb d_M_term_10 ?_
  refine lv_lor hx hb d_M_term_11 ?_
  exact mr_l C0 hP hD hS hf d_M_term_12
def fm_M_term (N : Nat) (u : MS) (v0 : Int32) (v1 : Int32) : Option (MS × Int64) := fb_M_term_0 N () u v0 v1
set_option maxRecDepth 100000 in
set_option maxHeartbeats 4000000 in
theorem c_M_term (N : Nat) {l : Launch} {D : va_G} {cl : List vw_C} {cB cI cJ cZ cS : ClassId} {iM h0 : Nat} {ad : Nat → Nat} {u : MS} {sz : Nat} {v0 : Int32} {v1 : Int32} {x : MS × Int64} (hM : cl[iM]? = some (R_M, F_M, 171)) (hf : fm_M_term N u v0 v1 = some x) : Met l y_M_term (wd_ws y_M_term b_M_term 2 (some .long)) rm_M_term (mPc D cl cB cI cJ cZ cS iM h0 ad u sz [.int v0, .int v1]) (mQl D cl cB cI cJ cZ cS iM h0 ad (mA cB cI cJ cZ cS iM h0 ad u sz) x) 0 0 (mA cB cI cJ cZ cS iM h0 ad u sz) :=
  mMet (by decide) rfl hM (Nat.le_of_ble_eq_true rfl) (fun p e s m below meth c ls hsz C0 hP hD hS hl => by
    have hR : rm_M_term = rm_M_term := rfl
    exact wb_M_term_0 C0 hR N () trivial u _ _ x hf s.heap [] hP hD hS ls (lv_sub hl [0, 1] rfl))
abbrev b_M_sortOf : ByteArray := prog_14_method_37_code
def y_M_sortOf : MethodName := ⟨R_M, "sortOf", "(J)I"⟩
def w_M_sortOf : List Cond := wd_ws y_M_sortOf b_M_sortOf 2 (some .int)
set_option maxRecDepth 100000 in
theorem k_M_sortOf : Cond.code y_M_sortOf b_M_sortOf 2 (some .int) ∈ wd_tbl := wd_of 2970 rfl rfl
theorem d_M_sortOf_0 : decode b_M_sortOf 0 = .ok (.lload_n 0, 1) := by decide +kernel
theorem d_M_sortOf_1 : decode b_M_sortOf 1 = .ok (.bipush 32, 2) := by decide +kernel
theorem d_M_sortOf_3 : decode b_M_sortOf 3 = .ok (.lshr, 1) := by decide +kernel
theorem d_M_sortOf_4 : decode b_M_sortOf 4 = .ok (.l2i, 1) := by decide +kernel
theorem d_M_sortOf_5 : decode b_M_sortOf 5 = .ok (.ireturn, 1) := by decide +kernel
set_option maxRecDepth 100000 in
theorem hl_M_sortOf : Cond.methodLink R_M 676 y_M_sortOf ∈ wd_tbl := wd_of 2968 (by decide +kernel) rfl
set_option maxRecDepth 100000 in
theorem ht_M_sortOf : Cond.static y_M_sortOf ∈ wd_tbl := wd_of 2969 (by decide +kernel) rfl
theorem hd_M_sortOf : y_M_sortOf.cls = R_M ∧ y_M_sortOf.cls ≠ "java/lang/invoke/MethodHandle" ∧ y_M_sortOf.cls ≠ "java/lang/invoke/VarHandle" ∧ (parseMethodDescriptor y_M_sortOf.desc).map (fun d => d.parameters.length) = some 1 := by decide +kernel
def rm_M_sortOf : Room := { frames := 0, cells := 0, slots := 0, locals := 0 }
def fb_M_sortOf_0 (N : Nat) (G : Unit) (u : MS) (v0 : Int64) : Option (MS × Int32) := some (u, (v0 >>> ((32 : Int32).toInt64 &&& 63)).toInt32)
set_option maxRecDepth 100000 in
set_option maxHeartbeats 4000000 in
theorem wb_M_sortOf_0 {p : Program} {l : Launch} {e : Env} {R : Room} {s : State} {m : MethodId} {args : Array Value} {below : List Frame} {meth : Method} {c : Code} {D : va_G} {cl : List vw_C} {cB cI cJ cZ cS : ClassId} {A : Nat → Prop} {iM h0 : Nat} {ad : Nat → Nat} (C0 : MCx p s m args meth c b_M_sortOf 2 (some .int) D cl cB cI cJ cZ cS iM A) (hR : R = rm_M_sortOf) (N : Nat) (G : Unit) (hG : True) : ∀ (u : MS) (v0 : Int64) (x : MS × Int32), fb_M_sortOf_0 N G u v0 = some x → ∀ (H : Heap) (locs : List Loc), va_P D cl (wM cB cI cJ cZ cS iM h0 ad u) H → va_D A (wM cB cI cJ cZ cS iM h0 ad u) → va_S A s.heap H locs → ∀ (ls : Array Slot), lv_has ls 2 [(0, .long v0)] → W p l e R s m args below meth c H locs 0 0 (MQ below (mQi D cl cB cI cJ cZ cS iM h0 ad A x) args s 0 0 A) (F0 m 0 ls []) := by
  intro u v0 x hf H locs hP hD hS ls hl
  obtain ⟨hx, hb, hr, hml, ht, hown, hM, hK, hA, hlocks⟩ := id C0
  unfold fb_M_sortOf_0 at hf
  refine lv_lload_n hx hb d_M_sortOf_0 rfl (lv_at hl 0 rfl) ?_
  refine lv_bipush (v := 32) hx hb d_M_sortOf_1 (by decide) ?_
  refine lv_lshr hx hb d_M_sortOf_3 rfl ?_
  refine lv_l2i hx hb d_M_sortOf_4 rfl ?_
  exact mr_i C0 hP hD hS hf d_M_sortOf_5
def fm_M_sortOf (N : Nat) (u : MS) (v0 : Int64) : Option (MS × Int32) := fb_M_sortOf_0 N () u v0
set_option maxRecDepth 100000 in
set_option maxHeartbeats 4000000 in
theorem c_M_sortOf (N : Nat) {l : Launch} {D : va_G} {cl : List vw_C} {cB cI cJ cZ cS : ClassId} {iM h0 : Nat} {ad : Nat → Nat} {u : MS} {sz : Nat} {v0 : Int64} {x : MS × Int32} (hM : cl[iM]? = some (R_M, F_M, 171)) (hf : fm_M_sortOf N u v0 = some x) : Met l y_M_sortOf (wd_ws y_M_sortOf b_M_sortOf 2 (some .int)) rm_M_sortOf (mPc D cl cB cI cJ cZ cS iM h0 ad u sz [.long v0]) (mQi D cl cB cI cJ cZ cS iM h0 ad (mA cB cI cJ cZ cS iM h0 ad u sz) x) 0 0 (mA cB cI cJ cZ cS iM h0 ad u sz) :=
  mMet (by decide) rfl hM (Nat.le_of_ble_eq_true rfl) (fun p e s m below meth c ls hsz C0 hP hD hS hl => by
    have hR : rm_M_sortOf = rm_M_sortOf := rfl
    exact wb_M_sortOf_0 C0 hR N () trivial u _ x hf s.heap [] hP hD hS ls (lv_sub hl [0] rfl))
abbrev b_M_valueOf : ByteArray := prog_14_method_38_code
def y_M_valueOf : MethodName := ⟨R_M, "valueOf", "(J)I"⟩
def w_M_valueOf : List Cond := wd_ws y_M_valueOf b_M_valueOf 2 (some .int)
set_option maxRecDepth 100000 in
theorem k_M_valueOf : Cond.code y_M_valueOf b_M_valueOf 2 (some .int) ∈ wd_tbl := wd_of 2973 rfl rfl
theorem d_M_valueOf_0 : decode b_M_valueOf 0 = .ok (.lload_n 0, 1) := by decide +kernel
theorem d_M_valueOf_1 : decode b_M_valueOf 1 = .ok (.l2i, 1) := by decide +kernel
theorem d_M_valueOf_2 : decode b_M_valueOf 2 = .ok (.ireturn, 1) := by decide +kernel
set_option maxRecDepth 100000 in
theorem hl_M_valueOf : Cond.methodLink R_M 680 y_M_valueOf ∈ wd_tbl := wd_of 2971 (by decide +kernel) rfl
set_option maxRecDepth 100000 in
theorem ht_M_valueOf : Cond.static y_M_valueOf ∈ wd_tbl := wd_of 2972 (by decide +kernel) rfl
theorem hd_M_valueOf : y_M_valueOf.cls = R_M ∧ y_M_valueOf.cls ≠ "java/lang/invoke/MethodHandle" ∧ y_M_valueOf.cls ≠ "java/lang/invoke/VarHandle" ∧ (parseMethodDescriptor y_M_valueOf.desc).map (fun d => d.parameters.length) = some 1 := by decide +kernel
def rm_M_valueOf : Room := { frames := 0, cells := 0, slots := 0, locals := 0 }
def fb_M_valueOf_0 (N : Nat) (G : Unit) (u : MS) (v0 : Int64) : Option (MS × Int32) := some (u, v0.toInt32)
set_option maxRecDepth 100000 in
set_option maxHeartbeats 4000000 in
theorem wb_M_valueOf_0 {p : Program} {l : Launch} {e : Env} {R : Room} {s : State} {m : MethodId} {args : Array Value} {below : List Frame} {meth : Method} {c : Code} {D : va_G} {cl : List vw_C} {cB cI cJ cZ cS : ClassId} {A : Nat → Prop} {iM h0 : Nat} {ad : Nat → Nat} (C0 : MCx p s m args meth c b_M_valueOf 2 (some .int) D cl cB cI cJ cZ cS iM A) (hR : R = rm_M_valueOf) (N : Nat) (G : Unit) (hG : True) : ∀ (u : MS) (v0 : Int64) (x : MS × Int32), fb_M_valueOf_0 N G u v0 = some x → ∀ (H : Heap) (locs : List Loc), va_P D cl (wM cB cI cJ cZ cS iM h0 ad u) H → va_D A (wM cB cI cJ cZ cS iM h0 ad u) → va_S A s.heap H locs → ∀ (ls : Array Slot), lv_has ls 2 [(0, .long v0)] → W p l e R s m args below meth c H locs 0 0 (MQ below (mQi D cl cB cI cJ cZ cS iM h0 ad A x) args s 0 0 A) (F0 m 0 ls []) := by
  intro u v0 x hf H locs hP hD hS ls hl
  obtain ⟨hx, hb, hr, hml, ht, hown, hM, hK, hA, hlocks⟩ := id C0
  unfold fb_M_valueOf_0 at hf
  refine lv_lload_n hx hb d_M_valueOf_0 rfl (lv_at hl 0 rfl) ?_
  refine lv_l2i hx hb d_M_valueOf_1 rfl ?_
  exact mr_i C0 hP hD hS hf d_M_valueOf_2
def fm_M_valueOf (N : Nat) (u : MS) (v0 : Int64) : Option (MS × Int32) := fb_M_valueOf_0 N () u v0
set_option maxRecDepth 100000 in
set_option maxHeartbeats 4000000 in
theorem c_M_valueOf (N : Nat) {l : Launch} {D : va_G} {cl : List vw_C} {cB cI cJ cZ cS : ClassId} {iM h0 : Nat} {ad : Nat → Nat} {u : MS} {sz : Nat} {v0 : Int64} {x : MS × Int32} (hM : cl[iM]? = some (R_M, F_M, 171)) (hf : fm_M_valueOf N u v0 = some x) : Met l y_M_valueOf (wd_ws y_M_valueOf b_M_valueOf 2 (some .int)) rm_M_valueOf (mPc D cl cB cI cJ cZ cS iM h0 ad u sz [.long v0]) (mQi D cl cB cI cJ cZ cS iM h0 ad (mA cB cI cJ cZ cS iM h0 ad u sz) x) 0 0 (mA cB cI cJ cZ cS iM h0 ad u sz) :=
  mMet (by decide) rfl hM (Nat.le_of_ble_eq_true rfl) (fun p e s m below meth c ls hsz C0 hP hD hS hl => by
    have hR : rm_M_valueOf = rm_M_valueOf := rfl
    exact wb_M_valueOf_0 C0 hR N () trivial u _ x hf s.heap [] hP hD hS ls (lv_sub hl [0] rfl))
abbrev b_M_truth : ByteArray := prog_14_method_39_code
def y_M_truth : MethodName := ⟨R_M, "truth", "(Z)J"⟩
def w_M_truth : List Cond := wd_ws y_M_truth b_M_truth 1 (some .long)
set_option maxRecDepth 100000 in
theorem k_M_truth : Cond.code y_M_truth b_M_truth 1 (some .long) ∈ wd_tbl := wd_of 3085 rfl rfl
theorem d_M_truth_0 : decode b_M_truth 0 = .ok (.iconst 1, 1) := by decide +kernel
theorem d_M_truth_1 : decode b_M_truth 1 = .ok (.iload_n 0, 1) := by decide +kernel
theorem d_M_truth_2 : decode b_M_truth 2 = .ok (.ifCond .eq 7, 3) := by decide +kernel
theorem d_M_truth_5 : decode b_M_truth 5 = .ok (.iconst 0, 1) := by decide +kernel
theorem d_M_truth_6 : decode b_M_truth 6 = .ok (.goto 4, 3) := by decide +kernel
theorem d_M_truth_9 : decode b_M_truth 9 = .ok (.iconst 1, 1) := by decide +kernel
theorem d_M_truth_10 : decode b_M_truth 10 = .ok (.invokestatic 315, 3) := by decide +kernel
theorem d_M_truth_13 : decode b_M_truth 13 = .ok (.lreturn, 1) := by decide +kernel
set_option maxRecDepth 100000 in
theorem hl_M_truth : Cond.methodLink R_M 940 y_M_truth ∈ wd_tbl := wd_of 3083 (by decide +kernel) rfl
set_option maxRecDepth 100000 in
theorem ht_M_truth : Cond.static y_M_truth ∈ wd_tbl := wd_of 3084 (by decide +kernel) rfl
theorem hd_M_truth : y_M_truth.cls = R_M ∧ y_M_truth.cls ≠ "java/lang/invoke/MethodHandle" ∧ y_M_truth.cls ≠ "java/lang/invoke/VarHandle" ∧ (parseMethodDescriptor y_M_truth.desc).map (fun d => d.parameters.length) = some 1 := by decide +kernel
def rm_M_truth : Room := { frames := 1, cells := 0, slots := 0, locals := 21 }
theorem rm_M_truth_M_term {R : Room} (hR : R = rm_M_truth) : (rm_M_term).frames + 1 ≤ R.frames ∧ 8 + (2 + 11) + (rm_M_term).locals ≤ R.locals := by subst hR; decide
def fb_M_truth_10 (N : Nat) (G : Unit) (u : MS) (t0 : Int32) (t1 : Int32) : Option (MS × Int64) := bnd (fm_M_term N u t0 t1) (fun u1 r1 => some (u1, r1))
set_option maxRecDepth 100000 in
set_option maxHeartbeats 4000000 in
theorem wb_M_truth_10 {p : Program} {l : Launch} {e : Env} {R : Room} {s : State} {m : MethodId} {args : Array Value} {below : List Frame} {meth : Method} {c : Code} {D : va_G} {cl : List vw_C} {cB cI cJ cZ cS : ClassId} {A : Nat → Prop} {iM h0 : Nat} {ad : Nat → Nat} (C0 : MCx p s m args meth c b_M_truth 1 (some .long) D cl cB cI cJ cZ cS iM A) (hR : R = rm_M_truth) (N : Nat) (G : Unit) (hG : True) : ∀ (u : MS) (t0 : Int32) (t1 : Int32) (x : MS × Int64), fb_M_truth_10 N G u t0 t1 = some x → ∀ (H : Heap) (locs : List Loc), va_P D cl (wM cB cI cJ cZ cS iM h0 ad u) H → va_D A (wM cB cI cJ cZ cS iM h0 ad u) → va_S A s.heap H locs → ∀ (ls : Array Slot), lv_has ls 1 [] → W p l e R s m args below meth c H locs 0 0 (MQ below (mQl D cl cB cI cJ cZ cS iM h0 ad A x) args s 0 0 A) (F0 m 10 ls [.int t1, .int t0]) := by
  intro u t0 t1 x hf H locs hP hD hS ls hl
  obtain ⟨hx, hb, hr, hml, ht, hown, hM, hK, hA, hlocks⟩ := id C0
  unfold fb_M_truth_10 at hf
  obtain ⟨u1, r1, hc1, hf⟩ := bnd_some hf
  refine mS_l (As := [.int t0, .int t1]) (rest := []) C0 hP hD hS (c_M_term N hM hc1) k_M_term hl_M_term ht_M_term hini_M rfl rfl hd_M_term rfl (rm_M_truth_M_term hR) hl.1 (Nat.le_of_ble_eq_true rfl) d_M_truth_10 rfl ⟨Nat.zero_le _, Nat.zero_le _⟩ (fun H locs hP hD hS => ?_)
  exact mr_l C0 hP hD hS hf d_M_truth_13
def fb_M_truth_0 (N : Nat) (G : Unit) (u : MS) (v0 : Int32) : Option (MS × Int64) := br (decide (v0 = 0)) (fb_M_truth_10 N G u (1) (1)) (fb_M_truth_10 N G u (1) (0))
set_option maxRecDepth 100000 in
set_option maxHeartbeats 4000000 in
theorem wb_M_truth_0 {p : Program} {l : Launch} {e : Env} {R : Room} {s : State} {m : MethodId} {args : Array Value} {below : List Frame} {meth : Method} {c : Code} {D : va_G} {cl : List vw_C} {cB cI cJ cZ cS : ClassId} {A : Nat → Prop} {iM h0 : Nat} {ad : Nat → Nat} (C0 : MCx p s m args meth c b_M_truth 1 (some .long) D cl cB cI cJ cZ cS iM A) (hR : R = rm_M_truth) (N : Nat) (G : Unit) (hG : True) : ∀ (u : MS) (v0 : Int32) (x : MS × Int64), fb_M_truth_0 N G u v0 = some x → ∀ (H : Heap) (locs : List Loc), va_P D cl (wM cB cI cJ cZ cS iM h0 ad u) H → va_D A (wM cB cI cJ cZ cS iM h0 ad u) → va_S A s.heap H locs → ∀ (ls : Array Slot), lv_has ls 1 [(0, .int v0)] → W p l e R s m args below meth c H locs 0 0 (MQ below (mQl D cl cB cI cJ cZ cS iM h0 ad A x) args s 0 0 A) (F0 m 0 ls []) := by
  intro u v0 x hf H locs hP hD hS ls hl
  obtain ⟨hx, hb, hr, hml, ht, hown, hM, hK, hA, hlocks⟩ := id C0
  unfold fb_M_truth_0 at hf
  refine lv_iconst (v := 1) hx hb d_M_truth_0 (by decide) ?_
  refine lv_iload_n hx hb d_M_truth_1 rfl (lv_at hl 0 rfl) ?_
  refine lv_if_eq (tgt := 9) hx hb d_M_truth_2 (by decide) (fun hc => ?_) (fun hc => ?_)
  · rw [br_p _ hc] at hf
    refine lv_iconst (v := 1) hx hb d_M_truth_9 (by decide) ?_
    exact wb_M_truth_10 C0 hR N G hG _ _ _ _ hf H locs hP hD hS ls (lv_sub hl [] rfl)
  · rw [br_n _ hc] at hf
    refine lv_iconst (v := 0) hx hb d_M_truth_5 (by decide) ?_
    refine lv_goto (tgt := 10) hx hb d_M_truth_6 (by decide) ?_
    exact wb_M_truth_10 C0 hR N G hG _ _ _ _ hf H locs hP hD hS ls (lv_sub hl [] rfl)
def fm_M_truth (N : Nat) (u : MS) (v0 : Int32) : Option (MS × Int64) := fb_M_truth_0 N () u v0
set_option maxRecDepth 100000 in
set_option maxHeartbeats 4000000 in
theorem c_M_truth (N : Nat) {l : Launch} {D : va_G} {cl : List vw_C} {cB cI cJ cZ cS : ClassId} {iM h0 : Nat} {ad : Nat → Nat} {u : MS} {sz : Nat} {v0 : Int32} {x : MS × Int64} (hM : cl[iM]? = some (R_M, F_M, 171)) (hf : fm_M_truth N u v0 = some x) : Met l y_M_truth (wd_ws y_M_truth b_M_truth 1 (some .long)) rm_M_truth (mPc D cl cB cI cJ cZ cS iM h0 ad u sz [.int v0]) (mQl D cl cB cI cJ cZ cS iM h0 ad (mA cB cI cJ cZ cS iM h0 ad u sz) x) 0 0 (mA cB cI cJ cZ cS iM h0 ad u sz) :=
  mMet (by decide) rfl hM (Nat.le_of_ble_eq_true rfl) (fun p e s m below meth c ls hsz C0 hP hD hS hl => by
    have hR : rm_M_truth = rm_M_truth := rfl
    exact wb_M_truth_0 C0 hR N () trivial u _ x hf s.heap [] hP hD hS ls (lv_sub hl [0] rfl))
abbrev b_M_namePattern : ByteArray := prog_14_method_50_code
def y_M_namePattern : MethodName := ⟨R_M, "namePattern", "(Z)I"⟩
def w_M_namePattern : List Cond := wd_ws y_M_namePattern b_M_namePattern 4 (some .int)
set_option maxRecDepth 100000 in
theorem k_M_namePattern : Cond.code y_M_namePattern b_M_namePattern 4 (some .int) ∈ wd_tbl := wd_of 2731 rfl rfl
theorem d_M_namePattern_0 : decode b_M_namePattern 0 = .ok (.aload_n 0, 1) := by decide +kernel
theorem d_M_namePattern_1 : decode b_M_namePattern 1 = .ok (.aload_n 0, 1) := by decide +kernel
theorem d_M_namePattern_2 : decode b_M_namePattern 2 = .ok (.getfield 457, 3) := by decide +kernel
theorem d_M_namePattern_5 : decode b_M_namePattern 5 = .ok (.invokevirtual 574, 3) := by decide +kernel
theorem d_M_namePattern_8 : decode b_M_namePattern 8 = .ok (.ifCond .eq 12, 3) := by decide +kernel
theorem d_M_namePattern_11 : decode b_M_namePattern 11 = .ok (.aload_n 0, 1) := by decide +kernel
theorem d_M_namePattern_12 : decode b_M_namePattern 12 = .ok (.iconst 0, 1) := by decide +kernel
theorem d_M_namePattern_13 : decode b_M_namePattern 13 = .ok (.invokevirtual 568, 3) := by decide +kernel
theorem d_M_namePattern_16 : decode b_M_namePattern 16 = .ok (.istore_n 2, 1) := by decide +kernel
theorem d_M_namePattern_17 : decode b_M_namePattern 17 = .ok (.goto 88, 3) := by decide +kernel
theorem d_M_namePattern_20 : decode b_M_namePattern 20 = .ok (.iload_n 1, 1) := by decide +kernel
theorem d_M_namePattern_21 : decode b_M_namePattern 21 = .ok (.ifCond .eq 23, 3) := by decide +kernel
theorem d_M_namePattern_24 : decode b_M_namePattern 24 = .ok (.aload_n 0, 1) := by decide +kernel
theorem d_M_namePattern_25 : decode b_M_namePattern 25 = .ok (.aload_n 0, 1) := by decide +kernel
theorem d_M_namePattern_26 : decode b_M_namePattern 26 = .ok (.getfield 493, 3) := by decide +kernel
theorem d_M_namePattern_29 : decode b_M_namePattern 29 = .ok (.aload_n 0, 1) := by decide +kernel
theorem d_M_namePattern_30 : decode b_M_namePattern 30 = .ok (.getfield 25, 3) := by decide +kernel
theorem d_M_namePattern_33 : decode b_M_namePattern 33 = .ok (.aload_n 0, 1) := by decide +kernel
theorem d_M_namePattern_34 : decode b_M_namePattern 34 = .ok (.getfield 457, 3) := by decide +kernel
theorem d_M_namePattern_37 : decode b_M_namePattern 37 = .ok (.iaload, 1) := by decide +kernel
theorem d_M_namePattern_38 : decode b_M_namePattern 38 = .ok (.invokevirtual 487, 3) := by decide +kernel
theorem d_M_namePattern_41 : decode b_M_namePattern 41 = .ok (.goto 20, 3) := by decide +kernel
theorem d_M_namePattern_44 : decode b_M_namePattern 44 = .ok (.aload_n 0, 1) := by decide +kernel
theorem d_M_namePattern_45 : decode b_M_namePattern 45 = .ok (.aload_n 0, 1) := by decide +kernel
theorem d_M_namePattern_46 : decode b_M_namePattern 46 = .ok (.getfield 493, 3) := by decide +kernel
theorem d_M_namePattern_49 : decode b_M_namePattern 49 = .ok (.aload_n 0, 1) := by decide +kernel
theorem d_M_namePattern_50 : decode b_M_namePattern 50 = .ok (.getfield 25, 3) := by decide +kernel
theorem d_M_namePattern_53 : decode b_M_namePattern 53 = .ok (.aload_n 0, 1) := by decide +kernel
theorem d_M_namePattern_54 : decode b_M_namePattern 54 = .ok (.getfield 457, 3) := by decide +kernel
theorem d_M_namePattern_57 : decode b_M_namePattern 57 = .ok (.iaload, 1) := by decide +kernel
theorem d_M_namePattern_58 : decode b_M_namePattern 58 = .ok (.invokevirtual 490, 3) := by decide +kernel
theorem d_M_namePattern_61 : decode b_M_namePattern 61 = .ok (.istore_n 3, 1) := by decide +kernel
theorem d_M_namePattern_62 : decode b_M_namePattern 62 = .ok (.aload_n 0, 1) := by decide +kernel
theorem d_M_namePattern_63 : decode b_M_namePattern 63 = .ok (.iload_n 3, 1) := by decide +kernel
theorem d_M_namePattern_64 : decode b_M_namePattern 64 = .ok (.iconst (-1), 1) := by decide +kernel
theorem d_M_namePattern_65 : decode b_M_namePattern 65 = .ok (.if_icmp .ne 7, 3) := by decide +kernel
theorem d_M_namePattern_68 : decode b_M_namePattern 68 = .ok (.iconst 1, 1) := by decide +kernel
theorem d_M_namePattern_69 : decode b_M_namePattern 69 = .ok (.goto 4, 3) := by decide +kernel
theorem d_M_namePattern_72 : decode b_M_namePattern 72 = .ok (.iconst 2, 1) := by decide +kernel
theorem d_M_namePattern_73 : decode b_M_namePattern 73 = .ok (.invokevirtual 568, 3) := by decide +kernel
theorem d_M_namePattern_76 : decode b_M_namePattern 76 = .ok (.istore_n 2, 1) := by decide +kernel
theorem d_M_namePattern_77 : decode b_M_namePattern 77 = .ok (.aload_n 0, 1) := by decide +kernel
theorem d_M_namePattern_78 : decode b_M_namePattern 78 = .ok (.getfield 92, 3) := by decide +kernel
theorem d_M_namePattern_81 : decode b_M_namePattern 81 = .ok (.iload_n 2, 1) := by decide +kernel
theorem d_M_namePattern_82 : decode b_M_namePattern 82 = .ok (.iload_n 3, 1) := by decide +kernel
theorem d_M_namePattern_83 : decode b_M_namePattern 83 = .ok (.iconst (-1), 1) := by decide +kernel
theorem d_M_namePattern_84 : decode b_M_namePattern 84 = .ok (.if_icmp .ne 19, 3) := by decide +kernel
theorem d_M_namePattern_87 : decode b_M_namePattern 87 = .ok (.aload_n 0, 1) := by decide +kernel
theorem d_M_namePattern_88 : decode b_M_namePattern 88 = .ok (.aload_n 0, 1) := by decide +kernel
theorem d_M_namePattern_89 : decode b_M_namePattern 89 = .ok (.getfield 25, 3) := by decide +kernel
theorem d_M_namePattern_92 : decode b_M_namePattern 92 = .ok (.aload_n 0, 1) := by decide +kernel
theorem d_M_namePattern_93 : decode b_M_namePattern 93 = .ok (.getfield 457, 3) := by decide +kernel
theorem d_M_namePattern_96 : decode b_M_namePattern 96 = .ok (.iaload, 1) := by decide +kernel
theorem d_M_namePattern_97 : decode b_M_namePattern 97 = .ok (.invokevirtual 577, 3) := by decide +kernel
theorem d_M_namePattern_100 : decode b_M_namePattern 100 = .ok (.goto 4, 3) := by decide +kernel
theorem d_M_namePattern_103 : decode b_M_namePattern 103 = .ok (.iload_n 3, 1) := by decide +kernel
theorem d_M_namePattern_104 : decode b_M_namePattern 104 = .ok (.iastore, 1) := by decide +kernel
theorem d_M_namePattern_105 : decode b_M_namePattern 105 = .ok (.aload_n 0, 1) := by decide +kernel
theorem d_M_namePattern_106 : decode b_M_namePattern 106 = .ok (.dup, 1) := by decide +kernel
theorem d_M_namePattern_107 : decode b_M_namePattern 107 = .ok (.getfield 457, 3) := by decide +kernel
theorem d_M_namePattern_110 : decode b_M_namePattern 110 = .ok (.iconst 1, 1) := by decide +kernel
theorem d_M_namePattern_111 : decode b_M_namePattern 111 = .ok (.iadd, 1) := by decide +kernel
theorem d_M_namePattern_112 : decode b_M_namePattern 112 = .ok (.putfield 457, 3) := by decide +kernel
theorem d_M_namePattern_115 : decode b_M_namePattern 115 = .ok (.iload_n 2, 1) := by decide +kernel
theorem d_M_namePattern_116 : decode b_M_namePattern 116 = .ok (.ireturn, 1) := by decide +kernel
set_option maxRecDepth 100000 in
theorem hl_M_namePattern : Cond.methodLink R_M 565 y_M_namePattern ∈ wd_tbl := wd_of 2728 (by decide +kernel) rfl
set_option maxRecDepth 100000 in
theorem hi_M_namePattern : Cond.instanceMethod y_M_namePattern ∈ wd_tbl := wd_of 2730 (by decide +kernel) rfl
set_option maxRecDepth 100000 in
theorem hs_M_namePattern : Cond.selects R_M y_M_namePattern y_M_namePattern ∈ wd_tbl := wd_of 146 (by decide +kernel) rfl
theorem hd_M_namePattern : y_M_namePattern.cls = R_M ∧ y_M_namePattern.cls ≠ "java/lang/invoke/MethodHandle" ∧ y_M_namePattern.cls ≠ "java/lang/invoke/VarHandle" ∧ (parseMethodDescriptor y_M_namePattern.desc).map (fun d => d.parameters.length) = some 1 := by decide +kernel
def rm_M_namePattern : Room := { frames := 32, cells := 0, slots := 0, locals := 767 }
theorem rm_M_namePattern_M_isUnderscore {R : Room} (hR : R = rm_M_namePattern) : (rm_M_isUnderscore).frames + 1 ≤ R.frames ∧ 8 + (3 + 11) + (rm_M_isUnderscore).locals ≤ R.locals := by subst hR; decide
theorem rm_M_namePattern_M_pattern {R : Room} (hR : R = rm_M_namePattern) : (rm_M_pattern).frames + 1 ≤ R.frames ∧ 8 + (2 + 11) + (rm_M_pattern).locals ≤ R.locals := by subst hR; decide
theorem rm_M_namePattern_M_boundIn {R : Room} (hR : R = rm_M_namePattern) : (rm_M_boundIn).frames + 1 ≤ R.frames ∧ 8 + (4 + 11) + (rm_M_boundIn).locals ≤ R.locals := by subst hR; decide
theorem rm_M_namePattern_M_found {R : Room} (hR : R = rm_M_namePattern) : (rm_M_found).frames + 1 ≤ R.frames ∧ 8 + (5 + 11) + (rm_M_found).locals ≤ R.locals := by subst hR; decide
theorem rm_M_namePattern_M_bind {R : Room} (hR : R = rm_M_namePattern) : (rm_M_bind).frames + 1 ≤ R.frames ∧ 8 + (2 + 11) + (rm_M_bind).locals ≤ R.locals := by subst hR; decide
def fb_M_namePattern_105 (N : Nat) (G : Unit) (u : MS) (v2 : Int32) : Option (MS × Int32) := lt (upI u 69 ((u.1 69) + 1)) (fun w1 => some (w1, v2))
set_option maxRecDepth 100000 in
set_option maxHeartbeats 4000000 in
theorem wb_M_namePattern_105 {p : Program} {l : Launch} {e : Env} {R : Room} {s : State} {m : MethodId} {args : Array Value} {below : List Frame} {meth : Method} {c : Code} {D : va_G} {cl : List vw_C} {cB cI cJ cZ cS : ClassId} {A : Nat → Prop} {iM h0 : Nat} {ad : Nat → Nat} (C0 : MCx p s m args meth c b_M_namePattern 4 (some .int) D cl cB cI cJ cZ cS iM A) (hR : R = rm_M_namePattern) (N : Nat) (G : Unit) (hG : True) : ∀ (u : MS) (v2 : Int32) (x : MS × Int32), fb_M_namePattern_105 N G u v2 = some x → ∀ (H : Heap) (locs : List Loc), va_P D cl (wM cB cI cJ cZ cS iM h0 ad u) H → va_D A (wM cB cI cJ cZ cS iM h0 ad u) → va_S A s.heap H locs → ∀ (ls : Array Slot), lv_has ls 4 [(0, .ref h0), (2, .int v2)] → W p l e R s m args below meth c H locs 0 0 (MQ below (mQi D cl cB cI cJ cZ cS iM h0 ad A x) args s 0 0 A) (F0 m 105 ls []) := by
  intro u v2 x hf H locs hP hD hS ls hl
  obtain ⟨hx, hb, hr, hml, ht, hown, hM, hK, hA, hlocks⟩ := id C0
  unfold fb_M_namePattern_105 at hf
  refine lv_aload_n hx hb d_M_namePattern_105 rfl (lv_at hl 0 rfl) ?_
  refine lv_dup hx hb d_M_namePattern_106 rfl ?_
  refine ug_I hx hb ht hown hM hK hP 69 (by decide) lk_M_69 (by decide) d_M_namePattern_107 ?_
  refine lv_iconst (v := 1) hx hb d_M_namePattern_110 (by decide) ?_
  refine lv_iadd hx hb d_M_namePattern_111 ?_
  refine up_I hx hb ht hown hM hK hP hD hS 69 (by decide) lk_M_69 (by decide) rfl rfl rfl d_M_namePattern_112 (fun H locs hP hD hS => ?_)
  obtain ⟨w1, e1, hf⟩ := lt_some hf
  rw [← e1] at hP hD
  refine lv_iload_n hx hb d_M_namePattern_115 rfl (lv_at hl 1 rfl) ?_
  exact mr_i C0 hP hD hS hf d_M_namePattern_116
def fb_M_namePattern_104 (N : Nat) (G : Unit) (u : MS) (v2 : Int32) (t0 : Nat) (t1 : Int32) (t2 : Int32) : Option (MS × Int32) := ck (isK t0 4) (ck (inb t1 (ln t0)) (lt (upA u t0 (upd (u.2.2.1 t0) t1.toNatClampNeg t2)) (fun w2 => fb_M_namePattern_105 N G w2 (v2))))
set_option maxRecDepth 100000 in
set_option maxHeartbeats 4000000 in
theorem wb_M_namePattern_104 {p : Program} {l : Launch} {e : Env} {R : Room} {s : State} {m : MethodId} {args : Array Value} {below : List Frame} {meth : Method} {c : Code} {D : va_G} {cl : List vw_C} {cB cI cJ cZ cS : ClassId} {A : Nat → Prop} {iM h0 : Nat} {ad : Nat → Nat} (C0 : MCx p s m args meth c b_M_namePattern 4 (some .int) D cl cB cI cJ cZ cS iM A) (hR : R = rm_M_namePattern) (N : Nat) (G : Unit) (hG : True) : ∀ (u : MS) (v2 : Int32) (t0 : Nat) (t1 : Int32) (t2 : Int32) (x : MS × Int32), fb_M_namePattern_104 N G u v2 t0 t1 t2 = some x → ∀ (H : Heap) (locs : List Loc), va_P D cl (wM cB cI cJ cZ cS iM h0 ad u) H → va_D A (wM cB cI cJ cZ cS iM h0 ad u) → va_S A s.heap H locs → ∀ (ls : Array Slot), lv_has ls 4 [(0, .ref h0), (2, .int v2)] → W p l e R s m args below meth c H locs 0 0 (MQ below (mQi D cl cB cI cJ cZ cS iM h0 ad A x) args s 0 0 A) (F0 m 104 ls [.int t2, .int t1, .ref (ad t0)]) := by
  intro u v2 t0 t1 t2 x hf H locs hP hD hS ls hl
  obtain ⟨hx, hb, hr, hml, ht, hown, hM, hK, hA, hlocks⟩ := id C0
  unfold fb_M_namePattern_104 at hf
  obtain ⟨hk9, hf⟩ := ck_some hf
  obtain ⟨hi9, hf⟩ := ck_some hf
  refine us_I hx hb hK hP hD hS (isK_1 hk9) (isK_2 hk9) hi9 d_M_namePattern_104 (fun H locs hP hD hS => ?_)
  obtain ⟨w2, e2, hf⟩ := lt_some hf
  rw [← e2] at hP hD
  exact wb_M_namePattern_105 C0 hR N G hG _ _ _ hf H locs hP hD hS ls (lv_sub hl [0, 1] rfl)
def fb_M_namePattern_73 (N : Nat) (G : Unit) (u : MS) (v3 : Int32) (t1 : Int32) : Option (MS × Int32) := bnd (fm_M_pattern N u t1) (fun u3 r3 => br (decide (v3 = (-1))) (ck (inb (u3.1 69) (ln 7)) (bnd (fm_M_bind N u3 (u3.2.2.1 7 (u3.1 69).toNatClampNeg)) (fun u4 r4 => fb_M_namePattern_104 N G u4 (r3) (35) (r3) (r4)))) (fb_M_namePattern_104 N G u3 (r3) (35) (r3) (v3)))
set_option maxRecDepth 100000 in
set_option maxHeartbeats 4000000 in
theorem wb_M_namePattern_73 {p : Program} {l : Launch} {e : Env} {R : Room} {s : State} {m : MethodId} {args : Array Value} {below : List Frame} {meth : Method} {c : Code} {D : va_G} {cl : List vw_C} {cB cI cJ cZ cS : ClassId} {A : Nat → Prop} {iM h0 : Nat} {ad : Nat → Nat} (C0 : MCx p s m args meth c b_M_namePattern 4 (some .int) D cl cB cI cJ cZ cS iM A) (hR : R = rm_M_namePattern) (N : Nat) (G : Unit) (hG : True) : ∀ (u : MS) (v3 : Int32) (t1 : Int32) (x : MS × Int32), fb_M_namePattern_73 N G u v3 t1 = some x → ∀ (H : Heap) (locs : List Loc), va_P D cl (wM cB cI cJ cZ cS iM h0 ad u) H → va_D A (wM cB cI cJ cZ cS iM h0 ad u) → va_S A s.heap H locs → ∀ (ls : Array Slot), lv_has ls 4 [(0, .ref h0), (3, .int v3)] → W p l e R s m args below meth c H locs 0 0 (MQ below (mQi D cl cB cI cJ cZ cS iM h0 ad A x) args s 0 0 A) (F0 m 73 ls [.int t1, .ref h0]) := by
  intro u v3 t1 x hf H locs hP hD hS ls hl
  obtain ⟨hx, hb, hr, hml, ht, hown, hM, hK, hA, hlocks⟩ := id C0
  unfold fb_M_namePattern_73 at hf
  obtain ⟨u3, r3, hc3, hf⟩ := bnd_some hf
  refine mV_i (As := [.int t1]) (rest := []) C0 hP hD hS (c_M_pattern N hM hc3) k_M_pattern hl_M_pattern hi_M_pattern hs_M_pattern hini_M rfl rfl hd_M_pattern rfl (rm_M_namePattern_M_pattern hR) hl.1 (Nat.le_of_ble_eq_true rfl) d_M_namePattern_73 rfl ⟨Nat.zero_le _, Nat.zero_le _⟩ (fun H locs hP hD hS => ?_)
  refine lv_istore_n (lv' := [(2, .int r3), (0, .ref h0), (3, .int v3)]) hx hb d_M_namePattern_76 rfl hl (by decide) rfl (fun ls hl => ?_)
  refine lv_aload_n hx hb d_M_namePattern_77 rfl (lv_at hl 1 rfl) ?_
  refine ug_R hx hb ht hown hM hK hP 35 (by decide) lk_M_35 (by decide) d_M_namePattern_78 ?_
  refine lv_iload_n hx hb d_M_namePattern_81 rfl (lv_at hl 0 rfl) ?_
  refine lv_iload_n hx hb d_M_namePattern_82 rfl (lv_at hl 2 rfl) ?_
  refine lv_iconst (v := (-1)) hx hb d_M_namePattern_83 (by decide) ?_
  refine lv_icmp_ne (tgt := 103) hx hb d_M_namePattern_84 (by decide) (fun hc => ?_) (fun hc => ?_)
  · rw [br_n _ hc] at hf
    refine lv_iload_n hx hb d_M_namePattern_103 rfl (lv_at hl 2 rfl) ?_
    exact wb_M_namePattern_104 C0 hR N G hG _ _ _ _ _ _ hf H locs hP hD hS ls (lv_sub hl [1, 0] rfl)
  · rw [br_p _ hc] at hf
    refine lv_aload_n hx hb d_M_namePattern_87 rfl (lv_at hl 1 rfl) ?_
    refine lv_aload_n hx hb d_M_namePattern_88 rfl (lv_at hl 1 rfl) ?_
    refine ug_R hx hb ht hown hM hK hP 7 (by decide) lk_M_7 (by decide) d_M_namePattern_89 ?_
    refine lv_aload_n hx hb d_M_namePattern_92 rfl (lv_at hl 1 rfl) ?_
    refine ug_I hx hb ht hown hM hK hP 69 (by decide) lk_M_69 (by decide) d_M_namePattern_93 ?_
    obtain ⟨hi9, hf⟩ := ck_some hf
    refine ul_I hx hb hK hP (by decide) (by decide) hi9 d_M_namePattern_96 ?_
    obtain ⟨u4, r4, hc4, hf⟩ := bnd_some hf
    refine mV_i (As := [.int (u3.2.2.1 7 (u3.1 69).toNatClampNeg)]) (rest := [.int r3, .ref (ad 35)]) C0 hP hD hS (c_M_bind N hM hc4) k_M_bind hl_M_bind hi_M_bind hs_M_bind hini_M rfl rfl hd_M_bind rfl (rm_M_namePattern_M_bind hR) hl.1 (Nat.le_of_ble_eq_true rfl) d_M_namePattern_97 rfl ⟨Nat.zero_le _, Nat.zero_le _⟩ (fun H locs hP hD hS => ?_)
    refine lv_goto (tgt := 104) hx hb d_M_namePattern_100 (by decide) ?_
    exact wb_M_namePattern_104 C0 hR N G hG _ _ _ _ _ _ hf H locs hP hD hS ls (lv_sub hl [1, 0] rfl)
def fb_M_namePattern_61 (N : Nat) (G : Unit) (u : MS) (t0 : Int32) : Option (MS × Int32) := br (decide (t0 = (-1))) (fb_M_namePattern_73 N G u (t0) (1)) (fb_M_namePattern_73 N G u (t0) (2))
set_option maxRecDepth 100000 in
set_option maxHeartbeats 4000000 in
theorem wb_M_namePattern_61 {p : Program} {l : Launch} {e : Env} {R : Room} {s : State} {m : MethodId} {args : Array Value} {below : List Frame} {meth : Method} {c : Code} {D : va_G} {cl : List vw_C} {cB cI cJ cZ cS : ClassId} {A : Nat → Prop} {iM h0 : Nat} {ad : Nat → Nat} (C0 : MCx p s m args meth c b_M_namePattern 4 (some .int) D cl cB cI cJ cZ cS iM A) (hR : R = rm_M_namePattern) (N : Nat) (G : Unit) (hG : True) : ∀ (u : MS) (t0 : Int32) (x : MS × Int32), fb_M_namePattern_61 N G u t0 = some x → ∀ (H : Heap) (locs : List Loc), va_P D cl (wM cB cI cJ cZ cS iM h0 ad u) H → va_D A (wM cB cI cJ cZ cS iM h0 ad u) → va_S A s.heap H locs → ∀ (ls : Array Slot), lv_has ls 4 [(0, .ref h0)] → W p l e R s m args below meth c H locs 0 0 (MQ below (mQi D cl cB cI cJ cZ cS iM h0 ad A x) args s 0 0 A) (F0 m 61 ls [.int t0]) := by
  intro u t0 x hf H locs hP hD hS ls hl
  obtain ⟨hx, hb, hr, hml, ht, hown, hM, hK, hA, hlocks⟩ := id C0
  unfold fb_M_namePattern_61 at hf
  refine lv_istore_n (lv' := [(3, .int t0), (0, .ref h0)]) hx hb d_M_namePattern_61 rfl hl (by decide) rfl (fun ls hl => ?_)
  refine lv_aload_n hx hb d_M_namePattern_62 rfl (lv_at hl 1 rfl) ?_
  refine lv_iload_n hx hb d_M_namePattern_63 rfl (lv_at hl 0 rfl) ?_
  refine lv_iconst (v := (-1)) hx hb d_M_namePattern_64 (by decide) ?_
  refine lv_icmp_ne (tgt := 72) hx hb d_M_namePattern_65 (by decide) (fun hc => ?_) (fun hc => ?_)
  · rw [br_n _ hc] at hf
    refine lv_iconst (v := 2) hx hb d_M_namePattern_72 (by decide) ?_
    exact wb_M_namePattern_73 C0 hR N G hG _ _ _ _ hf H locs hP hD hS ls (lv_sub hl [1, 0] rfl)
  · rw [br_p _ hc] at hf
    refine lv_iconst (v := 1) hx hb d_M_namePattern_68 (by decide) ?_
    refine lv_goto (tgt := 73) hx hb d_M_namePattern_69 (by decide) ?_
    exact wb_M_namePattern_73 C0 hR N G hG _ _ _ _ hf H locs hP hD hS ls (lv_sub hl [1, 0] rfl)
def fb_M_namePattern_0 (N : Nat) (G : Unit) (u : MS) (v1 : Int32) : Option (MS × Int32) := bnd (fm_M_isUnderscore N u (u.1 69)) (fun u5 r5 => br (decide (r5 = 0)) (br (decide (v1 = 0)) (ck (inb (u5.1 69) (ln 7)) (bnd (fr_M_found N u5 (u5.1 65) (u5.2.2.1 7 (u5.1 69).toNatClampNeg)) (fun u6 r6 => fb_M_namePattern_61 N G u6 (r6)))) (ck (inb (u5.1 69) (ln 7)) (bnd (fm_M_boundIn N u5 (u5.1 65) (u5.2.2.1 7 (u5.1 69).toNatClampNeg)) (fun u7 r7 => fb_M_namePattern_61 N G u7 (r7))))) (bnd (fm_M_pattern N u5 0) (fun u8 r8 => fb_M_namePattern_105 N G u8 (r8))))
set_option maxRecDepth 100000 in
set_option maxHeartbeats 4000000 in
theorem wb_M_namePattern_0 {p : Program} {l : Launch} {e : Env} {R : Room} {s : State} {m : MethodId} {args : Array Value} {below : List Frame} {meth : Method} {c : Code} {D : va_G} {cl : List vw_C} {cB cI cJ cZ cS : ClassId} {A : Nat → Prop} {iM h0 : Nat} {ad : Nat → Nat} (C0 : MCx p s m args meth c b_M_namePattern 4 (some .int) D cl cB cI cJ cZ cS iM A) (hR : R = rm_M_namePattern) (N : Nat) (G : Unit) (hG : True) : ∀ (u : MS) (v1 : Int32) (x : MS × Int32), fb_M_namePattern_0 N G u v1 = some x → ∀ (H : Heap) (locs : List Loc), va_P D cl (wM cB cI cJ cZ cS iM h0 ad u) H → va_D A (wM cB cI cJ cZ cS iM h0 ad u) → va_S A s.heap H locs → ∀ (ls : Array Slot), lv_has ls 4 [(0, .ref h0), (1, .int v1)] → W p l e R s m args below meth c H locs 0 0 (MQ below (mQi D cl cB cI cJ cZ cS iM h0 ad A x) args s 0 0 A) (F0 m 0 ls []) := by
  intro u v1 x hf H locs hP hD hS ls hl
  obtain ⟨hx, hb, hr, hml, ht, hown, hM, hK, hA, hlocks⟩ := id C0
  unfold fb_M_namePattern_0 at hf
  refine lv_aload_n hx hb d_M_namePattern_0 rfl (lv_at hl 0 rfl) ?_
  refine lv_aload_n hx hb d_M_namePattern_1 rfl (lv_at hl 0 rfl) ?_
  refine ug_I hx hb ht hown hM hK hP 69 (by decide) lk_M_69 (by decide) d_M_namePattern_2 ?_
  obtain ⟨u5, r5, hc5, hf⟩ := bnd_some hf
  refine mV_i (As := [.int (u.1 69)]) (rest := []) C0 hP hD hS (c_M_isUnderscore N hM hc5) k_M_isUnderscore hl_M_isUnderscore hi_M_isUnderscore hs_M_isUnderscore hini_M rfl rfl hd_M_isUnderscore rfl (rm_M_namePattern_M_isUnderscore hR) hl.1 (Nat.le_of_ble_eq_true rfl) d_M_namePattern_5 rfl ⟨Nat.zero_le _, Nat.zero_le _⟩ (fun H locs hP hD hS => ?_)
  refine lv_if_eq (tgt := 20) hx hb d_M_namePattern_8 (by decide) (fun hc => ?_) (fun hc => ?_)
  · rw [br_p _ hc] at hf
    refine lv_iload_n hx hb d_M_namePattern_20 rfl (lv_at hl 1 rfl) ?_
    refine lv_if_eq (tgt := 44) hx hb d_M_namePattern_21 (by decide) (fun hc => ?_) (fun hc => ?_)
    · rw [br_p _ hc] at hf
      refine lv_aload_n hx hb d_M_namePattern_44 rfl (lv_at hl 0 rfl) ?_
      refine lv_aload_n hx hb d_M_namePattern_45 rfl (lv_at hl 0 rfl) ?_
      refine ug_I hx hb ht hown hM hK hP 65 (by decide) lk_M_65 (by decide) d_M_namePattern_46 ?_
      refine lv_aload_n hx hb d_M_namePattern_49 rfl (lv_at hl 0 rfl) ?_
      refine ug_R hx hb ht hown hM hK hP 7 (by decide) lk_M_7 (by decide) d_M_namePattern_50 ?_
      refine lv_aload_n hx hb d_M_namePattern_53 rfl (lv_at hl 0 rfl) ?_
      refine ug_I hx hb ht hown hM hK hP 69 (by decide) lk_M_69 (by decide) d_M_namePattern_54 ?_
      obtain ⟨hi9, hf⟩ := ck_some hf
      refine ul_I hx hb hK hP (by decide) (by decide) hi9 d_M_namePattern_57 ?_
      obtain ⟨u6, r6, hc6, hf⟩ := bnd_some hf
      refine mV_i (As := [.int (u5.1 65), .int (u5.2.2.1 7 (u5.1 69).toNatClampNeg)]) (rest := []) C0 hP hD hS (c_M_found N hM hc6) k_M_found hl_M_found hi_M_found hs_M_found hini_M rfl rfl hd_M_found rfl (rm_M_namePattern_M_found hR) hl.1 (Nat.le_of_ble_eq_true rfl) d_M_namePattern_58 rfl ⟨Nat.zero_le _, Nat.zero_le _⟩ (fun H locs hP hD hS => ?_)
      exact wb_M_namePattern_61 C0 hR N G hG _ _ _ hf H locs hP hD hS ls (lv_sub hl [0] rfl)
    · rw [br_n _ hc] at hf
      refine lv_aload_n hx hb d_M_namePattern_24 rfl (lv_at hl 0 rfl) ?_
      refine lv_aload_n hx hb d_M_namePattern_25 rfl (lv_at hl 0 rfl) ?_
      refine ug_I hx hb ht hown hM hK hP 65 (by decide) lk_M_65 (by decide) d_M_namePattern_26 ?_
      refine lv_aload_n hx hb d_M_namePattern_29 rfl (lv_at hl 0 rfl) ?_
      refine ug_R hx hb ht hown hM hK hP 7 (by decide) lk_M_7 (by decide) d_M_namePattern_30 ?_
      refine lv_aload_n hx hb d_M_namePattern_33 rfl (lv_at hl 0 rfl) ?_
      refine ug_I hx hb ht hown hM hK hP 69 (by decide) lk_M_69 (by decide) d_M_namePattern_34 ?_
      obtain ⟨hi9, hf⟩ := ck_some hf
      refine ul_I hx hb hK hP (by decide) (by decide) hi9 d_M_namePattern_37 ?_
      obtain ⟨u7, r7, hc7, hf⟩ := bnd_some hf
      refine mV_i (As := [.int (u5.1 65), .int (u5.2.2.1 7 (u5.1 69).toNatClampNeg)]) (rest := []) C0 hP hD hS (c_M_boundIn N hM hc7) k_M_boundIn hl_M_boundIn hi_M_boundIn hs_M_boundIn hini_M rfl rfl hd_M_boundIn rfl (rm_M_namePattern_M_boundIn hR) hl.1 (Nat.le_of_ble_eq_true rfl) d_M_namePattern_38 rfl ⟨Nat.zero_le _, Nat.zero_le _⟩ (fun H locs hP hD hS => ?_)
      refine lv_goto (tgt := 61) hx hb d_M_namePattern_41 (by decide) ?_
      exact wb_M_namePattern_61 C0 hR N G hG _ _ _ hf H locs hP hD hS ls (lv_sub hl [0] rfl)
  · rw [br_n _ hc] at hf
    refine lv_aload_n hx hb d_M_namePattern_11 rfl (lv_at hl 0 rfl) ?_
    refine lv_iconst (v := 0) hx hb d_M_namePattern_12 (by decide) ?_
    obtain ⟨u8, r8, hc8, hf⟩ := bnd_some hf
    refine mV_i (As := [.int 0]) (rest := []) C0 hP hD hS (c_M_pattern N hM hc8) k_M_pattern hl_M_pattern hi_M_pattern hs_M_pattern hini_M rfl rfl hd_M_pattern rfl (rm_M_namePattern_M_pattern hR) hl.1 (Nat.le_of_ble_eq_true rfl) d_M_namePattern_13 rfl ⟨Nat.zero_le _, Nat.zero_le _⟩ (fun H locs hP hD hS => ?_)
    refine lv_istore_n (lv' := [(2, .int r8), (0, .ref h0), (1, .int v1)]) hx hb d_M_namePattern_16 rfl hl (by decide) rfl (fun ls hl => ?_)
    refine lv_goto (tgt := 105) hx hb d_M_namePattern_17 (by decide) ?_
    exact wb_M_namePattern_105 C0 hR N G hG _ _ _ hf H locs hP hD hS ls (lv_sub hl [1, 0] rfl)
def fm_M_namePattern (N : Nat) (u : MS) (v1 : Int32) : Option (MS × Int32) := fb_M_namePattern_0 N () u v1
set_option maxRecDepth 100000 in
set_option maxHeartbeats 4000000 in
theorem c_M_namePattern (N : Nat) {l : Launch} {D : va_G} {cl : List vw_C} {cB cI cJ cZ cS : ClassId} {iM h0 : Nat} {ad : Nat → Nat} {u : MS} {sz : Nat} {v1 : Int32} {x : MS × Int32} (hM : cl[iM]? = some (R_M, F_M, 171)) (hf : fm_M_namePattern N u v1 = some x) : Met l y_M_namePattern (wd_ws y_M_namePattern b_M_namePattern 4 (some .int)) rm_M_namePattern (mPc D cl cB cI cJ cZ cS iM h0 ad u sz [.ref h0, .int v1]) (mQi D cl cB cI cJ cZ cS iM h0 ad (mA cB cI cJ cZ cS iM h0 ad u sz) x) 0 0 (mA cB cI cJ cZ cS iM h0 ad u sz) :=
  mMet (by decide) rfl hM (Nat.le_of_ble_eq_true rfl) (fun p e s m below meth c ls hsz C0 hP hD hS hl => by
    have hR : rm_M_namePattern = rm_M_namePattern := rfl
    exact wb_M_namePattern_0 C0 hR N () trivial u _ x hf s.heap [] hP hD hS ls (lv_sub hl [0, 1] rfl))
abbrev b_M_rowPattern : ByteArray := prog_14_method_51_code
def y_M_rowPattern : MethodName := ⟨R_M, "rowPattern", "(Z)I"⟩
def w_M_rowPattern : List Cond := wd_ws y_M_rowPattern b_M_rowPattern 9 (some .int)
set_option maxRecDepth 100000 in
theorem k_M_rowPattern : Cond.code y_M_rowPattern b_M_rowPattern 9 (some .int) ∈ wd_tbl := wd_of 2755 rfl rfl
theorem d_M_rowPattern_0 : decode b_M_rowPattern 0 = .ok (.aload_n 0, 1) := by decide +kernel
theorem d_M_rowPattern_1 : decode b_M_rowPattern 1 = .ok (.iconst 2, 1) := by decide +kernel
theorem d_M_rowPattern_2 : decode b_M_rowPattern 2 = .ok (.invokevirtual 469, 3) := by decide +kernel
theorem d_M_rowPattern_5 : decode b_M_rowPattern 5 = .ok (.istore_n 2, 1) := by decide +kernel
theorem d_M_rowPattern_6 : decode b_M_rowPattern 6 = .ok (.iload_n 2, 1) := by decide +kernel
theorem d_M_rowPattern_7 : decode b_M_rowPattern 7 = .ok (.ifCond .eq 7, 3) := by decide +kernel
theorem d_M_rowPattern_10 : decode b_M_rowPattern 10 = .ok (.iconst 3, 1) := by decide +kernel
theorem d_M_rowPattern_11 : decode b_M_rowPattern 11 = .ok (.goto 4, 3) := by decide +kernel
theorem d_M_rowPattern_14 : decode b_M_rowPattern 14 = .ok (.iconst 5, 1) := by decide +kernel
theorem d_M_rowPattern_15 : decode b_M_rowPattern 15 = .ok (.istore_n 3, 1) := by decide +kernel
theorem d_M_rowPattern_16 : decode b_M_rowPattern 16 = .ok (.aload_n 0, 1) := by decide +kernel
theorem d_M_rowPattern_17 : decode b_M_rowPattern 17 = .ok (.iload_n 2, 1) := by decide +kernel
theorem d_M_rowPattern_18 : decode b_M_rowPattern 18 = .ok (.ifCond .eq 7, 3) := by decide +kernel
theorem d_M_rowPattern_21 : decode b_M_rowPattern 21 = .ok (.iconst 5, 1) := by decide +kernel
theorem d_M_rowPattern_22 : decode b_M_rowPattern 22 = .ok (.goto 5, 3) := by decide +kernel
theorem d_M_rowPattern_25 : decode b_M_rowPattern 25 = .ok (.bipush 6, 2) := by decide +kernel
theorem d_M_rowPattern_27 : decode b_M_rowPattern 27 = .ok (.invokevirtual 568, 3) := by decide +kernel
theorem d_M_rowPattern_30 : decode b_M_rowPattern 30 = .ok (.istore 4, 2) := by decide +kernel
theorem d_M_rowPattern_32 : decode b_M_rowPattern 32 = .ok (.aload_n 0, 1) := by decide +kernel
theorem d_M_rowPattern_33 : decode b_M_rowPattern 33 = .ok (.dup, 1) := by decide +kernel
theorem d_M_rowPattern_34 : decode b_M_rowPattern 34 = .ok (.getfield 457, 3) := by decide +kernel
theorem d_M_rowPattern_37 : decode b_M_rowPattern 37 = .ok (.iconst 1, 1) := by decide +kernel
theorem d_M_rowPattern_38 : decode b_M_rowPattern 38 = .ok (.iadd, 1) := by decide +kernel
theorem d_M_rowPattern_39 : decode b_M_rowPattern 39 = .ok (.putfield 457, 3) := by decide +kernel
theorem d_M_rowPattern_42 : decode b_M_rowPattern 42 = .ok (.iconst (-1), 1) := by decide +kernel
theorem d_M_rowPattern_43 : decode b_M_rowPattern 43 = .ok (.istore 5, 2) := by decide +kernel
theorem d_M_rowPattern_45 : decode b_M_rowPattern 45 = .ok (.iconst 0, 1) := by decide +kernel
theorem d_M_rowPattern_46 : decode b_M_rowPattern 46 = .ok (.istore 6, 2) := by decide +kernel
theorem d_M_rowPattern_48 : decode b_M_rowPattern 48 = .ok (.aload_n 0, 1) := by decide +kernel
theorem d_M_rowPattern_49 : decode b_M_rowPattern 49 = .ok (.getfield 454, 3) := by decide +kernel
theorem d_M_rowPattern_52 : decode b_M_rowPattern 52 = .ok (.ifCond .ne 142, 3) := by decide +kernel
theorem d_M_rowPattern_55 : decode b_M_rowPattern 55 = .ok (.aload_n 0, 1) := by decide +kernel
theorem d_M_rowPattern_56 : decode b_M_rowPattern 56 = .ok (.iload_n 3, 1) := by decide +kernel
theorem d_M_rowPattern_57 : decode b_M_rowPattern 57 = .ok (.invokevirtual 469, 3) := by decide +kernel
theorem d_M_rowPattern_60 : decode b_M_rowPattern 60 = .ok (.ifCond .ne 134, 3) := by decide +kernel
theorem d_M_rowPattern_63 : decode b_M_rowPattern 63 = .ok (.iconst 1, 1) := by decide +kernel
theorem d_M_rowPattern_64 : decode b_M_rowPattern 64 = .ok (.istore 7, 2) := by decide +kernel
theorem d_M_rowPattern_66 : decode b_M_rowPattern 66 = .ok (.iload 7, 2) := by decide +kernel
theorem d_M_rowPattern_68 : decode b_M_rowPattern 68 = .ok (.ifCond .eq 83, 3) := by decide +kernel
theorem d_M_rowPattern_71 : decode b_M_rowPattern 71 = .ok (.aload_n 0, 1) := by decide +kernel
theorem d_M_rowPattern_72 : decode b_M_rowPattern 72 = .ok (.getfield 454, 3) := by decide +kernel
theorem d_M_rowPattern_75 : decode b_M_rowPattern 75 = .ok (.ifCond .ne 76, 3) := by decide +kernel
theorem d_M_rowPattern_78 : decode b_M_rowPattern 78 = .ok (.aload_n 0, 1) := by decide +kernel
theorem d_M_rowPattern_79 : decode b_M_rowPattern 79 = .ok (.iload_n 1, 1) := by decide +kernel
theorem d_M_rowPattern_80 : decode b_M_rowPattern 80 = .ok (.invokevirtual 535, 3) := by decide +kernel
theorem d_M_rowPattern_83 : decode b_M_rowPattern 83 = .ok (.istore 8, 2) := by decide +kernel
theorem d_M_rowPattern_85 : decode b_M_rowPattern 85 = .ok (.iload 5, 2) := by decide +kernel
theorem d_M_rowPattern_87 : decode b_M_rowPattern 87 = .ok (.iconst (-1), 1) := by decide +kernel
theorem d_M_rowPattern_88 : decode b_M_rowPattern 88 = .ok (.if_icmp .ne 15, 3) := by decide +kernel
theorem d_M_rowPattern_91 : decode b_M_rowPattern 91 = .ok (.aload_n 0, 1) := by decide +kernel
theorem d_M_rowPattern_92 : decode b_M_rowPattern 92 = .ok (.getfield 95, 3) := by decide +kernel
theorem d_M_rowPattern_95 : decode b_M_rowPattern 95 = .ok (.iload 4, 2) := by decide +kernel
theorem d_M_rowPattern_97 : decode b_M_rowPattern 97 = .ok (.iload 8, 2) := by decide +kernel
theorem d_M_rowPattern_99 : decode b_M_rowPattern 99 = .ok (.iastore, 1) := by decide +kernel
theorem d_M_rowPattern_100 : decode b_M_rowPattern 100 = .ok (.goto 12, 3) := by decide +kernel
theorem d_M_rowPattern_103 : decode b_M_rowPattern 103 = .ok (.aload_n 0, 1) := by decide +kernel
theorem d_M_rowPattern_104 : decode b_M_rowPattern 104 = .ok (.getfield 98, 3) := by decide +kernel
theorem d_M_rowPattern_107 : decode b_M_rowPattern 107 = .ok (.iload 5, 2) := by decide +kernel
theorem d_M_rowPattern_109 : decode b_M_rowPattern 109 = .ok (.iload 8, 2) := by decide +kernel
theorem d_M_rowPattern_111 : decode b_M_rowPattern 111 = .ok (.iastore, 1) := by decide +kernel
theorem d_M_rowPattern_112 : decode b_M_rowPattern 112 = .ok (.iload 8, 2) := by decide +kernel
theorem d_M_rowPattern_114 : decode b_M_rowPattern 114 = .ok (.istore 5, 2) := by decide +kernel
theorem d_M_rowPattern_116 : decode b_M_rowPattern 116 = .ok (.iinc 6 1, 3) := by decide +kernel
theorem d_M_rowPattern_119 : decode b_M_rowPattern 119 = .ok (.iload 6, 2) := by decide +kernel
theorem d_M_rowPattern_121 : decode b_M_rowPattern 121 = .ok (.bipush 8, 2) := by decide +kernel
theorem d_M_rowPattern_123 : decode b_M_rowPattern 123 = .ok (.if_icmp .ne 17, 3) := by decide +kernel
theorem d_M_rowPattern_126 : decode b_M_rowPattern 126 = .ok (.aload_n 0, 1) := by decide +kernel
theorem d_M_rowPattern_127 : decode b_M_rowPattern 127 = .ok (.bipush 6, 2) := by decide +kernel
theorem d_M_rowPattern_129 : decode b_M_rowPattern 129 = .ok (.invokevirtual 469, 3) := by decide +kernel
theorem d_M_rowPattern_132 : decode b_M_rowPattern 132 = .ok (.ifCond .eq 8, 3) := by decide +kernel
theorem d_M_rowPattern_135 : decode b_M_rowPattern 135 = .ok (.aload_n 0, 1) := by decide +kernel
theorem d_M_rowPattern_136 : decode b_M_rowPattern 136 = .ok (.iconst 2, 1) := by decide +kernel
theorem d_M_rowPattern_137 : decode b_M_rowPattern 137 = .ok (.invokevirtual 478, 3) := by decide +kernel
theorem d_M_rowPattern_140 : decode b_M_rowPattern 140 = .ok (.aload_n 0, 1) := by decide +kernel
theorem d_M_rowPattern_141 : decode b_M_rowPattern 141 = .ok (.bipush 6, 2) := by decide +kernel
theorem d_M_rowPattern_143 : decode b_M_rowPattern 143 = .ok (.invokevirtual 475, 3) := by decide +kernel
theorem d_M_rowPattern_146 : decode b_M_rowPattern 146 = .ok (.istore 7, 2) := by decide +kernel
theorem d_M_rowPattern_148 : decode b_M_rowPattern 148 = .ok (.goto (-82), 3) := by decide +kernel
theorem d_M_rowPattern_151 : decode b_M_rowPattern 151 = .ok (.iload_n 2, 1) := by decide +kernel
theorem d_M_rowPattern_152 : decode b_M_rowPattern 152 = .ok (.ifCond .ne 42, 3) := by decide +kernel
theorem d_M_rowPattern_155 : decode b_M_rowPattern 155 = .ok (.aload_n 0, 1) := by decide +kernel
theorem d_M_rowPattern_156 : decode b_M_rowPattern 156 = .ok (.bipush 9, 2) := by decide +kernel
theorem d_M_rowPattern_158 : decode b_M_rowPattern 158 = .ok (.invokevirtual 475, 3) := by decide +kernel
theorem d_M_rowPattern_161 : decode b_M_rowPattern 161 = .ok (.ifCond .eq 33, 3) := by decide +kernel
theorem d_M_rowPattern_164 : decode b_M_rowPattern 164 = .ok (.aload_n 0, 1) := by decide +kernel
theorem d_M_rowPattern_165 : decode b_M_rowPattern 165 = .ok (.iload_n 1, 1) := by decide +kernel
theorem d_M_rowPattern_166 : decode b_M_rowPattern 166 = .ok (.invokevirtual 535, 3) := by decide +kernel
theorem d_M_rowPattern_169 : decode b_M_rowPattern 169 = .ok (.istore 8, 2) := by decide +kernel
theorem d_M_rowPattern_171 : decode b_M_rowPattern 171 = .ok (.iload 5, 2) := by decide +kernel
theorem d_M_rowPattern_173 : decode b_M_rowPattern 173 = .ok (.iconst (-1), 1) := by decide +kernel
theorem d_M_rowPattern_174 : decode b_M_rowPattern 174 = .ok (.if_icmp .eq 12, 3) := by decide +kernel
theorem d_M_rowPattern_177 : decode b_M_rowPattern 177 = .ok (.aload_n 0, 1) := by decide +kernel
theorem d_M_rowPattern_178 : decode b_M_rowPattern 178 = .ok (.getfield 98, 3) := by decide +kernel
theorem d_M_rowPattern_181 : decode b_M_rowPattern 181 = .ok (.iload 5, 2) := by decide +kernel
theorem d_M_rowPattern_183 : decode b_M_rowPattern 183 = .ok (.iload 8, 2) := by decide +kernel
theorem d_M_rowPattern_185 : decode b_M_rowPattern 185 = .ok (.iastore, 1) := by decide +kernel
theorem d_M_rowPattern_186 : decode b_M_rowPattern 186 = .ok (.aload_n 0, 1) := by decide +kernel
theorem d_M_rowPattern_187 : decode b_M_rowPattern 187 = .ok (.getfield 101, 3) := by decide +kernel
theorem d_M_rowPattern_190 : decode b_M_rowPattern 190 = .ok (.iload 4, 2) := by decide +kernel
theorem d_M_rowPattern_192 : decode b_M_rowPattern 192 = .ok (.iconst 1, 1) := by decide +kernel
theorem d_M_rowPattern_193 : decode b_M_rowPattern 193 = .ok (.bastore, 1) := by decide +kernel
theorem d_M_rowPattern_194 : decode b_M_rowPattern 194 = .ok (.aload_n 0, 1) := by decide +kernel
theorem d_M_rowPattern_195 : decode b_M_rowPattern 195 = .ok (.getfield 92, 3) := by decide +kernel
theorem d_M_rowPattern_198 : decode b_M_rowPattern 198 = .ok (.iload 4, 2) := by decide +kernel
theorem d_M_rowPattern_200 : decode b_M_rowPattern 200 = .ok (.iload 6, 2) := by decide +kernel
theorem d_M_rowPattern_202 : decode b_M_rowPattern 202 = .ok (.iastore, 1) := by decide +kernel
theorem d_M_rowPattern_203 : decode b_M_rowPattern 203 = .ok (.aload_n 0, 1) := by decide +kernel
theorem d_M_rowPattern_204 : decode b_M_rowPattern 204 = .ok (.iload_n 3, 1) := by decide +kernel
theorem d_M_rowPattern_205 : decode b_M_rowPattern 205 = .ok (.invokevirtual 529, 3) := by decide +kernel
theorem d_M_rowPattern_208 : decode b_M_rowPattern 208 = .ok (.iload 4, 2) := by decide +kernel
theorem d_M_rowPattern_210 : decode b_M_rowPattern 210 = .ok (.ireturn, 1) := by decide +kernel
set_option maxRecDepth 100000 in
theorem hl_M_rowPattern : Cond.methodLink R_M 571 y_M_rowPattern ∈ wd_tbl := wd_of 2752 (by decide +kernel) rfl
set_option maxRecDepth 100000 in
theorem hi_M_rowPattern : Cond.instanceMethod y_M_rowPattern ∈ wd_tbl := wd_of 2754 (by decide +kernel) rfl
set_option maxRecDepth 100000 in
theorem hs_M_rowPattern : Cond.selects R_M y_M_rowPattern y_M_rowPattern ∈ wd_tbl := wd_of 152 (by decide +kernel) rfl
theorem hd_M_rowPattern : y_M_rowPattern.cls = R_M ∧ y_M_rowPattern.cls ≠ "java/lang/invoke/MethodHandle" ∧ y_M_rowPattern.cls ≠ "java/lang/invoke/VarHandle" ∧ (parseMethodDescriptor y_M_rowPattern.desc).map (fun d => d.parameters.length) = some 1 := by decide +kernel
abbrev b_M_patternAt : ByteArray := prog_14_method_49_code
def y_M_patternAt : MethodName := ⟨R_M, "patternAt", "(Z)I"⟩
def w_M_patternAt : List Cond := wd_ws y_M_patternAt b_M_patternAt 5 (some .int)
set_option maxRecDepth 100000 in
theorem k_M_patternAt : Cond.code y_M_patternAt b_M_patternAt 5 (some .int) ∈ wd_tbl := wd_of 2723 rfl rfl
theorem d_M_patternAt_0 : decode b_M_patternAt 0 = .ok (.aload_n 0, 1) := by decide +kernel
theorem d_M_patternAt_1 : decode b_M_patternAt 1 = .ok (.getfield 454, 3) := by decide +kernel
theorem d_M_patternAt_4 : decode b_M_patternAt 4 = .ok (.ifCond .eq 5, 3) := by decide +kernel
theorem d_M_patternAt_7 : decode b_M_patternAt 7 = .ok (.iconst (-1), 1) := by decide +kernel
theorem d_M_patternAt_8 : decode b_M_patternAt 8 = .ok (.ireturn, 1) := by decide +kernel
theorem d_M_patternAt_9 : decode b_M_patternAt 9 = .ok (.aload_n 0, 1) := by decide +kernel
theorem d_M_patternAt_10 : decode b_M_patternAt 10 = .ok (.bipush 19, 2) := by decide +kernel
theorem d_M_patternAt_12 : decode b_M_patternAt 12 = .ok (.invokevirtual 469, 3) := by decide +kernel
theorem d_M_patternAt_15 : decode b_M_patternAt 15 = .ok (.istore_n 2, 1) := by decide +kernel
theorem d_M_patternAt_16 : decode b_M_patternAt 16 = .ok (.aload_n 0, 1) := by decide +kernel
theorem d_M_patternAt_17 : decode b_M_patternAt 17 = .ok (.getfield 22, 3) := by decide +kernel
theorem d_M_patternAt_20 : decode b_M_patternAt 20 = .ok (.aload_n 0, 1) := by decide +kernel
theorem d_M_patternAt_21 : decode b_M_patternAt 21 = .ok (.getfield 457, 3) := by decide +kernel
theorem d_M_patternAt_24 : decode b_M_patternAt 24 = .ok (.baload, 1) := by decide +kernel
theorem d_M_patternAt_25 : decode b_M_patternAt 25 = .ok (.iconst 2, 1) := by decide +kernel
theorem d_M_patternAt_26 : decode b_M_patternAt 26 = .ok (.if_icmp .eq 70, 3) := by decide +kernel
theorem d_M_patternAt_29 : decode b_M_patternAt 29 = .ok (.aload_n 0, 1) := by decide +kernel
theorem d_M_patternAt_30 : decode b_M_patternAt 30 = .ok (.getfield 22, 3) := by decide +kernel
theorem d_M_patternAt_33 : decode b_M_patternAt 33 = .ok (.aload_n 0, 1) := by decide +kernel
theorem d_M_patternAt_34 : decode b_M_patternAt 34 = .ok (.getfield 457, 3) := by decide +kernel
theorem d_M_patternAt_37 : decode b_M_patternAt 37 = .ok (.baload, 1) := by decide +kernel
theorem d_M_patternAt_38 : decode b_M_patternAt 38 = .ok (.iconst 4, 1) := by decide +kernel
theorem d_M_patternAt_39 : decode b_M_patternAt 39 = .ok (.if_icmp .eq 57, 3) := by decide +kernel
theorem d_M_patternAt_42 : decode b_M_patternAt 42 = .ok (.aload_n 0, 1) := by decide +kernel
theorem d_M_patternAt_43 : decode b_M_patternAt 43 = .ok (.getfield 22, 3) := by decide +kernel
theorem d_M_patternAt_46 : decode b_M_patternAt 46 = .ok (.aload_n 0, 1) := by decide +kernel
theorem d_M_patternAt_47 : decode b_M_patternAt 47 = .ok (.getfield 457, 3) := by decide +kernel
theorem d_M_patternAt_50 : decode b_M_patternAt 50 = .ok (.baload, 1) := by decide +kernel
theorem d_M_patternAt_51 : decode b_M_patternAt 51 = .ok (.iconst 1, 1) := by decide +kernel
theorem d_M_patternAt_52 : decode b_M_patternAt 52 = .ok (.if_icmp .eq 44, 3) := by decide +kernel
theorem d_M_patternAt_55 : decode b_M_patternAt 55 = .ok (.aload_n 0, 1) := by decide +kernel
theorem d_M_patternAt_56 : decode b_M_patternAt 56 = .ok (.getfield 22, 3) := by decide +kernel
theorem d_M_patternAt_59 : decode b_M_patternAt 59 = .ok (.aload_n 0, 1) := by decide +kernel
theorem d_M_patternAt_60 : decode b_M_patternAt 60 = .ok (.getfield 457, 3) := by decide +kernel
theorem d_M_patternAt_63 : decode b_M_patternAt 63 = .ok (.baload, 1) := by decide +kernel
theorem d_M_patternAt_64 : decode b_M_patternAt 64 = .ok (.iconst 5, 1) := by decide +kernel
theorem d_M_patternAt_65 : decode b_M_patternAt 65 = .ok (.if_icmp .eq 31, 3) := by decide +kernel
theorem d_M_patternAt_68 : decode b_M_patternAt 68 = .ok (.aload_n 0, 1) := by decide +kernel
theorem d_M_patternAt_69 : decode b_M_patternAt 69 = .ok (.iconst 2, 1) := by decide +kernel
theorem d_M_patternAt_70 : decode b_M_patternAt 70 = .ok (.invokevirtual 469, 3) := by decide +kernel
theorem d_M_patternAt_73 : decode b_M_patternAt 73 = .ok (.ifCond .ne 23, 3) := by decide +kernel
theorem d_M_patternAt_76 : decode b_M_patternAt 76 = .ok (.aload_n 0, 1) := by decide +kernel
theorem d_M_patternAt_77 : decode b_M_patternAt 77 = .ok (.iconst 4, 1) := by decide +kernel
theorem d_M_patternAt_78 : decode b_M_patternAt 78 = .ok (.invokevirtual 469, 3) := by decide +kernel
theorem d_M_patternAt_81 : decode b_M_patternAt 81 = .ok (.ifCond .ne 15, 3) := by decide +kernel
theorem d_M_patternAt_84 : decode b_M_patternAt 84 = .ok (.aload_n 0, 1) := by decide +kernel
theorem d_M_patternAt_85 : decode b_M_patternAt 85 = .ok (.iconst 0, 1) := by decide +kernel
theorem d_M_patternAt_86 : decode b_M_patternAt 86 = .ok (.invokevirtual 469, 3) := by decide +kernel
theorem d_M_patternAt_89 : decode b_M_patternAt 89 = .ok (.ifCond .ne 7, 3) := by decide +kernel
theorem d_M_patternAt_92 : decode b_M_patternAt 92 = .ok (.iload_n 2, 1) := by decide +kernel
theorem d_M_patternAt_93 : decode b_M_patternAt 93 = .ok (.ifCond .eq 7, 3) := by decide +kernel
theorem d_M_patternAt_96 : decode b_M_patternAt 96 = .ok (.iconst 1, 1) := by decide +kernel
theorem d_M_patternAt_97 : decode b_M_patternAt 97 = .ok (.goto 4, 3) := by decide +kernel
theorem d_M_patternAt_100 : decode b_M_patternAt 100 = .ok (.iconst 0, 1) := by decide +kernel
theorem d_M_patternAt_101 : decode b_M_patternAt 101 = .ok (.istore_n 3, 1) := by decide +kernel
theorem d_M_patternAt_102 : decode b_M_patternAt 102 = .ok (.iload_n 3, 1) := by decide +kernel
theorem d_M_patternAt_103 : decode b_M_patternAt 103 = .ok (.ifCond .ne 10, 3) := by decide +kernel
theorem d_M_patternAt_106 : decode b_M_patternAt 106 = .ok (.aload_n 0, 1) := by decide +kernel
theorem d_M_patternAt_107 : decode b_M_patternAt 107 = .ok (.iconst 2, 1) := by decide +kernel
theorem d_M_patternAt_108 : decode b_M_patternAt 108 = .ok (.invokevirtual 478, 3) := by decide +kernel
theorem d_M_patternAt_111 : decode b_M_patternAt 111 = .ok (.iconst (-1), 1) := by decide +kernel
theorem d_M_patternAt_112 : decode b_M_patternAt 112 = .ok (.ireturn, 1) := by decide +kernel
theorem d_M_patternAt_113 : decode b_M_patternAt 113 = .ok (.aload_n 0, 1) := by decide +kernel
theorem d_M_patternAt_114 : decode b_M_patternAt 114 = .ok (.invokevirtual 562, 3) := by decide +kernel
theorem d_M_patternAt_117 : decode b_M_patternAt 117 = .ok (.iconst (-1), 1) := by decide +kernel
theorem d_M_patternAt_118 : decode b_M_patternAt 118 = .ok (.istore 4, 2) := by decide +kernel
theorem d_M_patternAt_120 : decode b_M_patternAt 120 = .ok (.aload_n 0, 1) := by decide +kernel
theorem d_M_patternAt_121 : decode b_M_patternAt 121 = .ok (.getfield 22, 3) := by decide +kernel
theorem d_M_patternAt_124 : decode b_M_patternAt 124 = .ok (.aload_n 0, 1) := by decide +kernel
theorem d_M_patternAt_125 : decode b_M_patternAt 125 = .ok (.getfield 457, 3) := by decide +kernel
theorem d_M_patternAt_128 : decode b_M_patternAt 128 = .ok (.baload, 1) := by decide +kernel
theorem d_M_patternAt_129 : decode b_M_patternAt 129 = .ok (.iconst 2, 1) := by decide +kernel
theorem d_M_patternAt_130 : decode b_M_patternAt 130 = .ok (.if_icmp .ne 13, 3) := by decide +kernel
theorem d_M_patternAt_133 : decode b_M_patternAt 133 = .ok (.aload_n 0, 1) := by decide +kernel
theorem d_M_patternAt_134 : decode b_M_patternAt 134 = .ok (.iload_n 1, 1) := by decide +kernel
theorem d_M_patternAt_135 : decode b_M_patternAt 135 = .ok (.invokevirtual 565, 3) := by decide +kernel
theorem d_M_patternAt_138 : decode b_M_patternAt 138 = .ok (.istore 4, 2) := by decide +kernel
theorem d_M_patternAt_140 : decode b_M_patternAt 140 = .ok (.goto 248, 3) := by decide +kernel
theorem d_M_patternAt_143 : decode b_M_patternAt 143 = .ok (.iload_n 2, 1) := by decide +kernel
theorem d_M_patternAt_144 : decode b_M_patternAt 144 = .ok (.ifCond .ne 16, 3) := by decide +kernel
theorem d_M_patternAt_147 : decode b_M_patternAt 147 = .ok (.aload_n 0, 1) := by decide +kernel
theorem d_M_patternAt_148 : decode b_M_patternAt 148 = .ok (.getfield 22, 3) := by decide +kernel
theorem d_M_patternAt_151 : decode b_M_patternAt 151 = .ok (.aload_n 0, 1) := by decide +kernel
theorem d_M_patternAt_152 : decode b_M_patternAt 152 = .ok (.getfield 457, 3) := by decide +kernel
theorem d_M_patternAt_155 : decode b_M_patternAt 155 = .ok (.baload, 1) := by decide +kernel
theorem d_M_patternAt_156 : decode b_M_patternAt 156 = .ok (.iconst 4, 1) := by decide +kernel
theorem d_M_patternAt_157 : decode b_M_patternAt 157 = .ok (.if_icmp .ne 99, 3) := by decide +kernel
theorem d_M_patternAt_160 : decode b_M_patternAt 160 = .ok (.aload_n 0, 1) := by decide +kernel
theorem d_M_patternAt_161 : decode b_M_patternAt 161 = .ok (.iload_n 2, 1) := by decide +kernel
theorem d_M_patternAt_162 : decode b_M_patternAt 162 = .ok (.ifCond .eq 12, 3) := by decide +kernel
theorem d_M_patternAt_165 : decode b_M_patternAt 165 = .ok (.aload_n 0, 1) := by decide +kernel
theorem d_M_patternAt_166 : decode b_M_patternAt 166 = .ok (.getfield 457, 3) := by decide +kernel
theorem d_M_patternAt_169 : decode b_M_patternAt 169 = .ok (.iconst 1, 1) := by decide +kernel
theorem d_M_patternAt_170 : decode b_M_patternAt 170 = .ok (.iadd, 1) := by decide +kernel
theorem d_M_patternAt_171 : decode b_M_patternAt 171 = .ok (.goto 7, 3) := by decide +kernel
theorem d_M_patternAt_174 : decode b_M_patternAt 174 = .ok (.aload_n 0, 1) := by decide +kernel
theorem d_M_patternAt_175 : decode b_M_patternAt 175 = .ok (.getfield 457, 3) := by decide +kernel
theorem d_M_patternAt_178 : decode b_M_patternAt 178 = .ok (.putfield 457, 3) := by decide +kernel
theorem d_M_patternAt_181 : decode b_M_patternAt 181 = .ok (.aload_n 0, 1) := by decide +kernel
theorem d_M_patternAt_182 : decode b_M_patternAt 182 = .ok (.getfield 22, 3) := by decide +kernel
theorem d_M_patternAt_185 : decode b_M_patternAt 185 = .ok (.aload_n 0, 1) := by decide +kernel
theorem d_M_patternAt_186 : decode b_M_patternAt 186 = .ok (.getfield 457, 3) := by decide +kernel
theorem d_M_patternAt_189 : decode b_M_patternAt 189 = .ok (.baload, 1) := by decide +kernel
theorem d_M_patternAt_190 : decode b_M_patternAt 190 = .ok (.iconst 4, 1) := by decide +kernel
theorem d_M_patternAt_191 : decode b_M_patternAt 191 = .ok (.if_icmp .eq 8, 3) := by decide +kernel
theorem d_M_patternAt_194 : decode b_M_patternAt 194 = .ok (.aload_n 0, 1) := by decide +kernel
theorem d_M_patternAt_195 : decode b_M_patternAt 195 = .ok (.iconst 2, 1) := by decide +kernel
theorem d_M_patternAt_196 : decode b_M_patternAt 196 = .ok (.invokevirtual 478, 3) := by decide +kernel
theorem d_M_patternAt_199 : decode b_M_patternAt 199 = .ok (.aload_n 0, 1) := by decide +kernel
theorem d_M_patternAt_200 : decode b_M_patternAt 200 = .ok (.iconst 3, 1) := by decide +kernel
theorem d_M_patternAt_201 : decode b_M_patternAt 201 = .ok (.invokevirtual 568, 3) := by decide +kernel
theorem d_M_patternAt_204 : decode b_M_patternAt 204 = .ok (.istore 4, 2) := by decide +kernel
theorem d_M_patternAt_206 : decode b_M_patternAt 206 = .ok (.aload_n 0, 1) := by decide +kernel
theorem d_M_patternAt_207 : decode b_M_patternAt 207 = .ok (.getfield 88, 3) := by decide +kernel
theorem d_M_patternAt_210 : decode b_M_patternAt 210 = .ok (.iload 4, 2) := by decide +kernel
theorem d_M_patternAt_212 : decode b_M_patternAt 212 = .ok (.iconst 0, 1) := by decide +kernel
theorem d_M_patternAt_213 : decode b_M_patternAt 213 = .ok (.iload_n 2, 1) := by decide +kernel
theorem d_M_patternAt_214 : decode b_M_patternAt 214 = .ok (.ifCond .eq 16, 3) := by decide +kernel
theorem d_M_patternAt_217 : decode b_M_patternAt 217 = .ok (.aload_n 0, 1) := by decide +kernel
theorem d_M_patternAt_218 : decode b_M_patternAt 218 = .ok (.getfield 25, 3) := by decide +kernel
theorem d_M_patternAt_221 : decode b_M_patternAt 221 = .ok (.aload_n 0, 1) := by decide +kernel
theorem d_M_patternAt_222 : decode b_M_patternAt 222 = .ok (.getfield 457, 3) := by decide +kernel
theorem d_M_patternAt_225 : decode b_M_patternAt 225 = .ok (.iaload, 1) := by decide +kernel
theorem d_M_patternAt_226 : decode b_M_patternAt 226 = .ok (.ineg, 1) := by decide +kernel
theorem d_M_patternAt_227 : decode b_M_patternAt 227 = .ok (.goto 12, 3) := by decide +kernel
theorem d_M_patternAt_230 : decode b_M_patternAt 230 = .ok (.aload_n 0, 1) := by decide +kernel
theorem d_M_patternAt_231 : decode b_M_patternAt 231 = .ok (.getfield 25, 3) := by decide +kernel
theorem d_M_patternAt_234 : decode b_M_patternAt 234 = .ok (.aload_n 0, 1) := by decide +kernel
theorem d_M_patternAt_235 : decode b_M_patternAt 235 = .ok (.getfield 457, 3) := by decide +kernel
theorem d_M_patternAt_238 : decode b_M_patternAt 238 = .ok (.iaload, 1) := by decide +kernel
theorem d_M_patternAt_239 : decode b_M_patternAt 239 = .ok (.invokestatic 315, 3) := by decide +kernel
theorem d_M_patternAt_242 : decode b_M_patternAt 242 = .ok (.lastore, 1) := by decide +kernel
theorem d_M_patternAt_243 : decode b_M_patternAt 243 = .ok (.aload_n 0, 1) := by decide +kernel
theorem d_M_patternAt_244 : decode b_M_patternAt 244 = .ok (.dup, 1) := by decide +kernel
theorem d_M_patternAt_245 : decode b_M_patternAt 245 = .ok (.getfield 457, 3) := by decide +kernel
theorem d_M_patternAt_248 : decode b_M_patternAt 248 = .ok (.iconst 1, 1) := by decide +kernel
theorem d_M_patternAt_249 : decode b_M_patternAt 249 = .ok (.iadd, 1) := by decide +kernel
theorem d_M_patternAt_250 : decode b_M_patternAt 250 = .ok (.putfield 457, 3) := by decide +kernel
theorem d_M_patternAt_253 : decode b_M_patternAt 253 = .ok (.goto 135, 3) := by decide +kernel
theorem d_M_patternAt_256 : decode b_M_patternAt 256 = .ok (.aload_n 0, 1) := by decide +kernel
theorem d_M_patternAt_257 : decode b_M_patternAt 257 = .ok (.getfield 22, 3) := by decide +kernel
theorem d_M_patternAt_260 : decode b_M_patternAt 260 = .ok (.aload_n 0, 1) := by decide +kernel
theorem d_M_patternAt_261 : decode b_M_patternAt 261 = .ok (.getfield 457, 3) := by decide +kernel
theorem d_M_patternAt_264 : decode b_M_patternAt 264 = .ok (.baload, 1) := by decide +kernel
theorem d_M_patternAt_265 : decode b_M_patternAt 265 = .ok (.iconst 1, 1) := by decide +kernel
theorem d_M_patternAt_266 : decode b_M_patternAt 266 = .ok (.if_icmp .ne 43, 3) := by decide +kernel
theorem d_M_patternAt_269 : decode b_M_patternAt 269 = .ok (.aload_n 0, 1) := by decide +kernel
theorem d_M_patternAt_270 : decode b_M_patternAt 270 = .ok (.iconst 3, 1) := by decide +kernel
theorem d_M_patternAt_271 : decode b_M_patternAt 271 = .ok (.invokevirtual 568, 3) := by decide +kernel
theorem d_M_patternAt_274 : decode b_M_patternAt 274 = .ok (.istore 4, 2) := by decide +kernel
theorem d_M_patternAt_276 : decode b_M_patternAt 276 = .ok (.aload_n 0, 1) := by decide +kernel
theorem d_M_patternAt_277 : decode b_M_patternAt 277 = .ok (.getfield 88, 3) := by decide +kernel
theorem d_M_patternAt_280 : decode b_M_patternAt 280 = .ok (.iload 4, 2) := by decide +kernel
theorem d_M_patternAt_282 : decode b_M_patternAt 282 = .ok (.iconst 1, 1) := by decide +kernel
theorem d_M_patternAt_283 : decode b_M_patternAt 283 = .ok (.aload_n 0, 1) := by decide +kernel
theorem d_M_patternAt_284 : decode b_M_patternAt 284 = .ok (.getfield 25, 3) := by decide +kernel
theorem d_M_patternAt_287 : decode b_M_patternAt 287 = .ok (.aload_n 0, 1) := by decide +kernel
theorem d_M_patternAt_288 : decode b_M_patternAt 288 = .ok (.getfield 457, 3) := by decide +kernel
theorem d_M_patternAt_291 : decode b_M_patternAt 291 = .ok (.iaload, 1) := by decide +kernel
theorem d_M_patternAt_292 : decode b_M_patternAt 292 = .ok (.invokestatic 315, 3) := by decide +kernel
theorem d_M_patternAt_295 : decode b_M_patternAt 295 = .ok (.lastore, 1) := by decide +kernel
theorem d_M_patternAt_296 : decode b_M_patternAt 296 = .ok (.aload_n 0, 1) := by decide +kernel
theorem d_M_patternAt_297 : decode b_M_patternAt 297 = .ok (.dup, 1) := by decide +kernel
theorem d_M_patternAt_298 : decode b_M_patternAt 298 = .ok (.getfield 457, 3) := by decide +kernel
theorem d_M_patternAt_301 : decode b_M_patternAt 301 = .ok (.iconst 1, 1) := by decide +kernel
theorem d_M_patternAt_302 : decode b_M_patternAt 302 = .ok (.iadd, 1) := by decide +kernel
theorem d_M_patternAt_303 : decode b_M_patternAt 303 = .ok (.putfield 457, 3) := by decide +kernel
theorem d_M_patternAt_306 : decode b_M_patternAt 306 = .ok (.goto 82, 3) := by decide +kernel
theorem d_M_patternAt_309 : decode b_M_patternAt 309 = .ok (.aload_n 0, 1) := by decide +kernel
theorem d_M_patternAt_310 : decode b_M_patternAt 310 = .ok (.getfield 22, 3) := by decide +kernel
theorem d_M_patternAt_313 : decode b_M_patternAt 313 = .ok (.aload_n 0, 1) := by decide +kernel
theorem d_M_patternAt_314 : decode b_M_patternAt 314 = .ok (.getfield 457, 3) := by decide +kernel
theorem d_M_patternAt_317 : decode b_M_patternAt 317 = .ok (.baload, 1) := by decide +kernel
theorem d_M_patternAt_318 : decode b_M_patternAt 318 = .ok (.iconst 5, 1) := by decide +kernel
theorem d_M_patternAt_319 : decode b_M_patternAt 319 = .ok (.if_icmp .ne 39, 3) := by decide +kernel
theorem d_M_patternAt_322 : decode b_M_patternAt 322 = .ok (.aload_n 0, 1) := by decide +kernel
theorem d_M_patternAt_323 : decode b_M_patternAt 323 = .ok (.iconst 4, 1) := by decide +kernel
theorem d_M_patternAt_324 : decode b_M_patternAt 324 = .ok (.invokevirtual 568, 3) := by decide +kernel
theorem d_M_patternAt_327 : decode b_M_patternAt 327 = .ok (.istore 4, 2) := by decide +kernel
theorem d_M_patternAt_329 : decode b_M_patternAt 329 = .ok (.aload_n 0, 1) := by decide +kernel
theorem d_M_patternAt_330 : decode b_M_patternAt 330 = .ok (.getfield 92, 3) := by decide +kernel
theorem d_M_patternAt_333 : decode b_M_patternAt 333 = .ok (.iload 4, 2) := by decide +kernel
theorem d_M_patternAt_335 : decode b_M_patternAt 335 = .ok (.aload_n 0, 1) := by decide +kernel
theorem d_M_patternAt_336 : decode b_M_patternAt 336 = .ok (.getfield 25, 3) := by decide +kernel
theorem d_M_patternAt_339 : decode b_M_patternAt 339 = .ok (.aload_n 0, 1) := by decide +kernel
theorem d_M_patternAt_340 : decode b_M_patternAt 340 = .ok (.getfield 457, 3) := by decide +kernel
theorem d_M_patternAt_343 : decode b_M_patternAt 343 = .ok (.iaload, 1) := by decide +kernel
theorem d_M_patternAt_344 : decode b_M_patternAt 344 = .ok (.iastore, 1) := by decide +kernel
theorem d_M_patternAt_345 : decode b_M_patternAt 345 = .ok (.aload_n 0, 1) := by decide +kernel
theorem d_M_patternAt_346 : decode b_M_patternAt 346 = .ok (.dup, 1) := by decide +kernel
theorem d_M_patternAt_347 : decode b_M_patternAt 347 = .ok (.getfield 457, 3) := by decide +kernel
theorem d_M_patternAt_350 : decode b_M_patternAt 350 = .ok (.iconst 1, 1) := by decide +kernel
theorem d_M_patternAt_351 : decode b_M_patternAt 351 = .ok (.iadd, 1) := by decide +kernel
theorem d_M_patternAt_352 : decode b_M_patternAt 352 = .ok (.putfield 457, 3) := by decide +kernel
theorem d_M_patternAt_355 : decode b_M_patternAt 355 = .ok (.goto 33, 3) := by decide +kernel
theorem d_M_patternAt_358 : decode b_M_patternAt 358 = .ok (.aload_n 0, 1) := by decide +kernel
theorem d_M_patternAt_359 : decode b_M_patternAt 359 = .ok (.iconst 0, 1) := by decide +kernel
theorem d_M_patternAt_360 : decode b_M_patternAt 360 = .ok (.invokevirtual 475, 3) := by decide +kernel
theorem d_M_patternAt_363 : decode b_M_patternAt 363 = .ok (.ifCond .eq 18, 3) := by decide +kernel
theorem d_M_patternAt_366 : decode b_M_patternAt 366 = .ok (.aload_n 0, 1) := by decide +kernel
theorem d_M_patternAt_367 : decode b_M_patternAt 367 = .ok (.iload_n 1, 1) := by decide +kernel
theorem d_M_patternAt_368 : decode b_M_patternAt 368 = .ok (.invokevirtual 535, 3) := by decide +kernel
theorem d_M_patternAt_371 : decode b_M_patternAt 371 = .ok (.istore 4, 2) := by decide +kernel
theorem d_M_patternAt_373 : decode b_M_patternAt 373 = .ok (.aload_n 0, 1) := by decide +kernel
theorem d_M_patternAt_374 : decode b_M_patternAt 374 = .ok (.iconst 1, 1) := by decide +kernel
theorem d_M_patternAt_375 : decode b_M_patternAt 375 = .ok (.invokevirtual 529, 3) := by decide +kernel
theorem d_M_patternAt_378 : decode b_M_patternAt 378 = .ok (.goto 10, 3) := by decide +kernel
theorem d_M_patternAt_381 : decode b_M_patternAt 381 = .ok (.aload_n 0, 1) := by decide +kernel
theorem d_M_patternAt_382 : decode b_M_patternAt 382 = .ok (.iload_n 1, 1) := by decide +kernel
theorem d_M_patternAt_383 : decode b_M_patternAt 383 = .ok (.invokevirtual 571, 3) := by decide +kernel
theorem d_M_patternAt_386 : decode b_M_patternAt 386 = .ok (.istore 4, 2) := by decide +kernel
theorem d_M_patternAt_388 : decode b_M_patternAt 388 = .ok (.aload_n 0, 1) := by decide +kernel
theorem d_M_patternAt_389 : decode b_M_patternAt 389 = .ok (.dup, 1) := by decide +kernel
theorem d_M_patternAt_390 : decode b_M_patternAt 390 = .ok (.getfield 484, 3) := by decide +kernel
theorem d_M_patternAt_393 : decode b_M_patternAt 393 = .ok (.iconst 1, 1) := by decide +kernel
theorem d_M_patternAt_394 : decode b_M_patternAt 394 = .ok (.isub, 1) := by decide +kernel
theorem d_M_patternAt_395 : decode b_M_patternAt 395 = .ok (.putfield 484, 3) := by decide +kernel
theorem d_M_patternAt_398 : decode b_M_patternAt 398 = .ok (.iload 4, 2) := by decide +kernel
theorem d_M_patternAt_400 : decode b_M_patternAt 400 = .ok (.ireturn, 1) := by decide +kernel
set_option maxRecDepth 100000 in
theorem hl_M_patternAt : Cond.methodLink R_M 535 y_M_patternAt ∈ wd_tbl := wd_of 2720 (by decide +kernel) rfl
set_option maxRecDepth 100000 in
theorem hi_M_patternAt : Cond.instanceMethod y_M_patternAt ∈ wd_tbl := wd_of 2722 (by decide +kernel) rfl
set_option maxRecDepth 100000 in
theorem hs_M_patternAt : Cond.selects R_M y_M_patternAt y_M_patternAt ∈ wd_tbl := wd_of 144 (by decide +kernel) rfl
theorem hd_M_patternAt : y_M_patternAt.cls = R_M ∧ y_M_patternAt.cls ≠ "java/lang/invoke/MethodHandle" ∧ y_M_patternAt.cls ≠ "java/lang/invoke/VarHandle" ∧ (parseMethodDescriptor y_M_patternAt.desc).map (fun d => d.parameters.length) = some 1 := by decide +kernel
def rg_M_rowPattern (d : Nat) : Room := { frames := 33 + d, cells := 0, slots := 0, locals := 790 + 28 * d }
abbrev SG_M_rowPattern : Type := (MS → Int32 → Option (MS × Int32)) × (MS → Int32 → Option (MS × Int32))
def HS_M_rowPattern (l : Launch) (D : va_G) (cl : List vw_C) (cB cI cJ cZ cS : ClassId) (iM h0 : Nat) (ad : Nat → Nat) (rm : Room) (S : SG_M_rowPattern) : Prop := (∀ (u : MS) (v1 : Int32) (x : MS × Int32) (sz : Nat), S.1 u v1 = some x → Met l y_M_rowPattern (wd_ws y_M_rowPattern b_M_rowPattern 9 (some .int)) rm (mPc D cl cB cI cJ cZ cS iM h0 ad u sz [.ref h0, .int v1]) (mQi D cl cB cI cJ cZ cS iM h0 ad (mA cB cI cJ cZ cS iM h0 ad u sz) x) 0 0 (mA cB cI cJ cZ cS iM h0 ad u sz)) ∧ (∀ (u : MS) (v1 : Int32) (x : MS × Int32) (sz : Nat), S.2 u v1 = some x → Met l y_M_patternAt (wd_ws y_M_patternAt b_M_patternAt 5 (some .int)) rm (mPc D cl cB cI cJ cZ cS iM h0 ad u sz [.ref h0, .int v1]) (mQi D cl cB cI cJ cZ cS iM h0 ad (mA cB cI cJ cZ cS iM h0 ad u sz) x) 0 0 (mA cB cI cJ cZ cS iM h0 ad u sz))
theorem rm_M_rowPattern_M_isSign {R : Room} {d : Nat} (hR : R = rg_M_rowPattern (d + 1)) : (rm_M_isSign).frames + 1 ≤ R.frames ∧ 8 + (2 + 11) + (rm_M_isSign).locals ≤ R.locals := by
  subst hR
  have h1 : (rm_M_isSign).frames = 0 := rfl
  have h2 : (rm_M_isSign).locals = 0 := rfl
  show (rm_M_isSign).frames + 1 ≤ 33 + (d + 1) ∧ 8 + (2 + 11) + (rm_M_isSign).locals ≤ 790 + 28 * (d + 1)
  omega
theorem rm_M_rowPattern_M_pattern {R : Room} {d : Nat} (hR : R = rg_M_rowPattern (d + 1)) : (rm_M_pattern).frames + 1 ≤ R.frames ∧ 8 + (2 + 11) + (rm_M_pattern).locals ≤ R.locals := by
  subst hR
  have h1 : (rm_M_pattern).frames = 0 := rfl
  have h2 : (rm_M_pattern).locals = 0 := rfl
  show (rm_M_pattern).frames + 1 ≤ 33 + (d + 1) ∧ 8 + (2 + 11) + (rm_M_pattern).locals ≤ 790 + 28 * (d + 1)
  omega
theorem rm_M_rowPattern_M_wrong {R : Room} {d : Nat} (hR : R = rg_M_rowPattern (d + 1)) : (rm_M_wrong).frames + 1 ≤ R.frames ∧ 8 + (2 + 11) + (rm_M_wrong).locals ≤ R.locals := by
  subst hR
  have h1 : (rm_M_wrong).frames = 0 := rfl
  have h2 : (rm_M_wrong).locals = 0 := rfl
  show (rm_M_wrong).frames + 1 ≤ 33 + (d + 1) ∧ 8 + (2 + 11) + (rm_M_wrong).locals ≤ 790 + 28 * (d + 1)
  omega
theorem rm_M_rowPattern_M_takeSign {R : Room} {d : Nat} (hR : R = rg_M_rowPattern (d + 1)) : (rm_M_takeSign).frames + 1 ≤ R.frames ∧ 8 + (2 + 11) + (rm_M_takeSign).locals ≤ R.locals := by
  subst hR
  have h1 : (rm_M_takeSign).frames = 1 := rfl
  have h2 : (rm_M_takeSign).locals = 21 := rfl
  show (rm_M_takeSign).frames + 1 ≤ 33 + (d + 1) ∧ 8 + (2 + 11) + (rm_M_takeSign).locals ≤ 790 + 28 * (d + 1)
  omega
theorem rm_M_rowPattern_M_needSign {R : Room} {d : Nat} (hR : R = rg_M_rowPattern (d + 1)) : (rm_M_needSign).frames + 1 ≤ R.frames ∧ 8 + (2 + 11) + (rm_M_needSign).locals ≤ R.locals := by
  subst hR
  have h1 : (rm_M_needSign).frames = 2 := rfl
  have h2 : (rm_M_needSign).locals = 42 := rfl
  show (rm_M_needSign).frames + 1 ≤ 33 + (d + 1) ∧ 8 + (2 + 11) + (rm_M_needSign).locals ≤ 790 + 28 * (d + 1)
  omega
theorem rm_M_rowPattern_M_patternAt {R : Room} {d : Nat} (hR : R = rg_M_rowPattern (d + 1)) : (rg_M_rowPattern d).frames + 1 ≤ R.frames ∧ 8 + (5 + 11) + (rg_M_rowPattern d).locals ≤ R.locals := by
  subst hR
  show 33 + d + 1 ≤ 33 + (d + 1) ∧ 8 + (5 + 11) + (790 + 28 * d) ≤ 790 + 28 * (d + 1)
  omega
def fb_M_rowPattern_194 (N : Nat) (S : SG_M_rowPattern) (G : (MS → Int32 → Int32 → Int32 → Int32 → Int32 → Int32 → Int32 → Option (MS × Int32))) (u : MS) (v3 : Int32) (v4 : Int32) (v6 : Int32) : Option (MS × Int32) := ck (inb v4 (ln 35)) (lt (upA u 35 (upd (u.2.2.1 35) v4.toNatClampNeg v6)) (fun w1 => bnd (fm_M_needSign N w1 v3) (fun u2 _ => some (u2, v4))))
set_option maxRecDepth 100000 in
set_option maxHeartbeats 4000000 in
theorem wb_M_rowPattern_194 {p : Program} {l : Launch} {e : Env} {R : Room} {s : State} {m : MethodId} {args : Array Value} {below : List Frame} {meth : Method} {c : Code} {D : va_G} {cl : List vw_C} {cB cI cJ cZ cS : ClassId} {A : Nat → Prop} {iM h0 : Nat} {ad : Nat → Nat} (C0 : MCx p s m args meth c b_M_rowPattern 9 (some .int) D cl cB cI cJ cZ cS iM A) {d : Nat} (hR : R = rg_M_rowPattern (d + 1)) (N : Nat) (S : SG_M_rowPattern) (hSg : HS_M_rowPattern l D cl cB cI cJ cZ cS iM h0 ad (rg_M_rowPattern d) S) (G : (MS → Int32 → Int32 → Int32 → Int32 → Int32 → Int32 → Int32 → Option (MS × Int32))) (hG : (∀ (u : MS) (v1 : Int32) (v2 : Int32) (v3 : Int32) (v4 : Int32) (v5 : Int32) (v6 : Int32) (v7 : Int32) (x : MS × Int32), G u v1 v2 v3 v4 v5 v6 v7 = some x → ∀ (H : Heap) (locs : List Loc), va_P D cl (wM cB cI cJ cZ cS iM h0 ad u) H → va_D A (wM cB cI cJ cZ cS iM h0 ad u) → va_S A s.heap H locs → ∀ (ls : Array Slot), lv_has ls 9 [(0, .ref h0), (1, .int v1), (2, .int v2), (3, .int v3), (4, .int v4), (5, .int v5), (6, .int v6), (7, .int v7)] → W p l e R s m args below meth c H locs 0 0 (MQ below (mQi D cl cB cI cJ cZ cS iM h0 ad A x) args s 0 0 A) (F0 m 66 ls []))) : ∀ (u : MS) (v3 : Int32) (v4 : Int32) (v6 : Int32) (x : MS × Int32), fb_M_rowPattern_194 N S G u v3 v4 v6 = some x → ∀ (H : Heap) (locs : List Loc), va_P D cl (wM cB cI cJ cZ cS iM h0 ad u) H → va_D A (wM cB cI cJ cZ cS iM h0 ad u) → va_S A s.heap H locs → ∀ (ls : Array Slot), lv_has ls 9 [(0, .ref h0), (3, .int v3), (4, .int v4), (6, .int v6)] → W p l e R s m args below meth c H locs 0 0 (MQ below (mQi D cl cB cI cJ cZ cS iM h0 ad A x) args s 0 0 A) (F0 m 194 ls []) := by
  intro u v3 v4 v6 x hf H locs hP hD hS ls hl
  obtain ⟨hx, hb, hr, hml, ht, hown, hM, hK, hA, hlocks⟩ := id C0
  unfold fb_M_rowPattern_194 at hf
  refine lv_aload_n hx hb d_M_rowPattern_194 rfl (lv_at hl 0 rfl) ?_
  refine ug_R hx hb ht hown hM hK hP 35 (by decide) lk_M_35 (by decide) d_M_rowPattern_195 ?_
  refine lv_iload hx hb d_M_rowPattern_198 (lv_at hl 2 rfl) ?_
  refine lv_iload hx hb d_M_rowPattern_200 (lv_at hl 3 rfl) ?_
  obtain ⟨hi9, hf⟩ := ck_some hf
  refine us_I hx hb hK hP hD hS (by decide) (by decide) hi9 d_M_rowPattern_202 (fun H locs hP hD hS => ?_)
  obtain ⟨w1, e1, hf⟩ := lt_some hf
  rw [← e1] at hP hD
  refine lv_aload_n hx hb d_M_rowPattern_203 rfl (lv_at hl 0 rfl) ?_
  refine lv_iload_n hx hb d_M_rowPattern_204 rfl (lv_at hl 1 rfl) ?_
  obtain ⟨u2, r2, hc2, hf⟩ := bnd_some hf
  refine mV_v (As := [.int v3]) (rest := []) C0 hP hD hS (c_M_needSign N hM hc2) k_M_needSign hl_M_needSign hi_M_needSign hs_M_needSign hini_M rfl rfl hd_M_needSign rfl (rm_M_rowPattern_M_needSign hR) hl.1 (Nat.le_of_ble_eq_true rfl) d_M_rowPattern_205 rfl ⟨Nat.zero_le _, Nat.zero_le _⟩ (fun H locs hP hD hS => ?_)
  refine lv_iload hx hb d_M_rowPattern_208 (lv_at hl 2 rfl) ?_
  exact mr_i C0 hP hD hS hf d_M_rowPattern_210
def fb_M_rowPattern_186 (N : Nat) (S : SG_M_rowPattern) (G : (MS → Int32 → Int32 → Int32 → Int32 → Int32 → Int32 → Int32 → Option (MS × Int32))) (u : MS) (v3 : Int32) (v4 : Int32) (v6 : Int32) : Option (MS × Int32) := ck (inb v4 (ln 38)) (lt (upA u 38 (upd (u.2.2.1 38) v4.toNatClampNeg (vp_nar .boolean 1))) (fun w3 => fb_M_rowPattern_194 N S G w3 (v3) (v4) (v6)))
set_option maxRecDepth 100000 in
set_option maxHeartbeats 4000000 in
theorem wb_M_rowPattern_186 {p : Program} {l : Launch} {e : Env} {R : Room} {s : State} {m : MethodId} {args : Array Value} {below : List Frame} {meth : Method} {c : Code} {D : va_G} {cl : List vw_C} {cB cI cJ cZ cS : ClassId} {A : Nat → Prop} {iM h0 : Nat} {ad : Nat → Nat} (C0 : MCx p s m args meth c b_M_rowPattern 9 (some .int) D cl cB cI cJ cZ cS iM A) {d : Nat} (hR : R = rg_M_rowPattern (d + 1)) (N : Nat) (S : SG_M_rowPattern) (hSg : HS_M_rowPattern l D cl cB cI cJ cZ cS iM h0 ad (rg_M_rowPattern d) S) (G : (MS → Int32 → Int32 → Int32 → Int32 → Int32 → Int32 → Int32 → Option (MS × Int32))) (hG : (∀ (u : MS) (v1 : Int32) (v2 : Int32) (v3 : Int32) (v4 : Int32) (v5 : Int32) (v6 : Int32) (v7 : Int32) (x : MS × Int32), G u v1 v2 v3 v4 v5 v6 v7 = some x → ∀ (H : Heap) (locs : List Loc), va_P D cl (wM cB cI cJ cZ cS iM h0 ad u) H → va_D A (wM cB cI cJ cZ cS iM h0 ad u) → va_S A s.heap H locs → ∀ (ls : Array Slot), lv_has ls 9 [(0, .ref h0), (1, .int v1), (2, .int v2), (3, .int v3), (4, .int v4), (5, .int v5), (6, .int v6), (7, .int v7)] → W p l e R s m args below meth c H locs 0 0 (MQ below (mQi D cl cB cI cJ cZ cS iM h0 ad A x) args s 0 0 A) (F0 m 66 ls []))) : ∀ (u : MS) (v3 : Int32) (v4 : Int32) (v6 : Int32) (x : MS × Int32), fb_M_rowPattern_186 N S G u v3 v4 v6 = some x → ∀ (H : Heap) (locs : List Loc), va_P D cl (wM cB cI cJ cZ cS iM h0 ad u) H → va_D A (wM cB cI cJ cZ cS iM h0 ad u) → va_S A s.heap H locs → ∀ (ls : Array Slot), lv_has ls 9 [(0, .ref h0), (3, .int v3), (4, .int v4), (6, .int v6)] → W p l e R s m args below meth c H locs 0 0 (MQ below (mQi D cl cB cI cJ cZ cS iM h0 ad A x) args s 0 0 A) (F0 m 186 ls []) := by
  intro u v3 v4 v6 x hf H locs hP hD hS ls hl
  obtain ⟨hx, hb, hr, hml, ht, hown, hM, hK, hA, hlocks⟩ := id C0
  unfold fb_M_rowPattern_186 at hf
  refine lv_aload_n hx hb d_M_rowPattern_186 rfl (lv_at hl 0 rfl) ?_
  refine ug_R hx hb ht hown hM hK hP 38 (by decide) lk_M_38 (by decide) d_M_rowPattern_187 ?_
  refine lv_iload hx hb d_M_rowPattern_190 (lv_at hl 2 rfl) ?_
  refine lv_iconst (v := 1) hx hb d_M_rowPattern_192 (by decide) ?_
  obtain ⟨hi9, hf⟩ := ck_some hf
  refine us_Z hx hb hK hP hD hS (by decide) (by decide) hi9 d_M_rowPattern_193 (fun H locs hP hD hS => ?_)
  obtain ⟨w3, e3, hf⟩ := lt_some hf
  rw [← e3] at hP hD
  exact wb_M_rowPattern_194 C0 hR N S hSg G hG _ _ _ _ _ hf H locs hP hD hS ls (lv_sub hl [0, 1, 2, 3] rfl)
def fb_M_rowPattern_151 (N : Nat) (S : SG_M_rowPattern) (G : (MS → Int32 → Int32 → Int32 → Int32 → Int32 → Int32 → Int32 → Option (MS × Int32))) (u : MS) (v1 : Int32) (v2 : Int32) (v3 : Int32) (v4 : Int32) (v5 : Int32) (v6 : Int32) : Option (MS × Int32) := br (decide (v2 = 0)) (bnd (fm_M_takeSign N u 9) (fun u4 r4 => br (decide (r4 = 0)) (fb_M_rowPattern_194 N S G u4 (v3) (v4) (v6)) (bnd (S.2 u4 v1) (fun u5 r5 => br (decide (v5 = (-1))) (fb_M_rowPattern_186 N S G u5 (v3) (v4) (v6)) (ck (inb v5 (ln 37)) (lt (upA u5 37 (upd (u5.2.2.1 37) v5.toNatClampNeg r5)) (fun w6 => fb_M_rowPattern_186 N S G w6 (v3) (v4) (v6)))))))) (fb_M_rowPattern_194 N S G u (v3) (v4) (v6))
set_option maxRecDepth 100000 in
set_option maxHeartbeats 4000000 in
theorem wb_M_rowPattern_151 {p : Program} {l : Launch} {e : Env} {R : Room} {s : State} {m : MethodId} {args : Array Value} {below : List Frame} {meth : Method} {c : Code} {D : va_G} {cl : List vw_C} {cB cI cJ cZ cS : ClassId} {A : Nat → Prop} {iM h0 : Nat} {ad : Nat → Nat} (C0 : MCx p s m args meth c b_M_rowPattern 9 (some .int) D cl cB cI cJ cZ cS iM A) {d : Nat} (hR : R = rg_M_rowPattern (d + 1)) (N : Nat) (S : SG_M_rowPattern) (hSg : HS_M_rowPattern l D cl cB cI cJ cZ cS iM h0 ad (rg_M_rowPattern d) S) (G : (MS → Int32 → Int32 → Int32 → Int32 → Int32 → Int32 → Int32 → Option (MS × Int32))) (hG : (∀ (u : MS) (v1 : Int32) (v2 : Int32) (v3 : Int32) (v4 : Int32) (v5 : Int32) (v6 : Int32) (v7 : Int32) (x : MS × Int32), G u v1 v2 v3 v4 v5 v6 v7 = some x → ∀ (H : Heap) (locs : List Loc), va_P D cl (wM cB cI cJ cZ cS iM h0 ad u) H → va_D A (wM cB cI cJ cZ cS iM h0 ad u) → va_S A s.heap H locs → ∀ (ls : Array Slot), lv_has ls 9 [(0, .ref h0), (1, .int v1), (2, .int v2), (3, .int v3), (4, .int v4), (5, .int v5), (6, .int v6), (7, .int v7)] → W p l e R s m args below meth c H locs 0 0 (MQ below (mQi D cl cB cI cJ cZ cS iM h0 ad A x) args s 0 0 A) (F0 m 66 ls []))) : ∀ (u : MS) (v1 : Int32) (v2 : Int32) (v3 : Int32) (v4 : Int32) (v5 : Int32) (v6 : Int32) (x : MS × Int32), fb_M_rowPattern_151 N S G u v1 v2 v3 v4 v5 v6 = some x → ∀ (H : Heap) (locs : List Loc), va_P D cl (wM cB cI cJ cZ cS iM h0 ad u) H → va_D A (wM cB cI cJ cZ cS iM h0 ad u) → va_S A s.heap H locs → ∀ (ls : Array Slot), lv_has ls 9 [(0, .ref h0), (1, .int v1), (2, .int v2), (3, .int v3), (4, .int v4), (5, .int v5), (6, .int v6)] → W p l e R s m args below meth c H locs 0 0 (MQ below (mQi D cl cB cI cJ cZ cS iM h0 ad A x) args s 0 0 A) (F0 m 151 ls []) := by
  intro u v1 v2 v3 v4 v5 v6 x hf H locs hP hD hS ls hl
  obtain ⟨hx, hb, hr, hml, ht, hown, hM, hK, hA, hlocks⟩ := id C0
  unfold fb_M_rowPattern_151 at hf
  refine lv_iload_n hx hb d_M_rowPattern_151 rfl (lv_at hl 2 rfl) ?_
  refine lv_if_ne (tgt := 194) hx hb d_M_rowPattern_152 (by decide) (fun hc => ?_) (fun hc => ?_)
  · rw [br_n _ hc] at hf
    exact wb_M_rowPattern_194 C0 hR N S hSg G hG _ _ _ _ _ hf H locs hP hD hS ls (lv_sub hl [0, 3, 4, 6] rfl)
  · rw [br_p _ hc] at hf
    refine lv_aload_n hx hb d_M_rowPattern_155 rfl (lv_at hl 0 rfl) ?_
    refine lv_bipush (v := 9) hx hb d_M_rowPattern_156 (by decide) ?_
    obtain ⟨u4, r4, hc4, hf⟩ := bnd_some hf
    refine mV_i (As := [.int 9]) (rest := []) C0 hP hD hS (c_M_takeSign N hM hc4) k_M_takeSign hl_M_takeSign hi_M_takeSign hs_M_takeSign hini_M rfl rfl hd_M_takeSign rfl (rm_M_rowPattern_M_takeSign hR) hl.1 (Nat.le_of_ble_eq_true rfl) d_M_rowPattern_158 rfl ⟨Nat.zero_le _, Nat.zero_le _⟩ (fun H locs hP hD hS => ?_)
    refine lv_if_eq (tgt := 194) hx hb d_M_rowPattern_161 (by decide) (fun hc => ?_) (fun hc => ?_)
    · rw [br_p _ hc] at hf
      exact wb_M_rowPattern_194 C0 hR N S hSg G hG _ _ _ _ _ hf H locs hP hD hS ls (lv_sub hl [0, 3, 4, 6] rfl)
    · rw [br_n _ hc] at hf
      refine lv_aload_n hx hb d_M_rowPattern_164 rfl (lv_at hl 0 rfl) ?_
      refine lv_iload_n hx hb d_M_rowPattern_165 rfl (lv_at hl 1 rfl) ?_
      obtain ⟨u5, r5, hc5, hf⟩ := bnd_some hf
      refine mV_i (As := [.int v1]) (rest := []) C0 hP hD hS (hSg.2 _ _ _ _ hc5) k_M_patternAt hl_M_patternAt hi_M_patternAt hs_M_patternAt hini_M rfl rfl hd_M_patternAt rfl (rm_M_rowPattern_M_patternAt hR) hl.1 (Nat.le_of_ble_eq_true rfl) d_M_rowPattern_166 rfl ⟨Nat.zero_le _, Nat.zero_le _⟩ (fun H locs hP hD hS => ?_)
      refine lv_istore (lv' := [(8, .int r5), (0, .ref h0), (1, .int v1), (2, .int v2), (3, .int v3), (4, .int v4), (5, .int v5), (6, .int v6)]) hx hb d_M_rowPattern_169 hl (by decide) rfl (fun ls hl => ?_)
      refine lv_iload hx hb d_M_rowPattern_171 (lv_at hl 6 rfl) ?_
      refine lv_iconst (v := (-1)) hx hb d_M_rowPattern_173 (by decide) ?_
      refine lv_icmp_eq (tgt := 186) hx hb d_M_rowPattern_174 (by decide) (fun hc => ?_) (fun hc => ?_)
      · rw [br_p _ hc] at hf
        exact wb_M_rowPattern_186 C0 hR N S hSg G hG _ _ _ _ _ hf H locs hP hD hS ls (lv_sub hl [1, 4, 5, 7] rfl)
      · rw [br_n _ hc] at hf
        refine lv_aload_n hx hb d_M_rowPattern_177 rfl (lv_at hl 1 rfl) ?_
        refine ug_R hx hb ht hown hM hK hP 37 (by decide) lk_M_37 (by decide) d_M_rowPattern_178 ?_
        refine lv_iload hx hb d_M_rowPattern_181 (lv_at hl 6 rfl) ?_
        refine lv_iload hx hb d_M_rowPattern_183 (lv_at hl 0 rfl) ?_
        obtain ⟨hi9, hf⟩ := ck_some hf
        refine us_I hx hb hK hP hD hS (by decide) (by decide) hi9 d_M_rowPattern_185 (fun H locs hP hD hS => ?_)
        obtain ⟨w6, e6, hf⟩ := lt_some hf
        rw [← e6] at hP hD
        exact wb_M_rowPattern_186 C0 hR N S hSg G hG _ _ _ _ _ hf H locs hP hD hS ls (lv_sub hl [1, 4, 5, 7] rfl)
def fb_M_rowPattern_140 (N : Nat) (S : SG_M_rowPattern) (G : (MS → Int32 → Int32 → Int32 → Int32 → Int32 → Int32 → Int32 → Option (MS × Int32))) (u : MS) (v1 : Int32) (v2 : Int32) (v3 : Int32) (v4 : Int32) (v5 : Int32) (v6 : Int32) : Option (MS × Int32) := bnd (fm_M_takeSign N u 6) (fun u7 r7 => G u7 (v1) (v2) (v3) (v4) (v5) (v6) (r7))
set_option maxRecDepth 100000 in
set_option maxHeartbeats 4000000 in
theorem wb_M_rowPattern_140 {p : Program} {l : Launch} {e : Env} {R : Room} {s : State} {m : MethodId} {args : Array Value} {below : List Frame} {meth : Method} {c : Code} {D : va_G} {cl : List vw_C} {cB cI cJ cZ cS : ClassId} {A : Nat → Prop} {iM h0 : Nat} {ad : Nat → Nat} (C0 : MCx p s m args meth c b_M_rowPattern 9 (some .int) D cl cB cI cJ cZ cS iM A) {d : Nat} (hR : R = rg_M_rowPattern (d + 1)) (N : Nat) (S : SG_M_rowPattern) (hSg : HS_M_rowPattern l D cl cB cI cJ cZ cS iM h0 ad (rg_M_rowPattern d) S) (G : (MS → Int32 → Int32 → Int32 → Int32 → Int32 → Int32 → Int32 → Option (MS × Int32))) (hG : (∀ (u : MS) (v1 : Int32) (v2 : Int32) (v3 : Int32) (v4 : Int32) (v5 : Int32) (v6 : Int32) (v7 : Int32) (x : MS × Int32), G u v1 v2 v3 v4 v5 v6 v7 = some x → ∀ (H : Heap) (locs : List Loc), va_P D cl (wM cB cI cJ cZ cS iM h0 ad u) H → va_D A (wM cB cI cJ cZ cS iM h0 ad u) → va_S A s.heap H locs → ∀ (ls : Array Slot), lv_has ls 9 [(0, .ref h0), (1, .int v1), (2, .int v2), (3, .int v3), (4, .int v4), (5, .int v5), (6, .int v6), (7, .int v7)] → W p l e R s m args below meth c H locs 0 0 (MQ below (mQi D cl cB cI cJ cZ cS iM h0 ad A x) args s 0 0 A) (F0 m 66 ls []))) : ∀ (u : MS) (v1 : Int32) (v2 : Int32) (v3 : Int32) (v4 : Int32) (v5 : Int32) (v6 : Int32) (x : MS × Int32), fb_M_rowPattern_140 N S G u v1 v2 v3 v4 v5 v6 = some x → ∀ (H : Heap) (locs : List Loc), va_P D cl (wM cB cI cJ cZ cS iM h0 ad u) H → va_D A (wM cB cI cJ cZ cS iM h0 ad u) → va_S A s.heap H locs → ∀ (ls : Array Slot), lv_has ls 9 [(0, .ref h0), (1, .int v1), (2, .int v2), (3, .int v3), (4, .int v4), (5, .int v5), (6, .int v6)] → W p l e R s m args below meth c H locs 0 0 (MQ below (mQi D cl cB cI cJ cZ cS iM h0 ad A x) args s 0 0 A) (F0 m 140 ls []) := by
  intro u v1 v2 v3 v4 v5 v6 x hf H locs hP hD hS ls hl
  obtain ⟨hx, hb, hr, hml, ht, hown, hM, hK, hA, hlocks⟩ := id C0
  unfold fb_M_rowPattern_140 at hf
  refine lv_aload_n hx hb d_M_rowPattern_140 rfl (lv_at hl 0 rfl) ?_
  refine lv_bipush (v := 6) hx hb d_M_rowPattern_141 (by decide) ?_
  obtain ⟨u7, r7, hc7, hf⟩ := bnd_some hf
  refine mV_i (As := [.int 6]) (rest := []) C0 hP hD hS (c_M_takeSign N hM hc7) k_M_takeSign hl_M_takeSign hi_M_takeSign hs_M_takeSign hini_M rfl rfl hd_M_takeSign rfl (rm_M_rowPattern_M_takeSign hR) hl.1 (Nat.le_of_ble_eq_true rfl) d_M_rowPattern_143 rfl ⟨Nat.zero_le _, Nat.zero_le _⟩ (fun H locs hP hD hS => ?_)
  refine lv_istore (lv' := [(7, .int r7), (0, .ref h0), (1, .int v1), (2, .int v2), (3, .int v3), (4, .int v4), (5, .int v5), (6, .int v6)]) hx hb d_M_rowPattern_146 hl (by decide) rfl (fun ls hl => ?_)
  refine lv_goto (tgt := 66) hx hb d_M_rowPattern_148 (by decide) ?_
  exact hG _ _ _ _ _ _ _ _ _ hf H locs hP hD hS ls (lv_sub hl [1, 2, 3, 4, 5, 6, 7, 0] rfl)
def fb_M_rowPattern_112 (N : Nat) (S : SG_M_rowPattern) (G : (MS → Int32 → Int32 → Int32 → Int32 → Int32 → Int32 → Int32 → Option (MS × Int32))) (u : MS) (v1 : Int32) (v2 : Int32) (v3 : Int32) (v4 : Int32) (v6 : Int32) (v8 : Int32) : Option (MS × Int32) := br (decide ((v6 + 1) = 8)) (bnd (fm_M_isSign N u 6) (fun u8 r8 => br (decide (r8 = 0)) (fb_M_rowPattern_140 N S G u8 (v1) (v2) (v3) (v4) (v8) ((v6 + 1))) (bnd (fm_M_wrong N u8 2) (fun u9 _ => fb_M_rowPattern_140 N S G u9 (v1) (v2) (v3) (v4) (v8) ((v6 + 1)))))) (fb_M_rowPattern_140 N S G u (v1) (v2) (v3) (v4) (v8) ((v6 + 1)))
set_option maxRecDepth 100000 in
set_option maxHeartbeats 4000000 in
theorem wb_M_rowPattern_112 {p : Program} {l : Launch} {e : Env} {R : Room} {s : State} {m : MethodId} {args : Array Value} {below : List Frame} {meth : Method} {c : Code} {D : va_G} {cl : List vw_C} {cB cI cJ cZ cS : ClassId} {A : Nat → Prop} {iM h0 : Nat} {ad : Nat → Nat} (C0 : MCx p s m args meth c b_M_rowPattern 9 (some .int) D cl cB cI cJ cZ cS iM A) {d : Nat} (hR : R = rg_M_rowPattern (d + 1)) (N : Nat) (S : SG_M_rowPattern) (hSg : HS_M_rowPattern l D cl cB cI cJ cZ cS iM h0 ad (rg_M_rowPattern d) S) (G : (MS → Int32 → Int32 → Int32 → Int32 → Int32 → Int32 → Int32 → Option (MS × Int32))) (hG : (∀ (u : MS) (v1 : Int32) (v2 : Int32) (v3 : Int32) (v4 : Int32) (v5 : Int32) (v6 : Int32) (v7 : Int32) (x : MS × Int32), G u v1 v2 v3 v4 v5 v6 v7 = some x → ∀ (H : Heap) (locs : List Loc), va_P D cl (wM cB cI cJ cZ cS iM h0 ad u) H → va_D A (wM cB cI cJ cZ cS iM h0 ad u) → va_S A s.heap H locs → ∀ (ls : Array Slot), lv_has ls 9 [(0, .ref h0), (1, .int v1), (2, .int v2), (3, .int v3), (4, .int v4), (5, .int v5), (6, .int v6), (7, .int v7)] → W p l e R s m args below meth c H locs 0 0 (MQ below (mQi D cl cB cI cJ cZ cS iM h0 ad A x) args s 0 0 A) (F0 m 66 ls []))) : ∀ (u : MS) (v1 : Int32) (v2 : Int32) (v3 : Int32) (v4 : Int32) (v6 : Int32) (v8 : Int32) (x : MS × Int32), fb_M_rowPattern_112 N S G u v1 v2 v3 v4 v6 v8 = some x → ∀ (H : Heap) (locs : List Loc), va_P D cl (wM cB cI cJ cZ cS iM h0 ad u) H → va_D A (wM cB cI cJ cZ cS iM h0 ad u) → va_S A s.heap H locs → ∀ (ls : Array Slot), lv_has ls 9 [(0, .ref h0), (1, .int v1), (2, .int v2), (3, .int v3), (4, .int v4), (6, .int v6), (8, .int v8)] → W p l e R s m args below meth c H locs 0 0 (MQ below (mQi D cl cB cI cJ cZ cS iM h0 ad A x) args s 0 0 A) (F0 m 112 ls []) := by
  intro u v1 v2 v3 v4 v6 v8 x hf H locs hP hD hS ls hl
  obtain ⟨hx, hb, hr, hml, ht, hown, hM, hK, hA, hlocks⟩ := id C0
  unfold fb_M_rowPattern_112 at hf
  refine lv_iload hx hb d_M_rowPattern_112 (lv_at hl 6 rfl) ?_
  refine lv_istore (lv' := [(5, .int v8), (0, .ref h0), (1, .int v1), (2, .int v2), (3, .int v3), (4, .int v4), (6, .int v6), (8, .int v8)]) hx hb d_M_rowPattern_114 hl (by decide) rfl (fun ls hl => ?_)
  refine lv_iinc (v := (v6 + 1)) (lv' := [(6, .int (v6 + 1)), (5, .int v8), (0, .ref h0), (1, .int v1), (2, .int v2), (3, .int v3), (4, .int v4), (8, .int v8)]) hx hb d_M_rowPattern_116 hl (k := 6) rfl rfl (by decide) rfl (fun ls hl => ?_)
  refine lv_iload hx hb d_M_rowPattern_119 (lv_at hl 0 rfl) ?_
  refine lv_bipush (v := 8) hx hb d_M_rowPattern_121 (by decide) ?_
  refine lv_icmp_ne (tgt := 140) hx hb d_M_rowPattern_123 (by decide) (fun hc => ?_) (fun hc => ?_)
  · rw [br_n _ hc] at hf
    exact wb_M_rowPattern_140 C0 hR N S hSg G hG _ _ _ _ _ _ _ _ hf H locs hP hD hS ls (lv_sub hl [2, 3, 4, 5, 6, 1, 0] rfl)
  · rw [br_p _ hc] at hf
    refine lv_aload_n hx hb d_M_rowPattern_126 rfl (lv_at hl 2 rfl) ?_
    refine lv_bipush (v := 6) hx hb d_M_rowPattern_127 (by decide) ?_
    obtain ⟨u8, r8, hc8, hf⟩ := bnd_some hf
    refine mV_i (As := [.int 6]) (rest := []) C0 hP hD hS (c_M_isSign N hM hc8) k_M_isSign hl_M_isSign hi_M_isSign hs_M_isSign hini_M rfl rfl hd_M_isSign rfl (rm_M_rowPattern_M_isSign hR) hl.1 (Nat.le_of_ble_eq_true rfl) d_M_rowPattern_129 rfl ⟨Nat.zero_le _, Nat.zero_le _⟩ (fun H locs hP hD hS => ?_)
    refine lv_if_eq (tgt := 140) hx hb d_M_rowPattern_132 (by decide) (fun hc => ?_) (fun hc => ?_)
    · rw [br_p _ hc] at hf
      exact wb_M_rowPattern_140 C0 hR N S hSg G hG _ _ _ _ _ _ _ _ hf H locs hP hD hS ls (lv_sub hl [2, 3, 4, 5, 6, 1, 0] rfl)
    · rw [br_n _ hc] at hf
      refine lv_aload_n hx hb d_M_rowPattern_135 rfl (lv_at hl 2 rfl) ?_
      refine lv_iconst (v := 2) hx hb d_M_rowPattern_136 (by decide) ?_
      obtain ⟨u9, r9, hc9, hf⟩ := bnd_some hf
      refine mV_v (As := [.int 2]) (rest := []) C0 hP hD hS (c_M_wrong N hM hc9) k_M_wrong hl_M_wrong hi_M_wrong hs_M_wrong hini_M rfl rfl hd_M_wrong rfl (rm_M_rowPattern_M_wrong hR) hl.1 (Nat.le_of_ble_eq_true rfl) d_M_rowPattern_137 rfl ⟨Nat.zero_le _, Nat.zero_le _⟩ (fun H locs hP hD hS => ?_)
      exact wb_M_rowPattern_140 C0 hR N S hSg G hG _ _ _ _ _ _ _ _ hf H locs hP hD hS ls (lv_sub hl [2, 3, 4, 5, 6, 1, 0] rfl)
def fb_M_rowPattern_66 (N : Nat) (S : SG_M_rowPattern) (G : (MS → Int32 → Int32 → Int32 → Int32 → Int32 → Int32 → Int32 → Option (MS × Int32))) (u : MS) (v1 : Int32) (v2 : Int32) (v3 : Int32) (v4 : Int32) (v5 : Int32) (v6 : Int32) (v7 : Int32) : Option (MS × Int32) := br (decide (v7 = 0)) (fb_M_rowPattern_151 N S G u (v1) (v2) (v3) (v4) (v5) (v6)) (br (decide ((u.1 67) = 0)) (bnd (S.2 u v1) (fun u10 r10 => br (decide (v5 = (-1))) (ck (inb v4 (ln 36)) (lt (upA u10 36 (upd (u10.2.2.1 36) v4.toNatClampNeg r10)) (fun w12 => fb_M_rowPattern_112 N S G w12 (v1) (v2) (v3) (v4) (v6) (r10)))) (ck (inb v5 (ln 37)) (lt (upA u10 37 (upd (u10.2.2.1 37) v5.toNatClampNeg r10)) (fun w11 => fb_M_rowPattern_112 N S G w11 (v1) (v2) (v3) (v4) (v6) (r10)))))) (fb_M_rowPattern_151 N S G u (v1) (v2) (v3) (v4) (v5) (v6)))
set_option maxRecDepth 100000 in
set_option maxHeartbeats 4000000 in
theorem wb_M_rowPattern_66 {p : Program} {l : Launch} {e : Env} {R : Room} {s : State} {m : MethodId} {args : Array Value} {below : List Frame} {meth : Method} {c : Code} {D : va_G} {cl : List vw_C} {cB cI cJ cZ cS : ClassId} {A : Nat → Prop} {iM h0 : Nat} {ad : Nat → Nat} (C0 : MCx p s m args meth c b_M_rowPattern 9 (some .int) D cl cB cI cJ cZ cS iM A) {d : Nat} (hR : R = rg_M_rowPattern (d + 1)) (N : Nat) (S : SG_M_rowPattern) (hSg : HS_M_rowPattern l D cl cB cI cJ cZ cS iM h0 ad (rg_M_rowPattern d) S) (G : (MS → Int32 → Int32 → Int32 → Int32 → Int32 → Int32 → Int32 → Option (MS × Int32))) (hG : (∀ (u : MS) (v1 : Int32) (v2 : Int32) (v3 : Int32) (v4 : Int32) (v5 : Int32) (v6 : Int32) (v7 : Int32) (x : MS × Int32), G u v1 v2 v3 v4 v5 v6 v7 = some x → ∀ (H : Heap) (locs : List Loc), va_P D cl (wM cB cI cJ cZ cS iM h0 ad u) H → va_D A (wM cB cI cJ cZ cS iM h0 ad u) → va_S A s.heap H locs → ∀ (ls : Array Slot), lv_has ls 9 [(0, .ref h0), (1, .int v1), (2, .int v2), (3, .int v3), (4, .int v4), (5, .int v5), (6, .int v6), (7, .int v7)] → W p l e R s m args below meth c H locs 0 0 (MQ below (mQi D cl cB cI cJ cZ cS iM h0 ad A x) args s 0 0 A) (F0 m 66 ls []))) : ∀ (u : MS) (v1 : Int32) (v2 : Int32) (v3 : Int32) (v4 : Int32) (v5 : Int32) (v6 : Int32) (v7 : Int32) (x : MS × Int32), fb_M_rowPattern_66 N S G u v1 v2 v3 v4 v5 v6 v7 = some x → ∀ (H : Heap) (locs : List Loc), va_P D cl (wM cB cI cJ cZ cS iM h0 ad u) H → va_D A (wM cB cI cJ cZ cS iM h0 ad u) → va_S A s.heap H locs → ∀ (ls : Array Slot), lv_has ls 9 [(0, .ref h0), (1, .int v1), (2, .int v2), (3, .int v3), (4, .int v4), (5, .int v5), (6, .int v6), (7, .int v7)] → W p l e R s m args below meth c H locs 0 0 (MQ below (mQi D cl cB cI cJ cZ cS iM h0 ad A x) args s 0 0 A) (F0 m 66 ls []) := by
  intro u v1 v2 v3 v4 v5 v6 v7 x hf H locs hP hD hS ls hl
  obtain ⟨hx, hb, hr, hml, ht, hown, hM, hK, hA, hlocks⟩ := id C0
  unfold fb_M_rowPattern_66 at hf
  refine lv_iload hx hb d_M_rowPattern_66 (lv_at hl 7 rfl) ?_
  refine lv_if_eq (tgt := 151) hx hb d_M_rowPattern_68 (by decide) (fun hc => ?_) (fun hc => ?_)
  · rw [br_p _ hc] at hf
    exact wb_M_rowPattern_151 C0 hR N S hSg G hG _ _ _ _ _ _ _ _ hf H locs hP hD hS ls (lv_sub hl [0, 1, 2, 3, 4, 5, 6] rfl)
  · rw [br_n _ hc] at hf
    refine lv_aload_n hx hb d_M_rowPattern_71 rfl (lv_at hl 0 rfl) ?_
    refine ug_I hx hb ht hown hM hK hP 67 (by decide) lk_M_67 (by decide) d_M_rowPattern_72 ?_
    refine lv_if_ne (tgt := 151) hx hb d_M_rowPattern_75 (by decide) (fun hc => ?_) (fun hc => ?_)
    · rw [br_n _ hc] at hf
      exact wb_M_rowPattern_151 C0 hR N S hSg G hG _ _ _ _ _ _ _ _ hf H locs hP hD hS ls (lv_sub hl [0, 1, 2, 3, 4, 5, 6] rfl)
    · rw [br_p _ hc] at hf
      refine lv_aload_n hx hb d_M_rowPattern_78 rfl (lv_at hl 0 rfl) ?_
      refine lv_iload_n hx hb d_M_rowPattern_79 rfl (lv_at hl 1 rfl) ?_
      obtain ⟨u10, r10, hc10, hf⟩ := bnd_some hf
      refine mV_i (As := [.int v1]) (rest := []) C0 hP hD hS (hSg.2 _ _ _ _ hc10) k_M_patternAt hl_M_patternAt hi_M_patternAt hs_M_patternAt hini_M rfl rfl hd_M_patternAt rfl (rm_M_rowPattern_M_patternAt hR) hl.1 (Nat.le_of_ble_eq_true rfl) d_M_rowPattern_80 rfl ⟨Nat.zero_le _, Nat.zero_le _⟩ (fun H locs hP hD hS => ?_)
      refine lv_istore (lv' := [(8, .int r10), (0, .ref h0), (1, .int v1), (2, .int v2), (3, .int v3), (4, .int v4), (5, .int v5), (6, .int v6), (7, .int v7)]) hx hb d_M_rowPattern_83 hl (by decide) rfl (fun ls hl => ?_)
      refine lv_iload hx hb d_M_rowPattern_85 (lv_at hl 6 rfl) ?_
      refine lv_iconst (v := (-1)) hx hb d_M_rowPattern_87 (by decide) ?_
      refine lv_icmp_ne (tgt := 103) hx hb d_M_rowPattern_88 (by decide) (fun hc => ?_) (fun hc => ?_)
      · rw [br_n _ hc] at hf
        refine lv_aload_n hx hb d_M_rowPattern_103 rfl (lv_at hl 1 rfl) ?_
        refine ug_R hx hb ht hown hM hK hP 37 (by decide) lk_M_37 (by decide) d_M_rowPattern_104 ?_
        refine lv_iload hx hb d_M_rowPattern_107 (lv_at hl 6 rfl) ?_
        refine lv_iload hx hb d_M_rowPattern_109 (lv_at hl 0 rfl) ?_
        obtain ⟨hi9, hf⟩ := ck_some hf
        refine us_I hx hb hK hP hD hS (by decide) (by decide) hi9 d_M_rowPattern_111 (fun H locs hP hD hS => ?_)
        obtain ⟨w11, e11, hf⟩ := lt_some hf
        rw [← e11] at hP hD
        exact wb_M_rowPattern_112 C0 hR N S hSg G hG _ _ _ _ _ _ _ _ hf H locs hP hD hS ls (lv_sub hl [1, 2, 3, 4, 5, 7, 0] rfl)
      · rw [br_p _ hc] at hf
        refine lv_aload_n hx hb d_M_rowPattern_91 rfl (lv_at hl 1 rfl) ?_
        refine ug_R hx hb ht hown hM hK hP 36 (by decide) lk_M_36 (by decide) d_M_rowPattern_92 ?_
        refine lv_iload hx hb d_M_rowPattern_95 (lv_at hl 5 rfl) ?_
        refine lv_iload hx hb d_M_rowPattern_97 (lv_at hl 0 rfl) ?_
        obtain ⟨hi9, hf⟩ := ck_some hf
        refine us_I hx hb hK hP hD hS (by decide) (by decide) hi9 d_M_rowPattern_99 (fun H locs hP hD hS => ?_)
        obtain ⟨w12, e12, hf⟩ := lt_some hf
        rw [← e12] at hP hD
        refine lv_goto (tgt := 112) hx hb d_M_rowPattern_100 (by decide) ?_
        exact wb_M_rowPattern_112 C0 hR N S hSg G hG _ _ _ _ _ _ _ _ hf H locs hP hD hS ls (lv_sub hl [1, 2, 3, 4, 5, 7, 0] rfl)
def fb_M_rowPattern_27 (N : Nat) (S : SG_M_rowPattern) (G : (MS → Int32 → Int32 → Int32 → Int32 → Int32 → Int32 → Int32 → Option (MS × Int32))) (u : MS) (v1 : Int32) (v2 : Int32) (v3 : Int32) (t1 : Int32) : Option (MS × Int32) := bnd (fm_M_pattern N u t1) (fun u13 r13 => lt (upI u13 69 ((u13.1 69) + 1)) (fun w14 => br (decide ((w14.1 67) = 0)) (bnd (fm_M_isSign N w14 v3) (fun u15 r15 => br (decide (r15 = 0)) (G u15 (v1) (v2) (v3) (r13) ((-1)) (0) (1)) (fb_M_rowPattern_194 N S G u15 (v3) (r13) (0)))) (fb_M_rowPattern_194 N S G w14 (v3) (r13) (0))))
set_option maxRecDepth 100000 in
set_option maxHeartbeats 4000000 in
theorem wb_M_rowPattern_27 {p : Program} {l : Launch} {e : Env} {R : Room} {s : State} {m : MethodId} {args : Array Value} {below : List Frame} {meth : Method} {c : Code} {D : va_G} {cl : List vw_C} {cB cI cJ cZ cS : ClassId} {A : Nat → Prop} {iM h0 : Nat} {ad : Nat → Nat} (C0 : MCx p s m args meth c b_M_rowPattern 9 (some .int) D cl cB cI cJ cZ cS iM A) {d : Nat} (hR : R = rg_M_rowPattern (d + 1)) (N : Nat) (S : SG_M_rowPattern) (hSg : HS_M_rowPattern l D cl cB cI cJ cZ cS iM h0 ad (rg_M_rowPattern d) S) (G : (MS → Int32 → Int32 → Int32 → Int32 → Int32 → Int32 → Int32 → Option (MS × Int32))) (hG : (∀ (u : MS) (v1 : Int32) (v2 : Int32) (v3 : Int32) (v4 : Int32) (v5 : Int32) (v6 : Int32) (v7 : Int32) (x : MS × Int32), G u v1 v2 v3 v4 v5 v6 v7 = some x → ∀ (H : Heap) (locs : List Loc), va_P D cl (wM cB cI cJ cZ cS iM h0 ad u) H → va_D A (wM cB cI cJ cZ cS iM h0 ad u) → va_S A s.heap H locs → ∀ (ls : Array Slot), lv_has ls 9 [(0, .ref h0), (1, .int v1), (2, .int v2), (3, .int v3), (4, .int v4), (5, .int v5), (6, .int v6), (7, .int v7)] → W p l e R s m args below meth c H locs 0 0 (MQ below (mQi D cl cB cI cJ cZ cS iM h0 ad A x) args s 0 0 A) (F0 m 66 ls []))) : ∀ (u : MS) (v1 : Int32) (v2 : Int32) (v3 : Int32) (t1 : Int32) (x : MS × Int32), fb_M_rowPattern_27 N S G u v1 v2 v3 t1 = some x → ∀ (H : Heap) (locs : List Loc), va_P D cl (wM cB cI cJ cZ cS iM h0 ad u) H → va_D A (wM cB cI cJ cZ cS iM h0 ad u) → va_S A s.heap H locs → ∀ (ls : Array Slot), lv_has ls 9 [(0, .ref h0), (1, .int v1), (2, .int v2), (3, .int v3)] → W p l e R s m args below meth c H locs 0 0 (MQ below (mQi D cl cB cI cJ cZ cS iM h0 ad A x) args s 0 0 A) (F0 m 27 ls [.int t1, .ref h0]) := by
  intro u v1 v2 v3 t1 x hf H locs hP hD hS ls hl
  obtain ⟨hx, hb, hr, hml, ht, hown, hM, hK, hA, hlocks⟩ := id C0
  unfold fb_M_rowPattern_27 at hf
  obtain ⟨u13, r13, hc13, hf⟩ := bnd_some hf
  refine mV_i (As := [.int t1]) (rest := []) C0 hP hD hS (c_M_pattern N hM hc13) k_M_pattern hl_M_pattern hi_M_pattern hs_M_pattern hini_M rfl rfl hd_M_pattern rfl (rm_M_rowPattern_M_pattern hR) hl.1 (Nat.le_of_ble_eq_true rfl) d_M_rowPattern_27 rfl ⟨Nat.zero_le _, Nat.zero_le _⟩ (fun H locs hP hD hS => ?_)
  refine lv_istore (lv' := [(4, .int r13), (0, .ref h0), (1, .int v1), (2, .int v2), (3, .int v3)]) hx hb d_M_rowPattern_30 hl (by decide) rfl (fun ls hl => ?_)
  refine lv_aload_n hx hb d_M_rowPattern_32 rfl (lv_at hl 1 rfl) ?_
  refine lv_dup hx hb d_M_rowPattern_33 rfl ?_
  refine ug_I hx hb ht hown hM hK hP 69 (by decide) lk_M_69 (by decide) d_M_rowPattern_34 ?_
  refine lv_iconst (v := 1) hx hb d_M_rowPattern_37 (by decide) ?_
  refine lv_iadd hx hb d_M_rowPattern_38 ?_
  refine up_I hx hb ht hown hM hK hP hD hS 69 (by decide) lk_M_69 (by decide) rfl rfl rfl d_M_rowPattern_39 (fun H locs hP hD hS => ?_)
  obtain ⟨w14, e14, hf⟩ := lt_some hf
  rw [← e14] at hP hD
  refine lv_iconst (v := (-1)) hx hb d_M_rowPattern_42 (by decide) ?_
  refine lv_istore (lv' := [(5, .int (-1)), (4, .int r13), (0, .ref h0), (1, .int v1), (2, .int v2), (3, .int v3)]) hx hb d_M_rowPattern_43 hl (by decide) rfl (fun ls hl => ?_)
  refine lv_iconst (v := 0) hx hb d_M_rowPattern_45 (by decide) ?_
  refine lv_istore (lv' := [(6, .int 0), (5, .int (-1)), (4, .int r13), (0, .ref h0), (1, .int v1), (2, .int v2), (3, .int v3)]) hx hb d_M_rowPattern_46 hl (by decide) rfl (fun ls hl => ?_)
  refine lv_aload_n hx hb d_M_rowPattern_48 rfl (lv_at hl 3 rfl) ?_
  refine ug_I hx hb ht hown hM hK hP 67 (by decide) lk_M_67 (by decide) d_M_rowPattern_49 ?_
  refine lv_if_ne (tgt := 194) hx hb d_M_rowPattern_52 (by decide) (fun hc => ?_) (fun hc => ?_)
  · rw [br_n _ hc] at hf
    exact wb_M_rowPattern_194 C0 hR N S hSg G hG _ _ _ _ _ hf H locs hP hD hS ls (lv_sub hl [3, 6, 2, 0] rfl)
  · rw [br_p _ hc] at hf
    refine lv_aload_n hx hb d_M_rowPattern_55 rfl (lv_at hl 3 rfl) ?_
    refine lv_iload_n hx hb d_M_rowPattern_56 rfl (lv_at hl 6 rfl) ?_
    obtain ⟨u15, r15, hc15, hf⟩ := bnd_some hf
    refine mV_i (As := [.int v3]) (rest := []) C0 hP hD hS (c_M_isSign N hM hc15) k_M_isSign hl_M_isSign hi_M_isSign hs_M_isSign hini_M rfl rfl hd_M_isSign rfl (rm_M_rowPattern_M_isSign hR) hl.1 (Nat.le_of_ble_eq_true rfl) d_M_rowPattern_57 rfl ⟨Nat.zero_le _, Nat.zero_le _⟩ (fun H locs hP hD hS => ?_)
    refine lv_if_ne (tgt := 194) hx hb d_M_rowPattern_60 (by decide) (fun hc => ?_) (fun hc => ?_)
    · rw [br_n _ hc] at hf
      exact wb_M_rowPattern_194 C0 hR N S hSg G hG _ _ _ _ _ hf H locs hP hD hS ls (lv_sub hl [3, 6, 2, 0] rfl)
    · rw [br_p _ hc] at hf
      refine lv_iconst (v := 1) hx hb d_M_rowPattern_63 (by decide) ?_
      refine lv_istore (lv' := [(7, .int 1), (6, .int 0), (5, .int (-1)), (4, .int r13), (0, .ref h0), (1, .int v1), (2, .int v2), (3, .int v3)]) hx hb d_M_rowPattern_64 hl (by decide) rfl (fun ls hl => ?_)
      exact hG _ _ _ _ _ _ _ _ _ hf H locs hP hD hS ls (lv_sub hl [4, 5, 6, 7, 3, 2, 1, 0] rfl)
def fb_M_rowPattern_15 (N : Nat) (S : SG_M_rowPattern) (G : (MS → Int32 → Int32 → Int32 → Int32 → Int32 → Int32 → Int32 → Option (MS × Int32))) (u : MS) (v1 : Int32) (v2 : Int32) (t0 : Int32) : Option (MS × Int32) := br (decide (v2 = 0)) (fb_M_rowPattern_27 N S G u (v1) (v2) (t0) (6)) (fb_M_rowPattern_27 N S G u (v1) (v2) (t0) (5))
set_option maxRecDepth 100000 in
set_option maxHeartbeats 4000000 in
theorem wb_M_rowPattern_15 {p : Program} {l : Launch} {e : Env} {R : Room} {s : State} {m : MethodId} {args : Array Value} {below : List Frame} {meth : Method} {c : Code} {D : va_G} {cl : List vw_C} {cB cI cJ cZ cS : ClassId} {A : Nat → Prop} {iM h0 : Nat} {ad : Nat → Nat} (C0 : MCx p s m args meth c b_M_rowPattern 9 (some .int) D cl cB cI cJ cZ cS iM A) {d : Nat} (hR : R = rg_M_rowPattern (d + 1)) (N : Nat) (S : SG_M_rowPattern) (hSg : HS_M_rowPattern l D cl cB cI cJ cZ cS iM h0 ad (rg_M_rowPattern d) S) (G : (MS → Int32 → Int32 → Int32 → Int32 → Int32 → Int32 → Int32 → Option (MS × Int32))) (hG : (∀ (u : MS) (v1 : Int32) (v2 : Int32) (v3 : Int32) (v4 : Int32) (v5 : Int32) (v6 : Int32) (v7 : Int32) (x : MS × Int32), G u v1 v2 v3 v4 v5 v6 v7 = some x → ∀ (H : Heap) (locs : List Loc), va_P D cl (wM cB cI cJ cZ cS iM h0 ad u) H → va_D A (wM cB cI cJ cZ cS iM h0 ad u) → va_S A s.heap H locs → ∀ (ls : Array Slot), lv_has ls 9 [(0, .ref h0), (1, .int v1), (2, .int v2), (3, .int v3), (4, .int v4), (5, .int v5), (6, .int v6), (7, .int v7)] → W p l e R s m args below meth c H locs 0 0 (MQ below (mQi D cl cB cI cJ cZ cS iM h0 ad A x) args s 0 0 A) (F0 m 66 ls []))) : ∀ (u : MS) (v1 : Int32) (v2 : Int32) (t0 : Int32) (x : MS × Int32), fb_M_rowPattern_15 N S G u v1 v2 t0 = some x → ∀ (H : Heap) (locs : List Loc), va_P D cl (wM cB cI cJ cZ cS iM h0 ad u) H → va_D A (wM cB cI cJ cZ cS iM h0 ad u) → va_S A s.heap H locs → ∀ (ls : Array Slot), lv_has ls 9 [(0, .ref h0), (1, .int v1), (2, .int v2)] → W p l e R s m args below meth c H locs 0 0 (MQ below (mQi D cl cB cI cJ cZ cS iM h0 ad A x) args s 0 0 A) (F0 m 15 ls [.int t0]) := by
  intro u v1 v2 t0 x hf H locs hP hD hS ls hl
  obtain ⟨hx, hb, hr, hml, ht, hown, hM, hK, hA, hlocks⟩ := id C0
  unfold fb_M_rowPattern_15 at hf
  refine lv_istore_n (lv' := [(3, .int t0), (0, .ref h0), (1, .int v1), (2, .int v2)]) hx hb d_M_rowPattern_15 rfl hl (by decide) rfl (fun ls hl => ?_)
  refine lv_aload_n hx hb d_M_rowPattern_16 rfl (lv_at hl 1 rfl) ?_
  refine lv_iload_n hx hb d_M_rowPattern_17 rfl (lv_at hl 3 rfl) ?_
  refine lv_if_eq (tgt := 25) hx hb d_M_rowPattern_18 (by decide) (fun hc => ?_) (fun hc => ?_)
  · rw [br_p _ hc] at hf
    refine lv_bipush (v := 6) hx hb d_M_rowPattern_25 (by decide) ?_
    exact wb_M_rowPattern_27 C0 hR N S hSg G hG _ _ _ _ _ _ hf H locs hP hD hS ls (lv_sub hl [1, 2, 3, 0] rfl)
  · rw [br_n _ hc] at hf
    refine lv_iconst (v := 5) hx hb d_M_rowPattern_21 (by decide) ?_
    refine lv_goto (tgt := 27) hx hb d_M_rowPattern_22 (by decide) ?_
    exact wb_M_rowPattern_27 C0 hR N S hSg G hG _ _ _ _ _ _ hf H locs hP hD hS ls (lv_sub hl [1, 2, 3, 0] rfl)
def fb_M_rowPattern_0 (N : Nat) (S : SG_M_rowPattern) (G : (MS → Int32 → Int32 → Int32 → Int32 → Int32 → Int32 → Int32 → Option (MS × Int32))) (u : MS) (v1 : Int32) : Option (MS × Int32) := bnd (fm_M_isSign N u 2) (fun u16 r16 => br (decide (r16 = 0)) (fb_M_rowPattern_15 N S G u16 (v1) (r16) (5)) (fb_M_rowPattern_15 N S G u16 (v1) (r16) (3)))
set_option maxRecDepth 100000 in
set_option maxHeartbeats 4000000 in
theorem wb_M_rowPattern_0 {p : Program} {l : Launch} {e : Env} {R : Room} {s : State} {m : MethodId} {args : Array Value} {below : List Frame} {meth : Method} {c : Code} {D : va_G} {cl : List vw_C} {cB cI cJ cZ cS : ClassId} {A : Nat → Prop} {iM h0 : Nat} {ad : Nat → Nat} (C0 : MCx p s m args meth c b_M_rowPattern 9 (some .int) D cl cB cI cJ cZ cS iM A) {d : Nat} (hR : R = rg_M_rowPattern (d + 1)) (N : Nat) (S : SG_M_rowPattern) (hSg : HS_M_rowPattern l D cl cB cI cJ cZ cS iM h0 ad (rg_M_rowPattern d) S) (G : (MS → Int32 → Int32 → Int32 → Int32 → Int32 → Int32 → Int32 → Option (MS × Int32))) (hG : (∀ (u : MS) (v1 : Int32) (v2 : Int32) (v3 : Int32) (v4 : Int32) (v5 : Int32) (v6 : Int32) (v7 : Int32) (x : MS × Int32), G u v1 v2 v3 v4 v5 v6 v7 = some x → ∀ (H : Heap) (locs : List Loc), va_P D cl (wM cB cI cJ cZ cS iM h0 ad u) H → va_D A (wM cB cI cJ cZ cS iM h0 ad u) → va_S A s.heap H locs → ∀ (ls : Array Slot), lv_has ls 9 [(0, .ref h0), (1, .int v1), (2, .int v2), (3, .int v3), (4, .int v4), (5, .int v5), (6, .int v6), (7, .int v7)] → W p l e R s m args below meth c H locs 0 0 (MQ below (mQi D cl cB cI cJ cZ cS iM h0 ad A x) args s 0 0 A) (F0 m 66 ls []))) : ∀ (u : MS) (v1 : Int32) (x : MS × Int32), fb_M_rowPattern_0 N S G u v1 = some x → ∀ (H : Heap) (locs : List Loc), va_P D cl (wM cB cI cJ cZ cS iM h0 ad u) H → va_D A (wM cB cI cJ cZ cS iM h0 ad u) → va_S A s.heap H locs → ∀ (ls : Array Slot), lv_has ls 9 [(0, .ref h0), (1, .int v1)] → W p l e R s m args below meth c H locs 0 0 (MQ below (mQi D cl cB cI cJ cZ cS iM h0 ad A x) args s 0 0 A) (F0 m 0 ls []) := by
  intro u v1 x hf H locs hP hD hS ls hl
  obtain ⟨hx, hb, hr, hml, ht, hown, hM, hK, hA, hlocks⟩ := id C0
  unfold fb_M_rowPattern_0 at hf
  refine lv_aload_n hx hb d_M_rowPattern_0 rfl (lv_at hl 0 rfl) ?_
  refine lv_iconst (v := 2) hx hb d_M_rowPattern_1 (by decide) ?_
  obtain ⟨u16, r16, hc16, hf⟩ := bnd_some hf
  refine mV_i (As := [.int 2]) (rest := []) C0 hP hD hS (c_M_isSign N hM hc16) k_M_isSign hl_M_isSign hi_M_isSign hs_M_isSign hini_M rfl rfl hd_M_isSign rfl (rm_M_rowPattern_M_isSign hR) hl.1 (Nat.le_of_ble_eq_true rfl) d_M_rowPattern_2 rfl ⟨Nat.zero_le _, Nat.zero_le _⟩ (fun H locs hP hD hS => ?_)
  refine lv_istore_n (lv' := [(2, .int r16), (0, .ref h0), (1, .int v1)]) hx hb d_M_rowPattern_5 rfl hl (by decide) rfl (fun ls hl => ?_)
  refine lv_iload_n hx hb d_M_rowPattern_6 rfl (lv_at hl 0 rfl) ?_
  refine lv_if_eq (tgt := 14) hx hb d_M_rowPattern_7 (by decide) (fun hc => ?_) (fun hc => ?_)
  · rw [br_p _ hc] at hf
    refine lv_iconst (v := 5) hx hb d_M_rowPattern_14 (by decide) ?_
    exact wb_M_rowPattern_15 C0 hR N S hSg G hG _ _ _ _ _ hf H locs hP hD hS ls (lv_sub hl [1, 2, 0] rfl)
  · rw [br_n _ hc] at hf
    refine lv_iconst (v := 3) hx hb d_M_rowPattern_10 (by decide) ?_
    refine lv_goto (tgt := 15) hx hb d_M_rowPattern_11 (by decide) ?_
    exact wb_M_rowPattern_15 C0 hR N S hSg G hG _ _ _ _ _ hf H locs hP hD hS ls (lv_sub hl [1, 2, 0] rfl)
def gg_M_rowPattern (N : Nat) (S : SG_M_rowPattern) : Nat → ((MS → Int32 → Int32 → Int32 → Int32 → Int32 → Int32 → Int32 → Option (MS × Int32)))
  | 0 => fun _ _ _ _ _ _ _ _ => none
  | n + 1 => fb_M_rowPattern_66 N S (gg_M_rowPattern N S n)
theorem wg_M_rowPattern {p : Program} {l : Launch} {e : Env} {R : Room} {s : State} {m : MethodId} {args : Array Value} {below : List Frame} {meth : Method} {c : Code} {D : va_G} {cl : List vw_C} {cB cI cJ cZ cS : ClassId} {A : Nat → Prop} {iM h0 : Nat} {ad : Nat → Nat} (C0 : MCx p s m args meth c b_M_rowPattern 9 (some .int) D cl cB cI cJ cZ cS iM A) {d : Nat} (hR : R = rg_M_rowPattern (d + 1)) (N : Nat) (S : SG_M_rowPattern) (hSg : HS_M_rowPattern l D cl cB cI cJ cZ cS iM h0 ad (rg_M_rowPattern d) S) : ∀ n : Nat, (∀ (u : MS) (v1 : Int32) (v2 : Int32) (v3 : Int32) (v4 : Int32) (v5 : Int32) (v6 : Int32) (v7 : Int32) (x : MS × Int32), gg_M_rowPattern N S n u v1 v2 v3 v4 v5 v6 v7 = some x → ∀ (H : Heap) (locs : List Loc), va_P D cl (wM cB cI cJ cZ cS iM h0 ad u) H → va_D A (wM cB cI cJ cZ cS iM h0 ad u) → va_S A s.heap H locs → ∀ (ls : Array Slot), lv_has ls 9 [(0, .ref h0), (1, .int v1), (2, .int v2), (3, .int v3), (4, .int v4), (5, .int v5), (6, .int v6), (7, .int v7)] → W p l e R s m args below meth c H locs 0 0 (MQ below (mQi D cl cB cI cJ cZ cS iM h0 ad A x) args s 0 0 A) (F0 m 66 ls []))
  | 0 => (fun u v1 v2 v3 v4 v5 v6 v7 x hf => by cases hf)
  | n + 1 => wb_M_rowPattern_66 C0 hR N S hSg (gg_M_rowPattern N S n) (wg_M_rowPattern C0 hR N S hSg n)
def fm_M_rowPattern (N : Nat) (S : SG_M_rowPattern) (u : MS) (v1 : Int32) : Option (MS × Int32) := fb_M_rowPattern_0 N S (gg_M_rowPattern N S N) u v1
set_option maxRecDepth 100000 in
set_option maxHeartbeats 4000000 in
theorem cs_M_rowPattern (N : Nat) {d : Nat} {l : Launch} {D : va_G} {cl : List vw_C} {cB cI cJ cZ cS : ClassId} {iM h0 : Nat} {ad : Nat → Nat} {u : MS} {sz : Nat} {v1 : Int32} {x : MS × Int32} (hM : cl[iM]? = some (R_M, F_M, 171)) (S : SG_M_rowPattern) (hSg : HS_M_rowPattern l D cl cB cI cJ cZ cS iM h0 ad (rg_M_rowPattern d) S) (hf : fm_M_rowPattern N S u v1 = some x) : Met l y_M_rowPattern (wd_ws y_M_rowPattern b_M_rowPattern 9 (some .int)) (rg_M_rowPattern (d + 1)) (mPc D cl cB cI cJ cZ cS iM h0 ad u sz [.ref h0, .int v1]) (mQi D cl cB cI cJ cZ cS iM h0 ad (mA cB cI cJ cZ cS iM h0 ad u sz) x) 0 0 (mA cB cI cJ cZ cS iM h0 ad u sz) :=
  mMet (by decide) rfl hM (Nat.le_of_ble_eq_true rfl) (fun p e s m below meth c ls hsz C0 hP hD hS hl => by
    have hR : (rg_M_rowPattern (d + 1)) = (rg_M_rowPattern (d + 1)) := rfl
    exact wb_M_rowPattern_0 C0 hR N S hSg (gg_M_rowPattern N S N) (wg_M_rowPattern C0 hR N S hSg N) u _ x hf s.heap [] hP hD hS ls (lv_sub hl [0, 1] rfl))
theorem rm_M_patternAt_M_isSign {R : Room} {d : Nat} (hR : R = rg_M_rowPattern (d + 1)) : (rm_M_isSign).frames + 1 ≤ R.frames ∧ 8 + (2 + 11) + (rm_M_isSign).locals ≤ R.locals := by
  subst hR
  have h1 : (rm_M_isSign).frames = 0 := rfl
  have h2 : (rm_M_isSign).locals = 0 := rfl
  show (rm_M_isSign).frames + 1 ≤ 33 + (d + 1) ∧ 8 + (2 + 11) + (rm_M_isSign).locals ≤ 790 + 28 * (d + 1)
  omega
theorem rm_M_patternAt_M_wrong {R : Room} {d : Nat} (hR : R = rg_M_rowPattern (d + 1)) : (rm_M_wrong).frames + 1 ≤ R.frames ∧ 8 + (2 + 11) + (rm_M_wrong).locals ≤ R.locals := by
  subst hR
  have h1 : (rm_M_wrong).frames = 0 := rfl
  have h2 : (rm_M_wrong).locals = 0 := rfl
  show (rm_M_wrong).frames + 1 ≤ 33 + (d + 1) ∧ 8 + (2 + 11) + (rm_M_wrong).locals ≤ 790 + 28 * (d + 1)
  omega
theorem rm_M_patternAt_M_opens {R : Room} {d : Nat} (hR : R = rg_M_rowPattern (d + 1)) : (rm_M_opens).frames + 1 ≤ R.frames ∧ 8 + (1 + 11) + (rm_M_opens).locals ≤ R.locals := by
  subst hR
  have h1 : (rm_M_opens).frames = 1 := rfl
  have h2 : (rm_M_opens).locals = 21 := rfl
  show (rm_M_opens).frames + 1 ≤ 33 + (d + 1) ∧ 8 + (1 + 11) + (rm_M_opens).locals ≤ 790 + 28 * (d + 1)
  omega
theorem rm_M_patternAt_M_namePattern {R : Room} {d : Nat} (hR : R = rg_M_rowPattern (d + 1)) : (rm_M_namePattern).frames + 1 ≤ R.frames ∧ 8 + (4 + 11) + (rm_M_namePattern).locals ≤ R.locals := by
  subst hR
  have h1 : (rm_M_namePattern).frames = 32 := rfl
  have h2 : (rm_M_namePattern).locals = 767 := rfl
  show (rm_M_namePattern).frames + 1 ≤ 33 + (d + 1) ∧ 8 + (4 + 11) + (rm_M_namePattern).locals ≤ 790 + 28 * (d + 1)
  omega
theorem rm_M_patternAt_M_pattern {R : Room} {d : Nat} (hR : R = rg_M_rowPattern (d + 1)) : (rm_M_pattern).frames + 1 ≤ R.frames ∧ 8 + (2 + 11) + (rm_M_pattern).locals ≤ R.locals := by
  subst hR
  have h1 : (rm_M_pattern).frames = 0 := rfl
  have h2 : (rm_M_pattern).locals = 0 := rfl
  show (rm_M_pattern).frames + 1 ≤ 33 + (d + 1) ∧ 8 + (2 + 11) + (rm_M_pattern).locals ≤ 790 + 28 * (d + 1)
  omega
theorem rm_M_patternAt_M_term {R : Room} {d : Nat} (hR : R = rg_M_rowPattern (d + 1)) : (rm_M_term).frames + 1 ≤ R.frames ∧ 8 + (2 + 11) + (rm_M_term).locals ≤ R.locals := by
  subst hR
  have h1 : (rm_M_term).frames = 0 := rfl
  have h2 : (rm_M_term).locals = 0 := rfl
  show (rm_M_term).frames + 1 ≤ 33 + (d + 1) ∧ 8 + (2 + 11) + (rm_M_term).locals ≤ 790 + 28 * (d + 1)
  omega
theorem rm_M_patternAt_M_takeSign {R : Room} {d : Nat} (hR : R = rg_M_rowPattern (d + 1)) : (rm_M_takeSign).frames + 1 ≤ R.frames ∧ 8 + (2 + 11) + (rm_M_takeSign).locals ≤ R.locals := by
  subst hR
  have h1 : (rm_M_takeSign).frames = 1 := rfl
  have h2 : (rm_M_takeSign).locals = 21 := rfl
  show (rm_M_takeSign).frames + 1 ≤ 33 + (d + 1) ∧ 8 + (2 + 11) + (rm_M_takeSign).locals ≤ 790 + 28 * (d + 1)
  omega
theorem rm_M_patternAt_M_needSign {R : Room} {d : Nat} (hR : R = rg_M_rowPattern (d + 1)) : (rm_M_needSign).frames + 1 ≤ R.frames ∧ 8 + (2 + 11) + (rm_M_needSign).locals ≤ R.locals := by
  subst hR
  have h1 : (rm_M_needSign).frames = 2 := rfl
  have h2 : (rm_M_needSign).locals = 42 := rfl
  show (rm_M_needSign).frames + 1 ≤ 33 + (d + 1) ∧ 8 + (2 + 11) + (rm_M_needSign).locals ≤ 790 + 28 * (d + 1)
  omega
theorem rm_M_patternAt_M_patternAt {R : Room} {d : Nat} (hR : R = rg_M_rowPattern (d + 1)) : (rg_M_rowPattern d).frames + 1 ≤ R.frames ∧ 8 + (5 + 11) + (rg_M_rowPattern d).locals ≤ R.locals := by
  subst hR
  show 33 + d + 1 ≤ 33 + (d + 1) ∧ 8 + (5 + 11) + (790 + 28 * d) ≤ 790 + 28 * (d + 1)
  omega
theorem rm_M_patternAt_M_rowPattern {R : Room} {d : Nat} (hR : R = rg_M_rowPattern (d + 1)) : (rg_M_rowPattern d).frames + 1 ≤ R.frames ∧ 8 + (9 + 11) + (rg_M_rowPattern d).locals ≤ R.locals := by
  subst hR
  show 33 + d + 1 ≤ 33 + (d + 1) ∧ 8 + (9 + 11) + (790 + 28 * d) ≤ 790 + 28 * (d + 1)
  omega
def fb_M_patternAt_388 (N : Nat) (S : SG_M_rowPattern) (G : Unit) (u : MS) (v4 : Int32) : Option (MS × Int32) := lt (upI u 70 ((u.1 70) - 1)) (fun w1 => some (w1, v4))
set_option maxRecDepth 100000 in
set_option maxHeartbeats 4000000 in
theorem wb_M_patternAt_388 {p : Program} {l : Launch} {e : Env} {R : Room} {s : State} {m : MethodId} {args : Array Value} {below : List Frame} {meth : Method} {c : Code} {D : va_G} {cl : List vw_C} {cB cI cJ cZ cS : ClassId} {A : Nat → Prop} {iM h0 : Nat} {ad : Nat → Nat} (C0 : MCx p s m args meth c b_M_patternAt 5 (some .int) D cl cB cI cJ cZ cS iM A) {d : Nat} (hR : R = rg_M_rowPattern (d + 1)) (N : Nat) (S : SG_M_rowPattern) (hSg : HS_M_rowPattern l D cl cB cI cJ cZ cS iM h0 ad (rg_M_rowPattern d) S) (G : Unit) (hG : True) : ∀ (u : MS) (v4 : Int32) (x : MS × Int32), fb_M_patternAt_388 N S G u v4 = some x → ∀ (H : Heap) (locs : List Loc), va_P D cl (wM cB cI cJ cZ cS iM h0 ad u) H → va_D A (wM cB cI cJ cZ cS iM h0 ad u) → va_S A s.heap H locs → ∀ (ls : Array Slot), lv_has ls 5 [(0, .ref h0), (4, .int v4)] → W p l e R s m args below meth c H locs 0 0 (MQ below (mQi D cl cB cI cJ cZ cS iM h0 ad A x) args s 0 0 A) (F0 m 388 ls []) := by
  intro u v4 x hf H locs hP hD hS ls hl
  obtain ⟨hx, hb, hr, hml, ht, hown, hM, hK, hA, hlocks⟩ := id C0
  unfold fb_M_patternAt_388 at hf
  refine lv_aload_n hx hb d_M_patternAt_388 rfl (lv_at hl 0 rfl) ?_
  refine lv_dup hx hb d_M_patternAt_389 rfl ?_
  refine ug_I hx hb ht hown hM hK hP 70 (by decide) lk_M_70 (by decide) d_M_patternAt_390 ?_
  refine lv_iconst (v := 1) hx hb d_M_patternAt_393 (by decide) ?_
  refine lv_isub hx hb d_M_patternAt_394 ?_
  refine up_I hx hb ht hown hM hK hP hD hS 70 (by decide) lk_M_70 (by decide) rfl rfl rfl d_M_patternAt_395 (fun H locs hP hD hS => ?_)
  obtain ⟨w1, e1, hf⟩ := lt_some hf
  rw [← e1] at hP hD
  refine lv_iload hx hb d_M_patternAt_398 (lv_at hl 1 rfl) ?_
  exact mr_i C0 hP hD hS hf d_M_patternAt_400
def fb_M_patternAt_239 (N : Nat) (S : SG_M_rowPattern) (G : Unit) (u : MS) (v4 : Int32) (t0 : Nat) (t1 : Int32) (t2 : Int32) (t3 : Int32) : Option (MS × Int32) := bnd (fm_M_term N u t2 t3) (fun u2 r2 => ck (isK t0 5) (ck (inb t1 (ln t0)) (lt (upJ u2 t0 (vp_updL (u2.2.2.2 t0) t1.toNatClampNeg r2)) (fun w3 => lt (upI w3 69 ((w3.1 69) + 1)) (fun w4 => fb_M_patternAt_388 N S G w4 (v4))))))
set_option maxRecDepth 100000 in
set_option maxHeartbeats 4000000 in
theorem wb_M_patternAt_239 {p : Program} {l : Launch} {e : Env} {R : Room} {s : State} {m : MethodId} {args : Array Value} {below : List Frame} {meth : Method} {c : Code} {D : va_G} {cl : List vw_C} {cB cI cJ cZ cS : ClassId} {A : Nat → Prop} {iM h0 : Nat} {ad : Nat → Nat} (C0 : MCx p s m args meth c b_M_patternAt 5 (some .int) D cl cB cI cJ cZ cS iM A) {d : Nat} (hR : R = rg_M_rowPattern (d + 1)) (N : Nat) (S : SG_M_rowPattern) (hSg : HS_M_rowPattern l D cl cB cI cJ cZ cS iM h0 ad (rg_M_rowPattern d) S) (G : Unit) (hG : True) : ∀ (u : MS) (v4 : Int32) (t0 : Nat) (t1 : Int32) (t2 : Int32) (t3 : Int32) (x : MS × Int32), fb_M_patternAt_239 N S G u v4 t0 t1 t2 t3 = some x → ∀ (H : Heap) (locs : List Loc), va_P D cl (wM cB cI cJ cZ cS iM h0 ad u) H → va_D A (wM cB cI cJ cZ cS iM h0 ad u) → va_S A s.heap H locs → ∀ (ls : Array Slot), lv_has ls 5 [(0, .ref h0), (4, .int v4)] → W p l e R s m args below meth c H locs 0 0 (MQ below (mQi D cl cB cI cJ cZ cS iM h0 ad A x) args s 0 0 A) (F0 m 239 ls [.int t3, .int t2, .int t1, .ref (ad t0)]) := by
  intro u v4 t0 t1 t2 t3 x hf H locs hP hD hS ls hl
  obtain ⟨hx, hb, hr, hml, ht, hown, hM, hK, hA, hlocks⟩ := id C0
  unfold fb_M_patternAt_239 at hf
  obtain ⟨u2, r2, hc2, hf⟩ := bnd_some hf
  refine mS_l (As := [.int t2, .int t3]) (rest := [.int t1, .ref (ad t0)]) C0 hP hD hS (c_M_term N hM hc2) k_M_term hl_M_term ht_M_term hini_M rfl rfl hd_M_term rfl (rm_M_patternAt_M_term hR) hl.1 (Nat.le_of_ble_eq_true rfl) d_M_patternAt_239 rfl ⟨Nat.zero_le _, Nat.zero_le _⟩ (fun H locs hP hD hS => ?_)
  obtain ⟨hk9, hf⟩ := ck_some hf
  obtain ⟨hi9, hf⟩ := ck_some hf
  refine us_J hx hb hK hP hD hS (isK_1 hk9) (isK_2 hk9) hi9 d_M_patternAt_242 (fun H locs hP hD hS => ?_)
  obtain ⟨w3, e3, hf⟩ := lt_some hf
  rw [← e3] at hP hD
  refine lv_aload_n hx hb d_M_patternAt_243 rfl (lv_at hl 0 rfl) ?_
  refine lv_dup hx hb d_M_patternAt_244 rfl ?_
  refine ug_I hx hb ht hown hM hK hP 69 (by decide) lk_M_69 (by decide) d_M_patternAt_245 ?_
  refine lv_iconst (v := 1) hx hb d_M_patternAt_248 (by decide) ?_
  refine lv_iadd hx hb d_M_patternAt_249 ?_
  refine up_I hx hb ht hown hM hK hP hD hS 69 (by decide) lk_M_69 (by decide) rfl rfl rfl d_M_patternAt_250 (fun H locs hP hD hS => ?_)
  obtain ⟨w4, e4, hf⟩ := lt_some hf
  rw [← e4] at hP hD
  refine lv_goto (tgt := 388) hx hb d_M_patternAt_253 (by decide) ?_
  exact wb_M_patternAt_388 C0 hR N S hSg G hG _ _ _ hf H locs hP hD hS ls (lv_sub hl [0, 1] rfl)
def fb_M_patternAt_199 (N : Nat) (S : SG_M_rowPattern) (G : Unit) (u : MS) (v2 : Int32) : Option (MS × Int32) := bnd (fm_M_pattern N u 3) (fun u5 r5 => br (decide (v2 = 0)) (ck (inb (u5.1 69) (ln 7)) (fb_M_patternAt_239 N S G u5 (r5) (34) (r5) (0) ((u5.2.2.1 7 (u5.1 69).toNatClampNeg)))) (ck (inb (u5.1 69) (ln 7)) (fb_M_patternAt_239 N S G u5 (r5) (34) (r5) (0) ((-(u5.2.2.1 7 (u5.1 69).toNatClampNeg))))))
set_option maxRecDepth 100000 in
set_option maxHeartbeats 4000000 in
theorem wb_M_patternAt_199 {p : Program} {l : Launch} {e : Env} {R : Room} {s : State} {m : MethodId} {args : Array Value} {below : List Frame} {meth : Method} {c : Code} {D : va_G} {cl : List vw_C} {cB cI cJ cZ cS : ClassId} {A : Nat → Prop} {iM h0 : Nat} {ad : Nat → Nat} (C0 : MCx p s m args meth c b_M_patternAt 5 (some .int) D cl cB cI cJ cZ cS iM A) {d : Nat} (hR : R = rg_M_rowPattern (d + 1)) (N : Nat) (S : SG_M_rowPattern) (hSg : HS_M_rowPattern l D cl cB cI cJ cZ cS iM h0 ad (rg_M_rowPattern d) S) (G : Unit) (hG : True) : ∀ (u : MS) (v2 : Int32) (x : MS × Int32), fb_M_patternAt_199 N S G u v2 = some x → ∀ (H : Heap) (locs : List Loc), va_P D cl (wM cB cI cJ cZ cS iM h0 ad u) H → va_D A (wM cB cI cJ cZ cS iM h0 ad u) → va_S A s.heap H locs → ∀ (ls : Array Slot), lv_has ls 5 [(0, .ref h0), (2, .int v2)] → W p l e R s m args below meth c H locs 0 0 (MQ below (mQi D cl cB cI cJ cZ cS iM h0 ad A x) args s 0 0 A) (F0 m 199 ls []) := by
  intro u v2 x hf H locs hP hD hS ls hl
  obtain ⟨hx, hb, hr, hml, ht, hown, hM, hK, hA, hlocks⟩ := id C0
  unfold fb_M_patternAt_199 at hf
  refine lv_aload_n hx hb d_M_patternAt_199 rfl (lv_at hl 0 rfl) ?_
  refine lv_iconst (v := 3) hx hb d_M_patternAt_200 (by decide) ?_
  obtain ⟨u5, r5, hc5, hf⟩ := bnd_some hf
  refine mV_i (As := [.int 3]) (rest := []) C0 hP hD hS (c_M_pattern N hM hc5) k_M_pattern hl_M_pattern hi_M_pattern hs_M_pattern hini_M rfl rfl hd_M_pattern rfl (rm_M_patternAt_M_pattern hR) hl.1 (Nat.le_of_ble_eq_true rfl) d_M_patternAt_201 rfl ⟨Nat.zero_le _, Nat.zero_le _⟩ (fun H locs hP hD hS => ?_)
  refine lv_istore (lv' := [(4, .int r5), (0, .ref h0), (2, .int v2)]) hx hb d_M_patternAt_204 hl (by decide) rfl (fun ls hl => ?_)
  refine lv_aload_n hx hb d_M_patternAt_206 rfl (lv_at hl 1 rfl) ?_
  refine ug_R hx hb ht hown hM hK hP 34 (by decide) lk_M_34 (by decide) d_M_patternAt_207 ?_
  refine lv_iload hx hb d_M_patternAt_210 (lv_at hl 0 rfl) ?_
  refine lv_iconst (v := 0) hx hb d_M_patternAt_212 (by decide) ?_
  refine lv_iload_n hx hb d_M_patternAt_213 rfl (lv_at hl 2 rfl) ?_
  refine lv_if_eq (tgt := 230) hx hb d_M_patternAt_214 (by decide) (fun hc => ?_) (fun hc => ?_)
  · rw [br_p _ hc] at hf
    refine lv_aload_n hx hb d_M_patternAt_230 rfl (lv_at hl 1 rfl) ?_
    refine ug_R hx hb ht hown hM hK hP 7 (by decide) lk_M_7 (by decide) d_M_patternAt_231 ?_
    refine lv_aload_n hx hb d_M_patternAt_234 rfl (lv_at hl 1 rfl) ?_
    refine ug_I hx hb ht hown hM hK hP 69 (by decide) lk_M_69 (by decide) d_M_patternAt_235 ?_
    obtain ⟨hi9, hf⟩ := ck_some hf
    refine ul_I hx hb hK hP (by decide) (by decide) hi9 d_M_patternAt_238 ?_
    exact wb_M_patternAt_239 C0 hR N S hSg G hG _ _ _ _ _ _ _ hf H locs hP hD hS ls (lv_sub hl [1, 0] rfl)
  · rw [br_n _ hc] at hf
    refine lv_aload_n hx hb d_M_patternAt_217 rfl (lv_at hl 1 rfl) ?_
    refine ug_R hx hb ht hown hM hK hP 7 (by decide) lk_M_7 (by decide) d_M_patternAt_218 ?_
    refine lv_aload_n hx hb d_M_patternAt_221 rfl (lv_at hl 1 rfl) ?_
    refine ug_I hx hb ht hown hM hK hP 69 (by decide) lk_M_69 (by decide) d_M_patternAt_222 ?_
    obtain ⟨hi9, hf⟩ := ck_some hf
    refine ul_I hx hb hK hP (by decide) (by decide) hi9 d_M_patternAt_225 ?_
    refine lv_ineg hx hb d_M_patternAt_226 ?_
    refine lv_goto (tgt := 239) hx hb d_M_patternAt_227 (by decide) ?_
    exact wb_M_patternAt_239 C0 hR N S hSg G hG _ _ _ _ _ _ _ hf H locs hP hD hS ls (lv_sub hl [1, 0] rfl)
def fb_M_patternAt_178 (N : Nat) (S : SG_M_rowPattern) (G : Unit) (u : MS) (v2 : Int32) (t1 : Int32) : Option (MS × Int32) := lt (upI u 69 t1) (fun w6 => ck (inb (w6.1 69) (ln 6)) (br (decide ((w6.2.2.1 6 (w6.1 69).toNatClampNeg) = 4)) (fb_M_patternAt_199 N S G w6 (v2)) (bnd (fm_M_wrong N w6 2) (fun u7 _ => fb_M_patternAt_199 N S G u7 (v2)))))
set_option maxRecDepth 100000 in
set_option maxHeartbeats 4000000 in
theorem wb_M_patternAt_178 {p : Program} {l : Launch} {e : Env} {R : Room} {s : State} {m : MethodId} {args : Array Value} {below : List Frame} {meth : Method} {c : Code} {D : va_G} {cl : List vw_C} {cB cI cJ cZ cS : ClassId} {A : Nat → Prop} {iM h0 : Nat} {ad : Nat → Nat} (C0 : MCx p s m args meth c b_M_patternAt 5 (some .int) D cl cB cI cJ cZ cS iM A) {d : Nat} (hR : R = rg_M_rowPattern (d + 1)) (N : Nat) (S : SG_M_rowPattern) (hSg : HS_M_rowPattern l D cl cB cI cJ cZ cS iM h0 ad (rg_M_rowPattern d) S) (G : Unit) (hG : True) : ∀ (u : MS) (v2 : Int32) (t1 : Int32) (x : MS × Int32), fb_M_patternAt_178 N S G u v2 t1 = some x → ∀ (H : Heap) (locs : List Loc), va_P D cl (wM cB cI cJ cZ cS iM h0 ad u) H → va_D A (wM cB cI cJ cZ cS iM h0 ad u) → va_S A s.heap H locs → ∀ (ls : Array Slot), lv_has ls 5 [(0, .ref h0), (2, .int v2)] → W p l e R s m args below meth c H locs 0 0 (MQ below (mQi D cl cB cI cJ cZ cS iM h0 ad A x) args s 0 0 A) (F0 m 178 ls [.int t1, .ref h0]) := by
  intro u v2 t1 x hf H locs hP hD hS ls hl
  obtain ⟨hx, hb, hr, hml, ht, hown, hM, hK, hA, hlocks⟩ := id C0
  unfold fb_M_patternAt_178 at hf
  refine up_I hx hb ht hown hM hK hP hD hS 69 (by decide) lk_M_69 (by decide) rfl rfl rfl d_M_patternAt_178 (fun H locs hP hD hS => ?_)
  obtain ⟨w6, e6, hf⟩ := lt_some hf
  rw [← e6] at hP hD
  refine lv_aload_n hx hb d_M_patternAt_181 rfl (lv_at hl 0 rfl) ?_
  refine ug_R hx hb ht hown hM hK hP 6 (by decide) lk_M_6 (by decide) d_M_patternAt_182 ?_
  refine lv_aload_n hx hb d_M_patternAt_185 rfl (lv_at hl 0 rfl) ?_
  refine ug_I hx hb ht hown hM hK hP 69 (by decide) lk_M_69 (by decide) d_M_patternAt_186 ?_
  obtain ⟨hi9, hf⟩ := ck_some hf
  refine ul_B hx hb hK hP (by decide) (by decide) hi9 d_M_patternAt_189 ?_
  refine lv_iconst (v := 4) hx hb d_M_patternAt_190 (by decide) ?_
  refine lv_icmp_eq (tgt := 199) hx hb d_M_patternAt_191 (by decide) (fun hc => ?_) (fun hc => ?_)
  · rw [br_p _ hc] at hf
    exact wb_M_patternAt_199 C0 hR N S hSg G hG _ _ _ hf H locs hP hD hS ls (lv_sub hl [0, 1] rfl)
  · rw [br_n _ hc] at hf
    refine lv_aload_n hx hb d_M_patternAt_194 rfl (lv_at hl 0 rfl) ?_
    refine lv_iconst (v := 2) hx hb d_M_patternAt_195 (by decide) ?_
    obtain ⟨u7, r7, hc7, hf⟩ := bnd_some hf
    refine mV_v (As := [.int 2]) (rest := []) C0 hP hD hS (c_M_wrong N hM hc7) k_M_wrong hl_M_wrong hi_M_wrong hs_M_wrong hini_M rfl rfl hd_M_wrong rfl (rm_M_patternAt_M_wrong hR) hl.1 (Nat.le_of_ble_eq_true rfl) d_M_patternAt_196 rfl ⟨Nat.zero_le _, Nat.zero_le _⟩ (fun H locs hP hD hS => ?_)
    exact wb_M_patternAt_199 C0 hR N S hSg G hG _ _ _ hf H locs hP hD hS ls (lv_sub hl [0, 1] rfl)
def fb_M_patternAt_160 (N : Nat) (S : SG_M_rowPattern) (G : Unit) (u : MS) (v2 : Int32) : Option (MS × Int32) := br (decide (v2 = 0)) (fb_M_patternAt_178 N S G u (v2) ((u.1 69))) (fb_M_patternAt_178 N S G u (v2) (((u.1 69) + 1)))
set_option maxRecDepth 100000 in
set_option maxHeartbeats 4000000 in
theorem wb_M_patternAt_160 {p : Program} {l : Launch} {e : Env} {R : Room} {s : State} {m : MethodId} {args : Array Value} {below : List Frame} {meth : Method} {c : Code} {D : va_G} {cl : List vw_C} {cB cI cJ cZ cS : ClassId} {A : Nat → Prop} {iM h0 : Nat} {ad : Nat → Nat} (C0 : MCx p s m args meth c b_M_patternAt 5 (some .int) D cl cB cI cJ cZ cS iM A) {d : Nat} (hR : R = rg_M_rowPattern (d + 1)) (N : Nat) (S : SG_M_rowPattern) (hSg : HS_M_rowPattern l D cl cB cI cJ cZ cS iM h0 ad (rg_M_rowPattern d) S) (G : Unit) (hG : True) : ∀ (u : MS) (v2 : Int32) (x : MS × Int32), fb_M_patternAt_160 N S G u v2 = some x → ∀ (H : Heap) (locs : List Loc), va_P D cl (wM cB cI cJ cZ cS iM h0 ad u) H → va_D A (wM cB cI cJ cZ cS iM h0 ad u) → va_S A s.heap H locs → ∀ (ls : Array Slot), lv_has ls 5 [(0, .ref h0), (2, .int v2)] → W p l e R s m args below meth c H locs 0 0 (MQ below (mQi D cl cB cI cJ cZ cS iM h0 ad A x) args s 0 0 A) (F0 m 160 ls []) := by
  intro u v2 x hf H locs hP hD hS ls hl
  obtain ⟨hx, hb, hr, hml, ht, hown, hM, hK, hA, hlocks⟩ := id C0
  unfold fb_M_patternAt_160 at hf
  refine lv_aload_n hx hb d_M_patternAt_160 rfl (lv_at hl 0 rfl) ?_
  refine lv_iload_n hx hb d_M_patternAt_161 rfl (lv_at hl 1 rfl) ?_
  refine lv_if_eq (tgt := 174) hx hb d_M_patternAt_162 (by decide) (fun hc => ?_) (fun hc => ?_)
  · rw [br_p _ hc] at hf
    refine lv_aload_n hx hb d_M_patternAt_174 rfl (lv_at hl 0 rfl) ?_
    refine ug_I hx hb ht hown hM hK hP 69 (by decide) lk_M_69 (by decide) d_M_patternAt_175 ?_
    exact wb_M_patternAt_178 C0 hR N S hSg G hG _ _ _ _ hf H locs hP hD hS ls (lv_sub hl [0, 1] rfl)
  · rw [br_n _ hc] at hf
    refine lv_aload_n hx hb d_M_patternAt_165 rfl (lv_at hl 0 rfl) ?_
    refine ug_I hx hb ht hown hM hK hP 69 (by decide) lk_M_69 (by decide) d_M_patternAt_166 ?_
    refine lv_iconst (v := 1) hx hb d_M_patternAt_169 (by decide) ?_
    refine lv_iadd hx hb d_M_patternAt_170 ?_
    refine lv_goto (tgt := 178) hx hb d_M_patternAt_171 (by decide) ?_
    exact wb_M_patternAt_178 C0 hR N S hSg G hG _ _ _ _ hf H locs hP hD hS ls (lv_sub hl [0, 1] rfl)
def fb_M_patternAt_101 (N : Nat) (S : SG_M_rowPattern) (G : Unit) (u : MS) (v1 : Int32) (v2 : Int32) (t0 : Int32) : Option (MS × Int32) := br (decide (t0 = 0)) (bnd (fm_M_wrong N u 2) (fun u21 _ => some (u21, (-1)))) (bnd (fm_M_opens N u) (fun u8 _ => ck (inb (u8.1 69) (ln 6)) (br (decide ((u8.2.2.1 6 (u8.1 69).toNatClampNeg) = 2)) (bnd (fm_M_namePattern N u8 v1) (fun u20 r20 => fb_M_patternAt_388 N S G u20 (r20))) (br (decide (v2 = 0)) (ck (inb (u8.1 69) (ln 6)) (br (decide ((u8.2.2.1 6 (u8.1 69).toNatClampNeg) = 4)) (fb_M_patternAt_160 N S G u8 (v2)) (ck (inb (u8.1 69) (ln 6)) (br (decide ((u8.2.2.1 6 (u8.1 69).toNatClampNeg) = 1)) (bnd (fm_M_pattern N u8 3) (fun u16 r16 => ck (inb (u16.1 69) (ln 7)) (bnd (fm_M_term N u16 1 (u16.2.2.1 7 (u16.1 69).toNatClampNeg)) (fun u17 r17 => ck (inb r16 (ln 34)) (lt (upJ u17 34 (vp_updL (u17.2.2.2 34) r16.toNatClampNeg r17)) (fun w18 => lt (upI w18 69 ((w18.1 69) + 1)) (fun w19 => fb_M_patternAt_388 N S G w19 (r16)))))))) (ck (inb (u8.1 69) (ln 6)) (br (decide ((u8.2.2.1 6 (u8.1 69).toNatClampNeg) = 5)) (bnd (fm_M_pattern N u8 4) (fun u13 r13 => ck (inb (u13.1 69) (ln 7)) (ck (inb r13 (ln 35)) (lt (upA u13 35 (upd (u13.2.2.1 35) r13.toNatClampNeg (u13.2.2.1 7 (u13.1 69).toNatClampNeg))) (fun w14 => lt (upI w14 69 ((w14.1 69) + 1)) (fun w15 => fb_M_patternAt_388 N S G w15 (r13))))))) (bnd (fm_M_takeSign N u8 0) (fun u9 r9 => br (decide (r9 = 0)) (bnd (S.1 u9 v1) (fun u10 r10 => fb_M_patternAt_388 N S G u10 (r10))) (bnd (S.2 u9 v1) (fun u11 r11 => bnd (fm_M_needSign N u11 1) (fun u12 _ => fb_M_patternAt_388 N S G u12 (r11)))))))))))) (fb_M_patternAt_160 N S G u8 (v2))))))
set_option maxRecDepth 100000 in
set_option maxHeartbeats 4000000 in
theorem wb_M_patternAt_101 {p : Program} {l : Launch} {e : Env} {R : Room} {s : State} {m : MethodId} {args : Array Value} {below : List Frame} {meth : Method} {c : Code} {D : va_G} {cl : List vw_C} {cB cI cJ cZ cS : ClassId} {A : Nat → Prop} {iM h0 : Nat} {ad : Nat → Nat} (C0 : MCx p s m args meth c b_M_patternAt 5 (some .int) D cl cB cI cJ cZ cS iM A) {d : Nat} (hR : R = rg_M_rowPattern (d + 1)) (N : Nat) (S : SG_M_rowPattern) (hSg : HS_M_rowPattern l D cl cB cI cJ cZ cS iM h0 ad (rg_M_rowPattern d) S) (G : Unit) (hG : True) : ∀ (u : MS) (v1 : Int32) (v2 : Int32) (t0 : Int32) (x : MS × Int32), fb_M_patternAt_101 N S G u v1 v2 t0 = some x → ∀ (H : Heap) (locs : List Loc), va_P D cl (wM cB cI cJ cZ cS iM h0 ad u) H → va_D A (wM cB cI cJ cZ cS iM h0 ad u) → va_S A s.heap H locs → ∀ (ls : Array Slot), lv_has ls 5 [(0, .ref h0), (1, .int v1), (2, .int v2)] → W p l e R s m args below meth c H locs 0 0 (MQ below (mQi D cl cB cI cJ cZ cS iM h0 ad A x) args s 0 0 A) (F0 m 101 ls [.int t0]) := by
  intro u v1 v2 t0 x hf H locs hP hD hS ls hl
  obtain ⟨hx, hb, hr, hml, ht, hown, hM, hK, hA, hlocks⟩ := id C0
  unfold fb_M_patternAt_101 at hf
  refine lv_istore_n (lv' := [(3, .int t0), (0, .ref h0), (1, .int v1), (2, .int v2)]) hx hb d_M_patternAt_101 rfl hl (by decide) rfl (fun ls hl => ?_)
  refine lv_iload_n hx hb d_M_patternAt_102 rfl (lv_at hl 0 rfl) ?_
  refine lv_if_ne (tgt := 113) hx hb d_M_patternAt_103 (by decide) (fun hc => ?_) (fun hc => ?_)
  · rw [br_n _ hc] at hf
    refine lv_aload_n hx hb d_M_patternAt_113 rfl (lv_at hl 1 rfl) ?_
    obtain ⟨u8, r8, hc8, hf⟩ := bnd_some hf
    refine mV_v (As := []) (rest := []) C0 hP hD hS (c_M_opens N hM hc8) k_M_opens hl_M_opens hi_M_opens hs_M_opens hini_M rfl rfl hd_M_opens rfl (rm_M_patternAt_M_opens hR) hl.1 (Nat.le_of_ble_eq_true rfl) d_M_patternAt_114 rfl ⟨Nat.zero_le _, Nat.zero_le _⟩ (fun H locs hP hD hS => ?_)
    refine lv_iconst (v := (-1)) hx hb d_M_patternAt_117 (by decide) ?_
    refine lv_istore (lv' := [(4, .int (-1)), (3, .int t0), (0, .ref h0), (1, .int v1), (2, .int v2)]) hx hb d_M_patternAt_118 hl (by decide) rfl (fun ls hl => ?_)
    refine lv_aload_n hx hb d_M_patternAt_120 rfl (lv_at hl 2 rfl) ?_
    refine ug_R hx hb ht hown hM hK hP 6 (by decide) lk_M_6 (by decide) d_M_patternAt_121 ?_
    refine lv_aload_n hx hb d_M_patternAt_124 rfl (lv_at hl 2 rfl) ?_
    refine ug_I hx hb ht hown hM hK hP 69 (by decide) lk_M_69 (by decide) d_M_patternAt_125 ?_
    obtain ⟨hi9, hf⟩ := ck_some hf
    refine ul_B hx hb hK hP (by decide) (by decide) hi9 d_M_patternAt_128 ?_
    refine lv_iconst (v := 2) hx hb d_M_patternAt_129 (by decide) ?_
    refine lv_icmp_ne (tgt := 143) hx hb d_M_patternAt_130 (by decide) (fun hc => ?_) (fun hc => ?_)
    · rw [br_n _ hc] at hf
      refine lv_iload_n hx hb d_M_patternAt_143 rfl (lv_at hl 4 rfl) ?_
      refine lv_if_ne (tgt := 160) hx hb d_M_patternAt_144 (by decide) (fun hc => ?_) (fun hc => ?_)
      · rw [br_n _ hc] at hf
        exact wb_M_patternAt_160 C0 hR N S hSg G hG _ _ _ hf H locs hP hD hS ls (lv_sub hl [2, 4] rfl)
      · rw [br_p _ hc] at hf
        refine lv_aload_n hx hb d_M_patternAt_147 rfl (lv_at hl 2 rfl) ?_
        refine ug_R hx hb ht hown hM hK hP 6 (by decide) lk_M_6 (by decide) d_M_patternAt_148 ?_
        refine lv_aload_n hx hb d_M_patternAt_151 rfl (lv_at hl 2 rfl) ?_
        refine ug_I hx hb ht hown hM hK hP 69 (by decide) lk_M_69 (by decide) d_M_patternAt_152 ?_
        obtain ⟨hi9, hf⟩ := ck_some hf
        refine ul_B hx hb hK hP (by decide) (by decide) hi9 d_M_patternAt_155 ?_
        refine lv_iconst (v := 4) hx hb d_M_patternAt_156 (by decide) ?_
        refine lv_icmp_ne (tgt := 256) hx hb d_M_patternAt_157 (by decide) (fun hc => ?_) (fun hc => ?_)
        · rw [br_n _ hc] at hf
          refine lv_aload_n hx hb d_M_patternAt_256 rfl (lv_at hl 2 rfl) ?_
          refine ug_R hx hb ht hown hM hK hP 6 (by decide) lk_M_6 (by decide) d_M_patternAt_257 ?_
          refine lv_aload_n hx hb d_M_patternAt_260 rfl (lv_at hl 2 rfl) ?_
          refine ug_I hx hb ht hown hM hK hP 69 (by decide) lk_M_69 (by decide) d_M_patternAt_261 ?_
          obtain ⟨hi9, hf⟩ := ck_some hf
          refine ul_B hx hb hK hP (by decide) (by decide) hi9 d_M_patternAt_264 ?_
          refine lv_iconst (v := 1) hx hb d_M_patternAt_265 (by decide) ?_
          refine lv_icmp_ne (tgt := 309) hx hb d_M_patternAt_266 (by decide) (fun hc => ?_) (fun hc => ?_)
          · rw [br_n _ hc] at hf
            refine lv_aload_n hx hb d_M_patternAt_309 rfl (lv_at hl 2 rfl) ?_
            refine ug_R hx hb ht hown hM hK hP 6 (by decide) lk_M_6 (by decide) d_M_patternAt_310 ?_
            refine lv_aload_n hx hb d_M_patternAt_313 rfl (lv_at hl 2 rfl) ?_
            refine ug_I hx hb ht hown hM hK hP 69 (by decide) lk_M_69 (by decide) d_M_patternAt_314 ?_
            obtain ⟨hi9, hf⟩ := ck_some hf
            refine ul_B hx hb hK hP (by decide) (by decide) hi9 d_M_patternAt_317 ?_
            refine lv_iconst (v := 5) hx hb d_M_patternAt_318 (by decide) ?_
            refine lv_icmp_ne (tgt := 358) hx hb d_M_patternAt_319 (by decide) (fun hc => ?_) (fun hc => ?_)
            · rw [br_n _ hc] at hf
              refine lv_aload_n hx hb d_M_patternAt_358 rfl (lv_at hl 2 rfl) ?_
              refine lv_iconst (v := 0) hx hb d_M_patternAt_359 (by decide) ?_
              obtain ⟨u9, r9, hc9, hf⟩ := bnd_some hf
              refine mV_i (As := [.int 0]) (rest := []) C0 hP hD hS (c_M_takeSign N hM hc9) k_M_takeSign hl_M_takeSign hi_M_takeSign hs_M_takeSign hini_M rfl rfl hd_M_takeSign rfl (rm_M_patternAt_M_takeSign hR) hl.1 (Nat.le_of_ble_eq_true rfl) d_M_patternAt_360 rfl ⟨Nat.zero_le _, Nat.zero_le _⟩ (fun H locs hP hD hS => ?_)
              refine lv_if_eq (tgt := 381) hx hb d_M_patternAt_363 (by decide) (fun hc => ?_) (fun hc => ?_)
              · rw [br_p _ hc] at hf
                refine lv_aload_n hx hb d_M_patternAt_381 rfl (lv_at hl 2 rfl) ?_
                refine lv_iload_n hx hb d_M_patternAt_382 rfl (lv_at hl 3 rfl) ?_
                obtain ⟨u10, r10, hc10, hf⟩ := bnd_some hf
                refine mV_i (As := [.int v1]) (rest := []) C0 hP hD hS (hSg.1 _ _ _ _ hc10) k_M_rowPattern hl_M_rowPattern hi_M_rowPattern hs_M_rowPattern hini_M rfl rfl hd_M_rowPattern rfl (rm_M_patternAt_M_rowPattern hR) hl.1 (Nat.le_of_ble_eq_true rfl) d_M_patternAt_383 rfl ⟨Nat.zero_le _, Nat.zero_le _⟩ (fun H locs hP hD hS => ?_)
                refine lv_istore (lv' := [(4, .int r10), (3, .int t0), (0, .ref h0), (1, .int v1), (2, .int v2)]) hx hb d_M_patternAt_386 hl (by decide) rfl (fun ls hl => ?_)
                exact wb_M_patternAt_388 C0 hR N S hSg G hG _ _ _ hf H locs hP hD hS ls (lv_sub hl [2, 0] rfl)
              · rw [br_n _ hc] at hf
                refine lv_aload_n hx hb d_M_patternAt_366 rfl (lv_at hl 2 rfl) ?_
                refine lv_iload_n hx hb d_M_patternAt_367 rfl (lv_at hl 3 rfl) ?_
                obtain ⟨u11, r11, hc11, hf⟩ := bnd_some hf
                refine mV_i (As := [.int v1]) (rest := []) C0 hP hD hS (hSg.2 _ _ _ _ hc11) k_M_patternAt hl_M_patternAt hi_M_patternAt hs_M_patternAt hini_M rfl rfl hd_M_patternAt rfl (rm_M_patternAt_M_patternAt hR) hl.1 (Nat.le_of_ble_eq_true rfl) d_M_patternAt_368 rfl ⟨Nat.zero_le _, Nat.zero_le _⟩ (fun H locs hP hD hS => ?_)
                refine lv_istore (lv' := [(4, .int r11), (3, .int t0), (0, .ref h0), (1, .int v1), (2, .int v2)]) hx hb d_M_patternAt_371 hl (by decide) rfl (fun ls hl => ?_)
                refine lv_aload_n hx hb d_M_patternAt_373 rfl (lv_at hl 2 rfl) ?_
                refine lv_iconst (v := 1) hx hb d_M_patternAt_374 (by decide) ?_
                obtain ⟨u12, r12, hc12, hf⟩ := bnd_some hf
                refine mV_v (As := [.int 1]) (rest := []) C0 hP hD hS (c_M_needSign N hM hc12) k_M_needSign hl_M_needSign hi_M_needSign hs_M_needSign hini_M rfl rfl hd_M_needSign rfl (rm_M_patternAt_M_needSign hR) hl.1 (Nat.le_of_ble_eq_true rfl) d_M_patternAt_375 rfl ⟨Nat.zero_le _, Nat.zero_le _⟩ (fun H locs hP hD hS => ?_)
                refine lv_goto (tgt := 388) hx hb d_M_patternAt_378 (by decide) ?_
                exact wb_M_patternAt_388 C0 hR N S hSg G hG _ _ _ hf H locs hP hD hS ls (lv_sub hl [2, 0] rfl)
            · rw [br_p _ hc] at hf
              refine lv_aload_n hx hb d_M_patternAt_322 rfl (lv_at hl 2 rfl) ?_
              refine lv_iconst (v := 4) hx hb d_M_patternAt_323 (by decide) ?_
              obtain ⟨u13, r13, hc13, hf⟩ := bnd_some hf
              refine mV_i (As := [.int 4]) (rest := []) C0 hP hD hS (c_M_pattern N hM hc13) k_M_pattern hl_M_pattern hi_M_pattern hs_M_pattern hini_M rfl rfl hd_M_pattern rfl (rm_M_patternAt_M_pattern hR) hl.1 (Nat.le_of_ble_eq_true rfl) d_M_patternAt_324 rfl ⟨Nat.zero_le _, Nat.zero_le _⟩ (fun H locs hP hD hS => ?_)
              refine lv_istore (lv' := [(4, .int r13), (3, .int t0), (0, .ref h0), (1, .int v1), (2, .int v2)]) hx hb d_M_patternAt_327 hl (by decide) rfl (fun ls hl => ?_)
              refine lv_aload_n hx hb d_M_patternAt_329 rfl (lv_at hl 2 rfl) ?_
              refine ug_R hx hb ht hown hM hK hP 35 (by decide) lk_M_35 (by decide) d_M_patternAt_330 ?_
              refine lv_iload hx hb d_M_patternAt_333 (lv_at hl 0 rfl) ?_
              refine lv_aload_n hx hb d_M_patternAt_335 rfl (lv_at hl 2 rfl) ?_
              refine ug_R hx hb ht hown hM hK hP 7 (by decide) lk_M_7 (by decide) d_M_patternAt_336 ?_
              refine lv_aload_n hx hb d_M_patternAt_339 rfl (lv_at hl 2 rfl) ?_
              refine ug_I hx hb ht hown hM hK hP 69 (by decide) lk_M_69 (by decide) d_M_patternAt_340 ?_
              obtain ⟨hi9, hf⟩ := ck_some hf
              refine ul_I hx hb hK hP (by decide) (by decide) hi9 d_M_patternAt_343 ?_
              obtain ⟨hi9, hf⟩ := ck_some hf
              refine us_I hx hb hK hP hD hS (by decide) (by decide) hi9 d_M_patternAt_344 (fun H locs hP hD hS => ?_)
              obtain ⟨w14, e14, hf⟩ := lt_some hf
              rw [← e14] at hP hD
              refine lv_aload_n hx hb d_M_patternAt_345 rfl (lv_at hl 2 rfl) ?_
              refine lv_dup hx hb d_M_patternAt_346 rfl ?_
              refine ug_I hx hb ht hown hM hK hP 69 (by decide) lk_M_69 (by decide) d_M_patternAt_347 ?_
              refine lv_iconst (v := 1) hx hb d_M_patternAt_350 (by decide) ?_
              refine lv_iadd hx hb d_M_patternAt_351 ?_
              refine up_I hx hb ht hown hM hK hP hD hS 69 (by decide) lk_M_69 (by decide) rfl rfl rfl d_M_patternAt_352 (fun H locs hP hD hS => ?_)
              obtain ⟨w15, e15, hf⟩ := lt_some hf
              rw [← e15] at hP hD
              refine lv_goto (tgt := 388) hx hb d_M_patternAt_355 (by decide) ?_
              exact wb_M_patternAt_388 C0 hR N S hSg G hG _ _ _ hf H locs hP hD hS ls (lv_sub hl [2, 0] rfl)
          · rw [br_p _ hc] at hf
            refine lv_aload_n hx hb d_M_patternAt_269 rfl (lv_at hl 2 rfl) ?_
            refine lv_iconst (v := 3) hx hb d_M_patternAt_270 (by decide) ?_
            obtain ⟨u16, r16, hc16, hf⟩ := bnd_some hf
            refine mV_i (As := [.int 3]) (rest := []) C0 hP hD hS (c_M_pattern N hM hc16) k_M_pattern hl_M_pattern hi_M_pattern hs_M_pattern hini_M rfl rfl hd_M_pattern rfl (rm_M_patternAt_M_pattern hR) hl.1 (Nat.le_of_ble_eq_true rfl) d_M_patternAt_271 rfl ⟨Nat.zero_le _, Nat.zero_le _⟩ (fun H locs hP hD hS => ?_)
            refine lv_istore (lv' := [(4, .int r16), (3, .int t0), (0, .ref h0), (1, .int v1), (2, .int v2)]) hx hb d_M_patternAt_274 hl (by decide) rfl (fun ls hl => ?_)
            refine lv_aload_n hx hb d_M_patternAt_276 rfl (lv_at hl 2 rfl) ?_
            refine ug_R hx hb ht hown hM hK hP 34 (by decide) lk_M_34 (by decide) d_M_patternAt_277 ?_
            refine lv_iload hx hb d_M_patternAt_280 (lv_at hl 0 rfl) ?_
            refine lv_iconst (v := 1) hx hb d_M_patternAt_282 (by decide) ?_
            refine lv_aload_n hx hb d_M_patternAt_283 rfl (lv_at hl 2 rfl) ?_
            refine ug_R hx hb ht hown hM hK hP 7 (by decide) lk_M_7 (by decide) d_M_patternAt_284 ?_
            refine lv_aload_n hx hb d_M_patternAt_287 rfl (lv_at hl 2 rfl) ?_
            refine ug_I hx hb ht hown hM hK hP 69 (by decide) lk_M_69 (by decide) d_M_patternAt_288 ?_
            obtain ⟨hi9, hf⟩ := ck_some hf
            refine ul_I hx hb hK hP (by decide) (by decide) hi9 d_M_patternAt_291 ?_
            obtain ⟨u17, r17, hc17, hf⟩ := bnd_some hf
            refine mS_l (As := [.int 1, .int (u16.2.2.1 7 (u16.1 69).toNatClampNeg)]) (rest := [.int r16, .ref (ad 34)]) C0 hP hD hS (c_M_term N hM hc17) k_M_term hl_M_term ht_M_term hini_M rfl rfl hd_M_term rfl (rm_M_patternAt_M_term hR) hl.1 (Nat.le_of_ble_eq_true rfl) d_M_patternAt_292 rfl ⟨Nat.zero_le _, Nat.zero_le _⟩ (fun H locs hP hD hS => ?_)
            obtain ⟨hi9, hf⟩ := ck_some hf
            refine us_J hx hb hK hP hD hS (by decide) (by decide) hi9 d_M_patternAt_295 (fun H locs hP hD hS => ?_)
            obtain ⟨w18, e18, hf⟩ := lt_some hf
            rw [← e18] at hP hD
            refine lv_aload_n hx hb d_M_patternAt_296 rfl (lv_at hl 2 rfl) ?_
            refine lv_dup hx hb d_M_patternAt_297 rfl ?_
            refine ug_I hx hb ht hown hM hK hP 69 (by decide) lk_M_69 (by decide) d_M_patternAt_298 ?_
            refine lv_iconst (v := 1) hx hb d_M_patternAt_301 (by decide) ?_
            refine lv_iadd hx hb d_M_patternAt_302 ?_
            refine up_I hx hb ht hown hM hK hP hD hS 69 (by decide) lk_M_69 (by decide) rfl rfl rfl d_M_patternAt_303 (fun H locs hP hD hS => ?_)
            obtain ⟨w19, e19, hf⟩ := lt_some hf
            rw [← e19] at hP hD
            refine lv_goto (tgt := 388) hx hb d_M_patternAt_306 (by decide) ?_
            exact wb_M_patternAt_388 C0 hR N S hSg G hG _ _ _ hf H locs hP hD hS ls (lv_sub hl [2, 0] rfl)
        · rw [br_p _ hc] at hf
          exact wb_M_patternAt_160 C0 hR N S hSg G hG _ _ _ hf H locs hP hD hS ls (lv_sub hl [2, 4] rfl)
    · rw [br_p _ hc] at hf
      refine lv_aload_n hx hb d_M_patternAt_133 rfl (lv_at hl 2 rfl) ?_
      refine lv_iload_n hx hb d_M_patternAt_134 rfl (lv_at hl 3 rfl) ?_
      obtain ⟨u20, r20, hc20, hf⟩ := bnd_some hf
      refine mV_i (As := [.int v1]) (rest := []) C0 hP hD hS (c_M_namePattern N hM hc20) k_M_namePattern hl_M_namePattern hi_M_namePattern hs_M_namePattern hini_M rfl rfl hd_M_namePattern rfl (rm_M_patternAt_M_namePattern hR) hl.1 (Nat.le_of_ble_eq_true rfl) d_M_patternAt_135 rfl ⟨Nat.zero_le _, Nat.zero_le _⟩ (fun H locs hP hD hS => ?_)
      refine lv_istore (lv' := [(4, .int r20), (3, .int t0), (0, .ref h0), (1, .int v1), (2, .int v2)]) hx hb d_M_patternAt_138 hl (by decide) rfl (fun ls hl => ?_)
      refine lv_goto (tgt := 388) hx hb d_M_patternAt_140 (by decide) ?_
      exact wb_M_patternAt_388 C0 hR N S hSg G hG _ _ _ hf H locs hP hD hS ls (lv_sub hl [2, 0] rfl)
  · rw [br_p _ hc] at hf
    refine lv_aload_n hx hb d_M_patternAt_106 rfl (lv_at hl 1 rfl) ?_
    refine lv_iconst (v := 2) hx hb d_M_patternAt_107 (by decide) ?_
    obtain ⟨u21, r21, hc21, hf⟩ := bnd_some hf
    refine mV_v (As := [.int 2]) (rest := []) C0 hP hD hS (c_M_wrong N hM hc21) k_M_wrong hl_M_wrong hi_M_wrong hs_M_wrong hini_M rfl rfl hd_M_wrong rfl (rm_M_patternAt_M_wrong hR) hl.1 (Nat.le_of_ble_eq_true rfl) d_M_patternAt_108 rfl ⟨Nat.zero_le _, Nat.zero_le _⟩ (fun H locs hP hD hS => ?_)
    refine lv_iconst (v := (-1)) hx hb d_M_patternAt_111 (by decide) ?_
    exact mr_i C0 hP hD hS hf d_M_patternAt_112
