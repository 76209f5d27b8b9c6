theorem metxa_ret {l : Launch} {y : MethodName} {ws : List Cond} {rm : Room} {Pc : Array Value → State → Prop} {mc ms n : Nat} {free : Addr → Prop} {α : Type} {D : va_G} {cB cI cJ cZ cS cP : ClassId} {A : Nat → Prop} {ad : Nat → Nat} {f : α → Option LV} {x : CS} {v : α} (h : MetX l y ws rm Pc (xQy D cB cI cJ cZ cS cP A ad n f (x, .inl v)) mc ms free) : Met l y ws rm Pc (xQ D cB cI cJ cZ cS cP A ad n x (f v)) mc ms free := MetX.ret h (fun a st o t h => by obtain ⟨⟨ad2, hv, -⟩, -⟩ := h; exact ⟨_, hv⟩)
theorem xQy_thr {α : Type} {D : va_G} {cB cI cJ cZ cS cP : ClassId} {A : Nat → Prop} {ad : Nat → Nat} {n k : Nat} {f : α → Option LV} {x : CS} : ∀ a st o t, xQy D cB cI cJ cZ cS cP A ad n f (x, .inr k) a st o t → ∃ v, o = .threw v := by
  intro a st o t h
  obtain ⟨⟨ad2, v, cell, hv, -⟩, -⟩ := h
  exact ⟨v, hv⟩
def outF (z : Int32 ⊕ Nat) (f : Nat → Int64) : Nat → Int64 := match z with
  | .inl r => vp_updL f 0 r.toInt64
  | .inr _ => f
def okx {α : Type} (n : Nat) (z : α ⊕ Nat) : Bool := match z with
  | .inl _ => true
  | .inr k => decide (k < n)
/-- which exceptions aren't of which other's kind -/
def NCs (s0 : State) : Prop := ∀ a b, a < 3 → b < 3 → a ≠ b → NC s0 (exN a) (exN b)
def R_L : String := "MailHouseLaw"
set_option maxRecDepth 100000 in
theorem hini_L : Cond.initialized R_L ∈ wd_tbl := wd_of 265 (by decide +kernel) rfl
abbrev b_L_begin : ByteArray := method_3_code
def y_L_begin : MethodName := ⟨R_L, "begin", "(LMailHouse;I)I"⟩
def hh_L_begin : List (Nat × Nat × Nat × Nat) := [(0, 5, 8, 13), (0, 5, 11, 15), (0, 5, 14, 17)]
set_option maxRecDepth 100000 in
theorem k_L_begin : Cond.codeWith y_L_begin b_L_begin 3 (some .int) hh_L_begin ∈ wd_tbl := wd_of 1399 rfl rfl
set_option maxRecDepth 100000 in
theorem ht_L_begin : Cond.static y_L_begin ∈ wd_tbl := wd_of 1398 (by decide +kernel) rfl
theorem hd_L_begin : y_L_begin.cls = R_L ∧ y_L_begin.cls ≠ "java/lang/invoke/MethodHandle" ∧ y_L_begin.cls ≠ "java/lang/invoke/VarHandle" ∧ (parseMethodDescriptor y_L_begin.desc).map (fun d => d.parameters.length) = some 2 := by decide +kernel
theorem d_L_begin_0 : decode b_L_begin 0 = .ok (.aload_n 0, 1) := by decide +kernel
theorem d_L_begin_1 : decode b_L_begin 1 = .ok (.iload_n 1, 1) := by decide +kernel
theorem d_L_begin_2 : decode b_L_begin 2 = .ok (.invokevirtual 7, 3) := by decide +kernel
theorem d_L_begin_5 : decode b_L_begin 5 = .ok (.goto 12, 3) := by decide +kernel
theorem d_L_begin_8 : decode b_L_begin 8 = .ok (.astore_n 2, 1) := by decide +kernel
theorem d_L_begin_9 : decode b_L_begin 9 = .ok (.iconst 1, 1) := by decide +kernel
theorem d_L_begin_10 : decode b_L_begin 10 = .ok (.ireturn, 1) := by decide +kernel
theorem d_L_begin_11 : decode b_L_begin 11 = .ok (.astore_n 2, 1) := by decide +kernel
theorem d_L_begin_12 : decode b_L_begin 12 = .ok (.iconst 2, 1) := by decide +kernel
theorem d_L_begin_13 : decode b_L_begin 13 = .ok (.ireturn, 1) := by decide +kernel
theorem d_L_begin_14 : decode b_L_begin 14 = .ok (.astore_n 2, 1) := by decide +kernel
theorem d_L_begin_15 : decode b_L_begin 15 = .ok (.iconst 3, 1) := by decide +kernel
theorem d_L_begin_16 : decode b_L_begin 16 = .ok (.ireturn, 1) := by decide +kernel
theorem d_L_begin_17 : decode b_L_begin 17 = .ok (.iconst 0, 1) := by decide +kernel
theorem d_L_begin_18 : decode b_L_begin 18 = .ok (.ireturn, 1) := by decide +kernel
def rm_L_begin (mc ms : Nat) : Room := { frames := 7, cells := mc, slots := ms, locals := 112 }
theorem rm_L_begin_c {mc ms mc2 ms2 : Nat} : (rm_H_begin mc2 ms2).frames + 1 ≤ (rm_L_begin mc ms).frames ∧ 8 + (3 + 11) + (rm_H_begin mc2 ms2).locals ≤ (rm_L_begin mc ms).locals := by
  show 6 + 1 ≤ 7 ∧ 8 + (3 + 11) + 90 ≤ 112
  decide
def cd_L_begin (z : Unit ⊕ Nat) : Int32 := match z with
  | .inl _ => 0
  | .inr k => if k = 0 then 1 else if k = 1 then 2 else if k = 2 then 3 else 0
def ok_L_begin (z : Unit ⊕ Nat) : Bool := match z with
  | .inl _ => true
  | .inr k => decide (k = 0 ∨ k = 1 ∨ k = 2)
set_option maxRecDepth 100000 in
set_option maxHeartbeats 4000000 in
theorem c_L_begin (N : Nat) {l : Launch} {s0 : State} {b0 : Nat} {D : va_G} {cB cI cJ cZ cS cP : ClassId} {sk sv : Nat → Nat} {ad : Nat → Nat} {u : CS} {sz mc ms v0 o : Nat} {f : Nat → Int64} {v1 : Int32} {x : CS × (Unit ⊕ Nat)} (hE : ENV s0 b0 sk sv) (hL : l.stackTraces = false) (hNC : NCs s0) (hO9 : isO u v0 1 = true) (hf : fm_H_begin N u v0 v1 = some x) (hok : ok_L_begin x.2 = true) (hm : u.1.1 + mc = x.1.1.1 + tc x.2 ∧ u.1.2 + ms = x.1.1.2 + tsl x.2) : Met l y_L_begin (wd_wsW y_L_begin b_L_begin 3 (some .int) hh_L_begin) (rm_L_begin mc ms) (hPc s0 b0 D cB cI cJ cZ cS cP (wC cB cI cJ cZ cS cP ad u ++ oW cJ o f) sz [.ref (ad v0), .int v1]) (hQc D cB cI cJ cZ cS cP (va_A (wC cB cI cJ cZ cS cP ad u ++ oW cJ o f) sz) ad u.1.1 x.1 o f (cd_L_begin x.2)) mc ms (va_A (wC cB cI cJ cZ cS cP ad u ++ oW cJ o f) sz) := by
  refine hMetW (by decide) rfl (Nat.le_of_ble_eq_true rfl) (fun p e s m below meth c ls hsz hex C0 hP hD hS hl => ?_)
  obtain ⟨hx, hb, hr, hml, ht, hown, hK, hA, hlocks, hA0, hO, hbs⟩ := id C0
  refine lv_aload_n hx hb d_L_begin_0 rfl (lv_at hl 0 rfl) ?_
  refine lv_iload_n hx hb d_L_begin_1 rfl (lv_at hl 1 rfl) ?_
  obtain ⟨x1, z⟩ := x
  cases z with
  | inl v =>
    refine L_VA (i := v0) (As := [.int v1]) (rest := []) C0 hP hD hS ck_H hO9 (metxa_ret (c_H_begin N hE hL hf hm)) k_H_begin (wd_of 1403 (by decide +kernel) rfl) hi_H_begin hs_H_begin hini_H rfl rfl hd_H_begin rfl rm_L_begin_c hl.1 (Nat.le_of_ble_eq_true rfl) d_L_begin_2 rfl ⟨by show 0 + mc ≤ mc; omega, by show 0 + ms ≤ ms; omega⟩ (fun ad2 H locs hag hP hD hS => ?_)
    refine lv_goto (tgt := 17) hx hb d_L_begin_5 (by decide) ?_
    refine lv_iconst (v := 0) hx hb d_L_begin_17 (by decide) ?_
    exact h_ret C0 hP hD hS hag (by show 0 + mc ≤ mc; omega) (by show 0 + ms ≤ ms; omega) d_L_begin_18
  | inr k =>
    have hk9 : k = 0 ∨ k = 1 ∨ k = 2 := of_decide_eq_true hok
    refine fr_callT (nm := exN k) (ι := Nat → Nat) (w2 := fun ad2 => wC cB cI cJ cZ cS cP ad2 x1) (Ex := fun ad2 => ∀ j, j < u.1.1 → ad2 j = ad j) hA hP hD hS (h_runT (i := v0) (As := [.int v1]) (rest := []) C0 (fr_l hP) (fd_l hD) hS ck_H hO9 (c_H_begin N hE hL hf hm) xQy_thr k_H_begin (wd_of 1403 (by decide +kernel) rfl) hi_H_begin hs_H_begin hini_H rfl rfl hd_H_begin rfl rm_L_begin_c hl.1 (Nat.le_of_ble_eq_true rfl) d_L_begin_2 rfl ⟨by show 0 + mc ≤ mc; omega, by show 0 + ms ≤ ms; omega⟩) (fun st9 t v1 h => by obtain ⟨⟨ad2, a9, cell, hv, e1, e2, e3, hag, hP2, hK2, hD2⟩, hF⟩ := h; cases hv; exact ⟨ad2, hag, ⟨cell, e1, e2, e3⟩, hP2, hD2, hF⟩) (fun ad2 v9 cell9 H locs hag hP hD hS h91 h92 h93 => ?_)
    rcases hk9 with rfl | rfl | rfl
    · refine wt_catchN (k := 0) C0 hE [] (⟨0, 5, 8, 13⟩ : ExceptionTableEntry) [(⟨0, 5, 11, 15⟩ : ExceptionTableEntry), (⟨0, 5, 14, 17⟩ : ExceptionTableEntry)] hex (fun y hy => absurd hy List.not_mem_nil) (by decide) (by decide) (wd_of 1400 (by decide +kernel) rfl) (lw_of 1409 (by decide +kernel)) h91 h92 h93 ?_
      refine lv_astore_n (lv' := [(2, .ref v9), (0, .ref (ad v0)), (1, .int v1)]) hx hb d_L_begin_8 rfl hl (by decide) (by rfl) (fun ls hl => ?_)
      refine lv_iconst (v := 1) hx hb d_L_begin_9 (by decide) ?_
      exact h_ret C0 hP hD hS hag (by show 0 + mc ≤ mc; omega) (by show 0 + ms ≤ ms; omega) d_L_begin_10
    · refine wt_catchN (k := 1) C0 hE [(⟨0, 5, 8, 13⟩ : ExceptionTableEntry)] (⟨0, 5, 11, 15⟩ : ExceptionTableEntry) [(⟨0, 5, 14, 17⟩ : ExceptionTableEntry)] hex (fun y hy => by
        simp only [List.mem_cons, List.not_mem_nil, or_false] at hy
        subst hy
        · exact ⟨exN 0, by decide, wd_of 1400 (by decide +kernel) rfl, hNC 1 0 (by decide) (by decide) (by decide)⟩) (by decide) (by decide) (wd_of 1401 (by decide +kernel) rfl) (lw_of 1425 (by decide +kernel)) h91 h92 h93 ?_
      refine lv_astore_n (lv' := [(2, .ref v9), (0, .ref (ad v0)), (1, .int v1)]) hx hb d_L_begin_11 rfl hl (by decide) (by rfl) (fun ls hl => ?_)
      refine lv_iconst (v := 2) hx hb d_L_begin_12 (by decide) ?_
      exact h_ret C0 hP hD hS hag (by show 0 + mc ≤ mc; omega) (by show 0 + ms ≤ ms; omega) d_L_begin_13
    · refine wt_catchN (k := 2) C0 hE [(⟨0, 5, 8, 13⟩ : ExceptionTableEntry), (⟨0, 5, 11, 15⟩ : ExceptionTableEntry)] (⟨0, 5, 14, 17⟩ : ExceptionTableEntry) [] hex (fun y hy => by
        simp only [List.mem_cons, List.not_mem_nil, or_false] at hy
        rcases hy with rfl | rfl
        · exact ⟨exN 0, by decide, wd_of 1400 (by decide +kernel) rfl, hNC 2 0 (by decide) (by decide) (by decide)⟩
        · exact ⟨exN 1, by decide, wd_of 1401 (by decide +kernel) rfl, hNC 2 1 (by decide) (by decide) (by decide)⟩) (by decide) (by decide) (wd_of 1402 (by decide +kernel) rfl) (lw_of 1441 (by decide +kernel)) h91 h92 h93 ?_
      refine lv_astore_n (lv' := [(2, .ref v9), (0, .ref (ad v0)), (1, .int v1)]) hx hb d_L_begin_14 rfl hl (by decide) (by rfl) (fun ls hl => ?_)
      refine lv_iconst (v := 3) hx hb d_L_begin_15 (by decide) ?_
      exact h_ret C0 hP hD hS hag (by show 0 + mc ≤ mc; omega) (by show 0 + ms ≤ ms; omega) d_L_begin_16
abbrev b_L_go : ByteArray := method_4_code
def y_L_go : MethodName := ⟨R_L, "go", "(LMailHouse;II[J)I"⟩
def hh_L_go : List (Nat × Nat × Nat × Nat) := [(0, 10, 13, 17), (0, 10, 17, 15), (0, 10, 21, 13)]
set_option maxRecDepth 100000 in
theorem k_L_go : Cond.codeWith y_L_go b_L_go 5 (some .int) hh_L_go ∈ wd_tbl := wd_of 1627 rfl rfl
set_option maxRecDepth 100000 in
theorem ht_L_go : Cond.static y_L_go ∈ wd_tbl := wd_of 1626 (by decide +kernel) rfl
theorem hd_L_go : y_L_go.cls = R_L ∧ y_L_go.cls ≠ "java/lang/invoke/MethodHandle" ∧ y_L_go.cls ≠ "java/lang/invoke/VarHandle" ∧ (parseMethodDescriptor y_L_go.desc).map (fun d => d.parameters.length) = some 4 := by decide +kernel
theorem d_L_go_0 : decode b_L_go 0 = .ok (.aload_n 3, 1) := by decide +kernel
theorem d_L_go_1 : decode b_L_go 1 = .ok (.iconst 0, 1) := by decide +kernel
theorem d_L_go_2 : decode b_L_go 2 = .ok (.aload_n 0, 1) := by decide +kernel
theorem d_L_go_3 : decode b_L_go 3 = .ok (.iload_n 1, 1) := by decide +kernel
theorem d_L_go_4 : decode b_L_go 4 = .ok (.iload_n 2, 1) := by decide +kernel
theorem d_L_go_5 : decode b_L_go 5 = .ok (.invokevirtual 19, 3) := by decide +kernel
theorem d_L_go_8 : decode b_L_go 8 = .ok (.i2l, 1) := by decide +kernel
theorem d_L_go_9 : decode b_L_go 9 = .ok (.lastore, 1) := by decide +kernel
theorem d_L_go_10 : decode b_L_go 10 = .ok (.goto 15, 3) := by decide +kernel
theorem d_L_go_13 : decode b_L_go 13 = .ok (.astore 4, 2) := by decide +kernel
theorem d_L_go_15 : decode b_L_go 15 = .ok (.iconst 1, 1) := by decide +kernel
theorem d_L_go_16 : decode b_L_go 16 = .ok (.ireturn, 1) := by decide +kernel
theorem d_L_go_17 : decode b_L_go 17 = .ok (.astore 4, 2) := by decide +kernel
theorem d_L_go_19 : decode b_L_go 19 = .ok (.iconst 2, 1) := by decide +kernel
theorem d_L_go_20 : decode b_L_go 20 = .ok (.ireturn, 1) := by decide +kernel
theorem d_L_go_21 : decode b_L_go 21 = .ok (.astore 4, 2) := by decide +kernel
theorem d_L_go_23 : decode b_L_go 23 = .ok (.iconst 3, 1) := by decide +kernel
theorem d_L_go_24 : decode b_L_go 24 = .ok (.ireturn, 1) := by decide +kernel
theorem d_L_go_25 : decode b_L_go 25 = .ok (.iconst 0, 1) := by decide +kernel
theorem d_L_go_26 : decode b_L_go 26 = .ok (.ireturn, 1) := by decide +kernel
def rm_L_go (mc ms : Nat) : Room := { frames := 9, cells := mc, slots := ms, locals := 250 }
theorem rm_L_go_c {mc ms mc2 ms2 : Nat} : (rm_H_go mc2 ms2).frames + 1 ≤ (rm_L_go mc ms).frames ∧ 8 + (4 + 11) + (rm_H_go mc2 ms2).locals ≤ (rm_L_go mc ms).locals := by
  show 8 + 1 ≤ 9 ∧ 8 + (4 + 11) + 227 ≤ 250
  decide
def cd_L_go (z : Int32 ⊕ Nat) : Int32 := match z with
  | .inl _ => 0
  | .inr k => if k = 2 then 1 else if k = 1 then 2 else if k = 0 then 3 else 0
def ok_L_go (z : Int32 ⊕ Nat) : Bool := match z with
  | .inl _ => true
  | .inr k => decide (k = 2 ∨ k = 1 ∨ k = 0)
set_option maxRecDepth 100000 in
set_option maxHeartbeats 4000000 in
theorem c_L_go (N : Nat) {l : Launch} {s0 : State} {b0 : Nat} {D : va_G} {cB cI cJ cZ cS cP : ClassId} {sk sv : Nat → Nat} {ad : Nat → Nat} {u : CS} {sz mc ms v0 o : Nat} {f : Nat → Int64} {v1 : Int32} {v2 : Int32} {x : CS × (Int32 ⊕ Nat)} (hE : ENV s0 b0 sk sv) (hL : l.stackTraces = false) (hNC : NCs s0) (hO9 : isO u v0 1 = true) (hf : fm_H_go N u v0 v1 v2 = some x) (hok : ok_L_go x.2 = true) (hm : u.1.1 + mc = x.1.1.1 + tc x.2 ∧ u.1.2 + ms = x.1.1.2 + tsl x.2) : Met l y_L_go (wd_wsW y_L_go b_L_go 5 (some .int) hh_L_go) (rm_L_go mc ms) (hPc s0 b0 D cB cI cJ cZ cS cP (wC cB cI cJ cZ cS cP ad u ++ oW cJ o f) sz [.ref (ad v0), .int v1, .int v2, .ref o]) (hQc D cB cI cJ cZ cS cP (va_A (wC cB cI cJ cZ cS cP ad u ++ oW cJ o f) sz) ad u.1.1 x.1 o (outF x.2 f) (cd_L_go x.2)) mc ms (va_A (wC cB cI cJ cZ cS cP ad u ++ oW cJ o f) sz) := by
  refine hMetW (by decide) rfl (Nat.le_of_ble_eq_true rfl) (fun p e s m below meth c ls hsz hex C0 hP hD hS hl => ?_)
  obtain ⟨hx, hb, hr, hml, ht, hown, hK, hA, hlocks, hA0, hO, hbs⟩ := id C0
  refine lv_aload_n hx hb d_L_go_0 rfl (lv_at hl 3 rfl) ?_
  refine lv_iconst (v := 0) hx hb d_L_go_1 (by decide) ?_
  refine lv_aload_n hx hb d_L_go_2 rfl (lv_at hl 0 rfl) ?_
  refine lv_iload_n hx hb d_L_go_3 rfl (lv_at hl 1 rfl) ?_
  refine lv_iload_n hx hb d_L_go_4 rfl (lv_at hl 2 rfl) ?_
  obtain ⟨x1, z⟩ := x
  cases z with
  | inl v =>
    refine L_VA (i := v0) (As := [.int v1, .int v2]) (rest := [.int 0, .ref o]) C0 hP hD hS ck_H hO9 (metxa_ret (c_H_go N hE hL hf hm)) k_H_go (wd_of 1628 (by decide +kernel) rfl) hi_H_go hs_H_go hini_H rfl rfl hd_H_go rfl rm_L_go_c hl.1 (Nat.le_of_ble_eq_true rfl) d_L_go_5 rfl ⟨by show 0 + mc ≤ mc; omega, by show 0 + ms ≤ ms; omega⟩ (fun ad2 H locs hag hP hD hS => ?_)
    refine lv_i2l hx hb d_L_go_8 rfl ?_
    refine h_out hx hb hK hP hD hS d_L_go_9 (fun H locs hP hD hS => ?_)
    refine lv_goto (tgt := 25) hx hb d_L_go_10 (by decide) ?_
    refine lv_iconst (v := 0) hx hb d_L_go_25 (by decide) ?_
    exact h_ret C0 hP hD hS hag (by show 0 + mc ≤ mc; omega) (by show 0 + ms ≤ ms; omega) d_L_go_26
  | inr k =>
    have hk9 : k = 2 ∨ k = 1 ∨ k = 0 := of_decide_eq_true hok
    refine fr_callT (nm := exN k) (ι := Nat → Nat) (w2 := fun ad2 => wC cB cI cJ cZ cS cP ad2 x1) (Ex := fun ad2 => ∀ j, j < u.1.1 → ad2 j = ad j) hA hP hD hS (h_runT (i := v0) (As := [.int v1, .int v2]) (rest := [.int 0, .ref o]) C0 (fr_l hP) (fd_l hD) hS ck_H hO9 (c_H_go N hE hL hf hm) xQy_thr k_H_go (wd_of 1628 (by decide +kernel) rfl) hi_H_go hs_H_go hini_H rfl rfl hd_H_go rfl rm_L_go_c hl.1 (Nat.le_of_ble_eq_true rfl) d_L_go_5 rfl ⟨by show 0 + mc ≤ mc; omega, by show 0 + ms ≤ ms; omega⟩) (fun st9 t v1 h => by obtain ⟨⟨ad2, a9, cell, hv, e1, e2, e3, hag, hP2, hK2, hD2⟩, hF⟩ := h; cases hv; exact ⟨ad2, hag, ⟨cell, e1, e2, e3⟩, hP2, hD2, hF⟩) (fun ad2 v9 cell9 H locs hag hP hD hS h91 h92 h93 => ?_)
    rcases hk9 with rfl | rfl | rfl
    · refine wt_catchN (k := 2) C0 hE [] (⟨0, 10, 13, 17⟩ : ExceptionTableEntry) [(⟨0, 10, 17, 15⟩ : ExceptionTableEntry), (⟨0, 10, 21, 13⟩ : ExceptionTableEntry)] hex (fun y hy => absurd hy List.not_mem_nil) (by decide) (by decide) (wd_of 1402 (by decide +kernel) rfl) (lw_of 1441 (by decide +kernel)) h91 h92 h93 ?_
      refine lv_astore (lv' := [(4, .ref v9), (0, .ref (ad v0)), (1, .int v1), (2, .int v2), (3, .ref o)]) hx hb d_L_go_13 hl (by decide) (by rfl) (fun ls hl => ?_)
      refine lv_iconst (v := 1) hx hb d_L_go_15 (by decide) ?_
      exact h_ret C0 hP hD hS hag (by show 0 + mc ≤ mc; omega) (by show 0 + ms ≤ ms; omega) d_L_go_16
    · refine wt_catchN (k := 1) C0 hE [(⟨0, 10, 13, 17⟩ : ExceptionTableEntry)] (⟨0, 10, 17, 15⟩ : ExceptionTableEntry) [(⟨0, 10, 21, 13⟩ : ExceptionTableEntry)] hex (fun y hy => by
        simp only [List.mem_cons, List.not_mem_nil, or_false] at hy
        subst hy
        · exact ⟨exN 2, by decide, wd_of 1402 (by decide +kernel) rfl, hNC 1 2 (by decide) (by decide) (by decide)⟩) (by decide) (by decide) (wd_of 1401 (by decide +kernel) rfl) (lw_of 1425 (by decide +kernel)) h91 h92 h93 ?_
      refine lv_astore (lv' := [(4, .ref v9), (0, .ref (ad v0)), (1, .int v1), (2, .int v2), (3, .ref o)]) hx hb d_L_go_17 hl (by decide) (by rfl) (fun ls hl => ?_)
      refine lv_iconst (v := 2) hx hb d_L_go_19 (by decide) ?_
      exact h_ret C0 hP hD hS hag (by show 0 + mc ≤ mc; omega) (by show 0 + ms ≤ ms; omega) d_L_go_20
    · refine wt_catchN (k := 0) C0 hE [(⟨0, 10, 13, 17⟩ : ExceptionTableEntry), (⟨0, 10, 17, 15⟩ : ExceptionTableEntry)] (⟨0, 10, 21, 13⟩ : ExceptionTableEntry) [] hex (fun y hy => by
        simp only [List.mem_cons, List.not_mem_nil, or_false] at hy
        rcases hy with rfl | rfl
        · exact ⟨exN 2, by decide, wd_of 1402 (by decide +kernel) rfl, hNC 0 2 (by decide) (by decide) (by decide)⟩
        · exact ⟨exN 1, by decide, wd_of 1401 (by decide +kernel) rfl, hNC 0 1 (by decide) (by decide) (by decide)⟩) (by decide) (by decide) (wd_of 1400 (by decide +kernel) rfl) (lw_of 1409 (by decide +kernel)) h91 h92 h93 ?_
      refine lv_astore (lv' := [(4, .ref v9), (0, .ref (ad v0)), (1, .int v1), (2, .int v2), (3, .ref o)]) hx hb d_L_go_21 hl (by decide) (by rfl) (fun ls hl => ?_)
      refine lv_iconst (v := 3) hx hb d_L_go_23 (by decide) ?_
      exact h_ret C0 hP hD hS hag (by show 0 + mc ≤ mc; omega) (by show 0 + ms ≤ ms; omega) d_L_go_24
abbrev b_L_clock : ByteArray := method_5_code
def y_L_clock : MethodName := ⟨R_L, "clock", "(LMailHouse;I[J)I"⟩
def hh_L_clock : List (Nat × Nat × Nat × Nat) := [(0, 9, 12, 17), (0, 9, 15, 13)]
set_option maxRecDepth 100000 in
theorem k_L_clock : Cond.codeWith y_L_clock b_L_clock 4 (some .int) hh_L_clock ∈ wd_tbl := wd_of 2069 rfl rfl
set_option maxRecDepth 100000 in
theorem ht_L_clock : Cond.static y_L_clock ∈ wd_tbl := wd_of 2068 (by decide +kernel) rfl
theorem hd_L_clock : y_L_clock.cls = R_L ∧ y_L_clock.cls ≠ "java/lang/invoke/MethodHandle" ∧ y_L_clock.cls ≠ "java/lang/invoke/VarHandle" ∧ (parseMethodDescriptor y_L_clock.desc).map (fun d => d.parameters.length) = some 3 := by decide +kernel
theorem d_L_clock_0 : decode b_L_clock 0 = .ok (.aload_n 2, 1) := by decide +kernel
theorem d_L_clock_1 : decode b_L_clock 1 = .ok (.iconst 0, 1) := by decide +kernel
theorem d_L_clock_2 : decode b_L_clock 2 = .ok (.aload_n 0, 1) := by decide +kernel
theorem d_L_clock_3 : decode b_L_clock 3 = .ok (.iload_n 1, 1) := by decide +kernel
theorem d_L_clock_4 : decode b_L_clock 4 = .ok (.invokevirtual 23, 3) := by decide +kernel
theorem d_L_clock_7 : decode b_L_clock 7 = .ok (.i2l, 1) := by decide +kernel
theorem d_L_clock_8 : decode b_L_clock 8 = .ok (.lastore, 1) := by decide +kernel
theorem d_L_clock_9 : decode b_L_clock 9 = .ok (.goto 9, 3) := by decide +kernel
theorem d_L_clock_12 : decode b_L_clock 12 = .ok (.astore_n 3, 1) := by decide +kernel
theorem d_L_clock_13 : decode b_L_clock 13 = .ok (.iconst 1, 1) := by decide +kernel
theorem d_L_clock_14 : decode b_L_clock 14 = .ok (.ireturn, 1) := by decide +kernel
theorem d_L_clock_15 : decode b_L_clock 15 = .ok (.astore_n 3, 1) := by decide +kernel
theorem d_L_clock_16 : decode b_L_clock 16 = .ok (.iconst 2, 1) := by decide +kernel
theorem d_L_clock_17 : decode b_L_clock 17 = .ok (.ireturn, 1) := by decide +kernel
theorem d_L_clock_18 : decode b_L_clock 18 = .ok (.iconst 0, 1) := by decide +kernel
theorem d_L_clock_19 : decode b_L_clock 19 = .ok (.ireturn, 1) := by decide +kernel
def rm_L_clock (mc ms : Nat) : Room := { frames := 7, cells := mc, slots := ms, locals := 111 }
theorem rm_L_clock_c {mc ms mc2 ms2 : Nat} : (rm_H_clock mc2 ms2).frames + 1 ≤ (rm_L_clock mc ms).frames ∧ 8 + (2 + 11) + (rm_H_clock mc2 ms2).locals ≤ (rm_L_clock mc ms).locals := by
  show 6 + 1 ≤ 7 ∧ 8 + (2 + 11) + 90 ≤ 111
  decide
def cd_L_clock (z : Int32 ⊕ Nat) : Int32 := match z with
  | .inl _ => 0
  | .inr k => if k = 2 then 1 else if k = 0 then 2 else 0
def ok_L_clock (z : Int32 ⊕ Nat) : Bool := match z with
  | .inl _ => true
  | .inr k => decide (k = 2 ∨ k = 0)
set_option maxRecDepth 100000 in
set_option maxHeartbeats 4000000 in
theorem c_L_clock (N : Nat) {l : Launch} {s0 : State} {b0 : Nat} {D : va_G} {cB cI cJ cZ cS cP : ClassId} {sk sv : Nat → Nat} {ad : Nat → Nat} {u : CS} {sz v0 o : Nat} {f : Nat → Int64} {v1 : Int32} {x : CS × (Int32 ⊕ Nat)} (hE : ENV s0 b0 sk sv) (hL : l.stackTraces = false) (hNC : NCs s0) (hO9 : isO u v0 1 = true) (hf : fm_H_clock N u v0 v1 = some x) (hok : ok_L_clock x.2 = true) : Met l y_L_clock (wd_wsW y_L_clock b_L_clock 4 (some .int) hh_L_clock) (rm_L_clock (tc x.2) (tsl x.2)) (hPc s0 b0 D cB cI cJ cZ cS cP (wC cB cI cJ cZ cS cP ad u ++ oW cJ o f) sz [.ref (ad v0), .int v1, .ref o]) (hQc D cB cI cJ cZ cS cP (va_A (wC cB cI cJ cZ cS cP ad u ++ oW cJ o f) sz) ad u.1.1 x.1 o (outF x.2 f) (cd_L_clock x.2)) (tc x.2) (tsl x.2) (va_A (wC cB cI cJ cZ cS cP ad u ++ oW cJ o f) sz) := by
  refine hMetW (by decide) rfl (Nat.le_of_ble_eq_true rfl) (fun p e s m below meth c ls hsz hex C0 hP hD hS hl => ?_)
  obtain ⟨hx, hb, hr, hml, ht, hown, hK, hA, hlocks, hA0, hO, hbs⟩ := id C0
  refine lv_aload_n hx hb d_L_clock_0 rfl (lv_at hl 2 rfl) ?_
  refine lv_iconst (v := 0) hx hb d_L_clock_1 (by decide) ?_
  refine lv_aload_n hx hb d_L_clock_2 rfl (lv_at hl 0 rfl) ?_
  refine lv_iload_n hx hb d_L_clock_3 rfl (lv_at hl 1 rfl) ?_
  obtain ⟨x1, z⟩ := x
  cases z with
  | inl v =>
    refine L_V0 (i := v0) (As := [.int v1]) (rest := [.int 0, .ref o]) C0 hP hD hS ck_H hO9 (metx_ret (c_H_clock N hE hL hf)) k_H_clock (wd_of 2070 (by decide +kernel) rfl) hi_H_clock hs_H_clock hini_H rfl rfl hd_H_clock rfl rm_L_clock_c hl.1 (Nat.le_of_ble_eq_true rfl) d_L_clock_4 rfl ⟨Nat.le_of_ble_eq_true rfl, Nat.le_of_ble_eq_true rfl⟩ (fun H locs hP hD hS => ?_)
    have hag : ∀ i, i < u.1.1 → ad i = ad i := fun _ _ => rfl
    refine lv_i2l hx hb d_L_clock_7 rfl ?_
    refine h_out hx hb hK hP hD hS d_L_clock_8 (fun H locs hP hD hS => ?_)
    refine lv_goto (tgt := 18) hx hb d_L_clock_9 (by decide) ?_
    refine lv_iconst (v := 0) hx hb d_L_clock_18 (by decide) ?_
    exact h_ret C0 hP hD hS hag (Nat.le_of_ble_eq_true rfl) (Nat.le_of_ble_eq_true rfl) d_L_clock_19
  | inr k =>
    have hk9 : k = 2 ∨ k = 0 := of_decide_eq_true hok
    refine fr_callT (nm := exN k) (ι := Unit) (w2 := fun _ => wC cB cI cJ cZ cS cP ad x1) (Ex := fun _ => True) hA hP hD hS (h_runT (i := v0) (As := [.int v1]) (rest := [.int 0, .ref o]) C0 (fr_l hP) (fd_l hD) hS ck_H hO9 (metx_thr (c_H_clock N hE hL hf)) xQt_thr k_H_clock (wd_of 2070 (by decide +kernel) rfl) hi_H_clock hs_H_clock hini_H rfl rfl hd_H_clock rfl rm_L_clock_c hl.1 (Nat.le_of_ble_eq_true rfl) d_L_clock_4 rfl ⟨Nat.le_of_ble_eq_true rfl, Nat.le_of_ble_eq_true rfl⟩) (fun st9 t v1 h => by obtain ⟨⟨a9, cell, hv, e1, e2, e3, hP2, hK2, hD2⟩, hF⟩ := h; cases hv; exact ⟨(), trivial, ⟨cell, e1, e2, e3⟩, hP2, hD2, hF⟩) (fun _ v9 cell9 H locs _ hP hD hS h91 h92 h93 => ?_)
    have hag : ∀ i, i < u.1.1 → ad i = ad i := fun _ _ => rfl
    rcases hk9 with rfl | rfl
    · refine wt_catchN (k := 2) C0 hE [] (⟨0, 9, 12, 17⟩ : ExceptionTableEntry) [(⟨0, 9, 15, 13⟩ : ExceptionTableEntry)] hex (fun y hy => absurd hy List.not_mem_nil) (by decide) (by decide) (wd_of 1402 (by decide +kernel) rfl) (lw_of 1441 (by decide +kernel)) h91 h92 h93 ?_
      refine lv_astore_n (lv' := [(3, .ref v9), (0, .ref (ad v0)), (1, .int v1), (2, .ref o)]) hx hb d_L_clock_12 rfl hl (by decide) (by rfl) (fun ls hl => ?_)
      refine lv_iconst (v := 1) hx hb d_L_clock_13 (by decide) ?_
      exact h_ret C0 hP hD hS hag (Nat.le_of_ble_eq_true rfl) (Nat.le_of_ble_eq_true rfl) d_L_clock_14
    · refine wt_catchN (k := 0) C0 hE [(⟨0, 9, 12, 17⟩ : ExceptionTableEntry)] (⟨0, 9, 15, 13⟩ : ExceptionTableEntry) [] hex (fun y hy => by
        simp only [List.mem_cons, List.not_mem_nil, or_false] at hy
        subst hy
        · exact ⟨exN 2, by decide, wd_of 1402 (by decide +kernel) rfl, hNC 0 2 (by decide) (by decide) (by decide)⟩) (by decide) (by decide) (wd_of 1400 (by decide +kernel) rfl) (lw_of 1409 (by decide +kernel)) h91 h92 h93 ?_
      refine lv_astore_n (lv' := [(3, .ref v9), (0, .ref (ad v0)), (1, .int v1), (2, .ref o)]) hx hb d_L_clock_15 rfl hl (by decide) (by rfl) (fun ls hl => ?_)
      refine lv_iconst (v := 2) hx hb d_L_clock_16 (by decide) ?_
      exact h_ret C0 hP hD hS hag (Nat.le_of_ble_eq_true rfl) (Nat.le_of_ble_eq_true rfl) d_L_clock_17
abbrev b_L_send : ByteArray := method_6_code
def y_L_send : MethodName := ⟨R_L, "send", "(LMailHouse;III)I"⟩
def hh_L_send : List (Nat × Nat × Nat × Nat) := [(0, 7, 10, 15), (0, 7, 14, 17)]
set_option maxRecDepth 100000 in
theorem k_L_send : Cond.codeWith y_L_send b_L_send 5 (some .int) hh_L_send ∈ wd_tbl := wd_of 2079 rfl rfl
set_option maxRecDepth 100000 in
theorem ht_L_send : Cond.static y_L_send ∈ wd_tbl := wd_of 2078 (by decide +kernel) rfl
theorem hd_L_send : y_L_send.cls = R_L ∧ y_L_send.cls ≠ "java/lang/invoke/MethodHandle" ∧ y_L_send.cls ≠ "java/lang/invoke/VarHandle" ∧ (parseMethodDescriptor y_L_send.desc).map (fun d => d.parameters.length) = some 4 := by decide +kernel
theorem d_L_send_0 : decode b_L_send 0 = .ok (.aload_n 0, 1) := by decide +kernel
theorem d_L_send_1 : decode b_L_send 1 = .ok (.iload_n 1, 1) := by decide +kernel
theorem d_L_send_2 : decode b_L_send 2 = .ok (.iload_n 2, 1) := by decide +kernel
theorem d_L_send_3 : decode b_L_send 3 = .ok (.iload_n 3, 1) := by decide +kernel
theorem d_L_send_4 : decode b_L_send 4 = .ok (.invokevirtual 27, 3) := by decide +kernel
theorem d_L_send_7 : decode b_L_send 7 = .ok (.goto 11, 3) := by decide +kernel
theorem d_L_send_10 : decode b_L_send 10 = .ok (.astore 4, 2) := by decide +kernel
theorem d_L_send_12 : decode b_L_send 12 = .ok (.iconst 1, 1) := by decide +kernel
theorem d_L_send_13 : decode b_L_send 13 = .ok (.ireturn, 1) := by decide +kernel
theorem d_L_send_14 : decode b_L_send 14 = .ok (.astore 4, 2) := by decide +kernel
theorem d_L_send_16 : decode b_L_send 16 = .ok (.iconst 2, 1) := by decide +kernel
theorem d_L_send_17 : decode b_L_send 17 = .ok (.ireturn, 1) := by decide +kernel
theorem d_L_send_18 : decode b_L_send 18 = .ok (.iconst 0, 1) := by decide +kernel
theorem d_L_send_19 : decode b_L_send 19 = .ok (.ireturn, 1) := by decide +kernel
def rm_L_send (mc ms : Nat) : Room := { frames := 7, cells := mc, slots := ms, locals := 204 }
theorem rm_L_send_c {mc ms mc2 ms2 : Nat} : (rm_H_send mc2 ms2).frames + 1 ≤ (rm_L_send mc ms).frames ∧ 8 + (6 + 11) + (rm_H_send mc2 ms2).locals ≤ (rm_L_send mc ms).locals := by
  show 6 + 1 ≤ 7 ∧ 8 + (6 + 11) + 179 ≤ 204
  decide
def cd_L_send (z : Unit ⊕ Nat) : Int32 := match z with
  | .inl _ => 0
  | .inr k => if k = 1 then 1 else if k = 2 then 2 else 0
def ok_L_send (z : Unit ⊕ Nat) : Bool := match z with
  | .inl _ => true
  | .inr k => decide (k = 1 ∨ k = 2)
set_option maxRecDepth 100000 in
set_option maxHeartbeats 4000000 in
theorem c_L_send (N : Nat) {l : Launch} {s0 : State} {b0 : Nat} {D : va_G} {cB cI cJ cZ cS cP : ClassId} {sk sv : Nat → Nat} {ad : Nat → Nat} {u : CS} {sz v0 o : Nat} {f : Nat → Int64} {v1 : Int32} {v2 : Int32} {v3 : Int32} {x : CS × (Unit ⊕ Nat)} (hE : ENV s0 b0 sk sv) (hL : l.stackTraces = false) (hNC : NCs s0) (hO9 : isO u v0 1 = true) (hf : fm_H_send N u v0 v1 v2 v3 = some x) (hok : ok_L_send x.2 = true) : Met l y_L_send (wd_wsW y_L_send b_L_send 5 (some .int) hh_L_send) (rm_L_send (tc x.2) (tsl x.2)) (hPc s0 b0 D cB cI cJ cZ cS cP (wC cB cI cJ cZ cS cP ad u ++ oW cJ o f) sz [.ref (ad v0), .int v1, .int v2, .int v3]) (hQc D cB cI cJ cZ cS cP (va_A (wC cB cI cJ cZ cS cP ad u ++ oW cJ o f) sz) ad u.1.1 x.1 o f (cd_L_send x.2)) (tc x.2) (tsl x.2) (va_A (wC cB cI cJ cZ cS cP ad u ++ oW cJ o f) sz) := by
  refine hMetW (by decide) rfl (Nat.le_of_ble_eq_true rfl) (fun p e s m below meth c ls hsz hex C0 hP hD hS hl => ?_)
  obtain ⟨hx, hb, hr, hml, ht, hown, hK, hA, hlocks, hA0, hO, hbs⟩ := id C0
  refine lv_aload_n hx hb d_L_send_0 rfl (lv_at hl 0 rfl) ?_
  refine lv_iload_n hx hb d_L_send_1 rfl (lv_at hl 1 rfl) ?_
  refine lv_iload_n hx hb d_L_send_2 rfl (lv_at hl 2 rfl) ?_
  refine lv_iload_n hx hb d_L_send_3 rfl (lv_at hl 3 rfl) ?_
  obtain ⟨x1, z⟩ := x
  cases z with
  | inl v =>
    refine L_V0 (i := v0) (As := [.int v1, .int v2, .int v3]) (rest := []) C0 hP hD hS ck_H hO9 (metx_ret (c_H_send N hE hL hf)) k_H_send (wd_of 2080 (by decide +kernel) rfl) hi_H_send hs_H_send hini_H rfl rfl hd_H_send rfl rm_L_send_c hl.1 (Nat.le_of_ble_eq_true rfl) d_L_send_4 rfl ⟨Nat.le_of_ble_eq_true rfl, Nat.le_of_ble_eq_true rfl⟩ (fun H locs hP hD hS => ?_)
    have hag : ∀ i, i < u.1.1 → ad i = ad i := fun _ _ => rfl
    refine lv_goto (tgt := 18) hx hb d_L_send_7 (by decide) ?_
    refine lv_iconst (v := 0) hx hb d_L_send_18 (by decide) ?_
    exact h_ret C0 hP hD hS hag (Nat.le_of_ble_eq_true rfl) (Nat.le_of_ble_eq_true rfl) d_L_send_19
  | inr k =>
    have hk9 : k = 1 ∨ k = 2 := of_decide_eq_true hok
    refine fr_callT (nm := exN k) (ι := Unit) (w2 := fun _ => wC cB cI cJ cZ cS cP ad x1) (Ex := fun _ => True) hA hP hD hS (h_runT (i := v0) (As := [.int v1, .int v2, .int v3]) (rest := []) C0 (fr_l hP) (fd_l hD) hS ck_H hO9 (metx_thr (c_H_send N hE hL hf)) xQt_thr k_H_send (wd_of 2080 (by decide +kernel) rfl) hi_H_send hs_H_send hini_H rfl rfl hd_H_send rfl rm_L_send_c hl.1 (Nat.le_of_ble_eq_true rfl) d_L_send_4 rfl ⟨Nat.le_of_ble_eq_true rfl, Nat.le_of_ble_eq_true rfl⟩) (fun st9 t v1 h => by obtain ⟨⟨a9, cell, hv, e1, e2, e3, hP2, hK2, hD2⟩, hF⟩ := h; cases hv; exact ⟨(), trivial, ⟨cell, e1, e2, e3⟩, hP2, hD2, hF⟩) (fun _ v9 cell9 H locs _ hP hD hS h91 h92 h93 => ?_)
    have hag : ∀ i, i < u.1.1 → ad i = ad i := fun _ _ => rfl
    rcases hk9 with rfl | rfl
    · refine wt_catchN (k := 1) C0 hE [] (⟨0, 7, 10, 15⟩ : ExceptionTableEntry) [(⟨0, 7, 14, 17⟩ : ExceptionTableEntry)] hex (fun y hy => absurd hy List.not_mem_nil) (by decide) (by decide) (wd_of 1401 (by decide +kernel) rfl) (lw_of 1425 (by decide +kernel)) h91 h92 h93 ?_
      refine lv_astore (lv' := [(4, .ref v9), (0, .ref (ad v0)), (1, .int v1), (2, .int v2), (3, .int v3)]) hx hb d_L_send_10 hl (by decide) (by rfl) (fun ls hl => ?_)
      refine lv_iconst (v := 1) hx hb d_L_send_12 (by decide) ?_
      exact h_ret C0 hP hD hS hag (Nat.le_of_ble_eq_true rfl) (Nat.le_of_ble_eq_true rfl) d_L_send_13
    · refine wt_catchN (k := 2) C0 hE [(⟨0, 7, 10, 15⟩ : ExceptionTableEntry)] (⟨0, 7, 14, 17⟩ : ExceptionTableEntry) [] hex (fun y hy => by
        simp only [List.mem_cons, List.not_mem_nil, or_false] at hy
        subst hy
        · exact ⟨exN 1, by decide, wd_of 1401 (by decide +kernel) rfl, hNC 2 1 (by decide) (by decide) (by decide)⟩) (by decide) (by decide) (wd_of 1402 (by decide +kernel) rfl) (lw_of 1441 (by decide +kernel)) h91 h92 h93 ?_
      refine lv_astore (lv' := [(4, .ref v9), (0, .ref (ad v0)), (1, .int v1), (2, .int v2), (3, .int v3)]) hx hb d_L_send_14 hl (by decide) (by rfl) (fun ls hl => ?_)
      refine lv_iconst (v := 2) hx hb d_L_send_16 (by decide) ?_
      exact h_ret C0 hP hD hS hag (Nat.le_of_ble_eq_true rfl) (Nat.le_of_ble_eq_true rfl) d_L_send_17
