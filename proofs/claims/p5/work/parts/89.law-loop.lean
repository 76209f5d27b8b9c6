/-- one call: class and reference come to these states; feed, back, count, function, letter answer alike -/
def STEPm (N : Nat) (xs : Nat → Int32) (k : Nat) (u : CS) (uM : MS) (u2 : CS) (uM2 : MS) (ce sl ce2 sl2 : Nat) : Prop :=
  (xs (6 * k) &&& 15 = 0 ∧ ∃ r : Int32, fm_H_feed N u 0 (xs (6 * k + 1)) (xs (6 * k + 2)) (xs (6 * k + 3)) (xs (6 * k + 4)) (xs (6 * k + 5)) = some (u2, r) ∧ fm_M_feed N uM (xs (6 * k + 1)) (xs (6 * k + 2)) (xs (6 * k + 3)) (xs (6 * k + 4)) (xs (6 * k + 5)) = some (uM2, r) ∧ ce2 = ce ∧ sl2 = sl) ∨
  (xs (6 * k) &&& 15 = 1 ∧ ∃ r : Int32, fm_H_back N u 0 (xs (6 * k + 1)) = some (u2, r) ∧ fm_M_back N uM (xs (6 * k + 1)) = some (uM2, r) ∧ ce2 = ce ∧ sl2 = sl) ∨
  (xs (6 * k) &&& 15 = 2 ∧ ∃ r r9 : Int32, fm_H_read N u 0 = some (u2, r) ∧ fm_M_read N uM = some (uM2, r9) ∧ ce2 = ce + 1 ∧ sl2 = sl + 6) ∨
  (xs (6 * k) &&& 15 = 3 ∧ ∃ r : Int32, fm_H_count N u 0 (xs (6 * k + 1)) = some (u2, r) ∧ fm_M_count N uM (xs (6 * k + 1)) = some (uM2, r) ∧ ce2 = ce ∧ sl2 = sl) ∨
  (xs (6 * k) &&& 15 = 4 ∧ ∃ r : Int32, fm_H_function N u 0 (xs (6 * k + 1)) (xs (6 * k + 2)) = some (u2, r) ∧ fm_M_function1 N uM (xs (6 * k + 1)) (xs (6 * k + 2)) = some (uM2, r) ∧ ce2 = ce ∧ sl2 = sl) ∨
  (xs (6 * k) &&& 15 = 5 ∧ ∃ r : Int32, fm_H_letter N u 0 (xs (6 * k + 1)) (xs (6 * k + 2)) = some (u2, r) ∧ fm_M_letter N uM (xs (6 * k + 1)) (xs (6 * k + 2)) = some (uM2, r) ∧ ce2 = ce ∧ sl2 = sl) ∨
  (xs (6 * k) &&& 15 = 6 ∧ ∃ (mc ms : Nat) (z : Unit ⊕ Nat), fm_H_begin N u 0 (xs (6 * k + 1)) = some (u2, z) ∧ ok_L_begin z = true ∧ (u.1.1 + mc = u2.1.1 + tc z ∧ u.1.2 + ms = u2.1.2 + tsl z) ∧ fm_M_begin N uM (xs (6 * k + 1)) = some (uM2, ()) ∧ ce2 = ce + mc ∧ sl2 = sl + ms) ∨
  (xs (6 * k) &&& 15 = 7 ∧ ∃ (mc ms : Nat) (z : Int32 ⊕ Nat) (r9 : Int32), fm_H_go N u 0 (xs (6 * k + 1)) (xs (6 * k + 2)) = some (u2, z) ∧ ok_L_go z = true ∧ (u.1.1 + mc = u2.1.1 + tc z ∧ u.1.2 + ms = u2.1.2 + tsl z) ∧ fm_M_go N uM (xs (6 * k + 1)) (xs (6 * k + 2)) = some (uM2, r9) ∧ ce2 = ce + mc ∧ sl2 = sl + ms) ∨
  (xs (6 * k) &&& 15 = 8 ∧ ∃ (z : Int32 ⊕ Nat) (r9 : Int32), fm_H_clock N u 0 (xs (6 * k + 1)) = some (u2, z) ∧ ok_L_clock z = true ∧ fm_M_clock N uM (xs (6 * k + 1)) = some (uM2, r9) ∧ ce2 = ce + tc z ∧ sl2 = sl + tsl z) ∨
  (xs (6 * k) &&& 15 = 9 ∧ ∃ (z : Unit ⊕ Nat), fm_H_send N u 0 (xs (6 * k + 1)) (xs (6 * k + 2)) (xs (6 * k + 3)) = some (u2, z) ∧ ok_L_send z = true ∧ fm_M_send N uM (xs (6 * k + 1)) (xs (6 * k + 2)) (xs (6 * k + 3)) = some (uM2, ()) ∧ ce2 = ce + tc z ∧ sl2 = sl + tsl z) ∨
  (xs (6 * k) &&& 15 = 10 ∧ ∃ r r9 : Int32, fm_H_process N u 0 (xs (6 * k + 1)) (xs (6 * k + 2)) = some (u2, r) ∧ fm_M_process N uM (xs (6 * k + 1)) (xs (6 * k + 2)) = some (uM2, r9) ∧ ce2 = ce ∧ sl2 = sl) ∨
  (xs (6 * k) &&& 15 = 11 ∧ ∃ r r9 : Int32, fm_H_frame N u 0 (xs (6 * k + 1)) (xs (6 * k + 2)) (xs (6 * k + 3)) = some (u2, r) ∧ fm_M_frame1 N uM (xs (6 * k + 1)) (xs (6 * k + 2)) (xs (6 * k + 3)) = some (uM2, r9) ∧ ce2 = ce ∧ sl2 = sl) ∨
  (xs (6 * k) &&& 15 = 12 ∧ ∃ r r9 : Int32, fm_H_link N u 0 (xs (6 * k + 1)) (xs (6 * k + 2)) = some (u2, r) ∧ fm_M_link N uM (xs (6 * k + 1)) (xs (6 * k + 2)) = some (uM2, r9) ∧ ce2 = ce ∧ sl2 = sl) ∨
  (xs (6 * k) &&& 15 = 13 ∧ ∃ r r9 : Int32, fm_H_show N u 0 (xs (6 * k + 1)) (xs (6 * k + 2)) (xs (6 * k + 3)) = some (u2, r) ∧ fm_M_show N uM (xs (6 * k + 1)) (xs (6 * k + 2)) (xs (6 * k + 3)) = some (uM2, r9) ∧ ce2 = ce ∧ sl2 = sl) ∨
  (xs (6 * k) &&& 15 = 14 ∧ ∃ r r9 : Int32, fm_H_shown N u 0 (xs (6 * k + 1)) = some (u2, r) ∧ fm_M_shown N uM (xs (6 * k + 1)) = some (uM2, r9) ∧ ce2 = ce ∧ sl2 = sl) ∨
  (xs (6 * k) &&& 15 = 15 ∧ ∃ r r9 : Int32, fm_H_printed N u 0 (xs (6 * k + 1)) (xs (6 * k + 2)) = some (u2, r) ∧ fm_M_printed N uM (xs (6 * k + 1)) (xs (6 * k + 2)) = some (uM2, r9) ∧ ce2 = ce ∧ sl2 = sl)
set_option maxRecDepth 100000 in
set_option maxHeartbeats 4000000 in
theorem law_step {p : Program} {l : Launch} {e : Env} {s : State} {m : MethodId} {args : Array Value} {below : List Frame} {meth : Method} {c : Code} {Q : State → Prop} {b0 L b k ce sl N : Nat} {xs : Nat → Int32} {D : va_G} {cB cI cJ cZ cS cP : ClassId} {A : Nat → Prop} {sk sv : Nat → Nat} {u u2 : CS} {uM uM2 : MS} {ce2 sl2 : Nat} (C0 : XCx p s s b0 m args meth c R_L code 7 (some .boolean) D cB cI cJ cZ cS cP A) (hE : ENV s b0 sk sv) (hL : l.stackTraces = false) (hNC : NCs s) (hX : va_X b L xs s s.heap) (hbl : b < s.heap.size) (hbA : ¬ A b) (hk : 6 * k + 6 ≤ L) (hLm : L ≤ 3072) (hi : isO u 0 1 = true) (hce : ce ≤ 601024 ∧ sl ≤ 7293034) (hce2 : ce2 ≤ 601024 ∧ sl2 ≤ 7293034) (hst : STEPm N xs k u uM u2 uM2 ce sl ce2 sl2) (kk : LG p l e s m args below meth c Q D cB cI cJ cZ cS cP A b 706 (Int32.ofNat (6 * k)) u2 uM2 ce2 sl2) : LG p l e s m args below meth c Q D cB cI cJ cZ cS cP A b 33 (Int32.ofNat (6 * k)) u uM ce sl := by
  intro ad adM h0 o f H locs ls hP hD hS hl
  obtain ⟨hx, hb, hr, hml, ht, hown, hK, hA, hlocks, hA0, hO, hbs⟩ := id C0
  refine lv_aload_n hx hb d_L_law_33 rfl (lv_at hl 0 rfl) ?_
  refine lv_iload hx hb d_L_law_34 (lv_at hl 4 rfl) ?_
  refine va_sld hx hb hX hbl hbA hS (ix_0 hk hLm).2 d_L_law_36 ?_
  rw [(ix_0 hk hLm).1]
  refine lv_bipush (v := 15) hx hb d_L_law_37 (by decide) ?_
  refine lv_iand hx hb d_L_law_39 ?_
  rcases hst with ⟨e9, h⟩ | ⟨e9, h⟩ | ⟨e9, h⟩ | ⟨e9, h⟩ | ⟨e9, h⟩ | ⟨e9, h⟩ | ⟨e9, h⟩ | ⟨e9, h⟩ | ⟨e9, h⟩ | ⟨e9, h⟩ | ⟨e9, h⟩ | ⟨e9, h⟩ | ⟨e9, h⟩ | ⟨e9, h⟩ | ⟨e9, h⟩ | ⟨e9, h⟩
  · obtain ⟨r, h1, h2, rfl, rfl⟩ := h
    refine lv_tableIn (tgt := 120) hx hb d_L_law_40 (by rw [e9]; decide) (by rw [e9]; decide) (by rw [e9]; rfl) (by decide) ?_
    exact lc_0 C0 hE hL hNC hX hbl hbA hk hLm hi hce h1 h2 kk ad adM h0 o f H locs ls hP hD hS hl
  · obtain ⟨r, h1, h2, rfl, rfl⟩ := h
    refine lv_tableIn (tgt := 193) hx hb d_L_law_40 (by rw [e9]; decide) (by rw [e9]; decide) (by rw [e9]; rfl) (by decide) ?_
    exact lc_1 C0 hE hL hNC hX hbl hbA hk hLm hi hce h1 h2 kk ad adM h0 o f H locs ls hP hD hS hl
  · obtain ⟨r, r9, h1, h2, rfl, rfl⟩ := h
    refine lv_tableIn (tgt := 218) hx hb d_L_law_40 (by rw [e9]; decide) (by rw [e9]; decide) (by rw [e9]; rfl) (by decide) ?_
    exact lc_2 C0 hE hL hNC hX hbl hbA hk hLm hi hce hce2 h1 h2 kk ad adM h0 o f H locs ls hP hD hS hl
  · obtain ⟨r, h1, h2, rfl, rfl⟩ := h
    refine lv_tableIn (tgt := 231) hx hb d_L_law_40 (by rw [e9]; decide) (by rw [e9]; decide) (by rw [e9]; rfl) (by decide) ?_
    exact lc_3 C0 hE hL hNC hX hbl hbA hk hLm hi hce h1 h2 kk ad adM h0 o f H locs ls hP hD hS hl
  · obtain ⟨r, h1, h2, rfl, rfl⟩ := h
    refine lv_tableIn (tgt := 256) hx hb d_L_law_40 (by rw [e9]; decide) (by rw [e9]; decide) (by rw [e9]; rfl) (by decide) ?_
    exact lc_4 C0 hE hL hNC hX hbl hbA hk hLm hi hce h1 h2 kk ad adM h0 o f H locs ls hP hD hS hl
  · obtain ⟨r, h1, h2, rfl, rfl⟩ := h
    refine lv_tableIn (tgt := 293) hx hb d_L_law_40 (by rw [e9]; decide) (by rw [e9]; decide) (by rw [e9]; rfl) (by decide) ?_
    exact lc_5 C0 hE hL hNC hX hbl hbA hk hLm hi hce h1 h2 kk ad adM h0 o f H locs ls hP hD hS hl
  · obtain ⟨mc, ms, z, h1, hok, hm, h2, rfl, rfl⟩ := h
    refine lv_tableIn (tgt := 330) hx hb d_L_law_40 (by rw [e9]; decide) (by rw [e9]; decide) (by rw [e9]; rfl) (by decide) ?_
    exact lc_6 C0 hE hL hNC hX hbl hbA hk hLm hi hce hce2 h1 hok hm h2 kk ad adM h0 o f H locs ls hP hD hS hl
  · obtain ⟨mc, ms, z, r9, h1, hok, hm, h2, rfl, rfl⟩ := h
    refine lv_tableIn (tgt := 355) hx hb d_L_law_40 (by rw [e9]; decide) (by rw [e9]; decide) (by rw [e9]; rfl) (by decide) ?_
    exact lc_7 C0 hE hL hNC hX hbl hbA hk hLm hi hce hce2 h1 hok hm h2 kk ad adM h0 o f H locs ls hP hD hS hl
  · obtain ⟨z, r9, h1, hok, h2, rfl, rfl⟩ := h
    refine lv_tableIn (tgt := 395) hx hb d_L_law_40 (by rw [e9]; decide) (by rw [e9]; decide) (by rw [e9]; rfl) (by decide) ?_
    exact lc_8 C0 hE hL hNC hX hbl hbA hk hLm hi hce hce2 h1 hok h2 kk ad adM h0 o f H locs ls hP hD hS hl
  · obtain ⟨z, h1, hok, h2, rfl, rfl⟩ := h
    refine lv_tableIn (tgt := 423) hx hb d_L_law_40 (by rw [e9]; decide) (by rw [e9]; decide) (by rw [e9]; rfl) (by decide) ?_
    exact lc_9 C0 hE hL hNC hX hbl hbA hk hLm hi hce hce2 h1 hok h2 kk ad adM h0 o f H locs ls hP hD hS hl
  · obtain ⟨r, r9, h1, h2, rfl, rfl⟩ := h
    refine lv_tableIn (tgt := 472) hx hb d_L_law_40 (by rw [e9]; decide) (by rw [e9]; decide) (by rw [e9]; rfl) (by decide) ?_
    exact lc_10 C0 hE hL hNC hX hbl hbA hk hLm hi hce h1 h2 kk ad adM h0 o f H locs ls hP hD hS hl
  · obtain ⟨r, r9, h1, h2, rfl, rfl⟩ := h
    refine lv_tableIn (tgt := 509) hx hb d_L_law_40 (by rw [e9]; decide) (by rw [e9]; decide) (by rw [e9]; rfl) (by decide) ?_
    exact lc_11 C0 hE hL hNC hX hbl hbA hk hLm hi hce h1 h2 kk ad adM h0 o f H locs ls hP hD hS hl
  · obtain ⟨r, r9, h1, h2, rfl, rfl⟩ := h
    refine lv_tableIn (tgt := 558) hx hb d_L_law_40 (by rw [e9]; decide) (by rw [e9]; decide) (by rw [e9]; rfl) (by decide) ?_
    exact lc_12 C0 hE hL hNC hX hbl hbA hk hLm hi hce h1 h2 kk ad adM h0 o f H locs ls hP hD hS hl
  · obtain ⟨r, r9, h1, h2, rfl, rfl⟩ := h
    refine lv_tableIn (tgt := 595) hx hb d_L_law_40 (by rw [e9]; decide) (by rw [e9]; decide) (by rw [e9]; rfl) (by decide) ?_
    exact lc_13 C0 hE hL hNC hX hbl hbA hk hLm hi hce h1 h2 kk ad adM h0 o f H locs ls hP hD hS hl
  · obtain ⟨r, r9, h1, h2, rfl, rfl⟩ := h
    refine lv_tableIn (tgt := 644) hx hb d_L_law_40 (by rw [e9]; decide) (by rw [e9]; decide) (by rw [e9]; rfl) (by decide) ?_
    exact lc_14 C0 hE hL hNC hX hbl hbA hk hLm hi hce h1 h2 kk ad adM h0 o f H locs ls hP hD hS hl
  · obtain ⟨r, r9, h1, h2, rfl, rfl⟩ := h
    refine lv_tableIn (tgt := 669) hx hb d_L_law_40 (by rw [e9]; decide) (by rw [e9]; decide) (by rw [e9]; rfl) (by decide) ?_
    exact lc_15 C0 hE hL hNC hX hbl hbA hk hLm hi hce h1 h2 kk ad adM h0 o f H locs ls hP hD hS hl
theorem law_next {p : Program} {l : Launch} {e : Env} {s : State} {m : MethodId} {args : Array Value} {below : List Frame} {meth : Method} {c : Code} {Q : State → Prop} {b0 b k ce sl : Nat} {D : va_G} {cB cI cJ cZ cS cP : ClassId} {A : Nat → Prop} {u : CS} {uM : MS} (C0 : XCx p s s b0 m args meth c R_L code 7 (some .boolean) D cB cI cJ cZ cS cP A) (kk : LG p l e s m args below meth c Q D cB cI cJ cZ cS cP A b 23 (Int32.ofNat (6 * (k + 1))) u uM ce sl) : LG p l e s m args below meth c Q D cB cI cJ cZ cS cP A b 706 (Int32.ofNat (6 * k)) u uM ce sl := by
  intro ad adM h0 o f H locs ls hP hD hS hl
  obtain ⟨hx, hb, hr, hml, ht, hown, hK, hA, hlocks, hA0, hO, hbs⟩ := id C0
  have e1 : Int32.ofNat (6 * k) + 6 = Int32.ofNat (6 * (k + 1)) := (Int32.ofNat_add (6 * k) 6).symm
  refine lv_iinc (v := Int32.ofNat (6 * k) + 6) (lv' := [(4, .int (Int32.ofNat (6 * k) + 6)), (0, .ref b), (1, .ref (ad 0)), (2, .ref h0), (3, .ref o)]) hx hb d_L_law_706 hl (k := 4) rfl rfl (by decide) (by rfl) (fun ls hl => ?_)
  refine lv_goto (tgt := 23) hx hb d_L_law_709 (by decide) ?_
  rw [e1] at hl
  exact kk ad adM h0 o f H locs ls hP hD hS (lv_sub hl [1, 2, 3, 4, 0] rfl)
theorem law_head {p : Program} {l : Launch} {e : Env} {s : State} {m : MethodId} {below : List Frame} {meth : Method} {c : Code} {b0 L b k ce sl : Nat} {xs : Nat → Int32} {D : va_G} {cB cI cJ cZ cS cP : ClassId} {A : Nat → Prop} {sk sv : Nat → Nat} {u : CS} {uM : MS} (C0 : XCx p s s b0 m #[Value.ref b] meth c R_L code 7 (some .boolean) D cB cI cJ cZ cS cP A) (hE : ENV s b0 sk sv) (hL : l.stackTraces = false) (hNC : NCs s) (hX : va_X b L xs s s.heap) (hbl : b < s.heap.size) (hbA : ¬ A b) (hLm : L ≤ 3072) (hce : ce ≤ 601024 ∧ sl ≤ 7293034) (hk6 : 6 * k ≤ 3072) (hfree : ∀ q, A q → s.heap.size ≤ q) (kk : 6 * k + 6 ≤ L → LG p l e s m #[Value.ref b] below meth c (lw_Z below #[Value.ref b] s) D cB cI cJ cZ cS cP A b 33 (Int32.ofNat (6 * k)) u uM ce sl) : LG p l e s m #[Value.ref b] below meth c (lw_Z below #[Value.ref b] s) D cB cI cJ cZ cS cP A b 23 (Int32.ofNat (6 * k)) u uM ce sl := by
  intro ad adM h0 o f H locs ls hP hD hS hl
  obtain ⟨hx, hb, hr, hml, ht, hown, hK, hA, hlocks, hA0, hO, hbs⟩ := id C0
  refine lv_iload hx hb d_L_law_23 (lv_at hl 4 rfl) ?_
  refine lv_aload_n hx hb d_L_law_25 rfl (lv_at hl 0 rfl) ?_
  refine va_slen hx hb hX hbl hbA hS d_L_law_26 ?_
  refine lv_bipush (v := 6) hx hb d_L_law_27 (by decide) ?_
  refine lv_isub hx hb d_L_law_29 ?_
  refine lv_icmp_gt (tgt := 712) hx hb d_L_law_30 (by decide) (fun hc => ?_) (fun hc => ?_)
  · refine lv_iconst (v := 1) hx hb d_L_law_712 (by decide) ?_
    refine va_forget (fun q hq => hfree _ (hS.2.2 q hq)) ?_
    refine W.widen hce.1 hce.2 ?_
    exact lw_ret hx hb hr hlocks d_L_law_713
  · have h9 := (not_congr (i_gt (k := 6 * k) (L := L) hk6 hLm)).mp hc
    exact kk (by omega) ad adM h0 o f H locs ls hP hD hS hl
theorem law_loop {p : Program} {l : Launch} {e : Env} {s : State} {m : MethodId} {below : List Frame} {meth : Method} {c : Code} {b0 L b N : Nat} {xs : Nat → Int32} {D : va_G} {cB cI cJ cZ cS cP : ClassId} {A : Nat → Prop} {sk sv : Nat → Nat} (C0 : XCx p s s b0 m #[Value.ref b] meth c R_L code 7 (some .boolean) D cB cI cJ cZ cS cP A) (hE : ENV s b0 sk sv) (hL : l.stackTraces = false) (hNC : NCs s) (hX : va_X b L xs s s.heap) (hbl : b < s.heap.size) (hbA : ¬ A b) (hLm : L ≤ 3072) (hfree : ∀ q, A q → s.heap.size ≤ q) (REL : Nat → CS → MS → Nat → Nat → Prop) (hR1 : ∀ k u uM ce sl, REL k u uM ce sl → isO u 0 1 = true ∧ ce ≤ 601024 ∧ sl ≤ 7293034) (hR2 : ∀ k u uM ce sl, REL k u uM ce sl → 6 * k + 6 ≤ L → ∃ u2 uM2 ce2 sl2, STEPm N xs k u uM u2 uM2 ce sl ce2 sl2 ∧ REL (k + 1) u2 uM2 ce2 sl2) : ∀ (n k : Nat) (u : CS) (uM : MS) (ce sl : Nat), REL k u uM ce sl → L < 6 * k + 6 * n + 6 → 6 * k ≤ 3072 → LG p l e s m #[Value.ref b] below meth c (lw_Z below #[Value.ref b] s) D cB cI cJ cZ cS cP A b 23 (Int32.ofNat (6 * k)) u uM ce sl := by
  intro n
  induction n with
  | zero =>
    intro k u uM ce sl hR hn hk6
    obtain ⟨hi, hce⟩ := hR1 _ _ _ _ _ hR
    refine law_head C0 hE hL hNC hX hbl hbA hLm hce hk6 hfree (fun hk => ?_)
    exact absurd hk (by omega)
  | succ n ih =>
    intro k u uM ce sl hR hn hk6
    obtain ⟨hi, hce⟩ := hR1 _ _ _ _ _ hR
    refine law_head C0 hE hL hNC hX hbl hbA hLm hce hk6 hfree (fun hk => ?_)
    obtain ⟨u2, uM2, ce2, sl2, hst, hR9⟩ := hR2 _ _ _ _ _ hR hk
    exact law_step C0 hE hL hNC hX hbl hbA hk hLm hi hce (hR1 _ _ _ _ _ hR9).2 hst (law_next C0 (ih (k + 1) u2 uM2 ce2 sl2 hR9 (by omega) (by omega)))
