/-! from the law's entry to its loop -/
set_option maxRecDepth 100000
set_option maxHeartbeats 4000000 in
theorem law_start {p : Program} {e : Env} {s : State} {m : MethodId} {below : List Frame} {meth : Method} {c : Code} (l : Launch) (hLt : l.stackTraces = false) {b L N mc ms : Nat} {xs : Nat → Int32} (hL : L ≤ 3072) (A0 : lw_At p s m meth c b L xs) {xH : CS} (hH : fm_H_init N uH0 0 = some (xH, ())) (hm : uH0.1.1 + mc = xH.1.1 ∧ uH0.1.2 + ms = xH.1.2)
    (REL : Nat → CS → MS → Nat → Nat → Prop) (hR1 : ∀ k u uM ce sl, REL k u uM ce sl → isO u 0 1 = true ∧ ce ≤ 601024 ∧ sl ≤ 7293034) (hR2 : ∀ k u uM ce sl, REL k u uM ce sl → 6 * k + 6 ≤ L → ∃ u2 uM2 ce2 sl2, STEPm N xs k u uM u2 uM2 ce sl ce2 sl2 ∧ REL (k + 1) u2 uM2 ce2 sl2) (hR0 : REL 0 xH mS0 (1 + mc + 1 + 113 + 1) (11 + ms + 171 + 1787436 + 1)) :
    W p l e room_1 s m #[Value.ref b] below meth c s.heap [] 0 0 (lw_Z below #[Value.ref b] s) (entryFrame m ([Value.ref b] : List Value).toArray 7) := by
  obtain ⟨hx, hb, hr, hml, hown, hts, hX, hbl, hlocks, hg⟩ := A0
  have ht : ∀ w ∈ wd_tbl, w.before #[Value.ref b] s = true := fun w h => hts w (wd_lw h)
  obtain ⟨sk, sv, hE⟩ := env_start hts hg
  have hNC := nc_start hg
  obtain ⟨D, cB, cI, cJ, cZ, cS, cP, hK⟩ := K_start hts ht
  have C0 : XCx p s s s.heap.size m #[Value.ref b] meth c R_L code 7 (some .boolean) D cB cI cJ cZ cS cP (fun q => s.heap.size ≤ q) := ⟨hx, hb, hr, hml, ht, hown, hK, fun q h => h, hlocks, fun q h => h, ⟨State.WarmedH.refl s, fun q _ => rfl⟩, Nat.le_refl _⟩
  obtain ⟨-, hce1, hce2⟩ := hR1 _ _ _ _ _ hR0
  have hl := lv_entry [Value.ref b] (n := 7) (Nat.le_of_ble_eq_true rfl)
  rw [lg_entry_eq]
  generalize (lg_sl [Value.ref b] ++ List.replicate (7 - (lg_sl [Value.ref b]).length) Slot.unset).toArray = ls at hl ⊢
  have hP0 : va_P D cls (wC cB cI cJ cZ cS cP (fun _ => 0) e0) s.heap := fun k q h => by cases h
  have hD0 : va_D (fun q => s.heap.size ≤ q) (wC cB cI cJ cZ cS cP (fun _ => 0) e0) := ⟨fun i j p q h => (by cases h), fun k q h => by cases h⟩
  refine y_new (R := room_1) (uN := 0) (uS := 0) (ad0 := fun _ => 0) (xc := 601024) (xs := 7293034) (u2 := uH0) C0 hP0 hD0 va_S.rf ck_H (wd_of 294 (by decide +kernel) rfl) (wd_of 295 (by decide +kernel) rfl) hini_H (by decide) rfl ⟨rfl, rfl, fun i h => absurd h (Nat.not_lt_zero i)⟩ ⟨rfl, rfl⟩ ⟨(Nat.le_of_ble_eq_true rfl), (Nat.le_of_ble_eq_true rfl)⟩ d_L_law_0 (fun ad H ce2 sl2 _ hB hP hD hS => ?_)
  obtain ⟨b1, b2, -⟩ := hB
  have e1 : ce2 = 1 := (Nat.zero_add ce2).symm.trans b1
  have e2 : sl2 = 11 := (Nat.zero_add sl2).symm.trans b2
  subst e1
  subst e2
  refine lv_dup hx hb d_L_law_3 rfl ?_
  refine L_I (i := 0) (As := []) (rest := [.ref (ad 0)]) (r := []) (u := uH0) C0 (by rw [List.append_nil]; exact hP) (by rw [List.append_nil]; exact hD) hS (c_H_init N hE hH hm) k_H_init (wd_of 296 (by decide +kernel) rfl) hi_H_init hini_H rfl rfl rfl hd_H_init.2 rfl ⟨(Nat.le_of_ble_eq_true rfl), (Nat.le_of_ble_eq_true rfl)⟩ hl.1 (Nat.le_of_ble_eq_true rfl) d_L_law_4 rfl ⟨(by show 1 + mc ≤ 601024; omega), (by show 11 + ms ≤ 7293034; omega)⟩ (fun ad2 H locs hag hP hD hS => ?_)
  rw [List.append_nil] at hP hD
  have e9 : ad 0 = ad2 0 := (hag 0 (by decide)).symm
  rw [e9]
  refine lv_astore_n (lv' := [(1, .ref (ad2 0)), (0, .ref b)]) hx hb d_L_law_7 rfl hl (by decide) (by rfl) (fun ls hl => ?_)
  refine va_new (C := R_M) (T := F_M) (N := 171) (ci := 0) (fs := fl 171 mV0) hx hb ht i_M t_M t_M_ok hown (ht _ (wd_of 2093 (by decide +kernel) rfl)) (ht _ (wd_of 2094 (by decide +kernel) rfl)) (ht _ hini_M) hK hP hD hS (fun q h => h) rfl (fun j hj => ?_) (by show 1 + mc + 1 ≤ 601024; omega) (by show 11 + ms + 171 ≤ 7293034; omega) d_L_law_8 (fun h0 H hP hD hS => ?_)
  · show _ = (fl 171 mV0).getD j .null
    rw [List.getD_eq_getElem?_getD, fl_get hj]
    rfl
  refine lv_dup hx hb d_L_law_11 rfl ?_
  have hP1 := wP_perm List.perm_append_comm hP
  have hD1 := wD_perm List.perm_append_comm hD
  have hG : GoodIn wd_tbl (wd_ws y_M_init b_M_init 1 none) := wd_in (fun _ z => z) k_M_init
  have hK5 : va_K D cls (ty5 cB cI cJ cZ cS) s := hK.sub [0, 1, 2, 3, 4] rfl
  refine fr_call (ι := Nat → Nat) (w2 := fun adM => wM cB cI cJ cZ cS 0 h0 adM mS0) (val := fun _ => none) (Ex := fun _ => True) (fun q h => h) hP1 hD1 hS (va_runI (As := []) (rest := [.ref h0]) ⟨hx, hb, hml, hown, ht⟩ (c_M_init (l := l) (D := D) (cl := cls) (cB := cB) (cI := cI) (cJ := cJ) (cZ := cZ) (cS := cS) (iM := 0) (h0 := h0) (sz := H.size) rfl) (cwI 0 ht hG rfl rfl rfl (ht _ hini_M) (ht _ (wd_of 2095 (by decide +kernel) rfl)) (ht _ (wd_of 2096 (by decide +kernel) rfl)) rfl (by decide +kernel) ⟨(Nat.le_of_ble_eq_true rfl), (Nat.le_of_ble_eq_true rfl)⟩) ⟨fun a U g mk q => (by obtain ⟨q0, q1, q2, q3, q4⟩ := q; exact ⟨q0, q1, q2, va_K.moved (u := U) (U := U.calling g mk a) (Vm.Alike.refl U.vm) q3, q4⟩), fun U hU hW => ⟨rfl, (by rw [hU]), (by rw [hU]; exact fr_l hP1), va_K.moved hW.alike hK5, (fd_l hD1).weaken (fun _ _ _ _ => trivial)⟩⟩ rfl rfl hl.1 rfl (by show 2 * 0 + 1 ≤ 8; omega) d_L_law_12 ⟨(by show 1 + mc + 1 + 113 ≤ 601024; omega), (by show 11 + ms + 171 + 1787436 ≤ 7293034; omega)⟩) (fun st9 t v1 h => by obtain ⟨⟨adM, hv, -, hP2, hK2, hD2⟩, hF⟩ := h; cases hv; exact ⟨adM, trivial, rfl, hP2, hD2, hF⟩) (fun adM H locs _ hP hD hS => ?_)
  refine lv_astore_n (lv' := [(2, .ref h0), (1, .ref (ad2 0)), (0, .ref b)]) hx hb d_L_law_15 rfl hl (by decide) (by rfl) (fun ls hl => ?_)
  refine lv_iconst (v := 1) hx hb d_L_law_16 (by decide) ?_
  refine nw_any (n := 1) (N := 1) (a0 := (1, .inr (.inl (fun _ => 0)))) (ty := .long) hx hb (ht _ ac_long) rfl (fun C h => by cases h) hK 2 rfl hP hD hS (fun q h => h) (fun _ => rfl) (by decide) (by decide) (by decide) (by show 1 + mc + 1 + 113 + 1 ≤ 601024; omega) (by show 11 + ms + 171 + 1787436 + 1 ≤ 7293034; omega) d_L_law_17 (fun o H hP hD hS => ?_)
  have pm : ∀ {a b c : va_W}, ((a ++ b) ++ c).Perm (b ++ (c ++ a)) := fun {a b c} => by rw [List.append_assoc, ← List.append_assoc b c a]; exact List.perm_append_comm
  have hP := wP_perm pm hP
  have hD := wD_perm pm hD
  refine lv_astore_n (lv' := [(3, .ref o), (2, .ref h0), (1, .ref (ad2 0)), (0, .ref b)]) hx hb d_L_law_19 rfl hl (by decide) (by rfl) (fun ls hl => ?_)
  refine lv_iconst (v := 0) hx hb d_L_law_20 (by decide) ?_
  refine lv_istore (lv' := [(4, .int 0), (3, .ref o), (2, .ref h0), (1, .ref (ad2 0)), (0, .ref b)]) hx hb d_L_law_21 hl (by decide) (by rfl) (fun ls hl => ?_)
  exact law_loop C0 hE hLt hNC hX hbl (Nat.not_le.mpr hbl) hL (fun q h => h) REL hR1 hR2 512 0 xH mS0 _ _ hR0 (by omega) (by omega) ad2 adM h0 o (fun _ => 0) H locs ls hP hD hS (lv_sub hl [4, 3, 2, 1, 0] rfl)
