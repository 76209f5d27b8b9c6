/-! what is known at the law's start -/
set_option maxRecDepth 100000
theorem nr_of {args : Array Value} {s : State} (h : (Jvm.Cond.and given_1 narrow_1).before args s = true) {w : Cond} (k : Nat) (hk : (flatC narrow_1)[k]? = some w) : w.before args s = true := flat_of_before _ h _ (List.mem_append_right (flatC given_1) (List.mem_of_getElem? hk))
def posSt : List Nat := [105, 270, 352, 360, 550, 572, 599, 628, 658, 686, 724, 755, 785, 816, 845, 879, 921]
def posR : List Nat := [304, 379, 381, 567, 880, 883, 946, 1416, 1432, 1448, 1632, 1633, 1634, 2075, 2076, 2084, 2085]
def sqS (k : Nat) : String × Nat × String × Nat := strL.getD k ("", 0, "", 0)
def tmSt (i : Nat) : Term := .string (sqS i).1 (sqS i).2.1
def vlSt (i : Nat) : Term := .field (tmSt i) "java/lang/String" "value" "[B"
theorem st_0 : ∀ i, i < nSt → lenSt.getD i 0 < 2 ^ 31 := by decide +kernel
theorem st_1 : ∀ i, i < nSt → (flatC narrow_1)[posSt.getD i 0]? = some (.exactly (tmSt i) "java/lang/String") := by decide +kernel
theorem st_2 : ∀ i, i < nSt → (flatC narrow_1)[posSt.getD i 0 + 1]? = some (.eq (.field (tmSt i) "java/lang/String" "coder" "B") (.int 0)) := by decide +kernel
theorem st_3 : ∀ i, i < nSt → (flatC narrow_1)[posSt.getD i 0 + 2]? = some (.arrayOf (vlSt i) .byte) := by decide +kernel
theorem st_4 : ∀ i, i < nSt → (flatC narrow_1)[posSt.getD i 0 + 3]? = some (.eq (.length (vlSt i)) (.int (Int32.ofNat (lenSt.getD i 0)))) := by decide +kernel
theorem st_5 : ∀ i, i < nSt → ∀ j, j < lenSt.getD i 0 → (flatC narrow_1)[posSt.getD i 0 + 4 + j]? = some (.eq (.elem (vlSt i) (.int (Int32.ofNat j))) (.int ((bytSt.getD i []).getD j 0))) := by decide +kernel
theorem st_6 : ∀ i, i < nSt → ∀ j, j < i → (flatC narrow_1)[posSt.getD i 0 + 4 + lenSt.getD i 0 + j]? = some (.not (.eq (tmSt j) (tmSt i))) := by decide +kernel
theorem st_7 : ∀ k, k < nSt → lw_tbl[posR.getD k 0]? = some (.stringRef (sqS k).1 (sqS k).2.1 (sqS k).2.2.1) ∧ (sqS k).2.2.2 = k ∧ k < strL.length := by decide +kernel
theorem st_T : ∀ j, j < 29 → (flatC narrow_1)[12 + j]? = some (.eq (.elem (.static "MailHouse" "TAKEN" "[I") (.int (Int32.ofNat j))) (.int (takL.getD j 0))) := by decide +kernel
def posN : List Nat := [427, 465, 1131, 1466]
theorem st_N : ∀ k, k < 4 → lw_tbl[posN.getD k 0]? = nstL[k]? ∧ (nstL.getD k .tt).onTables = true := by decide +kernel
set_option maxHeartbeats 4000000 in
theorem env_start {args : Array Value} {s : State} (hts : ∀ w ∈ lw_tbl, w.before args s = true) (hg : (Jvm.Cond.and given_1 narrow_1).before args s = true) : ∃ sk sv : Nat → Nat, ENV s s.heap.size sk sv := by
  have hA : ∀ a : Nat, a < s.heap.size → ¬ (fun q => s.heap.size ≤ q) a := fun a h => Nat.not_le.mpr h
  obtain ⟨sk, sv0, hS, hev⟩ := vk_Sof (N := nSt) (tm := tmSt) (len := lenSt) (byt := bytSt) (A := fun q => s.heap.size ≤ q) st_0 (fun i hi => nr_of hg _ (st_1 i hi)) (fun i hi => nr_of hg _ (st_2 i hi)) (fun i hi => nr_of hg _ (st_3 i hi)) (fun i hi => nr_of hg _ (st_4 i hi)) (fun i hi j hj => nr_of hg _ (st_5 i hi j hj)) (fun i j hi hj hne => by
    rcases Nat.lt_or_gt_of_ne hne with h | h
    · exact Or.inl (nr_of hg _ (st_6 j hj i h))
    · exact Or.inr (nr_of hg _ (st_6 i hi j h))) hA
  obtain ⟨t, hte, hT⟩ := va_Tof (tm := .static "MailHouse" "TAKEN" "[I") (ty := .int) (N := 29) (f := fun j => .int (takL.getD j 0)) (by decide) (nr_of hg 10 (by decide +kernel)) (va_eqt (z := Int32.ofNat 29) (nr_of hg 11 (by decide +kernel))) (fun j hj => va_eqt (nr_of hg (12 + j) (st_T j hj))) hA
  have hZ1 := va_Zof (C := "java/lang/String") (n := "COMPACT_STRINGS") (d := "Z") (A := fun q => s.heap.size ≤ q) (hts _ (List.mem_of_getElem? (i := 318) (by decide +kernel))) (hts _ (List.mem_of_getElem? (i := 268) (by decide +kernel))) (va_eqi (z := 1) (nr_of hg 2 (by decide +kernel))) hA
  have hZ2 := va_Zof (C := "MailHouse") (n := "TAKEN") (d := "[I") (A := fun q => s.heap.size ≤ q) (hts _ (List.mem_of_getElem? (i := 1132) (by decide +kernel))) (hts _ (List.mem_of_getElem? (i := 266) (by decide +kernel))) hte hA
  obtain ⟨n9, hn9⟩ : ∃ n9 : Nat, va_Z "jdk/internal/util/Preconditions" "SIOOBE_FORMATTER" "Ljava/util/function/BiFunction;" (va_rf (if n9 = 0 then none else some (n9 - 1))) (fun q => s.heap.size ≤ q) s s.heap := by
    rcases va_Zqof (C := "jdk/internal/util/Preconditions") (n := "SIOOBE_FORMATTER") (d := "Ljava/util/function/BiFunction;") (A := fun q => s.heap.size ≤ q) (hts _ (List.mem_of_getElem? (i := 334) (by decide +kernel))) (hts _ (List.mem_of_getElem? (i := 270) (by decide +kernel))) (nr_of hg 3 (by decide +kernel)) hA with h | ⟨t9, h⟩
    · exact ⟨0, h⟩
    · exact ⟨t9 + 1, h⟩
  refine ⟨sk, fun i => if i = nSt then t else if i = nSt + 1 then n9 else sv0 i, ⟨args, fun w hw => ?_⟩, Nat.le_refl _, ⟨fun i hi => ?_, hS.2⟩, fun k q hk => ?_, hZ1, ?_, ?_, ?_, fun k w hk => ?_⟩
  · rcases List.mem_append.mp hw with h | h
    · exact hts w h
    · simp only [List.mem_cons, List.not_mem_nil, or_false] at h
      rcases h with rfl | rfl
      · exact nr_of hg 7 (by decide +kernel)
      · exact nr_of hg 8 (by decide +kernel)
  · have e1 : (if i = nSt then t else if i = nSt + 1 then n9 else sv0 i) = sv0 i := by rw [if_neg (by omega), if_neg (by omega)]
    show _ ∧ _ ∧ va_OF _ _ _ (.ref (if i = nSt then t else if i = nSt + 1 then n9 else sv0 i)) _ _ _ _ ∧ va_T _ (if i = nSt then t else if i = nSt + 1 then n9 else sv0 i) _ _ _ _ _
    rw [e1]
    exact hS.1 i hi
  · have hk9 : k < nSt := (List.getElem?_eq_some_iff.mp hk).1
    have e1 : sqS k = q := by unfold sqS; rw [List.getD_eq_getElem?_getD, hk]; rfl
    obtain ⟨a1, a2, -⟩ := st_7 k hk9
    have a3 := hev k hk9
    unfold tmSt at a3
    rw [e1] at a1 a2 a3
    rw [a2]
    exact vk_R.of (hts _ (List.mem_of_getElem? a1)) a3
  · show va_Z _ _ _ (.ref (if nSt = nSt then t else _)) _ _ _
    rw [if_pos rfl]
    exact hZ2
  · show va_T _ (if nSt = nSt then t else _) _ _ _ _ _
    rw [if_pos rfl]
    exact hT
  · show va_Z _ _ _ (va_rf (if (if nSt + 1 = nSt then t else if nSt + 1 = nSt + 1 then n9 else sv0 (nSt + 1)) = 0 then none else some ((if nSt + 1 = nSt then t else if nSt + 1 = nSt + 1 then n9 else sv0 (nSt + 1)) - 1))) _ _ _
    have e9 : (if nSt + 1 = nSt then t else if nSt + 1 = nSt + 1 then n9 else sv0 (nSt + 1)) = n9 := by rw [if_neg (Nat.succ_ne_self nSt), if_pos rfl]
    rw [e9]
    exact hn9
  · have hk9 : k < 4 := (List.getElem?_eq_some_iff.mp hk).1
    obtain ⟨a1, a2⟩ := st_N k hk9
    rw [List.getD_eq_getElem?_getD, hk] at a2
    exact va_Nw.of a2 (hts _ (List.mem_of_getElem? (a1.trans hk)))
theorem nc_start {args : Array Value} {s : State} (hg : (Jvm.Cond.and given_1 narrow_1).before args s = true) : NCs s := by
  have h9 : ∀ {a b : String}, va_Nc a b s → NC s a b := fun h ca cb e1 e2 => by
    obtain ⟨c, t, h1, h2, h3⟩ := h
    cases h1.symm.trans e1
    cases h2.symm.trans e2
    exact h3
  intro a b ha hb hne
  have hc : (a = 0 ∧ b = 1) ∨ (a = 0 ∧ b = 2) ∨ (a = 1 ∧ b = 0) ∨ (a = 1 ∧ b = 2) ∨ (a = 2 ∧ b = 0) ∨ (a = 2 ∧ b = 1) := by omega
  rcases hc with ⟨rfl, rfl⟩ | ⟨rfl, rfl⟩ | ⟨rfl, rfl⟩ | ⟨rfl, rfl⟩ | ⟨rfl, rfl⟩ | ⟨rfl, rfl⟩
  · exact h9 (va_Nc.of (nr_of hg 85 (by decide +kernel)))
  · exact h9 (va_Nc.of (nr_of hg 101 (by decide +kernel)))
  · exact h9 (va_Nc.of (nr_of hg 69 (by decide +kernel)))
  · exact h9 (va_Nc.of (nr_of hg 102 (by decide +kernel)))
  · exact h9 (va_Nc.of (nr_of hg 70 (by decide +kernel)))
  · exact h9 (va_Nc.of (nr_of hg 86 (by decide +kernel)))
theorem K_start {args : Array Value} {s : State} (hlw : ∀ w ∈ lw_tbl, w.before args s = true) (hts : ∀ w ∈ wd_tbl, w.before args s = true) : ∃ (D : va_G) (cB cI cJ cZ cS cP : ClassId), va_K D cls (ty6 cB cI cJ cZ cS cP) s := by
  obtain ⟨c0, i0, h0⟩ := u_known hts i_M (hts _ (wd_of (w := .instantiable "MailHouseModel" 171) 2094 (by decide +kernel) rfl))
  obtain ⟨c1, i1, h1⟩ := u_known hts i_H (hts _ (wd_of (w := .instantiable "MailHouse" 11) 295 (by decide +kernel) rfl))
  obtain ⟨c2, i2, h2⟩ := u_known hts i_Co (hts _ (wd_of (w := .instantiable "MailHouse$Code" 13) 464 (by decide +kernel) rfl))
  obtain ⟨c3, i3, h3⟩ := u_known hts i_Cm (hts _ (wd_of (w := .instantiable "MailHouse$Compiler" 15) 561 (by decide +kernel) rfl))
  obtain ⟨c4, i4, h4⟩ := u_known hts i_Fr (hts _ (wd_of (w := .instantiable "MailHouse$Frames" 10) 1465 (by decide +kernel) rfl))
  obtain ⟨c5, i5, h5⟩ := u_known hts i_Ma (hts _ (wd_of (w := .instantiable "MailHouse$Machine" 15) 718 (by decide +kernel) rfl))
  obtain ⟨c6, i6, h6⟩ := u_known hts i_Pa (hts _ (wd_of (w := .instantiable "MailHouse$Parser" 8) 530 (by decide +kernel) rfl))
  obtain ⟨c7, i7, h7⟩ := u_known hts i_Pr (hts _ (wd_of (w := .instantiable "MailHouse$Process" 18) 1459 (by decide +kernel) rfl))
  obtain ⟨c8, i8, h8⟩ := u_known hts i_Te (hts _ (wd_of (w := .instantiable "MailHouse$Terms" 7) 616 (by decide +kernel) rfl))
  obtain ⟨c9, i9, h9⟩ := u_known hts i_To (hts _ (wd_of (w := .instantiable "MailHouse$Tokens" 11) 373 (by decide +kernel) rfl))
  obtain ⟨c10, i10, h10⟩ := u_known hts i_Tr (hts _ (wd_of (w := .instantiable "MailHouse$Tree" 7) 426 (by decide +kernel) rfl))
  obtain ⟨c11, i11, h11⟩ := u_known hts i_Wo (hts _ (wd_of (w := .instantiable "MailHouse$Words" 3) 303 (by decide +kernel) rfl))
  obtain ⟨c12, i12, h12⟩ := u_known hts i_Wl (hts _ (wd_of (w := .instantiable "MailHouse$World" 17) 646 (by decide +kernel) rfl))
  obtain ⟨cB, kB, mB, aB, bB, dB⟩ := Cond.arrayClass_spec (hts _ ac_byte)
  obtain ⟨cI, kI, mI, aI, bI, dI⟩ := Cond.arrayClass_spec (hts _ ac_int)
  obtain ⟨cJ, kJ, mJ, aJ, bJ, dJ⟩ := Cond.arrayClass_spec (hts _ ac_long)
  obtain ⟨cZ, kZ, mZ, aZ, bZ, dZ⟩ := Cond.arrayClass_spec (hts _ ac_boolean)
  obtain ⟨cS, kS, mS, aS, bS, dS⟩ := Cond.arrayClass_spec (hts _ ac_short)
  obtain ⟨mP, cP, kP, e1, -, bP, dP, aP⟩ := Cond.arrayOver_spec (n := "MailHouse$Process") (hlw _ (List.mem_of_getElem? (i := 652) (by decide +kernel)))
  refine ⟨(fun c => [c0, c1, c2, c3, c4, c5, c6, c7, c8, c9, c10, c11, c12].getD c c0, fun c => [i0, i1, i2, i3, i4, i5, i6, i7, i8, i9, i10, i11, i12].getD c i0), cB, cI, cJ, cZ, cS, cP, fun c q hq => ?_, fun k q hq => ?_⟩
  · match c, hq with
    | 0, hq => obtain rfl := Option.some.inj (show some (R_M, F_M, 171) = some q from hq); exact h0
    | 1, hq => obtain rfl := Option.some.inj (show some (R_H, F_H, 11) = some q from hq); exact h1
    | 2, hq => obtain rfl := Option.some.inj (show some (R_Co, F_Co, 13) = some q from hq); exact h2
    | 3, hq => obtain rfl := Option.some.inj (show some (R_Cm, F_Cm, 15) = some q from hq); exact h3
    | 4, hq => obtain rfl := Option.some.inj (show some (R_Fr, F_Fr, 10) = some q from hq); exact h4
    | 5, hq => obtain rfl := Option.some.inj (show some (R_Ma, F_Ma, 15) = some q from hq); exact h5
    | 6, hq => obtain rfl := Option.some.inj (show some (R_Pa, F_Pa, 8) = some q from hq); exact h6
    | 7, hq => obtain rfl := Option.some.inj (show some (R_Pr, F_Pr, 18) = some q from hq); exact h7
    | 8, hq => obtain rfl := Option.some.inj (show some (R_Te, F_Te, 7) = some q from hq); exact h8
    | 9, hq => obtain rfl := Option.some.inj (show some (R_To, F_To, 11) = some q from hq); exact h9
    | 10, hq => obtain rfl := Option.some.inj (show some (R_Tr, F_Tr, 7) = some q from hq); exact h10
    | 11, hq => obtain rfl := Option.some.inj (show some (R_Wo, F_Wo, 3) = some q from hq); exact h11
    | 12, hq => obtain rfl := Option.some.inj (show some (R_Wl, F_Wl, 17) = some q from hq); exact h12
    | n + 13, hq => exact absurd (List.getElem?_eq_some_iff.mp hq).1 (by show ¬ n + 13 < 13; omega)
  · match k, hq with
    | 0, hq => obtain rfl := Option.some.inj (show some (cB, FieldType.byte) = some q from hq); exact ⟨fun n z => ⟨fun k h => (by cases h), kB, bB, mB, dB⟩, aB⟩
    | 1, hq => obtain rfl := Option.some.inj (show some (cI, FieldType.int) = some q from hq); exact ⟨fun n z => ⟨fun k h => (by cases h), kI, bI, mI, dI⟩, aI⟩
    | 2, hq => obtain rfl := Option.some.inj (show some (cJ, FieldType.long) = some q from hq); exact ⟨fun n z => ⟨fun k h => (by cases h), kJ, bJ, mJ, dJ⟩, aJ⟩
    | 3, hq => obtain rfl := Option.some.inj (show some (cZ, FieldType.boolean) = some q from hq); exact ⟨fun n z => ⟨fun k h => (by cases h), kZ, bZ, mZ, dZ⟩, aZ⟩
    | 4, hq => obtain rfl := Option.some.inj (show some (cS, FieldType.short) = some q from hq); exact ⟨fun n z => ⟨fun k h => (by cases h), kS, bS, mS, dS⟩, aS⟩
    | 5, hq => obtain rfl := Option.some.inj (show some (cP, FieldType.object "MailHouse$Process") = some q from hq); exact ⟨fun n z => ⟨fun k h => (by cases h), kP, bP, mP, dP⟩, kP, mP, bP, dP, e1, aP⟩
    | n + 6, hq => exact absurd (List.getElem?_eq_some_iff.mp hq).1 (by show ¬ n + 6 < 6; omega)
