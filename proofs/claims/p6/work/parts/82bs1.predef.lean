set_option maxRecDepth 100000
def w36 (j : Nat) : Int32 := [115, 101, 108, 102, 115, 112, 97, 119, 110, 108, 105, 110, 107, 117, 110, 108, 105, 110, 107, 119, 97, 116, 99, 104, 117, 110, 119, 97, 116, 99, 104, 116, 114, 97, 112, 101, 120, 105, 116, 116, 104, 114, 111, 119, 101, 114, 114, 111, 114, 112, 114, 105, 110, 116, 114, 101, 102, 110, 97, 109, 101, 117, 110, 110, 97, 109, 101, 110, 97, 109, 101, 100, 97, 108, 105, 118, 101, 110, 111, 119, 105, 115, 95, 110, 117, 109, 98, 101, 114, 105, 115, 95, 97, 116, 111, 109, 105, 115, 95, 108, 105, 115, 116, 105, 115, 95, 116, 117, 112, 108, 101, 105, 115, 95, 102, 117, 110, 105, 115, 95, 112, 114, 111, 99, 101, 115, 115, 105, 115, 95, 114, 101, 102, 104, 100, 116, 108, 108, 101, 110, 103, 116, 104, 101, 108, 101, 109, 101, 110, 116, 115, 105, 122, 101].getD j 0
def f36 (j : Nat) : Nat := [0, 4, 9, 13, 19, 24, 31, 35, 39, 44, 49, 54, 57, 61, 67, 72, 77, 80, 89, 96, 103, 111, 117, 127, 133, 135, 137, 143, 150, 154].getD j 154
def sg36 (k : Nat) : Nat := if k ≤ 7 then k else k - 1
def CW36 (m : MS) : Prop := m.1 722 = I 29 ∧ (∀ j, j ≤ 29 → m.2.2.1 38 j = I (f36 j : Nat)) ∧ ∀ j, j < 154 → m.2.2.1 37 j = w36 j
def ATf (m w : MS) (fa : Nat → Nat) (na : Nat) : Prop := (m.1 22 = I (na : Nat) ∧ (∀ j, j ≤ na → m.2.2.1 3 j = I (fa j : Nat)) ∧ (∀ j, j < na → fa j ≤ fa (j + 1)) ∧ (∀ j, j ≤ na → fa j ≤ 4300) ∧ na < 2101) ∧ (w.1 14 = I (na : Nat) ∧ ∀ j, j ≤ na → w.2.2.1 13 j = I (fa j : Nat)) ∧ ∀ j, j < fa na → m.2.2.1 2 j = w.2.2.1 12 j
def MC36 (m : MS) (fa : Nat → Nat) (a i : Nat) : Prop := fa (a + 1) - fa a = f36 (i + 1) - f36 i ∧ ∀ j, j < f36 (i + 1) - f36 i → w36 (f36 i + j) = m.2.2.1 2 (fa a + j)
theorem f36_m : ∀ i, i < 29 → f36 i ≤ f36 (i + 1) ∧ f36 (i + 1) ≤ 154 := by decide +kernel
theorem d36 : ∀ i, i < 29 → ∀ k, k < 29 → i ≠ k → f36 (i + 1) - f36 i = f36 (k + 1) - f36 k → ∃ j, j < f36 (i + 1) - f36 i ∧ w36 (f36 i + j) ≠ w36 (f36 k + j) := by decide +kernel
theorem r36 : ∀ k, k < 30 → plen k = f36 (sg36 k + 1) - f36 (sg36 k) ∧ sg36 k < 29 ∧ ∀ j, j < plen k → mS0.2.2.1 2 (pst k + 2 + j) = w36 (f36 (sg36 k) + j) := by decide +kernel
theorem h36 : ∀ k, k < 30 → mS0.2.2.1 2 (pst k) = I (npre k : Nat) ∧ mS0.2.2.1 2 (pst k + 1) = I (plen k : Nat) := by decide +kernel
theorem t36 : ∀ k, k < 30 → k ≠ 8 → takL.getD (sg36 k) 0 = I (npre k : Nat) := by decide +kernel
theorem q36 : ∀ i, i < 29 → ∃ k, k < 30 ∧ k ≠ 8 ∧ sg36 k = i ∧ (18 ≤ k ↔ 17 ≤ i) := by decide +kernel
def mc36 (m : MS) (fa : Nat → Nat) (a i : Nat) : Bool := decide (fa (a + 1) - fa a = f36 (i + 1) - f36 i) && (List.range (f36 (i + 1) - f36 i)).all (fun j => decide (w36 (f36 i + j) = m.2.2.1 2 (fa a + j)))
theorem mc36_e {m : MS} {fa : Nat → Nat} {a i : Nat} : mc36 m fa a i = true ↔ MC36 m fa a i := by
  unfold mc36 MC36
  rw [Bool.and_eq_true, decide_eq_true_iff, List.all_eq_true]
  exact ⟨fun h => ⟨h.1, fun j hj => of_decide_eq_true (h.2 j (List.mem_range.mpr hj))⟩, fun h => ⟨h.1, fun j hj => decide_eq_true (h.2 j (List.mem_range.mp hj))⟩⟩
def ix36 (m : MS) (fa : Nat → Nat) (a : Nat) : Option Nat := (List.range 29).find? (fun i => mc36 m fa a i)
def cl36 (o : Option Nat) (y : Int32) : Nat := match o with
  | none => 0
  | some i => if i = 7 ∧ y = 2 then 1 else if takL.getD i 0 = y then (if 17 ≤ i then 2 else 1) else 0
section
variable {m m0 w w0 : MS} {fa : Nat → Nat} {na a i N b len L : Nat} {y : Int32}
theorem MC_u {k : Nat} (h1 : MC36 m fa a i) (h2 : MC36 m fa a k) (hi : i < 29) (hk : k < 29) : i = k := by
  refine Classical.byContradiction (fun e => ?_)
  obtain ⟨j, j1, j2⟩ := d36 i hi k hk e (h1.1.symm.trans h2.1)
  have e1 := h1.1
  have e2 := h2.1
  exact j2 ((h1.2 j j1).trans (h2.2 j (by omega)).symm)
theorem ix_s (h : MC36 m fa a i) (hi : i < 29) : ix36 m fa a = some i := by
  cases q : ix36 m fa a with
  | none => exact absurd (mc36_e.mpr h) (List.find?_eq_none.mp q i (List.mem_range.mpr hi))
  | some k =>
    have k1 : mc36 m fa a k = true := List.find?_some q
    have k2 := List.mem_range.mp (List.mem_of_find?_eq_some q)
    rw [MC_u h (mc36_e.mp k1) hi k2]
theorem ix_n (h : ∀ i, i < 29 → ¬ MC36 m fa a i) : ix36 m fa a = none := List.find?_eq_none.mpr (fun i hi q => h i (List.mem_range.mp hi) (mc36_e.mp q))
theorem same_lp (c : CW36 m) (hi : i < 29) (hb : b ≤ 5000) : ∀ (M t : Nat), t ≤ f36 (i + 1) - f36 i → (∀ j, j < t → w36 (f36 i + j) = m.2.2.1 2 (b + j)) → PK (fun v r => v = m ∧ ((r = 1 ∧ ∀ j, j < f36 (i + 1) - f36 i → w36 (f36 i + j) = m.2.2.1 2 (b + j)) ∨ (r = 0 ∧ ¬ ∀ j, j < f36 (i + 1) - f36 i → w36 (f36 i + j) = m.2.2.1 2 (b + j)))) (hg_Wo_isSame N M m 36 (I (i : Nat)) 2 (I (b : Nat)) (I (f36 i : Nat)) (I ((f36 i + t : Nat) : Int)))
  | 0, _, _, _ => pk_none
  | M + 1, t, ht, hq => by
    have fm := f36_m i hi
    show PK _ (hb_Wo_isSame_12 N (hg_Wo_isSame N M) m 36 (I (i : Nat)) 2 (I (b : Nat)) (I (f36 i : Nat)) (I ((f36 i + t : Nat) : Int)))
    unfold hb_Wo_isSame_12
    rw [i_suc, tnI (n := i + 1) rfl (by omega), tnI (n := f36 i + t) rfl (by omega), show m.2.2.1 (36 + 2) (i + 1) = I (f36 (i + 1) : Nat) from c.2.1 (i + 1) (by omega), decide_eq_decide.mpr (I_le (x := (f36 (i + 1) : Nat)) (y := ((f36 i + t : Nat) : Int)) (by omega) (by omega) (by omega) (by omega)), I_add, I_sub, tnI (x := ((b : Nat) : Int) + ((f36 i + t : Nat) : Int) - ((f36 i : Nat) : Int)) (n := b + t) (by omega) (by omega)]
    by_cases z : f36 (i + 1) ≤ f36 i + t
    · rw [decide_eq_true (by omega), br_tq]
      exact pk_ck (fun _ => pk_ck (fun _ => pk_some ⟨rfl, Or.inl ⟨rfl, fun j hj => hq j (by omega)⟩⟩))
    · rw [decide_eq_false (by omega), br_fq, show m.2.2.1 (36 + 1) (f36 i + t) = w36 (f36 i + t) from c.2.2 _ (by omega)]
      refine pk_ck (fun _ => pk_ck (fun _ => pk_ck (fun _ => pk_br (fun z1 => ?_) (fun z1 => ?_))))
      · rw [i_suc, show f36 i + t + 1 = f36 i + (t + 1) by omega]
        exact same_lp c hi hb M (t + 1) (by omega) (fun j hj => by
          by_cases e : j = t
          · rw [e]; exact of_decide_eq_true z1
          · exact hq j (by omega))
      · exact pk_ck (fun _ => pk_some ⟨rfl, Or.inr ⟨rfl, fun q => of_decide_eq_false z1 (q t (by omega))⟩⟩)
theorem same_p (c : CW36 m) (hi : i < 29) (hb : b ≤ 5000) : PK (fun v r => v = m ∧ ((r = 1 ∧ ∀ j, j < f36 (i + 1) - f36 i → w36 (f36 i + j) = m.2.2.1 2 (b + j)) ∨ (r = 0 ∧ ¬ ∀ j, j < f36 (i + 1) - f36 i → w36 (f36 i + j) = m.2.2.1 2 (b + j)))) (hm_Wo_isSame N m 36 (I (i : Nat)) 2 (I (b : Nat))) := by
  show PK _ (hb_Wo_isSame_0 N (hg_Wo_isSame N N) m 36 (I (i : Nat)) 2 (I (b : Nat)))
  unfold hb_Wo_isSame_0
  rw [tnI (n := i) rfl (by omega), show m.2.2.1 (36 + 2) i = I (f36 i : Nat) from c.2.1 i (by omega)]
  exact pk_ck (fun _ => same_lp c hi hb N 0 (Nat.zero_le _) (fun j hj => absurd hj (by omega)))
theorem sk36_lp (c : CW36 m) (hb : b ≤ 5000) (hl : len ≤ 5000) : ∀ (M i : Nat), i ≤ 29 → (∀ k, k < i → ¬ (len = f36 (k + 1) - f36 k ∧ ∀ j, j < f36 (k + 1) - f36 k → w36 (f36 k + j) = m.2.2.1 2 (b + j))) → PK (fun v r => v = m ∧ ((r = -1 ∧ ∀ k, k < 29 → ¬ (len = f36 (k + 1) - f36 k ∧ ∀ j, j < f36 (k + 1) - f36 k → w36 (f36 k + j) = m.2.2.1 2 (b + j))) ∨ ∃ k : Nat, k < 29 ∧ r = I (k : Nat) ∧ len = f36 (k + 1) - f36 k ∧ ∀ j, j < f36 (k + 1) - f36 k → w36 (f36 k + j) = m.2.2.1 2 (b + j))) (hg_Wo_seek N M m 36 2 (I (b : Nat)) (I (len : Nat)) (I (i : Nat)))
  | 0, _, _, _ => pk_none
  | M + 1, i, hi, hn => by
    show PK _ (hb_Wo_seek_3 N (hg_Wo_seek N M) m 36 2 (I (b : Nat)) (I (len : Nat)) (I (i : Nat)))
    unfold hb_Wo_seek_3 hb_Wo_seek_47
    rw [show m.1 (20 * 36 + 2) = I 29 from c.1, decide_eq_decide.mpr (I_le (x := (29 : Int)) (y := (i : Nat)) (by omega) (by omega) (by omega) (by omega))]
    by_cases z : 29 ≤ i
    · rw [decide_eq_true (by omega), br_tq]
      exact pk_some ⟨rfl, Or.inl ⟨rfl, fun k hk => hn k (by omega)⟩⟩
    · have fm := f36_m i (by omega)
      rw [decide_eq_false (by omega), br_fq, i_suc, tnI (n := i + 1) rfl (by omega), tnI (n := i) rfl (by omega), show m.2.2.1 (36 + 2) (i + 1) = I (f36 (i + 1) : Nat) from c.2.1 (i + 1) (by omega), show m.2.2.1 (36 + 2) i = I (f36 i : Nat) from c.2.1 i (by omega), I_sub]
      have nx : ¬ (len = f36 (i + 1) - f36 i ∧ ∀ j, j < f36 (i + 1) - f36 i → w36 (f36 i + j) = m.2.2.1 2 (b + j)) → PK (fun v r => v = m ∧ ((r = -1 ∧ ∀ k, k < 29 → ¬ (len = f36 (k + 1) - f36 k ∧ ∀ j, j < f36 (k + 1) - f36 k → w36 (f36 k + j) = m.2.2.1 2 (b + j))) ∨ ∃ k : Nat, k < 29 ∧ r = I (k : Nat) ∧ len = f36 (k + 1) - f36 k ∧ ∀ j, j < f36 (k + 1) - f36 k → w36 (f36 k + j) = m.2.2.1 2 (b + j))) (hg_Wo_seek N M m 36 2 (I (b : Nat)) (I (len : Nat)) (I ((i + 1 : Nat) : Int))) := fun hz => sk36_lp c hb hl M (i + 1) (by omega) (fun k hk => by
        by_cases e : k = i
        · rw [e]; exact hz
        · exact hn k (by omega))
      refine pk_ck (fun _ => pk_ck (fun _ => pk_br (fun z1 => pk_bnd (pk_mo (same_p c (by omega) hb) (fun v r hv => ?_))) (fun z1 => nx (fun q => ?_))))
      · obtain ⟨e, hv⟩ := hv
        rw [e]
        have ll : len = f36 (i + 1) - f36 i := by
          have := (I_eq (x := ((f36 (i + 1) : Nat) : Int) - ((f36 i : Nat) : Int)) (y := (len : Nat)) (by omega) (by omega) (by omega) (by omega)).mp (of_decide_eq_true z1)
          omega
        rcases hv with ⟨r1, hv⟩ | ⟨r1, hv⟩
        · rw [r1, show decide ((1 : Int32) = 0) = false from rfl, br_fq]
          exact pk_some ⟨rfl, Or.inr ⟨i, by omega, rfl, ll, hv⟩⟩
        · rw [r1, show decide ((0 : Int32) = 0) = true from rfl, br_tq]
          exact nx (fun q => hv q.2)
      · refine of_decide_eq_false z1 ?_
        rw [I_eq (by omega) (by omega) (by omega) (by omega)]
        omega
theorem skin_p (c : CW36 m) (h : ATf m w fa na) (ha : a < na) : PK (fun v r => v = m ∧ ((r = -1 ∧ ix36 m fa a = none) ∨ ∃ k : Nat, k < 29 ∧ r = I (k : Nat) ∧ ix36 m fa a = some k)) (hm_Wo_seekIn N m 1 36 (I (a : Nat))) := by
  obtain ⟨⟨h1, h2, h3, h4, h5⟩, -⟩ := h
  have f1 := h4 a (by omega)
  have f2 := h4 (a + 1) (by omega)
  have f3 := h3 a ha
  show PK _ (hb_Wo_seekIn_0 N () m 1 36 (I (a : Nat)))
  unfold hb_Wo_seekIn_0 hb_Wo_seekIn_45
  rw [show decide (I (a : Nat) < (0 : Int32)) = false from decide_eq_false (fun z => absurd ((I_lt (x := (a : Nat)) (y := (0 : Int)) (by omega) (by omega) (by omega) (by omega)).mp z) (by omega)), br_fq, show m.1 (20 * 1 + 2) = I (na : Nat) from h1, decide_eq_true ((I_lt (x := (a : Nat)) (y := (na : Nat)) (by omega) (by omega) (by omega) (by omega)).mpr (by omega)), br_tq, i_suc, tnI (n := a + 1) rfl (by omega), tnI (n := a) rfl (by omega), show m.2.2.1 (1 + 2) (a + 1) = I (fa (a + 1) : Nat) from h2 (a + 1) (by omega), show m.2.2.1 (1 + 2) a = I (fa a : Nat) from h2 a (by omega), I_sub, show ((fa (a + 1) : Nat) : Int) - ((fa a : Nat) : Int) = ((fa (a + 1) - fa a : Nat) : Int) by omega]
  refine pk_ck (fun _ => pk_ck (fun _ => pk_ck (fun _ => pk_bnd ?_)))
  have sk : PK _ (hm_Wo_seek N m 36 2 (I (fa a : Nat)) (I ((fa (a + 1) - fa a : Nat) : Int))) := sk36_lp (N := N) (b := fa a) (len := fa (a + 1) - fa a) c (by omega) (by omega) N 0 (Nat.zero_le _) (fun k hk => absurd hk (by omega))
  refine pk_mo sk (fun v r hv => pk_some ⟨hv.1, ?_⟩)
  rcases hv.2 with ⟨r1, r2⟩ | ⟨k, k1, k2, k3, k4⟩
  · exact Or.inl ⟨r1, ix_n (fun i hi q => r2 i hi ⟨q.1, q.2⟩)⟩
  · exact Or.inr ⟨k, k1, k2, ix_s ⟨k3, k4⟩ k1⟩
theorem pre_cl (hN : 200010 ≤ N) (c : CW36 m) (h : ATf m w fa na) (ha : a < na) (w36' : WDc m 36) (w1 : WDc m 1) : ∃ r, hm_Cm_predefinedOf N m (I (a : Nat)) y = some (m, r) ∧ (r = -1 ↔ cl36 (ix36 m fa a) y = 0) ∧ ((¬ r < 17 ∧ r ≤ 28) ↔ cl36 (ix36 m fa a) y = 2) := by
  have h5 := h.1.2.2.2.2
  obtain ⟨w', r', e, -⟩ := preOf_ok (u := m) (x := (a : Nat)) (n := 0) w36' w1 ⟨by omega, by omega⟩ (by decide) hN
  have ex : ∃ v r3, hm_Wo_seekIn N m 1 36 (I (a : Nat)) = some (v, r3) := by
    cases q : hm_Wo_seekIn N m 1 36 (I (a : Nat)) with
    | none =>
      exfalso
      unfold hm_Cm_predefinedOf hb_Cm_predefinedOf_0 at e
      rw [q] at e
      cases e
    | some x => exact ⟨x.1, x.2, rfl⟩
  obtain ⟨v, r3, e3⟩ := ex
  obtain ⟨rfl, hr⟩ := skin_p (N := N) c h ha v r3 e3
  unfold hm_Cm_predefinedOf hb_Cm_predefinedOf_0
  rw [e3, bnd_s]
  rcases hr with ⟨r1, r2⟩ | ⟨k, k1, k2, k3⟩
  · rw [r1, r2]
    refine ⟨-1, rfl, ⟨fun _ => rfl, fun _ => rfl⟩, ⟨fun z => absurd z.1 (by decide), fun z => absurd z (show ¬ ((0 : Nat) = 2) by decide)⟩⟩
  · rw [k2, k3]
    have e27 : hb_Cm_predefinedOf_27 N () v y (I (k : Nat)) = some (v, if takL.getD k 0 = y then I (k : Nat) else -1) := by
      unfold hb_Cm_predefinedOf_27 hb_Cm_predefinedOf_53 hb_Cm_predefinedOf_54
      rw [show decide (I (k : Nat) = (-1 : Int32)) = false from decide_eq_false (fun z => absurd ((I_eq (x := (k : Nat)) (y := (-1 : Int)) (by omega) (by omega) (by omega) (by omega)).mp (z.trans (show (-1 : Int32) = I (-1) from rfl))) (by omega)), br_fq, show decide ((29 : Int32) ≤ I (k : Nat)) = false from decide_eq_false (fun z => absurd ((I_le (x := (29 : Int)) (y := (k : Nat)) (by omega) (by omega) (by omega) (by omega)).mp z) (by omega)), br_fq, (I_inb (x := (k : Nat)) (n := 29) (by omega) (by omega)).mpr ⟨by omega, by omega⟩, tnI (n := k) rfl (by omega)]
      by_cases q : takL.getD k 0 = y
      · rw [decide_eq_true q, if_pos q]; rfl
      · rw [decide_eq_false q, if_neg q]; rfl
    have r27 : ∀ r : Int32, (r = if takL.getD k 0 = y then I (k : Nat) else -1) → ¬ (k = 7 ∧ y = 2) → (r = -1 ↔ cl36 (some k) y = 0) ∧ ((¬ r < 17 ∧ r ≤ 28) ↔ cl36 (some k) y = 2) := fun r hr hn => by
      have ce : cl36 (some k) y = if takL.getD k 0 = y then (if 17 ≤ k then 2 else 1) else 0 := by
        show (if k = 7 ∧ y = 2 then 1 else _) = _
        rw [if_neg hn]
      rw [ce, hr]
      by_cases q : takL.getD k 0 = y
      · rw [if_pos q, if_pos q]
        have i1 : I (k : Nat) ≠ (-1 : Int32) := fun z => absurd ((I_eq (x := (k : Nat)) (y := (-1 : Int)) (by omega) (by omega) (by omega) (by omega)).mp (z.trans (show (-1 : Int32) = I (-1) from rfl))) (by omega)
        have i2 : I (k : Nat) < (17 : Int32) ↔ k < 17 := (I_lt (x := (k : Nat)) (y := (17 : Int)) (by omega) (by omega) (by omega) (by omega)).trans (by omega)
        have i3 : I (k : Nat) ≤ (28 : Int32) ↔ k ≤ 28 := (I_le (x := (k : Nat)) (y := (28 : Int)) (by omega) (by omega) (by omega) (by omega)).trans (by omega)
        rw [i2, i3]
        by_cases g : 17 ≤ k
        · rw [if_pos g]
          exact ⟨⟨fun z => absurd z i1, fun z => absurd z (by decide)⟩, ⟨fun _ => rfl, fun _ => ⟨by omega, by omega⟩⟩⟩
        · rw [if_neg g]
          exact ⟨⟨fun z => absurd z i1, fun z => absurd z (by decide)⟩, ⟨fun z => absurd z.1 (by omega), fun z => absurd z (by decide)⟩⟩
      · rw [if_neg q, if_neg q]
        exact ⟨⟨fun _ => rfl, fun _ => rfl⟩, ⟨fun z => absurd z.1 (by decide), fun z => absurd z (by decide)⟩⟩
    have d7 : decide (I (k : Nat) = (7 : Int32)) = decide (k = 7) := I_dn (by omega) (by decide) rfl
    rw [d7]
    by_cases z : k = 7
    · rw [decide_eq_true z, br_tq]
      by_cases z2 : y = 2
      · rw [decide_eq_true z2, br_tq]
        have ce : cl36 (some k) y = 1 := if_pos ⟨z, z2⟩
        rw [ce]
        exact ⟨29, rfl, ⟨fun q => absurd q (by decide), fun q => absurd q (by decide)⟩, ⟨fun q => absurd q.2 (by decide), fun q => absurd q (by decide)⟩⟩
      · rw [decide_eq_false z2, br_fq]
        exact ⟨_, e27, r27 _ rfl (fun q => z2 q.2)⟩
    · rw [decide_eq_false z, br_fq]
      exact ⟨_, e27, r27 _ rfl (fun q => z q.1)⟩
end
