/-! the text of a term is written: there -/
set_option maxRecDepth 100000
section
variable {α : Type} {Q : MS → α → Prop} {p q : Option (MS × α)} {i j : Int}
theorem p_le (hi : RG i) (hj : RG j) (h1 : i ≤ j → PK Q p) (h2 : ¬ i ≤ j → PK Q q) : PK Q (br (decide (I i ≤ I j)) p q) := by
  rw [decI hi.1 hi.2 hj.1 hj.2]
  exact pk_br (fun z => h1 (of_decide_eq_true z)) (fun z => h2 (of_decide_eq_false z))
theorem p_less (hi : RG i) (hj : RG j) (h1 : i < j → PK Q p) (h2 : ¬ i < j → PK Q q) : PK Q (br (decide (I i < I j)) p q) := by
  rw [decL hi.1 hi.2 hj.1 hj.2]
  exact pk_br (fun z => h1 (of_decide_eq_true z)) (fun z => h2 (of_decide_eq_false z))
theorem p_eq (hi : RG i) (hj : RG j) (h1 : i = j → PK Q p) (h2 : ¬ i = j → PK Q q) : PK Q (br (decide (I i = I j)) p q) := by
  rw [decE hi.1 hi.2 hj.1 hj.2]
  exact pk_br (fun z => h1 (of_decide_eq_true z)) (fun z => h2 (of_decide_eq_false z))
end
def byS8 (v : Int32) : Int32 := vp_nar .byte (v.toInt8.toInt32)
/-- the signs L have been written behind base, a hundred at most -/
def OUs (j base : Nat) (m0 m : MS) (L : List Int32) : Prop := FR [866] [] [j] [45] m0 m ∧ F m 866 = ((min L.length 100 : Nat) : Int) ∧ (∀ i, i < min L.length 100 → m.2.2.1 j (base + i) = byS8 (L.getD i 0)) ∧ ∀ i, ¬ (base ≤ i ∧ i < base + 100) → m.2.2.1 j i = m0.2.2.1 j i
/-- where they go -/
def OUh (j base : Nat) (m0 : MS) : Prop := rf (m0.1 1964) = some j ∧ F m0 865 = ((base : Nat) : Int) ∧ base + 100 ≤ bl j ∧ bl j ≤ 20000 ∧ (j = 52 ∨ j = 56)
section
variable {N j base top cn : Nat} {m0 m m2 : MS} {L M : List Int32} {v x : Int32}
theorem getD_app1 {i : Nat} (h : i < L.length) : (L ++ M).getD i 0 = L.getD i 0 := by
  rw [List.getD_eq_getElem?_getD, List.getD_eq_getElem?_getD, List.getElem?_append_left h]
theorem getD_app2 : (L ++ [v]).getD L.length 0 = v := by
  rw [List.getD_eq_getElem?_getD, List.getElem?_append_right (Nat.le_refl _), Nat.sub_self]
  rfl
theorem write_s (hh : OUh j base m0) (h : OUs j base m0 m L) : PK (fun m2 _ => OUs j base m0 m2 (L ++ [v]) ∧ m2.2.2.2 = m.2.2.2) (hm_Te_write N m v) := by
  obtain ⟨h1, h2, h3, h4, h5⟩ := hh
  obtain ⟨f, o1, o2, o3⟩ := h
  have e64 : rf (m.1 1964) = some j := by rw [f.1 1964 (by simp)]; exact h1
  have e65 : F m 865 = ((base : Nat) : Int) := by rw [FR.F f (by simp)]; exact h2
  have hl : (L ++ [v]).length = L.length + 1 := by simp
  unfold hm_Te_write hb_Te_write_0 hb_Te_write_52
  rw [e64, I_F (k := 866), o1, show (100 : Int32) = I 100 from rfl]
  refine p_le ⟨by decide, by decide⟩ ⟨by omega, by omega⟩ (fun a => ?_) (fun a => ?_)
  · refine pk_some ⟨⟨f, by rw [o1, hl]; omega, fun i hi => ?_, o3⟩, rfl⟩
    rw [getD_app1 (by omega)]
    exact o2 i (by omega)
  · have a : ¬ (100 : Int) ≤ ((min L.length 100 : Nat) : Int) := a
    have em : min L.length 100 = L.length := by omega
    rw [em] at o1 o2 ⊢
    show PK _ (br _ _ (ck _ _))
    rw [I_F (k := 865), e65, I_add, show Int32.ofNat (bl j) = I ((bl j : Nat) : Int) from rfl, show ((base : Nat) : Int) + ((L.length : Nat) : Int) = ((base + L.length : Nat) : Int) by omega]
    refine p_le ⟨by omega, by omega⟩ ⟨by omega, by omega⟩ (fun c => absurd c (by omega)) (fun _ => pk_ck (fun _ => pk_lt ?_))
    rw [tnI (n := base + L.length) rfl (by omega)]
    generalize hw : upA m j (upd (m.2.2.1 j) (base + L.length) (vp_nar .byte (v.toInt8.toInt32))) = w
    have e66 : w.1 866 = I ((L.length : Nat) : Int) := by rw [← hw]; show m.1 866 = _; rw [I_F, o1]
    have row : ∀ i, w.2.2.1 j i = if i = base + L.length then byS8 v else m.2.2.1 j i := fun i => by
      rw [← hw]
      show (if j = j then upd (m.2.2.1 j) (base + L.length) (vp_nar .byte (v.toInt8.toInt32)) else _) i = _
      rw [if_pos rfl]
      rfl
    have fw : FR [866] [] [j] [45] m0 w := by rw [← hw]; exact FR_upA f (by simp)
    have ew : w.2.2.2 = m.2.2.2 := by rw [← hw]; rfl
    rw [e66, lit1, I_add, show ((L.length : Nat) : Int) + 1 = ((L.length + 1 : Nat) : Int) by omega]
    refine pk_lt (pk_some ⟨⟨?_, ?_, fun i hi => ?_, fun i hi => ?_⟩, ew⟩)
    · rw [wi_e]; exact FR.wi fw (by simp)
    · rw [wi_e, F_wi (by omega) (by omega), if_pos rfl, hl]
      omega
    · rw [hl] at hi
      show w.2.2.1 j (base + i) = _
      rw [row]
      by_cases e : i = L.length
      · rw [if_pos (by omega), e, getD_app2]
      · rw [if_neg (by omega), getD_app1 (by omega)]
        exact o2 i (by omega)
    · show w.2.2.1 j i = _
      rw [row, if_neg (by omega)]
      exact o3 i hi
theorem lgc_le0 (y : Int64) : (lg_cmp y 0 ≤ 0) ↔ y.toInt ≤ 0 := by
  unfold lg_cmp
  have z : (0 : Int64).toInt = 0 := by decide
  simp only [gt_iff_lt, Int64.lt_iff_toInt_lt, ← Int64.toInt_inj, z]
  repeat' split
  all_goals (constructor <;> intro h <;> first | omega | exact absurd h (by decide) | decide)
theorem lgc_gt (y z : Int64) : (0 < lg_cmp y z) ↔ z.toInt < y.toInt := by
  unfold lg_cmp
  simp only [gt_iff_lt, Int64.lt_iff_toInt_lt, ← Int64.toInt_inj]
  repeat' split
  all_goals (constructor <;> intro h <;> first | omega | exact absurd h (by decide) | decide)
theorem div10n {y : Int64} (h : 0 ≤ y.toInt) : (y / 10).toInt = y.toInt / 10 := by
  rw [Int64.toInt_div_of_ne_right y 10 (by decide), show (10 : Int64).toInt = 10 from rfl, Int.tdiv_eq_ediv_of_nonneg h]
theorem mul10 {y : Int64} (h : 0 ≤ y.toInt) (h2 : y.toInt ≤ 2147483648) : (y * 10).toInt = y.toInt * 10 := by
  rw [Int64.toInt_mul, show (10 : Int64).toInt = 10 from rfl]
  exact Int.bmod_eq_of_le (by omega) (by omega)
/-- digits -/
theorem dig_s (hh : OUh j base m0) {y : Int64} : ∀ (g f : Nat) (u : Int64) (m : MS) (L : List Int32), 0 ≤ u.toInt → u.toInt < 2 ^ f → OUs j base m0 m L → PK (fun m2 _ => OUs j base m0 m2 (L ++ dgT y f u) ∧ m2.2.2.2 = m.2.2.2) ((hg_Te_writeNumber N g).2 m y u) := by
  intro g
  induction g with
  | zero => intro f u m L _ _ _; exact pk_none
  | succ g ih =>
    intro f u m L h0 hf o
    show PK _ (hb_Te_writeNumber_43 N (hg_Te_writeNumber N g) m y u)
    unfold hb_Te_writeNumber_43
    refine pk_br (fun z => pk_some ?_) (fun z => ?_)
    · have z := (lgc_le0 u).mp (of_decide_eq_true z)
      have e : dgT y f u = [] := by
        cases f with
        | zero => rfl
        | succ f => exact if_pos z
      rw [e, List.append_nil]
      exact ⟨o, rfl⟩
    · have z : ¬ u.toInt ≤ 0 := fun q => of_decide_eq_false z ((lgc_le0 u).mpr q)
      cases f with
      | zero => exact absurd hf (by omega)
      | succ f =>
        refine pk_ck (fun _ => pk_ck (fun _ => pk_bnd (pk_mo (write_s hh o) (fun m2 r q => pk_ck (fun _ => ?_)))))
        have e : dgT y (f + 1) u = ((48 + ((y / u) - (y / u) / 10 * 10)).toInt32) :: dgT y f (u / 10) := if_neg z
        have d := div10n h0
        refine pk_mo (ih f (u / 10) m2 _ (by omega) (by rw [d]; rw [Int.pow_succ] at hf; omega) q.1) (fun m3 _ q3 => ⟨?_, q3.2.trans q.2⟩)
        rw [e]
        rw [List.append_assoc] at q3
        exact q3.1
/-- the unit first -/
theorem uni_s (hh : OUh j base m0) {y : Int64} (hy : 0 ≤ y.toInt ∧ y.toInt ≤ 2147483648) : ∀ (g f : Nat) (u : Int64) (m : MS) (L : List Int32), 1 ≤ u.toInt ∧ u.toInt ≤ 2147483648 → y.toInt < u.toInt * 2 ^ f → OUs j base m0 m L → PK (fun m2 _ => OUs j base m0 m2 (L ++ dgT y 40 (unT y f u)) ∧ m2.2.2.2 = m.2.2.2) ((hg_Te_writeNumber N g).1 m y u) := by
  intro g
  induction g with
  | zero => intro f u m L _ _ _; exact pk_none
  | succ g ih =>
    intro f u m L h0 hf o
    show PK _ (hb_Te_writeNumber_21 N (hg_Te_writeNumber N g) m y u)
    unfold hb_Te_writeNumber_21
    have d := div10n hy.1
    refine pk_ck (fun _ => pk_br (fun z => ?_) (fun z => ?_))
    · have z := (lgc_gt _ _).mp (of_decide_eq_true z)
      have e : unT y f u = u := by
        cases f with
        | zero => rfl
        | succ f => exact if_pos (by omega)
      rw [e]
      exact dig_s hh g 40 u m L (by omega) (by omega) o
    · have z : ¬ (y / 10).toInt < u.toInt := fun q => of_decide_eq_false z ((lgc_gt _ _).mpr q)
      have m10 := mul10 (y := u) (by omega) (by omega)
      cases f with
      | zero => exact absurd hf (by omega)
      | succ f =>
        have e : unT y (f + 1) u = unT y f (u * 10) := if_neg (by omega)
        rw [e]
        refine ih f (u * 10) m L (by omega) ?_ o
        rw [m10]
        rw [Int.pow_succ] at hf
        have : u.toInt * (2 ^ f * 2) = u.toInt * 2 ^ f * 2 := by rw [Int.mul_assoc]
        have p0 : (0 : Int) ≤ u.toInt * 2 ^ f := Int.mul_nonneg (by omega) (Int.le_of_lt (Int.pow_pos (by decide)))
        have : u.toInt * 10 * 2 ^ f = u.toInt * 2 ^ f * 10 := by rw [Int.mul_assoc, Int.mul_comm 10, ← Int.mul_assoc]
        omega
theorem num_s (hh : OUh j base m0) (o : OUs j base m0 m L) : PK (fun m2 _ => OUs j base m0 m2 (L ++ numT v) ∧ m2.2.2.2 = m.2.2.2) (hm_Te_writeNumber N m v) := by
  have hr := ti_rng v
  have e := toI64 v
  unfold hm_Te_writeNumber hb_Te_writeNumber_0 hb_Te_writeNumber_18
  refine pk_br (fun z => ?_) (fun z => ?_)
  · have z := (lgc_ge _).mp (of_decide_eq_true z)
    have z2 : 0 ≤ v := by rw [Int32.le_iff_toInt_le]; show (0 : Int) ≤ _; omega
    have ea : abT v = v.toInt64 := if_pos z2
    have en : numT v = dgT v.toInt64 40 (unT v.toInt64 40 1) := by unfold numT; rw [if_pos z2, ea]; rfl
    rw [en]
    exact uni_s hh ⟨by omega, by omega⟩ N 40 1 m L ⟨by decide, by decide⟩ (by rw [e]; have : ((1 : Int64).toInt) = 1 := rfl; rw [this]; omega) o
  · have z : ¬ 0 ≤ v.toInt64.toInt := fun q => of_decide_eq_false z ((lgc_ge _).mpr q)
    have z2 : ¬ 0 ≤ v := by rw [Int32.le_iff_toInt_le]; show ¬ (0 : Int) ≤ _; omega
    have ea : abT v = -v.toInt64 := if_neg z2
    have en : numT v = [45] ++ dgT (-v.toInt64) 40 (unT (-v.toInt64) 40 1) := by unfold numT; rw [if_neg z2, ea]
    have e2 := neg64 (x := v.toInt64) (by omega) (by omega)
    rw [en, ← List.append_assoc]
    refine pk_bnd (pk_mo (write_s hh o) (fun m2 r q => ?_))
    exact pk_mo (uni_s hh ⟨by omega, by omega⟩ N 40 1 m2 _ ⟨by decide, by decide⟩ (by rw [e2, e]; have : ((1 : Int64).toInt) = 1 := rfl; rw [this]; omega) q.1) (fun m3 _ q3 => ⟨q3.1, q3.2.trans q.2⟩)
end
