section
set_option maxRecDepth 100000
section
variable {α : Type} {Q : MS → α → Prop} {p q : Option (MS × α)} {i j : Int}
theorem p_le (hi : RG i) (hj : RG j) (h1 : i ≤ j → PK Q p) (h2 : ¬ i ≤ j → PK Q q) : PK Q (br (decide (I i ≤ I j)) p q) := by
  rw [decI hi.1 hi.2 hj.1 hj.2]
  exact pk_br (fun z => h1 (of_decide_eq_true z)) (fun z => h2 (of_decide_eq_false z))
theorem p_less (hi : RG i) (hj : RG j) (h1 : i < j → PK Q p) (h2 : ¬ i < j → PK Q q) : PK Q (br (decide (I i < I j)) p q) := by
  rw [decL hi.1 hi.2 hj.1 hj.2]
  exact pk_br (fun z => h1 (of_decide_eq_true z)) (fun z => h2 (of_decide_eq_false z))
theorem p_eq (hi : RG i) (hj : RG j) (h1 : i = j → PK Q p) (h2 : ¬ i = j → PK Q q) : PK Q (br (decide (I i = I j)) p q) := by
  rw [decE hi.1 hi.2 hj.1 hj.2]
  exact pk_br (fun z => h1 (of_decide_eq_true z)) (fun z => h2 (of_decide_eq_false z))
end
def byS8 (v : Int32) : Int32 := vp_nar .byte (v.toInt8.toInt32)
def OUs (j base : Nat) (m0 m : MS) (L : List Int32) : Prop := FR [866] [] [j] [45] m0 m ∧ F m 866 = ((min L.length 100 : Nat) : Int) ∧ (∀ i, i < min L.length 100 → m.2.2.1 j (base + i) = byS8 (L.getD i 0)) ∧ ∀ i, ¬ (base ≤ i ∧ i < base + 100) → m.2.2.1 j i = m0.2.2.1 j i
def OUh (j base : Nat) (m0 : MS) : Prop := rf (m0.1 1964) = some j ∧ F m0 865 = ((base : Nat) : Int) ∧ base + 100 ≤ bl j ∧ bl j ≤ 20000 ∧ (j = 52 ∨ j = 56)
section
variable {N j base top cn : Nat} {m0 m m2 : MS} {L M : List Int32} {v x : Int32}
theorem getD_app1 {i : Nat} (h : i < L.length) : (L ++ M).getD i 0 = L.getD i 0 := by
  rw [List.getD_eq_getElem?_getD, List.getD_eq_getElem?_getD, List.getElem?_append_left h]
theorem getD_app2 : (L ++ [v]).getD L.length 0 = v := by
  rw [List.getD_eq_getElem?_getD, List.getElem?_append_right (Nat.le_refl _), Nat.sub_self]
  rfl
theorem write_s (hh : OUh j base m0) (h : OUs j base m0 m L) : PK (fun m2 _ => OUs j base m0 m2 (L ++ [v]) ∧ m2.2.2.2 = m.2.2.2) (hm_Te_write N m v) := by
  obtain ⟨h1, h2, h3, h4, h5⟩ := hh
  obtain ⟨f, o1, o2, o3⟩ := h
  have e64 : rf (m.1 1964) = some j := by rw [f.1 1964 (by simp)]; exact h1
  have e65 : F m 865 = ((base : Nat) : Int) := by rw [FR.F f (by simp)]; exact h2
  have hl : (L ++ [v]).length = L.length + 1 := by simp
  unfold hm_Te_write hb_Te_write_0 hb_Te_write_52
  rw [e64, I_F (k := 866), o1, show (100 : Int32) = I 100 from rfl]
  refine p_le ⟨by decide, by decide⟩ ⟨by omega, by omega⟩ (fun a => ?_) (fun a => ?_)
  · refine pk_some ⟨⟨f, by rw [o1, hl]; omega, fun i hi => ?_, o3⟩, rfl⟩
    rw [getD_app1 (by omega)]
    exact o2 i (by omega)
  · have a : ¬ (100 : Int) ≤ ((min L.length 100 : Nat) : Int) := a
    have em : min L.length 100 = L.length := by omega
    rw [em] at o1 o2 ⊢
    show PK _ (br _ _ (ck _ _))
    rw [I_F (k := 865), e65, I_add, show Int32.ofNat (bl j) = I ((bl j : Nat) : Int) from rfl, show ((base : Nat) : Int) + ((L.length : Nat) : Int) = ((base + L.length : Nat) : Int) by omega]
    refine p_le ⟨by omega, by omega⟩ ⟨by omega, by omega⟩ (fun c => absurd c (by omega)) (fun _ => pk_ck (fun _ => pk_ltq ?_))
    rw [tnI (n := base + L.length) rfl (by omega)]
    generalize hw : upA m j (upd (m.2.2.1 j) (base + L.length) (vp_nar .byte (v.toInt8.toInt32))) = w
    have e66 : w.1 866 = I ((L.length : Nat) : Int) := by rw [← hw]; show m.1 866 = _; rw [I_F, o1]
    have row : ∀ i, w.2.2.1 j i = if i = base + L.length then byS8 v else m.2.2.1 j i := fun i => by
      rw [← hw]
      show (if j = j then upd (m.2.2.1 j) (base + L.length) (vp_nar .byte (v.toInt8.toInt32)) else _) i = _
      rw [if_pos rfl]
      rfl
    have fw : FR [866] [] [j] [45] m0 w := by rw [← hw]; exact FR_upA f (by simp)
    have ew : w.2.2.2 = m.2.2.2 := by rw [← hw]; rfl
    rw [e66, lit1q, I_add, show ((L.length : Nat) : Int) + 1 = ((L.length + 1 : Nat) : Int) by omega]
    refine pk_ltq (pk_some ⟨⟨?_, ?_, fun i hi => ?_, fun i hi => ?_⟩, ew⟩)
    · rw [wi_e]; exact FR.wi fw (by simp)
    · rw [wi_e, F_wi (by omega) (by omega), if_pos rfl, hl]
      omega
    · rw [hl] at hi
      show w.2.2.1 j (base + i) = _
      rw [row]
      by_cases e : i = L.length
      · rw [if_pos (by omega), e, getD_app2]
      · rw [if_neg (by omega), getD_app1 (by omega)]
        exact o2 i (by omega)
    · show w.2.2.1 j i = _
      rw [row, if_neg (by omega)]
      exact o3 i hi
theorem lgc_le0 (y : Int64) : (lg_cmp y 0 ≤ 0) ↔ y.toInt ≤ 0 := by
  unfold lg_cmp
  have z : (0 : Int64).toInt = 0 := by decide
  simp only [gt_iff_lt, Int64.lt_iff_toInt_lt, ← Int64.toInt_inj, z]
  repeat' split
  all_goals (constructor <;> intro h <;> first | omega | exact absurd h (by decide) | decide)
theorem lgc_gt (y z : Int64) : (0 < lg_cmp y z) ↔ z.toInt < y.toInt := by
  unfold lg_cmp
  simp only [gt_iff_lt, Int64.lt_iff_toInt_lt, ← Int64.toInt_inj]
  repeat' split
  all_goals (constructor <;> intro h <;> first | omega | exact absurd h (by decide) | decide)
theorem div10n {y : Int64} (h : 0 ≤ y.toInt) : (y / 10).toInt = y.toInt / 10 := by
  rw [Int64.toInt_div_of_ne_right y 10 (by decide), show (10 : Int64).toInt = 10 from rfl, Int.tdiv_eq_ediv_of_nonneg h]
theorem mul10 {y : Int64} (h : 0 ≤ y.toInt) (h2 : y.toInt ≤ 2147483648) : (y * 10).toInt = y.toInt * 10 := by
  rw [Int64.toInt_mul, show (10 : Int64).toInt = 10 from rfl]
  exact Int.bmod_eq_of_le (by omega) (by omega)
theorem dig_s (hh : OUh j base m0) {y : Int64} : ∀ (g f : Nat) (u : Int64) (m : MS) (L : List Int32), 0 ≤ u.toInt → u.toInt < 2 ^ f → OUs j base m0 m L → PK (fun m2 _ => OUs j base m0 m2 (L ++ dgT y f u) ∧ m2.2.2.2 = m.2.2.2) ((hg_Te_writeNumber N g).2 m y u) := by
  intro g
  induction g with
  | zero => intro f u m L _ _ _; exact pk_none
  | succ g ih =>
    intro f u m L h0 hf o
    show PK _ (hb_Te_writeNumber_43 N (hg_Te_writeNumber N g) m y u)
    unfold hb_Te_writeNumber_43
    refine pk_br (fun z => pk_some ?_) (fun z => ?_)
    · have z := (lgc_le0 u).mp (of_decide_eq_true z)
      have e : dgT y f u = [] := by
        cases f with
        | zero => rfl
        | succ f => exact if_pos z
      rw [e, List.append_nil]
      exact ⟨o, rfl⟩
    · have z : ¬ u.toInt ≤ 0 := fun q => of_decide_eq_false z ((lgc_le0 u).mpr q)
      cases f with
      | zero => exact absurd hf (by omega)
      | succ f =>
        refine pk_ck (fun _ => pk_ck (fun _ => pk_bnd (pk_mo (write_s hh o) (fun m2 r q => pk_ck (fun _ => ?_)))))
        have e : dgT y (f + 1) u = ((48 + ((y / u) - (y / u) / 10 * 10)).toInt32) :: dgT y f (u / 10) := if_neg z
        have d := div10n h0
        refine pk_mo (ih f (u / 10) m2 _ (by omega) (by rw [d]; rw [Int.pow_succ] at hf; omega) q.1) (fun m3 _ q3 => ⟨?_, q3.2.trans q.2⟩)
        rw [e]
        rw [List.append_assoc] at q3
        exact q3.1
theorem uni_s (hh : OUh j base m0) {y : Int64} (hy : 0 ≤ y.toInt ∧ y.toInt ≤ 2147483648) : ∀ (g f : Nat) (u : Int64) (m : MS) (L : List Int32), 1 ≤ u.toInt ∧ u.toInt ≤ 2147483648 → y.toInt < u.toInt * 2 ^ f → OUs j base m0 m L → PK (fun m2 _ => OUs j base m0 m2 (L ++ dgT y 40 (unT y f u)) ∧ m2.2.2.2 = m.2.2.2) ((hg_Te_writeNumber N g).1 m y u) := by
  intro g
  induction g with
  | zero => intro f u m L _ _ _; exact pk_none
  | succ g ih =>
    intro f u m L h0 hf o
    show PK _ (hb_Te_writeNumber_21 N (hg_Te_writeNumber N g) m y u)
    unfold hb_Te_writeNumber_21
    have d := div10n hy.1
    refine pk_ck (fun _ => pk_br (fun z => ?_) (fun z => ?_))
    · have z := (lgc_gt _ _).mp (of_decide_eq_true z)
      have e : unT y f u = u := by
        cases f with
        | zero => rfl
        | succ f => exact if_pos (by omega)
      rw [e]
      exact dig_s hh g 40 u m L (by omega) (by omega) o
    · have z : ¬ (y / 10).toInt < u.toInt := fun q => of_decide_eq_false z ((lgc_gt _ _).mpr q)
      have m10 := mul10 (y := u) (by omega) (by omega)
      cases f with
      | zero => exact absurd hf (by omega)
      | succ f =>
        have e : unT y (f + 1) u = unT y f (u * 10) := if_neg (by omega)
        rw [e]
        refine ih f (u * 10) m L (by omega) ?_ o
        rw [m10]
        rw [Int.pow_succ] at hf
        have : u.toInt * (2 ^ f * 2) = u.toInt * 2 ^ f * 2 := by rw [Int.mul_assoc]
        have p0 : (0 : Int) ≤ u.toInt * 2 ^ f := Int.mul_nonneg (by omega) (Int.le_of_lt (Int.pow_pos (by decide)))
        have : u.toInt * 10 * 2 ^ f = u.toInt * 2 ^ f * 10 := by rw [Int.mul_assoc, Int.mul_comm 10, ← Int.mul_assoc]
        omega
theorem num_s (hh : OUh j base m0) (o : OUs j base m0 m L) : PK (fun m2 _ => OUs j base m0 m2 (L ++ numT v) ∧ m2.2.2.2 = m.2.2.2) (hm_Te_writeNumber N m v) := by
  have hr := ti_rng v
  have e := toI64 v
  unfold hm_Te_writeNumber hb_Te_writeNumber_0 hb_Te_writeNumber_18
  refine pk_br (fun z => ?_) (fun z => ?_)
  · have z := (lgc_ge _).mp (of_decide_eq_true z)
    have z2 : 0 ≤ v := by rw [Int32.le_iff_toInt_le]; show (0 : Int) ≤ _; omega
    have ea : abT v = v.toInt64 := if_pos z2
    have en : numT v = dgT v.toInt64 40 (unT v.toInt64 40 1) := by unfold numT; rw [if_pos z2, ea]; rfl
    rw [en]
    exact uni_s hh ⟨by omega, by omega⟩ N 40 1 m L ⟨by decide, by decide⟩ (by rw [e]; have : ((1 : Int64).toInt) = 1 := rfl; rw [this]; omega) o
  · have z : ¬ 0 ≤ v.toInt64.toInt := fun q => of_decide_eq_false z ((lgc_ge _).mpr q)
    have z2 : ¬ 0 ≤ v := by rw [Int32.le_iff_toInt_le]; show ¬ (0 : Int) ≤ _; omega
    have ea : abT v = -v.toInt64 := if_neg z2
    have en : numT v = [45] ++ dgT (-v.toInt64) 40 (unT (-v.toInt64) 40 1) := by unfold numT; rw [if_neg z2, ea]
    have e2 := neg64 (x := v.toInt64) (by omega) (by omega)
    rw [en, ← List.append_assoc]
    refine pk_bnd (pk_mo (write_s hh o) (fun m2 r q => ?_))
    exact pk_mo (uni_s hh ⟨by omega, by omega⟩ N 40 1 m2 _ ⟨by decide, by decide⟩ (by rw [e2, e]; have : ((1 : Int64).toInt) = 1 := rfl; rw [this]; omega) q.1) (fun m3 _ q3 => ⟨q3.1, q3.2.trans q.2⟩)
end
end
section
set_option maxRecDepth 100000
noncomputable def PNs (h : Nat → Int64) (A : Nat → List Int32) (e : Nat → Int64) : Nat → List Int32
  | 0 => []
  | 1 => if so (e 0) = 11 then [93] else TXs h A (e 0)
  | k + 2 => if so (e (k + 1)) = 11 then RSs h A (e k) ++ PNs h A e k else TXs h A (e (k + 1)) ++ PNs h A e (k + 1)
def STs (h : Nat → Int64) (R : Int64 → Prop) (e : Nat → Int64) : Nat → Nat → Prop
  | 0, _ => True
  | i + 1, w => ∃ w2, STs h R e i w2 ∧ ((so (e i) = 11 ∧ w2 + 2 ≤ w ∧ ∃ q, i = q + 1 ∧ so (e q) ≠ 11) ∨ (so (e i) ≠ 11 ∧ ∃ k z, SZp h R k (e i) z ∧ z ≤ 1020 ∧ w2 + 1 + 2 * z ≤ w))
def LFs (n : Int) (t : Int64) : Prop := so t ≠ 11 ∧ (so t = 1 → 0 ≤ va t ∧ va t < n)
def ATc (m : MS) (a : Nat) : List Int32 := atT (m.2.2.1 2) (fun i => (A m 3 i).toNat) a
section
variable {h e e' : Nat → Int64} {R : Int64 → Prop} {B : Nat → List Int32} {N j base top w b k z : Nat} {m0 m m2 : MS} {L M : List Int32} {v : Int32} {t x : Int64}
theorem STs_ext : ∀ {i w : Nat}, (∀ q, q < i → e' q = e q) → STs h R e i w → STs h R e' i w
  | 0, _, _, _ => trivial
  | i + 1, w, g, y => by
    obtain ⟨w2, y1, y2⟩ := y
    refine ⟨w2, STs_ext (fun q hq => g q (by omega)) y1, ?_⟩
    rw [g i (by omega)]
    rcases y2 with ⟨a, c, q, d1, d2⟩ | y2
    · exact Or.inl ⟨a, c, q, d1, by rw [g q (by omega)]; exact d2⟩
    · exact Or.inr y2
theorem PNs_ext : ∀ {i : Nat}, (∀ q, q < i → e' q = e q) → PNs h B e' i = PNs h B e i
  | 0, _ => by unfold PNs; rfl
  | 1, g => by
    show (if so (e' 0) = 11 then [93] else TXs h B (e' 0)) = (if so (e 0) = 11 then [93] else TXs h B (e 0))
    rw [g 0 (by omega)]
  | i + 2, g => by
    show (if so (e' (i + 1)) = 11 then RSs h B (e' i) ++ PNs h B e' i else TXs h B (e' (i + 1)) ++ PNs h B e' (i + 1)) = (if so (e (i + 1)) = 11 then RSs h B (e i) ++ PNs h B e i else TXs h B (e (i + 1)) ++ PNs h B e (i + 1))
    rw [g (i + 1) (by omega), g i (by omega), PNs_ext (i := i) (fun q hq => g q (by omega)), PNs_ext (i := i + 1) (fun q hq => g q (by omega))]
theorem STs_le : ∀ {i w : Nat}, STs h R e i w → i ≤ w
  | 0, _, _ => Nat.zero_le _
  | i + 1, w, y => by
    obtain ⟨w2, y1, y2⟩ := y
    have := STs_le y1
    rcases y2 with ⟨-, c, -⟩ | ⟨-, k, z, -, -, c⟩
    · omega
    · omega
theorem STs_mo {w2 : Nat} (hw : w ≤ w2) : ∀ {i : Nat}, STs h R e i w → STs h R e i w2
  | 0, _ => trivial
  | i + 1, y => by
    obtain ⟨w3, y1, y2⟩ := y
    refine ⟨w3, y1, ?_⟩
    rcases y2 with ⟨a, c, d⟩ | ⟨a, k, z, c, d, f⟩
    · exact Or.inl ⟨a, by omega, d⟩
    · exact Or.inr ⟨a, k, z, c, d, by omega⟩
theorem PNs_top (hn : so (e top) ≠ 11) : PNs h B e (top + 1) = TXs h B (e top) ++ PNs h B e top := by
  cases top with
  | zero =>
    show (if so (e 0) = 11 then [93] else TXs h B (e 0)) = TXs h B (e 0) ++ []
    rw [if_neg hn, List.append_nil]
  | succ k => exact if_neg hn
theorem PNs_rest (hn : so (e (k + 1)) = 11) : PNs h B e (k + 2) = RSs h B (e k) ++ PNs h B e k := if_pos hn
theorem TXs_sign {c : Int} (hc : RG c) : TXs h B (mk 10 c) = [I c] := by
  have e1 : so (mk 10 c) = 10 := so_mk (by decide) (by decide)
  rw [TXs_al (by rw [e1]; decide) (by rw [e1]; decide)]
  unfold alT
  rw [e1, va_mk hc.1 hc.2]
  rfl
theorem SZp_so (y : SZp h R k t z) (hR : ∀ t, R t → so t ≠ 11) : so t ≠ 11 := by
  cases k with
  | zero => exact y.elim
  | succ k =>
    rcases y with ⟨-, y5, -⟩ | ⟨y1, -⟩
    · exact hR t y5
    · intro q
      unfold isH at y1
      omega
theorem pushw_s (hw : top < 2048) : PK (fun m2 r => r = I ((top + 1 : Nat) : Int) ∧ m2 = wj m 45 top t) (hm_Te_push N m (I top) t) := by
  unfold hm_Te_push hb_Te_push_0
  rw [show (2048 : Int32) = I 2048 from rfl]
  refine p_less ⟨by omega, by omega⟩ ⟨by decide, by decide⟩ (fun c => pk_ck (fun _ => pk_ltq ?_)) (fun c => absurd (show (top : Int) < ((2048 : Nat) : Int) by omega) c)
  rw [tnI (n := top) rfl (by omega), wj_e, lit1q, I_add]
  exact pk_some ⟨by rw [show ((top : Nat) : Int) + 1 = ((top + 1 : Nat) : Int) by omega], rfl⟩
theorem OUs_wj (o : OUs j base m0 m L) : OUs j base m0 (wj m 45 top t) L := ⟨FR.wj o.1 (by simp), o.2.1, o.2.2.1, o.2.2.2⟩
theorem row_lt : ∀ q, q < top → (wj m 45 top t).2.2.2 45 q = m.2.2.2 45 q := fun q hq => by rw [wj_row, if_neg (by omega)]
theorem row_at : (wj m 45 top t).2.2.2 45 top = t := by rw [wj_row, if_pos rfl]
theorem pusht_s (o : OUs j base m0 m L) (s : STs h R (m.2.2.2 45) top w) (y : SZp h R k t z) (hz : z ≤ 1020) (h11 : so t ≠ 11) (hw : w < 2048) : PK (fun m2 r => r = I ((top + 1 : Nat) : Int) ∧ OUs j base m0 m2 L ∧ STs h R (m2.2.2.2 45) (top + 1) (w + 1 + 2 * z) ∧ (PNs h B (m2.2.2.2 45) (top + 1) = TXs h B t ++ PNs h B (m.2.2.2 45) top ∧ m2.2.2.2 45 top = t)) (hm_Te_push N m (I top) t) := by
  have := STs_le s
  refine pk_mo (pushw_s (by omega)) (fun m2 r q => ?_)
  obtain ⟨rfl, rfl⟩ := q
  refine ⟨rfl, OUs_wj o, ⟨w, STs_ext row_lt s, Or.inr ⟨by rw [row_at]; exact h11, k, z, by rw [row_at]; exact y, hz, Nat.le_refl _⟩⟩, ?_, row_at⟩
  rw [PNs_top (by rw [row_at]; exact h11), row_at, PNs_ext row_lt]
theorem pushr_s (o : OUs j base m0 m L) (s : STs h R (m.2.2.2 45) (top + 1) w) (hq : so (m.2.2.2 45 top) ≠ 11) (hw : w < 2048) : PK (fun m2 r => r = I ((top + 2 : Nat) : Int) ∧ OUs j base m0 m2 L ∧ STs h R (m2.2.2.2 45) (top + 2) (w + 2) ∧ PNs h B (m2.2.2.2 45) (top + 2) = RSs h B (m.2.2.2 45 top) ++ PNs h B (m.2.2.2 45) top) (hm_Te_push N m (I ((top + 1 : Nat) : Int)) (mk 11 0)) := by
  have := STs_le s
  have e1 : so (mk 11 0) = 11 := so_mk (by decide) (by decide)
  refine pk_mo (pushw_s (by omega)) (fun m2 r q => ?_)
  obtain ⟨rfl, rfl⟩ := q
  have rl : ∀ q, q < top + 1 → (wj m 45 (top + 1) (mk 11 0)).2.2.2 45 q = m.2.2.2 45 q := row_lt
  refine ⟨rfl, OUs_wj o, ⟨w, STs_ext rl s, Or.inl ⟨by rw [row_at]; exact e1, Nat.le_refl _, top, rfl, ?_⟩⟩, ?_⟩
  · rw [rl top (by omega)]
    exact hq
  · rw [PNs_rest (by rw [row_at]; exact e1), rl top (by omega), PNs_ext (fun q hq => rl q (by omega))]
theorem jnT_last {c : Nat → List Int32} : ∀ {n i : Nat}, jnT c i (n + 2) = jnT c i (n + 1) ++ 44 :: c (i + n + 1)
  | 0, i => by
    show c i ++ 44 :: c (i + 1) = c i ++ 44 :: c (i + 0 + 1)
    rfl
  | n + 1, i => by
    show c i ++ 44 :: jnT c (i + 1) (n + 2) = (c i ++ 44 :: jnT c (i + 1) (n + 1)) ++ 44 :: c (i + (n + 1) + 1)
    rw [jnT_last (n := n) (i := i + 1), show i + 1 + n + 1 = i + (n + 1) + 1 by omega]
    simp
theorem FRh (hb : b ≠ 45) (hh : m0.2.2.2 b = h) (o : OUs j base m0 m L) : m.2.2.2 b = h := by rw [FRj o.1 (by simpa using hb)]; exact hh
theorem tup_s (hb : b ≠ 45) (hh : m0.2.2.2 b = h) (hR : ∀ t, R t → so t ≠ 11) (hR2 : ∀ c : Int, R (mk 10 c)) (hv : 0 ≤ va t ∧ va t ≤ 1000) {T : List Int32} {c : Nat → Nat} {n0 wt : Nat} (hn : n0 ≤ 1000) (hw : wt < 2048) (hc : ∀ i, 1 ≤ i → i ≤ n0 → SZp h R k (h (vn t + i)) (c i) ∧ c i ≤ 1020) : ∀ (g i top w : Nat) (m : MS), i ≤ n0 → OUs j base m0 m L → STs h R (m.2.2.2 45) top w → w + 2 * i + 2 * smm c 1 i ≤ wt → L ++ (jnT (fun q => TXs h B (h (vn t + q))) 1 i ++ PNs h B (m.2.2.2 45) top) = T → PK (fun m2 r => ∃ top2, r = I ((top2 : Nat) : Int) ∧ OUs j base m0 m2 L ∧ STs h R (m2.2.2.2 45) top2 wt ∧ L ++ PNs h B (m2.2.2.2 45) top2 = T) (hg_Te_toWriteTuple N g m b (I (va t)) (I top) (I i)) := by
  intro g
  induction g with
  | zero => intro i top w m _ _ _ _ _; exact pk_none
  | succ g ih =>
    intro i top w m hi o s hwt hT
    show PK _ (hb_Te_toWriteTuple_20 N (hg_Te_toWriteTuple N g) m b (I (va t)) (I top) (I i))
    unfold hb_Te_toWriteTuple_20 hb_Te_toWriteTuple_60
    have hm := FRh hb hh o
    have ev := vn_e hv.1
    rw [m1I, lit0q, lit1q, ev, I_add, show ((vn t : Nat) : Int) + ((i : Nat) : Int) = ((vn t + i : Nat) : Int) by omega]
    refine p_le ⟨by omega, by omega⟩ ⟨by decide, by decide⟩ (fun a => pk_some ?_) (fun a => ?_)
    · have e0 : i = 0 := by omega
      rw [e0] at hT
      exact ⟨top, rfl, o, STs_mo (by omega) s, hT⟩
    · obtain ⟨i, rfl⟩ : ∃ q, i = q + 1 := ⟨i - 1, by omega⟩
      have es : smm c 1 (i + 1) = smm c 1 i + c (1 + i) := rfl
      obtain ⟨y, yz⟩ := hc (i + 1) (by omega) hi
      rw [show 1 + i = i + 1 by omega] at es
      have dn : I ((i + 1 : Nat) : Int) + I (-1) = I ((i : Nat) : Int) := by rw [I_add]; congr 1; omega
      refine pk_ck (fun _ => ?_)
      rw [tnI (n := vn t + (i + 1)) rfl (by omega), hm]
      refine pk_bnd (pk_mo (pusht_s (B := B) o s y yz (SZp_so y hR) (by omega)) (fun m2 r q => ?_))
      obtain ⟨rfl, o2, s2, p2, -⟩ := q
      rw [dn, ← ev]
      refine p_le ⟨by omega, by omega⟩ ⟨by decide, by decide⟩ (fun a2 => ?_) (fun a2 => ?_)
      · have e0 : i = 0 := by omega
        subst e0
        refine ih 0 (top + 1) _ m2 (by omega) o2 s2 (by omega) ?_
        rw [p2]
        exact hT
      · obtain ⟨i, rfl⟩ : ∃ q, i = q + 1 := ⟨i - 1, by omega⟩
        rw [show (10 : Int32) = I 10 from rfl, show (44 : Int32) = I 44 from rfl, e_make, bnd_so]
        refine pk_bnd (pk_mo (pusht_s (B := B) (k := 1) (z := 0) o2 s2 (Or.inl ⟨?_, hR2 _, rfl⟩) (by omega) (by rw [so_mk (by decide) (by decide)]; decide) (by omega)) (fun m3 r q => ?_))
        · exact nh_so (by rw [so_mk (by decide) (by decide)]; decide)
        obtain ⟨rfl, o3, s3, p3, -⟩ := q
        refine ih (i + 1) (top + 1 + 1) _ m3 (by omega) o3 s3 (by omega) ?_
        rw [p3, p2, TXs_sign ⟨by decide, by decide⟩, ← hT, jnT_last (n := i) (i := 1), show 1 + i + 1 = i + 1 + 1 by omega]
        simp
        rfl
end
end
section
set_option maxRecDepth 100000
section
variable {h : Nat → Int64} {R : Int64 → Prop} {B : Nat → List Int32} {N j base top w b k z : Nat} {m0 m m2 : MS} {L M : List Int32} {v : Int32} {t x : Int64}
theorem toTup_s (hb : b ≠ 45) (hh : m0.2.2.2 b = h) (hR : ∀ t, R t → so t ≠ 11) (hR2 : ∀ c : Int, R (mk 10 c)) (o : OUs j base m0 m L) (s : STs h R (m.2.2.2 45) top w) (y : SZp h R k t z) (hz : z ≤ 1020) (e5 : so t = 5) (hw : w + 2 * z < 2048) : PK (fun m2 r => ∃ top2, r = I ((top2 : Nat) : Int) ∧ OUs j base m0 m2 L ∧ STs h R (m2.2.2.2 45) top2 (w + 2 * z) ∧ L ++ PNs h B (m2.2.2.2 45) top2 = L ++ (jnT (fun q => TXs h B (h (vn t + q))) 1 (blk h t - 1) ++ 125 :: PNs h B (m.2.2.2 45) top)) (hm_Te_toWriteTuple N m b (I (va t)) (I top)) := by
  cases k with
  | zero => exact y.elim
  | succ k =>
    rcases y with ⟨y1, -⟩ | ⟨y1, ⟨v1, v2, v3⟩, c, y3, y4⟩
    · exact absurd (Or.inr (Or.inl e5)) y1
    have v3 := v3 e5
    have p1 : prt t = 1 := by unfold prt; rw [if_neg (by omega), if_pos e5]
    have hbk : blk h t = 1 + vn (h (vn t)) := by unfold blk; rw [if_neg (by omega), if_pos e5]
    have ev := vn_e v1
    have eh := vn_e v3.1
    rw [p1, hbk, show 1 + vn (h (vn t)) - 1 = vn (h (vn t)) by omega] at y4
    rw [hbk, show 1 + vn (h (vn t)) - 1 = vn (h (vn t)) by omega]
    unfold hm_Te_toWriteTuple hb_Te_toWriteTuple_0
    rw [show (10 : Int32) = I 10 from rfl, show (125 : Int32) = I 125 from rfl, e_make, bnd_so]
    refine pk_bnd (pk_mo (pusht_s (B := B) (k := 1) (z := 0) o s (Or.inl ⟨nh_so (by rw [so_mk (by decide) (by decide)]; decide), hR2 _, rfl⟩) (by omega) (by rw [so_mk (by decide) (by decide)]; decide) (by omega)) (fun m3 r q => ?_))
    obtain ⟨rfl, o3, s3, q3, -⟩ := q
    rw [TXs_sign ⟨by decide, by decide⟩] at q3
    have hm := FRh hb hh o3
    refine pk_ck (fun _ => ?_)
    rw [show (I (va t)).toNatClampNeg = vn t from tnI ev (by omega), hm, valI, eh]
    refine tup_s (N := N) (B := B) (k := k) (c := c) (n0 := vn (h (vn t))) (wt := w + 2 * z) hb hh hR hR2 ⟨v1, v2⟩ (by omega) hw (fun i h1 h2 => ⟨y3 i (by omega) (by omega), ?_⟩) N (vn (h (vn t))) (top + 1) _ m3 (Nat.le_refl _) o3 s3 (by omega) ?_
    · have le := smm_le (c := c) (a := 1) (n := vn (h (vn t))) (j := i) (by omega) (by omega)
      omega
    · rw [q3]
      rfl
theorem toPair_s (hb : b ≠ 45) (hh : m0.2.2.2 b = h) (hR : ∀ t, R t → so t ≠ 11) (o : OUs j base m0 m L) (s : STs h R (m.2.2.2 45) top w) (y : SZp h R k t z) (hz : z ≤ 1020) (e7 : so t = 7) (hw : w + 2 * z < 2048) : PK (fun m2 r => r = I ((top + 3 : Nat) : Int) ∧ OUs j base m0 m2 L ∧ STs h R (m2.2.2.2 45) (top + 3) (w + 2 * z) ∧ PNs h B (m2.2.2.2 45) (top + 3) = TXs h B (h (vn t)) ++ (RSs h B (h (vn t + 1)) ++ PNs h B (m.2.2.2 45) top)) (hm_Te_toWritePair N m b (I (va t)) (I top)) := by
  cases k with
  | zero => exact y.elim
  | succ k =>
    rcases y with ⟨y1, -⟩ | ⟨y1, ⟨v1, v2, v3⟩, c, y3, y4⟩
    · exact absurd (Or.inr (Or.inr e7)) y1
    have b2 : blk h t = 2 := by unfold blk; rw [if_pos e7]
    have p0 : prt t = 0 := by unfold prt; rw [if_pos e7]
    have q0 : SZp h R k (h (vn t)) (c 0) := y3 0 (by omega) (by omega)
    have q1 := y3 1 (by omega) (by omega)
    rw [b2, p0] at y4
    have e2 : smm c 0 (2 - 0) = c 0 + c 1 := by show 0 + c (0 + 0) + c (0 + 1) = _; simp
    have ev := vn_e v1
    unfold hm_Te_toWritePair hb_Te_toWritePair_0
    have hm := FRh hb hh o
    rw [ev, lit1q, I_add, show ((vn t : Nat) : Int) + 1 = ((vn t + 1 : Nat) : Int) by omega]
    refine pk_ck (fun _ => ?_)
    rw [tnI (n := vn t + 1) rfl (by omega), hm]
    refine pk_bnd (pk_mo (pusht_s (B := B) o s q1 (by omega) (SZp_so q1 hR) (by omega)) (fun m3 r q => ?_))
    obtain ⟨rfl, o3, s3, q3, r3⟩ := q
    rw [show (11 : Int32) = I 11 from rfl, lit0q, e_make, bnd_so]
    refine pk_bnd (pk_mo (pushr_s (B := B) o3 s3 (by rw [r3]; exact SZp_so q1 hR) (by omega)) (fun m4 r q => ?_))
    obtain ⟨rfl, o4, s4, q4⟩ := q
    have hm4 := FRh hb hh o4
    refine pk_ck (fun _ => ?_)
    rw [tnI (n := vn t) rfl (by omega), hm4]
    refine pk_bnd (pk_mo (pusht_s (B := B) o4 s4 q0 (by omega) (SZp_so q0 hR) (by omega)) (fun m5 r q => ?_))
    obtain ⟨rfl, o5, s5, q5, -⟩ := q
    have e3 : PNs h B (m3.2.2.2 45) top = PNs h B (m.2.2.2 45) top := by
      have z1 := PNs_top (h := h) (B := B) (e := m3.2.2.2 45) (top := top) (by rw [r3]; exact SZp_so q1 hR)
      rw [q3, r3] at z1
      exact (List.append_cancel_left z1).symm
    refine pk_some ⟨rfl, o5, STs_mo (by omega) s5, ?_⟩
    rw [q5, q4, r3, e3]
theorem toRest_s (hb : b ≠ 45) (hh : m0.2.2.2 b = h) (hR : ∀ t, R t → so t ≠ 11) (hR2 : ∀ c : Int, R (mk 10 c)) (hO : OUh j base m0) (o : OUs j base m0 m L) (s : STs h R (m.2.2.2 45) top w) (y : SZp h R k (m.2.2.2 45 top) z) (hz : z ≤ 1020) (hw : w + 2 + 2 * z < 2048) : PK (fun m2 r => ∃ top2 L2, r = I ((top2 : Nat) : Int) ∧ OUs j base m0 m2 L2 ∧ STs h R (m2.2.2.2 45) top2 (w + 2 + 2 * z) ∧ L2 ++ PNs h B (m2.2.2.2 45) top2 = L ++ (RSs h B (m.2.2.2 45 top) ++ PNs h B (m.2.2.2 45) top)) (hm_Te_toWriteRest N m b (I ((top : Nat) : Int))) := by
  have tl := STs_le s
  unfold hm_Te_toWriteRest hb_Te_toWriteRest_0
  have np : ¬ (I ((top : Nat) : Int) < 0) := by
    rw [lit0q, I_lt (by omega) (by omega) (by decide) (by decide)]
    omega
  rw [decide_eq_false np, br_fq]
  refine pk_ck (fun _ => ?_)
  rw [tnI (n := top) rfl (by omega)]
  generalize ht : m.2.2.2 45 top = t at y ⊢
  unfold hb_Te_toWriteRest_19
  refine pk_ltq ?_
  rw [if_neg np, e_tag, bnd_so, show (6 : Int32) = I 6 from rfl]
  refine p_eq (so_r t) ⟨by decide, by decide⟩ (fun e6 => ?_) (fun n6 => ?_)
  · have e6 : so t = 6 := e6
    refine pk_bnd (pk_mo (write_s hO o) (fun m3 r q => ?_))
    obtain ⟨o3, r3⟩ := q
    refine pk_some ⟨top, _, rfl, o3, by rw [r3]; exact STs_mo (by omega) s, ?_⟩
    rw [r3, RSs_nil e6]
    simp
  · have n6 : so t ≠ 6 := n6
    rw [e_tag, bnd_so, show (7 : Int32) = I 7 from rfl]
    refine p_eq (so_r t) ⟨by decide, by decide⟩ (fun e7 => ?_) (fun n7 => ?_)
    · have e7 : so t = 7 := e7
      refine pk_bnd (pk_mo (write_s hO o) (fun m3 r q => ?_))
      obtain ⟨o3, r3⟩ := q
      rw [valI]
      refine pk_bnd (pk_mo (toPair_s (N := N) (B := B) (w := w) hb hh hR o3 (by rw [r3]; exact s) y hz e7 (by omega)) (fun m4 r q => ?_))
      obtain ⟨rfl, o4, s4, q4⟩ := q
      refine pk_some ⟨top + 3, _, rfl, o4, STs_mo (by omega) s4, ?_⟩
      rw [q4, r3, (TXs_pair (A := B) y (by omega) e7).2]
      simp
    · have n7 : so t ≠ 7 := n7
      refine pk_bnd (pk_mo (write_s hO o) (fun m3 r q => ?_))
      obtain ⟨o3, r3⟩ := q
      rw [show (10 : Int32) = I 10 from rfl, show (93 : Int32) = I 93 from rfl, e_make, bnd_so]
      refine pk_bnd (pk_mo (pusht_s (B := B) (k := 1) (z := 0) (top := top) (w := w) o3 (by rw [r3]; exact s) (Or.inl ⟨nh_so (by rw [so_mk (by decide) (by decide)]; decide), hR2 _, rfl⟩) (by omega) (by rw [so_mk (by decide) (by decide)]; decide) (by omega)) (fun m4 r q => ?_))
      obtain ⟨rfl, o4, s4, q4, -⟩ := q
      refine pk_bnd (pk_mo (pusht_s (B := B) o4 s4 y hz (SZp_so y hR) (by omega)) (fun m5 r q => ?_))
      obtain ⟨rfl, o5, s5, q5, -⟩ := q
      refine pk_some ⟨top + 1 + 1, _, rfl, o5, STs_mo (by omega) s5, ?_⟩
      rw [q5, q4, r3, TXs_sign ⟨by decide, by decide⟩, RSs_imp (A := B) y (by omega) n6 n7]
      simp
      rfl
theorem wlen_s {u : MS} {v a : Nat} (h : WDc u v) (ha : (a : Int) < F u (20 * v + 2)) : OK (fun w r => w = u ∧ r = I (A u (v + 2) (a + 1) - A u (v + 2) a)) (hm_Wo_length N u v (I a)) := by
  obtain ⟨h1, h2, h3, h3b, h4⟩ := h
  unfold hm_Wo_length hb_Wo_length_0 hb_Wo_length_12 hb_Wo_length_31
  simp only [I_F, I_A, lit0q, lit1q, I_add, I_sub]
  obtain ⟨g1, g2, g3⟩ := h4 a ha
  refine k_lt ⟨by omega, by omega⟩ ⟨by decide, by decide⟩ (fun z => by omega) (fun a0 => k_lt ⟨by omega, by omega⟩ (FRG1 u _) (fun a1 => ?_) (fun z => by omega))
  refine e_in ⟨by omega, by omega⟩ (by omega) (e_in ⟨by omega, by omega⟩ (by omega) ?_)
  rw [show ((a : Nat) : Int) + 1 = ((a + 1 : Nat) : Int) by omega, tnI (n := a + 1) rfl (by omega), tnI (n := a) rfl (by omega)]
  exact ok_some.mpr ⟨rfl, rfl⟩
theorem wsgn_s {u : MS} {v a k : Nat} (h : WDc u v) (ha : (a : Int) < F u (20 * v + 2)) (hk : (k : Int) < A u (v + 2) (a + 1) - A u (v + 2) a) : OK (fun w r => w = u ∧ r = u.2.2.1 (v + 1) ((A u (v + 2) a).toNat + k)) (hm_Wo_sign N u v (I a) (I k)) := by
  obtain ⟨h1, h2, h3, h3b, h4⟩ := h
  unfold hm_Wo_sign hb_Wo_sign_0 hb_Wo_sign_35
  simp only [I_F, I_A, lit0q, lit1q, I_add, I_sub]
  obtain ⟨g1, g2, g3⟩ := h4 a ha
  refine k_lt ⟨by omega, by omega⟩ ⟨by decide, by decide⟩ (fun z => by omega) (fun a0 => k_le (FRG1 u _) ⟨by omega, by omega⟩ (fun z => by omega) (fun a1 => k_lt ⟨by omega, by omega⟩ ⟨by decide, by decide⟩ (fun z => by omega) (fun k0 => ?_)))
  refine e_in ⟨by omega, by omega⟩ (by omega) (e_in ⟨by omega, by omega⟩ (by omega) ?_)
  rw [show ((a : Nat) : Int) + 1 = ((a + 1 : Nat) : Int) by omega, tnI (n := a + 1) rfl (by omega), tnI (n := a) rfl (by omega)]
  refine k_lt ⟨by omega, by omega⟩ ⟨by omega, by omega⟩ (fun k1 => e_in ⟨by omega, by omega⟩ (by omega) (e_in ⟨by omega, by omega⟩ (by omega) (ok_some.mpr ⟨rfl, ?_⟩))) (fun z => by omega)
  rw [tnI (n := (A u (v + 2) a).toNat + k) (by omega) (by omega)]
theorem atT_drop {sg : Nat → Int32} {fr : Nat → Nat} {a k : Nat} (hk : k < fr (a + 1) - fr a) : (atT sg fr a).drop k = sg (fr a + k) :: (atT sg fr a).drop (k + 1) := by
  have hl : k < (atT sg fr a).length := by unfold atT; simpa using hk
  rw [List.drop_eq_getElem_cons hl]
  congr 1
  simp [atT]
theorem atT_end {sg : Nat → Int32} {fr : Nat → Nat} {a k : Nat} (hk : fr (a + 1) - fr a ≤ k) : (atT sg fr a).drop k = [] := by
  apply List.drop_eq_nil_of_le
  unfold atT
  simpa using hk
theorem alw_s (hO : OUh j base m0) (hA : WDc m0 1) {a : Nat} (ha : (a : Int) < F m0 22) : ∀ (g i : Nat) (m : MS) (L : List Int32), i ≤ 100000 → OUs j base m0 m L → PK (fun m2 _ => OUs j base m0 m2 (L ++ (ATc m0 a).drop i) ∧ m2.2.2.2 = m.2.2.2) (hg_Te_writeAlone N g m (I a) (I i)) := by
  intro g
  have hj3 : ∀ y, y < 10 → y ∉ [j] := fun y hy q => by
    have := hO.2.2.2.2
    simp at q
    omega
  have ha2 := hA.2.2.2.2 a ha
  have r3 := hA.2.2.2.1
  induction g with
  | zero => intro i m L _ _; exact pk_none
  | succ g ih =>
    intro i m L hi o
    show PK _ (hb_Te_writeAlone_59 N (hg_Te_writeAlone N g) m (I a) (I i))
    unfold hb_Te_writeAlone_59 hb_Te_writeAlone_170
    have hA2 : WDc m 1 := WDc_fr hA o.1 (by simp) (hj3 3 (by omega))
    have ea : ∀ q, A m 3 q = A m0 3 q := fun q => FR.A o.1 (hj3 3 (by omega))
    have ha3 : (a : Int) < F m (20 * 1 + 2) := by rw [FR.F o.1 (by simp)]; exact ha
    have g2 : A m (1 + 2) (a + 1) - A m (1 + 2) a = A m0 3 (a + 1) - A m0 3 a := by rw [show (1 + 2 : Nat) = 3 from rfl, ea, ea]
    refine pk_bnd (pk_mo (pk_ok (wlen_s (N := N) hA2 ha3)) (fun m3 r q => ?_))
    obtain ⟨rfl, rfl⟩ := q
    rw [g2]
    have b1 : 0 ≤ A m0 3 a ∧ A m0 3 a ≤ A m0 3 (a + 1) ∧ A m0 3 (a + 1) ≤ bl 2 := ha2
    have b2 : bl 2 ≤ 100000 := r3
    refine p_le ⟨by omega, by omega⟩ ⟨by omega, by omega⟩ (fun c => pk_some ⟨?_, rfl⟩) (fun c => ?_)
    · have e : (ATc m0 a).drop i = [] := atT_end (fr := fun i => (A m0 3 i).toNat) (by omega)
      rw [e, List.append_nil]
      exact o
    · refine pk_bnd (pk_mo (pk_ok (wsgn_s (N := N) (k := i) hA2 ha3 (by rw [g2]; omega))) (fun m4 r q => ?_))
      obtain ⟨rfl, rfl⟩ := q
      refine pk_bnd (pk_mo (write_s hO o) (fun m5 r q => ?_))
      obtain ⟨o5, r5⟩ := q
      rw [lit1q, I_add, show ((i : Nat) : Int) + 1 = ((i + 1 : Nat) : Int) by omega]
      refine pk_mo (ih (i + 1) m5 _ (by omega) o5) (fun m6 r q => ⟨?_, q.2.trans r5⟩)
      have e : (ATc m0 a).drop i = m0.2.2.1 2 ((A m0 3 a).toNat + i) :: (ATc m0 a).drop (i + 1) := atT_drop (sg := m0.2.2.1 2) (fr := fun i => (A m0 3 i).toNat) (by omega)
      have e5 : m4.2.2.1 (1 + 1) ((A m4 (1 + 2) a).toNat + i) = m0.2.2.1 2 ((A m0 3 a).toNat + i) := by
        rw [show (1 + 1 : Nat) = 2 from rfl, show (1 + 2 : Nat) = 3 from rfl, ea, o.1.2.2.1 2 (hj3 2 (by omega))]
      rw [e]
      rw [e5, List.append_assoc] at q
      exact q.1
theorem alone_s (hO : OUh j base m0) (hA : WDc m0 1) (h5 : so t ≠ 5) (ha : so t = 1 → 0 ≤ va t ∧ va t < F m0 22) (o : OUs j base m0 m L) : PK (fun m2 _ => OUs j base m0 m2 (L ++ alT (ATc m0) t) ∧ m2.2.2.2 = m.2.2.2) (hm_Te_writeAlone N m t) := by
  unfold hm_Te_writeAlone hb_Te_writeAlone_0 hb_Te_writeAlone_170
  have hr := so_r t
  rw [e_tag, bnd_so, valI, lit0q, lit1q, show (2 : Int32) = I 2 from rfl, show (3 : Int32) = I 3 from rfl, show (4 : Int32) = I 4 from rfl, show (5 : Int32) = I 5 from rfl, show (6 : Int32) = I 6 from rfl]
  unfold alT
  refine p_eq hr ⟨by decide, by decide⟩ (fun c => ?_) (fun c0 => ?_)
  · rw [if_pos c]
    exact pk_bnd (pk_mo (num_s hO o) (fun m3 r q => pk_some q))
  rw [if_neg c0]
  refine p_eq hr ⟨by decide, by decide⟩ (fun c => ?_) (fun c1 => ?_)
  · rw [if_pos c]
    have q := ha c
    have ev := vn_e q.1
    rw [ev]
    exact alw_s (N := N) hO hA (a := vn t) (by omega) N 0 m L (by omega) o
  rw [if_neg c1]
  refine p_eq hr ⟨by decide, by decide⟩ (fun c => ?_) (fun c2 => ?_)
  · have c : so t = 2 := c
    rw [if_pos c]
    refine pk_bnd (pk_mo (write_s hO o) (fun m3 r q => pk_bnd (pk_mo (num_s hO q.1) (fun m4 r q4 => pk_some ⟨?_, q4.2.trans q.2⟩))))
    rw [List.append_assoc] at q4
    exact q4.1
  have c2 : ¬ so t = 2 := c2
  rw [if_neg c2]
  refine p_eq hr ⟨by decide, by decide⟩ (fun c => ?_) (fun c3 => ?_)
  · have c : so t = 3 := c
    rw [if_pos c]
    refine pk_bnd (pk_mo (write_s hO o) (fun m3 r q => pk_bnd (pk_mo (write_s hO q.1) (fun m4 r q4 => pk_bnd (pk_mo (write_s hO q4.1) (fun m5 r q5 => pk_some ⟨?_, q5.2.trans (q4.2.trans q.2)⟩))))))
    rw [List.append_assoc, List.append_assoc] at q5
    exact q5.1
  have c3 : ¬ so t = 3 := c3
  rw [if_neg c3]
  refine p_eq hr ⟨by decide, by decide⟩ (fun c => ?_) (fun c4 => ?_)
  · have c : so t = 4 := c
    rw [if_pos c]
    refine pk_bnd (pk_mo (write_s hO o) (fun m3 r q => pk_bnd (pk_mo (num_s hO q.1) (fun m4 r q4 => pk_bnd (pk_mo (write_s hO q4.1) (fun m5 r q5 => pk_some ⟨?_, q5.2.trans (q4.2.trans q.2)⟩))))))
    rw [List.append_assoc, List.append_assoc] at q5
    exact q5.1
  have c4 : ¬ so t = 4 := c4
  rw [if_neg c4]
  refine p_eq hr ⟨by decide, by decide⟩ (fun c => absurd c h5) (fun c5 => ?_)
  refine p_eq hr ⟨by decide, by decide⟩ (fun c => ?_) (fun c6 => ?_)
  · have c : so t = 6 := c
    rw [if_pos c]
    refine pk_bnd (pk_mo (write_s hO o) (fun m3 r q => pk_bnd (pk_mo (write_s hO q.1) (fun m4 r q4 => pk_some ⟨?_, q4.2.trans q.2⟩))))
    rw [List.append_assoc] at q4
    exact q4.1
  have c6 : ¬ so t = 6 := c6
  rw [if_neg c6]
  exact pk_bnd (pk_mo (write_s hO o) (fun m3 r q => pk_some q))
end
end
section
set_option maxRecDepth 100000
section
variable {h : Nat → Int64} {N j base top w b k z : Nat} {m0 m m2 u : MS} {L M T : List Int32} {t x : Int64}
theorem OUs_more (hl : 100 ≤ L.length) (o : OUs j base m0 m L) : OUs j base m0 m (L ++ M) := by
  obtain ⟨o1, o2, o3, o4⟩ := o
  have e : min (L ++ M).length 100 = min L.length 100 := by rw [List.length_append]; omega
  refine ⟨o1, by rw [e]; exact o2, fun i hi => ?_, o4⟩
  rw [e] at hi
  rw [getD_app1 (by omega)]
  exact o3 i hi
theorem LFs_so (n : Int) : ∀ t, LFs n t → so t ≠ 11 := fun _ q => q.1
theorem LFs_sg (n : Int) : ∀ c : Int, LFs n (mk 10 c) := fun c => by
  unfold LFs
  rw [so_mk (by decide) (by decide)]
  exact ⟨by decide, fun q => absurd q (by decide)⟩
theorem loop_s (hb : b ≠ 45) (hh : m0.2.2.2 b = h) (hO : OUh j base m0) (hA : WDc m0 1) : ∀ (g top cn w : Nat) (m : MS) (L : List Int32), OUs j base m0 m L → STs h (LFs (F m0 22)) (m.2.2.2 45) top w → w + cn ≤ 2041 → L ++ PNs h (ATc m0) (m.2.2.2 45) top = T → PK (fun m2 r => OUs j base m0 m2 T ∧ r = I ((min T.length 100 : Nat) : Int)) (hg_Te_text N g m b (I top) (I cn)) := by
  intro g
  induction g with
  | zero => intro top cn w m L _ _ _ _; exact pk_none
  | succ g ih =>
    intro top cn w m L o s hw hT
    have tl := STs_le s
    show PK _ (hb_Te_text_30 N (hg_Te_text N g) m b (I top) (I cn))
    unfold hb_Te_text_30 hb_Te_text_174
    have fin : OUs j base m0 m T → PK (fun m2 r => OUs j base m0 m2 T ∧ r = I ((min T.length 100 : Nat) : Int)) (some (m, m.1 866)) := fun q => pk_some ⟨q, by rw [← q.2.1]; exact I_F⟩
    rw [m1I, lit0q, show (1000000000 : Int32) = I 1000000000 from rfl, show (5 : Int32) = I 5 from rfl, show (7 : Int32) = I 7 from rfl, show (11 : Int32) = I 11 from rfl]
    refine p_le ⟨by decide, by decide⟩ ⟨by omega, by omega⟩ (fun c => absurd c (by omega)) (fun c1 => ?_)
    refine p_le ⟨by omega, by omega⟩ ⟨by decide, by decide⟩ (fun c => fin ?_) (fun c2 => ?_)
    · have e0 : top = 0 := by omega
      rw [e0] at hT
      have hT : L ++ [] = T := hT
      rw [List.append_nil] at hT
      rw [← hT]
      exact o
    refine pk_br (fun c => fin ?_) (fun _ => ?_)
    · have f6 := o.2.1
      have c3 : (100 : Int) ≤ F m 866 := by
        rw [I_F (k := 866), show (100 : Int32) = I 100 from rfl, decI (by decide) (by decide) (by omega) (by omega)] at c
        exact of_decide_eq_true c
      rw [← hT]
      exact OUs_more (by omega) o
    obtain ⟨q, rfl⟩ : ∃ q, top = q + 1 := ⟨top - 1, by omega⟩
    have e1 : I (((q + 1 : Nat) : Int)) + I (-1) = I ((q : Nat) : Int) := by rw [I_add]; congr 1; omega
    rw [e1]
    refine pk_ck (fun _ => ?_)
    rw [tnI (n := q) rfl (by omega), e_tag, bnd_so, valI]
    obtain ⟨w2, s2, s3⟩ := s
    have hm := FRh hb hh o
    have nxt : ∀ (m3 : MS) (L3 : List Int32) (tp w3 : Nat), OUs j base m0 m3 L3 → STs h (LFs (F m0 22)) (m3.2.2.2 45) tp w3 → w3 + 1 ≤ w → L3 ++ PNs h (ATc m0) (m3.2.2.2 45) tp = T → PK (fun m2 r => OUs j base m0 m2 T ∧ r = I ((min T.length 100 : Nat) : Int)) (hb_Te_text_168 N (hg_Te_text N g) m3 b (I tp) (I cn)) := by
      intro m3 L3 tp w3 o3 t3 hw3 hT3
      unfold hb_Te_text_168
      rw [lit1q, I_add, show ((cn : Nat) : Int) + 1 = ((cn + 1 : Nat) : Int) by omega]
      exact ih tp (cn + 1) w3 m3 L3 o3 t3 (by omega) hT3
    have hr := so_r (m.2.2.2 45 q)
    refine p_eq hr ⟨by decide, by decide⟩ (fun e5 => ?_) (fun n5 => p_eq hr ⟨by decide, by decide⟩ (fun e7 => ?_) (fun n7 => p_eq hr ⟨by decide, by decide⟩ (fun e11 => ?_) (fun n11 => ?_)))
    · have e5 : so (m.2.2.2 45 q) = 5 := e5
      rcases s3 with ⟨y, -⟩ | ⟨y, k, z, y2, y3, y4⟩
      · omega
      rw [PNs_top y, TXs_tup (A := ATc m0) y2 (by omega) e5] at hT
      refine pk_bnd (pk_mo (write_s hO o) (fun m3 r q3 => ?_))
      obtain ⟨o3, r3⟩ := q3
      refine pk_bnd (pk_mo (toTup_s (N := N) (B := ATc m0) (w := w2) hb hh (LFs_so _) (LFs_sg _) o3 (by rw [r3]; exact s2) y2 y3 e5 (by omega)) (fun m4 r q4 => ?_))
      obtain ⟨tp, rfl, o4, s4, p4⟩ := q4
      refine nxt m4 _ tp _ o4 s4 (by omega) ?_
      rw [p4, r3, ← hT]
      simp
    · have e7 : so (m.2.2.2 45 q) = 7 := e7
      rcases s3 with ⟨y, -⟩ | ⟨y, k, z, y2, y3, y4⟩
      · omega
      rw [PNs_top y, (TXs_pair (A := ATc m0) y2 (by omega) e7).1] at hT
      refine pk_bnd (pk_mo (write_s hO o) (fun m3 r q3 => ?_))
      obtain ⟨o3, r3⟩ := q3
      refine pk_bnd (pk_mo (toPair_s (N := N) (B := ATc m0) (w := w2) hb hh (LFs_so _) o3 (by rw [r3]; exact s2) y2 y3 e7 (by omega)) (fun m4 r q4 => ?_))
      obtain ⟨rfl, o4, s4, p4⟩ := q4
      refine nxt m4 _ (q + 3) _ o4 s4 (by omega) ?_
      rw [p4, r3, ← hT]
      simp
    · have e11 : so (m.2.2.2 45 q) = 11 := e11
      rcases s3 with ⟨-, y2, i, rfl, y3⟩ | ⟨y, -⟩
      · obtain ⟨w3, s4, s5⟩ := s2
        rcases s5 with ⟨y, -⟩ | ⟨y, k, z, y4, y5, y6⟩
        · exact absurd y y3
        rw [PNs_rest e11] at hT
        rw [lit1q, I_sub, show ((i + 1 : Nat) : Int) - 1 = ((i : Nat) : Int) by omega]
        refine pk_bnd (pk_mo (toRest_s (N := N) (B := ATc m0) hb hh (LFs_so _) (LFs_sg _) hO o s4 y4 y5 (by omega)) (fun m4 r q4 => ?_))
        obtain ⟨tp, L4, rfl, o4, s4, p4⟩ := q4
        refine nxt m4 _ tp _ o4 s4 (by omega) ?_
        rw [p4]
        exact hT
      · exact absurd e11 y
    · have n5 : so (m.2.2.2 45 q) ≠ 5 := n5
      have n7 : so (m.2.2.2 45 q) ≠ 7 := n7
      have n11 : so (m.2.2.2 45 q) ≠ 11 := n11
      rcases s3 with ⟨y, -⟩ | ⟨y, k, z, y2, y3, y4⟩
      · exact absurd y n11
      rw [PNs_top y, TXs_al (A := ATc m0) n5 n7] at hT
      refine pk_bnd (pk_mo (alone_s (N := N) hO hA n5 (fun e => ?_) o) (fun m3 r q3 => ?_))
      · cases k with
        | zero => exact y2.elim
        | succ k =>
          rcases y2 with ⟨-, y5, -⟩ | ⟨y1, -⟩
          · exact y5.2 e
          · unfold isH at y1
            omega
      obtain ⟨o3, r3⟩ := q3
      refine nxt m3 _ q w2 o3 (by rw [r3]; exact s2) (by omega) ?_
      rw [r3, List.append_assoc]
      exact hT
theorem text_s {fr : Nat} (hA : WDc u 1) (hb : b ≠ 45) (hh : u.2.2.2 b = h) (y : SZp h (LFs (F u 22)) k t z) (hz : z ≤ 1020) (hj : j = 52 ∨ j = 56) (hf : fr + 100 ≤ bl j) : PK (fun m2 r => FR [1964, 865, 866] [] [j] [45] u m2 ∧ r = I ((min (TXs h (ATc u) t).length 100 : Nat) : Int) ∧ (∀ i, i < min (TXs h (ATc u) t).length 100 → m2.2.2.1 j (fr + i) = byS8 ((TXs h (ATc u) t).getD i 0)) ∧ ∀ i, ¬ (fr ≤ i ∧ i < fr + 100) → m2.2.2.1 j i = u.2.2.1 j i) (hm_Te_text N u b t j (I ((fr : Nat) : Int))) := by
  unfold hm_Te_text hb_Te_text_0
  have hjl : j < 100 := by rcases hj with rfl | rfl <;> decide
  have hbl : bl j ≤ 20000 := by rcases hj with rfl | rfl <;> decide
  refine pk_ltq (pk_ltq (pk_ltq (pk_ck (fun _ => pk_ltq ?_))))
  rw [show Int32.ofNat j = I (j : Int) from rfl, wi_e, wi_e, lit0q, wi_e, show (I 0).toNatClampNeg = 0 from rfl, wj_e, lit1q, show (0 : Int) = ((0 : Nat) : Int) from rfl, show (1 : Int) = ((1 : Nat) : Int) from rfl]
  generalize hz2 : wj (wi (wi (wi u 1964 (j : Int)) 865 ((fr : Nat) : Int)) 866 ((0 : Nat) : Int)) 45 0 t = y0
  have fz : FR [1964, 865, 866] [] [] [45] u y0 := by rw [← hz2]; exact FR.wj (FR.wi (FR.wi (FR.wi FR.rf (by simp)) (by simp)) (by simp)) (by simp)
  have eA : ATc y0 = ATc u := by rw [← hz2]; rfl
  have e22 : F y0 22 = F u 22 := FR.F fz (by simp)
  have hO : OUh j fr y0 := by
    refine ⟨?_, ?_, hf, hbl, hj⟩
    · rw [← hz2]
      show rf (I (j : Int)) = some j
      exact rf_ofNat (by omega)
    · rw [← hz2, F_wj, F_wi (by decide) (by decide), if_neg (by decide), F_wi (by omega) (by omega), if_pos rfl]
  have o0 : OUs j fr y0 y0 [] := by
    refine ⟨FR.rf, ?_, fun i hi => absurd hi (by simp), fun _ _ => rfl⟩
    rw [← hz2, F_wj, F_wi (by decide) (by decide), if_pos rfl]
    rfl
  have r0 : y0.2.2.2 45 0 = t := by rw [← hz2, wj_row, if_pos rfl]
  have n11 : so t ≠ 11 := SZp_so y (LFs_so _)
  have s0 : STs h (LFs (F y0 22)) (y0.2.2.2 45) 1 2041 := ⟨0, trivial, Or.inr ⟨by rw [r0]; exact n11, k, z, by rw [r0, e22]; exact y, hz, by omega⟩⟩
  have hh2 : y0.2.2.2 b = h := by rw [FRj fz (by simpa using hb)]; exact hh
  refine pk_mo (loop_s (N := N) (T := TXs h (ATc y0) t) hb hh2 hO (WDc_fr hA fz (by simp) (by simp)) N 1 0 2041 y0 [] o0 s0 (by omega) ?_) (fun m2 r q => ?_)
  · show [] ++ (if so (y0.2.2.2 45 0) = 11 then [93] else TXs h (ATc y0) (y0.2.2.2 45 0)) = _
    rw [r0, if_neg n11]
    rfl
  · obtain ⟨⟨q1, q2, q3, q4⟩, q5⟩ := q
    rw [eA] at q3 q5
    refine ⟨FR.tr (FR.mo fz (by simp) (by simp) (by simp) (by simp)) (FR.mo q1 (by simp) (by simp) (by simp) (by simp)), q5, q3, fun i hi => ?_⟩
    rw [q4 i hi, ← hz2]
    rfl
end
end
section
set_option maxRecDepth 100000
def OUr (m0 m : MS) (L : List Int32) : Prop := FR [144] [] [143] [141] m0 m ∧ F m 144 = ((L.length : Nat) : Int) ∧ ∀ i, i < min L.length 100 → m.2.2.1 143 i = byS8 (L.getD i 0)
noncomputable def PNr (h : Nat → Int64) (A : Nat → List Int32) (e : Nat → Int64) : Nat → List Int32
  | 0 => []
  | i + 1 => (if so (e i) = 21 then RSs h A (h (vn (e i) + 1)) else TXs h A (e i)) ++ PNr h A e i
def STr (h : Nat → Int64) (R : Int64 → Prop) (e : Nat → Int64) : Nat → Nat → Prop
  | 0, _ => True
  | i + 1, w => ∃ w2, STr h R e i w2 ∧ ((so (e i) = 21 ∧ 0 ≤ va (e i) ∧ va (e i) ≤ 1000 ∧ ∃ k z, SZp h R k (h (vn (e i) + 1)) z ∧ z ≤ 1000 ∧ w2 + 3 + 2 * z ≤ w) ∨ (so (e i) ≠ 21 ∧ ∃ k z, SZp h R k (e i) z ∧ z ≤ 1000 ∧ w2 + 1 + 2 * z ≤ w))
def LFr (n : Int) (t : Int64) : Prop := (so t = 0 ∨ so t = 1 ∨ so t = 2 ∨ so t = 4 ∨ so t = 6 ∨ so t = 20) ∧ (so t = 1 → 0 ≤ va t ∧ va t < n)
def ATr (m : MS) (a : Nat) : List Int32 := atT (m.2.2.1 12) (fun i => (A m 13 i).toNat) a
section
variable {h e e' : Nat → Int64} {R : Int64 → Prop} {B : Nat → List Int32} {N top w p k z : Nat} {m0 m m2 : MS} {L M : List Int32} {v : Int32} {t x : Int64}
theorem STr_ext : ∀ {i w : Nat}, (∀ q, q < i → e' q = e q) → STr h R e i w → STr h R e' i w
  | 0, _, _, _ => trivial
  | i + 1, w, g, y => by
    obtain ⟨w2, y1, y2⟩ := y
    refine ⟨w2, STr_ext (fun q hq => g q (by omega)) y1, ?_⟩
    rw [g i (by omega)]
    exact y2
theorem PNr_ext : ∀ {i : Nat}, (∀ q, q < i → e' q = e q) → PNr h B e' i = PNr h B e i
  | 0, _ => rfl
  | i + 1, g => by
    show (if so (e' i) = 21 then RSs h B (h (vn (e' i) + 1)) else TXs h B (e' i)) ++ PNr h B e' i = (if so (e i) = 21 then RSs h B (h (vn (e i) + 1)) else TXs h B (e i)) ++ PNr h B e i
    rw [g i (by omega), PNr_ext (i := i) (fun q hq => g q (by omega))]
theorem STr_le : ∀ {i w : Nat}, STr h R e i w → i ≤ w
  | 0, _, _ => Nat.zero_le _
  | i + 1, w, y => by
    obtain ⟨w2, y1, y2⟩ := y
    have := STr_le y1
    rcases y2 with ⟨-, -, -, k, z, -, -, c⟩ | ⟨-, k, z, -, -, c⟩
    · omega
    · omega
theorem STr_mo {w2 : Nat} (hw : w ≤ w2) : ∀ {i : Nat}, STr h R e i w → STr h R e i w2
  | 0, _ => trivial
  | i + 1, y => by
    obtain ⟨w3, y1, y2⟩ := y
    refine ⟨w3, y1, ?_⟩
    rcases y2 with ⟨a, b, c, k, z, d, f, g⟩ | ⟨a, k, z, c, d, f⟩
    · exact Or.inl ⟨a, b, c, k, z, d, f, by omega⟩
    · exact Or.inr ⟨a, k, z, c, d, by omega⟩
theorem PNr_top (hn : so (e top) ≠ 21) : PNr h B e (top + 1) = TXs h B (e top) ++ PNr h B e top := by
  show (if so (e top) = 21 then _ else _) ++ _ = _
  rw [if_neg hn]
theorem PNr_rest (hn : so (e top) = 21) : PNr h B e (top + 1) = RSs h B (h (vn (e top) + 1)) ++ PNr h B e top := by
  show (if so (e top) = 21 then _ else _) ++ _ = _
  rw [if_pos hn]
theorem TXs_sig2 {c : Int} (hc : RG c) : TXs h B (mk 20 c) = [I c] := by
  have e1 : so (mk 20 c) = 20 := so_mk (by decide) (by decide)
  rw [TXs_al (by rw [e1]; decide) (by rw [e1]; decide)]
  unfold alT
  rw [e1, va_mk hc.1 hc.2]
  rfl
theorem SZp_so2 (y : SZp h R k t z) (hR : ∀ t, R t → so t ≠ 21) : so t ≠ 21 := by
  cases k with
  | zero => exact y.elim
  | succ k =>
    rcases y with ⟨-, y5, -⟩ | ⟨y1, -⟩
    · exact hR t y5
    · intro q
      unfold isH at y1
      omega
theorem OUr_wj (o : OUr m0 m L) : OUr m0 (wj m 141 top t) L := ⟨FR.wj o.1 (by simp), o.2.1, o.2.2⟩
theorem rov_lt : ∀ q, q < top → (wj m 141 top t).2.2.2 141 q = m.2.2.2 141 q := fun q hq => by rw [wj_row, if_neg (by omega)]
theorem rov_at : (wj m 141 top t).2.2.2 141 top = t := by rw [wj_row, if_pos rfl]
theorem putt_r (s : STr h R (m.2.2.2 141) top w) (y : SZp h R k t z) (hz : z ≤ 1000) (h21 : so t ≠ 21) : STr h R ((wj m 141 top t).2.2.2 141) (top + 1) (w + 1 + 2 * z) ∧ PNr h B ((wj m 141 top t).2.2.2 141) (top + 1) = TXs h B t ++ PNr h B (m.2.2.2 141) top := by
  refine ⟨⟨w, STr_ext rov_lt s, Or.inr ⟨by rw [rov_at]; exact h21, k, z, by rw [rov_at]; exact y, hz, Nat.le_refl _⟩⟩, ?_⟩
  rw [PNr_top (by rw [rov_at]; exact h21), rov_at, PNr_ext rov_lt]
theorem putr_r {q : Nat} (s : STr h R (m.2.2.2 141) top w) (hq : q ≤ 1000) (y : SZp h R k (h (q + 1)) z) (hz : z ≤ 1000) : STr h R ((wj m 141 top (mk 21 ((q : Nat) : Int))).2.2.2 141) (top + 1) (w + 3 + 2 * z) ∧ PNr h B ((wj m 141 top (mk 21 ((q : Nat) : Int))).2.2.2 141) (top + 1) = RSs h B (h (q + 1)) ++ PNr h B (m.2.2.2 141) top := by
  have e1 : so (mk 21 ((q : Nat) : Int)) = 21 := so_mk (by decide) (by decide)
  have e2 : va (mk 21 ((q : Nat) : Int)) = ((q : Nat) : Int) := va_mk (by omega) (by omega)
  have e3 : vn (mk 21 ((q : Nat) : Int)) = q := by unfold vn; rw [e2]; omega
  refine ⟨⟨w, STr_ext rov_lt s, Or.inl ⟨by rw [rov_at]; exact e1, by rw [rov_at, e2]; omega, by rw [rov_at, e2]; omega, k, z, by rw [rov_at, e3]; exact y, hz, Nat.le_refl _⟩⟩, ?_⟩
  rw [PNr_rest (by rw [rov_at]; exact e1), rov_at, e3, PNr_ext rov_lt]
theorem sign_r (hl : L.length < 100000) (o : OUr m0 m L) : PK (fun m2 _ => OUr m0 m2 (L ++ [v]) ∧ m2.2.2.2 = m.2.2.2) (fm_M_sign N m v) := by
  obtain ⟨f, o1, o2⟩ := o
  have hl2 : (L ++ [v]).length = L.length + 1 := by simp
  unfold fm_M_sign fb_M_sign_0 fb_M_sign_20
  rw [I_F (k := 144), o1, show (100 : Int32) = I 100 from rfl]
  refine p_le ⟨by decide, by decide⟩ ⟨by omega, by omega⟩ (fun a => pk_ltq ?_) (fun a => pk_ck (fun _ => pk_ltq ?_))
  · have a : (100 : Int) ≤ ((L.length : Nat) : Int) := a
    rw [lit1q, I_add, show ((L.length : Nat) : Int) + 1 = ((L.length + 1 : Nat) : Int) by omega, wi_e]
    refine pk_some ⟨⟨FR.wi f (by simp), ?_, fun i hi => ?_⟩, rfl⟩
    · rw [F_wi (by omega) (by omega), if_pos rfl, hl2]
    · rw [hl2] at hi
      rw [getD_app1 (by omega)]
      exact o2 i (by omega)
  · have a : ¬ (100 : Int) ≤ ((L.length : Nat) : Int) := a
    rw [tnI (n := L.length) rfl (by omega)]
    generalize hw : upA m 143 (upd (m.2.2.1 143) L.length (vp_nar .byte (v.toInt8.toInt32))) = w0
    have e66 : w0.1 144 = I ((L.length : Nat) : Int) := by rw [← hw]; show m.1 144 = _; rw [I_F, o1]
    have row : ∀ i, w0.2.2.1 143 i = if i = L.length then byS8 v else m.2.2.1 143 i := fun i => by
      rw [← hw]
      show (if (143 : Nat) = 143 then upd (m.2.2.1 143) L.length (vp_nar .byte (v.toInt8.toInt32)) else m.2.2.1 143) i = _
      rw [if_pos rfl]
      rfl
    have fw : FR [144] [] [143] [141] m0 w0 := by rw [← hw]; exact FR_upA f (by simp)
    have ew : w0.2.2.2 = m.2.2.2 := by rw [← hw]; rfl
    show PK _ (lt _ _)
    refine pk_ltq ?_
    rw [e66, lit1q, I_add, show ((L.length : Nat) : Int) + 1 = ((L.length + 1 : Nat) : Int) by omega]
    refine pk_some ⟨⟨?_, ?_, fun i hi => ?_⟩, ew⟩
    · rw [wi_e]; exact FR.wi fw (by simp)
    · rw [wi_e, F_wi (by omega) (by omega), if_pos rfl, hl2]
    · rw [hl2] at hi
      show w0.2.2.1 143 i = _
      rw [row]
      by_cases e : i = L.length
      · rw [if_pos e, e, getD_app2]
      · rw [if_neg e, getD_app1 (by omega)]
        exact o2 i (by omega)
theorem dgT_len {y : Int64} : ∀ {f : Nat} {u : Int64}, (dgT y f u).length ≤ f
  | 0, _ => Nat.le_refl _
  | f + 1, u => by
    show (if u.toInt ≤ 0 then [] else ((48 + ((y / u) - (y / u) / 10 * 10)).toInt32) :: dgT y f (u / 10)).length ≤ f + 1
    by_cases e : u.toInt ≤ 0
    · rw [if_pos e]; exact Nat.zero_le _
    · rw [if_neg e, List.length_cons]
      have := dgT_len (y := y) (f := f) (u := u / 10)
      omega
theorem dig_r {y : Int64} : ∀ (g f : Nat) (u : Int64) (m : MS) (L : List Int32), L.length + f < 100000 → 0 ≤ u.toInt → u.toInt < 2 ^ f → OUr m0 m L → PK (fun m2 _ => OUr m0 m2 (L ++ dgT y f u) ∧ m2.2.2.2 = m.2.2.2) ((gg_M_digits N g).2 m y u) := by
  intro g
  induction g with
  | zero => intro f u m L _ _ _ _; exact pk_none
  | succ g ih =>
    intro f u m L hl h0 hf o
    show PK _ (fb_M_digits_48 N (gg_M_digits N g) m y u)
    unfold fb_M_digits_48
    refine pk_br (fun z => pk_some ?_) (fun z => ?_)
    · have z := (lgc_le0 u).mp (of_decide_eq_true z)
      have e : dgT y f u = [] := by
        cases f with
        | zero => rfl
        | succ f => exact if_pos z
      rw [e, List.append_nil]
      exact ⟨o, rfl⟩
    · have z : ¬ u.toInt ≤ 0 := fun q => of_decide_eq_false z ((lgc_le0 u).mpr q)
      cases f with
      | zero => exact absurd hf (by omega)
      | succ f =>
        refine pk_ck (fun _ => pk_ck (fun _ => pk_bnd (pk_mo (sign_r (by omega) o) (fun m2 r q => pk_ck (fun _ => ?_)))))
        have e : dgT y (f + 1) u = ((48 + ((y / u) - (y / u) / 10 * 10)).toInt32) :: dgT y f (u / 10) := if_neg z
        have d := div10n h0
        refine pk_mo (ih f (u / 10) m2 _ (by rw [List.length_append, List.length_singleton]; omega) (by omega) (by rw [d]; rw [Int.pow_succ] at hf; omega) q.1) (fun m3 _ q3 => ⟨?_, q3.2.trans q.2⟩)
        rw [e]
        rw [List.append_assoc] at q3
        exact q3.1
theorem uni_r {y : Int64} (hy : 0 ≤ y.toInt ∧ y.toInt ≤ 2147483648) : ∀ (g f : Nat) (u : Int64) (m : MS), L.length < 90000 → 1 ≤ u.toInt ∧ u.toInt ≤ 2147483648 → y.toInt < u.toInt * 2 ^ f → OUr m0 m L → PK (fun m2 _ => OUr m0 m2 (L ++ ((if 0 ≤ v then [] else [45]) ++ dgT y 40 (unT y f u))) ∧ m2.2.2.2 = m.2.2.2) ((gg_M_digits N g).1 m v y u) := by
  intro g
  induction g with
  | zero => intro f u m _ _ _ _; exact pk_none
  | succ g ih =>
    intro f u m hl h0 hf o
    show PK _ (fb_M_digits_16 N (gg_M_digits N g) m v y u)
    unfold fb_M_digits_16
    have m10 := mul10 (y := u) (by omega) (by omega)
    refine pk_br (fun z => ?_) (fun z => ?_)
    · have z := (lgc_gt _ _).mp (of_decide_eq_true z)
      rw [m10] at z
      have e : unT y f u = u := by
        cases f with
        | zero => rfl
        | succ f => exact if_pos z
      rw [e]
      refine pk_br (fun c => ?_) (fun c => ?_)
      · rw [if_pos (of_decide_eq_true c)]
        exact dig_r g 40 u m L (by omega) (by omega) (by omega) o
      · rw [if_neg (of_decide_eq_false c)]
        refine pk_bnd (pk_mo (sign_r (by omega) o) (fun m2 r q => ?_))
        refine pk_mo (dig_r g 40 u m2 _ (by rw [List.length_append, List.length_singleton]; omega) (by omega) (by omega) q.1) (fun m3 _ q3 => ⟨?_, q3.2.trans q.2⟩)
        rw [List.append_assoc] at q3
        exact q3.1
    · have z : ¬ y.toInt < (u * 10).toInt := fun q => of_decide_eq_false z ((lgc_gt _ _).mpr q)
      rw [m10] at z
      cases f with
      | zero => exact absurd hf (by omega)
      | succ f =>
        have e : unT y (f + 1) u = unT y f (u * 10) := if_neg z
        rw [e]
        refine ih f (u * 10) m hl (by omega) ?_ o
        rw [m10]
        rw [Int.pow_succ] at hf
        have : u.toInt * (2 ^ f * 2) = u.toInt * 2 ^ f * 2 := by rw [Int.mul_assoc]
        have p0 : (0 : Int) ≤ u.toInt * 2 ^ f := Int.mul_nonneg (by omega) (Int.le_of_lt (Int.pow_pos (by decide)))
        have : u.toInt * 10 * 2 ^ f = u.toInt * 2 ^ f * 10 := by rw [Int.mul_assoc, Int.mul_comm 10, ← Int.mul_assoc]
        omega
theorem num_r (hl : L.length < 90000) (o : OUr m0 m L) : PK (fun m2 _ => OUr m0 m2 (L ++ numT v) ∧ m2.2.2.2 = m.2.2.2) (fm_M_digits N m v) := by
  have hr := ti_rng v
  have e := toI64 v
  unfold fm_M_digits fb_M_digits_0 fb_M_digits_12
  unfold numT
  refine pk_br (fun z => ?_) (fun z => ?_)
  · have z := of_decide_eq_true z
    have z1 : 0 ≤ v.toInt := by rw [Int32.le_iff_toInt_le] at z; exact z
    rw [show abT v = v.toInt64 from if_pos z]
    exact uni_r ⟨by omega, by omega⟩ N 40 1 m hl ⟨by decide, by decide⟩ (by rw [e]; have : ((1 : Int64).toInt) = 1 := rfl; rw [this]; omega) o
  · have z := of_decide_eq_false z
    have z1 : ¬ 0 ≤ v.toInt := fun q => z (by rw [Int32.le_iff_toInt_le]; exact q)
    rw [show abT v = -v.toInt64 from if_neg z]
    have e2 := neg64 (x := v.toInt64) (by omega) (by omega)
    exact uni_r ⟨by omega, by omega⟩ N 40 1 m hl ⟨by decide, by decide⟩ (by rw [e2, e]; have : ((1 : Int64).toInt) = 1 := rfl; rw [this]; omega) o
theorem cell_p (hp1 : p < 25) {q : Nat} (hq : q ≤ 100000) : PK (fun m2 r => m2 = m ∧ r = hp m p q) (fm_M_cell N m (I p) (I q)) := by
  show PK _ (ck (inb (I p * 500 + I q) 12500) (some (m, m.2.2.2 88 (I p * 500 + I q).toNatClampNeg)))
  refine pk_ck (fun _ => pk_some ⟨rfl, ?_⟩)
  rw [show (500 : Int32) = I 500 from rfl, I_mul, I_add, tnI (n := 500 * p + q) (by omega) (by omega)]
  rfl
end
end
section
set_option maxRecDepth 100000
def DNr (m0 m : MS) (T : List Int32) : Prop := ∃ L, OUr m0 m L ∧ L.length ≤ 6000 ∧ (∃ X, T = L ++ X) ∧ (L = T ∨ 100 ≤ L.length)
section
variable {h : Nat → Int64} {N p many w k z : Nat} {m0 m m2 u : MS} {L M T : List Int32} {t x : Int64} {B : Nat → List Int32}
theorem LFr_so (n : Int) : ∀ t, LFr n t → so t ≠ 21 := fun _ q => by have := q.1; omega
theorem LFr_sg (n : Int) : ∀ c : Int, LFr n (mk 20 c) := fun c => by
  unfold LFr
  rw [so_mk (by decide) (by decide)]
  exact ⟨by decide, fun q => absurd q (by decide)⟩
theorem numT_len (v : Int32) : (numT v).length ≤ 41 := by
  unfold numT
  rw [List.length_append]
  have := dgT_len (y := abT v) (f := 40) (u := unT (abT v) 40 1)
  split
  · simp only [List.length_nil]; omega
  · simp only [List.length_singleton]; omega
theorem hp_o (hh : hp m0 p = h) (o : OUr m0 m L) : hp m p = h := by
  rw [← hh]
  unfold hp
  rw [o.1.2.2.2 88 (by decide)]
theorem len1 {v : Int32} : (L ++ [v]).length = L.length + 1 := by simp
theorem rest_r (hp1 : p < 25) (hh : hp m0 p = h) {R : Int64 → Prop} (hR : ∀ t, R t → so t ≠ 21) (hR2 : ∀ c : Int, R (mk 20 c)) (hl : L.length < 5000) (o : OUr m0 m L) (s : STr h R (m.2.2.2 141) many w) {q : Nat} (hq : q ≤ 1000) (y : SZp h R k (h (q + 1)) z) (hz : z ≤ 1000) (hw : w + 3 + 2 * z ≤ 2001) : PK (fun m2 r => ∃ many2 L2 w2, r = I ((many2 : Nat) : Int) ∧ OUr m0 m2 L2 ∧ L2.length = L.length + 1 ∧ STr h R (m2.2.2.2 141) many2 w2 ∧ w2 ≤ 2001 ∧ L2 ++ PNr h B (m2.2.2.2 141) many2 = L ++ (RSs h B (h (q + 1)) ++ PNr h B (m.2.2.2 141) many)) (fm_M_restOfList N m (I p) (I many) (I q)) := by
  have tl := STr_le s
  unfold fm_M_restOfList fb_M_restOfList_0 fb_M_restOfList_124
  rw [lit1q, I_add, show ((q : Nat) : Int) + 1 = ((q + 1 : Nat) : Int) by omega]
  refine pk_bnd (pk_mo (cell_p hp1 (by omega)) (fun m3 r q3 => ?_))
  obtain ⟨rfl, rfl⟩ := q3
  rw [hp_o hh o]
  generalize h (q + 1) = t at y ⊢
  have hr := so_r t
  rw [sortOf_e, bnd_so, show (6 : Int32) = I 6 from rfl]
  refine p_eq hr ⟨by decide, by decide⟩ (fun e6 => ?_) (fun n6 => ?_)
  · have e6 : so t = 6 := e6
    refine pk_bnd (pk_mo (sign_r (by omega) o) (fun m4 r q4 => ?_))
    obtain ⟨o4, r4⟩ := q4
    refine pk_some ⟨many, _, w, rfl, o4, len1, by rw [r4]; exact s, by omega, ?_⟩
    rw [r4, RSs_nil e6]
    simp
  have n6 : so t ≠ 6 := n6
  rw [sortOf_e, bnd_so, show (7 : Int32) = I 7 from rfl]
  refine p_eq hr ⟨by decide, by decide⟩ (fun e7 => ?_) (fun n7 => ?_)
  · have e7 : so t = 7 := e7
    refine pk_bnd (pk_mo (sign_r (by omega) o) (fun m4 r q4 => ?_))
    obtain ⟨o4, r4⟩ := q4
    rw [(TXs_pair (A := B) y (by omega) e7).2]
    cases k with
    | zero => exact y.elim
    | succ k =>
    rcases y with ⟨y1, -⟩ | ⟨y1, ⟨v1, v2, v3⟩, c, y3, y4⟩
    · exact absurd (Or.inr (Or.inr e7)) y1
    have b2 : blk h t = 2 := by unfold blk; rw [if_pos e7]
    have p0 : prt t = 0 := by unfold prt; rw [if_pos e7]
    have q0 : SZp h R k (h (vn t)) (c 0) := y3 0 (by omega) (by omega)
    have q1 := y3 1 (by omega) (by omega)
    rw [b2, p0] at y4
    have e2 : smm c 0 (2 - 0) = c 0 + c 1 := by show 0 + c (0 + 0) + c (0 + 1) = _; simp
    have ev := vn_e v1
    rw [valueOf_e, bnd_so, show (21 : Int32) = I 21 from rfl, ev, term_e, bnd_so]
    refine pk_ck (fun _ => pk_ltq ?_)
    rw [tnI (n := many) rfl (by omega), wj_e, valueOf_e, bnd_so, ev]
    have s4 : STr h R (m4.2.2.2 141) many w := by rw [r4]; exact s
    obtain ⟨s5, p5⟩ := putr_r (B := B) s4 (by omega) q1 (by omega)
    have o5 : OUr m0 (wj m4 141 many (mk 21 ((vn t : Nat) : Int))) (L ++ [44]) := OUr_wj o4
    have p5 : PNr h B ((wj m4 141 many (mk 21 ((vn t : Nat) : Int))).2.2.2 141) (many + 1) = RSs h B (h (vn t + 1)) ++ PNr h B (m3.2.2.2 141) many := by rw [p5, r4]
    generalize wj m4 141 many (mk 21 ((vn t : Nat) : Int)) = m5 at *
    refine pk_bnd (pk_mo (cell_p hp1 (by omega)) (fun m6 r q6 => ?_))
    obtain ⟨rfl, rfl⟩ := q6
    rw [hp_o hh o5, I_add, show ((many : Nat) : Int) + 1 = ((many + 1 : Nat) : Int) by omega]
    refine pk_ck (fun _ => pk_ltq ?_)
    rw [tnI (n := many + 1) rfl (by omega), wj_e]
    obtain ⟨s7, p7⟩ := putt_r (B := B) s5 q0 (by omega) (SZp_so2 q0 hR)
    refine pk_some ⟨many + 1 + 1, _, _, ?_, OUr_wj o5, len1, s7, by omega, ?_⟩
    · exact addN (a := many) (b := 2)
    · rw [p7, p5]
      simp
  · have n7 : so t ≠ 7 := n7
    refine pk_bnd (pk_mo (sign_r (by omega) o) (fun m4 r q4 => ?_))
    obtain ⟨o4, r4⟩ := q4
    have s4 : STr h R (m4.2.2.2 141) many w := by rw [r4]; exact s
    rw [show (20 : Int32) = I 20 from rfl, show (93 : Int32) = I 93 from rfl, term_e, bnd_so]
    refine pk_ck (fun _ => pk_ltq ?_)
    rw [tnI (n := many) rfl (by omega), wj_e, I_add, show ((many : Nat) : Int) + 1 = ((many + 1 : Nat) : Int) by omega]
    refine pk_ck (fun _ => pk_ltq ?_)
    rw [tnI (n := many + 1) rfl (by omega), wj_e]
    obtain ⟨s5, p5⟩ := putt_r (B := B) (k := 1) (z := 0) (t := mk 20 93) s4 (Or.inl ⟨nh_so (by rw [so_mk (by decide) (by decide)]; decide), hR2 _, rfl⟩) (by omega) (by rw [so_mk (by decide) (by decide)]; decide)
    have o5 : OUr m0 (wj m4 141 many (mk 20 93)) (L ++ [124]) := OUr_wj o4
    rw [r4, TXs_sig2 ⟨by decide, by decide⟩] at p5
    obtain ⟨s7, p7⟩ := putt_r (B := B) s5 y hz (SZp_so2 y hR)
    refine pk_some ⟨many + 1 + 1, _, _, ?_, OUr_wj o5, len1, s7, by omega, ?_⟩
    · exact addN (a := many) (b := 2)
    · rw [p7, p5, RSs_imp (A := B) y (by omega) n6 n7]
      simp
      rfl
theorem won_r (hp1 : p < 25) (hh : hp m0 p = h) (hA : ATM m0) : ∀ g : Nat,
    (∀ (many w : Nat) (m : MS) (L : List Int32), OUr m0 m L → L.length ≤ 6000 → STr h (LFr (F m0 14)) (m.2.2.2 141) many w → w ≤ 2001 → L ++ PNr h (ATr m0) (m.2.2.2 141) many = T → PK (fun m2 _ => DNr m0 m2 T) ((gg_M_writeOn N g).1 m (I p) (I many))) ∧
    (∀ (many w v i : Nat) (m : MS) (L : List Int32), OUr m0 m L → (v : Int) < F m0 14 → (A m0 13 v).toNat + i ≤ (A m0 13 (v + 1)).toNat → L.length ≤ 100 + i → STr h (LFr (F m0 14)) (m.2.2.2 141) many w → w ≤ 2001 → L ++ ((ATr m0 v).drop i ++ PNr h (ATr m0) (m.2.2.2 141) many) = T → PK (fun m2 _ => DNr m0 m2 T) ((gg_M_writeOn N g).2.1 m (I p) (I many) (I v) (I (((A m0 13 v).toNat + i : Nat) : Int)))) ∧
    (∀ (many w v i : Nat) (c : Nat → Nat) (m : MS) (L : List Int32), OUr m0 m L → L.length ≤ 6000 → v ≤ 1000 → i ≤ 1000 → (∀ j, 1 ≤ j → j ≤ i → ∃ k, SZp h (LFr (F m0 14)) k (h (v + j)) (c j) ∧ c j ≤ 1000) → STr h (LFr (F m0 14)) (m.2.2.2 141) many w → w + 2 * i + 2 * smm c 1 i ≤ 2001 → L ++ (jnT (fun q => TXs h (ATr m0) (h (v + q))) 1 i ++ PNr h (ATr m0) (m.2.2.2 141) many) = T → PK (fun m2 _ => DNr m0 m2 T) ((gg_M_writeOn N g).2.2 m (I p) (I many) (I v) (I i))) := by
  obtain ⟨t1, t2, t3⟩ := hA
  intro g
  induction g with
  | zero => exact ⟨fun _ _ _ _ _ _ _ _ _ => pk_none, fun _ _ _ _ _ _ _ _ _ _ _ _ _ => pk_none, fun _ _ _ _ _ _ _ _ _ _ _ _ _ _ _ => pk_none⟩
  | succ g ih =>
    obtain ⟨ih1, ih2, ih3⟩ := ih
    refine ⟨fun many w m L o hl s hw hT => ?_, fun many w v i m L o hv hi hl s hw hT => ?_, fun many w v i c m L o hl hv hi hc s hw hT => ?_⟩
    · have tl := STr_le s
      show PK _ (fb_M_writeOn_10 N (gg_M_writeOn N g) m (I p) (I many))
      unfold fb_M_writeOn_10 fb_M_writeOn_387 fb_M_writeOn_384
      refine pk_br (fun c => pk_some ?_) (fun c => ?_)
      · have e0 : many = 0 := by
          rw [lit0q, decI (by omega) (by omega) (by decide) (by decide)] at c
          have := of_decide_eq_true c
          omega
        rw [e0] at hT
        have hT : L ++ [] = T := hT
        exact ⟨L, o, hl, ⟨[], hT.symm⟩, Or.inl (by rw [List.append_nil] at hT; exact hT)⟩
      have c1 : ¬ ((many : Int) ≤ 0) := by
        rw [lit0q, decI (by omega) (by omega) (by decide) (by decide)] at c
        exact of_decide_eq_false c
      have f6 := o.2.1
      refine pk_br (fun c => pk_some ?_) (fun c => ?_)
      · have c3 : (100 : Int) ≤ F m 144 := by
          rw [I_F (k := 144), show (100 : Int32) = I 100 from rfl, decI (by decide) (by decide) (by omega) (by omega)] at c
          exact of_decide_eq_true c
        exact ⟨L, o, hl, ⟨_, hT.symm⟩, Or.inr (by omega)⟩
      have c3 : ¬ ((100 : Int) ≤ F m 144) := by
        rw [I_F (k := 144), show (100 : Int32) = I 100 from rfl, decI (by decide) (by decide) (by omega) (by omega)] at c
        exact of_decide_eq_false c
      obtain ⟨q, rfl⟩ : ∃ q, many = q + 1 := ⟨many - 1, by omega⟩
      have e1 : I (((q + 1 : Nat) : Int)) + (-1) = I ((q : Nat) : Int) := by rw [m1I, I_add]; congr 1; omega
      rw [e1]
      refine pk_ck (fun _ => pk_ltq ?_)
      rw [tnI (n := q) rfl (by omega), sortOf_e, bnd_so, valueOf_e, bnd_so]
      obtain ⟨w2, s2, s3⟩ := s
      have hm := hp_o hh o
      have hr := so_r (m.2.2.2 141 q)
      have nxt : ∀ (m3 : MS) (L3 : List Int32), OUr m0 m3 L3 → L3.length ≤ 6000 → m3.2.2.2 = m.2.2.2 → L3 ++ PNr h (ATr m0) (m.2.2.2 141) q = T → PK (fun m2 _ => DNr m0 m2 T) ((gg_M_writeOn N g).1 m3 (I p) (I q)) := by
        intro m3 L3 o3 l3 r3 hT3
        refine ih1 q w2 m3 L3 o3 l3 (by rw [r3]; exact s2) ?_ (by rw [r3]; exact hT3)
        rcases s3 with ⟨-, -, -, k, z, -, -, y⟩ | ⟨-, k, z, -, -, y⟩ <;> omega
      rw [show (20 : Int32) = I 20 from rfl, show (21 : Int32) = I 21 from rfl, show (4 : Int32) = I 4 from rfl, show (2 : Int32) = I 2 from rfl, show (3 : Int32) = I 3 from rfl, show (6 : Int32) = I 6 from rfl, show (7 : Int32) = I 7 from rfl]
      refine p_eq hr ⟨by decide, by decide⟩ (fun e20 => ?_) (fun n20 => ?_)
      · have e20 : so (m.2.2.2 141 q) = 20 := e20
        rw [PNr_top (by omega), TXs_al (A := ATr m0) (by omega) (by omega), alT_20 e20] at hT
        refine pk_bnd (pk_mo (sign_r (by omega) o) (fun m3 r q3 => nxt m3 _ q3.1 (by rw [len1]; omega) q3.2 ?_))
        rw [List.append_assoc]
        exact hT
      have n20 : so (m.2.2.2 141 q) ≠ 20 := n20
      refine p_eq hr ⟨by decide, by decide⟩ (fun e21 => ?_) (fun n21 => ?_)
      · have e21 : so (m.2.2.2 141 q) = 21 := e21
        rcases s3 with ⟨-, v1, v2, k, z, y1, y2, y3⟩ | ⟨y, -⟩
        · rw [PNr_rest e21] at hT
          have ev := vn_e v1
          rw [ev]
          refine pk_bnd (pk_mo (rest_r (N := N) (B := ATr m0) hp1 hh (LFr_so _) (LFr_sg _) (by omega) o s2 (by omega) y1 y2 (by omega)) (fun m3 r q3 => ?_))
          obtain ⟨many2, L2, w3, rfl, o3, l3, s4, h4, p4⟩ := q3
          refine ih1 many2 w3 m3 L2 o3 (by omega) s4 h4 ?_
          rw [p4]
          exact hT
        · exact absurd e21 y
      have n21 : so (m.2.2.2 141 q) ≠ 21 := n21
      rw [PNr_top n21] at hT
      obtain ⟨k, z, y1, y2, y3⟩ : ∃ k z, SZp h (LFr (F m0 14)) k (m.2.2.2 141 q) z ∧ z ≤ 1000 ∧ w2 + 1 + 2 * z ≤ w := by
        rcases s3 with ⟨y, -⟩ | ⟨-, y⟩
        · exact absurd y n21
        · exact y
      generalize m.2.2.2 141 q = x at *
      refine pk_br (fun c => ?_) (fun c => ?_)
      · have e0 : so x = 0 := by
          rw [lit0q, decE hr.1 hr.2 (by decide) (by decide)] at c
          exact of_decide_eq_true c
        rw [TXs_al (A := ATr m0) (by omega) (by omega), alT_0 e0] at hT
        refine pk_bnd (pk_mo (num_r (by omega) o) (fun m3 r q3 => nxt m3 _ q3.1 ?_ q3.2 ?_))
        · rw [List.length_append]
          have := numT_len (I (va x))
          omega
        · rw [List.append_assoc]
          exact hT
      have n0 : so x ≠ 0 := by
        rw [lit0q, decE hr.1 hr.2 (by decide) (by decide)] at c
        exact of_decide_eq_false c
      refine pk_br (fun c => ?_) (fun c => ?_)
      · have e1 : so x = 1 := by
          rw [lit1q, decE hr.1 hr.2 (by decide) (by decide)] at c
          exact of_decide_eq_true c
        rw [TXs_al (A := ATr m0) (by omega) (by omega), alT_1 e1] at hT
        have ha : 0 ≤ va x ∧ va x < F m0 14 := by
          cases k with
          | zero => exact y1.elim
          | succ k =>
            rcases y1 with ⟨-, y5, -⟩ | ⟨y1, -⟩
            · exact y5.2 e1
            · unfold isH at y1
              omega
        have ev := vn_e ha.1
        obtain ⟨b1, b2, b3⟩ := t3 (vn x) (by omega)
        have ea : A m 13 (vn x) = A m0 13 (vn x) := FR.A o.1 (by decide)
        refine pk_ck (fun _ => ?_)
        rw [ev, tnI (n := vn x) rfl (by omega), I_A' (show A m 13 (vn x) = (((A m0 13 (vn x)).toNat + 0 : Nat) : Int) by rw [ea]; omega)]
        exact ih2 q w2 (vn x) 0 m L o (by omega) (by omega) (by omega) s2 (by omega) hT
      have n1 : so x ≠ 1 := by
        rw [lit1q, decE hr.1 hr.2 (by decide) (by decide)] at c
        exact of_decide_eq_false c
      refine p_eq hr ⟨by decide, by decide⟩ (fun e4 => ?_) (fun n4 => ?_)
      · have e4 : so x = 4 := e4
        rw [TXs_al (A := ATr m0) (by omega) (by omega), alT_4 e4] at hT
        have nl := numT_len (I (va x))
        refine pk_bnd (pk_mo (sign_r (by omega) o) (fun m3 r q3 => pk_bnd (pk_mo (num_r (by rw [len1]; omega) q3.1) (fun m4 r q4 => pk_bnd (pk_mo (sign_r (by rw [List.length_append, len1]; omega) q4.1) (fun m5 r q5 => nxt m5 _ q5.1 ?_ (q5.2.trans (q4.2.trans q3.2)) ?_))))))
        · rw [len1, List.length_append, len1]
          omega
        · rw [← hT]
          simp
      have n4 : so x ≠ 4 := n4
      refine p_eq hr ⟨by decide, by decide⟩ (fun e2 => ?_) (fun n2 => ?_)
      · have e2 : so x = 2 := e2
        rw [TXs_al (A := ATr m0) (by omega) (by omega), alT_2 e2] at hT
        have nl := numT_len (I (va x))
        refine pk_bnd (pk_mo (sign_r (by omega) o) (fun m3 r q3 => pk_bnd (pk_mo (num_r (by rw [len1]; omega) q3.1) (fun m4 r q4 => nxt m4 _ q4.1 ?_ (q4.2.trans q3.2) ?_))))
        · rw [List.length_append, len1]
          omega
        · rw [← hT]
          simp
      have n2 : so x ≠ 2 := n2
      refine p_eq hr ⟨by decide, by decide⟩ (fun e3 => ?_) (fun n3 => ?_)
      · have e3 : so x = 3 := e3
        rw [TXs_al (A := ATr m0) (by omega) (by omega), alT_3 e3] at hT
        refine pk_bnd (pk_mo (sign_r (by omega) o) (fun m3 r q3 => pk_bnd (pk_mo (sign_r (by rw [len1]; omega) q3.1) (fun m4 r q4 => pk_bnd (pk_mo (sign_r (by rw [len1, len1]; omega) q4.1) (fun m5 r q5 => nxt m5 _ q5.1 ?_ (q5.2.trans (q4.2.trans q3.2)) ?_))))))
        · rw [len1, len1, len1]
          omega
        · rw [← hT]
          simp
      have n3 : so x ≠ 3 := n3
      refine p_eq hr ⟨by decide, by decide⟩ (fun e6 => ?_) (fun n6 => ?_)
      · have e6 : so x = 6 := e6
        rw [TXs_al (A := ATr m0) (by omega) (by omega), alT_6 e6] at hT
        refine pk_bnd (pk_mo (sign_r (by omega) o) (fun m3 r q3 => pk_bnd (pk_mo (sign_r (by rw [len1]; omega) q3.1) (fun m4 r q4 => nxt m4 _ q4.1 ?_ (q4.2.trans q3.2) ?_))))
        · rw [len1, len1]
          omega
        · rw [← hT]
          simp
      have n6 : so x ≠ 6 := n6
      refine p_eq hr ⟨by decide, by decide⟩ (fun e7 => ?_) (fun n7 => ?_)
      · have e7 : so x = 7 := e7
        rw [(TXs_pair (A := ATr m0) y1 (by omega) e7).1] at hT
        cases k with
        | zero => exact y1.elim
        | succ k =>
        rcases y1 with ⟨y1, -⟩ | ⟨y1, ⟨v1, v2, v3⟩, c, y4, y5⟩
        · exact absurd (Or.inr (Or.inr e7)) y1
        have b2 : blk h x = 2 := by unfold blk; rw [if_pos e7]
        have p0 : prt x = 0 := by unfold prt; rw [if_pos e7]
        have q0 : SZp h (LFr (F m0 14)) k (h (vn x)) (c 0) := y4 0 (by omega) (by omega)
        have q1 := y4 1 (by omega) (by omega)
        rw [b2, p0] at y5
        have e2 : smm c 0 (2 - 0) = c 0 + c 1 := by show 0 + c (0 + 0) + c (0 + 1) = _; simp
        have ev := vn_e v1
        refine pk_bnd (pk_mo (sign_r (by omega) o) (fun m4 r q4 => ?_))
        obtain ⟨o4, r4⟩ := q4
        rw [ev, term_e, bnd_so]
        refine pk_ck (fun _ => pk_ltq ?_)
        rw [wj_e]
        have s4 : STr h (LFr (F m0 14)) (m4.2.2.2 141) q w2 := by rw [r4]; exact s2
        obtain ⟨s5, p5⟩ := putr_r (B := ATr m0) (q := vn x) s4 (by omega) q1 (by omega)
        have o5 : OUr m0 (wj m4 141 q (mk 21 ((vn x : Nat) : Int))) (L ++ [91]) := OUr_wj o4
        rw [r4] at p5
        generalize wj m4 141 q (mk 21 ((vn x : Nat) : Int)) = m5 at *
        refine pk_bnd (pk_mo (cell_p hp1 (by omega)) (fun m6 r q6 => ?_))
        obtain ⟨rfl, rfl⟩ := q6
        rw [hp_o hh o5, lit1q, I_add, show ((q : Nat) : Int) + 1 = ((q + 1 : Nat) : Int) by omega]
        refine pk_ck (fun _ => pk_ltq ?_)
        rw [tnI (n := q + 1) rfl (by omega), wj_e]
        obtain ⟨s7, p7⟩ := putt_r (B := ATr m0) s5 q0 (by omega) (SZp_so2 q0 (LFr_so _))
        rw [show I ((q : Nat) : Int) + I 2 = I ((q + 1 + 1 : Nat) : Int) from addN (a := q) (b := 2)]
        refine ih1 (q + 1 + 1) _ _ _ (OUr_wj o5) (by rw [len1]; omega) s7 (by omega) ?_
        rw [p7, p5, ← hT]
        simp
      · have n7 : so x ≠ 7 := n7
        have e5 : so x = 5 := by
          cases k with
          | zero => exact y1.elim
          | succ k =>
            rcases y1 with ⟨-, y5, -⟩ | ⟨y1, -⟩
            · have := y5.1
              omega
            · unfold isH at y1
              omega
        rw [TXs_tup (A := ATr m0) y1 (by omega) e5] at hT
        cases k with
        | zero => exact y1.elim
        | succ k =>
        rcases y1 with ⟨y1, -⟩ | ⟨y1, ⟨v1, v2, v3⟩, c, y4, y5⟩
        · exact absurd (Or.inr (Or.inl e5)) y1
        have v3 := v3 e5
        have p1 : prt x = 1 := by unfold prt; rw [if_neg (by omega), if_pos e5]
        have hbk : blk h x = 1 + vn (h (vn x)) := by unfold blk; rw [if_neg (by omega), if_pos e5]
        have ev := vn_e v1
        have eh := vn_e v3.1
        rw [p1, hbk, show 1 + vn (h (vn x)) - 1 = vn (h (vn x)) by omega] at y5
        rw [hbk, show 1 + vn (h (vn x)) - 1 = vn (h (vn x)) by omega] at hT
        refine pk_bnd (pk_mo (sign_r (by omega) o) (fun m4 r q4 => ?_))
        obtain ⟨o4, r4⟩ := q4
        rw [ev, show (125 : Int32) = I 125 from rfl, term_e, bnd_so]
        refine pk_ck (fun _ => pk_ltq ?_)
        rw [wj_e]
        have s4 : STr h (LFr (F m0 14)) (m4.2.2.2 141) q w2 := by rw [r4]; exact s2
        obtain ⟨s5, p5⟩ := putt_r (B := ATr m0) (k := 1) (z := 0) (t := mk 20 125) s4 (Or.inl ⟨nh_so (by rw [so_mk (by decide) (by decide)]; decide), LFr_sg _ _, rfl⟩) (by omega) (by rw [so_mk (by decide) (by decide)]; decide)
        have o5 : OUr m0 (wj m4 141 q (mk 20 125)) (L ++ [123]) := OUr_wj o4
        rw [r4, TXs_sig2 ⟨by decide, by decide⟩] at p5
        generalize wj m4 141 q (mk 20 125) = m5 at *
        refine pk_bnd (pk_mo (cell_p hp1 (by omega)) (fun m6 r q6 => ?_))
        obtain ⟨rfl, rfl⟩ := q6
        rw [hp_o hh o5, lit1q, I_add, show ((q : Nat) : Int) + 1 = ((q + 1 : Nat) : Int) by omega, valI, eh]
        refine ih3 (q + 1) _ (vn x) (vn (h (vn x))) c _ _ o5 (by rw [len1]; omega) (by omega) (by omega) (fun j h1 h2 => ⟨k, y4 j (by omega) (by omega), ?_⟩) s5 (by omega) ?_
        · have le := smm_le (c := c) (a := 1) (n := vn (h (vn x))) (j := j) (by omega) (by omega)
          omega
        · rw [p5, ← hT]
          simp
          rfl
    · have tl := STr_le s
      obtain ⟨b1, b2, b3⟩ := t3 v hv
      show PK _ (fb_M_writeOn_116 N (gg_M_writeOn N g) m (I p) (I many) (I v) (I (((A m0 13 v).toNat + i : Nat) : Int)))
      unfold fb_M_writeOn_116 fb_M_writeOn_384
      refine pk_ck (fun _ => ?_)
      rw [lit1q, I_add, show ((v : Nat) : Int) + 1 = ((v + 1 : Nat) : Int) by omega, tnI (n := v + 1) rfl (by omega), I_A' (show A m 13 (v + 1) = A m0 13 (v + 1) from FR.A o.1 (by decide))]
      refine p_le ⟨by omega, by omega⟩ ⟨by omega, by omega⟩ (fun c => ?_) (fun c => ?_)
      · have e : (ATr m0 v).drop i = [] := atT_end (fr := fun i => (A m0 13 i).toNat) (by omega)
        rw [e] at hT
        exact ih1 many w m L o (by omega) s hw hT
      · have e : (ATr m0 v).drop i = m0.2.2.1 12 ((A m0 13 v).toNat + i) :: (ATr m0 v).drop (i + 1) := atT_drop (sg := m0.2.2.1 12) (fr := fun i => (A m0 13 i).toNat) (by omega)
        rw [e] at hT
        refine pk_ck (fun _ => ?_)
        rw [tnI (n := (A m0 13 v).toNat + i) rfl (by omega), o.1.2.2.1 12 (by decide)]
        refine pk_bnd (pk_mo (sign_r (by omega) o) (fun m3 r q3 => ?_))
        obtain ⟨o3, r3⟩ := q3
        rw [I_add, show (((A m0 13 v).toNat + i : Nat) : Int) + 1 = (((A m0 13 v).toNat + (i + 1) : Nat) : Int) by omega]
        refine ih2 many w v (i + 1) m3 _ o3 hv (by omega) (by rw [len1]; omega) (by rw [r3]; exact s) hw ?_
        rw [r3, ← hT]
        simp
    · have tl := STr_le s
      show PK _ (fb_M_writeOn_329 N (gg_M_writeOn N g) m (I p) (I many) (I v) (I i))
      unfold fb_M_writeOn_329 fb_M_writeOn_378 fb_M_writeOn_384
      rw [lit1q]
      refine p_less ⟨by omega, by omega⟩ ⟨by decide, by decide⟩ (fun a => ?_) (fun a => ?_)
      · have e0 : i = 0 := by omega
        rw [e0] at hT
        exact ih1 many w m L o hl s (by omega) hT
      obtain ⟨i, rfl⟩ : ∃ q, i = q + 1 := ⟨i - 1, by omega⟩
      have es : smm c 1 (i + 1) = smm c 1 i + c (1 + i) := rfl
      obtain ⟨k, y, yz⟩ := hc (i + 1) (by omega) (Nat.le_refl _)
      rw [show 1 + i = i + 1 by omega] at es
      have dn : I ((i + 1 : Nat) : Int) + I (-1) = I ((i : Nat) : Int) := by rw [I_add]; congr 1; omega
      rw [I_add, show ((v : Nat) : Int) + ((i + 1 : Nat) : Int) = ((v + (i + 1) : Nat) : Int) by omega]
      refine pk_bnd (pk_mo (cell_p hp1 (by omega)) (fun m6 r q6 => ?_))
      obtain ⟨rfl, rfl⟩ := q6
      rw [hp_o hh o]
      refine pk_ck (fun _ => pk_ltq ?_)
      rw [tnI (n := many) rfl (by omega), wj_e]
      obtain ⟨s5, p5⟩ := putt_r (B := ATr m0) s y yz (SZp_so2 y (LFr_so _))
      have o5 := OUr_wj (top := many) (t := h (v + (i + 1))) o
      generalize wj m6 141 many (h (v + (i + 1))) = m5 at *
      rw [I_neg, dn]
      refine p_le ⟨by omega, by omega⟩ ⟨by decide, by decide⟩ (fun a2 => ?_) (fun a2 => ?_)
      · have e0 : i = 0 := by omega
        subst e0
        rw [I_add, show ((many : Nat) : Int) + 1 = ((many + 1 : Nat) : Int) by omega]
        refine ih3 (many + 1) _ v 0 c m5 L o5 hl hv (by omega) (fun j h1 h2 => by omega) s5 (by omega) ?_
        rw [p5]
        exact hT
      · obtain ⟨i, rfl⟩ : ∃ q, i = q + 1 := ⟨i - 1, by omega⟩
        rw [show (20 : Int32) = I 20 from rfl, show (44 : Int32) = I 44 from rfl, term_e, bnd_so, I_add, show ((many : Nat) : Int) + 1 = ((many + 1 : Nat) : Int) by omega]
        refine pk_ck (fun _ => pk_ltq ?_)
        rw [tnI (n := many + 1) rfl (by omega), wj_e, I_add, show ((many + 1 : Nat) : Int) + 1 = ((many + 1 + 1 : Nat) : Int) by omega]
        obtain ⟨s7, p7⟩ := putt_r (B := ATr m0) (k := 1) (z := 0) (t := mk 20 44) s5 (Or.inl ⟨nh_so (by rw [so_mk (by decide) (by decide)]; decide), LFr_sg _ _, rfl⟩) (by omega) (by rw [so_mk (by decide) (by decide)]; decide)
        refine ih3 (many + 1 + 1) _ v (i + 1) c _ L (OUr_wj o5) hl hv (by omega) (fun j h1 h2 => hc j h1 (by omega)) s7 (by omega) ?_
        rw [p7, TXs_sig2 ⟨by decide, by decide⟩, p5, ← hT, jnT_last (n := i) (i := 1), show 1 + i + 1 = i + 1 + 1 by omega]
        simp
        rfl
theorem writeOn_r (hp1 : p < 25) (hh : hp m p = h) (hA : ATM m) (hl : L.length ≤ 100) (o : OUr m0 m L) (y : SZp h (LFr (F m 14)) k t z) (hz : z ≤ 1000) : PK (fun m2 _ => DNr m0 m2 (L ++ TXs h (ATr m) t)) (fm_M_writeOn N m (I p) t) := by
  unfold fm_M_writeOn fb_M_writeOn_0
  refine pk_ck (fun _ => pk_ltq ?_)
  rw [show (0 : Int32).toNatClampNeg = 0 from rfl, wj_e, lit1q, show (1 : Int) = ((1 : Nat) : Int) from rfl]
  have f0 := o.1
  have eA : ATr m0 = ATr m := by
    unfold ATr
    funext a
    rw [f0.2.2.1 12 (by decide)]
    congr 1
    funext i
    rw [FR.A f0 (by decide)]
  have e14 : F m0 14 = F m 14 := (FR.F f0 (by decide)).symm
  have hA0 : ATM m0 := by
    obtain ⟨a1, a2, a3⟩ := hA
    unfold ATM
    rw [e14]
    refine ⟨a1, a2, fun q hq => ?_⟩
    have := a3 q hq
    rw [FR.A f0 (by decide), FR.A f0 (by decide)] at this
    exact this
  have hh0 : hp m0 p = h := by
    rw [← hh]
    unfold hp
    rw [f0.2.2.2 88 (by decide)]
  obtain ⟨s5, p5⟩ := putt_r (B := ATr m0) (m := m) (top := 0) (w := 0) (R := LFr (F m 14)) trivial y hz (SZp_so2 y (LFr_so _))
  rw [← eA]
  refine (won_r (N := N) hp1 hh0 hA0 N).1 1 _ _ L (OUr_wj o) (by omega) (by rw [e14]; exact s5) (by omega) ?_
  rw [p5]
  show L ++ (_ ++ []) = _
  rw [List.append_nil]
end
end
section
set_option maxRecDepth 100000
section
variable {b : Int → Nat → Nat → Prop} {h h' : Nat → Int64} {n0 n0' k z : Nat} {t x : Int64} {M : Int} {A A' : Nat → List Int32}
theorem alT_cg (hA : ∀ a : Nat, ((a : Nat) : Int) < M → A a = A' a) (hx : so x = 1 → 0 ≤ va x ∧ va x < M) : alT A x = alT A' x := by
  by_cases e : so x = 1
  · have := hx e
    rw [alT_1 e, alT_1 e]
    exact hA _ (by unfold vn; omega)
  · unfold alT
    rw [if_neg e, if_neg e]
theorem TX_cg (hA : ∀ a : Nat, ((a : Nat) : Int) < M → A a = A' a) : ∀ (f : Nat) (x : Int64) (k z : Nat), SZp h' (LFr M) k x z → (txF h' A f).1 x = (txF h' A' f).1 x ∧ (txF h' A f).2 x = (txF h' A' f).2 x
  | 0, _, _, _, _ => ⟨rfl, rfl⟩
  | f + 1, x, 0, z, sp => sp.elim
  | f + 1, x, k + 1, z, sp => by
    rw [tx1_e, tx1_e, tx2_e, tx2_e]
    rcases sp with ⟨y1, y2, y9⟩ | ⟨y1, y8, c, y3, y9⟩
    · have n5 : so x ≠ 5 := fun e => y1 (Or.inr (Or.inl e))
      have n7 : so x ≠ 7 := fun e => y1 (Or.inr (Or.inr e))
      rw [if_neg n5, if_neg n5, if_neg n7, if_neg n7, if_neg n7, if_neg n7, alT_cg hA y2.2]
      refine ⟨rfl, ?_⟩
      by_cases e6 : so x = 6
      · rw [if_pos e6, if_pos e6]
      · rw [if_neg e6, if_neg e6, (TX_cg hA f x (k + 1) z (Or.inl ⟨y1, y2, y9⟩)).1]
    · by_cases e7 : so x = 7
      · have b2 : blk h' x = 2 := by unfold blk; rw [if_pos e7]
        have p0 : prt x = 0 := by unfold prt; rw [if_pos e7]
        have s0 := y3 0 (by omega) (by omega)
        have s1 := y3 1 (by omega) (by omega)
        have n5 : so x ≠ 5 := by omega
        have n6 : so x ≠ 6 := by omega
        rw [if_neg n5, if_neg n5, if_pos e7, if_pos e7, if_neg n6, if_neg n6, if_pos e7, if_pos e7, show h' (vn x) = h' (vn x + 0) from rfl, (TX_cg hA f _ _ _ s0).1, (TX_cg hA f _ _ _ s1).2]
        exact ⟨rfl, rfl⟩
      · have n6 : so x ≠ 6 := by rcases y1 with e | e | e <;> omega
        have e1 : (txF h' A (f + 1)).1 x = (txF h' A' (f + 1)).1 x := by
          rw [tx1_e, tx1_e]
          by_cases e5 : so x = 5
          · have p1 : prt x = 1 := by unfold prt; rw [if_neg (by omega), if_pos e5]
            rw [if_pos e5, if_pos e5, jnT_eq (fun j h1 h2 => (TX_cg hA f _ _ _ (y3 j (by omega) (by omega))).1)]
          · have e3 : so x = 3 := by rcases y1 with e | e | e <;> omega
            rw [if_neg e5, if_neg e5, if_neg e7, if_neg e7, alT_3 e3, alT_3 e3]
        rw [tx1_e, tx1_e] at e1
        refine ⟨e1, ?_⟩
        rw [if_neg n6, if_neg n6, if_neg e7, if_neg e7, (TX_cg hA f x (k + 1) z (Or.inr ⟨y1, y8, c, y3, y9⟩)).1]
theorem TXs_isr (s : ISw b h n0 h' n0') (hA : ∀ a : Nat, ((a : Nat) : Int) < M → A a = A' a) (r : RTb b t x) (sp : SZp h' (LFr M) k x z) : TXs h A t = TXs h' A' x := (TXs_iso s (fun _ _ => rfl) r).trans (TX_cg hA fuT x k z sp).1
end
end
section
set_option maxRecDepth 100000
def LKP (H O : List Nat) (x : Int) (i : Int) : Prop := ∃ y : Nat, x = ((y : Nat) : Int) ∧ ((∃ k : Nat, i = ((k : Nat) : Int) ∧ O[k]? = some y) ∨ (∃ k : Nat, i = -2 - ((k : Nat) : Int) ∧ y ∉ O ∧ H[k]? = some y))
def STRs (C : Nat → Int) (R : Nat → Nat → Int) (i : Nat) (s : Int) (l : Nat) : Prop := ∃ s0 b : Nat, s = ((s0 : Nat) : Int) ∧ R 19 s0 = ((b : Nat) : Int) ∧ R 19 (s0 + 1) = ((b + l : Nat) : Int) ∧ C i = ((l : Nat) : Int) ∧ ∀ k, k < l → C (i + 1 + k) = R 18 (b + k)
def PTs (C : Nat → Int) (R : Nat → Nat → Int) (J : Nat → Int64) (H : List Nat) : Nat → Nat → Nat → List Nat → Nat → List Nat → Prop
  | 0, _, _, _, _, _ => False
  | f + 1, i, p, O, j, O2 =>
    (R 33 p = 0 ∧ C i = 5 ∧ j = i + 1 ∧ O2 = O) ∨
    (R 33 p = 1 ∧ C i = 4 ∧ j = i + 2 ∧ ∃ x : Nat, C (i + 1) = ((x : Nat) : Int) ∧ x ∉ O ∧ O2 = O ++ [x]) ∨
    (R 33 p = 2 ∧ C i = 3 ∧ j = i + 2 ∧ O2 = O ∧ LKP H O (C (i + 1)) (R 35 p)) ∨
    (R 33 p = 3 ∧ C i = 1 ∧ j = i + 3 ∧ O2 = O ∧ J p = mk (C (i + 1)) (C (i + 2)) ∧ (C (i + 1) = 0 ∨ C (i + 1) = 1 ∨ (C (i + 1) = 6 ∧ C (i + 2) = 0))) ∨
    (R 33 p = 4 ∧ C i = 2 ∧ O2 = O ∧ ∃ l : Nat, STRs C R (i + 1) (R 35 p) l ∧ j = i + 2 + l) ∨
    (R 33 p = 5 ∧ C i = 6 ∧ C (i + 1) = R 35 p ∧ ∃ n : Nat, (R 35 p = ((n : Nat) : Int) ∧ n ≤ 8) ∧ ∃ (ci : Nat → Nat) (cp : Nat → Nat) (co : Nat → List Nat), ci 0 = i + 2 ∧ ci n = j ∧ co 0 = O ∧ co n = O2 ∧ (0 < n → R 36 p = ((cp 0 : Nat) : Int)) ∧ (n = 0 → R 36 p = -1) ∧ ∀ k, k < n → PTs C R J H f (ci k) (cp k) (co k) (ci (k + 1)) (co (k + 1)) ∧ (k + 1 < n → R 37 (cp k) = ((cp (k + 1) : Nat) : Int)) ∧ (k + 1 = n → R 37 (cp k) = -1)) ∨
    (R 33 p = 6 ∧ ∃ n : Nat, (R 35 p = ((n : Nat) : Int) ∧ n ≤ 8) ∧ ∃ (ci : Nat → Nat) (cp : Nat → Nat) (co : Nat → List Nat), ci 0 = i ∧ co 0 = O ∧ (0 < n → R 36 p = ((cp 0 : Nat) : Int)) ∧ (∀ k, k < n → C (ci k) = 7 ∧ PTs C R J H f (ci k + 1) (cp k) (co k) (ci (k + 1)) (co (k + 1)) ∧ (k + 1 < n → R 37 (cp k) = ((cp (k + 1) : Nat) : Int))) ∧ ((R 38 p = 0 ∧ C (ci n) = 1 ∧ C (ci n + 1) = 6 ∧ C (ci n + 2) = 0 ∧ j = ci n + 3 ∧ O2 = co n) ∨ (R 38 p = 1 ∧ 0 < n ∧ R 37 (cp (n - 1)) = ((cp n : Nat) : Int) ∧ PTs C R J H f (ci n) (cp n) (co n) j O2)))
def PTr (C : Nat → Int) (R : Nat → Nat → Int) (J : Nat → Int64) (H : List Nat) (f : Nat) (n i : Nat) (p : Int) (O : List Nat) (j : Nat) (O2 : List Nat) : Prop := ∃ (ci : Nat → Nat) (cp : Nat → Nat) (co : Nat → List Nat), ci 0 = i ∧ ci n = j ∧ co 0 = O ∧ co n = O2 ∧ p = ((cp 0 : Nat) : Int) ∧ ∀ k, k < n → PTs C R J H f (ci k) (cp k) (co k) (ci (k + 1)) (co (k + 1)) ∧ (k + 1 < n → R 37 (cp k) = ((cp (k + 1) : Nat) : Int))
def TWs (s : Int) (o k : Int) : Prop := (o = 8 ∧ ((s = 12 ∧ k = 39) ∨ (s = 13 ∧ k = 40) ∨ (s = 14 ∧ k = 31) ∨ (s = 15 ∧ k = 41) ∨ (s = 16 ∧ k = 32) ∨ (s = 17 ∧ k = 42))) ∨ (o = 9 ∧ ((s = 18 ∧ k = 33) ∨ (s = 19 ∧ k = 34) ∨ (s = 20 ∧ k = 35) ∨ (s = 105 ∧ k = 10) ∨ (s = 113 ∧ k = 18))) ∨ (o = 10 ∧ ((s = 22 ∧ k = 43) ∨ (s = 23 ∧ k = 44)))
def PDs (p o d : Int) : Prop := (0 ≤ p ∧ p < 30) ∧ d = (if p ≤ 7 then p else if p = 8 then 29 else p - 1) ∧ o = (if d = 2 ∨ d = 3 ∨ d = 4 ∨ d = 29 ∨ d = 15 then 40 else 39)
def CHs (C : Nat → Int) (R : Nat → Nat → Int) (S : Option (Nat × Nat × Nat) → Nat → Nat → List Nat → List Nat → Prop) (kd e k : Nat) (H O : List Nat) : Prop := ∃ b : Nat, R 43 k = ((b : Nat) : Int) ∧ ((kd = 0 ∧ C e = 24 ∧ C (e + 1) = R 41 k ∧ (∃ t : Nat, R 44 k = ((t : Nat) : Int) ∧ C (e + 2) = R 8 t) ∧ S none (e + 3) b H O) ∨ (kd = 1 ∧ C e = 15 ∧ S none (e + 1) b H O) ∨ (kd = 2 ∧ S none e b H O) ∨ (kd = 3 ∧ C e = 33 ∧ S none (e + 1) b H O))
def ZRs (C : Nat → Int) (R : Nat → Nat → Int) (J : Nat → Int64) (S : Option (Nat × Nat × Nat) → Nat → Nat → List Nat → List Nat → Prop) (kd sc : Nat) (H O : List Nat) : Nat → Nat → Int → Prop
  | 0, _, _ => False
  | f + 1, a, k =>
    a + 1 < 24000 ∧ ((k = -1 ∧ ((kd = 0 ∧ C a = 36) ∨ (kd = 1 ∧ C a = 37) ∨ (kd = 2 ∧ C a = 38) ∨ (kd = 3 ∧ C a = 34 ∧ C (a + 1) = ((sc : Nat) : Int)))) ∨
    (∃ k0 : Nat, (k = ((k0 : Nat) : Int) ∧ k0 < 100000) ∧ ∃ (e : Nat) (O2 : List Nat),
      (((kd = 2 ∨ (kd = 0 ∧ R 41 k0 = 0)) ∧ e = a ∧ O2 = O) ∨
       (C a = 19 ∧ (∃ fl : Nat, C (a + 2) = ((fl : Nat) : Int) ∧ ZRs C R J S kd sc H O f fl (R 45 k0)) ∧ ∃ n e2 : Nat, ((kd = 0 ∧ (0 < n ∧ n ≤ 6) ∧ R 41 k0 = ((n : Nat) : Int) ∧ C (a + 1) = ((n : Nat) : Int)) ∨ (kd = 1 ∧ n = 1 ∧ C (a + 1) = -1) ∨ (kd = 3 ∧ n = 1 ∧ C (a + 1) = -2)) ∧ PTr C R J H 230 n (a + 3) (R 40 k0) O e2 O2 ∧ C e2 = 8 ∧ e = e2 + 1)) ∧
      ((R 42 k0 = -1 ∧ CHs C R S kd e k0 H O2) ∨
       (∃ g fl : Nat, R 42 k0 = ((g : Nat) : Int) ∧ C e = 21 ∧ C (e + 1) = ((O2.length - O.length : Nat) : Int) ∧ C (e + 2) = ((fl : Nat) : Int) ∧ 0 < fl ∧ ZRs C R J S kd sc H O f fl (R 45 k0) ∧ S (some (kd, k0, sc)) (e + 3) g H O2))))
def RCs (C : Nat → Int) (R : Nat → Nat → Int) (J : Nat → Int64) (S : Option (Nat × Nat × Nat) → Nat → Nat → List Nat → List Nat → Prop) (f sc n : Nat) (H O : List Nat) : Prop := C sc = 32 ∧ ZRs C R J S 3 sc H O f (sc + 2) (R 25 n) ∧ (R 31 n ≠ -1 → ∃ a l b : Nat, R 31 n = ((a : Nat) : Int) ∧ C (sc + 1) = ((l : Nat) : Int) ∧ R 26 a = ((b : Nat) : Int) ∧ S none l b H O) ∧ (R 31 n = -1 → C (sc - 1) = 0)
def LCs (C : Nat → Int) (R : Nat → Nat → Int) (J : Nat → Int64) (f : Nat) (S : Option (Nat × Nat × Nat) → Nat → Nat → List Nat → List Nat → Prop) (y : Option (Nat × Nat × Nat)) (a n : Nat) (H O : List Nat) : Prop :=
  (R 23 n = 1 ∧ (R 25 n = 0 ∨ R 25 n = 1 ∨ (R 25 n = 6 ∧ R 26 n = 0)) ∧ C a = 1 ∧ C (a + 1) = R 25 n ∧ C (a + 2) = R 26 n ∧ S y (a + 3) (n + 1) H O) ∨
  (R 23 n = 2 ∧ C a = 2 ∧ ∃ l : Nat, STRs C R (a + 1) (R 25 n) l ∧ S y (a + 2 + l) (n + 1) H O) ∨
  (R 23 n = 3 ∧ C a = 3 ∧ LKP H O (C (a + 1)) (R 25 n) ∧ S y (a + 2) (n + 1) H O) ∨
  (R 23 n = 4 ∧ C a = 4 ∧ C (a + 1) = R 25 n ∧ S y (a + 2) (n + 1) H O) ∨
  (R 23 n = 5 ∧ R 26 n = 1 ∧ 0 < R 25 n ∧ C a = 5 ∧ C (a + 1) = R 25 n ∧ S y (a + 2) (n + 1) H O) ∨
  (R 23 n = 5 ∧ R 26 n = 0 ∧ C a = 1 ∧ C (a + 1) = 6 ∧ C (a + 2) = 0 ∧ ((R 25 n = 0 ∧ S y (a + 3) (n + 1) H O) ∨ (0 < R 25 n ∧ C (a + 3) = 5 ∧ C (a + 4) = R 25 n ∧ S y (a + 5) (n + 1) H O))) ∨
  (R 23 n = 6 ∧ TWs (R 25 n) (C a) (C (a + 1)) ∧ S y (a + 2) (n + 1) H O) ∨
  (R 23 n = 7 ∧ C a = 12 ∧ S y (a + 1) (n + 1) H O) ∨
  (R 23 n = 8 ∧ C a = 11 ∧ S y (a + 1) (n + 1) H O) ∨
  ((R 23 n = 9 ∧ C a = 13 ∨ R 23 n = 10 ∧ C a = 14) ∧ (∃ t b : Nat, C (a + 1) = ((t : Nat) : Int) ∧ R 25 n = ((b : Nat) : Int) ∧ S y t b H O) ∧ S y (a + 2) (n + 1) H O) ∨
  (R 23 n = 11 ∧ C a = 17 ∧ S y (a + 1) (n + 1) H O) ∨
  (R 23 n = 12 ∧ 2000 ≤ R 27 n ∧ PDs (R 27 n - 2000) (C a) (C (a + 1)) ∧ S y (a + 2) (n + 1) H O) ∨
  (R 23 n = 12 ∧ y = none ∧ (0 ≤ R 27 n ∧ R 27 n < 2000) ∧ C (a + 1) = R 27 n ∧ C (a + 2) = R 26 n ∧ (∃ t : Nat, R 24 n = ((t : Nat) : Int) ∧ C (a + 3) = R 8 t) ∧ ((R 30 n = 1 ∧ C a = 26 ∧ a + 3 < 24000) ∨ (R 30 n = 0 ∧ C a = 25 ∧ S y (a + 4) (n + 1) H O))) ∨
  (R 23 n = 13 ∧ y = none ∧ C (a + 1) = R 26 n ∧ (∃ t : Nat, R 24 n = ((t : Nat) : Int) ∧ C (a + 2) = R 8 t) ∧ ((R 30 n = 1 ∧ C a = 28 ∧ a + 2 < 24000) ∨ (R 30 n = 0 ∧ C a = 27 ∧ S y (a + 3) (n + 1) H O))) ∨
  (R 23 n = 14 ∧ C a = 6 ∧ C (a + 1) = R 25 n ∧ ∃ u l b : Nat, R 25 n = ((u : Nat) : Int) ∧ R 54 u = ((l : Nat) : Int) ∧ C (a + 2) = ((l : Nat) : Int) ∧ R 55 u = ((b : Nat) : Int) ∧ (∀ k, k < l → LKP H O (C (a + 3 + k)) (R 57 (b + k))) ∧ S y (a + 3 + l) (n + 1) H O) ∨
  (R 23 n = 15 ∧ C a = 7 ∧ C (a + 1) = R 27 n ∧ S y (a + 2) (n + 1) H O) ∨
  (R 23 n = 16 ∧ y = none ∧ C a = 20 ∧ ∃ (p e : Nat) (O2 : List Nat), R 25 n = ((p : Nat) : Int) ∧ PTs C R J H 230 (a + 1) p O e O2 ∧ C e = 8 ∧ S y (e + 1) (n + 1) H O2) ∨
  (R 23 n = 17 ∧ C a = 15 ∧ S y (a + 1) (n + 1) H O) ∨
  (R 23 n = 18 ∧ C a = 16 ∧ ∃ k : Nat, R 25 n = ((k : Nat) : Int) ∧ k ≤ O.length ∧ C (a + 1) = ((O.length - k : Nat) : Int) ∧ S y (a + 2) (n + 1) H (O.take k)) ∨
  (R 23 n = 18 ∧ R 23 (n + 1) = 20 ∧ C a = 30 ∧ C (a + 1) = 16 ∧ ∃ k : Nat, R 25 n = ((k : Nat) : Int) ∧ k ≤ O.length ∧ C (a + 2) = ((O.length - k : Nat) : Int) ∧ S y (a + 3) (n + 2) H (O.take k)) ∨
  (R 23 n = 19 ∧ y = none ∧ C a = 29 ∧ (∃ t b : Nat, C (a + 1) = ((t : Nat) : Int) ∧ R 25 n = ((b : Nat) : Int) ∧ S y t b H O) ∧ S y (a + 2) (n + 1) H O) ∨
  (R 23 n = 20 ∧ C a = 30 ∧ S y (a + 1) (n + 1) H O) ∨
  ((R 23 n = 21 ∨ R 23 n = 31) ∧ y = none ∧ R 27 n = ((O.length : Nat) : Int) ∧ ZRs C R J S (if R 23 n = 21 then 1 else 2) 0 H O f a (R 25 n)) ∨
  (R 23 n = 22 ∧ y ≠ none ∧ C a = 22 ∧ S y (a + 1) (n + 1) H O) ∨
  (R 23 n = 23 ∧ C a = 23 ∧ ∃ kd k sc : Nat, y = some (kd, k, sc) ∧ CHs C R S kd (a + 1) k H O) ∨
  (R 23 n = 26 ∧ C a = 18 ∧ ∃ t b : Nat, C (a + 1) = ((t : Nat) : Int) ∧ ((R 25 n = ((b : Nat) : Int)) ∨ (R 25 n = -2 ∧ ∃ r : Nat, R 26 n = ((r : Nat) : Int) ∧ R 26 r = ((b : Nat) : Int))) ∧ S y t b H O) ∨
  (R 23 n = 26 ∧ ∃ b : Nat, R 25 n = ((b : Nat) : Int) ∧ S y a b H O) ∨
  (R 23 n = 27 ∧ y = none ∧ R 31 n = -1 ∧ C a = 31 ∧ C (a + 1) = 0 ∧ R 27 n = ((O.length : Nat) : Int) ∧ RCs C R J S f (a + 2) n H O) ∨
  (R 23 n = 28 ∧ y = none ∧ ∃ (r k a2 : Nat), R 25 n = ((r : Nat) : Int) ∧ R 27 n = ((k : Nat) : Int) ∧ k ≤ O.length ∧ ((k = O.length ∧ a2 = a) ∨ (k < O.length ∧ C a = 16 ∧ C (a + 1) = ((O.length - k : Nat) : Int) ∧ a2 = a + 2)) ∧ C a2 = 31 ∧ C (a2 + 1) = 1 ∧ R 23 r = 27 ∧ R 31 r = ((n : Nat) : Int) ∧ R 27 r = ((k : Nat) : Int) ∧ RCs C R J S f (a2 + 2) r H (O.take k)) ∨
  (R 23 n = 29 ∧ y = none ∧ C a = 35) ∨
  (R 23 n = 30 ∧ S y a (n + 1) H O)
def CRs (C : Nat → Int) (R : Nat → Nat → Int) (J : Nat → Int64) : Nat → Option (Nat × Nat × Nat) → Nat → Nat → List Nat → List Nat → Prop
  | 0, _, _, _, _, _ => False
  | f + 1, y, a, n, H, O => (O.Nodup ∧ H.Nodup) ∧ (a + 2 < 24000 ∧ n + 2 < 100000 ∧ H.length + O.length ≤ 40) ∧ LCs C R J f (CRs C R J f) y a n H O
theorem CR_b {C : Nat → Int} {R : Nat → Nat → Int} {J : Nat → Int64} {f a n : Nat} {y : Option (Nat × Nat × Nat)} {H O : List Nat} (h : CRs C R J f y a n H O) : a + 1 < 24000 ∧ n + 2 < 100000 ∧ H.length + O.length ≤ 40 := by
  cases f with
  | zero => exact h.elim
  | succ f => exact ⟨by have := h.2.1.1; omega, h.2.1.2⟩
theorem CR_b2 {C : Nat → Int} {R : Nat → Nat → Int} {J : Nat → Int64} {f a n : Nat} {y : Option (Nat × Nat × Nat)} {H O : List Nat} (h : CRs C R J f y a n H O) : a + 2 < 24000 := by
  cases f with
  | zero => exact h.elim
  | succ f => exact h.2.1.1
theorem CR_n {C : Nat → Int} {R : Nat → Nat → Int} {J : Nat → Int64} {f a n : Nat} {y : Option (Nat × Nat × Nat)} {H O : List Nat} (h : CRs C R J f y a n H O) : O.Nodup ∧ H.Nodup := by
  cases f with
  | zero => exact h.elim
  | succ f => exact h.1
def ROs (w : MS) (k i : Nat) : Int := if k = 8 ∨ k = 18 ∨ k = 19 ∨ (23 ≤ k ∧ k ≤ 31) ∨ (33 ≤ k ∧ k ≤ 45) ∨ (47 ≤ k ∧ k ≤ 57) then A w k i else 0
end
section
set_option maxRecDepth 100000
def PLs (b : Int → Nat → Nat → Prop) (q : Nat) (m w : MS) (U B W Y : Nat) : Prop :=
  ((F m (pq q 4) = ((U : Nat) : Int) ∧ A w 89 q = ((U : Nat) : Int) ∧ U ≤ 500) ∧ ISb b (m.2.2.2 (pq q 2)) U (hp w q) U ∧ m.1 (pq q 5) = w.2.2.1 90 q) ∧
  (F m (pq q 24) = ((B : Nat) : Int) ∧ A w 94 q = ((B : Nat) : Int) ∧ ∀ i, i < B → RTb b (m.2.2.2 (pq q 33) i) (w.2.2.2 93 (2500 * q + i))) ∧
  (F m (pq q 26) = ((W : Nat) : Int) ∧ A w 92 q = ((W : Nat) : Int) ∧ ∀ i, i < W → RTb b (m.2.2.2 (pq q 35) i) (w.2.2.2 91 (46000 * q + i))) ∧
  (F m (pq q 7) = ((Y : Nat) : Int) ∧ A w 108 q = ((Y : Nat) : Int) ∧ ∀ i, i < Y → RTb b (m.2.2.2 (pq q 6) i) (w.2.2.2 107 (30 * q + i)))
def SCs (q : Nat) (m w : MS) : Prop := m.1 (pq q 12) = w.2.2.1 113 q ∧ m.1 (pq q 13) = w.2.2.1 114 q ∧ m.1 (pq q 11) = w.2.2.1 112 q ∧ m.1 (pq q 15) = w.2.2.1 117 q ∧ m.1 (pq q 29) = w.2.2.1 115 q ∧ ∀ i : Nat, ((i : Nat) : Int) < F m (pq q 15) → m.2.2.1 (pq q 14) i = w.2.2.1 116 (24 * q + i)
def LNs (w : MS) (c : Int) (l : Int) : Prop := (c = -1 ∧ l = 0) ∨ ∃ k t : Nat, c = ((k : Nat) : Int) ∧ A w 44 k = ((t : Nat) : Int) ∧ l = A w 8 t
def NMs (m : MS) (q base : Nat) (L : List Nat) : Prop := ∀ i x : Nat, L[i]? = some x → A m (pq q 32) (base + i) = ((x : Nat) : Int)
def FLs (m w : MS) (q r nb : Nat) (H O : List Nat) : Prop := A m (pq q 30) (5 * r) = A w 96 (60 * q + r) ∧ LNs w (A w 97 (60 * q + r)) (A m (pq q 30) (5 * r + 1)) ∧ (A m (pq q 30) (5 * r + 2) = ((nb : Nat) : Int) ∧ A w 99 (60 * q + r) = ((nb : Nat) : Int)) ∧ A m (pq q 30) (5 * r + 3) = A w 100 (60 * q + r) ∧ A w 101 (60 * q + r) = ((H.length : Nat) : Int) ∧ NMs m q nb (H ++ O)
def FAs (m w : MS) (q j : Nat) (nb : Nat → Nat) (Hs Os : Nat → List Nat) : Prop :=
  (F m (pq q 21) = ((j + 1 : Nat) : Int) ∧ A w 95 q = ((j + 1 : Nat) : Int) ∧ j < 60) ∧
  (∀ r, r ≤ j → FLs m w q r (nb r) (Hs r) (Os r)) ∧
  (∀ r, r < j → nb (r + 1) = nb r + (Hs r ++ Os r).length ∧ ∃ a n : Nat, A m (pq q 30) (5 * r + 4) = ((a : Nat) : Int) ∧ A w 98 (60 * q + r) = ((n : Nat) : Int) ∧ ∃ f, CRs (A m 23) (ROs w) (w.2.2.2 34) f none a n (Hs r) (Os r)) ∧
  (F m (pq q 24) = ((nb j + (Hs j ++ Os j).length : Nat) : Int))
def CTs (m w : MS) (q j : Nat) (nb : Nat → Nat) (Hs Os : Nat → List Nat) : Prop :=
  ∃ n : Nat, F m (pq q 28) = ((n : Nat) : Int) ∧ A w 106 q = ((n : Nat) : Int) ∧ n ≤ 1600 ∧ (∀ c, c + 1 < n → A w 102 (1600 * q + c) ≤ A w 102 (1600 * q + (c + 1)) ∧ A w 105 (1600 * q + c) ≤ A w 105 (1600 * q + (c + 1))) ∧ ∀ c, c < n → ∃ r k a nd nn : Nat, r ≤ j ∧
    A m (pq q 37) (4 * c) = ((r + 1 : Nat) : Int) ∧ A w 102 (1600 * q + c) = ((r : Nat) : Int) ∧
    A m (pq q 37) (4 * c + 1) = ((nb r + (Hs r).length + k : Nat) : Int) ∧ A w 105 (1600 * q + c) = ((nb r + (Hs r).length + k : Nat) : Int) ∧ k ≤ (Os r).length ∧
    A m (pq q 37) (4 * c + 2) = A w 104 (1600 * q + c) ∧
    A m (pq q 37) (4 * c + 3) = ((a : Nat) : Int) ∧ A w 103 (1600 * q + c) = ((nd : Nat) : Int) ∧ A w 25 nd = ((nn : Nat) : Int) ∧ ∃ f, CRs (A m 23) (ROs w) (w.2.2.2 34) f none a nn (Hs r) ((Os r).take k)
def DLs (x y : Int64) : Prop := x = y ∧ (y = -1 ∨ 0 ≤ y.toInt)
def STs9 (m w : MS) (q j : Nat) (H O : List Nat) : Prop :=
  ∃ a : Nat, A m (pq q 30) (5 * j + 4) = ((a : Nat) : Int) ∧
    ((F m (pq q 9) = 0 ∧ A w 109 q = 0 ∧ ∃ n : Nat, A w 98 (60 * q + j) = ((n : Nat) : Int) ∧ ∃ f, CRs (A m 23) (ROs w) (w.2.2.2 34) f none a n H O) ∨
     (F m (pq q 9) = 0 ∧ A w 109 q = 5 ∧ j = 0 ∧ O = [] ∧ ∃ c : Nat, ((0 ≤ A w 96 (60 * q) ∧ A w 50 (A w 96 (60 * q)).toNat = ((c : Nat) : Int)) ∨ (A w 96 (60 * q) = -1 ∧ ∃ u : Nat, A w 170 q = ((u : Nat) : Int) ∧ A w 53 u = ((c : Nat) : Int))) ∧ (H.Nodup ∧ ∃ f g, ZRs (A m 23) (ROs w) (w.2.2.2 34) (CRs (A m 23) (ROs w) (w.2.2.2 34) f) 0 0 H [] g a ((c : Nat) : Int))) ∨
     (F m (pq q 9) = 1 ∧ A w 109 q = 1 ∧ (F m (pq q 8) = F m (pq q 7) ∨ F m (pq q 8) = A w 110 q) ∧ F m (pq q 8) = A w 110 q ∧ DLs (m.2.1 (pq q 10)) (w.2.2.2 111 q) ∧ ∃ n : Nat, A w 98 (60 * q + j) = ((n : Nat) : Int) ∧ A w 23 n = 27 ∧ A w 27 n = ((O.length : Nat) : Int) ∧ (H.Nodup ∧ O.Nodup) ∧ ∃ g, RCs (A m 23) (ROs w) (w.2.2.2 34) (CRs (A m 23) (ROs w) (w.2.2.2 34) g) g a n H O))
def ALs (m w : MS) (q : Nat) : Prop := ∃ b U B W Y j nb Hs Os, PLs b q m w U B W Y ∧ SCs q m w ∧ FAs m w q j nb Hs Os ∧ CTs m w q j nb Hs Os ∧ STs9 m w q j (Hs j) (Os j)
def RZs (m w : MS) (q : Nat) : Prop := ∃ hm k z : Nat, rf (m.1 (pq q 17)) = some hm ∧ hm < 24 ∧ F m (pq hm 9) = 3 ∧ SZp (m.2.2.2 (pq hm 2)) (LFs (F m 22)) k (m.2.1 (pq q 16)) z ∧ z ≤ 1020 ∧
  A w 132 q = ((min (TXs (m.2.2.2 (pq hm 2)) (ATc m) (m.2.1 (pq q 16))).length 100 : Nat) : Int) ∧ ∀ i, i < min (TXs (m.2.2.2 (pq hm 2)) (ATc m) (m.2.1 (pq q 16))).length 100 → w.2.2.1 131 (100 * q + i) = byS8 ((TXs (m.2.2.2 (pq hm 2)) (ATc m) (m.2.1 (pq q 16))).getD i 0)
def DEs (m w : MS) (q : Nat) : Prop := F m (pq q 9) = 3 ∧ A w 109 q = 3 ∧ RZs m w q ∧ (m.1 (pq q 12) = I (-1) ∧ w.2.2.1 113 q = I (-1)) ∧ m.1 (pq q 13) = w.2.2.1 114 q ∧ m.1 (pq q 5) = w.2.2.1 90 q ∧ (F m (pq q 15) = 0 ∧ A w 117 q = 0)
def WGs (m w : MS) (PR : Nat) : Prop :=
  (F m 942 = ((PR : Nat) : Int) ∧ F w 118 = ((PR : Nat) : Int)) ∧ m.1 944 = w.1 120 ∧ m.1 945 = w.1 121 ∧ m.1 946 = w.1 119 ∧
  (m.1 950 = w.1 125 ∧ ∀ i : Nat, ((i : Nat) : Int) < F m 950 → m.2.2.1 49 i = w.2.2.1 123 i ∧ m.2.2.1 50 i = w.2.2.1 124 i ∧ m.2.2.1 51 i = w.2.2.1 122 i) ∧
  (m.1 953 = w.1 128 ∧ ∀ l : Nat, ((l : Nat) : Int) < F m 953 → m.2.2.1 53 l = w.2.2.1 127 l ∧ ∀ i : Nat, ((i : Nat) : Int) < A m 53 l → m.2.2.1 52 (100 * l + i) = w.2.2.1 126 (100 * l + i))
def ATs9 (m w : MS) : Prop := ∀ a : Nat, ((a : Nat) : Int) < F w 14 → ATc m a = ATr w a
section
variable {b : Int → Nat → Nat → Prop} {m w : MS} {q U B W Y : Nat}
theorem PLs_z (p : PLs b q m w U B W Y) (h : F w 140 ≠ ((q : Nat) : Int)) : RTZ b m w q B W Y W B Y := by
  obtain ⟨-, ⟨-, -, p1⟩, ⟨-, -, p2⟩, -, -, p3⟩ := p
  refine ⟨fun K i c _ => Or.inl ?_, fun K i c _ => ?_, fun e => absurd e h⟩
  · rcases c with ⟨rfl, c⟩ | ⟨rfl, c⟩ | ⟨rfl, c⟩
    · exact ⟨93, 2500 * q + i, Or.inr (Or.inl ⟨rfl, by omega, by omega⟩), p1 i c⟩
    · exact ⟨91, 46000 * q + i, Or.inl ⟨rfl, by omega, by omega⟩, p2 i c⟩
    · exact ⟨107, 30 * q + i, Or.inr (Or.inr ⟨rfl, by omega, by omega⟩), p3 i c⟩
  · rcases c with ⟨rfl, c1, c2⟩ | ⟨rfl, c1, c2⟩ | ⟨rfl, c1, c2⟩
    · have := p2 (i - 46000 * q) (by omega)
      rw [show 46000 * q + (i - 46000 * q) = i by omega] at this
      exact ⟨pq q 35, i - 46000 * q, Or.inr (Or.inl ⟨rfl, by omega⟩), this⟩
    · have := p1 (i - 2500 * q) (by omega)
      rw [show 2500 * q + (i - 2500 * q) = i by omega] at this
      exact ⟨pq q 33, i - 2500 * q, Or.inl ⟨rfl, by omega⟩, this⟩
    · have := p3 (i - 30 * q) (by omega)
      rw [show 30 * q + (i - 30 * q) = i by omega] at this
      exact ⟨pq q 6, i - 30 * q, Or.inr (Or.inr ⟨rfl, by omega⟩), this⟩
end
end
section
set_option maxRecDepth 100000
section
variable {b b2 : Int → Nat → Nat → Prop} {h h' h2 h2' d : Nat → Int64} {n n' m a0 c0 s0 s : Nat} {t x y r : Int64} {k : Int} {ow kd : Nat → Nat} {Fv : Int64 → Int64 → Prop} {P : Int64 → Prop}
theorem ISb_hole (sI : ISb b h n h' n') (hz : ∀ t x, isH t → RTb b t x → (vn t + blk h t ≤ a0 ∨ a0 + m ≤ vn t) ∧ (vn x + blk h t ≤ c0 ∨ c0 + m ≤ vn x)) (hx : isH t) (es : so x = so t) (v0 : 0 ≤ va t ∧ 0 ≤ va x) (et : vn t = a0) (ex : vn x = c0) (hb : blk h2 t = m) (hb' : blk h2' x = m) (hm : a0 + m ≤ n ∧ c0 + m ≤ n') (hn : n ≤ 1000 ∧ n' ≤ 1000) (hh : ∀ i, ¬ (a0 ≤ i ∧ i < a0 + m) → h2 i = h i) (hh' : ∀ i, ¬ (c0 ≤ i ∧ i < c0 + m) → h2' i = h' i)
    (hp : ∀ j, prt t ≤ j → j < m → RTb b (h2 (a0 + j)) (h2' (c0 + j))) (hF : so t ≠ 3) : ISb (fun k a c => b k a c ∨ (k = so t ∧ a = a0 ∧ c = c0)) h2 n h2' n' ∧ RTb (fun k a c => b k a c ∨ (k = so t ∧ a = a0 ∧ c = c0)) t x := by
  have p0 : 0 < m := by rw [← hb]; exact blk_pos hx
  have pl : ∀ k a c, b k a c → (a < a0 ∨ a0 + m ≤ a) ∧ (c < c0 ∨ c0 + m ≤ c) := fun k a c q => by
    obtain ⟨q1, q2, q3⟩ := sI.2.2 k a c q
    have rr := RTb_mk q1 q2 q3 q
    have zt := isH_mk q1 (v := ((a : Nat) : Int))
    have := hz _ _ zt rr
    rw [(mk_v (k := k) q2).2, (mk_v (k := k) q3).2] at this
    have bp := blk_pos (h := h) zt
    omega
  refine ⟨⟨fun u y z q => ?_, fun k l a c a2 c2 r1 r2 => ?_, fun k a c q => ?_⟩, Or.inr ⟨hx, es, v0, Or.inr ⟨rfl, et, ex⟩⟩⟩
  · obtain ⟨⟨r1, r2⟩, r3⟩ := RTb_h q z
    rcases r3 with r3 | ⟨f1, f2, f3⟩
    · have r4 : RTb b u y := Or.inr ⟨z, RTb_so q, ⟨r1, r2⟩, r3⟩
      obtain ⟨⟨e1, e2, e3⟩, e4, e5⟩ := sI.1 u y z r4
      have zy := (RTb_isH r4).mpr z
      have w := hz u y z r4
      have bp := blk_pos (h := h) z
      have ag : ∀ i, vn u ≤ i → i < vn u + blk h u → h2 i = h i := fun i h1 h3 => hh i (by omega)
      have ag' : ∀ i, vn y ≤ i → i < vn y + blk h u → h2' i = h' i := fun i h1 h3 => hh' i (by omega)
      have g1 : blk h2 u = blk h u := by
        unfold blk at bp ag ⊢
        by_cases e7 : so u = 7
        · rw [if_pos e7, if_pos e7]
        · rw [if_neg e7] at bp ag ⊢
          rw [if_neg e7]
          by_cases e5 : so u = 5
          · rw [if_pos e5] at bp ag ⊢
            rw [if_pos e5, ag _ (Nat.le_refl _) (by omega)]
          · rw [if_neg e5] at bp ag ⊢
            rw [if_neg e5]
            by_cases e3 : so u = 3
            · rw [if_pos e3] at bp ag ⊢
              rw [if_pos e3, ag _ (by omega) (by omega)]
            · rw [if_neg e3, if_neg e3]
      have g2 : blk h2' y = blk h' y := by
        rw [← e1] at bp ag'
        unfold blk at bp ag' ⊢
        by_cases e7 : so y = 7
        · rw [if_pos e7, if_pos e7]
        · rw [if_neg e7] at bp ag' ⊢
          rw [if_neg e7]
          by_cases e5 : so y = 5
          · rw [if_pos e5] at bp ag' ⊢
            rw [if_pos e5, ag' _ (Nat.le_refl _) (by omega)]
          · rw [if_neg e5] at bp ag' ⊢
            rw [if_neg e5]
            by_cases e3 : so y = 3
            · rw [if_pos e3] at bp ag' ⊢
              rw [if_pos e3, ag' _ (by omega) (by omega)]
            · rw [if_neg e3, if_neg e3]
      refine ⟨⟨by rw [g1, g2]; exact e1, by omega, by omega⟩, fun j h1 h3 => ?_, fun e => ?_⟩
      · rw [g1] at h3
        rw [ag _ (by omega) (by omega), ag' _ (by omega) (by omega)]
        exact RTb_mo (fun _ _ _ => Or.inl) (e4 j h1 h3)
      · rw [ag _ (by omega) (by omega), ag' _ (by omega) (by omega)]
        exact e5 e
    · have g1 : blk h2 u = m := by rw [← hb]; unfold blk; rw [f1, f2, et]
      have g2 : blk h2' y = m := by rw [← hb']; unfold blk; rw [RTb_so q, f1, f3, ex, es]
      have g3 : prt u = prt t := prt_so f1
      refine ⟨⟨by rw [g1, g2], by omega, by omega⟩, fun j h1 h3 => ?_, fun e => absurd (f1.symm.trans e) hF⟩
      rw [g1] at h3
      rw [g3] at h1
      rw [f2, f3]
      exact RTb_mo (fun _ _ _ => Or.inl) (hp j h1 h3)
  · rcases r1 with r1 | ⟨-, x1, x2⟩
    · rcases r2 with r2 | ⟨-, y1, y2⟩
      · exact sI.2.1 _ _ _ _ _ _ r1 r2
      · have := pl _ _ _ r1
        omega
    · rcases r2 with r2 | ⟨-, y1, y2⟩
      · have := pl _ _ _ r2
        omega
      · omega
  · rcases q with q | ⟨q1, q2, q3⟩
    · exact sI.2.2 _ _ _ q
    · exact ⟨by rw [q1]; exact hx, by omega, by omega⟩
theorem CPX_sub {z : Nat} (g : HPc h n ow kd Fv P) (hF : FVc Fv) (e5 : so t = 5) (b3 : blk h t = 3) (h1 : ¬ isH (h (vn t + 1))) (zx : isH (h (vn t + 2))) (hs : s0 + (3 + z) ≤ 1000) (hz : 0 < z) (c : CPXc h n ow kd P d s0 (3 + z) t r) : CPXc h n ow kd P d (s0 + 3) z (h (vn t + 2)) (d (s0 + 2)) ∧ d s0 = h (vn t) ∧ d (s0 + 1) = h (vn t + 1) := by
  obtain ⟨src, bs, cp, pt, sp, c1, c2, c3, c4⟩ := c
  have cell : ∀ j, j < 3 → bs (s0 + j) = s0 ∧ xcO h src bs (s0 + j) = h (vn t + j) := fun j hj => by
    have w := cp.2.1 s0 (Nat.le_refl _) (by omega)
    rw [c1, c2, b3] at w
    have w2 := w.2.2.2.2.2.2.2 j hj
    refine ⟨w2, ?_⟩
    unfold xcO
    rw [w2, c2]
    congr 1
    omega
  have d0 : d s0 = h (vn t) := by
    have w := cp.2.2 s0 (Nat.le_refl _) (by omega)
    have e := (cell 0 (by omega)).2
    rw [Nat.add_zero, Nat.add_zero] at e
    rw [e] at w
    refine w.1 (fun zz => ?_)
    have w3 := cp.2.1 s0 (Nat.le_refl _) (by omega)
    rw [c1, c2] at w3
    have bk := (HP_bkc g (Or.inr (Or.inl e5)) w3.2.2.2.2.1).1
    have := (bk.2.1 e5).2
    unfold isH at zz
    omega
  have d1 : d (s0 + 1) = h (vn t + 1) := by
    have w := cp.2.2 (s0 + 1) (by omega) (by omega)
    rw [(cell 1 (by omega)).2] at w
    exact w.1 h1
  have w2 := cp.2.2 (s0 + 2) (by omega) (by omega)
  rw [(cell 2 (by omega)).2] at w2
  obtain ⟨y1, y2, y3, y4, y5, y6, y7⟩ := (w2.2 zx).2 (by omega)
  have zd : isH (d (s0 + 2)) := by unfold isH; rw [y1]; exact zx
  have nd0 : ¬ isH (d s0) := fun zz => by
    have w3 := cp.2.1 s0 (Nat.le_refl _) (by omega)
    rw [c1, c2] at w3
    have bk := (HP_bkc g (Or.inr (Or.inl e5)) w3.2.2.2.2.1).1
    have := (bk.2.1 e5).2
    rw [d0] at zz
    unfold isH at zz
    omega
  have nd1 : ¬ isH (d (s0 + 1)) := by rw [d1]; exact h1
  have st : ∀ c, s0 + 3 ≤ c → c < s0 + (3 + z) → s0 + 3 ≤ bs c := fun c q1 q2 => by
    have w := cp.2.1 c (by omega) q2
    apply Classical.byContradiction
    intro q
    have e : bs c = s0 := by
      have v := (cell (bs c - s0) (by omega)).1
      rw [show s0 + (bs c - s0) = bs c by omega, w.2.2.1] at v
      exact v
    rw [e, c2, b3] at w
    omega
  have b0 : bs (s0 + 3) = s0 + 3 := by
    have := st (s0 + 3) (Nat.le_refl _) (by omega)
    have w := (cp.2.1 (s0 + 3) (by omega) (by omega)).2.1
    omega
  have ep : y2 = s0 + 3 := by
    obtain ⟨c, q1, q2, q3, q4⟩ := pt.2.2 (s0 + 3) (by omega) (by omega) b0
    have ev : vn (d (s0 + 2)) = y2 := by unfold vn; rw [y3]; omega
    have yb : s0 + 3 ≤ y2 := by
      apply Classical.byContradiction
      intro q
      have v := (cell (y2 - s0) (by omega)).1
      rw [show s0 + (y2 - s0) = y2 by omega, y6] at v
      have := pt.1 (s0 + 2) (by omega) (by omega) zd
      omega
    by_cases e : c = s0 + 2
    · rw [e, ev] at q4
      exact q4
    · have lt2 : s0 + 2 < c := by
        apply Classical.byContradiction
        intro q
        have : c = s0 ∨ c = s0 + 1 := by omega
        rcases this with e | e
        · rw [e] at q3; exact nd0 q3
        · rw [e] at q3; exact nd1 q3
      have := pt.2.1 (s0 + 2) c (by omega) lt2 q2 zd q3
      omega
  subst ep
  refine ⟨⟨src, bs, ⟨by omega, fun c q1 q2 => ?_, fun c q1 q2 => ?_⟩, ⟨fun c q1 q2 q3 => ?_, fun e1 e2 q1 q2 q3 q4 q5 => pt.2.1 e1 e2 (by omega) q2 (by omega) q4 q5, fun a q1 q2 q3 => ?_⟩, hz, b0, y7, y1, y3⟩, d0, d1⟩
  · have w := cp.2.1 c (by omega) (by omega)
    exact ⟨st c q1 (by omega), w.2.1, w.2.2.1, w.2.2.2.1, w.2.2.2.2.1, w.2.2.2.2.2.1, by have := w.2.2.2.2.2.2.1; omega, w.2.2.2.2.2.2.2⟩
  · have w := cp.2.2 c (by omega) (by omega)
    refine ⟨w.1, fun zz => ⟨(w.2 zz).1 ∘ (fun q => by omega), fun q => ?_⟩⟩
    obtain ⟨v1, v2, v3, v4, v5, v6, v7⟩ := (w.2 zz).2 (by omega)
    have zc : isH (d c) := by unfold isH; rw [v1]; exact zz
    have l1 := pt.1 c (by omega) (by omega) zc
    have ev : vn (d c) = v2 := by unfold vn; rw [v3]; omega
    exact ⟨v1, v2, v3, by omega, by omega, v6, v7⟩
  · have := pt.1 c (by omega) (by omega) q3
    omega
  · obtain ⟨c, v1, v2, v3, v4⟩ := pt.2.2 a (by omega) (by omega) q3
    refine ⟨c, ?_, by omega, v3, v4⟩
    apply Classical.byContradiction
    intro q
    have : c = s0 ∨ c = s0 + 1 ∨ c = s0 + 2 := by omega
    rcases this with e | e | e
    · rw [e] at v3; exact nd0 v3
    · rw [e] at v3; exact nd1 v3
    · have ev : vn (d (s0 + 2)) = s0 + 3 := by unfold vn; rw [y3]; omega
      rw [e, ev] at v4
      omega
end
end
section
set_option maxRecDepth 100000
def enS (m : MS) (q : Nat) (t : Int64) (hm e : Nat) : MS := wi (wa (upI (wl (wi m (pq q 9) 3) (pq q 16) t) (pq q 17) (fr (some hm))) 54 e ((q : Nat) : Int)) 955 ((e + 1 : Nat) : Int)
def enR (w : MS) (q : Nat) (wr o : Int) (t : Int64) (e : Nat) : MS := wi (wj (wa (wa (wa (wa w 109 q 3) 145 e ((q : Nat) : Int)) 146 e wr) 147 e o) 148 e t) 150 ((e + 1 : Nat) : Int)
def coS (m : MS) (q Y : Nat) (t : Int64) : MS := wi (wj m (pq q 6) Y t) (pq q 7) ((Y + 1 : Nat) : Int)
def coR (w : MS) (q Y : Nat) (t : Int64) : MS := wa (wj w 107 (30 * q + Y) t) 108 q ((Y + 1 : Nat) : Int)
section
variable {b : Int → Nat → Nat → Prop} {N q r hm e Y U B W f : Nat} {m w : MS} {t x : Int64} {wr o : Int}
theorem comes_e (hY : F m (pq q 7) = ((Y : Nat) : Int)) (h : Y < 30) : hm_Pr_comes N m q t = some (coS m q Y t, ()) := by
  unfold hm_Pr_comes hb_Pr_comes_0 hb_Pr_comes_29
  rw [I_F' hY, show (30 : Int32) = I 30 from rfl, decI (by decide) (by decide) (by omega) (by omega), decide_eq_false (by omega), br_fq, show inb (I ((Y : Nat) : Int)) 30 = true from (I_inb (by omega) (by omega)).mpr ⟨by omega, by omega⟩, ck_t, lt_e, tnI (n := Y) rfl (by omega), wj_e, lt_e, show (wj m (pq q 6) Y t).1 (pq q 7) = I ((Y : Nat) : Int) from I_F' hY, show I ((Y : Nat) : Int) + 1 = I ((Y + 1 : Nat) : Int) from addN, wi_e]
  rfl
theorem box_e (hq : q < 24) (hY : A w 108 q = ((Y : Nat) : Int)) (h : Y < 30) : fb_M_message_406 N () w (I q) t = some (coR w q Y t, ()) := by
  unfold fb_M_message_406
  have l1 : inb (I ((q : Nat) : Int)) (ln 108) = true := inb_at (k := 108) (n := 24) rfl (by omega) (by omega) (by decide)
  have ex : I ((q : Nat) : Int) * 30 + I ((Y : Nat) : Int) = I ((30 * q + Y : Nat) : Int) := by
    rw [show (30 : Int32) = I 30 from rfl, I_mul, I_add]
    congr 1
    omega
  have l2 : inb (I ((30 * q + Y : Nat) : Int)) (ln 107) = true := inb_at (k := 107) (n := 720) rfl (by omega) (by omega) (by decide)
  rw [l1, ck_t, tnI (n := q) rfl (by omega), I_A' hY, ex, l2, ck_t, lt_e, tnI (n := 30 * q + Y) rfl (by omega), wj_e, ck_t, ck_t, lt_e, show (wj w 107 (30 * q + Y) t).2.2.1 108 q = I ((Y : Nat) : Int) from I_A' hY, show I ((Y : Nat) : Int) + 1 = I ((Y + 1 : Nat) : Int) from addN, wa_e]
  rfl
theorem PLs_comes (p : PLs b q m w U B W Y) (r : RTb b t x) (hY : Y < 30) : PLs b q (coS m q Y t) (coR w q Y x) U B W (Y + 1) := by
  obtain ⟨⟨⟨p1, p2, p3⟩, p4, p5⟩, ⟨p6, p7, p8⟩, ⟨p9, p10, p11⟩, p12, p13, p14⟩ := p
  have fm : ∀ k, k < 100 → k ≠ 7 → F (coS m q Y t) (pq q k) = F m (pq q k) := fun k hk h7 => by
    unfold coS
    rw [F_wi (by omega) (by omega), if_neg (fun z => h7 (pq_e hk (by omega) z).2), F_wj]
  have jm : ∀ k, k < 100 → k ≠ 6 → (coS m q Y t).2.2.2 (pq q k) = m.2.2.2 (pq q k) := fun k hk h6 => if_neg (fun z => h6 (pq_e hk (by omega) z).2)
  have aw : ∀ k i, k ≠ 108 → A (coR w q Y x) k i = A w k i := fun k i hk => by
    unfold coR
    rw [A_wa (by omega) (by omega), if_neg hk, A_wj]
  have jw : ∀ k, k ≠ 107 → (coR w q Y x).2.2.2 k = w.2.2.2 k := fun k hk => if_neg hk
  refine ⟨⟨⟨by rw [fm 4 (by omega) (by omega)]; exact p1, by rw [aw 89 q (by omega)]; exact p2, p3⟩, ?_, ?_⟩, ⟨by rw [fm 24 (by omega) (by omega)]; exact p6, by rw [aw 94 q (by omega)]; exact p7, fun i hi => ?_⟩, ⟨by rw [fm 26 (by omega) (by omega)]; exact p9, by rw [aw 92 q (by omega)]; exact p10, fun i hi => ?_⟩, ?_, ?_, fun i hi => ?_⟩
  · have e1 : hp (coR w q Y x) q = hp w q := by unfold hp; rw [jw 88 (by omega)]
    rw [jm 2 (by omega) (by omega), e1]
    exact p4
  · show (coS m q Y t).1 (pq q 5) = (coR w q Y x).2.2.1 90 q
    rw [show (coS m q Y t).1 (pq q 5) = m.1 (pq q 5) from if_neg (pq_inj (by omega)), show (coR w q Y x).2.2.1 90 = w.2.2.1 90 from rfl]
    exact p5
  · rw [jm 33 (by omega) (by omega), jw 93 (by omega)]
    exact p8 i hi
  · rw [jm 35 (by omega) (by omega), jw 91 (by omega)]
    exact p11 i hi
  · unfold coS
    rw [F_wi (by omega) (by omega), if_pos rfl]
  · unfold coR
    rw [A_wa (by omega) (by omega), if_pos rfl, if_pos rfl]
  · have e1 : (coS m q Y t).2.2.2 (pq q 6) i = if i = Y then t else m.2.2.2 (pq q 6) i := by show (wj m (pq q 6) Y t).2.2.2 (pq q 6) i = _; exact wj_row
    have e2 : (coR w q Y x).2.2.2 107 (30 * q + i) = if 30 * q + i = 30 * q + Y then x else w.2.2.2 107 (30 * q + i) := by show (wj w 107 (30 * q + Y) x).2.2.2 107 (30 * q + i) = _; exact wj_row
    rw [e1, e2]
    by_cases ei : i = Y
    · rw [if_pos ei, if_pos (by omega)]
      exact r
    · rw [if_neg ei, if_neg (by omega)]
      exact p14 i (by omega)
theorem endsW_e (h9 : F m (pq q 9) ≠ 3) (he : F m 955 = ((e : Nat) : Int)) (hl : e < 24) : hm_Wl_endsWith N m q t hm = some (enS m q t hm e, ()) := by
  unfold hm_Wl_endsWith hb_Wl_endsWith_0 hb_Wl_endsWith_17
  have e9 : (upI (upL (upI m (pq q 9) 3) (pq q 16) t) (pq q 17) (fr (some hm))).1 955 = I ((e : Nat) : Int) := by
    show (if 955 = pq q 17 then fr (some hm) else (if 955 = pq q 9 then 3 else m.1 955)) = _
    rw [if_neg (by unfold pq; omega), if_neg (by unfold pq; omega)]
    exact I_F' he
  have n9 : ¬ m.1 (pq q 9) = 3 := fun z => h9 (by show (m.1 (pq q 9)).toInt = 3; rw [z]; rfl)
  rw [decide_eq_false n9, br_fq, I_F' he, show (24 : Int32) = I 24 from rfl, decL (by omega) (by omega) (by decide) (by decide), decide_eq_true (by omega), br_tq, lt_e, lt_e, lt_e, e9, show inb (I ((e : Nat) : Int)) 24 = true from (I_inb (by omega) (by omega)).mpr ⟨by omega, by omega⟩, ck_t, lt_e, tnI (n := e) rfl (by omega), lt_e]
  generalize hz : upI (upL (upI m (pq q 9) 3) (pq q 16) t) (pq q 17) (fr (some hm)) = z at e9
  have e8 : (upA z 54 (upd (z.2.2.1 54) e (Int32.ofNat q))).1 955 = I ((e : Nat) : Int) := e9
  rw [e8, show I ((e : Nat) : Int) + 1 = I ((e + 1 : Nat) : Int) from addN, wi_e]
  unfold enS
  rw [← hz]
  rfl
theorem willE_e (hq : q < 25) (h9 : A w 109 q ≠ 3) (he : F w 150 = ((e : Nat) : Int)) (hl : e < 4000) (hq9 : q < 24) : fm_M_willEnd N w (I q) (I wr) (I o) t = some (enR w q wr o t e, ()) := by
  unfold fm_M_willEnd fb_M_willEnd_0 fb_M_willEnd_68
  have l1 : inb (I ((q : Nat) : Int)) (ln 109) = true := inb_at (k := 109) (n := 24) rfl (by omega) (by omega) (by decide)
  have l5 : inb (I ((e : Nat) : Int)) (ln 145) = true := inb_at (k := 145) (n := 4000) rfl (by omega) (by omega) (by decide)
  have l6 : inb (I ((e : Nat) : Int)) (ln 146) = true := inb_at (k := 146) (n := 4000) rfl (by omega) (by omega) (by decide)
  have l7 : inb (I ((e : Nat) : Int)) (ln 147) = true := inb_at (k := 147) (n := 4000) rfl (by omega) (by omega) (by decide)
  have l8 : inb (I ((e : Nat) : Int)) (ln 148) = true := inb_at (k := 148) (n := 4000) rfl (by omega) (by omega) (by decide)
  have n9 : ¬ w.2.2.1 109 q = 3 := fun z => h9 (by show (w.2.2.1 109 q).toInt = 3; rw [z]; rfl)
  have f0 := I_F' he
  rw [l1, ck_t, tnI (n := q) rfl (by omega), decide_eq_false n9, br_fq, ck_t, lt_e, show (3 : Int32) = I 3 from rfl, wa_e]
  rw [show (wa w 109 q 3).1 150 = I ((e : Nat) : Int) from f0, l5, ck_t, lt_e, tnI (n := e) rfl (by omega), wa_e]
  rw [show (wa (wa w 109 q 3) 145 e ((q : Nat) : Int)).1 150 = I ((e : Nat) : Int) from f0, l6, ck_t, lt_e, tnI (n := e) rfl (by omega), wa_e]
  rw [show (wa (wa (wa w 109 q 3) 145 e ((q : Nat) : Int)) 146 e wr).1 150 = I ((e : Nat) : Int) from f0, l7, ck_t, lt_e, tnI (n := e) rfl (by omega), wa_e]
  rw [show (wa (wa (wa (wa w 109 q 3) 145 e ((q : Nat) : Int)) 146 e wr) 147 e o).1 150 = I ((e : Nat) : Int) from f0, l8, ck_t, lt_e, tnI (n := e) rfl (by omega), wj_e, lt_e]
  rw [show (wj (wa (wa (wa (wa w 109 q 3) 145 e ((q : Nat) : Int)) 146 e wr) 147 e o) 148 e t).1 150 = I ((e : Nat) : Int) from f0, show I ((e : Nat) : Int) + 1 = I ((e + 1 : Nat) : Int) from addN, wi_e]
  rfl
end
end
section
set_option maxRecDepth 100000
def XRr (q : Nat) (w w2 : MS) : Prop := FR [136, 138] [139] [89, 90, 135] [88, 91, 93, 107, 134, 137] w w2 ∧ (∀ r, r ≠ q → A w2 89 r = A w 89 r ∧ w2.2.2.1 90 r = w.2.2.1 90 r) ∧ (∀ i, ¬ (500 * q ≤ i ∧ i < 500 * q + 500) → w2.2.2.2 88 i = w.2.2.2 88 i) ∧ (∀ i, ¬ (46000 * q ≤ i ∧ i < 46000 * q + 46000) → w2.2.2.2 91 i = w.2.2.2 91 i) ∧ (∀ i, ¬ (2500 * q ≤ i ∧ i < 2500 * q + 2500) → w2.2.2.2 93 i = w.2.2.2 93 i) ∧ ∀ i, ¬ (30 * q ≤ i ∧ i < 30 * q + 30) → w2.2.2.2 107 i = w.2.2.2 107 i
def XRm (q : Nat) (m m2 : MS) : Prop := FR [pq q 4, pq q 5] [] [] [pq q 2, pq q 3, pq q 33, pq q 35, pq q 6] m m2
section
variable {b b2 : Int → Nat → Nat → Prop} {N q n B W Y U : Nat} {ow kd ow' kd' : Nat → Nat} {Fv Fv' : Int64 → Int64 → Prop} {P P' : Int64 → Prop} {m w m2 w2 : MS} {k : Nat}
theorem PLs_xfr (p : PLs b q m w n B W Y) (x : XFR b b2 m w m2 w2 q B W Y W B Y) (f : XRm q m m2) (g : FR [136, 138] [139] [89, 90, 135] [88, 91, 93, 107, 134, 137] w w2) (h9 : m2.1 (pq q 5) = w2.2.2.1 90 q) : ∃ U, PLs b2 q m2 w2 U B W Y ∧ F m2 (pq q 4) = ((U : Nat) : Int) := by
  obtain ⟨⟨⟨p1, p2, p3⟩, p4, p5⟩, ⟨p6, p7, p8⟩, ⟨p9, p10, p11⟩, p12, p13, p14⟩ := p
  obtain ⟨⟨U, u1, u2, u3, u4⟩, x2, x3, x4⟩ := x
  have fm : ∀ k, k < 100 → k ≠ 4 → k ≠ 5 → F m2 (pq q k) = F m (pq q k) := fun k hk h4 h5 => FR.F f (by
    simp only [List.mem_cons, List.not_mem_nil, or_false]
    intro z
    rcases z with z | z
    · exact h4 (pq_e hk (by omega) z).2
    · exact h5 (pq_e hk (by omega) z).2)
  refine ⟨U, ⟨⟨⟨u1, u2, u3⟩, u4, h9⟩, ⟨by rw [fm 24 (by omega) (by omega) (by omega)]; exact p6, by rw [FR.A g (by decide)]; exact p7, fun i hi => ?_⟩, ⟨by rw [fm 26 (by omega) (by omega) (by omega)]; exact p9, by rw [FR.A g (by decide)]; exact p10, fun i hi => ?_⟩, by rw [fm 7 (by omega) (by omega) (by omega)]; exact p12, by rw [FR.A g (by decide)]; exact p13, fun i hi => ?_⟩, u1⟩
  · exact x2 _ _ _ _ (Or.inl ⟨rfl, hi⟩) (Or.inr (Or.inl ⟨rfl, by omega, by omega⟩)) (p8 i hi)
  · exact x2 _ _ _ _ (Or.inr (Or.inl ⟨rfl, hi⟩)) (Or.inl ⟨rfl, by omega, by omega⟩) (p11 i hi)
  · exact x2 _ _ _ _ (Or.inr (Or.inr ⟨rfl, hi⟩)) (Or.inr (Or.inr ⟨rfl, by omega, by omega⟩)) (p14 i hi)
theorem want_pl (p : PTQ m q n ow kd Fv P B W Y) (cx : CTX Fv P m) (x : CX w q (hp w q) n ow' kd' Fv' P' W B Y) (pl : PLs b q m w n B W Y) (hz : RTZ b m w q B W Y W B Y) (hk : k ≤ 2000) (hN : 2200000 ≤ N) : PP (fun m2 r w2 r2 => ∃ b2 U, PLs b2 q m2 w2 U B W Y ∧ ((r = 0 ∧ r2 = 0) ∨ (r = 1 ∧ r2 = 1 ∧ U + k ≤ 500)) ∧ XRm q m m2 ∧ XRr q w w2 ∧ (∃ ow2 kd2, PTQ m2 q U ow2 kd2 Fv P B W Y) ∧ (∃ ow2 kd2, CX w2 q (hp w2 q) U ow2 kd2 Fv' P' W B Y) ∧ (F w 140 = ((q : Nat) : Int) → ∀ K i, CRt B W Y q K i → RTb b (m.2.2.2 K i) (w.2.1 139) → RTb b2 (m2.2.2.2 K i) (w2.2.1 139)) ∧ (F w 140 ≠ ((q : Nat) : Int) → w2.2.1 139 = w.2.1 139)) (hm_Pr_want N m q (I ((k : Nat) : Int))) (fm_M_wants N w (I (q : Nat)) (I ((k : Nat) : Int))) := by
  have p2 := p.1.2.1
  have hu : A w 89 q = ((n : Nat) : Int) := pl.1.1.2.1
  have bW : W ≤ 46000 := x.2.2.2.2.1.2
  have bB : B ≤ 2500 := x.2.2.2.2.2.1.2
  have bY : Y ≤ 30 := x.2.2.2.2.2.2.1.2
  have w0 := pp_pr (pp_pl (want_pp (N := N) (k := ((k : Nat) : Int)) p cx.1 cx.2.1 x hu pl.1.2.1 hz pl.1.2.2 (by omega) ⟨by omega, by omega⟩ (by omega)) (pk_ok (want_ok (N := N) (x := ((k : Nat) : Int)) p cx ⟨by omega, by omega⟩ (by omega)))) (pk_ok (wants_ok (N := N) (k := k) x hu (by omega) (by omega)))
  refine pp_mo w0 (fun m2 r w2 r2 q9 => ?_)
  obtain ⟨⟨⟨⟨b2, xf⟩, y1, y2, ⟨y3, y4⟩, y5⟩, c1, U2, ow2, kd2, c2, c3, c4, -⟩, n2, ow3, kd3, fd, R, ⟨r1, r2', r3, r4, r5, r6, r7, r8, r9, r10, r11, r12⟩, r13⟩ := q9
  obtain ⟨U, pl2, u1⟩ := PLs_xfr pl xf c4 r6 y1
  have e1 : U2 = U := by
    have := c2.1.1
    omega
  subst e1
  have e2 : n2 = U2 := by
    have := r5 q
    rw [if_pos rfl, pl2.1.1.2.1] at this
    omega
  subst e2
  refine ⟨b2, n2, pl2, ?_, c4, ⟨r6, fun s hs => ⟨?_, y2 s hs⟩, r7, fun i hi => (r8 i).2 (by omega), fun i hi => (r9 i).2 (by omega), fun i hi => (r10 i).2 (by omega)⟩, ⟨ow2, kd2, c2⟩, ⟨ow3, kd3, r3⟩, xf.2.2.1, xf.2.2.2⟩
  · rcases y4 with e | e
    · exact Or.inl ⟨e, by rw [← y3]; exact e⟩
    · refine Or.inr ⟨e, by rw [← y3]; exact e, ?_⟩
      have := c3 e
      omega
  · rw [r5 s, if_neg hs]
end
end
section
set_option maxRecDepth 100000
section
variable {bS bD : Int → Nat → Nat → Prop} {h : Nat → Int64} {N q o v n n' ns ns' s0 s0' z f f' : Nat} {ow kd ow' kd' owd kdd : Nat → Nat} {Fv Fv' : Int64 → Int64 → Prop} {P P' : Int64 → Prop} {m w : MS} {t x : Int64}
theorem cp_res : ∀ M : Nat, (∀ (u : MS) (v1 v4 : Int32) (v5 : Int64) (v7 : Int32), PK (fun _ r => r = v5) ((gg_M_copy N M).1 u v1 v4 v5 v7)) ∧ ∀ (u : MS) (v1 v4 : Int32) (v5 : Int64) (v7 : Int32) (v8 : Int64) (v11 v12 v13 : Int32), PK (fun _ r => r = v5) ((gg_M_copy N M).2 u v1 v4 v5 v7 v8 v11 v12 v13) := by
  intro M
  induction M with
  | zero => exact ⟨fun _ _ _ _ _ => pk_none, fun _ _ _ _ _ _ _ _ _ => pk_none⟩
  | succ M ih =>
    obtain ⟨ih1, ih2⟩ := ih
    refine ⟨fun u v1 v4 v5 v7 => ?_, fun u v1 v4 v5 v7 v8 v11 v12 v13 => ?_⟩
    · show PK _ (fb_M_copy_42 N (gg_M_copy N M) u v1 v4 v5 v7)
      unfold fb_M_copy_42 fb_M_copy_128
      exact pk_br (fun _ => pk_some rfl) (fun _ => pk_ck (fun _ => pk_ltq (pk_ck (fun _ => pk_ltq (pk_bnd (fun _ _ _ => pk_ck (fun _ => pk_ltq (pk_ck (fun _ => pk_ck (fun _ => pk_ltq (pk_br (fun _ => ih2 _ _ _ _ _ _ _ _ _) (fun _ => pk_ck (fun _ => pk_ltq (ih2 _ _ _ _ _ _ _ _ _))))))))))))))
    · show PK _ (fb_M_copy_131 N (gg_M_copy N M) u v1 v4 v5 v7 v8 v11 v12 v13)
      unfold fb_M_copy_131 fb_M_copy_214
      exact pk_br (fun _ => ih1 _ _ _ _ _) (fun _ => pk_bnd (fun _ _ _ => pk_bnd (fun _ _ _ => pk_ck (fun _ => pk_ltq (pk_bnd (fun _ _ _ => pk_br (fun _ => ih2 _ _ _ _ _ _ _ _ _) (fun _ => pk_bnd (fun _ _ _ => pk_br (fun _ => ih2 _ _ _ _ _ _ _ _ _) (fun _ => pk_ck (fun _ => pk_ltq (pk_ck (fun _ => pk_ltq (ih2 _ _ _ _ _ _ _ _ _)))))))))))))
theorem copy_res (hq : q < 25) (zx : isH x) (hu : A w 89 q = ((s0' : Nat) : Int)) {y : Int32} : PK (fun _ r => r = rp x ((s0' : Nat) : Int)) (fm_M_copy N w y x (I q)) := by
  unfold fm_M_copy fb_M_copy_0
  rw [inHeap_e.1 zx, bnd_so]
  refine pk_br (fun c => absurd (of_decide_eq_true c) (by decide)) (fun _ => pk_ck (fun _ => pk_ltq (pk_ck (fun _ => pk_ltq (pk_ck (fun _ => pk_ltq ?_))))))
  rw [tnI (n := q) rfl (by omega), I_A' hu]
  exact (cp_res N).1 _ _ _ _ _
theorem copyIn_0 (zt : ¬ isH t) (hu : F m (pq q 4) = ((s0 : Nat) : Int)) (hl : s0 ≤ 512) : PK (fun m2 r => m2 = m ∧ r = t) (hm_Pr_copyIn N m q v t) := by
  unfold hm_Pr_copyIn hb_Pr_copyIn_0
  cases N with
  | zero => exact pk_none
  | succ M =>
    show PK _ (hb_Pr_copyIn_15 (M + 1) (hg_Pr_copyIn (M + 1) M) m q v t t (m.1 (pq q 4)) (m.1 (pq q 4) - 1))
    unfold hb_Pr_copyIn_15 hb_Pr_copyIn_42 hb_Pr_copyIn_140
    rw [I_F' hu, lit1q, I_sub]
    refine p_le ⟨by omega, by omega⟩ ⟨by omega, by omega⟩ (fun c => absurd c (by omega)) (fun _ => p_le ⟨by omega, by omega⟩ ⟨by omega, by omega⟩ (fun c => absurd c (by omega)) (fun _ => ?_))
    rw [cellsAt_n zt, bnd_so]
    refine pk_br (fun _ => ?_) (fun c => absurd rfl (of_decide_eq_false c))
    cases M with
    | zero => exact pk_none
    | succ M =>
      show PK _ (hb_Pr_copyIn_15 (M + 1 + 1) (hg_Pr_copyIn (M + 1 + 1) M) m q v t t (I ((s0 : Nat) : Int)) (I (((s0 : Nat) : Int) - 1) + I 1))
      unfold hb_Pr_copyIn_15
      rw [I_F' hu, I_add]
      refine p_le ⟨by omega, by omega⟩ ⟨by omega, by omega⟩ (fun _ => pk_some ⟨rfl, rfl⟩) (fun c => absurd (show ((s0 : Nat) : Int) ≤ ((s0 : Nat) : Int) - 1 + 1 by omega) c)
theorem hp_lt {w w2 : MS} {s0' : Nat} (hr : ∀ i, ¬ (500 * q + s0' ≤ i ∧ i < 500 * q + 500) → w2.2.2.2 88 i = w.2.2.2 88 i) : ∀ i, i < s0' → hp w2 q i = hp w q i := fun i hi => hr (500 * q + i) (by omega)
theorem copy_pp (gS : HPc h n ow kd Fv P) (hF : FVc Fv) (hh : m.2.2.2 v = h) (hn : n ≤ 512) (hv : v = pq q 2 → n ≤ s0) (gS' : HP (hp w o) n' ow' kd' Fv' P') (hn' : n' ≤ 500) (ho : o < 25) (hq : q < 24) (hoq : o = q → n' ≤ s0') (sS : ISw bS h ns (hp w o) ns') (rt : RTb bS t x) (z1 : SZc h n ow kd Fv P f t z) (z2 : SZ (hp w o) n' ow' kd' Fv' P' f' x z) (hu : F m (pq q 4) = ((s0 : Nat) : Int)) (hu' : A w 89 q = ((s0' : Nat) : Int)) (sD : ISb bD (m.2.2.2 (pq q 2)) s0 (hp w q) s0') (hl : s0 + z ≤ 512 ∧ s0' + z ≤ 500) (gd : HPc (m.2.2.2 (pq q 2)) s0 owd kdd Fv P) (hN : 3000 ≤ N) :
    PP (fun m2 r w2 r2 => (∃ b2, (∀ k a c, bD k a c → b2 k a c) ∧ (∀ k a e, b2 k a e → bD k a e ∨ (s0 ≤ a ∧ s0' ≤ e)) ∧ ISb b2 (m2.2.2.2 (pq q 2)) (s0 + z) (hp w2 q) (s0' + z) ∧ RTb b2 r r2) ∧ (FR [pq q 4] [] [] [pq q 2] m m2 ∧ F m2 (pq q 4) = ((s0 + z : Nat) : Int) ∧ ∀ k, k < s0 → m2.2.2.2 (pq q 2) k = m.2.2.2 (pq q 2) k) ∧ FR [] [] [89, 142] [88, 141] w w2 ∧ (∀ r, A w2 89 r = if r = q then ((s0' + z : Nat) : Int) else A w 89 r) ∧ ∀ i, ¬ (500 * q + s0' ≤ i ∧ i < 500 * q + 500) → w2.2.2.2 88 i = w.2.2.2 88 i) (hm_Pr_copyIn N m q v t) (fm_M_copy N w (I o) x (I q)) := by
  intro m2 r w2 r2 e1 e2
  obtain ⟨a1, a2, a3, -⟩ := pk_ok (copyIn_hd (N := N) gS hF hn (by omega) (fun c _ => by rw [hh]) hv z1 hu gd (by omega)) m2 r e1
  by_cases zt : isH t
  · have zx := (RTb_isH rt).mpr zt
    have c := pk_ok (copyIn_x (N := N) gS hF hn (by omega) (fun c _ => by rw [hh]) hv z1 hu (by omega) zt) m2 r e1
    obtain ⟨b1, b2, b3, cc, st, src, oo, b4, b5, b6, b7⟩ := pk_ok (copy_x (N := N) ho (by omega) hn' (by omega) hoq gS' z2 hu' (by omega) zx) w2 r2 e2
    have rr := copy_res (N := N) (by omega) zx hu' w2 r2 e2
    have er : so r2 = so x ∧ vn r2 = s0' ∧ 0 ≤ va r2 := by
      have v9 : va r2 = ((s0' : Nat) : Int) := by rw [rr, va_rp (by omega) (by omega)]
      exact ⟨by rw [rr, so_rp (by omega) (by omega)], by unfold vn; omega, by omega⟩
    exact ⟨copy_iso sS gS hF sD zt rt (by omega) c a3 b4 b5 b6 er (hp_lt b3), ⟨a1, a2, a3⟩, b1, b2, b3⟩
  · obtain ⟨rfl, rfl⟩ := copyIn_0 (N := N) zt hu (by omega) m2 r e1
    have ex := RTb_n rt zt
    have zx : ¬ isH x := by rw [ex]; exact zt
    have e0 : z = 0 := SZ_nhc z1 zt
    subst e0
    have eq : fm_M_copy N w (I o) x (I q) = some (w, x) := by
      unfold fm_M_copy fb_M_copy_0
      rw [inHeap_e.2 zx, bnd_so]
      rfl
    rw [eq] at e2
    injection e2 with e2
    injection e2 with e3 e4
    subst e3
    subst e4
    refine ⟨⟨bD, fun _ _ _ q => q, fun _ _ _ q => Or.inl q, sD, ?_⟩, ⟨a1, a2, a3⟩, FR.rf, fun r9 => ?_, fun _ _ => rfl⟩
    · rw [ex]
      exact RTb_lit zt (RTb_nil rt)
    · by_cases e : r9 = q
      · rw [if_pos e, e]; exact hu'
      · rw [if_neg e]
end
end
section
set_option maxRecDepth 100000
section
variable {b b2 : Int → Nat → Nat → Prop} {h' : Nat → Int64} {n N q B W Y oM bM xM : Nat} {ow kd ow' kd' : Nat → Nat} {Fv Fv' : Int64 → Int64 → Prop} {P P' : Int64 → Prop} {m w m2 w2 : MS} {k k' : Int} {c c' : Nat}
theorem want_bb (p : PTQ m q n ow kd Fv P B W Y) (hF : FVc Fv) (hP : ∀ t, P t → PT m t) (x : CX w q h' n ow' kd' Fv' P' oM bM xM) (hu : A w 89 q = ((n : Nat) : Int)) (s : ISb b (m.2.2.2 (pq q 2)) n h' n) (z : RTZ b m w q B W Y oM bM xM) (h90 : m.1 (pq q 5) = w.2.2.1 90 q) (k0 : 500 < k) (k1 : 500 < k') (hk : k ≤ 100000) (hk' : k' ≤ 100000) (hN : 60000 + B + W + Y ≤ N) : PP (fun m2 r w2 r2 => (∃ b2, XFR b b2 m w m2 w2 q B W Y oM bM xM) ∧ m2.1 (pq q 5) = w2.2.2.1 90 q ∧ (∀ p, p ≠ q → w2.2.2.1 90 p = w.2.2.1 90 p) ∧ r = 0 ∧ r2 = 0) (hm_Pr_want N m q (I k)) (fm_M_wants N w (I (q : Nat)) (I k')) := by
  have x4 := x.2.2.2.1
  have p1 := p.1.1
  have p2 := p.1.2.1
  unfold hm_Pr_want hb_Pr_want_0 fm_M_wants fb_M_wants_0
  refine r_ck (fun _ => ?_)
  rw [tnI (n := q) rfl (by omega), I_F' p1, I_A' hu, lit500, show I ((n : Nat) : Int) + I k = I (((n : Nat) : Int) + k) from I_add, show I ((n : Nat) : Int) + I k' = I (((n : Nat) : Int) + k') from I_add, decI (x := ((n : Nat) : Int) + k) (by omega) (by omega) (by decide) (by decide), decI (x := ((n : Nat) : Int) + k') (by omega) (by omega) (by decide) (by decide), decide_eq_false (p := ((n : Nat) : Int) + k ≤ 500) (by omega), br_fq, decide_eq_false (p := ((n : Nat) : Int) + k' ≤ 500) (by omega), br_fq]
  refine pp_bb (pp_mo (clear_pp p hF hP x s z hN) (fun m2 r w2 r2 q9 => ?_))
  obtain ⟨⟨b2, xf⟩, y1, y2⟩ := q9
  obtain ⟨U2, f1, f2, f3, -⟩ := xf.1
  unfold hb_Pr_want_16 hb_Pr_want_33 fb_M_wants_19 fb_M_wants_38
  refine r_ck (fun _ => ?_)
  rw [tnI (n := q) rfl (by omega), I_F' f1, I_A' f2, lit500, show I ((U2 : Nat) : Int) + I k = I (((U2 : Nat) : Int) + k) from I_add, show I ((U2 : Nat) : Int) + I k' = I (((U2 : Nat) : Int) + k') from I_add, decL (y := ((U2 : Nat) : Int) + k) (by decide) (by decide) (by omega) (by omega), decL (y := ((U2 : Nat) : Int) + k') (by decide) (by decide) (by omega) (by omega), decide_eq_true (p := (500 : Int) < ((U2 : Nat) : Int) + k) (by omega), br_tq, decide_eq_true (p := (500 : Int) < ((U2 : Nat) : Int) + k') (by omega), br_tq]
  refine l_ck (fun _ => r_ck (fun _ => pp_end ⟨⟨b2, xf⟩, ?_, fun p hp => ?_, rfl, rfl⟩))
  · rw [y1, y2, h90]
    exact (if_pos rfl).symm
  · rw [y2]
    exact if_neg hp
theorem want_pd (p : PTQ m q n ow kd Fv P B W Y) (cx : CTX Fv P m) (x : CX w q (hp w q) n ow' kd' Fv' P' W B Y) (pl : PLs b q m w n B W Y) (hz : RTZ b m w q B W Y W B Y) (hc : c ≤ 2000 ∧ c' ≤ 2000) (he : c = c' ∨ (500 < c ∧ 500 < c')) (hN : 2200000 ≤ N) : PP (fun m2 r w2 r2 => ∃ b2 U, PLs b2 q m2 w2 U B W Y ∧ ((r = 0 ∧ r2 = 0) ∨ (r = 1 ∧ r2 = 1 ∧ U + c ≤ 500)) ∧ XRm q m m2 ∧ XRr q w w2 ∧ (∃ ow2 kd2, PTQ m2 q U ow2 kd2 Fv P B W Y) ∧ (∃ ow2 kd2, CX w2 q (hp w2 q) U ow2 kd2 Fv' P' W B Y) ∧ (F w 140 = ((q : Nat) : Int) → ∀ K i, CRt B W Y q K i → RTb b (m.2.2.2 K i) (w.2.1 139) → RTb b2 (m2.2.2.2 K i) (w2.2.1 139)) ∧ (F w 140 ≠ ((q : Nat) : Int) → w2.2.1 139 = w.2.1 139)) (hm_Pr_want N m q (I ((c : Nat) : Int))) (fm_M_wants N w (I (q : Nat)) (I ((c' : Nat) : Int))) := by
  rcases he with rfl | ⟨c1, c2⟩
  · exact want_pl p cx x pl hz hc.1 hN
  have p2 := p.1.2.1
  have hu : A w 89 q = ((n : Nat) : Int) := pl.1.1.2.1
  have bW : W ≤ 46000 := x.2.2.2.2.1.2
  have bB : B ≤ 2500 := x.2.2.2.2.2.1.2
  have bY : Y ≤ 30 := x.2.2.2.2.2.2.1.2
  have w0 := pp_pr (pp_pl (want_bb (N := N) (k := ((c : Nat) : Int)) (k' := ((c' : Nat) : Int)) p cx.1 cx.2.1 x hu pl.1.2.1 hz pl.1.2.2 (by omega) (by omega) (by omega) (by omega) (by omega)) (pk_ok (want_ok (N := N) (x := ((c : Nat) : Int)) p cx ⟨by omega, by omega⟩ (by omega)))) (pk_ok (wants_ok (N := N) (k := c') x hu (by omega) (by omega)))
  refine pp_mo w0 (fun m2 r w2 r2 q9 => ?_)
  obtain ⟨⟨⟨⟨b2, xf⟩, y1, y2, y3, y4⟩, d1, U2, ow2, kd2, d2, d3, d4, -⟩, n2, ow3, kd3, fd, R, ⟨r1, r2', r3, r4, r5, r6, r7, r8, r9, r10, r11, r12⟩, r13⟩ := q9
  obtain ⟨U, pl2, u1⟩ := PLs_xfr pl xf d4 r6 y1
  have e1 : U2 = U := by
    have := d2.1.1
    omega
  subst e1
  have e2 : n2 = U2 := by
    have := r5 q
    rw [if_pos rfl, pl2.1.1.2.1] at this
    omega
  subst e2
  refine ⟨b2, n2, pl2, Or.inl ⟨y3, y4⟩, d4, ⟨r6, fun s hs => ⟨?_, y2 s hs⟩, r7, fun i hi => (r8 i).2 (by omega), fun i hi => (r9 i).2 (by omega), fun i hi => (r10 i).2 (by omega)⟩, ⟨ow2, kd2, d2⟩, ⟨ow3, kd3, r3⟩, xf.2.2.1, xf.2.2.2⟩
  rw [r5 s, if_neg hs]
end
end
section
set_option maxRecDepth 100000
section
variable {b : Int → Nat → Nat → Prop} {h h' h2 h2' : Nat → Int64} {N n n' q r U B W Y : Nat} {m w m2 w2 : MS} {t x : Int64} {o : Int}
theorem ISw_ag (s : ISw b h n h' n') (hh : ∀ i, i < n → h2 i = h i) (hh' : ∀ i, i < n' → h2' i = h' i) : ISw b h2 n h2' n' := by
  refine ⟨fun t x z q => ?_, s.2.1, s.2.2⟩
  obtain ⟨⟨e1, e2, e3⟩, e4, e5⟩ := s.1 t x z q
  have zx := (RTb_isH q).mpr z
  have g1 : blk h2 t = blk h t := blk_ag z hh e2
  have g2 : blk h2' x = blk h' x := blk_ag zx hh' (by omega)
  have p0 := blk_pos (h := h) z
  refine ⟨⟨by rw [g1, g2]; exact e1, by omega, by omega⟩, fun j h1 h3 => ?_, fun e => ?_⟩
  · rw [g1] at h3
    rw [hh _ (by omega), hh' _ (by omega)]
    exact e4 j h1 h3
  · rw [hh _ (by omega), hh' _ (by omega)]
    exact e5 e
theorem ISb_ag (s : ISb b h n h' n') (hh : ∀ i, i < n → h2 i = h i) (hh' : ∀ i, i < n' → h2' i = h' i) : ISb b h2 n h2' n' := ⟨(ISw_ag s.w hh hh').1, s.2.1, s.2.2⟩
theorem PLs_cg (p : PLs b q m w U B W Y) (h1 : ∀ k, k ∈ [4, 5, 24, 26, 7] → m2.1 (pq q k) = m.1 (pq q k)) (h2 : ∀ i, i < U → m2.2.2.2 (pq q 2) i = m.2.2.2 (pq q 2) i) (h3 : ∀ i, i < B → m2.2.2.2 (pq q 33) i = m.2.2.2 (pq q 33) i) (h4 : ∀ i, i < W → m2.2.2.2 (pq q 35) i = m.2.2.2 (pq q 35) i) (h5 : ∀ i, i < Y → m2.2.2.2 (pq q 6) i = m.2.2.2 (pq q 6) i)
    (k1 : ∀ k, k ∈ [89, 90, 92, 94, 108] → w2.2.2.1 k q = w.2.2.1 k q) (k2 : ∀ i, i < U → w2.2.2.2 88 (500 * q + i) = w.2.2.2 88 (500 * q + i)) (k3 : ∀ i, i < B → w2.2.2.2 93 (2500 * q + i) = w.2.2.2 93 (2500 * q + i)) (k4 : ∀ i, i < W → w2.2.2.2 91 (46000 * q + i) = w.2.2.2 91 (46000 * q + i)) (k5 : ∀ i, i < Y → w2.2.2.2 107 (30 * q + i) = w.2.2.2 107 (30 * q + i)) : PLs b q m2 w2 U B W Y := by
  obtain ⟨⟨⟨p1, p2, p3⟩, p4, p5⟩, ⟨p6, p7, p8⟩, ⟨p9, p10, p11⟩, p12, p13, p14⟩ := p
  have fm : ∀ k, k ∈ [4, 5, 24, 26, 7] → F m2 (pq q k) = F m (pq q k) := fun k hk => congrArg Int32.toInt (h1 k hk)
  have aw : ∀ k, k ∈ [89, 90, 92, 94, 108] → A w2 k q = A w k q := fun k hk => congrArg Int32.toInt (k1 k hk)
  refine ⟨⟨⟨by rw [fm 4 (by simp)]; exact p1, by rw [aw 89 (by simp)]; exact p2, p3⟩, ISb_ag p4 h2 k2, by rw [h1 5 (by simp), k1 90 (by simp)]; exact p5⟩, ⟨by rw [fm 24 (by simp)]; exact p6, by rw [aw 94 (by simp)]; exact p7, fun i hi => by rw [h3 i hi, k3 i hi]; exact p8 i hi⟩, ⟨by rw [fm 26 (by simp)]; exact p9, by rw [aw 92 (by simp)]; exact p10, fun i hi => by rw [h4 i hi, k4 i hi]; exact p11 i hi⟩, by rw [fm 7 (by simp)]; exact p12, by rw [aw 108 (by simp)]; exact p13, fun i hi => by rw [h5 i hi, k5 i hi]; exact p14 i hi⟩
theorem PLs_o (p : PLs b r m w U B W Y) (hr : r ≠ q) (hb : W ≤ 46000 ∧ B ≤ 2500 ∧ Y ≤ 30) (f : XRm q m m2) (g : XRr q w w2) : PLs b r m2 w2 U B W Y := by
  obtain ⟨g1, g2, g3, g4, g5, g6⟩ := g
  have u5 := p.1.1.2.2
  have ni : ∀ k l, k < 100 → l < 100 → pq r k ≠ pq q l := fun k l hk hl z => hr (pq_e hk hl z).1
  have jm : ∀ k, k < 100 → m2.2.2.2 (pq r k) = m.2.2.2 (pq r k) := fun k hk => f.2.2.2 _ (by
    simp only [List.mem_cons, List.not_mem_nil, or_false]
    intro z
    rcases z with z | z | z | z | z
    · exact ni k 2 hk (by omega) z
    · exact ni k 3 hk (by omega) z
    · exact ni k 33 hk (by omega) z
    · exact ni k 35 hk (by omega) z
    · exact ni k 6 hk (by omega) z)
  refine PLs_cg p (fun k hk => f.1 _ (by
    have hk2 : k < 100 := by simp at hk; omega
    simp only [List.mem_cons, List.not_mem_nil, or_false]
    intro z
    rcases z with z | z
    · exact ni k 4 hk2 (by omega) z
    · exact ni k 5 hk2 (by omega) z)) (fun i _ => by rw [jm 2 (by omega)]) (fun i _ => by rw [jm 33 (by omega)]) (fun i _ => by rw [jm 35 (by omega)]) (fun i _ => by rw [jm 6 (by omega)]) (fun k hk => ?_) (fun i hi => g3 _ (by omega)) (fun i hi => g5 _ (by omega)) (fun i hi => g4 _ (by omega)) (fun i hi => g6 _ (by omega))
  by_cases e89 : k = 89
  · subst e89
    have := (g2 r hr).1
    show w2.2.2.1 89 r = w.2.2.1 89 r
    rw [I_A' this]
    exact I_A.symm
  · by_cases e90 : k = 90
    · subst e90
      exact (g2 r hr).2
    · rw [g1.2.2.1 k (by
        simp at hk
        simp
        omega)]
theorem handN_e : fm_M_handNone N w = some (wl (wi w 140 (-1)) 139 (mk 6 0), ()) := rfl
theorem PLs_h (p : PLs b q m w U B W Y) : PLs b q m (wl (wi w 140 o) 139 t) U B W Y := PLs_cg p (fun _ _ => rfl) (fun _ _ => rfl) (fun _ _ => rfl) (fun _ _ => rfl) (fun _ _ => rfl) (fun _ _ => rfl) (fun _ _ => rfl) (fun _ _ => rfl) (fun _ _ => rfl) (fun _ _ => rfl)
theorem PLs_hz (p : PLs b q m w U B W Y) (ho : RG o) (hs : o = ((q : Nat) : Int) → isH t → ∃ K i, CRt B W Y q K i ∧ RTb b (m.2.2.2 K i) t) : RTZ b m (wl (wi w 140 o) 139 t) q B W Y W B Y := by
  have e1 : F (wl (wi w 140 o) 139 t) 140 = o := by show F (wi w 140 o) 140 = o; rw [F_wi ho.1 ho.2, if_pos rfl]
  have e2 : (wl (wi w 140 o) 139 t).2.1 139 = t := rfl
  obtain ⟨-, ⟨-, -, p1⟩, ⟨-, -, p2⟩, -, -, p3⟩ := p
  refine ⟨fun K i c _ => Or.inl ?_, fun K i c _ => ?_, fun e z => ?_⟩
  · rcases c with ⟨rfl, c⟩ | ⟨rfl, c⟩ | ⟨rfl, c⟩
    · exact ⟨93, 2500 * q + i, Or.inr (Or.inl ⟨rfl, by omega, by omega⟩), p1 i c⟩
    · exact ⟨91, 46000 * q + i, Or.inl ⟨rfl, by omega, by omega⟩, p2 i c⟩
    · exact ⟨107, 30 * q + i, Or.inr (Or.inr ⟨rfl, by omega, by omega⟩), p3 i c⟩
  · rcases c with ⟨rfl, c1, c2⟩ | ⟨rfl, c1, c2⟩ | ⟨rfl, c1, c2⟩
    · have := p2 (i - 46000 * q) (by omega)
      rw [show 46000 * q + (i - 46000 * q) = i by omega] at this
      exact ⟨pq q 35, i - 46000 * q, Or.inr (Or.inl ⟨rfl, by omega⟩), this⟩
    · have := p1 (i - 2500 * q) (by omega)
      rw [show 2500 * q + (i - 2500 * q) = i by omega] at this
      exact ⟨pq q 33, i - 2500 * q, Or.inl ⟨rfl, by omega⟩, this⟩
    · have := p3 (i - 30 * q) (by omega)
      rw [show 30 * q + (i - 30 * q) = i by omega] at this
      exact ⟨pq q 6, i - 30 * q, Or.inr (Or.inr ⟨rfl, by omega⟩), this⟩
  · rw [e1] at e
    rw [e2] at z ⊢
    exact hs e z
end
end
section
set_option maxRecDepth 100000
section
variable {h h2 : Nat → Int64} {n : Nat} {ow kd : Nat → Nat} {Fv : Int64 → Int64 → Prop} {P : Int64 → Prop} {f s : Nat} {t : Int64}
theorem SZ_ag (hh : ∀ i, i < n → h2 i = h i) (z : SZ h n ow kd Fv P f t s) : SZ h2 n ow kd Fv P f t s := SZ_ext (Nat.le_refl _) hh (fun _ _ => rfl) (fun _ _ => rfl) (fun _ _ q => q) (fun _ q => q) z
theorem SZc_ag (hh : ∀ i, i < n → h2 i = h i) (z : SZc h n ow kd Fv P f t s) : SZc h2 n ow kd Fv P f t s := SZ_extc (Nat.le_refl _) hh (fun _ _ => rfl) (fun _ _ => rfl) (fun _ _ q => q) (fun _ q => q) z
theorem HP_agr (hh : ∀ i, i < n → h2 i = h i) (g : HP h n ow kd Fv P) : HP h2 n ow kd Fv P := fun t z gt => by
  obtain ⟨f, s, y1, y2⟩ := g t z gt
  refine ⟨f, s, SZ_ag hh y1, fun q => ?_⟩
  obtain ⟨q1, q2, q3⟩ := y2 q
  have bk := (HP_bk g z gt).1
  have bn := bk.2.2.2.1
  refine ⟨q1, by rw [blk_ag z hh bn]; exact q2, ?_⟩
  rw [hh _ (by omega)]
  exact q3
theorem HPc_agr (hh : ∀ i, i < n → h2 i = h i) (g : HPc h n ow kd Fv P) : HPc h2 n ow kd Fv P := fun t z gt => by
  obtain ⟨f, s, y1, y2⟩ := g t z gt
  refine ⟨f, s, SZc_ag hh y1, fun q => ?_⟩
  obtain ⟨q1, q2, q3⟩ := y2 q
  have bk := (HP_bkc g z gt).1
  have bn := bk.2.2.2.1
  refine ⟨q1, by rw [blk_ag z hh bn]; exact q2, ?_⟩
  rw [hh _ (by omega)]
  exact q3
end
end
section
set_option maxRecDepth 100000
def SRs (Fv : Int64 → Int64 → Prop) (P : Int64 → Prop) (Fv' : Int64 → Int64 → Prop) (P' : Int64 → Prop) (m w : MS) (q U : Nat) (src : Option Nat) (t : Int64) (wr : Int) (o : Nat) (x : Int64) (s : Nat) : Prop :=
  o < 25 ∧ ((src = none ∧ wr = 0 ∧ ¬ isH t ∧ x = t ∧ (so t = 6 → va t = 0) ∧ P' x ∧ s = 0) ∨
  ∃ (j : Nat) (bS : Int → Nat → Nat → Prop) (n : Nat) (ow kd : Nat → Nat) (f n' : Nat) (ow' kd' : Nat → Nat) (f' : Nat), src = some j ∧ (HPc (m.2.2.2 (pq j 2)) n ow kd Fv P ∧ n ≤ 512 ∧ (j = q → n ≤ U)) ∧ (HP (hp w o) n' ow' kd' Fv' P' ∧ n' ≤ 500 ∧ (o = q → n' ≤ U)) ∧ ISw bS (m.2.2.2 (pq j 2)) n (hp w o) n' ∧ SZc (m.2.2.2 (pq j 2)) n ow kd Fv P f t s ∧
    ((wr = 0 ∧ RTb bS t x ∧ SZ (hp w o) n' ow' kd' Fv' P' f' x s) ∨ (∃ z, (wr = 1 ∨ wr = 2) ∧ s = 3 + z ∧ so t = 5 ∧ blk (m.2.2.2 (pq j 2)) t = 3 ∧ m.2.2.2 (pq j 2) (vn t + 1) = mk 1 (if wr = 1 then 7 else 19) ∧ RTb bS (m.2.2.2 (pq j 2) (vn t + 2)) x ∧ SZ (hp w o) n' ow' kd' Fv' P' f' x z)))
def INs (bD : Int → Nat → Nat → Prop) (q s0 s : Nat) (m w m2 : MS) (r : Int64) (w2 : MS) (r2 : Int64) : Prop :=
  (∃ b2, (∀ k a c, bD k a c → b2 k a c) ∧ (∀ k a e, b2 k a e → bD k a e ∨ (s0 ≤ a ∧ s0 ≤ e)) ∧ ISb b2 (m2.2.2.2 (pq q 2)) (s0 + s) (hp w2 q) (s0 + s) ∧ RTb b2 r r2) ∧ (FR [pq q 4] [] [] [pq q 2] m m2 ∧ F m2 (pq q 4) = ((s0 + s : Nat) : Int) ∧ ∀ k, k < s0 → m2.2.2.2 (pq q 2) k = m.2.2.2 (pq q 2) k) ∧ FR [] [] [89, 142] [88, 141] w w2 ∧ (∀ r, A w2 89 r = if r = q then ((s0 + s : Nat) : Int) else A w 89 r) ∧ ∀ i, ¬ (500 * q + s0 ≤ i ∧ i < 500 * q + 500) → w2.2.2.2 88 i = w.2.2.2 88 i
section
variable {bS bD b2 : Int → Nat → Nat → Prop} {h d d0 d0' h' : Nat → Int64} {N q o v n n' n2 n2' ns ns' s0 s0' s z k9 f f' U j : Nat} {ow kd ow' kd' owd kdd : Nat → Nat} {Fv Fv' : Int64 → Int64 → Prop} {P P' : Int64 → Prop} {m w m2 w2 : MS} {t x r : Int64} {src : Option Nat} {wr : Int}
theorem ISb_up (s : ISb bS h n h' n') (h1 : n ≤ n2) (h2 : n' ≤ n2') : ISb bS h n2 h' n2' := ⟨fun t x z r => by
  obtain ⟨⟨e1, e2, e3⟩, e4⟩ := s.1 t x z r
  exact ⟨⟨e1, by omega, by omega⟩, e4⟩, s.2.1, s.2.2⟩
theorem CPX_cell (b3 : blk h t = 3) (hs : 3 ≤ s) (c : CPXc h n ow kd P d s0 s t r) : ∀ j, j < 3 → ¬ isH (h (vn t + j)) → d (s0 + j) = h (vn t + j) := by
  obtain ⟨src, bs, cp, pt, sp, c1, c2, c3, c4⟩ := c
  intro j hj hh
  have w := cp.2.1 s0 (Nat.le_refl _) (by omega)
  rw [c1, c2, b3] at w
  have w2 := w.2.2.2.2.2.2.2 j hj
  have ex : xcO h src bs (s0 + j) = h (vn t + j) := by
    unfold xcO
    rw [w2, c2]
    congr 1
    omega
  have w3 := cp.2.2 (s0 + j) (by omega) (by omega)
  rw [ex] at w3
  exact w3.1 hh
theorem hole_z (sD : ISb bD d0 s0 d0' s0') (nw : ∀ k a e, b2 k a e → bD k a e ∨ (s0 + k9 ≤ a ∧ s0' + k9 ≤ e)) (hd : ∀ i, i < s0 → h i = d0 i) : ∀ t x, isH t → RTb b2 t x → (vn t + blk h t ≤ s0 ∨ s0 + k9 ≤ vn t) ∧ (vn x + blk h t ≤ s0' ∨ s0' + k9 ≤ vn x) := fun t x z r => by
  obtain ⟨v, r3⟩ := RTb_h r z
  rcases nw _ _ _ r3 with e | e
  · obtain ⟨⟨e1, e2, e3⟩, -⟩ := sD.1 t x z (Or.inr ⟨z, RTb_so r, v, e⟩)
    have g1 : blk h t = blk d0 t := blk_ag z hd e2
    rw [g1]
    exact ⟨Or.inl e2, Or.inl e3⟩
  · exact ⟨Or.inr e.1, Or.inr e.2⟩
theorem copy_n (zx : ¬ isH x) {y : Int32} : fm_M_copy N w y x (I q) = some (w, x) := by
  unfold fm_M_copy fb_M_copy_0
  rw [inHeap_e.2 zx, bnd_so]
  rfl
theorem copyw_pp (gS : HPc h n ow kd Fv P) (hF : FVc Fv) (hh : m.2.2.2 v = h) (hn : n ≤ 512) (hv : v = pq q 2 → n ≤ s0) (gS' : HP (hp w o) n' ow' kd' Fv' P') (hn' : n' ≤ 500) (ho : o < 25) (hq : q < 24) (hoq : o = q → n' ≤ s0) (sS : ISw bS h ns (hp w o) ns')
    (e5 : so t = 5) (b3 : blk h t = 3) (h1 : ¬ isH (h (vn t + 1))) (rt : RTb bS (h (vn t + 2)) x) (z1 : SZc h n ow kd Fv P f t (3 + z)) (z2 : SZ (hp w o) n' ow' kd' Fv' P' f' x z) (hu : F m (pq q 4) = ((s0 : Nat) : Int)) (hu' : A w 89 q = ((s0 + 3 : Nat) : Int)) (sD : ISb bD (m.2.2.2 (pq q 2)) s0 d0' s0) (hd' : ∀ i, i < s0 → hp w q i = d0' i) (hl : s0 + (3 + z) ≤ 500) (gd : HPc (m.2.2.2 (pq q 2)) s0 owd kdd Fv P) (hN : 3000 ≤ N) :
    PP (fun m2 r w2 r2 => (∃ b2, (∀ k a c, bD k a c → b2 k a c) ∧ (∀ k a e, b2 k a e → bD k a e ∨ (s0 + 3 ≤ a ∧ s0 + 3 ≤ e)) ∧ ISb b2 (m2.2.2.2 (pq q 2)) (s0 + 3 + z) (hp w2 q) (s0 + 3 + z) ∧ RTb b2 (m2.2.2.2 (pq q 2) (s0 + 2)) r2) ∧ (so r = 5 ∧ va r = ((s0 : Nat) : Int)) ∧ (m2.2.2.2 (pq q 2) s0 = h (vn t) ∧ m2.2.2.2 (pq q 2) (s0 + 1) = h (vn t + 1)) ∧ (FR [pq q 4] [] [] [pq q 2] m m2 ∧ F m2 (pq q 4) = ((s0 + (3 + z) : Nat) : Int) ∧ ∀ k, k < s0 → m2.2.2.2 (pq q 2) k = m.2.2.2 (pq q 2) k) ∧ FR [] [] [89, 142] [88, 141] w w2 ∧ (∀ r, A w2 89 r = if r = q then ((s0 + 3 + z : Nat) : Int) else A w 89 r) ∧ ∀ i, ¬ (500 * q + (s0 + 3) ≤ i ∧ i < 500 * q + 500) → w2.2.2.2 88 i = w.2.2.2 88 i) (hm_Pr_copyIn N m q v t) (fm_M_copy N w (I o) x (I q)) := by
  intro m2 r w2 r2 e1 e2
  have zt : isH t := Or.inr (Or.inl e5)
  obtain ⟨a1, a2, a3, -⟩ := pk_ok (copyIn_hd (N := N) gS hF hn (by omega) (fun c _ => by rw [hh]) hv z1 hu gd (by omega)) m2 r e1
  have c := pk_ok (copyIn_x (N := N) gS hF hn (by omega) (fun c _ => by rw [hh]) hv z1 hu (by omega) zt) m2 r e1
  have er : so r = 5 ∧ va r = ((s0 : Nat) : Int) := by
    obtain ⟨_, _, _, _, _, _, _, c3, c4⟩ := c
    exact ⟨c3.trans e5, c4⟩
  have h0 : ¬ isH (h (vn t)) := fun zz => by
    have bk := (HP_bkc gS zt (SZ_gtc z1)).1
    have := (bk.2.1 e5).2
    unfold isH at zz
    omega
  have k0 : m2.2.2.2 (pq q 2) s0 = h (vn t) := CPX_cell b3 (by omega) c 0 (by omega) h0
  have k1 : m2.2.2.2 (pq q 2) (s0 + 1) = h (vn t + 1) := CPX_cell b3 (by omega) c 1 (by omega) h1
  have dn : ∀ w2 : MS, (∀ i, ¬ (500 * q + (s0 + 3) ≤ i ∧ i < 500 * q + 500) → w2.2.2.2 88 i = w.2.2.2 88 i) → ISb bD (m2.2.2.2 (pq q 2)) (s0 + 3) (hp w2 q) (s0 + 3) := fun w2 hr => ISb_up (ISb_ag sD a3 (fun i hi => by
    rw [← hd' i hi]
    exact hr (500 * q + i) (by omega))) (by omega) (by omega)
  by_cases zx : isH (h (vn t + 2))
  · have zX := (RTb_isH rt).mpr zx
    have hz := SZ_pos zX z2
    obtain ⟨cs, -, -⟩ := CPX_sub gS hF e5 b3 h1 zx (by omega) hz c
    obtain ⟨y1, y2, y3, cc, st, src, oo, y4, y5, y6, y7⟩ := pk_ok (copy_x (N := N) ho (by omega) hn' (by omega) (fun e => by have := hoq e; omega) gS' z2 hu' (by omega) zX) w2 r2 e2
    have rr := copy_res (N := N) (by omega) zX hu' w2 r2 e2
    have er2 : so r2 = so x ∧ vn r2 = s0 + 3 ∧ 0 ≤ va r2 := by
      have v9 : va r2 = ((s0 + 3 : Nat) : Int) := by rw [rr, va_rp (by omega) (by omega)]
      exact ⟨by rw [rr, so_rp (by omega) (by omega)], by unfold vn; omega, by omega⟩
    exact ⟨copy_iso sS gS hF (dn w2 y3) zx rt (by omega) cs (fun _ _ => rfl) y4 y5 y6 er2 (fun _ _ => rfl), er, ⟨k0, k1⟩, ⟨a1, a2, a3⟩, y1, y2, y3⟩
  · have ex := RTb_n rt zx
    have nx : ¬ isH x := by rw [ex]; exact zx
    have ez : z = 0 := by
      cases f' with
      | zero => exact z2.elim
      | succ f' =>
        rcases z2 with ⟨-, -, y⟩ | ⟨y, -⟩
        · exact y
        · exact absurd y nx
    subst ez
    rw [copy_n nx] at e2
    injection e2 with e2
    injection e2 with e3 e4
    subst e3
    subst e4
    refine ⟨⟨bD, fun _ _ _ q => q, fun _ _ _ q => Or.inl q, dn w (fun _ _ => rfl), ?_⟩, er, ⟨k0, k1⟩, ⟨a1, a2, a3⟩, FR.rf, fun r9 => ?_, fun _ _ => rfl⟩
    · rw [CPX_cell b3 (by omega) c 2 (by omega) zx, ex]
      exact RTb_lit zx (RTb_nil rt)
    · by_cases e : r9 = q
      · rw [if_pos e, e]; exact hu'
      · rw [if_neg e]
theorem SRs_st (sr : SRs Fv P Fv' P' m w q U src t wr o x s) (hm : ∀ j, src = some j → m2.2.2.2 (pq j 2) = m.2.2.2 (pq j 2)) (h1 : o ≠ q → ∀ i, i < 500 → hp w2 o i = hp w o i) (h2 : o = q → ∀ i, i < U → hp w2 o i = hp w o i) (hU : src = some q ∨ o = q → U ≤ n2) : SRs Fv P Fv' P' m2 w2 q n2 src t wr o x s := by
  obtain ⟨ho, sr⟩ := sr
  refine ⟨ho, ?_⟩
  rcases sr with sr | ⟨j, bS, n, ow, kd, f, n', ow', kd', f', e, ⟨g1, g2, g3⟩, ⟨g4, g5, g6⟩, g7, g8, g9⟩
  · exact Or.inl sr
  · have ag : ∀ i, i < n' → hp w2 o i = hp w o i := fun i hi => by
      by_cases c : o = q
      · exact h2 c i (by have := g6 c; omega)
      · exact h1 c i (by omega)
    refine Or.inr ⟨j, bS, n, ow, kd, f, n', ow', kd', f', e, ⟨by rw [hm j e]; exact g1, g2, fun c => by have := g3 c; have := hU (Or.inl (by rw [e, c])); omega⟩, ⟨HP_agr ag g4, g5, fun c => by have := g6 c; have := hU (Or.inr c); omega⟩, ISw_ag g7 (fun i _ => by rw [hm j e]) ag, by rw [hm j e]; exact g8, ?_⟩
    rw [hm j e]
    rcases g9 with ⟨y1, y2, y3⟩ | ⟨z, y1, y2, y3, y4, y5, y6, y7⟩
    · exact Or.inl ⟨y1, y2, SZ_ag ag y3⟩
    · exact Or.inr ⟨z, y1, y2, y3, y4, y5, y6, SZ_ag ag y7⟩
theorem SRs_no (sr : SRs Fv P Fv' P' m w q U none t wr o x s) : SRs Fv P Fv' P' m2 w2 q n2 none t wr o x s := by
  obtain ⟨ho, sr⟩ := sr
  rcases sr with sr | ⟨j, bS, n, ow, kd, f, n', ow', kd', f', e, -⟩
  · exact ⟨ho, Or.inl sr⟩
  · cases e
theorem SRs_z (sr : SRs Fv P Fv' P' m w q U src t wr o x s) : ∃ (z n' : Nat) (ow' kd' : Nat → Nat) (f' : Nat), HP (hp w o) n' ow' kd' Fv' P' ∧ n' ≤ 500 ∧ SZ (hp w o) n' ow' kd' Fv' P' f' x z ∧ ((wr = 0 ∧ s = z) ∨ ((wr = 1 ∨ wr = 2) ∧ s = 3 + z)) ∧ s ≤ 1012 := by
  obtain ⟨ho, sr⟩ := sr
  rcases sr with ⟨-, y1, y2, y3, -, y4, y5⟩ | ⟨j, bS, n, ow, kd, f, n', ow', kd', f', e, ⟨g1, g2, g3⟩, ⟨g4, g5, g6⟩, g7, g8, g9⟩
  · refine ⟨0, 0, fun _ => 1, fun _ => 0, 1, fun t ht g => ?_, by omega, Or.inl ⟨by rw [y3]; exact y2, y4, rfl⟩, Or.inl ⟨y1, y5⟩, by omega⟩
    rcases g with ⟨z, -⟩ | ⟨-, -, z, -⟩
    · exact absurd ht z
    · omega
  · have hm := SZ_max g1 g8
    rcases g9 with ⟨y1, y2, y3⟩ | ⟨z, y1, y2, y3, y4, y5, y6, y7⟩
    · exact ⟨s, n', ow', kd', f', g4, g5, y3, Or.inl ⟨y1, rfl⟩, by omega⟩
    · exact ⟨z, n', ow', kd', f', g4, g5, y7, Or.inr ⟨y1, y2⟩, by omega⟩
theorem vn_2 : vn (2 : Int64) = 2 := by decide
theorem w328_pp {Q : MS → Unit → MS → Unit → Prop} {K : MS → Int64 → Option (MS × Unit)} {m0 : Int64} {at' : Int32} {at0 : Int} (hF : FVc Fv) (hq : q < 24) (ho : o < 25) (gS : HPc (m.2.2.2 (pq j 2)) n ow kd Fv P) (hn : n ≤ 512) (hv : j = q → n ≤ s0) (gS' : HP (hp w o) n' ow' kd' Fv' P') (hn' : n' ≤ 500) (hoq : o = q → n' ≤ s0) (sS : ISw bS (m.2.2.2 (pq j 2)) n (hp w o) n')
    (e5 : so t = 5) (b3 : blk (m.2.2.2 (pq j 2)) t = 3) (h1 : m.2.2.2 (pq j 2) (vn t + 1) = mk 1 at0) (rt : RTb bS (m.2.2.2 (pq j 2) (vn t + 2)) x) (z1 : SZc (m.2.2.2 (pq j 2)) n ow kd Fv P f t (3 + z)) (z2 : SZ (hp w o) n' ow' kd' Fv' P' f' x z) (hu : F m (pq q 4) = ((s0 : Nat) : Int)) (sD : ISb bD (m.2.2.2 (pq q 2)) s0 (hp w q) s0) (hl : s0 + (3 + z) ≤ 500) (gd : HPc (m.2.2.2 (pq q 2)) s0 owd kdd Fv P) (hN : 3000 ≤ N)
    (k : ∀ m2 r w2 r2, INs bD q s0 (3 + z) m w m2 r w2 r2 → PP Q (K m2 r) (fb_M_message_378 N () w2 (I q) m0 at' r2)) :
    PP Q (bnd (hm_Pr_copyIn N m q (pq j 2) t) K) (fb_M_message_328 N () (wj (wa w 89 q ((s0 + 3 : Nat) : Int)) 88 (500 * q + s0) 2) (I q) (I o) x m0 at' (I ((s0 : Nat) : Int)) 88 ((((I q) * 500) + (I ((s0 : Nat) : Int))) + 1) 1 (I at0)) := by
  unfold fb_M_message_328
  have i1 : I ((q : Nat) : Int) * 500 + I ((s0 : Nat) : Int) + 1 = I ((500 * q + (s0 + 1) : Nat) : Int) := by
    rw [lit500, lit1q, I_mul, I_add, I_add]
    congr 1
    omega
  have i2 : I ((q : Nat) : Int) * 500 + I ((s0 : Nat) : Int) + 2 = I ((500 * q + (s0 + 2) : Nat) : Int) := by
    rw [lit500, show (2 : Int32) = I 2 from rfl, I_mul, I_add, I_add]
    congr 1
    omega
  rw [i1, i2, lit1q, term_e, bnd_so, isK_88, ck_t]
  refine r_ck (fun _ => r_lt ?_)
  rw [tnI (n := 500 * q + (s0 + 1)) rfl (by omega), wj_e]
  generalize hw1 : wj (wj (wa w 89 q ((s0 + 3 : Nat) : Int)) 88 (500 * q + s0) 2) 88 (500 * q + (s0 + 1)) (mk 1 at0) = w1
  have f1 : FR [] [] [89] [88] w w1 := by rw [← hw1]; exact FR.wj (FR.wj (FR.wa FR.rf (by simp)) (by simp)) (by simp)
  have a1 : ∀ r, A w1 89 r = if r = q then ((s0 + 3 : Nat) : Int) else A w 89 r := fun r => by
    rw [← hw1, A_wj, A_wj, A_wa (by omega) (by omega), if_pos rfl]
  have c1 : ∀ i, w1.2.2.2 88 i = if i = 500 * q + (s0 + 1) then mk 1 at0 else if i = 500 * q + s0 then 2 else w.2.2.2 88 i := fun i => by rw [← hw1, wj_row, wj_row]; rfl
  have ag : ∀ i, i < n' → hp w1 o i = hp w o i := fun i hi => by
    show w1.2.2.2 88 _ = w.2.2.2 88 _
    have : ¬ (500 * o + i = 500 * q + (s0 + 1)) ∧ ¬ (500 * o + i = 500 * q + s0) := by
      by_cases e : o = q
      · have := hoq e
        subst e
        omega
      · omega
    rw [c1, if_neg this.1, if_neg this.2]
  have ag2 : ∀ i, i < s0 → hp w1 q i = hp w q i := fun i hi => by
    show w1.2.2.2 88 _ = w.2.2.2 88 _
    rw [c1, if_neg (by omega), if_neg (by omega)]
  refine pp_bb (pp_mo (copyw_pp (N := N) (d0' := hp w q) gS hF rfl hn (fun e => hv (pq_e (by omega) (by omega) e).1) (HP_agr ag gS') hn' ho hq hoq (ISw_ag sS (fun _ _ => rfl) ag) e5 b3 (by rw [h1]; exact nh_mk (by omega)) rt z1 (SZ_ag ag z2) hu (by rw [a1, if_pos rfl]) sD ag2 hl gd hN) (fun m2 r w2 r2 hc => ?_))
  obtain ⟨⟨b2, q1, q2, q3, q4⟩, ⟨q5, q6⟩, ⟨q7, q8⟩, ⟨q9, q10, q11⟩, q12, q13, q14⟩ := hc
  refine r_ck (fun _ => r_lt ?_)
  rw [tnI (n := 500 * q + (s0 + 2)) rfl (by omega), wj_e, show (5 : Int32) = I 5 from rfl, term_e, bnd_so]
  have cc : ∀ i, hp (wj w2 88 (500 * q + (s0 + 2)) r2) q i = if i = s0 + 2 then r2 else hp w2 q i := fun i => hp_wj
  have c2 : ∀ i, i < s0 + 3 → hp w2 q i = hp w1 q i := fun i hi => q14 (500 * q + i) (by omega)
  have k0 : hp w2 q s0 = 2 := by
    rw [c2 s0 (by omega)]
    show w1.2.2.2 88 _ = _
    rw [c1, if_neg (by omega), if_pos rfl]
  have k1 : hp w2 q (s0 + 1) = mk 1 at0 := by
    rw [c2 (s0 + 1) (by omega)]
    show w1.2.2.2 88 _ = _
    rw [c1, if_pos rfl]
  have vr : vn r = s0 := by unfold vn; rw [q6]; omega
  have e5' : so (mk 5 ((s0 : Nat) : Int)) = 5 := so_mk (by omega) (by omega)
  have v5 := mk_v (k := 5) (a := s0) (by omega)
  have bl : blk (m2.2.2.2 (pq q 2)) r = 3 := by
    rw [← b3]
    unfold blk
    rw [q5, e5, vr, q7, if_neg (by omega), if_pos rfl, if_neg (by omega), if_pos rfl]
  have bl' : blk (hp (wj w2 88 (500 * q + (s0 + 2)) r2) q) (mk 5 ((s0 : Nat) : Int)) = 3 := by
    unfold blk
    rw [e5', v5.2, cc, if_neg (by omega), if_pos rfl, if_neg (by omega), k0, vn_2]
  obtain ⟨t1, t2⟩ := ISb_hole (h2 := m2.2.2.2 (pq q 2)) (h2' := hp (wj w2 88 (500 * q + (s0 + 2)) r2) q) (a0 := s0) (c0 := s0) (m := 3) (t := r) (x := mk 5 ((s0 : Nat) : Int)) q3 (hole_z sD q2 q11) (Or.inr (Or.inl q5)) (by rw [e5', q5]) ⟨by omega, by rw [v5.1]; omega⟩ vr v5.2 bl bl' ⟨by omega, by omega⟩ ⟨by omega, by omega⟩ (fun _ _ => rfl) (fun i hi => by rw [cc, if_neg (by omega)]) (fun j hj1 hj2 => by
    have : prt r = 1 := by unfold prt; rw [q5]; rfl
    have ej : j = 1 ∨ j = 2 := by omega
    rcases ej with e | e
    · subst e
      rw [q8, h1, cc, if_neg (by omega), k1]
      exact RTb_lit (nh_mk (by omega)) (fun e => by rw [so_mk (by omega) (by omega)] at e; omega)
    · subst e
      rw [cc, if_pos rfl]
      exact q4) (by omega)
  refine k _ _ _ _ ⟨⟨_, fun k a c y => Or.inl (q1 k a c y), fun k a e y => ?_, ?_, t2⟩, ⟨q9, q10, q11⟩, ?_, fun r9 => ?_, fun i hi => ?_⟩
  · rcases y with y | ⟨-, y1, y2⟩
    · rcases q2 k a e y with y | y
      · exact Or.inl y
      · exact Or.inr ⟨by omega, by omega⟩
    · exact Or.inr ⟨by omega, by omega⟩
  · rw [show s0 + (3 + z) = s0 + 3 + z by omega]
    exact t1
  · exact FR.wj (FR.tr (FR.mo f1 (by simp) (by simp) (by simp) (by simp)) q12) (by simp)
  · rw [A_wj, q13, a1]
    by_cases e : r9 = q
    · rw [if_pos e, if_pos e]; omega
    · rw [if_neg e, if_neg e, if_neg e]
  · rw [wj_row, if_neg (by omega), q14 i (by omega), c1, if_neg (by omega), if_neg (by omega)]
theorem inner_pp {Q : MS → Unit → MS → Unit → Prop} {K : MS → Int64 → Option (MS × Unit)} {m0 : Int64} {at' : Int32} (sr : SRs Fv P Fv' P' m w q s0 src t wr o x s) (hF : FVc Fv) (hq : q < 24) (hu : F m (pq q 4) = ((s0 : Nat) : Int)) (hu' : A w 89 q = ((s0 : Nat) : Int)) (sD : ISb bD (m.2.2.2 (pq q 2)) s0 (hp w q) s0) (gd : HPc (m.2.2.2 (pq q 2)) s0 owd kdd Fv P) (hl : s0 + s ≤ 500) (hN : 3000 ≤ N)
    (k : ∀ m2 r w2 r2, INs bD q s0 s m w m2 r w2 r2 → PP Q (K m2 r) (fb_M_message_378 N () w2 (I q) m0 at' r2)) :
    PP Q (match (generalizing := false) src with | none => K m t | some j => bnd (hm_Pr_copyIn N m q (pq j 2) t) K) (fb_M_message_261 N () w (I q) (I wr) (I o) x m0 at') := by
  obtain ⟨ho, sr⟩ := sr
  unfold fb_M_message_261
  rcases sr with ⟨rfl, rfl, y2, rfl, y6, y4, rfl⟩ | ⟨j, bS, n, ow, kd, f, n', ow', kd', f', rfl, ⟨g1, g2, g3⟩, ⟨g4, g5, g6⟩, g7, g8, g9⟩
  · rw [lit0q, decide_eq_true (Int32.le_refl _), br_tq, copy_n y2, bnd_so]
    refine k m x w x ⟨⟨bD, fun _ _ _ q => q, fun _ _ _ q => Or.inl q, sD, RTb_lit y2 y6⟩, ⟨FR.rf, hu, fun _ _ => rfl⟩, FR.rf, fun r9 => ?_, fun _ _ => rfl⟩
    by_cases e : r9 = q
    · rw [if_pos e, e]; exact hu'
    · rw [if_neg e]
  · rcases g9 with ⟨rfl, y2, y3⟩ | ⟨z, y1, rfl, y3, y4, y5, y6, y7⟩
    · rw [lit0q, decide_eq_true (Int32.le_refl _), br_tq]
      exact pp_bb (pp_mo (copy_pp (N := N) g1 hF rfl g2 (fun e => g3 (pq_e (by omega) (by omega) e).1) g4 g5 ho hq g6 g7 y2 g8 y3 hu hu' sD ⟨by omega, hl⟩ gd hN) (fun m2 r w2 r2 hc => k m2 r w2 r2 hc))
    · rw [lit0q, decI (by omega) (by omega) (by omega) (by omega), decide_eq_false (by omega), br_fq]
      have i1 : I ((q : Nat) : Int) * 500 + I ((s0 : Nat) : Int) = I ((500 * q + s0 : Nat) : Int) := by
        rw [lit500, I_mul, I_add]
        congr 1
        omega
      refine r_ck (fun _ => r_ck (fun _ => r_ck (fun _ => r_lt ?_)))
      rw [tnI (n := q) rfl (by omega), I_A' hu', show I ((s0 : Nat) : Int) + 3 = I ((s0 + 3 : Nat) : Int) from addN, wa_e]
      refine r_ck (fun _ => r_lt ?_)
      rw [show (I ((q : Nat) : Int) * 500 + I ((s0 : Nat) : Int)).toNatClampNeg = 500 * q + s0 by rw [i1]; exact tnI rfl (by omega), wj_e, lit1q, decE (by omega) (by omega) (by omega) (by omega), ← lit1q]
      by_cases e1 : wr = 1
      · rw [decide_eq_true e1, br_tq]
        rw [if_pos e1] at y5
        exact w328_pp (at0 := 7) hF hq ho g1 g2 g3 g4 g5 g6 g7 y3 y4 y5 y6 g8 y7 hu sD hl gd hN k
      · rw [decide_eq_false e1, br_fq]
        rw [if_neg e1] at y5
        exact w328_pp (at0 := 19) hF hq ho g1 g2 g3 g4 g5 g6 g7 y3 y4 y5 y6 g8 y7 hu sD hl gd hN k
end
end
section
set_option maxRecDepth 100000
section
variable {u : MS} {k i j k2 : Nat} {x : Int} {t : Int64}
theorem wa_ro (h1 : -2147483648 ≤ x) (h2 : x < 2147483648) : A (wa u k i x) k j = if j = i then x else A u k j := by rw [A_wa h1 h2, if_pos rfl]
theorem wa_sm (h1 : -2147483648 ≤ x) (h2 : x < 2147483648) : A (wa u k i x) k i = x := by rw [A_wa h1 h2, if_pos rfl, if_pos rfl]
theorem wi_1 (h : j ≠ k) : (wi u k x).1 j = u.1 j := if_neg h
theorem wi_sm (h1 : -2147483648 ≤ x) (h2 : x < 2147483648) : F (wi u k x) k = x := by rw [F_wi h1 h2, if_pos rfl]
theorem wa_21 (h : k2 ≠ k) : (wa u k i x).2.2.1 k2 = u.2.2.1 k2 := if_neg h
theorem wj_22 (h : k2 ≠ k) : (wj u k i t).2.2.2 k2 = u.2.2.2 k2 := if_neg h
theorem wi_s1 : (wi u k x).1 k = I x := if_pos rfl
theorem wa_s1 : (wa u k i x).2.2.1 k i = I x := by
  unfold wa upA upd
  simp
theorem wl_21 (h : k2 ≠ k) : (wl u k t).2.1 k2 = u.2.1 k2 := if_neg h
end
end
section
set_option maxRecDepth 100000
def wrL (K : Nat) : List Int64 → Nat → MS → MS
  | [], _, m => m
  | x :: L, i, m => wrL K L (i + 1) (wj m K i x)
section
variable {K : Nat}
theorem wrL_1 : ∀ (L : List Int64) (i : Nat) (m : MS), (wrL K L i m).1 = m.1 ∧ (wrL K L i m).2.1 = m.2.1 ∧ (wrL K L i m).2.2.1 = m.2.2.1
  | [], _, _ => ⟨rfl, rfl, rfl⟩
  | x :: L, i, m => wrL_1 L (i + 1) (wj m K i x)
theorem wrL_o : ∀ (L : List Int64) (i : Nat) (m : MS) {k : Nat}, k ≠ K → (wrL K L i m).2.2.2 k = m.2.2.2 k
  | [], _, _, _, _ => rfl
  | x :: L, i, m, _, h => (wrL_o L (i + 1) (wj m K i x) h).trans (if_neg h)
theorem wrL_n : ∀ (L : List Int64) (i : Nat) (m : MS) (j : Nat), ¬ (i ≤ j ∧ j < i + L.length) → (wrL K L i m).2.2.2 K j = m.2.2.2 K j
  | [], _, _, _, _ => rfl
  | x :: L, i, m, j, h => by
    have hl : (x :: L).length = L.length + 1 := rfl
    rw [hl] at h
    show (wrL K L (i + 1) (wj m K i x)).2.2.2 K j = _
    rw [wrL_n L (i + 1) (wj m K i x) j (by omega), wj_row, if_neg (by omega)]
theorem wrL_c : ∀ (L : List Int64) (i : Nat) (m : MS) (j : Nat) (x : Int64), L[j]? = some x → (wrL K L i m).2.2.2 K (i + j) = x
  | [], _, _, _, _, h => by simp at h
  | y :: L, i, m, 0, x, h => by
    have e : y = x := by simpa using h
    show (wrL K L (i + 1) (wj m K i y)).2.2.2 K (i + 0) = x
    rw [wrL_n L (i + 1) _ _ (by omega), wj_row, if_pos (Nat.add_zero i)]
    exact e
  | y :: L, i, m, j + 1, x, h => by
    have := wrL_c L (i + 1) (wj m K i y) j x (by simpa using h)
    rw [show i + 1 + j = i + (j + 1) by omega] at this
    exact this
end
section
variable {b b2 : Int → Nat → Nat → Prop} {N n q U B W Y a s : Nat} {m w m1 w1 m2 w2 : MS} {t x r r2 : Int64} {v3 v4 wr : Int} {o : Nat} {Q : MS → Unit → MS → Unit → Prop} {L : List Int64}
theorem hd4_l {D : Option (MS × Unit)} (hY : F m (pq q 7) = ((Y : Nat) : Int)) (h30 : Y < 30) (hU : U < 1000000) (k : PP Q (some (coS (wrL (pq q 2) [mk 8 3, mk 1 8, mk 4 v3, r] U m) q Y (mk 5 ((U : Nat) : Int)), ())) D) : PP Q (hb_Wl_post_120 N () m q (I ((4 : Nat) : Int)) (I v3) (I v4) (I ((U : Nat) : Int)) r) D := by
  have ea : I ((U : Nat) : Int) + I ((4 : Nat) : Int) - 2 = I ((U + 2 : Nat) : Int) := by rw [show (2 : Int32) = I 2 from rfl, I_add, I_sub]; congr 1; omega
  have eb : I ((U : Nat) : Int) + I ((4 : Nat) : Int) - 1 = I ((U + 3 : Nat) : Int) := by rw [lit1q, I_add, I_sub]; congr 1; omega
  unfold hb_Wl_post_120
  rw [show decide (I ((4 : Nat) : Int) = 0) = false from rfl, br_fq, show I ((4 : Nat) : Int) - 1 = I 3 from rfl, show (8 : Int32) = I 8 from rfl, e_make, bnd_so]
  refine l_ck (fun _ => l_lt ?_)
  rw [tnI (n := U) rfl (by omega), wj_e, show decide (I ((4 : Nat) : Int) = 4) = true from rfl, br_tq]
  unfold hb_Wl_post_169
  rw [show I ((U : Nat) : Int) + 1 = I ((U + 1 : Nat) : Int) from addN, lit1q, e_make, bnd_so]
  refine l_ck (fun _ => l_lt ?_)
  rw [tnI (n := U + 1) rfl (by omega), wj_e, show decide (I ((4 : Nat) : Int) = 5) = false from rfl, br_fq]
  unfold hb_Wl_post_193
  rw [ea, eb, show (4 : Int32) = I 4 from rfl, e_make, bnd_so]
  refine l_ck (fun _ => l_lt ?_)
  rw [tnI (n := U + 2) rfl (by omega), wj_e]
  refine l_ck (fun _ => l_lt ?_)
  rw [tnI (n := U + 3) rfl (by omega), wj_e, show (5 : Int32) = I 5 from rfl, e_make, bnd_so, comes_e (Y := Y) (show F (wj (wj (wj (wj m (pq q 2) U (mk 8 3)) (pq q 2) (U + 1) (mk 1 8)) (pq q 2) (U + 2) (mk 4 v3)) (pq q 2) (U + 3) r) (pq q 7) = ((Y : Nat) : Int) from hY) h30, bnd_so]
  exact k
theorem hd5_l {D : Option (MS × Unit)} (hY : F m (pq q 7) = ((Y : Nat) : Int)) (h30 : Y < 30) (hU : U < 1000000) (k : PP Q (some (coS (wrL (pq q 2) [mk 8 4, mk 1 9, mk 2 v4, mk 4 v3, r] U m) q Y (mk 5 ((U : Nat) : Int)), ())) D) : PP Q (hb_Wl_post_120 N () m q (I ((5 : Nat) : Int)) (I v3) (I v4) (I ((U : Nat) : Int)) r) D := by
  have ea : I ((U : Nat) : Int) + I ((5 : Nat) : Int) - 2 = I ((U + 3 : Nat) : Int) := by rw [show (2 : Int32) = I 2 from rfl, I_add, I_sub]; congr 1; omega
  have eb : I ((U : Nat) : Int) + I ((5 : Nat) : Int) - 1 = I ((U + 4 : Nat) : Int) := by rw [lit1q, I_add, I_sub]; congr 1; omega
  unfold hb_Wl_post_120
  rw [show decide (I ((5 : Nat) : Int) = 0) = false from rfl, br_fq, show I ((5 : Nat) : Int) - 1 = I 4 from rfl, show (8 : Int32) = I 8 from rfl, e_make, bnd_so]
  refine l_ck (fun _ => l_lt ?_)
  rw [tnI (n := U) rfl (by omega), wj_e, show decide (I ((5 : Nat) : Int) = 4) = false from rfl, br_fq]
  unfold hb_Wl_post_169
  rw [show I ((U : Nat) : Int) + 1 = I ((U + 1 : Nat) : Int) from addN, lit1q, show (9 : Int32) = I 9 from rfl, e_make, bnd_so]
  refine l_ck (fun _ => l_lt ?_)
  rw [tnI (n := U + 1) rfl (by omega), wj_e, show decide (I ((5 : Nat) : Int) = 5) = true from rfl, br_tq, show I ((U : Nat) : Int) + 2 = I ((U + 2 : Nat) : Int) from addN, show (2 : Int32) = I 2 from rfl, e_make, bnd_so]
  refine l_ck (fun _ => l_lt ?_)
  rw [tnI (n := U + 2) rfl (by omega), wj_e]
  unfold hb_Wl_post_193
  rw [ea, eb, show (4 : Int32) = I 4 from rfl, e_make, bnd_so]
  refine l_ck (fun _ => l_lt ?_)
  rw [tnI (n := U + 3) rfl (by omega), wj_e]
  refine l_ck (fun _ => l_lt ?_)
  rw [tnI (n := U + 4) rfl (by omega), wj_e, show (5 : Int32) = I 5 from rfl, e_make, bnd_so, comes_e (Y := Y) (show F (wj (wj (wj (wj (wj m (pq q 2) U (mk 8 4)) (pq q 2) (U + 1) (mk 1 9)) (pq q 2) (U + 2) (mk 2 v4)) (pq q 2) (U + 3) (mk 4 v3)) (pq q 2) (U + 4) r) (pq q 7) = ((Y : Nat) : Int) from hY) h30, bnd_so]
  exact k
theorem tn88 (hq : q < 25) (hU : U < 1000) : (I ((q : Nat) : Int) * 500 + I ((U : Nat) : Int)).toNatClampNeg = 500 * q + U := by
  rw [lit500, I_mul, I_add]
  exact tnI (n := 500 * q + U) (by omega) (by omega)
theorem tn88s {z : Int} {k : Nat} (hz : z = ((k : Nat) : Int)) (hq : q < 25) (hU : U + k < 1000) : (I ((q : Nat) : Int) * 500 + I ((U : Nat) : Int) + I z).toNatClampNeg = 500 * q + (U + k) := by
  rw [lit500, I_mul, I_add, I_add]
  exact tnI (n := 500 * q + (U + k)) (by omega) (by omega)
theorem tn88m {z : Int} {k : Nat} (hz : z = ((k + 1 : Nat) : Int)) (hq : q < 25) (hU : U + k < 1000) : (I ((q : Nat) : Int) * 500 + I ((U : Nat) : Int) + I z - 1).toNatClampNeg = 500 * q + (U + k) := by
  rw [lit500, lit1q, I_mul, I_add, I_add, I_sub]
  exact tnI (n := 500 * q + (U + k)) (by omega) (by omega)
theorem hd4_r {D : Option (MS × Unit)} (hq : q < 24) (hu : A w 89 q = ((U : Nat) : Int)) (hU : U < 500) (k : PP Q D (fb_M_message_261 N () (wrL 88 [(I 3).toInt64, mk 1 8, mk 4 v3] (500 * q + U) (wa w 89 q ((U + 4 : Nat) : Int))) (I q) (I wr) (I o) x (mk 5 ((U : Nat) : Int)) (I ((U + 3 : Nat) : Int)))) : PP Q D (fb_M_message_136 N () w (I q) (I ((0 : Nat) : Int)) (I v4) (I v3) (I wr) (I o) x (I ((U : Nat) : Int)) 3) := by
  unfold fb_M_message_136
  rw [show (3 : Int32) = I 3 from rfl]
  refine r_ck (fun _ => r_ck (fun _ => r_lt ?_))
  rw [tnI (n := q) rfl (by omega), I_A' hu, show I ((U : Nat) : Int) + (I 3 + 1) = I ((U + 4 : Nat) : Int) from addN (b := 4), wa_e]
  refine r_ck (fun _ => r_lt ?_)
  rw [tn88 (by omega) (by omega), wj_e, show decide (I ((0 : Nat) : Int) = 0) = true from rfl, br_tq]
  unfold fb_M_message_193
  rw [lit1q, show (8 : Int32) = I 8 from rfl, term_e, bnd_so, isK_88, ck_t]
  refine r_ck (fun _ => r_lt ?_)
  rw [tn88s (z := 1) (k := 1) rfl (by omega) (by omega), wj_e, show decide (I ((0 : Nat) : Int) = I 1) = false from rfl, br_fq]
  unfold fb_M_message_222
  rw [show (4 : Int32) = I 4 from rfl, term_e, bnd_so]
  refine r_ck (fun _ => r_lt ?_)
  rw [tn88m (z := 3) (k := 2) rfl (by omega) (by omega), wj_e, show (5 : Int32) = I 5 from rfl, term_e, bnd_so, show I ((U : Nat) : Int) + I 3 = I ((U + 3 : Nat) : Int) from addN]
  exact k
theorem hd5_r {D : Option (MS × Unit)} (hq : q < 24) (hu : A w 89 q = ((U : Nat) : Int)) (hU : U < 500) (k : PP Q D (fb_M_message_261 N () (wrL 88 [(I 4).toInt64, mk 1 9, mk 2 v4, mk 4 v3] (500 * q + U) (wa w 89 q ((U + 5 : Nat) : Int))) (I q) (I wr) (I o) x (mk 5 ((U : Nat) : Int)) (I ((U + 4 : Nat) : Int)))) : PP Q D (fb_M_message_136 N () w (I q) (I ((1 : Nat) : Int)) (I v4) (I v3) (I wr) (I o) x (I ((U : Nat) : Int)) 4) := by
  unfold fb_M_message_136
  rw [show (4 : Int32) = I 4 from rfl]
  refine r_ck (fun _ => r_ck (fun _ => r_lt ?_))
  rw [tnI (n := q) rfl (by omega), I_A' hu, show I ((U : Nat) : Int) + (I 4 + 1) = I ((U + 5 : Nat) : Int) from addN (b := 5), wa_e]
  refine r_ck (fun _ => r_lt ?_)
  rw [tn88 (by omega) (by omega), wj_e, show decide (I ((1 : Nat) : Int) = 0) = false from rfl, br_fq]
  unfold fb_M_message_193
  rw [lit1q, show (9 : Int32) = I 9 from rfl, term_e, bnd_so, isK_88, ck_t]
  refine r_ck (fun _ => r_lt ?_)
  rw [tn88s (z := 1) (k := 1) rfl (by omega) (by omega), wj_e, show decide (I ((1 : Nat) : Int) = I 1) = true from rfl, br_tq, show (2 : Int32) = I 2 from rfl, term_e, bnd_so]
  refine r_ck (fun _ => r_lt ?_)
  rw [tn88s (z := 2) (k := 2) rfl (by omega) (by omega), wj_e]
  unfold fb_M_message_222
  rw [show (4 : Int32) = I 4 from rfl, term_e, bnd_so]
  refine r_ck (fun _ => r_lt ?_)
  rw [tn88m (z := 4) (k := 3) rfl (by omega) (by omega), wj_e, show (5 : Int32) = I 5 from rfl, term_e, bnd_so, show I ((U : Nat) : Int) + I 4 = I ((U + 4 : Nat) : Int) from addN]
  exact k
theorem PLs_new (p : PLs b q m w U B W Y) (mo : ∀ k a c, b k a c → b2 k a c) (h1 : ∀ k, k ∈ [5, 24, 26, 7] → m2.1 (pq q k) = m.1 (pq q k)) (h3 : ∀ k, k ∈ [33, 35, 6] → m2.2.2.2 (pq q k) = m.2.2.2 (pq q k)) (k1 : ∀ k, k ∈ [90, 92, 94, 108] → w2.2.2.1 k q = w.2.2.1 k q) (k3 : ∀ k, k ∈ [93, 91, 107] → w2.2.2.2 k = w.2.2.2 k) (u1 : F m2 (pq q 4) = ((n : Nat) : Int)) (u2 : A w2 89 q = ((n : Nat) : Int)) (u3 : n ≤ 500) (is : ISb b2 (m2.2.2.2 (pq q 2)) n (hp w2 q) n) : PLs b2 q m2 w2 n B W Y := by
  obtain ⟨⟨⟨p1, p2, p3⟩, p4, p5⟩, ⟨p6, p7, p8⟩, ⟨p9, p10, p11⟩, p12, p13, p14⟩ := p
  have fm : ∀ k, k ∈ [5, 24, 26, 7] → F m2 (pq q k) = F m (pq q k) := fun k hk => congrArg Int32.toInt (h1 k hk)
  have aw : ∀ k, k ∈ [90, 92, 94, 108] → A w2 k q = A w k q := fun k hk => congrArg Int32.toInt (k1 k hk)
  exact ⟨⟨⟨u1, u2, u3⟩, is, by rw [h1 5 (by simp), k1 90 (by simp)]; exact p5⟩, ⟨by rw [fm 24 (by simp)]; exact p6, by rw [aw 94 (by simp)]; exact p7, fun i hi => by rw [h3 33 (by simp), k3 93 (by simp)]; exact RTb_mo mo (p8 i hi)⟩, ⟨by rw [fm 26 (by simp)]; exact p9, by rw [aw 92 (by simp)]; exact p10, fun i hi => by rw [h3 35 (by simp), k3 91 (by simp)]; exact RTb_mo mo (p11 i hi)⟩, by rw [fm 7 (by simp)]; exact p12, by rw [aw 108 (by simp)]; exact p13, fun i hi => by rw [h3 6 (by simp), k3 107 (by simp)]; exact RTb_mo mo (p14 i hi)⟩
theorem INs_pl (pl : PLs b q m w U B W Y) (f1 : FR [pq q 4] [] [] [] m m1) (g1 : FR [] [] [89] [88] w w1) (hin : INs b q (U + a) s m1 w1 m2 r w2 r2) {m3 w3 : MS} (e1 : m3.1 = m2.1) (e2 : ∀ k, k ≠ pq q 2 → m3.2.2.2 k = m2.2.2.2 k) (e3 : w3.2.2.1 = w2.2.2.1) (e4 : ∀ k, k ≠ 88 → w3.2.2.2 k = w2.2.2.2 k) (mo : ∀ k a c, b k a c → b2 k a c) (hl : U + a + s ≤ 500) (is : ISb b2 (m3.2.2.2 (pq q 2)) (U + a + s) (hp w3 q) (U + a + s)) : PLs b2 q m3 w3 (U + a + s) B W Y := by
  obtain ⟨-, ⟨q5, q6, -⟩, q8, q9, -⟩ := hin
  have n4 : ∀ k, k ∈ [5, 24, 26, 7] → pq q k ∉ [pq q 4] := fun k hk => by
    simp only [List.mem_cons, List.not_mem_nil, or_false]
    exact pq_inj (by intro e; subst e; simp at hk)
  have n2 : ∀ k, k ∈ [33, 35, 6] → pq q k ≠ pq q 2 := fun k hk => pq_inj (by intro e; subst e; simp at hk)
  refine PLs_new pl mo (fun k hk => by rw [e1, q5.1 _ (n4 k hk), f1.1 _ (n4 k hk)]) (fun k hk => by rw [e2 _ (n2 k hk), q5.2.2.2 _ (by simpa using n2 k hk), f1.2.2.2 _ (by simp)]) (fun k hk => ?_) (fun k hk => ?_) (by show (m3.1 (pq q 4)).toInt = _; rw [e1]; exact q6) (by show (w3.2.2.1 89 q).toInt = _; rw [e3]; have := q9 q; rw [if_pos rfl] at this; exact this) hl is
  · rw [e3, q8.2.2.1 k (by simp at hk ⊢; omega), g1.2.2.1 k (by simp at hk ⊢; omega)]
  · rw [e4 k (by simp at hk; omega), q8.2.2.2 k (by simp at hk ⊢; omega), g1.2.2.2 k (by simp at hk ⊢; omega)]
theorem head_pl (pl : PLs b q m w U B W Y) (f1 : FR [pq q 4] [] [] [] m m1) (g1 : FR [] [] [89] [88] w w1) (hin : INs b q (U + a) s m1 w1 m2 r w2 r2) (hl : U + a + s ≤ 500) (ha : 2 ≤ a) (hL : L.length = a - 1) {y0 : Int64} (x0 : L[0]? = some y0 ∧ vn y0 = a - 1) (x0' : vn (hp w1 q U) = a - 1) (xs : ∀ j, 1 ≤ j → j < a - 1 → ∃ y, L[j]? = some y ∧ hp w1 q (U + j) = y ∧ ¬ isH y ∧ so y ≠ 6) : ∃ b3, PLs b3 q (wrL (pq q 2) (L ++ [r]) U m2) (wj w2 88 (500 * q + (U + (a - 1))) r2) (U + a + s) B W Y ∧ RTb b3 (mk 5 ((U : Nat) : Int)) (mk 5 ((U : Nat) : Int)) := by
  have hin0 := hin
  obtain ⟨⟨b2, q1, q2, q3, q4⟩, ⟨q5, q6, q7⟩, q8, q9, q10⟩ := hin
  have sD : ISb b (m.2.2.2 (pq q 2)) U (hp w q) U := pl.1.2.1
  have hd : ∀ i, i < U → m2.2.2.2 (pq q 2) i = m.2.2.2 (pq q 2) i := fun i hi => by rw [q7 i (by omega), f1.2.2.2 _ (by simp)]
  have ll : (L ++ [r]).length = a := by rw [List.length_append, hL]; show a - 1 + 1 = a; omega
  have n1 : ∀ i, ¬ (U ≤ i ∧ i < U + a) → (wrL (pq q 2) (L ++ [r]) U m2).2.2.2 (pq q 2) i = m2.2.2.2 (pq q 2) i := fun i hi => wrL_n _ _ _ _ (by rw [ll]; exact hi)
  have c2 : ∀ i, hp (wj w2 88 (500 * q + (U + (a - 1))) r2) q i = if i = U + (a - 1) then r2 else hp w2 q i := fun i => hp_wj
  have c3 : ∀ i, i < U + a → hp w2 q i = hp w1 q i := fun i hi => q10 (500 * q + i) (by omega)
  have g0 : (wrL (pq q 2) (L ++ [r]) U m2).2.2.2 (pq q 2) U = y0 := wrL_c (L ++ [r]) U m2 0 y0 (by rw [List.getElem?_append_left (by omega)]; exact x0.1)
  have e5 : so (mk 5 ((U : Nat) : Int)) = 5 := so_mk (by omega) (by omega)
  have v5 := mk_v (k := 5) (a := U) (by omega)
  have bl : blk ((wrL (pq q 2) (L ++ [r]) U m2).2.2.2 (pq q 2)) (mk 5 ((U : Nat) : Int)) = a := by
    unfold blk
    rw [e5, v5.2, g0, x0.2]
    show 1 + (a - 1) = a
    omega
  have bl' : blk (hp (wj w2 88 (500 * q + (U + (a - 1))) r2) q) (mk 5 ((U : Nat) : Int)) = a := by
    unfold blk
    rw [e5, v5.2, c2, if_neg (by omega), if_pos rfl, if_neg (by omega), c3 U (by omega), x0']
    show 1 + (a - 1) = a
    omega
  obtain ⟨t1, t2⟩ := ISb_hole (h2 := (wrL (pq q 2) (L ++ [r]) U m2).2.2.2 (pq q 2)) (h2' := hp (wj w2 88 (500 * q + (U + (a - 1))) r2) q) (a0 := U) (c0 := U) (m := a) (t := mk 5 ((U : Nat) : Int)) (x := mk 5 ((U : Nat) : Int)) q3 (hole_z sD q2 hd) (Or.inr (Or.inl e5)) rfl ⟨by rw [v5.1]; omega, by rw [v5.1]; omega⟩ v5.2 v5.2 bl bl' ⟨by omega, by omega⟩ ⟨by omega, by omega⟩ n1 (fun i hi => by rw [c2, if_neg (by omega)]) (fun j hj1 hj2 => by
    have : prt (mk 5 ((U : Nat) : Int)) = 1 := by unfold prt; rw [e5]; rfl
    by_cases e : j = a - 1
    · subst e
      rw [wrL_c (L ++ [r]) U m2 (a - 1) r (by rw [List.getElem?_append_right (by omega), hL, Nat.sub_self]; rfl), c2, if_pos rfl]
      exact q4
    · obtain ⟨y, y1, y2, y3, y4⟩ := xs j (by omega) (by omega)
      rw [wrL_c (L ++ [r]) U m2 j y (by rw [List.getElem?_append_left (by omega)]; exact y1), c2, if_neg (by omega), c3 _ (by omega), y2]
      exact RTb_lit y3 (fun e => absurd e y4)) (by rw [e5]; omega)
  exact ⟨_, INs_pl pl f1 g1 hin0 (wrL_1 _ _ _).1 (fun k hk => wrL_o _ _ _ hk) rfl (fun k hk => if_neg hk) (fun k a c y => Or.inl (q1 k a c y)) hl t1, t2⟩
end
end
section
set_option maxRecDepth 100000
def XMm (q : Nat) (m m2 : MS) : Prop := FR [pq q 4, pq q 5, pq q 7] [] [] [pq q 2, pq q 3, pq q 33, pq q 35, pq q 6, 45] m m2
def XMr (q : Nat) (w w2 : MS) : Prop := FR [136, 138, 140] [139] [89, 90, 108, 135, 142] [88, 91, 93, 107, 134, 137, 141] w w2 ∧ (∀ r, r ≠ q → A w2 89 r = A w 89 r ∧ w2.2.2.1 90 r = w.2.2.1 90 r ∧ A w2 108 r = A w 108 r) ∧ (∀ i, ¬ (500 * q ≤ i ∧ i < 500 * q + 500) → w2.2.2.2 88 i = w.2.2.2 88 i) ∧ (∀ i, ¬ (46000 * q ≤ i ∧ i < 46000 * q + 46000) → w2.2.2.2 91 i = w.2.2.2 91 i) ∧ (∀ i, ¬ (2500 * q ≤ i ∧ i < 2500 * q + 2500) → w2.2.2.2 93 i = w.2.2.2 93 i) ∧ ∀ i, ¬ (30 * q ≤ i ∧ i < 30 * q + 30) → w2.2.2.2 107 i = w.2.2.2 107 i
def PSTs (q U2 B W Y : Nat) (m w m2 w2 : MS) : Prop := (∃ b2, PLs b2 q m2 w2 U2 B W (Y + 1)) ∧ XMm q m m2 ∧ XMr q w w2
section
variable {b b2 : Int → Nat → Nat → Prop} {N n q U B W Y a s o e e' : Nat} {ow kd ow' kd' : Nat → Nat} {Fv Fv' : Int64 → Int64 → Prop} {P P' : Int64 → Prop} {m w m1 w1 m2 w2 m3 w3 : MS} {t x r r2 : Int64} {v3 v4 wr : Int} {L L' : List Int64} {src : Option Nat}
theorem XMm.tr (h1 : XMm q m m2) (h2 : XMm q m2 m3) : XMm q m m3 := FR.tr h1 h2
theorem XMr.rf : XMr q w w := ⟨FR.rf, fun _ _ => ⟨rfl, rfl, rfl⟩, fun _ _ => rfl, fun _ _ => rfl, fun _ _ => rfl, fun _ _ => rfl⟩
theorem XMr.tr (h1 : XMr q w w2) (h2 : XMr q w2 w3) : XMr q w w3 := by
  obtain ⟨a1, a2, a3, a4, a5, a6⟩ := h1
  obtain ⟨c1, c2, c3, c4, c5, c6⟩ := h2
  exact ⟨FR.tr a1 c1, fun r hr => ⟨(c2 r hr).1.trans (a2 r hr).1, (c2 r hr).2.1.trans (a2 r hr).2.1, (c2 r hr).2.2.trans (a2 r hr).2.2⟩, fun i hi => (c3 i hi).trans (a3 i hi), fun i hi => (c4 i hi).trans (a4 i hi), fun i hi => (c5 i hi).trans (a5 i hi), fun i hi => (c6 i hi).trans (a6 i hi)⟩
theorem XMm.want (f : XRm q m m2) : XMm q m m2 := FR.mo f (by simp) (by simp) (by simp) (by simp)
theorem XMr.want (f : XRr q w w2) : XMr q w w2 := by
  obtain ⟨a1, a2, a3, a4, a5, a6⟩ := f
  exact ⟨FR.mo a1 (by simp) (by simp) (by simp) (by simp), fun r hr => ⟨(a2 r hr).1, (a2 r hr).2, FR.A a1 (by simp)⟩, a3, a4, a5, a6⟩
theorem XMr.hand {z : Int} : XMr q w (wl (wi w 140 z) 139 t) := ⟨FR.wl (FR.wi FR.rf (by simp)) (by simp), fun _ _ => ⟨rfl, rfl, rfl⟩, fun _ _ => rfl, fun _ _ => rfl, fun _ _ => rfl, fun _ _ => rfl⟩
theorem XMr.sz (f : FR [] [] [] [141] w w2) : XMr q w w2 := ⟨FR.mo f (by simp) (by simp) (by simp) (by simp), fun r _ => ⟨FR.A f (by simp), by rw [f.2.2.1 90 (by simp)], FR.A f (by simp)⟩, fun i _ => by rw [f.2.2.2 88 (by simp)], fun i _ => by rw [f.2.2.2 91 (by simp)], fun i _ => by rw [f.2.2.2 93 (by simp)], fun i _ => by rw [f.2.2.2 107 (by simp)]⟩
theorem wrL_fr {K i : Nat} : FR [] [] [] [K] m (wrL K L i m) := ⟨fun k _ => by rw [(wrL_1 L i m).1], fun k _ => by rw [(wrL_1 L i m).2.1], fun k _ => by rw [(wrL_1 L i m).2.2], fun k hk => wrL_o L i m (by simpa using hk)⟩
theorem come_pl (hq : q < 24) (hY : Y < 30) (f1 : FR [pq q 4] [] [] [] m m1) (g1 : FR [] [] [89] [88] w w1) (g2 : ∀ r, r ≠ q → A w1 89 r = A w 89 r) (g3 : ∀ i, ¬ (500 * q ≤ i ∧ i < 500 * q + 500) → w1.2.2.2 88 i = w.2.2.2 88 i) (hin : INs b q (U + a) s m1 w1 m2 r w2 r2) (f3 : FR [] [] [] [pq q 2] m2 m3) (g4 : FR [] [] [] [88] w2 w3) (g5 : ∀ i, ¬ (500 * q ≤ i ∧ i < 500 * q + 500) → w3.2.2.2 88 i = w2.2.2.2 88 i) (pl : PLs b2 q m3 w3 (U + a + s) B W Y) (rt : RTb b2 t x) : PSTs q (U + a + s) B W Y m w (coS m3 q Y t) (coR w3 q Y x) := by
  obtain ⟨-, ⟨q5, q6, q7⟩, q8, q9, q10⟩ := hin
  refine ⟨⟨b2, PLs_comes pl rt hY⟩, ?_, ?_, fun r9 hr => ⟨?_, ?_, ?_⟩, fun i hi => ?_, fun i hi => ?_, fun i hi => ?_, fun i hi => ?_⟩
  · exact FR.wi (FR.wj (FR.tr (FR.tr (FR.mo f1 (by simp) (by simp) (by simp) (by simp)) (FR.mo q5 (by simp) (by simp) (by simp) (by simp))) (FR.mo f3 (by simp) (by simp) (by simp) (by simp))) (by simp)) (by simp)
  · exact FR.wa (FR.wj (FR.tr (FR.tr (FR.mo g1 (by simp) (by simp) (by simp) (by simp)) (FR.mo q8 (by simp) (by simp) (by simp) (by simp))) (FR.mo g4 (by simp) (by simp) (by simp) (by simp))) (by simp)) (by simp)
  · unfold coR
    rw [A_wa (by omega) (by omega), if_neg (by omega), A_wj, FR.A g4 (by simp), q9, if_neg hr, g2 _ hr]
  · show w3.2.2.1 90 r9 = _
    rw [g4.2.2.1 90 (by simp), q8.2.2.1 90 (by simp), g1.2.2.1 90 (by simp)]
  · unfold coR
    rw [A_wa (by omega) (by omega), if_pos rfl, if_neg hr, A_wj, FR.A g4 (by simp), FR.A q8 (by simp), FR.A g1 (by simp)]
  · show w3.2.2.2 88 i = _
    rw [g5 i hi, q10 i (by omega), g3 i hi]
  · show w3.2.2.2 91 i = _
    rw [g4.2.2.2 91 (by simp), q8.2.2.2 91 (by simp), g1.2.2.2 91 (by simp)]
  · show w3.2.2.2 93 i = _
    rw [g4.2.2.2 93 (by simp), q8.2.2.2 93 (by simp), g1.2.2.2 93 (by simp)]
  · show (wj w3 107 (30 * q + Y) x).2.2.2 107 i = _
    rw [wj_row, if_neg (by omega), g4.2.2.2 107 (by simp), q8.2.2.2 107 (by simp), g1.2.2.2 107 (by simp)]
theorem tailH_pp (hcl : ∀ (m2 : MS) (r : Int64) (D : Option (MS × Unit)), F m2 (pq q 7) = ((Y : Nat) : Int) → PP (fun m2 (_ : Unit) w2 (_ : Unit) => PSTs q (U + a + s) B W Y m w m2 w2) (some (coS (wrL (pq q 2) (L ++ [r]) U m2) q Y (mk 5 ((U : Nat) : Int)), ())) D → PP (fun m2 (_ : Unit) w2 (_ : Unit) => PSTs q (U + a + s) B W Y m w m2 w2) (hb_Wl_post_120 N () m2 q (I ((a : Nat) : Int)) (I v3) (I v4) (I ((U : Nat) : Int)) r) D) (ha : 2 ≤ a) (hL : L.length = a - 1) (hL' : L'.length = a - 1) {y0 y0' : Int64} (x0 : L[0]? = some y0 ∧ vn y0 = a - 1) (x0' : L'[0]? = some y0' ∧ vn y0' = a - 1) (xs : ∀ j, 1 ≤ j → j < a - 1 → ∃ y, L[j]? = some y ∧ L'[j]? = some y ∧ ¬ isH y ∧ so y ≠ 6)
    (pl : PLs b q m w U B W Y) (hY : Y < 30) (hq : q < 24) (hF : FVc Fv) (gm : HPc (m.2.2.2 (pq q 2)) U ow kd Fv P) (sr : SRs Fv P Fv' P' m w q U src t wr o x s) (hl : U + a + s ≤ 500) (hN : 3000 ≤ N) (f1 : FR [pq q 4] [] [] [] m m1) (j1 : m1.2.2.2 = m.2.2.2) (e1 : F m1 (pq q 4) = ((U + a : Nat) : Int)) :
    PP (fun m2 (_ : Unit) w2 (_ : Unit) => PSTs q (U + a + s) B W Y m w m2 w2) (match (generalizing := false) src with | none => hb_Wl_post_120 N () m1 q (I ((a : Nat) : Int)) (I v3) (I v4) (I ((U : Nat) : Int)) t | some j => bnd (hm_Pr_copyIn N m1 q (pq j 2) t) (fun u r => hb_Wl_post_120 N () u q (I ((a : Nat) : Int)) (I v3) (I v4) (I ((U : Nat) : Int)) r)) (fb_M_message_261 N () (wrL 88 L' (500 * q + U) (wa w 89 q ((U + a : Nat) : Int))) (I q) (I wr) (I o) x (mk 5 ((U : Nat) : Int)) (I ((U + (a - 1) : Nat) : Int))) := by
  generalize hw1 : wrL 88 L' (500 * q + U) (wa w 89 q ((U + a : Nat) : Int)) = w1
  have fr := wrL_fr (m := wa w 89 q ((U + a : Nat) : Int)) (L := L') (K := 88) (i := 500 * q + U)
  have g1 : FR [] [] [89] [88] w w1 := by rw [← hw1]; exact FR.tr (FR.wa FR.rf (by simp)) (FR.mo fr (by simp) (by simp) (by simp) (by simp))
  have a1 : ∀ r, A w1 89 r = if r = q then ((U + a : Nat) : Int) else A w 89 r := fun r => by rw [← hw1, FR.A fr (by simp), A_wa (by omega) (by omega), if_pos rfl]
  have n1 : ∀ i, ¬ (500 * q + U ≤ i ∧ i < 500 * q + U + (a - 1)) → w1.2.2.2 88 i = w.2.2.2 88 i := fun i hi => by rw [← hw1, wrL_n _ _ _ _ (by rw [hL']; exact hi)]; rfl
  have c1 : ∀ j y, L'[j]? = some y → hp w1 q (U + j) = y := fun j y hy => by
    show w1.2.2.2 88 (500 * q + (U + j)) = y
    rw [← hw1, show 500 * q + (U + j) = 500 * q + U + j by omega]
    exact wrL_c _ _ _ _ _ hy
  have sr1 : SRs Fv P Fv' P' m1 w1 q (U + a) src t wr o x s := SRs_st sr (fun j _ => by rw [j1]) (fun ho i hi => n1 _ (by omega)) (fun ho i hi => n1 _ (by subst ho; omega)) (fun _ => by omega)
  have sD : ISb b (m1.2.2.2 (pq q 2)) (U + a) (hp w1 q) (U + a) := ISb_up (ISb_ag pl.1.2.1 (fun i _ => by rw [j1]) (fun i hi => n1 _ (by omega))) (by omega) (by omega)
  have gd : HPc (m1.2.2.2 (pq q 2)) (U + a) (owH U ow) kd Fv P := by rw [j1]; exact HP_holec a gm (fun _ _ => rfl)
  refine inner_pp (K := fun u r => hb_Wl_post_120 N () u q (I ((a : Nat) : Int)) (I v3) (I v4) (I ((U : Nat) : Int)) r) sr1 hF hq e1 (by rw [a1, if_pos rfl]) sD gd hl hN (fun m2 r w2 r2 hin => ?_)
  have hin0 := hin
  obtain ⟨-, ⟨q5, q6, q7⟩, q8, q9, q10⟩ := hin
  have p7 : F m2 (pq q 7) = ((Y : Nat) : Int) := by
    rw [FR.F q5 (by simpa using pq_inj (by omega)), FR.F f1 (by simpa using pq_inj (by omega))]
    exact pl.2.2.2.1
  have p8 : A w2 108 q = ((Y : Nat) : Int) := by
    rw [FR.A q8 (by simp), FR.A g1 (by simp)]
    exact pl.2.2.2.2.1
  refine hcl m2 r _ p7 ?_
  unfold fb_M_message_378
  rw [litm1q, decE (by omega) (by omega) (by omega) (by omega), decide_eq_false (by omega), br_fq]
  refine r_ck (fun _ => r_lt ?_)
  rw [tn88 (by omega) (by omega), wj_e, box_e (Y := Y) hq (show A (wj w2 88 (500 * q + (U + (a - 1))) r2) 108 q = ((Y : Nat) : Int) from p8) hY]
  obtain ⟨b3, pl3, rt3⟩ := head_pl (L := L) pl f1 g1 hin0 hl ha hL x0 (by rw [show U = U + 0 from rfl, c1 0 y0' x0'.1]; exact x0'.2) (fun j h1 h2 => by
    obtain ⟨y, y1, y2, y3⟩ := xs j h1 h2
    exact ⟨y, y1, c1 j y y2, y3⟩)
  exact pp_end (come_pl hq hY f1 g1 (fun r hr => by rw [a1, if_neg hr]) (fun i hi => n1 i (by omega)) hin0 wrL_fr (FR.wj FR.rf (by simp)) (fun i hi => by rw [wj_row, if_neg (by omega)]) pl3 rt3)
theorem vn_hd {k : Nat} (h : k < 100) : vn ((I ((k : Nat) : Int)).toInt64) = k := by
  unfold vn
  rw [va_nat h]
  omega
theorem vn_mk8 {k : Nat} (h : k < 100) : vn (mk 8 ((k : Nat) : Int)) = k := by
  unfold vn
  rw [va_mk (by omega) (by omega)]
  omega
theorem so_n {k : Int} {z : Int} (hk : k = 1 ∨ k = 2 ∨ k = 4) : so (mk k z) ≠ 6 := by
  rw [so_mk (by omega) (by omega)]
  omega
theorem tail_pp {D : Option (MS × Unit)} (ha : (a = 0 ∧ D = fb_M_message_261 N () w (I q) (I wr) (I o) x 0 (-1)) ∨ (a = 4 ∧ D = fb_M_message_136 N () w (I q) (I ((0 : Nat) : Int)) (I v4) (I v3) (I wr) (I o) x (I ((U : Nat) : Int)) 3) ∨ (a = 5 ∧ D = fb_M_message_136 N () w (I q) (I ((1 : Nat) : Int)) (I v4) (I v3) (I wr) (I o) x (I ((U : Nat) : Int)) 4))
    (pl : PLs b q m w U B W Y) (hY : Y < 30) (hq : q < 24) (hF : FVc Fv) (gm : HPc (m.2.2.2 (pq q 2)) U ow kd Fv P) (sr : SRs Fv P Fv' P' m w q U src t wr o x s) (hl : U + a + s ≤ 500) (hN : 3000 ≤ N) : PP (fun m2 (_ : Unit) w2 (_ : Unit) => PSTs q (U + a + s) B W Y m w m2 w2) (hb_Wl_post_81 N () m q (I ((a : Nat) : Int)) (I v3) (I v4) src t) D := by
  have u0 := pl.1.1.1
  have u0' := pl.1.1.2.1
  unfold hb_Wl_post_81
  rw [I_F' u0, show I ((U : Nat) : Int) + I ((a : Nat) : Int) = I ((U + a : Nat) : Int) from addN, wi_e, lt_e]
  generalize hm1 : wi m (pq q 4) ((U + a : Nat) : Int) = m1
  have f1 : FR [pq q 4] [] [] [] m m1 := by rw [← hm1]; exact FR.wi FR.rf (by simp)
  have j1 : m1.2.2.2 = m.2.2.2 := by rw [← hm1]; rfl
  have e1 : F m1 (pq q 4) = ((U + a : Nat) : Int) := by rw [← hm1, F_wi (by omega) (by omega), if_pos rfl]
  have shp : ∀ a : Nat, br (decide (src = none)) (hb_Wl_post_120 N () m1 q (I ((a : Nat) : Int)) (I v3) (I v4) (I ((U : Nat) : Int)) t) (bo src (fun j => bnd (hm_Pr_copyIn N m1 q (pq j 2) t) (fun u r => hb_Wl_post_120 N () u q (I ((a : Nat) : Int)) (I v3) (I v4) (I ((U : Nat) : Int)) r))) = (match (generalizing := false) src with | none => hb_Wl_post_120 N () m1 q (I ((a : Nat) : Int)) (I v3) (I v4) (I ((U : Nat) : Int)) t | some j => bnd (hm_Pr_copyIn N m1 q (pq j 2) t) (fun u r => hb_Wl_post_120 N () u q (I ((a : Nat) : Int)) (I v3) (I v4) (I ((U : Nat) : Int)) r)) := fun a => by
    cases src with
    | none => rfl
    | some j => rfl
  rw [shp]
  rcases ha with ⟨rfl, rfl⟩ | ⟨rfl, rfl⟩ | ⟨rfl, rfl⟩
  · have sr1 : SRs Fv P Fv' P' m1 w q (U + 0) src t wr o x s := SRs_st sr (fun j _ => by rw [j1]) (fun _ _ _ => rfl) (fun _ _ _ => rfl) (fun _ => by omega)
    have sD : ISb b (m1.2.2.2 (pq q 2)) (U + 0) (hp w q) (U + 0) := by rw [j1]; exact pl.1.2.1
    have gd : HPc (m1.2.2.2 (pq q 2)) (U + 0) ow kd Fv P := by rw [j1]; exact gm
    refine inner_pp (K := fun u r => hb_Wl_post_120 N () u q (I ((0 : Nat) : Int)) (I v3) (I v4) (I ((U : Nat) : Int)) r) sr1 hF hq e1 u0' sD gd hl hN (fun m2 r w2 r2 hin => ?_)
    have hin0 := hin
    obtain ⟨⟨b2, q1, q2, q3, q4⟩, ⟨q5, q6, q7⟩, q8, q9, q10⟩ := hin
    have p7 : F m2 (pq q 7) = ((Y : Nat) : Int) := by
      rw [FR.F q5 (by simpa using pq_inj (by omega)), FR.F f1 (by simpa using pq_inj (by omega))]
      exact pl.2.2.2.1
    have p8 : A w2 108 q = ((Y : Nat) : Int) := by
      rw [FR.A q8 (by simp)]
      exact pl.2.2.2.2.1
    show PP _ (hb_Wl_post_120 N () m2 q (I ((0 : Nat) : Int)) (I v3) (I v4) (I ((U : Nat) : Int)) r) _
    unfold hb_Wl_post_120 fb_M_message_378
    rw [show decide (I ((0 : Nat) : Int) = 0) = true from rfl, br_tq, comes_e (Y := Y) p7 hY, bnd_so, show decide ((-1 : Int32) = -1) = true from rfl, br_tq, box_e (Y := Y) hq p8 hY]
    have g0 : FR [] [] [89] [88] w w := FR.rf
    exact pp_end (come_pl hq hY f1 g0 (fun _ _ => rfl) (fun _ _ => rfl) hin0 FR.rf FR.rf (fun _ _ => rfl) (INs_pl pl f1 g0 hin0 rfl (fun _ _ => rfl) rfl (fun _ _ => rfl) q1 hl q3) q4)
  · refine hd4_r hq u0' (by omega) (tailH_pp (a := 4) (L := [mk 8 3, mk 1 8, mk 4 v3]) (L' := [(I 3).toInt64, mk 1 8, mk 4 v3]) (fun m2 r D p7 k => hd4_l p7 hY (by omega) k) (by omega) rfl rfl ⟨rfl, vn_mk8 (k := 3) (by omega)⟩ ⟨rfl, vn_hd (k := 3) (by omega)⟩ (fun j h1 h2 => ?_) pl hY hq hF gm sr hl hN f1 j1 e1)
    have ej : j = 1 ∨ j = 2 := by omega
    rcases ej with rfl | rfl
    · exact ⟨mk 1 8, rfl, rfl, nh_mk (by omega), so_n (by omega)⟩
    · exact ⟨mk 4 v3, rfl, rfl, nh_mk (by omega), so_n (by omega)⟩
  · refine hd5_r hq u0' (by omega) (tailH_pp (a := 5) (L := [mk 8 4, mk 1 9, mk 2 v4, mk 4 v3]) (L' := [(I 4).toInt64, mk 1 9, mk 2 v4, mk 4 v3]) (fun m2 r D p7 k => hd5_l p7 hY (by omega) k) (by omega) rfl rfl ⟨rfl, vn_mk8 (k := 4) (by omega)⟩ ⟨rfl, vn_hd (k := 4) (by omega)⟩ (fun j h1 h2 => ?_) pl hY hq hF gm sr hl hN f1 j1 e1)
    have ej : j = 1 ∨ j = 2 ∨ j = 3 := by omega
    rcases ej with rfl | rfl | rfl
    · exact ⟨mk 1 9, rfl, rfl, nh_mk (by omega), so_n (by omega)⟩
    · exact ⟨mk 2 v4, rfl, rfl, nh_mk (by omega), so_n (by omega)⟩
    · exact ⟨mk 4 v3, rfl, rfl, nh_mk (by omega), so_n (by omega)⟩
end
end
section
set_option maxRecDepth 100000
def MPs (q B W Y e e' : Nat) (m w m2 w2 : MS) : Prop := (Y = 30 ∧ m2 = m ∧ w2 = w) ∨ (∃ m1 w1, XMm q m m1 ∧ XMr q w w1 ∧ m1.1 (pq q 5) = w1.2.2.1 90 q ∧ m2 = enS m1 q (mk 1 20) q e ∧ w2 = enR w1 q 0 ((q : Nat) : Int) (mk 1 20) e') ∨ (Y < 30 ∧ ∃ U2, PSTs q U2 B W Y m w m2 w2)
def OWs (b : Int → Nat → Nat → Prop) (Fv : Int64 → Int64 → Prop) (P : Int64 → Prop) (P' : Int64 → Prop) (m : MS) (q U W : Nat) (ow kd ow' kd' : Nat → Nat) (src : Option Nat) (t : Int64) (wr : Int) (o : Nat) (x : Int64) (s : Nat) : Prop := src = some q ∧ o = q ∧ wr = 0 ∧ 1 ≤ W ∧ t = m.2.2.2 (pq q 35) (W - 1) ∧ RTb b t x ∧ (∃ f, SZc (m.2.2.2 (pq q 2)) U ow kd Fv P f t s) ∧ GT U ow' kd' P' x
section
variable {b b2 : Int → Nat → Nat → Prop} {N n q U B W Y a s o e e' sort : Nat} {ow kd ow' kd' : Nat → Nat} {Fv Fv' : Int64 → Int64 → Prop} {P P' : Int64 → Prop} {m w m1 w1 m2 w2 m3 w3 : MS} {t x r r2 : Int64} {v3 v4 wr : Int} {src : Option Nat}
theorem OWs_sr (h : OWs b Fv P P' m q U W ow kd ow' kd' src t wr o x s) (pl : PLs b q m w U B W Y) (gm : HPc (m.2.2.2 (pq q 2)) U ow kd Fv P) (gw : HP (hp w q) U ow' kd' Fv' P') (hq : q < 24) : SRs Fv P Fv' P' m w q U src t wr o x s := by
  obtain ⟨rfl, rfl, rfl, -, -, h4, ⟨f, h5⟩, h6⟩ := h
  have hU := pl.1.1.2.2
  obtain ⟨f', s', z'⟩ := HP_sz gw h6
  have es := SZ_iso pl.1.2.1 h4 h5 z'
  subst es
  exact ⟨by omega, Or.inr ⟨o, b, U, ow, kd, f, U, ow', kd', f', rfl, ⟨gm, by omega, fun _ => Nat.le_refl _⟩, ⟨gw, hU, fun _ => Nat.le_refl _⟩, pl.1.2.1.w, h5, Or.inl ⟨rfl, h4, z'⟩⟩⟩
theorem p50_pp (hz : (a = 0 ∧ sort = 2) ∨ (a = 4 ∧ sort = 0) ∨ (a = 5 ∧ sort = 1)) (hq : q < 24) (hal : F m (pq q 9) ≠ 3) (hal' : A w 109 q ≠ 3) (pl : PLs b q m w U B W Y) (hY : Y < 30) (pt : PTQ m q U ow kd Fv P B W Y) (cx : CTX Fv P m) (cw : CX w q (hp w q) U ow' kd' Fv' P' W B Y) (sr : SRs Fv P Fv' P' m w q U src t wr o x s) (hs : (src ≠ some q ∧ (src = none ∨ o ≠ q)) ∨ OWs b Fv P P' m q U W ow kd ow' kd' src t wr o x s) (he : F m 955 = ((e : Nat) : Int) ∧ e < 24) (he' : F w 150 = ((e' : Nat) : Int) ∧ e' < 4000) (hN : 2200000 ≤ N) (fm : FR [] [] [] [45] m m1) :
    PP (fun m2 (_ : Unit) w2 (_ : Unit) => MPs q B W Y e e' m w m2 w2) (hb_Wl_post_41 N () m1 q (I ((a : Nat) : Int)) (I v3) (I v4) t src (I ((s : Nat) : Int))) (fb_M_message_50 N () w (I q) (I ((sort : Nat) : Int)) (I v4) (I v3) (I wr) (I o) x (I ((a : Nat) : Int)) (I (if wr ≤ 0 then 0 else 3))) := by
  have ho : o < 25 := sr.1
  obtain ⟨z, n', owx, kdx, fx, g1, g2, g3, g4, g5⟩ := SRs_z sr
  have hz1 := SZ_1000 g1 g2 g3
  unfold fb_M_message_50 hb_Wl_post_41
  refine r_bnd (pk_mo (pk_ok (copySize_ok (N := N) g1 g2 ho g3 (by omega))) (fun w1 r1 h1 => ?_))
  obtain ⟨f1, rfl⟩ := h1
  rw [hand_e, bnd_so]
  generalize hzc : (if z ≤ 500 then z else 501 : Nat) = zc
  have hzc2 : (z ≤ 500 ∧ zc = z) ∨ (500 < z ∧ zc = 501) := by
    by_cases c : z ≤ 500
    · rw [if_pos c] at hzc; omega
    · rw [if_neg c] at hzc; omega
  obtain ⟨wq, hwq, hs2⟩ : ∃ wq : Nat, (if wr ≤ 0 then 0 else 3 : Int) = ((wq : Nat) : Int) ∧ s = wq + z := by
    rcases g4 with ⟨c, d⟩ | ⟨c, d⟩
    · exact ⟨0, by rw [if_pos (by omega)]; rfl, by omega⟩
    · exact ⟨3, by rw [if_neg (by omega)]; rfl, by omega⟩
  have ha5 : a ≤ 5 := by omega
  have hw3 : wq ≤ 3 := by
    by_cases c : wr ≤ 0
    · rw [if_pos c] at hwq; omega
    · rw [if_neg c] at hwq; omega
  rw [hwq, show I ((a : Nat) : Int) + I ((s : Nat) : Int) = I ((a + s : Nat) : Int) from addN, show I ((a : Nat) : Int) + I ((wq : Nat) : Int) + I ((zc : Nat) : Int) = I ((a + wq + zc : Nat) : Int) by rw [addN, addN]]
  have i1 : ∀ k, m1.1 k = m.1 k := fun k => fm.1 k (by simp)
  have j1 : ∀ k, k < 100 → m1.2.2.2 (pq q k) = m.2.2.2 (pq q k) := fun k hk => fm.2.2.2 _ (by simp; unfold pq; omega)
  have j1' : ∀ j k, k < 100 → m1.2.2.2 (pq j k) = m.2.2.2 (pq j k) := fun j k hk => fm.2.2.2 _ (by simp; unfold pq; omega)
  have pl1 : PLs b q m1 w1 U B W Y := PLs_cg pl (fun k _ => i1 _) (fun i _ => by rw [j1 2 (by omega)]) (fun i _ => by rw [j1 33 (by omega)]) (fun i _ => by rw [j1 35 (by omega)]) (fun i _ => by rw [j1 6 (by omega)]) (fun k _ => by rw [f1.2.2.1 k (by simp)]) (fun i _ => by rw [f1.2.2.2 88 (by simp)]) (fun i _ => by rw [f1.2.2.2 93 (by simp)]) (fun i _ => by rw [f1.2.2.2 91 (by simp)]) (fun i _ => by rw [f1.2.2.2 107 (by simp)])
  have pt1 : PTQ m1 q U ow kd Fv P B W Y := PTQ_same pt (fun k _ => i1 _) (fun k hk => j1 k (by simp at hk; omega))
  have cx1 : CTX Fv P m1 := CTX_fr cx (i1 22) (fm.2.2.1 3 (by simp))
  have rgo : RG ((o : Nat) : Int) := ⟨by omega, by omega⟩
  have f140 : F (wl (wi w1 140 ((o : Nat) : Int)) 139 x) 140 = ((o : Nat) : Int) := by
    show F (wi w1 140 ((o : Nat) : Int)) 140 = _
    rw [F_wi rgo.1 rgo.2, if_pos rfl]
  have pl2 : PLs b q m1 (wl (wi w1 140 ((o : Nat) : Int)) 139 x) U B W Y := PLs_h pl1
  have ownx : ((o : Nat) : Int) = ((q : Nat) : Int) → isH x → OWs b Fv P P' m q U W ow kd ow' kd' src t wr o x s := fun c zx => by
    rcases hs with ⟨-, hs | hs⟩ | hs
    · subst hs
      obtain ⟨-, sr⟩ := sr
      rcases sr with ⟨-, -, y1, y2, -⟩ | ⟨j, bS, n, ow, kd, f, n', ow', kd', f', e, -⟩
      · rw [y2] at zx; exact absurd zx y1
      · cases e
    · exact absurd (by omega) hs
    · exact hs
  have rz : RTZ b m1 (wl (wi w1 140 ((o : Nat) : Int)) 139 x) q B W Y W B Y := PLs_hz pl1 rgo (fun c zx => by
    obtain ⟨-, -, -, y1, y2, y3, -⟩ := ownx c zx
    exact ⟨pq q 35, W - 1, Or.inr (Or.inl ⟨rfl, by omega⟩), by rw [j1 35 (by omega), ← y2]; exact y3⟩)
  have px : ((o : Nat) : Int) = ((q : Nat) : Int) → GT U ow' kd' P' x := fun c => by
    by_cases zx : isH x
    · exact (ownx c zx).2.2.2.2.2.2.2
    · have := SZ_gt g3
      rcases this with y | y
      · exact Or.inl y
      · exact absurd y.1 zx
  have hpw : hp (wl (wi w1 140 ((o : Nat) : Int)) 139 x) q = hp w q := by
    unfold hp
    show (fun i => w1.2.2.2 88 (500 * q + i)) = _
    rw [f1.2.2.2 88 (by simp)]
  have cw2 : CX (wl (wi w1 140 ((o : Nat) : Int)) 139 x) q (hp (wl (wi w1 140 ((o : Nat) : Int)) 139 x) q) U ow' kd' Fv' P' W B Y := by
    obtain ⟨x1, x2, x3, x4, x5, x6, x7, x8, x9, x10, x11⟩ := cw
    have ea : ∀ k, A (wl (wi w1 140 ((o : Nat) : Int)) 139 x) k q = A w k q := fun k => by show A w1 k q = _; exact FR.A f1 (by simp)
    have ej : ∀ k, k ≠ 141 → (wl (wi w1 140 ((o : Nat) : Int)) 139 x).2.2.2 k = w.2.2.2 k := fun k hk => by show w1.2.2.2 k = _; exact f1.2.2.2 k (by simpa using hk)
    refine ⟨rfl, by rw [hpw]; exact x2, x3, x4, ⟨by rw [ea]; exact x5.1, x5.2⟩, ⟨by rw [ea]; exact x6.1, x6.2⟩, ⟨by rw [ea]; exact x7.1, x7.2⟩, fun i hi => by rw [ej 91 (by omega)]; exact x8 i hi, fun i hi => by rw [ej 93 (by omega)]; exact x9 i hi, fun i hi => by rw [ej 107 (by omega)]; exact x10 i hi, fun c => ?_⟩
    rw [f140] at c
    exact px c
  generalize hw2 : wl (wi w1 140 ((o : Nat) : Int)) 139 x = w2 at *
  have xw2 : XMr q w w2 := by rw [← hw2]; exact XMr.tr (XMr.sz f1) XMr.hand
  have e139 : w2.2.1 139 = x := by rw [← hw2]; rfl
  have hu2 : A w2 89 q = ((U : Nat) : Int) := pl2.1.1.2.1
  refine pp_bb (pp_mo (pp_pr (pp_pl (want_pd (N := N) (c := a + s) (c' := a + wq + zc) pt1 cx1 cw2 pl2 rz ⟨by omega, by omega⟩ (by omega) hN) (pk_ok (want_ok (N := N) (x := ((a + s : Nat) : Int)) pt1 cx1 ⟨by omega, by omega⟩ (by omega)))) (pk_ok (wants_ok (N := N) (k := a + wq + zc) cw2 hu2 (by omega) (by omega)))) (fun m3 r3 w3 r3' hw => ?_))
  obtain ⟨⟨⟨b2, U2, pl3, hr, xm, xr, -, ⟨owr, kdr, cx3⟩, o1, o2⟩, -, U3, ow3, kd3, pt3, -, -, -, sW⟩, n9, ow9, kd9, fd, R, ⟨r1, -, -, -, -, r6, -, -, -, -, r11, -⟩, -⟩ := hw
  have eU : U3 = U2 := by
    have h1 := pt3.1.1
    have h2 := pl3.1.1.1
    omega
  subst eU
  have xm3 : XMm q m m3 := XMm.tr (FR.mo fm (by simp) (by simp) (by simp) (by simp)) (XMm.want xm)
  have xr3 : XMr q w w3 := XMr.tr xw2 (XMr.want xr)
  have xr4 : XMr q w (wl (wi w3 140 (-1)) 139 (mk 6 0)) := XMr.tr xr3 XMr.hand
  rcases hr with ⟨rfl, rfl⟩ | ⟨rfl, rfl, hU⟩
  · 
    rw [show decide ((0 : Int32) = 0) = true from rfl, br_tq, br_tq, handN_e, bnd_so]
    unfold hm_Wl_endsBy hb_Wl_endsBy_0
    have h9 : F m3 (pq q 9) ≠ 3 := by
      rw [FR.F xm3 (by simp; exact ⟨pq_inj (by omega), pq_inj (by omega), pq_inj (by omega)⟩)]
      exact hal
    have h955 : F m3 955 = ((e : Nat) : Int) := by
      rw [FR.F xm3 (by simp; unfold pq; omega)]
      exact he.1
    have h109 : A (wl (wi w3 140 (-1)) 139 (mk 6 0)) 109 q ≠ 3 := by
      rw [FR.A xr4.1 (by simp)]
      exact hal'
    have h150 : F (wl (wi w3 140 (-1)) 139 (mk 6 0)) 150 = ((e' : Nat) : Int) := by
      rw [FR.F xr4.1 (by simp)]
      exact he'.1
    rw [show (1 : Int32) = I 1 from rfl, show (20 : Int32) = I 20 from rfl, e_make, bnd_so, endsW_e (e := e) h9 h955 he.2, bnd_so, bnd_so, term_e, bnd_so, lit0q, willE_e (e := e') (by omega) h109 h150 he'.2 hq, bnd_so]
    exact pp_end (Or.inr (Or.inl ⟨m3, _, xm3, xr4, pl3.1.2.2, rfl, rfl⟩))
  · 
    rw [show decide ((1 : Int32) = 0) = false from rfl, br_fq, br_fq, handN_e, bnd_so]
    have pl4 : PLs b2 q m3 (wl (wi w3 140 (-1)) 139 (mk 6 0)) U3 B W Y := PLs_h pl3
    have key : ∃ t', (∀ D : Option (MS × Unit), PP (fun m2 (_ : Unit) w2 (_ : Unit) => MPs q B W Y e e' m w m2 w2) (hb_Wl_post_81 N () m3 q (I ((a : Nat) : Int)) (I v3) (I v4) src t') D → PP (fun m2 (_ : Unit) w2 (_ : Unit) => MPs q B W Y e e' m w m2 w2) (br (decide (src = some q)) (bnd (hm_Fr_below N m3 q 0) (fun u43 r43 => hb_Wl_post_81 N () u43 q (I ((a : Nat) : Int)) (I v3) (I v4) src r43)) (hb_Wl_post_81 N () m3 q (I ((a : Nat) : Int)) (I v3) (I v4) src t)) D) ∧ SRs Fv P Fv' P' m3 (wl (wi w3 140 (-1)) 139 (mk 6 0)) q U3 src t' wr o (w3.2.1 139) s := by
      rcases hs with ⟨hs1, hs2⟩ | hs
      · refine ⟨t, fun D k => by rw [decide_eq_false hs1, br_fq]; exact k, ?_⟩
        have ex : w3.2.1 139 = x := by
          by_cases c : o = q
          · rcases hs2 with hs2 | hs2
            · subst hs2
              have nx : ¬ isH x := by
                obtain ⟨-, sr⟩ := sr
                rcases sr with ⟨-, -, y1, y2, -⟩ | ⟨j, bS, n, ow, kd, f, n', ow', kd', f', e, -⟩
                · rw [y2]; exact y1
                · cases e
              have := (r11 (by rw [f140, c])).1
              rw [this, e139, r1.1 x nx]
            · exact absurd c hs2
          · rw [o2 (by rw [f140]; omega), e139]
        rw [ex]
        rcases hs2 with hs2 | hs2
        · subst hs2
          exact SRs_no sr
        · refine SRs_st sr (fun j ej => ?_) (fun _ i hi => xr4.2.2.1 _ (by omega)) (fun c => absurd c hs2) (fun c => ?_)
          · have jq : j ≠ q := fun c => hs1 (by rw [ej, c])
            exact xm3.2.2.2 _ (by
              have ni : ∀ k, k < 100 → pq j 2 ≠ pq q k := fun k hk c => jq (pq_e (by omega) hk c).1
              simp only [List.mem_cons, List.not_mem_nil, or_false]
              intro c
              rcases c with c | c | c | c | c | c
              · exact ni 2 (by omega) c
              · exact ni 3 (by omega) c
              · exact ni 33 (by omega) c
              · exact ni 35 (by omega) c
              · exact ni 6 (by omega) c
              · unfold pq at c; omega)
          · rcases c with c | c
            · exact absurd c hs1
            · exact absurd c hs2
      · have hs0 := hs
        obtain ⟨rfl, rfl, rfl, y1, y2, y3, ⟨f, y4⟩, y5⟩ := hs
        have eW : F m3 (pq o 26) = ((W : Nat) : Int) := pl3.2.2.1.1
        have hb : hm_Fr_below N m3 o 0 = some (m3, m3.2.2.2 (pq o 35) (W - 1)) := by
          obtain ⟨l2, d1, d2, d3⟩ := pt3.2.2.2.2.2.1
          have := below_e (N := N) (u := m3) (q := o) (k := 0) (x := 0) eW d1 (by omega) (by omega) rfl (by omega)
          rw [Nat.sub_zero] at this
          exact this
        refine ⟨m3.2.2.2 (pq o 35) (W - 1), fun D k => by rw [decide_eq_true rfl, br_tq, hb, bnd_so]; exact k, ?_⟩
        have rt : RTb b2 (m3.2.2.2 (pq o 35) (W - 1)) (w3.2.1 139) := o1 f140 (pq o 35) (W - 1) (Or.inr (Or.inl ⟨rfl, by omega⟩)) (by rw [e139, j1 35 (by omega), ← y2]; exact y3)
        refine OWs_sr (b := b2) (U := U3) (W := W) (ow := ow3) (kd := kd3) (ow' := owr) (kd' := kdr) ⟨rfl, rfl, rfl, y1, rfl, rt, ⟨f, ?_⟩, ?_⟩ pl4 pt3.1.2.2 cx3.2.1 hq
        · have := (sW (W - 1) (by omega)).2.2 f s (by rw [j1 2 (by omega), j1 35 (by omega), ← y2]; exact y4)
          exact this
        · exact cx3.2.2.2.2.2.2.2.2.2.2 (by rw [FR.F r6 (by simp)]; exact f140)
    obtain ⟨t', k1, sr4⟩ := key
    refine k1 _ ?_
    have mo : ∀ m2 (z : Unit) w2 (z' : Unit), PSTs q (U3 + a + s) B W Y m3 (wl (wi w3 140 (-1)) 139 (mk 6 0)) m2 w2 → MPs q B W Y e e' m w m2 w2 := fun m2 _ w2 _ h => Or.inr (Or.inr ⟨hY, U3 + a + s, h.1, XMm.tr xm3 h.2.1, XMr.tr xr4 h.2.2⟩)
    have u4 : A (wl (wi w3 140 (-1)) 139 (mk 6 0)) 89 q = ((U3 : Nat) : Int) := pl4.1.1.2.1
    rcases hz with ⟨rfl, rfl⟩ | ⟨rfl, rfl⟩ | ⟨rfl, rfl⟩
    · rw [show decide ((2 : Int32) ≤ I ((2 : Nat) : Int)) = true from rfl, br_tq]
      exact pp_mo (tail_pp (Or.inl ⟨rfl, rfl⟩) pl4 hY hq cx.1 pt3.1.2.2 sr4 (by omega) (by omega)) mo
    · rw [show decide ((2 : Int32) ≤ I ((0 : Nat) : Int)) = false from rfl, br_fq]
      refine r_ck (fun _ => ?_)
      rw [tnI (n := q) rfl (by omega), I_A' u4, lt_e, show decide (I ((0 : Nat) : Int) = 0) = true from rfl, br_tq]
      exact pp_mo (tail_pp (Or.inr (Or.inl ⟨rfl, rfl⟩)) pl4 hY hq cx.1 pt3.1.2.2 sr4 (by omega) (by omega)) mo
    · rw [show decide ((2 : Int32) ≤ I ((1 : Nat) : Int)) = false from rfl, br_fq]
      refine r_ck (fun _ => ?_)
      rw [tnI (n := q) rfl (by omega), I_A' u4, lt_e, show decide (I ((1 : Nat) : Int) = 0) = false from rfl, br_fq]
      exact pp_mo (tail_pp (Or.inr (Or.inr ⟨rfl, rfl⟩)) pl4 hY hq cx.1 pt3.1.2.2 sr4 (by omega) (by omega)) mo
theorem post_dead {v2 : Int32} {v3 v4 : Int32} (h : F m (pq q 9) = 3) : hm_Wl_post N m q v2 v3 v4 t src = some (m, ()) := by
  unfold hm_Wl_post hb_Wl_post_0 hb_Wl_post_17
  rw [I_F' h]
  rfl
theorem message_dead {v2 v3 v4 v5 v6 : Int32} (hq : q < 24) (h : A w 109 q = 3) : fm_M_message N w (I q) v2 v3 v4 v5 v6 x = some (w, ()) := by
  unfold fm_M_message fb_M_message_0 fb_M_message_21
  rw [inb_at (k := 109) (n := 24) rfl (by omega) (by omega) (by decide), ck_t, tnI (n := q) rfl (by omega), I_A' h]
  rfl
theorem post_pp (hz : (a = 0 ∧ sort = 2) ∨ (a = 4 ∧ sort = 0) ∨ (a = 5 ∧ sort = 1)) (hq : q < 24) (hal : F m (pq q 9) ≠ 3) (hal' : A w 109 q ≠ 3) (pl : PLs b q m w U B W Y) (pt : PTQ m q U ow kd Fv P B W Y) (cx : CTX Fv P m) (cw : CX w q (hp w q) U ow' kd' Fv' P' W B Y) (hs : (SRs Fv P Fv' P' m w q U src t wr o x s ∧ src ≠ some q ∧ (src = none ∨ o ≠ q)) ∨ OWs b Fv P P' m q U W ow kd ow' kd' src t wr o x s) (he : F m 955 = ((e : Nat) : Int) ∧ e < 24) (he' : F w 150 = ((e' : Nat) : Int) ∧ e' < 4000) (hN : 2200000 ≤ N) :
    PP (fun m2 (_ : Unit) w2 (_ : Unit) => MPs q B W Y e e' m w m2 w2) (hm_Wl_post N m q (I ((a : Nat) : Int)) (I v3) (I v4) t src) (fm_M_message N w (I q) (I ((sort : Nat) : Int)) (I v4) (I v3) (I wr) (I o) x) := by
  have sr : SRs Fv P Fv' P' m w q U src t wr o x s := by
    rcases hs with hs | hs
    · exact hs.1
    · exact OWs_sr hs pl pt.1.2.2 cw.2.1 hq
  have hs' : (src ≠ some q ∧ (src = none ∨ o ≠ q)) ∨ OWs b Fv P P' m q U W ow kd ow' kd' src t wr o x s := by
    rcases hs with hs | hs
    · exact Or.inl hs.2
    · exact Or.inr hs
  have p7 : F m (pq q 7) = ((Y : Nat) : Int) := pl.2.2.2.1
  have p8 : A w 108 q = ((Y : Nat) : Int) := pl.2.2.2.2.1
  have hY := (PTQ_b pt).2.2.2
  have n9 : ¬ m.1 (pq q 9) = 3 := fun z => hal (by show (m.1 (pq q 9)).toInt = 3; rw [z]; rfl)
  have n9' : ¬ w.2.2.1 109 q = 3 := fun z => hal' (by show (w.2.2.1 109 q).toInt = 3; rw [z]; rfl)
  have rgw : wr = 0 ∨ wr = 1 ∨ wr = 2 := by
    obtain ⟨z, n', owx, kdx, fx, g1, g2, g3, g4, g5⟩ := SRs_z sr
    omega
  unfold hm_Wl_post hb_Wl_post_0 hb_Wl_post_17 fm_M_message fb_M_message_0 fb_M_message_21
  rw [decide_eq_false n9, br_fq]
  refine r_ck (fun _ => ?_)
  rw [tnI (n := q) rfl (by omega), decide_eq_false n9', br_fq]
  refine r_ck (fun _ => ?_)
  rw [I_F' p7, I_A' p8, show (30 : Int32) = I 30 from rfl, decL (by omega) (by omega) (by omega) (by omega), decE (by omega) (by omega) (by omega) (by omega)]
  by_cases c : Y < 30
  · rw [decide_eq_true (p := ((Y : Nat) : Int) < 30) (by omega), br_tq, decide_eq_false (p := ((Y : Nat) : Int) = 30) (by omega), br_fq]
    have core : ∀ m1 : MS, FR [] [] [] [45] m m1 → PP (fun m2 (_ : Unit) w2 (_ : Unit) => MPs q B W Y e e' m w m2 w2) (hb_Wl_post_41 N () m1 q (I ((a : Nat) : Int)) (I v3) (I v4) t src (I ((s : Nat) : Int))) (br (decide (I ((sort : Nat) : Int) = 0)) (fb_M_message_40 N () w (I q) (I ((sort : Nat) : Int)) (I v4) (I v3) (I wr) (I o) x 4) (br (decide (I ((sort : Nat) : Int) = 1)) (fb_M_message_40 N () w (I q) (I ((sort : Nat) : Int)) (I v4) (I v3) (I wr) (I o) x 5) (fb_M_message_40 N () w (I q) (I ((sort : Nat) : Int)) (I v4) (I v3) (I wr) (I o) x 0))) := fun m1 fm => by
      have c50 := p50_pp (N := N) (v3 := v3) (v4 := v4) hz hq hal hal' pl c pt cx cw sr hs' he he' hN fm
      have e40 : ∀ z : Int32, fb_M_message_40 N () w (I q) (I ((sort : Nat) : Int)) (I v4) (I v3) (I wr) (I o) x z = fb_M_message_50 N () w (I q) (I ((sort : Nat) : Int)) (I v4) (I v3) (I wr) (I o) x z (I (if wr ≤ 0 then 0 else 3)) := fun z => by
        unfold fb_M_message_40
        rw [lit0q, decI (by omega) (by omega) (by omega) (by omega)]
        by_cases y : wr ≤ 0
        · rw [decide_eq_true y, br_tq, if_pos y]
        · rw [decide_eq_false y, br_fq, if_neg y]
          rfl
      rw [e40, e40, e40]
      rcases hz with ⟨rfl, rfl⟩ | ⟨rfl, rfl⟩ | ⟨rfl, rfl⟩
      · exact c50
      · exact c50
      · exact c50
    cases src with
    | none =>
      have es : s = 0 := by
        obtain ⟨-, sr⟩ := sr
        rcases sr with ⟨-, -, -, -, -, -, y⟩ | ⟨j, bS, n, ow, kd, f, n', ow', kd', f', e, -⟩
        · exact y
        · cases e
      subst es
      exact core m FR.rf
    | some j =>
      obtain ⟨f0, n, owj, kdj, g1, g2, g3, hs9⟩ : ∃ f0 n owj kdj, HPc (m.2.2.2 (pq j 2)) n owj kdj Fv P ∧ n ≤ 512 ∧ SZc (m.2.2.2 (pq j 2)) n owj kdj Fv P f0 t s ∧ s ≤ 1012 := by
        obtain ⟨-, sr⟩ := sr
        rcases sr with ⟨y, -⟩ | ⟨j', bS, n, ow, kd, f, n', ow', kd', f', e, ⟨g1, g2, g3⟩, ⟨g4, g5, g6⟩, g7, g8, g9⟩
        · cases y
        · injection e with e
          subst e
          have := SZ_max g1 g8
          exact ⟨f, n, ow, kd, g1, g2, g8, by omega⟩
      show PP _ (bnd (hm_Te_size N m (pq j 2) t) (fun u53 r53 => hb_Wl_post_41 N () u53 q (I ((a : Nat) : Int)) (I v3) (I v4) t (some j) r53)) _
      refine l_bnd (pk_mo (pk_ok (size_ok (N := N) (b := pq j 2) (by unfold pq; omega) rfl g2 cx.1.1 (by omega) g3 (by omega))) (fun m1 r1 h1 => ?_))
      obtain ⟨f1, rfl⟩ := h1
      exact core m1 f1
  · rw [decide_eq_false (by omega), br_fq, decide_eq_true (by omega), br_tq]
    exact pp_end (Or.inl ⟨by omega, rfl, rfl⟩)
end
end
section
set_option maxRecDepth 100000
def PRr (k : Nat) : Prop := k = 8 ∨ k = 18 ∨ k = 19 ∨ (23 ≤ k ∧ k ≤ 31) ∨ (33 ≤ k ∧ k ≤ 45) ∨ (47 ≤ k ∧ k ≤ 57)
def OWi (q K i : Nat) : Prop := ((K = 92 ∨ K = 94 ∨ K = 95 ∨ K = 106 ∨ K = 109 ∨ K = 110 ∨ K = 112 ∨ K = 113 ∨ K = 114 ∨ K = 115 ∨ K = 117 ∨ K = 170) ∧ i = q) ∨ ((96 ≤ K ∧ K ≤ 101) ∧ 60 * q ≤ i ∧ i < 60 * q + 60) ∨ ((102 ≤ K ∧ K ≤ 105) ∧ 1600 * q ≤ i ∧ i < 1600 * q + 1600) ∨ (K = 116 ∧ 24 * q ≤ i ∧ i < 24 * q + 24)
def PG0 (m w m2 w2 : MS) : Prop := (m2.2.2.1 23 = m.2.2.1 23 ∧ m2.1 22 = m.1 22 ∧ ATc m2 = ATc m) ∧ (∀ K, PRr K → w2.2.2.1 K = w.2.2.1 K) ∧ w2.2.2.2 34 = w.2.2.2 34 ∧ w2.2.2.1 12 = w.2.2.1 12 ∧ w2.2.2.1 13 = w.2.2.1 13 ∧ w2.1 14 = w.1 14
def PGs (m w m2 w2 : MS) : Prop := PG0 m w m2 w2 ∧ (∀ k, 1100 ≤ k → k < 1120 → m2.1 k = m.1 k ∧ m2.2.1 k = m.2.1 k) ∧ ∀ k, k = 133 ∨ (151 ≤ k ∧ k ≤ 165) → w2.1 k = w.1 k
def EQm (q : Nat) (m m2 : MS) : Prop := (∀ k, k < 100 → k ∉ [4, 5, 7] → m2.1 (pq q k) = m.1 (pq q k)) ∧ (∀ k, k < 100 → k ≠ 16 → m2.2.1 (pq q k) = m.2.1 (pq q k)) ∧ (∀ k, k < 100 → m2.2.2.1 (pq q k) = m.2.2.1 (pq q k)) ∧ m2.2.2.1 23 = m.2.2.1 23
def EQn (q : Nat) (m m2 : MS) : Prop := (∀ k, k < 100 → k ∉ [4, 5, 7, 12, 15] → m2.1 (pq q k) = m.1 (pq q k)) ∧ (∀ k, k < 100 → k ≠ 16 → m2.2.1 (pq q k) = m.2.1 (pq q k)) ∧ (∀ k, k < 100 → k ≠ 14 → m2.2.2.1 (pq q k) = m.2.2.1 (pq q k)) ∧ m2.2.2.1 23 = m.2.2.1 23
def EQv (q : Nat) (w w2 : MS) : Prop := (∀ K i, OWi q K i → K ≠ 116 → K ≠ 117 ∧ K ≠ 113 → w2.2.2.1 K i = w.2.2.1 K i) ∧ w2.2.2.2 111 q = w.2.2.2 111 q ∧ (∀ K, PRr K → w2.2.2.1 K = w.2.2.1 K) ∧ w2.2.2.2 34 = w.2.2.2 34
def EQw (q : Nat) (w w2 : MS) : Prop := (∀ K i, OWi q K i → w2.2.2.1 K i = w.2.2.1 K i) ∧ w2.2.2.2 111 q = w.2.2.2 111 q ∧ (∀ K, PRr K → w2.2.2.1 K = w.2.2.1 K) ∧ w2.2.2.2 34 = w.2.2.2 34
section
variable {m w m2 w2 m3 w3 : MS} {q f j r U B W Y : Nat} {nb : Nat → Nat} {Hs Os : Nat → List Nat} {b : Int → Nat → Nat → Prop}
theorem EQm.tr (h1 : EQm q m m2) (h2 : EQm q m2 m3) : EQm q m m3 := ⟨fun k a c => (h2.1 k a c).trans (h1.1 k a c), fun k a c => (h2.2.1 k a c).trans (h1.2.1 k a c), fun k a => (h2.2.2.1 k a).trans (h1.2.2.1 k a), h2.2.2.2.trans h1.2.2.2⟩
theorem EQw.tr (h1 : EQw q w w2) (h2 : EQw q w2 w3) : EQw q w w3 := ⟨fun K i a => (h2.1 K i a).trans (h1.1 K i a), h2.2.1.trans h1.2.1, fun K a => (h2.2.2.1 K a).trans (h1.2.2.1 K a), h2.2.2.2.trans h1.2.2.2⟩
theorem EQm.rf : EQm q m m := ⟨fun _ _ _ => rfl, fun _ _ _ => rfl, fun _ _ => rfl, rfl⟩
theorem EQw.rf : EQw q w w := ⟨fun _ _ _ => rfl, rfl, fun _ _ => rfl, rfl⟩
theorem ROs_eq (h : ∀ K, PRr K → w2.2.2.1 K = w.2.2.1 K) : ROs w2 = ROs w := by
  funext k i
  unfold ROs
  by_cases c : k = 8 ∨ k = 18 ∨ k = 19 ∨ (23 ≤ k ∧ k ≤ 31) ∨ (33 ≤ k ∧ k ≤ 45) ∨ (47 ≤ k ∧ k ≤ 57)
  · rw [if_pos c, if_pos c]
    show (w2.2.2.1 k i).toInt = (w.2.2.1 k i).toInt
    rw [h k c]
  · rw [if_neg c, if_neg c]
theorem FA_w (s : FAs m w q j nb Hs Os) (h1a : ∀ k, k = 21 ∨ k = 24 → m2.1 (pq q k) = m.1 (pq q k)) (h1c : ∀ k, k = 30 ∨ k = 32 → m2.2.2.1 (pq q k) = m.2.2.1 (pq q k)) (h1d : m2.2.2.1 23 = m.2.2.1 23) (h2q : w2.2.2.1 95 q = w.2.2.1 95 q) (h2f : ∀ K r, 96 ≤ K → K ≤ 101 → r ≤ j → (K = 98 → r < j) → w2.2.2.1 K (60 * q + r) = w.2.2.1 K (60 * q + r)) (h2c : ∀ K, PRr K → w2.2.2.1 K = w.2.2.1 K) (h2d : w2.2.2.2 34 = w.2.2.2 34) : FAs m2 w2 q j nb Hs Os := by
  obtain ⟨⟨f1, f2, f3⟩, f4, f5, f6⟩ := s
  have hF : ∀ k, k = 21 ∨ k = 24 → F m2 (pq q k) = F m (pq q k) := fun k c => congrArg Int32.toInt (h1a k c)
  have hR : ∀ k, k = 30 ∨ k = 32 → A m2 (pq q k) = A m (pq q k) := fun k c => by funext i; show (m2.2.2.1 (pq q k) i).toInt = _; rw [h1c k c]; rfl
  have h23 : A m2 23 = A m 23 := by funext i; show (m2.2.2.1 23 i).toInt = _; rw [h1d]; rfl
  have hP : ∀ K, PRr K → A w2 K = A w K := fun K a => by funext i; show (w2.2.2.1 K i).toInt = _; rw [h2c K a]; rfl
  have hRO := ROs_eq h2c
  refine ⟨⟨?_, ?_, f3⟩, ?_, ?_, ?_⟩
  · rw [hF 21 (by omega)]; exact f1
  · show (w2.2.2.1 95 q).toInt = _; rw [h2q]; exact f2
  · intro r hr
    obtain ⟨g1, g2, ⟨g3, g4⟩, g5, g6, g7⟩ := f4 r hr
    have ar : ∀ K, K = 96 ∨ K = 97 ∨ K = 99 ∨ K = 100 ∨ K = 101 → A w2 K (60 * q + r) = A w K (60 * q + r) := fun K c => congrArg Int32.toInt (h2f K r (by omega) (by omega) hr (by omega))
    refine ⟨by rw [hR 30 (by omega), ar 96 (by omega)]; exact g1, ?_, ⟨by rw [hR 30 (by omega)]; exact g3, by rw [ar 99 (by omega)]; exact g4⟩, by rw [hR 30 (by omega), ar 100 (by omega)]; exact g5, by rw [ar 101 (by omega)]; exact g6, fun i x hx => by rw [hR 32 (by omega)]; exact g7 i x hx⟩
    rw [hR 30 (by omega), ar 97 (by omega)]
    rcases g2 with g2 | ⟨k, t, k1, k2, k3⟩
    · exact Or.inl g2
    · exact Or.inr ⟨k, t, k1, by rw [hP 44 (by unfold PRr; omega)]; exact k2, by rw [hP 8 (by unfold PRr; omega)]; exact k3⟩
  · intro r hr
    obtain ⟨g1, a, n, g2, g3, g4⟩ := f5 r hr
    exact ⟨g1, a, n, by rw [hR 30 (by omega)]; exact g2, by show (w2.2.2.1 98 (60 * q + r)).toInt = _; rw [h2f 98 r (by omega) (by omega) (by omega) (fun _ => hr)]; exact g3, by rw [h23, hRO, h2d]; exact g4⟩
  · rw [hF 24 (by omega)]; exact f6
theorem CT_w (s : CTs m w q j nb Hs Os) (h1a : m2.1 (pq q 28) = m.1 (pq q 28)) (h1c : m2.2.2.1 (pq q 37) = m.2.2.1 (pq q 37)) (h1d : m2.2.2.1 23 = m.2.2.1 23) (h2q : w2.2.2.1 106 q = w.2.2.1 106 q) (h2k : ∀ K c, 102 ≤ K → K ≤ 105 → c < 1600 → w2.2.2.1 K (1600 * q + c) = w.2.2.1 K (1600 * q + c)) (h2c : ∀ K, PRr K → w2.2.2.1 K = w.2.2.1 K) (h2d : w2.2.2.2 34 = w.2.2.2 34) : CTs m2 w2 q j nb Hs Os := by
  obtain ⟨n, c1, c2, c3, c5, c4⟩ := s
  have hR : A m2 (pq q 37) = A m (pq q 37) := by funext i; show (m2.2.2.1 (pq q 37) i).toInt = _; rw [h1c]; rfl
  have h23 : A m2 23 = A m 23 := by funext i; show (m2.2.2.1 23 i).toInt = _; rw [h1d]; rfl
  have hP : ∀ K, PRr K → A w2 K = A w K := fun K a => by funext i; show (w2.2.2.1 K i).toInt = _; rw [h2c K a]; rfl
  have hRO := ROs_eq h2c
  refine ⟨n, ?_, ?_, c3, ?_, ?_⟩
  · show (m2.1 (pq q 28)).toInt = _; rw [h1a]; exact c1
  · show (w2.2.2.1 106 q).toInt = _; rw [h2q]; exact c2
  · intro c hc
    have e : ∀ K c, 102 ≤ K → K ≤ 105 → c < 1600 → A w2 K (1600 * q + c) = A w K (1600 * q + c) := fun K c a1 a2 a3 => congrArg Int32.toInt (h2k K c a1 a2 a3)
    rw [e 102 c (by omega) (by omega) (by omega), e 102 (c + 1) (by omega) (by omega) (by omega), e 105 c (by omega) (by omega) (by omega), e 105 (c + 1) (by omega) (by omega) (by omega)]
    exact c5 c hc
  · intro c hc
    obtain ⟨r, k, a, nd, nn, k1, k2, k3, k4, k5, k6, k7, k8, k9, k10, k11⟩ := c4 c hc
    have ar : ∀ K, 102 ≤ K → K ≤ 105 → A w2 K (1600 * q + c) = A w K (1600 * q + c) := fun K c1 c2 => congrArg Int32.toInt (h2k K c c1 c2 (by omega))
    refine ⟨r, k, a, nd, nn, k1, ?_, ?_, ?_, ?_, k6, ?_, ?_, ?_, ?_, ?_⟩
    · rw [hR]; exact k2
    · rw [ar 102 (by omega) (by omega)]; exact k3
    · rw [hR]; exact k4
    · rw [ar 105 (by omega) (by omega)]; exact k5
    · rw [hR, ar 104 (by omega) (by omega)]; exact k7
    · rw [hR]; exact k8
    · rw [ar 103 (by omega) (by omega)]; exact k9
    · rw [hP 25 (by unfold PRr; omega)]; exact k10
    · rw [h23, hRO, h2d]; exact k11
theorem FC_w (s : FAs m w q j nb Hs Os ∧ CTs m w q j nb Hs Os) (h1a : ∀ k, k = 21 ∨ k = 24 ∨ k = 28 → m2.1 (pq q k) = m.1 (pq q k)) (h1c : ∀ k, k = 30 ∨ k = 32 ∨ k = 37 → m2.2.2.1 (pq q k) = m.2.2.1 (pq q k)) (h1d : m2.2.2.1 23 = m.2.2.1 23) (h2q : ∀ K, K = 95 ∨ K = 106 → w2.2.2.1 K q = w.2.2.1 K q) (h2f : ∀ K r, 96 ≤ K → K ≤ 101 → r ≤ j → (K = 98 → r < j) → w2.2.2.1 K (60 * q + r) = w.2.2.1 K (60 * q + r)) (h2k : ∀ K c, 102 ≤ K → K ≤ 105 → c < 1600 → w2.2.2.1 K (1600 * q + c) = w.2.2.1 K (1600 * q + c)) (h2c : ∀ K, PRr K → w2.2.2.1 K = w.2.2.1 K) (h2d : w2.2.2.2 34 = w.2.2.2 34) : FAs m2 w2 q j nb Hs Os ∧ CTs m2 w2 q j nb Hs Os := ⟨FA_w s.1 (fun k c => h1a k (by omega)) (fun k c => h1c k (by omega)) h1d (h2q 95 (by omega)) h2f h2c h2d, CT_w s.2 (h1a 28 (by omega)) (h1c 37 (by omega)) h1d (h2q 106 (by omega)) h2k h2c h2d⟩
theorem FC_eq (s : FAs m w q j nb Hs Os ∧ CTs m w q j nb Hs Os) (h1 : EQn q m m2) (h2 : EQv q w w2) : FAs m2 w2 q j nb Hs Os ∧ CTs m2 w2 q j nb Hs Os := by
  have hj : j < 60 := s.1.1.2.2
  exact FC_w s (fun k c => h1.1 k (by omega) (by simp; omega)) (fun k c => h1.2.2.1 k (by omega) (by omega)) h1.2.2.2 (fun K c => h2.1 K q (Or.inl ⟨by omega, rfl⟩) (by omega) (by omega)) (fun K r c1 c2 c3 _ => h2.1 K _ (Or.inr (Or.inl ⟨⟨c1, c2⟩, by omega, by omega⟩)) (by omega) (by omega)) (fun K c c1 c2 c3 => h2.1 K _ (Or.inr (Or.inr (Or.inl ⟨⟨c1, c2⟩, by omega, by omega⟩))) (by omega) (by omega)) h2.2.2.1 h2.2.2.2
theorem ST_eq (hj : j < 60) {H O : List Nat} (s : STs9 m w q j H O) (h1 : EQn q m m2) (h2 : EQv q w w2) : STs9 m2 w2 q j H O := by
  obtain ⟨a0, d1, d2⟩ := s
  obtain ⟨h1a, h1b, h1c, h1d⟩ := h1
  obtain ⟨h2a, h2b, h2c, h2d⟩ := h2
  have hF : ∀ k, k < 100 → k ∉ [4, 5, 7, 12, 15] → F m2 (pq q k) = F m (pq q k) := fun k a c => congrArg Int32.toInt (h1a k a c)
  have hR : ∀ k, k < 100 → k ≠ 14 → A m2 (pq q k) = A m (pq q k) := fun k a c => by funext i; show (m2.2.2.1 (pq q k) i).toInt = _; rw [h1c k a c]; rfl
  have h23 : A m2 23 = A m 23 := by funext i; show (m2.2.2.1 23 i).toInt = _; rw [h1d]; rfl
  have hA : ∀ K i, OWi q K i → K ≠ 116 → K ≠ 117 ∧ K ≠ 113 → A w2 K i = A w K i := fun K i a c d => congrArg Int32.toInt (h2a K i a c d)
  have hP : ∀ K, PRr K → A w2 K = A w K := fun K a => by funext i; show (w2.2.2.1 K i).toInt = _; rw [h2c K a]; rfl
  have hRO := ROs_eq h2c
  have oq : ∀ K, (K = 92 ∨ K = 94 ∨ K = 95 ∨ K = 106 ∨ K = 109 ∨ K = 110 ∨ K = 112 ∨ K = 113 ∨ K = 114 ∨ K = 115 ∨ K = 117 ∨ K = 170) → OWi q K q := fun K c => Or.inl ⟨c, rfl⟩
  have of : ∀ K r, 96 ≤ K → K ≤ 101 → r < 60 → OWi q K (60 * q + r) := fun K r c1 c2 c3 => Or.inr (Or.inl ⟨⟨c1, c2⟩, by omega, by omega⟩)
  have oc : ∀ K c, 102 ≤ K → K ≤ 105 → c < 1600 → OWi q K (1600 * q + c) := fun K r c1 c2 c3 => Or.inr (Or.inr (Or.inl ⟨⟨c1, c2⟩, by omega, by omega⟩))
  refine ⟨a0, ?_, ?_⟩
  · rw [hR 30 (by omega) (by omega)]; exact d1
  · have a98 : A w2 98 (60 * q + j) = A w 98 (60 * q + j) := hA 98 _ (of 98 j (by omega) (by omega) hj) (by omega) (by omega)
    have a109 : A w2 109 q = A w 109 q := hA 109 q (oq _ (by omega)) (by omega) (by omega)
    rcases d2 with ⟨g1, g2, n, g3, g4⟩ | ⟨g1, g2, g3, g4, c, g5, g6⟩ | ⟨g1, g2, g3, g4, g5, n, g6, g7, g8, g9⟩
    · exact Or.inl ⟨by rw [hF 9 (by omega) (by simp)]; exact g1, by rw [a109]; exact g2, n, by rw [a98]; exact g3, by rw [h23, hRO, h2d]; exact g4⟩
    · have a96 : A w2 96 (60 * q) = A w 96 (60 * q) := hA 96 _ (of 96 0 (by omega) (by omega) (by omega)) (by omega) (by omega)
      refine Or.inr (Or.inl ⟨by rw [hF 9 (by omega) (by simp)]; exact g1, by rw [a109]; exact g2, g3, g4, c, ?_, ?_⟩)
      · rw [a96, hP 50 (by unfold PRr; omega), hA 170 q (oq _ (by omega)) (by omega) (by omega), hP 53 (by unfold PRr; omega)]
        exact g5
      · rw [h23, hRO, h2d]
        exact g6
    · have e8 : F m2 (pq q 8) = A w2 110 q := by rw [hF 8 (by omega) (by simp), hA 110 q (oq _ (by omega)) (by omega) (by omega)]; exact g4
      refine Or.inr (Or.inr ⟨by rw [hF 9 (by omega) (by simp)]; exact g1, by rw [a109]; exact g2, Or.inr e8, e8, by rw [h1b 10 (by omega) (by omega), h2b]; exact g5, n, by rw [a98]; exact g6, by rw [hP 23 (by unfold PRr; omega)]; exact g7, by rw [hP 27 (by unfold PRr; omega)]; exact g8, ?_⟩)
      rw [h23, hRO, h2d]
      exact g9
theorem SC_eq (s : SCs q m w) (hb : F m (pq q 15) ≤ 24) (h1 : EQm q m m2) (h2 : EQw q w w2) : SCs q m2 w2 := by
  obtain ⟨s1, s2, s3, s4, s5, s6⟩ := s
  have oq : ∀ K, (K = 92 ∨ K = 94 ∨ K = 95 ∨ K = 106 ∨ K = 109 ∨ K = 110 ∨ K = 112 ∨ K = 113 ∨ K = 114 ∨ K = 115 ∨ K = 117 ∨ K = 170) → OWi q K q := fun K c => Or.inl ⟨c, rfl⟩
  refine ⟨?_, ?_, ?_, ?_, ?_, ?_⟩
  · rw [h1.1 12 (by omega) (by simp), h2.1 113 q (oq _ (by omega))]; exact s1
  · rw [h1.1 13 (by omega) (by simp), h2.1 114 q (oq _ (by omega))]; exact s2
  · rw [h1.1 11 (by omega) (by simp), h2.1 112 q (oq _ (by omega))]; exact s3
  · rw [h1.1 15 (by omega) (by simp), h2.1 117 q (oq _ (by omega))]; exact s4
  · rw [h1.1 29 (by omega) (by simp), h2.1 115 q (oq _ (by omega))]; exact s5
  · intro i hi
    have e15 : F m2 (pq q 15) = F m (pq q 15) := congrArg Int32.toInt (h1.1 15 (by omega) (by simp))
    rw [e15] at hi
    rw [h1.2.2.1 14 (by omega), h2.1 116 (24 * q + i) (Or.inr (Or.inr (Or.inr ⟨rfl, by omega, by omega⟩)))]
    exact s6 i hi
theorem EQm.n (h1 : EQm q m m2) : EQn q m m2 := ⟨fun k a c => h1.1 k a (by simp at c ⊢; omega), h1.2.1, fun k a _ => h1.2.2.1 k a, h1.2.2.2⟩
theorem EQw.v (h2 : EQw q w w2) : EQv q w w2 := ⟨fun K i a _ _ => h2.1 K i a, h2.2⟩
theorem EQm.xm (h : XMm q m m2) (r : Nat) : EQm r m m2 := by
  refine ⟨fun k hk hn => h.1 _ ?_, fun k _ _ => h.2.1 _ (by simp), fun k _ => h.2.2.1 _ (by simp), h.2.2.1 23 (by simp)⟩
  simp only [List.mem_cons, List.not_mem_nil, or_false] at hn ⊢
  intro c
  rcases c with c | c | c
  · exact hn (Or.inl (pq_e hk (by omega) c).2)
  · exact hn (Or.inr (Or.inl (pq_e hk (by omega) c).2))
  · exact hn (Or.inr (Or.inr (pq_e hk (by omega) c).2))
theorem EQw.fr {is ls as js : List Nat} (h : FR is ls as js w w2) (h1 : ∀ k, k ∈ as → k < 200 → ¬ PRr k ∧ k ∉ [92, 94, 95, 96, 97, 98, 99, 100, 101, 102, 103, 104, 105, 106, 109, 110, 112, 113, 114, 115, 116, 117, 170]) (h2 : 111 ∉ js ∧ 34 ∉ js) (r : Nat) : EQw r w w2 := by
  have g : ∀ K, K < 200 → (PRr K ∨ K ∈ [92, 94, 95, 96, 97, 98, 99, 100, 101, 102, 103, 104, 105, 106, 109, 110, 112, 113, 114, 115, 116, 117, 170]) → w2.2.2.1 K = w.2.2.1 K := fun K hK c => h.2.2.1 K (fun z => by
    obtain ⟨n1, n2⟩ := h1 K z hK
    rcases c with c | c
    · exact n1 c
    · exact n2 c)
  refine ⟨fun K i c => ?_, by rw [h.2.2.2 111 h2.1], fun K c => g K (by unfold PRr at c; omega) (Or.inl c), h.2.2.2 34 h2.2⟩
  have hK : K ∈ [92, 94, 95, 96, 97, 98, 99, 100, 101, 102, 103, 104, 105, 106, 109, 110, 112, 113, 114, 115, 116, 117, 170] := by
    simp only [List.mem_cons, List.not_mem_nil, or_false]
    rcases c with ⟨c, -⟩ | ⟨c, -⟩ | ⟨c, -⟩ | ⟨c, -⟩ <;> omega
  rw [g K (by simp only [List.mem_cons, List.not_mem_nil, or_false] at hK; omega) (Or.inr hK)]
theorem EQw.xm (h : XMr q w w2) (r : Nat) : EQw r w w2 := EQw.fr h.1 (fun k hk _ => by
  simp only [List.mem_cons, List.not_mem_nil, or_false] at hk ⊢
  unfold PRr
  omega) (by simp) r
theorem PLs_xm (p : PLs b r m w U B W Y) (hr : r ≠ q) (hb : W ≤ 46000 ∧ B ≤ 2500 ∧ Y ≤ 30) (f : XMm q m m2) (g : XMr q w w2) : PLs b r m2 w2 U B W Y := by
  obtain ⟨g1, g2, g3, g4, g5, g6⟩ := g
  have u5 := p.1.1.2.2
  have ni : ∀ k l, k < 100 → l < 100 → pq r k ≠ pq q l := fun k l hk hl z => hr (pq_e hk hl z).1
  have jm : ∀ k, k < 100 → m2.2.2.2 (pq r k) = m.2.2.2 (pq r k) := fun k hk => f.2.2.2 _ (by
    simp only [List.mem_cons, List.not_mem_nil, or_false]
    intro z
    rcases z with z | z | z | z | z | z
    · exact ni k 2 hk (by omega) z
    · exact ni k 3 hk (by omega) z
    · exact ni k 33 hk (by omega) z
    · exact ni k 35 hk (by omega) z
    · exact ni k 6 hk (by omega) z
    · unfold pq at z; omega)
  have ai : ∀ {x y : Int32}, x.toInt = y.toInt → x = y := fun h => Int32.toInt_inj.mp h
  refine PLs_cg p (fun k hk => f.1 _ (by
    have hk2 : k < 100 := by simp at hk; omega
    simp only [List.mem_cons, List.not_mem_nil, or_false]
    intro z
    rcases z with z | z | z
    · exact ni k 4 hk2 (by omega) z
    · exact ni k 5 hk2 (by omega) z
    · exact ni k 7 hk2 (by omega) z)) (fun i _ => by rw [jm 2 (by omega)]) (fun i _ => by rw [jm 33 (by omega)]) (fun i _ => by rw [jm 35 (by omega)]) (fun i _ => by rw [jm 6 (by omega)]) (fun k hk => ?_) (fun i hi => g3 _ (by omega)) (fun i hi => g5 _ (by omega)) (fun i hi => g4 _ (by omega)) (fun i hi => g6 _ (by omega))
  have := g2 r hr
  simp only [List.mem_cons, List.not_mem_nil, or_false] at hk
  rcases hk with rfl | rfl | rfl | rfl | rfl
  · exact ai this.1
  · exact this.2.1
  · rw [g1.2.2.1 92 (by simp)]
  · rw [g1.2.2.1 94 (by simp)]
  · exact ai this.2.2
end
end
section
set_option maxRecDepth 100000
def LSm (m : MS) (p : Nat) (L : List Int) : Prop := F m (pq p 15) = ((L.length : Nat) : Int) ∧ L.length ≤ 24 ∧ ∀ i x, L[i]? = some x → A m (pq p 14) i = x
def LSw (w : MS) (p : Nat) (L : List Int) : Prop := A w 117 p = ((L.length : Nat) : Int) ∧ L.length ≤ 24 ∧ ∀ i x, L[i]? = some x → A w 116 (24 * p + i) = x
def LFw (p : Nat) (w0 w : MS) : Prop := FR [] [] [116, 117] [] w0 w ∧ (∀ i, i ≠ p → A w 117 i = A w0 117 i) ∧ ∀ i, ¬ (24 * p ≤ i ∧ i < 24 * p + 24) → A w 116 i = A w0 116 i
section
variable {N p : Nat} {m w w0 m2 w2 : MS} {L L1 L2 : List Int} {x : Int}
theorem mid_get {α : Type} {L1 L2 : List α} {y : α} : (L1 ++ y :: L2)[L1.length]? = some y := by simp
theorem flt_mid (h1 : x ∉ L1) (h2 : x ∉ L2) : (L1 ++ x :: L2).filter (fun y => decide (y ≠ x)) = L1 ++ L2 := by
  have g : ∀ L : List Int, x ∉ L → L.filter (fun y => decide (y ≠ x)) = L := fun L h => List.filter_eq_self.mpr (fun a ha => decide_eq_true (fun e => h (e ▸ ha)))
  rw [List.filter_append, List.filter_cons, g L1 h1, g L2 h2]
  simp
theorem flt_no (h1 : x ∉ L) : L.filter (fun y => decide (y ≠ x)) = L := List.filter_eq_self.mpr (fun a ha => decide_eq_true (fun e => h1 (e ▸ ha)))
theorem seek_l (s : LSm m p L) (hx : RG x) : ∀ (M : Nat) (L1 L2 : List Int), L = L1 ++ L2 → x ∉ L1 → PK (fun m2 r => m2 = m ∧ ((r = I (-1) ∧ x ∉ L) ∨ ∃ L1 L2, L = L1 ++ x :: L2 ∧ x ∉ L1 ∧ r = I ((L1.length : Nat) : Int))) (hg_Pr_seekLink N M m p (I x) (I ((L1.length : Nat) : Int))) := by
  intro M
  induction M with
  | zero => intro L1 L2 _ _; exact pk_none
  | succ M ih =>
    intro L1 L2 e h
    show PK _ (hb_Pr_seekLink_2 N (hg_Pr_seekLink N M) m p (I x) (I ((L1.length : Nat) : Int)))
    unfold hb_Pr_seekLink_2
    obtain ⟨s1, s2, s3⟩ := s
    have hl : L.length = L1.length + L2.length := by rw [e, List.length_append]
    rw [I_F' s1]
    refine p_le ⟨by omega, by omega⟩ ⟨by omega, by omega⟩ (fun c => ?_) (fun c => ?_)
    · have e2 : L2 = [] := List.length_eq_zero_iff.mp (by omega)
      rw [e2, List.append_nil] at e
      exact pk_some ⟨rfl, Or.inl ⟨rfl, by rw [e]; exact h⟩⟩
    · cases L2 with
      | nil => exact absurd (by rw [hl]; simp) c
      | cons y L3 =>
        refine pk_ck (fun _ => ?_)
        rw [tnI (n := L1.length) rfl (by omega), I_A' (s3 L1.length y (by rw [e]; exact mid_get))]
        have ry : RG y := by rw [← s3 L1.length y (by rw [e]; exact mid_get)]; exact A_r _ _ _
        refine p_eq ry hx (fun c2 => ?_) (fun c2 => ?_)
        · subst c2
          exact pk_some ⟨rfl, Or.inr ⟨L1, L3, e, h, rfl⟩⟩
        · have := ih (L1 ++ [y]) L3 (by rw [e]; simp) (by simp; exact ⟨h, fun z => c2 z.symm⟩)
          rw [show (L1 ++ [y]).length = L1.length + 1 by simp] at this
          rw [show I ((L1.length : Nat) : Int) + 1 = I ((L1.length + 1 : Nat) : Int) from addN]
          exact this
theorem rml_m (s : LSm m p L) (hx : RG x) : PK (fun m2 (_ : Unit) => (LSm m2 p (L.filter (fun y => decide (y ≠ x))) ∨ ¬ L.Nodup) ∧ FR [pq p 15] [] [pq p 14] [] m m2) (hm_Pr_removeLink N m p (I x)) := by
  have s0 := s
  obtain ⟨s1, s2, s3⟩ := s
  unfold hm_Pr_removeLink hb_Pr_removeLink_0 hb_Pr_removeLink_44
  refine pk_bnd (pk_mo (seek_l (N := N) s0 hx N [] L rfl (by simp)) (fun m1 r h => ?_))
  obtain ⟨rfl, h | ⟨L1, L2, e, h1, rfl⟩⟩ := h
  · obtain ⟨rfl, h⟩ := h
    rw [show decide (I (-1) = -1) = true from rfl, br_tq]
    exact pk_some ⟨Or.inl (by rw [flt_no h]; exact s0), FR.rf⟩
  · have hl : L.length = L1.length + (L2.length + 1) := by rw [e, List.length_append]; rfl
    rw [litm1q, decE (by omega) (by omega) (by omega) (by omega), decide_eq_false (by omega), br_fq]
    refine pk_ck (fun _ => pk_ltq (pk_ltq (pk_some ⟨?_, ?_⟩)))
    · by_cases nd : x ∈ L2
      · refine Or.inr (fun c => ?_)
        rw [e] at c
        have := (List.nodup_append.mp c).2.1
        exact (List.nodup_cons.mp this).1 nd
      · refine Or.inl ?_
        rw [e, flt_mid h1 nd]
        rw [I_F' s1]
        have e1 : (I ((L1.length : Nat) : Int) + 1).toNatClampNeg = L1.length + 1 := by rw [show I ((L1.length : Nat) : Int) + 1 = I ((L1.length + 1 : Nat) : Int) from addN]; exact tnI rfl (by omega)
        have e2 : (I ((L1.length : Nat) : Int)).toNatClampNeg = L1.length := tnI rfl (by omega)
        have e3 : (I ((L.length : Nat) : Int) - I ((L1.length : Nat) : Int) - 1).toNatClampNeg = L2.length := by
          rw [lit1q, I_sub, I_sub]
          exact tnI (by omega) (by omega)
        rw [e1, e2, e3]
        refine ⟨?_, by rw [List.length_append]; omega, fun i y hy => ?_⟩
        · show ((upI (upA m1 (pq p 14) _) (pq p 15) (m1.1 (pq p 15) - 1) : MS).1 (pq p 15)).toInt = _
          show (if pq p 15 = pq p 15 then m1.1 (pq p 15) - 1 else _).toInt = _
          rw [if_pos rfl, I_F' s1, lit1q, I_sub, I_ti (by omega) (by omega), List.length_append]
          omega
        · show ((if pq p 14 = pq p 14 then va_cpy (m1.2.2.1 (pq p 14)) (m1.2.2.1 (pq p 14)) (L1.length + 1) L1.length L2.length else _) i).toInt = _
          rw [if_pos rfl]
          unfold va_cpy
          by_cases c : i < L1.length
          · rw [if_neg (by omega)]
            exact s3 i y (by rw [e, List.getElem?_append_left c]; rw [List.getElem?_append_left c] at hy; exact hy)
          · rw [List.getElem?_append_right (by omega)] at hy
            have hi : i - L1.length < L2.length := by
              apply Classical.byContradiction
              intro z
              rw [List.getElem?_eq_none (by omega)] at hy
              cases hy
            rw [if_pos ⟨by omega, by omega⟩]
            refine s3 (L1.length + 1 + (i - L1.length)) y ?_
            rw [e, List.getElem?_append_right (by omega), show L1.length + 1 + (i - L1.length) - L1.length = (i - L1.length) + 1 by omega, List.getElem?_cons_succ]
            exact hy
    · exact ⟨fun k hk => if_neg (fun c => hk (by simp [c])), fun k _ => rfl, fun k hk => if_neg (fun c => hk (by simp [c])), fun k _ => rfl⟩
theorem rml_lp (hp1 : p < 24) (hx : RG x) (s : LSw w0 p L) : ∀ (M : Nat) (L1 L2 : List Int) (w : MS), L = L1 ++ L2 → LFw p w0 w → A w 117 p = ((L.length : Nat) : Int) → (∀ i y, (L1.filter (fun y => decide (y ≠ x)))[i]? = some y → A w 116 (24 * p + i) = y) → (∀ i y, L2[i]? = some y → A w 116 (24 * p + (L1.length + i)) = y) → PK (fun w2 (_ : Unit) => LSw w2 p (L.filter (fun y => decide (y ≠ x))) ∧ LFw p w0 w2) (gg_M_removeLink N M w (I ((p : Nat) : Int)) (I x) (I (((L1.filter (fun y => decide (y ≠ x))).length : Nat) : Int)) (I ((L1.length : Nat) : Int))) := by
  intro M
  induction M with
  | zero => intro L1 L2 w _ _ _ _ _; exact pk_none
  | succ M ih =>
    intro L1 L2 w e f h1 h2 h3
    show PK _ (fb_M_removeLink_5 N (gg_M_removeLink N M) w (I ((p : Nat) : Int)) (I x) (I (((L1.filter (fun y => decide (y ≠ x))).length : Nat) : Int)) (I ((L1.length : Nat) : Int)))
    unfold fb_M_removeLink_5 fb_M_removeLink_58
    have hl : L.length = L1.length + L2.length := by rw [e, List.length_append]
    have h24 := s.2.1
    have fl : (L1.filter (fun y => decide (y ≠ x))).length ≤ L1.length := List.length_filter_le _ _
    refine pk_ck (fun _ => ?_)
    rw [tnI (n := p) rfl (by omega), I_A' h1]
    refine p_le ⟨by omega, by omega⟩ ⟨by omega, by omega⟩ (fun c => ?_) (fun c => ?_)
    · have e2 : L2 = [] := List.length_eq_zero_iff.mp (by omega)
      rw [e2, List.append_nil] at e
      subst e
      refine pk_ck (fun _ => pk_ltq ?_)
      rw [wa_e]
      refine pk_some ⟨⟨?_, by omega, fun i y hy => ?_⟩, FR.wa f.1 (by simp), fun i hi => ?_, fun i hi => ?_⟩
      · rw [A_wa (by omega) (by omega), if_pos rfl, if_pos rfl]
      · rw [A_wa (by omega) (by omega), if_neg (by omega)]
        exact h2 i y hy
      · rw [A_wa (by omega) (by omega), if_pos rfl, if_neg hi]
        exact f.2.1 i hi
      · rw [A_wa (by omega) (by omega), if_neg (by omega)]
        exact f.2.2 i hi
    · cases L2 with
      | nil => exact absurd (by rw [hl]; simp) c
      | cons y L3 =>
        have hl3 : L.length = L1.length + (L3.length + 1) := by rw [hl]; rfl
        have ix : I 24 * I ((p : Nat) : Int) + I ((L1.length : Nat) : Int) = I ((24 * p + L1.length : Nat) : Int) := by
          rw [I_mul, I_add]
          congr 1
        have ax : A w 116 (24 * p + L1.length) = y := h3 0 y rfl
        have ry : RG y := by rw [← ax]; exact A_r _ _ _
        refine pk_ck (fun _ => ?_)
        rw [show (24 : Int32) = I 24 from rfl, ix, tnI (n := 24 * p + L1.length) rfl (by omega), I_A' ax, show I ((L1.length : Nat) : Int) + 1 = I ((L1.length + 1 : Nat) : Int) from addN]
        have lx : (L1 ++ [y]).length = L1.length + 1 := by simp
        refine p_eq ry hx (fun c2 => ?_) (fun c2 => ?_)
        · subst c2
          have g := ih (L1 ++ [y]) L3 w (by rw [e]; simp) f h1 (fun i z hz => h2 i z (by simpa using hz)) (fun i z hz => by rw [lx, show L1.length + 1 + i = L1.length + (i + 1) by omega]; exact h3 (i + 1) z hz)
          have fe : (L1 ++ [y]).filter (fun z => decide (z ≠ y)) = L1.filter (fun z => decide (z ≠ y)) := by simp
          rw [fe, lx] at g
          exact g
        · refine pk_ck (fun _ => pk_ck (fun _ => pk_ltq ?_))
          have iy : I 24 * I ((p : Nat) : Int) + I (((L1.filter (fun y => decide (y ≠ x))).length : Nat) : Int) = I ((24 * p + (L1.filter (fun y => decide (y ≠ x))).length : Nat) : Int) := by
            rw [I_mul, I_add]
            congr 1
          rw [iy, tnI (n := 24 * p + (L1.filter (fun y => decide (y ≠ x))).length) rfl (by omega), wa_e, show I (((L1.filter (fun y => decide (y ≠ x))).length : Nat) : Int) + 1 = I (((L1.filter (fun y => decide (y ≠ x))).length + 1 : Nat) : Int) from addN]
          have fe : (L1 ++ [y]).filter (fun z => decide (z ≠ x)) = L1.filter (fun z => decide (z ≠ x)) ++ [y] := by
            rw [List.filter_append]
            congr 1
            simp [c2]
          have g := ih (L1 ++ [y]) L3 (wa w 116 (24 * p + (L1.filter (fun y => decide (y ≠ x))).length) y) (by rw [e]; simp) ⟨FR.wa f.1 (by simp), fun i hi => by rw [A_wa ry.1 ry.2, if_neg (by omega)]; exact f.2.1 i hi, fun i hi => by rw [A_wa ry.1 ry.2, if_pos rfl, if_neg (by omega)]; exact f.2.2 i hi⟩ (by rw [A_wa ry.1 ry.2, if_neg (by omega)]; exact h1) (fun i z hz => by
            rw [fe] at hz
            rw [A_wa ry.1 ry.2, if_pos rfl]
            by_cases ci : i < (L1.filter (fun y => decide (y ≠ x))).length
            · rw [if_neg (by omega)]
              rw [List.getElem?_append_left ci] at hz
              exact h2 i z hz
            · rw [List.getElem?_append_right (by omega)] at hz
              by_cases ce : i = (L1.filter (fun y => decide (y ≠ x))).length
              · rw [if_pos (by omega)]
                rw [ce, Nat.sub_self] at hz
                simpa using hz
              · rw [List.getElem?_eq_none (by show 1 ≤ _; omega)] at hz
                cases hz) (fun i z hz => by
            rw [lx, A_wa ry.1 ry.2, if_pos rfl, if_neg (by omega), show L1.length + 1 + i = L1.length + (i + 1) by omega]
            exact h3 (i + 1) z hz)
          rw [fe, lx, show (L1.filter (fun z => decide (z ≠ x)) ++ [y]).length = (L1.filter (fun z => decide (z ≠ x))).length + 1 by simp] at g
          exact g
theorem rml_w (hp1 : p < 24) (hx : RG x) (s : LSw w p L) : PK (fun w2 (_ : Unit) => LSw w2 p (L.filter (fun y => decide (y ≠ x))) ∧ LFw p w w2) (fm_M_removeLink N w (I ((p : Nat) : Int)) (I x)) := by
  unfold fm_M_removeLink fb_M_removeLink_0
  exact rml_lp (N := N) hp1 hx s N [] L w rfl ⟨FR.rf, fun _ _ => rfl, fun _ _ => rfl⟩ s.1 (fun i y hy => by simp at hy) (fun i y hy => by rw [show ([] : List Int).length + i = i by simp]; exact s.2.2 i y hy)
theorem LS_of {q : Nat} (s : SCs q m w) (hb : 0 ≤ F m (pq q 15) ∧ F m (pq q 15) ≤ 24) : ∃ L, LSm m q L ∧ LSw w q L := by
  obtain ⟨-, -, -, s4, -, s6⟩ := s
  have e4 : A w 117 q = F m (pq q 15) := congrArg Int32.toInt s4.symm
  refine ⟨(List.range (F m (pq q 15)).toNat).map (fun i => A m (pq q 14) i), ⟨by simp; omega, by simp; omega, fun i x hx => ?_⟩, by simp; omega, by simp; omega, fun i x hx => ?_⟩
  · rw [List.getElem?_map] at hx
    cases g : (List.range (F m (pq q 15)).toNat)[i]? with
    | none => rw [g] at hx; cases hx
    | some k =>
      rw [g] at hx
      have : k = i := by
        have := List.getElem?_eq_some_iff.mp g
        obtain ⟨h1, h2⟩ := this
        simpa using h2.symm
      subst this
      injection hx
  · rw [List.getElem?_map] at hx
    cases g : (List.range (F m (pq q 15)).toNat)[i]? with
    | none => rw [g] at hx; cases hx
    | some k =>
      rw [g] at hx
      obtain ⟨h1, h2⟩ := List.getElem?_eq_some_iff.mp g
      have ki : k = i := by simpa using h2.symm
      subst ki
      injection hx with hx
      rw [← hx]
      have := s6 k (by simp at h1; omega)
      exact congrArg Int32.toInt this.symm
theorem SC_of {q : Nat} (l1 : LSm m q L) (l2 : LSw w q L) (h1 : m.1 (pq q 12) = w.2.2.1 113 q) (h2 : m.1 (pq q 13) = w.2.2.1 114 q) (h3 : m.1 (pq q 11) = w.2.2.1 112 q) (h5 : m.1 (pq q 29) = w.2.2.1 115 q) : SCs q m w := by
  obtain ⟨a1, a2, a3⟩ := l1
  obtain ⟨c1, c2, c3⟩ := l2
  refine ⟨h1, h2, h3, Int32.toInt_inj.mp (a1.trans c1.symm), h5, fun i hi => ?_⟩
  rw [a1] at hi
  have hi2 : i < L.length := by omega
  have g : L[i]? = some L[i] := List.getElem?_eq_getElem hi2
  exact Int32.toInt_inj.mp ((a3 i _ g).trans (c3 i _ g).symm)
end
end
