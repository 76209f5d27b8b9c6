/-! the text of a term is written: here -/
set_option maxRecDepth 100000
/-- the signs L have been written -/
def OUr (m0 m : MS) (L : List Int32) : Prop := FR [144] [] [143] [141] m0 m ∧ F m 144 = ((L.length : Nat) : Int) ∧ ∀ i, i < min L.length 100 → m.2.2.1 143 i = byS8 (L.getD i 0)
/-- the text of what lies on the pile -/
noncomputable def PNr (h : Nat → Int64) (A : Nat → List Int32) (e : Nat → Int64) : Nat → List Int32
  | 0 => []
  | i + 1 => (if so (e i) = 21 then RSs h A (h (vn (e i) + 1)) else TXs h A (e i)) ++ PNr h A e i
def STr (h : Nat → Int64) (R : Int64 → Prop) (e : Nat → Int64) : Nat → Nat → Prop
  | 0, _ => True
  | i + 1, w => ∃ w2, STr h R e i w2 ∧ ((so (e i) = 21 ∧ 0 ≤ va (e i) ∧ va (e i) ≤ 1000 ∧ ∃ k z, SZp h R k (h (vn (e i) + 1)) z ∧ z ≤ 1000 ∧ w2 + 3 + 2 * z ≤ w) ∨ (so (e i) ≠ 21 ∧ ∃ k z, SZp h R k (e i) z ∧ z ≤ 1000 ∧ w2 + 1 + 2 * z ≤ w))
/-- a leaf -/
def LFr (n : Int) (t : Int64) : Prop := (so t = 0 ∨ so t = 1 ∨ so t = 2 ∨ so t = 4 ∨ so t = 6 ∨ so t = 20) ∧ (so t = 1 → 0 ≤ va t ∧ va t < n)
def ATr (m : MS) (a : Nat) : List Int32 := atT (m.2.2.1 12) (fun i => (A m 13 i).toNat) a
section
variable {h e e' : Nat → Int64} {R : Int64 → Prop} {B : Nat → List Int32} {N top w p k z : Nat} {m0 m m2 : MS} {L M : List Int32} {v : Int32} {t x : Int64}
theorem STr_ext : ∀ {i w : Nat}, (∀ q, q < i → e' q = e q) → STr h R e i w → STr h R e' i w
  | 0, _, _, _ => trivial
  | i + 1, w, g, y => by
    obtain ⟨w2, y1, y2⟩ := y
    refine ⟨w2, STr_ext (fun q hq => g q (by omega)) y1, ?_⟩
    rw [g i (by omega)]
    exact y2
theorem PNr_ext : ∀ {i : Nat}, (∀ q, q < i → e' q = e q) → PNr h B e' i = PNr h B e i
  | 0, _ => rfl
  | i + 1, g => by
    show (if so (e' i) = 21 then RSs h B (h (vn (e' i) + 1)) else TXs h B (e' i)) ++ PNr h B e' i = (if so (e i) = 21 then RSs h B (h (vn (e i) + 1)) else TXs h B (e i)) ++ PNr h B e i
    rw [g i (by omega), PNr_ext (i := i) (fun q hq => g q (by omega))]
theorem STr_le : ∀ {i w : Nat}, STr h R e i w → i ≤ w
  | 0, _, _ => Nat.zero_le _
  | i + 1, w, y => by
    obtain ⟨w2, y1, y2⟩ := y
    have := STr_le y1
    rcases y2 with ⟨-, -, -, k, z, -, -, c⟩ | ⟨-, k, z, -, -, c⟩
    · omega
    · omega
theorem STr_mo {w2 : Nat} (hw : w ≤ w2) : ∀ {i : Nat}, STr h R e i w → STr h R e i w2
  | 0, _ => trivial
  | i + 1, y => by
    obtain ⟨w3, y1, y2⟩ := y
    refine ⟨w3, y1, ?_⟩
    rcases y2 with ⟨a, b, c, k, z, d, f, g⟩ | ⟨a, k, z, c, d, f⟩
    · exact Or.inl ⟨a, b, c, k, z, d, f, by omega⟩
    · exact Or.inr ⟨a, k, z, c, d, by omega⟩
theorem PNr_top (hn : so (e top) ≠ 21) : PNr h B e (top + 1) = TXs h B (e top) ++ PNr h B e top := by
  show (if so (e top) = 21 then _ else _) ++ _ = _
  rw [if_neg hn]
theorem PNr_rest (hn : so (e top) = 21) : PNr h B e (top + 1) = RSs h B (h (vn (e top) + 1)) ++ PNr h B e top := by
  show (if so (e top) = 21 then _ else _) ++ _ = _
  rw [if_pos hn]
theorem TXs_sig2 {c : Int} (hc : RG c) : TXs h B (mk 20 c) = [I c] := by
  have e1 : so (mk 20 c) = 20 := so_mk (by decide) (by decide)
  rw [TXs_al (by rw [e1]; decide) (by rw [e1]; decide)]
  unfold alT
  rw [e1, va_mk hc.1 hc.2]
  rfl
theorem SZp_so2 (y : SZp h R k t z) (hR : ∀ t, R t → so t ≠ 21) : so t ≠ 21 := by
  cases k with
  | zero => exact y.elim
  | succ k =>
    rcases y with ⟨-, y5, -⟩ | ⟨y1, -⟩
    · exact hR t y5
    · intro q
      unfold isH at y1
      omega
theorem OUr_wj (o : OUr m0 m L) : OUr m0 (wj m 141 top t) L := ⟨FR.wj o.1 (by simp), o.2.1, o.2.2⟩
theorem rov_lt : ∀ q, q < top → (wj m 141 top t).2.2.2 141 q = m.2.2.2 141 q := fun q hq => by rw [wj_row, if_neg (by omega)]
theorem rov_at : (wj m 141 top t).2.2.2 141 top = t := by rw [wj_row, if_pos rfl]
/-- one more, a term or a sign -/
theorem putt_r (s : STr h R (m.2.2.2 141) top w) (y : SZp h R k t z) (hz : z ≤ 1000) (h21 : so t ≠ 21) : STr h R ((wj m 141 top t).2.2.2 141) (top + 1) (w + 1 + 2 * z) ∧ PNr h B ((wj m 141 top t).2.2.2 141) (top + 1) = TXs h B t ++ PNr h B (m.2.2.2 141) top := by
  refine ⟨⟨w, STr_ext rov_lt s, Or.inr ⟨by rw [rov_at]; exact h21, k, z, by rw [rov_at]; exact y, hz, Nat.le_refl _⟩⟩, ?_⟩
  rw [PNr_top (by rw [rov_at]; exact h21), rov_at, PNr_ext rov_lt]
/-- the mark of a rest -/
theorem putr_r {q : Nat} (s : STr h R (m.2.2.2 141) top w) (hq : q ≤ 1000) (y : SZp h R k (h (q + 1)) z) (hz : z ≤ 1000) : STr h R ((wj m 141 top (mk 21 ((q : Nat) : Int))).2.2.2 141) (top + 1) (w + 3 + 2 * z) ∧ PNr h B ((wj m 141 top (mk 21 ((q : Nat) : Int))).2.2.2 141) (top + 1) = RSs h B (h (q + 1)) ++ PNr h B (m.2.2.2 141) top := by
  have e1 : so (mk 21 ((q : Nat) : Int)) = 21 := so_mk (by decide) (by decide)
  have e2 : va (mk 21 ((q : Nat) : Int)) = ((q : Nat) : Int) := va_mk (by omega) (by omega)
  have e3 : vn (mk 21 ((q : Nat) : Int)) = q := by unfold vn; rw [e2]; omega
  refine ⟨⟨w, STr_ext rov_lt s, Or.inl ⟨by rw [rov_at]; exact e1, by rw [rov_at, e2]; omega, by rw [rov_at, e2]; omega, k, z, by rw [rov_at, e3]; exact y, hz, Nat.le_refl _⟩⟩, ?_⟩
  rw [PNr_rest (by rw [rov_at]; exact e1), rov_at, e3, PNr_ext rov_lt]
theorem sign_r (hl : L.length < 100000) (o : OUr m0 m L) : PK (fun m2 _ => OUr m0 m2 (L ++ [v]) ∧ m2.2.2.2 = m.2.2.2) (fm_M_sign N m v) := by
  obtain ⟨f, o1, o2⟩ := o
  have hl2 : (L ++ [v]).length = L.length + 1 := by simp
  unfold fm_M_sign fb_M_sign_0 fb_M_sign_20
  rw [I_F (k := 144), o1, show (100 : Int32) = I 100 from rfl]
  refine p_le ⟨by decide, by decide⟩ ⟨by omega, by omega⟩ (fun a => pk_lt ?_) (fun a => pk_ck (fun _ => pk_lt ?_))
  · have a : (100 : Int) ≤ ((L.length : Nat) : Int) := a
    rw [lit1, I_add, show ((L.length : Nat) : Int) + 1 = ((L.length + 1 : Nat) : Int) by omega, wi_e]
    refine pk_some ⟨⟨FR.wi f (by simp), ?_, fun i hi => ?_⟩, rfl⟩
    · rw [F_wi (by omega) (by omega), if_pos rfl, hl2]
    · rw [hl2] at hi
      rw [getD_app1 (by omega)]
      exact o2 i (by omega)
  · have a : ¬ (100 : Int) ≤ ((L.length : Nat) : Int) := a
    rw [tnI (n := L.length) rfl (by omega)]
    generalize hw : upA m 143 (upd (m.2.2.1 143) L.length (vp_nar .byte (v.toInt8.toInt32))) = w0
    have e66 : w0.1 144 = I ((L.length : Nat) : Int) := by rw [← hw]; show m.1 144 = _; rw [I_F, o1]
    have row : ∀ i, w0.2.2.1 143 i = if i = L.length then byS8 v else m.2.2.1 143 i := fun i => by
      rw [← hw]
      show (if (143 : Nat) = 143 then upd (m.2.2.1 143) L.length (vp_nar .byte (v.toInt8.toInt32)) else m.2.2.1 143) i = _
      rw [if_pos rfl]
      rfl
    have fw : FR [144] [] [143] [141] m0 w0 := by rw [← hw]; exact FR_upA f (by simp)
    have ew : w0.2.2.2 = m.2.2.2 := by rw [← hw]; rfl
    show PK _ (lt _ _)
    refine pk_lt ?_
    rw [e66, lit1, I_add, show ((L.length : Nat) : Int) + 1 = ((L.length + 1 : Nat) : Int) by omega]
    refine pk_some ⟨⟨?_, ?_, fun i hi => ?_⟩, ew⟩
    · rw [wi_e]; exact FR.wi fw (by simp)
    · rw [wi_e, F_wi (by omega) (by omega), if_pos rfl, hl2]
    · rw [hl2] at hi
      show w0.2.2.1 143 i = _
      rw [row]
      by_cases e : i = L.length
      · rw [if_pos e, e, getD_app2]
      · rw [if_neg e, getD_app1 (by omega)]
        exact o2 i (by omega)
theorem dgT_len {y : Int64} : ∀ {f : Nat} {u : Int64}, (dgT y f u).length ≤ f
  | 0, _ => Nat.le_refl _
  | f + 1, u => by
    show (if u.toInt ≤ 0 then [] else ((48 + ((y / u) - (y / u) / 10 * 10)).toInt32) :: dgT y f (u / 10)).length ≤ f + 1
    by_cases e : u.toInt ≤ 0
    · rw [if_pos e]; exact Nat.zero_le _
    · rw [if_neg e, List.length_cons]
      have := dgT_len (y := y) (f := f) (u := u / 10)
      omega
theorem dig_r {y : Int64} : ∀ (g f : Nat) (u : Int64) (m : MS) (L : List Int32), L.length + f < 100000 → 0 ≤ u.toInt → u.toInt < 2 ^ f → OUr m0 m L → PK (fun m2 _ => OUr m0 m2 (L ++ dgT y f u) ∧ m2.2.2.2 = m.2.2.2) ((gg_M_digits N g).2 m y u) := by
  intro g
  induction g with
  | zero => intro f u m L _ _ _ _; exact pk_none
  | succ g ih =>
    intro f u m L hl h0 hf o
    show PK _ (fb_M_digits_48 N (gg_M_digits N g) m y u)
    unfold fb_M_digits_48
    refine pk_br (fun z => pk_some ?_) (fun z => ?_)
    · have z := (lgc_le0 u).mp (of_decide_eq_true z)
      have e : dgT y f u = [] := by
        cases f with
        | zero => rfl
        | succ f => exact if_pos z
      rw [e, List.append_nil]
      exact ⟨o, rfl⟩
    · have z : ¬ u.toInt ≤ 0 := fun q => of_decide_eq_false z ((lgc_le0 u).mpr q)
      cases f with
      | zero => exact absurd hf (by omega)
      | succ f =>
        refine pk_ck (fun _ => pk_ck (fun _ => pk_bnd (pk_mo (sign_r (by omega) o) (fun m2 r q => pk_ck (fun _ => ?_)))))
        have e : dgT y (f + 1) u = ((48 + ((y / u) - (y / u) / 10 * 10)).toInt32) :: dgT y f (u / 10) := if_neg z
        have d := div10n h0
        refine pk_mo (ih f (u / 10) m2 _ (by rw [List.length_append, List.length_singleton]; omega) (by omega) (by rw [d]; rw [Int.pow_succ] at hf; omega) q.1) (fun m3 _ q3 => ⟨?_, q3.2.trans q.2⟩)
        rw [e]
        rw [List.append_assoc] at q3
        exact q3.1
/-- the unit first -/
theorem uni_r {y : Int64} (hy : 0 ≤ y.toInt ∧ y.toInt ≤ 2147483648) : ∀ (g f : Nat) (u : Int64) (m : MS), L.length < 90000 → 1 ≤ u.toInt ∧ u.toInt ≤ 2147483648 → y.toInt < u.toInt * 2 ^ f → OUr m0 m L → PK (fun m2 _ => OUr m0 m2 (L ++ ((if 0 ≤ v then [] else [45]) ++ dgT y 40 (unT y f u))) ∧ m2.2.2.2 = m.2.2.2) ((gg_M_digits N g).1 m v y u) := by
  intro g
  induction g with
  | zero => intro f u m _ _ _ _; exact pk_none
  | succ g ih =>
    intro f u m hl h0 hf o
    show PK _ (fb_M_digits_16 N (gg_M_digits N g) m v y u)
    unfold fb_M_digits_16
    have m10 := mul10 (y := u) (by omega) (by omega)
    refine pk_br (fun z => ?_) (fun z => ?_)
    · have z := (lgc_gt _ _).mp (of_decide_eq_true z)
      rw [m10] at z
      have e : unT y f u = u := by
        cases f with
        | zero => rfl
        | succ f => exact if_pos z
      rw [e]
      refine pk_br (fun c => ?_) (fun c => ?_)
      · rw [if_pos (of_decide_eq_true c)]
        exact dig_r g 40 u m L (by omega) (by omega) (by omega) o
      · rw [if_neg (of_decide_eq_false c)]
        refine pk_bnd (pk_mo (sign_r (by omega) o) (fun m2 r q => ?_))
        refine pk_mo (dig_r g 40 u m2 _ (by rw [List.length_append, List.length_singleton]; omega) (by omega) (by omega) q.1) (fun m3 _ q3 => ⟨?_, q3.2.trans q.2⟩)
        rw [List.append_assoc] at q3
        exact q3.1
    · have z : ¬ y.toInt < (u * 10).toInt := fun q => of_decide_eq_false z ((lgc_gt _ _).mpr q)
      rw [m10] at z
      cases f with
      | zero => exact absurd hf (by omega)
      | succ f =>
        have e : unT y (f + 1) u = unT y f (u * 10) := if_neg z
        rw [e]
        refine ih f (u * 10) m hl (by omega) ?_ o
        rw [m10]
        rw [Int.pow_succ] at hf
        have : u.toInt * (2 ^ f * 2) = u.toInt * 2 ^ f * 2 := by rw [Int.mul_assoc]
        have p0 : (0 : Int) ≤ u.toInt * 2 ^ f := Int.mul_nonneg (by omega) (Int.le_of_lt (Int.pow_pos (by decide)))
        have : u.toInt * 10 * 2 ^ f = u.toInt * 2 ^ f * 10 := by rw [Int.mul_assoc, Int.mul_comm 10, ← Int.mul_assoc]
        omega
theorem num_r (hl : L.length < 90000) (o : OUr m0 m L) : PK (fun m2 _ => OUr m0 m2 (L ++ numT v) ∧ m2.2.2.2 = m.2.2.2) (fm_M_digits N m v) := by
  have hr := ti_rng v
  have e := toI64 v
  unfold fm_M_digits fb_M_digits_0 fb_M_digits_12
  unfold numT
  refine pk_br (fun z => ?_) (fun z => ?_)
  · have z := of_decide_eq_true z
    have z1 : 0 ≤ v.toInt := by rw [Int32.le_iff_toInt_le] at z; exact z
    rw [show abT v = v.toInt64 from if_pos z]
    exact uni_r ⟨by omega, by omega⟩ N 40 1 m hl ⟨by decide, by decide⟩ (by rw [e]; have : ((1 : Int64).toInt) = 1 := rfl; rw [this]; omega) o
  · have z := of_decide_eq_false z
    have z1 : ¬ 0 ≤ v.toInt := fun q => z (by rw [Int32.le_iff_toInt_le]; exact q)
    rw [show abT v = -v.toInt64 from if_neg z]
    have e2 := neg64 (x := v.toInt64) (by omega) (by omega)
    exact uni_r ⟨by omega, by omega⟩ N 40 1 m hl ⟨by decide, by decide⟩ (by rw [e2, e]; have : ((1 : Int64).toInt) = 1 := rfl; rw [this]; omega) o
theorem cell_p (hp1 : p < 25) {q : Nat} (hq : q ≤ 100000) : PK (fun m2 r => m2 = m ∧ r = hp m p q) (fm_M_cell N m (I p) (I q)) := by
  show PK _ (ck (inb (I p * 500 + I q) 12500) (some (m, m.2.2.2 88 (I p * 500 + I q).toNatClampNeg)))
  refine pk_ck (fun _ => pk_some ⟨rfl, ?_⟩)
  rw [show (500 : Int32) = I 500 from rfl, I_mul, I_add, tnI (n := 500 * p + q) (by omega) (by omega)]
  rfl
end
