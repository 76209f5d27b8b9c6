/-! links as lists, both sides -/
set_option maxRecDepth 100000
/-- who is linked to p, there, here -/
def LSm (m : MS) (p : Nat) (L : List Int) : Prop := F m (pq p 15) = ((L.length : Nat) : Int) ∧ L.length ≤ 24 ∧ ∀ i x, L[i]? = some x → A m (pq p 14) i = x
def LSw (w : MS) (p : Nat) (L : List Int) : Prop := A w 117 p = ((L.length : Nat) : Int) ∧ L.length ≤ 24 ∧ ∀ i x, L[i]? = some x → A w 116 (24 * p + i) = x
/-- only the links of p have changed, here -/
def LFw (p : Nat) (w0 w : MS) : Prop := FR [] [] [116, 117] [] w0 w ∧ (∀ i, i ≠ p → A w 117 i = A w0 117 i) ∧ ∀ i, ¬ (24 * p ≤ i ∧ i < 24 * p + 24) → A w 116 i = A w0 116 i
section
variable {N p : Nat} {m w w0 m2 w2 : MS} {L L1 L2 : List Int} {x : Int}
theorem mid_get {α : Type} {L1 L2 : List α} {y : α} : (L1 ++ y :: L2)[L1.length]? = some y := by simp
theorem flt_mid (h1 : x ∉ L1) (h2 : x ∉ L2) : (L1 ++ x :: L2).filter (fun y => decide (y ≠ x)) = L1 ++ L2 := by
  have g : ∀ L : List Int, x ∉ L → L.filter (fun y => decide (y ≠ x)) = L := fun L h => List.filter_eq_self.mpr (fun a ha => decide_eq_true (fun e => h (e ▸ ha)))
  rw [List.filter_append, List.filter_cons, g L1 h1, g L2 h2]
  simp
theorem flt_no (h1 : x ∉ L) : L.filter (fun y => decide (y ≠ x)) = L := List.filter_eq_self.mpr (fun a ha => decide_eq_true (fun e => h1 (e ▸ ha)))
theorem seek_l (s : LSm m p L) (hx : RG x) : ∀ (M : Nat) (L1 L2 : List Int), L = L1 ++ L2 → x ∉ L1 → PK (fun m2 r => m2 = m ∧ ((r = I (-1) ∧ x ∉ L) ∨ ∃ L1 L2, L = L1 ++ x :: L2 ∧ x ∉ L1 ∧ r = I ((L1.length : Nat) : Int))) (hg_Pr_seekLink N M m p (I x) (I ((L1.length : Nat) : Int))) := by
  intro M
  induction M with
  | zero => intro L1 L2 _ _; exact pk_none
  | succ M ih =>
    intro L1 L2 e h
    show PK _ (hb_Pr_seekLink_2 N (hg_Pr_seekLink N M) m p (I x) (I ((L1.length : Nat) : Int)))
    unfold hb_Pr_seekLink_2
    obtain ⟨s1, s2, s3⟩ := s
    have hl : L.length = L1.length + L2.length := by rw [e, List.length_append]
    rw [I_F' s1]
    refine p_le ⟨by omega, by omega⟩ ⟨by omega, by omega⟩ (fun c => ?_) (fun c => ?_)
    · have e2 : L2 = [] := List.length_eq_zero_iff.mp (by omega)
      rw [e2, List.append_nil] at e
      exact pk_some ⟨rfl, Or.inl ⟨rfl, by rw [e]; exact h⟩⟩
    · cases L2 with
      | nil => exact absurd (by rw [hl]; simp) c
      | cons y L3 =>
        refine pk_ck (fun _ => ?_)
        rw [tnI (n := L1.length) rfl (by omega), I_A' (s3 L1.length y (by rw [e]; exact mid_get))]
        have ry : RG y := by rw [← s3 L1.length y (by rw [e]; exact mid_get)]; exact A_r _ _ _
        refine p_eq ry hx (fun c2 => ?_) (fun c2 => ?_)
        · subst c2
          exact pk_some ⟨rfl, Or.inr ⟨L1, L3, e, h, rfl⟩⟩
        · have := ih (L1 ++ [y]) L3 (by rw [e]; simp) (by simp; exact ⟨h, fun z => c2 z.symm⟩)
          rw [show (L1 ++ [y]).length = L1.length + 1 by simp] at this
          rw [show I ((L1.length : Nat) : Int) + 1 = I ((L1.length + 1 : Nat) : Int) from addN]
          exact this
/-- one link less, there -/
theorem rml_m (s : LSm m p L) (hx : RG x) : PK (fun m2 (_ : Unit) => (LSm m2 p (L.filter (fun y => decide (y ≠ x))) ∨ ¬ L.Nodup) ∧ FR [pq p 15] [] [pq p 14] [] m m2) (hm_Pr_removeLink N m p (I x)) := by
  have s0 := s
  obtain ⟨s1, s2, s3⟩ := s
  unfold hm_Pr_removeLink hb_Pr_removeLink_0 hb_Pr_removeLink_44
  refine pk_bnd (pk_mo (seek_l (N := N) s0 hx N [] L rfl (by simp)) (fun m1 r h => ?_))
  obtain ⟨rfl, h | ⟨L1, L2, e, h1, rfl⟩⟩ := h
  · obtain ⟨rfl, h⟩ := h
    rw [show decide (I (-1) = -1) = true from rfl, br_t]
    exact pk_some ⟨Or.inl (by rw [flt_no h]; exact s0), FR.rf⟩
  · have hl : L.length = L1.length + (L2.length + 1) := by rw [e, List.length_append]; rfl
    rw [litm1, decE (by omega) (by omega) (by omega) (by omega), decide_eq_false (by omega), br_f]
    refine pk_ck (fun _ => pk_lt (pk_lt (pk_some ⟨?_, ?_⟩)))
    · by_cases nd : x ∈ L2
      · refine Or.inr (fun c => ?_)
        rw [e] at c
        have := (List.nodup_append.mp c).2.1
        exact (List.nodup_cons.mp this).1 nd
      · refine Or.inl ?_
        rw [e, flt_mid h1 nd]
        rw [I_F' s1]
        have e1 : (I ((L1.length : Nat) : Int) + 1).toNatClampNeg = L1.length + 1 := by rw [show I ((L1.length : Nat) : Int) + 1 = I ((L1.length + 1 : Nat) : Int) from addN]; exact tnI rfl (by omega)
        have e2 : (I ((L1.length : Nat) : Int)).toNatClampNeg = L1.length := tnI rfl (by omega)
        have e3 : (I ((L.length : Nat) : Int) - I ((L1.length : Nat) : Int) - 1).toNatClampNeg = L2.length := by
          rw [lit1, I_sub, I_sub]
          exact tnI (by omega) (by omega)
        rw [e1, e2, e3]
        refine ⟨?_, by rw [List.length_append]; omega, fun i y hy => ?_⟩
        · show ((upI (upA m1 (pq p 14) _) (pq p 15) (m1.1 (pq p 15) - 1) : MS).1 (pq p 15)).toInt = _
          show (if pq p 15 = pq p 15 then m1.1 (pq p 15) - 1 else _).toInt = _
          rw [if_pos rfl, I_F' s1, lit1, I_sub, I_ti (by omega) (by omega), List.length_append]
          omega
        · show ((if pq p 14 = pq p 14 then va_cpy (m1.2.2.1 (pq p 14)) (m1.2.2.1 (pq p 14)) (L1.length + 1) L1.length L2.length else _) i).toInt = _
          rw [if_pos rfl]
          unfold va_cpy
          by_cases c : i < L1.length
          · rw [if_neg (by omega)]
            exact s3 i y (by rw [e, List.getElem?_append_left c]; rw [List.getElem?_append_left c] at hy; exact hy)
          · rw [List.getElem?_append_right (by omega)] at hy
            have hi : i - L1.length < L2.length := by
              apply Classical.byContradiction
              intro z
              rw [List.getElem?_eq_none (by omega)] at hy
              cases hy
            rw [if_pos ⟨by omega, by omega⟩]
            refine s3 (L1.length + 1 + (i - L1.length)) y ?_
            rw [e, List.getElem?_append_right (by omega), show L1.length + 1 + (i - L1.length) - L1.length = (i - L1.length) + 1 by omega, List.getElem?_cons_succ]
            exact hy
    · exact ⟨fun k hk => if_neg (fun c => hk (by simp [c])), fun k _ => rfl, fun k hk => if_neg (fun c => hk (by simp [c])), fun k _ => rfl⟩
/-- one link less, here -/
theorem rml_lp (hp1 : p < 24) (hx : RG x) (s : LSw w0 p L) : ∀ (M : Nat) (L1 L2 : List Int) (w : MS), L = L1 ++ L2 → LFw p w0 w → A w 117 p = ((L.length : Nat) : Int) → (∀ i y, (L1.filter (fun y => decide (y ≠ x)))[i]? = some y → A w 116 (24 * p + i) = y) → (∀ i y, L2[i]? = some y → A w 116 (24 * p + (L1.length + i)) = y) → PK (fun w2 (_ : Unit) => LSw w2 p (L.filter (fun y => decide (y ≠ x))) ∧ LFw p w0 w2) (gg_M_removeLink N M w (I ((p : Nat) : Int)) (I x) (I (((L1.filter (fun y => decide (y ≠ x))).length : Nat) : Int)) (I ((L1.length : Nat) : Int))) := by
  intro M
  induction M with
  | zero => intro L1 L2 w _ _ _ _ _; exact pk_none
  | succ M ih =>
    intro L1 L2 w e f h1 h2 h3
    show PK _ (fb_M_removeLink_5 N (gg_M_removeLink N M) w (I ((p : Nat) : Int)) (I x) (I (((L1.filter (fun y => decide (y ≠ x))).length : Nat) : Int)) (I ((L1.length : Nat) : Int)))
    unfold fb_M_removeLink_5 fb_M_removeLink_58
    have hl : L.length = L1.length + L2.length := by rw [e, List.length_append]
    have h24 := s.2.1
    have fl : (L1.filter (fun y => decide (y ≠ x))).length ≤ L1.length := List.length_filter_le _ _
    refine pk_ck (fun _ => ?_)
    rw [tnI (n := p) rfl (by omega), I_A' h1]
    refine p_le ⟨by omega, by omega⟩ ⟨by omega, by omega⟩ (fun c => ?_) (fun c => ?_)
    · have e2 : L2 = [] := List.length_eq_zero_iff.mp (by omega)
      rw [e2, List.append_nil] at e
      subst e
      refine pk_ck (fun _ => pk_lt ?_)
      rw [wa_e]
      refine pk_some ⟨⟨?_, by omega, fun i y hy => ?_⟩, FR.wa f.1 (by simp), fun i hi => ?_, fun i hi => ?_⟩
      · rw [A_wa (by omega) (by omega), if_pos rfl, if_pos rfl]
      · rw [A_wa (by omega) (by omega), if_neg (by omega)]
        exact h2 i y hy
      · rw [A_wa (by omega) (by omega), if_pos rfl, if_neg hi]
        exact f.2.1 i hi
      · rw [A_wa (by omega) (by omega), if_neg (by omega)]
        exact f.2.2 i hi
    · cases L2 with
      | nil => exact absurd (by rw [hl]; simp) c
      | cons y L3 =>
        have hl3 : L.length = L1.length + (L3.length + 1) := by rw [hl]; rfl
        have ix : I 24 * I ((p : Nat) : Int) + I ((L1.length : Nat) : Int) = I ((24 * p + L1.length : Nat) : Int) := by
          rw [I_mul, I_add]
          congr 1
        have ax : A w 116 (24 * p + L1.length) = y := h3 0 y rfl
        have ry : RG y := by rw [← ax]; exact A_r _ _ _
        refine pk_ck (fun _ => ?_)
        rw [show (24 : Int32) = I 24 from rfl, ix, tnI (n := 24 * p + L1.length) rfl (by omega), I_A' ax, show I ((L1.length : Nat) : Int) + 1 = I ((L1.length + 1 : Nat) : Int) from addN]
        have lx : (L1 ++ [y]).length = L1.length + 1 := by simp
        refine p_eq ry hx (fun c2 => ?_) (fun c2 => ?_)
        · subst c2
          have g := ih (L1 ++ [y]) L3 w (by rw [e]; simp) f h1 (fun i z hz => h2 i z (by simpa using hz)) (fun i z hz => by rw [lx, show L1.length + 1 + i = L1.length + (i + 1) by omega]; exact h3 (i + 1) z hz)
          have fe : (L1 ++ [y]).filter (fun z => decide (z ≠ y)) = L1.filter (fun z => decide (z ≠ y)) := by simp
          rw [fe, lx] at g
          exact g
        · refine pk_ck (fun _ => pk_ck (fun _ => pk_lt ?_))
          have iy : I 24 * I ((p : Nat) : Int) + I (((L1.filter (fun y => decide (y ≠ x))).length : Nat) : Int) = I ((24 * p + (L1.filter (fun y => decide (y ≠ x))).length : Nat) : Int) := by
            rw [I_mul, I_add]
            congr 1
          rw [iy, tnI (n := 24 * p + (L1.filter (fun y => decide (y ≠ x))).length) rfl (by omega), wa_e, show I (((L1.filter (fun y => decide (y ≠ x))).length : Nat) : Int) + 1 = I (((L1.filter (fun y => decide (y ≠ x))).length + 1 : Nat) : Int) from addN]
          have fe : (L1 ++ [y]).filter (fun z => decide (z ≠ x)) = L1.filter (fun z => decide (z ≠ x)) ++ [y] := by
            rw [List.filter_append]
            congr 1
            simp [c2]
          have g := ih (L1 ++ [y]) L3 (wa w 116 (24 * p + (L1.filter (fun y => decide (y ≠ x))).length) y) (by rw [e]; simp) ⟨FR.wa f.1 (by simp), fun i hi => by rw [A_wa ry.1 ry.2, if_neg (by omega)]; exact f.2.1 i hi, fun i hi => by rw [A_wa ry.1 ry.2, if_pos rfl, if_neg (by omega)]; exact f.2.2 i hi⟩ (by rw [A_wa ry.1 ry.2, if_neg (by omega)]; exact h1) (fun i z hz => by
            rw [fe] at hz
            rw [A_wa ry.1 ry.2, if_pos rfl]
            by_cases ci : i < (L1.filter (fun y => decide (y ≠ x))).length
            · rw [if_neg (by omega)]
              rw [List.getElem?_append_left ci] at hz
              exact h2 i z hz
            · rw [List.getElem?_append_right (by omega)] at hz
              by_cases ce : i = (L1.filter (fun y => decide (y ≠ x))).length
              · rw [if_pos (by omega)]
                rw [ce, Nat.sub_self] at hz
                simpa using hz
              · rw [List.getElem?_eq_none (by show 1 ≤ _; omega)] at hz
                cases hz) (fun i z hz => by
            rw [lx, A_wa ry.1 ry.2, if_pos rfl, if_neg (by omega), show L1.length + 1 + i = L1.length + (i + 1) by omega]
            exact h3 (i + 1) z hz)
          rw [fe, lx, show (L1.filter (fun z => decide (z ≠ x)) ++ [y]).length = (L1.filter (fun z => decide (z ≠ x))).length + 1 by simp] at g
          exact g
theorem rml_w (hp1 : p < 24) (hx : RG x) (s : LSw w p L) : PK (fun w2 (_ : Unit) => LSw w2 p (L.filter (fun y => decide (y ≠ x))) ∧ LFw p w w2) (fm_M_removeLink N w (I ((p : Nat) : Int)) (I x)) := by
  unfold fm_M_removeLink fb_M_removeLink_0
  exact rml_lp (N := N) hp1 hx s N [] L w rfl ⟨FR.rf, fun _ _ => rfl, fun _ _ => rfl⟩ s.1 (fun i y hy => by simp at hy) (fun i y hy => by rw [show ([] : List Int).length + i = i by simp]; exact s.2.2 i y hy)
/-- links that both have alike -/
theorem LS_of {q : Nat} (s : SCs q m w) (hb : 0 ≤ F m (pq q 15) ∧ F m (pq q 15) ≤ 24) : ∃ L, LSm m q L ∧ LSw w q L := by
  obtain ⟨-, -, -, s4, -, s6⟩ := s
  have e4 : A w 117 q = F m (pq q 15) := congrArg Int32.toInt s4.symm
  refine ⟨(List.range (F m (pq q 15)).toNat).map (fun i => A m (pq q 14) i), ⟨by simp; omega, by simp; omega, fun i x hx => ?_⟩, by simp; omega, by simp; omega, fun i x hx => ?_⟩
  · rw [List.getElem?_map] at hx
    cases g : (List.range (F m (pq q 15)).toNat)[i]? with
    | none => rw [g] at hx; cases hx
    | some k =>
      rw [g] at hx
      have : k = i := by
        have := List.getElem?_eq_some_iff.mp g
        obtain ⟨h1, h2⟩ := this
        simpa using h2.symm
      subst this
      injection hx
  · rw [List.getElem?_map] at hx
    cases g : (List.range (F m (pq q 15)).toNat)[i]? with
    | none => rw [g] at hx; cases hx
    | some k =>
      rw [g] at hx
      obtain ⟨h1, h2⟩ := List.getElem?_eq_some_iff.mp g
      have ki : k = i := by simpa using h2.symm
      subst ki
      injection hx with hx
      rw [← hx]
      have := s6 k (by simp at h1; omega)
      exact congrArg Int32.toInt this.symm
theorem SC_of {q : Nat} (l1 : LSm m q L) (l2 : LSw w q L) (h1 : m.1 (pq q 12) = w.2.2.1 113 q) (h2 : m.1 (pq q 13) = w.2.2.1 114 q) (h3 : m.1 (pq q 11) = w.2.2.1 112 q) (h5 : m.1 (pq q 29) = w.2.2.1 115 q) : SCs q m w := by
  obtain ⟨a1, a2, a3⟩ := l1
  obtain ⟨c1, c2, c3⟩ := l2
  refine ⟨h1, h2, h3, Int32.toInt_inj.mp (a1.trans c1.symm), h5, fun i hi => ?_⟩
  rw [a1] at hi
  have hi2 : i < L.length := by omega
  have g : L[i]? = some L[i] := List.getElem?_eq_getElem hi2
  exact Int32.toInt_inj.mp ((a3 i _ g).trans (c3 i _ g).symm)
end
