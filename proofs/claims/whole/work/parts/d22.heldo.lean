/-! names held, in the order of their tokens -/
set_option maxRecDepth 100000
/-- n tokens from p on: names bound further out than level L come behind l, each once, 60 at most -/
def hdc (Nk K W : Nat → Nat) (L : Nat) : Nat → Nat → List Nat → List Nat
  | 0, _, l => l
  | n + 1, p, l => hdc Nk K W L n (p + 1) (if K p = 3 ∧ W p < L ∧ Nk p ∉ l ∧ l.length < 60 then l ++ [Nk p] else l)
def HDo (Nk K W : Nat → Nat) (p p2 : Nat) : SCT → SCT → Prop
  | [], [] => ∀ j, p ≤ j → j < p2 → K j = 3 → W j ≤ 32
  | e :: t, e2 :: t2 => e2.2.1 = hdc Nk K W t.length (p2 - p) p e.2.1 ∧ HDo Nk K W p p2 t t2
  | _, _ => False
section
variable {Nk K W W2 : Nat → Nat} {sc sc2 t t2 : SCT} {e e2 : List Nat × List Nat × Nat} {p p2 p3 x L n m : Nat} {l : List Nat} {own : Bool}
theorem hdc_add : ∀ (n m p : Nat) (l : List Nat), hdc Nk K W L (n + m) p l = hdc Nk K W L m (p + n) (hdc Nk K W L n p l)
  | 0, m, p, l => by rw [Nat.zero_add]; rfl
  | n + 1, m, p, l => by
    rw [show n + 1 + m = (n + m) + 1 by omega]
    show hdc Nk K W L (n + m) (p + 1) _ = hdc Nk K W L m (p + (n + 1)) (hdc Nk K W L n (p + 1) _)
    rw [hdc_add n m (p + 1), show p + 1 + n = p + (n + 1) by omega]
theorem hdc_no : ∀ (n p : Nat) (l : List Nat), (∀ j, p ≤ j → j < p + n → K j = 3 → L ≤ W j) → hdc Nk K W L n p l = l
  | 0, _, _, _ => rfl
  | n + 1, p, l, h => by
    show hdc Nk K W L n (p + 1) _ = l
    rw [if_neg (fun z => by have := h p (Nat.le_refl _) (by omega) z.1; omega)]
    exact hdc_no n (p + 1) l (fun j a b c => h j (by omega) (by omega) c)
theorem hdc_w : ∀ (n p : Nat) (l : List Nat), (∀ j, p ≤ j → j < p + n → W2 j = W j) → hdc Nk K W2 L n p l = hdc Nk K W L n p l
  | 0, _, _, _ => rfl
  | n + 1, p, l, h => by
    show hdc Nk K W2 L n (p + 1) _ = hdc Nk K W L n (p + 1) _
    rw [h p (Nat.le_refl _) (by omega)]
    exact hdc_w n (p + 1) _ (fun j a b => h j (by omega) (by omega))
theorem hdc_pre : ∀ (n p : Nat) (l : List Nat), l <+: hdc Nk K W L n p l
  | 0, _, _ => List.prefix_rfl
  | n + 1, p, l => by
    show l <+: hdc Nk K W L n (p + 1) _
    split
    · exact (List.prefix_append _ _).trans (hdc_pre n (p + 1) _)
    · exact hdc_pre n (p + 1) _
theorem HDo_len : ∀ {a b : SCT}, HDo Nk K W p p2 a b → b.length = a.length
  | [], [], _ => rfl
  | [], _ :: _, h => h.elim
  | _ :: _, [], h => h.elim
  | _ :: t, _ :: t2, h => by show t2.length + 1 = t.length + 1; rw [HDo_len h.2]
theorem HDo_tr : ∀ {a b c : SCT}, p ≤ p2 → p2 ≤ p3 → HDo Nk K W p p2 a b → HDo Nk K W p2 p3 b c → HDo Nk K W p p3 a c
  | [], [], [], _, _, h, k => fun j a b c => by
    by_cases z : j < p2
    · exact h j a z c
    · exact k j (by omega) b c
  | [], [], _ :: _, _, _, _, h => h.elim
  | [], _ :: _, _, _, _, h, _ => h.elim
  | _ :: _, [], _, _, _, h, _ => h.elim
  | _ :: _, _ :: _, [], _, _, _, h => h.elim
  | e :: t, e2 :: t2, e3 :: t3, l1, l2, h, k => by
    refine ⟨?_, HDo_tr l1 l2 h.2 k.2⟩
    rw [k.1, h.1, HDo_len h.2, show p3 - p = (p2 - p) + (p3 - p2) by omega, hdc_add, show p + (p2 - p) = p2 by omega]
theorem HDo_w : ∀ {a b : SCT}, (∀ j, p ≤ j → j < p2 → W2 j = W j) → HDo Nk K W p p2 a b → HDo Nk K W2 p p2 a b
  | [], [], hw, h => fun j a b c => by rw [hw j a b]; exact h j a b c
  | [], _ :: _, _, h => h.elim
  | _ :: _, [], _, h => h.elim
  | e :: t, e2 :: t2, hw, h => ⟨by rw [h.1, hdc_w _ _ _ (fun j a b => hw j a (by omega))], HDo_w hw h.2⟩
theorem HDo_no : ∀ {sc : SCT}, (∀ j, p ≤ j → j < p2 → K j = 3 → sc.length ≤ W j + 1 ∧ W j ≤ 32) → HDo Nk K W p p2 sc sc
  | [], h => fun j a b c => (h j a b c).2
  | e :: t, h => by
    have el : (e :: t).length = t.length + 1 := rfl
    exact ⟨(hdc_no _ _ _ (fun j a b c => by have := h j a (by omega) c; omega)).symm, HDo_no (fun j a b c => by have := h j a b c; omega)⟩
theorem HDo_gap (h : ∀ j, p ≤ j → j < p2 → K j ≠ 3) : HDo Nk K W p p2 sc sc := HDo_no (fun j a b c => absurd c (h j a b))
theorem hdc_1 : hdc Nk K W L 1 p l = if K p = 3 ∧ W p < L ∧ Nk p ∉ l ∧ l.length < 60 then l ++ [Nk p] else l := rfl
theorem HLx_HDo (hN : Nk p = x) (hb : W p ≤ 32) : ∀ {sc : SCT}, HLx x sc → W p = lvx x sc → HDo Nk K W p (p + 1) sc sc
  | [], h, _ => h.elim
  | e :: t, h, hW => by
    by_cases hx : x ∈ e.1
    · refine HDo_no (fun j a b c => ?_)
      have el : (e :: t).length = t.length + 1 := rfl
      rw [show j = p by omega]
      have : lvx x (e :: t) = t.length := by
        show (if e.1.contains x then t.length else lvx x t) = _
        rw [if_pos (List.contains_iff_mem.mpr hx)]
      omega
    · rcases h with h | ⟨h1, h2⟩
      · exact absurd h hx
      · have e1 : lvx x (e :: t) = lvx x t := by
          show (if e.1.contains x then t.length else lvx x t) = _
          rw [if_neg (fun z => hx (List.contains_iff_mem.mp z))]
        refine ⟨?_, HLx_HDo hN hb h2 (hW.trans e1)⟩
        rw [show p + 1 - p = 1 by omega, hdc_1, if_neg]
        rintro ⟨-, -, z1, z2⟩
        rcases h1 with h1 | h1
        · exact z1 (by rw [hN]; exact h1)
        · omega
theorem hld_HDo (hN : Nk p = x) (hK : K p = 3) (hb : W p ≤ 32) : ∀ {sc : SCT}, SOK sc → fnb x sc = true → W p = lvx x sc → HDo Nk K W p (p + 1) sc (hld x sc)
  | [], _, h, _ => by cases h
  | e :: t, ok, hf, hW => by
    have ok1 := ok.1
    unfold hld
    split
    · next c1 =>
      refine HLx_HDo hN hb ?_ hW
      rw [Bool.or_eq_true] at c1
      rcases c1 with c1 | c1
      · exact Or.inl (List.contains_iff_mem.mp c1)
      · exact Or.inr ⟨Or.inl (List.contains_iff_mem.mp c1), ok1.2.2.2.2.2.1 x (List.contains_iff_mem.mp c1)⟩
    · next c1 =>
      have n1 : ¬ x ∈ e.1 := fun z => c1 (by rw [Bool.or_eq_true]; exact Or.inl (List.contains_iff_mem.mpr z))
      have n2 : ¬ x ∈ e.2.1 := fun z => c1 (by rw [Bool.or_eq_true]; exact Or.inr (List.contains_iff_mem.mpr z))
      have e1 : lvx x (e :: t) = lvx x t := by
        show (if e.1.contains x then t.length else lvx x t) = _
        rw [if_neg (fun z => n1 (List.contains_iff_mem.mp z))]
      have f1 : fnb x t = true := by
        have : fnb x (e :: t) = (e.1.contains x || fnb x t) := by unfold fnb; rw [List.any_cons]
        rw [this, Bool.or_eq_true] at hf
        rcases hf with z | z
        · exact absurd (List.contains_iff_mem.mp z) n1
        · exact z
      rw [if_pos f1]
      refine ⟨?_, hld_HDo hN hK hb ok.2 f1 (hW.trans e1)⟩
      rw [show p + 1 - p = 1 by omega, hdc_1]
      have lt := lvx_lt f1
      by_cases h60 : e.2.1.length < 60
      · rw [if_pos h60, if_pos ⟨hK, by omega, by rw [hN]; exact n2, h60⟩, hN]
      · rw [if_neg h60, if_neg (fun z => h60 z.2.2.2)]
/-- a name in a pattern -/
theorem rfP_do (ok : SOK (e :: t)) (hN : Nk p = x) (hK : K p = 3) (hW : W p = rfL own x (e :: t)) (hl : t.length ≤ 26) : HDo Nk K W p (p + 1) (e :: t) (rfP own x (e :: t)) := by
  have big : t.length + 1 ≤ W p + 1 ∧ W p ≤ 32 → HDo Nk K W p (p + 1) (e :: t) (e :: t) := fun z => HDo_no (fun j a b c => by rw [show j = p by omega]; exact z)
  have bb : t.length + 1 ≤ W p + 1 ∧ W p ≤ 32 → HDo Nk K W p (p + 1) (e :: t) (bnS x (e :: t)) := fun z => by
    have := big z
    exact ⟨this.1, this.2⟩
  cases own with
  | false =>
    cases hf : fnb x (e :: t) with
    | false =>
      obtain ⟨r1, r2, r3⟩ := rf_n hf
      rw [r1]
      exact bb (by rw [hW, r3]; omega)
    | true =>
      obtain ⟨r1, r2, r3⟩ := rf_y hf
      rw [r1]
      have lt := lvx_lt hf
      have el : (e :: t).length = t.length + 1 := rfl
      exact hld_HDo hN hK (by rw [hW, r3]; omega) ok hf (hW.trans r3)
  | true =>
    cases hf : e.1.contains x with
    | false =>
      obtain ⟨r1, r2, r3⟩ := ro_n (t := t) hf
      rw [r1]
      exact bb (by rw [hW, r3]; omega)
    | true =>
      obtain ⟨r1, r2, r3⟩ := ro_y (t := t) hf
      rw [r1]
      exact big (by rw [hW, r3]; omega)
end
