/-! strings of a text, both: their signs -/
set_option maxRecDepth 100000
section
variable {u : CS} {m0 m w : MS} {n : TN} {bad : Bool} {K : Nat → Nat} {SN : Nat}
theorem sts_e {g : Nat → Int32} {k : Nat} : ∀ m p i len, sts g k m p i = some len → i ≤ len ∧ (∀ j, j < len - i → sgA g k (p + j) ≠ 34 ∧ ¬ (sgA g k (p + j) < 32 ∨ 126 < sgA g k (p + j))) ∧ sgA g k (p + (len - i)) = 34
  | 0, _, _, _, h => by cases h
  | m + 1, p, i, len, h => by
    have e : sts g k (m + 1) p i = if sgA g k p = 34 then some i else if sgA g k p < 32 ∨ 126 < sgA g k p then none else sts g k m (p + 1) (i + 1) := rfl
    rw [e] at h
    by_cases h1 : sgA g k p = 34
    · rw [if_pos h1] at h
      injection h with h
      subst h
      exact ⟨Nat.le_refl _, fun j hj => absurd hj (by omega), by rw [show p + (i - i) = p by omega]; exact h1⟩
    · rw [if_neg h1] at h
      by_cases h2 : sgA g k p < 32 ∨ 126 < sgA g k p
      · rw [if_pos h2] at h; cases h
      · rw [if_neg h2] at h
        obtain ⟨a, b, c⟩ := sts_e m (p + 1) (i + 1) len h
        refine ⟨by omega, fun j hj => ?_, ?_⟩
        · by_cases z : j = 0
          · subst z; exact ⟨h1, h2⟩
          · have := b (j - 1) (by omega)
            rw [show p + 1 + (j - 1) = p + j by omega] at this
            exact this
        · rw [show p + 1 + (len - (i + 1)) = p + (len - i) by omega] at c
          exact c
theorem pr_255 {x : Int32} (hx : nrB x = x) (h : ¬ (x &&& 255 < 32 ∨ 126 < x &&& 255)) : x &&& 255 = x := by
  have := sg_all (fun x => (decide (x &&& 255 < 32) || decide (126 < x &&& 255)) || decide (x &&& 255 = x)) (by decide +kernel) hx
  have this : ((decide (x &&& 255 < 32) || decide (126 < x &&& 255)) || decide (x &&& 255 = x)) = true := this
  rw [decide_eq_false (fun z => h (Or.inl z)), decide_eq_false (fun z => h (Or.inr z))] at this
  exact of_decide_eq_true this
/-- words, lines, strings -/
theorem tk_cv (R : RS m u) (h : TOKS u w n bad) (hb : n.fs n.ns ≤ n.k ∧ 2 * n.ns ≤ n.k) (hs : STR w SN) (h5 : ∀ p, p < n.i → A w 6 p = 5 → 0 ≤ A w 7 p ∧ A w 7 p < ((SN : Nat) : Int)) (hA : CTA m w K n.i) (hK : ∀ p, p < n.i → K p = (m.2.2.1 6 p).toNatClampNeg) (hln : ∀ j, j ≤ n.i → m.2.2.1 8 j = w.2.2.1 8 j) (k7 : m0.2.2.1 7 = m.2.2.1 7 ∧ m0.2.2.1 8 = m.2.2.1 8 ∧ m0.2.2.1 5 = m.2.2.1 5) (k81 : m0.1 81 = m.1 81) : CTV m0 w K n.i := by
  have hk := h.k4
  have r5 : AI u 5 = m.2.2.1 5 := R.2.2.2.1 5 (by decide)
  have r6 : AI u 6 = m.2.2.1 6 := R.2.2.2.1 6 (by decide)
  have r7 : AI u 7 = m.2.2.1 7 := R.2.2.2.1 7 (by decide)
  intro p hp
  refine ⟨by rw [k7.2.1]; exact hln p (by omega), fun q => by rw [k7.1]; exact hA p hp q, fun q => ?_⟩
  have kv := (h.tk p hp).1
  rw [r5, r6, r7] at kv
  have k4 : (m.2.2.1 6 p).toNatClampNeg = 4 := by rw [← hK p hp]; exact q
  have ne : ∀ c : Int32, c.toNatClampNeg ≠ 4 → m.2.2.1 6 p ≠ c := fun c hc e => hc (by rw [← e]; exact k4)
  have kv4 : ∃ r t len, w.2.2.1 6 p = 5 ∧ r < n.ns ∧ w.2.2.1 7 p = Int32.ofNat r ∧ m.2.2.1 7 p = Int32.ofNat t ∧ len ≤ 40 ∧ n.fs (r + 1) = n.fs r + len ∧ t + len < n.k ∧ sts (m.2.2.1 5) n.k 41 t 0 = some len ∧ ∀ j, j < len → w.2.2.1 18 (n.fs r + j) = m.2.2.1 5 (t + j) := by
    rcases kv with ⟨a, b, c⟩ | ⟨a, b, r, hr, c, d⟩ | ⟨a, b, r, hr, c, d⟩ | ⟨a, b, r, t, len, z⟩ | ⟨a, r, hr, b, c⟩ | ⟨a, m', hm, b, c⟩
    · exact absurd a (ne _ (by decide))
    · exact absurd a (ne _ (by decide))
    · exact absurd a (ne _ (by decide))
    · exact ⟨r, t, len, b, z⟩
    · refine absurd b (ne _ ?_)
      rw [oI, tnI (n := 5 + r) rfl (by omega)]; omega
    · refine absurd b (ne _ ?_)
      show (Int32.ofNat (20 + m')).toNatClampNeg ≠ 4
      rw [oI, tnI (n := 20 + m') rfl (by omega)]; omega
  obtain ⟨r, t, len, s5, hr, e7, m7, hl, hf, htl, hst, h18⟩ := kv4
  obtain ⟨-, sg, se⟩ := sts_e 41 t 0 len hst
  have fsr : n.fs (r + 1) ≤ n.k := Nat.le_trans (h.sm r hr) hb.1
  have a6 : A w 6 p = 5 := by show (w.2.2.1 6 p).toInt = 5; rw [s5]; rfl
  have hrS : r < SN := by
    have := (h5 p hp a6).2
    have e : A w 7 p = (Int32.ofNat r).toInt := by show (w.2.2.1 7 p).toInt = _; rw [e7]
    rw [e, oI, I_ti (by omega) (by omega)] at this
    omega
  have a19 : ∀ j, j ≤ n.ns → n.fs j ≤ 4000 → A w 19 j = ((n.fs j : Nat) : Int) := fun j hj h4 => by
    show (w.2.2.1 19 j).toInt = _
    rw [h.sf j hj, oI]; exact I_ti (by omega) (by omega)
  have s1 := hs.1
  refine ⟨t, r, n.fs r, len, by rw [k7.1, m7]; exact oI, by rw [e7]; exact oI, by omega, a19 r (by omega) (by omega), by rw [a19 (r + 1) (by omega) (by omega), hf], hl, by omega, fun N m2 k fr hk2 => ?_, fun _ N m2 fr => ?_⟩
  · have x81 : m2.1 81 = I (n.k : Nat) := by
      rw [fr.1 81 (by omega), k81]
      have := R.2.1 4 1 (by decide) (by decide)
      rw [h.cu] at this
      exact this.symm.trans oI
    have x5 : m2.2.2.1 5 = m.2.2.1 5 := (fr.2 5 (by omega)).trans k7.2.2
    have sk := sg k (by omega)
    rw [show sgA (m.2.2.1 5) n.k (t + k) = m.2.2.1 5 (t + k) &&& 255 from if_pos (by omega)] at sk
    refine ⟨m.2.2.1 5 (t + k) &&& 255, ?_, sk.1, ?_⟩
    · unfold hm_To_signAt hb_To_signAt_0 hb_To_signAt_26
      rw [show decide (I ((t + k : Nat) : Int) < (0 : Int32)) = false from decide_eq_false (fun z => absurd ((I_lt (x := ((t + k : Nat) : Int)) (y := (0 : Int)) (by omega) (by omega) (by omega) (by omega)).mp z) (by omega)), br_f, x81, decide_eq_true ((I_lt (x := ((t + k : Nat) : Int)) (y := ((n.k : Nat) : Int)) (by omega) (by omega) (by omega) (by omega)).mpr (by omega)), br_t, (I_inb (x := ((t + k : Nat) : Int)) (n := 4000) (by omega) (by omega)).mpr ⟨by omega, by omega⟩, tnI (n := t + k) rfl (by omega), x5]
      rfl
    · have nb := h.bu (t + k) (by omega)
      rw [r5] at nb
      rw [pr_255 nb sk.2, ← h18 k hk2]
      rfl
  · have x81 : m2.1 81 = I (n.k : Nat) := by
      rw [fr.1 81 (by omega), k81]
      have := R.2.1 4 1 (by decide) (by decide)
      rw [h.cu] at this
      exact this.symm.trans oI
    have x5 : m2.2.2.1 5 = m.2.2.1 5 := (fr.2 5 (by omega)).trans k7.2.2
    rw [show t + (len - 0) = t + len by omega, show sgA (m.2.2.1 5) n.k (t + len) = m.2.2.1 5 (t + len) &&& 255 from if_pos (by omega)] at se
    unfold hm_To_signAt hb_To_signAt_0 hb_To_signAt_26
    rw [show decide (I ((t + len : Nat) : Int) < (0 : Int32)) = false from decide_eq_false (fun z => absurd ((I_lt (x := ((t + len : Nat) : Int)) (y := (0 : Int)) (by omega) (by omega) (by omega) (by omega)).mp z) (by omega)), br_f, x81, decide_eq_true ((I_lt (x := ((t + len : Nat) : Int)) (y := ((n.k : Nat) : Int)) (by omega) (by omega) (by omega) (by omega)).mpr (by omega)), br_t, (I_inb (x := ((t + len : Nat) : Int)) (n := 4000) (by omega) (by omega)).mpr ⟨by omega, by omega⟩, tnI (n := t + len) rfl (by omega), x5, se]
    rfl
end
