set_option maxRecDepth 100000
theorem eqN_congr {sg sg2 tx tx2 : Nat → Int32} : ∀ (m a b : Nat), (∀ i, i < m → sg (a + i) = sg2 (a + i)) → (∀ i, i < m → tx (b + i) = tx2 (b + i)) → eqN sg tx a b m = eqN sg2 tx2 a b m := by
  intro m
  induction m with
  | zero => intro a b _ _; rfl
  | succ m ih =>
    intro a b h1 h2
    have e1 : sg a = sg2 a := h1 0 (by omega)
    have e2 : tx b = tx2 b := h2 0 (by omega)
    show (decide (sg a = tx b) && _) = (decide (sg2 a = tx2 b) && _)
    rw [e1, e2, ih (a + 1) (b + 1) (fun i hi => by have := h1 (i + 1) (by omega); rw [show a + 1 + i = a + (i + 1) from by omega]; exact this) (fun i hi => by have := h2 (i + 1) (by omega); rw [show b + 1 + i = b + (i + 1) from by omega]; exact this)]
theorem skN_congr {sg sg2 tx tx2 : Nat → Int32} {fr : Nat → Nat} {b len n : Nat} (hm : ∀ j, j < n → fr j ≤ fr (j + 1)) (h1 : ∀ j, j < fr n → sg j = sg2 j) (h2 : ∀ i, i < len → tx (b + i) = tx2 (b + i)) : ∀ (m w : Nat), w + m = n → skN sg tx fr b len w m = skN sg2 tx2 fr b len w m := by
  have mono : ∀ k j, j + k = n → fr j ≤ fr n := by
    intro k
    induction k with
    | zero => intro j hj; rw [show j = n from by omega]; exact Nat.le_refl _
    | succ k ih => intro j hj; exact Nat.le_trans (hm j (by omega)) (ih (j + 1) (by omega))
  intro m
  induction m with
  | zero => intro w _; rfl
  | succ m ih =>
    intro w hw
    show (if fr (w + 1) - fr w = len ∧ eqN sg tx (fr w) b len = true then some w else skN sg tx fr b len (w + 1) m) = (if fr (w + 1) - fr w = len ∧ eqN sg2 tx2 (fr w) b len = true then some w else skN sg2 tx2 fr b len (w + 1) m)
    rw [ih (w + 1) (by omega)]
    by_cases hl : fr (w + 1) - fr w = len
    · have hq := mono m (w + 1) (by omega)
      have h3 := hm w (by omega)
      rw [eqN_congr (sg := sg) (sg2 := sg2) (tx := tx) (tx2 := tx2) len (fr w) b (fun i hi => h1 _ (by omega)) h2]
    · rw [if_neg (fun z => hl z.1), if_neg (fun z => hl z.1)]
def AT (u : CS) (w : MS) (fr : Nat → Nat) (n : Nat) : Prop := WF u 1 fr n ∧ WT3 w 12 13 4 fr n ∧ w.1 14 = Int32.ofNat n ∧ ∀ j, j < fr n → AI u 2 j = w.2.2.1 12 j
def frN (fr : Nat → Nat) (n len : Nat) : Nat → Nat := fun j => if j = n + 1 then fr n + len else fr j
def bytB (g : Nat → Int32) : Prop := ∀ j, j < 4000 → nrB (g j) = g j
theorem nrB_eq (x : Int32) : nrB x = x.toInt8.toInt32 := rfl
theorem nrB_nrB (x : Int32) : nrB (nrB x) = nrB x := by rw [nrB_eq, nrB_eq, Int8.toInt8_toInt32]
theorem fits_B {x : Int32} (h : nrB x = x) : fits .byte (.int x) = true := by
  rw [← h, nrB_eq]
  have h1 := Int8.toInt_lt x.toInt8
  have h2 := Int8.le_toInt x.toInt8
  have e1 : (x.toInt8.toInt32).toInt = x.toInt8.toInt := Int8.toInt_toInt32 _
  have a1 : (-128 : Int32) ≤ x.toInt8.toInt32 := Int32.le_iff_toInt_le.mpr (by rw [e1]; show (-128 : Int) ≤ _; omega)
  have a2 : x.toInt8.toInt32 ≤ (127 : Int32) := Int32.le_iff_toInt_le.mpr (by rw [e1]; show _ ≤ (127 : Int); omega)
  show ((decide (-128 ≤ x.toInt8.toInt32)) && (decide (x.toInt8.toInt32 ≤ 127))) = true
  rw [decide_eq_true a1, decide_eq_true a2]
  rfl
theorem WF_new {u : CS} {fr : Nat → Nat} {n b len : Nat} (h : skB u = true) (hw : WF u 1 fr n) (hn : n + 1 < 2101) (hf : fr n + len ≤ 4300) : WF (nwW u 1 (fr n) n b len) 1 (frN fr n len) (n + 1) := by
  obtain ⟨h1, h2, h3, h4, h5⟩ := hw
  have a1 := sa_2 (g := put (AI u 2) (AI u 5) (fr n) b len) h
  have a2 := sa_3 (g := upd (AI u 3) (n + 1) (Int32.ofNat (fr n + len))) a1
  have e3 : AI (nwW u 1 (fr n) n b len) 3 = upd (AI u 3) (n + 1) (Int32.ofNat (fr n + len)) := by
    show AI (uF (uA (uA u 2 (put (AI u 2) (AI u 5) (fr n) b len)) 3 (upd (AI u 3) (n + 1) (Int32.ofNat (fr n + len)))) 1 2 _) 3 = _
    rw [AI_F, fa_3 a1]
  refine ⟨fi_1_2 a2, fun j hj => ?_, fun j hj => ?_, fun j hj => ?_, hn⟩
  · show AI (nwW u 1 (fr n) n b len) 3 j = _
    rw [e3]
    unfold frN
    by_cases e : j = n + 1
    · simp [upd, e]
    · simp [upd, e, h2 j (by omega)]
  · unfold frN
    by_cases e : j = n
    · subst e; simp
    · rw [if_neg (by omega), if_neg (by omega)]
      exact h3 j (by omega)
  · unfold frN
    by_cases e : j = n + 1
    · rw [if_pos e]; exact hf
    · rw [if_neg e]; exact h4 j (by omega)
theorem AI_2_new {u : CS} {fn n b len : Nat} (h : skB u = true) : AI (nwW u 1 fn n b len) 2 = put (AI u 2) (AI u 5) fn b len := by
  show AI (uF (uA (uA u 2 (put (AI u 2) (AI u 5) fn b len)) 3 _) 1 2 _) 2 = _
  rw [AI_F, AI_A (by decide), fa_2 h]
theorem WT3_new {w : MS} {fr : Nat → Nat} {n b len : Nat} (hw : WT3 w 12 13 4 fr n) (hn : n + 2 < ln 13) (hf : fr n + len ≤ ln 12) : WT3 (nwT w 12 13 4 (fr n) n b len) 12 13 4 (frN fr n len) (n + 1) := by
  obtain ⟨h1, h2, h3, h4, h5, h6, h7, h8, h9, h10⟩ := hw
  refine ⟨h1, h2, h3, fun j hj => ?_, fun j hj => ?_, fun j hj => ?_, by omega, h8, h9, h10⟩
  · show (upA _ 13 _).2.2.1 13 j = _
    rw [upA_self]
    unfold frN
    by_cases e : j = n + 1
    · simp [upd, e]
    · simp [upd, e, h4 j (by omega)]
  · unfold frN
    by_cases e : j = n
    · subst e; simp
    · rw [if_neg (by omega), if_neg (by omega)]
      exact h5 j (by omega)
  · unfold frN
    by_cases e : j = n + 1
    · rw [if_pos e]; exact hf
    · rw [if_neg e]; exact h6 j (by omega)
theorem fr_mono {fr : Nat → Nat} {n : Nat} (hm : ∀ j, j < n → fr j ≤ fr (j + 1)) : ∀ k j, j + k = n → fr j ≤ fr n := by
  intro k
  induction k with
  | zero => intro j hj; rw [show j = n from by omega]; exact Nat.le_refl _
  | succ k ih => intro j hj; exact Nat.le_trans (hm j (by omega)) (ih (j + 1) (by omega))
theorem AT_step {u : CS} {w : MS} {fr : Nat → Nat} {n N b len : Nat} (h : skB u = true) (ha : AT u w fr n) (hb : b + len ≤ 4000) (hB : bytB (AI u 5)) (ht : ∀ i, i < len → AI u 5 (b + i) = w.2.2.1 4 (b + i)) (hn : n + 1 < 2101) (hf : fr n + len ≤ 4300) (hN : n * (len + 3) + len + 3 ≤ N) : ∃ u2 w2 fr2 n2 r, fm_Wo_find N u 1 (some 5) (Int32.ofNat b) (Int32.ofNat len) = some (u2, Int32.ofNat r) ∧ fm_M_atom N w 4 (Int32.ofNat b) (Int32.ofNat len) = some (w2, Int32.ofNat r) ∧ skB u2 = true ∧ AT u2 w2 fr2 n2 ∧ r < n2 ∧ ((u2 = u ∧ w2 = upI w 14 (Int32.ofNat n) ∧ fr2 = fr ∧ n2 = n) ∨ (u2 = nwW u 1 (fr n) n b len ∧ w2 = upI (nwT w 12 13 4 (fr n) n b len) 14 (Int32.ofNat (n + 1)) ∧ fr2 = frN fr n len ∧ n2 = n + 1 ∧ r = n)) := by
  obtain ⟨hw, hw2, h14, hs⟩ := ha
  have hmul : n ≤ n * (len + 3) := Nat.le_mul_of_pos_right n (by omega)
  have f1 := find_at (N := N) h hw hb (fun j hj => fits_B (hB j hj)) hn hf (by omega) (by omega)
  have l13 : ln 13 = 2200 := rfl
  have l12 : ln 12 = 5000 := rfl
  have f2 := tx_ok (N := N) (b := b) (len := len) hw2 hb (by omega) (by decide) (by decide) hN
  have hsk := skN_congr (sg := AI u 2) (sg2 := w.2.2.1 12) (tx := AI u 5) (tx2 := w.2.2.1 4) (fr := fr) (b := b) (len := len) (n := n) hw.2.2.1 hs ht n 0 (by omega)
  have fm : fm_M_atom N w 4 (Int32.ofNat b) (Int32.ofNat len) = bnd (fm_M_textOf N w 12 13 (Int32.ofNat n) 4 (Int32.ofNat b) (Int32.ofNat len)) (fun u2 r2 => br (decide (r2 = (u2.1 14))) (fb_M_atom_43 N () u2 (r2) (((u2.1 14) + 1))) (fb_M_atom_43 N () u2 (r2) ((u2.1 14)))) := by
    unfold fm_M_atom fb_M_atom_0
    rw [h14]
  rw [fm, f2, ← hsk, f1]
  cases hc : skN (AI u 2) (AI u 5) fr b len 0 n with
  | some x =>
    have hx : x < n := by
      have sx : ∀ w m x, skN (AI u 2) (AI u 5) fr b len w m = some x → x < w + m := by
        intro w m
        induction m generalizing w with
        | zero => intro x hx; cases hx
        | succ m ih =>
          intro x hx
          unfold skN at hx
          split at hx
          · cases hx; omega
          · have := ih (w + 1) x hx; omega
      have := sx 0 n x hc
      omega
    have e1 : decide (Int32.ofNat x = w.1 14) = false := by
      rw [h14]
      exact decide_eq_false (fun z => by
        have := congrArg Int32.toNatClampNeg z
        rw [q_nat (by omega), q_nat (by omega)] at this
        omega)
    refine ⟨u, upI w 14 (Int32.ofNat n), fr, n, x, rfl, ?_, h, ⟨hw, hw2, rfl, hs⟩, hx, Or.inl ⟨rfl, rfl, rfl, rfl⟩⟩
    show br (decide (Int32.ofNat x = w.1 14)) _ _ = _
    rw [e1, q_b0, h14]
    rfl
  | none =>
    have e0 : (nwT w 12 13 4 (fr n) n b len).1 14 = Int32.ofNat n := h14
    have s1 : skB (nwW u 1 (fr n) n b len) = true := sf_1_2 (sa_3 (sa_2 h))
    refine ⟨nwW u 1 (fr n) n b len, upI (nwT w 12 13 4 (fr n) n b len) 14 (Int32.ofNat (n + 1)), frN fr n len, n + 1, n, rfl, ?_, s1, ⟨WF_new h hw hn hf, WT3_new hw2 (by omega) (by omega), rfl, fun j hj => ?_⟩, by omega, Or.inr ⟨rfl, rfl, rfl, rfl, rfl⟩⟩
    · show br (decide (Int32.ofNat n = (nwT w 12 13 4 (fr n) n b len).1 14)) _ _ = _
      rw [e0, show decide (Int32.ofNat n = Int32.ofNat n) = true from decide_eq_true rfl, q_b1, q_suc]
      rfl
    · have hj : j < fr n + len := by
        have : frN fr n len (n + 1) = fr n + len := by unfold frN; rw [if_pos rfl]
        rw [this] at hj
        exact hj
      rw [AI_2_new h]
      show put (AI u 2) (AI u 5) (fr n) b len j = (upA (upA w 12 _) 13 _).2.2.1 12 j
      rw [upA_ne (by decide), upA_self]
      unfold put
      by_cases e : fr n ≤ j ∧ j < fr n + len
      · rw [if_pos e, if_pos e]
        have := ht (j - fr n) (by omega)
        show AI u 5 (b + (j - fr n)) = nrB (w.2.2.1 4 (b + (j - fr n)))
        rw [← this]
        exact (hB _ (by omega)).symm
      · rw [if_neg e, if_neg e]
        exact hs j (by omega)
