section
variable {w w2 : MS} {pM pE pM2 pE2 e mm : Nat → Nat} {PN PN2 SN L L2 k a b m m2 j q : Nat}
theorem chi_in {s t d : Nat} (h : CHN w pE s d t) (hx : ∀ x, s ≤ x → x < t → x < pE x) : ∀ i, i < d → s ≤ chi pE s i ∧ chi pE s i < t := by
  intro i
  induction i with
  | zero => intro h0; exact ⟨Nat.le_refl _, h.2.1 0 h0⟩
  | succ i ih =>
    intro h0
    have h1 := ih (by omega)
    have h2 := h.2.1 (i + 1) h0
    have h3 := hx _ h1.1 h1.2
    refine ⟨?_, h2⟩
    show s ≤ pE (chi pE s i)
    omega
theorem chi_cg {s t d : Nat} (hi : ∀ i, i < d → s ≤ chi pE s i ∧ chi pE s i < t) (ee : ∀ x, s ≤ x → x < t → pE2 x = pE x) : ∀ i, i ≤ d → chi pE2 s i = chi pE s i := by
  intro i
  induction i with
  | zero => intro _; rfl
  | succ i ih =>
    intro h0
    have h1 := hi i (by omega)
    show pE2 (chi pE2 s i) = pE (chi pE s i)
    rw [ih (by omega)]
    exact ee _ h1.1 h1.2
theorem CHN_cg {s t d : Nat} (h : CHN w pE s d t) (hx : ∀ x, s ≤ x → x < t → x < pE x) (ee : ∀ x, s ≤ x → x < t → pE2 x = pE x) (e37 : ∀ x, s ≤ x → x < t → A w2 37 x = A w 37 x) : CHN w2 pE2 s d t := by
  have hi := chi_in h hx
  have hc := chi_cg hi ee
  refine ⟨by rw [hc d (Nat.le_refl _)]; exact h.1, fun i h1 => by rw [hc i (by omega)]; exact h.2.1 i h1, fun i h1 => ?_⟩
  rw [hc i (by omega), hc (i + 1) (by omega), e37 _ (hi i (by omega)).1 (hi i (by omega)).2]
  exact h.2.2 i h1
theorem PW_cg (h : PW w pM pE PN SN L k) (hx : ∀ x, k < x → x < pE k → x < pE x) (ee : ∀ x, k ≤ x → x < pE k → pE2 x = pE x) (eM : ∀ x, k ≤ x → x ≤ pE k → pM2 x = pM x) (er : ∀ r, r ∈ [33, 35, 36, 38] → A w2 r k = A w r k) (e37 : ∀ x, k < x → x < pE k → A w2 37 x = A w 37 x) (hp : PN ≤ PN2) (hl : L ≤ L2) : PW w2 pM2 pE2 PN2 SN L2 k := by
  obtain ⟨h1, h2, h3, h4, h5, h6, h7, h8, h9, h10⟩ := h
  have k1 := ee k (Nat.le_refl _) h1
  have k2 := eM k (Nat.le_refl _) (by omega)
  have k3 := eM (k + 1) (by omega) (by omega)
  unfold PW
  rw [er 33 (by decide), er 35 (by decide), er 36 (by decide), er 38 (by decide), k1, k2, k3]
  have cg : ∀ d, CHN w pE (k + 1) d (pE k) → CHN w2 pE2 (k + 1) d (pE k) := fun d hd => CHN_cg hd (fun x x1 x2 => hx x (by omega) x2) (fun x x1 x2 => ee x (by omega) x2) (fun x x1 x2 => e37 x (by omega) x2)
  refine ⟨h1, by omega, h3, h4, h5, h6, fun z => ⟨(h7 z).1, (h7 z).2.1, (h7 z).2.2.imp id (fun y => by omega)⟩, h8, fun z => ?_, fun z => ?_⟩
  · obtain ⟨z1, d, z2, z3, z4, z5⟩ := h9 z
    refine ⟨z1, d, z2, z3, cg d z4, ?_⟩
    rcases z5 with z5 | ⟨z6, z7, z8⟩
    · exact Or.inl z5
    · have hi := chi_in z4 (fun x x1 x2 => hx x (by omega) x2)
      have h0 := hi (d - 1) (by omega)
      rw [chi_cg hi (fun x x1 x2 => ee x (by omega) x2) (d - 1) (by omega), e37 _ (by omega) h0.2]
      exact Or.inr ⟨z6, z7, z8⟩
  · obtain ⟨z1, d, z2, z3, z4, z5, z6⟩ := h10 z
    exact ⟨z1, d, z2, z3, z4, cg _ z5, z6⟩
def PTT (w : MS) (SN a b m m2 L : Nat) : Prop := ∃ pM pE : Nat → Nat, pE a = b ∧ a < b ∧ pM a = m ∧ pM b = m2 ∧ (∀ k, a ≤ k → k ≤ b → pM k ≤ m2) ∧ ∀ k, a ≤ k → k < b → PW w pM pE b SN L k
theorem PTT_lt (h : PTT w SN a b m m2 L) : a < b ∧ m ≤ m2 := by
  obtain ⟨pM, pE, h1, h2, h3, h4, h5, h6⟩ := h
  exact ⟨h2, by rw [← h3]; exact h5 a (Nat.le_refl _) (by omega)⟩
theorem PTT_ag (h : PTT w SN a b m m2 L) (er : ∀ r i, r ∈ [33, 35, 36, 38] → a ≤ i → i < b → A w2 r i = A w r i) (e37 : ∀ i, a < i → i < b → A w2 37 i = A w 37 i) (hl : L ≤ L2) : PTT w2 SN a b m m2 L2 := by
  obtain ⟨pM, pE, h1, h2, h3, h4, h5, h6⟩ := h
  refine ⟨pM, pE, h1, h2, h3, h4, h5, fun k k1 k2 => ?_⟩
  have p := h6 k k1 k2
  have pb := p.2.1
  exact PW_cg p (fun x x1 x2 => (h6 x (by omega) (by omega)).1) (fun _ _ _ => rfl) (fun _ _ _ => rfl) (fun r hr => er r k hr k1 k2) (fun x x1 x2 => e37 x (by omega) (by omega)) (Nat.le_refl _) hl
def JND (w : MS) (SN j : Nat) (e mm : Nat → Nat) (L : Nat) : Prop := ∃ pM pE : Nat → Nat, (∀ i, i < j → pE (e i) = e (i + 1)) ∧ (∀ i, i ≤ j → pM (e i) = mm i) ∧ (∀ k, e 0 ≤ k → k ≤ e j → pM k ≤ mm j) ∧ ∀ k, e 0 ≤ k → k < e j → PW w pM pE (e j) SN L k
theorem JND_le (h : ∀ i, i < j → PTT w SN (e i) (e (i + 1)) (mm i) (mm (i + 1)) L) : ∀ i, i ≤ j → e 0 ≤ e i ∧ mm 0 ≤ mm i := by
  intro i
  induction i with
  | zero => intro _; exact ⟨Nat.le_refl _, Nat.le_refl _⟩
  | succ i ih =>
    intro hi
    have := ih (by omega)
    have := PTT_lt (h i (by omega))
    omega
theorem JND_of : ∀ j, (∀ i, i < j → PTT w SN (e i) (e (i + 1)) (mm i) (mm (i + 1)) L) → JND w SN j e mm L := by
  intro j
  induction j with
  | zero =>
    intro _
    exact ⟨fun _ => mm 0, id, fun i hi => by omega, fun i hi => by rw [show i = 0 by omega], fun k _ _ => Nat.le_refl _, fun k h1 h2 => by omega⟩
  | succ j ih =>
    intro h
    obtain ⟨pM, pE, a1, a2, a3, a4⟩ := ih (fun i hi => h i (by omega))
    obtain ⟨qM, qE, b1, b2, b3, b4, b5, b6⟩ := h j (by omega)
    have hm := (PTT_lt (h j (by omega))).2
    have h0 := (JND_le (j := j) (fun i (hi : i < j) => h i (by omega)) j (Nat.le_refl _)).1
    have lt1 : ∀ d i, i + d < j → e i < e (i + d + 1) := by
      intro d
      induction d with
      | zero => intro i hi; exact (PTT_lt (h i (by omega))).1
      | succ d ihd =>
        intro i hi
        have h1 := ihd i (by omega)
        have h2 := (PTT_lt (h (i + d + 1) (by omega))).1
        rw [show i + (d + 1) + 1 = i + d + 1 + 1 from by omega]
        omega
    have lt2 : ∀ i, i < j → e i < e j := fun i hi => by
      have := lt1 (j - i - 1) i (by omega)
      rwa [show i + (j - i - 1) + 1 = j from by omega] at this
    refine ⟨fun k => if k < e j then pM k else qM k, fun k => if k < e j then pE k else qE k, fun i hi => ?_, fun i hi => ?_, fun k h1 h2 => ?_, fun k h1 h2 => ?_⟩
    · by_cases z : i = j
      · subst z; simp only [if_neg (Nat.lt_irrefl _)]; exact b1
      · simp only [if_pos (lt2 i (by omega))]; exact a1 i (by omega)
    · by_cases z : i = j + 1
      · subst z; simp only [if_neg (show ¬ e (j + 1) < e j by omega)]; exact b4
      · by_cases z2 : i = j
        · subst z2; simp only [if_neg (Nat.lt_irrefl _)]; exact b3
        · simp only [if_pos (lt2 i (by omega))]; exact a2 i (by omega)
    · by_cases z : k < e j
      · simp only [if_pos z]; have := a3 k h1 (by omega); omega
      · simp only [if_neg z]; exact b5 k (by omega) h2
    · by_cases z : k < e j
      · have p := a4 k h1 z
        have pb := p.2.1
        refine PW_cg p (fun x x1 x2 => (a4 x (by omega) (by omega)).1) (fun x x1 x2 => by simp only [if_pos (show x < e j by omega)]) (fun x x1 x2 => ?_) (fun r _ => rfl) (fun x _ _ => rfl) (by omega) (Nat.le_refl _)
        by_cases y : x < e j
        · simp only [if_pos y]
        · obtain rfl : x = e j := by omega
          simp only [if_neg (Nat.lt_irrefl _)]
          rw [b3, a2 j (Nat.le_refl _)]
      · have p := b6 k (by omega) h2
        exact PW_cg p (fun x x1 x2 => (b6 x (by omega) (by have := p.2.1; omega)).1) (fun x x1 x2 => by simp only [if_neg (show ¬ x < e j by omega)]) (fun x x1 x2 => by simp only [if_neg (show ¬ x < e j by omega)]) (fun r _ => rfl) (fun x _ _ => rfl) (Nat.le_refl _) (Nat.le_refl _)
theorem chi_e (h : ∀ i, i < j → pE (e i) = e (i + 1)) : ∀ i, i ≤ j → chi pE (e 0) i = e i := by
  intro i
  induction i with
  | zero => intro _; rfl
  | succ i ih =>
    intro hi
    show pE (chi pE (e 0) i) = _
    rw [ih (by omega)]
    exact h i (by omega)
def LNK (w : MS) (j : Nat) (e : Nat → Nat) : Prop := (∀ i, i + 1 < j → A w 37 (e i) = ((e (i + 1) : Nat) : Int)) ∧ (0 < j → A w 37 (e (j - 1)) = -1)
theorem PTT_e (h : ∀ i, i < j → PTT w SN (e i) (e (i + 1)) (mm i) (mm (i + 1)) L) : ∀ i, i < j → e i < e j := by
  intro i hi
  have := JND_le (e := fun t => e (i + t)) (mm := fun t => mm (i + t)) (j := j - i) (L := L) (SN := SN) (w := w) (fun t ht => h (i + t) (by omega)) (j - i) (Nat.le_refl _)
  have h1 := PTT_lt (h i hi)
  have h2 := JND_le (e := fun t => e (i + 1 + t)) (mm := fun t => mm (i + 1 + t)) (j := j - i - 1) (L := L) (SN := SN) (w := w) (fun t ht => h (i + 1 + t) (by omega)) (j - i - 1) (Nat.le_refl _)
  have h3 : i + 1 + (j - i - 1) = j := by omega
  simp only [h3, Nat.add_zero] at h2
  omega
theorem CHN_e (h : ∀ i, i < j → PTT w SN (e i) (e (i + 1)) (mm i) (mm (i + 1)) L) (l : LNK w j e) (hE : ∀ i, i < j → pE (e i) = e (i + 1)) : CHN w pE (e 0) j (e j) := by
  have c := chi_e hE
  exact ⟨c j (Nat.le_refl _), fun i hi => by rw [c i (by omega)]; exact PTT_e h i hi, fun i hi => by rw [c i (by omega), c (i + 1) (by omega)]; exact l.1 i hi⟩
theorem PTT_row (h : ∀ i, i < j → PTT w SN (e i) (e (i + 1)) (mm i) (mm (i + 1)) L) (l : LNK w j e) (h0 : e 0 = q + 1) (hk : (A w 33 q = 5 ∧ A w 35 q = j ∧ j ≤ 8 ∧ (j = 0 → A w 36 q = -1)) ∨ (A w 33 q = 6 ∧ A w 38 q = 0 ∧ A w 35 q = j ∧ j ≤ 8) ∨ (A w 33 q = 6 ∧ A w 38 q ≠ 0 ∧ 2 ≤ j ∧ A w 35 q = ((j - 1 : Nat) : Int) ∧ j ≤ 9)) (h36 : 0 < j → A w 36 q = ((q + 1 : Nat) : Int)) : PTT w SN q (e j) (mm 0) (mm j) L := by
  obtain ⟨pM, pE, a1, a2, a3, a4⟩ := JND_of j h
  have hl := JND_le h j (Nat.le_refl _)
  have c0 := CHN_e h l a1
  rw [h0] at c0
  have hx : ∀ x, q + 1 ≤ x → x < e j → x < pE x := fun x x1 x2 => (a4 x (by omega) x2).1
  have c1 : CHN w (fun k => if k = q then e j else pE k) (q + 1) j (e j) := CHN_cg c0 hx (fun x x1 x2 => by simp only [if_neg (show x ≠ q by omega)]) (fun _ _ _ => rfl)
  have ch : ∀ i, i ≤ j → chi (fun k => if k = q then e j else pE k) (q + 1) i = e i := fun i hi => by
    rw [chi_cg (chi_in c0 hx) (fun x x1 x2 => by simp only [if_neg (show x ≠ q by omega)]) i hi, ← h0]
    exact chi_e a1 i hi
  refine ⟨fun k => if k = q then mm 0 else pM k, fun k => if k = q then e j else pE k, by simp only [if_true], by omega, by simp only [if_true], ?_, fun k k1 k2 => ?_, fun k k1 k2 => ?_⟩
  · simp only [if_neg (show e j ≠ q by omega)]; exact a2 j (Nat.le_refl _)
  · by_cases z : k = q
    · simp only [if_pos z]; omega
    · simp only [if_neg z]; exact a3 k (by omega) k2
  · by_cases z : k = q
    · subst z
      have pm : (if k + 1 = k then mm 0 else pM (k + 1)) = mm 0 := by rw [if_neg (by omega), ← h0]; exact a2 0 (Nat.zero_le _)
      refine ⟨by simp only [if_true]; omega, by simp only [if_true]; exact Nat.le_refl _, by omega, by omega, fun y => by omega, fun y => by omega, fun y => by omega, fun y => by omega, fun y => ⟨by simp only [if_true]; exact pm, ?_⟩, fun y => ⟨by simp only [if_true]; exact pm, ?_⟩⟩
      · rcases hk with hk | hk | hk
        · refine ⟨j, hk.2.1, hk.2.2.1, by simp only [if_true]; exact c1, ?_⟩
          rcases Nat.eq_zero_or_pos j with z | z
          · exact Or.inl ⟨z, hk.2.2.2 z⟩
          · exact Or.inr ⟨z, h36 z, by rw [ch (j - 1) (by omega)]; exact l.2 z⟩
        · omega
        · omega
      · rcases hk with hk | hk | hk
        · omega
        · refine ⟨j, hk.2.2.1, hk.2.2.2, Or.inl hk.2.1, by rw [if_pos hk.2.1]; simp only [if_true]; exact c1, ?_⟩
          rcases Nat.eq_zero_or_pos j with z | z
          · exact Or.inl z
          · exact Or.inr (h36 z)
        · refine ⟨j - 1, hk.2.2.2.1, by omega, Or.inr (by omega), by rw [if_neg hk.2.1, show j - 1 + 1 = j by omega]; simp only [if_true]; exact c1, Or.inr (h36 (by omega))⟩
    · have p := a4 k (by omega) k2
      refine PW_cg p (fun x x1 x2 => hx x (by omega) (by have := p.2.1; omega)) (fun x x1 x2 => by simp only [if_neg (show x ≠ q by omega)]) (fun x x1 x2 => by simp only [if_neg (show x ≠ q by omega)]) (fun r _ => rfl) (fun x _ _ => rfl) (Nat.le_refl _) (Nat.le_refl _)
theorem PTT_one (hk : (A w 33 q = 0 ∧ m2 = m) ∨ (A w 33 q = 3 ∧ m2 = m) ∨ (A w 33 q = 1 ∧ m2 = m + 1) ∨ (A w 33 q = 2 ∧ m2 = m ∧ NCO (A w 35 q) m L) ∨ (A w 33 q = 4 ∧ m2 = m ∧ 0 ≤ A w 35 q ∧ A w 35 q < SN)) : PTT w SN q (q + 1) m m2 L := by
  refine ⟨fun k => if k = q then m else m2, fun k => k + 1, rfl, by omega, if_pos rfl, if_neg (by omega), fun k k1 k2 => ?_, fun k k1 k2 => ?_⟩
  · by_cases z : k = q
    · simp only [if_pos z]; omega
    · simp only [if_neg z]; exact Nat.le_refl _
  · obtain rfl : k = q := by omega
    obtain ⟨pM, hM⟩ : ∃ pM : Nat → Nat, pM = fun i => if i = k then m else m2 := ⟨_, rfl⟩
    have e1 : pM k = m := by rw [hM]; exact if_pos rfl
    have e2 : pM (k + 1) = m2 := by rw [hM]; exact if_neg (by omega)
    rw [← hM]
    clear hM
    unfold PW
    rw [e1, e2]
    rcases hk with hk | hk | hk | hk | hk
    · exact ⟨by omega, Nat.le_refl _, by omega, by omega, fun y => ⟨hk.2, rfl⟩, fun y => by omega, fun y => by omega, fun y => by omega, fun y => by omega, fun y => by omega⟩
    · exact ⟨by omega, Nat.le_refl _, by omega, by omega, fun y => ⟨hk.2, rfl⟩, fun y => by omega, fun y => by omega, fun y => by omega, fun y => by omega, fun y => by omega⟩
    · exact ⟨by omega, Nat.le_refl _, by omega, by omega, fun y => by omega, fun y => ⟨hk.2, rfl⟩, fun y => by omega, fun y => by omega, fun y => by omega, fun y => by omega⟩
    · exact ⟨by omega, Nat.le_refl _, by omega, by omega, fun y => by omega, fun y => by omega, fun y => ⟨hk.2.1, rfl, hk.2.2⟩, fun y => by omega, fun y => by omega, fun y => by omega⟩
    · exact ⟨by omega, Nat.le_refl _, by omega, by omega, fun y => by omega, fun y => by omega, fun y => by omega, fun y => ⟨hk.2.1, rfl, hk.2.2⟩, fun y => by omega, fun y => by omega⟩
def brk (u0 : MS) (i : Nat) : Int := if A u0 6 i = 6 then (if A u0 7 i = 0 ∨ A u0 7 i = 2 ∨ A u0 7 i = 4 then 1 else if A u0 7 i = 1 ∨ A u0 7 i = 3 ∨ A u0 7 i = 5 then -1 else 0) else 0
def bsum (u0 : MS) : Nat → Int
  | 0 => 0
  | n + 1 => bsum u0 n + brk u0 n
def PEND (u0 : MS) (a b : Nat) : Prop := (A u0 6 a ≠ 6 ∧ b = a + 1) ∨ (A u0 6 a = 6 ∧ A u0 7 a = 19 ∧ b = a + 2 ∧ brk u0 (a + 1) = 0) ∨ (brk u0 a = 1 ∧ a < b ∧ bsum u0 b = bsum u0 a ∧ ∀ i, a < i → i < b → bsum u0 a < bsum u0 i)
theorem brk_6 {u0 : MS} (h : brk u0 a = 1) : A u0 6 a = 6 ∧ A u0 7 a ≠ 19 := by
  unfold brk at h
  by_cases e : A u0 6 a = 6
  · rw [if_pos e] at h
    refine ⟨e, fun z => ?_⟩
    rw [z] at h
    simp at h
  · rw [if_neg e] at h; omega
theorem PEND_eq {u0 : MS} {b2 : Nat} (h : PEND u0 a b) (h2 : PEND u0 a b2) : b = b2 := by
  rcases h with h | h | h
  · rcases h2 with h2 | h2 | h2
    · omega
    · omega
    · exact absurd (brk_6 h2.1).1 h.1
  · rcases h2 with h2 | h2 | h2
    · exact absurd h.1 h2.1
    · omega
    · exact absurd h.2.1 (brk_6 h2.1).2
  · rcases h2 with h2 | h2 | h2
    · exact absurd (brk_6 h.1).1 h2.1
    · exact absurd h2.2.1 (brk_6 h.1).2
    · rcases Nat.lt_trichotomy b b2 with z | z | z
      · have := h2.2.2.2 b h.2.1 z; omega
      · exact z
      · have := h.2.2.2 b2 h2.2.1 z; omega
theorem PEND_b {u0 : MS} (h : PEND u0 a b) : a < b ∧ bsum u0 b = bsum u0 a ∧ ∀ i, a ≤ i → i ≤ b → bsum u0 a ≤ bsum u0 i := by
  rcases h with h | h | h
  · have e : bsum u0 (a + 1) = bsum u0 a := by show bsum u0 a + brk u0 a = _; unfold brk; rw [if_neg h.1]; omega
    refine ⟨by omega, by rw [h.2]; exact e, fun i h1 h2 => ?_⟩
    rcases Nat.lt_or_eq_of_le h1 with z | z
    · obtain rfl : i = a + 1 := by omega
      omega
    · rw [z]; exact Int.le_refl _
  · have e : bsum u0 (a + 1) = bsum u0 a := by show bsum u0 a + brk u0 a = _; unfold brk; rw [if_pos h.1, h.2.1]; simp
    have e2 : bsum u0 (a + 2) = bsum u0 a := by show bsum u0 (a + 1) + brk u0 (a + 1) = _; rw [h.2.2.2]; omega
    refine ⟨by omega, by rw [h.2.2.1]; exact e2, fun i h1 h2 => ?_⟩
    rcases Nat.lt_or_eq_of_le h1 with z | z
    · rcases Nat.lt_or_ge i (a + 2) with y | y
      · obtain rfl : i = a + 1 := by omega
        omega
      · obtain rfl : i = a + 2 := by omega
        omega
    · rw [z]; exact Int.le_refl _
  · refine ⟨h.2.1, h.2.2.1, fun i h1 h2 => ?_⟩
    rcases Nat.lt_or_eq_of_le h1 with z | z
    · rcases Nat.lt_or_eq_of_le h2 with y | y
      · have := h.2.2.2 i z y; omega
      · rw [y, h.2.2.1]; exact Int.le_refl _
    · rw [z]; exact Int.le_refl _
def BIN2 (u0 : MS) (a b : Nat) : Prop := brk u0 a = 1 ∧ a < b ∧ bsum u0 b = bsum u0 a + 1 ∧ ∀ i, a < i → i ≤ b → bsum u0 a < bsum u0 i
theorem BIN2_0 {u0 : MS} (h : brk u0 a = 1) : BIN2 u0 a (a + 1) := by
  have e : bsum u0 (a + 1) = bsum u0 a + 1 := by show bsum u0 a + brk u0 a = _; rw [h]
  refine ⟨h, by omega, e, fun i h1 h2 => ?_⟩
  obtain rfl : i = a + 1 := by omega
  omega
theorem BIN2_p {u0 : MS} {c : Nat} (h : BIN2 u0 a b) (p : PEND u0 b c) : BIN2 u0 a c := by
  obtain ⟨h1, h2, h3, h4⟩ := h
  obtain ⟨p1, p2, p3⟩ := PEND_b p
  refine ⟨h1, by omega, by omega, fun i i1 i2 => ?_⟩
  rcases Nat.lt_or_ge i b with z | z
  · exact h4 i i1 (by omega)
  · have := p3 i z i2; omega
theorem BIN2_s {u0 : MS} (h : BIN2 u0 a b) (p : brk u0 b = 0) : BIN2 u0 a (b + 1) := by
  obtain ⟨h1, h2, h3, h4⟩ := h
  have e : bsum u0 (b + 1) = bsum u0 b := by show bsum u0 b + brk u0 b = _; rw [p]; omega
  refine ⟨h1, by omega, by omega, fun i i1 i2 => ?_⟩
  rcases Nat.lt_or_ge b i with z | z
  · obtain rfl : i = b + 1 := by omega
    omega
  · exact h4 i i1 z
theorem BIN2_c {u0 : MS} (h : BIN2 u0 a b) (p : brk u0 b = -1) : PEND u0 a (b + 1) := by
  obtain ⟨h1, h2, h3, h4⟩ := h
  have e : bsum u0 (b + 1) = bsum u0 b - 1 := by show bsum u0 b + brk u0 b = _; rw [p]; omega
  exact Or.inr (Or.inr ⟨h1, by omega, by omega, fun i i1 i2 => h4 i i1 (by omega)⟩)
end
