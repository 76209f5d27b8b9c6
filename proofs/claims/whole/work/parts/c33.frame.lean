/-! what a process is besides its terms stays where nothing of it is touched -/
set_option maxRecDepth 100000
/-- rows of a program -/
def PRr (k : Nat) : Prop := k = 8 ∨ k = 18 ∨ k = 19 ∨ (23 ≤ k ∧ k ≤ 31) ∨ (33 ≤ k ∧ k ≤ 45) ∨ (47 ≤ k ∧ k ≤ 57)
/-- numbers of process q, here, but for those of its cells and its BOX -/
def OWi (q K i : Nat) : Prop := ((K = 92 ∨ K = 94 ∨ K = 95 ∨ K = 106 ∨ K = 109 ∨ K = 110 ∨ K = 112 ∨ K = 113 ∨ K = 114 ∨ K = 115 ∨ K = 117 ∨ K = 170) ∧ i = q) ∨ ((96 ≤ K ∧ K ≤ 101) ∧ 60 * q ≤ i ∧ i < 60 * q + 60) ∨ ((102 ≤ K ∧ K ≤ 105) ∧ 1600 * q ≤ i ∧ i < 1600 * q + 1600) ∨ (K = 116 ∧ 24 * q ≤ i ∧ i < 24 * q + 24)
/-- program and atoms are the same -/
def PG0 (m w m2 w2 : MS) : Prop := (m2.2.2.1 23 = m.2.2.1 23 ∧ m2.1 22 = m.1 22 ∧ ATc m2 = ATc m) ∧ (∀ K, PRr K → w2.2.2.1 K = w.2.2.1 K) ∧ w2.2.2.2 34 = w.2.2.2 34 ∧ w2.2.2.1 12 = w.2.2.1 12 ∧ w2.2.2.1 13 = w.2.2.1 13 ∧ w2.1 14 = w.1 14
/-- and what the machine holds -/
def PGs (m w m2 w2 : MS) : Prop := PG0 m w m2 w2 ∧ (∀ k, 1100 ≤ k → k < 1120 → m2.1 k = m.1 k ∧ m2.2.1 k = m.2.1 k) ∧ ∀ k, k = 133 ∨ (151 ≤ k ∧ k ≤ 165) → w2.1 k = w.1 k
/-- nothing of it is touched, there, here -/
def EQm (q : Nat) (m m2 : MS) : Prop := (∀ k, k < 100 → k ∉ [4, 5, 7] → m2.1 (pq q k) = m.1 (pq q k)) ∧ (∀ k, k < 100 → k ≠ 16 → m2.2.1 (pq q k) = m.2.1 (pq q k)) ∧ (∀ k, k < 100 → m2.2.2.1 (pq q k) = m.2.2.1 (pq q k)) ∧ m2.2.2.1 23 = m.2.2.1 23
def EQn (q : Nat) (m m2 : MS) : Prop := (∀ k, k < 100 → k ∉ [4, 5, 7, 12, 15] → m2.1 (pq q k) = m.1 (pq q k)) ∧ (∀ k, k < 100 → k ≠ 16 → m2.2.1 (pq q k) = m.2.1 (pq q k)) ∧ (∀ k, k < 100 → k ≠ 14 → m2.2.2.1 (pq q k) = m.2.2.1 (pq q k)) ∧ m2.2.2.1 23 = m.2.2.1 23
/-- but for its links and its name -/
def EQv (q : Nat) (w w2 : MS) : Prop := (∀ K i, OWi q K i → K ≠ 116 → K ≠ 117 ∧ K ≠ 113 → w2.2.2.1 K i = w.2.2.1 K i) ∧ w2.2.2.2 111 q = w.2.2.2 111 q ∧ (∀ K, PRr K → w2.2.2.1 K = w.2.2.1 K) ∧ w2.2.2.2 34 = w.2.2.2 34
def EQw (q : Nat) (w w2 : MS) : Prop := (∀ K i, OWi q K i → w2.2.2.1 K i = w.2.2.1 K i) ∧ w2.2.2.2 111 q = w.2.2.2 111 q ∧ (∀ K, PRr K → w2.2.2.1 K = w.2.2.1 K) ∧ w2.2.2.2 34 = w.2.2.2 34
section
variable {m w m2 w2 m3 w3 : MS} {q f j r U B W Y : Nat} {nb : Nat → Nat} {Hs Os : Nat → List Nat} {b : Int → Nat → Nat → Prop}
theorem EQm.tr (h1 : EQm q m m2) (h2 : EQm q m2 m3) : EQm q m m3 := ⟨fun k a c => (h2.1 k a c).trans (h1.1 k a c), fun k a c => (h2.2.1 k a c).trans (h1.2.1 k a c), fun k a => (h2.2.2.1 k a).trans (h1.2.2.1 k a), h2.2.2.2.trans h1.2.2.2⟩
theorem EQw.tr (h1 : EQw q w w2) (h2 : EQw q w2 w3) : EQw q w w3 := ⟨fun K i a => (h2.1 K i a).trans (h1.1 K i a), h2.2.1.trans h1.2.1, fun K a => (h2.2.2.1 K a).trans (h1.2.2.1 K a), h2.2.2.2.trans h1.2.2.2⟩
theorem EQm.rf : EQm q m m := ⟨fun _ _ _ => rfl, fun _ _ _ => rfl, fun _ _ => rfl, rfl⟩
theorem EQw.rf : EQw q w w := ⟨fun _ _ _ => rfl, rfl, fun _ _ => rfl, rfl⟩
theorem ROs_eq (h : ∀ K, PRr K → w2.2.2.1 K = w.2.2.1 K) : ROs w2 = ROs w := by
  funext k i
  unfold ROs
  by_cases c : k = 8 ∨ k = 18 ∨ k = 19 ∨ (23 ≤ k ∧ k ≤ 31) ∨ (33 ≤ k ∧ k ≤ 45) ∨ (47 ≤ k ∧ k ≤ 57)
  · rw [if_pos c, if_pos c]
    show (w2.2.2.1 k i).toInt = (w.2.2.1 k i).toInt
    rw [h k c]
  · rw [if_neg c, if_neg c]
theorem FA_w (s : FAs m w q j nb Hs Os) (h1a : ∀ k, k = 21 ∨ k = 24 → m2.1 (pq q k) = m.1 (pq q k)) (h1c : ∀ k, k = 30 ∨ k = 32 → m2.2.2.1 (pq q k) = m.2.2.1 (pq q k)) (h1d : m2.2.2.1 23 = m.2.2.1 23) (h2q : w2.2.2.1 95 q = w.2.2.1 95 q) (h2f : ∀ K r, 96 ≤ K → K ≤ 101 → r ≤ j → (K = 98 → r < j) → w2.2.2.1 K (60 * q + r) = w.2.2.1 K (60 * q + r)) (h2c : ∀ K, PRr K → w2.2.2.1 K = w.2.2.1 K) (h2d : w2.2.2.2 34 = w.2.2.2 34) : FAs m2 w2 q j nb Hs Os := by
  obtain ⟨⟨f1, f2, f3⟩, f4, f5, f6⟩ := s
  have hF : ∀ k, k = 21 ∨ k = 24 → F m2 (pq q k) = F m (pq q k) := fun k c => congrArg Int32.toInt (h1a k c)
  have hR : ∀ k, k = 30 ∨ k = 32 → A m2 (pq q k) = A m (pq q k) := fun k c => by funext i; show (m2.2.2.1 (pq q k) i).toInt = _; rw [h1c k c]; rfl
  have h23 : A m2 23 = A m 23 := by funext i; show (m2.2.2.1 23 i).toInt = _; rw [h1d]; rfl
  have hP : ∀ K, PRr K → A w2 K = A w K := fun K a => by funext i; show (w2.2.2.1 K i).toInt = _; rw [h2c K a]; rfl
  have hRO := ROs_eq h2c
  refine ⟨⟨?_, ?_, f3⟩, ?_, ?_, ?_⟩
  · rw [hF 21 (by omega)]; exact f1
  · show (w2.2.2.1 95 q).toInt = _; rw [h2q]; exact f2
  · intro r hr
    obtain ⟨g1, g2, ⟨g3, g4⟩, g5, g6, g7⟩ := f4 r hr
    have ar : ∀ K, K = 96 ∨ K = 97 ∨ K = 99 ∨ K = 100 ∨ K = 101 → A w2 K (60 * q + r) = A w K (60 * q + r) := fun K c => congrArg Int32.toInt (h2f K r (by omega) (by omega) hr (by omega))
    refine ⟨by rw [hR 30 (by omega), ar 96 (by omega)]; exact g1, ?_, ⟨by rw [hR 30 (by omega)]; exact g3, by rw [ar 99 (by omega)]; exact g4⟩, by rw [hR 30 (by omega), ar 100 (by omega)]; exact g5, by rw [ar 101 (by omega)]; exact g6, fun i x hx => by rw [hR 32 (by omega)]; exact g7 i x hx⟩
    rw [hR 30 (by omega), ar 97 (by omega)]
    rcases g2 with g2 | ⟨k, t, k1, k2, k3⟩
    · exact Or.inl g2
    · exact Or.inr ⟨k, t, k1, by rw [hP 44 (by unfold PRr; omega)]; exact k2, by rw [hP 8 (by unfold PRr; omega)]; exact k3⟩
  · intro r hr
    obtain ⟨g1, a, n, g2, g3, g4⟩ := f5 r hr
    exact ⟨g1, a, n, by rw [hR 30 (by omega)]; exact g2, by show (w2.2.2.1 98 (60 * q + r)).toInt = _; rw [h2f 98 r (by omega) (by omega) (by omega) (fun _ => hr)]; exact g3, by rw [h23, hRO, h2d]; exact g4⟩
  · rw [hF 24 (by omega)]; exact f6
theorem CT_w (s : CTs m w q j nb Hs Os) (h1a : m2.1 (pq q 28) = m.1 (pq q 28)) (h1c : m2.2.2.1 (pq q 37) = m.2.2.1 (pq q 37)) (h1d : m2.2.2.1 23 = m.2.2.1 23) (h2q : w2.2.2.1 106 q = w.2.2.1 106 q) (h2k : ∀ K c, 102 ≤ K → K ≤ 105 → c < 1600 → w2.2.2.1 K (1600 * q + c) = w.2.2.1 K (1600 * q + c)) (h2c : ∀ K, PRr K → w2.2.2.1 K = w.2.2.1 K) (h2d : w2.2.2.2 34 = w.2.2.2 34) : CTs m2 w2 q j nb Hs Os := by
  obtain ⟨n, c1, c2, c3, c5, c4⟩ := s
  have hR : A m2 (pq q 37) = A m (pq q 37) := by funext i; show (m2.2.2.1 (pq q 37) i).toInt = _; rw [h1c]; rfl
  have h23 : A m2 23 = A m 23 := by funext i; show (m2.2.2.1 23 i).toInt = _; rw [h1d]; rfl
  have hP : ∀ K, PRr K → A w2 K = A w K := fun K a => by funext i; show (w2.2.2.1 K i).toInt = _; rw [h2c K a]; rfl
  have hRO := ROs_eq h2c
  refine ⟨n, ?_, ?_, c3, ?_, ?_⟩
  · show (m2.1 (pq q 28)).toInt = _; rw [h1a]; exact c1
  · show (w2.2.2.1 106 q).toInt = _; rw [h2q]; exact c2
  · intro c hc
    have e : ∀ K c, 102 ≤ K → K ≤ 105 → c < 1600 → A w2 K (1600 * q + c) = A w K (1600 * q + c) := fun K c a1 a2 a3 => congrArg Int32.toInt (h2k K c a1 a2 a3)
    rw [e 102 c (by omega) (by omega) (by omega), e 102 (c + 1) (by omega) (by omega) (by omega), e 105 c (by omega) (by omega) (by omega), e 105 (c + 1) (by omega) (by omega) (by omega)]
    exact c5 c hc
  · intro c hc
    obtain ⟨r, k, a, nd, nn, k1, k2, k3, k4, k5, k6, k7, k8, k9, k10, k11⟩ := c4 c hc
    have ar : ∀ K, 102 ≤ K → K ≤ 105 → A w2 K (1600 * q + c) = A w K (1600 * q + c) := fun K c1 c2 => congrArg Int32.toInt (h2k K c c1 c2 (by omega))
    refine ⟨r, k, a, nd, nn, k1, ?_, ?_, ?_, ?_, k6, ?_, ?_, ?_, ?_, ?_⟩
    · rw [hR]; exact k2
    · rw [ar 102 (by omega) (by omega)]; exact k3
    · rw [hR]; exact k4
    · rw [ar 105 (by omega) (by omega)]; exact k5
    · rw [hR, ar 104 (by omega) (by omega)]; exact k7
    · rw [hR]; exact k8
    · rw [ar 103 (by omega) (by omega)]; exact k9
    · rw [hP 25 (by unfold PRr; omega)]; exact k10
    · rw [h23, hRO, h2d]; exact k11
theorem FC_w (s : FAs m w q j nb Hs Os ∧ CTs m w q j nb Hs Os) (h1a : ∀ k, k = 21 ∨ k = 24 ∨ k = 28 → m2.1 (pq q k) = m.1 (pq q k)) (h1c : ∀ k, k = 30 ∨ k = 32 ∨ k = 37 → m2.2.2.1 (pq q k) = m.2.2.1 (pq q k)) (h1d : m2.2.2.1 23 = m.2.2.1 23) (h2q : ∀ K, K = 95 ∨ K = 106 → w2.2.2.1 K q = w.2.2.1 K q) (h2f : ∀ K r, 96 ≤ K → K ≤ 101 → r ≤ j → (K = 98 → r < j) → w2.2.2.1 K (60 * q + r) = w.2.2.1 K (60 * q + r)) (h2k : ∀ K c, 102 ≤ K → K ≤ 105 → c < 1600 → w2.2.2.1 K (1600 * q + c) = w.2.2.1 K (1600 * q + c)) (h2c : ∀ K, PRr K → w2.2.2.1 K = w.2.2.1 K) (h2d : w2.2.2.2 34 = w.2.2.2 34) : FAs m2 w2 q j nb Hs Os ∧ CTs m2 w2 q j nb Hs Os := ⟨FA_w s.1 (fun k c => h1a k (by omega)) (fun k c => h1c k (by omega)) h1d (h2q 95 (by omega)) h2f h2c h2d, CT_w s.2 (h1a 28 (by omega)) (h1c 37 (by omega)) h1d (h2q 106 (by omega)) h2k h2c h2d⟩
theorem FC_eq (s : FAs m w q j nb Hs Os ∧ CTs m w q j nb Hs Os) (h1 : EQn q m m2) (h2 : EQv q w w2) : FAs m2 w2 q j nb Hs Os ∧ CTs m2 w2 q j nb Hs Os := by
  have hj : j < 60 := s.1.1.2.2
  exact FC_w s (fun k c => h1.1 k (by omega) (by simp; omega)) (fun k c => h1.2.2.1 k (by omega) (by omega)) h1.2.2.2 (fun K c => h2.1 K q (Or.inl ⟨by omega, rfl⟩) (by omega) (by omega)) (fun K r c1 c2 c3 _ => h2.1 K _ (Or.inr (Or.inl ⟨⟨c1, c2⟩, by omega, by omega⟩)) (by omega) (by omega)) (fun K c c1 c2 c3 => h2.1 K _ (Or.inr (Or.inr (Or.inl ⟨⟨c1, c2⟩, by omega, by omega⟩))) (by omega) (by omega)) h2.2.2.1 h2.2.2.2
theorem ST_eq (hj : j < 60) {H O : List Nat} (s : STs9 m w q j H O) (h1 : EQn q m m2) (h2 : EQv q w w2) : STs9 m2 w2 q j H O := by
  obtain ⟨a0, d1, d2⟩ := s
  obtain ⟨h1a, h1b, h1c, h1d⟩ := h1
  obtain ⟨h2a, h2b, h2c, h2d⟩ := h2
  have hF : ∀ k, k < 100 → k ∉ [4, 5, 7, 12, 15] → F m2 (pq q k) = F m (pq q k) := fun k a c => congrArg Int32.toInt (h1a k a c)
  have hR : ∀ k, k < 100 → k ≠ 14 → A m2 (pq q k) = A m (pq q k) := fun k a c => by funext i; show (m2.2.2.1 (pq q k) i).toInt = _; rw [h1c k a c]; rfl
  have h23 : A m2 23 = A m 23 := by funext i; show (m2.2.2.1 23 i).toInt = _; rw [h1d]; rfl
  have hA : ∀ K i, OWi q K i → K ≠ 116 → K ≠ 117 ∧ K ≠ 113 → A w2 K i = A w K i := fun K i a c d => congrArg Int32.toInt (h2a K i a c d)
  have hP : ∀ K, PRr K → A w2 K = A w K := fun K a => by funext i; show (w2.2.2.1 K i).toInt = _; rw [h2c K a]; rfl
  have hRO := ROs_eq h2c
  have oq : ∀ K, (K = 92 ∨ K = 94 ∨ K = 95 ∨ K = 106 ∨ K = 109 ∨ K = 110 ∨ K = 112 ∨ K = 113 ∨ K = 114 ∨ K = 115 ∨ K = 117 ∨ K = 170) → OWi q K q := fun K c => Or.inl ⟨c, rfl⟩
  have of : ∀ K r, 96 ≤ K → K ≤ 101 → r < 60 → OWi q K (60 * q + r) := fun K r c1 c2 c3 => Or.inr (Or.inl ⟨⟨c1, c2⟩, by omega, by omega⟩)
  have oc : ∀ K c, 102 ≤ K → K ≤ 105 → c < 1600 → OWi q K (1600 * q + c) := fun K r c1 c2 c3 => Or.inr (Or.inr (Or.inl ⟨⟨c1, c2⟩, by omega, by omega⟩))
  refine ⟨a0, ?_, ?_⟩
  · rw [hR 30 (by omega) (by omega)]; exact d1
  · have a98 : A w2 98 (60 * q + j) = A w 98 (60 * q + j) := hA 98 _ (of 98 j (by omega) (by omega) hj) (by omega) (by omega)
    have a109 : A w2 109 q = A w 109 q := hA 109 q (oq _ (by omega)) (by omega) (by omega)
    rcases d2 with ⟨g1, g2, n, g3, g4⟩ | ⟨g1, g2, g3, g4, c, g5, g6⟩ | ⟨g1, g2, g3, g4, g5, n, g6, g7, g8, g9⟩
    · exact Or.inl ⟨by rw [hF 9 (by omega) (by simp)]; exact g1, by rw [a109]; exact g2, n, by rw [a98]; exact g3, by rw [h23, hRO, h2d]; exact g4⟩
    · have a96 : A w2 96 (60 * q) = A w 96 (60 * q) := hA 96 _ (of 96 0 (by omega) (by omega) (by omega)) (by omega) (by omega)
      refine Or.inr (Or.inl ⟨by rw [hF 9 (by omega) (by simp)]; exact g1, by rw [a109]; exact g2, g3, g4, c, ?_, ?_⟩)
      · rw [a96, hP 50 (by unfold PRr; omega), hA 170 q (oq _ (by omega)) (by omega) (by omega), hP 53 (by unfold PRr; omega)]
        exact g5
      · rw [h23, hRO, h2d]
        exact g6
    · have e8 : F m2 (pq q 8) = A w2 110 q := by rw [hF 8 (by omega) (by simp), hA 110 q (oq _ (by omega)) (by omega) (by omega)]; exact g4
      refine Or.inr (Or.inr ⟨by rw [hF 9 (by omega) (by simp)]; exact g1, by rw [a109]; exact g2, Or.inr e8, e8, by rw [h1b 10 (by omega) (by omega), h2b]; exact g5, n, by rw [a98]; exact g6, by rw [hP 23 (by unfold PRr; omega)]; exact g7, by rw [hP 27 (by unfold PRr; omega)]; exact g8, ?_⟩)
      rw [h23, hRO, h2d]
      exact g9
theorem SC_eq (s : SCs q m w) (hb : F m (pq q 15) ≤ 24) (h1 : EQm q m m2) (h2 : EQw q w w2) : SCs q m2 w2 := by
  obtain ⟨s1, s2, s3, s4, s5, s6⟩ := s
  have oq : ∀ K, (K = 92 ∨ K = 94 ∨ K = 95 ∨ K = 106 ∨ K = 109 ∨ K = 110 ∨ K = 112 ∨ K = 113 ∨ K = 114 ∨ K = 115 ∨ K = 117 ∨ K = 170) → OWi q K q := fun K c => Or.inl ⟨c, rfl⟩
  refine ⟨?_, ?_, ?_, ?_, ?_, ?_⟩
  · rw [h1.1 12 (by omega) (by simp), h2.1 113 q (oq _ (by omega))]; exact s1
  · rw [h1.1 13 (by omega) (by simp), h2.1 114 q (oq _ (by omega))]; exact s2
  · rw [h1.1 11 (by omega) (by simp), h2.1 112 q (oq _ (by omega))]; exact s3
  · rw [h1.1 15 (by omega) (by simp), h2.1 117 q (oq _ (by omega))]; exact s4
  · rw [h1.1 29 (by omega) (by simp), h2.1 115 q (oq _ (by omega))]; exact s5
  · intro i hi
    have e15 : F m2 (pq q 15) = F m (pq q 15) := congrArg Int32.toInt (h1.1 15 (by omega) (by simp))
    rw [e15] at hi
    rw [h1.2.2.1 14 (by omega), h2.1 116 (24 * q + i) (Or.inr (Or.inr (Or.inr ⟨rfl, by omega, by omega⟩)))]
    exact s6 i hi
theorem EQm.n (h1 : EQm q m m2) : EQn q m m2 := ⟨fun k a c => h1.1 k a (by simp at c ⊢; omega), h1.2.1, fun k a _ => h1.2.2.1 k a, h1.2.2.2⟩
theorem EQw.v (h2 : EQw q w w2) : EQv q w w2 := ⟨fun K i a _ _ => h2.1 K i a, h2.2⟩
/-- another's, where a message comes -/
theorem EQm.xm (h : XMm q m m2) (r : Nat) : EQm r m m2 := by
  refine ⟨fun k hk hn => h.1 _ ?_, fun k _ _ => h.2.1 _ (by simp), fun k _ => h.2.2.1 _ (by simp), h.2.2.1 23 (by simp)⟩
  simp only [List.mem_cons, List.not_mem_nil, or_false] at hn ⊢
  intro c
  rcases c with c | c | c
  · exact hn (Or.inl (pq_e hk (by omega) c).2)
  · exact hn (Or.inr (Or.inl (pq_e hk (by omega) c).2))
  · exact hn (Or.inr (Or.inr (pq_e hk (by omega) c).2))
theorem EQw.fr {is ls as js : List Nat} (h : FR is ls as js w w2) (h1 : ∀ k, k ∈ as → k < 200 → ¬ PRr k ∧ k ∉ [92, 94, 95, 96, 97, 98, 99, 100, 101, 102, 103, 104, 105, 106, 109, 110, 112, 113, 114, 115, 116, 117, 170]) (h2 : 111 ∉ js ∧ 34 ∉ js) (r : Nat) : EQw r w w2 := by
  have g : ∀ K, K < 200 → (PRr K ∨ K ∈ [92, 94, 95, 96, 97, 98, 99, 100, 101, 102, 103, 104, 105, 106, 109, 110, 112, 113, 114, 115, 116, 117, 170]) → w2.2.2.1 K = w.2.2.1 K := fun K hK c => h.2.2.1 K (fun z => by
    obtain ⟨n1, n2⟩ := h1 K z hK
    rcases c with c | c
    · exact n1 c
    · exact n2 c)
  refine ⟨fun K i c => ?_, by rw [h.2.2.2 111 h2.1], fun K c => g K (by unfold PRr at c; omega) (Or.inl c), h.2.2.2 34 h2.2⟩
  have hK : K ∈ [92, 94, 95, 96, 97, 98, 99, 100, 101, 102, 103, 104, 105, 106, 109, 110, 112, 113, 114, 115, 116, 117, 170] := by
    simp only [List.mem_cons, List.not_mem_nil, or_false]
    rcases c with ⟨c, -⟩ | ⟨c, -⟩ | ⟨c, -⟩ | ⟨c, -⟩ <;> omega
  rw [g K (by simp only [List.mem_cons, List.not_mem_nil, or_false] at hK; omega) (Or.inr hK)]
theorem EQw.xm (h : XMr q w w2) (r : Nat) : EQw r w w2 := EQw.fr h.1 (fun k hk _ => by
  simp only [List.mem_cons, List.not_mem_nil, or_false] at hk ⊢
  unfold PRr
  omega) (by simp) r
theorem PLs_xm (p : PLs b r m w U B W Y) (hr : r ≠ q) (hb : W ≤ 46000 ∧ B ≤ 2500 ∧ Y ≤ 30) (f : XMm q m m2) (g : XMr q w w2) : PLs b r m2 w2 U B W Y := by
  obtain ⟨g1, g2, g3, g4, g5, g6⟩ := g
  have u5 := p.1.1.2.2
  have ni : ∀ k l, k < 100 → l < 100 → pq r k ≠ pq q l := fun k l hk hl z => hr (pq_e hk hl z).1
  have jm : ∀ k, k < 100 → m2.2.2.2 (pq r k) = m.2.2.2 (pq r k) := fun k hk => f.2.2.2 _ (by
    simp only [List.mem_cons, List.not_mem_nil, or_false]
    intro z
    rcases z with z | z | z | z | z | z
    · exact ni k 2 hk (by omega) z
    · exact ni k 3 hk (by omega) z
    · exact ni k 33 hk (by omega) z
    · exact ni k 35 hk (by omega) z
    · exact ni k 6 hk (by omega) z
    · unfold pq at z; omega)
  have ai : ∀ {x y : Int32}, x.toInt = y.toInt → x = y := fun h => Int32.toInt_inj.mp h
  refine PLs_cg p (fun k hk => f.1 _ (by
    have hk2 : k < 100 := by simp at hk; omega
    simp only [List.mem_cons, List.not_mem_nil, or_false]
    intro z
    rcases z with z | z | z
    · exact ni k 4 hk2 (by omega) z
    · exact ni k 5 hk2 (by omega) z
    · exact ni k 7 hk2 (by omega) z)) (fun i _ => by rw [jm 2 (by omega)]) (fun i _ => by rw [jm 33 (by omega)]) (fun i _ => by rw [jm 35 (by omega)]) (fun i _ => by rw [jm 6 (by omega)]) (fun k hk => ?_) (fun i hi => g3 _ (by omega)) (fun i hi => g5 _ (by omega)) (fun i hi => g4 _ (by omega)) (fun i hi => g6 _ (by omega))
  have := g2 r hr
  simp only [List.mem_cons, List.not_mem_nil, or_false] at hk
  rcases hk with rfl | rfl | rfl | rfl | rfl
  · exact ai this.1
  · exact this.2.1
  · rw [g1.2.2.1 92 (by simp)]
  · rw [g1.2.2.1 94 (by simp)]
  · exact ai this.2.2
end
