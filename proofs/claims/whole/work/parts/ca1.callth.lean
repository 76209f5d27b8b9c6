/-! a FRAME is used anew, with names that are held: what holds behind it -/
set_option maxRecDepth 100000
/-- there: a CALL counted, the FRAME anew, names bound -/
def DFm (m m4 : MS) (p j nbj P0 src ar e L : Nat) (f : Int) (H : List Nat) : Prop :=
  ((∀ l, l < 100 → l ≠ 13 → l ≠ 24 → l ≠ 26 → l ≠ 42 → l ≠ 43 → m4.1 (pq p l) = m.1 (pq p l)) ∧ (∀ l, l < 2000 → l ≠ 1105 → l ≠ 1106 → l ≠ 946 → m4.1 l = m.1 l) ∧ m4.1 1106 = I (F m 1106 + 1) ∧ m4.1 (pq p 13) = I (F m (pq p 13) + 1) ∧ F m4 (pq p 26) = ((P0 + ar : Nat) : Int) ∧ F m4 (pq p 24) = ((nbj + L : Nat) : Int) ∧ F m4 1105 = ((e : Nat) : Int)) ∧
  ((∀ K, K < 2000 → m4.2.2.1 K = m.2.2.1 K) ∧ (∀ k, k < 100 → k ≠ 30 → k ≠ 32 → m4.2.2.1 (pq p k) = m.2.2.1 (pq p k)) ∧ (∀ i, i < nbj → A m4 (pq p 32) i = A m (pq p 32) i) ∧ (∀ i x : Nat, H[i]? = some x → A m4 (pq p 32) (nbj + i) = ((x : Nat) : Int)) ∧ ∀ i, A m4 (pq p 30) i = if i = 5 * j + 4 then ((e : Nat) : Int) else if i = 5 * j + 1 then 0 else if i = 5 * j then f else A m (pq p 30) i) ∧
  (∀ k, k < 100 → k ≠ 33 → k ≠ 35 → m4.2.2.2 (pq p k) = m.2.2.2 (pq p k)) ∧ (∀ i, i < nbj → m4.2.2.2 (pq p 33) i = m.2.2.2 (pq p 33) i) ∧ (∀ i, i < P0 + ar → m4.2.2.2 (pq p 35) i = if P0 ≤ i then m.2.2.2 (pq p 35) (src + (i - P0)) else m.2.2.2 (pq p 35) i)
/-- and here -/
def DFw (w w3 : MS) (p j nbj P0 src ar L : Nat) (f : Int) : Prop :=
  ((∀ l, l ≠ 166 → l ≠ 165 → l ≠ 119 → w3.1 l = w.1 l) ∧ w3.1 165 = I (F w 165 + 1)) ∧
  ((∀ K, K ≠ 93 → K ≠ 91 → w3.2.2.2 K = w.2.2.2 K) ∧ (∀ i, i < nbj → w3.2.2.2 93 (2500 * p + i) = w.2.2.2 93 (2500 * p + i)) ∧ ∀ i, i < P0 + ar → w3.2.2.2 91 (46000 * p + i) = if P0 ≤ i then w.2.2.2 91 (46000 * p + (src + (i - P0))) else w.2.2.2 91 (46000 * p + i)) ∧
  (∀ K, K ≠ 92 → K ≠ 94 → K ≠ 96 → K ≠ 97 → K ≠ 98 → K ≠ 99 → K ≠ 100 → K ≠ 101 → K ≠ 114 → w3.2.2.1 K = w.2.2.1 K) ∧
  (∀ K i, 96 ≤ K → K ≤ 101 → i ≠ 60 * p + j → w3.2.2.1 K i = w.2.2.1 K i) ∧
  (A w3 92 p = ((P0 + ar : Nat) : Int) ∧ A w3 94 p = ((nbj + L : Nat) : Int) ∧ A w3 96 (60 * p + j) = f ∧ A w3 97 (60 * p + j) = -1 ∧ A w3 99 (60 * p + j) = ((nbj : Nat) : Int) ∧ A w3 100 (60 * p + j) = ((P0 : Nat) : Int) ∧ A w3 101 (60 * p + j) = ((L : Nat) : Int)) ∧ w3.2.2.1 114 p = I (A w 114 p + 1)
section
variable {b : Int → Nat → Nat → Prop} {N p U B Y j a n ar P0 src e c L : Nat} {m w m4 w3 : MS} {nb : Nat → Nat} {Hs Os : Nat → List Nat} {f : Int} {H : List Nat}
theorem callTH_core (pl : PLs b p m w U B (src + ar) Y) (ru : RUs m w p j nb Hs Os none a n) (hP : P0 ≤ src) (h100 : A w 100 (60 * p + j) = ((P0 : Nat) : Int)) (hct : ∀ nC c : Nat, F m (pq p 28) = ((nC : Nat) : Int) → c < nC → A w 102 (1600 * p + c) < ((j : Nat) : Int)) (hB2 : nb j + L ≤ 2500) (hc : c < 2000000) (fm : DFm m m4 p j (nb j) P0 src ar e L f H) (fw : DFw w w3 p j (nb j) P0 src ar L f) (hH : H.length = L) (nd : H.Nodup) (held : ∀ i, i < L → RTb b (m4.2.2.2 (pq p 33) (nb j + i)) (w3.2.2.2 93 (2500 * p + (nb j + i)))) (zr : ∃ g g2, ZRs (A m 23) (ROs w) (w.2.2.2 34) (CRs (A m 23) (ROs w) (w.2.2.2 34) g) 0 0 H [] g2 e ((c : Nat) : Int)) :
    TRs m4 (wi (wi (wi (wi w3 153 0) 155 ((c : Nat) : Int)) 154 ((c : Nat) : Int)) 156 ((nb j + L : Nat) : Int)) p j nb (upf Hs j H) (upf Os j []) 0 0 e ((c : Nat) : Int) ∧ PLs b p m4 (wa (wi (wi (wi (wi w3 153 0) 155 ((c : Nat) : Int)) 154 ((c : Nat) : Int)) 156 ((nb j + L : Nat) : Int)) 94 p ((nb j + L : Nat) : Int)) U (nb j + L) (P0 + ar) Y ∧ (SCs p m w → SCs p m4 (wi (wi (wi (wi w3 153 0) 155 ((c : Nat) : Int)) 154 ((c : Nat) : Int)) 156 ((nb j + L : Nat) : Int))) := by
  obtain ⟨⟨fa, ct⟩, ⟨r2, r3⟩, ⟨f0, cr0⟩, ⟨r5, r6⟩, r7, ⟨r8, r9, r10⟩, r11, r12, r13⟩ := id ru
  obtain ⟨h12, h152⟩ : F m 1112 = 0 ∧ F w 152 = 0 := by
    rcases r7 with ⟨_, c3, c4⟩ | ⟨_, _, _, c, _⟩
    · exact ⟨c3, c4⟩
    · cases c
  obtain ⟨⟨f1, f2, f3⟩, f4, f5, f6⟩ := id fa
  obtain ⟨⟨m4q, m4g, m406, m413, m426, m424, m4pc⟩, ⟨m4A, m4Aq, m432, m432', m430⟩, m4J, m433, m435⟩ := fm
  obtain ⟨⟨w3i, i165⟩, ⟨w3J, w393, w391⟩, w3R, w3A, ⟨v92, v94, v96, v97, v99, v100, v101⟩, v114⟩ := fw
  have hB : B = nb j + (Hs j ++ Os j).length := by
    have h1 := pl.2.1.1
    rw [f6] at h1
    omega
  have hBl' : ∀ d r, r + 1 + d = j → nb r + (Hs r ++ Os r).length ≤ nb j := by
    intro d
    induction d with
    | zero =>
      intro r h
      have h1 := (f5 r (by omega)).1
      have h2 : r + 1 = j := by omega
      rw [h2] at h1
      omega
    | succ d ih =>
      intro r h
      have h1 := (f5 r (by omega)).1
      have h2 := ih (r + 1) (by omega)
      omega
  have hBl : ∀ r, r < j → nb r + (Hs r ++ Os r).length ≤ nb j := fun r hr => hBl' (j - (r + 1)) r (by omega)
  obtain ⟨-, -, ⟨g3, g4⟩, g5, -, -⟩ := f4 j (Nat.le_refl _)
  rw [h100] at g5
  have w3a : ∀ K i, 96 ≤ K → K ≤ 101 → i ≠ 60 * p + j → A w3 K i = A w K i := fun K i h1 h2 h3 => congrArg Int32.toInt (w3A K i h1 h2 h3)
  have v95 : A w3 95 p = ((j + 1 : Nat) : Int) := by
    show (w3.2.2.1 95 p).toInt = _
    rw [w3R 95 (by omega) (by omega) (by omega) (by omega) (by omega) (by omega) (by omega) (by omega) (by omega)]
    exact f2
  have pr : ∀ K, PRr K → w3.2.2.1 K = w.2.2.1 K := fun K h => by
    unfold PRr at h
    exact w3R K (by omega) (by omega) (by omega) (by omega) (by omega) (by omega) (by omega) (by omega) (by omega)
  generalize hw4 : wi (wi (wi (wi w3 153 0) 155 ((c : Nat) : Int)) 154 ((c : Nat) : Int)) 156 ((nb j + L : Nat) : Int) = w4
  have w42 : w4.2 = w3.2 := by rw [← hw4]; rfl
  have w41 : ∀ l, l ≠ 153 → l ≠ 154 → l ≠ 155 → l ≠ 156 → w4.1 l = w3.1 l := fun l h1 h2 h3 h4 => by rw [← hw4, wi_1 h4, wi_1 h2, wi_1 h3, wi_1 h1]
  have w4a : ∀ K i, A w4 K i = A w3 K i := fun K i => by show (w4.2.2.1 K i).toInt = _; rw [w42]; rfl
  have w4i : ∀ l, l ≠ 153 → l ≠ 154 → l ≠ 155 → l ≠ 156 → l ≠ 166 → l ≠ 165 → l ≠ 119 → w4.1 l = w.1 l := fun l h1 h2 h3 h4 h5 h6 h7 => by rw [w41 l h1 h2 h3 h4]; exact w3i l h5 h6 h7
  have w4f : ∀ l, l ≠ 153 → l ≠ 154 → l ≠ 155 → l ≠ 156 → l ≠ 166 → l ≠ 165 → l ≠ 119 → F w4 l = F w l := fun l h1 h2 h3 h4 h5 h6 h7 => congrArg Int32.toInt (w4i l h1 h2 h3 h4 h5 h6 h7)
  have w4J : ∀ K, K ≠ 93 → K ≠ 91 → w4.2.2.2 K = w.2.2.2 K := fun K h h' => by rw [w42]; exact w3J K h h'
  have pr4 : ∀ K, PRr K → w4.2.2.1 K = w.2.2.1 K := fun K h => by rw [w42]; exact pr K h
  have hPr : ∀ K, PRr K → A w4 K = A w K := fun K a => by funext i; show (w4.2.2.1 K i).toInt = _; rw [pr4 K a]; rfl
  have m4f : ∀ l, l < 2000 → l ≠ 1105 → l ≠ 1106 → l ≠ 946 → F m4 l = F m l := fun l h0 h1 h2 h3 => congrArg Int32.toInt (m4g l h0 h1 h2 h3)
  have h23 : A m4 23 = A m 23 := by funext i; show (m4.2.2.1 23 i).toInt = _; rw [m4A 23 (by omega)]; rfl
  have fq : ∀ l, l < 42 → l ≠ 13 → l ≠ 24 → l ≠ 26 → F m4 (pq p l) = F m (pq p l) := fun l h0 h1 h2 h3 => congrArg Int32.toInt (m4q l (by omega) h1 h2 h3 (by omega) (by omega))
  have fa4 : FAs m4 w4 p j nb (upf Hs j H) (upf Os j []) := by
    refine ⟨⟨by rw [fq 21 (by omega) (by omega) (by omega) (by omega)]; exact f1, by rw [w4a]; exact v95, f3⟩, fun r hr => ?_, fun r hr => ?_, ?_⟩
    · by_cases cr' : r = j
      · subst cr'
        rw [upf_s, upf_s]
        refine ⟨?_, Or.inl ⟨by rw [w4a]; exact v97, ?_⟩, ⟨?_, by rw [w4a]; exact v99⟩, ?_, by rw [w4a, v101, hH], fun i x hx => ?_⟩
        · rw [m430, if_neg (by omega), if_neg (by omega), if_pos rfl, w4a, v96]
        · rw [m430, if_neg (by omega), if_pos rfl]
        · rw [m430, if_neg (by omega), if_neg (by omega), if_neg (by omega)]; exact g3
        · rw [m430, if_neg (by omega), if_neg (by omega), if_neg (by omega), w4a, v100]; exact g5
        · rw [List.append_nil] at hx
          exact m432' i x hx
      · rw [upf_n cr', upf_n cr']
        obtain ⟨y1, y2, ⟨y3, y4⟩, y5, y6, y7⟩ := f4 r hr
        have m30 : ∀ d, d < 4 → A m4 (pq p 30) (5 * r + d) = A m (pq p 30) (5 * r + d) := fun d hd => by rw [m430, if_neg (by omega), if_neg (by omega), if_neg (by omega)]
        have wr : ∀ K, 96 ≤ K → K ≤ 101 → A w4 K (60 * p + r) = A w K (60 * p + r) := fun K h1 h2 => by rw [w4a]; exact w3a K _ h1 h2 (by omega)
        refine ⟨by rw [show 5 * r = 5 * r + 0 from rfl, m30 0 (by omega), wr 96 (by omega) (by omega)]; exact y1, ?_, ⟨by rw [m30 2 (by omega)]; exact y3, by rw [wr 99 (by omega) (by omega)]; exact y4⟩, by rw [m30 3 (by omega), wr 100 (by omega) (by omega)]; exact y5, by rw [wr 101 (by omega) (by omega)]; exact y6, fun i x hx => ?_⟩
        · rw [wr 97 (by omega) (by omega), m30 1 (by omega)]
          rcases y2 with y2 | ⟨k2, t2, q1, q3, q4⟩
          · exact Or.inl y2
          · exact Or.inr ⟨k2, t2, q1, by rw [hPr 44 (by unfold PRr; omega)]; exact q3, by rw [hPr 8 (by unfold PRr; omega)]; exact q4⟩
        · have hi : i < (Hs r ++ Os r).length := by
            rcases Nat.lt_or_ge i (Hs r ++ Os r).length with h | h
            · exact h
            · rw [List.getElem?_eq_none h] at hx
              cases hx
          have := hBl r (by omega)
          rw [m432 _ (by omega)]
          exact y7 i x hx
    · rw [upf_n (show r ≠ j by omega), upf_n (show r ≠ j by omega)]
      obtain ⟨y1, a3, n3, y2, y3, f9, y4⟩ := f5 r hr
      refine ⟨y1, a3, n3, ?_, by rw [w4a, w3a 98 _ (by omega) (by omega) (by omega)]; exact y3, f9, by rw [h23, ROs_eq pr4, w4J 34 (by omega) (by omega)]; exact y4⟩
      rw [m430, if_neg (by omega), if_neg (by omega), if_neg (by omega)]
      exact y2
    · rw [upf_s, upf_s, m424, List.append_nil, hH]
  have ct4 : CTs m4 w4 p j nb (upf Hs j H) (upf Os j []) := by
    obtain ⟨nC, c1, c2, c3, c5, c4⟩ := id ct
    have wc : ∀ K i, 102 ≤ K → K ≤ 106 → A w4 K i = A w K i := fun K i h1 h2 => by
      rw [w4a]
      show (w3.2.2.1 K i).toInt = _
      rw [w3R K (by omega) (by omega) (by omega) (by omega) (by omega) (by omega) (by omega) (by omega) (by omega)]
      rfl
    have h37 : A m4 (pq p 37) = A m (pq p 37) := by funext i; show (m4.2.2.1 (pq p 37) i).toInt = _; rw [m4Aq 37 (by omega) (by omega) (by omega)]; rfl
    refine ⟨nC, by rw [fq 28 (by omega) (by omega) (by omega) (by omega)]; exact c1, by rw [wc 106 _ (by omega) (by omega)]; exact c2, c3, fun c hc => by rw [wc 102 _ (by omega) (by omega), wc 102 _ (by omega) (by omega), wc 105 _ (by omega) (by omega), wc 105 _ (by omega) (by omega)]; exact c5 c hc, fun c hc => ?_⟩
    obtain ⟨r, k, a3, nd, nn, k1, k2, k3, k4, k5, k6, k7, k8, k9, k10, f9, k11⟩ := c4 c hc
    have rl := hct nC c c1 hc
    rw [k3] at rl
    have rn : r ≠ j := by omega
    exact ⟨r, k, a3, nd, nn, by omega, by rw [h37]; exact k2, by rw [wc 102 _ (by omega) (by omega)]; exact k3, by rw [h37, upf_n rn]; exact k4, by rw [wc 105 _ (by omega) (by omega), upf_n rn]; exact k5, by rw [upf_n rn]; exact k6, by rw [h37, wc 104 _ (by omega) (by omega)]; exact k7, by rw [h37]; exact k8, by rw [wc 103 _ (by omega) (by omega)]; exact k9, by rw [hPr 25 (by unfold PRr; omega)]; exact k10, f9, by rw [h23, ROs_eq pr4, w4J 34 (by omega) (by omega), upf_n rn, upf_n rn]; exact k11⟩
  have aR : ∀ K, K = 89 ∨ K = 108 → A w4 K p = A w K p := fun K hK => by
    rw [w4a]
    show (w3.2.2.1 K p).toInt = _
    rw [w3R K (by omega) (by omega) (by omega) (by omega) (by omega) (by omega) (by omega) (by omega) (by omega)]
    rfl
  have pl4 : PLs b p m4 w4 U (nb j + L) (P0 + ar) Y := by
    obtain ⟨⟨⟨p1, p2, p3⟩, p4, p5⟩, ⟨p6, p7, p8⟩, ⟨p9, p10, p11⟩, p12, p13, p14⟩ := pl
    have hpe : hp w4 p = hp w p := by
      funext k
      show w4.2.2.2 88 (500 * p + k) = _
      rw [w4J 88 (by omega) (by omega)]
      rfl
    refine ⟨⟨⟨by rw [fq 4 (by omega) (by omega) (by omega) (by omega)]; exact p1, by rw [aR 89 (by omega)]; exact p2, p3⟩, by rw [m4J 2 (by omega) (by omega) (by omega), hpe]; exact p4, ?_⟩, ⟨m424, by rw [w4a]; exact v94, fun i hi => ?_⟩, ⟨m426, by rw [w4a]; exact v92, fun i hi => ?_⟩, by rw [fq 7 (by omega) (by omega) (by omega) (by omega)]; exact p12, by rw [aR 108 (by omega)]; exact p13, fun i hi => by rw [m4J 6 (by omega) (by omega) (by omega), w4J 107 (by omega) (by omega)]; exact p14 i hi⟩
    · rw [m4q 5 (by omega) (by omega) (by omega) (by omega) (by omega) (by omega), w42, w3R 90 (by omega) (by omega) (by omega) (by omega) (by omega) (by omega) (by omega) (by omega) (by omega)]
      exact p5
    · rw [w42]
      by_cases c : i < nb j
      · rw [m433 i c, w393 i c]
        exact p8 i (by omega)
      · obtain ⟨d, rfl⟩ : ∃ d, i = nb j + d := ⟨i - nb j, by omega⟩
        exact held d (by omega)
    · rw [w42, m435 i hi, w391 i hi]
      by_cases c : P0 ≤ i
      · rw [if_pos c, if_pos c]
        exact p11 _ (by omega)
      · rw [if_neg c, if_neg c]
        exact p11 i (by omega)
  have sc4 : SCs p m w → SCs p m4 w4 := fun s => by
    obtain ⟨s1, s2, s3, s4, s5, s6⟩ := s
    have rr : ∀ K, 112 ≤ K → K ≤ 117 → K ≠ 114 → w4.2.2.1 K = w.2.2.1 K := fun K h1 h2 h3 => by
      rw [w42]
      exact w3R K (by omega) (by omega) (by omega) (by omega) (by omega) (by omega) (by omega) (by omega) h3
    have q9 : ∀ l, l = 11 ∨ l = 12 ∨ l = 15 ∨ l = 29 → m4.1 (pq p l) = m.1 (pq p l) := fun l hl => m4q l (by omega) (by omega) (by omega) (by omega) (by omega) (by omega)
    refine ⟨by rw [q9 12 (by omega), rr 113 (by omega) (by omega) (by omega)]; exact s1, ?_, by rw [q9 11 (by omega), rr 112 (by omega) (by omega) (by omega)]; exact s3, by rw [q9 15 (by omega), rr 117 (by omega) (by omega) (by omega)]; exact s4, by rw [q9 29 (by omega), rr 115 (by omega) (by omega) (by omega)]; exact s5, fun i hi => ?_⟩
    · rw [m413, w42, v114]
      congr 1
      show (m.1 (pq p 13)).toInt + 1 = (w.2.2.1 114 p).toInt + 1
      rw [s2]
    · rw [m4Aq 14 (by omega) (by omega) (by omega), rr 116 (by omega) (by omega) (by omega)]
      refine s6 i ?_
      rw [show F m (pq p 15) = F m4 (pq p 15) from (congrArg Int32.toInt (q9 15 (by omega))).symm]
      exact hi
  obtain ⟨g1, g2, zr⟩ := zr
  refine ⟨⟨⟨⟨fa4, ct4⟩, ⟨by rw [fq 9 (by omega) (by omega) (by omega) (by omega)]; exact r5, ?_⟩, Or.inl ⟨rfl, (m4f 1112 (by omega) (by omega) (by omega) (by omega)).trans h12, (w4f 152 (by omega) (by omega) (by omega) (by omega) (by omega) (by omega) (by omega)).trans h152⟩, ⟨(m4f 1108 (by omega) (by omega) (by omega) (by omega)).trans r8, (m4f 1109 (by omega) (by omega) (by omega) (by omega)).trans r9, (w4f 151 (by omega) (by omega) (by omega) (by omega) (by omega) (by omega) (by omega)).trans r10⟩, (w4f 133 (by omega) (by omega) (by omega) (by omega) (by omega) (by omega) (by omega)).trans r11, ?_, ?_⟩, m4pc, ⟨?_, ?_, ?_⟩, fun c => ?_, ⟨?_, ?_⟩, g1, g2, ?_⟩, PLs_94 pl4 (by omega), sc4⟩
  · show (w4.2.2.1 109 p).toInt = 0
    rw [w42, w3R 109 (by omega) (by omega) (by omega) (by omega) (by omega) (by omega) (by omega) (by omega) (by omega)]
    exact r6
  · rw [m406, w41 165 (by omega) (by omega) (by omega) (by omega), i165]
    congr 1
    show (m.1 1106).toInt + 1 = (w.1 165).toInt + 1
    rw [r12]
  · rw [m4g 1107 (by omega) (by omega) (by omega) (by omega), w4i 164 (by omega) (by omega) (by omega) (by omega) (by omega) (by omega) (by omega)]
    exact r13
  · rw [← hw4, wi_ne (by omega), wi_ne (by omega), wi_ne (by omega), wi_sm (by omega) (by omega)]
    rfl
  · rw [← hw4, wi_ne (by omega), wi_sm (by omega) (by omega)]
  · rw [upf_s, upf_s, ← hw4, wi_sm (by omega) (by omega), hH]
    simp
  · omega
  · rw [upf_s]; exact List.nodup_nil
  · rw [upf_s]; exact nd
  · rw [upf_s, upf_s, h23, ROs_eq pr4, w4J 34 (by omega) (by omega)]
    exact zr
end
