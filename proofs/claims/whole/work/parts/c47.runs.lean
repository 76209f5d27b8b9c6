/-! the one that goes -/
set_option maxRecDepth 100000
/-- CLAUSES are tried for a message: which one, from which RECEIVE -/
def TRr (kd sc : Nat) (m w : MS) (p : Nat) (H O0 : List Nat) : Prop := kd = 3 → ((F w 158 = F m (pq p 8) ∧ DLs (m.2.1 (pq p 10)) (w.2.2.2 111 p)) ∧ ∃ n : Nat, F w 159 = ((n : Nat) : Int) ∧ F w 155 = A w 25 n ∧ A w 23 n = 27 ∧ A w 27 n = ((O0.length : Nat) : Int) ∧ ∃ g, RCs (A m 23) (ROs w) (w.2.2.2 34) (CRs (A m 23) (ROs w) (w.2.2.2 34) g) g sc n H O0)
/-- in a GUARD, or not -/
def GDr (y : Option (Nat × Nat × Nat)) (m w : MS) (p nbj : Nat) (H O : List Nat) : Prop :=
  (y = none ∧ F m 1112 = 0 ∧ F w 152 = 0) ∨
  ∃ kd k sc : Nat, y = some (kd, k, sc) ∧ ∃ (fl W0 : Nat) (O0 X : List Nat), O = O0 ++ X ∧ (F m 1112 = ((fl : Nat) : Int) ∧ 0 < fl ∧ F m 1113 = ((X.length : Nat) : Int) ∧ F m 1114 = ((W0 : Nat) : Int)) ∧ (F w 152 = 1 ∧ F w 153 = ((kd : Nat) : Int) ∧ F w 154 = ((k : Nat) : Int) ∧ F w 156 = ((nbj + H.length + O0.length : Nat) : Int) ∧ F w 157 = ((W0 : Nat) : Int)) ∧ TRr kd sc m w p H O0 ∧ ∃ f g, ZRs (A m 23) (ROs w) (w.2.2.2 34) (CRs (A m 23) (ROs w) (w.2.2.2 34) f) kd sc H O0 g fl (A w 45 k)
/-- FRAMES, catches, where it stands, what the machine holds -/
def RUs (m w : MS) (p j : Nat) (nb : Nat → Nat) (Hs Os : Nat → List Nat) (y : Option (Nat × Nat × Nat)) (a n : Nat) : Prop :=
  (FAs m w p j nb Hs Os ∧ CTs m w p j nb Hs Os) ∧ (F m 1105 = ((a : Nat) : Int) ∧ A w 98 (60 * p + j) = ((n : Nat) : Int)) ∧ (∃ f, CRs (A m 23) (ROs w) (w.2.2.2 34) f y a n (Hs j) (Os j)) ∧ (F m (pq p 9) = 0 ∧ A w 109 p = 0) ∧ GDr y m w p (nb j) (Hs j) (Os j) ∧ (F m 1108 = 0 ∧ F m 1109 = 0 ∧ F w 151 = 0) ∧ F w 133 = ((p : Nat) : Int) ∧ m.1 1106 = w.1 165 ∧ m.1 1107 = w.1 164
section
variable {p j a n : Nat} {m w m2 w2 : MS} {nb : Nat → Nat} {Hs Os : Nat → List Nat} {y : Option (Nat × Nat × Nat)}
theorem RUs_st (h : RUs m w p j nb Hs Os y a n) (h1 : EQn p m m2) (h2 : EQv p w w2) (pg : PGs m w m2 w2) : RUs m2 w2 p j nb Hs Os y a n := by
  obtain ⟨r1, ⟨r2, r3⟩, ⟨f, r4⟩, ⟨r5, r6⟩, r7, ⟨r8, r9, r10⟩, r11, r12, r13⟩ := h
  have hj : j < 60 := r1.1.1.2.2
  obtain ⟨⟨⟨g1, -, -⟩, g4, g5, -⟩, g7, g8⟩ := pg
  have h23 : A m2 23 = A m 23 := by funext i; show (m2.2.2.1 23 i).toInt = _; rw [g1]; rfl
  have hRO := ROs_eq g4
  have hP : ∀ K, PRr K → A w2 K = A w K := fun K c => by funext i; show (w2.2.2.1 K i).toInt = _; rw [g4 K c]; rfl
  have fm : ∀ k, 1100 ≤ k → k < 1120 → F m2 k = F m k := fun k c1 c2 => congrArg Int32.toInt (g7 k c1 c2).1
  have fw : ∀ k, k = 133 ∨ (151 ≤ k ∧ k ≤ 165) → F w2 k = F w k := fun k c => congrArg Int32.toInt (g8 k c)
  have f8 : F m2 (pq p 8) = F m (pq p 8) := congrArg Int32.toInt (h1.1 8 (by omega) (by simp))
  refine ⟨FC_eq r1 h1 h2, ⟨by rw [fm 1105 (by omega) (by omega)]; exact r2, ?_⟩, ⟨f, by rw [h23, hRO, g5]; exact r4⟩, ⟨?_, ?_⟩, ?_, ⟨by rw [fm 1108 (by omega) (by omega)]; exact r8, by rw [fm 1109 (by omega) (by omega)]; exact r9, by rw [fw 151 (by omega)]; exact r10⟩, by rw [fw 133 (by omega)]; exact r11, by rw [(g7 1106 (by omega) (by omega)).1, g8 165 (by omega)]; exact r12, by rw [(g7 1107 (by omega) (by omega)).1, g8 164 (by omega)]; exact r13⟩
  · show (w2.2.2.1 98 (60 * p + j)).toInt = _
    rw [h2.1 98 _ (Or.inr (Or.inl ⟨⟨by omega, by omega⟩, by omega, by omega⟩)) (by omega) (by omega)]
    exact r3
  · show (m2.1 (pq p 9)).toInt = _
    rw [h1.1 9 (by omega) (by simp)]
    exact r5
  · show (w2.2.2.1 109 p).toInt = _
    rw [h2.1 109 p (Or.inl ⟨by omega, rfl⟩) (by omega) (by omega)]
    exact r6
  · rcases r7 with ⟨c1, c2, c3⟩ | ⟨kd, k, sc, c1, fl, W0, O0, X, c2, ⟨c3, c4, c5, c6⟩, ⟨c7, c8, c9, c10, c11⟩, c12, f2, g, c13⟩
    · exact Or.inl ⟨c1, by rw [fm 1112 (by omega) (by omega)]; exact c2, by rw [fw 152 (by omega)]; exact c3⟩
    · refine Or.inr ⟨kd, k, sc, c1, fl, W0, O0, X, c2, ⟨by rw [fm 1112 (by omega) (by omega)]; exact c3, c4, by rw [fm 1113 (by omega) (by omega)]; exact c5, by rw [fm 1114 (by omega) (by omega)]; exact c6⟩, ⟨by rw [fw 152 (by omega)]; exact c7, by rw [fw 153 (by omega)]; exact c8, by rw [fw 154 (by omega)]; exact c9, by rw [fw 156 (by omega)]; exact c10, by rw [fw 157 (by omega)]; exact c11⟩, fun e3 => ?_, f2, g, by rw [h23, hRO, g5, hP 45 (by unfold PRr; omega)]; exact c13⟩
      obtain ⟨d1, n2, d2, d3, d4, d5, g2, d6⟩ := c12 e3
      exact ⟨⟨by rw [fw 158 (by omega), f8]; exact d1.1, by rw [h1.2.1 10 (by omega) (by omega), h2.2.1]; exact d1.2⟩, n2, by rw [fw 159 (by omega)]; exact d2, by rw [fw 155 (by omega), hP 25 (by unfold PRr; omega)]; exact d3, by rw [hP 23 (by unfold PRr; omega)]; exact d4, by rw [hP 27 (by unfold PRr; omega)]; exact d5, g2, by rw [h23, hRO, g5]; exact d6⟩
/-- all processes: p goes, the others do not -/
def RRp (p : Nat) (q : Nat) (m w : MS) : Prop := (q = p ∧ ∃ j nb Hs Os y a n, RUs m w p j nb Hs Os y a n) ∨ (q ≠ p ∧ WTr q m w)
theorem RRp_stb : STBl (RRp p) := fun q m w m2 w2 h h1 h2 pg => by
  rcases h with ⟨rfl, j, nb, Hs, Os, y, a, n, h⟩ | ⟨e, h⟩
  · exact Or.inl ⟨rfl, j, nb, Hs, Os, y, a, n, RUs_st h h1 h2 pg⟩
  · exact Or.inr ⟨e, WTr_st h h1 h2⟩
end
