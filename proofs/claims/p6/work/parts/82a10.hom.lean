def HOM (h : Nat → Int64) (n : Nat) (ow kd : Nat → Nat) (h2 : Nat → Int64) (n2 : Nat) (ow2 kd2 : Nat → Nat) (P : Int64 → Prop) (fd : Int64 → Int64) (R : Int64 → Prop) : Prop :=
  (∀ t, ¬ isH t → fd t = t) ∧ ∀ t, isH t → R t → GT n ow kd P t ∧ so (fd t) = so t ∧ GT n2 ow2 kd2 P (fd t) ∧ blk h2 (fd t) = blk h t ∧ (∀ j, j < prt t → h2 (vn (fd t) + j) = h (vn t + j)) ∧ ∀ j, prt t ≤ j → j < blk h t → h2 (vn (fd t) + j) = fd (h (vn t + j)) ∧ (isH (h (vn t + j)) → R (h (vn t + j)))
section
variable {h h2 : Nat → Int64} {n n2 p N U C sc : Nat} {ow kd ow2 kd2 ks : Nat → Nat} {Fv : Int64 → Int64 → Prop} {P : Int64 → Prop} {w : MS} {t : Int64} {fd : Int64 → Int64} {R : Int64 → Prop}
theorem prt_so {t x : Int64} (e : so x = so t) : prt x = prt t := by unfold prt; rw [e]
theorem HOM_bk (m : HOM h n ow kd h2 n2 ow2 kd2 P fd R) (g2 : ∀ t, isH t → R t → vn (fd t) + blk h2 (fd t) ≤ n2 ∧ ∀ j, j < blk h2 (fd t) → ow2 (vn (fd t) + j) = vn (fd t)) (g : HP h n ow kd Fv P) (ht : isH t) (r : R t) : BK h2 n2 ow2 kd2 Fv (fd t) := by
  obtain ⟨a1, a2, a3, a4, a5, a6⟩ := m.2 t ht r
  obtain ⟨b, -⟩ := HP_bk g ht a1
  have hf : isH (fd t) := by unfold isH; rw [a2]; exact ht
  rcases a3 with ⟨z, -⟩ | ⟨-, z1, z2, z3, z4⟩
  · exact absurd hf z
  refine ⟨z1, fun e => ?_, fun e => ?_, (g2 t ht r).1, z4, (g2 t ht r).2⟩
  · rw [a2] at e
    have := a5 0 (by unfold prt; rw [e]; decide)
    rw [show vn (fd t) + 0 = vn (fd t) from rfl, show vn t + 0 = vn t from rfl] at this
    rw [this]; exact b.2.1 e
  · rw [a2] at e
    have q0 := a5 0 (by unfold prt; rw [e]; decide)
    have q1 := a5 1 (by unfold prt; rw [e]; decide)
    rw [show vn (fd t) + 0 = vn (fd t) from rfl, show vn t + 0 = vn t from rfl] at q0
    rw [q0, q1]; exact b.2.2.1 e
theorem HOM_sz (m : HOM h n ow kd h2 n2 ow2 kd2 P fd R) (g2 : ∀ t, isH t → R t → vn (fd t) + blk h2 (fd t) ≤ n2 ∧ ∀ j, j < blk h2 (fd t) → ow2 (vn (fd t) + j) = vn (fd t)) (g : HP h n ow kd Fv P) {f : Nat} {t : Int64} {s : Nat} (z : SZ h n ow kd Fv P f t s) (r : isH t → R t) : SZ h2 n2 ow2 kd2 Fv P f (fd t) s := by
  refine SZ_gc (R := R) m.1 (fun t ht r _ => ?_) z r
  obtain ⟨a1, a2, a3, a4, a5, a6⟩ := m.2 t ht r
  exact ⟨by unfold isH; rw [a2]; exact ht, prt_so a2, HOM_bk m g2 g ht r, a4, a6⟩
theorem GC_find (c : GC h n ow kd w U C sc ow2 kd2 ks) {x : Nat} (hx : x < U) : ∃ i, i < C ∧ A w 135 (ks i) ≤ x ∧ (x : Int) < A w 135 (ks i) + bs h kd (ks i) := by
  obtain ⟨⟨c1, c2, c3, c4⟩, c5, c6, c7, c8, ⟨c9, c10⟩, c11, c12⟩ := c
  have hC : 0 < C := Nat.pos_of_ne_zero (fun z => by have := c9 z; omega)
  have key : ∀ d i, i + d + 1 = C → A w 135 (ks i) ≤ x → ∃ i, i < C ∧ A w 135 (ks i) ≤ x ∧ (x : Int) < A w 135 (ks i) + bs h kd (ks i) := by
    intro d
    induction d with
    | zero =>
      intro i hi hl
      obtain ⟨-, -, -, -, -, d6⟩ := c8 i (by omega)
      exact ⟨i, by omega, hl, by have := d6 (by omega); omega⟩
    | succ d ih =>
      intro i hi hl
      by_cases e : (x : Int) < A w 135 (ks i) + bs h kd (ks i)
      · exact ⟨i, by omega, hl, e⟩
      · obtain ⟨-, -, -, -, d5, -⟩ := c8 i (by omega)
        exact ih (i + 1) (by omega) (by have := d5 (by omega); omega)
  exact key (C - 1) 0 (by omega) (by rw [c10 hC]; omega)
theorem GC_fin (g : HP h n ow kd Fv P) (hn : n ≤ 500) (c : GC h n ow kd w U C U ow2 kd2 ks) (h2 : Nat → Int64) (hh : ∀ i, i < U → h2 i = w.2.2.2 134 i) :
    ∃ fd R, HOM h n ow kd h2 U ow2 kd2 P fd R ∧ HP h2 U ow2 kd2 Fv P ∧ (∀ t, isH t → R t → vn (fd t) + blk h2 (fd t) ≤ U ∧ ∀ j, j < blk h2 (fd t) → ow2 (vn (fd t) + j) = vn (fd t)) ∧ (∀ t, isH t → GT n ow kd P t → A w 135 (vn t) ≠ -1 → R t) ∧ (∀ t, isH t → fd t = fw w t) := by
  have c' := c
  obtain ⟨⟨c1, c2, c3, c4⟩, c5, c6, c7, c8, ⟨c9, c10⟩, c11, c12⟩ := c
  have hU : U ≤ 500 := by have := cnt_le (S := fun k => k < 500 ∧ A w 135 k ≠ -1) (ow := ow) n; omega
  have facts : ∀ t, isH t → GT n ow kd P t → A w 135 (vn t) ≠ -1 → vn t < 500 ∧ 0 ≤ A w 135 (vn t) ∧ so (fw w t) = so t ∧ va (fw w t) = A w 135 (vn t) ∧ vn (fw w t) = (A w 135 (vn t)).toNat ∧ bs h kd (vn t) = blk h t ∧ pk kd (vn t) = prt t ∧ (kd (vn t) : Int) = so t := by
    intro t ht gt hm
    rcases gt with ⟨z, -⟩ | ⟨-, g1, g2, g3, g4⟩
    · exact absurd ht z
    have h5 : vn t < 500 := by omega
    have h0 : 0 ≤ A w 135 (vn t) := by rcases c5 _ h5 with z | z; exact absurd z hm; exact z.1
    have hr := A_r w 135 (vn t)
    obtain ⟨be, pe⟩ := bs_eq (h := h) g4 (by omega)
    have e2 : va (fw w t) = A w 135 (vn t) := va_rp h0 hr.2
    exact ⟨h5, h0, so_rp h0 hr.2, e2, by show (va (fw w t)).toNat = _; rw [e2], be, pe, g4⟩
  have hom : HOM h n ow kd h2 U ow2 kd2 P (fun t => if so t = 3 ∨ so t = 5 ∨ so t = 7 then fw w t else t) (fun t => isH t ∧ GT n ow kd P t ∧ A w 135 (vn t) ≠ -1) := by
    refine ⟨fun t ht => if_neg ht, fun t ht r => ?_⟩
    obtain ⟨-, r2, r3⟩ := r
    obtain ⟨q1, q2, q3, q4, q5, q6, q7, q8⟩ := facts t ht r2 r3
    have ef : (if so t = 3 ∨ so t = 5 ∨ so t = 7 then fw w t else t) = fw w t := if_pos ht
    obtain ⟨d1, d2, d3⟩ := c6 _ q1 r3
    have bp := blk_pos (h := h) ht
    have cells := c12 _ q1 r3
    rw [q6, q7] at cells
    rw [q6] at d1 d3
    have hd : ∀ j, j < prt t → h2 (vn (fw w t) + j) = h (vn t + j) := fun j hj => by
      have pl := prt_le (h := h) ht
      rw [q5, hh _ (by omega)]
      exact (cells j (by omega)).2 (fun z => by omega)
    have eb : blk h2 (fw w t) = blk h t := by
      unfold blk
      rw [q3]
      rcases ht with e | e | e
      · rw [e]; simp
        have := hd 1 (by unfold prt; rw [e]; decide)
        rw [this]
      · rw [e]; simp
        have := hd 0 (by unfold prt; rw [e]; decide)
        rw [show vn (fw w t) + 0 = vn (fw w t) from rfl, show vn t + 0 = vn t from rfl] at this
        rw [this]
      · rw [e]; simp
    simp only [ef]
    refine ⟨r2, q3, Or.inr ⟨by unfold isH; rw [q3]; exact ht, by rw [q4]; exact q2, by rw [q5]; omega, ?_, ?_⟩, eb, hd, fun j h1 h2' => ?_⟩
    · rw [q5]; have := d3 0 bp; exact this
    · rw [q5, d2, q8, q3]
    · rw [q5, hh _ (by omega)]
      obtain ⟨y1, y2⟩ := cells j h2'
      by_cases hy : isH (h (vn t + j))
      · obtain ⟨x1, x2⟩ := y1 ⟨by omega, h1, hy⟩
        rw [x2, show (if so (h (vn t + j)) = 3 ∨ so (h (vn t + j)) = 5 ∨ so (h (vn t + j)) = 7 then fw w (h (vn t + j)) else h (vn t + j)) = fw w (h (vn t + j)) from if_pos hy]
        exact ⟨rfl, fun _ => ⟨hy, (HP_bk g ht r2).2 j h1 h2', x1⟩⟩
      · rw [y2 (fun z => hy z.2.2), show (if so (h (vn t + j)) = 3 ∨ so (h (vn t + j)) = 5 ∨ so (h (vn t + j)) = 7 then fw w (h (vn t + j)) else h (vn t + j)) = h (vn t + j) from if_neg hy]
        exact ⟨rfl, fun z => absurd z hy⟩
  have hg2 : ∀ t, isH t → (isH t ∧ GT n ow kd P t ∧ A w 135 (vn t) ≠ -1) → vn ((fun t => if so t = 3 ∨ so t = 5 ∨ so t = 7 then fw w t else t) t) + blk h2 ((fun t => if so t = 3 ∨ so t = 5 ∨ so t = 7 then fw w t else t) t) ≤ U ∧ ∀ j, j < blk h2 ((fun t => if so t = 3 ∨ so t = 5 ∨ so t = 7 then fw w t else t) t) → ow2 (vn ((fun t => if so t = 3 ∨ so t = 5 ∨ so t = 7 then fw w t else t) t) + j) = vn ((fun t => if so t = 3 ∨ so t = 5 ∨ so t = 7 then fw w t else t) t) := by
    intro t ht r
    obtain ⟨-, -, -, a4, -⟩ := hom.2 t ht r
    obtain ⟨q1, q2, q3, q4, q5, q6, q7, q8⟩ := facts t ht r.2.1 r.2.2
    obtain ⟨d1, d2, d3⟩ := c6 _ q1 r.2.2
    rw [a4]
    simp only [show (if so t = 3 ∨ so t = 5 ∨ so t = 7 then fw w t else t) = fw w t from if_pos ht]
    rw [q5, ← q6]
    exact ⟨d1, d3⟩
  refine ⟨_, _, hom, ?_, hg2, fun t a b c => ⟨a, b, c⟩, fun t ht => if_pos ht⟩
  intro t ht gt
  rcases gt with ⟨z, -⟩ | ⟨-, g1, g2, g3, g4⟩
  · exact absurd ht z
  obtain ⟨i, hi, i1, i2⟩ := GC_find c' g2
  obtain ⟨k1, k2, -⟩ := c8 i hi
  obtain ⟨d1, d2, d3⟩ := c6 _ k1 k2
  have k0 : 0 ≤ A w 135 (ks i) := by rcases c5 _ k1 with z | z; exact absurd z k2; exact z.1
  have e1 : vn t = (A w 135 (ks i)).toNat := by
    have := d3 (vn t - (A w 135 (ks i)).toNat) (by omega)
    rw [show (A w 135 (ks i)).toNat + (vn t - (A w 135 (ks i)).toNat) = vn t from by omega, g3] at this
    exact this
  obtain ⟨z1, z2, z3, z4⟩ : 0 ≤ A w 135 (ks i) ∧ ks i < n ∧ ow (ks i) = ks i ∧ (kd (ks i) = 3 ∨ kd (ks i) = 5 ∨ kd (ks i) = 7) := by rcases c5 _ k1 with z | z; exact absurd z k2; exact z
  have y1 : so (mk (kd (ks i)) (ks i)) = kd (ks i) := so_mk (by omega) (by omega)
  have y2 : vn (mk (kd (ks i)) (ks i)) = ks i := by show (va _).toNat = _; rw [va_mk (by omega) (by omega)]; omega
  have y3 : isH (mk (kd (ks i)) (ks i)) := by unfold isH; rw [y1]; omega
  have y4 : GT n ow kd P (mk (kd (ks i)) (ks i)) := Or.inr ⟨y3, by rw [va_mk (by omega) (by omega)]; omega, by rw [y2]; exact z2, by rw [y2]; exact z3, by rw [y2, y1]⟩
  obtain ⟨f, s, s1, s2⟩ := g _ y3 y4
  have rr : isH (mk (kd (ks i)) (ks i)) ∧ GT n ow kd P (mk (kd (ks i)) (ks i)) ∧ A w 135 (vn (mk (kd (ks i)) (ks i))) ≠ -1 := ⟨y3, y4, by rw [y2]; exact k2⟩
  have sz := HOM_sz hom hg2 g s1 (fun _ => rr)
  obtain ⟨a1, a2, a3, a4, a5, a6⟩ := hom.2 _ y3 rr
  obtain ⟨q1, q2, q3, q4, q5, q6, q7, q8⟩ := facts _ y3 y4 rr.2.2
  have ef : (if so (mk (kd (ks i)) (ks i)) = 3 ∨ so (mk (kd (ks i)) (ks i)) = 5 ∨ so (mk (kd (ks i)) (ks i)) = 7 then fw w (mk (kd (ks i)) (ks i)) else mk (kd (ks i)) (ks i)) = fw w (mk (kd (ks i)) (ks i)) := if_pos y3
  simp only [ef] at sz a2 a3 a4 a5 a6
  have es : so t = so (fw w (mk (kd (ks i)) (ks i))) := by rw [q3, y1, ← g4, e1, d2]
  have eva : va t = va (fw w (mk (kd (ks i)) (ks i))) := by
    rw [q4, y2]
    unfold vn at e1
    omega
  refine ⟨f, s, SZ_same es eva (by unfold isH; rw [q3]; exact y3) sz, fun h5 => ?_⟩
  obtain ⟨r1, r2, r3⟩ := s2 h5
  have evn : vn t = vn (fw w (mk (kd (ks i)) (ks i))) := by unfold vn; rw [eva]
  refine ⟨by rw [es, q3]; exact r1, ?_, ?_⟩
  · have : blk h2 t = blk h2 (fw w (mk (kd (ks i)) (ks i))) := by unfold blk; rw [es, evn]
    rw [this, a4]; exact r2
  · have := (a6 1 (by unfold prt; rw [r1]; decide) (by omega)).1
    rw [evn, this]
    rw [show (if so (h (vn (mk (kd (ks i)) (ks i)) + 1)) = 3 ∨ so (h (vn (mk (kd (ks i)) (ks i)) + 1)) = 5 ∨ so (h (vn (mk (kd (ks i)) (ks i)) + 1)) = 7 then fw w (h (vn (mk (kd (ks i)) (ks i)) + 1)) else h (vn (mk (kd (ks i)) (ks i)) + 1)) = h (vn (mk (kd (ks i)) (ks i)) + 1) from if_neg r3]
    exact r3
end
