/-! heaps of both, alike but for the places of their blocks -/
set_option maxRecDepth 100000
/-- a term there, one here; b: kind, place there, place here -/
def RTb (b : Int → Nat → Nat → Prop) (t x : Int64) : Prop := (¬ isH t ∧ x = t ∧ (so t = 6 → va t = 0)) ∨ (isH t ∧ so x = so t ∧ (0 ≤ va t ∧ 0 ≤ va x) ∧ b (so t) (vn t) (vn x))
/-- what a FUN is of: a place, a FUNCTION -/
def PLR (c d : Int64) : Prop := (∃ u : Nat, u < 100000 ∧ va c = ((u : Nat) : Int) ∧ d.toInt = ((u : Nat) : Int)) ∨ (∃ f : Nat, f < 100000 ∧ va c = ((1000000 + f : Nat) : Int) ∧ d.toInt = -1 - ((f : Nat) : Int))
/-- one block there, one here -/
def BLb (b : Int → Nat → Nat → Prop) (h : Nat → Int64) (n : Nat) (h' : Nat → Int64) (n' : Nat) (t x : Int64) : Prop := (blk h' x = blk h t ∧ vn t + blk h t ≤ n ∧ vn x + blk h t ≤ n') ∧ (∀ j, prt t ≤ j → j < blk h t → RTb b (h (vn t + j)) (h' (vn x + j))) ∧ (so t = 3 → PLR (h (vn t)) (h' (vn x)))
/-- no two of one place -/
def IJb (b : Int → Nat → Nat → Prop) : Prop := ∀ k l a c a2 c2, b k a c → b l a2 c2 → (a = a2 ↔ c = c2)
def ISb (b : Int → Nat → Nat → Prop) (h : Nat → Int64) (n : Nat) (h' : Nat → Int64) (n' : Nat) : Prop :=
  (∀ t x, isH t → RTb b t x → BLb b h n h' n' t x) ∧ IJb b ∧ ∀ k a c, b k a c → (k = 3 ∨ k = 5 ∨ k = 7) ∧ a < 1000 ∧ c < 1000
/-- the same, but one block there may stand for more than one here -/
def ISw (b : Int → Nat → Nat → Prop) (h : Nat → Int64) (n : Nat) (h' : Nat → Int64) (n' : Nat) : Prop :=
  (∀ t x, isH t → RTb b t x → BLb b h n h' n' t x) ∧ True ∧ ∀ k a c, b k a c → (k = 3 ∨ k = 5 ∨ k = 7) ∧ a < 1000 ∧ c < 1000
section
variable {b b2 bn : Int → Nat → Nat → Prop} {h h' h2 h2' : Nat → Int64} {n n' n2 n2' m a c : Nat} {t x y : Int64} {k : Int} {ow kd ow' kd' : Nat → Nat} {Fv Fv' : Int64 → Int64 → Prop} {P P' : Int64 → Prop}
theorem ISb.w (s : ISb b h n h' n') : ISw b h n h' n' := ⟨s.1, trivial, s.2.2⟩
theorem RTb_so (r : RTb b t x) : so x = so t := by
  rcases r with r | r
  · rw [r.2.1]
  · exact r.2.1
theorem RTb_isH (r : RTb b t x) : isH x ↔ isH t := by unfold isH; rw [RTb_so r]
theorem RTb_prt (r : RTb b t x) : prt x = prt t := prt_so (RTb_so r)
theorem RTb_n (r : RTb b t x) (z : ¬ isH t) : x = t := by
  rcases r with r | r
  · exact r.2.1
  · exact absurd r.1 z
theorem RTb_h (r : RTb b t x) (z : isH t) : (0 ≤ va t ∧ 0 ≤ va x) ∧ b (so t) (vn t) (vn x) := by
  rcases r with r | r
  · exact absurd z r.1
  · exact r.2.2
theorem RTb_nil (r : RTb b t x) (z : so t = 6) : va t = 0 := by
  rcases r with r | r
  · exact r.2.2 z
  · have := r.1; unfold isH at this; omega
theorem RTb_mo (q : ∀ k a c, b k a c → b2 k a c) (r : RTb b t x) : RTb b2 t x := by
  rcases r with r | ⟨r1, r2, r3, r4⟩
  · exact Or.inl r
  · exact Or.inr ⟨r1, r2, r3, q _ _ _ r4⟩
theorem RTb_lit (z : ¬ isH t) (z6 : so t = 6 → va t = 0) : RTb b t t := Or.inl ⟨z, rfl, z6⟩
theorem isH_mk (hk : k = 3 ∨ k = 5 ∨ k = 7) {v : Int} : isH (mk k v) := by
  unfold isH
  rw [so_mk (by omega) (by omega)]
  exact hk
/-- a pair of places is one of terms -/
theorem RTb_mk (hk : k = 3 ∨ k = 5 ∨ k = 7) (ha : a < 1000) (hc : c < 1000) (q : b k a c) : RTb b (mk k ((a : Nat) : Int)) (mk k ((c : Nat) : Int)) := by
  have e1 : so (mk k ((a : Nat) : Int)) = k := so_mk (by omega) (by omega)
  have e2 : so (mk k ((c : Nat) : Int)) = k := so_mk (by omega) (by omega)
  have v1 : va (mk k ((a : Nat) : Int)) = ((a : Nat) : Int) := va_mk (by omega) (by omega)
  have v2 : va (mk k ((c : Nat) : Int)) = ((c : Nat) : Int) := va_mk (by omega) (by omega)
  refine Or.inr ⟨isH_mk hk, by rw [e1, e2], ⟨by omega, by omega⟩, ?_⟩
  have w1 : vn (mk k ((a : Nat) : Int)) = a := by unfold vn; rw [v1]; omega
  have w2 : vn (mk k ((c : Nat) : Int)) = c := by unfold vn; rw [v2]; omega
  rw [e1, w1, w2]
  exact q
theorem ISb_lt (s : ISb b h n h' n') (q : b k a c) : a < n ∧ c < n' := by
  obtain ⟨hk, ha, hc⟩ := s.2.2 k a c q
  have r := RTb_mk (b := b) hk ha hc q
  obtain ⟨⟨e1, e2, e3⟩, -⟩ := s.1 _ _ (isH_mk hk) r
  have p1 := blk_pos (h := h) (isH_mk hk (v := ((a : Nat) : Int)))
  have v1 : va (mk k ((a : Nat) : Int)) = ((a : Nat) : Int) := va_mk (by omega) (by omega)
  have v2 : va (mk k ((c : Nat) : Int)) = ((c : Nat) : Int) := va_mk (by omega) (by omega)
  have w1 : vn (mk k ((a : Nat) : Int)) = a := by unfold vn; rw [v1]; omega
  have w2 : vn (mk k ((c : Nat) : Int)) = c := by unfold vn; rw [v2]; omega
  rw [w1] at e2
  rw [w2] at e3
  omega
/-- a block depends on few cells -/
theorem blk_ag (z : isH t) (hh : ∀ i, i < n → h2 i = h i) (hn : vn t + blk h t ≤ n) : blk h2 t = blk h t := by
  have hb := blk_pos (h := h) z
  have e0 : h2 (vn t) = h (vn t) := hh _ (by omega)
  unfold blk at hn ⊢
  rw [e0]
  by_cases e : so t = 3
  · have n7 : ¬ so t = 7 := by omega
    have n5 : ¬ so t = 5 := by omega
    rw [if_neg n7, if_neg n5, if_pos e] at hn
    rw [hh (vn t + 1) (by omega)]
  · simp [e]
theorem SZ_iso (s : ISb b h n2 h' n2') : ∀ {f g : Nat} {t x : Int64} {r r' : Nat}, RTb b t x → SZc h n ow kd Fv P f t r → SZ h' n' ow' kd' Fv' P' g x r' → r = r'
  | 0, _, _, _, _, _, _, z, _ => z.elim
  | _ + 1, 0, _, _, _, _, _, _, z => z.elim
  | f + 1, g + 1, t, x, r, r', q, z, y => by
    have hi := RTb_isH q
    rcases z with ⟨z1, -, z3⟩ | ⟨z1, -, c, z3, z4⟩
    · rcases y with ⟨-, -, y3⟩ | ⟨y1, -⟩
      · rw [z3, y3]
      · exact absurd (hi.mp y1) z1
    · rcases y with ⟨y1, -⟩ | ⟨-, -, d, y3, y4⟩
      · exact absurd (hi.mpr z1) y1
      · obtain ⟨⟨e1, -⟩, e2, -⟩ := s.1 t x z1 q
        have hp := prt_le (h := h) z1
        rw [z4, y4, e1, RTb_prt q, smm_eq (d := d) (fun j h1 h2 => SZ_iso s (e2 j h1 (by omega)) (z3 j h1 (by omega)) (y3 j (by rw [RTb_prt q]; exact h1) (by rw [e1]; omega)))]
/-- new blocks behind all others -/
theorem ISb_ext (s : ISb b h n h' n') (hn : n ≤ n2) (hn' : n' ≤ n2') (hh : ∀ i, i < n → h2 i = h i) (hh' : ∀ i, i < n' → h2' i = h' i)
    (q1 : ∀ k a c, bn k a c → (k = 3 ∨ k = 5 ∨ k = 7) ∧ (n ≤ a ∧ a < 1000) ∧ n' ≤ c ∧ c < 1000) (q2 : IJb bn)
    (q3 : ∀ t x, isH t → so x = so t → 0 ≤ va t → 0 ≤ va x → bn (so t) (vn t) (vn x) → BLb (fun k a c => b k a c ∨ bn k a c) h2 n2 h2' n2' t x) : ISb (fun k a c => b k a c ∨ bn k a c) h2 n2 h2' n2' := by
  refine ⟨fun t x z r => ?_, fun k l a c a2 c2 r1 r2 => ?_, fun k a c r => ?_⟩
  · obtain ⟨⟨r1, r2⟩, r3⟩ := RTb_h r z
    rcases r3 with r3 | r3
    · have r4 : RTb b t x := Or.inr ⟨z, RTb_so r, ⟨r1, r2⟩, r3⟩
      obtain ⟨⟨e1, e2, e3⟩, e4, e5⟩ := s.1 t x z r4
      have zx := (RTb_isH r4).mpr z
      have g1 : blk h2 t = blk h t := blk_ag z hh e2
      have g2 : blk h2' x = blk h' x := blk_ag zx hh' (by omega)
      have p0 := blk_pos (h := h) z
      refine ⟨⟨by rw [g1, g2]; exact e1, by omega, by omega⟩, fun j h1 h3 => ?_, fun e => ?_⟩
      · rw [g1] at h3
        rw [hh _ (by omega), hh' _ (by omega)]
        exact RTb_mo (fun _ _ _ => Or.inl) (e4 j h1 h3)
      · rw [hh _ (by omega), hh' _ (by omega)]
        exact e5 e
    · exact q3 t x z (RTb_so r) r1 r2 r3
  · rcases r1 with r1 | r1
    · rcases r2 with r2 | r2
      · exact s.2.1 _ _ _ _ _ _ r1 r2
      · have := ISb_lt s r1
        have := q1 _ _ _ r2
        omega
    · rcases r2 with r2 | r2
      · have := ISb_lt s r2
        have := q1 _ _ _ r1
        omega
      · exact q2 _ _ _ _ _ _ r1 r2
  · rcases r with r | r
    · exact s.2.2 _ _ _ r
    · have := q1 _ _ _ r
      exact ⟨this.1, by omega, by omega⟩
/-- one new block -/
theorem ISb_new (s : ISb b h n h' n') (hx : isH t) (es : so x = so t) (v0 : 0 ≤ va t ∧ 0 ≤ va x) (et : vn t = n) (ex : vn x = n') (hb : blk h2 t = m) (hb' : blk h2' x = m) (hm : n + m ≤ 1000 ∧ n' + m ≤ 1000) (hh : ∀ i, i < n → h2 i = h i) (hh' : ∀ i, i < n' → h2' i = h' i)
    (hp : ∀ j, prt t ≤ j → j < m → RTb b (h2 (n + j)) (h2' (n' + j))) (hF : so t = 3 → PLR (h2 n) (h2' n')) : ISb (fun k a c => b k a c ∨ (k = so t ∧ a = n ∧ c = n')) h2 (n + m) h2' (n' + m) ∧ RTb (fun k a c => b k a c ∨ (k = so t ∧ a = n ∧ c = n')) t x := by
  have p0 : 0 < m := by rw [← hb]; exact blk_pos hx
  refine ⟨ISb_ext (bn := fun k a c => k = so t ∧ a = n ∧ c = n') s (by omega) (by omega) hh hh' (fun k a c q => by
    obtain ⟨x0, x1, x2⟩ := q
    exact ⟨by rw [x0]; exact hx, by omega, by omega⟩) (fun k l a c a2 c2 r1 r2 => by
    obtain ⟨-, x1, x2⟩ := r1
    obtain ⟨-, y1, y2⟩ := r2
    omega) (fun u y z e1 e2 e3 e4 => ?_), Or.inr ⟨hx, es, v0, Or.inr ⟨rfl, et, ex⟩⟩⟩
  obtain ⟨f1, f2, f3⟩ := e4
  have g1 : blk h2 u = m := by rw [← hb]; unfold blk; rw [f1, f2, et]
  have g2 : blk h2' y = m := by rw [← hb']; unfold blk; rw [e1, f1, f3, ex, es]
  have g3 : prt u = prt t := prt_so f1
  refine ⟨⟨by rw [g1, g2], by omega, by omega⟩, fun j h1 h3 => ?_, fun e => ?_⟩
  · rw [g1] at h3
    rw [g3] at h1
    rw [f2, f3]
    exact RTb_mo (fun _ _ _ => Or.inl) (hp j h1 h3)
  · rw [f2, f3]
    exact hF (by rw [← f1]; exact e)
end
