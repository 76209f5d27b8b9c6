/-! a block in a hole; a copy inside a copy -/
set_option maxRecDepth 100000
section
variable {b b2 : Int → Nat → Nat → Prop} {h h' h2 h2' d : Nat → Int64} {n n' m a0 c0 s0 s : Nat} {t x y r : Int64} {k : Int} {ow kd : Nat → Nat} {Fv : Int64 → Int64 → Prop} {P : Int64 → Prop}
/-- a block comes where none was -/
theorem ISb_hole (sI : ISb b h n h' n') (hz : ∀ t x, isH t → RTb b t x → (vn t + blk h t ≤ a0 ∨ a0 + m ≤ vn t) ∧ (vn x + blk h t ≤ c0 ∨ c0 + m ≤ vn x)) (hx : isH t) (es : so x = so t) (v0 : 0 ≤ va t ∧ 0 ≤ va x) (et : vn t = a0) (ex : vn x = c0) (hb : blk h2 t = m) (hb' : blk h2' x = m) (hm : a0 + m ≤ n ∧ c0 + m ≤ n') (hn : n ≤ 1000 ∧ n' ≤ 1000) (hh : ∀ i, ¬ (a0 ≤ i ∧ i < a0 + m) → h2 i = h i) (hh' : ∀ i, ¬ (c0 ≤ i ∧ i < c0 + m) → h2' i = h' i)
    (hp : ∀ j, prt t ≤ j → j < m → RTb b (h2 (a0 + j)) (h2' (c0 + j))) (hF : so t ≠ 3) : ISb (fun k a c => b k a c ∨ (k = so t ∧ a = a0 ∧ c = c0)) h2 n h2' n' ∧ RTb (fun k a c => b k a c ∨ (k = so t ∧ a = a0 ∧ c = c0)) t x := by
  have p0 : 0 < m := by rw [← hb]; exact blk_pos hx
  have pl : ∀ k a c, b k a c → (a < a0 ∨ a0 + m ≤ a) ∧ (c < c0 ∨ c0 + m ≤ c) := fun k a c q => by
    obtain ⟨q1, q2, q3⟩ := sI.2.2 k a c q
    have rr := RTb_mk q1 q2 q3 q
    have zt := isH_mk q1 (v := ((a : Nat) : Int))
    have := hz _ _ zt rr
    rw [(mk_v (k := k) q2).2, (mk_v (k := k) q3).2] at this
    have bp := blk_pos (h := h) zt
    omega
  refine ⟨⟨fun u y z q => ?_, fun k l a c a2 c2 r1 r2 => ?_, fun k a c q => ?_⟩, Or.inr ⟨hx, es, v0, Or.inr ⟨rfl, et, ex⟩⟩⟩
  · obtain ⟨⟨r1, r2⟩, r3⟩ := RTb_h q z
    rcases r3 with r3 | ⟨f1, f2, f3⟩
    · have r4 : RTb b u y := Or.inr ⟨z, RTb_so q, ⟨r1, r2⟩, r3⟩
      obtain ⟨⟨e1, e2, e3⟩, e4, e5⟩ := sI.1 u y z r4
      have zy := (RTb_isH r4).mpr z
      have w := hz u y z r4
      have bp := blk_pos (h := h) z
      have ag : ∀ i, vn u ≤ i → i < vn u + blk h u → h2 i = h i := fun i h1 h3 => hh i (by omega)
      have ag' : ∀ i, vn y ≤ i → i < vn y + blk h u → h2' i = h' i := fun i h1 h3 => hh' i (by omega)
      have g1 : blk h2 u = blk h u := by
        unfold blk at bp ag ⊢
        by_cases e7 : so u = 7
        · rw [if_pos e7, if_pos e7]
        · rw [if_neg e7] at bp ag ⊢
          rw [if_neg e7]
          by_cases e5 : so u = 5
          · rw [if_pos e5] at bp ag ⊢
            rw [if_pos e5, ag _ (Nat.le_refl _) (by omega)]
          · rw [if_neg e5] at bp ag ⊢
            rw [if_neg e5]
            by_cases e3 : so u = 3
            · rw [if_pos e3] at bp ag ⊢
              rw [if_pos e3, ag _ (by omega) (by omega)]
            · rw [if_neg e3, if_neg e3]
      have g2 : blk h2' y = blk h' y := by
        rw [← e1] at bp ag'
        unfold blk at bp ag' ⊢
        by_cases e7 : so y = 7
        · rw [if_pos e7, if_pos e7]
        · rw [if_neg e7] at bp ag' ⊢
          rw [if_neg e7]
          by_cases e5 : so y = 5
          · rw [if_pos e5] at bp ag' ⊢
            rw [if_pos e5, ag' _ (Nat.le_refl _) (by omega)]
          · rw [if_neg e5] at bp ag' ⊢
            rw [if_neg e5]
            by_cases e3 : so y = 3
            · rw [if_pos e3] at bp ag' ⊢
              rw [if_pos e3, ag' _ (by omega) (by omega)]
            · rw [if_neg e3, if_neg e3]
      refine ⟨⟨by rw [g1, g2]; exact e1, by omega, by omega⟩, fun j h1 h3 => ?_, fun e => ?_⟩
      · rw [g1] at h3
        rw [ag _ (by omega) (by omega), ag' _ (by omega) (by omega)]
        exact RTb_mo (fun _ _ _ => Or.inl) (e4 j h1 h3)
      · rw [ag _ (by omega) (by omega), ag' _ (by omega) (by omega)]
        exact e5 e
    · have g1 : blk h2 u = m := by rw [← hb]; unfold blk; rw [f1, f2, et]
      have g2 : blk h2' y = m := by rw [← hb']; unfold blk; rw [RTb_so q, f1, f3, ex, es]
      have g3 : prt u = prt t := prt_so f1
      refine ⟨⟨by rw [g1, g2], by omega, by omega⟩, fun j h1 h3 => ?_, fun e => absurd (f1.symm.trans e) hF⟩
      rw [g1] at h3
      rw [g3] at h1
      rw [f2, f3]
      exact RTb_mo (fun _ _ _ => Or.inl) (hp j h1 h3)
  · rcases r1 with r1 | ⟨-, x1, x2⟩
    · rcases r2 with r2 | ⟨-, y1, y2⟩
      · exact sI.2.1 _ _ _ _ _ _ r1 r2
      · have := pl _ _ _ r1
        omega
    · rcases r2 with r2 | ⟨-, y1, y2⟩
      · have := pl _ _ _ r2
        omega
      · omega
  · rcases q with q | ⟨q1, q2, q3⟩
    · exact sI.2.2 _ _ _ q
    · exact ⟨by rw [q1]; exact hx, by omega, by omega⟩
/-- the copy of {ATOM, x} has a copy of x behind its three cells -/
theorem CPX_sub {z : Nat} (g : HPc h n ow kd Fv P) (hF : FVc Fv) (e5 : so t = 5) (b3 : blk h t = 3) (h1 : ¬ isH (h (vn t + 1))) (zx : isH (h (vn t + 2))) (hs : s0 + (3 + z) ≤ 1000) (hz : 0 < z) (c : CPXc h n ow kd P d s0 (3 + z) t r) : CPXc h n ow kd P d (s0 + 3) z (h (vn t + 2)) (d (s0 + 2)) ∧ d s0 = h (vn t) ∧ d (s0 + 1) = h (vn t + 1) := by
  obtain ⟨src, bs, cp, pt, sp, c1, c2, c3, c4⟩ := c
  have cell : ∀ j, j < 3 → bs (s0 + j) = s0 ∧ xcO h src bs (s0 + j) = h (vn t + j) := fun j hj => by
    have w := cp.2.1 s0 (Nat.le_refl _) (by omega)
    rw [c1, c2, b3] at w
    have w2 := w.2.2.2.2.2.2.2 j hj
    refine ⟨w2, ?_⟩
    unfold xcO
    rw [w2, c2]
    congr 1
    omega
  have d0 : d s0 = h (vn t) := by
    have w := cp.2.2 s0 (Nat.le_refl _) (by omega)
    have e := (cell 0 (by omega)).2
    rw [Nat.add_zero, Nat.add_zero] at e
    rw [e] at w
    refine w.1 (fun zz => ?_)
    have w3 := cp.2.1 s0 (Nat.le_refl _) (by omega)
    rw [c1, c2] at w3
    have bk := (HP_bkc g (Or.inr (Or.inl e5)) w3.2.2.2.2.1).1
    have := (bk.2.1 e5).2
    unfold isH at zz
    omega
  have d1 : d (s0 + 1) = h (vn t + 1) := by
    have w := cp.2.2 (s0 + 1) (by omega) (by omega)
    rw [(cell 1 (by omega)).2] at w
    exact w.1 h1
  have w2 := cp.2.2 (s0 + 2) (by omega) (by omega)
  rw [(cell 2 (by omega)).2] at w2
  obtain ⟨y1, y2, y3, y4, y5, y6, y7⟩ := (w2.2 zx).2 (by omega)
  have zd : isH (d (s0 + 2)) := by unfold isH; rw [y1]; exact zx
  have nd0 : ¬ isH (d s0) := fun zz => by
    have w3 := cp.2.1 s0 (Nat.le_refl _) (by omega)
    rw [c1, c2] at w3
    have bk := (HP_bkc g (Or.inr (Or.inl e5)) w3.2.2.2.2.1).1
    have := (bk.2.1 e5).2
    rw [d0] at zz
    unfold isH at zz
    omega
  have nd1 : ¬ isH (d (s0 + 1)) := by rw [d1]; exact h1
  -- a block begins behind the first
  have st : ∀ c, s0 + 3 ≤ c → c < s0 + (3 + z) → s0 + 3 ≤ bs c := fun c q1 q2 => by
    have w := cp.2.1 c (by omega) q2
    apply Classical.byContradiction
    intro q
    have e : bs c = s0 := by
      have v := (cell (bs c - s0) (by omega)).1
      rw [show s0 + (bs c - s0) = bs c by omega, w.2.2.1] at v
      exact v
    rw [e, c2, b3] at w
    omega
  have b0 : bs (s0 + 3) = s0 + 3 := by
    have := st (s0 + 3) (Nat.le_refl _) (by omega)
    have w := (cp.2.1 (s0 + 3) (by omega) (by omega)).2.1
    omega
  have ep : y2 = s0 + 3 := by
    obtain ⟨c, q1, q2, q3, q4⟩ := pt.2.2 (s0 + 3) (by omega) (by omega) b0
    have ev : vn (d (s0 + 2)) = y2 := by unfold vn; rw [y3]; omega
    have yb : s0 + 3 ≤ y2 := by
      apply Classical.byContradiction
      intro q
      have v := (cell (y2 - s0) (by omega)).1
      rw [show s0 + (y2 - s0) = y2 by omega, y6] at v
      have := pt.1 (s0 + 2) (by omega) (by omega) zd
      omega
    by_cases e : c = s0 + 2
    · rw [e, ev] at q4
      exact q4
    · have lt2 : s0 + 2 < c := by
        apply Classical.byContradiction
        intro q
        have : c = s0 ∨ c = s0 + 1 := by omega
        rcases this with e | e
        · rw [e] at q3; exact nd0 q3
        · rw [e] at q3; exact nd1 q3
      have := pt.2.1 (s0 + 2) c (by omega) lt2 q2 zd q3
      omega
  subst ep
  refine ⟨⟨src, bs, ⟨by omega, fun c q1 q2 => ?_, fun c q1 q2 => ?_⟩, ⟨fun c q1 q2 q3 => ?_, fun e1 e2 q1 q2 q3 q4 q5 => pt.2.1 e1 e2 (by omega) q2 (by omega) q4 q5, fun a q1 q2 q3 => ?_⟩, hz, b0, y7, y1, y3⟩, d0, d1⟩
  · have w := cp.2.1 c (by omega) (by omega)
    exact ⟨st c q1 (by omega), w.2.1, w.2.2.1, w.2.2.2.1, w.2.2.2.2.1, w.2.2.2.2.2.1, by have := w.2.2.2.2.2.2.1; omega, w.2.2.2.2.2.2.2⟩
  · have w := cp.2.2 c (by omega) (by omega)
    refine ⟨w.1, fun zz => ⟨(w.2 zz).1 ∘ (fun q => by omega), fun q => ?_⟩⟩
    obtain ⟨v1, v2, v3, v4, v5, v6, v7⟩ := (w.2 zz).2 (by omega)
    have zc : isH (d c) := by unfold isH; rw [v1]; exact zz
    have l1 := pt.1 c (by omega) (by omega) zc
    have ev : vn (d c) = v2 := by unfold vn; rw [v3]; omega
    exact ⟨v1, v2, v3, by omega, by omega, v6, v7⟩
  · have := pt.1 c (by omega) (by omega) q3
    omega
  · obtain ⟨c, v1, v2, v3, v4⟩ := pt.2.2 a (by omega) (by omega) q3
    refine ⟨c, ?_, by omega, v3, v4⟩
    apply Classical.byContradiction
    intro q
    have : c = s0 ∨ c = s0 + 1 ∨ c = s0 + 2 := by omega
    rcases this with e | e | e
    · rw [e] at v3; exact nd0 v3
    · rw [e] at v3; exact nd1 v3
    · have ev : vn (d (s0 + 2)) = s0 + 3 := by unfold vn; rw [y3]; omega
      rw [e, ev] at v4
      omega
end
