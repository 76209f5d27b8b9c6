/-! copy of the reference: which cell points where -/
set_option maxRecDepth 100000
/-- a cell that points to its copy already -/
def DNE (hS : Nat → Int64) (many kc jc : Nat) (at' : Nat → Int) (st : Nat → Prop) (src : Nat → Int64) (k j : Nat) : Prop := st k ∧ prt (src k) ≤ j ∧ j < blk hS (src k) ∧ (k = kc → j < jc) ∧ isH (hS (vn (src k) + j)) ∧ ∀ i, i < many → at' i ≠ ((k + j : Nat) : Int)
def UQI (hS : Nat → Int64) (n0 : Nat) (g : Nat → Int64) (cur many kc jc : Nat) (at' : Nat → Int) (st : Nat → Prop) (src : Nat → Int64) : Prop :=
  (∀ k j, DNE hS many kc jc at' st src k j → k < vn (g (k + j)) ∧ vn (g (k + j)) < cur) ∧
  (∀ k j k2 j2, DNE hS many kc jc at' st src k j → DNE hS many kc jc at' st src k2 j2 → vn (g (k + j)) = vn (g (k2 + j2)) → k = k2 ∧ j = j2) ∧
  (∀ k, st k → k ≠ n0 → ∃ k2 j, DNE hS many kc jc at' st src k2 j ∧ vn (g (k2 + j)) = k) ∧
  (∀ i i2, i < many → i2 < many → at' i = at' i2 → i = i2) ∧
  ∀ i, i < many → ∀ k j, st k → j < blk hS (src k) → at' i = ((k + j : Nat) : Int) → k = kc → j < jc
/-- what copy leaves -/
def CPQx (u : MS) (hS : Nat → Int64) (nS : Nat) (owS kdS : Nat → Nat) (Fv : Int64 → Int64 → Prop) (P : Int64 → Prop) (f n0 to s : Nat) (t : Int64) (w : MS) (r : Int64) : Prop :=
  FR [] [] [89, 142] [88, 141] u w ∧ (∀ q, A w 89 q = if q = to then ((n0 + s : Nat) : Int) else A u 89 q) ∧ (∀ i, ¬ (500 * to + n0 ≤ i ∧ i < 500 * to + 500) → w.2.2.2 88 i = u.2.2.2 88 i) ∧ ∃ c st src oo, CPI hS nS owS kdS Fv P f n0 (hp w to) (n0 + s) 0 (n0 + s) 0 (w.2.2.2 141) (A w 142) c st src oo ∧ UQI hS n0 (hp w to) (n0 + s) 0 (n0 + s) 0 (A w 142) st src ∧ (st n0 ∧ src n0 = t) ∧ DST st src r t
section
variable {hS : Nat → Int64} {nS f n0 : Nat} {owS kdS : Nat → Nat} {Fv : Int64 → Int64 → Prop} {P : Int64 → Prop} {g g2 : Nat → Int64} {cur many kc jc : Nat} {sk : Nat → Int64} {at' at2 : Nat → Int} {c : Nat → Nat} {st : Nat → Prop} {src : Nat → Int64} {oo : Nat → Nat} {y : Int64} {a : Int}
theorem CPI_own (i : CPI hS nS owS kdS Fv P f n0 g cur many kc jc sk at' c st src oo) {k j k2 j2 : Nat} (h1 : st k) (h2 : j < blk hS (src k)) (h3 : st k2) (h4 : j2 < blk hS (src k2)) (e : k + j = k2 + j2) : k = k2 ∧ j = j2 := by
  have e1 := (i.2.2.1 k h1).2.2.2.2.1 j h2
  have e2 := (i.2.2.1 k2 h3).2.2.2.2.1 j2 h4
  rw [e, e2] at e1
  exact ⟨e1.symm, by omega⟩
theorem CPI_lt (i : CPI hS nS owS kdS Fv P f n0 g cur many kc jc sk at' c st src oo) {k : Nat} (h : st k) : k < cur := by
  obtain ⟨-, b, c, -⟩ := i.2.2.1 k h
  have := blk_pos (h := hS) c
  omega
theorem UQ_pop (i : CPI hS nS owS kdS Fv P f n0 g cur (many + 1) cur 0 sk at' c st src oo) (u : UQI hS n0 g cur (many + 1) cur 0 at' st src) (ha : at' many = a) (h0 : -1 ≤ a) (hr : a = -1 → cur = n0) (hg : ∀ j, (a ≠ -1 ∧ j = a.toNat → va (g2 j) = cur) ∧ (¬ (a ≠ -1 ∧ j = a.toNat) → g2 j = g j)) {b : Nat} (hb : 0 < blk hS (sk many)) (eb : b = blk hS (sk many)) : UQI hS n0 g2 (cur + b) many cur 0 at' (fun k => st k ∨ k = cur) (fun k => if k = cur then sk many else src k) := by
  obtain ⟨u1, u2, u3, u4, u5⟩ := u
  have es : ∀ k, st k → (if k = cur then sk many else src k) = src k := fun k hk => if_neg (by have := CPI_lt i hk; omega)
  -- a new one is an old one, or the one that is taken
  have new : ∀ k j, DNE hS many cur 0 at' (fun k => st k ∨ k = cur) (fun k => if k = cur then sk many else src k) k j → (DNE hS (many + 1) cur 0 at' st src k j ∧ g2 (k + j) = g (k + j)) ∨ (st k ∧ j < blk hS (src k) ∧ a = ((k + j : Nat) : Int) ∧ vn (g2 (k + j)) = cur) := fun k j ⟨d1, d2, d3, d4, d5, d6⟩ => by
    rcases d1 with d1 | d1
    · simp only [es k d1] at d2 d3 d5
      by_cases e : a = ((k + j : Nat) : Int)
      · refine Or.inr ⟨d1, d3, e, ?_⟩
        have := (hg (k + j)).1 ⟨by omega, by omega⟩
        unfold vn
        omega
      · refine Or.inl ⟨⟨d1, d2, d3, fun z => by have := CPI_lt i d1; omega, d5, fun q hq => ?_⟩, (hg (k + j)).2 (fun z => e (by omega))⟩
        by_cases eq : q = many
        · subst eq; rw [ha]; exact e
        · exact d6 q (by omega)
    · exact absurd (d4 d1) (Nat.not_lt_zero _)
  have old : ∀ k j, DNE hS (many + 1) cur 0 at' st src k j → DNE hS many cur 0 at' (fun k => st k ∨ k = cur) (fun k => if k = cur then sk many else src k) k j ∧ g2 (k + j) = g (k + j) := fun k j ⟨d1, d2, d3, d4, d5, d6⟩ => by
    refine ⟨⟨Or.inl d1, ?_, ?_, fun z => by have := CPI_lt i d1; omega, ?_, fun q hq => d6 q (by omega)⟩, (hg (k + j)).2 (fun z => ?_)⟩
    · simp only [es k d1]; exact d2
    · simp only [es k d1]; exact d3
    · simp only [es k d1]; exact d5
    · have := d6 many (by omega)
      rw [ha] at this
      rcases (i.2.1 many (by omega)).2.2 with w | ⟨w, -⟩
      · exact z.1 (ha.symm.trans w)
      · rw [ha] at w; omega
  refine ⟨fun k j d => ?_, fun k j k2 j2 d dd2 e => ?_, fun k hk hn => ?_, fun p q hp hq e => u4 p q (by omega) (by omega) e, fun p hp k j hk hj e ek => ?_⟩
  · rcases new k j d with ⟨d', e'⟩ | ⟨d1, d2, d3, d4⟩
    · rw [e']; have := u1 k j d'; omega
    · rw [d4]; have := CPI_lt i d1; omega
  · rcases new k j d with ⟨d', e'⟩ | ⟨d1, d2, d3, d4⟩
    · rcases new k2 j2 dd2 with ⟨d2', e2'⟩ | ⟨c1, c2, c3, c4⟩
      · rw [e', e2'] at e; exact u2 k j k2 j2 d' d2' e
      · rw [e', c4] at e; have := u1 k j d'; omega
    · rcases new k2 j2 dd2 with ⟨d2', e2'⟩ | ⟨c1, c2, c3, c4⟩
      · rw [d4, e2'] at e; have := u1 k2 j2 d2'; omega
      · exact CPI_own i d1 d2 c1 c2 (by omega)
  · rcases hk with hk | hk
    · obtain ⟨k2, j, d, e⟩ := u3 k hk hn
      obtain ⟨d', e'⟩ := old k2 j d
      exact ⟨k2, j, d', by rw [e']; exact e⟩
    · subst hk
      obtain ⟨s1, -, s3⟩ := i.2.1 many (by omega)
      rcases s3 with s3 | ⟨s3, k2, j, t4, t5, t6, t7, t8⟩
      · exact absurd (hr (ha.symm.trans s3)) hn
      · rw [ha] at s3 t7
        refine ⟨k2, j, ⟨Or.inl t4, ?_, ?_, fun z => by have := CPI_lt i t4; omega, ?_, fun q hq z => ?_⟩, ?_⟩
        · simp only [es k2 t4]; exact t5
        · simp only [es k2 t4]; exact t6
        · simp only [es k2 t4]; rw [t8]; exact s1
        · have := u4 q many (by omega) (by omega) (by rw [z, ha]; omega)
          omega
        · have := (hg (k2 + j)).1 ⟨by omega, by omega⟩
          unfold vn
          omega
  · rcases hk with hk | hk
    · have := CPI_lt i hk; omega
    · subst hk
      obtain ⟨-, -, s3⟩ := i.2.1 p (by omega)
      rcases s3 with s3 | ⟨s3, k2, j2, t4, t5, t6, t7, t8⟩
      · omega
      · have := (i.2.2.1 k2 t4).2.1
        omega
theorem UQ_cell (i : CPI hS nS owS kdS Fv P f n0 g cur many kc jc sk at' c st src oo) (u : UQI hS n0 g cur many kc jc at' st src) (hk : st kc) (hj : jc < blk hS (src kc)) (hy : hS (vn (src kc) + jc) = y) (hg : ∀ z, g2 z = if z = kc + jc then y else g z) (hn : jc < prt (src kc) ∨ ¬ isH y) : UQI hS n0 g2 cur many kc (jc + 1) at' st src := by
  obtain ⟨u1, u2, u3, u4, u5⟩ := u
  have same : ∀ k j, DNE hS many kc jc at' st src k j → g2 (k + j) = g (k + j) := fun k j d => by
    rw [hg, if_neg (fun e => ?_)]
    obtain ⟨e1, e2⟩ := CPI_own i d.1 d.2.2.1 hk hj e
    have := d.2.2.2.1 e1
    omega
  have new : ∀ k j, DNE hS many kc (jc + 1) at' st src k j → DNE hS many kc jc at' st src k j := fun k j ⟨d1, d2, d3, d4, d5, d6⟩ => ⟨d1, d2, d3, fun e => by
    have := d4 e
    by_cases ej : j = jc
    · subst ej
      subst e
      rw [hy] at d5
      rcases hn with z | z
      · omega
      · exact absurd d5 z
    · omega, d5, d6⟩
  refine ⟨fun k j d => ?_, fun k j k2 j2 d d2 e => ?_, fun k h1 h2 => ?_, u4, fun p hp k j h1 h2 e ek => Nat.lt_succ_of_lt (u5 p hp k j h1 h2 e ek)⟩
  · rw [same k j (new k j d)]; exact u1 k j (new k j d)
  · rw [same k j (new k j d), same k2 j2 (new k2 j2 d2)] at e
    exact u2 k j k2 j2 (new k j d) (new k2 j2 d2) e
  · obtain ⟨k2, j, d, e⟩ := u3 k h1 h2
    exact ⟨k2, j, ⟨d.1, d.2.1, d.2.2.1, fun z => Nat.lt_succ_of_lt (d.2.2.2.1 z), d.2.2.2.2⟩, by rw [same k2 j d]; exact e⟩
theorem UQ_push (i : CPI hS nS owS kdS Fv P f n0 g cur many kc jc sk at' c st src oo) (u : UQI hS n0 g cur many kc jc at' st src) (hk : st kc) (hj : jc < blk hS (src kc)) (hg : ∀ z, g2 z = if z = kc + jc then y else g z) (h2 : ∀ q, at2 q = if q = many then ((kc + jc : Nat) : Int) else at' q) : UQI hS n0 g2 cur (many + 1) kc (jc + 1) at2 st src := by
  obtain ⟨u1, u2, u3, u4, u5⟩ := u
  have a1 : ∀ q, q < many → at2 q = at' q := fun q hq => by rw [h2, if_neg (by omega)]
  have a2 : at2 many = ((kc + jc : Nat) : Int) := by rw [h2, if_pos rfl]
  have ne : ∀ k j, DNE hS many kc jc at' st src k j → k + j ≠ kc + jc := fun k j d e => by
    obtain ⟨e1, e2⟩ := CPI_own i d.1 d.2.2.1 hk hj e
    have := d.2.2.2.1 e1
    omega
  have same : ∀ k j, DNE hS many kc jc at' st src k j → g2 (k + j) = g (k + j) := fun k j d => by rw [hg, if_neg (ne k j d)]
  have new : ∀ k j, DNE hS (many + 1) kc (jc + 1) at2 st src k j → DNE hS many kc jc at' st src k j := fun k j ⟨d1, d2, d3, d4, d5, d6⟩ => ⟨d1, d2, d3, fun e => by
    have := d4 e
    by_cases ej : j = jc
    · subst ej
      subst e
      exact absurd a2 (d6 many (by omega))
    · omega, d5, fun q hq => by rw [← a1 q hq]; exact d6 q (by omega)⟩
  refine ⟨fun k j d => ?_, fun k j k2 j2 d d2 e => ?_, fun k h1 h3 => ?_, fun p q hp hq e => ?_, fun p hp k j h1 h3 e ek => ?_⟩
  · rw [same k j (new k j d)]; exact u1 k j (new k j d)
  · rw [same k j (new k j d), same k2 j2 (new k2 j2 d2)] at e
    exact u2 k j k2 j2 (new k j d) (new k2 j2 d2) e
  · obtain ⟨k2, j, d, e⟩ := u3 k h1 h3
    refine ⟨k2, j, ⟨d.1, d.2.1, d.2.2.1, fun z => Nat.lt_succ_of_lt (d.2.2.2.1 z), d.2.2.2.2.1, fun q hq => ?_⟩, by rw [same k2 j d]; exact e⟩
    by_cases eq : q = many
    · subst eq; rw [a2]; have := ne k2 j d; omega
    · rw [a1 q (by omega)]; exact d.2.2.2.2.2 q (by omega)
  · by_cases ep : p = many
    · by_cases eq : q = many
      · omega
      · subst ep
        rw [a2, a1 q (by omega)] at e
        have := u5 q (by omega) kc jc hk hj e.symm rfl
        omega
    · by_cases eq : q = many
      · subst eq
        rw [a2, a1 p (by omega)] at e
        have := u5 p (by omega) kc jc hk hj e rfl
        omega
      · rw [a1 p (by omega), a1 q (by omega)] at e
        exact u4 p q (by omega) (by omega) e
  · by_cases ep : p = many
    · subst ep
      rw [a2] at e
      obtain ⟨e1, e2⟩ := CPI_own i h1 h3 hk hj (by omega)
      omega
    · rw [a1 p (by omega)] at e
      exact Nat.lt_succ_of_lt (u5 p (by omega) k j h1 h3 e ek)
theorem UQ_out (i : CPI hS nS owS kdS Fv P f n0 g cur many kc jc sk at' c st src oo) (u : UQI hS n0 g cur many kc jc at' st src) (h : jc = blk hS (src kc)) : UQI hS n0 g cur many cur 0 at' st src := by
  obtain ⟨u1, u2, u3, u4, u5⟩ := u
  have new : ∀ k j, DNE hS many cur 0 at' st src k j → DNE hS many kc jc at' st src k j := fun k j ⟨d1, d2, d3, d4, d5, d6⟩ => ⟨d1, d2, d3, fun e => by subst e; omega, d5, d6⟩
  have old : ∀ k j, DNE hS many kc jc at' st src k j → DNE hS many cur 0 at' st src k j := fun k j ⟨d1, d2, d3, d4, d5, d6⟩ => ⟨d1, d2, d3, fun e => by have := CPI_lt i d1; omega, d5, d6⟩
  refine ⟨fun k j d => u1 k j (new k j d), fun k j k2 j2 d d2 e => u2 k j k2 j2 (new k j d) (new k2 j2 d2) e, fun k h1 h2 => ?_, u4, fun p hp k j h1 h3 e ek => ?_⟩
  · obtain ⟨k2, j, d, e⟩ := u3 k h1 h2
    exact ⟨k2, j, old k2 j d, e⟩
  · have := CPI_lt i h1; omega
end
section
variable {hS : Nat → Int64} {nS f n0 fr to s N : Nat} {owS kdS : Nat → Nat} {Fv : Int64 → Int64 → Prop} {P : Int64 → Prop} {u : MS} {t : Int64}
theorem cp_loopx (h1 : fr < 25) (h2 : to < 25) (hnS : nS ≤ 500) (hs : n0 + s ≤ 500) (hft : fr = to → nS ≤ n0) (gS : HP hS nS owS kdS Fv P) (ht : isH t) : ∀ (m : Nat),
    (∀ (w : MS) (many cur : Nat) (c : Nat → Nat) (st : Nat → Prop) (src : Nat → Int64) (oo : Nat → Nat), CPI hS nS owS kdS Fv P f n0 (hp w to) cur many cur 0 (w.2.2.2 141) (A w 142) c st src oo ∧ UQI hS n0 (hp w to) cur many cur 0 (A w 142) st src → A w 89 to = cur → cur + smm c 0 many = n0 + s → (∀ i, i < nS → hp w fr i = hS i) → FR [] [] [89, 142] [88, 141] u w → (∀ q, q ≠ to → A w 89 q = A u 89 q) → (∀ i, ¬ (500 * to + n0 ≤ i ∧ i < 500 * to + 500) → w.2.2.2 88 i = u.2.2.2 88 i) → ((many = 1 ∧ cur = n0 ∧ w.2.2.2 141 0 = t ∧ A w 142 0 = -1) ∨ (st n0 ∧ src n0 = t ∧ ∀ i, i < many → A w 142 i ≠ -1)) → 5 * smm c 0 many < m → OK (CPQx u hS nS owS kdS Fv P f n0 to s t) ((gg_M_copy N m).1 w (I fr) (I to) (rp t n0) (I many))) ∧
    (∀ (w : MS) (many cur kc j : Nat) (c d : Nat → Nat) (st : Nat → Prop) (src : Nat → Int64) (oo : Nat → Nat) (x : Int64), CPI hS nS owS kdS Fv P f n0 (hp w to) cur many kc j (w.2.2.2 141) (A w 142) c st src oo ∧ UQI hS n0 (hp w to) cur many kc j (A w 142) st src → st kc → src kc = x → j ≤ blk hS x → (∀ i, j ≤ i → i < blk hS x → prt x ≤ i → SZ hS nS owS kdS Fv P f (hS (vn x + i)) (d i)) → (∀ i, i < prt x → d i = 0) → A w 89 to = cur → cur + smm c 0 many + smm d j (blk hS x - j) = n0 + s → (∀ i, i < nS → hp w fr i = hS i) → FR [] [] [89, 142] [88, 141] u w → (∀ q, q ≠ to → A w 89 q = A u 89 q) → (∀ i, ¬ (500 * to + n0 ≤ i ∧ i < 500 * to + 500) → w.2.2.2 88 i = u.2.2.2 88 i) → (st n0 ∧ src n0 = t ∧ ∀ i, i < many → A w 142 i ≠ -1) → 5 * smm c 0 many + 5 * smm d j (blk hS x - j) + (blk hS x - j) + 1 < m → OK (CPQx u hS nS owS kdS Fv P f n0 to s t) ((gg_M_copy N m).2 w (I fr) (I to) (rp t n0) (I many) x (I (blk hS x)) (I kc) (I j))) := by
  intro m
  induction m with
  | zero => exact ⟨fun w many cur c st src oo _ _ _ _ _ _ _ _ z => absurd z (Nat.not_lt_zero _), fun w many cur kc j c d st src oo x _ _ _ _ _ _ _ _ _ _ _ _ _ z => absurd z (Nat.not_lt_zero _)⟩
  | succ m ih =>
    obtain ⟨ih1, ih2⟩ := ih
    refine ⟨fun w many cur c st src oo ci e89 hsum hsrc hf h89 h88 hr hm => ?_, fun w many cur kc j c d st src oo x ci hk hx hj hd hd0 e89 hsum hsrc hf h89 h88 hr hm => ?_⟩
    · obtain ⟨ci, uq⟩ := ci
      show OK _ (fb_M_copy_42 N (gg_M_copy N m) w (I fr) (I to) (rp t n0) (I many))
      unfold fb_M_copy_42
      have hmany : many ≤ smm c 0 many := smm_ge (fun i hi => SZ_pos (ci.2.1 i hi).1 (ci.2.1 i hi).2.1)
      rw [lit0, decI (by omega) (by omega) (by omega) (by omega)]
      cases many with
      | zero =>
        rw [decide_eq_true (by omega), br_t]
        have ec : cur = n0 + s := by rw [← hsum]; rfl
        subst ec
        rcases hr with ⟨z, -⟩ | ⟨r1, r2, -⟩
        · omega
        refine ok_some.mpr ⟨hf, fun q => ?_, h88, c, st, src, oo, ci, uq, ⟨r1, r2⟩, Or.inr ⟨ht, ?_, ?_, ?_, ?_⟩⟩
        · by_cases e : q = to
          · rw [if_pos e, e]; exact e89
          · rw [if_neg e]; exact h89 q e
        · exact so_rp (by omega) (by omega)
        · rw [va_rp (by omega) (by omega)]; omega
        · have : vn (rp t n0) = n0 := by unfold vn; rw [va_rp (by omega) (by omega)]; omega
          rw [this]; exact r1
        · have : vn (rp t n0) = n0 := by unfold vn; rw [va_rp (by omega) (by omega)]; omega
          rw [this]; exact r2
      | succ many =>
        have hlast : smm c 0 (many + 1) = smm c 0 many + c many := by show smm c 0 many + c (0 + many) = _; rw [Nat.zero_add]
        rw [decide_eq_false (by omega), br_f, litm1, I_add, show ((many + 1 : Nat) : Int) + -1 = (many : Int) from by omega]
        rw [inb_at (k := 141) (n := 3000) rfl (by omega) (by omega) (by decide), ck_t, lt_e, I_tn (by omega) (by omega), Int.toNat_natCast, inb_at (k := 142) (n := 3000) rfl (by omega) (by omega) (by decide), ck_t, lt_e]
        generalize hxx : w.2.2.2 141 many = x
        generalize hat : A w 142 many = a
        obtain ⟨s1, s2, s3⟩ := ci.2.1 many (by omega)
        rw [hxx] at s1 s2 s3
        rw [hat] at s3
        obtain ⟨f', hf'⟩ : ∃ f', f = f' + 1 := by cases f with | zero => exact s2.elim | succ f' => exact ⟨f', rfl⟩
        subst hf'
        rcases s2 with ⟨z, -⟩ | ⟨-, b, d, z3, z4⟩
        · exact absurd s1 z
        have bp := blk_pos (h := hS) s1
        have pl := prt_le (h := hS) s1
        have bn := b.2.2.2.1
        have hgeq : ∀ i, i < nS → hp w fr i = hS i := hsrc
        have bkw : BK (hp w fr) nS owS kdS Fv x := by
          obtain ⟨b1, b2, b3, b4, b5, b6⟩ := b
          have e0 : hp w fr (vn x) = hS (vn x) := hgeq _ (by omega)
          have e1 : so x = 3 → hp w fr (vn x + 1) = hS (vn x + 1) := fun e => hgeq _ (by have := blk_2 (h := hS) e; omega)
          have eb : blk (hp w fr) x = blk hS x := by
            unfold blk
            rw [e0]
            by_cases e : so x = 3
            · rw [e1 e]
            · simp [e]
          exact ⟨b1, fun e => by rw [e0]; exact b2 e, fun e => by rw [e0, e1 e]; exact b3 e, by rw [eb]; exact b4, b5, by rw [eb]; exact b6⟩
        have eb : blk (hp w fr) x = blk hS x := by
          have e0 : hp w fr (vn x) = hS (vn x) := hgeq _ (by omega)
          unfold blk
          rw [e0]
          by_cases e : so x = 3
          · rw [hgeq (vn x + 1) (by have := blk_2 (h := hS) e; omega)]
          · simp [e]
        rw [sizeOf_e h1 hnS s1 bkw, bnd_so, eb, inb_at (k := 89) (n := 25) rfl (by omega) (by omega) (by decide), ck_t, lt_e, ck_t, ck_t, lt_e, I_tn (by omega) (by omega), Int.toNat_natCast, I_A' e89, I_add, wa_e, I_A, hat, decE (by have := A_r w 142 many; omega) (by have := A_r w 142 many; omega) (by omega) (by omega)]
        -- sizes of parts, headers have none
        have hbl : c many = blk hS x + smm (fun i => if i < prt x then 0 else d i) 0 (blk hS x) := by
          rw [z4]
          congr 1
          have key : ∀ q, smm (fun i => if i < prt x then 0 else d i) 0 (prt x + q) = smm d (prt x) q := by
            intro q
            induction q with
            | zero =>
              have : ∀ r, r ≤ prt x → smm (fun i => if i < prt x then 0 else d i) 0 r = 0 := by
                intro r
                induction r with
                | zero => intro _; rfl
                | succ r ir =>
                  intro hr2
                  show smm _ 0 r + (if 0 + r < prt x then 0 else d (0 + r)) = 0
                  rw [ir (by omega), if_pos (by omega)]
              exact this (prt x) (Nat.le_refl _)
            | succ q iq =>
              show smm _ 0 (prt x + q) + (if 0 + (prt x + q) < prt x then 0 else d (0 + (prt x + q))) = smm d (prt x) q + d (prt x + q)
              rw [iq, if_neg (by omega), Nat.zero_add]
          have := key (blk hS x - prt x)
          rw [show prt x + (blk hS x - prt x) = blk hS x from by omega] at this
          exact this.symm
        have hz3 : ∀ i, 0 ≤ i → i < blk hS x → prt x ≤ i → SZ hS nS owS kdS Fv P (f' + 1) (hS (vn x + i)) ((fun i => if i < prt x then 0 else d i) i) := fun i _ hi hp2 => by
          show SZ _ _ _ _ _ _ _ _ (if i < prt x then 0 else d i)
          rw [if_neg (by omega)]
          exact SZ_mono (z3 i hp2 hi)
        have hr89 : ∀ q, q ≠ to → A (wa w 89 to ((cur : Int) + (blk hS x : Int))) 89 q = A u 89 q := fun q hq => by rw [A_wa (by omega) (by omega), if_pos rfl, if_neg hq]; exact h89 q hq
        have hroot : (st n0 ∨ n0 = cur) ∧ (if n0 = cur then x else src n0) = t ∧ ∀ i, i < many → A w 142 i ≠ -1 := by
          rcases hr with ⟨r1, r2, r3, r4⟩ | ⟨r1, r2, r3⟩
          · have em : many = 0 := by omega
            subst em
            exact ⟨Or.inr r2.symm, by rw [if_pos r2.symm, ← hxx]; exact r3, fun i hi => absurd hi (Nat.not_lt_zero _)⟩
          · have : n0 < cur := by
              obtain ⟨-, q2, q3, -⟩ := ci.2.2.1 n0 r1
              have := blk_pos (h := hS) q3
              omega
            exact ⟨Or.inl r1, by rw [if_neg (by omega)]; exact r2, fun i hi => r3 i (by omega)⟩
        have hrn : a = -1 → cur = n0 := fun z => by
          rcases hr with ⟨r1, r2, r3, r4⟩ | ⟨r1, r2, r3⟩
          · exact r2
          · exact absurd (hat.trans z) (r3 many (by omega))
        by_cases ea : a = -1
        · rw [decide_eq_true ea, br_t]
          unfold fb_M_copy_128
          rw [lit0]
          have cp := CPI_pop (g2 := hp w to) ci hxx hat (fun j => ⟨fun z => absurd ea z.1, fun _ => rfl⟩)
          have uq2 := UQ_pop (g2 := hp w to) (b := blk hS x) ci uq hat (by omega) (fun _ => hrn ea) (fun j => ⟨fun z => absurd ea z.1, fun _ => rfl⟩) (by rw [hxx]; exact bp) (by rw [hxx])
          rw [hxx] at uq2
          exact ih2 (wa w 89 to ((cur : Int) + (blk hS x : Int))) many (cur + blk hS x) cur 0 c _ _ _ _ x ⟨cp, uq2⟩ (Or.inr rfl) (if_pos rfl) (Nat.zero_le _) hz3 (fun i hi => if_pos hi) (by rw [A_wa (by omega) (by omega), if_pos rfl, if_pos rfl]; omega) (by rw [Nat.sub_zero]; omega) hsrc (FR.wa hf (by decide)) hr89 h88 hroot (by rw [Nat.sub_zero]; omega)
        · rw [decide_eq_false ea, br_f]
          rcases s3 with s3 | ⟨s3, k', j', t4, t5, t6, t7, t8⟩
          · exact absurd s3 ea
          obtain ⟨q1, q2, -⟩ := ci.2.2.1 k' t4
          have ha5 : n0 ≤ a.toNat ∧ a.toNat < cur := by omega
          rw [lit500, I_mul, I_add, inb_at (k := 88) (n := 12500) rfl (by omega) (by omega) (by decide), ck_t, lt_e, I_tn (by omega) (by omega), show ((to : Int) * 500 + a).toNat = 500 * to + a.toNat from by omega]
          rw [show (x &&& -4294967296) ||| (I (cur : Int)).toInt64 = rp x cur from rfl, wj_e]
          unfold fb_M_copy_128
          rw [lit0]
          have cp := CPI_pop (g2 := hp (wj (wa w 89 to ((cur : Int) + (blk hS x : Int))) 88 (500 * to + a.toNat) (rp x cur)) to) ci hxx hat (fun j => by
            unfold hp
            rw [J_wj, if_pos rfl]
            refine ⟨fun z => ?_, fun z => ?_⟩
            · rw [if_pos (by omega)]; exact ⟨so_rp (by omega) (by omega), va_rp (by omega) (by omega)⟩
            · rw [if_neg (fun e => z ⟨ea, by omega⟩)]; rfl)
          have uq2 := UQ_pop (g2 := hp (wj (wa w 89 to ((cur : Int) + (blk hS x : Int))) 88 (500 * to + a.toNat) (rp x cur)) to) (b := blk hS x) ci uq hat (by omega) hrn (fun j => by
            unfold hp
            rw [J_wj, if_pos rfl]
            refine ⟨fun z => ?_, fun z => ?_⟩
            · rw [if_pos (by omega)]; exact va_rp (by omega) (by omega)
            · rw [if_neg (fun e => z ⟨ea, by omega⟩)]; rfl) (by rw [hxx]; exact bp) (by rw [hxx])
          rw [hxx] at uq2
          have cp' := cp
          have e141 : (wj (wa w 89 to ((cur : Int) + (blk hS x : Int))) 88 (500 * to + a.toNat) (rp x cur)).2.2.2 141 = w.2.2.2 141 := wj_ne (show 141 ≠ 88 by decide)
          rw [← e141] at cp'
          refine ih2 (wj (wa w 89 to ((cur : Int) + (blk hS x : Int))) 88 (500 * to + a.toNat) (rp x cur)) many (cur + blk hS x) cur 0 c _ _ _ _ x ⟨cp', uq2⟩ (Or.inr rfl) (if_pos rfl) (Nat.zero_le _) hz3 (fun i hi => if_pos hi) (by rw [A_wj, A_wa (by omega) (by omega), if_pos rfl, if_pos rfl]; omega) (by rw [Nat.sub_zero]; omega) (fun i hi => ?_) (FR.wj (FR.wa hf (by decide)) (by decide)) hr89 (fun i hi => ?_) hroot (by rw [Nat.sub_zero]; omega)
          · unfold hp
            rw [J_wj, if_pos rfl, if_neg (fun e => ?_)]
            · exact hsrc i hi
            · by_cases eft : fr = to
              · have := hft eft; omega
              · omega
          · rw [J_wj, if_pos rfl, if_neg (by omega)]; exact h88 i hi
    · obtain ⟨ci, uq⟩ := ci
      show OK _ (fb_M_copy_131 N (gg_M_copy N m) w (I fr) (I to) (rp t n0) (I many) x (I (blk hS x)) (I kc) (I j))
      unfold fb_M_copy_131
      subst hx
      obtain ⟨r1, r2, r3, r4, r5, r6⟩ := ci.2.2.1 kc hk
      have bk := (HP_bk gS r3 r4).1
      have bn := bk.2.2.2.1
      have hmany : many ≤ smm c 0 many := smm_ge (fun i hi => SZ_pos (ci.2.1 i hi).1 (ci.2.1 i hi).2.1)
      rw [decI (by omega) (by omega) (by omega) (by omega)]
      by_cases ej : blk hS (src kc) ≤ j
      · rw [decide_eq_true (by omega), br_t]
        have e0 : blk hS (src kc) - j = 0 := by omega
        rw [e0] at hsum hm
        exact ih1 w many cur c st src oo ⟨CPI_out ci (by omega), UQ_out ci uq (by omega)⟩ e89 (by rw [← hsum]; rfl) hsrc hf h89 h88 (Or.inr hr) (by omega)
      rw [decide_eq_false (by omega), br_f, valueOf_e, bnd_so]
      obtain ⟨q, hq⟩ : ∃ q, blk hS (src kc) - j = q + 1 := ⟨blk hS (src kc) - j - 1, by omega⟩
      have hq2 : blk hS (src kc) - (j + 1) = q := by omega
      rw [hq, smm_split] at hsum hm
      have ev : va (src kc) = (vn (src kc) : Int) := by have := bk.1; unfold vn; omega
      rw [ev, I_add, show (vn (src kc) : Int) + (j : Int) = ((vn (src kc) + j : Nat) : Int) from by omega, cell_e h1 (by omega), bnd_so, hsrc _ (by omega)]
      generalize hy : hS (vn (src kc) + j) = y
      rw [lit500, I_mul, I_add, I_add, inb_at (k := 88) (n := 12500) rfl (by omega) (by omega) (by decide), ck_t, lt_e, I_tn (by omega) (by omega), show ((to : Int) * 500 + (kc : Int) + (j : Int)).toNat = 500 * to + (kc + j) from by omega, wj_e, partsFrom_e r3, bnd_so, decL (by omega) (by have := prt_le (h := hS) r3; omega) (by omega) (by have := prt_le (h := hS) r3; omega)]
      have hg2 : ∀ z, hp (wj w 88 (500 * to + (kc + j)) y) to z = if z = kc + j then y else hp w to z := fun z => by
        unfold hp
        rw [J_wj, if_pos rfl]
        by_cases e : z = kc + j
        · rw [if_pos (by omega), if_pos e]
        · rw [if_neg (by omega), if_neg e]
      have hsrc2 : ∀ i, i < nS → hp (wj w 88 (500 * to + (kc + j)) y) fr i = hS i := fun i hi => by
        unfold hp
        rw [J_wj, if_pos rfl, if_neg (fun e => ?_)]
        · exact hsrc i hi
        · by_cases eft : fr = to
          · have := hft eft; omega
          · omega
      have h882 : ∀ i, ¬ (500 * to + n0 ≤ i ∧ i < 500 * to + 500) → (wj w 88 (500 * to + (kc + j)) y).2.2.2 88 i = u.2.2.2 88 i := fun i hi => by
        rw [J_wj, if_pos rfl, if_neg (by omega)]; exact h88 i hi
      have plain : (j < prt (src kc) ∨ ¬ isH y) → OK (CPQx u hS nS owS kdS Fv P f n0 to s t) (fb_M_copy_214 N (gg_M_copy N m) (wj w 88 (500 * to + (kc + j)) y) (I fr) (I to) (rp t n0) (I many) (src kc) (I (blk hS (src kc))) (I kc) (I j)) := by
        intro hpl
        unfold fb_M_copy_214
        rw [lit1, I_add]
        have dj : d j = 0 := by
          rcases hpl with z | z
          · exact hd0 j z
          · by_cases z2 : prt (src kc) ≤ j
            · have sz := hd j (Nat.le_refl _) (by omega) z2
              rw [hy] at sz
              cases f with
              | zero => exact sz.elim
              | succ f =>
                rcases sz with ⟨-, -, w⟩ | ⟨w, -⟩
                · exact w
                · exact absurd w z
            · exact hd0 j (by omega)
        have cc := CPI_cell ci hk (by omega) hy hg2 hpl
        refine ih2 (wj w 88 (500 * to + (kc + j)) y) many cur kc (j + 1) c d st src oo (src kc) ⟨?_, UQ_cell ci uq hk (by omega) hy hg2 hpl⟩ hk rfl (by omega) (fun i a b2 c2 => hd i (by omega) b2 c2) hd0 e89 (by rw [hq2]; omega) hsrc2 (FR.wj hf (by decide)) h89 h882 hr (by rw [hq2]; omega)
        rw [wj_ne (show 141 ≠ 88 by decide)]; exact cc
      by_cases hp2 : j < prt (src kc)
      · rw [decide_eq_true (by omega), br_t]
        exact plain (Or.inl hp2)
      rw [decide_eq_false (by omega), br_f]
      by_cases hyh : isH y
      · rw [inHeap_e.1 hyh, bnd_so, lit0, decE (by omega) (by omega) (by omega) (by omega), decide_eq_false (by omega), br_f]
        have sz := hd j (Nat.le_refl _) (by omega) (by omega)
        rw [hy] at sz
        have dp := SZ_pos hyh sz
        rw [inb_at (k := 141) (n := 3000) rfl (by omega) (by omega) (by decide), ck_t, lt_e, I_tn (by omega) (by omega), Int.toNat_natCast, wj_e, inb_at (k := 142) (n := 3000) rfl (by omega) (by omega) (by decide), ck_t, lt_e, I_add, wa_e]
        unfold fb_M_copy_214
        rw [lit1, I_add, I_add]
        have cc := CPI_push (sk2 := (wa (wj (wj w 88 (500 * to + (kc + j)) y) 141 many y) 142 many ((kc : Int) + (j : Int))).2.2.2 141) (at2 := A (wa (wj (wj w 88 (500 * to + (kc + j)) y) 141 many y) 142 many ((kc : Int) + (j : Int))) 142) ci hk (by omega) (by omega) hy hyh sz hg2 (fun q => by
          rw [J_wa, J_wj, if_pos rfl, wj_ne (show 141 ≠ 88 by decide)]) (fun q => by
          rw [A_wa (by omega) (by omega), if_pos rfl]
          by_cases e : q = many
          · rw [if_pos e, if_pos e]; omega
          · rw [if_neg e, if_neg e]; rfl)
        refine ih2 (wa (wj (wj w 88 (500 * to + (kc + j)) y) 141 many y) 142 many ((kc : Int) + (j : Int))) (many + 1) cur kc (j + 1) (fun q => if q = many then d j else c q) d st src oo (src kc) ⟨cc, UQ_push (at2 := A (wa (wj (wj w 88 (500 * to + (kc + j)) y) 141 many y) 142 many ((kc : Int) + (j : Int))) 142) ci uq hk (by omega) hg2 (fun q => by
          rw [A_wa (by omega) (by omega), if_pos rfl]
          by_cases e : q = many
          · rw [if_pos e, if_pos e]; omega
          · rw [if_neg e, if_neg e]; rfl)⟩ hk rfl (by omega) (fun i a b2 c2 => hd i (by omega) b2 c2) hd0 (by rw [A_wa (by omega) (by omega), if_neg (by decide)]; exact e89) (by rw [smm_upd, hq2]; omega) hsrc2 (FR.wa (FR.wj (FR.wj hf (by decide)) (by decide)) (by decide)) (fun q hq => by rw [A_wa (by omega) (by omega), if_neg (by decide)]; exact h89 q hq) h882 ⟨hr.1, hr.2.1, fun i hi => ?_⟩ (by rw [smm_upd, hq2]; omega)
        rw [A_wa (by omega) (by omega), if_pos rfl]
        by_cases e : i = many
        · rw [if_pos e]; omega
        · rw [if_neg e]; exact hr.2.2 i (by omega)
      · rw [inHeap_e.2 hyh, bnd_so, lit0, decE (by omega) (by omega) (by omega) (by omega), decide_eq_true rfl, br_t]
        exact plain (Or.inr hyh)
theorem copy_x (h1 : fr < 25) (h2 : to < 25) (hnS : nS ≤ 500) (hs : n0 + s ≤ 500) (hft : fr = to → nS ≤ n0) (gS : HP (hp u fr) nS owS kdS Fv P) (z : SZ (hp u fr) nS owS kdS Fv P f t s) (hu : A u 89 to = n0) (hN : 3000 ≤ N) (ht : isH t) : OK (CPQx u (hp u fr) nS owS kdS Fv P f n0 to s t) (fm_M_copy N u (I fr) t (I to)) := by
  unfold fm_M_copy fb_M_copy_0
  · rw [inHeap_e.1 ht, bnd_so, lit0, decE (by omega) (by omega) (by omega) (by omega), decide_eq_false (by omega), br_f, inb_at (k := 89) (n := 25) rfl (by omega) (by omega) (by decide), ck_t, lt_e, I_tn (x := (to : Int)) (by omega) (by omega), Int.toNat_natCast, I_A' hu, inb_at (k := 141) (n := 3000) rfl (by omega) (by omega) (by decide), ck_t, lt_e, I_tn (by omega) (by omega), wj_e, inb_at (k := 142) (n := 3000) rfl (by omega) (by omega) (by decide), ck_t, lt_e, litm1, wa_e, lit1]
    refine (cp_loopx (N := N) (u := u) (f := f) h1 h2 hnS hs hft gS ht N).1 (wa (wj u 141 0 t) 142 0 (-1)) 1 n0 (fun _ => s) (fun _ => False) (fun _ => 0) (fun _ => 0) ⟨⟨Nat.le_refl _, fun i hi => ?_, fun k hk => hk.elim, fun x a b => by omega⟩, ⟨fun k j h => h.1.elim, fun k j k2 j2 h => h.1.elim, fun k h => h.elim, fun i i2 h1 h2 _ => by omega, fun i _ k j h => h.elim⟩⟩ (by rw [A_wa (by omega) (by omega), if_neg (by decide)]; exact hu) (by show n0 + (0 + s) = _; omega) (fun i hi => rfl) (FR.wa (FR.wj FR.rf (by decide)) (by decide)) (fun q hq => by rw [A_wa (by omega) (by omega), if_neg (by decide)]; rfl) (fun i hi => by rw [J_wa, J_wj, if_neg (by decide)]) (Or.inl ⟨rfl, rfl, by rw [J_wa, J_wj, if_pos rfl, if_pos rfl], by rw [A_wa (by omega) (by omega), if_pos rfl, if_pos rfl]⟩) (by show 5 * (0 + s) < N; omega)
    have e : i = 0 := by omega
    subst e
    rw [J_wa, J_wj, if_pos rfl, if_pos rfl, A_wa (by omega) (by omega), if_pos rfl, if_pos rfl]
    exact ⟨ht, z, Or.inl rfl⟩
end
