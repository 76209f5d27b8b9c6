section
set_option maxRecDepth 100000
def RTb (b : Int → Nat → Nat → Prop) (t x : Int64) : Prop := (¬ isH t ∧ x = t ∧ (so t = 6 → va t = 0)) ∨ (isH t ∧ so x = so t ∧ (0 ≤ va t ∧ 0 ≤ va x) ∧ b (so t) (vn t) (vn x))
def PLR (c d : Int64) : Prop := (∃ u : Nat, u < 100000 ∧ va c = ((u : Nat) : Int) ∧ d.toInt = ((u : Nat) : Int)) ∨ (∃ f : Nat, f < 100000 ∧ va c = ((1000000 + f : Nat) : Int) ∧ d.toInt = -1 - ((f : Nat) : Int))
def BLb (b : Int → Nat → Nat → Prop) (h : Nat → Int64) (n : Nat) (h' : Nat → Int64) (n' : Nat) (t x : Int64) : Prop := (blk h' x = blk h t ∧ vn t + blk h t ≤ n ∧ vn x + blk h t ≤ n') ∧ (∀ j, prt t ≤ j → j < blk h t → RTb b (h (vn t + j)) (h' (vn x + j))) ∧ (so t = 3 → PLR (h (vn t)) (h' (vn x)))
def IJb (b : Int → Nat → Nat → Prop) : Prop := ∀ k l a c a2 c2, b k a c → b l a2 c2 → (a = a2 ↔ c = c2)
def ISb (b : Int → Nat → Nat → Prop) (h : Nat → Int64) (n : Nat) (h' : Nat → Int64) (n' : Nat) : Prop :=
  (∀ t x, isH t → RTb b t x → BLb b h n h' n' t x) ∧ IJb b ∧ ∀ k a c, b k a c → (k = 3 ∨ k = 5 ∨ k = 7) ∧ a < 1000 ∧ c < 1000
def ISw (b : Int → Nat → Nat → Prop) (h : Nat → Int64) (n : Nat) (h' : Nat → Int64) (n' : Nat) : Prop :=
  (∀ t x, isH t → RTb b t x → BLb b h n h' n' t x) ∧ True ∧ ∀ k a c, b k a c → (k = 3 ∨ k = 5 ∨ k = 7) ∧ a < 1000 ∧ c < 1000
section
variable {b b2 bn : Int → Nat → Nat → Prop} {h h' h2 h2' : Nat → Int64} {n n' n2 n2' m a c : Nat} {t x y : Int64} {k : Int} {ow kd ow' kd' : Nat → Nat} {Fv Fv' : Int64 → Int64 → Prop} {P P' : Int64 → Prop}
theorem ISb.w (s : ISb b h n h' n') : ISw b h n h' n' := ⟨s.1, trivial, s.2.2⟩
theorem RTb_so (r : RTb b t x) : so x = so t := by
  rcases r with r | r
  · rw [r.2.1]
  · exact r.2.1
theorem RTb_isH (r : RTb b t x) : isH x ↔ isH t := by unfold isH; rw [RTb_so r]
theorem RTb_prt (r : RTb b t x) : prt x = prt t := prt_so (RTb_so r)
theorem RTb_n (r : RTb b t x) (z : ¬ isH t) : x = t := by
  rcases r with r | r
  · exact r.2.1
  · exact absurd r.1 z
theorem RTb_h (r : RTb b t x) (z : isH t) : (0 ≤ va t ∧ 0 ≤ va x) ∧ b (so t) (vn t) (vn x) := by
  rcases r with r | r
  · exact absurd z r.1
  · exact r.2.2
theorem RTb_nil (r : RTb b t x) (z : so t = 6) : va t = 0 := by
  rcases r with r | r
  · exact r.2.2 z
  · have := r.1; unfold isH at this; omega
theorem RTb_mo (q : ∀ k a c, b k a c → b2 k a c) (r : RTb b t x) : RTb b2 t x := by
  rcases r with r | ⟨r1, r2, r3, r4⟩
  · exact Or.inl r
  · exact Or.inr ⟨r1, r2, r3, q _ _ _ r4⟩
theorem RTb_lit (z : ¬ isH t) (z6 : so t = 6 → va t = 0) : RTb b t t := Or.inl ⟨z, rfl, z6⟩
theorem isH_mk (hk : k = 3 ∨ k = 5 ∨ k = 7) {v : Int} : isH (mk k v) := by
  unfold isH
  rw [so_mk (by omega) (by omega)]
  exact hk
theorem RTb_mk (hk : k = 3 ∨ k = 5 ∨ k = 7) (ha : a < 1000) (hc : c < 1000) (q : b k a c) : RTb b (mk k ((a : Nat) : Int)) (mk k ((c : Nat) : Int)) := by
  have e1 : so (mk k ((a : Nat) : Int)) = k := so_mk (by omega) (by omega)
  have e2 : so (mk k ((c : Nat) : Int)) = k := so_mk (by omega) (by omega)
  have v1 : va (mk k ((a : Nat) : Int)) = ((a : Nat) : Int) := va_mk (by omega) (by omega)
  have v2 : va (mk k ((c : Nat) : Int)) = ((c : Nat) : Int) := va_mk (by omega) (by omega)
  refine Or.inr ⟨isH_mk hk, by rw [e1, e2], ⟨by omega, by omega⟩, ?_⟩
  have w1 : vn (mk k ((a : Nat) : Int)) = a := by unfold vn; rw [v1]; omega
  have w2 : vn (mk k ((c : Nat) : Int)) = c := by unfold vn; rw [v2]; omega
  rw [e1, w1, w2]
  exact q
theorem ISb_lt (s : ISb b h n h' n') (q : b k a c) : a < n ∧ c < n' := by
  obtain ⟨hk, ha, hc⟩ := s.2.2 k a c q
  have r := RTb_mk (b := b) hk ha hc q
  obtain ⟨⟨e1, e2, e3⟩, -⟩ := s.1 _ _ (isH_mk hk) r
  have p1 := blk_pos (h := h) (isH_mk hk (v := ((a : Nat) : Int)))
  have v1 : va (mk k ((a : Nat) : Int)) = ((a : Nat) : Int) := va_mk (by omega) (by omega)
  have v2 : va (mk k ((c : Nat) : Int)) = ((c : Nat) : Int) := va_mk (by omega) (by omega)
  have w1 : vn (mk k ((a : Nat) : Int)) = a := by unfold vn; rw [v1]; omega
  have w2 : vn (mk k ((c : Nat) : Int)) = c := by unfold vn; rw [v2]; omega
  rw [w1] at e2
  rw [w2] at e3
  omega
theorem blk_ag (z : isH t) (hh : ∀ i, i < n → h2 i = h i) (hn : vn t + blk h t ≤ n) : blk h2 t = blk h t := by
  have hb := blk_pos (h := h) z
  have e0 : h2 (vn t) = h (vn t) := hh _ (by omega)
  unfold blk at hn ⊢
  rw [e0]
  by_cases e : so t = 3
  · have n7 : ¬ so t = 7 := by omega
    have n5 : ¬ so t = 5 := by omega
    rw [if_neg n7, if_neg n5, if_pos e] at hn
    rw [hh (vn t + 1) (by omega)]
  · simp [e]
theorem SZ_iso (s : ISb b h n2 h' n2') : ∀ {f g : Nat} {t x : Int64} {r r' : Nat}, RTb b t x → SZc h n ow kd Fv P f t r → SZ h' n' ow' kd' Fv' P' g x r' → r = r'
  | 0, _, _, _, _, _, _, z, _ => z.elim
  | _ + 1, 0, _, _, _, _, _, _, z => z.elim
  | f + 1, g + 1, t, x, r, r', q, z, y => by
    have hi := RTb_isH q
    rcases z with ⟨z1, -, z3⟩ | ⟨z1, -, c, z3, z4⟩
    · rcases y with ⟨-, -, y3⟩ | ⟨y1, -⟩
      · rw [z3, y3]
      · exact absurd (hi.mp y1) z1
    · rcases y with ⟨y1, -⟩ | ⟨-, -, d, y3, y4⟩
      · exact absurd (hi.mpr z1) y1
      · obtain ⟨⟨e1, -⟩, e2, -⟩ := s.1 t x z1 q
        have hp := prt_le (h := h) z1
        rw [z4, y4, e1, RTb_prt q, smm_eq (d := d) (fun j h1 h2 => SZ_iso s (e2 j h1 (by omega)) (z3 j h1 (by omega)) (y3 j (by rw [RTb_prt q]; exact h1) (by rw [e1]; omega)))]
theorem ISb_ext (s : ISb b h n h' n') (hn : n ≤ n2) (hn' : n' ≤ n2') (hh : ∀ i, i < n → h2 i = h i) (hh' : ∀ i, i < n' → h2' i = h' i)
    (q1 : ∀ k a c, bn k a c → (k = 3 ∨ k = 5 ∨ k = 7) ∧ (n ≤ a ∧ a < 1000) ∧ n' ≤ c ∧ c < 1000) (q2 : IJb bn)
    (q3 : ∀ t x, isH t → so x = so t → 0 ≤ va t → 0 ≤ va x → bn (so t) (vn t) (vn x) → BLb (fun k a c => b k a c ∨ bn k a c) h2 n2 h2' n2' t x) : ISb (fun k a c => b k a c ∨ bn k a c) h2 n2 h2' n2' := by
  refine ⟨fun t x z r => ?_, fun k l a c a2 c2 r1 r2 => ?_, fun k a c r => ?_⟩
  · obtain ⟨⟨r1, r2⟩, r3⟩ := RTb_h r z
    rcases r3 with r3 | r3
    · have r4 : RTb b t x := Or.inr ⟨z, RTb_so r, ⟨r1, r2⟩, r3⟩
      obtain ⟨⟨e1, e2, e3⟩, e4, e5⟩ := s.1 t x z r4
      have zx := (RTb_isH r4).mpr z
      have g1 : blk h2 t = blk h t := blk_ag z hh e2
      have g2 : blk h2' x = blk h' x := blk_ag zx hh' (by omega)
      have p0 := blk_pos (h := h) z
      refine ⟨⟨by rw [g1, g2]; exact e1, by omega, by omega⟩, fun j h1 h3 => ?_, fun e => ?_⟩
      · rw [g1] at h3
        rw [hh _ (by omega), hh' _ (by omega)]
        exact RTb_mo (fun _ _ _ => Or.inl) (e4 j h1 h3)
      · rw [hh _ (by omega), hh' _ (by omega)]
        exact e5 e
    · exact q3 t x z (RTb_so r) r1 r2 r3
  · rcases r1 with r1 | r1
    · rcases r2 with r2 | r2
      · exact s.2.1 _ _ _ _ _ _ r1 r2
      · have := ISb_lt s r1
        have := q1 _ _ _ r2
        omega
    · rcases r2 with r2 | r2
      · have := ISb_lt s r2
        have := q1 _ _ _ r1
        omega
      · exact q2 _ _ _ _ _ _ r1 r2
  · rcases r with r | r
    · exact s.2.2 _ _ _ r
    · have := q1 _ _ _ r
      exact ⟨this.1, by omega, by omega⟩
theorem ISb_new (s : ISb b h n h' n') (hx : isH t) (es : so x = so t) (v0 : 0 ≤ va t ∧ 0 ≤ va x) (et : vn t = n) (ex : vn x = n') (hb : blk h2 t = m) (hb' : blk h2' x = m) (hm : n + m ≤ 1000 ∧ n' + m ≤ 1000) (hh : ∀ i, i < n → h2 i = h i) (hh' : ∀ i, i < n' → h2' i = h' i)
    (hp : ∀ j, prt t ≤ j → j < m → RTb b (h2 (n + j)) (h2' (n' + j))) (hF : so t = 3 → PLR (h2 n) (h2' n')) : ISb (fun k a c => b k a c ∨ (k = so t ∧ a = n ∧ c = n')) h2 (n + m) h2' (n' + m) ∧ RTb (fun k a c => b k a c ∨ (k = so t ∧ a = n ∧ c = n')) t x := by
  have p0 : 0 < m := by rw [← hb]; exact blk_pos hx
  refine ⟨ISb_ext (bn := fun k a c => k = so t ∧ a = n ∧ c = n') s (by omega) (by omega) hh hh' (fun k a c q => by
    obtain ⟨x0, x1, x2⟩ := q
    exact ⟨by rw [x0]; exact hx, by omega, by omega⟩) (fun k l a c a2 c2 r1 r2 => by
    obtain ⟨-, x1, x2⟩ := r1
    obtain ⟨-, y1, y2⟩ := r2
    omega) (fun u y z e1 e2 e3 e4 => ?_), Or.inr ⟨hx, es, v0, Or.inr ⟨rfl, et, ex⟩⟩⟩
  obtain ⟨f1, f2, f3⟩ := e4
  have g1 : blk h2 u = m := by rw [← hb]; unfold blk; rw [f1, f2, et]
  have g2 : blk h2' y = m := by rw [← hb']; unfold blk; rw [e1, f1, f3, ex, es]
  have g3 : prt u = prt t := prt_so f1
  refine ⟨⟨by rw [g1, g2], by omega, by omega⟩, fun j h1 h3 => ?_, fun e => ?_⟩
  · rw [g1] at h3
    rw [g3] at h1
    rw [f2, f3]
    exact RTb_mo (fun _ _ _ => Or.inl) (hp j h1 h3)
  · rw [f2, f3]
    exact hF (by rw [← f1]; exact e)
end
end
section
set_option maxRecDepth 100000
def SGN (r s : Int32) : Prop := (r < 0 ↔ s < 0) ∧ (r = 0 ↔ s = 0)
section
variable {α β : Type} {R : MS → α → MS → β → Prop} {a p q : Option (MS × α)} {b x y : Option (MS × β)} {i j i' j' : Int}
theorem l_le (hi : RG i) (hj : RG j) (h1 : i ≤ j → PP R p b) (h2 : ¬ i ≤ j → PP R q b) : PP R (br (decide (I i ≤ I j)) p q) b := by
  rw [decI hi.1 hi.2 hj.1 hj.2]
  exact l_br (fun z => h1 (of_decide_eq_true z)) (fun z => h2 (of_decide_eq_false z))
theorem l_less (hi : RG i) (hj : RG j) (h1 : i < j → PP R p b) (h2 : ¬ i < j → PP R q b) : PP R (br (decide (I i < I j)) p q) b := by
  rw [decL hi.1 hi.2 hj.1 hj.2]
  exact l_br (fun z => h1 (of_decide_eq_true z)) (fun z => h2 (of_decide_eq_false z))
theorem l_eq (hi : RG i) (hj : RG j) (h1 : i = j → PP R p b) (h2 : ¬ i = j → PP R q b) : PP R (br (decide (I i = I j)) p q) b := by
  rw [decE hi.1 hi.2 hj.1 hj.2]
  exact l_br (fun z => h1 (of_decide_eq_true z)) (fun z => h2 (of_decide_eq_false z))
theorem r_le (hi : RG i) (hj : RG j) (h1 : i ≤ j → PP R a x) (h2 : ¬ i ≤ j → PP R a y) : PP R a (br (decide (I i ≤ I j)) x y) := by
  rw [decI hi.1 hi.2 hj.1 hj.2]
  exact r_br (fun z => h1 (of_decide_eq_true z)) (fun z => h2 (of_decide_eq_false z))
theorem r_less (hi : RG i) (hj : RG j) (h1 : i < j → PP R a x) (h2 : ¬ i < j → PP R a y) : PP R a (br (decide (I i < I j)) x y) := by
  rw [decL hi.1 hi.2 hj.1 hj.2]
  exact r_br (fun z => h1 (of_decide_eq_true z)) (fun z => h2 (of_decide_eq_false z))
theorem r_eq (hi : RG i) (hj : RG j) (h1 : i = j → PP R a x) (h2 : ¬ i = j → PP R a y) : PP R a (br (decide (I i = I j)) x y) := by
  rw [decE hi.1 hi.2 hj.1 hj.2]
  exact r_br (fun z => h1 (of_decide_eq_true z)) (fun z => h2 (of_decide_eq_false z))
theorem l_in {n : Nat} (hi : RG i) (h : 0 ≤ i ∧ i < n → PP R p b) : PP R (ck (inb (I i) n) p) b := l_ck (fun z => h ((I_inb hi.1 hi.2).mp z))
theorem r_in {n : Nat} (hi : RG i) (h : 0 ≤ i ∧ i < n → PP R a x) : PP R a (ck (inb (I i) n) x) := r_ck (fun z => h ((I_inb hi.1 hi.2).mp z))
theorem pp_pl {Q : MS → α → Prop} (h : PP R a b) (k : PK Q a) : PP (fun m z w r => R m z w r ∧ Q m z) a b := fun m z w r e1 e2 => ⟨h m z w r e1 e2, k m z e1⟩
theorem pp_pr {Q : MS → β → Prop} (h : PP R a b) (k : PK Q b) : PP (fun m z w r => R m z w r ∧ Q w r) a b := fun m z w r e1 e2 => ⟨h m z w r e1 e2, k w r e2⟩
end
theorem rgN {n : Nat} (h : n ≤ 2000000000) : RG ((n : Nat) : Int) := ⟨by omega, by omega⟩
theorem SGN_i {a c : Int} (ha : RG a) (hc : RG c) (h1 : a < 0 ↔ c < 0) (h2 : a = 0 ↔ c = 0) : SGN (I a) (I c) := by
  unfold SGN
  rw [lit0q, I_lt ha.1 ha.2 (by decide) (by decide), I_lt hc.1 hc.2 (by decide) (by decide), I_eq ha.1 ha.2 (by decide) (by decide), I_eq hc.1 hc.2 (by decide) (by decide)]
  exact ⟨h1, h2⟩
def cmpZ (a c : Int) : Int := if a < c then -1 else if a = c then 0 else 1
theorem cmpZ_r {a c : Int} : RG (cmpZ a c) := by
  unfold cmpZ RG
  split
  · omega
  · split <;> omega
theorem cmpZ_0 {a c : Int} : cmpZ a c = 0 ↔ a = c := by
  unfold cmpZ
  split
  · omega
  · split <;> omega
theorem cmpZ_n {a c : Int} : cmpZ a c < 0 ↔ a < c := by
  unfold cmpZ
  split
  · omega
  · split <;> omega
section
variable {N : Nat} {m w u : MS}
theorem cmp_l {a c : Int64} : fm_M_compare N u a c = some (u, I (cmpZ a.toInt c.toInt)) := by
  unfold fm_M_compare fb_M_compare_0 fb_M_compare_21 lg_cmp cmpZ
  by_cases h1 : a > c
  · have g : c.toInt < a.toInt := Int64.lt_iff_toInt_lt.mp h1
    rw [if_pos h1, if_neg (by omega), if_neg (by omega)]
    rfl
  · rw [if_neg h1]
    have g : ¬ c.toInt < a.toInt := fun z => h1 (Int64.lt_iff_toInt_lt.mpr z)
    by_cases h2 : a = c
    · subst h2
      rw [if_pos rfl, if_neg (by omega), if_pos rfl]
      rfl
    · have g2 : ¬ a.toInt = c.toInt := fun z => h2 (Int64.toInt_inj.mp z)
      rw [if_neg h2, if_pos (by omega)]
      rfl
theorem cmp_i {a c : Int} (ha : RG a) (hc : RG c) : fm_M_compare N u (I a).toInt64 (I c).toInt64 = some (u, I (cmpZ a c)) := by
  rw [cmp_l, Int32.toInt_toInt64, Int32.toInt_toInt64, I_ti ha.1 ha.2, I_ti hc.1 hc.2]
theorem cmp_c {a c : Int} (ha : RG a) (hc : RG c) : hm_JI_compare N u (I a) (I c) = some (u, I (cmpZ a c)) := by
  unfold hm_JI_compare hb_JI_compare_0 hb_JI_compare_19 cmpZ
  rw [decI hc.1 hc.2 ha.1 ha.2, decE ha.1 ha.2 hc.1 hc.2]
  by_cases h : a < c
  · rw [decide_eq_false (by omega), br_fq, if_pos h]
    rfl
  · rw [decide_eq_true (by omega), br_tq, if_neg h]
    by_cases h2 : a = c
    · rw [decide_eq_true h2, br_tq, if_pos h2]
      rfl
    · rw [decide_eq_false h2, br_fq, if_neg h2]
      rfl
theorem faM {fa : Nat → Nat} {na : Nat} (h : ∀ j, j < na → fa j ≤ fa (j + 1)) : ∀ {i j : Nat}, i ≤ j → j ≤ na → fa i ≤ fa j := by
  intro i j hij hj
  induction hij with
  | refl => exact Nat.le_refl _
  | @step k hs ih =>
    have := ih (by omega)
    have := h k (by omega)
    show fa i ≤ fa (k + 1)
    omega
theorem at_pp {fa : Nat → Nat} {na x y : Nat} (hA : ATf m w fa na) (hx : x < na) (hy : y < na) : ∀ (f g k : Nat), k ≤ 5000 → PP (fun m2 r w2 s => (m2 = m ∧ w2 = w) ∧ SGN r s) (hg_Wo_order N f m 1 (I (x : Nat)) (I (y : Nat)) (I ((fa (x + 1) : Nat) - (fa x : Nat) : Int)) (I ((fa (y + 1) : Nat) - (fa y : Nat) : Int)) (I (k : Nat))) (gg_M_orderAtoms N g w (I (x : Nat)) (I (y : Nat)) (I ((fa (x + 1) : Nat) - (fa x : Nat) : Int)) (I ((fa (y + 1) : Nat) - (fa y : Nat) : Int)) (I (k : Nat))) := by
  obtain ⟨⟨-, c2, c3, c4, c5⟩, ⟨-, w2⟩, e⟩ := hA
  have x1 := c3 x hx
  have y1 := c3 y hy
  have x2 := c4 (x + 1) (by omega)
  have y2 := c4 (y + 1) (by omega)
  have x3 := faM c3 (i := x + 1) (j := na) (by omega) (Nat.le_refl _)
  have y3 := faM c3 (i := y + 1) (j := na) (by omega) (Nat.le_refl _)
  intro f
  induction f with
  | zero => intro g k _; exact pp_nl
  | succ f ih =>
    intro g k hk
    cases g with
    | zero => exact pp_nr
    | succ g =>
      show PP _ (hb_Wo_order_36 N (hg_Wo_order N f) m 1 (I (x : Nat)) (I (y : Nat)) (I ((fa (x + 1) : Nat) - (fa x : Nat) : Int)) (I ((fa (y + 1) : Nat) - (fa y : Nat) : Int)) (I (k : Nat))) (fb_M_orderAtoms_36 N (gg_M_orderAtoms N g) w (I (x : Nat)) (I (y : Nat)) (I ((fa (x + 1) : Nat) - (fa x : Nat) : Int)) (I ((fa (y + 1) : Nat) - (fa y : Nat) : Int)) (I (k : Nat)))
      have fin : PP (fun m2 r w2 s => (m2 = m ∧ w2 = w) ∧ SGN r s) (hb_Wo_order_94 N (hg_Wo_order N f) m (I ((fa (x + 1) : Nat) - (fa x : Nat) : Int)) (I ((fa (y + 1) : Nat) - (fa y : Nat) : Int))) (fb_M_orderAtoms_102 N (gg_M_orderAtoms N g) w (I ((fa (x + 1) : Nat) - (fa x : Nat) : Int)) (I ((fa (y + 1) : Nat) - (fa y : Nat) : Int))) := by
        unfold hb_Wo_order_94 fb_M_orderAtoms_102
        rw [cmp_i ⟨by omega, by omega⟩ ⟨by omega, by omega⟩, bnd_so, I_sub]
        exact pp_end ⟨⟨rfl, rfl⟩, SGN_i ⟨by omega, by omega⟩ cmpZ_r (by rw [cmpZ_n]; omega) (by rw [cmpZ_0]; omega)⟩
      unfold hb_Wo_order_36 fb_M_orderAtoms_36
      refine l_le ⟨by omega, by omega⟩ (rgN (by omega)) (fun z => ?_) (fun z => ?_)
      · rw [decI (by omega) (by omega) (by omega) (by omega), decide_eq_true z, br_tq]
        exact fin
      rw [decI (x := (fa (x + 1) : Nat) - (fa x : Nat)) (by omega) (by omega) (by omega) (by omega), decide_eq_false z, br_fq]
      refine l_le ⟨by omega, by omega⟩ (rgN (by omega)) (fun z2 => ?_) (fun z2 => ?_)
      · rw [decI (by omega) (by omega) (by omega) (by omega), decide_eq_true z2, br_tq]
        exact fin
      rw [decI (x := (fa (y + 1) : Nat) - (fa y : Nat)) (by omega) (by omega) (by omega) (by omega), decide_eq_false z2, br_fq]
      refine l_ck (fun _ => l_ck (fun _ => l_ck (fun _ => l_ck (fun _ => r_ck (fun _ => r_ck (fun _ => r_ck (fun _ => r_ck (fun _ => r_lt ?_))))))))
      rw [tnI (n := x) rfl (by omega), tnI (n := y) rfl (by omega), show (1 + 2 : Nat) = 3 from rfl, show (1 + 1 : Nat) = 2 from rfl, c2 x (by omega), c2 y (by omega), w2 x (by omega), w2 y (by omega), I_add, I_add, show ((fa x : Nat) : Int) + ((k : Nat) : Int) = ((fa x + k : Nat) : Int) by omega, show ((fa y : Nat) : Int) + ((k : Nat) : Int) = ((fa y + k : Nat) : Int) by omega, tnI (n := fa x + k) rfl (by omega), tnI (n := fa y + k) rfl (by omega), e (fa x + k) (by omega), e (fa y + k) (by omega)]
      generalize w.2.2.1 12 (fa x + k) - w.2.2.1 12 (fa y + k) = d
      by_cases hd : d = 0
      · rw [decide_eq_true hd, br_tq, br_tq, lit1q, I_add, show ((k : Nat) : Int) + 1 = ((k + 1 : Nat) : Int) by omega]
        exact ih g (k + 1) (by omega)
      · rw [decide_eq_false hd, br_fq, br_fq]
        unfold fb_M_orderAtoms_95
        refine r_br (fun q => pp_end ⟨⟨rfl, rfl⟩, ?_⟩) (fun q => pp_end ⟨⟨rfl, rfl⟩, ?_⟩)
        · have q := of_decide_eq_true q
          exact ⟨⟨fun z => absurd q (Int32.not_le.mpr z), fun z => absurd z (by decide)⟩, ⟨fun z => absurd z hd, fun z => absurd z (by decide)⟩⟩
        · have q := of_decide_eq_false q
          exact ⟨⟨fun _ => by decide, fun _ => Int32.not_le.mp q⟩, ⟨fun z => absurd z hd, fun z => absurd z (by decide)⟩⟩
theorem at_same {v3 : Int32} {x : Nat} : ∀ (g : Nat) (v5 : Int32), PK (fun w2 s => w2 = w ∧ s = 0) (gg_M_orderAtoms N g w (I (x : Nat)) (I (x : Nat)) v3 v3 v5) := by
  intro g
  induction g with
  | zero => intro v5; exact pk_none
  | succ g ih =>
    intro v5
    show PK _ (fb_M_orderAtoms_36 N (gg_M_orderAtoms N g) w (I (x : Nat)) (I (x : Nat)) v3 v3 v5)
    have fin : PK (fun w2 s => w2 = w ∧ s = 0) (fb_M_orderAtoms_102 N (gg_M_orderAtoms N g) w v3 v3) := by
      unfold fb_M_orderAtoms_102
      rw [cmp_l, bnd_so]
      refine pk_some ⟨rfl, ?_⟩
      rw [cmpZ_0.mpr rfl]
      rfl
    unfold fb_M_orderAtoms_36
    refine pk_br (fun _ => fin) (fun _ => pk_br (fun _ => fin) (fun _ => pk_ck (fun _ => pk_ck (fun _ => pk_ck (fun _ => pk_ck (fun _ => pk_ltq ?_))))))
    rw [Int32.sub_self, decide_eq_true rfl, br_tq]
    exact ih (v5 + 1)
end
end
section
set_option maxRecDepth 100000
theorem dcE {x : Int} (hx : RG x) {c : Int32} {k : Int} (hc : c = I k) (hk : RG k) : decide (I x = c) = decide (x = k) := by
  subst hc
  exact decE hx.1 hx.2 hk.1 hk.2
def kfn (z : Int) : Int := if z < 0 then 100000 - z else z
section
variable {b : Int → Nat → Nat → Prop} {h h' : Nat → Int64} {n n' n0 n0' N v p na : Nat} {t t2 x x2 : Int64} {ow kd ow' kd' fa : Nat → Nat} {Fv Fv' : Int64 → Int64 → Prop} {P P' : Int64 → Prop} {m w m0 w0 u : MS}
theorem ATf_fr {js js' : List Nat} (hA : ATf m0 w0 fa na) (f1 : FR [] [] [] js m0 m) (f2 : FR [] [] [] js' w0 w) : ATf m w fa na := by
  unfold ATf at hA ⊢
  rw [f1.1 22 (by simp), f1.2.2.1 3 (by simp), f1.2.2.1 2 (by simp), f2.1 14 (by simp), f2.2.2.1 13 (by simp), f2.2.2.1 12 (by simp)]
  exact hA
theorem wo_pp {y z : Nat} (hA : ATf m w fa na) (hy : y < na) (hz : z < na) : PP (fun m2 r w2 s => (m2 = m ∧ w2 = w) ∧ SGN r s) (hm_Wo_order N m 1 (I (y : Nat)) (I (z : Nat))) (fm_M_orderAtoms N w (I (y : Nat)) (I (z : Nat))) := by
  have hA2 := hA
  obtain ⟨⟨-, c2, c3, c4, c5⟩, ⟨-, w2⟩, e⟩ := hA
  unfold hm_Wo_order hb_Wo_order_0 fm_M_orderAtoms fb_M_orderAtoms_0
  refine l_ck (fun _ => l_ck (fun _ => l_ck (fun _ => l_ck (fun _ => r_ck (fun _ => r_ck (fun _ => r_lt (r_ck (fun _ => r_ck (fun _ => r_lt ?_)))))))))
  rw [lit1q, I_add, I_add, show ((y : Nat) : Int) + 1 = ((y + 1 : Nat) : Int) by omega, show ((z : Nat) : Int) + 1 = ((z + 1 : Nat) : Int) by omega, tnI (n := y + 1) rfl (by omega), tnI (n := y) rfl (by omega), tnI (n := z + 1) rfl (by omega), tnI (n := z) rfl (by omega), show (1 + 2 : Nat) = 3 from rfl, c2 (y + 1) (by omega), c2 y (by omega), c2 (z + 1) (by omega), c2 z (by omega), w2 (y + 1) (by omega), w2 y (by omega), w2 (z + 1) (by omega), w2 z (by omega), I_sub, I_sub]
  exact at_pp hA2 hy hz N N 0 (by omega)
theorem hdr5 (s : ISb b h n0 h' n0') (z5 : so t = 5) (r : RTb b t x) (k : BKc h n ow kd Fv t) (k' : BK h' n' ow' kd' Fv' x) : (h' (vn x)).toInt = va (h (vn t)) := by
  obtain ⟨⟨e1, -⟩, -⟩ := s.1 t x (Or.inr (Or.inl z5)) r
  have e5 : so x = 5 := (RTb_so r).trans z5
  have a1 := (k.2.1 z5).1
  have a2 := k'.2.1 e5
  unfold blk at e1
  rw [e5, z5] at e1
  simp at e1
  unfold HDC at a2
  unfold vn at e1 a1 a2 ⊢
  omega
theorem one128_e {c d : Int64} (c1 : -100000 < c.toInt ∧ c.toInt < 100000) (d1 : -100000 < d.toInt ∧ d.toInt < 100000) : fb_M_orderOne_128 N () u c d = some (u, I (cmpZ (kfn c.toInt) (kfn d.toInt))) := by
  unfold fb_M_orderOne_128 fb_M_orderOne_146 fb_M_orderOne_164 fb_M_orderOne_177 kfn
  have e1 := sub_1e5 c1.1 c1.2
  have e2 := sub_1e5 d1.1 d1.2
  by_cases q1 : c.toInt < 0
  · have g1 : ¬ 0 ≤ lg_cmp c 0 := fun z => by have := (lgc_ge c).mp z; omega
    rw [decide_eq_false g1, br_fq, if_pos q1]
    by_cases q2 : d.toInt < 0
    · have g2 : ¬ 0 ≤ lg_cmp d 0 := fun z => by have := (lgc_ge d).mp z; omega
      rw [decide_eq_false g2, br_fq, if_pos q2, cmp_l, bnd_so, e1, e2]
    · have g2 : 0 ≤ lg_cmp d 0 := (lgc_ge d).mpr (by omega)
      rw [decide_eq_true g2, br_tq, if_neg q2, cmp_l, bnd_so, e1]
  · have g1 : 0 ≤ lg_cmp c 0 := (lgc_ge c).mpr (by omega)
    rw [decide_eq_true g1, br_tq, if_neg q1]
    by_cases q2 : d.toInt < 0
    · have g2 : ¬ 0 ≤ lg_cmp d 0 := fun z => by have := (lgc_ge d).mp z; omega
      rw [decide_eq_false g2, br_fq, if_pos q2, cmp_l, bnd_so, e2]
    · have g2 : 0 ≤ lg_cmp d 0 := (lgc_ge d).mpr (by omega)
      rw [decide_eq_true g2, br_tq, if_neg q2, cmp_l, bnd_so]
theorem PLR_c {c c' d d' : Int64} (r1 : PLR c d) (r2 : PLR c' d') : (cmpZ (va c) (va c') < 0 ↔ cmpZ (kfn d.toInt) (kfn d'.toInt) < 0) ∧ (cmpZ (va c) (va c') = 0 ↔ cmpZ (kfn d.toInt) (kfn d'.toInt) = 0) := by
  rw [cmpZ_n, cmpZ_n, cmpZ_0, cmpZ_0]
  unfold kfn
  rcases r1 with ⟨u, u1, u2, u3⟩ | ⟨u, u1, u2, u3⟩ <;> rcases r2 with ⟨k, k1, k2, k3⟩ | ⟨k, k1, k2, k3⟩ <;> (split <;> split <;> omega)
theorem oal_pp (hh : m.2.2.2 v = h) (hh' : hp w p = h') (g : HPc h n ow kd Fv P) (hn : n ≤ 512) (hP : ∀ t, P t → PT m t) (g' : HP h' n' ow' kd' Fv' P') (hn' : n' ≤ 500) (hp1 : p < 25) (hme : F w 133 = p) (hF' : FVH Fv') (s : ISb b h n0 h' n0') (hA : ATf m w fa na) (r1 : RTb b t x) (r2 : RTb b t2 x2) (g1 : GT n ow kd P t) (g2 : GT n ow kd P t2) (g1' : GT n' ow' kd' P' x) (g2' : GT n' ow' kd' P' x2) : PP (fun m2 r w2 s => (m2 = m ∧ w2 = w) ∧ SGN r s) (hm_Te_orderAlone N m v t t2) (fm_M_orderOne N w x x2) := by
  have rt := so_r t
  have rt2 := so_r t2
  have q1 := RTb_so r1
  have q2 := RTb_so r2
  have k1 := GT_so hP g1
  have k2 := GT_so hP g2
  have nana : F m 22 = ((na : Nat) : Int) := by unfold F; rw [hA.1.1]; exact I_ti (by omega) (by have := hA.1.2.2.2.2; omega)
  have nab := hA.1.2.2.2.2
  unfold hm_Te_orderAlone hb_Te_orderAlone_0 hb_Te_orderAlone_62 hb_Te_orderAlone_107 fm_M_orderOne fb_M_orderOne_0 fb_M_orderOne_192 fb_M_orderOne_205
  simp only [e_tag, bnd_so, valI]
  rw [sortOf_e, bnd_so, sortOf_e, bnd_so, q1, q2, decE rt.1 rt.2 rt2.1 rt2.2]
  by_cases es : so t = so t2
  · rw [decide_eq_true es, br_tq, br_tq, valueOf_e, bnd_so, valueOf_e, bnd_so, dcE rt (c := 1) (k := 1) rfl ⟨by decide, by decide⟩, dcE rt (c := 5) (k := 5) rfl ⟨by decide, by decide⟩, dcE rt (c := 3) (k := 3) rfl ⟨by decide, by decide⟩, dcE rt (c := 7) (k := 7) rfl ⟨by decide, by decide⟩, dcE rt (c := 6) (k := 6) rfl ⟨by decide, by decide⟩]
    by_cases e1 : so t = 1
    · rw [decide_eq_true e1, br_tq, br_tq]
      have nt : ¬ isH t := by unfold isH; omega
      have nt2 : ¬ isH t2 := by unfold isH; omega
      rw [RTb_n r1 nt, RTb_n r2 nt2]
      have z1 : PT m t := by
        rcases g1 with z | z
        · exact hP t z.2
        · exact absurd z.1 nt
      have z2 : PT m t2 := by
        rcases g2 with z | z
        · exact hP t2 z.2
        · exact absurd z.1 nt2
      have y1 := z1.2 e1
      have y2 := z2.2 (by omega)
      have v1 := vn_e y1.1
      have v2 := vn_e y2.1
      rw [v1, v2, decE (by omega) (by omega) (by omega) (by omega)]
      by_cases ev : ((vn t : Nat) : Int) = ((vn t2 : Nat) : Int)
      · rw [decide_eq_true ev, br_tq, ← ev]
        refine pp_l (pk_bnd ?_)
        have e0 : PK (fun w2 s => w2 = w ∧ s = 0) (fm_M_orderAtoms N w (I ((vn t : Nat) : Int)) (I ((vn t : Nat) : Int))) := by
          unfold fm_M_orderAtoms fb_M_orderAtoms_0
          exact pk_ck (fun _ => pk_ck (fun _ => pk_ltq (pk_ck (fun _ => pk_ck (fun _ => pk_ltq (at_same N 0))))))
        refine pk_mo e0 (fun w2 s q => pk_some ⟨⟨rfl, q.1⟩, ?_⟩)
        rw [q.2]
        exact ⟨Iff.rfl, Iff.rfl⟩
      · rw [decide_eq_false ev, br_fq]
        refine pp_bb (pp_mo (wo_pp hA (y := vn t) (z := vn t2) (by omega) (by omega)) (fun m2 r w2 s q => pp_end q))
    · rw [decide_eq_false e1, br_fq, br_fq]
      by_cases e5 : so t = 5
      · rw [decide_eq_true e5, br_tq, br_tq]
        have zt : isH t := Or.inr (Or.inl e5)
        have zt2 : isH t2 := Or.inr (Or.inl (by omega))
        have zx := (RTb_isH r1).mpr zt
        have zx2 := (RTb_isH r2).mpr zt2
        have b1 := (HP_bkc g zt g1).1
        have b2 := (HP_bkc g zt2 g2).1
        have b3 := (HP_bk g' zx g1').1
        have b4 := (HP_bk g' zx2 g2').1
        have p3 := blk_pos (h := h') zx
        have p4 := blk_pos (h := h') zx2
        have n3 := b3.2.2.2.1
        have n4 := b4.2.2.2.1
        have p1 := blk_pos (h := h) zt
        have p2 := blk_pos (h := h) zt2
        have n1 := b1.2.2.2.1
        have n2 := b2.2.2.2.1
        unfold hb_Te_orderAlone_75
        rw [vn_e b1.1, vn_e b2.1, vn_e b3.1, vn_e b4.1]
        refine l_ck (fun _ => l_ck (fun _ => ?_))
        rw [tnI (n := vn t) rfl (by omega), tnI (n := vn t2) rfl (by omega), hh, valI, valI, cmp_c (va_r _) (va_r _), bnd_so, I_F' hme, cell_e (by omega) (by omega), bnd_so, I_F' hme, cell_e (by omega) (by omega), bnd_so, cmp_l, bnd_so, hh', hdr5 s e5 r1 b1 b3, hdr5 s (by omega) r2 b2 b4]
        exact pp_end ⟨⟨rfl, rfl⟩, SGN_i cmpZ_r cmpZ_r Iff.rfl Iff.rfl⟩
      · rw [decide_eq_false e5, br_fq, br_fq]
        by_cases e3 : so t = 3
        · rw [decide_eq_true e3, br_tq, br_tq]
          have zt : isH t := Or.inl e3
          have zt2 : isH t2 := Or.inl (by omega)
          have zx := (RTb_isH r1).mpr zt
          have zx2 := (RTb_isH r2).mpr zt2
          have b1 := (HP_bkc g zt g1).1
          have b2 := (HP_bkc g zt2 g2).1
          have b3 := (HP_bk g' zx g1').1
          have b4 := (HP_bk g' zx2 g2').1
          have p3 := blk_pos (h := h') zx
          have p4 := blk_pos (h := h') zx2
          have n3 := b3.2.2.2.1
          have n4 := b4.2.2.2.1
          have p1 := blk_pos (h := h) zt
          have p2 := blk_pos (h := h) zt2
          have n1 := b1.2.2.2.1
          have n2 := b2.2.2.2.1
          have f1 := hF'.1 _ _ (b3.2.2.1 (by omega)).2
          have f2 := hF'.1 _ _ (b4.2.2.1 (by omega)).2
          have l1 := (s.1 t x zt r1).2.2 e3
          have l2 := (s.1 t2 x2 zt2 r2).2.2 (by omega)
          unfold hb_Te_orderAlone_75
          rw [vn_e b1.1, vn_e b2.1, vn_e b3.1, vn_e b4.1]
          refine l_ck (fun _ => l_ck (fun _ => ?_))
          rw [tnI (n := vn t) rfl (by omega), tnI (n := vn t2) rfl (by omega), hh, valI, valI, cmp_c (va_r _) (va_r _), bnd_so, I_F' hme, cell_e (by omega) (by omega), bnd_so, I_F' hme, cell_e (by omega) (by omega), bnd_so, hh']
          have pc := PLR_c l1 l2
          have fin : PP (fun m2 r w2 s => (m2 = m ∧ w2 = w) ∧ SGN r s) (some (m, I (cmpZ (va (h (vn t))) (va (h (vn t2)))))) (some (w, I (cmpZ (kfn (h' (vn x)).toInt) (kfn (h' (vn x2)).toInt)))) := pp_end ⟨⟨rfl, rfl⟩, SGN_i cmpZ_r cmpZ_r pc.1 pc.2⟩
          rw [one128_e f1 f2, cmp_l, bnd_so]
          unfold fb_M_orderOne_177
          refine r_br (fun _ => fin) (fun z => r_br (fun z2 => ?_) (fun _ => fin))
          have z3 : ¬ (h' (vn x)).toInt < 0 := fun y => of_decide_eq_false z ((lgc_lt _).mpr y)
          have z4 : 0 ≤ (h' (vn x2)).toInt := (lgc_ge _).mp (of_decide_eq_true z2)
          have z5 : kfn (h' (vn x)).toInt = (h' (vn x)).toInt := if_neg z3
          have z6 : kfn (h' (vn x2)).toInt = (h' (vn x2)).toInt := if_neg (by omega)
          rw [z5, z6] at fin
          exact fin
        · rw [decide_eq_false e3, br_fq, br_fq]
          by_cases e7 : so t = 7
          · rw [decide_eq_true e7, br_tq, br_tq]
            exact pp_end ⟨⟨rfl, rfl⟩, Iff.rfl, Iff.rfl⟩
          · rw [decide_eq_false e7, br_fq, br_fq]
            have nt : ¬ isH t := by unfold isH; omega
            have nt2 : ¬ isH t2 := by unfold isH; omega
            rw [cmp_c (va_r _) (va_r _), bnd_so]
            by_cases e6 : so t = 6
            · rw [decide_eq_true e6, br_tq, RTb_nil r1 e6, RTb_nil r2 (by omega)]
              exact pp_end ⟨⟨rfl, rfl⟩, by decide, by decide⟩
            · rw [decide_eq_false e6, br_fq, RTb_n r1 nt, RTb_n r2 nt2, cmp_i (va_r _) (va_r _), bnd_so]
              exact pp_end ⟨⟨rfl, rfl⟩, Iff.rfl, Iff.rfl⟩
  · rw [decide_eq_false es, br_fq, br_fq, sortOf_e, bnd_so, q2, cmp_i rt rt2, bnd_so, I_sub]
    exact pp_end ⟨⟨rfl, rfl⟩, SGN_i ⟨by omega, by omega⟩ cmpZ_r (by rw [cmpZ_n]; omega) (by rw [cmpZ_0]; omega)⟩
end
end
section
set_option maxRecDepth 100000
def TPb (b : Int → Nat → Nat → Prop) (n : Nat) (ow kd : Nat → Nat) (P : Int64 → Prop) (n' : Nat) (ow' kd' : Nat → Nat) (P' : Int64 → Prop) (t x : Int64) : Prop := RTb b t x ∧ GT n ow kd P t ∧ GT n' ow' kd' P' x
theorem addN {a b : Nat} : I ((a : Nat) : Int) + I ((b : Nat) : Int) = I ((a + b : Nat) : Int) := by rw [I_add]; congr 1
section
variable {b : Int → Nat → Nat → Prop} {h h' : Nat → Int64} {n n' n0 n0' N v p na F0 : Nat} {t t2 x x2 : Int64} {ow kd ow' kd' fa : Nat → Nat} {Fv Fv' : Int64 → Int64 → Prop} {P P' : Int64 → Prop} {m w m0 w0 u : MS}
theorem TPb_part (s : ISb b h n0 h' n0') (g : HPc h n ow kd Fv P) (g' : HP h' n' ow' kd' Fv' P') (z : isH t) (q : TPb b n ow kd P n' ow' kd' P' t x) {j : Nat} (h1 : prt t ≤ j) (h2 : j < blk h t) : TPb b n ow kd P n' ow' kd' P' (h (vn t + j)) (h' (vn x + j)) := by
  obtain ⟨r, g1, g2⟩ := q
  have zx := (RTb_isH r).mpr z
  obtain ⟨⟨e1, -⟩, e2, -⟩ := s.1 t x z r
  exact ⟨e2 j h1 h2, (HP_bkc g z g1).2 j h1 h2, (HP_bk g' zx g2).2 j (by rw [RTb_prt r]; exact h1) (by rw [e1]; exact h2)⟩
theorem ord_pp (hv : v ≠ 45 ∧ v ≠ 46) (hh : m0.2.2.2 v = h) (hh' : hp w0 p = h') (g : HPc h n ow kd Fv P) (hn : n ≤ 512) (hF : FVc Fv) (hP : ∀ t, P t → PT m0 t) (hW : WDc m0 1) (g' : HP h' n' ow' kd' Fv' P') (hn' : n' ≤ 500) (hp1 : p < 25) (hme : F w0 133 = p) (hF' : FVH Fv') (s : ISb b h n0 h' n0') (hA : ATf m0 w0 fa na) (hN : 200000 ≤ N) : ∀ f : Nat,
    (∀ (g0 : Nat) (m w : MS) (T cn : Nat) (c : Nat → Nat), FR [] [] [] [45, 46] m0 m → FR [] [] [] [141] w0 w → (∀ i, i < T → TPb b n ow kd P n' ow' kd' P' (m.2.2.2 45 i) (w.2.2.2 141 (2 * i + 1)) ∧ TPb b n ow kd P n' ow' kd' P' (m.2.2.2 46 i) (w.2.2.2 141 (2 * i)) ∧ SZc h n ow kd Fv P F0 (m.2.2.2 45 i) (c i)) → cn + T + smm c 0 T ≤ 2000 → PP (fun m2 r w2 s => (FR [] [] [] [45, 46] m0 m2 ∧ FR [] [] [] [141] w0 w2) ∧ SGN r s) ((hg_Te_order N f).1 m v (I (T : Nat)) (I (cn : Nat))) ((gg_M_order N g0).1 w (I ((2 * T : Nat) : Int)))) ∧
    (∀ (g0 : Nat) (m w : MS) (T cn r : Nat) (c d : Nat → Nat) (t t2 x x2 : Int64), FR [] [] [] [45, 46] m0 m → FR [] [] [] [141] w0 w → (∀ i, i < T → TPb b n ow kd P n' ow' kd' P' (m.2.2.2 45 i) (w.2.2.2 141 (2 * i + 1)) ∧ TPb b n ow kd P n' ow' kd' P' (m.2.2.2 46 i) (w.2.2.2 141 (2 * i)) ∧ SZc h n ow kd Fv P F0 (m.2.2.2 45 i) (c i)) → isH t → so t2 = so t → blk h t2 = blk h t → TPb b n ow kd P n' ow' kd' P' t x → TPb b n ow kd P n' ow' kd' P' t2 x2 → prt t + r ≤ blk h t → (∀ i, prt t ≤ i → i < prt t + r → SZc h n ow kd Fv P F0 (h (vn t + i)) (d i)) → cn + 1 + T + smm c 0 T + (r + smm d (prt t) r) ≤ 2000 → PP (fun m2 r w2 s => (FR [] [] [] [45, 46] m0 m2 ∧ FR [] [] [] [141] w0 w2) ∧ SGN r s) ((hg_Te_order N f).2 m v (I (T : Nat)) (I (cn : Nat)) (I (va t)) (I (va t2)) (I (prt t : Nat)) (I ((prt t : Nat) + (r : Nat) - 1 : Int))) ((gg_M_order N g0).2 w (I ((2 * T : Nat) : Int)) x x2 (I ((prt t : Nat) + (r : Nat) - 1 : Int)))) ∧
    (∀ (g0 : Nat) (m w : MS) (T cn : Nat) (c : Nat → Nat) (y1 y2 : Int32), FR [] [] [] [45, 46] m0 m → FR [] [] [] [141] w0 w → (∀ i, i < T → TPb b n ow kd P n' ow' kd' P' (m.2.2.2 45 i) (w.2.2.2 141 (2 * i + 1)) ∧ TPb b n ow kd P n' ow' kd' P' (m.2.2.2 46 i) (w.2.2.2 141 (2 * i)) ∧ SZc h n ow kd Fv P F0 (m.2.2.2 45 i) (c i)) → cn + 1 + T + smm c 0 T ≤ 2000 → PP (fun m2 r w2 s => (FR [] [] [] [45, 46] m0 m2 ∧ FR [] [] [] [141] w0 w2) ∧ SGN r s) ((hg_Te_order N f).2 m v (I (T : Nat)) (I (cn : Nat)) y1 y2 (I 0) (I (-1))) ((gg_M_order N g0).1 w (I ((2 * T : Nat) : Int)))) := by
  intro f
  induction f with
  | zero => exact ⟨fun _ _ _ _ _ _ _ _ _ _ => pp_nl, fun _ _ _ _ _ _ _ _ _ _ _ _ _ _ _ _ _ _ _ _ _ _ _ => pp_nl, fun _ _ _ _ _ _ _ _ _ _ _ _ => pp_nl⟩
  | succ f ih =>
    obtain ⟨ih1, ih2, ih3⟩ := ih
    refine ⟨fun g0 m w T cn c f1 f2 hs hc => ?_, fun g0 m w T cn r c d t t2 x x2 f1 f2 hs z e1 e2 q1 q2 hr hd hc => ?_, fun g0 m w T cn c y1 y2 f1 f2 hs hc => ?_⟩
    · cases g0 with
      | zero => exact pp_nr
      | succ g0 =>
        show PP _ (hb_Te_order_21 N (hg_Te_order N f) m v (I (T : Nat)) (I (cn : Nat))) (fb_M_order_17 N (gg_M_order N g0) w (I ((2 * T : Nat) : Int)))
        unfold hb_Te_order_21 hb_Te_order_179 fb_M_order_17 fb_M_order_158
        rw [I_lit (n := 1000000000)]
        refine l_le ⟨by decide, by decide⟩ (rgN (by omega)) (fun z => absurd z (by show ¬ (1000000000 : Int) ≤ _; omega)) (fun _ => ?_)
        rw [lit0q, decI (by omega) (by omega) (by omega) (by omega), decI (by omega) (by omega) (by omega) (by omega)]
        cases T with
        | zero =>
          rw [decide_eq_true (by omega), br_tq, br_tq]
          exact pp_end ⟨⟨f1, f2⟩, Iff.rfl, Iff.rfl⟩
        | succ T =>
          have hlast : smm c 0 (T + 1) = smm c 0 T + c T := by show smm c 0 T + c (0 + T) = _; rw [Nat.zero_add]
          obtain ⟨q1, q2, zx⟩ := hs T (by omega)
          rw [decide_eq_false (by omega), br_fq, decide_eq_false (by omega), br_fq, m1I, I_add, show ((T + 1 : Nat) : Int) + -1 = ((T : Nat) : Int) by omega, lit1q, I_sub, show (2 : Int32) = I 2 from rfl, I_sub, show ((2 * (T + 1) : Nat) : Int) - 1 = ((2 * T + 1 : Nat) : Int) by omega, show ((2 * (T + 1) : Nat) : Int) - 2 = ((2 * T : Nat) : Int) by omega]
          refine l_ck (fun _ => l_ck (fun _ => r_ck (fun _ => r_lt (r_ck (fun _ => r_lt ?_)))))
          rw [tnI (n := T) rfl (by omega), tnI (n := 2 * T + 1) rfl (by omega), tnI (n := 2 * T) rfl (by omega)]
          have hm : m.2.2.2 v = h := by rw [FRj f1 (by simp; omega)]; exact hh
          have hw : hp w p = h' := by rw [← hh']; unfold hp; rw [f2.2.2.2 88 (by decide)]
          have hPm : ∀ t, P t → PT m t := fun t ht => by have := hP t ht; unfold PT at this ⊢; rw [FR.F f1 (by simp)]; exact this
          have pa := oal_pp (N := N) (m := m) (w := w) hm hw g hn hPm g' hn' hp1 (by rw [FR.F f2 (by simp)]; exact hme) hF' s (ATf_fr hA f1 f2) q1.1 q2.1 q1.2.1 q2.2.1 q1.2.2 q2.2.2
          have pb := pk_ok (orderAlone_ok (N := N) (b := v) hm hn g hPm (WDc_fr hW f1 (by simp) (by simp)) q1.2.1 q2.2.1 hN)
          obtain ⟨t, et⟩ : ∃ t, m.2.2.2 45 T = t := ⟨_, rfl⟩
          obtain ⟨t2, et2⟩ : ∃ t, m.2.2.2 46 T = t := ⟨_, rfl⟩
          obtain ⟨x, ex⟩ : ∃ t, w.2.2.2 141 (2 * T + 1) = t := ⟨_, rfl⟩
          obtain ⟨x2, ex2⟩ : ∃ t, w.2.2.2 141 (2 * T) = t := ⟨_, rfl⟩
          rw [et, et2, ex, ex2] at pa
          rw [et, et2] at pb
          rw [et, ex] at q1
          rw [et2, ex2] at q2
          rw [et] at zx
          rw [et, et2, ex, ex2]
          refine pp_bb (pp_mo (pp_pl pa pb) (fun m2 r w2 sr q => ?_))
          obtain ⟨⟨⟨e1, e2⟩, sg⟩, -, hr⟩ := q
          subst e1
          subst e2
          by_cases r0 : r = 0
          · have s0 : sr = 0 := sg.2.mp r0
            rw [decide_eq_true (show r = I 0 from r0), br_tq, decide_eq_true (show sr = I 0 from s0), br_tq]
            obtain ⟨y1, y2⟩ := hr r0
            refine l_ck (fun _ => l_ck (fun _ => l_ck (fun _ => ?_)))
            rw [et, et2]
            by_cases zt : isH t
            · have zt2 : isH t2 := by unfold isH at zt ⊢; rw [← y1]; exact zt
              have bx := (HP_bkc g zt q1.2.1).1
              have bY := (HP_bkc g zt2 q2.2.1).1
              have hbs := blk_same hF bx bY zt y1 y2
              have xx := (RTb_isH q1.1).mpr zt
              have bX := (HP_bk g' xx q1.2.2).1
              have be := (s.1 t x zt q1.1).1.1
              have hp0 := prt_le (h := h) zt
              have hbl := bx.2.2.2.1
              have hbp := blk_pos (h := h) zt
              rw [cellsAt_h hm hn zt bx, bnd_so]
              refine l_ck (fun _ => ?_)
              rw [et, partsOf_e, bnd_so, I_sub, valI, valI, I_sub, inHeap_e.1 xx, bnd_so, decE (by omega) (by omega) (by omega) (by omega), decide_eq_false (by omega), br_fq, I_F' (show F w2 133 = p by rw [FR.F f2 (by simp)]; exact hme), sizeOf_e (n := n') (ow := ow') (kd := kd') (Fv := Fv') hp1 hn' xx (by rw [hw]; exact bX), bnd_so, hw, be, I_neg, I_add, I_sub, show ((2 * (T + 1) : Nat) : Int) + -2 = ((2 * T : Nat) : Int) by omega]
              have hpx : (blk h t : Int) - ((blk h t : Int) - (if so t = 5 then 1 else if so t = 3 then 2 else 0)) = ((prt t : Nat) : Int) := by
                unfold isH at zt
                unfold prt
                split <;> split <;> (try split) <;> (try split) <;> omega
              rw [hpx]
              obtain ⟨F1, d, -, k2, k3⟩ := SZ_blkc zx zt
              cases F0 with
              | zero => exact zx.elim
              | succ F0 =>
                rcases zx with ⟨z1, -⟩ | ⟨-, bb, d, z3, z4⟩
                · exact absurd zt z1
                have := ih2 g0 m2 w2 T cn (blk h t - prt t) c d t t2 x x2 f1 f2 (fun i hi => hs i (by omega)) zt y1.symm hbs.symm q1 q2 (by omega) (fun i a b2 => SZ_monoc (z3 i a (by omega))) (by omega)
                rw [show ((prt t : Nat) : Int) + ((blk h t - prt t : Nat) : Int) - 1 = (blk h t : Int) - 1 by omega] at this
                exact this
            · have xx : ¬ isH x := fun y => zt ((RTb_isH q1.1).mp y)
              rw [cellsAt_n zt, bnd_so]
              refine l_ck (fun _ => ?_)
              have hnp : (if so t = 5 then (1 : Int) else if so t = 3 then 2 else 0) = 0 := by
                unfold isH at zt
                rw [if_neg (by omega), if_neg (by omega)]
              rw [et, lit0q, partsOf_e, bnd_so, hnp, I_sub, I_sub, inHeap_e.2 xx, bnd_so, decE (by omega) (by omega) (by omega) (by omega), decide_eq_true rfl, br_tq, I_neg, I_add, show ((2 * (T + 1) : Nat) : Int) + -2 = ((2 * T : Nat) : Int) by omega]
              rw [show (0 : Int) - (0 - 0) = 0 from rfl, show (0 : Int) - 1 = -1 from rfl]
              exact ih3 g0 m2 w2 T cn c _ _ f1 f2 (fun i hi => hs i (by omega)) (by omega)
          · have s0 : ¬ sr = 0 := fun y => r0 (sg.2.mpr y)
            rw [decide_eq_false (show ¬ r = I 0 from r0), br_fq, decide_eq_false (show ¬ sr = I 0 from s0), br_fq]
            exact pp_end ⟨⟨f1, f2⟩, sg⟩
    · cases g0 with
      | zero => exact pp_nr
      | succ g0 =>
        show PP _ (hb_Te_order_121 N (hg_Te_order N f) m v (I (T : Nat)) (I (cn : Nat)) (I (va t)) (I (va t2)) (I (prt t : Nat)) (I ((prt t : Nat) + (r : Nat) - 1 : Int))) (fb_M_order_91 N (gg_M_order N g0) w (I ((2 * T : Nat) : Int)) x x2 (I ((prt t : Nat) + (r : Nat) - 1 : Int)))
        unfold hb_Te_order_121 hb_Te_order_173 fb_M_order_91 fb_M_order_158
        have z2 : isH t2 := by unfold isH; rw [e1]; exact z
        have xx := (RTb_isH q1.1).mpr z
        have xx2 := (RTb_isH q2.1).mpr z2
        have bx := (HP_bkc g z q1.2.1).1
        have bY := (HP_bkc g z2 q2.2.1).1
        have bX := (HP_bk g' xx q1.2.2).1
        have bX2 := (HP_bk g' xx2 q2.2.2).1
        have n1 := bx.2.2.2.1
        have n2 := bY.2.2.2.1
        have n3 := bX.2.2.2.1
        have n4 := bX2.2.2.2.1
        have be := (s.1 t x z q1.1).1.1
        have be2 := (s.1 t2 x2 z2 q2.1).1.1
        have hm : m.2.2.2 v = h := by rw [FRj f1 (by simp; omega)]; exact hh
        have hw : hp w p = h' := by rw [← hh']; unfold hp; rw [f2.2.2.2 88 (by decide)]
        rw [partsFrom_e xx, bnd_so, RTb_prt q1.1, decL (by omega) (by omega) (by omega) (by omega)]
        cases r with
        | zero =>
          rw [decide_eq_true (by omega), br_tq, br_tq, lit1q, I_add, show ((cn : Nat) : Int) + 1 = ((cn + 1 : Nat) : Int) by omega]
          exact ih1 g0 m w T (cn + 1) c f1 f2 hs (by omega)
        | succ r =>
          have hsd : smm d (prt t) (r + 1) = smm d (prt t) r + d (prt t + r) := rfl
          have hme2 : F w 133 = p := by rw [FR.F f2 (by simp)]; exact hme
          have eX : ((prt t : Nat) : Int) + ((r + 1 : Nat) : Int) - 1 = ((prt t + r : Nat) : Int) := by omega
          have dX : I ((prt t + r : Nat) : Int) + -1 = I (((prt t : Nat) : Int) + ((r : Nat) : Int) - 1) := by rw [m1I, I_add]; congr 1
          rw [decide_eq_false (by omega), br_fq, br_fq, valueOf_e, bnd_so, I_F' hme2, eX, dX, vn_e bX2.1, addN, cell_e hp1 (by omega), bnd_so]
          refine r_ck (fun _ => r_lt ?_)
          rw [tnI (n := 2 * T) rfl (by omega), wj_e (u := w), valueOf_e, bnd_so, show (wj w 141 (2 * T) (hp w p (vn x2 + (prt t + r)))).1 133 = I p from I_F' hme2, vn_e bX.1, addN, cell_e hp1 (by omega), bnd_so, show I ((2 * T : Nat) : Int) + 1 = I ((2 * T + 1 : Nat) : Int) from addN]
          refine r_in (rgN (by omega)) (fun hlim => r_lt ?_)
          have hl3 : (ln 141) = 3000 := rfl
          rw [hl3] at hlim
          rw [tnI (n := 2 * T + 1) rfl (by omega), wj_e, show I ((2 * T : Nat) : Int) + 2 = I ((2 * (T + 1) : Nat) : Int) from addN]
          have ew : hp (wj w 141 (2 * T) (hp w p (vn x2 + (prt t + r)))) p = h' := hw
          rw [ew, hw]
          rw [I_lit (n := 2048)]
          refine l_le ⟨by decide, by decide⟩ (rgN (by omega)) (fun y => absurd y (by show ¬ (2048 : Int) ≤ _; omega)) (fun _ => ?_)
          rw [vn_e bx.1, vn_e bY.1, show I ((vn t : Nat) : Int) + I ((prt t + r : Nat) : Int) = I ((vn t + (prt t + r) : Nat) : Int) from addN, show I ((vn t2 : Nat) : Int) + I ((prt t + r : Nat) : Int) = I ((vn t2 + (prt t + r) : Nat) : Int) from addN]
          refine l_ck (fun _ => l_ck (fun _ => l_lt ?_))
          rw [tnI (n := T) rfl (by omega), tnI (n := vn t + (prt t + r)) rfl (by omega), wj_e, hm]
          refine l_ck (fun _ => l_ck (fun _ => l_lt ?_))
          have hm2 : (wj m 45 T (h (vn t + (prt t + r)))).2.2.2 v = h := by
            rw [show (wj m 45 T (h (vn t + (prt t + r)))).2.2.2 v = m.2.2.2 v from if_neg hv.1]; exact hm
          rw [tnI (n := vn t2 + (prt t + r)) rfl (by omega), wj_e, hm2, show I ((T : Nat) : Int) + 1 = I ((T + 1 : Nat) : Int) from addN, ← vn_e bx.1, ← vn_e bY.1]
          have sz := hd (prt t + r) (by omega) (by omega)
          have tp1 := TPb_part s g g' z q1 (j := prt t + r) (by omega) (by omega)
          have tp2 := TPb_part s g g' z2 q2 (j := prt t + r) (by rw [prt_so e1]; omega) (by rw [e2]; omega)
          refine ih2 g0 (wj (wj m 45 T (h (vn t + (prt t + r)))) 46 T (h (vn t2 + (prt t + r)))) (wj (wj w 141 (2 * T) (h' (vn x2 + (prt t + r)))) 141 (2 * T + 1) (h' (vn x + (prt t + r)))) (T + 1) cn r (fun i => if i = T then d (prt t + r) else c i) d t t2 x x2 (FR.wj (FR.wj f1 (by decide)) (by decide)) (FR.wj (FR.wj f2 (by decide)) (by decide)) (fun i hi => ?_) z e1 e2 q1 q2 (by omega) (fun i a b2 => hd i a (by omega)) (by rw [smm_upd]; omega)
          generalize h (vn t + (prt t + r)) = X at *
          generalize h (vn t2 + (prt t + r)) = X2 at *
          generalize h' (vn x + (prt t + r)) = Z at *
          generalize h' (vn x2 + (prt t + r)) = Z2 at *
          have r45 : (wj (wj m 45 T X) 46 T X2).2.2.2 45 i = if i = T then X else m.2.2.2 45 i := by show (wj m 45 T X).2.2.2 45 i = _; exact wj_row
          have r46 : (wj (wj m 45 T X) 46 T X2).2.2.2 46 i = if i = T then X2 else m.2.2.2 46 i := by rw [wj_row]; rfl
          have w1 : (wj (wj w 141 (2 * T) Z2) 141 (2 * T + 1) Z).2.2.2 141 (2 * i + 1) = if 2 * i + 1 = 2 * T + 1 then Z else if 2 * i + 1 = 2 * T then Z2 else w.2.2.2 141 (2 * i + 1) := by rw [wj_row, wj_row]
          have w2 : (wj (wj w 141 (2 * T) Z2) 141 (2 * T + 1) Z).2.2.2 141 (2 * i) = if 2 * i = 2 * T + 1 then Z else if 2 * i = 2 * T then Z2 else w.2.2.2 141 (2 * i) := by rw [wj_row, wj_row]
          rw [r45, r46, w1, w2]
          by_cases e : i = T
          · subst e
            rw [if_pos rfl, if_pos rfl, if_pos rfl, if_neg (by omega), if_pos rfl, if_pos rfl]
            exact ⟨tp1, tp2, sz⟩
          · rw [if_neg e, if_neg e, if_neg (by omega), if_neg (by omega), if_neg (by omega), if_neg (by omega), if_neg e]
            exact hs i (by omega)
    · show PP _ (hb_Te_order_121 N (hg_Te_order N f) m v (I (T : Nat)) (I (cn : Nat)) y1 y2 (I 0) (I (-1))) _
      unfold hb_Te_order_121 hb_Te_order_173
      rw [decL (by omega) (by omega) (by omega) (by omega), decide_eq_true (by omega), br_tq, lit1q, I_add, show ((cn : Nat) : Int) + 1 = ((cn + 1 : Nat) : Int) by omega]
      exact ih1 g0 m w T (cn + 1) c f1 f2 hs (by omega)
theorem order_pp (hv : v ≠ 45 ∧ v ≠ 46) (hh : m.2.2.2 v = h) (hh' : hp w p = h') (g : HPc h n ow kd Fv P) (hn : n ≤ 500) (hF : FVc Fv) (hP : ∀ t, P t → PT m t) (hW : WDc m 1) (g' : HP h' n' ow' kd' Fv' P') (hn' : n' ≤ 500) (hp1 : p < 25) (hme : F w 133 = p) (hF' : FVH Fv') (s : ISb b h n0 h' n0') (hA : ATf m w fa na) (hN : 200000 ≤ N) (q1 : TPb b n ow kd P n' ow' kd' P' t x) (q2 : TPb b n ow kd P n' ow' kd' P' t2 x2) : PP (fun m2 r w2 s => (FR [] [] [] [45, 46] m m2 ∧ FR [] [] [] [141] w w2) ∧ SGN r s) (hm_Te_order N m v t t2) (fm_M_order N w x x2) := by
  obtain ⟨F0, sz, z⟩ := HP_szc g q1.2.1
  have hs := SZ_1000c g hn z
  unfold hm_Te_order hb_Te_order_0 fm_M_order fb_M_order_0
  refine l_ck (fun _ => l_lt (l_ck (fun _ => l_lt (r_ck (fun _ => r_lt (r_ck (fun _ => r_lt ?_)))))))
  rw [show (0 : Int32).toNatClampNeg = 0 from rfl, show (1 : Int32).toNatClampNeg = 1 from rfl, wj_e, wj_e, wj_e, wj_e]
  refine (ord_pp (N := N) (F0 := F0) (m0 := m) (w0 := w) hv hh hh' g (by omega) hF hP hW g' hn' hp1 hme hF' s hA hN N).1 N (wj (wj m 45 0 t) 46 0 t2) (wj (wj w 141 0 x2) 141 1 x) 1 0 (fun _ => sz) (FR.wj (FR.wj FR.rf (by decide)) (by decide)) (FR.wj (FR.wj FR.rf (by decide)) (by decide)) (fun i hi => ?_) (by show 0 + 1 + (0 + sz) ≤ 2000; omega)
  have e : i = 0 := by omega
  subst e
  rw [wj_row, show (wj (wj m 45 0 t) 46 0 t2).2.2.2 45 = (wj m 45 0 t).2.2.2 45 from rfl, wj_row, if_pos rfl, if_pos rfl, J_wj, if_pos rfl, if_pos rfl, J_wj, if_pos rfl, if_neg (by decide), J_wj, if_pos rfl, if_pos rfl]
  exact ⟨q1, q2, z⟩
end
end
section
set_option maxRecDepth 100000
def CLOr (h : Nat → Int64) (n : Nat) (ow kd : Nat → Nat) (P : Int64 → Prop) (S : Nat → Prop) : Prop := ∀ t, isH t → GT n ow kd P t → S (vn t) → ∀ j, prt t ≤ j → j < blk h t → isH (h (vn t + j)) → S (vn (h (vn t + j)))
def RCH (h : Nat → Int64) (n : Nat) (ow kd : Nat → Nat) (P : Int64 → Prop) (T : Int64 → Prop) (a : Nat) : Prop := ∀ S : Nat → Prop, (∀ t, isH t → T t → S (vn t)) → CLOr h n ow kd P S → S a
noncomputable def owR (h : Nat → Int64) (n : Nat) (ow kd : Nat → Nat) (P : Int64 → Prop) (T : Int64 → Prop) (i : Nat) : Nat := @ite Nat (RCH h n ow kd P T (ow i)) (Classical.propDecidable _) (ow i) (i + 1)
section
variable {h : Nat → Int64} {n : Nat} {ow kd : Nat → Nat} {Fv : Int64 → Int64 → Prop} {P T : Int64 → Prop} {t : Int64}
theorem rch_root (z : isH t) (r : T t) : RCH h n ow kd P T (vn t) := fun _ s1 _ => s1 t z r
theorem rch_clo : CLOr h n ow kd P (RCH h n ow kd P T) := fun t z g r j h1 h2 y S s1 s2 => s2 t z g (r S s1 s2) j h1 h2 y
theorem owR_y {i : Nat} (r : RCH h n ow kd P T (ow i)) : owR h n ow kd P T i = ow i := by
  unfold owR
  exact if_pos r
theorem owR_n {i : Nat} (r : ¬ RCH h n ow kd P T (ow i)) : owR h n ow kd P T i = i + 1 := by
  unfold owR
  exact if_neg r
theorem GT_R (g : GT n (owR h n ow kd P T) kd P t) : GT n ow kd P t ∧ (isH t → RCH h n ow kd P T (vn t)) := by
  rcases g with z | ⟨z1, z2, z3, z4, z5⟩
  · exact ⟨Or.inl z, fun y => absurd y z.1⟩
  · by_cases r : RCH h n ow kd P T (ow (vn t))
    · rw [owR_y r] at z4
      rw [z4] at r
      exact ⟨Or.inr ⟨z1, z2, z3, z4, z5⟩, fun _ => r⟩
    · rw [owR_n r] at z4
      omega
theorem GT_R2 (g : GT n ow kd P t) (r : isH t → RCH h n ow kd P T (vn t)) : GT n (owR h n ow kd P T) kd P t := by
  rcases g with z | ⟨z1, z2, z3, z4, z5⟩
  · exact Or.inl z
  · refine Or.inr ⟨z1, z2, z3, ?_, z5⟩
    rw [owR_y (by rw [z4]; exact r z1)]
    exact z4
theorem SZc_R : ∀ {f : Nat} {t : Int64} {s : Nat}, SZc h n ow kd Fv P f t s → (isH t → RCH h n ow kd P T (vn t)) → SZc h n (owR h n ow kd P T) kd Fv P f t s
  | 0, _, _, z, _ => z.elim
  | f + 1, t, s, z, r => by
    have gt := SZ_gtc z
    rcases z with z | ⟨z1, ⟨b1, b2, b3, b4, b5, b6⟩, c, z3, z4⟩
    · exact Or.inl z
    · have r1 := r z1
      refine Or.inr ⟨z1, ⟨b1, b2, b3, b4, b5, fun j hj => ?_⟩, c, fun j h1 h2 => SZc_R (z3 j h1 h2) (fun y => rch_clo t z1 gt r1 j h1 h2 y), z4⟩
      have e := b6 j hj
      rw [owR_y (by rw [e]; exact r1)]
      exact e
theorem SZ_R : ∀ {f : Nat} {t : Int64} {s : Nat}, SZ h n ow kd Fv P f t s → (isH t → RCH h n ow kd P T (vn t)) → SZ h n (owR h n ow kd P T) kd Fv P f t s
  | 0, _, _, z, _ => z.elim
  | f + 1, t, s, z, r => by
    have gt := SZ_gt z
    rcases z with z | ⟨z1, ⟨b1, b2, b3, b4, b5, b6⟩, c, z3, z4⟩
    · exact Or.inl z
    · have r1 := r z1
      refine Or.inr ⟨z1, ⟨b1, b2, b3, b4, b5, fun j hj => ?_⟩, c, fun j h1 h2 => SZ_R (z3 j h1 h2) (fun y => rch_clo t z1 gt r1 j h1 h2 y), z4⟩
      have e := b6 j hj
      rw [owR_y (by rw [e]; exact r1)]
      exact e
theorem HPc_R (g : HPc h n ow kd Fv P) : HPc h n (owR h n ow kd P T) kd Fv P := fun t z gt => by
  obtain ⟨g1, g2⟩ := GT_R gt
  obtain ⟨f, s, a, b⟩ := g t z g1
  exact ⟨f, s, SZc_R a g2, b⟩
theorem HP_R (g : HP h n ow kd Fv P) : HP h n (owR h n ow kd P T) kd Fv P := fun t z gt => by
  obtain ⟨g1, g2⟩ := GT_R gt
  obtain ⟨f, s, a, b⟩ := g t z g1
  exact ⟨f, s, SZ_R a g2, b⟩
end
end
section
set_option maxRecDepth 100000
def CLXc (u : MS) (q : Nat) (h : Nat → Int64) (n : Nat) (ow kd : Nat → Nat) (P : Int64 → Prop) (B W Y : Nat) (w : MS) : Prop := ∃ U src bs, (F w (pq q 4) = ((U : Nat) : Int) ∧ U ≤ n ∧ w.1 (pq q 5) = u.1 (pq q 5) + 1) ∧ CPc h n ow kd P (w.2.2.2 (pq q 2)) 0 U U src bs ∧ (∀ x y, x < U → y < U → bs x = x → bs y = y → vn (src x) = vn (src y) → x = y) ∧ (∀ i, i < B → RTO U src bs (u.2.2.2 (pq q 33) i) (w.2.2.2 (pq q 33) i)) ∧ (∀ i, i < W → RTO U src bs (u.2.2.2 (pq q 35) i) (w.2.2.2 (pq q 35) i)) ∧ ∀ i, i < Y → RTO U src bs (u.2.2.2 (pq q 6) i) (w.2.2.2 (pq q 6) i)
section
variable {h : Nat → Int64} {n N q B W Y k : Nat} {ow kd : Nat → Nat} {Fv : Int64 → Int64 → Prop} {P : Int64 → Prop} {u v w u0 : MS} {t x y : Int64}
theorem clearHeap_x (p : PTQ u q n ow kd Fv P B W Y) (hF : FVc Fv) (hP : ∀ t, P t → PT u t) (hN : 10 + B + W + Y + 600 ≤ N) : OK (fun w _ => CLXc u q (u.2.2.2 (pq q 2)) n ow kd P B W Y w) (hm_Pr_clearHeap N u q) := by
  obtain ⟨⟨p1, p2, p3⟩, ⟨p4, p5⟩, ⟨p6, p7⟩, ⟨p8, p9⟩, p10⟩ := p
  unfold hm_Pr_clearHeap hb_Pr_clearHeap_0
  refine ok_lt.mpr ?_
  generalize hu0 : upI u (pq q 5) (u.1 (pq q 5) + 1) = u0
  have f0 : FR [pq q 5] [] [] [] u u0 := by rw [← hu0, I_of (u.1 (pq q 5) + 1), wi_e]; exact FR.wi FR.rf (by simp)
  have pn5 : ∀ a, a ≠ 5 → pq q a ∉ [pq q 5] := fun a ha => by simp; exact pq_inj ha
  have B0 : CLB u0 q B W Y := by
    obtain ⟨⟨l, a1, a2⟩, ⟨l2, b1, b2⟩, c⟩ := p10
    exact ⟨⟨l, by rw [FR.F f0 (pn5 43 (by decide))]; exact a1, a2⟩, ⟨l2, by rw [FR.F f0 (pn5 45 (by decide))]; exact b1, b2⟩, c⟩
  have row : ∀ a, u0.2.2.2 (pq q a) = u.2.2.2 (pq q a) := fun a => FRj f0 (by simp)
  have hBb : B ≤ 1000000 ∧ W ≤ 1000000 ∧ Y ≤ 30 := by
    obtain ⟨⟨l, a1, a2, a3⟩, ⟨l2, b1, b2, b3⟩, c⟩ := p10
    omega
  have g : HPc (u.2.2.2 (pq q 2)) n ow kd Fv P := p3
  generalize hh : u.2.2.2 (pq q 2) = h at *
  have st : CLc u0 q h n ow kd P B W Y u0 0 0 0 := by
    refine ⟨fun _ => 0, fun _ => 0, FR.rf, ?_, ?_, ?_, ?_, ?_, ?_, fun z => (by cases z)⟩
    · exact ⟨Nat.le_refl _, fun c _ z => by omega, fun c _ z => by omega⟩
    · exact ⟨fun b hb => by omega, fun c hc _ => by rw [row, hh]⟩
    · refine ⟨fun _ => False, fun _ => instDecidableFalse, fun k => ⟨fun z => z.elim, fun ⟨b, z, _⟩ => by omega⟩, Nat.zero_le _⟩
    · exact fun j hj => ⟨by rw [row]; exact p5 j hj, fun z => by unfold pn at z; simp at z, fun _ => rfl⟩
    · exact fun j hj => ⟨by rw [row]; exact p7 j hj, fun z => by unfold pn at z; simp at z, fun _ => rfl⟩
    · exact fun j hj => ⟨by rw [row]; exact p9 j hj, fun z => by unfold pn at z; simp at z, fun _ => rfl⟩
  rw [lit0q, show (0 : Int) = ((0 : Nat) : Int) from rfl]
  have fin : ∀ (L : Nat) (w : MS) (U : Nat), 1 ≤ L → CLc u0 q h n ow kd P B W Y w 3 U U → OK (fun w _ => CLXc u q h n ow kd P B W Y w) ((hg_Pr_clearHeap N L).1 w q (I (U : Int)) (I ((3 + 1 : Nat) : Int))) := by
    intro L w U hL c
    cases L with
    | zero => omega
    | succ L =>
      show OK _ (hb_Pr_clearHeap_14 N (hg_Pr_clearHeap N L) w q (I (U : Int)) (I ((3 + 1 : Nat) : Int)))
      unfold hb_Pr_clearHeap_14
      rw [I_lit (n := 4)]
      refine k_le ⟨by decide, by decide⟩ ⟨by decide, by decide⟩ (fun _ => ?_) (fun y => absurd y (by decide))
      refine ok_lt.mpr (ok_lt.mpr (ok_some.mpr ?_))
      rw [wi_e]
      obtain ⟨src, bs, f, c1, c2, c3, r0, r1, r2, r3⟩ := c
      have hUn := CNT_le c3
      rw [if_pos rfl] at c1
      have f1 : FR [pq q 4] [] [] [pq q 2, pq q 3, pq q 33, pq q 35, pq q 6] u0 (wi (swp w q) (pq q 4) (U : Int)) := FR.wi (FR_upJ (FR_upJ (FR.mo f (by simp) (by simp) (by simp) (by simp)) (by simp)) (by simp)) (by simp)
      have e2 : (wi (swp w q) (pq q 4) (U : Int)).2.2.2 (pq q 2) = w.2.2.2 (pq q 3) := swp_2
      have eo : ∀ a, a ≠ 2 → a ≠ 3 → (wi (swp w q) (pq q 4) (U : Int)).2.2.2 (pq q a) = w.2.2.2 (pq q a) := fun a h2 h3 => swp_ne ⟨pq_inj h2, pq_inj h3⟩
      have e5 : (wi (swp w q) (pq q 4) (U : Int)).1 (pq q 5) = u.1 (pq q 5) + 1 := by
        rw [f1.1 (pq q 5) (by simp; exact pq_inj (by decide)), ← hu0]
        exact upI_at
      refine ⟨U, src, bs, ⟨by rw [F_wi (by omega) (by omega), if_pos rfl], hUn, e5⟩, by rw [e2]; exact c1, fun x y hx hy e3 e4 e6 => ?_, fun i hi => ?_, fun i hi => ?_, fun i hi => ?_⟩
      · have y1 := (c2.1 x hx e3).2
        have y2 := (c2.1 y hy e4).2
        rw [e6] at y1
        omega
      · rw [eo 33 (by decide) (by decide), ← row 33]
        exact (r0 i hi).2.1 hi
      · rw [eo 35 (by decide) (by decide), ← row 35]
        exact (r1 i hi).2.1 hi
      · rw [eo 6 (by decide) (by decide), ← row 6]
        exact (r2 i hi).2.1 hi
  have hP0 : ∀ t, P t → PT u t := hP
  have fI : ∀ (w : MS), FR [] [] [] [pq q 2, pq q 3, pq q 33, pq q 35, pq q 6] u0 w → w.1 (pq q 24) = I (B : Int) ∧ w.1 (pq q 26) = I (W : Int) ∧ w.1 (pq q 7) = I (Y : Int) := fun w f => by
    have h5 : ∀ a, a ≠ 5 → F w (pq q a) = F u (pq q a) := fun a ha => by rw [FR.F f (by simp), FR.F f0 (pn5 a ha)]
    exact ⟨by rw [I_F, h5 24 (by decide), p4], by rw [I_F, h5 26 (by decide), p6], by rw [I_F, h5 7 (by decide), p8]⟩
  have go3 : ∀ (L : Nat) (w : MS) (U : Nat), 520 ≤ L → CLc u0 q h n ow kd P B W Y w 2 Y U → OK (fun w _ => CLXc u q h n ow kd P B W Y w) ((hg_Pr_clearHeap N L).1 w q (I (U : Int)) (I ((2 + 1 : Nat) : Int))) := by
    intro L w U hL c
    cases L with
    | zero => omega
    | succ L =>
      show OK _ (hb_Pr_clearHeap_14 N (hg_Pr_clearHeap N L) w q (I (U : Int)) (I ((2 + 1 : Nat) : Int)))
      unfold hb_Pr_clearHeap_14 hb_Pr_clearHeap_64 hb_Pr_clearHeap_107
      refine ok_br.mpr ⟨fun y => absurd y (by decide), fun _ => ok_br.mpr ⟨fun y => absurd y (by decide), fun _ => ok_br.mpr ⟨fun y => absurd y (by decide), fun _ => ok_br.mpr ⟨fun y => absurd y (by decide), fun _ => ok_br.mpr ⟨fun y => absurd y (by decide), fun _ => ok_br.mpr ⟨fun y => absurd y (by decide), fun _ => ok_br.mpr ⟨fun y => absurd y (by decide), fun _ => ?_⟩⟩⟩⟩⟩⟩⟩
      rw [lit0q]
      obtain ⟨src, bs, f, c1, c2, c3, r0, r1, r2, r3⟩ := c
      exact clear_in (k := 3) (L := 1) (fx := 0) (by decide) g p2 hF hP0 B0 (fun z => absurd rfl z) ⟨by decide, by decide⟩ (fun L2 w2 U2 hL2 c4 => fin L2 w2 U2 hL2 c4) L 0 w U (by show 1 + (512 - 0) + 1 ≤ L; omega) (Nat.zero_le _) ⟨src, bs, f, c1, c2, c3, r0, r1, r2, fun _ => Nat.zero_le _⟩
  have go2 : ∀ (L : Nat) (w : MS) (U : Nat), 522 + Y ≤ L → CLc u0 q h n ow kd P B W Y w 1 W U → OK (fun w _ => CLXc u q h n ow kd P B W Y w) ((hg_Pr_clearHeap N L).1 w q (I (U : Int)) (I ((1 + 1 : Nat) : Int))) := by
    intro L w U hL c
    cases L with
    | zero => omega
    | succ L =>
      show OK _ (hb_Pr_clearHeap_14 N (hg_Pr_clearHeap N L) w q (I (U : Int)) (I ((1 + 1 : Nat) : Int)))
      unfold hb_Pr_clearHeap_14 hb_Pr_clearHeap_64 hb_Pr_clearHeap_107
      refine ok_br.mpr ⟨fun y => absurd y (by decide), fun _ => ok_br.mpr ⟨fun y => absurd y (by decide), fun _ => ok_br.mpr ⟨fun y => absurd y (by decide), fun _ => ok_br.mpr ⟨fun _ => ok_br.mpr ⟨fun y => absurd y (by decide), fun _ => ok_br.mpr ⟨fun y => absurd y (by decide), fun _ => ok_br.mpr ⟨fun _ => ?_, fun y => absurd y (by decide)⟩⟩⟩, fun y => absurd y (by decide)⟩⟩⟩⟩
      obtain ⟨src, bs, f, c1, c2, c3, r0, r1, r2, r3⟩ := c
      rw [lit0q, (fI w f).2.2]
      exact clear_in (k := 2) (L := 520) (fx := (Y : Int)) (by decide) g p2 hF hP0 B0 (fun _ => rfl) ⟨by omega, by omega⟩ (fun L2 w2 U2 hL2 c4 => go3 L2 w2 U2 hL2 c4) L 0 w U (by show 520 + (Y - 0) + 1 ≤ L; omega) (Nat.zero_le _) ⟨src, bs, f, c1, c2, c3, r0, r1, r2, fun z => (by cases z)⟩
  have go1 : ∀ (L : Nat) (w : MS) (U : Nat), 524 + Y + W ≤ L → CLc u0 q h n ow kd P B W Y w 0 B U → OK (fun w _ => CLXc u q h n ow kd P B W Y w) ((hg_Pr_clearHeap N L).1 w q (I (U : Int)) (I ((0 + 1 : Nat) : Int))) := by
    intro L w U hL c
    cases L with
    | zero => omega
    | succ L =>
      show OK _ (hb_Pr_clearHeap_14 N (hg_Pr_clearHeap N L) w q (I (U : Int)) (I ((0 + 1 : Nat) : Int)))
      unfold hb_Pr_clearHeap_14 hb_Pr_clearHeap_64 hb_Pr_clearHeap_107
      refine ok_br.mpr ⟨fun y => absurd y (by decide), fun _ => ok_br.mpr ⟨fun y => absurd y (by decide), fun _ => ok_br.mpr ⟨fun _ => ok_br.mpr ⟨fun y => absurd y (by decide), fun _ => ok_br.mpr ⟨fun _ => ?_, fun y => absurd y (by decide)⟩⟩, fun y => absurd y (by decide)⟩⟩⟩
      obtain ⟨src, bs, f, c1, c2, c3, r0, r1, r2, r3⟩ := c
      rw [lit0q, (fI w f).2.1]
      exact clear_in (k := 1) (L := 522 + Y) (fx := (W : Int)) (by decide) g p2 hF hP0 B0 (fun _ => rfl) ⟨by omega, by omega⟩ (fun L2 w2 U2 hL2 c4 => go2 L2 w2 U2 hL2 c4) L 0 w U (by show 522 + Y + (W - 0) + 1 ≤ L; omega) (Nat.zero_le _) ⟨src, bs, f, c1, c2, c3, r0, r1, r2, fun z => (by cases z)⟩
  cases N with
  | zero => omega
  | succ M =>
    show OK _ (hb_Pr_clearHeap_14 (M + 1) (hg_Pr_clearHeap (M + 1) M) u0 q (I ((0 : Nat) : Int)) (I ((0 : Nat) : Int)))
    unfold hb_Pr_clearHeap_14 hb_Pr_clearHeap_64 hb_Pr_clearHeap_107
    refine ok_br.mpr ⟨fun y => absurd y (by decide), fun _ => ok_br.mpr ⟨fun _ => ok_br.mpr ⟨fun _ => ?_, fun y => absurd y (by decide)⟩, fun y => absurd y (by decide)⟩⟩
    rw [lit0q, (fI u0 FR.rf).1]
    exact clear_in (k := 0) (L := 524 + Y + W) (fx := (B : Int)) (by decide) g p2 hF hP0 B0 (fun _ => rfl) ⟨by omega, by omega⟩ (fun L2 w2 U2 hL2 c4 => go1 L2 w2 U2 hL2 c4) M 0 u0 0 (by show 524 + Y + W + (B - 0) + 1 ≤ M; omega) (Nat.zero_le _) st
end
end
section
set_option maxRecDepth 100000
def CLRx (u : MS) (p : Nat) (h : Nat → Int64) (n : Nat) (ow kd : Nat → Nat) (Fv : Int64 → Int64 → Prop) (P : Int64 → Prop) (opM bnM bxM : Nat) (w : MS) : Prop :=
  ∃ U ow2 kd2 fd R, (HOM h n ow kd (hp w p) U ow2 kd2 P fd R ∧ HP (hp w p) U ow2 kd2 Fv P ∧ (∀ t, isH t → R t → vn (fd t) + blk (hp w p) (fd t) ≤ U ∧ ∀ j, j < blk (hp w p) (fd t) → ow2 (vn (fd t) + j) = vn (fd t)) ∧ U ≤ n ∧ (∀ q, A w 89 q = if q = p then (U : Int) else A u 89 q) ∧ FR [136, 138] [139] [89, 90, 135] [88, 91, 93, 107, 134, 137] u w ∧ (∀ i, ¬ (500 * p ≤ i ∧ i < 500 * p + 500) → w.2.2.2 88 i = u.2.2.2 88 i) ∧ RTS u w fd R 91 (46000 * p) opM ∧ RTS u w fd R 93 (2500 * p) bnM ∧ RTS u w fd R 107 (30 * p) bxM ∧ (F u 140 = p → w.2.1 139 = fd (u.2.1 139) ∧ (isH (u.2.1 139) → R (u.2.1 139))) ∧ (F u 140 ≠ p → w.2.1 139 = u.2.1 139)) ∧ (∀ t1 t2, isH t1 → isH t2 → R t1 → R t2 → vn (fd t1) = vn (fd t2) → vn t1 = vn t2) ∧ ∀ x, x < U → ∃ t, isH t ∧ R t ∧ vn (fd t) ≤ x ∧ x < vn (fd t) + blk (hp w p) (fd t)
section
variable {h h2 : Nat → Int64} {n n2 p N U C sc opM bnM bxM : Nat} {ow kd ow2 kd2 ks : Nat → Nat} {Fv : Int64 → Int64 → Prop} {P : Int64 → Prop} {u w : MS} {t : Int64} {fd : Int64 → Int64} {R : Int64 → Prop}
theorem GC_fix (g : HP h n ow kd Fv P) (hn : n ≤ 500) (c : GC h n ow kd w U C U ow2 kd2 ks) (h2 : Nat → Int64) (hh : ∀ i, i < U → h2 i = w.2.2.2 134 i) :
    ∃ fd R, HOM h n ow kd h2 U ow2 kd2 P fd R ∧ HP h2 U ow2 kd2 Fv P ∧ (∀ t, isH t → R t → vn (fd t) + blk h2 (fd t) ≤ U ∧ ∀ j, j < blk h2 (fd t) → ow2 (vn (fd t) + j) = vn (fd t)) ∧ (∀ t, isH t → GT n ow kd P t → A w 135 (vn t) ≠ -1 → R t) ∧ (∀ t, isH t → fd t = fw w t) ∧ (∀ t, isH t → R t → A w 135 (vn t) ≠ -1) := by
  have c' := c
  obtain ⟨⟨c1, c2, c3, c4⟩, c5, c6, c7, c8, ⟨c9, c10⟩, c11, c12⟩ := c
  have hU : U ≤ 500 := by have := cnt_le (S := fun k => k < 500 ∧ A w 135 k ≠ -1) (ow := ow) n; omega
  have facts : ∀ t, isH t → GT n ow kd P t → A w 135 (vn t) ≠ -1 → vn t < 500 ∧ 0 ≤ A w 135 (vn t) ∧ so (fw w t) = so t ∧ va (fw w t) = A w 135 (vn t) ∧ vn (fw w t) = (A w 135 (vn t)).toNat ∧ bs h kd (vn t) = blk h t ∧ pk kd (vn t) = prt t ∧ (kd (vn t) : Int) = so t := by
    intro t ht gt hm
    rcases gt with ⟨z, -⟩ | ⟨-, g1, g2, g3, g4⟩
    · exact absurd ht z
    have h5 : vn t < 500 := by omega
    have h0 : 0 ≤ A w 135 (vn t) := by rcases c5 _ h5 with z | z; exact absurd z hm; exact z.1
    have hr := A_r w 135 (vn t)
    obtain ⟨be, pe⟩ := bs_eq (h := h) g4 (by omega)
    have e2 : va (fw w t) = A w 135 (vn t) := va_rp h0 hr.2
    exact ⟨h5, h0, so_rp h0 hr.2, e2, by show (va (fw w t)).toNat = _; rw [e2], be, pe, g4⟩
  have hom : HOM h n ow kd h2 U ow2 kd2 P (fun t => if so t = 3 ∨ so t = 5 ∨ so t = 7 then fw w t else t) (fun t => isH t ∧ GT n ow kd P t ∧ A w 135 (vn t) ≠ -1) := by
    refine ⟨fun t ht => if_neg ht, fun t ht r => ?_⟩
    obtain ⟨-, r2, r3⟩ := r
    obtain ⟨q1, q2, q3, q4, q5, q6, q7, q8⟩ := facts t ht r2 r3
    have ef : (if so t = 3 ∨ so t = 5 ∨ so t = 7 then fw w t else t) = fw w t := if_pos ht
    obtain ⟨d1, d2, d3⟩ := c6 _ q1 r3
    have bp := blk_pos (h := h) ht
    have cells := c12 _ q1 r3
    rw [q6, q7] at cells
    rw [q6] at d1 d3
    have hd : ∀ j, j < prt t → h2 (vn (fw w t) + j) = h (vn t + j) := fun j hj => by
      have pl := prt_le (h := h) ht
      rw [q5, hh _ (by omega)]
      exact (cells j (by omega)).2 (fun z => by omega)
    have eb : blk h2 (fw w t) = blk h t := by
      unfold blk
      rw [q3]
      rcases ht with e | e | e
      · rw [e]; simp
        have := hd 1 (by unfold prt; rw [e]; decide)
        rw [this]
      · rw [e]; simp
        have := hd 0 (by unfold prt; rw [e]; decide)
        rw [show vn (fw w t) + 0 = vn (fw w t) from rfl, show vn t + 0 = vn t from rfl] at this
        rw [this]
      · rw [e]; simp
    simp only [ef]
    refine ⟨r2, q3, Or.inr ⟨by unfold isH; rw [q3]; exact ht, by rw [q4]; exact q2, by rw [q5]; omega, ?_, ?_⟩, eb, hd, fun j h1 h2' => ?_⟩
    · rw [q5]; have := d3 0 bp; exact this
    · rw [q5, d2, q8, q3]
    · rw [q5, hh _ (by omega)]
      obtain ⟨y1, y2⟩ := cells j h2'
      by_cases hy : isH (h (vn t + j))
      · obtain ⟨x1, x2⟩ := y1 ⟨by omega, h1, hy⟩
        rw [x2, show (if so (h (vn t + j)) = 3 ∨ so (h (vn t + j)) = 5 ∨ so (h (vn t + j)) = 7 then fw w (h (vn t + j)) else h (vn t + j)) = fw w (h (vn t + j)) from if_pos hy]
        exact ⟨rfl, fun _ => ⟨hy, (HP_bk g ht r2).2 j h1 h2', x1⟩⟩
      · rw [y2 (fun z => hy z.2.2), show (if so (h (vn t + j)) = 3 ∨ so (h (vn t + j)) = 5 ∨ so (h (vn t + j)) = 7 then fw w (h (vn t + j)) else h (vn t + j)) = h (vn t + j) from if_neg hy]
        exact ⟨rfl, fun z => absurd z hy⟩
  have hg2 : ∀ t, isH t → (isH t ∧ GT n ow kd P t ∧ A w 135 (vn t) ≠ -1) → vn ((fun t => if so t = 3 ∨ so t = 5 ∨ so t = 7 then fw w t else t) t) + blk h2 ((fun t => if so t = 3 ∨ so t = 5 ∨ so t = 7 then fw w t else t) t) ≤ U ∧ ∀ j, j < blk h2 ((fun t => if so t = 3 ∨ so t = 5 ∨ so t = 7 then fw w t else t) t) → ow2 (vn ((fun t => if so t = 3 ∨ so t = 5 ∨ so t = 7 then fw w t else t) t) + j) = vn ((fun t => if so t = 3 ∨ so t = 5 ∨ so t = 7 then fw w t else t) t) := by
    intro t ht r
    obtain ⟨-, -, -, a4, -⟩ := hom.2 t ht r
    obtain ⟨q1, q2, q3, q4, q5, q6, q7, q8⟩ := facts t ht r.2.1 r.2.2
    obtain ⟨d1, d2, d3⟩ := c6 _ q1 r.2.2
    rw [a4]
    simp only [show (if so t = 3 ∨ so t = 5 ∨ so t = 7 then fw w t else t) = fw w t from if_pos ht]
    rw [q5, ← q6]
    exact ⟨d1, d3⟩
  refine ⟨_, _, hom, ?_, hg2, fun t a b c => ⟨a, b, c⟩, fun t ht => if_pos ht, fun t _ r => r.2.2⟩
  intro t ht gt
  rcases gt with ⟨z, -⟩ | ⟨-, g1, g2, g3, g4⟩
  · exact absurd ht z
  obtain ⟨i, hi, i1, i2⟩ := GC_find c' g2
  obtain ⟨k1, k2, -⟩ := c8 i hi
  obtain ⟨d1, d2, d3⟩ := c6 _ k1 k2
  have k0 : 0 ≤ A w 135 (ks i) := by rcases c5 _ k1 with z | z; exact absurd z k2; exact z.1
  have e1 : vn t = (A w 135 (ks i)).toNat := by
    have := d3 (vn t - (A w 135 (ks i)).toNat) (by omega)
    rw [show (A w 135 (ks i)).toNat + (vn t - (A w 135 (ks i)).toNat) = vn t from by omega, g3] at this
    exact this
  obtain ⟨z1, z2, z3, z4⟩ : 0 ≤ A w 135 (ks i) ∧ ks i < n ∧ ow (ks i) = ks i ∧ (kd (ks i) = 3 ∨ kd (ks i) = 5 ∨ kd (ks i) = 7) := by rcases c5 _ k1 with z | z; exact absurd z k2; exact z
  have y1 : so (mk (kd (ks i)) (ks i)) = kd (ks i) := so_mk (by omega) (by omega)
  have y2 : vn (mk (kd (ks i)) (ks i)) = ks i := by show (va _).toNat = _; rw [va_mk (by omega) (by omega)]; omega
  have y3 : isH (mk (kd (ks i)) (ks i)) := by unfold isH; rw [y1]; omega
  have y4 : GT n ow kd P (mk (kd (ks i)) (ks i)) := Or.inr ⟨y3, by rw [va_mk (by omega) (by omega)]; omega, by rw [y2]; exact z2, by rw [y2]; exact z3, by rw [y2, y1]⟩
  obtain ⟨f, s, s1, s2⟩ := g _ y3 y4
  have rr : isH (mk (kd (ks i)) (ks i)) ∧ GT n ow kd P (mk (kd (ks i)) (ks i)) ∧ A w 135 (vn (mk (kd (ks i)) (ks i))) ≠ -1 := ⟨y3, y4, by rw [y2]; exact k2⟩
  have sz := HOM_sz hom hg2 g s1 (fun _ => rr)
  obtain ⟨a1, a2, a3, a4, a5, a6⟩ := hom.2 _ y3 rr
  obtain ⟨q1, q2, q3, q4, q5, q6, q7, q8⟩ := facts _ y3 y4 rr.2.2
  have ef : (if so (mk (kd (ks i)) (ks i)) = 3 ∨ so (mk (kd (ks i)) (ks i)) = 5 ∨ so (mk (kd (ks i)) (ks i)) = 7 then fw w (mk (kd (ks i)) (ks i)) else mk (kd (ks i)) (ks i)) = fw w (mk (kd (ks i)) (ks i)) := if_pos y3
  simp only [ef] at sz a2 a3 a4 a5 a6
  have es : so t = so (fw w (mk (kd (ks i)) (ks i))) := by rw [q3, y1, ← g4, e1, d2]
  have eva : va t = va (fw w (mk (kd (ks i)) (ks i))) := by
    rw [q4, y2]
    unfold vn at e1
    omega
  refine ⟨f, s, SZ_same es eva (by unfold isH; rw [q3]; exact y3) sz, fun h5 => ?_⟩
  obtain ⟨r1, r2, r3⟩ := s2 h5
  have evn : vn t = vn (fw w (mk (kd (ks i)) (ks i))) := by unfold vn; rw [eva]
  refine ⟨by rw [es, q3]; exact r1, ?_, ?_⟩
  · have : blk h2 t = blk h2 (fw w (mk (kd (ks i)) (ks i))) := by unfold blk; rw [es, evn]
    rw [this, a4]; exact r2
  · have := (a6 1 (by unfold prt; rw [r1]; decide) (by omega)).1
    rw [evn, this]
    rw [show (if so (h (vn (mk (kd (ks i)) (ks i)) + 1)) = 3 ∨ so (h (vn (mk (kd (ks i)) (ks i)) + 1)) = 5 ∨ so (h (vn (mk (kd (ks i)) (ks i)) + 1)) = 7 then fw w (h (vn (mk (kd (ks i)) (ks i)) + 1)) else h (vn (mk (kd (ks i)) (ks i)) + 1)) = h (vn (mk (kd (ks i)) (ks i)) + 1) from if_neg r3]
    exact r3
theorem cl56x (cx : CX u p h n ow kd Fv P opM bnM bxM) (hN : 600 ≤ N) : ∀ (m : Nat),
    (∀ (w : MS) (U C sc i : Nat) (ow2 kd2 ks : Nat → Nat), IV u p h n ow kd U C sc ow2 kd2 ks opM bnM bxM w → HD u p w → i ≤ C → (i < C → A w 135 (ks i) = sc) → (i = C → sc = U) → (500 - sc) + 2 * (500 - i) + 600 < m → OK (fun w2 _ => CLRx u p h n ow kd Fv P opM bnM bxM w2) ((gg_M_clear N m).2.2.2.2.1 w (I p) (I i))) ∧
    (∀ (w : MS) (U C sc i j : Nat) (ow2 kd2 ks : Nat → Nat), IV u p h n ow kd U C sc ow2 kd2 ks opM bnM bxM w → HD u p w → i < C → pk kd (ks i) ≤ j → j ≤ bs h kd (ks i) → A w 135 (ks i) + j = sc → (500 - sc) + 2 * (500 - i) + 599 < m → OK (fun w2 _ => CLRx u p h n ow kd Fv P opM bnM bxM w2) ((gg_M_clear N m).2.2.2.2.2.1 w (I p) (I i) (I (A w 135 (ks i))) (I (bs h kd (ks i))) (I j))) := by
  have cx' := cx
  obtain ⟨x1, x2, x3, x4, x5, x6, x7, x8, x9, x10, x11⟩ := cx
  intro m
  induction m with
  | zero => exact ⟨fun w U C sc i _ _ _ _ _ _ _ _ z => absurd z (Nat.not_lt_zero _), fun w U C sc i j _ _ _ _ _ _ _ _ _ z => absurd z (Nat.not_lt_zero _)⟩
  | succ m ih =>
    obtain ⟨ih1, ih2⟩ := ih
    refine ⟨fun w U C sc i ow2 kd2 ks iv hd hi hs1 hs2 hm => ?_, fun w U C sc i j ow2 kd2 ks iv hd hi hpj hj hsc hm => ?_⟩
    · have ehp := IV_hp iv x1
      obtain ⟨v1, v2, v3, v4, v5, v6⟩ := iv
      have v2c := v2
      obtain ⟨⟨c1, c2, c3, c4⟩, c5, c6, c7, c8, c9, c11, c12⟩ := v2
      show OK _ (fb_M_clear_204 N (gg_M_clear N m) w (I p) (I i))
      unfold fb_M_clear_204
      rw [I_F' c2, decI (by omega) (by omega) (by omega) (by omega)]
      by_cases e : C ≤ i
      · have es : sc = U := hs2 (by omega)
        subst es
        rw [decide_eq_true (by omega), br_tq, inb_at (k := 89) (n := 25) rfl (by omega) (by omega) (by decide), ck_t, lt_e, I_tn (by omega) (by omega), Int.toNat_natCast, I_F' c1, wa_e, lit0q]
        refine ok_mono (cl7 (w0 := wa w 89 p sc) x4 v3 m 0 (wa w 89 p sc) (by omega) (by omega) c1 (fun j hj => absurd hj (Nat.not_lt_zero _)) FR.rf (fun _ _ => rfl)) (fun w2 _ ⟨q1, q2, q3⟩ => ?_)
        have e134 : w2.2.2.2 134 = w.2.2.2 134 := q1.2.2.2 134 (by decide)
        obtain ⟨fd, R, r1, r2, r3, r4, r5, r6⟩ := GC_fix (P := P) x2 x3 v2c (hp w2 p) (fun i hi => by rw [q2 i hi, e134])
        have eJ : ∀ K, K ≠ 88 → w2.2.2.2 K = w.2.2.2 K := fun K hK => q1.2.2.2 K (by simp [hK])
        refine ⟨sc, ow2, kd2, fd, R, ⟨r1, r2, r3, Nat.le_trans c7 (cnt_le n), fun q => ?_, ?_, fun i hi => ?_, RM_fd v4 x8 r1.1 r4 r5 (eJ 91 (by decide)), RM_fd v5 x9 r1.1 r4 r5 (eJ 93 (by decide)), RM_fd v6 x10 r1.1 r4 r5 (eJ 107 (by decide)), fun z => ?_, fun z => ?_⟩, fun t1 t2 z1 z2 y1 y2 e9 => ?_, fun x hx => ?_⟩
        · rw [FR.A q1 (by decide), A_wa (by omega) (by omega), if_pos rfl, FR.A v1 (by decide)]
        · have f0 : FR [136, 138] [139] [89, 90, 135] [88, 91, 93, 107, 134, 137] u w := FR.mo v1 (fun _ z => z) (fun _ z => z) (fun k z => List.mem_cons_of_mem _ z) (fun k z => List.mem_cons_of_mem _ z)
          refine FR.tr (FR.wa f0 (by decide)) (FR.mo q1 (fun _ z => by cases z) (fun _ z => by cases z) (fun _ z => by cases z) (fun k z => by rw [List.mem_singleton.mp z]; decide))
        · rw [q3 i hi]
          show w.2.2.2 88 i = _
          rw [v1.2.2.2 88 (by decide)]
        · have e1 : w2.2.1 139 = w.2.1 139 := q1.2.1 139 (by decide)
          rw [e1]
          exact MV_fd (hd.1 z) (x11 z) r1.1 r4 r5
        · have e1 : w2.2.1 139 = w.2.1 139 := q1.2.1 139 (by decide)
          rw [e1]
          exact hd.2 z
        · have g1 := (r1.2 t1 z1 y1).1
          have g2 := (r1.2 t2 z2 y2).1
          have m1 := r6 t1 z1 y1
          have m2 := r6 t2 z2 y2
          rw [r5 t1 z1, r5 t2 z2] at e9
          rcases g1 with ⟨z, -⟩ | ⟨-, g11, g12, g13, g14⟩
          · exact absurd z1 z
          rcases g2 with ⟨z, -⟩ | ⟨-, g21, g22, g23, g24⟩
          · exact absurd z2 z
          have a1 : 0 ≤ A w 135 (vn t1) := by rcases c5 _ (show vn t1 < 500 by omega) with z | z; exact absurd z m1; exact z.1
          have a2 : 0 ≤ A w 135 (vn t2) := by rcases c5 _ (show vn t2 < 500 by omega) with z | z; exact absurd z m2; exact z.1
          have b1 := A_r w 135 (vn t1)
          have b2 := A_r w 135 (vn t2)
          have w1 : vn (fw w t1) = (A w 135 (vn t1)).toNat := by show (va (fw w t1)).toNat = _; unfold fw; rw [va_rp a1 b1.2]
          have w2 : vn (fw w t2) = (A w 135 (vn t2)).toNat := by show (va (fw w t2)).toNat = _; unfold fw; rw [va_rp a2 b2.2]
          rw [w1, w2] at e9
          have p1 := (GC_bp v2c x3 (show vn t1 < 500 by omega) m1).1
          have p2 := (GC_bp v2c x3 (show vn t2 < 500 by omega) m2).1
          exact (GC_inj v2c x3 (show vn t1 < 500 by omega) m1 (show vn t2 < 500 by omega) m2 p1 p2 (by omega)).1
        · obtain ⟨i, i1, i2, i3⟩ := GC_find v2c hx
          obtain ⟨d1, d2, -⟩ := c8 i i1
          rcases c5 _ d1 with z | ⟨k0, k1, k2, k3⟩
          · exact absurd z d2
          have y1 : so (mk (kd (ks i)) (ks i)) = kd (ks i) := so_mk (by omega) (by omega)
          have y0 : va (mk (kd (ks i)) (ks i)) = ((ks i : Nat) : Int) := va_mk (by omega) (by omega)
          have y2 : vn (mk (kd (ks i)) (ks i)) = ks i := by show (va _).toNat = _; rw [y0]; omega
          have y3 : isH (mk (kd (ks i)) (ks i)) := by unfold isH; rw [y1]; omega
          have gt : GT n ow kd P (mk (kd (ks i)) (ks i)) := Or.inr ⟨y3, by rw [y0]; omega, by rw [y2]; exact k1, by rw [y2]; exact k2, by rw [y2, y1]⟩
          have rr := r4 _ y3 gt (by rw [y2]; exact d2)
          have hr := A_r w 135 (ks i)
          have w1 : vn (fd (mk (kd (ks i)) (ks i))) = (A w 135 (ks i)).toNat := by rw [r5 _ y3]; unfold fw; rw [y2]; unfold vn; rw [va_rp k0 hr.2]
          have bb : blk (hp w2 p) (fd (mk (kd (ks i)) (ks i))) = bs h kd (ks i) := (r1.2 _ y3 rr).2.2.2.1
          exact ⟨_, y3, rr, by rw [w1]; omega, by rw [w1, bb]; omega⟩
      · obtain ⟨d1, d2, d3, d4, d5, d6⟩ := c8 i (by omega)
        obtain ⟨p1, p2, p3⟩ := GC_bp v2c x3 d1 d2
        have eU := (c6 _ d1 d2).1
        have esc := hs1 (by omega)
        have cells := c12 _ d1 d2
        rw [decide_eq_false (by omega), br_fq, inb_at (k := 137) (n := 500) rfl (by omega) (by omega) (by decide), ck_t, I_tn (by omega) (by omega), Int.toNat_natCast, valueOf_e, bnd_so, sortOf_e, bnd_so, d4, d3]
        have hkd : kd (ks i) = 3 ∨ kd (ks i) = 5 ∨ kd (ks i) = 7 := by rcases c5 _ d1 with z | z; exact absurd z d2; exact z.2.2.2
        have hkn : ks i < n := by rcases c5 _ d1 with z | z; exact absurd z d2; exact z.2.1
        have y1 : so (mk (kd (ks i)) (ks i)) = kd (ks i) := so_mk (by omega) (by omega)
        have y2 : vn (mk (kd (ks i)) (ks i)) = ks i := by show (va _).toNat = _; rw [va_mk (by omega) (by omega)]; omega
        have y3 : isH (mk (kd (ks i)) (ks i)) := by unfold isH; rw [y1]; omega
        have hso : so (w.2.2.2 137 i) = so (mk (kd (ks i)) (ks i)) := by rw [d3, y1]
        have hH : isH (w.2.2.2 137 i) := by unfold isH; rw [hso]; exact y3
        have hp0 : prt (w.2.2.2 137 i) = pk kd (ks i) := prt_so hso
        have go : ∀ t0 : Int32, t0 = I (bs h kd (ks i)) → OK (fun w2 _ => CLRx u p h n ow kd Fv P opM bnM bxM w2) (fb_M_clear_273 N (gg_M_clear N m) w (I p) (I i) (w.2.2.2 137 i) (I (A w 135 (ks i))) t0) := by
          intro t0 ht0
          subst ht0
          unfold fb_M_clear_273
          rw [partsFrom_e hH, bnd_so, hp0]
          have gsc : GC h n ow kd w U C (sc + pk kd (ks i)) ow2 kd2 ks := GC_sc v2c (by omega) (by omega) (fun k2 j2 a1 a2 a3 a4 a5 => by
            obtain ⟨e1, e2⟩ := GC_inj v2c x3 a1 a2 d1 d2 a3 (j2 := (A w 135 k2).toNat + j2 - sc) (by omega) (by omega)
            subst e1
            omega)
          exact ih2 w U C (sc + pk kd (ks i)) i (pk kd (ks i)) ow2 kd2 ks ⟨v1, gsc, v3, v4, v5, v6⟩ hd (by omega) (Nat.le_refl _) p2 (by omega) (by omega)
        have hr := A_r w 135 (ks i)
        have cl5 : (7 : Int32) = I 7 := rfl
        have cl6 : (5 : Int32) = I 5 := rfl
        have ebk : (bs h kd (ks i) : Int) = blk h (mk (kd (ks i)) (ks i)) := rfl
        rw [cl5, cl6, decE (by omega) (by omega) (by omega) (by omega), decE (by omega) (by omega) (by omega) (by omega)]
        have bkk := (HP_bk (P := P) x2 y3 (Or.inr ⟨y3, by rw [va_mk (by omega) (by omega)]; omega, by rw [y2]; exact hkn, by rw [y2]; rcases c5 _ d1 with z | z; exact absurd z d2; exact z.2.2.1, by rw [y2, y1]⟩)).1
        rcases hkd with e3 | e5 | e7
        · have eb2 : bs h kd (ks i) = 2 + vn (h (ks i + 1)) := by show blk h (mk (kd (ks i)) (ks i)) = _; unfold blk; rw [y1, y2, e3]; rfl
          have b30 : 0 ≤ va (h (ks i + 1)) := by have := (bkk.2.2.1 (by rw [y1, e3]; rfl)).1; rw [y2] at this; exact this
          have ep2 : pk kd (ks i) = 2 := by show prt (mk (kd (ks i)) (ks i)) = _; unfold prt; rw [y1, e3]; rfl
          rw [e3, decide_eq_false (by decide), br_fq, decide_eq_false (by decide), br_fq, lit1q, I_add, inb_at (k := 134) (n := 500) rfl (by omega) (by omega) (by decide), ck_t, I_tn (by omega) (by omega), show (A w 135 (ks i) + 1).toNat = (A w 135 (ks i)).toNat + 1 from by omega, (cells 1 (by omega)).2 (fun z => by omega)]
          refine go _ ?_
          rw [I_of (h (ks i + 1)).toInt32, show (2 : Int32) = I 2 from rfl, I_add]
          congr 1
          show (2 : Int) + va (h (ks i + 1)) = _
          unfold vn at eb2
          omega
        · have eb2 : bs h kd (ks i) = 1 + vn (h (ks i)) := by show blk h (mk (kd (ks i)) (ks i)) = _; unfold blk; rw [y1, y2, e5]; rfl
          have b20 : 0 ≤ va (h (ks i)) := by have := (bkk.2.1 (by rw [y1, e5]; rfl)).1; rw [y2] at this; exact this
          have ep2 : pk kd (ks i) = 1 := by show prt (mk (kd (ks i)) (ks i)) = _; unfold prt; rw [y1, e5]; rfl
          have c0 := (cells 0 (by omega)).2 (fun z => by omega)
          rw [show (A w 135 (ks i)).toNat + 0 = (A w 135 (ks i)).toNat from rfl, show ks i + 0 = ks i from rfl] at c0
          rw [e5, decide_eq_false (by decide), br_fq, decide_eq_true (by decide), br_tq, inb_at (k := 134) (n := 500) rfl (by omega) (by omega) (by decide), ck_t, I_tn (by omega) (by omega), c0]
          refine go _ ?_
          rw [I_of (h (ks i)).toInt32, lit1q, I_add]
          congr 1
          show (1 : Int) + va (h (ks i)) = _
          unfold vn at eb2
          omega
        · have eb2 : bs h kd (ks i) = 2 := by show blk h (mk (kd (ks i)) (ks i)) = _; unfold blk; rw [y1, e7]; rfl
          rw [e7, decide_eq_true (by decide), br_tq]
          refine go _ ?_
          rw [eb2]; rfl
    · have ehp := IV_hp iv x1
      have iv' := iv
      obtain ⟨v1, v2, v3, v4, v5, v6⟩ := iv
      have v2c := v2
      obtain ⟨⟨c1, c2, c3, c4⟩, c5, c6, c7, c8, c9, c11, c12⟩ := v2
      obtain ⟨d1, d2, d3, d4, d5, d6⟩ := c8 i hi
      obtain ⟨p1, p2, p3⟩ := GC_bp v2c x3 d1 d2
      have eU := (c6 _ d1 d2).1
      have hr := A_r w 135 (ks i)
      show OK _ (fb_M_clear_281 N (gg_M_clear N m) w (I p) (I i) (I (A w 135 (ks i))) (I (bs h kd (ks i))) (I j))
      unfold fb_M_clear_281
      rw [decI (by omega) (by omega) (by omega) (by omega)]
      by_cases e : bs h kd (ks i) ≤ j
      · rw [decide_eq_true (by omega), br_tq, lit1q, I_add]
        refine ih1 w U C sc (i + 1) ow2 kd2 ks iv' hd (by omega) (fun z => by have := d5 z; omega) (fun z => by have := d6 z; omega) (by omega)
      · rw [decide_eq_false (by omega), br_fq, I_add, inb_at (k := 134) (n := 500) rfl (by omega) (by omega) (by decide), ck_t, I_tn (by omega) (by omega), show (A w 135 (ks i) + (j : Int)).toNat = sc from by omega]
        have raw : w.2.2.2 134 sc = h (ks i + j) := by
          have := (c12 _ d1 d2 j (by omega)).2 (fun z => by omega)
          rw [show (A w 135 (ks i)).toNat + j = sc from by omega] at this
          exact this
        have hkn : ks i < n := by rcases c5 _ d1 with z | z; exact absurd z d2; exact z.2.1
        have hkd : kd (ks i) = 3 ∨ kd (ks i) = 5 ∨ kd (ks i) = 7 := by rcases c5 _ d1 with z | z; exact absurd z d2; exact z.2.2.2
        have y1 : so (mk (kd (ks i)) (ks i)) = kd (ks i) := so_mk (by omega) (by omega)
        have y2 : vn (mk (kd (ks i)) (ks i)) = ks i := by show (va _).toNat = _; rw [va_mk (by omega) (by omega)]; omega
        have y3 : isH (mk (kd (ks i)) (ks i)) := by unfold isH; rw [y1]; rcases c5 _ d1 with z | z; exact absurd z d2; omega
        have gy : GT n ow kd P (h (ks i + j)) := by
          have := (HP_bk (P := P) x2 y3 (Or.inr ⟨y3, by rw [va_mk (by omega) (by omega)]; omega, by rw [y2]; exact hkn, by rw [y2]; rcases c5 _ d1 with z | z; exact absurd z d2; exact z.2.2.1, by rw [y2, y1]⟩)).2 j hpj (by show j < bs h kd (ks i); omega)
          rw [y2] at this
          exact this
        rw [raw]
        refine ok_bnd.mpr (ok_mono (carried_ok (N := N) x2 x3 (show p < 25 by omega) ehp gy v2c hN) (fun w2 r hq => ?_))
        obtain ⟨q1, q2, q3, q4, q5, U2, C2, ow3, kd3, ks2, k1, k2, k3, k4, gc⟩ := hq
        rw [ck_t, lt_e, wj_e, lit1q, I_add]
        have em : A w2 135 (ks i) = A w 135 (ks i) := q2 _ d1 d2
        have eks : ks2 i = ks i := k4 i hi
        have mv : MV w2 (h (ks i + j)) r := ⟨q3, q4⟩
        have gs := GC_scan gc x3 (k := ks i) (j := j) d1 (by rw [em]; exact d2) (by omega) hpj (by rw [em]; omega) mv
        have f2 : FR [136, 138] [139] [135] [134, 137] w (wj w2 134 sc r) := FR.wj (FR.mo q1 (fun _ z => z) (fun _ z => by cases z) (fun _ z => z) (fun _ z => z)) (by decide)
        have ivn := IV_st (w2 := wj w2 134 sc r) iv' cx' (Nat.le_refl _) (Nat.le_refl _) (Nat.le_refl _) f2 q2 gs k3
        have hdn : HD u p (wj w2 134 sc r) := HD_st hd cx' (q1.2.1 139 (by decide)) q2
        have := ih2 (wj w2 134 sc r) U2 C2 (sc + 1) i (j + 1) ow3 kd3 ks2 ivn hdn (by omega) (by rw [eks]; omega) (by rw [eks]; omega) (by rw [eks]; show A w2 135 (ks i) + _ = _; rw [em]; omega) (by omega)
        rw [eks, show A (wj w2 134 sc r) 135 (ks i) = A w 135 (ks i) from em] at this
        exact this
theorem cl4x (cx : CX u p h n ow kd Fv P opM bnM bxM) (hN : 600 ≤ N) : ∀ (m : Nat) (w : MS) (U C x : Nat) (ow2 kd2 ks : Nat → Nat), IV u p h n ow kd U C 0 ow2 kd2 ks opM bnM x w → w.2.1 139 = u.2.1 139 → x ≤ bxM → (30 - x) + 2200 < m → OK (fun w2 _ => CLRx u p h n ow kd Fv P opM bnM bxM w2) ((gg_M_clear N m).2.2.2.1 w (I p) (I x)) := by
  have cx' := cx
  obtain ⟨x1, x2, x3, x4, x5, x6, x7, x8, x9, x10, x11⟩ := cx
  intro m
  induction m with
  | zero => intro w U C x _ _ _ _ _ _ z; exact absurd z (Nat.not_lt_zero _)
  | succ m ih =>
    intro w U C x ow2 kd2 ks iv eh hx hm
    have ehp := IV_hp iv x1
    have iv' := iv
    obtain ⟨v1, v2, v3, v4, v5, v6⟩ := iv
    show OK _ (fb_M_clear_138 N (gg_M_clear N m) w (I p) (I x))
    unfold fb_M_clear_138
    rw [inb_at (k := 108) (n := 24) rfl (by omega) (by omega) (by decide), ck_t, I_tn (by omega) (by omega), Int.toNat_natCast, I_A' (show A w 108 p = bxM from by rw [FR.A v1 (by decide)]; exact x7.1), decI (by omega) (by omega) (by omega) (by omega)]
    by_cases e : bxM ≤ x
    · have ex : x = bxM := by omega
      subst ex
      have h140 : F w 140 = F u 140 := FR.F v1 (by decide)
      have hr := F_r u 140
      rw [decide_eq_true (by omega), br_tq, I_F' h140, decE hr.1 hr.2 (by omega) (by omega)]
      by_cases e2 : F u 140 = p
      · rw [decide_eq_true e2, br_tq, eh]
        refine ok_bnd.mpr (ok_mono (carried_ok (N := N) x2 x3 (show p < 25 by omega) ehp (x11 e2) v2 hN) (fun w2 r hq => ?_))
        obtain ⟨q1, q2, q3, q4, q5, U2, C2, ow3, kd3, ks2, k1, k2, k3, k4, gc⟩ := hq
        rw [lt_e, wl_e]
        unfold fb_M_clear_202
        rw [lit0q]
        have iv2 := IV_st (w2 := wl w2 139 r) iv' cx' (Nat.le_refl _) (Nat.le_refl _) (Nat.le_refl _) (FR.wl (FR.mo q1 (fun _ z => z) (fun _ z => by cases z) (fun _ z => z) (fun _ z => z)) (by decide)) q2 (GC_wl gc) k3
        exact (cl56x cx' hN m).1 (wl w2 139 r) U2 C2 0 0 ow3 kd3 ks2 iv2 ⟨fun _ => by rw [L_wl, if_pos rfl]; exact ⟨q3, q4⟩, fun z => absurd e2 z⟩ (Nat.zero_le _) (fun z => by have := gc.2.2.2.2.2.1.2 z; exact this) (fun z => by have := gc.2.2.2.2.2.1.1 z.symm; omega) (by omega)
      · rw [decide_eq_false e2, br_fq]
        unfold fb_M_clear_202
        rw [lit0q]
        exact (cl56x cx' hN m).1 w U C 0 0 ow2 kd2 ks iv' ⟨fun z => absurd z e2, fun _ => eh⟩ (Nat.zero_le _) (fun z => by have := v2.2.2.2.2.2.1.2 z; exact this) (fun z => by have := v2.2.2.2.2.2.1.1 z.symm; omega) (by omega)
    · have e30 : (30 : Int32) = I 30 := rfl
      rw [decide_eq_false (by omega), br_fq, e30, I_mul, I_add, inb_at (k := 107) (n := 720) rfl (by omega) (by omega) (by decide), ck_t, I_tn (by omega) (by omega), show ((p : Int) * 30 + (x : Int)).toNat = 30 * p + x from by omega, ((v6 (30 * p + x)).2 (by omega))]
      refine ok_bnd.mpr (ok_mono (carried_ok (N := N) x2 x3 (show p < 25 by omega) ehp (x10 x (by omega)) v2 hN) (fun w2 r hq => ?_))
      obtain ⟨q1, q2, q3, q4, q5, U2, C2, ow3, kd3, ks2, k1, k2, k3, k4, gc⟩ := hq
      rw [ck_t, lt_e, wj_e, lit1q, I_add]
      have iv2 := IV_st (w2 := w2) iv' cx' (Nat.le_refl _) (Nat.le_refl _) hx (FR.mo q1 (fun _ z => z) (fun _ z => by cases z) (fun _ z => z) (fun _ z => z)) q2 gc k3
      obtain ⟨t1, t2, t3, t4, t5, t6⟩ := iv2
      refine ih (wj w2 107 (30 * p + x) r) U2 C2 (x + 1) ow3 kd3 ks2 ⟨FR.wj t1 (by decide), GC_wj gc (by decide) (by decide), k3, RM_st t4 x3 x8 (fun _ _ _ => rfl) (wj_ne (by decide)), RM_st t5 x3 x9 (fun _ _ _ => rfl) (wj_ne (by decide)), RM_step t6 ⟨q3, q4⟩⟩ (by show w2.2.1 139 = _; rw [q1.2.1 139 (by decide)]; exact eh) (by omega) (by omega)
theorem cl3x (cx : CX u p h n ow kd Fv P opM bnM bxM) (hN : 600 ≤ N) : ∀ (m : Nat) (w : MS) (U C x : Nat) (ow2 kd2 ks : Nat → Nat), IV u p h n ow kd U C 0 ow2 kd2 ks opM x 0 w → w.2.1 139 = u.2.1 139 → x ≤ bnM → (2500 - x) + 2300 < m → OK (fun w2 _ => CLRx u p h n ow kd Fv P opM bnM bxM w2) ((gg_M_clear N m).2.2.1 w (I p) (I x)) := by
  have cx' := cx
  obtain ⟨x1, x2, x3, x4, x5, x6, x7, x8, x9, x10, x11⟩ := cx
  intro m
  induction m with
  | zero => intro w U C x _ _ _ _ _ _ z; exact absurd z (Nat.not_lt_zero _)
  | succ m ih =>
    intro w U C x ow2 kd2 ks iv eh hx hm
    have ehp := IV_hp iv x1
    have iv' := iv
    obtain ⟨v1, v2, v3, v4, v5, v6⟩ := iv
    show OK _ (fb_M_clear_91 N (gg_M_clear N m) w (I p) (I x))
    unfold fb_M_clear_91
    rw [inb_at (k := 94) (n := 24) rfl (by omega) (by omega) (by decide), ck_t, I_tn (by omega) (by omega), Int.toNat_natCast, I_A' (show A w 94 p = bnM from by rw [FR.A v1 (by decide)]; exact x6.1), decI (by omega) (by omega) (by omega) (by omega)]
    by_cases e : bnM ≤ x
    · have ex : x = bnM := by omega
      subst ex
      rw [decide_eq_true (by omega), br_tq, lit0q]
      exact cl4x cx' hN m w U C 0 ow2 kd2 ks iv' eh (Nat.zero_le _) (by omega)
    · have eS : (2500 : Int32) = I 2500 := rfl
      rw [decide_eq_false (by omega), br_fq, eS, I_mul, I_add, inb_at (k := 93) (n := 60000) rfl (by omega) (by omega) (by decide), ck_t, I_tn (by omega) (by omega), show ((p : Int) * 2500 + (x : Int)).toNat = 2500 * p + x from by omega, ((v5 (2500 * p + x)).2 (by omega))]
      refine ok_bnd.mpr (ok_mono (carried_ok (N := N) x2 x3 (show p < 25 by omega) ehp (x9 x (by omega)) v2 hN) (fun w2 r hq => ?_))
      obtain ⟨q1, q2, q3, q4, q5, U2, C2, ow3, kd3, ks2, k1, k2, k3, k4, gc⟩ := hq
      rw [ck_t, lt_e, wj_e, lit1q, I_add]
      have iv2 := IV_st (w2 := w2) iv' cx' (Nat.le_refl _) hx (Nat.zero_le _) (FR.mo q1 (fun _ z => z) (fun _ z => by cases z) (fun _ z => z) (fun _ z => z)) q2 gc k3
      obtain ⟨t1, t2, t3, t4, t5, t6⟩ := iv2
      refine ih (wj w2 93 (2500 * p + x) r) U2 C2 (x + 1) ow3 kd3 ks2 ⟨FR.wj t1 (by decide), GC_wj gc (by decide) (by decide), k3, RM_st t4 x3 x8 (fun _ _ _ => rfl) (wj_ne (by decide)), RM_step t5 ⟨q3, q4⟩, RM_st (n := n) (ow := ow) (kd := kd) (P := P) t6 x3 (fun i hi => by omega) (fun _ _ _ => rfl) (wj_ne (by decide))⟩ (by show w2.2.1 139 = _; rw [q1.2.1 139 (by decide)]; exact eh) (by omega) (by omega)
theorem cl2x (cx : CX u p h n ow kd Fv P opM bnM bxM) (hN : 600 ≤ N) : ∀ (m : Nat) (w : MS) (U C x : Nat) (ow2 kd2 ks : Nat → Nat), IV u p h n ow kd U C 0 ow2 kd2 ks x 0 0 w → w.2.1 139 = u.2.1 139 → x ≤ opM → (46000 - x) + 4900 < m → OK (fun w2 _ => CLRx u p h n ow kd Fv P opM bnM bxM w2) ((gg_M_clear N m).2.1 w (I p) (I x)) := by
  have cx' := cx
  obtain ⟨x1, x2, x3, x4, x5, x6, x7, x8, x9, x10, x11⟩ := cx
  intro m
  induction m with
  | zero => intro w U C x _ _ _ _ _ _ z; exact absurd z (Nat.not_lt_zero _)
  | succ m ih =>
    intro w U C x ow2 kd2 ks iv eh hx hm
    have ehp := IV_hp iv x1
    have iv' := iv
    obtain ⟨v1, v2, v3, v4, v5, v6⟩ := iv
    show OK _ (fb_M_clear_44 N (gg_M_clear N m) w (I p) (I x))
    unfold fb_M_clear_44
    rw [inb_at (k := 92) (n := 24) rfl (by omega) (by omega) (by decide), ck_t, I_tn (by omega) (by omega), Int.toNat_natCast, I_A' (show A w 92 p = opM from by rw [FR.A v1 (by decide)]; exact x5.1), decI (by omega) (by omega) (by omega) (by omega)]
    by_cases e : opM ≤ x
    · have ex : x = opM := by omega
      subst ex
      rw [decide_eq_true (by omega), br_tq, lit0q]
      exact cl3x cx' hN m w U C 0 ow2 kd2 ks iv' eh (Nat.zero_le _) (by omega)
    · have eS : (46000 : Int32) = I 46000 := rfl
      rw [decide_eq_false (by omega), br_fq, eS, I_mul, I_add, inb_at (k := 91) (n := 1104000) rfl (by omega) (by omega) (by decide), ck_t, I_tn (by omega) (by omega), show ((p : Int) * 46000 + (x : Int)).toNat = 46000 * p + x from by omega, ((v4 (46000 * p + x)).2 (by omega))]
      refine ok_bnd.mpr (ok_mono (carried_ok (N := N) x2 x3 (show p < 25 by omega) ehp (x8 x (by omega)) v2 hN) (fun w2 r hq => ?_))
      obtain ⟨q1, q2, q3, q4, q5, U2, C2, ow3, kd3, ks2, k1, k2, k3, k4, gc⟩ := hq
      rw [ck_t, lt_e, wj_e, lit1q, I_add]
      have iv2 := IV_st (w2 := w2) iv' cx' hx (Nat.zero_le _) (Nat.zero_le _) (FR.mo q1 (fun _ z => z) (fun _ z => by cases z) (fun _ z => z) (fun _ z => z)) q2 gc k3
      obtain ⟨t1, t2, t3, t4, t5, t6⟩ := iv2
      refine ih (wj w2 91 (46000 * p + x) r) U2 C2 (x + 1) ow3 kd3 ks2 ⟨FR.wj t1 (by decide), GC_wj gc (by decide) (by decide), k3, RM_step t4 ⟨q3, q4⟩, RM_st (n := n) (ow := ow) (kd := kd) (P := P) t5 x3 (fun i hi => by omega) (fun _ _ _ => rfl) (wj_ne (by decide)), RM_st (n := n) (ow := ow) (kd := kd) (P := P) t6 x3 (fun i hi => by omega) (fun _ _ _ => rfl) (wj_ne (by decide))⟩ (by show w2.2.1 139 = _; rw [q1.2.1 139 (by decide)]; exact eh) (by omega) (by omega)
theorem cl1x (cx : CX u p h n ow kd Fv P opM bnM bxM) (hN : 600 ≤ N) : ∀ (m x : Nat) (w : MS), FR [136, 138] [] [90, 135] [] u w → F w 136 = 0 → F w 138 = 0 → (∀ k, k < x → A w 135 k = -1) → x ≤ 500 → (500 - x) + 51000 < m → OK (fun w2 _ => CLRx u p h n ow kd Fv P opM bnM bxM w2) ((gg_M_clear N m).1 w (I p) (I x)) := by
  intro m
  induction m with
  | zero => intro x w _ _ _ _ _ z; exact absurd z (Nat.not_lt_zero _)
  | succ m ih =>
    intro x w f1 f2 f3 f4 hx hm
    show OK _ (fb_M_clear_22 N (gg_M_clear N m) w (I p) (I x))
    unfold fb_M_clear_22
    rw [lit500, decI (by omega) (by omega) (by omega) (by omega)]
    by_cases e : 500 ≤ x
    · rw [decide_eq_true (by omega), br_tq, lit0q]
      have gc : GC h n ow kd w 0 0 0 (fun _ => 0) (fun _ => 0) (fun _ => 0) := by
        refine ⟨⟨f2, f3, Nat.le_refl _, Nat.le_refl _⟩, fun k hk => Or.inl (f4 k (by omega)), fun k hk z => absurd (f4 k (by omega)) z, Nat.zero_le _, fun i hi => absurd hi (Nat.not_lt_zero _), ⟨fun _ => rfl, fun z => absurd z (Nat.not_lt_zero _)⟩, fun k hk z => absurd (f4 k (by omega)) z, fun k hk z => absurd (f4 k (by omega)) z⟩
      refine cl2x cx hN m w 0 0 0 _ _ _ ⟨FR.mo f1 (fun _ z => z) (fun _ z => by cases z) (fun _ z => z) (fun _ z => by cases z), gc, by omega, RM_0 (f1.2.2.2 91 (by decide)), RM_0 (f1.2.2.2 93 (by decide)), RM_0 (f1.2.2.2 107 (by decide))⟩ (f1.2.1 139 (by decide)) (Nat.zero_le _) (by omega)
    · rw [decide_eq_false (by omega), br_fq, inb_at (k := 135) (n := 500) rfl (by omega) (by omega) (by decide), ck_t, lt_e, I_tn (by omega) (by omega), Int.toNat_natCast, litm1q, wa_e, lit1q, I_add]
      refine ih (x + 1) (wa w 135 x (-1)) (FR.wa f1 (by decide)) f2 f3 (fun k hk => ?_) (by omega) (by omega)
      rw [A_wa (by omega) (by omega), if_pos rfl]
      by_cases e2 : k = x
      · rw [if_pos e2]
      · rw [if_neg e2]; exact f4 k (by omega)
theorem clear_x (cx : CX u p h n ow kd Fv P opM bnM bxM) (hN : 60000 ≤ N) : OK (fun w2 _ => CLRx u p h n ow kd Fv P opM bnM bxM w2) (fm_M_clear N u (I p)) := by
  have x4 := cx.2.2.2.1
  unfold fm_M_clear fb_M_clear_0
  rw [inb_at (k := 90) (n := 24) rfl (by omega) (by omega) (by decide), ck_t, ck_t, lt_e, I_tn (by omega) (by omega), Int.toNat_natCast, I_A, lit1q, I_add, wa_e, lt_e, lit0q, wi_e, lt_e, wi_e]
  exact cl1x cx (by omega) N 0 _ (FR.wi (FR.wi (FR.wa FR.rf (by decide)) (by decide)) (by decide)) (by rw [F_wi (by omega) (by omega), if_neg (by decide), F_wi (by omega) (by omega), if_pos rfl]) (by rw [F_wi (by omega) (by omega), if_pos rfl]) (fun k hk => absurd hk (Nat.not_lt_zero _)) (by omega) (by omega)
end
end
section
set_option maxRecDepth 100000
theorem pigU : ∀ {V U : Nat} {r : Nat → Nat → Prop}, (∀ c, c < U → ∃ e, e < V ∧ r c e) → (∀ c c2 e, c < U → c2 < U → r c e → r c2 e → c = c2) → U ≤ V
  | 0, U, r, h1, _ => by
    cases U with
    | zero => exact Nat.le_refl _
    | succ U =>
      obtain ⟨e, he, _⟩ := h1 0 (by omega)
      omega
  | V + 1, U, r, h1, h2 => by
    by_cases z : ∃ c0, c0 < U ∧ r c0 V
    · obtain ⟨c0, hc0, rc0⟩ := z
      have k := pigU (V := V) (U := U - 1) (r := fun c e => r (if c < c0 then c else c + 1) e) (fun c hc => by
        have hl : (if c < c0 then c else c + 1) < U := by split <;> omega
        obtain ⟨e, he, re⟩ := h1 _ hl
        refine ⟨e, ?_, re⟩
        by_cases y : e = V
        · subst y
          have := h2 _ _ _ hl hc0 re rc0
          split at this <;> omega
        · omega) (fun c c2 e hc hc2 r1 r2 => by
        have hl : (if c < c0 then c else c + 1) < U := by split <;> omega
        have hl2 : (if c2 < c0 then c2 else c2 + 1) < U := by split <;> omega
        have := h2 _ _ e hl hl2 r1 r2
        split at this <;> split at this <;> omega)
      omega
    · have k := pigU (V := V) (U := U) (r := r) (fun c hc => by
        obtain ⟨e, he, re⟩ := h1 c hc
        refine ⟨e, ?_, re⟩
        by_cases y : e = V
        · subst y
          exact absurd ⟨c, hc, re⟩ z
        · omega) h2
      omega
def MVc (U : Nat) (src : Nat → Int64) (bs : Nat → Nat) (t : Int64) (a : Nat) : Prop := a < U ∧ bs a = a ∧ src a = t
def b2x (b : Int → Nat → Nat → Prop) (U : Nat) (src : Nat → Int64) (bs : Nat → Nat) (fd : Int64 → Int64) (R : Int64 → Prop) : Int → Nat → Nat → Prop := fun k a c => ∃ t x, (isH t ∧ so t = k ∧ RTb b t x) ∧ MVc U src bs t a ∧ R x ∧ c = vn (fd x)
section
variable {b : Int → Nat → Nat → Prop} {h h' d d' : Nat → Int64} {n n' U U' : Nat} {t x y t2 x2 : Int64} {ow kd ow' kd' ow2 kd2 bs : Nat → Nat} {Fv Fv' : Int64 → Int64 → Prop} {P P' T T' R : Int64 → Prop} {src : Nat → Int64} {fd : Int64 → Int64}
theorem RTb_x (j : IJb b) (z : isH t) (r1 : RTb b t x) (r2 : RTb b t y) : x = y := by
  obtain ⟨⟨-, v1⟩, q1⟩ := RTb_h r1 z
  obtain ⟨⟨-, v2⟩, q2⟩ := RTb_h r2 z
  have e := (j _ _ _ _ _ _ q1 q2).mp rfl
  refine t_ext ((RTb_so r1).trans (RTb_so r2).symm) ?_
  unfold vn at e
  omega
theorem RTb_t (j : IJb b) (z : isH t) (e0 : so t = so t2) (r1 : RTb b t x) (r2 : RTb b t2 x2) (e : vn x = vn x2) : t = t2 := by
  have z2 : isH t2 := by unfold isH; rw [← e0]; exact z
  obtain ⟨⟨v1, -⟩, q1⟩ := RTb_h r1 z
  obtain ⟨⟨v2, -⟩, q2⟩ := RTb_h r2 z2
  have e := (j _ _ _ _ _ _ q1 q2).mpr e
  refine t_ext e0 ?_
  unfold vn at e
  omega
theorem GT_eq (z : isH t) (g1 : GT n ow kd P t) (g2 : GT n ow kd P t2) (z2 : isH t2) (e : vn t = vn t2) : t = t2 := by
  rcases g1 with y | ⟨-, a1, a2, a3, a4⟩
  · exact absurd z y.1
  rcases g2 with y | ⟨-, c1, c2, c3, c4⟩
  · exact absurd z2 y.1
  rw [e] at a4
  refine t_ext (a4.symm.trans c4) ?_
  unfold vn at e
  omega
theorem mv_c (s : ISb b h n h' n') (g : HPc h n ow kd Fv P) (c : CPc h n (owR h n ow kd P T) kd P d 0 U U src bs) (hm : HOM h' n' ow' kd' d' U' ow2 kd2 P' fd R) (hr : ∀ t, isH t → T t → ∃ x, RTb b t x ∧ R x ∧ GT n ow kd P t) {a : Nat} (ha : a < U) (hb : bs a = a) : ∃ x, RTb b (src a) x ∧ R x := by
  obtain ⟨-, c2, -⟩ := c
  obtain ⟨-, -, -, z, gt, -⟩ := c2 a (Nat.zero_le _) ha
  rw [hb] at z gt
  obtain ⟨g1, g2⟩ := GT_R gt
  have key := g2 z (fun e => ∃ t x, (isH t ∧ vn t = e ∧ GT n ow kd P t) ∧ RTb b t x ∧ R x) (fun t zt ht => by
    obtain ⟨x, x1, x2, x3⟩ := hr t zt ht
    exact ⟨t, x, ⟨zt, rfl, x3⟩, x1, x2⟩) (fun t zt gt ⟨t1, x, ⟨y1, y2, y3⟩, y4, y5⟩ j h1 h2 zj => by
    have e := GT_eq y1 y3 gt zt y2
    subst e
    obtain ⟨⟨e1, -⟩, e2, -⟩ := s.1 t1 x y1 y4
    have r := e2 j h1 h2
    have zx : isH x := (RTb_isH y4).mpr y1
    have q := (hm.2 x zx y5).2.2.2.2.2 j (by rw [RTb_prt y4]; exact h1) (by rw [e1]; exact h2)
    exact ⟨_, _, ⟨zj, rfl, (HP_bkc g y1 y3).2 j h1 h2⟩, r, q.2 ((RTb_isH r).mpr zj)⟩)
  obtain ⟨t1, x, ⟨y1, y2, y3⟩, y4, y5⟩ := key
  have e := GT_eq y1 y3 g1 z y2
  rw [e] at y4
  exact ⟨x, y4, y5⟩
theorem mv_m (s : ISb b h n h' n') (g' : HP h' n' ow' kd' Fv' P') (c : CPc h n (owR h n ow kd P T) kd P d 0 U U src bs) (hm : HOM h' n' (owR h' n' ow' kd' P' T') kd' d' U' ow2 kd2 P' fd R) (hr : ∀ x, isH x → T' x → ∃ t a, RTb b t x ∧ MVc U src bs t a ∧ GT n' ow' kd' P' x) (z : isH x) (rx : R x) : ∃ t a, RTb b t x ∧ MVc U src bs t a := by
  have gt := (hm.2 x z rx).1
  obtain ⟨g1, g2⟩ := GT_R gt
  have key := g2 z (fun e => ∃ x t a, (isH x ∧ vn x = e ∧ GT n' ow' kd' P' x) ∧ RTb b t x ∧ MVc U src bs t a) (fun x zx hx => by
    obtain ⟨t, a, x1, x2, x3⟩ := hr x zx hx
    exact ⟨x, t, a, ⟨zx, rfl, x3⟩, x1, x2⟩) (fun x zx gx ⟨x1, t, a, ⟨y1, y2, y3⟩, y4, y5⟩ j h1 h2 zj => by
    have e := GT_eq y1 y3 gx zx y2
    subst e
    have zt : isH t := (RTb_isH y4).mp y1
    obtain ⟨⟨e1, -⟩, e2, -⟩ := s.1 t x1 zt y4
    have h1' : prt t ≤ j := by rw [← RTb_prt y4]; exact h1
    have h2' : j < blk h t := by rw [← e1]; exact h2
    have r := e2 j h1' h2'
    obtain ⟨a1, a2, a3⟩ := y5
    obtain ⟨-, c2, c3⟩ := c
    obtain ⟨-, -, -, -, -, -, k6, k7⟩ := c2 a (Nat.zero_le _) a1
    rw [a2, a3] at k6 k7
    have kb := k7 j h2'
    have ex : xcO h src bs (a + j) = h (vn t + j) := by
      unfold xcO
      rw [kb, a3, Nat.add_sub_cancel_left]
    have zj2 : isH (h (vn t + j)) := (RTb_isH r).mp zj
    obtain ⟨-, q2⟩ := c3 (a + j) (Nat.zero_le _) (by omega)
    rw [ex] at q2
    obtain ⟨-, b1, -, -, b2, b3, b4⟩ := (q2 zj2).2 (by omega)
    exact ⟨_, _, b1, ⟨zj, rfl, (HP_bk g' y1 y3).2 j h1 h2⟩, r, b2, b3, b4⟩)
  obtain ⟨x1, t, a, ⟨y1, y2, y3⟩, y4, y5⟩ := key
  have e := GT_eq y1 y3 g1 z y2
  rw [e] at y4
  exact ⟨t, a, y4, y5⟩
theorem blk_sv {h : Nat → Int64} (e1 : so t = so x) (e2 : vn t = vn x) : blk h t = blk h x := by unfold blk; rw [e1, e2]
theorem b2x_r (j : IJb b) (hm : HOM h' n' ow' kd' d' U' ow2 kd2 P' fd R) (r : RTb b t x) (rt : RTO U src bs t t2) (rx : isH x → R x) : RTb (b2x b U src bs fd R) t2 (fd x) := by
  rcases rt with ⟨z, e⟩ | ⟨z, e1, a, e2, e3, e4, e5⟩
  · have ex := RTb_n r z
    rw [e, ex, hm.1 t z]
    exact RTb_lit z (RTb_nil r)
  · have zx := (RTb_isH r).mpr z
    have q := hm.2 x zx (rx zx)
    have zx2 : isH (fd x) := by unfold isH; rw [q.2.1]; exact zx
    have v0 : 0 ≤ va (fd x) := by
      rcases q.2.2.1 with y | y
      · exact absurd zx2 y.1
      · exact y.2.1
    have ea : vn t2 = a := by unfold vn; rw [e2]; omega
    refine Or.inr ⟨by unfold isH; rw [e1]; exact z, by rw [q.2.1, e1, RTb_so r], ⟨by omega, v0⟩, t, x, ⟨z, e1.symm, r⟩, ⟨by rw [ea]; exact e3, by rw [ea]; exact e4, by rw [ea]; exact e5⟩, rx zx, rfl⟩
theorem clear_iso (s : ISb b h n h' n') (hn : n ≤ 1000 ∧ n' ≤ 1000) (g : HPc h n ow kd Fv P) (hF : FVc Fv) (g' : HP h' n' ow' kd' Fv' P') (c : CPc h n (owR h n ow kd P T) kd P d 0 U U src bs) (cU : U ≤ n) (ci : ∀ x y, x < U → y < U → bs x = x → bs y = y → vn (src x) = vn (src y) → x = y)
    (hm : HOM h' n' (owR h' n' ow' kd' P' T') kd' d' U' ow2 kd2 P' fd R) (hb : ∀ t, isH t → R t → vn (fd t) + blk d' (fd t) ≤ U' ∧ ∀ j, j < blk d' (fd t) → ow2 (vn (fd t) + j) = vn (fd t)) (mU : U' ≤ n') (mi : ∀ t1 t2, isH t1 → isH t2 → R t1 → R t2 → vn (fd t1) = vn (fd t2) → vn t1 = vn t2) (mt : ∀ x, x < U' → ∃ t, isH t ∧ R t ∧ vn (fd t) ≤ x ∧ x < vn (fd t) + blk d' (fd t))
    (hr : ∀ t, isH t → T t → ∃ x, RTb b t x ∧ R x ∧ GT n ow kd P t) (hr' : ∀ x, isH x → T' x → ∃ t a, RTb b t x ∧ MVc U src bs t a ∧ GT n' ow' kd' P' x) : ISb (b2x b U src bs fd R) d U d' U' ∧ U = U' := by
  have A1 : ∀ {a : Nat}, a < U → bs a = a → ∃ x, RTb b (src a) x ∧ R x := fun ha hb => mv_c s g c hm hr ha hb
  have B1 : ∀ {x : Int64}, isH x → R x → ∃ t a, RTb b t x ∧ MVc U src bs t a := fun z rx => mv_m s g' c hm hr' z rx
  have gR : HPc h n (owR h n ow kd P T) kd Fv P := HPc_R g
  have cc := c
  obtain ⟨-, c2, c3⟩ := c
  have blkc : ∀ {t t2 : Int64} {a : Nat}, MVc U src bs t a → so t2 = so t → va t2 = ((a : Nat) : Int) → blk d t2 = blk h t := fun {t t2 a} ha e1 e2 => by
    obtain ⟨a1, a2, a3⟩ := ha
    obtain ⟨-, -, -, z, gt, -⟩ := c2 a (Nat.zero_le _) a1
    rw [a2, a3] at z gt
    obtain ⟨f, sz, q⟩ := HP_szc gR gt
    rw [← a3] at q e1
    rw [← a3]
    exact (CPc_sz (owd := fun _ => 0) (kdd := fun _ => 0) gR hF cc f a t2 sz (Nat.zero_le _) a1 a2 e1 e2 q).2.1
  have isb : ISb (b2x b U src bs fd R) d U d' U' := by
    refine ⟨fun t2 x2 z2 r2 => ?_, fun k l a e a2 e2 q1 q2 => ?_, fun k a e q => ?_⟩
    · obtain ⟨⟨v1, v2⟩, t, x, ⟨z, et, r⟩, mv, rx, ec⟩ := RTb_h r2 z2
      have zx := (RTb_isH r).mpr z
      have q := hm.2 x zx rx
      have e1 : blk d t2 = blk h t := blkc mv et.symm (vn_e v1)
      have ex : so x2 = so (fd x) := by rw [RTb_so r2, q.2.1, RTb_so r, et]
      have e2 : blk d' x2 = blk d' (fd x) := blk_sv ex ec
      obtain ⟨⟨e3, -⟩, e4, e5⟩ := s.1 t x z r
      obtain ⟨m1, m2, m3⟩ := mv
      obtain ⟨-, -, -, -, -, -, k6, k7⟩ := c2 (vn t2) (Nat.zero_le _) m1
      rw [m2, m3] at k6 k7
      have hbx := (hb x zx rx).1
      have bp := blk_pos (h := h) z
      have pe : prt t2 = prt t := prt_so et.symm
      refine ⟨⟨by rw [e2, q.2.2.2.1, e3, e1], by omega, by rw [ec, e1]; rw [q.2.2.2.1, e3] at hbx; exact hbx⟩, fun j h1 h2 => ?_, fun e => ?_⟩
      · rw [pe] at h1
        rw [e1] at h2
        have kb := k7 j h2
        have exc : xcO h src bs (vn t2 + j) = h (vn t + j) := by
          unfold xcO
          rw [kb, m3, Nat.add_sub_cancel_left]
        have rj := e4 j h1 h2
        have fj := q.2.2.2.2.2 j (by rw [RTb_prt r]; exact h1) (by rw [e3]; exact h2)
        obtain ⟨y1, y2⟩ := c3 (vn t2 + j) (Nat.zero_le _) (by omega)
        rw [exc] at y1 y2
        rw [ec, fj.1]
        refine b2x_r s.2.1 hm rj ?_ fj.2
        by_cases zj : isH (h (vn t + j))
        · obtain ⟨f1, b1, f2, -, f3, f4, f5⟩ := (y2 zj).2 (by omega)
          exact Or.inr ⟨zj, f1, b1, f2, f3, f4, f5⟩
        · exact Or.inl ⟨zj, y1 zj⟩
      · have e30 : so t = 3 := by rw [et]; exact e
        have gt := (c2 (vn t2) (Nat.zero_le _) m1).2.2.2.2.1
        rw [m2, m3] at gt
        have bk := (HP_bkc gR z gt).1
        have nh : ¬ isH (h (vn t + 0)) := head_nh bk z hF.1 (by unfold prt; rw [e30]; decide)
        have exc : xcO h src bs (vn t2) = h (vn t) := by
          unfold xcO
          rw [m2, m3, Nat.sub_self]
          rfl
        have y1 := (c3 (vn t2) (Nat.zero_le _) m1).1
        rw [exc] at y1
        have hd0 := q.2.2.2.2.1 0 (by unfold prt; rw [RTb_so r, e30]; decide)
        have hd0 : d' (vn (fd x)) = h' (vn x) := hd0
        rw [y1 nh, ec, hd0]
        exact e5 e30
    · obtain ⟨t, x, ⟨z, et, r⟩, ⟨m1, m2, m3⟩, rx, ec⟩ := q1
      obtain ⟨t', x', ⟨z', et', r'⟩, ⟨m1', m2', m3'⟩, rx', ec'⟩ := q2
      have zx := (RTb_isH r).mpr z
      have zx' := (RTb_isH r').mpr z'
      constructor
      · intro ea
        subst ea
        have : t = t' := m3.symm.trans m3'
        subst this
        rw [ec, ec', RTb_x s.2.1 z r r']
      · intro ee
        have ev := mi x x' zx zx' rx rx' (by rw [← ec, ← ec']; exact ee)
        have ew : vn t = vn t' := (s.2.1 _ _ _ _ _ _ (RTb_h r z).2 (RTb_h r' z').2).mpr ev
        exact ci a a2 m1 m1' m2 m2' (by rw [m3, m3']; exact ew)
    · obtain ⟨t, x, ⟨z, et, r⟩, ⟨m1, m2, m3⟩, rx, ec⟩ := q
      have zx := (RTb_isH r).mpr z
      have zf : isH (fd x) := by unfold isH; rw [(hm.2 x zx rx).2.1]; exact zx
      have := (hb x zx rx).1
      have bp := blk_pos (h := d') zf
      exact ⟨by rw [← et]; exact z, by omega, by omega⟩
  refine ⟨isb, Nat.le_antisymm ?_ ?_⟩
  · refine pigU (r := fun c e => ∃ x, RTb b (src (bs c)) x ∧ R x ∧ e = vn (fd x) + (c - bs c)) (fun c hc => ?_) (fun c1 c1' e h1 h1' r1 r1' => ?_)
    · obtain ⟨-, k2, k3, z, gt, k5, k6, -⟩ := c2 c (Nat.zero_le _) hc
      obtain ⟨x, r, rx⟩ := A1 (a := bs c) (by omega) k3
      have zx := (RTb_isH r).mpr z
      obtain ⟨⟨e3, -⟩, -⟩ := s.1 _ x z r
      have hbx := (hb x zx rx).1
      rw [(hm.2 x zx rx).2.2.2.1, e3] at hbx
      exact ⟨vn (fd x) + (c - bs c), by omega, x, r, rx, rfl⟩
    · obtain ⟨x, r, rx, ee⟩ := r1
      obtain ⟨x', r', rx', ee'⟩ := r1'
      obtain ⟨-, k2, k3, z, gt, k5, k6, -⟩ := c2 c1 (Nat.zero_le _) h1
      obtain ⟨-, k2', k3', z', gt', k5', k6', -⟩ := c2 c1' (Nat.zero_le _) h1'
      have zx := (RTb_isH r).mpr z
      have zx' := (RTb_isH r').mpr z'
      obtain ⟨⟨e3, -⟩, -⟩ := s.1 _ x z r
      obtain ⟨⟨e3', -⟩, -⟩ := s.1 _ x' z' r'
      have o1 := (hb x zx rx).2 (c1 - bs c1) (by rw [(hm.2 x zx rx).2.2.2.1, e3]; omega)
      have o2 := (hb x' zx' rx').2 (c1' - bs c1') (by rw [(hm.2 x' zx' rx').2.2.2.1, e3']; omega)
      rw [← ee] at o1
      rw [← ee'] at o2
      have ev := mi x x' zx zx' rx rx' (by rw [← o1, ← o2])
      have ew : vn (src (bs c1)) = vn (src (bs c1')) := (s.2.1 _ _ _ _ _ _ (RTb_h r z).2 (RTb_h r' z').2).mpr ev
      have eb := ci (bs c1) (bs c1') (by omega) (by omega) k3 k3' ew
      omega
  · refine pigU (r := fun e c => ∃ x t a, (isH x ∧ R x ∧ vn (fd x) ≤ e ∧ e < vn (fd x) + blk d' (fd x)) ∧ RTb b t x ∧ MVc U src bs t a ∧ c = a + (e - vn (fd x))) (fun e he => ?_) (fun e1 e1' c1 h1 h1' r1 r1' => ?_)
    · obtain ⟨x, zx, rx, l1, l2⟩ := mt e he
      obtain ⟨t, a, r, mv⟩ := B1 zx rx
      have z := (RTb_isH r).mp zx
      obtain ⟨⟨e3, -⟩, -⟩ := s.1 t x z r
      have l2' := l2
      rw [(hm.2 x zx rx).2.2.2.1, e3] at l2'
      have k6 := (c2 a (Nat.zero_le _) mv.1).2.2.2.2.2.2.1
      rw [mv.2.1, mv.2.2] at k6
      exact ⟨a + (e - vn (fd x)), by omega, x, t, a, ⟨zx, rx, l1, l2⟩, r, mv, rfl⟩
    · obtain ⟨x, t, a, ⟨zx, rx, l1, l2⟩, r, mv, ec⟩ := r1
      obtain ⟨x', t', a', ⟨zx', rx', l1', l2'⟩, r', mv', ec'⟩ := r1'
      have z := (RTb_isH r).mp zx
      have z' := (RTb_isH r').mp zx'
      obtain ⟨⟨e3, -⟩, -⟩ := s.1 t x z r
      obtain ⟨⟨e3', -⟩, -⟩ := s.1 t' x' z' r'
      rw [(hm.2 x zx rx).2.2.2.1, e3] at l2
      rw [(hm.2 x' zx' rx').2.2.2.1, e3'] at l2'
      have k7 := (c2 a (Nat.zero_le _) mv.1).2.2.2.2.2.2.2
      have k7' := (c2 a' (Nat.zero_le _) mv'.1).2.2.2.2.2.2.2
      rw [mv.2.1, mv.2.2] at k7
      rw [mv'.2.1, mv'.2.2] at k7'
      have b1 := k7 (e1 - vn (fd x)) (by omega)
      have b2 := k7' (e1' - vn (fd x')) (by omega)
      rw [← ec] at b1
      rw [← ec'] at b2
      have ea : a = a' := b1.symm.trans b2
      subst ea
      have et : t = t' := mv.2.2.symm.trans mv'.2.2
      subst et
      have exx := RTb_x s.2.1 z r r'
      subst exx
      omega
end
end
section
set_option maxRecDepth 100000
def PTRc (d : Nat → Int64) (s0 U i : Nat) (bs : Nat → Nat) : Prop := (∀ c, s0 ≤ c → c < i → isH (d c) → s0 < vn (d c) ∧ vn (d c) < U ∧ c < vn (d c)) ∧ (∀ c1 c2, s0 ≤ c1 → c1 < c2 → c2 < i → isH (d c1) → isH (d c2) → vn (d c1) < vn (d c2)) ∧ ∀ a, s0 < a → a < U → bs a = a → ∃ c, s0 ≤ c ∧ c < i ∧ isH (d c) ∧ vn (d c) = a
def CPXc (h : Nat → Int64) (n : Nat) (ow kd : Nat → Nat) (P : Int64 → Prop) (d : Nat → Int64) (s0 s : Nat) (t r : Int64) : Prop := ∃ src bs, CPc h n ow kd P d s0 (s0 + s) (s0 + s) src bs ∧ PTRc d s0 (s0 + s) (s0 + s) bs ∧ 0 < s ∧ bs s0 = s0 ∧ src s0 = t ∧ so r = so t ∧ va r = ((s0 : Nat) : Int)
section
variable {h d0 d d2 : Nat → Int64} {n N b s0 q s U i m : Nat} {ow kd owd kdd bs : Nat → Nat} {Fv : Int64 → Int64 → Prop} {P : Int64 → Prop} {u v w u0 : MS} {t x y : Int64}
theorem PTR_add (p : PTRc d s0 U i bs) (h6 : s0 ≤ i) (hi : i < U) (e1 : isH (d2 i)) (e2 : va (d2 i) = ((U : Nat) : Int)) (e3 : ∀ k, s0 ≤ k → k < U → k ≠ i → d2 k = d k) (hm : 0 < m) : PTRc d2 s0 (U + m) (i + 1) (fun k => if U ≤ k then U else bs k) := by
  obtain ⟨p1, p2, p3⟩ := p
  have ev : vn (d2 i) = U := by unfold vn; rw [e2]; omega
  have old : ∀ c, s0 ≤ c → c < i → d2 c = d c := fun c a1 a2 => e3 c a1 (by omega) (by omega)
  refine ⟨fun c a1 a2 z => ?_, fun c1 c2 a1 a2 a3 z1 z2 => ?_, fun a a1 a2 a3 => ?_⟩
  · by_cases e : c = i
    · subst e; rw [ev]; omega
    · rw [old c a1 (by omega)] at z ⊢
      have := p1 c a1 (by omega) z
      omega
  · rw [old c1 a1 (by omega)] at z1 ⊢
    by_cases e : c2 = i
    · subst e; rw [ev]; exact (p1 c1 a1 (by omega) z1).2.1
    · rw [old c2 (by omega) (by omega)] at z2 ⊢
      exact p2 c1 c2 a1 a2 (by omega) z1 z2
  · by_cases e : U ≤ a
    · have e9 : (if U ≤ a then U else bs a) = a := a3
      rw [if_pos e] at e9
      exact ⟨i, h6, by omega, e1, by omega⟩
    · have e9 : (if U ≤ a then U else bs a) = a := a3
      rw [if_neg e] at e9
      obtain ⟨c, k1, k2, k3, k4⟩ := p3 a a1 (by omega) e9
      exact ⟨c, k1, by omega, by rw [old c k1 k2]; exact k3, by rw [old c k1 k2]; exact k4⟩
theorem PTR_next (p : PTRc d s0 U i bs) (e1 : ¬ isH (d i)) : PTRc d s0 U (i + 1) bs := by
  obtain ⟨p1, p2, p3⟩ := p
  refine ⟨fun c a1 a2 z => ?_, fun c1 c2 a1 a2 a3 z1 z2 => ?_, fun a a1 a2 a3 => ?_⟩
  · by_cases e : c = i
    · subst e; exact absurd z e1
    · exact p1 c a1 (by omega) z
  · by_cases e : c2 = i
    · subst e; exact absurd z2 e1
    · exact p2 c1 c2 a1 a2 (by omega) z1 z2
  · obtain ⟨c, k1, k2, k3⟩ := p3 a a1 a2 a3
    exact ⟨c, k1, by omega, k3⟩
theorem PTR_0 : PTRc d s0 U s0 (fun _ => s0) := ⟨fun c a1 a2 _ => by omega, fun c1 c2 a1 a2 a3 _ _ => by omega, fun a a1 _ a3 => by have a3 : s0 = a := a3; omega⟩
def CISx (h : Nat → Int64) (n : Nat) (ow kd : Nat → Nat) (Fv : Int64 → Int64 → Prop) (P : Int64 → Prop) (q b s0 s : Nat) (d0 : Nat → Int64) (t : Int64) (u0 w : MS) (i : Nat) (cp : Int64) : Prop :=
  ∃ (U : Nat) (src : Nat → Int64) (bs z : Nat → Nat), FR [pq q 4] [] [] [pq q 2] u0 w ∧ F w (pq q 4) = ((U : Nat) : Int) ∧ CPc h n ow kd P (w.2.2.2 (pq q 2)) s0 U i src bs ∧ (∀ c, i ≤ c → c < U → (isH (xcO h src bs c) → ∃ f, SZc h n ow kd Fv P f (xcO h src bs c) (z c)) ∧ (¬ isH (xcO h src bs c) → z c = 0)) ∧ U + smm z i (U - i) = s0 + s ∧ (∀ k, k < s0 → w.2.2.2 (pq q 2) k = d0 k) ∧ s0 < U ∧ bs s0 = s0 ∧ src s0 = t ∧ so cp = so t ∧ va cp = ((s0 : Nat) : Int) ∧ s0 ≤ i ∧ i ≤ U ∧ PTRc (w.2.2.2 (pq q 2)) s0 U i bs
theorem copy_loopx (g : HPc h n ow kd Fv P) (hF : FVc Fv) (hn : n ≤ 512) (hs : s0 + s ≤ 512) (hb : ∀ c, c < n → u0.2.2.2 b c = h c) (hbq : b = pq q 2 → n ≤ s0 ∧ ∀ k, k < s0 → u0.2.2.2 b k = d0 k) : ∀ (M i : Nat) (w : MS) (cp : Int64), 513 - i < M → CISx h n ow kd Fv P q b s0 s d0 t u0 w i cp → OK (fun w r => ∃ U, CISx h n ow kd Fv P q b s0 s d0 t u0 w U r ∧ U = s0 + s) (hg_Pr_copyIn N M w q b t cp (I s0) (I i)) := by
  intro M
  induction M with
  | zero => intro i w cp z; omega
  | succ M ih =>
    intro i w cp hm hc
    have hc' := hc
    obtain ⟨U, src, bs, z, f, hU, hC, hz, hsum, hd, h1, h2, h3, h4, h5, h6, h7, h8⟩ := hc
    have hrow := src_row hb hbq f hd
    have hUb : U ≤ 512 := by omega
    show OK _ (hb_Pr_copyIn_15 N (hg_Pr_copyIn N M) w q b t cp (I s0) (I i))
    unfold hb_Pr_copyIn_15
    rw [I_F (k := pq q 4), hU]
    refine k_le ⟨by omega, by omega⟩ ⟨by omega, by omega⟩ (fun e => ?_) (fun e => ?_)
    · have ei : i = U := by omega
      subst ei
      rw [Nat.sub_self] at hsum
      have e0 : smm z i 0 = 0 := rfl
      exact ok_some.mpr ⟨i, hc', by omega⟩
    · have hi : i < U := by omega
      refine k_le ⟨by omega, by omega⟩ ⟨by omega, by omega⟩ (fun _ => ?_) (fun e2 => by omega)
      refine e_in ⟨by omega, by omega⟩ (by decide) ?_
      rw [tnI (n := i) rfl (by omega)]
      unfold hb_Pr_copyIn_42 hb_Pr_copyIn_140
      have nextI : I (i : Int) + 1 = I ((i + 1 : Nat) : Int) := by rw [lit1q, I_add]; congr 1
      by_cases hx : isH (w.2.2.2 (pq q 2) i)
      · have hxe := CPc_at hC h6 hi hx
        have gx : GT n ow kd P (w.2.2.2 (pq q 2) i) := by rw [hxe]; exact xcO_gt g hF hC h6 hi (by rw [← hxe]; exact hx)
        obtain ⟨bk, -⟩ := HP_bkc g hx gx
        obtain ⟨bk2, eb⟩ := BK_agree (h2 := w.2.2.2 b) hrow hx bk
        have hbp := blk_pos (h := h) hx
        have hbl := bk.2.2.2.1
        obtain ⟨fz, zz⟩ := (hz i (Nat.le_refl _) hi).1 (by rw [← hxe]; exact hx)
        rw [← hxe] at zz
        obtain ⟨f2, cc, -, zp, ze⟩ := SZ_blkc zz hx
        have hp := prt_le (h := h) hx
        have hcut := smm_cut (c := z) hi
        generalize hX : w.2.2.2 (pq q 2) i = X at *
        have hv := vn_e bk.1
        rw [cellsAt_h rfl hn hx bk2, bnd_so, eb, lit0q]
        refine k_eq ⟨by omega, by omega⟩ ⟨by decide, by decide⟩ (fun e3 => by omega) (fun _ => ?_)
        rw [I_F (k := pq q 4), hU, I_add, I_lit (n := 512)]
        refine k_le ⟨by omega, by omega⟩ ⟨by decide, by decide⟩ (fun _ => ?_) (fun e3 => absurd e3 (by show ¬ (512 : Int) < _; omega))
        refine ok_lt.mpr ?_
        rw [valI, hv]
        refine e_cp ⟨by omega, by omega, by omega, by omega, by omega⟩ (by decide) (by decide) (ok_lt.mpr ?_)
        rw [tnI (n := vn X) rfl (by omega), tnI (n := U) rfl (by omega), tnI (n := blk h X) rfl (by omega)]
        generalize hw9 : upJ w (pq q 2) (va_cpy (w.2.2.2 b) (w.2.2.2 (pq q 2)) (vn X) U (blk h X)) = w9
        have f9 : FR [pq q 4] [] [] [pq q 2] u0 w9 := by rw [← hw9]; exact FR_upJ f (by simp)
        have e9 : w9.1 (pq q 4) = I (U : Int) := by rw [← hw9]; show w.1 (pq q 4) = _; rw [I_F, hU]
        have r9 : w9.2.2.2 (pq q 2) = va_cpy (w.2.2.2 b) (w.2.2.2 (pq q 2)) (vn X) U (blk h X) := by rw [← hw9]; exact upJ_row
        refine ok_lt.mpr ?_
        rw [e9, I_add, wi_e]
        refine k_le ⟨by omega, by omega⟩ ⟨by omega, by omega⟩ (fun _ => ?_) (fun e2 => by omega)
        refine e_in ⟨by omega, by omega⟩ (by decide) (ok_lt.mpr ?_)
        rw [tnI (n := i) rfl (by omega), wj_e, nextI]
        generalize hpt : (((X >>> ((32 : Int32).toInt64 &&& 63)) <<< ((32 : Int32).toInt64 &&& 63)) ||| (I (U : Int)).toInt64) = pt
        have sp : so pt = so X := by rw [← hpt]; exact so_up (by omega) (by omega)
        have vp : va pt = ((U : Nat) : Int) := by rw [← hpt]; exact va_or (by omega) (by omega)
        have rr : ∀ k, (wj (wi w9 (pq q 4) ((U : Int) + (blk h X : Int))) (pq q 2) i pt).2.2.2 (pq q 2) k = if k = i then pt else va_cpy (w.2.2.2 b) (w.2.2.2 (pq q 2)) (vn X) U (blk h X) k := by
          intro k
          rw [wj_row]
          by_cases ek : k = i
          · rw [if_pos ek, if_pos ek]
          · rw [if_neg ek, if_neg ek]
            show w9.2.2.2 (pq q 2) k = _
            rw [r9]
        have hC2 := CPc_add (d2 := (wj (wi w9 (pq q 4) ((U : Int) + (blk h X : Int))) (pq q 2) i pt).2.2.2 (pq q 2)) g hF hC h6 hi (by rw [hX]; exact hx) (fun j hj => by
          rw [hX] at hj ⊢
          rw [rr, if_neg (by omega), cpy_in hj]
          exact hrow _ (by omega)) (by rw [hX, rr, if_pos rfl]; exact ⟨sp, vp⟩) (fun k k1 k2 k3 => by rw [rr, if_neg k3, cpy_out (by omega)])
        rw [hX] at hC2
        have hz2e : ∀ c, U ≤ c → (if U ≤ c then wgt cc (prt X) (c - U) else z c) = wgt cc (prt X) (c - U) := fun c hc => if_pos hc
        refine ih (i + 1) _ cp (by omega) ⟨U + blk h X, _, _, fun c => if U ≤ c then wgt cc (prt X) (c - U) else z c, FR.wj (FR.wi f9 (by simp)) (by simp), ?_, hC2, fun c c1 c2 => ?_, ?_, fun k hk => ?_, by omega, ?_, ?_, h4, h5, by omega, by omega, PTR_add h8 h6 hi (by rw [rr, if_pos rfl]; unfold isH; rw [sp]; exact hx) (by rw [rr, if_pos rfl]; exact vp) (fun k k1 k2 k3 => by rw [rr, if_neg k3, cpy_out (by omega)]) hbp⟩
        · rw [F_wj, F_wi (by omega) (by omega), if_pos rfl]; omega
        · by_cases ec : c < U
          · have hbs := (hC.2.1 c (by omega) ec).2.1
            have hxo : xcO h (fun k => if k = U then X else src k) (fun k => if U ≤ k then U else bs k) c = xcO h src bs c := by
              unfold xcO
              simp only [if_neg (show ¬ U ≤ c by omega), if_neg (show ¬ bs c = U by omega)]
            rw [hxo]
            simp only [if_neg (show ¬ U ≤ c by omega)]
            exact hz c (by omega) ec
          · have hxn : xcO h (fun k => if k = U then X else src k) (fun k => if U ≤ k then U else bs k) c = h (vn X + (c - U)) := by
              unfold xcO
              simp only [if_pos (show U ≤ c by omega), if_true]
            rw [hxn]
            simp only [if_pos (show U ≤ c by omega)]
            unfold wgt
            by_cases ep : c - U < prt X
            · rw [if_pos ep]
              exact ⟨fun y => absurd y (head_nh bk hx hF.1 ep), fun _ => rfl⟩
            · rw [if_neg ep]
              have zc := zp (c - U) (by omega) (by omega)
              exact ⟨fun _ => ⟨f2, zc⟩, fun y => SZ_nhc zc y⟩
        · have e1 := smm_add (c := fun c => if U ≤ c then wgt cc (prt X) (c - U) else z c) (a := i + 1) (x := U - (i + 1)) (y := blk h X)
          rw [show U - (i + 1) + blk h X = U + blk h X - (i + 1) by omega, show i + 1 + (U - (i + 1)) = U by omega] at e1
          have e2 : smm (fun c => if U ≤ c then wgt cc (prt X) (c - U) else z c) (i + 1) (U - (i + 1)) = smm z (i + 1) (U - (i + 1)) := smm_eq (fun j j1 j2 => if_neg (by omega))
          have e3 : smm (fun c => if U ≤ c then wgt cc (prt X) (c - U) else z c) U (blk h X) = smm (wgt cc (prt X)) 0 (blk h X) := by
            have gen : ∀ m, smm (fun c => if U ≤ c then wgt cc (prt X) (c - U) else z c) U m = smm (wgt cc (prt X)) 0 m := by
              intro m
              induction m with
              | zero => rfl
              | succ m ihm =>
                show smm _ U m + (if U ≤ U + m then wgt cc (prt X) (U + m - U) else z (U + m)) = smm _ 0 m + wgt cc (prt X) (0 + m)
                rw [ihm, if_pos (by omega), show U + m - U = 0 + m by omega]
            exact gen _
          have e4 := wgt_sum (d := cc) hp
          omega
        · rw [rr, if_neg (by omega), cpy_out (by omega)]; exact hd k hk
        · show (if U ≤ s0 then U else bs s0) = s0
          rw [if_neg (by omega)]; exact h2
        · show (if s0 = U then X else src s0) = t
          rw [if_neg (by omega)]; exact h3
      · rw [cellsAt_n hx, bnd_so]
        refine ok_br.mpr ⟨fun _ => ?_, fun y => absurd y (by decide)⟩
        rw [nextI]
        have hcut := smm_cut (c := z) hi
        have z0 : z i = 0 := by
          refine (hz i (Nat.le_refl _) hi).2 (fun y => ?_)
          have := ((hC.2.2 i h6 hi).2 y).1 (Nat.le_refl _)
          rw [this] at hx
          exact hx y
        exact ih (i + 1) w cp (by omega) ⟨U, src, bs, z, f, hU, CPc_next hC h6 hi hx, fun c c1 c2 => hz c (by omega) c2, by omega, hd, h1, h2, h3, h4, h5, by omega, by omega, PTR_next h8 hx⟩
theorem copyIn_x {f0 : Nat} (g : HPc h n ow kd Fv P) (hF : FVc Fv) (hn : n ≤ 512) (hs : s0 + s ≤ 512) (hb : ∀ c, c < n → u.2.2.2 b c = h c) (hbq : b = pq q 2 → n ≤ s0) (z : SZc h n ow kd Fv P f0 t s) (hu : F u (pq q 4) = ((s0 : Nat) : Int)) (hN : 600 ≤ N) (hx : isH t) :
    OK (fun w r => CPXc h n ow kd P (w.2.2.2 (pq q 2)) s0 s t r) (hm_Pr_copyIn N u q b t) := by
  unfold hm_Pr_copyIn hb_Pr_copyIn_0
  rw [I_F (k := pq q 4), hu, lit1q, I_sub]
  have gt := SZ_gtc z
  cases N with
  | zero => omega
  | succ M =>
    show OK _ (hb_Pr_copyIn_15 (M + 1) (hg_Pr_copyIn (M + 1) M) u q b t t (I s0) (I ((s0 : Int) - 1)))
    unfold hb_Pr_copyIn_15
    rw [I_F (k := pq q 4), hu]
    refine k_le ⟨by omega, by omega⟩ ⟨by omega, by omega⟩ (fun e => by omega) (fun _ => ?_)
    refine k_le ⟨by omega, by omega⟩ ⟨by omega, by omega⟩ (fun e => by omega) (fun _ => ?_)
    unfold hb_Pr_copyIn_42 hb_Pr_copyIn_140
    have nextI : I ((s0 : Int) - 1) + 1 = I (s0 : Int) := by rw [lit1q, I_add]; congr 1; omega
    · obtain ⟨f2, cc, bk, zp, ze⟩ := SZ_blkc z hx
      obtain ⟨bk2, eb⟩ := BK_agree (h2 := u.2.2.2 b) hb hx bk
      have hbp := blk_pos (h := h) hx
      have hbl := bk.2.2.2.1
      have hp := prt_le (h := h) hx
      have hv := vn_e bk.1
      rw [cellsAt_h rfl hn hx bk2, bnd_so, eb, lit0q]
      refine k_eq ⟨by omega, by omega⟩ ⟨by decide, by decide⟩ (fun e3 => by omega) (fun _ => ?_)
      rw [I_F (k := pq q 4), hu, I_add, I_lit (n := 512)]
      refine k_le ⟨by omega, by omega⟩ ⟨by decide, by decide⟩ (fun _ => ?_) (fun e3 => absurd e3 (by show ¬ (512 : Int) < _; omega))
      refine ok_lt.mpr ?_
      rw [valI, hv]
      refine e_cp ⟨by omega, by omega, by omega, by omega, by omega⟩ (by decide) (by decide) (ok_lt.mpr ?_)
      rw [tnI (n := vn t) rfl (by omega), tnI (n := s0) rfl (by omega), tnI (n := blk h t) rfl (by omega)]
      generalize hw9 : upJ u (pq q 2) (va_cpy (u.2.2.2 b) (u.2.2.2 (pq q 2)) (vn t) s0 (blk h t)) = w9
      have f9 : FR [pq q 4] [] [] [pq q 2] u w9 := by rw [← hw9]; exact FR_upJ FR.rf (by simp)
      have e9 : w9.1 (pq q 4) = I (s0 : Int) := by rw [← hw9]; show u.1 (pq q 4) = _; rw [I_F, hu]
      have r9 : w9.2.2.2 (pq q 2) = va_cpy (u.2.2.2 b) (u.2.2.2 (pq q 2)) (vn t) s0 (blk h t) := by rw [← hw9]; exact upJ_row
      refine ok_lt.mpr ?_
      rw [e9, I_add, wi_e]
      refine k_le ⟨by omega, by omega⟩ ⟨by omega, by omega⟩ (fun e => by omega) (fun _ => ?_)
      rw [nextI]
      generalize hpt : (((t >>> ((32 : Int32).toInt64 &&& 63)) <<< ((32 : Int32).toInt64 &&& 63)) ||| (I (s0 : Int)).toInt64) = pt
      have sp : so pt = so t := by rw [← hpt]; exact so_up (by omega) (by omega)
      have vp : va pt = ((s0 : Nat) : Int) := by rw [← hpt]; exact va_or (by omega) (by omega)
      have rr : (wi w9 (pq q 4) ((s0 : Int) + (blk h t : Int))).2.2.2 (pq q 2) = va_cpy (u.2.2.2 b) (u.2.2.2 (pq q 2)) (vn t) s0 (blk h t) := r9
      have hC := CPc_root (h := h) (n := n) (ow := ow) (kd := kd) (P := P) (d := (wi w9 (pq q 4) ((s0 : Int) + (blk h t : Int))).2.2.2 (pq q 2)) (s0 := s0) hx gt (fun j hj => by rw [rr, cpy_in hj]; exact hb _ (by omega))
      refine ok_mono (copy_loopx (N := M + 1) (u0 := u) (d0 := u.2.2.2 (pq q 2)) g hF hn hs hb (fun e => ⟨hbq e, fun k _ => by rw [e]⟩) M s0 (wi w9 (pq q 4) ((s0 : Int) + (blk h t : Int))) pt (by omega) ⟨s0 + blk h t, _, _, fun c => wgt cc (prt t) (c - s0), FR.wi f9 (by simp), ?_, hC, fun c c1 c2 => ?_, ?_, fun k hk => ?_, by omega, rfl, rfl, sp, vp, Nat.le_refl _, by omega, PTR_0⟩) (fun w r hw => ?_)
      · rw [F_wi (by omega) (by omega), if_pos rfl]; omega
      · have hxn : xcO h (fun _ => t) (fun _ => s0) c = h (vn t + (c - s0)) := rfl
        rw [hxn]
        show (_ → ∃ f, SZc h n ow kd Fv P f _ (wgt cc (prt t) (c - s0))) ∧ (_ → wgt cc (prt t) (c - s0) = 0)
        unfold wgt
        by_cases ep : c - s0 < prt t
        · rw [if_pos ep]
          exact ⟨fun y => absurd y (head_nh bk hx hF.1 ep), fun _ => rfl⟩
        · rw [if_neg ep]
          have zc := zp (c - s0) (by omega) (by omega)
          exact ⟨fun _ => ⟨f2, zc⟩, fun y => SZ_nhc zc y⟩
      · have gen : ∀ m, smm (fun c => wgt cc (prt t) (c - s0)) s0 m = smm (wgt cc (prt t)) 0 m := by
          intro m
          induction m with
          | zero => rfl
          | succ m ihm =>
            show smm _ s0 m + wgt cc (prt t) (s0 + m - s0) = smm _ 0 m + wgt cc (prt t) (0 + m)
            rw [ihm, show s0 + m - s0 = 0 + m by omega]
        have e4 := wgt_sum (d := cc) hp
        rw [show s0 + blk h t - s0 = blk h t by omega, gen]
        omega
      · rw [rr, cpy_out (by omega)]
      · obtain ⟨U, ⟨U2, src, bs, z, f, hU, hC, hz, hsum, hd, h1, h2, h3, h4, h5, h6, h7, h8⟩, hUe⟩ := hw
        have : U2 = s0 + s := by omega
        subst this
        subst hUe
        exact ⟨src, bs, hC, h8, by omega, h2, h3, h4, h5⟩
end
end
section
set_option maxRecDepth 100000
def DNE (hS : Nat → Int64) (many kc jc : Nat) (at' : Nat → Int) (st : Nat → Prop) (src : Nat → Int64) (k j : Nat) : Prop := st k ∧ prt (src k) ≤ j ∧ j < blk hS (src k) ∧ (k = kc → j < jc) ∧ isH (hS (vn (src k) + j)) ∧ ∀ i, i < many → at' i ≠ ((k + j : Nat) : Int)
def UQI (hS : Nat → Int64) (n0 : Nat) (g : Nat → Int64) (cur many kc jc : Nat) (at' : Nat → Int) (st : Nat → Prop) (src : Nat → Int64) : Prop :=
  (∀ k j, DNE hS many kc jc at' st src k j → k < vn (g (k + j)) ∧ vn (g (k + j)) < cur) ∧
  (∀ k j k2 j2, DNE hS many kc jc at' st src k j → DNE hS many kc jc at' st src k2 j2 → vn (g (k + j)) = vn (g (k2 + j2)) → k = k2 ∧ j = j2) ∧
  (∀ k, st k → k ≠ n0 → ∃ k2 j, DNE hS many kc jc at' st src k2 j ∧ vn (g (k2 + j)) = k) ∧
  (∀ i i2, i < many → i2 < many → at' i = at' i2 → i = i2) ∧
  ∀ i, i < many → ∀ k j, st k → j < blk hS (src k) → at' i = ((k + j : Nat) : Int) → k = kc → j < jc
def CPQx (u : MS) (hS : Nat → Int64) (nS : Nat) (owS kdS : Nat → Nat) (Fv : Int64 → Int64 → Prop) (P : Int64 → Prop) (f n0 to s : Nat) (t : Int64) (w : MS) (r : Int64) : Prop :=
  FR [] [] [89, 142] [88, 141] u w ∧ (∀ q, A w 89 q = if q = to then ((n0 + s : Nat) : Int) else A u 89 q) ∧ (∀ i, ¬ (500 * to + n0 ≤ i ∧ i < 500 * to + 500) → w.2.2.2 88 i = u.2.2.2 88 i) ∧ ∃ c st src oo, CPI hS nS owS kdS Fv P f n0 (hp w to) (n0 + s) 0 (n0 + s) 0 (w.2.2.2 141) (A w 142) c st src oo ∧ UQI hS n0 (hp w to) (n0 + s) 0 (n0 + s) 0 (A w 142) st src ∧ (st n0 ∧ src n0 = t) ∧ DST st src r t
section
variable {hS : Nat → Int64} {nS f n0 : Nat} {owS kdS : Nat → Nat} {Fv : Int64 → Int64 → Prop} {P : Int64 → Prop} {g g2 : Nat → Int64} {cur many kc jc : Nat} {sk : Nat → Int64} {at' at2 : Nat → Int} {c : Nat → Nat} {st : Nat → Prop} {src : Nat → Int64} {oo : Nat → Nat} {y : Int64} {a : Int}
theorem CPI_own (i : CPI hS nS owS kdS Fv P f n0 g cur many kc jc sk at' c st src oo) {k j k2 j2 : Nat} (h1 : st k) (h2 : j < blk hS (src k)) (h3 : st k2) (h4 : j2 < blk hS (src k2)) (e : k + j = k2 + j2) : k = k2 ∧ j = j2 := by
  have e1 := (i.2.2.1 k h1).2.2.2.2.1 j h2
  have e2 := (i.2.2.1 k2 h3).2.2.2.2.1 j2 h4
  rw [e, e2] at e1
  exact ⟨e1.symm, by omega⟩
theorem CPI_lt (i : CPI hS nS owS kdS Fv P f n0 g cur many kc jc sk at' c st src oo) {k : Nat} (h : st k) : k < cur := by
  obtain ⟨-, b, c, -⟩ := i.2.2.1 k h
  have := blk_pos (h := hS) c
  omega
theorem UQ_pop (i : CPI hS nS owS kdS Fv P f n0 g cur (many + 1) cur 0 sk at' c st src oo) (u : UQI hS n0 g cur (many + 1) cur 0 at' st src) (ha : at' many = a) (h0 : -1 ≤ a) (hr : a = -1 → cur = n0) (hg : ∀ j, (a ≠ -1 ∧ j = a.toNat → va (g2 j) = cur) ∧ (¬ (a ≠ -1 ∧ j = a.toNat) → g2 j = g j)) {b : Nat} (hb : 0 < blk hS (sk many)) (eb : b = blk hS (sk many)) : UQI hS n0 g2 (cur + b) many cur 0 at' (fun k => st k ∨ k = cur) (fun k => if k = cur then sk many else src k) := by
  obtain ⟨u1, u2, u3, u4, u5⟩ := u
  have es : ∀ k, st k → (if k = cur then sk many else src k) = src k := fun k hk => if_neg (by have := CPI_lt i hk; omega)
  have new : ∀ k j, DNE hS many cur 0 at' (fun k => st k ∨ k = cur) (fun k => if k = cur then sk many else src k) k j → (DNE hS (many + 1) cur 0 at' st src k j ∧ g2 (k + j) = g (k + j)) ∨ (st k ∧ j < blk hS (src k) ∧ a = ((k + j : Nat) : Int) ∧ vn (g2 (k + j)) = cur) := fun k j ⟨d1, d2, d3, d4, d5, d6⟩ => by
    rcases d1 with d1 | d1
    · simp only [es k d1] at d2 d3 d5
      by_cases e : a = ((k + j : Nat) : Int)
      · refine Or.inr ⟨d1, d3, e, ?_⟩
        have := (hg (k + j)).1 ⟨by omega, by omega⟩
        unfold vn
        omega
      · refine Or.inl ⟨⟨d1, d2, d3, fun z => by have := CPI_lt i d1; omega, d5, fun q hq => ?_⟩, (hg (k + j)).2 (fun z => e (by omega))⟩
        by_cases eq : q = many
        · subst eq; rw [ha]; exact e
        · exact d6 q (by omega)
    · exact absurd (d4 d1) (Nat.not_lt_zero _)
  have old : ∀ k j, DNE hS (many + 1) cur 0 at' st src k j → DNE hS many cur 0 at' (fun k => st k ∨ k = cur) (fun k => if k = cur then sk many else src k) k j ∧ g2 (k + j) = g (k + j) := fun k j ⟨d1, d2, d3, d4, d5, d6⟩ => by
    refine ⟨⟨Or.inl d1, ?_, ?_, fun z => by have := CPI_lt i d1; omega, ?_, fun q hq => d6 q (by omega)⟩, (hg (k + j)).2 (fun z => ?_)⟩
    · simp only [es k d1]; exact d2
    · simp only [es k d1]; exact d3
    · simp only [es k d1]; exact d5
    · have := d6 many (by omega)
      rw [ha] at this
      rcases (i.2.1 many (by omega)).2.2 with w | ⟨w, -⟩
      · exact z.1 (ha.symm.trans w)
      · rw [ha] at w; omega
  refine ⟨fun k j d => ?_, fun k j k2 j2 d dd2 e => ?_, fun k hk hn => ?_, fun p q hp hq e => u4 p q (by omega) (by omega) e, fun p hp k j hk hj e ek => ?_⟩
  · rcases new k j d with ⟨d', e'⟩ | ⟨d1, d2, d3, d4⟩
    · rw [e']; have := u1 k j d'; omega
    · rw [d4]; have := CPI_lt i d1; omega
  · rcases new k j d with ⟨d', e'⟩ | ⟨d1, d2, d3, d4⟩
    · rcases new k2 j2 dd2 with ⟨d2', e2'⟩ | ⟨c1, c2, c3, c4⟩
      · rw [e', e2'] at e; exact u2 k j k2 j2 d' d2' e
      · rw [e', c4] at e; have := u1 k j d'; omega
    · rcases new k2 j2 dd2 with ⟨d2', e2'⟩ | ⟨c1, c2, c3, c4⟩
      · rw [d4, e2'] at e; have := u1 k2 j2 d2'; omega
      · exact CPI_own i d1 d2 c1 c2 (by omega)
  · rcases hk with hk | hk
    · obtain ⟨k2, j, d, e⟩ := u3 k hk hn
      obtain ⟨d', e'⟩ := old k2 j d
      exact ⟨k2, j, d', by rw [e']; exact e⟩
    · subst hk
      obtain ⟨s1, -, s3⟩ := i.2.1 many (by omega)
      rcases s3 with s3 | ⟨s3, k2, j, t4, t5, t6, t7, t8⟩
      · exact absurd (hr (ha.symm.trans s3)) hn
      · rw [ha] at s3 t7
        refine ⟨k2, j, ⟨Or.inl t4, ?_, ?_, fun z => by have := CPI_lt i t4; omega, ?_, fun q hq z => ?_⟩, ?_⟩
        · simp only [es k2 t4]; exact t5
        · simp only [es k2 t4]; exact t6
        · simp only [es k2 t4]; rw [t8]; exact s1
        · have := u4 q many (by omega) (by omega) (by rw [z, ha]; omega)
          omega
        · have := (hg (k2 + j)).1 ⟨by omega, by omega⟩
          unfold vn
          omega
  · rcases hk with hk | hk
    · have := CPI_lt i hk; omega
    · subst hk
      obtain ⟨-, -, s3⟩ := i.2.1 p (by omega)
      rcases s3 with s3 | ⟨s3, k2, j2, t4, t5, t6, t7, t8⟩
      · omega
      · have := (i.2.2.1 k2 t4).2.1
        omega
theorem UQ_cell (i : CPI hS nS owS kdS Fv P f n0 g cur many kc jc sk at' c st src oo) (u : UQI hS n0 g cur many kc jc at' st src) (hk : st kc) (hj : jc < blk hS (src kc)) (hy : hS (vn (src kc) + jc) = y) (hg : ∀ z, g2 z = if z = kc + jc then y else g z) (hn : jc < prt (src kc) ∨ ¬ isH y) : UQI hS n0 g2 cur many kc (jc + 1) at' st src := by
  obtain ⟨u1, u2, u3, u4, u5⟩ := u
  have same : ∀ k j, DNE hS many kc jc at' st src k j → g2 (k + j) = g (k + j) := fun k j d => by
    rw [hg, if_neg (fun e => ?_)]
    obtain ⟨e1, e2⟩ := CPI_own i d.1 d.2.2.1 hk hj e
    have := d.2.2.2.1 e1
    omega
  have new : ∀ k j, DNE hS many kc (jc + 1) at' st src k j → DNE hS many kc jc at' st src k j := fun k j ⟨d1, d2, d3, d4, d5, d6⟩ => ⟨d1, d2, d3, fun e => by
    have := d4 e
    by_cases ej : j = jc
    · subst ej
      subst e
      rw [hy] at d5
      rcases hn with z | z
      · omega
      · exact absurd d5 z
    · omega, d5, d6⟩
  refine ⟨fun k j d => ?_, fun k j k2 j2 d d2 e => ?_, fun k h1 h2 => ?_, u4, fun p hp k j h1 h2 e ek => Nat.lt_succ_of_lt (u5 p hp k j h1 h2 e ek)⟩
  · rw [same k j (new k j d)]; exact u1 k j (new k j d)
  · rw [same k j (new k j d), same k2 j2 (new k2 j2 d2)] at e
    exact u2 k j k2 j2 (new k j d) (new k2 j2 d2) e
  · obtain ⟨k2, j, d, e⟩ := u3 k h1 h2
    exact ⟨k2, j, ⟨d.1, d.2.1, d.2.2.1, fun z => Nat.lt_succ_of_lt (d.2.2.2.1 z), d.2.2.2.2⟩, by rw [same k2 j d]; exact e⟩
theorem UQ_push (i : CPI hS nS owS kdS Fv P f n0 g cur many kc jc sk at' c st src oo) (u : UQI hS n0 g cur many kc jc at' st src) (hk : st kc) (hj : jc < blk hS (src kc)) (hg : ∀ z, g2 z = if z = kc + jc then y else g z) (h2 : ∀ q, at2 q = if q = many then ((kc + jc : Nat) : Int) else at' q) : UQI hS n0 g2 cur (many + 1) kc (jc + 1) at2 st src := by
  obtain ⟨u1, u2, u3, u4, u5⟩ := u
  have a1 : ∀ q, q < many → at2 q = at' q := fun q hq => by rw [h2, if_neg (by omega)]
  have a2 : at2 many = ((kc + jc : Nat) : Int) := by rw [h2, if_pos rfl]
  have ne : ∀ k j, DNE hS many kc jc at' st src k j → k + j ≠ kc + jc := fun k j d e => by
    obtain ⟨e1, e2⟩ := CPI_own i d.1 d.2.2.1 hk hj e
    have := d.2.2.2.1 e1
    omega
  have same : ∀ k j, DNE hS many kc jc at' st src k j → g2 (k + j) = g (k + j) := fun k j d => by rw [hg, if_neg (ne k j d)]
  have new : ∀ k j, DNE hS (many + 1) kc (jc + 1) at2 st src k j → DNE hS many kc jc at' st src k j := fun k j ⟨d1, d2, d3, d4, d5, d6⟩ => ⟨d1, d2, d3, fun e => by
    have := d4 e
    by_cases ej : j = jc
    · subst ej
      subst e
      exact absurd a2 (d6 many (by omega))
    · omega, d5, fun q hq => by rw [← a1 q hq]; exact d6 q (by omega)⟩
  refine ⟨fun k j d => ?_, fun k j k2 j2 d d2 e => ?_, fun k h1 h3 => ?_, fun p q hp hq e => ?_, fun p hp k j h1 h3 e ek => ?_⟩
  · rw [same k j (new k j d)]; exact u1 k j (new k j d)
  · rw [same k j (new k j d), same k2 j2 (new k2 j2 d2)] at e
    exact u2 k j k2 j2 (new k j d) (new k2 j2 d2) e
  · obtain ⟨k2, j, d, e⟩ := u3 k h1 h3
    refine ⟨k2, j, ⟨d.1, d.2.1, d.2.2.1, fun z => Nat.lt_succ_of_lt (d.2.2.2.1 z), d.2.2.2.2.1, fun q hq => ?_⟩, by rw [same k2 j d]; exact e⟩
    by_cases eq : q = many
    · subst eq; rw [a2]; have := ne k2 j d; omega
    · rw [a1 q (by omega)]; exact d.2.2.2.2.2 q (by omega)
  · by_cases ep : p = many
    · by_cases eq : q = many
      · omega
      · subst ep
        rw [a2, a1 q (by omega)] at e
        have := u5 q (by omega) kc jc hk hj e.symm rfl
        omega
    · by_cases eq : q = many
      · subst eq
        rw [a2, a1 p (by omega)] at e
        have := u5 p (by omega) kc jc hk hj e rfl
        omega
      · rw [a1 p (by omega), a1 q (by omega)] at e
        exact u4 p q (by omega) (by omega) e
  · by_cases ep : p = many
    · subst ep
      rw [a2] at e
      obtain ⟨e1, e2⟩ := CPI_own i h1 h3 hk hj (by omega)
      omega
    · rw [a1 p (by omega)] at e
      exact Nat.lt_succ_of_lt (u5 p (by omega) k j h1 h3 e ek)
theorem UQ_out (i : CPI hS nS owS kdS Fv P f n0 g cur many kc jc sk at' c st src oo) (u : UQI hS n0 g cur many kc jc at' st src) (h : jc = blk hS (src kc)) : UQI hS n0 g cur many cur 0 at' st src := by
  obtain ⟨u1, u2, u3, u4, u5⟩ := u
  have new : ∀ k j, DNE hS many cur 0 at' st src k j → DNE hS many kc jc at' st src k j := fun k j ⟨d1, d2, d3, d4, d5, d6⟩ => ⟨d1, d2, d3, fun e => by subst e; omega, d5, d6⟩
  have old : ∀ k j, DNE hS many kc jc at' st src k j → DNE hS many cur 0 at' st src k j := fun k j ⟨d1, d2, d3, d4, d5, d6⟩ => ⟨d1, d2, d3, fun e => by have := CPI_lt i d1; omega, d5, d6⟩
  refine ⟨fun k j d => u1 k j (new k j d), fun k j k2 j2 d d2 e => u2 k j k2 j2 (new k j d) (new k2 j2 d2) e, fun k h1 h2 => ?_, u4, fun p hp k j h1 h3 e ek => ?_⟩
  · obtain ⟨k2, j, d, e⟩ := u3 k h1 h2
    exact ⟨k2, j, old k2 j d, e⟩
  · have := CPI_lt i h1; omega
end
section
variable {hS : Nat → Int64} {nS f n0 fr to s N : Nat} {owS kdS : Nat → Nat} {Fv : Int64 → Int64 → Prop} {P : Int64 → Prop} {u : MS} {t : Int64}
theorem cp_loopx (h1 : fr < 25) (h2 : to < 25) (hnS : nS ≤ 500) (hs : n0 + s ≤ 500) (hft : fr = to → nS ≤ n0) (gS : HP hS nS owS kdS Fv P) (ht : isH t) : ∀ (m : Nat),
    (∀ (w : MS) (many cur : Nat) (c : Nat → Nat) (st : Nat → Prop) (src : Nat → Int64) (oo : Nat → Nat), CPI hS nS owS kdS Fv P f n0 (hp w to) cur many cur 0 (w.2.2.2 141) (A w 142) c st src oo ∧ UQI hS n0 (hp w to) cur many cur 0 (A w 142) st src → A w 89 to = cur → cur + smm c 0 many = n0 + s → (∀ i, i < nS → hp w fr i = hS i) → FR [] [] [89, 142] [88, 141] u w → (∀ q, q ≠ to → A w 89 q = A u 89 q) → (∀ i, ¬ (500 * to + n0 ≤ i ∧ i < 500 * to + 500) → w.2.2.2 88 i = u.2.2.2 88 i) → ((many = 1 ∧ cur = n0 ∧ w.2.2.2 141 0 = t ∧ A w 142 0 = -1) ∨ (st n0 ∧ src n0 = t ∧ ∀ i, i < many → A w 142 i ≠ -1)) → 5 * smm c 0 many < m → OK (CPQx u hS nS owS kdS Fv P f n0 to s t) ((gg_M_copy N m).1 w (I fr) (I to) (rp t n0) (I many))) ∧
    (∀ (w : MS) (many cur kc j : Nat) (c d : Nat → Nat) (st : Nat → Prop) (src : Nat → Int64) (oo : Nat → Nat) (x : Int64), CPI hS nS owS kdS Fv P f n0 (hp w to) cur many kc j (w.2.2.2 141) (A w 142) c st src oo ∧ UQI hS n0 (hp w to) cur many kc j (A w 142) st src → st kc → src kc = x → j ≤ blk hS x → (∀ i, j ≤ i → i < blk hS x → prt x ≤ i → SZ hS nS owS kdS Fv P f (hS (vn x + i)) (d i)) → (∀ i, i < prt x → d i = 0) → A w 89 to = cur → cur + smm c 0 many + smm d j (blk hS x - j) = n0 + s → (∀ i, i < nS → hp w fr i = hS i) → FR [] [] [89, 142] [88, 141] u w → (∀ q, q ≠ to → A w 89 q = A u 89 q) → (∀ i, ¬ (500 * to + n0 ≤ i ∧ i < 500 * to + 500) → w.2.2.2 88 i = u.2.2.2 88 i) → (st n0 ∧ src n0 = t ∧ ∀ i, i < many → A w 142 i ≠ -1) → 5 * smm c 0 many + 5 * smm d j (blk hS x - j) + (blk hS x - j) + 1 < m → OK (CPQx u hS nS owS kdS Fv P f n0 to s t) ((gg_M_copy N m).2 w (I fr) (I to) (rp t n0) (I many) x (I (blk hS x)) (I kc) (I j))) := by
  intro m
  induction m with
  | zero => exact ⟨fun w many cur c st src oo _ _ _ _ _ _ _ _ z => absurd z (Nat.not_lt_zero _), fun w many cur kc j c d st src oo x _ _ _ _ _ _ _ _ _ _ _ _ _ z => absurd z (Nat.not_lt_zero _)⟩
  | succ m ih =>
    obtain ⟨ih1, ih2⟩ := ih
    refine ⟨fun w many cur c st src oo ci e89 hsum hsrc hf h89 h88 hr hm => ?_, fun w many cur kc j c d st src oo x ci hk hx hj hd hd0 e89 hsum hsrc hf h89 h88 hr hm => ?_⟩
    · obtain ⟨ci, uq⟩ := ci
      show OK _ (fb_M_copy_42 N (gg_M_copy N m) w (I fr) (I to) (rp t n0) (I many))
      unfold fb_M_copy_42
      have hmany : many ≤ smm c 0 many := smm_ge (fun i hi => SZ_pos (ci.2.1 i hi).1 (ci.2.1 i hi).2.1)
      rw [lit0q, decI (by omega) (by omega) (by omega) (by omega)]
      cases many with
      | zero =>
        rw [decide_eq_true (by omega), br_tq]
        have ec : cur = n0 + s := by rw [← hsum]; rfl
        subst ec
        rcases hr with ⟨z, -⟩ | ⟨r1, r2, -⟩
        · omega
        refine ok_some.mpr ⟨hf, fun q => ?_, h88, c, st, src, oo, ci, uq, ⟨r1, r2⟩, Or.inr ⟨ht, ?_, ?_, ?_, ?_⟩⟩
        · by_cases e : q = to
          · rw [if_pos e, e]; exact e89
          · rw [if_neg e]; exact h89 q e
        · exact so_rp (by omega) (by omega)
        · rw [va_rp (by omega) (by omega)]; omega
        · have : vn (rp t n0) = n0 := by unfold vn; rw [va_rp (by omega) (by omega)]; omega
          rw [this]; exact r1
        · have : vn (rp t n0) = n0 := by unfold vn; rw [va_rp (by omega) (by omega)]; omega
          rw [this]; exact r2
      | succ many =>
        have hlast : smm c 0 (many + 1) = smm c 0 many + c many := by show smm c 0 many + c (0 + many) = _; rw [Nat.zero_add]
        rw [decide_eq_false (by omega), br_fq, litm1q, I_add, show ((many + 1 : Nat) : Int) + -1 = (many : Int) from by omega]
        rw [inb_at (k := 141) (n := 3000) rfl (by omega) (by omega) (by decide), ck_t, lt_e, I_tn (by omega) (by omega), Int.toNat_natCast, inb_at (k := 142) (n := 3000) rfl (by omega) (by omega) (by decide), ck_t, lt_e]
        generalize hxx : w.2.2.2 141 many = x
        generalize hat : A w 142 many = a
        obtain ⟨s1, s2, s3⟩ := ci.2.1 many (by omega)
        rw [hxx] at s1 s2 s3
        rw [hat] at s3
        obtain ⟨f', hf'⟩ : ∃ f', f = f' + 1 := by cases f with | zero => exact s2.elim | succ f' => exact ⟨f', rfl⟩
        subst hf'
        rcases s2 with ⟨z, -⟩ | ⟨-, b, d, z3, z4⟩
        · exact absurd s1 z
        have bp := blk_pos (h := hS) s1
        have pl := prt_le (h := hS) s1
        have bn := b.2.2.2.1
        have hgeq : ∀ i, i < nS → hp w fr i = hS i := hsrc
        have bkw : BK (hp w fr) nS owS kdS Fv x := by
          obtain ⟨b1, b2, b3, b4, b5, b6⟩ := b
          have e0 : hp w fr (vn x) = hS (vn x) := hgeq _ (by omega)
          have e1 : so x = 3 → hp w fr (vn x + 1) = hS (vn x + 1) := fun e => hgeq _ (by have := blk_2 (h := hS) e; omega)
          have eb : blk (hp w fr) x = blk hS x := by
            unfold blk
            rw [e0]
            by_cases e : so x = 3
            · rw [e1 e]
            · simp [e]
          exact ⟨b1, fun e => by rw [e0]; exact b2 e, fun e => by rw [e0, e1 e]; exact b3 e, by rw [eb]; exact b4, b5, by rw [eb]; exact b6⟩
        have eb : blk (hp w fr) x = blk hS x := by
          have e0 : hp w fr (vn x) = hS (vn x) := hgeq _ (by omega)
          unfold blk
          rw [e0]
          by_cases e : so x = 3
          · rw [hgeq (vn x + 1) (by have := blk_2 (h := hS) e; omega)]
          · simp [e]
        rw [sizeOf_e h1 hnS s1 bkw, bnd_so, eb, inb_at (k := 89) (n := 25) rfl (by omega) (by omega) (by decide), ck_t, lt_e, ck_t, ck_t, lt_e, I_tn (by omega) (by omega), Int.toNat_natCast, I_A' e89, I_add, wa_e, I_A, hat, decE (by have := A_r w 142 many; omega) (by have := A_r w 142 many; omega) (by omega) (by omega)]
        have hbl : c many = blk hS x + smm (fun i => if i < prt x then 0 else d i) 0 (blk hS x) := by
          rw [z4]
          congr 1
          have key : ∀ q, smm (fun i => if i < prt x then 0 else d i) 0 (prt x + q) = smm d (prt x) q := by
            intro q
            induction q with
            | zero =>
              have : ∀ r, r ≤ prt x → smm (fun i => if i < prt x then 0 else d i) 0 r = 0 := by
                intro r
                induction r with
                | zero => intro _; rfl
                | succ r ir =>
                  intro hr2
                  show smm _ 0 r + (if 0 + r < prt x then 0 else d (0 + r)) = 0
                  rw [ir (by omega), if_pos (by omega)]
              exact this (prt x) (Nat.le_refl _)
            | succ q iq =>
              show smm _ 0 (prt x + q) + (if 0 + (prt x + q) < prt x then 0 else d (0 + (prt x + q))) = smm d (prt x) q + d (prt x + q)
              rw [iq, if_neg (by omega), Nat.zero_add]
          have := key (blk hS x - prt x)
          rw [show prt x + (blk hS x - prt x) = blk hS x from by omega] at this
          exact this.symm
        have hz3 : ∀ i, 0 ≤ i → i < blk hS x → prt x ≤ i → SZ hS nS owS kdS Fv P (f' + 1) (hS (vn x + i)) ((fun i => if i < prt x then 0 else d i) i) := fun i _ hi hp2 => by
          show SZ _ _ _ _ _ _ _ _ (if i < prt x then 0 else d i)
          rw [if_neg (by omega)]
          exact SZ_mono (z3 i hp2 hi)
        have hr89 : ∀ q, q ≠ to → A (wa w 89 to ((cur : Int) + (blk hS x : Int))) 89 q = A u 89 q := fun q hq => by rw [A_wa (by omega) (by omega), if_pos rfl, if_neg hq]; exact h89 q hq
        have hroot : (st n0 ∨ n0 = cur) ∧ (if n0 = cur then x else src n0) = t ∧ ∀ i, i < many → A w 142 i ≠ -1 := by
          rcases hr with ⟨r1, r2, r3, r4⟩ | ⟨r1, r2, r3⟩
          · have em : many = 0 := by omega
            subst em
            exact ⟨Or.inr r2.symm, by rw [if_pos r2.symm, ← hxx]; exact r3, fun i hi => absurd hi (Nat.not_lt_zero _)⟩
          · have : n0 < cur := by
              obtain ⟨-, q2, q3, -⟩ := ci.2.2.1 n0 r1
              have := blk_pos (h := hS) q3
              omega
            exact ⟨Or.inl r1, by rw [if_neg (by omega)]; exact r2, fun i hi => r3 i (by omega)⟩
        have hrn : a = -1 → cur = n0 := fun z => by
          rcases hr with ⟨r1, r2, r3, r4⟩ | ⟨r1, r2, r3⟩
          · exact r2
          · exact absurd (hat.trans z) (r3 many (by omega))
        by_cases ea : a = -1
        · rw [decide_eq_true ea, br_tq]
          unfold fb_M_copy_128
          rw [lit0q]
          have cp := CPI_pop (g2 := hp w to) ci hxx hat (fun j => ⟨fun z => absurd ea z.1, fun _ => rfl⟩)
          have uq2 := UQ_pop (g2 := hp w to) (b := blk hS x) ci uq hat (by omega) (fun _ => hrn ea) (fun j => ⟨fun z => absurd ea z.1, fun _ => rfl⟩) (by rw [hxx]; exact bp) (by rw [hxx])
          rw [hxx] at uq2
          exact ih2 (wa w 89 to ((cur : Int) + (blk hS x : Int))) many (cur + blk hS x) cur 0 c _ _ _ _ x ⟨cp, uq2⟩ (Or.inr rfl) (if_pos rfl) (Nat.zero_le _) hz3 (fun i hi => if_pos hi) (by rw [A_wa (by omega) (by omega), if_pos rfl, if_pos rfl]; omega) (by rw [Nat.sub_zero]; omega) hsrc (FR.wa hf (by decide)) hr89 h88 hroot (by rw [Nat.sub_zero]; omega)
        · rw [decide_eq_false ea, br_fq]
          rcases s3 with s3 | ⟨s3, k', j', t4, t5, t6, t7, t8⟩
          · exact absurd s3 ea
          obtain ⟨q1, q2, -⟩ := ci.2.2.1 k' t4
          have ha5 : n0 ≤ a.toNat ∧ a.toNat < cur := by omega
          rw [lit500, I_mul, I_add, inb_at (k := 88) (n := 12500) rfl (by omega) (by omega) (by decide), ck_t, lt_e, I_tn (by omega) (by omega), show ((to : Int) * 500 + a).toNat = 500 * to + a.toNat from by omega]
          rw [show (x &&& -4294967296) ||| (I (cur : Int)).toInt64 = rp x cur from rfl, wj_e]
          unfold fb_M_copy_128
          rw [lit0q]
          have cp := CPI_pop (g2 := hp (wj (wa w 89 to ((cur : Int) + (blk hS x : Int))) 88 (500 * to + a.toNat) (rp x cur)) to) ci hxx hat (fun j => by
            unfold hp
            rw [J_wj, if_pos rfl]
            refine ⟨fun z => ?_, fun z => ?_⟩
            · rw [if_pos (by omega)]; exact ⟨so_rp (by omega) (by omega), va_rp (by omega) (by omega)⟩
            · rw [if_neg (fun e => z ⟨ea, by omega⟩)]; rfl)
          have uq2 := UQ_pop (g2 := hp (wj (wa w 89 to ((cur : Int) + (blk hS x : Int))) 88 (500 * to + a.toNat) (rp x cur)) to) (b := blk hS x) ci uq hat (by omega) hrn (fun j => by
            unfold hp
            rw [J_wj, if_pos rfl]
            refine ⟨fun z => ?_, fun z => ?_⟩
            · rw [if_pos (by omega)]; exact va_rp (by omega) (by omega)
            · rw [if_neg (fun e => z ⟨ea, by omega⟩)]; rfl) (by rw [hxx]; exact bp) (by rw [hxx])
          rw [hxx] at uq2
          have cp' := cp
          have e141 : (wj (wa w 89 to ((cur : Int) + (blk hS x : Int))) 88 (500 * to + a.toNat) (rp x cur)).2.2.2 141 = w.2.2.2 141 := wj_ne (show 141 ≠ 88 by decide)
          rw [← e141] at cp'
          refine ih2 (wj (wa w 89 to ((cur : Int) + (blk hS x : Int))) 88 (500 * to + a.toNat) (rp x cur)) many (cur + blk hS x) cur 0 c _ _ _ _ x ⟨cp', uq2⟩ (Or.inr rfl) (if_pos rfl) (Nat.zero_le _) hz3 (fun i hi => if_pos hi) (by rw [A_wj, A_wa (by omega) (by omega), if_pos rfl, if_pos rfl]; omega) (by rw [Nat.sub_zero]; omega) (fun i hi => ?_) (FR.wj (FR.wa hf (by decide)) (by decide)) hr89 (fun i hi => ?_) hroot (by rw [Nat.sub_zero]; omega)
          · unfold hp
            rw [J_wj, if_pos rfl, if_neg (fun e => ?_)]
            · exact hsrc i hi
            · by_cases eft : fr = to
              · have := hft eft; omega
              · omega
          · rw [J_wj, if_pos rfl, if_neg (by omega)]; exact h88 i hi
    · obtain ⟨ci, uq⟩ := ci
      show OK _ (fb_M_copy_131 N (gg_M_copy N m) w (I fr) (I to) (rp t n0) (I many) x (I (blk hS x)) (I kc) (I j))
      unfold fb_M_copy_131
      subst hx
      obtain ⟨r1, r2, r3, r4, r5, r6⟩ := ci.2.2.1 kc hk
      have bk := (HP_bk gS r3 r4).1
      have bn := bk.2.2.2.1
      have hmany : many ≤ smm c 0 many := smm_ge (fun i hi => SZ_pos (ci.2.1 i hi).1 (ci.2.1 i hi).2.1)
      rw [decI (by omega) (by omega) (by omega) (by omega)]
      by_cases ej : blk hS (src kc) ≤ j
      · rw [decide_eq_true (by omega), br_tq]
        have e0 : blk hS (src kc) - j = 0 := by omega
        rw [e0] at hsum hm
        exact ih1 w many cur c st src oo ⟨CPI_out ci (by omega), UQ_out ci uq (by omega)⟩ e89 (by rw [← hsum]; rfl) hsrc hf h89 h88 (Or.inr hr) (by omega)
      rw [decide_eq_false (by omega), br_fq, valueOf_e, bnd_so]
      obtain ⟨q, hq⟩ : ∃ q, blk hS (src kc) - j = q + 1 := ⟨blk hS (src kc) - j - 1, by omega⟩
      have hq2 : blk hS (src kc) - (j + 1) = q := by omega
      rw [hq, smm_split] at hsum hm
      have ev : va (src kc) = (vn (src kc) : Int) := by have := bk.1; unfold vn; omega
      rw [ev, I_add, show (vn (src kc) : Int) + (j : Int) = ((vn (src kc) + j : Nat) : Int) from by omega, cell_e h1 (by omega), bnd_so, hsrc _ (by omega)]
      generalize hy : hS (vn (src kc) + j) = y
      rw [lit500, I_mul, I_add, I_add, inb_at (k := 88) (n := 12500) rfl (by omega) (by omega) (by decide), ck_t, lt_e, I_tn (by omega) (by omega), show ((to : Int) * 500 + (kc : Int) + (j : Int)).toNat = 500 * to + (kc + j) from by omega, wj_e, partsFrom_e r3, bnd_so, decL (by omega) (by have := prt_le (h := hS) r3; omega) (by omega) (by have := prt_le (h := hS) r3; omega)]
      have hg2 : ∀ z, hp (wj w 88 (500 * to + (kc + j)) y) to z = if z = kc + j then y else hp w to z := fun z => by
        unfold hp
        rw [J_wj, if_pos rfl]
        by_cases e : z = kc + j
        · rw [if_pos (by omega), if_pos e]
        · rw [if_neg (by omega), if_neg e]
      have hsrc2 : ∀ i, i < nS → hp (wj w 88 (500 * to + (kc + j)) y) fr i = hS i := fun i hi => by
        unfold hp
        rw [J_wj, if_pos rfl, if_neg (fun e => ?_)]
        · exact hsrc i hi
        · by_cases eft : fr = to
          · have := hft eft; omega
          · omega
      have h882 : ∀ i, ¬ (500 * to + n0 ≤ i ∧ i < 500 * to + 500) → (wj w 88 (500 * to + (kc + j)) y).2.2.2 88 i = u.2.2.2 88 i := fun i hi => by
        rw [J_wj, if_pos rfl, if_neg (by omega)]; exact h88 i hi
      have plain : (j < prt (src kc) ∨ ¬ isH y) → OK (CPQx u hS nS owS kdS Fv P f n0 to s t) (fb_M_copy_214 N (gg_M_copy N m) (wj w 88 (500 * to + (kc + j)) y) (I fr) (I to) (rp t n0) (I many) (src kc) (I (blk hS (src kc))) (I kc) (I j)) := by
        intro hpl
        unfold fb_M_copy_214
        rw [lit1q, I_add]
        have dj : d j = 0 := by
          rcases hpl with z | z
          · exact hd0 j z
          · by_cases z2 : prt (src kc) ≤ j
            · have sz := hd j (Nat.le_refl _) (by omega) z2
              rw [hy] at sz
              cases f with
              | zero => exact sz.elim
              | succ f =>
                rcases sz with ⟨-, -, w⟩ | ⟨w, -⟩
                · exact w
                · exact absurd w z
            · exact hd0 j (by omega)
        have cc := CPI_cell ci hk (by omega) hy hg2 hpl
        refine ih2 (wj w 88 (500 * to + (kc + j)) y) many cur kc (j + 1) c d st src oo (src kc) ⟨?_, UQ_cell ci uq hk (by omega) hy hg2 hpl⟩ hk rfl (by omega) (fun i a b2 c2 => hd i (by omega) b2 c2) hd0 e89 (by rw [hq2]; omega) hsrc2 (FR.wj hf (by decide)) h89 h882 hr (by rw [hq2]; omega)
        rw [wj_ne (show 141 ≠ 88 by decide)]; exact cc
      by_cases hp2 : j < prt (src kc)
      · rw [decide_eq_true (by omega), br_tq]
        exact plain (Or.inl hp2)
      rw [decide_eq_false (by omega), br_fq]
      by_cases hyh : isH y
      · rw [inHeap_e.1 hyh, bnd_so, lit0q, decE (by omega) (by omega) (by omega) (by omega), decide_eq_false (by omega), br_fq]
        have sz := hd j (Nat.le_refl _) (by omega) (by omega)
        rw [hy] at sz
        have dp := SZ_pos hyh sz
        rw [inb_at (k := 141) (n := 3000) rfl (by omega) (by omega) (by decide), ck_t, lt_e, I_tn (by omega) (by omega), Int.toNat_natCast, wj_e, inb_at (k := 142) (n := 3000) rfl (by omega) (by omega) (by decide), ck_t, lt_e, I_add, wa_e]
        unfold fb_M_copy_214
        rw [lit1q, I_add, I_add]
        have cc := CPI_push (sk2 := (wa (wj (wj w 88 (500 * to + (kc + j)) y) 141 many y) 142 many ((kc : Int) + (j : Int))).2.2.2 141) (at2 := A (wa (wj (wj w 88 (500 * to + (kc + j)) y) 141 many y) 142 many ((kc : Int) + (j : Int))) 142) ci hk (by omega) (by omega) hy hyh sz hg2 (fun q => by
          rw [J_wa, J_wj, if_pos rfl, wj_ne (show 141 ≠ 88 by decide)]) (fun q => by
          rw [A_wa (by omega) (by omega), if_pos rfl]
          by_cases e : q = many
          · rw [if_pos e, if_pos e]; omega
          · rw [if_neg e, if_neg e]; rfl)
        refine ih2 (wa (wj (wj w 88 (500 * to + (kc + j)) y) 141 many y) 142 many ((kc : Int) + (j : Int))) (many + 1) cur kc (j + 1) (fun q => if q = many then d j else c q) d st src oo (src kc) ⟨cc, UQ_push (at2 := A (wa (wj (wj w 88 (500 * to + (kc + j)) y) 141 many y) 142 many ((kc : Int) + (j : Int))) 142) ci uq hk (by omega) hg2 (fun q => by
          rw [A_wa (by omega) (by omega), if_pos rfl]
          by_cases e : q = many
          · rw [if_pos e, if_pos e]; omega
          · rw [if_neg e, if_neg e]; rfl)⟩ hk rfl (by omega) (fun i a b2 c2 => hd i (by omega) b2 c2) hd0 (by rw [A_wa (by omega) (by omega), if_neg (by decide)]; exact e89) (by rw [smm_upd, hq2]; omega) hsrc2 (FR.wa (FR.wj (FR.wj hf (by decide)) (by decide)) (by decide)) (fun q hq => by rw [A_wa (by omega) (by omega), if_neg (by decide)]; exact h89 q hq) h882 ⟨hr.1, hr.2.1, fun i hi => ?_⟩ (by rw [smm_upd, hq2]; omega)
        rw [A_wa (by omega) (by omega), if_pos rfl]
        by_cases e : i = many
        · rw [if_pos e]; omega
        · rw [if_neg e]; exact hr.2.2 i (by omega)
      · rw [inHeap_e.2 hyh, bnd_so, lit0q, decE (by omega) (by omega) (by omega) (by omega), decide_eq_true rfl, br_tq]
        exact plain (Or.inr hyh)
theorem copy_x (h1 : fr < 25) (h2 : to < 25) (hnS : nS ≤ 500) (hs : n0 + s ≤ 500) (hft : fr = to → nS ≤ n0) (gS : HP (hp u fr) nS owS kdS Fv P) (z : SZ (hp u fr) nS owS kdS Fv P f t s) (hu : A u 89 to = n0) (hN : 3000 ≤ N) (ht : isH t) : OK (CPQx u (hp u fr) nS owS kdS Fv P f n0 to s t) (fm_M_copy N u (I fr) t (I to)) := by
  unfold fm_M_copy fb_M_copy_0
  · rw [inHeap_e.1 ht, bnd_so, lit0q, decE (by omega) (by omega) (by omega) (by omega), decide_eq_false (by omega), br_fq, inb_at (k := 89) (n := 25) rfl (by omega) (by omega) (by decide), ck_t, lt_e, I_tn (x := (to : Int)) (by omega) (by omega), Int.toNat_natCast, I_A' hu, inb_at (k := 141) (n := 3000) rfl (by omega) (by omega) (by decide), ck_t, lt_e, I_tn (by omega) (by omega), wj_e, inb_at (k := 142) (n := 3000) rfl (by omega) (by omega) (by decide), ck_t, lt_e, litm1q, wa_e, lit1q]
    refine (cp_loopx (N := N) (u := u) (f := f) h1 h2 hnS hs hft gS ht N).1 (wa (wj u 141 0 t) 142 0 (-1)) 1 n0 (fun _ => s) (fun _ => False) (fun _ => 0) (fun _ => 0) ⟨⟨Nat.le_refl _, fun i hi => ?_, fun k hk => hk.elim, fun x a b => by omega⟩, ⟨fun k j h => h.1.elim, fun k j k2 j2 h => h.1.elim, fun k h => h.elim, fun i i2 h1 h2 _ => by omega, fun i _ k j h => h.elim⟩⟩ (by rw [A_wa (by omega) (by omega), if_neg (by decide)]; exact hu) (by show n0 + (0 + s) = _; omega) (fun i hi => rfl) (FR.wa (FR.wj FR.rf (by decide)) (by decide)) (fun q hq => by rw [A_wa (by omega) (by omega), if_neg (by decide)]; rfl) (fun i hi => by rw [J_wa, J_wj, if_neg (by decide)]) (Or.inl ⟨rfl, rfl, by rw [J_wa, J_wj, if_pos rfl, if_pos rfl], by rw [A_wa (by omega) (by omega), if_pos rfl, if_pos rfl]⟩) (by show 5 * (0 + s) < N; omega)
    have e : i = 0 := by omega
    subst e
    rw [J_wa, J_wj, if_pos rfl, if_pos rfl, A_wa (by omega) (by omega), if_pos rfl, if_pos rfl]
    exact ⟨ht, z, Or.inl rfl⟩
end
end
section
set_option maxRecDepth 100000
def bnC (d g : Nat → Int64) (k0 : Int) (s0 s0' : Nat) (k : Int) (a c : Nat) : Prop := ∀ Q : Int → Nat → Nat → Prop, Q k0 s0 s0' → (∀ k a c j, Q k a c → prt (mk k ((a : Nat) : Int)) ≤ j → j < blk d (mk k ((a : Nat) : Int)) → isH (d (a + j)) → Q (so (d (a + j))) (vn (d (a + j))) (vn (g (c + j)))) → Q k a c
section
variable {d g : Nat → Int64} {k0 k l : Int} {s0 s0' a c a2 c2 j : Nat}
theorem bnC_0 : bnC d g k0 s0 s0' k0 s0 s0' := fun _ q _ => q
theorem bnC_s (b : bnC d g k0 s0 s0' k a c) (h1 : prt (mk k ((a : Nat) : Int)) ≤ j) (h2 : j < blk d (mk k ((a : Nat) : Int))) (z : isH (d (a + j))) : bnC d g k0 s0 s0' (so (d (a + j))) (vn (d (a + j))) (vn (g (c + j))) := fun Q q1 q2 => q2 k a c j (b Q q1 q2) h1 h2 z
theorem bnC_inv (b : bnC d g k0 s0 s0' k a c) : (k = k0 ∧ a = s0 ∧ c = s0') ∨ ∃ k2 a2 c2 j, bnC d g k0 s0 s0' k2 a2 c2 ∧ prt (mk k2 ((a2 : Nat) : Int)) ≤ j ∧ j < blk d (mk k2 ((a2 : Nat) : Int)) ∧ isH (d (a2 + j)) ∧ k = so (d (a2 + j)) ∧ a = vn (d (a2 + j)) ∧ c = vn (g (c2 + j)) := by
  have key := b (fun k a c => bnC d g k0 s0 s0' k a c ∧ ((k = k0 ∧ a = s0 ∧ c = s0') ∨ ∃ k2 a2 c2 j, bnC d g k0 s0 s0' k2 a2 c2 ∧ prt (mk k2 ((a2 : Nat) : Int)) ≤ j ∧ j < blk d (mk k2 ((a2 : Nat) : Int)) ∧ isH (d (a2 + j)) ∧ k = so (d (a2 + j)) ∧ a = vn (d (a2 + j)) ∧ c = vn (g (c2 + j)))) ⟨bnC_0, Or.inl ⟨rfl, rfl, rfl⟩⟩ (fun k a c j q h1 h2 z => ⟨bnC_s q.1 h1 h2 z, Or.inr ⟨k, a, c, j, q.1, h1, h2, z, rfl, rfl, rfl⟩⟩)
  exact key.2
end
section
variable {bS bD : Int → Nat → Nat → Prop} {hs hs' d g d0 d0' : Nat → Int64} {n ns ns' n' s0 s0' s N : Nat} {t x r r' : Int64} {ow kd ow' kd' oo : Nat → Nat} {Fv Fv' : Int64 → Int64 → Prop} {P P' : Int64 → Prop} {src src' : Nat → Int64} {bs : Nat → Nat} {st : Nat → Prop} {f : Nat} {sk : Nat → Int64} {at' : Nat → Int} {cc : Nat → Nat}
theorem mk_v {k : Int} {a : Nat} (ha : a < 1000) : va (mk k ((a : Nat) : Int)) = ((a : Nat) : Int) ∧ vn (mk k ((a : Nat) : Int)) = a := by
  have v : va (mk k ((a : Nat) : Int)) = ((a : Nat) : Int) := va_mk (by omega) (by omega)
  exact ⟨v, by unfold vn; rw [v]; omega⟩
theorem cpc_blk (gS : HPc hs n ow kd Fv P) (hF : FVc Fv) (c : CPc hs n ow kd P d s0 (s0 + s) (s0 + s) src bs) {a : Nat} {y : Int64} (h1 : s0 ≤ a) (h2 : a < s0 + s) (h3 : bs a = a) (e1 : so y = so (src a)) (e2 : va y = ((a : Nat) : Int)) : blk d y = blk hs (src a) := by
  obtain ⟨-, -, -, z, gt, -⟩ := c.2.1 a h1 h2
  rw [h3] at z gt
  obtain ⟨f, sz, q⟩ := HP_szc gS gt
  exact (CPc_sz (owd := fun _ => 0) (kdd := fun _ => 0) gS hF c f a y sz h1 h2 h3 e1 e2 q).2.1
theorem cpc_cell (c : CPc hs n ow kd P d s0 (s0 + s) (s0 + s) src bs) {a j : Nat} (h1 : s0 ≤ a) (h2 : a < s0 + s) (h3 : bs a = a) (hj : j < blk hs (src a)) : (¬ isH (hs (vn (src a) + j)) → d (a + j) = hs (vn (src a) + j)) ∧ (isH (hs (vn (src a) + j)) → so (d (a + j)) = so (hs (vn (src a) + j)) ∧ ∃ b, va (d (a + j)) = ((b : Nat) : Int) ∧ s0 ≤ b ∧ b < s0 + s ∧ bs b = b ∧ src b = hs (vn (src a) + j)) ∧ a + blk hs (src a) ≤ s0 + s ∧ bs (a + j) = a := by
  obtain ⟨-, c2, c3⟩ := c
  obtain ⟨-, -, -, -, -, -, k6, k7⟩ := c2 a h1 h2
  rw [h3] at k6 k7
  have kb := k7 j hj
  have ex : xcO hs src bs (a + j) = hs (vn (src a) + j) := by
    unfold xcO
    rw [kb, Nat.add_sub_cancel_left]
  obtain ⟨q1, q2⟩ := c3 (a + j) (by omega) (by omega)
  rw [ex] at q1 q2
  exact ⟨q1, fun z => (q2 z).2 (by omega), k6, kb⟩
theorem cpi_cell (i : CPI hs' n' ow' kd' Fv' P' f s0' g (s0' + s) 0 (s0' + s) 0 sk at' cc st src' oo) {c j : Nat} (hk : st c) (hj : j < blk hs' (src' c)) : (j < prt (src' c) → g (c + j) = hs' (vn (src' c) + j)) ∧ (prt (src' c) ≤ j → DST st src' (g (c + j)) (hs' (vn (src' c) + j))) := by
  obtain ⟨-, r2, r3, -, -, r6⟩ := i.2.2.1 c hk
  have bp := blk_pos (h := hs') r3
  obtain ⟨y1, y2⟩ := r6 j hj (fun z => by omega)
  refine ⟨y1, fun z => ?_⟩
  rcases y2 z with ⟨q, q1, -⟩ | y2
  · omega
  · exact y2
theorem cpi_blk (i : CPI hs' n' ow' kd' Fv' P' f s0' g (s0' + s) 0 (s0' + s) 0 sk at' cc st src' oo) {c : Nat} {y : Int64} (hk : st c) (e1 : so y = so (src' c)) (e2 : vn y = c) : blk g y = blk hs' (src' c) := by
  obtain ⟨-, -, r3, -⟩ := i.2.2.1 c hk
  have bp := blk_pos (h := hs') r3
  unfold blk
  rw [e1, e2]
  rcases r3 with e | e | e
  · have := (cpi_cell i hk (j := 1) (by unfold blk; rw [e]; simp; omega)).1 (by unfold prt; rw [e]; decide)
    rw [e]; simp
    rw [this]
  · have := (cpi_cell i hk (j := 0) bp).1 (by unfold prt; rw [e]; decide)
    rw [show c + 0 = c from rfl, show vn (src' c) + 0 = vn (src' c) from rfl] at this
    rw [e]; simp
    rw [this]
  · rw [e]; simp
theorem copy_iso (sS : ISw bS hs ns hs' ns') (gS : HPc hs n ow kd Fv P) (hF : FVc Fv) (sD : ISb bD d0 s0 d0' s0') (z : isH t) (rt : RTb bS t x) (hl : s0 + s ≤ 1000 ∧ s0' + s ≤ 1000) (c : CPXc hs n ow kd P d s0 s t r) (hd : ∀ i, i < s0 → d i = d0 i)
    (i : CPI hs' n' ow' kd' Fv' P' f s0' g (s0' + s) 0 (s0' + s) 0 sk at' cc st src' oo) (uq : UQI hs' s0' g (s0' + s) 0 (s0' + s) 0 at' st src') (ir : st s0' ∧ src' s0' = x) (er : so r' = so x ∧ vn r' = s0' ∧ 0 ≤ va r') (hg : ∀ i, i < s0' → g i = d0' i) : ∃ b2, (∀ k a c, bD k a c → b2 k a c) ∧ (∀ k a e, b2 k a e → bD k a e ∨ (s0 ≤ a ∧ s0' ≤ e)) ∧ ISb b2 d (s0 + s) g (s0' + s) ∧ RTb b2 r r' := by
  obtain ⟨src, bs, cp, pt, sp, c1, c2, c3, c4⟩ := c
  have zx := (RTb_isH rt).mpr z
  have inv : ∀ k a e, bnC d g (so t) s0 s0' k a e → (k = so (src a) ∧ (s0 ≤ a ∧ a < s0 + s ∧ bs a = a)) ∧ st e ∧ isH (src a) ∧ RTb bS (src a) (src' e) := by
    intro k a e b
    refine b (fun k a e => (k = so (src a) ∧ (s0 ≤ a ∧ a < s0 + s ∧ bs a = a)) ∧ st e ∧ isH (src a) ∧ RTb bS (src a) (src' e)) ⟨⟨by rw [c2], Nat.le_refl _, by omega, c1⟩, ir.1, by rw [c2]; exact z, by rw [c2, ir.2]; exact rt⟩ ?_
    intro k a e j ⟨⟨q0, q1, q2, q3⟩, q4, q5, q6⟩ h1 h2 zd
    have hm := mk_v (k := k) (a := a) (by omega)
    have hk : so (mk k ((a : Nat) : Int)) = so (src a) := by rw [so_mk (by unfold isH at q5; omega) (by unfold isH at q5; omega)]; exact q0
    rw [prt_so hk] at h1
    rw [cpc_blk gS hF cp q1 q2 q3 hk hm.1] at h2
    obtain ⟨y1, y2, y3, y4⟩ := cpc_cell cp q1 q2 q3 h2
    have zc : isH (hs (vn (src a) + j)) := by
      by_cases zz : isH (hs (vn (src a) + j))
      · exact zz
      · rw [y1 zz] at zd; exact zd
    obtain ⟨y5, b1, y6, y7, y8, y9, y10⟩ := y2 zc
    obtain ⟨⟨e1, -⟩, e2, -⟩ := sS.1 _ _ q5 q6
    have rp := e2 j h1 h2
    have ds := (cpi_cell i q4 (j := j) (by rw [e1]; exact h2)).2 (by rw [RTb_prt q6]; exact h1)
    have zp := (RTb_isH rp).mpr zc
    rcases ds with ⟨w1, -⟩ | ⟨-, w2, w3, w4, w5⟩
    · exact absurd zp w1
    have eb : vn (d (a + j)) = b1 := by unfold vn; rw [y6]; omega
    rw [eb]
    exact ⟨⟨by rw [y5, y10], y7, y8, y9⟩, w4, by rw [y10]; exact zc, by rw [y10, w5]; exact rp⟩
  have blkd : ∀ {k : Int} {a e : Nat} {y : Int64}, bnC d g (so t) s0 s0' k a e → so y = k → 0 ≤ va y → vn y = a → blk d y = blk hs (src a) := fun {k a e y} b e1 e2 e3 => by
    obtain ⟨⟨q0, q1, q2, q3⟩, -⟩ := inv k a e b
    exact cpc_blk gS hF cp q1 q2 q3 (by rw [e1, q0]) (by rw [vn_e e2, e3])
  have cell : ∀ {k : Int} {a e j : Nat}, bnC d g (so t) s0 s0' k a e → prt (mk k ((a : Nat) : Int)) ≤ j → j < blk d (mk k ((a : Nat) : Int)) → isH (d (a + j)) → (prt (src' e) ≤ j ∧ j < blk hs' (src' e) ∧ isH (hs' (vn (src' e) + j))) ∧ j < blk hs (src a) ∧ bs (a + j) = a ∧ s0 ≤ a ∧ a + j < s0 + s := fun {k a e j} b h1 h2 zd => by
    obtain ⟨⟨q0, q1, q2, q3⟩, q4, q5, q6⟩ := inv k a e b
    have hm := mk_v (k := k) (a := a) (by omega)
    have hk : so (mk k ((a : Nat) : Int)) = so (src a) := by rw [so_mk (by unfold isH at q5; omega) (by unfold isH at q5; omega)]; exact q0
    rw [prt_so hk] at h1
    rw [cpc_blk gS hF cp q1 q2 q3 hk hm.1] at h2
    obtain ⟨y1, y2, y3, y4⟩ := cpc_cell cp q1 q2 q3 h2
    obtain ⟨⟨e1, -⟩, e2, -⟩ := sS.1 _ _ q5 q6
    have zc : isH (hs (vn (src a) + j)) := by
      by_cases zz : isH (hs (vn (src a) + j))
      · exact zz
      · rw [y1 zz] at zd; exact zd
    exact ⟨⟨by rw [RTb_prt q6]; exact h1, by rw [e1]; exact h2, (RTb_isH (e2 j h1 h2)).mpr zc⟩, h2, y4, q1, by omega⟩
  have dne : ∀ {e j : Nat}, st e → prt (src' e) ≤ j → j < blk hs' (src' e) → isH (hs' (vn (src' e) + j)) → DNE hs' 0 (s0' + s) 0 at' st src' e j := fun {e j} h1 h2 h3 h4 => ⟨h1, h2, h3, fun w => by have := CPI_lt i h1; omega, h4, fun q hq => absurd hq (Nat.not_lt_zero _)⟩
  have jl : ∀ a k e l e2, bnC d g (so t) s0 s0' k a e → bnC d g (so t) s0 s0' l a e2 → e = e2 := by
    intro a
    induction a using Nat.strongRecOn with
    | ind a ih =>
      intro k e l e2 b1 b2
      rcases bnC_inv b1 with ⟨-, x1, x2⟩ | ⟨k3, a3, e3, j3, b3, p1, p2, p3, p4, p5, p6⟩
      · rcases bnC_inv b2 with ⟨-, y1, y2⟩ | ⟨k4, a4, e4, j4, b4, r1, r2, r3, r4, r5, r6⟩
        · rw [x2, y2]
        · obtain ⟨-, w2, w3, w4, w5⟩ := cell b4 r1 r2 r3
          have := pt.1 (a4 + j4) (by omega) w5 r3
          omega
      · obtain ⟨-, v2, v3, v4, v5⟩ := cell b3 p1 p2 p3
        have v6 := pt.1 (a3 + j3) (by omega) v5 p3
        rcases bnC_inv b2 with ⟨-, y1, y2⟩ | ⟨k4, a4, e4, j4, b4, r1, r2, r3, r4, r5, r6⟩
        · omega
        · obtain ⟨-, w2, w3, w4, w5⟩ := cell b4 r1 r2 r3
          have ec : a3 + j3 = a4 + j4 := by
            rcases Nat.lt_trichotomy (a3 + j3) (a4 + j4) with q | q | q
            · have := pt.2.1 (a3 + j3) (a4 + j4) (by omega) q w5 p3 r3
              omega
            · exact q
            · have := pt.2.1 (a4 + j4) (a3 + j3) (by omega) q v5 r3 p3
              omega
          have ea : a3 = a4 := by rw [← v3, ec, w3]
          subst ea
          have ej : j3 = j4 := by omega
          subst ej
          have := ih a3 (by omega) k3 e3 k4 e4 b3 b4
          subst this
          rw [p6, r6]
  have jr : ∀ e k a l a2, bnC d g (so t) s0 s0' k a e → bnC d g (so t) s0 s0' l a2 e → a = a2 := by
    intro e
    induction e using Nat.strongRecOn with
    | ind e ih =>
      intro k a l a2 b1 b2
      rcases bnC_inv b1 with ⟨-, x1, x2⟩ | ⟨k3, a3, e3, j3, b3, p1, p2, p3, p4, p5, p6⟩
      · rcases bnC_inv b2 with ⟨-, y1, y2⟩ | ⟨k4, a4, e4, j4, b4, r1, r2, r3, r4, r5, r6⟩
        · rw [x1, y1]
        · obtain ⟨⟨w1, w2, w3⟩, -⟩ := cell b4 r1 r2 r3
          have s4 := (inv k4 a4 e4 b4).2.1
          have := uq.1 e4 j4 (dne s4 w1 w2 w3)
          have := (i.2.2.1 e4 s4).1
          omega
      · obtain ⟨⟨v1, v2, v3⟩, -⟩ := cell b3 p1 p2 p3
        have s3 := (inv k3 a3 e3 b3).2.1
        have v6 := uq.1 e3 j3 (dne s3 v1 v2 v3)
        have v7 := (i.2.2.1 e3 s3).1
        rcases bnC_inv b2 with ⟨-, y1, y2⟩ | ⟨k4, a4, e4, j4, b4, r1, r2, r3, r4, r5, r6⟩
        · omega
        · obtain ⟨⟨w1, w2, w3⟩, -⟩ := cell b4 r1 r2 r3
          have s4 := (inv k4 a4 e4 b4).2.1
          obtain ⟨ee, ej⟩ := uq.2.1 e3 j3 e4 j4 (dne s3 v1 v2 v3) (dne s4 w1 w2 w3) (by rw [← p6, ← r6])
          subst ee
          subst ej
          have := ih e3 (by omega) k3 a3 k4 a4 b3 b4
          subst this
          rw [p5, r5]
  refine ⟨fun k a e => bD k a e ∨ bnC d g (so t) s0 s0' k a e, fun _ _ _ => Or.inl, fun k a e q => q.imp id (fun b => by
    obtain ⟨⟨-, q1, -⟩, q4, -⟩ := inv k a e b
    exact ⟨q1, (i.2.2.1 e q4).1⟩), ISb_ext sD (by omega) (by omega) hd hg (fun k a e b => ?_) (fun k l a e a2 e2 b1 b2 => ⟨fun q => ?_, fun q => ?_⟩) (fun y y' zy es v1 v2 b => ?_), ?_⟩
  · obtain ⟨⟨q0, q1, q2, q3⟩, q4, q5, q6⟩ := inv k a e b
    have := CPI_lt i q4
    have := (i.2.2.1 e q4).1
    exact ⟨by rw [q0]; exact q5, by omega, by omega⟩
  · subst q; exact jl a k e l e2 b1 b2
  · subst q; exact jr e k a l a2 b1 b2
  · obtain ⟨⟨q0, q1, q2, q3⟩, q4, q5, q6⟩ := inv _ _ _ b
    have g1 := blkd b rfl v1 rfl
    have g2 := cpi_blk i (y := y') q4 (by rw [es, q0, RTb_so q6]) rfl
    obtain ⟨⟨e1, -⟩, e2, e3⟩ := sS.1 _ _ q5 q6
    have hb := (i.2.2.1 _ q4).2.1
    have py : prt y = prt (src (vn y)) := prt_so q0
    have bp := blk_pos (h := hs) q5
    have kb := (cpc_cell cp q1 q2 q3 (j := 0) bp).2.2.1
    refine ⟨⟨by rw [g1, g2, e1], by omega, by omega⟩, fun j h1 h2 => ?_, fun e => ?_⟩
    · rw [py] at h1
      rw [g1] at h2
      obtain ⟨y1, y2, y3, y4⟩ := cpc_cell cp q1 q2 q3 h2
      have rp := e2 j h1 h2
      have ds := (cpi_cell i q4 (j := j) (by rw [e1]; exact h2)).2 (by rw [RTb_prt q6]; exact h1)
      by_cases zc : isH (hs (vn (src (vn y)) + j))
      · obtain ⟨y5, b1, y6, y7, y8, y9, y10⟩ := y2 zc
        have zp := (RTb_isH rp).mpr zc
        rcases ds with ⟨w1, -⟩ | ⟨-, w2, w3, w4, w5⟩
        · exact absurd zp w1
        have zd : isH (d (vn y + j)) := by unfold isH; rw [y5]; exact zc
        have hm := mk_v (k := so y) (a := vn y) (by omega)
        have hk : so (mk (so y) ((vn y : Nat) : Int)) = so y := so_mk (so_r y).1 (so_r y).2
        refine Or.inr ⟨zd, by rw [w2, RTb_so rp, y5], ⟨by omega, w3⟩, Or.inr (bnC_s b ?_ ?_ zd)⟩
        · rw [prt_so hk, py]; exact h1
        · rw [blkd b hk (by omega) hm.2]; exact h2
      · rw [y1 zc]
        have ez := RTb_n rp zc
        rcases ds with ⟨w1, w2⟩ | ⟨w1, -⟩
        · rw [w2, ez]
          exact RTb_lit zc (RTb_nil rp)
        · exact absurd ((RTb_isH rp).mp w1) zc
    · have e30 : so (src (vn y)) = 3 := by rw [← q0]; exact e
      obtain ⟨-, -, -, -, gt, -⟩ := cp.2.1 (vn y) q1 q2
      rw [q3] at gt
      have bk := (HP_bkc gS q5 gt).1
      have nh : ¬ isH (hs (vn (src (vn y)) + 0)) := head_nh bk q5 hF.1 (by unfold prt; rw [e30]; decide)
      have y1 : d (vn y) = hs (vn (src (vn y))) := (cpc_cell cp q1 q2 q3 (j := 0) bp).1 nh
      have y2 : g (vn y') = hs' (vn (src' (vn y'))) := (cpi_cell i q4 (j := 0) (by rw [e1]; exact bp)).1 (by unfold prt; rw [RTb_so q6, e30]; decide)
      rw [y1, y2]
      exact e3 e30
  · have er2 : vn r = s0 := by unfold vn; rw [c4]; omega
    refine Or.inr ⟨by unfold isH; rw [c3]; exact z, by rw [er.1, c3, RTb_so rt], ⟨by omega, er.2.2⟩, Or.inr ?_⟩
    rw [c3, er2, er.2.1]
    exact bnC_0
end
end
section
set_option maxRecDepth 100000
def Kq90c (u w : MS) : Prop := w.2.2.1 90 = u.2.2.1 90
def Kq90E {α : Type} (u : MS) (o : Option (MS × α)) : Prop := ∀ w r, o = some (w, r) → Kq90c u w
section
variable {α β : Type} {u0 u w : MS} {k : Nat}
theorem Kq90_none : Kq90E u0 (none : Option (MS × α)) := fun _ _ e => by cases e
theorem Kq90_some {r : α} (h : Kq90c u0 w) : Kq90E u0 (some (w, r)) := fun _ _ e => by injection e with e; injection e with e1 _; exact e1 ▸ h
theorem Kq90_br {b : Bool} {p q : Option (MS × α)} (h1 : Kq90E u0 p) (h2 : Kq90E u0 q) : Kq90E u0 (br b p q) := by cases b <;> assumption
theorem Kq90_ck {b : Bool} {p : Option (MS × α)} (h1 : Kq90E u0 p) : Kq90E u0 (ck b p) := by
  cases b
  · exact Kq90_none
  · exact h1
theorem Kq90_bo {o : Option β} {f : β → Option (MS × α)} (h : ∀ j, Kq90E u0 (f j)) : Kq90E u0 (bo o f) := by
  cases o with
  | none => exact Kq90_none
  | some j => exact h j
theorem Kq90_bnd {o : Option (MS × β)} {f : MS → β → Option (MS × α)} (h1 : Kq90E u0 o) (h2 : ∀ w r, Kq90c u0 w → Kq90E u0 (f w r)) : Kq90E u0 (bnd o f) := by
  cases o with
  | none => exact Kq90_none
  | some x => exact h2 x.1 x.2 (h1 x.1 x.2 rfl)
theorem Kq90_T {o : Option (MS × (β ⊕ Nat))} {f : MS → β → Option (MS × (α ⊕ Nat))} (h1 : Kq90E u0 o) (h2 : ∀ w r, Kq90c u0 w → Kq90E u0 (f w r)) : Kq90E u0 (bTm o f) := by
  cases o with
  | none => exact Kq90_none
  | some x =>
    obtain ⟨x, z⟩ := x
    cases z with
    | inl v => exact h2 x v (h1 x _ rfl)
    | inr k => exact Kq90_some (h1 x _ rfl)
theorem Kq90_H {o : Option (MS × (β ⊕ Nat))} {f : MS → β → Option (MS × α)} {g : MS → Option (MS × α)} (h1 : Kq90E u0 o) (h2 : ∀ w r, Kq90c u0 w → Kq90E u0 (f w r)) (h3 : ∀ w, Kq90c u0 w → Kq90E u0 (g w)) : Kq90E u0 (bHm o f g) := by
  cases o with
  | none => exact Kq90_none
  | some x =>
    obtain ⟨x, z⟩ := x
    cases z with
    | inl v => exact h2 x v (h1 x _ rfl)
    | inr k =>
      show Kq90E u0 (if k = 3 then g x else none)
      split
      · exact h3 x (h1 x _ rfl)
      · exact Kq90_none
theorem Kq90_ltm {x : MS} {f : MS → Option (MS × α)} (h1 : Kq90c u0 x) (h2 : ∀ w, Kq90c u0 w → Kq90E u0 (f w)) : Kq90E u0 (lt x f) := h2 x h1
theorem Kq90_ltv {x : β} {f : β → Option (MS × α)} (h2 : ∀ y, Kq90E u0 (f y)) : Kq90E u0 (lt x f) := h2 x
theorem Kq90_I {v : Int32} (h : Kq90c u0 u) (hk : 0 ≤ k) : Kq90c u0 (upI u k v) := h
theorem Kq90_L {v : Int64} (h : Kq90c u0 u) : Kq90c u0 (upL u k v) := h
theorem Kq90_J {v : Nat → Int64} (h : Kq90c u0 u) : Kq90c u0 (upJ u k v) := h
theorem Kq90_A {v : Nat → Int32} (h : Kq90c u0 u) (hk : k ≠ 90) : Kq90c u0 (upA u k v) := (upA_no (Ne.symm hk)).trans h
theorem Kq90_rf : Kq90c u u := rfl
end
section
variable {u0 u : MS} {N : Nat}
theorem y90_fb_M_sortOf_0 {G : Unit} {v0 : Int64} (h : Kq90c u0 u)  : Kq90E u0 (fb_M_sortOf_0 N G u v0) := by
  unfold fb_M_sortOf_0
  repeat' (first | with_reducible assumption | with_reducible refine Kq90_br ?_ ?_ | with_reducible refine Kq90_bnd ?_ (fun _ _ _ => ?_) | with_reducible refine Kq90_ck ?_ | with_reducible refine Kq90_ltm ?_ (fun _ _ => ?_) | with_reducible refine Kq90_some ?_ | with_reducible refine Kq90_bo (fun _ => ?_) | with_reducible refine Kq90_T ?_ (fun _ _ _ => ?_) | with_reducible refine Kq90_H ?_ (fun _ _ _ => ?_) (fun _ _ => ?_) | with_reducible refine Kq90_ltv (fun _ => ?_) | with_reducible refine Kq90_I ?_ (by decide) | with_reducible refine Kq90_A ?_ (by decide) | with_reducible refine Kq90_J ?_ | with_reducible refine Kq90_L ?_)
theorem y90_fm_M_sortOf {v0 : Int64} (h : Kq90c u0 u)  : Kq90E u0 (fm_M_sortOf N u v0) := by
  unfold fm_M_sortOf
  exact y90_fb_M_sortOf_0 h
theorem y90_fb_M_valueOf_0 {G : Unit} {v0 : Int64} (h : Kq90c u0 u)  : Kq90E u0 (fb_M_valueOf_0 N G u v0) := by
  unfold fb_M_valueOf_0
  repeat' (first | with_reducible assumption | with_reducible refine Kq90_br ?_ ?_ | with_reducible refine Kq90_bnd ?_ (fun _ _ _ => ?_) | with_reducible refine Kq90_ck ?_ | with_reducible refine Kq90_ltm ?_ (fun _ _ => ?_) | with_reducible refine Kq90_some ?_ | with_reducible refine Kq90_bo (fun _ => ?_) | with_reducible refine Kq90_T ?_ (fun _ _ _ => ?_) | with_reducible refine Kq90_H ?_ (fun _ _ _ => ?_) (fun _ _ => ?_) | with_reducible refine Kq90_ltv (fun _ => ?_) | with_reducible refine Kq90_I ?_ (by decide) | with_reducible refine Kq90_A ?_ (by decide) | with_reducible refine Kq90_J ?_ | with_reducible refine Kq90_L ?_)
theorem y90_fm_M_valueOf {v0 : Int64} (h : Kq90c u0 u)  : Kq90E u0 (fm_M_valueOf N u v0) := by
  unfold fm_M_valueOf
  exact y90_fb_M_valueOf_0 h
theorem y90_fb_M_inHeap_26 {G : Unit} {t0 : Int32} (h : Kq90c u0 u)  : Kq90E u0 (fb_M_inHeap_26 N G u t0) := by
  unfold fb_M_inHeap_26
  repeat' (first | with_reducible assumption | with_reducible refine Kq90_br ?_ ?_ | with_reducible refine Kq90_bnd ?_ (fun _ _ _ => ?_) | with_reducible refine Kq90_ck ?_ | with_reducible refine Kq90_ltm ?_ (fun _ _ => ?_) | with_reducible refine Kq90_some ?_ | with_reducible refine Kq90_bo (fun _ => ?_) | with_reducible refine Kq90_T ?_ (fun _ _ _ => ?_) | with_reducible refine Kq90_H ?_ (fun _ _ _ => ?_) (fun _ _ => ?_) | with_reducible refine Kq90_ltv (fun _ => ?_) | with_reducible refine Kq90_I ?_ (by decide) | with_reducible refine Kq90_A ?_ (by decide) | with_reducible refine Kq90_J ?_ | with_reducible refine Kq90_L ?_)
theorem y90_fb_M_inHeap_21 {G : Unit} (h : Kq90c u0 u)  : Kq90E u0 (fb_M_inHeap_21 N G u) := by
  unfold fb_M_inHeap_21
  repeat' (first | with_reducible assumption | with_reducible refine Kq90_br ?_ ?_ | with_reducible refine Kq90_bnd ?_ (fun _ _ _ => ?_) | with_reducible refine Kq90_ck ?_ | with_reducible refine Kq90_ltm ?_ (fun _ _ => ?_) | with_reducible refine Kq90_some ?_ | with_reducible refine Kq90_bo (fun _ => ?_) | with_reducible refine Kq90_T ?_ (fun _ _ _ => ?_) | with_reducible refine Kq90_H ?_ (fun _ _ _ => ?_) (fun _ _ => ?_) | with_reducible exact y90_fb_M_inHeap_26 (by assumption) | with_reducible refine Kq90_ltv (fun _ => ?_) | with_reducible refine Kq90_I ?_ (by decide) | with_reducible refine Kq90_A ?_ (by decide) | with_reducible refine Kq90_J ?_ | with_reducible refine Kq90_L ?_)
theorem y90_fb_M_inHeap_0 {G : Unit} {v0 : Int64} (h : Kq90c u0 u)  : Kq90E u0 (fb_M_inHeap_0 N G u v0) := by
  unfold fb_M_inHeap_0
  repeat' (first | with_reducible assumption | with_reducible refine Kq90_br ?_ ?_ | with_reducible refine Kq90_bnd ?_ (fun _ _ _ => ?_) | with_reducible refine Kq90_ck ?_ | with_reducible refine Kq90_ltm ?_ (fun _ _ => ?_) | with_reducible refine Kq90_some ?_ | with_reducible refine Kq90_bo (fun _ => ?_) | with_reducible refine Kq90_T ?_ (fun _ _ _ => ?_) | with_reducible refine Kq90_H ?_ (fun _ _ _ => ?_) (fun _ _ => ?_) | with_reducible exact y90_fb_M_inHeap_21 (by assumption) | with_reducible exact y90_fb_M_inHeap_26 (by assumption) | with_reducible exact y90_fm_M_sortOf (by assumption) | with_reducible refine Kq90_ltv (fun _ => ?_) | with_reducible refine Kq90_I ?_ (by decide) | with_reducible refine Kq90_A ?_ (by decide) | with_reducible refine Kq90_J ?_ | with_reducible refine Kq90_L ?_)
theorem y90_fm_M_inHeap {v0 : Int64} (h : Kq90c u0 u)  : Kq90E u0 (fm_M_inHeap N u v0) := by
  unfold fm_M_inHeap
  exact y90_fb_M_inHeap_0 h
theorem y90_fb_M_cell_0 {G : Unit} {v1 : Int32} {v2 : Int32} (h : Kq90c u0 u)  : Kq90E u0 (fb_M_cell_0 N G u v1 v2) := by
  unfold fb_M_cell_0
  repeat' (first | with_reducible assumption | with_reducible refine Kq90_br ?_ ?_ | with_reducible refine Kq90_bnd ?_ (fun _ _ _ => ?_) | with_reducible refine Kq90_ck ?_ | with_reducible refine Kq90_ltm ?_ (fun _ _ => ?_) | with_reducible refine Kq90_some ?_ | with_reducible refine Kq90_bo (fun _ => ?_) | with_reducible refine Kq90_T ?_ (fun _ _ _ => ?_) | with_reducible refine Kq90_H ?_ (fun _ _ _ => ?_) (fun _ _ => ?_) | with_reducible refine Kq90_ltv (fun _ => ?_) | with_reducible refine Kq90_I ?_ (by decide) | with_reducible refine Kq90_A ?_ (by decide) | with_reducible refine Kq90_J ?_ | with_reducible refine Kq90_L ?_)
theorem y90_fm_M_cell {v1 : Int32} {v2 : Int32} (h : Kq90c u0 u)  : Kq90E u0 (fm_M_cell N u v1 v2) := by
  unfold fm_M_cell
  exact y90_fb_M_cell_0 h
theorem y90_fb_M_sizeOf_64 {G : Unit} {t0 : Int32} (h : Kq90c u0 u)  : Kq90E u0 (fb_M_sizeOf_64 N G u t0) := by
  unfold fb_M_sizeOf_64
  repeat' (first | with_reducible assumption | with_reducible refine Kq90_br ?_ ?_ | with_reducible refine Kq90_bnd ?_ (fun _ _ _ => ?_) | with_reducible refine Kq90_ck ?_ | with_reducible refine Kq90_ltm ?_ (fun _ _ => ?_) | with_reducible refine Kq90_some ?_ | with_reducible refine Kq90_bo (fun _ => ?_) | with_reducible refine Kq90_T ?_ (fun _ _ _ => ?_) | with_reducible refine Kq90_H ?_ (fun _ _ _ => ?_) (fun _ _ => ?_) | with_reducible refine Kq90_ltv (fun _ => ?_) | with_reducible refine Kq90_I ?_ (by decide) | with_reducible refine Kq90_A ?_ (by decide) | with_reducible refine Kq90_J ?_ | with_reducible refine Kq90_L ?_)
theorem y90_fb_M_sizeOf_0 {G : Unit} {v1 : Int32} {v2 : Int64} (h : Kq90c u0 u)  : Kq90E u0 (fb_M_sizeOf_0 N G u v1 v2) := by
  unfold fb_M_sizeOf_0
  repeat' (first | with_reducible assumption | with_reducible refine Kq90_br ?_ ?_ | with_reducible refine Kq90_bnd ?_ (fun _ _ _ => ?_) | with_reducible refine Kq90_ck ?_ | with_reducible refine Kq90_ltm ?_ (fun _ _ => ?_) | with_reducible refine Kq90_some ?_ | with_reducible refine Kq90_bo (fun _ => ?_) | with_reducible refine Kq90_T ?_ (fun _ _ _ => ?_) | with_reducible refine Kq90_H ?_ (fun _ _ _ => ?_) (fun _ _ => ?_) | with_reducible exact y90_fb_M_sizeOf_64 (by assumption) | with_reducible exact y90_fm_M_valueOf (by assumption) | with_reducible exact y90_fm_M_sortOf (by assumption) | with_reducible exact y90_fm_M_cell (by assumption) | with_reducible refine Kq90_ltv (fun _ => ?_) | with_reducible refine Kq90_I ?_ (by decide) | with_reducible refine Kq90_A ?_ (by decide) | with_reducible refine Kq90_J ?_ | with_reducible refine Kq90_L ?_)
theorem y90_fm_M_sizeOf {v1 : Int32} {v2 : Int64} (h : Kq90c u0 u)  : Kq90E u0 (fm_M_sizeOf N u v1 v2) := by
  unfold fm_M_sizeOf
  exact y90_fb_M_sizeOf_0 h
theorem y90_fb_M_partsFrom_25 {G : Unit} {t0 : Int32} (h : Kq90c u0 u)  : Kq90E u0 (fb_M_partsFrom_25 N G u t0) := by
  unfold fb_M_partsFrom_25
  repeat' (first | with_reducible assumption | with_reducible refine Kq90_br ?_ ?_ | with_reducible refine Kq90_bnd ?_ (fun _ _ _ => ?_) | with_reducible refine Kq90_ck ?_ | with_reducible refine Kq90_ltm ?_ (fun _ _ => ?_) | with_reducible refine Kq90_some ?_ | with_reducible refine Kq90_bo (fun _ => ?_) | with_reducible refine Kq90_T ?_ (fun _ _ _ => ?_) | with_reducible refine Kq90_H ?_ (fun _ _ _ => ?_) (fun _ _ => ?_) | with_reducible refine Kq90_ltv (fun _ => ?_) | with_reducible refine Kq90_I ?_ (by decide) | with_reducible refine Kq90_A ?_ (by decide) | with_reducible refine Kq90_J ?_ | with_reducible refine Kq90_L ?_)
theorem y90_fb_M_partsFrom_0 {G : Unit} {v0 : Int64} (h : Kq90c u0 u)  : Kq90E u0 (fb_M_partsFrom_0 N G u v0) := by
  unfold fb_M_partsFrom_0
  repeat' (first | with_reducible assumption | with_reducible refine Kq90_br ?_ ?_ | with_reducible refine Kq90_bnd ?_ (fun _ _ _ => ?_) | with_reducible refine Kq90_ck ?_ | with_reducible refine Kq90_ltm ?_ (fun _ _ => ?_) | with_reducible refine Kq90_some ?_ | with_reducible refine Kq90_bo (fun _ => ?_) | with_reducible refine Kq90_T ?_ (fun _ _ _ => ?_) | with_reducible refine Kq90_H ?_ (fun _ _ _ => ?_) (fun _ _ => ?_) | with_reducible exact y90_fb_M_partsFrom_25 (by assumption) | with_reducible exact y90_fm_M_sortOf (by assumption) | with_reducible refine Kq90_ltv (fun _ => ?_) | with_reducible refine Kq90_I ?_ (by decide) | with_reducible refine Kq90_A ?_ (by decide) | with_reducible refine Kq90_J ?_ | with_reducible refine Kq90_L ?_)
theorem y90_fm_M_partsFrom {v0 : Int64} (h : Kq90c u0 u)  : Kq90E u0 (fm_M_partsFrom N u v0) := by
  unfold fm_M_partsFrom
  exact y90_fb_M_partsFrom_0 h
theorem y90_fb_M_carried_124 {G : (MS → Int32 → Int64 → Int32 → Int32 → Int32 → Option (MS × Int64))} {v2 : Int64} {v4 : Int32} (h : Kq90c u0 u) (hG0 : ∀ (u : MS) a0 a1 a2 a3 a4, Kq90c u0 u → Kq90E u0 (G u a0 a1 a2 a3 a4)) : Kq90E u0 (fb_M_carried_124 N G u v2 v4) := by
  unfold fb_M_carried_124
  repeat' (first | with_reducible assumption | with_reducible refine Kq90_br ?_ ?_ | with_reducible refine Kq90_bnd ?_ (fun _ _ _ => ?_) | with_reducible refine Kq90_ck ?_ | with_reducible refine Kq90_ltm ?_ (fun _ _ => ?_) | with_reducible refine Kq90_some ?_ | with_reducible refine Kq90_bo (fun _ => ?_) | with_reducible refine Kq90_T ?_ (fun _ _ _ => ?_) | with_reducible refine Kq90_H ?_ (fun _ _ _ => ?_) (fun _ _ => ?_) | with_reducible exact hG0 _ _ _ _ _ _ (by assumption) | with_reducible refine Kq90_ltv (fun _ => ?_) | with_reducible refine Kq90_I ?_ (by decide) | with_reducible refine Kq90_A ?_ (by decide) | with_reducible refine Kq90_J ?_ | with_reducible refine Kq90_L ?_)
theorem y90_fb_M_carried_48 {G : (MS → Int32 → Int64 → Int32 → Int32 → Int32 → Option (MS × Int64))} {v1 : Int32} {v2 : Int64} {v4 : Int32} {v5 : Int32} {v6 : Int32} (h : Kq90c u0 u) (hG0 : ∀ (u : MS) a0 a1 a2 a3 a4, Kq90c u0 u → Kq90E u0 (G u a0 a1 a2 a3 a4)) : Kq90E u0 (fb_M_carried_48 N G u v1 v2 v4 v5 v6) := by
  unfold fb_M_carried_48
  repeat' (first | with_reducible assumption | with_reducible refine Kq90_br ?_ ?_ | with_reducible refine Kq90_bnd ?_ (fun _ _ _ => ?_) | with_reducible refine Kq90_ck ?_ | with_reducible refine Kq90_ltm ?_ (fun _ _ => ?_) | with_reducible refine Kq90_some ?_ | with_reducible refine Kq90_bo (fun _ => ?_) | with_reducible refine Kq90_T ?_ (fun _ _ _ => ?_) | with_reducible refine Kq90_H ?_ (fun _ _ _ => ?_) (fun _ _ => ?_) | with_reducible exact y90_fb_M_carried_124 (by assumption) hG0 | with_reducible exact y90_fm_M_cell (by assumption) | with_reducible exact hG0 _ _ _ _ _ _ (by assumption) | with_reducible refine Kq90_ltv (fun _ => ?_) | with_reducible refine Kq90_I ?_ (by decide) | with_reducible refine Kq90_A ?_ (by decide) | with_reducible refine Kq90_J ?_ | with_reducible refine Kq90_L ?_)
theorem y90_fb_M_carried_0 {G : (MS → Int32 → Int64 → Int32 → Int32 → Int32 → Option (MS × Int64))} {v1 : Int32} {v2 : Int64} (h : Kq90c u0 u) (hG0 : ∀ (u : MS) a0 a1 a2 a3 a4, Kq90c u0 u → Kq90E u0 (G u a0 a1 a2 a3 a4)) : Kq90E u0 (fb_M_carried_0 N G u v1 v2) := by
  unfold fb_M_carried_0
  repeat' (first | with_reducible assumption | with_reducible refine Kq90_br ?_ ?_ | with_reducible refine Kq90_bnd ?_ (fun _ _ _ => ?_) | with_reducible refine Kq90_ck ?_ | with_reducible refine Kq90_ltm ?_ (fun _ _ => ?_) | with_reducible refine Kq90_some ?_ | with_reducible refine Kq90_bo (fun _ => ?_) | with_reducible refine Kq90_T ?_ (fun _ _ _ => ?_) | with_reducible refine Kq90_H ?_ (fun _ _ _ => ?_) (fun _ _ => ?_) | with_reducible exact y90_fb_M_carried_124 (by assumption) hG0 | with_reducible exact y90_fm_M_valueOf (by assumption) | with_reducible exact y90_fm_M_inHeap (by assumption) | with_reducible exact y90_fm_M_sizeOf (by assumption) | with_reducible exact hG0 _ _ _ _ _ _ (by assumption) | with_reducible refine Kq90_ltv (fun _ => ?_) | with_reducible refine Kq90_I ?_ (by decide) | with_reducible refine Kq90_A ?_ (by decide) | with_reducible refine Kq90_J ?_ | with_reducible refine Kq90_L ?_)
theorem y90_gg_M_carried  (n : Nat) : (∀ (u : MS) a0 a1 a2 a3 a4, Kq90c u0 u → Kq90E u0 ((gg_M_carried N n) u a0 a1 a2 a3 a4)) := by
  induction n with
  | zero => exact fun _ _ _ _ _ _ _ => Kq90_none
  | succ n ih => exact fun _ _ _ _ _ _ h => y90_fb_M_carried_48 (N := N) h ih
theorem y90_fm_M_carried {v1 : Int32} {v2 : Int64} (h : Kq90c u0 u)  : Kq90E u0 (fm_M_carried N u v1 v2) := by
  unfold fm_M_carried
  exact y90_fb_M_carried_0 h ((y90_gg_M_carried N))
theorem y90_fb_M_clear_337 {G : (MS → Int32 → Int32 → Option (MS × Unit)) × (MS → Int32 → Int32 → Option (MS × Unit)) × (MS → Int32 → Int32 → Option (MS × Unit)) × (MS → Int32 → Int32 → Option (MS × Unit)) × (MS → Int32 → Int32 → Option (MS × Unit)) × (MS → Int32 → Int32 → Int32 → Int32 → Int32 → Option (MS × Unit)) × (MS → Int32 → Int32 → Option (MS × Unit))} {v1 : Int32} {v2 : Int32} (h : Kq90c u0 u) (hG0 : ∀ (u : MS) a0 a1, Kq90c u0 u → Kq90E u0 (G.1 u a0 a1)) (hG1 : ∀ (u : MS) a0 a1, Kq90c u0 u → Kq90E u0 (G.2.1 u a0 a1)) (hG2 : ∀ (u : MS) a0 a1, Kq90c u0 u → Kq90E u0 (G.2.2.1 u a0 a1)) (hG3 : ∀ (u : MS) a0 a1, Kq90c u0 u → Kq90E u0 (G.2.2.2.1 u a0 a1)) (hG4 : ∀ (u : MS) a0 a1, Kq90c u0 u → Kq90E u0 (G.2.2.2.2.1 u a0 a1)) (hG5 : ∀ (u : MS) a0 a1 a2 a3 a4, Kq90c u0 u → Kq90E u0 (G.2.2.2.2.2.1 u a0 a1 a2 a3 a4)) (hG6 : ∀ (u : MS) a0 a1, Kq90c u0 u → Kq90E u0 (G.2.2.2.2.2.2 u a0 a1)) : Kq90E u0 (fb_M_clear_337 N G u v1 v2) := by
  unfold fb_M_clear_337
  repeat' (first | with_reducible assumption | with_reducible refine Kq90_br ?_ ?_ | with_reducible refine Kq90_bnd ?_ (fun _ _ _ => ?_) | with_reducible refine Kq90_ck ?_ | with_reducible refine Kq90_ltm ?_ (fun _ _ => ?_) | with_reducible refine Kq90_some ?_ | with_reducible refine Kq90_bo (fun _ => ?_) | with_reducible refine Kq90_T ?_ (fun _ _ _ => ?_) | with_reducible refine Kq90_H ?_ (fun _ _ _ => ?_) (fun _ _ => ?_) | with_reducible exact hG0 _ _ _ (by assumption) | with_reducible exact hG1 _ _ _ (by assumption) | with_reducible exact hG2 _ _ _ (by assumption) | with_reducible exact hG3 _ _ _ (by assumption) | with_reducible exact hG4 _ _ _ (by assumption) | with_reducible exact hG5 _ _ _ _ _ _ (by assumption) | with_reducible exact hG6 _ _ _ (by assumption) | with_reducible refine Kq90_ltv (fun _ => ?_) | with_reducible refine Kq90_I ?_ (by decide) | with_reducible refine Kq90_A ?_ (by decide) | with_reducible refine Kq90_J ?_ | with_reducible refine Kq90_L ?_)
theorem y90_fb_M_clear_281 {G : (MS → Int32 → Int32 → Option (MS × Unit)) × (MS → Int32 → Int32 → Option (MS × Unit)) × (MS → Int32 → Int32 → Option (MS × Unit)) × (MS → Int32 → Int32 → Option (MS × Unit)) × (MS → Int32 → Int32 → Option (MS × Unit)) × (MS → Int32 → Int32 → Int32 → Int32 → Int32 → Option (MS × Unit)) × (MS → Int32 → Int32 → Option (MS × Unit))} {v1 : Int32} {v2 : Int32} {v5 : Int32} {v7 : Int32} {v8 : Int32} (h : Kq90c u0 u) (hG0 : ∀ (u : MS) a0 a1, Kq90c u0 u → Kq90E u0 (G.1 u a0 a1)) (hG1 : ∀ (u : MS) a0 a1, Kq90c u0 u → Kq90E u0 (G.2.1 u a0 a1)) (hG2 : ∀ (u : MS) a0 a1, Kq90c u0 u → Kq90E u0 (G.2.2.1 u a0 a1)) (hG3 : ∀ (u : MS) a0 a1, Kq90c u0 u → Kq90E u0 (G.2.2.2.1 u a0 a1)) (hG4 : ∀ (u : MS) a0 a1, Kq90c u0 u → Kq90E u0 (G.2.2.2.2.1 u a0 a1)) (hG5 : ∀ (u : MS) a0 a1 a2 a3 a4, Kq90c u0 u → Kq90E u0 (G.2.2.2.2.2.1 u a0 a1 a2 a3 a4)) (hG6 : ∀ (u : MS) a0 a1, Kq90c u0 u → Kq90E u0 (G.2.2.2.2.2.2 u a0 a1)) : Kq90E u0 (fb_M_clear_281 N G u v1 v2 v5 v7 v8) := by
  unfold fb_M_clear_281
  repeat' (first | with_reducible assumption | with_reducible refine Kq90_br ?_ ?_ | with_reducible refine Kq90_bnd ?_ (fun _ _ _ => ?_) | with_reducible refine Kq90_ck ?_ | with_reducible refine Kq90_ltm ?_ (fun _ _ => ?_) | with_reducible refine Kq90_some ?_ | with_reducible refine Kq90_bo (fun _ => ?_) | with_reducible refine Kq90_T ?_ (fun _ _ _ => ?_) | with_reducible refine Kq90_H ?_ (fun _ _ _ => ?_) (fun _ _ => ?_) | with_reducible exact y90_fm_M_carried (by assumption) | with_reducible exact hG0 _ _ _ (by assumption) | with_reducible exact hG1 _ _ _ (by assumption) | with_reducible exact hG2 _ _ _ (by assumption) | with_reducible exact hG3 _ _ _ (by assumption) | with_reducible exact hG4 _ _ _ (by assumption) | with_reducible exact hG5 _ _ _ _ _ _ (by assumption) | with_reducible exact hG6 _ _ _ (by assumption) | with_reducible refine Kq90_ltv (fun _ => ?_) | with_reducible refine Kq90_I ?_ (by decide) | with_reducible refine Kq90_A ?_ (by decide) | with_reducible refine Kq90_J ?_ | with_reducible refine Kq90_L ?_)
theorem y90_fb_M_clear_273 {G : (MS → Int32 → Int32 → Option (MS × Unit)) × (MS → Int32 → Int32 → Option (MS × Unit)) × (MS → Int32 → Int32 → Option (MS × Unit)) × (MS → Int32 → Int32 → Option (MS × Unit)) × (MS → Int32 → Int32 → Option (MS × Unit)) × (MS → Int32 → Int32 → Int32 → Int32 → Int32 → Option (MS × Unit)) × (MS → Int32 → Int32 → Option (MS × Unit))} {v1 : Int32} {v2 : Int32} {v3 : Int64} {v5 : Int32} {t0 : Int32} (h : Kq90c u0 u) (hG0 : ∀ (u : MS) a0 a1, Kq90c u0 u → Kq90E u0 (G.1 u a0 a1)) (hG1 : ∀ (u : MS) a0 a1, Kq90c u0 u → Kq90E u0 (G.2.1 u a0 a1)) (hG2 : ∀ (u : MS) a0 a1, Kq90c u0 u → Kq90E u0 (G.2.2.1 u a0 a1)) (hG3 : ∀ (u : MS) a0 a1, Kq90c u0 u → Kq90E u0 (G.2.2.2.1 u a0 a1)) (hG4 : ∀ (u : MS) a0 a1, Kq90c u0 u → Kq90E u0 (G.2.2.2.2.1 u a0 a1)) (hG5 : ∀ (u : MS) a0 a1 a2 a3 a4, Kq90c u0 u → Kq90E u0 (G.2.2.2.2.2.1 u a0 a1 a2 a3 a4)) (hG6 : ∀ (u : MS) a0 a1, Kq90c u0 u → Kq90E u0 (G.2.2.2.2.2.2 u a0 a1)) : Kq90E u0 (fb_M_clear_273 N G u v1 v2 v3 v5 t0) := by
  unfold fb_M_clear_273
  repeat' (first | with_reducible assumption | with_reducible refine Kq90_br ?_ ?_ | with_reducible refine Kq90_bnd ?_ (fun _ _ _ => ?_) | with_reducible refine Kq90_ck ?_ | with_reducible refine Kq90_ltm ?_ (fun _ _ => ?_) | with_reducible refine Kq90_some ?_ | with_reducible refine Kq90_bo (fun _ => ?_) | with_reducible refine Kq90_T ?_ (fun _ _ _ => ?_) | with_reducible refine Kq90_H ?_ (fun _ _ _ => ?_) (fun _ _ => ?_) | with_reducible exact y90_fm_M_partsFrom (by assumption) | with_reducible exact hG0 _ _ _ (by assumption) | with_reducible exact hG1 _ _ _ (by assumption) | with_reducible exact hG2 _ _ _ (by assumption) | with_reducible exact hG3 _ _ _ (by assumption) | with_reducible exact hG4 _ _ _ (by assumption) | with_reducible exact hG5 _ _ _ _ _ _ (by assumption) | with_reducible exact hG6 _ _ _ (by assumption) | with_reducible refine Kq90_ltv (fun _ => ?_) | with_reducible refine Kq90_I ?_ (by decide) | with_reducible refine Kq90_A ?_ (by decide) | with_reducible refine Kq90_J ?_ | with_reducible refine Kq90_L ?_)
theorem y90_fb_M_clear_204 {G : (MS → Int32 → Int32 → Option (MS × Unit)) × (MS → Int32 → Int32 → Option (MS × Unit)) × (MS → Int32 → Int32 → Option (MS × Unit)) × (MS → Int32 → Int32 → Option (MS × Unit)) × (MS → Int32 → Int32 → Option (MS × Unit)) × (MS → Int32 → Int32 → Int32 → Int32 → Int32 → Option (MS × Unit)) × (MS → Int32 → Int32 → Option (MS × Unit))} {v1 : Int32} {v2 : Int32} (h : Kq90c u0 u) (hG0 : ∀ (u : MS) a0 a1, Kq90c u0 u → Kq90E u0 (G.1 u a0 a1)) (hG1 : ∀ (u : MS) a0 a1, Kq90c u0 u → Kq90E u0 (G.2.1 u a0 a1)) (hG2 : ∀ (u : MS) a0 a1, Kq90c u0 u → Kq90E u0 (G.2.2.1 u a0 a1)) (hG3 : ∀ (u : MS) a0 a1, Kq90c u0 u → Kq90E u0 (G.2.2.2.1 u a0 a1)) (hG4 : ∀ (u : MS) a0 a1, Kq90c u0 u → Kq90E u0 (G.2.2.2.2.1 u a0 a1)) (hG5 : ∀ (u : MS) a0 a1 a2 a3 a4, Kq90c u0 u → Kq90E u0 (G.2.2.2.2.2.1 u a0 a1 a2 a3 a4)) (hG6 : ∀ (u : MS) a0 a1, Kq90c u0 u → Kq90E u0 (G.2.2.2.2.2.2 u a0 a1)) : Kq90E u0 (fb_M_clear_204 N G u v1 v2) := by
  unfold fb_M_clear_204
  repeat' (first | with_reducible assumption | with_reducible refine Kq90_br ?_ ?_ | with_reducible refine Kq90_bnd ?_ (fun _ _ _ => ?_) | with_reducible refine Kq90_ck ?_ | with_reducible refine Kq90_ltm ?_ (fun _ _ => ?_) | with_reducible refine Kq90_some ?_ | with_reducible refine Kq90_bo (fun _ => ?_) | with_reducible refine Kq90_T ?_ (fun _ _ _ => ?_) | with_reducible refine Kq90_H ?_ (fun _ _ _ => ?_) (fun _ _ => ?_) | with_reducible exact y90_fb_M_clear_273 (by assumption) hG0 hG1 hG2 hG3 hG4 hG5 hG6 | with_reducible exact y90_fm_M_valueOf (by assumption) | with_reducible exact y90_fm_M_sortOf (by assumption) | with_reducible exact hG0 _ _ _ (by assumption) | with_reducible exact hG1 _ _ _ (by assumption) | with_reducible exact hG2 _ _ _ (by assumption) | with_reducible exact hG3 _ _ _ (by assumption) | with_reducible exact hG4 _ _ _ (by assumption) | with_reducible exact hG5 _ _ _ _ _ _ (by assumption) | with_reducible exact hG6 _ _ _ (by assumption) | with_reducible refine Kq90_ltv (fun _ => ?_) | with_reducible refine Kq90_I ?_ (by decide) | with_reducible refine Kq90_A ?_ (by decide) | with_reducible refine Kq90_J ?_ | with_reducible refine Kq90_L ?_)
theorem y90_fb_M_clear_202 {G : (MS → Int32 → Int32 → Option (MS × Unit)) × (MS → Int32 → Int32 → Option (MS × Unit)) × (MS → Int32 → Int32 → Option (MS × Unit)) × (MS → Int32 → Int32 → Option (MS × Unit)) × (MS → Int32 → Int32 → Option (MS × Unit)) × (MS → Int32 → Int32 → Int32 → Int32 → Int32 → Option (MS × Unit)) × (MS → Int32 → Int32 → Option (MS × Unit))} {v1 : Int32} (h : Kq90c u0 u) (hG0 : ∀ (u : MS) a0 a1, Kq90c u0 u → Kq90E u0 (G.1 u a0 a1)) (hG1 : ∀ (u : MS) a0 a1, Kq90c u0 u → Kq90E u0 (G.2.1 u a0 a1)) (hG2 : ∀ (u : MS) a0 a1, Kq90c u0 u → Kq90E u0 (G.2.2.1 u a0 a1)) (hG3 : ∀ (u : MS) a0 a1, Kq90c u0 u → Kq90E u0 (G.2.2.2.1 u a0 a1)) (hG4 : ∀ (u : MS) a0 a1, Kq90c u0 u → Kq90E u0 (G.2.2.2.2.1 u a0 a1)) (hG5 : ∀ (u : MS) a0 a1 a2 a3 a4, Kq90c u0 u → Kq90E u0 (G.2.2.2.2.2.1 u a0 a1 a2 a3 a4)) (hG6 : ∀ (u : MS) a0 a1, Kq90c u0 u → Kq90E u0 (G.2.2.2.2.2.2 u a0 a1)) : Kq90E u0 (fb_M_clear_202 N G u v1) := by
  unfold fb_M_clear_202
  repeat' (first | with_reducible assumption | with_reducible refine Kq90_br ?_ ?_ | with_reducible refine Kq90_bnd ?_ (fun _ _ _ => ?_) | with_reducible refine Kq90_ck ?_ | with_reducible refine Kq90_ltm ?_ (fun _ _ => ?_) | with_reducible refine Kq90_some ?_ | with_reducible refine Kq90_bo (fun _ => ?_) | with_reducible refine Kq90_T ?_ (fun _ _ _ => ?_) | with_reducible refine Kq90_H ?_ (fun _ _ _ => ?_) (fun _ _ => ?_) | with_reducible exact hG0 _ _ _ (by assumption) | with_reducible exact hG1 _ _ _ (by assumption) | with_reducible exact hG2 _ _ _ (by assumption) | with_reducible exact hG3 _ _ _ (by assumption) | with_reducible exact hG4 _ _ _ (by assumption) | with_reducible exact hG5 _ _ _ _ _ _ (by assumption) | with_reducible exact hG6 _ _ _ (by assumption) | with_reducible refine Kq90_ltv (fun _ => ?_) | with_reducible refine Kq90_I ?_ (by decide) | with_reducible refine Kq90_A ?_ (by decide) | with_reducible refine Kq90_J ?_ | with_reducible refine Kq90_L ?_)
theorem y90_fb_M_clear_138 {G : (MS → Int32 → Int32 → Option (MS × Unit)) × (MS → Int32 → Int32 → Option (MS × Unit)) × (MS → Int32 → Int32 → Option (MS × Unit)) × (MS → Int32 → Int32 → Option (MS × Unit)) × (MS → Int32 → Int32 → Option (MS × Unit)) × (MS → Int32 → Int32 → Int32 → Int32 → Int32 → Option (MS × Unit)) × (MS → Int32 → Int32 → Option (MS × Unit))} {v1 : Int32} {v2 : Int32} (h : Kq90c u0 u) (hG0 : ∀ (u : MS) a0 a1, Kq90c u0 u → Kq90E u0 (G.1 u a0 a1)) (hG1 : ∀ (u : MS) a0 a1, Kq90c u0 u → Kq90E u0 (G.2.1 u a0 a1)) (hG2 : ∀ (u : MS) a0 a1, Kq90c u0 u → Kq90E u0 (G.2.2.1 u a0 a1)) (hG3 : ∀ (u : MS) a0 a1, Kq90c u0 u → Kq90E u0 (G.2.2.2.1 u a0 a1)) (hG4 : ∀ (u : MS) a0 a1, Kq90c u0 u → Kq90E u0 (G.2.2.2.2.1 u a0 a1)) (hG5 : ∀ (u : MS) a0 a1 a2 a3 a4, Kq90c u0 u → Kq90E u0 (G.2.2.2.2.2.1 u a0 a1 a2 a3 a4)) (hG6 : ∀ (u : MS) a0 a1, Kq90c u0 u → Kq90E u0 (G.2.2.2.2.2.2 u a0 a1)) : Kq90E u0 (fb_M_clear_138 N G u v1 v2) := by
  unfold fb_M_clear_138
  repeat' (first | with_reducible assumption | with_reducible refine Kq90_br ?_ ?_ | with_reducible refine Kq90_bnd ?_ (fun _ _ _ => ?_) | with_reducible refine Kq90_ck ?_ | with_reducible refine Kq90_ltm ?_ (fun _ _ => ?_) | with_reducible refine Kq90_some ?_ | with_reducible refine Kq90_bo (fun _ => ?_) | with_reducible refine Kq90_T ?_ (fun _ _ _ => ?_) | with_reducible refine Kq90_H ?_ (fun _ _ _ => ?_) (fun _ _ => ?_) | with_reducible exact y90_fb_M_clear_202 (by assumption) hG0 hG1 hG2 hG3 hG4 hG5 hG6 | with_reducible exact y90_fm_M_carried (by assumption) | with_reducible exact hG0 _ _ _ (by assumption) | with_reducible exact hG1 _ _ _ (by assumption) | with_reducible exact hG2 _ _ _ (by assumption) | with_reducible exact hG3 _ _ _ (by assumption) | with_reducible exact hG4 _ _ _ (by assumption) | with_reducible exact hG5 _ _ _ _ _ _ (by assumption) | with_reducible exact hG6 _ _ _ (by assumption) | with_reducible refine Kq90_ltv (fun _ => ?_) | with_reducible refine Kq90_I ?_ (by decide) | with_reducible refine Kq90_A ?_ (by decide) | with_reducible refine Kq90_J ?_ | with_reducible refine Kq90_L ?_)
theorem y90_fb_M_clear_91 {G : (MS → Int32 → Int32 → Option (MS × Unit)) × (MS → Int32 → Int32 → Option (MS × Unit)) × (MS → Int32 → Int32 → Option (MS × Unit)) × (MS → Int32 → Int32 → Option (MS × Unit)) × (MS → Int32 → Int32 → Option (MS × Unit)) × (MS → Int32 → Int32 → Int32 → Int32 → Int32 → Option (MS × Unit)) × (MS → Int32 → Int32 → Option (MS × Unit))} {v1 : Int32} {v2 : Int32} (h : Kq90c u0 u) (hG0 : ∀ (u : MS) a0 a1, Kq90c u0 u → Kq90E u0 (G.1 u a0 a1)) (hG1 : ∀ (u : MS) a0 a1, Kq90c u0 u → Kq90E u0 (G.2.1 u a0 a1)) (hG2 : ∀ (u : MS) a0 a1, Kq90c u0 u → Kq90E u0 (G.2.2.1 u a0 a1)) (hG3 : ∀ (u : MS) a0 a1, Kq90c u0 u → Kq90E u0 (G.2.2.2.1 u a0 a1)) (hG4 : ∀ (u : MS) a0 a1, Kq90c u0 u → Kq90E u0 (G.2.2.2.2.1 u a0 a1)) (hG5 : ∀ (u : MS) a0 a1 a2 a3 a4, Kq90c u0 u → Kq90E u0 (G.2.2.2.2.2.1 u a0 a1 a2 a3 a4)) (hG6 : ∀ (u : MS) a0 a1, Kq90c u0 u → Kq90E u0 (G.2.2.2.2.2.2 u a0 a1)) : Kq90E u0 (fb_M_clear_91 N G u v1 v2) := by
  unfold fb_M_clear_91
  repeat' (first | with_reducible assumption | with_reducible refine Kq90_br ?_ ?_ | with_reducible refine Kq90_bnd ?_ (fun _ _ _ => ?_) | with_reducible refine Kq90_ck ?_ | with_reducible refine Kq90_ltm ?_ (fun _ _ => ?_) | with_reducible refine Kq90_some ?_ | with_reducible refine Kq90_bo (fun _ => ?_) | with_reducible refine Kq90_T ?_ (fun _ _ _ => ?_) | with_reducible refine Kq90_H ?_ (fun _ _ _ => ?_) (fun _ _ => ?_) | with_reducible exact y90_fm_M_carried (by assumption) | with_reducible exact hG0 _ _ _ (by assumption) | with_reducible exact hG1 _ _ _ (by assumption) | with_reducible exact hG2 _ _ _ (by assumption) | with_reducible exact hG3 _ _ _ (by assumption) | with_reducible exact hG4 _ _ _ (by assumption) | with_reducible exact hG5 _ _ _ _ _ _ (by assumption) | with_reducible exact hG6 _ _ _ (by assumption) | with_reducible refine Kq90_ltv (fun _ => ?_) | with_reducible refine Kq90_I ?_ (by decide) | with_reducible refine Kq90_A ?_ (by decide) | with_reducible refine Kq90_J ?_ | with_reducible refine Kq90_L ?_)
theorem y90_fb_M_clear_44 {G : (MS → Int32 → Int32 → Option (MS × Unit)) × (MS → Int32 → Int32 → Option (MS × Unit)) × (MS → Int32 → Int32 → Option (MS × Unit)) × (MS → Int32 → Int32 → Option (MS × Unit)) × (MS → Int32 → Int32 → Option (MS × Unit)) × (MS → Int32 → Int32 → Int32 → Int32 → Int32 → Option (MS × Unit)) × (MS → Int32 → Int32 → Option (MS × Unit))} {v1 : Int32} {v2 : Int32} (h : Kq90c u0 u) (hG0 : ∀ (u : MS) a0 a1, Kq90c u0 u → Kq90E u0 (G.1 u a0 a1)) (hG1 : ∀ (u : MS) a0 a1, Kq90c u0 u → Kq90E u0 (G.2.1 u a0 a1)) (hG2 : ∀ (u : MS) a0 a1, Kq90c u0 u → Kq90E u0 (G.2.2.1 u a0 a1)) (hG3 : ∀ (u : MS) a0 a1, Kq90c u0 u → Kq90E u0 (G.2.2.2.1 u a0 a1)) (hG4 : ∀ (u : MS) a0 a1, Kq90c u0 u → Kq90E u0 (G.2.2.2.2.1 u a0 a1)) (hG5 : ∀ (u : MS) a0 a1 a2 a3 a4, Kq90c u0 u → Kq90E u0 (G.2.2.2.2.2.1 u a0 a1 a2 a3 a4)) (hG6 : ∀ (u : MS) a0 a1, Kq90c u0 u → Kq90E u0 (G.2.2.2.2.2.2 u a0 a1)) : Kq90E u0 (fb_M_clear_44 N G u v1 v2) := by
  unfold fb_M_clear_44
  repeat' (first | with_reducible assumption | with_reducible refine Kq90_br ?_ ?_ | with_reducible refine Kq90_bnd ?_ (fun _ _ _ => ?_) | with_reducible refine Kq90_ck ?_ | with_reducible refine Kq90_ltm ?_ (fun _ _ => ?_) | with_reducible refine Kq90_some ?_ | with_reducible refine Kq90_bo (fun _ => ?_) | with_reducible refine Kq90_T ?_ (fun _ _ _ => ?_) | with_reducible refine Kq90_H ?_ (fun _ _ _ => ?_) (fun _ _ => ?_) | with_reducible exact y90_fm_M_carried (by assumption) | with_reducible exact hG0 _ _ _ (by assumption) | with_reducible exact hG1 _ _ _ (by assumption) | with_reducible exact hG2 _ _ _ (by assumption) | with_reducible exact hG3 _ _ _ (by assumption) | with_reducible exact hG4 _ _ _ (by assumption) | with_reducible exact hG5 _ _ _ _ _ _ (by assumption) | with_reducible exact hG6 _ _ _ (by assumption) | with_reducible refine Kq90_ltv (fun _ => ?_) | with_reducible refine Kq90_I ?_ (by decide) | with_reducible refine Kq90_A ?_ (by decide) | with_reducible refine Kq90_J ?_ | with_reducible refine Kq90_L ?_)
theorem y90_fb_M_clear_22 {G : (MS → Int32 → Int32 → Option (MS × Unit)) × (MS → Int32 → Int32 → Option (MS × Unit)) × (MS → Int32 → Int32 → Option (MS × Unit)) × (MS → Int32 → Int32 → Option (MS × Unit)) × (MS → Int32 → Int32 → Option (MS × Unit)) × (MS → Int32 → Int32 → Int32 → Int32 → Int32 → Option (MS × Unit)) × (MS → Int32 → Int32 → Option (MS × Unit))} {v1 : Int32} {v2 : Int32} (h : Kq90c u0 u) (hG0 : ∀ (u : MS) a0 a1, Kq90c u0 u → Kq90E u0 (G.1 u a0 a1)) (hG1 : ∀ (u : MS) a0 a1, Kq90c u0 u → Kq90E u0 (G.2.1 u a0 a1)) (hG2 : ∀ (u : MS) a0 a1, Kq90c u0 u → Kq90E u0 (G.2.2.1 u a0 a1)) (hG3 : ∀ (u : MS) a0 a1, Kq90c u0 u → Kq90E u0 (G.2.2.2.1 u a0 a1)) (hG4 : ∀ (u : MS) a0 a1, Kq90c u0 u → Kq90E u0 (G.2.2.2.2.1 u a0 a1)) (hG5 : ∀ (u : MS) a0 a1 a2 a3 a4, Kq90c u0 u → Kq90E u0 (G.2.2.2.2.2.1 u a0 a1 a2 a3 a4)) (hG6 : ∀ (u : MS) a0 a1, Kq90c u0 u → Kq90E u0 (G.2.2.2.2.2.2 u a0 a1)) : Kq90E u0 (fb_M_clear_22 N G u v1 v2) := by
  unfold fb_M_clear_22
  repeat' (first | with_reducible assumption | with_reducible refine Kq90_br ?_ ?_ | with_reducible refine Kq90_bnd ?_ (fun _ _ _ => ?_) | with_reducible refine Kq90_ck ?_ | with_reducible refine Kq90_ltm ?_ (fun _ _ => ?_) | with_reducible refine Kq90_some ?_ | with_reducible refine Kq90_bo (fun _ => ?_) | with_reducible refine Kq90_T ?_ (fun _ _ _ => ?_) | with_reducible refine Kq90_H ?_ (fun _ _ _ => ?_) (fun _ _ => ?_) | with_reducible exact hG0 _ _ _ (by assumption) | with_reducible exact hG1 _ _ _ (by assumption) | with_reducible exact hG2 _ _ _ (by assumption) | with_reducible exact hG3 _ _ _ (by assumption) | with_reducible exact hG4 _ _ _ (by assumption) | with_reducible exact hG5 _ _ _ _ _ _ (by assumption) | with_reducible exact hG6 _ _ _ (by assumption) | with_reducible refine Kq90_ltv (fun _ => ?_) | with_reducible refine Kq90_I ?_ (by decide) | with_reducible refine Kq90_A ?_ (by decide) | with_reducible refine Kq90_J ?_ | with_reducible refine Kq90_L ?_)
theorem y90_gg_M_clear  (n : Nat) : (∀ (u : MS) a0 a1, Kq90c u0 u → Kq90E u0 ((gg_M_clear N n).1 u a0 a1)) ∧ (∀ (u : MS) a0 a1, Kq90c u0 u → Kq90E u0 ((gg_M_clear N n).2.1 u a0 a1)) ∧ (∀ (u : MS) a0 a1, Kq90c u0 u → Kq90E u0 ((gg_M_clear N n).2.2.1 u a0 a1)) ∧ (∀ (u : MS) a0 a1, Kq90c u0 u → Kq90E u0 ((gg_M_clear N n).2.2.2.1 u a0 a1)) ∧ (∀ (u : MS) a0 a1, Kq90c u0 u → Kq90E u0 ((gg_M_clear N n).2.2.2.2.1 u a0 a1)) ∧ (∀ (u : MS) a0 a1 a2 a3 a4, Kq90c u0 u → Kq90E u0 ((gg_M_clear N n).2.2.2.2.2.1 u a0 a1 a2 a3 a4)) ∧ (∀ (u : MS) a0 a1, Kq90c u0 u → Kq90E u0 ((gg_M_clear N n).2.2.2.2.2.2 u a0 a1)) := by
  induction n with
  | zero => exact ⟨fun _ _ _ _ => Kq90_none, fun _ _ _ _ => Kq90_none, fun _ _ _ _ => Kq90_none, fun _ _ _ _ => Kq90_none, fun _ _ _ _ => Kq90_none, fun _ _ _ _ _ _ _ => Kq90_none, fun _ _ _ _ => Kq90_none⟩
  | succ n ih => exact ⟨fun _ _ _ h => y90_fb_M_clear_22 (N := N) h ih.1 ih.2.1 ih.2.2.1 ih.2.2.2.1 ih.2.2.2.2.1 ih.2.2.2.2.2.1 ih.2.2.2.2.2.2, fun _ _ _ h => y90_fb_M_clear_44 (N := N) h ih.1 ih.2.1 ih.2.2.1 ih.2.2.2.1 ih.2.2.2.2.1 ih.2.2.2.2.2.1 ih.2.2.2.2.2.2, fun _ _ _ h => y90_fb_M_clear_91 (N := N) h ih.1 ih.2.1 ih.2.2.1 ih.2.2.2.1 ih.2.2.2.2.1 ih.2.2.2.2.2.1 ih.2.2.2.2.2.2, fun _ _ _ h => y90_fb_M_clear_138 (N := N) h ih.1 ih.2.1 ih.2.2.1 ih.2.2.2.1 ih.2.2.2.2.1 ih.2.2.2.2.2.1 ih.2.2.2.2.2.2, fun _ _ _ h => y90_fb_M_clear_204 (N := N) h ih.1 ih.2.1 ih.2.2.1 ih.2.2.2.1 ih.2.2.2.2.1 ih.2.2.2.2.2.1 ih.2.2.2.2.2.2, fun _ _ _ _ _ _ h => y90_fb_M_clear_281 (N := N) h ih.1 ih.2.1 ih.2.2.1 ih.2.2.2.1 ih.2.2.2.2.1 ih.2.2.2.2.2.1 ih.2.2.2.2.2.2, fun _ _ _ h => y90_fb_M_clear_337 (N := N) h ih.1 ih.2.1 ih.2.2.1 ih.2.2.2.1 ih.2.2.2.2.1 ih.2.2.2.2.2.1 ih.2.2.2.2.2.2⟩
end
end
section
set_option maxRecDepth 100000
def CRt (B W Y q K i : Nat) : Prop := (K = pq q 33 ∧ i < B) ∨ (K = pq q 35 ∧ i < W) ∨ (K = pq q 6 ∧ i < Y)
def MRt (oM bM xM q K i : Nat) : Prop := (K = 91 ∧ 46000 * q ≤ i ∧ i < 46000 * q + oM) ∨ (K = 93 ∧ 2500 * q ≤ i ∧ i < 2500 * q + bM) ∨ (K = 107 ∧ 30 * q ≤ i ∧ i < 30 * q + xM)
def RTZ (b : Int → Nat → Nat → Prop) (m w : MS) (q B W Y oM bM xM : Nat) : Prop :=
  (∀ K i, CRt B W Y q K i → isH (m.2.2.2 K i) → (∃ K2 i2, MRt oM bM xM q K2 i2 ∧ RTb b (m.2.2.2 K i) (w.2.2.2 K2 i2)) ∨ (F w 140 = ((q : Nat) : Int) ∧ RTb b (m.2.2.2 K i) (w.2.1 139))) ∧
  (∀ K2 i2, MRt oM bM xM q K2 i2 → isH (w.2.2.2 K2 i2) → ∃ K i, CRt B W Y q K i ∧ RTb b (m.2.2.2 K i) (w.2.2.2 K2 i2)) ∧
  (F w 140 = ((q : Nat) : Int) → isH (w.2.1 139) → ∃ K i, CRt B W Y q K i ∧ RTb b (m.2.2.2 K i) (w.2.1 139))
def XFR (b b2 : Int → Nat → Nat → Prop) (m w m2 w2 : MS) (q B W Y oM bM xM : Nat) : Prop :=
  (∃ U : Nat, F m2 (pq q 4) = ((U : Nat) : Int) ∧ A w2 89 q = ((U : Nat) : Int) ∧ U ≤ 500 ∧ ISb b2 (m2.2.2.2 (pq q 2)) U (hp w2 q) U) ∧
  (∀ K i K2 i2, CRt B W Y q K i → MRt oM bM xM q K2 i2 → RTb b (m.2.2.2 K i) (w.2.2.2 K2 i2) → RTb b2 (m2.2.2.2 K i) (w2.2.2.2 K2 i2)) ∧
  (F w 140 = ((q : Nat) : Int) → ∀ K i, CRt B W Y q K i → RTb b (m.2.2.2 K i) (w.2.1 139) → RTb b2 (m2.2.2.2 K i) (w2.2.1 139)) ∧ (F w 140 ≠ ((q : Nat) : Int) → w2.2.1 139 = w.2.1 139)
section
variable {b b2 : Int → Nat → Nat → Prop} {h' : Nat → Int64} {n n' N q B W Y oM bM xM : Nat} {ow kd ow' kd' : Nat → Nat} {Fv Fv' : Int64 → Int64 → Prop} {P P' : Int64 → Prop} {m w m2 w2 : MS} {k : Int}
theorem clr_90 (hq : q < 24) : PK (fun w2 (_ : Unit) => w2.2.2.1 90 = upd (w.2.2.1 90) q (w.2.2.1 90 q + 1)) (fm_M_clear N w (I (q : Nat))) := by
  unfold fm_M_clear fb_M_clear_0
  refine pk_ck (fun _ => pk_ck (fun _ => pk_ltq (pk_ltq (pk_ltq ?_))))
  rw [tnI (n := q) rfl (by omega)]
  refine pk_mo (fun v r e => (y90_gg_M_clear (N := N) N).1 _ _ _ Kq90_rf v r e) (fun v r (hv : Kq90c _ v) => ?_)
  rw [hv]
  show (if (90 : Nat) = 90 then upd (w.2.2.1 90) q (w.2.2.1 90 q + 1) else w.2.2.1 90) = _
  exact if_pos rfl
theorem clear_pp (p : PTQ m q n ow kd Fv P B W Y) (hF : FVc Fv) (hP : ∀ t, P t → PT m t) (x : CX w q h' n' ow' kd' Fv' P' oM bM xM) (s : ISb b (m.2.2.2 (pq q 2)) n h' n') (z : RTZ b m w q B W Y oM bM xM) (hN : 60000 + B + W + Y ≤ N) : PP (fun m2 _ w2 _ => (∃ b2, XFR b b2 m w m2 w2 q B W Y oM bM xM) ∧ m2.1 (pq q 5) = m.1 (pq q 5) + 1 ∧ w2.2.2.1 90 = upd (w.2.2.1 90) q (w.2.2.1 90 q + 1)) (hm_Pr_clearHeap N m q) (fm_M_clear N w (I (q : Nat))) := by
  obtain ⟨z1, z2, z3⟩ := z
  have p0 := p
  have x0 := x
  obtain ⟨⟨p1, p2, p3⟩, ⟨p4, p5⟩, ⟨p6, p7⟩, ⟨p8, p9⟩, p10⟩ := p
  obtain ⟨x1, x2, x3, x4, x5, x6, x7, x8, x9, x10, x11⟩ := x
  have gC : ∀ K i, CRt B W Y q K i → GT n ow kd P (m.2.2.2 K i) := fun K i c => by
    rcases c with ⟨rfl, c⟩ | ⟨rfl, c⟩ | ⟨rfl, c⟩
    · exact p5 i c
    · exact p7 i c
    · exact p9 i c
  have gM : ∀ K i, MRt oM bM xM q K i → GT n' ow' kd' P' (w.2.2.2 K i) := fun K i c => by
    rcases c with ⟨rfl, c1, c2⟩ | ⟨rfl, c1, c2⟩ | ⟨rfl, c1, c2⟩
    · have := x8 (i - 46000 * q) (by omega); rw [show 46000 * q + (i - 46000 * q) = i by omega] at this; exact this
    · have := x9 (i - 2500 * q) (by omega); rw [show 2500 * q + (i - 2500 * q) = i by omega] at this; exact this
    · have := x10 (i - 30 * q) (by omega); rw [show 30 * q + (i - 30 * q) = i by omega] at this; exact this
  let T : Int64 → Prop := fun t => ∃ K i, CRt B W Y q K i ∧ m.2.2.2 K i = t
  let T' : Int64 → Prop := fun y => (∃ K i, MRt oM bM xM q K i ∧ w.2.2.2 K i = y) ∨ (F w 140 = ((q : Nat) : Int) ∧ w.2.1 139 = y)
  have rC : ∀ K i, CRt B W Y q K i → GT n (owR (m.2.2.2 (pq q 2)) n ow kd P T) kd P (m.2.2.2 K i) := fun K i c => GT_R2 (gC K i c) (fun z => rch_root z ⟨K, i, c, rfl⟩)
  have rM : ∀ K i, MRt oM bM xM q K i → GT n' (owR h' n' ow' kd' P' T') kd' P' (w.2.2.2 K i) := fun K i c => GT_R2 (gM K i c) (fun z => rch_root z (Or.inl ⟨K, i, c, rfl⟩))
  have pR : PTQ m q n (owR (m.2.2.2 (pq q 2)) n ow kd P T) kd Fv P B W Y := ⟨⟨p1, p2, HPc_R p3⟩, ⟨p4, fun i hi => rC _ i (Or.inl ⟨rfl, hi⟩)⟩, ⟨p6, fun i hi => rC _ i (Or.inr (Or.inl ⟨rfl, hi⟩))⟩, ⟨p8, fun i hi => rC _ i (Or.inr (Or.inr ⟨rfl, hi⟩))⟩, p10⟩
  have xR : CX w q h' n' (owR h' n' ow' kd' P' T') kd' Fv' P' oM bM xM := ⟨x1, HP_R x2, x3, x4, x5, x6, x7, fun i hi => rM _ _ (Or.inl ⟨rfl, by omega, by omega⟩), fun i hi => rM _ _ (Or.inr (Or.inl ⟨rfl, by omega, by omega⟩)), fun i hi => rM _ _ (Or.inr (Or.inr ⟨rfl, by omega, by omega⟩)), fun e => GT_R2 (x11 e) (fun z => rch_root z (Or.inr ⟨e, rfl⟩))⟩
  intro m2 r w2 r2 e1 e2
  obtain ⟨U, src, bs, ⟨u1, u2, u3⟩, c1, c2, c3, c4, c5⟩ := pk_ok (clearHeap_x (N := N) pR hF hP (by omega)) m2 r e1
  obtain ⟨U', ow2, kd2, fd, R, ⟨k1, k2, k3, k4, k5, k6, k7, k8, k9, k10, k11, k12⟩, k13, k14⟩ := pk_ok (clear_x (N := N) xR (by omega)) w2 r2 e2
  have ro : ∀ K i, CRt B W Y q K i → RTO U src bs (m.2.2.2 K i) (m2.2.2.2 K i) := fun K i c => by
    rcases c with ⟨rfl, c⟩ | ⟨rfl, c⟩ | ⟨rfl, c⟩
    · exact c3 i c
    · exact c4 i c
    · exact c5 i c
  have rm : ∀ K i, MRt oM bM xM q K i → w2.2.2.2 K i = fd (w.2.2.2 K i) ∧ (isH (w.2.2.2 K i) → R (w.2.2.2 K i)) := fun K i c => by
    rcases c with ⟨rfl, c⟩ | ⟨rfl, c⟩ | ⟨rfl, c⟩
    · exact (k8 i).1 c
    · exact (k9 i).1 c
    · exact (k10 i).1 c
  have hr : ∀ t, isH t → T t → ∃ x, RTb b t x ∧ R x ∧ GT n ow kd P t := fun t zt ⟨K, i, c, e⟩ => by
    subst e
    rcases z1 K i c zt with ⟨K2, i2, y1, y2⟩ | ⟨y1, y2⟩
    · exact ⟨_, y2, (rm K2 i2 y1).2 ((RTb_isH y2).mpr zt), gC K i c⟩
    · exact ⟨_, y2, (k11 y1).2 ((RTb_isH y2).mpr zt), gC K i c⟩
  have mv : ∀ {t t2 : Int64}, isH t → RTO U src bs t t2 → ∃ a, MVc U src bs t a := fun {t t2} zt ro => by
    rcases ro with ⟨y, -⟩ | ⟨-, -, a, -, y1, y2, y3⟩
    · exact absurd zt y
    · exact ⟨a, y1, y2, y3⟩
  have hr' : ∀ x, isH x → T' x → ∃ t a, RTb b t x ∧ MVc U src bs t a ∧ GT n' ow' kd' P' x := fun x zx c => by
    rcases c with ⟨K2, i2, c, e⟩ | ⟨c, e⟩
    · subst e
      obtain ⟨K, i, y1, y2⟩ := z2 K2 i2 c zx
      obtain ⟨a, ha⟩ := mv ((RTb_isH y2).mp zx) (ro K i y1)
      exact ⟨_, a, y2, ha, gM K2 i2 c⟩
    · subst e
      obtain ⟨K, i, y1, y2⟩ := z3 c zx
      obtain ⟨a, ha⟩ := mv ((RTb_isH y2).mp zx) (ro K i y1)
      exact ⟨_, a, y2, ha, x11 c⟩
  obtain ⟨is2, eU⟩ := clear_iso (T := T) (T' := T') s ⟨by omega, by omega⟩ p3 hF x2 c1 u2 c2 k1 k3 k4 k13 k14 hr hr'
  subst eU
  refine ⟨⟨b2x b U src bs fd R, ⟨U, u1, by rw [k5, if_pos rfl], by omega, is2⟩, fun K i K2 i2 y1 y2 y3 => ?_, fun e K i y1 y3 => ?_, k12⟩, u3, clr_90 x4 w2 r2 e2⟩
  · rw [(rm K2 i2 y2).1]
    exact b2x_r s.2.1 k1 y3 (ro K i y1) (rm K2 i2 y2).2
  · rw [(k11 e).1]
    exact b2x_r s.2.1 k1 y3 (ro K i y1) (k11 e).2
theorem want_pp (p : PTQ m q n ow kd Fv P B W Y) (hF : FVc Fv) (hP : ∀ t, P t → PT m t) (x : CX w q h' n ow' kd' Fv' P' oM bM xM) (hu : A w 89 q = ((n : Nat) : Int)) (s : ISb b (m.2.2.2 (pq q 2)) n h' n) (z : RTZ b m w q B W Y oM bM xM) (h90 : m.1 (pq q 5) = w.2.2.1 90 q) (k0 : 0 ≤ k) (hk : RG ((n : Nat) + k)) (hN : 60000 + B + W + Y ≤ N) : PP (fun m2 r w2 r2 => (∃ b2, XFR b b2 m w m2 w2 q B W Y oM bM xM) ∧ m2.1 (pq q 5) = w2.2.2.1 90 q ∧ (∀ p, p ≠ q → w2.2.2.1 90 p = w.2.2.1 90 p) ∧ (r = r2 ∧ (r = 0 ∨ r = 1)) ∧ (r ≠ 0 → F m2 (pq q 4) + k ≤ 500)) (hm_Pr_want N m q (I k)) (fm_M_wants N w (I (q : Nat)) (I k)) := by
  have x4 := x.2.2.2.1
  have x1 := x.1
  have fin : ∀ (m2 w2 : MS) (U : Nat), F m2 (pq q 4) = ((U : Nat) : Int) → A w2 89 q = ((U : Nat) : Int) → U ≤ n → (∃ b2, XFR b b2 m w m2 w2 q B W Y oM bM xM) → m2.1 (pq q 5) = w2.2.2.1 90 q → (∀ p, p ≠ q → w2.2.2.1 90 p = w.2.2.1 90 p) → RG ((U : Nat) + k) → PP (fun m2 r w2 r2 => (∃ b2, XFR b b2 m w m2 w2 q B W Y oM bM xM) ∧ m2.1 (pq q 5) = w2.2.2.1 90 q ∧ (∀ p, p ≠ q → w2.2.2.1 90 p = w.2.2.1 90 p) ∧ (r = r2 ∧ (r = 0 ∨ r = 1)) ∧ (r ≠ 0 → F m2 (pq q 4) + k ≤ 500)) (hb_Pr_want_16 N () m2 q (I k)) (fb_M_wants_19 N () w2 (I (q : Nat)) (I k)) := fun m2 w2 U e1 e2 _ e4 e5 e6 hr => by
    unfold hb_Pr_want_16 hb_Pr_want_33 fb_M_wants_19 fb_M_wants_38
    refine r_ck (fun _ => ?_)
    rw [tnI (n := q) rfl (by omega), I_F' e1, I_A' e2, I_add, lit500, decL (by decide) (by decide) hr.1 hr.2]
    by_cases y : (500 : Int) < ((U : Nat) : Int) + k
    · rw [decide_eq_true y, br_tq, br_tq]
      exact l_ck (fun _ => r_ck (fun _ => pp_end ⟨e4, e5, e6, ⟨rfl, Or.inl rfl⟩, fun z => absurd rfl z⟩))
    · rw [decide_eq_false y, br_fq, br_fq]
      exact l_ck (fun _ => r_ck (fun _ => pp_end ⟨e4, e5, e6, ⟨rfl, Or.inr rfl⟩, fun _ => by rw [e1]; omega⟩))
  have p1 := p.1.1
  unfold hm_Pr_want hb_Pr_want_0 fm_M_wants fb_M_wants_0
  refine r_ck (fun _ => ?_)
  rw [tnI (n := q) rfl (by omega), I_F' p1, I_A' hu, I_add, lit500, decI hk.1 hk.2 (by decide) (by decide)]
  by_cases y : ((n : Nat) : Int) + k ≤ (500 : Int)
  · rw [decide_eq_true y, br_tq, br_tq]
    refine fin m w n p1 hu (Nat.le_refl _) ⟨b, ⟨n, p1, hu, p.1.2.1, by rw [x1]; exact s⟩, fun K i K2 i2 _ _ y3 => y3, fun _ K i _ y3 => y3, fun _ => rfl⟩ h90 (fun _ _ => rfl) hk
  · rw [decide_eq_false y, br_fq, br_fq]
    have un : PK (fun m2 (_ : Unit) => ∃ U : Nat, F m2 (pq q 4) = ((U : Nat) : Int) ∧ U ≤ n) (hm_Pr_clearHeap N m q) := fun m2 r e => by
      obtain ⟨U, _, _, p2, hU, _⟩ := pk_ok (clearHeap_ok (N := N) p hF hP (by omega)) m2 r e
      exact ⟨U, p2.1.1, hU⟩
    refine pp_bb (pp_mo (pp_pl (clear_pp p hF hP x s z hN) un) (fun m2 r w2 r2 q9 => ?_))
    obtain ⟨⟨⟨b2, xf⟩, y1, y2⟩, U, y3, y4⟩ := q9
    obtain ⟨U2, f1, f2, -⟩ := xf.1
    have : U2 = U := by omega
    subst this
    have hk2 := hk.2
    refine fin m2 w2 U2 f1 f2 y4 ⟨b2, xf⟩ ?_ (fun p hp => ?_) ⟨by omega, by omega⟩
    · rw [y1, y2, h90]
      exact (if_pos rfl).symm
    · rw [y2]
      exact if_neg hp
end
end
section
set_option maxRecDepth 100000
section
variable {b : Int → Nat → Nat → Prop} {h h' : Nat → Int64} {n n' n0 n0' N v p : Nat} {t x : Int64} {ow kd ow' kd' : Nat → Nat} {Fv Fv' : Int64 → Int64 → Prop} {P P' : Int64 → Prop} {m w : MS}
theorem size_pp (hv : v ≠ 45) (hh : m.2.2.2 v = h) (hh' : hp w p = h') (g : HPc h n ow kd Fv P) (hn : n ≤ 500) (hF : FVc Fv) (g' : HP h' n' ow' kd' Fv' P') (hn' : n' ≤ 500) (hp1 : p < 25) (s : ISb b h n0 h' n0') (q : TPb b n ow kd P n' ow' kd' P' t x) (hN : 6000 ≤ N) : PP (fun m2 r w2 r2 => (FR [] [] [] [45] m m2 ∧ FR [] [] [] [141] w w2) ∧ ∃ z : Nat, z ≤ 1000 ∧ (∃ f, SZc h n ow kd Fv P f t z) ∧ (∃ f, SZ h' n' ow' kd' Fv' P' f x z) ∧ r = I (z : Nat) ∧ r2 = I ((if z ≤ 500 then z else 501 : Nat))) (hm_Te_size N m v t) (fm_M_copySize N w (I (p : Nat)) x) := by
  obtain ⟨r, g1, g2⟩ := q
  obtain ⟨f, z, y⟩ := HP_szc g g1
  obtain ⟨f', z', y'⟩ := HP_sz g' g2
  have e := SZ_iso s r y y'
  subst e
  have hz := SZ_1000c g hn y
  intro m2 r1 w2 r2 e1 e2
  obtain ⟨a1, a2⟩ := pk_ok (size_ok (N := N) hv hh (by omega) hF.1 (by omega) y hN) m2 r1 e1
  obtain ⟨c1, c2⟩ := pk_ok (copySize_ok (N := N) (by rw [hh']; exact g') hn' hp1 (by rw [hh']; exact y') (by omega)) w2 r2 e2
  exact ⟨⟨a1, c1⟩, z, hz, ⟨f, y⟩, ⟨f', y'⟩, a2, c2⟩
theorem len_loopP (hh : m.2.2.2 v = h) (hh' : hp w p = h') (g : HPc h n ow kd Fv P) (hn : n ≤ 512) (g' : HP h' n' ow' kd' Fv' P') (hn' : n' ≤ 500) (hp1 : p < 25) (hme : F w 133 = p) (s : ISb b h n0 h' n0') : ∀ (f1 f2 z f cn : Nat) (t x : Int64), TPb b n ow kd P n' ow' kd' P' t x → SZc h n ow kd Fv P f t z → cn + z ≤ 10000 → PP (fun m2 r w2 r2 => (m2 = m ∧ w2 = w) ∧ r = r2 ∧ (r = I (-1) ∨ ∃ k : Nat, r = I ((cn + k : Nat) : Int) ∧ 2 * k ≤ z ∧ so (tlc h t k) = 6 ∧ so (tlc h' x k) = 6 ∧ ∀ j, j < k → so (tlc h t j) = 7 ∧ TPb b n ow kd P n' ow' kd' P' (tlc h t j) (tlc h' x j))) (hg_Te_listLength N f1 m v t (I (cn : Nat))) (gg_M_lengthOf N f2 w x (I (cn : Nat))) := by
  intro f1
  induction f1 with
  | zero => intro f2 z f cn t x _ _ _; exact pp_nl
  | succ f1 ih =>
    intro f2 z f cn t x q y hc
    cases f2 with
    | zero => exact pp_nr
    | succ f2 =>
      show PP _ (hb_Te_listLength_6 N (hg_Te_listLength N f1) m v t (I (cn : Nat))) (fb_M_lengthOf_5 N (gg_M_lengthOf N f2) w x (I (cn : Nat)))
      unfold hb_Te_listLength_6 hb_Te_listLength_38 hb_Te_listLength_54 fb_M_lengthOf_5 fb_M_lengthOf_50
      have hr := so_r t
      have es := RTb_so q.1
      rw [I_lit (n := 1000000000)]
      refine l_le ⟨by decide, by decide⟩ (rgN (by omega)) (fun z => absurd z (by show ¬ (1000000000 : Int) ≤ _; omega)) (fun _ => ?_)
      rw [e_tag, bnd_so, sortOf_e, bnd_so, es, dcE hr (c := 7) (k := 7) rfl ⟨by decide, by decide⟩]
      by_cases e7 : so t = 7
      · rw [decide_eq_true e7, br_tq, br_tq]
        have zt : isH t := Or.inr (Or.inr e7)
        have zx := (RTb_isH q.1).mpr zt
        have bk := (HP_bkc g zt q.2.1).1
        have bk' := (HP_bk g' zx q.2.2).1
        have b2 : blk h t = 2 := by unfold blk; rw [if_pos e7]
        have b2' : blk h' x = 2 := by unfold blk; rw [if_pos (es.trans e7)]
        have pt : prt t = 0 := by unfold prt; rw [if_pos e7]
        have n1 := bk.2.2.2.1
        have n2 := bk'.2.2.2.1
        rw [b2] at n1
        rw [b2'] at n2
        rw [valI, vn_e bk.1, show I ((vn t : Nat) : Int) + 1 = I ((vn t + 1 : Nat) : Int) from addN, valueOf_e, bnd_so, vn_e bk'.1, show I ((vn x : Nat) : Int) + 1 = I ((vn x + 1 : Nat) : Int) from addN, I_F' hme, cell_e hp1 (by omega), bnd_so]
        refine l_ck (fun _ => ?_)
        rw [tnI (n := vn t + 1) rfl (by omega), hh, hh', show I ((cn : Nat) : Int) + 1 = I ((cn + 1 : Nat) : Int) from addN]
        obtain ⟨f3, c, -, k2, k3⟩ := SZ_blkc y zt
        rw [b2, pt] at k3
        have e2 : smm c 0 (2 - 0) = c 0 + c 1 := by show 0 + c (0 + 0) + c (0 + 1) = _; simp
        have qp := TPb_part s g g' zt q (j := 1) (by omega) (by omega)
        refine pp_mo (ih f2 (c 1) f3 (cn + 1) _ _ qp (k2 1 (by omega) (by omega)) (by omega)) (fun m2 r w2 r2 hq => ⟨hq.1, hq.2.1, ?_⟩)
        rcases hq.2.2 with e | ⟨k, r1, r3, r4, r5, r6⟩
        · exact Or.inl e
        · refine Or.inr ⟨k + 1, by rw [r1]; congr 1; omega, by omega, by rw [← tlc_s]; exact r4, by rw [← tlc_s]; exact r5, fun j hj => ?_⟩
          cases j with
          | zero => exact ⟨e7, q⟩
          | succ j => rw [← tlc_s, ← tlc_s]; exact r6 j (by omega)
      · rw [decide_eq_false e7, br_fq, br_fq, e_tag, bnd_so, sortOf_e, bnd_so, es, dcE hr (c := 6) (k := 6) rfl ⟨by decide, by decide⟩]
        by_cases e6 : so t = 6
        · rw [decide_eq_true e6, br_tq, br_tq]
          exact pp_end ⟨⟨rfl, rfl⟩, rfl, Or.inr ⟨0, rfl, by omega, e6, es.trans e6, fun j hj => absurd hj (Nat.not_lt_zero _)⟩⟩
        · rw [decide_eq_false e6, br_fq, br_fq]
          exact pp_end ⟨⟨rfl, rfl⟩, rfl, Or.inl rfl⟩
theorem len_pp (hh : m.2.2.2 v = h) (hh' : hp w p = h') (g : HPc h n ow kd Fv P) (hn : n ≤ 500) (g' : HP h' n' ow' kd' Fv' P') (hn' : n' ≤ 500) (hp1 : p < 25) (hme : F w 133 = p) (s : ISb b h n0 h' n0') (q : TPb b n ow kd P n' ow' kd' P' t x) : PP (fun m2 r w2 r2 => (m2 = m ∧ w2 = w) ∧ r = r2 ∧ (r = I (-1) ∨ ∃ k : Nat, r = I (k : Nat) ∧ k ≤ 500 ∧ so (tlc h t k) = 6 ∧ so (tlc h' x k) = 6 ∧ ∀ j, j < k → so (tlc h t j) = 7 ∧ TPb b n ow kd P n' ow' kd' P' (tlc h t j) (tlc h' x j))) (hm_Te_listLength N m v t) (fm_M_lengthOf N w x) := by
  obtain ⟨f, z, y⟩ := HP_szc g q.2.1
  have hz := SZ_1000c g hn y
  refine pp_mo (len_loopP (N := N) hh hh' g (by omega) g' hn' hp1 hme s N N z f 0 t x q y (by omega)) (fun m2 r w2 r2 hq => ⟨hq.1, hq.2.1, ?_⟩)
  rcases hq.2.2 with e | ⟨k, r1, r3, r4⟩
  · exact Or.inl e
  · exact Or.inr ⟨k, by rw [r1, Nat.zero_add], by omega, r4⟩
end
end
section
set_option maxRecDepth 100000
def dgT (x : Int64) : Nat → Int64 → List Int32
  | 0, _ => []
  | f + 1, u => if u.toInt ≤ 0 then [] else ((48 + ((x / u) - (x / u) / 10 * 10)).toInt32) :: dgT x f (u / 10)
def unT (x : Int64) : Nat → Int64 → Int64
  | 0, u => u
  | f + 1, u => if x.toInt < u.toInt * 10 then u else unT x f (u * 10)
def abT (v : Int32) : Int64 := if 0 ≤ v then v.toInt64 else -v.toInt64
def numT (v : Int32) : List Int32 := (if 0 ≤ v then [] else [45]) ++ dgT (abT v) 40 (unT (abT v) 40 1)
def alT (A : Nat → List Int32) (t : Int64) : List Int32 := if so t = 0 then numT (I (va t)) else if so t = 1 then A (vn t) else if so t = 2 then 35 :: numT (I (va t)) else if so t = 3 then [102, 117, 110] else if so t = 4 then 60 :: (numT (I (va t)) ++ [62]) else if so t = 6 then [91, 93] else [I (va t)]
def jnT (c : Nat → List Int32) : Nat → Nat → List Int32
  | _, 0 => []
  | i, 1 => c i
  | i, n + 2 => c i ++ 44 :: jnT c (i + 1) (n + 1)
def txF (h : Nat → Int64) (A : Nat → List Int32) : Nat → (Int64 → List Int32) × (Int64 → List Int32)
  | 0 => (fun _ => [], fun _ => [])
  | f + 1 => (fun t => if so t = 5 then 123 :: (jnT (fun j => (txF h A f).1 (h (vn t + j))) 1 (blk h t - 1) ++ [125]) else if so t = 7 then 91 :: ((txF h A f).1 (h (vn t)) ++ (txF h A f).2 (h (vn t + 1))) else alT A t, fun t => if so t = 6 then [93] else if so t = 7 then 44 :: ((txF h A f).1 (h (vn t)) ++ (txF h A f).2 (h (vn t + 1))) else 124 :: ((txF h A f).1 t ++ [93]))
theorem fuT_x : ∃ n : Nat, n = 3000 := ⟨3000, rfl⟩
noncomputable def fuT : Nat := Classical.choose fuT_x
theorem fuT_e : fuT = 3000 := Classical.choose_spec fuT_x
theorem fuT_s : ∃ f : Nat, fuT = f + 1 ∧ f = 2999 := ⟨2999, fuT_e, rfl⟩
noncomputable def TXs (h : Nat → Int64) (A : Nat → List Int32) (t : Int64) : List Int32 := (txF h A fuT).1 t
noncomputable def RSs (h : Nat → Int64) (A : Nat → List Int32) (t : Int64) : List Int32 := (txF h A fuT).2 t
theorem tx1_e {h : Nat → Int64} {A : Nat → List Int32} {f : Nat} {t : Int64} : (txF h A (f + 1)).1 t = if so t = 5 then 123 :: (jnT (fun j => (txF h A f).1 (h (vn t + j))) 1 (blk h t - 1) ++ [125]) else if so t = 7 then 91 :: ((txF h A f).1 (h (vn t)) ++ (txF h A f).2 (h (vn t + 1))) else alT A t := rfl
theorem tx2_e {h : Nat → Int64} {A : Nat → List Int32} {f : Nat} {t : Int64} : (txF h A (f + 1)).2 t = if so t = 6 then [93] else if so t = 7 then 44 :: ((txF h A f).1 (h (vn t)) ++ (txF h A f).2 (h (vn t + 1))) else 124 :: ((txF h A f).1 t ++ [93]) := rfl
def atT (sg : Nat → Int32) (fr : Nat → Nat) (a : Nat) : List Int32 := (List.range (fr (a + 1) - fr a)).map (fun k => sg (fr a + k))
def VBs (h : Nat → Int64) (t : Int64) : Prop := 0 ≤ va t ∧ va t ≤ 1000 ∧ (so t = 5 → 0 ≤ va (h (vn t)) ∧ va (h (vn t)) ≤ 1000)
def SZp (h : Nat → Int64) (R : Int64 → Prop) : Nat → Int64 → Nat → Prop
  | 0, _, _ => False
  | f + 1, t, z => (¬ isH t ∧ R t ∧ z = 0) ∨ (isH t ∧ VBs h t ∧ ∃ c : Nat → Nat, (∀ j, prt t ≤ j → j < blk h t → SZp h R f (h (vn t + j)) (c j)) ∧ z = blk h t + smm c (prt t) (blk h t - prt t))
section
variable {b : Int → Nat → Nat → Prop} {h h' : Nat → Int64} {n n' n0 n0' : Nat} {t x : Int64} {ow kd ow' kd' : Nat → Nat} {Fv Fv' : Int64 → Int64 → Prop} {P P' R : Int64 → Prop} {A A' : Nat → List Int32}
theorem jnT_eq {c d : Nat → List Int32} : ∀ {n i : Nat}, (∀ j, i ≤ j → j < i + n → c j = d j) → jnT c i n = jnT d i n
  | 0, _, _ => by unfold jnT; rfl
  | 1, i, e => by
    show c i = d i
    exact e i (Nat.le_refl _) (by omega)
  | n + 2, i, e => by
    show c i ++ 44 :: jnT c (i + 1) (n + 1) = d i ++ 44 :: jnT d (i + 1) (n + 1)
    rw [e i (Nat.le_refl _) (by omega), jnT_eq (fun j h1 h2 => e j (by omega) (by omega))]
theorem alT_0 (e : so t = 0) : alT A t = numT (I (va t)) := by unfold alT; rw [e]; rfl
theorem alT_1 (e : so t = 1) : alT A t = A (vn t) := by unfold alT; rw [e]; rfl
theorem alT_2 (e : so t = 2) : alT A t = 35 :: numT (I (va t)) := by unfold alT; rw [e]; rfl
theorem alT_3 (e : so t = 3) : alT A t = [102, 117, 110] := by unfold alT; rw [e]; rfl
theorem alT_4 (e : so t = 4) : alT A t = 60 :: (numT (I (va t)) ++ [62]) := by unfold alT; rw [e]; rfl
theorem alT_6 (e : so t = 6) : alT A t = [91, 93] := by unfold alT; rw [e]; rfl
theorem alT_20 (e : so t = 20) : alT A t = [I (va t)] := by unfold alT; rw [e]; rfl
theorem txF_iso (s : ISw b h n0 h' n0') (hA : ∀ t, ¬ isH t → alT A t = alT A' t) : ∀ (f : Nat) (t x : Int64), RTb b t x → (txF h A f).1 t = (txF h' A' f).1 x ∧ (txF h A f).2 t = (txF h' A' f).2 x := by
  intro f
  induction f with
  | zero => exact fun _ _ _ => ⟨rfl, rfl⟩
  | succ f ih =>
    intro t x r
    have es := RTb_so r
    have one : (if so t = 7 then 91 :: ((txF h A f).1 (h (vn t)) ++ (txF h A f).2 (h (vn t + 1))) else alT A t) = (if so x = 7 then 91 :: ((txF h' A' f).1 (h' (vn x)) ++ (txF h' A' f).2 (h' (vn x + 1))) else alT A' x) ∨ so t = 5 := by
      by_cases e7 : so t = 7
      · have z : isH t := Or.inr (Or.inr e7)
        obtain ⟨-, e2, -⟩ := s.1 t x z r
        have b2 : blk h t = 2 := by unfold blk; rw [if_pos e7]
        have p0 : prt t = 0 := by unfold prt; rw [if_pos e7]
        have r0 := e2 0 (by omega) (by omega)
        have r1 := e2 1 (by omega) (by omega)
        refine Or.inl ?_
        rw [es, if_pos e7, if_pos e7]
        rw [show h (vn t) = h (vn t + 0) from rfl, show h' (vn x) = h' (vn x + 0) from rfl, (ih _ _ r0).1, (ih _ _ r1).2]
      · by_cases e5 : so t = 5
        · exact Or.inr e5
        · refine Or.inl ?_
          rw [es, if_neg e7, if_neg e7]
          by_cases e3 : so t = 3
          · rw [alT_3 e3, alT_3 (es.trans e3)]
          · have nz : ¬ isH t := by unfold isH; omega
            rw [RTb_n r nz]
            exact hA t nz
    refine ⟨?_, ?_⟩
    · rw [tx1_e, tx1_e]
      by_cases e5 : so t = 5
      · have z : isH t := Or.inr (Or.inl e5)
        obtain ⟨⟨e1, -⟩, e2, -⟩ := s.1 t x z r
        have p0 : prt t = 1 := by unfold prt; rw [if_neg (by omega), if_pos e5]
        rw [if_pos e5, if_pos (es.trans e5), e1, jnT_eq (fun j h1 h2 => (ih _ _ (e2 j (by omega) (by omega))).1)]
      · rw [if_neg e5, if_neg (fun z => e5 (es.symm.trans z))]
        rcases one with q | q
        · exact q
        · exact absurd q e5
    · rw [tx2_e, tx2_e]
      rw [es]
      by_cases e6 : so t = 6
      · rw [if_pos e6, if_pos e6]
      · rw [if_neg e6, if_neg e6]
        by_cases e7 : so t = 7
        · have z : isH t := Or.inr (Or.inr e7)
          obtain ⟨-, e2, -⟩ := s.1 t x z r
          have b2 : blk h t = 2 := by unfold blk; rw [if_pos e7]
          have p0 : prt t = 0 := by unfold prt; rw [if_pos e7]
          have r0 := e2 0 (by omega) (by omega)
          have r1 := e2 1 (by omega) (by omega)
          rw [if_pos e7, if_pos e7, show h (vn t) = h (vn t + 0) from rfl, show h' (vn x) = h' (vn x + 0) from rfl, (ih _ _ r0).1, (ih _ _ r1).2]
        · rw [if_neg e7, if_neg e7, (ih _ _ r).1]
theorem TXs_iso (s : ISw b h n0 h' n0') (hA : ∀ t, ¬ isH t → alT A t = alT A' t) (r : RTb b t x) : TXs h A t = TXs h' A' x := (txF_iso s hA fuT t x r).1
theorem VBs_c (k : BKc h n ow kd Fv t) (hn : n ≤ 1000) : VBs h t := by
  obtain ⟨k1, k2, -, k3, -⟩ := k
  have e := vn_e k1
  refine ⟨k1, by omega, fun h5 => ?_⟩
  have e2 := vn_e (k2 h5).1
  have hb : blk h t = 1 + vn (h (vn t)) := by unfold blk; rw [if_neg (by omega), if_pos h5]
  exact ⟨(k2 h5).1, by omega⟩
theorem VBs_m (k : BK h n ow kd Fv t) (hn : n ≤ 1000) : VBs h t := by
  obtain ⟨k1, k2, -, k3, -⟩ := k
  have e := vn_e k1
  refine ⟨k1, by omega, fun h5 => ?_⟩
  have e2 := vn_e (k2 h5).1
  have hb : blk h t = 1 + vn (h (vn t)) := by unfold blk; rw [if_neg (by omega), if_pos h5]
  exact ⟨(k2 h5).1, by omega⟩
theorem SZp_c (hn : n ≤ 1000) (hP : ∀ t, P t → R t) : ∀ {f : Nat} {t : Int64} {z : Nat}, SZc h n ow kd Fv P f t z → SZp h R f t z
  | 0, _, _, y => y
  | f + 1, t, z, y => by
    rcases y with ⟨y1, y5, y2⟩ | ⟨y1, yk, c, y3, y4⟩
    · exact Or.inl ⟨y1, hP t y5, y2⟩
    · exact Or.inr ⟨y1, VBs_c yk hn, c, fun j h1 h2 => SZp_c hn hP (y3 j h1 h2), y4⟩
theorem SZp_m (hn : n ≤ 1000) (hP : ∀ t, P t → R t) : ∀ {f : Nat} {t : Int64} {z : Nat}, SZ h n ow kd Fv P f t z → SZp h R f t z
  | 0, _, _, y => y
  | f + 1, t, z, y => by
    rcases y with ⟨y1, y5, y2⟩ | ⟨y1, yk, c, y3, y4⟩
    · exact Or.inl ⟨y1, hP t y5, y2⟩
    · exact Or.inr ⟨y1, VBs_m yk hn, c, fun j h1 h2 => SZp_m hn hP (y3 j h1 h2), y4⟩
theorem txF_st : ∀ (k : Nat) {t : Int64} {z f g0 : Nat}, SZp h R k t z → (z + 1 ≤ f → z + 1 ≤ g0 → (txF h A f).1 t = (txF h A g0).1 t) ∧ (z + 2 ≤ f → z + 2 ≤ g0 → (txF h A f).2 t = (txF h A g0).2 t)
  | 0, _, _, _, _, z => z.elim
  | k + 1, t, z, f, g0, y => by
    have main : ∀ f g0 : Nat, z ≤ f → z ≤ g0 → (txF h A (f + 1)).1 t = (txF h A (g0 + 1)).1 t := fun f g0 hf hg => by
      rw [tx1_e, tx1_e]
      by_cases e5 : so t = 5
      · rcases y with ⟨y1, -⟩ | ⟨y1, -, c, y3, y4⟩
        · exact absurd (Or.inr (Or.inl e5)) y1
        have p1 : prt t = 1 := by unfold prt; rw [if_neg (by omega), if_pos e5]
        have bp := blk_pos (h := h) y1
        rw [if_pos e5, if_pos e5, jnT_eq (fun j h1 h2 => ?_)]
        have yj := y3 j (by omega) (by omega)
        have le := smm_le (c := c) (a := prt t) (n := blk h t - prt t) (j := j) (by omega) (by omega)
        exact (txF_st k yj).1 (by omega) (by omega)
      · rw [if_neg e5, if_neg e5]
        by_cases e7 : so t = 7
        · rcases y with ⟨y1, -⟩ | ⟨y1, -, c, y3, y4⟩
          · exact absurd (Or.inr (Or.inr e7)) y1
          have b2 : blk h t = 2 := by unfold blk; rw [if_pos e7]
          have p0 : prt t = 0 := by unfold prt; rw [if_pos e7]
          have q0 := y3 0 (by omega) (by omega)
          have q1 := y3 1 (by omega) (by omega)
          rw [b2, p0] at y4
          have e2 : smm c 0 (2 - 0) = c 0 + c 1 := by show 0 + c (0 + 0) + c (0 + 1) = _; simp
          rw [if_pos e7, if_pos e7, show h (vn t) = h (vn t + 0) from rfl, ((txF_st k q0).1 (by omega) (by omega) : (txF h A f).1 (h (vn t + 0)) = (txF h A g0).1 (h (vn t + 0))), ((txF_st k q1).2 (by omega) (by omega) : (txF h A f).2 (h (vn t + 1)) = (txF h A g0).2 (h (vn t + 1)))]
        · rw [if_neg e7, if_neg e7]
    refine ⟨fun h1 h2 => ?_, fun h1 h2 => ?_⟩
    · cases f with
      | zero => omega
      | succ f =>
        cases g0 with
        | zero => omega
        | succ g0 => exact main f g0 (by omega) (by omega)
    · cases f with
      | zero => omega
      | succ f =>
        cases g0 with
        | zero => omega
        | succ g0 =>
          rw [tx2_e, tx2_e]
          by_cases e6 : so t = 6
          · rw [if_pos e6, if_pos e6]
          · rw [if_neg e6, if_neg e6]
            by_cases e7 : so t = 7
            · rcases y with ⟨y1, -⟩ | ⟨y1, -, c, y3, y4⟩
              · exact absurd (Or.inr (Or.inr e7)) y1
              have b2 : blk h t = 2 := by unfold blk; rw [if_pos e7]
              have p0 : prt t = 0 := by unfold prt; rw [if_pos e7]
              have q0 := y3 0 (by omega) (by omega)
              have q1 := y3 1 (by omega) (by omega)
              rw [b2, p0] at y4
              have e2 : smm c 0 (2 - 0) = c 0 + c 1 := by show 0 + c (0 + 0) + c (0 + 1) = _; simp
              rw [if_pos e7, if_pos e7, show h (vn t) = h (vn t + 0) from rfl, ((txF_st k q0).1 (by omega) (by omega) : (txF h A f).1 (h (vn t + 0)) = (txF h A g0).1 (h (vn t + 0))), ((txF_st k q1).2 (by omega) (by omega) : (txF h A f).2 (h (vn t + 1)) = (txF h A g0).2 (h (vn t + 1)))]
            · rw [if_neg e7, if_neg e7]
              cases f with
              | zero => omega
              | succ f =>
                cases g0 with
                | zero => omega
                | succ g0 => rw [main f g0 (by omega) (by omega)]
theorem TXs_pair {k z : Nat} (y : SZp h R k t z) (hz : z ≤ 2900) (e7 : so t = 7) : TXs h A t = 91 :: (TXs h A (h (vn t)) ++ RSs h A (h (vn t + 1))) ∧ RSs h A t = 44 :: (TXs h A (h (vn t)) ++ RSs h A (h (vn t + 1))) := by
  cases k with
  | zero => exact y.elim
  | succ k =>
    rcases y with ⟨y1, -⟩ | ⟨y1, -, c, y3, y4⟩
    · exact absurd (Or.inr (Or.inr e7)) y1
    have b2 : blk h t = 2 := by unfold blk; rw [if_pos e7]
    have p0 : prt t = 0 := by unfold prt; rw [if_pos e7]
    have q0 : SZp h R k (h (vn t)) (c 0) := y3 0 (by omega) (by omega)
    have q1 := y3 1 (by omega) (by omega)
    rw [b2, p0] at y4
    have e2 : smm c 0 (2 - 0) = c 0 + c 1 := by show 0 + c (0 + 0) + c (0 + 1) = _; simp
    obtain ⟨f, hf, hf2⟩ := fuT_s
    have a1 := (txF_st (A := A) (f := f) (g0 := f + 1) k q0).1 (by omega) (by omega)
    have a2 := (txF_st (A := A) (f := f) (g0 := f + 1) k q1).2 (by omega) (by omega)
    unfold TXs RSs
    rw [hf, ← a1, ← a2]
    constructor
    · rw [tx1_e, if_neg (by omega), if_pos e7]
    · rw [tx2_e, if_neg (by omega), if_pos e7]
theorem TXs_tup {k z : Nat} (y : SZp h R k t z) (hz : z ≤ 2900) (e5 : so t = 5) : TXs h A t = 123 :: (jnT (fun j => TXs h A (h (vn t + j))) 1 (blk h t - 1) ++ [125]) := by
  cases k with
  | zero => exact y.elim
  | succ k =>
    rcases y with ⟨y1, -⟩ | ⟨y1, -, c, y3, y4⟩
    · exact absurd (Or.inr (Or.inl e5)) y1
    have p1 : prt t = 1 := by unfold prt; rw [if_neg (by omega), if_pos e5]
    obtain ⟨f, hf, hf2⟩ := fuT_s
    unfold TXs
    rw [hf, tx1_e, if_pos e5, jnT_eq (c := fun j => (txF h A f).1 (h (vn t + j))) (d := fun j => (txF h A (f + 1)).1 (h (vn t + j))) (fun j h1 h2 => ?_)]
    have le := smm_le (c := c) (a := prt t) (n := blk h t - prt t) (j := j) (by omega) (by omega)
    exact (txF_st (A := A) (f := f) (g0 := f + 1) k (y3 j (by omega) (by omega))).1 (by omega) (by omega)
theorem TXs_al (h5 : so t ≠ 5) (h7 : so t ≠ 7) : TXs h A t = alT A t := by
  obtain ⟨f, hf, -⟩ := fuT_s
  unfold TXs
  rw [hf, tx1_e, if_neg h5, if_neg h7]
theorem RSs_nil (h6 : so t = 6) : RSs h A t = [93] := by
  obtain ⟨f, hf, -⟩ := fuT_s
  unfold RSs
  rw [hf, tx2_e, if_pos h6]
theorem RSs_imp {k z : Nat} (y : SZp h R k t z) (hz : z ≤ 2900) (h6 : so t ≠ 6) (h7 : so t ≠ 7) : RSs h A t = 124 :: (TXs h A t ++ [93]) := by
  obtain ⟨f, hf, hf2⟩ := fuT_s
  unfold RSs TXs
  rw [hf, tx2_e, if_neg h6, if_neg h7, (txF_st (A := A) (f := f) (g0 := f + 1) k y).1 (by omega) (by omega)]
end
end
