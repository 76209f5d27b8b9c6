/-! both heaps are cleared: still alike, as many cells -/
set_option maxRecDepth 100000
/-- no more places than there are -/
theorem pigU : ∀ {V U : Nat} {r : Nat → Nat → Prop}, (∀ c, c < U → ∃ e, e < V ∧ r c e) → (∀ c c2 e, c < U → c2 < U → r c e → r c2 e → c = c2) → U ≤ V
  | 0, U, r, h1, _ => by
    cases U with
    | zero => exact Nat.le_refl _
    | succ U =>
      obtain ⟨e, he, _⟩ := h1 0 (by omega)
      omega
  | V + 1, U, r, h1, h2 => by
    by_cases z : ∃ c0, c0 < U ∧ r c0 V
    · obtain ⟨c0, hc0, rc0⟩ := z
      have k := pigU (V := V) (U := U - 1) (r := fun c e => r (if c < c0 then c else c + 1) e) (fun c hc => by
        have hl : (if c < c0 then c else c + 1) < U := by split <;> omega
        obtain ⟨e, he, re⟩ := h1 _ hl
        refine ⟨e, ?_, re⟩
        by_cases y : e = V
        · subst y
          have := h2 _ _ _ hl hc0 re rc0
          split at this <;> omega
        · omega) (fun c c2 e hc hc2 r1 r2 => by
        have hl : (if c < c0 then c else c + 1) < U := by split <;> omega
        have hl2 : (if c2 < c0 then c2 else c2 + 1) < U := by split <;> omega
        have := h2 _ _ e hl hl2 r1 r2
        split at this <;> split at this <;> omega)
      omega
    · have k := pigU (V := V) (U := U) (r := r) (fun c hc => by
        obtain ⟨e, he, re⟩ := h1 c hc
        refine ⟨e, ?_, re⟩
        by_cases y : e = V
        · subst y
          exact absurd ⟨c, hc, re⟩ z
        · omega) h2
      omega
/-- a block of the new heap there, where it was -/
def MVc (U : Nat) (src : Nat → Int64) (bs : Nat → Nat) (t : Int64) (a : Nat) : Prop := a < U ∧ bs a = a ∧ src a = t
/-- how places go together behind a clearing of both -/
def b2x (b : Int → Nat → Nat → Prop) (U : Nat) (src : Nat → Int64) (bs : Nat → Nat) (fd : Int64 → Int64) (R : Int64 → Prop) : Int → Nat → Nat → Prop := fun k a c => ∃ t x, (isH t ∧ so t = k ∧ RTb b t x) ∧ MVc U src bs t a ∧ R x ∧ c = vn (fd x)
section
variable {b : Int → Nat → Nat → Prop} {h h' d d' : Nat → Int64} {n n' U U' : Nat} {t x y t2 x2 : Int64} {ow kd ow' kd' ow2 kd2 bs : Nat → Nat} {Fv Fv' : Int64 → Int64 → Prop} {P P' T T' R : Int64 → Prop} {src : Nat → Int64} {fd : Int64 → Int64}
theorem RTb_x (j : IJb b) (z : isH t) (r1 : RTb b t x) (r2 : RTb b t y) : x = y := by
  obtain ⟨⟨-, v1⟩, q1⟩ := RTb_h r1 z
  obtain ⟨⟨-, v2⟩, q2⟩ := RTb_h r2 z
  have e := (j _ _ _ _ _ _ q1 q2).mp rfl
  refine t_ext ((RTb_so r1).trans (RTb_so r2).symm) ?_
  unfold vn at e
  omega
theorem RTb_t (j : IJb b) (z : isH t) (e0 : so t = so t2) (r1 : RTb b t x) (r2 : RTb b t2 x2) (e : vn x = vn x2) : t = t2 := by
  have z2 : isH t2 := by unfold isH; rw [← e0]; exact z
  obtain ⟨⟨v1, -⟩, q1⟩ := RTb_h r1 z
  obtain ⟨⟨v2, -⟩, q2⟩ := RTb_h r2 z2
  have e := (j _ _ _ _ _ _ q1 q2).mpr e
  refine t_ext e0 ?_
  unfold vn at e
  omega
theorem GT_eq (z : isH t) (g1 : GT n ow kd P t) (g2 : GT n ow kd P t2) (z2 : isH t2) (e : vn t = vn t2) : t = t2 := by
  rcases g1 with y | ⟨-, a1, a2, a3, a4⟩
  · exact absurd z y.1
  rcases g2 with y | ⟨-, c1, c2, c3, c4⟩
  · exact absurd z2 y.1
  rw [e] at a4
  refine t_ext (a4.symm.trans c4) ?_
  unfold vn at e
  omega
/-- what moved there is something that moved here -/
theorem mv_c (s : ISb b h n h' n') (g : HPc h n ow kd Fv P) (c : CPc h n (owR h n ow kd P T) kd P d 0 U U src bs) (hm : HOM h' n' ow' kd' d' U' ow2 kd2 P' fd R) (hr : ∀ t, isH t → T t → ∃ x, RTb b t x ∧ R x ∧ GT n ow kd P t) {a : Nat} (ha : a < U) (hb : bs a = a) : ∃ x, RTb b (src a) x ∧ R x := by
  obtain ⟨-, c2, -⟩ := c
  obtain ⟨-, -, -, z, gt, -⟩ := c2 a (Nat.zero_le _) ha
  rw [hb] at z gt
  obtain ⟨g1, g2⟩ := GT_R gt
  have key := g2 z (fun e => ∃ t x, (isH t ∧ vn t = e ∧ GT n ow kd P t) ∧ RTb b t x ∧ R x) (fun t zt ht => by
    obtain ⟨x, x1, x2, x3⟩ := hr t zt ht
    exact ⟨t, x, ⟨zt, rfl, x3⟩, x1, x2⟩) (fun t zt gt ⟨t1, x, ⟨y1, y2, y3⟩, y4, y5⟩ j h1 h2 zj => by
    have e := GT_eq y1 y3 gt zt y2
    subst e
    obtain ⟨⟨e1, -⟩, e2, -⟩ := s.1 t1 x y1 y4
    have r := e2 j h1 h2
    have zx : isH x := (RTb_isH y4).mpr y1
    have q := (hm.2 x zx y5).2.2.2.2.2 j (by rw [RTb_prt y4]; exact h1) (by rw [e1]; exact h2)
    exact ⟨_, _, ⟨zj, rfl, (HP_bkc g y1 y3).2 j h1 h2⟩, r, q.2 ((RTb_isH r).mpr zj)⟩)
  obtain ⟨t1, x, ⟨y1, y2, y3⟩, y4, y5⟩ := key
  have e := GT_eq y1 y3 g1 z y2
  rw [e] at y4
  exact ⟨x, y4, y5⟩
/-- what moved here is something that moved there -/
theorem mv_m (s : ISb b h n h' n') (g' : HP h' n' ow' kd' Fv' P') (c : CPc h n (owR h n ow kd P T) kd P d 0 U U src bs) (hm : HOM h' n' (owR h' n' ow' kd' P' T') kd' d' U' ow2 kd2 P' fd R) (hr : ∀ x, isH x → T' x → ∃ t a, RTb b t x ∧ MVc U src bs t a ∧ GT n' ow' kd' P' x) (z : isH x) (rx : R x) : ∃ t a, RTb b t x ∧ MVc U src bs t a := by
  have gt := (hm.2 x z rx).1
  obtain ⟨g1, g2⟩ := GT_R gt
  have key := g2 z (fun e => ∃ x t a, (isH x ∧ vn x = e ∧ GT n' ow' kd' P' x) ∧ RTb b t x ∧ MVc U src bs t a) (fun x zx hx => by
    obtain ⟨t, a, x1, x2, x3⟩ := hr x zx hx
    exact ⟨x, t, a, ⟨zx, rfl, x3⟩, x1, x2⟩) (fun x zx gx ⟨x1, t, a, ⟨y1, y2, y3⟩, y4, y5⟩ j h1 h2 zj => by
    have e := GT_eq y1 y3 gx zx y2
    subst e
    have zt : isH t := (RTb_isH y4).mp y1
    obtain ⟨⟨e1, -⟩, e2, -⟩ := s.1 t x1 zt y4
    have h1' : prt t ≤ j := by rw [← RTb_prt y4]; exact h1
    have h2' : j < blk h t := by rw [← e1]; exact h2
    have r := e2 j h1' h2'
    obtain ⟨a1, a2, a3⟩ := y5
    obtain ⟨-, c2, c3⟩ := c
    obtain ⟨-, -, -, -, -, -, k6, k7⟩ := c2 a (Nat.zero_le _) a1
    rw [a2, a3] at k6 k7
    have kb := k7 j h2'
    have ex : xcO h src bs (a + j) = h (vn t + j) := by
      unfold xcO
      rw [kb, a3, Nat.add_sub_cancel_left]
    have zj2 : isH (h (vn t + j)) := (RTb_isH r).mp zj
    obtain ⟨-, q2⟩ := c3 (a + j) (Nat.zero_le _) (by omega)
    rw [ex] at q2
    obtain ⟨-, b1, -, -, b2, b3, b4⟩ := (q2 zj2).2 (by omega)
    exact ⟨_, _, b1, ⟨zj, rfl, (HP_bk g' y1 y3).2 j h1 h2⟩, r, b2, b3, b4⟩)
  obtain ⟨x1, t, a, ⟨y1, y2, y3⟩, y4, y5⟩ := key
  have e := GT_eq y1 y3 g1 z y2
  rw [e] at y4
  exact ⟨t, a, y4, y5⟩
theorem blk_sv {h : Nat → Int64} (e1 : so t = so x) (e2 : vn t = vn x) : blk h t = blk h x := by unfold blk; rw [e1, e2]
/-- roots go together as before -/
theorem b2x_r (j : IJb b) (hm : HOM h' n' ow' kd' d' U' ow2 kd2 P' fd R) (r : RTb b t x) (rt : RTO U src bs t t2) (rx : isH x → R x) : RTb (b2x b U src bs fd R) t2 (fd x) := by
  rcases rt with ⟨z, e⟩ | ⟨z, e1, a, e2, e3, e4, e5⟩
  · have ex := RTb_n r z
    rw [e, ex, hm.1 t z]
    exact RTb_lit z (RTb_nil r)
  · have zx := (RTb_isH r).mpr z
    have q := hm.2 x zx (rx zx)
    have zx2 : isH (fd x) := by unfold isH; rw [q.2.1]; exact zx
    have v0 : 0 ≤ va (fd x) := by
      rcases q.2.2.1 with y | y
      · exact absurd zx2 y.1
      · exact y.2.1
    have ea : vn t2 = a := by unfold vn; rw [e2]; omega
    refine Or.inr ⟨by unfold isH; rw [e1]; exact z, by rw [q.2.1, e1, RTb_so r], ⟨by omega, v0⟩, t, x, ⟨z, e1.symm, r⟩, ⟨by rw [ea]; exact e3, by rw [ea]; exact e4, by rw [ea]; exact e5⟩, rx zx, rfl⟩
/-- both cleared -/
theorem clear_iso (s : ISb b h n h' n') (hn : n ≤ 1000 ∧ n' ≤ 1000) (g : HPc h n ow kd Fv P) (hF : FVc Fv) (g' : HP h' n' ow' kd' Fv' P') (c : CPc h n (owR h n ow kd P T) kd P d 0 U U src bs) (cU : U ≤ n) (ci : ∀ x y, x < U → y < U → bs x = x → bs y = y → vn (src x) = vn (src y) → x = y)
    (hm : HOM h' n' (owR h' n' ow' kd' P' T') kd' d' U' ow2 kd2 P' fd R) (hb : ∀ t, isH t → R t → vn (fd t) + blk d' (fd t) ≤ U' ∧ ∀ j, j < blk d' (fd t) → ow2 (vn (fd t) + j) = vn (fd t)) (mU : U' ≤ n') (mi : ∀ t1 t2, isH t1 → isH t2 → R t1 → R t2 → vn (fd t1) = vn (fd t2) → vn t1 = vn t2) (mt : ∀ x, x < U' → ∃ t, isH t ∧ R t ∧ vn (fd t) ≤ x ∧ x < vn (fd t) + blk d' (fd t))
    (hr : ∀ t, isH t → T t → ∃ x, RTb b t x ∧ R x ∧ GT n ow kd P t) (hr' : ∀ x, isH x → T' x → ∃ t a, RTb b t x ∧ MVc U src bs t a ∧ GT n' ow' kd' P' x) : ISb (b2x b U src bs fd R) d U d' U' ∧ U = U' := by
  have A1 : ∀ {a : Nat}, a < U → bs a = a → ∃ x, RTb b (src a) x ∧ R x := fun ha hb => mv_c s g c hm hr ha hb
  have B1 : ∀ {x : Int64}, isH x → R x → ∃ t a, RTb b t x ∧ MVc U src bs t a := fun z rx => mv_m s g' c hm hr' z rx
  have gR : HPc h n (owR h n ow kd P T) kd Fv P := HPc_R g
  have cc := c
  obtain ⟨-, c2, c3⟩ := c
  have blkc : ∀ {t t2 : Int64} {a : Nat}, MVc U src bs t a → so t2 = so t → va t2 = ((a : Nat) : Int) → blk d t2 = blk h t := fun {t t2 a} ha e1 e2 => by
    obtain ⟨a1, a2, a3⟩ := ha
    obtain ⟨-, -, -, z, gt, -⟩ := c2 a (Nat.zero_le _) a1
    rw [a2, a3] at z gt
    obtain ⟨f, sz, q⟩ := HP_szc gR gt
    rw [← a3] at q e1
    rw [← a3]
    exact (CPc_sz (owd := fun _ => 0) (kdd := fun _ => 0) gR hF cc f a t2 sz (Nat.zero_le _) a1 a2 e1 e2 q).2.1
  have isb : ISb (b2x b U src bs fd R) d U d' U' := by
    refine ⟨fun t2 x2 z2 r2 => ?_, fun k l a e a2 e2 q1 q2 => ?_, fun k a e q => ?_⟩
    · obtain ⟨⟨v1, v2⟩, t, x, ⟨z, et, r⟩, mv, rx, ec⟩ := RTb_h r2 z2
      have zx := (RTb_isH r).mpr z
      have q := hm.2 x zx rx
      have e1 : blk d t2 = blk h t := blkc mv et.symm (vn_e v1)
      have ex : so x2 = so (fd x) := by rw [RTb_so r2, q.2.1, RTb_so r, et]
      have e2 : blk d' x2 = blk d' (fd x) := blk_sv ex ec
      obtain ⟨⟨e3, -⟩, e4, e5⟩ := s.1 t x z r
      obtain ⟨m1, m2, m3⟩ := mv
      obtain ⟨-, -, -, -, -, -, k6, k7⟩ := c2 (vn t2) (Nat.zero_le _) m1
      rw [m2, m3] at k6 k7
      have hbx := (hb x zx rx).1
      have bp := blk_pos (h := h) z
      have pe : prt t2 = prt t := prt_so et.symm
      refine ⟨⟨by rw [e2, q.2.2.2.1, e3, e1], by omega, by rw [ec, e1]; rw [q.2.2.2.1, e3] at hbx; exact hbx⟩, fun j h1 h2 => ?_, fun e => ?_⟩
      · rw [pe] at h1
        rw [e1] at h2
        have kb := k7 j h2
        have exc : xcO h src bs (vn t2 + j) = h (vn t + j) := by
          unfold xcO
          rw [kb, m3, Nat.add_sub_cancel_left]
        have rj := e4 j h1 h2
        have fj := q.2.2.2.2.2 j (by rw [RTb_prt r]; exact h1) (by rw [e3]; exact h2)
        obtain ⟨y1, y2⟩ := c3 (vn t2 + j) (Nat.zero_le _) (by omega)
        rw [exc] at y1 y2
        rw [ec, fj.1]
        refine b2x_r s.2.1 hm rj ?_ fj.2
        by_cases zj : isH (h (vn t + j))
        · obtain ⟨f1, b1, f2, -, f3, f4, f5⟩ := (y2 zj).2 (by omega)
          exact Or.inr ⟨zj, f1, b1, f2, f3, f4, f5⟩
        · exact Or.inl ⟨zj, y1 zj⟩
      · have e30 : so t = 3 := by rw [et]; exact e
        have gt := (c2 (vn t2) (Nat.zero_le _) m1).2.2.2.2.1
        rw [m2, m3] at gt
        have bk := (HP_bkc gR z gt).1
        have nh : ¬ isH (h (vn t + 0)) := head_nh bk z hF.1 (by unfold prt; rw [e30]; decide)
        have exc : xcO h src bs (vn t2) = h (vn t) := by
          unfold xcO
          rw [m2, m3, Nat.sub_self]
          rfl
        have y1 := (c3 (vn t2) (Nat.zero_le _) m1).1
        rw [exc] at y1
        have hd0 := q.2.2.2.2.1 0 (by unfold prt; rw [RTb_so r, e30]; decide)
        have hd0 : d' (vn (fd x)) = h' (vn x) := hd0
        rw [y1 nh, ec, hd0]
        exact e5 e30
    · obtain ⟨t, x, ⟨z, et, r⟩, ⟨m1, m2, m3⟩, rx, ec⟩ := q1
      obtain ⟨t', x', ⟨z', et', r'⟩, ⟨m1', m2', m3'⟩, rx', ec'⟩ := q2
      have zx := (RTb_isH r).mpr z
      have zx' := (RTb_isH r').mpr z'
      constructor
      · intro ea
        subst ea
        have : t = t' := m3.symm.trans m3'
        subst this
        rw [ec, ec', RTb_x s.2.1 z r r']
      · intro ee
        have ev := mi x x' zx zx' rx rx' (by rw [← ec, ← ec']; exact ee)
        have ew : vn t = vn t' := (s.2.1 _ _ _ _ _ _ (RTb_h r z).2 (RTb_h r' z').2).mpr ev
        exact ci a a2 m1 m1' m2 m2' (by rw [m3, m3']; exact ew)
    · obtain ⟨t, x, ⟨z, et, r⟩, ⟨m1, m2, m3⟩, rx, ec⟩ := q
      have zx := (RTb_isH r).mpr z
      have zf : isH (fd x) := by unfold isH; rw [(hm.2 x zx rx).2.1]; exact zx
      have := (hb x zx rx).1
      have bp := blk_pos (h := d') zf
      exact ⟨by rw [← et]; exact z, by omega, by omega⟩
  refine ⟨isb, Nat.le_antisymm ?_ ?_⟩
  · refine pigU (r := fun c e => ∃ x, RTb b (src (bs c)) x ∧ R x ∧ e = vn (fd x) + (c - bs c)) (fun c hc => ?_) (fun c1 c1' e h1 h1' r1 r1' => ?_)
    · obtain ⟨-, k2, k3, z, gt, k5, k6, -⟩ := c2 c (Nat.zero_le _) hc
      obtain ⟨x, r, rx⟩ := A1 (a := bs c) (by omega) k3
      have zx := (RTb_isH r).mpr z
      obtain ⟨⟨e3, -⟩, -⟩ := s.1 _ x z r
      have hbx := (hb x zx rx).1
      rw [(hm.2 x zx rx).2.2.2.1, e3] at hbx
      exact ⟨vn (fd x) + (c - bs c), by omega, x, r, rx, rfl⟩
    · obtain ⟨x, r, rx, ee⟩ := r1
      obtain ⟨x', r', rx', ee'⟩ := r1'
      obtain ⟨-, k2, k3, z, gt, k5, k6, -⟩ := c2 c1 (Nat.zero_le _) h1
      obtain ⟨-, k2', k3', z', gt', k5', k6', -⟩ := c2 c1' (Nat.zero_le _) h1'
      have zx := (RTb_isH r).mpr z
      have zx' := (RTb_isH r').mpr z'
      obtain ⟨⟨e3, -⟩, -⟩ := s.1 _ x z r
      obtain ⟨⟨e3', -⟩, -⟩ := s.1 _ x' z' r'
      have o1 := (hb x zx rx).2 (c1 - bs c1) (by rw [(hm.2 x zx rx).2.2.2.1, e3]; omega)
      have o2 := (hb x' zx' rx').2 (c1' - bs c1') (by rw [(hm.2 x' zx' rx').2.2.2.1, e3']; omega)
      rw [← ee] at o1
      rw [← ee'] at o2
      have ev := mi x x' zx zx' rx rx' (by rw [← o1, ← o2])
      have ew : vn (src (bs c1)) = vn (src (bs c1')) := (s.2.1 _ _ _ _ _ _ (RTb_h r z).2 (RTb_h r' z').2).mpr ev
      have eb := ci (bs c1) (bs c1') (by omega) (by omega) k3 k3' ew
      omega
  · refine pigU (r := fun e c => ∃ x t a, (isH x ∧ R x ∧ vn (fd x) ≤ e ∧ e < vn (fd x) + blk d' (fd x)) ∧ RTb b t x ∧ MVc U src bs t a ∧ c = a + (e - vn (fd x))) (fun e he => ?_) (fun e1 e1' c1 h1 h1' r1 r1' => ?_)
    · obtain ⟨x, zx, rx, l1, l2⟩ := mt e he
      obtain ⟨t, a, r, mv⟩ := B1 zx rx
      have z := (RTb_isH r).mp zx
      obtain ⟨⟨e3, -⟩, -⟩ := s.1 t x z r
      have l2' := l2
      rw [(hm.2 x zx rx).2.2.2.1, e3] at l2'
      have k6 := (c2 a (Nat.zero_le _) mv.1).2.2.2.2.2.2.1
      rw [mv.2.1, mv.2.2] at k6
      exact ⟨a + (e - vn (fd x)), by omega, x, t, a, ⟨zx, rx, l1, l2⟩, r, mv, rfl⟩
    · obtain ⟨x, t, a, ⟨zx, rx, l1, l2⟩, r, mv, ec⟩ := r1
      obtain ⟨x', t', a', ⟨zx', rx', l1', l2'⟩, r', mv', ec'⟩ := r1'
      have z := (RTb_isH r).mp zx
      have z' := (RTb_isH r').mp zx'
      obtain ⟨⟨e3, -⟩, -⟩ := s.1 t x z r
      obtain ⟨⟨e3', -⟩, -⟩ := s.1 t' x' z' r'
      rw [(hm.2 x zx rx).2.2.2.1, e3] at l2
      rw [(hm.2 x' zx' rx').2.2.2.1, e3'] at l2'
      have k7 := (c2 a (Nat.zero_le _) mv.1).2.2.2.2.2.2.2
      have k7' := (c2 a' (Nat.zero_le _) mv'.1).2.2.2.2.2.2.2
      rw [mv.2.1, mv.2.2] at k7
      rw [mv'.2.1, mv'.2.2] at k7'
      have b1 := k7 (e1 - vn (fd x)) (by omega)
      have b2 := k7' (e1' - vn (fd x')) (by omega)
      rw [← ec] at b1
      rw [← ec'] at b2
      have ea : a = a' := b1.symm.trans b2
      subst ea
      have et : t = t' := mv.2.2.symm.trans mv'.2.2
      subst et
      have exx := RTb_x s.2.1 z r r'
      subst exx
      omega
end
