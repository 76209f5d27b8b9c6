/-! room for cells, both sides -/
set_option maxRecDepth 100000
/-- the rows from which a process reaches its cells: there, here -/
def CRt (B W Y q K i : Nat) : Prop := (K = pq q 33 ∧ i < B) ∨ (K = pq q 35 ∧ i < W) ∨ (K = pq q 6 ∧ i < Y)
def MRt (oM bM xM q K i : Nat) : Prop := (K = 91 ∧ 46000 * q ≤ i ∧ i < 46000 * q + oM) ∨ (K = 93 ∧ 2500 * q ≤ i ∧ i < 2500 * q + bM) ∨ (K = 107 ∧ 30 * q ≤ i ∧ i < 30 * q + xM)
/-- each term there goes together with one here, and the other way round -/
def RTZ (b : Int → Nat → Nat → Prop) (m w : MS) (q B W Y oM bM xM : Nat) : Prop :=
  (∀ K i, CRt B W Y q K i → isH (m.2.2.2 K i) → (∃ K2 i2, MRt oM bM xM q K2 i2 ∧ RTb b (m.2.2.2 K i) (w.2.2.2 K2 i2)) ∨ (F w 140 = ((q : Nat) : Int) ∧ RTb b (m.2.2.2 K i) (w.2.1 139))) ∧
  (∀ K2 i2, MRt oM bM xM q K2 i2 → isH (w.2.2.2 K2 i2) → ∃ K i, CRt B W Y q K i ∧ RTb b (m.2.2.2 K i) (w.2.2.2 K2 i2)) ∧
  (F w 140 = ((q : Nat) : Int) → isH (w.2.1 139) → ∃ K i, CRt B W Y q K i ∧ RTb b (m.2.2.2 K i) (w.2.1 139))
/-- behind a clearing, or without one: cells as many, terms go together as before -/
def XFR (b b2 : Int → Nat → Nat → Prop) (m w m2 w2 : MS) (q B W Y oM bM xM : Nat) : Prop :=
  (∃ U : Nat, F m2 (pq q 4) = ((U : Nat) : Int) ∧ A w2 89 q = ((U : Nat) : Int) ∧ U ≤ 500 ∧ ISb b2 (m2.2.2.2 (pq q 2)) U (hp w2 q) U) ∧
  (∀ K i K2 i2, CRt B W Y q K i → MRt oM bM xM q K2 i2 → RTb b (m.2.2.2 K i) (w.2.2.2 K2 i2) → RTb b2 (m2.2.2.2 K i) (w2.2.2.2 K2 i2)) ∧
  (F w 140 = ((q : Nat) : Int) → ∀ K i, CRt B W Y q K i → RTb b (m.2.2.2 K i) (w.2.1 139) → RTb b2 (m2.2.2.2 K i) (w2.2.1 139)) ∧ (F w 140 ≠ ((q : Nat) : Int) → w2.2.1 139 = w.2.1 139)
section
variable {b b2 : Int → Nat → Nat → Prop} {h' : Nat → Int64} {n n' N q B W Y oM bM xM : Nat} {ow kd ow' kd' : Nat → Nat} {Fv Fv' : Int64 → Int64 → Prop} {P P' : Int64 → Prop} {m w m2 w2 : MS} {k : Int}
theorem clr_90 (hq : q < 24) : PK (fun w2 (_ : Unit) => w2.2.2.1 90 = upd (w.2.2.1 90) q (w.2.2.1 90 q + 1)) (fm_M_clear N w (I (q : Nat))) := by
  unfold fm_M_clear fb_M_clear_0
  refine pk_ck (fun _ => pk_ck (fun _ => pk_lt (pk_lt (pk_lt ?_))))
  rw [tnI (n := q) rfl (by omega)]
  refine pk_mo (fun v r e => (y90_gg_M_clear (N := N) N).1 _ _ _ Kq90_rf v r e) (fun v r (hv : Kq90c _ v) => ?_)
  rw [hv]
  show (if (90 : Nat) = 90 then upd (w.2.2.1 90) q (w.2.2.1 90 q + 1) else w.2.2.1 90) = _
  exact if_pos rfl
/-- both heaps are cleared -/
theorem clear_pp (p : PTQ m q n ow kd Fv P B W Y) (hF : FVc Fv) (hP : ∀ t, P t → PT m t) (x : CX w q h' n' ow' kd' Fv' P' oM bM xM) (s : ISb b (m.2.2.2 (pq q 2)) n h' n') (z : RTZ b m w q B W Y oM bM xM) (hN : 60000 + B + W + Y ≤ N) : PP (fun m2 _ w2 _ => (∃ b2, XFR b b2 m w m2 w2 q B W Y oM bM xM) ∧ m2.1 (pq q 5) = m.1 (pq q 5) + 1 ∧ w2.2.2.1 90 = upd (w.2.2.1 90) q (w.2.2.1 90 q + 1)) (hm_Pr_clearHeap N m q) (fm_M_clear N w (I (q : Nat))) := by
  obtain ⟨z1, z2, z3⟩ := z
  have p0 := p
  have x0 := x
  obtain ⟨⟨p1, p2, p3⟩, ⟨p4, p5⟩, ⟨p6, p7⟩, ⟨p8, p9⟩, p10⟩ := p
  obtain ⟨x1, x2, x3, x4, x5, x6, x7, x8, x9, x10, x11⟩ := x
  have gC : ∀ K i, CRt B W Y q K i → GT n ow kd P (m.2.2.2 K i) := fun K i c => by
    rcases c with ⟨rfl, c⟩ | ⟨rfl, c⟩ | ⟨rfl, c⟩
    · exact p5 i c
    · exact p7 i c
    · exact p9 i c
  have gM : ∀ K i, MRt oM bM xM q K i → GT n' ow' kd' P' (w.2.2.2 K i) := fun K i c => by
    rcases c with ⟨rfl, c1, c2⟩ | ⟨rfl, c1, c2⟩ | ⟨rfl, c1, c2⟩
    · have := x8 (i - 46000 * q) (by omega); rw [show 46000 * q + (i - 46000 * q) = i by omega] at this; exact this
    · have := x9 (i - 2500 * q) (by omega); rw [show 2500 * q + (i - 2500 * q) = i by omega] at this; exact this
    · have := x10 (i - 30 * q) (by omega); rw [show 30 * q + (i - 30 * q) = i by omega] at this; exact this
  let T : Int64 → Prop := fun t => ∃ K i, CRt B W Y q K i ∧ m.2.2.2 K i = t
  let T' : Int64 → Prop := fun y => (∃ K i, MRt oM bM xM q K i ∧ w.2.2.2 K i = y) ∨ (F w 140 = ((q : Nat) : Int) ∧ w.2.1 139 = y)
  have rC : ∀ K i, CRt B W Y q K i → GT n (owR (m.2.2.2 (pq q 2)) n ow kd P T) kd P (m.2.2.2 K i) := fun K i c => GT_R2 (gC K i c) (fun z => rch_root z ⟨K, i, c, rfl⟩)
  have rM : ∀ K i, MRt oM bM xM q K i → GT n' (owR h' n' ow' kd' P' T') kd' P' (w.2.2.2 K i) := fun K i c => GT_R2 (gM K i c) (fun z => rch_root z (Or.inl ⟨K, i, c, rfl⟩))
  have pR : PTQ m q n (owR (m.2.2.2 (pq q 2)) n ow kd P T) kd Fv P B W Y := ⟨⟨p1, p2, HPc_R p3⟩, ⟨p4, fun i hi => rC _ i (Or.inl ⟨rfl, hi⟩)⟩, ⟨p6, fun i hi => rC _ i (Or.inr (Or.inl ⟨rfl, hi⟩))⟩, ⟨p8, fun i hi => rC _ i (Or.inr (Or.inr ⟨rfl, hi⟩))⟩, p10⟩
  have xR : CX w q h' n' (owR h' n' ow' kd' P' T') kd' Fv' P' oM bM xM := ⟨x1, HP_R x2, x3, x4, x5, x6, x7, fun i hi => rM _ _ (Or.inl ⟨rfl, by omega, by omega⟩), fun i hi => rM _ _ (Or.inr (Or.inl ⟨rfl, by omega, by omega⟩)), fun i hi => rM _ _ (Or.inr (Or.inr ⟨rfl, by omega, by omega⟩)), fun e => GT_R2 (x11 e) (fun z => rch_root z (Or.inr ⟨e, rfl⟩))⟩
  intro m2 r w2 r2 e1 e2
  obtain ⟨U, src, bs, ⟨u1, u2, u3⟩, c1, c2, c3, c4, c5⟩ := pk_ok (clearHeap_x (N := N) pR hF hP (by omega)) m2 r e1
  obtain ⟨U', ow2, kd2, fd, R, ⟨k1, k2, k3, k4, k5, k6, k7, k8, k9, k10, k11, k12⟩, k13, k14⟩ := pk_ok (clear_x (N := N) xR (by omega)) w2 r2 e2
  have ro : ∀ K i, CRt B W Y q K i → RTO U src bs (m.2.2.2 K i) (m2.2.2.2 K i) := fun K i c => by
    rcases c with ⟨rfl, c⟩ | ⟨rfl, c⟩ | ⟨rfl, c⟩
    · exact c3 i c
    · exact c4 i c
    · exact c5 i c
  have rm : ∀ K i, MRt oM bM xM q K i → w2.2.2.2 K i = fd (w.2.2.2 K i) ∧ (isH (w.2.2.2 K i) → R (w.2.2.2 K i)) := fun K i c => by
    rcases c with ⟨rfl, c⟩ | ⟨rfl, c⟩ | ⟨rfl, c⟩
    · exact (k8 i).1 c
    · exact (k9 i).1 c
    · exact (k10 i).1 c
  have hr : ∀ t, isH t → T t → ∃ x, RTb b t x ∧ R x ∧ GT n ow kd P t := fun t zt ⟨K, i, c, e⟩ => by
    subst e
    rcases z1 K i c zt with ⟨K2, i2, y1, y2⟩ | ⟨y1, y2⟩
    · exact ⟨_, y2, (rm K2 i2 y1).2 ((RTb_isH y2).mpr zt), gC K i c⟩
    · exact ⟨_, y2, (k11 y1).2 ((RTb_isH y2).mpr zt), gC K i c⟩
  have mv : ∀ {t t2 : Int64}, isH t → RTO U src bs t t2 → ∃ a, MVc U src bs t a := fun {t t2} zt ro => by
    rcases ro with ⟨y, -⟩ | ⟨-, -, a, -, y1, y2, y3⟩
    · exact absurd zt y
    · exact ⟨a, y1, y2, y3⟩
  have hr' : ∀ x, isH x → T' x → ∃ t a, RTb b t x ∧ MVc U src bs t a ∧ GT n' ow' kd' P' x := fun x zx c => by
    rcases c with ⟨K2, i2, c, e⟩ | ⟨c, e⟩
    · subst e
      obtain ⟨K, i, y1, y2⟩ := z2 K2 i2 c zx
      obtain ⟨a, ha⟩ := mv ((RTb_isH y2).mp zx) (ro K i y1)
      exact ⟨_, a, y2, ha, gM K2 i2 c⟩
    · subst e
      obtain ⟨K, i, y1, y2⟩ := z3 c zx
      obtain ⟨a, ha⟩ := mv ((RTb_isH y2).mp zx) (ro K i y1)
      exact ⟨_, a, y2, ha, x11 c⟩
  obtain ⟨is2, eU⟩ := clear_iso (T := T) (T' := T') s ⟨by omega, by omega⟩ p3 hF x2 c1 u2 c2 k1 k3 k4 k13 k14 hr hr'
  subst eU
  refine ⟨⟨b2x b U src bs fd R, ⟨U, u1, by rw [k5, if_pos rfl], by omega, is2⟩, fun K i K2 i2 y1 y2 y3 => ?_, fun e K i y1 y3 => ?_, k12⟩, u3, clr_90 x4 w2 r2 e2⟩
  · rw [(rm K2 i2 y2).1]
    exact b2x_r s.2.1 k1 y3 (ro K i y1) (rm K2 i2 y2).2
  · rw [(k11 e).1]
    exact b2x_r s.2.1 k1 y3 (ro K i y1) (k11 e).2
/-- room for so many cells -/
theorem want_pp (p : PTQ m q n ow kd Fv P B W Y) (hF : FVc Fv) (hP : ∀ t, P t → PT m t) (x : CX w q h' n ow' kd' Fv' P' oM bM xM) (hu : A w 89 q = ((n : Nat) : Int)) (s : ISb b (m.2.2.2 (pq q 2)) n h' n) (z : RTZ b m w q B W Y oM bM xM) (h90 : m.1 (pq q 5) = w.2.2.1 90 q) (k0 : 0 ≤ k) (hk : RG ((n : Nat) + k)) (hN : 60000 + B + W + Y ≤ N) : PP (fun m2 r w2 r2 => (∃ b2, XFR b b2 m w m2 w2 q B W Y oM bM xM) ∧ m2.1 (pq q 5) = w2.2.2.1 90 q ∧ (∀ p, p ≠ q → w2.2.2.1 90 p = w.2.2.1 90 p) ∧ (r = r2 ∧ (r = 0 ∨ r = 1)) ∧ (r ≠ 0 → F m2 (pq q 4) + k ≤ 500)) (hm_Pr_want N m q (I k)) (fm_M_wants N w (I (q : Nat)) (I k)) := by
  have x4 := x.2.2.2.1
  have x1 := x.1
  have fin : ∀ (m2 w2 : MS) (U : Nat), F m2 (pq q 4) = ((U : Nat) : Int) → A w2 89 q = ((U : Nat) : Int) → U ≤ n → (∃ b2, XFR b b2 m w m2 w2 q B W Y oM bM xM) → m2.1 (pq q 5) = w2.2.2.1 90 q → (∀ p, p ≠ q → w2.2.2.1 90 p = w.2.2.1 90 p) → RG ((U : Nat) + k) → PP (fun m2 r w2 r2 => (∃ b2, XFR b b2 m w m2 w2 q B W Y oM bM xM) ∧ m2.1 (pq q 5) = w2.2.2.1 90 q ∧ (∀ p, p ≠ q → w2.2.2.1 90 p = w.2.2.1 90 p) ∧ (r = r2 ∧ (r = 0 ∨ r = 1)) ∧ (r ≠ 0 → F m2 (pq q 4) + k ≤ 500)) (hb_Pr_want_16 N () m2 q (I k)) (fb_M_wants_19 N () w2 (I (q : Nat)) (I k)) := fun m2 w2 U e1 e2 _ e4 e5 e6 hr => by
    unfold hb_Pr_want_16 hb_Pr_want_33 fb_M_wants_19 fb_M_wants_38
    refine r_ck (fun _ => ?_)
    rw [tnI (n := q) rfl (by omega), I_F' e1, I_A' e2, I_add, lit500, decL (by decide) (by decide) hr.1 hr.2]
    by_cases y : (500 : Int) < ((U : Nat) : Int) + k
    · rw [decide_eq_true y, br_t, br_t]
      exact l_ck (fun _ => r_ck (fun _ => pp_end ⟨e4, e5, e6, ⟨rfl, Or.inl rfl⟩, fun z => absurd rfl z⟩))
    · rw [decide_eq_false y, br_f, br_f]
      exact l_ck (fun _ => r_ck (fun _ => pp_end ⟨e4, e5, e6, ⟨rfl, Or.inr rfl⟩, fun _ => by rw [e1]; omega⟩))
  have p1 := p.1.1
  unfold hm_Pr_want hb_Pr_want_0 fm_M_wants fb_M_wants_0
  refine r_ck (fun _ => ?_)
  rw [tnI (n := q) rfl (by omega), I_F' p1, I_A' hu, I_add, lit500, decI hk.1 hk.2 (by decide) (by decide)]
  by_cases y : ((n : Nat) : Int) + k ≤ (500 : Int)
  · rw [decide_eq_true y, br_t, br_t]
    refine fin m w n p1 hu (Nat.le_refl _) ⟨b, ⟨n, p1, hu, p.1.2.1, by rw [x1]; exact s⟩, fun K i K2 i2 _ _ y3 => y3, fun _ K i _ y3 => y3, fun _ => rfl⟩ h90 (fun _ _ => rfl) hk
  · rw [decide_eq_false y, br_f, br_f]
    have un : PK (fun m2 (_ : Unit) => ∃ U : Nat, F m2 (pq q 4) = ((U : Nat) : Int) ∧ U ≤ n) (hm_Pr_clearHeap N m q) := fun m2 r e => by
      obtain ⟨U, _, _, p2, hU, _⟩ := pk_ok (clearHeap_ok (N := N) p hF hP (by omega)) m2 r e
      exact ⟨U, p2.1.1, hU⟩
    refine pp_bb (pp_mo (pp_pl (clear_pp p hF hP x s z hN) un) (fun m2 r w2 r2 q9 => ?_))
    obtain ⟨⟨⟨b2, xf⟩, y1, y2⟩, U, y3, y4⟩ := q9
    obtain ⟨U2, f1, f2, -⟩ := xf.1
    have : U2 = U := by omega
    subst this
    have hk2 := hk.2
    refine fin m2 w2 U2 f1 f2 y4 ⟨b2, xf⟩ ?_ (fun p hp => ?_) ⟨by omega, by omega⟩
    · rw [y1, y2, h90]
      exact (if_pos rfl).symm
    · rw [y2]
      exact if_neg hp
end
