/-! rows of patterns: the reference goes as the grammar says -/
set_option maxRecDepth 100000
section RWP
variable {N p d np s T x : Nat} {w : MS} {K : Nat → Nat} {v : Int32} {S : SG_M_rowPattern}
theorem rp194 {G : MS → Int32 → Int32 → Int32 → Int32 → Int32 → Int32 → Int32 → Option (MS × Int32)} {n : Int32} (h : PV w K T p d np s) (hp : p ≤ T + 1) (hx : x < 5000) {m : Nat} (hm : m < 25) : ∃ w2, fb_M_rowPattern_194 N S G w (sgV m) (Int32.ofNat x) n = some (w2, Int32.ofNat x) ∧ FrP IP APt w w2 ∧
    ((w.1 67 ≠ 0 ∧ PV w2 K T p d np s ∧ w2.1 67 = w.1 67 ∧ w2.1 68 = w.1 68) ∨ (w.1 67 = 0 ∧ p ≤ T ∧ K p = 20 + m ∧ PV w2 K T (p + 1) d np s ∧ w2.1 67 = 0) ∨ (w.1 67 = 0 ∧ p ≤ T ∧ K p ≠ 20 + m ∧ PV w2 K T p d np s ∧ w2.1 67 = flt K 2 p ∧ w2.1 68 = w.2.2.1 8 p) ∨ (w.1 67 = 0 ∧ ¬ p ≤ T)) := by
  have t4 := h.tv.t4
  have h2 : PV (upA w 35 (upd (w.2.2.1 35) (Int32.ofNat x).toNatClampNeg n)) K T p d np s := h.frA (Or.inr (Or.inl rfl))
  have f2 : FrP IP APt w (upA w 35 (upd (w.2.2.1 35) (Int32.ofNat x).toNatClampNeg n)) := iA5 (Or.inr (Or.inl rfl))
  unfold fb_M_rowPattern_194
  rw [q_ck (q_inb (by show x < 5000; exact hx) (by decide)), q_ls, ndS_ok h2.ps (by omega), q_bn]
  have e67 : (upA w 35 (upd (w.2.2.1 35) (Int32.ofNat x).toNatClampNeg n)).1 67 = w.1 67 := rfl
  have e68 : (upA w 35 (upd (w.2.2.1 35) (Int32.ofNat x).toNatClampNeg n)).1 68 = w.1 68 := rfl
  have e8 : (upA w 35 (upd (w.2.2.1 35) (Int32.ofNat x).toNatClampNeg n)).2.2.1 8 = w.2.2.1 8 := rfl
  generalize upA w 35 (upd (w.2.2.1 35) (Int32.ofNat x).toNatClampNeg n) = w1 at h2 f2 e67 e68 e8
  by_cases h0 : w1.1 67 = 0
  · by_cases hpt : p ≤ T
    · rw [h2.tv.sg hpt hm]
      by_cases hk : K p = 20 + m
      · rw [if_pos ⟨h0, decide_eq_true hk⟩]
        exact ⟨_, rfl, f2.tr i69, Or.inr (Or.inl ⟨e67 ▸ h0, hpt, hk, h2.pos (by omega), h0⟩)⟩
      · rw [if_neg (fun z => by rw [decide_eq_false hk] at z; cases z.2)]
        obtain ⟨a, b⟩ := wr_67 (v := 2) h0 h2.tv hpt
        exact ⟨_, rfl, f2.tr wr_P, Or.inr (Or.inr (Or.inl ⟨e67 ▸ h0, hpt, hk, h2.wr, a, by rw [← e8]; exact b⟩))⟩
    · refine ⟨_, rfl, ?_, Or.inr (Or.inr (Or.inr ⟨e67 ▸ h0, hpt⟩))⟩
      split
      · exact f2.tr i69
      · exact f2.tr wr_P
  · rw [if_neg (fun z => h0 z.1), wr_id h0]
    exact ⟨_, rfl, f2, Or.inl ⟨e67 ▸ h0, h2, e67, e68⟩⟩
/-- behind a fault: what is left of a row does nothing more -/
theorem rpTailF {G : MS → Int32 → Int32 → Int32 → Int32 → Int32 → Int32 → Int32 → Option (MS × Int32)} {n tup last : Int32} (h : PV w K T p d np s) (h0 : w.1 67 ≠ 0) (hp : p ≤ T + 1) (hx : x < 5000) {m : Nat} (hm : m < 25) : ∃ w2, fb_M_rowPattern_151 N S G w v tup (sgV m) (Int32.ofNat x) last n = some (w2, Int32.ofNat x) ∧ FrP IP APt w w2 ∧ PV w2 K T p d np s ∧ w2.1 67 = w.1 67 ∧ w2.1 68 = w.1 68 := by
  have t4 := h.tv.t4
  obtain ⟨w2, a1, a2, a3⟩ := rp194 (N := N) (S := S) (G := G) (n := n) h hp hx hm
  have a3 := a3.resolve_right (fun z => by rcases z with z | z | z <;> exact h0 z.1)
  unfold fb_M_rowPattern_151
  refine ⟨w2, ?_, a2, a3.2.1, a3.2.2⟩
  rw [tkS_ok h.ps (by omega), if_neg (fun z => h0 z.1), q_bn, a1]
  show br (decide (tup = 0)) (br true _ _) _ = _
  rw [q_b1]
  unfold br
  split <;> rfl
/-- what stands behind the last part of a row: m 3 for tuples, 5 for lists -/
def tl (K : Nat → Nat) (f d : Nat) (m q : Nat) : Rs Unit := if m = 3 then nd K 23 q else bd (if K q = 29 then bd (pP K f d (q + 1)) (fun _ r => .inl ((), r)) else .inl ((), q)) (fun _ r => nd K 25 r)
def room (np T p : Nat) : Prop := np + T + 1 ≤ 4900 + p
theorem rpTail {G : MS → Int32 → Int32 → Int32 → Int32 → Int32 → Int32 → Int32 → Option (MS × Int32)} {n last : Int32} {f m : Nat} (h : PV w K T p d np s) (h0 : w.1 67 = 0) (hp : p ≤ T) (hr : room np T p) (hx : x < np) (hl : last = -1 ∨ ∃ y, y < np ∧ last = Int32.ofNat y) (hm : m = 3 ∨ m = 5)
    (HP : ∀ w p np, PV w K T p d np s → w.1 67 = 0 → p ≤ T → room np T p → POST K T p d np s w (pP K f d p) (S.2 w v)) : POST K T p d np s w (tl K f d m p) (fb_M_rowPattern_151 N S G w v (if m = 3 then 1 else 0) (sgV m) (Int32.ofNat x) last n) := by
  have t4 := h.tv.t4
  unfold room at hr
  -- the closing sign
  have close : ∀ (w1 : MS) (q np1 : Nat), FrP IP APt w w1 → PV w1 K T q d np1 s → w1.1 67 = 0 → p ≤ q → q ≤ T → np ≤ np1 ∧ np1 + p ≤ np + q → x < np1 → np1 < 5000 → POST K T p d np s w (nd K (20 + m) q) (fb_M_rowPattern_194 N S G w1 (sgV m) (Int32.ofNat x) n) := fun w1 q np1 f1 h1 h01 hpq hqT hn1 hx1 hn5 => by
    obtain ⟨w2, a1, a2, a3⟩ := rp194 (N := N) (S := S) (G := G) (n := n) (x := x) h1 (by omega) (by omega) (m := m) (by omega)
    have rx : Int32.ofNat x ≠ -1 := fun z => by
      have := congrArg Int32.toInt z
      rw [Int32.toInt_ofNat_of_lt (by omega)] at this
      have e : (-1 : Int32).toInt = -1 := rfl
      omega
    rcases a3 with ⟨b, -⟩ | ⟨-, -, hk, b1, b2⟩ | ⟨-, -, hk, b1, b2, b3⟩ | ⟨-, b⟩
    · exact absurd h01 b
    · refine ⟨w2, _, q + 1, np1, a1, f1.tr a2, b1, by omega, by omega, ⟨hn1.1, by omega⟩, Or.inr ⟨x, hx1, rfl⟩, ?_⟩
      unfold nd
      rw [if_pos hk]
      have : q < T := h1.tv.lt hqT (by omega) (by omega)
      exact ⟨b2, rfl, by show p < q + 1; omega, by show q + 1 ≤ T; omega, rx⟩
    · refine ⟨w2, _, q, np1, a1, f1.tr a2, b1, by omega, by omega, ⟨hn1.1, by omega⟩, Or.inr ⟨x, hx1, rfl⟩, ?_⟩
      unfold nd
      rw [if_neg hk]
      exact ⟨b2, b3.trans (l8 f1), hpq, hqT, by show 1 ≤ 2; decide, by show 2 ≤ 3; decide⟩
    · exact absurd hqT b
  unfold tl
  by_cases h3 : m = 3
  · subst h3
    rw [if_pos rfl, if_pos rfl]
    unfold fb_M_rowPattern_151
    show POST K T p d np s w _ (br false _ _)
    rw [q_b0]
    exact close w p np FrP.rf h h0 (Nat.le_refl _) hp ⟨Nat.le_refl _, by omega⟩ hx (by omega)
  · have h5 : m = 5 := hm.resolve_left h3
    subst h5
    rw [if_neg (show ¬ (5 : Nat) = 3 by decide), if_neg (show ¬ (5 : Nat) = 3 by decide)]
    unfold fb_M_rowPattern_151
    show POST K T p d np s w _ (br true _ _)
    rw [q_b1, tkS_ok h.ps (by omega), show (9 : Int32) = sgV 9 from by decide +kernel, h.tv.sg hp (m := 9) (by decide)]
    by_cases hk : K p = 29
    · have cc : w.1 67 = 0 ∧ decide (K p = 20 + 9) = true := ⟨h0, decide_eq_true hk⟩
      rw [if_pos cc, q_bn]
      have hlt : p < T := h.tv.lt hp (by omega) (by omega)
      show POST K T p d np s w _ (br false _ _)
      rw [q_b0, if_pos hk]
      obtain ⟨w1, r1, p1, np1, a1, a2, a3, a4, a5, a6, a7, a8⟩ := HP (upI w 69 (Int32.ofNat (p + 1))) (p + 1) np (h.pos (by omega)) h0 (by omega) (by unfold room; omega)
      have f1 : FrP IP APt w w1 := i69.tr a2
      rw [a1, q_bn]
      have e186 : ∀ w3 : MS, fb_M_rowPattern_186 N S G w3 (sgV 5) (Int32.ofNat x) n = fb_M_rowPattern_194 N S G (upA w3 38 (upd (w3.2.2.1 38) (Int32.ofNat x).toNatClampNeg (vp_nar .boolean 1))) (sgV 5) (Int32.ofNat x) n := fun w3 => by
        unfold fb_M_rowPattern_186
        rw [q_ck (q_inb (by show x < 5000; omega) (by decide)), q_ls]
      have rest : ∀ w3 : MS, FrP IP APt w w3 → PV w3 K T p1 d np1 s → w3.1 67 = w1.1 67 → w3.1 68 = w1.1 68 → POST K T p d np s w (bd (bd (pP K f d (p + 1)) (fun _ r => (.inl ((), r) : Rs Unit))) (fun _ r => nd K 25 r)) (fb_M_rowPattern_186 N S G w3 (sgV 5) (Int32.ofNat x) n) := fun w3 f3 h3 c1 c2 => by
        rw [e186]
        have h4 : PV (upA w3 38 (upd (w3.2.2.1 38) (Int32.ofNat x).toNatClampNeg (vp_nar .boolean 1))) K T p1 d np1 s := h3.frA (Or.inr (Or.inr (Or.inr (Or.inr rfl))))
        have f4 : FrP IP APt w (upA w3 38 (upd (w3.2.2.1 38) (Int32.ofNat x).toNatClampNeg (vp_nar .boolean 1))) := f3.tr (iA5 (Or.inr (Or.inr (Or.inr (Or.inr rfl)))))
        cases hg : pP K f d (p + 1) with
        | inl q =>
          rw [hg] at a8
          obtain ⟨g1, g2, g3, g4, g5⟩ := a8
          show POST K T p d np s w (nd K 25 q.2) _
          rw [← g2]
          exact close _ p1 np1 f4 h4 (c1.trans g1) (by omega) (by omega) ⟨a6.1, by omega⟩ (by omega) (by omega)
        | inr e =>
          rw [hg] at a8
          obtain ⟨g1, g2, g3, g4, g5, g6⟩ := a8
          have nz : (upA w3 38 (upd (w3.2.2.1 38) (Int32.ofNat x).toNatClampNeg (vp_nar .boolean 1))).1 67 ≠ 0 := by
            show w3.1 67 ≠ 0
            rw [c1, g1]; exact flt_ne g5 g6
          obtain ⟨w5, b1, b2, b3⟩ := rp194 (N := N) (S := S) (G := G) (n := n) (x := x) h4 (by omega) (by omega) (m := 5) (by decide)
          have b3 := b3.resolve_right (fun z => by rcases z with z | z | z <;> exact nz z.1)
          refine ⟨w5, _, p1, np1, b1, f4.tr b2, b3.2.1, by omega, by omega, ⟨a6.1, by omega⟩, Or.inr ⟨x, by omega, rfl⟩, ?_⟩
          exact ⟨b3.2.2.1.trans (c1.trans g1), (b3.2.2.2.trans c2).trans g2, by show p ≤ e.2; omega, g4, g5, g6⟩
      by_cases hl1 : last = -1
      · rw [decide_eq_true hl1, q_b1]
        exact rest w1 f1 a3 rfl rfl
      · obtain ⟨y, y1, y2⟩ := hl.resolve_left hl1
        rw [decide_eq_false hl1, q_b0, y2, q_ck (q_inb (by show y < 5000; omega) (by decide)), q_ls]
        exact rest _ (f1.tr (iA5 (Or.inr (Or.inr (Or.inr (Or.inl rfl)))))) (a3.frA (Or.inr (Or.inr (Or.inr (Or.inl rfl))))) rfl rfl
    · have cc : ¬ (w.1 67 = 0 ∧ decide (K p = 20 + 9) = true) := fun z => hk (of_decide_eq_true z.2)
      rw [if_neg cc, q_bn]
      show POST K T p d np s w _ (br true _ _)
      rw [q_b1, if_neg hk]
      exact close w p np FrP.rf h h0 (Nat.le_refl _) hp ⟨Nat.le_refl _, by omega⟩ hx (by omega)
end RWP
