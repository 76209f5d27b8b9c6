/-! rows of patterns: their loop, their head -/
set_option maxRecDepth 100000
theorem pR_s {K : Nat → Nat} {f d m p : Nat} {b : Bool} : pR K (f + 1) d b m p = bd (if b = true then pP K f d p else pE K f d true p) (fun x q => if 1 < m ∧ K q = 26 then bd (pR K f d b (m - 1) (q + 1)) (fun xs r => .inl (.cons x xs, r)) else .inl (.cons x .nil, q)) := by rw [pR]
theorem pRu_s {K : Nat → Nat} {f d m c p : Nat} {b : Bool} : pRu K (f + 1) d b m c p = if K p = c then .inl (.nil, p + 1) else bd (pR K f d b m p) (fun xs q => bd (nd K c q) (fun _ r => .inl (xs, r))) := by rw [pRu]
theorem pLi_s {K : Nat → Nat} {f d p : Nat} {b : Bool} : pLi K (f + 1) d b p = if K (p + 1) = 25 then .inl (.list p .nil .nil, p + 2) else bd (pR K f d b 8 (p + 1)) (fun xs q => bd (if K q = 29 then bd (if b = true then pP K f d (q + 1) else pE K f d true (q + 1)) (fun x r => .inl (Xs.cons x .nil, r)) else .inl (Xs.nil, q)) (fun t r => bd (nd K 25 r) (fun _ r2 => .inl (.list p xs t, r2)))) := by rw [pLi]
theorem pP_s {K : Nat → Nat} {f d p : Nat} : pP K (f + 1) d p = op d p (bP (K p)) (
    if K p = 20 then bd (pP K f (d + 1) (p + 1)) (fun x q => bd (nd K 21 q) (fun _ r => .inl (.group p x, r))) else
    if K p = 22 then bd (pRu K f (d + 1) true 8 23 (p + 1)) (fun xs q => .inl (.tuple p xs, q)) else
    if K p = 24 then pLi K f (d + 1) true p else
    if K p = 34 then (if K (p + 1) = 1 then .inl (.neg p (.leaf (p + 1)), p + 2) else .inr (2, p + 1)) else
    .inl (.leaf p, p + 1)) := by rw [pP]
theorem bd_l {α β : Type} {a : α} {q : Nat} {f : α → Nat → Rs β} : bd (.inl (a, q)) f = f a q := rfl
theorem bd_r {α β : Type} {e : Nat × Nat} {f : α → Nat → Rs β} : bd (.inr e) f = .inr e := rfl
section RWL
variable {N p d np s T x : Nat} {w : MS} {K : Nat → Nat} {v : Int32} {S : SG_M_rowPattern}
/-- only where it ends counts -/
theorem POST.of {α β : Type} {g : Rs α} {h : Rs β} {y : Option (MS × Int32)} (hp : POST K T p d np s w g y) (e : ∀ q, (∃ a, g = .inl (a, q)) ↔ (∃ b, h = .inl (b, q))) (e2 : ∀ z, g = .inr z ↔ h = .inr z) : POST K T p d np s w h y := by
  obtain ⟨w2, r, p2, np2, a1, a2, a3, a4, a5, a6, a7, a8⟩ := hp
  refine ⟨w2, r, p2, np2, a1, a2, a3, a4, a5, a6, a7, ?_⟩
  cases hg : g with
  | inl q =>
    obtain ⟨b, hb⟩ := (e q.2).mp ⟨q.1, hg⟩
    rw [hg] at a8
    rw [hb]
    exact a8
  | inr z =>
    rw [(e2 z).mp hg]
    rw [hg] at a8
    exact a8
theorem rpLoop {F0 f1 m0 : Nat} (hm0 : m0 = 3 ∨ m0 = 5)
    (HP : ∀ f w p np, F0 ≤ f → PV w K T p d np s → w.1 67 = 0 → p ≤ T → room np T p → POST K T p d np s w (pP K f d p) (S.2 w v)) (hf1 : F0 ≤ f1) :
    ∀ (m : Nat), 1 ≤ m → m ≤ 8 → ∀ (f F : Nat) (w : MS) (p np x : Nat) (last : Int32), F0 + m ≤ f → PV w K T p d np s → w.1 67 = 0 → p ≤ T → room np T p → x < np → (last = -1 ∨ ∃ y, y < np ∧ last = Int32.ofNat y) →
      POST K T p d np s w (bd (pR K f d true m p) (fun _ q => tl K f1 d m0 q)) (gg_M_rowPattern N S (F + m + 1) w v (if m0 = 3 then 1 else 0) (sgV m0) (Int32.ofNat x) last (Int32.ofNat (8 - m)) 1) := by
  intro m
  induction m with
  | zero => intro h; omega
  | succ m ih =>
    intro _ hm8 f F w p np x last hf h h0 hp hr hx hl
    have t4 := h.tv.t4
    have hr' := hr
    unfold room at hr
    obtain ⟨f, rfl⟩ : ∃ f2, f = f2 + 1 := ⟨f - 1, by omega⟩
    have hm25 : m0 < 25 := by omega
    -- one part
    obtain ⟨w1, r1, p1, np1, a1, a2, a3, a4, a5, a6, a7, a8⟩ := HP f w p np (by omega) h h0 hp hr'
    have room1 : room np1 T p1 := by unfold room; omega
    have hx1 : x < np1 := by omega
    have hn1 : np1 < 5000 := by omega
    have e9 : Int32.ofNat (8 - (m + 1)) + 1 = Int32.ofNat (8 - m) := by rw [q_suc, show 8 - (m + 1) + 1 = 8 - m from by omega]
    have head : ∀ G, fb_M_rowPattern_66 N S G w v (if m0 = 3 then 1 else 0) (sgV m0) (Int32.ofNat x) last (Int32.ofNat (8 - (m + 1))) 1 = br (decide (last = (-1))) (ck (inb (Int32.ofNat x) (ln 36)) (lt (upA w1 36 (upd (w1.2.2.1 36) (Int32.ofNat x).toNatClampNeg r1)) (fun w12 => fb_M_rowPattern_112 N S G w12 v (if m0 = 3 then 1 else 0) (sgV m0) (Int32.ofNat x) (Int32.ofNat (8 - (m + 1))) r1))) (ck (inb last (ln 37)) (lt (upA w1 37 (upd (w1.2.2.1 37) last.toNatClampNeg r1)) (fun w11 => fb_M_rowPattern_112 N S G w11 v (if m0 = 3 then 1 else 0) (sgV m0) (Int32.ofNat x) (Int32.ofNat (8 - (m + 1))) r1))) := fun G => by
      unfold fb_M_rowPattern_66
      rw [show decide ((1 : Int32) = 0) = false from rfl, q_b0, decide_eq_true h0, q_b1, a1, q_bn]
    -- what follows the part, once it is chained
    have rest : ∀ w3 : MS, FrP IP APt w w3 → PV w3 K T p1 d np1 s → w3.1 67 = w1.1 67 → w3.1 68 = w1.1 68 → POST K T p d np s w (bd (pR K (f + 1) d true (m + 1) p) (fun _ q => tl K f1 d m0 q)) (fb_M_rowPattern_112 N S (gg_M_rowPattern N S (F + m + 1)) w3 v (if m0 = 3 then 1 else 0) (sgV m0) (Int32.ofNat x) (Int32.ofNat (8 - (m + 1))) r1) := fun w3 f3 h3 c1 c2 => by
      have exit : ∀ (w4 : MS) (n : Int32), gg_M_rowPattern N S (F + m + 1) w4 v (if m0 = 3 then 1 else 0) (sgV m0) (Int32.ofNat x) r1 n 0 = fb_M_rowPattern_151 N S (gg_M_rowPattern N S (F + m)) w4 v (if m0 = 3 then 1 else 0) (sgV m0) (Int32.ofNat x) r1 n := fun w4 n => by
        show fb_M_rowPattern_66 N S (gg_M_rowPattern N S (F + m)) w4 v _ _ _ _ _ 0 = _
        unfold fb_M_rowPattern_66
        rw [show decide ((0 : Int32) = 0) = true from rfl, q_b1]
      -- behind a fault
      have failed : ∀ (w4 : MS) (z : Nat × Nat) (n : Int32), FrP IP APt w w4 → PV w4 K T p1 d np1 s → w4.1 67 = flt K z.1 z.2 → w4.1 68 = w.2.2.1 8 z.2 → p ≤ z.2 → z.2 ≤ T → 1 ≤ z.1 → z.1 ≤ 3 → bd (pR K (f + 1) d true (m + 1) p) (fun _ q => tl K f1 d m0 q) = .inr z → POST K T p d np s w (bd (pR K (f + 1) d true (m + 1) p) (fun _ q => tl K f1 d m0 q)) (fb_M_rowPattern_140 N S (gg_M_rowPattern N S (F + m + 1)) w4 v (if m0 = 3 then 1 else 0) (sgV m0) (Int32.ofNat x) r1 n) := fun w4 z n f4 h4 g1 g2 g3 g4 g5 g6 hg => by
        have nz : w4.1 67 ≠ 0 := by rw [g1]; exact flt_ne g5 g6
        unfold fb_M_rowPattern_140
        rw [tkS_ok h4.ps (by omega), if_neg (fun y => nz y.1), q_bn]
        show POST K T p d np s w _ (gg_M_rowPattern N S (F + m + 1) w4 v _ _ _ _ _ 0)
        rw [exit]
        obtain ⟨w5, b1, b2, b3, b4, b5⟩ := rpTailF (N := N) (S := S) (G := gg_M_rowPattern N S (F + m)) (v := v) (tup := if m0 = 3 then 1 else 0) (last := r1) (n := n) (x := x) h4 nz (by omega) (by omega) hm25
        rw [hg]
        exact ⟨w5, _, p1, np1, b1, f4.tr b2, b3, a4, a5, a6, Or.inr ⟨x, hx1, rfl⟩, b4.trans g1, b5.trans g2, g3, g4, g5, g6⟩
      cases hg : pP K f d p with
      | inr z =>
        rw [hg] at a8
        obtain ⟨g1, g2, g3, g4, g5, g6⟩ := a8
        have hz : bd (pR K (f + 1) d true (m + 1) p) (fun _ q => tl K f1 d m0 q) = .inr z := by
          rw [pR_s, if_pos rfl, hg]
          rfl
        have nz : w3.1 67 ≠ 0 := by rw [c1, g1]; exact flt_ne g5 g6
        have fl := failed w3 z (Int32.ofNat (8 - m)) f3 h3 (c1.trans g1) (c2.trans g2) g3 g4 g5 g6 hz
        unfold fb_M_rowPattern_112
        rw [e9]
        by_cases e8 : Int32.ofNat (8 - m) = 8
        · rw [decide_eq_true e8, q_b1, isM_ok h3.ps (by omega), q_bn, wr_ok h3.ps (by omega), wr_id nz, q_bn]
          unfold br
          split
          · exact fl
          · exact fl
        · rw [decide_eq_false e8, q_b0]
          exact fl
      | inl q =>
        rw [hg] at a8
        obtain ⟨g1, g2, g3, g4, g5⟩ := a8
        have z0 : w3.1 67 = 0 := c1.trans g1
        have hp1 : p1 ≤ T := by omega
        have r1x : ∃ y, y < np1 ∧ r1 = Int32.ofNat y := a7.resolve_left g5
        have ePR : pR K (f + 1) d true (m + 1) p = if 1 < m + 1 ∧ K p1 = 26 then bd (pR K f d true (m + 1 - 1) (p1 + 1)) (fun xs r => .inl (.cons q.1 xs, r)) else .inl (.cons q.1 .nil, p1) := by
          rw [pR_s, if_pos rfl, hg, g2]
          rfl
        -- no comma: the row's end
        have last1 : ∀ n : Int32, POST K T p d np s w (tl K f1 d m0 p1) (fb_M_rowPattern_151 N S (gg_M_rowPattern N S (F + m)) w3 v (if m0 = 3 then 1 else 0) (sgV m0) (Int32.ofNat x) r1 n) := fun n => by
          obtain ⟨w5, r5, p5, np5, b1, b2, b3, b4, b5, b6, b7, b8⟩ := rpTail (N := N) (S := S) (G := gg_M_rowPattern N S (F + m)) (n := n) (x := x) h3 z0 hp1 room1 hx1 (Or.inr r1x) hm0 (fun w p np a b c d => HP f1 w p np hf1 a b c d)
          refine ⟨w5, r5, p5, np5, b1, f3.tr b2, b3, by omega, b5, by omega, b7, ?_⟩
          cases ht : tl K f1 d m0 p1 with
          | inl y =>
            rw [ht] at b8
            exact ⟨b8.1, b8.2.1, by have := b8.2.2.1; omega, b8.2.2.2⟩
          | inr y =>
            rw [ht] at b8
            exact ⟨b8.1, b8.2.1.trans (l8 f3), by have := b8.2.2.1; omega, b8.2.2.2⟩
        have nocomma : K p1 ≠ 26 → ∀ n : Int32, POST K T p d np s w (tl K f1 d m0 p1) (fb_M_rowPattern_140 N S (gg_M_rowPattern N S (F + m + 1)) w3 v (if m0 = 3 then 1 else 0) (sgV m0) (Int32.ofNat x) r1 n) := fun hk n => by
          unfold fb_M_rowPattern_140
          have cc : ¬ (w3.1 67 = 0 ∧ isS w3 p1 6 = true) := fun y => by
            rw [show (6 : Int32) = sgV 6 from by decide +kernel, h3.tv.sg hp1 (by decide)] at y
            exact hk (of_decide_eq_true y.2)
          rw [tkS_ok h3.ps (by omega), if_neg cc, q_bn]
          show POST K T p d np s w _ (gg_M_rowPattern N S (F + m + 1) w3 v _ _ _ _ _ 0)
          rw [exit]
          exact last1 n
        unfold fb_M_rowPattern_112
        rw [e9]
        by_cases hm : m = 0
        · -- the eighth part
          subst hm
          have e8 : Int32.ofNat (8 - 0) = 8 := rfl
          have cl1 : ¬ (1 < 0 + 1 ∧ K p1 = 26) := fun y => by omega
          rw [decide_eq_true e8, q_b1, isM_ok h3.ps (by omega), q_bn, show (6 : Int32) = sgV 6 from by decide +kernel, h3.tv.sg hp1 (by decide), b2i_0, ePR, if_neg cl1]
          show POST K T p d np s w (tl K f1 d m0 p1) _
          by_cases hk : K p1 = 20 + 6
          · rw [decide_eq_true hk]
            show POST K T p d np s w _ (br false _ _)
            rw [q_b0, wr_ok h3.ps (by omega), q_bn]
            obtain ⟨k1, k2⟩ := wr_67 (v := 2) z0 h3.tv hp1
            have ht : tl K f1 d m0 p1 = .inr (2, p1) := by
              unfold tl nd
              rcases hm0 with e | e
              · rw [if_pos e, if_neg (by omega)]
              · rw [if_neg (by omega), if_neg (by omega)]
                show (if K p1 = 25 then _ else _) = _
                rw [if_neg (by omega)]
            have hz : bd (pR K (f + 1) d true (0 + 1) p) (fun _ q => tl K f1 d m0 q) = .inr (2, p1) := by
              rw [ePR, if_neg cl1]
              exact ht
            have fl := failed (wrM w3 p1 2) (2, p1) (Int32.ofNat (8 - 0)) (f3.tr wr_P) h3.wr k1 (k2.trans (l8 f3)) (by omega) hp1 (show 1 ≤ 2 by decide) (show 2 ≤ 3 by decide) hz
            rw [hz] at fl
            rw [ht]
            exact fl
          · rw [decide_eq_false hk]
            show POST K T p d np s w _ (br true _ _)
            rw [q_b1]
            exact nocomma hk _
        · have e8 : ¬ Int32.ofNat (8 - m) = 8 := fun y => hm (by have := q_inj (a := 8 - m) (b := 8) (by omega) (by decide) y; omega)
          rw [decide_eq_false e8, q_b0, ePR]
          by_cases hk : K p1 = 26
          · rw [if_pos ⟨by omega, hk⟩]
            have hlt : p1 < T := h3.tv.lt hp1 (by omega) (by omega)
            unfold fb_M_rowPattern_140
            have cc : w3.1 67 = 0 ∧ isS w3 p1 6 = true := ⟨z0, by rw [show (6 : Int32) = sgV 6 from by decide +kernel, h3.tv.sg hp1 (by decide)]; exact decide_eq_true hk⟩
            rw [tkS_ok h3.ps (by omega), if_pos cc, q_bn]
            show POST K T p d np s w _ (gg_M_rowPattern N S (F + m + 1) (upI w3 69 (Int32.ofNat (p1 + 1))) v _ _ _ _ _ 1)
            obtain ⟨w5, r5, p5, np5, b1, b2, b3, b4, b5, b6, b7, b8⟩ := ih (by omega) (by omega) f F (upI w3 69 (Int32.ofNat (p1 + 1))) (p1 + 1) np1 x r1 (by omega) (h3.pos (by omega)) z0 (by omega) (by unfold room; omega) hx1 (Or.inr r1x)
            have fz : FrP IP APt w (upI w3 69 (Int32.ofNat (p1 + 1))) := f3.tr i69
            refine ⟨w5, r5, p5, np5, b1, fz.tr b2, b3, by omega, b5, by omega, b7, ?_⟩
            rw [show m + 1 - 1 = m from by omega]
            cases hR : pR K f d true m (p1 + 1) with
            | inr y =>
              rw [hR] at b8
              exact ⟨b8.1, b8.2.1.trans (l8 fz), by have := b8.2.2.1; show p ≤ y.2; have : p1 + 1 ≤ y.2 := this; omega, b8.2.2.2⟩
            | inl y =>
              rw [hR] at b8
              rw [show bd (bd (.inl y) (fun xs r => (.inl (Xs.cons q.1 xs, r) : Rs Xs))) (fun _ q => tl K f1 d m0 q) = tl K f1 d m0 y.2 from rfl]
              rw [show bd (.inl y) (fun _ q => tl K f1 d m0 q) = tl K f1 d m0 y.2 from rfl] at b8
              cases ht : tl K f1 d m0 y.2 with
              | inl q =>
                rw [ht] at b8
                exact ⟨b8.1, b8.2.1, by have := b8.2.2.1; omega, b8.2.2.2⟩
              | inr e =>
                rw [ht] at b8
                exact ⟨b8.1, b8.2.1.trans (l8 fz), by have := b8.2.2.1; omega, b8.2.2.2⟩
          · rw [if_neg (fun y => hk y.2)]
            show POST K T p d np s w (tl K f1 d m0 p1) _
            exact nocomma hk _
    show POST K T p d np s w _ (fb_M_rowPattern_66 N S (gg_M_rowPattern N S (F + (m + 1))) w v _ _ _ _ _ 1)
    rw [head]
    by_cases hl1 : last = -1
    · rw [decide_eq_true hl1, q_b1, q_ck (q_inb (by show x < 5000; omega) (by decide)), q_ls]
      exact rest _ (a2.tr (iA5 (Or.inr (Or.inr (Or.inl rfl))))) (a3.frA (Or.inr (Or.inr (Or.inl rfl)))) rfl rfl
    · obtain ⟨y, y1, y2⟩ := hl.resolve_left hl1
      rw [decide_eq_false hl1, q_b0, y2, q_ck (q_inb (by show y < 5000; omega) (by decide)), q_ls]
      exact rest _ (a2.tr (iA5 (Or.inr (Or.inr (Or.inr (Or.inl rfl)))))) (a3.frA (Or.inr (Or.inr (Or.inr (Or.inl rfl))))) rfl rfl
end RWL
