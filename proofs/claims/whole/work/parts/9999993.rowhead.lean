/-! rows of patterns: from their first sign on -/
set_option maxRecDepth 100000
/-- where it ends, or its fault, alone -/
def sh {α : Type} (g : Rs α) : Rs Unit := match g with
  | .inl q => .inl ((), q.2)
  | .inr e => .inr e
section RWH
variable {N p d np s T : Nat} {w : MS} {K : Nat → Nat} {v : Int32} {S : SG_M_rowPattern}
theorem POST.up {α : Type} {g : Rs α} {y : Option (MS × Int32)} {w1 : MS} {p1 np1 : Nat} (h : POST K T p1 d np1 s w1 g y) (f : FrP IP APt w w1) (hp : p ≤ p1) (hn : np ≤ np1 ∧ np1 + p ≤ np + p1) : POST K T p d np s w g y := by
  obtain ⟨w2, r, p2, np2, a1, a2, a3, a4, a5, a6, a7, a8⟩ := h
  refine ⟨w2, r, p2, np2, a1, f.tr a2, a3, by omega, a5, by omega, a7, ?_⟩
  cases g with
  | inl q => exact ⟨a8.1, a8.2.1, by have := a8.2.2.1; omega, a8.2.2.2⟩
  | inr e => exact ⟨a8.1, a8.2.1.trans (l8 f), by have := a8.2.2.1; omega, a8.2.2.2⟩
theorem POST.sh {α : Type} {g : Rs α} {h : Rs Unit} {y : Option (MS × Int32)} (hp : POST K T p d np s w h y) (e : sh g = h) : POST K T p d np s w g y := by
  obtain ⟨w2, r, p2, np2, a1, a2, a3, a4, a5, a6, a7, a8⟩ := hp
  refine ⟨w2, r, p2, np2, a1, a2, a3, a4, a5, a6, a7, ?_⟩
  subst e
  cases g with
  | inl q => exact a8
  | inr e => exact a8
theorem ofNat_ne (hx : np < 2147483648) : Int32.ofNat np ≠ -1 := fun z => by
  have := congrArg Int32.toInt z
  rw [Int32.toInt_ofNat_of_lt (by omega)] at this
  have e : (-1 : Int32).toInt = -1 := rfl
  omega
/-- behind a fault: a row is begun, and nothing comes of it -/
theorem rowPF (h : PV w K T p d np s) (h0 : w.1 67 ≠ 0) (hp : p ≤ T) (hn : np < 4990) : ∃ w2, fm_M_rowPattern N S w v = some (w2, Int32.ofNat np) ∧ FrP IP APt w w2 ∧ PV w2 K T (p + 1) d (np + 1) s ∧ w2.1 67 = w.1 67 ∧ w2.1 68 = w.1 68 := by
  have t4 := h.tv.t4
  have e27 : ∀ (G : MS → Int32 → Int32 → Int32 → Int32 → Int32 → Int32 → Int32 → Option (MS × Int32)) (v2 t : Int32) (m : Nat), m < 25 → ∃ w2, fb_M_rowPattern_27 N S G w v v2 (sgV m) t = some (w2, Int32.ofNat np) ∧ FrP IP APt w w2 ∧ PV w2 K T (p + 1) d (np + 1) s ∧ w2.1 67 = w.1 67 ∧ w2.1 68 = w.1 68 := fun G v2 t m hm => by
    obtain ⟨w1, a1, a2, a3, a4, a5⟩ := h.pat (N := N) (v := t) (by omega)
    unfold fb_M_rowPattern_27
    rw [a1, q_bn, q_ls, a3.ps, q_suc]
    have h2 := a3.pos (x := p + 1) (by omega)
    have nz : (upI w1 69 (Int32.ofNat (p + 1))).1 67 ≠ 0 := by show w1.1 67 ≠ 0; rw [a4]; exact h0
    rw [decide_eq_false nz, q_b0]
    obtain ⟨w3, b1, b2, b3⟩ := rp194 (N := N) (S := S) (G := G) (n := 0) (x := np) h2 (by omega) (by omega) (m := m) hm
    have b3 := b3.resolve_right (fun z => by rcases z with z | z | z <;> exact nz z.1)
    exact ⟨w3, b1, (a2.tr i69).tr b2, b3.2.1, b3.2.2.1.trans a4, b3.2.2.2.trans a5⟩
  unfold fm_M_rowPattern fb_M_rowPattern_0 fb_M_rowPattern_15
  rw [isM_ok h.ps (by omega), q_bn]
  have k3 := e27 (gg_M_rowPattern N S N)
  cases isS w p 2 with
  | true => exact k3 1 5 3 (by decide)
  | false => exact k3 0 6 5 (by decide)
theorem rowP {F0 f : Nat} (h : PV w K T p d np s) (h0 : w.1 67 = 0) (hp : p < T) (hr : room np T p) (hk : K p = 22 ∨ K p = 24)
    (HP : ∀ f w p np, F0 ≤ f → PV w K T p d np s → w.1 67 = 0 → p ≤ T → room np T p → POST K T p d np s w (pP K f d p) (S.2 w v)) (hf : F0 + 10 ≤ f) (hN : 50000 ≤ N) :
    POST K T p d np s w (if K p = 22 then bd (pRu K f d true 8 23 (p + 1)) (fun xs q => .inl (X.tuple p xs, q)) else pLi K f d true p) (fm_M_rowPattern N S w v) := by
  have t4 := h.tv.t4
  have hr' := hr
  unfold room at hr
  obtain ⟨f, rfl⟩ : ∃ f2, f = f2 + 1 := ⟨f - 1, by omega⟩
  have e27 : ∀ (t : Int32) (m0 : Nat), m0 = 3 ∨ m0 = 5 → POST K T p d np s w (if K (p + 1) = 20 + m0 then (.inl ((), p + 2) : Rs Unit) else bd (pR K f d true 8 (p + 1)) (fun _ q => tl K f d m0 q)) (fb_M_rowPattern_27 N S (gg_M_rowPattern N S N) w v (if m0 = 3 then 1 else 0) (sgV m0) t) := fun t m0 hm0 => by
    obtain ⟨w1, a1, a2, a3, a4, a5⟩ := h.pat (N := N) (v := t) (by omega)
    unfold fb_M_rowPattern_27
    rw [a1, q_bn, q_ls, a3.ps, q_suc]
    have h2 := a3.pos (x := p + 1) (by omega)
    have z0 : (upI w1 69 (Int32.ofNat (p + 1))).1 67 = 0 := a4.trans h0
    have f2 : FrP IP APt w (upI w1 69 (Int32.ofNat (p + 1))) := a2.tr i69
    rw [decide_eq_true z0, q_b1, isM_ok h2.ps (by omega), q_bn, h2.tv.sg (by omega) (m := m0) (by omega), b2i_0]
    by_cases hc : K (p + 1) = 20 + m0
    · rw [decide_eq_true hc, if_pos hc]
      show POST K T p d np s w _ (br false _ _)
      rw [q_b0]
      obtain ⟨w3, b1, b2, b3⟩ := rp194 (N := N) (S := S) (G := gg_M_rowPattern N S N) (n := 0) (x := np) h2 (by omega) (by omega) (m := m0) (by omega)
      rcases b3 with ⟨b, -⟩ | ⟨-, -, -, c1, c2⟩ | ⟨-, -, b, -⟩ | ⟨-, b⟩
      · exact absurd z0 b
      · have : p + 1 < T := h2.tv.lt (by omega) (by omega) (by omega)
        exact ⟨w3, _, p + 2, np + 1, b1, f2.tr b2, c1, by omega, by omega, by omega, Or.inr ⟨np, by omega, rfl⟩, c2, rfl, by show p < p + 2; omega, by show p + 2 ≤ T; omega, ofNat_ne (by omega)⟩
      · exact absurd hc b
      · exact absurd (by omega) b
    · rw [decide_eq_false hc, if_neg hc]
      show POST K T p d np s w _ (br true _ _)
      rw [q_b1]
      have L := rpLoop (N := N) (S := S) (v := v) (s := s) (T := T) (K := K) (d := d) (F0 := F0) (f1 := f) (m0 := m0) hm0 HP (by omega) 8 (by decide) (by decide) f (N - 9) (upI w1 69 (Int32.ofNat (p + 1))) (p + 1) (np + 1) np (-1) (by omega) h2 z0 (by omega) (by unfold room; omega) (by omega) (Or.inl rfl)
      rw [show N - 9 + 8 + 1 = N from by omega] at L
      exact L.up f2 (by omega) (by omega)
  unfold fm_M_rowPattern fb_M_rowPattern_0 fb_M_rowPattern_15
  rw [isM_ok h.ps (by omega), q_bn, show (2 : Int32) = sgV 2 from by decide +kernel, h.tv.sg (by omega) (m := 2) (by decide), b2i_0]
  rcases hk with hk | hk
  · rw [decide_eq_true (show K p = 20 + 2 from hk), if_pos hk]
    refine (e27 5 3 (Or.inl rfl)).sh ?_
    rw [pRu_s]
    by_cases hc : K (p + 1) = 23
    · rw [if_pos hc, if_pos hc]; rfl
    · rw [if_neg hc, if_neg hc]
      cases pR K f d true 8 (p + 1) with
      | inr z => rfl
      | inl y =>
        show sh (bd (bd (nd K 23 y.2) (fun _ r => .inl (y.1, r))) (fun xs q => .inl (X.tuple p xs, q))) = tl K f d 3 y.2
        unfold tl nd
        rw [if_pos rfl]
        by_cases h23 : K y.2 = 23
        · rw [if_pos h23]; rfl
        · rw [if_neg h23]; rfl
  · rw [decide_eq_false (show ¬ K p = 20 + 2 by omega), if_neg (show ¬ K p = 22 by omega)]
    refine (e27 6 5 (Or.inr rfl)).sh ?_
    rw [pLi_s]
    by_cases hc : K (p + 1) = 25
    · rw [if_pos hc, if_pos hc]; rfl
    · rw [if_neg hc, if_neg hc]
      cases pR K f d true 8 (p + 1) with
      | inr z => rfl
      | inl y =>
        show sh (bd (if K y.2 = 29 then bd (if true = true then pP K f d (y.2 + 1) else pE K f d true (y.2 + 1)) (fun x r => .inl (Xs.cons x .nil, r)) else .inl (Xs.nil, y.2)) (fun t r => bd (nd K 25 r) (fun _ r2 => .inl (X.list p y.1 t, r2)))) = tl K f d 5 y.2
        unfold tl
        rw [if_neg (show ¬ (5 : Nat) = 3 by decide), if_pos (show true = true from rfl)]
        have hn : ∀ (t : Xs) (r : Nat), sh (bd (nd K 25 r) (fun _ r2 => (.inl (X.list p y.1 t, r2) : Rs X))) = nd K 25 r := fun t r => by
          unfold nd
          by_cases h25 : K r = 25
          · rw [if_pos h25]; rfl
          · rw [if_neg h25]; rfl
        by_cases h29 : K y.2 = 29
        · rw [if_pos h29, if_pos h29]
          cases pP K f d (y.2 + 1) with
          | inr z => rfl
          | inl q => exact hn _ _
        · rw [if_neg h29, if_neg h29]
          exact hn _ _
end RWH
