set_option maxRecDepth 100000
def pq (q k : Nat) : Nat := 2000 + 100 * q + k
def rf (x : Int32) : Option Nat := if x < 0 then none else some x.toNatClampNeg
def MD (c : Nat → Nat) (q : Nat) : Prop := q < 24 ∧ c (pq q 0) ≠ 0
def isR (k : Nat) : Prop := k = 0 ∨ k = 20 ∨ k = 2 ∨ k = 3 ∨ k = 6 ∨ k = 14 ∨ k = 30 ∨ k = 32 ∨ k = 33 ∨ k = 35 ∨ k = 37
def rfv (j : Nat) : LV := .inr (.inr (some j))
def KI (k : Nat) : Prop := k = 4 ∨ k = 5 ∨ k = 7 ∨ k = 8 ∨ k = 9 ∨ k = 11 ∨ k = 12 ∨ k = 13 ∨ k = 15
def KG (k : Nat) : Prop := k = 1 ∨ k = 4 ∨ k = 6 ∨ k = 8 ∨ k = 9
def hmR (c : Nat → Nat) (m : MS) (q : Nat) : Option Nat := (rf (m.1 (pq q 17))).map (fun r => c (pq r 0))
def arJ (n : Nat) (f : Nat → Int64) (x : LC) : Prop := ∃ h, x = .inr (.inr (.inl (n, h))) ∧ ∀ i, i < n → h i = f i
def arI (n : Nat) (f : Nat → Int32) (x : LC) : Prop := ∃ h, x = .inr (.inl (4, n, h)) ∧ ∀ i, i < n → h i = f i
def roP (c : Nat → Nat) (m : MS) (q : Nat) (x : LC) : Prop := ∃ f, x = .inl (7, f) ∧ f 0 = .inl (Int32.ofNat q) ∧ f 1 = rfv (c (pq q 20)) ∧ f 2 = rfv (c (pq q 2)) ∧ f 3 = rfv (c (pq q 3)) ∧ f 6 = rfv (c (pq q 6)) ∧ f 14 = rfv (c (pq q 14)) ∧ f 17 = .inr (.inr (hmR c m q)) ∧ (∀ k, KI k → f k = .inl (m.1 (pq q k))) ∧ f 10 = .inr (.inl (m.2.1 (pq q 10))) ∧ f 16 = .inr (.inl (m.2.1 (pq q 16)))
def roF (c : Nat → Nat) (m : MS) (q : Nat) (x : LC) : Prop := ∃ f, x = .inl (4, f) ∧ f 0 = rfv (c (pq q 30)) ∧ f 2 = rfv (c (pq q 32)) ∧ f 3 = rfv (c (pq q 33)) ∧ f 5 = rfv (c (pq q 35)) ∧ f 7 = rfv (c (pq q 37)) ∧ ∀ k, KG k → f k = .inl (m.1 (pq q (20 + k)))
def lnQ (m : MS) (q k : Nat) : Nat := (m.1 (pq q k)).toNatClampNeg
def ROL (c : Nat → Nat) (m : MS) (q k : Nat) (x : LC) : Prop :=
  (k = 0 → roP c m q x) ∧ (k = 20 → roF c m q x) ∧ (k = 2 → arJ 512 (m.2.2.2 (pq q 2)) x) ∧ (k = 3 → arJ 512 (m.2.2.2 (pq q 3)) x) ∧ (k = 6 → arJ 30 (m.2.2.2 (pq q 6)) x) ∧ (k = 14 → arI 24 (m.2.2.1 (pq q 14)) x) ∧ (k = 30 → arI 300 (m.2.2.1 (pq q 30)) x) ∧ (k = 32 → arI (lnQ m q 42) (m.2.2.1 (pq q 32)) x) ∧ (k = 33 → arJ (lnQ m q 43) (m.2.2.2 (pq q 33)) x) ∧ (k = 35 → arJ (lnQ m q 45) (m.2.2.2 (pq q 35)) x) ∧ (k = 37 → arI (lnQ m q 47) (m.2.2.1 (pq q 37)) x)
def slQ (c : Nat → Nat) (m : MS) (q : Nat) : Nat := if c (pq q 0) = 0 then 0 else 1182 + 2 * (lnQ m q 42 + lnQ m q 43 + lnQ m q 45 + lnQ m q 47)
def slT (c : Nat → Nat) (m : MS) : Nat → Nat
  | 0 => 0
  | n + 1 => slT c m n + slQ c m n
def RS (m : MS) (u : CS) : Prop := skB u = true ∧ (∀ i k, i < 57 → k < 20 → FI u i k = m.1 (20 * i + k)) ∧ FJ u 55 10 = m.2.1 1110 ∧ (∀ i, i < 57 → AI u i = m.2.2.1 i) ∧ (∀ i, i < 57 → AJ u i = m.2.2.2 i) ∧ FRc u 43 4 = rf (m.1 1964) ∧ ∀ j, rf (m.1 1964) = some j → j = 52 ∨ j = 56
def RO (o : Option Nat) (c : Nat → Nat) (u : CS) : Prop := ∀ q, o = some q → MD c q ∧ FRc u 55 3 = some (c (pq q 0)) ∧ FRc u 55 4 = some (c (pq q 20))
def RQc (c : Nat → Nat) (m : MS) (u : CS) : Prop := (∀ q, q < 24 → AP u 48 q = (if c (pq q 0) = 0 then none else some (c (pq q 0)))) ∧ ∀ q, q < 24 → m.2.2.1 1948 q = if c (pq q 0) = 0 then -1 else Int32.ofNat q
def RD (c : Nat → Nat) (u : CS) : Prop := (∀ q k r l, MD c q → MD c r → isR k → isR l → c (pq q k) = c (pq r l) → q = r ∧ k = l) ∧ ∀ q k, MD c q → isR k → 57 ≤ c (pq q k) ∧ c (pq q k) < u.1.1
def RR (c : Nat → Nat) (m : MS) (u : CS) : Prop := (∀ q k, MD c q → isR k → ROL c m q k (u.2 (c (pq q k)))) ∧ ∀ q r, MD c q → rf (m.1 (pq q 17)) = some r → MD c r
def isL (k : Nat) : Prop := k = 42 ∨ k = 43 ∨ k = 45 ∨ k = 47
def RC (c : Nat → Nat) (m : MS) (u : CS) : Prop := u.1.2 = 145838 + slT c m 24 ∧ 64 * u.1.1 ≤ u.1.2 ∧ ∀ q k, MD c q → isL k → ¬ m.1 (pq q k) < 0
def RP (o : Option Nat) (c : Nat → Nat) (m : MS) (u : CS) : Prop := RS m u ∧ wfB u = true ∧ RO o c u ∧ RQc c m u ∧ RD c u ∧ RR c m u ∧ RC c m u
theorem pq_ne {q k r l : Nat} (hk : k < 100) (hl : l < 100) (h : ¬ (q = r ∧ k = l)) : pq q k ≠ pq r l := by unfold pq; omega
theorem pq_big {q k j : Nat} (h : j < 2000) : pq q k ≠ j := by unfold pq; omega
theorem isR_lt {k : Nat} (h : isR k) : k < 100 := by unfold isR at h; omega
theorem sk_cup57 {u : CS} {i : Nat} {x : LC} (h : skB u = true) (hi : 57 ≤ i) : skB (cup u i x) = true := by
  have h1 := sk_n h
  unfold skB
  rw [Bool.and_eq_true]
  refine ⟨decide_eq_true h1, List.all_eq_true.mpr (fun j hj => ?_)⟩
  have hj := List.mem_range.mp hj
  show okS (tbl.getD j (9, [])) (if j = i then x else u.2 j) = true
  rw [if_neg (by omega)]
  exact sk_at h hj
theorem cup_ne {u : CS} {i j : Nat} {x : LC} (h : j ≠ i) : (cup u i x).2 j = u.2 j := if_neg h
theorem cup_eq {u : CS} {i : Nat} {x : LC} : (cup u i x).2 i = x := if_pos rfl
theorem cup_1 {u : CS} {i : Nat} {x : LC} : (cup u i x).1 = u.1 := rfl
theorem FI_at {u w : CS} {i k : Nat} (h : w.2 i = u.2 i) : FI w i k = FI u i k := by unfold FI; rw [h]
theorem FJ_at {u w : CS} {i k : Nat} (h : w.2 i = u.2 i) : FJ w i k = FJ u i k := by unfold FJ; rw [h]
theorem FR_at {u w : CS} {i k : Nat} (h : w.2 i = u.2 i) : FRc w i k = FRc u i k := by unfold FRc; rw [h]
theorem AI_at {u w : CS} {i : Nat} (h : w.2 i = u.2 i) : AI w i = AI u i := by unfold AI; rw [h]
theorem AJ_at {u w : CS} {i : Nat} (h : w.2 i = u.2 i) : AJ w i = AJ u i := by unfold AJ; rw [h]
theorem AP_at {u w : CS} {i : Nat} (h : w.2 i = u.2 i) : AP w i = AP u i := by unfold AP; rw [h]
theorem wf_cup {u : CS} {i : Nat} {x : LC} (h : wfB u = true) (hx : i < u.1.1 → okC u.1.1 x = true) : wfB (cup u i x) = true := by
  unfold wfB at h ⊢
  refine List.all_eq_true.mpr (fun j hj => ?_)
  have hj2 := List.all_eq_true.mp h j hj
  have hj3 := List.mem_range.mp hj
  show okC u.1.1 (if j = i then x else u.2 j) = true
  by_cases e : j = i
  · rw [if_pos e]; exact hx (e ▸ hj3)
  · rw [if_neg e]; exact hj2
theorem wf_at {u : CS} {i : Nat} (h : wfB u = true) (hi : i < u.1.1) : okC u.1.1 (u.2 i) = true := by
  unfold wfB at h
  exact List.all_eq_true.mp h i (List.mem_range.mpr hi)
theorem okC_upd {n ci k : Nat} {f : Nat → LV} {v : LV} (h : okC n (.inl (ci, f)) = true) (hv : okV n v = true) : okC n (.inl (ci, fun j => if j = k then v else f j)) = true := by
  unfold okC at h ⊢
  refine List.all_eq_true.mpr (fun j hj => ?_)
  have := List.all_eq_true.mp h j hj
  by_cases e : j = k
  · simp only [if_pos e]; exact hv
  · simp only [if_neg e]; exact this
theorem slT_eq {c c2 : Nat → Nat} {m m2 : MS} {n : Nat} (h : ∀ q, q < n → slQ c2 m2 q = slQ c m q) : slT c2 m2 n = slT c m n := by
  induction n with
  | zero => rfl
  | succ n ih =>
    show slT c2 m2 n + slQ c2 m2 n = slT c m n + slQ c m n
    rw [ih (fun q hq => h q (by omega)), h n (by omega)]
theorem slQ_eq {c : Nat → Nat} {m m2 : MS} {q : Nat} (h : ∀ k, k = 42 ∨ k = 43 ∨ k = 45 ∨ k = 47 → m2.1 (pq q k) = m.1 (pq q k)) : slQ c m2 q = slQ c m q := by
  unfold slQ lnQ
  rw [h 42 (by omega), h 43 (by omega), h 45 (by omega), h 47 (by omega)]
def SMR (c : Nat → Nat) (m m2 : MS) (q k : Nat) : Prop :=
  (k = 0 → (∀ l, l < 20 → m2.1 (pq q l) = m.1 (pq q l)) ∧ ∀ l, l < 20 → m2.2.1 (pq q l) = m.2.1 (pq q l)) ∧ (k = 20 → ∀ l, 20 ≤ l → l < 30 → m2.1 (pq q l) = m.1 (pq q l)) ∧ (m2.2.2.1 (pq q k) = m.2.2.1 (pq q k)) ∧ (m2.2.2.2 (pq q k) = m.2.2.2 (pq q k)) ∧ ∀ l, 30 ≤ l → l < 100 → m2.1 (pq q l) = m.1 (pq q l)
theorem ROL_same {c : Nat → Nat} {m m2 : MS} {q k : Nat} {x : LC} (h : ROL c m q k x) (e : SMR c m m2 q k) : ROL c m2 q k x := by
  obtain ⟨e0, e20, eI, eJ, eL⟩ := e
  obtain ⟨h0, h20, h2, h3, h6, h14, h30, h32, h33, h35, h37⟩ := h
  refine ⟨fun z => ?_, fun z => ?_, fun z => ?_, fun z => ?_, fun z => ?_, fun z => ?_, fun z => ?_, fun z => ?_, fun z => ?_, fun z => ?_, fun z => ?_⟩
  · obtain ⟨e1, e2⟩ := e0 z
    obtain ⟨f, a0, a1, a2, a3, a4, a5, a6, a7, a8, a9, a10⟩ := h0 z
    refine ⟨f, a0, a1, a2, a3, a4, a5, a6, ?_, fun k hk => ?_, ?_, ?_⟩
    · rw [a7]; unfold hmR; rw [e1 17 (by omega)]
    · rw [a8 k hk, e1 k (by unfold KI at hk; omega)]
    · rw [a9, e2 10 (by omega)]
    · rw [a10, e2 16 (by omega)]
  · obtain ⟨f, a0, a1, a2, a3, a4, a5, a6⟩ := h20 z
    refine ⟨f, a0, a1, a2, a3, a4, a5, fun k hk => ?_⟩
    rw [a6 k hk, e20 z (20 + k) (by omega) (by unfold KG at hk; omega)]
  · subst z; rw [eJ]; exact h2 rfl
  · subst z; rw [eJ]; exact h3 rfl
  · subst z; rw [eJ]; exact h6 rfl
  · subst z; rw [eI]; exact h14 rfl
  · subst z; rw [eI]; exact h30 rfl
  · subst z; rw [eI]; unfold lnQ; rw [eL 42 (by omega) (by omega)]; exact h32 rfl
  · subst z; rw [eJ]; unfold lnQ; rw [eL 43 (by omega) (by omega)]; exact h33 rfl
  · subst z; rw [eJ]; unfold lnQ; rw [eL 45 (by omega) (by omega)]; exact h35 rfl
  · subst z; rw [eI]; unfold lnQ; rw [eL 47 (by omega) (by omega)]; exact h37 rfl
theorem RP_low {o o2 : Option Nat} {c : Nat → Nat} {m m2 : MS} {u w : CS} (h : RP o2 c m u) (hs : RS m2 w) (hw : wfB w = true) (ho : RO o c w) (e1 : w.1 = u.1) (e2 : ∀ i, i = 48 ∨ 57 ≤ i → w.2 i = u.2 i)
    (f1 : ∀ k, 2000 ≤ k → m2.1 k = m.1 k) (f2 : ∀ k, 2000 ≤ k → m2.2.1 k = m.2.1 k) (f3 : ∀ k, 1948 ≤ k → m2.2.2.1 k = m.2.2.1 k) (f4 : ∀ k, 1948 ≤ k → m2.2.2.2 k = m.2.2.2 k) : RP o c m2 w := by
  obtain ⟨r1, r2, r3, ⟨q1, q2⟩, ⟨d1, d2⟩, ⟨p1, p2⟩, t1, t2, t3⟩ := h
  have hp : ∀ q k, 2000 ≤ pq q k := fun q k => by unfold pq; omega
  refine ⟨hs, hw, ho, ⟨fun q hq => ?_, fun q hq => ?_⟩, ⟨d1, fun q k a b => ?_⟩, ⟨fun q k a b => ?_, fun q r a b => ?_⟩, ?_, ?_, fun q k a b => ?_⟩
  · rw [AP_at (e2 48 (Or.inl rfl))]; exact q1 q hq
  · rw [f3 1948 (by omega)]; exact q2 q hq
  · rw [e1]; exact d2 q k a b
  · rw [e2 _ (Or.inr (d2 q k a b).1)]
    exact ROL_same (p1 q k a b) ⟨fun _ => ⟨fun l _ => f1 _ (hp q l), fun l _ => f2 _ (hp q l)⟩, fun _ l _ _ => f1 _ (hp q l), f3 _ (by have := hp q k; omega), f4 _ (by have := hp q k; omega), fun l _ _ => f1 _ (hp q l)⟩
  · rw [f1 _ (hp q 17)] at b; exact p2 q r a b
  · rw [e1, slT_eq (m := m) (c := c) (fun q _ => slQ_eq (fun k _ => f1 _ (hp q k)))]; exact t1
  · rw [e1]; exact t2
  · rw [f1 _ (hp q k)]; exact t3 q k a b
theorem okC_of {u : CS} {i ci : Nat} {f : Nat → LV} (h : wfB u = true) (hi : i < u.1.1) (e : u.2 i = .inl (ci, f)) : okC u.1.1 (.inl (ci, f)) = true := by rw [← e]; exact wf_at h hi
theorem wf_uF {u : CS} {i k : Nat} {v : LV} (h : wfB u = true) (hv : okV u.1.1 v = true) : wfB (uF u i k v) = true := by
  unfold uF
  cases e : u.2 i with
  | inl q => exact wf_cup h (fun hi => okC_upd (okC_of h hi e) hv)
  | inr q => exact h
theorem wf_uA {u : CS} {i : Nat} {g : Nat → Int32} (h : wfB u = true) : wfB (uA u i g) = true := by
  unfold uA
  cases e : u.2 i with
  | inl q => exact h
  | inr q =>
    rcases q with q | q | q
    · exact wf_cup h (fun hi => rfl)
    · exact h
    · exact h
theorem wf_uJ {u : CS} {i : Nat} {g : Nat → Int64} (h : wfB u = true) : wfB (uJ u i g) = true := by
  unfold uJ
  cases e : u.2 i with
  | inl q => exact h
  | inr q =>
    rcases q with q | q | q
    · exact h
    · exact wf_cup h (fun hi => rfl)
    · exact h
theorem FJ_F {u : CS} {i k i2 k2 : Nat} {v : LV} (h : i2 ≠ i ∨ k2 ≠ k) : FJ (uF u i k v) i2 k2 = FJ u i2 k2 := by
  by_cases e : i2 = i
  · subst e
    have hk : k2 ≠ k := by rcases h with h | h; exact absurd rfl h; exact h
    unfold FJ uF
    cases hc : u.2 i2 with
    | inl q => simp [cup, hk]
    | inr q => simp [hc]
  · unfold FJ; rw [uF_ne e]
theorem FR_F {u : CS} {i k i2 k2 : Nat} {v : LV} (h : i2 ≠ i ∨ k2 ≠ k) : FRc (uF u i k v) i2 k2 = FRc u i2 k2 := by
  by_cases e : i2 = i
  · subst e
    have hk : k2 ≠ k := by rcases h with h | h; exact absurd rfl h; exact h
    unfold FRc uF
    cases hc : u.2 i2 with
    | inl q => simp [cup, hk]
    | inr q => simp [hc]
  · unfold FRc; rw [uF_ne e]
theorem AJ_F {u : CS} {i k i2 : Nat} {v : LV} : AJ (uF u i k v) i2 = AJ u i2 := by
  by_cases e : i2 = i
  · subst e
    unfold AJ uF
    cases hc : u.2 i2 with
    | inl q => simp [cup]
    | inr q => simp [hc]
  · unfold AJ; rw [uF_ne e]
theorem FJ_A {u : CS} {i i2 k2 : Nat} {g : Nat → Int32} : FJ (uA u i g) i2 k2 = FJ u i2 k2 := by
  by_cases e : i2 = i
  · subst e
    unfold FJ uA
    cases hc : u.2 i2 with
    | inl q => simp [hc]
    | inr q => rcases q with q | q | q <;> simp [cup, hc]
  · unfold FJ; rw [uA_ne e]
theorem FR_A {u : CS} {i i2 k2 : Nat} {g : Nat → Int32} : FRc (uA u i g) i2 k2 = FRc u i2 k2 := by
  by_cases e : i2 = i
  · subst e
    unfold FRc uA
    cases hc : u.2 i2 with
    | inl q => simp [hc]
    | inr q => rcases q with q | q | q <;> simp [cup, hc]
  · unfold FRc; rw [uA_ne e]
theorem AJ_A {u : CS} {i i2 : Nat} {g : Nat → Int32} : AJ (uA u i g) i2 = AJ u i2 := by
  by_cases e : i2 = i
  · subst e
    unfold AJ uA
    cases hc : u.2 i2 with
    | inl q => simp [hc]
    | inr q => rcases q with q | q | q <;> simp [cup, hc]
  · unfold AJ; rw [uA_ne e]
theorem FJ_J {u : CS} {i i2 k2 : Nat} {g : Nat → Int64} : FJ (uJ u i g) i2 k2 = FJ u i2 k2 := by
  by_cases e : i2 = i
  · subst e
    unfold FJ uJ
    cases hc : u.2 i2 with
    | inl q => simp [hc]
    | inr q => rcases q with q | q | q <;> simp [cup, hc]
  · unfold FJ; rw [uJ_ne e]
theorem FR_J {u : CS} {i i2 k2 : Nat} {g : Nat → Int64} : FRc (uJ u i g) i2 k2 = FRc u i2 k2 := by
  by_cases e : i2 = i
  · subst e
    unfold FRc uJ
    cases hc : u.2 i2 with
    | inl q => simp [hc]
    | inr q => rcases q with q | q | q <;> simp [cup, hc]
  · unfold FRc; rw [uJ_ne e]
theorem AJ_J {u : CS} {i i2 : Nat} {g : Nat → Int64} (h : i2 ≠ i) : AJ (uJ u i g) i2 = AJ u i2 := by unfold AJ; rw [uJ_ne h]
theorem AJ_self {u : CS} (h : skB u = true) {i n : Nat} {g : Nat → Int64} (hi : i < 57) (ht : tbl.getD i (9, []) = (1, [n])) : AJ (uJ u i g) i = g := by
  obtain ⟨h1, h2⟩ := sk_l h hi ht
  unfold uJ
  rw [h2]
  unfold AJ
  rw [cup_eq]
theorem FJ_self {u : CS} (h : skB u = true) {i ci k : Nat} {ks : List Nat} {v : Int64} (hi : i < 57) (ht : tbl.getD i (9, []) = (3, ci :: ks)) : FJ (uF u i k (.inr (.inl v))) i k = v := by
  obtain ⟨f, h1, h2, -⟩ := sk_o h hi ht
  unfold FJ uF
  rw [h2]
  simp [cup]
theorem FR_self {u : CS} (h : skB u = true) {i ci k : Nat} {ks : List Nat} {v : Option Nat} (hi : i < 57) (ht : tbl.getD i (9, []) = (3, ci :: ks)) : FRc (uF u i k (.inr (.inr v))) i k = v := by
  obtain ⟨f, h1, h2, -⟩ := sk_o h hi ht
  unfold FRc uF
  rw [h2]
  simp [cup]
theorem RP_pI {o : Option Nat} {c : Nat → Nat} {m : MS} {u : CS} (h : RP o c m u) {i ci k : Nat} {ks : List Nat} {v : Int32} (hi : i < 57 ∧ k < 20) (ht : tbl.getD i (9, []) = (3, ci :: ks)) (hk : ks[k]? = some 0) (hx : i ≠ 43 ∨ k ≠ 4) (hy : i ≠ 55 ∨ (k ≠ 3 ∧ k ≠ 4 ∧ k ≠ 10)) (hz : i ≠ 48) :
    pF u i ci k (.inl v) = some (uF u i k (.inl v)) ∧ RP o c (upI m (20 * i + k) v) (uF u i k (.inl v)) := by
  obtain ⟨⟨s1, s2, s3, s4, s5, s6, s7⟩, r2, r3, r4⟩ := h
  refine ⟨sk_pF s1 hi.1 ht, ?_⟩
  refine RP_low (u := u) (m := m) ⟨⟨s1, s2, s3, s4, s5, s6, s7⟩, r2, r3, r4⟩ ⟨sk_uF (x := 0) s1 hi.1 ht hk rfl, fun i2 k2 hi2 hk2 => ?_, ?_, fun i2 h2 => ?_, fun i2 h2 => ?_, ?_, ?_⟩ (wf_uF r2 rfl) (fun q hq => ?_) uF_1 (fun j hj => uF_ne (by omega)) (fun j hj => ?_) (fun _ _ => rfl) (fun _ _ => rfl) (fun _ _ => rfl)
  · by_cases e : i2 = i ∧ k2 = k
    · obtain ⟨rfl, rfl⟩ := e
      rw [FI_self s1 hi.1 ht]
      exact (if_pos rfl).symm
    · rw [FI_F (by omega), s2 i2 k2 hi2 hk2]
      exact (if_neg (by omega)).symm
  · rw [FJ_F (by omega)]; exact s3
  · rw [AI_F]; exact s4 i2 h2
  · rw [AJ_F]; exact s5 i2 h2
  · rw [FR_F (by omega), s6]
    show rf (m.1 1964) = rf (if 1964 = 20 * i + k then v else m.1 1964)
    rw [if_neg (by omega)]
  · intro j
    show rf (if 1964 = 20 * i + k then v else m.1 1964) = some j → _
    rw [if_neg (by omega)]
    exact s7 j
  · rw [FR_F (by omega), FR_F (by omega)]; exact r3 q hq
  · exact if_neg (by omega)
theorem RP_pL {o : Option Nat} {c : Nat → Nat} {m : MS} {u : CS} (h : RP o c m u) {v : Int64} :
    pF u 55 5 10 (.inr (.inl v)) = some (uF u 55 10 (.inr (.inl v))) ∧ RP o c (upL m 1110 v) (uF u 55 10 (.inr (.inl v))) := by
  obtain ⟨⟨s1, s2, s3, s4, s5, s6, s7⟩, r2, r3, r4⟩ := h
  refine ⟨sk_pF s1 (by decide) rfl, ?_⟩
  refine RP_low (u := u) (m := m) ⟨⟨s1, s2, s3, s4, s5, s6, s7⟩, r2, r3, r4⟩ ⟨sk_uF (x := 1) s1 (by decide) rfl rfl rfl, fun i2 k2 hi2 hk2 => ?_, ?_, fun i2 h2 => ?_, fun i2 h2 => ?_, ?_, s7⟩ (wf_uF r2 rfl) (fun q hq => ?_) uF_1 (fun j hj => uF_ne (by omega)) (fun _ _ => rfl) (fun j hj => ?_) (fun _ _ => rfl) (fun _ _ => rfl)
  · by_cases e : i2 = 55 ∧ k2 = 10
    · obtain ⟨rfl, rfl⟩ := e
      show _ = m.1 (20 * 55 + 10)
      rw [← s2 55 10 (by omega) (by omega)]
      obtain ⟨f, h1, h2, h3⟩ := sk_o s1 (i := 55) (by decide) rfl
      unfold FI uF
      rw [h2]
      simp only [cup, if_true]
      have := h3 10 (by decide)
      cases hf : f 10 with
      | inl z => rw [hf] at this; cases this
      | inr z => rfl
    · rw [FI_F (by omega), s2 i2 k2 hi2 hk2]; rfl
  · rw [FJ_self s1 (by decide) rfl]; rfl
  · rw [AI_F]; exact s4 i2 h2
  · rw [AJ_F]; exact s5 i2 h2
  · rw [FR_F (by omega), s6]; rfl
  · rw [FR_F (by omega), FR_F (by omega)]; exact r3 q hq
  · exact if_neg (by omega)
theorem RP_pA {o : Option Nat} {c : Nat → Nat} {m : MS} {u : CS} (h : RP o c m u) {i t n : Nat} {g : Nat → Int32} (hi : i < 57) (ht : tbl.getD i (9, []) = (0, [t, n])) (hz : i ≠ 48) : RP o c (upA m i g) (uA u i g) := by
  obtain ⟨⟨s1, s2, s3, s4, s5, s6, s7⟩, r2, r3, r4⟩ := h
  refine RP_low (u := u) (m := m) ⟨⟨s1, s2, s3, s4, s5, s6, s7⟩, r2, r3, r4⟩ ⟨sk_uA s1 hi, fun i2 k2 hi2 hk2 => ?_, ?_, fun i2 h2 => ?_, fun i2 h2 => ?_, ?_, s7⟩ (wf_uA r2) (fun q hq => ?_) uA_1 (fun j hj => uA_ne (by omega)) (fun _ _ => rfl) (fun _ _ => rfl) (fun j hj => if_neg (by omega)) (fun _ _ => rfl)
  · rw [FI_A]; exact s2 i2 k2 hi2 hk2
  · rw [FJ_A]; exact s3
  · by_cases e : i2 = i
    · subst e
      rw [AI_self s1 hi ht]
      exact (if_pos rfl).symm
    · rw [AI_A e, s4 i2 h2]
      exact (if_neg e).symm
  · rw [AJ_A]; exact s5 i2 h2
  · rw [FR_A]; exact s6
  · rw [FR_A, FR_A]; exact r3 q hq
theorem RP_pJ {o : Option Nat} {c : Nat → Nat} {m : MS} {u : CS} (h : RP o c m u) {i n : Nat} {g : Nat → Int64} (hi : i < 57) (ht : tbl.getD i (9, []) = (1, [n])) (hz : i ≠ 48) : RP o c (upJ m i g) (uJ u i g) := by
  obtain ⟨⟨s1, s2, s3, s4, s5, s6, s7⟩, r2, r3, r4⟩ := h
  refine RP_low (u := u) (m := m) ⟨⟨s1, s2, s3, s4, s5, s6, s7⟩, r2, r3, r4⟩ ⟨sk_uJ s1 hi, fun i2 k2 hi2 hk2 => ?_, ?_, fun i2 h2 => ?_, fun i2 h2 => ?_, ?_, s7⟩ (wf_uJ r2) (fun q hq => ?_) uJ_1 (fun j hj => uJ_ne (by omega)) (fun _ _ => rfl) (fun _ _ => rfl) (fun _ _ => rfl) (fun j hj => if_neg (by omega))
  · rw [FI_J]; exact s2 i2 k2 hi2 hk2
  · rw [FJ_J]; exact s3
  · rw [AI_J]; exact s4 i2 h2
  · by_cases e : i2 = i
    · subst e
      rw [AJ_self s1 hi ht]
      exact (if_pos rfl).symm
    · rw [AJ_J e, s5 i2 h2]
      exact (if_neg e).symm
  · rw [FR_J]; exact s6
  · rw [FR_J, FR_J]; exact r3 q hq
