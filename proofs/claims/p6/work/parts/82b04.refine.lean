set_option maxRecDepth 100000
def EX (z : Nat) (c : Nat → Nat) (u : CS) (c2 : Nat → Nat) (u2 : CS) : Prop := (∀ q, MD c q → MD c2 q ∧ c2 (pq q 0) = c (pq q 0) ∧ c2 (pq q 20) = c (pq q 20)) ∧ u.1.1 ≤ u2.1.1 ∧ u.1.2 ≤ u2.1.2 ∧ (z ≤ 1 → ∀ q, MD c q → c2 (pq q 2) = c (pq q 2)) ∧ (z = 0 → c2 = c) ∧ (z = 0 ∨ z = 3 → u2.1 = u.1)
def zle (z z2 : Nat) : Prop := z = 0 ∨ z2 = 2 ∨ z = z2
theorem zle0 {z : Nat} : zle 0 z := Or.inl rfl
theorem zler {z : Nat} : zle z z := Or.inr (Or.inr rfl)
theorem zle2 {z : Nat} : zle z 2 := Or.inr (Or.inl rfl)
def RF {α β : Type} (z : Nat) (o : Option Nat) (V : (Nat → Nat) → α → β → Prop) (c : Nat → Nat) (u : CS) (x : Option (CS × α)) (y : Option (MS × β)) : Prop := ∀ m2 b, y = some (m2, b) → ∃ c2 u2 a, x = some (u2, a) ∧ RP o c2 m2 u2 ∧ EX z c u c2 u2 ∧ V c2 a b
def VE {α : Type} : (Nat → Nat) → α → α → Prop := fun _ a b => a = b
def bTm {α β : Type} (x : Option (MS × (α ⊕ Nat))) (f : MS → α → Option (MS × (β ⊕ Nat))) : Option (MS × (β ⊕ Nat)) := match x with
  | none => none
  | some (u, .inl v) => f u v
  | some (u, .inr k) => some (u, .inr k)
def bHm {α β : Type} (x : Option (MS × (α ⊕ Nat))) (f : MS → α → Option β) (h : MS → Option β) : Option β := match x with
  | none => none
  | some (u, .inl v) => f u v
  | some (u, .inr k) => if k = 3 then h u else none
theorem EX.rf {z : Nat} {c : Nat → Nat} {u u2 : CS} (h : u2.1 = u.1) : EX z c u c u2 := ⟨fun q hq => ⟨hq, rfl, rfl⟩, by rw [h]; exact Nat.le_refl _, by rw [h]; exact Nat.le_refl _, fun _ _ _ => rfl, fun _ => rfl, fun _ => h⟩
theorem EX.tr {z : Nat} {c c2 c3 : Nat → Nat} {u u2 u3 : CS} (a : EX z c u c2 u2) (b : EX z c2 u2 c3 u3) : EX z c u c3 u3 := by
  obtain ⟨a1, a2, a3, a4, a5, a6⟩ := a
  obtain ⟨b1, b2, b3, b4, b5, b6⟩ := b
  refine ⟨fun q hq => ?_, Nat.le_trans a2 b2, Nat.le_trans a3 b3, fun hz q hq => ?_, fun hz => (b5 hz).trans (a5 hz), fun hz => (b6 hz).trans (a6 hz)⟩
  · obtain ⟨x1, x2, x3⟩ := a1 q hq
    obtain ⟨y1, y2, y3⟩ := b1 q x1
    exact ⟨y1, y2.trans x2, y3.trans x3⟩
  · exact (b4 hz q (a1 q hq).1).trans (a4 hz q hq)
theorem EX.mo {z z2 : Nat} {c c2 : Nat → Nat} {u u2 : CS} (a : EX z c u c2 u2) (h : zle z z2) : EX z2 c u c2 u2 := by
  obtain ⟨a1, a2, a3, a4, a5, a6⟩ := a
  unfold zle at h
  exact ⟨a1, a2, a3, fun hz => a4 (by omega), fun hz => a5 (by omega), fun hz => a6 (by omega)⟩
theorem EX.P {z : Nat} {c c2 : Nat → Nat} {u u2 : CS} (a : EX z c u c2 u2) {j q : Nat} (h : PVn c j q) : PVn c2 j q := ⟨(a.1 q h.1).1, h.2.trans (a.1 q h.1).2.1.symm⟩
theorem EX.F {z : Nat} {c c2 : Nat → Nat} {u u2 : CS} (a : EX z c u c2 u2) {j q : Nat} (h : FVn c j q) : FVn c2 j q := ⟨(a.1 q h.1).1, h.2.trans (a.1 q h.1).2.2.symm⟩
theorem EX.C {z : Nat} {c c2 : Nat → Nat} {u u2 : CS} (a : EX z c u c2 u2) (hz : z ≤ 1) {j b : Nat} (h : CVn c j b) : CVn c2 j b := by
  obtain ⟨q, h1, h2, h3⟩ := h
  exact ⟨q, (a.1 q h1).1, h2, h3.trans (a.2.2.2.1 hz q h1).symm⟩
theorem EX.Po {z : Nat} {c c2 : Nat → Nat} {u u2 : CS} (a : EX z c u c2 u2) {x y : Option Nat} (h : PVo c x y) : PVo c2 x y := by
  rcases h with h | ⟨j, q, h1, h2, h3⟩
  · exact Or.inl h
  · exact Or.inr ⟨j, q, h1, h2, a.P h3⟩
theorem EX.Fo {z : Nat} {c c2 : Nat → Nat} {u u2 : CS} (a : EX z c u c2 u2) {x y : Option Nat} (h : FVo c x y) : FVo c2 x y := by
  rcases h with h | ⟨j, q, h1, h2, h3⟩
  · exact Or.inl h
  · exact Or.inr ⟨j, q, h1, h2, a.F h3⟩
theorem EX.Co {z : Nat} {c c2 : Nat → Nat} {u u2 : CS} (a : EX z c u c2 u2) (hz : z ≤ 1) {x y : Option Nat} (h : CVo c x y) : CVo c2 x y := by
  rcases h with h | ⟨j, q, h1, h2, h3⟩
  · exact Or.inl h
  · exact Or.inr ⟨j, q, h1, h2, a.C hz h3⟩
theorem EX.M {z : Nat} {c c2 : Nat → Nat} {u u2 : CS} (a : EX z c u c2 u2) {q : Nat} (h : MD c q) : MD c2 q := (a.1 q h).1
section
variable {α β γ δ ε : Type} {z : Nat} {o : Option Nat} {V : (Nat → Nat) → α → β → Prop} {c : Nat → Nat} {u : CS} {m : MS}
theorem rf_bo {e : Option γ} {x : γ} {f : γ → Option (CS × α)} {y : Option (MS × β)} (h : e = some x) (q : RF z o V c u (f x) y) : RF z o V c u (bo e f) y := by subst h; exact q
theorem rf_so {x : γ} {f : γ → Option (CS × α)} {y : Option (MS × β)} (q : RF z o V c u (f x) y) : RF z o V c u (bo (some x) f) y := q
theorem rf_br {b : Bool} {x1 x2 : Option (CS × α)} {y1 y2 : Option (MS × β)} (h1 : RF z o V c u x1 y1) (h2 : RF z o V c u x2 y2) : RF z o V c u (br b x1 x2) (br b y1 y2) := by cases b; exact h2; exact h1
theorem rf_br2 {b b2 : Bool} {x1 x2 : Option (CS × α)} {y1 y2 : Option (MS × β)} (e : b = b2) (h1 : RF z o V c u x1 y1) (h2 : RF z o V c u x2 y2) : RF z o V c u (br b x1 x2) (br b2 y1 y2) := by subst e; cases b; exact h2; exact h1
theorem rf_ck {b : Bool} {x : Option (CS × α)} {y : Option (MS × β)} (h : b = true) (q : RF z o V c u x y) : RF z o V c u (ck b x) y := by subst h; exact q
theorem rf_ckk {b : Bool} {x : Option (CS × α)} {y : Option (MS × β)} (q : RF z o V c u x y) : RF z o V c u (ck b x) (ck b y) := by
  cases b
  · intro m2 b2 h; cases h
  · exact q
theorem rf_ret {a : α} {b : β} (h : RP o c m u) (v : V c a b) : RF z o V c u (some (u, a)) (some (m, b)) := by
  intro m2 b2 e
  cases e
  exact ⟨c, u, a, rfl, h, EX.rf rfl, v⟩
theorem rf_none {x : Option (CS × α)} : RF z o V c u x none := by intro m2 b2 e; cases e
theorem rf_lt {e : γ} {f : γ → Option (CS × α)} {g : γ → Option (MS × β)} (q : RF z o V c u (f e) (g e)) : RF z o V c u (lt e f) (lt e g) := q
theorem rf_ai {e : Option γ} {b : Bool} {x : γ} {f : γ → Option (CS × α)} {y : Option (MS × β)} (h : e = if b = true then some x else none) (q : RF z o V c u (f x) y) : RF z o V c u (bo e f) (ck b y) := by
  cases b
  · intro m2 b2 h; cases h
  · subst h; exact q
theorem rf_w {e : Option CS} {m2 : MS} {f : CS → Option (CS × α)} {g : MS → Option (MS × β)} (h : ∃ w, e = some w ∧ RP o c m2 w ∧ w.1 = u.1) (q : ∀ m3 w, RP o c m3 w → RF z o V c w (f w) (g m3)) : RF z o V c u (bo e f) (lt m2 g) := by
  obtain ⟨w, e1, h1, h2⟩ := h
  subst e1
  intro m4 b hb
  obtain ⟨c2, u2, a, k1, k2, k3, k4⟩ := q m2 w h1 m4 b hb
  exact ⟨c2, u2, a, k1, k2, (EX.rf h2).tr k3, k4⟩
theorem rf_wk {e : Option CS} {b : Bool} {m2 : MS} {f : CS → Option (CS × α)} {g : MS → Option (MS × β)} (h : b = true → ∃ w, e = some w ∧ RP o c m2 w ∧ w.1 = u.1) (q : ∀ m3 w, RP o c m3 w → RF z o V c w (f w) (g m3)) : RF z o V c u (bo e f) (ck b (lt m2 g)) := by
  cases b
  · intro m4 b2 h; cases h
  · exact rf_w (h rfl) q
theorem rf_bx {z1 : Nat} {V1 : (Nat → Nat) → γ → δ → Prop} {x : Option (CS × γ)} {y : Option (MS × δ)} {f : CS → γ → Option (CS × α)} {g : MS → δ → Option (MS × β)} (h : RF z1 o V1 c u x y) (hz : zle z1 z) (q : ∀ c2 m2 u2 a b, RP o c2 m2 u2 → EX z1 c u c2 u2 → V1 c2 a b → RF z o V c2 u2 (f u2 a) (g m2 b)) : RF z o V c u (bx x f) (bnd y g) := by
  cases hy : y with
  | none => intro m2 b e; cases e
  | some p =>
    obtain ⟨c2, u2, a, k1, k2, k3, k4⟩ := h p.1 p.2 hy
    subst k1
    intro m4 b hb
    obtain ⟨c3, u3, a3, l1, l2, l3, l4⟩ := q c2 p.1 u2 a p.2 k2 k3 k4 m4 b hb
    exact ⟨c3, u3, a3, l1, l2, (k3.mo hz).tr l3, l4⟩
theorem rf_bx0 {x : Option (CS × γ)} {y : Option (MS × γ)} {f : CS → γ → Option (CS × α)} {g : MS → γ → Option (MS × β)} (h : RF 0 o VE c u x y) (q : ∀ m2 u2 a, RP o c m2 u2 → RF z o V c u2 (f u2 a) (g m2 a)) : RF z o V c u (bx x f) (bnd y g) := by
  refine rf_bx h (zle0) (fun c2 m2 u2 a b r e v => ?_)
  have hc := e.2.2.2.2.1 rfl
  subst hc
  cases v
  exact q m2 u2 a r
theorem rf_bxP {x : Option (CS × Option Nat)} {y : Option (MS × Option Nat)} {f : CS → Option Nat → Option (CS × α)} {g : MS → Option Nat → Option (MS × β)} (h : RF 0 o PVo c u x y) (q : ∀ m2 u2 a b, RP o c m2 u2 → PVo c a b → RF z o V c u2 (f u2 a) (g m2 b)) : RF z o V c u (bx x f) (bnd y g) := by
  refine rf_bx h (zle0) (fun c2 m2 u2 a b r e v => ?_)
  have hc := e.2.2.2.2.1 rfl
  subst hc
  exact q m2 u2 a b r v
theorem rf_z {z1 : Nat} {x : Option (CS × α)} {y : Option (MS × β)} (h : RF z1 o V c u x y) (hz : zle z1 z) : RF z o V c u x y := by
  intro m2 b hb
  obtain ⟨c2, u2, a, k1, k2, k3, k4⟩ := h m2 b hb
  exact ⟨c2, u2, a, k1, k2, k3.mo hz, k4⟩
theorem rf_gw {x : Option (CS × α)} {y : Option (MS × β)} (h : RF z o V c u x y) : RF z o V c u (gw u x) y := by
  intro m2 b hb
  obtain ⟨c2, u2, a, k1, k2, k3, k4⟩ := h m2 b hb
  subst k1
  exact ⟨c2, u2, a, if_pos ⟨k3.2.1, k3.2.2.1⟩, k2, k3, k4⟩
theorem rf_gz {x : Option (CS × α)} {y : Option (MS × β)} (h : RF z o V c u x y) (hz : z = 0 ∨ z = 3) : RF z o V c u (gz u x) y := by
  intro m2 b hb
  obtain ⟨c2, u2, a, k1, k2, k3, k4⟩ := h m2 b hb
  subst k1
  have := k3.2.2.2.2.2 hz
  exact ⟨c2, u2, a, if_pos ⟨by rw [this], by rw [this]⟩, k2, k3, k4⟩
theorem rf_bT {x : Option (CS × (γ ⊕ Nat))} {y : Option (MS × (γ ⊕ Nat))} {f : CS → γ → Option (CS × (δ ⊕ Nat))} {g : MS → γ → Option (MS × (δ ⊕ Nat))} (h : RF 0 o VE c u x y) (q : ∀ m2 u2 a, RP o c m2 u2 → RF z o VE c u2 (f u2 a) (g m2 a)) : RF z o VE c u (bT x f) (bTm y g) := by
  cases hy : y with
  | none => intro m2 b e; cases e
  | some p =>
    obtain ⟨c2, u2, a, k1, k2, k3, k4⟩ := h p.1 p.2 hy
    have hc := k3.2.2.2.2.1 rfl
    subst hc
    subst k1
    cases k4
    obtain ⟨p1, p2⟩ := p
    cases p2 with
    | inl v =>
      intro m4 b hb
      obtain ⟨c3, u3, a3, l1, l2, l3, l4⟩ := q p1 u2 v k2 m4 b hb
      exact ⟨c3, u3, a3, l1, l2, (k3.mo (zle0)).tr l3, l4⟩
    | inr k =>
      intro m4 b hb
      cases hb
      exact ⟨c2, u2, .inr k, rfl, k2, k3.mo (zle0), rfl⟩
theorem rf_bH {x : Option (CS × (γ ⊕ Nat))} {y : Option (MS × (γ ⊕ Nat))} {f : CS → γ → Option (CS × δ)} {g : MS → γ → Option (MS × δ)} {f2 : CS → Option (CS × δ)} {g2 : MS → Option (MS × δ)} (h : RF 0 o VE c u x y) (q : ∀ m2 u2 a, RP o c m2 u2 → RF z o VE c u2 (f u2 a) (g m2 a)) (q2 : ∀ m2 u2, RP o c m2 u2 → RF z o VE c u2 (f2 u2) (g2 m2)) : RF z o VE c u (bH x f f2) (bHm y g g2) := by
  cases hy : y with
  | none => intro m2 b e; cases e
  | some p =>
    obtain ⟨c2, u2, a, k1, k2, k3, k4⟩ := h p.1 p.2 hy
    have hc := k3.2.2.2.2.1 rfl
    subst hc
    subst k1
    cases k4
    obtain ⟨p1, p2⟩ := p
    cases p2 with
    | inl v =>
      intro m4 b hb
      obtain ⟨c3, u3, a3, l1, l2, l3, l4⟩ := q p1 u2 v k2 m4 b hb
      exact ⟨c3, u3, a3, l1, l2, (k3.mo (zle0)).tr l3, l4⟩
    | inr k =>
      intro m4 b hb
      by_cases e : k = 3
      · subst e
        obtain ⟨c3, u3, a3, l1, l2, l3, l4⟩ := q2 p1 u2 k2 m4 b hb
        exact ⟨c3, u3, a3, l1, l2, (k3.mo (zle0)).tr l3, l4⟩
      · have : (if k = 3 then g2 p1 else none) = some (m4, b) := hb
        rw [if_neg e] at this
        cases this
theorem rf_boP {a b : Option Nat} {f : Nat → Option (CS × α)} {g : Nat → Option (MS × β)} (h : PVo c a b) (q : ∀ j q, PVn c j q → RF z o V c u (f j) (g q)) : RF z o V c u (bo a f) (bo b g) := by
  rcases h with ⟨rfl, rfl⟩ | ⟨j, r, rfl, rfl, h3⟩
  · exact rf_none
  · exact q j r h3
theorem rf_boF {a b : Option Nat} {f : Nat → Option (CS × α)} {g : Nat → Option (MS × β)} (h : FVo c a b) (q : ∀ j q, FVn c j q → RF z o V c u (f j) (g q)) : RF z o V c u (bo a f) (bo b g) := by
  rcases h with ⟨rfl, rfl⟩ | ⟨j, r, rfl, rfl, h3⟩
  · exact rf_none
  · exact q j r h3
theorem rf_boC {a b : Option Nat} {f : Nat → Option (CS × α)} {g : Nat → Option (MS × β)} (h : CVo c a b) (q : ∀ j q, CVn c j q → RF z o V c u (f j) (g q)) : RF z o V c u (bo a f) (bo b g) := by
  rcases h with ⟨rfl, rfl⟩ | ⟨j, r, rfl, rfl, h3⟩
  · exact rf_none
  · exact q j r h3
theorem rf_soP {q : Nat} {f : Nat → Option (CS × α)} {y : Option (MS × β)} (h : MD c q) (k : ∀ j, PVn c j q → RF z o V c u (f j) y) : RF z o V c u (bo (some (c (pq q 0))) f) y := k _ ⟨h, rfl⟩
theorem rf_soF {q : Nat} {f : Nat → Option (CS × α)} {y : Option (MS × β)} (h : MD c q) (k : ∀ j, FVn c j q → RF z o V c u (f j) y) : RF z o V c u (bo (some (c (pq q 20))) f) y := k _ ⟨h, rfl⟩
theorem PV_n {a b : Option Nat} (h : PVo c a b) : (decide (a = none)) = decide (b = none) := by
  rcases h with ⟨rfl, rfl⟩ | ⟨j, r, rfl, rfl, h3⟩ <;> rfl
theorem PV_e (h : RP o c m u) {a b a2 b2 : Option Nat} (h1 : PVo c a b) (h2 : PVo c a2 b2) : (decide (a = a2)) = decide (b = b2) := by
  rcases h1 with ⟨rfl, rfl⟩ | ⟨j, r, rfl, rfl, h3⟩ <;> rcases h2 with ⟨rfl, rfl⟩ | ⟨j2, r2, rfl, rfl, h4⟩
  · rfl
  · rfl
  · rfl
  · by_cases e : r = r2
    · subst e
      rw [h3.2, h4.2, decide_eq_true rfl, decide_eq_true rfl]
    · have : ¬ (j = j2) := by
        rw [h3.2, h4.2]
        exact fun zz => e (h.2.2.2.2.1.1 r 0 r2 0 h3.1 h4.1 isR0 isR0 zz).1
      rw [decide_eq_false (fun zz => this (by injection zz)), decide_eq_false (fun zz => e (by injection zz))]
theorem PV_s {q : Nat} (h : MD c q) : PVo c (some (c (pq q 0))) (some q) := Or.inr ⟨_, _, rfl, rfl, h, rfl⟩
theorem FV_s {q : Nat} (h : MD c q) : FVo c (some (c (pq q 20))) (some q) := Or.inr ⟨_, _, rfl, rfl, h, rfl⟩
theorem CV_s {q : Nat} (h : MD c q) : CVo c (some (c (pq q 2))) (some (pq q 2)) := Or.inr ⟨_, _, rfl, rfl, q, h, rfl, rfl⟩
theorem PV_j {j q : Nat} (h : PVn c j q) : PVo c (some j) (some q) := Or.inr ⟨_, _, rfl, rfl, h⟩
theorem FV_j {j q : Nat} (h : FVn c j q) : FVo c (some j) (some q) := Or.inr ⟨_, _, rfl, rfl, h⟩
theorem PV_0 : PVo c none none := Or.inl ⟨rfl, rfl⟩
theorem CV_0 : CVo c none none := Or.inl ⟨rfl, rfl⟩
theorem RP.md {p : Nat} (h : RP (some p) c m u) : MD c p := (h.2.2.1 p rfl).1
theorem gR_M3 {p : Nat} (h : RP (some p) c m u) : gR u 55 5 3 = some (some (c (pq p 0))) := by rw [gd_55_3 h.1.1, (h.2.2.1 p rfl).2.1]
theorem gR_M4 {p : Nat} (h : RP (some p) c m u) : gR u 55 5 4 = some (some (c (pq p 20))) := by rw [gd_55_4 h.1.1, (h.2.2.1 p rfl).2.2]
theorem okR_s (h : RP o c m u) {i : Nat} (hi : i < 57) : okR u.1.1 (some i) = true := decide_eq_true (by have := sk_n h.1.1; omega)
theorem okR_r (h : RP o c m u) {q k : Nat} (hq : MD c q) (hk : isR k) : okR u.1.1 (some (c (pq q k))) = true := decide_eq_true (h.lt hq hk)
theorem okR_P (h : RP o c m u) {j q : Nat} (hj : PVn c j q) : okR u.1.1 (some j) = true := by rw [hj.2]; exact okR_r h hj.1 isR0
theorem okR_F (h : RP o c m u) {j q : Nat} (hj : FVn c j q) : okR u.1.1 (some j) = true := by rw [hj.2]; exact okR_r h hj.1 isR20
theorem okR_Po (h : RP o c m u) {a b : Option Nat} (hj : PVo c a b) : okR u.1.1 a = true := by
  rcases hj with ⟨rfl, -⟩ | ⟨j, q, rfl, -, h3⟩
  · rfl
  · exact okR_P h h3
theorem okR_Fo (h : RP o c m u) {a b : Option Nat} (hj : FVo c a b) : okR u.1.1 a = true := by
  rcases hj with ⟨rfl, -⟩ | ⟨j, q, rfl, -, h3⟩
  · rfl
  · exact okR_F h h3
theorem okR_Co (h : RP o c m u) {a b : Option Nat} (hj : CVo c a b) : okR u.1.1 a = true := by
  rcases hj with ⟨rfl, -⟩ | ⟨j, b, rfl, -, q, h3, -, rfl⟩
  · rfl
  · exact okR_r h h3 (by unfold isR; omega)
theorem all1 {n : Nat} {a : Option Nat} (h : okR n a = true) : List.all [a] (okR n) = true := by simp only [List.all_cons, List.all_nil, h, Bool.and_true]
theorem all2 {n : Nat} {a a2 : Option Nat} (h : okR n a = true) (h2 : okR n a2 = true) : List.all [a, a2] (okR n) = true := by simp only [List.all_cons, List.all_nil, h, h2, Bool.and_true]
theorem all3 {n : Nat} {a a2 a3 : Option Nat} (h : okR n a = true) (h2 : okR n a2 = true) (h3 : okR n a3 = true) : List.all [a, a2, a3] (okR n) = true := by simp only [List.all_cons, List.all_nil, h, h2, h3, Bool.and_true]
theorem all4 {n : Nat} {a a2 a3 a4 : Option Nat} (h : okR n a = true) (h2 : okR n a2 = true) (h3 : okR n a3 = true) (h4 : okR n a4 = true) : List.all [a, a2, a3, a4] (okR n) = true := by simp only [List.all_cons, List.all_nil, h, h2, h3, h4, Bool.and_true]
theorem all5 {n : Nat} {a a2 a3 a4 a5 : Option Nat} (h : okR n a = true) (h2 : okR n a2 = true) (h3 : okR n a3 = true) (h4 : okR n a4 = true) (h5 : okR n a5 = true) : List.all [a, a2, a3, a4, a5] (okR n) = true := by simp only [List.all_cons, List.all_nil, h, h2, h3, h4, h5, Bool.and_true]
theorem oP_48 (h : RP o c m u) : ∃ g, oP u 48 = some (24, g) ∧ g = AP u 48 := by
  have h1 := sk_at h.1.1 (i := 48) (by decide)
  have hn := sk_n h.1.1
  have e : tbl.getD 48 (9, []) = (2, [24]) := rfl
  rw [e] at h1
  unfold oP
  rw [if_pos (by omega)]
  unfold AP
  cases hc : u.2 48 with
  | inl q => rw [hc] at h1; simp [okS] at h1
  | inr q =>
    rcases q with q | q | q
    · rw [hc] at h1; simp [okS] at h1
    · rw [hc] at h1; simp [okS] at h1
    · rw [hc] at h1
      simp [okS] at h1
      exact ⟨q.2, by show some q = some (24, q.2); rw [h1], rfl⟩
theorem aP_48 (h : RP o c m u) {i : Int32} : ∃ a, aP u 48 i = (if inb i 24 = true then some a else none) ∧ (inb i 24 = true → PVo c a (rf (m.2.2.1 1948 i.toNatClampNeg))) := by
  obtain ⟨g, e, e2⟩ := oP_48 h
  refine ⟨g i.toNatClampNeg, by unfold aP; rw [e], fun hb => ?_⟩
  have hl := inb_lt hb
  rw [e2, h.2.2.2.1.1 _ hl, h.2.2.2.1.2 _ hl]
  by_cases e3 : c (pq i.toNatClampNeg 0) = 0
  · rw [if_pos e3, if_pos e3]; exact PV_0
  · rw [if_neg e3, if_neg e3, rf_ofNat (by omega)]
    exact PV_s ⟨hl, e3⟩
theorem rf_aP (h : RP o c m u) {i : Int32} {f : Option Nat → Option (CS × α)} {y : Option (MS × β)} (q : ∀ a, PVo c a (rf (m.2.2.1 1948 i.toNatClampNeg)) → RF z o V c u (f a) y) : RF z o V c u (bo (aP u 48 i) f) (ck (inb i 24) y) := by
  obtain ⟨a, e, h2⟩ := aP_48 h (i := i)
  cases hb : inb i 24 with
  | false => intro m2 b2 h; cases h
  | true => rw [e, if_pos hb]; exact q a (h2 hb)
end
