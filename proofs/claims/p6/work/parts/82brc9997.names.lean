set_option maxRecDepth 100000
abbrev mtN (sg tx : Nat → Int32) (fr : Nat → Nat) (b len x : Nat) : Prop := fr (x + 1) - fr x = len ∧ eqN sg tx (fr x) b len = true
theorem skN_none {sg tx : Nat → Int32} {fr : Nat → Nat} {b len : Nat} : ∀ m w, skN sg tx fr b len w m = none ↔ ∀ y, w ≤ y → y < w + m → ¬ mtN sg tx fr b len y := by
  intro m
  induction m with
  | zero => intro w; exact ⟨fun _ y h1 h2 => by omega, fun _ => rfl⟩
  | succ m ih =>
    intro w
    show (if mtN sg tx fr b len w then some w else skN sg tx fr b len (w + 1) m) = none ↔ _
    by_cases h : mtN sg tx fr b len w
    · rw [if_pos h]
      exact ⟨fun z => (by cases z), fun z => absurd h (z w (Nat.le_refl _) (by omega))⟩
    · rw [if_neg h, ih (w + 1)]
      constructor
      · intro z y h1 h2
        by_cases e : y = w
        · rw [e]; exact h
        · exact z y (by omega) (by omega)
      · intro z y h1 h2
        exact z y (by omega) (by omega)
theorem skN_some {sg tx : Nat → Int32} {fr : Nat → Nat} {b len x : Nat} : ∀ m w, skN sg tx fr b len w m = some x ↔ (w ≤ x ∧ x < w + m ∧ mtN sg tx fr b len x ∧ ∀ y, w ≤ y → y < x → ¬ mtN sg tx fr b len y) := by
  intro m
  induction m with
  | zero => intro w; exact ⟨fun z => (by cases z), fun z => (by omega)⟩
  | succ m ih =>
    intro w
    show (if mtN sg tx fr b len w then some w else skN sg tx fr b len (w + 1) m) = some x ↔ _
    by_cases h : mtN sg tx fr b len w
    · rw [if_pos h]
      constructor
      · intro z
        have e : w = x := Option.some.inj z
        subst e
        exact ⟨Nat.le_refl _, by omega, h, fun y h1 h2 => by omega⟩
      · rintro ⟨h1, h2, h3, h4⟩
        by_cases e : w = x
        · rw [e]
        · exact absurd h (h4 w (Nat.le_refl _) (by omega))
    · rw [if_neg h, ih (w + 1)]
      constructor
      · rintro ⟨h1, h2, h3, h4⟩
        refine ⟨by omega, by omega, h3, fun y a b => ?_⟩
        by_cases e : y = w
        · rw [e]; exact h
        · exact h4 y (by omega) b
      · rintro ⟨h1, h2, h3, h4⟩
        refine ⟨?_, by omega, h3, fun y a b => h4 y (by omega) b⟩
        by_cases e : w = x
        · rw [← e] at h3; exact absurd h3 h
        · omega
def nmQ (q : Option Nat) (j : Nat) : Nat := match q with
  | none => j + 1
  | some x => if j = x then 0 else if j < x then j + 1 else j
def ncQ (q : Option Nat) (n : Nat) : Nat := match q with
  | none => n + 1
  | some _ => n
def NMR (sc : Nat → Int32) (fc : Nat → Nat) (sr : Nat → Int32) (fr : Nat → Nat) (q : Option Nat) (n : Nat) : Prop :=
  (∀ j, j < n → fr (j + 1) - fr j = fc (nmQ q j + 1) - fc (nmQ q j) ∧ ∀ i, i < fr (j + 1) - fr j → sr (fr j + i) = sc (fc (nmQ q j) + i)) ∧ (fc 0 = 0 ∧ fc 1 = 1 ∧ sc 0 = 95) ∧ (∀ x, q = some x → x < n) ∧ (∀ j, j < n → q ≠ some j → ¬ (fr (j + 1) - fr j = 1 ∧ sr (fr j) = 95))
section NMS
variable {sc sr tc tr : Nat → Int32} {fc fr : Nat → Nat} {q : Option Nat} {n b len : Nat}
theorem nm_mt (h : NMR sc fc sr fr q n) (ht : ∀ i, i < len → tc (b + i) = tr (b + i)) {j : Nat} (hj : j < n) : mtN sr tr fr b len j ↔ mtN sc tc fc b len (nmQ q j) := by
  obtain ⟨h1, h2⟩ := h.1 j hj
  unfold mtN
  rw [← h1]
  constructor
  · rintro ⟨a, c⟩
    refine ⟨a, ?_⟩
    rw [← c, eqN_congr (sg := sc) (sg2 := sc) (tx := tc) (tx2 := tr) len _ b (fun _ _ => rfl) ht]
    exact (eqN_sh len (fr j) (fc (nmQ q j)) b (fun i hi => h2 i (by omega))).symm
  · rintro ⟨a, c⟩
    refine ⟨a, ?_⟩
    rw [← c, eqN_congr (sg := sc) (sg2 := sc) (tx := tc) (tx2 := tr) len _ b (fun _ _ => rfl) ht]
    exact eqN_sh len (fr j) (fc (nmQ q j)) b (fun i hi => h2 i (by omega))
theorem nm_0 (h : NMR sc fc sr fr q n) : mtN sc tc fc b len 0 ↔ (len = 1 ∧ tc b = 95) := by
  obtain ⟨h1, h2, h3⟩ := h.2.1
  unfold mtN
  rw [h1, h2]
  constructor
  · rintro ⟨a, c⟩
    have a : 1 = len := a
    subst a
    have c : (decide (sc 0 = tc b) && true) = true := c
    rw [Bool.and_true, decide_eq_true_eq, h3] at c
    exact ⟨rfl, c.symm⟩
  · rintro ⟨a, c⟩
    subst a
    refine ⟨rfl, ?_⟩
    show (decide (sc 0 = tc b) && true) = true
    rw [Bool.and_true, decide_eq_true_eq, h3, c]
theorem nm_r (h : NMR sc fc sr fr q n) (ht : ∀ i, i < len → tc (b + i) = tr (b + i)) (hu : len = 1 ∧ tc b = 95) {j : Nat} (hj : j < n) (hq : q ≠ some j) : ¬ mtN sr tr fr b len j := by
  rintro ⟨a, c⟩
  obtain ⟨rfl, hu2⟩ := hu
  have c : (decide (sr (fr j) = tr b) && true) = true := c
  have t0 := ht 0 (by omega)
  rw [Nat.add_zero] at t0
  rw [Bool.and_true, decide_eq_true_eq, ← t0, hu2] at c
  exact h.2.2.2 j hj hq ⟨a, c⟩
theorem nm_find (h : NMR sc fc sr fr q n) (ht : ∀ i, i < len → tc (b + i) = tr (b + i)) :
    (∃ r, r < n ∧ skN sr tr fr b len 0 n = some r ∧ skN sc tc fc b len 0 (ncQ q n) = some (nmQ q r)) ∨
    (skN sr tr fr b len 0 n = none ∧ skN sc tc fc b len 0 (ncQ q n) = none ∧ ¬ (len = 1 ∧ tc b = 95)) ∨
    (skN sr tr fr b len 0 n = none ∧ skN sc tc fc b len 0 (ncQ q n) = some 0 ∧ q = none ∧ (len = 1 ∧ tc b = 95)) := by
  have hm := fun j (hj : j < n) => nm_mt (tc := tc) (tr := tr) (b := b) (len := len) h ht hj
  have h0 := nm_0 (tc := tc) (b := b) (len := len) h
  by_cases hu : len = 1 ∧ tc b = 95
  · have hr := fun j (hj : j < n) hq => nm_r (tr := tr) h ht hu (j := j) hj hq
    cases hq : q with
    | none =>
      refine Or.inr (Or.inr ⟨(skN_none n 0).mpr (fun y _ hy => hr y (by omega) (by rw [hq]; intro z; cases z)), (skN_some _ 0).mpr ⟨Nat.le_refl _, by show 0 < 0 + (n + 1); omega, h0.mpr hu, fun y _ hy => by omega⟩, rfl, hu⟩)
    | some x =>
      have hx := h.2.2.1 x hq
      refine Or.inl ⟨x, hx, (skN_some n 0).mpr ⟨Nat.zero_le _, by omega, (hm x hx).mpr ?_, fun y _ hy => hr y (by omega) (by rw [hq]; intro z; have := Option.some.inj z; omega)⟩, (skN_some _ 0).mpr ?_⟩
      · rw [hq]; show mtN sc tc fc b len (if x = x then 0 else _); rw [if_pos rfl]; exact h0.mpr hu
      · have e : nmQ (some x) x = 0 := by show (if x = x then 0 else _) = 0; rw [if_pos rfl]
        rw [e]
        exact ⟨Nat.le_refl _, by show 0 < 0 + n; omega, h0.mpr hu, fun y _ hy => by omega⟩
  · have h0n : ¬ mtN sc tc fc b len 0 := fun z => hu (h0.mp z)
    have inv : ∀ c, c ≠ 0 → c < ncQ q n → ∃ j, j < n ∧ nmQ q j = c ∧ (∀ j2, j2 < n → nmQ q j2 < c → nmQ q j2 ≠ 0 → j2 < j) := by
      intro c hc hcn
      cases hq : q with
      | none =>
        rw [hq] at hcn
        have hcn : c < n + 1 := hcn
        refine ⟨c - 1, by omega, by show c - 1 + 1 = c; omega, fun j2 _ h2 _ => ?_⟩
        have h2 : j2 + 1 < c := h2
        omega
      | some x =>
        rw [hq] at hcn
        have hcn : c < n := hcn
        by_cases hcx : c ≤ x
        · refine ⟨c - 1, by omega, ?_, fun j2 _ h2 h3 => ?_⟩
          · show (if c - 1 = x then 0 else if c - 1 < x then c - 1 + 1 else c - 1) = c
            rw [if_neg (by omega), if_pos (by omega)]; omega
          · have h2 : (if j2 = x then 0 else if j2 < x then j2 + 1 else j2) < c := h2
            have h3 : (if j2 = x then 0 else if j2 < x then j2 + 1 else j2) ≠ 0 := h3
            split at h2
            · rename_i e; rw [if_pos e] at h3; exact absurd rfl h3
            · split at h2 <;> omega
        · refine ⟨c, hcn, ?_, fun j2 _ h2 h3 => ?_⟩
          · show (if c = x then 0 else if c < x then c + 1 else c) = c
            rw [if_neg (by omega), if_neg (by omega)]
          · have h2 : (if j2 = x then 0 else if j2 < x then j2 + 1 else j2) < c := h2
            have h3 : (if j2 = x then 0 else if j2 < x then j2 + 1 else j2) ≠ 0 := h3
            split at h2
            · rename_i e; rw [if_pos e] at h3; exact absurd rfl h3
            · split at h2 <;> omega
    have up : ∀ j, j < n → nmQ q j < ncQ q n ∧ ∀ j2, j2 < j → nmQ q j2 ≠ 0 → nmQ q j ≠ 0 → nmQ q j2 < nmQ q j := by
      intro j hj
      cases hq : q with
      | none => exact ⟨by show j + 1 < n + 1; omega, fun j2 h2 _ _ => by show j2 + 1 < j + 1; omega⟩
      | some x =>
        have hx := h.2.2.1 x hq
        refine ⟨?_, fun j2 h2 h3 h4 => ?_⟩
        · show (if j = x then 0 else if j < x then j + 1 else j) < n
          split
          · omega
          · split <;> omega
        · have h3 : (if j2 = x then 0 else if j2 < x then j2 + 1 else j2) ≠ 0 := h3
          have h4 : (if j = x then 0 else if j < x then j + 1 else j) ≠ 0 := h4
          show (if j2 = x then 0 else if j2 < x then j2 + 1 else j2) < (if j = x then 0 else if j < x then j + 1 else j)
          split at h3
          · exact absurd rfl h3
          · split at h4
            · exact absurd rfl h4
            · rename_i a c; rw [if_neg a, if_neg c]; split <;> split <;> omega
    cases hs : skN sr tr fr b len 0 n with
    | some r =>
      obtain ⟨_, r2, r3, r4⟩ := (skN_some n 0).mp hs
      have r2 : r < n := by omega
      have rc := (hm r r2).mp r3
      have rn : nmQ q r ≠ 0 := fun z => h0n (z ▸ rc)
      refine Or.inl ⟨r, r2, rfl, (skN_some _ 0).mpr ⟨Nat.zero_le _, by have := (up r r2).1; omega, rc, fun y _ hy hmy => ?_⟩⟩
      have yn : y ≠ 0 := fun z => h0n (z ▸ hmy)
      obtain ⟨j, j1, j2, j3⟩ := inv y yn (by have := (up r r2).1; omega)
      have jm := (hm j j1).mpr (by rw [j2]; exact hmy)
      have : ¬ j < r := fun z => r4 j (Nat.zero_le _) z jm
      by_cases e : j = r
      · rw [e] at j2; omega
      · have := (up j j1).2 r (by omega) rn (by rw [j2]; exact yn)
        omega
    | none =>
      have hn := (skN_none n 0).mp hs
      refine Or.inr (Or.inl ⟨rfl, (skN_none _ 0).mpr (fun y _ hy hmy => ?_), hu⟩)
      have yn : y ≠ 0 := fun z => h0n (z ▸ hmy)
      obtain ⟨j, j1, j2, j3⟩ := inv y yn (by omega)
      exact hn j (Nat.zero_le _) (by omega) ((hm j j1).mpr (by rw [j2]; exact hmy))
end NMS
