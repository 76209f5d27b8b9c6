def OK {α : Type} (Q : MS → α → Prop) (o : Option (MS × α)) : Prop := ∃ u r, o = some (u, r) ∧ Q u r
theorem ok_some {α : Type} {Q : MS → α → Prop} {u : MS} {r : α} : OK Q (some (u, r)) ↔ Q u r := ⟨fun ⟨_, _, h, q⟩ => by cases h; exact q, fun q => ⟨u, r, rfl, q⟩⟩
theorem ok_ck {α : Type} {Q : MS → α → Prop} {b : Bool} {x : Option (MS × α)} : OK Q (ck b x) ↔ b = true ∧ OK Q x := by
  cases b
  · exact ⟨fun ⟨_, _, h, _⟩ => (by cases h), fun h => (by cases h.1)⟩
  · exact ⟨fun h => ⟨rfl, h⟩, fun h => h.2⟩
theorem ok_br {α : Type} {Q : MS → α → Prop} {b : Bool} {x y : Option (MS × α)} : OK Q (br b x y) ↔ (b = true → OK Q x) ∧ (b = false → OK Q y) := by
  cases b
  · exact ⟨fun h => ⟨fun z => (by cases z), fun _ => h⟩, fun h => h.2 rfl⟩
  · exact ⟨fun h => ⟨fun _ => h, fun z => (by cases z)⟩, fun h => h.1 rfl⟩
theorem ok_lt {α β : Type} {Q : MS → α → Prop} {e : β} {f : β → Option (MS × α)} : OK Q (lt e f) ↔ OK Q (f e) := Iff.rfl
theorem ok_bnd {α β : Type} {Q : MS → α → Prop} {e : Option (MS × β)} {f : MS → β → Option (MS × α)} : OK Q (bnd e f) ↔ OK (fun u r => OK Q (f u r)) e := by
  constructor
  · rintro ⟨u, r, h, q⟩
    cases he : e with
    | none => rw [he] at h; cases h
    | some x => rw [he] at h; exact ⟨x.1, x.2, rfl, u, r, h, q⟩
  · rintro ⟨u, r, h, u2, r2, h2, q⟩
    subst h
    exact ⟨u2, r2, h2, q⟩
theorem ok_mono {α : Type} {Q Q2 : MS → α → Prop} {x : Option (MS × α)} (h : OK Q x) (m : ∀ u r, Q u r → Q2 u r) : OK Q2 x := by
  obtain ⟨u, r, e, q⟩ := h
  exact ⟨u, r, e, m u r q⟩
theorem ok_is {α : Type} {Q : MS → α → Prop} {x : Option (MS × α)} {u : MS} {r : α} (h : x = some (u, r)) (q : Q u r) : OK Q x := ⟨u, r, h, q⟩
def F (w : MS) (k : Nat) : Int := (w.1 k).toInt
def A (w : MS) (k i : Nat) : Int := (w.2.2.1 k i).toInt
theorem I_F {w : MS} {k : Nat} : w.1 k = I (F w k) := I_of _
theorem I_A {w : MS} {k i : Nat} : w.2.2.1 k i = I (A w k i) := I_of _
theorem F_r (w : MS) (k : Nat) : -2147483648 ≤ F w k ∧ F w k < 2147483648 := ti_rng _
theorem A_r (w : MS) (k i : Nat) : -2147483648 ≤ A w k i ∧ A w k i < 2147483648 := ti_rng _
def wi (u : MS) (k : Nat) (x : Int) : MS := upI u k (I x)
def wa (u : MS) (k i : Nat) (x : Int) : MS := upA u k (upd (u.2.2.1 k) i (I x))
def wj (u : MS) (k i : Nat) (t : Int64) : MS := upJ u k (vp_updL (u.2.2.2 k) i t)
def wl (u : MS) (k : Nat) (t : Int64) : MS := upL u k t
theorem wi_e {u : MS} {k : Nat} {x : Int} : upI u k (I x) = wi u k x := rfl
theorem wa_e {u : MS} {k i : Nat} {x : Int} : upA u k (upd (u.2.2.1 k) i (I x)) = wa u k i x := rfl
theorem wj_e {u : MS} {k i : Nat} {t : Int64} : upJ u k (vp_updL (u.2.2.2 k) i t) = wj u k i t := rfl
theorem wl_e {u : MS} {k : Nat} {t : Int64} : upL u k t = wl u k t := rfl
theorem F_wi {u : MS} {k j : Nat} {x : Int} (h1 : -2147483648 ≤ x) (h2 : x < 2147483648) : F (wi u k x) j = if j = k then x else F u j := by
  unfold F wi upI
  by_cases e : j = k
  · simp only [if_pos e]; exact I_ti h1 h2
  · simp only [if_neg e]
theorem F_wa {u : MS} {k i j : Nat} {x : Int} : F (wa u k i x) j = F u j := rfl
theorem F_wj {u : MS} {k i j : Nat} {x : Int64} : F (wj u k i x) j = F u j := rfl
theorem F_wl {u : MS} {k j : Nat} {x : Int64} : F (wl u k x) j = F u j := rfl
theorem A_wi {u : MS} {k j i : Nat} {x : Int} : A (wi u k x) j i = A u j i := rfl
theorem A_wa {u : MS} {k i k2 i2 : Nat} {x : Int} (h1 : -2147483648 ≤ x) (h2 : x < 2147483648) : A (wa u k i x) k2 i2 = if k2 = k then (if i2 = i then x else A u k2 i2) else A u k2 i2 := by
  unfold A wa upA upd
  by_cases e : k2 = k
  · subst e
    simp only [if_true]
    by_cases e2 : i2 = i
    · simp only [if_pos e2]; exact I_ti h1 h2
    · simp only [if_neg e2]
  · simp only [if_neg e]
theorem A_wj {u : MS} {k i k2 i2 : Nat} {x : Int64} : A (wj u k i x) k2 i2 = A u k2 i2 := rfl
theorem A_wl {u : MS} {k k2 i2 : Nat} {x : Int64} : A (wl u k x) k2 i2 = A u k2 i2 := rfl
theorem J_wi {u : MS} {k : Nat} {x : Int} : (wi u k x).2.2.2 = u.2.2.2 := rfl
theorem J_wa {u : MS} {k i : Nat} {x : Int} : (wa u k i x).2.2.2 = u.2.2.2 := rfl
theorem J_wl {u : MS} {k : Nat} {x : Int64} : (wl u k x).2.2.2 = u.2.2.2 := rfl
theorem J_wj {u : MS} {k i k2 i2 : Nat} {x : Int64} : (wj u k i x).2.2.2 k2 i2 = if k2 = k then (if i2 = i then x else u.2.2.2 k2 i2) else u.2.2.2 k2 i2 := by
  unfold wj upJ vp_updL
  by_cases e : k2 = k
  · subst e
    simp only [if_true]
  · simp only [if_neg e]
theorem L_wi {u : MS} {k : Nat} {x : Int} : (wi u k x).2.1 = u.2.1 := rfl
theorem L_wa {u : MS} {k i : Nat} {x : Int} : (wa u k i x).2.1 = u.2.1 := rfl
theorem L_wj {u : MS} {k i : Nat} {x : Int64} : (wj u k i x).2.1 = u.2.1 := rfl
theorem L_wl {u : MS} {k j : Nat} {x : Int64} : (wl u k x).2.1 j = if j = k then x else u.2.1 j := rfl
def FR (is ls as js : List Nat) (u w : MS) : Prop := (∀ k, k ∉ is → w.1 k = u.1 k) ∧ (∀ k, k ∉ ls → w.2.1 k = u.2.1 k) ∧ (∀ k, k ∉ as → w.2.2.1 k = u.2.2.1 k) ∧ ∀ k, k ∉ js → w.2.2.2 k = u.2.2.2 k
theorem FR.rf {is ls as js : List Nat} {u : MS} : FR is ls as js u u := ⟨fun _ _ => rfl, fun _ _ => rfl, fun _ _ => rfl, fun _ _ => rfl⟩
theorem FR.tr {is ls as js : List Nat} {u v w : MS} (a : FR is ls as js u v) (b : FR is ls as js v w) : FR is ls as js u w := ⟨fun k h => (b.1 k h).trans (a.1 k h), fun k h => (b.2.1 k h).trans (a.2.1 k h), fun k h => (b.2.2.1 k h).trans (a.2.2.1 k h), fun k h => (b.2.2.2 k h).trans (a.2.2.2 k h)⟩
theorem FR.mo {is ls as js is2 ls2 as2 js2 : List Nat} {u w : MS} (a : FR is ls as js u w) (h1 : ∀ k, k ∈ is → k ∈ is2) (h2 : ∀ k, k ∈ ls → k ∈ ls2) (h3 : ∀ k, k ∈ as → k ∈ as2) (h4 : ∀ k, k ∈ js → k ∈ js2) : FR is2 ls2 as2 js2 u w :=
  ⟨fun k h => a.1 k (fun z => h (h1 k z)), fun k h => a.2.1 k (fun z => h (h2 k z)), fun k h => a.2.2.1 k (fun z => h (h3 k z)), fun k h => a.2.2.2 k (fun z => h (h4 k z))⟩
theorem FR.F {is ls as js : List Nat} {u w : MS} (a : FR is ls as js u w) {k : Nat} (h : k ∉ is) : F w k = F u k := by show (w.1 k).toInt = _; rw [a.1 k h]; rfl
theorem FR.A {is ls as js : List Nat} {u w : MS} (a : FR is ls as js u w) {k i : Nat} (h : k ∉ as) : A w k i = A u k i := by show (w.2.2.1 k i).toInt = _; rw [a.2.2.1 k h]; rfl
theorem FR.wi {is ls as js : List Nat} {u w : MS} (a : FR is ls as js u w) {k : Nat} {x : Int} (h : k ∈ is) : FR is ls as js u (wi w k x) := ⟨fun j hj => (if_neg (fun (e : j = k) => hj (e ▸ h))).trans (a.1 j hj), a.2⟩
theorem FR.wa {is ls as js : List Nat} {u w : MS} (a : FR is ls as js u w) {k i : Nat} {x : Int} (h : k ∈ as) : FR is ls as js u (wa w k i x) := ⟨a.1, a.2.1, fun j hj => (if_neg (fun (e : j = k) => hj (e ▸ h))).trans (a.2.2.1 j hj), a.2.2.2⟩
theorem FR.wj {is ls as js : List Nat} {u w : MS} (a : FR is ls as js u w) {k i : Nat} {x : Int64} (h : k ∈ js) : FR is ls as js u (wj w k i x) := ⟨a.1, a.2.1, a.2.2.1, fun j hj => (if_neg (fun (e : j = k) => hj (e ▸ h))).trans (a.2.2.2 j hj)⟩
theorem FR.wl {is ls as js : List Nat} {u w : MS} (a : FR is ls as js u w) {k : Nat} {x : Int64} (h : k ∈ ls) : FR is ls as js u (wl w k x) := ⟨a.1, fun j hj => (if_neg (fun (e : j = k) => hj (e ▸ h))).trans (a.2.1 j hj), a.2.2⟩
