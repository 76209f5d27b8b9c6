/-! the class's heap as a value: cells by numbers of their own (as they are made), an address map beside it -/
/-- a field's value: an int, a long, a reference by its number -/
abbrev LV : Type := Int32 ⊕ (Int64 ⊕ Option Nat)
/-- an object (its class's number, its fields), an array of ints and the like (its kind, length), of longs, of references -/
abbrev LC : Type := (Nat × (Nat → LV)) ⊕ ((Nat × Nat × (Nat → Int32)) ⊕ ((Nat × (Nat → Int64)) ⊕ (Nat × (Nat → Option Nat))))
/-- how many cells, how many fields and places they have in all; the cells -/
abbrev CS : Type := (Nat × Nat) × (Nat → LC)
def lvV (ad : Nat → Nat) (v : LV) : Value := match v with
  | .inl i => .int i
  | .inr (.inl j) => .long j
  | .inr (.inr r) => va_rf (r.map ad)
def clN (ci : Nat) : Nat := (cls.getD ci ("", fun _ => ("", "", "", false), 0)).2.2
def cT5 (cB cI cJ cZ cS : ClassId) (t : Nat) : ClassId := if t = 3 then cB else if t = 4 then cI else if t = 6 then cZ else cS
def lcE (cB cI cJ cZ cS cP : ClassId) (ad : Nat → Nat) (c : LC) : va_E := match c with
  | .inl q => .inr (q.1, fl (clN q.1) (fun k => lvV ad (q.2 k)))
  | .inr (.inl q) => .inl (cT5 cB cI cJ cZ cS q.1, q.2.1, .inl q.2.2)
  | .inr (.inr (.inl q)) => .inl (cJ, q.1, .inr (.inl q.2))
  | .inr (.inr (.inr q)) => .inl (cP, q.1, .inr (.inr (.inr (.inr (fun i => if i < q.1 then (q.2 i).map ad else none)))))
def wC (cB cI cJ cZ cS cP : ClassId) (ad : Nat → Nat) (u : CS) : va_W := (List.range u.1.1).map (fun i => (ad i, lcE cB cI cJ cZ cS cP ad (u.2 i)))
def ty6 (cB cI cJ cZ cS cP : ClassId) : List (ClassId × FieldType) := [(cB, .byte), (cI, .int), (cJ, .long), (cZ, .boolean), (cS, .short), (cP, .object "MailHouse$Process")]
def cup (u : CS) (i : Nat) (c : LC) : CS := (u.1, fun j => if j = i then c else u.2 j)
theorem wC_at {cB cI cJ cZ cS cP : ClassId} {ad : Nat → Nat} {u : CS} {i : Nat} (h : i < u.1.1) : (wC cB cI cJ cZ cS cP ad u)[i]? = some (ad i, lcE cB cI cJ cZ cS cP ad (u.2 i)) := by
  unfold wC
  rw [List.getElem?_map, List.getElem?_range h]
  rfl
theorem wC_set {cB cI cJ cZ cS cP : ClassId} {ad : Nat → Nat} {u : CS} {i : Nat} {c : LC} (h : i < u.1.1) : (wC cB cI cJ cZ cS cP ad u).set i (ad i, lcE cB cI cJ cZ cS cP ad c) = wC cB cI cJ cZ cS cP ad (cup u i c) := by
  apply List.ext_getElem?
  intro j
  by_cases hj : j < u.1.1
  · rw [wC_at (u := cup u i c) (show j < (cup u i c).1.1 from hj)]
    by_cases hk : j = i
    · subst hk
      rw [List.getElem?_set_self (by unfold wC; simpa using hj)]
      simp [cup]
    · rw [List.getElem?_set_ne (fun z => hk z.symm), wC_at hj]
      simp [cup, hk]
  · rw [List.getElem?_eq_none (by unfold wC; simpa using hj), List.getElem?_eq_none (by unfold wC cup; simpa using hj)]
/-! pure reads and writes -/
def oF (u : CS) (i ci : Nat) : Option (Nat → LV) := if i < u.1.1 then match u.2 i with
  | .inl q => if q.1 = ci then some q.2 else none
  | _ => none else none
theorem oF_some {u : CS} {i ci : Nat} {f : Nat → LV} (h : oF u i ci = some f) : i < u.1.1 ∧ u.2 i = .inl (ci, f) := by
  unfold oF at h
  by_cases hi : i < u.1.1
  · rw [if_pos hi] at h
    cases hc : u.2 i with
    | inl q =>
      rw [hc] at h
      by_cases hq : q.1 = ci
      · simp only [hq, if_true] at h
        cases h
        exact ⟨hi, by rw [← hq]⟩
      · simp only [hq, if_false] at h
        cases h
    | inr q => rw [hc] at h; cases h
  · rw [if_neg hi] at h
    cases h
def gI (u : CS) (i ci k : Nat) : Option Int32 := match oF u i ci with
  | some f => match f k with
    | .inl v => some v
    | _ => none
  | none => none
def gJ (u : CS) (i ci k : Nat) : Option Int64 := match oF u i ci with
  | some f => match f k with
    | .inr (.inl v) => some v
    | _ => none
  | none => none
def gR (u : CS) (i ci k : Nat) : Option (Option Nat) := match oF u i ci with
  | some f => match f k with
    | .inr (.inr v) => some v
    | _ => none
  | none => none
theorem gI_some {u : CS} {i ci k : Nat} {v : Int32} (h : gI u i ci k = some v) : ∃ f, i < u.1.1 ∧ u.2 i = .inl (ci, f) ∧ f k = .inl v := by
  unfold gI at h
  cases hf : oF u i ci with
  | none => rw [hf] at h; cases h
  | some f =>
    rw [hf] at h
    obtain ⟨h1, h2⟩ := oF_some hf
    refine ⟨f, h1, h2, ?_⟩
    cases hk : f k with
    | inl w => simp only [hk] at h; cases h; rfl
    | inr w => simp only [hk] at h; cases h
theorem gJ_some {u : CS} {i ci k : Nat} {v : Int64} (h : gJ u i ci k = some v) : ∃ f, i < u.1.1 ∧ u.2 i = .inl (ci, f) ∧ f k = .inr (.inl v) := by
  unfold gJ at h
  cases hf : oF u i ci with
  | none => rw [hf] at h; cases h
  | some f =>
    rw [hf] at h
    obtain ⟨h1, h2⟩ := oF_some hf
    refine ⟨f, h1, h2, ?_⟩
    cases hk : f k with
    | inl w => simp only [hk] at h; cases h
    | inr w =>
      cases w with
      | inl z => simp only [hk] at h; cases h; rfl
      | inr z => simp only [hk] at h; cases h
theorem gR_some {u : CS} {i ci k : Nat} {v : Option Nat} (h : gR u i ci k = some v) : ∃ f, i < u.1.1 ∧ u.2 i = .inl (ci, f) ∧ f k = .inr (.inr v) := by
  unfold gR at h
  cases hf : oF u i ci with
  | none => rw [hf] at h; cases h
  | some f =>
    rw [hf] at h
    obtain ⟨h1, h2⟩ := oF_some hf
    refine ⟨f, h1, h2, ?_⟩
    cases hk : f k with
    | inl w => simp only [hk] at h; cases h
    | inr w =>
      cases w with
      | inl z => simp only [hk] at h; cases h
      | inr z => simp only [hk] at h; cases h; rfl
def pF (u : CS) (i ci k : Nat) (v : LV) : Option CS := match oF u i ci with
  | some f => some (cup u i (.inl (ci, fun j => if j = k then v else f j)))
  | none => none
theorem pF_some {u u2 : CS} {i ci k : Nat} {v : LV} (h : pF u i ci k v = some u2) : ∃ f, i < u.1.1 ∧ u.2 i = .inl (ci, f) ∧ u2 = cup u i (.inl (ci, fun j => if j = k then v else f j)) := by
  unfold pF at h
  cases hf : oF u i ci with
  | none => rw [hf] at h; cases h
  | some f =>
    rw [hf] at h
    obtain ⟨h1, h2⟩ := oF_some hf
    cases h
    exact ⟨f, h1, h2, rfl⟩
