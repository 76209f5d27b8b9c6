def SNW (X : Nat) : SCT → SCT → Prop
  | e :: t, e2 :: _ => (∀ x, x ∈ e2.1 → x ∈ e.1 ∨ fnb x (e :: t) = false) ∧ e2.1.length ≤ max e.1.length X
  | _, _ => True
def SCO (own : Bool) (a b : SCT) (X : Nat) : Prop := SCX a b X ∧ (own = false → SNW X a b)
section
variable {sc sc2 sc3 t : SCT} {e : List Nat × List Nat × Nat} {x X Y : Nat} {w : MS} {own : Bool}
theorem fnb_cons : fnb x (e :: t) = (e.1.contains x || fnb x t) := rfl
theorem BDs_fnb : ∀ {a b : SCT}, BDs a b → fnb x b = fnb x a
  | [], [], _ => rfl
  | e :: t, e2 :: t2, h => by rw [fnb_cons, fnb_cons, h.1.1, BDs_fnb h.2]
  | [], _ :: _, h => h.elim
  | _ :: _, [], h => h.elim
theorem SCX_fnb {a b : SCT} (h : SCX a b X) (k : fnb x a = true) : fnb x b = true := by
  cases a with
  | nil => exact h.elim
  | cons e t =>
    cases b with
    | nil => exact h.elim
    | cons e2 t2 =>
      obtain ⟨h1, h2, h3⟩ := h
      rw [fnb_cons] at k ⊢
      rw [BDs_fnb h3]
      cases z : fnb x t with
      | true => exact Bool.or_true _
      | false =>
        rw [z, Bool.or_false] at k
        rw [Bool.or_false, List.contains_iff_mem]
        rw [List.contains_iff_mem] at k
        exact h1.subset k
theorem SNW_rf : SNW X sc sc := by
  cases sc with
  | nil => trivial
  | cons e t => exact ⟨fun x hx => Or.inl hx, Nat.le_max_left _ _⟩
theorem SNW_tr (h : SNW X sc sc2) (hx : SCX sc sc2 X) (k : SNW Y sc2 sc3) : SNW (max X Y) sc sc3 := by
  cases sc with
  | nil => trivial
  | cons e t =>
    cases sc3 with
    | nil => trivial
    | cons e3 t3 =>
      cases sc2 with
      | nil => exact hx.elim
      | cons e2 t2 =>
        refine ⟨fun x hx3 => ?_, ?_⟩
        · rcases k.1 x hx3 with z | z
          · exact h.1 x z
          · refine Or.inr ?_
            cases y : fnb x (e :: t) with
            | false => rfl
            | true => rw [SCX_fnb hx y] at z; cases z
        · have h2 := h.2
          have k2 := k.2
          omega
theorem SCO_rf : SCO own (e :: t) (e :: t) 0 := ⟨SCX_rf, fun _ => SNW_rf⟩
theorem SCO_tr (h : SCO own sc sc2 X) (k : SCO own sc2 sc3 Y) : SCO own sc sc3 (max X Y) := ⟨SCX_tr h.1 k.1, fun z => SNW_tr (h.2 z) h.1 (k.2 z)⟩
theorem SCO_0 (h : RNs w sc) : SCO own sc sc 0 := by
  cases sc with
  | nil => exact absurd h.2.1.1 (by decide)
  | cons e t => exact SCO_rf
theorem rfP_sn (h : own = false) : SNW (rfX own x (e :: t)) (e :: t) (rfP own x (e :: t)) := by
  subst h
  show SNW (if fnb x (e :: t) then 0 else e.1.length + 1) (e :: t) (if fnb x (e :: t) then hld x (e :: t) else bnS x (e :: t))
  by_cases z : fnb x (e :: t) = true
  · rw [if_pos z, if_pos z]
    unfold hld
    split
    · exact SNW_rf
    · split
      · exact ⟨fun y hy => Or.inl hy, Nat.le_max_left _ _⟩
      · exact SNW_rf
  · rw [if_neg z, if_neg z]
    have z : fnb x (e :: t) = false := by
      cases y : fnb x (e :: t) with
      | false => rfl
      | true => exact absurd y z
    refine ⟨fun y hy => ?_, ?_⟩
    · have hy : y ∈ e.1 ++ [x] := hy
      rcases List.mem_append.mp hy with i | i
      · exact Or.inl i
      · rw [List.mem_singleton.mp i]; exact Or.inr z
    · show (e.1 ++ [x]).length ≤ _
      rw [List.length_append]
      show e.1.length + 1 ≤ _
      omega
end
