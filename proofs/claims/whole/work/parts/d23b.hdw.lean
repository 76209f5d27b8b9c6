/-! names held, and the levels told; the names that come are new -/
set_option maxRecDepth 100000
/-- names that come are bound nowhere before -/
def NWd : SCT → SCT → Prop
  | [], [] => True
  | e :: t, e2 :: t2 => e.1 <+: e2.1 ∧ BDs t t2 ∧ ∀ x, x ∈ e2.1 → x ∈ e.1 ∨ fnb x (e :: t) = false
  | _, _ => False
/-- names held; W: the levels of names bound before -/
def HDw (own : Bool) (nm Nk K W : Nat → Nat) (p p2 : Nat) (sc sc2 : SCT) : Prop := HDo Nk K W p p2 sc sc2 ∧ (own = false → WCN Nk K nm W p p2 sc ∧ NWd sc sc2)
section
variable {nm Nk K W W2 : Nat → Nat} {a b c sc sc2 t t2 : SCT} {e e2 : List Nat × List Nat × Nat} {p p2 p3 x : Nat} {own : Bool}
theorem fnb_cs : fnb x (e :: t) = (e.1.contains x || fnb x t) := by unfold fnb; rw [List.any_cons]
theorem NWX_rf : NWd sc sc := by
  cases sc with
  | nil => trivial
  | cons e t => exact ⟨List.prefix_rfl, BDs_rf, fun x hx => Or.inl hx⟩
theorem NWX_fnb (h : NWd a b) (f : fnb x a = true) : fnb x b = true := by
  cases a with
  | nil => cases f
  | cons e t =>
    cases b with
    | nil => exact h.elim
    | cons e2 t2 =>
      obtain ⟨h1, h2, -⟩ := h
      rw [fnb_cs, Bool.or_eq_true] at f ⊢
      rcases f with f | f
      · exact Or.inl (List.contains_iff_mem.mpr (h1.subset (List.contains_iff_mem.mp f)))
      · exact Or.inr (by rw [BDs_fnb h2]; exact f)
theorem NWX_lvx (h : NWd a b) (f : fnb x a = true) : lvx x b = lvx x a := by
  cases a with
  | nil => cases f
  | cons e t =>
    cases b with
    | nil => exact h.elim
    | cons e2 t2 =>
      obtain ⟨h1, h2, h3⟩ := h
      show (if e2.1.contains x then t2.length else lvx x t2) = (if e.1.contains x then t.length else lvx x t)
      by_cases z : x ∈ e.1
      · rw [if_pos (List.contains_iff_mem.mpr z), if_pos (List.contains_iff_mem.mpr (h1.subset z)), (BDs_len h2).1]
      · have z2 : ¬ x ∈ e2.1 := fun y => by
          rcases h3 x y with y | y
          · exact z y
          · rw [f] at y; cases y
        rw [if_neg (fun y => z (List.contains_iff_mem.mp y)), if_neg (fun y => z2 (List.contains_iff_mem.mp y)), BDs_lvx h2]
theorem NWX_len (h : NWd a b) : b.length = a.length := by
  cases a with
  | nil =>
    cases b with
    | nil => rfl
    | cons e2 t2 => exact h.elim
  | cons e t =>
    cases b with
    | nil => exact h.elim
    | cons e2 t2 => show t2.length + 1 = t.length + 1; rw [(BDs_len h.2.1).1]
theorem NWX_tr (h : NWd a b) (k : NWd b c) : NWd a c := by
  have hf := fun x => NWX_fnb (x := x) h
  cases a with
  | nil =>
    cases b with
    | nil => exact k
    | cons e2 t2 => exact h.elim
  | cons e t =>
    cases b with
    | nil => exact h.elim
    | cons e2 t2 =>
      cases c with
      | nil => exact k.elim
      | cons e3 t3 =>
        refine ⟨h.1.trans k.1, BDs_tr h.2.1 k.2.1, fun x hx => ?_⟩
        rcases k.2.2 x hx with y | y
        · exact h.2.2 x y
        · refine Or.inr ?_
          cases z : fnb x (e :: t) with
          | false => rfl
          | true => rw [hf x z] at y; cases y
theorem WCN_cat (h : WCN Nk K nm W p p2 a) (k : WCN Nk K nm W p2 p3 b) (n : NWd a b) : WCN Nk K nm W p p3 a := fun j h1 h2 h3 => by
  by_cases z : j < p2
  · exact h j h1 z h3
  obtain ⟨g1, g2⟩ := k j (by omega) h2 h3
  refine ⟨fun y1 y2 => (g1 y1 (NWX_fnb n y2)).trans (NWX_lvx n y2), fun y => ?_⟩
  have ln := NWX_len n
  by_cases y1 : nm (Nk j) = 0 ∨ fnb (Nk j) b = false
  · have := g2 y1; omega
  · have n0 : nm (Nk j) ≠ 0 := fun q => y1 (Or.inl q)
    have f1 : fnb (Nk j) b = true := by
      cases q : fnb (Nk j) b with
      | false => exact absurd (Or.inr q) y1
      | true => rfl
    have f0 : fnb (Nk j) a = false := y.resolve_left n0
    rw [g1 n0 f1]
    cases a with
    | nil =>
      cases b with
      | nil => cases f1
      | cons e2 t2 => exact n.elim
    | cons e t =>
      cases b with
      | nil => exact n.elim
      | cons e2 t2 =>
        obtain ⟨n1, n2, n3⟩ := n
        have : fnb (Nk j) t2 = false := by
          rw [BDs_fnb n2]
          rw [fnb_cs, Bool.or_eq_false_iff] at f0
          exact f0.2
        rw [fnb_cs, this, Bool.or_false] at f1
        show t.length + 1 ≤ (if e2.1.contains (Nk j) then t2.length else lvx (Nk j) t2) + 1
        rw [if_pos f1, (BDs_len n2).1]
        omega
theorem WCN_eq (hw : ∀ j, p ≤ j → j < p2 → W2 j = W j) (h : WCN Nk K nm W p p2 a) : WCN Nk K nm W2 p p2 a := fun j h1 h2 h3 => by rw [hw j h1 h2]; exact h j h1 h2 h3
theorem HDw_tr (l1 : p ≤ p2) (l2 : p2 ≤ p3) (h : HDw own nm Nk K W p p2 a b) (k : HDw own nm Nk K W p2 p3 b c) : HDw own nm Nk K W p p3 a c := ⟨HDo_tr l1 l2 h.1 k.1, fun o => ⟨WCN_cat (h.2 o).1 (k.2 o).1 (h.2 o).2, NWX_tr (h.2 o).2 (k.2 o).2⟩⟩
theorem HDw_w (hw : ∀ j, p ≤ j → j < p2 → W2 j = W j) (h : HDw own nm Nk K W p p2 a b) : HDw own nm Nk K W2 p p2 a b := ⟨HDo_w hw h.1, fun o => ⟨WCN_eq hw (h.2 o).1, (h.2 o).2⟩⟩
theorem HDw_gap (h : ∀ j, p ≤ j → j < p2 → K j ≠ 3) : HDw own nm Nk K W p p2 sc sc := ⟨HDo_gap h, fun _ => ⟨fun j a b c => absurd c (h j a b), NWX_rf⟩⟩
/-- a name in a pattern -/
theorem rfP_dw (ok : SOK (e :: t)) (hN : Nk p = x) (hK : K p = 3) (hm : nm x ≠ 0) (hW : W p = rfL own x (e :: t)) (hl : t.length ≤ 26) : HDw own nm Nk K W p (p + 1) (e :: t) (rfP own x (e :: t)) := by
  refine ⟨rfP_do ok hN hK hW hl, fun o => ?_⟩
  subst o
  have el : (e :: t).length = t.length + 1 := rfl
  cases hf : fnb x (e :: t) with
  | false =>
    obtain ⟨r1, r2, r3⟩ := rf_n hf
    rw [r1]
    refine ⟨fun j a b c => ?_, List.prefix_append _ _, BDs_rf, fun y hy => ?_⟩
    · have : j = p := by omega
      subst this
      rw [hN, hf, hW, r3]
      exact ⟨fun _ z => (by cases z), fun _ => by omega⟩
    · rcases List.mem_append.mp hy with z | z
      · exact Or.inl z
      · rw [List.mem_singleton.mp z]; exact Or.inr hf
  | true =>
    obtain ⟨r1, r2, r3⟩ := rf_y hf
    rw [r1]
    have bd : NWd (e :: t) (hld x (e :: t)) := by
      have sx := hld_SCX (x := x) (sc := e :: t) (fun z => by cases z)
      unfold hld at sx ⊢
      split
      · exact NWX_rf
      · next c1 =>
        rw [if_neg c1] at sx
        split
        · next c2 =>
          rw [if_pos c2] at sx
          exact ⟨List.prefix_rfl, sx.2.2, fun y hy => Or.inl hy⟩
        · exact NWX_rf
    refine ⟨fun j a b c => ?_, bd⟩
    have : j = p := by omega
    subst this
    rw [hN, hf, hW, r3]
    exact ⟨fun _ _ => rfl, fun z => by
      rcases z with z | z
      · exact absurd z hm
      · cases z⟩
end
