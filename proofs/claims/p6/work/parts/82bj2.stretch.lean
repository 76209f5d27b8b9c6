set_option maxRecDepth 100000
def WFE (w v : MS) : Prop := (∀ k, k ∈ [5, 9, 10, 11, 14, 17, 20, 65, 67, 70, 73, 75, 77, 83] → v.1 k = w.1 k) ∧ (∀ k, k < 23 → v.2.2.1 k = w.2.2.1 k) ∧ (∀ j, j < (w.1 75).toNatClampNeg → v.2.2.1 74 j = w.2.2.1 74 j) ∧ (∀ j, j < (w.1 77).toNatClampNeg → v.2.2.1 76 j = w.2.2.1 76 j) ∧ ∀ k, 79 ≤ k → k ≤ 82 → ∀ j, j < (w.1 83).toNatClampNeg → v.2.2.1 k j = w.2.2.1 k j
def CSY (w : MS) (a b : Nat) (x : Int32 × Int32 × Int32) : Prop := ∃ j, (a ≤ j ∧ j < b) ∧ ((w.2.2.1 23 j = 12 ∧ x.2.2 = if w.2.2.1 27 j = 1 then 1 else 0) ∨ (w.2.2.1 23 j = 15 ∧ x.2.2 = 2)) ∧ w.2.2.1 25 j = x.1 ∧ w.2.2.1 26 j = x.2.1
def NKP (a : Nat) (w v : MS) : Prop := ∀ j, j < a → v.2.2.1 23 j = w.2.2.1 23 j ∧ (w.2.2.1 23 j = 12 ∨ w.2.2.1 23 j = 15 → v.2.2.1 25 j = w.2.2.1 25 j ∧ v.2.2.1 26 j = w.2.2.1 26 j ∧ v.2.2.1 27 j = w.2.2.1 27 j)
def lgZ (sc : SCT) (X : Nat) (Zf : Bool) (g : Int32) : Int32 := if Zf then 1 else lgS sc X g
def STW (Nk K : Nat → Nat) (p p2 : Nat) (sc sc2 : SCT) (X : Nat) (W : Nat → Nat) (Rf Zf : Bool) (CL : Int32 × Int32 × Int32 → Prop) (w v : MS) : Prop := RNs v sc2 ∧ SCX sc sc2 X ∧ HDs Nk K W p p2 sc sc2 ∧ (tot sc2 ≤ tot sc + (p2 - p) ∧ X ≤ 1400) ∧ (v.1 66 = 0 ↔ lgZ sc X Zf (w.1 66) = 0) ∧ (v.1 72 = 0 ↔ w.1 72 = 0 ∧ Rf = false) ∧ WFE w v ∧ ∃ a b : Nat, (w.1 32 = I (a : Nat) ∧ v.1 32 = I (b : Nat) ∧ a ≤ b ∧ b ≤ 100000) ∧ (∀ x, CSY v a b x ↔ CL x) ∧ NKP a w v
section
variable {Nk K W W2 : Nat → Nat} {p p2 p3 X Y a b c : Nat} {sc sc2 sc3 : SCT} {Rf Zf Rg Zg : Bool} {CL CM : Int32 × Int32 × Int32 → Prop} {w v u : MS}
theorem WFE_rf : WFE w w := ⟨fun _ _ => rfl, fun _ _ => rfl, fun _ _ => rfl, fun _ _ => rfl, fun _ _ _ _ _ => rfl⟩
theorem WFE_tr (h : WFE w v) (k : WFE v u) : WFE w u := by
  obtain ⟨h1, h2, h3, h4, h5⟩ := h
  obtain ⟨k1, k2, k3, k4, k5⟩ := k
  refine ⟨fun j hj => (k1 j hj).trans (h1 j hj), fun j hj => (k2 j hj).trans (h2 j hj), fun j hj => (k3 j ?_).trans (h3 j hj), fun j hj => (k4 j ?_).trans (h4 j hj), fun q a b j hj => (k5 q a b j ?_).trans (h5 q a b j hj)⟩
  · rw [h1 75 (by decide)]; exact hj
  · rw [h1 77 (by decide)]; exact hj
  · rw [h1 83 (by decide)]; exact hj
theorem WFE_k (h : WFE w v) : Ktc w v := ⟨fun k hk => h.1 k (by unfold TIN at hk; simp only [List.mem_cons, List.not_mem_nil, or_false] at hk ⊢; omega), fun k hk => h.2.1 k (by unfold TRW at hk; simp only [List.mem_cons, List.not_mem_nil, or_false] at hk; omega)⟩
theorem NKP_rf : NKP a w w := fun _ _ => ⟨rfl, fun _ => ⟨rfl, rfl, rfl⟩⟩
theorem NKP_tr (h : NKP a w v) (k : NKP b v u) (hab : a ≤ b) : NKP a w u := fun j hj => by
  obtain ⟨h1, h2⟩ := h j hj
  obtain ⟨k1, k2⟩ := k j (by omega)
  refine ⟨k1.trans h1, fun z => ?_⟩
  obtain ⟨a1, a2, a3⟩ := h2 z
  obtain ⟨b1, b2, b3⟩ := k2 (by rw [h1]; exact z)
  exact ⟨b1.trans a1, b2.trans a2, b3.trans a3⟩
theorem CSY_k {x : Int32 × Int32 × Int32} (h : NKP b v u) : CSY u a b x ↔ CSY v a b x := by
  constructor
  · rintro ⟨j, hj, hk, h1, h2⟩
    obtain ⟨e, f⟩ := h j hj.2
    have z : v.2.2.1 23 j = 12 ∨ v.2.2.1 23 j = 15 := by
      rcases hk with hk | hk
      · exact Or.inl (by rw [← e]; exact hk.1)
      · exact Or.inr (by rw [← e]; exact hk.1)
    obtain ⟨f1, f2, f3⟩ := f z
    rw [f1] at h1
    rw [f2] at h2
    refine ⟨j, hj, ?_, h1, h2⟩
    rcases hk with hk | hk
    · exact Or.inl ⟨by rw [← e]; exact hk.1, by rw [hk.2, f3]⟩
    · exact Or.inr ⟨by rw [← e]; exact hk.1, hk.2⟩
  · rintro ⟨j, hj, hk, h1, h2⟩
    obtain ⟨e, f⟩ := h j hj.2
    have z : v.2.2.1 23 j = 12 ∨ v.2.2.1 23 j = 15 := by
      rcases hk with hk | hk
      · exact Or.inl hk.1
      · exact Or.inr hk.1
    obtain ⟨f1, f2, f3⟩ := f z
    refine ⟨j, hj, ?_, by rw [f1]; exact h1, by rw [f2]; exact h2⟩
    rcases hk with hk | hk
    · exact Or.inl ⟨by rw [e]; exact hk.1, by rw [hk.2, f3]⟩
    · exact Or.inr ⟨by rw [e]; exact hk.1, hk.2⟩
theorem CSY_split {x : Int32 × Int32 × Int32} (h1 : a ≤ b) (h2 : b ≤ c) : CSY u a c x ↔ CSY u a b x ∨ CSY u b c x := by
  constructor
  · rintro ⟨j, hj, h⟩
    by_cases z : j < b
    · exact Or.inl ⟨j, ⟨hj.1, z⟩, h⟩
    · exact Or.inr ⟨j, ⟨by omega, hj.2⟩, h⟩
  · rintro (⟨j, hj, h⟩ | ⟨j, hj, h⟩)
    · exact ⟨j, ⟨hj.1, by omega⟩, h⟩
    · exact ⟨j, ⟨by omega, hj.2⟩, h⟩
theorem lgZ_tr {g : Int32} (h : SCX sc sc2 X) : lgZ sc2 Y Zg (lgZ sc X Zf g) = lgZ sc (max X Y) (Zf || Zg) g := by
  unfold lgZ
  cases Zg
  · cases Zf
    · exact lgS_tr h
    · show lgS sc2 Y 1 = 1
      cases sc2 with
      | nil => rfl
      | cons e t =>
        show lgX e Y 1 = 1
        unfold lgX
        split <;> rfl
  · cases Zf <;> rfl
theorem lgZ_0 {g h : Int32} (e : g = 0 ↔ h = 0) : lgZ sc X Zf g = 0 ↔ lgZ sc X Zf h = 0 := by
  unfold lgZ
  cases Zf
  · cases sc with
    | nil => exact e
    | cons a b =>
      show lgX a X g = 0 ↔ lgX a X h = 0
      unfold lgX
      split
      · exact Iff.rfl
      · exact e
  · exact Iff.rfl
theorem STW_tr (h1 : p ≤ p2) (h2 : p2 ≤ p3) (h : STW Nk K p p2 sc sc2 X W Rf Zf CL w v) (k : STW Nk K p2 p3 sc2 sc3 Y W Rg Zg CM v u) : STW Nk K p p3 sc sc3 (max X Y) W (Rf || Rg) (Zf || Zg) (fun x => CL x ∨ CM x) w u := by
  obtain ⟨a1, a2, a3, a4, a5, a6, a7, a, b, a8, a9, a10⟩ := h
  obtain ⟨b1, b2, b3, b4, b5, b6, b7, b', c, b8, b9, b10⟩ := k
  have e : b' = b := by
    have := b8.1.symm.trans a8.2.1
    have := (I_eq (x := (b' : Nat)) (y := (b : Nat)) (by omega) (by omega) (by omega) (by omega)).mp this
    omega
  subst e
  refine ⟨b1, SCX_tr a2 b2, HDs_tr h1 h2 a3 b3, ⟨by omega, by omega⟩, by rw [b5, lgZ_0 a5, lgZ_tr a2], ?_, WFE_tr a7 b7, a, c, ⟨a8.1, b8.2.1, by omega, b8.2.2.2⟩, fun x => ?_, NKP_tr a10 b10 a8.2.2.1⟩
  · rw [b6, a6]
    cases Rf <;> cases Rg <;> simp
  · rw [CSY_split a8.2.2.1 b8.2.2.1, b9, CSY_k b10, a9]
end
