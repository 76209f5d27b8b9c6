set_option maxRecDepth 100000
def HDs (Nk K W : Nat → Nat) (p p2 : Nat) : SCT → SCT → Prop
  | [], [] => ∀ j, p ≤ j → j < p2 → K j = 3 → W j ≤ 32
  | e :: t, e2 :: t2 => ((∀ x, x ∈ e2.2.1 → x ∈ e.2.1 ∨ ∃ j, (p ≤ j ∧ j < p2) ∧ K j = 3 ∧ Nk j = x ∧ W j < t.length) ∧ (e2.2.1.length < 60 → ∀ j, p ≤ j → j < p2 → K j = 3 → W j < t.length → Nk j ∈ e2.2.1) ∧ e.2.1 <+: e2.2.1) ∧ HDs Nk K W p p2 t t2
  | _, _ => False
def BDs : SCT → SCT → Prop
  | [], [] => True
  | e :: t, e2 :: t2 => (e2.1 = e.1 ∧ e2.2.2 = e.2.2) ∧ BDs t t2
  | _, _ => False
def SCX : SCT → SCT → Nat → Prop
  | e :: t, e2 :: t2, X => e.1 <+: e2.1 ∧ e2.2.2 = max e.2.2 X ∧ BDs t t2
  | _, _, _ => False
section
variable {Nk K W : Nat → Nat} {sc sc2 sc3 t t2 : SCT} {e e2 : List Nat × List Nat × Nat} {p p2 p3 x X Y : Nat} {own : Bool}
theorem BDs_rf : ∀ {sc : SCT}, BDs sc sc
  | [] => trivial
  | _ :: _ => ⟨⟨rfl, rfl⟩, BDs_rf⟩
theorem BDs_tr : ∀ {a b c : SCT}, BDs a b → BDs b c → BDs a c
  | [], [], [], _, _ => trivial
  | [], [], _ :: _, _, h => h.elim
  | [], _ :: _, _, h, _ => h.elim
  | _ :: _, [], _, h, _ => h.elim
  | _ :: _, _ :: _, [], _, h => h.elim
  | _ :: _, _ :: _, _ :: _, h, k => ⟨⟨k.1.1.trans h.1.1, k.1.2.trans h.1.2⟩, BDs_tr h.2 k.2⟩
theorem BDs_len : ∀ {a b : SCT}, BDs a b → b.length = a.length ∧ tot b = tot a
  | [], [], _ => ⟨rfl, rfl⟩
  | [], _ :: _, h => h.elim
  | _ :: _, [], h => h.elim
  | e :: t, e2 :: t2, h => by
    obtain ⟨a, b⟩ := BDs_len h.2
    exact ⟨by show t2.length + 1 = t.length + 1; omega, by show tot t2 + e2.1.length = tot t + e.1.length; rw [b, h.1.1]⟩
theorem HDs_len : ∀ {a b : SCT}, HDs Nk K W p p2 a b → b.length = a.length
  | [], [], _ => rfl
  | [], _ :: _, h => h.elim
  | _ :: _, [], h => h.elim
  | _ :: t, _ :: t2, h => by show t2.length + 1 = t.length + 1; rw [HDs_len h.2]
theorem SCX_rf {e : List Nat × List Nat × Nat} {t : SCT} : SCX (e :: t) (e :: t) 0 := ⟨List.prefix_rfl, (Nat.max_eq_left (Nat.zero_le _)).symm, BDs_rf⟩
theorem SCX_tr : ∀ {a b c : SCT}, SCX a b X → SCX b c Y → SCX a c (max X Y)
  | [], [], _, h, _ => h.elim
  | [], _ :: _, _, h, _ => h.elim
  | _ :: _, [], _, h, _ => h.elim
  | _ :: _, _ :: _, [], _, h => h.elim
  | _ :: _, _ :: _, _ :: _, h, k => ⟨h.1.trans k.1, by rw [k.2.1, h.2.1, Nat.max_assoc], BDs_tr h.2.2 k.2.2⟩
theorem HDs_no : ∀ {sc : SCT}, (∀ j, p ≤ j → j < p2 → K j = 3 → sc.length ≤ W j + 1 ∧ W j ≤ 32) → HDs Nk K W p p2 sc sc
  | [], h => fun j h1 h2 h3 => (h j h1 h2 h3).2
  | e :: t, h => ⟨⟨fun x hx => Or.inl hx, fun _ j h1 h2 h3 h4 => by
      have : t.length + 1 ≤ W j + 1 := (h j h1 h2 h3).1
      omega, List.prefix_rfl⟩, HDs_no (fun j h1 h2 h3 => by
      have : t.length + 1 ≤ W j + 1 := (h j h1 h2 h3).1
      exact ⟨by omega, (h j h1 h2 h3).2⟩)⟩
theorem HDs_tr : ∀ {a b c : SCT}, p ≤ p2 → p2 ≤ p3 → HDs Nk K W p p2 a b → HDs Nk K W p2 p3 b c → HDs Nk K W p p3 a c
  | [], [], [], _, _, h, k => fun j h1 h2 h3 => by
    by_cases z : j < p2
    · exact h j h1 z h3
    · exact k j (by omega) h2 h3
  | [], [], _ :: _, _, _, _, h => h.elim
  | [], _ :: _, _, _, _, h, _ => h.elim
  | _ :: _, [], _, _, _, h, _ => h.elim
  | _ :: _, _ :: _, [], _, _, _, h => h.elim
  | e :: t, e2 :: t2, e3 :: t3, l1, l2, h, k => by
    have hl := HDs_len h.2
    refine ⟨⟨fun x hx => ?_, fun h60 j h1 h2 h3 h4 => ?_, h.1.2.2.trans k.1.2.2⟩, HDs_tr l1 l2 h.2 k.2⟩
    · rcases k.1.1 x hx with a | ⟨j, a1, a2, a3, a4⟩
      · rcases h.1.1 x a with b | ⟨j, b1, b2, b3, b4⟩
        · exact Or.inl b
        · exact Or.inr ⟨j, ⟨b1.1, by omega⟩, b2, b3, b4⟩
      · exact Or.inr ⟨j, ⟨by omega, a1.2⟩, a2, a3, by omega⟩
    · have pl := k.1.2.2.length_le
      by_cases z : j < p2
      · exact k.1.2.2.subset (h.1.2.1 (by omega) j h1 z h3 h4)
      · exact k.1.2.1 h60 j (by omega) h2 h3 (by omega)
theorem HDs_w {W2 : Nat → Nat} : ∀ {a b : SCT}, (∀ j, p ≤ j → j < p2 → W2 j = W j) → HDs Nk K W p p2 a b → HDs Nk K W2 p p2 a b
  | [], [], hw, h => fun j h1 h2 h3 => by rw [hw j h1 h2]; exact h j h1 h2 h3
  | [], _ :: _, _, h => h.elim
  | _ :: _, [], _, h => h.elim
  | e :: t, e2 :: t2, hw, h => ⟨⟨fun x hx => by
      rcases h.1.1 x hx with a | ⟨j, a1, a2, a3, a4⟩
      · exact Or.inl a
      · exact Or.inr ⟨j, a1, a2, a3, by rw [hw j a1.1 a1.2]; exact a4⟩, fun h60 j h1 h2 h3 h4 => h.1.2.1 h60 j h1 h2 h3 (by rw [← hw j h1 h2]; exact h4), h.1.2.2⟩, HDs_w hw h.2⟩
theorem lvx_le : ∀ {sc : SCT}, lvx x sc ≤ sc.length - 1
  | [] => Nat.zero_le _
  | e :: t => by
    unfold lvx
    split
    · exact Nat.le_refl _
    · have := lvx_le (sc := t)
      show lvx x t ≤ t.length + 1 - 1
      omega
theorem lvx_lt (h : fnb x t = true) : lvx x t < t.length := by
  have := lvx_le (x := x) (sc := t)
  cases t with
  | nil => cases h
  | cons a b => show lvx x (a :: b) < b.length + 1; have h2 : (a :: b).length = b.length + 1 := rfl; omega
theorem HLx_HD (hN : Nk p = x) : ∀ {sc : SCT}, sc.length ≤ 33 → HLx x sc → W p = lvx x sc → HDs Nk K W p (p + 1) sc sc
  | [], _, h, _ => h.elim
  | e :: t, hln, h, hW => by
    have hln : t.length + 1 ≤ 33 := hln
    have jp : ∀ j, p ≤ j → j < p + 1 → j = p := fun j a b => by omega
    by_cases c : e.1.contains x = true
    · unfold lvx at hW
      rw [if_pos c] at hW
      refine HDs_no (fun j h1 h2 _ => ?_)
      rw [jp j h1 h2, hW]
      exact ⟨Nat.le_refl _, by omega⟩
    · unfold lvx at hW
      rw [if_neg c] at hW
      rcases h with h | ⟨h1, h2⟩
      · exact absurd (List.contains_iff_mem.mpr h) c
      · refine ⟨⟨fun y hy => Or.inl hy, fun h60 j a b _ _ => ?_, List.prefix_rfl⟩, HLx_HD hN (by omega) h2 hW⟩
        rw [jp j a b, hN]
        rcases h1 with h1 | h1
        · exact h1
        · omega
theorem hld_HD (hN : Nk p = x) (hK : K p = 3) : ∀ {sc : SCT}, sc.length ≤ 33 → SOK sc → fnb x sc = true → W p = lvx x sc → HDs Nk K W p (p + 1) sc (hld x sc)
  | [], _, _, h, _ => by cases h
  | e :: t, hln, ok, hf, hW => by
    have hln2 : t.length + 1 ≤ 33 := hln
    obtain ⟨⟨n1, n2, n3, n4, n5, n6, n7⟩, ok2⟩ := id ok
    have jp : ∀ j, p ≤ j → j < p + 1 → j = p := fun j a b => by omega
    unfold hld
    by_cases c : (e.1.contains x || e.2.1.contains x) = true
    · rw [if_pos c]
      refine HLx_HD hN hln ?_ hW
      rw [Bool.or_eq_true] at c
      by_cases c1 : e.1.contains x = true
      · exact Or.inl (List.contains_iff_mem.mp c1)
      · rcases c with c | c
        · exact absurd c c1
        · have := List.contains_iff_mem.mp c
          exact Or.inr ⟨Or.inl this, n6 x this⟩
    · rw [if_neg c]
      have c1 : e.1.contains x = false := by
        cases z : e.1.contains x
        · rfl
        · exact absurd (by rw [z]; rfl) c
      have f2 : fnb x t = true := by
        unfold fnb at hf ⊢
        rw [List.any_cons, c1, Bool.false_or] at hf
        exact hf
      rw [if_pos f2]
      unfold lvx at hW
      rw [c1] at hW
      have hW : W p = lvx x t := hW
      have lt := lvx_lt f2
      refine ⟨⟨fun y hy => ?_, fun h60 j a b _ _ => ?_, ?_⟩, hld_HD hN hK (by omega) ok2 f2 hW⟩
      · have hy : y ∈ (if e.2.1.length < 60 then e.2.1 ++ [x] else e.2.1) := hy
        split at hy
        · rcases List.mem_append.mp hy with h | h
          · exact Or.inl h
          · exact Or.inr ⟨p, ⟨Nat.le_refl _, by omega⟩, hK, by rw [hN, List.mem_singleton.mp h], by omega⟩
        · exact Or.inl hy
      · have h60 : (if e.2.1.length < 60 then e.2.1 ++ [x] else e.2.1).length < 60 := h60
        show Nk j ∈ (if e.2.1.length < 60 then e.2.1 ++ [x] else e.2.1)
        rw [jp j a b, hN]
        split
        · exact List.mem_append_right _ (List.mem_singleton.mpr rfl)
        · rename_i z
          rw [if_neg z] at h60
          exact absurd h60 z
      · show e.2.1 <+: (if e.2.1.length < 60 then e.2.1 ++ [x] else e.2.1)
        split
        · exact List.prefix_append _ _
        · exact List.prefix_rfl
theorem hld_BD : ∀ {sc : SCT}, BDs sc (hld x sc)
  | [] => trivial
  | e :: t => by
    unfold hld
    split
    · exact BDs_rf
    · split
      · exact ⟨⟨rfl, rfl⟩, hld_BD⟩
      · exact BDs_rf
theorem hld_SCX (h : sc ≠ []) : SCX sc (hld x sc) 0 := by
  cases sc with
  | nil => exact absurd rfl h
  | cons e t =>
    unfold hld
    split
    · exact SCX_rf
    · split
      · exact ⟨List.prefix_rfl, (Nat.max_eq_left (Nat.zero_le _)).symm, hld_BD⟩
      · exact SCX_rf
theorem rfP_d (ok : SOK (e :: t)) (hl : t.length ≤ 26) (hN : Nk p = x) (hK : K p = 3) (hW : W p = rfL own x (e :: t)) : SCX (e :: t) (rfP own x (e :: t)) (rfX own x (e :: t)) ∧ HDs Nk K W p (p + 1) (e :: t) (rfP own x (e :: t)) := by
  have jp : ∀ j, p ≤ j → j < p + 1 → j = p := fun j a b => by omega
  have new : SCX (e :: t) (bnS x (e :: t)) (e.1.length + 1) ∧ (W p = 32 → HDs Nk K W p (p + 1) (e :: t) (bnS x (e :: t))) := by
    refine ⟨⟨List.prefix_append _ _, rfl, BDs_rf⟩, fun h => ?_⟩
    have a : HDs Nk K W p (p + 1) (e :: t) (e :: t) := HDs_no (fun j h1 h2 _ => by rw [jp j h1 h2, h]; exact ⟨by show t.length + 1 ≤ 32 + 1; omega, Nat.le_refl _⟩)
    exact ⟨a.1, a.2⟩
  cases own with
  | false =>
    cases hf : fnb x (e :: t)
    · obtain ⟨a, b, c⟩ := rf_n hf
      rw [a, b]
      exact ⟨new.1, new.2 (by rw [hW, c])⟩
    · obtain ⟨a, b, c⟩ := rf_y hf
      rw [a, b]
      exact ⟨hld_SCX (fun z => by cases z), hld_HD hN hK (by show t.length + 1 ≤ 33; omega) ok hf (by rw [hW, c])⟩
  | true =>
    cases hf : e.1.contains x
    · obtain ⟨a, b, c⟩ := ro_n (t := t) hf
      rw [a, b]
      exact ⟨new.1, new.2 (by rw [hW, c])⟩
    · obtain ⟨a, b, c⟩ := ro_y (t := t) hf
      rw [a, b]
      exact ⟨SCX_rf, HDs_no (fun j h1 h2 _ => by rw [jp j h1 h2, hW, c]; exact ⟨Nat.le_refl _, by omega⟩)⟩
end
