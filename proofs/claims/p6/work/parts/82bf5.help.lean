set_option maxRecDepth 100000
def bPK (k : Nat) : Bool := k == 1 || k == 2 || k == 3 || k == 4 || k == 20 || k == 22 || k == 24 || k == 34
def bUK (k : Nat) : Bool := bPK k || k == 7 || k == 8 || k == 12 || k == 13 || k == 14 || k == 17
def b2c (b : Bool) : Int32 := if b then 1 else 0
def advc (m : MS) (p : Nat) : MS := upI m 665 (I ((p + 1 : Nat) : Int))
def RFS {α : Type} (o : Option (MS × (α ⊕ Nat))) : Prop := ∃ m, o = some (m, .inr 3)
section
variable {α β γ : Type} {w m : MS} {K : Nat → Nat} {T p k N : Nat} {s : Int32} {R : MS → α ⊕ Nat → MS → β → Prop} {b : Option (MS × β)} {f : MS → γ → Option (MS × (α ⊕ Nat))} {o : Option (MS × (γ ⊕ Nat))}
theorem RFS_T (h : RFS o) : RFS (bTm o f) := by
  obtain ⟨m, rfl⟩ := h
  exact ⟨m, rfl⟩
theorem pp_rf {a : Option (MS × (α ⊕ Nat))} (h : RFS a) (h2 : ∀ m, PK (fun v r => R m (.inr 3) v r) b) : PP R a b := by
  obtain ⟨m, rfl⟩ := h
  exact pp_l (h2 m)
theorem CP_i (h : CP m K T p) : inb (m.1 665) 4002 = true ∧ (m.1 665).toNatClampNeg = p ∧ m.2.2.1 6 p = I (K p : Nat) := by
  obtain ⟨⟨ht, h6⟩, h65, hp⟩ := h
  have := ht.1
  exact ⟨by rw [h65]; exact i_inb (by omega) (by decide), by rw [h65]; exact i_nt (by omega), h6 p hp⟩
theorem WP_i (h : WP w K T p) : inb (w.1 69) 4002 = true ∧ (w.1 69).toNatClampNeg = p ∧ w.2.2.1 6 p = I (srK (K p) : Nat) := by
  obtain ⟨⟨ht, h6, -⟩, h65, hp⟩ := h
  have := ht.1
  exact ⟨by rw [h65]; exact i_inb (by omega) (by decide), by rw [h65]; exact i_nt (by omega), h6 p hp⟩
theorem advc_p (h : CP m K T p) (hl : p < T) : CP (advc m p) K T (p + 1) := ⟨h.1, upI_at, hl⟩
theorem rfs_e (h : CP m K T p) : RFS (hm_Pa_refuse N m s) := by
  unfold hm_Pa_refuse hb_Pa_refuse_0
  rw [(CP_i h).1]
  exact ⟨_, rfl⟩
theorem I45 (hk : k < 46) : (I (k : Nat) = 45 ↔ k = 45) := by
  have : ∀ k, k < 46 → (I (k : Nat) = 45 ↔ k = 45) := by decide +kernel
  exact this k hk
theorem look_e (h : CP m K T p) (hk : K p ≠ 45) : hm_Pa_look N m = some (m, .inl (I (K p : Nat))) := by
  obtain ⟨a, b, c⟩ := CP_i h
  have k46 := h.1.1.k46 h.2.2
  unfold hm_Pa_look hb_Pa_look_0 hb_Pa_look_22
  rw [a, b, c, decide_eq_false (fun z => hk ((I45 k46).mp z))]
  rfl
theorem look_x (h : CP m K T p) (hk : K p = 45) : RFS (hm_Pa_look N m) := by
  obtain ⟨a, b, c⟩ := CP_i h
  unfold hm_Pa_look hb_Pa_look_0
  rw [a, b, c, hk, decide_eq_true (by decide)]
  exact RFS_T (rfs_e h)
theorem I_ne {a b : Nat} (ha : a < 100) (hb : b < 100) : (I (a : Nat) = I (b : Nat) ↔ a = b) := ⟨fun h => i_inj (by omega) (by omega) h, fun h => by rw [h]⟩
theorem need_e (h : CP m K T p) (hk : K p = k) (h45 : k < 45) (hs : s = I (k : Nat)) : hm_Pa_need N m s = some (advc m p, .inl (I (p : Nat))) := by
  unfold hm_Pa_need hb_Pa_need_0 hb_Pa_need_13
  rw [look_e h (by omega), hs, hk]
  show br (decide (I (k : Nat) = I (k : Nat))) _ _ = _
  rw [decide_eq_true rfl]
  show some (upI m 665 (m.1 665 + 1), (.inl ((upI m 665 (m.1 665 + 1)).1 665 - 1) : Int32 ⊕ Nat)) = _
  rw [upI_at, h.2.1, i_suc, show ((p + 1 : Nat) : Int) = (p : Int) + 1 by omega, ← I_add, ← lit1q, show I (p : Nat) + 1 - 1 = I (p : Nat) by rw [lit1q, I_add, I_sub]; congr 1; omega]
  unfold advc
  rw [show ((p + 1 : Nat) : Int) = (p : Int) + 1 by omega, ← I_add, ← lit1q]
theorem need_x (h : CP m K T p) (hk : K p ≠ k) (h45 : k < 45) (hs : s = I (k : Nat)) : RFS (hm_Pa_need N m s) := by
  have k46 := h.1.1.k46 h.2.2
  unfold hm_Pa_need hb_Pa_need_0
  by_cases e : K p = 45
  · exact RFS_T (look_x h e)
  · rw [look_e h e, hs]
    show RFS (br (decide (I (K p : Nat) = I (k : Nat))) _ _)
    rw [decide_eq_false (fun z => hk ((I_ne (by omega) (by omega)).mp z))]
    exact RFS_T (rfs_e h)
theorem opens_e (h : m.1 666 < 25) : hm_Pa_opens N m 1 = some (upI m 666 (m.1 666 + 1), .inl ()) := by
  unfold hm_Pa_opens hb_Pa_opens_0 hb_Pa_opens_9 hb_Pa_opens_23
  rw [decide_eq_true h]; rfl
theorem opens_x (h : CP m K T p) (h2 : ¬ m.1 666 < 25) : RFS (hm_Pa_opens N m 1) := by
  unfold hm_Pa_opens hb_Pa_opens_0 hb_Pa_opens_9
  rw [decide_eq_false h2]
  exact RFS_T (rfs_e h)
theorem opens_0 (h : CP m K T p) : RFS (hm_Pa_opens N m 0) := by
  unfold hm_Pa_opens hb_Pa_opens_0
  exact RFS_T (rfs_e h)
theorem bP_e (h : k < 46) : hm_Pa_beginsPattern N m (I (k : Nat)) = some (m, b2c (bPK k)) := by
  have : ∀ k, k < 46 → ∀ x : Int32 → Int32, True := fun _ _ _ => trivial
  unfold hm_Pa_beginsPattern hb_Pa_beginsPattern_0
  have e : ∀ j : Nat, j < 46 → ∀ s : Int32, s = I (j : Nat) → decide (I (k : Nat) = s) = decide (k = j) := fun j hj s hs => by
    rw [hs]
    by_cases z : k = j
    · rw [decide_eq_true z, decide_eq_true (by rw [z])]
    · rw [decide_eq_false z, decide_eq_false (fun y => z ((I_ne (by omega) (by omega)).mp y))]
  rw [e 1 (by decide) 1 rfl, e 2 (by decide) 2 rfl, e 3 (by decide) 3 rfl, e 4 (by decide) 4 rfl, e 20 (by decide) 20 rfl, e 22 (by decide) 22 rfl, e 24 (by decide) 24 rfl, e 34 (by decide) 34 rfl]
  unfold bPK
  by_cases z1 : k = 1
  · subst z1; rfl
  by_cases z2 : k = 2
  · subst z2; rfl
  by_cases z3 : k = 3
  · subst z3; rfl
  by_cases z4 : k = 4
  · subst z4; rfl
  by_cases z5 : k = 20
  · subst z5; rfl
  by_cases z6 : k = 22
  · subst z6; rfl
  by_cases z7 : k = 24
  · subst z7; rfl
  by_cases z8 : k = 34
  · subst z8; rfl
  rw [decide_eq_false z1, decide_eq_false z2, decide_eq_false z3, decide_eq_false z4, decide_eq_false z5, decide_eq_false z6, decide_eq_false z7, decide_eq_false z8, beq_false_of_ne z1, beq_false_of_ne z2, beq_false_of_ne z3, beq_false_of_ne z4, beq_false_of_ne z5, beq_false_of_ne z6, beq_false_of_ne z7, beq_false_of_ne z8]
  rfl
end
