def smB (c : Int32) : Prop := ¬ (c < 97) ∧ ¬ (122 < c)
def grB (c : Int32) : Prop := (¬ (c < 65) ∧ c ≤ 90) ∨ c = 95
def dgB (c : Int32) : Prop := ¬ (c < 48) ∧ ¬ (57 < c)
def inB (c : Int32) : Prop := smB c ∨ grB c ∨ dgB c
def byI (u : MS) (k : Int) : Int32 := if F u 5 ≤ k then -1 else u.2.2.1 4 k.toNat &&& 255
theorem inB_no : ¬ inB (-1) := by unfold inB smB grB dgB; decide
section
variable {α : Type} {Q : MS → α → Prop} {u v : MS} {N : Nat} {c : Int32} {k : Int}
theorem k_byteAt {f : MS → Int32 → Option (MS × α)} {x : Int32} (hx : x = I k) (hk : 0 ≤ k ∧ k ≤ 5000) (h5 : 0 ≤ F u 5 ∧ F u 5 ≤ 4000) (a : OK Q (f u (byI u k))) : OK Q (bnd (fm_M_byteAt N u x) f) := by
  unfold fm_M_byteAt fb_M_byteAt_0 fb_M_byteAt_22
  rw [hx, I_F (k := 5)]
  unfold byI at a
  by_cases z : F u 5 ≤ k
  · rw [if_pos z] at a
    have : decide (I (F u 5) ≤ I k) = true := decide_eq_true ((I_le (by omega) (by omega) (by omega) (by omega)).mpr z)
    rw [this, br_tq, bnd_so]; exact a
  · rw [if_neg z] at a
    have : decide (I (F u 5) ≤ I k) = false := decide_eq_false (fun q => z ((I_le (by omega) (by omega) (by omega) (by omega)).mp q))
    rw [this, br_fq]
    have h4 : inb (I k) (ln 4) = true := inb_at (k := 4) (n := 4000) rfl hk.1 (by omega) (by decide)
    rw [h4, ck_t, bnd_so, I_tn (by omega) (by omega)]; exact a
theorem k_small {f : MS → Int32 → Option (MS × α)} (a : smB c → OK Q (f u 1)) (b : ¬ smB c → OK Q (f u 0)) : OK Q (bnd (fm_M_isSmall N u c) f) := by
  unfold fm_M_isSmall fb_M_isSmall_0 fb_M_isSmall_16 fb_M_isSmall_17
  by_cases z : c < 97
  · rw [decide_eq_true z, br_tq]
    show OK Q (f u 0)
    exact b (fun q => q.1 z)
  · rw [decide_eq_false z, br_fq]
    by_cases y : 122 < c
    · rw [decide_eq_true y, br_tq]
      show OK Q (f u 0)
      exact b (fun q => q.2 y)
    · rw [decide_eq_false y, br_fq]
      show OK Q (f u 1)
      exact a ⟨z, y⟩
theorem k_great {f : MS → Int32 → Option (MS × α)} (a : grB c → OK Q (f u 1)) (b : ¬ grB c → OK Q (f u 0)) : OK Q (bnd (fm_M_isGreat N u c) f) := by
  unfold fm_M_isGreat fb_M_isGreat_0 fb_M_isGreat_12 fb_M_isGreat_18 fb_M_isGreat_23
  by_cases z : c < 65
  · rw [decide_eq_true z, br_tq]
    by_cases y : c = 95
    · rw [decide_eq_true y, br_tq]
      show OK Q (f u 1)
      exact a (Or.inr y)
    · rw [decide_eq_false y, br_fq]
      show OK Q (f u 0)
      refine b (fun q => ?_)
      rcases q with q | q
      · exact q.1 z
      · exact y q
  · rw [decide_eq_false z, br_fq]
    by_cases y : c ≤ 90
    · rw [decide_eq_true y, br_tq]
      show OK Q (f u 1)
      exact a (Or.inl ⟨z, y⟩)
    · rw [decide_eq_false y, br_fq]
      by_cases x : c = 95
      · rw [decide_eq_true x, br_tq]
        show OK Q (f u 1)
        exact a (Or.inr x)
      · rw [decide_eq_false x, br_fq]
        show OK Q (f u 0)
        refine b (fun q => ?_)
        rcases q with q | q
        · exact y q.2
        · exact x q
theorem k_digit {f : MS → Int32 → Option (MS × α)} (a : dgB c → OK Q (f u 1)) (b : ¬ dgB c → OK Q (f u 0)) : OK Q (bnd (fm_M_isDigit N u c) f) := by
  unfold fm_M_isDigit fb_M_isDigit_0 fb_M_isDigit_16 fb_M_isDigit_17
  by_cases z : c < 48
  · rw [decide_eq_true z, br_tq]
    show OK Q (f u 0)
    exact b (fun q => q.1 z)
  · rw [decide_eq_false z, br_fq]
    by_cases y : 57 < c
    · rw [decide_eq_true y, br_tq]
      show OK Q (f u 0)
      exact b (fun q => q.2 y)
    · rw [decide_eq_false y, br_fq]
      show OK Q (f u 1)
      exact a ⟨z, y⟩
theorem small_e : fm_M_isSmall N u c = some (u, 1) ∧ smB c ∨ fm_M_isSmall N u c = some (u, 0) ∧ ¬ smB c := by
  unfold fm_M_isSmall fb_M_isSmall_0 fb_M_isSmall_16 fb_M_isSmall_17
  by_cases z : c < 97
  · rw [decide_eq_true z, br_tq]
    exact Or.inr ⟨rfl, fun q => q.1 z⟩
  · rw [decide_eq_false z, br_fq]
    by_cases y : 122 < c
    · rw [decide_eq_true y, br_tq]
      exact Or.inr ⟨rfl, fun q => q.2 y⟩
    · rw [decide_eq_false y, br_fq]
      exact Or.inl ⟨rfl, z, y⟩
theorem k_inner {f : MS → Int32 → Option (MS × α)} (a : inB c → OK Q (f u 1)) (b : ¬ inB c → OK Q (f u 0)) : OK Q (bnd (fm_M_isInner N u c) f) := by
  have key : ∀ (w : Option (MS × Int32)), OK (fun v r => v = u ∧ ((r = 1 ∧ inB c) ∨ (r = 0 ∧ ¬ inB c))) w → OK Q (bnd w f) := fun w hw => by
    refine ok_bnd.mpr (ok_mono hw (fun v r h => ?_))
    obtain ⟨rfl, h⟩ := h
    rcases h with ⟨h1, h2⟩ | ⟨h1, h2⟩
    · rw [h1]; exact a h2
    · rw [h1]; exact b h2
  refine key _ ?_
  unfold fm_M_isInner fb_M_isInner_0 fb_M_isInner_21 fb_M_isInner_26
  refine k_small (fun z => ?_) (fun z => ?_)
  · rw [br10]; exact ok_some.mpr ⟨rfl, Or.inl ⟨rfl, Or.inl z⟩⟩
  · rw [br00]
    refine k_great (fun y => ?_) (fun y => ?_)
    · rw [br10]; exact ok_some.mpr ⟨rfl, Or.inl ⟨rfl, Or.inr (Or.inl y)⟩⟩
    · rw [br00]
      refine k_digit (fun x => ?_) (fun x => ?_)
      · rw [br10]; exact ok_some.mpr ⟨rfl, Or.inl ⟨rfl, Or.inr (Or.inr x)⟩⟩
      · rw [br00]
        refine ok_some.mpr ⟨rfl, Or.inr ⟨rfl, fun q => ?_⟩⟩
        rcases q with q | q | q
        · exact z q
        · exact y q
        · exact x q
end
