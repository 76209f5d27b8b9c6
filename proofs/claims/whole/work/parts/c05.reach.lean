/-! what can be reached from some terms -/
set_option maxRecDepth 100000
def CLOr (h : Nat → Int64) (n : Nat) (ow kd : Nat → Nat) (P : Int64 → Prop) (S : Nat → Prop) : Prop := ∀ t, isH t → GT n ow kd P t → S (vn t) → ∀ j, prt t ≤ j → j < blk h t → isH (h (vn t + j)) → S (vn (h (vn t + j)))
def RCH (h : Nat → Int64) (n : Nat) (ow kd : Nat → Nat) (P : Int64 → Prop) (T : Int64 → Prop) (a : Nat) : Prop := ∀ S : Nat → Prop, (∀ t, isH t → T t → S (vn t)) → CLOr h n ow kd P S → S a
/-- only blocks that can be reached are good -/
noncomputable def owR (h : Nat → Int64) (n : Nat) (ow kd : Nat → Nat) (P : Int64 → Prop) (T : Int64 → Prop) (i : Nat) : Nat := @ite Nat (RCH h n ow kd P T (ow i)) (Classical.propDecidable _) (ow i) (i + 1)
section
variable {h : Nat → Int64} {n : Nat} {ow kd : Nat → Nat} {Fv : Int64 → Int64 → Prop} {P T : Int64 → Prop} {t : Int64}
theorem rch_root (z : isH t) (r : T t) : RCH h n ow kd P T (vn t) := fun _ s1 _ => s1 t z r
theorem rch_clo : CLOr h n ow kd P (RCH h n ow kd P T) := fun t z g r j h1 h2 y S s1 s2 => s2 t z g (r S s1 s2) j h1 h2 y
theorem owR_y {i : Nat} (r : RCH h n ow kd P T (ow i)) : owR h n ow kd P T i = ow i := by
  unfold owR
  exact if_pos r
theorem owR_n {i : Nat} (r : ¬ RCH h n ow kd P T (ow i)) : owR h n ow kd P T i = i + 1 := by
  unfold owR
  exact if_neg r
theorem GT_R (g : GT n (owR h n ow kd P T) kd P t) : GT n ow kd P t ∧ (isH t → RCH h n ow kd P T (vn t)) := by
  rcases g with z | ⟨z1, z2, z3, z4, z5⟩
  · exact ⟨Or.inl z, fun y => absurd y z.1⟩
  · by_cases r : RCH h n ow kd P T (ow (vn t))
    · rw [owR_y r] at z4
      rw [z4] at r
      exact ⟨Or.inr ⟨z1, z2, z3, z4, z5⟩, fun _ => r⟩
    · rw [owR_n r] at z4
      omega
theorem GT_R2 (g : GT n ow kd P t) (r : isH t → RCH h n ow kd P T (vn t)) : GT n (owR h n ow kd P T) kd P t := by
  rcases g with z | ⟨z1, z2, z3, z4, z5⟩
  · exact Or.inl z
  · refine Or.inr ⟨z1, z2, z3, ?_, z5⟩
    rw [owR_y (by rw [z4]; exact r z1)]
    exact z4
theorem SZc_R : ∀ {f : Nat} {t : Int64} {s : Nat}, SZc h n ow kd Fv P f t s → (isH t → RCH h n ow kd P T (vn t)) → SZc h n (owR h n ow kd P T) kd Fv P f t s
  | 0, _, _, z, _ => z.elim
  | f + 1, t, s, z, r => by
    have gt := SZ_gtc z
    rcases z with z | ⟨z1, ⟨b1, b2, b3, b4, b5, b6⟩, c, z3, z4⟩
    · exact Or.inl z
    · have r1 := r z1
      refine Or.inr ⟨z1, ⟨b1, b2, b3, b4, b5, fun j hj => ?_⟩, c, fun j h1 h2 => SZc_R (z3 j h1 h2) (fun y => rch_clo t z1 gt r1 j h1 h2 y), z4⟩
      have e := b6 j hj
      rw [owR_y (by rw [e]; exact r1)]
      exact e
theorem SZ_R : ∀ {f : Nat} {t : Int64} {s : Nat}, SZ h n ow kd Fv P f t s → (isH t → RCH h n ow kd P T (vn t)) → SZ h n (owR h n ow kd P T) kd Fv P f t s
  | 0, _, _, z, _ => z.elim
  | f + 1, t, s, z, r => by
    have gt := SZ_gt z
    rcases z with z | ⟨z1, ⟨b1, b2, b3, b4, b5, b6⟩, c, z3, z4⟩
    · exact Or.inl z
    · have r1 := r z1
      refine Or.inr ⟨z1, ⟨b1, b2, b3, b4, b5, fun j hj => ?_⟩, c, fun j h1 h2 => SZ_R (z3 j h1 h2) (fun y => rch_clo t z1 gt r1 j h1 h2 y), z4⟩
      have e := b6 j hj
      rw [owR_y (by rw [e]; exact r1)]
      exact e
theorem HPc_R (g : HPc h n ow kd Fv P) : HPc h n (owR h n ow kd P T) kd Fv P := fun t z gt => by
  obtain ⟨g1, g2⟩ := GT_R gt
  obtain ⟨f, s, a, b⟩ := g t z g1
  exact ⟨f, s, SZc_R a g2, b⟩
theorem HP_R (g : HP h n ow kd Fv P) : HP h n (owR h n ow kd P T) kd Fv P := fun t z gt => by
  obtain ⟨g1, g2⟩ := GT_R gt
  obtain ⟨f, s, a, b⟩ := g t z g1
  exact ⟨f, s, SZ_R a g2, b⟩
end
