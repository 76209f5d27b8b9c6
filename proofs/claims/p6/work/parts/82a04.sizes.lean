def cnt (S : Nat → Prop) [DecidablePred S] (ow : Nat → Nat) : Nat → Nat
  | 0 => 0
  | m + 1 => cnt S ow m + (if S (ow m) then 1 else 0)
theorem cnt_le {S : Nat → Prop} [DecidablePred S] {ow : Nat → Nat} : ∀ m, cnt S ow m ≤ m
  | 0 => Nat.le_refl _
  | m + 1 => by
    show cnt S ow m + _ ≤ m + 1
    have := cnt_le (S := S) (ow := ow) m
    split <;> omega
theorem cnt_add {S S2 : Nat → Prop} [DecidablePred S] [DecidablePred S2] {ow : Nat → Nat} {k b : Nat} (h1 : ∀ j, j < b → ow (k + j) = k) (hS : ¬ S k) (h2 : ∀ i, S2 i ↔ S i ∨ i = k) : ∀ m, k + b ≤ m → cnt S ow m + b ≤ cnt S2 ow m := by
  have a0 : ∀ m, cnt S ow m ≤ cnt S2 ow m := by
    intro m
    induction m with
    | zero => exact Nat.le_refl _
    | succ m ih =>
      show cnt S ow m + _ ≤ cnt S2 ow m + _
      by_cases e : S (ow m)
      · rw [if_pos e, if_pos ((h2 _).mpr (Or.inl e))]; omega
      · rw [if_neg e]; omega
  have a1 : ∀ j, j ≤ b → cnt S ow (k + j) + j ≤ cnt S2 ow (k + j) := by
    intro j
    induction j with
    | zero => intro _; exact a0 k
    | succ j ih =>
      intro hj
      have e := h1 j (by omega)
      show cnt S ow (k + j) + (if S (ow (k + j)) then 1 else 0) + (j + 1) ≤ cnt S2 ow (k + j) + (if S2 (ow (k + j)) then 1 else 0)
      rw [e, if_neg hS, if_pos ((h2 k).mpr (Or.inr rfl))]
      have := ih (by omega)
      omega
  intro m hm
  obtain ⟨d, rfl⟩ : ∃ d, m = k + b + d := ⟨m - (k + b), by omega⟩
  clear hm
  induction d with
  | zero => exact a1 b (Nat.le_refl _)
  | succ d ih =>
    show cnt S ow (k + b + d) + (if S (ow (k + b + d)) then 1 else 0) + b ≤ cnt S2 ow (k + b + d) + (if S2 (ow (k + b + d)) then 1 else 0)
    by_cases e : S (ow (k + b + d))
    · rw [if_pos e, if_pos ((h2 _).mpr (Or.inl e))]; omega
    · rw [if_neg e]; omega
section
variable {h : Nat → Int64} {n : Nat} {ow kd : Nat → Nat} {Fv : Int64 → Int64 → Prop} {P : Int64 → Prop}
theorem SZ_same {f : Nat} {t x : Int64} {s : Nat} (e1 : so t = so x) (e2 : va t = va x) (ht : isH x) (z : SZ h n ow kd Fv P f x s) : SZ h n ow kd Fv P f t s := by
  cases f with
  | zero => exact z.elim
  | succ f =>
    have ev : vn t = vn x := by unfold vn; rw [e2]
    have eb : blk h t = blk h x := by unfold blk; rw [e1, ev]
    have ep : prt t = prt x := by unfold prt; rw [e1]
    rcases z with ⟨z1, -⟩ | ⟨z1, z2, c, z3, z4⟩
    · exact absurd ht z1
    · refine Or.inr ⟨by unfold isH; rw [e1]; exact z1, ?_, c, by rw [ep, eb, ev]; exact z3, by rw [eb, ep]; exact z4⟩
      unfold BK
      rw [e1, e2, ev, eb]
      exact z2
theorem SZ_big (g : HP h n ow kd Fv P) : ∀ (s : Nat) (f : Nat) (t : Int64), SZ h n ow kd Fv P f t s → 500 < s → ∃ S : Nat → Prop, ∃ _ : DecidablePred S, s ≤ 500 + cnt S ow n ∧ ∀ k, S k → ∃ f2 s2, ∃ x : Int64, isH x ∧ vn x = k ∧ SZ h n ow kd Fv P f2 x s2 ∧ s2 ≤ s := by
  intro s
  induction s using Nat.strongRecOn with
  | _ s ih =>
    intro f t z hs
    have ht : isH t := Classical.byContradiction (fun c => by
      cases f with
      | zero => exact z
      | succ f =>
        rcases z with ⟨-, -, z3⟩ | ⟨z1, -⟩
        · omega
        · exact c z1)
    have gt := SZ_gt z
    obtain ⟨f1, s1, y1, y2⟩ := g t ht gt
    have es := SZ_fun z y1
    subst es
    obtain ⟨q1, q2, q3⟩ := y2 hs
    obtain ⟨b, -⟩ := HP_bk g ht gt
    have bo := b.2.2.2.2.2
    have bn := b.2.2.2.1
    cases f with
    | zero => exact z.elim
    | succ f =>
      rcases z with ⟨z1, -⟩ | ⟨z1, z2, c, z3, z4⟩
      · exact absurd ht z1
      have ep : prt t = 1 := by unfold prt; rw [q1]; rfl
      rw [q2, ep] at z3 z4
      have c1 : c 1 = 0 := by
        have := z3 1 (by omega) (by omega)
        cases f with
        | zero => exact this.elim
        | succ f =>
          rcases this with ⟨-, -, w⟩ | ⟨w, -⟩
          · exact w
          · exact absurd w q3
      have e2 : s = 3 + c 2 := by rw [z4]; show 3 + (0 + c (1 + 0) + c (1 + 1)) = _; rw [show c (1 + 0) = 0 from c1]; show 3 + (0 + 0 + c 2) = _; omega
      have z2' := z3 2 (by omega) (by omega)
      by_cases hc : 500 < c 2
      · obtain ⟨S, dS, i1, i2⟩ := ih (c 2) (by omega) f _ z2' hc
        have nS : ¬ S (vn t) := fun w => by
          obtain ⟨f2, s2, x, x1, x2, x3, x4⟩ := i2 _ w
          have gx := SZ_gt x3
          have tx : so t = so x := by
            rcases gx with ⟨w1, -⟩ | ⟨-, -, -, -, w5⟩
            · exact absurd x1 w1
            · rw [← w5, x2]; exact b.2.2.2.2.1.symm
          have vx : va t = va x := by
            have p1 := b.1
            have p2 : 0 ≤ va x := by
              rcases gx with ⟨w1, -⟩ | ⟨-, w2, -⟩
              · exact absurd x1 w1
              · exact w2
            unfold vn at x2
            omega
          have := SZ_fun (SZ_same tx vx x1 x3) y1
          omega
        refine ⟨fun k => S k ∨ k = vn t, fun k => inferInstance, ?_, ?_⟩
        · have := cnt_add (S := S) (S2 := fun k => S k ∨ k = vn t) (ow := ow) (k := vn t) (b := 3) (fun j hj => bo j (by omega)) nS (fun i => Iff.rfl) n (by omega)
          omega
        · rintro k (w | w)
          · obtain ⟨f2, s2, x, x1, x2, x3, x4⟩ := i2 k w
            exact ⟨f2, s2, x, x1, x2, x3, by omega⟩
          · exact ⟨_, _, t, ht, w.symm, y1, Nat.le_refl _⟩
      · refine ⟨fun k => k = vn t, fun k => inferInstance, ?_, ?_⟩
        · have := cnt_add (S := fun _ => False) (S2 := fun k => k = vn t) (ow := ow) (k := vn t) (b := 3) (fun j hj => bo j (by omega)) (fun w => w) (fun i => by simp) n (by omega)
          omega
        · rintro k w
          exact ⟨_, _, t, ht, w.symm, y1, Nat.le_refl _⟩
theorem SZ_1000 (g : HP h n ow kd Fv P) (hn : n ≤ 500) {f : Nat} {t : Int64} {s : Nat} (z : SZ h n ow kd Fv P f t s) : s ≤ 1000 := by
  by_cases hs : 500 < s
  · obtain ⟨S, dS, a, -⟩ := SZ_big g s f t z hs
    have := cnt_le (S := S) (ow := ow) n
    omega
  · omega
theorem SZ_gc {h2 : Nat → Int64} {n2 : Nat} {ow2 kd2 : Nat → Nat} {fw : Int64 → Int64} {R : Int64 → Prop} (h0 : ∀ t, ¬ isH t → fw t = t)
    (h1 : ∀ t, isH t → R t → BK h n ow kd Fv t → isH (fw t) ∧ prt (fw t) = prt t ∧ BK h2 n2 ow2 kd2 Fv (fw t) ∧ blk h2 (fw t) = blk h t ∧ ∀ j, prt t ≤ j → j < blk h t → h2 (vn (fw t) + j) = fw (h (vn t + j)) ∧ (isH (h (vn t + j)) → R (h (vn t + j)))) :
    ∀ {f : Nat} {t : Int64} {s : Nat}, SZ h n ow kd Fv P f t s → (isH t → R t) → SZ h2 n2 ow2 kd2 Fv P f (fw t) s
  | 0, _, _, z, _ => z.elim
  | f + 1, t, s, z, r => by
    rcases z with ⟨z1, z2, z3⟩ | ⟨z1, z2, c, z3, z4⟩
    · rw [h0 t z1]; exact Or.inl ⟨z1, z2, z3⟩
    · obtain ⟨a1, a2, a3, a4, a5⟩ := h1 t z1 (r z1) z2
      refine Or.inr ⟨a1, a3, c, ?_, ?_⟩
      · rw [a2, a4]
        intro j p1 p2
        obtain ⟨e1, e2⟩ := a5 j p1 p2
        rw [e1]
        exact SZ_gc h0 h1 (z3 j p1 p2) e2
      · rw [a2, a4]; exact z4
end
