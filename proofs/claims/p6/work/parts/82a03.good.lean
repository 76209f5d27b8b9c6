def GT (n : Nat) (ow kd : Nat → Nat) (P : Int64 → Prop) (t : Int64) : Prop := (¬ isH t ∧ P t) ∨ (isH t ∧ 0 ≤ va t ∧ vn t < n ∧ ow (vn t) = vn t ∧ (kd (vn t) : Int) = so t)
def HP (h : Nat → Int64) (n : Nat) (ow kd : Nat → Nat) (Fv : Int64 → Int64 → Prop) (P : Int64 → Prop) : Prop :=
  ∀ t, isH t → GT n ow kd P t → ∃ f s, SZ h n ow kd Fv P f t s ∧ (500 < s → so t = 5 ∧ blk h t = 3 ∧ ¬ isH (h (vn t + 1)))
theorem blk_pos {h : Nat → Int64} {t : Int64} (z : isH t) : 0 < blk h t := by
  unfold blk
  rcases z with e | e | e <;> rw [e] <;> simp <;> omega
section
variable {h : Nat → Int64} {n : Nat} {ow kd : Nat → Nat} {Fv : Int64 → Int64 → Prop} {P : Int64 → Prop}
theorem BK_gt {t : Int64} (z : isH t) (b : BK h n ow kd Fv t) : GT n ow kd P t := by
  have hb := blk_pos (h := h) z
  exact Or.inr ⟨z, b.1, by have := b.2.2.2.1; omega, by have := b.2.2.2.2.2 0 hb; exact this, b.2.2.2.2.1⟩
theorem SZ_gt {f : Nat} {t : Int64} {s : Nat} (z : SZ h n ow kd Fv P f t s) : GT n ow kd P t := by
  cases f with
  | zero => exact z.elim
  | succ f =>
    rcases z with ⟨z1, z2, -⟩ | ⟨z1, z2, -⟩
    · exact Or.inl ⟨z1, z2⟩
    · exact BK_gt z1 z2
theorem HP_sz (g : HP h n ow kd Fv P) {t : Int64} (ht : GT n ow kd P t) : ∃ f s, SZ h n ow kd Fv P f t s := by
  by_cases z : isH t
  · obtain ⟨f, s, a, -⟩ := g t z ht; exact ⟨f, s, a⟩
  · rcases ht with ⟨-, b⟩ | ⟨a, -⟩
    · exact ⟨1, 0, Or.inl ⟨z, b, rfl⟩⟩
    · exact absurd a z
theorem HP_bk (g : HP h n ow kd Fv P) {t : Int64} (z : isH t) (ht : GT n ow kd P t) : BK h n ow kd Fv t ∧ ∀ j, prt t ≤ j → j < blk h t → GT n ow kd P (h (vn t + j)) := by
  obtain ⟨f, s, a, -⟩ := g t z ht
  cases f with
  | zero => exact a.elim
  | succ f =>
    rcases a with ⟨a, -⟩ | ⟨-, b, c, d, -⟩
    · exact absurd z a
    · exact ⟨b, fun j h1 h2 => SZ_gt (d j h1 h2)⟩
theorem SZ_all {m : Nat} {q : Nat → Int64} : (∀ j, j < m → ∃ f s, SZ h n ow kd Fv P f (q j) s) → ∃ f, ∃ c : Nat → Nat, ∀ j, j < m → SZ h n ow kd Fv P f (q j) (c j) := by
  induction m with
  | zero => intro _; exact ⟨0, fun _ => 0, fun j hj => absurd hj (Nat.not_lt_zero j)⟩
  | succ m ih =>
    intro H
    obtain ⟨f, c, hc⟩ := ih (fun j hj => H j (by omega))
    obtain ⟨f2, s, hs⟩ := H m (by omega)
    refine ⟨f + f2, fun j => if j = m then s else c j, fun j hj => ?_⟩
    by_cases e : j = m
    · subst e; simp only [if_pos rfl]; exact SZ_le hs (by omega)
    · simp only [if_neg e]; exact SZ_le (hc j (by omega)) (by omega)
theorem HP_new (g : HP h n ow kd Fv P) {h2 : Nat → Int64} {m : Nat} {x : Int64} (hh : ∀ i, i < n → h2 i = h i) (hx : isH x) (h0 : 0 ≤ va x) (hv : vn x = n) (hb : blk h2 x = m)
    (b2 : so x = 5 → HDC (h2 n)) (b3 : so x = 3 → 0 ≤ va (h2 (n + 1)) ∧ Fv (h2 n) (h2 (n + 1)))
    (hp : ∀ j, prt x ≤ j → j < m → GT n ow kd P (h2 (n + j)))
    (hs : (so x = 5 ∧ m = 3 ∧ ¬ isH (h2 (n + 1))) ∨ ∀ f c, (∀ j, prt x ≤ j → j < m → SZ h n ow kd Fv P f (h2 (n + j)) (c j)) → m + smm c (prt x) (m - prt x) ≤ 500) :
    ∃ ow2 kd2, HP h2 (n + m) ow2 kd2 Fv P ∧ GT (n + m) ow2 kd2 P x ∧ (∀ t, GT n ow kd P t → GT (n + m) ow2 kd2 P t) ∧ (∀ f t s, SZ h n ow kd Fv P f t s → SZ h2 (n + m) ow2 kd2 Fv P f t s) ∧ ∃ f s, SZ h2 (n + m) ow2 kd2 Fv P f x s := by
  have mp : 0 < m := by rw [← hb]; exact blk_pos hx
  have ext : ∀ f t s, SZ h n ow kd Fv P f t s → SZ h2 (n + m) (fun i => if n ≤ i then n else ow i) (fun i => if i = n then (so x).toNat else kd i) Fv P f t s := fun f t s z =>
    SZ_ext (by omega) hh (fun i hi => if_neg (by omega)) (fun i hi => if_neg (by omega)) (fun _ _ q => q) (fun _ q => q) z
  have sx : 0 ≤ so x := by rcases hx with e | e | e <;> omega
  have gx : GT (n + m) (fun i => if n ≤ i then n else ow i) (fun i => if i = n then (so x).toNat else kd i) P x :=
    Or.inr ⟨hx, h0, by omega, by rw [hv]; simp, by rw [hv]; simp; omega⟩
  have bx : BK h2 (n + m) (fun i => if n ≤ i then n else ow i) (fun i => if i = n then (so x).toNat else kd i) Fv x := by
    refine ⟨h0, by rw [hv]; exact b2, by rw [hv]; exact b3, by rw [hv, hb]; exact Nat.le_refl _, by rw [hv]; simp; omega, fun j _ => ?_⟩
    rw [hv]; exact if_pos (by omega)
  obtain ⟨f0, c0, hc0⟩ := SZ_all (h := h) (n := n) (ow := ow) (kd := kd) (Fv := Fv) (P := P) (m := m - prt x) (q := fun j => h2 (n + (prt x + j))) (fun j hj => HP_sz g (hp (prt x + j) (by omega) (by omega)))
  have hc1 : ∀ j, prt x ≤ j → j < m → SZ h n ow kd Fv P f0 (h2 (n + j)) (c0 (j - prt x)) := fun j h1 h2' => by
    have := hc0 (j - prt x) (by omega)
    rw [show prt x + (j - prt x) = j from by omega] at this
    exact this
  have szx : SZ h2 (n + m) (fun i => if n ≤ i then n else ow i) (fun i => if i = n then (so x).toNat else kd i) Fv P (f0 + 1) x (m + smm (fun j => c0 (j - prt x)) (prt x) (m - prt x)) :=
    Or.inr ⟨hx, bx, fun j => c0 (j - prt x), by rw [hb, hv]; exact fun j h1 h2' => ext _ _ _ (hc1 j h1 h2'), by rw [hb]⟩
  refine ⟨_, _, ?_, gx, ?_, ext, _, _, szx⟩
  · intro t ht hg
    rcases hg with ⟨z, -⟩ | ⟨-, g1, g2, g3, g4⟩
    · exact absurd ht z
    by_cases e : vn t < n
    · have e1 : ow (vn t) = vn t := by have := g3; simp only [if_neg (show ¬ n ≤ vn t by omega)] at this; exact this
      have e2 : (kd (vn t) : Int) = so t := by have := g4; simp only [if_neg (show ¬ vn t = n by omega)] at this; exact this
      obtain ⟨f, s, z1, z2⟩ := g t ht (Or.inr ⟨ht, g1, e, e1, e2⟩)
      refine ⟨f, s, ext _ _ _ z1, fun hs5 => ?_⟩
      obtain ⟨q1, q2, q3⟩ := z2 hs5
      have bkt := (HP_bk g ht (Or.inr ⟨ht, g1, e, e1, e2⟩)).1
      have r1 : blk h2 t = 3 := by
        have q2' := q2
        unfold blk at q2' ⊢
        rw [q1] at q2' ⊢
        simp at q2' ⊢
        rw [hh _ e]; exact q2'
      have : vn t + 3 ≤ n := by have := bkt.2.2.2.1; omega
      exact ⟨q1, r1, by rw [hh _ (by omega)]; exact q3⟩
    · have e1 : vn t = n := by have := g3; simp only [if_pos (show n ≤ vn t by omega)] at this; exact this.symm
      have e2 : so t = so x := by have := g4; simp only [if_pos e1] at this; omega
      have eb : blk h2 t = m := by rw [← hb]; unfold blk; rw [e2, e1, hv]
      have ep : prt t = prt x := by unfold prt; rw [e2]
      have sz2 : SZ h2 (n + m) (fun i => if n ≤ i then n else ow i) (fun i => if i = n then (so x).toNat else kd i) Fv P (f0 + 1) t (m + smm (fun j => c0 (j - prt x)) (prt x) (m - prt x)) := by
        refine Or.inr ⟨ht, ⟨g1, ?_, ?_, ?_, g4, ?_⟩, fun j => c0 (j - prt x), ?_, ?_⟩
        · rw [e1, e2]; exact b2
        · rw [e1, e2]; exact b3
        · rw [eb, e1]; exact Nat.le_refl _
        · intro j _; rw [e1]; exact if_pos (by omega)
        · rw [eb, e1, ep]; exact fun j h1 h2' => ext _ _ _ (hc1 j h1 h2')
        · rw [eb, ep]
      refine ⟨_, _, sz2, fun h5 => ?_⟩
      rcases hs with ⟨s1, s2, s3⟩ | hs
      · exact ⟨by rw [e2]; exact s1, by rw [eb]; exact s2, by rw [e1]; exact s3⟩
      · have := hs f0 _ hc1; omega
  · intro t ht
    rcases ht with z | ⟨z1, z2, z3, z4, z5⟩
    · exact Or.inl z
    · refine Or.inr ⟨z1, z2, by omega, ?_, ?_⟩
      · show (if n ≤ vn t then n else ow (vn t)) = vn t
        rw [if_neg (by omega)]; exact z4
      · show ((if vn t = n then (so x).toNat else kd (vn t) : Nat) : Int) = so t
        rw [if_neg (by omega)]; exact z5
end
