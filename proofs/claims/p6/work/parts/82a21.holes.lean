section
variable {h : Nat → Int64} {n : Nat} {ow kd : Nat → Nat} {Fv : Int64 → Int64 → Prop} {P : Int64 → Prop}
theorem SZ_own {h2 : Nat → Int64} {n2 : Nat} {ow2 kd2 : Nat → Nat} {Fv2 : Int64 → Int64 → Prop} {P2 : Int64 → Prop} (hn : n ≤ n2) (hh : ∀ i, i < n → ow i ≤ i → h2 i = h i) (ho : ∀ i, i < n → ow i ≤ i → ow2 i = ow i) (hk : ∀ i, i < n → ow i ≤ i → kd2 i = kd i) (hF : ∀ a b, Fv a b → Fv2 a b) (hP : ∀ t, P t → P2 t) : ∀ {f : Nat} {t : Int64} {s : Nat}, SZ h n ow kd Fv P f t s → SZ h2 n2 ow2 kd2 Fv2 P2 f t s
  | 0, _, _, z => z.elim
  | f + 1, t, s, z => by
    rcases z with ⟨z1, z2, z3⟩ | ⟨z1, ⟨b1, b2, b3, b4, b5, b6⟩, c, z3, z4⟩
    · exact Or.inl ⟨z1, hP t z2, z3⟩
    · have hb := blk_pos (h := h) z1
      have o0 : ow (vn t) = vn t := b6 0 hb
      have e0 : h2 (vn t) = h (vn t) := hh _ (by omega) (by omega)
      have e1 : so t = 3 → h2 (vn t + 1) = h (vn t + 1) := fun e => by
        have := blk_2 (h := h) e
        have := b6 1 (by omega)
        exact hh _ (by omega) (by omega)
      have eb : blk h2 t = blk h t := by
        unfold blk
        rw [e0]
        by_cases e : so t = 3
        · rw [e1 e]
        · simp [e]
      refine Or.inr ⟨z1, ⟨b1, fun e => by rw [e0]; exact b2 e, fun e => ?_, by omega, ?_, ?_⟩, c, ?_, ?_⟩
      · rw [e0, e1 e]; exact ⟨(b3 e).1, hF _ _ (b3 e).2⟩
      · rw [hk _ (by omega) (by omega)]; exact b5
      · rw [eb]; intro j hj; have := b6 j hj; rw [ho _ (by omega) (by omega)]; exact this
      · rw [eb]; intro j a b; have := b6 j b; rw [hh _ (by omega) (by omega)]; exact SZ_own hn hh ho hk hF hP (z3 j a b)
      · rw [eb]; exact z4
theorem HP_own {h2 : Nat → Int64} {n2 : Nat} {ow2 kd2 : Nat → Nat} (g : HP h n ow kd Fv P) (hn : n ≤ n2) (hh : ∀ i, i < n → ow i ≤ i → h2 i = h i) (ho : ∀ i, i < n → ow i ≤ i → ow2 i = ow i) (hk : ∀ i, i < n → ow i ≤ i → kd2 i = kd i) (hx : ∀ i, i < n2 → ow2 i = i → i < n ∧ ow i = i) : HP h2 n2 ow2 kd2 Fv P := by
  intro t ht gt
  rcases gt with ⟨z, -⟩ | ⟨-, g1, g2, g3, g4⟩
  · exact absurd ht z
  obtain ⟨q1, q2⟩ := hx _ g2 g3
  have gt0 : GT n ow kd P t := Or.inr ⟨ht, g1, q1, q2, by rw [← hk _ q1 (by omega)]; exact g4⟩
  obtain ⟨f, s, z1, z2⟩ := g t ht gt0
  refine ⟨f, s, SZ_own hn hh ho hk (fun _ _ q => q) (fun _ q => q) z1, fun h5 => ?_⟩
  obtain ⟨r1, r2, r3⟩ := z2 h5
  have b := (HP_bk g ht gt0).1
  have b6 := b.2.2.2.2.2
  have b4 := b.2.2.2.1
  have o1 := b6 1 (by omega)
  refine ⟨r1, ?_, by rw [hh _ (by omega) (by omega)]; exact r3⟩
  have q2' := r2
  unfold blk at q2' ⊢
  rw [r1] at q2' ⊢
  simp at q2' ⊢
  rw [hh _ q1 (by omega)]; exact q2'
theorem GT_own {n2 : Nat} {ow2 kd2 : Nat → Nat} {t : Int64} (gt : GT n ow kd P t) (hn : n ≤ n2) (ho : ∀ i, i < n → ow i ≤ i → ow2 i = ow i) (hk : ∀ i, i < n → ow i ≤ i → kd2 i = kd i) : GT n2 ow2 kd2 P t := by
  rcases gt with z | ⟨z1, z2, z3, z4, z5⟩
  · exact Or.inl z
  · exact Or.inr ⟨z1, z2, by omega, by rw [ho _ z3 (by omega)]; exact z4, by rw [hk _ z3 (by omega)]; exact z5⟩
def owH (n : Nat) (ow : Nat → Nat) : Nat → Nat := fun i => if n ≤ i then i + 1 else ow i
theorem HP_hole {h2 : Nat → Int64} (m : Nat) (g : HP h n ow kd Fv P) (hh : ∀ i, i < n → h2 i = h i) : HP h2 (n + m) (owH n ow) kd Fv P :=
  HP_own g (by omega) (fun i hi _ => hh i hi) (fun i hi _ => if_neg (by omega)) (fun _ _ _ => rfl) (fun i hi e => by
    unfold owH at e
    by_cases q : n ≤ i
    · rw [if_pos q] at e; omega
    · rw [if_neg q] at e; exact ⟨by omega, e⟩)
theorem GT_hole {t : Int64} (m : Nat) (gt : GT n ow kd P t) : GT (n + m) (owH n ow) kd P t := GT_own gt (by omega) (fun i hi _ => if_neg (by omega)) (fun _ _ _ => rfl)
theorem SZ_hole {h2 : Nat → Int64} {f : Nat} {t : Int64} {s : Nat} (m : Nat) (hh : ∀ i, i < n → h2 i = h i) (z : SZ h n ow kd Fv P f t s) : SZ h2 (n + m) (owH n ow) kd Fv P f t s := SZ_own (by omega) (fun i hi _ => hh i hi) (fun i hi _ => if_neg (by omega)) (fun _ _ _ => rfl) (fun _ _ q => q) (fun _ q => q) z
theorem HP_put (g : HP h n ow kd Fv P) {h2 : Nat → Int64} {m k : Nat} {x : Int64} (hh : ∀ i, ¬ (k ≤ i ∧ i < k + m) → h2 i = h i) (hkm : k + m ≤ n) (hno : ∀ j, j < m → k + j < ow (k + j)) (hx : isH x) (h0 : 0 ≤ va x) (hv : vn x = k) (hb : blk h2 x = m)
    (b2 : so x = 5 → HDC (h2 k)) (b3 : so x = 3 → 0 ≤ va (h2 (k + 1)) ∧ Fv (h2 k) (h2 (k + 1)))
    (hp : ∀ j, prt x ≤ j → j < m → GT n ow kd P (h2 (k + j)))
    (hs : (so x = 5 ∧ m = 3 ∧ ¬ isH (h2 (k + 1))) ∨ ∀ f c, (∀ j, prt x ≤ j → j < m → SZ h n ow kd Fv P f (h2 (k + j)) (c j)) → m + smm c (prt x) (m - prt x) ≤ 500) :
    ∃ ow2 kd2, (∀ i, i < n → ow i ≤ i → ow2 i = ow i) ∧ (∀ i, i < n → ow i ≤ i → kd2 i = kd i) ∧ (∀ i, ¬ (k ≤ i ∧ i < k + m) → ow2 i = ow i) ∧ HP h2 n ow2 kd2 Fv P ∧ GT n ow2 kd2 P x ∧ (∀ f t s, SZ h n ow kd Fv P f t s → SZ h2 n ow2 kd2 Fv P f t s) ∧ ∀ f c, (∀ j, prt x ≤ j → j < m → SZ h n ow kd Fv P f (h2 (k + j)) (c j)) → SZ h2 n ow2 kd2 Fv P (f + 1) x (m + smm c (prt x) (m - prt x)) := by
  have mp : 0 < m := by rw [← hb]; exact blk_pos hx
  have sx : 0 ≤ so x := by rcases hx with e | e | e <;> omega
  have out : ∀ i, i < n → ow i ≤ i → ¬ (k ≤ i ∧ i < k + m) := fun i _ q z => by
    have := hno (i - k) (by omega)
    rw [show k + (i - k) = i from by omega] at this
    omega
  have ho : ∀ i, i < n → ow i ≤ i → (fun i => if k ≤ i ∧ i < k + m then k else ow i) i = ow i := fun i a b => if_neg (out i a b)
  have hk : ∀ i, i < n → ow i ≤ i → (fun i => if i = k then (so x).toNat else kd i) i = kd i := fun i a b => if_neg (fun z => out i a b (by omega))
  have ext : ∀ f t s, SZ h n ow kd Fv P f t s → SZ h2 n (fun i => if k ≤ i ∧ i < k + m then k else ow i) (fun i => if i = k then (so x).toNat else kd i) Fv P f t s := fun f t s z =>
    SZ_own (Nat.le_refl _) (fun i a b => hh i (out i a b)) ho hk (fun _ _ q => q) (fun _ q => q) z
  have bkt : ∀ t : Int64, isH t → 0 ≤ va t → vn t = k → so t = so x → BK h2 n (fun i => if k ≤ i ∧ i < k + m then k else ow i) (fun i => if i = k then (so x).toNat else kd i) Fv t ∧ blk h2 t = m ∧ prt t = prt x := fun t _ t0 tv ts => by
    have eb : blk h2 t = m := by rw [← hb]; unfold blk; rw [ts, tv, hv]
    refine ⟨⟨t0, by rw [tv, ts]; exact b2, by rw [tv, ts]; exact b3, by rw [eb, tv]; exact hkm, ?_, ?_⟩, eb, prt_so ts⟩
    · show ((if vn t = k then (so x).toNat else kd (vn t) : Nat) : Int) = so t
      rw [if_pos tv, ts]; omega
    · rw [eb]
      intro j hj
      show (if k ≤ vn t + j ∧ vn t + j < k + m then k else _) = vn t
      rw [if_pos (by omega), tv]
  have szx : ∀ t : Int64, isH t → 0 ≤ va t → vn t = k → so t = so x → ∀ f c, (∀ j, prt x ≤ j → j < m → SZ h n ow kd Fv P f (h2 (k + j)) (c j)) → SZ h2 n (fun i => if k ≤ i ∧ i < k + m then k else ow i) (fun i => if i = k then (so x).toNat else kd i) Fv P (f + 1) t (m + smm c (prt x) (m - prt x)) := fun t th t0 tv ts f c hc => by
    obtain ⟨q1, q2, q3⟩ := bkt t th t0 tv ts
    exact Or.inr ⟨th, q1, c, by rw [q2, q3, tv]; exact fun j a b => ext _ _ _ (hc j a b), by rw [q2, q3]⟩
  obtain ⟨f0, c0, hc0⟩ := SZ_all (h := h) (n := n) (ow := ow) (kd := kd) (Fv := Fv) (P := P) (m := m - prt x) (q := fun j => h2 (k + (prt x + j))) (fun j hj => HP_sz g (hp (prt x + j) (by omega) (by omega)))
  have hc1 : ∀ j, prt x ≤ j → j < m → SZ h n ow kd Fv P f0 (h2 (k + j)) ((fun j => c0 (j - prt x)) j) := fun j h1 h2' => by
    have := hc0 (j - prt x) (by omega)
    rw [show prt x + (j - prt x) = j from by omega] at this
    exact this
  refine ⟨_, _, ho, hk, fun i hi => if_neg hi, ?_, BK_gt hx (bkt x hx h0 hv rfl).1, ext, szx x hx h0 hv rfl⟩
  intro t ht gt
  rcases gt with ⟨z, -⟩ | ⟨-, g1, g2, g3, g4⟩
  · exact absurd ht z
  by_cases e : vn t = k
  · have e2 : so t = so x := by
      have := g4
      simp only [if_pos e] at this
      omega
    have sz2 := szx t ht g1 e e2 f0 _ hc1
    obtain ⟨q1, q2, q3⟩ := bkt t ht g1 e e2
    refine ⟨_, _, sz2, fun h5 => ?_⟩
    rcases hs with ⟨s1, s2, s3⟩ | hs
    · exact ⟨by rw [e2]; exact s1, by rw [q2]; exact s2, by rw [e]; exact s3⟩
    · have := hs f0 _ hc1; omega
  · have e1 : ow (vn t) = vn t := by
      have := g3
      by_cases q : k ≤ vn t ∧ vn t < k + m
      · simp only [if_pos q] at this; omega
      · simp only [if_neg q] at this; exact this
    have e2 : (kd (vn t) : Int) = so t := by have := g4; simp only [if_neg e] at this; exact this
    have gt0 : GT n ow kd P t := Or.inr ⟨ht, g1, g2, e1, e2⟩
    obtain ⟨f, s, z1, z2⟩ := g t ht gt0
    refine ⟨f, s, ext _ _ _ z1, fun h5 => ?_⟩
    obtain ⟨r1, r2, r3⟩ := z2 h5
    have b := (HP_bk g ht gt0).1
    have b6 := b.2.2.2.2.2
    have b4 := b.2.2.2.1
    have o1 := b6 1 (by omega)
    refine ⟨r1, ?_, by rw [hh _ (out _ (by omega) (by omega))]; exact r3⟩
    have q2' := r2
    unfold blk at q2' ⊢
    rw [r1] at q2' ⊢
    simp at q2' ⊢
    rw [hh _ (out _ g2 (by omega))]; exact q2'
end
