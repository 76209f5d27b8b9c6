def HDCc (c : Int64) : Prop := 0 ≤ va c ∧ so c = 8
def BKc (h : Nat → Int64) (n : Nat) (ow kd : Nat → Nat) (Fv : Int64 → Int64 → Prop) (t : Int64) : Prop :=
  0 ≤ va t ∧ (so t = 5 → HDCc (h (vn t))) ∧ (so t = 3 → 0 ≤ va (h (vn t + 1)) ∧ Fv (h (vn t)) (h (vn t + 1))) ∧ vn t + blk h t ≤ n ∧ (kd (vn t) : Int) = so t ∧ ∀ j, j < blk h t → ow (vn t + j) = vn t
def SZc (h : Nat → Int64) (n : Nat) (ow kd : Nat → Nat) (Fv : Int64 → Int64 → Prop) (P : Int64 → Prop) : Nat → Int64 → Nat → Prop
  | 0, _, _ => False
  | f + 1, t, s => (¬ isH t ∧ P t ∧ s = 0) ∨ (isH t ∧ BKc h n ow kd Fv t ∧ ∃ c : Nat → Nat, (∀ j, prt t ≤ j → j < blk h t → SZc h n ow kd Fv P f (h (vn t + j)) (c j)) ∧ s = blk h t + smm c (prt t) (blk h t - prt t))
section
variable {h : Nat → Int64} {n : Nat} {ow kd : Nat → Nat} {Fv : Int64 → Int64 → Prop} {P : Int64 → Prop}
theorem SZ_monoc : ∀ {f : Nat} {t : Int64} {s : Nat}, SZc h n ow kd Fv P f t s → SZc h n ow kd Fv P (f + 1) t s
  | 0, _, _, z => z.elim
  | f + 1, t, s, z => by
    rcases z with z | ⟨z1, z2, c, z3, z4⟩
    · exact Or.inl z
    · exact Or.inr ⟨z1, z2, c, fun j a b => SZ_monoc (z3 j a b), z4⟩
theorem SZ_lec {f g : Nat} {t : Int64} {s : Nat} (hz : SZc h n ow kd Fv P f t s) (hl : f ≤ g) : SZc h n ow kd Fv P g t s := by
  induction hl with
  | refl => exact hz
  | step _ ih => exact SZ_monoc ih
theorem SZ_func : ∀ {f g : Nat} {t : Int64} {s r : Nat}, SZc h n ow kd Fv P f t s → SZc h n ow kd Fv P g t r → s = r
  | 0, _, _, _, _, z, _ => z.elim
  | _ + 1, 0, _, _, _, _, z => z.elim
  | f + 1, g + 1, t, s, r, z, y => by
    rcases z with ⟨z1, -, z3⟩ | ⟨z1, -, c, z3, z4⟩
    · rcases y with ⟨-, -, y3⟩ | ⟨y1, -⟩
      · rw [z3, y3]
      · exact absurd y1 z1
    · rcases y with ⟨y1, -⟩ | ⟨-, -, d, y3, y4⟩
      · exact absurd z1 y1
      · rw [z4, y4, smm_eq (d := d) (fun j a b => SZ_func (z3 j a (by have := prt_le (h := h) z1; omega)) (y3 j a (by have := prt_le (h := h) z1; omega)))]
theorem SZ_extc {h2 : Nat → Int64} {n2 : Nat} {ow2 kd2 : Nat → Nat} {Fv2 : Int64 → Int64 → Prop} {P2 : Int64 → Prop} (hn : n ≤ n2) (hh : ∀ i, i < n → h2 i = h i) (ho : ∀ i, i < n → ow2 i = ow i) (hk : ∀ i, i < n → kd2 i = kd i) (hF : ∀ a b, Fv a b → Fv2 a b) (hP : ∀ t, P t → P2 t) : ∀ {f : Nat} {t : Int64} {s : Nat}, SZc h n ow kd Fv P f t s → SZc h2 n2 ow2 kd2 Fv2 P2 f t s
  | 0, _, _, z => z.elim
  | f + 1, t, s, z => by
    rcases z with ⟨z1, z2, z3⟩ | ⟨z1, ⟨b1, b2, b3, b4, b5, b6⟩, c, z3, z4⟩
    · exact Or.inl ⟨z1, hP t z2, z3⟩
    · have hb : 0 < blk h t := by
        unfold blk
        rcases z1 with e | e | e <;> rw [e] <;> simp <;> omega
      have e0 : h2 (vn t) = h (vn t) := hh _ (by omega)
      have hb2 : so t = 3 → 2 ≤ blk h t := fun e => by unfold blk; rw [e]; simp
      have e1 : so t = 3 → h2 (vn t + 1) = h (vn t + 1) := fun e => hh _ (by have := hb2 e; omega)
      have eb : blk h2 t = blk h t := by
        unfold blk
        rw [e0]
        by_cases e : so t = 3
        · rw [e1 e]
        · simp [e]
      refine Or.inr ⟨z1, ⟨b1, fun e => by rw [e0]; exact b2 e, fun e => ?_, by omega, ?_, ?_⟩, c, ?_, ?_⟩
      · rw [e0, e1 e]; exact ⟨(b3 e).1, hF _ _ (b3 e).2⟩
      · rw [hk _ (by omega)]; exact b5
      · rw [eb]; intro j hj; rw [ho _ (by omega)]; exact b6 j hj
      · rw [eb]; intro j a b; rw [hh _ (by omega)]; exact SZ_extc hn hh ho hk hF hP (z3 j a b)
      · rw [eb]; exact z4
end
def HPc (h : Nat → Int64) (n : Nat) (ow kd : Nat → Nat) (Fv : Int64 → Int64 → Prop) (P : Int64 → Prop) : Prop :=
  ∀ t, isH t → GT n ow kd P t → ∃ f s, SZc h n ow kd Fv P f t s ∧ (500 < s → so t = 5 ∧ blk h t = 3 ∧ ¬ isH (h (vn t + 1)))
section
variable {h : Nat → Int64} {n : Nat} {ow kd : Nat → Nat} {Fv : Int64 → Int64 → Prop} {P : Int64 → Prop}
theorem BK_gtc {t : Int64} (z : isH t) (b : BKc h n ow kd Fv t) : GT n ow kd P t := by
  have hb := blk_pos (h := h) z
  exact Or.inr ⟨z, b.1, by have := b.2.2.2.1; omega, by have := b.2.2.2.2.2 0 hb; exact this, b.2.2.2.2.1⟩
theorem SZ_gtc {f : Nat} {t : Int64} {s : Nat} (z : SZc h n ow kd Fv P f t s) : GT n ow kd P t := by
  cases f with
  | zero => exact z.elim
  | succ f =>
    rcases z with ⟨z1, z2, -⟩ | ⟨z1, z2, -⟩
    · exact Or.inl ⟨z1, z2⟩
    · exact BK_gtc z1 z2
theorem HP_szc (g : HPc h n ow kd Fv P) {t : Int64} (ht : GT n ow kd P t) : ∃ f s, SZc h n ow kd Fv P f t s := by
  by_cases z : isH t
  · obtain ⟨f, s, a, -⟩ := g t z ht; exact ⟨f, s, a⟩
  · rcases ht with ⟨-, b⟩ | ⟨a, -⟩
    · exact ⟨1, 0, Or.inl ⟨z, b, rfl⟩⟩
    · exact absurd a z
theorem HP_bkc (g : HPc h n ow kd Fv P) {t : Int64} (z : isH t) (ht : GT n ow kd P t) : BKc h n ow kd Fv t ∧ ∀ j, prt t ≤ j → j < blk h t → GT n ow kd P (h (vn t + j)) := by
  obtain ⟨f, s, a, -⟩ := g t z ht
  cases f with
  | zero => exact a.elim
  | succ f =>
    rcases a with ⟨a, -⟩ | ⟨-, b, c, d, -⟩
    · exact absurd z a
    · exact ⟨b, fun j h1 h2 => SZ_gtc (d j h1 h2)⟩
theorem SZ_allc {m : Nat} {q : Nat → Int64} : (∀ j, j < m → ∃ f s, SZc h n ow kd Fv P f (q j) s) → ∃ f, ∃ c : Nat → Nat, ∀ j, j < m → SZc h n ow kd Fv P f (q j) (c j) := by
  induction m with
  | zero => intro _; exact ⟨0, fun _ => 0, fun j hj => absurd hj (Nat.not_lt_zero j)⟩
  | succ m ih =>
    intro H
    obtain ⟨f, c, hc⟩ := ih (fun j hj => H j (by omega))
    obtain ⟨f2, s, hs⟩ := H m (by omega)
    refine ⟨f + f2, fun j => if j = m then s else c j, fun j hj => ?_⟩
    by_cases e : j = m
    · subst e; simp only [if_pos rfl]; exact SZ_lec hs (by omega)
    · simp only [if_neg e]; exact SZ_lec (hc j (by omega)) (by omega)
theorem HP_newc (g : HPc h n ow kd Fv P) {h2 : Nat → Int64} {m : Nat} {x : Int64} (hh : ∀ i, i < n → h2 i = h i) (hx : isH x) (h0 : 0 ≤ va x) (hv : vn x = n) (hb : blk h2 x = m)
    (b2 : so x = 5 → HDCc (h2 n)) (b3 : so x = 3 → 0 ≤ va (h2 (n + 1)) ∧ Fv (h2 n) (h2 (n + 1)))
    (hp : ∀ j, prt x ≤ j → j < m → GT n ow kd P (h2 (n + j)))
    (hs : (so x = 5 ∧ m = 3 ∧ ¬ isH (h2 (n + 1))) ∨ ∀ f c, (∀ j, prt x ≤ j → j < m → SZc h n ow kd Fv P f (h2 (n + j)) (c j)) → m + smm c (prt x) (m - prt x) ≤ 500) :
    ∃ ow2 kd2, HPc h2 (n + m) ow2 kd2 Fv P ∧ GT (n + m) ow2 kd2 P x ∧ (∀ t, GT n ow kd P t → GT (n + m) ow2 kd2 P t) ∧ (∀ f t s, SZc h n ow kd Fv P f t s → SZc h2 (n + m) ow2 kd2 Fv P f t s) ∧ ∃ f s, SZc h2 (n + m) ow2 kd2 Fv P f x s := by
  have mp : 0 < m := by rw [← hb]; exact blk_pos hx
  have ext : ∀ f t s, SZc h n ow kd Fv P f t s → SZc h2 (n + m) (fun i => if n ≤ i then n else ow i) (fun i => if i = n then (so x).toNat else kd i) Fv P f t s := fun f t s z =>
    SZ_extc (by omega) hh (fun i hi => if_neg (by omega)) (fun i hi => if_neg (by omega)) (fun _ _ q => q) (fun _ q => q) z
  have sx : 0 ≤ so x := by rcases hx with e | e | e <;> omega
  have gx : GT (n + m) (fun i => if n ≤ i then n else ow i) (fun i => if i = n then (so x).toNat else kd i) P x :=
    Or.inr ⟨hx, h0, by omega, by rw [hv]; simp, by rw [hv]; simp; omega⟩
  have bx : BKc h2 (n + m) (fun i => if n ≤ i then n else ow i) (fun i => if i = n then (so x).toNat else kd i) Fv x := by
    refine ⟨h0, by rw [hv]; exact b2, by rw [hv]; exact b3, by rw [hv, hb]; exact Nat.le_refl _, by rw [hv]; simp; omega, fun j _ => ?_⟩
    rw [hv]; exact if_pos (by omega)
  obtain ⟨f0, c0, hc0⟩ := SZ_allc (h := h) (n := n) (ow := ow) (kd := kd) (Fv := Fv) (P := P) (m := m - prt x) (q := fun j => h2 (n + (prt x + j))) (fun j hj => HP_szc g (hp (prt x + j) (by omega) (by omega)))
  have hc1 : ∀ j, prt x ≤ j → j < m → SZc h n ow kd Fv P f0 (h2 (n + j)) (c0 (j - prt x)) := fun j h1 h2' => by
    have := hc0 (j - prt x) (by omega)
    rw [show prt x + (j - prt x) = j from by omega] at this
    exact this
  have szx : SZc h2 (n + m) (fun i => if n ≤ i then n else ow i) (fun i => if i = n then (so x).toNat else kd i) Fv P (f0 + 1) x (m + smm (fun j => c0 (j - prt x)) (prt x) (m - prt x)) :=
    Or.inr ⟨hx, bx, fun j => c0 (j - prt x), by rw [hb, hv]; exact fun j h1 h2' => ext _ _ _ (hc1 j h1 h2'), by rw [hb]⟩
  refine ⟨_, _, ?_, gx, ?_, ext, _, _, szx⟩
  · intro t ht hg
    rcases hg with ⟨z, -⟩ | ⟨-, g1, g2, g3, g4⟩
    · exact absurd ht z
    by_cases e : vn t < n
    · have e1 : ow (vn t) = vn t := by have := g3; simp only [if_neg (show ¬ n ≤ vn t by omega)] at this; exact this
      have e2 : (kd (vn t) : Int) = so t := by have := g4; simp only [if_neg (show ¬ vn t = n by omega)] at this; exact this
      obtain ⟨f, s, z1, z2⟩ := g t ht (Or.inr ⟨ht, g1, e, e1, e2⟩)
      refine ⟨f, s, ext _ _ _ z1, fun hs5 => ?_⟩
      obtain ⟨q1, q2, q3⟩ := z2 hs5
      have bkt := (HP_bkc g ht (Or.inr ⟨ht, g1, e, e1, e2⟩)).1
      have r1 : blk h2 t = 3 := by
        have q2' := q2
        unfold blk at q2' ⊢
        rw [q1] at q2' ⊢
        simp at q2' ⊢
        rw [hh _ e]; exact q2'
      have : vn t + 3 ≤ n := by have := bkt.2.2.2.1; omega
      exact ⟨q1, r1, by rw [hh _ (by omega)]; exact q3⟩
    · have e1 : vn t = n := by have := g3; simp only [if_pos (show n ≤ vn t by omega)] at this; exact this.symm
      have e2 : so t = so x := by have := g4; simp only [if_pos e1] at this; omega
      have eb : blk h2 t = m := by rw [← hb]; unfold blk; rw [e2, e1, hv]
      have ep : prt t = prt x := by unfold prt; rw [e2]
      have sz2 : SZc h2 (n + m) (fun i => if n ≤ i then n else ow i) (fun i => if i = n then (so x).toNat else kd i) Fv P (f0 + 1) t (m + smm (fun j => c0 (j - prt x)) (prt x) (m - prt x)) := by
        refine Or.inr ⟨ht, ⟨g1, ?_, ?_, ?_, g4, ?_⟩, fun j => c0 (j - prt x), ?_, ?_⟩
        · rw [e1, e2]; exact b2
        · rw [e1, e2]; exact b3
        · rw [eb, e1]; exact Nat.le_refl _
        · intro j _; rw [e1]; exact if_pos (by omega)
        · rw [eb, e1, ep]; exact fun j h1 h2' => ext _ _ _ (hc1 j h1 h2')
        · rw [eb, ep]
      refine ⟨_, _, sz2, fun h5 => ?_⟩
      rcases hs with ⟨s1, s2, s3⟩ | hs
      · exact ⟨by rw [e2]; exact s1, by rw [eb]; exact s2, by rw [e1]; exact s3⟩
      · have := hs f0 _ hc1; omega
  · intro t ht
    rcases ht with z | ⟨z1, z2, z3, z4, z5⟩
    · exact Or.inl z
    · refine Or.inr ⟨z1, z2, by omega, ?_, ?_⟩
      · show (if n ≤ vn t then n else ow (vn t)) = vn t
        rw [if_neg (by omega)]; exact z4
      · show ((if vn t = n then (so x).toNat else kd (vn t) : Nat) : Int) = so t
        rw [if_neg (by omega)]; exact z5
end
section
variable {h : Nat → Int64} {n : Nat} {ow kd : Nat → Nat} {Fv : Int64 → Int64 → Prop} {P : Int64 → Prop}
theorem SZ_samec {f : Nat} {t x : Int64} {s : Nat} (e1 : so t = so x) (e2 : va t = va x) (ht : isH x) (z : SZc h n ow kd Fv P f x s) : SZc h n ow kd Fv P f t s := by
  cases f with
  | zero => exact z.elim
  | succ f =>
    have ev : vn t = vn x := by unfold vn; rw [e2]
    have eb : blk h t = blk h x := by unfold blk; rw [e1, ev]
    have ep : prt t = prt x := by unfold prt; rw [e1]
    rcases z with ⟨z1, -⟩ | ⟨z1, z2, c, z3, z4⟩
    · exact absurd ht z1
    · refine Or.inr ⟨by unfold isH; rw [e1]; exact z1, ?_, c, by rw [ep, eb, ev]; exact z3, by rw [eb, ep]; exact z4⟩
      unfold BKc
      rw [e1, e2, ev, eb]
      exact z2
theorem SZ_bigc (g : HPc h n ow kd Fv P) : ∀ (s : Nat) (f : Nat) (t : Int64), SZc h n ow kd Fv P f t s → 500 < s → ∃ S : Nat → Prop, ∃ _ : DecidablePred S, s ≤ 500 + cnt S ow n ∧ ∀ k, S k → ∃ f2 s2, ∃ x : Int64, isH x ∧ vn x = k ∧ SZc h n ow kd Fv P f2 x s2 ∧ s2 ≤ s := by
  intro s
  induction s using Nat.strongRecOn with
  | _ s ih =>
    intro f t z hs
    have ht : isH t := Classical.byContradiction (fun c => by
      cases f with
      | zero => exact z
      | succ f =>
        rcases z with ⟨-, -, z3⟩ | ⟨z1, -⟩
        · omega
        · exact c z1)
    have gt := SZ_gtc z
    obtain ⟨f1, s1, y1, y2⟩ := g t ht gt
    have es := SZ_func z y1
    subst es
    obtain ⟨q1, q2, q3⟩ := y2 hs
    obtain ⟨b, -⟩ := HP_bkc g ht gt
    have bo := b.2.2.2.2.2
    have bn := b.2.2.2.1
    cases f with
    | zero => exact z.elim
    | succ f =>
      rcases z with ⟨z1, -⟩ | ⟨z1, z2, c, z3, z4⟩
      · exact absurd ht z1
      have ep : prt t = 1 := by unfold prt; rw [q1]; rfl
      rw [q2, ep] at z3 z4
      have c1 : c 1 = 0 := by
        have := z3 1 (by omega) (by omega)
        cases f with
        | zero => exact this.elim
        | succ f =>
          rcases this with ⟨-, -, w⟩ | ⟨w, -⟩
          · exact w
          · exact absurd w q3
      have e2 : s = 3 + c 2 := by rw [z4]; show 3 + (0 + c (1 + 0) + c (1 + 1)) = _; rw [show c (1 + 0) = 0 from c1]; show 3 + (0 + 0 + c 2) = _; omega
      have z2' := z3 2 (by omega) (by omega)
      by_cases hc : 500 < c 2
      · obtain ⟨S, dS, i1, i2⟩ := ih (c 2) (by omega) f _ z2' hc
        have nS : ¬ S (vn t) := fun w => by
          obtain ⟨f2, s2, x, x1, x2, x3, x4⟩ := i2 _ w
          have gx := SZ_gtc x3
          have tx : so t = so x := by
            rcases gx with ⟨w1, -⟩ | ⟨-, -, -, -, w5⟩
            · exact absurd x1 w1
            · rw [← w5, x2]; exact b.2.2.2.2.1.symm
          have vx : va t = va x := by
            have p1 := b.1
            have p2 : 0 ≤ va x := by
              rcases gx with ⟨w1, -⟩ | ⟨-, w2, -⟩
              · exact absurd x1 w1
              · exact w2
            unfold vn at x2
            omega
          have := SZ_func (SZ_samec tx vx x1 x3) y1
          omega
        refine ⟨fun k => S k ∨ k = vn t, fun k => inferInstance, ?_, ?_⟩
        · have := cnt_add (S := S) (S2 := fun k => S k ∨ k = vn t) (ow := ow) (k := vn t) (b := 3) (fun j hj => bo j (by omega)) nS (fun i => Iff.rfl) n (by omega)
          omega
        · rintro k (w | w)
          · obtain ⟨f2, s2, x, x1, x2, x3, x4⟩ := i2 k w
            exact ⟨f2, s2, x, x1, x2, x3, by omega⟩
          · exact ⟨_, _, t, ht, w.symm, y1, Nat.le_refl _⟩
      · refine ⟨fun k => k = vn t, fun k => inferInstance, ?_, ?_⟩
        · have := cnt_add (S := fun _ => False) (S2 := fun k => k = vn t) (ow := ow) (k := vn t) (b := 3) (fun j hj => bo j (by omega)) (fun w => w) (fun i => by simp) n (by omega)
          omega
        · rintro k w
          exact ⟨_, _, t, ht, w.symm, y1, Nat.le_refl _⟩
theorem SZ_1000c (g : HPc h n ow kd Fv P) (hn : n ≤ 500) {f : Nat} {t : Int64} {s : Nat} (z : SZc h n ow kd Fv P f t s) : s ≤ 1000 := by
  by_cases hs : 500 < s
  · obtain ⟨S, dS, a, -⟩ := SZ_bigc g s f t z hs
    have := cnt_le (S := S) (ow := ow) n
    omega
  · omega
theorem SZ_gcc {h2 : Nat → Int64} {n2 : Nat} {ow2 kd2 : Nat → Nat} {fw : Int64 → Int64} {R : Int64 → Prop} (h0 : ∀ t, ¬ isH t → fw t = t)
    (h1 : ∀ t, isH t → R t → BKc h n ow kd Fv t → isH (fw t) ∧ prt (fw t) = prt t ∧ BKc h2 n2 ow2 kd2 Fv (fw t) ∧ blk h2 (fw t) = blk h t ∧ ∀ j, prt t ≤ j → j < blk h t → h2 (vn (fw t) + j) = fw (h (vn t + j)) ∧ (isH (h (vn t + j)) → R (h (vn t + j)))) :
    ∀ {f : Nat} {t : Int64} {s : Nat}, SZc h n ow kd Fv P f t s → (isH t → R t) → SZc h2 n2 ow2 kd2 Fv P f (fw t) s
  | 0, _, _, z, _ => z.elim
  | f + 1, t, s, z, r => by
    rcases z with ⟨z1, z2, z3⟩ | ⟨z1, z2, c, z3, z4⟩
    · rw [h0 t z1]; exact Or.inl ⟨z1, z2, z3⟩
    · obtain ⟨a1, a2, a3, a4, a5⟩ := h1 t z1 (r z1) z2
      refine Or.inr ⟨a1, a3, c, ?_, ?_⟩
      · rw [a2, a4]
        intro j p1 p2
        obtain ⟨e1, e2⟩ := a5 j p1 p2
        rw [e1]
        exact SZ_gcc h0 h1 (z3 j p1 p2) e2
      · rw [a2, a4]; exact z4
end
section
variable {h : Nat → Int64} {n : Nat} {ow kd : Nat → Nat} {Fv : Int64 → Int64 → Prop} {P : Int64 → Prop}
theorem SZ_ownc {h2 : Nat → Int64} {n2 : Nat} {ow2 kd2 : Nat → Nat} {Fv2 : Int64 → Int64 → Prop} {P2 : Int64 → Prop} (hn : n ≤ n2) (hh : ∀ i, i < n → ow i ≤ i → h2 i = h i) (ho : ∀ i, i < n → ow i ≤ i → ow2 i = ow i) (hk : ∀ i, i < n → ow i ≤ i → kd2 i = kd i) (hF : ∀ a b, Fv a b → Fv2 a b) (hP : ∀ t, P t → P2 t) : ∀ {f : Nat} {t : Int64} {s : Nat}, SZc h n ow kd Fv P f t s → SZc h2 n2 ow2 kd2 Fv2 P2 f t s
  | 0, _, _, z => z.elim
  | f + 1, t, s, z => by
    rcases z with ⟨z1, z2, z3⟩ | ⟨z1, ⟨b1, b2, b3, b4, b5, b6⟩, c, z3, z4⟩
    · exact Or.inl ⟨z1, hP t z2, z3⟩
    · have hb := blk_pos (h := h) z1
      have o0 : ow (vn t) = vn t := b6 0 hb
      have e0 : h2 (vn t) = h (vn t) := hh _ (by omega) (by omega)
      have e1 : so t = 3 → h2 (vn t + 1) = h (vn t + 1) := fun e => by
        have := blk_2 (h := h) e
        have := b6 1 (by omega)
        exact hh _ (by omega) (by omega)
      have eb : blk h2 t = blk h t := by
        unfold blk
        rw [e0]
        by_cases e : so t = 3
        · rw [e1 e]
        · simp [e]
      refine Or.inr ⟨z1, ⟨b1, fun e => by rw [e0]; exact b2 e, fun e => ?_, by omega, ?_, ?_⟩, c, ?_, ?_⟩
      · rw [e0, e1 e]; exact ⟨(b3 e).1, hF _ _ (b3 e).2⟩
      · rw [hk _ (by omega) (by omega)]; exact b5
      · rw [eb]; intro j hj; have := b6 j hj; rw [ho _ (by omega) (by omega)]; exact this
      · rw [eb]; intro j a b; have := b6 j b; rw [hh _ (by omega) (by omega)]; exact SZ_ownc hn hh ho hk hF hP (z3 j a b)
      · rw [eb]; exact z4
theorem HP_ownc {h2 : Nat → Int64} {n2 : Nat} {ow2 kd2 : Nat → Nat} (g : HPc h n ow kd Fv P) (hn : n ≤ n2) (hh : ∀ i, i < n → ow i ≤ i → h2 i = h i) (ho : ∀ i, i < n → ow i ≤ i → ow2 i = ow i) (hk : ∀ i, i < n → ow i ≤ i → kd2 i = kd i) (hx : ∀ i, i < n2 → ow2 i = i → i < n ∧ ow i = i) : HPc h2 n2 ow2 kd2 Fv P := by
  intro t ht gt
  rcases gt with ⟨z, -⟩ | ⟨-, g1, g2, g3, g4⟩
  · exact absurd ht z
  obtain ⟨q1, q2⟩ := hx _ g2 g3
  have gt0 : GT n ow kd P t := Or.inr ⟨ht, g1, q1, q2, by rw [← hk _ q1 (by omega)]; exact g4⟩
  obtain ⟨f, s, z1, z2⟩ := g t ht gt0
  refine ⟨f, s, SZ_ownc hn hh ho hk (fun _ _ q => q) (fun _ q => q) z1, fun h5 => ?_⟩
  obtain ⟨r1, r2, r3⟩ := z2 h5
  have b := (HP_bkc g ht gt0).1
  have b6 := b.2.2.2.2.2
  have b4 := b.2.2.2.1
  have o1 := b6 1 (by omega)
  refine ⟨r1, ?_, by rw [hh _ (by omega) (by omega)]; exact r3⟩
  have q2' := r2
  unfold blk at q2' ⊢
  rw [r1] at q2' ⊢
  simp at q2' ⊢
  rw [hh _ q1 (by omega)]; exact q2'
theorem HP_holec {h2 : Nat → Int64} (m : Nat) (g : HPc h n ow kd Fv P) (hh : ∀ i, i < n → h2 i = h i) : HPc h2 (n + m) (owH n ow) kd Fv P :=
  HP_ownc g (by omega) (fun i hi _ => hh i hi) (fun i hi _ => if_neg (by omega)) (fun _ _ _ => rfl) (fun i hi e => by
    unfold owH at e
    by_cases q : n ≤ i
    · rw [if_pos q] at e; omega
    · rw [if_neg q] at e; exact ⟨by omega, e⟩)
theorem SZ_holec {h2 : Nat → Int64} {f : Nat} {t : Int64} {s : Nat} (m : Nat) (hh : ∀ i, i < n → h2 i = h i) (z : SZc h n ow kd Fv P f t s) : SZc h2 (n + m) (owH n ow) kd Fv P f t s := SZ_ownc (by omega) (fun i hi _ => hh i hi) (fun i hi _ => if_neg (by omega)) (fun _ _ _ => rfl) (fun _ _ q => q) (fun _ q => q) z
theorem HP_putc (g : HPc h n ow kd Fv P) {h2 : Nat → Int64} {m k : Nat} {x : Int64} (hh : ∀ i, ¬ (k ≤ i ∧ i < k + m) → h2 i = h i) (hkm : k + m ≤ n) (hno : ∀ j, j < m → k + j < ow (k + j)) (hx : isH x) (h0 : 0 ≤ va x) (hv : vn x = k) (hb : blk h2 x = m)
    (b2 : so x = 5 → HDCc (h2 k)) (b3 : so x = 3 → 0 ≤ va (h2 (k + 1)) ∧ Fv (h2 k) (h2 (k + 1)))
    (hp : ∀ j, prt x ≤ j → j < m → GT n ow kd P (h2 (k + j)))
    (hs : (so x = 5 ∧ m = 3 ∧ ¬ isH (h2 (k + 1))) ∨ ∀ f c, (∀ j, prt x ≤ j → j < m → SZc h n ow kd Fv P f (h2 (k + j)) (c j)) → m + smm c (prt x) (m - prt x) ≤ 500) :
    ∃ ow2 kd2, (∀ i, i < n → ow i ≤ i → ow2 i = ow i) ∧ (∀ i, i < n → ow i ≤ i → kd2 i = kd i) ∧ (∀ i, ¬ (k ≤ i ∧ i < k + m) → ow2 i = ow i) ∧ HPc h2 n ow2 kd2 Fv P ∧ GT n ow2 kd2 P x ∧ (∀ f t s, SZc h n ow kd Fv P f t s → SZc h2 n ow2 kd2 Fv P f t s) ∧ ∀ f c, (∀ j, prt x ≤ j → j < m → SZc h n ow kd Fv P f (h2 (k + j)) (c j)) → SZc h2 n ow2 kd2 Fv P (f + 1) x (m + smm c (prt x) (m - prt x)) := by
  have mp : 0 < m := by rw [← hb]; exact blk_pos hx
  have sx : 0 ≤ so x := by rcases hx with e | e | e <;> omega
  have out : ∀ i, i < n → ow i ≤ i → ¬ (k ≤ i ∧ i < k + m) := fun i _ q z => by
    have := hno (i - k) (by omega)
    rw [show k + (i - k) = i from by omega] at this
    omega
  have ho : ∀ i, i < n → ow i ≤ i → (fun i => if k ≤ i ∧ i < k + m then k else ow i) i = ow i := fun i a b => if_neg (out i a b)
  have hk : ∀ i, i < n → ow i ≤ i → (fun i => if i = k then (so x).toNat else kd i) i = kd i := fun i a b => if_neg (fun z => out i a b (by omega))
  have ext : ∀ f t s, SZc h n ow kd Fv P f t s → SZc h2 n (fun i => if k ≤ i ∧ i < k + m then k else ow i) (fun i => if i = k then (so x).toNat else kd i) Fv P f t s := fun f t s z =>
    SZ_ownc (Nat.le_refl _) (fun i a b => hh i (out i a b)) ho hk (fun _ _ q => q) (fun _ q => q) z
  have bkt : ∀ t : Int64, isH t → 0 ≤ va t → vn t = k → so t = so x → BKc h2 n (fun i => if k ≤ i ∧ i < k + m then k else ow i) (fun i => if i = k then (so x).toNat else kd i) Fv t ∧ blk h2 t = m ∧ prt t = prt x := fun t _ t0 tv ts => by
    have eb : blk h2 t = m := by rw [← hb]; unfold blk; rw [ts, tv, hv]
    refine ⟨⟨t0, by rw [tv, ts]; exact b2, by rw [tv, ts]; exact b3, by rw [eb, tv]; exact hkm, ?_, ?_⟩, eb, prt_so ts⟩
    · show ((if vn t = k then (so x).toNat else kd (vn t) : Nat) : Int) = so t
      rw [if_pos tv, ts]; omega
    · rw [eb]
      intro j hj
      show (if k ≤ vn t + j ∧ vn t + j < k + m then k else _) = vn t
      rw [if_pos (by omega), tv]
  have szx : ∀ t : Int64, isH t → 0 ≤ va t → vn t = k → so t = so x → ∀ f c, (∀ j, prt x ≤ j → j < m → SZc h n ow kd Fv P f (h2 (k + j)) (c j)) → SZc h2 n (fun i => if k ≤ i ∧ i < k + m then k else ow i) (fun i => if i = k then (so x).toNat else kd i) Fv P (f + 1) t (m + smm c (prt x) (m - prt x)) := fun t th t0 tv ts f c hc => by
    obtain ⟨q1, q2, q3⟩ := bkt t th t0 tv ts
    exact Or.inr ⟨th, q1, c, by rw [q2, q3, tv]; exact fun j a b => ext _ _ _ (hc j a b), by rw [q2, q3]⟩
  obtain ⟨f0, c0, hc0⟩ := SZ_allc (h := h) (n := n) (ow := ow) (kd := kd) (Fv := Fv) (P := P) (m := m - prt x) (q := fun j => h2 (k + (prt x + j))) (fun j hj => HP_szc g (hp (prt x + j) (by omega) (by omega)))
  have hc1 : ∀ j, prt x ≤ j → j < m → SZc h n ow kd Fv P f0 (h2 (k + j)) ((fun j => c0 (j - prt x)) j) := fun j h1 h2' => by
    have := hc0 (j - prt x) (by omega)
    rw [show prt x + (j - prt x) = j from by omega] at this
    exact this
  refine ⟨_, _, ho, hk, fun i hi => if_neg hi, ?_, BK_gtc hx (bkt x hx h0 hv rfl).1, ext, szx x hx h0 hv rfl⟩
  intro t ht gt
  rcases gt with ⟨z, -⟩ | ⟨-, g1, g2, g3, g4⟩
  · exact absurd ht z
  by_cases e : vn t = k
  · have e2 : so t = so x := by
      have := g4
      simp only [if_pos e] at this
      omega
    have sz2 := szx t ht g1 e e2 f0 _ hc1
    obtain ⟨q1, q2, q3⟩ := bkt t ht g1 e e2
    refine ⟨_, _, sz2, fun h5 => ?_⟩
    rcases hs with ⟨s1, s2, s3⟩ | hs
    · exact ⟨by rw [e2]; exact s1, by rw [q2]; exact s2, by rw [e]; exact s3⟩
    · have := hs f0 _ hc1; omega
  · have e1 : ow (vn t) = vn t := by
      have := g3
      by_cases q : k ≤ vn t ∧ vn t < k + m
      · simp only [if_pos q] at this; omega
      · simp only [if_neg q] at this; exact this
    have e2 : (kd (vn t) : Int) = so t := by have := g4; simp only [if_neg e] at this; exact this
    have gt0 : GT n ow kd P t := Or.inr ⟨ht, g1, g2, e1, e2⟩
    obtain ⟨f, s, z1, z2⟩ := g t ht gt0
    refine ⟨f, s, ext _ _ _ z1, fun h5 => ?_⟩
    obtain ⟨r1, r2, r3⟩ := z2 h5
    have b := (HP_bkc g ht gt0).1
    have b6 := b.2.2.2.2.2
    have b4 := b.2.2.2.1
    have o1 := b6 1 (by omega)
    refine ⟨r1, ?_, by rw [hh _ (out _ (by omega) (by omega))]; exact r3⟩
    have q2' := r2
    unfold blk at q2' ⊢
    rw [r1] at q2' ⊢
    simp at q2' ⊢
    rw [hh _ (out _ g2 (by omega))]; exact q2'
end
