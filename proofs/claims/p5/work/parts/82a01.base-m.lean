section
def I (x : Int) : Int32 := Int32.ofInt x
theorem I_add {x y : Int} : I x + I y = I (x + y) := (Int32.ofInt_add x y).symm
theorem I_sub {x y : Int} : I x - I y = I (x - y) := (Int32.ofInt_sub x y).symm
theorem I_mul {x y : Int} : I x * I y = I (x * y) := (Int32.ofInt_mul x y).symm
theorem I_neg {x : Int} : -I x = I (-x) := (Int32.ofInt_neg x).symm
theorem I_lit {n : Nat} : (OfNat.ofNat n : Int32) = I (OfNat.ofNat n) := (Int32.ofInt_eq_ofNat (n := n)).symm
theorem I_ti {x : Int} (h1 : -2147483648 ≤ x) (h2 : x < 2147483648) : (I x).toInt = x := Int32.toInt_ofInt_of_le h1 h2
theorem I_of (v : Int32) : v = I v.toInt := (Int32.ofInt_toInt v).symm
theorem I_lt {x y : Int} (h1 : -2147483648 ≤ x) (h2 : x < 2147483648) (h3 : -2147483648 ≤ y) (h4 : y < 2147483648) : I x < I y ↔ x < y := by rw [Int32.lt_iff_toInt_lt, I_ti h1 h2, I_ti h3 h4]
theorem I_le {x y : Int} (h1 : -2147483648 ≤ x) (h2 : x < 2147483648) (h3 : -2147483648 ≤ y) (h4 : y < 2147483648) : I x ≤ I y ↔ x ≤ y := by rw [Int32.le_iff_toInt_le, I_ti h1 h2, I_ti h3 h4]
theorem I_eq {x y : Int} (h1 : -2147483648 ≤ x) (h2 : x < 2147483648) (h3 : -2147483648 ≤ y) (h4 : y < 2147483648) : I x = I y ↔ x = y := by rw [← Int32.toInt_inj, I_ti h1 h2, I_ti h3 h4]
theorem I_tn {x : Int} (h1 : -2147483648 ≤ x) (h2 : x < 2147483648) : (I x).toNatClampNeg = x.toNat := by
  show (I x).toInt.toNat = _
  rw [I_ti h1 h2]
theorem I_inb {x : Int} {n : Nat} (h1 : -2147483648 ≤ x) (h2 : x < 2147483648) : inb (I x) n = true ↔ 0 ≤ x ∧ x < n := by
  unfold inb
  rw [decide_eq_true_iff, I_tn h1 h2, I_lit (n := 0), I_lt h1 h2 (by decide) (by decide)]
  have : (OfNat.ofNat 0 : Int) = 0 := rfl
  omega
theorem ti_rng (v : Int32) : -2147483648 ≤ v.toInt ∧ v.toInt < 2147483648 := ⟨Int32.le_toInt v, Int32.toInt_lt v⟩
end
section
def so (t : Int64) : Int := ((t >>> ((32 : Int32).toInt64 &&& 63)).toInt32).toInt
def va (t : Int64) : Int := t.toInt32.toInt
def vn (t : Int64) : Nat := (va t).toNat
def isH (t : Int64) : Prop := so t = 3 ∨ so t = 5 ∨ so t = 7
def blk (h : Nat → Int64) (t : Int64) : Nat := if so t = 7 then 2 else if so t = 5 then 1 + vn (h (vn t)) else if so t = 3 then 2 + vn (h (vn t + 1)) else 0
def prt (t : Int64) : Nat := if so t = 7 then 0 else if so t = 5 then 1 else 2
def smm (c : Nat → Nat) (a : Nat) : Nat → Nat
  | 0 => 0
  | n + 1 => smm c a n + c (a + n)
def HDC (c : Int64) : Prop := 0 ≤ va c ∧ c.toInt = va c
theorem HDC2 : HDC 2 := ⟨by decide, by decide⟩
def HDP (c : Int64) (k : Nat) : Prop := va c = (k : Int) ∧ c.toInt = va c
def BK (h : Nat → Int64) (n : Nat) (ow kd : Nat → Nat) (Fv : Int64 → Int64 → Prop) (t : Int64) : Prop :=
  0 ≤ va t ∧ (so t = 5 → HDC (h (vn t))) ∧ (so t = 3 → 0 ≤ va (h (vn t + 1)) ∧ Fv (h (vn t)) (h (vn t + 1))) ∧ vn t + blk h t ≤ n ∧ (kd (vn t) : Int) = so t ∧ ∀ j, j < blk h t → ow (vn t + j) = vn t
def SZ (h : Nat → Int64) (n : Nat) (ow kd : Nat → Nat) (Fv : Int64 → Int64 → Prop) (P : Int64 → Prop) : Nat → Int64 → Nat → Prop
  | 0, _, _ => False
  | f + 1, t, s => (¬ isH t ∧ P t ∧ s = 0) ∨ (isH t ∧ BK h n ow kd Fv t ∧ ∃ c : Nat → Nat, (∀ j, prt t ≤ j → j < blk h t → SZ h n ow kd Fv P f (h (vn t + j)) (c j)) ∧ s = blk h t + smm c (prt t) (blk h t - prt t))
theorem smm_eq {c d : Nat → Nat} {a : Nat} : ∀ {n : Nat}, (∀ j, a ≤ j → j < a + n → c j = d j) → smm c a n = smm d a n
  | 0, _ => rfl
  | n + 1, h => by
    show smm c a n + c (a + n) = smm d a n + d (a + n)
    rw [smm_eq (fun j h1 h2 => h j h1 (by omega)), h (a + n) (by omega) (by omega)]
theorem smm_le {c : Nat → Nat} {a : Nat} : ∀ {n j : Nat}, a ≤ j → j < a + n → c j ≤ smm c a n
  | 0, j, h1, h2 => by omega
  | n + 1, j, h1, h2 => by
    show _ ≤ smm c a n + c (a + n)
    by_cases e : j = a + n
    · rw [e]; omega
    · have := smm_le (c := c) (a := a) (n := n) h1 (by omega); omega
section
variable {h : Nat → Int64} {n : Nat} {ow kd : Nat → Nat} {Fv : Int64 → Int64 → Prop} {P : Int64 → Prop}
theorem SZ_mono : ∀ {f : Nat} {t : Int64} {s : Nat}, SZ h n ow kd Fv P f t s → SZ h n ow kd Fv P (f + 1) t s
  | 0, _, _, z => z.elim
  | f + 1, t, s, z => by
    rcases z with z | ⟨z1, z2, c, z3, z4⟩
    · exact Or.inl z
    · exact Or.inr ⟨z1, z2, c, fun j a b => SZ_mono (z3 j a b), z4⟩
theorem SZ_le {f g : Nat} {t : Int64} {s : Nat} (hz : SZ h n ow kd Fv P f t s) (hl : f ≤ g) : SZ h n ow kd Fv P g t s := by
  induction hl with
  | refl => exact hz
  | step _ ih => exact SZ_mono ih
theorem prt_le {t : Int64} (ht : isH t) : prt t ≤ blk h t := by
  unfold prt blk
  rcases ht with e | e | e <;> rw [e] <;> simp <;> omega
theorem SZ_fun : ∀ {f g : Nat} {t : Int64} {s r : Nat}, SZ h n ow kd Fv P f t s → SZ h n ow kd Fv P g t r → s = r
  | 0, _, _, _, _, z, _ => z.elim
  | _ + 1, 0, _, _, _, _, z => z.elim
  | f + 1, g + 1, t, s, r, z, y => by
    rcases z with ⟨z1, -, z3⟩ | ⟨z1, -, c, z3, z4⟩
    · rcases y with ⟨-, -, y3⟩ | ⟨y1, -⟩
      · rw [z3, y3]
      · exact absurd y1 z1
    · rcases y with ⟨y1, -⟩ | ⟨-, -, d, y3, y4⟩
      · exact absurd z1 y1
      · rw [z4, y4, smm_eq (d := d) (fun j a b => SZ_fun (z3 j a (by have := prt_le (h := h) z1; omega)) (y3 j a (by have := prt_le (h := h) z1; omega)))]
theorem SZ_ext {h2 : Nat → Int64} {n2 : Nat} {ow2 kd2 : Nat → Nat} {Fv2 : Int64 → Int64 → Prop} {P2 : Int64 → Prop} (hn : n ≤ n2) (hh : ∀ i, i < n → h2 i = h i) (ho : ∀ i, i < n → ow2 i = ow i) (hk : ∀ i, i < n → kd2 i = kd i) (hF : ∀ a b, Fv a b → Fv2 a b) (hP : ∀ t, P t → P2 t) : ∀ {f : Nat} {t : Int64} {s : Nat}, SZ h n ow kd Fv P f t s → SZ h2 n2 ow2 kd2 Fv2 P2 f t s
  | 0, _, _, z => z.elim
  | f + 1, t, s, z => by
    rcases z with ⟨z1, z2, z3⟩ | ⟨z1, ⟨b1, b2, b3, b4, b5, b6⟩, c, z3, z4⟩
    · exact Or.inl ⟨z1, hP t z2, z3⟩
    · have hb : 0 < blk h t := by
        unfold blk
        rcases z1 with e | e | e <;> rw [e] <;> simp <;> omega
      have e0 : h2 (vn t) = h (vn t) := hh _ (by omega)
      have hb2 : so t = 3 → 2 ≤ blk h t := fun e => by unfold blk; rw [e]; simp
      have e1 : so t = 3 → h2 (vn t + 1) = h (vn t + 1) := fun e => hh _ (by have := hb2 e; omega)
      have eb : blk h2 t = blk h t := by
        unfold blk
        rw [e0]
        by_cases e : so t = 3
        · rw [e1 e]
        · simp [e]
      refine Or.inr ⟨z1, ⟨b1, fun e => by rw [e0]; exact b2 e, fun e => ?_, by omega, ?_, ?_⟩, c, ?_, ?_⟩
      · rw [e0, e1 e]; exact ⟨(b3 e).1, hF _ _ (b3 e).2⟩
      · rw [hk _ (by omega)]; exact b5
      · rw [eb]; intro j hj; rw [ho _ (by omega)]; exact b6 j hj
      · rw [eb]; intro j a b; rw [hh _ (by omega)]; exact SZ_ext hn hh ho hk hF hP (z3 j a b)
      · rw [eb]; exact z4
end
end
section
def GT (n : Nat) (ow kd : Nat → Nat) (P : Int64 → Prop) (t : Int64) : Prop := (¬ isH t ∧ P t) ∨ (isH t ∧ 0 ≤ va t ∧ vn t < n ∧ ow (vn t) = vn t ∧ (kd (vn t) : Int) = so t)
def HP (h : Nat → Int64) (n : Nat) (ow kd : Nat → Nat) (Fv : Int64 → Int64 → Prop) (P : Int64 → Prop) : Prop :=
  ∀ t, isH t → GT n ow kd P t → ∃ f s, SZ h n ow kd Fv P f t s ∧ (500 < s → so t = 5 ∧ blk h t = 3 ∧ ¬ isH (h (vn t + 1)))
theorem blk_pos {h : Nat → Int64} {t : Int64} (z : isH t) : 0 < blk h t := by
  unfold blk
  rcases z with e | e | e <;> rw [e] <;> simp <;> omega
section
variable {h : Nat → Int64} {n : Nat} {ow kd : Nat → Nat} {Fv : Int64 → Int64 → Prop} {P : Int64 → Prop}
theorem BK_gt {t : Int64} (z : isH t) (b : BK h n ow kd Fv t) : GT n ow kd P t := by
  have hb := blk_pos (h := h) z
  exact Or.inr ⟨z, b.1, by have := b.2.2.2.1; omega, by have := b.2.2.2.2.2 0 hb; exact this, b.2.2.2.2.1⟩
theorem SZ_gt {f : Nat} {t : Int64} {s : Nat} (z : SZ h n ow kd Fv P f t s) : GT n ow kd P t := by
  cases f with
  | zero => exact z.elim
  | succ f =>
    rcases z with ⟨z1, z2, -⟩ | ⟨z1, z2, -⟩
    · exact Or.inl ⟨z1, z2⟩
    · exact BK_gt z1 z2
theorem HP_sz (g : HP h n ow kd Fv P) {t : Int64} (ht : GT n ow kd P t) : ∃ f s, SZ h n ow kd Fv P f t s := by
  by_cases z : isH t
  · obtain ⟨f, s, a, -⟩ := g t z ht; exact ⟨f, s, a⟩
  · rcases ht with ⟨-, b⟩ | ⟨a, -⟩
    · exact ⟨1, 0, Or.inl ⟨z, b, rfl⟩⟩
    · exact absurd a z
theorem HP_bk (g : HP h n ow kd Fv P) {t : Int64} (z : isH t) (ht : GT n ow kd P t) : BK h n ow kd Fv t ∧ ∀ j, prt t ≤ j → j < blk h t → GT n ow kd P (h (vn t + j)) := by
  obtain ⟨f, s, a, -⟩ := g t z ht
  cases f with
  | zero => exact a.elim
  | succ f =>
    rcases a with ⟨a, -⟩ | ⟨-, b, c, d, -⟩
    · exact absurd z a
    · exact ⟨b, fun j h1 h2 => SZ_gt (d j h1 h2)⟩
theorem SZ_all {m : Nat} {q : Nat → Int64} : (∀ j, j < m → ∃ f s, SZ h n ow kd Fv P f (q j) s) → ∃ f, ∃ c : Nat → Nat, ∀ j, j < m → SZ h n ow kd Fv P f (q j) (c j) := by
  induction m with
  | zero => intro _; exact ⟨0, fun _ => 0, fun j hj => absurd hj (Nat.not_lt_zero j)⟩
  | succ m ih =>
    intro H
    obtain ⟨f, c, hc⟩ := ih (fun j hj => H j (by omega))
    obtain ⟨f2, s, hs⟩ := H m (by omega)
    refine ⟨f + f2, fun j => if j = m then s else c j, fun j hj => ?_⟩
    by_cases e : j = m
    · subst e; simp only [if_pos rfl]; exact SZ_le hs (by omega)
    · simp only [if_neg e]; exact SZ_le (hc j (by omega)) (by omega)
theorem HP_new (g : HP h n ow kd Fv P) {h2 : Nat → Int64} {m : Nat} {x : Int64} (hh : ∀ i, i < n → h2 i = h i) (hx : isH x) (h0 : 0 ≤ va x) (hv : vn x = n) (hb : blk h2 x = m)
    (b2 : so x = 5 → HDC (h2 n)) (b3 : so x = 3 → 0 ≤ va (h2 (n + 1)) ∧ Fv (h2 n) (h2 (n + 1)))
    (hp : ∀ j, prt x ≤ j → j < m → GT n ow kd P (h2 (n + j)))
    (hs : (so x = 5 ∧ m = 3 ∧ ¬ isH (h2 (n + 1))) ∨ ∀ f c, (∀ j, prt x ≤ j → j < m → SZ h n ow kd Fv P f (h2 (n + j)) (c j)) → m + smm c (prt x) (m - prt x) ≤ 500) :
    ∃ ow2 kd2, HP h2 (n + m) ow2 kd2 Fv P ∧ GT (n + m) ow2 kd2 P x ∧ (∀ t, GT n ow kd P t → GT (n + m) ow2 kd2 P t) ∧ (∀ f t s, SZ h n ow kd Fv P f t s → SZ h2 (n + m) ow2 kd2 Fv P f t s) ∧ ∃ f s, SZ h2 (n + m) ow2 kd2 Fv P f x s := by
  have mp : 0 < m := by rw [← hb]; exact blk_pos hx
  have ext : ∀ f t s, SZ h n ow kd Fv P f t s → SZ h2 (n + m) (fun i => if n ≤ i then n else ow i) (fun i => if i = n then (so x).toNat else kd i) Fv P f t s := fun f t s z =>
    SZ_ext (by omega) hh (fun i hi => if_neg (by omega)) (fun i hi => if_neg (by omega)) (fun _ _ q => q) (fun _ q => q) z
  have sx : 0 ≤ so x := by rcases hx with e | e | e <;> omega
  have gx : GT (n + m) (fun i => if n ≤ i then n else ow i) (fun i => if i = n then (so x).toNat else kd i) P x :=
    Or.inr ⟨hx, h0, by omega, by rw [hv]; simp, by rw [hv]; simp; omega⟩
  have bx : BK h2 (n + m) (fun i => if n ≤ i then n else ow i) (fun i => if i = n then (so x).toNat else kd i) Fv x := by
    refine ⟨h0, by rw [hv]; exact b2, by rw [hv]; exact b3, by rw [hv, hb]; exact Nat.le_refl _, by rw [hv]; simp; omega, fun j _ => ?_⟩
    rw [hv]; exact if_pos (by omega)
  obtain ⟨f0, c0, hc0⟩ := SZ_all (h := h) (n := n) (ow := ow) (kd := kd) (Fv := Fv) (P := P) (m := m - prt x) (q := fun j => h2 (n + (prt x + j))) (fun j hj => HP_sz g (hp (prt x + j) (by omega) (by omega)))
  have hc1 : ∀ j, prt x ≤ j → j < m → SZ h n ow kd Fv P f0 (h2 (n + j)) (c0 (j - prt x)) := fun j h1 h2' => by
    have := hc0 (j - prt x) (by omega)
    rw [show prt x + (j - prt x) = j from by omega] at this
    exact this
  have szx : SZ h2 (n + m) (fun i => if n ≤ i then n else ow i) (fun i => if i = n then (so x).toNat else kd i) Fv P (f0 + 1) x (m + smm (fun j => c0 (j - prt x)) (prt x) (m - prt x)) :=
    Or.inr ⟨hx, bx, fun j => c0 (j - prt x), by rw [hb, hv]; exact fun j h1 h2' => ext _ _ _ (hc1 j h1 h2'), by rw [hb]⟩
  refine ⟨_, _, ?_, gx, ?_, ext, _, _, szx⟩
  · intro t ht hg
    rcases hg with ⟨z, -⟩ | ⟨-, g1, g2, g3, g4⟩
    · exact absurd ht z
    by_cases e : vn t < n
    · have e1 : ow (vn t) = vn t := by have := g3; simp only [if_neg (show ¬ n ≤ vn t by omega)] at this; exact this
      have e2 : (kd (vn t) : Int) = so t := by have := g4; simp only [if_neg (show ¬ vn t = n by omega)] at this; exact this
      obtain ⟨f, s, z1, z2⟩ := g t ht (Or.inr ⟨ht, g1, e, e1, e2⟩)
      refine ⟨f, s, ext _ _ _ z1, fun hs5 => ?_⟩
      obtain ⟨q1, q2, q3⟩ := z2 hs5
      have bkt := (HP_bk g ht (Or.inr ⟨ht, g1, e, e1, e2⟩)).1
      have r1 : blk h2 t = 3 := by
        have q2' := q2
        unfold blk at q2' ⊢
        rw [q1] at q2' ⊢
        simp at q2' ⊢
        rw [hh _ e]; exact q2'
      have : vn t + 3 ≤ n := by have := bkt.2.2.2.1; omega
      exact ⟨q1, r1, by rw [hh _ (by omega)]; exact q3⟩
    · have e1 : vn t = n := by have := g3; simp only [if_pos (show n ≤ vn t by omega)] at this; exact this.symm
      have e2 : so t = so x := by have := g4; simp only [if_pos e1] at this; omega
      have eb : blk h2 t = m := by rw [← hb]; unfold blk; rw [e2, e1, hv]
      have ep : prt t = prt x := by unfold prt; rw [e2]
      have sz2 : SZ h2 (n + m) (fun i => if n ≤ i then n else ow i) (fun i => if i = n then (so x).toNat else kd i) Fv P (f0 + 1) t (m + smm (fun j => c0 (j - prt x)) (prt x) (m - prt x)) := by
        refine Or.inr ⟨ht, ⟨g1, ?_, ?_, ?_, g4, ?_⟩, fun j => c0 (j - prt x), ?_, ?_⟩
        · rw [e1, e2]; exact b2
        · rw [e1, e2]; exact b3
        · rw [eb, e1]; exact Nat.le_refl _
        · intro j _; rw [e1]; exact if_pos (by omega)
        · rw [eb, e1, ep]; exact fun j h1 h2' => ext _ _ _ (hc1 j h1 h2')
        · rw [eb, ep]
      refine ⟨_, _, sz2, fun h5 => ?_⟩
      rcases hs with ⟨s1, s2, s3⟩ | hs
      · exact ⟨by rw [e2]; exact s1, by rw [eb]; exact s2, by rw [e1]; exact s3⟩
      · have := hs f0 _ hc1; omega
  · intro t ht
    rcases ht with z | ⟨z1, z2, z3, z4, z5⟩
    · exact Or.inl z
    · refine Or.inr ⟨z1, z2, by omega, ?_, ?_⟩
      · show (if n ≤ vn t then n else ow (vn t)) = vn t
        rw [if_neg (by omega)]; exact z4
      · show ((if vn t = n then (so x).toNat else kd (vn t) : Nat) : Int) = so t
        rw [if_neg (by omega)]; exact z5
end
end
section
def cnt (S : Nat → Prop) [DecidablePred S] (ow : Nat → Nat) : Nat → Nat
  | 0 => 0
  | m + 1 => cnt S ow m + (if S (ow m) then 1 else 0)
theorem cnt_le {S : Nat → Prop} [DecidablePred S] {ow : Nat → Nat} : ∀ m, cnt S ow m ≤ m
  | 0 => Nat.le_refl _
  | m + 1 => by
    show cnt S ow m + _ ≤ m + 1
    have := cnt_le (S := S) (ow := ow) m
    split <;> omega
theorem cnt_add {S S2 : Nat → Prop} [DecidablePred S] [DecidablePred S2] {ow : Nat → Nat} {k b : Nat} (h1 : ∀ j, j < b → ow (k + j) = k) (hS : ¬ S k) (h2 : ∀ i, S2 i ↔ S i ∨ i = k) : ∀ m, k + b ≤ m → cnt S ow m + b ≤ cnt S2 ow m := by
  have a0 : ∀ m, cnt S ow m ≤ cnt S2 ow m := by
    intro m
    induction m with
    | zero => exact Nat.le_refl _
    | succ m ih =>
      show cnt S ow m + _ ≤ cnt S2 ow m + _
      by_cases e : S (ow m)
      · rw [if_pos e, if_pos ((h2 _).mpr (Or.inl e))]; omega
      · rw [if_neg e]; omega
  have a1 : ∀ j, j ≤ b → cnt S ow (k + j) + j ≤ cnt S2 ow (k + j) := by
    intro j
    induction j with
    | zero => intro _; exact a0 k
    | succ j ih =>
      intro hj
      have e := h1 j (by omega)
      show cnt S ow (k + j) + (if S (ow (k + j)) then 1 else 0) + (j + 1) ≤ cnt S2 ow (k + j) + (if S2 (ow (k + j)) then 1 else 0)
      rw [e, if_neg hS, if_pos ((h2 k).mpr (Or.inr rfl))]
      have := ih (by omega)
      omega
  intro m hm
  obtain ⟨d, rfl⟩ : ∃ d, m = k + b + d := ⟨m - (k + b), by omega⟩
  clear hm
  induction d with
  | zero => exact a1 b (Nat.le_refl _)
  | succ d ih =>
    show cnt S ow (k + b + d) + (if S (ow (k + b + d)) then 1 else 0) + b ≤ cnt S2 ow (k + b + d) + (if S2 (ow (k + b + d)) then 1 else 0)
    by_cases e : S (ow (k + b + d))
    · rw [if_pos e, if_pos ((h2 _).mpr (Or.inl e))]; omega
    · rw [if_neg e]; omega
section
variable {h : Nat → Int64} {n : Nat} {ow kd : Nat → Nat} {Fv : Int64 → Int64 → Prop} {P : Int64 → Prop}
theorem SZ_same {f : Nat} {t x : Int64} {s : Nat} (e1 : so t = so x) (e2 : va t = va x) (ht : isH x) (z : SZ h n ow kd Fv P f x s) : SZ h n ow kd Fv P f t s := by
  cases f with
  | zero => exact z.elim
  | succ f =>
    have ev : vn t = vn x := by unfold vn; rw [e2]
    have eb : blk h t = blk h x := by unfold blk; rw [e1, ev]
    have ep : prt t = prt x := by unfold prt; rw [e1]
    rcases z with ⟨z1, -⟩ | ⟨z1, z2, c, z3, z4⟩
    · exact absurd ht z1
    · refine Or.inr ⟨by unfold isH; rw [e1]; exact z1, ?_, c, by rw [ep, eb, ev]; exact z3, by rw [eb, ep]; exact z4⟩
      unfold BK
      rw [e1, e2, ev, eb]
      exact z2
theorem SZ_big (g : HP h n ow kd Fv P) : ∀ (s : Nat) (f : Nat) (t : Int64), SZ h n ow kd Fv P f t s → 500 < s → ∃ S : Nat → Prop, ∃ _ : DecidablePred S, s ≤ 500 + cnt S ow n ∧ ∀ k, S k → ∃ f2 s2, ∃ x : Int64, isH x ∧ vn x = k ∧ SZ h n ow kd Fv P f2 x s2 ∧ s2 ≤ s := by
  intro s
  induction s using Nat.strongRecOn with
  | _ s ih =>
    intro f t z hs
    have ht : isH t := Classical.byContradiction (fun c => by
      cases f with
      | zero => exact z
      | succ f =>
        rcases z with ⟨-, -, z3⟩ | ⟨z1, -⟩
        · omega
        · exact c z1)
    have gt := SZ_gt z
    obtain ⟨f1, s1, y1, y2⟩ := g t ht gt
    have es := SZ_fun z y1
    subst es
    obtain ⟨q1, q2, q3⟩ := y2 hs
    obtain ⟨b, -⟩ := HP_bk g ht gt
    have bo := b.2.2.2.2.2
    have bn := b.2.2.2.1
    cases f with
    | zero => exact z.elim
    | succ f =>
      rcases z with ⟨z1, -⟩ | ⟨z1, z2, c, z3, z4⟩
      · exact absurd ht z1
      have ep : prt t = 1 := by unfold prt; rw [q1]; rfl
      rw [q2, ep] at z3 z4
      have c1 : c 1 = 0 := by
        have := z3 1 (by omega) (by omega)
        cases f with
        | zero => exact this.elim
        | succ f =>
          rcases this with ⟨-, -, w⟩ | ⟨w, -⟩
          · exact w
          · exact absurd w q3
      have e2 : s = 3 + c 2 := by rw [z4]; show 3 + (0 + c (1 + 0) + c (1 + 1)) = _; rw [show c (1 + 0) = 0 from c1]; show 3 + (0 + 0 + c 2) = _; omega
      have z2' := z3 2 (by omega) (by omega)
      by_cases hc : 500 < c 2
      · obtain ⟨S, dS, i1, i2⟩ := ih (c 2) (by omega) f _ z2' hc
        have nS : ¬ S (vn t) := fun w => by
          obtain ⟨f2, s2, x, x1, x2, x3, x4⟩ := i2 _ w
          have gx := SZ_gt x3
          have tx : so t = so x := by
            rcases gx with ⟨w1, -⟩ | ⟨-, -, -, -, w5⟩
            · exact absurd x1 w1
            · rw [← w5, x2]; exact b.2.2.2.2.1.symm
          have vx : va t = va x := by
            have p1 := b.1
            have p2 : 0 ≤ va x := by
              rcases gx with ⟨w1, -⟩ | ⟨-, w2, -⟩
              · exact absurd x1 w1
              · exact w2
            unfold vn at x2
            omega
          have := SZ_fun (SZ_same tx vx x1 x3) y1
          omega
        refine ⟨fun k => S k ∨ k = vn t, fun k => inferInstance, ?_, ?_⟩
        · have := cnt_add (S := S) (S2 := fun k => S k ∨ k = vn t) (ow := ow) (k := vn t) (b := 3) (fun j hj => bo j (by omega)) nS (fun i => Iff.rfl) n (by omega)
          omega
        · rintro k (w | w)
          · obtain ⟨f2, s2, x, x1, x2, x3, x4⟩ := i2 k w
            exact ⟨f2, s2, x, x1, x2, x3, by omega⟩
          · exact ⟨_, _, t, ht, w.symm, y1, Nat.le_refl _⟩
      · refine ⟨fun k => k = vn t, fun k => inferInstance, ?_, ?_⟩
        · have := cnt_add (S := fun _ => False) (S2 := fun k => k = vn t) (ow := ow) (k := vn t) (b := 3) (fun j hj => bo j (by omega)) (fun w => w) (fun i => by simp) n (by omega)
          omega
        · rintro k w
          exact ⟨_, _, t, ht, w.symm, y1, Nat.le_refl _⟩
theorem SZ_1000 (g : HP h n ow kd Fv P) (hn : n ≤ 500) {f : Nat} {t : Int64} {s : Nat} (z : SZ h n ow kd Fv P f t s) : s ≤ 1000 := by
  by_cases hs : 500 < s
  · obtain ⟨S, dS, a, -⟩ := SZ_big g s f t z hs
    have := cnt_le (S := S) (ow := ow) n
    omega
  · omega
theorem SZ_gc {h2 : Nat → Int64} {n2 : Nat} {ow2 kd2 : Nat → Nat} {fw : Int64 → Int64} {R : Int64 → Prop} (h0 : ∀ t, ¬ isH t → fw t = t)
    (h1 : ∀ t, isH t → R t → BK h n ow kd Fv t → isH (fw t) ∧ prt (fw t) = prt t ∧ BK h2 n2 ow2 kd2 Fv (fw t) ∧ blk h2 (fw t) = blk h t ∧ ∀ j, prt t ≤ j → j < blk h t → h2 (vn (fw t) + j) = fw (h (vn t + j)) ∧ (isH (h (vn t + j)) → R (h (vn t + j)))) :
    ∀ {f : Nat} {t : Int64} {s : Nat}, SZ h n ow kd Fv P f t s → (isH t → R t) → SZ h2 n2 ow2 kd2 Fv P f (fw t) s
  | 0, _, _, z, _ => z.elim
  | f + 1, t, s, z, r => by
    rcases z with ⟨z1, z2, z3⟩ | ⟨z1, z2, c, z3, z4⟩
    · rw [h0 t z1]; exact Or.inl ⟨z1, z2, z3⟩
    · obtain ⟨a1, a2, a3, a4, a5⟩ := h1 t z1 (r z1) z2
      refine Or.inr ⟨a1, a3, c, ?_, ?_⟩
      · rw [a2, a4]
        intro j p1 p2
        obtain ⟨e1, e2⟩ := a5 j p1 p2
        rw [e1]
        exact SZ_gc h0 h1 (z3 j p1 p2) e2
      · rw [a2, a4]; exact z4
end
end
section
def OK {α : Type} (Q : MS → α → Prop) (o : Option (MS × α)) : Prop := ∃ u r, o = some (u, r) ∧ Q u r
theorem ok_some {α : Type} {Q : MS → α → Prop} {u : MS} {r : α} : OK Q (some (u, r)) ↔ Q u r := ⟨fun ⟨_, _, h, q⟩ => by cases h; exact q, fun q => ⟨u, r, rfl, q⟩⟩
theorem ok_ck {α : Type} {Q : MS → α → Prop} {b : Bool} {x : Option (MS × α)} : OK Q (ck b x) ↔ b = true ∧ OK Q x := by
  cases b
  · exact ⟨fun ⟨_, _, h, _⟩ => (by cases h), fun h => (by cases h.1)⟩
  · exact ⟨fun h => ⟨rfl, h⟩, fun h => h.2⟩
theorem ok_br {α : Type} {Q : MS → α → Prop} {b : Bool} {x y : Option (MS × α)} : OK Q (br b x y) ↔ (b = true → OK Q x) ∧ (b = false → OK Q y) := by
  cases b
  · exact ⟨fun h => ⟨fun z => (by cases z), fun _ => h⟩, fun h => h.2 rfl⟩
  · exact ⟨fun h => ⟨fun _ => h, fun z => (by cases z)⟩, fun h => h.1 rfl⟩
theorem ok_lt {α β : Type} {Q : MS → α → Prop} {e : β} {f : β → Option (MS × α)} : OK Q (lt e f) ↔ OK Q (f e) := Iff.rfl
theorem ok_bnd {α β : Type} {Q : MS → α → Prop} {e : Option (MS × β)} {f : MS → β → Option (MS × α)} : OK Q (bnd e f) ↔ OK (fun u r => OK Q (f u r)) e := by
  constructor
  · rintro ⟨u, r, h, q⟩
    cases he : e with
    | none => rw [he] at h; cases h
    | some x => rw [he] at h; exact ⟨x.1, x.2, rfl, u, r, h, q⟩
  · rintro ⟨u, r, h, u2, r2, h2, q⟩
    subst h
    exact ⟨u2, r2, h2, q⟩
theorem ok_mono {α : Type} {Q Q2 : MS → α → Prop} {x : Option (MS × α)} (h : OK Q x) (m : ∀ u r, Q u r → Q2 u r) : OK Q2 x := by
  obtain ⟨u, r, e, q⟩ := h
  exact ⟨u, r, e, m u r q⟩
theorem ok_is {α : Type} {Q : MS → α → Prop} {x : Option (MS × α)} {u : MS} {r : α} (h : x = some (u, r)) (q : Q u r) : OK Q x := ⟨u, r, h, q⟩
def F (w : MS) (k : Nat) : Int := (w.1 k).toInt
def A (w : MS) (k i : Nat) : Int := (w.2.2.1 k i).toInt
theorem I_F {w : MS} {k : Nat} : w.1 k = I (F w k) := I_of _
theorem I_A {w : MS} {k i : Nat} : w.2.2.1 k i = I (A w k i) := I_of _
theorem F_r (w : MS) (k : Nat) : -2147483648 ≤ F w k ∧ F w k < 2147483648 := ti_rng _
theorem A_r (w : MS) (k i : Nat) : -2147483648 ≤ A w k i ∧ A w k i < 2147483648 := ti_rng _
def wi (u : MS) (k : Nat) (x : Int) : MS := upI u k (I x)
def wa (u : MS) (k i : Nat) (x : Int) : MS := upA u k (upd (u.2.2.1 k) i (I x))
def wj (u : MS) (k i : Nat) (t : Int64) : MS := upJ u k (vp_updL (u.2.2.2 k) i t)
def wl (u : MS) (k : Nat) (t : Int64) : MS := upL u k t
theorem wi_e {u : MS} {k : Nat} {x : Int} : upI u k (I x) = wi u k x := rfl
theorem wa_e {u : MS} {k i : Nat} {x : Int} : upA u k (upd (u.2.2.1 k) i (I x)) = wa u k i x := rfl
theorem wj_e {u : MS} {k i : Nat} {t : Int64} : upJ u k (vp_updL (u.2.2.2 k) i t) = wj u k i t := rfl
theorem wl_e {u : MS} {k : Nat} {t : Int64} : upL u k t = wl u k t := rfl
theorem F_wi {u : MS} {k j : Nat} {x : Int} (h1 : -2147483648 ≤ x) (h2 : x < 2147483648) : F (wi u k x) j = if j = k then x else F u j := by
  unfold F wi upI
  by_cases e : j = k
  · simp only [if_pos e]; exact I_ti h1 h2
  · simp only [if_neg e]
theorem F_wa {u : MS} {k i j : Nat} {x : Int} : F (wa u k i x) j = F u j := rfl
theorem F_wj {u : MS} {k i j : Nat} {x : Int64} : F (wj u k i x) j = F u j := rfl
theorem F_wl {u : MS} {k j : Nat} {x : Int64} : F (wl u k x) j = F u j := rfl
theorem A_wi {u : MS} {k j i : Nat} {x : Int} : A (wi u k x) j i = A u j i := rfl
theorem A_wa {u : MS} {k i k2 i2 : Nat} {x : Int} (h1 : -2147483648 ≤ x) (h2 : x < 2147483648) : A (wa u k i x) k2 i2 = if k2 = k then (if i2 = i then x else A u k2 i2) else A u k2 i2 := by
  unfold A wa upA upd
  by_cases e : k2 = k
  · subst e
    simp only [if_true]
    by_cases e2 : i2 = i
    · simp only [if_pos e2]; exact I_ti h1 h2
    · simp only [if_neg e2]
  · simp only [if_neg e]
theorem A_wj {u : MS} {k i k2 i2 : Nat} {x : Int64} : A (wj u k i x) k2 i2 = A u k2 i2 := rfl
theorem A_wl {u : MS} {k k2 i2 : Nat} {x : Int64} : A (wl u k x) k2 i2 = A u k2 i2 := rfl
theorem J_wi {u : MS} {k : Nat} {x : Int} : (wi u k x).2.2.2 = u.2.2.2 := rfl
theorem J_wa {u : MS} {k i : Nat} {x : Int} : (wa u k i x).2.2.2 = u.2.2.2 := rfl
theorem J_wl {u : MS} {k : Nat} {x : Int64} : (wl u k x).2.2.2 = u.2.2.2 := rfl
theorem J_wj {u : MS} {k i k2 i2 : Nat} {x : Int64} : (wj u k i x).2.2.2 k2 i2 = if k2 = k then (if i2 = i then x else u.2.2.2 k2 i2) else u.2.2.2 k2 i2 := by
  unfold wj upJ vp_updL
  by_cases e : k2 = k
  · subst e
    simp only [if_true]
  · simp only [if_neg e]
theorem L_wi {u : MS} {k : Nat} {x : Int} : (wi u k x).2.1 = u.2.1 := rfl
theorem L_wa {u : MS} {k i : Nat} {x : Int} : (wa u k i x).2.1 = u.2.1 := rfl
theorem L_wj {u : MS} {k i : Nat} {x : Int64} : (wj u k i x).2.1 = u.2.1 := rfl
theorem L_wl {u : MS} {k j : Nat} {x : Int64} : (wl u k x).2.1 j = if j = k then x else u.2.1 j := rfl
def FR (is ls as js : List Nat) (u w : MS) : Prop := (∀ k, k ∉ is → w.1 k = u.1 k) ∧ (∀ k, k ∉ ls → w.2.1 k = u.2.1 k) ∧ (∀ k, k ∉ as → w.2.2.1 k = u.2.2.1 k) ∧ ∀ k, k ∉ js → w.2.2.2 k = u.2.2.2 k
theorem FR.rf {is ls as js : List Nat} {u : MS} : FR is ls as js u u := ⟨fun _ _ => rfl, fun _ _ => rfl, fun _ _ => rfl, fun _ _ => rfl⟩
theorem FR.tr {is ls as js : List Nat} {u v w : MS} (a : FR is ls as js u v) (b : FR is ls as js v w) : FR is ls as js u w := ⟨fun k h => (b.1 k h).trans (a.1 k h), fun k h => (b.2.1 k h).trans (a.2.1 k h), fun k h => (b.2.2.1 k h).trans (a.2.2.1 k h), fun k h => (b.2.2.2 k h).trans (a.2.2.2 k h)⟩
theorem FR.mo {is ls as js is2 ls2 as2 js2 : List Nat} {u w : MS} (a : FR is ls as js u w) (h1 : ∀ k, k ∈ is → k ∈ is2) (h2 : ∀ k, k ∈ ls → k ∈ ls2) (h3 : ∀ k, k ∈ as → k ∈ as2) (h4 : ∀ k, k ∈ js → k ∈ js2) : FR is2 ls2 as2 js2 u w :=
  ⟨fun k h => a.1 k (fun z => h (h1 k z)), fun k h => a.2.1 k (fun z => h (h2 k z)), fun k h => a.2.2.1 k (fun z => h (h3 k z)), fun k h => a.2.2.2 k (fun z => h (h4 k z))⟩
theorem FR.F {is ls as js : List Nat} {u w : MS} (a : FR is ls as js u w) {k : Nat} (h : k ∉ is) : F w k = F u k := by show (w.1 k).toInt = _; rw [a.1 k h]; rfl
theorem FR.A {is ls as js : List Nat} {u w : MS} (a : FR is ls as js u w) {k i : Nat} (h : k ∉ as) : A w k i = A u k i := by show (w.2.2.1 k i).toInt = _; rw [a.2.2.1 k h]; rfl
theorem FR.wi {is ls as js : List Nat} {u w : MS} (a : FR is ls as js u w) {k : Nat} {x : Int} (h : k ∈ is) : FR is ls as js u (wi w k x) := ⟨fun j hj => (if_neg (fun (e : j = k) => hj (e ▸ h))).trans (a.1 j hj), a.2⟩
theorem FR.wa {is ls as js : List Nat} {u w : MS} (a : FR is ls as js u w) {k i : Nat} {x : Int} (h : k ∈ as) : FR is ls as js u (wa w k i x) := ⟨a.1, a.2.1, fun j hj => (if_neg (fun (e : j = k) => hj (e ▸ h))).trans (a.2.2.1 j hj), a.2.2.2⟩
theorem FR.wj {is ls as js : List Nat} {u w : MS} (a : FR is ls as js u w) {k i : Nat} {x : Int64} (h : k ∈ js) : FR is ls as js u (wj w k i x) := ⟨a.1, a.2.1, a.2.2.1, fun j hj => (if_neg (fun (e : j = k) => hj (e ▸ h))).trans (a.2.2.2 j hj)⟩
theorem FR.wl {is ls as js : List Nat} {u w : MS} (a : FR is ls as js u w) {k : Nat} {x : Int64} (h : k ∈ ls) : FR is ls as js u (wl w k x) := ⟨a.1, fun j hj => (if_neg (fun (e : j = k) => hj (e ▸ h))).trans (a.2.1 j hj), a.2.2⟩
end
section
def mk (s v : Int) : Int64 := ((I s).toInt64 <<< ((32 : Int32).toInt64 &&& 63)) ||| ((I v).toInt64 &&& 4294967295)
theorem so_bv (t : Int64) : ((t >>> ((32 : Int32).toInt64 &&& 63)).toInt32).toBitVec = (t.toBitVec.sshiftRight 32).setWidth 32 := by
  show (t >>> ((32 : Int32).toInt64 &&& 63)).toBitVec.signExtend 32 = _
  rw [Int64.toBitVec_shiftRight]
  have e : (((32 : Int32).toInt64 &&& 63).toBitVec.smod 64) = 32#64 := by decide
  rw [e]
  rw [BitVec.signExtend_eq_setWidth_of_le _ (by decide)]
  rfl
theorem sx (x : BitVec 32) : BitVec.signExtend 32 x = x := by rw [BitVec.signExtend_eq_setWidth_of_le _ (by decide)]; simp
theorem mk_bv (s v : Int) : (mk s v).toBitVec = (((I s).toBitVec.signExtend 64) <<< 32) ||| (((I v).toBitVec.signExtend 64) &&& 4294967295#64) := by
  unfold mk
  have e : (((32 : Int32).toInt64 &&& 63).toBitVec.smod 64) = 32#64 := by decide
  rw [Int64.toBitVec_or, Int64.toBitVec_shiftLeft, e, Int64.toBitVec_and]
  rfl
theorem so_mk {s v : Int} (h1 : -2147483648 ≤ s) (h2 : s < 2147483648) : so (mk s v) = s := by
  have e : ((mk s v) >>> ((32 : Int32).toInt64 &&& 63)).toInt32 = I s := by
    apply Int32.toBitVec_inj.mp
    rw [so_bv, mk_bv]
    ext i hi
    rw [BitVec.getElem_setWidth, BitVec.getLsbD_sshiftRight]
    have a1 : decide (64 ≤ i) = false := decide_eq_false (by omega)
    have a2 : 32 + i < 64 := by omega
    rw [a1, if_pos a2, BitVec.getLsbD_or, BitVec.getLsbD_shiftLeft, BitVec.getLsbD_and, BitVec.getLsbD_signExtend]
    have a3 : (4294967295#64).getLsbD (32 + i) = false := by
      have : ∀ j, j < 32 → (4294967295#64).getLsbD (32 + j) = false := by decide
      exact this i hi
    rw [a3]
    have a4 : decide (32 + i < 32) = false := decide_eq_false (by omega)
    have a5 : decide (32 + i < 64) = true := decide_eq_true a2
    have a6 : 32 + i - 32 = i := by omega
    have a7 : i < 32 := hi
    rw [a4, a5, a6]
    simp [a7, show i < 64 by omega]
  unfold so
  rw [e, I_ti h1 h2]
theorem va_mk {s v : Int} (h1 : -2147483648 ≤ v) (h2 : v < 2147483648) : va (mk s v) = v := by
  have e : (mk s v).toInt32 = I v := by
    apply Int32.toBitVec_inj.mp
    show (mk s v).toBitVec.signExtend 32 = _
    rw [BitVec.signExtend_eq_setWidth_of_le _ (by decide), mk_bv]
    ext i hi
    rw [BitVec.getElem_setWidth, BitVec.getLsbD_or, BitVec.getLsbD_shiftLeft, BitVec.getLsbD_and, BitVec.getLsbD_signExtend]
    have a3 : (4294967295#64).getLsbD i = true := by
      have : ∀ j, j < 32 → (4294967295#64).getLsbD j = true := by decide
      exact this i hi
    rw [a3]
    simp [hi, show i < 64 by omega, BitVec.getElem_signExtend]
  unfold va
  rw [e, I_ti h1 h2]
theorem so_r (t : Int64) : -2147483648 ≤ so t ∧ so t < 2147483648 := ti_rng _
theorem va_r (t : Int64) : -2147483648 ≤ va t ∧ va t < 2147483648 := ti_rng _
theorem sortOf_e {N : Nat} {u : MS} {t : Int64} : fm_M_sortOf N u t = some (u, I (so t)) := by
  show some (u, (t >>> ((32 : Int32).toInt64 &&& 63)).toInt32) = _
  rw [I_of ((t >>> ((32 : Int32).toInt64 &&& 63)).toInt32)]; rfl
theorem valueOf_e {N : Nat} {u : MS} {t : Int64} : fm_M_valueOf N u t = some (u, I (va t)) := by
  show some (u, t.toInt32) = _
  rw [I_of t.toInt32]; rfl
theorem term_e {N : Nat} {u : MS} {s v : Int} : fm_M_term N u (I s) (I v) = some (u, mk s v) := rfl
theorem bnd_so {α β : Type} {u : MS} {r : α} {f : MS → α → Option β} : bnd (some (u, r)) f = f u r := rfl
theorem br_tq {α : Type} {x y : α} : br true x y = x := rfl
theorem br_fq {α : Type} {x y : α} : br false x y = y := rfl
theorem ck_t {α : Type} {x : Option α} : ck true x = x := rfl
theorem lt_e {α β : Type} {x : α} {f : α → Option β} : lt x f = f x := rfl
theorem inHeap_e {N : Nat} {u : MS} {t : Int64} : (isH t → fm_M_inHeap N u t = some (u, I 1)) ∧ (¬ isH t → fm_M_inHeap N u t = some (u, I 0)) := by
  have hr := so_r t
  have key : fm_M_inHeap N u t = br (decide (so t = 3)) (some (u, 1)) (br (decide (so t = 5)) (some (u, 1)) (br (decide (so t = 7)) (some (u, 1)) (some (u, 0)))) := by
    unfold fm_M_inHeap fb_M_inHeap_0
    rw [sortOf_e, bnd_so]
    rw [show (decide (I (so t) = 3)) = decide (so t = 3) from decide_eq_decide.mpr (I_eq (y := 3) hr.1 hr.2 (by decide) (by decide)), show (decide (I (so t) = 5)) = decide (so t = 5) from decide_eq_decide.mpr (I_eq (y := 5) hr.1 hr.2 (by decide) (by decide)), show (decide (I (so t) = 7)) = decide (so t = 7) from decide_eq_decide.mpr (I_eq (y := 7) hr.1 hr.2 (by decide) (by decide))]
    rfl
  constructor
  · intro h
    rw [key]
    rcases h with e | e | e <;> rw [e] <;> rfl
  · intro h
    unfold isH at h
    rw [key, decide_eq_false (fun e => h (Or.inl e)), decide_eq_false (fun e => h (Or.inr (Or.inl e))), decide_eq_false (fun e => h (Or.inr (Or.inr e)))]
    rfl
def hp (u : MS) (p : Nat) : Nat → Int64 := fun i => u.2.2.2 88 (500 * p + i)
theorem cell_e {N : Nat} {u : MS} {p k : Nat} (hp1 : p < 25) (hk : k < 500) : fm_M_cell N u (I p) (I k) = some (u, hp u p k) := by
  show ck (inb (I p * 500 + I k) 12500) (some (u, u.2.2.2 88 (I p * 500 + I k).toNatClampNeg)) = _
  have e : I p * 500 + I k = I (p * 500 + k) := by rw [I_lit (n := 500), I_mul, I_add]
  rw [e, (I_inb (n := 12500) (by omega) (by omega)).mpr ⟨by omega, by omega⟩, I_tn (by omega) (by omega), ck_t]
  unfold hp
  rw [show ((p : Int) * 500 + k).toNat = 500 * p + k from by omega]
theorem partsFrom_e {N : Nat} {u : MS} {t : Int64} (h : isH t) : fm_M_partsFrom N u t = some (u, I (prt t)) := by
  have hr := so_r t
  unfold fm_M_partsFrom fb_M_partsFrom_0
  rw [sortOf_e, bnd_so]
  rw [show (decide (I (so t) = 7)) = decide (so t = 7) from decide_eq_decide.mpr (I_eq (y := 7) hr.1 hr.2 (by decide) (by decide)), show (decide (I (so t) = 5)) = decide (so t = 5) from decide_eq_decide.mpr (I_eq (y := 5) hr.1 hr.2 (by decide) (by decide))]
  unfold prt
  rcases h with e | e | e <;> rw [e] <;> rfl
theorem sizeOf_e {N : Nat} {u : MS} {t : Int64} {p n : Nat} {ow kd : Nat → Nat} {Fv : Int64 → Int64 → Prop} (hp1 : p < 25) (hn : n ≤ 500) (h : isH t) (b : BK (hp u p) n ow kd Fv t) : fm_M_sizeOf N u (I p) t = some (u, I (blk (hp u p) t)) := by
  have hr := so_r t
  obtain ⟨b1, b2, b3, b4, -⟩ := b
  unfold fm_M_sizeOf fb_M_sizeOf_0
  rw [sortOf_e, bnd_so, valueOf_e, bnd_so]
  rw [show (decide (I (so t) = 7)) = decide (so t = 7) from decide_eq_decide.mpr (I_eq (y := 7) hr.1 hr.2 (by decide) (by decide)), show (decide (I (so t) = 5)) = decide (so t = 5) from decide_eq_decide.mpr (I_eq (y := 5) hr.1 hr.2 (by decide) (by decide)), show (decide (I (so t) = 3)) = decide (so t = 3) from decide_eq_decide.mpr (I_eq (y := 3) hr.1 hr.2 (by decide) (by decide))]
  have ev : va t = (vn t : Int) := by unfold vn; omega
  unfold blk at b4 ⊢
  rcases h with e | e | e
  · rw [e] at b4 ⊢
    simp at b4
    show bnd (fm_M_cell N u (I p) (I (va t) + 1)) (fun u3 r3 => some (u3, 2 + r3.toInt32)) = _
    rw [ev, show I (vn t : Int) + 1 = I ((vn t + 1 : Nat) : Int) from by rw [I_lit (n := 1), I_add]; rfl, cell_e hp1 (by omega), bnd_so]
    have := (b3 e).1
    show some (u, 2 + (hp u p (vn t + 1)).toInt32) = some (u, I _)
    rw [I_of (hp u p (vn t + 1)).toInt32, I_lit (n := 2), I_add]
    congr 3
    show (2 : Int) + va (hp u p (vn t + 1)) = ((2 + vn (hp u p (vn t + 1)) : Nat) : Int)
    unfold vn at *
    omega
  · rw [e] at b4 ⊢
    simp at b4
    show bnd (fm_M_cell N u (I p) (I (va t))) (fun u3 r3 => some (u3, 1 + r3.toInt32)) = _
    rw [ev, cell_e hp1 (by omega), bnd_so]
    have := (b2 e).1
    show some (u, 1 + (hp u p (vn t)).toInt32) = some (u, I _)
    rw [I_of (hp u p (vn t)).toInt32, I_lit (n := 1), I_add]
    congr 3
    show (1 : Int) + va (hp u p (vn t)) = ((1 + vn (hp u p (vn t)) : Nat) : Int)
    unfold vn at *
    omega
  · rw [e] at b4 ⊢; rfl
end
section
theorem smm_split {c : Nat → Nat} {a : Nat} : ∀ n, smm c a (n + 1) = c a + smm c (a + 1) n
  | 0 => by show 0 + c (a + 0) = c a + 0; simp
  | n + 1 => by
    show smm c a (n + 1) + c (a + (n + 1)) = c a + (smm c (a + 1) n + c (a + 1 + n))
    rw [smm_split n, show a + 1 + n = a + (n + 1) from by omega]; omega
theorem smm_upd {c : Nat → Nat} {x m : Nat} : smm (fun i => if i = m then x else c i) 0 (m + 1) = smm c 0 m + x := by
  show smm _ 0 m + _ = _
  rw [smm_eq (d := c) (fun j _ h2 => if_neg (by omega))]
  simp
theorem decI {x y : Int} (h1 : -2147483648 ≤ x) (h2 : x < 2147483648) (h3 : -2147483648 ≤ y) (h4 : y < 2147483648) : decide (I x ≤ I y) = decide (x ≤ y) := decide_eq_decide.mpr (I_le h1 h2 h3 h4)
theorem decL {x y : Int} (h1 : -2147483648 ≤ x) (h2 : x < 2147483648) (h3 : -2147483648 ≤ y) (h4 : y < 2147483648) : decide (I x < I y) = decide (x < y) := decide_eq_decide.mpr (I_lt h1 h2 h3 h4)
theorem decE {x y : Int} (h1 : -2147483648 ≤ x) (h2 : x < 2147483648) (h3 : -2147483648 ≤ y) (h4 : y < 2147483648) : decide (I x = I y) = decide (x = y) := decide_eq_decide.mpr (I_eq h1 h2 h3 h4)
theorem inb_at {k n : Nat} {x : Int} (hk : ln k = n) (h1 : 0 ≤ x) (h2 : x < n) (h3 : n < 2147483648) : inb (I x) (ln k) = true := by rw [hk]; exact (I_inb (by omega) (by omega)).mpr ⟨h1, h2⟩
theorem lit0q : (0 : Int32) = I 0 := rfl
theorem lit1q : (1 : Int32) = I 1 := rfl
theorem lit500 : (500 : Int32) = I 500 := rfl
theorem lit501 : (501 : Int32) = I 501 := rfl
theorem litm1q : (-1 : Int32) = I (-1) := rfl
section
variable {h : Nat → Int64} {n p s f N : Nat} {ow kd : Nat → Nat} {Fv : Int64 → Int64 → Prop} {P : Int64 → Prop}
theorem cs_end {u : MS} {x : Nat} {G : (MS → Int32 → Int32 → Int32 → Option (MS × Int32)) × (MS → Int32 → Int32 → Int32 → Int64 → Int32 → Int32 → Option (MS × Int32))} (hx : x ≤ 1000) : fb_M_copySize_116 N G u (I x) = some (u, I ((if x ≤ 500 then x else 501 : Nat))) := by
  unfold fb_M_copySize_116
  rw [lit500, decI (by omega) (by omega) (by omega) (by omega)]
  by_cases e : x ≤ 500
  · rw [if_pos e, decide_eq_true (by omega)]; rfl
  · rw [if_neg e, decide_eq_false (by omega)]; rfl
theorem cs_loop (hn : n ≤ 500) (hp1 : p < 25) (hs : s ≤ 1000) : ∀ (m : Nat),
    (∀ (u : MS) (c : Nat → Nat) (many cn : Nat), hp u p = h → (∀ i, i < many → SZ h n ow kd Fv P f (u.2.2.2 141 i) (c i)) → cn + smm c 0 many = s → many ≤ cn + 1 → smm (fun i => 2 + 3 * c i) 0 many < m → OK (fun w r => FR [] [] [] [141] u w ∧ r = I ((if s ≤ 500 then s else 501 : Nat))) ((gg_M_copySize N m).1 u (I p) (I cn) (I many))) ∧
    (∀ (u : MS) (c d : Nat → Nat) (many cn j : Nat) (y : Int64), hp u p = h → (∀ i, i < many → SZ h n ow kd Fv P f (u.2.2.2 141 i) (c i)) → isH y → BK h n ow kd Fv y → prt y ≤ j → j ≤ blk h y → (∀ i, j ≤ i → i < blk h y → SZ h n ow kd Fv P f (h (vn y + i)) (d i)) → cn + smm c 0 many + smm d j (blk h y - j) = s → many + (blk h y - j) ≤ cn + 1 → smm (fun i => 2 + 3 * c i) 0 many + smm (fun i => 3 + 3 * d i) j (blk h y - j) + 1 < m → OK (fun w r => FR [] [] [] [141] u w ∧ r = I ((if s ≤ 500 then s else 501 : Nat))) ((gg_M_copySize N m).2 u (I p) (I cn) (I many) y (I (blk h y)) (I j))) := by
  intro m
  induction m with
  | zero => exact ⟨fun u c many cn _ _ _ _ z => absurd z (Nat.not_lt_zero _), fun u c d many cn j y _ _ _ _ _ _ _ _ _ z => absurd z (Nat.not_lt_zero _)⟩
  | succ m ih =>
    obtain ⟨ih1, ih2⟩ := ih
    refine ⟨fun u c many cn hu hc hsum hmc hfu => ?_, fun u c d many cn j y hu hc hy hb hj1 hj2 hd hsum hmc hfu => ?_⟩
    · show OK _ (fb_M_copySize_13 N (gg_M_copySize N m) u (I p) (I cn) (I many))
      unfold fb_M_copySize_13
      rw [lit0q, lit500, decI (by omega) (by omega) (by omega) (by omega), decL (by omega) (by omega) (by omega) (by omega)]
      cases many with
      | zero =>
        rw [decide_eq_true (by omega), br_tq]
        have e : cn = s := by rw [← hsum]; rfl
        rw [e, cs_end hs]
        exact ok_some.mpr ⟨FR.rf, rfl⟩
      | succ many =>
        rw [decide_eq_false (by omega), br_fq]
        have hlast : smm c 0 (many + 1) = smm c 0 many + c many := by show smm c 0 many + c (0 + many) = _; rw [Nat.zero_add]
        have hphi : smm (fun i => 2 + 3 * c i) 0 (many + 1) = smm (fun i => 2 + 3 * c i) 0 many + (2 + 3 * c many) := by show smm _ 0 many + (2 + 3 * c (0 + many)) = _; rw [Nat.zero_add]
        by_cases e5 : 500 < cn
        · rw [decide_eq_true (by omega), br_tq, cs_end (by omega)]
          rw [if_neg (by omega), if_neg (by omega)]
          exact ok_some.mpr ⟨FR.rf, rfl⟩
        rw [decide_eq_false (by omega), br_fq, litm1q, I_add, show ((many + 1 : Nat) : Int) + -1 = (many : Int) from by omega]
        rw [inb_at (k := 141) (n := 3000) rfl (by omega) (by omega) (by decide), ck_t, lt_e, I_tn (by omega) (by omega), Int.toNat_natCast]
        generalize hy : u.2.2.2 141 many = y
        have zy := hc many (by omega)
        rw [hy] at zy
        by_cases hh : isH y
        · rw [inHeap_e.1 hh, bnd_so, decE (by omega) (by omega) (by omega) (by omega), decide_eq_false (by omega), br_fq]
          cases f with
          | zero => exact zy.elim
          | succ f =>
            rcases zy with ⟨z1, -⟩ | ⟨-, b, d, z3, z4⟩
            · exact absurd hh z1
            have bn := b.2.2.2.1
            have hu' : BK (hp u p) n ow kd Fv y := by rw [hu]; exact b
            rw [sizeOf_e hp1 hn hh hu', bnd_so, partsFrom_e hh, bnd_so, hu, I_add]
            have pl := prt_le (h := h) hh
            have hsd : smm (fun i => 3 + 3 * d i) (prt y) (blk h y - prt y) = 3 * (blk h y - prt y) + 3 * smm d (prt y) (blk h y - prt y) := by
              generalize blk h y - prt y = q
              induction q with
              | zero => rfl
              | succ q iq =>
                show smm (fun i => 3 + 3 * d i) (prt y) q + (3 + 3 * d (prt y + q)) = 3 * (q + 1) + 3 * (smm d (prt y) q + d (prt y + q))
                rw [iq]; omega
            have := ih2 u c d many (cn + blk h y) (prt y) y hu (fun i hi => hc i (by omega)) hh b (Nat.le_refl _) pl (fun i a b => SZ_mono (z3 i a b)) (by omega) (by omega) (by omega)
            rw [show ((cn + blk h y : Nat) : Int) = (cn : Int) + (blk h y : Int) from by omega] at this
            exact this
        · rw [inHeap_e.2 hh, bnd_so, decE (by omega) (by omega) (by omega) (by omega), decide_eq_true rfl, br_tq]
          have c0 : c many = 0 := by
            cases f with
            | zero => exact zy.elim
            | succ f =>
              rcases zy with ⟨-, -, z⟩ | ⟨z, -⟩
              · exact z
              · exact absurd z hh
          exact ih1 u c many cn hu (fun i hi => hc i (by omega)) (by omega) (by omega) (by omega)
    · show OK _ (fb_M_copySize_69 N (gg_M_copySize N m) u (I p) (I cn) (I many) y (I (blk h y)) (I j))
      have bn := hb.2.2.2.1
      unfold fb_M_copySize_69 fb_M_copySize_113
      rw [lit500, decI (by omega) (by omega) (by omega) (by omega), decL (by omega) (by omega) (by omega) (by omega)]
      by_cases ej : blk h y ≤ j
      · rw [decide_eq_true (by omega), br_tq]
        have e0 : blk h y - j = 0 := by omega
        rw [e0] at hsum hfu
        exact ih1 u c many cn hu hc (by rw [← hsum]; rfl) (by omega) (by omega)
      rw [decide_eq_false (by omega), br_fq]
      obtain ⟨q, hq⟩ : ∃ q, blk h y - j = q + 1 := ⟨blk h y - j - 1, by omega⟩
      have hq2 : blk h y - (j + 1) = q := by omega
      rw [hq, smm_split] at hsum hfu
      by_cases e5 : 500 < cn
      · rw [decide_eq_true (by omega), br_tq]
        cases m with
        | zero => omega
        | succ m =>
          show OK _ (fb_M_copySize_13 N (gg_M_copySize N m) u (I p) (I cn) (I many))
          unfold fb_M_copySize_13
          rw [lit0q, lit500, decI (by omega) (by omega) (by omega) (by omega), decL (by omega) (by omega) (by omega) (by omega), cs_end (by omega), if_neg (by omega), if_neg (by omega), decide_eq_true (show (500 : Int) < cn by omega), br_tq]
          cases decide ((many : Int) ≤ 0) <;> exact ok_some.mpr ⟨FR.rf, rfl⟩
      rw [decide_eq_false (by omega), br_fq, valueOf_e, bnd_so]
      have ev : va y = (vn y : Int) := by have := hb.1; unfold vn; omega
      rw [ev, I_add, show (vn y : Int) + (j : Int) = ((vn y + j : Nat) : Int) from by omega, cell_e hp1 (by omega), bnd_so, hu]
      rw [inb_at (k := 141) (n := 3000) rfl (by omega) (by omega) (by decide), ck_t, lt_e, I_tn (by omega) (by omega), Int.toNat_natCast, lit1q, I_add, I_add]
      have wu : hp (wj u 141 many (h (vn y + j))) p = h := by rw [← hu]; rfl
      have := ih2 (wj u 141 many (h (vn y + j))) (fun i => if i = many then d j else c i) d (many + 1) cn (j + 1) y wu (fun i hi => by
        by_cases e : i = many
        · subst e
          rw [J_wj, if_pos rfl, if_pos rfl]
          simp only [if_true]
          exact hd j (Nat.le_refl _) (by omega)
        · rw [J_wj, if_pos rfl, if_neg e]
          simp only [if_neg e]
          exact hc i (by omega)) hy hb (by omega) (by omega) (fun i a b => hd i (by omega) b) (by rw [smm_upd, hq2]; omega) (by omega) (by
          have e1 : smm (fun i => 2 + 3 * (if i = many then d j else c i)) 0 (many + 1) = smm (fun i => 2 + 3 * c i) 0 many + (2 + 3 * d j) := by
            show smm _ 0 many + _ = _
            rw [smm_eq (d := fun i => 2 + 3 * c i) (fun i _ h2 => by simp only [if_neg (show ¬ i = many by omega)])]
            simp
          rw [e1, hq2]; omega)
      refine ok_mono this (fun w r hw => ⟨FR.tr (FR.wj FR.rf (by decide)) hw.1, hw.2⟩)
theorem copySize_ok {u : MS} {t : Int64} (g : HP (hp u p) n ow kd Fv P) (hn : n ≤ 500) (hp1 : p < 25) (z : SZ (hp u p) n ow kd Fv P f t s) (hN : 3100 ≤ N) : OK (fun w r => FR [] [] [] [141] u w ∧ r = I ((if s ≤ 500 then s else 501 : Nat))) (fm_M_copySize N u (I p) t) := by
  have hs := SZ_1000 g hn z
  unfold fm_M_copySize fb_M_copySize_0
  rw [lit0q, lit1q, inb_at (k := 141) (n := 3000) rfl (by omega) (by omega) (by decide), ck_t, lt_e, I_tn (by omega) (by omega)]
  have := (cs_loop (h := hp u p) (N := N) (f := f) (P := P) (Fv := Fv) (ow := ow) (kd := kd) hn hp1 hs N).1 (wj u 141 0 t) (fun _ => s) 1 0 rfl (fun i hi => by
    have e : i = 0 := by omega
    subst e
    rw [J_wj, if_pos rfl, if_pos rfl]; exact z) (by show 0 + (0 + s) = s; omega) (by omega) (by show 0 + (2 + 3 * s) < N; omega)
  exact ok_mono this (fun w r hw => ⟨FR.tr (FR.wj FR.rf (by decide)) hw.1, hw.2⟩)
end
end
section
def rp (t : Int64) (x : Int) : Int64 := (t &&& (-4294967296)) ||| (I x).toInt64
theorem nonneg_msb {x : Int} (h1 : 0 ≤ x) (h2 : x < 2147483648) : (I x).toBitVec.msb = false := by
  rw [BitVec.msb_eq_toInt]
  have : (I x).toBitVec.toInt = x := I_ti (by omega) h2
  rw [this]
  exact decide_eq_false (by omega)
theorem rp_bv (t : Int64) (x : Int) : (rp t x).toBitVec = (t.toBitVec &&& 18446744069414584320#64) ||| ((I x).toBitVec.signExtend 64) := by
  unfold rp
  rw [Int64.toBitVec_or, Int64.toBitVec_and]
  rfl
theorem so_rp {t : Int64} {x : Int} (h1 : 0 ≤ x) (h2 : x < 2147483648) : so (rp t x) = so t := by
  unfold so
  congr 1
  apply Int32.toBitVec_inj.mp
  rw [so_bv, so_bv, rp_bv]
  ext i hi
  rw [BitVec.getElem_setWidth, BitVec.getElem_setWidth, BitVec.getLsbD_sshiftRight, BitVec.getLsbD_sshiftRight]
  have a1 : decide (64 ≤ i) = false := decide_eq_false (by omega)
  have a2 : 32 + i < 64 := by omega
  rw [a1, if_pos a2, if_pos a2, BitVec.getLsbD_or, BitVec.getLsbD_and, BitVec.getLsbD_signExtend, nonneg_msb h1 h2]
  have a3 : (18446744069414584320#64).getLsbD (32 + i) = true := by
    have : ∀ j, j < 32 → (18446744069414584320#64).getLsbD (32 + j) = true := by decide
    exact this i hi
  rw [a3]
  simp
theorem va_rp {t : Int64} {x : Int} (h1 : 0 ≤ x) (h2 : x < 2147483648) : va (rp t x) = x := by
  have e : (rp t x).toInt32 = I x := by
    apply Int32.toBitVec_inj.mp
    show (rp t x).toBitVec.signExtend 32 = _
    rw [BitVec.signExtend_eq_setWidth_of_le _ (by decide), rp_bv]
    ext i hi
    rw [BitVec.getElem_setWidth, BitVec.getLsbD_or, BitVec.getLsbD_and]
    have a3 : (18446744069414584320#64).getLsbD i = false := by
      have : ∀ j, j < 32 → (18446744069414584320#64).getLsbD j = false := by decide
      exact this i hi
    rw [a3]
    simp [hi, show i < 64 by omega, BitVec.getElem_signExtend]
  unfold va
  rw [e, I_ti (by omega) h2]
def bs (h : Nat → Int64) (kd : Nat → Nat) (k : Nat) : Nat := blk h (mk (kd k) k)
def pk (kd : Nat → Nat) (k : Nat) : Nat := prt (mk (kd k) k)
theorem bs_eq {h : Nat → Int64} {kd : Nat → Nat} {t : Int64} (e : (kd (vn t) : Int) = so t) (hv : vn t < 1000) : bs h kd (vn t) = blk h t ∧ pk kd (vn t) = prt t := by
  have hr := so_r t
  have e1 : so (mk (kd (vn t)) (vn t)) = so t := by rw [so_mk (by omega) (by omega), e]
  have e2 : vn (mk (kd (vn t)) (vn t)) = vn t := by show (va _).toNat = _; rw [va_mk (by omega) (by omega)]; omega
  unfold bs pk blk prt
  rw [e1, e2]
  exact ⟨rfl, rfl⟩
def fw (w : MS) (y : Int64) : Int64 := rp y (A w 135 (vn y))
def GC (h : Nat → Int64) (n : Nat) (ow kd : Nat → Nat) (w : MS) (U C sc : Nat) (ow2 kd2 ks : Nat → Nat) : Prop :=
  (F w 136 = U ∧ F w 138 = C ∧ C ≤ U ∧ sc ≤ U) ∧
  (∀ k, k < 500 → A w 135 k = -1 ∨ (0 ≤ A w 135 k ∧ k < n ∧ ow k = k ∧ (kd k = 3 ∨ kd k = 5 ∨ kd k = 7))) ∧
  (∀ k, k < 500 → A w 135 k ≠ -1 → (A w 135 k).toNat + bs h kd k ≤ U ∧ kd2 (A w 135 k).toNat = kd k ∧ ∀ j, j < bs h kd k → ow2 ((A w 135 k).toNat + j) = (A w 135 k).toNat) ∧
  (U ≤ cnt (fun k => k < 500 ∧ A w 135 k ≠ -1) ow n) ∧
  (∀ i, i < C → ks i < 500 ∧ A w 135 (ks i) ≠ -1 ∧ so (w.2.2.2 137 i) = kd (ks i) ∧ va (w.2.2.2 137 i) = A w 135 (ks i) ∧ (i + 1 < C → A w 135 (ks (i + 1)) = A w 135 (ks i) + bs h kd (ks i)) ∧ (i + 1 = C → (U : Int) = A w 135 (ks i) + bs h kd (ks i))) ∧
  ((C = 0 → U = 0) ∧ (0 < C → A w 135 (ks 0) = 0)) ∧
  (∀ k, k < 500 → A w 135 k ≠ -1 → ∃ i, i < C ∧ ks i = k) ∧
  (∀ k, k < 500 → A w 135 k ≠ -1 → ∀ j, j < bs h kd k → ((A w 135 k).toNat + j < sc ∧ pk kd k ≤ j ∧ isH (h (k + j)) → A w 135 (vn (h (k + j))) ≠ -1 ∧ w.2.2.2 134 ((A w 135 k).toNat + j) = fw w (h (k + j))) ∧ (¬ ((A w 135 k).toNat + j < sc ∧ pk kd k ≤ j ∧ isH (h (k + j))) → w.2.2.2 134 ((A w 135 k).toNat + j) = h (k + j)))
section
variable {h : Nat → Int64} {n p N U C sc : Nat} {ow kd ow2 kd2 ks : Nat → Nat} {Fv : Int64 → Int64 → Prop} {P : Int64 → Prop} {w : MS} {t : Int64}
theorem GC_add {w2 : MS} {k : Nat} (g : HP h n ow kd Fv P) (hn : n ≤ 500) (c : GC h n ow kd w U C sc ow2 kd2 ks) (hk : k < n) (ho : ow k = k) (hkd : kd k = 3 ∨ kd k = 5 ∨ kd k = 7) (hm : A w 135 k = -1)
    (f1 : F w2 136 = U + bs h kd k) (f2 : F w2 138 = C + 1) (f3 : A w2 135 k = U) (f4 : ∀ i, i < 500 → i ≠ k → A w2 135 i = A w 135 i) (f5 : so (w2.2.2.2 137 C) = kd k ∧ va (w2.2.2.2 137 C) = U) (f6 : ∀ i, i < C → w2.2.2.2 137 i = w.2.2.2 137 i) (f7 : ∀ j, j < bs h kd k → w2.2.2.2 134 (U + j) = h (k + j)) (f8 : ∀ i, i < U → w2.2.2.2 134 i = w.2.2.2 134 i) :
    U + bs h kd k ≤ n ∧ GC h n ow kd w2 (U + bs h kd k) (C + 1) sc (fun i => if U ≤ i then U else ow2 i) (fun i => if i = U then kd k else kd2 i) (fun i => if i = C then k else ks i) := by
  obtain ⟨⟨c1, c2, c3, c4⟩, c5, c6, c7, c8, ⟨c9, c10⟩, c11, c12⟩ := c
  have ex : so (mk (kd k) k) = kd k := so_mk (by omega) (by omega)
  have ev : vn (mk (kd k) k) = k := by show (va _).toNat = _; rw [va_mk (by omega) (by omega)]; omega
  have hx : isH (mk (kd k) k) := by unfold isH; rw [ex]; omega
  have gx : GT n ow kd P (mk (kd k) k) := Or.inr ⟨hx, by rw [va_mk (by omega) (by omega)]; omega, by rw [ev]; exact hk, by rw [ev]; exact ho, by rw [ev, ex]⟩
  have bk := (HP_bk g hx gx).1
  have b4 : k + bs h kd k ≤ n := by have := bk.2.2.2.1; rw [ev] at this; exact this
  have b6 : ∀ j, j < bs h kd k → ow (k + j) = k := by have := bk.2.2.2.2.2; rw [ev] at this; exact this
  have bp : 0 < bs h kd k := blk_pos hx
  have kn : ∀ i, i < 500 → A w 135 i ≠ -1 → i ≠ k := fun i _ z e => z (e ▸ hm)
  have cU : U + bs h kd k ≤ cnt (fun i => i < 500 ∧ A w2 135 i ≠ -1) ow n := by
    have := cnt_add (S := fun i => i < 500 ∧ A w 135 i ≠ -1) (S2 := fun i => i < 500 ∧ A w2 135 i ≠ -1) (ow := ow) (k := k) (b := bs h kd k) b6 (fun z => z.2 hm) (fun i => by
      by_cases e : i = k
      · subst e
        exact ⟨fun _ => Or.inr rfl, fun _ => ⟨by omega, by rw [f3]; omega⟩⟩
      · constructor
        · rintro ⟨a, b⟩; exact Or.inl ⟨a, by rw [f4 i a e] at b; exact b⟩
        · rintro (⟨a, b⟩ | b)
          · exact ⟨a, by rw [f4 i a e]; exact b⟩
          · exact absurd b e) n b4
    omega
  have hle : U + bs h kd k ≤ n := Nat.le_trans cU (cnt_le n)
  refine ⟨hle, ⟨by rw [f1]; omega, by rw [f2]; omega, by omega, by omega⟩, ?_, ?_, cU, ?_, ⟨fun z => by omega, fun _ => ?_⟩, ?_, ?_⟩
  · intro i hi
    by_cases e : i = k
    · subst e; right; exact ⟨by omega, hk, ho, hkd⟩
    · rw [f4 i hi e]; exact c5 i hi
  · intro i hi hne
    by_cases e : i = k
    · subst e
      rw [f3]
      refine ⟨by omega, by simp, fun j hj => ?_⟩
      simp
    · rw [f4 i hi e] at hne ⊢
      obtain ⟨d1, d2, d3⟩ := c6 i hi hne
      have q1 : 0 < bs h kd i := by
        rcases c5 i hi with z | ⟨-, z2, z3, z4⟩
        · exact absurd z hne
        · have y1 : so (mk (kd i) i) = kd i := so_mk (by omega) (by omega)
          exact blk_pos (by unfold isH; rw [y1]; omega)
      refine ⟨by omega, ?_, fun j hj => ?_⟩
      · simp only [if_neg (show ¬ (A w 135 i).toNat = U by omega)]; exact d2
      · simp only [if_neg (show ¬ U ≤ (A w 135 i).toNat + j by omega)]; exact d3 j hj
  · intro i hi
    by_cases e : i = C
    · subst e
      simp only [if_true]
      exact ⟨by omega, by rw [f3]; omega, f5.1, by rw [f5.2, f3], fun z => by omega, fun _ => by rw [f3]; omega⟩
    · have hi2 : i < C := by omega
      obtain ⟨d1, d2, d3, d4, d5, d6⟩ := c8 i hi2
      simp only [if_neg e]
      have nk := kn _ d1 d2
      refine ⟨d1, by rw [f4 _ d1 nk]; exact d2, by rw [f6 i hi2]; exact d3, by rw [f6 i hi2, f4 _ d1 nk]; exact d4, fun z => ?_, fun z => by omega⟩
      by_cases e2 : i + 1 = C
      · simp only [if_pos e2]; rw [f3, f4 _ d1 nk]; exact d6 e2
      · simp only [if_neg e2]
        obtain ⟨y1, y2, -⟩ := c8 (i + 1) (by omega)
        rw [f4 _ y1 (kn _ y1 y2), f4 _ d1 nk]; exact d5 (by omega)
  · by_cases e : C = 0
    · subst e; simp only [if_true]; rw [f3]; have := c9 rfl; omega
    · simp only [if_neg (show ¬ 0 = C by omega)]
      obtain ⟨d1, d2, -⟩ := c8 0 (by omega)
      rw [f4 _ d1 (kn _ d1 d2)]; exact c10 (by omega)
  · intro i hi hne
    by_cases e : i = k
    · subst e; exact ⟨C, by omega, by simp⟩
    · rw [f4 i hi e] at hne
      obtain ⟨q, q1, q2⟩ := c11 i hi hne
      exact ⟨q, by omega, by simp only [if_neg (show ¬ q = C by omega)]; exact q2⟩
  · intro i hi hne j hj
    by_cases e : i = k
    · subst e
      rw [f3, Int.toNat_natCast]
      exact ⟨fun z => by omega, fun _ => f7 j hj⟩
    · rw [f4 i hi e] at hne ⊢
      have d1 := (c6 i hi hne).1
      rw [f8 _ (by omega)]
      obtain ⟨y1, y2⟩ := c12 i hi hne j hj
      refine ⟨fun z => ?_, y2⟩
      obtain ⟨x1, x2⟩ := y1 z
      have v5 : vn (h (i + j)) < 500 := by
        rcases c5 i hi with q | ⟨-, q2, q3, q4⟩
        · exact absurd q hne
        · have y1 : so (mk (kd i) i) = kd i := so_mk (by omega) (by omega)
          have y2 : vn (mk (kd i) i) = i := by show (va _).toNat = _; rw [va_mk (by omega) (by omega)]; omega
          have y3 : isH (mk (kd i) i) := by unfold isH; rw [y1]; omega
          have y4 : GT n ow kd P (mk (kd i) i) := Or.inr ⟨y3, by rw [va_mk (by omega) (by omega)]; omega, by rw [y2]; exact q2, by rw [y2]; exact q3, by rw [y2, y1]⟩
          have y5 := (HP_bk g y3 y4).2 j z.2.1 hj
          rw [y2] at y5
          rcases y5 with ⟨r1, -⟩ | ⟨-, -, r3, -⟩
          · exact absurd z.2.2 r1
          · omega
      have ne : vn (h (i + j)) ≠ k := fun z2 => x1 (by rw [z2]; exact hm)
      refine ⟨by rw [f4 _ v5 ne]; exact x1, ?_⟩
      rw [x2]
      unfold fw
      rw [f4 _ v5 ne]
end
end
section
theorem I_F' {w : MS} {k : Nat} {x : Int} (e : F w k = x) : w.1 k = I x := by rw [I_F, e]
theorem I_A' {w : MS} {k i : Nat} {x : Int} (e : A w k i = x) : w.2.2.1 k i = I x := by rw [I_A, e]
section
variable {h : Nat → Int64} {n p N U C sc : Nat} {ow kd ow2 kd2 ks : Nat → Nat} {Fv : Int64 → Int64 → Prop} {P : Int64 → Prop} {t : Int64}
theorem car_loop {k b : Nat} (hp1 : p < 25) (hk5 : k < 500) (hkb : k + b ≤ 500) (hU : U + b ≤ 500) (hC : C < 500) : ∀ (m j : Nat) (w : MS), j ≤ b → b - j < m → hp w p = h → F w 136 = U → F w 138 = C → (∀ i, i < j → w.2.2.2 134 (U + i) = h (k + i)) → 0 ≤ A w 135 k →
    OK (fun w2 r => FR [136, 138] [] [] [134, 137] w w2 ∧ F w2 136 = U + b ∧ F w2 138 = C + 1 ∧ w2.2.2.2 137 C = rp t U ∧ (∀ i, i < C → w2.2.2.2 137 i = w.2.2.2 137 i) ∧ (∀ i, i < b → w2.2.2.2 134 (U + i) = h (k + i)) ∧ (∀ i, i < U → w2.2.2.2 134 i = w.2.2.2 134 i) ∧ r = rp t (A w 135 k)) (gg_M_carried N m w (I p) t (I k) (I b) (I j)) := by
  intro m
  induction m with
  | zero => intro j w _ z; exact absurd z (Nat.not_lt_zero _)
  | succ m ih =>
    intro j w hj hm hw f1 f2 f3 f4
    show OK _ (fb_M_carried_48 N (gg_M_carried N m) w (I p) t (I k) (I b) (I j))
    unfold fb_M_carried_48
    rw [decI (by omega) (by omega) (by omega) (by omega)]
    by_cases e : b ≤ j
    · rw [decide_eq_true (by omega), br_tq, I_F' f2, inb_at (k := 137) (n := 500) rfl (by omega) (by omega) (by decide), ck_t, lt_e, I_tn (by omega) (by omega), Int.toNat_natCast, I_F' f1, wj_e, lt_e]
      rw [show (wj w 137 C ((t &&& -4294967296) ||| (I (U : Int)).toInt64)).1 138 = I C from I_F' f2, lit1q, I_add, wi_e, lt_e]
      rw [show (wi (wj w 137 C ((t &&& -4294967296) ||| (I (U : Int)).toInt64)) 138 ((C : Int) + 1)).1 136 = I U from I_F' (by rw [F_wi (by omega) (by omega), if_neg (by decide)]; exact f1), I_add, wi_e]
      unfold fb_M_carried_124
      rw [inb_at (k := 135) (n := 500) rfl (by omega) (by omega) (by decide), ck_t, I_tn (by omega) (by omega), Int.toNat_natCast]
      refine ok_some.mpr ⟨?_, ?_, ?_, ?_, ?_, ?_, ?_, ?_⟩
      · exact FR.wi (FR.wi (FR.wj FR.rf (by decide)) (by decide)) (by decide)
      · rw [F_wi (by omega) (by omega), if_pos rfl]
      · rw [F_wi (by omega) (by omega), if_neg (by decide), F_wi (by omega) (by omega), if_pos rfl]
      · rw [J_wi, J_wi, J_wj, if_pos rfl, if_pos rfl]; rfl
      · intro i hi
        rw [J_wi, J_wi, J_wj, if_pos rfl, if_neg (by omega)]
      · intro i hi
        rw [J_wi, J_wi, J_wj, if_neg (by decide)]
        exact f3 i (by omega)
      · intro i hi
        rw [J_wi, J_wi, J_wj, if_neg (by decide)]
      · rw [I_A]; rfl
    · rw [decide_eq_false (by omega), br_fq, I_add, show (k : Int) + (j : Int) = ((k + j : Nat) : Int) from by omega, cell_e hp1 (by omega), bnd_so, hw, I_F' f1, I_add, inb_at (k := 134) (n := 500) rfl (by omega) (by omega) (by decide), ck_t, lt_e, I_tn (by omega) (by omega), show ((U : Int) + (j : Int)).toNat = U + j from by omega, wj_e, lit1q, I_add]
      have := ih (j + 1) (wj w 134 (U + j) (h (k + j))) (by omega) (by omega) hw f1 f2 (fun i hi => by
        rw [J_wj, if_pos rfl]
        by_cases e2 : i = j
        · subst e2; rw [if_pos rfl]
        · rw [if_neg (by omega)]; exact f3 i (by omega)) f4
      refine ok_mono this (fun w2 r ⟨q1, q2, q3, q4, q5, q6, q7, q8⟩ => ⟨FR.tr (FR.wj FR.rf (by decide)) q1, q2, q3, q4, fun i hi => ?_, q6, fun i hi => ?_, q8⟩)
      · rw [q5 i hi, J_wj, if_neg (by decide)]
      · rw [q7 i hi, J_wj, if_pos rfl, if_neg (by omega)]
theorem carried_ok {w : MS} (g : HP h n ow kd Fv P) (hn : n ≤ 500) (hp1 : p < 25) (hw : hp w p = h) (ht : GT n ow kd P t) (c : GC h n ow kd w U C sc ow2 kd2 ks) (hN : 600 ≤ N) :
    OK (fun w2 r => FR [136, 138] [] [135] [134, 137] w w2 ∧ (∀ k, k < 500 → A w 135 k ≠ -1 → A w2 135 k = A w 135 k) ∧ (¬ isH t → r = t) ∧ (isH t → A w2 135 (vn t) ≠ -1 ∧ r = fw w2 t) ∧ (∀ i, i < U → w2.2.2.2 134 i = w.2.2.2 134 i) ∧ ∃ U2 C2 ow3 kd3 ks2, U ≤ U2 ∧ C ≤ C2 ∧ U2 ≤ 500 ∧ (∀ i, i < C → ks2 i = ks i) ∧ GC h n ow kd w2 U2 C2 sc ow3 kd3 ks2) (fm_M_carried N w (I p) t) := by
  have hU : U ≤ 500 := by have := c.2.2.2.1; have := cnt_le (S := fun k => k < 500 ∧ A w 135 k ≠ -1) (ow := ow) n; omega
  unfold fm_M_carried fb_M_carried_0
  by_cases hh : isH t
  · rw [inHeap_e.1 hh, bnd_so, lit0q, decE (by omega) (by omega) (by omega) (by omega), decide_eq_false (by omega), br_fq, valueOf_e, bnd_so]
    obtain ⟨bk, -⟩ := HP_bk g hh ht
    have gt2 : 0 ≤ va t ∧ vn t < n ∧ ow (vn t) = vn t ∧ (kd (vn t) : Int) = so t := by
      rcases ht with ⟨z, -⟩ | ⟨-, z⟩
      · exact absurd hh z
      · exact z
    obtain ⟨g1, g2, g3, g4⟩ := gt2
    have ev : va t = (vn t : Int) := by unfold vn; omega
    obtain ⟨be, pe⟩ := bs_eq (h := h) g4 (by omega)
    have b4 := bk.2.2.2.1
    rw [ev, inb_at (k := 135) (n := 500) rfl (by omega) (by omega) (by decide), ck_t, I_tn (by omega) (by omega), Int.toNat_natCast, I_A, litm1q, decE (A_r _ _ _).1 (A_r _ _ _).2 (by omega) (by omega)]
    by_cases e : A w 135 (vn t) = -1
    · rw [decide_eq_true e, br_tq, sizeOf_e (n := n) (ow := ow) (kd := kd) (Fv := Fv) hp1 hn hh (by rw [hw]; exact bk), bnd_so, ck_t, lt_e, hw]
      have cU := c.1.1
      have cC := c.1.2.1
      rw [I_F' cU, wa_e]
      obtain ⟨c1, c2⟩ := c.1
      have hkd : kd (vn t) = 3 ∨ kd (vn t) = 5 ∨ kd (vn t) = 7 := by rcases hh with z | z | z <;> omega
      have bp := blk_pos (h := h) hh
      have room : U + blk h t ≤ n := by
        have := (GC_add (w2 := wi (wi (wa w 135 (vn t) U) 136 (U + bs h kd (vn t))) 138 (C + 1)) g hn c g2 g3 hkd e)
        have b6 : ∀ j, j < bs h kd (vn t) → ow (vn t + j) = vn t := by rw [be]; exact bk.2.2.2.2.2
        have := cnt_add (S := fun i => i < 500 ∧ A w 135 i ≠ -1) (S2 := fun i => (i < 500 ∧ A w 135 i ≠ -1) ∨ i = vn t) (ow := ow) (k := vn t) (b := bs h kd (vn t)) b6 (fun z => z.2 e) (fun i => Iff.rfl) n (by rw [be]; exact b4)
        have c4 := c.2.2.2.1
        have := cnt_le (S := fun i => (i < 500 ∧ A w 135 i ≠ -1) ∨ i = vn t) (ow := ow) n
        rw [be] at *
        omega
      have := car_loop (t := t) (h := h) (p := p) (N := N) (U := U) (C := C) (k := vn t) (b := blk h t) hp1 (by omega) (by omega) (by omega) (by have := c.1.2.2.1; omega) N 0 (wa w 135 (vn t) U) (by omega) (by omega) hw cU cC (fun i hi => by omega) (by rw [A_wa (by omega) (by omega), if_pos rfl, if_pos rfl]; omega)
      refine ok_mono this (fun w2 r ⟨q1, q2, q3, q4, q5, q6, q7, q8⟩ => ?_)
      have qA : ∀ i, A w2 135 i = if i = vn t then (U : Int) else A w 135 i := fun i => by
        rw [FR.A q1 (by decide), A_wa (by omega) (by omega), if_pos rfl]
      have qk : A w2 135 (vn t) = U := by rw [qA, if_pos rfl]
      have er : r = fw w2 t := by
        rw [q8, A_wa (by omega) (by omega), if_pos rfl, if_pos rfl]
        unfold fw
        rw [qk]
      obtain ⟨hl, gc⟩ := GC_add (w2 := w2) g hn c g2 g3 hkd e (by rw [be]; exact q2) q3 qk (fun i _ hi => by rw [qA, if_neg hi]) (by rw [q4]; exact ⟨by rw [so_rp (by omega) (by omega), g4], by rw [va_rp (by omega) (by omega)]⟩) (fun i hi => q5 i hi) (by rw [be]; exact q6) (fun i hi => q7 i hi)
      refine ⟨FR.tr (FR.wa FR.rf (by decide)) (FR.mo q1 (fun _ z => z) (fun _ z => z) (fun _ z => by cases z) (fun _ z => z)), fun i hi hne => ?_, fun z => absurd hh z, fun _ => ⟨by rw [qk]; omega, er⟩, fun i hi => q7 i hi, _, _, _, _, _, ?_, ?_, ?_, ?_, gc⟩
      · rw [qA, if_neg (fun z => hne (by rw [z]; exact e))]
      · omega
      · omega
      · omega
      · intro i hi
        show (if i = C then vn t else ks i) = ks i
        rw [if_neg (by omega)]
    · rw [decide_eq_false e, br_fq]
      unfold fb_M_carried_124
      rw [inb_at (k := 135) (n := 500) rfl (by omega) (by omega) (by decide), ck_t, I_tn (by omega) (by omega), Int.toNat_natCast]
      exact ok_some.mpr ⟨FR.rf, fun _ _ _ => rfl, fun z => absurd hh z, fun _ => ⟨e, by rw [I_A]; rfl⟩, fun _ _ => rfl, U, C, ow2, kd2, ks, Nat.le_refl _, Nat.le_refl _, hU, fun _ _ => rfl, c⟩
  · rw [inHeap_e.2 hh, bnd_so, lit0q, decE (by omega) (by omega) (by omega) (by omega), decide_eq_true rfl, br_tq]
    exact ok_some.mpr ⟨FR.rf, fun _ _ _ => rfl, fun _ => rfl, fun z => absurd z hh, fun _ _ => rfl, U, C, ow2, kd2, ks, Nat.le_refl _, Nat.le_refl _, hU, fun _ _ => rfl, c⟩
end
end
section
def HOM (h : Nat → Int64) (n : Nat) (ow kd : Nat → Nat) (h2 : Nat → Int64) (n2 : Nat) (ow2 kd2 : Nat → Nat) (P : Int64 → Prop) (fd : Int64 → Int64) (R : Int64 → Prop) : Prop :=
  (∀ t, ¬ isH t → fd t = t) ∧ ∀ t, isH t → R t → GT n ow kd P t ∧ so (fd t) = so t ∧ GT n2 ow2 kd2 P (fd t) ∧ blk h2 (fd t) = blk h t ∧ (∀ j, j < prt t → h2 (vn (fd t) + j) = h (vn t + j)) ∧ ∀ j, prt t ≤ j → j < blk h t → h2 (vn (fd t) + j) = fd (h (vn t + j)) ∧ (isH (h (vn t + j)) → R (h (vn t + j)))
section
variable {h h2 : Nat → Int64} {n n2 p N U C sc : Nat} {ow kd ow2 kd2 ks : Nat → Nat} {Fv : Int64 → Int64 → Prop} {P : Int64 → Prop} {w : MS} {t : Int64} {fd : Int64 → Int64} {R : Int64 → Prop}
theorem prt_so {t x : Int64} (e : so x = so t) : prt x = prt t := by unfold prt; rw [e]
theorem HOM_bk (m : HOM h n ow kd h2 n2 ow2 kd2 P fd R) (g2 : ∀ t, isH t → R t → vn (fd t) + blk h2 (fd t) ≤ n2 ∧ ∀ j, j < blk h2 (fd t) → ow2 (vn (fd t) + j) = vn (fd t)) (g : HP h n ow kd Fv P) (ht : isH t) (r : R t) : BK h2 n2 ow2 kd2 Fv (fd t) := by
  obtain ⟨a1, a2, a3, a4, a5, a6⟩ := m.2 t ht r
  obtain ⟨b, -⟩ := HP_bk g ht a1
  have hf : isH (fd t) := by unfold isH; rw [a2]; exact ht
  rcases a3 with ⟨z, -⟩ | ⟨-, z1, z2, z3, z4⟩
  · exact absurd hf z
  refine ⟨z1, fun e => ?_, fun e => ?_, (g2 t ht r).1, z4, (g2 t ht r).2⟩
  · rw [a2] at e
    have := a5 0 (by unfold prt; rw [e]; decide)
    rw [show vn (fd t) + 0 = vn (fd t) from rfl, show vn t + 0 = vn t from rfl] at this
    rw [this]; exact b.2.1 e
  · rw [a2] at e
    have q0 := a5 0 (by unfold prt; rw [e]; decide)
    have q1 := a5 1 (by unfold prt; rw [e]; decide)
    rw [show vn (fd t) + 0 = vn (fd t) from rfl, show vn t + 0 = vn t from rfl] at q0
    rw [q0, q1]; exact b.2.2.1 e
theorem HOM_sz (m : HOM h n ow kd h2 n2 ow2 kd2 P fd R) (g2 : ∀ t, isH t → R t → vn (fd t) + blk h2 (fd t) ≤ n2 ∧ ∀ j, j < blk h2 (fd t) → ow2 (vn (fd t) + j) = vn (fd t)) (g : HP h n ow kd Fv P) {f : Nat} {t : Int64} {s : Nat} (z : SZ h n ow kd Fv P f t s) (r : isH t → R t) : SZ h2 n2 ow2 kd2 Fv P f (fd t) s := by
  refine SZ_gc (R := R) m.1 (fun t ht r _ => ?_) z r
  obtain ⟨a1, a2, a3, a4, a5, a6⟩ := m.2 t ht r
  exact ⟨by unfold isH; rw [a2]; exact ht, prt_so a2, HOM_bk m g2 g ht r, a4, a6⟩
theorem GC_find (c : GC h n ow kd w U C sc ow2 kd2 ks) {x : Nat} (hx : x < U) : ∃ i, i < C ∧ A w 135 (ks i) ≤ x ∧ (x : Int) < A w 135 (ks i) + bs h kd (ks i) := by
  obtain ⟨⟨c1, c2, c3, c4⟩, c5, c6, c7, c8, ⟨c9, c10⟩, c11, c12⟩ := c
  have hC : 0 < C := Nat.pos_of_ne_zero (fun z => by have := c9 z; omega)
  have key : ∀ d i, i + d + 1 = C → A w 135 (ks i) ≤ x → ∃ i, i < C ∧ A w 135 (ks i) ≤ x ∧ (x : Int) < A w 135 (ks i) + bs h kd (ks i) := by
    intro d
    induction d with
    | zero =>
      intro i hi hl
      obtain ⟨-, -, -, -, -, d6⟩ := c8 i (by omega)
      exact ⟨i, by omega, hl, by have := d6 (by omega); omega⟩
    | succ d ih =>
      intro i hi hl
      by_cases e : (x : Int) < A w 135 (ks i) + bs h kd (ks i)
      · exact ⟨i, by omega, hl, e⟩
      · obtain ⟨-, -, -, -, d5, -⟩ := c8 i (by omega)
        exact ih (i + 1) (by omega) (by have := d5 (by omega); omega)
  exact key (C - 1) 0 (by omega) (by rw [c10 hC]; omega)
theorem GC_fin (g : HP h n ow kd Fv P) (hn : n ≤ 500) (c : GC h n ow kd w U C U ow2 kd2 ks) (h2 : Nat → Int64) (hh : ∀ i, i < U → h2 i = w.2.2.2 134 i) :
    ∃ fd R, HOM h n ow kd h2 U ow2 kd2 P fd R ∧ HP h2 U ow2 kd2 Fv P ∧ (∀ t, isH t → R t → vn (fd t) + blk h2 (fd t) ≤ U ∧ ∀ j, j < blk h2 (fd t) → ow2 (vn (fd t) + j) = vn (fd t)) ∧ (∀ t, isH t → GT n ow kd P t → A w 135 (vn t) ≠ -1 → R t) ∧ (∀ t, isH t → fd t = fw w t) := by
  have c' := c
  obtain ⟨⟨c1, c2, c3, c4⟩, c5, c6, c7, c8, ⟨c9, c10⟩, c11, c12⟩ := c
  have hU : U ≤ 500 := by have := cnt_le (S := fun k => k < 500 ∧ A w 135 k ≠ -1) (ow := ow) n; omega
  have facts : ∀ t, isH t → GT n ow kd P t → A w 135 (vn t) ≠ -1 → vn t < 500 ∧ 0 ≤ A w 135 (vn t) ∧ so (fw w t) = so t ∧ va (fw w t) = A w 135 (vn t) ∧ vn (fw w t) = (A w 135 (vn t)).toNat ∧ bs h kd (vn t) = blk h t ∧ pk kd (vn t) = prt t ∧ (kd (vn t) : Int) = so t := by
    intro t ht gt hm
    rcases gt with ⟨z, -⟩ | ⟨-, g1, g2, g3, g4⟩
    · exact absurd ht z
    have h5 : vn t < 500 := by omega
    have h0 : 0 ≤ A w 135 (vn t) := by rcases c5 _ h5 with z | z; exact absurd z hm; exact z.1
    have hr := A_r w 135 (vn t)
    obtain ⟨be, pe⟩ := bs_eq (h := h) g4 (by omega)
    have e2 : va (fw w t) = A w 135 (vn t) := va_rp h0 hr.2
    exact ⟨h5, h0, so_rp h0 hr.2, e2, by show (va (fw w t)).toNat = _; rw [e2], be, pe, g4⟩
  have hom : HOM h n ow kd h2 U ow2 kd2 P (fun t => if so t = 3 ∨ so t = 5 ∨ so t = 7 then fw w t else t) (fun t => isH t ∧ GT n ow kd P t ∧ A w 135 (vn t) ≠ -1) := by
    refine ⟨fun t ht => if_neg ht, fun t ht r => ?_⟩
    obtain ⟨-, r2, r3⟩ := r
    obtain ⟨q1, q2, q3, q4, q5, q6, q7, q8⟩ := facts t ht r2 r3
    have ef : (if so t = 3 ∨ so t = 5 ∨ so t = 7 then fw w t else t) = fw w t := if_pos ht
    obtain ⟨d1, d2, d3⟩ := c6 _ q1 r3
    have bp := blk_pos (h := h) ht
    have cells := c12 _ q1 r3
    rw [q6, q7] at cells
    rw [q6] at d1 d3
    have hd : ∀ j, j < prt t → h2 (vn (fw w t) + j) = h (vn t + j) := fun j hj => by
      have pl := prt_le (h := h) ht
      rw [q5, hh _ (by omega)]
      exact (cells j (by omega)).2 (fun z => by omega)
    have eb : blk h2 (fw w t) = blk h t := by
      unfold blk
      rw [q3]
      rcases ht with e | e | e
      · rw [e]; simp
        have := hd 1 (by unfold prt; rw [e]; decide)
        rw [this]
      · rw [e]; simp
        have := hd 0 (by unfold prt; rw [e]; decide)
        rw [show vn (fw w t) + 0 = vn (fw w t) from rfl, show vn t + 0 = vn t from rfl] at this
        rw [this]
      · rw [e]; simp
    simp only [ef]
    refine ⟨r2, q3, Or.inr ⟨by unfold isH; rw [q3]; exact ht, by rw [q4]; exact q2, by rw [q5]; omega, ?_, ?_⟩, eb, hd, fun j h1 h2' => ?_⟩
    · rw [q5]; have := d3 0 bp; exact this
    · rw [q5, d2, q8, q3]
    · rw [q5, hh _ (by omega)]
      obtain ⟨y1, y2⟩ := cells j h2'
      by_cases hy : isH (h (vn t + j))
      · obtain ⟨x1, x2⟩ := y1 ⟨by omega, h1, hy⟩
        rw [x2, show (if so (h (vn t + j)) = 3 ∨ so (h (vn t + j)) = 5 ∨ so (h (vn t + j)) = 7 then fw w (h (vn t + j)) else h (vn t + j)) = fw w (h (vn t + j)) from if_pos hy]
        exact ⟨rfl, fun _ => ⟨hy, (HP_bk g ht r2).2 j h1 h2', x1⟩⟩
      · rw [y2 (fun z => hy z.2.2), show (if so (h (vn t + j)) = 3 ∨ so (h (vn t + j)) = 5 ∨ so (h (vn t + j)) = 7 then fw w (h (vn t + j)) else h (vn t + j)) = h (vn t + j) from if_neg hy]
        exact ⟨rfl, fun z => absurd z hy⟩
  have hg2 : ∀ t, isH t → (isH t ∧ GT n ow kd P t ∧ A w 135 (vn t) ≠ -1) → vn ((fun t => if so t = 3 ∨ so t = 5 ∨ so t = 7 then fw w t else t) t) + blk h2 ((fun t => if so t = 3 ∨ so t = 5 ∨ so t = 7 then fw w t else t) t) ≤ U ∧ ∀ j, j < blk h2 ((fun t => if so t = 3 ∨ so t = 5 ∨ so t = 7 then fw w t else t) t) → ow2 (vn ((fun t => if so t = 3 ∨ so t = 5 ∨ so t = 7 then fw w t else t) t) + j) = vn ((fun t => if so t = 3 ∨ so t = 5 ∨ so t = 7 then fw w t else t) t) := by
    intro t ht r
    obtain ⟨-, -, -, a4, -⟩ := hom.2 t ht r
    obtain ⟨q1, q2, q3, q4, q5, q6, q7, q8⟩ := facts t ht r.2.1 r.2.2
    obtain ⟨d1, d2, d3⟩ := c6 _ q1 r.2.2
    rw [a4]
    simp only [show (if so t = 3 ∨ so t = 5 ∨ so t = 7 then fw w t else t) = fw w t from if_pos ht]
    rw [q5, ← q6]
    exact ⟨d1, d3⟩
  refine ⟨_, _, hom, ?_, hg2, fun t a b c => ⟨a, b, c⟩, fun t ht => if_pos ht⟩
  intro t ht gt
  rcases gt with ⟨z, -⟩ | ⟨-, g1, g2, g3, g4⟩
  · exact absurd ht z
  obtain ⟨i, hi, i1, i2⟩ := GC_find c' g2
  obtain ⟨k1, k2, -⟩ := c8 i hi
  obtain ⟨d1, d2, d3⟩ := c6 _ k1 k2
  have k0 : 0 ≤ A w 135 (ks i) := by rcases c5 _ k1 with z | z; exact absurd z k2; exact z.1
  have e1 : vn t = (A w 135 (ks i)).toNat := by
    have := d3 (vn t - (A w 135 (ks i)).toNat) (by omega)
    rw [show (A w 135 (ks i)).toNat + (vn t - (A w 135 (ks i)).toNat) = vn t from by omega, g3] at this
    exact this
  obtain ⟨z1, z2, z3, z4⟩ : 0 ≤ A w 135 (ks i) ∧ ks i < n ∧ ow (ks i) = ks i ∧ (kd (ks i) = 3 ∨ kd (ks i) = 5 ∨ kd (ks i) = 7) := by rcases c5 _ k1 with z | z; exact absurd z k2; exact z
  have y1 : so (mk (kd (ks i)) (ks i)) = kd (ks i) := so_mk (by omega) (by omega)
  have y2 : vn (mk (kd (ks i)) (ks i)) = ks i := by show (va _).toNat = _; rw [va_mk (by omega) (by omega)]; omega
  have y3 : isH (mk (kd (ks i)) (ks i)) := by unfold isH; rw [y1]; omega
  have y4 : GT n ow kd P (mk (kd (ks i)) (ks i)) := Or.inr ⟨y3, by rw [va_mk (by omega) (by omega)]; omega, by rw [y2]; exact z2, by rw [y2]; exact z3, by rw [y2, y1]⟩
  obtain ⟨f, s, s1, s2⟩ := g _ y3 y4
  have rr : isH (mk (kd (ks i)) (ks i)) ∧ GT n ow kd P (mk (kd (ks i)) (ks i)) ∧ A w 135 (vn (mk (kd (ks i)) (ks i))) ≠ -1 := ⟨y3, y4, by rw [y2]; exact k2⟩
  have sz := HOM_sz hom hg2 g s1 (fun _ => rr)
  obtain ⟨a1, a2, a3, a4, a5, a6⟩ := hom.2 _ y3 rr
  obtain ⟨q1, q2, q3, q4, q5, q6, q7, q8⟩ := facts _ y3 y4 rr.2.2
  have ef : (if so (mk (kd (ks i)) (ks i)) = 3 ∨ so (mk (kd (ks i)) (ks i)) = 5 ∨ so (mk (kd (ks i)) (ks i)) = 7 then fw w (mk (kd (ks i)) (ks i)) else mk (kd (ks i)) (ks i)) = fw w (mk (kd (ks i)) (ks i)) := if_pos y3
  simp only [ef] at sz a2 a3 a4 a5 a6
  have es : so t = so (fw w (mk (kd (ks i)) (ks i))) := by rw [q3, y1, ← g4, e1, d2]
  have eva : va t = va (fw w (mk (kd (ks i)) (ks i))) := by
    rw [q4, y2]
    unfold vn at e1
    omega
  refine ⟨f, s, SZ_same es eva (by unfold isH; rw [q3]; exact y3) sz, fun h5 => ?_⟩
  obtain ⟨r1, r2, r3⟩ := s2 h5
  have evn : vn t = vn (fw w (mk (kd (ks i)) (ks i))) := by unfold vn; rw [eva]
  refine ⟨by rw [es, q3]; exact r1, ?_, ?_⟩
  · have : blk h2 t = blk h2 (fw w (mk (kd (ks i)) (ks i))) := by unfold blk; rw [es, evn]
    rw [this, a4]; exact r2
  · have := (a6 1 (by unfold prt; rw [r1]; decide) (by omega)).1
    rw [evn, this]
    rw [show (if so (h (vn (mk (kd (ks i)) (ks i)) + 1)) = 3 ∨ so (h (vn (mk (kd (ks i)) (ks i)) + 1)) = 5 ∨ so (h (vn (mk (kd (ks i)) (ks i)) + 1)) = 7 then fw w (h (vn (mk (kd (ks i)) (ks i)) + 1)) else h (vn (mk (kd (ks i)) (ks i)) + 1)) = h (vn (mk (kd (ks i)) (ks i)) + 1) from if_neg r3]
    exact r3
end
end
section
def MV (w : MS) (t x : Int64) : Prop := (¬ isH t → x = t) ∧ (isH t → A w 135 (vn t) ≠ -1 ∧ x = fw w t)
def RM (u w : MS) (K b d : Nat) : Prop := ∀ i, (b ≤ i ∧ i < b + d → MV w (u.2.2.2 K i) (w.2.2.2 K i)) ∧ (¬ (b ≤ i ∧ i < b + d) → w.2.2.2 K i = u.2.2.2 K i)
def RTS (u w : MS) (fd : Int64 → Int64) (R : Int64 → Prop) (K b M : Nat) : Prop := ∀ i, (b ≤ i ∧ i < b + M → w.2.2.2 K i = fd (u.2.2.2 K i) ∧ (isH (u.2.2.2 K i) → R (u.2.2.2 K i))) ∧ (¬ (b ≤ i ∧ i < b + M) → w.2.2.2 K i = u.2.2.2 K i)
def CX (u : MS) (p : Nat) (h : Nat → Int64) (n : Nat) (ow kd : Nat → Nat) (Fv : Int64 → Int64 → Prop) (P : Int64 → Prop) (opM bnM bxM : Nat) : Prop :=
  hp u p = h ∧ HP h n ow kd Fv P ∧ n ≤ 500 ∧ p < 24 ∧ (A u 92 p = opM ∧ opM ≤ 46000) ∧ (A u 94 p = bnM ∧ bnM ≤ 2500) ∧ (A u 108 p = bxM ∧ bxM ≤ 30) ∧ (∀ i, i < opM → GT n ow kd P (u.2.2.2 91 (46000 * p + i))) ∧ (∀ i, i < bnM → GT n ow kd P (u.2.2.2 93 (2500 * p + i))) ∧ (∀ i, i < bxM → GT n ow kd P (u.2.2.2 107 (30 * p + i))) ∧ (F u 140 = p → GT n ow kd P (u.2.1 139))
def CLR (u : MS) (p : Nat) (h : Nat → Int64) (n : Nat) (ow kd : Nat → Nat) (Fv : Int64 → Int64 → Prop) (P : Int64 → Prop) (opM bnM bxM : Nat) (w : MS) : Prop :=
  ∃ U ow2 kd2 fd R, HOM h n ow kd (hp w p) U ow2 kd2 P fd R ∧ HP (hp w p) U ow2 kd2 Fv P ∧ (∀ t, isH t → R t → vn (fd t) + blk (hp w p) (fd t) ≤ U ∧ ∀ j, j < blk (hp w p) (fd t) → ow2 (vn (fd t) + j) = vn (fd t)) ∧ U ≤ n ∧ (∀ q, A w 89 q = if q = p then (U : Int) else A u 89 q) ∧ FR [136, 138] [139] [89, 90, 135] [88, 91, 93, 107, 134, 137] u w ∧ (∀ i, ¬ (500 * p ≤ i ∧ i < 500 * p + 500) → w.2.2.2 88 i = u.2.2.2 88 i) ∧ RTS u w fd R 91 (46000 * p) opM ∧ RTS u w fd R 93 (2500 * p) bnM ∧ RTS u w fd R 107 (30 * p) bxM ∧ (F u 140 = p → w.2.1 139 = fd (u.2.1 139) ∧ (isH (u.2.1 139) → R (u.2.1 139))) ∧ (F u 140 ≠ p → w.2.1 139 = u.2.1 139)
section
variable {h : Nat → Int64} {n p N U C sc opM bnM bxM : Nat} {ow kd ow2 kd2 ks : Nat → Nat} {Fv : Int64 → Int64 → Prop} {P : Int64 → Prop} {u w : MS}
theorem MV_st {w2 : MS} {t x : Int64} (m : MV w t x) (s : ∀ k, k < 500 → A w 135 k ≠ -1 → A w2 135 k = A w 135 k) (hv : isH t → vn t < 500) : MV w2 t x := by
  refine ⟨m.1, fun ht => ?_⟩
  obtain ⟨a, b⟩ := m.2 ht
  have e := s _ (hv ht) a
  exact ⟨by rw [e]; exact a, by rw [b]; unfold fw; rw [e]⟩
theorem gt_500 {t : Int64} (hn : n ≤ 500) (g : GT n ow kd P t) : isH t → vn t < 500 := fun ht => by
  rcases g with ⟨z, -⟩ | ⟨-, -, z, -⟩
  · exact absurd ht z
  · omega
theorem RM_st {w2 : MS} {K b d : Nat} (r : RM u w K b d) (hn : n ≤ 500) (hg : ∀ i, i < d → GT n ow kd P (u.2.2.2 K (b + i))) (s : ∀ k, k < 500 → A w 135 k ≠ -1 → A w2 135 k = A w 135 k) (e : w2.2.2.2 K = w.2.2.2 K) : RM u w2 K b d := by
  intro i
  obtain ⟨r1, r2⟩ := r i
  rw [e]
  refine ⟨fun z => MV_st (r1 z) s ?_, r2⟩
  have := hg (i - b) (by omega)
  rw [show b + (i - b) = i from by omega] at this
  exact gt_500 hn this
theorem RM_step {w2 : MS} {K b d : Nat} {x : Int64} (r : RM u w2 K b d) (m : MV w2 (u.2.2.2 K (b + d)) x) : RM u (wj w2 K (b + d) x) K b (d + 1) := by
  intro i
  obtain ⟨r1, r2⟩ := r i
  rw [J_wj, if_pos rfl]
  by_cases e : i = b + d
  · subst e
    rw [if_pos rfl]
    exact ⟨fun _ => m, fun z => absurd ⟨by omega, by omega⟩ z⟩
  · rw [if_neg e]
    exact ⟨fun z => r1 (by omega), fun z => r2 (by omega)⟩
theorem MV_fd {t x : Int64} {fd : Int64 → Int64} {R : Int64 → Prop} (m : MV w t x) (g : GT n ow kd P t) (a : ∀ t, ¬ isH t → fd t = t) (b : ∀ t, isH t → GT n ow kd P t → A w 135 (vn t) ≠ -1 → R t) (c : ∀ t, isH t → fd t = fw w t) : x = fd t ∧ (isH t → R t) := by
  by_cases ht : isH t
  · obtain ⟨q1, q2⟩ := m.2 ht
    exact ⟨by rw [q2, c t ht], fun _ => b t ht g q1⟩
  · exact ⟨by rw [m.1 ht, a t ht], fun z => absurd z ht⟩
theorem RM_fd {K b M : Nat} {fd : Int64 → Int64} {R : Int64 → Prop} {w2 : MS} (r : RM u w K b M) (hg : ∀ i, i < M → GT n ow kd P (u.2.2.2 K (b + i))) (a : ∀ t, ¬ isH t → fd t = t) (bb : ∀ t, isH t → GT n ow kd P t → A w 135 (vn t) ≠ -1 → R t) (c : ∀ t, isH t → fd t = fw w t) (e : w2.2.2.2 K = w.2.2.2 K) : RTS u w2 fd R K b M := by
  intro i
  obtain ⟨r1, r2⟩ := r i
  rw [e]
  refine ⟨fun z => MV_fd (r1 z) ?_ a bb c, r2⟩
  have := hg (i - b) (by omega)
  rw [show b + (i - b) = i from by omega] at this
  exact this
theorem cl7 {w0 : MS} (hp1 : p < 24) (hU : U ≤ 500) : ∀ (m i : Nat) (w : MS), i ≤ U → U - i < m → F w 136 = U → (∀ j, j < i → hp w p j = w.2.2.2 134 j) → FR [] [] [] [88] w0 w → (∀ j, ¬ (500 * p ≤ j ∧ j < 500 * p + 500) → w.2.2.2 88 j = w0.2.2.2 88 j) →
    OK (fun w2 _ => FR [] [] [] [88] w0 w2 ∧ (∀ j, j < U → hp w2 p j = w2.2.2.2 134 j) ∧ (∀ j, ¬ (500 * p ≤ j ∧ j < 500 * p + 500) → w2.2.2.2 88 j = w0.2.2.2 88 j)) ((gg_M_clear N m).2.2.2.2.2.2 w (I p) (I i)) := by
  intro m
  induction m with
  | zero => intro i w _ z; exact absurd z (Nat.not_lt_zero _)
  | succ m ih =>
    intro i w hi hm f1 f2 f3 f4
    show OK _ (fb_M_clear_337 N (gg_M_clear N m) w (I p) (I i))
    unfold fb_M_clear_337
    rw [I_F' f1, decI (by omega) (by omega) (by omega) (by omega)]
    by_cases e : U ≤ i
    · rw [decide_eq_true (by omega), br_tq]
      exact ok_some.mpr ⟨f3, fun j hj => f2 j (by omega), f4⟩
    · rw [decide_eq_false (by omega), br_fq, inb_at (k := 134) (n := 500) rfl (by omega) (by omega) (by decide), ck_t, lit500, I_mul, I_add, inb_at (k := 88) (n := 12500) rfl (by omega) (by omega) (by decide), ck_t, lt_e, I_tn (by omega) (by omega), I_tn (by omega) (by omega), Int.toNat_natCast, show ((p : Int) * 500 + i).toNat = 500 * p + i from by omega, wj_e, lit1q, I_add]
      refine ih (i + 1) (wj w 88 (500 * p + i) (w.2.2.2 134 i)) (by omega) (by omega) f1 (fun j hj => ?_) (FR.wj f3 (by decide)) (fun j hj => ?_)
      · unfold hp
        rw [show (wj w 88 (500 * p + i) (w.2.2.2 134 i)).2.2.2 134 j = w.2.2.2 134 j from by rw [J_wj, if_neg (by decide)], J_wj, if_pos rfl]
        by_cases e2 : j = i
        · subst e2; rw [if_pos rfl]
        · rw [if_neg (by omega)]; exact f2 j (by omega)
      · rw [J_wj, if_pos rfl, if_neg (by omega)]; exact f4 j hj
def IV (u : MS) (p : Nat) (h : Nat → Int64) (n : Nat) (ow kd : Nat → Nat) (U C sc : Nat) (ow2 kd2 ks : Nat → Nat) (o b x : Nat) (w : MS) : Prop :=
  FR [136, 138] [139] [90, 135] [91, 93, 107, 134, 137] u w ∧ GC h n ow kd w U C sc ow2 kd2 ks ∧ U ≤ 500 ∧ RM u w 91 (46000 * p) o ∧ RM u w 93 (2500 * p) b ∧ RM u w 107 (30 * p) x
theorem IV_st {w2 : MS} {U2 C2 sc2 o b x : Nat} {ow3 kd3 ks3 : Nat → Nat} (v : IV u p h n ow kd U C sc ow2 kd2 ks o b x w) (cx : CX u p h n ow kd Fv P opM bnM bxM) (ho : o ≤ opM) (hb : b ≤ bnM) (hx : x ≤ bxM) (f : FR [136, 138] [139] [135] [134, 137] w w2) (s : ∀ k, k < 500 → A w 135 k ≠ -1 → A w2 135 k = A w 135 k) (g : GC h n ow kd w2 U2 C2 sc2 ow3 kd3 ks3) (hU : U2 ≤ 500) : IV u p h n ow kd U2 C2 sc2 ow3 kd3 ks3 o b x w2 := by
  obtain ⟨v1, v2, v3, v4, v5, v6⟩ := v
  obtain ⟨x1, x2, x3, x4, x5, x6, x7, x8, x9, x10, x11⟩ := cx
  refine ⟨FR.tr v1 (FR.mo f (fun _ z => z) (fun _ z => z) (fun k z => by rw [List.mem_singleton.mp z]; decide) (fun k z => by rcases List.mem_cons.mp z with e | e; rw [e]; decide; rw [List.mem_singleton.mp e]; decide)), g, hU, RM_st v4 x3 (fun i hi => x8 i (by omega)) s (f.2.2.2 91 (by decide)), RM_st v5 x3 (fun i hi => x9 i (by omega)) s (f.2.2.2 93 (by decide)), RM_st v6 x3 (fun i hi => x10 i (by omega)) s (f.2.2.2 107 (by decide))⟩
theorem IV_hp {o b x : Nat} (v : IV u p h n ow kd U C sc ow2 kd2 ks o b x w) (e : hp u p = h) : hp w p = h := by
  rw [← e]
  unfold hp
  rw [v.1.2.2.2 88 (by decide)]
def HD (u : MS) (p : Nat) (w : MS) : Prop := (F u 140 = p → MV w (u.2.1 139) (w.2.1 139)) ∧ (F u 140 ≠ p → w.2.1 139 = u.2.1 139)
theorem HD_st {w2 : MS} (d : HD u p w) (cx : CX u p h n ow kd Fv P opM bnM bxM) (e : w2.2.1 139 = w.2.1 139) (s : ∀ k, k < 500 → A w 135 k ≠ -1 → A w2 135 k = A w 135 k) : HD u p w2 := by
  obtain ⟨x1, x2, x3, x4, x5, x6, x7, x8, x9, x10, x11⟩ := cx
  refine ⟨fun z => ?_, fun z => by rw [e]; exact d.2 z⟩
  rw [e]
  exact MV_st (d.1 z) s (gt_500 x3 (x11 z))
end
end
section
section
variable {h : Nat → Int64} {n p N U C sc opM bnM bxM : Nat} {ow kd ow2 kd2 ks : Nat → Nat} {Fv : Int64 → Int64 → Prop} {P : Int64 → Prop} {u w : MS}
theorem GC_bp (c : GC h n ow kd w U C sc ow2 kd2 ks) (hn : n ≤ 500) {k : Nat} (hk : k < 500) (hm : A w 135 k ≠ -1) : 0 < bs h kd k ∧ pk kd k ≤ bs h kd k ∧ 0 ≤ A w 135 k := by
  rcases c.2.1 k hk with z | ⟨z1, z2, z3, z4⟩
  · exact absurd z hm
  · have y1 : so (mk (kd k) k) = kd k := so_mk (by omega) (by omega)
    have y2 : isH (mk (kd k) k) := by unfold isH; rw [y1]; omega
    exact ⟨blk_pos y2, prt_le y2, z1⟩
theorem GC_mono (c : GC h n ow kd w U C sc ow2 kd2 ks) (hn : n ≤ 500) : ∀ d i, i + d + 1 < C → A w 135 (ks i) + bs h kd (ks i) ≤ A w 135 (ks (i + d + 1)) := by
  intro d
  induction d with
  | zero => intro i hi; have := (c.2.2.2.2.1 i (by omega)).2.2.2.2.1 (by omega); rw [show i + 0 + 1 = i + 1 from rfl]; omega
  | succ d ih =>
    intro i hi
    have a := ih i (by omega)
    obtain ⟨b1, b2, -, -, b5, -⟩ := c.2.2.2.2.1 (i + d + 1) (by omega)
    have := b5 (by omega)
    have := (GC_bp c hn b1 b2).1
    rw [show i + (d + 1) + 1 = i + d + 1 + 1 from by omega]
    omega
theorem GC_inj (c : GC h n ow kd w U C sc ow2 kd2 ks) (hn : n ≤ 500) {k k2 j j2 : Nat} (hk : k < 500) (hm : A w 135 k ≠ -1) (hk2 : k2 < 500) (hm2 : A w 135 k2 ≠ -1) (hj : j < bs h kd k) (hj2 : j2 < bs h kd k2) (e : (A w 135 k).toNat + j = (A w 135 k2).toNat + j2) : k = k2 ∧ j = j2 := by
  have o1 := (c.2.2.1 k hk hm).2.2 j hj
  have o2 := (c.2.2.1 k2 hk2 hm2).2.2 j2 hj2
  rw [e, o2] at o1
  obtain ⟨i, i1, i2⟩ := c.2.2.2.2.2.2.1 k hk hm
  obtain ⟨i', i1', i2'⟩ := c.2.2.2.2.2.2.1 k2 hk2 hm2
  have p1 := GC_bp c hn hk hm
  have p2 := GC_bp c hn hk2 hm2
  have ee : i = i' := by
    rcases Nat.lt_trichotomy i i' with q | q | q
    · have := GC_mono c hn (i' - i - 1) i (by omega)
      rw [show i + (i' - i - 1) + 1 = i' from by omega, i2, i2'] at this
      omega
    · exact q
    · have := GC_mono c hn (i - i' - 1) i' (by omega)
      rw [show i' + (i - i' - 1) + 1 = i from by omega, i2, i2'] at this
      omega
  subst ee
  have : k = k2 := i2.symm.trans i2'
  exact ⟨this, by omega⟩
theorem GC_sc {s2 : Nat} (c : GC h n ow kd w U C sc ow2 kd2 ks) (h1 : sc ≤ s2) (h2 : s2 ≤ U) (hc : ∀ k j, k < 500 → A w 135 k ≠ -1 → j < bs h kd k → sc ≤ (A w 135 k).toNat + j → (A w 135 k).toNat + j < s2 → ¬ pk kd k ≤ j) : GC h n ow kd w U C s2 ow2 kd2 ks := by
  obtain ⟨⟨c1, c2, c3, c4⟩, c5, c6, c7, c8, c9, c11, c12⟩ := c
  refine ⟨⟨c1, c2, c3, h2⟩, c5, c6, c7, c8, c9, c11, fun k hk hm j hj => ?_⟩
  obtain ⟨y1, y2⟩ := c12 k hk hm j hj
  refine ⟨fun z => y1 ⟨?_, z.2⟩, fun z => y2 (fun z2 => z ⟨by omega, z2.2⟩)⟩
  exact Nat.lt_of_not_le (fun q => hc k j hk hm hj q z.1 z.2.1)
theorem GC_scan {k j : Nat} {x : Int64} (c : GC h n ow kd w U C sc ow2 kd2 ks) (hn : n ≤ 500) (hk : k < 500) (hm : A w 135 k ≠ -1) (hj : j < bs h kd k) (hpj : pk kd k ≤ j) (es : (A w 135 k).toNat + j = sc) (mv : MV w (h (k + j)) x) : GC h n ow kd (wj w 134 sc x) U C (sc + 1) ow2 kd2 ks := by
  have c' := c
  obtain ⟨⟨c1, c2, c3, c4⟩, c5, c6, c7, c8, c9, c11, c12⟩ := c
  have hb := (c6 k hk hm).1
  refine ⟨⟨c1, c2, c3, by omega⟩, c5, c6, c7, fun i hi => ?_, c9, c11, fun k2 hk2 hm2 j2 hj2 => ?_⟩
  · rw [J_wj, if_neg (by decide)]; exact c8 i hi
  · have hm2 : A w 135 k2 ≠ -1 := hm2
    show ((A w 135 k2).toNat + j2 < sc + 1 ∧ pk kd k2 ≤ j2 ∧ isH (h (k2 + j2)) → A w 135 (vn (h (k2 + j2))) ≠ -1 ∧ (wj w 134 sc x).2.2.2 134 ((A w 135 k2).toNat + j2) = fw w (h (k2 + j2))) ∧ (¬ ((A w 135 k2).toNat + j2 < sc + 1 ∧ pk kd k2 ≤ j2 ∧ isH (h (k2 + j2))) → (wj w 134 sc x).2.2.2 134 ((A w 135 k2).toNat + j2) = h (k2 + j2))
    rw [J_wj, if_pos rfl]
    by_cases e : (A w 135 k2).toNat + j2 = sc
    · obtain ⟨e1, e2⟩ := GC_inj c' hn hk2 hm2 hk hm hj2 hj (by omega)
      subst e1; subst e2
      rw [if_pos e]
      refine ⟨fun z => mv.2 z.2.2, fun z => ?_⟩
      by_cases hy : isH (h (k2 + j2))
      · exact absurd ⟨by omega, hpj, hy⟩ z
      · exact mv.1 hy
    · rw [if_neg e]
      obtain ⟨y1, y2⟩ := c12 k2 hk2 hm2 j2 hj2
      exact ⟨fun z => y1 ⟨by omega, z.2⟩, fun z => y2 (fun z2 => z ⟨by omega, z2.2⟩)⟩
theorem cl56 (cx : CX u p h n ow kd Fv P opM bnM bxM) (hN : 600 ≤ N) : ∀ (m : Nat),
    (∀ (w : MS) (U C sc i : Nat) (ow2 kd2 ks : Nat → Nat), IV u p h n ow kd U C sc ow2 kd2 ks opM bnM bxM w → HD u p w → i ≤ C → (i < C → A w 135 (ks i) = sc) → (i = C → sc = U) → (500 - sc) + 2 * (500 - i) + 600 < m → OK (fun w2 _ => CLR u p h n ow kd Fv P opM bnM bxM w2) ((gg_M_clear N m).2.2.2.2.1 w (I p) (I i))) ∧
    (∀ (w : MS) (U C sc i j : Nat) (ow2 kd2 ks : Nat → Nat), IV u p h n ow kd U C sc ow2 kd2 ks opM bnM bxM w → HD u p w → i < C → pk kd (ks i) ≤ j → j ≤ bs h kd (ks i) → A w 135 (ks i) + j = sc → (500 - sc) + 2 * (500 - i) + 599 < m → OK (fun w2 _ => CLR u p h n ow kd Fv P opM bnM bxM w2) ((gg_M_clear N m).2.2.2.2.2.1 w (I p) (I i) (I (A w 135 (ks i))) (I (bs h kd (ks i))) (I j))) := by
  have cx' := cx
  obtain ⟨x1, x2, x3, x4, x5, x6, x7, x8, x9, x10, x11⟩ := cx
  intro m
  induction m with
  | zero => exact ⟨fun w U C sc i _ _ _ _ _ _ _ _ z => absurd z (Nat.not_lt_zero _), fun w U C sc i j _ _ _ _ _ _ _ _ _ z => absurd z (Nat.not_lt_zero _)⟩
  | succ m ih =>
    obtain ⟨ih1, ih2⟩ := ih
    refine ⟨fun w U C sc i ow2 kd2 ks iv hd hi hs1 hs2 hm => ?_, fun w U C sc i j ow2 kd2 ks iv hd hi hpj hj hsc hm => ?_⟩
    · have ehp := IV_hp iv x1
      obtain ⟨v1, v2, v3, v4, v5, v6⟩ := iv
      have v2c := v2
      obtain ⟨⟨c1, c2, c3, c4⟩, c5, c6, c7, c8, c9, c11, c12⟩ := v2
      show OK _ (fb_M_clear_204 N (gg_M_clear N m) w (I p) (I i))
      unfold fb_M_clear_204
      rw [I_F' c2, decI (by omega) (by omega) (by omega) (by omega)]
      by_cases e : C ≤ i
      · have es : sc = U := hs2 (by omega)
        subst es
        rw [decide_eq_true (by omega), br_tq, inb_at (k := 89) (n := 25) rfl (by omega) (by omega) (by decide), ck_t, lt_e, I_tn (by omega) (by omega), Int.toNat_natCast, I_F' c1, wa_e, lit0q]
        refine ok_mono (cl7 (w0 := wa w 89 p sc) x4 v3 m 0 (wa w 89 p sc) (by omega) (by omega) c1 (fun j hj => absurd hj (Nat.not_lt_zero _)) FR.rf (fun _ _ => rfl)) (fun w2 _ ⟨q1, q2, q3⟩ => ?_)
        have e134 : w2.2.2.2 134 = w.2.2.2 134 := q1.2.2.2 134 (by decide)
        obtain ⟨fd, R, r1, r2, r3, r4, r5⟩ := GC_fin (P := P) x2 x3 v2c (hp w2 p) (fun i hi => by rw [q2 i hi, e134])
        have eJ : ∀ K, K ≠ 88 → w2.2.2.2 K = w.2.2.2 K := fun K hK => q1.2.2.2 K (by simp [hK])
        refine ⟨sc, ow2, kd2, fd, R, r1, r2, r3, Nat.le_trans c7 (cnt_le n), fun q => ?_, ?_, fun i hi => ?_, RM_fd v4 x8 r1.1 r4 r5 (eJ 91 (by decide)), RM_fd v5 x9 r1.1 r4 r5 (eJ 93 (by decide)), RM_fd v6 x10 r1.1 r4 r5 (eJ 107 (by decide)), fun z => ?_, fun z => ?_⟩
        · rw [FR.A q1 (by decide), A_wa (by omega) (by omega), if_pos rfl, FR.A v1 (by decide)]
        · have f0 : FR [136, 138] [139] [89, 90, 135] [88, 91, 93, 107, 134, 137] u w := FR.mo v1 (fun _ z => z) (fun _ z => z) (fun k z => List.mem_cons_of_mem _ z) (fun k z => List.mem_cons_of_mem _ z)
          refine FR.tr (FR.wa f0 (by decide)) (FR.mo q1 (fun _ z => by cases z) (fun _ z => by cases z) (fun _ z => by cases z) (fun k z => by rw [List.mem_singleton.mp z]; decide))
        · rw [q3 i hi]
          show w.2.2.2 88 i = _
          rw [v1.2.2.2 88 (by decide)]
        · have e1 : w2.2.1 139 = w.2.1 139 := q1.2.1 139 (by decide)
          rw [e1]
          exact MV_fd (hd.1 z) (x11 z) r1.1 r4 r5
        · have e1 : w2.2.1 139 = w.2.1 139 := q1.2.1 139 (by decide)
          rw [e1]
          exact hd.2 z
      · obtain ⟨d1, d2, d3, d4, d5, d6⟩ := c8 i (by omega)
        obtain ⟨p1, p2, p3⟩ := GC_bp v2c x3 d1 d2
        have eU := (c6 _ d1 d2).1
        have esc := hs1 (by omega)
        have cells := c12 _ d1 d2
        rw [decide_eq_false (by omega), br_fq, inb_at (k := 137) (n := 500) rfl (by omega) (by omega) (by decide), ck_t, I_tn (by omega) (by omega), Int.toNat_natCast, valueOf_e, bnd_so, sortOf_e, bnd_so, d4, d3]
        have hkd : kd (ks i) = 3 ∨ kd (ks i) = 5 ∨ kd (ks i) = 7 := by rcases c5 _ d1 with z | z; exact absurd z d2; exact z.2.2.2
        have hkn : ks i < n := by rcases c5 _ d1 with z | z; exact absurd z d2; exact z.2.1
        have y1 : so (mk (kd (ks i)) (ks i)) = kd (ks i) := so_mk (by omega) (by omega)
        have y2 : vn (mk (kd (ks i)) (ks i)) = ks i := by show (va _).toNat = _; rw [va_mk (by omega) (by omega)]; omega
        have y3 : isH (mk (kd (ks i)) (ks i)) := by unfold isH; rw [y1]; omega
        have hso : so (w.2.2.2 137 i) = so (mk (kd (ks i)) (ks i)) := by rw [d3, y1]
        have hH : isH (w.2.2.2 137 i) := by unfold isH; rw [hso]; exact y3
        have hp0 : prt (w.2.2.2 137 i) = pk kd (ks i) := prt_so hso
        have go : ∀ t0 : Int32, t0 = I (bs h kd (ks i)) → OK (fun w2 _ => CLR u p h n ow kd Fv P opM bnM bxM w2) (fb_M_clear_273 N (gg_M_clear N m) w (I p) (I i) (w.2.2.2 137 i) (I (A w 135 (ks i))) t0) := by
          intro t0 ht0
          subst ht0
          unfold fb_M_clear_273
          rw [partsFrom_e hH, bnd_so, hp0]
          have gsc : GC h n ow kd w U C (sc + pk kd (ks i)) ow2 kd2 ks := GC_sc v2c (by omega) (by omega) (fun k2 j2 a1 a2 a3 a4 a5 => by
            obtain ⟨e1, e2⟩ := GC_inj v2c x3 a1 a2 d1 d2 a3 (j2 := (A w 135 k2).toNat + j2 - sc) (by omega) (by omega)
            subst e1
            omega)
          exact ih2 w U C (sc + pk kd (ks i)) i (pk kd (ks i)) ow2 kd2 ks ⟨v1, gsc, v3, v4, v5, v6⟩ hd (by omega) (Nat.le_refl _) p2 (by omega) (by omega)
        have hr := A_r w 135 (ks i)
        have cl5 : (7 : Int32) = I 7 := rfl
        have cl6 : (5 : Int32) = I 5 := rfl
        have ebk : (bs h kd (ks i) : Int) = blk h (mk (kd (ks i)) (ks i)) := rfl
        rw [cl5, cl6, decE (by omega) (by omega) (by omega) (by omega), decE (by omega) (by omega) (by omega) (by omega)]
        have bkk := (HP_bk (P := P) x2 y3 (Or.inr ⟨y3, by rw [va_mk (by omega) (by omega)]; omega, by rw [y2]; exact hkn, by rw [y2]; rcases c5 _ d1 with z | z; exact absurd z d2; exact z.2.2.1, by rw [y2, y1]⟩)).1
        rcases hkd with e3 | e5 | e7
        · have eb2 : bs h kd (ks i) = 2 + vn (h (ks i + 1)) := by show blk h (mk (kd (ks i)) (ks i)) = _; unfold blk; rw [y1, y2, e3]; rfl
          have b30 : 0 ≤ va (h (ks i + 1)) := by have := (bkk.2.2.1 (by rw [y1, e3]; rfl)).1; rw [y2] at this; exact this
          have ep2 : pk kd (ks i) = 2 := by show prt (mk (kd (ks i)) (ks i)) = _; unfold prt; rw [y1, e3]; rfl
          rw [e3, decide_eq_false (by decide), br_fq, decide_eq_false (by decide), br_fq, lit1q, I_add, inb_at (k := 134) (n := 500) rfl (by omega) (by omega) (by decide), ck_t, I_tn (by omega) (by omega), show (A w 135 (ks i) + 1).toNat = (A w 135 (ks i)).toNat + 1 from by omega, (cells 1 (by omega)).2 (fun z => by omega)]
          refine go _ ?_
          rw [I_of (h (ks i + 1)).toInt32, show (2 : Int32) = I 2 from rfl, I_add]
          congr 1
          show (2 : Int) + va (h (ks i + 1)) = _
          unfold vn at eb2
          omega
        · have eb2 : bs h kd (ks i) = 1 + vn (h (ks i)) := by show blk h (mk (kd (ks i)) (ks i)) = _; unfold blk; rw [y1, y2, e5]; rfl
          have b20 : 0 ≤ va (h (ks i)) := by have := (bkk.2.1 (by rw [y1, e5]; rfl)).1; rw [y2] at this; exact this
          have ep2 : pk kd (ks i) = 1 := by show prt (mk (kd (ks i)) (ks i)) = _; unfold prt; rw [y1, e5]; rfl
          have c0 := (cells 0 (by omega)).2 (fun z => by omega)
          rw [show (A w 135 (ks i)).toNat + 0 = (A w 135 (ks i)).toNat from rfl, show ks i + 0 = ks i from rfl] at c0
          rw [e5, decide_eq_false (by decide), br_fq, decide_eq_true (by decide), br_tq, inb_at (k := 134) (n := 500) rfl (by omega) (by omega) (by decide), ck_t, I_tn (by omega) (by omega), c0]
          refine go _ ?_
          rw [I_of (h (ks i)).toInt32, lit1q, I_add]
          congr 1
          show (1 : Int) + va (h (ks i)) = _
          unfold vn at eb2
          omega
        · have eb2 : bs h kd (ks i) = 2 := by show blk h (mk (kd (ks i)) (ks i)) = _; unfold blk; rw [y1, e7]; rfl
          rw [e7, decide_eq_true (by decide), br_tq]
          refine go _ ?_
          rw [eb2]; rfl
    · have ehp := IV_hp iv x1
      have iv' := iv
      obtain ⟨v1, v2, v3, v4, v5, v6⟩ := iv
      have v2c := v2
      obtain ⟨⟨c1, c2, c3, c4⟩, c5, c6, c7, c8, c9, c11, c12⟩ := v2
      obtain ⟨d1, d2, d3, d4, d5, d6⟩ := c8 i hi
      obtain ⟨p1, p2, p3⟩ := GC_bp v2c x3 d1 d2
      have eU := (c6 _ d1 d2).1
      have hr := A_r w 135 (ks i)
      show OK _ (fb_M_clear_281 N (gg_M_clear N m) w (I p) (I i) (I (A w 135 (ks i))) (I (bs h kd (ks i))) (I j))
      unfold fb_M_clear_281
      rw [decI (by omega) (by omega) (by omega) (by omega)]
      by_cases e : bs h kd (ks i) ≤ j
      · rw [decide_eq_true (by omega), br_tq, lit1q, I_add]
        refine ih1 w U C sc (i + 1) ow2 kd2 ks iv' hd (by omega) (fun z => by have := d5 z; omega) (fun z => by have := d6 z; omega) (by omega)
      · rw [decide_eq_false (by omega), br_fq, I_add, inb_at (k := 134) (n := 500) rfl (by omega) (by omega) (by decide), ck_t, I_tn (by omega) (by omega), show (A w 135 (ks i) + (j : Int)).toNat = sc from by omega]
        have raw : w.2.2.2 134 sc = h (ks i + j) := by
          have := (c12 _ d1 d2 j (by omega)).2 (fun z => by omega)
          rw [show (A w 135 (ks i)).toNat + j = sc from by omega] at this
          exact this
        have hkn : ks i < n := by rcases c5 _ d1 with z | z; exact absurd z d2; exact z.2.1
        have hkd : kd (ks i) = 3 ∨ kd (ks i) = 5 ∨ kd (ks i) = 7 := by rcases c5 _ d1 with z | z; exact absurd z d2; exact z.2.2.2
        have y1 : so (mk (kd (ks i)) (ks i)) = kd (ks i) := so_mk (by omega) (by omega)
        have y2 : vn (mk (kd (ks i)) (ks i)) = ks i := by show (va _).toNat = _; rw [va_mk (by omega) (by omega)]; omega
        have y3 : isH (mk (kd (ks i)) (ks i)) := by unfold isH; rw [y1]; rcases c5 _ d1 with z | z; exact absurd z d2; omega
        have gy : GT n ow kd P (h (ks i + j)) := by
          have := (HP_bk (P := P) x2 y3 (Or.inr ⟨y3, by rw [va_mk (by omega) (by omega)]; omega, by rw [y2]; exact hkn, by rw [y2]; rcases c5 _ d1 with z | z; exact absurd z d2; exact z.2.2.1, by rw [y2, y1]⟩)).2 j hpj (by show j < bs h kd (ks i); omega)
          rw [y2] at this
          exact this
        rw [raw]
        refine ok_bnd.mpr (ok_mono (carried_ok (N := N) x2 x3 (show p < 25 by omega) ehp gy v2c hN) (fun w2 r hq => ?_))
        obtain ⟨q1, q2, q3, q4, q5, U2, C2, ow3, kd3, ks2, k1, k2, k3, k4, gc⟩ := hq
        rw [ck_t, lt_e, wj_e, lit1q, I_add]
        have em : A w2 135 (ks i) = A w 135 (ks i) := q2 _ d1 d2
        have eks : ks2 i = ks i := k4 i hi
        have mv : MV w2 (h (ks i + j)) r := ⟨q3, q4⟩
        have gs := GC_scan gc x3 (k := ks i) (j := j) d1 (by rw [em]; exact d2) (by omega) hpj (by rw [em]; omega) mv
        have f2 : FR [136, 138] [139] [135] [134, 137] w (wj w2 134 sc r) := FR.wj (FR.mo q1 (fun _ z => z) (fun _ z => by cases z) (fun _ z => z) (fun _ z => z)) (by decide)
        have ivn := IV_st (w2 := wj w2 134 sc r) iv' cx' (Nat.le_refl _) (Nat.le_refl _) (Nat.le_refl _) f2 q2 gs k3
        have hdn : HD u p (wj w2 134 sc r) := HD_st hd cx' (q1.2.1 139 (by decide)) q2
        have := ih2 (wj w2 134 sc r) U2 C2 (sc + 1) i (j + 1) ow3 kd3 ks2 ivn hdn (by omega) (by rw [eks]; omega) (by rw [eks]; omega) (by rw [eks]; show A w2 135 (ks i) + _ = _; rw [em]; omega) (by omega)
        rw [eks, show A (wj w2 134 sc r) 135 (ks i) = A w 135 (ks i) from em] at this
        exact this
end
end
section
section
variable {h : Nat → Int64} {n p N U C sc opM bnM bxM : Nat} {ow kd ow2 kd2 ks : Nat → Nat} {Fv : Int64 → Int64 → Prop} {P : Int64 → Prop} {u w : MS}
theorem wj_ne {w : MS} {K K2 i : Nat} {x : Int64} (hK : K2 ≠ K) : (wj w K i x).2.2.2 K2 = w.2.2.2 K2 := funext (fun j => by rw [J_wj, if_neg hK])
theorem GC_wj {K i : Nat} {x : Int64} (c : GC h n ow kd w U C sc ow2 kd2 ks) (h1 : 134 ≠ K) (h2 : 137 ≠ K) : GC h n ow kd (wj w K i x) U C sc ow2 kd2 ks := by
  obtain ⟨c1, c5, c6, c7, c8, c9, c11, c12⟩ := c
  exact ⟨c1, c5, c6, c7, fun i hi => by rw [wj_ne h2]; exact c8 i hi, c9, c11, fun k hk hm j hj => by rw [wj_ne h1]; exact c12 k hk hm j hj⟩
theorem GC_wl {x : Int64} {K : Nat} (c : GC h n ow kd w U C sc ow2 kd2 ks) : GC h n ow kd (wl w K x) U C sc ow2 kd2 ks := c
theorem cl4 (cx : CX u p h n ow kd Fv P opM bnM bxM) (hN : 600 ≤ N) : ∀ (m : Nat) (w : MS) (U C x : Nat) (ow2 kd2 ks : Nat → Nat), IV u p h n ow kd U C 0 ow2 kd2 ks opM bnM x w → w.2.1 139 = u.2.1 139 → x ≤ bxM → (30 - x) + 2200 < m → OK (fun w2 _ => CLR u p h n ow kd Fv P opM bnM bxM w2) ((gg_M_clear N m).2.2.2.1 w (I p) (I x)) := by
  have cx' := cx
  obtain ⟨x1, x2, x3, x4, x5, x6, x7, x8, x9, x10, x11⟩ := cx
  intro m
  induction m with
  | zero => intro w U C x _ _ _ _ _ _ z; exact absurd z (Nat.not_lt_zero _)
  | succ m ih =>
    intro w U C x ow2 kd2 ks iv eh hx hm
    have ehp := IV_hp iv x1
    have iv' := iv
    obtain ⟨v1, v2, v3, v4, v5, v6⟩ := iv
    show OK _ (fb_M_clear_138 N (gg_M_clear N m) w (I p) (I x))
    unfold fb_M_clear_138
    rw [inb_at (k := 108) (n := 24) rfl (by omega) (by omega) (by decide), ck_t, I_tn (by omega) (by omega), Int.toNat_natCast, I_A' (show A w 108 p = bxM from by rw [FR.A v1 (by decide)]; exact x7.1), decI (by omega) (by omega) (by omega) (by omega)]
    by_cases e : bxM ≤ x
    · have ex : x = bxM := by omega
      subst ex
      have h140 : F w 140 = F u 140 := FR.F v1 (by decide)
      have hr := F_r u 140
      rw [decide_eq_true (by omega), br_tq, I_F' h140, decE hr.1 hr.2 (by omega) (by omega)]
      by_cases e2 : F u 140 = p
      · rw [decide_eq_true e2, br_tq, eh]
        refine ok_bnd.mpr (ok_mono (carried_ok (N := N) x2 x3 (show p < 25 by omega) ehp (x11 e2) v2 hN) (fun w2 r hq => ?_))
        obtain ⟨q1, q2, q3, q4, q5, U2, C2, ow3, kd3, ks2, k1, k2, k3, k4, gc⟩ := hq
        rw [lt_e, wl_e]
        unfold fb_M_clear_202
        rw [lit0q]
        have iv2 := IV_st (w2 := wl w2 139 r) iv' cx' (Nat.le_refl _) (Nat.le_refl _) (Nat.le_refl _) (FR.wl (FR.mo q1 (fun _ z => z) (fun _ z => by cases z) (fun _ z => z) (fun _ z => z)) (by decide)) q2 (GC_wl gc) k3
        exact (cl56 cx' hN m).1 (wl w2 139 r) U2 C2 0 0 ow3 kd3 ks2 iv2 ⟨fun _ => by rw [L_wl, if_pos rfl]; exact ⟨q3, q4⟩, fun z => absurd e2 z⟩ (Nat.zero_le _) (fun z => by have := gc.2.2.2.2.2.1.2 z; exact this) (fun z => by have := gc.2.2.2.2.2.1.1 z.symm; omega) (by omega)
      · rw [decide_eq_false e2, br_fq]
        unfold fb_M_clear_202
        rw [lit0q]
        exact (cl56 cx' hN m).1 w U C 0 0 ow2 kd2 ks iv' ⟨fun z => absurd z e2, fun _ => eh⟩ (Nat.zero_le _) (fun z => by have := v2.2.2.2.2.2.1.2 z; exact this) (fun z => by have := v2.2.2.2.2.2.1.1 z.symm; omega) (by omega)
    · have e30 : (30 : Int32) = I 30 := rfl
      rw [decide_eq_false (by omega), br_fq, e30, I_mul, I_add, inb_at (k := 107) (n := 720) rfl (by omega) (by omega) (by decide), ck_t, I_tn (by omega) (by omega), show ((p : Int) * 30 + (x : Int)).toNat = 30 * p + x from by omega, ((v6 (30 * p + x)).2 (by omega))]
      refine ok_bnd.mpr (ok_mono (carried_ok (N := N) x2 x3 (show p < 25 by omega) ehp (x10 x (by omega)) v2 hN) (fun w2 r hq => ?_))
      obtain ⟨q1, q2, q3, q4, q5, U2, C2, ow3, kd3, ks2, k1, k2, k3, k4, gc⟩ := hq
      rw [ck_t, lt_e, wj_e, lit1q, I_add]
      have iv2 := IV_st (w2 := w2) iv' cx' (Nat.le_refl _) (Nat.le_refl _) hx (FR.mo q1 (fun _ z => z) (fun _ z => by cases z) (fun _ z => z) (fun _ z => z)) q2 gc k3
      obtain ⟨t1, t2, t3, t4, t5, t6⟩ := iv2
      refine ih (wj w2 107 (30 * p + x) r) U2 C2 (x + 1) ow3 kd3 ks2 ⟨FR.wj t1 (by decide), GC_wj gc (by decide) (by decide), k3, RM_st t4 x3 x8 (fun _ _ _ => rfl) (wj_ne (by decide)), RM_st t5 x3 x9 (fun _ _ _ => rfl) (wj_ne (by decide)), RM_step t6 ⟨q3, q4⟩⟩ (by show w2.2.1 139 = _; rw [q1.2.1 139 (by decide)]; exact eh) (by omega) (by omega)
theorem cl3 (cx : CX u p h n ow kd Fv P opM bnM bxM) (hN : 600 ≤ N) : ∀ (m : Nat) (w : MS) (U C x : Nat) (ow2 kd2 ks : Nat → Nat), IV u p h n ow kd U C 0 ow2 kd2 ks opM x 0 w → w.2.1 139 = u.2.1 139 → x ≤ bnM → (2500 - x) + 2300 < m → OK (fun w2 _ => CLR u p h n ow kd Fv P opM bnM bxM w2) ((gg_M_clear N m).2.2.1 w (I p) (I x)) := by
  have cx' := cx
  obtain ⟨x1, x2, x3, x4, x5, x6, x7, x8, x9, x10, x11⟩ := cx
  intro m
  induction m with
  | zero => intro w U C x _ _ _ _ _ _ z; exact absurd z (Nat.not_lt_zero _)
  | succ m ih =>
    intro w U C x ow2 kd2 ks iv eh hx hm
    have ehp := IV_hp iv x1
    have iv' := iv
    obtain ⟨v1, v2, v3, v4, v5, v6⟩ := iv
    show OK _ (fb_M_clear_91 N (gg_M_clear N m) w (I p) (I x))
    unfold fb_M_clear_91
    rw [inb_at (k := 94) (n := 24) rfl (by omega) (by omega) (by decide), ck_t, I_tn (by omega) (by omega), Int.toNat_natCast, I_A' (show A w 94 p = bnM from by rw [FR.A v1 (by decide)]; exact x6.1), decI (by omega) (by omega) (by omega) (by omega)]
    by_cases e : bnM ≤ x
    · have ex : x = bnM := by omega
      subst ex
      rw [decide_eq_true (by omega), br_tq, lit0q]
      exact cl4 cx' hN m w U C 0 ow2 kd2 ks iv' eh (Nat.zero_le _) (by omega)
    · have eS : (2500 : Int32) = I 2500 := rfl
      rw [decide_eq_false (by omega), br_fq, eS, I_mul, I_add, inb_at (k := 93) (n := 60000) rfl (by omega) (by omega) (by decide), ck_t, I_tn (by omega) (by omega), show ((p : Int) * 2500 + (x : Int)).toNat = 2500 * p + x from by omega, ((v5 (2500 * p + x)).2 (by omega))]
      refine ok_bnd.mpr (ok_mono (carried_ok (N := N) x2 x3 (show p < 25 by omega) ehp (x9 x (by omega)) v2 hN) (fun w2 r hq => ?_))
      obtain ⟨q1, q2, q3, q4, q5, U2, C2, ow3, kd3, ks2, k1, k2, k3, k4, gc⟩ := hq
      rw [ck_t, lt_e, wj_e, lit1q, I_add]
      have iv2 := IV_st (w2 := w2) iv' cx' (Nat.le_refl _) hx (Nat.zero_le _) (FR.mo q1 (fun _ z => z) (fun _ z => by cases z) (fun _ z => z) (fun _ z => z)) q2 gc k3
      obtain ⟨t1, t2, t3, t4, t5, t6⟩ := iv2
      refine ih (wj w2 93 (2500 * p + x) r) U2 C2 (x + 1) ow3 kd3 ks2 ⟨FR.wj t1 (by decide), GC_wj gc (by decide) (by decide), k3, RM_st t4 x3 x8 (fun _ _ _ => rfl) (wj_ne (by decide)), RM_step t5 ⟨q3, q4⟩, RM_st (n := n) (ow := ow) (kd := kd) (P := P) t6 x3 (fun i hi => by omega) (fun _ _ _ => rfl) (wj_ne (by decide))⟩ (by show w2.2.1 139 = _; rw [q1.2.1 139 (by decide)]; exact eh) (by omega) (by omega)
theorem cl2 (cx : CX u p h n ow kd Fv P opM bnM bxM) (hN : 600 ≤ N) : ∀ (m : Nat) (w : MS) (U C x : Nat) (ow2 kd2 ks : Nat → Nat), IV u p h n ow kd U C 0 ow2 kd2 ks x 0 0 w → w.2.1 139 = u.2.1 139 → x ≤ opM → (46000 - x) + 4900 < m → OK (fun w2 _ => CLR u p h n ow kd Fv P opM bnM bxM w2) ((gg_M_clear N m).2.1 w (I p) (I x)) := by
  have cx' := cx
  obtain ⟨x1, x2, x3, x4, x5, x6, x7, x8, x9, x10, x11⟩ := cx
  intro m
  induction m with
  | zero => intro w U C x _ _ _ _ _ _ z; exact absurd z (Nat.not_lt_zero _)
  | succ m ih =>
    intro w U C x ow2 kd2 ks iv eh hx hm
    have ehp := IV_hp iv x1
    have iv' := iv
    obtain ⟨v1, v2, v3, v4, v5, v6⟩ := iv
    show OK _ (fb_M_clear_44 N (gg_M_clear N m) w (I p) (I x))
    unfold fb_M_clear_44
    rw [inb_at (k := 92) (n := 24) rfl (by omega) (by omega) (by decide), ck_t, I_tn (by omega) (by omega), Int.toNat_natCast, I_A' (show A w 92 p = opM from by rw [FR.A v1 (by decide)]; exact x5.1), decI (by omega) (by omega) (by omega) (by omega)]
    by_cases e : opM ≤ x
    · have ex : x = opM := by omega
      subst ex
      rw [decide_eq_true (by omega), br_tq, lit0q]
      exact cl3 cx' hN m w U C 0 ow2 kd2 ks iv' eh (Nat.zero_le _) (by omega)
    · have eS : (46000 : Int32) = I 46000 := rfl
      rw [decide_eq_false (by omega), br_fq, eS, I_mul, I_add, inb_at (k := 91) (n := 1104000) rfl (by omega) (by omega) (by decide), ck_t, I_tn (by omega) (by omega), show ((p : Int) * 46000 + (x : Int)).toNat = 46000 * p + x from by omega, ((v4 (46000 * p + x)).2 (by omega))]
      refine ok_bnd.mpr (ok_mono (carried_ok (N := N) x2 x3 (show p < 25 by omega) ehp (x8 x (by omega)) v2 hN) (fun w2 r hq => ?_))
      obtain ⟨q1, q2, q3, q4, q5, U2, C2, ow3, kd3, ks2, k1, k2, k3, k4, gc⟩ := hq
      rw [ck_t, lt_e, wj_e, lit1q, I_add]
      have iv2 := IV_st (w2 := w2) iv' cx' hx (Nat.zero_le _) (Nat.zero_le _) (FR.mo q1 (fun _ z => z) (fun _ z => by cases z) (fun _ z => z) (fun _ z => z)) q2 gc k3
      obtain ⟨t1, t2, t3, t4, t5, t6⟩ := iv2
      refine ih (wj w2 91 (46000 * p + x) r) U2 C2 (x + 1) ow3 kd3 ks2 ⟨FR.wj t1 (by decide), GC_wj gc (by decide) (by decide), k3, RM_step t4 ⟨q3, q4⟩, RM_st (n := n) (ow := ow) (kd := kd) (P := P) t5 x3 (fun i hi => by omega) (fun _ _ _ => rfl) (wj_ne (by decide)), RM_st (n := n) (ow := ow) (kd := kd) (P := P) t6 x3 (fun i hi => by omega) (fun _ _ _ => rfl) (wj_ne (by decide))⟩ (by show w2.2.1 139 = _; rw [q1.2.1 139 (by decide)]; exact eh) (by omega) (by omega)
theorem RM_0 {K b : Nat} (e : w.2.2.2 K = u.2.2.2 K) : RM u w K b 0 := fun i => ⟨fun z => by omega, fun _ => by rw [e]⟩
theorem cl1 (cx : CX u p h n ow kd Fv P opM bnM bxM) (hN : 600 ≤ N) : ∀ (m x : Nat) (w : MS), FR [136, 138] [] [90, 135] [] u w → F w 136 = 0 → F w 138 = 0 → (∀ k, k < x → A w 135 k = -1) → x ≤ 500 → (500 - x) + 51000 < m → OK (fun w2 _ => CLR u p h n ow kd Fv P opM bnM bxM w2) ((gg_M_clear N m).1 w (I p) (I x)) := by
  intro m
  induction m with
  | zero => intro x w _ _ _ _ _ z; exact absurd z (Nat.not_lt_zero _)
  | succ m ih =>
    intro x w f1 f2 f3 f4 hx hm
    show OK _ (fb_M_clear_22 N (gg_M_clear N m) w (I p) (I x))
    unfold fb_M_clear_22
    rw [lit500, decI (by omega) (by omega) (by omega) (by omega)]
    by_cases e : 500 ≤ x
    · rw [decide_eq_true (by omega), br_tq, lit0q]
      have gc : GC h n ow kd w 0 0 0 (fun _ => 0) (fun _ => 0) (fun _ => 0) := by
        refine ⟨⟨f2, f3, Nat.le_refl _, Nat.le_refl _⟩, fun k hk => Or.inl (f4 k (by omega)), fun k hk z => absurd (f4 k (by omega)) z, Nat.zero_le _, fun i hi => absurd hi (Nat.not_lt_zero _), ⟨fun _ => rfl, fun z => absurd z (Nat.not_lt_zero _)⟩, fun k hk z => absurd (f4 k (by omega)) z, fun k hk z => absurd (f4 k (by omega)) z⟩
      refine cl2 cx hN m w 0 0 0 _ _ _ ⟨FR.mo f1 (fun _ z => z) (fun _ z => by cases z) (fun _ z => z) (fun _ z => by cases z), gc, by omega, RM_0 (f1.2.2.2 91 (by decide)), RM_0 (f1.2.2.2 93 (by decide)), RM_0 (f1.2.2.2 107 (by decide))⟩ (f1.2.1 139 (by decide)) (Nat.zero_le _) (by omega)
    · rw [decide_eq_false (by omega), br_fq, inb_at (k := 135) (n := 500) rfl (by omega) (by omega) (by decide), ck_t, lt_e, I_tn (by omega) (by omega), Int.toNat_natCast, litm1q, wa_e, lit1q, I_add]
      refine ih (x + 1) (wa w 135 x (-1)) (FR.wa f1 (by decide)) f2 f3 (fun k hk => ?_) (by omega) (by omega)
      rw [A_wa (by omega) (by omega), if_pos rfl]
      by_cases e2 : k = x
      · rw [if_pos e2]
      · rw [if_neg e2]; exact f4 k (by omega)
theorem clear_ok (cx : CX u p h n ow kd Fv P opM bnM bxM) (hN : 60000 ≤ N) : OK (fun w2 _ => CLR u p h n ow kd Fv P opM bnM bxM w2) (fm_M_clear N u (I p)) := by
  have x4 := cx.2.2.2.1
  unfold fm_M_clear fb_M_clear_0
  rw [inb_at (k := 90) (n := 24) rfl (by omega) (by omega) (by decide), ck_t, ck_t, lt_e, I_tn (by omega) (by omega), Int.toNat_natCast, I_A, lit1q, I_add, wa_e, lt_e, lit0q, wi_e, lt_e, wi_e]
  exact cl1 cx (by omega) N 0 _ (FR.wi (FR.wi (FR.wa FR.rf (by decide)) (by decide)) (by decide)) (by rw [F_wi (by omega) (by omega), if_neg (by decide), F_wi (by omega) (by omega), if_pos rfl]) (by rw [F_wi (by omega) (by omega), if_pos rfl]) (fun k hk => absurd hk (Nat.not_lt_zero _)) (by omega) (by omega)
end
end
section
section
variable {h h2 : Nat → Int64} {n n2 p N opM bnM bxM : Nat} {ow kd ow2 kd2 : Nat → Nat} {Fv : Int64 → Int64 → Prop} {P : Int64 → Prop} {u w : MS} {fd : Int64 → Int64} {R : Int64 → Prop}
theorem HOM_gt (m : HOM h n ow kd h2 n2 ow2 kd2 P fd R) {t : Int64} (g : GT n ow kd P t) (r : isH t → R t) : GT n2 ow2 kd2 P (fd t) := by
  by_cases ht : isH t
  · exact (m.2 t ht (r ht)).2.2.1
  · rw [m.1 t ht]
    rcases g with z | ⟨z, -⟩
    · exact Or.inl z
    · exact absurd z ht
theorem HOM_id (g : HP h n ow kd Fv P) : HOM h n ow kd h n ow kd P (fun t => t) (fun t => GT n ow kd P t) := by
  refine ⟨fun _ _ => rfl, fun t ht r => ⟨r, rfl, r, rfl, fun _ _ => rfl, fun j h1 h2 => ⟨rfl, fun _ => (HP_bk g ht r).2 j h1 h2⟩⟩⟩
def WNT (u : MS) (p : Nat) (n : Nat) (ow kd : Nat → Nat) (Fv : Int64 → Int64 → Prop) (P : Int64 → Prop) (opM bnM bxM : Nat) (w : MS) (n2 : Nat) (ow2 kd2 : Nat → Nat) (fd : Int64 → Int64) (R : Int64 → Prop) : Prop :=
  HOM (hp u p) n ow kd (hp w p) n2 ow2 kd2 P fd R ∧ (∀ t, isH t → R t → vn (fd t) + blk (hp w p) (fd t) ≤ n2 ∧ ∀ j, j < blk (hp w p) (fd t) → ow2 (vn (fd t) + j) = vn (fd t)) ∧ CX w p (hp w p) n2 ow2 kd2 Fv P opM bnM bxM ∧ n2 ≤ n ∧ (∀ q, A w 89 q = if q = p then (n2 : Int) else A u 89 q) ∧ FR [136, 138] [139] [89, 90, 135] [88, 91, 93, 107, 134, 137] u w ∧ (∀ i, ¬ (500 * p ≤ i ∧ i < 500 * p + 500) → w.2.2.2 88 i = u.2.2.2 88 i) ∧ RTS u w fd R 91 (46000 * p) opM ∧ RTS u w fd R 93 (2500 * p) bnM ∧ RTS u w fd R 107 (30 * p) bxM ∧ (F u 140 = p → w.2.1 139 = fd (u.2.1 139) ∧ (isH (u.2.1 139) → R (u.2.1 139))) ∧ (F u 140 ≠ p → w.2.1 139 = u.2.1 139)
theorem WNT_of (cx : CX u p h n ow kd Fv P opM bnM bxM) (c : CLR u p h n ow kd Fv P opM bnM bxM w) : ∃ n2 ow2 kd2 fd R, WNT u p n ow kd Fv P opM bnM bxM w n2 ow2 kd2 fd R := by
  obtain ⟨x1, x2, x3, x4, x5, x6, x7, x8, x9, x10, x11⟩ := cx
  obtain ⟨U, ow2, kd2, fd, R, c1, c2, c3, c4, c5, c6, c7, c8, c9, c10, c11, c12⟩ := c
  subst x1
  have root : ∀ K b M, RTS u w fd R K b M → (∀ i, i < M → GT n ow kd P (u.2.2.2 K (b + i))) → ∀ i, i < M → GT U ow2 kd2 P (w.2.2.2 K (b + i)) := fun K b M r g i hi => by
    obtain ⟨a, b2⟩ := (r (b + i)).1 ⟨by omega, by omega⟩
    rw [a]
    exact HOM_gt c1 (g i hi) b2
  exact ⟨U, ow2, kd2, fd, R, c1, c3, ⟨rfl, c2, by omega, x4, ⟨by rw [FR.A c6 (by decide)]; exact x5.1, x5.2⟩, ⟨by rw [FR.A c6 (by decide)]; exact x6.1, x6.2⟩, ⟨by rw [FR.A c6 (by decide)]; exact x7.1, x7.2⟩, root _ _ _ c8 x8, root _ _ _ c9 x9, root _ _ _ c10 x10, fun z => by rw [FR.F c6 (by decide)] at z; rw [(c11 z).1]; exact HOM_gt c1 (x11 z) (c11 z).2⟩, c4, c5, c6, c7, c8, c9, c10, c11, c12⟩
theorem WNT_id (cx : CX u p (hp u p) n ow kd Fv P opM bnM bxM) (hu : A u 89 p = n) : WNT u p n ow kd Fv P opM bnM bxM u n ow kd (fun t => t) (fun t => GT n ow kd P t) := by
  have cx' := cx
  obtain ⟨x1, x2, x3, x4, x5, x6, x7, x8, x9, x10, x11⟩ := cx
  have rt : ∀ K b M, (∀ i, i < M → GT n ow kd P (u.2.2.2 K (b + i))) → RTS u u (fun t => t) (fun t => GT n ow kd P t) K b M := fun K b M g i => ⟨fun z => ⟨rfl, fun _ => by have := g (i - b) (by omega); rw [show b + (i - b) = i from by omega] at this; exact this⟩, fun _ => rfl⟩
  refine ⟨HOM_id x2, fun t ht r => ?_, cx', Nat.le_refl _, fun q => ?_, FR.rf, fun _ _ => rfl, rt _ _ _ x8, rt _ _ _ x9, rt _ _ _ x10, fun z => ⟨rfl, fun _ => x11 z⟩, fun _ => rfl⟩
  · have := (HP_bk x2 ht r).1
    exact ⟨this.2.2.2.1, this.2.2.2.2.2⟩
  · by_cases e : q = p
    · rw [if_pos e, e]; exact hu
    · rw [if_neg e]
theorem wants_ok (cx : CX u p (hp u p) n ow kd Fv P opM bnM bxM) (hu : A u 89 p = n) {k : Nat} (hk : k ≤ 100000) (hN : 60000 ≤ N) :
    OK (fun w r => ∃ n2 ow2 kd2 fd R, WNT u p n ow kd Fv P opM bnM bxM w n2 ow2 kd2 fd R ∧ ((r = I 1 ∧ n2 + k ≤ 500) ∨ (r = I 0 ∧ 500 < n2 + k))) (fm_M_wants N u (I p) (I k)) := by
  have x4 := cx.2.2.2.1
  have x3 := cx.2.2.1
  have last : ∀ (w : MS) n2 ow2 kd2 fd R, WNT u p n ow kd Fv P opM bnM bxM w n2 ow2 kd2 fd R → OK (fun w r => ∃ n2 ow2 kd2 fd R, WNT u p n ow kd Fv P opM bnM bxM w n2 ow2 kd2 fd R ∧ ((r = I 1 ∧ n2 + k ≤ 500) ∨ (r = I 0 ∧ 500 < n2 + k))) (fb_M_wants_19 N () w (I p) (I k)) := by
    intro w n2 ow2 kd2 fd R hw
    have e9 := hw.2.2.2.2.1 p
    rw [if_pos rfl] at e9
    have hn2 := hw.2.2.2.1
    unfold fb_M_wants_19 fb_M_wants_38
    rw [inb_at (k := 89) (n := 25) rfl (by omega) (by omega) (by decide), ck_t, I_tn (by omega) (by omega), Int.toNat_natCast, I_A' e9, I_add, lit500, decL (by omega) (by omega) (by omega) (by omega)]
    by_cases e : 500 < n2 + k
    · rw [decide_eq_true (by omega), br_tq]
      exact ok_ck.mpr ⟨rfl, ok_some.mpr ⟨n2, ow2, kd2, fd, R, hw, Or.inr ⟨rfl, e⟩⟩⟩
    · rw [decide_eq_false (by omega), br_fq]
      exact ok_ck.mpr ⟨rfl, ok_some.mpr ⟨n2, ow2, kd2, fd, R, hw, Or.inl ⟨rfl, by omega⟩⟩⟩
  unfold fm_M_wants fb_M_wants_0
  rw [inb_at (k := 89) (n := 25) rfl (by omega) (by omega) (by decide), ck_t, I_tn (by omega) (by omega), Int.toNat_natCast, I_A' hu, I_add, lit500, decI (by omega) (by omega) (by omega) (by omega)]
  by_cases e : n + k ≤ 500
  · rw [decide_eq_true (by omega), br_tq]
    exact last u _ _ _ _ _ (WNT_id cx hu)
  · rw [decide_eq_false (by omega), br_fq]
    refine ok_bnd.mpr (ok_mono (clear_ok cx hN) (fun w _ hc => ?_))
    obtain ⟨n2, ow2, kd2, fd, R, hw⟩ := WNT_of cx hc
    exact last w _ _ _ _ _ hw
end
end
