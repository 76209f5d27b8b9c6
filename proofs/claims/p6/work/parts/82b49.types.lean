set_option maxRecDepth 100000
def PTc (u : MS) : Nat → Nat → Nat → Nat → Prop
  | 0, _, _, _ => False
  | f + 1, i, b, e => (A u 23 i = 8 ∧ i = e ∧ b = 0) ∨ (A u 23 i = 1 ∧ PTc u f (i + 3) b e) ∨ (A u 23 i = 2 ∧ ∃ n : Nat, A u 23 (i + 1) = ((n : Nat) : Int) ∧ n ≤ 40 ∧ PTc u f (i + 2 + n) b e) ∨ (A u 23 i = 3 ∧ PTc u f (i + 2) b e) ∨ (A u 23 i = 4 ∧ ∃ c, b = c + 1 ∧ PTc u f (i + 2) c e) ∨ (A u 23 i = 5 ∧ PTc u f (i + 1) b e) ∨ (A u 23 i = 6 ∧ (∃ n : Nat, A u 23 (i + 1) = ((n : Nat) : Int) ∧ n ≤ 8) ∧ PTc u f (i + 2) b e) ∨ (A u 23 i = 7 ∧ PTc u f (i + 1) b e)
section
variable (T : Nat → Option (Nat × Nat × List Nat × Nat × Nat)) (u : MS)
def TGc (i k : Nat) (y : Nat × Nat × List Nat × Nat × Nat) : Prop := ∃ t : Nat, A u 23 (i + k) = ((t : Nat) : Int) ∧ i < t ∧ T t = some y
def FLc (L : List Nat) (k : Nat) : Prop := match L with
  | [] => True
  | t :: M => ∃ h m, T t = some (h + 1, m, M, 0, 0) ∧ h ≤ k
def tkc (d : Int) : Nat := if d = 0 ∨ d = 11 ∨ d = 16 then 0 else if d = 12 ∨ d = 27 then 2 else 1
def IN1 (i h m : Nat) (L : List Nat) (g x : Nat) : Prop :=
  (A u 23 i = 1 ∧ (A u 23 (i + 1) = 0 ∨ (A u 23 (i + 1) = 1 ∧ 0 ≤ A u 23 (i + 2) ∧ A u 23 (i + 2) < F u 22) ∨ (A u 23 (i + 1) = 6 ∧ A u 23 (i + 2) = 0)) ∧ T (i + 3) = some (h + 1, m, L, g, x)) ∨
  (A u 23 i = 2 ∧ ∃ n : Nat, A u 23 (i + 1) = ((n : Nat) : Int) ∧ n ≤ 40 ∧ T (i + 2 + n) = some (h + 1, m, L, g, x)) ∨
  (A u 23 i = 3 ∧ T (i + 2) = some (h + 1, m, L, g, x)) ∨
  (A u 23 i = 4 ∧ ∃ n : Nat, A u 23 (i + 1) = ((n : Nat) : Int) ∧ n ≤ h ∧ T (i + 2) = some (h - n + 1, m, L, g, x)) ∨
  (A u 23 i = 5 ∧ ∃ n : Nat, A u 23 (i + 1) = ((n : Nat) : Int) ∧ 1 ≤ n ∧ n + 1 ≤ h ∧ T (i + 2) = some (h - n, m, L, g, x)) ∨
  (A u 23 i = 6 ∧ ∃ pl n : Nat, A u 23 (i + 1) = ((pl : Nat) : Int) ∧ ((pl : Nat) : Int) < F u 449 ∧ A u 32 pl = ((i + 2 : Nat) : Int) ∧ A u 23 (i + 2) = ((n : Nat) : Int) ∧ n ≤ 40 ∧ T (i + 3 + n) = some (h + 1, m, L, g, x)) ∨
  (A u 23 i = 7 ∧ ∃ f : Nat, A u 23 (i + 1) = ((f : Nat) : Int) ∧ ((f : Nat) : Int) < F u 442 ∧ T (i + 2) = some (h + 1, m, L, g, x)) ∨
  ((A u 23 i = 8 ∨ A u 23 i = 9 ∨ A u 23 i = 10) ∧ 2 ≤ h ∧ T (i + 2) = some (h - 1, m, L, g, x)) ∨
  ((A u 23 i = 11 ∨ A u 23 i = 12) ∧ 1 ≤ h ∧ T (i + 1) = some (h, m, L, g, x)) ∨
  ((A u 23 i = 13 ∨ A u 23 i = 14) ∧ 1 ≤ h ∧ T (i + 2) = some (h - 1, m, L, g, x) ∧ TGc T u i 1 (h, m, L, g, x)) ∨
  (A u 23 i = 15 ∧ 1 ≤ h ∧ T (i + 1) = some (h - 1, m, L, g, x)) ∨
  (A u 23 i = 16 ∧ g = 0 ∧ ∃ n : Nat, A u 23 (i + 1) = ((n : Nat) : Int) ∧ n ≤ m ∧ T (i + 2) = some (h, m - n, L, g, x)) ∨
  (A u 23 i = 17 ∧ 2 ≤ h ∧ T (i + 1) = some (h - 1, m, L, g, x))
def IN2 (i h m : Nat) (L : List Nat) (g x : Nat) : Prop :=
  (A u 23 i = 18 ∧ TGc T u i 1 (h, m, L, g, x)) ∨
  (A u 23 i = 19 ∧ g = 0 ∧ ((∃ n : Nat, A u 23 (i + 1) = ((n : Nat) : Int) ∧ n ≤ h) ∨ (A u 23 (i + 1) = -1 ∧ 1 ≤ h) ∨ (A u 23 (i + 1) = -2 ∧ x ≠ 0)) ∧ TGc T u i 2 (h, m, L, 0, x) ∧ ∃ f b e, PTc u f (i + 3) b e ∧ f ≤ 24000 ∧ m + b ≤ 40 ∧ i < e ∧ T (e + 1) = some (h, m + b, L, 0, x)) ∨
  (A u 23 i = 20 ∧ g = 0 ∧ 1 ≤ h ∧ ∃ f b e, PTc u f (i + 1) b e ∧ f ≤ 24000 ∧ m + b ≤ 40 ∧ i < e ∧ T (e + 1) = some (h, m + b, L, 0, x)) ∨
  (A u 23 i = 21 ∧ g = 0 ∧ ∃ n : Nat, A u 23 (i + 1) = ((n : Nat) : Int) ∧ n ≤ m ∧ T (i + 3) = some (h, m, L, i, x)) ∨
  (A u 23 i = 22 ∧ g ≠ 0 ∧ 1 ≤ h ∧ T (i + 1) = some (h - 1, m, L, g, x)) ∨
  (A u 23 i = 23 ∧ T (i + 1) = some (h, m, L, 0, x)) ∨
  (A u 23 i = 24 ∧ ∃ n : Nat, A u 23 (i + 1) = ((n : Nat) : Int) ∧ n ≤ h ∧ T (i + 3) = some (h - n, m, L, g, x)) ∨
  ((A u 23 i = 25 ∨ (A u 23 i = 26 ∧ L = [])) ∧ g = 0 ∧ x = 0 ∧ ∃ f n : Nat, A u 23 (i + 1) = ((f : Nat) : Int) ∧ ((f : Nat) : Int) < F u 442 ∧ A u 23 (i + 2) = ((n : Nat) : Int) ∧ A u 25 f = ((n : Nat) : Int) ∧ n ≤ h ∧ FLc T L (h - n) ∧ T (i + 4) = some (h - n + 1, m, L, 0, 0)) ∨
  ((A u 23 i = 27 ∨ (A u 23 i = 28 ∧ L = [])) ∧ g = 0 ∧ x = 0 ∧ ∃ n : Nat, A u 23 (i + 1) = ((n : Nat) : Int) ∧ n + 1 ≤ h ∧ FLc T L (h - n - 1) ∧ T (i + 3) = some (h - n, m, L, 0, 0)) ∨
  (A u 23 i = 29 ∧ g = 0 ∧ x = 0 ∧ ∃ t : Nat, A u 23 (i + 1) = ((t : Nat) : Int) ∧ i < t ∧ T t = some (h + 1, m, L, 0, 0) ∧ T (i + 2) = some (h, m, t :: L, 0, 0)) ∨
  (A u 23 i = 30 ∧ g = 0 ∧ ∃ t M, L = t :: M ∧ T (i + 1) = some (h, m, M, 0, x))
def IN3 (i h m : Nat) (L : List Nat) (g x : Nat) : Prop :=
  (A u 23 i = 31 ∧ g = 0 ∧ x = 0 ∧ ((A u 23 (i + 1) = 1 ∧ 1 ≤ h ∧ T (i + 2) = some (h - 1, m, L, 0, i + 2)) ∨ (A u 23 (i + 1) = 0 ∧ T (i + 2) = some (h, m, L, 0, i + 2)))) ∨
  (A u 23 i = 32 ∧ g = 0 ∧ x = i ∧ T (i + 2) = some (h, m, L, 0, i) ∧ (A u 23 (i - 1) = 0 ∨ TGc T u i 1 (h, m, L, 0, 0))) ∨
  (A u 23 i = 33 ∧ g = 0 ∧ x ≠ 0 ∧ T (i + 1) = some (h, m, L, 0, 0)) ∨
  (A u 23 i = 34 ∧ g = 0 ∧ x ≠ 0 ∧ i + 1 < 24000 ∧ A u 23 (i + 1) = ((x : Nat) : Int) ∧ T x = some (h, m, L, 0, x)) ∨
  (A u 23 i = 35 ∧ g = 0 ∧ x = 0 ∧ 1 ≤ h ∧ L = []) ∨
  (A u 23 i = 36 ∨ A u 23 i = 38) ∨ (A u 23 i = 37 ∧ 1 ≤ h) ∨
  (A u 23 i = 39 ∧ tkc (A u 23 (i + 1)) ≤ h ∧ T (i + 2) = some (h - tkc (A u 23 (i + 1)) + 1, m, L, g, x)) ∨
  (A u 23 i = 40 ∧ (if A u 23 (i + 1) = 29 then 2 else 1) ≤ h ∧ T (i + 2) = some (h - (if A u 23 (i + 1) = 29 then 2 else 1) + 1, m, L, g, x))
def CHc (i : Nat) : List Nat → Nat → Nat → Prop
  | [], _, _ => True
  | t :: L, h, m => i < t ∧ ∃ h2 m2, T t = some (h2 + 1, m2, L, 0, 0) ∧ h2 ≤ h ∧ m2 ≤ m
def GRc (i h m : Nat) (L : List Nat) (g x : Nat) : Prop := g ≠ 0 → g < i ∧ ∃ hg n t : Nat, T g = some (hg, m, L, 0, x) ∧ hg ≤ h ∧ A u 23 (g + 1) = ((n : Nat) : Int) ∧ n ≤ m ∧ A u 23 (g + 2) = ((t : Nat) : Int) ∧ i < t ∧ T t = some (hg, m - n, L, 0, x)
def WFT : Prop := ∀ i h m L g x, T i = some (h, m, L, g, x) → (1 ≤ i ∧ i < 24000) ∧ (h ≤ 1090 ∧ m ≤ 40 ∧ L.length ≤ 25) ∧ CHc T i L h m ∧ GRc T u i h m L g x ∧ (x ≤ i ∧ (A u 23 i ≠ 32 → x < i)) ∧ (IN1 T u i h m L g x ∨ IN2 T u i h m L g x ∨ IN3 T u i h m L g x)
def CDT (Fv : Int64 → Int64 → Prop) : Prop := (0 ≤ F u 442 ∧ F u 442 ≤ 666) ∧ (∀ f : Nat, ((f : Nat) : Int) < F u 442 → ∃ a e : Nat, A u 25 f = ((a : Nat) : Int) ∧ A u 29 f = ((e : Nat) : Int) ∧ T e = some (a, 0, [], 0, 0)) ∧ (0 ≤ F u 449 ∧ F u 449 ≤ 400) ∧
  (∀ pl : Nat, ((pl : Nat) : Int) < F u 449 → ∃ a e p k : Nat, A u 30 pl = ((a : Nat) : Int) ∧ A u 31 pl = ((e : Nat) : Int) ∧ A u 32 pl = ((p : Nat) : Int) ∧ A u 23 p = ((k : Nat) : Int) ∧ p + k < 24000 ∧ T e = some (a, k, [], 0, 0) ∧ Fv (mk 8 ((pl : Nat) : Int)) (mk 8 ((k : Nat) : Int))) ∧
  (∀ f : Nat, ((f : Nat) : Int) < F u 442 → Fv (mk 8 (1000000 + ((f : Nat) : Int))) (mk 8 0)) ∧
  ∀ a b, Fv a b → (∃ pl : Nat, va a = ((pl : Nat) : Int) ∧ ((pl : Nat) : Int) < F u 449 ∧ va b = A u 23 (A u 32 pl).toNat) ∨ ∃ f : Nat, va a = 1000000 + ((f : Nat) : Int) ∧ ((f : Nat) : Int) < F u 442 ∧ va b = 0
end
def keyT (T : Nat → Option (Nat × Nat × List Nat × Nat × Nat)) (j : Nat) : Nat := match T j with
  | some (_, _, _, _, x) => if x = 0 then j else x
  | none => 0
def xT (T : Nat → Option (Nat × Nat × List Nat × Nat × Nat)) (j : Nat) : Nat := match T j with
  | some (_, _, _, _, x) => x
  | none => 0
def cKc (T : Nat → Option (Nat × Nat × List Nat × Nat × Nat)) (i : Nat) : Nat → Nat
  | 0 => 0
  | n + 1 => cKc T i n + (if i ≤ keyT T n then 1 else 0)
def cNc (T : Nat → Option (Nat × Nat × List Nat × Nat × Nat)) (s i : Nat) : Nat → Nat
  | 0 => 0
  | n + 1 => cNc T s i n + (if xT T n = s ∧ i ≤ n then 1 else 0)
def potc (T : Nat → Option (Nat × Nat × List Nat × Nat × Nat)) (i x t : Nat) : Nat := if x = 0 then 32 * cKc T i 24000 else 32 * cKc T (x + 1) 24000 + (31 - t) * cNc T x 0 24000 + cNc T x i 24000
section
variable {T : Nat → Option (Nat × Nat × List Nat × Nat × Nat)} {u w : MS} {i j h m g x s t n : Nat} {L : List Nat}
theorem key_0 (e : T i = some (h, m, L, g, 0)) : keyT T i = i := by unfold keyT; rw [e]; rfl
theorem x_e (e : T i = some (h, m, L, g, x)) : xT T i = x := by unfold xT; rw [e]
theorem key_x (hs : 1 ≤ s) (e : xT T j = s) : keyT T j = s := by
  unfold xT at e
  unfold keyT
  cases hT : T j with
  | none => rw [hT] at e; simp at e; omega
  | some y =>
    obtain ⟨a, b, c, d, z⟩ := y
    rw [hT] at e
    simp at e
    subst e
    simp; omega
theorem cKc_mono (hij : i ≤ j) : ∀ n, cKc T j n ≤ cKc T i n
  | 0 => Nat.le_refl _
  | n + 1 => by
    have := cKc_mono hij n
    show cKc T j n + _ ≤ cKc T i n + _
    by_cases e : j ≤ keyT T n
    · rw [if_pos e, if_pos (by omega)]; omega
    · rw [if_neg e]; omega
theorem cKc_lt (hij : i < j) (hk : keyT T i = i) : ∀ n, i < n → cKc T j n + 1 ≤ cKc T i n
  | 0, h => by omega
  | n + 1, h => by
    show cKc T j n + _ + 1 ≤ cKc T i n + _
    by_cases e : i = n
    · subst e
      have := cKc_mono (T := T) (Nat.le_of_lt hij) i
      rw [hk, if_pos (Nat.le_refl _), if_neg (by omega)]; omega
    · have := cKc_lt hij hk n (by omega)
      by_cases e2 : j ≤ keyT T n
      · rw [if_pos e2, if_pos (by omega)]; omega
      · rw [if_neg e2]; omega
theorem cKc_le (i : Nat) : ∀ n, cKc T i n ≤ n
  | 0 => Nat.le_refl _
  | n + 1 => by
    have := cKc_le i n
    show cKc T i n + _ ≤ n + 1
    split <;> omega
theorem cNc_mono (hij : i ≤ j) : ∀ n, cNc T s j n ≤ cNc T s i n
  | 0 => Nat.le_refl _
  | n + 1 => by
    have := cNc_mono hij n
    show cNc T s j n + _ ≤ cNc T s i n + _
    by_cases e : xT T n = s ∧ j ≤ n
    · rw [if_pos e, if_pos ⟨e.1, by omega⟩]; omega
    · rw [if_neg e]; omega
theorem cNc_lt (hij : i < j) (hk : xT T i = s) : ∀ n, i < n → cNc T s j n + 1 ≤ cNc T s i n
  | 0, h => by omega
  | n + 1, h => by
    show cNc T s j n + _ + 1 ≤ cNc T s i n + _
    by_cases e : i = n
    · subst e
      have := cNc_mono (T := T) (s := s) (Nat.le_of_lt hij) i
      have e1 : (if xT T i = s ∧ i ≤ i then 1 else 0) = 1 := if_pos ⟨hk, Nat.le_refl _⟩
      have e2 : (if xT T i = s ∧ j ≤ i then 1 else 0) = 0 := if_neg (fun z => by omega)
      omega
    · have := cNc_lt hij hk n (by omega)
      by_cases e2 : xT T n = s ∧ j ≤ n
      · rw [if_pos e2, if_pos ⟨e2.1, by omega⟩]; omega
      · rw [if_neg e2]; omega
theorem cNc_pos (hk : xT T i = s) (h : i < n) : 1 ≤ cNc T s i n := by have := cNc_lt (j := i + 1) (by omega) hk n h; omega
theorem cKc_split (hs : 1 ≤ s) : ∀ n, cKc T (s + 1) n + cNc T s 0 n ≤ cKc T s n
  | 0 => Nat.le_refl _
  | n + 1 => by
    have := cKc_split hs n
    show cKc T (s + 1) n + _ + (cNc T s 0 n + _) ≤ cKc T s n + _
    by_cases e : xT T n = s
    · have k := key_x hs e
      have e1 : (if xT T n = s ∧ 0 ≤ n then 1 else 0) = 1 := if_pos ⟨e, Nat.zero_le _⟩
      have e2 : (if s + 1 ≤ keyT T n then 1 else 0) = 0 := if_neg (by omega)
      have e3 : (if s ≤ keyT T n then 1 else 0) = 1 := if_pos (by omega)
      omega
    · have e1 : (if xT T n = s ∧ 0 ≤ n then 1 else 0) = 0 := if_neg (fun z => e z.1)
      by_cases e2 : s + 1 ≤ keyT T n
      · have e3 : (if s + 1 ≤ keyT T n then 1 else 0) = 1 := if_pos e2
        have e4 : (if s ≤ keyT T n then 1 else 0) = 1 := if_pos (by omega)
        omega
      · have e3 : (if s + 1 ≤ keyT T n then 1 else 0) = 0 := if_neg e2
        omega
theorem pot_x (e : T i = some (h, m, L, g, x)) (hi : i < 24000) (hij : i < j) : potc T j x t < potc T i x t := by
  unfold potc
  by_cases z : x = 0
  · subst z
    rw [if_pos rfl, if_pos rfl]
    have := cKc_lt hij (key_0 e) 24000 hi
    omega
  · rw [if_neg z, if_neg z]
    have := cNc_lt hij (x_e e) 24000 hi
    omega
theorem pot_0 {t2 : Nat} (e : T i = some (h, m, L, g, x)) (hi : i < 24000) (hx : x ≤ i) (hij : i < j) : potc T j 0 t2 < potc T i x t := by
  by_cases z : x = 0
  · subst z; exact pot_x e hi hij
  · unfold potc
    rw [if_pos rfl, if_neg z]
    have a := cKc_mono (T := T) (i := x + 1) (j := j) (by omega) 24000
    have b := cNc_pos (x_e e) hi
    omega
theorem pot_aw {t2 : Nat} (e : T i = some (h, m, L, g, 0)) (hi : i < 24000) : potc T (i + 2) (i + 2) 0 < potc T i 0 t2 := by
  unfold potc
  rw [if_pos rfl, if_neg (by omega)]
  have a := cKc_lt (j := i + 2) (by omega) (key_0 e) 24000 hi
  have b := cKc_split (T := T) (s := i + 2) (by omega) 24000
  have c := cNc_mono (T := T) (s := i + 2) (i := 0) (j := i + 2) (by omega) 24000
  show 32 * cKc T (i + 2 + 1) 24000 + 31 * cNc T (i + 2) 0 24000 + cNc T (i + 2) (i + 2) 24000 < _
  omega
theorem pot_sk (e : T i = some (h, m, L, g, x)) (hi : i < 24000) (hx : x ≠ 0) (ht : t < 30) : potc T x x (t + 1) < potc T i x t := by
  unfold potc
  rw [if_neg hx, if_neg hx]
  have b := cNc_pos (x_e e) hi
  have c := cNc_mono (T := T) (s := x) (i := 0) (j := x) (by omega) 24000
  have d : (31 - t) * cNc T x 0 24000 = (31 - (t + 1)) * cNc T x 0 24000 + cNc T x 0 24000 := by
    rw [show 31 - t = (31 - (t + 1)) + 1 by omega, Nat.add_mul, Nat.one_mul]
  omega
theorem pot_le (hx : x ≠ 0 → 1 ≤ x) : potc T i x t ≤ 768000 := by
  unfold potc
  by_cases z : x = 0
  · rw [if_pos z]
    have := cKc_le (T := T) i 24000
    omega
  · rw [if_neg z]
    have a := cKc_split (T := T) (s := x) (by omega) 24000
    have b := cKc_le (T := T) x 24000
    have c := cNc_mono (T := T) (s := x) (i := 0) (j := i) (by omega) 24000
    have d : (31 - t) * cNc T x 0 24000 ≤ 31 * cNc T x 0 24000 := Nat.mul_le_mul_right _ (by omega)
    omega
end
