section
set_option maxRecDepth 100000
def PTc (u : MS) : Nat → Nat → Nat → Nat → Prop
  | 0, _, _, _ => False
  | f + 1, i, b, e => (A u 23 i = 8 ∧ i = e ∧ b = 0) ∨ (A u 23 i = 1 ∧ PTc u f (i + 3) b e) ∨ (A u 23 i = 2 ∧ ∃ n : Nat, A u 23 (i + 1) = ((n : Nat) : Int) ∧ n ≤ 40 ∧ PTc u f (i + 2 + n) b e) ∨ (A u 23 i = 3 ∧ PTc u f (i + 2) b e) ∨ (A u 23 i = 4 ∧ ∃ c, b = c + 1 ∧ PTc u f (i + 2) c e) ∨ (A u 23 i = 5 ∧ PTc u f (i + 1) b e) ∨ (A u 23 i = 6 ∧ (∃ n : Nat, A u 23 (i + 1) = ((n : Nat) : Int) ∧ n ≤ 8) ∧ PTc u f (i + 2) b e) ∨ (A u 23 i = 7 ∧ PTc u f (i + 1) b e)
section
variable (T : Nat → Option (Nat × Nat × List Nat × Nat × Nat)) (u : MS)
def TGc (i k : Nat) (y : Nat × Nat × List Nat × Nat × Nat) : Prop := ∃ t : Nat, A u 23 (i + k) = ((t : Nat) : Int) ∧ i < t ∧ T t = some y
def FLc (L : List Nat) (k : Nat) : Prop := match L with
  | [] => True
  | t :: M => ∃ h m, T t = some (h + 1, m, M, 0, 0) ∧ h ≤ k
def tkc (d : Int) : Nat := if d = 0 ∨ d = 11 ∨ d = 16 then 0 else if d = 12 ∨ d = 27 then 2 else 1
def IN1 (i h m : Nat) (L : List Nat) (g x : Nat) : Prop :=
  (A u 23 i = 1 ∧ (A u 23 (i + 1) = 0 ∨ (A u 23 (i + 1) = 1 ∧ 0 ≤ A u 23 (i + 2) ∧ A u 23 (i + 2) < F u 22) ∨ (A u 23 (i + 1) = 6 ∧ A u 23 (i + 2) = 0)) ∧ T (i + 3) = some (h + 1, m, L, g, x)) ∨
  (A u 23 i = 2 ∧ ∃ n : Nat, A u 23 (i + 1) = ((n : Nat) : Int) ∧ n ≤ 40 ∧ T (i + 2 + n) = some (h + 1, m, L, g, x)) ∨
  (A u 23 i = 3 ∧ T (i + 2) = some (h + 1, m, L, g, x)) ∨
  (A u 23 i = 4 ∧ ∃ n : Nat, A u 23 (i + 1) = ((n : Nat) : Int) ∧ n ≤ h ∧ T (i + 2) = some (h - n + 1, m, L, g, x)) ∨
  (A u 23 i = 5 ∧ ∃ n : Nat, A u 23 (i + 1) = ((n : Nat) : Int) ∧ 1 ≤ n ∧ n + 1 ≤ h ∧ T (i + 2) = some (h - n, m, L, g, x)) ∨
  (A u 23 i = 6 ∧ ∃ pl n : Nat, A u 23 (i + 1) = ((pl : Nat) : Int) ∧ ((pl : Nat) : Int) < F u 449 ∧ A u 32 pl = ((i + 2 : Nat) : Int) ∧ A u 23 (i + 2) = ((n : Nat) : Int) ∧ n ≤ 40 ∧ T (i + 3 + n) = some (h + 1, m, L, g, x)) ∨
  (A u 23 i = 7 ∧ ∃ f : Nat, A u 23 (i + 1) = ((f : Nat) : Int) ∧ ((f : Nat) : Int) < F u 442 ∧ T (i + 2) = some (h + 1, m, L, g, x)) ∨
  ((A u 23 i = 8 ∨ A u 23 i = 9 ∨ A u 23 i = 10) ∧ 2 ≤ h ∧ T (i + 2) = some (h - 1, m, L, g, x)) ∨
  ((A u 23 i = 11 ∨ A u 23 i = 12) ∧ 1 ≤ h ∧ T (i + 1) = some (h, m, L, g, x)) ∨
  ((A u 23 i = 13 ∨ A u 23 i = 14) ∧ 1 ≤ h ∧ T (i + 2) = some (h - 1, m, L, g, x) ∧ TGc T u i 1 (h, m, L, g, x)) ∨
  (A u 23 i = 15 ∧ 1 ≤ h ∧ T (i + 1) = some (h - 1, m, L, g, x)) ∨
  (A u 23 i = 16 ∧ g = 0 ∧ ∃ n : Nat, A u 23 (i + 1) = ((n : Nat) : Int) ∧ n ≤ m ∧ T (i + 2) = some (h, m - n, L, g, x)) ∨
  (A u 23 i = 17 ∧ 2 ≤ h ∧ T (i + 1) = some (h - 1, m, L, g, x))
def IN2 (i h m : Nat) (L : List Nat) (g x : Nat) : Prop :=
  (A u 23 i = 18 ∧ TGc T u i 1 (h, m, L, g, x)) ∨
  (A u 23 i = 19 ∧ g = 0 ∧ ((∃ n : Nat, A u 23 (i + 1) = ((n : Nat) : Int) ∧ n ≤ h) ∨ (A u 23 (i + 1) = -1 ∧ 1 ≤ h) ∨ (A u 23 (i + 1) = -2 ∧ x ≠ 0)) ∧ TGc T u i 2 (h, m, L, 0, x) ∧ ∃ f b e, PTc u f (i + 3) b e ∧ f ≤ 24000 ∧ m + b ≤ 40 ∧ i < e ∧ T (e + 1) = some (h, m + b, L, 0, x)) ∨
  (A u 23 i = 20 ∧ g = 0 ∧ 1 ≤ h ∧ ∃ f b e, PTc u f (i + 1) b e ∧ f ≤ 24000 ∧ m + b ≤ 40 ∧ i < e ∧ T (e + 1) = some (h, m + b, L, 0, x)) ∨
  (A u 23 i = 21 ∧ g = 0 ∧ ∃ n : Nat, A u 23 (i + 1) = ((n : Nat) : Int) ∧ n ≤ m ∧ T (i + 3) = some (h, m, L, i, x)) ∨
  (A u 23 i = 22 ∧ g ≠ 0 ∧ 1 ≤ h ∧ T (i + 1) = some (h - 1, m, L, g, x)) ∨
  (A u 23 i = 23 ∧ T (i + 1) = some (h, m, L, 0, x)) ∨
  (A u 23 i = 24 ∧ ∃ n : Nat, A u 23 (i + 1) = ((n : Nat) : Int) ∧ n ≤ h ∧ T (i + 3) = some (h - n, m, L, g, x)) ∨
  ((A u 23 i = 25 ∨ (A u 23 i = 26 ∧ L = [])) ∧ g = 0 ∧ x = 0 ∧ ∃ f n : Nat, A u 23 (i + 1) = ((f : Nat) : Int) ∧ ((f : Nat) : Int) < F u 442 ∧ A u 23 (i + 2) = ((n : Nat) : Int) ∧ A u 25 f = ((n : Nat) : Int) ∧ n ≤ h ∧ FLc T L (h - n) ∧ T (i + 4) = some (h - n + 1, m, L, 0, 0)) ∨
  ((A u 23 i = 27 ∨ (A u 23 i = 28 ∧ L = [])) ∧ g = 0 ∧ x = 0 ∧ ∃ n : Nat, A u 23 (i + 1) = ((n : Nat) : Int) ∧ n + 1 ≤ h ∧ FLc T L (h - n - 1) ∧ T (i + 3) = some (h - n, m, L, 0, 0)) ∨
  (A u 23 i = 29 ∧ g = 0 ∧ x = 0 ∧ ∃ t : Nat, A u 23 (i + 1) = ((t : Nat) : Int) ∧ i < t ∧ T t = some (h + 1, m, L, 0, 0) ∧ T (i + 2) = some (h, m, t :: L, 0, 0)) ∨
  (A u 23 i = 30 ∧ g = 0 ∧ ∃ t M, L = t :: M ∧ T (i + 1) = some (h, m, M, 0, x))
def IN3 (i h m : Nat) (L : List Nat) (g x : Nat) : Prop :=
  (A u 23 i = 31 ∧ g = 0 ∧ x = 0 ∧ ((A u 23 (i + 1) = 1 ∧ 1 ≤ h ∧ T (i + 2) = some (h - 1, m, L, 0, i + 2)) ∨ (A u 23 (i + 1) = 0 ∧ T (i + 2) = some (h, m, L, 0, i + 2)))) ∨
  (A u 23 i = 32 ∧ g = 0 ∧ x = i ∧ T (i + 2) = some (h, m, L, 0, i) ∧ (A u 23 (i - 1) = 0 ∨ TGc T u i 1 (h, m, L, 0, 0))) ∨
  (A u 23 i = 33 ∧ g = 0 ∧ x ≠ 0 ∧ T (i + 1) = some (h, m, L, 0, 0)) ∨
  (A u 23 i = 34 ∧ g = 0 ∧ x ≠ 0 ∧ i + 1 < 24000 ∧ A u 23 (i + 1) = ((x : Nat) : Int) ∧ T x = some (h, m, L, 0, x)) ∨
  (A u 23 i = 35 ∧ g = 0 ∧ x = 0 ∧ 1 ≤ h ∧ L = []) ∨
  (A u 23 i = 36 ∨ A u 23 i = 38) ∨ (A u 23 i = 37 ∧ 1 ≤ h) ∨
  (A u 23 i = 39 ∧ tkc (A u 23 (i + 1)) ≤ h ∧ T (i + 2) = some (h - tkc (A u 23 (i + 1)) + 1, m, L, g, x)) ∨
  (A u 23 i = 40 ∧ (if A u 23 (i + 1) = 29 then 2 else 1) ≤ h ∧ T (i + 2) = some (h - (if A u 23 (i + 1) = 29 then 2 else 1) + 1, m, L, g, x))
def CHc (i : Nat) : List Nat → Nat → Nat → Prop
  | [], _, _ => True
  | t :: L, h, m => i < t ∧ ∃ h2 m2, T t = some (h2 + 1, m2, L, 0, 0) ∧ h2 ≤ h ∧ m2 ≤ m
def GRc (i h m : Nat) (L : List Nat) (g x : Nat) : Prop := g ≠ 0 → g < i ∧ ∃ hg n t : Nat, T g = some (hg, m, L, 0, x) ∧ hg ≤ h ∧ A u 23 (g + 1) = ((n : Nat) : Int) ∧ n ≤ m ∧ A u 23 (g + 2) = ((t : Nat) : Int) ∧ i < t ∧ T t = some (hg, m - n, L, 0, x)
def WFT : Prop := ∀ i h m L g x, T i = some (h, m, L, g, x) → (1 ≤ i ∧ i < 24000) ∧ (h ≤ 1090 ∧ m ≤ 40 ∧ L.length ≤ 25) ∧ CHc T i L h m ∧ GRc T u i h m L g x ∧ (x ≤ i ∧ (A u 23 i ≠ 32 → x < i)) ∧ (IN1 T u i h m L g x ∨ IN2 T u i h m L g x ∨ IN3 T u i h m L g x)
def CDT (Fv : Int64 → Int64 → Prop) : Prop := (0 ≤ F u 442 ∧ F u 442 ≤ 666) ∧ (∀ f : Nat, ((f : Nat) : Int) < F u 442 → ∃ a e : Nat, A u 25 f = ((a : Nat) : Int) ∧ A u 29 f = ((e : Nat) : Int) ∧ T e = some (a, 0, [], 0, 0)) ∧ (0 ≤ F u 449 ∧ F u 449 ≤ 400) ∧
  (∀ pl : Nat, ((pl : Nat) : Int) < F u 449 → ∃ a e p k : Nat, A u 30 pl = ((a : Nat) : Int) ∧ A u 31 pl = ((e : Nat) : Int) ∧ A u 32 pl = ((p : Nat) : Int) ∧ A u 23 p = ((k : Nat) : Int) ∧ p + k < 24000 ∧ T e = some (a, k, [], 0, 0) ∧ Fv (mk 8 ((pl : Nat) : Int)) (mk 8 ((k : Nat) : Int))) ∧
  (∀ f : Nat, ((f : Nat) : Int) < F u 442 → Fv (mk 8 (1000000 + ((f : Nat) : Int))) (mk 8 0)) ∧
  ∀ a b, Fv a b → (∃ pl : Nat, va a = ((pl : Nat) : Int) ∧ ((pl : Nat) : Int) < F u 449 ∧ va b = A u 23 (A u 32 pl).toNat) ∨ ∃ f : Nat, va a = 1000000 + ((f : Nat) : Int) ∧ ((f : Nat) : Int) < F u 442 ∧ va b = 0
end
def keyT (T : Nat → Option (Nat × Nat × List Nat × Nat × Nat)) (j : Nat) : Nat := match T j with
  | some (_, _, _, _, x) => if x = 0 then j else x
  | none => 0
def xT (T : Nat → Option (Nat × Nat × List Nat × Nat × Nat)) (j : Nat) : Nat := match T j with
  | some (_, _, _, _, x) => x
  | none => 0
def cKc (T : Nat → Option (Nat × Nat × List Nat × Nat × Nat)) (i : Nat) : Nat → Nat
  | 0 => 0
  | n + 1 => cKc T i n + (if i ≤ keyT T n then 1 else 0)
def cNc (T : Nat → Option (Nat × Nat × List Nat × Nat × Nat)) (s i : Nat) : Nat → Nat
  | 0 => 0
  | n + 1 => cNc T s i n + (if xT T n = s ∧ i ≤ n then 1 else 0)
def potc (T : Nat → Option (Nat × Nat × List Nat × Nat × Nat)) (i x t : Nat) : Nat := if x = 0 then 32 * cKc T i 24000 else 32 * cKc T (x + 1) 24000 + (31 - t) * cNc T x 0 24000 + cNc T x i 24000
section
variable {T : Nat → Option (Nat × Nat × List Nat × Nat × Nat)} {u w : MS} {i j h m g x s t n : Nat} {L : List Nat}
theorem key_0 (e : T i = some (h, m, L, g, 0)) : keyT T i = i := by unfold keyT; rw [e]; rfl
theorem x_e (e : T i = some (h, m, L, g, x)) : xT T i = x := by unfold xT; rw [e]
theorem key_x (hs : 1 ≤ s) (e : xT T j = s) : keyT T j = s := by
  unfold xT at e
  unfold keyT
  cases hT : T j with
  | none => rw [hT] at e; simp at e; omega
  | some y =>
    obtain ⟨a, b, c, d, z⟩ := y
    rw [hT] at e
    simp at e
    subst e
    simp; omega
theorem cKc_mono (hij : i ≤ j) : ∀ n, cKc T j n ≤ cKc T i n
  | 0 => Nat.le_refl _
  | n + 1 => by
    have := cKc_mono hij n
    show cKc T j n + _ ≤ cKc T i n + _
    by_cases e : j ≤ keyT T n
    · rw [if_pos e, if_pos (by omega)]; omega
    · rw [if_neg e]; omega
theorem cKc_lt (hij : i < j) (hk : keyT T i = i) : ∀ n, i < n → cKc T j n + 1 ≤ cKc T i n
  | 0, h => by omega
  | n + 1, h => by
    show cKc T j n + _ + 1 ≤ cKc T i n + _
    by_cases e : i = n
    · subst e
      have := cKc_mono (T := T) (Nat.le_of_lt hij) i
      rw [hk, if_pos (Nat.le_refl _), if_neg (by omega)]; omega
    · have := cKc_lt hij hk n (by omega)
      by_cases e2 : j ≤ keyT T n
      · rw [if_pos e2, if_pos (by omega)]; omega
      · rw [if_neg e2]; omega
theorem cKc_le (i : Nat) : ∀ n, cKc T i n ≤ n
  | 0 => Nat.le_refl _
  | n + 1 => by
    have := cKc_le i n
    show cKc T i n + _ ≤ n + 1
    split <;> omega
theorem cNc_mono (hij : i ≤ j) : ∀ n, cNc T s j n ≤ cNc T s i n
  | 0 => Nat.le_refl _
  | n + 1 => by
    have := cNc_mono hij n
    show cNc T s j n + _ ≤ cNc T s i n + _
    by_cases e : xT T n = s ∧ j ≤ n
    · rw [if_pos e, if_pos ⟨e.1, by omega⟩]; omega
    · rw [if_neg e]; omega
theorem cNc_lt (hij : i < j) (hk : xT T i = s) : ∀ n, i < n → cNc T s j n + 1 ≤ cNc T s i n
  | 0, h => by omega
  | n + 1, h => by
    show cNc T s j n + _ + 1 ≤ cNc T s i n + _
    by_cases e : i = n
    · subst e
      have := cNc_mono (T := T) (s := s) (Nat.le_of_lt hij) i
      have e1 : (if xT T i = s ∧ i ≤ i then 1 else 0) = 1 := if_pos ⟨hk, Nat.le_refl _⟩
      have e2 : (if xT T i = s ∧ j ≤ i then 1 else 0) = 0 := if_neg (fun z => by omega)
      omega
    · have := cNc_lt hij hk n (by omega)
      by_cases e2 : xT T n = s ∧ j ≤ n
      · rw [if_pos e2, if_pos ⟨e2.1, by omega⟩]; omega
      · rw [if_neg e2]; omega
theorem cNc_pos (hk : xT T i = s) (h : i < n) : 1 ≤ cNc T s i n := by have := cNc_lt (j := i + 1) (by omega) hk n h; omega
theorem cKc_split (hs : 1 ≤ s) : ∀ n, cKc T (s + 1) n + cNc T s 0 n ≤ cKc T s n
  | 0 => Nat.le_refl _
  | n + 1 => by
    have := cKc_split hs n
    show cKc T (s + 1) n + _ + (cNc T s 0 n + _) ≤ cKc T s n + _
    by_cases e : xT T n = s
    · have k := key_x hs e
      have e1 : (if xT T n = s ∧ 0 ≤ n then 1 else 0) = 1 := if_pos ⟨e, Nat.zero_le _⟩
      have e2 : (if s + 1 ≤ keyT T n then 1 else 0) = 0 := if_neg (by omega)
      have e3 : (if s ≤ keyT T n then 1 else 0) = 1 := if_pos (by omega)
      omega
    · have e1 : (if xT T n = s ∧ 0 ≤ n then 1 else 0) = 0 := if_neg (fun z => e z.1)
      by_cases e2 : s + 1 ≤ keyT T n
      · have e3 : (if s + 1 ≤ keyT T n then 1 else 0) = 1 := if_pos e2
        have e4 : (if s ≤ keyT T n then 1 else 0) = 1 := if_pos (by omega)
        omega
      · have e3 : (if s + 1 ≤ keyT T n then 1 else 0) = 0 := if_neg e2
        omega
theorem pot_x (e : T i = some (h, m, L, g, x)) (hi : i < 24000) (hij : i < j) : potc T j x t < potc T i x t := by
  unfold potc
  by_cases z : x = 0
  · subst z
    rw [if_pos rfl, if_pos rfl]
    have := cKc_lt hij (key_0 e) 24000 hi
    omega
  · rw [if_neg z, if_neg z]
    have := cNc_lt hij (x_e e) 24000 hi
    omega
theorem pot_0 {t2 : Nat} (e : T i = some (h, m, L, g, x)) (hi : i < 24000) (hx : x ≤ i) (hij : i < j) : potc T j 0 t2 < potc T i x t := by
  by_cases z : x = 0
  · subst z; exact pot_x e hi hij
  · unfold potc
    rw [if_pos rfl, if_neg z]
    have a := cKc_mono (T := T) (i := x + 1) (j := j) (by omega) 24000
    have b := cNc_pos (x_e e) hi
    omega
theorem pot_aw {t2 : Nat} (e : T i = some (h, m, L, g, 0)) (hi : i < 24000) : potc T (i + 2) (i + 2) 0 < potc T i 0 t2 := by
  unfold potc
  rw [if_pos rfl, if_neg (by omega)]
  have a := cKc_lt (j := i + 2) (by omega) (key_0 e) 24000 hi
  have b := cKc_split (T := T) (s := i + 2) (by omega) 24000
  have c := cNc_mono (T := T) (s := i + 2) (i := 0) (j := i + 2) (by omega) 24000
  show 32 * cKc T (i + 2 + 1) 24000 + 31 * cNc T (i + 2) 0 24000 + cNc T (i + 2) (i + 2) 24000 < _
  omega
theorem pot_sk (e : T i = some (h, m, L, g, x)) (hi : i < 24000) (hx : x ≠ 0) (ht : t < 30) : potc T x x (t + 1) < potc T i x t := by
  unfold potc
  rw [if_neg hx, if_neg hx]
  have b := cNc_pos (x_e e) hi
  have c := cNc_mono (T := T) (s := x) (i := 0) (j := x) (by omega) 24000
  have d : (31 - t) * cNc T x 0 24000 = (31 - (t + 1)) * cNc T x 0 24000 + cNc T x 0 24000 := by
    rw [show 31 - t = (31 - (t + 1)) + 1 by omega, Nat.add_mul, Nat.one_mul]
  omega
theorem pot_le (hx : x ≠ 0 → 1 ≤ x) : potc T i x t ≤ 768000 := by
  unfold potc
  by_cases z : x = 0
  · rw [if_pos z]
    have := cKc_le (T := T) i 24000
    omega
  · rw [if_neg z]
    have a := cKc_split (T := T) (s := x) (by omega) 24000
    have b := cKc_le (T := T) x 24000
    have c := cNc_mono (T := T) (s := x) (i := 0) (j := i) (by omega) 24000
    have d : (31 - t) * cNc T x 0 24000 ≤ 31 * cNc T x 0 24000 := Nat.mul_le_mul_right _ (by omega)
    omega
end
end
section
set_option maxRecDepth 100000
section
variable (T : Nat → Option (Nat × Nat × List Nat × Nat × Nat)) (u : MS) (q : Nat)
def ENTc (c wb nb cb : Nat) : List Nat → Prop
  | [] => True
  | t :: L => (∃ h m, T t = some (h + 1, m, L, 0, 0) ∧ A u (pq q 37) (4 * (cb + L.length)) = ((c : Nat) : Int) ∧ A u (pq q 37) (4 * (cb + L.length) + 1) = ((nb + m : Nat) : Int) ∧ A u (pq q 37) (4 * (cb + L.length) + 2) = ((wb + h : Nat) : Int) ∧ A u (pq q 37) (4 * (cb + L.length) + 3) = ((t : Nat) : Int)) ∧ ENTc c wb nb cb L
def FBc : Nat → Nat → Nat → Nat → Nat → Prop
  | 0, wb, nb, cb, rk => wb = 0 ∧ nb = 0 ∧ cb = 0 ∧ rk = 0
  | j + 1, wb, nb, cb, rk => ∃ wb0 nb0 cb0 rk0 h m L a, FBc j wb0 nb0 cb0 rk0 ∧ A u (pq q 30) (5 * j + 2) = ((nb0 : Nat) : Int) ∧ A u (pq q 30) (5 * j + 3) = ((wb0 : Nat) : Int) ∧ A u (pq q 30) (5 * j + 4) = ((a : Nat) : Int) ∧ T a = some (h + 1, m, L, 0, 0) ∧ wb = wb0 + h ∧ nb = nb0 + m ∧ cb = cb0 + L.length ∧ rk = rk0 + 32 * cKc T a 24000 ∧ FLc T L h ∧ ENTc T u q (j + 1) wb0 nb0 cb0 L
def STc (j wb nb cb rk : Nat) (L : List Nat) : Prop := FBc T u q j wb nb cb rk ∧ (F u (pq q 21) = ((j + 1 : Nat) : Int) ∧ j < 60) ∧ (A u (pq q 30) (5 * j + 2) = ((nb : Nat) : Int) ∧ A u (pq q 30) (5 * j + 3) = ((wb : Nat) : Int)) ∧ F u (pq q 28) = ((cb + L.length : Nat) : Int) ∧ ENTc T u q (j + 1) wb nb cb L
def UNc (x : Nat) : Prop := x ≠ 0 → A u 23 (x - 1) = 0 → u.2.1 (pq q 10) = -1
def PSQ : Prop := ∃ j wb nb cb rk i h m L x, STc T u q j wb nb cb rk L ∧ A u (pq q 30) (5 * j + 4) = ((i : Nat) : Int) ∧ T i = some (h, m, L, 0, x) ∧ (x = 0 ∨ x = i) ∧ F u (pq q 26) = ((wb + h : Nat) : Int) ∧ F u (pq q 24) = ((nb + m : Nat) : Int) ∧ UNc u q x
end
def SCQ (u w : MS) : Prop := (∀ k, k ∈ [22, 442, 449] → w.1 k = u.1 k) ∧ ∀ k, k ∈ [3, 23, 25, 29, 30, 31, 32] → w.2.2.1 k = u.2.2.1 k
def OTH (T : Nat → Option (Nat × Nat × List Nat × Nat × Nat)) (PR q : Nat) (u : MS) : Prop := ∀ r, r < PR → r ≠ q → F u (pq r 9) ≠ 3 → PSQ T u r
def ALN (u : MS) : Prop := ∀ r, r < 24 → rf (u.2.2.1 1948 r) = none ∨ (rf (u.2.2.1 1948 r) = some r ∧ LNB u r)
theorem ALN_k {u w : MS} (a : ALN u) (h : w.2.2.1 1948 = u.2.2.1 1948) (k : ∀ r, r < 24 → LNB u r → LNB w r) : ALN w := fun r hr => by
  rw [h]
  rcases a r hr with z | ⟨z1, z2⟩
  · exact Or.inl z
  · exact Or.inr ⟨z1, k r hr z2⟩
def GEN (T : Nat → Option (Nat × Nat × List Nat × Nat × Nat)) (Fv : Int64 → Int64 → Prop) (P : Int64 → Prop) (PR q : Nat) (u : MS) : Prop := DWc Fv P PR u ∧ CTX Fv P u ∧ WFT T u ∧ CDT T u Fv ∧ OTH T PR q u ∧ ALN u ∧ q < PR ∧ (0 ≤ F u 1106 ∧ F u 1106 ≤ F u 1107 ∧ F u 1107 ≤ 500)
def GDS (T : Nat → Option (Nat × Nat × List Nat × Nat × Nat)) (u : MS) (g wb : Nat) : Prop := (g = 0 → F u 1112 = 0) ∧ (g ≠ 0 → F u 1112 = A u 23 (g + 2) ∧ F u 1113 = A u 23 (g + 1) ∧ ∃ hg m L x, T g = some (hg, m, L, 0, x) ∧ F u 1114 = ((wb + hg : Nat) : Int))
def MIc (T : Nat → Option (Nat × Nat × List Nat × Nat × Nat)) (Fv : Int64 → Int64 → Prop) (P : Int64 → Prop) (PR q : Nat) (u : MS) (i h m : Nat) (L : List Nat) (g x j wb nb cb rk : Nat) : Prop :=
  GEN T Fv P PR q u ∧ F u (pq q 9) = 0 ∧ STc T u q j wb nb cb rk L ∧ (T i = some (h, m, L, g, x) ∧ F u 1105 = ((i : Nat) : Int)) ∧ (F u (pq q 26) = ((wb + h : Nat) : Int) ∧ F u (pq q 24) = ((nb + m : Nat) : Int)) ∧ GDS T u g wb ∧ (x ≠ 0 → x ≠ i → F u (pq q 8) < F u (pq q 7)) ∧ UNc u q x
def PHc (T : Nat → Option (Nat × Nat × List Nat × Nat × Nat)) (u : MS) (q i x rk : Nat) : Nat := rk + potc T i x (F u (pq q 8)).toNat + (F u 1107 - F u 1106).toNat * 768001
def GTQ (Fv : Int64 → Int64 → Prop) (P : Int64 → Prop) (u : MS) (q : Nat) (t : Int64) : Prop := ∃ n ow kd B W Y, PTQ u q n ow kd Fv P B W Y ∧ GT n ow kd P t
def NRM (T : Nat → Option (Nat × Nat × List Nat × Nat × Nat)) (Fv : Int64 → Int64 → Prop) (P : Int64 → Prop) (PR q f : Nat) (w : MS) : Prop := (∃ i h m L g x j wb nb cb rk, MIc T Fv P PR q w i h m L g x j wb nb cb rk ∧ PHc T w q i x rk < f) ∧ F w 1109 = 0 ∧ F w 1108 = 0
def ERR (T : Nat → Option (Nat × Nat × List Nat × Nat × Nat)) (Fv : Int64 → Int64 → Prop) (P : Int64 → Prop) (PR q f : Nat) (w : MS) : Prop := ∃ v, ∃ how ar : Int, ∃ t, (∃ i h m L g x j wb nb cb rk, MIc T Fv P PR q v i h m L g x j wb nb cb rk ∧ PHc T v q i x rk ≤ f) ∧ F v 1109 = 0 ∧ F v 1108 = 0 ∧ GTQ Fv P v q t ∧ (how = 1 ∨ how = 2 ∨ how = 3) ∧ (ar = -1 ∨ (0 ≤ ar ∧ ar < 22)) ∧ w = wl (wi (wi v 1109 how) 1111 ar) 1110 t
def ENDc (T : Nat → Option (Nat × Nat × List Nat × Nat × Nat)) (Fv : Int64 → Int64 → Prop) (P : Int64 → Prop) (PR q : Nat) (w : MS) : Prop := GEN T Fv P PR q w ∧ F w (pq q 9) = 3 ∧ F w 1109 = 0 ∧ (0 ≤ F w (pq q 21) ∧ F w (pq q 21) ≤ 60)
def SVc (T : Nat → Option (Nat × Nat × List Nat × Nat × Nat)) (Fv : Int64 → Int64 → Prop) (P : Int64 → Prop) (PR q : Nat) (w : MS) : Prop := GEN T Fv P PR q w ∧ (F w (pq q 9) ≠ 3 ∧ (F w (pq q 9) = 0 → F w 1108 ≠ 0)) ∧ F w 1109 = 0 ∧ ∃ i h m L x j wb nb cb rk, STc T w q j wb nb cb rk L ∧ (T i = some (h, m, L, 0, x) ∧ F w 1105 = ((i : Nat) : Int)) ∧ (x = 0 ∨ x = i) ∧ (F w (pq q 26) = ((wb + h : Nat) : Int) ∧ F w (pq q 24) = ((nb + m : Nat) : Int)) ∧ UNc w q x
def OPQ (T : Nat → Option (Nat × Nat × List Nat × Nat × Nat)) (Fv : Int64 → Int64 → Prop) (P : Int64 → Prop) (PR q f : Nat) (w : MS) : Prop := NRM T Fv P PR q f w ∨ ERR T Fv P PR q f w ∨ ENDc T Fv P PR q w ∨ SVc T Fv P PR q w
section
variable {T : Nat → Option (Nat × Nat × List Nat × Nat × Nat)} {Fv : Int64 → Int64 → Prop} {P : Int64 → Prop} {u v w : MS} {PR N q r n B W Y i h m g x j wb nb cb rk c f : Nat} {L : List Nat} {ow kd : Nat → Nat} {t : Int64} {gi gl ga ki kl ka kj : List Nat}
theorem ENT_s (h1 : w.2.2.1 (pq q 37) = u.2.2.1 (pq q 37)) : ∀ {L : List Nat}, ENTc T u q c wb nb cb L → ENTc T w q c wb nb cb L
  | [], _ => trivial
  | t :: L, hh => by
    have e : ∀ k, A w (pq q 37) k = A u (pq q 37) k := fun k => by show (w.2.2.1 (pq q 37) k).toInt = _; rw [h1]; rfl
    obtain ⟨⟨a, b, c1, c2, c3, c4, c5⟩, d⟩ := hh
    exact ⟨⟨a, b, c1, by rw [e]; exact c2, by rw [e]; exact c3, by rw [e]; exact c4, by rw [e]; exact c5⟩, ENT_s h1 d⟩
theorem FBc_s (h0 : w.2.2.1 (pq q 30) = u.2.2.1 (pq q 30)) (h1 : w.2.2.1 (pq q 37) = u.2.2.1 (pq q 37)) : ∀ {j wb nb cb rk : Nat}, FBc T u q j wb nb cb rk → FBc T w q j wb nb cb rk
  | 0, _, _, _, _, hh => hh
  | j + 1, wb, nb, cb, rk, hh => by
    have e : ∀ k, A w (pq q 30) k = A u (pq q 30) k := fun k => by show (w.2.2.1 (pq q 30) k).toInt = _; rw [h0]; rfl
    obtain ⟨wb0, nb0, cb0, rk0, h, m, L, a, b1, b2, b3, b4, b5, b6, b7, b8, b9, b9b, b10⟩ := hh
    exact ⟨wb0, nb0, cb0, rk0, h, m, L, a, FBc_s h0 h1 b1, by rw [e]; exact b2, by rw [e]; exact b3, by rw [e]; exact b4, b5, b6, b7, b8, b9, b9b, ENT_s h1 b10⟩
theorem STc_s (s : STc T u q j wb nb cb rk L) (h0 : w.2.2.1 (pq q 30) = u.2.2.1 (pq q 30)) (h1 : w.2.2.1 (pq q 37) = u.2.2.1 (pq q 37)) (h2 : w.1 (pq q 21) = u.1 (pq q 21)) (h3 : w.1 (pq q 28) = u.1 (pq q 28)) : STc T w q j wb nb cb rk L := by
  have e : ∀ k, A w (pq q 30) k = A u (pq q 30) k := fun k => by show (w.2.2.1 (pq q 30) k).toInt = _; rw [h0]; rfl
  obtain ⟨a, ⟨b1, b2⟩, ⟨c1, c2⟩, d, f⟩ := s
  exact ⟨FBc_s h0 h1 a, ⟨by rw [show F w (pq q 21) = F u (pq q 21) from congrArg _ h2]; exact b1, b2⟩, ⟨by rw [e]; exact c1, by rw [e]; exact c2⟩, by rw [show F w (pq q 28) = F u (pq q 28) from congrArg _ h3]; exact d, ENT_s h1 f⟩
theorem UN_k (a : UNc u q x) (h1 : w.2.1 (pq q 10) = u.2.1 (pq q 10)) (h2 : w.2.2.1 23 = u.2.2.1 23) : UNc w q x := fun z y => by
  rw [h1]
  exact a z (by rw [← y]; show (u.2.2.1 23 _).toInt = (w.2.2.1 23 _).toInt; rw [h2])
theorem PSQ_s (p : PSQ T u q) (h0 : w.2.2.1 (pq q 30) = u.2.2.1 (pq q 30)) (h1 : w.2.2.1 (pq q 37) = u.2.2.1 (pq q 37)) (h2 : ∀ k, k ∈ [21, 24, 26, 28] → w.1 (pq q k) = u.1 (pq q k)) (h3 : w.2.1 (pq q 10) = u.2.1 (pq q 10)) (h4 : w.2.2.1 23 = u.2.2.1 23) : PSQ T w q := by
  obtain ⟨j, wb, nb, cb, rk, i, h, m, L, x, a, b, c, d, e, f, un⟩ := p
  refine ⟨j, wb, nb, cb, rk, i, h, m, L, x, STc_s a h0 h1 (h2 21 (by simp)) (h2 28 (by simp)), ?_, c, d, ?_, ?_, UN_k un h3 h4⟩
  · show (w.2.2.1 (pq q 30) _).toInt = _
    rw [h0]; exact b
  · rw [show F w (pq q 26) = F u (pq q 26) from congrArg _ (h2 26 (by simp))]; exact e
  · rw [show F w (pq q 24) = F u (pq q 24) from congrArg _ (h2 24 (by simp))]; exact f
theorem PSQ_w (p : PSQ T u q) (f : WFR u w) : PSQ T w q := PSQ_s p (f.2.2.1 q 30 (by omega) (by simp)) (f.2.2.1 q 37 (by omega) (by simp)) (fun k hk => f.1 q k (by simp at hk; omega) (by simp at hk ⊢; omega)) (f.2.2.2.2.2.1 q 10 (by omega) (by simp)) (f.2.2.2.1 23 (by omega) (by simp))
theorem PSQ_o (p : PSQ T u r) (f : FC q gi gl ga ki kl ka kj u w) (hr : r ≠ q) (h23 : 23 ∉ ga) : PSQ T w r := PSQ_s p (f.2.2.2.2.2.2.1 r 30 (by omega) (fun e => absurd e hr)) (f.2.2.2.2.2.2.1 r 37 (by omega) (fun e => absurd e hr)) (fun k hk => f.2.2.2.2.1 r k (by simp at hk; omega) (fun e => absurd e hr)) (f.2.2.2.2.2.1 r 10 (by omega) (fun e => absurd e hr)) (f.2.2.1 23 (by omega) h23)
theorem SCQ_w (f : WFR u w) : SCQ u w := ⟨fun k hk => f.2.1 k (by simp at hk; omega) (by simp at hk ⊢; omega), fun k hk => f.2.2.2.1 k (by simp at hk; omega) (by simp at hk ⊢; omega)⟩
theorem SCQ_f (f : FC q gi gl ga ki kl ka kj u w) (h1 : ∀ k, k ∈ [22, 442, 449] → k ∉ gi) (h2 : ∀ k, k ∈ [3, 23, 25, 29, 30, 31, 32] → k ∉ ga) : SCQ u w := ⟨fun k hk => f.1 k (by simp at hk; omega) (h1 k hk), fun k hk => f.2.2.1 k (by simp at hk; omega) (h2 k hk)⟩
theorem SCQ.F (s : SCQ u w) {k : Nat} (h : k ∈ [22, 442, 449]) : F w k = F u k := congrArg _ (s.1 k h)
theorem SCQ.A (s : SCQ u w) {k : Nat} (h : k ∈ [3, 23, 25, 29, 30, 31, 32]) : A w k = A u k := funext fun i => by show (w.2.2.1 k i).toInt = _; rw [s.2 k h]; rfl
theorem PTc_s (s : SCQ u w) : ∀ {f i b e : Nat}, PTc u f i b e → PTc w f i b e
  | 0, _, _, _, h => h
  | f + 1, i, b, e, h => by
    unfold PTc at h ⊢
    rw [s.A (k := 23) (by simp)]
    rcases h with h | h | ⟨h, n, h1, h2, h3⟩ | h | ⟨h, c, h1, h2⟩ | h | ⟨h, h1, h2⟩ | h
    · exact Or.inl h
    · exact Or.inr (Or.inl ⟨h.1, PTc_s s h.2⟩)
    · exact Or.inr (Or.inr (Or.inl ⟨h, n, h1, h2, PTc_s s h3⟩))
    · exact Or.inr (Or.inr (Or.inr (Or.inl ⟨h.1, PTc_s s h.2⟩)))
    · exact Or.inr (Or.inr (Or.inr (Or.inr (Or.inl ⟨h, c, h1, PTc_s s h2⟩))))
    · exact Or.inr (Or.inr (Or.inr (Or.inr (Or.inr (Or.inl ⟨h.1, PTc_s s h.2⟩)))))
    · exact Or.inr (Or.inr (Or.inr (Or.inr (Or.inr (Or.inr (Or.inl ⟨h, h1, PTc_s s h2⟩))))))
    · exact Or.inr (Or.inr (Or.inr (Or.inr (Or.inr (Or.inr (Or.inr ⟨h.1, PTc_s s h.2⟩))))))
theorem WFT_s (s : SCQ u w) (h : WFT T u) : WFT T w := by
  intro i h1 m L g x e
  obtain ⟨a, b, c, d, f, k⟩ := h i h1 m L g x e
  have e23 := s.A (k := 23) (by simp)
  refine ⟨a, b, c, ?_, by rw [e23]; exact f, ?_⟩
  · unfold GRc at d ⊢; rw [e23]; exact d
  · rcases k with k | k | k
    · refine Or.inl ?_
      unfold IN1 TGc at k ⊢
      rw [e23, s.A (k := 32) (by simp), s.F (k := 22) (by simp), s.F (k := 442) (by simp), s.F (k := 449) (by simp)]; exact k
    · refine Or.inr (Or.inl ?_)
      unfold IN2 TGc at k ⊢
      rw [e23, s.A (k := 25) (by simp), s.F (k := 442) (by simp)]
      rcases k with k | ⟨k1, k2, k3, k4, f, b, e, k5, k6⟩ | ⟨k1, k2, k3, f, b, e, k5, k6⟩ | k
      · exact Or.inl k
      · exact Or.inr (Or.inl ⟨k1, k2, k3, k4, f, b, e, PTc_s s k5, k6⟩)
      · exact Or.inr (Or.inr (Or.inl ⟨k1, k2, k3, f, b, e, PTc_s s k5, k6⟩))
      · exact Or.inr (Or.inr (Or.inr k))
    · refine Or.inr (Or.inr ?_)
      unfold IN3 TGc at k ⊢
      rw [e23]; exact k
theorem CDT_s (s : SCQ u w) (h : CDT T u Fv) : CDT T w Fv := by
  unfold CDT at h ⊢
  rw [s.A (k := 23) (by simp), s.A (k := 25) (by simp), s.A (k := 29) (by simp), s.A (k := 30) (by simp), s.A (k := 31) (by simp), s.A (k := 32) (by simp), s.F (k := 442) (by simp), s.F (k := 449) (by simp)]; exact h
theorem CTX_s (s : SCQ u w) (h : CTX Fv P u) : CTX Fv P w := CTX_fr h (s.1 22 (by simp)) (s.2 3 (by simp))
theorem GDS_s (s : GDS T u g wb) (h : ∀ k, k ∈ [1112, 1113, 1114] → w.1 k = u.1 k) (h2 : w.2.2.1 23 = u.2.2.1 23) : GDS T w g wb := by
  have e : ∀ k, A w 23 k = A u 23 k := fun k => by show (w.2.2.1 23 k).toInt = _; rw [h2]; rfl
  have hF : ∀ k, k ∈ [1112, 1113, 1114] → F w k = F u k := fun k hk => congrArg _ (h k hk)
  unfold GDS at s ⊢
  rw [hF 1112 (by simp), hF 1113 (by simp), hF 1114 (by simp), e, e]; exact s
theorem FBc_b (ht : WFT T u) : ∀ {j wb nb cb rk : Nat}, FBc T u q j wb nb cb rk → wb ≤ 1090 * j ∧ nb ≤ 40 * j ∧ cb ≤ 25 * j ∧ rk ≤ 768000 * j
  | 0, wb, nb, cb, rk, h => by obtain ⟨a, b, c, d⟩ := h; omega
  | j + 1, wb, nb, cb, rk, h => by
    obtain ⟨wb0, nb0, cb0, rk0, h, m, L, a, b1, -, -, -, b5, b6, b7, b8, b9, -⟩ := h
    have c := FBc_b ht b1
    obtain ⟨-, t1, -⟩ := ht _ _ _ _ _ _ b5
    have d := cKc_le (T := T) a 24000
    omega
theorem MI_b (M : MIc T Fv P PR q u i h m L g x j wb nb cb rk) : (1 ≤ i ∧ i < 24000) ∧ wb + h ≤ 65400 ∧ nb + m ≤ 2400 ∧ cb + L.length ≤ 1500 ∧ rk ≤ 45312000 := by
  obtain ⟨g, -, s, ⟨t, -⟩, -⟩ := M
  have a := FBc_b g.2.2.1 s.1
  obtain ⟨t1, t2, -⟩ := g.2.2.1 _ _ _ _ _ _ t
  have := s.2.1.2
  refine ⟨t1, ?_, ?_, ?_, ?_⟩ <;> omega
theorem GEN_f (G : GEN T Fv P PR q u) (f : FC q gi gl ga ki kl ka kj u w) (d : DWc Fv P PR w) (hgi : ∀ k, k ∈ [22, 442, 449, 1106, 1107] → k ∉ gi) (hga : ∀ k, k ∈ [3, 23, 25, 29, 30, 31, 32, 1948] → k ∉ ga) (ln : LNB w q) : GEN T Fv P PR q w := by
  obtain ⟨g1, g2, g3, g4, g5, g6, g7, g8⟩ := G
  have s : SCQ u w := SCQ_f f (fun k hk => hgi k (by simp at hk ⊢; omega)) (fun k hk => hga k (by simp at hk ⊢; omega))
  refine ⟨d, CTX_s s g2, WFT_s s g3, CDT_s s g4, fun r hr hrq hal => ?_, ALN_k g6 (f.2.2.1 1948 (by omega) (hga 1948 (by simp))) (fun r hr h1 => ?_), g7, ?_⟩
  · exact PSQ_o (g5 r hr hrq (by rw [← f.Fo hrq (by omega)]; exact hal)) f hrq (hga 23 (by simp))
  · by_cases e : r = q
    · rw [e]; exact ln
    · exact LNB_o h1 f e
  · rw [f.Fg (by omega) (hgi 1106 (by simp)), f.Fg (by omega) (hgi 1107 (by simp))]; exact g8
theorem GEN_w (G : GEN T Fv P PR q u) (k : WQ Fv P PR u w) : GEN T Fv P PR q w := by
  obtain ⟨g1, g2, g3, g4, g5, g6, g7, g8⟩ := G
  have s := SCQ_w k.2.1
  refine ⟨k.1, CTX_s s g2, WFT_s s g3, CDT_s s g4, fun r hr hrq hal => ?_, ALN_k g6 (k.2.1.2.2.2.1 1948 (by omega) (by simp)) (fun r hr h1 => LNB_w h1 k.2.1), g7, ?_⟩
  · refine PSQ_w (g5 r hr hrq (fun e => hal (k.2.2.en e))) k.2.1
  · rw [k.2.1.G (by omega) (by simp), k.2.1.G (by omega) (by simp)]; exact g8
theorem GEN_ln (G : GEN T Fv P PR q u) (hr : r < PR) : LNB u r := by
  obtain ⟨⟨⟨⟨-, g1⟩, g2, -⟩, -⟩, -, -, -, -, g6, -, -⟩ := G
  rcases g6 r (by omega) with z | ⟨-, z⟩
  · rw [g2 r hr] at z; cases z
  · exact z
theorem MI_w (M : MIc T Fv P PR q u i h m L g x j wb nb cb rk) (k : WQ Fv P PR u w) (hal : F w (pq q 9) ≠ 3) : MIc T Fv P PR q w i h m L g x j wb nb cb rk ∧ PHc T w q i x rk = PHc T u q i x rk := by
  obtain ⟨G, s9, s, ⟨t1, t2⟩, ⟨b1, b2⟩, gd, xx, un⟩ := M
  have f := k.2.1
  have e8 : F w (pq q 8) = F u (pq q 8) := f.F (by omega) (by simp)
  refine ⟨⟨GEN_w G k, ?_, STc_s s (f.2.2.1 q 30 (by omega) (by simp)) (f.2.2.1 q 37 (by omega) (by simp)) (f.1 q 21 (by omega) (by simp)) (f.1 q 28 (by omega) (by simp)), ⟨t1, by rw [f.G (by omega) (by simp)]; exact t2⟩, ⟨by rw [f.F (by omega) (by simp)]; exact b1, by rw [f.F (by omega) (by simp)]; exact b2⟩, GDS_s gd (fun k hk => f.2.1 k (by simp at hk; omega) (by simp at hk ⊢; omega)) (f.2.2.2.1 23 (by omega) (by simp)), fun h1 h2 => ?_, UN_k un (f.2.2.2.2.2.1 q 10 (by omega) (by simp)) (f.2.2.2.1 23 (by omega) (by simp))⟩, ?_⟩
  · rcases (k.2.2 q).1 with e | e
    · rw [e]; exact s9
    · exact absurd e hal
  · have := xx h1 h2
    have := (k.2.2 q).2
    rw [e8]; omega
  · unfold PHc
    rw [e8, f.G (by omega) (by simp), f.G (by omega) (by simp)]
end
end
section
set_option maxRecDepth 100000
def FNc (q : Nat) (u w : MS) : Prop := FC q [] [] [] [4, 5, 24, 26, 42, 43, 45] [] [32] [2, 3, 33, 35, 6] u w
def FMc (q : Nat) (u w : MS) : Prop := FC q [1105] [] [] [4, 5, 24, 26, 42, 43, 45] [] [32] [2, 3, 33, 35, 6] u w
section
variable {T : Nat → Option (Nat × Nat × List Nat × Nat × Nat)} {Fv : Int64 → Int64 → Prop} {P : Int64 → Prop} {u v w : MS} {PR N q r n B W Y i h m g x j wb nb cb rk c f i2 h2 m2 k : Nat} {L : List Nat} {ow kd : Nat → Nat} {t : Int64} {gi gl ga ki kl ka kj : List Nat}
theorem FMc.rf : FMc q u u := FC.rf
theorem FMc.tr (a : FMc q u v) (b : FMc q v w) : FMc q u w := FC.tr a b
theorem FMc.of (a : FC q gi gl ga ki kl ka kj u w) (h1 : ∀ k, k ∈ gi → k ∈ [1105]) (h2 : ∀ k, k ∈ gl → False) (h3 : ∀ k, k ∈ ga → False) (h4 : ∀ k, k ∈ ki → k ∈ [4, 5, 24, 26, 42, 43, 45]) (h5 : ∀ k, k ∈ kl → False) (h6 : ∀ k, k ∈ ka → k ∈ [32]) (h7 : ∀ k, k ∈ kj → k ∈ [2, 3, 33, 35, 6]) : FMc q u w := FC.mo a h1 (fun k z => (h2 k z).elim) (fun k z => (h3 k z).elim) h4 (fun k z => (h5 k z).elim) h6 h7
theorem FNc.toM (a : FNc q u w) : FMc q u w := FC.mo a (by simp) (by simp) (by simp) (by simp) (by simp) (by simp) (by simp)
theorem FNc.rf : FNc q u u := FC.rf
theorem FNc.tr (a : FNc q u v) (b : FNc q v w) : FNc q u w := FC.tr a b
theorem FNc.of (a : FC q gi gl ga ki kl ka kj u w) (h1 : ∀ k, k ∈ gi → False) (h2 : ∀ k, k ∈ gl → False) (h3 : ∀ k, k ∈ ga → False) (h4 : ∀ k, k ∈ ki → k ∈ [4, 5, 24, 26, 42, 43, 45]) (h5 : ∀ k, k ∈ kl → False) (h6 : ∀ k, k ∈ ka → k ∈ [32]) (h7 : ∀ k, k ∈ kj → k ∈ [2, 3, 33, 35, 6]) : FNc q u w := FC.mo a (fun k z => (h1 k z).elim) (fun k z => (h2 k z).elim) (fun k z => (h3 k z).elim) h4 (fun k z => (h5 k z).elim) h6 h7
theorem FMc.at (a : FMc q u w) {y : Int} : FMc q u (wi w 1105 y) := FC.wi_g a (by omega) (by simp)
theorem DWc_m (d : DWc Fv P PR u) (hq : q < PR) (h9 : F u (pq q 9) ≠ 3) (f : FMc q u w) (p : PTQ w q n ow kd Fv P B W Y) : DWc Fv P PR w := by
  have e9 := f.Fq (k := 9) (by omega) (by simp)
  refine DWc_fc d f hq h9 (by rw [e9]; exact h9) ?_ ⟨n, ow, kd, B, W, Y, p⟩ (by simp) (by simp)
  exact SMQ_up (d.2 q hq).1 (f.Fq (by omega) (by simp)) (f.Fq (by omega) (by simp)) (by rw [f.Fq (by omega) (by simp)]; exact Int.le_refl _) h9
theorem MI_p (M : MIc T Fv P PR q u i h m L g x j wb nb cb rk) : ∃ n ow kd Y, PTQ u q n ow kd Fv P (nb + m) (wb + h) Y := by
  obtain ⟨G, s9, s, ⟨t1, t2⟩, ⟨b1, b2⟩, gd, xx⟩ := M
  obtain ⟨n, ow, kd, B, W, Y, p⟩ := (G.1.2 q G.2.2.2.2.2.2.1).2.2 (by rw [s9]; decide)
  have e1 : B = nb + m := by have := p.2.1.1; omega
  have e2 : W = wb + h := by have := p.2.2.1.1; omega
  exact ⟨n, ow, kd, Y, e1 ▸ e2 ▸ p⟩
theorem MI_ln (M : MIc T Fv P PR q u i h m L g x j wb nb cb rk) : LNB u q := GEN_ln M.1 M.1.2.2.2.2.2.2.1
theorem MI_f (M : MIc T Fv P PR q u i h m L g x j wb nb cb rk) (hx : x < i) (f : FMc q u w) (p : PTQ w q n ow kd Fv P (nb + m2) (wb + h2) Y) (ln : LNB w q) (t2 : T i2 = some (h2, m2, L, g, x)) (e : F w 1105 = ((i2 : Nat) : Int)) : MIc T Fv P PR q w i2 h2 m2 L g x j wb nb cb rk ∧ PHc T w q i2 x rk = rk + potc T i2 x (F u (pq q 8)).toNat + (F u 1107 - F u 1106).toNat * 768001 := by
  obtain ⟨G, s9, s, ⟨t1, -⟩, -, gd, xx, un⟩ := M
  have d := DWc_m G.1 G.2.2.2.2.2.2.1 (by rw [s9]; decide) f p
  refine ⟨⟨GEN_f G f d (by simp) (by simp) ln, by rw [f.Fq (by omega) (by simp)]; exact s9, STc_s s (f.2.2.2.2.2.2.1 q 30 (by omega) (by simp)) (f.2.2.2.2.2.2.1 q 37 (by omega) (by simp)) (f.2.2.2.2.1 q 21 (by omega) (by simp)) (f.2.2.2.2.1 q 28 (by omega) (by simp)), ⟨t2, e⟩, ⟨p.2.2.1.1, p.2.1.1⟩, GDS_s gd (fun k hk => f.1 k (by simp at hk; omega) (by simp at hk ⊢; omega)) (f.2.2.1 23 (by omega) (by simp)), fun h1 h2 => ?_, UN_k un (f.2.2.2.2.2.1 q 10 (by omega) (by simp)) (f.2.2.1 23 (by omega) (by simp))⟩, ?_⟩
  · rw [f.Fq (by omega) (by simp), f.Fq (by omega) (by simp)]
    exact xx h1 (by omega)
  · unfold PHc
    rw [f.Fq (by omega) (by simp), f.Fg (by omega) (by simp), f.Fg (by omega) (by simp)]
theorem NRM_f (M : MIc T Fv P PR q u i h m L g x j wb nb cb rk) (t9 : F u 1109 = 0) (t8 : F u 1108 = 0) (hf : PHc T u q i x rk ≤ c) (hx : x < i) (f : FMc q u w) (p : PTQ w q n ow kd Fv P (nb + m2) (wb + h2) Y) (ln : LNB w q) (t2 : T i2 = some (h2, m2, L, g, x)) (e : F w 1105 = ((i2 : Nat) : Int)) (hi : i < i2) : OPQ T Fv P PR q c w := by
  obtain ⟨a, b⟩ := MI_f M hx f p ln t2 e
  refine Or.inl ⟨⟨i2, h2, m2, L, g, x, j, wb, nb, cb, rk, a, ?_⟩, by rw [f.Fg (by omega) (by simp)]; exact t9, by rw [f.Fg (by omega) (by simp)]; exact t8⟩
  have := pot_x (t := (F u (pq q 8)).toNat) M.2.2.2.1.1 (MI_b M).1.2 hi
  unfold PHc at hf
  rw [b]; omega
theorem tell_e {a b : Int} : hm_Ma_tell N u q (I a) (I b) t = some (wl (wi (wi u 1109 a) 1111 b) 1110 t, ()) := rfl
theorem atom_e {a : Int} : hm_Ma_atom N u (I a) = some (u, mk 1 a) := rfl
theorem wrong_e {a : Int} : hm_Ma_wrong N u q (I a) = some (wl (wi (wi u 1109 1) 1111 (-1)) 1110 (mk 1 a), ()) := rfl
theorem ERR_t {how ar : Int} (M : MIc T Fv P PR q u i h m L g x j wb nb cb rk) (t9 : F u 1109 = 0) (t8 : F u 1108 = 0) (hf : PHc T u q i x rk ≤ c) (gt : GTQ Fv P u q t) (h1 : how = 1 ∨ how = 2 ∨ how = 3) (h2 : ar = -1 ∨ (0 ≤ ar ∧ ar < 22)) : OPQ T Fv P PR q c (wl (wi (wi u 1109 how) 1111 ar) 1110 t) := Or.inr (Or.inl ⟨u, how, ar, t, ⟨i, h, m, L, g, x, j, wb, nb, cb, rk, M, hf⟩, t9, t8, gt, h1, h2, rfl⟩)
theorem GTQ_at {a : Nat} (M : MIc T Fv P PR q u i h m L g x j wb nb cb rk) (ha : a < 22) : GTQ Fv P u q (mk 1 ((a : Nat) : Int)) := by
  obtain ⟨n, ow, kd, Y, p⟩ := MI_p M
  exact ⟨n, ow, kd, _, _, Y, p, GT_at M.1.2.1 ha⟩
theorem ERR_w {a : Nat} (M : MIc T Fv P PR q u i h m L g x j wb nb cb rk) (t9 : F u 1109 = 0) (t8 : F u 1108 = 0) (hf : PHc T u q i x rk ≤ c) (ha : a < 22) : OK (fun w _ => OPQ T Fv P PR q c w) (hm_Ma_wrong N u q (I ((a : Nat) : Int))) := by
  rw [wrong_e]
  exact ok_some.mpr (ERR_t M t9 t8 hf (GTQ_at M ha) (Or.inl rfl) (Or.inl rfl))
theorem M21 (M : MIc T Fv P PR q u i h m L g x j wb nb cb rk) : 0 ≤ F u (pq q 21) ∧ F u (pq q 21) ≤ 60 := by have := M.2.2.1.2.1; omega
theorem END_w (G : GEN T Fv P PR q u) (k : WQ Fv P PR u w) (h9 : F w (pq q 9) = 3) (t9 : F u 1109 = 0) (h21 : 0 ≤ F u (pq q 21) ∧ F u (pq q 21) ≤ 60) : ENDc T Fv P PR q w := ⟨GEN_w G k, h9, by rw [k.2.1.G (by omega) (by simp)]; exact t9, by rw [k.2.1.F (by omega) (by simp)]; exact h21⟩
theorem endsBy_w {a : Nat} (G : GEN T Fv P PR q u) (hal : F u (pq q 9) ≠ 3) (ha : a < 22) : OK (fun w _ => WQ Fv P PR u w ∧ F w (pq q 9) = 3) (hm_Wl_endsBy N u q (I ((a : Nat) : Int))) :=
  ok_mono (endsBy_ok G.1 G.2.1 G.2.2.2.2.2.2.1 hal ha) (fun w _ hw => ⟨⟨hw.1, hw.2.1, ST3.ends hw.2.2.1 hw.2.2.2.1 hw.2.2.2.2.2.2⟩, hw.2.2.1⟩)
theorem push_t (p : PTQ u q n ow kd Fv P B W Y) (ln : LNB u q) (hW : W < 65536) (gt : GT n ow kd P t) : OK (fun w _ => FNc q u w ∧ PTQ w q n ow kd Fv P B (W + 1) Y ∧ LNB w q ∧ (∀ i, i < W → w.2.2.2 (pq q 35) i = u.2.2.2 (pq q 35) i) ∧ w.2.2.2 (pq q 35) W = t ∧ (∀ k, k ≠ pq q 35 → w.2.2.2 k = u.2.2.2 k)) (hm_Fr_push N u q t) := by
  obtain ⟨⟨p1, p2, p3⟩, ⟨p4, p5⟩, ⟨p6, p7⟩, ⟨p8, p9⟩, ⟨l, a1, a2⟩, ⟨l2, b1, b2⟩, c⟩ := p
  refine ok_mono (push_n (N := N) (t := t) p6 ln (by omega) hW) (fun w _ hw => ?_)
  obtain ⟨f, e, l3, l4, r, o⟩ := hw
  obtain ⟨l5, l6, l7, l8⟩ := LNB_45 l3
  refine ⟨FNc.of f (by simp) (by simp) (by simp) (by simp) (by simp) (by simp) (by simp), ⟨⟨by rw [f.Fq (by omega) (by simp)]; exact p1, p2, by rw [f.jq (by omega) (by simp)]; exact p3⟩, ⟨by rw [f.Fq (by omega) (by simp)]; exact p4, by rw [f.jq (by omega) (by simp)]; exact p5⟩, ⟨e, fun i hi => ?_⟩, ⟨by rw [f.Fq (by omega) (by simp)]; exact p8, by rw [f.jq (by omega) (by simp)]; exact p9⟩, ⟨l, by rw [f.Fq (by omega) (by simp)]; exact a1, a2⟩, ⟨l5, l6, by omega, by omega⟩, c⟩, l3, fun i hi => by rw [r i (by omega), if_neg (by omega)], by rw [r W (by omega), if_pos rfl], o⟩
  rw [r i (by omega)]
  by_cases z : i = W
  · rw [if_pos z]; exact gt
  · rw [if_neg z]; exact p7 i (by omega)
theorem drop_t (p : PTQ u q n ow kd Fv P B W Y) (hk : k ≤ W) : FNc q u (wi u (pq q 26) ((W - k : Nat) : Int)) ∧ PTQ (wi u (pq q 26) ((W - k : Nat) : Int)) q n ow kd Fv P B (W - k) Y := by
  have r := F_r u (pq q 26)
  obtain ⟨⟨p1, p2, p3⟩, ⟨p4, p5⟩, ⟨p6, p7⟩, ⟨p8, p9⟩, ⟨l, a1, a2⟩, ⟨l2, b1, b2⟩, c⟩ := p
  have f : FC q [] [] [] [26] [] [] [] u (wi u (pq q 26) ((W - k : Nat) : Int)) := FC.wi_q FC.rf (by omega) (by simp)
  refine ⟨FNc.of f (by simp) (by simp) (by simp) (by simp) (by simp) (by simp) (by simp), ⟨by rw [f.Fq (by omega) (by simp)]; exact p1, p2, p3⟩, ⟨by rw [f.Fq (by omega) (by simp)]; exact p4, p5⟩, ⟨by rw [F_wi (by omega) (by omega), if_pos rfl], fun i hi => p7 i (by omega)⟩, ⟨by rw [f.Fq (by omega) (by simp)]; exact p8, p9⟩, ⟨l, by rw [f.Fq (by omega) (by simp)]; exact a1, a2⟩, ⟨l2, by rw [f.Fq (by omega) (by simp)]; exact b1, by omega⟩, c⟩
theorem forget_t (p : PTQ u q n ow kd Fv P B W Y) (hk : k ≤ B) : FNc q u (wi u (pq q 24) ((B - k : Nat) : Int)) ∧ PTQ (wi u (pq q 24) ((B - k : Nat) : Int)) q n ow kd Fv P (B - k) W Y := by
  have r := F_r u (pq q 24)
  obtain ⟨⟨p1, p2, p3⟩, ⟨p4, p5⟩, ⟨p6, p7⟩, ⟨p8, p9⟩, ⟨l, a1, a2⟩, ⟨l2, b1, b2⟩, c⟩ := p
  have f : FC q [] [] [] [24] [] [] [] u (wi u (pq q 24) ((B - k : Nat) : Int)) := FC.wi_q FC.rf (by omega) (by simp)
  refine ⟨FNc.of f (by simp) (by simp) (by simp) (by simp) (by simp) (by simp) (by simp), ⟨by rw [f.Fq (by omega) (by simp)]; exact p1, p2, p3⟩, ⟨by rw [F_wi (by omega) (by omega), if_pos rfl], fun i hi => p5 i (by omega)⟩, ⟨by rw [f.Fq (by omega) (by simp)]; exact p6, p7⟩, ⟨by rw [f.Fq (by omega) (by simp)]; exact p8, p9⟩, ⟨l, by rw [f.Fq (by omega) (by simp)]; exact a1, by omega⟩, ⟨l2, by rw [f.Fq (by omega) (by simp)]; exact b1, b2⟩, c⟩
theorem LNB_m (ln : LNB u q) {y : Int} (hk : k ∉ [42, 43, 45, 47, 28]) (hk2 : k < 100) : LNB (wi u (pq q k) y) q := LNB_fc ln (fun l hl => if_neg (fun z => hk (by rw [← (pq_e (by simp at hl; omega) hk2 z).2]; exact hl)))
theorem LNB_g (ln : LNB u q) {y : Int} (hk : k < 2000) : LNB (wi u k y) q := LNB_fc ln (fun l hl => if_neg (by unfold pq; omega))
theorem answer_t {y : Int} (p : PTQ u q n ow kd Fv P B W Y) (ln : LNB u q) (hy : y = ((k : Nat) : Int)) (hk : k ≤ W) (hW : W - k < 65536) (gt : GT n ow kd P t) : OK (fun w _ => FNc q u w ∧ PTQ w q n ow kd Fv P B (W - k + 1) Y ∧ LNB w q) (hm_Ma_answer N u q (I y) t) := by
  unfold hm_Ma_answer hb_Ma_answer_0
  rw [drop_e p.2.2.1.1 hy hk, bnd_so]
  obtain ⟨a, b⟩ := drop_t p hk
  refine ok_bnd.mpr (ok_mono (push_t (N := N) b (LNB_m ln (by simp) (by omega)) hW gt) (fun w _ hw => ok_some.mpr ⟨FNc.tr a hw.1, hw.2.1, hw.2.2.1⟩))
theorem at_t {y : Int} (p : PTQ u q n ow kd Fv P B W Y) : PTQ (wi u 1105 y) q n ow kd Fv P B W Y := PTQ_same p (fun k hk => if_neg (by unfold pq; omega)) (fun k hk => rfl)
theorem at_e {y : Int} (e : F u 1105 = ((i : Nat) : Int)) : upI u 1105 ((u.1 1105) + I y) = wi u 1105 (((i : Nat) : Int) + y) := by rw [I_F (k := 1105), e, I_add]; rfl
theorem at_F {y : Int} (h1 : 0 ≤ y ∧ y < 2147483648) : F (wi u 1105 y) 1105 = y := by rw [F_wi (by omega) (by omega), if_pos rfl]
theorem fin_t {y : Int} (M : MIc T Fv P PR q u i h m L g x j wb nb cb rk) (t9 : F u 1109 = 0) (t8 : F u 1108 = 0) (hf : PHc T u q i x rk ≤ c) (hx : x < i) (f : FNc q u w) (p : PTQ w q n ow kd Fv P (nb + m2) (wb + h2) Y) (ln : LNB w q) (t2 : T i2 = some (h2, m2, L, g, x))  (hy : ((i : Nat) : Int) + y = ((i2 : Nat) : Int)) (hi : i < i2) (hi2 : i2 < 30000) : OPQ T Fv P PR q c (upI w 1105 ((w.1 1105) + I y)) := by
  rw [at_e (by rw [f.Fg (by omega) (by simp)]; exact M.2.2.2.1.2), hy]
  exact NRM_f M t9 t8 hf hx (FMc.at f.toM) (at_t p) (LNB_g ln (by omega)) t2 (at_F (by omega)) hi
theorem Co_e {y : Int} (hy : y = ((k : Nat) : Int)) (hk : k < 24000) : hm_Co_at N u (I y) = some (u, I (A u 23 k)) := by
  unfold hm_Co_at hb_Co_at_0 hb_Co_at_21
  rw [hy, lit0q, I_lit (n := 24000), decL (by omega) (by omega) (by decide) (by decide), decide_eq_false (by omega), br_fq, decL (by omega) (by omega) (by decide) (by decide), decide_eq_true (show ((k : Nat) : Int) < 24000 by omega), br_tq, (I_inb (by omega) (by omega)).mpr ⟨by omega, by omega⟩, ck_t, tnI (n := k) rfl (by omega), I_A]
theorem Co_any (y : Int32) : ∃ r, hm_Co_at N u y = some (u, r) := by
  unfold hm_Co_at hb_Co_at_0 hb_Co_at_21 hb_Co_at_11 hb_Co_at_21
  by_cases h1 : y < 0
  · rw [decide_eq_true h1, br_tq]; exact ⟨_, rfl⟩
  · rw [decide_eq_false h1, br_fq]
    by_cases h2 : y < 24000
    · rw [decide_eq_true h2, br_tq]
      rw [I_of y] at h1 h2 ⊢
      have r := ti_rng y
      have a : 0 ≤ y.toInt := by
        rcases Int.lt_or_le y.toInt 0 with z | z
        · exact absurd ((I_lt r.1 r.2 (by decide) (by decide)).mpr z) h1
        · exact z
      have b : y.toInt < 24000 := by rw [I_lit (n := 24000)] at h2; exact (I_lt r.1 r.2 (by decide) (by decide)).mp h2
      rw [(I_inb (by omega) (by omega)).mpr ⟨by omega, by omega⟩, ck_t]
      exact ⟨_, rfl⟩
    · rw [decide_eq_false h2, br_fq]; exact ⟨_, rfl⟩
end
end
section
set_option maxRecDepth 100000
def owL (n : Nat) (ow : Nat → Nat) (k : Nat) : Nat := if k < n then ow k else n + 2 * ((k - n) / 2)
def kdL (n : Nat) (kd : Nat → Nat) (k : Nat) : Nat := if k < n then kd k else 7
section
variable {h h2 : Nat → Int64} {n c f0 sr : Nat} {ow kd s : Nat → Nat} {Fv : Int64 → Int64 → Prop} {P : Int64 → Prop} {rest : Int64}
theorem mk7 {k : Nat} (hk : k ≤ 200000) : so (mk 7 ((k : Nat) : Int)) = 7 ∧ va (mk 7 ((k : Nat) : Int)) = ((k : Nat) : Int) ∧ vn (mk 7 ((k : Nat) : Int)) = k := by
  have a : so (mk 7 ((k : Nat) : Int)) = 7 := so_mk (by decide) (by decide)
  have b : va (mk 7 ((k : Nat) : Int)) = ((k : Nat) : Int) := va_mk (by omega) (by omega)
  exact ⟨a, b, by unfold vn; rw [b]; exact Int.toNat_natCast k⟩
theorem LSTn_sz (hh : ∀ i, i < n → h2 i = h i) (hs : ∀ i, i < c → SZc h n ow kd Fv P f0 (h2 (n + 2 * i)) (s i)) (zr : SZc h n ow kd Fv P f0 rest sr) (hn : ∀ i, i + 1 < c → h2 (n + 2 * i + 1) = mk 7 ((n + 2 * (i + 1) : Nat) : Int)) (hl : h2 (n + 2 * (c - 1) + 1) = rest) (hb : n + 2 * c ≤ 200000) : ∀ d i, i + (d + 1) = c → SZc h2 (n + 2 * c) (owL n ow) (kdL n kd) Fv P (f0 + (d + 1)) (mk 7 ((n + 2 * i : Nat) : Int)) (2 * (d + 1) + smm s i (d + 1) + sr) := by
  have ext : ∀ f t s, SZc h n ow kd Fv P f t s → SZc h2 (n + 2 * c) (owL n ow) (kdL n kd) Fv P f t s := fun f t s z => SZ_extc (by omega) hh (fun i hi => if_pos hi) (fun i hi => if_pos hi) (fun _ _ q => q) (fun _ q => q) z
  intro d
  induction d with
  | zero =>
    intro i hi
    obtain ⟨m1, m2, m3⟩ := mk7 (k := n + 2 * i) (by omega)
    have b2 : blk h2 (mk 7 ((n + 2 * i : Nat) : Int)) = 2 := by unfold blk; rw [if_pos m1]
    have p2 : prt (mk 7 ((n + 2 * i : Nat) : Int)) = 0 := by unfold prt; rw [if_pos m1]
    refine Or.inr ⟨Or.inr (Or.inr m1), ⟨by omega, fun z => by omega, fun z => by omega, by rw [m3, b2]; omega, by rw [m3, m1]; unfold kdL; rw [if_neg (by omega)]; rfl, fun j hj => ?_⟩, fun j => if j = 0 then s i else sr, ?_, ?_⟩
    · rw [b2] at hj
      rw [m3]; unfold owL
      rw [if_neg (by omega)]; omega
    · rw [p2, b2, m3]
      intro j _ hj
      rcases (show j = 0 ∨ j = 1 by omega) with rfl | rfl
      · exact SZ_lec (ext _ _ _ (hs i (by omega))) (by omega)
      · rw [show n + 2 * i + 1 = n + 2 * (c - 1) + 1 by omega, hl]
        exact SZ_lec (ext _ _ _ zr) (by omega)
    · rw [p2, b2]
      show _ = 2 + (0 + (if 0 + 0 = 0 then s i else sr) + (if 0 + 1 = 0 then s i else sr))
      show 2 * (0 + 1) + (0 + s (i + 0)) + sr = _
      simp; omega
  | succ d ih =>
    intro i hi
    obtain ⟨m1, m2, m3⟩ := mk7 (k := n + 2 * i) (by omega)
    have b2 : blk h2 (mk 7 ((n + 2 * i : Nat) : Int)) = 2 := by unfold blk; rw [if_pos m1]
    have p2 : prt (mk 7 ((n + 2 * i : Nat) : Int)) = 0 := by unfold prt; rw [if_pos m1]
    refine Or.inr ⟨Or.inr (Or.inr m1), ⟨by omega, fun z => by omega, fun z => by omega, by rw [m3, b2]; omega, by rw [m3, m1]; unfold kdL; rw [if_neg (by omega)]; rfl, fun j hj => ?_⟩, fun j => if j = 0 then s i else 2 * (d + 1) + smm s (i + 1) (d + 1) + sr, ?_, ?_⟩
    · rw [b2] at hj
      rw [m3]; unfold owL
      rw [if_neg (by omega)]; omega
    · rw [p2, b2, m3]
      intro j _ hj
      rcases (show j = 0 ∨ j = 1 by omega) with rfl | rfl
      · exact SZ_lec (ext _ _ _ (hs i (by omega))) (Nat.le_add_right f0 (d + 1))
      · rw [hn i (by omega)]
        exact SZ_lec (ih (i + 1) (by omega)) (Nat.le_refl (f0 + (d + 1)))
    · rw [p2, b2, smm_first]
      show _ = 2 + (0 + (if 0 + 0 = 0 then s i else _) + (if 0 + 1 = 0 then s i else _))
      simp; omega
theorem LST_new (g : HPc h n ow kd Fv P) (hc : 1 ≤ c) (hh : ∀ i, i < n → h2 i = h i) (hs : ∀ i, i < c → SZc h n ow kd Fv P f0 (h2 (n + 2 * i)) (s i)) (zr : SZc h n ow kd Fv P f0 rest sr) (hn : ∀ i, i + 1 < c → h2 (n + 2 * i + 1) = mk 7 ((n + 2 * (i + 1) : Nat) : Int)) (hl : h2 (n + 2 * (c - 1) + 1) = rest) (hb : n + 2 * c ≤ 200000) (hsum : 2 * c + smm s 0 c + sr ≤ 500) :
    ∃ ow2 kd2, HPc h2 (n + 2 * c) ow2 kd2 Fv P ∧ GT (n + 2 * c) ow2 kd2 P (mk 7 ((n : Nat) : Int)) ∧ ∀ t, GT n ow kd P t → GT (n + 2 * c) ow2 kd2 P t := by
  have ext : ∀ f t s, SZc h n ow kd Fv P f t s → SZc h2 (n + 2 * c) (owL n ow) (kdL n kd) Fv P f t s := fun f t s z => SZ_extc (by omega) hh (fun i hi => if_pos hi) (fun i hi => if_pos hi) (fun _ _ q => q) (fun _ q => q) z
  have sz := LSTn_sz hh hs zr hn hl hb
  refine ⟨owL n ow, kdL n kd, fun t ht gt => ?_, ?_, fun t gt => ?_⟩
  · rcases gt with ⟨z, -⟩ | ⟨-, g1, g2, g3, g4⟩
    · exact absurd ht z
    by_cases e : vn t < n
    · unfold owL at g3; unfold kdL at g4
      rw [if_pos e] at g3 g4
      obtain ⟨f, s1, z1, z2⟩ := g t ht (Or.inr ⟨ht, g1, e, g3, g4⟩)
      obtain ⟨b1, -⟩ := HP_bkc g ht (Or.inr ⟨ht, g1, e, g3, g4⟩)
      have hbk := b1.2.2.2.1
      refine ⟨f, s1, ext _ _ _ z1, fun y => ?_⟩
      obtain ⟨y1, y2, y3⟩ := z2 y
      have e0 : h2 (vn t) = h (vn t) := hh _ e
      have eb : blk h2 t = blk h t := by
        unfold blk
        rw [if_neg (by omega), if_pos y1, if_neg (by omega), if_pos y1, e0]
      refine ⟨y1, by rw [eb]; exact y2, ?_⟩
      rw [hh _ (by omega)]; exact y3
    · unfold owL at g3; unfold kdL at g4
      rw [if_neg e] at g3 g4
      have e7 : so t = 7 := by omega
      obtain ⟨i, hi⟩ : ∃ i, vn t = n + 2 * i := ⟨(vn t - n) / 2, by omega⟩
      have hic : i < c := by omega
      obtain ⟨m1, m2, m3⟩ := mk7 (k := n + 2 * i) (by omega)
      have z := sz (c - i - 1) i (by omega)
      refine ⟨_, _, SZ_samec (by rw [e7, m1]) (by rw [m2, ← hi]; unfold vn; omega) (Or.inr (Or.inr m1)) z, fun y => ?_⟩
      exfalso
      have a := smm_add (c := s) (a := 0) (x := i) (y := c - i)
      rw [show i + (c - i) = c by omega, Nat.zero_add] at a
      rw [show c - i - 1 + 1 = c - i by omega] at y
      omega
  · obtain ⟨m1, m2, m3⟩ := mk7 (k := n) (by omega)
    refine Or.inr ⟨Or.inr (Or.inr m1), by omega, by omega, ?_, ?_⟩
    · rw [m3]; unfold owL; rw [if_neg (by omega)]; omega
    · rw [m3, m1]; unfold kdL; rw [if_neg (by omega)]; rfl
  · rcases gt with z | ⟨z, g1, g2, g3, g4⟩
    · exact Or.inl z
    · refine Or.inr ⟨z, g1, by omega, ?_, ?_⟩
      · unfold owL; rw [if_pos g2]; exact g3
      · unfold kdL; rw [if_pos g2]; exact g4
end
end
section
set_option maxRecDepth 100000
section
variable {T : Nat → Option (Nat × Nat × List Nat × Nat × Nat)} {Fv : Int64 → Int64 → Prop} {P : Int64 → Prop} {u v w : MS} {PR N q r n B W Y i h m g x j wb nb cb rk c f i2 h2 m2 k a : Nat} {L : List Nat} {ow kd : Nat → Nat} {t : Int64} {gi gl ga ki kl ka kj : List Nat}
theorem FM_fr (f : FR [] [] [] [44, 45, 46] u w) : FNc q u w := FNc.of (FC.of f (by simp) (by simp) (by simp) (by simp)) (by simp) (by simp) (by simp) (by simp) (by simp) (by simp) (by simp)
theorem PT_fr (f : FR [] [] [] [44, 45, 46] u w) (p : PTQ u q n ow kd Fv P B W Y) : PTQ w q n ow kd Fv P B W Y := PTQ_same p (fun k _ => f.1 _ (by simp)) (fun k _ => f.2.2.2 _ (by simp; unfold pq; omega))
theorem MI_fr (M : MIc T Fv P PR q u i h m L g x j wb nb cb rk) (hx : x < i) (f : FR [] [] [] [44, 45, 46] u w) : MIc T Fv P PR q w i h m L g x j wb nb cb rk ∧ PHc T w q i x rk = PHc T u q i x rk ∧ F w 1109 = F u 1109 ∧ F w 1108 = F u 1108 := by
  obtain ⟨n, ow, kd, Y, p⟩ := MI_p M
  obtain ⟨a, b⟩ := MI_f M hx (FM_fr f).toM (PT_fr f p) (LNB_fc (MI_ln M) (fun k _ => f.1 _ (by simp))) M.2.2.2.1.1 (by rw [f.F (by simp)]; exact M.2.2.2.1.2)
  exact ⟨a, by rw [b]; rfl, f.F (by simp), f.F (by simp)⟩
theorem room_ok {y : Int} (M : MIc T Fv P PR q u i h m L g x j wb nb cb rk) (hx : x < i) (t9 : F u 1109 = 0) (t8 : F u 1108 = 0) (p : PTQ u q n ow kd Fv P (nb + m) (wb + h) Y) (hy : 0 ≤ y ∧ y ≤ 100000) (hN : 3000000 ≤ N) : OK (fun w r => (r = 0 ∧ ENDc T Fv P PR q w) ∨ (r = 1 ∧ (MIc T Fv P PR q w i h m L g x j wb nb cb rk ∧ PHc T w q i x rk = PHc T u q i x rk ∧ F w 1109 = 0 ∧ F w 1108 = 0) ∧ LNB w q ∧ FNc q u w ∧ (w.2.2.2 44 = u.2.2.2 44 ∧ w.2.2.1 = u.2.2.1) ∧ ∃ U ow2 kd2, PTQ w q U ow2 kd2 Fv P (nb + m) (wb + h) Y ∧ (U : Int) + y ≤ 500 ∧ (∀ i, i < nb + m → SML (u.2.2.2 (pq q 2)) n ow kd (w.2.2.2 (pq q 2)) U ow2 kd2 Fv P (u.2.2.2 (pq q 33) i) (w.2.2.2 (pq q 33) i)) ∧ (∀ i, i < wb + h → SML (u.2.2.2 (pq q 2)) n ow kd (w.2.2.2 (pq q 2)) U ow2 kd2 Fv P (u.2.2.2 (pq q 35) i) (w.2.2.2 (pq q 35) i)))) (hm_Ma_room N u q (I y)) := by
  unfold hm_Ma_room hb_Ma_room_0
  refine ok_bnd.mpr (ok_mono (want_ok (N := N) p M.1.2.1 hy (by omega)) (fun w r hw => ?_))
  obtain ⟨hr, U, ow2, kd2, p2, hU, f2, sB, sW⟩ := hw
  have fm : FNc q u w := FNc.of (FC_want f2) (by simp) (by simp) (by simp) (by simp) (by simp) (by simp) (by simp)
  have ln : LNB w q := LNB_k (MI_ln M) (FC_want f2) (by simp)
  obtain ⟨M2, ph⟩ := MI_f M hx fm.toM p2 ln M.2.2.2.1.1 (by rw [fm.Fg (by omega) (by simp)]; exact M.2.2.2.1.2)
  have s9 : F w 1109 = 0 := by rw [(FC_want f2).Fg (by omega) (by simp)]; exact t9
  have s8 : F w 1108 = 0 := by rw [(FC_want f2).Fg (by omega) (by simp)]; exact t8
  rcases hr with rfl | rfl
  · refine ok_br.mpr ⟨fun _ => ?_, fun z => absurd z (by decide)⟩
    refine ok_bnd.mpr (ok_mono (endsBy_w (N := N) (a := 20) M2.1 (by rw [M2.2.1]; decide) (by omega)) (fun w3 _ hw3 => ?_))
    exact ok_ck.mpr ⟨by decide, ok_some.mpr (Or.inl ⟨rfl, END_w M2.1 hw3.1 hw3.2 s9 (M21 M2)⟩)⟩
  · refine ok_br.mpr ⟨fun z => absurd z (by decide), fun _ => ?_⟩
    exact ok_ck.mpr ⟨by decide, ok_some.mpr (Or.inr ⟨rfl, ⟨M2, ph, s9, s8⟩, ln, fm, ⟨f2.2.2.2 44 (by simp; unfold pq; omega), funext fun k => f2.2.2.1 k (by simp)⟩, U, ow2, kd2, p2, hU rfl, sB, sW⟩)⟩
theorem sizes_ok {s : Nat → Nat} {f0 : Nat} (p : PTQ u q n ow kd Fv P B W Y) (cx : CTX Fv P u) (hk : k ≤ W) (hk2 : k ≤ 2000) (ha : a ≤ 5000) (hs : ∀ j, j < k → SZc (u.2.2.2 (pq q 2)) n ow kd Fv P f0 (u.2.2.2 (pq q 35) (W - 1 - j)) (s j)) (hN : 10000 ≤ N) : OK (fun w r => FR [] [] [] [44, 45, 46] u w ∧ r = I ((a + smm s 0 k : Nat) : Int)) (hm_Ma_sizes N u q (I ((k : Nat) : Int)) (I ((a : Nat) : Int))) := by
  unfold hm_Ma_sizes hb_Ma_sizes_0
  have hs1 : ∀ j, j < k → s j ≤ 1000 := fun j hj => SZ_1000c p.1.2.2 p.1.2.1 (hs j hj)
  have hsb : ∀ j, j ≤ k → smm s 0 j ≤ 1000 * j := by
    intro j
    induction j with
    | zero => intro _; exact Nat.le_refl _
    | succ j ih =>
      intro hj
      show smm s 0 j + s (0 + j) ≤ _
      have := ih (by omega)
      have := hs1 (0 + j) (by omega)
      omega
  have gen : ∀ (M j : Nat) (w : MS), j ≤ k → k - j < M → FR [] [] [] [44, 45, 46] u w → OK (fun w r => FR [] [] [] [44, 45, 46] u w ∧ r = I ((a + smm s 0 k : Nat) : Int)) (hg_Ma_sizes N M w q (I ((k : Nat) : Int)) (I ((a + smm s 0 j : Nat) : Int)) (I ((j : Nat) : Int))) := by
    intro M
    induction M with
    | zero => intro j _ _ hM; omega
    | succ M ih =>
      intro j w hj hM fr
      show OK _ (hb_Ma_sizes_5 N (hg_Ma_sizes N M) w q (I ((k : Nat) : Int)) (I ((a + smm s 0 j : Nat) : Int)) (I ((j : Nat) : Int)))
      unfold hb_Ma_sizes_5
      refine k_le ⟨by omega, by omega⟩ ⟨by omega, by omega⟩ (fun hh => ok_some.mpr ⟨fr, by rw [show j = k by omega]⟩) (fun hh => ?_)
      have pw := PT_fr (q := q) fr p
      obtain ⟨l, l1, l2, l3⟩ := pw.2.2.2.2.2.1
      have e35 : w.2.2.2 (pq q 35) = u.2.2.2 (pq q 35) := fr.2.2.2 _ (by simp; unfold pq; omega)
      have e2 : w.2.2.2 (pq q 2) = u.2.2.2 (pq q 2) := fr.2.2.2 _ (by simp; unfold pq; omega)
      rw [below_e (k := j) pw.2.2.1.1 l1 l2 l3 rfl (by omega), bnd_so, e35]
      have hz := hs j (by omega)
      refine ok_bnd.mpr (ok_mono (size_ok (N := N) (n := n) (s := s j) (b := pq q 2) (by unfold pq; omega) rfl (by have := p.1.2.1; omega) cx.1.1 (by have := hs1 j (by omega); omega) (by rw [e2]; exact hz) (by omega)) (fun w2 r hw => ?_))
      obtain ⟨f1, rfl⟩ := hw
      rw [I_add, lit1q, I_add]
      have e : ((a + smm s 0 j : Nat) : Int) + ((s j : Nat) : Int) = ((a + smm s 0 (j + 1) : Nat) : Int) := by
        show _ = ((a + (smm s 0 j + s (0 + j)) : Nat) : Int)
        rw [Nat.zero_add]; omega
      rw [e, show ((j : Nat) : Int) + 1 = ((j + 1 : Nat) : Int) by omega]
      exact ih (j + 1) w2 (by omega) (by omega) (FR.tr fr (FR.mo f1 (by simp) (by simp) (by simp) (by simp)))
  rw [lit0q, show (0 : Int) = ((0 : Nat) : Int) from rfl]
  exact gen N 0 u (by omega) (by omega) FR.rf
theorem sz_w (p : PTQ u q n ow kd Fv P B W Y) (hk : k ≤ W) : ∃ f0, ∃ s : Nat → Nat, ∀ j, j < k → SZc (u.2.2.2 (pq q 2)) n ow kd Fv P f0 (u.2.2.2 (pq q 35) (W - 1 - j)) (s j) := SZ_allc (q := fun j => u.2.2.2 (pq q 35) (W - 1 - j)) (fun j hj => HP_szc p.1.2.2 (p.2.2.1.2 _ (by omega)))
theorem mk5 {k : Nat} (hk : k ≤ 200000) : so (mk 5 ((k : Nat) : Int)) = 5 ∧ va (mk 5 ((k : Nat) : Int)) = ((k : Nat) : Int) ∧ vn (mk 5 ((k : Nat) : Int)) = k := by
  have a : so (mk 5 ((k : Nat) : Int)) = 5 := so_mk (by decide) (by decide)
  have b : va (mk 5 ((k : Nat) : Int)) = ((k : Nat) : Int) := va_mk (by omega) (by omega)
  exact ⟨a, b, by unfold vn; rw [b]; exact Int.toNat_natCast k⟩
theorem mk8 {k : Nat} (hk : k ≤ 2000000) : so (mk 8 ((k : Nat) : Int)) = 8 ∧ va (mk 8 ((k : Nat) : Int)) = ((k : Nat) : Int) ∧ vn (mk 8 ((k : Nat) : Int)) = k := by
  have a : so (mk 8 ((k : Nat) : Int)) = 8 := so_mk (by decide) (by decide)
  have b : va (mk 8 ((k : Nat) : Int)) = ((k : Nat) : Int) := va_mk (by omega) (by omega)
  exact ⟨a, b, by unfold vn; rw [b]; exact Int.toNat_natCast k⟩
def CEL (q : Nat) (u w : MS) : Prop := FC q [] [] [] [] [] [] [2] u w ∧ w.1 = u.1 ∧ (∀ k, k ≠ pq q 2 → w.2.2.2 k = u.2.2.2 k) ∧ w.2.2.1 = u.2.2.1
theorem CEL.rf : CEL q u u := ⟨FC.rf, rfl, fun _ _ => rfl, rfl⟩
theorem CEL.put (a : CEL q u w) {y : Nat} {z : Int64} : CEL q u (wj w (pq q 2) y z) := ⟨FC.wj_q a.1 (by omega) (by simp), a.2.1, fun k hk => (if_neg hk).trans (a.2.2.1 k hk), a.2.2.2⟩
theorem CEL.F (a : CEL q u w) (k : Nat) : F w k = F u k := congrArg (fun y => (y k).toInt) a.2.1
theorem use_t {n2 : Nat} {ow2 kd2 : Nat → Nat} (p : PTQ u q n ow kd Fv P B W Y) (a : CEL q u w) (hn : n2 ≤ 500) (g : HPc (w.2.2.2 (pq q 2)) n2 ow2 kd2 Fv P) (gt : ∀ t, GT n ow kd P t → GT n2 ow2 kd2 P t) : FNc q u (wi w (pq q 4) ((n2 : Nat) : Int)) ∧ PTQ (wi w (pq q 4) ((n2 : Nat) : Int)) q n2 ow2 kd2 Fv P B W Y := by
  have f : FC q [] [] [] [4] [] [] [2] u (wi w (pq q 4) ((n2 : Nat) : Int)) := FC.wi_q (FC.mo a.1 (by simp) (by simp) (by simp) (by simp) (by simp) (by simp) (by simp)) (by omega) (by simp)
  exact ⟨FNc.of f (by simp) (by simp) (by simp) (by simp) (by simp) (by simp) (by simp), PTQ_cells p f (by rw [F_wi (by omega) (by omega), if_pos rfl]) hn g gt⟩
theorem CEL.row {y k : Nat} {z : Int64} : (wj w (pq q 2) y z).2.2.2 (pq q 2) k = if k = y then z else w.2.2.2 (pq q 2) k := wj_row
theorem TUP_new {h h2 : Nat → Int64} {s : Nat → Nat} {f0 : Nat} (g : HPc h n ow kd Fv P) (hh : ∀ i, i < n → h2 i = h i) (h8 : h2 n = mk 8 ((k : Nat) : Int)) (hp : ∀ j, j < k → SZc h n ow kd Fv P f0 (h2 (n + 1 + j)) (s (k - 1 - j))) (hb : k + 1 + smm s 0 k ≤ 500) (hn : n ≤ 500) : ∃ ow2 kd2, HPc h2 (n + (k + 1)) ow2 kd2 Fv P ∧ GT (n + (k + 1)) ow2 kd2 P (mk 5 ((n : Nat) : Int)) ∧ ∀ t, GT n ow kd P t → GT (n + (k + 1)) ow2 kd2 P t := by
  obtain ⟨m1, m2, m3⟩ := mk5 (k := n) (by omega)
  obtain ⟨e1, e2, e3⟩ := mk8 (k := k) (by omega)
  have bk : blk h2 (mk 5 ((n : Nat) : Int)) = k + 1 := by unfold blk; rw [if_neg (by omega), if_pos m1, m3, h8, e3]; omega
  have pr : prt (mk 5 ((n : Nat) : Int)) = 1 := by unfold prt; rw [if_neg (by omega), if_pos m1]
  obtain ⟨ow2, kd2, a1, a2, a3, -⟩ := HP_newc g hh (Or.inr (Or.inl m1)) (by omega) m3 bk (fun _ => by rw [h8]; exact ⟨by omega, e1⟩) (fun z => by omega) (fun j h1 h2' => by
    rw [pr] at h1
    have := hp (j - 1) (by omega)
    rw [show n + 1 + (j - 1) = n + j by omega] at this
    exact SZ_gtc this) (Or.inr (fun f c hc => by
    rw [pr] at hc ⊢
    have e : smm c 1 (k + 1 - 1) = smm s 0 k := by
      rw [show k + 1 - 1 = k by omega, ← smm_rev k]
      refine smm_ext k (fun j hj => ?_)
      have z1 := hc (1 + j) (by omega) (by omega)
      have z2 := hp j hj
      rw [show n + 1 + j = n + (1 + j) by omega] at z2
      rw [SZ_func z1 z2, Nat.zero_add]
    omega))
  exact ⟨ow2, kd2, a1, a2, a3⟩
theorem tuple_ok {cnt : Nat} (M : MIc T Fv P PR q u i h m L g x j wb nb cb rk) (hx : x < i) (t9 : F u 1109 = 0) (t8 : F u 1108 = 0) (hf : PHc T u q i x rk ≤ c) (hc : cnt ≤ h) (t2 : T (i + 2) = some (h - cnt + 1, m, L, g, x)) (hN : 3000000 ≤ N) : OK (fun w _ => OPQ T Fv P PR q c w) (hm_Ma_tuple N u q (I ((cnt : Nat) : Int))) := by
  obtain ⟨n, ow, kd, Y, p⟩ := MI_p M
  have mb := MI_b M
  obtain ⟨f0, s, hs⟩ := sz_w (k := cnt) p (by omega)
  have wf := (M.1.2.2.1 _ _ _ _ _ _ M.2.2.2.1.1).2.1
  unfold hm_Ma_tuple hb_Ma_tuple_0
  rw [lit1q, I_add, show ((cnt : Nat) : Int) + 1 = ((cnt + 1 : Nat) : Int) by omega]
  refine ok_bnd.mpr (ok_mono (sizes_ok (N := N) p M.1.2.1 (by omega) (by omega) (by omega) hs (by omega)) (fun w1 r hw1 => ?_))
  obtain ⟨f1, rfl⟩ := hw1
  obtain ⟨M1, ph1, s9, s8⟩ := MI_fr M hx f1
  have p1 := PT_fr (q := q) f1 p
  have hsb : smm s 0 cnt ≤ 1000 * cnt := by
    have hs1 : ∀ j, j < cnt → s j ≤ 1000 := fun j hj => SZ_1000c p.1.2.2 p.1.2.1 (hs j hj)
    have : ∀ j, j ≤ cnt → smm s 0 j ≤ 1000 * j := by
      intro j
      induction j with
      | zero => intro _; exact Nat.le_refl _
      | succ j ih =>
        intro hj
        show smm s 0 j + s (0 + j) ≤ _
        have := ih (by omega)
        have := hs1 (0 + j) (by omega)
        omega
    exact this cnt (Nat.le_refl _)
  rw [I_lit (n := 500)]
  refine k_le ⟨by omega, by omega⟩ ⟨by decide, by decide⟩ (fun hle => ?_) (fun _ => ?_)
  · have hle : ((cnt + 1 + smm s 0 cnt : Nat) : Int) ≤ 500 := hle
    refine ok_bnd.mpr (ok_mono (room_ok (N := N) M1 hx (by rw [s9]; exact t9) (by rw [s8]; exact t8) p1 ⟨by omega, by omega⟩ hN) (fun w2 r hw2 => ?_))
    rcases hw2 with ⟨rfl, e⟩ | ⟨rfl, ⟨M2, ph2, k9, k8⟩, ln2, fm2, -, U, ow2, kd2, p2, hU, sB, sW⟩
    · exact ok_br.mpr ⟨fun _ => ok_some.mpr (Or.inr (Or.inr (Or.inl e))), fun z => absurd z (by decide)⟩
    · refine ok_br.mpr ⟨fun z => absurd z (by decide), fun _ => ?_⟩
      rw [I_lit (n := 8), e_make, bnd_so, I_F (k := pq q 4), p2.1.1]
      refine e_in ⟨by omega, by omega⟩ (by decide) (ok_lt.mpr ?_)
      rw [tnI (n := U) rfl (by omega), wj_e]
      have e35 : w1.2.2.2 (pq q 35) = u.2.2.2 (pq q 35) := f1.2.2.2 _ (by simp; unfold pq; omega)
      have e2 : w1.2.2.2 (pq q 2) = u.2.2.2 (pq q 2) := f1.2.2.2 _ (by simp; unfold pq; omega)
      have sz2 : ∀ j, j < cnt → SZc (w2.2.2.2 (pq q 2)) U ow2 kd2 Fv P f0 (w2.2.2.2 (pq q 35) (wb + h - 1 - j)) (s j) := fun j hj => (sW (wb + h - 1 - j) (by omega)).2.2 f0 (s j) (by rw [e2, e35]; exact hs j hj)
      obtain ⟨l, l1, l2, l3⟩ := p2.2.2.2.2.2.1
      have loop : ∀ (K d : Nat) (w : MS), d ≤ cnt → cnt - d < K → CEL q w2 w → (∀ k, k < U → w.2.2.2 (pq q 2) k = w2.2.2.2 (pq q 2) k) → w.2.2.2 (pq q 2) U = mk 8 ((cnt : Nat) : Int) → (∀ j, j < d → w.2.2.2 (pq q 2) (U + 1 + j) = w2.2.2.2 (pq q 35) (wb + h - 1 - (cnt - 1 - j))) → OK (fun w _ => OPQ T Fv P PR q c w) (hg_Ma_tuple N K w q (I ((cnt : Nat) : Int)) (I ((U : Nat) : Int)) (I ((d : Nat) : Int))) := by
        intro K
        induction K with
        | zero => intro d _ _ hK; omega
        | succ K ih =>
          intro d w hd hK cl c1 c2 c3
          show OK _ (hb_Ma_tuple_57 N (hg_Ma_tuple N K) w q (I ((cnt : Nat) : Int)) (I ((U : Nat) : Int)) (I ((d : Nat) : Int)))
          unfold hb_Ma_tuple_57
          refine k_le ⟨by omega, by omega⟩ ⟨by omega, by omega⟩ (fun hh => ok_lt.mpr ?_) (fun hh => ?_)
          · have ed : d = cnt := by omega
            subst ed
            rw [I_F (k := pq q 4), cl.F, p2.1.1, lit1q, I_add, I_add, show ((U : Nat) : Int) + (((d : Nat) : Int) + 1) = ((U + (d + 1) : Nat) : Int) by omega, wi_e, I_lit (n := 5), e_make, bnd_so]
            obtain ⟨ow3, kd3, g1, g2, g3⟩ := TUP_new (k := d) (s := s) (f0 := f0) (h2 := w.2.2.2 (pq q 2)) p2.1.2.2 c1 c2 (fun j hj => by rw [c3 j hj]; exact sz2 (d - 1 - j) (by omega)) (by omega) (by omega)
            obtain ⟨fm3, p3⟩ := use_t p2 cl (n2 := U + (d + 1)) (by omega) g1 g3
            refine ok_bnd.mpr (ok_mono (answer_t (N := N) (k := d) p3 (LNB_m (LNB_fc ln2 (fun k _ => by rw [cl.2.1])) (by simp) (by omega)) rfl (by omega) (by omega) g2) (fun w5 _ hw5 => ok_lt.mpr (ok_some.mpr ?_)))
            obtain ⟨fm5, p5, ln5⟩ := hw5
            rw [show wb + h - d + 1 = wb + (h - d + 1) by omega] at p5
            rw [I_lit (n := 2)]
            exact fin_t M2 k9 k8 (by omega) hx (FNc.tr fm3 fm5) p5 ln5 t2 (by show _ + (2 : Int) = _; omega) (by omega) (by omega)
          · rw [lit1q, I_sub, I_sub, below_e (k := cnt - 1 - d) (W := wb + h) (l := l) (by rw [cl.F]; exact p2.2.2.1.1) (by rw [cl.F]; exact l1) l2 l3 (by omega) (by omega), bnd_so]
            rw [I_add, I_add]
            refine e_in ⟨by omega, by omega⟩ (by decide) (ok_lt.mpr ?_)
            rw [tnI (n := U + 1 + d) (by omega) (by omega), wj_e, I_add, show ((d : Nat) : Int) + 1 = ((d + 1 : Nat) : Int) by omega]
            refine ih (d + 1) _ (by omega) (by omega) cl.put (fun k hk => ?_) ?_ (fun j hj => ?_)
            · rw [CEL.row, if_neg (by omega)]; exact c1 k hk
            · rw [CEL.row, if_neg (by omega)]; exact c2
            · rw [CEL.row]
              by_cases e : j = d
              · subst e
                rw [if_pos rfl, cl.2.2.1 _ (by unfold pq; omega)]
              · rw [if_neg (by omega)]; exact c3 j (by omega)
      rw [lit0q, show (0 : Int) = ((0 : Nat) : Int) from rfl]
      refine loop N 0 _ (by omega) (by omega) CEL.rf.put (fun k hk => ?_) ?_ (fun j hj => by omega)
      · rw [CEL.row, if_neg (by omega)]
      · rw [CEL.row, if_pos rfl]
  · exact ok_bnd.mpr (ok_mono (ERR_w (N := N) (a := 11) M1 (by rw [s9]; exact t9) (by rw [s8]; exact t8) (by rw [ph1]; exact hf) (by omega)) (fun w _ hw => ok_some.mpr hw))
end
end
section
set_option maxRecDepth 100000
def LRW (h h2 : Nat → Int64) (U d : Nat) (e : Nat → Int64) : Prop := (∀ k, k < U → h2 k = h k) ∧ ∀ j, j < d → h2 (U + 2 * j) = e j ∧ h2 (U + 2 * j + 1) = mk 7 ((U + 2 * (j + 1) : Nat) : Int)
def tix (g : Nat → Int32) (y : Int32) : Nat → Option Nat
  | 0 => none
  | k + 1 => if g k = y then some k else tix g y k
def tval (g : Nat → Int32) (r : Nat → Int64) (y : Int32) (B : Nat) : Int64 := match tix g y B with
  | some k => r k
  | none => 0
section
variable {T : Nat → Option (Nat × Nat × List Nat × Nat × Nat)} {Fv : Int64 → Int64 → Prop} {P : Int64 → Prop} {u v w : MS} {PR N q r n B W Y i h m g x j wb nb cb rk c f i2 h2 m2 k a U d : Nat} {L : List Nat} {ow kd : Nat → Nat} {t rest : Int64} {gi gl ga ki kl ka kj : List Nat} {e : Nat → Int64}
theorem LRW_step {hh : Nat → Int64} {y : Int64} (l : LRW hh (w.2.2.2 (pq q 2)) U d e) (hy : y = e d) : LRW hh ((wj (wj w (pq q 2) (U + 2 * d) y) (pq q 2) (U + 2 * d + 1) (mk 7 ((U + 2 * (d + 1) : Nat) : Int))).2.2.2 (pq q 2)) U (d + 1) e := by
  refine ⟨fun k hk => ?_, fun j hj => ⟨?_, ?_⟩⟩
  · rw [CEL.row, if_neg (by omega), CEL.row, if_neg (by omega)]; exact l.1 k hk
  · rw [CEL.row, if_neg (by omega), CEL.row]
    by_cases z : j = d
    · rw [if_pos (by omega), hy, z]
    · rw [if_neg (by omega)]; exact (l.2 j (by omega)).1
  · rw [CEL.row]
    by_cases z : j = d
    · rw [if_pos (by omega), z]
    · rw [if_neg (by omega), CEL.row, if_neg (by omega)]; exact (l.2 j (by omega)).2
theorem endList_e (h1 : 1 ≤ c) (h2 : U + 2 * c ≤ 512) : hm_Ma_endList N w q (I ((U : Nat) : Int)) (I ((c : Nat) : Int)) rest = some (wi (wj w (pq q 2) (U + 2 * (c - 1) + 1) rest) (pq q 4) ((U + 2 * c : Nat) : Int), ()) := by
  unfold hm_Ma_endList hb_Ma_endList_0 hb_Ma_endList_20
  rw [lit0q, decI (by omega) (by omega) (by decide) (by decide), decide_eq_false (by omega), br_fq, I_lit (n := 2), I_mul, I_add, lit1q, I_sub]
  rw [show ((U : Nat) : Int) + (OfNat.ofNat 2 : Int) * ((c : Nat) : Int) = ((U + 2 * c : Nat) : Int) by show _ + (2 : Int) * _ = _; omega]
  rw [(I_inb (by omega) (by omega)).mpr ⟨by omega, by omega⟩, ck_t, tnI (n := U + 2 * (c - 1) + 1) (by omega) (by omega)]
  rfl
theorem endList_0 : hm_Ma_endList N w q (I ((U : Nat) : Int)) (I ((0 : Nat) : Int)) rest = some (wi w (pq q 4) ((U : Nat) : Int), ()) := by
  unfold hm_Ma_endList hb_Ma_endList_0 hb_Ma_endList_20
  rw [lit0q, decI (by decide) (by decide) (by decide) (by decide), decide_eq_true (by decide), br_tq, I_lit (n := 2), I_mul, I_add]
  rw [show ((U : Nat) : Int) + (OfNat.ofNat 2 : Int) * ((0 : Nat) : Int) = ((U : Nat) : Int) by show _ + (2 : Int) * 0 = _; omega]
  rfl
theorem LST_fin {s : Nat → Nat} {f0 sr : Nat} (p : PTQ u q U ow kd Fv P B W Y) (cl : CEL q u w) (l : LRW (u.2.2.2 (pq q 2)) (w.2.2.2 (pq q 2)) U c e) (hc : 1 ≤ c) (hs : ∀ i, i < c → SZc (u.2.2.2 (pq q 2)) U ow kd Fv P f0 (e i) (s i)) (zr : SZc (u.2.2.2 (pq q 2)) U ow kd Fv P f0 rest sr) (hb : U + 2 * c ≤ 500) (hsum : 2 * c + smm s 0 c + sr ≤ 500) :
    FNc q u (wi (wj w (pq q 2) (U + 2 * (c - 1) + 1) rest) (pq q 4) ((U + 2 * c : Nat) : Int)) ∧ ∃ ow2 kd2, PTQ (wi (wj w (pq q 2) (U + 2 * (c - 1) + 1) rest) (pq q 4) ((U + 2 * c : Nat) : Int)) q (U + 2 * c) ow2 kd2 Fv P B W Y ∧ GT (U + 2 * c) ow2 kd2 P (mk 7 ((U : Nat) : Int)) ∧ ∀ t, GT U ow kd P t → GT (U + 2 * c) ow2 kd2 P t := by
  have row : ∀ k, (wj w (pq q 2) (U + 2 * (c - 1) + 1) rest).2.2.2 (pq q 2) k = if k = U + 2 * (c - 1) + 1 then rest else w.2.2.2 (pq q 2) k := fun k => CEL.row
  obtain ⟨ow2, kd2, g1, g2, g3⟩ := LST_new (h2 := (wj w (pq q 2) (U + 2 * (c - 1) + 1) rest).2.2.2 (pq q 2)) (s := s) p.1.2.2 hc (fun k hk => by rw [row, if_neg (by omega)]; exact l.1 k hk) (fun k hk => by rw [row, if_neg (by omega), (l.2 k hk).1]; exact hs k hk) zr (fun k hk => by rw [row, if_neg (by omega)]; exact (l.2 k (by omega)).2) (by rw [row, if_pos rfl]) (by omega) hsum
  obtain ⟨a, b⟩ := use_t p cl.put (n2 := U + 2 * c) (by omega) g1 g3
  exact ⟨a, ow2, kd2, b, g2, g3⟩
theorem list_ok {cnt : Nat} (M : MIc T Fv P PR q u i h m L g x j wb nb cb rk) (hx : x < i) (t9 : F u 1109 = 0) (t8 : F u 1108 = 0) (hf : PHc T u q i x rk ≤ c) (h1 : 1 ≤ cnt) (hc : cnt + 1 ≤ h) (t2 : T (i + 2) = some (h - cnt, m, L, g, x)) (hN : 3000000 ≤ N) : OK (fun w _ => OPQ T Fv P PR q c w) (hm_Ma_list N u q (I ((cnt : Nat) : Int))) := by
  obtain ⟨n, ow, kd, Y, p⟩ := MI_p M
  have mb := MI_b M
  obtain ⟨f0, s, hs⟩ := sz_w (k := cnt + 1) p (by omega)
  have wf := (M.1.2.2.1 _ _ _ _ _ _ M.2.2.2.1.1).2.1
  unfold hm_Ma_list hb_Ma_list_0
  rw [lit1q, I_add, I_lit (n := 2), I_mul, show ((cnt : Nat) : Int) + 1 = ((cnt + 1 : Nat) : Int) by omega, show (OfNat.ofNat 2 : Int) * ((cnt : Nat) : Int) = ((2 * cnt : Nat) : Int) by show (2 : Int) * _ = _; omega]
  refine ok_bnd.mpr (ok_mono (sizes_ok (N := N) p M.1.2.1 (by omega) (by omega) (by omega) hs (by omega)) (fun w1 r hw1 => ?_))
  obtain ⟨f1, rfl⟩ := hw1
  obtain ⟨M1, ph1, s9, s8⟩ := MI_fr M hx f1
  have p1 := PT_fr (q := q) f1 p
  have hsb : smm s 0 (cnt + 1) ≤ 1000 * (cnt + 1) := by
    have hs1 : ∀ j, j < cnt + 1 → s j ≤ 1000 := fun j hj => SZ_1000c p.1.2.2 p.1.2.1 (hs j hj)
    have : ∀ j, j ≤ cnt + 1 → smm s 0 j ≤ 1000 * j := by
      intro j
      induction j with
      | zero => intro _; exact Nat.le_refl _
      | succ j ih =>
        intro hj
        show smm s 0 j + s (0 + j) ≤ _
        have := ih (by omega)
        have := hs1 (0 + j) (by omega)
        omega
    exact this _ (Nat.le_refl _)
  rw [I_lit (n := 500)]
  refine k_le ⟨by omega, by omega⟩ ⟨by decide, by decide⟩ (fun hle => ?_) (fun _ => ?_)
  · have hle : ((2 * cnt + smm s 0 (cnt + 1) : Nat) : Int) ≤ 500 := hle
    refine ok_bnd.mpr (ok_mono (room_ok (N := N) M1 hx (by rw [s9]; exact t9) (by rw [s8]; exact t8) p1 ⟨by omega, by omega⟩ hN) (fun w2 r hw2 => ?_))
    rcases hw2 with ⟨rfl, e⟩ | ⟨rfl, ⟨M2, ph2, k9, k8⟩, ln2, fm2, -, U, ow2, kd2, p2, hU, sB, sW⟩
    · exact ok_br.mpr ⟨fun _ => ok_some.mpr (Or.inr (Or.inr (Or.inl e))), fun z => absurd z (by decide)⟩
    · refine ok_br.mpr ⟨fun z => absurd z (by decide), fun _ => ?_⟩
      rw [I_F (k := pq q 4), p2.1.1]
      have e35 : w1.2.2.2 (pq q 35) = u.2.2.2 (pq q 35) := f1.2.2.2 _ (by simp; unfold pq; omega)
      have e2 : w1.2.2.2 (pq q 2) = u.2.2.2 (pq q 2) := f1.2.2.2 _ (by simp; unfold pq; omega)
      have sz2 : ∀ j, j < cnt + 1 → SZc (w2.2.2.2 (pq q 2)) U ow2 kd2 Fv P f0 (w2.2.2.2 (pq q 35) (wb + h - 1 - j)) (s j) := fun j hj => (sW (wb + h - 1 - j) (by omega)).2.2 f0 (s j) (by rw [e2, e35]; exact hs j hj)
      obtain ⟨l, l1, l2, l3⟩ := p2.2.2.2.2.2.1
      have loop : ∀ (K d : Nat) (w : MS), d ≤ cnt → cnt - d < K → CEL q w2 w → LRW (w2.2.2.2 (pq q 2)) (w.2.2.2 (pq q 2)) U d (fun j => w2.2.2.2 (pq q 35) (wb + h - 1 - (cnt - j))) → OK (fun w _ => OPQ T Fv P PR q c w) (hg_Ma_list N K w q (I ((cnt : Nat) : Int)) (I ((U : Nat) : Int)) (I ((d : Nat) : Int))) := by
        intro K
        induction K with
        | zero => intro d _ _ hK; omega
        | succ K ih =>
          intro d w hd hK cl lr
          show OK _ (hb_Ma_list_44 N (hg_Ma_list N K) w q (I ((cnt : Nat) : Int)) (I ((U : Nat) : Int)) (I ((d : Nat) : Int)))
          unfold hb_Ma_list_44
          have bel : ∀ {y : Int} {k : Nat}, y = ((k : Nat) : Int) → k < wb + h → hm_Fr_below N w q (I y) = some (w, w2.2.2.2 (pq q 35) (wb + h - 1 - k)) := fun hy hk => by
            rw [below_e (W := wb + h) (l := l) (by rw [cl.F]; exact p2.2.2.1.1) (by rw [cl.F]; exact l1) l2 l3 hy hk, cl.2.2.1 _ (by unfold pq; omega)]
          refine k_le ⟨by omega, by omega⟩ ⟨by omega, by omega⟩ (fun hh => ?_) (fun hh => ?_)
          · have ed : d = cnt := by omega
            subst ed
            rw [lit0q, bel (y := 0) (k := 0) rfl (by omega), bnd_so, endList_e h1 (by omega), bnd_so, I_lit (n := 7), e_make, bnd_so]
            have ss := smm_first (c := s) (a := 0) d
            have sr := smm_rev (c := fun j => s (1 + j)) d
            have se : smm (fun j => s (d - j)) 0 d = smm s (0 + 1) d := by
              rw [smm_ext (c := s) (d := fun j => s (1 + j)) (a := 0 + 1) (b := 0) d (fun j _ => by simp), ← sr]
              refine smm_ext d (fun j hj => ?_)
              show s (d - (0 + j)) = s (1 + (d - 1 - (0 + j)))
              rw [show d - (0 + j) = 1 + (d - 1 - (0 + j)) by omega]
            obtain ⟨fm3, ow3, kd3, p3, g2, g3⟩ := LST_fin (s := fun j => s (d - j)) (f0 := f0) (sr := s 0) (rest := w2.2.2.2 (pq q 35) (wb + h - 1 - 0)) p2 cl lr h1 (fun k hk => sz2 (d - k) (by omega)) (sz2 0 (by omega)) (by omega) (by rw [se]; omega)
            rw [lit1q, I_add]
            refine ok_bnd.mpr (ok_mono (answer_t (N := N) (k := d + 1) p3 (LNB_m (LNB_fc ln2 (fun k _ => by show w.1 _ = _; rw [cl.2.1])) (by simp) (by omega)) (by omega) (by omega) (by omega) g2) (fun w5 _ hw5 => ok_lt.mpr (ok_some.mpr ?_)))
            obtain ⟨fm5, p5, ln5⟩ := hw5
            rw [show wb + h - (d + 1) + 1 = wb + (h - d) by omega] at p5
            rw [I_lit (n := 2)]
            exact fin_t M2 k9 k8 (by omega) hx (FNc.tr fm3 fm5) p5 ln5 t2 (by show _ + (2 : Int) = _; omega) (by omega) (by omega)
          · rw [I_sub, bel (k := cnt - d) (by omega) (by omega), bnd_so, I_lit (n := 2), I_mul, I_add]
            rw [show ((U : Nat) : Int) + (OfNat.ofNat 2 : Int) * ((d : Nat) : Int) = ((U + 2 * d : Nat) : Int) by show _ + (2 : Int) * _ = _; omega]
            refine e_in ⟨by omega, by omega⟩ (by decide) (ok_lt.mpr ?_)
            rw [tnI (n := U + 2 * d) rfl (by omega), wj_e, I_add, I_lit (n := 7), e_make, bnd_so, lit1q, I_add]
            refine e_in ⟨by omega, by omega⟩ (by decide) (ok_lt.mpr ?_)
            rw [tnI (n := U + 2 * d + 1) (by omega) (by omega), wj_e, I_add, show ((d : Nat) : Int) + 1 = ((d + 1 : Nat) : Int) by omega, show ((U + 2 * d : Nat) : Int) + (OfNat.ofNat 2 : Int) = ((U + 2 * (d + 1) : Nat) : Int) by show _ + (2 : Int) = _; omega]
            exact ih (d + 1) _ (by omega) (by omega) cl.put.put (LRW_step lr rfl)
      rw [lit0q, show (0 : Int) = ((0 : Nat) : Int) from rfl]
      exact loop N 0 _ (by omega) (by omega) CEL.rf ⟨fun _ _ => rfl, fun j hj => by omega⟩
  · exact ok_bnd.mpr (ok_mono (ERR_w (N := N) (a := 11) M1 (by rw [s9]; exact t9) (by rw [s8]; exact t8) (by rw [ph1]; exact hf) (by omega)) (fun w _ hw => ok_some.mpr hw))
theorem GT_0c (c : CTX Fv P u) {y : Int} (hy : RG y) : GT n ow kd P (mk 0 y) := GT_nu c (Or.inl rfl) hy
theorem GT_6 (c : CTX Fv P u) : GT n ow kd P (mk 6 0) := Or.inl ⟨nh_so (by rw [so_mk (by decide) (by decide)]; decide), c.2.2.2.2.2.2⟩
theorem string_ok {cnt : Nat} (M : MIc T Fv P PR q u i h m L g x j wb nb cb rk) (hx : x < i) (t9 : F u 1109 = 0) (t8 : F u 1108 = 0) (hf : PHc T u q i x rk ≤ c) (hc : cnt ≤ 40) (t2 : T (i + 2 + cnt) = some (h + 1, m, L, g, x)) (hN : 3000000 ≤ N) : OK (fun w _ => OPQ T Fv P PR q c w) (hm_Ma_string N u q (I ((cnt : Nat) : Int))) := by
  obtain ⟨n, ow, kd, Y, p⟩ := MI_p M
  have mb := MI_b M
  have w2b := (M.1.2.2.1 _ _ _ _ _ _ t2).1
  have wf := (M.1.2.2.1 _ _ _ _ _ _ t2).2.1
  unfold hm_Ma_string hb_Ma_string_0
  rw [I_lit (n := 2), I_mul, show (OfNat.ofNat 2 : Int) * ((cnt : Nat) : Int) = ((2 * cnt : Nat) : Int) by show (2 : Int) * _ = _; omega]
  refine ok_bnd.mpr (ok_mono (room_ok (N := N) M hx t9 t8 p ⟨by omega, by omega⟩ hN) (fun w2 r hw2 => ?_))
  rcases hw2 with ⟨rfl, e⟩ | ⟨rfl, ⟨M2, ph2, k9, k8⟩, ln2, fm2, -, U, ow2, kd2, p2, hU, sB, sW⟩
  · exact ok_br.mpr ⟨fun _ => ok_some.mpr (Or.inr (Or.inr (Or.inl e))), fun z => absurd z (by decide)⟩
  · refine ok_br.mpr ⟨fun z => absurd z (by decide), fun _ => ?_⟩
    rw [I_F (k := pq q 4), p2.1.1]
    have cx := M2.1.2.1
    have fin : ∀ (G : MS → Nat → Int32 → Int32 → Int32 → Option (MS × Unit)) (w : MS) (n3 : Nat) (ow3 kd3 : Nat → Nat) (y : Int64), FNc q w2 w → PTQ w q n3 ow3 kd3 Fv P (nb + m) (wb + h) Y → LNB w q → GT n3 ow3 kd3 P y → OK (fun w _ => OPQ T Fv P PR q c w) (hb_Ma_string_126 N G w q (I ((cnt : Nat) : Int)) q y) := by
      intro G w n3 ow3 kd3 y fm3 p3 ln3 gy
      unfold hb_Ma_string_126
      refine ok_bnd.mpr (ok_mono (push_t (N := N) p3 ln3 (by omega) gy) (fun w5 _ hw5 => ok_lt.mpr (ok_some.mpr ?_)))
      obtain ⟨fm5, p5, ln5, -⟩ := hw5
      rw [show wb + h + 1 = wb + (h + 1) by omega] at p5
      rw [I_lit (n := 2), I_add]
      exact fin_t M2 k9 k8 (by omega) hx (FNc.tr fm3 fm5) p5 ln5 t2 (by show _ + ((2 : Int) + _) = _; omega) (by omega) (by omega)
    have loop : ∀ (K d : Nat) (w : MS), d ≤ cnt → cnt - d < K → CEL q w2 w → (∃ e, (∀ k, k < cnt → ∃ y, RG y ∧ e k = mk 0 y) ∧ LRW (w2.2.2.2 (pq q 2)) (w.2.2.2 (pq q 2)) U d e) → OK (fun w _ => OPQ T Fv P PR q c w) (hg_Ma_string N K w q (I ((cnt : Nat) : Int)) (I ((U : Nat) : Int)) (I ((d : Nat) : Int))) := by
      intro K
      induction K with
      | zero => intro d _ _ hK; omega
      | succ K ih =>
        intro d w hd hK cl ⟨e, he, lr⟩
        show OK _ (hb_Ma_string_21 N (hg_Ma_string N K) w q (I ((cnt : Nat) : Int)) (I ((U : Nat) : Int)) (I ((d : Nat) : Int)))
        unfold hb_Ma_string_21
        refine k_le ⟨by omega, by omega⟩ ⟨by omega, by omega⟩ (fun hh => ?_) (fun hh => ?_)
        · have ed : d = cnt := by omega
          subst ed
          rw [I_lit (n := 6), lit0q, e_make, bnd_so]
          by_cases z : d = 0
          · subst z
            rw [endList_0, bnd_so]
            refine k_eq ⟨by decide, by decide⟩ ⟨by decide, by decide⟩ (fun _ => ?_) (fun z => absurd rfl z)
            rw [e_make, bnd_so]
            obtain ⟨fm3, p3⟩ := use_t p2 cl (n2 := U) (by omega) (by
              have : ∀ k, k < U → w.2.2.2 (pq q 2) k = w2.2.2.2 (pq q 2) k := lr.1
              have hp := HP_holec (h2 := w.2.2.2 (pq q 2)) 0 p2.1.2.2 this
              exact hp) (fun t gt => GT_hole 0 gt)
            exact fin _ _ _ _ _ _ fm3 p3 (LNB_m (LNB_fc ln2 (fun k _ => by rw [cl.2.1])) (by simp) (by omega)) (GT_6 cx)
          · rw [endList_e (by omega) (by omega), bnd_so]
            refine k_eq ⟨by omega, by omega⟩ ⟨by decide, by decide⟩ (fun y => absurd y (by omega)) (fun _ => ?_)
            rw [I_lit (n := 7), e_make, bnd_so]
            obtain ⟨fm3, ow3, kd3, p3, g2, g3⟩ := LST_fin (s := fun _ => 0) (f0 := 1) (sr := 0) (rest := mk 6 0) p2 cl lr (by omega) (fun k hk => by
              obtain ⟨y, y1, y2⟩ := he k hk
              rw [y2]
              exact Or.inl ⟨nh_so (by rw [so_mk (by decide) (by decide)]; decide), (cx.2.2.2.2.1 y y1).1, rfl⟩) (Or.inl ⟨nh_so (by rw [so_mk (by decide) (by decide)]; decide), cx.2.2.2.2.2.2, rfl⟩) (by omega) (by
              have : ∀ k, smm (fun _ => 0) 0 k = 0 := by
                intro k
                induction k with
                | zero => rfl
                | succ k ih => show smm (fun _ => 0) 0 k + 0 = 0; rw [ih]
              rw [this]; omega)
            exact fin _ _ _ _ _ _ fm3 p3 (LNB_m (LNB_fc ln2 (fun k _ => by show w.1 _ = _; rw [cl.2.1])) (by simp) (by omega)) g2
        · obtain ⟨r, hr⟩ := Co_any (N := N) (u := w) ((w.1 1105) + 2 + I ((d : Nat) : Int))
          rw [hr, bnd_so, lit0q, I_of r, e_make, bnd_so, I_lit (n := 2), I_mul, I_add]
          rw [show ((U : Nat) : Int) + (OfNat.ofNat 2 : Int) * ((d : Nat) : Int) = ((U + 2 * d : Nat) : Int) by show _ + (2 : Int) * _ = _; omega]
          refine e_in ⟨by omega, by omega⟩ (by decide) (ok_lt.mpr ?_)
          rw [tnI (n := U + 2 * d) rfl (by omega), wj_e, I_add, I_lit (n := 7), e_make, bnd_so, lit1q, I_add]
          refine e_in ⟨by omega, by omega⟩ (by decide) (ok_lt.mpr ?_)
          rw [tnI (n := U + 2 * d + 1) (by omega) (by omega), wj_e, I_add, show ((d : Nat) : Int) + 1 = ((d + 1 : Nat) : Int) by omega, show ((U + 2 * d : Nat) : Int) + (OfNat.ofNat 2 : Int) = ((U + 2 * (d + 1) : Nat) : Int) by show _ + (2 : Int) = _; omega]
          refine ih (d + 1) _ (by omega) (by omega) cl.put.put ⟨fun k => if k = d then mk 0 r.toInt else e k, fun k hk => ?_, LRW_step ⟨lr.1, fun j hj => ⟨(lr.2 j hj).1.trans (if_neg (by omega)).symm, (lr.2 j hj).2⟩⟩ (if_pos rfl).symm⟩
          by_cases z : k = d
          · exact ⟨r.toInt, ti_rng r, if_pos z⟩
          · obtain ⟨y, y1, y2⟩ := he k hk
            exact ⟨y, y1, (if_neg z).trans y2⟩
    rw [lit0q, show (0 : Int) = ((0 : Nat) : Int) from rfl]
    exact loop N 0 _ (by omega) (by omega) CEL.rf ⟨fun _ => mk 0 0, fun k _ => ⟨0, ⟨by decide, by decide⟩, rfl⟩, fun _ _ => rfl, fun j hj => by omega⟩
end
end
section
set_option maxRecDepth 100000
section
variable {T : Nat → Option (Nat × Nat × List Nat × Nat × Nat)} {Fv : Int64 → Int64 → Prop} {P : Int64 → Prop} {u v w : MS} {PR N q r n B W Y i h m g x j wb nb cb rk c f i2 h2 m2 k a U d : Nat} {L : List Nat} {ow kd : Nat → Nat} {t rest : Int64} {gi gl ga ki kl ka kj : List Nat} {e : Nat → Int64}
theorem termOf_e {y : Int32} (hB : F u (pq q 24) = ((B : Nat) : Int)) (ln : LNB u q) (hl : ((B : Nat) : Int) ≤ F u (pq q 43)) (hN : 5000 ≤ N) : hm_Fr_termOf N u q y = some (u, tval (u.2.2.1 (pq q 32)) (u.2.2.2 (pq q 33)) y B) := by
  obtain ⟨l, l1, l1b, l2, l3⟩ := LNB_43 ln
  unfold hm_Fr_termOf hb_Fr_termOf_0
  have gen : ∀ (M i : Nat), i ≤ B → i < M → hg_Fr_termOf N M u q y (I ((i : Nat) - 1)) = some (u, tval (u.2.2.1 (pq q 32)) (u.2.2.2 (pq q 33)) y i) := by
    intro M
    induction M with
    | zero => intro i _ h; omega
    | succ M ih =>
      intro i hi hM
      show hb_Fr_termOf_7 N (hg_Fr_termOf N M) u q y (I ((i : Nat) - 1)) = _
      unfold hb_Fr_termOf_7
      rw [lit0q, decL (by omega) (by omega) (by decide) (by decide)]
      cases i with
      | zero => rw [decide_eq_true (by decide), br_tq]; rfl
      | succ i =>
        rw [decide_eq_false (by omega), br_fq, lnQ_e l1, lnQ_e l1b, (I_inb (by omega) (by omega)).mpr ⟨by omega, by omega⟩, ck_t, tnI (n := i) (by omega) (by omega)]
        unfold tval tix
        by_cases z : u.2.2.1 (pq q 32) i = y
        · rw [decide_eq_true z, br_tq, ck_t, if_pos z]
        · rw [decide_eq_false z, br_fq, if_neg z, m1I, I_add, show ((i + 1 : Nat) : Int) - 1 + -1 = ((i : Nat) : Int) - 1 by omega]
          exact ih i (by omega) (by omega)
  rw [I_F (k := pq q 24), hB, lit1q, I_sub]
  exact gen N B (by omega) (by omega)
theorem tix_lt {y : Int32} {g : Nat → Int32} : ∀ {B k : Nat}, tix g y B = some k → k < B
  | 0, k, z => by unfold tix at z; cases z
  | B + 1, k, z => by
    unfold tix at z
    by_cases e : g B = y
    · rw [if_pos e] at z; cases z; omega
    · rw [if_neg e] at z
      have := tix_lt z
      omega
theorem mk00 : (0 : Int64) = mk 0 0 := by decide
theorem tval_gt {y : Int32} {g : Nat → Int32} (p : PTQ u q n ow kd Fv P B W Y) (cx : CTX Fv P u) : GT n ow kd P (tval g (u.2.2.2 (pq q 33)) y B) := by
  unfold tval
  cases e : tix g y B with
  | none => show GT n ow kd P 0; rw [mk00]; exact GT_0c cx ⟨by decide, by decide⟩
  | some k => exact p.2.1.2 k (tix_lt e)
theorem tval_sml {y : Int32} {g : Nat → Int32} {h h2 r r2 : Nat → Int64} {U : Nat} {ow2 kd2 : Nat → Nat} (cx : CTX Fv P u) (s : ∀ i, i < B → SML h n ow kd h2 U ow2 kd2 Fv P (r i) (r2 i)) {f s0 : Nat} (z : SZc h n ow kd Fv P f (tval g r y B) s0) : SZc h2 U ow2 kd2 Fv P f (tval g r2 y B) s0 := by
  unfold tval at z ⊢
  cases e : tix g y B with
  | none =>
    rw [e] at z
    have z : SZc h n ow kd Fv P f 0 s0 := z
    show SZc h2 U ow2 kd2 Fv P f 0 s0
    cases f with
    | zero => exact z.elim
    | succ f =>
      rcases z with z | ⟨z, -⟩
      · exact Or.inl z
      · exact absurd z (by rw [mk00]; exact nh_so (by rw [so_mk (by decide) (by decide)]; decide))
  | some k =>
    rw [e] at z
    exact (s k (tix_lt e)).2.2 f s0 z
theorem mk3 {k : Nat} (hk : k ≤ 200000) : so (mk 3 ((k : Nat) : Int)) = 3 ∧ va (mk 3 ((k : Nat) : Int)) = ((k : Nat) : Int) ∧ vn (mk 3 ((k : Nat) : Int)) = k := by
  have a : so (mk 3 ((k : Nat) : Int)) = 3 := so_mk (by decide) (by decide)
  have b : va (mk 3 ((k : Nat) : Int)) = ((k : Nat) : Int) := va_mk (by omega) (by omega)
  exact ⟨a, b, by unfold vn; rw [b]; exact Int.toNat_natCast k⟩
theorem FUN_new {h h2 : Nat → Int64} {s : Nat → Nat} {f0 : Nat} (g : HPc h n ow kd Fv P) (hh : ∀ i, i < n → h2 i = h i) (hF : Fv (h2 n) (h2 (n + 1))) (h8 : h2 (n + 1) = mk 8 ((k : Nat) : Int)) (hp : ∀ j, j < k → SZc h n ow kd Fv P f0 (h2 (n + 2 + j)) (s j)) (hb : k + 2 + smm s 0 k ≤ 500) (hn : n ≤ 500) : ∃ ow2 kd2, HPc h2 (n + (k + 2)) ow2 kd2 Fv P ∧ GT (n + (k + 2)) ow2 kd2 P (mk 3 ((n : Nat) : Int)) ∧ ∀ t, GT n ow kd P t → GT (n + (k + 2)) ow2 kd2 P t := by
  obtain ⟨m1, m2, m3⟩ := mk3 (k := n) (by omega)
  obtain ⟨e1, e2, e3⟩ := mk8 (k := k) (by omega)
  have bk : blk h2 (mk 3 ((n : Nat) : Int)) = k + 2 := by unfold blk; rw [if_neg (by omega), if_neg (by omega), if_pos m1, m3, h8, e3]; omega
  have pr : prt (mk 3 ((n : Nat) : Int)) = 2 := by unfold prt; rw [if_neg (by omega), if_neg (by omega)]
  obtain ⟨ow2, kd2, a1, a2, a3, -⟩ := HP_newc g hh (Or.inl m1) (by omega) m3 bk (fun z => by omega) (fun _ => ⟨by rw [h8]; omega, hF⟩) (fun j h1 h2' => by
    rw [pr] at h1
    have := hp (j - 2) (by omega)
    rw [show n + 2 + (j - 2) = n + j by omega] at this
    exact SZ_gtc this) (Or.inr (fun f c hc => by
    rw [pr] at hc ⊢
    have e : smm c 2 (k + 2 - 2) = smm s 0 k := by
      rw [show k + 2 - 2 = k by omega]
      refine smm_ext k (fun j hj => ?_)
      have z1 := hc (2 + j) (by omega) (by omega)
      have z2 := hp j hj
      rw [show n + 2 + j = n + (2 + j) by omega] at z2
      rw [SZ_func z1 z2, Nat.zero_add]
    omega))
  exact ⟨ow2, kd2, a1, a2, a3⟩
theorem PTQ_43 (p : PTQ u q n ow kd Fv P B W Y) : ((B : Nat) : Int) ≤ F u (pq q 43) := by
  obtain ⟨-, -, -, -, ⟨l, a1, a2, -⟩, -⟩ := p
  omega
theorem fun_ok2 {pl held : Nat} (M : MIc T Fv P PR q u i h m L g x j wb nb cb rk) (hx : x < i) (t9 : F u 1109 = 0) (t8 : F u 1108 = 0) (hf : PHc T u q i x rk ≤ c) (hF : Fv (mk 8 ((pl : Nat) : Int)) (mk 8 ((held : Nat) : Int))) (e2 : A u 23 (i + 2) = ((held : Nat) : Int)) (hc : held ≤ 40) (t2 : T (i + 3 + held) = some (h + 1, m, L, g, x)) (hN : 3000000 ≤ N) : OK (fun w _ => OPQ T Fv P PR q c w) (hm_Ma_fun N u q (I ((pl : Nat) : Int))) := by
  obtain ⟨n, ow, kd, Y, p⟩ := MI_p M
  have mb := MI_b M
  have w2b := (M.1.2.2.1 _ _ _ _ _ _ t2).1
  have wf := (M.1.2.2.1 _ _ _ _ _ _ t2).2.1
  have at0 := M.2.2.2.1.2
  have ln := MI_ln M
  obtain ⟨f0, s, hs⟩ : ∃ f0, ∃ s : Nat → Nat, ∀ j, j < held → SZc (u.2.2.2 (pq q 2)) n ow kd Fv P f0 (tval (u.2.2.1 (pq q 32)) (u.2.2.2 (pq q 33)) (I (A u 23 (i + 3 + j))) (nb + m)) (s j) := SZ_allc (q := fun j => tval (u.2.2.1 (pq q 32)) (u.2.2.2 (pq q 33)) (I (A u 23 (i + 3 + j))) (nb + m)) (fun j hj => HP_szc p.1.2.2 (tval_gt p M.1.2.1))
  have hs1 : ∀ j, j < held → s j ≤ 1000 := fun j hj => SZ_1000c p.1.2.2 p.1.2.1 (hs j hj)
  have hsb : ∀ j, j ≤ held → smm s 0 j ≤ 1000 * j := by
    intro j
    induction j with
    | zero => intro _; exact Nat.le_refl _
    | succ j ih =>
      intro hj
      show smm s 0 j + s (0 + j) ≤ _
      have := ih (by omega)
      have := hs1 (0 + j) (by omega)
      omega
  unfold hm_Ma_fun hb_Ma_fun_0
  rw [I_F (k := 1105), at0, I_lit (n := 2), I_add, Co_e (k := i + 2) (by show _ + (2 : Int) = _; omega) (by omega), bnd_so, e2, I_add, show ((held : Nat) : Int) + (OfNat.ofNat 2 : Int) = ((held + 2 : Nat) : Int) by show _ + (2 : Int) = _; omega]
  have loop2 : ∀ (w2 : MS) (U : Nat) (ow2 kd2 : Nat → Nat), MIc T Fv P PR q w2 i h m L g x j wb nb cb rk → PHc T w2 q i x rk ≤ c → F w2 1109 = 0 → F w2 1108 = 0 → LNB w2 q → PTQ w2 q U ow2 kd2 Fv P (nb + m) (wb + h) Y → U + (held + 2) ≤ 500 → held + 2 + smm s 0 held ≤ 500 → (∀ k, A w2 23 k = A u 23 k) → (∀ j, j < held → SZc (w2.2.2.2 (pq q 2)) U ow2 kd2 Fv P f0 (tval (w2.2.2.1 (pq q 32)) (w2.2.2.2 (pq q 33)) (I (A u 23 (i + 3 + j))) (nb + m)) (s j)) → ∀ (K d : Nat) (w : MS), d ≤ held → held - d < K → CEL q w2 w → (∀ k, k < U → w.2.2.2 (pq q 2) k = w2.2.2.2 (pq q 2) k) → w.2.2.2 (pq q 2) U = mk 8 ((pl : Nat) : Int) → w.2.2.2 (pq q 2) (U + 1) = mk 8 ((held : Nat) : Int) → (∀ j, j < d → w.2.2.2 (pq q 2) (U + 2 + j) = tval (w2.2.2.1 (pq q 32)) (w2.2.2.2 (pq q 33)) (I (A u 23 (i + 3 + j))) (nb + m)) → OK (fun w _ => OPQ T Fv P PR q c w) ((hg_Ma_fun N K).2 w q (I ((held : Nat) : Int)) (I ((U : Nat) : Int)) (I ((d : Nat) : Int))) := by
    intro w2 U ow2 kd2 M2 ph2 k9 k8 ln2 p2 hU hsum hA sz2 K
    induction K with
    | zero => intro d _ _ hK; omega
    | succ K ih =>
      intro d w hd hK cl c1 c2 c2b c3
      show OK _ (hb_Ma_fun_144 N (hg_Ma_fun N K) w q (I ((held : Nat) : Int)) (I ((U : Nat) : Int)) (I ((d : Nat) : Int)))
      unfold hb_Ma_fun_144
      have lnw : LNB w q := LNB_fc ln2 (fun k _ => by rw [cl.2.1])
      refine k_le ⟨by omega, by omega⟩ ⟨by omega, by omega⟩ (fun hh => ok_lt.mpr ?_) (fun hh => ?_)
      · have ed : d = held := by omega
        subst ed
        rw [I_F (k := pq q 4), cl.F, p2.1.1, I_lit (n := 2), I_add, I_add, show ((U : Nat) : Int) + (((d : Nat) : Int) + (OfNat.ofNat 2 : Int)) = ((U + (d + 2) : Nat) : Int) by show _ + (_ + (2 : Int)) = _; omega, wi_e, I_lit (n := 3), e_make, bnd_so]
        obtain ⟨ow3, kd3, g1, g2, g3⟩ := FUN_new (k := d) (s := s) (f0 := f0) (h2 := w.2.2.2 (pq q 2)) p2.1.2.2 c1 (by rw [c2, c2b]; exact hF) c2b (fun j hj => by rw [c3 j hj]; exact sz2 j hj) hsum (by omega)
        obtain ⟨fm3, p3⟩ := use_t p2 cl (n2 := U + (d + 2)) (by omega) g1 g3
        refine ok_bnd.mpr (ok_mono (push_t (N := N) p3 (LNB_m lnw (by simp) (by omega)) (by omega) g2) (fun w5 _ hw5 => ok_lt.mpr (ok_some.mpr ?_)))
        obtain ⟨fm5, p5, ln5, -⟩ := hw5
        rw [show wb + h + 1 = wb + (h + 1) by omega] at p5
        rw [I_add]
        exact fin_t M2 k9 k8 ph2 hx (FNc.tr fm3 fm5) p5 ln5 t2 (by show _ + ((3 : Int) + _) = _; omega) (by omega) (by omega)
      · rw [I_F (k := 1105), cl.F, M2.2.2.2.1.2, I_lit (n := 3), I_add, I_add, Co_e (k := i + 3 + d) (by show _ + (3 : Int) + _ = _; omega) (by omega), bnd_so, show A w 23 (i + 3 + d) = A u 23 (i + 3 + d) by show (w.2.2.1 23 _).toInt = _; rw [cl.2.2.2]; exact hA _]
        rw [termOf_e (B := nb + m) (by rw [cl.F]; exact p2.2.1.1) lnw (by rw [cl.F]; exact PTQ_43 p2) (by omega), bnd_so, cl.2.2.2, cl.2.2.1 (pq q 33) (by unfold pq; omega)]
        rw [I_lit (n := 2), I_add, I_add]
        refine e_in ⟨by show 0 ≤ _ + (2 : Int) + _; omega, by show _ + (2 : Int) + _ < _; omega⟩ (by decide) (ok_lt.mpr ?_)
        rw [tnI (n := U + 2 + d) (by show _ + (2 : Int) + _ = _; omega) (by omega), wj_e, lit1q, I_add, show ((d : Nat) : Int) + 1 = ((d + 1 : Nat) : Int) by omega]
        refine ih (d + 1) _ (by omega) (by omega) cl.put (fun k hk => ?_) ?_ ?_ (fun j hj => ?_)
        · rw [CEL.row, if_neg (by omega)]; exact c1 k hk
        · rw [CEL.row, if_neg (by omega)]; exact c2
        · rw [CEL.row, if_neg (by omega)]; exact c2b
        · rw [CEL.row]
          by_cases e : j = d
          · subst e
            rw [if_pos rfl]
          · rw [if_neg (by omega)]; exact c3 j (by omega)
  have loop1 : ∀ (K d : Nat) (w : MS), d ≤ held → held - d + held + 5 < K → FR [] [] [] [44, 45, 46] u w → OK (fun w _ => OPQ T Fv P PR q c w) ((hg_Ma_fun N K).1 w q (I ((pl : Nat) : Int)) (I ((held : Nat) : Int)) (I ((held + 2 + smm s 0 d : Nat) : Int)) (I ((d : Nat) : Int))) := by
    intro K
    induction K with
    | zero => intro d _ _ hK; omega
    | succ K ih =>
      intro d w hd hK fr
      show OK _ (hb_Ma_fun_21 N (hg_Ma_fun N K) w q (I ((pl : Nat) : Int)) (I ((held : Nat) : Int)) (I ((held + 2 + smm s 0 d : Nat) : Int)) (I ((d : Nat) : Int)))
      unfold hb_Ma_fun_21
      obtain ⟨M1, ph1, s9, s8⟩ := MI_fr M hx fr
      have p1 := PT_fr (q := q) fr p
      have hb1 := hsb d hd
      refine k_le ⟨by omega, by omega⟩ ⟨by omega, by omega⟩ (fun hh => ?_) (fun hh => ?_)
      · have ed : d = held := by omega
        subst ed
        rw [I_lit (n := 500)]
        refine k_le ⟨by omega, by omega⟩ ⟨by decide, by decide⟩ (fun hle => ?_) (fun _ => ?_)
        · have hle : ((d + 2 + smm s 0 d : Nat) : Int) ≤ 500 := hle
          rw [I_lit (n := 2), I_add, show ((d : Nat) : Int) + (OfNat.ofNat 2 : Int) = ((d + 2 : Nat) : Int) by show _ + (2 : Int) = _; omega]
          refine ok_bnd.mpr (ok_mono (room_ok (N := N) M1 hx (by rw [s9]; exact t9) (by rw [s8]; exact t8) p1 ⟨by omega, by omega⟩ hN) (fun w2 r hw2 => ?_))
          rcases hw2 with ⟨rfl, e⟩ | ⟨rfl, ⟨M2, ph2, k9, k8⟩, ln2, fm2, ⟨-, r2⟩, U, ow2, kd2, p2, hU, sB, sW⟩
          · exact ok_br.mpr ⟨fun _ => ok_some.mpr (Or.inr (Or.inr (Or.inl e))), fun z => absurd z (by decide)⟩
          · refine ok_br.mpr ⟨fun z => absurd z (by decide), fun _ => ?_⟩
            rw [I_lit (n := 8), e_make, bnd_so, I_F (k := pq q 4), p2.1.1]
            refine e_in ⟨by omega, by omega⟩ (by decide) (ok_lt.mpr ?_)
            rw [tnI (n := U) rfl (by omega), wj_e, e_make, bnd_so, lit1q, I_add]
            refine e_in ⟨by omega, by omega⟩ (by decide) (ok_lt.mpr ?_)
            rw [tnI (n := U + 1) (by omega) (by omega), wj_e]
            have e33 : w.2.2.2 (pq q 33) = u.2.2.2 (pq q 33) := fr.2.2.2 _ (by simp; unfold pq; omega)
            have e2c : w.2.2.2 (pq q 2) = u.2.2.2 (pq q 2) := fr.2.2.2 _ (by simp; unfold pq; omega)
            have rw1 : w2.2.2.1 = u.2.2.1 := by rw [r2]; exact funext fun k => fr.2.2.1 k (by simp)
            rw [lit0q, show (0 : Int) = ((0 : Nat) : Int) from rfl]
            refine loop2 w2 U ow2 kd2 M2 (by omega) k9 k8 ln2 p2 (by omega) (by omega) (fun k => by show (w2.2.2.1 23 k).toInt = _; rw [rw1]; rfl) (fun j hj => ?_) K 0 _ (by omega) (by omega) CEL.rf.put.put (fun k hk => ?_) ?_ ?_ (fun j hj => by omega)
            · rw [rw1]
              exact tval_sml M.1.2.1 sB (by rw [e33, e2c]; exact hs j hj)
            · rw [CEL.row, if_neg (by omega), CEL.row, if_neg (by omega)]
            · rw [CEL.row, if_neg (by omega), CEL.row, if_pos rfl]
            · rw [CEL.row, if_pos rfl]
        · exact ok_bnd.mpr (ok_mono (ERR_w (N := N) (a := 11) M1 (by rw [s9]; exact t9) (by rw [s8]; exact t8) (by rw [ph1]; exact hf) (by omega)) (fun w _ hw => ok_some.mpr hw))
      · have lnw : LNB w q := LNB_fc ln (fun k _ => fr.1 _ (by simp))
        rw [I_F (k := 1105), M1.2.2.2.1.2, I_lit (n := 3), I_add, I_add, Co_e (k := i + 3 + d) (by show _ + (3 : Int) + _ = _; omega) (by omega), bnd_so, fr.A (by simp)]
        rw [termOf_e (B := nb + m) p1.2.1.1 lnw (PTQ_43 p1) (by omega), bnd_so, fr.2.2.1 _ (by simp), fr.2.2.2 (pq q 33) (by simp; unfold pq; omega)]
        refine ok_bnd.mpr (ok_mono (size_ok (N := N) (n := n) (s := s d) (b := pq q 2) (by unfold pq; omega) rfl (by have := p.1.2.1; omega) M.1.2.1.1.1 (by have := hs1 d (by omega); omega) (by rw [fr.2.2.2 (pq q 2) (by simp; unfold pq; omega)]; exact hs d (by omega)) (by omega)) (fun w3 r hw => ?_))
        obtain ⟨f1, rfl⟩ := hw
        rw [I_add, lit1q, I_add]
        have e : ((held + 2 + smm s 0 d : Nat) : Int) + ((s d : Nat) : Int) = ((held + 2 + smm s 0 (d + 1) : Nat) : Int) := by
          show _ = ((held + 2 + (smm s 0 d + s (0 + d)) : Nat) : Int)
          rw [Nat.zero_add]; omega
        rw [e, show ((d : Nat) : Int) + 1 = ((d + 1 : Nat) : Int) by omega]
        exact ih (d + 1) w3 (by omega) (by omega) (FR.tr fr (FR.mo f1 (by simp) (by simp) (by simp) (by simp)))
  rw [lit0q, show (0 : Int) = ((0 : Nat) : Int) from rfl]
  exact loop1 N 0 u (by omega) (by omega) FR.rf
theorem funOf_ok {fn : Nat} (M : MIc T Fv P PR q u i h m L g x j wb nb cb rk) (hx : x < i) (t9 : F u 1109 = 0) (t8 : F u 1108 = 0) (hf : PHc T u q i x rk ≤ c) (hF : Fv (mk 8 (1000000 + ((fn : Nat) : Int))) (mk 8 0)) (hfn : fn ≤ 1000) (t2 : T (i + 2) = some (h + 1, m, L, g, x)) (hN : 3000000 ≤ N) : OK (fun w _ => OPQ T Fv P PR q c w) (hm_Ma_funOf N u q (I ((fn : Nat) : Int))) := by
  obtain ⟨n, ow, kd, Y, p⟩ := MI_p M
  have mb := MI_b M
  have wf := (M.1.2.2.1 _ _ _ _ _ _ t2).2.1
  unfold hm_Ma_funOf hb_Ma_funOf_0
  rw [I_lit (n := 2)]
  refine ok_bnd.mpr (ok_mono (room_ok (N := N) M hx t9 t8 p ⟨by decide, by decide⟩ hN) (fun w2 r hw2 => ?_))
  rcases hw2 with ⟨rfl, e⟩ | ⟨rfl, ⟨M2, ph2, k9, k8⟩, ln2, fm2, -, U, ow2, kd2, p2, hU, sB, sW⟩
  · exact ok_br.mpr ⟨fun _ => ok_some.mpr (Or.inr (Or.inr (Or.inl e))), fun z => absurd z (by decide)⟩
  · have hU : (U : Int) + 2 ≤ 500 := hU
    refine ok_br.mpr ⟨fun z => absurd z (by decide), fun _ => ?_⟩
    rw [I_lit (n := 8), I_lit (n := 1000000), I_add, e_make, bnd_so, I_F (k := pq q 4), p2.1.1]
    refine e_in ⟨by omega, by omega⟩ (by decide) (ok_lt.mpr ?_)
    rw [tnI (n := U) rfl (by omega), wj_e, lit0q, e_make, bnd_so, lit1q, I_add]
    refine e_in ⟨by omega, by omega⟩ (by decide) (ok_lt.mpr (ok_lt.mpr ?_))
    rw [tnI (n := U + 1) (by omega) (by omega), wj_e]
    have cl : CEL q w2 (wj (wj w2 (pq q 2) U (mk 8 ((OfNat.ofNat 1000000 : Int) + ((fn : Nat) : Int)))) (pq q 2) (U + 1) (mk 8 0)) := CEL.rf.put.put
    generalize hw : wj (wj w2 (pq q 2) U (mk 8 ((OfNat.ofNat 1000000 : Int) + ((fn : Nat) : Int)))) (pq q 2) (U + 1) (mk 8 0) = w at cl ⊢
    have rw1 : ∀ k, w.2.2.2 (pq q 2) k = if k = U + 1 then mk 8 0 else if k = U then mk 8 (1000000 + ((fn : Nat) : Int)) else w2.2.2.2 (pq q 2) k := fun k => by rw [← hw, CEL.row, CEL.row]
    rw [I_F (k := pq q 4), cl.F, p2.1.1, I_add, show ((U : Nat) : Int) + (OfNat.ofNat 2 : Int) = ((U + (0 + 2) : Nat) : Int) by show _ + (2 : Int) = _; omega, wi_e, I_lit (n := 3), e_make, bnd_so]
    obtain ⟨ow3, kd3, g1, g2, g3⟩ := FUN_new (k := 0) (s := fun _ => 0) (f0 := 0) (h2 := w.2.2.2 (pq q 2)) p2.1.2.2 (fun k hk => by rw [rw1, if_neg (by omega), if_neg (by omega)]) (by rw [rw1, if_neg (by omega), if_pos rfl, rw1, if_pos rfl]; exact hF) (by rw [rw1, if_pos rfl]; rfl) (fun j hj => by omega) (by decide) (by omega)
    obtain ⟨fm3, p3⟩ := use_t p2 cl (n2 := U + (0 + 2)) (by omega) g1 g3
    refine ok_bnd.mpr (ok_mono (push_t (N := N) p3 (LNB_m (LNB_fc ln2 (fun k _ => by rw [cl.2.1])) (by simp) (by omega)) (by omega) g2) (fun w5 _ hw5 => ok_lt.mpr (ok_some.mpr ?_)))
    obtain ⟨fm5, p5, ln5, -⟩ := hw5
    rw [show wb + h + 1 = wb + (h + 1) by omega] at p5
    exact fin_t M2 k9 k8 (by omega) hx (FNc.tr fm3 fm5) p5 ln5 t2 (by show _ + (2 : Int) = _; omega) (by omega) (by omega)
end
end
section
set_option maxRecDepth 100000
section
variable {T : Nat → Option (Nat × Nat × List Nat × Nat × Nat)} {Fv : Int64 → Int64 → Prop} {P : Int64 → Prop} {u v w : MS} {PR N q r n B W Y i h m g x j wb nb cb rk c f i2 h2 m2 k a U d : Nat} {L : List Nat} {ow kd : Nat → Nat} {t rest : Int64}
theorem mak1 : hm_Ma_making N u q (I 1) = bnd (hm_Co_at N u ((u.1 1105) + 1)) (fun u3 r3 => bnd (hm_Co_at N u3 ((u3.1 1105) + 2)) (fun u8 r8 => bnd (hm_Te_make N u8 r3 r8) (fun u10 r10 => bnd (hm_Fr_push N u10 q r10) (fun u11 _ => lt (upI u11 1105 ((u11.1 1105) + 3)) (fun w14 => some (w14, ())))))) := rfl
theorem mak2 : hm_Ma_making N u q (I 2) = bnd (hm_Co_at N u ((u.1 1105) + 1)) (fun u3 r3 => bnd (hm_Ma_string N u3 q r3) (fun u15 _ => some (u15, ()))) := rfl
theorem mak3 : hm_Ma_making N u q (I 3) = bnd (hm_Co_at N u ((u.1 1105) + 1)) (fun u3 r3 => bnd (hm_Fr_termOf N u3 q r3) (fun u18 r18 => bnd (hm_Fr_push N u18 q r18) (fun u20 _ => lt (upI u20 1105 ((u20.1 1105) + 2)) (fun w23 => some (w23, ()))))) := rfl
theorem mak4 : hm_Ma_making N u q (I 4) = bnd (hm_Co_at N u ((u.1 1105) + 1)) (fun u3 r3 => bnd (hm_Ma_tuple N u3 q r3) (fun u15 _ => some (u15, ()))) := rfl
theorem mak5 : hm_Ma_making N u q (I 5) = bnd (hm_Co_at N u ((u.1 1105) + 1)) (fun u3 r3 => bnd (hm_Ma_list N u3 q r3) (fun u15 _ => some (u15, ()))) := rfl
theorem mak6 : hm_Ma_making N u q (I 6) = bnd (hm_Co_at N u ((u.1 1105) + 1)) (fun u3 r3 => bnd (hm_Ma_fun N u3 q r3) (fun u15 _ => some (u15, ()))) := rfl
theorem mak7 : hm_Ma_making N u q (I 7) = bnd (hm_Co_at N u ((u.1 1105) + 1)) (fun u3 r3 => bnd (hm_Ma_funOf N u3 q r3) (fun u15 _ => some (u15, ()))) := rfl
theorem opd (M : MIc T Fv P PR q u i h m L g x j wb nb cb rk) {y : Int} {k : Nat} (hy : y = ((k : Nat) : Int)) (hk : i + k < 24000) : hm_Co_at N u ((u.1 1105) + I y) = some (u, I (A u 23 (i + k))) := by
  rw [I_F (k := 1105), M.2.2.2.1.2, I_add]
  exact Co_e (by omega) hk
theorem opd1 (M : MIc T Fv P PR q u i h m L g x j wb nb cb rk) (hk : i + 1 < 24000) : hm_Co_at N u ((u.1 1105) + 1) = some (u, I (A u 23 (i + 1))) := opd M (y := 1) (k := 1) rfl hk
theorem opd2 (M : MIc T Fv P PR q u i h m L g x j wb nb cb rk) (hk : i + 2 < 24000) : hm_Co_at N u ((u.1 1105) + 2) = some (u, I (A u 23 (i + 2))) := opd M (y := 2) (k := 2) rfl hk
theorem opd3 (M : MIc T Fv P PR q u i h m L g x j wb nb cb rk) (hk : i + 3 < 24000) : hm_Co_at N u ((u.1 1105) + 3) = some (u, I (A u 23 (i + 3))) := opd M (y := 3) (k := 3) rfl hk
theorem opd_any (y : Int32) : ∃ r, hm_Co_at N u ((u.1 1105) + y) = some (u, r) := Co_any _
theorem making_ok (M : MIc T Fv P PR q u i h m L g x j wb nb cb rk) (t9 : F u 1109 = 0) (t8 : F u 1108 = 0) (hf : PHc T u q i x rk ≤ c) (h8 : A u 23 i < 8) (hN : 3000000 ≤ N) : OK (fun w _ => OPQ T Fv P PR q c w) (hm_Ma_making N u q (I (A u 23 i))) := by
  obtain ⟨n, ow, kd, Y, p⟩ := MI_p M
  have mb := MI_b M
  have ln := MI_ln M
  have cx := M.1.2.1
  have cd := M.1.2.2.2.1
  obtain ⟨b1, b2, -, -, ⟨b5, b6⟩, ins⟩ := M.1.2.2.1 _ _ _ _ _ _ M.2.2.2.1.1
  have hx : x < i := b6 (by omega)
  have ok1 : ∀ {o : Option (MS × Unit)}, OK (fun w _ => OPQ T Fv P PR q c w) o → OK (fun w _ => OPQ T Fv P PR q c w) (bnd o (fun u15 _ => some (u15, ()))) := fun h => ok_bnd.mpr (ok_mono h (fun w _ hw => ok_some.mpr hw))
  have bd : ∀ {k y}, T k = some y → k < 24000 := fun {k y} e => by
    obtain ⟨a, b, c, d, e2⟩ := y
    exact (M.1.2.2.1 _ _ _ _ _ _ e).1.2
  have wfh : ∀ {k a b c d e}, T k = some (a, b, c, d, e) → a ≤ 1090 := fun e => (M.1.2.2.1 _ _ _ _ _ _ e).2.1.1
  rcases ins with ins | ins | ins
  · rcases ins with ⟨o, o1, o2⟩ | ⟨o, s, o1, o2, o3⟩ | ⟨o, o1⟩ | ⟨o, s, o1, o2, o3⟩ | ⟨o, s, o1, o2, o3, o4⟩ | ⟨o, pl, s, o1, o2, o3, o4, o5, o6⟩ | ⟨o, s, o1, o2, o3⟩ | ⟨o, -⟩ | ⟨o, -⟩ | ⟨o, -⟩ | ⟨o, -⟩ | ⟨o, -⟩ | ⟨o, -⟩
    · have := bd o2
      have hh := wfh o2
      rw [o, mak1, opd1 M (by omega), bnd_so, opd2 M (by omega), bnd_so, e_make, bnd_so]
      have gt : GT n ow kd P (mk (A u 23 (i + 1)) (A u 23 (i + 2))) := by
        rcases o1 with e | ⟨e, e1, e2⟩ | ⟨e, e1⟩
        · rw [e]; exact GT_0c cx (ARG1 u _ _)
        · rw [e]; exact Or.inl ⟨nh_so (by rw [so_mk (by decide) (by decide)]; decide), cx.2.2.2.2.2.1 _ e1 e2⟩
        · rw [e, e1]; exact GT_6 cx
      refine ok_bnd.mpr (ok_mono (push_t (N := N) p ln (by omega) gt) (fun w5 _ hw5 => ok_lt.mpr (ok_some.mpr ?_)))
      obtain ⟨fm5, p5, ln5, -⟩ := hw5
      rw [show wb + h + 1 = wb + (h + 1) by omega] at p5
      rw [I_lit (n := 3)]
      exact fin_t M t9 t8 hf hx fm5 p5 ln5 o2 (by show _ + (3 : Int) = _; omega) (by omega) (by omega)
    · have := bd o3
      rw [o, mak2, opd1 M (by omega), bnd_so, o1]
      exact ok1 (string_ok M hx t9 t8 hf o2 o3 hN)
    · have := bd o1
      have hh := wfh o1
      rw [o, mak3, opd1 M (by omega), bnd_so, termOf_e p.2.1.1 ln (PTQ_43 p) (by omega), bnd_so]
      refine ok_bnd.mpr (ok_mono (push_t (N := N) p ln (by omega) (tval_gt p cx)) (fun w5 _ hw5 => ok_lt.mpr (ok_some.mpr ?_)))
      obtain ⟨fm5, p5, ln5, -⟩ := hw5
      rw [show wb + h + 1 = wb + (h + 1) by omega] at p5
      rw [I_lit (n := 2)]
      exact fin_t M t9 t8 hf hx fm5 p5 ln5 o1 (by show _ + (2 : Int) = _; omega) (by omega) (by omega)
    · have := bd o3
      rw [o, mak4, opd1 M (by omega), bnd_so, o1]
      exact ok1 (tuple_ok M hx t9 t8 hf o2 o3 hN)
    · have := bd o4
      rw [o, mak5, opd1 M (by omega), bnd_so, o1]
      exact ok1 (list_ok M hx t9 t8 hf o2 o3 o4 hN)
    · have := bd o6
      rw [o, mak6, opd1 M (by omega), bnd_so, o1]
      obtain ⟨-, -, -, c4, -, -⟩ := cd
      obtain ⟨a, e, p0, k0, d1, d2, d3, d4, d5, d6, d7⟩ := c4 pl o2
      have e0 : p0 = i + 2 := by omega
      subst e0
      have e1 : k0 = s := by omega
      subst e1
      exact ok1 (fun_ok2 M hx t9 t8 hf d7 o4 o5 o6 hN)
    · have := bd o3
      rw [o, mak7, opd1 M (by omega), bnd_so, o1]
      obtain ⟨⟨-, c1⟩, -, -, -, c5, -⟩ := cd
      exact ok1 (funOf_ok M hx t9 t8 hf (c5 s o2) (by omega) o3 hN)
    all_goals omega
  · exfalso
    rcases ins with ⟨o, -⟩ | ⟨o, -⟩ | ⟨o, -⟩ | ⟨o, -⟩ | ⟨o, -⟩ | ⟨o, -⟩ | ⟨o, -⟩ | ⟨o, -⟩ | ⟨o, -⟩ | ⟨o, -⟩ | ⟨o, -⟩ <;> omega
  · exfalso
    rcases ins with ⟨o, -⟩ | ⟨o, -⟩ | ⟨o, -⟩ | ⟨o, -⟩ | ⟨o, -⟩ | o | ⟨o, -⟩ | ⟨o, -⟩ | ⟨o, -⟩ <;> omega
end
end
section
set_option maxRecDepth 100000
section
variable {T : Nat → Option (Nat × Nat × List Nat × Nat × Nat)} {Fv : Int64 → Int64 → Prop} {P : Int64 → Prop} {u v w w1 : MS} {PR N q r n B W Y i h m g x j wb nb cb rk c f i2 h2 m2 k a U d : Nat} {L : List Nat} {ow kd : Nat → Nat} {t rest : Int64} {gi gl ga ki kl ka kj : List Nat}
theorem DWc_dead (dw : DWc Fv P PR u) (f : FC q gi gl ga ki kl ka kj u w) (he : F u (pq q 9) = 3) (h1 : ∀ k, k ∈ [8, 9, 15, 17] → k ∉ ki) (h2 : 16 ∉ kl) (h3 : 2 ∉ kj) (h4 : ∀ k, k ∈ [942, 950, 953, 955, 956] → k ∉ gi) (h5 : ∀ k, k ∈ [1948, 53, 54] → k ∉ ga) : DWc Fv P PR w := by
  obtain ⟨⟨⟨g11, g12⟩, g13, g14, ⟨g15, g16⟩, g17, g18, g19⟩, d2⟩ := dw
  have i9 : ∀ r k, k ∈ [8, 9, 15, 17] → w.1 (pq r k) = u.1 (pq r k) := fun r k hk => f.2.2.2.2.1 r k (by simp at hk; omega) (fun _ => h1 k hk)
  have st : ∀ r, F w (pq r 9) = F u (pq r 9) := fun r => congrArg _ (i9 r 9 (by simp))
  have gF : ∀ k, k ∈ [942, 950, 953, 955, 956] → F w k = F u k := fun k hk => f.Fg (by simp at hk; omega) (h4 k hk)
  have gA : ∀ k i, k ∈ [1948, 53, 54] → A w k i = A u k i := fun k i hk => f.ag (by simp at hk; omega) (h5 k hk)
  have hce : cEc w PR = cEc u PR := cEc_eq PR (fun r _ => st r)
  have rj2 : ∀ r, w.2.2.2 (pq r 2) = u.2.2.2 (pq r 2) := fun r => f.2.2.2.2.2.2.2 r 2 (by omega) (fun _ => h3)
  have rl : ∀ r, w.2.1 (pq r 16) = u.2.1 (pq r 16) := fun r => f.2.2.2.2.2.1 r 16 (by omega) (fun _ => h2)
  refine ⟨⟨⟨by rw [gF 942 (by simp)]; exact g11, g12⟩, fun r hr => by rw [f.2.2.1 1948 (by omega) (h5 1948 (by simp))]; exact g13 r hr, by rw [gF 950 (by simp)]; exact g14, ⟨by rw [gF 955 (by simp), hce]; exact g15, by rw [gF 955 (by simp), gF 956 (by simp)]; exact g16⟩, fun i hi => ?_, by rw [gF 953 (by simp)]; exact g18, fun i hi => ?_⟩, fun r hr => ?_⟩
  · rw [gF 955 (by simp)] at hi
    obtain ⟨r, r1, r2, r3⟩ := g17 i hi
    exact ⟨r, by rw [gA 54 i (by simp)]; exact r1, r2, by rw [st]; exact r3⟩
  · rw [gF 953 (by simp)] at hi
    rw [gA 53 i (by simp)]; exact g19 i hi
  · obtain ⟨s1, s2, s3⟩ := d2 r hr
    refine ⟨?_, fun z => ?_, fun z => ?_⟩
    · obtain ⟨t1, t2, t3⟩ := s1
      refine ⟨by rw [show F w (pq r 15) = F u (pq r 15) from congrArg _ (i9 r 15 (by simp))]; exact t1, by rw [show F w (pq r 8) = F u (pq r 8) from congrArg _ (i9 r 8 (by simp))]; exact t2, fun y => ?_⟩
      rw [st] at y
      have e : r ≠ q := fun z => y (z ▸ he)
      rw [f.Fo e (by omega), f.Fo e (by omega)]; exact t3 y
    · rw [st] at z
      obtain ⟨hq2, n, ow, kd, e1, e2, e3, e4, e5, e6⟩ := s2 z
      exact ⟨hq2, n, ow, kd, by rw [i9 r 17 (by simp)]; exact e1, e2, by rw [st]; exact e3, e4, by rw [rj2]; exact e5, by rw [rl]; exact e6⟩
    · rw [st] at z
      have e : r ≠ q := fun y => z (y ▸ he)
      obtain ⟨n, ow, kd, B, W, Y, p⟩ := s3 z
      exact ⟨n, ow, kd, B, W, Y, PTQ_same p (fun k hk => f.2.2.2.2.1 r k (by simp at hk; omega) (fun y => absurd y e)) (fun k hk => f.jo e (by simp at hk; omega))⟩
theorem wans_ok {y z : Int} {wd : Nat} (M : MIc T Fv P PR q u i h m L g x j wb nb cb rk) (hx : x < i) (t9 : F u 1109 = 0) (t8 : F u 1108 = 0) (hf : PHc T u q i x rk ≤ c) (wq : WQ Fv P PR u w1) (hy : y = ((k : Nat) : Int)) (hk : k ≤ h) (gt : F w1 (pq q 9) ≠ 3 → ∀ n ow kd Y, PTQ w1 q n ow kd Fv P (nb + m) (wb + h) Y → GT n ow kd P t) (hz : z = ((wd : Nat) : Int)) (hwd : 1 ≤ wd ∧ wd ≤ 4) (t2 : T (i + wd) = some (h - k + 1, m, L, g, x)) : OK (fun w _ => F w 1109 = 0 ∧ OPQ T Fv P PR q c (upI w 1105 ((w.1 1105) + I z))) (hm_Ma_answer N w1 q (I y) t) := by
  have mb := MI_b M
  have w2b := (M.1.2.2.1 _ _ _ _ _ _ t2).1
  have wf := (M.1.2.2.1 _ _ _ _ _ _ t2).2.1
  have s9 : F w1 1109 = 0 := by rw [wq.2.1.G (by omega) (by simp)]; exact t9
  have s8 : F w1 1108 = 0 := by rw [wq.2.1.G (by omega) (by simp)]; exact t8
  by_cases hal : F w1 (pq q 9) = 3
  · have G1 := GEN_w M.1 wq
    have e26 : F w1 (pq q 26) = ((wb + h : Nat) : Int) := by rw [wq.2.1.F (by omega) (by simp)]; exact M.2.2.2.2.1.1
    have e45 : ((wb + h : Nat) : Int) ≤ F w1 (pq q 45) := by
      rw [wq.2.1.F (by omega) (by simp)]
      obtain ⟨n, ow, kd, Y, p⟩ := MI_p M
      obtain ⟨-, -, -, -, -, ⟨l, b1, b2, -⟩, -⟩ := p
      omega
    have ln1 := GEN_ln G1 G1.2.2.2.2.2.2.1
    unfold hm_Ma_answer hb_Ma_answer_0
    rw [drop_e e26 hy (by omega), bnd_so]
    have f0 : FC q [] [] [] [26, 45] [] [] [35] w1 (wi w1 (pq q 26) ((wb + h - k : Nat) : Int)) := FC.wi_q FC.rf (by omega) (by simp)
    have f45 : F (wi w1 (pq q 26) ((wb + h - k : Nat) : Int)) (pq q 45) = F w1 (pq q 45) := by rw [F_wi (by omega) (by omega), if_neg (pq_inj (by decide))]
    refine ok_bnd.mpr (ok_mono (push_n (N := N) (t := t) (W := wb + h - k) (by rw [F_wi (by omega) (by omega), if_pos rfl]) (LNB_m ln1 (by simp) (by omega)) (by rw [f45]; omega) (by omega)) (fun w2 _ hw2 => ok_some.mpr ?_))
    obtain ⟨f1, e1, l1, -, -, -⟩ := hw2
    have f2 := FC.tr f0 f1
    have q9 : F w2 1109 = 0 := by rw [f2.Fg (by omega) (by simp)]; exact s9
    refine ⟨q9, Or.inr (Or.inr (Or.inl ?_))⟩
    rw [at_e (i := i) (by rw [f2.Fg (by omega) (by simp), wq.2.1.G (by omega) (by simp)]; exact M.2.2.2.1.2)]
    have f3 : FC q [1105] [] [] [26, 45] [] [] [35] w1 (wi w2 1105 (((i : Nat) : Int) + z)) := FC.wi_g (FC.mo f2 (by simp) (by simp) (by simp) (by simp) (by simp) (by simp) (by simp)) (by omega) (by simp)
    refine ⟨GEN_f G1 f3 (DWc_dead G1.1 f3 hal (by simp) (by simp) (by simp) (by simp) (by simp)) (by simp) (by simp) (LNB_g l1 (by omega)), by rw [f3.Fq (by omega) (by simp)]; exact hal, by rw [f3.Fg (by omega) (by simp)]; exact s9, by rw [f3.Fq (by omega) (by simp), wq.2.1.F (by omega) (by simp)]; exact M21 M⟩
  · obtain ⟨M1, ph⟩ := MI_w M wq hal
    obtain ⟨n, ow, kd, Y, p⟩ := MI_p M1
    refine ok_mono (answer_t (N := N) p (MI_ln M1) hy (by omega) (by omega) (gt hal n ow kd Y p)) (fun w5 _ hw5 => ?_)
    obtain ⟨fm5, p5, ln5⟩ := hw5
    rw [show wb + h - k + 1 = wb + (h - k + 1) by omega] at p5
    exact ⟨by rw [fm5.Fg (by omega) (by simp)]; exact s9, fin_t M1 s9 s8 (by omega) hx fm5 p5 ln5 t2 (by omega) (by omega) (by omega)⟩
theorem nh_gt (h1 : ¬ isH t) (h2 : P t) : GT n ow kd P t := Or.inl ⟨h1, h2⟩
theorem ans_ok {y z : Int} {wd : Nat} (M : MIc T Fv P PR q u i h m L g x j wb nb cb rk) (hx : x < i) (t9 : F u 1109 = 0) (t8 : F u 1108 = 0) (hf : PHc T u q i x rk ≤ c) (p : PTQ u q n ow kd Fv P (nb + m) (wb + h) Y) (gt : GT n ow kd P t) (hy : y = ((k : Nat) : Int)) (hk : k ≤ h) (hz : z = ((wd : Nat) : Int)) (hwd : 1 ≤ wd ∧ wd ≤ 4) (t2 : T (i + wd) = some (h - k + 1, m, L, g, x)) : OK (fun w _ => F w 1109 = 0 ∧ OPQ T Fv P PR q c (upI w 1105 ((w.1 1105) + I z))) (hm_Ma_answer N u q (I y) t) := by
  have mb := MI_b M
  have w2b := (M.1.2.2.1 _ _ _ _ _ _ t2).1
  have wf := (M.1.2.2.1 _ _ _ _ _ _ t2).2.1
  refine ok_mono (answer_t (N := N) p (MI_ln M) hy (by omega) (by omega) gt) (fun w5 _ hw5 => ?_)
  obtain ⟨fm5, p5, ln5⟩ := hw5
  rw [show wb + h - k + 1 = wb + (h - k + 1) by omega] at p5
  exact ⟨by rw [fm5.Fg (by omega) (by simp)]; exact t9, fin_t M t9 t8 hf hx fm5 p5 ln5 t2 (by omega) (by omega) (by omega)⟩
theorem below_m {y : Int} (M : MIc T Fv P PR q u i h m L g x j wb nb cb rk) (p : PTQ u q n ow kd Fv P (nb + m) (wb + h) Y) (hy : y = ((k : Nat) : Int)) (hk : k < h) : hm_Fr_below N u q (I y) = some (u, u.2.2.2 (pq q 35) (wb + h - 1 - k)) ∧ GT n ow kd P (u.2.2.2 (pq q 35) (wb + h - 1 - k)) := by
  obtain ⟨l, l1, l2, l3⟩ := p.2.2.2.2.2.1
  exact ⟨below_e p.2.2.1.1 l1 l2 l3 hy (by omega), p.2.2.1.2 _ (by omega)⟩
theorem below_0 (M : MIc T Fv P PR q u i h m L g x j wb nb cb rk) (p : PTQ u q n ow kd Fv P (nb + m) (wb + h) Y) (hk : 1 ≤ h) : hm_Fr_below N u q 0 = some (u, u.2.2.2 (pq q 35) (wb + h - 1)) ∧ GT n ow kd P (u.2.2.2 (pq q 35) (wb + h - 1)) := below_m M p (y := 0) (k := 0) rfl (by omega)
theorem below_1 (M : MIc T Fv P PR q u i h m L g x j wb nb cb rk) (p : PTQ u q n ow kd Fv P (nb + m) (wb + h) Y) (hk : 2 ≤ h) : hm_Fr_below N u q 1 = some (u, u.2.2.2 (pq q 35) (wb + h - 1 - 1)) ∧ GT n ow kd P (u.2.2.2 (pq q 35) (wb + h - 1 - 1)) := below_m M p (y := 1) (k := 1) rfl (by omega)
theorem truth_e (y : Int32) : ∃ a, a < 22 ∧ hm_Ma_truth N u y = some (u, mk 1 ((a : Nat) : Int)) := by
  unfold hm_Ma_truth hb_Ma_truth_0 hb_Ma_truth_9
  by_cases z : y = 0
  · rw [decide_eq_true z, br_tq]; exact ⟨1, by decide, rfl⟩
  · rw [decide_eq_false z, br_fq]; exact ⟨0, by decide, rfl⟩
theorem br_any {α : Type} {b : Bool} {p q : Option (MS × α)} (h1 : ∃ r, p = some (u, r)) (h2 : ∃ r, q = some (u, r)) : ∃ r, br b p q = some (u, r) := by
  cases b with
  | false => exact h2
  | true => exact h1
theorem holds_any (a b : Int32) : ∃ r, hm_Ma_holds N u a b = some (u, r) := by
  unfold hm_Ma_holds hb_Ma_holds_0
  repeat' (first | exact ⟨_, rfl⟩ | apply br_any)
theorem number_ok {y : Int64} {wd : Nat} (M : MIc T Fv P PR q u i h m L g x j wb nb cb rk) (hx : x < i) (t9 : F u 1109 = 0) (t8 : F u 1108 = 0) (hf : PHc T u q i x rk ≤ c) (hk : k ≤ h) (hwd : 1 ≤ wd ∧ wd ≤ 4) (t2 : T (i + wd) = some (h - k + 1, m, L, g, x)) : OK (fun w _ => OPQ T Fv P PR q c w) (hm_Ma_number N u q (I ((k : Nat) : Int)) y (I ((wd : Nat) : Int))) := by
  obtain ⟨n, ow, kd, Y, p⟩ := MI_p M
  unfold hm_Ma_number hb_Ma_number_0
  refine ok_br.mpr ⟨fun _ => ?_, fun _ => ?_⟩
  · rw [lit0q, I_of y.toInt32, e_make, bnd_so]
    exact ok_bnd.mpr (ok_mono (ans_ok (N := N) M hx t9 t8 hf p (GT_0c M.1.2.1 (ti_rng _)) rfl hk rfl hwd t2) (fun w _ hw => ok_lt.mpr (ok_some.mpr hw.2)))
  · exact ok_bnd.mpr (ok_mono (ERR_w (N := N) (a := 12) M t9 t8 hf (by omega)) (fun w _ hw => ok_some.mpr hw))
theorem arith_ok {y : Int32} (M : MIc T Fv P PR q u i h m L g x j wb nb cb rk) (hx : x < i) (t9 : F u 1109 = 0) (t8 : F u 1108 = 0) (hf : PHc T u q i x rk ≤ c) (hk : 2 ≤ h) (t2 : T (i + 2) = some (h - 1, m, L, g, x)) : OK (fun w _ => OPQ T Fv P PR q c w) (hm_Ma_arithmetic N u q y) := by
  obtain ⟨n, ow, kd, Y, p⟩ := MI_p M
  obtain ⟨b0, g0⟩ := below_0 (N := N) M p (by omega)
  obtain ⟨b1, g1⟩ := below_1 (N := N) M p (by omega)
  have nm : ∀ v8, OK (fun w _ => OPQ T Fv P PR q c w) (hb_Ma_arithmetic_208 N () u q v8) := fun v8 => by
    unfold hb_Ma_arithmetic_208
    exact ok_bnd.mpr (ok_mono (number_ok (N := N) (y := v8) (k := 2) (wd := 2) M hx t9 t8 hf hk (by omega) (by rw [show h - 2 + 1 = h - 1 by omega]; exact t2)) (fun w _ hw => ok_some.mpr hw))
  have wr : OK (fun w _ => OPQ T Fv P PR q c w) (hb_Ma_arithmetic_92 N () u q) := by
    unfold hb_Ma_arithmetic_92
    exact ok_bnd.mpr (ok_mono (ERR_w (N := N) (a := 12) M t9 t8 hf (by omega)) (fun w _ hw => ok_some.mpr hw))
  have e99 : ∀ a b, OK (fun w _ => OPQ T Fv P PR q c w) (hb_Ma_arithmetic_99 N () u q y a b) := fun a b => by
    unfold hb_Ma_arithmetic_99 hb_Ma_arithmetic_186 hb_Ma_arithmetic_206
    have nz : decide (lg_cmp b 0 = 0) = false → decide (¬ b = 0) = true := fun z => decide_eq_true (fun e => by subst e; exact absurd z (by decide))
    refine ok_br.mpr ⟨fun _ => ok_br.mpr ⟨fun _ => nm _, fun z => ok_ck.mpr ⟨nz z, nm _⟩⟩, fun _ => ok_br.mpr ⟨fun _ => nm _, fun _ => ok_br.mpr ⟨fun _ => nm _, fun _ => ok_br.mpr ⟨fun _ => nm _, fun _ => ok_br.mpr ⟨fun _ => nm _, fun z => ok_ck.mpr ⟨nz z, nm _⟩⟩⟩⟩⟩⟩
  have e74 : ∀ a b d t0, OK (fun w _ => OPQ T Fv P PR q c w) (hb_Ma_arithmetic_74 N () u q y d a b t0) := fun a b d t0 => by
    unfold hb_Ma_arithmetic_74
    exact ok_br.mpr ⟨fun _ => wr, fun _ => ok_br.mpr ⟨fun _ => e99 _ _, fun _ => ok_br.mpr ⟨fun _ => wr, fun _ => e99 _ _⟩⟩⟩
  have e33 : ∀ t0, OK (fun w _ => OPQ T Fv P PR q c w) (hb_Ma_arithmetic_33 N () u q y t0) := fun t0 => by
    unfold hb_Ma_arithmetic_33 hb_Ma_arithmetic_69
    rw [b1, bnd_so, b0, bnd_so]
    exact ok_br.mpr ⟨fun _ => e74 _ _ _ _, fun _ => ok_br.mpr ⟨fun _ => e74 _ _ _ _, fun _ => e74 _ _ _ _⟩⟩
  unfold hm_Ma_arithmetic hb_Ma_arithmetic_0 hb_Ma_arithmetic_32
  rw [b1, bnd_so, e_tag, bnd_so]
  refine ok_br.mpr ⟨fun _ => ?_, fun _ => e33 _⟩
  rw [b0, bnd_so, e_tag, bnd_so]
  exact ok_br.mpr ⟨fun _ => e33 _, fun _ => e33 _⟩
theorem negate_ok (M : MIc T Fv P PR q u i h m L g x j wb nb cb rk) (hx : x < i) (t9 : F u 1109 = 0) (t8 : F u 1108 = 0) (hf : PHc T u q i x rk ≤ c) (hk : 1 ≤ h) (t2 : T (i + 1) = some (h, m, L, g, x)) : OK (fun w _ => OPQ T Fv P PR q c w) (hm_Ma_negate N u q) := by
  obtain ⟨n, ow, kd, Y, p⟩ := MI_p M
  obtain ⟨b0, g0⟩ := below_0 (N := N) M p (by omega)
  unfold hm_Ma_negate hb_Ma_negate_0
  rw [b0, bnd_so, e_tag, bnd_so]
  refine ok_br.mpr ⟨fun _ => ?_, fun _ => ?_⟩
  · rw [b0, bnd_so]
    exact ok_bnd.mpr (ok_mono (number_ok (N := N) (k := 1) (wd := 1) M hx t9 t8 hf hk (by omega) (by rw [show h - 1 + 1 = h by omega]; exact t2)) (fun w _ hw => ok_some.mpr hw))
  · exact ok_bnd.mpr (ok_mono (ERR_w (N := N) (a := 12) M t9 t8 hf (by omega)) (fun w _ hw => ok_some.mpr hw))
theorem not_okc (M : MIc T Fv P PR q u i h m L g x j wb nb cb rk) (hx : x < i) (t9 : F u 1109 = 0) (t8 : F u 1108 = 0) (hf : PHc T u q i x rk ≤ c) (hk : 1 ≤ h) (t2 : T (i + 1) = some (h, m, L, g, x)) : OK (fun w _ => OPQ T Fv P PR q c w) (hm_Ma_not N u q) := by
  obtain ⟨n, ow, kd, Y, p⟩ := MI_p M
  obtain ⟨b0, g0⟩ := below_0 (N := N) M p (by omega)
  have e50 : ∀ t2', OK (fun w _ => OPQ T Fv P PR q c w) (hb_Ma_not_50 N () u q 1 t2') := fun t2' => by
    unfold hb_Ma_not_50
    obtain ⟨a, ha, e⟩ := truth_e (N := N) (u := u) t2'
    rw [e, bnd_so]
    exact ok_bnd.mpr (ok_mono (ans_ok (N := N) (y := 1) (z := 1) (k := 1) (wd := 1) M hx t9 t8 hf p (GT_at M.1.2.1 ha) rfl hk rfl (by omega) (by rw [show h - 1 + 1 = h by omega]; exact t2)) (fun w _ hw => ok_lt.mpr (ok_some.mpr hw.2)))
  have e34 : ∀ a, OK (fun w _ => OPQ T Fv P PR q c w) (hb_Ma_not_34 N () u q a) := fun a => by
    unfold hb_Ma_not_34
    rw [lit1q, atom_e, bnd_so]
    exact ok_br.mpr ⟨fun _ => e50 _, fun _ => e50 _⟩
  unfold hm_Ma_not hb_Ma_not_0
  rw [b0, bnd_so, lit0q, atom_e, bnd_so, lit1q, atom_e, bnd_so]
  refine ok_br.mpr ⟨fun _ => e34 _, fun _ => ok_br.mpr ⟨fun _ => e34 _, fun _ => ?_⟩⟩
  exact ok_bnd.mpr (ok_mono (ERR_w (N := N) (a := 11) M t9 t8 hf (by omega)) (fun w _ hw => ok_some.mpr hw))
theorem hinge_ok {y : Int32} {e : Nat} (M : MIc T Fv P PR q u i h m L g x j wb nb cb rk) (hx : x < i) (t9 : F u 1109 = 0) (t8 : F u 1108 = 0) (hf : PHc T u q i x rk ≤ c) (hk : 1 ≤ h) (t2 : T (i + 2) = some (h - 1, m, L, g, x)) (hi : i < e) (t3 : T e = some (h, m, L, g, x)) : OK (fun w _ => OPQ T Fv P PR q c w) (hm_Ma_hinge N u q y (I ((e : Nat) : Int))) := by
  obtain ⟨n, ow, kd, Y, p⟩ := MI_p M
  have mb := MI_b M
  have w2b := (M.1.2.2.1 _ _ _ _ _ _ t2).1
  have w3b := (M.1.2.2.1 _ _ _ _ _ _ t3).1
  obtain ⟨b0, g0⟩ := below_0 (N := N) M p (by omega)
  have e36 : ∀ a, OK (fun w _ => OPQ T Fv P PR q c w) (hb_Ma_hinge_36 N () u q y (I ((e : Nat) : Int)) a) := fun a => by
    unfold hb_Ma_hinge_36 hb_Ma_hinge_71
    obtain ⟨a2, ha, et⟩ := truth_e (N := N) (u := u) y
    rw [et, bnd_so]
    refine ok_br.mpr ⟨fun _ => ?_, fun _ => ok_lt.mpr (ok_some.mpr ?_)⟩
    · rw [lit1q, drop_e (x := 1) (k := 1) p.2.2.1.1 rfl (by omega), bnd_so]
      refine ok_lt.mpr (ok_some.mpr ?_)
      obtain ⟨f1, p1⟩ := drop_t (k := 1) p (by omega)
      rw [show wb + h - 1 = wb + (h - 1) by omega] at p1 f1 ⊢
      rw [I_lit (n := 2)]
      exact fin_t M t9 t8 hf hx f1 p1 (LNB_m (MI_ln M) (by simp) (by omega)) t2 (by show _ + (2 : Int) = _; omega) (by omega) (by omega)
    · rw [wi_e]
      exact NRM_f M t9 t8 hf hx (FMc.at FMc.rf) (at_t p) (LNB_g (MI_ln M) (by omega)) t3 (at_F (by omega)) hi
  unfold hm_Ma_hinge hb_Ma_hinge_0 hb_Ma_hinge_71
  rw [b0, bnd_so, lit0q, atom_e, bnd_so, lit1q, atom_e, bnd_so]
  refine ok_br.mpr ⟨fun _ => e36 _, fun _ => ok_br.mpr ⟨fun _ => e36 _, fun _ => ?_⟩⟩
  exact ok_bnd.mpr (ok_mono (ERR_w (N := N) (a := 11) M t9 t8 hf (by omega)) (fun w _ hw => ok_some.mpr hw))
theorem CHN_szc {hh : Nat → Int64} {f s : Nat} (z : SZc hh n ow kd Fv P f t s) : ∀ k, (∀ j, j < k → so (tlc hh t j) = 7) → ∃ es : Nat → Nat, ∃ sr, (∀ j, j < k → SZc hh n ow kd Fv P f (hh (vn (tlc hh t j))) (es j)) ∧ SZc hh n ow kd Fv P f (tlc hh t k) sr ∧ s = 2 * k + smm es 0 k + sr ∧ ∀ j, j < k → BKc hh n ow kd Fv (tlc hh t j)
  | 0, _ => ⟨fun _ => 0, s, fun j hj => by omega, z, by show s = 0 + 0 + s; omega, fun j hj => by omega⟩
  | k + 1, h7 => by
    obtain ⟨es, sr, a1, a2, a3, a4⟩ := CHN_szc z k (fun j hj => h7 j (by omega))
    have e7 := h7 k (by omega)
    cases f with
    | zero => exact a2.elim
    | succ f =>
      rcases a2 with ⟨a2, -⟩ | ⟨b1, b2, c, b3, b4⟩
      · exact absurd (Or.inr (Or.inr e7)) a2
      · have hb2 : blk hh (tlc hh t k) = 2 := by unfold blk; rw [if_pos e7]
        have hp : prt (tlc hh t k) = 0 := by unfold prt; rw [if_pos e7]
        rw [hb2, hp] at b3 b4
        have e2 : smm c 0 (2 - 0) = c 0 + c 1 := by show 0 + c (0 + 0) + c (0 + 1) = _; simp
        refine ⟨fun j => if j = k then c 0 else es j, c 1, fun j hj => ?_, SZ_monoc (b3 1 (by omega) (by omega)), ?_, fun j hj => ?_⟩
        · by_cases e : j = k
          · subst e; simp only [if_true]; exact SZ_monoc (b3 0 (by omega) (by omega))
          · simp only [if_neg e]; exact a1 j (by omega)
        · rw [smm_upd]; omega
        · by_cases e : j = k
          · subst e; exact b2
          · exact a4 j (by omega)
end
end
section
set_option maxRecDepth 100000
def zcn (r : Nat → Int64) : Nat → Nat
  | 0 => 0
  | i + 1 => zcn r i + (if lg_cmp (r i) 0 = 0 then 1 else 0)
theorem zcn_le (r : Nat → Int64) : ∀ i, zcn r i ≤ i
  | 0 => Nat.le_refl _
  | i + 1 => by
    have := zcn_le r i
    show zcn r i + _ ≤ i + 1
    split <;> omega
theorem zcn_mono (r : Nat → Int64) {i : Nat} : ∀ {k : Nat}, i ≤ k → zcn r i ≤ zcn r k
  | 0, h => by rw [show i = 0 by omega]; exact Nat.le_refl _
  | k + 1, h => by
    rcases Nat.lt_or_ge i (k + 1) with z | z
    · have := zcn_mono r (k := k) (show i ≤ k by omega)
      show zcn r i ≤ zcn r k + _
      omega
    · rw [show i = k + 1 by omega]; exact Nat.le_refl _
section
variable {T : Nat → Option (Nat × Nat × List Nat × Nat × Nat)} {Fv : Int64 → Int64 → Prop} {P : Int64 → Prop} {u v w w1 : MS} {PR N q r n B W Y i h m g x j wb nb cb rk c f i2 h2 m2 k a U d : Nat} {L : List Nat} {ow kd : Nat → Nat} {t rest : Int64} {gi gl ga ki kl ka kj : List Nat}
theorem ERR_o (M : MIc T Fv P PR q u i h m L g x j wb nb cb rk) (t9 : F u 1109 = 0) (t8 : F u 1108 = 0) (hf : PHc T u q i x rk ≤ c) (ha : a < 22) : OK (fun w _ => OPQ T Fv P PR q c w) (bnd (hm_Ma_wrong N u q (I ((a : Nat) : Int))) (fun u1 _ => some (u1, ()))) := ok_bnd.mpr (ok_mono (ERR_w M t9 t8 hf ha) (fun w _ hw => ok_some.mpr hw))
theorem LST_tags {hh hh2 : Nat → Int64} {U : Nat} {ow2 kd2 : Nat → Nat} {o r : Int64} (l : LSTc hh n ow kd Fv P o k) (s : SML hh n ow kd hh2 U ow2 kd2 Fv P o r) : ∀ j, j ≤ k → so (tlc hh2 r j) = so (tlc hh o j) := fun j hj => s.2.1.2 j (fun i hi => (l.2 i (by omega)).1)
theorem joinc_ok (M : MIc T Fv P PR q u i h m L g x j wb nb cb rk) (hx : x < i) (t9 : F u 1109 = 0) (t8 : F u 1108 = 0) (hf : PHc T u q i x rk ≤ c) (hk : 2 ≤ h) (t2 : T (i + 2) = some (h - 1, m, L, g, x)) (hN : 3000000 ≤ N) : OK (fun w _ => OPQ T Fv P PR q c w) (hm_Ma_join N u q) := by
  obtain ⟨n, ow, kd, Y, p⟩ := MI_p M
  have mb := MI_b M
  obtain ⟨b0, g0⟩ := below_0 (N := N) M p (by omega)
  obtain ⟨b1, g1⟩ := below_1 (N := N) M p (by omega)
  obtain ⟨f0, s, hs⟩ := sz_w (k := 2) p (by omega)
  have z1 := hs 1 (by omega)
  have s1b := SZ_1000c p.1.2.2 p.1.2.1 z1
  have s0b := SZ_1000c p.1.2.2 p.1.2.1 (hs 0 (by omega))
  have pn := p.1.2.1
  unfold hm_Ma_join hb_Ma_join_0
  rw [b1, bnd_so]
  refine ok_bnd.mpr (ok_mono (listLength_ok (N := N) (b := pq q 2) rfl (by omega) z1 (by omega) (by omega)) (fun w r hw => ?_))
  obtain ⟨rfl, hr⟩ := hw
  have wr : OK (fun w _ => OPQ T Fv P PR q c w) (hb_Ma_join_68 N (hg_Ma_join N N) w q) := by
    unfold hb_Ma_join_68
    exact ERR_o (a := 11) M t9 t8 hf (by omega)
  rcases hr with rfl | ⟨cnt, rfl, hcs, lst⟩
  · refine ok_br.mpr ⟨fun z => absurd z (by decide), fun _ => ok_br.mpr ⟨fun _ => wr, fun z => absurd z (by decide)⟩⟩
  · rw [lit0q]
    refine k_eq ⟨by omega, by omega⟩ ⟨by decide, by decide⟩ (fun hc0 => ?_) (fun hc0 => ?_)
    · rw [← lit0q, b0, bnd_so, I_lit (n := 2)]
      exact ok_bnd.mpr (ok_mono (ans_ok (N := N) (y := 2) (z := 2) (k := 2) (wd := 2) M hx t9 t8 hf p g0 rfl hk rfl (by omega) (by rw [show h - 2 + 1 = h - 1 by omega]; exact t2)) (fun w _ hw => ok_lt.mpr (ok_some.mpr hw.2)))
    · rw [m1I]
      refine k_eq ⟨by omega, by omega⟩ ⟨by decide, by decide⟩ (fun z => absurd z (by omega)) (fun _ => ?_)
      rw [I_lit (n := 2), show (OfNat.ofNat 2 : Int) = ((2 : Nat) : Int) from rfl, show (0 : Int) = ((0 : Nat) : Int) from rfl]
      refine ok_bnd.mpr (ok_mono (sizes_ok (N := N) p M.1.2.1 (by omega) (by omega) (by omega) hs (by omega)) (fun w1 r hw1 => ?_))
      obtain ⟨f1, rfl⟩ := hw1
      obtain ⟨M1, ph1, s9, s8⟩ := MI_fr M hx f1
      have p1 := PT_fr (q := q) f1 p
      have e2s : smm s 0 2 = s 0 + s 1 := by show 0 + s (0 + 0) + s (0 + 1) = _; simp
      rw [I_lit (n := 500), e2s]
      refine k_le ⟨by omega, by omega⟩ ⟨by decide, by decide⟩ (fun hle => ?_) (fun _ => ?_)
      · have hle : ((0 + (s 0 + s 1) : Nat) : Int) ≤ 500 := hle
        rw [I_mul, show ((2 : Nat) : Int) * ((cnt : Nat) : Int) = ((2 * cnt : Nat) : Int) by omega]
        refine ok_bnd.mpr (ok_mono (room_ok (N := N) M1 hx (by rw [s9]; exact t9) (by rw [s8]; exact t8) p1 ⟨by omega, by omega⟩ hN) (fun w2 r hw2 => ?_))
        rcases hw2 with ⟨rfl, e⟩ | ⟨rfl, ⟨M2, ph2, k9, k8⟩, ln2, fm2, -, U, ow2, kd2, p2, hU, sB, sW⟩
        · exact ok_br.mpr ⟨fun _ => ok_some.mpr (Or.inr (Or.inr (Or.inl e))), fun z => absurd z (by decide)⟩
        · refine ok_br.mpr ⟨fun z => absurd z (by decide), fun _ => ?_⟩
          obtain ⟨c1, -⟩ := below_1 (N := N) M2 p2 (by omega)
          rw [c1, bnd_so, I_F (k := pq q 4), p2.1.1]
          have e35 : w1.2.2.2 (pq q 35) = w.2.2.2 (pq q 35) := f1.2.2.2 _ (by simp; unfold pq; omega)
          have e2 : w1.2.2.2 (pq q 2) = w.2.2.2 (pq q 2) := f1.2.2.2 _ (by simp; unfold pq; omega)
          have sm1 := sW (wb + h - 1 - 1) (by omega)
          have sm0 := sW (wb + h - 1 - 0) (by omega)
          rw [e35, e2] at sm1 sm0
          have tags := LST_tags lst sm1
          obtain ⟨es, sr, q1, q2, q3, q4⟩ := CHN_szc (sm1.2.2 f0 (s 1) z1) cnt (fun j hj => by rw [tags j (by omega)]; exact (lst.2 j hj).1)
          have zr := sm0.2.2 f0 (s 0) (hs 0 (by omega))
          obtain ⟨l, l1, l2, l3⟩ := p2.2.2.2.2.2.1
          have loop : ∀ (K d : Nat) (v : MS), d ≤ cnt → cnt - d < K → CEL q w2 v → LRW (w2.2.2.2 (pq q 2)) (v.2.2.2 (pq q 2)) U d (fun j => w2.2.2.2 (pq q 2) (vn (tlc (w2.2.2.2 (pq q 2)) (w2.2.2.2 (pq q 35) (wb + h - 1 - 1)) j))) → OK (fun w _ => OPQ T Fv P PR q c w) (hg_Ma_join N K v q (I ((cnt : Nat) : Int)) (I ((U : Nat) : Int)) (tlc (w2.2.2.2 (pq q 2)) (w2.2.2.2 (pq q 35) (wb + h - 1 - 1)) d) (I ((d : Nat) : Int))) := by
            intro K
            induction K with
            | zero => intro d _ _ hK; omega
            | succ K ih =>
              intro d v hd hK cl lr
              show OK _ (hb_Ma_join_106 N (hg_Ma_join N K) v q (I ((cnt : Nat) : Int)) (I ((U : Nat) : Int)) _ (I ((d : Nat) : Int)))
              unfold hb_Ma_join_106
              refine k_le ⟨by omega, by omega⟩ ⟨by omega, by omega⟩ (fun hh => ?_) (fun hh => ?_)
              · have ed : d = cnt := by omega
                subst ed
                have bel : hm_Fr_below N v q 0 = some (v, w2.2.2.2 (pq q 35) (wb + h - 1 - 0)) := by
                  rw [lit0q, below_e (x := 0) (k := 0) (W := wb + h) (l := l) (by rw [cl.F]; exact p2.2.2.1.1) (by rw [cl.F]; exact l1) l2 l3 rfl (by omega), cl.2.2.1 _ (by unfold pq; omega)]
                rw [bel, bnd_so, endList_e (by omega) (by omega), bnd_so, I_lit (n := 7), e_make, bnd_so]
                obtain ⟨fm3, ow3, kd3, p3, gg2, g3⟩ := LST_fin (s := es) (f0 := f0) (sr := s 0) (rest := w2.2.2.2 (pq q 35) (wb + h - 1 - 0)) p2 cl lr (by omega) q1 zr (by omega) (by omega)
                rw [I_lit (n := 2)]
                refine ok_bnd.mpr (ok_mono (answer_t (N := N) (k := 2) p3 (LNB_m (LNB_fc ln2 (fun k _ => by show v.1 _ = _; rw [cl.2.1])) (by simp) (by omega)) rfl (by omega) (by omega) gg2) (fun w5 _ hw5 => ok_lt.mpr (ok_some.mpr ?_)))
                obtain ⟨fm5, p5, ln5⟩ := hw5
                rw [show wb + h - 2 + 1 = wb + (h - 1) by omega] at p5
                exact fin_t M2 k9 k8 (by omega) hx (FNc.tr fm3 fm5) p5 ln5 t2 (by show _ + (2 : Int) = _; omega) (by omega) (by omega)
              · have bk := q4 d (by omega)
                have hv := vn_e bk.1
                have hb2 : blk (w2.2.2.2 (pq q 2)) (tlc (w2.2.2.2 (pq q 2)) (w2.2.2.2 (pq q 35) (wb + h - 1 - 1)) d) = 2 := by unfold blk; rw [if_pos (by rw [tags d (by omega)]; exact (lst.2 d (by omega)).1)]
                have hbl := bk.2.2.2.1
                rw [hb2] at hbl
                rw [valI, hv]
                refine e_in ⟨by omega, by omega⟩ (by decide) ?_
                rw [I_lit (n := 2), I_mul, I_add, show ((U : Nat) : Int) + (OfNat.ofNat 2 : Int) * ((d : Nat) : Int) = ((U + 2 * d : Nat) : Int) by show _ + (2 : Int) * _ = _; omega]
                refine e_in ⟨by omega, by omega⟩ (by decide) (ok_lt.mpr ?_)
                rw [tnI (n := U + 2 * d) rfl (by omega), tnI (n := vn (tlc (w2.2.2.2 (pq q 2)) (w2.2.2.2 (pq q 35) (wb + h - 1 - 1)) d)) rfl (by omega), wj_e, I_add, I_lit (n := 7), e_make, bnd_so, lit1q, I_add]
                refine e_in ⟨by omega, by omega⟩ (by decide) (ok_lt.mpr ?_)
                rw [tnI (n := U + 2 * d + 1) (by omega) (by omega), wj_e, I_add]
                refine e_in ⟨by omega, by omega⟩ (by decide) ?_
                rw [I_add, show ((d : Nat) : Int) + 1 = ((d + 1 : Nat) : Int) by omega, show ((U + 2 * d : Nat) : Int) + (OfNat.ofNat 2 : Int) = ((U + 2 * (d + 1) : Nat) : Int) by show _ + (2 : Int) = _; omega, tnI (n := vn (tlc (w2.2.2.2 (pq q 2)) (w2.2.2.2 (pq q 35) (wb + h - 1 - 1)) d) + 1) (by omega) (by omega)]
                have lr2 := LRW_step (y := v.2.2.2 (pq q 2) (vn (tlc (w2.2.2.2 (pq q 2)) (w2.2.2.2 (pq q 35) (wb + h - 1 - 1)) d))) lr (by rw [lr.1 _ (by omega)])
                have e3 := lr2.1 (vn (tlc (w2.2.2.2 (pq q 2)) (w2.2.2.2 (pq q 35) (wb + h - 1 - 1)) d) + 1) (by omega)
                rw [e3]
                exact ih (d + 1) _ (by omega) (by omega) cl.put.put lr2
          have := loop N 0 w2 (by omega) (by omega) CEL.rf ⟨fun _ _ => rfl, fun j hj => by omega⟩
          exact this
      · unfold hb_Ma_join_68
        exact ERR_o (a := 11) M1 (by rw [s9]; exact t9) (by rw [s8]; exact t8) (by rw [ph1]; exact hf) (by omega)
end
end
section
set_option maxRecDepth 100000
section
variable {T : Nat → Option (Nat × Nat × List Nat × Nat × Nat)} {Fv : Int64 → Int64 → Prop} {P : Int64 → Prop} {u v w w1 : MS} {PR N q r n B W Y i h m g x j wb nb cb rk c f i2 h2 m2 k a U d : Nat} {L : List Nat} {ow kd : Nat → Nat} {t rest : Int64} {gi gl ga ki kl ka kj : List Nat}
theorem LST_at {hh : Nat → Int64} (g : HPc hh n ow kd Fv P) (l : LSTc hh n ow kd Fv P t k) (hj : j < k) : so (tlc hh t j) = 7 ∧ va (tlc hh t j) = ((vn (tlc hh t j) : Nat) : Int) ∧ vn (tlc hh t j) + 2 ≤ n ∧ GT n ow kd P (hh (vn (tlc hh t j))) := by
  obtain ⟨e7, bk, f, s, z⟩ := l.2 j hj
  have hH : isH (tlc hh t j) := Or.inr (Or.inr e7)
  have hb2 : blk hh (tlc hh t j) = 2 := by unfold blk; rw [if_pos e7]
  have hp : prt (tlc hh t j) = 0 := by unfold prt; rw [if_pos e7]
  have hbl := bk.2.2.2.1
  rw [hb2] at hbl
  obtain ⟨-, b2⟩ := HP_bkc g hH (SZ_gtc z)
  exact ⟨e7, vn_e bk.1, hbl, b2 0 (by omega) (by omega)⟩
theorem FR_44 (f : FR [] [] [] [44, 45, 46] u w) {gg : Nat → Int64} : FR [] [] [] [44, 45, 46] u (upJ w 44 gg) := ⟨f.1, f.2.1, f.2.2.1, fun k hk => (if_neg (fun e => hk (by rw [e]; simp))).trans (f.2.2.2 k hk)⟩
theorem markGone_ok {cnt k0 : Nat} (M : MIc T Fv P PR q u i h m L g x j wb nb cb rk) (p : PTQ u q n ow kd Fv P (nb + m) (wb + h) Y) (hk : 2 ≤ h) (l1 : LSTc (u.2.2.2 (pq q 2)) n ow kd Fv P (u.2.2.2 (pq q 35) (wb + h - 1 - 1)) cnt) (l0 : LSTc (u.2.2.2 (pq q 2)) n ow kd Fv P (u.2.2.2 (pq q 35) (wb + h - 1)) k0) (hc : cnt ≤ 1000) (hk0 : k0 ≤ 1000) (hN : 600000000010 ≤ N) : OK (fun w r => FR [] [] [] [44, 45, 46] u w ∧ ∃ up : Nat, r = I ((up : Nat) : Int) ∧ up ≤ cnt) (hm_Ma_markGone N u q (I ((cnt : Nat) : Int))) := by
  have pn := p.1.2.1
  have bel : ∀ {w : MS}, FR [] [] [] [44, 45, 46] u w → hm_Fr_below N w q 0 = some (w, u.2.2.2 (pq q 35) (wb + h - 1)) ∧ hm_Fr_below N w q 1 = some (w, u.2.2.2 (pq q 35) (wb + h - 1 - 1)) := fun {w} fr => by
    have pw := PT_fr (q := q) fr p
    obtain ⟨l, k1, k2, k3⟩ := pw.2.2.2.2.2.1
    have e35 : w.2.2.2 (pq q 35) = u.2.2.2 (pq q 35) := fr.2.2.2 _ (by simp; unfold pq; omega)
    rw [← e35]
    exact ⟨below_e (x := 0) (k := 0) pw.2.2.1.1 k1 k2 k3 rfl (by omega), below_e (x := 1) (k := 1) pw.2.2.1.1 k1 k2 k3 rfl (by omega)⟩
  have ce : ∀ {w : MS}, FR [] [] [] [44, 45, 46] u w → w.2.2.2 (pq q 2) = u.2.2.2 (pq q 2) := fun fr => fr.2.2.2 _ (by simp; unfold pq; omega)
  have mul : ∀ d, d < k0 → (k0 - d) * (cnt + 5) = (k0 - (d + 1)) * (cnt + 5) + (cnt + 5) := fun d hd => by
    rw [show k0 - d = (k0 - (d + 1)) + 1 by omega, Nat.add_mul, Nat.one_mul]
  have gen : ∀ K,
      (∀ i w, i ≤ cnt → cnt - i + k0 * (cnt + 5) + 10 < K → FR [] [] [] [44, 45, 46] u w → OK (fun w r => FR [] [] [] [44, 45, 46] u w ∧ ∃ up : Nat, r = I ((up : Nat) : Int) ∧ up ≤ cnt) ((hg_Ma_markGone N K).1 w q (I ((cnt : Nat) : Int)) (I ((i : Nat) : Int)))) ∧
      (∀ d up w, d ≤ k0 → up ≤ cnt → (k0 - d) * (cnt + 5) + 5 < K → FR [] [] [] [44, 45, 46] u w → OK (fun w r => FR [] [] [] [44, 45, 46] u w ∧ ∃ up : Nat, r = I ((up : Nat) : Int) ∧ up ≤ cnt) ((hg_Ma_markGone N K).2.1 w q (I ((cnt : Nat) : Int)) (I ((up : Nat) : Int)) (tlc (u.2.2.2 (pq q 2)) (u.2.2.2 (pq q 35) (wb + h - 1)) d) (I ((d : Nat) : Int)))) ∧
      (∀ d up i w, d < k0 → up ≤ cnt → i ≤ cnt → (k0 - (d + 1)) * (cnt + 5) + 7 + (cnt - i) < K → FR [] [] [] [44, 45, 46] u w → OK (fun w r => FR [] [] [] [44, 45, 46] u w ∧ ∃ up : Nat, r = I ((up : Nat) : Int) ∧ up ≤ cnt) ((hg_Ma_markGone N K).2.2 w q (I ((cnt : Nat) : Int)) (I ((up : Nat) : Int)) (tlc (u.2.2.2 (pq q 2)) (u.2.2.2 (pq q 35) (wb + h - 1)) d) (I ((d : Nat) : Int)) (tlc (u.2.2.2 (pq q 2)) (u.2.2.2 (pq q 35) (wb + h - 1 - 1)) i) (I ((i : Nat) : Int)))) := by
    intro K
    induction K with
    | zero => exact ⟨fun _ _ _ hh => by omega, fun _ _ _ _ _ hh => by omega, fun _ _ _ _ _ _ _ hh => by omega⟩
    | succ K ih =>
      refine ⟨fun i w hi hK fr => ?_, fun d up w hd hup hK fr => ?_, fun d up i w hd hup hi hK fr => ?_⟩
      · show OK _ (hb_Ma_markGone_2 N (hg_Ma_markGone N K) w q (I ((cnt : Nat) : Int)) (I ((i : Nat) : Int)))
        unfold hb_Ma_markGone_2
        refine k_le ⟨by omega, by omega⟩ ⟨by omega, by omega⟩ (fun hh => ?_) (fun hh => ?_)
        · rw [(bel fr).1, bnd_so, lit0q, show (0 : Int) = ((0 : Nat) : Int) from rfl]
          exact ih.2.1 0 0 w (by omega) (by omega) (by rw [Nat.sub_zero]; omega) fr
        · refine e_in ⟨by omega, by omega⟩ (by decide) (ok_lt.mpr ?_)
          rw [lit1q, I_add, show ((i : Nat) : Int) + 1 = ((i + 1 : Nat) : Int) by omega]
          exact ih.1 (i + 1) _ (by omega) (by omega) (FR_44 fr)
      · show OK _ (hb_Ma_markGone_37 N (hg_Ma_markGone N K) w q (I ((cnt : Nat) : Int)) (I ((up : Nat) : Int)) _ (I ((d : Nat) : Int)))
        unfold hb_Ma_markGone_37 hb_Ma_markGone_188
        rw [I_lit (n := 1000000000)]
        refine k_le ⟨by decide, by decide⟩ ⟨by omega, by omega⟩ (fun z => absurd (show (1000000000 : Int) ≤ _ from z) (by omega)) (fun _ => ?_)
        rw [e_tag, bnd_so, I_lit (n := 7)]
        refine k_eq (so_r _) ⟨by decide, by decide⟩ (fun e7 => ?_) (fun _ => ok_some.mpr ⟨fr, up, rfl, hup⟩)
        have hdk : d < k0 := by
          rcases Nat.lt_or_ge d k0 with z | z
          · exact z
          · exfalso
            have ed : d = k0 := by omega
            have e7 : so (tlc (u.2.2.2 (pq q 2)) (u.2.2.2 (pq q 35) (wb + h - 1)) d) = 7 := e7
            rw [ed, l0.1] at e7
            exact absurd e7 (by decide)
        rw [(bel fr).2, bnd_so, lit0q, show (0 : Int) = ((0 : Nat) : Int) from rfl]
        have := mul d hdk
        exact ih.2.2 d up 0 w hdk hup (by omega) (by omega) fr
      · have nx : ∀ (up2 : Nat) (w2 : MS), up2 ≤ cnt → FR [] [] [] [44, 45, 46] u w2 → OK (fun w r => FR [] [] [] [44, 45, 46] u w ∧ ∃ up : Nat, r = I ((up : Nat) : Int) ∧ up ≤ cnt) (hb_Ma_markGone_169 N (hg_Ma_markGone N K) w2 q (I ((cnt : Nat) : Int)) (I ((up2 : Nat) : Int)) (tlc (u.2.2.2 (pq q 2)) (u.2.2.2 (pq q 35) (wb + h - 1)) d) (I ((d : Nat) : Int))) := by
          intro up2 w2 hup2 fr2
          unfold hb_Ma_markGone_169
          obtain ⟨a1, a2, a3, a4⟩ := LST_at p.1.2.2 l0 hd
          rw [valI, a2, lit1q, I_add]
          refine e_in ⟨by omega, by omega⟩ (by decide) ?_
          rw [tnI (n := vn (tlc (u.2.2.2 (pq q 2)) (u.2.2.2 (pq q 35) (wb + h - 1)) d) + 1) (by omega) (by omega), ce fr2, I_add, show ((d : Nat) : Int) + 1 = ((d + 1 : Nat) : Int) by omega]
          exact ih.2.1 (d + 1) up2 w2 (by omega) hup2 (by omega) fr2
        show OK _ (hb_Ma_markGone_66 N (hg_Ma_markGone N K) w q (I ((cnt : Nat) : Int)) (I ((up : Nat) : Int)) _ (I ((d : Nat) : Int)) _ (I ((i : Nat) : Int)))
        unfold hb_Ma_markGone_66
        refine k_le ⟨by omega, by omega⟩ ⟨by omega, by omega⟩ (fun hh => nx up w hup fr) (fun hh => ?_)
        obtain ⟨a1, a2, a3, a4⟩ := LST_at p.1.2.2 l0 hd
        obtain ⟨b1, b2, b3, b4⟩ := LST_at (j := i) p.1.2.2 l1 (by omega)
        have nx2 : ∀ w2, FR [] [] [] [44, 45, 46] u w2 → OK (fun w r => FR [] [] [] [44, 45, 46] u w ∧ ∃ up : Nat, r = I ((up : Nat) : Int) ∧ up ≤ cnt) (hb_Ma_markGone_148 N (hg_Ma_markGone N K) w2 q (I ((cnt : Nat) : Int)) (I ((up : Nat) : Int)) (tlc (u.2.2.2 (pq q 2)) (u.2.2.2 (pq q 35) (wb + h - 1)) d) (I ((d : Nat) : Int)) (tlc (u.2.2.2 (pq q 2)) (u.2.2.2 (pq q 35) (wb + h - 1 - 1)) i) (I ((i : Nat) : Int))) := by
          intro w2 fr2
          unfold hb_Ma_markGone_148
          rw [valI, b2, lit1q, I_add]
          refine e_in ⟨by omega, by omega⟩ (by decide) ?_
          rw [tnI (n := vn (tlc (u.2.2.2 (pq q 2)) (u.2.2.2 (pq q 35) (wb + h - 1 - 1)) i) + 1) (by omega) (by omega), ce fr2, I_add, show ((i : Nat) : Int) + 1 = ((i + 1 : Nat) : Int) by omega]
          exact ih.2.2 d up (i + 1) w2 hd hup (by omega) (by omega) fr2
        refine e_in ⟨by omega, by omega⟩ (by decide) (ok_br.mpr ⟨fun _ => ?_, fun _ => nx2 w fr⟩)
        rw [valI, b2, valI, a2]
        refine e_in ⟨by omega, by omega⟩ (by decide) (e_in ⟨by omega, by omega⟩ (by decide) ?_)
        rw [tnI (n := vn (tlc (u.2.2.2 (pq q 2)) (u.2.2.2 (pq q 35) (wb + h - 1 - 1)) i)) rfl (by omega), tnI (n := vn (tlc (u.2.2.2 (pq q 2)) (u.2.2.2 (pq q 35) (wb + h - 1)) d)) rfl (by omega), ce fr]
        have cw : CTX Fv P w := CTX_fr M.1.2.1 (fr.1 22 (by simp)) (fr.2.2.1 3 (by simp))
        refine ok_bnd.mpr (ok_mono (orderc_ok (N := N) (n := n) (ow := ow) (kd := kd) (Fv := Fv) (P := P) (b := pq q 2) (by unfold pq; omega) (ce fr) (by omega) p.1.2.2 cw.2.1 cw.1 cw.2.2.1 b4 a4 hN) (fun w3 r3 hw3 => ?_))
        have fr3 : FR [] [] [] [44, 45, 46] u w3 := FR.tr fr (FR.mo hw3 (by simp) (by simp) (by simp) (by simp))
        refine ok_br.mpr ⟨fun _ => ?_, fun _ => nx2 w3 fr3⟩
        refine e_in ⟨by omega, by omega⟩ (by decide) (ok_lt.mpr (ok_lt.mpr ?_))
        rw [lit1q, I_add]
        by_cases z : ((up : Nat) : Int) < ((i : Nat) : Int) + 1
        · rw [if_pos ((I_lt (by omega) (by omega) (by omega) (by omega)).mpr z), show ((i : Nat) : Int) + 1 = ((i + 1 : Nat) : Int) by omega]
          exact nx (i + 1) _ (by omega) (FR_44 fr3)
        · rw [if_neg (fun y => z ((I_lt (by omega) (by omega) (by omega) (by omega)).mp y))]
          exact nx up _ hup (FR_44 fr3)
  unfold hm_Ma_markGone hb_Ma_markGone_0
  rw [lit0q, show (0 : Int) = ((0 : Nat) : Int) from rfl]
  have hm : k0 * (cnt + 5) ≤ 1000 * 1005 := Nat.mul_le_mul hk0 (by omega)
  exact (gen N).1 0 u (by omega) (by omega) FR.rf
theorem without_ok (M : MIc T Fv P PR q u i h m L g x j wb nb cb rk) (hx : x < i) (t9 : F u 1109 = 0) (t8 : F u 1108 = 0) (hf : PHc T u q i x rk ≤ c) (hk : 2 ≤ h) (t2 : T (i + 2) = some (h - 1, m, L, g, x)) (hN : 600000000010 ≤ N) : OK (fun w _ => OPQ T Fv P PR q c w) (hm_Ma_without N u q) := by
  obtain ⟨n, ow, kd, Y, p⟩ := MI_p M
  have mb := MI_b M
  obtain ⟨b0, g0⟩ := below_0 (N := N) M p (by omega)
  obtain ⟨b1, g1⟩ := below_1 (N := N) M p (by omega)
  obtain ⟨f0, s, hs⟩ := sz_w (k := 2) p (by omega)
  have z1 := hs 1 (by omega)
  have z0 := hs 0 (by omega)
  have s1b := SZ_1000c p.1.2.2 p.1.2.1 z1
  have s0b := SZ_1000c p.1.2.2 p.1.2.1 z0
  have pn := p.1.2.1
  have wr : ∀ {w : MS} {i2}, MIc T Fv P PR q w i h m L g x j wb nb cb rk → F w 1109 = 0 → F w 1108 = 0 → PHc T w q i x rk ≤ c → OK (fun w _ => OPQ T Fv P PR q c w) (hb_Ma_without_61 N (hg_Ma_without N i2) w q) := fun {w i2} M t9 t8 hf => by
    unfold hb_Ma_without_61
    exact ERR_o (a := 11) M t9 t8 hf (by omega)
  unfold hm_Ma_without hb_Ma_without_0
  rw [b1, bnd_so]
  refine ok_bnd.mpr (ok_mono (listLength_ok (N := N) (b := pq q 2) rfl (by omega) z1 (by omega) (by omega)) (fun w r hw => ?_))
  obtain ⟨rfl, hr⟩ := hw
  rcases hr with rfl | ⟨cnt, rfl, hcs, lst1⟩
  · exact ok_br.mpr ⟨fun _ => wr M t9 t8 hf, fun z => absurd z (by decide)⟩
  rw [m1I]
  refine k_eq ⟨by omega, by omega⟩ ⟨by decide, by decide⟩ (fun z => absurd z (by omega)) (fun _ => ?_)
  rw [I_lit (n := 2048)]
  refine k_lt ⟨by decide, by decide⟩ ⟨by omega, by omega⟩ (fun z => absurd (show (2048 : Int) < _ from z) (by omega)) (fun _ => ?_)
  rw [b0, bnd_so]
  refine ok_bnd.mpr (ok_mono (listLength_ok (N := N) (b := pq q 2) rfl (by omega) z0 (by omega) (by omega)) (fun w' r hw => ?_))
  obtain ⟨rfl, hr⟩ := hw
  rcases hr with rfl | ⟨k0, rfl, hks, lst0⟩
  · exact ok_br.mpr ⟨fun _ => wr M t9 t8 hf, fun z => absurd z (by decide)⟩
  refine k_eq ⟨by omega, by omega⟩ ⟨by decide, by decide⟩ (fun z => absurd z (by omega)) (fun _ => ?_)
  refine ok_bnd.mpr (ok_mono (markGone_ok (N := N) M p hk lst1 lst0 (by omega) (by omega) hN) (fun w1 r hw1 => ?_))
  obtain ⟨f1, up, rfl, hup⟩ := hw1
  obtain ⟨M1, ph1, s9, s8⟩ := MI_fr M hx f1
  have p1 := PT_fr (q := q) f1 p
  have e35 : w1.2.2.2 (pq q 35) = w'.2.2.2 (pq q 35) := f1.2.2.2 _ (by simp; unfold pq; omega)
  have e2 : w1.2.2.2 (pq q 2) = w'.2.2.2 (pq q 2) := f1.2.2.2 _ (by simp; unfold pq; omega)
  have loopB : ∀ (w2 : MS) (U : Nat) (ow2 kd2 : Nat → Nat), MIc T Fv P PR q w2 i h m L g x j wb nb cb rk → PHc T w2 q i x rk ≤ c → F w2 1109 = 0 → F w2 1108 = 0 → LNB w2 q → w2.2.2.2 44 = w1.2.2.2 44 → PTQ w2 q U ow2 kd2 Fv P (nb + m) (wb + h) Y → U + 2 * zcn (w1.2.2.2 44) up ≤ 500 → (∀ j, j ≤ cnt → so (tlc (w2.2.2.2 (pq q 2)) (w2.2.2.2 (pq q 35) (wb + h - 1 - 1)) j) = so (tlc (w'.2.2.2 (pq q 2)) (w'.2.2.2 (pq q 35) (wb + h - 1 - 1)) j)) → ∀ (K d : Nat) (v : MS), d ≤ up → up - d < K → CEL q w2 v → (∃ e : Nat → Int64, ∃ se : Nat → Nat, ∃ ff sd rd, LRW (w2.2.2.2 (pq q 2)) (v.2.2.2 (pq q 2)) U (zcn (w1.2.2.2 44) d) e ∧ (∀ j, j < zcn (w1.2.2.2 44) d → SZc (w2.2.2.2 (pq q 2)) U ow2 kd2 Fv P ff (e j) (se j)) ∧ SZc (w2.2.2.2 (pq q 2)) U ow2 kd2 Fv P ff (tlc (w2.2.2.2 (pq q 2)) (w2.2.2.2 (pq q 35) (wb + h - 1 - 1)) d) rd ∧ 2 * zcn (w1.2.2.2 44) d + smm se 0 (zcn (w1.2.2.2 44) d) + rd ≤ sd ∧ (1 ≤ d → sd ≤ 500) ∧ ∃ f2, SZc (w2.2.2.2 (pq q 2)) U ow2 kd2 Fv P f2 (w2.2.2.2 (pq q 35) (wb + h - 1 - 1)) sd) → OK (fun w _ => OPQ T Fv P PR q c w) ((hg_Ma_without N K).2 v q (I ((up : Nat) : Int)) (I ((U : Nat) : Int)) (I ((zcn (w1.2.2.2 44) d : Nat) : Int)) (tlc (w2.2.2.2 (pq q 2)) (w2.2.2.2 (pq q 35) (wb + h - 1 - 1)) d) (I ((d : Nat) : Int))) := by
    intro w2 U ow2 kd2 M2 ph2 k9 k8 ln2 e44 p2 hU tags K
    induction K with
    | zero => intro d _ _ hK; omega
    | succ K ih =>
      intro d v hd hK cl ⟨e, se, ff, sd, rd, lr, hse, hrd, hsum, h500, f2, zt⟩
      show OK _ (hb_Ma_without_150 N (hg_Ma_without N K) v q (I ((up : Nat) : Int)) (I ((U : Nat) : Int)) (I ((zcn (w1.2.2.2 44) d : Nat) : Int)) _ (I ((d : Nat) : Int)))
      unfold hb_Ma_without_150
      have zle := zcn_le (w1.2.2.2 44) d
      have zmo := zcn_mono (w1.2.2.2 44) hd
      have cx := M2.1.2.1
      refine k_le ⟨by omega, by omega⟩ ⟨by omega, by omega⟩ (fun hh => ?_) (fun hh => ?_)
      · have ed : d = up := by omega
        have fin : ∀ (G : (MS → Nat → Int32 → Int32 → Int32 → Option (MS × Unit)) × (MS → Nat → Int32 → Int32 → Int32 → Int64 → Int32 → Option (MS × Unit))) (w : MS) (n3 : Nat) (ow3 kd3 : Nat → Nat) (y : Int64), FNc q w2 w → PTQ w q n3 ow3 kd3 Fv P (nb + m) (wb + h) Y → LNB w q → GT n3 ow3 kd3 P y → OK (fun w _ => OPQ T Fv P PR q c w) (hb_Ma_without_281 N G w q 2 y) := by
          intro G w n3 ow3 kd3 y fm3 p3 ln3 gy
          unfold hb_Ma_without_281
          rw [I_lit (n := 2)]
          refine ok_bnd.mpr (ok_mono (answer_t (N := N) (k := 2) p3 ln3 rfl (by omega) (by omega) gy) (fun w5 _ hw5 => ok_lt.mpr (ok_some.mpr ?_)))
          obtain ⟨fm5, p5, ln5⟩ := hw5
          rw [show wb + h - 2 + 1 = wb + (h - 1) by omega] at p5
          exact fin_t M2 k9 k8 ph2 hx (FNc.tr fm3 fm5) p5 ln5 t2 (by show _ + (2 : Int) = _; omega) (by omega) (by omega)
        by_cases z : zcn (w1.2.2.2 44) d = 0
        · rw [z, endList_0, bnd_so]
          refine ok_br.mpr ⟨fun _ => ?_, fun y => absurd y (by decide)⟩
          obtain ⟨fm3, p3⟩ := use_t p2 cl (n2 := U) (by omega) (HP_holec (h2 := v.2.2.2 (pq q 2)) 0 p2.1.2.2 lr.1) (fun t gt => GT_hole 0 gt)
          exact fin _ _ _ _ _ _ fm3 p3 (LNB_m (LNB_fc ln2 (fun k _ => by rw [cl.2.1])) (by simp) (by omega)) (GT_hole 0 (SZ_gtc hrd))
        · rw [endList_e (by omega) (by rw [ed]; omega), bnd_so, lit0q]
          refine k_eq ⟨by omega, by omega⟩ ⟨by decide, by decide⟩ (fun y => absurd y (by omega)) (fun _ => ?_)
          rw [I_lit (n := 7), e_make, bnd_so]
          obtain ⟨fm3, ow3, kd3, p3, gg2, g3⟩ := LST_fin (s := se) (f0 := ff) (sr := rd) (rest := tlc (w2.2.2.2 (pq q 2)) (w2.2.2.2 (pq q 35) (wb + h - 1 - 1)) d) p2 cl lr (by omega) hse hrd (by rw [ed]; omega) (by have := h500 (by omega); omega)
          exact fin _ _ _ _ _ _ fm3 p3 (LNB_m (LNB_fc ln2 (fun k _ => by show v.1 _ = _; rw [cl.2.1])) (by simp) (by omega)) gg2
      · have e7 : so (tlc (w2.2.2.2 (pq q 2)) (w2.2.2.2 (pq q 35) (wb + h - 1 - 1)) d) = 7 := by rw [tags d (by omega)]; exact (lst1.2 d (by omega)).1
        have hH : isH (tlc (w2.2.2.2 (pq q 2)) (w2.2.2.2 (pq q 35) (wb + h - 1 - 1)) d) := Or.inr (Or.inr e7)
        obtain ⟨ff2, c2, bk, c3, c4⟩ := SZ_blkc hrd hH
        have hb2 : blk (w2.2.2.2 (pq q 2)) (tlc (w2.2.2.2 (pq q 2)) (w2.2.2.2 (pq q 35) (wb + h - 1 - 1)) d) = 2 := by unfold blk; rw [if_pos e7]
        have hp : prt (tlc (w2.2.2.2 (pq q 2)) (w2.2.2.2 (pq q 35) (wb + h - 1 - 1)) d) = 0 := by unfold prt; rw [if_pos e7]
        rw [hb2, hp] at c3 c4
        have hbl := bk.2.2.2.1
        rw [hb2] at hbl
        have hv := vn_e bk.1
        have es2 : smm c2 0 (2 - 0) = c2 0 + c2 1 := by show 0 + c2 (0 + 0) + c2 (0 + 1) = _; simp
        have sd5 : sd ≤ 500 := by
          have e70 : so (w2.2.2.2 (pq q 35) (wb + h - 1 - 1)) = 7 := by
            have := tags 0 (by omega)
            rw [show tlc (w2.2.2.2 (pq q 2)) (w2.2.2.2 (pq q 35) (wb + h - 1 - 1)) 0 = w2.2.2.2 (pq q 35) (wb + h - 1 - 1) from rfl] at this
            rw [this]; exact (lst1.2 0 (by omega)).1
          obtain ⟨fa, sa, za, zb⟩ := p2.1.2.2 _ (Or.inr (Or.inr e70)) (p2.2.2.1.2 _ (by omega))
          have esd := SZ_func za zt
          rcases Nat.lt_or_ge 500 sd with y | y
          · have := (zb (by omega)).1; omega
          · exact y
        have nx : ∀ (v2 : MS) (z2 : Nat), z2 = zcn (w1.2.2.2 44) (d + 1) → CEL q w2 v2 → (∀ k, k < U → v2.2.2.2 (pq q 2) k = w2.2.2.2 (pq q 2) k) → (∃ e : Nat → Int64, ∃ se : Nat → Nat, LRW (w2.2.2.2 (pq q 2)) (v2.2.2.2 (pq q 2)) U z2 e ∧ (∀ j, j < z2 → SZc (w2.2.2.2 (pq q 2)) U ow2 kd2 Fv P (ff + ff2) (e j) (se j)) ∧ 2 * z2 + smm se 0 z2 + c2 1 ≤ sd) → OK (fun w _ => OPQ T Fv P PR q c w) (hb_Ma_without_231 N (hg_Ma_without N K) v2 q (I ((up : Nat) : Int)) (I ((U : Nat) : Int)) (I ((z2 : Nat) : Int)) (tlc (w2.2.2.2 (pq q 2)) (w2.2.2.2 (pq q 35) (wb + h - 1 - 1)) d) (I ((d : Nat) : Int))) := by
          intro v2 z2 hz2 cl2 lo ⟨e2', se2, l2, l3, l4⟩
          unfold hb_Ma_without_231
          rw [valI, hv, lit1q, I_add]
          refine e_in ⟨by omega, by omega⟩ (by decide) ?_
          rw [tnI (n := vn (tlc (w2.2.2.2 (pq q 2)) (w2.2.2.2 (pq q 35) (wb + h - 1 - 1)) d) + 1) (by omega) (by omega), lo _ (by omega), I_add, show ((d : Nat) : Int) + 1 = ((d + 1 : Nat) : Int) by omega, hz2]
          refine ih (d + 1) v2 (by omega) (by omega) cl2 ⟨e2', se2, ff + ff2, sd, c2 1, by rw [← hz2]; exact l2, by rw [← hz2]; exact l3, SZ_lec (c3 1 (by omega) (by omega)) (by omega), by rw [← hz2]; exact l4, fun _ => sd5, f2, zt⟩
        refine e_in ⟨by omega, by omega⟩ (by decide) ?_
        rw [tnI (n := d) rfl (by omega), cl.2.2.1 44 (by unfold pq; omega), e44]
        refine ok_br.mpr ⟨fun y => ?_, fun y => ?_⟩
        · have y := of_decide_eq_true y
          have ez : zcn (w1.2.2.2 44) (d + 1) = zcn (w1.2.2.2 44) d + 1 := by show zcn (w1.2.2.2 44) d + _ = _; rw [if_pos y]
          have zm2 := zcn_mono (w1.2.2.2 44) (show d + 1 ≤ up by omega)
          rw [valI, hv]
          refine e_in ⟨by omega, by omega⟩ (by decide) ?_
          rw [I_lit (n := 2), I_mul, I_add, show ((U : Nat) : Int) + (OfNat.ofNat 2 : Int) * ((zcn (w1.2.2.2 44) d : Nat) : Int) = ((U + 2 * zcn (w1.2.2.2 44) d : Nat) : Int) by show _ + (2 : Int) * _ = _; omega]
          refine e_in ⟨by omega, by omega⟩ (by decide) (ok_lt.mpr ?_)
          rw [tnI (n := U + 2 * zcn (w1.2.2.2 44) d) rfl (by omega), tnI (n := vn (tlc (w2.2.2.2 (pq q 2)) (w2.2.2.2 (pq q 35) (wb + h - 1 - 1)) d)) rfl (by omega), wj_e, I_add, I_lit (n := 7), e_make, bnd_so, lit1q, I_add]
          refine e_in ⟨by omega, by omega⟩ (by decide) (ok_lt.mpr ?_)
          rw [tnI (n := U + 2 * zcn (w1.2.2.2 44) d + 1) (by omega) (by omega), wj_e, I_add, show ((zcn (w1.2.2.2 44) d : Nat) : Int) + 1 = ((zcn (w1.2.2.2 44) d + 1 : Nat) : Int) by omega, show ((U + 2 * zcn (w1.2.2.2 44) d : Nat) : Int) + (OfNat.ofNat 2 : Int) = ((U + 2 * (zcn (w1.2.2.2 44) d + 1) : Nat) : Int) by show _ + (2 : Int) = _; omega]
          have lr2 := LRW_step (e := fun j => if j = zcn (w1.2.2.2 44) d then w2.2.2.2 (pq q 2) (vn (tlc (w2.2.2.2 (pq q 2)) (w2.2.2.2 (pq q 35) (wb + h - 1 - 1)) d)) else e j) (y := v.2.2.2 (pq q 2) (vn (tlc (w2.2.2.2 (pq q 2)) (w2.2.2.2 (pq q 35) (wb + h - 1 - 1)) d))) ⟨lr.1, fun j hj => ⟨(lr.2 j hj).1.trans (if_neg (by omega)).symm, (lr.2 j hj).2⟩⟩ (by rw [lr.1 _ (by omega)]; exact (if_pos rfl).symm)
          refine nx _ _ ez.symm cl.put.put lr2.1 ⟨_, fun j => if j = zcn (w1.2.2.2 44) d then c2 0 else se j, lr2, fun j hj => ?_, ?_⟩
          · by_cases ej : j = zcn (w1.2.2.2 44) d
            · simp only [if_pos ej]
              exact SZ_lec (c3 0 (by omega) (by omega)) (by omega)
            · simp only [if_neg ej]
              exact SZ_lec (hse j (by omega)) (by omega)
          · rw [smm_upd]; omega
        · have y := of_decide_eq_false y
          have ez : zcn (w1.2.2.2 44) (d + 1) = zcn (w1.2.2.2 44) d := by show zcn (w1.2.2.2 44) d + _ = _; rw [if_neg y]; rfl
          exact nx v _ ez.symm cl lr.1 ⟨e, se, lr, fun j hj => SZ_lec (hse j hj) (by omega), by omega⟩
  have loopA : ∀ (K d : Nat), d ≤ up → up - d + up + 5 < K → OK (fun w _ => OPQ T Fv P PR q c w) ((hg_Ma_without N K).1 w1 q (I ((up : Nat) : Int)) (I ((zcn (w1.2.2.2 44) d : Nat) : Int)) (I ((d : Nat) : Int))) := by
    intro K
    induction K with
    | zero => intro d _ hK; omega
    | succ K ih =>
      intro d hd hK
      show OK _ (hb_Ma_without_79 N (hg_Ma_without N K) w1 q (I ((up : Nat) : Int)) (I ((zcn (w1.2.2.2 44) d : Nat) : Int)) (I ((d : Nat) : Int)))
      unfold hb_Ma_without_79 hb_Ma_without_106
      have zle := zcn_le (w1.2.2.2 44) d
      refine k_le ⟨by omega, by omega⟩ ⟨by omega, by omega⟩ (fun hh => ?_) (fun hh => ?_)
      · have ed : d = up := by omega
        subst ed
        rw [I_lit (n := 2), I_mul, show (OfNat.ofNat 2 : Int) * ((zcn (w1.2.2.2 44) d : Nat) : Int) = ((2 * zcn (w1.2.2.2 44) d : Nat) : Int) by show (2 : Int) * _ = _; omega]
        refine ok_bnd.mpr (ok_mono (room_ok (N := N) M1 hx (by rw [s9]; exact t9) (by rw [s8]; exact t8) p1 ⟨by omega, by omega⟩ (by omega)) (fun w2 r hw2 => ?_))
        rcases hw2 with ⟨rfl, e⟩ | ⟨rfl, ⟨M2, ph2, k9, k8⟩, ln2, fm2, ⟨e44, -⟩, U, ow2, kd2, p2, hU, sB, sW⟩
        · exact ok_br.mpr ⟨fun _ => ok_some.mpr (Or.inr (Or.inr (Or.inl e))), fun z => absurd z (by decide)⟩
        · refine ok_br.mpr ⟨fun z => absurd z (by decide), fun _ => ?_⟩
          obtain ⟨c1, -⟩ := below_1 (N := N) M2 p2 (by omega)
          rw [c1, bnd_so, I_F (k := pq q 4), p2.1.1]
          have sm1 := sW (wb + h - 1 - 1) (by omega)
          rw [e35, e2] at sm1
          have tags := LST_tags lst1 sm1
          have zt := sm1.2.2 f0 (s 1) z1
          have := loopB w2 U ow2 kd2 M2 (by omega) k9 k8 ln2 e44 p2 (by omega) tags K 0 w2 (by omega) (by omega) CEL.rf ⟨fun _ => 0, fun _ => 0, f0, s 1, s 1, ⟨fun _ _ => rfl, fun j hj => absurd hj (Nat.not_lt_zero j)⟩, fun j hj => absurd hj (Nat.not_lt_zero j), zt, by show 2 * 0 + 0 + s 1 ≤ s 1; omega, fun y => by omega, f0, zt⟩
          exact this
      · refine e_in ⟨by omega, by omega⟩ (by decide) ?_
        rw [tnI (n := d) rfl (by omega)]
        refine ok_br.mpr ⟨fun y => ?_, fun y => ?_⟩
        · have ez : zcn (w1.2.2.2 44) (d + 1) = zcn (w1.2.2.2 44) d + 1 := by show zcn (w1.2.2.2 44) d + _ = _; rw [if_pos (of_decide_eq_true y)]
          rw [lit1q, I_add, I_add, show ((zcn (w1.2.2.2 44) d : Nat) : Int) + 1 = ((zcn (w1.2.2.2 44) (d + 1) : Nat) : Int) by omega, show ((d : Nat) : Int) + 1 = ((d + 1 : Nat) : Int) by omega]
          exact ih (d + 1) (by omega) (by omega)
        · have ez : zcn (w1.2.2.2 44) (d + 1) = zcn (w1.2.2.2 44) d := by show zcn (w1.2.2.2 44) d + _ = _; rw [if_neg (of_decide_eq_false y)]; rfl
          rw [lit0q, lit1q, I_add, I_add, show ((zcn (w1.2.2.2 44) d : Nat) : Int) + 0 = ((zcn (w1.2.2.2 44) (d + 1) : Nat) : Int) by omega, show ((d : Nat) : Int) + 1 = ((d + 1 : Nat) : Int) by omega]
          exact ih (d + 1) (by omega) (by omega)
  rw [lit0q, show (0 : Int) = ((zcn (w1.2.2.2 44) 0 : Nat) : Int) from rfl]
  exact loopA N 0 (by omega) (by omega)
end
end
section
set_option maxRecDepth 100000
section
variable {T : Nat → Option (Nat × Nat × List Nat × Nat × Nat)} {Fv : Int64 → Int64 → Prop} {P : Int64 → Prop} {u v w w1 : MS} {PR N q r n B W Y i h m g x j wb nb cb rk c f i2 h2 m2 k a U d : Nat} {L : List Nat} {ow kd : Nat → Nat} {t rest : Int64} {gi gl ga ki kl ka kj : List Nat}
theorem procAt_ok {y : Int} (M : MIc T Fv P PR q u i h m L g x j wb nb cb rk) (p : PTQ u q n ow kd Fv P (nb + m) (wb + h) Y) (hy : y = ((k : Nat) : Int)) (hk : k < h) : OK (fun w r => w = u ∧ ∀ j, r = some j → j < PR) (hm_Ma_processAt N u q (I y)) := by
  obtain ⟨b0, g0⟩ := below_m (N := N) M p hy hk
  unfold hm_Ma_processAt hb_Ma_processAt_0 hb_Ma_processAt_30
  rw [b0, bnd_so, e_tag, bnd_so]
  refine ok_br.mpr ⟨fun _ => ?_, fun _ => ok_some.mpr ⟨rfl, fun _ z => by cases z⟩⟩
  rw [valI]
  exact ok_bnd.mpr (ok_mono (findc_ok (N := N) M.1.1.1 (ti_rng _)) (fun w r hw => ok_some.mpr hw))
theorem SRC_top (M : MIc T Fv P PR q u i h m L g x j wb nb cb rk) (p : PTQ u q n ow kd Fv P (nb + m) (wb + h) Y) (hk : 1 ≤ h) : SRCc Fv P PR u r (u.2.2.2 (pq q 35) (wb + h - 1)) (some q) := by
  refine Or.inr ⟨q, n, ow, kd, rfl, M.1.2.2.2.2.2.2.1, by have := p.1.2.1; omega, p.1.2.2, p.2.2.1.2 _ (by omega), fun e => ?_⟩
  rw [← e]
  exact ⟨nb + m, wb + h - 1, Y, by rw [show wb + h - 1 + 1 = wb + h by omega]; exact p, rfl⟩
theorem below_w (M : MIc T Fv P PR q u i h m L g x j wb nb cb rk) (k : WQ Fv P PR u w) (hk : 1 ≤ h) : ∃ t, hm_Fr_below N w q 0 = some (w, t) ∧ (F w (pq q 9) ≠ 3 → ∀ n ow kd Y, PTQ w q n ow kd Fv P (nb + m) (wb + h) Y → GT n ow kd P t) := by
  obtain ⟨n, ow, kd, Y, p⟩ := MI_p M
  obtain ⟨l, l1, l2, l3⟩ := p.2.2.2.2.2.1
  refine ⟨w.2.2.2 (pq q 35) (wb + h - 1), below_e (x := 0) (k := 0) (by rw [k.2.1.F (by omega) (by simp)]; exact p.2.2.1.1) (by rw [k.2.1.F (by omega) (by simp)]; exact l1) l2 l3 rfl (by omega), fun _ n ow kd Y p2 => p2.2.2.1.2 _ (by omega)⟩
theorem sendTo_ok (M : MIc T Fv P PR q u i h m L g x j wb nb cb rk) (hx : x < i) (t9 : F u 1109 = 0) (t8 : F u 1108 = 0) (hf : PHc T u q i x rk ≤ c) (hk : 2 ≤ h) (t2 : T (i + 1) = some (h - 1, m, L, g, x)) (hN : 3000000 ≤ N) : OK (fun w _ => OPQ T Fv P PR q c w) (hm_Ma_sendTo N u q) := by
  obtain ⟨n, ow, kd, Y, p⟩ := MI_p M
  obtain ⟨b0, g0⟩ := below_0 (N := N) M p (by omega)
  obtain ⟨b1, g1⟩ := below_1 (N := N) M p (by omega)
  have hq := M.1.1.1.1.2
  have hq2 := M.1.2.2.2.2.2.2.1
  have main : ∀ r : Option Nat, (∀ j, r = some j → j < PR) → OK (fun w _ => OPQ T Fv P PR q c w) (hb_Ma_sendTo_34 N () u q r) := by
    intro r hr
    unfold hb_Ma_sendTo_34
    rcases r with _ | jj
    · exact ok_br.mpr ⟨fun _ => ERR_o (a := 11) M t9 t8 hf (by omega), fun z => absurd z (by decide)⟩
    · refine ok_br.mpr ⟨fun z => absurd z (by simp), fun _ => ?_⟩
      rw [b0, bnd_so, bo_s, show Int32.ofNat q = I ((q : Nat) : Int) from rfl, lit0q]
      refine ok_bnd.mpr (ok_mono (postc_ok (N := N) (a := 0) (v4 := 0) M.1.1 M.1.2.1 (hr jj rfl) (Or.inl rfl) ⟨by omega, by omega⟩ ⟨by decide, by decide⟩ (fun _ => SRC_top M p (by omega)) hN) (fun w1 _ hw1 => ?_))
      obtain ⟨t, e1, e2⟩ := below_w (N := N) M hw1.1 (by omega)
      rw [← lit0q, e1, bnd_so, I_lit (n := 2)]
      exact ok_bnd.mpr (ok_mono (wans_ok (N := N) (y := 2) (z := 1) (k := 2) (wd := 1) M hx t9 t8 hf hw1.1 rfl hk e2 rfl (by omega) (by rw [show h - 2 + 1 = h - 1 by omega]; exact t2)) (fun w _ hw => ok_lt.mpr (ok_some.mpr hw.2)))
  unfold hm_Ma_sendTo hb_Ma_sendTo_0
  rw [b1, bnd_so, e_tag, bnd_so]
  refine ok_br.mpr ⟨fun _ => ?_, fun _ => ?_⟩
  · rw [valI]
    refine ok_bnd.mpr (ok_mono (namedc_ok (N := N) M.1.1.1 (ti_rng _) (by omega)) (fun w r hw => ?_))
    obtain ⟨rfl, hr⟩ := hw
    exact main r (fun j hj => (hr j hj).1)
  · rw [lit1q]
    refine ok_bnd.mpr (ok_mono (procAt_ok (N := N) (y := 1) (k := 1) M p rfl (by omega)) (fun w r hw => ?_))
    obtain ⟨rfl, hr⟩ := hw
    exact main r hr
theorem val8 : hm_Ma_value N u q (I 8) = bnd (hm_Co_at N u ((u.1 1105) + 1)) (fun u4 r4 => bnd (hm_Fr_below N u4 q 1) (fun u11 r11 => bnd (hm_Fr_below N u11 q 0) (fun u14 r14 => bnd (hm_Te_order N u14 (pq q 2) r11 r14) (fun u16 r16 => bnd (hm_Ma_holds N u16 r4 r16) (fun u18 r18 => bnd (hm_Ma_truth N u18 r18) (fun u19 r19 => bnd (hm_Ma_answer N u19 q 2 r19) (fun u20 _ => lt (upI u20 1105 ((u20.1 1105) + 2)) (fun w22 => some (w22, ()))))))))) := rfl
theorem val9 : hm_Ma_value N u q (I 9) = bnd (hm_Co_at N u ((u.1 1105) + 1)) (fun u4 r4 => bnd (hm_Ma_arithmetic N u4 q r4) (fun u23 _ => some (u23, ()))) := rfl
theorem val10 : hm_Ma_value N u q (I 10) = bnd (hm_Co_at N u ((u.1 1105) + 1)) (fun u4 r4 => br (decide (r4 = 43)) (bnd (hm_Ma_join N u4 q) (fun u25 _ => some (u25, ()))) (bnd (hm_Ma_without N u4 q) (fun u24 _ => some (u24, ())))) := rfl
theorem val11 : hm_Ma_value N u q (I 11) = bnd (hm_Co_at N u ((u.1 1105) + 1)) (fun u4 _ => bnd (hm_Ma_negate N u4 q) (fun u23 _ => some (u23, ()))) := rfl
theorem val12 : hm_Ma_value N u q (I 12) = bnd (hm_Co_at N u ((u.1 1105) + 1)) (fun u4 _ => bnd (hm_Ma_not N u4 q) (fun u23 _ => some (u23, ()))) := rfl
theorem val13 : hm_Ma_value N u q (I 13) = bnd (hm_Co_at N u ((u.1 1105) + 1)) (fun u4 r4 => bnd (hm_Ma_hinge N u4 q 1 r4) (fun u23 _ => some (u23, ()))) := rfl
theorem val14 : hm_Ma_value N u q (I 14) = bnd (hm_Co_at N u ((u.1 1105) + 1)) (fun u4 r4 => bnd (hm_Ma_hinge N u4 q 0 r4) (fun u23 _ => some (u23, ()))) := rfl
theorem val15 : hm_Ma_value N u q (I 15) = bnd (hm_Co_at N u ((u.1 1105) + 1)) (fun u4 _ => bnd (hm_Fr_drop N u4 q 1) (fun u29 _ => lt (upI u29 1105 ((u29.1 1105) + 1)) (fun w32 => some (w32, ())))) := rfl
theorem val16 : hm_Ma_value N u q (I 16) = bnd (hm_Co_at N u ((u.1 1105) + 1)) (fun u4 r4 => bnd (hm_Fr_forget N u4 q r4) (fun u29 _ => lt (upI u29 1105 ((u29.1 1105) + 2)) (fun w32 => some (w32, ())))) := rfl
theorem val17 : hm_Ma_value N u q (I 17) = bnd (hm_Co_at N u ((u.1 1105) + 1)) (fun u4 _ => bnd (hm_Ma_sendTo N u4 q) (fun u23 _ => some (u23, ()))) := rfl
theorem value_ok (M : MIc T Fv P PR q u i h m L g x j wb nb cb rk) (t9 : F u 1109 = 0) (t8 : F u 1108 = 0) (hf : PHc T u q i x rk ≤ c) (h8 : 8 ≤ A u 23 i) (h18 : A u 23 i < 18) (hN : 600000000010 ≤ N) : OK (fun w _ => OPQ T Fv P PR q c w) (hm_Ma_value N u q (I (A u 23 i))) := by
  obtain ⟨n, ow, kd, Y, p⟩ := MI_p M
  have mb := MI_b M
  have ln := MI_ln M
  have cx := M.1.2.1
  obtain ⟨b1, b2, -, -, ⟨b5, b6⟩, ins⟩ := M.1.2.2.1 _ _ _ _ _ _ M.2.2.2.1.1
  have hx : x < i := b6 (by omega)
  have ok1 : ∀ {o : Option (MS × Unit)}, OK (fun w _ => OPQ T Fv P PR q c w) o → OK (fun w _ => OPQ T Fv P PR q c w) (bnd o (fun u15 _ => some (u15, ()))) := fun h => ok_bnd.mpr (ok_mono h (fun w _ hw => ok_some.mpr hw))
  have bd : ∀ {k y}, T k = some y → k < 24000 := fun {k y} e => by
    obtain ⟨a, b, c, d, e2⟩ := y
    exact (M.1.2.2.1 _ _ _ _ _ _ e).1.2
  rcases ins with ins | ins | ins
  · rcases ins with ⟨o, -⟩ | ⟨o, -⟩ | ⟨o, -⟩ | ⟨o, -⟩ | ⟨o, -⟩ | ⟨o, -⟩ | ⟨o, -⟩ | ⟨o, o1, o2⟩ | ⟨o, o1, o2⟩ | ⟨o, o1, o2, e, o3, o4, o5⟩ | ⟨o, o1, o2⟩ | ⟨o, o0, s, o1, o2, o3⟩ | ⟨o, o1, o2⟩
    · omega
    · omega
    · omega
    · omega
    · omega
    · omega
    · omega
    · have := bd o2
      obtain ⟨c0, gc0⟩ := below_0 (N := N) M p (by omega)
      obtain ⟨c1, gc1⟩ := below_1 (N := N) M p (by omega)
      rcases o with o | o | o
      · rw [o, val8, opd1 M (by omega), bnd_so, c1, bnd_so, c0, bnd_so]
        refine ok_bnd.mpr (ok_mono (orderc_ok (N := N) (n := n) (ow := ow) (kd := kd) (Fv := Fv) (P := P) (b := pq q 2) (by unfold pq; omega) rfl (by have := p.1.2.1; omega) p.1.2.2 cx.2.1 cx.1 cx.2.2.1 gc1 gc0 hN) (fun w r hw => ?_))
        have fr : FR [] [] [] [44, 45, 46] u w := FR.mo hw (by simp) (by simp) (by simp) (by simp)
        obtain ⟨M1, ph1, s9, s8⟩ := MI_fr M hx fr
        have p1 := PT_fr (q := q) fr p
        obtain ⟨r2, e2⟩ := holds_any (N := N) (u := w) (I (A u 23 (i + 1))) r
        rw [e2, bnd_so]
        obtain ⟨a, ha, e3⟩ := truth_e (N := N) (u := w) r2
        rw [e3, bnd_so, I_lit (n := 2)]
        exact ok_bnd.mpr (ok_mono (ans_ok (N := N) (y := 2) (z := 2) (k := 2) (wd := 2) M1 hx (by rw [s9]; exact t9) (by rw [s8]; exact t8) (by rw [ph1]; exact hf) p1 (GT_at M1.1.2.1 ha) rfl o1 rfl (by omega) (by rw [show h - 2 + 1 = h - 1 by omega]; exact o2)) (fun w _ hw => ok_lt.mpr (ok_some.mpr hw.2)))
      · rw [o, val9, opd1 M (by omega), bnd_so]
        exact ok1 (arith_ok M hx t9 t8 hf o1 o2)
      · rw [o, val10, opd1 M (by omega), bnd_so]
        exact ok_br.mpr ⟨fun _ => ok1 (joinc_ok M hx t9 t8 hf o1 o2 (by omega)), fun _ => ok1 (without_ok M hx t9 t8 hf o1 o2 hN)⟩
    · have := bd o2
      rcases o with o | o
      · rw [o, val11, opd1 M (by omega), bnd_so]
        exact ok1 (negate_ok M hx t9 t8 hf o1 o2)
      · rw [o, val12, opd1 M (by omega), bnd_so]
        exact ok1 (not_okc M hx t9 t8 hf o1 o2)
    · have := bd o2
      rcases o with o | o
      · rw [o, val13, opd1 M (by omega), bnd_so, o3]
        exact ok1 (hinge_ok M hx t9 t8 hf o1 o2 o4 o5)
      · rw [o, val14, opd1 M (by omega), bnd_so, o3]
        exact ok1 (hinge_ok M hx t9 t8 hf o1 o2 o4 o5)
    · have := bd o2
      rw [o, val15, opd1 M (by omega), bnd_so, lit1q, drop_e (x := 1) (k := 1) p.2.2.1.1 rfl (by omega), bnd_so]
      refine ok_lt.mpr (ok_some.mpr ?_)
      obtain ⟨f1, p1⟩ := drop_t (k := 1) p (by omega)
      rw [show wb + h - 1 = wb + (h - 1) by omega] at p1 f1 ⊢
      exact fin_t M t9 t8 hf hx f1 p1 (LNB_m ln (by simp) (by omega)) o2 (by omega) (by omega) (by omega)
    · have := bd o3
      rw [o, val16, opd1 M (by omega), bnd_so, o1, forgetc_e (k := s) p.2.1.1 rfl (by omega), bnd_so]
      refine ok_lt.mpr (ok_some.mpr ?_)
      obtain ⟨f1, p1⟩ := forget_t (k := s) p (by omega)
      rw [show nb + m - s = nb + (m - s) by omega] at p1 f1 ⊢
      rw [I_lit (n := 2)]
      exact fin_t M t9 t8 hf hx f1 p1 (LNB_m ln (by simp) (by omega)) o3 (by show _ + (2 : Int) = _; omega) (by omega) (by omega)
    · have := bd o2
      rw [o, val17, opd1 M (by omega), bnd_so]
      exact ok1 (sendTo_ok M hx t9 t8 hf o1 o2 (by omega))
  · exfalso
    rcases ins with ⟨o, -⟩ | ⟨o, -⟩ | ⟨o, -⟩ | ⟨o, -⟩ | ⟨o, -⟩ | ⟨o, -⟩ | ⟨o, -⟩ | ⟨o, -⟩ | ⟨o, -⟩ | ⟨o, -⟩ | ⟨o, -⟩ <;> omega
  · exfalso
    rcases ins with ⟨o, -⟩ | ⟨o, -⟩ | ⟨o, -⟩ | ⟨o, -⟩ | ⟨o, -⟩ | o | ⟨o, -⟩ | ⟨o, -⟩ | ⟨o, -⟩ <;> omega
end
end
section
set_option maxRecDepth 100000
section
variable {T : Nat → Option (Nat × Nat × List Nat × Nat × Nat)} {Fv : Int64 → Int64 → Prop} {P : Int64 → Prop} {u v w w1 : MS} {PR N q r n B W Y i h m g x j wb nb cb rk c f i2 h2 m2 k a U d b e : Nat} {L : List Nat} {ow kd : Nat → Nat} {t rest : Int64} {gi gl ga ki kl ka kj : List Nat}
theorem PTc_le : ∀ {f i b e : Nat}, PTc u f i b e → i ≤ e
  | 0, _, _, _, z => z.elim
  | f + 1, i, b, e, z => by
    unfold PTc at z
    rcases z with z | z | ⟨-, n, -, -, z⟩ | z | ⟨-, c, -, z⟩ | z | ⟨-, -, z⟩ | z
    · omega
    · have := PTc_le z.2; omega
    · have := PTc_le z; omega
    · have := PTc_le z.2; omega
    · have := PTc_le z; omega
    · have := PTc_le z.2; omega
    · have := PTc_le z; omega
    · have := PTc_le z.2; omega
theorem pair_at {hh : Nat → Int64} (g : HPc hh n ow kd Fv P) (gt : GT n ow kd P t) (e7 : so t = 7) : va t = ((vn t : Nat) : Int) ∧ vn t + 2 ≤ n ∧ GT n ow kd P (hh (vn t)) ∧ GT n ow kd P (hh (vn t + 1)) := by
  have hH : isH t := Or.inr (Or.inr e7)
  have hb2 : blk hh t = 2 := by unfold blk; rw [if_pos e7]
  have hp : prt t = 0 := by unfold prt; rw [if_pos e7]
  obtain ⟨bk, b2⟩ := HP_bkc g hH gt
  have hbl := bk.2.2.2.1
  rw [hb2] at hbl b2
  rw [hp] at b2
  exact ⟨vn_e bk.1, hbl, b2 0 (by omega) (by omega), b2 1 (by omega) (by omega)⟩
theorem tup_at {hh : Nat → Int64} (g : HPc hh n ow kd Fv P) (gt : GT n ow kd P t) (e5 : so t = 5) : va t = ((vn t : Nat) : Int) ∧ va (hh (vn t)) = ((vn (hh (vn t)) : Nat) : Int) ∧ vn t + (1 + vn (hh (vn t))) ≤ n ∧ ∀ j, 1 ≤ j → j ≤ vn (hh (vn t)) → GT n ow kd P (hh (vn t + j)) := by
  have hH : isH t := Or.inr (Or.inl e5)
  have hb2 : blk hh t = 1 + vn (hh (vn t)) := by unfold blk; rw [if_neg (by omega), if_pos e5]
  have hp : prt t = 1 := by unfold prt; rw [if_neg (by omega), if_pos e5]
  obtain ⟨bk, b2⟩ := HP_bkc g hH gt
  have hbl := bk.2.2.2.1
  rw [hb2] at hbl b2
  rw [hp] at b2
  exact ⟨vn_e bk.1, vn_e (bk.2.1 e5).1, hbl, fun j h1 h2 => b2 j h1 (by omega)⟩
theorem fun_at {hh : Nat → Int64} (g : HPc hh n ow kd Fv P) (gt : GT n ow kd P t) (e3 : so t = 3) : va t = ((vn t : Nat) : Int) ∧ Fv (hh (vn t)) (hh (vn t + 1)) ∧ va (hh (vn t + 1)) = ((vn (hh (vn t + 1)) : Nat) : Int) ∧ vn t + (2 + vn (hh (vn t + 1))) ≤ n ∧ ∀ j, j < vn (hh (vn t + 1)) → GT n ow kd P (hh (vn t + 2 + j)) := by
  have hH : isH t := Or.inl e3
  have hb2 : blk hh t = 2 + vn (hh (vn t + 1)) := by unfold blk; rw [if_neg (by omega), if_neg (by omega), if_pos e3]
  have hp : prt t = 2 := by unfold prt; rw [if_neg (by omega), if_neg (by omega)]
  obtain ⟨bk, b2⟩ := HP_bkc g hH gt
  have hbl := bk.2.2.2.1
  rw [hb2] at hbl b2
  rw [hp] at b2
  refine ⟨vn_e bk.1, (bk.2.2.1 e3).2, vn_e (bk.2.2.1 e3).1, hbl, fun j h2 => ?_⟩
  have := b2 (2 + j) (by omega) (by omega)
  rw [show vn t + (2 + j) = vn t + 2 + j by omega] at this
  exact this
theorem fitsString_ok {cnt : Nat} (p : PTQ u q n ow kd Fv P B W Y) (gt : GT n ow kd P t) (e1 : A u 23 (i + 1) = ((cnt : Nat) : Int)) (hc : cnt ≤ 40) (hi : i + 1 < 24000) (hN : 100 ≤ N) : OK (fun w _ => w = u) (hm_Ma_fitsString N u q (I ((i : Nat) : Int)) t) := by
  have pn := p.1.2.1
  unfold hm_Ma_fitsString hb_Ma_fitsString_0
  have gen : ∀ (K d : Nat) (t : Int64), d ≤ cnt → cnt - d < K → GT n ow kd P t → OK (fun w (_ : Int32) => w = u) (hg_Ma_fitsString N K u q (I ((i : Nat) : Int)) t (I ((cnt : Nat) : Int)) (I ((d : Nat) : Int))) := by
    intro K
    induction K with
    | zero => intro d _ _ hK; omega
    | succ K ih =>
      intro d t hd hK gt
      show OK _ (hb_Ma_fitsString_18 N (hg_Ma_fitsString N K) u q (I ((i : Nat) : Int)) t (I ((cnt : Nat) : Int)) (I ((d : Nat) : Int)))
      unfold hb_Ma_fitsString_18 hb_Ma_fitsString_107
      refine k_le ⟨by omega, by omega⟩ ⟨by omega, by omega⟩ (fun hh => ?_) (fun hh => ?_)
      · rw [e_tag, bnd_so]
        exact ok_br.mpr ⟨fun _ => ok_ck.mpr ⟨by decide, ok_some.mpr rfl⟩, fun _ => ok_ck.mpr ⟨by decide, ok_some.mpr rfl⟩⟩
      · rw [e_tag, bnd_so, I_lit (n := 7)]
        refine k_eq (so_r _) ⟨by decide, by decide⟩ (fun e7 => ?_) (fun _ => ok_ck.mpr ⟨by decide, ok_some.mpr rfl⟩)
        obtain ⟨a1, a2, a3, a4⟩ := pair_at p.1.2.2 gt e7
        rw [valI, a1]
        refine e_in ⟨by omega, by omega⟩ (by decide) ?_
        obtain ⟨r, hr⟩ := Co_any (N := N) (u := u) (I ((i : Nat) : Int) + 2 + I ((d : Nat) : Int))
        rw [hr, bnd_so, lit0q, I_of r, e_make, bnd_so]
        refine ok_br.mpr ⟨fun _ => ?_, fun _ => ok_ck.mpr ⟨by decide, ok_some.mpr rfl⟩⟩
        rw [lit1q, I_add]
        refine e_in ⟨by omega, by omega⟩ (by decide) ?_
        rw [tnI (n := vn t + 1) (by omega) (by omega), I_add, show ((d : Nat) : Int) + 1 = ((d + 1 : Nat) : Int) by omega]
        exact ih (d + 1) _ (by omega) (by omega) a4
  rw [lit1q, I_add, Co_e (k := i + 1) (by omega) hi, bnd_so, e1, lit0q, show (0 : Int) = ((0 : Nat) : Int) from rfl]
  exact gen N 0 t (by omega) (by omega) gt
def FIQ (Fv : Int64 → Int64 → Prop) (P : Int64 → Prop) (q n : Nat) (ow kd : Nat → Nat) (B W Y b e : Nat) (u w : MS) (r : Int32) : Prop := FNc q u w ∧ LNB w q ∧ ∃ B2, PTQ w q n ow kd Fv P B2 W Y ∧ B ≤ B2 ∧ (r = I (-1) ∨ (r = I ((e + 1 : Nat) : Int) ∧ B2 = B + b))
theorem bind_t {y : Int} (p : PTQ u q n ow kd Fv P B W Y) (ln : LNB u q) (hB : B < 4096) (gt : GT n ow kd P t) : OK (fun w _ => FNc q u w ∧ PTQ w q n ow kd Fv P (B + 1) W Y ∧ LNB w q ∧ w.2.2.2 44 = u.2.2.2 44 ∧ w.2.2.2 (pq q 2) = u.2.2.2 (pq q 2)) (hm_Fr_bind N u q (I y) t) := by
  obtain ⟨⟨p1, p2, p3⟩, ⟨p4, p5⟩, ⟨p6, p7⟩, ⟨p8, p9⟩, ⟨l, a1, a2⟩, ⟨l2, b1, b2⟩, c⟩ := p
  refine ok_mono (bind_n (N := N) (t := t) p4 ln (by omega) hB) (fun w _ hw => ?_)
  obtain ⟨f, e, l3, l4, r, o⟩ := hw
  obtain ⟨l5, l6, l6b, l7, l8⟩ := LNB_43 l3
  refine ⟨FNc.of f (by simp) (by simp) (by simp) (by simp) (by simp) (by simp) (by simp), ⟨⟨by rw [f.Fq (by omega) (by simp)]; exact p1, p2, by rw [f.jq (by omega) (by simp)]; exact p3⟩, ⟨e, fun i hi => ?_⟩, ⟨by rw [f.Fq (by omega) (by simp)]; exact p6, by rw [f.jq (by omega) (by simp)]; exact p7⟩, ⟨by rw [f.Fq (by omega) (by simp)]; exact p8, by rw [f.jq (by omega) (by simp)]; exact p9⟩, ⟨l5, l6, by omega, by omega⟩, ⟨l2, by rw [f.Fq (by omega) (by simp)]; exact b1, b2⟩, c⟩, l3, o 44 (by unfold pq; omega), o _ (pq_inj (by decide))⟩
  rw [r i (by omega)]
  by_cases z : i = B
  · rw [if_pos z]; exact gt
  · rw [if_neg z]; exact p5 i (by omega)
theorem FN_44 {gg : Nat → Int64} (f : FNc q u w) : FNc q u (upJ w 44 gg) := FC.J_g f (by simp)
theorem PT_44 {gg : Nat → Int64} (p : PTQ u q n ow kd Fv P B W Y) : PTQ (upJ u 44 gg) q n ow kd Fv P B W Y := PTQ_same p (fun _ _ => rfl) (fun k _ => if_neg (by unfold pq; omega))
theorem LN_44 {gg : Nat → Int64} (l : LNB u q) : LNB (upJ u 44 gg) q := LNB_fc l (fun _ _ => rfl)
theorem row_44 {y : Nat} {z : Int64} : (upJ u 44 (vp_updL (u.2.2.2 44) y z)).2.2.2 44 k = if k = y then z else u.2.2.2 44 k := wj_row
theorem fit_loop (cx : CTX Fv P u) (he : e < 24000) (hN : 600000000010 ≤ N) : ∀ K,
    (∀ (f i b top cnt B : Nat) (w : MS), PTc u f i b e → f * 12 < K → f + cnt ≤ 30000 → top ≤ 2047 → B + b ≤ 4000 → FNc q u w → LNB w q → PTQ w q n ow kd Fv P B W Y → (∀ k, k < top → GT n ow kd P (w.2.2.2 44 k)) → OK (fun w r => FIQ Fv P q n ow kd B W Y b e u w r) ((hg_Ma_fit N K).1 w q (I ((i : Nat) : Int)) (I ((top : Nat) : Int)) (I ((cnt : Nat) : Int)))) ∧
    (∀ (f i b top cnt B jj : Nat) (w : MS) (t : Int64), PTc u f (i + 2) b e → f * 12 + jj + 1 < K → f + cnt + 1 ≤ 30000 → top + jj ≤ 2047 → B + b ≤ 4000 → FNc q u w → LNB w q → PTQ w q n ow kd Fv P B W Y → (∀ k, k < top → GT n ow kd P (w.2.2.2 44 k)) → GT n ow kd P t → so t = 5 → jj ≤ vn (w.2.2.2 (pq q 2) (vn t)) → OK (fun w r => FIQ Fv P q n ow kd B W Y b e u w r) ((hg_Ma_fit N K).2 w q (I ((i : Nat) : Int)) (I ((top : Nat) : Int)) (I ((cnt : Nat) : Int)) t (I ((jj : Nat) : Int)))) := by
  intro K
  induction K with
  | zero => exact ⟨fun _ _ _ _ _ _ _ _ hK => by omega, fun _ _ _ _ _ _ _ _ _ _ hK => by omega⟩
  | succ K ih =>
    have nx : ∀ (f i b top cnt B : Nat) (w : MS), PTc u f i b e → f * 12 < K → f + (cnt + 1) ≤ 30000 → top ≤ 2047 → B + b ≤ 4000 → FNc q u w → LNB w q → PTQ w q n ow kd Fv P B W Y → (∀ k, k < top → GT n ow kd P (w.2.2.2 44 k)) → OK (fun w r => FIQ Fv P q n ow kd B W Y b e u w r) (hb_Ma_fit_364 N (hg_Ma_fit N K) w q (I ((i : Nat) : Int)) (I ((top : Nat) : Int)) (I ((cnt : Nat) : Int))) := by
      intro f i b top cnt B w a1 a2 a3 a4 a5 a6 a7 a8 a9
      unfold hb_Ma_fit_364
      rw [lit1q, I_add, show ((cnt : Nat) : Int) + 1 = ((cnt + 1 : Nat) : Int) by omega]
      exact ih.1 f i b top (cnt + 1) B w a1 a2 a3 a4 a5 a6 a7 a8 a9
    refine ⟨fun f i b top cnt B w pt hK hcn htop hB fm ln p gs => ?_, fun f i b top cnt B jj w t pt hK hcn htop hB fm ln p gs gt e5 hj => ?_⟩
    · show OK _ (hb_Ma_fit_17 N (hg_Ma_fit N K) w q (I ((i : Nat) : Int)) (I ((top : Nat) : Int)) (I ((cnt : Nat) : Int)))
      have ple := PTc_le pt
      have pn := p.1.2.1
      have eA : ∀ k, A w 23 k = A u 23 k := fun k => fm.ag (by omega) (by simp)
      unfold hb_Ma_fit_17 hb_Ma_fit_370 hb_Ma_fit_57
      cases f with
      | zero => exact pt.elim
      | succ f =>
      rw [I_lit (n := 1000000000)]
      refine k_le ⟨by decide, by decide⟩ ⟨by omega, by omega⟩ (fun z => absurd (show (1000000000 : Int) ≤ _ from z) (by omega)) (fun _ => ?_)
      rw [Co_e (k := i) rfl (by omega), bnd_so, eA]
      have no : OK (fun w r => FIQ Fv P q n ow kd B W Y b e u w r) (some (w, (-1 : Int32))) := ok_some.mpr ⟨fm, ln, B, p, Nat.le_refl _, Or.inl rfl⟩
      unfold PTc at pt
      have ne8 : A u 23 i ≠ 8 → ∀ (oth : A u 23 i = 1 ∨ A u 23 i = 2 ∨ A u 23 i = 3 ∨ A u 23 i = 4 ∨ A u 23 i = 5 ∨ A u 23 i = 6 ∨ A u 23 i = 7), True := fun _ _ => trivial
      by_cases e8 : A u 23 i = 8
      · rw [e8]
        refine ok_br.mpr ⟨fun _ => ?_, fun z => absurd z (by decide)⟩
        rcases pt with ⟨z, z1, z2⟩ | ⟨z, -⟩ | ⟨z, -⟩ | ⟨z, -⟩ | ⟨z, -⟩ | ⟨z, -⟩ | ⟨z, -⟩ | ⟨z, -⟩
        · rw [z1, lit1q, I_add, z2]
          exact ok_some.mpr ⟨fm, ln, B, p, Nat.le_refl _, Or.inr ⟨rfl, rfl⟩⟩
        all_goals omega
      · rw [I_lit (n := 8)]
        refine k_eq (ARG1 u _ _) ⟨by decide, by decide⟩ (fun z => absurd (show A u 23 i = 8 from z) e8) (fun _ => ?_)
        rw [m1I, I_add, lit0q]
        refine k_lt ⟨by omega, by omega⟩ ⟨by decide, by decide⟩ (fun _ => no) (fun h1 => ?_)
        rw [I_add, I_lit (n := 2048)]
        refine k_lt ⟨by show _ ≤ _ + (8 : Int); omega, by show _ + (8 : Int) < _; omega⟩ ⟨by decide, by decide⟩ (fun h2 => ?_) (fun _ => no)
        have h2 : ((top : Nat) : Int) + -1 + 8 < 2048 := h2
        refine e_in ⟨by omega, by omega⟩ (by decide) ?_
        rw [tnI (n := top - 1) (by omega) (by omega)]
        have gt := gs (top - 1) (by omega)
        have i1 : i + 1 ≤ e := by
          rcases pt with ⟨z, -⟩ | ⟨-, z⟩ | ⟨-, nn, -, -, z⟩ | ⟨-, z⟩ | ⟨-, c, -, z⟩ | ⟨-, z⟩ | ⟨-, -, z⟩ | ⟨-, z⟩
          · exact absurd z e8
          all_goals (have := PTc_le z; omega)
        rw [lit1q, I_add, Co_e (k := i + 1) (by omega) (by omega), bnd_so, eA]
        rw [Co_e (k := i) rfl (by omega), bnd_so, eA]
        have e1t : ((top : Nat) : Int) + -1 = ((top - 1 : Nat) : Int) := by omega
        rw [e1t]
        have gs1 : ∀ k, k < top - 1 → GT n ow kd P (w.2.2.2 44 k) := fun k hk => gs k (by omega)
        rcases pt with ⟨z, -⟩ | ⟨o, pt⟩ | ⟨o, nn, o1, o2, pt⟩ | ⟨o, pt⟩ | ⟨o, c, o1, pt⟩ | ⟨o, pt⟩ | ⟨o, ⟨nn, o1, o2⟩, pt⟩ | ⟨o, pt⟩
        · exact absurd z e8
        · have := PTc_le pt
          rw [o]
          refine ok_br.mpr ⟨fun _ => ?_, fun z => absurd z (by decide)⟩
          rw [I_lit (n := 2), I_add, Co_e (k := i + 2) (by show _ + (2 : Int) = _; omega) (by omega), bnd_so, eA, e_make, bnd_so]
          refine ok_br.mpr ⟨fun _ => ?_, fun _ => no⟩
          rw [I_lit (n := 3), I_add, show ((i : Nat) : Int) + (OfNat.ofNat 3 : Int) = ((i + 3 : Nat) : Int) by show _ + (3 : Int) = _; omega]
          exact nx f (i + 3) b (top - 1) cnt B w pt (by omega) (by omega) (by omega) hB fm ln p gs1
        · have := PTc_le pt
          rw [o]
          refine ok_br.mpr ⟨fun z => absurd z (by decide), fun _ => ok_br.mpr ⟨fun _ => ?_, fun z => absurd z (by decide)⟩⟩
          refine ok_bnd.mpr (ok_mono (fitsString_ok (N := N) p gt (by rw [eA]; exact o1) o2 (by omega) (by omega)) (fun w2 r hw => ?_))
          subst hw
          refine ok_br.mpr ⟨fun _ => no, fun _ => ?_⟩
          rw [o1, I_lit (n := 2), I_add, I_add, show ((i : Nat) : Int) + ((OfNat.ofNat 2 : Int) + ((nn : Nat) : Int)) = ((i + 2 + nn : Nat) : Int) by show _ + ((2 : Int) + _) = _; omega]
          exact nx f (i + 2 + nn) b (top - 1) cnt B w2 pt (by omega) (by omega) (by omega) hB fm ln p gs1
        · have := PTc_le pt
          rw [o]
          refine ok_br.mpr ⟨fun z => absurd z (by decide), fun _ => ok_br.mpr ⟨fun z => absurd z (by decide), fun _ => ok_br.mpr ⟨fun _ => ?_, fun z => absurd z (by decide)⟩⟩⟩
          rw [termOf_e p.2.1.1 ln (PTQ_43 p) (by omega), bnd_so]
          have cw : CTX Fv P w := CTX_s (SCQ_f fm (by simp) (by simp)) cx
          refine ok_bnd.mpr (ok_mono (orderc_ok (N := N) (n := n) (ow := ow) (kd := kd) (Fv := Fv) (P := P) (b := pq q 2) (by unfold pq; omega) rfl (by omega) p.1.2.2 cw.2.1 cw.1 cw.2.2.1 (tval_gt p cw) gt hN) (fun w3 r3 hw3 => ?_))
          have fr : FR [] [] [] [44, 45, 46] w w3 := FR.mo hw3 (by simp) (by simp) (by simp) (by simp)
          have fm3 := FNc.tr fm (FM_fr (q := q) fr)
          have ln3 : LNB w3 q := LNB_fc ln (fun k _ => fr.1 _ (by simp))
          have p3 := PT_fr (q := q) fr p
          refine ok_br.mpr ⟨fun _ => ?_, fun _ => ok_some.mpr ⟨fm3, ln3, B, p3, Nat.le_refl _, Or.inl rfl⟩⟩
          rw [I_lit (n := 2), I_add, show ((i : Nat) : Int) + (OfNat.ofNat 2 : Int) = ((i + 2 : Nat) : Int) by show _ + (2 : Int) = _; omega]
          exact nx f (i + 2) b (top - 1) cnt B w3 pt (by omega) (by omega) (by omega) hB fm3 ln3 p3 (fun k hk => by rw [hw3.2.2.2 44 (by simp)]; exact gs1 k hk)
        · have := PTc_le pt
          rw [o]
          refine ok_br.mpr ⟨fun z => absurd z (by decide), fun _ => ok_br.mpr ⟨fun z => absurd z (by decide), fun _ => ok_br.mpr ⟨fun z => absurd z (by decide), fun _ => ok_br.mpr ⟨fun _ => ?_, fun z => absurd z (by decide)⟩⟩⟩⟩
          refine ok_bnd.mpr (ok_mono (bind_t (N := N) p ln (by omega) gt) (fun w3 _ hw3 => ?_))
          obtain ⟨f3, p3, ln3, r3, -⟩ := hw3
          rw [I_lit (n := 2), I_add, show ((i : Nat) : Int) + (OfNat.ofNat 2 : Int) = ((i + 2 : Nat) : Int) by show _ + (2 : Int) = _; omega]
          refine ok_mono (nx f (i + 2) c (top - 1) cnt (B + 1) w3 pt (by omega) (by omega) (by omega) (by omega) (FNc.tr fm f3) ln3 p3 (fun k hk => by rw [r3]; exact gs1 k hk)) (fun w4 r4 hw4 => ?_)
          obtain ⟨k1, k2, B2, k3, k4, k5⟩ := hw4
          refine ⟨k1, k2, B2, k3, by omega, ?_⟩
          rcases k5 with k5 | ⟨k5, k6⟩
          · exact Or.inl k5
          · exact Or.inr ⟨k5, by omega⟩
        · have := PTc_le pt
          rw [o]
          refine ok_br.mpr ⟨fun z => absurd z (by decide), fun _ => ok_br.mpr ⟨fun z => absurd z (by decide), fun _ => ok_br.mpr ⟨fun z => absurd z (by decide), fun _ => ok_br.mpr ⟨fun z => absurd z (by decide), fun _ => ok_br.mpr ⟨fun _ => ?_, fun z => absurd z (by decide)⟩⟩⟩⟩⟩
          rw [show ((i : Nat) : Int) + 1 = ((i + 1 : Nat) : Int) by omega]
          exact nx f (i + 1) b (top - 1) cnt B w pt (by omega) (by omega) (by omega) hB fm ln p gs1
        · have := PTc_le pt
          rw [o]
          refine ok_br.mpr ⟨fun z => absurd z (by decide), fun _ => ok_br.mpr ⟨fun z => absurd z (by decide), fun _ => ok_br.mpr ⟨fun z => absurd z (by decide), fun _ => ok_br.mpr ⟨fun z => absurd z (by decide), fun _ => ok_br.mpr ⟨fun z => absurd z (by decide), fun _ => ok_br.mpr ⟨fun _ => ?_, fun z => absurd z (by decide)⟩⟩⟩⟩⟩⟩
          unfold hb_Ma_fit_262
          rw [e_tag, bnd_so, I_lit (n := 5)]
          refine k_eq (so_r _) ⟨by decide, by decide⟩ (fun e5 => ?_) (fun _ => no)
          have e5 : so (w.2.2.2 44 (top - 1)) = 5 := e5
          obtain ⟨a1, a2, a3, a4⟩ := tup_at p.1.2.2 gt e5
          rw [valI, a1]
          refine e_in ⟨by omega, by omega⟩ (by decide) ?_
          rw [tnI (n := vn (w.2.2.2 44 (top - 1))) rfl (by omega), valI, a2, o1]
          refine k_eq ⟨by omega, by omega⟩ ⟨by omega, by omega⟩ (fun ee => ?_) (fun _ => no)
          exact ih.2 f i b (top - 1) cnt B nn w _ pt (by omega) (by omega) (by omega) hB fm ln p gs1 gt e5 (by omega)
        · have := PTc_le pt
          rw [o]
          refine ok_br.mpr ⟨fun z => absurd z (by decide), fun _ => ok_br.mpr ⟨fun z => absurd z (by decide), fun _ => ok_br.mpr ⟨fun z => absurd z (by decide), fun _ => ok_br.mpr ⟨fun z => absurd z (by decide), fun _ => ok_br.mpr ⟨fun z => absurd z (by decide), fun _ => ok_br.mpr ⟨fun z => absurd z (by decide), fun _ => ok_br.mpr ⟨fun _ => ?_, fun z => absurd z (by decide)⟩⟩⟩⟩⟩⟩⟩
          rw [e_tag, bnd_so, I_lit (n := 7)]
          refine k_eq (so_r _) ⟨by decide, by decide⟩ (fun e7 => ?_) (fun _ => no)
          have e7 : so (w.2.2.2 44 (top - 1)) = 7 := e7
          obtain ⟨a1, a2, a3, a4⟩ := pair_at p.1.2.2 gt e7
          rw [valI, a1, I_add]
          refine e_in ⟨by omega, by omega⟩ (by decide) (e_in ⟨by omega, by omega⟩ (by decide) (ok_lt.mpr ?_))
          rw [tnI (n := vn (w.2.2.2 44 (top - 1)) + 1) (by omega) (by omega)]
          refine e_in ⟨by omega, by omega⟩ (by decide) ?_
          rw [I_add]
          refine e_in ⟨by omega, by omega⟩ (by decide) (ok_lt.mpr ?_)
          rw [tnI (n := vn (w.2.2.2 44 (top - 1))) rfl (by omega), tnI (n := top) (by omega) (by omega), I_lit (n := 2), I_add, show ((top - 1 : Nat) : Int) + (OfNat.ofNat 2 : Int) = ((top + 1 : Nat) : Int) by show _ + (2 : Int) = _; omega, show ((i : Nat) : Int) + 1 = ((i + 1 : Nat) : Int) by omega]
          refine nx f (i + 1) b (top + 1) cnt B _ pt (by omega) (by omega) (by omega) hB (FN_44 (FN_44 fm)) (LN_44 (LN_44 ln)) (PT_44 (PT_44 p)) (fun k hk => ?_)
          rw [row_44]
          by_cases y1 : k = top
          · rw [if_pos y1]
            show GT n ow kd P ((upJ w 44 _).2.2.2 (pq q 2) _)
            rw [show ∀ gg, (upJ w 44 gg).2.2.2 (pq q 2) = w.2.2.2 (pq q 2) from fun gg => if_neg (by unfold pq; omega)]
            exact a3
          · rw [if_neg y1, row_44]
            by_cases y2 : k = top - 1
            · rw [if_pos y2]; exact a4
            · rw [if_neg y2]; exact gs k (by omega)
    · show OK _ (hb_Ma_fit_268 N (hg_Ma_fit N K) w q (I ((i : Nat) : Int)) (I ((top : Nat) : Int)) (I ((cnt : Nat) : Int)) t (I ((jj : Nat) : Int)))
      unfold hb_Ma_fit_268
      have pn := p.1.2.1
      rw [lit0q]
      refine k_le ⟨by omega, by omega⟩ ⟨by decide, by decide⟩ (fun hh => ?_) (fun hh => ?_)
      · rw [I_lit (n := 2), I_add, show ((i : Nat) : Int) + (OfNat.ofNat 2 : Int) = ((i + 2 : Nat) : Int) by show _ + (2 : Int) = _; omega]
        exact nx f (i + 2) b top cnt B w pt (by omega) (by omega) (by omega) hB fm ln p gs
      · obtain ⟨a1, a2, a3, a4⟩ := tup_at p.1.2.2 gt e5
        rw [valI, a1, I_add]
        refine e_in ⟨by omega, by omega⟩ (by decide) (e_in ⟨by omega, by omega⟩ (by decide) (ok_lt.mpr ?_))
        rw [tnI (n := top) rfl (by omega), tnI (n := vn t + jj) (by omega) (by omega), m1I, I_add, lit1q, I_add, show ((top : Nat) : Int) + 1 = ((top + 1 : Nat) : Int) by omega, show ((jj : Nat) : Int) + -1 = ((jj - 1 : Nat) : Int) by omega]
        refine ih.2 f i b (top + 1) cnt B (jj - 1) _ t pt (by omega) hcn (by omega) hB (FN_44 fm) (LN_44 ln) (PT_44 p) (fun k hk => ?_) gt e5 ?_
        · rw [row_44]
          by_cases y1 : k = top
          · rw [if_pos y1]; exact a4 jj (by omega) hj
          · rw [if_neg y1]; exact gs k (by omega)
        · rw [show ∀ gg, (upJ w 44 gg).2.2.2 (pq q 2) = w.2.2.2 (pq q 2) from fun gg => if_neg (by unfold pq; omega)]
          omega
theorem fit_ok {top : Nat} (cx : CTX Fv P u) (he : e < 24000) (pt : PTc u f i b e) (hf : f ≤ 24000) (htop : top ≤ 2047) (hB : B + b ≤ 4000) (ln : LNB u q) (p : PTQ u q n ow kd Fv P B W Y) (gs : ∀ k, k < top → GT n ow kd P (u.2.2.2 44 k)) (hN : 600000000010 ≤ N) : OK (fun w r => FIQ Fv P q n ow kd B W Y b e u w r) (hm_Ma_fit N u q (I ((i : Nat) : Int)) (I ((top : Nat) : Int))) := by
  unfold hm_Ma_fit hb_Ma_fit_0
  rw [lit0q, show (0 : Int) = ((0 : Nat) : Int) from rfl]
  exact (fit_loop cx he hN N).1 f i b top 0 B u pt (by omega) (by omega) htop hB FNc.rf ln p gs
end
end
section
set_option maxRecDepth 100000
section
variable {T : Nat → Option (Nat × Nat × List Nat × Nat × Nat)} {Fv : Int64 → Int64 → Prop} {P : Int64 → Prop} {u v w w1 : MS} {PR N q r n B W Y i h m g x j wb nb cb rk c f i2 h2 m2 k a U d b e : Nat} {L : List Nat} {ow kd : Nat → Nat} {t rest : Int64} {gi gl ga ki kl ka kj : List Nat}
theorem FNc.at5 (a : FNc q u w) (M : MIc T Fv P PR q u i h m L g x j wb nb cb rk) : F w 1105 = ((i : Nat) : Int) := by rw [a.Fg (by omega) (by simp)]; exact M.2.2.2.1.2
theorem unbind_t {B2 : Nat} (p : PTQ u q n ow kd Fv P B2 W Y) (hB : B ≤ B2) : FNc q u (wi u (pq q 24) ((B : Nat) : Int)) ∧ PTQ (wi u (pq q 24) ((B : Nat) : Int)) q n ow kd Fv P B W Y := by
  have := forget_t (k := B2 - B) p (by omega)
  rw [show B2 - (B2 - B) = B by omega] at this
  exact this
theorem tries_ok {y : Int} {fl : Nat} (M : MIc T Fv P PR q u i h m L 0 x j wb nb cb rk) (hx : x < i) (t9 : F u 1109 = 0) (t8 : F u 1108 = 0) (hf : PHc T u q i x rk ≤ c) (hy : (∃ s : Nat, y = ((s : Nat) : Int) ∧ s ≤ h) ∨ (y = -1 ∧ 1 ≤ h) ∨ (y = -2 ∧ x ≠ 0)) (efl : A u 23 (i + 2) = ((fl : Nat) : Int)) (hfl : i < fl) (tfl : T fl = some (h, m, L, 0, x)) (pt : PTc u f (i + 3) b e) (hff : f ≤ 24000) (hb : m + b ≤ 40) (hie : i < e) (te : T (e + 1) = some (h, m + b, L, 0, x)) (hN : 600000000010 ≤ N) : OK (fun w _ => OPQ T Fv P PR q c w) (hm_Ma_tries N u q (I y)) := by
  obtain ⟨n, ow, kd, Y, p⟩ := MI_p M
  have mb := MI_b M
  have web := (M.1.2.2.1 _ _ _ _ _ _ te).1
  have wfb := (M.1.2.2.1 _ _ _ _ _ _ tfl).1
  have wf := (M.1.2.2.1 _ _ _ _ _ _ M.2.2.2.1.1).2.1
  have tb := PTc_le pt
  have at0 := M.2.2.2.1.2
  have main : ∀ (w : MS) (top : Nat) (G : MS → Nat → Int32 → Int32 → Int32 → Int32 → Option (MS × Unit)), top ≤ 2047 → FR [] [] [] [44, 45, 46] u w → (∀ k, k < top → GT n ow kd P (w.2.2.2 44 k)) → OK (fun w _ => OPQ T Fv P PR q c w) (bnd (hm_Ma_fit N w q ((w.1 1105) + 3) (I ((top : Nat) : Int))) (fun u18 r18 => br (decide (r18 = (-1))) (lt (upI u18 (pq q 24) (I ((nb + m : Nat) : Int))) (fun w22 => bnd (hm_Co_at N w22 ((w22.1 1105) + 2)) (fun u25 r25 => lt (upI u25 1105 r25) (fun w27 => hb_Ma_tries_153 N G w27 q)))) (lt (upI u18 1105 r18) (fun w19 => hb_Ma_tries_153 N G w19 q)))) := by
    intro w top G htop fr gs
    obtain ⟨M1, ph1, s9, s8⟩ := MI_fr M hx fr
    have p1 := PT_fr (q := q) fr p
    have ln1 := MI_ln M1
    have s : SCQ u w := ⟨fun k _ => fr.1 k (by simp), fun k _ => fr.2.2.1 k (by simp)⟩
    unfold hb_Ma_tries_153
    rw [I_F (k := 1105), M1.2.2.2.1.2, I_lit (n := 3), I_add, show ((i : Nat) : Int) + (OfNat.ofNat 3 : Int) = ((i + 3 : Nat) : Int) by show _ + (3 : Int) = _; omega]
    refine ok_bnd.mpr (ok_mono (fit_ok (N := N) (CTX_s s M.1.2.1) (by omega) (PTc_s s pt) hff htop (by omega) ln1 p1 gs hN) (fun w2 r hw2 => ?_))
    obtain ⟨f2, ln2, B2, p2, hB2, hr⟩ := hw2
    rcases hr with rfl | ⟨rfl, rfl⟩
    · refine ok_br.mpr ⟨fun _ => ok_lt.mpr ?_, fun z => absurd z (by decide)⟩
      rw [wi_e]
      obtain ⟨f3, p3⟩ := unbind_t (B := nb + m) p2 hB2
      have f4 := FNc.tr f2 f3
      have a5 := f4.at5 M1
      rw [I_F (k := 1105), a5, I_lit (n := 2), I_add, Co_e (k := i + 2) (by show _ + (2 : Int) = _; omega) (by omega), bnd_so, f4.ag (by omega) (by simp), show A w 23 (i + 2) = ((fl : Nat) : Int) by rw [s.A (by simp)]; exact efl]
      refine ok_lt.mpr (ok_some.mpr ?_)
      rw [wi_e]
      exact NRM_f M1 (by rw [s9]; exact t9) (by rw [s8]; exact t8) (by rw [ph1]; exact hf) hx (FMc.at f4.toM) (at_t p3) (LNB_g (LNB_m ln2 (by simp) (by omega)) (by omega)) tfl (at_F (by omega)) hfl
    · rw [m1I]
      refine k_eq ⟨by omega, by omega⟩ ⟨by decide, by decide⟩ (fun z => absurd z (by omega)) (fun _ => ok_lt.mpr (ok_some.mpr ?_))
      rw [wi_e]
      rw [show nb + m + b = nb + (m + b) by omega] at p2
      exact NRM_f M1 (by rw [s9]; exact t9) (by rw [s8]; exact t8) (by rw [ph1]; exact hf) hx (FMc.at f2.toM) (at_t p2) (LNB_g ln2 (by omega)) te (at_F (by omega)) (by omega)
  have loop : ∀ (top : Nat), top ≤ 2000 → ((∃ s : Nat, y = ((s : Nat) : Int) ∧ s ≤ h ∧ top = s) ∨ (y = -1 ∧ 1 ≤ h ∧ top = 1) ∨ (y = -2 ∧ x ≠ 0 ∧ top = 1)) → ∀ (K d : Nat) (w : MS), d ≤ top → top - d < K → FR [] [] [] [44, 45, 46] u w → (∀ k, k < d → GT n ow kd P (w.2.2.2 44 k)) → OK (fun w _ => OPQ T Fv P PR q c w) (hg_Ma_tries N K w q (I y) (I ((nb + m : Nat) : Int)) (I ((top : Nat) : Int)) (I ((d : Nat) : Int))) := by
    intro top htop hcs K
    induction K with
    | zero => intro d _ _ hK; omega
    | succ K ih =>
      intro d w hd hK fr gs
      show OK _ (hb_Ma_tries_21 N (hg_Ma_tries N K) w q (I y) (I ((nb + m : Nat) : Int)) (I ((top : Nat) : Int)) (I ((d : Nat) : Int)))
      unfold hb_Ma_tries_21
      refine k_le ⟨by omega, by omega⟩ ⟨by omega, by omega⟩ (fun hh => ?_) (fun hh => ?_)
      · exact main w top _ (by omega) fr (fun k hk => gs k (by omega))
      · obtain ⟨M1, ph1, s9, s8⟩ := MI_fr M hx fr
        have p1 := PT_fr (q := q) fr p
        have put : ∀ t : Int64, GT n ow kd P t → OK (fun w _ => OPQ T Fv P PR q c w) (hb_Ma_tries_93 N (hg_Ma_tries N K) w q (I y) (I ((nb + m : Nat) : Int)) (I ((top : Nat) : Int)) (I ((d : Nat) : Int)) (I ((d : Nat) : Int)) t) := by
          intro t gt
          unfold hb_Ma_tries_93
          refine e_in ⟨by omega, by omega⟩ (by decide) (ok_lt.mpr ?_)
          rw [tnI (n := d) rfl (by omega), lit1q, I_add, show ((d : Nat) : Int) + 1 = ((d + 1 : Nat) : Int) by omega]
          refine ih (d + 1) _ (by omega) (by omega) (FR_44 fr) (fun k hk => ?_)
          rw [row_44]
          by_cases z : k = d
          · rw [if_pos z]; exact gt
          · rw [if_neg z]; exact gs k (by omega)
        have bel : d < h → OK (fun w _ => OPQ T Fv P PR q c w) (hb_Ma_tries_49 N (hg_Ma_tries N K) w q (I y) (I ((nb + m : Nat) : Int)) (I ((top : Nat) : Int)) (I ((d : Nat) : Int))) := by
          intro hdh
          unfold hb_Ma_tries_49 hb_Ma_tries_50
          refine ok_br.mpr ⟨fun _ => ?_, fun z => absurd z (by decide)⟩
          obtain ⟨b0, g0⟩ := below_m (N := N) (k := d) M1 p1 rfl hdh
          rw [b0, bnd_so]
          exact put _ g0
        rcases hcs with ⟨s, rfl, h1, rfl⟩ | ⟨rfl, h1, rfl⟩ | ⟨rfl, h1, rfl⟩
        · rw [show (-2 : Int32) = I (-2) from rfl]
          refine k_eq ⟨by omega, by omega⟩ ⟨by decide, by decide⟩ (fun z => absurd z (by omega)) (fun _ => bel (by omega))
        · exact ok_br.mpr ⟨fun z => absurd z (by decide), fun _ => bel (by omega)⟩
        · refine ok_br.mpr ⟨fun _ => ?_, fun z => absurd z (by decide)⟩
          have x1 := M1.2.2.2.2.2.2.1 h1 (by omega)
          have pY := p1.2.2.2.1
          have Yb := PTQ_b p1
          have sm := (M1.1.1.2 q M1.1.2.2.2.2.2.2.1).1.2.1
          rw [I_F (k := pq q 8), I_lit (n := 30)]
          refine k_le ⟨by decide, by decide⟩ (FRG1 w _) (fun z => absurd (show (30 : Int) ≤ _ from z) (by omega)) (fun _ => ?_)
          unfold hb_Ma_tries_50
          refine ok_br.mpr ⟨fun z => absurd z (by decide), fun _ => ?_⟩
          rw [I_F (k := pq q 8)]
          refine e_in ⟨by omega, by omega⟩ (by decide) ?_
          rw [tnI (n := (F w (pq q 8)).toNat) (by omega) (by omega)]
          exact put _ (pY.2 _ (by omega))
  unfold hm_Ma_tries hb_Ma_tries_0 hb_Ma_tries_17
  have e24 : u.1 (pq q 24) = I ((nb + m : Nat) : Int) := by rw [I_F, p.2.1.1]
  rw [e24, lit0q]
  rcases hy with ⟨s, rfl, h1⟩ | ⟨rfl, h1⟩ | ⟨rfl, h1⟩
  · refine k_lt ⟨by omega, by omega⟩ ⟨by decide, by decide⟩ (fun z => absurd z (by omega)) (fun _ => ?_)
    rw [show (0 : Int) = ((0 : Nat) : Int) from rfl]
    exact loop s (by omega) (Or.inl ⟨s, rfl, h1, rfl⟩) N 0 u (by omega) (by omega) FR.rf (fun k hk => by omega)
  · refine k_lt ⟨by decide, by decide⟩ ⟨by decide, by decide⟩ (fun _ => ?_) (fun z => absurd z (by decide))
    exact loop 1 (by omega) (Or.inr (Or.inl ⟨rfl, h1, rfl⟩)) N 0 u (by omega) (by omega) FR.rf (fun k hk => by omega)
  · refine k_lt ⟨by decide, by decide⟩ ⟨by decide, by decide⟩ (fun _ => ?_) (fun z => absurd z (by decide))
    exact loop 1 (by omega) (Or.inr (Or.inr ⟨rfl, h1, rfl⟩)) N 0 u (by omega) (by omega) FR.rf (fun k hk => by omega)
theorem match_okc (M : MIc T Fv P PR q u i h m L 0 x j wb nb cb rk) (hx : x < i) (t9 : F u 1109 = 0) (t8 : F u 1108 = 0) (hf : PHc T u q i x rk ≤ c) (hh : 1 ≤ h) (pt : PTc u f (i + 1) b e) (hff : f ≤ 24000) (hb : m + b ≤ 40) (hie : i < e) (te : T (e + 1) = some (h, m + b, L, 0, x)) (hN : 600000000010 ≤ N) : OK (fun w _ => OPQ T Fv P PR q c w) (hm_Ma_match N u q) := by
  obtain ⟨n, ow, kd, Y, p⟩ := MI_p M
  have mb := MI_b M
  have web := (M.1.2.2.1 _ _ _ _ _ _ te).1
  have tb := PTc_le pt
  obtain ⟨b0, g0⟩ := below_0 (N := N) M p (by omega)
  unfold hm_Ma_match hb_Ma_match_0 hb_Ma_match_73
  have e24 : u.1 (pq q 24) = I ((nb + m : Nat) : Int) := by rw [I_F, p.2.1.1]
  rw [b0, bnd_so, e24]
  refine ok_ck.mpr ⟨by decide, ok_lt.mpr ?_⟩
  rw [show (0 : Int32).toNatClampNeg = 0 from rfl]
  have fr : FR [] [] [] [44, 45, 46] u (upJ u 44 (vp_updL (u.2.2.2 44) 0 (u.2.2.2 (pq q 35) (wb + h - 1)))) := FR_44 FR.rf
  have gs : ∀ k, k < 1 → GT n ow kd P ((upJ u 44 (vp_updL (u.2.2.2 44) 0 (u.2.2.2 (pq q 35) (wb + h - 1)))).2.2.2 44 k) := fun k hk => by rw [row_44, if_pos (by omega)]; exact g0
  generalize upJ u 44 (vp_updL (u.2.2.2 44) 0 (u.2.2.2 (pq q 35) (wb + h - 1))) = w at fr gs ⊢
  obtain ⟨M1, ph1, s9, s8⟩ := MI_fr M hx fr
  have p1 := PT_fr (q := q) fr p
  have ln1 := MI_ln M1
  have s : SCQ u w := ⟨fun k _ => fr.1 k (by simp), fun k _ => fr.2.2.1 k (by simp)⟩
  rw [I_F (k := 1105), M1.2.2.2.1.2, lit1q, I_add, show ((i : Nat) : Int) + 1 = ((i + 1 : Nat) : Int) by omega]
  refine ok_bnd.mpr (ok_mono (fit_ok (N := N) (top := 1) (CTX_s s M.1.2.1) (by omega) (PTc_s s pt) hff (by omega) (by omega) ln1 p1 gs hN) (fun w2 r hw2 => ?_))
  obtain ⟨f2, ln2, B2, p2, hB2, hr⟩ := hw2
  rcases hr with rfl | ⟨rfl, rfl⟩
  · refine ok_br.mpr ⟨fun _ => ok_lt.mpr ?_, fun z => absurd z (by decide)⟩
    rw [wi_e]
    obtain ⟨f3, p3⟩ := unbind_t (B := nb + m) p2 hB2
    have f4 := FNc.tr f2 f3
    obtain ⟨M3, ph3⟩ := MI_f M1 hx f4.toM p3 (LNB_m ln2 (by simp) (by omega)) M1.2.2.2.1.1 (f4.at5 M1)
    obtain ⟨b3, g3⟩ := below_0 (N := N) M3 p3 (by omega)
    rw [b3, bnd_so, I_lit (n := 13), tell_e, bnd_so]
    refine ok_some.mpr (ERR_t M3 (by rw [f4.Fg (by omega) (by simp), s9]; exact t9) (by rw [f4.Fg (by omega) (by simp), s8]; exact t8) ?_ ⟨n, ow, kd, _, _, Y, p3, g3⟩ (Or.inl rfl) (Or.inr ⟨by decide, by decide⟩))
    rw [ph3]
    rw [← ph1] at hf
    exact hf
  · rw [show (-I 1 : Int32) = I (-1) from rfl]
    refine k_eq ⟨by omega, by omega⟩ ⟨by decide, by decide⟩ (fun z => absurd z (by omega)) (fun _ => ok_lt.mpr (ok_some.mpr ?_))
    rw [wi_e]
    rw [show nb + m + b = nb + (m + b) by omega] at p2
    exact NRM_f M1 (by rw [s9]; exact t9) (by rw [s8]; exact t8) (by rw [ph1]; exact hf) hx (FMc.at f2.toM) (at_t p2) (LNB_g ln2 (by omega)) te (at_F (by omega)) (by omega)
end
end
