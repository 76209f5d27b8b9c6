/-! code there, nodes here: what goes together -/
set_option maxRecDepth 100000
/-- a name: where it stands among those held and those of its own -/
def LKP (H O : List Nat) (x : Int) (i : Int) : Prop := ∃ y : Nat, x = ((y : Nat) : Int) ∧ ((∃ k : Nat, i = ((k : Nat) : Int) ∧ O[k]? = some y) ∨ (∃ k : Nat, i = -2 - ((k : Nat) : Int) ∧ y ∉ O ∧ H[k]? = some y))
/-- signs of a STRING: in code from i on, in the row of strings -/
def STRs (C : Nat → Int) (R : Nat → Nat → Int) (i : Nat) (s : Int) (l : Nat) : Prop := ∃ s0 b : Nat, s = ((s0 : Nat) : Int) ∧ R 19 s0 = ((b : Nat) : Int) ∧ R 19 (s0 + 1) = ((b + l : Nat) : Int) ∧ C i = ((l : Nat) : Int) ∧ ∀ k, k < l → C (i + 1 + k) = R 18 (b + k)
/-- how patterns begin and end -/
def PTs (C : Nat → Int) (R : Nat → Nat → Int) (J : Nat → Int64) (H : List Nat) : Nat → Nat → Nat → List Nat → Nat → List Nat → Prop
  | 0, _, _, _, _, _ => False
  | f + 1, i, p, O, j, O2 =>
    (R 33 p = 0 ∧ C i = 5 ∧ j = i + 1 ∧ O2 = O) ∨
    (R 33 p = 1 ∧ C i = 4 ∧ j = i + 2 ∧ ∃ x : Nat, C (i + 1) = ((x : Nat) : Int) ∧ x ∉ O ∧ O2 = O ++ [x]) ∨
    (R 33 p = 2 ∧ C i = 3 ∧ j = i + 2 ∧ O2 = O ∧ LKP H O (C (i + 1)) (R 35 p)) ∨
    (R 33 p = 3 ∧ C i = 1 ∧ j = i + 3 ∧ O2 = O ∧ J p = mk (C (i + 1)) (C (i + 2)) ∧ (C (i + 1) = 0 ∨ C (i + 1) = 1 ∨ (C (i + 1) = 6 ∧ C (i + 2) = 0))) ∨
    (R 33 p = 4 ∧ C i = 2 ∧ O2 = O ∧ ∃ l : Nat, STRs C R (i + 1) (R 35 p) l ∧ j = i + 2 + l) ∨
    (R 33 p = 5 ∧ C i = 6 ∧ C (i + 1) = R 35 p ∧ ∃ n : Nat, (R 35 p = ((n : Nat) : Int) ∧ n ≤ 8) ∧ ∃ (ci : Nat → Nat) (cp : Nat → Nat) (co : Nat → List Nat), ci 0 = i + 2 ∧ ci n = j ∧ co 0 = O ∧ co n = O2 ∧ (0 < n → R 36 p = ((cp 0 : Nat) : Int)) ∧ (n = 0 → R 36 p = -1) ∧ ∀ k, k < n → PTs C R J H f (ci k) (cp k) (co k) (ci (k + 1)) (co (k + 1)) ∧ (k + 1 < n → R 37 (cp k) = ((cp (k + 1) : Nat) : Int)) ∧ (k + 1 = n → R 37 (cp k) = -1)) ∨
    (R 33 p = 6 ∧ ∃ n : Nat, (R 35 p = ((n : Nat) : Int) ∧ n ≤ 8) ∧ ∃ (ci : Nat → Nat) (cp : Nat → Nat) (co : Nat → List Nat), ci 0 = i ∧ co 0 = O ∧ (0 < n → R 36 p = ((cp 0 : Nat) : Int)) ∧ (∀ k, k < n → C (ci k) = 7 ∧ PTs C R J H f (ci k + 1) (cp k) (co k) (ci (k + 1)) (co (k + 1)) ∧ (k + 1 < n → R 37 (cp k) = ((cp (k + 1) : Nat) : Int))) ∧ ((R 38 p = 0 ∧ C (ci n) = 1 ∧ C (ci n + 1) = 6 ∧ C (ci n + 2) = 0 ∧ j = ci n + 3 ∧ O2 = co n) ∨ (R 38 p = 1 ∧ 0 < n ∧ R 37 (cp (n - 1)) = ((cp n : Nat) : Int) ∧ PTs C R J H f (ci n) (cp n) (co n) j O2)))
/-- the patterns of a CLAUSE, one behind another -/
def PTr (C : Nat → Int) (R : Nat → Nat → Int) (J : Nat → Int64) (H : List Nat) (f : Nat) (n i : Nat) (p : Int) (O : List Nat) (j : Nat) (O2 : List Nat) : Prop := ∃ (ci : Nat → Nat) (cp : Nat → Nat) (co : Nat → List Nat), ci 0 = i ∧ ci n = j ∧ co 0 = O ∧ co n = O2 ∧ p = ((cp 0 : Nat) : Int) ∧ ∀ k, k < n → PTs C R J H f (ci k) (cp k) (co k) (ci (k + 1)) (co (k + 1)) ∧ (k + 1 < n → R 37 (cp k) = ((cp (k + 1) : Nat) : Int))
/-- a sign between two: here, there, which sort of word -/
def TWs (s : Int) (o k : Int) : Prop := (o = 8 ∧ ((s = 12 ∧ k = 39) ∨ (s = 13 ∧ k = 40) ∨ (s = 14 ∧ k = 31) ∨ (s = 15 ∧ k = 41) ∨ (s = 16 ∧ k = 32) ∨ (s = 17 ∧ k = 42))) ∨ (o = 9 ∧ ((s = 18 ∧ k = 33) ∨ (s = 19 ∧ k = 34) ∨ (s = 20 ∧ k = 35) ∨ (s = 105 ∧ k = 10) ∨ (s = 113 ∧ k = 18))) ∨ (o = 10 ∧ ((s = 22 ∧ k = 43) ∨ (s = 23 ∧ k = 44)))
/-- what is PREDEFINED: here, there -/
def PDs (p o d : Int) : Prop := (0 ≤ p ∧ p < 30) ∧ d = (if p ≤ 7 then p else if p = 8 then 29 else p - 1) ∧ o = (if d = 2 ∨ d = 3 ∨ d = 4 ∨ d = 29 ∨ d = 15 then 40 else 39)
/-- a part has been chosen -/
def CHs (C : Nat → Int) (R : Nat → Nat → Int) (S : Option (Nat × Nat × Nat) → Nat → Nat → List Nat → List Nat → Prop) (kd e k : Nat) (H O : List Nat) : Prop := ∃ b : Nat, R 43 k = ((b : Nat) : Int) ∧ ((kd = 0 ∧ C e = 24 ∧ C (e + 1) = R 41 k ∧ (∃ t : Nat, R 44 k = ((t : Nat) : Int) ∧ C (e + 2) = R 8 t) ∧ S none (e + 3) b H O) ∨ (kd = 1 ∧ C e = 15 ∧ S none (e + 1) b H O) ∨ (kd = 2 ∧ S none e b H O) ∨ (kd = 3 ∧ C e = 33 ∧ S none (e + 1) b H O))
/-- parts are tried, from k on -/
def ZRs (C : Nat → Int) (R : Nat → Nat → Int) (J : Nat → Int64) (S : Option (Nat × Nat × Nat) → Nat → Nat → List Nat → List Nat → Prop) (kd sc : Nat) (H O : List Nat) : Nat → Nat → Int → Prop
  | 0, _, _ => False
  | f + 1, a, k =>
    a + 1 < 24000 ∧ ((k = -1 ∧ ((kd = 0 ∧ C a = 36) ∨ (kd = 1 ∧ C a = 37) ∨ (kd = 2 ∧ C a = 38) ∨ (kd = 3 ∧ C a = 34 ∧ C (a + 1) = ((sc : Nat) : Int)))) ∨
    (∃ k0 : Nat, (k = ((k0 : Nat) : Int) ∧ k0 < 100000) ∧ ∃ (e : Nat) (O2 : List Nat),
      (((kd = 2 ∨ (kd = 0 ∧ R 41 k0 = 0)) ∧ e = a ∧ O2 = O) ∨
       (C a = 19 ∧ (∃ fl : Nat, C (a + 2) = ((fl : Nat) : Int) ∧ ZRs C R J S kd sc H O f fl (R 45 k0)) ∧ ∃ n e2 : Nat, ((kd = 0 ∧ (0 < n ∧ n ≤ 6) ∧ R 41 k0 = ((n : Nat) : Int) ∧ C (a + 1) = ((n : Nat) : Int)) ∨ (kd = 1 ∧ n = 1 ∧ C (a + 1) = -1) ∨ (kd = 3 ∧ n = 1 ∧ C (a + 1) = -2)) ∧ PTr C R J H 230 n (a + 3) (R 40 k0) O e2 O2 ∧ C e2 = 8 ∧ e = e2 + 1)) ∧
      ((R 42 k0 = -1 ∧ CHs C R S kd e k0 H O2) ∨
       (∃ g fl : Nat, R 42 k0 = ((g : Nat) : Int) ∧ C e = 21 ∧ C (e + 1) = ((O2.length - O.length : Nat) : Int) ∧ C (e + 2) = ((fl : Nat) : Int) ∧ 0 < fl ∧ ZRs C R J S kd sc H O f fl (R 45 k0) ∧ S (some (kd, k0, sc)) (e + 3) g H O2))))
/-- a receive: its messages are looked at from here -/
def RCs (C : Nat → Int) (R : Nat → Nat → Int) (J : Nat → Int64) (S : Option (Nat × Nat × Nat) → Nat → Nat → List Nat → List Nat → Prop) (f sc n : Nat) (H O : List Nat) : Prop := C sc = 32 ∧ ZRs C R J S 3 sc H O f (sc + 2) (R 25 n) ∧ (R 31 n ≠ -1 → ∃ a l b : Nat, R 31 n = ((a : Nat) : Int) ∧ C (sc + 1) = ((l : Nat) : Int) ∧ R 26 a = ((b : Nat) : Int) ∧ S none l b H O) ∧ (R 31 n = -1 → C (sc - 1) = 0)
/-- one node and what stands there; y: in a GUARD -/
def LCs (C : Nat → Int) (R : Nat → Nat → Int) (J : Nat → Int64) (f : Nat) (S : Option (Nat × Nat × Nat) → Nat → Nat → List Nat → List Nat → Prop) (y : Option (Nat × Nat × Nat)) (a n : Nat) (H O : List Nat) : Prop :=
  (R 23 n = 1 ∧ (R 25 n = 0 ∨ R 25 n = 1 ∨ (R 25 n = 6 ∧ R 26 n = 0)) ∧ C a = 1 ∧ C (a + 1) = R 25 n ∧ C (a + 2) = R 26 n ∧ S y (a + 3) (n + 1) H O) ∨
  (R 23 n = 2 ∧ C a = 2 ∧ ∃ l : Nat, STRs C R (a + 1) (R 25 n) l ∧ S y (a + 2 + l) (n + 1) H O) ∨
  (R 23 n = 3 ∧ C a = 3 ∧ LKP H O (C (a + 1)) (R 25 n) ∧ S y (a + 2) (n + 1) H O) ∨
  (R 23 n = 4 ∧ C a = 4 ∧ C (a + 1) = R 25 n ∧ S y (a + 2) (n + 1) H O) ∨
  (R 23 n = 5 ∧ R 26 n = 1 ∧ 0 < R 25 n ∧ C a = 5 ∧ C (a + 1) = R 25 n ∧ S y (a + 2) (n + 1) H O) ∨
  (R 23 n = 5 ∧ R 26 n = 0 ∧ C a = 1 ∧ C (a + 1) = 6 ∧ C (a + 2) = 0 ∧ ((R 25 n = 0 ∧ S y (a + 3) (n + 1) H O) ∨ (0 < R 25 n ∧ C (a + 3) = 5 ∧ C (a + 4) = R 25 n ∧ S y (a + 5) (n + 1) H O))) ∨
  (R 23 n = 6 ∧ TWs (R 25 n) (C a) (C (a + 1)) ∧ S y (a + 2) (n + 1) H O) ∨
  (R 23 n = 7 ∧ C a = 12 ∧ S y (a + 1) (n + 1) H O) ∨
  (R 23 n = 8 ∧ C a = 11 ∧ S y (a + 1) (n + 1) H O) ∨
  ((R 23 n = 9 ∧ C a = 13 ∨ R 23 n = 10 ∧ C a = 14) ∧ (∃ t b : Nat, C (a + 1) = ((t : Nat) : Int) ∧ R 25 n = ((b : Nat) : Int) ∧ S y t b H O) ∧ S y (a + 2) (n + 1) H O) ∨
  (R 23 n = 11 ∧ C a = 17 ∧ S y (a + 1) (n + 1) H O) ∨
  (R 23 n = 12 ∧ 2000 ≤ R 27 n ∧ PDs (R 27 n - 2000) (C a) (C (a + 1)) ∧ S y (a + 2) (n + 1) H O) ∨
  (R 23 n = 12 ∧ y = none ∧ (0 ≤ R 27 n ∧ R 27 n < 2000) ∧ C (a + 1) = R 27 n ∧ C (a + 2) = R 26 n ∧ (∃ t : Nat, R 24 n = ((t : Nat) : Int) ∧ C (a + 3) = R 8 t) ∧ ((R 30 n = 1 ∧ C a = 26 ∧ a + 3 < 24000) ∨ (R 30 n = 0 ∧ C a = 25 ∧ S y (a + 4) (n + 1) H O))) ∨
  (R 23 n = 13 ∧ y = none ∧ C (a + 1) = R 26 n ∧ (∃ t : Nat, R 24 n = ((t : Nat) : Int) ∧ C (a + 2) = R 8 t) ∧ ((R 30 n = 1 ∧ C a = 28 ∧ a + 2 < 24000) ∨ (R 30 n = 0 ∧ C a = 27 ∧ S y (a + 3) (n + 1) H O))) ∨
  (R 23 n = 14 ∧ C a = 6 ∧ C (a + 1) = R 25 n ∧ ∃ u l b : Nat, R 25 n = ((u : Nat) : Int) ∧ R 54 u = ((l : Nat) : Int) ∧ C (a + 2) = ((l : Nat) : Int) ∧ R 55 u = ((b : Nat) : Int) ∧ (∀ k, k < l → LKP H O (C (a + 3 + k)) (R 57 (b + k))) ∧ S y (a + 3 + l) (n + 1) H O) ∨
  (R 23 n = 15 ∧ C a = 7 ∧ C (a + 1) = R 27 n ∧ S y (a + 2) (n + 1) H O) ∨
  (R 23 n = 16 ∧ y = none ∧ C a = 20 ∧ ∃ (p e : Nat) (O2 : List Nat), R 25 n = ((p : Nat) : Int) ∧ PTs C R J H 230 (a + 1) p O e O2 ∧ C e = 8 ∧ S y (e + 1) (n + 1) H O2) ∨
  (R 23 n = 17 ∧ C a = 15 ∧ S y (a + 1) (n + 1) H O) ∨
  (R 23 n = 18 ∧ C a = 16 ∧ ∃ k : Nat, R 25 n = ((k : Nat) : Int) ∧ k ≤ O.length ∧ C (a + 1) = ((O.length - k : Nat) : Int) ∧ S y (a + 2) (n + 1) H (O.take k)) ∨
  (R 23 n = 18 ∧ R 23 (n + 1) = 20 ∧ C a = 30 ∧ C (a + 1) = 16 ∧ ∃ k : Nat, R 25 n = ((k : Nat) : Int) ∧ k ≤ O.length ∧ C (a + 2) = ((O.length - k : Nat) : Int) ∧ S y (a + 3) (n + 2) H (O.take k)) ∨
  (R 23 n = 19 ∧ y = none ∧ C a = 29 ∧ (∃ t b : Nat, C (a + 1) = ((t : Nat) : Int) ∧ R 25 n = ((b : Nat) : Int) ∧ S y t b H O) ∧ S y (a + 2) (n + 1) H O) ∨
  (R 23 n = 20 ∧ C a = 30 ∧ S y (a + 1) (n + 1) H O) ∨
  ((R 23 n = 21 ∨ R 23 n = 31) ∧ y = none ∧ R 27 n = ((O.length : Nat) : Int) ∧ ZRs C R J S (if R 23 n = 21 then 1 else 2) 0 H O f a (R 25 n)) ∨
  (R 23 n = 22 ∧ y ≠ none ∧ C a = 22 ∧ S y (a + 1) (n + 1) H O) ∨
  (R 23 n = 23 ∧ C a = 23 ∧ ∃ kd k sc : Nat, y = some (kd, k, sc) ∧ CHs C R S kd (a + 1) k H O) ∨
  (R 23 n = 26 ∧ C a = 18 ∧ ∃ t b : Nat, C (a + 1) = ((t : Nat) : Int) ∧ ((R 25 n = ((b : Nat) : Int)) ∨ (R 25 n = -2 ∧ ∃ r : Nat, R 26 n = ((r : Nat) : Int) ∧ R 26 r = ((b : Nat) : Int))) ∧ S y t b H O) ∨
  (R 23 n = 26 ∧ ∃ b : Nat, R 25 n = ((b : Nat) : Int) ∧ S y a b H O) ∨
  (R 23 n = 27 ∧ y = none ∧ R 31 n = -1 ∧ C a = 31 ∧ C (a + 1) = 0 ∧ R 27 n = ((O.length : Nat) : Int) ∧ RCs C R J S f (a + 2) n H O) ∨
  (R 23 n = 28 ∧ y = none ∧ ∃ (r k a2 : Nat), R 25 n = ((r : Nat) : Int) ∧ R 27 n = ((k : Nat) : Int) ∧ k ≤ O.length ∧ ((k = O.length ∧ a2 = a) ∨ (k < O.length ∧ C a = 16 ∧ C (a + 1) = ((O.length - k : Nat) : Int) ∧ a2 = a + 2)) ∧ C a2 = 31 ∧ C (a2 + 1) = 1 ∧ R 23 r = 27 ∧ R 31 r = ((n : Nat) : Int) ∧ R 27 r = ((k : Nat) : Int) ∧ RCs C R J S f (a2 + 2) r H (O.take k)) ∨
  (R 23 n = 29 ∧ y = none ∧ C a = 35) ∨
  (R 23 n = 30 ∧ S y a (n + 1) H O)
/-- code from a on does what nodes from n on do -/
def CRs (C : Nat → Int) (R : Nat → Nat → Int) (J : Nat → Int64) : Nat → Option (Nat × Nat × Nat) → Nat → Nat → List Nat → List Nat → Prop
  | 0, _, _, _, _, _ => False
  | f + 1, y, a, n, H, O => (O.Nodup ∧ H.Nodup) ∧ (a + 2 < 24000 ∧ n + 2 < 100000 ∧ H.length + O.length ≤ 40) ∧ LCs C R J f (CRs C R J f) y a n H O
theorem CR_b {C : Nat → Int} {R : Nat → Nat → Int} {J : Nat → Int64} {f a n : Nat} {y : Option (Nat × Nat × Nat)} {H O : List Nat} (h : CRs C R J f y a n H O) : a + 1 < 24000 ∧ n + 2 < 100000 ∧ H.length + O.length ≤ 40 := by
  cases f with
  | zero => exact h.elim
  | succ f => exact ⟨by have := h.2.1.1; omega, h.2.1.2⟩
theorem CR_b2 {C : Nat → Int} {R : Nat → Nat → Int} {J : Nat → Int64} {f a n : Nat} {y : Option (Nat × Nat × Nat)} {H O : List Nat} (h : CRs C R J f y a n H O) : a + 2 < 24000 := by
  cases f with
  | zero => exact h.elim
  | succ f => exact h.2.1.1
theorem CR_n {C : Nat → Int} {R : Nat → Nat → Int} {J : Nat → Int64} {f a n : Nat} {y : Option (Nat × Nat × Nat)} {H O : List Nat} (h : CRs C R J f y a n H O) : O.Nodup ∧ H.Nodup := by
  cases f with
  | zero => exact h.elim
  | succ f => exact h.1
/-- rows that stay for a run -/
def ROs (w : MS) (k i : Nat) : Int := if k = 8 ∨ k = 18 ∨ k = 19 ∨ (23 ≤ k ∧ k ≤ 31) ∨ (33 ≤ k ∧ k ≤ 45) ∨ (47 ≤ k ∧ k ≤ 57) then A w k i else 0
