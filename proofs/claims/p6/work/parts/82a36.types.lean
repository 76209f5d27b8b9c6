abbrev TY : Type := Nat → Nat → Nat
def tH (T : TY) (n : Nat) : Nat := T 0 n
def tM (T : TY) (n : Nat) : Nat := T 1 n
def tL (T : TY) (n : Nat) : Nat := T 2 n
def tK (T : TY) (n : Nat) : Nat := T 3 n
def tG (T : TY) (n : Nat) : Nat := T 4 n
def tB (T : TY) (n : Nat) : Nat := T 5 n
def tD (T : TY) (n : Nat) : Nat := T 6 n
def tC (T : TY) (n : Nat) : Nat := T 7 n
def tR (T : TY) (n : Nat) : Nat := T 8 n
abbrev CY : Type := Nat → Nat → Nat
def cH (C : CY) (c : Nat) : Nat := C 0 c
def cB (C : CY) (c : Nat) : Nat := C 1 c
def cM (C : CY) (c : Nat) : Nat := C 2 c
def cN (C : CY) (c : Nat) : Nat := C 3 c
def cL (C : CY) (c : Nat) : Nat := C 4 c
def cK (C : CY) (c : Nat) : Nat := C 5 c
def cC (C : CY) (c : Nat) : Nat := C 6 c
def cR (C : CY) (c : Nat) : Nat := C 7 c
def cT (C : CY) (c : Nat) : Nat := C 8 c
def NX (T : TY) (n m h mm : Nat) : Prop := tH T m = h ∧ tM T m = mm ∧ tL T m = tL T n ∧ tK T m = tK T n ∧ tG T m = tG T n ∧ tB T m = tB T n ∧ tD T m = tD T n ∧ tC T m = tC T n ∧ tR T m < tR T n
def NCO (a : Int) (m l : Nat) : Prop := (0 ≤ a ∧ a < m) ∨ (a ≤ -2 ∧ -2 - a < l)
def npre (k : Nat) : Nat := [0, 1, 1, 1, 1, 1, 1, 1, 2, 1, 1, 1, 0, 2, 1, 1, 1, 0, 1, 1, 1, 1, 1, 1, 1, 1, 1, 1, 2, 1].getD k 0
def PAT (w : MS) (_ _ : Nat → Nat) (PN SN L m m2 : Nat) (a : Int) : Prop := ∃ (q : Nat) (pM pE : Nat → Nat), a = q ∧ q < pE q ∧ pE q ≤ PN ∧ pM q = m ∧ pM (pE q) = m2 ∧ (∀ k, q ≤ k → k ≤ pE q → pM k ≤ m2) ∧ ∀ k, q ≤ k → k < pE q → PW w pM pE PN SN L k
def PATS (w : MS) (_ _ : Nat → Nat) (PN SN L m m2 many : Nat) (a : Int) : Prop := (many = 0 ∧ m2 = m) ∨ (0 < many ∧ ∃ (q : Nat) (pM pE : Nat → Nat), a = q ∧ CHN w pE q many (chi pE q many) ∧ q < chi pE q many ∧ chi pE q many ≤ PN ∧ pM q = m ∧ pM (chi pE q many) = m2 ∧ (∀ k, q ≤ k → k ≤ chi pE q many → pM k ≤ m2) ∧ ∀ k, q ≤ k → k < chi pE q many → PW w pM pE PN SN L k)
def CLS (C : CY) (w : MS) (CN many hg hb m l k cc r : Nat) (a : Int) : Prop := ∃ c : Nat, a = c ∧ c < CN ∧ A w 41 c = many ∧ cH C c = hg ∧ cB C c = hb ∧ cM C c = m ∧ cL C c = l ∧ cK C c = k ∧ cC C c = cc ∧ cR C c = r
def WNa (w : MS) (T : TY) (C : CY) (pM pE : Nat → Nat) (ND CN PN SN UN FN n : Nat) : Prop :=
  (A w 23 n = 11 → tG T n = 0 ∧ tB T n + 2 ≤ tH T n ∧ NX T n (n + 1) (tH T n - 1) (tM T n)) ∧
  (A w 23 n = 13 → tG T n = 0 ∧ (∃ b : Nat, A w 26 n = b ∧ b ≤ 6 ∧ tB T n + (b + 1) ≤ tH T n ∧ NX T n (n + 1) (tH T n - b) (tM T n)) ∧ (A w 30 n ≠ 0 → tK T n = 0)) ∧
  (A w 23 n = 14 → tG T n = 0 ∧ (∃ u : Nat, A w 25 n = u ∧ u < UN ∧ ∀ i : Nat, (i : Int) < A w 54 u → NCO (A w 57 ((A w 55 u).toNat + i)) (tM T n) (tL T n)) ∧ NX T n (n + 1) (tH T n + 1) (tM T n)) ∧
  (A w 23 n = 15 → tG T n = 0 ∧ 0 ≤ A w 27 n ∧ A w 27 n < FN ∧ NX T n (n + 1) (tH T n + 1) (tM T n)) ∧
  (A w 23 n = 16 → tG T n = 0 ∧ tB T n + 1 ≤ tH T n ∧ ∃ m2, PAT w pM pE PN SN (tL T n) (tM T n) m2 (A w 25 n) ∧ NX T n (n + 1) (tH T n) m2) ∧
  (A w 23 n = 17 → tG T n = 0 ∧ tB T n + 1 ≤ tH T n ∧ NX T n (n + 1) (tH T n - 1) (tM T n)) ∧
  (A w 23 n = 18 → tG T n = 0 ∧ ∃ a : Nat, A w 25 n = a ∧ tD T n ≤ a ∧ a ≤ tM T n ∧ NX T n (n + 1) (tH T n) a) ∧
  (A w 23 n = 19 → tG T n = 0 ∧ tH T (n + 1) = tH T n ∧ tM T (n + 1) = tM T n ∧ tL T (n + 1) = tL T n ∧ tK T (n + 1) = tK T n + 1 ∧ tG T (n + 1) = 0 ∧ tB T (n + 1) = tH T n ∧ tD T (n + 1) = tM T n ∧ tC T (n + 1) = n ∧ tR T (n + 1) < tR T n ∧ ∃ a : Nat, A w 25 n = a ∧ a < ND ∧ NX T n a (tH T n + 1) (tM T n)) ∧
  (A w 23 n = 20 → tG T n = 0 ∧ 1 ≤ tK T n ∧ tH T (n + 1) = tH T n ∧ tM T (n + 1) = tM T n ∧ tL T (n + 1) = tL T n ∧ tK T (n + 1) = tK T n - 1 ∧ tG T (n + 1) = 0 ∧ tB T (n + 1) + 1 ≤ tH T n ∧ tD T (n + 1) ≤ tM T n ∧ (1 < tK T n → tC T (n + 1) = tC T (tC T n)) ∧ tR T (n + 1) < tR T n) ∧
  (A w 23 n = 21 → tG T n = 0 ∧ tB T n + 1 ≤ tH T n ∧ A w 27 n = tM T n ∧ ∃ r, r < tR T n ∧ CLS C w CN 1 (tH T n) (tH T n - 1) (tM T n) (tL T n) (tK T n) (tC T n) r (A w 25 n)) ∧
  (A w 23 n = 31 → tG T n = 0 ∧ A w 27 n = tM T n ∧ ∃ r, r < tR T n ∧ CLS C w CN 0 (tH T n) (tH T n) (tM T n) (tL T n) (tK T n) (tC T n) r (A w 25 n)) ∧
  (A w 23 n = 27 → tG T n = 0 ∧ A w 27 n = tM T n ∧ (A w 25 n = -1 ∨ ∃ r, r + 1 = tR T n ∧ CLS C w CN 1 (tH T n) (tH T n) (tM T n) (tL T n) (tK T n) (tC T n) r (A w 25 n)) ∧ (A w 31 n = -1 ∨ ∃ f : Nat, A w 31 n = f ∧ f < ND ∧ ∃ b : Nat, A w 26 f = b ∧ b < ND ∧ NX T n b (tH T n) (tM T n))) ∧
  (A w 23 n = 28 → tG T n = 0 ∧ tB T n + 1 ≤ tH T n ∧ (∃ c : Nat, A w 27 n = c ∧ tD T n ≤ c ∧ c ≤ tM T n ∧ ∃ a : Nat, A w 25 n = a ∧ a < ND ∧ A w 23 a = 27 ∧ A w 31 a ≠ -1 ∧ NX T n a (tH T n - 1) c)) ∧
  (A w 23 n = 29 → tG T n = 0 ∧ 1 ≤ tH T n ∧ tK T n = 0 ∧ 1 ≤ tR T n) ∧
  (A w 23 n = 30 → tG T n = 0 ∧ NX T n (n + 1) (tH T n) (tM T n)) ∧
  (A w 23 n = 26 → tG T n = 0 ∧ ((∃ a : Nat, A w 25 n = a ∧ a < ND ∧ NX T n a (tH T n) (tM T n)) ∨ (A w 25 n = -2 ∧ ∃ r : Nat, A w 26 n = r ∧ r < ND ∧ ∃ b : Nat, A w 26 r = b ∧ b < ND ∧ NX T n b (tH T n) (tM T n))))
def WNb (w : MS) (T : TY) (C : CY) (ND SN FN n : Nat) : Prop :=
  (A w 23 n = 1 → (A w 25 n = 0 ∨ (A w 25 n = 1 ∧ 0 ≤ A w 26 n ∧ A w 26 n < F w 14)) ∧ NX T n (n + 1) (tH T n + 1) (tM T n)) ∧
  (A w 23 n = 2 → 0 ≤ A w 25 n ∧ A w 25 n < SN ∧ NX T n (n + 1) (tH T n + 1) (tM T n)) ∧
  (A w 23 n = 3 → NCO (A w 25 n) (tM T n) (tL T n) ∧ NX T n (n + 1) (tH T n + 1) (tM T n)) ∧
  (A w 23 n = 4 → ∃ a : Nat, A w 25 n = a ∧ a ≤ 8 ∧ tB T n + a ≤ tH T n ∧ NX T n (n + 1) (tH T n + 1 - a) (tM T n)) ∧
  (A w 23 n = 5 → ∃ a b : Nat, A w 25 n = a ∧ A w 26 n = b ∧ a ≤ 8 ∧ b ≤ 1 ∧ tB T n + (a + b) ≤ tH T n ∧ NX T n (n + 1) (tH T n + 1 - (a + b)) (tM T n)) ∧
  (A w 23 n = 6 → tB T n + 2 ≤ tH T n ∧ NX T n (n + 1) (tH T n - 1) (tM T n) ∧ (100 ≤ A w 25 n ∨ (12 ≤ A w 25 n ∧ A w 25 n ≤ 20) ∨ A w 25 n = 22 ∨ A w 25 n = 23)) ∧
  (A w 23 n = 7 ∨ A w 23 n = 8 → tB T n + 1 ≤ tH T n ∧ NX T n (n + 1) (tH T n) (tM T n)) ∧
  (A w 23 n = 9 ∨ A w 23 n = 10 → tB T n + 1 ≤ tH T n ∧ NX T n (n + 1) (tH T n - 1) (tM T n) ∧ ∃ a : Nat, A w 25 n = a ∧ a < ND ∧ NX T n a (tH T n) (tM T n)) ∧
  (A w 23 n = 12 → (∃ b : Nat, A w 26 n = b ∧ b ≤ 6 ∧ tB T n + b ≤ tH T n ∧ NX T n (n + 1) (tH T n + 1 - b) (tM T n) ∧ ((∃ k : Nat, A w 27 n = 2000 + k ∧ k < 30 ∧ b = npre k ∧ (tG T n ≠ 0 → 18 ≤ k)) ∨ (tG T n = 0 ∧ 0 ≤ A w 27 n ∧ A w 27 n < FN ∧ A w 48 (A w 27 n).toNat = b))) ∧ (A w 30 n ≠ 0 → tK T n = 0)) ∧
  (A w 23 n = 22 → tG T n ≠ 0 ∧ tB T n + 1 ≤ tH T n ∧ NX T n (n + 1) (tH T n - 1) (tM T n)) ∧
  (A w 23 n = 23 → tG T n ≠ 0 ∧ tH T n = cH C (tG T n - 1))
def CWD (w : MS) (T : TY) (C : CY) (pM pE : Nat → Nat) (ND CN PN SN c : Nat) : Prop :=
  (∃ many : Nat, A w 41 c = many ∧ many ≤ 6 ∧ PATS w pM pE PN SN (cL C c) (cM C c) (cN C c) many (A w 40 c)) ∧ (cM C c ≤ cN C c ∧ cN C c + cL C c ≤ 40 ∧ cR C c < 16000 ∧ cT C c ≤ 16000) ∧
  (A w 42 c = -1 ∨ ∃ g : Nat, A w 42 c = g ∧ g < ND ∧ tH T g = cH C c ∧ tG T g = c + 1 ∧ tR T g ≤ cT C c) ∧
  (∃ b : Nat, A w 43 c = b ∧ b < ND ∧ tH T b = cB C c ∧ tM T b = cN C c ∧ tL T b = cL C c ∧ tK T b = cK C c ∧ tG T b = 0 ∧ tC T b = cC C c ∧ tR T b ≤ cR C c) ∧
  (A w 45 c = -1 ∨ ∃ d : Nat, A w 45 c = d ∧ c < d ∧ d < CN ∧ A w 41 d = A w 41 c ∧ cH C d = cH C c ∧ cB C d = cB C c ∧ cM C d = cM C c ∧ cL C d = cL C c ∧ cK C d = cK C c ∧ cC C d = cC C c ∧ cR C d = cR C c ∧ cT C d ≤ cT C c)
def NW (w : MS) (T : TY) (C : CY) (ND CN n : Nat) : Prop :=
  tH T n ≤ 760 ∧ tM T n + tL T n ≤ 40 ∧ tK T n ≤ 26 ∧ tB T n ≤ tH T n ∧ tD T n ≤ tM T n ∧ (1 ≤ tR T n ∧ tR T n ≤ 16000) ∧
  (0 < tK T n → tC T n < ND ∧ A w 23 (tC T n) = 19 ∧ tK T (tC T n) + 1 = tK T n ∧ tL T (tC T n) = tL T n ∧ tH T (tC T n) ≤ tB T n ∧ tM T (tC T n) ≤ tD T n ∧ ∃ a : Nat, A w 25 (tC T n) = a ∧ tR T a < tR T n) ∧
  (tG T n ≠ 0 → ∃ c, tG T n = c + 1 ∧ c < CN ∧ tM T n = cN C c ∧ tL T n = cL C c ∧ tK T n = cK C c ∧ tC T n = cC C c ∧ tB T n = cH C c ∧ ∀ d : Nat, A w 45 c = d → cT C d < tR T n) ∧
  1 ≤ A w 23 n ∧ A w 23 n ≤ 31 ∧ A w 23 n ≠ 24 ∧ A w 23 n ≠ 25 ∧ (A w 23 n ≠ 29 → n + 1 < ND) ∧ 0 ≤ A w 24 n ∧ A w 24 n < 4002
def PRG (w : MS) (T : TY) (C : CY) (pM pE : Nat → Nat) (ND CN PN SN UN FN : Nat) : Prop :=
  (ND ≤ 16000 ∧ CN ≤ 1400 ∧ PN ≤ 2900 ∧ UN ≤ 1400 ∧ FN ≤ 1000 ∧ F w 52 = FN ∧ F w 56 = UN) ∧ STR w SN ∧
  (∀ n, n < ND → NW w T C ND CN n ∧ WNa w T C pM pE ND CN PN SN UN FN n ∧ WNb w T C ND SN FN n) ∧
  (∀ c, c < CN → CWD w T C pM pE ND CN PN SN c) ∧
  (∀ f, f < FN → ∃ a r : Nat, A w 48 f = a ∧ a ≤ 6 ∧ CLS C w CN a a 0 0 0 0 0 r (A w 50 f)) ∧
  (∀ u, u < UN → ∃ a h r : Nat, A w 54 u = h ∧ h ≤ 40 ∧ 0 ≤ A w 55 u ∧ A w 55 u + h ≤ 24000 ∧ a ≤ 6 ∧ CLS C w CN a a 0 0 h 0 0 r (A w 53 u))
