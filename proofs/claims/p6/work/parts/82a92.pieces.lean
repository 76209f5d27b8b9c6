def ETY (T : TY) (Z : Nat → Nat) (h m n : Nat) : Prop := T 0 n = h ∧ T 1 n = m ∧ T 2 n = Z 2 ∧ T 3 n = Z 3 ∧ T 4 n = Z 4 ∧ T 5 n = Z 5 ∧ T 6 n = Z 6 ∧ T 7 n = Z 7
theorem ETY_nx {T : TY} {Z : Nat → Nat} {h m n h2 m2 n2 : Nat} (e : ETY T Z h m n) (f : ETY T Z h2 m2 n2) (r : tR T n2 < tR T n) : NX T n n2 h2 m2 := by
  obtain ⟨e0, e1, e2, e3, e4, e5, e6, e7⟩ := e
  obtain ⟨f0, f1, f2, f3, f4, f5, f6, f7⟩ := f
  exact ⟨f0, f1, f2.trans e2.symm, f3.trans e3.symm, f4.trans e4.symm, f5.trans e5.symm, f6.trans e6.symm, f7.trans e7.symm, r⟩
def KIN (w : MS) (T : TY) (a b : Nat → Nat) (n : Nat) : Prop := a 0 ≤ tC T n ∧ tC T n < b 0 ∧ A w 23 (tC T n) = 19 ∧ tK T (tC T n) + 1 = tK T n ∧ tL T (tC T n) = tL T n ∧ tH T (tC T n) ≤ tB T n ∧ tM T (tC T n) ≤ tD T n ∧ ∃ x : Nat, A w 25 (tC T n) = x ∧ a 0 ≤ x ∧ x ≤ b 0 ∧ tR T x < tR T n
def KOUT (T : TY) (Z : Nat → Nat) (rk n : Nat) : Prop := tC T n = Z 7 ∧ tK T n = Z 3 ∧ tL T n = Z 2 ∧ Z 5 ≤ tB T n ∧ Z 6 ≤ tD T n ∧ rk < tR T n
def GIN (w : MS) (T : TY) (C : CY) (a b : Nat → Nat) (n : Nat) : Prop := ∃ c, tG T n = c + 1 ∧ a 1 ≤ c ∧ c < b 1 ∧ tM T n = cN C c ∧ tL T n = cL C c ∧ tK T n = cK C c ∧ tC T n = cC C c ∧ tB T n = cH C c ∧ ∀ d : Nat, A w 45 c = d → a 1 ≤ d ∧ d < b 1 ∧ cT C d < tR T n
def GOUT (w : MS) (T : TY) (Z : Nat → Nat) (rk m n : Nat) : Prop := A w 23 n ≠ 23 ∧ tM T n = m ∧ T 2 n = Z 2 ∧ T 3 n = Z 3 ∧ T 4 n = Z 4 ∧ T 5 n = Z 5 ∧ T 7 n = Z 7 ∧ rk < tR T n
def NWX (w : MS) (T : TY) (C : CY) (Z : Nat → Nat) (rk m : Nat) (a b : Nat → Nat) (n : Nat) : Prop :=
  (tH T n ≤ 760 ∧ tM T n + tL T n ≤ 40 ∧ tK T n ≤ 26 ∧ tB T n ≤ tH T n ∧ tD T n ≤ tM T n ∧ 1 ≤ tR T n ∧ tR T n ≤ 16000) ∧
  (0 < tK T n → KIN w T a b n ∨ KOUT T Z rk n) ∧ (tG T n ≠ 0 → GIN w T C a b n ∨ GOUT w T Z rk m n) ∧
  (1 ≤ A w 23 n ∧ A w 23 n ≤ 31 ∧ A w 23 n ≠ 24 ∧ A w 23 n ≠ 25 ∧ 0 ≤ A w 24 n ∧ A w 24 n < 4002)
def P12 (w : MS) (T : TY) (n : Nat) : Prop := A w 23 n = 12 → (∃ b : Nat, A w 26 n = b ∧ b ≤ 6 ∧ tB T n + b ≤ tH T n ∧ NX T n (n + 1) (tH T n + 1 - b) (tM T n)) ∧ (tG T n ≠ 0 → A w 27 n = 1) ∧ (A w 30 n ≠ 0 → tK T n = 0)
def P20 (w : MS) (T : TY) (a b : Nat → Nat) (n : Nat) : Prop := A w 23 n = 20 → a 0 ≤ tC T n ∧ tC T n < b 0
def P15 (w : MS) (T : TY) (n : Nat) : Prop := A w 23 n = 15 → tG T n = 0 ∧ NX T n (n + 1) (tH T n + 1) (tM T n)
def LOW (w : MS) (a b : Nat → Nat) (E : Nat → Prop) (n : Nat) : Prop :=
  (A w 23 n = 9 ∨ A w 23 n = 10 ∨ A w 23 n = 19 ∨ A w 23 n = 28 → (a 0 : Int) ≤ A w 25 n) ∧
  (A w 23 n = 26 → (A w 25 n ≠ -2 → (a 0 : Int) ≤ A w 25 n) ∧ (A w 25 n = -2 → ¬ E n → (a 0 : Int) ≤ A w 26 n ∧ (a 0 : Int) ≤ A w 26 (A w 26 n).toNat ∧ A w 26 n < b 0)) ∧
  (A w 23 n = 27 → A w 31 n ≠ -1 → (a 0 : Int) ≤ A w 31 n ∧ (a 0 : Int) ≤ A w 26 (A w 31 n).toNat ∧ A w 31 n < b 0) ∧
  (A w 23 n = 21 ∨ A w 23 n = 31 ∨ A w 23 n = 27 → A w 25 n ≠ -1 → (a 1 : Int) ≤ A w 25 n) ∧
  (A w 23 n = 14 → (a 3 : Int) ≤ A w 25 n) ∧ (A w 23 n = 28 → A w 25 n < b 0)
def kq (w : MS) (T : TY) (n : Nat) : Nat := if A w 23 n = 20 then tK T n - 1 else tK T n
def RNK (w : MS) (T : TY) (a b : Nat → Nat) (S : Nat → Prop) (n : Nat) : Prop := (A w 28 n = -1 ∨ ∃ x : Nat, A w 28 n = x ∧ a 0 ≤ x ∧ x < b 0 ∧ kq w T x = kq w T n) ∧ (S n ∨ A w 29 n = -1 ∨ ∃ x : Nat, A w 29 n = x ∧ a 0 ≤ x ∧ x < b 0 ∧ kq w T x = kq w T n)
def NODE (w : MS) (T : TY) (C : CY) (Z : Nat → Nat) (rk m : Nat) (a b : Nat → Nat) (SN : Nat) (E S : Nat → Prop) (n : Nat) : Prop :=
  NWX w T C Z rk m a b n ∧ (A w 23 n ≠ 15 → ¬ E n → WNa w T C id id (b 0 + 1) (b 1) (b 2) SN (b 3) 0 n) ∧ (A w 23 n ≠ 12 → WNb w T C (b 0 + 1) SN 0 n) ∧ P12 w T n ∧ P15 w T n ∧ P20 w T a b n ∧ LOW w a b E n ∧ RNK w T a b S n
def CLO (w : MS) (a : Nat → Nat) (c : Nat) : Prop := (A w 42 c = -1 ∨ (a 0 : Int) ≤ A w 42 c) ∧ (a 0 : Int) ≤ A w 43 c
def FNW (w : MS) (C : CY) (a b : Nat → Nat) (u : Nat) : Prop := (∃ x h r : Nat, A w 54 u = h ∧ h ≤ 40 ∧ 0 ≤ A w 55 u ∧ A w 55 u + h ≤ b 4 ∧ x ≤ 6 ∧ CLS C w (b 1) x x 0 0 h 0 0 r (A w 53 u)) ∧ (a 1 : Int) ≤ A w 53 u
def FRG (w : MS) (T : TY) (C : CY) (Z : Nat → Nat) (rk m : Nat) (a b : Nat → Nat) (SN : Nat) (E S : Nat → Prop) : Prop :=
  (∀ n, a 0 ≤ n → n < b 0 → NODE w T C Z rk m a b SN E S n) ∧ (∀ c, a 1 ≤ c → c < b 1 → CWD w T C id id (b 0 + 1) (b 1) (b 2) SN c ∧ CLO w a c) ∧ ∀ u, a 3 ≤ u → u < b 3 → FNW w C a b u
section
variable {w w2 : MS} {T T1 : TY} {C C1 : CY} {Z Z1 a b a2 b2 : Nat → Nat} {rk rk1 m m1 SN : Nat} {E E1 S S1 : Nat → Prop}
theorem PAT_up {f g f2 g2 : Nat → Nat} {PN PN2 L m m2 : Nat} {x : Int} (h : PAT w f g PN SN L m m2 x) (hp : PN ≤ PN2) : PAT w f2 g2 PN2 SN L m m2 x := by
  obtain ⟨q, pM, pE, q1, q2, q3, q4, q5, q6, q7⟩ := h
  exact ⟨q, pM, pE, q1, q2, by omega, q4, q5, q6, fun k h1 h2 => by have := q7 k h1 h2; exact ⟨this.1, by have := this.2.1; omega, this.2.2⟩⟩
theorem PATS_up {f g f2 g2 : Nat → Nat} {PN PN2 L m m2 many : Nat} {x : Int} (h : PATS w f g PN SN L m m2 many x) (hp : PN ≤ PN2) : PATS w f2 g2 PN2 SN L m m2 many x := by
  rcases h with h | ⟨q0, q, pM, pE, q1, q2, q3, q4, q5, q6, q7, q8⟩
  · exact Or.inl h
  · exact Or.inr ⟨q0, q, pM, pE, q1, q2, q3, by omega, q5, q6, q7, fun k h1 h2 => by have := q8 k h1 h2; exact ⟨this.1, by have := this.2.1; omega, this.2.2⟩⟩
theorem NX_eq {n x h mm : Nat} (e : NX T1 n x h mm) (h1 : ∀ k, k ≤ 8 → T k n = T1 k n) (h2 : ∀ k, k ≤ 8 → T k x = T1 k x) : NX T n x h mm := by
  unfold NX tH tM tL tK tG tB tD tC tR at e ⊢
  rw [h1 2 (by decide), h1 3 (by decide), h1 4 (by decide), h1 5 (by decide), h1 6 (by decide), h1 7 (by decide), h1 8 (by decide), h2 0 (by decide), h2 1 (by decide), h2 2 (by decide), h2 3 (by decide), h2 4 (by decide), h2 5 (by decide), h2 6 (by decide), h2 7 (by decide), h2 8 (by decide)]
  exact e
theorem CLS_eq {CN CN2 many hg hb mm l k cc r c : Nat} (e : CLS C1 w CN many hg hb mm l k cc r ((c : Nat) : Int)) (hC : ∀ k, C k c = C1 k c) (hn : CN ≤ CN2) : CLS C w CN2 many hg hb mm l k cc r ((c : Nat) : Int) := by
  obtain ⟨c2, e1, e2, e3, e4⟩ := e
  obtain rfl : c = c2 := by omega
  refine ⟨c, rfl, by omega, e3, ?_⟩
  unfold cH cB cM cL cK cC cR at e4 ⊢
  rw [hC, hC, hC, hC, hC, hC, hC]
  exact e4
theorem WNa_tr {n : Nat} (h : WNa w T1 C1 id id (b 0 + 1) (b 1) (b 2) SN (b 3) 0 n) (h1 : a 0 ≤ n) (h2 : n < b 0) (lo : LOW w a b E n) (hE : ¬ E n) (h20 : A w 23 n = 20 → a 0 ≤ tC T1 n ∧ tC T1 n < b 0) (h0 : b 0 ≤ b2 0) (h0' : b 1 ≤ b2 1) (h0'' : b 2 ≤ b2 2) (h0''' : b 3 ≤ b2 3) (eT : ∀ k n, k ≤ 8 → a 0 ≤ n → n ≤ b 0 → T k n = T1 k n) (eC : ∀ k c, a 1 ≤ c → c < b 1 → C k c = C1 k c) : WNa w T C id id (b2 0 + 1) (b2 1) (b2 2) SN (b2 3) 0 n := by
  have nx : ∀ x h mm, a 0 ≤ x → x ≤ b 0 → NX T1 n x h mm → NX T n x h mm := fun x h mm g1 g2 e => NX_eq e (fun k hk => eT k n hk h1 (by omega)) (fun k hk => eT k x hk g1 g2)
  have e0 : tH T n = tH T1 n := eT 0 n (by decide) h1 (by omega)
  have e1 : tM T n = tM T1 n := eT 1 n (by decide) h1 (by omega)
  have e2 : tL T n = tL T1 n := eT 2 n (by decide) h1 (by omega)
  have e3 : tK T n = tK T1 n := eT 3 n (by decide) h1 (by omega)
  have e4 : tG T n = tG T1 n := eT 4 n (by decide) h1 (by omega)
  have e5 : tB T n = tB T1 n := eT 5 n (by decide) h1 (by omega)
  have e6 : tD T n = tD T1 n := eT 6 n (by decide) h1 (by omega)
  have e7 : tC T n = tC T1 n := eT 7 n (by decide) h1 (by omega)
  have e8 : tR T n = tR T1 n := eT 8 n (by decide) h1 (by omega)
  have f0 : tH T (n + 1) = tH T1 (n + 1) := eT 0 _ (by decide) (by omega) (by omega)
  have f1 : tM T (n + 1) = tM T1 (n + 1) := eT 1 _ (by decide) (by omega) (by omega)
  have f2 : tL T (n + 1) = tL T1 (n + 1) := eT 2 _ (by decide) (by omega) (by omega)
  have f3 : tK T (n + 1) = tK T1 (n + 1) := eT 3 _ (by decide) (by omega) (by omega)
  have f4 : tG T (n + 1) = tG T1 (n + 1) := eT 4 _ (by decide) (by omega) (by omega)
  have f5 : tB T (n + 1) = tB T1 (n + 1) := eT 5 _ (by decide) (by omega) (by omega)
  have f6 : tD T (n + 1) = tD T1 (n + 1) := eT 6 _ (by decide) (by omega) (by omega)
  have f7 : tC T (n + 1) = tC T1 (n + 1) := eT 7 _ (by decide) (by omega) (by omega)
  have f8 : tR T (n + 1) = tR T1 (n + 1) := eT 8 _ (by decide) (by omega) (by omega)
  obtain ⟨l1, l2, l3, l4, -⟩ := lo
  obtain ⟨k11, k13, k14, k15, k16, k17, k18, k19, k20, k21, k31, k27, k28, k29, k30, k26⟩ := h
  unfold WNa
  rw [e0, e1, e2, e3, e4, e5, e6, e7, e8, f0, f1, f2, f3, f4, f5, f6, f7, f8]
  have cls : ∀ {many hg hb mm l k cc r : Nat}, (A w 25 n ≠ -1 → (a 1 : Int) ≤ A w 25 n) → CLS C1 w (b 1) many hg hb mm l k cc r (A w 25 n) → CLS C w (b2 1) many hg hb mm l k cc r (A w 25 n) := fun {many hg hb mm l k cc r} hl hc => by
    obtain ⟨c, c1, c2, c3⟩ := id hc
    rw [c1] at hc hl ⊢
    exact CLS_eq hc (fun k => eC k c (by have := hl (by omega); omega) c2) h0'
  refine ⟨fun z => ?_, fun z => ?_, fun z => ?_, fun z => ?_, fun z => ?_, fun z => ?_, fun z => ?_, fun z => ?_, fun z => ?_, fun z => ?_, fun z => ?_, fun z => ?_, fun z => ?_, fun z => ?_, fun z => ?_, fun z => ?_⟩
  · exact ⟨(k11 z).1, (k11 z).2.1, nx _ _ _ (by omega) (by omega) (k11 z).2.2⟩
  · obtain ⟨z1, ⟨x, z2, z3, z4, z5⟩, z6⟩ := k13 z
    exact ⟨z1, ⟨x, z2, z3, z4, nx _ _ _ (by omega) (by omega) z5⟩, z6⟩
  · obtain ⟨z1, ⟨u, z2, z3, z4⟩, z5⟩ := k14 z
    exact ⟨z1, ⟨u, z2, by omega, z4⟩, nx _ _ _ (by omega) (by omega) z5⟩
  · have := (k15 z).2.2.1
    have := (k15 z).2.1
    omega
  · obtain ⟨z1, z2, m2, z3, z4⟩ := k16 z
    exact ⟨z1, z2, m2, PAT_up z3 h0'', nx _ _ _ (by omega) (by omega) z4⟩
  · exact ⟨(k17 z).1, (k17 z).2.1, nx _ _ _ (by omega) (by omega) (k17 z).2.2⟩
  · obtain ⟨z1, x, z2, z3, z4, z5⟩ := k18 z
    exact ⟨z1, x, z2, z3, z4, nx _ _ _ (by omega) (by omega) z5⟩
  · obtain ⟨z1, z2, z3, z4, z5, z6, z7, z8, z9, z10, x, z11, z12, z13⟩ := k19 z
    have := l1 (Or.inr (Or.inr (Or.inl z)))
    exact ⟨z1, z2, z3, z4, z5, z6, z7, z8, z9, z10, x, z11, by omega, nx _ _ _ (by omega) (by omega) z13⟩
  · obtain ⟨z1, z2, z3, z4, z5, z6, z7, z8, z9, z10, z11⟩ := k20 z
    exact ⟨z1, z2, z3, z4, z5, z6, z7, z8, z9, fun y => by rw [z10 y]; exact (eT 7 _ (by decide) (h20 z).1 (Nat.le_of_lt (h20 z).2)).symm, z11⟩
  · obtain ⟨z1, z2, z3, r, z4, z5⟩ := k21 z
    exact ⟨z1, z2, z3, r, z4, cls (l4 (Or.inl z)) z5⟩
  · obtain ⟨z1, z3, r, z4, z5⟩ := k31 z
    exact ⟨z1, z3, r, z4, cls (l4 (Or.inr (Or.inl z))) z5⟩
  · obtain ⟨z1, z2, z3, z4⟩ := k27 z
    refine ⟨z1, z2, ?_, ?_⟩
    · rcases z3 with z3 | ⟨r, z5, z6⟩
      · exact Or.inl z3
      · exact Or.inr ⟨r, z5, cls (l4 (Or.inr (Or.inr z))) z6⟩
    · rcases z4 with z4 | ⟨f, z5, z6, x, z7, z8, z9⟩
      · exact Or.inl z4
      · have := l3 z (by omega)
        rw [z5, Int.toNat_natCast, z7] at this
        exact Or.inr ⟨f, z5, by omega, x, z7, by omega, nx _ _ _ (by omega) (by omega) z9⟩
  · obtain ⟨z1, z2, c, z3, z4, z5, x, z6, z7, z8, z9, z10⟩ := k28 z
    have := l1 (Or.inr (Or.inr (Or.inr z)))
    exact ⟨z1, z2, c, z3, z4, z5, x, z6, by omega, z8, z9, nx _ _ _ (by omega) (by omega) z10⟩
  · exact k29 z
  · exact ⟨(k30 z).1, nx _ _ _ (by omega) (by omega) (k30 z).2⟩
  · obtain ⟨z1, z2⟩ := k26 z
    refine ⟨z1, ?_⟩
    rcases z2 with ⟨x, z2, z3, z4⟩ | ⟨z2, r, z3, z4, x, z5, z6, z7⟩
    · have := (l2 z).1 (by omega)
      exact Or.inl ⟨x, z2, by omega, nx _ _ _ (by omega) (by omega) z4⟩
    · have := (l2 z).2 z2 hE
      rw [z3, Int.toNat_natCast, z5] at this
      exact Or.inr ⟨z2, r, z3, by omega, x, z5, by omega, nx _ _ _ (by omega) (by omega) z7⟩
theorem WNb_tr {n : Nat} (h : WNb w T1 C1 (b 0 + 1) SN 0 n) (h1 : a 0 ≤ n) (h2 : n < b 0) (lo : LOW w a b E n) (h12 : A w 23 n ≠ 12) (h23 : A w 23 n = 23 → cH C (tG T1 n - 1) = cH C1 (tG T1 n - 1)) (h0 : b 0 ≤ b2 0) (eT : ∀ k n, k ≤ 8 → a 0 ≤ n → n ≤ b 0 → T k n = T1 k n) : WNb w T C (b2 0 + 1) SN 0 n := by
  have nx : ∀ x h mm, a 0 ≤ x → x ≤ b 0 → NX T1 n x h mm → NX T n x h mm := fun x h mm g1 g2 e => NX_eq e (fun k hk => eT k n hk h1 (by omega)) (fun k hk => eT k x hk g1 g2)
  have e0 : tH T n = tH T1 n := eT 0 n (by decide) h1 (by omega)
  have e1 : tM T n = tM T1 n := eT 1 n (by decide) h1 (by omega)
  have e2 : tL T n = tL T1 n := eT 2 n (by decide) h1 (by omega)
  have e3 : tK T n = tK T1 n := eT 3 n (by decide) h1 (by omega)
  have e4 : tG T n = tG T1 n := eT 4 n (by decide) h1 (by omega)
  have e5 : tB T n = tB T1 n := eT 5 n (by decide) h1 (by omega)
  obtain ⟨l1, -⟩ := lo
  obtain ⟨k1, k2, k3, k4, k5, k6, k7, k9, k12, k22, k23⟩ := h
  unfold WNb
  rw [e0, e1, e2, e3, e4, e5]
  refine ⟨fun z => ?_, fun z => ?_, fun z => ?_, fun z => ?_, fun z => ?_, fun z => ?_, fun z => ?_, fun z => ?_, fun z => absurd z h12, fun z => ?_, fun z => ?_⟩
  · exact ⟨(k1 z).1, nx _ _ _ (by omega) (by omega) (k1 z).2⟩
  · exact ⟨(k2 z).1, (k2 z).2.1, nx _ _ _ (by omega) (by omega) (k2 z).2.2⟩
  · exact ⟨(k3 z).1, nx _ _ _ (by omega) (by omega) (k3 z).2⟩
  · obtain ⟨x, z1, z2, z3, z4⟩ := k4 z
    exact ⟨x, z1, z2, z3, nx _ _ _ (by omega) (by omega) z4⟩
  · obtain ⟨x, y, z1, z2, z3, z4, z5, z6⟩ := k5 z
    exact ⟨x, y, z1, z2, z3, z4, z5, nx _ _ _ (by omega) (by omega) z6⟩
  · exact ⟨(k6 z).1, nx _ _ _ (by omega) (by omega) (k6 z).2.1, (k6 z).2.2⟩
  · exact ⟨(k7 z).1, nx _ _ _ (by omega) (by omega) (k7 z).2⟩
  · obtain ⟨z1, z2, x, z3, z4, z5⟩ := k9 z
    have := l1 (by rcases z with z | z; exact Or.inl z; exact Or.inr (Or.inl z))
    exact ⟨z1, nx _ _ _ (by omega) (by omega) z2, x, z3, by omega, nx _ _ _ (by omega) (by omega) z5⟩
  · exact ⟨(k22 z).1, (k22 z).2.1, nx _ _ _ (by omega) (by omega) (k22 z).2.2⟩
  · exact ⟨(k23 z).1, by rw [h23 z]; exact (k23 z).2⟩
theorem FRG_tr (hf : FRG w T1 C1 Z1 rk1 m1 a b SN E1 S1) (ha : ∀ i, a2 i ≤ a i) (hb : ∀ i, b i ≤ b2 i) (eT : ∀ k n, k ≤ 8 → a 0 ≤ n → n ≤ b 0 → T k n = T1 k n) (eC : ∀ k c, a 1 ≤ c → c < b 1 → C k c = C1 k c) (hK : ∀ n, a 0 ≤ n → n < b 0 → 0 < tK T1 n → KOUT T1 Z1 rk1 n → KIN w T a2 b2 n ∨ KOUT T Z rk n) (hG : ∀ n, a 0 ≤ n → n < b 0 → tG T1 n ≠ 0 → GOUT w T1 Z1 rk1 m1 n → GIN w T C a2 b2 n ∨ GOUT w T Z rk m n) (hE : ∀ n, E1 n → E n) (hS : ∀ n, S1 n → S n) : (∀ n, a 0 ≤ n → n < b 0 → NODE w T C Z rk m a2 b2 SN E S n) ∧ (∀ c, a 1 ≤ c → c < b 1 → CWD w T C id id (b2 0 + 1) (b2 1) (b2 2) SN c ∧ CLO w a2 c) ∧ ∀ u, a 3 ≤ u → u < b 3 → FNW w C a2 b2 u := by
  have ha0 := ha 0
  have ha1 := ha 1
  have ha3 := ha 3
  have hb0 := hb 0
  have hb1 := hb 1
  have hb2 := hb 2
  have hb3 := hb 3
  have hb4 := hb 4
  refine ⟨fun n h1 h2 => ?_, fun c h1 h2 => ?_, fun u h1 h2 => ?_⟩
  · obtain ⟨⟨n1, n2, n3, n4⟩, na, nb, n12, n15, n20, lo, rn⟩ := hf.1 n h1 h2
    have nx : ∀ x h mm, a 0 ≤ x → x ≤ b 0 → NX T1 n x h mm → NX T n x h mm := fun x h mm g1 g2 e => NX_eq e (fun k hk => eT k n hk h1 (by omega)) (fun k hk => eT k x hk g1 g2)
    have e0 : tH T n = tH T1 n := eT 0 n (by decide) h1 (by omega)
    have e1 : tM T n = tM T1 n := eT 1 n (by decide) h1 (by omega)
    have e2 : tL T n = tL T1 n := eT 2 n (by decide) h1 (by omega)
    have e3 : tK T n = tK T1 n := eT 3 n (by decide) h1 (by omega)
    have e4 : tG T n = tG T1 n := eT 4 n (by decide) h1 (by omega)
    have e5 : tB T n = tB T1 n := eT 5 n (by decide) h1 (by omega)
    have e6 : tD T n = tD T1 n := eT 6 n (by decide) h1 (by omega)
    have e7 : tC T n = tC T1 n := eT 7 n (by decide) h1 (by omega)
    have e8 : tR T n = tR T1 n := eT 8 n (by decide) h1 (by omega)
    have h23 : A w 23 n = 23 → cH C (tG T1 n - 1) = cH C1 (tG T1 n - 1) := fun z => by
      have g := ((nb (by omega)).2.2.2.2.2.2.2.2.2.2 z).1
      rcases n3 g with ⟨c, g1, g2, g3, -⟩ | g3
      · rw [g1]; exact eC 0 c g2 g3
      · exact absurd z g3.1
    refine ⟨⟨by rw [e0, e1, e2, e3, e5, e6, e8]; exact n1, fun z => ?_, fun z => ?_, n4⟩, fun g1 g2 => WNa_tr (na g1 (fun y => g2 (hE n y))) h1 h2 lo (fun y => g2 (hE n y)) n20 hb0 hb1 hb2 hb3 eT eC, fun g1 => WNb_tr (nb g1) h1 h2 lo g1 h23 hb0 eT, fun z => ?_, fun z => ?_, fun z => ?_, ?_, ?_⟩
    · rw [e3] at z
      rcases n2 z with ⟨c1, c2, c3, c4, c5, c6, c7, x, c8, c9, c10, c11⟩ | y
      · refine Or.inl ⟨by rw [e7]; omega, by rw [e7]; omega, by rw [e7]; exact c3, ?_, ?_, ?_, ?_, x, by rw [e7]; exact c8, by omega, by omega, ?_⟩
        · rw [e7, e3]; exact (congrArg (· + 1) (eT 3 _ (by decide) c1 (by omega))).trans c4
        · rw [e7, e2]; exact (eT 2 _ (by decide) c1 (by omega)).trans c5
        · rw [e7, e5]; exact Nat.le_trans (Nat.le_of_eq (eT 0 _ (by decide) c1 (by omega))) c6
        · rw [e7, e6]; exact Nat.le_trans (Nat.le_of_eq (eT 1 _ (by decide) c1 (by omega))) c7
        · rw [e8]; exact Nat.lt_of_le_of_lt (Nat.le_of_eq (eT 8 _ (by decide) c9 c10)) c11
      · exact hK n h1 h2 z y
    · rw [e4] at z
      rcases n3 z with ⟨c, c1, c2, c3, c4, c5, c6, c7, c8, c9⟩ | y
      · refine Or.inl ⟨c, by rw [e4]; exact c1, by omega, by omega, ?_, ?_, ?_, ?_, ?_, fun d hd => ?_⟩
        · rw [e1]; exact c4.trans (eC 3 c c2 c3).symm
        · rw [e2]; exact c5.trans (eC 4 c c2 c3).symm
        · rw [e3]; exact c6.trans (eC 5 c c2 c3).symm
        · rw [e7]; exact c7.trans (eC 6 c c2 c3).symm
        · rw [e5]; exact c8.trans (eC 0 c c2 c3).symm
        · obtain ⟨d1, d2, d3⟩ := c9 d hd
          refine ⟨by omega, by omega, ?_⟩
          rw [e8]
          exact Nat.lt_of_le_of_lt (Nat.le_of_eq (eC 8 d d1 d2)) d3
      · exact hG n h1 h2 z y
    · obtain ⟨⟨x, z1, z2, z3, z4⟩, z5, z6⟩ := n12 z
      rw [e3, e4, e5, e0, e1]
      exact ⟨⟨x, z1, z2, z3, nx _ _ _ (by omega) (by omega) z4⟩, z5, z6⟩
    · rw [e4, e0, e1]
      exact ⟨(n15 z).1, nx _ _ _ (by omega) (by omega) (n15 z).2⟩
    · have := n20 z
      rw [e7]
      omega
    · obtain ⟨l1, l2, l3, l4, l5, l6⟩ := lo
      exact ⟨fun z => by have := l1 z; omega, fun z => ⟨fun y => by have := (l2 z).1 y; omega, fun y y2 => by have := (l2 z).2 y (fun q => y2 (hE n q)); omega⟩, fun z y => by have := l3 z y; omega, fun z y => by have := l4 z y; omega, fun z => by have := l5 z; omega, fun z => by have := l6 z; omega⟩
    · refine ⟨rn.1.imp id fun ⟨x, x1, x2, x3, x4⟩ => ⟨x, x1, by omega, by omega, ?_⟩, rn.2.imp (hS n) (fun o => o.imp id fun ⟨x, x1, x2, x3, x4⟩ => ⟨x, x1, by omega, by omega, ?_⟩)⟩
      · unfold kq at x4 ⊢; rw [e3, show tK T x = tK T1 x from eT 3 x (by decide) x2 (by omega)]; exact x4
      · unfold kq at x4 ⊢; rw [e3, show tK T x = tK T1 x from eT 3 x (by decide) x2 (by omega)]; exact x4
  · obtain ⟨⟨⟨many, d1, d2, d3⟩, d4, d5, d6, d7⟩, o1, o2⟩ := hf.2.1 c h1 h2
    have e0 : cH C c = cH C1 c := eC 0 c h1 h2
    have e1 : cB C c = cB C1 c := eC 1 c h1 h2
    have e2 : cM C c = cM C1 c := eC 2 c h1 h2
    have e3 : cN C c = cN C1 c := eC 3 c h1 h2
    have e4 : cL C c = cL C1 c := eC 4 c h1 h2
    have e5 : cK C c = cK C1 c := eC 5 c h1 h2
    have e6 : cC C c = cC C1 c := eC 6 c h1 h2
    have e7 : cR C c = cR C1 c := eC 7 c h1 h2
    have e8 : cT C c = cT C1 c := eC 8 c h1 h2
    refine ⟨?_, o1.imp id (fun y => by omega), by omega⟩
    unfold CWD
    rw [e0, e1, e2, e3, e4, e5, e6, e7, e8]
    refine ⟨⟨many, d1, d2, PATS_up d3 hb2⟩, d4, ?_, ?_, ?_⟩
    · rcases d5 with d5 | ⟨g, g1, g2, g3, g4, g5⟩
      · exact Or.inl d5
      · have : (a 0 : Int) ≤ A w 42 c := by rcases o1 with o1 | o1 <;> omega
        have q := fun k hk => eT k g hk (by omega) (by omega)
        refine Or.inr ⟨g, g1, by omega, ?_, ?_, ?_⟩
        · exact (q 0 (by decide)).trans g3
        · exact (q 4 (by decide)).trans g4
        · exact Nat.le_trans (Nat.le_of_eq (q 8 (by decide))) g5
    · obtain ⟨g, g1, g2, g3, g4, g5, g6, g7, g8, g9⟩ := d6
      have q := fun k hk => eT k g hk (by omega) (by omega)
      exact ⟨g, g1, by omega, (q 0 (by decide)).trans g3, (q 1 (by decide)).trans g4, (q 2 (by decide)).trans g5, (q 3 (by decide)).trans g6, (q 4 (by decide)).trans g7, (q 7 (by decide)).trans g8, Nat.le_trans (Nat.le_of_eq (q 8 (by decide))) g9⟩
    · rcases d7 with d7 | ⟨d, g1, g2, g3, g4, g5, g6, g7, g8, g9, g10, g11, g12⟩
      · exact Or.inl d7
      · have q := fun k => eC k d (by omega) g3
        exact Or.inr ⟨d, g1, g2, by omega, g4, (q 0).trans g5, (q 1).trans g6, (q 2).trans g7, (q 4).trans g8, (q 5).trans g9, (q 6).trans g10, (q 7).trans g11, Nat.le_trans (Nat.le_of_eq (q 8)) g12⟩
  · obtain ⟨⟨x, h, r, f1, f2, f3, f4, f5, f6⟩, f7⟩ := hf.2.2 u h1 h2
    refine ⟨⟨x, h, r, f1, f2, f3, by omega, f5, ?_⟩, by omega⟩
    obtain ⟨c, c1, c2, c3⟩ := id f6
    rw [c1] at f6 f7 ⊢
    exact CLS_eq f6 (fun k => eC k c (by omega) c2) hb1
def AG (w w2 : MS) (a b : Nat → Nat) : Prop := F w2 14 = F w 14 ∧ (∀ r i, r ∈ [23, 24, 25, 26, 27, 31] → a 0 ≤ i → i < b 0 → A w2 r i = A w r i) ∧ (∀ r i, r ∈ [40, 41, 42, 43, 45] → a 1 ≤ i → i < b 1 → A w2 r i = A w r i) ∧ (∀ r i, r ∈ [33, 35, 36, 37, 38] → i < b 2 → A w2 r i = A w r i) ∧ (∀ r i, r ∈ [53, 54, 55] → a 3 ≤ i → i < b 3 → A w2 r i = A w r i) ∧ ∀ i, i < b 4 → A w2 57 i = A w 57 i
theorem PW_ag {pM pE : Nat → Nat} {PN L q : Nat} (h : PW w pM pE PN SN L q) (e : ∀ r i, r ∈ [33, 35, 36, 37, 38] → i < PN → A w2 r i = A w r i) : PW w2 pM pE PN SN L q := by
  obtain ⟨h1, h2, h3, h4, h5, h6, h7, h8, h9, h10⟩ := h
  have q33 := e 33 q (by decide) (by omega)
  have q35 := e 35 q (by decide) (by omega)
  have q36 := e 36 q (by decide) (by omega)
  have q38 := e 38 q (by decide) (by omega)
  have chn : ∀ s mm x, x ≤ PN → CHN w pE s mm x → CHN w2 pE s mm x := fun s mm x hx ⟨c1, c2, c3⟩ => ⟨c1, c2, fun k hk => by rw [e 37 _ (by decide) (by have := c2 k (by omega); omega)]; exact c3 k hk⟩
  unfold PW
  rw [q33, q35, q36, q38]
  refine ⟨h1, h2, h3, h4, h5, h6, h7, h8, fun z => ?_, fun z => ?_⟩
  · obtain ⟨z1, mm, z2, z3, z4, z5⟩ := h9 z
    refine ⟨z1, mm, z2, z3, chn _ _ _ h2 z4, ?_⟩
    rcases z5 with z5 | ⟨z5, z6, z7⟩
    · exact Or.inl z5
    · exact Or.inr ⟨z5, z6, by rw [e 37 _ (by decide) (by have := z4.2.1 (mm - 1) (by omega); omega)]; exact z7⟩
  · obtain ⟨z1, mm, z2, z3, z4, z5, z6⟩ := h10 z
    exact ⟨z1, mm, z2, z3, z4, chn _ _ _ h2 z5, z6⟩
theorem PAT_ag {f g : Nat → Nat} {PN L m m2 : Nat} {x : Int} (h : PAT w f g PN SN L m m2 x) (e : ∀ r i, r ∈ [33, 35, 36, 37, 38] → i < PN → A w2 r i = A w r i) : PAT w2 f g PN SN L m m2 x := by
  obtain ⟨q, pM, pE, q1, q2, q3, q4, q5, q6, q7⟩ := h
  exact ⟨q, pM, pE, q1, q2, q3, q4, q5, q6, fun k h1 h2 => PW_ag (q7 k h1 h2) e⟩
theorem PATS_ag {f g : Nat → Nat} {PN L m m2 many : Nat} {x : Int} (h : PATS w f g PN SN L m m2 many x) (e : ∀ r i, r ∈ [33, 35, 36, 37, 38] → i < PN → A w2 r i = A w r i) : PATS w2 f g PN SN L m m2 many x := by
  rcases h with h | ⟨q0, q, pM, pE, q1, q2, q3, q4, q5, q6, q7, q8⟩
  · exact Or.inl h
  · exact Or.inr ⟨q0, q, pM, pE, q1, ⟨q2.1, q2.2.1, fun k hk => by rw [e 37 _ (by decide) (by have := q2.2.1 k (by omega); omega)]; exact q2.2.2 k hk⟩, q3, q4, q5, q6, q7, fun k h1 h2 => PW_ag (q8 k h1 h2) e⟩
theorem FRG_st (hf : FRG w T C Z rk m a b SN E S) (ag : AG w w2 a b) (h30 : ∀ n, a 0 ≤ n → n < b 0 → A w2 30 n ≠ 0 → A w 30 n ≠ 0 ∨ tK T n = 0) (hrn : ∀ n, a 0 ≤ n → n < b 0 → RNK w2 T a b S n) : FRG w2 T C Z rk m a b SN E S := by
  obtain ⟨g14, gn, gc, gp, gu, gh⟩ := ag
  have cls : ∀ {many hg hb mm l k cc r c : Nat}, a 1 ≤ c → CLS C w (b 1) many hg hb mm l k cc r ((c : Nat) : Int) → CLS C w2 (b 1) many hg hb mm l k cc r ((c : Nat) : Int) := fun {many hg hb mm l k cc r c} hl hc => by
    obtain ⟨c2, c1, c3, c4⟩ := hc
    obtain rfl : c = c2 := by omega
    exact ⟨c, c1, c3, by rw [gc 41 c (by decide) hl c3]; exact c4⟩
  refine ⟨fun n h1 h2 => ?_, fun c h1 h2 => ?_, fun u h1 h2 => ?_⟩
  · obtain ⟨⟨n1, n2, n3, n4⟩, na, nb, n12, n15, n20, lo, -⟩ := hf.1 n h1 h2
    have q23 := gn 23 n (by decide) h1 h2
    have q24 := gn 24 n (by decide) h1 h2
    have q25 := gn 25 n (by decide) h1 h2
    have q26 := gn 26 n (by decide) h1 h2
    have q27 := gn 27 n (by decide) h1 h2
    have q31 := gn 31 n (by decide) h1 h2
    have q30 : A w 30 n ≠ 0 ∨ tK T n = 0 ∨ A w2 30 n = 0 := by
      by_cases z : A w2 30 n = 0
      · exact Or.inr (Or.inr z)
      · exact (h30 n h1 h2 z).imp id Or.inl
    obtain ⟨l1, l2, l3, l4, l5, l6⟩ := lo
    refine ⟨⟨n1, fun z => ?_, fun z => ?_, by rw [q23, q24]; exact n4⟩, fun g1 g2 => ?_, fun g1 => ?_, fun z => ?_, fun z => ?_, fun z => ?_, ?_, hrn n h1 h2⟩
    · refine (n2 z).imp (fun ⟨c1, c2, c3, c4, c5, c6, c7, x, c8, c9⟩ => ⟨c1, c2, ?_, c4, c5, c6, c7, x, ?_, c9⟩) id
      · rw [gn 23 _ (by decide) c1 c2]; exact c3
      · rw [gn 25 _ (by decide) c1 c2]; exact c8
    · refine (n3 z).imp (fun ⟨c, c1, c2, c3, c4, c5, c6, c7, c8, c9⟩ => ⟨c, c1, c2, c3, c4, c5, c6, c7, c8, fun d hd => c9 d ?_⟩) (fun y => ⟨by rw [q23]; exact y.1, y.2⟩)
      rw [← gc 45 c (by decide) c2 c3]; exact hd
    · obtain ⟨k11, k13, k14, k15, k16, k17, k18, k19, k20, k21, k31, k27, k28, k29, k30, k26⟩ := na (by rw [← q23]; exact g1) g2
      unfold WNa
      rw [q23, q25, q26, q27, q31]
      refine ⟨k11, fun z => ⟨(k13 z).1, (k13 z).2.1, fun y => ?_⟩, fun z => ?_, k15, fun z => ?_, k17, k18, k19, k20, fun z => ?_, fun z => ?_, fun z => ?_, fun z => ?_, k29, k30, fun z => ?_⟩
      · rcases q30 with q | q | q
        · exact (k13 z).2.2 q
        · exact q
        · exact absurd q y
      · obtain ⟨z1, ⟨u, z2, z3, z4⟩, z5⟩ := k14 z
        have := l5 z
        obtain ⟨⟨x, h, r, f1, f2, f3, f4, f5, f6⟩, f7⟩ := hf.2.2 u (by omega) z3
        refine ⟨z1, ⟨u, z2, z3, fun i hi => ?_⟩, z5⟩
        rw [gu 54 u (by decide) (by omega) z3] at hi
        rw [gu 55 u (by decide) (by omega) z3, gh _ (by omega)]
        exact z4 i hi
      · obtain ⟨z1, z2, m2, z3, z4⟩ := k16 z
        exact ⟨z1, z2, m2, PAT_ag z3 gp, z4⟩
      · obtain ⟨z1, z2, z3, r, z4, z5⟩ := k21 z
        obtain ⟨c, c1, c2, c3⟩ := id z5
        have := l4 (Or.inl z) (by omega)
        rw [c1] at z5 ⊢
        exact ⟨z1, z2, z3, r, z4, cls (by omega) z5⟩
      · obtain ⟨z1, z3, r, z4, z5⟩ := k31 z
        obtain ⟨c, c1, c2, c3⟩ := id z5
        have := l4 (Or.inr (Or.inl z)) (by omega)
        rw [c1] at z5 ⊢
        exact ⟨z1, z3, r, z4, cls (by omega) z5⟩
      · obtain ⟨z1, z2, z3, z4⟩ := k27 z
        refine ⟨z1, z2, ?_, ?_⟩
        · rcases z3 with z3 | ⟨r, z5, z6⟩
          · exact Or.inl z3
          · obtain ⟨c, c1, c2, c3⟩ := id z6
            have := l4 (Or.inr (Or.inr z)) (by omega)
            rw [c1] at z6 ⊢
            exact Or.inr ⟨r, z5, cls (by omega) z6⟩
        · rcases z4 with z4 | ⟨f, z5, z6, x, z7, z8, z9⟩
          · exact Or.inl z4
          · have := l3 z (by omega)
            exact Or.inr ⟨f, z5, z6, x, by rw [gn 26 f (by decide) (by omega) (by omega)]; exact z7, z8, z9⟩
      · obtain ⟨z1, z2, c, z3, z4, z5, x, z6, z7, z8, z9, z10⟩ := k28 z
        have := l1 (Or.inr (Or.inr (Or.inr z)))
        have := l6 z
        exact ⟨z1, z2, c, z3, z4, z5, x, z6, z7, by rw [gn 23 x (by decide) (by omega) (by omega)]; exact z8, by rw [gn 31 x (by decide) (by omega) (by omega)]; exact z9, z10⟩
      · obtain ⟨z1, z2⟩ := k26 z
        refine ⟨z1, ?_⟩
        rcases z2 with z2 | ⟨z2, r, z3, z4, x, z5, z6, z7⟩
        · exact Or.inl z2
        · have := (l2 z).2 z2 g2
          exact Or.inr ⟨z2, r, z3, z4, x, by rw [gn 26 r (by decide) (by omega) (by omega)]; exact z5, z6, z7⟩
    · have := nb (by rw [← q23]; exact g1)
      unfold WNb at this ⊢
      rw [q23, q25, q26, g14]
      rw [q23] at g1
      obtain ⟨k1, k2, k3, k4, k5, k6, k7, k9, k12, k22, k23⟩ := this
      exact ⟨k1, k2, k3, k4, k5, k6, k7, k9, fun z => absurd z g1, k22, k23⟩
    · rw [q23] at z
      obtain ⟨z1, z2, z3⟩ := n12 z
      rw [q26, q27]
      refine ⟨z1, z2, fun y => ?_⟩
      rcases q30 with q | q | q
      · exact z3 q
      · exact q
      · exact absurd q y
    · rw [q23] at z; exact n15 z
    · rw [q23] at z; exact n20 z
    · unfold LOW
      rw [q23, q25, q26, q31]
      refine ⟨l1, fun z => ⟨(l2 z).1, fun y y2 => ?_⟩, fun z y => ?_, l4, l5, l6⟩
      · have := (l2 z).2 y y2
        rw [gn 26 _ (by decide) (by omega) (by omega)]
        exact this
      · have := l3 z y
        rw [gn 26 _ (by decide) (by omega) (by omega)]
        exact this
  · obtain ⟨⟨⟨many, d1, d2, d3⟩, d4, d5, d6, d7⟩, o1, o2⟩ := hf.2.1 c h1 h2
    have q40 := gc 40 c (by decide) h1 h2
    have q41 := gc 41 c (by decide) h1 h2
    have q42 := gc 42 c (by decide) h1 h2
    have q43 := gc 43 c (by decide) h1 h2
    have q45 := gc 45 c (by decide) h1 h2
    unfold CWD CLO
    rw [q40, q41, q42, q43, q45]
    refine ⟨⟨⟨many, d1, d2, PATS_ag d3 gp⟩, d4, d5, d6, ?_⟩, o1, o2⟩
    rcases d7 with d7 | ⟨d, g1, g2, g3, g4, g5⟩
    · exact Or.inl d7
    · exact Or.inr ⟨d, g1, g2, g3, by rw [gc 41 d (by decide) (by omega) g3]; exact g4, g5⟩
  · obtain ⟨⟨x, h, r, f1, f2, f3, f4, f5, f6⟩, f7⟩ := hf.2.2 u h1 h2
    unfold FNW
    rw [gu 53 u (by decide) h1 h2, gu 54 u (by decide) h1 h2, gu 55 u (by decide) h1 h2]
    refine ⟨⟨x, h, r, f1, f2, f3, f4, f5, ?_⟩, f7⟩
    obtain ⟨c, c1, c2, c3⟩ := id f6
    rw [c1] at f6 f7 ⊢
    exact cls (by omega) f6
end
