set_option maxRecDepth 100000
section
variable {u w : MS} {a b n k d lo hi q r l : Nat} {E E2 G G2 Pa Pa2 : Nat → Nat → Nat → Nat → Nat → Nat → Nat → Prop}
theorem LF_k (h : LFc u n lo) (kn : KNc u w a b l) (hn : a < n ∧ n ≤ b) : LFc w n lo := by
  obtain ⟨g1, g2, g3, g4, g5⟩ := kn.g hn
  have e6 : A w 6 lo = A u 6 lo := by show (w.2.2.1 6 lo).toInt = _; rw [kn.1.1]; rfl
  have e7 : A w 7 lo = A u 7 lo := by show (w.2.2.1 7 lo).toInt = _; rw [kn.1.2]; rfl
  unfold LFc
  rw [g1, e6, g2, g3, e7]; exact h
theorem TK_k {lo hi : Nat} (h : TKc u n lo hi) (kn : KNc u w a b l) (hn : a < n ∧ n ≤ b) : TKc w n lo hi := by
  obtain ⟨g1, g2, g3, g4, g5⟩ := kn.g hn
  unfold TKc
  rw [g2]; exact h
theorem KNc.in0 (kn : KNc u w a b n) {a2 c : Nat} (h1 : a ≤ a2) (h2 : c < n) (h3 : n ≤ b) : KNc u w a2 c 0 := KNc.sub kn h1 (by omega) (Or.inr (Or.inl h2))
theorem TU_k (hs : StE u w E E2) (hb : BdE E) (h : TUc u E n lo hi a q r) (kn : KNc u w a b n) (hn : a < n ∧ n ≤ b) : TUc w E2 n lo hi a q r := by
  obtain ⟨g1, g2, g3, g4, g5⟩ := kn.g hn
  obtain ⟨k, m, c, h1, h2, h3, h4, h5⟩ := h
  exact ⟨k, m, c, by rw [g3]; exact h1, by rw [g4]; exact h2, h3, OR_k hs hb h4 (kn.in0 (Nat.le_refl _) h5 hn.2), h5⟩
theorem TL_k (hs : StE u w E E2) (hb : BdE E) (h : TLc u E n lo hi a q r) (kn : KNc u w a b n) (hn : a < n ∧ n ≤ b) : TLc w E2 n lo hi a q r := by
  obtain ⟨g1, g2, g3, g4, g5⟩ := kn.g hn
  obtain ⟨k, m, mid, c, s, h1, h2, h3, h4, h5⟩ := h
  have hc : c < n := by
    rcases h5 with ⟨-, -, -, h⟩ | ⟨-, x, c2, -, h6, h7⟩
    · exact h
    · have := (hb _ _ _ _ _ _ _ h6).1; omega
  have ho := OR_hd hb h4
  refine ⟨k, m, mid, c, s, by rw [g3]; exact h1, by rw [g4]; exact h2, h3, OR_k hs hb h4 (kn.in0 (Nat.le_refl _) hc hn.2), ?_⟩
  rcases h5 with ⟨h5, h6⟩ | ⟨h5, x, c2, h6, h7, h8⟩
  · exact Or.inl ⟨by rw [g5]; exact h5, h6⟩
  · exact Or.inr ⟨h5, x, c2, by rw [g5]; exact h6, hs _ _ _ _ _ _ _ h7 (KNc.sub kn (by omega) (by omega) (Or.inr (Or.inl (by omega)))), h8⟩
theorem PA_bd (f : Nat) : BdE (PAc u f) := fun n lo hi a b q r h => by
  cases f with
  | zero => exact h.elim
  | succ f => exact h.1
theorem PA_k : ∀ {f f2 : Nat}, f ≤ f2 → StE u w (PAc u f) (PAc w f2)
  | 0, _, _, _, _, _, _, _, _, _, h, _ => h.elim
  | f + 1, 0, h, _, _, _, _, _, _, _, _, _ => by omega
  | f + 1, f2 + 1, hf, n, lo, hi, a2, b2, q, r, h, kn => by
    obtain ⟨h1, h2, h3, h4⟩ := h
    have hn := h1.1
    obtain ⟨g1, g2, g3, g4, g5⟩ := kn.g hn
    have e6 : A w 6 (lo + 1) = A u 6 (lo + 1) := by show (w.2.2.1 6 (lo + 1)).toInt = _; rw [kn.1.1]; rfl
    have hs : StE u w (PAc u f) (PAc w f2) := PA_k (by omega)
    refine ⟨h1, TK_k h2 kn hn, h3, ?_⟩
    rw [g1]
    rcases h4 with ⟨h4, h5⟩ | ⟨h4, m, h5, h6, h7, h8⟩ | ⟨h4, m, c, h5, h6, h7⟩ | ⟨h4, h5⟩ | ⟨h4, h5⟩
    · exact Or.inl ⟨LF_k h4 kn hn, h5⟩
    · exact Or.inr (Or.inl ⟨h4, m, by rw [g3]; exact h5, h6, LF_k h7 kn ⟨h6.1, h6.2.1⟩, by rw [e6]; exact h8⟩)
    · exact Or.inr (Or.inr (Or.inl ⟨h4, m, c, by rw [g3]; exact h5, hs _ _ _ _ _ _ _ h6 (KNc.sub kn (Nat.le_refl _) (by omega) (Or.inr (Or.inl (by omega)))), h7⟩))
    · exact Or.inr (Or.inr (Or.inr (Or.inl ⟨h4, TU_k hs (PA_bd f) h5 kn hn⟩)))
    · exact Or.inr (Or.inr (Or.inr (Or.inr ⟨h4, TL_k hs (PA_bd f) h5 kn hn⟩)))
theorem PRT_k {pl ph r0 : Nat} (hp : StE u w Pa Pa2) (hs : StE u w E E2) (hg : StE u w G G2) (bp : BdE Pa) (be : BdE E) (bg : BdE G) (h : PRTc u Pa E G k n pl ph r0 hi a b q r) (kn : KNc u w a b n) : PRTc w Pa2 E2 G2 k n pl ph r0 hi a b q r := by
  obtain ⟨hn, h1, h2, m, c, g, m2, c1, s, kb, mb, c2, ⟨h3, h4⟩, ⟨h5, h6⟩, ⟨h7, h8⟩, h9⟩ := h
  obtain ⟨g1, g2, g3, g4, g5⟩ := kn.g hn
  have o1 := OR_hd bp h4
  have o3 := (RW_hd be h8).1.1
  have o2 : c ≤ c1 := by
    rcases h6 with h6 | ⟨-, kg, h6⟩
    · omega
    · have := (RW_hd bg h6).1.1; omega
  refine ⟨hn, by rw [g1]; exact h1, TK_k h2 kn hn, m, c, g, m2, c1, s, kb, mb, c2, ⟨by rw [g3]; exact h3, OR_k hp bp h4 (kn.in0 (Nat.le_refl _) (by omega) hn.2)⟩, ⟨by rw [g4]; exact h5, ?_⟩, ⟨by rw [g5]; exact h7, RW_k hs be h8 (kn.in0 (by omega) h9 hn.2)⟩, h9⟩
  rcases h6 with h6 | ⟨h6, kg, h7⟩
  · exact Or.inl h6
  · exact Or.inr ⟨h6, kg, RW_k hg bg h7 (kn.in0 (by omega) (by omega) hn.2)⟩
theorem CSP_bd : BdE (CSPc u Pa E G) := fun _ _ _ _ _ _ _ h => h.1
theorem CSP_k (hp : StE u w Pa Pa2) (hs : StE u w E E2) (hg : StE u w G G2) (bp : BdE Pa) (be : BdE E) (bg : BdE G) : StE u w (CSPc u Pa E G) (CSPc w Pa2 E2 G2) := fun n lo hi a2 b2 q r h kn => by
  obtain ⟨h1, m1, h2⟩ := h
  exact ⟨h1, m1, PRT_k hp hs hg bp be bg h2 kn⟩
theorem CHP_bd : BdE (CHPc u E G) := fun _ _ _ _ _ _ _ h => h.1
theorem CHP_k (hs : StE u w E E2) (hg : StE u w G G2) (be : BdE E) (bg : BdE G) : StE u w (CHPc u E G) (CHPc w E2 G2) := fun n lo hi a2 b2 q r h kn => by
  obtain ⟨h0, h1, h2, h3, g, kg, m2, c1, s, kb, mb, c2, ⟨h4, h5, h6⟩, ⟨h7, h8⟩, h9⟩ := h
  have hn := h0.1
  obtain ⟨g1, g2, g3, g4, g5⟩ := kn.g hn
  have o3 := (RW_hd be h8).1.1
  have o2 := (RW_hd bg h6).1.1
  exact ⟨h0, by rw [g1]; exact h1, TK_k h2 kn hn, by rw [g3]; exact h3, g, kg, m2, c1, s, kb, mb, c2, ⟨by rw [g4]; exact h4, h5, RW_k hg bg h6 (kn.in0 (Nat.le_refl _) (by omega) hn.2)⟩, ⟨by rw [g5]; exact h7, RW_k hs be h8 (kn.in0 (by omega) h9 hn.2)⟩, h9⟩
theorem AG_bd : BdE (AGc u E) := fun _ _ _ _ _ _ _ h => h.1
theorem AG_k (hs : StE u w E E2) (be : BdE E) : StE u w (AGc u E) (AGc w E2) := fun n lo hi a2 b2 q r h kn => by
  obtain ⟨h0, h1, k, m, c, h2, h3, h4, h5, h6⟩ := h
  have hn := h0.1
  obtain ⟨g1, g2, g3, g4, g5⟩ := kn.g hn
  exact ⟨h0, by rw [g1]; exact h1, k, m, c, by rw [g3]; exact h2, by rw [g4]; exact h3, h4, OR_k hs be h5 (kn.in0 (Nat.le_refl _) (by omega) hn.2), h6⟩
theorem STP_hd (hb : BdE E) {x x2 c c2 s s2 : Nat} {aa oo aa2 oo2 : Option Nat} (h : STPc u E l x x2 c c2 q r s aa oo s2 aa2 oo2) : (c < l ∧ l ≤ c2) ∧ x ≤ x2 ∧ q ≤ r ∧ 5 * r + x ≤ 5 * q + x2 := by
  rcases h with ⟨⟨m, h1, h2⟩, h3, -⟩ | ⟨⟨h1, h2, h3, h4⟩, -, h5⟩
  · have := hb _ _ _ _ _ _ _ h1
    unfold HDc at this
    omega
  · omega
theorem STP_k (hs : StE u w E E2) (hb : BdE E) {x x2 c c2 s s2 : Nat} {aa oo aa2 oo2 : Option Nat} (h : STPc u E l x x2 c c2 q r s aa oo s2 aa2 oo2) (kn : KNc u w c c2 l) : STPc w E2 l x x2 c c2 q r s aa oo s2 aa2 oo2 := by
  rcases h with ⟨⟨m, h1, h2⟩, h3⟩ | ⟨h1, h2, h3⟩
  · exact Or.inl ⟨⟨m, hs _ _ _ _ _ _ _ h1 kn, h2⟩, h3⟩
  · have hn : c < l ∧ l ≤ c2 := by omega
    obtain ⟨g1, g2, g3, g4, g5⟩ := kn.g hn
    refine Or.inr ⟨h1, TK_k h2 kn hn, ?_⟩
    rw [g1, g3]; exact h3
theorem SF_le (hb : BdE E) : ∀ {j n x c q s : Nat} {aa oo : Option Nat}, SFc u E hi b r j n x c q s aa oo → c ≤ b
  | 0, _, _, _, _, _, _, _, h => by have := h.2.2.1; omega
  | j + 1, n, x, c, q, s, aa, oo, h => by
    obtain ⟨h0, n2, x2, c2, q2, s2, aa2, oo2, h1, h2, h3⟩ := h
    have g := STP_hd hb h1
    have := SF_le hb h3
    omega
theorem SF_k (hs : StE u w E E2) (hb : BdE E) : ∀ {j n x c q s : Nat} {aa oo : Option Nat}, SFc u E hi b r j n x c q s aa oo → KNc u w c b 0 → SFc w E2 hi b r j n x c q s aa oo
  | 0, _, _, _, _, _, _, _, h, _ => h
  | j + 1, n, x, c, q, s, aa, oo, h, kn => by
    obtain ⟨h0, n2, x2, c2, q2, s2, aa2, oo2, h1, h2, h3⟩ := h
    have g := STP_hd hb h1
    have g2 : c2 ≤ b := SF_le hb h3
    exact ⟨h0, n2, x2, c2, q2, s2, aa2, oo2, STP_k hs hb h1 (KNc.sub kn (Nat.le_refl _) g2 (Or.inl (by omega))), by rw [kn.nx (by omega) (by omega)]; exact h2, SF_k hs hb h3 (KNc.sub kn (by omega) (Nat.le_refl _) (Or.inl (by omega)))⟩
theorem SP_hd (hb : BdE E) : ∀ {j l x c r s : Nat} {aa oo : Option Nat}, SPc u E n lo a q j l x c r s aa oo → (a < l ∧ l ≤ c) ∧ lo ≤ x ∧ q ≤ r ∧ 5 * r + lo ≤ 5 * q + x
  | 0, _, _, _, _, _, _, _, h => h.elim
  | j + 1, l, x, c, r, s, aa, oo, h => by
    rcases h with ⟨h1, h2, h0, h3⟩ | ⟨h1, h0, l2, x2, c2, r2, s2, aa2, oo2, h2, h3, h4⟩
    · exact STP_hd hb h3
    · have g := STP_hd hb h4
      have g2 := SP_hd hb h2
      omega
theorem SP_k (hs : StE u w E E2) (hb : BdE E) : ∀ {j l x c r s : Nat} {aa oo : Option Nat}, SPc u E n lo a q j l x c r s aa oo → KNc u w a c l → SPc w E2 n lo a q j l x c r s aa oo
  | 0, _, _, _, _, _, _, _, h, _ => h
  | j + 1, l, x, c, r, s, aa, oo, h, kn => by
    rcases h with ⟨h1, h2, h0, h3⟩ | ⟨h1, h0, l2, x2, c2, r2, s2, aa2, oo2, h2, h3, h4⟩
    · exact Or.inl ⟨h1, h2, h0, STP_k hs hb h3 kn⟩
    · have g := STP_hd hb h4
      have g2 := SP_hd hb h2
      exact Or.inr ⟨h1, h0, l2, x2, c2, r2, s2, aa2, oo2, SP_k hs hb h2 (KNc.sub kn (Nat.le_refl _) (by omega) (Or.inr (Or.inl (by omega)))), by rw [kn.nx (by omega) (by omega)]; exact h3, STP_k hs hb h4 (KNc.sub kn (by omega) (Nat.le_refl _) (Or.inr (Or.inr rfl)))⟩
theorem SF_app : ∀ {j l x c r s i n2 hi b r2 : Nat} {aa oo : Option Nat}, SPc u E n lo a q j l x c r s aa oo → A u 21 l = ((n2 : Nat) : Int) → SFc u E hi b r2 i n2 x c r s aa oo → SFc u E hi b r2 (j + i) n lo a q 0 none none
  | 0, _, _, _, _, _, _, _, _, _, _, _, _, h, _, _ => h.elim
  | j + 1, l, x, c, r, s, i, n2, hi, b, r2, aa, oo, h, hl, h3 => by
    rcases h with ⟨rfl, rfl, h0, h4⟩ | ⟨h1, h0, l2, x2, c2, r3, s2, aa2, oo2, h2, h5, h4⟩
    · rw [show 0 + 1 + i = i + 1 by omega]
      exact ⟨h0, n2, x, c, r, s, aa, oo, h4, hl, h3⟩
    · rw [show j + 1 + i = j + (i + 1) by omega]
      exact SF_app h2 h5 ⟨h0, n2, x, c, r, s, aa, oo, h4, hl, h3⟩
end
