/-! the tree of a text: what is kept -/
set_option maxRecDepth 100000
section
variable {u w : MS} {a b n k d z lo hi q r l : Nat} {E E2 G G2 Pa Pa2 : Nat → Nat → Nat → Nat → Nat → Nat → Nat → Prop}
theorem TU_kK (hs : StE u w E E2) (hb : BdE E) (h : TUcK u E n lo hi a q r) (kn : KNc u w a b n) (hn : a < n ∧ n ≤ b) : TUcK w E2 n lo hi a q r := by
  obtain ⟨g1, g2, g3, g4, g5⟩ := kn.g hn
  obtain ⟨k, m, c, h1, h2, h3, h4, h5⟩ := h
  exact ⟨k, m, c, by rw [g3]; exact h1, by rw [g4]; exact h2, ⟨h3.1, by rw [kn.a6]; exact h3.2.1, by rw [kn.a6]; exact h3.2.2⟩, OR_kK hs hb h4 (kn.in0 (Nat.le_refl _) h5 hn.2), h5⟩
theorem TL_kK (hs : StE u w E E2) (hb : BdE E) (h : TLcK u E n lo hi a q r) (kn : KNc u w a b n) (hn : a < n ∧ n ≤ b) : TLcK w E2 n lo hi a q r := by
  obtain ⟨g1, g2, g3, g4, g5⟩ := kn.g hn
  obtain ⟨k, m, mid, c, s, h1, h2, h3, h4, h5⟩ := h
  have hc : c < n := by
    rcases h5 with ⟨-, -, -, h⟩ | ⟨-, x, c2, -, h6, h7⟩
    · exact h
    · have := (hb _ _ _ _ _ _ _ h6).1; omega
  have ho := OR_hdK hb h4
  refine ⟨k, m, mid, c, s, by rw [g3]; exact h1, by rw [g4]; exact h2, ⟨h3.1, by rw [kn.a6]; exact h3.2.1, by rw [kn.a6]; exact h3.2.2⟩, OR_kK hs hb h4 (kn.in0 (Nat.le_refl _) hc hn.2), ?_⟩
  rcases h5 with ⟨h5, h6⟩ | ⟨h5, x, c2, h6, h7, h8⟩
  · exact Or.inl ⟨by rw [g5]; exact h5, h6⟩
  · exact Or.inr ⟨⟨h5.1, by rw [kn.a6]; exact h5.2⟩, x, c2, by rw [g5]; exact h6, hs _ _ _ _ _ _ _ h7 (KNc.sub kn (by omega) (by omega) (Or.inr (Or.inl (by omega)))), h8⟩
theorem PA_bdK (f : Nat) : BdE (PAcK u f) := fun n lo hi a b q r h => by
  cases f with
  | zero => exact h.elim
  | succ f => exact h.1
theorem PA_kK : ∀ {f f2 : Nat}, f ≤ f2 → StE u w (PAcK u f) (PAcK w f2)
  | 0, _, _, _, _, _, _, _, _, _, h, _ => h.elim
  | f + 1, 0, h, _, _, _, _, _, _, _, _, _ => by omega
  | f + 1, f2 + 1, hf, n, lo, hi, a2, b2, q, r, h, kn => by
    obtain ⟨h1, h2, h3, h4⟩ := h
    have hn := h1.1
    obtain ⟨g1, g2, g3, g4, g5⟩ := kn.g hn
    have e6 : A w 6 (lo + 1) = A u 6 (lo + 1) := by show (w.2.2.1 6 (lo + 1)).toInt = _; rw [kn.1.1]; rfl
    have hs : StE u w (PAcK u f) (PAcK w f2) := PA_kK (by omega)
    refine ⟨h1, TK_k h2 kn hn, h3, ?_⟩
    rw [g1]
    rcases h4 with ⟨h4, h5⟩ | ⟨h4, m, h5, h6, h7, h8, h9, h10⟩ | ⟨h4, m, c, h5, h6, h7⟩ | ⟨h4, h5⟩ | ⟨h4, h5⟩
    · exact Or.inl ⟨LF_k h4 kn hn, h5⟩
    · exact Or.inr (Or.inl ⟨h4, m, by rw [g3]; exact h5, h6, LF_k h7 kn ⟨h6.1, h6.2.1⟩, by rw [e6]; exact h8, h9, by rw [kn.a6]; exact h10⟩)
    · exact Or.inr (Or.inr (Or.inl ⟨h4, m, c, by rw [g3]; exact h5, hs _ _ _ _ _ _ _ h6 (KNc.sub kn (Nat.le_refl _) (by omega) (Or.inr (Or.inl (by omega)))), h7.1, by rw [kn.a6]; exact h7.2.1, by rw [kn.a6]; exact h7.2.2⟩))
    · exact Or.inr (Or.inr (Or.inr (Or.inl ⟨h4, TU_kK hs (PA_bdK f) h5 kn hn⟩)))
    · exact Or.inr (Or.inr (Or.inr (Or.inr ⟨h4, TL_kK hs (PA_bdK f) h5 kn hn⟩)))
theorem PRT_kK {pl ph r0 : Nat} (hp : StE u w Pa Pa2) (hs : StE u w E E2) (hg : StE u w G G2) (bp : BdE Pa) (be : BdE E) (bg : BdE G) (h : PRTcK u Pa E G k n pl ph r0 hi a b q r) (kn : KNc u w a b n) : PRTcK w Pa2 E2 G2 k n pl ph r0 hi a b q r := by
  obtain ⟨hn, h1, h2, m, c, g, m2, c1, s, kb, mb, c2, ⟨h3, h4⟩, ⟨h5, h6⟩, ⟨h7, h8⟩, h9⟩ := h
  obtain ⟨g1, g2, g3, g4, g5⟩ := kn.g hn
  have o1 := OR_hdK bp h4
  have o3 := (RW_hdK be h8).1.1
  have o2 : c ≤ c1 := by
    rcases h6 with h6 | ⟨-, kg, h6⟩
    · omega
    · have := (RW_hdK bg h6).1.1; omega
  refine ⟨hn, by rw [g1]; exact h1, TK_k h2 kn hn, m, c, g, m2, c1, s, kb, mb, c2, ⟨by rw [g3]; exact h3, OR_kK hp bp h4 (kn.in0 (Nat.le_refl _) (by omega) hn.2)⟩, ⟨by rw [g4]; exact h5, ?_⟩, ⟨by rw [g5]; exact h7, RW_kK hs be h8 (kn.in0 (by omega) h9.1 hn.2)⟩, h9.1, by rw [kn.a6]; exact h9.2⟩
  rcases h6 with h6 | ⟨h6, kg, h7⟩
  · exact Or.inl h6
  · exact Or.inr ⟨⟨h6.1, by rw [kn.a6]; exact h6.2⟩, kg, RW_kK hg bg h7 (kn.in0 (by omega) (by omega) hn.2)⟩
theorem CSP_bdK : BdE (CSPcK u Pa E G) := fun _ _ _ _ _ _ _ h => h.1
theorem CSP_kK (hp : StE u w Pa Pa2) (hs : StE u w E E2) (hg : StE u w G G2) (bp : BdE Pa) (be : BdE E) (bg : BdE G) : StE u w (CSPcK u Pa E G) (CSPcK w Pa2 E2 G2) := fun n lo hi a2 b2 q r h kn => by
  obtain ⟨h1, m1, h2⟩ := h
  exact ⟨h1, m1, PRT_kK hp hs hg bp be bg h2 kn⟩
theorem CHP_bdK : BdE (CHPcK u E G) := fun _ _ _ _ _ _ _ h => h.1
theorem CHP_kK (hs : StE u w E E2) (hg : StE u w G G2) (be : BdE E) (bg : BdE G) : StE u w (CHPcK u E G) (CHPcK w E2 G2) := fun n lo hi a2 b2 q r h kn => by
  obtain ⟨h0, h1, h2, h3, g, kg, m2, c1, s, kb, mb, c2, ⟨h4, h5, h6⟩, ⟨h7, h8⟩, h9⟩ := h
  have hn := h0.1
  obtain ⟨g1, g2, g3, g4, g5⟩ := kn.g hn
  have o3 := (RW_hdK be h8).1.1
  have o2 := (RW_hdK bg h6).1.1
  exact ⟨h0, by rw [g1]; exact h1, TK_k h2 kn hn, by rw [g3]; exact h3, g, kg, m2, c1, s, kb, mb, c2, ⟨by rw [g4]; exact h4, h5, RW_kK hg bg h6 (kn.in0 (Nat.le_refl _) (by omega) hn.2)⟩, ⟨by rw [g5]; exact h7, RW_kK hs be h8 (kn.in0 (by omega) h9.1 hn.2)⟩, h9.1, by rw [kn.a6]; exact h9.2⟩
theorem AG_bdK : BdE (AGcK u E) := fun _ _ _ _ _ _ _ h => h.1
theorem AG_kK (hs : StE u w E E2) (be : BdE E) : StE u w (AGcK u E) (AGcK w E2) := fun n lo hi a2 b2 q r h kn => by
  obtain ⟨h0, h1, k, m, c, h2, h3, h4, h5, h6⟩ := h
  have hn := h0.1
  obtain ⟨g1, g2, g3, g4, g5⟩ := kn.g hn
  exact ⟨h0, by rw [g1]; exact h1, k, m, c, by rw [g3]; exact h2, by rw [g4]; exact h3, ⟨h4.1, by rw [kn.a6]; exact h4.2.1, by rw [kn.a6]; exact h4.2.2⟩, OR_kK hs be h5 (kn.in0 (Nat.le_refl _) (by omega) hn.2), h6⟩
/-- units and signs -/
theorem STP_hdK (hb : BdE E) {x x2 c c2 : Nat} {S S2 : List Nat} {g g2 : Bool} (h : STPcK u E l x x2 c c2 q r S g S2 g2) : (c < l ∧ l ≤ c2) ∧ x ≤ x2 ∧ q ≤ r ∧ 5 * r + x ≤ 5 * q + x2 := by
  rcases h with ⟨⟨m, h1, h2⟩, h3, -⟩ | ⟨⟨h1, h2, h3, h4⟩, -, h5⟩
  · have := hb _ _ _ _ _ _ _ h1
    unfold HDc at this
    omega
  · omega
theorem CLO_k {y : Nat} {S : List Nat} (h : CLOk u y S) (e : ∀ t, A w 6 t = A u 6 t) : CLOk w y S := fun t S2 hS => by rw [e, e]; exact h t S2 hS
theorem POP_k {y t : Nat} (h : POPk u y t) (e : ∀ t, A w 6 t = A u 6 t) : POPk w y t := by
  unfold POPk
  rw [e, e]
  exact h
theorem STP_kK (hs : StE u w E E2) (hb : BdE E) {x x2 c c2 : Nat} {S S2 : List Nat} {g g2 : Bool} (h : STPcK u E l x x2 c c2 q r S g S2 g2) (kn : KNc u w c c2 l) : STPcK w E2 l x x2 c c2 q r S g S2 g2 := by
  have e6 : ∀ t, A w 6 t = A u 6 t := fun t => kn.a6
  rcases h with ⟨⟨m, h1, h2⟩, h3, h4⟩ | ⟨h1, h2, h3⟩
  · refine Or.inl ⟨⟨m, hs _ _ _ _ _ _ _ h1 kn, h2⟩, h3, ?_⟩
    rcases h4 with h4 | ⟨h4, h5, h6, h7⟩
    · exact Or.inl h4
    · exact Or.inr ⟨h4, h5, by rw [e6]; exact h6, CLO_k h7 e6⟩
  · have hn : c < l ∧ l ≤ c2 := by omega
    obtain ⟨g1, g2, g3, g4, g5⟩ := kn.g hn
    refine Or.inr ⟨h1, h2, ?_⟩
    rw [g1, g2, g3, e6]
    rcases h3 with ⟨h3, h4, h5, h6, h7, h8⟩ | ⟨h3, t, h4, h5, h6, h7, h8⟩
    · exact Or.inl ⟨h3, h4, h5, h6, CLO_k h7 e6, h8⟩
    · exact Or.inr ⟨h3, t, h4, h5, by rw [e6]; exact h6, POP_k h7 e6, h8⟩
theorem SF_leK (hb : BdE E) : ∀ {j n x c q : Nat} {S : List Nat} {g : Bool}, SFcK u E hi b r j n x c q S g → c ≤ b
  | 0, _, _, _, _, _, _, h => by have := h.2.2.1; omega
  | j + 1, n, x, c, q, S, g, h => by
    obtain ⟨h0, n2, x2, c2, q2, S2, g2, h1, h2, h3⟩ := h
    have g := STP_hdK hb h1
    have := SF_leK hb h3
    omega
theorem SF_kK (hs : StE u w E E2) (hb : BdE E) : ∀ {j n x c q : Nat} {S : List Nat} {g : Bool}, SFcK u E hi b r j n x c q S g → KNc u w c b 0 → SFcK w E2 hi b r j n x c q S g
  | 0, _, _, _, _, _, _, h, _ => h
  | j + 1, n, x, c, q, S, g, h, kn => by
    obtain ⟨h0, n2, x2, c2, q2, S2, g2, h1, h2, h3⟩ := h
    have g := STP_hdK hb h1
    have g2 : c2 ≤ b := SF_leK hb h3
    exact ⟨h0, n2, x2, c2, q2, S2, _, STP_kK hs hb h1 (KNc.sub kn (Nat.le_refl _) g2 (Or.inl (by omega))), by rw [kn.nx (by omega) (by omega)]; exact h2, SF_kK hs hb h3 (KNc.sub kn (by omega) (Nat.le_refl _) (Or.inl (by omega)))⟩
theorem SP_hdK (hb : BdE E) : ∀ {j l x c r : Nat} {S : List Nat} {g : Bool}, SPcK u E n lo a q j l x c r S g → (a < l ∧ l ≤ c) ∧ lo ≤ x ∧ q ≤ r ∧ 5 * r + lo ≤ 5 * q + x
  | 0, _, _, _, _, _, _, h => h.elim
  | j + 1, l, x, c, r, S, g, h => by
    rcases h with ⟨h1, h2, h0, h3⟩ | ⟨h1, h0, l2, x2, c2, r2, S2, g2, h2, h3, h4⟩
    · exact STP_hdK hb h3
    · have g := STP_hdK hb h4
      have g2 := SP_hdK hb h2
      omega
theorem SP_kK (hs : StE u w E E2) (hb : BdE E) : ∀ {j l x c r : Nat} {S : List Nat} {g : Bool}, SPcK u E n lo a q j l x c r S g → KNc u w a c l → SPcK w E2 n lo a q j l x c r S g
  | 0, _, _, _, _, _, _, h, _ => h
  | j + 1, l, x, c, r, S, g, h, kn => by
    rcases h with ⟨h1, h2, h0, h3⟩ | ⟨h1, h0, l2, x2, c2, r2, S2, g2, h2, h3, h4⟩
    · exact Or.inl ⟨h1, h2, h0, STP_kK hs hb h3 kn⟩
    · have g3 := STP_hdK hb h4
      have g4 := SP_hdK hb h2
      exact Or.inr ⟨h1, h0, l2, x2, c2, r2, S2, g2, SP_kK hs hb h2 (KNc.sub kn (Nat.le_refl _) (by omega) (Or.inr (Or.inl (by omega)))), by rw [kn.nx (by omega) (by omega)]; exact h3, STP_kK hs hb h4 (KNc.sub kn (by omega) (Nat.le_refl _) (Or.inr (Or.inr rfl)))⟩
theorem SF_appK : ∀ {j l x c r i n2 hi b r2 : Nat} {S : List Nat} {g : Bool}, SPcK u E n lo a q j l x c r S g → A u 21 l = ((n2 : Nat) : Int) → SFcK u E hi b r2 i n2 x c r S g → SFcK u E hi b r2 (j + i) n lo a q [] false
  | 0, _, _, _, _, _, _, _, _, _, _, _, h, _, _ => h.elim
  | j + 1, l, x, c, r, i, n2, hi, b, r2, S, g, h, hl, h3 => by
    rcases h with ⟨rfl, rfl, h0, h4⟩ | ⟨h1, h0, l2, x2, c2, r3, S2, g2, h2, h5, h4⟩
    · rw [show 0 + 1 + i = i + 1 by omega]
      exact ⟨h0, n2, x, c, r, S, g, h4, hl, h3⟩
    · rw [show j + 1 + i = j + (i + 1) by omega]
      exact SF_appK h2 h5 ⟨h0, n2, x, c, r, S, g, h4, hl, h3⟩
end
