/-! expressions: stretches: their beginning, a step on; what is claimed of E's -/
set_option maxRecDepth 100000
/-- what may stand behind an E -/
def NEC (k : Nat) : Prop := rkK k = 0 ∧ k ≠ 20 ∧ k ≠ 30 ∧ k ≠ 36
def lsI (lst : Bool) : Int32 := if lst then 1 else 0
/-- all E's, as deep as f -/
def HXE (N : Nat) (m0 w0 : MS) (K : Nat → Nat) (T : Nat) (nm Nk : Nat → Nat) (fof cvr : Int → Int → Int) (f : Nat) : Prop := ∀ (D d o n lo hi xa xb q r : Nat) (m w : MS) (a cm : Nat) (Q : Nat → Nat) (sc : SCT) (g lst : Bool), XPcK m0 f o 3 n lo hi xa xb q r → xb ≤ 8015 → r ≤ 400 → (NEC (K hi) ∧ hi ≤ T) → XCS m0 nm m a cm sc g → XRS w0 T w lo Q sc → Q 56 = q → (tot sc + (hi - lo) ≤ 4000 ∧ sc.length ≤ o + 1) → PP (XZ m0 w0 K T nm Nk fof cvr lst g lo hi a cm q r Q sc m w) ((jrc_Cm_fun N D).2.2.2.2.2.2.2.2.2.2.1 m (I (n : Nat)) (lsI lst)) ((krc_M_behind N d).2.2.2.2.2.2.2.2.2.2.2.2.2.1 w)
section
variable {α β : Type} {m0 w0 m w m2 w2 m3 w3 v u mS wS : MS} {K nm Nk W W2 : Nat → Nat} {N T a a0 b c cm cm0 cm2 cm3 q q0 r s lo lo0 mid hi i j f f2 n k p σ tk x : Nat} {Q Q0 Q2 Q3 Q4 : Nat → Nat} {sc sc0 sc2 sc3 t : SCT} {e : List Nat × List Nat × Nat} {g lst l2 : Bool} {L L1 L2 : List Nat} {fof cvr : Int → Int → Int} {C : Nat → Int} {P R : Nat → Nat → Int} {J : Nat → Int64} {H O : List Nat} {y : Option (Nat × Nat × Nat)} {z : Unit} {rt : Int32}
theorem xp_hd {cl o xa xb : Nat} (h : XPcK m0 f o cl n lo hi xa xb q r) : (xa < n ∧ n ≤ xb) ∧ lo < hi ∧ xb + 1 + 2 * lo ≤ xa + 2 * hi ∧ q ≤ r ∧ 5 * r + lo + 1 ≤ 5 * q + hi := XP_bdK _ _ _ _ _ _ _ _ _ _ h
theorem XTR_rf (hC : XCS m0 nm m a cm sc g) (hR : XRS w0 T w lo Q sc) (hq : Q 56 = q) : XTR m0 w0 K T nm Nk fof cvr lst g [] lo lo a a cm cm q q Q Q sc sc m w m w := ⟨⟨Nat.le_refl _, Nat.le_refl _, Nat.le_refl _, Nat.le_refl _⟩, hC, ⟨hR, hq⟩, by omega, ⟨fun _ => 0, HDx_gap (fun j a b => by omega), by rw [wup_0 (fun j a b => by omega)]⟩, XFC_rf, XFR_rf, fun _ => rfl, fun n hn => (by cases hn), fun C P R J H fi hx => ⟨fun u u1 u2 => by omega, fun y _ h => h⟩⟩
theorem XTR_len (h : XTR m0 w0 K T nm Nk fof cvr lst g L lo mid a b cm cm2 q r Q Q2 sc sc2 m w m2 w2) : sc2.length = sc.length := by
  obtain ⟨W, a5, -⟩ := h.2.2.2.2.1
  exact NWX_len (a5.2 rfl).2
/-- only numbers of the reader change -/
theorem XTR_mv (h : XTR m0 w0 K T nm Nk fof cvr lst g L lo mid a b cm cm2 q r Q Q2 sc sc2 m w m2 w2) (hX : XRS w0 T v hi Q2 sc2) (hv : v.2 = w2.2) (hl : mid ≤ hi) (gap : ∀ j, mid ≤ j → j < hi → K j ≠ 3) : XTR m0 w0 K T nm Nk fof cvr lst g L lo hi a b cm cm2 q r Q Q2 sc sc2 m w m2 v := by
  obtain ⟨a1, a2, a3, a4, ⟨W, a5, a6⟩, a7, a8, a9, a10, a11⟩ := h
  obtain ⟨v1, vr⟩ := v
  have hv : vr = w2.2 := hv
  subst hv
  refine ⟨⟨by omega, a1.2⟩, a2, ⟨hX, a3.2⟩, by omega, ⟨W, HDx_tr a1.1 hl a5 (HDx_gap gap), ?_⟩, a7, ⟨QRR_e a8.1 rfl rfl, a8.2⟩, a9, a10, a11⟩
  rw [a6, ← wup_tr (p := lo) (q := mid) (p2 := hi) a1.1 hl, wup_0 (p := mid) gap]
theorem XTR_ad (h : XTR m0 w0 K T nm Nk fof cvr lst g L lo mid a b cm cm2 q r Q Q2 sc sc2 m w m2 w2) (hl : mid < T) (hk : K mid ≠ 3) : XTR m0 w0 K T nm Nk fof cvr lst g L lo (mid + 1) a b cm cm2 q r Q Q2 sc sc2 m w m2 (adv w2 mid) := XTR_mv h (XRS_ad h.2.2.1.1 hl) rfl (Nat.le_succ _) (fun j a b => by rw [show j = mid by omega]; exact hk)
theorem XTR_I {k : Nat} {x : Int32} (h : XTR m0 w0 K T nm Nk fof cvr lst g L lo mid a b cm cm2 q r Q Q2 sc sc2 m w m2 w2) (hk : k ∉ NIX) (h2 : k ≠ 32 ∧ k ≠ 69) : XTR m0 w0 K T nm Nk fof cvr lst g L lo mid a b cm cm2 q r Q Q2 sc sc2 m w m2 (upI w2 k x) := XTR_mv h (XRS_I h.2.2.1.1 hk h2) rfl (Nat.le_refl _) (fun j a b => by omega)
/-- an E, in a row -/
theorem XZ_tr (hz : XZ m0 w0 K T nm Nk fof cvr false g mid hi b cm2 r s Q2 sc2 m2 w2 m3 z w3 rt) (h : XTR m0 w0 K T nm Nk fof cvr lst g [] lo mid a b cm cm2 q r Q Q2 sc sc2 m w m2 w2) : ∃ c cm3 Q3 sc3, XTR m0 w0 K T nm Nk fof cvr lst g [] lo hi a c cm cm3 q s Q Q3 sc sc3 m w m3 w3 := by
  obtain ⟨c, cm3, Q3, sc3, rn, f, L, z1, z2, z3, z4, z5, z6⟩ := hz
  exact ⟨c, cm3, Q3, sc3, XTR_tr h (XTR_nl z3)⟩
theorem RT_mo (w : MS) (i : Nat) : ∀ (f : Nat) (bb : Bool) (j : Nat) (r : Int) (L : List Nat), RTd w i f bb j r L → RTd w i (f + 1) bb j r L
  | 0, _, _, _, _, h => h.elim
  | f + 1, false, j, r, L, h => by
    obtain ⟨r0, h1, h2, L1, h3, h4⟩ := h
    exact ⟨r0, h1, h2, L1, RT_mo w i f true _ _ _ h3, h4⟩
  | f + 1, true, j, r, L, h => by
    rcases h with h | ⟨r0, L1, L2, h1, h2, h3, h4⟩
    · exact Or.inl h
    · exact Or.inr ⟨r0, L1, L2, h1, RT_mo w i f false _ _ _ h2, RT_mo w i f true _ _ _ h3, h4⟩
theorem RT_le {bb : Bool} {x : Int} (h : RTd w i f bb j x L) (hf : f ≤ f2) : RTd w i f2 bb j x L := by
  obtain ⟨k, rfl⟩ := Nat.le.dest hf
  induction k with
  | zero => exact h
  | succ k ih => exact RT_mo _ _ _ _ _ _ _ (ih (by omega))
/-- bounds may be wider -/
theorem RT_w {i2 : Nat} (hi2 : i2 ≤ i) : ∀ (f : Nat) (bb : Bool) (j j2 : Nat) (r : Int) (L : List Nat), j ≤ j2 → RTd w i f bb j r L → RTd w i2 f bb j2 r L
  | 0, _, _, _, _, _, _, h => h.elim
  | f + 1, false, j, j2, r, L, hj, h => by
    obtain ⟨r0, h1, h2, L1, h3, h4⟩ := h
    exact ⟨r0, h1, ⟨by omega, by omega⟩, L1, RT_w hi2 f true _ _ _ _ (Nat.le_refl _) h3, h4⟩
  | f + 1, true, j, j2, r, L, hj, h => by
    rcases h with h | ⟨r0, L1, L2, h1, h2, h3, h4⟩
    · exact Or.inl h
    · exact Or.inr ⟨r0, L1, L2, h1, RT_w hi2 f false _ _ _ _ hj h2, RT_w hi2 f true _ _ _ _ hj h3, h4⟩
/-- rows of roots stay -/
theorem RT_fr : ∀ (f : Nat), (∀ (jj j : Nat) (r : Int) (L : List Nat), j ≤ jj → (∀ n, i ≤ n → n < jj → A v 23 n = A w 23 n ∧ A v 28 n = A w 28 n ∧ A v 29 n = A w 29 n) → RTd w i f true j r L → RTd v i f true j r L) ∧ (∀ (j r0 : Nat) (L : List Nat), (∀ n, i ≤ n → n ≤ r0 → A v 23 n = A w 23 n ∧ A v 28 n = A w 28 n) → (∀ n, i ≤ n → n < r0 → A v 29 n = A w 29 n) → RTd w i f false j ((r0 : Nat) : Int) L → RTd v i f false j ((r0 : Nat) : Int) L)
  | 0 => ⟨fun _ _ _ _ _ _ h => h.elim, fun _ _ _ _ _ h => h.elim⟩
  | f + 1 => by
    obtain ⟨ih1, ih2⟩ := RT_fr f
    refine ⟨fun jj j r L hj hr h => ?_, fun j r0 L h1 h2 h => ?_⟩
    · rcases h with h | ⟨r0, L1, L2, h1, h2, h3, h4⟩
      · exact Or.inl h
      · have hb : i ≤ r0 ∧ r0 < j := by
          rw [h1] at h2
          cases f with
          | zero => exact h2.elim
          | succ f =>
            obtain ⟨r1, g1, g2, -⟩ := h2
            omega
        refine Or.inr ⟨r0, L1, L2, h1, ?_, ?_, h4⟩
        · rw [h1] at h2 ⊢
          exact ih2 j r0 L1 (fun n n1 n2 => ⟨(hr n n1 (by omega)).1, (hr n n1 (by omega)).2.1⟩) (fun n n1 n2 => (hr n n1 (by omega)).2.2) h2
        · rw [(hr r0 hb.1 (by omega)).2.2]
          exact ih1 jj j _ L2 hj hr h3
    · obtain ⟨r1, g1, g2, L1, g3, g4⟩ := h
      have e : r1 = r0 := by omega
      subst e
      refine ⟨r1, rfl, g2, L1, ?_, ?_⟩
      · rw [(h1 r1 g2.1 (Nat.le_refl _)).2]
        exact ih1 r1 r1 _ L1 (Nat.le_refl _) (fun n n1 n2 => ⟨(h1 n n1 (by omega)).1, (h1 n n1 (by omega)).2, h2 n n1 n2⟩) g3
      · rw [(h1 r1 g2.1 (Nat.le_refl _)).1]
        exact g4
/-- those that stand last lie in the tree -/
theorem RT_in : ∀ (f : Nat) (bb : Bool) (j : Nat) (r : Int) (L : List Nat), RTd w i f bb j r L → ∀ n, n ∈ L → (i ≤ n ∧ n < j) ∧ (A w 23 n = 12 ∨ A w 23 n = 13)
  | 0, _, _, _, _, h => h.elim
  | f + 1, false, j, r, L, h => by
    obtain ⟨r0, h1, h2, L1, h3, h4⟩ := h
    intro n hn
    by_cases z : A w 23 r0 = 12 ∨ A w 23 r0 = 13
    · rw [h4, if_pos z] at hn
      rcases List.mem_cons.mp hn with y | y
      · rw [y]; exact ⟨h2, z⟩
      · have := RT_in f true _ _ _ h3 n y
        exact ⟨⟨this.1.1, by omega⟩, this.2⟩
    · rw [h4, if_neg z] at hn
      have := RT_in f true _ _ _ h3 n hn
      exact ⟨⟨this.1.1, by omega⟩, this.2⟩
  | f + 1, true, j, r, L, h => by
    rcases h with ⟨-, h⟩ | ⟨r0, L1, L2, h1, h2, h3, h4⟩
    · intro n hn
      rw [h] at hn
      cases hn
    · intro n hn
      rw [h4] at hn
      rcases List.mem_append.mp hn with y | y
      · exact RT_in f false _ _ _ h2 n y
      · exact RT_in f true _ _ _ h3 n y
end
