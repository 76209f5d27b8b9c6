/-! patterns: rows of them, both -/
set_option maxRecDepth 100000
theorem PT_mo {C : Nat → Int} {R : Nat → Nat → Int} {J : Nat → Int64} {H : List Nat} : ∀ {f f2 i p : Nat} {O : List Nat} {j : Nat} {O2 : List Nat}, f ≤ f2 → PTs C R J H f i p O j O2 → PTs C R J H f2 i p O j O2
  | 0, _, _, _, _, _, _, _, h => h.elim
  | f + 1, 0, _, _, _, _, _, hf, _ => by omega
  | f + 1, f2 + 1, i, p, O, j, O2, hf, h => by
    rcases h with h | h | h | h | h | ⟨h1, h2, h3, n, h4, ci, cp, co, h5, h6, h7, h8, h9, h10, h11⟩ | ⟨h1, n, h4, ci, cp, co, h5, h7, h9, h11, h12⟩
    · exact Or.inl h
    · exact Or.inr (Or.inl h)
    · exact Or.inr (Or.inr (Or.inl h))
    · exact Or.inr (Or.inr (Or.inr (Or.inl h)))
    · exact Or.inr (Or.inr (Or.inr (Or.inr (Or.inl h))))
    · exact Or.inr (Or.inr (Or.inr (Or.inr (Or.inr (Or.inl ⟨h1, h2, h3, n, h4, ci, cp, co, h5, h6, h7, h8, h9, h10, fun k hk => ⟨PT_mo (by omega) (h11 k hk).1, (h11 k hk).2⟩⟩)))))
    · refine Or.inr (Or.inr (Or.inr (Or.inr (Or.inr (Or.inr ⟨h1, n, h4, ci, cp, co, h5, h7, h9, fun k hk => ⟨(h11 k hk).1, PT_mo (by omega) (h11 k hk).2.1, (h11 k hk).2.2⟩, ?_⟩)))))
      rcases h12 with h12 | ⟨g1, g2, g3, g4⟩
      · exact Or.inl h12
      · exact Or.inr ⟨g1, g2, g3, PT_mo (by omega) g4⟩
/-- patterns in a row; s: a word stands ahead of each -/
def PTL (C : Nat → Int) (R : Nat → Nat → Int) (J : Nat → Int64) (H : List Nat) (f s : Nat) : Nat → Nat → Nat → List Nat → Nat → Nat → List Nat → Prop
  | 0 => fun _ _ _ _ _ _ => False
  | k + 1 => fun i p O j l O2 => (k = 0 ∧ p = l ∧ (s = 1 → C i = 7) ∧ PTs C R J H f (i + s) l O j O2) ∨ (1 ≤ k ∧ ∃ i1 l1 O1, PTL C R J H f s k i p O i1 l1 O1 ∧ R 37 l1 = ((l : Nat) : Int) ∧ (s = 1 → C i1 = 7) ∧ PTs C R J H f (i1 + s) l O1 j O2)
theorem PTL_fn {C : Nat → Int} {R : Nat → Nat → Int} {J : Nat → Int64} {H : List Nat} {f s : Nat} : ∀ {k i p : Nat} {O : List Nat} {j l : Nat} {O2 : List Nat}, PTL C R J H f s k i p O j l O2 → ∃ (ci cp : Nat → Nat) (co : Nat → List Nat), ci 0 = i ∧ ci k = j ∧ co 0 = O ∧ co k = O2 ∧ cp 0 = p ∧ cp (k - 1) = l ∧ ∀ q, q < k → (s = 1 → C (ci q) = 7) ∧ PTs C R J H f (ci q + s) (cp q) (co q) (ci (q + 1)) (co (q + 1)) ∧ (q + 1 < k → R 37 (cp q) = ((cp (q + 1) : Nat) : Int))
  | 0, _, _, _, _, _, _, h => h.elim
  | k + 1, i, p, O, j, l, O2, h => by
    rcases h with ⟨h1, h2, h3, h4⟩ | ⟨h1, i1, l1, O1, h2, h3, h4, h5⟩
    · subst h1
      subst h2
      refine ⟨fun q => if q = 0 then i else j, fun _ => p, fun q => if q = 0 then O else O2, rfl, rfl, rfl, rfl, rfl, rfl, fun q hq => ?_⟩
      have : q = 0 := by omega
      subst this
      exact ⟨h3, h4, fun z => by omega⟩
    · obtain ⟨ci, cp, co, g1, g2, g3, g4, g5, g6, g7⟩ := PTL_fn h2
      refine ⟨fun q => if q ≤ k then ci q else j, fun q => if q < k then cp q else l, fun q => if q ≤ k then co q else O2, ?_, ?_, ?_, ?_, ?_, ?_, fun q hq => ?_⟩
      · show (if 0 ≤ k then ci 0 else j) = i
        rw [if_pos (by omega)]; exact g1
      · show (if k + 1 ≤ k then ci (k + 1) else j) = j
        rw [if_neg (by omega)]
      · show (if 0 ≤ k then co 0 else O2) = O
        rw [if_pos (by omega)]; exact g3
      · show (if k + 1 ≤ k then co (k + 1) else O2) = O2
        rw [if_neg (by omega)]
      · show (if 0 < k then cp 0 else l) = p
        rw [if_pos (by omega)]; exact g5
      · show (if k + 1 - 1 < k then cp (k + 1 - 1) else l) = l
        rw [if_neg (by omega)]
      · show (s = 1 → C (if q ≤ k then ci q else j) = 7) ∧ PTs C R J H f ((if q ≤ k then ci q else j) + s) (if q < k then cp q else l) (if q ≤ k then co q else O2) (if q + 1 ≤ k then ci (q + 1) else j) (if q + 1 ≤ k then co (q + 1) else O2) ∧ (q + 1 < k + 1 → R 37 (if q < k then cp q else l) = ((if q + 1 < k then cp (q + 1) else l : Nat) : Int))
        rw [if_pos (show q ≤ k by omega), if_pos (show q ≤ k by omega)]
        by_cases z : q < k
        · rw [if_pos z, if_pos (show q + 1 ≤ k by omega), if_pos (show q + 1 ≤ k by omega)]
          refine ⟨(g7 q z).1, (g7 q z).2.1, fun _ => ?_⟩
          by_cases y : q + 1 < k
          · rw [if_pos y]; exact (g7 q z).2.2 y
          · rw [if_neg y]
            have : q = k - 1 := by omega
            rw [this, g6]; exact h3
        · have e : q = k := by omega
          subst e
          rw [if_neg z, if_neg (show ¬ q + 1 ≤ q by omega), if_neg (show ¬ q + 1 ≤ q by omega), g2, g4]
          exact ⟨h4, h5, fun z => absurd z (by omega)⟩
/-- all patterns, as deep as f -/
def HPT (N : Nat) (m0 w0 : MS) (K : Nat → Nat) (T : Nat) (nm Nk : Nat → Nat) (f : Nat) : Prop := ∀ (D d n lo hi xa xb q r : Nat) (m w : MS) (a cm pi : Nat) (sc : SCT) (own : Bool) (v1 : Int32), PAcK m0 f n lo hi xa xb q r → xb ≤ 8015 → PCS m0 nm m a cm sc own → PRd w0 T w lo pi sc → tot sc + (hi - lo) ≤ 4000 → decide (v1 = 0) = !own → PP (PTZ m0 w0 K T nm Nk f lo hi own a cm pi sc m w) ((jrc_Cm_listPattern N D).2 m (I (n : Nat))) ((krc_M_rowPattern N d).2 w v1)
/-- a row has been read so far: j of them, from lo0 on; rt: the pattern they belong to -/
def RWA (m0 w0 : MS) (K : Nat → Nat) (T : Nat) (nm Nk : Nat → Nat) (f s lo0 : Nat) (own : Bool) (a0 cm0 rt : Nat) (sc0 : SCT) (mS wS : MS) (j first last : Nat) (m w : MS) (p a cm pi : Nat) (sc : SCT) : Prop := PCS m0 nm m a cm sc own ∧ PRd w0 T w p pi sc ∧ (lo0 ≤ p ∧ a0 ≤ a ∧ rt < pi) ∧ (NMX cm0 cm sc0 sc ∧ tot sc ≤ tot sc0 + (p - lo0)) ∧ (∃ W, HDw own nm Nk K W lo0 p sc0 sc ∧ m.2.2.1 42 = wup (mS.2.2.1 42) K W lo0 p) ∧ CFP mS m a0 (sc0.length - 1) ∧ RFP wS w rt ∧ (w.2.2.1 33 rt = wS.2.2.1 33 rt ∧ w.2.2.1 38 rt = wS.2.2.1 38 rt ∧ w.2.2.1 37 rt = wS.2.2.1 37 rt) ∧ ((j = 0 ∧ a = a0 ∧ pi = rt + 1 ∧ sc = sc0 ∧ w.2.2.1 36 rt = -1) ∨ (1 ≤ j ∧ w.2.2.1 36 rt = I (first : Nat) ∧ ((rt < first ∧ first < pi) ∧ rt < last ∧ last < pi) ∧ w.2.2.1 37 last = -1 ∧ ∀ C R J H, AGC C m a0 a → GRS R w0 → AGP R J w (rt + 1) pi last → HPX nm sc H → PTL C R J H f s j a0 first (Onm nm sc0) a last (Onm nm sc)))
