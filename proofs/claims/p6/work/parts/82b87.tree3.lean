set_option maxRecDepth 100000
section
variable {u w : MS} {a b n k d lo hi q r l o cl f : Nat}
theorem XP_bd (f o cl : Nat) : BdE (XPc u f o cl) := fun n lo hi a b q r h => by
  cases f with
  | zero => exact h.elim
  | succ f => exact h.1
theorem XP_k : ∀ {f f2 o cl cl2 : Nat}, f ≤ f2 → cl ≤ cl2 → StE u w (XPc u f o cl) (XPc w f2 o cl2)
  | 0, _, _, _, _, _, _, _, _, _, _, _, _, _, h, _ => h.elim
  | f + 1, 0, _, _, _, h, _, _, _, _, _, _, _, _, _, _ => by omega
  | f + 1, f2 + 1, o, cl, cl2, hf, hcl, n, lo, hi, a, b, q, r, h, kn => by
    obtain ⟨h1, h2, h3, h4⟩ := h
    have hn := h1.1
    obtain ⟨g1, g2, g3, g4, g5⟩ := kn.g hn
    have hs : ∀ o cl, StE u w (XPc u f o cl) (XPc w f2 o cl) := fun o cl => XP_k (by omega) (Nat.le_refl _)
    have hp : StE u w (PAc u f) (PAc w f2) := PA_k (by omega)
    have so : ∀ {m lo hi a2 c q r o cl}, XPc u f o cl m lo hi a2 c q r → a ≤ a2 → c < n → XPc w f2 o cl m lo hi a2 c q r := fun {m lo hi a2 c q r o cl} h h1 h2 => hs o cl _ _ _ _ _ _ _ h (KNc.sub kn h1 (by omega) (Or.inr (Or.inl (by omega))))
    refine ⟨h1, TK_k h2 kn hn, h3, ?_⟩
    rw [g1]
    rcases h4 with ⟨h4, h5⟩ | ⟨h4, m, c, h5, h6, h7⟩ | ⟨h4, h5⟩ | ⟨h4, h5⟩ | ⟨h4, k, m, c, h5, h6, h7⟩ | ⟨h4, x, mid, c, s, k, m, c2, h5, h6, h7, h8, h9⟩ | ⟨h4, k, m, c, h5, h6, h7⟩ | ⟨h4, k, m, m1, c1, s1, h5, h6, h7⟩ | ⟨h4, k, m, ph, c, h5, h6, h7, h8, h9, h10, h11, h12⟩ | h4 | ⟨h4, h5, k, m, a2, c, h6, h7, h8, h9, h10, h11⟩ | ⟨h4, h5, x, mid, c, s, k, m, h6, h7, h8, h9, h10⟩ | ⟨h4, h5, m, c, h6, h7, h8⟩ | ⟨h4, h5, m, c, h6, h7, h8⟩ | ⟨h4, h5, x, y, mid, c, c2, h6, h7, h8, h9, h10⟩ | ⟨h4, h5, x, y, mid, c, c2, s, h6, h7, h8, h9, h10⟩ | ⟨h4, h5, j, m, c, h6, h7, h8⟩
    · exact Or.inl ⟨LF_k h4 kn hn, h5⟩
    · exact Or.inr (Or.inl ⟨h4, m, c, by rw [g3]; exact h5, so h6 (Nat.le_refl _) h7, h7⟩)
    · exact Or.inr (Or.inr (Or.inl ⟨h4, TU_k (hs _ _) (XP_bd _ _ _) h5 kn hn⟩))
    · exact Or.inr (Or.inr (Or.inr (Or.inl ⟨h4, TL_k (hs _ _) (XP_bd _ _ _) h5 kn hn⟩)))
    · exact Or.inr (Or.inr (Or.inr (Or.inr (Or.inl ⟨h4, k, m, c, by rw [g3]; exact h5, RW_k (hs _ _) (XP_bd _ _ _) h6 (kn.in0 (Nat.le_refl _) h7 hn.2), h7⟩))))
    · have b1 := (XP_bd _ _ _ _ _ _ _ _ _ _ h6).1
      have b2 := (RW_hd CSP_bd h8).1.1
      exact Or.inr (Or.inr (Or.inr (Or.inr (Or.inr (Or.inl ⟨h4, x, mid, c, s, k, m, c2, by rw [g3]; exact h5, so h6 (Nat.le_refl _) (by omega), by rw [g4]; exact h7, RW_k (CSP_k hp (hs _ _) (hs _ _) (PA_bd _) (XP_bd _ _ _) (XP_bd _ _ _)) CSP_bd h8 (kn.in0 (by omega) h9 hn.2), h9⟩)))))
    · exact Or.inr (Or.inr (Or.inr (Or.inr (Or.inr (Or.inr (Or.inl ⟨h4, k, m, c, by rw [g4]; exact h5, RW_k (CHP_k (hs _ _) (hs _ _) (XP_bd _ _ _) (XP_bd _ _ _)) CHP_bd h6 (kn.in0 (Nat.le_refl _) h7 hn.2), h7⟩))))))
    · have b1 := OR_hd CSP_bd h6
      have b2 : c1 < n := by
        rcases h7 with ⟨-, -, -, -, -, h⟩ | ⟨x, m2, c2, s2, kb, mb, c3, -, -, h8, -, h9, h10⟩
        · exact h
        · have := (XP_bd _ _ _ _ _ _ _ _ _ _ h8).1; have := (RW_hd (XP_bd _ _ _) h9).1.1; omega
      refine Or.inr (Or.inr (Or.inr (Or.inr (Or.inr (Or.inr (Or.inr (Or.inl ⟨h4, k, m, m1, c1, s1, by rw [g4]; exact h5, OR_k (CSP_k hp (hs _ _) (hs _ _) (PA_bd _) (XP_bd _ _ _) (XP_bd _ _ _)) CSP_bd h6 (kn.in0 (Nat.le_refl _) b2 hn.2), ?_⟩)))))))
      rw [g3, g5]
      rcases h7 with h7 | ⟨x, m2, c2, s2, kb, mb, c3, h7, h8, h9, h10, h11, h12⟩
      · exact Or.inl h7
      · have b3 := (XP_bd _ _ _ _ _ _ _ _ _ _ h9).1
        have b4 := (RW_hd (XP_bd _ _ _) h11).1.1
        exact Or.inr ⟨x, m2, c2, s2, kb, mb, c3, h7, h8, so h9 (by omega) (by omega), h10, RW_k (hs _ _) (XP_bd _ _ _) h11 (kn.in0 (by omega) h12 hn.2), h12⟩
    · have b1 := h11.1
      refine Or.inr (Or.inr (Or.inr (Or.inr (Or.inr (Or.inr (Or.inr (Or.inr (Or.inl ⟨h4, k, m, ph, c, by rw [g2]; exact h5, by rw [g3]; exact h6, by rw [g4]; exact h7, by rw [g5]; exact h8, h9, h10, PRT_k hp (hs _ _) (hs _ _) (PA_bd _) (XP_bd _ _ _) (XP_bd _ _ _) h11 (KNc.sub kn (Nat.le_refl _) (by omega) (Or.inr (Or.inl (by omega)))), h12⟩))))))))
    · exact Or.inr (Or.inr (Or.inr (Or.inr (Or.inr (Or.inr (Or.inr (Or.inr (Or.inr (Or.inl h4)))))))))
    · exact Or.inr (Or.inr (Or.inr (Or.inr (Or.inr (Or.inr (Or.inr (Or.inr (Or.inr (Or.inr (Or.inl ⟨h4, by rw [g2]; exact h5, k, m, a2, c, by rw [g4]; exact h6, by rw [g5]; exact h7, h8, h9, OR_k (hs _ _) (XP_bd _ _ _) h10 (kn.in0 h9 h11 hn.2), h11⟩))))))))))
    · exact Or.inr (Or.inr (Or.inr (Or.inr (Or.inr (Or.inr (Or.inr (Or.inr (Or.inr (Or.inr (Or.inr (Or.inl ⟨h4, by omega, x, mid, c, s, k, m, by rw [g3]; exact h6, so h7 (Nat.le_refl _) h8, h8, by rw [g4]; exact h9, RW_k (AG_k (hs _ _) (XP_bd _ _ _)) AG_bd h10 (KNc.sub kn (by omega) (Nat.le_refl _) (Or.inl (by omega)))⟩)))))))))))
    · exact Or.inr (Or.inr (Or.inr (Or.inr (Or.inr (Or.inr (Or.inr (Or.inr (Or.inr (Or.inr (Or.inr (Or.inr (Or.inl ⟨h4, by omega, m, c, by rw [g3]; exact h6, so h7 (Nat.le_refl _) h8, h8⟩))))))))))))
    · exact Or.inr (Or.inr (Or.inr (Or.inr (Or.inr (Or.inr (Or.inr (Or.inr (Or.inr (Or.inr (Or.inr (Or.inr (Or.inr (Or.inl ⟨h4, by omega, m, c, by rw [g3]; exact h6, so h7 (Nat.le_refl _) h8, h8⟩)))))))))))))
    · have b1 := (PA_bd _ _ _ _ _ _ _ _ h7).1
      have b2 := (XP_bd _ _ _ _ _ _ _ _ _ _ h9).1
      exact Or.inr (Or.inr (Or.inr (Or.inr (Or.inr (Or.inr (Or.inr (Or.inr (Or.inr (Or.inr (Or.inr (Or.inr (Or.inr (Or.inr (Or.inl ⟨h4, by omega, x, y, mid, c, c2, by rw [g3]; exact h6, hp _ _ _ _ _ _ _ h7 (KNc.sub kn (Nat.le_refl _) (by omega) (Or.inr (Or.inl (by omega)))), by rw [g4]; exact h8, so h9 (by omega) h10, h10⟩))))))))))))))
    · have b1 := (XP_bd _ _ _ _ _ _ _ _ _ _ h7).1
      have b2 := (XP_bd _ _ _ _ _ _ _ _ _ _ h9).1
      exact Or.inr (Or.inr (Or.inr (Or.inr (Or.inr (Or.inr (Or.inr (Or.inr (Or.inr (Or.inr (Or.inr (Or.inr (Or.inr (Or.inr (Or.inr (Or.inl ⟨h4, by omega, x, y, mid, c, c2, s, by rw [g3]; exact h6, so h7 (Nat.le_refl _) (by omega), by rw [g4]; exact h8, so h9 (by omega) h10, h10⟩)))))))))))))))
    · exact Or.inr (Or.inr (Or.inr (Or.inr (Or.inr (Or.inr (Or.inr (Or.inr (Or.inr (Or.inr (Or.inr (Or.inr (Or.inr (Or.inr (Or.inr (Or.inr ⟨h4, by omega, j, m, c, by rw [g3]; exact h6, SF_k (hs _ _) (XP_bd _ _ _) h7 (kn.in0 (Nat.le_refl _) h8 hn.2), h8⟩)))))))))))))))
end
