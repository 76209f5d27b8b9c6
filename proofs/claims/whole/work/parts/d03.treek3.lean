/-! the tree of a text: E's are kept -/
set_option maxRecDepth 100000
section
variable {u w : MS} {a b n k d lo hi q r l o cl f : Nat}
theorem XP_bdK (f o cl : Nat) : BdE (XPcK u f o cl) := fun n lo hi a b q r h => by
  cases f with
  | zero => exact h.elim
  | succ f => exact h.1
theorem XP_kK : ∀ {f f2 o cl cl2 : Nat}, f ≤ f2 → cl ≤ cl2 → StE u w (XPcK u f o cl) (XPcK w f2 o cl2)
  | 0, _, _, _, _, _, _, _, _, _, _, _, _, _, h, _ => h.elim
  | f + 1, 0, _, _, _, h, _, _, _, _, _, _, _, _, _, _ => by omega
  | f + 1, f2 + 1, o, cl, cl2, hf, hcl, n, lo, hi, a, b, q, r, h, kn => by
    obtain ⟨h1, h2, h3, h4⟩ := h
    have hn := h1.1
    obtain ⟨g1, g2, g3, g4, g5⟩ := kn.g hn
    have hs : ∀ o cl, StE u w (XPcK u f o cl) (XPcK w f2 o cl) := fun o cl => XP_kK (by omega) (Nat.le_refl _)
    have hp : StE u w (PAcK u f) (PAcK w f2) := PA_kK (by omega)
    have so : ∀ {m lo hi a2 c q r o cl}, XPcK u f o cl m lo hi a2 c q r → a ≤ a2 → c < n → XPcK w f2 o cl m lo hi a2 c q r := fun {m lo hi a2 c q r o cl} h h1 h2 => hs o cl _ _ _ _ _ _ _ h (KNc.sub kn h1 (by omega) (Or.inr (Or.inl (by omega))))
    have e6 : ∀ t, A w 6 t = A u 6 t := fun t => kn.a6
    have e7 : ∀ t, A w 7 t = A u 7 t := fun t => kn.a7
    refine ⟨h1, TK_k h2 kn hn, h3, ?_⟩
    rw [g1]
    rcases h4 with ⟨h4, h5⟩ | ⟨h4, m, c, h5, h6, h7, hk⟩ | ⟨h4, h5, hk⟩ | ⟨h4, h5, hk⟩ | ⟨h4, k, m, c, h5, h6, h7, hk⟩ | ⟨h4, x, mid, c, s, k, m, c2, h5, h6, h7, h8, h9, hk⟩ | ⟨h4, k, m, c, h5, h6, h7, hk⟩ | ⟨h4, k, m, m1, c1, s1, h5, h6, h7⟩ | ⟨h4, k, m, ph, c, h5, h6, h7, h8, h9, h10, h11, h12, hk⟩ | h4 | ⟨h4, h5, k, m, a2, c, h6, h7, h8, h9, h10, h11, hk⟩ | ⟨h4, h5, x, mid, c, s, k, m, h6, h7, ⟨h8, hk⟩, h9, h10⟩ | ⟨h4, h5, m, c, h6, h7, h8, hk⟩ | ⟨h4, h5, m, c, h6, h7, h8, hk⟩ | ⟨h4, h5, x, y, mid, c, c2, h6, h7, h8, h9, h10, hk⟩ | ⟨h4, h5, x, y, mid, c, c2, s, h6, h7, h8, h9, h10, hk⟩ | ⟨h4, h5, j, m, c, h6, h7, h8⟩
    · exact Or.inl ⟨LF_k h4 kn hn, ⟨h5.1.1, by rw [e6, e6]; exact h5.1.2⟩, h5.2⟩
    · exact Or.inr (Or.inl ⟨h4, m, c, by rw [g3]; exact h5, so h6 (Nat.le_refl _) h7, h7, by rw [e6, e6, g2]; exact hk⟩)
    · exact Or.inr (Or.inr (Or.inl ⟨h4, TU_kK (hs _ _) (XP_bdK _ _ _) h5 kn hn, by rw [g2]; exact hk⟩))
    · exact Or.inr (Or.inr (Or.inr (Or.inl ⟨h4, TL_kK (hs _ _) (XP_bdK _ _ _) h5 kn hn, by rw [g2]; exact hk⟩)))
    · exact Or.inr (Or.inr (Or.inr (Or.inr (Or.inl ⟨h4, k, m, c, by rw [g3]; exact h5, RW_kK (hs _ _) (XP_bdK _ _ _) h6 (kn.in0 (Nat.le_refl _) h7 hn.2), h7, by rw [e6, e6, g2]; exact hk⟩))))
    · have b1 := (XP_bdK _ _ _ _ _ _ _ _ _ _ h6).1
      have b2 := (RW_hdK CSP_bdK h8).1.1
      exact Or.inr (Or.inr (Or.inr (Or.inr (Or.inr (Or.inl ⟨h4, x, mid, c, s, k, m, c2, by rw [g3]; exact h5, so h6 (Nat.le_refl _) (by omega), by rw [g4]; exact h7, RW_kK (CSP_kK hp (hs _ _) (hs _ _) (PA_bdK _) (XP_bdK _ _ _) (XP_bdK _ _ _)) CSP_bdK h8 (kn.in0 (by omega) h9 hn.2), h9, by rw [e6, e6, e6, g2]; exact hk⟩)))))
    · exact Or.inr (Or.inr (Or.inr (Or.inr (Or.inr (Or.inr (Or.inl ⟨h4, k, m, c, by rw [g4]; exact h5, RW_kK (CHP_kK (hs _ _) (hs _ _) (XP_bdK _ _ _) (XP_bdK _ _ _)) CHP_bdK h6 (kn.in0 (Nat.le_refl _) h7 hn.2), h7, by rw [e6, e6, g2]; exact hk⟩))))))
    · have b1 := OR_hdK CSP_bdK h6
      have b2 : c1 < n := by
        rcases h7 with ⟨-, -, -, -, -, h, -⟩ | ⟨x, m2, c2, s2, kb, mb, c3, -, -, h8, -, h9, h10, -⟩
        · exact h
        · have := (XP_bdK _ _ _ _ _ _ _ _ _ _ h8).1; have := (RW_hdK (XP_bdK _ _ _) h9).1.1; omega
      refine Or.inr (Or.inr (Or.inr (Or.inr (Or.inr (Or.inr (Or.inr (Or.inl ⟨h4, k, m, m1, c1, s1, by rw [g4]; exact h5, OR_kK (CSP_kK hp (hs _ _) (hs _ _) (PA_bdK _) (XP_bdK _ _ _) (XP_bdK _ _ _)) CSP_bdK h6 (kn.in0 (Nat.le_refl _) b2 hn.2), ?_⟩)))))))
      rw [g3, g5]
      rcases h7 with ⟨h7, h8, h9, h10, h11, h12, hk⟩ | ⟨x, m2, c2, s2, kb, mb, c3, h7, h8, h9, h10, h11, h12, hk⟩
      · exact Or.inl ⟨h7, h8, h9, h10, h11, h12, by rw [e6, e6, g2]; exact hk⟩
      · have b3 := (XP_bdK _ _ _ _ _ _ _ _ _ _ h9).1
        have b4 := (RW_hdK (XP_bdK _ _ _) h11).1.1
        exact Or.inr ⟨x, m2, c2, s2, kb, mb, c3, h7, h8, so h9 (by omega) (by omega), h10, RW_kK (hs _ _) (XP_bdK _ _ _) h11 (kn.in0 (by omega) h12 hn.2), h12, by rw [e6, e6, e6, e6, g2]; exact hk⟩
    · have b1 := h11.1
      refine Or.inr (Or.inr (Or.inr (Or.inr (Or.inr (Or.inr (Or.inr (Or.inr (Or.inl ⟨h4, k, m, ph, c, by rw [g2]; exact h5, by rw [g3]; exact h6, by rw [g4]; exact h7, by rw [g5]; exact h8, h9, h10, PRT_kK hp (hs _ _) (hs _ _) (PA_bdK _) (XP_bdK _ _ _) (XP_bdK _ _ _) h11 (KNc.sub kn (Nat.le_refl _) (by omega) (Or.inr (Or.inl (by omega)))), h12, by rw [e6, e6, e6, e6]; exact hk⟩))))))))
    · exact Or.inr (Or.inr (Or.inr (Or.inr (Or.inr (Or.inr (Or.inr (Or.inr (Or.inr (Or.inl ⟨h4.1, by rw [e6, e6, e6, e6, g2, g3, g4, e7, e7]; exact h4.2⟩)))))))))
    · exact Or.inr (Or.inr (Or.inr (Or.inr (Or.inr (Or.inr (Or.inr (Or.inr (Or.inr (Or.inr (Or.inl ⟨h4, by rw [g2]; exact h5, k, m, a2, c, by rw [g4]; exact h6, by rw [g5]; exact h7, h8, h9, OR_kK (hs _ _) (XP_bdK _ _ _) h10 (kn.in0 h9 h11 hn.2), h11, by rw [e6, e6, e6, g3, e7]; exact hk⟩))))))))))
    · exact Or.inr (Or.inr (Or.inr (Or.inr (Or.inr (Or.inr (Or.inr (Or.inr (Or.inr (Or.inr (Or.inr (Or.inl ⟨h4, by omega, x, mid, c, s, k, m, by rw [g3]; exact h6, so h7 (Nat.le_refl _) h8, ⟨h8, by rw [g2]; exact hk⟩, by rw [g4]; exact h9, RW_kK (AG_kK (hs _ _) (XP_bdK _ _ _)) AG_bdK h10 (KNc.sub kn (by omega) (Nat.le_refl _) (Or.inl (by omega)))⟩)))))))))))
    · exact Or.inr (Or.inr (Or.inr (Or.inr (Or.inr (Or.inr (Or.inr (Or.inr (Or.inr (Or.inr (Or.inr (Or.inr (Or.inl ⟨h4, by omega, m, c, by rw [g3]; exact h6, so h7 (Nat.le_refl _) h8, h8, by rw [e6]; exact hk⟩))))))))))))
    · exact Or.inr (Or.inr (Or.inr (Or.inr (Or.inr (Or.inr (Or.inr (Or.inr (Or.inr (Or.inr (Or.inr (Or.inr (Or.inr (Or.inl ⟨h4, by omega, m, c, by rw [g3]; exact h6, so h7 (Nat.le_refl _) h8, h8, by rw [e6]; exact hk⟩)))))))))))))
    · have b1 := (PA_bdK _ _ _ _ _ _ _ _ h7).1
      have b2 := (XP_bdK _ _ _ _ _ _ _ _ _ _ h9).1
      exact Or.inr (Or.inr (Or.inr (Or.inr (Or.inr (Or.inr (Or.inr (Or.inr (Or.inr (Or.inr (Or.inr (Or.inr (Or.inr (Or.inr (Or.inl ⟨h4, by omega, x, y, mid, c, c2, by rw [g3]; exact h6, hp _ _ _ _ _ _ _ h7 (KNc.sub kn (Nat.le_refl _) (by omega) (Or.inr (Or.inl (by omega)))), by rw [g4]; exact h8, so h9 (by omega) h10, h10, by rw [e6, e6]; exact hk⟩))))))))))))))
    · have b1 := (XP_bdK _ _ _ _ _ _ _ _ _ _ h7).1
      have b2 := (XP_bdK _ _ _ _ _ _ _ _ _ _ h9).1
      exact Or.inr (Or.inr (Or.inr (Or.inr (Or.inr (Or.inr (Or.inr (Or.inr (Or.inr (Or.inr (Or.inr (Or.inr (Or.inr (Or.inr (Or.inr (Or.inl ⟨h4, by omega, x, y, mid, c, c2, s, by rw [g3]; exact h6, so h7 (Nat.le_refl _) (by omega), by rw [g4]; exact h8, so h9 (by omega) h10, h10, by rw [e6, e6]; exact hk⟩)))))))))))))))
    · exact Or.inr (Or.inr (Or.inr (Or.inr (Or.inr (Or.inr (Or.inr (Or.inr (Or.inr (Or.inr (Or.inr (Or.inr (Or.inr (Or.inr (Or.inr (Or.inr ⟨h4, by omega, j, m, c, by rw [g3]; exact h6, SF_kK (hs _ _) (XP_bdK _ _ _) h7 (kn.in0 (Nat.le_refl _) h8.1 hn.2), h8⟩)))))))))))))))
end
