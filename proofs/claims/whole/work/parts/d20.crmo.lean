/-! code there, nodes here: more fuel does no harm -/
set_option maxRecDepth 100000
section
variable {C : Nat → Int} {R : Nat → Nat → Int} {J : Nat → Int64} {S S2 : Option (Nat × Nat × Nat) → Nat → Nat → List Nat → List Nat → Prop} {y : Option (Nat × Nat × Nat)} {a n f f2 kd sc e k : Nat} {H O : List Nat}
theorem CH_mo (hS : ∀ y a n H O, S y a n H O → S2 y a n H O) (h : CHs C R S kd e k H O) : CHs C R S2 kd e k H O := by
  obtain ⟨b, h1, h2⟩ := h
  refine ⟨b, h1, ?_⟩
  rcases h2 with ⟨g1, g2, g3, g4, g5⟩ | ⟨g1, g2, g3⟩ | ⟨g1, g2⟩ | ⟨g1, g2, g3⟩
  · exact Or.inl ⟨g1, g2, g3, g4, hS _ _ _ _ _ g5⟩
  · exact Or.inr (Or.inl ⟨g1, g2, hS _ _ _ _ _ g3⟩)
  · exact Or.inr (Or.inr (Or.inl ⟨g1, hS _ _ _ _ _ g2⟩))
  · exact Or.inr (Or.inr (Or.inr ⟨g1, g2, hS _ _ _ _ _ g3⟩))
theorem ZR_mo (hS : ∀ y a n H O, S y a n H O → S2 y a n H O) : ∀ {f f2 a : Nat} {k : Int}, f ≤ f2 → ZRs C R J S kd sc H O f a k → ZRs C R J S2 kd sc H O f2 a k
  | 0, _, _, _, _, h => h.elim
  | f + 1, 0, _, _, hf, _ => by omega
  | f + 1, f2 + 1, a, k, hf, h => by
    obtain ⟨h0, h⟩ := h
    refine ⟨h0, ?_⟩
    rcases h with h | ⟨k0, hk, e, O2, h1, h2⟩
    · exact Or.inl h
    · refine Or.inr ⟨k0, hk, e, O2, ?_, ?_⟩
      · rcases h1 with h1 | ⟨g1, ⟨fl, g2, g3⟩, g4⟩
        · exact Or.inl h1
        · exact Or.inr ⟨g1, ⟨fl, g2, ZR_mo hS (by omega) g3⟩, g4⟩
      · rcases h2 with ⟨g1, g2⟩ | ⟨g, fl, g1, g2, g3, g4, g5, g6, g7⟩
        · exact Or.inl ⟨g1, CH_mo hS g2⟩
        · exact Or.inr ⟨g, fl, g1, g2, g3, g4, g5, ZR_mo hS (by omega) g6, hS _ _ _ _ _ g7⟩
theorem RC_mo (hS : ∀ y a n H O, S y a n H O → S2 y a n H O) (hf : f ≤ f2) (h : RCs C R J S f sc n H O) : RCs C R J S2 f2 sc n H O := by
  obtain ⟨h1, h2, h3, h4⟩ := h
  refine ⟨h1, ZR_mo hS hf h2, fun z => ?_, h4⟩
  obtain ⟨a, l, b, g1, g2, g3, g4⟩ := h3 z
  exact ⟨a, l, b, g1, g2, g3, hS _ _ _ _ _ g4⟩
theorem LC_mo (hS : ∀ y a n H O, S y a n H O → S2 y a n H O) (hf : f ≤ f2) : LCs C R J f S y a n H O → LCs C R J f2 S2 y a n H O :=
  Or.imp (fun h => ⟨h.1, h.2.1, h.2.2.1, h.2.2.2.1, h.2.2.2.2.1, hS _ _ _ _ _ h.2.2.2.2.2⟩)
    (Or.imp (fun h => ⟨h.1, h.2.1, h.2.2.elim (fun l h => ⟨l, h.1, hS _ _ _ _ _ h.2⟩)⟩)
    (Or.imp (fun h => ⟨h.1, h.2.1, h.2.2.1, hS _ _ _ _ _ h.2.2.2⟩)
    (Or.imp (fun h => ⟨h.1, h.2.1, h.2.2.1, hS _ _ _ _ _ h.2.2.2⟩)
    (Or.imp (fun h => ⟨h.1, h.2.1, h.2.2.1, h.2.2.2.1, h.2.2.2.2.1, hS _ _ _ _ _ h.2.2.2.2.2⟩)
    (Or.imp (fun h => ⟨h.1, h.2.1, h.2.2.1, h.2.2.2.1, h.2.2.2.2.1, h.2.2.2.2.2.imp (fun h => ⟨h.1, hS _ _ _ _ _ h.2⟩) (fun h => ⟨h.1, h.2.1, h.2.2.1, hS _ _ _ _ _ h.2.2.2⟩)⟩)
    (Or.imp (fun h => ⟨h.1, h.2.1, hS _ _ _ _ _ h.2.2⟩)
    (Or.imp (fun h => ⟨h.1, h.2.1, hS _ _ _ _ _ h.2.2⟩)
    (Or.imp (fun h => ⟨h.1, h.2.1, hS _ _ _ _ _ h.2.2⟩)
    (Or.imp (fun h => ⟨h.1, h.2.1.elim (fun t h => h.elim (fun b h => ⟨t, b, h.1, h.2.1, hS _ _ _ _ _ h.2.2⟩)), hS _ _ _ _ _ h.2.2⟩)
    (Or.imp (fun h => ⟨h.1, h.2.1, hS _ _ _ _ _ h.2.2⟩)
    (Or.imp (fun h => ⟨h.1, h.2.1, h.2.2.1, hS _ _ _ _ _ h.2.2.2⟩)
    (Or.imp (fun h => ⟨h.1, h.2.1, h.2.2.1, h.2.2.2.1, h.2.2.2.2.1, h.2.2.2.2.2.1, h.2.2.2.2.2.2.imp id (fun h => ⟨h.1, h.2.1, hS _ _ _ _ _ h.2.2⟩)⟩)
    (Or.imp (fun h => ⟨h.1, h.2.1, h.2.2.1, h.2.2.2.1, h.2.2.2.2.imp id (fun h => ⟨h.1, h.2.1, hS _ _ _ _ _ h.2.2⟩)⟩)
    (Or.imp (fun h => ⟨h.1, h.2.1, h.2.2.1, h.2.2.2.elim (fun u h => h.elim (fun l h => h.elim (fun b h => ⟨u, l, b, h.1, h.2.1, h.2.2.1, h.2.2.2.1, h.2.2.2.2.1, hS _ _ _ _ _ h.2.2.2.2.2⟩)))⟩)
    (Or.imp (fun h => ⟨h.1, h.2.1, h.2.2.1, hS _ _ _ _ _ h.2.2.2⟩)
    (Or.imp (fun h => ⟨h.1, h.2.1, h.2.2.1, h.2.2.2.elim (fun p h => h.elim (fun e h => h.elim (fun O2 h => ⟨p, e, O2, h.1, h.2.1, h.2.2.1, hS _ _ _ _ _ h.2.2.2⟩)))⟩)
    (Or.imp (fun h => ⟨h.1, h.2.1, hS _ _ _ _ _ h.2.2⟩)
    (Or.imp (fun h => ⟨h.1, h.2.1, h.2.2.elim (fun k h => ⟨k, h.1, h.2.1, h.2.2.1, hS _ _ _ _ _ h.2.2.2⟩)⟩)
    (Or.imp (fun h => ⟨h.1, h.2.1, h.2.2.1, h.2.2.2.1, h.2.2.2.2.elim (fun k h => ⟨k, h.1, h.2.1, h.2.2.1, hS _ _ _ _ _ h.2.2.2⟩)⟩)
    (Or.imp (fun h => ⟨h.1, h.2.1, h.2.2.1, h.2.2.2.1.elim (fun t h => h.elim (fun b h => ⟨t, b, h.1, h.2.1, hS _ _ _ _ _ h.2.2⟩)), hS _ _ _ _ _ h.2.2.2.2⟩)
    (Or.imp (fun h => ⟨h.1, h.2.1, hS _ _ _ _ _ h.2.2⟩)
    (Or.imp (fun h => ⟨h.1, h.2.1, h.2.2.1, ZR_mo hS hf h.2.2.2⟩)
    (Or.imp (fun h => ⟨h.1, h.2.1, h.2.2.1, hS _ _ _ _ _ h.2.2.2⟩)
    (Or.imp (fun h => ⟨h.1, h.2.1, h.2.2.elim (fun kd h => h.elim (fun k h => h.elim (fun sc h => ⟨kd, k, sc, h.1, CH_mo hS h.2⟩)))⟩)
    (Or.imp (fun h => ⟨h.1, h.2.1, h.2.2.elim (fun t h => h.elim (fun b h => ⟨t, b, h.1, h.2.1, hS _ _ _ _ _ h.2.2⟩))⟩)
    (Or.imp (fun h => ⟨h.1, h.2.elim (fun b h => ⟨b, h.1, hS _ _ _ _ _ h.2⟩)⟩)
    (Or.imp (fun h => ⟨h.1, h.2.1, h.2.2.1, h.2.2.2.1, h.2.2.2.2.1, h.2.2.2.2.2.1, RC_mo hS hf h.2.2.2.2.2.2⟩)
    (Or.imp (fun h => ⟨h.1, h.2.1, h.2.2.elim (fun r h => h.elim (fun k h => h.elim (fun a2 h => ⟨r, k, a2, h.1, h.2.1, h.2.2.1, h.2.2.2.1, h.2.2.2.2.1, h.2.2.2.2.2.1, h.2.2.2.2.2.2.1, h.2.2.2.2.2.2.2.1, h.2.2.2.2.2.2.2.2.1, RC_mo hS hf h.2.2.2.2.2.2.2.2.2⟩)))⟩)
    (Or.imp (id)
    (fun h => ⟨h.1, hS _ _ _ _ _ h.2⟩))))))))))))))))))))))))))))))
theorem CR_mo : ∀ {f f2 : Nat} {y : Option (Nat × Nat × Nat)} {a n : Nat} {H O : List Nat}, f ≤ f2 → CRs C R J f y a n H O → CRs C R J f2 y a n H O
  | 0, _, _, _, _, _, _, _, h => h.elim
  | f + 1, 0, _, _, _, _, _, hf, _ => by omega
  | f + 1, f2 + 1, y, a, n, H, O, hf, h => ⟨h.1, h.2.1, LC_mo (fun _ _ _ _ _ => CR_mo (by omega)) (by omega) h.2.2⟩
end
