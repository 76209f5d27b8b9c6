/-! terms that go together have one text: leaves are told -/
set_option maxRecDepth 100000
section
variable {b : Int → Nat → Nat → Prop} {h h' : Nat → Int64} {n0 n0' k z : Nat} {t x : Int64} {M : Int} {A A' : Nat → List Int32}
theorem alT_cg (hA : ∀ a : Nat, ((a : Nat) : Int) < M → A a = A' a) (hx : so x = 1 → 0 ≤ va x ∧ va x < M) : alT A x = alT A' x := by
  by_cases e : so x = 1
  · have := hx e
    rw [alT_1 e, alT_1 e]
    exact hA _ (by unfold vn; omega)
  · unfold alT
    rw [if_neg e, if_neg e]
theorem TX_cg (hA : ∀ a : Nat, ((a : Nat) : Int) < M → A a = A' a) : ∀ (f : Nat) (x : Int64) (k z : Nat), SZp h' (LFr M) k x z → (txF h' A f).1 x = (txF h' A' f).1 x ∧ (txF h' A f).2 x = (txF h' A' f).2 x
  | 0, _, _, _, _ => ⟨rfl, rfl⟩
  | f + 1, x, 0, z, sp => sp.elim
  | f + 1, x, k + 1, z, sp => by
    rw [tx1_e, tx1_e, tx2_e, tx2_e]
    rcases sp with ⟨y1, y2, y9⟩ | ⟨y1, y8, c, y3, y9⟩
    · have n5 : so x ≠ 5 := fun e => y1 (Or.inr (Or.inl e))
      have n7 : so x ≠ 7 := fun e => y1 (Or.inr (Or.inr e))
      rw [if_neg n5, if_neg n5, if_neg n7, if_neg n7, if_neg n7, if_neg n7, alT_cg hA y2.2]
      refine ⟨rfl, ?_⟩
      by_cases e6 : so x = 6
      · rw [if_pos e6, if_pos e6]
      · rw [if_neg e6, if_neg e6, (TX_cg hA f x (k + 1) z (Or.inl ⟨y1, y2, y9⟩)).1]
    · by_cases e7 : so x = 7
      · have b2 : blk h' x = 2 := by unfold blk; rw [if_pos e7]
        have p0 : prt x = 0 := by unfold prt; rw [if_pos e7]
        have s0 := y3 0 (by omega) (by omega)
        have s1 := y3 1 (by omega) (by omega)
        have n5 : so x ≠ 5 := by omega
        have n6 : so x ≠ 6 := by omega
        rw [if_neg n5, if_neg n5, if_pos e7, if_pos e7, if_neg n6, if_neg n6, if_pos e7, if_pos e7, show h' (vn x) = h' (vn x + 0) from rfl, (TX_cg hA f _ _ _ s0).1, (TX_cg hA f _ _ _ s1).2]
        exact ⟨rfl, rfl⟩
      · have n6 : so x ≠ 6 := by rcases y1 with e | e | e <;> omega
        have e1 : (txF h' A (f + 1)).1 x = (txF h' A' (f + 1)).1 x := by
          rw [tx1_e, tx1_e]
          by_cases e5 : so x = 5
          · have p1 : prt x = 1 := by unfold prt; rw [if_neg (by omega), if_pos e5]
            rw [if_pos e5, if_pos e5, jnT_eq (fun j h1 h2 => (TX_cg hA f _ _ _ (y3 j (by omega) (by omega))).1)]
          · have e3 : so x = 3 := by rcases y1 with e | e | e <;> omega
            rw [if_neg e5, if_neg e5, if_neg e7, if_neg e7, alT_3 e3, alT_3 e3]
        rw [tx1_e, tx1_e] at e1
        refine ⟨e1, ?_⟩
        rw [if_neg n6, if_neg n6, if_neg e7, if_neg e7, (TX_cg hA f x (k + 1) z (Or.inr ⟨y1, y8, c, y3, y9⟩)).1]
theorem TXs_isr (s : ISw b h n0 h' n0') (hA : ∀ a : Nat, ((a : Nat) : Int) < M → A a = A' a) (r : RTb b t x) (sp : SZp h' (LFr M) k x z) : TXs h A t = TXs h' A' x := (TXs_iso s (fun _ _ => rfl) r).trans (TX_cg hA fuT x k z sp).1
end
