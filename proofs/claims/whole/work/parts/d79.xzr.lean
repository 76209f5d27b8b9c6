/-! a part's code: head and guard, put together -/
set_option maxRecDepth 100000
section
variable {a b kd scn f k pn fl g : Nat} {C : Nat → Int} {P R : Nat → Nat → Int} {J : Nat → Int64} {H O O2 : List Nat}
/-- a PATTERN, no GUARD -/
theorem zr_pn (ha : a + 1 < 24000) (hk : k < 100000) (c0 : C a = 19) (c1 : (kd = 1 ∧ C (a + 1) = -1) ∨ (kd = 3 ∧ C (a + 1) = -2)) (c2 : C (a + 2) = ((fl : Nat) : Int)) (hp : PTs C R J H f (a + 3) pn O b O2) (hf : f ≤ 230) (c8 : C b = 8) (r40 : R 40 k = ((pn : Nat) : Int)) (r42 : R 42 k = -1) (hz : ∃ f, ZRs C R J (CRs C R J f) kd scn H O f fl (R 45 k)) (hc : ∃ f, CHs C R (CRs C R J f) kd (b + 1) k H O2) : ∃ f, ZRs C R J (CRs C R J f) kd scn H O f a ((k : Nat) : Int) := by
  refine zr_c (e := b + 1) (O2 := O2) ha hk (Or.inr ⟨c0, ⟨fl, c2, hz⟩, 1, b, ?_, ?_, c8, rfl⟩) (Or.inl ⟨r42, hc⟩)
  · rcases c1 with ⟨h1, h2⟩ | ⟨h1, h2⟩
    · exact Or.inr (Or.inl ⟨h1, rfl, h2⟩)
    · exact Or.inr (Or.inr ⟨h1, rfl, h2⟩)
  · rw [r40]; exact ptr_1 hp hf
/-- a PATTERN, a GUARD -/
theorem zr_pg (ha : a + 1 < 24000) (hk : k < 100000) (c0 : C a = 19) (c1 : (kd = 1 ∧ C (a + 1) = -1) ∨ (kd = 3 ∧ C (a + 1) = -2)) (c2 : C (a + 2) = ((fl : Nat) : Int)) (hp : PTs C R J H f (a + 3) pn O b O2) (hf : f ≤ 230) (c8 : C b = 8) (r40 : R 40 k = ((pn : Nat) : Int)) (r42 : R 42 k = ((g : Nat) : Int)) (c21 : C (b + 1) = 21) (cl : C (b + 2) = ((O2.length - O.length : Nat) : Int)) (cf : C (b + 3) = ((fl : Nat) : Int)) (h0 : 0 < fl) (hz : ∃ f, ZRs C R J (CRs C R J f) kd scn H O f fl (R 45 k)) (hg : CRe C R J (some (kd, k, scn)) (b + 4) g H O2) : ∃ f, ZRs C R J (CRs C R J f) kd scn H O f a ((k : Nat) : Int) := by
  refine zr_c (e := b + 1) (O2 := O2) ha hk (Or.inr ⟨c0, ⟨fl, c2, hz⟩, 1, b, ?_, ?_, c8, rfl⟩) (Or.inr ⟨g, fl, r42, c21, cl, cf, h0, hz, hg⟩)
  · rcases c1 with ⟨h1, h2⟩ | ⟨h1, h2⟩
    · exact Or.inr (Or.inl ⟨h1, rfl, h2⟩)
    · exact Or.inr (Or.inr ⟨h1, rfl, h2⟩)
  · rw [r40]; exact ptr_1 hp hf
/-- a CHOICE: a GUARD alone -/
theorem zr_if (ha : a + 1 < 24000) (hk : k < 100000) (h2 : kd = 2) (r42 : R 42 k = ((g : Nat) : Int)) (c21 : C a = 21) (cl : C (a + 1) = 0) (cf : C (a + 2) = ((fl : Nat) : Int)) (h0 : 0 < fl) (hz : ∃ f, ZRs C R J (CRs C R J f) kd scn H O f fl (R 45 k)) (hg : CRe C R J (some (kd, k, scn)) (a + 3) g H O) : ∃ f, ZRs C R J (CRs C R J f) kd scn H O f a ((k : Nat) : Int) := zr_c (e := a) (O2 := O) ha hk (Or.inl ⟨Or.inl h2, rfl, rfl⟩) (Or.inr ⟨g, fl, r42, c21, by rw [Nat.sub_self]; exact cl, cf, h0, hz, hg⟩)
end
