set_option maxRecDepth 100000
theorem xH_n1 : xH.1.1 = 57 := congrArg Prod.fst xH_n
theorem xH_n2 : xH.1.2 = 145838 := congrArg Prod.snd xH_n
theorem xH_id : IDc xH 0 := by unfold IDc; decide +kernel
theorem mS0_id : IDm mS0 0 := ⟨rfl, rfl, rfl, rfl⟩
theorem rd_H : ((fm_H_read 400 xH 0).map (fun x => (x.2, isO x.1 0 1))) = ((fm_M_read 400 mS0).map (fun x => (x.2, true))) := by decide +kernel
theorem rd_M : (fm_M_read 400 mS0).isSome = true := by decide +kernel
theorem first_read : ∃ u2 w2 r, fm_H_read 400 xH 0 = some (u2, r) ∧ fm_M_read 400 mS0 = some (w2, r) ∧ isO u2 0 1 = true := by
  have h1 := rd_H
  have h2 := rd_M
  cases hM : fm_M_read 400 mS0 with
  | none => rw [hM] at h2; cases h2
  | some y =>
    rw [hM] at h1
    cases hH : fm_H_read 400 xH 0 with
    | none => rw [hH] at h1; cases h1
    | some x =>
      rw [hH] at h1
      have h3 := Option.some.inj h1
      obtain ⟨x1, x2⟩ := x
      obtain ⟨y1, y2⟩ := y
      have h4 : x2 = y2 := congrArg Prod.fst h3
      have h5 : isO x1 0 1 = true := congrArg Prod.snd h3
      subst h4
      exact ⟨x1, y1, x2, rfl, rfl, h5⟩
theorem first_ok {x : CS} (hid : IDc x 0) (hrd : ∃ u2 w2 r, fm_H_read 400 x 0 = some (u2, r) ∧ fm_M_read 400 mS0 = some (w2, r) ∧ isO u2 0 1 = true) {xs : Nat → Int32} {ce sl : Nat} : ∃ u2 w2 ce2 sl2, STEPx 400 xs 0 x mS0 u2 w2 ce sl ce2 sl2 ∧ isO u2 0 1 = true ∧ ce2 ≤ ce + 1 ∧ sl2 ≤ sl + 6 := by
  by_cases hq : xs (6 * 0) &&& 15 = 2
  · obtain ⟨u2, w2, r, h1, h2, h3⟩ := hrd
    refine ⟨u2, w2, ce + 1, sl + 6, ?_, h3, Nat.le_refl _, Nat.le_refl _⟩
    unfold STEPx
    exact Or.inr (Or.inr (Or.inl ⟨hq, r, h1, h2, rfl, rfl⟩))
  · obtain ⟨u2, w2, k2, ce2, sl2, h1, h2, -, -, h5, h6⟩ := idle_step (N := 400) (k := 0) (xs := xs) (q := 0) (ce := ce) (sl := sl) (by decide) (by decide) hid mS0_id hq
    exact ⟨u2, w2, ce2, sl2, h1, io_0 h2.1, h5, h6⟩
def PUREn (n : Nat) : Prop := ∃ (N mc ms : Nat) (xH : CS), fm_H_init N uH0 0 = some (xH, ()) ∧ (uH0.1.1 + mc = xH.1.1 ∧ uH0.1.2 + ms = xH.1.2) ∧ ∀ (L : Nat) (xs : Nat → Int32), L ≤ n → ∃ REL : Nat → CS → MS → Nat → Nat → Prop, (∀ k u uM ce sl, REL k u uM ce sl → isO u 0 1 = true ∧ ce ≤ 601024 ∧ sl ≤ 7293034) ∧ (∀ k u uM ce sl, REL k u uM ce sl → 6 * k + 6 ≤ L → ∃ u2 uM2 ce2 sl2, STEPx N xs k u uM u2 uM2 ce sl ce2 sl2 ∧ REL (k + 1) u2 uM2 ce2 sl2) ∧ REL 0 xH mS0 (1 + mc + 1 + 113 + 1) (11 + ms + 171 + 1787436 + 1)
theorem pure_6_of {x : CS} (h0 : fm_H_init 400 uH0 0 = some (x, ())) (hn1 : x.1.1 = 57) (hn2 : x.1.2 = 145838) (hid : IDc x 0) (hrd : ∃ u2 w2 r, fm_H_read 400 x 0 = some (u2, r) ∧ fm_M_read 400 mS0 = some (w2, r) ∧ isO u2 0 1 = true) : PUREn 6 := by
  refine ⟨400, 56, 145827, x, h0, ⟨by rw [hn1]; rfl, by rw [hn2]; rfl⟩, fun L xs hL => ?_⟩
  refine ⟨fun k u uM ce sl => (k = 0 ∧ u = x ∧ uM = mS0 ∧ ce = 172 ∧ sl = 1933446) ∨ (k = 1 ∧ isO u 0 1 = true ∧ ce ≤ 601024 ∧ sl ≤ 7293034), ?_, ?_, Or.inl ⟨rfl, rfl, rfl, rfl, rfl⟩⟩
  · intro k u uM ce sl h
    rcases h with ⟨-, h1, -, h3, h4⟩ | ⟨-, h1, h2, h3⟩
    · refine ⟨?_, by omega, by omega⟩
      rw [h1]
      exact io_0 hid.1
    · exact ⟨h1, h2, h3⟩
  · intro k u uM ce sl h h6
    rcases h with ⟨h0, h1, h2, h3, h4⟩ | ⟨h0, -⟩
    · rw [h0, h1, h2, h3, h4]
      obtain ⟨u2, w2, ce2, sl2, a1, a2, a3, a4⟩ := first_ok hid hrd (xs := xs) (ce := 172) (sl := 1933446)
      exact ⟨u2, w2, ce2, sl2, a1, Or.inr ⟨rfl, a2, by omega, by omega⟩⟩
    · omega
theorem pure_6 : PUREn 6 := pure_6_of xH_eq xH_n1 xH_n2 xH_id first_read
