section
set_option maxRecDepth 100000
def ckW (f : Nat → Int32) (n b : Nat) : Bool := (List.range n).all (fun k => decide (0 ≤ (f k).toInt ∧ (f k).toInt ≤ (f (k + 1)).toInt ∧ (f (k + 1)).toInt ≤ ((b : Nat) : Int)))
def ck0 (f : Nat → Int32) (n : Nat) : Bool := (List.range n).all (fun k => decide (f k = 0))
theorem ckW_e {f : Nat → Int32} {n b : Nat} (h : ckW f n b = true) (k : Nat) (hk : k < n) : 0 ≤ (f k).toInt ∧ (f k).toInt ≤ (f (k + 1)).toInt ∧ (f (k + 1)).toInt ≤ ((b : Nat) : Int) := of_decide_eq_true (List.all_eq_true.mp h k (List.mem_range.mpr hk))
theorem ck0_e {f : Nat → Int32} {n : Nat} (h : ck0 f n = true) (k : Nat) (hk : k < n) : f k = 0 := of_decide_eq_true (List.all_eq_true.mp h k (List.mem_range.mpr hk))
theorem s_w9 : ckW (AI xH15 11) 15 (bl 10) = true := by decide +kernel
theorem s_w36 : ckW (AI xH15 38) (FI xH15 36 2).toInt.toNat (bl 37) = true := by decide +kernel
theorem s_w1 : ckW (AI xH15 3) 22 (bl 2) = true := by decide +kernel
theorem s_w12 : ckW (AI xH15 14) 1 (bl 13) = true := by decide +kernel
theorem s_40 : ck0 (AI xH15 40) 32 = true := by decide +kernel
theorem s_41 : ck0 (AI xH15 41) 32 = true := by decide +kernel
theorem s_5 : ck0 (AI xH15 5) 4000 = true := by decide +kernel
theorem s_F : FI xH15 4 1 = 0 ∧ FI xH15 9 2 = 15 ∧ (0 ≤ (FI xH15 36 2).toInt ∧ (FI xH15 36 2).toInt + 1 ≤ ((il 38 : Nat) : Int)) ∧ FI xH15 0 9 = 0 ∧ FI xH15 0 10 = 0 := by decide +kernel
theorem s_G : FI xH15 47 2 = 0 ∧ FI xH15 47 10 = 0 ∧ FI xH15 47 13 = 0 ∧ FI xH15 47 15 = 0 ∧ FI xH15 47 16 = 0 := by decide +kernel
theorem s_il : il 11 = 21 ∧ bl 10 ≤ 100000 ∧ il 38 ≤ 100000 ∧ bl 37 ≤ 100000 ∧ il 3 ≤ 100000 ∧ bl 2 ≤ 100000 := by decide +kernel
def o64 (x : Option Nat) : Int32 := match x with
  | none => -1
  | some j => Int32.ofNat j
def mFo (x : CS) : MS := (fun k => if k = 1964 then o64 (FRc x 43 4) else FI x (k / 20) (k % 20), fun _ => FJ x 55 10, fun i j => if i = 1948 then -1 else AI x i j, fun i j => AJ x i j)
section
variable {x : CS}
theorem mF_F {k : Nat} (h : k ≠ 1964) : F (mFo x) k = (FI x (k / 20) (k % 20)).toInt := by
  unfold F mFo
  simp only [if_neg h]
theorem mF_A {r j : Nat} (h : r ≠ 1948) : A (mFo x) r j = (AI x r j).toInt := by
  unfold A mFo
  simp only [if_neg h]
theorem mF_r {r : Nat} (h : r ≠ 1948) : (mFo x).2.2.1 r = AI x r := by
  unfold mFo
  funext j
  simp only [if_neg h]
theorem mF_0 {k : Nat} (h : k ≠ 1964) (e : FI x (k / 20) (k % 20) = 0) : F (mFo x) k = 0 := by rw [mF_F h, e]; rfl
theorem mF_64 : (mFo x).1 1964 = o64 (FRc x 43 4) := by
  unfold mFo
  simp only [if_true]
theorem mF_19 {r : Nat} : (mFo x).2.2.1 1948 r = -1 := by
  unfold mFo
  simp only [if_true]
theorem o64_e {y : Option Nat} (h : y = none ∨ y = some 52 ∨ y = some 56) : y = rf (o64 y) ∧ ∀ j, rf (o64 y) = some j → j = 52 ∨ j = 56 := by
  rcases h with rfl | rfl | rfl
  · exact ⟨by decide, fun j hj => by
      have e : rf (o64 none) = none := by decide
      rw [e] at hj
      cases hj⟩
  · exact ⟨by decide, fun j hj => by
      have e : rf (o64 (some 52)) = some 52 := by decide
      rw [e] at hj
      injection hj with hj
      omega⟩
  · exact ⟨by decide, fun j hj => by
      have e : rf (o64 (some 56)) = some 56 := by decide
      rw [e] at hj
      injection hj with hj
      omega⟩
theorem mF_STA (w9 : ckW (AI x 11) 15 (bl 10) = true) (w36 : ckW (AI x 38) (FI x 36 2).toInt.toNat (bl 37) = true) (w1 : ckW (AI x 3) 22 (bl 2) = true) (w12 : ckW (AI x 14) 1 (bl 13) = true) (h40 : ck0 (AI x 40) 32 = true) (h41 : ck0 (AI x 41) 32 = true) (h5 : ck0 (AI x 5) 4000 = true) (hF : FI x 4 1 = 0 ∧ FI x 9 2 = 15 ∧ (0 ≤ (FI x 36 2).toInt ∧ (FI x 36 2).toInt + 1 ≤ ((il 38 : Nat) : Int)) ∧ FI x 0 9 = 0 ∧ FI x 0 10 = 0) (h64 : FRc x 43 4 = none ∨ FRc x 43 4 = some 52 ∨ FRc x 43 4 = some 56) : STA (mFo x) := by
  obtain ⟨f1, f2, f3, f4, f5⟩ := hF
  obtain ⟨i1, i2, i3, i4, i5, i6⟩ := s_il
  have e182 : F (mFo x) 182 = 15 := by
    rw [mF_F (by decide), show FI x (182 / 20) (182 % 20) = FI x 9 2 from rfl, f2]
    rfl
  have e722 : F (mFo x) 722 = (FI x 36 2).toInt := mF_F (by decide)
  refine ⟨⟨?_, fun k hk => ?_, ⟨?_, ?_, ?_, i2, fun k hk => ?_⟩, e182⟩, ⟨⟨fun k hk => ?_, i5, i6⟩, fun k hk => ?_⟩, ⟨?_, ?_, i3, i4, fun k hk => ?_⟩, fun j hj => ?_, ?_, fun r hr => Or.inl ?_, fun j hj => ?_⟩
  · rw [mF_0 (k := 81) (by decide) f1]; decide
  · rw [mF_r (by decide), ck0_e h5 k hk]; decide
  · rw [show 20 * 9 + 2 = 182 from rfl, e182]; decide
  · rw [show 20 * 9 + 2 = 182 from rfl, e182, show 9 + 2 = 11 from rfl, i1]; decide
  · rw [show 9 + 2 = 11 from rfl, i1]; decide
  · rw [show 20 * 9 + 2 = 182 from rfl, e182] at hk
    rw [mF_A (by decide), mF_A (by decide)]
    exact ckW_e w9 k (by omega)
  · rw [mF_A (by decide), mF_A (by decide)]
    exact ckW_e w1 k hk
  · rw [mF_A (by decide), mF_A (by decide)]
    exact ckW_e w12 k hk
  · rw [show 20 * 36 + 2 = 722 from rfl, e722]; exact f3.1
  · rw [show 20 * 36 + 2 = 722 from rfl, e722]; exact f3.2
  · rw [show 20 * 36 + 2 = 722 from rfl, e722] at hk
    rw [mF_A (by decide), mF_A (by decide)]
    exact ckW_e w36 k (by omega)
  · rw [mF_A (by decide), mF_A (by decide), ck0_e h40 j hj, ck0_e h41 j hj]; decide
  · rw [mF_0 (k := 9) (by decide) f4]; decide
  · rw [mF_19]; decide
  · rw [mF_64] at hj
    have := (o64_e h64).2 j hj
    omega
theorem mF_INV (st : STA (mFo x)) (h10 : FI x 0 10 = 0) (hG : FI x 47 2 = 0 ∧ FI x 47 10 = 0 ∧ FI x 47 13 = 0 ∧ FI x 47 15 = 0 ∧ FI x 47 16 = 0) : INVc (mFo x) := by
  obtain ⟨g1, g2, g3, g4, g5⟩ := hG
  have e2 := mF_0 (x := x) (k := 942) (by decide) g1
  have e50 := mF_0 (x := x) (k := 950) (by decide) g2
  have e53 := mF_0 (x := x) (k := 953) (by decide) g3
  have e55 := mF_0 (x := x) (k := 955) (by decide) g4
  have e56 := mF_0 (x := x) (k := 956) (by decide) g5
  exact ⟨st, Or.inl ⟨mF_0 (k := 10) (by decide) h10, ⟨e2, by omega⟩, fun r hr => absurd hr (by omega), by omega, ⟨e55, by omega⟩, fun i hi => absurd hi (by omega), by omega, fun i hi => absurd hi (by omega)⟩⟩
theorem slT_0 {m : MS} : ∀ n, slT (fun _ => 0) m n = 0
  | 0 => rfl
  | n + 1 => by
    show slT (fun _ => 0) m n + (if (0 : Nat) = 0 then 0 else _) = 0
    rw [slT_0 n, if_pos rfl]
theorem mF_RP (sk : skB x = true) (wf : wfB x = true) (hn : x.1 = (57, 145838)) (h64 : FRc x 43 4 = none ∨ FRc x 43 4 = some 52 ∨ FRc x 43 4 = some 56) (hap : ∀ q, q < 24 → AP x 48 q = none) : RP none (fun _ => 0) (mFo x) x := by
  have nm : ∀ q, ¬ MD (fun _ => 0) q := fun q h => h.2 rfl
  refine ⟨⟨sk, fun i k hi hk => ?_, rfl, fun i hi => (mF_r (by omega)).symm, fun i hi => rfl, ?_, fun j hj => ?_⟩, wf, fun q e => (by cases e), ⟨fun q hq => ?_, fun q hq => ?_⟩, ⟨fun q k r l a => absurd a (nm q), fun q k a => absurd a (nm q)⟩, ⟨fun q k a => absurd a (nm q), fun q r a => absurd a (nm q)⟩, ⟨?_, ?_, fun q k a => absurd a (nm q)⟩⟩
  · have h1 : (20 * i + k) / 20 = i := by omega
    have h2 : (20 * i + k) % 20 = k := by omega
    unfold mFo
    show FI x i k = if 20 * i + k = 1964 then _ else FI x ((20 * i + k) / 20) ((20 * i + k) % 20)
    rw [if_neg (by omega), h1, h2]
  · rw [mF_64]
    exact (o64_e h64).1
  · rw [mF_64] at hj
    exact (o64_e h64).2 j hj
  · rw [hap q hq]; rfl
  · rw [mF_19]; rfl
  · rw [hn, slT_0]
  · rw [hn]; decide
end
theorem INVc_0 : INVc (mFo xH15) := mF_INV (mF_STA s_w9 s_w36 s_w1 s_w12 s_40 s_41 s_5 s_F xH15_64) s_F.2.2.2.2 s_G
theorem RP_0 : RP none (fun _ => 0) (mFo xH15) xH15 := mF_RP xH15_sk xH15_wf xH15_n xH15_64 xH15_ap
end
