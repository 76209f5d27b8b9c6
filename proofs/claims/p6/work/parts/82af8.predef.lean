def pst (k : Nat) : Nat := [0, 6, 13, 19, 27, 34, 43, 49, 55, 61, 68, 75, 82, 87, 93, 101, 108, 115, 120, 131, 140, 149, 159, 167, 179, 187, 191, 195, 203, 212, 218].getD k 0
def plen (k : Nat) : Nat := [4, 5, 4, 6, 5, 7, 4, 4, 4, 5, 5, 5, 3, 4, 6, 5, 5, 3, 9, 7, 7, 8, 6, 10, 6, 2, 2, 6, 7, 4].getD k 0
def TBL (w : MS) : Prop := ∀ k, k < 30 → A w 2 (pst k) = ((npre k : Nat) : Int) ∧ A w 2 (pst k + 1) = ((plen k : Nat) : Int)
theorem pst_f : ∀ k, k < 30 → pst (k + 1) = pst k + plen k + 2 ∧ pst (k + 1) ≤ 218 ∧ plen k ≤ 10 ∧ npre k ≤ 2 := by decide
theorem pst_30 : pst 30 = 218 := rfl
section
variable {Q : MS → Int32 → Prop} {u : MS} {N : Nat} {a : Int} {v2 : Int32}
def PDQ (u : MS) (v2 : Int32) (v : MS) (r : Int32) : Prop := v = u ∧ (r = -1 ∨ ∃ k : Nat, k < 30 ∧ r = I k ∧ v2 = I (npre k))
theorem pd_inner (ha : 0 ≤ a ∧ a < 2199) (h13 : 0 ≤ A u 13 a.toNat ∧ A u 13 a.toNat ≤ A u 13 (a.toNat + 1) ∧ A u 13 (a.toNat + 1) ≤ 5000) {k : Nat} (hk : k < 30) {m0 : Nat} (hO : ∀ m, m0 ≤ m → OK (PDQ u v2) ((gg_M_predefinedOf N m).1 u (I a) v2 (I (pst (k + 1))) (I ((k + 1 : Nat) : Int)))) : ∀ (d i : Nat) (s : Int32), i + d = plen k → (s = 0 ∨ (s = 1 ∧ v2 = I (npre k) ∧ A u 13 (a.toNat + 1) - A u 13 a.toNat = plen k)) → ∀ m, m0 + d + 1 ≤ m → OK (PDQ u v2) ((gg_M_predefinedOf N m).2 u (I a) v2 (I (pst k)) (I k) (I (plen k)) s (I i)) := by
  have pf := pst_f k hk
  have e1 : I (pst k) + (I (plen k) + 2) = I (pst (k + 1)) := by rw [show (2 : Int32) = I 2 from rfl, I_add, I_add]; congr 1; omega
  have e2 : I (k : Int) + 1 = I ((k + 1 : Nat) : Int) := by rw [lit1q, I_add]; rfl
  have f117 : ∀ (s : Int32) (m : Nat), m0 ≤ m → (s = 0 ∨ (s = 1 ∧ v2 = I (npre k))) → OK (PDQ u v2) (fb_M_predefinedOf_117 N (gg_M_predefinedOf N m) u (I a) v2 (I (pst k)) (I k) (I (plen k)) s) := fun s m hm hs => by
    unfold fb_M_predefinedOf_117
    rcases hs with hs | ⟨hs, h2⟩
    · rw [hs, br00, e1, e2]; exact hO m hm
    · rw [hs, br10]; exact ok_some.mpr ⟨rfl, Or.inr ⟨k, hk, rfl, h2⟩⟩
  intro d
  induction d with
  | zero =>
    intro i s hi hs m hm
    obtain ⟨m', rfl⟩ : ∃ m', m = m' + 1 := ⟨m - 1, by omega⟩
    show OK _ (fb_M_predefinedOf_64 N (gg_M_predefinedOf N m') u (I a) v2 (I (pst k)) (I k) (I (plen k)) s (I i))
    unfold fb_M_predefinedOf_64
    refine k_le (x := (plen k : Int)) (y := (i : Int)) ⟨by omega, by omega⟩ ⟨by omega, by omega⟩ (fun _ => f117 s m' (by omega) ?_) (fun y => by omega)
    rcases hs with hs | hs
    · exact Or.inl hs
    · exact Or.inr ⟨hs.1, hs.2.1⟩
  | succ d ih =>
    intro i s hi hs m hm
    obtain ⟨m', rfl⟩ : ∃ m', m = m' + 1 := ⟨m - 1, by omega⟩
    show OK _ (fb_M_predefinedOf_64 N (gg_M_predefinedOf N m') u (I a) v2 (I (pst k)) (I k) (I (plen k)) s (I i))
    unfold fb_M_predefinedOf_64
    refine k_le (x := (plen k : Int)) (y := (i : Int)) ⟨by omega, by omega⟩ ⟨by omega, by omega⟩ (fun y => by omega) (fun _ => ?_)
    rcases hs with hs | ⟨hs, h2, h3⟩
    · rw [hs, br00]; exact f117 0 m' (by omega) (Or.inl rfl)
    · rw [hs, br10]
      have e3 : I (pst k) + 2 + I i = I ((pst k : Int) + 2 + i) := by rw [show (2 : Int32) = I 2 from rfl, I_add, I_add]
      have e4 : u.2.2.1 13 (I a).toNatClampNeg + I i = I (A u 13 a.toNat + i) := by
        rw [I_tn (by omega) (by omega), I_A, I_add]
      have e5 : I (i : Int) + 1 = I ((i + 1 : Nat) : Int) := by rw [lit1q, I_add]; rfl
      rw [e3, e4]
      refine k_in (k := 2) (n := 218) rfl (by decide) (by omega) (k_in (k := 13) (n := 2200) rfl (by decide) (by omega) (k_in (k := 12) (n := 5000) rfl (by decide) (by omega) (ok_br.mpr ⟨fun _ => ?_, fun _ => ?_⟩)))
      · unfold fb_M_predefinedOf_109
        rw [e5]
        exact ih (i + 1) 1 (by omega) (Or.inr ⟨rfl, h2, h3⟩) m' (by omega)
      · unfold fb_M_predefinedOf_109
        rw [e5]
        exact ih (i + 1) 0 (by omega) (Or.inl rfl) m' (by omega)
theorem pd_outer (tb : TBL u) (ha : 0 ≤ a ∧ a < 2199) (h13 : 0 ≤ A u 13 a.toNat ∧ A u 13 a.toNat ≤ A u 13 (a.toNat + 1) ∧ A u 13 (a.toNat + 1) ≤ 5000) : ∀ (d k : Nat), k + d = 30 → ∀ m, 20 * d + 1 ≤ m → OK (PDQ u v2) ((gg_M_predefinedOf N m).1 u (I a) v2 (I (pst k)) (I k)) := by
  intro d
  induction d with
  | zero =>
    intro k hk m hm
    obtain ⟨m', rfl⟩ : ∃ m', m = m' + 1 := ⟨m - 1, by omega⟩
    obtain rfl : k = 30 := by omega
    show OK _ (fb_M_predefinedOf_5 N (gg_M_predefinedOf N m') u (I a) v2 (I (pst 30)) (I (30 : Nat)))
    unfold fb_M_predefinedOf_5
    exact ok_some.mpr ⟨rfl, Or.inl rfl⟩
  | succ d ih =>
    intro k hk m hm
    obtain ⟨m', rfl⟩ : ∃ m', m = m' + 1 := ⟨m - 1, by omega⟩
    have hk3 : k < 30 := by omega
    have pf := pst_f k hk3
    have t := tb k hk3
    show OK _ (fb_M_predefinedOf_5 N (gg_M_predefinedOf N m') u (I a) v2 (I (pst k)) (I k))
    unfold fb_M_predefinedOf_5
    have e0 : Int32.ofNat (ln 2) = I 218 := rfl
    have e1 : I (pst k) + 1 = I ((pst k + 1 : Nat) : Int) := by rw [lit1q, I_add]; rfl
    have e2 : I a + 1 = I (a + 1) := by rw [lit1q, I_add]
    rw [e0, e1, e2]
    refine k_le (x := 218) (y := (pst k : Int)) ⟨by decide, by decide⟩ ⟨by omega, by omega⟩ (fun y => by omega) (fun _ => ?_)
    refine k_in (k := 2) (n := 218) rfl (by decide) (by omega) (ok_lt.mpr (k_in (k := 2) (n := 218) rfl (by decide) (by omega) ?_))
    have y1 : u.2.2.1 2 (I ((pst k + 1 : Nat) : Int)).toNatClampNeg = I (plen k) := by
      rw [I_tn (by omega) (by omega), show ((pst k + 1 : Nat) : Int).toNat = pst k + 1 by omega]; exact I_A' t.2
    have y0 : u.2.2.1 2 (I ((pst k : Nat) : Int)).toNatClampNeg = I (npre k) := by
      rw [I_tn (by omega) (by omega), show ((pst k : Nat) : Int).toNat = pst k by omega]; exact I_A' t.1
    rw [y1, y0]
    have inn : ∀ s : Int32, (s = 0 ∨ (s = 1 ∧ v2 = I (npre k) ∧ A u 13 (a.toNat + 1) - A u 13 a.toNat = plen k)) → OK (PDQ u v2) ((gg_M_predefinedOf N m').2 u (I a) v2 (I (pst k)) (I k) (I (plen k)) s (I (0 : Nat))) := fun s hs => pd_inner ha h13 hk3 (m0 := 20 * d + 1) (fun m hm => ih (k + 1) (by omega) m hm) (plen k) 0 s (by omega) hs m' (by omega)
    refine ok_br.mpr ⟨fun h => ?_, fun _ => inn 0 (Or.inl rfl)⟩
    have h2 : v2 = I (npre k) := (of_decide_eq_true h).symm
    refine k_in (k := 13) (n := 2200) rfl (by decide) (by omega) (k_in (k := 13) (n := 2200) rfl (by decide) (by omega) ?_)
    have e4 : u.2.2.1 13 (I (a + 1)).toNatClampNeg - u.2.2.1 13 (I a).toNatClampNeg = I (A u 13 (a.toNat + 1) - A u 13 a.toNat) := by
      rw [I_tn (x := a + 1) (by omega) (by omega), I_tn (x := a) (by omega) (by omega), show (a + 1).toNat = a.toNat + 1 by omega, I_A (i := a.toNat + 1), I_A (i := a.toNat), I_sub]
    rw [e4]
    have r1 := ARG1 u 13 (a.toNat + 1)
    have r2 := ARG1 u 13 a.toNat
    unfold RG at r1 r2
    by_cases z : A u 13 (a.toNat + 1) - A u 13 a.toNat = plen k
    · rw [z, decide_eq_true rfl, br_tq]
      exact inn 1 (Or.inr ⟨rfl, h2, z⟩)
    · rw [decE (by omega) (by omega) (by omega) (by omega), decide_eq_false z, br_fq]
      exact inn 0 (Or.inl rfl)
theorem predefinedOf_ok (hN : 1000 ≤ N) (tb : TBL u) (at' : ATM u) (ha : 0 ≤ a ∧ a < F u 14) : OK (PDQ u v2) (fm_M_predefinedOf N u (I a) v2) := by
  unfold fm_M_predefinedOf fb_M_predefinedOf_0
  obtain ⟨a1, a2, a3⟩ := at'
  have h := a3 a.toNat (by omega)
  exact pd_outer tb ⟨ha.1, by omega⟩ h 30 0 rfl N (by omega)
end
