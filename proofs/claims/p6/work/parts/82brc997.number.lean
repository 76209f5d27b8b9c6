set_option maxRecDepth 100000
theorem j_int {a : Nat} (h : a < 4611686018427387904) : (Int64.ofNat a).toInt = (a : Int) := Int64.toInt_ofNat_of_lt (by omega)
theorem j_lt {a b : Nat} (ha : a < 4611686018427387904) (hb : b < 4611686018427387904) : (Int64.ofNat a < Int64.ofNat b) ↔ a < b := by
  rw [Int64.lt_iff_toInt_lt, j_int ha, j_int hb]
  omega
theorem j_add {a b : Nat} : Int64.ofNat a + Int64.ofNat b = Int64.ofNat (a + b) := (Int64.ofNat_add a b).symm
theorem j_mul {a b : Nat} : Int64.ofNat a * Int64.ofNat b = Int64.ofNat (a * b) := (Int64.ofNat_mul a b).symm
theorem j_sub {a b : Nat} (h : b ≤ a) : Int64.ofNat a - Int64.ofNat b = Int64.ofNat (a - b) := by
  have e : Int64.ofNat a = Int64.ofNat (a - b) + Int64.ofNat b := by rw [j_add]; congr 1; omega
  rw [e, Int64.add_sub_cancel]
theorem i_j {m : Nat} (h : m < 2147483648) : (Int32.ofNat m).toInt64 = Int64.ofNat m := by
  apply Int64.toInt_inj.mp
  rw [Int32.toInt_toInt64, j_int (by omega), Int32.toInt_ofNat_of_lt (by omega)]
theorem dg_nat {x : Int32} (h : isDg x = true) : ∃ d, d < 10 ∧ x = Int32.ofNat (48 + d) := by
  unfold isDg at h
  simp only [Bool.and_eq_true, Bool.not_eq_true', decide_eq_false_iff_not] at h
  obtain ⟨h1, h2⟩ := h
  have h0 : ¬ x < 0 := fun z => h1 (Int32.lt_trans z (by decide))
  obtain ⟨m, hm, rfl⟩ := q_pos h0
  have a1 : 48 ≤ m := Nat.le_of_not_lt (fun z => h1 ((q_lt (a := m) (b := 48) hm (by decide)).mpr z))
  have a2 : m ≤ 57 := Nat.le_of_not_lt (fun z => h2 ((q_lt (a := 57) (b := m) (by decide) hm).mpr z))
  exact ⟨m - 48, by omega, by congr 1; omega⟩
def dgt (x : Int32) : Nat := x.toNatClampNeg - 48
def stn (n : Nat) : Nat := if 2147483648 < n then 2147483648 else n
def ndg (g : Nat → Int32) (k : Nat) : Nat → Nat → Nat → Nat × Nat
  | 0, p, n => (p, n)
  | m + 1, p, n => if k ≤ p then (p, n) else if isDg (g p) = false then (p, n) else ndg g k m (p + 1) (stn (n * 10 + dgt (g p)))
theorem stn_le (n : Nat) : stn n ≤ 2147483648 := by unfold stn; split <;> omega
theorem n68 {N : Nat} {G G2 : CS → Nat → Int64 → Option (CS × Int32)} {u : CS} {v : Int64} : fb_To_number_68 N G u 4 v = fb_To_number_68 N G2 u 4 v := rfl
def S9 (j : Nat) : Prop := j = 9
theorem num_loop {N k : Nat} {G0 : CS → Nat → Int64 → Option (CS × Int32)} (hk4 : k ≤ 4000) : ∀ (m p n : Nat) (u : CS) (F : Nat), skB u = true → FI u 4 1 = Int32.ofNat k → FI u 4 9 = Int32.ofNat p → p + m = k + 1 → n ≤ 2147483648 → ∃ u2, skB u2 = true ∧ Fr4 S9 u u2 ∧ FI u2 4 9 = Int32.ofNat (ndg (AI u 5) k m p n).1 ∧ gg_To_number N (F + m + 1) u 4 (Int64.ofNat n) = fb_To_number_68 N G0 u2 4 (Int64.ofNat (ndg (AI u 5) k m p n).2) := by
  intro m
  induction m with
  | zero =>
    intro p n u F hs hk h9 hp hn
    refine ⟨u, hs, Fr4.rf, h9, ?_⟩
    show fb_To_number_2 N (gg_To_number N (F + 0)) u 4 _ = _
    generalize gg_To_number N (F + 0) = G
    unfold fb_To_number_2
    rw [gi_4_9 hs, q_bo, gi_4_1 hs, q_bo, h9, hk, decide_eq_true ((q_le (a := k) (b := p) (by omega) (by omega)).mpr (by omega)), q_b1]
    exact n68
  | succ m ih =>
    intro p n u F hs hk h9 hp hn
    by_cases hkp : k ≤ p
    · have e0 : ndg (AI u 5) k (m + 1) p n = (p, n) := if_pos hkp
      rw [e0]
      refine ⟨u, hs, Fr4.rf, h9, ?_⟩
      show fb_To_number_2 N (gg_To_number N (F + (m + 1))) u 4 _ = _
      generalize gg_To_number N (F + (m + 1)) = G
      unfold fb_To_number_2
      rw [gi_4_9 hs, q_bo, gi_4_1 hs, q_bo, h9, hk, decide_eq_true ((q_le (a := k) (b := p) (by omega) (by omega)).mpr hkp), q_b1]
      exact n68
    · have ek : decide (Int32.ofNat k ≤ Int32.ofNat p) = false := decide_eq_false (fun z => hkp ((q_le (a := k) (b := p) (by omega) (by omega)).mp z))
      by_cases hd : isDg (AI u 5 p) = false
      · have e0 : ndg (AI u 5) k (m + 1) p n = (p, n) := by
          show (if k ≤ p then _ else if isDg (AI u 5 p) = false then _ else _) = _
          rw [if_neg hkp, if_pos hd]
        rw [e0]
        refine ⟨u, hs, Fr4.rf, h9, ?_⟩
        show fb_To_number_2 N (gg_To_number N (F + (m + 1))) u 4 _ = _
        generalize gg_To_number N (F + (m + 1)) = G
        unfold fb_To_number_2
        rw [gi_4_9 hs, q_bo, gi_4_1 hs, q_bo, h9, hk, ek, q_b0, gr_4_0 hs, q_bo, q_bo, q_bo, ai_5 hs, if_pos (q_inb (by omega) (by decide)), q_bo, q_nat (by omega), dgC, q_bx, b2i_0, hd]
        exact n68
      · have hd1 : isDg (AI u 5 p) = true := by cases h : isDg (AI u 5 p) with
          | true => rfl
          | false => exact absurd h hd
        have e0 : ndg (AI u 5) k (m + 1) p n = ndg (AI u 5) k m (p + 1) (stn (n * 10 + dgt (AI u 5 p))) := by
          show (if k ≤ p then _ else if isDg (AI u 5 p) = false then _ else _) = _
          rw [if_neg hkp, if_neg hd]
        obtain ⟨d, hd9, hx⟩ := dg_nat hd1
        have ed : dgt (AI u 5 p) = d := by unfold dgt; rw [hx, q_nat (by omega)]; omega
        have ev : Int64.ofNat n * 10 + (AI u 5 p).toInt64 - 48 = Int64.ofNat (n * 10 + d) := by
          rw [hx, i_j (by omega), show (10 : Int64) = Int64.ofNat 10 from rfl, show (48 : Int64) = Int64.ofNat 48 from rfl, j_mul, j_add, j_sub (by omega)]
          congr 1
          omega
        have ey : (if (2147483648 : Int64) < Int64.ofNat (n * 10 + d) then (2147483648 : Int64) else Int64.ofNat (n * 10 + d)) = Int64.ofNat (stn (n * 10 + d)) := by
          have : ((2147483648 : Int64) < Int64.ofNat (n * 10 + d)) ↔ 2147483648 < n * 10 + d := j_lt (a := 2147483648) (b := n * 10 + d) (by decide) (by omega)
          unfold stn
          by_cases h : 2147483648 < n * 10 + d
          · rw [if_pos h, if_pos (this.mpr h)]; rfl
          · rw [if_neg h, if_neg (fun z => h (this.mp z))]
        have s1 := sf_4_9 (v := Int32.ofNat (p + 1)) hs
        obtain ⟨u2, i1, i2, i3, i4⟩ := ih (p + 1) (stn (n * 10 + d)) (uF u 4 9 (.inl (Int32.ofNat (p + 1)))) F s1 (by rw [FI_F (by decide)]; exact hk) (fi_4_9 hs) (by omega) (stn_le _)
        rw [AI_F] at i3 i4
        rw [e0, ed]
        refine ⟨u2, i1, (Fr4.one (S := S9) (k := 9) rfl).tr i2, i3, ?_⟩
        rw [← i4]
        show fb_To_number_2 N (gg_To_number N (F + m + 1)) u 4 _ = _
        generalize gg_To_number N (F + m + 1) = G
        unfold fb_To_number_2
        rw [gi_4_9 hs, q_bo, gi_4_1 hs, q_bo, h9, hk, ek, q_b0, gr_4_0 hs, q_bo, q_bo, q_bo, ai_5 hs, if_pos (q_inb (by omega) (by decide)), q_bo, q_nat (by omega), dgC, q_bx, b2i_0, hd1]
        show br false _ _ = _
        rw [q_b0]
        simp only [gr_4_0 hs, gi_4_9 hs, q_bo, h9, ai_5 hs, q_inb (show p < 4000 by omega) (by decide), if_true, q_nat (show p < 2147483648 by omega), ev, ey, q_ls, q_suc, pf_4_9 hs]
