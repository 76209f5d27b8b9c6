def I (x : Int) : Int32 := Int32.ofInt x
theorem I_add {x y : Int} : I x + I y = I (x + y) := (Int32.ofInt_add x y).symm
theorem I_sub {x y : Int} : I x - I y = I (x - y) := (Int32.ofInt_sub x y).symm
theorem I_mul {x y : Int} : I x * I y = I (x * y) := (Int32.ofInt_mul x y).symm
theorem I_neg {x : Int} : -I x = I (-x) := (Int32.ofInt_neg x).symm
theorem I_lit {n : Nat} : (OfNat.ofNat n : Int32) = I (OfNat.ofNat n) := (Int32.ofInt_eq_ofNat (n := n)).symm
theorem I_ti {x : Int} (h1 : -2147483648 ≤ x) (h2 : x < 2147483648) : (I x).toInt = x := Int32.toInt_ofInt_of_le h1 h2
theorem I_of (v : Int32) : v = I v.toInt := (Int32.ofInt_toInt v).symm
theorem I_lt {x y : Int} (h1 : -2147483648 ≤ x) (h2 : x < 2147483648) (h3 : -2147483648 ≤ y) (h4 : y < 2147483648) : I x < I y ↔ x < y := by rw [Int32.lt_iff_toInt_lt, I_ti h1 h2, I_ti h3 h4]
theorem I_le {x y : Int} (h1 : -2147483648 ≤ x) (h2 : x < 2147483648) (h3 : -2147483648 ≤ y) (h4 : y < 2147483648) : I x ≤ I y ↔ x ≤ y := by rw [Int32.le_iff_toInt_le, I_ti h1 h2, I_ti h3 h4]
theorem I_eq {x y : Int} (h1 : -2147483648 ≤ x) (h2 : x < 2147483648) (h3 : -2147483648 ≤ y) (h4 : y < 2147483648) : I x = I y ↔ x = y := by rw [← Int32.toInt_inj, I_ti h1 h2, I_ti h3 h4]
theorem I_tn {x : Int} (h1 : -2147483648 ≤ x) (h2 : x < 2147483648) : (I x).toNatClampNeg = x.toNat := by
  show (I x).toInt.toNat = _
  rw [I_ti h1 h2]
theorem I_inb {x : Int} {n : Nat} (h1 : -2147483648 ≤ x) (h2 : x < 2147483648) : inb (I x) n = true ↔ 0 ≤ x ∧ x < n := by
  unfold inb
  rw [decide_eq_true_iff, I_tn h1 h2, I_lit (n := 0), I_lt h1 h2 (by decide) (by decide)]
  have : (OfNat.ofNat 0 : Int) = 0 := rfl
  omega
theorem ti_rng (v : Int32) : -2147483648 ≤ v.toInt ∧ v.toInt < 2147483648 := ⟨Int32.le_toInt v, Int32.toInt_lt v⟩
