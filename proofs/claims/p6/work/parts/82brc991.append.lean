set_option maxRecDepth 100000
theorem q_b0 {α : Type} {x y : α} : br false x y = y := rfl
theorem q_b1 {α : Type} {x y : α} : br true x y = x := rfl
theorem upA_self {u : MS} {k : Nat} {g : Nat → Int32} : (upA u k g).2.2.1 k = g := by
  show (if k = k then g else _) = g
  rw [if_pos rfl]
theorem upA_ne {u : MS} {k j : Nat} {g : Nat → Int32} (h : j ≠ k) : (upA u k g).2.2.1 j = u.2.2.1 j := by
  show (if j = k then g else u.2.2.1 j) = _
  rw [if_neg h]
theorem upA_1 {u : MS} {k : Nat} {g : Nat → Int32} : (upA u k g).1 = u.1 := rfl
theorem upA_upA {u : MS} {k : Nat} {g g2 : Nat → Int32} : upA (upA u k g) k g2 = upA u k g2 := by
  unfold upA
  congr 3
  funext j
  by_cases h : j = k <;> simp [h]
def put (sg tx : Nat → Int32) (fn b m : Nat) : Nat → Int32 := fun j => if fn ≤ j ∧ j < fn + m then tx (b + (j - fn)) else sg j
theorem put_0 {sg tx : Nat → Int32} {fn b : Nat} : put sg tx fn b 0 = sg := by
  funext j
  unfold put
  rw [if_neg (by omega)]
theorem put_s {sg tx : Nat → Int32} {fn b m : Nat} : upd (put sg tx fn b m) (fn + m) (tx (b + m)) = put sg tx fn b (m + 1) := by
  funext j
  by_cases h : j = fn + m
  · subst h
    simp only [upd, if_true]
    unfold put
    rw [if_pos (by omega), show fn + m - fn = m from by omega]
  · simp only [upd, h, if_false]
    unfold put
    by_cases h2 : fn ≤ j ∧ j < fn + m
    · rw [if_pos h2, if_pos (by omega)]
    · rw [if_neg h2, if_neg (by omega)]
def nrB (x : Int32) : Int32 := vp_nar .byte x
def nwT (u : MS) (v0 v1 v3 fn n b len : Nat) : MS := upA (upA u v0 (put (u.2.2.1 v0) (fun j => nrB (u.2.2.1 v3 j)) fn b len)) v1 (upd (u.2.2.1 v1) (n + 1) (Int32.ofNat (fn + len)))
section TXA
variable {u : MS} {v0 v1 v3 n N b len : Nat} {fr : Nat → Nat}
theorem tx_app (h : WT3 u v0 v1 v3 fr n) (hb : b + len ≤ ln v3) (hf : fr n + len ≤ ln v0) (h01 : v1 ≠ v0) (h03 : v3 ≠ v0) : ∀ (m i k : Nat), i + m = len → (gg_M_textOf N (k + m + 1)).2.2 (upA u v0 (put (u.2.2.1 v0) (fun j => nrB (u.2.2.1 v3 j)) (fr n) b i)) v0 v1 (Int32.ofNat n) v3 (Int32.ofNat b) (Int32.ofNat len) (Int32.ofNat i) = some (nwT u v0 v1 v3 (fr n) n b len, Int32.ofNat n) := by
  obtain ⟨h1, h2, h3, h4, h5, h6, h7, h8, h9, h10⟩ := h
  intro m
  induction m with
  | zero =>
    intro i k hi
    have e2 : decide (Int32.ofNat len ≤ Int32.ofNat i) = true := decide_eq_true ((q_le (by omega) (by omega)).mpr (by omega))
    have e5 : inb (Int32.ofNat n) (ln v1) = true := q_inb (by omega) (by omega)
    have e6 : inb (Int32.ofNat (n + 1)) (ln v1) = true := q_inb (by omega) (by omega)
    show fb_M_textOf_96 N (gg_M_textOf N (k + 0)) _ v0 v1 _ v3 _ _ _ = _
    unfold fb_M_textOf_96
    rw [e2, q_ck h2, q_ck e5, q_ck h2, q_suc, q_ck e6, upA_ne h01, q_nat (by omega), q_nat (by omega), h4 n (Nat.le_refl _), q_add, show i = len from by omega]
    rfl
  | succ m ih =>
    intro i k hi
    have e2 : decide (Int32.ofNat len ≤ Int32.ofNat i) = false := decide_eq_false (fun z => absurd ((q_le (by omega) (by omega)).mp z) (by omega))
    have e5 : inb (Int32.ofNat n) (ln v1) = true := q_inb (by omega) (by omega)
    have e6 : inb (Int32.ofNat (b + i)) (ln v3) = true := q_inb (by omega) (by omega)
    have e7 : inb (Int32.ofNat (fr n + i)) (ln v0) = true := q_inb (by omega) (by omega)
    have i1 := ih (i + 1) k (by omega)
    show fb_M_textOf_96 N (gg_M_textOf N (k + (m + 1))) _ v0 v1 _ v3 _ _ _ = _
    unfold fb_M_textOf_96
    rw [e2, q_b0, q_ck h2, q_ck e5, q_ck h3, q_add, q_ck e6, q_ck h1, upA_ne h01, upA_ne h03, upA_self, q_nat (k := n) (by omega), q_nat (k := b + i) (by omega), h4 n (Nat.le_refl _), q_add, q_ck e7, q_nat (k := fr n + i) (by omega), q_suc, upA_upA]
    have e8 := put_s (sg := u.2.2.1 v0) (tx := fun j => nrB (u.2.2.1 v3 j)) (fn := fr n) (b := b) (m := i)
    rw [← e8] at i1
    exact i1
theorem tx_ok (h : WT3 u v0 v1 v3 fr n) (hb : b + len ≤ ln v3) (hf : fr n + len ≤ ln v0) (h01 : v1 ≠ v0) (h03 : v3 ≠ v0) (hN : n * (len + 3) + len + 3 ≤ N) : fm_M_textOf N u v0 v1 (Int32.ofNat n) v3 (Int32.ofNat b) (Int32.ofNat len) = match skN (u.2.2.1 v0) (u.2.2.1 v3) fr b len 0 n with
    | some x => some (u, Int32.ofNat x)
    | none => some (nwT u v0 v1 v3 (fr n) n b len, Int32.ofNat n) := by
  have e1 : fm_M_textOf N u v0 v1 (Int32.ofNat n) v3 (Int32.ofNat b) (Int32.ofNat len) = (gg_M_textOf N N).1 u v0 v1 (Int32.ofNat n) v3 (Int32.ofNat b) (Int32.ofNat len) (Int32.ofNat 0) := rfl
  rw [e1]
  rcases tx_out (N := N) h hb n 0 N (by omega) hN with ⟨x, a1, a2⟩ | ⟨a1, F, a2, a3⟩
  · rw [a1]; exact a2
  · rw [a1, a3]
    have a4 := tx_app (N := N) h hb hf h01 h03 len 0 (F - (len + 1)) (by omega)
    rw [put_0, show F - (len + 1) + len + 1 = F from by omega] at a4
    have e3 : upA u v0 (u.2.2.1 v0) = u := by
      unfold upA
      have : (fun j => if j = v0 then u.2.2.1 v0 else u.2.2.1 j) = u.2.2.1 := by
        funext j
        by_cases hj : j = v0
        · rw [if_pos hj, hj]
        · rw [if_neg hj]
      rw [this]
    rw [e3] at a4
    exact a4
end TXA
