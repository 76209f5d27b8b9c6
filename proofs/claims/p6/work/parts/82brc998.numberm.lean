set_option maxRecDepth 100000
theorem cmp_gt {n : Nat} (hn : n < 4611686018427387904) : decide (0 < lg_cmp (Int64.ofNat n) 2147483647) = decide (2147483647 < n) := by
  have h1 : ((2147483647 : Int64) < Int64.ofNat n) ↔ 2147483647 < n := j_lt (a := 2147483647) (b := n) (by decide) hn
  have h2 : (Int64.ofNat n < (2147483647 : Int64)) ↔ n < 2147483647 := j_lt (a := n) (b := 2147483647) hn (by decide)
  unfold lg_cmp
  by_cases a : 2147483647 < n
  · have b1 := h1.mpr a
    have b2 : ¬ Int64.ofNat n < 2147483647 := fun z => absurd (h2.mp z) (by omega)
    rw [decide_eq_true a]
    simp [b1, b2]
  · have b1 : ¬ (2147483647 : Int64) < Int64.ofNat n := fun z => a (h1.mp z)
    rw [decide_eq_false a]
    refine decide_eq_false (fun z => ?_)
    rw [if_neg b1] at z
    split at z <;> exact absurd z (by decide)
theorem cmp_le {n : Nat} (hn : n < 4611686018427387904) : decide (lg_cmp (Int64.ofNat n) 2147483647 ≤ 0) = decide (n ≤ 2147483647) := by
  have h := cmp_gt hn
  by_cases a : 2147483647 < n
  · rw [decide_eq_true a] at h
    rw [decide_eq_false (show ¬ n ≤ 2147483647 by omega)]
    exact decide_eq_false (fun z => absurd (of_decide_eq_true h) (Int32.not_lt.mpr z))
  · rw [decide_eq_false a] at h
    rw [decide_eq_true (show n ≤ 2147483647 by omega)]
    exact decide_eq_true (Int32.not_lt.mp (of_decide_eq_false h))
def ndM (g : Nat → Int32) (k : Nat) : Nat → Nat → Nat → Nat × Nat
  | 0, p, n => (p, n)
  | m + 1, p, n => if k ≤ p then (p, n) else if isDg (g p) = false then (p, n) else ndM g k m (p + 1) (if n ≤ 2147483647 then n * 10 + dgt (g p) else n)
def Rn (a b : Nat) : Prop := (a = b ∧ b ≤ 2147483647) ∨ (2147483647 < a ∧ b = 2147483648)
theorem ndM_eq {f g : Nat → Int32} {k : Nat} (hfg : ∀ j, j < k → f j = g j) : ∀ (m p a b : Nat), Rn a b → (ndM f k m p a).1 = (ndg g k m p b).1 ∧ Rn (ndM f k m p a).2 (ndg g k m p b).2 := by
  intro m
  induction m with
  | zero => intro p a b h; exact ⟨rfl, h⟩
  | succ m ih =>
    intro p a b h
    show (if k ≤ p then (p, a) else if isDg (f p) = false then (p, a) else ndM f k m (p + 1) (if a ≤ 2147483647 then a * 10 + dgt (f p) else a)).1 = (if k ≤ p then (p, b) else if isDg (g p) = false then (p, b) else ndg g k m (p + 1) (stn (b * 10 + dgt (g p)))).1 ∧ Rn (if k ≤ p then (p, a) else if isDg (f p) = false then (p, a) else ndM f k m (p + 1) (if a ≤ 2147483647 then a * 10 + dgt (f p) else a)).2 (if k ≤ p then (p, b) else if isDg (g p) = false then (p, b) else ndg g k m (p + 1) (stn (b * 10 + dgt (g p)))).2
    by_cases hk : k ≤ p
    · rw [if_pos hk, if_pos hk]; exact ⟨rfl, h⟩
    · rw [if_neg hk, if_neg hk, hfg p (by omega)]
      by_cases hd : isDg (g p) = false
      · rw [if_pos hd, if_pos hd]; exact ⟨rfl, h⟩
      · rw [if_neg hd, if_neg hd]
        refine ih (p + 1) _ _ ?_
        unfold Rn at h ⊢
        unfold stn
        rcases h with ⟨rfl, h2⟩ | ⟨h1, rfl⟩
        · rw [if_pos h2]
          split <;> omega
        · rw [if_neg (by omega)]
          split <;> omega
def finM (N : Nat) (w : MS) (v : Int64) : Option (MS × Unit) := br (decide (0 < (lg_cmp v 2147483647))) (fb_M_numberToken_84 N (fun _ _ => none) w v) (bnd (fm_M_byteAt N w (w.1 10)) (fun u5 r5 => bnd (fm_M_isInner N u5 r5) (fun u6 r6 => br (decide (r6 = 0)) (fb_M_numberToken_90 N (fun _ _ => none) u6 v 4) (fb_M_numberToken_84 N (fun _ _ => none) u6 v))))
theorem numM_loop {N k : Nat} {w : MS} (hk : w.1 5 = Int32.ofNat k) (hk4 : k ≤ 4000) (hB : bytB (w.2.2.1 4)) : ∀ (m p n F : Nat), p + m = k + 1 → n < 100000000000 → gg_M_numberToken N (F + m + 1) (upI w 10 (Int32.ofNat p)) (Int64.ofNat n) = finM N (upI w 10 (Int32.ofNat (ndM (w.2.2.1 4) k m p n).1)) (Int64.ofNat (ndM (w.2.2.1 4) k m p n).2) := by
  intro m
  induction m with
  | zero =>
    intro p n F hp hn
    have e1 := atM (N := N) (w := upI w 10 (Int32.ofNat p)) (k := k) (p := p) hk hk4 (by omega)
    have e2 : sgA ((upI w 10 (Int32.ofNat p)).2.2.1 4) k p = -1 := by unfold sgA; rw [if_neg (by omega)]
    show fb_M_numberToken_2 N (gg_M_numberToken N (F + 0)) _ _ = _
    generalize gg_M_numberToken N (F + 0) = G
    unfold fb_M_numberToken_2
    rw [show (upI w 10 (Int32.ofNat p)).1 10 = Int32.ofNat p from rfl, e1, q_bn, e2, dgM, q_bn, b2i_0]
    rfl
  | succ m ih =>
    intro p n F hp hn
    have e1 := atM (N := N) (w := upI w 10 (Int32.ofNat p)) (k := k) (p := p) hk hk4 (by omega)
    by_cases hkp : k ≤ p
    · have e0 : ndM (w.2.2.1 4) k (m + 1) p n = (p, n) := if_pos hkp
      have e2 : sgA ((upI w 10 (Int32.ofNat p)).2.2.1 4) k p = -1 := by unfold sgA; rw [if_neg (by omega)]
      rw [e0]
      show fb_M_numberToken_2 N (gg_M_numberToken N (F + (m + 1))) _ _ = _
      generalize gg_M_numberToken N (F + (m + 1)) = G
      unfold fb_M_numberToken_2
      rw [show (upI w 10 (Int32.ofNat p)).1 10 = Int32.ofNat p from rfl, e1, q_bn, e2, dgM, q_bn, b2i_0]
      rfl
    · have e2 : sgA ((upI w 10 (Int32.ofNat p)).2.2.1 4) k p = w.2.2.1 4 p &&& 255 := by unfold sgA; rw [if_pos (by omega)]; rfl
      have hx := hB p (by omega)
      by_cases hd : isDg (w.2.2.1 4 p) = false
      · have e0 : ndM (w.2.2.1 4) k (m + 1) p n = (p, n) := by
          show (if k ≤ p then _ else if isDg (w.2.2.1 4 p) = false then _ else _) = _
          rw [if_neg hkp, if_pos hd]
        rw [e0]
        show fb_M_numberToken_2 N (gg_M_numberToken N (F + (m + 1))) _ _ = _
        generalize gg_M_numberToken N (F + (m + 1)) = G
        unfold fb_M_numberToken_2
        rw [show (upI w 10 (Int32.ofNat p)).1 10 = Int32.ofNat p from rfl, e1, q_bn, e2, dgM, q_bn, b2i_0, d_and hx, hd]
        rfl
      · have hd1 : isDg (w.2.2.1 4 p) = true := by cases h : isDg (w.2.2.1 4 p) with
          | true => rfl
          | false => exact absurd h hd
        have e0 : ndM (w.2.2.1 4) k (m + 1) p n = ndM (w.2.2.1 4) k m (p + 1) (if n ≤ 2147483647 then n * 10 + dgt (w.2.2.1 4 p) else n) := by
          show (if k ≤ p then _ else if isDg (w.2.2.1 4 p) = false then _ else _) = _
          rw [if_neg hkp, if_neg hd]
        obtain ⟨d, hd9, hxd⟩ := dg_nat hd1
        have ed : dgt (w.2.2.1 4 p) = d := by unfold dgt; rw [hxd, q_nat (by omega)]; omega
        have ea : w.2.2.1 4 p &&& 255 = Int32.ofNat (48 + d) := by
          rw [hxd]
          have : ∀ d, d < 10 → Int32.ofNat (48 + d) &&& 255 = Int32.ofNat (48 + d) := by decide +kernel
          exact this d hd9
        have ev : 10 * Int64.ofNat n + (Int32.ofNat (48 + d)).toInt64 - 48 = Int64.ofNat (n * 10 + d) := by
          rw [i_j (by omega), show (10 : Int64) = Int64.ofNat 10 from rfl, show (48 : Int64) = Int64.ofNat 48 from rfl, j_mul, j_add, j_sub (by omega)]
          congr 1
          omega
        have i1 := ih (p + 1) (if n ≤ 2147483647 then n * 10 + d else n) F (by omega) (by split <;> omega)
        rw [e0, ed, ← i1]
        show fb_M_numberToken_2 N (gg_M_numberToken N (F + m + 1)) _ _ = _
        generalize gg_M_numberToken N (F + m + 1) = G
        have e47 : ∀ t, fb_M_numberToken_47 N G (upI w 10 (Int32.ofNat p)) t = G (upI w 10 (Int32.ofNat (p + 1))) t := fun t => by
          unfold fb_M_numberToken_47
          rw [q_ls]
          show G (upI (upI w 10 (Int32.ofNat p)) 10 (Int32.ofNat p + 1)) t = _
          rw [q_suc]
          congr 1
          unfold upI
          congr 1
          funext j
          by_cases h1 : j = 10 <;> simp [h1]
        unfold fb_M_numberToken_2
        rw [show (upI w 10 (Int32.ofNat p)).1 10 = Int32.ofNat p from rfl, e1, q_bn, e2, dgM, q_bn, b2i_0, d_and hx, hd1]
        show br (decide (lg_cmp (Int64.ofNat n) 2147483647 ≤ 0)) (bnd (fm_M_byteAt N (upI w 10 (Int32.ofNat p)) (Int32.ofNat p)) _) _ = _
        rw [cmp_le (by omega), e1, q_bn, e2, ea, ev, e47, e47]
        by_cases hn9 : n ≤ 2147483647
        · rw [decide_eq_true hn9, q_b1, if_pos hn9]
        · rw [decide_eq_false hn9, q_b0, if_neg hn9]
