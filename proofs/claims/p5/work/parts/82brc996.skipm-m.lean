section
set_option maxRecDepth 100000
def sPL (w : MS) (p l : Nat) : MS := upI (upI w 11 (Int32.ofNat l)) 10 (Int32.ofNat p)
theorem sPL_10 {w : MS} {p l : Nat} : (sPL w p l).1 10 = Int32.ofNat p := rfl
theorem sPL_11 {w : MS} {p l : Nat} : (sPL w p l).1 11 = Int32.ofNat l := rfl
theorem sPL_ne {w : MS} {p l j : Nat} (h1 : j ≠ 10) (h2 : j ≠ 11) : (sPL w p l).1 j = w.1 j := by
  show (if j = 10 then _ else if j = 11 then _ else w.1 j) = _
  rw [if_neg h1, if_neg h2]
theorem upI_sw {w : MS} {p l p2 l2 : Nat} : upI (upI (sPL w p l) 11 (Int32.ofNat l2)) 10 (Int32.ofNat p2) = sPL w p2 l2 := by
  unfold sPL upI
  congr 1
  funext j
  by_cases h1 : j = 10
  · simp [h1]
  · by_cases h2 : j = 11 <;> simp [h1, h2]
theorem upI_sp {w : MS} {p l p2 : Nat} : upI (sPL w p l) 10 (Int32.ofNat p2) = sPL w p2 l := by
  unfold sPL upI
  congr 1
  funext j
  by_cases h1 : j = 10 <;> simp [h1]
theorem z_and {x : Int32} (hx : nrB x = x) : (decide (x &&& 255 = 10) = decide (x = 10)) ∧ (decide (x &&& 255 = 9) = decide (x = 9)) ∧ (decide (x &&& 255 = 32) = decide (x = 32)) ∧ (decide (x &&& 255 = 37) = decide (x = 37)) := by
  have h := sg_all (fun x => (decide (x &&& 255 = 10) == decide (x = 10)) && ((decide (x &&& 255 = 9) == decide (x = 9)) && ((decide (x &&& 255 = 32) == decide (x = 32)) && (decide (x &&& 255 = 37) == decide (x = 37))))) (by decide +kernel) hx
  simp only [Bool.and_eq_true, beq_iff_eq] at h
  exact ⟨h.1, h.2.1, h.2.2.1, h.2.2.2⟩
def opn (w : MS) : Prop := w.1 9 = 0 ∨ (¬ w.1 9 = 0 ∧ inb (w.1 9 - 1) (ln 6) = true ∧ w.2.2.1 6 (w.1 9 - 1).toNatClampNeg ≠ 7)
theorem rt_19 {N k p l F : Nat} {w : MS} (ho : opn w) (hk : w.1 5 = Int32.ofNat k) (hk4 : k ≤ 4000) (hp : p < k) : (gg_M_readTokens N (F + 1)).1 (sPL w p l) = fb_M_readTokens_53 N (gg_M_readTokens N F) (sPL w p l) := by
  show fb_M_readTokens_19 N (gg_M_readTokens N F) (sPL w p l) = _
  generalize gg_M_readTokens N F = G
  unfold fb_M_readTokens_19
  rw [sPL_10, sPL_ne (j := 5) (by decide) (by decide), sPL_ne (j := 9) (by decide) (by decide), hk, decide_eq_false (fun z => absurd ((q_le (a := k) (b := p) (by omega) (by omega)).mp z) (by omega)), q_b0]
  rcases ho with h | ⟨h1, h2, h3⟩
  · rw [decide_eq_true h, q_b1]
  · rw [decide_eq_false h1, q_b0, q_ck h2]
    show br (decide (w.2.2.1 6 (w.1 9 - 1).toNatClampNeg = 7)) _ _ = _
    rw [decide_eq_false h3, q_b0]
theorem skM {N k : Nat} {w : MS} (ho : opn w) (hk : w.1 5 = Int32.ofNat k) (hk4 : k ≤ 4000) (hB : bytB (w.2.2.1 4)) : ∀ (m p l F : Nat), p ≤ k → p + m = k + 1 → 3 * m ≤ F →
    (∃ F2, F ≤ F2 + 3 * m ∧ (gg_M_readTokens N F).1 (sPL w p l) = (gg_M_readTokens N F2).1 (sPL w (skp (w.2.2.1 4) k m p l false).1 (skp (w.2.2.1 4) k m p l false).2)) ∧
    (∃ F2, F ≤ F2 + 3 * m ∧ (gg_M_readTokens N F).2 (sPL w p l) = (gg_M_readTokens N F2).1 (sPL w (skp (w.2.2.1 4) k m p l true).1 (skp (w.2.2.1 4) k m p l true).2)) := by
  intro m
  induction m with
  | zero => intro p l F h1 h2 _; omega
  | succ m ih =>
    intro p l F hpk hm hF
    have e122 : ∀ F1, (gg_M_readTokens N (F1 + 1)).2 (sPL w p l) = fb_M_readTokens_122 N (gg_M_readTokens N F1) (sPL w p l) := fun F1 => rfl
    by_cases hkp : k ≤ p
    · have e0 : ∀ cm, skp (w.2.2.1 4) k (m + 1) p l cm = (p, l) := fun cm => if_pos hkp
      rw [e0, e0]
      refine ⟨⟨F, by omega, rfl⟩, ?_⟩
      obtain ⟨F1, rfl⟩ : ∃ F1, F = F1 + 1 := ⟨F - 1, by omega⟩
      refine ⟨F1, by omega, ?_⟩
      rw [e122]
      unfold fb_M_readTokens_122
      rw [sPL_10, sPL_ne (j := 5) (by decide) (by decide), hk, decide_eq_true ((q_le (a := k) (b := p) (by omega) (by omega)).mpr hkp), q_b1]
      rfl
    · have hpl : p < k := by omega
      have hx := hB p (by omega)
      obtain ⟨z1, z2, z3, z4⟩ := z_and hx
      have eb : ∀ F1 : Nat, fm_M_byteAt N (sPL w p l) (Int32.ofNat p) = some (sPL w p l, w.2.2.1 4 p &&& 255) := fun F1 => by
        have := atM (N := N) (w := sPL w p l) (k := k) (p := p) hk hk4 (by omega)
        rw [this]
        show some (_, sgA (w.2.2.1 4) k p) = _
        unfold sgA
        rw [if_pos hpl]
      have ek : decide (Int32.ofNat k ≤ Int32.ofNat p) = false := decide_eq_false (fun z => hkp ((q_le (a := k) (b := p) (by omega) (by omega)).mp z))
      have bl : ∀ F1, w.2.2.1 4 p = 10 ∨ w.2.2.1 4 p = 9 ∨ w.2.2.1 4 p = 32 → (gg_M_readTokens N (F1 + 1)).1 (sPL w p l) = (gg_M_readTokens N F1).1 (sPL w (p + 1) (if w.2.2.1 4 p = 10 then l + 1 else l)) := fun F1 hb => by
        rw [rt_19 ho hk hk4 hpl]
        generalize gg_M_readTokens N F1 = G
        have g80 : fb_M_readTokens_80 N G (sPL w p l) (w.2.2.1 4 p &&& 255) = G.1 (sPL w (p + 1) (if w.2.2.1 4 p = 10 then l + 1 else l)) := by
          have g100 : ∀ l2, fb_M_readTokens_100 N G (sPL w p l) (Int32.ofNat l2) = G.1 (sPL w (p + 1) l2) := fun l2 => by
            unfold fb_M_readTokens_100
            rw [q_ls, q_ls]
            show G.1 (upI (upI (sPL w p l) 11 (Int32.ofNat l2)) 10 (Int32.ofNat p + 1)) = _
            rw [q_suc, upI_sw]
          unfold fb_M_readTokens_80
          rw [z1, sPL_11]
          by_cases hc : w.2.2.1 4 p = 10
          · rw [decide_eq_true hc, q_b1, if_pos hc, q_suc]; exact g100 (l + 1)
          · rw [decide_eq_false hc, q_b0, if_neg hc]; exact g100 l
        unfold fb_M_readTokens_53
        rw [sPL_10, eb 0, q_bn, z1, z2, z3]
        by_cases h1 : w.2.2.1 4 p = 10
        · rw [decide_eq_true h1, q_b1]; exact g80
        · rw [decide_eq_false h1, q_b0]
          by_cases h2 : w.2.2.1 4 p = 9
          · rw [decide_eq_true h2, q_b1]; exact g80
          · rw [decide_eq_false h2, q_b0]
            have h3 : w.2.2.1 4 p = 32 := by rcases hb with h | h | h; exact absurd h h1; exact absurd h h2; exact h
            rw [decide_eq_true h3, q_b1]; exact g80
      have cmt : ∀ F1, w.2.2.1 4 p ≠ 10 → (gg_M_readTokens N (F1 + 1)).2 (sPL w p l) = (gg_M_readTokens N F1).2 (sPL w (p + 1) l) := fun F1 h1 => by
        rw [e122]
        generalize gg_M_readTokens N F1 = G
        unfold fb_M_readTokens_122
        rw [sPL_10, sPL_ne (j := 5) (by decide) (by decide), hk, ek, q_b0, eb 0, q_bn, z1, decide_eq_false h1, q_b0, q_ls]
        show G.2 (upI (sPL w p l) 10 (Int32.ofNat p + 1)) = _
        rw [q_suc, upI_sp]
      have skd : ∀ cm, skp (w.2.2.1 4) k (m + 1) p l cm = if (!decide (w.2.2.1 4 p = 10) && (cm || decide (w.2.2.1 4 p = 37))) = false ∧ w.2.2.1 4 p ≠ 9 ∧ w.2.2.1 4 p ≠ 10 ∧ w.2.2.1 4 p ≠ 32 then (p, l) else skp (w.2.2.1 4) k m (p + 1) (if w.2.2.1 4 p = 10 then l + 1 else l) (!decide (w.2.2.1 4 p = 10) && (cm || decide (w.2.2.1 4 p = 37))) := fun cm => if_neg hkp
      obtain ⟨F1, rfl⟩ : ∃ F1, F = F1 + 1 + 1 := ⟨F - 2, by omega⟩
      refine ⟨?_, ?_⟩
      · rw [skd]
        by_cases hb : w.2.2.1 4 p = 10 ∨ w.2.2.1 4 p = 9 ∨ w.2.2.1 4 p = 32
        · have hb3 : ¬ w.2.2.1 4 p = 37 := by rcases hb with h | h | h <;> (rw [h]; decide)
          rw [if_neg (fun z => by rcases hb with h | h | h; exact z.2.2.1 h; exact z.2.1 h; exact z.2.2.2 h), bl (F1 + 1) hb, decide_eq_false hb3, Bool.or_false, Bool.and_false]
          obtain ⟨⟨F2, a1, a2⟩, -⟩ := ih (p + 1) (if w.2.2.1 4 p = 10 then l + 1 else l) (F1 + 1) (by omega) (by omega) (by omega)
          exact ⟨F2, by omega, a2⟩
        · have h1 : ¬ w.2.2.1 4 p = 10 := fun h => hb (Or.inl h)
          have h2 : ¬ w.2.2.1 4 p = 9 := fun h => hb (Or.inr (Or.inl h))
          have h3 : ¬ w.2.2.1 4 p = 32 := fun h => hb (Or.inr (Or.inr h))
          by_cases h37 : w.2.2.1 4 p = 37
          · rw [if_neg (fun z => by have := z.1; rw [decide_eq_false h1, decide_eq_true h37] at this; cases this), decide_eq_false h1, decide_eq_true h37, if_neg h1]
            have e1 : (gg_M_readTokens N (F1 + 1 + 1)).1 (sPL w p l) = (gg_M_readTokens N (F1 + 1)).2 (sPL w p l) := by
              rw [rt_19 ho hk hk4 hpl]
              generalize gg_M_readTokens N (F1 + 1) = G
              unfold fb_M_readTokens_53
              rw [sPL_10, eb 0, q_bn, z1, z2, z3, z4, decide_eq_false h1, q_b0, decide_eq_false h2, q_b0, decide_eq_false h3, q_b0, decide_eq_true h37, q_b1]
            rw [e1, cmt F1 h1]
            obtain ⟨-, F2, a1, a2⟩ := ih (p + 1) l F1 (by omega) (by omega) (by omega)
            exact ⟨F2, by omega, a2⟩
          · rw [if_pos ⟨by rw [decide_eq_false h37]; cases decide (w.2.2.1 4 p = 10) <;> rfl, h2, h1, h3⟩]
            exact ⟨F1 + 1 + 1, by omega, rfl⟩
      · rw [skd]
        by_cases h1 : w.2.2.1 4 p = 10
        · rw [if_neg (fun z => z.2.2.1 h1), decide_eq_true h1]
          have e1 : (gg_M_readTokens N (F1 + 1 + 1)).2 (sPL w p l) = (gg_M_readTokens N (F1 + 1)).1 (sPL w p l) := by
            rw [e122]
            generalize gg_M_readTokens N (F1 + 1) = G
            unfold fb_M_readTokens_122
            rw [sPL_10, sPL_ne (j := 5) (by decide) (by decide), hk, ek, q_b0, eb 0, q_bn, z1, decide_eq_true h1, q_b1]
            rfl
          rw [e1, bl F1 (Or.inl h1)]
          obtain ⟨⟨F2, a1, a2⟩, -⟩ := ih (p + 1) (if w.2.2.1 4 p = 10 then l + 1 else l) F1 (by omega) (by omega) (by omega)
          exact ⟨F2, by omega, a2⟩
        · rw [if_neg (fun z => by have := z.1; rw [decide_eq_false h1] at this; cases this), decide_eq_false h1, if_neg h1, cmt (F1 + 1) h1]
          obtain ⟨-, F2, a1, a2⟩ := ih (p + 1) l (F1 + 1) (by omega) (by omega) (by omega)
          exact ⟨F2, by omega, a2⟩
end
section
set_option maxRecDepth 100000
theorem j_int {a : Nat} (h : a < 4611686018427387904) : (Int64.ofNat a).toInt = (a : Int) := Int64.toInt_ofNat_of_lt (by omega)
theorem j_lt {a b : Nat} (ha : a < 4611686018427387904) (hb : b < 4611686018427387904) : (Int64.ofNat a < Int64.ofNat b) ↔ a < b := by
  rw [Int64.lt_iff_toInt_lt, j_int ha, j_int hb]
  omega
theorem j_add {a b : Nat} : Int64.ofNat a + Int64.ofNat b = Int64.ofNat (a + b) := (Int64.ofNat_add a b).symm
theorem j_mul {a b : Nat} : Int64.ofNat a * Int64.ofNat b = Int64.ofNat (a * b) := (Int64.ofNat_mul a b).symm
theorem j_sub {a b : Nat} (h : b ≤ a) : Int64.ofNat a - Int64.ofNat b = Int64.ofNat (a - b) := by
  have e : Int64.ofNat a = Int64.ofNat (a - b) + Int64.ofNat b := by rw [j_add]; congr 1; omega
  rw [e, Int64.add_sub_cancel]
theorem i_j {m : Nat} (h : m < 2147483648) : (Int32.ofNat m).toInt64 = Int64.ofNat m := by
  apply Int64.toInt_inj.mp
  rw [Int32.toInt_toInt64, j_int (by omega), Int32.toInt_ofNat_of_lt (by omega)]
theorem dg_nat {x : Int32} (h : isDg x = true) : ∃ d, d < 10 ∧ x = Int32.ofNat (48 + d) := by
  unfold isDg at h
  simp only [Bool.and_eq_true, Bool.not_eq_true', decide_eq_false_iff_not] at h
  obtain ⟨h1, h2⟩ := h
  have h0 : ¬ x < 0 := fun z => h1 (Int32.lt_trans z (by decide))
  obtain ⟨m, hm, rfl⟩ := q_pos h0
  have a1 : 48 ≤ m := Nat.le_of_not_lt (fun z => h1 ((q_lt (a := m) (b := 48) hm (by decide)).mpr z))
  have a2 : m ≤ 57 := Nat.le_of_not_lt (fun z => h2 ((q_lt (a := 57) (b := m) (by decide) hm).mpr z))
  exact ⟨m - 48, by omega, by congr 1; omega⟩
def dgt (x : Int32) : Nat := x.toNatClampNeg - 48
def stn (n : Nat) : Nat := if 2147483648 < n then 2147483648 else n
def ndg (g : Nat → Int32) (k : Nat) : Nat → Nat → Nat → Nat × Nat
  | 0, p, n => (p, n)
  | m + 1, p, n => if k ≤ p then (p, n) else if isDg (g p) = false then (p, n) else ndg g k m (p + 1) (stn (n * 10 + dgt (g p)))
theorem stn_le (n : Nat) : stn n ≤ 2147483648 := by unfold stn; split <;> omega
theorem n68 {N : Nat} {G G2 : CS → Nat → Int64 → Option (CS × Int32)} {u : CS} {v : Int64} : fb_To_number_68 N G u 4 v = fb_To_number_68 N G2 u 4 v := rfl
def S9 (j : Nat) : Prop := j = 9
theorem num_loop {N k : Nat} {G0 : CS → Nat → Int64 → Option (CS × Int32)} (hk4 : k ≤ 4000) : ∀ (m p n : Nat) (u : CS) (F : Nat), skB u = true → FI u 4 1 = Int32.ofNat k → FI u 4 9 = Int32.ofNat p → p + m = k + 1 → n ≤ 2147483648 → ∃ u2, skB u2 = true ∧ Fr4 S9 u u2 ∧ FI u2 4 9 = Int32.ofNat (ndg (AI u 5) k m p n).1 ∧ gg_To_number N (F + m + 1) u 4 (Int64.ofNat n) = fb_To_number_68 N G0 u2 4 (Int64.ofNat (ndg (AI u 5) k m p n).2) := by
  intro m
  induction m with
  | zero =>
    intro p n u F hs hk h9 hp hn
    refine ⟨u, hs, Fr4.rf, h9, ?_⟩
    show fb_To_number_2 N (gg_To_number N (F + 0)) u 4 _ = _
    generalize gg_To_number N (F + 0) = G
    unfold fb_To_number_2
    rw [gi_4_9 hs, q_bo, gi_4_1 hs, q_bo, h9, hk, decide_eq_true ((q_le (a := k) (b := p) (by omega) (by omega)).mpr (by omega)), q_b1]
    exact n68
  | succ m ih =>
    intro p n u F hs hk h9 hp hn
    by_cases hkp : k ≤ p
    · have e0 : ndg (AI u 5) k (m + 1) p n = (p, n) := if_pos hkp
      rw [e0]
      refine ⟨u, hs, Fr4.rf, h9, ?_⟩
      show fb_To_number_2 N (gg_To_number N (F + (m + 1))) u 4 _ = _
      generalize gg_To_number N (F + (m + 1)) = G
      unfold fb_To_number_2
      rw [gi_4_9 hs, q_bo, gi_4_1 hs, q_bo, h9, hk, decide_eq_true ((q_le (a := k) (b := p) (by omega) (by omega)).mpr hkp), q_b1]
      exact n68
    · have ek : decide (Int32.ofNat k ≤ Int32.ofNat p) = false := decide_eq_false (fun z => hkp ((q_le (a := k) (b := p) (by omega) (by omega)).mp z))
      by_cases hd : isDg (AI u 5 p) = false
      · have e0 : ndg (AI u 5) k (m + 1) p n = (p, n) := by
          show (if k ≤ p then _ else if isDg (AI u 5 p) = false then _ else _) = _
          rw [if_neg hkp, if_pos hd]
        rw [e0]
        refine ⟨u, hs, Fr4.rf, h9, ?_⟩
        show fb_To_number_2 N (gg_To_number N (F + (m + 1))) u 4 _ = _
        generalize gg_To_number N (F + (m + 1)) = G
        unfold fb_To_number_2
        rw [gi_4_9 hs, q_bo, gi_4_1 hs, q_bo, h9, hk, ek, q_b0, gr_4_0 hs, q_bo, q_bo, q_bo, ai_5 hs, if_pos (q_inb (by omega) (by decide)), q_bo, q_nat (by omega), dgC, q_bx, b2i_0, hd]
        exact n68
      · have hd1 : isDg (AI u 5 p) = true := by cases h : isDg (AI u 5 p) with
          | true => rfl
          | false => exact absurd h hd
        have e0 : ndg (AI u 5) k (m + 1) p n = ndg (AI u 5) k m (p + 1) (stn (n * 10 + dgt (AI u 5 p))) := by
          show (if k ≤ p then _ else if isDg (AI u 5 p) = false then _ else _) = _
          rw [if_neg hkp, if_neg hd]
        obtain ⟨d, hd9, hx⟩ := dg_nat hd1
        have ed : dgt (AI u 5 p) = d := by unfold dgt; rw [hx, q_nat (by omega)]; omega
        have ev : Int64.ofNat n * 10 + (AI u 5 p).toInt64 - 48 = Int64.ofNat (n * 10 + d) := by
          rw [hx, i_j (by omega), show (10 : Int64) = Int64.ofNat 10 from rfl, show (48 : Int64) = Int64.ofNat 48 from rfl, j_mul, j_add, j_sub (by omega)]
          congr 1
          omega
        have ey : (if (2147483648 : Int64) < Int64.ofNat (n * 10 + d) then (2147483648 : Int64) else Int64.ofNat (n * 10 + d)) = Int64.ofNat (stn (n * 10 + d)) := by
          have : ((2147483648 : Int64) < Int64.ofNat (n * 10 + d)) ↔ 2147483648 < n * 10 + d := j_lt (a := 2147483648) (b := n * 10 + d) (by decide) (by omega)
          unfold stn
          by_cases h : 2147483648 < n * 10 + d
          · rw [if_pos h, if_pos (this.mpr h)]; rfl
          · rw [if_neg h, if_neg (fun z => h (this.mp z))]
        have s1 := sf_4_9 (v := Int32.ofNat (p + 1)) hs
        obtain ⟨u2, i1, i2, i3, i4⟩ := ih (p + 1) (stn (n * 10 + d)) (uF u 4 9 (.inl (Int32.ofNat (p + 1)))) F s1 (by rw [FI_F (by decide)]; exact hk) (fi_4_9 hs) (by omega) (stn_le _)
        rw [AI_F] at i3 i4
        rw [e0, ed]
        refine ⟨u2, i1, (Fr4.one (S := S9) (k := 9) rfl).tr i2, i3, ?_⟩
        rw [← i4]
        show fb_To_number_2 N (gg_To_number N (F + m + 1)) u 4 _ = _
        generalize gg_To_number N (F + m + 1) = G
        unfold fb_To_number_2
        rw [gi_4_9 hs, q_bo, gi_4_1 hs, q_bo, h9, hk, ek, q_b0, gr_4_0 hs, q_bo, q_bo, q_bo, ai_5 hs, if_pos (q_inb (by omega) (by decide)), q_bo, q_nat (by omega), dgC, q_bx, b2i_0, hd1]
        show br false _ _ = _
        rw [q_b0]
        simp only [gr_4_0 hs, gi_4_9 hs, q_bo, h9, ai_5 hs, q_inb (show p < 4000 by omega) (by decide), if_true, q_nat (show p < 2147483648 by omega), ev, ey, q_ls, q_suc, pf_4_9 hs]
end
section
set_option maxRecDepth 100000
theorem cmp_gt {n : Nat} (hn : n < 4611686018427387904) : decide (0 < lg_cmp (Int64.ofNat n) 2147483647) = decide (2147483647 < n) := by
  have h1 : ((2147483647 : Int64) < Int64.ofNat n) ↔ 2147483647 < n := j_lt (a := 2147483647) (b := n) (by decide) hn
  have h2 : (Int64.ofNat n < (2147483647 : Int64)) ↔ n < 2147483647 := j_lt (a := n) (b := 2147483647) hn (by decide)
  unfold lg_cmp
  by_cases a : 2147483647 < n
  · have b1 := h1.mpr a
    have b2 : ¬ Int64.ofNat n < 2147483647 := fun z => absurd (h2.mp z) (by omega)
    rw [decide_eq_true a]
    simp [b1, b2]
  · have b1 : ¬ (2147483647 : Int64) < Int64.ofNat n := fun z => a (h1.mp z)
    rw [decide_eq_false a]
    refine decide_eq_false (fun z => ?_)
    rw [if_neg b1] at z
    split at z <;> exact absurd z (by decide)
theorem cmp_le {n : Nat} (hn : n < 4611686018427387904) : decide (lg_cmp (Int64.ofNat n) 2147483647 ≤ 0) = decide (n ≤ 2147483647) := by
  have h := cmp_gt hn
  by_cases a : 2147483647 < n
  · rw [decide_eq_true a] at h
    rw [decide_eq_false (show ¬ n ≤ 2147483647 by omega)]
    exact decide_eq_false (fun z => absurd (of_decide_eq_true h) (Int32.not_lt.mpr z))
  · rw [decide_eq_false a] at h
    rw [decide_eq_true (show n ≤ 2147483647 by omega)]
    exact decide_eq_true (Int32.not_lt.mp (of_decide_eq_false h))
def ndM (g : Nat → Int32) (k : Nat) : Nat → Nat → Nat → Nat × Nat
  | 0, p, n => (p, n)
  | m + 1, p, n => if k ≤ p then (p, n) else if isDg (g p) = false then (p, n) else ndM g k m (p + 1) (if n ≤ 2147483647 then n * 10 + dgt (g p) else n)
def Rn (a b : Nat) : Prop := (a = b ∧ b ≤ 2147483647) ∨ (2147483647 < a ∧ b = 2147483648)
theorem ndM_eq {f g : Nat → Int32} {k : Nat} (hfg : ∀ j, j < k → f j = g j) : ∀ (m p a b : Nat), Rn a b → (ndM f k m p a).1 = (ndg g k m p b).1 ∧ Rn (ndM f k m p a).2 (ndg g k m p b).2 := by
  intro m
  induction m with
  | zero => intro p a b h; exact ⟨rfl, h⟩
  | succ m ih =>
    intro p a b h
    show (if k ≤ p then (p, a) else if isDg (f p) = false then (p, a) else ndM f k m (p + 1) (if a ≤ 2147483647 then a * 10 + dgt (f p) else a)).1 = (if k ≤ p then (p, b) else if isDg (g p) = false then (p, b) else ndg g k m (p + 1) (stn (b * 10 + dgt (g p)))).1 ∧ Rn (if k ≤ p then (p, a) else if isDg (f p) = false then (p, a) else ndM f k m (p + 1) (if a ≤ 2147483647 then a * 10 + dgt (f p) else a)).2 (if k ≤ p then (p, b) else if isDg (g p) = false then (p, b) else ndg g k m (p + 1) (stn (b * 10 + dgt (g p)))).2
    by_cases hk : k ≤ p
    · rw [if_pos hk, if_pos hk]; exact ⟨rfl, h⟩
    · rw [if_neg hk, if_neg hk, hfg p (by omega)]
      by_cases hd : isDg (g p) = false
      · rw [if_pos hd, if_pos hd]; exact ⟨rfl, h⟩
      · rw [if_neg hd, if_neg hd]
        refine ih (p + 1) _ _ ?_
        unfold Rn at h ⊢
        unfold stn
        rcases h with ⟨rfl, h2⟩ | ⟨h1, rfl⟩
        · rw [if_pos h2]
          split <;> omega
        · rw [if_neg (by omega)]
          split <;> omega
def finM (N : Nat) (w : MS) (v : Int64) : Option (MS × Unit) := br (decide (0 < (lg_cmp v 2147483647))) (fb_M_numberToken_84 N (fun _ _ => none) w v) (bnd (fm_M_byteAt N w (w.1 10)) (fun u5 r5 => bnd (fm_M_isInner N u5 r5) (fun u6 r6 => br (decide (r6 = 0)) (fb_M_numberToken_90 N (fun _ _ => none) u6 v 4) (fb_M_numberToken_84 N (fun _ _ => none) u6 v))))
theorem numM_loop {N k : Nat} {w : MS} (hk : w.1 5 = Int32.ofNat k) (hk4 : k ≤ 4000) (hB : bytB (w.2.2.1 4)) : ∀ (m p n F : Nat), p + m = k + 1 → n < 100000000000 → gg_M_numberToken N (F + m + 1) (upI w 10 (Int32.ofNat p)) (Int64.ofNat n) = finM N (upI w 10 (Int32.ofNat (ndM (w.2.2.1 4) k m p n).1)) (Int64.ofNat (ndM (w.2.2.1 4) k m p n).2) := by
  intro m
  induction m with
  | zero =>
    intro p n F hp hn
    have e1 := atM (N := N) (w := upI w 10 (Int32.ofNat p)) (k := k) (p := p) hk hk4 (by omega)
    have e2 : sgA ((upI w 10 (Int32.ofNat p)).2.2.1 4) k p = -1 := by unfold sgA; rw [if_neg (by omega)]
    show fb_M_numberToken_2 N (gg_M_numberToken N (F + 0)) _ _ = _
    generalize gg_M_numberToken N (F + 0) = G
    unfold fb_M_numberToken_2
    rw [show (upI w 10 (Int32.ofNat p)).1 10 = Int32.ofNat p from rfl, e1, q_bn, e2, dgM, q_bn, b2i_0]
    rfl
  | succ m ih =>
    intro p n F hp hn
    have e1 := atM (N := N) (w := upI w 10 (Int32.ofNat p)) (k := k) (p := p) hk hk4 (by omega)
    by_cases hkp : k ≤ p
    · have e0 : ndM (w.2.2.1 4) k (m + 1) p n = (p, n) := if_pos hkp
      have e2 : sgA ((upI w 10 (Int32.ofNat p)).2.2.1 4) k p = -1 := by unfold sgA; rw [if_neg (by omega)]
      rw [e0]
      show fb_M_numberToken_2 N (gg_M_numberToken N (F + (m + 1))) _ _ = _
      generalize gg_M_numberToken N (F + (m + 1)) = G
      unfold fb_M_numberToken_2
      rw [show (upI w 10 (Int32.ofNat p)).1 10 = Int32.ofNat p from rfl, e1, q_bn, e2, dgM, q_bn, b2i_0]
      rfl
    · have e2 : sgA ((upI w 10 (Int32.ofNat p)).2.2.1 4) k p = w.2.2.1 4 p &&& 255 := by unfold sgA; rw [if_pos (by omega)]; rfl
      have hx := hB p (by omega)
      by_cases hd : isDg (w.2.2.1 4 p) = false
      · have e0 : ndM (w.2.2.1 4) k (m + 1) p n = (p, n) := by
          show (if k ≤ p then _ else if isDg (w.2.2.1 4 p) = false then _ else _) = _
          rw [if_neg hkp, if_pos hd]
        rw [e0]
        show fb_M_numberToken_2 N (gg_M_numberToken N (F + (m + 1))) _ _ = _
        generalize gg_M_numberToken N (F + (m + 1)) = G
        unfold fb_M_numberToken_2
        rw [show (upI w 10 (Int32.ofNat p)).1 10 = Int32.ofNat p from rfl, e1, q_bn, e2, dgM, q_bn, b2i_0, d_and hx, hd]
        rfl
      · have hd1 : isDg (w.2.2.1 4 p) = true := by cases h : isDg (w.2.2.1 4 p) with
          | true => rfl
          | false => exact absurd h hd
        have e0 : ndM (w.2.2.1 4) k (m + 1) p n = ndM (w.2.2.1 4) k m (p + 1) (if n ≤ 2147483647 then n * 10 + dgt (w.2.2.1 4 p) else n) := by
          show (if k ≤ p then _ else if isDg (w.2.2.1 4 p) = false then _ else _) = _
          rw [if_neg hkp, if_neg hd]
        obtain ⟨d, hd9, hxd⟩ := dg_nat hd1
        have ed : dgt (w.2.2.1 4 p) = d := by unfold dgt; rw [hxd, q_nat (by omega)]; omega
        have ea : w.2.2.1 4 p &&& 255 = Int32.ofNat (48 + d) := by
          rw [hxd]
          have : ∀ d, d < 10 → Int32.ofNat (48 + d) &&& 255 = Int32.ofNat (48 + d) := by decide +kernel
          exact this d hd9
        have ev : 10 * Int64.ofNat n + (Int32.ofNat (48 + d)).toInt64 - 48 = Int64.ofNat (n * 10 + d) := by
          rw [i_j (by omega), show (10 : Int64) = Int64.ofNat 10 from rfl, show (48 : Int64) = Int64.ofNat 48 from rfl, j_mul, j_add, j_sub (by omega)]
          congr 1
          omega
        have i1 := ih (p + 1) (if n ≤ 2147483647 then n * 10 + d else n) F (by omega) (by split <;> omega)
        rw [e0, ed, ← i1]
        show fb_M_numberToken_2 N (gg_M_numberToken N (F + m + 1)) _ _ = _
        generalize gg_M_numberToken N (F + m + 1) = G
        have e47 : ∀ t, fb_M_numberToken_47 N G (upI w 10 (Int32.ofNat p)) t = G (upI w 10 (Int32.ofNat (p + 1))) t := fun t => by
          unfold fb_M_numberToken_47
          rw [q_ls]
          show G (upI (upI w 10 (Int32.ofNat p)) 10 (Int32.ofNat p + 1)) t = _
          rw [q_suc]
          congr 1
          unfold upI
          congr 1
          funext j
          by_cases h1 : j = 10 <;> simp [h1]
        unfold fb_M_numberToken_2
        rw [show (upI w 10 (Int32.ofNat p)).1 10 = Int32.ofNat p from rfl, e1, q_bn, e2, dgM, q_bn, b2i_0, d_and hx, hd1]
        show br (decide (lg_cmp (Int64.ofNat n) 2147483647 ≤ 0)) (bnd (fm_M_byteAt N (upI w 10 (Int32.ofNat p)) (Int32.ofNat p)) _) _ = _
        rw [cmp_le (by omega), e1, q_bn, e2, ea, ev, e47, e47]
        by_cases hn9 : n ≤ 2147483647
        · rw [decide_eq_true hn9, q_b1, if_pos hn9]
        · rw [decide_eq_false hn9, q_b0, if_neg hn9]
end
section
set_option maxRecDepth 100000
def sts (g : Nat → Int32) (k : Nat) : Nat → Nat → Nat → Option Nat
  | 0, _, _ => none
  | m + 1, p, i => if sgA g k p = 34 then some i else if sgA g k p < 32 ∨ 126 < sgA g k p then none else sts g k m (p + 1) (i + 1)
theorem strC_loop {N k : Nat} (hk4 : k ≤ 4000) : ∀ (m p i : Nat) (u : CS) (F : Nat), skB u = true → FI u 4 1 = Int32.ofNat k → FI u 4 9 = Int32.ofNat p → i + m = 41 → p + m < 50000 → ∃ u2, gg_To_string N (F + m + 1) u 4 (Int32.ofNat i) = some (u2, if (sts (AI u 5) k m p i).isSome = true then 4 else 45) ∧ skB u2 = true ∧ Fr4 S9 u u2 ∧ ∀ len, sts (AI u 5) k m p i = some len → i ≤ len ∧ len ≤ 40 ∧ FI u2 4 9 = Int32.ofNat (p + (len - i) + 1) := by
  intro m
  induction m with
  | zero =>
    intro p i u F hs hk h9 hi hp
    refine ⟨u, ?_, hs, Fr4.rf, fun len h => by cases h⟩
    show fb_To_string_25 N (gg_To_string N (F + 0)) u 4 _ = _
    unfold fb_To_string_25
    rw [show decide ((40 : Int32) < Int32.ofNat i) = true from decide_eq_true ((q_lt (a := 40) (b := i) (by decide) (by omega)).mpr (by omega))]
    rfl
  | succ m ih =>
    intro p i u F hs hk h9 hi hp
    have s1 := sf_4_9 (v := Int32.ofNat (p + 1)) hs
    have key : ∀ G, fb_To_string_25 N G u 4 (Int32.ofNat i) = br (decide (sgA (AI u 5) k p = 34)) (some (uF u 4 9 (.inl (Int32.ofNat (p + 1))), 4)) (br (decide (sgA (AI u 5) k p < 32)) (some (uF u 4 9 (.inl (Int32.ofNat (p + 1))), 45)) (br (decide (sgA (AI u 5) k p ≤ 126)) (G (uF u 4 9 (.inl (Int32.ofNat (p + 1)))) 4 (Int32.ofNat (i + 1))) (some (uF u 4 9 (.inl (Int32.ofNat (p + 1))), 45)))) := fun G => by
      unfold fb_To_string_25
      rw [show decide ((40 : Int32) < Int32.ofNat i) = false from decide_eq_false (fun z => absurd ((q_lt (a := 40) (b := i) (by decide) (by omega)).mp z) (by omega)), q_b0, gi_4_9 hs, q_bo, q_ck (io_4 hs), h9, atC hs hk hk4 (by omega), q_bx, gi_4_9 hs, q_bo, h9, q_suc, pf_4_9 hs, q_bo, q_suc]
      rfl
    have hd : gg_To_string N (F + (m + 1) + 1) u 4 (Int32.ofNat i) = fb_To_string_25 N (gg_To_string N (F + m + 1)) u 4 (Int32.ofNat i) := rfl
    rw [hd, key]
    by_cases h1 : sgA (AI u 5) k p = 34
    · have e0 : sts (AI u 5) k (m + 1) p i = some i := if_pos h1
      rw [e0, decide_eq_true h1, q_b1]
      refine ⟨_, rfl, s1, Fr4.one rfl, fun len h => ?_⟩
      cases h
      refine ⟨Nat.le_refl _, by omega, ?_⟩
      rw [Nat.sub_self, Nat.add_zero]
      exact fi_4_9 hs
    · rw [decide_eq_false h1, q_b0]
      by_cases h2 : sgA (AI u 5) k p < 32
      · have e0 : sts (AI u 5) k (m + 1) p i = none := by
          show (if _ then _ else if _ then _ else _) = _
          rw [if_neg h1, if_pos (Or.inl h2)]
        rw [e0, decide_eq_true h2, q_b1]
        exact ⟨_, rfl, s1, Fr4.one rfl, fun len h => by cases h⟩
      · rw [decide_eq_false h2, q_b0]
        by_cases h3 : sgA (AI u 5) k p ≤ 126
        · have e0 : sts (AI u 5) k (m + 1) p i = sts (AI u 5) k m (p + 1) (i + 1) := by
            show (if _ then _ else if _ then _ else _) = _
            rw [if_neg h1, if_neg (fun z => by rcases z with z | z; exact h2 z; exact absurd h3 (Int32.not_le.mpr z))]
          rw [e0, decide_eq_true h3, q_b1]
          obtain ⟨u2, a1, a2, a3, a4⟩ := ih (p + 1) (i + 1) (uF u 4 9 (.inl (Int32.ofNat (p + 1)))) F s1 (by rw [FI_F (by decide)]; exact hk) (fi_4_9 hs) (by omega) (by omega)
          rw [AI_F] at a1 a4
          refine ⟨u2, a1, a2, (Fr4.one (S := S9) (k := 9) rfl).tr a3, fun len h => ?_⟩
          obtain ⟨b1, b2, b3⟩ := a4 len h
          refine ⟨by omega, b2, ?_⟩
          rw [b3]
          congr 1
          omega
        · have e0 : sts (AI u 5) k (m + 1) p i = none := by
            show (if _ then _ else if _ then _ else _) = _
            rw [if_neg h1, if_pos (Or.inr (Int32.not_le.mp h3))]
          rw [e0, decide_eq_false h3, q_b0]
          exact ⟨_, rfl, s1, Fr4.one rfl, fun len h => by cases h⟩
end
section
set_option maxRecDepth 100000
def stS (w : MS) (f0 b i : Nat) : MS := upI (upA w 18 (put (w.2.2.1 18) (w.2.2.1 4) f0 b i)) 10 (Int32.ofNat (b + i))
def finS (N : Nat) (w : MS) (i : Nat) (t : Int32) : Option (MS × Unit) := fb_M_stringToken_123 N (fun _ _ _ => none) (upI w 10 (w.1 10 + 1)) (Int32.ofNat i) t
theorem by8 {x : Int32} (hx : nrB x = x) : vp_nar .byte ((x &&& 255).toInt8.toInt32) = x := eq_of_beq (sg_all (fun x => vp_nar .byte ((x &&& 255).toInt8.toInt32) == x) (by decide +kernel) hx)
theorem strM_loop {N k s f0 b : Nat} {w : MS} (hk : w.1 5 = Int32.ofNat k) (hk4 : k ≤ 4000) (hB : bytB (w.2.2.1 4)) (hs : w.1 20 = Int32.ofNat s) (hs2 : s < 2002) (hf : w.2.2.1 19 s = Int32.ofNat f0) (hf2 : f0 ≤ b) (hb : b ≤ 4001) : ∀ (m i F : Nat), i + m = 41 → i ≤ 40 → ∃ j, j ≤ 40 ∧ gg_M_stringToken N (F + m + 2) (stS w f0 b i) (Int32.ofNat i) 1 = finS N (stS w f0 b j) j (if (sts (w.2.2.1 4) k m (b + i) i).isSome = true then 5 else 7) ∧ ∀ len, sts (w.2.2.1 4) k m (b + i) i = some len → len = j := by
  intro m
  induction m with
  | zero =>
    intro i F hi h4
    omega
  | succ m ih =>
    intro i F hi h4
    have eb := atM (N := N) (w := stS w f0 b i) (k := k) (p := b + i) hk hk4 (by omega)
    have eb : fm_M_byteAt N (stS w f0 b i) (Int32.ofNat (b + i)) = some (stS w f0 b i, sgA (w.2.2.1 4) k (b + i)) := eb
    have hd : ∀ v2, gg_M_stringToken N (F + (m + 1) + 2) (stS w f0 b i) (Int32.ofNat i) v2 = fb_M_stringToken_14 N (gg_M_stringToken N (F + m + 2)) (stS w f0 b i) (Int32.ofNat i) v2 := fun v2 => rfl
    have h102 : ∀ G, fb_M_stringToken_102 N G (stS w f0 b i) (Int32.ofNat i) 1 = finS N (stS w f0 b i) i 5 := fun G => rfl
    have h102z : ∀ G, fb_M_stringToken_102 N G (stS w f0 b i) (Int32.ofNat i) 0 = finS N (stS w f0 b i) i 7 := fun G => rfl
    have h62 : fb_M_stringToken_62 N (gg_M_stringToken N (F + m + 2)) (stS w f0 b i) (Int32.ofNat i) (sgA (w.2.2.1 4) k (b + i)) = finS N (stS w f0 b i) i 7 := by
      show gg_M_stringToken N (F + m + 1 + 1) (stS w f0 b i) (Int32.ofNat i) 0 = _
      show fb_M_stringToken_14 N (gg_M_stringToken N (F + m + 1)) (stS w f0 b i) (Int32.ofNat i) 0 = _
      generalize gg_M_stringToken N (F + m + 1) = G
      unfold fb_M_stringToken_14
      rw [show decide ((0 : Int32) = 0) = true from rfl, q_b1]
      exact h102z G
    rw [hd]
    unfold fb_M_stringToken_14
    rw [show decide ((1 : Int32) = 0) = false from rfl, q_b0, show (stS w f0 b i).1 10 = Int32.ofNat (b + i) from rfl, eb, q_bn, h102]
    by_cases h1 : sgA (w.2.2.1 4) k (b + i) = 34
    · have e0 : sts (w.2.2.1 4) k (m + 1) (b + i) i = some i := if_pos h1
      rw [e0, decide_eq_true h1, q_b1]
      exact ⟨i, by omega, rfl, fun len h => by cases h; rfl⟩
    · rw [decide_eq_false h1, q_b0]
      show ∃ j, j ≤ 40 ∧ bnd (fm_M_byteAt N (stS w f0 b i) (Int32.ofNat (b + i))) _ = _ ∧ _
      rw [eb, q_bn, h62]
      by_cases h2 : sgA (w.2.2.1 4) k (b + i) < 32
      · have e0 : sts (w.2.2.1 4) k (m + 1) (b + i) i = none := by
          show (if _ then _ else if _ then _ else _) = _
          rw [if_neg h1, if_pos (Or.inl h2)]
        rw [e0, decide_eq_true h2, q_b1]
        exact ⟨i, by omega, rfl, fun len h => by cases h⟩
      · rw [decide_eq_false h2, q_b0]
        by_cases h3 : 126 < sgA (w.2.2.1 4) k (b + i)
        · have e0 : sts (w.2.2.1 4) k (m + 1) (b + i) i = none := by
            show (if _ then _ else if _ then _ else _) = _
            rw [if_neg h1, if_pos (Or.inr h3)]
          rw [e0, decide_eq_true h3, q_b1]
          exact ⟨i, by omega, rfl, fun len h => by cases h⟩
        · have e0 : sts (w.2.2.1 4) k (m + 1) (b + i) i = sts (w.2.2.1 4) k m (b + i + 1) (i + 1) := by
            show (if _ then _ else if _ then _ else _) = _
            rw [if_neg h1, if_neg (fun z => by rcases z with z | z; exact h2 z; exact h3 z)]
          rw [e0, decide_eq_false h3, q_b0]
          by_cases h40 : 40 ≤ i
          · have em : m = 0 := by omega
            subst em
            rw [show decide ((40 : Int32) ≤ Int32.ofNat i) = true from decide_eq_true ((q_le (a := 40) (b := i) (by decide) (by omega)).mpr h40), q_b1]
            exact ⟨i, by omega, rfl, fun len h => by cases h⟩
          · rw [show decide ((40 : Int32) ≤ Int32.ofNat i) = false from decide_eq_false (fun z => h40 ((q_le (a := 40) (b := i) (by decide) (by omega)).mp z)), q_b0]
            have hpk : b + i < k := by
              refine Nat.lt_of_not_le (fun z => h2 ?_)
              unfold sgA
              rw [if_neg (by omega)]
              decide
            have es : sgA (w.2.2.1 4) k (b + i) = w.2.2.1 4 (b + i) &&& 255 := by unfold sgA; rw [if_pos hpk]
            obtain ⟨j, j1, j2, j3⟩ := ih (i + 1) F (by omega) (by omega)
            refine ⟨j, j1, ?_, j3⟩
            rw [show b + (i + 1) = b + i + 1 from by omega] at j2
            rw [← j2, es]
            generalize gg_M_stringToken N (F + m + 2) = G
            have e19 : (stS w f0 b i).2.2.1 19 ((stS w f0 b i).1 20).toNatClampNeg = Int32.ofNat f0 := by
              show w.2.2.1 19 (w.1 20).toNatClampNeg = _
              rw [hs, q_nat (by omega), hf]
            have e18 : (stS w f0 b i).2.2.1 18 = put (w.2.2.1 18) (w.2.2.1 4) f0 b i := upA_self (u := w) (k := 18)
            unfold fb_M_stringToken_63 fb_M_stringToken_99
            rw [show decide ((1 : Int32) = 0) = false from rfl, q_b0, show (stS w f0 b i).1 20 = Int32.ofNat s from hs, q_ck (q_inb (by show s < 2002; omega) (by decide)), q_nat (k := s) (by omega), show (stS w f0 b i).2.2.1 19 s = Int32.ofNat f0 from hf, q_add, q_ck (q_inb (by show f0 + i < 4002; omega) (by decide)), q_nat (k := f0 + i) (by omega), e18, by8 (hB _ (by omega)), put_s, q_ls, q_ls, q_suc]
            congr 1
            unfold stS
            show upI (upA (upI (upA w 18 _) 10 _) 18 _) 10 (Int32.ofNat (b + i) + 1) = _
            rw [q_suc]
            unfold upI upA
            congr 1
            · funext q
              by_cases hq : q = 10
              · simp [hq, show b + (i + 1) = b + i + 1 from by omega]
              · simp [hq]
            · congr 2
              funext q
              by_cases hq : q = 18 <;> simp [hq]
end
section
set_option maxRecDepth 100000
def by5 (i : Nat) : Int32 := (bytSt.getD 5 []).getD i 0
def by4 (i : Nat) : Int32 := (bytSt.getD 4 []).getD i 0
theorem ch5 {N : Nat} {u : CS} {i : Nat} (h : i < 18) : fm_JS_charAt N u 5 (Int32.ofNat i) = some (u, by5 i) := by
  rcases (show i = 0 ∨ i = 1 ∨ i = 2 ∨ i = 3 ∨ i = 4 ∨ i = 5 ∨ i = 6 ∨ i = 7 ∨ i = 8 ∨ i = 9 ∨ i = 10 ∨ i = 11 ∨ i = 12 ∨ i = 13 ∨ i = 14 ∨ i = 15 ∨ i = 16 ∨ i = 17 by omega) with rfl | rfl | rfl | rfl | rfl | rfl | rfl | rfl | rfl | rfl | rfl | rfl | rfl | rfl | rfl | rfl | rfl | rfl <;> rfl
theorem ch4 {N : Nat} {u : CS} {i : Nat} (h : i < 14) : fm_JS_charAt N u 4 (Int32.ofNat i) = some (u, by4 i) := by
  rcases (show i = 0 ∨ i = 1 ∨ i = 2 ∨ i = 3 ∨ i = 4 ∨ i = 5 ∨ i = 6 ∨ i = 7 ∨ i = 8 ∨ i = 9 ∨ i = 10 ∨ i = 11 ∨ i = 12 ∨ i = 13 by omega) with rfl | rfl | rfl | rfl | rfl | rfl | rfl | rfl | rfl | rfl | rfl | rfl | rfl | rfl <;> rfl
theorem len5 {N : Nat} {u : CS} : fm_JS_length N u 5 = some (u, Int32.ofNat 18) := by
  have h : fm_JS_length N u 5 = some (u, (Int32.ofNat (lenSt.getD 5 0)) >>> ((0 : Int32) &&& 31)) := rfl
  rw [h, show (Int32.ofNat (lenSt.getD 5 0)) >>> ((0 : Int32) &&& 31) = Int32.ofNat 18 from by decide]
theorem len4 {N : Nat} {u : CS} : fm_JS_length N u 4 = some (u, Int32.ofNat 14) := by
  have h : fm_JS_length N u 4 = some (u, (Int32.ofNat (lenSt.getD 4 0)) >>> ((0 : Int32) &&& 31)) := rfl
  rw [h, show (Int32.ofNat (lenSt.getD 4 0)) >>> ((0 : Int32) &&& 31) = Int32.ofNat 14 from by decide]
def on1 (c : Int32) : Nat → Nat → Int32
  | 0, _ => 45
  | m + 1, i => if by5 i = c then Int32.ofNat (20 + i) else on1 c m (i + 1)
theorem one_loop {N : Nat} {u : CS} {c : Int32} : ∀ (m i F : Nat), i + m = 18 → (gg_To_signs N (F + m + 1)).2 u c (Int32.ofNat i) = some (u, on1 c m i) := by
  intro m
  induction m with
  | zero =>
    intro i F hi
    show fb_To_signs_81 N (gg_To_signs N (F + 0)) u c (Int32.ofNat i) = _
    generalize gg_To_signs N (F + 0) = G
    unfold fb_To_signs_81
    rw [q_ck (by decide), len5, q_bx, decide_eq_true ((q_le (a := 18) (b := i) (by decide) (by omega)).mpr (by omega)), q_b1]
    rfl
  | succ m ih =>
    intro i F hi
    have i1 := ih (i + 1) F (by omega)
    show fb_To_signs_81 N (gg_To_signs N (F + m + 1)) u c (Int32.ofNat i) = _
    generalize gg_To_signs N (F + m + 1) = G at i1 ⊢
    unfold fb_To_signs_81
    rw [q_ck (by decide), len5, q_bx, decide_eq_false (fun z => absurd ((q_le (a := 18) (b := i) (by decide) (by omega)).mp z) (by omega)), q_b0, q_ck (by decide), ch5 (by omega), q_bx]
    show br (decide (by5 i = c)) (some (u, 20 + Int32.ofNat i)) (G.2 u c (Int32.ofNat i + 1)) = some (u, if by5 i = c then Int32.ofNat (20 + i) else on1 c m (i + 1))
    by_cases h : by5 i = c
    · rw [decide_eq_true h, q_b1, if_pos h, show (20 : Int32) = Int32.ofNat 20 from rfl, q_add]
    · rw [decide_eq_false h, q_b0, if_neg h, q_suc]
      exact i1
def tw (c d : Int32) : Nat → Nat → Option Nat
  | 0, _ => none
  | m + 1, i => if by4 (2 * i) = c ∧ by4 (2 * i + 1) = d then some i else tw c d m (i + 1)
theorem two_loop {N p : Nat} {u : CS} {c d : Int32} (hs : skB u = true) (h9 : FI u 4 9 = Int32.ofNat p) : ∀ (m i F : Nat), i + m = 7 → (gg_To_signs N (F + m + 20)).1 u 4 c d (Int32.ofNat (2 * i)) = match tw c d m i with
    | some x => some (uF u 4 9 (.inl (Int32.ofNat (p + 2))), Int32.ofNat (38 + x))
    | none => some (uF u 4 9 (.inl (Int32.ofNat (p + 1))), on1 c 18 0) := by
  intro m
  induction m with
  | zero =>
    intro i F hi
    have o1 := one_loop (N := N) (u := uF u 4 9 (.inl (Int32.ofNat (p + 1)))) (c := c) 18 0 F (by omega)
    show fb_To_signs_13 N (gg_To_signs N (F + 18 + 1)) u 4 c d (Int32.ofNat (2 * i)) = _
    generalize gg_To_signs N (F + 18 + 1) = G at o1 ⊢
    unfold fb_To_signs_13
    rw [q_ck (by decide), len4, q_bx, q_suc, decide_eq_true ((q_le (a := 14) (b := 2 * i + 1) (by decide) (by omega)).mpr (by omega)), q_b1]
    show bo (gI u 4 9 9) _ = _
    rw [gi_4_9 hs, q_bo, h9, q_suc, pf_4_9 hs, q_bo]
    exact o1
  | succ m ih =>
    intro i F hi
    have i1 := ih (i + 1) F (by omega)
    have e38 : ∀ i, i < 7 → (38 : Int32) + Int32.ofNat (2 * i) / 2 = Int32.ofNat (38 + i) := by decide +kernel
    show fb_To_signs_13 N (gg_To_signs N (F + m + 20)) u 4 c d (Int32.ofNat (2 * i)) = _
    generalize gg_To_signs N (F + m + 20) = G at i1 ⊢
    have e63 : fb_To_signs_63 N G u 4 c d (Int32.ofNat (2 * i)) = match tw c d m (i + 1) with
        | some x => some (uF u 4 9 (.inl (Int32.ofNat (p + 2))), Int32.ofNat (38 + x))
        | none => some (uF u 4 9 (.inl (Int32.ofNat (p + 1))), on1 c 18 0) := by
      unfold fb_To_signs_63
      rw [show (2 : Int32) = Int32.ofNat 2 from rfl, q_add, show 2 * i + 2 = 2 * (i + 1) from by omega]
      exact i1
    unfold fb_To_signs_13
    rw [q_ck (by decide), len4, q_bx, q_suc, decide_eq_false (fun z => absurd ((q_le (a := 14) (b := 2 * i + 1) (by decide) (by omega)).mp z) (by omega)), q_b0, q_ck (by decide), ch4 (by omega), q_bx]
    show br (decide (by4 (2 * i) = c)) (ck (decide (4 < nSt)) (bx (fm_JS_charAt N u 4 (Int32.ofNat (2 * i + 1))) _)) (fb_To_signs_63 N G u 4 c d (Int32.ofNat (2 * i))) = _
    rw [q_ck (by decide), ch4 (by omega), q_bx]
    show br (decide (by4 (2 * i) = c)) (br (decide (by4 (2 * i + 1) = d)) (bo (gI u 4 9 9) (fun r8 => bo (pF u 4 9 9 (.inl (r8 + 2))) (fun w9 => some (w9, (38 + (Int32.ofNat (2 * i) / 2)))))) (fb_To_signs_63 N G u 4 c d (Int32.ofNat (2 * i)))) (fb_To_signs_63 N G u 4 c d (Int32.ofNat (2 * i))) = _
    rw [e63, gi_4_9 hs, q_bo, h9, show (2 : Int32) = Int32.ofNat 2 from rfl, q_add, pf_4_9 hs, q_bo]
    have e38 := e38 i (by omega)
    rw [show (2 : Int32) = Int32.ofNat 2 from rfl] at e38
    rw [e38]
    by_cases h1 : by4 (2 * i) = c
    · rw [decide_eq_true h1, q_b1]
      by_cases h2 : by4 (2 * i + 1) = d
      · have e0 : tw c d (m + 1) i = some i := if_pos ⟨h1, h2⟩
        rw [decide_eq_true h2, q_b1, e0]
      · have e0 : tw c d (m + 1) i = tw c d m (i + 1) := if_neg (fun z => h2 z.2)
        rw [decide_eq_false h2, q_b0, e0]
    · have e0 : tw c d (m + 1) i = tw c d m (i + 1) := if_neg (fun z => h1 z.1)
      rw [decide_eq_false h1, q_b0, e0]
end
section
set_option maxRecDepth 100000
def r22 (j : Nat) : Int32 := mS0.2.2.1 22 j
def r21 (j : Nat) : Int32 := mS0.2.2.1 21 j
def onM (c : Int32) : Nat → Nat → Int32 → Int32
  | 0, _, s => s
  | m + 1, i, s => onM c m (i + 1) (if r22 (2 * i) = c then r22 (2 * i + 1) else s)
def twM (c d : Int32) : Nat → Nat → Int32 → Int32 → Int32 × Int32
  | 0, _, s, n => (s, n)
  | m + 1, i, s, n => if r21 (3 * i) = c ∧ r21 (3 * i + 1) = d then twM c d m (i + 1) (r21 (3 * i + 2)) 2 else twM c d m (i + 1) s n
def finG (N : Nat) (w : MS) (s n : Int32) : Option (MS × Unit) := br (decide (s = (-1))) (fb_M_signToken_129 N (gg_M_signToken N 0) w s n 7) (fb_M_signToken_129 N (gg_M_signToken N 0) w s n 6)
theorem twM_loop {N : Nat} {w : MS} {c d : Int32} (h21 : w.2.2.1 21 = mS0.2.2.1 21) : ∀ (m i F : Nat) (s n : Int32), i + m = 7 → (gg_M_signToken N (F + m + 1)).2 w c d s n (Int32.ofNat (3 * i)) = finG N w (twM c d m i s n).1 (twM c d m i s n).2 := by
  intro m
  induction m with
  | zero =>
    intro i F s n hi
    show fb_M_signToken_63 N (gg_M_signToken N (F + 0)) w c d s n (Int32.ofNat (3 * i)) = _
    generalize gg_M_signToken N (F + 0) = G
    unfold fb_M_signToken_63
    rw [show ln 21 = 21 from rfl, decide_eq_true ((q_le (a := 21) (b := 3 * i) (by decide) (by omega)).mpr (by omega)), q_b1]
    rfl
  | succ m ih =>
    intro i F s n hi
    show fb_M_signToken_63 N (gg_M_signToken N (F + m + 1)) w c d s n (Int32.ofNat (3 * i)) = _
    have e110 : ∀ s n, fb_M_signToken_110 N (gg_M_signToken N (F + m + 1)) w c d s n (Int32.ofNat (3 * i)) = finG N w (twM c d m (i + 1) s n).1 (twM c d m (i + 1) s n).2 := fun s n => by
      unfold fb_M_signToken_110
      rw [show (3 : Int32) = Int32.ofNat 3 from rfl, q_add, show 3 * i + 3 = 3 * (i + 1) from by omega]
      exact ih (i + 1) F s n (by omega)
    generalize gg_M_signToken N (F + m + 1) = G at e110 ⊢
    unfold fb_M_signToken_63
    rw [show ln 21 = 21 from rfl, decide_eq_false (fun z => absurd ((q_le (a := 21) (b := 3 * i) (by decide) (by omega)).mp z) (by omega)), q_b0, q_ck (q_inb (by omega) (by decide)), q_suc, q_ck (q_inb (by omega) (by decide)), show (2 : Int32) = Int32.ofNat 2 from rfl, q_add, q_ck (q_inb (by omega) (by decide)), q_nat (k := 3 * i) (by omega), q_nat (k := 3 * i + 1) (by omega), q_nat (k := 3 * i + 2) (by omega), q_ls, h21, e110, e110]
    show br (decide (r21 (3 * i) = c)) (br (decide (r21 (3 * i + 1) = d)) _ _) _ = finG N w (if r21 (3 * i) = c ∧ r21 (3 * i + 1) = d then twM c d m (i + 1) (r21 (3 * i + 2)) 2 else twM c d m (i + 1) s n).1 (if r21 (3 * i) = c ∧ r21 (3 * i + 1) = d then twM c d m (i + 1) (r21 (3 * i + 2)) 2 else twM c d m (i + 1) s n).2
    by_cases h1 : r21 (3 * i) = c
    · rw [decide_eq_true h1, q_b1]
      by_cases h2 : r21 (3 * i + 1) = d
      · rw [decide_eq_true h2, q_b1, if_pos ⟨h1, h2⟩]
        rfl
      · rw [decide_eq_false h2, q_b0, if_neg (fun z => h2 z.2)]
    · rw [decide_eq_false h1, q_b0, if_neg (fun z => h1 z.1)]
theorem onM_loop {N : Nat} {w : MS} {c d : Int32} (h21 : w.2.2.1 21 = mS0.2.2.1 21) (h22 : w.2.2.1 22 = mS0.2.2.1 22) : ∀ (m i F : Nat) (s : Int32), i + m = 18 → (gg_M_signToken N (F + m + 9)).1 w c d s 1 (Int32.ofNat (2 * i)) = finG N w (twM c d 7 0 (onM c m i s) 1).1 (twM c d 7 0 (onM c m i s) 1).2 := by
  intro m
  induction m with
  | zero =>
    intro i F s hi
    have t := twM_loop (N := N) (c := c) (d := d) h21 7 0 F s 1 (by omega)
    show fb_M_signToken_19 N (gg_M_signToken N (F + 7 + 1)) w c d s 1 (Int32.ofNat (2 * i)) = _
    generalize gg_M_signToken N (F + 7 + 1) = G at t ⊢
    unfold fb_M_signToken_19
    rw [show ln 22 = 36 from rfl, decide_eq_true ((q_le (a := 36) (b := 2 * i) (by decide) (by omega)).mpr (by omega)), q_b1]
    exact t
  | succ m ih =>
    intro i F s hi
    show fb_M_signToken_19 N (gg_M_signToken N (F + m + 9)) w c d s 1 (Int32.ofNat (2 * i)) = _
    have e53 : ∀ s, fb_M_signToken_53 N (gg_M_signToken N (F + m + 9)) w c d 1 (Int32.ofNat (2 * i)) s = finG N w (twM c d 7 0 (onM c m (i + 1) s) 1).1 (twM c d 7 0 (onM c m (i + 1) s) 1).2 := fun s => by
      unfold fb_M_signToken_53
      rw [show (2 : Int32) = Int32.ofNat 2 from rfl, q_add, show 2 * i + 2 = 2 * (i + 1) from by omega]
      exact ih (i + 1) F s (by omega)
    generalize gg_M_signToken N (F + m + 9) = G at e53 ⊢
    unfold fb_M_signToken_19
    rw [show ln 22 = 36 from rfl, decide_eq_false (fun z => absurd ((q_le (a := 36) (b := 2 * i) (by decide) (by omega)).mp z) (by omega)), q_b0, q_ck (q_inb (by omega) (by decide)), q_suc, q_ck (q_inb (by omega) (by decide)), q_nat (k := 2 * i) (by omega), q_nat (k := 2 * i + 1) (by omega), h22, e53, e53]
    show br (decide (r22 (2 * i) = c)) _ _ = finG N w (twM c d 7 0 (onM c m (i + 1) (if r22 (2 * i) = c then r22 (2 * i + 1) else s)) 1).1 (twM c d 7 0 (onM c m (i + 1) (if r22 (2 * i) = c then r22 (2 * i + 1) else s)) 1).2
    by_cases h1 : r22 (2 * i) = c
    · rw [decide_eq_true h1, q_b1, if_pos h1]
      rfl
    · rw [decide_eq_false h1, q_b0, if_neg h1]
end
section
set_option maxRecDepth 100000
theorem t22 : ∀ i, i < 18 → r22 (2 * i) = by5 i := by decide +kernel
theorem t21 : ∀ i, i < 7 → r21 (3 * i) = by4 (2 * i) ∧ r21 (3 * i + 1) = by4 (2 * i + 1) := by decide +kernel
theorem one_hit : ∀ i, i < 18 → on1 (by5 i) 18 0 = Int32.ofNat (20 + i) ∧ onM (by5 i) 18 0 (-1) = r22 (2 * i + 1) := by decide +kernel
theorem one_no {c : Int32} (h : ∀ i, i < 18 → by5 i ≠ c) : ∀ (m i : Nat) (s : Int32), i + m = 18 → on1 c m i = 45 ∧ onM c m i s = s := by
  intro m
  induction m with
  | zero => intro i s _; exact ⟨rfl, rfl⟩
  | succ m ih =>
    intro i s hi
    have h1 := h i (by omega)
    have h2 : r22 (2 * i) ≠ c := by rw [t22 i (by omega)]; exact h1
    obtain ⟨a1, a2⟩ := ih (i + 1) s (by omega)
    refine ⟨?_, ?_⟩
    · show (if by5 i = c then _ else on1 c m (i + 1)) = 45
      rw [if_neg h1]; exact a1
    · show onM c m (i + 1) (if r22 (2 * i) = c then r22 (2 * i + 1) else s) = s
      rw [if_neg h2]; exact a2
theorem one_both (c : Int32) : (on1 c 18 0 = 45 ∧ onM c 18 0 (-1) = -1) ∨ ∃ i, i < 18 ∧ on1 c 18 0 = Int32.ofNat (20 + i) ∧ onM c 18 0 (-1) = r22 (2 * i + 1) := by
  by_cases h : ∃ i, i < 18 ∧ by5 i = c
  · obtain ⟨i, hi, rfl⟩ := h
    exact Or.inr ⟨i, hi, one_hit i hi⟩
  · exact Or.inl (one_no (fun i hi e => h ⟨i, hi, e⟩) 18 0 (-1) (by omega))
theorem two_hit {s : Int32} : ∀ i, i < 7 → tw (by4 (2 * i)) (by4 (2 * i + 1)) 7 0 = some i ∧ twM (by4 (2 * i)) (by4 (2 * i + 1)) 7 0 s 1 = (r21 (3 * i + 2), 2) := by
  have e1 : ∀ i, i < 7 → tw (by4 (2 * i)) (by4 (2 * i + 1)) 7 0 = some i := by decide +kernel
  have key : ∀ i, i < 7 → ∀ j, j < 7 → (r21 (3 * j) = by4 (2 * i) ∧ r21 (3 * j + 1) = by4 (2 * i + 1)) → j = i := by decide +kernel
  intro i hi
  refine ⟨e1 i hi, ?_⟩
  have fin : ∀ (m j : Nat) (s n : Int32), j + m = 7 → i < j → twM (by4 (2 * i)) (by4 (2 * i + 1)) m j s n = (s, n) := by
    intro m
    induction m with
    | zero => intro j s n _ _; rfl
    | succ m ih =>
      intro j s n hj hij
      show (if _ then _ else twM _ _ m (j + 1) s n) = _
      rw [if_neg (fun z => absurd (key i hi j (by omega) z) (by omega))]
      exact ih (j + 1) s n (by omega) (by omega)
  have run : ∀ (m j : Nat) (s n : Int32), j + m = 7 → j ≤ i → twM (by4 (2 * i)) (by4 (2 * i + 1)) m j s n = (r21 (3 * i + 2), 2) := by
    intro m
    induction m with
    | zero => intro j s n h1 h2; omega
    | succ m ih =>
      intro j s n hj hij
      by_cases e : j = i
      · subst e
        show (if r21 (3 * j) = by4 (2 * j) ∧ r21 (3 * j + 1) = by4 (2 * j + 1) then twM _ _ m (j + 1) (r21 (3 * j + 2)) 2 else _) = _
        rw [if_pos (t21 j hi)]
        exact fin m (j + 1) _ _ (by omega) (by omega)
      · show (if _ then _ else twM _ _ m (j + 1) s n) = _
        rw [if_neg (fun z => e (key i hi j (by omega) z))]
        exact ih (j + 1) s n (by omega) (by omega)
  exact run 7 0 s 1 (by omega) (by omega)
theorem two_no {c d : Int32} (h : ∀ i, i < 7 → ¬ (by4 (2 * i) = c ∧ by4 (2 * i + 1) = d)) : ∀ (m i : Nat) (s n : Int32), i + m = 7 → tw c d m i = none ∧ twM c d m i s n = (s, n) := by
  intro m
  induction m with
  | zero => intro i s n _; exact ⟨rfl, rfl⟩
  | succ m ih =>
    intro i s n hi
    have h1 := h i (by omega)
    have h2 : ¬ (r21 (3 * i) = c ∧ r21 (3 * i + 1) = d) := by rw [(t21 i (by omega)).1, (t21 i (by omega)).2]; exact h1
    obtain ⟨a1, a2⟩ := ih (i + 1) s n (by omega)
    refine ⟨?_, ?_⟩
    · show (if by4 (2 * i) = c ∧ by4 (2 * i + 1) = d then some i else tw c d m (i + 1)) = none
      rw [if_neg h1]; exact a1
    · show (if r21 (3 * i) = c ∧ r21 (3 * i + 1) = d then twM c d m (i + 1) (r21 (3 * i + 2)) 2 else twM c d m (i + 1) s n) = (s, n)
      rw [if_neg h2]; exact a2
theorem two_both (c d s : Int32) : (tw c d 7 0 = none ∧ twM c d 7 0 s 1 = (s, 1)) ∨ ∃ i, i < 7 ∧ tw c d 7 0 = some i ∧ twM c d 7 0 s 1 = (r21 (3 * i + 2), 2) := by
  by_cases h : ∃ i, i < 7 ∧ by4 (2 * i) = c ∧ by4 (2 * i + 1) = d
  · obtain ⟨i, hi, rfl, rfl⟩ := h
    exact Or.inr ⟨i, hi, two_hit i hi⟩
  · exact Or.inl (two_no (fun i hi e => h ⟨i, hi, e⟩) 7 0 s 1 (by omega))
end
section
set_option maxRecDepth 100000
def frW (j : Nat) : Nat := [0, 5, 12, 17, 21, 26, 29, 32, 35, 37, 40, 42, 48, 55, 58, 62].getD j 62
def r0 (j : Nat) : Int32 := mS0.2.2.1 0 j
def sgW (j : Nat) : Int32 := ((bytSt.getD 1 []).filter (fun x => x != 32)).getD j 0
theorem r0_a : ∀ j, j < 15 → r0 (frW j + j) = Int32.ofNat (frW (j + 1) - frW j) ∧ frW j ≤ frW (j + 1) ∧ frW (j + 1) ≤ 62 := by decide +kernel
theorem r0_b : ∀ j, j < 15 → ∀ i, i < frW (j + 1) - frW j → r0 (frW j + j + 1 + i) = sgW (frW j + i) := by decide +kernel
theorem eqN_sh {f g tx : Nat → Int32} : ∀ (m a a2 b : Nat), (∀ i, i < m → f (a + i) = g (a2 + i)) → eqN f tx a b m = eqN g tx a2 b m := by
  intro m
  induction m with
  | zero => intro a a2 b _; rfl
  | succ m ih =>
    intro a a2 b h
    have e1 : f a = g a2 := h 0 (by omega)
    show (decide (f a = tx b) && _) = (decide (g a2 = tx b) && _)
    rw [e1, ih (a + 1) (a2 + 1) (b + 1) (fun i hi => by
      have := h (i + 1) (by omega)
      rw [show a + 1 + i = a + (i + 1) from by omega, show a2 + 1 + i = a2 + (i + 1) from by omega]
      exact this)]
section RSV
variable {w : MS} {N b len : Nat}
theorem wa_in (h0 : w.2.2.1 0 = mS0.2.2.1 0) (hb : b + len ≤ 4000) {j : Nat} (hj : j < 15) (hl : frW (j + 1) - frW j = len) : ∀ (m i k : Nat), i + m = len → (eqN r0 (w.2.2.1 4) (frW j + j + 1 + i) (b + i) m = true ∧ (gg_M_wordAt N (k + m + 1)).2 w (Int32.ofNat b) (Int32.ofNat len) (Int32.ofNat (frW j + j)) (Int32.ofNat j) 1 (Int32.ofNat i) = some (w, Int32.ofNat j)) ∨ (eqN r0 (w.2.2.1 4) (frW j + j + 1 + i) (b + i) m = false ∧ ∃ F, k ≤ F ∧ (gg_M_wordAt N (k + m + 1)).2 w (Int32.ofNat b) (Int32.ofNat len) (Int32.ofNat (frW j + j)) (Int32.ofNat j) 1 (Int32.ofNat i) = (gg_M_wordAt N F).1 w (Int32.ofNat b) (Int32.ofNat len) (Int32.ofNat (frW (j + 1) + (j + 1))) (Int32.ofNat (j + 1))) := by
  obtain ⟨ra, rb, rc⟩ := r0_a j hj
  have e81 : ∀ G, fb_M_wordAt_81 N G w (Int32.ofNat b) (Int32.ofNat len) (Int32.ofNat (frW j + j)) (Int32.ofNat j) 0 = G.1 w (Int32.ofNat b) (Int32.ofNat len) (Int32.ofNat (frW (j + 1) + (j + 1))) (Int32.ofNat (j + 1)) := fun G => by
    unfold fb_M_wordAt_81
    rw [show decide ((0 : Int32) = 0) = true from rfl, q_b1, q_ck (q_inb (by show frW j + j < 77; omega) (by decide)), q_nat (k := frW j + j) (by omega), h0, show mS0.2.2.1 0 (frW j + j) = r0 (frW j + j) from rfl, ra, q_suc, q_add, q_ls, q_suc, show frW j + j + (frW (j + 1) - frW j + 1) = frW (j + 1) + (j + 1) from by omega]
  intro m
  induction m with
  | zero =>
    intro i k hi
    refine Or.inl ⟨rfl, ?_⟩
    show fb_M_wordAt_34 N (gg_M_wordAt N (k + 0)) w _ _ _ _ _ _ = _
    generalize gg_M_wordAt N (k + 0) = G
    unfold fb_M_wordAt_34
    rw [decide_eq_true ((q_le (a := len) (b := i) (by omega) (by omega)).mpr (by omega)), q_b1]
    rfl
  | succ m ih =>
    intro i k hi
    have hd : (gg_M_wordAt N (k + (m + 1) + 1)).2 w (Int32.ofNat b) (Int32.ofNat len) (Int32.ofNat (frW j + j)) (Int32.ofNat j) 1 (Int32.ofNat i) = if r0 (frW j + j + 1 + i) = w.2.2.1 4 (b + i) then (gg_M_wordAt N (k + m + 1)).2 w (Int32.ofNat b) (Int32.ofNat len) (Int32.ofNat (frW j + j)) (Int32.ofNat j) 1 (Int32.ofNat (i + 1)) else (gg_M_wordAt N (k + m + 1)).2 w (Int32.ofNat b) (Int32.ofNat len) (Int32.ofNat (frW j + j)) (Int32.ofNat j) 0 (Int32.ofNat (i + 1)) := by
      show fb_M_wordAt_34 N (gg_M_wordAt N (k + m + 1)) w _ _ _ _ _ _ = _
      generalize gg_M_wordAt N (k + m + 1) = G
      unfold fb_M_wordAt_34 fb_M_wordAt_73
      rw [decide_eq_false (fun z => absurd ((q_le (a := len) (b := i) (by omega) (by omega)).mp z) (by omega)), q_b0, show decide ((1 : Int32) = 0) = false from rfl, q_b0, q_suc, q_add, q_ck (q_inb (by show frW j + j + 1 + i < 77; omega) (by decide)), q_add, q_ck (q_inb (by show b + i < 4000; omega) (by decide)), q_nat (k := frW j + j + 1 + i) (by omega), q_nat (k := b + i) (by omega), h0, q_suc]
      show br (decide (r0 (frW j + j + 1 + i) = w.2.2.1 4 (b + i))) _ _ = _
      by_cases hc : r0 (frW j + j + 1 + i) = w.2.2.1 4 (b + i)
      · rw [if_pos hc, decide_eq_true hc, q_b1]
      · rw [if_neg hc, decide_eq_false hc, q_b0]
    rw [hd]
    by_cases hc : r0 (frW j + j + 1 + i) = w.2.2.1 4 (b + i)
    · rw [if_pos hc]
      have i1 := ih (i + 1) k (by omega)
      have e8 : eqN r0 (w.2.2.1 4) (frW j + j + 1 + i) (b + i) (m + 1) = eqN r0 (w.2.2.1 4) (frW j + j + 1 + (i + 1)) (b + (i + 1)) m := by
        show (decide _ && _) = _
        rw [decide_eq_true hc, Bool.true_and]
        rfl
      rw [e8]
      exact i1
    · rw [if_neg hc]
      refine Or.inr ⟨?_, k + m, by omega, ?_⟩
      · show (decide _ && _) = _
        rw [decide_eq_false hc, Bool.false_and]
      · show fb_M_wordAt_34 N (gg_M_wordAt N (k + m)) w _ _ _ _ _ _ = _
        rw [← e81 (gg_M_wordAt N (k + m))]
        generalize gg_M_wordAt N (k + m) = G
        unfold fb_M_wordAt_34
        rw [show decide ((0 : Int32) = 0) = true from rfl, q_b1]
        cases decide (Int32.ofNat len ≤ Int32.ofNat (i + 1)) <;> rfl
theorem wa_out (h0 : w.2.2.1 0 = mS0.2.2.1 0) (hb : b + len ≤ 4000) : ∀ (m j F : Nat), j + m = 15 → m * (len + 3) + 2 ≤ F → (gg_M_wordAt N F).1 w (Int32.ofNat b) (Int32.ofNat len) (Int32.ofNat (frW j + j)) (Int32.ofNat j) = some (w, noI (skN sgW (w.2.2.1 4) frW b len j m)) := by
  intro m
  induction m with
  | zero =>
    intro j F hj hF
    obtain ⟨F1, rfl⟩ : ∃ F1, F = F1 + 1 := ⟨F - 1, by omega⟩
    rw [show j = 15 from by omega]
    show fb_M_wordAt_5 N (gg_M_wordAt N F1) w (Int32.ofNat b) (Int32.ofNat len) (Int32.ofNat 77) (Int32.ofNat 15) = _
    generalize gg_M_wordAt N F1 = G
    unfold fb_M_wordAt_5
    rw [show ln 0 = 77 from rfl, show decide (Int32.ofNat 77 ≤ Int32.ofNat 77) = true from by decide, q_b1]
    rfl
  | succ m ih =>
    intro j F hj hF
    rw [Nat.succ_mul] at hF
    obtain ⟨ra, rb, rc⟩ := r0_a j (by omega)
    obtain ⟨F1, rfl⟩ : ∃ F1, F = F1 + len + 1 + 1 := ⟨F - len - 2, by omega⟩
    have hd : (gg_M_wordAt N (F1 + len + 1 + 1)).1 w (Int32.ofNat b) (Int32.ofNat len) (Int32.ofNat (frW j + j)) (Int32.ofNat j) = (gg_M_wordAt N (F1 + len + 1)).2 w (Int32.ofNat b) (Int32.ofNat len) (Int32.ofNat (frW j + j)) (Int32.ofNat j) (if frW (j + 1) - frW j = len then 1 else 0) 0 := by
      show fb_M_wordAt_5 N (gg_M_wordAt N (F1 + len + 1)) w _ _ _ _ = _
      generalize gg_M_wordAt N (F1 + len + 1) = G
      unfold fb_M_wordAt_5 fb_M_wordAt_29
      rw [show ln 0 = 77 from rfl, decide_eq_false (fun z => absurd ((q_le (a := 77) (b := frW j + j) (by decide) (by omega)).mp z) (by omega)), q_b0, q_ck (q_inb (by omega) (by decide)), q_nat (k := frW j + j) (by omega), h0, show mS0.2.2.1 0 (frW j + j) = r0 (frW j + j) from rfl, ra]
      by_cases hc : frW (j + 1) - frW j = len
      · rw [if_pos hc, decide_eq_true (by rw [hc]), q_b1]
      · rw [if_neg hc, decide_eq_false (fun z => hc (by
          have := congrArg Int32.toNatClampNeg z
          rw [q_nat (by omega), q_nat (by omega)] at this
          exact this)), q_b0]
    rw [hd]
    by_cases hc : frW (j + 1) - frW j = len
    · rw [if_pos hc]
      have esh : eqN r0 (w.2.2.1 4) (frW j + j + 1 + 0) (b + 0) len = eqN sgW (w.2.2.1 4) (frW j) b len := eqN_sh len (frW j + j + 1) (frW j) b (fun i hi => r0_b j (by omega) i (by omega))
      rcases wa_in (N := N) h0 hb (show j < 15 by omega) hc len 0 F1 (by omega) with ⟨a1, a2⟩ | ⟨a1, F2, a2, a3⟩
      · have e8 : skN sgW (w.2.2.1 4) frW b len j (m + 1) = some j := if_pos ⟨hc, esh ▸ a1⟩
        rw [e8]
        exact a2
      · have e8 : skN sgW (w.2.2.1 4) frW b len j (m + 1) = skN sgW (w.2.2.1 4) frW b len (j + 1) m := if_neg (fun z => by
          have := z.2
          rw [← esh, a1] at this
          cases this)
        rw [e8, show (gg_M_wordAt N (F1 + len + 1)).2 w (Int32.ofNat b) (Int32.ofNat len) (Int32.ofNat (frW j + j)) (Int32.ofNat j) 1 0 = _ from a3]
        exact ih (j + 1) F2 (by omega) (by omega)
    · rw [if_neg hc]
      have e8 : skN sgW (w.2.2.1 4) frW b len j (m + 1) = skN sgW (w.2.2.1 4) frW b len (j + 1) m := if_neg (fun z => hc z.1)
      have i1 := ih (j + 1) (F1 + len) (by omega) (by omega)
      rw [e8, ← i1]
      show fb_M_wordAt_34 N (gg_M_wordAt N (F1 + len)) w _ _ _ _ _ _ = _
      generalize gg_M_wordAt N (F1 + len) = G
      have e81 : fb_M_wordAt_81 N G w (Int32.ofNat b) (Int32.ofNat len) (Int32.ofNat (frW j + j)) (Int32.ofNat j) 0 = G.1 w (Int32.ofNat b) (Int32.ofNat len) (Int32.ofNat (frW (j + 1) + (j + 1))) (Int32.ofNat (j + 1)) := by
        unfold fb_M_wordAt_81
        rw [show decide ((0 : Int32) = 0) = true from rfl, q_b1, q_ck (q_inb (by show frW j + j < 77; omega) (by decide)), q_nat (k := frW j + j) (by omega), h0, show mS0.2.2.1 0 (frW j + j) = r0 (frW j + j) from rfl, ra, q_suc, q_add, q_ls, q_suc, show frW j + j + (frW (j + 1) - frW j + 1) = frW (j + 1) + (j + 1) from by omega]
      rw [← e81]
      unfold fb_M_wordAt_34
      rw [show decide ((0 : Int32) = 0) = true from rfl, q_b1]
      cases decide (Int32.ofNat len ≤ 0) <;> rfl
theorem wa_ok (h0 : w.2.2.1 0 = mS0.2.2.1 0) (hb : b + len ≤ 4000) (hN : 15 * (len + 3) + 2 ≤ N) : fm_M_wordAt N w (Int32.ofNat b) (Int32.ofNat len) = some (w, noI (skN sgW (w.2.2.1 4) frW b len 0 15)) := wa_out (N := N) h0 hb 15 0 N (by omega) hN
end RSV
end
section
set_option maxRecDepth 100000
def wde (g : Nat → Int32) (k : Nat) : Nat → Nat → Nat
  | 0, p => p
  | m + 1, p => if k ≤ p then p else if isW (g p) = false then p else wde g k m (p + 1)
theorem wde_ge {g : Nat → Int32} {k : Nat} : ∀ m p, p ≤ wde g k m p := by
  intro m
  induction m with
  | zero => intro p; exact Nat.le_refl _
  | succ m ih =>
    intro p
    show p ≤ if k ≤ p then p else if isW (g p) = false then p else wde g k m (p + 1)
    split
    · exact Nat.le_refl _
    · split
      · exact Nat.le_refl _
      · exact Nat.le_trans (by omega) (ih (p + 1))
theorem wde_le {g : Nat → Int32} {k : Nat} : ∀ m p, p ≤ k → wde g k m p ≤ k := by
  intro m
  induction m with
  | zero => intro p h; exact h
  | succ m ih =>
    intro p h
    show (if k ≤ p then p else if isW (g p) = false then p else wde g k m (p + 1)) ≤ k
    split
    · exact h
    · split
      · exact h
      · exact ih (p + 1) (by omega)
theorem wde_eq {f g : Nat → Int32} {k : Nat} (hfg : ∀ j, j < k → f j = g j) : ∀ m p, wde f k m p = wde g k m p := by
  intro m
  induction m with
  | zero => intro p; rfl
  | succ m ih =>
    intro p
    show (if k ≤ p then p else if isW (f p) = false then p else wde f k m (p + 1)) = if k ≤ p then p else if isW (g p) = false then p else wde g k m (p + 1)
    by_cases h : k ≤ p
    · rw [if_pos h, if_pos h]
    · rw [if_neg h, if_neg h, hfg p (by omega), ih]
theorem w44 {N : Nat} {G G2 : CS → Nat → Int32 → Int32 → Option (CS × Int32)} {u : CS} {c s : Int32} : fb_To_word_44 N G u 4 c s = fb_To_word_44 N G2 u 4 c s := rfl
theorem wdC_loop {N k : Nat} {c s : Int32} {G0 : CS → Nat → Int32 → Int32 → Option (CS × Int32)} (hk4 : k ≤ 4000) : ∀ (m p : Nat) (u : CS) (F : Nat), skB u = true → FI u 4 1 = Int32.ofNat k → FI u 4 9 = Int32.ofNat p → p + m = k + 1 → ∃ u2, skB u2 = true ∧ Fr4 S9 u u2 ∧ FI u2 4 9 = Int32.ofNat (wde (AI u 5) k m p) ∧ gg_To_word N (F + m + 1) u 4 c s = fb_To_word_44 N G0 u2 4 c s := by
  intro m
  induction m with
  | zero =>
    intro p u F hs hk h9 hp
    refine ⟨u, hs, Fr4.rf, h9, ?_⟩
    show fb_To_word_5 N (gg_To_word N (F + 0)) u 4 _ _ = _
    generalize gg_To_word N (F + 0) = G
    unfold fb_To_word_5
    rw [gi_4_9 hs, q_bo, gi_4_1 hs, q_bo, h9, hk, decide_eq_true ((q_le (a := k) (b := p) (by omega) (by omega)).mpr (by omega)), q_b1]
    exact w44
  | succ m ih =>
    intro p u F hs hk h9 hp
    by_cases hkp : k ≤ p
    · have e0 : wde (AI u 5) k (m + 1) p = p := if_pos hkp
      rw [e0]
      refine ⟨u, hs, Fr4.rf, h9, ?_⟩
      show fb_To_word_5 N (gg_To_word N (F + (m + 1))) u 4 _ _ = _
      generalize gg_To_word N (F + (m + 1)) = G
      unfold fb_To_word_5
      rw [gi_4_9 hs, q_bo, gi_4_1 hs, q_bo, h9, hk, decide_eq_true ((q_le (a := k) (b := p) (by omega) (by omega)).mpr hkp), q_b1]
      exact w44
    · have ek : decide (Int32.ofNat k ≤ Int32.ofNat p) = false := decide_eq_false (fun z => hkp ((q_le (a := k) (b := p) (by omega) (by omega)).mp z))
      by_cases hd : isW (AI u 5 p) = false
      · have e0 : wde (AI u 5) k (m + 1) p = p := by
          show (if k ≤ p then _ else if isW (AI u 5 p) = false then _ else _) = _
          rw [if_neg hkp, if_pos hd]
        rw [e0]
        refine ⟨u, hs, Fr4.rf, h9, ?_⟩
        show fb_To_word_5 N (gg_To_word N (F + (m + 1))) u 4 _ _ = _
        generalize gg_To_word N (F + (m + 1)) = G
        unfold fb_To_word_5
        rw [gi_4_9 hs, q_bo, gi_4_1 hs, q_bo, h9, hk, ek, q_b0, gr_4_0 hs, q_bo, q_bo, q_bo, ai_5 hs, if_pos (q_inb (by omega) (by decide)), q_bo, q_nat (by omega), woC, q_bx, b2i_0, hd]
        rfl
      · have hd1 : isW (AI u 5 p) = true := by cases h : isW (AI u 5 p) with
          | true => rfl
          | false => exact absurd h hd
        have e0 : wde (AI u 5) k (m + 1) p = wde (AI u 5) k m (p + 1) := by
          show (if k ≤ p then _ else if isW (AI u 5 p) = false then _ else _) = _
          rw [if_neg hkp, if_neg hd]
        have s1 := sf_4_9 (v := Int32.ofNat (p + 1)) hs
        obtain ⟨u2, i1, i2, i3, i4⟩ := ih (p + 1) (uF u 4 9 (.inl (Int32.ofNat (p + 1)))) F s1 (by rw [FI_F (by decide)]; exact hk) (fi_4_9 hs) (by omega)
        rw [AI_F] at i3
        rw [e0]
        refine ⟨u2, i1, (Fr4.one (S := S9) (k := 9) rfl).tr i2, i3, ?_⟩
        rw [← i4]
        show fb_To_word_5 N (gg_To_word N (F + m + 1)) u 4 _ _ = _
        generalize gg_To_word N (F + m + 1) = G
        unfold fb_To_word_5
        rw [gi_4_9 hs, q_bo, gi_4_1 hs, q_bo, h9, hk, ek, q_b0, gr_4_0 hs, q_bo, q_bo, q_bo, ai_5 hs, if_pos (q_inb (by omega) (by decide)), q_bo, q_nat (by omega), woC, q_bx, b2i_0, hd1]
        show br false _ _ = _
        rw [q_b0, gi_4_9 hs, q_bo, h9, q_suc, pf_4_9 hs, q_bo]
def finW (N : Nat) (w : MS) (c : Int32) (n : Int32) : Option (MS × Unit) := bnd (fm_M_wordAt N w (w.1 10) n) (fun u6 r6 => br (decide (r6 = (-1))) (br (decide (n ≤ 16)) (bnd (fm_M_isSmall N u6 c) (fun u7 r7 => br (decide (r7 = 0)) (bnd (fm_M_textOf N u7 15 16 (u7.1 17) 4 (u7.1 10) n) (fun u8 r8 => br (decide (r8 = (u8.1 17))) (fb_M_wordToken_141 N (fun _ _ _ => none) u8 n r8 ((u8.1 17) + 1)) (fb_M_wordToken_141 N (fun _ _ _ => none) u8 n r8 (u8.1 17)))) (bnd (fm_M_atom N u7 4 (u7.1 10) n) (fun u9 r9 => bnd (fm_M_token N u9 1 r9) (fun u10 _ => fb_M_wordToken_151 N (fun _ _ _ => none) u10 n))))) (bnd (fm_M_token N u6 7 0) (fun u11 _ => fb_M_wordToken_151 N (fun _ _ _ => none) u11 n))) (bnd (fm_M_token N u6 3 r6) (fun u12 _ => fb_M_wordToken_151 N (fun _ _ _ => none) u12 n)))
theorem wdM_loop {N k p0 : Nat} {w : MS} {c : Int32} (hk : w.1 5 = Int32.ofNat k) (hk4 : k ≤ 4000) (h10 : w.1 10 = Int32.ofNat p0) (hB : bytB (w.2.2.1 4)) : ∀ (m n F : Nat), p0 + n + m = k + 1 → gg_M_wordToken N (F + m + 1) w c (Int32.ofNat n) = finW N w c (Int32.ofNat (wde (w.2.2.1 4) k m (p0 + n) - p0)) := by
  intro m
  induction m with
  | zero =>
    intro n F hp
    have e1 := atM (N := N) (w := w) (k := k) (p := p0 + n) hk hk4 (by omega)
    have e2 : sgA (w.2.2.1 4) k (p0 + n) = -1 := by unfold sgA; rw [if_neg (by omega)]
    show fb_M_wordToken_2 N (gg_M_wordToken N (F + 0)) _ _ _ = _
    generalize gg_M_wordToken N (F + 0) = G
    unfold fb_M_wordToken_2
    rw [h10, q_add, e1, q_bn, e2, inM, q_bn, b2i_0]
    rw [show wde (w.2.2.1 4) k 0 (p0 + n) - p0 = n from by show p0 + n - p0 = n; omega]
    unfold finW
    rw [h10]
    rfl
  | succ m ih =>
    intro n F hp
    have e1 := atM (N := N) (w := w) (k := k) (p := p0 + n) hk hk4 (by omega)
    by_cases hkp : k ≤ p0 + n
    · have e0 : wde (w.2.2.1 4) k (m + 1) (p0 + n) = p0 + n := if_pos hkp
      have e2 : sgA (w.2.2.1 4) k (p0 + n) = -1 := by unfold sgA; rw [if_neg (by omega)]
      rw [e0]
      show fb_M_wordToken_2 N (gg_M_wordToken N (F + (m + 1))) _ _ _ = _
      generalize gg_M_wordToken N (F + (m + 1)) = G
      unfold fb_M_wordToken_2
      rw [h10, q_add, e1, q_bn, e2, inM, q_bn, b2i_0]
      rw [show p0 + n - p0 = n from by omega]
      unfold finW
      rw [h10]
      rfl
    · have e2 : sgA (w.2.2.1 4) k (p0 + n) = w.2.2.1 4 (p0 + n) &&& 255 := by unfold sgA; rw [if_pos (by omega)]
      have hx := hB (p0 + n) (by omega)
      by_cases hd : isW (w.2.2.1 4 (p0 + n)) = false
      · have e0 : wde (w.2.2.1 4) k (m + 1) (p0 + n) = p0 + n := by
          show (if k ≤ p0 + n then _ else if isW (w.2.2.1 4 (p0 + n)) = false then _ else _) = _
          rw [if_neg hkp, if_pos hd]
        rw [e0]
        show fb_M_wordToken_2 N (gg_M_wordToken N (F + (m + 1))) _ _ _ = _
        generalize gg_M_wordToken N (F + (m + 1)) = G
        unfold fb_M_wordToken_2
        rw [h10, q_add, e1, q_bn, e2, inM, q_bn, b2i_0, w_and hx, hd]
        rw [show p0 + n - p0 = n from by omega]
        unfold finW
        rw [h10]
        rfl
      · have hd1 : isW (w.2.2.1 4 (p0 + n)) = true := by cases h : isW (w.2.2.1 4 (p0 + n)) with
          | true => rfl
          | false => exact absurd h hd
        have e0 : wde (w.2.2.1 4) k (m + 1) (p0 + n) = wde (w.2.2.1 4) k m (p0 + n + 1) := by
          show (if k ≤ p0 + n then _ else if isW (w.2.2.1 4 (p0 + n)) = false then _ else _) = _
          rw [if_neg hkp, if_neg hd]
        have i1 := ih (n + 1) F (by omega)
        rw [e0, show p0 + n + 1 = p0 + (n + 1) from by omega, ← i1]
        show fb_M_wordToken_2 N (gg_M_wordToken N (F + m + 1)) _ _ _ = _
        generalize gg_M_wordToken N (F + m + 1) = G
        unfold fb_M_wordToken_2
        rw [h10, q_add, e1, q_bn, e2, inM, q_bn, b2i_0, w_and hx, hd1]
        show br false _ _ = _
        rw [q_b0, q_suc]
end
section
set_option maxRecDepth 100000
abbrev mtN (sg tx : Nat → Int32) (fr : Nat → Nat) (b len x : Nat) : Prop := fr (x + 1) - fr x = len ∧ eqN sg tx (fr x) b len = true
theorem skN_none {sg tx : Nat → Int32} {fr : Nat → Nat} {b len : Nat} : ∀ m w, skN sg tx fr b len w m = none ↔ ∀ y, w ≤ y → y < w + m → ¬ mtN sg tx fr b len y := by
  intro m
  induction m with
  | zero => intro w; exact ⟨fun _ y h1 h2 => by omega, fun _ => rfl⟩
  | succ m ih =>
    intro w
    show (if mtN sg tx fr b len w then some w else skN sg tx fr b len (w + 1) m) = none ↔ _
    by_cases h : mtN sg tx fr b len w
    · rw [if_pos h]
      exact ⟨fun z => (by cases z), fun z => absurd h (z w (Nat.le_refl _) (by omega))⟩
    · rw [if_neg h, ih (w + 1)]
      constructor
      · intro z y h1 h2
        by_cases e : y = w
        · rw [e]; exact h
        · exact z y (by omega) (by omega)
      · intro z y h1 h2
        exact z y (by omega) (by omega)
theorem skN_some {sg tx : Nat → Int32} {fr : Nat → Nat} {b len x : Nat} : ∀ m w, skN sg tx fr b len w m = some x ↔ (w ≤ x ∧ x < w + m ∧ mtN sg tx fr b len x ∧ ∀ y, w ≤ y → y < x → ¬ mtN sg tx fr b len y) := by
  intro m
  induction m with
  | zero => intro w; exact ⟨fun z => (by cases z), fun z => (by omega)⟩
  | succ m ih =>
    intro w
    show (if mtN sg tx fr b len w then some w else skN sg tx fr b len (w + 1) m) = some x ↔ _
    by_cases h : mtN sg tx fr b len w
    · rw [if_pos h]
      constructor
      · intro z
        have e : w = x := Option.some.inj z
        subst e
        exact ⟨Nat.le_refl _, by omega, h, fun y h1 h2 => by omega⟩
      · rintro ⟨h1, h2, h3, h4⟩
        by_cases e : w = x
        · rw [e]
        · exact absurd h (h4 w (Nat.le_refl _) (by omega))
    · rw [if_neg h, ih (w + 1)]
      constructor
      · rintro ⟨h1, h2, h3, h4⟩
        refine ⟨by omega, by omega, h3, fun y a b => ?_⟩
        by_cases e : y = w
        · rw [e]; exact h
        · exact h4 y (by omega) b
      · rintro ⟨h1, h2, h3, h4⟩
        refine ⟨?_, by omega, h3, fun y a b => h4 y (by omega) b⟩
        by_cases e : w = x
        · rw [← e] at h3; exact absurd h3 h
        · omega
def nmQ (q : Option Nat) (j : Nat) : Nat := match q with
  | none => j + 1
  | some x => if j = x then 0 else if j < x then j + 1 else j
def ncQ (q : Option Nat) (n : Nat) : Nat := match q with
  | none => n + 1
  | some _ => n
def NMR (sc : Nat → Int32) (fc : Nat → Nat) (sr : Nat → Int32) (fr : Nat → Nat) (q : Option Nat) (n : Nat) : Prop :=
  (∀ j, j < n → fr (j + 1) - fr j = fc (nmQ q j + 1) - fc (nmQ q j) ∧ ∀ i, i < fr (j + 1) - fr j → sr (fr j + i) = sc (fc (nmQ q j) + i)) ∧ (fc 0 = 0 ∧ fc 1 = 1 ∧ sc 0 = 95) ∧ (∀ x, q = some x → x < n) ∧ (∀ j, j < n → q ≠ some j → ¬ (fr (j + 1) - fr j = 1 ∧ sr (fr j) = 95))
section NMS
variable {sc sr tc tr : Nat → Int32} {fc fr : Nat → Nat} {q : Option Nat} {n b len : Nat}
theorem nm_mt (h : NMR sc fc sr fr q n) (ht : ∀ i, i < len → tc (b + i) = tr (b + i)) {j : Nat} (hj : j < n) : mtN sr tr fr b len j ↔ mtN sc tc fc b len (nmQ q j) := by
  obtain ⟨h1, h2⟩ := h.1 j hj
  unfold mtN
  rw [← h1]
  constructor
  · rintro ⟨a, c⟩
    refine ⟨a, ?_⟩
    rw [← c, eqN_congr (sg := sc) (sg2 := sc) (tx := tc) (tx2 := tr) len _ b (fun _ _ => rfl) ht]
    exact (eqN_sh len (fr j) (fc (nmQ q j)) b (fun i hi => h2 i (by omega))).symm
  · rintro ⟨a, c⟩
    refine ⟨a, ?_⟩
    rw [← c, eqN_congr (sg := sc) (sg2 := sc) (tx := tc) (tx2 := tr) len _ b (fun _ _ => rfl) ht]
    exact eqN_sh len (fr j) (fc (nmQ q j)) b (fun i hi => h2 i (by omega))
theorem nm_0 (h : NMR sc fc sr fr q n) : mtN sc tc fc b len 0 ↔ (len = 1 ∧ tc b = 95) := by
  obtain ⟨h1, h2, h3⟩ := h.2.1
  unfold mtN
  rw [h1, h2]
  constructor
  · rintro ⟨a, c⟩
    have a : 1 = len := a
    subst a
    have c : (decide (sc 0 = tc b) && true) = true := c
    rw [Bool.and_true, decide_eq_true_eq, h3] at c
    exact ⟨rfl, c.symm⟩
  · rintro ⟨a, c⟩
    subst a
    refine ⟨rfl, ?_⟩
    show (decide (sc 0 = tc b) && true) = true
    rw [Bool.and_true, decide_eq_true_eq, h3, c]
theorem nm_rq (h : NMR sc fc sr fr q n) (ht : ∀ i, i < len → tc (b + i) = tr (b + i)) (hu : len = 1 ∧ tc b = 95) {j : Nat} (hj : j < n) (hq : q ≠ some j) : ¬ mtN sr tr fr b len j := by
  rintro ⟨a, c⟩
  obtain ⟨rfl, hu2⟩ := hu
  have c : (decide (sr (fr j) = tr b) && true) = true := c
  have t0 := ht 0 (by omega)
  rw [Nat.add_zero] at t0
  rw [Bool.and_true, decide_eq_true_eq, ← t0, hu2] at c
  exact h.2.2.2 j hj hq ⟨a, c⟩
theorem nm_find (h : NMR sc fc sr fr q n) (ht : ∀ i, i < len → tc (b + i) = tr (b + i)) :
    (∃ r, r < n ∧ skN sr tr fr b len 0 n = some r ∧ skN sc tc fc b len 0 (ncQ q n) = some (nmQ q r)) ∨
    (skN sr tr fr b len 0 n = none ∧ skN sc tc fc b len 0 (ncQ q n) = none ∧ ¬ (len = 1 ∧ tc b = 95)) ∨
    (skN sr tr fr b len 0 n = none ∧ skN sc tc fc b len 0 (ncQ q n) = some 0 ∧ q = none ∧ (len = 1 ∧ tc b = 95)) := by
  have hm := fun j (hj : j < n) => nm_mt (tc := tc) (tr := tr) (b := b) (len := len) h ht hj
  have h0 := nm_0 (tc := tc) (b := b) (len := len) h
  by_cases hu : len = 1 ∧ tc b = 95
  · have hr := fun j (hj : j < n) hq => nm_rq (tr := tr) h ht hu (j := j) hj hq
    cases hq : q with
    | none =>
      refine Or.inr (Or.inr ⟨(skN_none n 0).mpr (fun y _ hy => hr y (by omega) (by rw [hq]; intro z; cases z)), (skN_some _ 0).mpr ⟨Nat.le_refl _, by show 0 < 0 + (n + 1); omega, h0.mpr hu, fun y _ hy => by omega⟩, rfl, hu⟩)
    | some x =>
      have hx := h.2.2.1 x hq
      refine Or.inl ⟨x, hx, (skN_some n 0).mpr ⟨Nat.zero_le _, by omega, (hm x hx).mpr ?_, fun y _ hy => hr y (by omega) (by rw [hq]; intro z; have := Option.some.inj z; omega)⟩, (skN_some _ 0).mpr ?_⟩
      · rw [hq]; show mtN sc tc fc b len (if x = x then 0 else _); rw [if_pos rfl]; exact h0.mpr hu
      · have e : nmQ (some x) x = 0 := by show (if x = x then 0 else _) = 0; rw [if_pos rfl]
        rw [e]
        exact ⟨Nat.le_refl _, by show 0 < 0 + n; omega, h0.mpr hu, fun y _ hy => by omega⟩
  · have h0n : ¬ mtN sc tc fc b len 0 := fun z => hu (h0.mp z)
    have inv : ∀ c, c ≠ 0 → c < ncQ q n → ∃ j, j < n ∧ nmQ q j = c ∧ (∀ j2, j2 < n → nmQ q j2 < c → nmQ q j2 ≠ 0 → j2 < j) := by
      intro c hc hcn
      cases hq : q with
      | none =>
        rw [hq] at hcn
        have hcn : c < n + 1 := hcn
        refine ⟨c - 1, by omega, by show c - 1 + 1 = c; omega, fun j2 _ h2 _ => ?_⟩
        have h2 : j2 + 1 < c := h2
        omega
      | some x =>
        rw [hq] at hcn
        have hcn : c < n := hcn
        by_cases hcx : c ≤ x
        · refine ⟨c - 1, by omega, ?_, fun j2 _ h2 h3 => ?_⟩
          · show (if c - 1 = x then 0 else if c - 1 < x then c - 1 + 1 else c - 1) = c
            rw [if_neg (by omega), if_pos (by omega)]; omega
          · have h2 : (if j2 = x then 0 else if j2 < x then j2 + 1 else j2) < c := h2
            have h3 : (if j2 = x then 0 else if j2 < x then j2 + 1 else j2) ≠ 0 := h3
            split at h2
            · rename_i e; rw [if_pos e] at h3; exact absurd rfl h3
            · split at h2 <;> omega
        · refine ⟨c, hcn, ?_, fun j2 _ h2 h3 => ?_⟩
          · show (if c = x then 0 else if c < x then c + 1 else c) = c
            rw [if_neg (by omega), if_neg (by omega)]
          · have h2 : (if j2 = x then 0 else if j2 < x then j2 + 1 else j2) < c := h2
            have h3 : (if j2 = x then 0 else if j2 < x then j2 + 1 else j2) ≠ 0 := h3
            split at h2
            · rename_i e; rw [if_pos e] at h3; exact absurd rfl h3
            · split at h2 <;> omega
    have up : ∀ j, j < n → nmQ q j < ncQ q n ∧ ∀ j2, j2 < j → nmQ q j2 ≠ 0 → nmQ q j ≠ 0 → nmQ q j2 < nmQ q j := by
      intro j hj
      cases hq : q with
      | none => exact ⟨by show j + 1 < n + 1; omega, fun j2 h2 _ _ => by show j2 + 1 < j + 1; omega⟩
      | some x =>
        have hx := h.2.2.1 x hq
        refine ⟨?_, fun j2 h2 h3 h4 => ?_⟩
        · show (if j = x then 0 else if j < x then j + 1 else j) < n
          split
          · omega
          · split <;> omega
        · have h3 : (if j2 = x then 0 else if j2 < x then j2 + 1 else j2) ≠ 0 := h3
          have h4 : (if j = x then 0 else if j < x then j + 1 else j) ≠ 0 := h4
          show (if j2 = x then 0 else if j2 < x then j2 + 1 else j2) < (if j = x then 0 else if j < x then j + 1 else j)
          split at h3
          · exact absurd rfl h3
          · split at h4
            · exact absurd rfl h4
            · rename_i a c; rw [if_neg a, if_neg c]; split <;> split <;> omega
    cases hs : skN sr tr fr b len 0 n with
    | some r =>
      obtain ⟨_, r2, r3, r4⟩ := (skN_some n 0).mp hs
      have r2 : r < n := by omega
      have rc := (hm r r2).mp r3
      have rn : nmQ q r ≠ 0 := fun z => h0n (z ▸ rc)
      refine Or.inl ⟨r, r2, rfl, (skN_some _ 0).mpr ⟨Nat.zero_le _, by have := (up r r2).1; omega, rc, fun y _ hy hmy => ?_⟩⟩
      have yn : y ≠ 0 := fun z => h0n (z ▸ hmy)
      obtain ⟨j, j1, j2, j3⟩ := inv y yn (by have := (up r r2).1; omega)
      have jm := (hm j j1).mpr (by rw [j2]; exact hmy)
      have : ¬ j < r := fun z => r4 j (Nat.zero_le _) z jm
      by_cases e : j = r
      · rw [e] at j2; omega
      · have := (up j j1).2 r (by omega) rn (by rw [j2]; exact yn)
        omega
    | none =>
      have hn := (skN_none n 0).mp hs
      refine Or.inr (Or.inl ⟨rfl, (skN_none _ 0).mpr (fun y _ hy hmy => ?_), hu⟩)
      have yn : y ≠ 0 := fun z => h0n (z ▸ hmy)
      obtain ⟨j, j1, j2, j3⟩ := inv y yn (by omega)
      exact hn j (Nat.zero_le _) (by omega) ((hm j j1).mpr (by rw [j2]; exact hmy))
end NMS
end
section
set_option maxRecDepth 100000
def FrC (A : Nat → Prop) (F : Nat → Nat → Prop) (u u2 : CS) : Prop := u2.1 = u.1 ∧ (∀ i, ¬ A i → AI u2 i = AI u i) ∧ (∀ i j, ¬ F i j → FI u2 i j = FI u i j) ∧ ∀ i, 57 ≤ i → u2.2 i = u.2 i
theorem FrC.rf {A : Nat → Prop} {F : Nat → Nat → Prop} {u : CS} : FrC A F u u := ⟨rfl, fun _ _ => rfl, fun _ _ _ => rfl, fun _ _ => rfl⟩
theorem FrC.tr {A : Nat → Prop} {F : Nat → Nat → Prop} {u u2 u3 : CS} (h : FrC A F u u2) (g : FrC A F u2 u3) : FrC A F u u3 := ⟨g.1.trans h.1, fun i a => (g.2.1 i a).trans (h.2.1 i a), fun i j a => (g.2.2.1 i j a).trans (h.2.2.1 i j a), fun i a => (g.2.2.2 i a).trans (h.2.2.2 i a)⟩
theorem FrC.mo {A B : Nat → Prop} {F E : Nat → Nat → Prop} {u u2 : CS} (h : FrC A F u u2) (ha : ∀ i, A i → B i) (hf : ∀ i j, F i j → E i j) : FrC B E u u2 := ⟨h.1, fun i a => h.2.1 i (fun z => a (ha i z)), fun i j a => h.2.2.1 i j (fun z => a (hf i j z)), h.2.2.2⟩
theorem FrC.fi {A : Nat → Prop} {F : Nat → Nat → Prop} {u : CS} {i k : Nat} {v : LV} (hi : i < 57) (hF : F i k) : FrC A F u (uF u i k v) := ⟨uF_1, fun _ _ => AI_F, fun i2 k2 h => FI_F (by
  by_cases e : i2 = i
  · by_cases e2 : k2 = k
    · exact absurd (by rw [e, e2]; exact hF) h
    · exact Or.inr e2
  · exact Or.inl e), fun j hj => uF_ne (by omega)⟩
theorem FrC.ai {A : Nat → Prop} {F : Nat → Nat → Prop} {u : CS} {i : Nat} {g : Nat → Int32} (hi : i < 57) (hA : A i) : FrC A F u (uA u i g) := ⟨uA_1, fun i2 h => AI_A (fun e => h (by rw [e]; exact hA)), fun _ _ _ => FI_A, fun j hj => uA_ne (by omega)⟩
def FrM (I A : Nat → Prop) (w w2 : MS) : Prop := (∀ k, ¬ I k → w2.1 k = w.1 k) ∧ w2.2.1 = w.2.1 ∧ (∀ k, ¬ A k → w2.2.2.1 k = w.2.2.1 k) ∧ w2.2.2.2 = w.2.2.2
theorem FrM.rf {I A : Nat → Prop} {w : MS} : FrM I A w w := ⟨fun _ _ => rfl, rfl, fun _ _ => rfl, rfl⟩
theorem FrM.tr {I A : Nat → Prop} {w w2 w3 : MS} (h : FrM I A w w2) (g : FrM I A w2 w3) : FrM I A w w3 := ⟨fun k a => (g.1 k a).trans (h.1 k a), g.2.1.trans h.2.1, fun k a => (g.2.2.1 k a).trans (h.2.2.1 k a), g.2.2.2.trans h.2.2.2⟩
theorem FrM.mo {I A J B : Nat → Prop} {w w2 : MS} (h : FrM I A w w2) (hi : ∀ k, I k → J k) (ha : ∀ k, A k → B k) : FrM J B w w2 := ⟨fun k a => h.1 k (fun z => a (hi k z)), h.2.1, fun k a => h.2.2.1 k (fun z => a (ha k z)), h.2.2.2⟩
theorem FrM.iI {I A : Nat → Prop} {w : MS} {k : Nat} {v : Int32} (h : I k) : FrM I A w (upI w k v) := ⟨fun j hj => if_neg (fun e => hj (by rw [e]; exact h)), rfl, fun _ _ => rfl, rfl⟩
theorem FrM.iA {I A : Nat → Prop} {w : MS} {k : Nat} {g : Nat → Int32} (h : A k) : FrM I A w (upA w k g) := ⟨fun _ _ => rfl, rfl, fun j hj => if_neg (fun e => hj (by rw [e]; exact h)), rfl⟩
theorem WF_new12 {u : CS} {fr : Nat → Nat} {n b len : Nat} (h : skB u = true) (hw : WF u 12 fr n) (hn : n + 1 < 2101) (hf : fr n + len ≤ 4300) : WF (nwW u 12 (fr n) n b len) 12 (frN fr n len) (n + 1) := by
  obtain ⟨h1, h2, h3, h4, h5⟩ := hw
  have a1 := sa_13 (g := put (AI u 13) (AI u 5) (fr n) b len) h
  have a2 := sa_14 (g := upd (AI u 14) (n + 1) (Int32.ofNat (fr n + len))) a1
  have e3 : AI (nwW u 12 (fr n) n b len) 14 = upd (AI u 14) (n + 1) (Int32.ofNat (fr n + len)) := by
    show AI (uF (uA (uA u 13 (put (AI u 13) (AI u 5) (fr n) b len)) 14 (upd (AI u 14) (n + 1) (Int32.ofNat (fr n + len)))) 12 2 _) 14 = _
    rw [AI_F, fa_14 a1]
  refine ⟨fi_12_2 a2, fun j hj => ?_, fun j hj => ?_, fun j hj => ?_, hn⟩
  · show AI (nwW u 12 (fr n) n b len) 14 j = _
    rw [e3]
    unfold frN
    by_cases e : j = n + 1
    · simp [upd, e]
    · simp [upd, e, h2 j (by omega)]
  · unfold frN
    by_cases e : j = n
    · subst e; simp
    · rw [if_neg (by omega), if_neg (by omega)]
      exact h3 j (by omega)
  · unfold frN
    by_cases e : j = n + 1
    · rw [if_pos e]; exact hf
    · rw [if_neg e]; exact h4 j (by omega)
theorem AI_13_new {u : CS} {fn n b len : Nat} (h : skB u = true) : AI (nwW u 12 fn n b len) 13 = put (AI u 13) (AI u 5) fn b len := by
  show AI (uF (uA (uA u 13 (put (AI u 13) (AI u 5) fn b len)) 14 _) 12 2 _) 13 = _
  rw [AI_F, AI_A (by decide), fa_13 h]
theorem WT3_new15 {w : MS} {fr : Nat → Nat} {n b len : Nat} (hw : WT3 w 15 16 4 fr n) (hn : n + 2 < ln 16) (hf : fr n + len ≤ ln 15) : WT3 (nwT w 15 16 4 (fr n) n b len) 15 16 4 (frN fr n len) (n + 1) := by
  obtain ⟨h1, h2, h3, h4, h5, h6, h7, h8, h9, h10⟩ := hw
  refine ⟨h1, h2, h3, fun j hj => ?_, fun j hj => ?_, fun j hj => ?_, by omega, h8, h9, h10⟩
  · show (upA _ 16 _).2.2.1 16 j = _
    rw [upA_self]
    unfold frN
    by_cases e : j = n + 1
    · simp [upd, e]
    · simp [upd, e, h4 j (by omega)]
  · unfold frN
    by_cases e : j = n
    · subst e; simp
    · rw [if_neg (by omega), if_neg (by omega)]
      exact h5 j (by omega)
  · unfold frN
    by_cases e : j = n + 1
    · rw [if_pos e]; exact hf
    · rw [if_neg e]; exact h6 j (by omega)
theorem frN_lt {fr : Nat → Nat} {n len j : Nat} (h : j ≤ n) : frN fr n len j = fr j := if_neg (by omega)
theorem frN_n {fr : Nat → Nat} {n len : Nat} : frN fr n len (n + 1) = fr n + len := if_pos rfl
theorem put_lo {sg tx : Nat → Int32} {fn b m j : Nat} (h : j < fn) : put sg tx fn b m j = sg j := if_neg (by omega)
theorem put_in {sg tx : Nat → Int32} {fn b m i : Nat} (h : i < m) : put sg tx fn b m (fn + i) = tx (b + i) := by
  unfold put
  rw [if_pos (by omega), show fn + i - fn = i from by omega]
theorem nmQ_lt {q : Option Nat} {n j : Nat} (hq : ∀ x, q = some x → x < n) (hj : j < n) : nmQ q j < ncQ q n := by
  cases q with
  | none => show j + 1 < n + 1; omega
  | some x =>
    have hx := hq x rfl
    show (if j = x then 0 else if j < x then j + 1 else j) < n
    split
    · omega
    · split <;> omega
def NMz (u : CS) (w : MS) (fc fr : Nat → Nat) (q : Option Nat) (n : Nat) : Prop := WF u 12 fc (ncQ q n) ∧ WT3 w 15 16 4 fr n ∧ w.1 17 = Int32.ofNat n ∧ NMR (AI u 13) fc (w.2.2.1 15) fr q n ∧ 1 ≤ ncQ q n
def A12 (i : Nat) : Prop := i = 13 ∨ i = 14
def F12 (i j : Nat) : Prop := i = 12 ∧ j = 2
def A15 (i : Nat) : Prop := i = 15 ∨ i = 16
theorem NM_step {u : CS} {w : MS} {fc fr : Nat → Nat} {q : Option Nat} {n N b len : Nat} (h : skB u = true) (ha : NMz u w fc fr q n) (hb : b + len ≤ 4000) (hl : 1 ≤ len) (hB : bytB (AI u 5)) (ht : ∀ i, i < len → AI u 5 (b + i) = w.2.2.1 4 (b + i)) (hn : n + 2 < 2101) (hfc : fc (ncQ q n) + len ≤ 4300) (hfr : fr n + len ≤ 4300) (hN : (n + 1) * (len + 3) + len + 3 ≤ N) :
    ∃ u2 w1 fc2 fr2 q2 n2 r, fm_Wo_find N u 12 (some 5) (Int32.ofNat b) (Int32.ofNat len) = some (u2, Int32.ofNat (nmQ q2 r)) ∧ fm_M_textOf N w 15 16 (w.1 17) 4 (Int32.ofNat b) (Int32.ofNat len) = some (w1, Int32.ofNat r) ∧ skB u2 = true ∧ n2 = (if r = n then n + 1 else n) ∧ r < n2 ∧ NMz u2 (upI w1 17 (Int32.ofNat n2)) fc2 fr2 q2 n2 ∧ FrC A12 F12 u u2 ∧ FrM (fun _ => False) A15 w w1 ∧ (∀ j, j < n → nmQ q2 j = nmQ q j) ∧ (fc2 (ncQ q2 n2) ≤ fc (ncQ q n) + len ∧ fr2 n2 ≤ fr n + len ∧ (n2 = n → fr2 n2 = fr n)) ∧ fr2 0 = fr 0 := by
  obtain ⟨hw, hw2, h17, hr, h1n⟩ := ha
  have hcn : ncQ q n ≤ n + 1 := by
    cases q with
    | none => exact Nat.le_refl _
    | some x => exact Nat.le_succ n
  have hmul : n ≤ (n + 1) * (len + 3) := Nat.le_trans (by omega) (Nat.le_mul_of_pos_right (n + 1) (by omega))
  have hmul2 : n * (len + 3) ≤ (n + 1) * (len + 3) := Nat.mul_le_mul_right _ (by omega)
  have hmul3 : n + 1 ≤ (n + 1) * (len + 3) := Nat.le_mul_of_pos_right (n + 1) (by omega)
  have l16 : ln 16 = 2200 := rfl
  have l15 : ln 15 = 5000 := rfl
  have l4 : ln 4 = 4000 := rfl
  have f1 := find_na (N := N) (b := b) (len := len) h hw hb (fun j hj => fits_B (hB j hj)) (by omega) hfc (by omega) (by omega)
  have f2 := tx_ok (N := N) (b := b) (len := len) hw2 (by omega) (by omega) (by decide) (by decide) (by omega)
  have f3 := (congrArg (fun z => fm_M_textOf N w 15 16 z 4 (Int32.ofNat b) (Int32.ofNat len)) h17).trans f2
  have wt := WT3_new15 (b := b) (len := len) hw2 (by omega) (by omega)
  rw [f1, show fm_M_textOf N w 15 16 (w.1 17) 4 (Int32.ofNat b) (Int32.ofNat len) = _ from f3]
  have mc := fr_mono hw.2.2.1
  have mr := fr_mono hw2.2.2.2.2.1
  have s1 : skB (nwW u 12 (fc (ncQ q n)) (ncQ q n) b len) = true := sf_12_2 (sa_14 (sa_13 h))
  have c1 : FrC A12 F12 u (nwW u 12 (fc (ncQ q n)) (ncQ q n) b len) := ((FrC.ai (by decide) (Or.inl rfl)).tr (FrC.ai (by decide) (Or.inr rfl))).tr (FrC.fi (by decide) ⟨rfl, rfl⟩)
  have m1 : FrM (fun _ => False) A15 w (nwT w 15 16 4 (fr n) n b len) := (FrM.iA (Or.inl rfl)).tr (FrM.iA (Or.inr rfl))
  have er : (nwT w 15 16 4 (fr n) n b len).2.2.1 15 = put (w.2.2.1 15) (fun j => nrB (w.2.2.1 4 j)) (fr n) b len := by
    show (upA (upA w 15 _) 16 _).2.2.1 15 = _
    rw [upA_ne (by decide), upA_self]
  have tr2 : ∀ i, i < len → nrB (w.2.2.1 4 (b + i)) = AI u 5 (b + i) := fun i hi => by
    rw [← ht i hi]
    exact hB (b + i) (by omega)
  have upI17 : upI w 17 (Int32.ofNat n) = w := by
    unfold upI
    refine Prod.ext (funext fun j => ?_) rfl
    show (if j = 17 then _ else _) = _
    split
    · rename_i e; rw [e, h17]
    · rfl
  have old : ∀ j, j < n → frN fr n len (j + 1) - frN fr n len j = fr (j + 1) - fr j ∧ ∀ i, i < fr (j + 1) - fr j → put (w.2.2.1 15) (fun j => nrB (w.2.2.1 4 j)) (fr n) b len (frN fr n len j + i) = w.2.2.1 15 (fr j + i) := fun j hj => by
    have m9 := mr (n - (j + 1)) (j + 1) (by omega)
    have m8 := hw2.2.2.2.2.1 j hj
    rw [frN_lt (by omega), frN_lt (by omega)]
    exact ⟨rfl, fun i hi => put_lo (by omega)⟩
  rcases nm_find (tc := AI u 5) (tr := w.2.2.1 4) (b := b) (len := len) hr ht with ⟨r, r1, r2, r3⟩ | ⟨r2, r3, r4⟩ | ⟨r2, r3, r4, r5⟩
  · rw [r2, r3]
    refine ⟨u, w, fc, fr, q, n, r, rfl, rfl, h, by rw [if_neg (by omega)], r1, ?_, FrC.rf, FrM.rf, fun _ _ => rfl, ⟨by omega, by omega, fun _ => rfl⟩, rfl⟩
    rw [upI17]
    exact ⟨hw, hw2, h17, hr, h1n⟩
  · rw [r2, r3]
    have e1 : nmQ q n = ncQ q n := by
      cases hq : q with
      | none => rfl
      | some x =>
        have hx := hr.2.2.1 x hq
        show (if n = x then 0 else if n < x then n + 1 else n) = n
        rw [if_neg (by omega), if_neg (by omega)]
    have e2 : ncQ q (n + 1) = ncQ q n + 1 := by cases q <;> rfl
    refine ⟨nwW u 12 (fc (ncQ q n)) (ncQ q n) b len, nwT w 15 16 4 (fr n) n b len, frN fc (ncQ q n) len, frN fr n len, q, n + 1, n, by rw [e1], rfl, s1, by rw [if_pos rfl], by omega, ⟨?_, wt, rfl, ?_, by omega⟩, c1, m1, fun _ _ => rfl, ⟨?_, ?_, fun z => by omega⟩, frN_lt (Nat.zero_le _)⟩
    · rw [e2]; exact WF_new12 h hw (by omega) hfc
    · rw [AI_13_new h]
      show NMR _ _ ((nwT w 15 16 4 (fr n) n b len).2.2.1 15) _ _ _
      rw [er]
      refine ⟨fun j hj => ?_, ⟨?_, ?_, ?_⟩, fun x hx => Nat.lt_succ_of_lt (hr.2.2.1 x hx), fun j hj hq => ?_⟩
      · by_cases e : j = n
        · subst e
          rw [e1, frN_n, frN_lt (Nat.le_refl _), frN_n, frN_lt (Nat.le_refl _)]
          refine ⟨by omega, fun i hi => ?_⟩
          rw [put_in (by omega), put_in (by omega), tr2 i (by omega)]
        · have hj2 : j < n := by omega
          obtain ⟨o1, o2⟩ := old j hj2
          obtain ⟨n1, n2⟩ := hr.1 j hj2
          have nl := nmQ_lt hr.2.2.1 hj2
          have m9 := mc (ncQ q n - (nmQ q j + 1)) (nmQ q j + 1) (by omega)
          rw [o1, frN_lt (by omega), frN_lt (by omega)]
          refine ⟨n1, fun i hi => ?_⟩
          rw [o2 i hi, n2 i hi, put_lo (by omega)]
      · rw [frN_lt (by omega)]; exact hr.2.1.1
      · rw [frN_lt (by omega)]; exact hr.2.1.2.1
      · have := mc (ncQ q n - 1) 1 (by omega)
        rw [hr.2.1.2.1] at this
        rw [put_lo (by omega)]; exact hr.2.1.2.2
      · by_cases e : j = n
        · subst e
          rw [frN_n, frN_lt (Nat.le_refl _)]
          rintro ⟨z1, z2⟩
          have z3 : len = 1 := by omega
          have z4 := put_in (sg := w.2.2.1 15) (tx := fun j => nrB (w.2.2.1 4 j)) (fn := fr j) (b := b) (m := len) (i := 0) (by omega)
          rw [Nat.add_zero] at z4
          rw [z4, tr2 0 (by omega), Nat.add_zero] at z2
          exact r4 ⟨z3, z2⟩
        · have hj2 : j < n := by omega
          obtain ⟨o1, o2⟩ := old j hj2
          rw [o1]
          rintro ⟨z1, z2⟩
          have o3 := o2 0 (by omega)
          rw [Nat.add_zero, Nat.add_zero] at o3
          rw [o3] at z2
          exact hr.2.2.2 j hj2 hq ⟨z1, z2⟩
    · rw [e2, frN_n]; exact Nat.le_refl _
    · rw [frN_n]; exact Nat.le_refl _
  · subst r4
    rw [r2, r3]
    have e3 : ∀ j, j < n → nmQ (some n) j = nmQ none j := fun j hj => by
      show (if j = n then 0 else if j < n then j + 1 else j) = j + 1
      rw [if_neg (by omega), if_pos hj]
    have e4 : nmQ (some n) n = 0 := by show (if n = n then 0 else _) = 0; rw [if_pos rfl]
    refine ⟨u, nwT w 15 16 4 (fr n) n b len, fc, frN fr n len, some n, n + 1, n, by rw [e4], rfl, h, by rw [if_pos rfl], by omega, ⟨hw, wt, rfl, ?_, by show 1 ≤ n + 1; omega⟩, FrC.rf, m1, e3, ⟨Nat.le_trans (Nat.le_refl _) (Nat.le_add_right _ _), by rw [frN_n]; exact Nat.le_refl _, fun z => by omega⟩, frN_lt (Nat.zero_le _)⟩
    show NMR _ _ ((nwT w 15 16 4 (fr n) n b len).2.2.1 15) _ _ _
    rw [er]
    refine ⟨fun j hj => ?_, hr.2.1, fun x hx => by have := Option.some.inj hx; omega, fun j hj hq => ?_⟩
    · by_cases e : j = n
      · subst e
        rw [e4, frN_n, frN_lt (Nat.le_refl _)]
        obtain ⟨g1, g2, g3⟩ := hr.2.1
        rw [g1, g2]
        refine ⟨by omega, fun i hi => ?_⟩
        have hi0 : i = 0 := by omega
        subst hi0
        rw [put_in (by omega), tr2 0 (by omega), Nat.add_zero, r5.2]
        exact g3.symm
      · have hj2 : j < n := by omega
        obtain ⟨o1, o2⟩ := old j hj2
        obtain ⟨n1, n2⟩ := hr.1 j hj2
        rw [o1, e3 j hj2]
        exact ⟨n1, fun i hi => by rw [o2 i hi, n2 i hi]⟩
    · have hj2 : j < n := by
        by_cases e : j = n
        · exact absurd (by rw [e]) hq
        · omega
      obtain ⟨o1, o2⟩ := old j hj2
      rw [o1]
      rintro ⟨z1, z2⟩
      have o3 := o2 0 (by omega)
      rw [Nat.add_zero, Nat.add_zero] at o3
      rw [o3] at z2
      exact hr.2.2.2 j hj2 (fun z => by cases z) ⟨z1, z2⟩
end
section
set_option maxRecDepth 100000
theorem q_inj {a b : Nat} (ha : a < 2147483648) (hb : b < 2147483648) (h : Int32.ofNat a = Int32.ofNat b) : a = b := by
  have := congrArg Int32.toNatClampNeg h
  rw [q_nat ha, q_nat hb] at this
  exact this
theorem upd_self {g : Nat → Int32} {i : Nat} {v : Int32} : upd g i v i = v := if_pos rfl
theorem upd_ne {g : Nat → Int32} {i j : Nat} {v : Int32} (h : j ≠ i) : upd g i v j = g j := if_neg h
def tkM (w : MS) (i : Nat) (s v : Int32) : MS := upI (upA (upA (upA w 6 (upd (w.2.2.1 6) i s)) 7 (upd (w.2.2.1 7) i v)) 8 (upd (w.2.2.1 8) i (w.1 11))) 9 (Int32.ofNat (i + 1))
def A678 (i : Nat) : Prop := i = 6 ∨ i = 7 ∨ i = 8
def I9 (i : Nat) : Prop := i = 9
section TKN
variable {N i : Nat} {w : MS} {s v : Int32}
theorem tok_ok (h9 : w.1 9 = Int32.ofNat i) (hi : i < 4002) : fm_M_token N w s v = some (tkM w i (vp_nar .byte (s.toInt8.toInt32)) v, ()) := by
  unfold fm_M_token fb_M_token_0
  have e : inb (w.1 9) 4002 = true := by rw [h9]; exact q_inb hi (by decide)
  refine Eq.trans (q_ck e) ?_
  rw [q_ls]
  refine Eq.trans (q_ck e) ?_
  rw [q_ls]
  refine Eq.trans (q_ck e) ?_
  rw [q_ls, q_ls]
  have e1 : (w.1 9).toNatClampNeg = i := by rw [h9]; exact q_nat (by omega)
  show some (upI (upA (upA (upA w 6 (upd (w.2.2.1 6) (w.1 9).toNatClampNeg _)) 7 (upd (w.2.2.1 7) (w.1 9).toNatClampNeg v)) 8 (upd (w.2.2.1 8) (w.1 9).toNatClampNeg (w.1 11))) 9 (w.1 9 + 1), ()) = _
  rw [e1, h9, q_suc]
  rfl
theorem tk_fr : FrM I9 A678 w (tkM w i s v) := (((FrM.iA (Or.inl rfl)).tr (FrM.iA (Or.inr (Or.inl rfl)))).tr (FrM.iA (Or.inr (Or.inr rfl)))).tr (FrM.iI rfl)
theorem tk_6 : (tkM w i s v).2.2.1 6 = upd (w.2.2.1 6) i s := rfl
theorem tk_7 : (tkM w i s v).2.2.1 7 = upd (w.2.2.1 7) i v := rfl
theorem tk_8 : (tkM w i s v).2.2.1 8 = upd (w.2.2.1 8) i (w.1 11) := rfl
theorem tk_9 : (tkM w i s v).1 9 = Int32.ofNat (i + 1) := rfl
end TKN
def sgK (m : Nat) : Int32 := Int32.ofNat (20 + m)
def sgV (m : Nat) : Int32 := if m < 18 then r22 (2 * m + 1) else r21 (3 * (m - 18) + 2)
def KV (g : Nat → Int32) (k : Nat) (w18 : Nat → Int32) (q : Option Nat) (na nn ns : Nat) (fs : Nat → Nat) (c a s v : Int32) : Prop :=
  (c = 1 ∧ s = 4 ∧ v = a) ∨ (c = 2 ∧ s = 1 ∧ ∃ r, r < na ∧ v = Int32.ofNat r ∧ a = Int32.ofNat r) ∨ (c = 3 ∧ s = 2 ∧ ∃ r, r < nn ∧ v = Int32.ofNat r ∧ a = Int32.ofNat (nmQ q r)) ∨
  (c = 4 ∧ s = 5 ∧ ∃ r t len, r < ns ∧ v = Int32.ofNat r ∧ a = Int32.ofNat t ∧ len ≤ 40 ∧ fs (r + 1) = fs r + len ∧ t + len < k ∧ sts g k 41 t 0 = some len ∧ ∀ j, j < len → w18 (fs r + j) = g (t + j)) ∨
  (s = 3 ∧ ∃ r, r < 15 ∧ c = Int32.ofNat (5 + r) ∧ v = Int32.ofNat r) ∨ (s = 6 ∧ ∃ m, m < 25 ∧ c = sgK m ∧ v = sgV m)
theorem KV_mono {g w18 w18' : Nat → Int32} {k na nn ns na' nn' ns' : Nat} {q q' : Option Nat} {fs fs' : Nat → Nat} {c a s v : Int32} (h : KV g k w18 q na nn ns fs c a s v) (h1 : na ≤ na') (h2 : nn ≤ nn') (h3 : ns ≤ ns') (hq : ∀ r, r < nn → nmQ q' r = nmQ q r) (hf : ∀ r, r ≤ ns → fs' r = fs r) (hm : ∀ r, r < ns → fs (r + 1) ≤ fs ns) (hw : ∀ j, j < fs ns → w18' j = w18 j) : KV g k w18' q' na' nn' ns' fs' c a s v := by
  rcases h with h | ⟨a1, a2, r, a3, a4, a5⟩ | ⟨a1, a2, r, a3, a4, a5⟩ | ⟨a1, a2, r, t, len, a3, a4, a5, a6, a7, a8, a9, a10⟩ | h | h
  · exact Or.inl h
  · exact Or.inr (Or.inl ⟨a1, a2, r, by omega, a4, a5⟩)
  · exact Or.inr (Or.inr (Or.inl ⟨a1, a2, r, by omega, a4, by rw [hq r a3]; exact a5⟩))
  · refine Or.inr (Or.inr (Or.inr (Or.inl ⟨a1, a2, r, t, len, by omega, a4, a5, a6, ?_, a8, a9, fun j hj => ?_⟩)))
    · rw [hf (r + 1) (by omega), hf r (by omega)]; exact a7
    · have := hm r a3
      rw [hf r (by omega), hw (fs r + j) (by omega)]; exact a10 j hj
  · exact Or.inr (Or.inr (Or.inr (Or.inr (Or.inl h))))
  · exact Or.inr (Or.inr (Or.inr (Or.inr (Or.inr h))))
def CON (u : CS) (w : MS) : Prop := FI u 9 2 = Int32.ofNat 15 ∧ (∀ j, j < 62 → AI u 10 j = sgW j) ∧ (∀ j, j ≤ 15 → AI u 11 j = Int32.ofNat (frW j)) ∧ w.2.2.1 0 = mS0.2.2.1 0 ∧ w.2.2.1 21 = mS0.2.2.1 21 ∧ w.2.2.1 22 = mS0.2.2.1 22 ∧ w.2.2.1 1 = mS0.2.2.1 1 ∧ w.2.2.1 2 = mS0.2.2.1 2
def fa0 (j : Nat) : Nat := [0, 4, 9, 11, 15, 21, 25, 31, 36, 40, 44, 52, 58, 66, 74, 89, 100, 109, 115, 123, 130, 134, 139].getD j 139
def sa0 (j : Nat) : Int32 := ((bytSt.getD 0 []).filter (fun x => x != 32)).getD j 0
abbrev TN := (Nat) × (Nat) × (Nat) × (Nat) × (Nat) × (Nat → Nat) × (Nat) × (Nat → Nat) × (Nat → Nat) × (Option Nat) × (Nat) × (Nat → Nat)
abbrev TN.k (n : TN) : Nat := n.1
abbrev TN.i (n : TN) : Nat := n.2.1
abbrev TN.p (n : TN) : Nat := n.2.2.1
abbrev TN.l (n : TN) : Nat := n.2.2.2.1
abbrev TN.na (n : TN) : Nat := n.2.2.2.2.1
abbrev TN.fa (n : TN) : Nat → Nat := n.2.2.2.2.2.1
abbrev TN.nn (n : TN) : Nat := n.2.2.2.2.2.2.1
abbrev TN.fc (n : TN) : Nat → Nat := n.2.2.2.2.2.2.2.1
abbrev TN.fr (n : TN) : Nat → Nat := n.2.2.2.2.2.2.2.2.1
abbrev TN.q (n : TN) : Option Nat := n.2.2.2.2.2.2.2.2.2.1
abbrev TN.ns (n : TN) : Nat := n.2.2.2.2.2.2.2.2.2.2.1
abbrev TN.fs (n : TN) : Nat → Nat := n.2.2.2.2.2.2.2.2.2.2.2
def TB (u : CS) (w : MS) (n : TN) : Prop := (skB u = true) ∧ (n.k ≤ 4000) ∧ (FI u 4 1 = Int32.ofNat n.k) ∧ (w.1 5 = Int32.ofNat n.k) ∧ (∀ j, j < n.k → AI u 5 j = w.2.2.1 4 j) ∧ (bytB (AI u 5)) ∧ (bytB (w.2.2.1 4)) ∧ (CON u w) ∧ (n.i ≤ n.k) ∧ (FI u 4 5 = Int32.ofNat n.i) ∧ (AT u w n.fa n.na) ∧ (NMz u w n.fc n.fr n.q n.nn) ∧ (22 ≤ n.na) ∧ (w.1 20 = Int32.ofNat n.ns) ∧ (∀ j, j ≤ n.ns → w.2.2.1 19 j = Int32.ofNat (n.fs j)) ∧ (∀ r, r < n.ns → n.fs (r + 1) ≤ n.fs n.ns) ∧ (∀ j, j ≤ 22 → n.fa j = fa0 j) ∧ (∀ j, j < 139 → AI u 2 j = sa0 j) ∧ (n.fr 0 = 0) ∧ (n.fs 0 = 0) ∧ (∀ j, j < n.i → KV (AI u 5) n.k (w.2.2.1 18) n.q n.na n.nn n.ns n.fs (AI u 6 j) (AI u 7 j) (w.2.2.1 6 j) (w.2.2.1 7 j) ∧ AI u 8 j = w.2.2.1 8 j)
theorem TB.sk {u : CS} {w : MS} {n : TN} (h : TB u w n) : skB u = true := h.1
theorem TB.k4 {u : CS} {w : MS} {n : TN} (h : TB u w n) : n.k ≤ 4000 := h.2.1
theorem TB.cu {u : CS} {w : MS} {n : TN} (h : TB u w n) : FI u 4 1 = Int32.ofNat n.k := h.2.2.1
theorem TB.cw {u : CS} {w : MS} {n : TN} (h : TB u w n) : w.1 5 = Int32.ofNat n.k := h.2.2.2.1
theorem TB.ta {u : CS} {w : MS} {n : TN} (h : TB u w n) : ∀ j, j < n.k → AI u 5 j = w.2.2.1 4 j := h.2.2.2.2.1
theorem TB.bu {u : CS} {w : MS} {n : TN} (h : TB u w n) : bytB (AI u 5) := h.2.2.2.2.2.1
theorem TB.bw {u : CS} {w : MS} {n : TN} (h : TB u w n) : bytB (w.2.2.1 4) := h.2.2.2.2.2.2.1
theorem TB.co {u : CS} {w : MS} {n : TN} (h : TB u w n) : CON u w := h.2.2.2.2.2.2.2.1
theorem TB.ik {u : CS} {w : MS} {n : TN} (h : TB u w n) : n.i ≤ n.k := h.2.2.2.2.2.2.2.2.1
theorem TB.iu {u : CS} {w : MS} {n : TN} (h : TB u w n) : FI u 4 5 = Int32.ofNat n.i := h.2.2.2.2.2.2.2.2.2.1
theorem TB.atm {u : CS} {w : MS} {n : TN} (h : TB u w n) : AT u w n.fa n.na := h.2.2.2.2.2.2.2.2.2.2.1
theorem TB.nmm {u : CS} {w : MS} {n : TN} (h : TB u w n) : NMz u w n.fc n.fr n.q n.nn := h.2.2.2.2.2.2.2.2.2.2.2.1
theorem TB.a22 {u : CS} {w : MS} {n : TN} (h : TB u w n) : 22 ≤ n.na := h.2.2.2.2.2.2.2.2.2.2.2.2.1
theorem TB.sw {u : CS} {w : MS} {n : TN} (h : TB u w n) : w.1 20 = Int32.ofNat n.ns := h.2.2.2.2.2.2.2.2.2.2.2.2.2.1
theorem TB.sf {u : CS} {w : MS} {n : TN} (h : TB u w n) : ∀ j, j ≤ n.ns → w.2.2.1 19 j = Int32.ofNat (n.fs j) := h.2.2.2.2.2.2.2.2.2.2.2.2.2.2.1
theorem TB.sm {u : CS} {w : MS} {n : TN} (h : TB u w n) : ∀ r, r < n.ns → n.fs (r + 1) ≤ n.fs n.ns := h.2.2.2.2.2.2.2.2.2.2.2.2.2.2.2.1
theorem TB.f22 {u : CS} {w : MS} {n : TN} (h : TB u w n) : ∀ j, j ≤ 22 → n.fa j = fa0 j := h.2.2.2.2.2.2.2.2.2.2.2.2.2.2.2.2.1
theorem TB.s22 {u : CS} {w : MS} {n : TN} (h : TB u w n) : ∀ j, j < 139 → AI u 2 j = sa0 j := h.2.2.2.2.2.2.2.2.2.2.2.2.2.2.2.2.2.1
theorem TB.r00 {u : CS} {w : MS} {n : TN} (h : TB u w n) : n.fr 0 = 0 := h.2.2.2.2.2.2.2.2.2.2.2.2.2.2.2.2.2.2.1
theorem TB.z00 {u : CS} {w : MS} {n : TN} (h : TB u w n) : n.fs 0 = 0 := h.2.2.2.2.2.2.2.2.2.2.2.2.2.2.2.2.2.2.2.1
theorem TB.tk {u : CS} {w : MS} {n : TN} (h : TB u w n) : ∀ j, j < n.i → KV (AI u 5) n.k (w.2.2.1 18) n.q n.na n.nn n.ns n.fs (AI u 6 j) (AI u 7 j) (w.2.2.1 6 j) (w.2.2.1 7 j) ∧ AI u 8 j = w.2.2.1 8 j := h.2.2.2.2.2.2.2.2.2.2.2.2.2.2.2.2.2.2.2.2
theorem TB.mk1 {u : CS} {w : MS} {n : TN} (sk : skB u = true) (k4 : n.k ≤ 4000) (cu : FI u 4 1 = Int32.ofNat n.k) (cw : w.1 5 = Int32.ofNat n.k) (ta : ∀ j, j < n.k → AI u 5 j = w.2.2.1 4 j) (bu : bytB (AI u 5)) (bw : bytB (w.2.2.1 4)) (co : CON u w) (ik : n.i ≤ n.k) (iu : FI u 4 5 = Int32.ofNat n.i) (atm : AT u w n.fa n.na) (nmm : NMz u w n.fc n.fr n.q n.nn) (a22 : 22 ≤ n.na) (sw : w.1 20 = Int32.ofNat n.ns) (sf : ∀ j, j ≤ n.ns → w.2.2.1 19 j = Int32.ofNat (n.fs j)) (sm : ∀ r, r < n.ns → n.fs (r + 1) ≤ n.fs n.ns) (f22 : ∀ j, j ≤ 22 → n.fa j = fa0 j) (s22 : ∀ j, j < 139 → AI u 2 j = sa0 j) (r00 : n.fr 0 = 0) (z00 : n.fs 0 = 0) (tk : ∀ j, j < n.i → KV (AI u 5) n.k (w.2.2.1 18) n.q n.na n.nn n.ns n.fs (AI u 6 j) (AI u 7 j) (w.2.2.1 6 j) (w.2.2.1 7 j) ∧ AI u 8 j = w.2.2.1 8 j) : TB u w n := ⟨sk, k4, cu, cw, ta, bu, bw, co, ik, iu, atm, nmm, a22, sw, sf, sm, f22, s22, r00, z00, tk⟩
def TK (u : CS) (w : MS) (n : TN) : Prop := (TB u w n) ∧ (n.p ≤ n.k) ∧ (FI u 4 9 = Int32.ofNat n.p) ∧ (w.1 10 = Int32.ofNat n.p) ∧ (n.l ≤ n.p + 1) ∧ (FI u 4 10 = Int32.ofNat n.l) ∧ (w.1 11 = Int32.ofNat n.l) ∧ (n.i ≤ n.p) ∧ (w.1 9 = Int32.ofNat n.i) ∧ (2 * (n.na - 22 + n.nn) ≤ n.p + 1) ∧ (2 * (n.na - 22 + n.nn) = n.p + 1 → n.p = n.k ∨ isW (AI u 5 n.p) = false) ∧ (n.fa n.na ≤ 139 + n.p) ∧ (n.fc (ncQ n.q n.nn) ≤ 1 + n.p) ∧ (n.fr n.nn ≤ n.p) ∧ (2 * n.ns ≤ n.p) ∧ (n.fs n.ns ≤ n.p)
theorem TK.toTB {u : CS} {w : MS} {n : TN} (h : TK u w n) : TB u w n := h.1
theorem TK.sk {u : CS} {w : MS} {n : TN} (h : TK u w n) : skB u = true := (TK.toTB h).sk
theorem TK.k4 {u : CS} {w : MS} {n : TN} (h : TK u w n) : n.k ≤ 4000 := (TK.toTB h).k4
theorem TK.cu {u : CS} {w : MS} {n : TN} (h : TK u w n) : FI u 4 1 = Int32.ofNat n.k := (TK.toTB h).cu
theorem TK.cw {u : CS} {w : MS} {n : TN} (h : TK u w n) : w.1 5 = Int32.ofNat n.k := (TK.toTB h).cw
theorem TK.ta {u : CS} {w : MS} {n : TN} (h : TK u w n) : ∀ j, j < n.k → AI u 5 j = w.2.2.1 4 j := (TK.toTB h).ta
theorem TK.bu {u : CS} {w : MS} {n : TN} (h : TK u w n) : bytB (AI u 5) := (TK.toTB h).bu
theorem TK.bw {u : CS} {w : MS} {n : TN} (h : TK u w n) : bytB (w.2.2.1 4) := (TK.toTB h).bw
theorem TK.co {u : CS} {w : MS} {n : TN} (h : TK u w n) : CON u w := (TK.toTB h).co
theorem TK.ik {u : CS} {w : MS} {n : TN} (h : TK u w n) : n.i ≤ n.k := (TK.toTB h).ik
theorem TK.iu {u : CS} {w : MS} {n : TN} (h : TK u w n) : FI u 4 5 = Int32.ofNat n.i := (TK.toTB h).iu
theorem TK.atm {u : CS} {w : MS} {n : TN} (h : TK u w n) : AT u w n.fa n.na := (TK.toTB h).atm
theorem TK.nmm {u : CS} {w : MS} {n : TN} (h : TK u w n) : NMz u w n.fc n.fr n.q n.nn := (TK.toTB h).nmm
theorem TK.a22 {u : CS} {w : MS} {n : TN} (h : TK u w n) : 22 ≤ n.na := (TK.toTB h).a22
theorem TK.sw {u : CS} {w : MS} {n : TN} (h : TK u w n) : w.1 20 = Int32.ofNat n.ns := (TK.toTB h).sw
theorem TK.sf {u : CS} {w : MS} {n : TN} (h : TK u w n) : ∀ j, j ≤ n.ns → w.2.2.1 19 j = Int32.ofNat (n.fs j) := (TK.toTB h).sf
theorem TK.sm {u : CS} {w : MS} {n : TN} (h : TK u w n) : ∀ r, r < n.ns → n.fs (r + 1) ≤ n.fs n.ns := (TK.toTB h).sm
theorem TK.f22 {u : CS} {w : MS} {n : TN} (h : TK u w n) : ∀ j, j ≤ 22 → n.fa j = fa0 j := (TK.toTB h).f22
theorem TK.s22 {u : CS} {w : MS} {n : TN} (h : TK u w n) : ∀ j, j < 139 → AI u 2 j = sa0 j := (TK.toTB h).s22
theorem TK.r00 {u : CS} {w : MS} {n : TN} (h : TK u w n) : n.fr 0 = 0 := (TK.toTB h).r00
theorem TK.z00 {u : CS} {w : MS} {n : TN} (h : TK u w n) : n.fs 0 = 0 := (TK.toTB h).z00
theorem TK.tk {u : CS} {w : MS} {n : TN} (h : TK u w n) : ∀ j, j < n.i → KV (AI u 5) n.k (w.2.2.1 18) n.q n.na n.nn n.ns n.fs (AI u 6 j) (AI u 7 j) (w.2.2.1 6 j) (w.2.2.1 7 j) ∧ AI u 8 j = w.2.2.1 8 j := (TK.toTB h).tk
theorem TK.pk {u : CS} {w : MS} {n : TN} (h : TK u w n) : n.p ≤ n.k := h.2.1
theorem TK.pu {u : CS} {w : MS} {n : TN} (h : TK u w n) : FI u 4 9 = Int32.ofNat n.p := h.2.2.1
theorem TK.pw {u : CS} {w : MS} {n : TN} (h : TK u w n) : w.1 10 = Int32.ofNat n.p := h.2.2.2.1
theorem TK.lk {u : CS} {w : MS} {n : TN} (h : TK u w n) : n.l ≤ n.p + 1 := h.2.2.2.2.1
theorem TK.lu {u : CS} {w : MS} {n : TN} (h : TK u w n) : FI u 4 10 = Int32.ofNat n.l := h.2.2.2.2.2.1
theorem TK.lw {u : CS} {w : MS} {n : TN} (h : TK u w n) : w.1 11 = Int32.ofNat n.l := h.2.2.2.2.2.2.1
theorem TK.ip {u : CS} {w : MS} {n : TN} (h : TK u w n) : n.i ≤ n.p := h.2.2.2.2.2.2.2.1
theorem TK.iw {u : CS} {w : MS} {n : TN} (h : TK u w n) : w.1 9 = Int32.ofNat n.i := h.2.2.2.2.2.2.2.2.1
theorem TK.b1 {u : CS} {w : MS} {n : TN} (h : TK u w n) : 2 * (n.na - 22 + n.nn) ≤ n.p + 1 := h.2.2.2.2.2.2.2.2.2.1
theorem TK.b2 {u : CS} {w : MS} {n : TN} (h : TK u w n) : 2 * (n.na - 22 + n.nn) = n.p + 1 → n.p = n.k ∨ isW (AI u 5 n.p) = false := h.2.2.2.2.2.2.2.2.2.2.1
theorem TK.b3 {u : CS} {w : MS} {n : TN} (h : TK u w n) : n.fa n.na ≤ 139 + n.p := h.2.2.2.2.2.2.2.2.2.2.2.1
theorem TK.b4 {u : CS} {w : MS} {n : TN} (h : TK u w n) : n.fc (ncQ n.q n.nn) ≤ 1 + n.p := h.2.2.2.2.2.2.2.2.2.2.2.2.1
theorem TK.b5 {u : CS} {w : MS} {n : TN} (h : TK u w n) : n.fr n.nn ≤ n.p := h.2.2.2.2.2.2.2.2.2.2.2.2.2.1
theorem TK.s2 {u : CS} {w : MS} {n : TN} (h : TK u w n) : 2 * n.ns ≤ n.p := h.2.2.2.2.2.2.2.2.2.2.2.2.2.2.1
theorem TK.s3 {u : CS} {w : MS} {n : TN} (h : TK u w n) : n.fs n.ns ≤ n.p := h.2.2.2.2.2.2.2.2.2.2.2.2.2.2.2
theorem TK.mk1 {u : CS} {w : MS} {n : TN} (sk : skB u = true) (k4 : n.k ≤ 4000) (cu : FI u 4 1 = Int32.ofNat n.k) (cw : w.1 5 = Int32.ofNat n.k) (ta : ∀ j, j < n.k → AI u 5 j = w.2.2.1 4 j) (bu : bytB (AI u 5)) (bw : bytB (w.2.2.1 4)) (co : CON u w) (ik : n.i ≤ n.k) (iu : FI u 4 5 = Int32.ofNat n.i) (atm : AT u w n.fa n.na) (nmm : NMz u w n.fc n.fr n.q n.nn) (a22 : 22 ≤ n.na) (sw : w.1 20 = Int32.ofNat n.ns) (sf : ∀ j, j ≤ n.ns → w.2.2.1 19 j = Int32.ofNat (n.fs j)) (sm : ∀ r, r < n.ns → n.fs (r + 1) ≤ n.fs n.ns) (f22 : ∀ j, j ≤ 22 → n.fa j = fa0 j) (s22 : ∀ j, j < 139 → AI u 2 j = sa0 j) (r00 : n.fr 0 = 0) (z00 : n.fs 0 = 0) (tk : ∀ j, j < n.i → KV (AI u 5) n.k (w.2.2.1 18) n.q n.na n.nn n.ns n.fs (AI u 6 j) (AI u 7 j) (w.2.2.1 6 j) (w.2.2.1 7 j) ∧ AI u 8 j = w.2.2.1 8 j) (pk : n.p ≤ n.k) (pu : FI u 4 9 = Int32.ofNat n.p) (pw : w.1 10 = Int32.ofNat n.p) (lk : n.l ≤ n.p + 1) (lu : FI u 4 10 = Int32.ofNat n.l) (lw : w.1 11 = Int32.ofNat n.l) (ip : n.i ≤ n.p) (iw : w.1 9 = Int32.ofNat n.i) (b1 : 2 * (n.na - 22 + n.nn) ≤ n.p + 1) (b2 : 2 * (n.na - 22 + n.nn) = n.p + 1 → n.p = n.k ∨ isW (AI u 5 n.p) = false) (b3 : n.fa n.na ≤ 139 + n.p) (b4 : n.fc (ncQ n.q n.nn) ≤ 1 + n.p) (b5 : n.fr n.nn ≤ n.p) (s2 : 2 * n.ns ≤ n.p) (s3 : n.fs n.ns ≤ n.p) : TK u w n := ⟨⟨sk, k4, cu, cw, ta, bu, bw, co, ik, iu, atm, nmm, a22, sw, sf, sm, f22, s22, r00, z00, tk⟩, pk, pu, pw, lk, lu, lw, ip, iw, b1, b2, b3, b4, b5, s2, s3⟩
theorem TK.mk2 {u : CS} {w : MS} {n : TN} (toTB : TB u w n) (pk : n.p ≤ n.k) (pu : FI u 4 9 = Int32.ofNat n.p) (pw : w.1 10 = Int32.ofNat n.p) (lk : n.l ≤ n.p + 1) (lu : FI u 4 10 = Int32.ofNat n.l) (lw : w.1 11 = Int32.ofNat n.l) (ip : n.i ≤ n.p) (iw : w.1 9 = Int32.ofNat n.i) (b1 : 2 * (n.na - 22 + n.nn) ≤ n.p + 1) (b2 : 2 * (n.na - 22 + n.nn) = n.p + 1 → n.p = n.k ∨ isW (AI u 5 n.p) = false) (b3 : n.fa n.na ≤ 139 + n.p) (b4 : n.fc (ncQ n.q n.nn) ≤ 1 + n.p) (b5 : n.fr n.nn ≤ n.p) (s2 : 2 * n.ns ≤ n.p) (s3 : n.fs n.ns ≤ n.p) : TK u w n := ⟨toTB, pk, pu, pw, lk, lu, lw, ip, iw, b1, b2, b3, b4, b5, s2, s3⟩
def finC (u : CS) (i : Nat) (c : Int32) : CS := uF (uA u 6 (upd (AI u 6) i c)) 4 5 (.inl (Int32.ofNat (i + 1)))
theorem AT_fr {u u2 : CS} {w w2 : MS} {fa : Nat → Nat} {na : Nat} (h : AT u w fa na) (h1 : FI u2 1 2 = FI u 1 2) (h2 : AI u2 3 = AI u 3) (h3 : AI u2 2 = AI u 2) (h4 : w2.1 14 = w.1 14) (h5 : w2.2.2.1 12 = w.2.2.1 12) (h6 : w2.2.2.1 13 = w.2.2.1 13) : AT u2 w2 fa na := by
  obtain ⟨⟨a1, a2, a3⟩, ⟨b1, b2, b3, b4, b5⟩, c1, c2⟩ := h
  refine ⟨⟨by rw [h1]; exact a1, fun j hj => ?_, a3⟩, ⟨b1, b2, b3, fun j hj => ?_, b5⟩, by rw [h4]; exact c1, fun j hj => ?_⟩
  · show AI u2 3 j = _; rw [h2]; exact a2 j hj
  · rw [h6]; exact b4 j hj
  · rw [h3, h5]; exact c2 j hj
theorem NM_fr {u u2 : CS} {w w2 : MS} {fc fr : Nat → Nat} {q : Option Nat} {nn : Nat} (h : NMz u w fc fr q nn) (h1 : FI u2 12 2 = FI u 12 2) (h2 : AI u2 14 = AI u 14) (h3 : AI u2 13 = AI u 13) (h4 : w2.1 17 = w.1 17) (h5 : w2.2.2.1 15 = w.2.2.1 15) (h6 : w2.2.2.1 16 = w.2.2.1 16) : NMz u2 w2 fc fr q nn := by
  obtain ⟨⟨a1, a2, a3⟩, ⟨b1, b2, b3, b4, b5⟩, c1, c2, c3⟩ := h
  refine ⟨⟨by rw [h1]; exact a1, fun j hj => ?_, a3⟩, ⟨b1, b2, b3, fun j hj => ?_, b5⟩, by rw [h4]; exact c1, by rw [h3, h5]; exact c2, c3⟩
  · show AI u2 14 j = _; rw [h2]; exact a2 j hj
  · rw [h6]; exact b4 j hj
end
section
set_option maxRecDepth 100000
def CF (u u2 : CS) (i : Nat) (a : Int32) : Prop := (skB u2 = true) ∧ (AI u2 5 = AI u 5) ∧ (AI u2 6 = AI u 6) ∧ (AI u2 8 = AI u 8) ∧ (∀ j, j < i → AI u2 7 j = AI u 7 j) ∧ (AI u2 7 i = a) ∧ (AI u2 10 = AI u 10) ∧ (AI u2 11 = AI u 11) ∧ (FI u2 4 1 = FI u 4 1) ∧ (FI u2 4 5 = FI u 4 5) ∧ (FI u2 4 10 = FI u 4 10) ∧ (FI u2 9 2 = FI u 9 2)
theorem CF.sk2 {u u2 : CS} {i : Nat} {a : Int32} (h : CF u u2 i a) : skB u2 = true := h.1
theorem CF.a5 {u u2 : CS} {i : Nat} {a : Int32} (h : CF u u2 i a) : AI u2 5 = AI u 5 := h.2.1
theorem CF.a6 {u u2 : CS} {i : Nat} {a : Int32} (h : CF u u2 i a) : AI u2 6 = AI u 6 := h.2.2.1
theorem CF.a8 {u u2 : CS} {i : Nat} {a : Int32} (h : CF u u2 i a) : AI u2 8 = AI u 8 := h.2.2.2.1
theorem CF.a7 {u u2 : CS} {i : Nat} {a : Int32} (h : CF u u2 i a) : ∀ j, j < i → AI u2 7 j = AI u 7 j := h.2.2.2.2.1
theorem CF.a7i {u u2 : CS} {i : Nat} {a : Int32} (h : CF u u2 i a) : AI u2 7 i = a := h.2.2.2.2.2.1
theorem CF.a10 {u u2 : CS} {i : Nat} {a : Int32} (h : CF u u2 i a) : AI u2 10 = AI u 10 := h.2.2.2.2.2.2.1
theorem CF.a11 {u u2 : CS} {i : Nat} {a : Int32} (h : CF u u2 i a) : AI u2 11 = AI u 11 := h.2.2.2.2.2.2.2.1
theorem CF.f41 {u u2 : CS} {i : Nat} {a : Int32} (h : CF u u2 i a) : FI u2 4 1 = FI u 4 1 := h.2.2.2.2.2.2.2.2.1
theorem CF.f45 {u u2 : CS} {i : Nat} {a : Int32} (h : CF u u2 i a) : FI u2 4 5 = FI u 4 5 := h.2.2.2.2.2.2.2.2.2.1
theorem CF.f410 {u u2 : CS} {i : Nat} {a : Int32} (h : CF u u2 i a) : FI u2 4 10 = FI u 4 10 := h.2.2.2.2.2.2.2.2.2.2.1
theorem CF.f92 {u u2 : CS} {i : Nat} {a : Int32} (h : CF u u2 i a) : FI u2 9 2 = FI u 9 2 := h.2.2.2.2.2.2.2.2.2.2.2
theorem CF.mk1 {u u2 : CS} {i : Nat} {a : Int32} (sk2 : skB u2 = true) (a5 : AI u2 5 = AI u 5) (a6 : AI u2 6 = AI u 6) (a8 : AI u2 8 = AI u 8) (a7 : ∀ j, j < i → AI u2 7 j = AI u 7 j) (a7i : AI u2 7 i = a) (a10 : AI u2 10 = AI u 10) (a11 : AI u2 11 = AI u 11) (f41 : FI u2 4 1 = FI u 4 1) (f45 : FI u2 4 5 = FI u 4 5) (f410 : FI u2 4 10 = FI u 4 10) (f92 : FI u2 9 2 = FI u 9 2) : CF u u2 i a := ⟨sk2, a5, a6, a8, a7, a7i, a10, a11, f41, f45, f410, f92⟩
def IWz (k : Nat) : Prop := k = 14 ∨ k = 17
def AW (k : Nat) : Prop := k = 12 ∨ k = 13 ∨ k = 15 ∨ k = 16
theorem AWn {k : Nat} (h1 : k ≠ 12) (h2 : k ≠ 13) (h3 : k ≠ 15) (h4 : k ≠ 16) : ¬ AW k := fun z => by
  rcases z with z | z | z | z
  · exact h1 z
  · exact h2 z
  · exact h3 z
  · exact h4 z
theorem IWn {k : Nat} (h1 : k ≠ 14) (h2 : k ≠ 17) : ¬ IWz k := fun z => by
  rcases z with z | z
  · exact h1 z
  · exact h2 z
theorem fin_sk {u : CS} {i : Nat} {c : Int32} (h : skB u = true) : skB (finC u i c) = true := sf_4_5 (sa_6 h)
theorem fin_A {u : CS} {i j : Nat} {c : Int32} (h : j ≠ 6) : AI (finC u i c) j = AI u j := by
  unfold finC
  rw [AI_F, AI_A h]
theorem fin_6 {u : CS} {i : Nat} {c : Int32} (h : skB u = true) : AI (finC u i c) 6 = upd (AI u 6) i c := by
  unfold finC
  rw [AI_F, fa_6 h]
theorem fin_F {u : CS} {i a b : Nat} {c : Int32} (h : a ≠ 4 ∨ b ≠ 5) : FI (finC u i c) a b = FI u a b := by
  unfold finC
  rw [FI_F h, FI_A]
theorem fin_5 {u : CS} {i : Nat} {c : Int32} (h : skB u = true) : FI (finC u i c) 4 5 = Int32.ofNat (i + 1) := fi_4_5 (sa_6 h)
section NXT
variable {u u2 : CS} {w w1 : MS} {n : TN} {c a s v : Int32}
theorem TK_next {p2 na2 nn2 : Nat} {fa2 fc2 fr2 : Nat → Nat} {q2 : Option Nat} (h : TK u w n) (hl : AI u 8 n.i = Int32.ofNat n.l) (cf : CF u u2 n.i a) (p9 : FI u2 4 9 = Int32.ofNat p2) (m : FrM IWz AW w w1) (hp : n.p < p2) (hpk : p2 ≤ n.k) (at2 : AT u2 w1 fa2 na2) (nm2 : NMz u2 w1 fc2 fr2 q2 nn2) (hna : n.na ≤ na2) (hnn : n.nn ≤ nn2) (hq : ∀ r, r < n.nn → nmQ q2 r = nmQ n.q r)
    (b1 : 2 * (na2 - 22 + nn2) ≤ p2 + 1) (b2 : 2 * (na2 - 22 + nn2) = p2 + 1 → p2 = n.k ∨ isW (AI u 5 p2) = false) (b3 : fa2 na2 ≤ 139 + p2) (b4 : fc2 (ncQ q2 nn2) ≤ 1 + p2) (b5 : fr2 nn2 ≤ p2) (hf22 : ∀ j, j ≤ 22 → fa2 j = fa0 j) (hs22 : ∀ j, j < 139 → AI u2 2 j = sa0 j) (hr0 : fr2 0 = 0)
    (kv : KV (AI u 5) n.k (w.2.2.1 18) q2 na2 nn2 n.ns n.fs c a s v) :
    TK (finC u2 n.i c) (upI (tkM w1 n.i s v) 10 (Int32.ofNat p2)) ⟨n.k, n.i + 1, p2, n.l, na2, fa2, nn2, fc2, fr2, q2, n.ns, n.fs⟩ := by
  have mA : ∀ k, k ≠ 12 → k ≠ 13 → k ≠ 15 → k ≠ 16 → w1.2.2.1 k = w.2.2.1 k := fun k x1 x2 x3 x4 => m.2.2.1 k (AWn x1 x2 x3 x4)
  have mI : ∀ k, k ≠ 14 → k ≠ 17 → w1.1 k = w.1 k := fun k x1 x2 => m.1 k (IWn x1 x2)
  have w2A : ∀ k, k ≠ 6 → k ≠ 7 → k ≠ 8 → (upI (tkM w1 n.i s v) 10 (Int32.ofNat p2)).2.2.1 k = w1.2.2.1 k := fun k x1 x2 x3 => (tk_fr (w := w1) (i := n.i) (s := s) (v := v)).2.2.1 k (fun z => by
    rcases z with z | z | z
    · exact x1 z
    · exact x2 z
    · exact x3 z)
  have w2I : ∀ k, k ≠ 9 → k ≠ 10 → (upI (tkM w1 n.i s v) 10 (Int32.ofNat p2)).1 k = w1.1 k := fun k x1 x2 => by
    show (if k = 10 then _ else (tkM w1 n.i s v).1 k) = _
    rw [if_neg x2]
    exact (tk_fr (w := w1) (i := n.i) (s := s) (v := v)).1 k x1
  have hi := h.ip
  have hpk0 := h.pk
  obtain ⟨c1, c2, c3, c4, c5, c6, c7, c8⟩ := h.co
  refine (TK.mk1 (sk := fin_sk cf.sk2) (k4 := h.k4) (cu := ?_) (cw := ?_) (ta := fun j hj => ?_) (bu := ?_) (bw := ?_) (co := ⟨?_, fun j hj => ?_, fun j hj => ?_, ?_, ?_, ?_, ?_, ?_⟩) (ik := ?_) (iu := fin_5 cf.sk2) (atm := ?_) (nmm := ?_) (a22 := Nat.le_trans h.a22 hna) (sw := ?_) (sf := fun j hj => ?_) (sm := h.sm) (f22 := hf22) (s22 := fun j hj => (congrFun (fin_A (by decide)) j).trans (hs22 j hj)) (r00 := hr0) (z00 := h.z00) (tk := fun j hj => ?_) (pk := hpk) (pu := ?_) (pw := rfl) (lk := ?_) (lu := ?_) (lw := ?_) (ip := ?_) (iw := rfl) (b1 := b1) (b2 := fun z => ?_) (b3 := b3) (b4 := b4) (b5 := b5) (s2 := ?_) (s3 := ?_))
  · rw [fin_F (by decide), cf.f41]; exact h.cu
  · rw [w2I 5 (by decide) (by decide), mI 5 (by decide) (by decide)]; exact h.cw
  · rw [fin_A (by decide), cf.a5, w2A 4 (by decide) (by decide) (by decide), mA 4 (by decide) (by decide) (by decide) (by decide)]; exact h.ta j hj
  · rw [fin_A (by decide), cf.a5]; exact h.bu
  · rw [w2A 4 (by decide) (by decide) (by decide), mA 4 (by decide) (by decide) (by decide) (by decide)]; exact h.bw
  · rw [fin_F (by decide), cf.f92]; exact c1
  · rw [fin_A (by decide), cf.a10]; exact c2 j hj
  · rw [fin_A (by decide), cf.a11]; exact c3 j hj
  · rw [w2A 0 (by decide) (by decide) (by decide), mA 0 (by decide) (by decide) (by decide) (by decide)]; exact c4
  · rw [w2A 21 (by decide) (by decide) (by decide), mA 21 (by decide) (by decide) (by decide) (by decide)]; exact c5
  · rw [w2A 22 (by decide) (by decide) (by decide), mA 22 (by decide) (by decide) (by decide) (by decide)]; exact c6
  · rw [w2A 1 (by decide) (by decide) (by decide), mA 1 (by decide) (by decide) (by decide) (by decide)]; exact c7
  · rw [w2A 2 (by decide) (by decide) (by decide), mA 2 (by decide) (by decide) (by decide) (by decide)]; exact c8
  · show n.i + 1 ≤ n.k; omega
  · exact AT_fr at2 (fin_F (by decide)) (fin_A (by decide)) (fin_A (by decide)) (w2I 14 (by decide) (by decide)) (w2A 12 (by decide) (by decide) (by decide)) (w2A 13 (by decide) (by decide) (by decide))
  · exact NM_fr nm2 (fin_F (by decide)) (fin_A (by decide)) (fin_A (by decide)) (w2I 17 (by decide) (by decide)) (w2A 15 (by decide) (by decide) (by decide)) (w2A 16 (by decide) (by decide) (by decide))
  · rw [w2I 20 (by decide) (by decide), mI 20 (by decide) (by decide)]; exact h.sw
  · rw [w2A 19 (by decide) (by decide) (by decide), mA 19 (by decide) (by decide) (by decide) (by decide)]; exact h.sf j hj
  · rw [fin_6 cf.sk2, fin_A (by decide), fin_A (by decide), fin_A (by decide), cf.a5, cf.a6, cf.a8, w2A 18 (by decide) (by decide) (by decide), mA 18 (by decide) (by decide) (by decide) (by decide)]
    show KV (AI u 5) n.k (w.2.2.1 18) q2 na2 nn2 n.ns n.fs _ _ (upd (w1.2.2.1 6) n.i s j) (upd (w1.2.2.1 7) n.i v j) ∧ _ = upd (w1.2.2.1 8) n.i (w1.1 11) j
    by_cases e : j = n.i
    · subst e
      rw [upd_self, upd_self, upd_self, upd_self, cf.a7i]
      refine ⟨kv, ?_⟩
      rw [hl, mI 11 (by decide) (by decide), h.lw]
    · have hj : j < n.i + 1 := hj
      have hj2 : j < n.i := by omega
      obtain ⟨k1, k2⟩ := h.tk j hj2
      rw [upd_ne e, upd_ne e, upd_ne e, upd_ne e, cf.a7 j hj2, mA 6 (by decide) (by decide) (by decide) (by decide), mA 7 (by decide) (by decide) (by decide) (by decide), mA 8 (by decide) (by decide) (by decide) (by decide)]
      exact ⟨KV_mono k1 hna hnn (Nat.le_refl _) hq (fun _ _ => rfl) h.sm (fun _ _ => rfl), k2⟩
  · rw [fin_F (by decide)]; exact p9
  · show n.l ≤ p2 + 1; have := h.lk; omega
  · rw [fin_F (by decide), cf.f410]; exact h.lu
  · rw [w2I 11 (by decide) (by decide), mI 11 (by decide) (by decide)]; exact h.lw
  · show n.i + 1 ≤ p2; omega
  · rw [fin_A (by decide), cf.a5]; exact b2 z
  · show 2 * n.ns ≤ p2; have := h.s2; omega
  · show n.fs n.ns ≤ p2; have := h.s3; omega
theorem TB_bad {p2 : Int32} (h : TK u w n) (cf : CF u u2 n.i a) (h1 : FI u2 1 2 = FI u 1 2) (h2 : AI u2 3 = AI u 3) (h3 : AI u2 2 = AI u 2) (h4 : FI u2 12 2 = FI u 12 2) (h5 : AI u2 14 = AI u 14) (h6 : AI u2 13 = AI u 13) : TB u2 (upI (tkM w n.i s v) 10 p2) n := by
  have w2A : ∀ k, k ≠ 6 → k ≠ 7 → k ≠ 8 → (upI (tkM w n.i s v) 10 p2).2.2.1 k = w.2.2.1 k := fun k x1 x2 x3 => (tk_fr (w := w) (i := n.i) (s := s) (v := v)).2.2.1 k (fun z => by
    rcases z with z | z | z
    · exact x1 z
    · exact x2 z
    · exact x3 z)
  have w2I : ∀ k, k ≠ 9 → k ≠ 10 → (upI (tkM w n.i s v) 10 p2).1 k = w.1 k := fun k x1 x2 => by
    show (if k = 10 then _ else (tkM w n.i s v).1 k) = _
    rw [if_neg x2]
    exact (tk_fr (w := w) (i := n.i) (s := s) (v := v)).1 k x1
  obtain ⟨c1, c2, c3, c4, c5, c6, c7, c8⟩ := h.co
  refine (TB.mk1 (sk := cf.sk2) (k4 := h.k4) (cu := ?_) (cw := ?_) (ta := fun j hj => ?_) (bu := ?_) (bw := ?_) (co := ⟨?_, fun j hj => ?_, fun j hj => ?_, ?_, ?_, ?_, ?_, ?_⟩) (ik := h.ik) (iu := ?_) (atm := ?_) (nmm := ?_) (a22 := h.a22) (sw := ?_) (sf := fun j hj => ?_) (sm := h.sm) (f22 := h.f22) (s22 := fun j hj => (congrFun h3 j).trans (h.s22 j hj)) (r00 := h.r00) (z00 := h.z00) (tk := fun j hj => ?_))
  · rw [cf.f41]; exact h.cu
  · rw [w2I 5 (by decide) (by decide)]; exact h.cw
  · rw [cf.a5, w2A 4 (by decide) (by decide) (by decide)]; exact h.ta j hj
  · rw [cf.a5]; exact h.bu
  · rw [w2A 4 (by decide) (by decide) (by decide)]; exact h.bw
  · rw [cf.f92]; exact c1
  · rw [cf.a10]; exact c2 j hj
  · rw [cf.a11]; exact c3 j hj
  · rw [w2A 0 (by decide) (by decide) (by decide)]; exact c4
  · rw [w2A 21 (by decide) (by decide) (by decide)]; exact c5
  · rw [w2A 22 (by decide) (by decide) (by decide)]; exact c6
  · rw [w2A 1 (by decide) (by decide) (by decide)]; exact c7
  · rw [w2A 2 (by decide) (by decide) (by decide)]; exact c8
  · rw [cf.f45]; exact h.iu
  · exact AT_fr h.atm h1 h2 h3 (w2I 14 (by decide) (by decide)) (w2A 12 (by decide) (by decide) (by decide)) (w2A 13 (by decide) (by decide) (by decide))
  · exact NM_fr h.nmm h4 h5 h6 (w2I 17 (by decide) (by decide)) (w2A 15 (by decide) (by decide) (by decide)) (w2A 16 (by decide) (by decide) (by decide))
  · rw [w2I 20 (by decide) (by decide)]; exact h.sw
  · rw [w2A 19 (by decide) (by decide) (by decide)]; exact h.sf j hj
  · obtain ⟨k1, k2⟩ := h.tk j hj
    rw [cf.a5, cf.a6, cf.a8, cf.a7 j hj, w2A 18 (by decide) (by decide) (by decide)]
    show KV _ _ _ _ _ _ _ _ _ _ (upd (w.2.2.1 6) n.i s j) (upd (w.2.2.1 7) n.i v j) ∧ _ = upd (w.2.2.1 8) n.i (w.1 11) j
    rw [upd_ne (by omega), upd_ne (by omega), upd_ne (by omega)]
    exact ⟨k1, k2⟩
end NXT
end
