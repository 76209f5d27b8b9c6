set_option maxRecDepth 100000
def LNB (u : MS) (q : Nat) : Prop := (∃ a, a ≤ 10 ∧ F u (pq q 45) = ((64 * 2 ^ a : Nat) : Int)) ∧ (∃ b, b ≤ 6 ∧ F u (pq q 43) = ((64 * 2 ^ b : Nat) : Int) ∧ F u (pq q 42) = ((64 * 2 ^ b : Nat) : Int)) ∧ ∃ c, c ≤ 8 ∧ F u (pq q 47) = ((32 * 2 ^ c : Nat) : Int) ∧ 4 * F u (pq q 28) ≤ F u (pq q 47)
section
variable {Fv : Int64 → Int64 → Prop} {P : Int64 → Prop} {u v w m m2 : MS} {PR N q r n B W Y k l : Nat} {ow kd : Nat → Nat} {t : Int64} {gi gl ga ki kl ka kj : List Nat}
theorem p2_le {a b : Nat} (h : a ≤ b) : 2 ^ a ≤ 2 ^ b := Nat.pow_le_pow_right (by decide) h
theorem LNB_45 (h : LNB u q) : ∃ l, F u (pq q 45) = ((l : Nat) : Int) ∧ 64 ≤ l ∧ l ≤ 65536 := by
  obtain ⟨⟨a, a1, a2⟩, -⟩ := h
  have := p2_le a1
  have h1 : 1 ≤ 2 ^ a := Nat.one_le_two_pow
  refine ⟨_, a2, by omega, ?_⟩
  have e : 2 ^ 10 = 1024 := rfl
  omega
theorem LNB_43 (h : LNB u q) : ∃ l, F u (pq q 43) = ((l : Nat) : Int) ∧ F u (pq q 42) = ((l : Nat) : Int) ∧ 64 ≤ l ∧ l ≤ 4096 := by
  obtain ⟨-, ⟨a, a1, a2, a3⟩, -⟩ := h
  have := p2_le a1
  have h1 : 1 ≤ 2 ^ a := Nat.one_le_two_pow
  refine ⟨_, a2, a3, by omega, ?_⟩
  have e : 2 ^ 6 = 64 := rfl
  omega
theorem LNB_47 (h : LNB u q) : ∃ l, F u (pq q 47) = ((l : Nat) : Int) ∧ 32 ≤ l ∧ l ≤ 8192 ∧ l % 4 = 0 := by
  obtain ⟨-, -, ⟨a, a1, a2, -⟩⟩ := h
  have := p2_le a1
  have h1 : 1 ≤ 2 ^ a := Nat.one_le_two_pow
  refine ⟨_, a2, by omega, ?_, by omega⟩
  have e : 2 ^ 8 = 256 := rfl
  omega
theorem LNB_fc (h : LNB u q) (h1 : ∀ k, k ∈ [42, 43, 45, 47, 28] → w.1 (pq q k) = u.1 (pq q k)) : LNB w q := by
  have e : ∀ k, k ∈ [42, 43, 45, 47, 28] → F w (pq q k) = F u (pq q k) := fun k hk => congrArg _ (h1 k hk)
  unfold LNB
  rw [e 42 (by simp), e 43 (by simp), e 45 (by simp), e 47 (by simp), e 28 (by simp)]; exact h
theorem LNB_k (h : LNB u q) (f : FC q gi gl ga ki kl ka kj u w) (hk : ∀ k, k ∈ [42, 43, 45, 47, 28] → k ∉ ki) : LNB w q := LNB_fc h (fun k z => f.2.2.2.2.1 q k (by simp at z; omega) (fun _ => hk k z))
theorem LNB_o (h : LNB u r) (f : FC q gi gl ga ki kl ka kj u w) (hr : r ≠ q) : LNB w r := LNB_fc h (fun k z => f.2.2.2.2.1 r k (by simp at z; omega) (fun e => absurd e hr))
theorem LNB_w (h : LNB u q) (f : WFR u w) : LNB w q := LNB_fc h (fun k z => f.1 q k (by simp at z; omega) (by simp at z ⊢; omega))
theorem LNB_28 (h : LNB u q) (h1 : ∀ k, k ∈ [42, 43, 45, 47] → w.1 (pq q k) = u.1 (pq q k)) (h2 : 4 * F w (pq q 28) ≤ F u (pq q 47)) : LNB w q := by
  have e : ∀ k, k ∈ [42, 43, 45, 47] → F w (pq q k) = F u (pq q k) := fun k hk => congrArg _ (h1 k hk)
  obtain ⟨a, b, c, c1, c2, c3⟩ := h
  refine ⟨by rw [e 45 (by simp)]; exact a, by rw [e 42 (by simp), e 43 (by simp)]; exact b, c, c1, by rw [e 47 (by simp)]; exact c2, by rw [e 47 (by simp)]; exact h2⟩
theorem LNB_c (h : LNB u q) : 4 * F u (pq q 28) ≤ F u (pq q 47) := by
  obtain ⟨-, -, c, -, -, c3⟩ := h
  exact c3
theorem below_e {x : Int} (hW : F u (pq q 26) = ((W : Nat) : Int)) (hl : F u (pq q 45) = ((l : Nat) : Int)) (h1 : W ≤ l) (h2 : l ≤ 1000000) (hx : x = ((k : Nat) : Int)) (hk : k < W) : hm_Fr_below N u q (I x) = some (u, u.2.2.2 (pq q 35) (W - 1 - k)) := by
  unfold hm_Fr_below hb_Fr_below_0 hb_Fr_below_23
  rw [hx, I_F (k := pq q 26), hW, lit0q, lit1q, I_sub, I_sub, decI (by decide) (by decide) (by omega) (by omega), decide_eq_true (by omega), br_tq, lnQ_e hl, (I_inb (by omega) (by omega)).mpr ⟨by omega, by omega⟩, ck_t, tnI (n := W - 1 - k) (by omega) (by omega)]
theorem drop_e {x : Int} (hW : F u (pq q 26) = ((W : Nat) : Int)) (hx : x = ((k : Nat) : Int)) (hk : k ≤ W) : hm_Fr_drop N u q (I x) = some (wi u (pq q 26) ((W - k : Nat) : Int), ()) := by
  have r := F_r u (pq q 26)
  unfold hm_Fr_drop hb_Fr_drop_0
  rw [hx, I_F (k := pq q 26), hW, I_sub, lit0q, show ((W : Nat) : Int) - ((k : Nat) : Int) = ((W - k : Nat) : Int) by omega]
  by_cases e : 0 < W - k
  · rw [if_pos (I_lt (by decide) (by decide) (by omega) (by omega) |>.mpr (by omega))]; rfl
  · rw [if_neg (fun z => e (by have := (I_lt (by decide) (by decide) (by omega) (by omega)).mp z; omega)), show W - k = 0 by omega]; rfl
theorem forgetc_e {x : Int} (hW : F u (pq q 24) = ((B : Nat) : Int)) (hx : x = ((k : Nat) : Int)) (hk : k ≤ B) : hm_Fr_forget N u q (I x) = some (wi u (pq q 24) ((B - k : Nat) : Int), ()) := by
  have r := F_r u (pq q 24)
  unfold hm_Fr_forget hb_Fr_forget_0
  rw [hx, I_F (k := pq q 24), hW, I_sub, lit0q, show ((B : Nat) : Int) - ((k : Nat) : Int) = ((B - k : Nat) : Int) by omega]
  by_cases e : 0 < B - k
  · rw [if_pos (I_lt (by decide) (by decide) (by omega) (by omega) |>.mpr (by omega))]; rfl
  · rw [if_neg (fun z => e (by have := (I_lt (by decide) (by decide) (by omega) (by omega)).mp z; omega)), show B - k = 0 by omega]; rfl
theorem grw_I {x : Int} (h : 32 ≤ x ∧ x ≤ 33554432) : grw (I x) = true := by
  unfold grw
  refine decide_eq_true ⟨?_, ?_⟩
  · exact (I_le (by decide) (by decide) (by omega) (by omega)).mpr h.1
  · exact (I_le (by omega) (by omega) (by decide) (by decide)).mpr h.2
theorem gJ_e (hl : F u (pq q l) = ((k : Nat) : Int)) (hk : k < 1000000000) {j : Nat} : ∃ g, gJm u q j l = wi (upJ u (pq q j) g) (pq q l) ((2 * k : Nat) : Int) ∧ ∀ i, i < k → g i = u.2.2.2 (pq q j) i := by
  refine ⟨va_cpy (u.2.2.2 (pq q j)) (fun _ => 0) 0 0 (lnQ u q l), ?_, fun i hi => ?_⟩
  · unfold gJm
    rw [I_F (k := pq q l), hl, I_lit (n := 2), I_mul, show ((k : Nat) : Int) * (OfNat.ofNat 2 : Int) = ((2 * k : Nat) : Int) by show ((k : Nat) : Int) * 2 = _; omega]; rfl
  · rw [lnQ_e hl]
    have := cpy_in (f := u.2.2.2 (pq q j)) (g := fun _ => 0) (a := 0) (c := 0) (k := k) (j := i) hi
    rw [Nat.zero_add] at this; exact this
theorem gI_e (hl : F u (pq q l) = ((k : Nat) : Int)) (hk : k < 1000000000) {j : Nat} : ∃ g, gIm u q j l = wi (upA u (pq q j) g) (pq q l) ((2 * k : Nat) : Int) ∧ ∀ i, i < k → g i = u.2.2.1 (pq q j) i := by
  refine ⟨va_cpy (u.2.2.1 (pq q j)) (fun _ => 0) 0 0 (lnQ u q l), ?_, fun i hi => ?_⟩
  · unfold gIm
    rw [I_F (k := pq q l), hl, I_lit (n := 2), I_mul, show ((k : Nat) : Int) * (OfNat.ofNat 2 : Int) = ((2 * k : Nat) : Int) by show ((k : Nat) : Int) * 2 = _; omega]; rfl
  · rw [lnQ_e hl]
    have := cpy_in (f := u.2.2.1 (pq q j)) (g := fun _ => 0) (a := 0) (c := 0) (k := k) (j := i) hi
    rw [Nat.zero_add] at this; exact this
theorem pow2_s {a l : Nat} (h : l = 64 * 2 ^ a) : 2 * l = 64 * 2 ^ (a + 1) := by rw [Nat.pow_succ]; omega
theorem push_n (hW : F u (pq q 26) = ((W : Nat) : Int)) (ln : LNB u q) (hl : ((W : Nat) : Int) ≤ F u (pq q 45)) (hb : W < 65536) : OK (fun w _ => FC q [] [] [] [26, 45] [] [] [35] u w ∧ F w (pq q 26) = ((W + 1 : Nat) : Int) ∧ LNB w q ∧ ((W + 1 : Nat) : Int) ≤ F w (pq q 45) ∧ (∀ i, i ≤ W → w.2.2.2 (pq q 35) i = if i = W then t else u.2.2.2 (pq q 35) i) ∧ (∀ k, k ≠ pq q 35 → w.2.2.2 k = u.2.2.2 k)) (hm_Fr_push N u q t) := by
  unfold hm_Fr_push hb_Fr_push_0
  have main : ∀ u1, FC q [] [] [] [26, 45] [] [] [35] u u1 → F u1 (pq q 26) = ((W : Nat) : Int) → LNB u1 q → ((W : Nat) : Int) < F u1 (pq q 45) → (∀ i, i < W → u1.2.2.2 (pq q 35) i = u.2.2.2 (pq q 35) i) → (∀ k, k ≠ pq q 35 → u1.2.2.2 k = u.2.2.2 k) → OK (fun w _ => FC q [] [] [] [26, 45] [] [] [35] u w ∧ F w (pq q 26) = ((W + 1 : Nat) : Int) ∧ LNB w q ∧ ((W + 1 : Nat) : Int) ≤ F w (pq q 45) ∧ (∀ i, i ≤ W → w.2.2.2 (pq q 35) i = if i = W then t else u.2.2.2 (pq q 35) i) ∧ (∀ k, k ≠ pq q 35 → w.2.2.2 k = u.2.2.2 k)) (hb_Fr_push_30 N () u1 q t) := by
    intro u1 f h1 h2 h3 h4 h5
    obtain ⟨l, l1, l2, l3⟩ := LNB_45 h2
    unfold hb_Fr_push_30
    rw [I_F (k := pq q 26), h1, lnQ_e l1]
    refine e_in ⟨by omega, by omega⟩ (by omega) (ok_lt.mpr (ok_lt.mpr (ok_some.mpr ?_)))
    rw [tnI (n := W) rfl (by omega), wj_e, show (wj u1 (pq q 35) W t).1 (pq q 26) = I ((W : Nat) : Int) by show u1.1 (pq q 26) = _; rw [I_F, h1], lit1q, I_add, wi_e]
    generalize hz : wi (wj u1 (pq q 35) W t) (pq q 26) ((W : Int) + 1) = z
    have f2 : FC q [] [] [] [26, 45] [] [] [35] u z := by rw [← hz]; exact FC.wi_q (FC.wj_q f (by omega) (by simp)) (by omega) (by simp)
    have fz : ∀ k, k < 100 → k ≠ 26 → z.1 (pq q k) = u1.1 (pq q k) := fun k hk hk2 => by
      rw [← hz]
      show (if pq q k = pq q 26 then _ else u1.1 (pq q k)) = _
      rw [if_neg (fun e => hk2 (pq_e hk (by omega) e).2)]
    refine ⟨f2, ?_, LNB_fc h2 (fun k hk => fz k (by simp at hk; omega) (by simp at hk; omega)), ?_, fun i hi => ?_, fun k hk => ?_⟩
    · rw [← hz, F_wi (by omega) (by omega), if_pos rfl]; omega
    · rw [show F z (pq q 45) = F u1 (pq q 45) from congrArg _ (fz 45 (by omega) (by omega))]; omega
    · rw [show z.2.2.2 = (wj u1 (pq q 35) W t).2.2.2 by rw [← hz]; rfl, wj_row]
      by_cases e : i = W
      · rw [if_pos e, if_pos e]
      · rw [if_neg e, if_neg e]; exact h4 i (by omega)
    · rw [show z.2.2.2 = (wj u1 (pq q 35) W t).2.2.2 by rw [← hz]; rfl]
      show (if k = pq q 35 then _ else u1.2.2.2 k) = _
      rw [if_neg hk]; exact h5 k hk
  obtain ⟨l, l1, l2, l3⟩ := LNB_45 ln
  rw [I_F (k := pq q 26), hW, I_F (k := pq q 45)]
  refine k_lt ⟨by omega, by omega⟩ (FRG1 u _) (fun h => main u FC.rf hW ln h (fun _ _ => rfl) (fun _ _ => rfl)) (fun h => ?_)
  rw [l1]
  refine ok_ck.mpr ⟨grw_I ⟨by omega, by omega⟩, ok_lt.mpr ?_⟩
  obtain ⟨g, g1, g2⟩ := gJ_e (j := 35) l1 (by omega)
  rw [g1]
  generalize hz : wi (upJ u (pq q 35) g) (pq q 45) ((2 * l : Nat) : Int) = z
  have f2 : FC q [] [] [] [26, 45] [] [] [35] u z := by rw [← hz]; exact FC.wi_q (FC.J_q FC.rf (by omega) (by simp)) (by omega) (by simp)
  have fz : ∀ k, k < 100 → k ≠ 45 → z.1 (pq q k) = u.1 (pq q k) := fun k hk hk2 => by
    rw [← hz]
    show (if pq q k = pq q 45 then _ else u.1 (pq q k)) = _
    rw [if_neg (fun e => hk2 (pq_e hk (by omega) e).2)]
  have e45 : F z (pq q 45) = ((2 * l : Nat) : Int) := by rw [← hz, F_wi (by omega) (by omega), if_pos rfl]
  refine main z f2 ?_ ?_ ?_ (fun i hi => ?_) (fun k hk => ?_)
  · rw [show F z (pq q 26) = F u (pq q 26) from congrArg _ (fz 26 (by omega) (by omega))]; exact hW
  · obtain ⟨⟨a, a1, a2⟩, n2, n3⟩ := ln
    have ea : l = 64 * 2 ^ a := by omega
    refine ⟨⟨a + 1, ?_, by rw [e45, pow2_s ea]⟩, ?_, ?_⟩
    · rcases Nat.lt_or_ge a 10 with h9 | h9
      · omega
      · have : a = 10 := by omega
        subst this
        have e : 2 ^ 10 = 1024 := rfl
        omega
    · rw [show F z (pq q 43) = F u (pq q 43) from congrArg _ (fz 43 (by omega) (by omega)), show F z (pq q 42) = F u (pq q 42) from congrArg _ (fz 42 (by omega) (by omega))]; exact n2
    · rw [show F z (pq q 47) = F u (pq q 47) from congrArg _ (fz 47 (by omega) (by omega)), show F z (pq q 28) = F u (pq q 28) from congrArg _ (fz 28 (by omega) (by omega))]; exact n3
  · rw [e45]; omega
  · rw [← hz]
    show (upJ u (pq q 35) g).2.2.2 (pq q 35) i = _
    rw [upJ_row]; exact g2 i (by omega)
  · rw [← hz]
    exact if_neg hk
theorem bind_n {x : Int} (hW : F u (pq q 24) = ((B : Nat) : Int)) (ln : LNB u q) (hl : ((B : Nat) : Int) ≤ F u (pq q 43)) (hb : B < 4096) : OK (fun w _ => FC q [] [] [] [24, 42, 43] [] [32] [33] u w ∧ F w (pq q 24) = ((B + 1 : Nat) : Int) ∧ LNB w q ∧ ((B + 1 : Nat) : Int) ≤ F w (pq q 43) ∧ (∀ i, i ≤ B → w.2.2.2 (pq q 33) i = if i = B then t else u.2.2.2 (pq q 33) i) ∧ (∀ k, k ≠ pq q 33 → w.2.2.2 k = u.2.2.2 k)) (hm_Fr_bind N u q (I x) t) := by
  unfold hm_Fr_bind hb_Fr_bind_0
  have main : ∀ u1, FC q [] [] [] [24, 42, 43] [] [32] [33] u u1 → F u1 (pq q 24) = ((B : Nat) : Int) → LNB u1 q → ((B : Nat) : Int) < F u1 (pq q 43) → (∀ i, i < B → u1.2.2.2 (pq q 33) i = u.2.2.2 (pq q 33) i) → (∀ k, k ≠ pq q 33 → u1.2.2.2 k = u.2.2.2 k) → OK (fun w _ => FC q [] [] [] [24, 42, 43] [] [32] [33] u w ∧ F w (pq q 24) = ((B + 1 : Nat) : Int) ∧ LNB w q ∧ ((B + 1 : Nat) : Int) ≤ F w (pq q 43) ∧ (∀ i, i ≤ B → w.2.2.2 (pq q 33) i = if i = B then t else u.2.2.2 (pq q 33) i) ∧ (∀ k, k ≠ pq q 33 → w.2.2.2 k = u.2.2.2 k)) (hb_Fr_bind_48 N () u1 q (I x) t) := by
    intro u1 f h1 h2 h3 h4 h5
    obtain ⟨l, l1, l1b, l2, l3⟩ := LNB_43 h2
    unfold hb_Fr_bind_48
    have e24 : u1.1 (pq q 24) = I ((B : Nat) : Int) := by rw [I_F, h1]
    rw [e24, lnQ_e l1b]
    refine e_in ⟨by omega, by omega⟩ (by omega) (ok_lt.mpr ?_)
    rw [tnI (n := B) rfl (by omega), wa_e]
    rw [show (wa u1 (pq q 32) B x).1 (pq q 24) = I ((B : Nat) : Int) from e24, show lnQ (wa u1 (pq q 32) B x) q 43 = l from lnQ_e l1]
    refine e_in ⟨by omega, by omega⟩ (by omega) (ok_lt.mpr (ok_lt.mpr (ok_some.mpr ?_)))
    rw [tnI (n := B) rfl (by omega), wj_e, show (wj (wa u1 (pq q 32) B x) (pq q 33) B t).1 (pq q 24) = I ((B : Nat) : Int) from e24, lit1q, I_add, wi_e]
    generalize hz : wi (wj (wa u1 (pq q 32) B x) (pq q 33) B t) (pq q 24) ((B : Int) + 1) = z
    have f2 : FC q [] [] [] [24, 42, 43] [] [32] [33] u z := by rw [← hz]; exact FC.wi_q (FC.wj_q (FC.wa_q f (by omega) (by simp)) (by omega) (by simp)) (by omega) (by simp)
    have fz : ∀ k, k < 100 → k ≠ 24 → z.1 (pq q k) = u1.1 (pq q k) := fun k hk hk2 => by
      rw [← hz]
      show (if pq q k = pq q 24 then _ else u1.1 (pq q k)) = _
      rw [if_neg (fun e => hk2 (pq_e hk (by omega) e).2)]
    refine ⟨f2, ?_, LNB_fc h2 (fun k hk => fz k (by simp at hk; omega) (by simp at hk; omega)), ?_, fun i hi => ?_, fun k hk => ?_⟩
    · rw [← hz, F_wi (by omega) (by omega), if_pos rfl]; omega
    · rw [show F z (pq q 43) = F u1 (pq q 43) from congrArg _ (fz 43 (by omega) (by omega))]; omega
    · rw [show z.2.2.2 = (wj (wa u1 (pq q 32) B x) (pq q 33) B t).2.2.2 by rw [← hz]; rfl, wj_row]
      by_cases e : i = B
      · rw [if_pos e, if_pos e]
      · rw [if_neg e, if_neg e]; exact h4 i (by omega)
    · rw [show z.2.2.2 = (wj (wa u1 (pq q 32) B x) (pq q 33) B t).2.2.2 by rw [← hz]; rfl]
      show (if k = pq q 33 then _ else u1.2.2.2 k) = _
      rw [if_neg hk]; exact h5 k hk
  obtain ⟨l, l1, l1b, l2, l3⟩ := LNB_43 ln
  rw [I_F (k := pq q 24), hW, I_F (k := pq q 43)]
  refine k_lt ⟨by omega, by omega⟩ (FRG1 u _) (fun h => main u FC.rf hW ln h (fun _ _ => rfl) (fun _ _ => rfl)) (fun h => ?_)
  rw [l1]
  refine ok_ck.mpr ⟨grw_I ⟨by omega, by omega⟩, ok_lt.mpr ?_⟩
  obtain ⟨g, g1, g2⟩ := gJ_e (j := 33) l1 (by omega)
  rw [g1]
  generalize hz : wi (upJ u (pq q 33) g) (pq q 43) ((2 * l : Nat) : Int) = z
  have f2 : FC q [] [] [] [24, 42, 43] [] [32] [33] u z := by rw [← hz]; exact FC.wi_q (FC.J_q FC.rf (by omega) (by simp)) (by omega) (by simp)
  have fz : ∀ k, k < 100 → k ≠ 43 → z.1 (pq q k) = u.1 (pq q k) := fun k hk hk2 => by
    rw [← hz]
    show (if pq q k = pq q 43 then _ else u.1 (pq q k)) = _
    rw [if_neg (fun e => hk2 (pq_e hk (by omega) e).2)]
  have e43 : F z (pq q 43) = ((2 * l : Nat) : Int) := by rw [← hz, F_wi (by omega) (by omega), if_pos rfl]
  have e42 : F z (pq q 42) = ((l : Nat) : Int) := by rw [show F z (pq q 42) = F u (pq q 42) from congrArg _ (fz 42 (by omega) (by omega))]; exact l1b
  rw [I_F (k := pq q 42), e42]
  refine ok_ck.mpr ⟨grw_I ⟨by omega, by omega⟩, ok_lt.mpr ?_⟩
  obtain ⟨g3, g4, g5⟩ := gI_e (j := 32) e42 (by omega)
  rw [g4]
  generalize hy : wi (upA z (pq q 32) g3) (pq q 42) ((2 * l : Nat) : Int) = y
  have f3 : FC q [] [] [] [24, 42, 43] [] [32] [33] u y := by rw [← hy]; exact FC.wi_q (FC.A_q f2 (by omega) (by simp)) (by omega) (by simp)
  have fy : ∀ k, k < 100 → k ≠ 42 → y.1 (pq q k) = z.1 (pq q k) := fun k hk hk2 => by
    rw [← hy]
    show (if pq q k = pq q 42 then _ else z.1 (pq q k)) = _
    rw [if_neg (fun e => hk2 (pq_e hk (by omega) e).2)]
  have y42 : F y (pq q 42) = ((2 * l : Nat) : Int) := by rw [← hy, F_wi (by omega) (by omega), if_pos rfl]
  have y43 : F y (pq q 43) = ((2 * l : Nat) : Int) := by rw [show F y (pq q 43) = F z (pq q 43) from congrArg _ (fy 43 (by omega) (by omega))]; exact e43
  have yo : ∀ k, k < 100 → k ≠ 42 → k ≠ 43 → F y (pq q k) = F u (pq q k) := fun k h1 h2 h3 => congrArg _ ((fy k h1 h2).trans (fz k h1 h3))
  have yj : y.2.2.2 = z.2.2.2 := by rw [← hy]; rfl
  refine main y f3 ?_ ?_ ?_ (fun i hi => ?_) (fun k hk => ?_)
  · rw [yo 24 (by omega) (by omega) (by omega)]; exact hW
  · obtain ⟨n1, ⟨a, a1, a2, a3⟩, n3⟩ := ln
    have ea : l = 64 * 2 ^ a := by omega
    refine ⟨?_, ⟨a + 1, ?_, by rw [y43, pow2_s ea], by rw [y42, pow2_s ea]⟩, ?_⟩
    · rw [yo 45 (by omega) (by omega) (by omega)]; exact n1
    · rcases Nat.lt_or_ge a 6 with h9 | h9
      · omega
      · have : a = 6 := by omega
        subst this
        have e : 2 ^ 6 = 64 := rfl
        omega
    · rw [yo 47 (by omega) (by omega) (by omega), yo 28 (by omega) (by omega) (by omega)]; exact n3
  · rw [y43]; omega
  · rw [yj, ← hz]
    show (upJ u (pq q 33) g).2.2.2 (pq q 33) i = _
    rw [upJ_row]; exact g2 i (by omega)
  · rw [yj, ← hz]
    exact if_neg hk
theorem termOf_ok {x : Int} (hB : F u (pq q 24) = ((B : Nat) : Int)) (ln : LNB u q) (hl : ((B : Nat) : Int) ≤ F u (pq q 43)) (hx : RG x) (hN : 5000 ≤ N) : OK (fun w r => w = u ∧ (r = 0 ∨ ∃ i, i < B ∧ r = u.2.2.2 (pq q 33) i)) (hm_Fr_termOf N u q (I x)) := by
  obtain ⟨l, l1, l1b, l2, l3⟩ := LNB_43 ln
  unfold hm_Fr_termOf hb_Fr_termOf_0
  have gen : ∀ (M i : Nat), i ≤ B → i < M → OK (fun w r => w = u ∧ (r = 0 ∨ ∃ i, i < B ∧ r = u.2.2.2 (pq q 33) i)) (hg_Fr_termOf N M u q (I x) (I ((i : Nat) - 1))) := by
    intro M
    induction M with
    | zero => intro i _ h; omega
    | succ M ih =>
      intro i hi hM
      show OK _ (hb_Fr_termOf_7 N (hg_Fr_termOf N M) u q (I x) (I ((i : Nat) - 1)))
      unfold hb_Fr_termOf_7
      rw [lit0q]
      refine k_lt ⟨by omega, by omega⟩ ⟨by decide, by decide⟩ (fun _ => ok_some.mpr ⟨rfl, Or.inl rfl⟩) (fun h1 => ?_)
      rw [lnQ_e l1, lnQ_e l1b]
      refine e_in ⟨by omega, by omega⟩ (by omega) ?_
      rw [I_A (k := pq q 32)]
      refine k_eq (ARG1 u _ _) hx (fun _ => ?_) (fun _ => ?_)
      · refine e_in ⟨by omega, by omega⟩ (by omega) (ok_some.mpr ⟨rfl, Or.inr ⟨i - 1, by omega, ?_⟩⟩)
        rw [tnI (n := i - 1) (by omega) (by omega)]
      · rw [m1I, I_add, show ((i : Nat) : Int) - 1 + -1 = ((i - 1 : Nat) : Int) - 1 by omega]
        exact ih (i - 1) (by omega) (by omega)
  rw [I_F (k := pq q 24), hB, lit1q, I_sub]
  exact gen N B (by omega) (by omega)
end
