section
set_option maxRecDepth 100000
def Fr4 (S : Nat → Prop) (u u2 : CS) : Prop := u2.1 = u.1 ∧ (∀ i, i ≠ 4 → u2.2 i = u.2 i) ∧ ∀ j, ¬ S j → FI u2 4 j = FI u 4 j
theorem Fr4.rf {S : Nat → Prop} {u : CS} : Fr4 S u u := ⟨rfl, fun _ _ => rfl, fun _ _ => rfl⟩
theorem Fr4.tr {S : Nat → Prop} {u u2 u3 : CS} (h : Fr4 S u u2) (g : Fr4 S u2 u3) : Fr4 S u u3 := ⟨g.1.trans h.1, fun i hi => (g.2.1 i hi).trans (h.2.1 i hi), fun j hj => (g.2.2 j hj).trans (h.2.2 j hj)⟩
theorem Fr4.one {S : Nat → Prop} {u : CS} {k : Nat} {v : LV} (hk : S k) : Fr4 S u (uF u 4 k v) := ⟨uF_1, fun i hi => uF_ne hi, fun j hj => FI_F (Or.inr (fun e => hj (by rw [e]; exact hk)))⟩
theorem fr4_AI {S : Nat → Prop} {u u2 : CS} (h : Fr4 S u u2) {i : Nat} (hi : i ≠ 4) : AI u2 i = AI u i := by
  unfold AI
  rw [h.2.1 i hi]
theorem fr4_FI {S : Nat → Prop} {u u2 : CS} (h : Fr4 S u u2) {i j : Nat} (hi : i ≠ 4) : FI u2 i j = FI u i j := by
  unfold FI
  rw [h.2.1 i hi]
def skp (g : Nat → Int32) (k : Nat) : Nat → Nat → Nat → Bool → Nat × Nat
  | 0, p, l, _ => (p, l)
  | m + 1, p, l, cm => if k ≤ p then (p, l) else
      if (!decide (g p = 10) && (cm || decide (g p = 37))) = false ∧ g p ≠ 9 ∧ g p ≠ 10 ∧ g p ≠ 32 then (p, l)
      else skp g k m (p + 1) (if g p = 10 then l + 1 else l) (!decide (g p = 10) && (cm || decide (g p = 37)))
def S90 (j : Nat) : Prop := j = 9 ∨ j = 10
theorem skip_loop {N k : Nat} (hk4 : k ≤ 4000) : ∀ (m p l : Nat) (cm : Bool) (u : CS) (F : Nat), skB u = true → FI u 4 1 = Int32.ofNat k → FI u 4 9 = Int32.ofNat p → FI u 4 10 = Int32.ofNat l → p + m = k + 1 → l + m < 100000 → ∃ u2, gg_To_skip N (F + m + 1) u 4 (b2i cm) = some (u2, ()) ∧ skB u2 = true ∧ Fr4 S90 u u2 ∧ FI u2 4 9 = Int32.ofNat (skp (AI u 5) k m p l cm).1 ∧ FI u2 4 10 = Int32.ofNat (skp (AI u 5) k m p l cm).2 := by
  intro m
  induction m with
  | zero =>
    intro p l cm u F hs hk h9 h10 hp hl
    refine ⟨u, ?_, hs, Fr4.rf, h9, h10⟩
    show fb_To_skip_2 N (gg_To_skip N (F + 0)) u 4 _ = _
    unfold fb_To_skip_2
    rw [gi_4_9 hs, q_bo, gi_4_1 hs, q_bo, h9, hk, decide_eq_true ((q_le (a := k) (b := p) (by omega) (by omega)).mpr (by omega)), q_b1]
  | succ m ih =>
    intro p l cm u F hs hk h9 h10 hp hl
    by_cases hkp : k ≤ p
    · have e0 : skp (AI u 5) k (m + 1) p l cm = (p, l) := if_pos hkp
      refine ⟨u, ?_, hs, Fr4.rf, by rw [e0]; exact h9, by rw [e0]; exact h10⟩
      show fb_To_skip_2 N (gg_To_skip N (F + (m + 1))) u 4 _ = _
      unfold fb_To_skip_2
      rw [gi_4_9 hs, q_bo, gi_4_1 hs, q_bo, h9, hk, decide_eq_true ((q_le (a := k) (b := p) (by omega) (by omega)).mpr (by omega)), q_b1]
    · have hpk : p < k := by omega
      have e1 : decide (Int32.ofNat k ≤ Int32.ofNat p) = false := decide_eq_false (fun z => hkp ((q_le (a := k) (b := p) (by omega) (by omega)).mp z))
      have key : gg_To_skip N (F + (m + 1) + 1) u 4 (b2i cm) = fb_To_skip_44 N (gg_To_skip N (F + m + 1)) u 4 (AI u 5 p) (b2i (!decide (AI u 5 p = 10) && (cm || decide (AI u 5 p = 37)))) := by
        show fb_To_skip_2 N (gg_To_skip N (F + m + 1)) u 4 _ = _
        generalize gg_To_skip N (F + m + 1) = G
        unfold fb_To_skip_2
        rw [gi_4_9 hs, q_bo, gi_4_1 hs, q_bo, h9, hk, e1, q_b0, gr_4_0 hs, q_bo, q_bo, q_bo, ai_5 hs, if_pos (q_inb (by omega) (by decide)), q_bo, q_nat (by omega), b2i_0]
        unfold fb_To_skip_43 fb_To_skip_39
        cases decide (AI u 5 p = 10) <;> cases cm <;> cases decide (AI u 5 p = 37) <;> rfl
      have on : ∀ c2 : Bool, fb_To_skip_68 N (gg_To_skip N (F + m + 1)) u 4 (b2i c2) (AI u 5 p) = gg_To_skip N (F + m + 1) (uF (uF u 4 10 (.inl (Int32.ofNat (if AI u 5 p = 10 then l + 1 else l)))) 4 9 (.inl (Int32.ofNat (p + 1)))) 4 (b2i c2) := by
        intro c2
        generalize gg_To_skip N (F + m + 1) = G
        have g1 : ∀ t2 : Int32, ∀ n2 : Nat, Int32.ofNat l + t2 = Int32.ofNat n2 → fb_To_skip_84 N G u 4 (b2i c2) 4 (Int32.ofNat l) t2 = G (uF (uF u 4 10 (.inl (Int32.ofNat n2))) 4 9 (.inl (Int32.ofNat (p + 1)))) 4 (b2i c2) := by
          intro t2 n2 hn
          unfold fb_To_skip_84
          rw [hn, pf_4_10 hs, q_bo, gi_4_9 (sf_4_10 hs), q_bo, FI_F (by decide), h9, q_suc, pf_4_9 (sf_4_10 hs), q_bo]
        unfold fb_To_skip_68
        rw [gi_4_10 hs, q_bo, h10]
        by_cases hc : AI u 5 p = 10
        · rw [decide_eq_true hc, q_b1, if_pos hc]
          exact g1 1 (l + 1) (q_suc l)
        · rw [decide_eq_false hc, q_b0, if_neg hc]
          exact g1 0 l (by rw [Int32.add_zero])
      rw [key]
      generalize hc2 : (!decide (AI u 5 p = 10) && (cm || decide (AI u 5 p = 37))) = c2
      by_cases hst : c2 = false ∧ AI u 5 p ≠ 9 ∧ AI u 5 p ≠ 10 ∧ AI u 5 p ≠ 32
      · have e0 : skp (AI u 5) k (m + 1) p l cm = (p, l) := by
          show (if k ≤ p then _ else if (!decide (AI u 5 p = 10) && (cm || decide (AI u 5 p = 37))) = false ∧ _ then _ else _) = _
          rw [if_neg hkp, hc2, if_pos hst]
        refine ⟨u, ?_, hs, Fr4.rf, by rw [e0]; exact h9, by rw [e0]; exact h10⟩
        generalize gg_To_skip N (F + m + 1) = G
        unfold fb_To_skip_44
        rw [b2i_0, hst.1, decide_eq_false hst.2.1, decide_eq_false hst.2.2.1, decide_eq_false hst.2.2.2]
        rfl
      · have e0 : skp (AI u 5) k (m + 1) p l cm = skp (AI u 5) k m (p + 1) (if AI u 5 p = 10 then l + 1 else l) c2 := by
          show (if k ≤ p then _ else if (!decide (AI u 5 p = 10) && (cm || decide (AI u 5 p = 37))) = false ∧ _ then _ else _) = _
          rw [if_neg hkp, hc2, if_neg hst]
        have s1 := sf_4_10 (v := Int32.ofNat (if AI u 5 p = 10 then l + 1 else l)) hs
        have s2 := sf_4_9 (v := Int32.ofNat (p + 1)) s1
        obtain ⟨u2, i1, i2, i3, i4, i5⟩ := ih (p + 1) (if AI u 5 p = 10 then l + 1 else l) c2 _ F s2 (by rw [FI_F (by decide), FI_F (by decide)]; exact hk) (fi_4_9 s1) (by rw [FI_F (by decide)]; exact fi_4_10 hs) (by omega) (by split <;> omega)
        have ea : AI (uF (uF u 4 10 (.inl (Int32.ofNat (if AI u 5 p = 10 then l + 1 else l)))) 4 9 (.inl (Int32.ofNat (p + 1)))) 5 = AI u 5 := by rw [AI_F, AI_F]
        rw [ea] at i4 i5
        refine ⟨u2, ?_, i2, (Fr4.one (k := 10) (Or.inr rfl)).tr ((Fr4.one (k := 9) (Or.inl rfl)).tr i3), by rw [e0]; exact i4, by rw [e0]; exact i5⟩
        rw [← i1, ← on c2]
        generalize gg_To_skip N (F + m + 1) = G
        unfold fb_To_skip_44
        rw [b2i_0]
        cases c2 with
        | true => rfl
        | false =>
          by_cases h1 : AI u 5 p = 9
          · rw [decide_eq_true h1]; rfl
          · by_cases h2 : AI u 5 p = 10
            · rw [decide_eq_true h2]
              cases decide (AI u 5 p = 9) <;> rfl
            · have h3 : AI u 5 p = 32 := Classical.byContradiction (fun h3 => hst ⟨rfl, h1, h2, h3⟩)
              rw [decide_eq_true h3]
              cases decide (AI u 5 p = 9) <;> cases decide (AI u 5 p = 10) <;> rfl
end
