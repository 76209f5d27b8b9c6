set_option maxRecDepth 100000
def sPL (w : MS) (p l : Nat) : MS := upI (upI w 11 (Int32.ofNat l)) 10 (Int32.ofNat p)
theorem sPL_10 {w : MS} {p l : Nat} : (sPL w p l).1 10 = Int32.ofNat p := rfl
theorem sPL_11 {w : MS} {p l : Nat} : (sPL w p l).1 11 = Int32.ofNat l := rfl
theorem sPL_ne {w : MS} {p l j : Nat} (h1 : j ≠ 10) (h2 : j ≠ 11) : (sPL w p l).1 j = w.1 j := by
  show (if j = 10 then _ else if j = 11 then _ else w.1 j) = _
  rw [if_neg h1, if_neg h2]
theorem upI_sw {w : MS} {p l p2 l2 : Nat} : upI (upI (sPL w p l) 11 (Int32.ofNat l2)) 10 (Int32.ofNat p2) = sPL w p2 l2 := by
  unfold sPL upI
  congr 1
  funext j
  by_cases h1 : j = 10
  · simp [h1]
  · by_cases h2 : j = 11 <;> simp [h1, h2]
theorem upI_sp {w : MS} {p l p2 : Nat} : upI (sPL w p l) 10 (Int32.ofNat p2) = sPL w p2 l := by
  unfold sPL upI
  congr 1
  funext j
  by_cases h1 : j = 10 <;> simp [h1]
theorem z_and {x : Int32} (hx : nrB x = x) : (decide (x &&& 255 = 10) = decide (x = 10)) ∧ (decide (x &&& 255 = 9) = decide (x = 9)) ∧ (decide (x &&& 255 = 32) = decide (x = 32)) ∧ (decide (x &&& 255 = 37) = decide (x = 37)) := by
  have h := sg_all (fun x => (decide (x &&& 255 = 10) == decide (x = 10)) && ((decide (x &&& 255 = 9) == decide (x = 9)) && ((decide (x &&& 255 = 32) == decide (x = 32)) && (decide (x &&& 255 = 37) == decide (x = 37))))) (by decide +kernel) hx
  simp only [Bool.and_eq_true, beq_iff_eq] at h
  exact ⟨h.1, h.2.1, h.2.2.1, h.2.2.2⟩
def opn (w : MS) : Prop := w.1 9 = 0 ∨ (¬ w.1 9 = 0 ∧ inb (w.1 9 - 1) (ln 6) = true ∧ w.2.2.1 6 (w.1 9 - 1).toNatClampNeg ≠ 7)
theorem rt_19 {N k p l F : Nat} {w : MS} (ho : opn w) (hk : w.1 5 = Int32.ofNat k) (hk4 : k ≤ 4000) (hp : p < k) : (gg_M_readTokens N (F + 1)).1 (sPL w p l) = fb_M_readTokens_53 N (gg_M_readTokens N F) (sPL w p l) := by
  show fb_M_readTokens_19 N (gg_M_readTokens N F) (sPL w p l) = _
  generalize gg_M_readTokens N F = G
  unfold fb_M_readTokens_19
  rw [sPL_10, sPL_ne (j := 5) (by decide) (by decide), sPL_ne (j := 9) (by decide) (by decide), hk, decide_eq_false (fun z => absurd ((q_le (a := k) (b := p) (by omega) (by omega)).mp z) (by omega)), q_b0]
  rcases ho with h | ⟨h1, h2, h3⟩
  · rw [decide_eq_true h, q_b1]
  · rw [decide_eq_false h1, q_b0, q_ck h2]
    show br (decide (w.2.2.1 6 (w.1 9 - 1).toNatClampNeg = 7)) _ _ = _
    rw [decide_eq_false h3, q_b0]
theorem skM {N k : Nat} {w : MS} (ho : opn w) (hk : w.1 5 = Int32.ofNat k) (hk4 : k ≤ 4000) (hB : bytB (w.2.2.1 4)) : ∀ (m p l F : Nat), p ≤ k → p + m = k + 1 → 3 * m ≤ F →
    (∃ F2, F ≤ F2 + 3 * m ∧ (gg_M_readTokens N F).1 (sPL w p l) = (gg_M_readTokens N F2).1 (sPL w (skp (w.2.2.1 4) k m p l false).1 (skp (w.2.2.1 4) k m p l false).2)) ∧
    (∃ F2, F ≤ F2 + 3 * m ∧ (gg_M_readTokens N F).2 (sPL w p l) = (gg_M_readTokens N F2).1 (sPL w (skp (w.2.2.1 4) k m p l true).1 (skp (w.2.2.1 4) k m p l true).2)) := by
  intro m
  induction m with
  | zero => intro p l F h1 h2 _; omega
  | succ m ih =>
    intro p l F hpk hm hF
    have e122 : ∀ F1, (gg_M_readTokens N (F1 + 1)).2 (sPL w p l) = fb_M_readTokens_122 N (gg_M_readTokens N F1) (sPL w p l) := fun F1 => rfl
    by_cases hkp : k ≤ p
    · have e0 : ∀ cm, skp (w.2.2.1 4) k (m + 1) p l cm = (p, l) := fun cm => if_pos hkp
      rw [e0, e0]
      refine ⟨⟨F, by omega, rfl⟩, ?_⟩
      obtain ⟨F1, rfl⟩ : ∃ F1, F = F1 + 1 := ⟨F - 1, by omega⟩
      refine ⟨F1, by omega, ?_⟩
      rw [e122]
      unfold fb_M_readTokens_122
      rw [sPL_10, sPL_ne (j := 5) (by decide) (by decide), hk, decide_eq_true ((q_le (a := k) (b := p) (by omega) (by omega)).mpr hkp), q_b1]
      rfl
    · have hpl : p < k := by omega
      have hx := hB p (by omega)
      obtain ⟨z1, z2, z3, z4⟩ := z_and hx
      have eb : ∀ F1 : Nat, fm_M_byteAt N (sPL w p l) (Int32.ofNat p) = some (sPL w p l, w.2.2.1 4 p &&& 255) := fun F1 => by
        have := atM (N := N) (w := sPL w p l) (k := k) (p := p) hk hk4 (by omega)
        rw [this]
        show some (_, sgA (w.2.2.1 4) k p) = _
        unfold sgA
        rw [if_pos hpl]
      have ek : decide (Int32.ofNat k ≤ Int32.ofNat p) = false := decide_eq_false (fun z => hkp ((q_le (a := k) (b := p) (by omega) (by omega)).mp z))
      have bl : ∀ F1, w.2.2.1 4 p = 10 ∨ w.2.2.1 4 p = 9 ∨ w.2.2.1 4 p = 32 → (gg_M_readTokens N (F1 + 1)).1 (sPL w p l) = (gg_M_readTokens N F1).1 (sPL w (p + 1) (if w.2.2.1 4 p = 10 then l + 1 else l)) := fun F1 hb => by
        rw [rt_19 ho hk hk4 hpl]
        generalize gg_M_readTokens N F1 = G
        have g80 : fb_M_readTokens_80 N G (sPL w p l) (w.2.2.1 4 p &&& 255) = G.1 (sPL w (p + 1) (if w.2.2.1 4 p = 10 then l + 1 else l)) := by
          have g100 : ∀ l2, fb_M_readTokens_100 N G (sPL w p l) (Int32.ofNat l2) = G.1 (sPL w (p + 1) l2) := fun l2 => by
            unfold fb_M_readTokens_100
            rw [q_ls, q_ls]
            show G.1 (upI (upI (sPL w p l) 11 (Int32.ofNat l2)) 10 (Int32.ofNat p + 1)) = _
            rw [q_suc, upI_sw]
          unfold fb_M_readTokens_80
          rw [z1, sPL_11]
          by_cases hc : w.2.2.1 4 p = 10
          · rw [decide_eq_true hc, q_b1, if_pos hc, q_suc]; exact g100 (l + 1)
          · rw [decide_eq_false hc, q_b0, if_neg hc]; exact g100 l
        unfold fb_M_readTokens_53
        rw [sPL_10, eb 0, q_bn, z1, z2, z3]
        by_cases h1 : w.2.2.1 4 p = 10
        · rw [decide_eq_true h1, q_b1]; exact g80
        · rw [decide_eq_false h1, q_b0]
          by_cases h2 : w.2.2.1 4 p = 9
          · rw [decide_eq_true h2, q_b1]; exact g80
          · rw [decide_eq_false h2, q_b0]
            have h3 : w.2.2.1 4 p = 32 := by rcases hb with h | h | h; exact absurd h h1; exact absurd h h2; exact h
            rw [decide_eq_true h3, q_b1]; exact g80
      have cmt : ∀ F1, w.2.2.1 4 p ≠ 10 → (gg_M_readTokens N (F1 + 1)).2 (sPL w p l) = (gg_M_readTokens N F1).2 (sPL w (p + 1) l) := fun F1 h1 => by
        rw [e122]
        generalize gg_M_readTokens N F1 = G
        unfold fb_M_readTokens_122
        rw [sPL_10, sPL_ne (j := 5) (by decide) (by decide), hk, ek, q_b0, eb 0, q_bn, z1, decide_eq_false h1, q_b0, q_ls]
        show G.2 (upI (sPL w p l) 10 (Int32.ofNat p + 1)) = _
        rw [q_suc, upI_sp]
      have skd : ∀ cm, skp (w.2.2.1 4) k (m + 1) p l cm = if (!decide (w.2.2.1 4 p = 10) && (cm || decide (w.2.2.1 4 p = 37))) = false ∧ w.2.2.1 4 p ≠ 9 ∧ w.2.2.1 4 p ≠ 10 ∧ w.2.2.1 4 p ≠ 32 then (p, l) else skp (w.2.2.1 4) k m (p + 1) (if w.2.2.1 4 p = 10 then l + 1 else l) (!decide (w.2.2.1 4 p = 10) && (cm || decide (w.2.2.1 4 p = 37))) := fun cm => if_neg hkp
      obtain ⟨F1, rfl⟩ : ∃ F1, F = F1 + 1 + 1 := ⟨F - 2, by omega⟩
      refine ⟨?_, ?_⟩
      · rw [skd]
        by_cases hb : w.2.2.1 4 p = 10 ∨ w.2.2.1 4 p = 9 ∨ w.2.2.1 4 p = 32
        · have hb3 : ¬ w.2.2.1 4 p = 37 := by rcases hb with h | h | h <;> (rw [h]; decide)
          rw [if_neg (fun z => by rcases hb with h | h | h; exact z.2.2.1 h; exact z.2.1 h; exact z.2.2.2 h), bl (F1 + 1) hb, decide_eq_false hb3, Bool.or_false, Bool.and_false]
          obtain ⟨⟨F2, a1, a2⟩, -⟩ := ih (p + 1) (if w.2.2.1 4 p = 10 then l + 1 else l) (F1 + 1) (by omega) (by omega) (by omega)
          exact ⟨F2, by omega, a2⟩
        · have h1 : ¬ w.2.2.1 4 p = 10 := fun h => hb (Or.inl h)
          have h2 : ¬ w.2.2.1 4 p = 9 := fun h => hb (Or.inr (Or.inl h))
          have h3 : ¬ w.2.2.1 4 p = 32 := fun h => hb (Or.inr (Or.inr h))
          by_cases h37 : w.2.2.1 4 p = 37
          · rw [if_neg (fun z => by have := z.1; rw [decide_eq_false h1, decide_eq_true h37] at this; cases this), decide_eq_false h1, decide_eq_true h37, if_neg h1]
            have e1 : (gg_M_readTokens N (F1 + 1 + 1)).1 (sPL w p l) = (gg_M_readTokens N (F1 + 1)).2 (sPL w p l) := by
              rw [rt_19 ho hk hk4 hpl]
              generalize gg_M_readTokens N (F1 + 1) = G
              unfold fb_M_readTokens_53
              rw [sPL_10, eb 0, q_bn, z1, z2, z3, z4, decide_eq_false h1, q_b0, decide_eq_false h2, q_b0, decide_eq_false h3, q_b0, decide_eq_true h37, q_b1]
            rw [e1, cmt F1 h1]
            obtain ⟨-, F2, a1, a2⟩ := ih (p + 1) l F1 (by omega) (by omega) (by omega)
            exact ⟨F2, by omega, a2⟩
          · rw [if_pos ⟨by rw [decide_eq_false h37]; cases decide (w.2.2.1 4 p = 10) <;> rfl, h2, h1, h3⟩]
            exact ⟨F1 + 1 + 1, by omega, rfl⟩
      · rw [skd]
        by_cases h1 : w.2.2.1 4 p = 10
        · rw [if_neg (fun z => z.2.2.1 h1), decide_eq_true h1]
          have e1 : (gg_M_readTokens N (F1 + 1 + 1)).2 (sPL w p l) = (gg_M_readTokens N (F1 + 1)).1 (sPL w p l) := by
            rw [e122]
            generalize gg_M_readTokens N (F1 + 1) = G
            unfold fb_M_readTokens_122
            rw [sPL_10, sPL_ne (j := 5) (by decide) (by decide), hk, ek, q_b0, eb 0, q_bn, z1, decide_eq_true h1, q_b1]
            rfl
          rw [e1, bl F1 (Or.inl h1)]
          obtain ⟨⟨F2, a1, a2⟩, -⟩ := ih (p + 1) (if w.2.2.1 4 p = 10 then l + 1 else l) F1 (by omega) (by omega) (by omega)
          exact ⟨F2, by omega, a2⟩
        · rw [if_neg (fun z => by have := z.1; rw [decide_eq_false h1] at this; cases this), decide_eq_false h1, if_neg h1, cmt (F1 + 1) h1]
          obtain ⟨-, F2, a1, a2⟩ := ih (p + 1) l (F1 + 1) (by omega) (by omega) (by omega)
          exact ⟨F2, by omega, a2⟩
