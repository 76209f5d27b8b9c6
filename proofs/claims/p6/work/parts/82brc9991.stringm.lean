set_option maxRecDepth 100000
def stS (w : MS) (f0 b i : Nat) : MS := upI (upA w 18 (put (w.2.2.1 18) (w.2.2.1 4) f0 b i)) 10 (Int32.ofNat (b + i))
def finS (N : Nat) (w : MS) (i : Nat) (t : Int32) : Option (MS × Unit) := fb_M_stringToken_123 N (fun _ _ _ => none) (upI w 10 (w.1 10 + 1)) (Int32.ofNat i) t
theorem by8 {x : Int32} (hx : nrB x = x) : vp_nar .byte ((x &&& 255).toInt8.toInt32) = x := eq_of_beq (sg_all (fun x => vp_nar .byte ((x &&& 255).toInt8.toInt32) == x) (by decide +kernel) hx)
theorem strM_loop {N k s f0 b : Nat} {w : MS} (hk : w.1 5 = Int32.ofNat k) (hk4 : k ≤ 4000) (hB : bytB (w.2.2.1 4)) (hs : w.1 20 = Int32.ofNat s) (hs2 : s < 2002) (hf : w.2.2.1 19 s = Int32.ofNat f0) (hf2 : f0 ≤ b) (hb : b ≤ 4001) : ∀ (m i F : Nat), i + m = 41 → i ≤ 40 → ∃ j, j ≤ 40 ∧ gg_M_stringToken N (F + m + 2) (stS w f0 b i) (Int32.ofNat i) 1 = finS N (stS w f0 b j) j (if (sts (w.2.2.1 4) k m (b + i) i).isSome = true then 5 else 7) ∧ ∀ len, sts (w.2.2.1 4) k m (b + i) i = some len → len = j := by
  intro m
  induction m with
  | zero =>
    intro i F hi h4
    omega
  | succ m ih =>
    intro i F hi h4
    have eb := atM (N := N) (w := stS w f0 b i) (k := k) (p := b + i) hk hk4 (by omega)
    have eb : fm_M_byteAt N (stS w f0 b i) (Int32.ofNat (b + i)) = some (stS w f0 b i, sgA (w.2.2.1 4) k (b + i)) := eb
    have hd : ∀ v2, gg_M_stringToken N (F + (m + 1) + 2) (stS w f0 b i) (Int32.ofNat i) v2 = fb_M_stringToken_14 N (gg_M_stringToken N (F + m + 2)) (stS w f0 b i) (Int32.ofNat i) v2 := fun v2 => rfl
    have h102 : ∀ G, fb_M_stringToken_102 N G (stS w f0 b i) (Int32.ofNat i) 1 = finS N (stS w f0 b i) i 5 := fun G => rfl
    have h102z : ∀ G, fb_M_stringToken_102 N G (stS w f0 b i) (Int32.ofNat i) 0 = finS N (stS w f0 b i) i 7 := fun G => rfl
    have h62 : fb_M_stringToken_62 N (gg_M_stringToken N (F + m + 2)) (stS w f0 b i) (Int32.ofNat i) (sgA (w.2.2.1 4) k (b + i)) = finS N (stS w f0 b i) i 7 := by
      show gg_M_stringToken N (F + m + 1 + 1) (stS w f0 b i) (Int32.ofNat i) 0 = _
      show fb_M_stringToken_14 N (gg_M_stringToken N (F + m + 1)) (stS w f0 b i) (Int32.ofNat i) 0 = _
      generalize gg_M_stringToken N (F + m + 1) = G
      unfold fb_M_stringToken_14
      rw [show decide ((0 : Int32) = 0) = true from rfl, q_b1]
      exact h102z G
    rw [hd]
    unfold fb_M_stringToken_14
    rw [show decide ((1 : Int32) = 0) = false from rfl, q_b0, show (stS w f0 b i).1 10 = Int32.ofNat (b + i) from rfl, eb, q_bn, h102]
    by_cases h1 : sgA (w.2.2.1 4) k (b + i) = 34
    · have e0 : sts (w.2.2.1 4) k (m + 1) (b + i) i = some i := if_pos h1
      rw [e0, decide_eq_true h1, q_b1]
      exact ⟨i, by omega, rfl, fun len h => by cases h; rfl⟩
    · rw [decide_eq_false h1, q_b0]
      show ∃ j, j ≤ 40 ∧ bnd (fm_M_byteAt N (stS w f0 b i) (Int32.ofNat (b + i))) _ = _ ∧ _
      rw [eb, q_bn, h62]
      by_cases h2 : sgA (w.2.2.1 4) k (b + i) < 32
      · have e0 : sts (w.2.2.1 4) k (m + 1) (b + i) i = none := by
          show (if _ then _ else if _ then _ else _) = _
          rw [if_neg h1, if_pos (Or.inl h2)]
        rw [e0, decide_eq_true h2, q_b1]
        exact ⟨i, by omega, rfl, fun len h => by cases h⟩
      · rw [decide_eq_false h2, q_b0]
        by_cases h3 : 126 < sgA (w.2.2.1 4) k (b + i)
        · have e0 : sts (w.2.2.1 4) k (m + 1) (b + i) i = none := by
            show (if _ then _ else if _ then _ else _) = _
            rw [if_neg h1, if_pos (Or.inr h3)]
          rw [e0, decide_eq_true h3, q_b1]
          exact ⟨i, by omega, rfl, fun len h => by cases h⟩
        · have e0 : sts (w.2.2.1 4) k (m + 1) (b + i) i = sts (w.2.2.1 4) k m (b + i + 1) (i + 1) := by
            show (if _ then _ else if _ then _ else _) = _
            rw [if_neg h1, if_neg (fun z => by rcases z with z | z; exact h2 z; exact h3 z)]
          rw [e0, decide_eq_false h3, q_b0]
          by_cases h40 : 40 ≤ i
          · have em : m = 0 := by omega
            subst em
            rw [show decide ((40 : Int32) ≤ Int32.ofNat i) = true from decide_eq_true ((q_le (a := 40) (b := i) (by decide) (by omega)).mpr h40), q_b1]
            exact ⟨i, by omega, rfl, fun len h => by cases h⟩
          · rw [show decide ((40 : Int32) ≤ Int32.ofNat i) = false from decide_eq_false (fun z => h40 ((q_le (a := 40) (b := i) (by decide) (by omega)).mp z)), q_b0]
            have hpk : b + i < k := by
              refine Nat.lt_of_not_le (fun z => h2 ?_)
              unfold sgA
              rw [if_neg (by omega)]
              decide
            have es : sgA (w.2.2.1 4) k (b + i) = w.2.2.1 4 (b + i) &&& 255 := by unfold sgA; rw [if_pos hpk]
            obtain ⟨j, j1, j2, j3⟩ := ih (i + 1) F (by omega) (by omega)
            refine ⟨j, j1, ?_, j3⟩
            rw [show b + (i + 1) = b + i + 1 from by omega] at j2
            rw [← j2, es]
            generalize gg_M_stringToken N (F + m + 2) = G
            have e19 : (stS w f0 b i).2.2.1 19 ((stS w f0 b i).1 20).toNatClampNeg = Int32.ofNat f0 := by
              show w.2.2.1 19 (w.1 20).toNatClampNeg = _
              rw [hs, q_nat (by omega), hf]
            have e18 : (stS w f0 b i).2.2.1 18 = put (w.2.2.1 18) (w.2.2.1 4) f0 b i := upA_self (u := w) (k := 18)
            unfold fb_M_stringToken_63 fb_M_stringToken_99
            rw [show decide ((1 : Int32) = 0) = false from rfl, q_b0, show (stS w f0 b i).1 20 = Int32.ofNat s from hs, q_ck (q_inb (by show s < 2002; omega) (by decide)), q_nat (k := s) (by omega), show (stS w f0 b i).2.2.1 19 s = Int32.ofNat f0 from hf, q_add, q_ck (q_inb (by show f0 + i < 4002; omega) (by decide)), q_nat (k := f0 + i) (by omega), e18, by8 (hB _ (by omega)), put_s, q_ls, q_ls, q_suc]
            congr 1
            unfold stS
            show upI (upA (upI (upA w 18 _) 10 _) 18 _) 10 (Int32.ofNat (b + i) + 1) = _
            rw [q_suc]
            unfold upI upA
            congr 1
            · funext q
              by_cases hq : q = 10
              · simp [hq, show b + (i + 1) = b + i + 1 from by omega]
              · simp [hq]
            · congr 2
              funext q
              by_cases hq : q = 18 <;> simp [hq]
